/-! feed, season -/
theorem iv_byte_low (x : Int32) : (x &&& 255).toInt8 = x.toInt8 := by
  apply Int8.toBitVec_inj.1
  show (x.toBitVec &&& 255#32).signExtend 8 = x.toBitVec.signExtend 8
  apply BitVec.eq_of_getLsbD_eq
  intro i hi
  rw [BitVec.getLsbD_signExtend, BitVec.getLsbD_signExtend]
  simp only [hi, decide_true, Bool.true_and, show i < 32 by omega, if_true, BitVec.getLsbD_and]
  have : (255#32).getLsbD i = true := by
    have h8 : i = 0 ∨ i = 1 ∨ i = 2 ∨ i = 3 ∨ i = 4 ∨ i = 5 ∨ i = 6 ∨ i = 7 := by omega
    rcases h8 with rfl | rfl | rfl | rfl | rfl | rfl | rfl | rfl <;> decide
  rw [this, Bool.and_true]
/-- the tape with t bytes -/
def iv_tp (σ τ : ix_St) (t : Nat) : Prop := σ 100 1 = nI t ∧ τ 135 13 = nI t ∧ ∀ i, i < t → ∃ c : Nat, c < 256 ∧ τ 143 i = nI c ∧ σ 101 i = (nI c).toInt8.toInt32
/-- only the tape has changed -/
def iv_tf (σ σ' τ τ' : ix_St) : Prop := (∀ c, c ≠ 100 → c ≠ 101 → σ' c = σ c) ∧ (∀ i, i ≠ 1 → σ' 100 i = σ 100 i) ∧ (∀ c, c ≠ 135 → c ≠ 143 → τ' c = τ c) ∧ ∀ i, i ≠ 13 → τ' 135 i = τ 135 i
theorem iv_tf.rf {σ τ : ix_St} : iv_tf σ σ τ τ := ⟨fun _ _ _ => rfl, fun _ _ => rfl, fun _ _ _ => rfl, fun _ _ => rfl⟩
theorem iv_tf.tr {σ σ1 σ2 τ τ1 τ2 : ix_St} (h : iv_tf σ σ1 τ τ1) (h2 : iv_tf σ1 σ2 τ1 τ2) : iv_tf σ σ2 τ τ2 :=
  ⟨fun c h3 h4 => (h2.1 c h3 h4).trans (h.1 c h3 h4), fun i hi => (h2.2.1 i hi).trans (h.2.1 i hi), fun c h3 h4 => (h2.2.2.1 c h3 h4).trans (h.2.2.1 c h3 h4), fun i hi => (h2.2.2.2 i hi).trans (h.2.2.2 i hi)⟩
theorem f_put1 (b c : Bool) (v z : Int32) (hz : ¬ z < 0) {σ τ : ix_St} {t : Nat} (ht : t < 400) (h : iv_tp σ τ t) : ∃ σ' τ', ix_S 134 1 3 [some (.ref 100), some (.int v), some (.int z)] [] (ix_S0 b, σ) = ix_S 134 1 3 [some (.ref 100), some (.int v), some (.int (z - 8))] [] (ix_S0 b, σ') ∧
    ix_S 198 1 3 [some (.ref 135), some (.int v), some (.int z)] [] (ix_S0 c, τ) = ix_S 198 1 3 [some (.ref 135), some (.int v), some (.int (z - 8))] [] (ix_S0 c, τ') ∧ iv_tp σ' τ' (t + 1) ∧ iv_tf σ σ' τ τ' := by
  obtain ⟨h1, h2, h3⟩ := h
  obtain ⟨y, hy, he⟩ := pk_andE (v >>> (z &&& 31)) (m := 255) 8 rfl
  refine ⟨_, _, by rw [q_Tape_put_3, if_neg hz, h1, if_neg (show ¬ (400 : Int32) ≤ nI t from nI_ge (b := 400) (by omega) (by omega)), if_neg (nI_in (by omega) (by omega)), nI_clamp (by omega), nI_1], by rw [q_M_types_3, if_neg hz, h2, if_neg (nI_in (by omega) (by omega)), nI_clamp (by omega), nI_1, he], ⟨rfl, rfl, fun i hi => ?_⟩, fun c h1 h2 => ?_, fun i hi => ?_, fun c h1 h2 => ?_, fun i hi => ?_⟩
  · show ∃ c, c < 256 ∧ upd (τ 143) t (nI y) i = nI c ∧ upd (σ 101) t _ i = _
    by_cases e : i = t
    · subst e
      refine ⟨y, hy, pk_us, ?_⟩
      rw [pk_us, ← he, iv_byte_low, Int8.toInt8_toInt32]
    · rw [pk_un e, pk_un e]
      exact h3 i (by omega)
  · rw [iv_upn h1, iv_upn h2]
  · show upd (σ 100) 1 _ i = _
    rw [pk_un hi]
  · rw [iv_upn h1, iv_upn h2]
  · show upd (τ 135) 13 _ i = _
    rw [pk_un hi]
theorem f_put (b c : Bool) (v : Int32) {σ τ : ix_St} {t : Nat} (ht : t + 4 ≤ 400) (h : iv_tp σ τ t) : ∃ σ' τ', ix_F 134 [.ref 100, .int v] (ix_S0 b, σ) = some (.null, (ix_S0 b, σ')) ∧ ix_F 198 [.ref 135, .int v] (ix_S0 c, τ) = some (.null, (ix_S0 c, τ')) ∧ iv_tp σ' τ' (t + 4) ∧ iv_tf σ σ' τ τ' := by
  obtain ⟨σ1, τ1, a1, b1, t1, f1⟩ := f_put1 b c v 24 (by decide) (by omega) h
  obtain ⟨σ2, τ2, a2, b2, t2, f2⟩ := f_put1 b c v (24 - 8) (by decide) (by omega) t1
  obtain ⟨σ3, τ3, a3, b3, t3, f3⟩ := f_put1 b c v (24 - 8 - 8) (by decide) (by omega) t2
  obtain ⟨σ4, τ4, a4, b4, t4, f4⟩ := f_put1 b c v (24 - 8 - 8 - 8) (by decide) (by omega) t3
  refine ⟨σ4, τ4, ?_, ?_, t4, f1.tr (f2.tr (f3.tr f4))⟩
  · rw [q_Tape_put_0, a1, a2, a3, a4, q_Tape_put_3, if_pos (by decide)]
  · rw [q_M_types_0, b1, b2, b3, b4, q_M_types_3, if_pos (by decide)]
/-- the reference's first number tells nothing -/
theorem iv_R_told {k : Nat} {σ τ : ix_St} {v : Int32} (hR : iv_R k σ τ) : iv_R k σ (ix_up τ 135 0 v) := by
  obtain ⟨n, o, hn, hw, hp, ht, hoth, himg⟩ := hR
  exact ⟨n, o, hn, hw, iv_past_cong (fun _ _ _ => rfl) rfl rfl rfl rfl rfl rfl hp, ht, hoth, himg⟩
theorem iv_past_cg {σ σ' τ τ' : ix_St} {M n : Nat} (h : iv_past σ τ M n) (hs : ∀ c, 55 ≤ c → c < 100 → σ' c = σ c) (h3 : τ' 135 3 = τ 135 3) (h6 : τ' 135 6 = τ 135 6) (h37 : τ' 137 = τ 137) (h39 : τ' 139 = τ 139) (h40 : τ' 140 = τ 140) (h41 : τ' 141 = τ 141) : iv_past σ' τ' M n := iv_past_cong hs h3 h6 h37 h39 h40 h41 h
/-- what holds, the tape apart -/
theorem iv_R_tape {k : Nat} {σ σ' τ τ' : ix_St} (hR : iv_R k σ τ) (hf : iv_tf σ σ' τ τ') {t : Nat} (ht : t ≤ 400) (h : iv_tp σ' τ' t) : iv_R (k + 1) σ' τ' := by
  have hR2 : iv_R (k + 1) (fun c => if c = 100 then σ 100 else if c = 101 then σ 101 else σ' c) (fun c => if c = 135 then upd (τ' 135) 13 (τ 135 13) else if c = 143 then τ 143 else τ' c) := by
    refine iv_R_keep (fun c h1 h2 => ?_) ⟨fun c h1 h2 h3 => ?_, fun i hi => ?_⟩ hR
    · show (if c = 100 then _ else _) = _
      by_cases e : c = 100
      · rw [if_pos e, e]
      · rw [if_neg e]
        by_cases e2 : c = 101
        · rw [if_pos e2, e2]
        · rw [if_neg e2, hf.1 c e e2]
    · show (if c = 135 then _ else _) = _
      rw [if_neg (by omega)]
      by_cases e2 : c = 143
      · rw [if_pos e2, e2]
      · rw [if_neg e2, hf.2.2.1 c (by omega) e2]
    · show upd (τ' 135) 13 (τ 135 13) i = _
      by_cases e : i = 13
      · rw [e, pk_us]
      · rw [pk_un e, hf.2.2.2 i e]
  obtain ⟨n, o, hn, hw, hp, -, hoth, himg⟩ := hR2
  refine ⟨n, o, hn, hw, iv_past_cg hp (fun c h1 h2 => ?_) rfl rfl rfl rfl rfl rfl, ⟨t, ht, h.1, h.2.1, h.2.2⟩, hoth, himg⟩
  show _ = if c = 100 then _ else _
  rw [if_neg (by omega), if_neg (by omega)]
theorem s_feed (E : ix_St) (v1 v2 v3 v4 v5 : Int32) : iv_S E 8 163 [.int v1, .int v2, .int v3, .int v4, .int v5] := by
  intro k b c σ τ hk hE hR
  have hK := iv_R_keep iv_kX.rf (iv_kM_told τ 0) hR
  have hR0 := hR
  obtain ⟨n, o, -, -, -, ⟨t, ht, t1, t2, t3⟩, -⟩ := hR0
  rw [q_X_feed_0, q_M_feed_0, q_Tape_hasRoom_0, t1, t2, show (20 : Int32) = nI 20 from rfl, nI_add]
  by_cases h : t ≤ 380
  · rw [if_neg (show ¬ (400 : Int32) < nI (t + 20) from nI_nlt (a := 400) (by omega) (by omega)), if_pos (show nI t ≤ 380 from nI_le (b := 380) h (by omega))]
    simp only [Option.bind_some, iv_tI, iv_10, if_false]
    have h0 : iv_tp σ (ix_up τ 135 0 0) t := ⟨t1, t2, t3⟩
    obtain ⟨σ1, τ1, a1, b1, p1, f1⟩ := f_put b c v1 (by omega) h0
    obtain ⟨σ2, τ2, a2, b2, p2, f2⟩ := f_put b c v2 (by omega) p1
    obtain ⟨σ3, τ3, a3, b3, p3, f3⟩ := f_put b c v3 (by omega) p2
    obtain ⟨σ4, τ4, a4, b4, p4, f4⟩ := f_put b c v4 (by omega) p3
    obtain ⟨σ5, τ5, a5, b5, p5, f5⟩ := f_put b c v5 (by omega) p4
    simp only [a1, b1, Option.bind_some]
    simp only [a2, b2, Option.bind_some]
    simp only [a3, b3, Option.bind_some]
    simp only [a4, b4, Option.bind_some]
    simp only [a5, b5, Option.bind_some]
    refine ⟨_, b, _, _, rfl, by rw [p5.1, p5.2.1], ?_⟩
    have hR' : iv_R k σ (ix_up τ 135 0 0) := iv_R_told hR
    exact iv_R_tape hR' (f1.tr (f2.tr (f3.tr (f4.tr f5)))) (by omega) p5
  · rw [if_pos (show (400 : Int32) < nI (t + 20) from nI_lt (a := 400) (by omega) (by omega)), if_neg (show ¬ nI t ≤ 380 from nI_ge (a := 380) (by omega) (by omega))]
    simp only [Option.bind_some, iv_tI, if_true]
    exact ⟨_, b, _, _, rfl, rfl, hK⟩
/-- the reference's answer to where a land's first season stands -/
def iv_so (r : Option Nat) : Int32 := match r with
  | some k => nI (3 * k)
  | none => -1
theorem f_seasonOf_aux (b : Bool) {τ : ix_St} {m : Nat} (hm : m ≤ 16) (h39 : τ 135 39 = nI m) (land : Int32) (r : Option Nat) (hr : iv_fst (τ 155) m land r) : ∀ d j, j + d = m → (∀ k, r = some k → j ≤ k) → ix_S 205 1 2 [some (.ref 135), some (.int land), some (.int (nI j))] [] (ix_S0 b, τ) = some (.int (iv_so r), (ix_S0 b, τ)) := by
  intro d
  induction d with
  | zero =>
    intro j hj hjr
    have : j = m := by omega
    subst this
    rw [q_M_seasonOf_2, h39, if_pos (nI_le (Nat.le_refl _) (by omega))]
    cases r with
    | none => rfl
    | some k =>
      have h1 := hjr k rfl
      have h2 := hr.1
      omega
  | succ d ih =>
    intro j hj hjr
    rw [q_M_seasonOf_2, h39, if_neg (nI_ge (by omega) (by omega)), show (3 : Int32) = nI 3 from rfl, pk_mul, if_neg (nI_in (by omega) (by omega)), nI_clamp (by omega)]
    cases r with
    | none =>
      rw [if_neg (hr j (by omega)), nI_1]
      exact ih (j + 1) (by omega) (fun k h => by cases h)
    | some k =>
      have h1 := hjr k rfl
      by_cases e : j = k
      · subst e
        rw [if_pos hr.2.1]
        rfl
      · rw [if_neg (hr.2.2 j (by omega)), nI_1]
        exact ih (j + 1) (by omega) (fun k' h => by cases h; omega)
theorem f_seasonOf (b : Bool) {τ : ix_St} {m : Nat} (hm : m ≤ 16) (h39 : τ 135 39 = nI m) (land : Int32) (r : Option Nat) (hr : iv_fst (τ 155) m land r) : ix_F 205 [.ref 135, .int land] (ix_S0 b, τ) = some (.int (iv_so r), (ix_S0 b, τ)) := by
  rw [q_M_seasonOf_0]
  exact f_seasonOf_aux b hm h39 land r hr m 0 (by omega) (fun k _ => Nat.zero_le k)
theorem iv_01 {v : Int32} (h : 0 ≤ v ∧ v ≤ 1) : v = 0 ∨ v = 1 := by
  obtain ⟨j, hj, rfl⟩ := iv_rng5 (m := 1) (by omega) h
  have : j = 0 ∨ j = 1 := by omega
  rcases this with rfl | rfl
  · exact Or.inl rfl
  · exact Or.inr rfl
theorem s_season (E : ix_St) (v w : Int32) : iv_S E 14 169 [.int v, .int w] := by
  intro k b c σ τ hk hE hR
  have hK := iv_R_keep iv_kX.rf (iv_kM_told τ 0) hR
  obtain ⟨n, o, hn, ⟨-, -, -, -, -, ⟨m, hm, h1, h2, h3⟩, -⟩, -⟩ := hR
  rw [q_X_season_0, q_M_season_0, f_isIn]
  simp only [Option.bind_some, iv_tI, f_isIn]
  by_cases h : 0 ≤ v ∧ v ≤ 5
  · obtain ⟨l, hl, rfl⟩ := iv_rng5 (m := 5) (by omega) h
    obtain ⟨r, hr, hb⟩ := h3 l (by omega)
    have hS : ix_F 205 [.ref 135, .int (nI l)] (ix_S0 c, ix_up τ 135 0 0) = some (.int (iv_so r), (ix_S0 c, ix_up τ 135 0 0)) := f_seasonOf (τ := ix_up τ 135 0 0) c hm h1 (nI l) r hr
    have i0 : ¬ nI l < 0 := nI_pos (by omega)
    have i6 : ¬ (6 : Int32) ≤ nI l := nI_ge (b := 6) (by omega) (by omega)
    have i7 : ¬ (nI l < 0 ∨ 6 ≤ l) := iv_ni (by omega) (by omega)
    have i8 := nI_clamp (n := l) (by omega)
    have i9 : ¬ 6 ≤ l := by omega
    cases r with
    | none =>
      have hb : σ 23 l = 0 := hb
      simp (decide := true) only [h, i0, i6, i7, i8, i9, or_self, hb, hS, iv_so, iv_B0, if_true, if_false, Option.bind_some, iv_tI, and_self, not_true_eq_false]
      by_cases h2 : 0 ≤ w ∧ w ≤ 1
      · simp (decide := true) only [h2, if_true, if_false, and_self, not_true_eq_false]
        exact ⟨_, b, _, _, rfl, rfl, hK⟩
      · simp (decide := true) only [h2, if_true, if_false, not_false_eq_true]
        exact ⟨_, b, _, _, rfl, rfl, hK⟩
    | some z =>
      obtain ⟨hb1, hb2⟩ := hb
      have hz := hr.1
      obtain ⟨-, ⟨a, a1, a2, a3⟩, -⟩ := h2 z hz
      have hb1 : σ 23 l = τ 155 (3 * z + 1) := hb1
      have hb2 : σ 24 l = τ 155 (3 * z + 2) := hb2
      have a3 : τ 155 (3 * z + 1) = nI a := a3
      have j0 : ¬ σ 23 l = 0 := by rw [hb1, a3]; exact nI_ne0 (by omega) (by omega)
      have j1 : ¬ nI (3 * z) = -1 := iv_m1 (by omega)
      simp (decide := true) only [h, i0, i6, i7, i8, i9, or_self, j0, j1, hS, iv_so, iv_B0, if_true, if_false, Option.bind_some, iv_tI, and_self, not_true_eq_false]
      by_cases h2 : 0 ≤ w ∧ w ≤ 1
      · rcases iv_01 h2 with rfl | rfl
        · have e1 : nI (3 * z) + 1 + 0 = nI (3 * z + 1) := by rw [nI_1, show (0 : Int32) = nI 0 from rfl, nI_add]
          simp (decide := true) only [e1, nI_clamp (n := 3 * z + 1) (by omega), iv_ni (x := 3 * z + 1) (N := 96) (by omega) (by omega), if_true, if_false, and_self, not_true_eq_false]
          exact ⟨σ 23 l, b, _, _, rfl, by rw [hb1]; rfl, hK⟩
        · have e1 : nI (3 * z) + 1 + 1 = nI (3 * z + 2) := by rw [nI_1, nI_1]
          simp (decide := true) only [e1, nI_clamp (n := 3 * z + 2) (by omega), iv_ni (x := 3 * z + 2) (N := 96) (by omega) (by omega), if_true, if_false, and_self, not_true_eq_false]
          exact ⟨σ 24 l, b, _, _, rfl, by rw [hb2]; rfl, hK⟩
      · have g0 : ¬ w = 0 := fun e => h2 (by subst e; decide)
        have g1 : ¬ w = 1 := fun e => h2 (by subst e; decide)
        simp (decide := true) only [h2, g0, g1, if_true, if_false, not_false_eq_true]
        exact ⟨_, b, _, _, rfl, rfl, hK⟩
  · have hB : iv_B (0 ≤ v ∧ v ≤ 5) = 0 := iv_B0.mpr h
    rw [if_pos hB]
    by_cases h0 : v < 0
    · rw [if_pos h0]
      exact ⟨_, b, _, _, rfl, rfl, hK⟩
    · have h6 : 6 ≤ v := iv_nlt.mp (fun h2 => h ⟨iv_nlt.mp h0, iv_6.mp h2⟩)
      rw [if_neg h0, if_pos h6]
      exact ⟨_, b, _, _, rfl, rfl, hK⟩
