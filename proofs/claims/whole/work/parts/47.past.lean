/-! the latest acts: kept and undone -/
theorem iv_cpn {σ : ix_St} {p q c : Nat} (h : c ≠ q) : ix_cp σ p q 0 0 12 c = σ c := by
  show (if c = q then _ else _) = _
  rw [if_neg h]
theorem iv_cps {σ : ix_St} {p q i : Nat} (h : i < 12) : ix_cp σ p q 0 0 12 q i = σ p i := by
  show (if q = q then _ else _ : Nat → Int32) i = _
  rw [if_pos rfl]
  exact sb_cpy0 h
/-- a river as it is behind copying another -/
def iv_c8 (σ : ix_St) (p q : Nat) : ix_St := ix_up (ix_up (ix_up (ix_up (ix_up (ix_up (ix_up (ix_up σ q 0 (σ p 0)) q 1 (σ p 1)) q 2 (σ p 2)) q 3 (σ p 3)) q 4 (σ p 4)) q 5 (σ p 5)) q 6 (σ p 6)) q 7 (σ p 7)
def iv_cpr (σ : ix_St) (p q : Nat) : ix_St := ix_cp (ix_cp (ix_cp (ix_cp (ix_cp (ix_cp (iv_c8 σ p q) (p + 1) (q + 1) 0 0 12) (p + 2) (q + 2) 0 0 12) (p + 3) (q + 3) 0 0 12) (p + 4) (q + 4) 0 0 12) (p + 5) (q + 5) 0 0 12) (p + 6) (q + 6) 0 0 12
theorem iv_c8n {σ : ix_St} {p q c : Nat} (h : c ≠ q) : iv_c8 σ p q c = σ c := by
  unfold iv_c8
  rw [iv_upn h, iv_upn h, iv_upn h, iv_upn h, iv_upn h, iv_upn h, iv_upn h, iv_upn h]
theorem iv_c8s {σ : ix_St} {p q i : Nat} (h : i < 8) : iv_c8 σ p q q i = σ p i := by
  have h8 : i = 0 ∨ i = 1 ∨ i = 2 ∨ i = 3 ∨ i = 4 ∨ i = 5 ∨ i = 6 ∨ i = 7 := by omega
  unfold iv_c8 ix_up ix_row
  rcases h8 with rfl | rfl | rfl | rfl | rfl | rfl | rfl | rfl <;> simp [upd]
theorem iv_cpr_out {σ : ix_St} {p q c : Nat} (h : c < q ∨ q + 7 ≤ c) : iv_cpr σ p q c = σ c := by
  unfold iv_cpr
  rw [iv_cpn (by omega), iv_cpn (by omega), iv_cpn (by omega), iv_cpn (by omega), iv_cpn (by omega), iv_cpn (by omega), iv_c8n (by omega)]
theorem iv_cpr_0 {σ : ix_St} {p q i : Nat} (hi : i < 8) : iv_cpr σ p q q i = σ p i := by
  unfold iv_cpr
  rw [iv_cpn (by omega), iv_cpn (by omega), iv_cpn (by omega), iv_cpn (by omega), iv_cpn (by omega), iv_cpn (by omega), iv_c8s hi]
theorem iv_cpr_row {σ : ix_St} {p q : Nat} (h : p + 7 ≤ q ∨ q + 7 ≤ p) : ∀ i, i < 12 → iv_cpr σ p q (q + 1) i = σ (p + 1) i ∧ iv_cpr σ p q (q + 2) i = σ (p + 2) i ∧ iv_cpr σ p q (q + 3) i = σ (p + 3) i ∧ iv_cpr σ p q (q + 4) i = σ (p + 4) i ∧ iv_cpr σ p q (q + 5) i = σ (p + 5) i ∧ iv_cpr σ p q (q + 6) i = σ (p + 6) i := by
  intro i hi
  unfold iv_cpr
  refine ⟨?_, ?_, ?_, ?_, ?_, ?_⟩
  · rw [iv_cpn (by omega), iv_cpn (by omega), iv_cpn (by omega), iv_cpn (by omega), iv_cpn (by omega), iv_cps hi, iv_c8n (by omega)]
  · rw [iv_cpn (by omega), iv_cpn (by omega), iv_cpn (by omega), iv_cpn (by omega), iv_cps hi, iv_cpn (by omega), iv_c8n (by omega)]
  · rw [iv_cpn (by omega), iv_cpn (by omega), iv_cpn (by omega), iv_cps hi, iv_cpn (by omega), iv_cpn (by omega), iv_c8n (by omega)]
  · rw [iv_cpn (by omega), iv_cpn (by omega), iv_cps hi, iv_cpn (by omega), iv_cpn (by omega), iv_cpn (by omega), iv_c8n (by omega)]
  · rw [iv_cpn (by omega), iv_cps hi, iv_cpn (by omega), iv_cpn (by omega), iv_cpn (by omega), iv_cpn (by omega), iv_c8n (by omega)]
  · rw [iv_cps hi, iv_cpn (by omega), iv_cpn (by omega), iv_cpn (by omega), iv_cpn (by omega), iv_cpn (by omega), iv_c8n (by omega)]
/-- a river that was copied stands beside the same -/
theorem iv_riv_eq {f f' ra ra' ch ch' ta ta' fi fi' wa wa' tu tu' now now' : Nat → Int32} {st : Int32} {mc mt mf : Nat → Int32} {M n o : Nat} (h : iv_riv f ra ch ta fi wa tu now st mc mt mf M n o) (hn : n ≤ 12) (h0 : ∀ i, i < 8 → f' i = f i) (h1 : ∀ i, i < 12 → ra' i = ra i ∧ ch' i = ch i ∧ ta' i = ta i ∧ fi' i = fi i ∧ wa' i = wa i ∧ tu' i = tu i) (h2 : ∀ i, i < 54 → now' i = now i) : iv_riv f' ra' ch' ta' fi' wa' tu' now' st mc mt mf M n o := by
  obtain ⟨⟨a0, a1, a2, a3, a4, a5, a6, a7⟩, ⟨g1, g2, g3⟩, ⟨g4, g5⟩, g6, g7⟩ := h
  refine ⟨⟨?_, ?_, ?_, ?_, ?_, ?_, ?_, ?_⟩, ⟨?_, ?_, ?_⟩, ⟨g4, fun i hi => ?_⟩, fun i hi => ?_, fun i hi => ?_⟩
  · rw [h0 0 (by omega), h2 1 (by omega)]; exact a0
  · rw [h0 1 (by omega), h2 3 (by omega)]; exact a1
  · rw [h0 2 (by omega), h2 4 (by omega)]; exact a2
  · rw [h0 3 (by omega)]; exact a3
  · rw [h0 4 (by omega), h2 0 (by omega)]; exact a4
  · rw [h0 5 (by omega), h2 5 (by omega)]; exact a5
  · rw [h0 6 (by omega)]; exact a6
  · rw [h0 7 (by omega)]; exact a7
  · rw [h0 1 (by omega)]; exact g1
  · rw [h0 3 (by omega)]; exact g2
  · rw [h0 4 (by omega)]; exact g3
  · rw [h2 _ (by omega)]; exact g5 i hi
  · obtain ⟨e1, e2, e3, e4, e5, e6⟩ := h1 i hi
    rw [e1, e2, e3, e4, e5, e6, h2 _ (by omega), h2 _ (by omega), h2 _ (by omega)]
    exact g6 i hi
  · rw [(h1 i (by omega)).1]; exact g7 i hi
theorem f_cpTo (b : Bool) (σ : ix_St) {s : Nat} (hs : s < 6) : ix_F 127 [.ref (58 + 7 * s), .ref 2] (ix_S0 b, σ) = some (.null, (ix_S0 b, iv_cpr σ 2 (58 + 7 * s))) := by
  have h6 : s = 0 ∨ s = 1 ∨ s = 2 ∨ s = 3 ∨ s = 4 ∨ s = 5 := by omega
  rcases h6 with rfl | rfl | rfl | rfl | rfl | rfl
  · exact q_River_copyFrom_0 b σ
  · exact q_River_copyFrom_0_1 b σ
  · exact q_River_copyFrom_0_2 b σ
  · exact q_River_copyFrom_0_3 b σ
  · exact q_River_copyFrom_0_4 b σ
  · exact q_River_copyFrom_0_5 b σ
theorem f_cpOf (b : Bool) (σ : ix_St) {s : Nat} (hs : s < 6) : ix_F 127 [.ref 2, .ref (58 + 7 * s)] (ix_S0 b, σ) = some (.null, (ix_S0 b, iv_cpr σ (58 + 7 * s) 2)) := by
  have h6 : s = 0 ∨ s = 1 ∨ s = 2 ∨ s = 3 ∨ s = 4 ∨ s = 5 := by omega
  rcases h6 with rfl | rfl | rfl | rfl | rfl | rfl
  · exact q_River_copyFrom_0_7 b σ
  · exact q_River_copyFrom_0_8 b σ
  · exact q_River_copyFrom_0_9 b σ
  · exact q_River_copyFrom_0_10 b σ
  · exact q_River_copyFrom_0_11 b σ
  · exact q_River_copyFrom_0_12 b σ
theorem iv_mod6 {p : Nat} (h : p < 1000) : nI p - nI p / 6 * 6 = nI (p % 6) := pk_rem (d := 6) (by omega) (by omega) (by omega)
/-- what the class does to keep -/
theorem f_keepX (b : Bool) {σ : ix_St} {p q : Nat} (hp : p < 6) (hq : q ≤ 6) (h2 : σ 55 2 = nI p) (h3 : σ 55 3 = nI q) : ix_F 84 [.ref 55, .ref 1] (ix_S0 b, σ) = some (.null, (ix_S0 b, ix_up (ix_up (ix_up (iv_cpr σ 2 (58 + 7 * p)) 57 p (σ 9 1)) 55 2 (nI ((p + 1) % 6))) 55 3 (nI (min (q + 1) 6)))) := by
  have key : ∀ s, s < 6 → s = p → ((ix_F 127 [.ref (58 + 7 * s), .ref 2] (ix_S0 b, σ)).bind fun x1 => (if (x1.2.2 55 2) < 0 ∨ 6 ≤ (x1.2.2 55 2).toNatClampNeg then none else ((ix_F 285 [.int ((x1.2.2 55 3) + (1 : Int32)), .int (6 : Int32)] (ix_S0 b, (ix_up (ix_up x1.2.2 57 (x1.2.2 55 2).toNatClampNeg (x1.2.2 9 1)) 55 2 (((x1.2.2 55 2) + (1 : Int32)) - ((x1.2.2 55 2) + (1 : Int32)) / (6 : Int32) * (6 : Int32))))).bind fun x2 => some (Value.null, (ix_S0 b, (ix_up x2.2.2 55 3 (ix_toI x2.1))))))) = some (.null, (ix_S0 b, ix_up (ix_up (ix_up (iv_cpr σ 2 (58 + 7 * p)) 57 p (σ 9 1)) 55 2 (nI ((p + 1) % 6))) 55 3 (nI (min (q + 1) 6)))) := by
    intro s hs e
    subst e
    rw [f_cpTo b σ hs]
    simp only [Option.bind_some, iv_tI]
    have e1 : iv_cpr σ 2 (58 + 7 * s) 55 = σ 55 := iv_cpr_out (by omega)
    have e2 : iv_cpr σ 2 (58 + 7 * s) 9 = σ 9 := iv_cpr_out (by omega)
    rw [e1, e2, h2, h3, if_neg (nI_in (by omega) (by omega)), nI_clamp (by omega), nI_1, nI_1, iv_mod6 (by omega), q_Math_min_0]
    by_cases h6 : q + 1 ≤ 6
    · rw [if_neg (show ¬ (6 : Int32) < nI (q + 1) from nI_nlt (a := 6) (by omega) (by omega)), Nat.min_eq_left h6]
      simp only [Option.bind_some, iv_tI]
    · rw [if_pos (show (6 : Int32) < nI (q + 1) from nI_lt (a := 6) (by omega) (by omega)), Nat.min_eq_right (by omega)]
      simp only [Option.bind_some, iv_tI]
      rfl
  rw [q_Past_keep_0, h2, if_neg (nI_in (by omega) (by omega)), nI_clamp (by omega)]
  have h6 : p = 0 ∨ p = 1 ∨ p = 2 ∨ p = 3 ∨ p = 4 ∨ p = 5 := by omega
  rcases h6 with h | h | h | h | h | h
  · rw [if_pos h]; exact key 0 (by omega) h.symm
  · rw [if_neg (by omega), if_pos h]; exact key 1 (by omega) h.symm
  · rw [if_neg (by omega), if_neg (by omega), if_pos h]; exact key 2 (by omega) h.symm
  · rw [if_neg (by omega), if_neg (by omega), if_neg (by omega), if_pos h]; exact key 3 (by omega) h.symm
  · rw [if_neg (by omega), if_neg (by omega), if_neg (by omega), if_neg (by omega), if_pos h]; exact key 4 (by omega) h.symm
  · rw [if_neg (by omega), if_neg (by omega), if_neg (by omega), if_neg (by omega), if_neg (by omega), if_pos h]; exact key 5 (by omega) h.symm
theorem f_kshift (b : Bool) : ∀ m i σ, i + m = 270 → σ 135 3 = nI 5 → ∃ σ', ix_S 192 1 21 [some (.ref 135), some (.int (nI i))] [] (ix_S0 b, σ) = ix_S 192 1 55 [some (.ref 135), some (.int 0)] [] (ix_S0 b, σ') ∧ (∀ c, c ≠ 137 → σ' c = σ c) ∧ ∀ j, σ' 137 j = if i ≤ j ∧ j < 270 then σ 137 (j + 54) else σ 137 j := by
  intro m
  induction m with
  | zero =>
    intro i σ hi h5
    refine ⟨σ, ?_, fun _ _ => rfl, fun j => ?_⟩
    · rw [q_M_keepsAhead_21, h5, show (54 : Int32) * nI 5 = nI 270 from rfl, if_pos (nI_le (by omega) (by omega))]
    · rw [if_neg (by omega)]
  | succ m ih =>
    intro i σ hi h5
    obtain ⟨σ', e, f, g⟩ := ih (i + 1) (ix_up σ 137 i (σ 137 (i + 54))) (by omega) h5
    refine ⟨σ', ?_, fun c hc => ?_, fun j => ?_⟩
    · rw [q_M_keepsAhead_21, h5, show (54 : Int32) * nI 5 = nI 270 from rfl, if_neg (nI_ge (by omega) (by omega)), show (54 : Int32) = nI 54 from rfl, nI_add, if_neg (nI_in (by omega) (by omega)), if_neg (nI_in (by omega) (by omega)), nI_clamp (by omega), nI_clamp (by omega), nI_1]
      exact e
    · rw [f c hc, iv_upn hc]
    · rw [g j]
      show (if _ then upd (σ 137) i _ (j + 54) else upd (σ 137) i _ j) = _
      by_cases h1 : i + 1 ≤ j ∧ j < 270
      · rw [if_pos h1, if_pos (by omega), pk_un (by omega)]
      · rw [if_neg h1]
        by_cases h2 : j = i
        · subst h2
          rw [pk_us, if_pos (by omega)]
        · rw [pk_un h2, if_neg (by omega)]
theorem f_kcopy (b : Bool) {q : Nat} (hq : q ≤ 5) : ∀ m i σ, i + m = 54 → σ 135 3 = nI q → ∃ σ', ix_S 192 1 55 [some (.ref 135), some (.int (nI i))] [] (ix_S0 b, σ) = some (.null, (ix_S0 b, σ')) ∧ (∀ c, c ≠ 137 → c ≠ 135 → σ' c = σ c) ∧ σ' 135 = upd (σ 135) 3 (nI (q + 1)) ∧ ∀ j, σ' 137 j = if 54 * q + i ≤ j ∧ j < 54 * q + 54 then σ 136 (j - 54 * q) else σ 137 j := by
  intro m
  induction m with
  | zero =>
    intro i σ hi h5
    refine ⟨_, by rw [q_M_keepsAhead_55, if_pos (show (54 : Int32) ≤ nI i from nI_le (a := 54) (by omega) (by omega)), h5, nI_1], fun c h1 h2 => iv_upn h2, rfl, fun j => ?_⟩
    show σ 137 j = _
    rw [if_neg (by omega)]
  | succ m ih =>
    intro i σ hi h5
    obtain ⟨σ', e, f, g, h⟩ := ih (i + 1) (ix_up σ 137 (54 * q + i) (σ 136 i)) (by omega) h5
    refine ⟨σ', ?_, fun c h1 h2 => ?_, g, fun j => ?_⟩
    · rw [q_M_keepsAhead_55, if_neg (show ¬ (54 : Int32) ≤ nI i from nI_ge (b := 54) (by omega) (by omega)), h5, show (54 : Int32) = nI 54 from rfl, pk_mul, nI_add, if_neg (nI_in (by omega) (by omega)), if_neg (nI_in (by omega) (by omega)), nI_clamp (by omega), nI_clamp (by omega), nI_1]
      exact e
    · rw [f c h1 h2, iv_upn h1]
    · rw [h j]
      show (if _ then σ 136 _ else upd (σ 137) (54 * q + i) (σ 136 i) j) = _
      by_cases h1 : 54 * q + (i + 1) ≤ j ∧ j < 54 * q + 54
      · rw [if_pos h1, if_pos (by omega)]
      · rw [if_neg h1]
        by_cases h2 : j = 54 * q + i
        · subst h2
          rw [pk_us, if_pos (by omega), Nat.add_sub_cancel_left]
        · rw [pk_un h2, if_neg (by omega)]
/-- both keep what is: one act more can be undone -/
theorem f_keep (b c : Bool) {σ τ : ix_St} {M n o : Nat} (hn : n ≤ 12) (hw : iv_wor σ (iv_mv τ) M n o) (hp : iv_past σ τ M n) : ∃ σ' τ', ix_F 84 [.ref 55, .ref 1] (ix_S0 b, σ) = some (.null, (ix_S0 b, σ')) ∧ ix_F 192 [.ref 135] (ix_S0 c, τ) = some (.null, (ix_S0 c, τ')) ∧ iv_past σ' τ' M n ∧ (∀ z, z < 55 ∨ 100 ≤ z → σ' z = σ z) ∧ (∀ z, z ≠ 135 → z ≠ 137 → τ' z = τ z) ∧ ∀ i, i ≠ 3 → τ' 135 i = τ 135 i := by
  obtain ⟨p, q, h1, h2, h3, h4, h5, h6⟩ := hp
  obtain ⟨hriv, ⟨⟨-, t, ht, hb2, hb3⟩, -⟩, -⟩ := hw
  have hX := f_keepX b h1 h2 h3 h4
  -- the new row of the class
  have new : ∀ now', (∀ i, i < 54 → now' i = τ 136 i) → iv_riv (iv_cpr σ 2 (58 + 7 * p) (58 + 7 * p)) (iv_cpr σ 2 (58 + 7 * p) (59 + 7 * p)) (iv_cpr σ 2 (58 + 7 * p) (60 + 7 * p)) (iv_cpr σ 2 (58 + 7 * p) (61 + 7 * p)) (iv_cpr σ 2 (58 + 7 * p) (62 + 7 * p)) (iv_cpr σ 2 (58 + 7 * p) (63 + 7 * p)) (iv_cpr σ 2 (58 + 7 * p) (64 + 7 * p)) now' (τ 135 6) (τ 139) (τ 140) (τ 141) M n o := by
    intro now' hnow
    refine iv_riv_eq hriv hn (fun i hi => iv_cpr_0 hi) (fun i hi => ?_) hnow
    have := iv_cpr_row (σ := σ) (p := 2) (q := 58 + 7 * p) (by omega) i hi
    rw [show 59 + 7 * p = 58 + 7 * p + 1 by omega, show 60 + 7 * p = 58 + 7 * p + 2 by omega, show 61 + 7 * p = 58 + 7 * p + 3 by omega, show 62 + 7 * p = 58 + 7 * p + 4 by omega, show 63 + 7 * p = 58 + 7 * p + 5 by omega, show 64 + 7 * p = 58 + 7 * p + 6 by omega]
    exact this
  -- the model's rows
  have hM : ∃ τ', ix_F 192 [.ref 135] (ix_S0 c, τ) = some (.null, (ix_S0 c, τ')) ∧ (∀ z, z ≠ 135 → z ≠ 137 → τ' z = τ z) ∧ τ' 135 = upd (τ 135) 3 (nI (min (q + 1) 6)) ∧ ∀ j, τ' 137 j = if 54 * (min (q + 1) 6 - 1) ≤ j ∧ j < 54 * (min (q + 1) 6 - 1) + 54 then τ 136 (j - 54 * (min (q + 1) 6 - 1)) else if q = 6 ∧ j < 270 then τ 137 (j + 54) else τ 137 j := by
    by_cases hq6 : q = 6
    · subst hq6
      obtain ⟨τ1, e1, f1, g1⟩ := f_kshift c 270 0 (ix_up τ 135 3 (nI 5)) (by omega) rfl
      obtain ⟨τ2, e2, f2, g2, k2⟩ := f_kcopy c (q := 5) (by omega) 54 0 τ1 (by omega) (by rw [f1 135 (by omega)]; rfl)
      refine ⟨τ2, ?_, fun z z1 z2 => ?_, ?_, fun j => ?_⟩
      · rw [q_M_keepsAhead_0, h5, if_pos (show nI 6 = 6 from rfl)]
        have e0 : nI 6 - 1 = nI 5 := rfl
        rw [e0]
        exact e1.trans e2
      · rw [f2 z z2 z1, f1 z z2, iv_upn z1]
      · rw [g2, f1 135 (by omega)]
        show upd (upd (τ 135) 3 (nI 5)) 3 _ = _
        funext i
        by_cases hi : i = 3
        · subst hi; rw [pk_us, pk_us]; rfl
        · rw [pk_un hi, pk_un hi, pk_un hi]
      · rw [k2 j, f1 136 (by omega), g1 j]
        rw [show min (6 + 1) 6 - 1 = 5 from rfl, show 54 * 5 + 0 = 54 * 5 from rfl]
        by_cases hj : 54 * 5 ≤ j ∧ j < 54 * 5 + 54
        · rw [if_pos hj, if_pos hj]; rfl
        · rw [if_neg hj, if_neg hj]
          by_cases hj2 : j < 270
          · rw [if_pos ⟨by omega, hj2⟩, if_pos ⟨rfl, hj2⟩]; rfl
          · rw [if_neg (fun h => hj2 h.2), if_neg (fun h => hj2 h.2)]; rfl
    · obtain ⟨τ2, e2, f2, g2, k2⟩ := f_kcopy c (q := q) (by omega) 54 0 τ (by omega) h5
      refine ⟨τ2, ?_, fun z z1 z2 => f2 z z2 z1, ?_, fun j => ?_⟩
      · rw [q_M_keepsAhead_0, h5, if_neg (show ¬ nI q = 6 from fun h => hq6 ((nI_eq (b := 6) (by omega) (by omega)).mp h))]
        exact e2
      · rw [g2, Nat.min_eq_left (by omega)]
      · rw [k2 j, Nat.min_eq_left (by omega), Nat.add_sub_cancel, Nat.add_zero]
        by_cases hj : 54 * q ≤ j ∧ j < 54 * q + 54
        · rw [if_pos hj, if_pos hj]
        · rw [if_neg hj, if_neg hj, if_neg (fun h => hq6 h.1)]
  obtain ⟨τ', eM, fM, gM, kM⟩ := hM
  refine ⟨_, τ', hX, eM, ⟨(p + 1) % 6, min (q + 1) 6, Nat.mod_lt _ (by omega), Nat.min_le_right _ _, rfl, rfl, by rw [gM]; rfl, fun j hj => ?_⟩, fun z hz => ?_, fM, fun i hi => by rw [gM, pk_un hi]⟩
  · -- the rows
    have st : τ' 135 6 = τ 135 6 := by rw [gM]; rfl
    rw [st, fM 139 (by omega) (by omega), fM 140 (by omega) (by omega), fM 141 (by omega) (by omega)]
    have row : ∀ z, 58 ≤ z → z < 100 → ix_up (ix_up (ix_up (iv_cpr σ 2 (58 + 7 * p)) 57 p (σ 9 1)) 55 2 (nI ((p + 1) % 6))) 55 3 (nI (min (q + 1) 6)) z = iv_cpr σ 2 (58 + 7 * p) z := fun z z1 z2 => by rw [iv_upn (by omega), iv_upn (by omega), iv_upn (by omega)]
    have r57 : ix_up (ix_up (ix_up (iv_cpr σ 2 (58 + 7 * p)) 57 p (σ 9 1)) 55 2 (nI ((p + 1) % 6))) 55 3 (nI (min (q + 1) 6)) 57 = upd (σ 57) p (σ 9 1) := by
      rw [iv_upn (by omega), iv_upn (by omega)]
      show upd (iv_cpr σ 2 (58 + 7 * p) 57) p (σ 9 1) = _
      rw [iv_cpr_out (by omega)]
    by_cases hl : j = min (q + 1) 6 - 1
    · -- the newest
      refine ⟨p, o, h1, by omega, ?_, ?_, ?_⟩
      · rw [row _ (by omega) (by omega), row _ (by omega) (by omega), row _ (by omega) (by omega), row _ (by omega) (by omega), row _ (by omega) (by omega), row _ (by omega) (by omega), row _ (by omega) (by omega)]
        refine new _ (fun i hi => ?_)
        rw [kM, ← hl, if_pos (by omega), Nat.add_sub_cancel_left]
      · rw [r57, pk_us, kM, ← hl, if_pos (by omega), Nat.add_sub_cancel_left]
        exact hb2.trans hb3.symm
      · rw [r57, pk_us]
        exact ⟨t, ht, hb2⟩
    · -- an elder one
      have hold : ∃ j0, j0 < q ∧ (p + 6 - q + j0) % 6 = ((p + 1) % 6 + 6 - min (q + 1) 6 + j) % 6 ∧ (p + 6 - q + j0) % 6 ≠ p ∧ ∀ i, i < 54 → τ' 137 (54 * j + i) = τ 137 (54 * j0 + i) := by
        by_cases hq6 : q = 6
        · refine ⟨j + 1, by omega, by omega, by omega, fun i hi => ?_⟩
          rw [kM, if_neg (by omega), if_pos (by omega), show 54 * j + i + 54 = 54 * (j + 1) + i by omega]
        · refine ⟨j, by omega, by omega, by omega, fun i hi => ?_⟩
          rw [kM, if_neg (by omega), if_neg (fun h => hq6 h.1)]
      obtain ⟨j0, g1, g2, g3, g4⟩ := hold
      obtain ⟨s, o', s1, s2, s3, s4, s5⟩ := h6 j0 g1
      refine ⟨s, o', s1, by omega, ?_, ?_, ?_⟩
      · have out : ∀ z, 58 + 7 * s ≤ z → z < 65 + 7 * s → iv_cpr σ 2 (58 + 7 * p) z = σ z := fun z z1 z2 => iv_cpr_out (by omega)
        rw [row _ (by omega) (by omega), row _ (by omega) (by omega), row _ (by omega) (by omega), row _ (by omega) (by omega), row _ (by omega) (by omega), row _ (by omega) (by omega), row _ (by omega) (by omega)]
        rw [out _ (by omega) (by omega), out _ (by omega) (by omega), out _ (by omega) (by omega), out _ (by omega) (by omega), out _ (by omega) (by omega), out _ (by omega) (by omega), out _ (by omega) (by omega)]
        exact iv_riv_eq s3 hn (fun _ _ => rfl) (fun _ _ => ⟨rfl, rfl, rfl, rfl, rfl, rfl⟩) g4
      · rw [r57, pk_un (by omega), g4 2 (by omega)]
        exact s4
      · rw [r57, pk_un (by omega)]
        exact s5
  · rw [iv_upn (by omega), iv_upn (by omega), iv_upn (by omega), iv_cpr_out (by omega)]
