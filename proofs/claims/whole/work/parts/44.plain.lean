/-! the plain calls -/
def iv_scX (c : Nat) : Prop := c = 18 ∨ c = 19 ∨ 106 ≤ c
def iv_scM (c : Nat) : Prop := c = 138 ∨ c = 152 ∨ c = 156 ∨ c = 157 ∨ c = 158 ∨ c = 159 ∨ c = 160
def iv_slM (i : Nat) : Prop := i = 3 ∨ i = 5 ∨ i = 6 ∨ i = 7 ∨ i = 13 ∨ i = 33 ∨ i = 34 ∨ i = 35 ∨ i = 37 ∨ i = 39 ∨ i = 47 ∨ i = 51
/-- what is only scratched leaves all that holds -/
def iv_kX (σ σ' : ix_St) : Prop := ∀ c, c < 135 → ¬ iv_scX c → σ' c = σ c
def iv_kM (τ τ' : ix_St) : Prop := (∀ c, 136 ≤ c → c < 164 → ¬ iv_scM c → τ' c = τ c) ∧ ∀ i, iv_slM i → τ' 135 i = τ 135 i
theorem iv_kX.rf {σ : ix_St} : iv_kX σ σ := fun _ _ _ => rfl
theorem iv_kX.tr {a b c : ix_St} (h : iv_kX a b) (h2 : iv_kX b c) : iv_kX a c := fun z hz hs => (h2 z hz hs).trans (h z hz hs)
theorem iv_kM.rf {τ : ix_St} : iv_kM τ τ := ⟨fun _ _ _ _ => rfl, fun _ _ => rfl⟩
theorem iv_kM.tr {a b c : ix_St} (h : iv_kM a b) (h2 : iv_kM b c) : iv_kM a c := ⟨fun z h1 h3 hs => (h2.1 z h1 h3 hs).trans (h.1 z h1 h3 hs), fun i hi => (h2.2 i hi).trans (h.2 i hi)⟩
theorem iv_kM_told (τ : ix_St) (v : Int32) : iv_kM τ (ix_up τ 135 0 v) := by
  refine ⟨fun c h1 _ _ => ?_, fun i hi => ?_⟩
  · show ix_row τ 135 _ c = _
    unfold ix_row
    rw [if_neg (by omega)]
  · show upd (τ 135) 0 v i = _
    unfold iv_slM at hi
    rw [pk_un (by omega)]
theorem iv_R_keep {k : Nat} {σ σ' τ τ' : ix_St} (hs : iv_kX σ σ') (ht : iv_kM τ τ') (hR : iv_R k σ τ) : iv_R (k + 1) σ' τ' := by
  have hR := iv_R_up (Nat.le_succ k) hR
  obtain ⟨n, o, h1, h2, h3, h4, h5, h6⟩ := hR
  have x : ∀ c, c < 106 → c ≠ 18 → c ≠ 19 → σ' c = σ c := fun c h1 h2 h3 => hs c (by omega) (by unfold iv_scX; omega)
  have m : ∀ c, 136 ≤ c → c < 164 → c ≠ 138 → c ≠ 152 → c < 156 ∨ 160 < c → τ' c = τ c := fun c h1 h2 h3 h4 h5 => ht.1 c h1 h2 (by unfold iv_scM; omega)
  have s : ∀ i, iv_slM i → τ' 135 i = τ 135 i := ht.2
  have hm : iv_mv τ' = iv_mv τ := by
    funext f
    unfold iv_mv
    split
    all_goals first
      | exact m _ (by omega) (by omega) (by omega) (by omega) (by omega)
      | (rw [s 6 (by unfold iv_slM; omega), s 7 (by unfold iv_slM; omega), s 35 (by unfold iv_slM; omega), s 37 (by unfold iv_slM; omega), s 39 (by unfold iv_slM; omega), s 47 (by unfold iv_slM; omega), m 145 (by omega) (by omega) (by omega) (by omega) (by omega)])
  refine ⟨n, o, h1, ?_, ?_, ?_, ?_, ?_⟩
  · rw [hm]
    unfold iv_wor at h2 ⊢
    simp only [x 1 (by omega) (by omega) (by omega), x 2 (by omega) (by omega) (by omega), x 3 (by omega) (by omega) (by omega), x 4 (by omega) (by omega) (by omega), x 5 (by omega) (by omega) (by omega), x 6 (by omega) (by omega) (by omega), x 7 (by omega) (by omega) (by omega), x 8 (by omega) (by omega) (by omega), x 9 (by omega) (by omega) (by omega), x 10 (by omega) (by omega) (by omega), x 12 (by omega) (by omega) (by omega), x 13 (by omega) (by omega) (by omega), x 14 (by omega) (by omega) (by omega), x 15 (by omega) (by omega) (by omega), x 16 (by omega) (by omega) (by omega), x 17 (by omega) (by omega) (by omega), x 20 (by omega) (by omega) (by omega), x 21 (by omega) (by omega) (by omega), x 22 (by omega) (by omega) (by omega), x 23 (by omega) (by omega) (by omega), x 24 (by omega) (by omega) (by omega), x 25 (by omega) (by omega) (by omega), x 26 (by omega) (by omega) (by omega), x 27 (by omega) (by omega) (by omega)]
    exact h2
  · obtain ⟨p, q, h7, h8, h9, h10, h11, h12⟩ := h3
    refine ⟨p, q, h7, h8, ?_, ?_, ?_, fun j hj => ?_⟩
    · rw [x 55 (by omega) (by omega) (by omega)]; exact h9
    · rw [x 55 (by omega) (by omega) (by omega)]; exact h10
    · rw [s 3 (by unfold iv_slM; omega)]; exact h11
    · obtain ⟨s', o, h13, h14, h15, h16⟩ := h12 j hj
      refine ⟨s', o, h13, h14, ?_, ?_⟩
      · rw [x _ (show 58 + 7 * s' < 106 by omega) (by omega) (by omega), x _ (show 59 + 7 * s' < 106 by omega) (by omega) (by omega), x _ (show 60 + 7 * s' < 106 by omega) (by omega) (by omega), x _ (show 61 + 7 * s' < 106 by omega) (by omega) (by omega), x _ (show 62 + 7 * s' < 106 by omega) (by omega) (by omega), x _ (show 63 + 7 * s' < 106 by omega) (by omega) (by omega), x _ (show 64 + 7 * s' < 106 by omega) (by omega) (by omega), m 137 (by omega) (by omega) (by omega) (by omega) (by omega), s 6 (by unfold iv_slM; omega), m 139 (by omega) (by omega) (by omega) (by omega) (by omega), m 140 (by omega) (by omega) (by omega) (by omega) (by omega), m 141 (by omega) (by omega) (by omega) (by omega) (by omega)]
        exact h15
      · rw [x 57 (by omega) (by omega) (by omega), m 137 (by omega) (by omega) (by omega) (by omega) (by omega)]
        exact h16
  · unfold iv_tape at h4 ⊢
    rw [x 100 (by omega) (by omega) (by omega), x 101 (by omega) (by omega) (by omega), s 13 (by unfold iv_slM; omega), m 143 (by omega) (by omega) (by omega) (by omega) (by omega)]
    exact h4
  · unfold iv_oth at h5 ⊢
    rw [x 105 (by omega) (by omega) (by omega), s 33 (by unfold iv_slM; omega), s 34 (by unfold iv_slM; omega), s 5 (by unfold iv_slM; omega), m 144 (by omega) (by omega) (by omega) (by omega) (by omega)]
    exact h5
  · unfold iv_img iv_wor at h6 ⊢
    rw [x 0 (by omega) (by omega) (by omega), s 51 (by unfold iv_slM; omega), m 163 (by omega) (by omega) (by omega) (by omega) (by omega)]
    simp only [Nat.reduceAdd, x 28 (by omega) (by omega) (by omega), x 29 (by omega) (by omega) (by omega), x 30 (by omega) (by omega) (by omega), x 31 (by omega) (by omega) (by omega), x 32 (by omega) (by omega) (by omega), x 33 (by omega) (by omega) (by omega), x 34 (by omega) (by omega) (by omega), x 35 (by omega) (by omega) (by omega), x 36 (by omega) (by omega) (by omega), x 37 (by omega) (by omega) (by omega), x 39 (by omega) (by omega) (by omega), x 40 (by omega) (by omega) (by omega), x 41 (by omega) (by omega) (by omega), x 42 (by omega) (by omega) (by omega), x 43 (by omega) (by omega) (by omega), x 44 (by omega) (by omega) (by omega), x 47 (by omega) (by omega) (by omega), x 48 (by omega) (by omega) (by omega), x 49 (by omega) (by omega) (by omega), x 50 (by omega) (by omega) (by omega), x 51 (by omega) (by omega) (by omega), x 52 (by omega) (by omega) (by omega), x 53 (by omega) (by omega) (by omega), x 54 (by omega) (by omega) (by omega)] at h6 ⊢
    exact h6
theorem iv_tn {v w : Int32} {z : Int} (hw : w.toInt = z) (h : ¬ v = w) : ¬ v.toInt = z := fun e => h (Int32.toInt_inj.mp (e.trans hw.symm))
theorem iv_past0 {σ τ σ' τ' : ix_St} {M N n m : Nat} (h : iv_past σ τ M n) (h1 : σ' 55 2 = σ 55 2) (h2 : σ' 55 3 = 0) (h3 : τ' 135 3 = 0) : iv_past σ' τ' N m := by
  obtain ⟨p, q, h7, h8, h9, h10, h11, h12⟩ := h
  exact ⟨p, 0, h7, by omega, by rw [h1]; exact h9, h2, h3, fun j hj => absurd hj (by omega)⟩
theorem iv_upn {σ : ix_St} {c d i : Nat} {v : Int32} (h : d ≠ c) : ix_up σ c i v d = σ d := by
  show (if d = c then _ else _) = _
  rw [if_neg h]
theorem iv_past_cong {σ σ' τ τ' : ix_St} {M n : Nat} (hs : ∀ c, 55 ≤ c → c < 100 → σ' c = σ c) (h3 : τ' 135 3 = τ 135 3) (h6 : τ' 135 6 = τ 135 6) (h37 : τ' 137 = τ 137) (h39 : τ' 139 = τ 139) (h40 : τ' 140 = τ 140) (h41 : τ' 141 = τ 141) (h : iv_past σ τ M n) : iv_past σ' τ' M n := by
  obtain ⟨p, q, h7, h8, h9, h10, h11, h12⟩ := h
  refine ⟨p, q, h7, h8, ?_, ?_, ?_, fun j hj => ?_⟩
  · rw [hs 55 (by omega) (by omega)]; exact h9
  · rw [hs 55 (by omega) (by omega)]; exact h10
  · rw [h3]; exact h11
  · obtain ⟨s', o, h13, h14, h15, h16⟩ := h12 j hj
    refine ⟨s', o, h13, h14, ?_, ?_⟩
    · rw [hs (58 + 7 * s') (by omega) (by omega), hs (59 + 7 * s') (by omega) (by omega), hs (60 + 7 * s') (by omega) (by omega), hs (61 + 7 * s') (by omega) (by omega), hs (62 + 7 * s') (by omega) (by omega), hs (63 + 7 * s') (by omega) (by omega), hs (64 + 7 * s') (by omega) (by omega), h37, h6, h39, h40, h41]
      exact h15
    · rw [hs 57 (by omega) (by omega), h37]
      exact h16
theorem iv_rivs {f ra ch ta fi wa tu now : Nat → Int32} {st : Int32} {mc mt mf : Nat → Int32} {M n o : Nat} (v : Int32) (h : iv_riv f ra ch ta fi wa tu now st mc mt mf M n o) : iv_riv (upd f 0 v) ra ch ta fi wa tu (upd now 1 v) st mc mt mf M n o := by
  obtain ⟨⟨a0, a1, a2, a3, a4, a5, a6, a7⟩, h2, ⟨h3, h4⟩, h5, h6⟩ := h
  refine ⟨⟨rfl, a1, a2, a3, a4, a5, a6, a7⟩, h2, ⟨h3, fun i hi => ?_⟩, fun i hi => ?_, h6⟩
  · rw [pk_un (by omega)]; exact h4 i hi
  · rw [pk_un (by omega), pk_un (by omega), pk_un (by omega)]; exact h5 i hi
theorem s_state (E : ix_St) (v : Int32) : iv_S E 2 157 [.int v] := by
  intro k b c σ τ hk hE hR
  obtain ⟨n, o, hn, ⟨hriv, hw⟩, hpast, htape, hoth, himg⟩ := iv_R_up (Nat.le_succ k) hR
  have e : τ 136 1 = σ 2 0 := hriv.1.1.symm
  refine ⟨σ 2 0, b, ix_up (ix_up σ 2 0 v) 55 3 0, ix_up (ix_up (ix_up τ 135 0 0) 136 1 v) 135 3 0, by rw [q_X_state_0, q_Past_forget_0]; rfl, by rw [q_M_state_0, e], n, o, hn, ⟨iv_rivs v hriv, hw⟩, iv_past0 hpast rfl rfl rfl, htape, hoth, himg⟩
theorem s_fault (E : ix_St) (v : Int32) : iv_S E 11 166 [.int v] := by
  intro k b c σ τ hk hE hR
  have hoth := hR.choose_spec.choose_spec.2.2.2.2.1
  have hK := iv_R_keep iv_kX.rf (iv_kM_told τ 0) hR
  rw [q_X_fault_0, q_M_fault_0]
  by_cases h0 : v = 0
  · rw [if_pos h0, if_pos h0]
    exact ⟨_, b, _, _, rfl, by rw [hoth.1.1], hK⟩
  · rw [if_neg h0, if_neg h0]
    by_cases h1 : v = 1
    · rw [if_pos h1, if_pos h1]
      exact ⟨_, b, _, _, rfl, by rw [hoth.1.2], hK⟩
    · rw [if_neg h1, if_neg h1]
      exact ⟨_, b, _, _, rfl, rfl, hK⟩
theorem s_end (E : ix_St) (v : Int32) : iv_S E 9 164 [.int v] := by
  intro k b c σ τ hk hE hR
  have hK := iv_R_keep iv_kX.rf (iv_kM_told τ 0) hR
  obtain ⟨n, o, hn, hw, hpast, ⟨t, ht, t1, t2, t3⟩, hoth, himg⟩ := iv_R_up (Nat.le_succ k) hR
  rw [q_X_end_0, q_M_end_0, f_isIn, t1, t2]
  simp only [Option.bind_some, iv_tI]
  by_cases h0 : v < 0
  · rw [if_pos h0, if_pos (iv_B0.mpr (fun h => absurd h.1 (iv_nle.mpr h0)))]
    exact ⟨_, b, _, _, rfl, rfl, hK⟩
  · rw [if_neg h0]
    by_cases h1 : v ≤ nI t
    · rw [if_pos h1, if_neg (fun h => iv_B0.mp h ⟨iv_nlt.mp h0, h1⟩)]
      refine ⟨_, b, _, _, rfl, rfl, n, o, hn, hw, iv_past_cong (fun c h1 h2 => iv_upn (by omega)) rfl rfl rfl rfl rfl rfl hpast, ?_, hoth, himg⟩
      obtain ⟨j, hj, rfl⟩ := nI_of h0
      rw [nI_leI hj (by omega)] at h1
      exact ⟨j, by omega, rfl, rfl, fun i hi => t3 i (by omega)⟩
    · rw [if_neg h1, if_pos (iv_B0.mpr (fun h => h1 h.2))]
      exact ⟨_, b, _, _, rfl, rfl, hK⟩
theorem s_look (E : ix_St) (v : Int32) : iv_S E 32 187 [.int v] := by
  intro k b c σ τ hk hE hR
  have hK := iv_R_keep iv_kX.rf (iv_kM_told τ 0) hR
  obtain ⟨n, o, hn, ⟨⟨⟨a0, a1, a2, a3, a4, a5, a6, a7⟩, -, ⟨ho, hov⟩, -⟩, ⟨⟨b1, bn, -, b2, b3⟩, -⟩, ⟨l0, l1, l2, l3⟩, -, -, -, -, -, m, -, m1, m2, -⟩, ⟨p, q, -, -, -, p4, p5, -⟩, -⟩ := hR
  have a0 : σ 2 0 = τ 136 1 := a0
  have a1 : σ 2 1 = τ 136 3 := a1
  have a2 : σ 2 2 = τ 136 4 := a2
  have a3 : σ 2 3 = τ 135 6 := a3
  have a4 : σ 2 4 = τ 136 0 := a4
  have a5 : σ 2 5 = τ 136 5 := a5
  have l0 : σ 25 0 = τ 145 0 := l0
  have l1 : σ 25 1 = τ 135 35 := l1
  have l2 : σ 25 2 = τ 135 37 := l2
  have l3 : σ 25 3 = τ 135 39 := l3
  have e0 : σ 2 6 = τ 135 7 := a6.trans b1.symm
  have bk : σ 9 1 = τ 136 2 := b2.trans b3.symm
  have sn : σ 1 5 = τ 135 47 := m1.trans m2.symm
  have pq : σ 55 3 = τ 135 3 := p4.trans p5.symm
  have hov' : ix_F 229 [.ref 135] (ix_S0 c, ix_up τ 135 0 0) = some (.int (nI o), (ix_S0 c, ix_up τ 135 0 0)) := f_overSet c hn b1 ho hov
  rw [q_X_look_0, q_M_look_0]
  by_cases h0 : v = 0
  · subst h0
    rw [if_pos (by decide), if_pos (by decide)]
    exact ⟨_, b, _, _, rfl, by rw [e0], hK⟩
  by_cases h1 : v = 1
  · subst h1
    rw [if_neg (by decide), if_pos (by decide), if_neg (by decide), if_pos (by decide)]
    exact ⟨_, b, _, _, rfl, by rw [a1], hK⟩
  by_cases h2 : v = 2
  · subst h2
    rw [if_neg (by decide), if_neg (by decide), if_pos (by decide), if_neg (by decide), if_neg (by decide), if_pos (by decide)]
    exact ⟨_, b, _, _, rfl, by rw [a2], hK⟩
  by_cases h3 : v = 3
  · subst h3
    rw [if_neg (by decide), if_neg (by decide), if_neg (by decide), if_pos (by decide), if_neg (by decide), if_neg (by decide), if_neg (by decide), if_pos (by decide)]
    exact ⟨_, b, _, _, rfl, by rw [a3], hK⟩
  by_cases h4 : v = 4
  · subst h4
    rw [if_neg (by decide), if_neg (by decide), if_neg (by decide), if_neg (by decide), if_pos (by decide), if_neg (by decide), if_neg (by decide), if_neg (by decide), if_neg (by decide), if_pos (by decide)]
    exact ⟨_, b, _, _, rfl, by rw [a4], hK⟩
  by_cases h5 : v = 5
  · subst h5
    rw [if_neg (by decide), if_neg (by decide), if_neg (by decide), if_neg (by decide), if_neg (by decide), if_pos (by decide), if_neg (by decide), if_neg (by decide), if_neg (by decide), if_neg (by decide), if_neg (by decide), if_pos (by decide)]
    exact ⟨_, b, _, _, rfl, by rw [a5], hK⟩
  by_cases h6 : v = 6
  · subst h6
    rw [if_neg (by decide), if_neg (by decide), if_neg (by decide), if_neg (by decide), if_neg (by decide), if_neg (by decide), if_pos (by decide), if_neg (by decide), if_neg (by decide), if_neg (by decide), if_neg (by decide), if_neg (by decide), if_neg (by decide), if_pos (by decide)]
    rw [hov', a7]
    exact ⟨_, b, _, _, rfl, rfl, hK⟩
  by_cases h7 : v = 7
  · subst h7
    rw [if_neg (by decide), if_neg (by decide), if_neg (by decide), if_neg (by decide), if_neg (by decide), if_neg (by decide), if_neg (by decide), if_pos (by decide), if_neg (by decide), if_neg (by decide), if_neg (by decide), if_neg (by decide), if_neg (by decide), if_neg (by decide), if_neg (by decide), if_pos (by decide)]
    exact ⟨_, b, _, _, rfl, by rw [bk], hK⟩
  by_cases h8 : v = 8
  · subst h8
    rw [if_neg (by decide), if_neg (by decide), if_neg (by decide), if_neg (by decide), if_neg (by decide), if_neg (by decide), if_neg (by decide), if_neg (by decide), if_pos (by decide), if_neg (by decide), if_neg (by decide), if_neg (by decide), if_neg (by decide), if_neg (by decide), if_neg (by decide), if_neg (by decide), if_neg (by decide), if_pos (by decide)]
    exact ⟨_, b, _, _, rfl, by rw [a0], hK⟩
  by_cases h9 : v = 9
  · subst h9
    rw [if_neg (by decide), if_neg (by decide), if_neg (by decide), if_neg (by decide), if_neg (by decide), if_neg (by decide), if_neg (by decide), if_neg (by decide), if_neg (by decide), if_pos (by decide), if_neg (by decide), if_neg (by decide), if_neg (by decide), if_neg (by decide), if_neg (by decide), if_neg (by decide), if_neg (by decide), if_neg (by decide), if_neg (by decide), if_pos (by decide)]
    exact ⟨_, b, _, _, rfl, by rw [l0], hK⟩
  by_cases h10 : v = 10
  · subst h10
    rw [if_neg (by decide), if_neg (by decide), if_neg (by decide), if_neg (by decide), if_neg (by decide), if_neg (by decide), if_neg (by decide), if_neg (by decide), if_neg (by decide), if_neg (by decide), if_pos (by decide), if_neg (by decide), if_neg (by decide), if_neg (by decide), if_neg (by decide), if_neg (by decide), if_neg (by decide), if_neg (by decide), if_neg (by decide), if_neg (by decide), if_neg (by decide), if_pos (by decide)]
    exact ⟨_, b, _, _, rfl, by rw [l1], hK⟩
  by_cases h11 : v = 11
  · subst h11
    rw [if_neg (by decide), if_neg (by decide), if_neg (by decide), if_neg (by decide), if_neg (by decide), if_neg (by decide), if_neg (by decide), if_neg (by decide), if_neg (by decide), if_neg (by decide), if_neg (by decide), if_pos (by decide), if_neg (by decide), if_neg (by decide), if_neg (by decide), if_neg (by decide), if_neg (by decide), if_neg (by decide), if_neg (by decide), if_neg (by decide), if_neg (by decide), if_neg (by decide), if_neg (by decide), if_pos (by decide)]
    exact ⟨_, b, _, _, rfl, by rw [l2], hK⟩
  by_cases h12 : v = 12
  · subst h12
    rw [if_neg (by decide), if_neg (by decide), if_neg (by decide), if_neg (by decide), if_neg (by decide), if_neg (by decide), if_neg (by decide), if_neg (by decide), if_neg (by decide), if_neg (by decide), if_neg (by decide), if_neg (by decide), if_pos (by decide), if_neg (by decide), if_neg (by decide), if_neg (by decide), if_neg (by decide), if_neg (by decide), if_neg (by decide), if_neg (by decide), if_neg (by decide), if_neg (by decide), if_neg (by decide), if_neg (by decide), if_neg (by decide), if_pos (by decide)]
    exact ⟨_, b, _, _, rfl, by rw [l3], hK⟩
  by_cases h13 : v = 13
  · subst h13
    rw [if_neg (by decide), if_neg (by decide), if_neg (by decide), if_neg (by decide), if_neg (by decide), if_neg (by decide), if_neg (by decide), if_neg (by decide), if_neg (by decide), if_neg (by decide), if_neg (by decide), if_neg (by decide), if_neg (by decide), if_pos (by decide), if_neg (by decide), if_neg (by decide), if_neg (by decide), if_neg (by decide), if_neg (by decide), if_neg (by decide), if_neg (by decide), if_neg (by decide), if_neg (by decide), if_neg (by decide), if_neg (by decide), if_neg (by decide), if_neg (by decide), if_pos (by decide)]
    exact ⟨_, b, _, _, rfl, by rw [sn], hK⟩
  by_cases h14 : v = 14
  · subst h14
    rw [if_neg (by decide), if_neg (by decide), if_neg (by decide), if_neg (by decide), if_neg (by decide), if_neg (by decide), if_neg (by decide), if_neg (by decide), if_neg (by decide), if_neg (by decide), if_neg (by decide), if_neg (by decide), if_neg (by decide), if_neg (by decide), if_pos (by decide), if_neg (by decide), if_neg (by decide), if_neg (by decide), if_neg (by decide), if_neg (by decide), if_neg (by decide), if_neg (by decide), if_neg (by decide), if_neg (by decide), if_neg (by decide), if_neg (by decide), if_neg (by decide), if_neg (by decide), if_neg (by decide), if_pos (by decide)]
    exact ⟨_, b, _, _, rfl, by rw [pq], hK⟩
  rw [if_neg (iv_tn (w := 0) (by decide) h0), if_neg (iv_tn (w := 1) (by decide) h1), if_neg (iv_tn (w := 2) (by decide) h2), if_neg (iv_tn (w := 3) (by decide) h3), if_neg (iv_tn (w := 4) (by decide) h4), if_neg (iv_tn (w := 5) (by decide) h5), if_neg (iv_tn (w := 6) (by decide) h6), if_neg (iv_tn (w := 7) (by decide) h7), if_neg (iv_tn (w := 8) (by decide) h8), if_neg (iv_tn (w := 9) (by decide) h9), if_neg (iv_tn (w := 10) (by decide) h10), if_neg (iv_tn (w := 11) (by decide) h11), if_neg (iv_tn (w := 12) (by decide) h12), if_neg (iv_tn (w := 13) (by decide) h13), if_neg (iv_tn (w := 14) (by decide) h14), if_neg h0, if_neg h1, if_neg h2, if_neg h3, if_neg h4, if_neg h5, if_neg h6, if_neg h7, if_neg h8, if_neg h9, if_neg h10, if_neg h11, if_neg h12, if_neg h13, if_neg h14]
  exact ⟨_, b, _, _, rfl, rfl, hK⟩
theorem s_book (E : ix_St) (v w : Int32) : iv_S E 15 170 [.int v, .int w] := by
  intro k b c σ τ hk hE hR
  have hK := iv_R_keep iv_kX.rf (iv_kM_told τ 0) hR
  obtain ⟨n, o, hn, ⟨-, ⟨⟨-, t, ht, b1, b2⟩, bk⟩, -⟩, -⟩ := hR
  have b2 : τ 136 2 = nI t := b2
  have bk : ∀ j, j < 600 → σ 10 j = τ 142 j := bk
  rw [q_X_book_0, q_M_book_0, f_isIn, q_Book_entry_0, b1, b2]
  simp only [Option.bind_some, iv_tI]
  rw [f_isIn]
  simp only [Option.bind_some, iv_tI]
  by_cases h0 : v < 0
  · rw [if_pos h0, if_pos (iv_B0.mpr (fun h => absurd h.1 (iv_nle.mpr h0)))]
    exact ⟨_, b, _, _, rfl, rfl, hK⟩
  · rw [if_neg h0]
    obtain ⟨j, hj, rfl⟩ := nI_of h0
    by_cases h1 : t ≤ j
    · have : ¬ (0 ≤ nI j ∧ nI j ≤ nI t - 1) := by
        rintro ⟨-, h⟩
        rw [iv_le, nI_toInt hj, show (1 : Int32) = nI 1 from rfl, pk_sub_toInt (by omega) (by omega)] at h
        omega
      rw [if_pos (nI_le h1 (by omega)), if_pos (iv_B0.mpr this)]
      exact ⟨_, b, _, _, rfl, rfl, hK⟩
    · have : 0 ≤ nI j ∧ nI j ≤ nI t - 1 := by
        refine ⟨nI_pos' hj, ?_⟩
        rw [iv_le, nI_toInt hj, show (1 : Int32) = nI 1 from rfl, pk_sub_toInt (by omega) (by omega)]
        omega
      rw [if_neg (nI_ge (by omega) (by omega)), if_neg (fun h => iv_B0.mp h this)]
      by_cases h2 : w < 0
      · rw [if_pos h2, if_pos (iv_B0.mpr (fun h => absurd h.1 (iv_nle.mpr h2)))]
        exact ⟨_, b, _, _, rfl, rfl, hK⟩
      · rw [if_neg h2]
        obtain ⟨i, hi, rfl⟩ := nI_of h2
        by_cases h3 : i < 4
        · rw [if_pos (show nI i < 4 from nI_lt (b := 4) h3 (by omega)), if_neg (fun h => iv_B0.mp h ⟨nI_pos' hi, show nI i ≤ nI 3 from nI_le (by omega) (by omega)⟩)]
          rw [show (4 : Int32) = nI 4 from rfl, pk_mul, pk_mul, nI_add, nI_add, show 4 * j + i = j * 4 + i by omega, if_neg (nI_in (by omega) (by omega)), if_neg (nI_in (by omega) (by omega)), nI_clamp (by omega), bk _ (by omega)]
          exact ⟨_, b, _, _, rfl, rfl, hK⟩
        · rw [if_neg (show ¬ nI i < 4 from nI_nlt (b := 4) (by omega) (by omega)), if_pos (iv_B0.mpr (fun h => absurd h.2 (show ¬ nI i ≤ nI 3 from nI_ge (by omega) (by omega))))]
          exact ⟨_, b, _, _, rfl, rfl, hK⟩
theorem s_bribe (E : ix_St) (v w : Int32) : iv_S E 27 182 [.int v, .int w] := by
  intro k b c σ τ hk hE hR
  have hK := iv_R_keep iv_kX.rf (iv_kM_told τ 0) hR
  obtain ⟨n, o, hn, ⟨hriv, hbk, hln, hear, hlog, hsea, hlaw, hbr, hsn⟩, hpast, htape, hoth, himg⟩ := iv_R_up (Nat.le_succ k) hR
  rw [q_X_bribe_0, q_M_bribe_0, f_isIn]
  simp only [Option.bind_some, iv_tI]
  rw [f_isIn]
  simp only [Option.bind_some, iv_tI]
  by_cases h0 : v < 0
  · rw [if_pos h0, if_pos (iv_B0.mpr (fun h => absurd h.1 (iv_nle.mpr h0)))]
    exact ⟨_, b, _, _, rfl, rfl, hK⟩
  · rw [if_neg h0]
    obtain ⟨j, hj, rfl⟩ := nI_of h0
    by_cases h1 : 12 ≤ j
    · rw [if_pos (show (12 : Int32) ≤ nI j from nI_le h1 hj), if_pos (iv_B0.mpr (fun h => absurd h.2 (show ¬ nI j ≤ nI 11 from nI_ge (by omega) (by omega))))]
      exact ⟨_, b, _, _, rfl, rfl, hK⟩
    · rw [if_neg (show ¬ (12 : Int32) ≤ nI j from nI_ge (b := 12) (by omega) (by omega)), if_neg (fun h => iv_B0.mp h ⟨nI_pos' hj, show nI j ≤ nI 11 from nI_le (by omega) (by omega)⟩)]
      by_cases h2 : w < 0
      · rw [if_pos h2, if_pos (iv_B0.mpr (fun h => absurd h.1 (iv_nle.mpr h2)))]
        exact ⟨_, b, _, _, rfl, rfl, hK⟩
      · rw [if_neg h2]
        by_cases h3 : w ≤ 99
        · rw [if_pos h3, if_neg (fun h => iv_B0.mp h ⟨iv_nlt.mp h2, h3⟩), if_neg (nI_in (by omega) (by omega)), if_neg (nI_in (by omega) (by omega)), nI_clamp (by omega)]
          refine ⟨_, b, _, _, rfl, rfl, n, o, hn, ⟨hriv, hbk, hln, hear, hlog, hsea, hlaw, fun i hi => ?_, hsn⟩, iv_past_cong (fun c h1 h2 => iv_upn (by omega)) rfl rfl rfl rfl rfl rfl hpast, htape, hoth, himg⟩
          show upd (σ 26) j w i = upd (τ 162) j (w - 1) i + 1 ∧ iv_in (upd (σ 26) j w i) 99
          by_cases hij : i = j
          · subst hij
            rw [pk_us, pk_us]
            refine ⟨(Int32.sub_add_cancel w 1).symm, (iv_rng (m := 99) (by omega)).mp ⟨h2, iv_nlt.mpr h3⟩⟩
          · rw [pk_un hij, pk_un hij]
            exact hbr i hi
        · rw [if_neg h3, if_pos (iv_B0.mpr (fun h => h3 h.2))]
          exact ⟨_, b, _, _, rfl, rfl, hK⟩
theorem s_seen (E : ix_St) (v : Int32) : iv_S E 25 180 [.int v] := by
  intro k b c σ τ hk hE hR
  have hK := iv_R_keep iv_kX.rf (iv_kM_told τ 0) hR
  obtain ⟨n, o, hn, ⟨hriv, hbk, hln, hear, hlog, hsea, hlaw, hbr, m, hm, m1, m2, m3, m4⟩, hpast, htape, hoth, himg⟩ := iv_R_up (Nat.le_succ k) hR
  have m2 : τ 135 47 = nI m := m2
  have m2' : (ix_up τ 135 0 0) 135 47 = nI m := m2
  rw [q_X_seen_0, q_M_seen_0, f_isIn, q_World_see_0]
  simp only [Option.bind_some, iv_tI, m2', m1]
  by_cases h0 : v = -1
  · rw [if_pos h0, if_pos h0]
    exact ⟨_, b, _, _, rfl, rfl, n, o, hn, ⟨hriv, hbk, hln, hear, hlog, hsea, hlaw, hbr, 0, by omega, rfl, rfl, m3, fun j hj => absurd hj (by omega)⟩, iv_past_cong (fun c h1 h2 => iv_upn (by omega)) rfl rfl rfl rfl rfl rfl hpast, htape, hoth, himg⟩
  · rw [if_neg h0, if_neg h0]
    by_cases h1 : v < 0
    · rw [if_pos h1, if_pos (iv_B0.mpr (fun h => absurd h.1 (iv_nle.mpr h1)))]
      exact ⟨_, b, _, _, rfl, rfl, hK⟩
    · rw [if_neg h1]
      by_cases h2 : 6 ≤ v
      · rw [if_pos h2, if_pos (iv_B0.mpr (fun h => absurd (iv_6.mpr h.2) (iv_nlt.mpr h2)))]
        exact ⟨_, b, _, _, rfl, rfl, hK⟩
      · have h5 : v ≤ 5 := iv_6.mp (iv_nle.mp h2)
        rw [if_neg h2, if_neg (fun h => iv_B0.mp h ⟨iv_nlt.mp h1, h5⟩)]
        by_cases h3 : m < 20
        · rw [if_pos (show nI m < 20 from nI_lt (b := 20) h3 (by omega)), if_neg (show ¬ nI m = 20 from fun h => by rw [show (20 : Int32) = nI 20 from rfl, nI_eq (by omega) (by omega)] at h; omega), if_neg (nI_in (by omega) (by omega)), if_neg (nI_in (by omega) (by omega)), nI_clamp (by omega), nI_1]
          refine ⟨_, b, _, _, rfl, rfl, n, o, hn, ⟨hriv, hbk, hln, hear, hlog, hsea, hlaw, hbr, m + 1, by omega, rfl, rfl, fun j hj => ?_, fun j hj => ?_⟩, iv_past_cong (fun c h1 h2 => (iv_upn (by omega)).trans (iv_upn (by omega))) rfl rfl rfl rfl rfl rfl hpast, htape, hoth, himg⟩
          · show upd (σ 27) m v j = upd (τ 161) m v j
            by_cases hij : j = m
            · subst hij; rw [pk_us, pk_us]
            · rw [pk_un hij, pk_un hij]; exact m3 j hj
          · show iv_in (upd (σ 27) m v j) 5
            by_cases hij : j = m
            · subst hij; rw [pk_us]; exact (iv_rng (m := 5) (by omega)).mp ⟨h1, iv_nlt.mpr h5⟩
            · rw [pk_un hij]; exact m4 j (by omega)
        · have : m = 20 := by omega
          subst this
          rw [if_neg (show ¬ nI 20 < 20 by decide), if_pos (show nI 20 = 20 from rfl)]
          exact ⟨_, b, _, _, rfl, rfl, hK⟩
