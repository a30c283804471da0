/-! of, sway, the shells of all -/
theorem iv_rvF_of {σ τ : ix_St} {M n o : Nat} (h : iv_wor σ (iv_mv τ) M n o) : iv_rvF σ τ M n o := ⟨h.1, h.2.1.1.1⟩
theorem iv_lw_of {σ τ : ix_St} {M n o : Nat} (h : iv_wor σ (iv_mv τ) M n o) : iv_lw σ τ := h.2.2.2.2.2.2.1
theorem iv_abd {n o p : Nat} (hn : n ≤ 12) (ho : o < 2 ^ n) (hp : p < n) : iv_he n o ||| 2 ^ p < 4096 :=
  Nat.or_lt_two_pow (n := 12) (iv_he_31 hn ho) (Nat.pow_lt_pow_right (by omega) (by omega))
/-- one is asked of the law with all that are here -/
theorem f_told (b c : Bool) {σ τ : ix_St} {M n o : Nat} (hn : n ≤ 12) (hR : iv_rvF σ τ M n o) (hlw : iv_lw σ τ) {p y : Nat} (hp : p < n) (hy : y < n) :
    (∃ v σ' τ', v ≤ 9 ∧ ix_F 87 [.ref 130, .int 2, .int (nI p), .int (σ 5 p)] (ix_S0 b, σ) = some (.int (nI v), (ix_S0 b, σ')) ∧ ix_F 202 [.ref 135, .int (nI p)] (ix_S0 c, τ) = some (.int (nI v), (ix_S0 c, τ')) ∧ (∀ z, z ≠ 18 → z ≠ 19 → σ' z = σ z) ∧ ∀ z, z ≠ 156 → z ≠ 157 → τ' z = τ z) ∧
    (∃ v σ' τ', ix_F 87 [.ref 130, .int 1, .int (nI p), .int (σ 5 p)] (ix_S0 b, σ) = some (.int (nI v), (ix_S0 b, σ')) ∧ ((ix_F 196 [.ref 135] (ix_S0 c, τ)).bind fun x3 => ((ix_F 203 [.ref 135, .int (nI p), .int (0 : Int32), .int ((ix_toI x3.1) ||| ((1 : Int32) <<< (nI p &&& 31)))] (ix_S0 c, x3.2.2)).bind fun x4 => some (Value.int (ix_toI x4.1), (ix_S0 c, x4.2.2)))) = some (.int (nI v), (ix_S0 c, τ')) ∧ (∀ z, z ≠ 18 → z ≠ 19 → σ' z = σ z) ∧ ∀ z, z ≠ 156 → z ≠ 157 → τ' z = τ z) ∧
    (∃ v σ' τ', ix_F 87 [.ref 130, .int 0, .int (nI p), .int (σ 5 y)] (ix_S0 b, σ) = some (.int (nI v), (ix_S0 b, σ')) ∧ ((ix_F 196 [.ref 135] (ix_S0 c, τ)).bind fun x3 => ((ix_F 204 [.ref 135, .int (nI p), .int (nI y), .int (0 : Int32), .int ((ix_toI x3.1) ||| ((1 : Int32) <<< (nI p &&& 31)))] (ix_S0 c, x3.2.2)).bind fun x4 => some (Value.int (ix_toI x4.1), (ix_S0 c, x4.2.2)))) = some (.int (nI v), (ix_S0 c, τ')) ∧ (∀ z, z ≠ 18 → z ≠ 19 → σ' z = σ z) ∧ ∀ z, z ≠ 156 → z ≠ 157 → τ' z = τ z) := by
  obtain ⟨⟨⟨-, -, -, -, -, -, a6, a7⟩, -, ⟨ho, hov⟩, -, -⟩, h7⟩ := id hR
  have hs := iv_abd hn ho hp
  have hX : ∀ w t, ix_F 87 [.ref 130, .int w, .int (nI p), .int t] (ix_S0 b, σ) = ((ix_F 54 [.ref 12, .int w, .ref 2, .int (nI p), .int t, .int 0, .int (nI (iv_he n o ||| 2 ^ p))] (ix_S0 b, σ)).bind fun x2 => some (Value.int (ix_toI x2.1), (ix_S0 b, x2.2.2))) := by
    intro w t
    rw [q_Poll_told_0, f_hereX b hn a6 ho a7]
    simp only [Option.bind_some, iv_tI]
    rw [iv_shl (by omega), iv_or]
  have hM := f_hereM c hn h7 ho hov
  refine ⟨?_, ?_, ?_⟩
  · obtain ⟨v, σ', τ', h1, h2, h3, h4, h5⟩ := f_shell_F b c hn hR hlw hp hs 0
    refine ⟨v, σ', τ', h1, ?_, ?_, h4, h5⟩
    · rw [hX, h2]; rfl
    · rw [q_M_shellsNow_0, hM]
      simp only [Option.bind_some, iv_tI]
      rw [iv_shl (by omega), iv_or, h3]; rfl
  · obtain ⟨v, σ', τ', h1, h2, h3, h4, h5⟩ := f_abst_F b c hn hR hlw hp hs 0
    refine ⟨v, σ', τ', ?_, ?_, h4, h5⟩
    · rw [hX, h2]; rfl
    · rw [hM]
      simp only [Option.bind_some, iv_tI]
      rw [iv_shl (by omega), iv_or, h3]; rfl
  · obtain ⟨v, σ', τ', h1, h2, h3, h4, h5⟩ := f_sway_F b c hn hR hlw hp hy hs 0
    refine ⟨v, σ', τ', ?_, ?_, h4, h5⟩
    · rw [hX, h2]; rfl
    · rw [hM]
      simp only [Option.bind_some, iv_tI]
      rw [iv_shl (by omega), iv_or, h3]; rfl
theorem iv_kX_of {σ σ' : ix_St} (h : ∀ z, z ≠ 18 → z ≠ 19 → σ' z = σ z) : iv_kX σ σ' := fun c _ hs => h c (fun e => hs (Or.inl e)) (fun e => hs (Or.inr (Or.inl e)))
theorem iv_kM_of {τ τ' : ix_St} (h : ∀ z, z ≠ 156 → z ≠ 157 → τ' z = τ z) : iv_kM τ τ' := ⟨fun c _ _ hs => h c (fun e => hs (by unfold iv_scM; omega)) (fun e => hs (by unfold iv_scM; omega)), fun i _ => by rw [h 135 (by omega) (by omega)]⟩
theorem s_sway (E : ix_St) (v1 v2 : Int32) : iv_S E 13 168 [.int v1, .int v2] := by
  intro k b c σ τ hk hE hR
  have hK := iv_R_keep iv_kX.rf (iv_kM_told τ 0) hR
  have hR1 : iv_R k σ (ix_up τ 135 0 0) := iv_R_told hR
  have hR0 := hR1
  obtain ⟨n, o, hn, hw, -⟩ := hR1
  have a6 : σ 2 6 = nI n := hw.1.1.2.2.2.2.2.2.1
  have b1 : (ix_up τ 135 0 0) 135 7 = nI n := hw.2.1.1.1
  rw [q_X_sway_0, q_M_sway_0]
  simp only [f_has b σ hn a6, f_isOne c _ hn b1, Option.bind_some, iv_tI]
  by_cases h1 : 0 ≤ v1 ∧ v1 < nI n
  · by_cases h2 : 0 ≤ v2 ∧ v2 < nI n
    · rw [if_neg (fun h => iv_B0.mp h h1), if_neg (fun h => iv_B0.mp h h1), if_neg (fun h => iv_B0.mp h h2), if_neg (fun h => iv_B0.mp h h2)]
      obtain ⟨p, hp, rfl⟩ := (iv_rng' (by omega)).mp h1
      obtain ⟨y, hy, rfl⟩ := (iv_rng' (by omega)).mp h2
      obtain ⟨-, -, v, σ', τ', e1, e2, e3, e4⟩ := f_told b c hn (iv_rvF_of hw) (iv_lw_of hw) hp hy
      rw [if_neg (nI_in (by omega) (by omega)), nI_clamp (by omega), e1, e2]
      exact ⟨_, b, _, _, rfl, rfl, iv_R_keep (iv_kX_of e3) (iv_kM_of e4) hR0⟩
    · rw [if_neg (fun h => iv_B0.mp h h1), if_neg (fun h => iv_B0.mp h h1), if_pos (iv_B0.mpr h2), if_pos (iv_B0.mpr h2)]
      exact ⟨_, b, _, _, rfl, rfl, hK⟩
  · rw [if_pos (iv_B0.mpr h1), if_pos (iv_B0.mpr h1)]
    exact ⟨_, b, _, _, rfl, rfl, hK⟩
theorem s_of (E : ix_St) (v1 v2 : Int32) : iv_S E 12 167 [.int v1, .int v2] := by
  intro k b c σ τ hk hE hR
  have hK := iv_R_keep iv_kX.rf (iv_kM_told τ 0) hR
  have hR1 : iv_R k σ (ix_up τ 135 0 0) := iv_R_told hR
  have hR0 := hR1
  obtain ⟨n, o, hn, hw, -⟩ := hR1
  have a6 : σ 2 6 = nI n := hw.1.1.2.2.2.2.2.2.1
  have a7 : σ 2 7 = nI o := hw.1.1.2.2.2.2.2.2.2
  have b1 : (ix_up τ 135 0 0) 135 7 = nI n := hw.2.1.1.1
  rw [q_X_of_0, q_M_of_0]
  simp only [f_has b σ hn a6, f_isOne c _ hn b1, Option.bind_some, iv_tI]
  by_cases h1 : 0 ≤ v1 ∧ v1 < nI n
  · rw [if_neg (fun h => iv_B0.mp h h1), if_neg (fun h => iv_B0.mp h h1)]
    obtain ⟨p, hp, rfl⟩ := (iv_rng' (by omega)).mp h1
    have hrow := hw.1.2.2.2.1 p (by omega)
    obtain ⟨q1, q2, q3, q4, q5, q6⟩ := hrow
    have q1 : σ 3 p = τ 136 (6 + p) := q1
    have q2 : σ 4 p = τ 139 p := q2
    have q3 : σ 5 p = τ 140 p := q3
    have q4 : σ 6 p = τ 141 p := q4
    have q5 : σ 7 p = τ 136 (30 + p) := q5
    have q6 : σ 8 p = τ 136 (42 + p) := q6
    have q7 : σ 20 p = τ 153 p := (hw.2.2.2.1 p (by omega)).1
    have q8 : τ 136 (18 + p) = iv_B (o.testBit p = true) := hw.1.2.2.1.2 p (by omega)
    have ho : o < 2 ^ n := hw.1.2.2.1.1
    have := iv_p12 hn
    have q9 : ((σ 2 7) >>> (nI p &&& 31)) &&& (1 : Int32) = τ 136 (18 + p) := by rw [a7, iv_bit (by omega) (by omega), q8]
    have k1 : ¬ (nI p < 0 ∨ 12 ≤ p) := iv_ni (by omega) (by omega)
    have k2 : ¬ (nI p < 0 ∨ 24 ≤ p) := iv_ni (by omega) (by omega)
    have k3 : (nI p).toNatClampNeg = p := nI_clamp (by omega)
    have m6 : (6 : Int32) + nI p = nI (6 + p) := nI_add 6 p
    have n6 : ¬ (nI (6 + p) < 0 ∨ 54 ≤ 6 + p) := iv_ni (by omega) (by omega)
    have l6 : (nI (6 + p)).toNatClampNeg = 6 + p := nI_clamp (by omega)
    have m18 : (18 : Int32) + nI p = nI (18 + p) := nI_add 18 p
    have n18 : ¬ (nI (18 + p) < 0 ∨ 54 ≤ 18 + p) := iv_ni (by omega) (by omega)
    have l18 : (nI (18 + p)).toNatClampNeg = 18 + p := nI_clamp (by omega)
    have m30 : (30 : Int32) + nI p = nI (30 + p) := nI_add 30 p
    have n30 : ¬ (nI (30 + p) < 0 ∨ 54 ≤ 30 + p) := iv_ni (by omega) (by omega)
    have l30 : (nI (30 + p)).toNatClampNeg = 30 + p := nI_clamp (by omega)
    have m42 : (42 : Int32) + nI p = nI (42 + p) := nI_add 42 p
    have n42 : ¬ (nI (42 + p) < 0 ∨ 54 ≤ 42 + p) := iv_ni (by omega) (by omega)
    have l42 : (nI (42 + p)).toNatClampNeg = 42 + p := nI_clamp (by omega)
    obtain ⟨T2, T1, -⟩ := f_told b c hn (iv_rvF_of hw) (iv_lw_of hw) hp hp
    by_cases g0 : v2 = 0
    · subst g0
      refine ⟨σ 3 p, b, σ, ix_up τ 135 0 0, ?_, ?_, hK⟩
      · simp (decide := true) only [q_River_trait_0, k1, k2, k3, m6, n6, l6, m18, n18, l18, m30, n30, l30, m42, n42, l42, if_true, if_false, Option.bind_some, iv_tI]
      · rw [q1]
        simp (decide := true) only [k1, k2, k3, m6, n6, l6, m18, n18, l18, m30, n30, l30, m42, n42, l42, if_true, if_false, Option.bind_some, iv_tI]
        rfl
    by_cases g1 : v2 = 1
    · subst g1
      refine ⟨σ 4 p, b, σ, ix_up τ 135 0 0, ?_, ?_, hK⟩
      · simp (decide := true) only [q_River_trait_0, k1, k2, k3, m6, n6, l6, m18, n18, l18, m30, n30, l30, m42, n42, l42, if_true, if_false, Option.bind_some, iv_tI]
      · rw [q2]
        simp (decide := true) only [k1, k2, k3, m6, n6, l6, m18, n18, l18, m30, n30, l30, m42, n42, l42, if_true, if_false, Option.bind_some, iv_tI]
        rfl
    by_cases g2 : v2 = 2
    · subst g2
      refine ⟨σ 5 p, b, σ, ix_up τ 135 0 0, ?_, ?_, hK⟩
      · simp (decide := true) only [q_River_trait_0, k1, k2, k3, m6, n6, l6, m18, n18, l18, m30, n30, l30, m42, n42, l42, if_true, if_false, Option.bind_some, iv_tI]
      · rw [q3]
        simp (decide := true) only [k1, k2, k3, m6, n6, l6, m18, n18, l18, m30, n30, l30, m42, n42, l42, if_true, if_false, Option.bind_some, iv_tI]
        rfl
    by_cases g3 : v2 = 3
    · subst g3
      refine ⟨σ 6 p, b, σ, ix_up τ 135 0 0, ?_, ?_, hK⟩
      · simp (decide := true) only [q_River_trait_0, k1, k2, k3, m6, n6, l6, m18, n18, l18, m30, n30, l30, m42, n42, l42, if_true, if_false, Option.bind_some, iv_tI]
      · rw [q4]
        simp (decide := true) only [k1, k2, k3, m6, n6, l6, m18, n18, l18, m30, n30, l30, m42, n42, l42, if_true, if_false, Option.bind_some, iv_tI]
        rfl
    by_cases g4 : v2 = 4
    · subst g4
      refine ⟨((σ 2 7) >>> (nI p &&& 31)) &&& (1 : Int32), b, σ, ix_up τ 135 0 0, ?_, ?_, hK⟩
      · simp (decide := true) only [q_River_trait_0, k1, k2, k3, m6, n6, l6, m18, n18, l18, m30, n30, l30, m42, n42, l42, if_true, if_false, Option.bind_some, iv_tI]
      · rw [q9]
        simp (decide := true) only [k1, k2, k3, m6, n6, l6, m18, n18, l18, m30, n30, l30, m42, n42, l42, if_true, if_false, Option.bind_some, iv_tI]
        rfl
    by_cases g5 : v2 = 5
    · subst g5
      refine ⟨σ 7 p, b, σ, ix_up τ 135 0 0, ?_, ?_, hK⟩
      · simp (decide := true) only [q_River_trait_0, k1, k2, k3, m6, n6, l6, m18, n18, l18, m30, n30, l30, m42, n42, l42, if_true, if_false, Option.bind_some, iv_tI]
      · rw [q5]
        simp (decide := true) only [k1, k2, k3, m6, n6, l6, m18, n18, l18, m30, n30, l30, m42, n42, l42, if_true, if_false, Option.bind_some, iv_tI]
        rfl
    by_cases g6 : v2 = 6
    · subst g6
      refine ⟨σ 8 p, b, σ, ix_up τ 135 0 0, ?_, ?_, hK⟩
      · simp (decide := true) only [q_River_trait_0, k1, k2, k3, m6, n6, l6, m18, n18, l18, m30, n30, l30, m42, n42, l42, if_true, if_false, Option.bind_some, iv_tI]
      · rw [q6]
        simp (decide := true) only [k1, k2, k3, m6, n6, l6, m18, n18, l18, m30, n30, l30, m42, n42, l42, if_true, if_false, Option.bind_some, iv_tI]
        rfl
    by_cases g7 : v2 = 7
    · subst g7
      refine ⟨σ 20 p, b, σ, ix_up τ 135 0 0, ?_, ?_, hK⟩
      · simp (decide := true) only [q_River_trait_0, k1, k2, k3, m6, n6, l6, m18, n18, l18, m30, n30, l30, m42, n42, l42, if_true, if_false, Option.bind_some, iv_tI]
      · rw [q7]
        simp (decide := true) only [k1, k2, k3, m6, n6, l6, m18, n18, l18, m30, n30, l30, m42, n42, l42, if_true, if_false, Option.bind_some, iv_tI]
        rfl
    by_cases g8 : v2 = 8
    · subst g8
      obtain ⟨v, σ', τ', -, e1, e2, e3, e4⟩ := T2
      refine ⟨nI v, b, σ', τ', ?_, ?_, iv_R_keep (iv_kX_of e3) (iv_kM_of e4) hR0⟩
      · simp (decide := true) only [k1, k2, k3, m6, n6, l6, m18, n18, l18, m30, n30, l30, m42, n42, l42, e1, if_true, if_false, Option.bind_some, iv_tI]
      · simp (decide := true) only [e2, if_true, if_false, Option.bind_some, iv_tI]
    by_cases g9 : v2 = 9
    · subst g9
      obtain ⟨v, σ', τ', e1, e2, e3, e4⟩ := T1
      refine ⟨nI v, b, σ', τ', ?_, ?_, iv_R_keep (iv_kX_of e3) (iv_kM_of e4) hR0⟩
      · simp (decide := true) only [k1, k2, k3, m6, n6, l6, m18, n18, l18, m30, n30, l30, m42, n42, l42, e1, if_true, if_false, Option.bind_some, iv_tI]
      · simp (decide := true) only [if_true, if_false]
        exact e2
    refine ⟨-1, b, σ, ix_up τ 135 0 0, ?_, ?_, hK⟩
    · rw [if_neg (iv_tn (w := 7) (by decide) g7), if_neg (iv_tn (w := 8) (by decide) g8), if_neg (iv_tn (w := 9) (by decide) g9), q_River_trait_0, if_neg (iv_tn (w := 0) (by decide) g0), if_neg (iv_tn (w := 1) (by decide) g1), if_neg (iv_tn (w := 2) (by decide) g2), if_neg (iv_tn (w := 3) (by decide) g3), if_neg (iv_tn (w := 4) (by decide) g4), if_neg (iv_tn (w := 5) (by decide) g5), if_neg (iv_tn (w := 6) (by decide) g6)]
      rfl
    · rw [if_neg g0, if_neg g1, if_neg g2, if_neg g3, if_neg g4, if_neg g5, if_neg g6, if_neg g7, if_neg g8, if_neg g9]
  · rw [if_pos (iv_B0.mpr h1), if_pos (iv_B0.mpr h1)]
    exact ⟨_, b, _, _, rfl, rfl, hK⟩
/-- the shells of all, asked by both -/
theorem f_lays_aux (b c : Bool) {M n o : Nat} (hn : n ≤ 12) : ∀ d j σ τ, j + d = n → iv_rvF σ τ M n o → iv_lw σ τ → ∃ (σ' τ' : ix_St) (sh : Nat → Nat), (∀ i, sh i ≤ 9) ∧ ix_S 88 5 10 [some (.ref 130), some (.ref 2), some (.int (nI j))] [] (ix_S0 b, σ) = some (.null, (ix_S0 b, σ')) ∧ ix_S 209 7 2 [some (.ref 135), some (.int (nI j))] [] (ix_S0 c, τ) = some (.null, (ix_S0 c, τ')) ∧ (∀ i, j ≤ i → i < n → σ' 131 i = nI (if o.testBit i = true then 0 else sh i) ∧ τ' 159 i = nI (sh i)) ∧ (∀ i, i < j → σ' 131 i = σ 131 i ∧ τ' 159 i = τ 159 i) ∧ (∀ z, z ≠ 18 → z ≠ 19 → z ≠ 131 → σ' z = σ z) ∧ ∀ z, z ≠ 156 → z ≠ 157 → z ≠ 159 → τ' z = τ z := by
  intro d
  induction d with
  | zero =>
    intro j σ τ hj hR hlw
    have : j = n := by omega
    subst this
    have a6 : σ 2 6 = nI j := hR.1.1.2.2.2.2.2.2.1
    have h7 : τ 135 7 = nI j := hR.2
    refine ⟨σ, τ, fun _ => 0, fun _ => Nat.zero_le 9, ?_, ?_, fun i h1 h2 => by omega, fun _ _ => ⟨rfl, rfl⟩, fun _ _ _ _ => rfl, fun _ _ _ _ => rfl⟩
    · rw [q_Poll_askAll_10, a6, if_pos (nI_le (Nat.le_refl _) (by omega))]
    · rw [q_M_findsLays_2, h7, if_pos (nI_le (Nat.le_refl _) (by omega))]
  | succ d ih =>
    intro j σ τ hj hR hlw
    have a6 : σ 2 6 = nI n := hR.1.1.2.2.2.2.2.2.1
    have a7 : σ 2 7 = nI o := hR.1.1.2.2.2.2.2.2.2
    have h7 : τ 135 7 = nI n := hR.2
    have ho : o < 2 ^ n := hR.1.2.2.1.1
    have hp := iv_p12 hn
    have k0 : ¬ nI n ≤ nI j := nI_ge (by omega) (by omega)
    have k1 : ¬ (nI j < 0 ∨ 12 ≤ j) := iv_ni (by omega) (by omega)
    have k3 : (nI j).toNatClampNeg = j := nI_clamp (by omega)
    have kov : ix_F 121 [.ref 2, .int (nI j)] (ix_S0 b, σ) = some (.int (iv_B (o.testBit j = true)), (ix_S0 b, σ)) := by
      rw [q_River_isOver_0, a7, iv_bit (by omega) (by omega)]
      by_cases h : o.testBit j = true
      · rw [if_pos (iv_B1.mpr h), iv_Bt h]
      · rw [if_neg (fun e => h (iv_B1.mp e)), iv_Bf h]
    obtain ⟨⟨v, σ1, τ1, hv, e1, e2, e3, e4⟩, -, -⟩ := f_told b c hn hR hlw (by omega : j < n) (by omega : j < n)
    have mod : ix_S 209 7 2 [some (.ref 135), some (.int (nI j))] [] (ix_S0 c, τ) = ix_S 209 7 2 [some (.ref 135), some (.int (nI (j + 1)))] [] (ix_S0 c, ix_up τ1 159 j (nI v)) := by
      rw [q_M_findsLays_2]
      simp only [h7, k0, k1, k3, e2, nI_1, if_false, Option.bind_some, iv_tI]
    have fin : ∀ (σ2 : ix_St) (x : Nat), (∀ z, z ≠ 18 → z ≠ 19 → σ2 z = σ z) → x = (if o.testBit j = true then 0 else v) → ∃ (σ' τ' : ix_St) (sh : Nat → Nat), (∀ i, sh i ≤ 9) ∧ ix_S 88 5 10 [some (.ref 130), some (.ref 2), some (.int (nI (j + 1)))] [] (ix_S0 b, ix_up σ2 131 j (nI x)) = some (.null, (ix_S0 b, σ')) ∧ ix_S 209 7 2 [some (.ref 135), some (.int (nI j))] [] (ix_S0 c, τ) = some (.null, (ix_S0 c, τ')) ∧ (∀ i, j ≤ i → i < n → σ' 131 i = nI (if o.testBit i = true then 0 else sh i) ∧ τ' 159 i = nI (sh i)) ∧ (∀ i, i < j → σ' 131 i = σ 131 i ∧ τ' 159 i = τ 159 i) ∧ (∀ z, z ≠ 18 → z ≠ 19 → z ≠ 131 → σ' z = σ z) ∧ ∀ z, z ≠ 156 → z ≠ 157 → z ≠ 159 → τ' z = τ z := by
      intro σ2 x f2 hx
      obtain ⟨σ', τ', sh, p0, p1, p2, p3, p4, p5, p6⟩ := ih (j + 1) (ix_up σ2 131 j (nI x)) (ix_up τ1 159 j (nI v)) (by omega)
        (iv_rvF_cong (fun z h1 h2 => (iv_upn (by omega)).trans (f2 z (by omega) (by omega))) (by rw [iv_upn (by omega), e4 135 (by omega) (by omega)]) (by rw [iv_upn (by omega), e4 135 (by omega) (by omega)]) ((iv_upn (by omega)).trans (e4 136 (by omega) (by omega))) ((iv_upn (by omega)).trans (e4 139 (by omega) (by omega))) ((iv_upn (by omega)).trans (e4 140 (by omega) (by omega))) ((iv_upn (by omega)).trans (e4 141 (by omega) (by omega))) hR)
        (iv_lw_cong (fun z h1 h2 => (iv_upn (by omega)).trans (f2 z (by omega) (by omega))) (fun z h1 h2 => (iv_upn (by omega)).trans (e4 z (by omega) (by omega))) hlw)
      refine ⟨σ', τ', fun i => if i = j then v else sh i, fun i => ?_, p1, mod.trans p2, fun i h1 h2 => ?_, fun i hi => ?_, fun z z1 z2 z3 => ?_, fun z z1 z2 z3 => ?_⟩
      · show (if i = j then v else sh i) ≤ 9
        split
        · exact hv
        · exact p0 i
      · by_cases e : i = j
        · subst e
          obtain ⟨g1, g2⟩ := p4 i (by omega)
          rw [g1, g2]
          show upd (σ2 131) i (nI x) i = _ ∧ upd (τ1 159) i (nI v) i = _
          rw [pk_us, pk_us]
          simp only [if_true, hx, and_self]
        · simp only [e, if_false]
          exact p3 i (by omega) h2
      · obtain ⟨g1, g2⟩ := p4 i (by omega)
        rw [g1, g2]
        show upd (σ2 131) j (nI x) i = _ ∧ upd (τ1 159) j (nI v) i = _
        rw [pk_un (by omega), pk_un (by omega), f2 131 (by omega) (by omega), e4 159 (by omega) (by omega)]
        exact ⟨rfl, rfl⟩
      · rw [p5 z z1 z2 z3, iv_upn z3, f2 z z1 z2]
      · rw [p6 z z1 z2 z3, iv_upn z3, e4 z z1 z2]
    by_cases h : o.testBit j = true
    · obtain ⟨σ', τ', sh, p0, p1, pr⟩ := fin σ 0 (fun _ _ _ => rfl) (by rw [if_pos h])
      refine ⟨σ', τ', sh, p0, ?_, pr⟩
      rw [q_Poll_askAll_10]
      simp only [a6, k0, k1, k3, kov, iv_Bt h, iv_10, nI_1, if_false, Option.bind_some, iv_tI]
      exact p1
    · obtain ⟨σ', τ', sh, p0, p1, pr⟩ := fin σ1 v e3 (by rw [if_neg h])
      refine ⟨σ', τ', sh, p0, ?_, pr⟩
      rw [q_Poll_askAll_10]
      simp only [a6, k0, k1, k3, kov, iv_Bf h, e1, nI_1, if_true, if_false, Option.bind_some, iv_tI]
      exact p1
theorem f_lays (b c : Bool) {σ τ : ix_St} {M n o : Nat} (hn : n ≤ 12) (hR : iv_rvF σ τ M n o) (hlw : iv_lw σ τ) : ∃ (σ' τ' : ix_St) (sh : Nat → Nat), (∀ i, sh i ≤ 9) ∧ ix_F 88 [.ref 130] (ix_S0 b, σ) = some (.null, (ix_S0 b, σ')) ∧ ix_F 209 [.ref 135] (ix_S0 c, τ) = some (.null, (ix_S0 c, τ')) ∧ (∀ i, i < n → σ' 131 i = nI (if o.testBit i = true then 0 else sh i) ∧ τ' 159 i = nI (sh i)) ∧ (∀ z, z ≠ 18 → z ≠ 19 → z ≠ 131 → σ' z = σ z) ∧ ∀ z, z ≠ 156 → z ≠ 157 → z ≠ 159 → τ' z = τ z := by
  obtain ⟨σ', τ', sh, p0, p1, p2, p3, -, p5, p6⟩ := f_lays_aux b c hn n 0 σ τ (by omega) hR hlw
  refine ⟨σ', τ', sh, p0, ?_, ?_, fun i hi => p3 i (by omega) hi, p5, p6⟩
  · rw [q_Poll_askAll_0]; exact p1
  · rw [q_M_findsLays_0]; exact p2
