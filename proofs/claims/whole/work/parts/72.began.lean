/-! where what was seen can have begun -/
theorem f_begin (b c : Bool) {σ τ : ix_St} {m : Nat} (hm : m ≤ 20) (h5 : σ 1 5 = nI m) (h47 : τ 135 47 = nI m) (hse : ∀ j, j < 20 → σ 27 j = τ 161 j) (hsea : iv_sea (σ 23) (σ 24) (τ 155) (τ 135 39)) : ∀ d j L ag, j + d = m → L < 6 → ∃ r, ix_S 155 2 8 [some (.ref 1), none, none, some (.int (nI L)), some (.int ag), some (.int (nI j))] [] (ix_S0 b, σ) = some (.int r, (ix_S0 b, σ)) ∧ ix_S 223 3 8 [some (.ref 135), none, none, some (.int (nI L)), some (.int ag), some (.int (nI j))] [] (ix_S0 c, τ) = some (.int r, (ix_S0 c, τ)) := by
  intro d
  induction d with
  | zero =>
    intro j L ag hj hL
    have : j = m := by omega
    subst this
    refine ⟨1, ?_, ?_⟩
    · rw [q_World_couldBegin_8, h5, if_pos (nI_le (Nat.le_refl _) (by omega))]
    · rw [q_M_canBegin_8, h47, if_pos (nI_le (Nat.le_refl _) (by omega))]
  | succ d ih =>
    intro j L ag hj hL
    have k0 : ¬ nI m ≤ nI j := nI_ge (by omega) (by omega)
    have k1 : ¬ (nI j < 0 ∨ 20 ≤ j) := iv_ni (by omega) (by omega)
    have k3 : (nI j).toNatClampNeg = j := nI_clamp (by omega)
    have y1 : ¬ (nI L < 0 ∨ 6 ≤ L) := iv_ni (by omega) (by omega)
    have y3 : (nI L).toNatClampNeg = L := nI_clamp (by omega)
    have hj2 := hse j (by omega)
    rw [q_World_couldBegin_8, q_M_canBegin_8, h5, h47, if_neg k0, if_neg k0, k3, nI_1, hj2]
    by_cases h0 : j = 0
    · subst h0
      rw [if_pos (show nI 0 ≤ 0 by decide), if_pos (show nI 0 ≤ 0 by decide), if_neg k1, if_neg k1]
      by_cases e : nI L = τ 161 0
      · rw [if_pos e, if_pos e]
        exact ih (0 + 1) L ag (by omega) hL
      · rw [if_neg e, if_neg e]
        exact ⟨0, rfl, rfl⟩
    · have j0 : ¬ nI j ≤ 0 := nI_nle (by omega) (by omega)
      rw [if_neg j0, if_neg j0]
      rcases f_turns b c hL (ag + 1) hsea with ⟨t1, t2⟩ | ⟨t1, t2, k, hk, t3, t4, L', hL', t5⟩
      · rw [t1, t2]
        simp only [Option.bind_some, iv_tI]
        rw [if_pos trivial, if_pos trivial, if_neg k1, if_neg k1, hj2]
        by_cases e : nI L = τ 161 j
        · rw [if_pos e, if_pos e]
          exact ih (j + 1) L (ag + 1) (by omega) hL
        · rw [if_neg e, if_neg e]
          exact ⟨0, rfl, rfl⟩
      · rw [t1, t2]
        simp only [Option.bind_some, iv_tI]
        have m2 : nI (3 * k) + 2 = nI (3 * k + 2) := nI_add _ 2
        rw [if_neg (show ¬ (1 : Int32) = 0 by decide), if_neg (show ¬ (1 : Int32) = 0 by decide), t3]
        simp only [Option.bind_some, iv_tI]
        rw [m2, nI_clamp (n := 3 * k + 2) (by omega), if_neg (iv_ni (x := 3 * k + 2) (N := 96) (by omega) (by omega)), t4, y3, if_neg y1, if_neg k1, if_neg k1, hj2, t5]
        by_cases e : nI L' = τ 161 j
        · rw [if_pos e, if_pos e]
          exact ih (j + 1) L' 0 (by omega) (by omega)
        · rw [if_neg e, if_neg e]
          exact ⟨0, rfl, rfl⟩
theorem f_ages (b c : Bool) {σ τ : ix_St} (v : Int32) {L : Nat} (hB : ∀ ag, ∃ r, ix_F 155 [.ref 1, .int (nI L), .int ag] (ix_S0 b, σ) = some (.int r, (ix_S0 b, σ)) ∧ ix_F 223 [.ref 135, .int (nI L), .int ag] (ix_S0 c, τ) = some (.int r, (ix_S0 c, τ))) : ∀ d j x y, j + d = 99 → ∃ x' y', ix_S 153 3 17 [some (.ref 1), some (.int v), some (.int x), some (.int y), some (.int (nI L)), some (.int (nI j))] [] (ix_S0 b, σ) = ix_S 153 3 7 [some (.ref 1), some (.int v), some (.int x'), some (.int y'), some (.int (nI (L + 1))), none] [] (ix_S0 b, σ) ∧ ix_S 181 4 34 [some (.ref 135), some (.int v), some (.int x), some (.int y), some (.int (nI L)), some (.int (nI j))] [] (ix_S0 c, τ) = ix_S 181 4 24 [some (.ref 135), some (.int v), some (.int x'), some (.int y'), some (.int (nI (L + 1))), none] [] (ix_S0 c, τ) := by
  intro d
  induction d with
  | zero =>
    intro j x y hj
    have : j = 99 := by omega
    subst this
    refine ⟨x, y, ?_, ?_⟩
    · rw [q_World_beginnings_17, if_pos (show (98 : Int32) < nI 99 by decide), nI_1]
    · rw [q_M_began_34, if_pos (show (99 : Int32) ≤ nI 99 by decide), nI_1]
  | succ d ih =>
    intro j x y hj
    obtain ⟨r, e1, e2⟩ := hB (nI j)
    rw [q_World_beginnings_17, q_M_began_34, if_neg (show ¬ (98 : Int32) < nI j from nI_nlt (a := 98) (by omega) (by omega)), if_neg (show ¬ (99 : Int32) ≤ nI j from nI_ge (b := 99) (by omega) (by omega)), e1, e2, nI_1]
    simp only [Option.bind_some, iv_tI]
    by_cases h0 : r = 0
    · rw [if_pos h0, if_pos h0]
      exact ih (j + 1) x y (by omega)
    · rw [if_neg h0, if_neg h0]
      by_cases h1 : y = -1
      · rw [if_pos h1, if_pos h1]
        exact ih (j + 1) _ _ (by omega)
      · rw [if_neg h1, if_neg h1]
        exact ih (j + 1) _ _ (by omega)
theorem f_lands (b c : Bool) {σ τ : ix_St} (v : Int32) (hB : ∀ L, L < 6 → ∀ ag, ∃ r, ix_F 155 [.ref 1, .int (nI L), .int ag] (ix_S0 b, σ) = some (.int r, (ix_S0 b, σ)) ∧ ix_F 223 [.ref 135, .int (nI L), .int ag] (ix_S0 c, τ) = some (.int r, (ix_S0 c, τ))) : ∀ d L x y, L + d = 6 → ∃ r, ix_S 153 3 7 [some (.ref 1), some (.int v), some (.int x), some (.int y), some (.int (nI L)), none] [] (ix_S0 b, σ) = some (.int r, (ix_S0 b, σ)) ∧ ix_S 181 4 24 [some (.ref 135), some (.int v), some (.int x), some (.int y), some (.int (nI L)), none] [] (ix_S0 c, τ) = some (.int r, (ix_S0 c, τ)) := by
  intro d
  induction d with
  | zero =>
    intro L x y hL
    have : L = 6 := by omega
    subst this
    rw [q_World_beginnings_7, q_M_began_24, if_pos (show (6 : Int32) ≤ nI 6 by decide), if_pos (show (6 : Int32) ≤ nI 6 by decide)]
    by_cases h : v = 0
    · rw [if_pos h, if_pos h]; exact ⟨_, rfl, rfl⟩
    · rw [if_neg h, if_neg h]; exact ⟨_, rfl, rfl⟩
  | succ d ih =>
    intro L x y hL
    have k6 : ¬ (6 : Int32) ≤ nI L := nI_ge (b := 6) (by omega) (by omega)
    rw [q_World_beginnings_7, q_M_began_24, if_neg k6, if_neg k6]
    obtain ⟨x', y', g1, g2⟩ := f_ages b c v (hB L (by omega)) 99 0 x y (by omega)
    obtain ⟨r, g3, g4⟩ := ih (L + 1) x' y' (by omega)
    exact ⟨r, g1.trans g3, g2.trans g4⟩
theorem s_began (E : ix_St) (v : Int32) : iv_S E 26 181 [.int v] := by
  intro k b c σ τ hk hE hR
  have hK := iv_R_keep iv_kX.rf (iv_kM_told τ 0) hR
  obtain ⟨n, o, hn, hw, -⟩ := iv_R_told (v := 0) hR
  obtain ⟨m, hm, m1, m2, m3, -⟩ := hw.2.2.2.2.2.2.2.2
  have hsea := hw.2.2.2.2.2.1
  rw [q_X_began_0, q_M_began_0, f_isIn]
  simp only [Option.bind_some, iv_tI]
  by_cases h1 : 0 ≤ v ∧ v ≤ 1
  · rw [if_neg (iv_nlt.mpr h1.1), if_pos h1.2, if_neg (fun h => iv_B0.mp h h1), q_World_beginnings_0]
    obtain ⟨r, g1, g2⟩ := f_lands b c (σ := σ) (τ := ix_up τ 135 0 0) v (fun L hL ag => by
      rw [q_World_couldBegin_0, q_M_canBegin_0]
      exact f_begin b c (τ := ix_up τ 135 0 0) hm m1 m2 m3 hsea m 0 L ag (by omega) hL) 6 0 0 (-1) (by omega)
    have g1' : ix_S 153 3 7 [some (.ref 1), some (.int v), some (.int 0), some (.int (-1)), some (.int 0), none] [] (ix_S0 b, σ) = _ := g1
    have g2' : ix_S 181 4 24 [some (.ref 135), some (.int v), some (.int 0), some (.int (-1)), some (.int 0), none] [] (ix_S0 c, ix_up τ 135 0 0) = _ := g2
    rw [g1', g2']
    exact ⟨r, b, _, _, rfl, rfl, hK⟩
  · rw [if_pos (iv_B0.mpr h1)]
    by_cases h2 : v < 0
    · rw [if_pos h2]
      exact ⟨_, b, _, _, rfl, rfl, hK⟩
    · rw [if_neg h2, if_neg (fun h => h1 ⟨iv_nlt.mp h2, h⟩)]
      exact ⟨_, b, _, _, rfl, rfl, hK⟩
