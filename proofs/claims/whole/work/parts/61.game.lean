/-! the shells of all, as they are asked in thought; the game -/
def iv_L (σ τ : ix_St) (n o : Nat) (sh : Nat → Nat) : Prop := (∀ i, sh i ≤ 9) ∧ ∀ i, i < n → σ 131 i = nI (if o.testBit i = true then 0 else sh i) ∧ τ 159 i = nI (sh i)
theorem iv_L_cong {σ σ' τ τ' : ix_St} {n o : Nat} {sh : Nat → Nat} (h1 : σ' 131 = σ 131) (h2 : τ' 159 = τ 159) (h : iv_L σ τ n o sh) : iv_L σ' τ' n o sh := by
  unfold iv_L at h ⊢
  rw [h1, h2]
  exact h
theorem iv_kX_131 {σ σ' : ix_St} (h : ∀ z, z ≠ 18 → z ≠ 19 → z ≠ 131 → σ' z = σ z) : iv_kX σ σ' := fun c _ hs => h c (fun e => hs (by unfold iv_scX; omega)) (fun e => hs (by unfold iv_scX; omega)) (fun e => hs (by unfold iv_scX; omega))
theorem iv_kM_159 {τ τ' : ix_St} (h : ∀ z, z ≠ 156 → z ≠ 157 → z ≠ 159 → τ' z = τ z) : iv_kM τ τ' := ⟨fun c _ _ hs => h c (fun e => hs (by unfold iv_scM; omega)) (fun e => hs (by unfold iv_scM; omega)) (fun e => hs (by unfold iv_scM; omega)), fun i _ => by rw [h 135 (by omega) (by omega) (by omega)]⟩
theorem f_poll (b c : Bool) {σ τ : ix_St} {M n o : Nat} (hn : n ≤ 12) (hw : iv_wor σ (iv_mv τ) M n o) : ∃ (σ' τ' : ix_St) (sh : Nat → Nat), ix_F 88 [.ref 130] (ix_S0 b, σ) = some (.null, (ix_S0 b, σ')) ∧ ix_F 209 [.ref 135] (ix_S0 c, τ) = some (.null, (ix_S0 c, τ')) ∧ iv_V σ' τ' n o ∧ iv_L σ' τ' n o sh ∧ (∀ z, z ≠ 18 → z ≠ 19 → z ≠ 131 → σ' z = σ z) ∧ ∀ z, z ≠ 156 → z ≠ 157 → z ≠ 159 → τ' z = τ z := by
  obtain ⟨σ', τ', sh, h1, h2, h3, h4, h5, h6⟩ := f_lays b c hn (iv_rvF_of hw) (iv_lw_of hw)
  exact ⟨σ', τ', sh, h2, h3, iv_V_cong (h5 2 (by omega) (by omega) (by omega)) (h5 3 (by omega) (by omega) (by omega)) (by rw [h6 135 (by omega) (by omega) (by omega)]) (h6 136 (by omega) (by omega) (by omega)) (iv_V_of hn hw), ⟨h1, h4⟩, h5, h6⟩
theorem iv_V_lt {σ τ : ix_St} {n o : Nat} (hV : iv_V σ τ n o) : iv_he n o < 4096 := iv_he_31 hV.1 hV.2.2.2.2.1
theorem f_hereV (c : Bool) {σ τ : ix_St} {n o : Nat} (hV : iv_V σ τ n o) : ix_F 196 [.ref 135] (ix_S0 c, τ) = some (.int (nI (iv_he n o)), (ix_S0 c, τ)) := f_hereM c hV.1 hV.2.2.2.1 hV.2.2.2.2.1 hV.2.2.2.2.2.1
theorem f_hasV (c : Bool) {σ τ : ix_St} {n o j : Nat} (hV : iv_V σ τ n o) (hj : j < n) : ix_F 197 [.ref 135, .int (nI (iv_he n o)), .int (nI j)] (ix_S0 c, τ) = some (.int (iv_B (¬ o.testBit j = true)), (ix_S0 c, τ)) := by
  have h := iv_V_lt hV
  have hn := hV.1
  rw [f_hasM c τ (by omega) (by omega)]
  have e : iv_B ((iv_he n o).testBit j = true) = iv_B (¬ o.testBit j = true) := iv_Bc (by
    rw [iv_he_bit hV.2.2.2.2.1]
    simp [hj])
  rw [e]
def iv_wt (v : Int32) : Int32 := if v = 0 then 0 else 2 - (v - v / 2 * 2)
theorem f_worth (b : Bool) (v : Int32) (σ : ix_St) : ix_F 113 [.int v] (ix_S0 b, σ) = some (.int (iv_wt v), (ix_S0 b, σ)) := by
  rw [q_Poll_worth_0]
  unfold iv_wt
  by_cases h : v = 0
  · rw [if_pos h, if_pos h]
  · rw [if_neg h, if_neg h]
theorem f_nimber (c : Bool) (v : Int32) (τ : ix_St) : ix_F 225 [.ref 135, .int v] (ix_S0 c, τ) = some (.int (iv_wt v), (ix_S0 c, τ)) := by
  rw [q_M_nimber_0]
  unfold iv_wt
  by_cases h : v = 0
  · rw [if_pos h, if_pos h]
  · rw [if_neg h, if_neg h]
theorem f_gm1 (b c : Bool) {σ τ : ix_St} {n o : Nat} {sh : Nat → Nat} (hV : iv_V σ τ n o) (hL : iv_L σ τ n o sh) (v1 : Int32) : ∀ d j x, j + d = n → ∃ y, ix_S 102 2 4 [some (.ref 130), some (.int v1), some (.int x), some (.int (nI j)), none] [] (ix_S0 b, σ) = ix_S 102 2 38 [some (.ref 130), some (.int v1), some (.int y), some (.int 0), none] [] (ix_S0 b, σ) ∧ ix_S 184 8 31 [some (.ref 135), some (.int v1), some (.int (nI (iv_he n o))), some (.int x), some (.int (nI j)), none] [] (ix_S0 c, τ) = ix_S 184 8 73 [some (.ref 135), some (.int v1), some (.int (nI (iv_he n o))), some (.int y), some (.int 0), none] [] (ix_S0 c, τ) := by
  obtain ⟨hn, h6, h7, m7, ho, hov, hr⟩ := id hV
  intro d
  induction d with
  | zero =>
    intro j x hj
    have : j = n := by omega
    subst this
    refine ⟨x, ?_, ?_⟩
    · rw [q_Poll_goodMove_4, h6, if_pos (nI_le (Nat.le_refl _) (by omega))]
    · rw [q_M_game_31, m7, if_pos (nI_le (Nat.le_refl _) (by omega))]
  | succ d ih =>
    intro j x hj
    have k0 : ¬ nI n ≤ nI j := nI_ge (by omega) (by omega)
    have k1 : ¬ (nI j < 0 ∨ 12 ≤ j) := iv_ni (by omega) (by omega)
    have k3 : (nI j).toNatClampNeg = j := nI_clamp (by omega)
    have hl := hL.2 j (by omega)
    by_cases hb : o.testBit j = true
    · obtain ⟨y, g1, g2⟩ := ih (j + 1) x (by omega)
      refine ⟨y, ?_, ?_⟩
      · rw [q_Poll_goodMove_4]
        simp only [h6, k0, k1, k3, hl.1, hb, f_worth, nI_1, if_true, if_false, Option.bind_some, iv_tI]
        rw [show x ^^^ iv_wt (nI 0) = x by show x ^^^ 0 = x; exact Int32.xor_zero]
        exact g1
      · rw [q_M_game_31]
        simp only [m7, k0, f_hasV c hV (show j < n by omega), iv_Bf (show ¬ ¬ o.testBit j = true from fun h => h hb), nI_1, if_true, if_false, Option.bind_some, iv_tI]
        exact g2
    · obtain ⟨y, g1, g2⟩ := ih (j + 1) (x ^^^ iv_wt (nI (sh j))) (by omega)
      refine ⟨y, ?_, ?_⟩
      · rw [q_Poll_goodMove_4]
        simp only [h6, k0, k1, k3, hl.1, hb, f_worth, nI_1, if_true, if_false, Option.bind_some, iv_tI]
        exact g1
      · rw [q_M_game_31]
        simp only [m7, k0, k1, k3, hl.2, f_hasV c hV (show j < n by omega), iv_Bt hb, iv_10, f_nimber, nI_1, if_true, if_false, Option.bind_some, iv_tI]
        exact g2
theorem f_gm2 (b c : Bool) {σ τ : ix_St} {n o : Nat} {sh : Nat → Nat} (hV : iv_V σ τ n o) (hL : iv_L σ τ n o sh) (v1 x : Int32) : ∀ d j, j + d = n → ∃ r, ix_S 102 2 38 [some (.ref 130), some (.int v1), some (.int x), some (.int (nI j)), none] [] (ix_S0 b, σ) = some (.int r, (ix_S0 b, σ)) ∧ ix_S 184 8 73 [some (.ref 135), some (.int v1), some (.int (nI (iv_he n o))), some (.int x), some (.int (nI j)), none] [] (ix_S0 c, τ) = some (.int r, (ix_S0 c, τ)) := by
  obtain ⟨hn, h6, h7, m7, ho, hov, hr⟩ := id hV
  intro d
  induction d with
  | zero =>
    intro j hj
    have : j = n := by omega
    subst this
    refine ⟨-1, ?_, ?_⟩
    · rw [q_Poll_goodMove_38, h6, if_pos (nI_le (Nat.le_refl _) (by omega))]
    · rw [q_M_game_73, m7, if_pos (nI_le (Nat.le_refl _) (by omega))]
  | succ d ih =>
    intro j hj
    have k0 : ¬ nI n ≤ nI j := nI_ge (by omega) (by omega)
    have k1 : ¬ (nI j < 0 ∨ 12 ≤ j) := iv_ni (by omega) (by omega)
    have k3 : (nI j).toNatClampNeg = j := nI_clamp (by omega)
    have hl := hL.2 j (by omega)
    have hs := hL.1 j
    obtain ⟨r, g1, g2⟩ := ih (j + 1) (by omega)
    have z0 : nI 0 ≤ 0 := by decide
    by_cases hb : o.testBit j = true
    · refine ⟨r, ?_, ?_⟩
      · rw [q_Poll_goodMove_38]
        simp only [h6, k0, k1, k3, hl.1, hb, z0, f_worth, nI_1, if_true, if_false, Option.bind_some, iv_tI]
        exact g1
      · rw [q_M_game_73]
        simp only [m7, k0, f_hasV c hV (show j < n by omega), iv_Bf (show ¬ ¬ o.testBit j = true from fun h => h hb), nI_1, if_true, if_false, Option.bind_some, iv_tI]
        exact g2
    · have hl1 : σ 131 j = nI (sh j) := by rw [hl.1, if_neg hb]
      by_cases h0 : sh j = 0
      · have z1 : nI 0 = 0 := rfl
        refine ⟨r, ?_, ?_⟩
        · rw [q_Poll_goodMove_38]
          simp only [h6, k0, k1, k3, hl1, h0, z0, f_worth, nI_1, if_true, if_false, Option.bind_some, iv_tI]
          exact g1
        · rw [q_M_game_73]
          simp only [m7, k0, k1, k3, hl.2, h0, z1, f_hasV c hV (show j < n by omega), iv_Bt hb, iv_10, nI_1, if_true, if_false, Option.bind_some, iv_tI]
          exact g2
      · have p0 : ¬ nI (sh j) ≤ 0 := nI_nle (by omega) (by omega)
        have p1 : ¬ nI (sh j) = 0 := nI_ne0 (by omega) (by omega)
        by_cases h2 : iv_wt (nI (sh j) - 1) = x ^^^ iv_wt (nI (sh j))
        · by_cases h3 : v1 = 0
          · refine ⟨nI j, ?_, ?_⟩
            · rw [q_Poll_goodMove_38]
              simp only [h6, k0, k1, k3, hl1, p0, h2, h3, f_worth, nI_1, if_true, if_false, Option.bind_some, iv_tI]
            · rw [q_M_game_73]
              simp only [m7, k0, k1, k3, hl.2, p1, h2, h3, f_hasV c hV (show j < n by omega), iv_Bt hb, iv_10, f_nimber, nI_1, if_true, if_false, Option.bind_some, iv_tI]
          · refine ⟨1, ?_, ?_⟩
            · rw [q_Poll_goodMove_38]
              simp only [h6, k0, k1, k3, hl1, p0, h2, h3, f_worth, nI_1, if_true, if_false, Option.bind_some, iv_tI]
            · rw [q_M_game_73]
              simp only [m7, k0, k1, k3, hl.2, p1, h2, h3, f_hasV c hV (show j < n by omega), iv_Bt hb, iv_10, f_nimber, nI_1, if_true, if_false, Option.bind_some, iv_tI]
        · by_cases h4 : x ^^^ iv_wt (nI (sh j)) = 0
          · have h2' : ¬ iv_wt (nI (sh j) - 1) = 0 := by rw [← h4]; exact h2
            by_cases h3 : v1 = 0
            · refine ⟨nI j, ?_, ?_⟩
              · rw [q_Poll_goodMove_38]
                simp only [h6, k0, k1, k3, hl1, p0, h2', h3, h4, f_worth, nI_1, if_true, if_false, Option.bind_some, iv_tI]
              · rw [q_M_game_73]
                simp only [m7, k0, k1, k3, hl.2, p1, h2', h3, h4, f_hasV c hV (show j < n by omega), iv_Bt hb, iv_10, f_nimber, nI_1, if_true, if_false, Option.bind_some, iv_tI]
            · refine ⟨nI (sh j), ?_, ?_⟩
              · rw [q_Poll_goodMove_38]
                simp only [h6, k0, k1, k3, hl1, p0, h2', h3, h4, f_worth, nI_1, if_true, if_false, Option.bind_some, iv_tI]
              · rw [q_M_game_73]
                simp only [m7, k0, k1, k3, hl.2, p1, h2', h3, h4, f_hasV c hV (show j < n by omega), iv_Bt hb, iv_10, f_nimber, nI_1, if_true, if_false, Option.bind_some, iv_tI]
          · refine ⟨r, ?_, ?_⟩
            · rw [q_Poll_goodMove_38]
              simp only [h6, k0, k1, k3, hl1, p0, h2, h4, f_worth, nI_1, if_true, if_false, Option.bind_some, iv_tI]
              exact g1
            · rw [q_M_game_73]
              simp only [m7, k0, k1, k3, hl.2, p1, h2, h4, f_hasV c hV (show j < n by omega), iv_Bt hb, iv_10, f_nimber, nI_1, if_true, if_false, Option.bind_some, iv_tI]
              exact g2
theorem iv_is01 {v : Int32} : (0 ≤ v ∧ v ≤ 1) ↔ (¬ v < 0 ∧ v ≤ 1) := ⟨fun h => ⟨iv_nlt.mpr h.1, h.2⟩, fun h => ⟨iv_nlt.mp h.1, h.2⟩⟩
theorem s_game (E : ix_St) (v : Int32) : iv_S E 29 184 [.int v] := by
  intro k b c σ τ hk hE hR
  have hK := iv_R_keep iv_kX.rf (iv_kM_told τ 0) hR
  have hR0 := iv_R_told (v := 0) hR
  obtain ⟨n, o, hn, hw, -⟩ := iv_R_told (v := 0) hR
  rw [q_X_game_0, q_M_game_0, f_isIn]
  simp only [Option.bind_some, iv_tI]
  by_cases h1 : 0 ≤ v ∧ v ≤ 1
  · rw [if_neg (iv_nlt.mpr h1.1), if_pos h1.2, if_neg (fun h => iv_B0.mp h h1)]
    obtain ⟨σ', τ', sh, e1, e2, hV, hL, e3, e4⟩ := f_poll b c hn hw
    rw [e1, e2]
    simp only [Option.bind_some]
    rw [f_hereV c hV, q_Poll_goodMove_0]
    simp only [Option.bind_some, iv_tI]
    obtain ⟨y, g1, g2⟩ := f_gm1 b c hV hL v n 0 0 (by omega)
    obtain ⟨r, g3, g4⟩ := f_gm2 b c hV hL v y n 0 (by omega)
    have g1' : ix_S 102 2 4 [some (.ref 130), some (.int v), some (.int 0), some (.int 0), none] [] (ix_S0 b, σ') = _ := g1.trans g3
    have g2' : ix_S 184 8 31 [some (.ref 135), some (.int v), some (.int (nI (iv_he n o))), some (.int 0), some (.int 0), none] [] (ix_S0 c, τ') = _ := g2.trans g4
    rw [g1', g2']
    exact ⟨_, b, _, _, rfl, rfl, iv_R_keep (iv_kX_131 e3) (iv_kM_159 e4) hR0⟩
  · rw [if_pos (iv_B0.mpr h1)]
    by_cases h2 : v < 0
    · rw [if_pos h2]
      exact ⟨_, b, _, _, rfl, rfl, hK⟩
    · rw [if_neg h2, if_neg (fun h => h1 ⟨iv_nlt.mp h2, h⟩)]
      exact ⟨_, b, _, _, rfl, rfl, hK⟩
