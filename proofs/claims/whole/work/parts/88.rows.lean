/-! a line of the log, all of them -/
def tx_D2 (σ τ : ix_St) (i : Nat) : Prop := ∃ N, N ≤ 12 ∧ τ 135 7 = nI N ∧ σ 105 4 = nI (2 ^ N - 1) ∧ ∀ j, j < i → σ 116 j = τ 154 (32 + 2 * j) ∧ σ 117 j = τ 154 (33 + 2 * j)
theorem l_row {b d : Bool} {n a t i : Nat} {c : Nat → Nat} {σ τ : ix_St} (h : tx_J 2 c t n a σ τ) (hw : (tx_tn c t a).1 = 2 ∧ (tx_tn c t a).2.1 = 20) (hi : i < 16) (hD : tx_D2 σ τ i) : ∃ v w σ' τ', ix_F 71 [.ref 105, .int (nI i)] (ix_S0 b, σ) = some (.int v, (ix_S0 b, σ')) ∧ ix_F 257 [.ref 135, .int (nI (32 + 2 * i))] (ix_S0 d, τ) = some (.int w, (ix_S0 d, τ')) ∧ tx_FX σ σ' ∧ tx_FM τ τ' ∧ σ' 120 = σ 120 ∧ ((v = 0 ∧ w = -1 ∧ tx_bad σ' τ') ∨ (v = 1 ∧ w = 0 ∧ ∃ a', a < a' ∧ tx_J 2 c t n a' σ' τ' ∧ tx_D2 σ' τ' (i + 1))) := by
  obtain ⟨-, -, -, w1, -⟩ := tx_wds
  obtain ⟨N, hN, h7, h4, hD⟩ := hD
  have hA := tx_p12 hN
  have hAO : ∀ x, x < 12 → ((2 ^ N - 1).testBit x = true ↔ x < N ∧ (4095 : Nat).testBit x = true) := by
    intro x hx
    rw [tx_eve, decide_eq_true_eq]
    have : (4095 : Nat).testBit x = true := by
      rw [show (4095 : Nat) = 2 ^ 12 - 1 from rfl, tx_eve, decide_eq_true_eq]; exact hx
    exact ⟨fun q => ⟨q, this⟩, fun q => q.1⟩
  obtain ⟨σ1, v2, w2, σ2, τ2, a1, a2, a3, a4, a5, a6, a7⟩ := j_set (b := b) (d := d) hN hA (O := 4095) (by decide) hAO h (by omega) h7
  have a4' : ix_F 275 [.ref 135, .int (4095 : Int32)] (ix_S0 d, τ) = some (.int w2, (ix_S0 d, τ2)) := a4
  have hin0 : ¬ (nI (32 + 2 * i) < 0 ∨ 64 ≤ 32 + 2 * i) := tx_in (by omega) (by omega)
  have hin1 : ¬ (nI (32 + 2 * i + 1) < 0 ∨ 64 ≤ 32 + 2 * i + 1) := tx_in (by omega) (by omega)
  have hii : ¬ (nI i < 0 ∨ 16 ≤ i) := tx_in (by omega) (by omega)
  have h16 : ¬ (16 : Int32) ≤ nI i := nI_ge (b := 16) (by omega) (by omega)
  have hu : ∀ (ρ : ix_St) (q : Nat) (x : Int32), upd (ρ 154) q x q = x := fun ρ q x => pk_us
  rw [q_Parser_readRow_0, q_M_readLogLine_0, a1, a4']
  simp only [Option.bind_some, iv_tI]
  rw [a2, h4, a3, nI_1]
  simp only [Option.bind_some, iv_tI]
  rw [nI_clamp (show 32 + 2 * i < 2 ^ 31 by omega), if_neg hin0, if_neg hin0, hu]
  rcases a7 with ⟨rfl, rfl, a8⟩ | ⟨S, a', hS0, hS, hSA, rfl, rfl, haa, a8⟩
  · rw [if_pos rfl, if_pos rfl]
    exact ⟨0, -1, _, _, rfl, rfl, a5.FX, a6.FM.tr (tx_FM.up (by omega)), a5.1 120 (by omega) (by omega), Or.inl ⟨rfl, rfl, ⟨a8.1.trans (by rw [iv_upn (by omega)]), a8.2.trans (by rw [iv_upn (by omega)])⟩⟩⟩
  have hS2 : S < 4096 := hS
  rw [if_neg (nI_ne0 (by omega) (by omega)), if_neg (iv_m1 (by omega))]
  have J2 := a8.upM (z := 154) (i := 32 + 2 * i) (v := nI S) (by omega)
  obtain ⟨i1, i2⟩ := j_isW (d := d) J2 (w := 1) (g := 21) (by omega) (by omega) w1
  have i2' : ix_F 254 [.ref 135, .int (21 : Int32)] (ix_S0 d, ix_up τ2 154 (32 + 2 * i) (nI S)) = _ := i2
  have h72 : ix_up τ2 154 (32 + 2 * i) (nI S) 135 7 = nI N := by
    rw [iv_upn (by omega)]
    exact (a6.2 7 (by omega) (by omega) (by omega) (by omega) (by omega) (by omega)).trans h7
  -- the end of a line, whatever set stays
  have fin : ∀ (σ3 τ3 : ix_St) (x : Int32) (a3 : Nat), a < a3 → tx_fa σ2 σ3 → tx_fb (ix_up τ2 154 (32 + 2 * i) (nI S)) τ3 → tx_J 2 c t n a3 σ3 τ3 → ∃ v5 w5 σ5 τ5, ix_F 75 [.ref 105, .int (59 : Int32)] (ix_S0 b, ix_up (ix_up σ3 116 i (nI S)) 117 i x) = some (.int v5, (ix_S0 b, σ5)) ∧ ix_F 274 [.ref 135, .int (59 : Int32)] (ix_S0 d, ix_up τ3 154 (32 + 2 * i + 1) x) = some (.int w5, (ix_S0 d, τ5)) ∧ (v5 = 0 ∨ v5 = 1) ∧ tx_FX σ σ5 ∧ tx_FM τ τ5 ∧ σ5 120 = σ 120 ∧ ((v5 = 0 ∧ w5 = -1 ∧ tx_bad σ5 τ5) ∨ (v5 = 1 ∧ w5 = 0 ∧ ∃ a', a < a' ∧ tx_J 2 c t n a' σ5 τ5 ∧ tx_D2 σ5 τ5 (i + 1))) := by
    intro σ3 τ3 x a3 h1 h2 h3 J3
    have J5 := ((J3.upX (z := 116) (i := i) (v := nI S) (by omega)).upX (z := 117) (i := i) (v := x) (by omega)).upM (z := 154) (i := 32 + 2 * i + 1) (v := x) (by omega)
    obtain ⟨v5, w5, σ5, τ5, k1, k2, k3, k4, k5⟩ := j_mark (b := b) (d := d) J5 (g := 59) (by decide)
    have fX : tx_FX σ σ5 := ((a5.tr h2).FX.tr ((tx_FX.up (by omega)).tr (tx_FX.up (by omega)))).tr k3.FX
    have fM : tx_FM τ τ5 := (((a6.FM.tr (tx_FM.up (by omega))).tr h3.FM).tr (tx_FM.up (by omega))).tr k4.FM
    refine ⟨v5, w5, σ5, τ5, k1, k2, ?_, fX, fM, ?_, ?_⟩
    · rcases k5 with ⟨q, -⟩ | ⟨q, -⟩
      · exact Or.inl q
      · exact Or.inr q
    · rw [k3.1 120 (by omega) (by omega), iv_upn (by omega), iv_upn (by omega)]
      exact (a5.tr h2).1 120 (by omega) (by omega)
    · rcases k5 with k5 | ⟨q1, q2, k6⟩
      · exact Or.inl k5
      · refine Or.inr ⟨q1, q2, a3 + 1, by omega, k6, N, hN, ?_, fX.2.trans h4, fun j hj => ?_⟩
        · rw [fM.2.1 7 (by omega)]; exact h7
        · have e1 : σ3 116 = σ 116 := (a5.tr h2).1 116 (by omega) (by omega)
          have e2 : σ3 117 = σ 117 := (a5.tr h2).1 117 (by omega) (by omega)
          have e3 : τ3 154 = ix_up τ2 154 (32 + 2 * i) (nI S) 154 := h3.1 154 (by omega)
          have e4 : τ2 154 = τ 154 := a6.1 154 (by omega)
          rw [k3.1 116 (by omega) (by omega), k3.1 117 (by omega) (by omega), k4.1 154 (by omega), iv_upn (c := 117) (d := 116) (by omega)]
          by_cases ej : j = i
          · rw [ej, tx_us, tx_us, tx_un (by omega), e3, tx_us, show 33 + 2 * i = 32 + 2 * i + 1 by omega, tx_us]
            exact ⟨rfl, rfl⟩
          · rw [tx_un ej, tx_un ej, iv_upn (c := 116) (d := 117) (by omega), tx_un (by omega), tx_un (by omega), e3, tx_un (by omega), tx_un (by omega), e1, e2, e4]
            exact hD j (by omega)
  rw [i2']
  simp only [Option.bind_some, iv_tI]
  by_cases e : (tx_tn c t a').1 = 2 ∧ (tx_tn c t a').2.1 = 21
  · have e7 : σ2 100 7 = 1 := i1.mpr e
    have hS12 : ∀ x, x < 12 → (S.testBit x = true ↔ x < N ∧ S.testBit x = true) := by
      intro x _
      refine ⟨fun q => ⟨?_, q⟩, fun q => q.2⟩
      have q2 := hSA x q
      rw [tx_eve, decide_eq_true_eq] at q2
      exact q2
    obtain ⟨σx, v3, w3, σ3, τ3, b1, -, b3, b4, b5, b6, b7⟩ := j_set (b := b) (d := d) hN hS hS hS12 J2 (by omega) h72
    rw [if_pos e7, iv_Bt e, if_neg (by decide), if_neg hin0, tx_us, b1, b4]
    simp only [Option.bind_some, iv_tI]
    rw [b3, nI_clamp (show 32 + 2 * i + 1 < 2 ^ 31 by omega), if_neg hin1, if_neg hin1, hu]
    simp only [Option.bind_some, iv_tI]
    rcases b7 with ⟨rfl, rfl, b8⟩ | ⟨S3, a3, hS30, hS3, -, rfl, rfl, ha3, b8⟩
    · rw [if_pos rfl, if_pos rfl]
      exact ⟨0, -1, _, _, rfl, rfl, (a5.tr b5).FX, ((a6.FM.tr (tx_FM.up (by omega))).tr b6.FM).tr (tx_FM.up (by omega)), (a5.tr b5).1 120 (by omega) (by omega), Or.inl ⟨rfl, rfl, ⟨b8.1.trans (by rw [iv_upn (by omega)]), b8.2.trans (by rw [iv_upn (by omega)])⟩⟩⟩
    · have hS32 : S3 < 4096 := hS3
      obtain ⟨v5, w5, σ5, τ5, k1, k2, k3, k4⟩ := fin σ3 τ3 (nI S3) a3 (by omega) b5 b6 b8
      rw [if_neg (nI_ne0 (by omega) (by omega)), if_neg (iv_m1 (by omega)), if_neg h16, nI_clamp (by omega), if_neg hii, if_neg hii, k1, k2]
      simp only [Option.bind_some, iv_tI]
      rw [if_pos k3]
      exact ⟨v5, w5, σ5, τ5, rfl, rfl, k4⟩
  · have e7 : ¬ σ2 100 7 = 1 := fun q => e (i1.mp q)
    obtain ⟨v5, w5, σ5, τ5, k1, k2, k3, k4⟩ := fin σ2 (ix_up τ2 154 (32 + 2 * i) (nI S)) 0 a' haa tx_fa.rf tx_fb.rf J2
    rw [if_neg e7, iv_Bf e, if_pos rfl, nI_clamp (show 32 + 2 * i + 1 < 2 ^ 31 by omega), if_neg hin1, if_neg hin1, hu, if_neg (show ¬ (0 : Int32) = -1 by decide), if_neg h16, nI_clamp (by omega), if_neg hii, if_neg hii, k1, k2]
    simp only [Option.bind_some, iv_tI]
    rw [if_pos k3]
    exact ⟨v5, w5, σ5, τ5, rfl, rfl, k4⟩
