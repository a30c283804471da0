/-! a line of the ears, all of them -/
def tx_D1 (σ τ : ix_St) (_i : Nat) : Prop := ∃ N, N ≤ 12 ∧ τ 135 7 = nI N ∧ σ 105 4 = nI (2 ^ N - 1) ∧ ∀ j, j < 12 → σ 115 j = τ 153 (12 + j) ∧ (N ≤ j → σ 115 j = 0)
theorem tx_p12 {N : Nat} (h : N ≤ 12) : 2 ^ N - 1 < 2 ^ 12 := by
  have h1 := iv_p12 h
  have h2 := Nat.two_pow_pos N
  have h3 : (2 : Nat) ^ 12 = 4096 := rfl
  omega
theorem tx_b2 (H i : Nat) : (2 ^ H).testBit i = decide (H = i) := by rw [Nat.testBit_two_pow]
theorem l_ear {b d : Bool} {n a t i : Nat} {c : Nat → Nat} {σ τ : ix_St} (h : tx_J 1 c t n a σ τ) (hw : (tx_tn c t a).1 = 2 ∧ (tx_tn c t a).2.1 = 18) (hi : i < 16) (hD : tx_D1 σ τ i) : ∃ v w σ' τ', ix_F 70 [.ref 105] (ix_S0 b, σ) = some (.int v, (ix_S0 b, σ')) ∧ ix_F 256 [.ref 135] (ix_S0 d, τ) = some (.int w, (ix_S0 d, τ')) ∧ tx_FX σ σ' ∧ tx_FM τ τ' ∧ σ' 120 = σ 120 ∧ ((v = 0 ∧ w = -1 ∧ tx_bad σ' τ') ∨ (v = 1 ∧ w = 0 ∧ ∃ a', a < a' ∧ tx_J 1 c t n a' σ' τ' ∧ tx_D1 σ' τ' (i + 1))) := by
  obtain ⟨w0, w1, -⟩ := tx_wds
  obtain ⟨N, hN, h7, h4, hD⟩ := hD
  have hA := tx_p12 hN
  obtain ⟨i1, i2⟩ := j_isW (d := d) h (w := 0) (g := 18) (by omega) (by omega) w0
  have i3 : ix_F 254 [.ref 135, .int (18 : Int32)] (ix_S0 d, τ) = some (.int 1, (ix_S0 d, τ)) := by rw [show (18 : Int32) = nI 18 from rfl, i2, iv_Bt hw]
  obtain ⟨σ1, τ1, a1, a2, a3, a4, a5, -⟩ := j_adv (b := b) (d := d) h (h.lt (by omega))
  have h41 : σ1 105 4 = nI (2 ^ N - 1) := (a4.2 4 (by omega) (by omega)).trans h4
  obtain ⟨v2, σ2, b1, b2, b3⟩ := j_one (b := b) (d := d) a3 hA
  have r1 : ∀ (w : Int32) (ρ : ix_St), ix_F 273 [.ref 135, .int 0, .int (nI N - 1)] (ix_S0 d, τ1) = some (.int w, (ix_S0 d, ρ)) → ix_F 272 [.ref 135, .int (18 : Int32), .int (0 : Int32), .int (nI N - 1)] (ix_S0 d, τ) = some (.int w, (ix_S0 d, ρ)) := by
    intro w ρ hr
    rw [q_M_readTold_0, i3]
    simp only [Option.bind_some, iv_tI]
    rw [if_neg (by decide), a2]
    simp only [Option.bind_some]
    rw [hr]
    simp only [Option.bind_some, iv_tI]
  rw [q_Parser_readEar_0, q_M_readEar_0, a1, h7]
  simp only [Option.bind_some]
  rw [h41, b1]
  simp only [Option.bind_some, iv_tI]
  -- a fault at the hearer
  have bad1 : ∀ (τ2 : ix_St), v2 = -1 → tx_fb τ1 τ2 → tx_bad σ2 τ2 → ix_F 273 [.ref 135, .int 0, .int (nI N - 1)] (ix_S0 d, τ1) = some (.int (-1), (ix_S0 d, τ2)) → ∃ v w σ' τ', (if v2 = -1 then some (Value.int 0, (ix_S0 b, σ2)) else none) = some (.int v, (ix_S0 b, σ')) ∧ some (Value.int (-1), (ix_S0 d, τ2)) = some (.int w, (ix_S0 d, τ')) ∧ tx_FX σ σ' ∧ tx_FM τ τ' ∧ σ' 120 = σ 120 ∧ ((v = 0 ∧ w = -1 ∧ tx_bad σ' τ') ∨ (v = 1 ∧ w = 0 ∧ ∃ a', a < a' ∧ tx_J 1 c t n a' σ' τ' ∧ tx_D1 σ' τ' (i + 1))) := by
    intro τ2 e f1 f2 _
    rw [if_pos e]
    exact ⟨0, -1, _, _, rfl, rfl, (a4.tr b2).FX, (a5.tr f1).FM, (a4.tr b2).1 120 (by omega) (by omega), Or.inl ⟨rfl, rfl, f2⟩⟩
  have eve : ∀ x, (2 ^ N - 1).testBit x = decide (x < N) := fun x => tx_eve
  rcases b3 with ⟨g1, g2, τ2, g3, g4, g5⟩ | ⟨g1, g2, g6, τ2, g3, g4, g5⟩ | ⟨g1, g2, g6, g7, τ2, g3, g4, g5⟩
  · have q1 := r_num1 (x := 0) (y := nI N - 1) a3 g1 g3
    obtain ⟨v, w, σ', τ', k1, k2, k3⟩ := bad1 τ2 g2 g4 g5 q1
    rw [if_pos g2] at k1
    rw [r1 _ _ q1, if_pos g2]
    simp only [Option.bind_some, iv_tI]
    rw [if_pos trivial]
    exact ⟨v, w, σ', τ', k1, k2, k3⟩
  · have hx : ¬ (tx_tn c t (a + 1)).2.1 < N := by
      rcases g2 with g2 | g2
      · omega
      · rw [eve, decide_eq_false_iff_not] at g2; exact g2
    have q1 := r_num2 a3 g1 hN hx g3
    obtain ⟨v, w, σ', τ', k1, k2, k3⟩ := bad1 τ2 g6 g4 g5 q1
    rw [if_pos g6] at k1
    rw [r1 _ _ q1, if_pos g6]
    simp only [Option.bind_some, iv_tI]
    rw [if_pos trivial]
    exact ⟨v, w, σ', τ', k1, k2, k3⟩
  have hxN : (tx_tn c t (a + 1)).2.1 < N := by rw [eve, decide_eq_true_eq] at g6; exact g6
  have q1 := r_num3 a3 g1 hN hxN g3
  rw [r1 _ _ q1]
  simp only [Option.bind_some, iv_tI]
  subst g7
  generalize (tx_tn c t (a + 1)).2.1 = H at g2 hxN
  rw [if_neg (iv_m1 (by omega)), if_neg (iv_m1 (by omega))]
  have fX2 := a4.tr b2
  have fM2 := a5.tr g4
  rcases j_word (b := b) (d := d) g5 (w := 1) (g := 19) (by omega) (by omega) w1 with ⟨σ3, τ3, c1, c2, c3, c4, c5, c6⟩ | ⟨σ3, τ3, c1, c2, c3, c4, c5, c6⟩
  · have c1' : ix_F 75 [.ref 105, .int (1 : Int32)] (ix_S0 b, σ2) = some (.int 0, (ix_S0 b, σ3)) := c1
    have c2' : ix_F 254 [.ref 135, .int (19 : Int32)] (ix_S0 d, τ2) = some (.int 0, (ix_S0 d, τ2)) := c2
    rw [c1', c2']
    simp only [Option.bind_some, iv_tI]
    rw [if_pos trivial, if_pos trivial, c3]
    simp only [Option.bind_some, iv_tI]
    exact ⟨0, -1, _, _, rfl, rfl, (fX2.tr c4).FX, (fM2.tr c5).FM, (fX2.tr c4).1 120 (by omega) (by omega), Or.inl ⟨rfl, rfl, c6⟩⟩
  have c1' : ix_F 75 [.ref 105, .int (1 : Int32)] (ix_S0 b, σ2) = some (.int 1, (ix_S0 b, σ3)) := c1
  have c2' : ix_F 254 [.ref 135, .int (19 : Int32)] (ix_S0 d, τ2) = some (.int 1, (ix_S0 d, τ2)) := c2
  rw [c1', c2']
  simp only [Option.bind_some, iv_tI]
  rw [if_neg (by decide), if_neg (by decide), c3]
  simp only [Option.bind_some, iv_tI]
  have fX3 := fX2.tr c4
  have fM3 := fM2.tr c5
  have h43 : σ3 105 4 = nI (2 ^ N - 1) := (fX3.2 4 (by omega) (by omega)).trans h4
  have h73 : τ3 135 7 = nI N := (fM3.2 7 (by omega) (by omega) (by omega) (by omega) (by omega) (by omega)).trans h7
  have hA2 : (2 ^ N - 1) ^^^ ((2 ^ N - 1) &&& 2 ^ H) < 2 ^ 12 := tx_rm_lt hA
  obtain ⟨v4, σ4, d1, d2, d3⟩ := j_one (b := b) (d := d) c6 hA2
  rw [h43, h73, iv_shl (by omega), tx_rmN, d1]
  simp only [Option.bind_some, iv_tI]
  have eve2 : ∀ x, ((2 ^ N - 1) ^^^ ((2 ^ N - 1) &&& 2 ^ H)).testBit x = (decide (x < N) && !decide (H = x)) := fun x => by rw [tx_rmb, eve, tx_b2]
  obtain ⟨-, n3⟩ := j_isN c6
  have fX4 := fX3.tr d2
  rcases d3 with ⟨g1, g2, τ4, g3, g4, g5⟩ | ⟨g1, g2, g6, τ4, g3, g4, g5⟩ | ⟨g1, g2, g6, g7, τ4, g3, g4, g5⟩
  · rw [if_pos g2, if_neg (fun q => g1 (n3.mp q)), r_num1 c6 g1 g3]
    simp only [Option.bind_some, iv_tI]
    rw [if_pos trivial]
    exact ⟨0, -1, _, _, rfl, rfl, fX4.FX, (fM3.tr g4).FM, fX4.1 120 (by omega) (by omega), Or.inl ⟨rfl, rfl, g5⟩⟩
  · have hv2 : τ3 135 17 = nI (tx_tn c t (a + 1 + 1 + 1)).2.1 := c6.2.2.2.2.2 (by omega)
    have hx9 := c6.ok.2.2.1 g1
    rw [if_pos g6, if_pos (n3.mpr g1), hv2]
    by_cases eH : (tx_tn c t (a + 1 + 1 + 1)).2.1 = H
    · rw [if_pos (by rw [eH]), g3]
      simp only [Option.bind_some, iv_tI]
      exact ⟨0, -1, _, _, rfl, rfl, fX4.FX, (fM3.tr g4).FM, fX4.1 120 (by omega) (by omega), Or.inl ⟨rfl, rfl, g5⟩⟩
    · have hx : ¬ (tx_tn c t (a + 1 + 1 + 1)).2.1 < N := by
        rcases g2 with g2 | g2
        · omega
        · intro hlt
          rw [eve2] at g2
          simp [hlt] at g2
          exact eH g2.symm
      rw [if_neg (fun q => eH ((nI_eq (by omega) (by omega)).mp q)), r_num2 c6 g1 hN hx g3]
      simp only [Option.bind_some, iv_tI]
      rw [if_pos trivial]
      exact ⟨0, -1, _, _, rfl, rfl, fX4.FX, (fM3.tr g4).FM, fX4.1 120 (by omega) (by omega), Or.inl ⟨rfl, rfl, g5⟩⟩
  have hv2 : τ3 135 17 = nI (tx_tn c t (a + 1 + 1 + 1)).2.1 := c6.2.2.2.2.2 (by omega)
  have hx9 := c6.ok.2.2.1 g1
  rw [eve2] at g6
  simp only [Bool.and_eq_true, decide_eq_true_eq, Bool.not_eq_true', decide_eq_false_iff_not] at g6
  obtain ⟨g6, g8⟩ := g6
  have q4 := r_num3 c6 g1 hN g6 g3
  subst g7
  rw [if_neg (iv_m1 (by omega)), if_pos (n3.mpr g1), hv2, if_neg (fun q => g8 ((nI_eq (by omega) (by omega)).mp q).symm), q4]
  simp only [Option.bind_some, iv_tI]
  generalize (tx_tn c t (a + 1 + 1 + 1)).2.1 = x at g2 g6 g8 hx9
  have hin : ¬ (nI H < 0 ∨ 12 ≤ H) := tx_in (by omega) (by omega)
  have hin2 : ¬ (nI (12 + H) < 0 ∨ 24 ≤ 12 + H) := tx_in (by omega) (by omega)
  rw [if_neg (iv_m1 (by omega)), show (12 : Int32) + nI H = nI (12 + H) from nI_add 12 H, nI_clamp (by omega), nI_clamp (by omega), if_neg hin, if_neg hin, if_neg hin2, if_neg hin2, iv_shl (by omega)]
  have J5 := (g5.upX (z := 115) (i := H) (v := σ4 115 H ||| nI (2 ^ x)) (by omega)).upM (z := 153) (i := 12 + H) (v := τ4 153 (12 + H) ||| nI (2 ^ x)) (by omega)
  obtain ⟨v5, w5, σ5, τ5, k1, k2, k3, k4, k5⟩ := j_mark (b := b) (d := d) J5 (g := 59) (by decide)
  have k1' : ix_F 75 [.ref 105, .int (59 : Int32)] (ix_S0 b, ix_up σ4 115 H (σ4 115 H ||| nI (2 ^ x))) = some (.int v5, (ix_S0 b, σ5)) := k1
  have k2' : ix_F 274 [.ref 135, .int (59 : Int32)] (ix_S0 d, ix_up τ4 153 (12 + H) (τ4 153 (12 + H) ||| nI (2 ^ x))) = some (.int w5, (ix_S0 d, τ5)) := k2
  have fX5 : tx_FX σ σ5 := (fX4.FX.tr (tx_FX.up (by omega))).tr k3.FX
  have fM5 : tx_FM τ τ5 := ((fM3.tr g4).FM.tr (tx_FM.up (by omega))).tr k4.FM
  have h120 : σ5 120 = σ 120 := by rw [k3.1 120 (by omega) (by omega), iv_upn (by omega)]; exact fX4.1 120 (by omega) (by omega)
  rw [k1', k2']
  simp only [Option.bind_some, iv_tI]
  rcases k5 with ⟨rfl, rfl, k6⟩ | ⟨rfl, rfl, k6⟩
  · rw [if_pos (Or.inl rfl)]
    exact ⟨0, -1, _, _, rfl, rfl, fX5, fM5, h120, Or.inl ⟨rfl, rfl, k6⟩⟩
  · rw [if_pos (Or.inr rfl)]
    refine ⟨1, 0, _, _, rfl, rfl, fX5, fM5, h120, Or.inr ⟨rfl, rfl, a + 1 + 1 + 1 + 1 + 1, by omega, k6, N, hN, ?_, fX5.2.trans h4, fun j hj => ?_⟩⟩
    · rw [fM5.2.1 7 (by omega)]; exact h7
    · have e1 : σ4 115 = σ 115 := fX4.1 115 (by omega) (by omega)
      have e2 : τ4 153 = τ 153 := (fM3.tr g4).1 153 (by omega)
      have hj2 := hD j hj
      rw [k3.1 115 (by omega) (by omega), k4.1 153 (by omega), e1, e2]
      by_cases ej : j = H
      · rw [ej, tx_us, tx_us, (hD H (by omega)).1]
        exact ⟨rfl, fun q => absurd q (by omega)⟩
      · rw [tx_un ej, tx_un (by omega), e1, e2]
        exact hj2
