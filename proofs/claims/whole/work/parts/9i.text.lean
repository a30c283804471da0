/-! text -/
theorem s_text (E : ix_St) (hG : tx_Es E) (v : Int32) : iv_S E 10 165 [.int v] := by
  intro k b c σ τ hk hE hR
  obtain ⟨n, o, hn, hw, hpast, htape, hoth, himg⟩ := id hR
  obtain ⟨t, ht, t1, t2, t3⟩ := htape
  have h26 : σ 2 6 = nI n := hw.1.1.2.2.2.2.2.2.1
  have h7' : τ 135 7 = nI n := hw.2.1.1.1
  have hp : ((1 : Int32) <<< (nI n &&& 31)) - 1 = nI (2 ^ n - 1) := by rw [iv_shl (by omega)]; exact pk_sub (Nat.two_pow_pos n)
  have hEs : tx_Es σ := fun i hi j hj => by rw [(hE (1007 + i) (by omega)).1]; exact hG i hi j hj
  have hch : ∀ i, i < t → ((τ 143 i).toNatClampNeg < 256 ∧ τ 143 i = nI (τ 143 i).toNatClampNeg) ∧ σ 101 i = tx_b (τ 143 i).toNatClampNeg := by
    intro i hi
    obtain ⟨x, hx, e1, e2⟩ := t3 i hi
    rw [e1, nI_clamp (by omega)]
    exact ⟨⟨hx, rfl⟩, e2⟩
  have hT : tx_tc σ (fun i => (τ 143 i).toNatClampNeg) t := ⟨ht, t1, fun i hi => ⟨(hch i hi).1.1, (hch i hi).2⟩⟩
  obtain ⟨τ0, hτ0⟩ : ∃ τ0, τ0 = ix_up (ix_up (ix_up (ix_up (ix_up (ix_up τ 135 0 (0 : Int32)) 135 33 (0 : Int32)) 135 34 (-1 : Int32)) 135 14 (0 : Int32)) 135 27 (0 : Int32)) 135 28 (0 : Int32) := ⟨_, rfl⟩
  have z28 : τ0 135 28 = 0 := by rw [hτ0, tx_us]
  have z27 : τ0 135 27 = 0 := by rw [hτ0, tx_un (by omega), tx_us]
  have z14 : τ0 135 14 = 0 := by rw [hτ0, tx_un (by omega), tx_un (by omega), tx_us]
  have z34 : τ0 135 34 = -1 := by rw [hτ0, tx_un (by omega), tx_un (by omega), tx_un (by omega), tx_us]
  have z33 : τ0 135 33 = 0 := by rw [hτ0, tx_un (by omega), tx_un (by omega), tx_un (by omega), tx_un (by omega), tx_us]
  have zo : ∀ j, j ≠ 0 → j ≠ 33 → j ≠ 34 → j ≠ 14 → j ≠ 27 → j ≠ 28 → τ0 135 j = τ 135 j := fun j g1 g2 g3 g4 g5 g6 => by rw [hτ0, tx_un g6, tx_un g5, tx_un g4, tx_un g3, tx_un g2, tx_un g1]
  have zz : ∀ z, z ≠ 135 → τ0 z = τ z := fun z hz => by rw [hτ0, iv_upn hz, iv_upn hz, iv_upn hz, iv_upn hz, iv_upn hz, iv_upn hz]
  have hX0 : tx_XB τ τ0 := by
    rw [hτ0]
    exact (((((tx_XB.up (by omega)).tr (tx_XB.up (by omega))).tr (tx_XB.up (by omega))).tr (tx_XB.up (by omega))).tr (tx_XB.up (by omega))).tr (tx_XB.up (by omega))
  have h7 : τ0 135 7 = nI n := by rw [zo 7 (by omega) (by omega) (by omega) (by omega) (by omega) (by omega)]; exact h7'
  have hM : tx_tm τ0 (fun i => (τ 143 i).toNatClampNeg) t := by
    refine ⟨ht, by rw [zo 13 (by omega) (by omega) (by omega) (by omega) (by omega) (by omega)]; exact t2, fun i hi => ?_, fun i hi => ?_⟩
    · rw [zz 143 (by omega)]; exact (hch i hi).1
    · rw [zz 144 (by omega)]; exact hoth.2.2 i hi
  rw [q_X_text_0, q_River_everyone_0, q_M_text_0, ← hτ0, f_isIn, h26, hp]
  simp only [Option.bind_some, iv_tI]
  by_cases hr : (0 : Int32) ≤ v ∧ v ≤ 3
  case neg =>
    have hx : ix_F 65 [.ref 105, .int v, .int (nI (2 ^ n - 1))] (ix_S0 b, σ) = some (.int (-1 : Int32), (ix_S0 b, (ix_up (ix_up (ix_up σ 105 1 (0 : Int32)) 105 2 (-1 : Int32)) 105 4 (nI (2 ^ n - 1))))) := by
      rw [q_Parser_read_0]
      by_cases h0 : v < 0
      · rw [if_pos h0]
      · rw [if_neg h0, if_neg (fun q => hr ⟨iv_nlt.mp h0, q⟩)]
    rw [hx, iv_Bf hr]
    simp only [Option.bind_some, iv_tI]
    rw [if_pos trivial, if_pos trivial, if_pos trivial]
    refine ⟨-1, b, _, _, rfl, rfl, tx_RA hR (((tx_XA.up (by omega)).tr (tx_XA.up (by omega))).tr (tx_XA.up (by omega)) |>.tr (tx_XA.up (by omega))) (hX0.tr (tx_XB.up (by omega))) tx_us tx_us ?_ ?_⟩
    · rw [iv_upn (by omega), tx_un (by omega), tx_un (by omega), tx_us, tx_un (by omega), z33]
    · rw [iv_upn (by omega), tx_un (by omega), tx_us, tx_un (by omega), z34]
  rw [iv_Bt hr, if_neg (show ¬ (1 : Int32) = 0 by decide)]
  have hv : v = 0 ∨ v = 1 ∨ v = 2 ∨ v = 3 := by
    obtain ⟨j, hj, rfl⟩ := nI_of (iv_nlt.mpr hr.1)
    have h3 := (nI_leI (b := 3) hj (by omega)).mp hr.2
    have : j = 0 ∨ j = 1 ∨ j = 2 ∨ j = 3 := by omega
    rcases this with rfl | rfl | rfl | rfl
    · exact Or.inl rfl
    · exact Or.inr (Or.inl rfl)
    · exact Or.inr (Or.inr (Or.inl rfl))
    · exact Or.inr (Or.inr (Or.inr rfl))
  rcases hv with rfl | rfl | rfl | rfl
  · -- text 0
    obtain ⟨v', σ', τ', r1, r2, r3, r4, ⟨r5, r6, r7⟩, r8⟩ := t_read0 (b := b) (d := c) hEs hT hM hn h7 z14 z27 z28
    have r1' : ix_F 65 [.ref 105, .int (0 : Int32), .int (nI (2 ^ n - 1))] (ix_S0 b, σ) = some (.int v', (ix_S0 b, σ')) := r1
    rw [r1', r2]
    simp only [Option.bind_some, iv_tI]
    rcases r8 with ⟨rfl, b1, b2⟩ | ⟨i, z, hi, rfl, hD, h120, b1, b2⟩
    · rw [if_pos (show (-1 : Int32) = -1 from rfl), if_pos (show (-1 : Int32) = -1 from rfl), if_pos (show (-1 : Int32) = -1 from rfl)]
      refine ⟨-1, b, _, _, rfl, rfl, tx_RA hR (r3.tr (tx_XA.up (by omega))) ((((hX0.tr r4).tr (tx_XB.up (by omega))).tr (tx_XB.up (by omega))).tr (tx_XB.up (by omega))) tx_us tx_us ?_ ?_⟩
      · rw [iv_upn (by omega), b1, tx_un (by omega), tx_un (by omega), tx_us]
      · rw [iv_upn (by omega), b2, tx_un (by omega), tx_us]
    · have hm1 : ¬ nI i = -1 := iv_m1 (by omega)
      have hR1 : iv_R (k + 1) (ix_up σ' 100 1 0) (ix_up τ' 135 13 0) := by
        refine tx_RA hR (r3.tr (tx_XA.up (by omega))) ((hX0.tr r4).tr (tx_XB.up (by omega))) tx_us tx_us ?_ ?_
        · rw [iv_upn (by omega), b1, tx_un (by omega), r5, z33]
        · rw [iv_upn (by omega), b2, tx_un (by omega), r6, z34]
      obtain ⟨σ2, τ2, q1, q2, q3⟩ := t_take0 (b := b) (d := c) hR1 hi (by obtain ⟨a1, a2, ⟨a3, a4⟩, a5, a6, a7⟩ := hD; exact ⟨by rw [iv_upn (by omega)]; exact a1, a2, ⟨by rw [iv_upn (by omega)]; exact a3, by rw [tx_un (by omega)]; exact a4⟩, by rw [tx_un (by omega)]; exact a5, fun j hj => by rw [iv_upn (by omega), iv_upn (by omega), iv_upn (by omega)]; exact a6 j hj, fun l hl => (a7 l hl).cg (Nat.le_refl _) (fun y y1 y2 => by rw [iv_upn (by omega)]) (fun y y1 y2 => by rw [iv_upn (by omega)]) (fun j _ => by rw [iv_upn (by omega), iv_upn (by omega)]; exact ⟨rfl, rfl⟩)⟩) (by rw [iv_upn (by omega)]; exact h120) (by rw [tx_un (by omega)]; exact r7)
      rw [if_neg hm1, if_neg hm1, if_neg hm1, if_pos trivial, q2, q1]
      simp only [Option.bind_some, iv_tI]
      rw [if_neg (show ¬ (0 : Int32) = 1 by decide), if_neg (show ¬ (0 : Int32) = 2 by decide)]
      exact ⟨nI i, b, _, _, rfl, rfl, q3⟩
  · -- text 1
    obtain ⟨v', σ', τ', r1, r2, r3, r4, ⟨r5, r6, r7⟩, r8⟩ := t_read1 (b := b) (d := c) hEs hT hM hn h7 z14 z27 z28
    have r1' : ix_F 65 [.ref 105, .int (1 : Int32), .int (nI (2 ^ n - 1))] (ix_S0 b, σ) = some (.int v', (ix_S0 b, σ')) := r1
    rw [r1', r2]
    simp only [Option.bind_some, iv_tI]
    rcases r8 with ⟨rfl, b1, b2⟩ | ⟨i, hi, rfl, hD, h120, b1, b2⟩
    · rw [if_pos (show (-1 : Int32) = -1 from rfl), if_pos (show (-1 : Int32) = -1 from rfl), if_pos (show (-1 : Int32) = -1 from rfl)]
      refine ⟨-1, b, _, _, rfl, rfl, tx_RA hR (r3.tr (tx_XA.up (by omega))) ((((hX0.tr r4).tr (tx_XB.up (by omega))).tr (tx_XB.up (by omega))).tr (tx_XB.up (by omega))) tx_us tx_us ?_ ?_⟩
      · rw [iv_upn (by omega), b1, tx_un (by omega), tx_un (by omega), tx_us]
      · rw [iv_upn (by omega), b2, tx_un (by omega), tx_us]
    · have hm1 : ¬ nI i = -1 := iv_m1 (by omega)
      have hR1 : iv_R (k + 1) (ix_up σ' 100 1 0) (ix_up τ' 135 13 0) := by
        refine tx_RA hR (r3.tr (tx_XA.up (by omega))) ((hX0.tr r4).tr (tx_XB.up (by omega))) tx_us tx_us ?_ ?_
        · rw [iv_upn (by omega), b1, tx_un (by omega), r5, z33]
        · rw [iv_upn (by omega), b2, tx_un (by omega), r6, z34]
      obtain ⟨σ2, τ2, q1, q2, q3⟩ := t_take1 (b := b) (d := c) hR1 hi (by obtain ⟨N, hN, a1, a2, a3⟩ := hD; exact ⟨N, hN, by rw [tx_un (by omega)]; exact a1, by rw [iv_upn (by omega)]; exact a2, fun j hj => by rw [iv_upn (by omega), iv_upn (by omega)]; exact a3 j hj⟩) (by rw [iv_upn (by omega)]; exact h120)
      rw [if_neg hm1, if_neg hm1, if_neg hm1, if_neg (show ¬ (1 : Int32) = 0 by decide), q2, q1]
      simp only [Option.bind_some, iv_tI]
      rw [if_pos trivial, q_Past_forget_0]
      simp only [Option.bind_some]
      exact ⟨nI i, b, _, _, rfl, rfl, q3⟩
  · -- text 2
    obtain ⟨v', σ', τ', r1, r2, r3, r4, ⟨r5, r6, r7⟩, r8⟩ := t_read2 (b := b) (d := c) hEs hT hM hn h7 z14 z27 z28
    have r1' : ix_F 65 [.ref 105, .int (2 : Int32), .int (nI (2 ^ n - 1))] (ix_S0 b, σ) = some (.int v', (ix_S0 b, σ')) := r1
    rw [r1', r2]
    simp only [Option.bind_some, iv_tI]
    rcases r8 with ⟨rfl, b1, b2⟩ | ⟨i, hi, rfl, hD, h120, b1, b2⟩
    · rw [if_pos (show (-1 : Int32) = -1 from rfl), if_pos (show (-1 : Int32) = -1 from rfl), if_pos (show (-1 : Int32) = -1 from rfl)]
      refine ⟨-1, b, _, _, rfl, rfl, tx_RA hR (r3.tr (tx_XA.up (by omega))) ((((hX0.tr r4).tr (tx_XB.up (by omega))).tr (tx_XB.up (by omega))).tr (tx_XB.up (by omega))) tx_us tx_us ?_ ?_⟩
      · rw [iv_upn (by omega), b1, tx_un (by omega), tx_un (by omega), tx_us]
      · rw [iv_upn (by omega), b2, tx_un (by omega), tx_us]
    · have hm1 : ¬ nI i = -1 := iv_m1 (by omega)
      have hR1 : iv_R (k + 1) (ix_up σ' 100 1 0) (ix_up τ' 135 13 0) := by
        refine tx_RA hR (r3.tr (tx_XA.up (by omega))) ((hX0.tr r4).tr (tx_XB.up (by omega))) tx_us tx_us ?_ ?_
        · rw [iv_upn (by omega), b1, tx_un (by omega), r5, z33]
        · rw [iv_upn (by omega), b2, tx_un (by omega), r6, z34]
      obtain ⟨σ2, τ2, q1, q2, q3⟩ := t_take2 (b := b) (d := c) hR1 hi (by obtain ⟨N, hN, a1, a2, a3⟩ := hD; exact ⟨N, hN, by rw [tx_un (by omega)]; exact a1, by rw [iv_upn (by omega)]; exact a2, fun j hj => by rw [iv_upn (by omega), iv_upn (by omega), iv_upn (by omega)]; exact a3 j hj⟩) (by rw [iv_upn (by omega)]; exact h120)
      rw [if_neg hm1, if_neg hm1, if_neg hm1, if_neg (show ¬ (2 : Int32) = 0 by decide), q2, q1]
      simp only [Option.bind_some, iv_tI]
      rw [if_neg (show ¬ (2 : Int32) = 1 by decide), if_pos trivial, q_Past_forget_0]
      simp only [Option.bind_some]
      exact ⟨nI i, b, _, _, rfl, rfl, q3⟩
  · -- text 3
    obtain ⟨v', σ', τ', r1, r2, r3, r4, ⟨r5, r6, r7⟩, r8⟩ := t_read3 (b := b) (d := c) hEs hT hM hn h7 z14 z27 z28
    have r1' : ix_F 65 [.ref 105, .int (3 : Int32), .int (nI (2 ^ n - 1))] (ix_S0 b, σ) = some (.int v', (ix_S0 b, σ')) := r1
    rw [r1', r2]
    simp only [Option.bind_some, iv_tI]
    rcases r8 with ⟨rfl, b1, b2⟩ | ⟨i, hi, rfl, hD, h120, b1, b2⟩
    · rw [if_pos (show (-1 : Int32) = -1 from rfl), if_pos (show (-1 : Int32) = -1 from rfl), if_pos (show (-1 : Int32) = -1 from rfl)]
      refine ⟨-1, b, _, _, rfl, rfl, tx_RA hR (r3.tr (tx_XA.up (by omega))) ((((hX0.tr r4).tr (tx_XB.up (by omega))).tr (tx_XB.up (by omega))).tr (tx_XB.up (by omega))) tx_us tx_us ?_ ?_⟩
      · rw [iv_upn (by omega), b1, tx_un (by omega), tx_un (by omega), tx_us]
      · rw [iv_upn (by omega), b2, tx_un (by omega), tx_us]
    · have hm1 : ¬ nI i = -1 := iv_m1 (by omega)
      have hR1 : iv_R (k + 1) (ix_up σ' 100 1 0) (ix_up τ' 135 13 0) := by
        refine tx_RA hR (r3.tr (tx_XA.up (by omega))) ((hX0.tr r4).tr (tx_XB.up (by omega))) tx_us tx_us ?_ ?_
        · rw [iv_upn (by omega), b1, tx_un (by omega), r5, z33]
        · rw [iv_upn (by omega), b2, tx_un (by omega), r6, z34]
      obtain ⟨σ2, τ2, q1, q2, q3⟩ := t_take3 (b := b) (d := c) hR1 hi (by unfold tx_D3; rw [iv_upn (by omega), iv_upn (by omega), iv_upn (by omega)]; exact hD) (by rw [iv_upn (by omega)]; exact h120)
      rw [if_neg hm1, if_neg hm1, if_neg hm1, if_neg (show ¬ (3 : Int32) = 0 by decide), q2, q1]
      simp only [Option.bind_some, iv_tI]
      rw [if_neg (show ¬ (3 : Int32) = 1 by decide), if_neg (show ¬ (3 : Int32) = 2 by decide)]
      exact ⟨nI i, b, _, _, rfl, rfl, q3⟩
