/-! a text is read -/
theorem t_clr0 {b : Bool} {σ : ix_St} : ∃ σ2, ix_F 148 [.ref 106, .int 0] (ix_S0 b, σ) = some (.null, (ix_S0 b, σ2)) ∧ (∀ z, z ≠ 107 → z ≠ 115 → z ≠ 118 → z ≠ 120 → σ2 z = σ z) ∧ σ2 120 0 = 0 ∧ σ2 107 7 = 0 ∧ σ2 107 8 = 0 := by
  refine ⟨ix_up (ix_up (ix_up σ 120 0 0) 107 8 0) 107 7 0, ?_, fun z g1 g2 g3 g4 => ?_, ?_, ?_, ?_⟩
  · rw [q_Texts_clear_0, if_neg (show ¬ ((0 : Int32) < 0 ∨ 4 ≤ (0 : Int32).toNatClampNeg) by decide), show (0 : Int32).toNatClampNeg = 0 by decide, if_pos rfl, q_Law_clear_0]
    simp only [Option.bind_some]
  · rw [iv_upn g1, iv_upn g1, iv_upn g4]
  · rw [iv_upn (by omega), iv_upn (by omega), tx_us]
  · rw [tx_us]
  · rw [tx_un (by omega), tx_us]
theorem t_read0 {b d : Bool} {σ τ : ix_St} {c : Nat → Nat} {t N : Nat} (hE : tx_Es σ) (hT : tx_tc σ c t) (hM : tx_tm τ c t) (_hN : N ≤ 12) (_h7 : τ 135 7 = nI N) (h14 : τ 135 14 = 0) (h27 : τ 135 27 = 0) (h28 : τ 135 28 = 0) :
    ∃ v σ' τ', ix_F 65 [.ref 105, .int 0, .int (nI (2 ^ N - 1))] (ix_S0 b, σ) = some (.int v, (ix_S0 b, σ')) ∧ ix_F 199 [.ref 135, .int 0] (ix_S0 d, τ) = some (.int v, (ix_S0 d, τ')) ∧ tx_XA σ σ' ∧ tx_XB τ τ' ∧ (τ' 135 33 = τ 135 33 ∧ τ' 135 34 = τ 135 34 ∧ τ' 135 26 = 0) ∧ ((v = -1 ∧ tx_bad σ' τ') ∨ ∃ i z, i ≤ 16 ∧ v = nI i ∧ tx_D0 σ' τ' i z ∧ σ' 120 0 = nI i ∧ σ' 105 1 = 0 ∧ σ' 105 2 = -1) := by
  obtain ⟨σ1, hσ1⟩ : ∃ σ1, σ1 = ix_up (ix_up (ix_up σ 105 1 (0 : Int32)) 105 2 (-1 : Int32)) 105 4 (nI (2 ^ N - 1)) := ⟨_, rfl⟩
  have s1 : ∀ z, z ≠ 105 → σ1 z = σ z := fun z hz => by rw [hσ1, iv_upn hz, iv_upn hz, iv_upn hz]
  have s11 : σ1 105 1 = 0 := by rw [hσ1, tx_un (by omega), tx_un (by omega), tx_us]
  have s12 : σ1 105 2 = -1 := by rw [hσ1, tx_un (by omega), tx_us]
  have s14 : σ1 105 4 = nI (2 ^ N - 1) := by rw [hσ1, tx_us]
  obtain ⟨σ2, c1, c2, c3, c4⟩ := t_clr0 (b := b) (σ := σ1)
  have hT2 : tx_tc σ2 c t := by
    unfold tx_tc
    rw [c2 100 (by omega) (by omega) (by omega) (by omega), c2 101 (by omega) (by omega) (by omega) (by omega), s1 100 (by omega), s1 101 (by omega)]
    exact hT
  have hE2 : tx_Es σ2 := fun i hi j hj => by
    rw [c2 (1007 + i) (by omega) (by omega) (by omega) (by omega), s1 (1007 + i) (by omega)]
    exact hE i hi j hj
  obtain ⟨σ3, n, d1, d2, d3⟩ := f_rewind0 (b := b) hE2 hT2
  have hM2 : tx_tm (ix_up τ 135 26 0) c t := by
    unfold tx_tm
    rw [tx_un (by omega), iv_upn (by omega), iv_upn (by omega)]
    exact hM
  obtain ⟨τ3, e1, e2, e3⟩ := f_reads (b := d) hM2 (Nat.zero_le _) (show ix_up τ 135 26 0 135 14 = nI 0 by rw [tx_un (by omega)]; exact h14)
  have s3 : ∀ z, z ≠ 100 → z ≠ 102 → z ≠ 103 → z ≠ 104 → z ≠ 105 → z ≠ 107 → z ≠ 115 → z ≠ 118 → z ≠ 120 → σ3 z = σ z := fun z g1 g2 g3 g4 g5 g6 g7 g8 g9 => ((d3.1 z g1 g2 g3 g4).trans (c2 z g6 g7 g8 g9)).trans (s1 z g5)
  have s305 : σ3 105 = σ1 105 := (d3.1 105 (by omega) (by omega) (by omega) (by omega)).trans (c2 105 (by omega) (by omega) (by omega) (by omega))
  have hJ3 : tx_J 0 c t n 0 σ3 τ3 := ⟨d2, ⟨hM2.fr e3, by rw [s305]; exact s11, by rw [s305]; exact s12⟩, e2⟩
  have t3 : ∀ j, j ≠ 14 → j ≠ 15 → j ≠ 16 → j ≠ 17 → j ≠ 26 → τ3 135 j = τ 135 j := fun j g1 g2 g3 g4 g5 => (e3.2 j g1 g2 g3 g4).trans (tx_un g5)
  have t326 : τ3 135 26 = 0 := by rw [e3.2 26 (by omega) (by omega) (by omega) (by omega), tx_us]
  have hD : tx_D0 σ3 τ3 0 0 := by
    have s7 : σ3 107 = σ2 107 := d3.1 107 (by omega) (by omega) (by omega) (by omega)
    refine ⟨by rw [s7]; exact c4.1, by omega, ⟨by rw [s7]; exact c4.2, ?_⟩, ?_, fun j hj => absurd hj (by omega), fun l hl => absurd hl (by omega)⟩
    · rw [t3 27 (by omega) (by omega) (by omega) (by omega) (by omega)]; exact h27
    · rw [t3 28 (by omega) (by omega) (by omega) (by omega) (by omega)]; exact h28
  obtain ⟨v, σ', τ', g1, g2, g3, g4, g5⟩ := g_loop0 (b := b) (d := d) 16 0 0 0 σ3 τ3 rfl (by omega) (by omega) hJ3 hD (by rw [d3.1 120 (by omega) (by omega) (by omega) (by omega), c3]; rfl)
  have g1' : ix_S 65 35 50 [some (.ref 105), some (.int 0), none, some (.int 1), some (.int (0 : Int32))] [] (ix_S0 b, σ3) = some (.int v, (ix_S0 b, σ')) := g1
  refine ⟨v, σ', τ', ?_, ?_, ?_, ?_, ⟨?_, ?_, ?_⟩, ?_⟩
  · rw [q_Parser_read_0, if_neg (show ¬ (0 : Int32) < 0 by decide), if_pos (show (0 : Int32) ≤ 3 by decide), ← hσ1, c1]
    simp only [Option.bind_some]
    rw [q_Parser_wordsOf_0, if_pos (show Int32.toInt 0 = 0 by decide)]
    simp only [Option.bind_some]
    rw [d1]
    simp only [Option.bind_some]
    exact g1'
  · rw [q_M_readsText_0, e1]
    simp only [Option.bind_some]
    rw [if_neg (show ¬ (0 : Int32) = 1 by decide), if_neg (show ¬ (0 : Int32) = 2 by decide), if_neg (show ¬ (0 : Int32) = 3 by decide), q_M_readLaw_0, (show ix_S 237 9 2 [some (.ref 135), some (.int (0 : Int32)), none] [] (ix_S0 d, τ3) = _ from g2)]
    simp only [Option.bind_some, iv_tI]
  · exact tx_XA.tr (fun z hz => s3 z (by omega) (by omega) (by omega) (by omega) (by omega) (by omega) (by omega) (by omega) (by omega)) g3.XA
  · exact ((tx_XB.up (by omega)).tr (e3.fb.FM.XB)).tr g4.XB
  · rw [g4.2.1 33 (by omega), t3 33 (by omega) (by omega) (by omega) (by omega) (by omega)]
  · rw [g4.2.1 34 (by omega), t3 34 (by omega) (by omega) (by omega) (by omega) (by omega)]
  · rw [g4.2.1 26 (by omega)]; exact t326
  · rcases g5 with g5 | ⟨i', z', a', g5, g6, g7, g8, g9⟩
    · exact Or.inl g5
    · exact Or.inr ⟨i', z', g5, g6, g7, g8, g9.2.1.2.1, g9.2.1.2.2⟩
theorem t_clr1 {b : Bool} {σ : ix_St} : ∃ σ2, ix_F 148 [.ref 106, .int 1] (ix_S0 b, σ) = some (.null, (ix_S0 b, σ2)) ∧ (∀ z, z ≠ 107 → z ≠ 115 → z ≠ 118 → z ≠ 120 → σ2 z = σ z) ∧ σ2 120 1 = 0 ∧ ∀ j, j < 12 → σ2 115 j = 0 := by
  obtain ⟨σ', g1, g2, g3⟩ := f_fill115 b (ix_up σ 120 1 0) 0
  refine ⟨σ', ?_, fun z h1 h2 h3 h4 => ?_, ?_, fun j hj => ?_⟩
  · rw [q_Texts_clear_0, if_neg (show ¬ ((1 : Int32) < 0 ∨ 4 ≤ (1 : Int32).toNatClampNeg) by decide), show (1 : Int32).toNatClampNeg = 1 by decide, if_neg (by decide), if_pos rfl, g1]
    simp only [Option.bind_some]
  · rw [g2 z h2, iv_upn h4]
  · rw [g2 120 (by omega), tx_us]
  · rw [g3, if_pos hj]
theorem t_read1 {b d : Bool} {σ τ : ix_St} {c : Nat → Nat} {t N : Nat} (hE : tx_Es σ) (hT : tx_tc σ c t) (hM : tx_tm τ c t) (hN : N ≤ 12) (h7 : τ 135 7 = nI N) (h14 : τ 135 14 = 0) (_h27 : τ 135 27 = 0) (_h28 : τ 135 28 = 0) :
    ∃ v σ' τ', ix_F 65 [.ref 105, .int 1, .int (nI (2 ^ N - 1))] (ix_S0 b, σ) = some (.int v, (ix_S0 b, σ')) ∧ ix_F 199 [.ref 135, .int 1] (ix_S0 d, τ) = some (.int v, (ix_S0 d, τ')) ∧ tx_XA σ σ' ∧ tx_XB τ τ' ∧ (τ' 135 33 = τ 135 33 ∧ τ' 135 34 = τ 135 34 ∧ τ' 135 26 = 0) ∧ ((v = -1 ∧ tx_bad σ' τ') ∨ ∃ i, i ≤ 16 ∧ v = nI i ∧ tx_D1 σ' τ' i ∧ σ' 120 1 = nI i ∧ σ' 105 1 = 0 ∧ σ' 105 2 = -1) := by
  obtain ⟨σ1, hσ1⟩ : ∃ σ1, σ1 = ix_up (ix_up (ix_up σ 105 1 (0 : Int32)) 105 2 (-1 : Int32)) 105 4 (nI (2 ^ N - 1)) := ⟨_, rfl⟩
  have s1 : ∀ z, z ≠ 105 → σ1 z = σ z := fun z hz => by rw [hσ1, iv_upn hz, iv_upn hz, iv_upn hz]
  have s11 : σ1 105 1 = 0 := by rw [hσ1, tx_un (by omega), tx_un (by omega), tx_us]
  have s12 : σ1 105 2 = -1 := by rw [hσ1, tx_un (by omega), tx_us]
  have s14 : σ1 105 4 = nI (2 ^ N - 1) := by rw [hσ1, tx_us]
  obtain ⟨σ2, c1, c2, c3, c4⟩ := t_clr1 (b := b) (σ := σ1)
  have hT2 : tx_tc σ2 c t := by
    unfold tx_tc
    rw [c2 100 (by omega) (by omega) (by omega) (by omega), c2 101 (by omega) (by omega) (by omega) (by omega), s1 100 (by omega), s1 101 (by omega)]
    exact hT
  have hE2 : tx_Es σ2 := fun i hi j hj => by
    rw [c2 (1007 + i) (by omega) (by omega) (by omega) (by omega), s1 (1007 + i) (by omega)]
    exact hE i hi j hj
  obtain ⟨σ3, n, d1, d2, d3⟩ := f_rewind1 (b := b) hE2 hT2
  have hM2 : tx_tm (ix_up τ 135 26 0) c t := by
    unfold tx_tm
    rw [tx_un (by omega), iv_upn (by omega), iv_upn (by omega)]
    exact hM
  obtain ⟨τ3, e1, e2, e3⟩ := f_reads (b := d) hM2 (Nat.zero_le _) (show ix_up τ 135 26 0 135 14 = nI 0 by rw [tx_un (by omega)]; exact h14)
  have s3 : ∀ z, z ≠ 100 → z ≠ 102 → z ≠ 103 → z ≠ 104 → z ≠ 105 → z ≠ 107 → z ≠ 115 → z ≠ 118 → z ≠ 120 → σ3 z = σ z := fun z g1 g2 g3 g4 g5 g6 g7 g8 g9 => ((d3.1 z g1 g2 g3 g4).trans (c2 z g6 g7 g8 g9)).trans (s1 z g5)
  have s305 : σ3 105 = σ1 105 := (d3.1 105 (by omega) (by omega) (by omega) (by omega)).trans (c2 105 (by omega) (by omega) (by omega) (by omega))
  have hJ3 : tx_J 1 c t n 0 σ3 τ3 := ⟨d2, ⟨hM2.fr e3, by rw [s305]; exact s11, by rw [s305]; exact s12⟩, e2⟩
  have t3 : ∀ j, j ≠ 14 → j ≠ 15 → j ≠ 16 → j ≠ 17 → j ≠ 26 → τ3 135 j = τ 135 j := fun j g1 g2 g3 g4 g5 => (e3.2 j g1 g2 g3 g4).trans (tx_un g5)
  have t326 : τ3 135 26 = 0 := by rw [e3.2 26 (by omega) (by omega) (by omega) (by omega), tx_us]
  obtain ⟨τ4, f1, f2, f3⟩ := f_clE (d := d) 12 0 τ3 rfl
  have hJ4 : tx_J 1 c t n 0 σ3 τ4 := hJ3.cg (fun _ _ _ _ => rfl) (f2 143 (by omega)) (f2 144 (by omega)) (fun j _ _ => by rw [f2 135 (by omega)])
  have t4 : ∀ j, j ≠ 14 → j ≠ 15 → j ≠ 16 → j ≠ 17 → j ≠ 26 → τ4 135 j = τ 135 j := fun j h1 h2 h3 h4 h5 => by rw [f2 135 (by omega)]; exact t3 j h1 h2 h3 h4 h5
  have t426 : τ4 135 26 = 0 := by rw [f2 135 (by omega)]; exact t326
  have x4 : tx_XB τ3 τ4 := by
    refine ⟨fun z hz => f2 z (by omega), fun j _ => by rw [f2 135 (by omega)], fun j _ => ?_, fun j _ => ?_, fun j hj => ?_, fun j _ => ?_⟩
    · rw [f2 146 (by omega), f2 147 (by omega), f2 148 (by omega), f2 149 (by omega), f2 154 (by omega)]
      exact ⟨rfl, rfl, rfl, rfl, rfl⟩
    · rw [f2 150 (by omega), f2 151 (by omega)]
      exact ⟨rfl, rfl⟩
    · rw [f3, if_neg (by omega)]
    · rw [f2 155 (by omega)]
  have hD : tx_D1 σ3 τ4 0 := by
    refine ⟨N, hN, ?_, by rw [s305]; exact s14, fun j hj => ?_⟩
    · rw [f2 135 (by omega), t3 7 (by omega) (by omega) (by omega) (by omega) (by omega)]; exact h7
    · have q1 : σ3 115 j = 0 := by rw [d3.1 115 (by omega) (by omega) (by omega) (by omega)]; exact c4 j hj
      rw [q1, f3, if_pos (by omega)]
      exact ⟨rfl, fun _ => rfl⟩
  obtain ⟨v, σ', τ', g1, g2, g3, g4, g5⟩ := g_loop1 (b := b) (d := d) 16 0 0 σ3 τ4 rfl (by omega) hJ4 hD (by rw [d3.1 120 (by omega) (by omega) (by omega) (by omega), c3]; rfl)
  have g1' : ix_S 65 35 50 [some (.ref 105), some (.int 1), none, some (.int 1), some (.int (0 : Int32))] [] (ix_S0 b, σ3) = some (.int v, (ix_S0 b, σ')) := g1
  refine ⟨v, σ', τ', ?_, ?_, ?_, ?_, ⟨?_, ?_, ?_⟩, ?_⟩
  · rw [q_Parser_read_0, if_neg (show ¬ (1 : Int32) < 0 by decide), if_pos (show (1 : Int32) ≤ 3 by decide), ← hσ1, c1]
    simp only [Option.bind_some]
    rw [q_Parser_wordsOf_0, if_neg (show ¬ Int32.toInt 1 = 0 by decide), if_pos (show Int32.toInt 1 = 1 by decide)]
    simp only [Option.bind_some]
    rw [d1]
    simp only [Option.bind_some]
    exact g1'
  · rw [q_M_readsText_0, e1]
    simp only [Option.bind_some]
    rw [if_pos trivial, q_M_readEars_0, (show ix_S 234 7 2 [some (.ref 135), some (.int (0 : Int32))] [] (ix_S0 d, τ3) = _ from f1), g2]
    simp only [Option.bind_some, iv_tI]
  · exact tx_XA.tr (fun z hz => s3 z (by omega) (by omega) (by omega) (by omega) (by omega) (by omega) (by omega) (by omega) (by omega)) g3.XA
  · exact ((tx_XB.up (by omega)).tr (e3.fb.FM.XB.tr x4)).tr g4.XB
  · rw [g4.2.1 33 (by omega), t4 33 (by omega) (by omega) (by omega) (by omega) (by omega)]
  · rw [g4.2.1 34 (by omega), t4 34 (by omega) (by omega) (by omega) (by omega) (by omega)]
  · rw [g4.2.1 26 (by omega)]; exact t426
  · rcases g5 with g5 | ⟨i',  a', g5, g6, g7, g8, g9⟩
    · exact Or.inl g5
    · exact Or.inr ⟨ i', g5, g6, g7, g8, g9.2.1.2.1, g9.2.1.2.2⟩
theorem t_clr2 {b : Bool} {σ : ix_St} : ∃ σ2, ix_F 148 [.ref 106, .int 2] (ix_S0 b, σ) = some (.null, (ix_S0 b, σ2)) ∧ (∀ z, z ≠ 107 → z ≠ 115 → z ≠ 118 → z ≠ 120 → σ2 z = σ z) ∧ σ2 120 2 = 0 ∧ True := by
  refine ⟨ix_up σ 120 2 0, ?_, fun z _ _ _ g4 => iv_upn g4, tx_us, trivial⟩
  rw [q_Texts_clear_0, if_neg (show ¬ ((2 : Int32) < 0 ∨ 4 ≤ (2 : Int32).toNatClampNeg) by decide), show (2 : Int32).toNatClampNeg = 2 by decide, if_neg (by decide), if_neg (by decide), if_neg (by decide)]
theorem t_read2 {b d : Bool} {σ τ : ix_St} {c : Nat → Nat} {t N : Nat} (hE : tx_Es σ) (hT : tx_tc σ c t) (hM : tx_tm τ c t) (hN : N ≤ 12) (h7 : τ 135 7 = nI N) (h14 : τ 135 14 = 0) (_h27 : τ 135 27 = 0) (_h28 : τ 135 28 = 0) :
    ∃ v σ' τ', ix_F 65 [.ref 105, .int 2, .int (nI (2 ^ N - 1))] (ix_S0 b, σ) = some (.int v, (ix_S0 b, σ')) ∧ ix_F 199 [.ref 135, .int 2] (ix_S0 d, τ) = some (.int v, (ix_S0 d, τ')) ∧ tx_XA σ σ' ∧ tx_XB τ τ' ∧ (τ' 135 33 = τ 135 33 ∧ τ' 135 34 = τ 135 34 ∧ τ' 135 26 = 0) ∧ ((v = -1 ∧ tx_bad σ' τ') ∨ ∃ i, i ≤ 16 ∧ v = nI i ∧ tx_D2 σ' τ' i ∧ σ' 120 2 = nI i ∧ σ' 105 1 = 0 ∧ σ' 105 2 = -1) := by
  obtain ⟨σ1, hσ1⟩ : ∃ σ1, σ1 = ix_up (ix_up (ix_up σ 105 1 (0 : Int32)) 105 2 (-1 : Int32)) 105 4 (nI (2 ^ N - 1)) := ⟨_, rfl⟩
  have s1 : ∀ z, z ≠ 105 → σ1 z = σ z := fun z hz => by rw [hσ1, iv_upn hz, iv_upn hz, iv_upn hz]
  have s11 : σ1 105 1 = 0 := by rw [hσ1, tx_un (by omega), tx_un (by omega), tx_us]
  have s12 : σ1 105 2 = -1 := by rw [hσ1, tx_un (by omega), tx_us]
  have s14 : σ1 105 4 = nI (2 ^ N - 1) := by rw [hσ1, tx_us]
  obtain ⟨σ2, c1, c2, c3, c4⟩ := t_clr2 (b := b) (σ := σ1)
  have hT2 : tx_tc σ2 c t := by
    unfold tx_tc
    rw [c2 100 (by omega) (by omega) (by omega) (by omega), c2 101 (by omega) (by omega) (by omega) (by omega), s1 100 (by omega), s1 101 (by omega)]
    exact hT
  have hE2 : tx_Es σ2 := fun i hi j hj => by
    rw [c2 (1007 + i) (by omega) (by omega) (by omega) (by omega), s1 (1007 + i) (by omega)]
    exact hE i hi j hj
  obtain ⟨σ3, n, d1, d2, d3⟩ := f_rewind2 (b := b) hE2 hT2
  have hM2 : tx_tm (ix_up τ 135 26 0) c t := by
    unfold tx_tm
    rw [tx_un (by omega), iv_upn (by omega), iv_upn (by omega)]
    exact hM
  obtain ⟨τ3, e1, e2, e3⟩ := f_reads (b := d) hM2 (Nat.zero_le _) (show ix_up τ 135 26 0 135 14 = nI 0 by rw [tx_un (by omega)]; exact h14)
  have s3 : ∀ z, z ≠ 100 → z ≠ 102 → z ≠ 103 → z ≠ 104 → z ≠ 105 → z ≠ 107 → z ≠ 115 → z ≠ 118 → z ≠ 120 → σ3 z = σ z := fun z g1 g2 g3 g4 g5 g6 g7 g8 g9 => ((d3.1 z g1 g2 g3 g4).trans (c2 z g6 g7 g8 g9)).trans (s1 z g5)
  have s305 : σ3 105 = σ1 105 := (d3.1 105 (by omega) (by omega) (by omega) (by omega)).trans (c2 105 (by omega) (by omega) (by omega) (by omega))
  have hJ3 : tx_J 2 c t n 0 σ3 τ3 := ⟨d2, ⟨hM2.fr e3, by rw [s305]; exact s11, by rw [s305]; exact s12⟩, e2⟩
  have t3 : ∀ j, j ≠ 14 → j ≠ 15 → j ≠ 16 → j ≠ 17 → j ≠ 26 → τ3 135 j = τ 135 j := fun j g1 g2 g3 g4 g5 => (e3.2 j g1 g2 g3 g4).trans (tx_un g5)
  have t326 : τ3 135 26 = 0 := by rw [e3.2 26 (by omega) (by omega) (by omega) (by omega), tx_us]
  have hD : tx_D2 σ3 τ3 0 := ⟨N, hN, by rw [t3 7 (by omega) (by omega) (by omega) (by omega) (by omega)]; exact h7, by rw [s305]; exact s14, fun j hj => absurd hj (by omega)⟩
  obtain ⟨v, σ', τ', g1, g2, g3, g4, g5⟩ := g_loop2 (b := b) (d := d) 16 0 0 σ3 τ3 rfl (by omega) hJ3 hD (by rw [d3.1 120 (by omega) (by omega) (by omega) (by omega), c3]; rfl)
  have g1' : ix_S 65 35 50 [some (.ref 105), some (.int 2), none, some (.int 1), some (.int (0 : Int32))] [] (ix_S0 b, σ3) = some (.int v, (ix_S0 b, σ')) := g1
  refine ⟨v, σ', τ', ?_, ?_, ?_, ?_, ⟨?_, ?_, ?_⟩, ?_⟩
  · rw [q_Parser_read_0, if_neg (show ¬ (2 : Int32) < 0 by decide), if_pos (show (2 : Int32) ≤ 3 by decide), ← hσ1, c1]
    simp only [Option.bind_some]
    rw [q_Parser_wordsOf_0, if_neg (show ¬ Int32.toInt 2 = 0 by decide), if_neg (show ¬ Int32.toInt 2 = 1 by decide), if_pos (show Int32.toInt 2 = 2 by decide)]
    simp only [Option.bind_some]
    rw [d1]
    simp only [Option.bind_some]
    exact g1'
  · rw [q_M_readsText_0, e1]
    simp only [Option.bind_some]
    rw [if_neg (show ¬ (2 : Int32) = 1 by decide), if_pos trivial, q_M_readLog_0, (show ix_S 235 7 2 [some (.ref 135), some (.int (0 : Int32))] [] (ix_S0 d, τ3) = _ from g2)]
    simp only [Option.bind_some, iv_tI]
  · exact tx_XA.tr (fun z hz => s3 z (by omega) (by omega) (by omega) (by omega) (by omega) (by omega) (by omega) (by omega) (by omega)) g3.XA
  · exact ((tx_XB.up (by omega)).tr (e3.fb.FM.XB)).tr g4.XB
  · rw [g4.2.1 33 (by omega), t3 33 (by omega) (by omega) (by omega) (by omega) (by omega)]
  · rw [g4.2.1 34 (by omega), t3 34 (by omega) (by omega) (by omega) (by omega) (by omega)]
  · rw [g4.2.1 26 (by omega)]; exact t326
  · rcases g5 with g5 | ⟨i',  a', g5, g6, g7, g8, g9⟩
    · exact Or.inl g5
    · exact Or.inr ⟨ i', g5, g6, g7, g8, g9.2.1.2.1, g9.2.1.2.2⟩
theorem t_clr3 {b : Bool} {σ : ix_St} : ∃ σ2, ix_F 148 [.ref 106, .int 3] (ix_S0 b, σ) = some (.null, (ix_S0 b, σ2)) ∧ (∀ z, z ≠ 107 → z ≠ 115 → z ≠ 118 → z ≠ 120 → σ2 z = σ z) ∧ σ2 120 3 = 0 ∧ ∀ j, j < 6 → σ2 118 j = 0 := by
  obtain ⟨σ', g1, g2, g3⟩ := f_fill118 b (ix_up σ 120 3 0) 0
  refine ⟨σ', ?_, fun z h1 h2 h3 h4 => ?_, ?_, fun j hj => ?_⟩
  · rw [q_Texts_clear_0, if_neg (show ¬ ((3 : Int32) < 0 ∨ 4 ≤ (3 : Int32).toNatClampNeg) by decide), show (3 : Int32).toNatClampNeg = 3 by decide, if_neg (by decide), if_neg (by decide), if_pos rfl, g1]
    simp only [Option.bind_some]
  · rw [g2 z h3, iv_upn h4]
  · rw [g2 120 (by omega), tx_us]
  · rw [g3, if_pos hj]
theorem t_read3 {b d : Bool} {σ τ : ix_St} {c : Nat → Nat} {t N : Nat} (hE : tx_Es σ) (hT : tx_tc σ c t) (hM : tx_tm τ c t) (_hN : N ≤ 12) (_h7 : τ 135 7 = nI N) (h14 : τ 135 14 = 0) (_h27 : τ 135 27 = 0) (_h28 : τ 135 28 = 0) :
    ∃ v σ' τ', ix_F 65 [.ref 105, .int 3, .int (nI (2 ^ N - 1))] (ix_S0 b, σ) = some (.int v, (ix_S0 b, σ')) ∧ ix_F 199 [.ref 135, .int 3] (ix_S0 d, τ) = some (.int v, (ix_S0 d, τ')) ∧ tx_XA σ σ' ∧ tx_XB τ τ' ∧ (τ' 135 33 = τ 135 33 ∧ τ' 135 34 = τ 135 34 ∧ τ' 135 26 = 0) ∧ ((v = -1 ∧ tx_bad σ' τ') ∨ ∃ i, i ≤ 16 ∧ v = nI i ∧ tx_D3 σ' τ' i ∧ σ' 120 3 = nI i ∧ σ' 105 1 = 0 ∧ σ' 105 2 = -1) := by
  obtain ⟨σ1, hσ1⟩ : ∃ σ1, σ1 = ix_up (ix_up (ix_up σ 105 1 (0 : Int32)) 105 2 (-1 : Int32)) 105 4 (nI (2 ^ N - 1)) := ⟨_, rfl⟩
  have s1 : ∀ z, z ≠ 105 → σ1 z = σ z := fun z hz => by rw [hσ1, iv_upn hz, iv_upn hz, iv_upn hz]
  have s11 : σ1 105 1 = 0 := by rw [hσ1, tx_un (by omega), tx_un (by omega), tx_us]
  have s12 : σ1 105 2 = -1 := by rw [hσ1, tx_un (by omega), tx_us]
  have s14 : σ1 105 4 = nI (2 ^ N - 1) := by rw [hσ1, tx_us]
  obtain ⟨σ2, c1, c2, c3, c4⟩ := t_clr3 (b := b) (σ := σ1)
  have hT2 : tx_tc σ2 c t := by
    unfold tx_tc
    rw [c2 100 (by omega) (by omega) (by omega) (by omega), c2 101 (by omega) (by omega) (by omega) (by omega), s1 100 (by omega), s1 101 (by omega)]
    exact hT
  have hE2 : tx_Es σ2 := fun i hi j hj => by
    rw [c2 (1007 + i) (by omega) (by omega) (by omega) (by omega), s1 (1007 + i) (by omega)]
    exact hE i hi j hj
  obtain ⟨σ3, n, d1, d2, d3⟩ := f_rewind3 (b := b) hE2 hT2
  have hM2 : tx_tm (ix_up τ 135 26 0) c t := by
    unfold tx_tm
    rw [tx_un (by omega), iv_upn (by omega), iv_upn (by omega)]
    exact hM
  obtain ⟨τ3, e1, e2, e3⟩ := f_reads (b := d) hM2 (Nat.zero_le _) (show ix_up τ 135 26 0 135 14 = nI 0 by rw [tx_un (by omega)]; exact h14)
  have s3 : ∀ z, z ≠ 100 → z ≠ 102 → z ≠ 103 → z ≠ 104 → z ≠ 105 → z ≠ 107 → z ≠ 115 → z ≠ 118 → z ≠ 120 → σ3 z = σ z := fun z g1 g2 g3 g4 g5 g6 g7 g8 g9 => ((d3.1 z g1 g2 g3 g4).trans (c2 z g6 g7 g8 g9)).trans (s1 z g5)
  have s305 : σ3 105 = σ1 105 := (d3.1 105 (by omega) (by omega) (by omega) (by omega)).trans (c2 105 (by omega) (by omega) (by omega) (by omega))
  have hJ3 : tx_J 3 c t n 0 σ3 τ3 := ⟨d2, ⟨hM2.fr e3, by rw [s305]; exact s11, by rw [s305]; exact s12⟩, e2⟩
  have t3 : ∀ j, j ≠ 14 → j ≠ 15 → j ≠ 16 → j ≠ 17 → j ≠ 26 → τ3 135 j = τ 135 j := fun j g1 g2 g3 g4 g5 => (e3.2 j g1 g2 g3 g4).trans (tx_un g5)
  have t326 : τ3 135 26 = 0 := by rw [e3.2 26 (by omega) (by omega) (by omega) (by omega), tx_us]
  have hD : tx_D3 σ3 τ3 0 := ⟨fun k hk => absurd hk (by omega), fun l hl => ⟨none, fun j hj => absurd hj (by omega), (by
    show σ3 118 l = 0
    rw [d3.1 118 (by omega) (by omega) (by omega) (by omega)]
    exact c4 l hl)⟩⟩
  obtain ⟨v, σ', τ', g1, g2, g3, g4, g5⟩ := g_loop3 (b := b) (d := d) 16 0 0 σ3 τ3 rfl (by omega) hJ3 hD (by rw [d3.1 120 (by omega) (by omega) (by omega) (by omega), c3]; rfl)
  have g1' : ix_S 65 35 50 [some (.ref 105), some (.int 3), none, some (.int 1), some (.int (0 : Int32))] [] (ix_S0 b, σ3) = some (.int v, (ix_S0 b, σ')) := g1
  refine ⟨v, σ', τ', ?_, ?_, ?_, ?_, ⟨?_, ?_, ?_⟩, ?_⟩
  · rw [q_Parser_read_0, if_neg (show ¬ (3 : Int32) < 0 by decide), if_pos (show (3 : Int32) ≤ 3 by decide), ← hσ1, c1]
    simp only [Option.bind_some]
    rw [q_Parser_wordsOf_0, if_neg (show ¬ Int32.toInt 3 = 0 by decide), if_neg (show ¬ Int32.toInt 3 = 1 by decide), if_neg (show ¬ Int32.toInt 3 = 2 by decide)]
    simp only [Option.bind_some]
    rw [d1]
    simp only [Option.bind_some]
    exact g1'
  · rw [q_M_readsText_0, e1]
    simp only [Option.bind_some]
    rw [if_neg (show ¬ (3 : Int32) = 1 by decide), if_neg (show ¬ (3 : Int32) = 2 by decide), if_pos trivial, q_M_readSeasons_0, (show ix_S 236 7 2 [some (.ref 135), some (.int (0 : Int32))] [] (ix_S0 d, τ3) = _ from g2)]
    simp only [Option.bind_some, iv_tI]
  · exact tx_XA.tr (fun z hz => s3 z (by omega) (by omega) (by omega) (by omega) (by omega) (by omega) (by omega) (by omega) (by omega)) g3.XA
  · exact ((tx_XB.up (by omega)).tr (e3.fb.FM.XB)).tr g4.XB
  · rw [g4.2.1 33 (by omega), t3 33 (by omega) (by omega) (by omega) (by omega) (by omega)]
  · rw [g4.2.1 34 (by omega), t3 34 (by omega) (by omega) (by omega) (by omega) (by omega)]
  · rw [g4.2.1 26 (by omega)]; exact t326
  · rcases g5 with g5 | ⟨i',  a', g5, g6, g7, g8, g9⟩
    · exact Or.inl g5
    · exact Or.inr ⟨ i', g5, g6, g7, g8, g9.2.1.2.1, g9.2.1.2.2⟩
