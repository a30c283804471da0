/-! a text that is read is taken: what holds then -/
def tx_W (σ τ : ix_St) (n : Nat) : Prop := (σ 25 0 = τ 145 0 ∧ σ 25 1 = τ 135 35 ∧ σ 25 2 = τ 135 37 ∧ σ 25 3 = τ 135 39) ∧ (∀ i, i < 12 → σ 20 i = τ 153 i ∧ (n ≤ i → σ 20 i = 0)) ∧ iv_log (σ 21) (σ 22) (τ 154) (τ 135 37) ∧ iv_sea (σ 23) (σ 24) (τ 155) (τ 135 39) ∧ iv_law (σ 12) (σ 13) (σ 14) (σ 15) (σ 16) (σ 17) (τ 145 0) (τ 146) (τ 147) (τ 148) (τ 149) (τ 150) (τ 151)
theorem tx_RB {K : Nat} {σ σ' τ τ' : ix_St} (h : iv_R K σ τ) (h1 : ∀ z, z < 12 ∨ (25 < z ∧ z < 106 ∧ z ≠ 55) → σ' z = σ z) (m1 : ∀ z, z ≠ 135 → z < 145 ∨ 155 < z → τ' z = τ z) (m2 : ∀ j, j ≠ 3 → j ≠ 35 → j ≠ 37 → j ≠ 39 → τ' 135 j = τ 135 j) (hp : (σ' 55 = σ 55 ∧ τ' 135 3 = τ 135 3) ∨ (σ' 55 2 = σ 55 2 ∧ σ' 55 3 = 0 ∧ τ' 135 3 = 0)) (hB : ∀ n, n ≤ 12 → τ 135 7 = nI n → tx_W σ τ n → tx_W σ' τ' n) : iv_R K σ' τ' := by
  obtain ⟨n, o, hn, hw, hpast, htape, hoth, himg⟩ := h
  obtain ⟨-, ⟨⟨w2, -⟩, -⟩, w5, w6, w7, w8, w9, -, -⟩ := id hw
  obtain ⟨x5, x6, x7, x8, x9⟩ := hB n hn w2 ⟨w5, w6, w7, w8, w9⟩
  refine ⟨n, o, hn, ?_, ?_, ?_, ?_, ?_⟩
  · refine tx_worc hw (fun z hz => h1 z (by omega)) (m1 136 (by omega) (by omega)) (m2 6 (by omega) (by omega) (by omega) (by omega)) (m2 7 (by omega) (by omega) (by omega) (by omega)) (m2 47 (by omega) (by omega) (by omega) (by omega)) (fun z hz => ?_) x5 x6 x7 x8 x9
    have hz' : z = 2 ∨ z = 3 ∨ z = 4 ∨ z = 6 ∨ z = 7 ∨ z = 10 := by omega
    rcases hz' with rfl | rfl | rfl | rfl | rfl | rfl
    · exact m1 139 (by omega) (by omega)
    · exact m1 140 (by omega) (by omega)
    · exact m1 141 (by omega) (by omega)
    · exact m1 162 (by omega) (by omega)
    · exact m1 161 (by omega) (by omega)
    · exact m1 142 (by omega) (by omega)
  · rcases hp with ⟨p1, p2⟩ | ⟨p1, p2, p3⟩
    · refine iv_past_cong (fun c c1 c2 => ?_) p2 (m2 6 (by omega) (by omega) (by omega) (by omega)) (m1 137 (by omega) (by omega)) (m1 139 (by omega) (by omega)) (m1 140 (by omega) (by omega)) (m1 141 (by omega) (by omega)) hpast
      by_cases e : c = 55
      · rw [e]; exact p1
      · exact h1 c (by omega)
    · exact iv_past0 hpast p1 p2 p3
  · unfold iv_tape
    rw [h1 100 (by omega), h1 101 (by omega), m2 13 (by omega) (by omega) (by omega) (by omega), m1 143 (by omega) (by omega)]
    exact htape
  · unfold iv_oth
    rw [h1 105 (by omega), m2 33 (by omega) (by omega) (by omega) (by omega), m2 34 (by omega) (by omega) (by omega) (by omega), m2 5 (by omega) (by omega) (by omega) (by omega), m1 144 (by omega) (by omega)]
    exact hoth
  · obtain ⟨g1, g2⟩ := himg
    refine ⟨by rw [h1 0 (by omega), m2 51 (by omega) (by omega) (by omega) (by omega)]; exact g1, ?_⟩
    rw [m2 51 (by omega) (by omega) (by omega) (by omega), m1 163 (by omega) (by omega)]
    rcases g2 with g2 | ⟨g2, n', o', hn', hw'⟩
    · exact Or.inl g2
    · exact Or.inr ⟨g2, n', o', hn', tx_worcc hw' (fun z z1 z2 => h1 (z + 27) (by omega))⟩
theorem tx_seaB {bh bc sea bh' bc' sea' : Nat → Int32} {m : Nat} (h : tx_sea bh bc sea m) (hm : m ≤ 16) (h1 : ∀ l, l < 6 → bh' l = bh l ∧ bc' l = bc l) (h2 : ∀ j, j < 3 * m → sea' j = sea j) : iv_sea bh' bc' sea' (nI m) := by
  refine ⟨m, hm, rfl, fun k hk => ?_, fun l hl => ?_⟩
  · rw [h2 _ (by omega), h2 _ (by omega), h2 _ (by omega)]; exact h.1 k hk
  · obtain ⟨r, g1, g2⟩ := h.2 l hl
    obtain ⟨q1, q2⟩ := h1 l hl
    cases r with
    | some k =>
      have g3 : k < m ∧ sea (3 * k) = nI l ∧ ∀ j, j < k → sea (3 * j) ≠ nI l := g1
      have g4 : bh l = sea (3 * k + 1) ∧ bc l = sea (3 * k + 2) := g2
      refine ⟨some k, ⟨g3.1, by rw [h2 _ (by omega)]; exact g3.2.1, fun j hj => by rw [h2 _ (by omega)]; exact g3.2.2 j hj⟩, ?_⟩
      show bh' l = sea' (3 * k + 1) ∧ bc' l = sea' (3 * k + 2)
      rw [h2 _ (by omega), h2 _ (by omega), q1, q2]
      exact g4
    | none =>
      have g3 : ∀ j, j < m → sea (3 * j) ≠ nI l := g1
      have g4 : bh l = 0 := g2
      refine ⟨none, fun j hj => by rw [h2 _ (by omega)]; exact g3 j hj, ?_⟩
      show bh' l = 0
      rw [q1]; exact g4
section Tk
variable {b d : Bool} {K i : Nat} {σ τ : ix_St}
/-- seasons -/
theorem t_take3 (hR : iv_R K σ τ) (hi : i ≤ 16) (hD : tx_D3 σ τ i) (h120 : σ 120 3 = nI i) : ∃ σ' τ', ix_F 144 [.ref 11, .int 3, .ref 106] (ix_S0 b, σ) = some (.null, (ix_S0 b, σ')) ∧ ix_F 201 [.ref 135, .int 3, .int (nI i)] (ix_S0 d, τ) = some (.null, (ix_S0 d, τ')) ∧ iv_R K σ' τ' := by
  obtain ⟨τ', g1, g2, g3, g4, g5⟩ := f_tk3 (d := d) hi (3 * i) 0 τ (by omega)
  have k3 : ¬ ((3 : Int32) < 0 ∨ 4 ≤ (3 : Int32).toNatClampNeg) := by decide
  refine ⟨ix_cp (ix_cp (ix_up σ 25 3 (nI i)) 118 23 0 0 6) 119 24 0 0 6, τ', ?_, ?_, ?_⟩
  · rw [q_Texts_take_0, if_neg k3, if_neg k3, show (3 : Int32).toNatClampNeg = 3 by decide, if_neg (by decide), if_neg (by decide), if_neg (by decide), h120]
  · rw [q_M_takesOther_0, if_pos rfl]
    exact g1
  · have s : ∀ z, z ≠ 23 → z ≠ 24 → z ≠ 25 → ix_cp (ix_cp (ix_up σ 25 3 (nI i)) 118 23 0 0 6) 119 24 0 0 6 z = σ z := fun z z1 z2 z3 => by rw [iv_cpn2 z2, iv_cpn2 z1, iv_upn z3]
    have s25 : ix_cp (ix_cp (ix_up σ 25 3 (nI i)) 118 23 0 0 6) 119 24 0 0 6 25 = ix_up σ 25 3 (nI i) 25 := by rw [iv_cpn2 (by omega), iv_cpn2 (by omega)]
    refine tx_RB hR (fun z hz => s z (by omega) (by omega) (by omega)) (fun z z1 z2 => g2 z (by omega) z1) (fun j _ _ _ j4 => g5 j j4) (Or.inl ⟨s 55 (by omega) (by omega) (by omega), g5 3 (by omega)⟩) (fun n hn h7 hW => ?_)
    obtain ⟨⟨w1, w2, w3, w4⟩, w6, w7, w8, w9⟩ := hW
    refine ⟨⟨?_, ?_, ?_, ?_⟩, fun j hj => ?_, ?_, ?_, ?_⟩
    · rw [s25, tx_un (by omega), g2 145 (by omega) (by omega)]; exact w1
    · rw [s25, tx_un (by omega), g5 35 (by omega)]; exact w2
    · rw [s25, tx_un (by omega), g5 37 (by omega)]; exact w3
    · rw [s25, tx_us, g4]
    · rw [s 20 (by omega) (by omega) (by omega), g2 153 (by omega) (by omega)]; exact w6 j hj
    · rw [s 21 (by omega) (by omega) (by omega), s 22 (by omega) (by omega) (by omega), g2 154 (by omega) (by omega), g5 37 (by omega)]; exact w7
    · rw [g4]
      refine tx_seaB hD hi (fun l hl => ⟨?_, ?_⟩) (fun j hj => ?_)
      · rw [iv_cpn2 (by omega), iv_cp_at, if_pos hl, iv_upn (by omega)]
      · rw [iv_cp_at, if_pos hl, iv_cpn2 (by omega), iv_upn (by omega)]
      · rw [g3, if_pos (by omega)]
    · rw [s 12 (by omega) (by omega) (by omega), s 13 (by omega) (by omega) (by omega), s 14 (by omega) (by omega) (by omega), s 15 (by omega) (by omega) (by omega), s 16 (by omega) (by omega) (by omega), s 17 (by omega) (by omega) (by omega), g2 145 (by omega) (by omega), g2 146 (by omega) (by omega), g2 147 (by omega) (by omega), g2 148 (by omega) (by omega), g2 149 (by omega) (by omega), g2 150 (by omega) (by omega), g2 151 (by omega) (by omega)]; exact w9
/-- ears -/
theorem t_take1 (hR : iv_R K σ τ) (hi : i ≤ 16) (hD : tx_D1 σ τ i) (h120 : σ 120 1 = nI i) : ∃ σ' τ', ix_F 144 [.ref 11, .int 1, .ref 106] (ix_S0 b, σ) = some (.null, (ix_S0 b, σ')) ∧ ix_F 201 [.ref 135, .int 1, .int (nI i)] (ix_S0 d, τ) = some (.null, (ix_S0 d, τ')) ∧ iv_R K (ix_up σ' 55 3 0) τ' := by
  obtain ⟨τ', g1, g2, g3, g4, g5, g6⟩ := f_tk1 (d := d) hi 12 0 τ (by omega)
  have k3 : ¬ ((1 : Int32) < 0 ∨ 4 ≤ (1 : Int32).toNatClampNeg) := by decide
  refine ⟨ix_cp (ix_up σ 25 1 (nI i)) 115 20 0 0 12, τ', ?_, ?_, ?_⟩
  · rw [q_Texts_take_0, if_neg k3, if_neg k3, show (1 : Int32).toNatClampNeg = 1 by decide, if_neg (by decide), if_pos rfl, h120]
  · rw [q_M_takesOther_0, if_neg (by decide), if_pos rfl]
    exact g1
  · have s : ∀ z, z ≠ 20 → z ≠ 25 → z ≠ 55 → ix_up (ix_cp (ix_up σ 25 1 (nI i)) 115 20 0 0 12) 55 3 0 z = σ z := fun z z1 z2 z3 => by rw [iv_upn z3, iv_cpn2 z1, iv_upn z2]
    have s25 : ix_up (ix_cp (ix_up σ 25 1 (nI i)) 115 20 0 0 12) 55 3 0 25 = ix_up σ 25 1 (nI i) 25 := by rw [iv_upn (by omega), iv_cpn2 (by omega)]
    refine tx_RB hR (fun z hz => s z (by omega) (by omega) (by omega)) (fun z z1 z2 => g2 z (by omega) z1) (fun j j1 j2 _ _ => g6 j j2 j1) (Or.inr ⟨by rw [tx_un (by omega), iv_cpn2 (by omega), iv_upn (by omega)], tx_us, g5⟩) (fun n hn h7 hW => ?_)
    obtain ⟨⟨w1, w2, w3, w4⟩, w6, w7, w8, w9⟩ := hW
    obtain ⟨N, hN, d1, d2, d3⟩ := hD
    have hNn : N = n := (nI_eq (by omega) (by omega)).mp (d1.symm.trans h7)
    refine ⟨⟨?_, ?_, ?_, ?_⟩, fun j hj => ?_, ?_, ?_, ?_⟩
    · rw [s25, tx_un (by omega), g2 145 (by omega) (by omega)]; exact w1
    · rw [s25, tx_us, g4]
    · rw [s25, tx_un (by omega), g6 37 (by omega) (by omega)]; exact w3
    · rw [s25, tx_un (by omega), g6 39 (by omega) (by omega)]; exact w4
    · obtain ⟨q1, q2⟩ := d3 j hj
      rw [iv_upn (by omega), iv_cp_at, if_pos hj, iv_upn (by omega), g3, if_pos (by omega)]
      exact ⟨q1, fun q => q2 (by omega)⟩
    · rw [s 21 (by omega) (by omega) (by omega), s 22 (by omega) (by omega) (by omega), g2 154 (by omega) (by omega), g6 37 (by omega) (by omega)]; exact w7
    · rw [s 23 (by omega) (by omega) (by omega), s 24 (by omega) (by omega) (by omega), g2 155 (by omega) (by omega), g6 39 (by omega) (by omega)]; exact w8
    · rw [s 12 (by omega) (by omega) (by omega), s 13 (by omega) (by omega) (by omega), s 14 (by omega) (by omega) (by omega), s 15 (by omega) (by omega) (by omega), s 16 (by omega) (by omega) (by omega), s 17 (by omega) (by omega) (by omega), g2 145 (by omega) (by omega), g2 146 (by omega) (by omega), g2 147 (by omega) (by omega), g2 148 (by omega) (by omega), g2 149 (by omega) (by omega), g2 150 (by omega) (by omega), g2 151 (by omega) (by omega)]; exact w9
/-- the log -/
theorem t_take2 (hR : iv_R K σ τ) (hi : i ≤ 16) (hD : tx_D2 σ τ i) (h120 : σ 120 2 = nI i) : ∃ σ' τ', ix_F 144 [.ref 11, .int 2, .ref 106] (ix_S0 b, σ) = some (.null, (ix_S0 b, σ')) ∧ ix_F 201 [.ref 135, .int 2, .int (nI i)] (ix_S0 d, τ) = some (.null, (ix_S0 d, τ')) ∧ iv_R K (ix_up σ' 55 3 0) τ' := by
  obtain ⟨τ', g1, g2, g3, g4, g5, g6⟩ := f_tk2 (d := d) hi (2 * i) 0 τ (by omega)
  have k3 : ¬ ((2 : Int32) < 0 ∨ 4 ≤ (2 : Int32).toNatClampNeg) := by decide
  refine ⟨ix_cp (ix_cp (ix_up σ 25 2 (nI i)) 116 21 0 0 16) 117 22 0 0 16, τ', ?_, ?_, ?_⟩
  · rw [q_Texts_take_0, if_neg k3, if_neg k3, show (2 : Int32).toNatClampNeg = 2 by decide, if_neg (by decide), if_neg (by decide), if_pos rfl, h120]
  · rw [q_M_takesOther_0, if_neg (by decide), if_neg (by decide)]
    exact g1
  · have s : ∀ z, z ≠ 21 → z ≠ 22 → z ≠ 25 → z ≠ 55 → ix_up (ix_cp (ix_cp (ix_up σ 25 2 (nI i)) 116 21 0 0 16) 117 22 0 0 16) 55 3 0 z = σ z := fun z z1 z2 z3 z4 => by rw [iv_upn z4, iv_cpn2 z2, iv_cpn2 z1, iv_upn z3]
    have s25 : ix_up (ix_cp (ix_cp (ix_up σ 25 2 (nI i)) 116 21 0 0 16) 117 22 0 0 16) 55 3 0 25 = ix_up σ 25 2 (nI i) 25 := by rw [iv_upn (by omega), iv_cpn2 (by omega), iv_cpn2 (by omega)]
    refine tx_RB hR (fun z hz => s z (by omega) (by omega) (by omega) (by omega)) (fun z z1 z2 => g2 z (by omega) z1) (fun j j1 _ j3 _ => g6 j j3 j1) (Or.inr ⟨by rw [tx_un (by omega), iv_cpn2 (by omega), iv_cpn2 (by omega), iv_upn (by omega)], tx_us, g5⟩) (fun n hn h7 hW => ?_)
    obtain ⟨⟨w1, w2, w3, w4⟩, w6, w7, w8, w9⟩ := hW
    obtain ⟨N, hN, d1, d2, d3⟩ := hD
    refine ⟨⟨?_, ?_, ?_, ?_⟩, fun j hj => ?_, ?_, ?_, ?_⟩
    · rw [s25, tx_un (by omega), g2 145 (by omega) (by omega)]; exact w1
    · rw [s25, tx_un (by omega), g6 35 (by omega) (by omega)]; exact w2
    · rw [s25, tx_us, g4]
    · rw [s25, tx_un (by omega), g6 39 (by omega) (by omega)]; exact w4
    · rw [s 20 (by omega) (by omega) (by omega) (by omega), g2 153 (by omega) (by omega)]; exact w6 j hj
    · refine ⟨i, hi, g4, fun k hk => ?_⟩
      obtain ⟨q1, q2⟩ := d3 k hk
      rw [iv_upn (by omega), iv_cpn2 (by omega), iv_cp_at, if_pos (by omega), iv_upn (by omega), iv_upn (by omega), iv_cp_at, if_pos (by omega), iv_cpn2 (by omega), iv_upn (by omega), g3, if_pos (by omega), g3, if_pos (by omega)]
      exact ⟨q1, by rw [show 32 + (2 * k + 1) = 33 + 2 * k by omega]; exact q2⟩
    · rw [s 23 (by omega) (by omega) (by omega) (by omega), s 24 (by omega) (by omega) (by omega) (by omega), g2 155 (by omega) (by omega), g6 39 (by omega) (by omega)]; exact w8
    · rw [s 12 (by omega) (by omega) (by omega) (by omega), s 13 (by omega) (by omega) (by omega) (by omega), s 14 (by omega) (by omega) (by omega) (by omega), s 15 (by omega) (by omega) (by omega) (by omega), s 16 (by omega) (by omega) (by omega) (by omega), s 17 (by omega) (by omega) (by omega) (by omega), g2 145 (by omega) (by omega), g2 146 (by omega) (by omega), g2 147 (by omega) (by omega), g2 148 (by omega) (by omega), g2 149 (by omega) (by omega), g2 150 (by omega) (by omega), g2 151 (by omega) (by omega)]; exact w9
/-- the law -/
theorem t_take0 {z : Nat} (hR : iv_R K σ τ) (hi : i ≤ 16) (hD : tx_D0 σ τ i z) (h120 : σ 120 0 = nI i) (h26 : τ 135 26 = 0) : ∃ σ' τ', ix_F 144 [.ref 11, .int 0, .ref 106] (ix_S0 b, σ) = some (.null, (ix_S0 b, σ')) ∧ ix_F 200 [.ref 135, .int (nI i)] (ix_S0 d, τ) = some (.null, (ix_S0 d, τ')) ∧ iv_R K σ' τ' := by
  obtain ⟨d7, dz, ⟨d8, d27⟩, d28, dE, dL⟩ := hD
  obtain ⟨τ1, g1, g2, g3⟩ := f_tkL (d := d) hi i 0 τ (by omega) h26
  obtain ⟨τ', e1, e2, e3, e4⟩ := f_tkC (d := d) (v := nI i) dz z 0 τ1 (by omega) (by rw [g2 135 (by omega)]; exact h26) (by rw [g2 135 (by omega)]; exact d27)
  have k3 : ¬ ((0 : Int32) < 0 ∨ 4 ≤ (0 : Int32).toNatClampNeg) := by decide
  refine ⟨ix_cp (ix_cp (ix_cp (ix_cp (ix_cp (ix_up (ix_up (ix_up σ 25 0 (nI i)) 12 8 (nI z)) 12 7 (nI i)) 108 13 0 0 400) 109 14 0 0 16) 110 15 0 0 16) 111 16 0 0 16) 112 17 0 0 16, τ', ?_, ?_, ?_⟩
  · rw [q_Texts_take_0, if_neg k3, if_neg k3, show (0 : Int32).toNatClampNeg = 0 by decide, if_pos rfl, h120, q_Law_copyFrom_0, iv_upn (c := 25) (d := 107) (by omega), d7, d8]
    simp only [Option.bind_some]
  · rw [q_M_takesLaw_0]
    exact (show ix_S 200 1 2 [some (.ref 135), some (.int (nI i)), some (.int (0 : Int32))] [] (ix_S0 d, τ) = _ from g1).trans e1
  · have s : ∀ y, y ≠ 12 → y ≠ 13 → y ≠ 14 → y ≠ 15 → y ≠ 16 → y ≠ 17 → y ≠ 25 → ix_cp (ix_cp (ix_cp (ix_cp (ix_cp (ix_up (ix_up (ix_up σ 25 0 (nI i)) 12 8 (nI z)) 12 7 (nI i)) 108 13 0 0 400) 109 14 0 0 16) 110 15 0 0 16) 111 16 0 0 16) 112 17 0 0 16 y = σ y := fun y y1 y2 y3 y4 y5 y6 y7 => by rw [iv_cpn2 y6, iv_cpn2 y5, iv_cpn2 y4, iv_cpn2 y3, iv_cpn2 y2, iv_upn y1, iv_upn y1, iv_upn y7]
    have s25 : ix_cp (ix_cp (ix_cp (ix_cp (ix_cp (ix_up (ix_up (ix_up σ 25 0 (nI i)) 12 8 (nI z)) 12 7 (nI i)) 108 13 0 0 400) 109 14 0 0 16) 110 15 0 0 16) 111 16 0 0 16) 112 17 0 0 16 25 = ix_up σ 25 0 (nI i) 25 := by rw [iv_cpn2 (by omega), iv_cpn2 (by omega), iv_cpn2 (by omega), iv_cpn2 (by omega), iv_cpn2 (by omega), iv_upn (by omega), iv_upn (by omega)]
    have m : ∀ y, y < 145 ∨ 151 < y → τ' y = τ y := fun y hy => (e2 y (by omega) (by omega) (by omega)).trans (g2 y (by omega))
    refine tx_RB hR (fun y hy => s y (by omega) (by omega) (by omega) (by omega) (by omega) (by omega) (by omega)) (fun y y1 y2 => m y (by omega)) (fun j _ _ _ _ => by rw [m 135 (by omega)]) (Or.inl ⟨s 55 (by omega) (by omega) (by omega) (by omega) (by omega) (by omega) (by omega), by rw [m 135 (by omega)]⟩) (fun n hn h7 hW => ?_)
    obtain ⟨⟨w1, w2, w3, w4⟩, w6, w7, w8, w9⟩ := hW
    have L : ∀ y, 146 ≤ y → y ≤ 149 → ∀ l, l < i → τ' y l = τ y (32 + l) := fun y y1 y2 l hl => by rw [e2 y (by omega) (by omega) (by omega), g3 y y1 y2 l, if_pos (by omega)]
    have C : ∀ y, y = 150 ∨ y = 151 → ∀ j, j < z → τ' y j = τ y (800 + j) := fun y hy j hj => by rw [e4 y hy j, if_pos (by omega), g2 y (by omega)]
    refine ⟨⟨?_, ?_, ?_, ?_⟩, fun j hj => ?_, ?_, ?_, ?_⟩
    · rw [s25, tx_us, e3]
    · rw [s25, tx_un (by omega), m 135 (by omega)]; exact w2
    · rw [s25, tx_un (by omega), m 135 (by omega)]; exact w3
    · rw [s25, tx_un (by omega), m 135 (by omega)]; exact w4
    · rw [s 20 (by omega) (by omega) (by omega) (by omega) (by omega) (by omega) (by omega), m 153 (by omega)]; exact w6 j hj
    · rw [s 21 (by omega) (by omega) (by omega) (by omega) (by omega) (by omega) (by omega), s 22 (by omega) (by omega) (by omega) (by omega) (by omega) (by omega) (by omega), m 154 (by omega), m 135 (by omega)]; exact w7
    · rw [s 23 (by omega) (by omega) (by omega) (by omega) (by omega) (by omega) (by omega), s 24 (by omega) (by omega) (by omega) (by omega) (by omega) (by omega) (by omega), m 155 (by omega), m 135 (by omega)]; exact w8
    · refine ⟨i, z, hi, ?_, e3, dz, ?_, fun j hj => ?_, fun l hl => ?_⟩
      · rw [iv_cpn2 (by omega), iv_cpn2 (by omega), iv_cpn2 (by omega), iv_cpn2 (by omega), iv_cpn2 (by omega), tx_us]
      · rw [iv_cpn2 (by omega), iv_cpn2 (by omega), iv_cpn2 (by omega), iv_cpn2 (by omega), iv_cpn2 (by omega), tx_un (by omega), tx_us]
      · rw [iv_cpn2 (by omega), iv_cpn2 (by omega), iv_cpn2 (by omega), iv_cpn2 (by omega), iv_cp_at, if_pos (by omega), iv_upn (by omega), iv_upn (by omega), iv_upn (by omega), C 150 (by omega) j hj, C 151 (by omega) j hj]
        exact dE j hj
      · obtain ⟨q1, q2, A, B, C', hAB, hBC, hCz, q3, q4, q5, q6, q7, q8, ⟨x, hx, q9⟩, q10⟩ := dL l hl
        have c14 : ∀ j, j < 16 → ix_cp (ix_cp (ix_cp (ix_cp (ix_cp (ix_up (ix_up (ix_up σ 25 0 (nI i)) 12 8 (nI z)) 12 7 (nI i)) 108 13 0 0 400) 109 14 0 0 16) 110 15 0 0 16) 111 16 0 0 16) 112 17 0 0 16 14 j = σ 109 j := fun j hj => by rw [iv_cpn2 (by omega), iv_cpn2 (by omega), iv_cpn2 (by omega), iv_cp_at, if_pos hj, iv_cpn2 (by omega), iv_upn (by omega), iv_upn (by omega), iv_upn (by omega)]
        have c15 : ∀ j, j < 16 → ix_cp (ix_cp (ix_cp (ix_cp (ix_cp (ix_up (ix_up (ix_up σ 25 0 (nI i)) 12 8 (nI z)) 12 7 (nI i)) 108 13 0 0 400) 109 14 0 0 16) 110 15 0 0 16) 111 16 0 0 16) 112 17 0 0 16 15 j = σ 110 j := fun j hj => by rw [iv_cpn2 (by omega), iv_cpn2 (by omega), iv_cp_at, if_pos hj, iv_cpn2 (by omega), iv_cpn2 (by omega), iv_upn (by omega), iv_upn (by omega), iv_upn (by omega)]
        have c16 : ∀ j, j < 16 → ix_cp (ix_cp (ix_cp (ix_cp (ix_cp (ix_up (ix_up (ix_up σ 25 0 (nI i)) 12 8 (nI z)) 12 7 (nI i)) 108 13 0 0 400) 109 14 0 0 16) 110 15 0 0 16) 111 16 0 0 16) 112 17 0 0 16 16 j = σ 111 j := fun j hj => by rw [iv_cpn2 (by omega), iv_cp_at, if_pos hj, iv_cpn2 (by omega), iv_cpn2 (by omega), iv_cpn2 (by omega), iv_upn (by omega), iv_upn (by omega), iv_upn (by omega)]
        have c17 : ∀ j, j < 16 → ix_cp (ix_cp (ix_cp (ix_cp (ix_cp (ix_up (ix_up (ix_up σ 25 0 (nI i)) 12 8 (nI z)) 12 7 (nI i)) 108 13 0 0 400) 109 14 0 0 16) 110 15 0 0 16) 111 16 0 0 16) 112 17 0 0 16 17 j = σ 112 j := fun j hj => by rw [iv_cp_at, if_pos hj, iv_cpn2 (by omega), iv_cpn2 (by omega), iv_cpn2 (by omega), iv_cpn2 (by omega), iv_upn (by omega), iv_upn (by omega), iv_upn (by omega)]
        rw [c14 l (by omega), c15 l (by omega), c16 l (by omega), c17 l (by omega), L 146 (by omega) (by omega) l hl, L 147 (by omega) (by omega) l hl, L 148 (by omega) (by omega) l hl, L 149 (by omega) (by omega) l hl]
        exact ⟨q1, q2, A, B, C', hAB, hBC, hCz, q3, q4, q5, q6, q7, q8, ⟨x, hx, tx_run_cg _ _ _ _ (fun j j1 j2 => ⟨C 150 (by omega) j (by omega), C 151 (by omega) j (by omega)⟩) q9⟩, fun q => tx_run_cg _ _ _ _ (fun j j1 j2 => ⟨C 150 (by omega) j (by omega), C 151 (by omega) j (by omega)⟩) (q10 q)⟩
end Tk
