/-! couples of lands that two have otherwise -/
def iv_df (r s : Int32) (x y : Nat) : Nat := if iv_B (iv_ps r x < iv_ps r y) = iv_B (iv_ps s x < iv_ps s y) then 0 else 1
theorem iv_df_1 (r s : Int32) (x y : Nat) : iv_df r s x y ≤ 1 := by
  unfold iv_df
  split <;> omega
theorem iv_ps_ne {r : Int32} (hr : r ∈ ix_rnk) {x y : Nat} (hx : 1 ≤ x) (hx5 : x ≤ 5) (hy : 1 ≤ y) (hy5 : y ≤ 5) (h : x ≠ y) : iv_ps r x ≠ iv_ps r y := by
  intro e
  have h1 := (iv_ps_ok r hr x (by omega) hx).2.1
  have h2 := (iv_ps_ok r hr y (by omega) hy).2.1
  rw [e] at h1
  omega
theorem iv_df_sym {r s : Int32} (hr : r ∈ ix_rnk) (hs : s ∈ ix_rnk) {x y : Nat} (hx : 1 ≤ x) (hx5 : x ≤ 5) (hy : 1 ≤ y) (hy5 : y ≤ 5) (h : x ≠ y) : iv_df r s x y = iv_df r s y x := by
  have h1 := iv_ps_ne hr hx hx5 hy hy5 h
  have h2 := iv_ps_ne hs hx hx5 hy hy5 h
  unfold iv_df
  by_cases a : iv_ps r x < iv_ps r y
  · by_cases c : iv_ps s x < iv_ps s y
    · rw [iv_Bt a, iv_Bt c, iv_Bf (show ¬ iv_ps r y < iv_ps r x by omega), iv_Bf (show ¬ iv_ps s y < iv_ps s x by omega)]
      rfl
    · rw [iv_Bt a, iv_Bf c, iv_Bf (show ¬ iv_ps r y < iv_ps r x by omega), iv_Bt (show iv_ps s y < iv_ps s x by omega)]
      rfl
  · by_cases c : iv_ps s x < iv_ps s y
    · rw [iv_Bf a, iv_Bt c, iv_Bt (show iv_ps r y < iv_ps r x by omega), iv_Bf (show ¬ iv_ps s y < iv_ps s x by omega)]
      rfl
    · rw [iv_Bf a, iv_Bf c, iv_Bt (show iv_ps r y < iv_ps r x by omega), iv_Bt (show iv_ps s y < iv_ps s x by omega)]
      rfl
theorem f_ot_st (b : Bool) {r s : Int32} (hr : r ∈ ix_rnk) (hs : s ∈ ix_rnk) (w x y : Nat) (h1 : 1 ≤ x) (h2 : x < y) (h3 : y ≤ 5) (σ : ix_St) : ix_S 36 2 15 [some (.int r), some (.int s), some (.int (nI w)), some (.int (nI x)), some (.int (nI y))] [] (ix_S0 b, σ) = ix_S 36 2 15 [some (.int r), some (.int s), some (.int (nI (w + iv_df r s x y))), some (.int (nI x)), some (.int (nI (y + 1)))] [] (ix_S0 b, σ) := by
  rw [q_X_otherwise_15, if_neg (show ¬ (6 : Int32) ≤ nI y from nI_ge (b := 6) (by omega) (by omega)), f_ahead b hr h1 (by omega) (by omega) h3 (by omega)]
  simp only [Option.bind_some, iv_tI]
  rw [f_ahead b hs h1 (by omega) (by omega) h3 (by omega)]
  simp only [Option.bind_some, iv_tI]
  rw [nI_1, nI_1]
  unfold iv_df
  by_cases e : iv_B (iv_ps r x < iv_ps r y) = iv_B (iv_ps s x < iv_ps s y)
  · rw [if_pos e, if_pos e]; rfl
  · rw [if_neg e, if_neg e]
theorem f_ot_in (b : Bool) (r s : Int32) (w x : Nat) (h3 : x ≤ 5) (σ : ix_St) : ix_S 36 2 4 [some (.int r), some (.int s), some (.int (nI w)), some (.int (nI x)), none] [] (ix_S0 b, σ) = ix_S 36 2 15 [some (.int r), some (.int s), some (.int (nI w)), some (.int (nI x)), some (.int (nI (x + 1)))] [] (ix_S0 b, σ) := by
  rw [q_X_otherwise_4, if_neg (show ¬ (6 : Int32) ≤ nI x from nI_ge (b := 6) (by omega) (by omega)), nI_1]
theorem f_ot_out (b : Bool) (r s : Int32) (w x : Nat) (σ : ix_St) : ix_S 36 2 15 [some (.int r), some (.int s), some (.int (nI w)), some (.int (nI x)), some (.int (nI 6))] [] (ix_S0 b, σ) = ix_S 36 2 4 [some (.int r), some (.int s), some (.int (nI w)), some (.int (nI (x + 1))), none] [] (ix_S0 b, σ) := by
  rw [q_X_otherwise_15, if_pos (show (6 : Int32) ≤ nI 6 by decide), nI_1]
theorem f_ot_end (b : Bool) (r s : Int32) (w : Nat) (σ : ix_St) : ix_S 36 2 4 [some (.int r), some (.int s), some (.int (nI w)), some (.int (nI 6)), none] [] (ix_S0 b, σ) = some (.int (nI w), (ix_S0 b, σ)) := by
  rw [q_X_otherwise_4, if_pos (show (6 : Int32) ≤ nI 6 by decide)]
def iv_ot (r s : Int32) : Nat := iv_df r s 1 2 + iv_df r s 1 3 + iv_df r s 1 4 + iv_df r s 1 5 + iv_df r s 2 3 + iv_df r s 2 4 + iv_df r s 2 5 + iv_df r s 3 4 + iv_df r s 3 5 + iv_df r s 4 5
theorem iv_ot_10 (r s : Int32) : iv_ot r s ≤ 10 := by
  unfold iv_ot
  have := iv_df_1 r s 1 2
  have := iv_df_1 r s 1 3
  have := iv_df_1 r s 1 4
  have := iv_df_1 r s 1 5
  have := iv_df_1 r s 2 3
  have := iv_df_1 r s 2 4
  have := iv_df_1 r s 2 5
  have := iv_df_1 r s 3 4
  have := iv_df_1 r s 3 5
  have := iv_df_1 r s 4 5
  omega
theorem f_otX (b : Bool) {r s : Int32} (hr : r ∈ ix_rnk) (hs : s ∈ ix_rnk) (σ : ix_St) : ix_F 36 [.int r, .int s] (ix_S0 b, σ) = some (.int (nI (iv_ot r s)), (ix_S0 b, σ)) := by
  have e1 := f_ot_in b r s 0 1 (by omega) σ
  rw [f_ot_st b hr hs _ 1 2 (by omega) (by omega) (by omega), f_ot_st b hr hs _ 1 3 (by omega) (by omega) (by omega), f_ot_st b hr hs _ 1 4 (by omega) (by omega) (by omega), f_ot_st b hr hs _ 1 5 (by omega) (by omega) (by omega), f_ot_out, f_ot_in b r s _ 2 (by omega),
    f_ot_st b hr hs _ 2 3 (by omega) (by omega) (by omega), f_ot_st b hr hs _ 2 4 (by omega) (by omega) (by omega), f_ot_st b hr hs _ 2 5 (by omega) (by omega) (by omega), f_ot_out, f_ot_in b r s _ 3 (by omega),
    f_ot_st b hr hs _ 3 4 (by omega) (by omega) (by omega), f_ot_st b hr hs _ 3 5 (by omega) (by omega) (by omega), f_ot_out, f_ot_in b r s _ 4 (by omega),
    f_ot_st b hr hs _ 4 5 (by omega) (by omega) (by omega), f_ot_out, f_ot_in b r s _ 5 (by omega), f_ot_out, f_ot_end, Nat.zero_add] at e1
  rw [q_X_otherwise_0]
  exact e1
theorem f_om_st (c : Bool) {r s : Int32} (hr : r ∈ ix_rnk) (hs : s ∈ ix_rnk) (w x y : Nat) (h1 : 1 ≤ y) (h2 : y < x) (h3 : x ≤ 5) (τ : ix_St) : ix_S 220 4 15 [some (.ref 135), some (.int r), some (.int s), some (.int (nI w)), some (.int (nI x)), some (.int (nI y))] [] (ix_S0 c, τ) = ix_S 220 4 15 [some (.ref 135), some (.int r), some (.int s), some (.int (nI (w + iv_df r s x y))), some (.int (nI x)), some (.int (nI (y + 1)))] [] (ix_S0 c, τ) := by
  rw [q_M_otherwise_15, if_neg (nI_ge (by omega) (by omega)), f_isAheadM c hr (by omega) h3 h1 (by omega)]
  simp only [Option.bind_some, iv_tI]
  rw [f_isAheadM c hs (by omega) h3 h1 (by omega)]
  simp only [Option.bind_some, iv_tI]
  rw [nI_1, nI_1]
  unfold iv_df
  by_cases e : iv_B (iv_ps r x < iv_ps r y) = iv_B (iv_ps s x < iv_ps s y)
  · rw [if_pos e, if_pos e]; rfl
  · rw [if_neg e, if_neg e]
theorem f_om_in (c : Bool) (r s : Int32) (w x : Nat) (h3 : x ≤ 5) (τ : ix_St) : ix_S 220 4 5 [some (.ref 135), some (.int r), some (.int s), some (.int (nI w)), some (.int (nI x)), none] [] (ix_S0 c, τ) = ix_S 220 4 15 [some (.ref 135), some (.int r), some (.int s), some (.int (nI w)), some (.int (nI x)), some (.int (nI 1))] [] (ix_S0 c, τ) := by
  rw [q_M_otherwise_5, if_neg (show ¬ (6 : Int32) ≤ nI x from nI_ge (b := 6) (by omega) (by omega))]
  rfl
theorem f_om_out (c : Bool) (r s : Int32) (w x : Nat) (h : x < 2 ^ 31) (τ : ix_St) : ix_S 220 4 15 [some (.ref 135), some (.int r), some (.int s), some (.int (nI w)), some (.int (nI x)), some (.int (nI x))] [] (ix_S0 c, τ) = ix_S 220 4 5 [some (.ref 135), some (.int r), some (.int s), some (.int (nI w)), some (.int (nI (x + 1))), none] [] (ix_S0 c, τ) := by
  rw [q_M_otherwise_15, if_pos (nI_le (Nat.le_refl _) h), nI_1]
theorem f_om_end (c : Bool) (r s : Int32) (w : Nat) (τ : ix_St) : ix_S 220 4 5 [some (.ref 135), some (.int r), some (.int s), some (.int (nI w)), some (.int (nI 6)), none] [] (ix_S0 c, τ) = some (.int (nI w), (ix_S0 c, τ)) := by
  rw [q_M_otherwise_5, if_pos (show (6 : Int32) ≤ nI 6 by decide)]
theorem f_otM (c : Bool) {r s : Int32} (hr : r ∈ ix_rnk) (hs : s ∈ ix_rnk) (τ : ix_St) : ix_F 220 [.ref 135, .int r, .int s] (ix_S0 c, τ) = some (.int (nI (iv_ot r s)), (ix_S0 c, τ)) := by
  have e1 := f_om_in c r s 0 1 (by omega) τ
  rw [f_om_out c r s _ 1 (by omega), f_om_in c r s _ 2 (by omega),
    f_om_st c hr hs _ 2 1 (by omega) (by omega) (by omega), f_om_out c r s _ 2 (by omega), f_om_in c r s _ 3 (by omega),
    f_om_st c hr hs _ 3 1 (by omega) (by omega) (by omega), f_om_st c hr hs _ 3 2 (by omega) (by omega) (by omega), f_om_out c r s _ 3 (by omega), f_om_in c r s _ 4 (by omega),
    f_om_st c hr hs _ 4 1 (by omega) (by omega) (by omega), f_om_st c hr hs _ 4 2 (by omega) (by omega) (by omega), f_om_st c hr hs _ 4 3 (by omega) (by omega) (by omega), f_om_out c r s _ 4 (by omega), f_om_in c r s _ 5 (by omega),
    f_om_st c hr hs _ 5 1 (by omega) (by omega) (by omega), f_om_st c hr hs _ 5 2 (by omega) (by omega) (by omega), f_om_st c hr hs _ 5 3 (by omega) (by omega) (by omega), f_om_st c hr hs _ 5 4 (by omega) (by omega) (by omega), f_om_out c r s _ 5 (by omega), f_om_end, Nat.zero_add] at e1
  rw [q_M_otherwise_0]
  refine e1.trans ?_
  unfold iv_ot
  rw [iv_df_sym hr hs (x := 2) (y := 1) (by omega) (by omega) (by omega) (by omega) (by omega), iv_df_sym hr hs (x := 3) (y := 1) (by omega) (by omega) (by omega) (by omega) (by omega), iv_df_sym hr hs (x := 3) (y := 2) (by omega) (by omega) (by omega) (by omega) (by omega), iv_df_sym hr hs (x := 4) (y := 1) (by omega) (by omega) (by omega) (by omega) (by omega), iv_df_sym hr hs (x := 4) (y := 2) (by omega) (by omega) (by omega) (by omega) (by omega), iv_df_sym hr hs (x := 4) (y := 3) (by omega) (by omega) (by omega) (by omega) (by omega), iv_df_sym hr hs (x := 5) (y := 1) (by omega) (by omega) (by omega) (by omega) (by omega), iv_df_sym hr hs (x := 5) (y := 2) (by omega) (by omega) (by omega) (by omega) (by omega), iv_df_sym hr hs (x := 5) (y := 3) (by omega) (by omega) (by omega) (by omega) (by omega), iv_df_sym hr hs (x := 5) (y := 4) (by omega) (by omega) (by omega) (by omega) (by omega)]
  have e2 : iv_df r s 1 2 + iv_df r s 1 3 + iv_df r s 2 3 + iv_df r s 1 4 + iv_df r s 2 4 + iv_df r s 3 4 + iv_df r s 1 5 + iv_df r s 2 5 + iv_df r s 3 5 + iv_df r s 4 5 = iv_df r s 1 2 + iv_df r s 1 3 + iv_df r s 1 4 + iv_df r s 1 5 + iv_df r s 2 3 + iv_df r s 2 4 + iv_df r s 2 5 + iv_df r s 3 4 + iv_df r s 3 5 + iv_df r s 4 5 := by omega
  rw [e2]
/-- the least that is met yet, as class and reference hold it -/
def iv_la0 (r : Option Nat) (w : Nat) (u : Int32) : Int32 := match r with
  | some _ => nI w
  | none => u
theorem f_near (b c : Bool) {σ τ : ix_St} {n o p : Nat} (hV : iv_V σ τ n o) (hp : p < n) : ∀ d j (r : Option Nat) (w : Nat), j + d = n → (∀ y, r = some y → y < n) → w ≤ 10 → ∃ r' : Option Nat, ix_S 125 3 7 [some (.ref 2), some (.int (nI p)), some (.int (iv_oi r)), some (.int (iv_la0 r w 0)), some (.int (nI j)), none] [] (ix_S0 b, σ) = some (.int (iv_oi r'), (ix_S0 b, σ)) ∧ ix_S 178 5 66 [some (.ref 135), some (.int (nI p)), none, some (.int (iv_oi r)), some (.int (iv_la0 r w 100000000)), some (.int (nI j)), none] [] (ix_S0 c, τ) = some (.int (iv_oi r'), (ix_S0 c, τ)) := by
  obtain ⟨hn, h6, h7, m7, ho, hov, hr⟩ := id hV
  intro d
  induction d with
  | zero =>
    intro j r w hj hy hw
    have : j = n := by omega
    subst this
    refine ⟨r, ?_, ?_⟩
    · rw [q_River_nearestTo_7, h6, if_pos (nI_le (Nat.le_refl _) (by omega))]
    · rw [q_M_alike_66, m7, if_pos (nI_le (Nat.le_refl _) (by omega))]
  | succ d ih =>
    intro j r w hj hy hw
    have k0 : ¬ nI n ≤ nI j := nI_ge (by omega) (by omega)
    have k1 : ¬ (nI j < 0 ∨ 12 ≤ j) := iv_ni (by omega) (by omega)
    have k2 : ¬ (nI p < 0 ∨ 12 ≤ p) := iv_ni (by omega) (by omega)
    have k3 : (nI j).toNatClampNeg = j := nI_clamp (by omega)
    have k4 : (nI p).toNatClampNeg = p := nI_clamp (by omega)
    have a18 : (18 : Int32) + nI j = nI (18 + j) := nI_add 18 j
    have b18 : ¬ (nI (18 + j) < 0 ∨ 54 ≤ 18 + j) := iv_ni (by omega) (by omega)
    have c18 : (nI (18 + j)).toNatClampNeg = 18 + j := nI_clamp (by omega)
    have a6 : (6 : Int32) + nI j = nI (6 + j) := nI_add 6 j
    have b6 : ¬ (nI (6 + j) < 0 ∨ 54 ≤ 6 + j) := iv_ni (by omega) (by omega)
    have c6 : (nI (6 + j)).toNatClampNeg = 6 + j := nI_clamp (by omega)
    have d6 : (6 : Int32) + nI p = nI (6 + p) := nI_add 6 p
    have e6 : ¬ (nI (6 + p) < 0 ∨ 54 ≤ 6 + p) := iv_ni (by omega) (by omega)
    have g6 : (nI (6 + p)).toNatClampNeg = 6 + p := nI_clamp (by omega)
    have hs := ih (j + 1) r w (by omega) hy hw
    by_cases hjp : j = p
    · obtain ⟨r', g1, g2⟩ := hs
      have e : nI j = nI p := by rw [hjp]
      refine ⟨r', ?_, ?_⟩
      · rw [q_River_nearestTo_7, h6, if_neg k0, if_pos e, nI_1]; exact g1
      · rw [q_M_alike_66, m7, if_neg k0, if_pos e, nI_1]; exact g2
    · have e : ¬ nI j = nI p := fun h => hjp ((nI_eq (by omega) (by omega)).mp h)
      by_cases hb : o.testBit j = true
      · obtain ⟨r', g1, g2⟩ := hs
        refine ⟨r', ?_, ?_⟩
        · rw [q_River_nearestTo_7, h6, if_neg k0, if_neg e, f_ovX b hV (by omega), iv_Bt hb, nI_1]
          simp only [Option.bind_some, iv_tI, iv_10, if_false]
          exact g1
        · rw [q_M_alike_66]
          simp only [m7, k0, e, a18, b18, c18, hov j (by omega), iv_Bt hb, nI_1, if_true, if_false]
          exact g2
      · have hot := iv_ot_10 (σ 3 p) (σ 3 j)
        have x1 : ix_F 36 [.int (σ 3 p), .int (σ 3 j)] (ix_S0 b, σ) = some (.int (nI (iv_ot (σ 3 p) (σ 3 j))), (ix_S0 b, σ)) := f_otX b (hr p hp).2 (hr j (by omega)).2 σ
        have x2 : ix_F 220 [.ref 135, .int (τ 136 (6 + p)), .int (τ 136 (6 + j))] (ix_S0 c, τ) = some (.int (nI (iv_ot (σ 3 p) (σ 3 j))), (ix_S0 c, τ)) := by
          rw [← (hr p hp).1, ← (hr j (by omega)).1]; exact f_otM c (hr p hp).2 (hr j (by omega)).2 τ
        have z1 : ¬ iv_B (o.testBit j = true) = 1 := fun h => hb (iv_B1.mp h)
        have z0 : iv_B (o.testBit j = true) = 0 := iv_Bf hb
        obtain ⟨r1, s1, s2⟩ := ih (j + 1) (some j) (iv_ot (σ 3 p) (σ 3 j)) (by omega) (fun y h => by cases h; omega) hot
        have s1 : ix_S 125 3 7 [some (.ref 2), some (.int (nI p)), some (.int (nI j)), some (.int (nI (iv_ot (σ 3 p) (σ 3 j)))), some (.int (nI (j + 1))), none] [] (ix_S0 b, σ) = some (.int (iv_oi r1), (ix_S0 b, σ)) := s1
        have s2 : ix_S 178 5 66 [some (.ref 135), some (.int (nI p)), none, some (.int (nI j)), some (.int (nI (iv_ot (σ 3 p) (σ 3 j)))), some (.int (nI (j + 1))), none] [] (ix_S0 c, τ) = some (.int (iv_oi r1), (ix_S0 c, τ)) := s2
        cases r with
        | none =>
          refine ⟨r1, ?_, ?_⟩
          · rw [q_River_nearestTo_7]
            simp only [h6, k0, e, f_ovX b hV (show j < n by omega), z0, k1, k2, k3, k4, x1, nI_1, iv_oi, if_true, if_false, Option.bind_some, iv_tI]
            exact s1
          · have y1 : ¬ (100000000 : Int32) ≤ nI (iv_ot (σ 3 p) (σ 3 j)) := nI_ge (b := 100000000) (by omega) (by omega)
            have y2 : nI (iv_ot (σ 3 p) (σ 3 j)) ≤ (100000000 : Int32) := nI_le (b := 100000000) (by omega) (by omega)
            rw [q_M_alike_66]
            simp only [m7, k0, e, a18, b18, c18, hov j (by omega), z1, a6, b6, c6, d6, e6, g6, x2, iv_la0, y1, y2, q_M_lesser_0, nI_1, iv_oi, if_true, if_false, Option.bind_some, iv_tI]
            exact s2
        | some y =>
          have hy1 := hy y rfl
          have y0 : ¬ nI y = -1 := iv_m1 (by omega)
          by_cases hl : w ≤ iv_ot (σ 3 p) (σ 3 j)
          · obtain ⟨r', g1, g2⟩ := hs
            have l1 : nI w ≤ nI (iv_ot (σ 3 p) (σ 3 j)) := nI_le hl (by omega)
            refine ⟨r', ?_, ?_⟩
            · rw [q_River_nearestTo_7]
              simp only [h6, k0, e, f_ovX b hV (show j < n by omega), z0, k1, k2, k3, k4, x1, nI_1, iv_oi, iv_la0, y0, l1, if_true, if_false, Option.bind_some, iv_tI]
              exact g1
            · rw [q_M_alike_66]
              simp only [m7, k0, e, a18, b18, c18, hov j (by omega), z1, a6, b6, c6, d6, e6, g6, x2, iv_la0, l1, q_M_lesser_0, nI_1, iv_oi, if_true, if_false, Option.bind_some, iv_tI]
              by_cases l2 : nI (iv_ot (σ 3 p) (σ 3 j)) ≤ nI w
              · have : iv_ot (σ 3 p) (σ 3 j) = w := by rw [nI_leI (by omega) (by omega)] at l2; omega
                rw [if_pos l2]
                simp only [Option.bind_some, iv_tI]
                rw [this]
                exact g2
              · rw [if_neg l2]
                simp only [Option.bind_some, iv_tI]
                exact g2
          · have l1 : ¬ nI w ≤ nI (iv_ot (σ 3 p) (σ 3 j)) := nI_ge (by omega) (by omega)
            have l2 : nI (iv_ot (σ 3 p) (σ 3 j)) ≤ nI w := nI_le (by omega) (by omega)
            refine ⟨r1, ?_, ?_⟩
            · rw [q_River_nearestTo_7]
              simp only [h6, k0, e, f_ovX b hV (show j < n by omega), z0, k1, k2, k3, k4, x1, nI_1, iv_oi, iv_la0, y0, l1, if_true, if_false, Option.bind_some, iv_tI]
              exact s1
            · rw [q_M_alike_66]
              simp only [m7, k0, e, a18, b18, c18, hov j (by omega), z1, a6, b6, c6, d6, e6, g6, x2, iv_la0, l1, l2, q_M_lesser_0, nI_1, iv_oi, if_true, if_false, Option.bind_some, iv_tI]
              exact s2
theorem s_alike (E : ix_St) (v w : Int32) : iv_S E 23 178 [.int v, .int w] := by
  intro k b c σ τ hk hE hR
  have hK := iv_R_keep iv_kX.rf (iv_kM_told τ 0) hR
  obtain ⟨n, o, hn, hw, -⟩ := iv_R_told (v := 0) hR
  have hV := iv_V_of hn hw
  obtain ⟨-, h6, h7, m7, ho, hov, hr⟩ := id hV
  rw [q_X_alike_0, q_M_alike_0, f_has b σ hn h6, f_isOne c _ hn m7]
  simp only [Option.bind_some, iv_tI]
  by_cases h1 : 0 ≤ v ∧ v < nI n
  · obtain ⟨p, hp, rfl⟩ := (iv_rng' (by omega)).mp h1
    rw [if_neg (fun h => iv_B0.mp h h1), if_neg (fun h => iv_B0.mp h h1)]
    by_cases h2 : w = -1
    · rw [if_pos h2, if_pos h2, if_pos h2, q_River_nearestTo_0]
      obtain ⟨r', g1, g2⟩ := f_near b c hV hp n 0 none 0 (by omega) (fun y h => by cases h) (by omega)
      have g1' : ix_S 125 3 7 [some (.ref 2), some (.int (nI p)), some (.int (-1)), some (.int 0), some (.int 0), none] [] (ix_S0 b, σ) = _ := g1
      have g2' : ix_S 178 5 66 [some (.ref 135), some (.int (nI p)), none, some (.int (-1)), some (.int 100000000), some (.int 0), none] [] (ix_S0 c, ix_up τ 135 0 0) = _ := g2
      rw [g1', g2']
      exact ⟨_, b, _, _, rfl, rfl, hK⟩
    · rw [if_neg h2, if_neg h2, f_has b σ hn h6, f_isOne c _ hn m7]
      simp only [Option.bind_some, iv_tI]
      by_cases h3 : 0 ≤ w ∧ w < nI n
      · obtain ⟨q, hq, rfl⟩ := (iv_rng' (by omega)).mp h3
        rw [if_neg (fun h => iv_B0.mp h h3), if_neg (fun h => iv_B0.mp h h3), if_neg h2]
        have x1 : ix_F 36 [.int (σ 3 p), .int (σ 3 q)] (ix_S0 b, σ) = some (.int (nI (iv_ot (σ 3 p) (σ 3 q))), (ix_S0 b, σ)) := f_otX b (hr p hp).2 (hr q hq).2 σ
        have x2 : ix_F 220 [.ref 135, .int ((ix_up τ 135 0 0) 136 (6 + p)), .int ((ix_up τ 135 0 0) 136 (6 + q))] (ix_S0 c, ix_up τ 135 0 0) = some (.int (nI (iv_ot (σ 3 p) (σ 3 q))), (ix_S0 c, ix_up τ 135 0 0)) := by
          rw [← (hr p hp).1, ← (hr q hq).1]; exact f_otM c (hr p hp).2 (hr q hq).2 _
        have d6 : (6 : Int32) + nI p = nI (6 + p) := nI_add 6 p
        have a6 : (6 : Int32) + nI q = nI (6 + q) := nI_add 6 q
        rw [if_neg (nI_in (by omega) (by omega)), if_neg (nI_in (by omega) (by omega)), nI_clamp (by omega), nI_clamp (by omega), x1, d6, a6, if_neg (nI_in (by omega) (by omega)), if_neg (nI_in (by omega) (by omega)), nI_clamp (by omega), nI_clamp (by omega), x2]
        exact ⟨_, b, _, _, rfl, rfl, hK⟩
      · rw [if_pos (iv_B0.mpr h3), if_pos (iv_B0.mpr h3)]
        exact ⟨_, b, _, _, rfl, rfl, hK⟩
  · rw [if_pos (iv_B0.mpr h1), if_pos (iv_B0.mpr h1)]
    exact ⟨_, b, _, _, rfl, rfl, hK⟩
