/-! passenger, set, feed, season -/
theorem iv_ni {x N : Nat} (h : x < N) (hN : N < 2 ^ 31) : ¬ (nI x < 0 ∨ N ≤ x) := by
  rintro (h1 | h1)
  · exact nI_pos (by omega) h1
  · omega
theorem iv_10 : ((1 : Int32) = 0) = False := eq_false (by decide)
theorem iv_rivp {f ra ch ta fi wa tu now : Nat → Int32} {st : Int32} {mc mt mf : Nat → Int32} {M n o : Nat} (hn : n < 12) (r x t g : Int32) (hr : r ∈ ix_rnk) (h : iv_riv f ra ch ta fi wa tu now st mc mt mf M n o) : iv_riv (upd f 6 (nI (n + 1))) (upd ra n r) (upd ch n x) (upd ta n t) (upd fi n g) (upd wa n 0) (upd tu n 0) (upd (upd (upd (upd now (6 + n) r) (18 + n) 0) (30 + n) 0) (42 + n) 0) st (upd mc n x) (upd mt n t) (upd mf n g) M (n + 1) o := by
  obtain ⟨⟨a0, a1, a2, a3, a4, a5, a6, a7⟩, h2, ⟨h3, h4⟩, h5, h6⟩ := h
  have u : ∀ z, z ≠ 6 + n → z ≠ 18 + n → z ≠ 30 + n → z ≠ 42 + n → (upd (upd (upd (upd now (6 + n) r) (18 + n) 0) (30 + n) 0) (42 + n) 0) z = now z := fun z z1 z2 z3 z4 => by rw [pk_un z4, pk_un z3, pk_un z2, pk_un z1]
  refine ⟨⟨?_, ?_, ?_, a3, ?_, ?_, rfl, a7⟩, h2, ⟨?_, fun i hi => ?_⟩, fun i hi => ?_, fun i hi => ?_⟩
  · rw [u 1 (by omega) (by omega) (by omega) (by omega)]; exact a0
  · rw [u 3 (by omega) (by omega) (by omega) (by omega)]; exact a1
  · rw [u 4 (by omega) (by omega) (by omega) (by omega)]; exact a2
  · rw [u 0 (by omega) (by omega) (by omega) (by omega)]; exact a4
  · rw [u 5 (by omega) (by omega) (by omega) (by omega)]; exact a5
  · exact Nat.lt_of_lt_of_le h3 (Nat.pow_le_pow_right (by omega) (by omega))
  · by_cases hin : i = n
    · subst hin
      rw [pk_un (by omega), pk_un (by omega), pk_us, iv_Bf]
      rw [Nat.testBit_lt_two_pow h3]
      decide
    · rw [u _ (by omega) (by omega) (by omega) (by omega)]
      exact h4 i hi
  · by_cases hin : i = n
    · subst hin
      refine ⟨?_, ?_, ?_, ?_, ?_, ?_⟩
      · rw [pk_us, pk_un (by omega), pk_un (by omega), pk_un (by omega), pk_us]
      · rw [pk_us, pk_us]
      · rw [pk_us, pk_us]
      · rw [pk_us, pk_us]
      · rw [pk_us, pk_un (by omega), pk_us]
      · rw [pk_us, pk_us]
    · rw [u _ (by omega) (by omega) (by omega) (by omega), u _ (by omega) (by omega) (by omega) (by omega), u _ (by omega) (by omega) (by omega) (by omega), pk_un hin, pk_un hin, pk_un hin, pk_un hin, pk_un hin, pk_un hin, pk_un hin, pk_un hin, pk_un hin]
      exact h5 i hi
  · by_cases hin : i = n
    · subst hin; rw [pk_us]; exact hr
    · rw [pk_un hin]; exact h6 i (by omega)
theorem s_passenger (E : ix_St) (v1 v2 v3 v4 : Int32) (hv : v2 = 0 ∨ v2 = 1) : iv_S E 3 158 [.int v1, .int v2, .int v3, .int v4] := by
  intro k b c σ τ hk hE hR
  have hK := iv_R_keep iv_kX.rf (iv_kM_told τ 0) hR
  obtain ⟨n, o, hn, ⟨hriv, hbk, hln, hear, hw⟩, hpast, htape, hoth, himg⟩ := iv_R_up (Nat.le_succ k) hR
  have a6 : σ 2 6 = nI n := hriv.1.2.2.2.2.2.2.1
  have b1 : (ix_up τ 135 0 0) 135 7 = nI n := hbk.1.1
  rw [q_X_passenger_0, q_M_passenger_0, f_isRankX, f_isRankM]
  simp only [Option.bind_some, iv_tI]
  by_cases h1 : v1 ∈ ix_rnk
  · rw [if_neg (fun h => iv_B0.mp h h1), if_neg (fun h => iv_B0.mp h h1), f_isDigit, f_isIn]
    simp only [Option.bind_some, iv_tI]
    by_cases h2 : 0 ≤ v3 ∧ v3 ≤ 9
    · rw [if_neg (fun h => iv_B0.mp h h2), if_neg (fun h => iv_B0.mp h h2), f_isDigit, f_isIn]
      simp only [Option.bind_some, iv_tI]
      by_cases h3 : 0 ≤ v4 ∧ v4 ≤ 9
      · rw [if_neg (fun h => iv_B0.mp h h3), if_neg (fun h => iv_B0.mp h h3), b1, a6]
        by_cases h4 : n < 12
        · rw [if_pos (show nI n < 12 from nI_lt (b := 12) h4 (by omega)), if_neg (show ¬ nI n = 12 from fun h => by rw [show (12 : Int32) = nI 12 from rfl, nI_eq (by omega) (by omega)] at h; omega)]
          rw [show (6 : Int32) + nI n = nI (6 + n) from nI_add 6 n, show (18 : Int32) + nI n = nI (18 + n) from nI_add 18 n, show (30 : Int32) + nI n = nI (30 + n) from nI_add 30 n, show (42 : Int32) + nI n = nI (42 + n) from nI_add 42 n, nI_clamp (by omega), nI_clamp (by omega), nI_clamp (by omega), nI_clamp (by omega), nI_clamp (by omega)]
          have i1 : ∀ x N, x < N → N < 100 → ¬ (nI x < 0 ∨ N ≤ x) := fun x N h1 h2 => by
            rintro (h | h)
            · exact nI_pos (by omega) h
            · omega
          rw [if_neg (i1 _ _ (by omega) (by omega)), if_neg (i1 _ _ (by omega) (by omega)), if_neg (i1 _ _ (by omega) (by omega)), if_neg (i1 _ _ (by omega) (by omega)), q_Past_forget_0]
          simp only [Option.bind_some, iv_tI]
          obtain ⟨⟨hb1, t, ht, hb2, hb3⟩, hb4⟩ := hbk
          have hb3' : (upd (upd (upd (upd (τ 136) (6 + n) v1) (18 + n) 0) (30 + n) 0) (42 + n) 0) 2 = nI t := by rw [pk_un (by omega), pk_un (by omega), pk_un (by omega), pk_un (by omega)]; exact hb3
          rcases hv with rfl | rfl
          · rw [if_pos rfl, if_pos rfl, q_River_board_0, show (ix_up σ 55 3 0) 2 6 = nI n from a6, if_pos (show nI n < 12 from nI_lt (b := 12) h4 (by omega)), nI_clamp (by omega), nI_1]
            simp only [if_neg (i1 n 12 h4 (by omega)), Option.bind_some, iv_tI]
            refine ⟨_, b, _, _, rfl, rfl, n + 1, o, by omega, ⟨iv_rivp h4 v1 0 v3 v4 h1 hriv, ⟨⟨rfl, t, ht, hb2, hb3'⟩, hb4⟩, hln, fun i hi => ⟨(hear i hi).1, fun h => (hear i hi).2 (by omega)⟩, hw⟩, iv_past0 hpast rfl rfl rfl, htape, hoth, himg⟩
          · rw [if_neg (by decide), if_neg (by decide), q_River_board_0, show (ix_up σ 55 3 0) 2 6 = nI n from a6, if_pos (show nI n < 12 from nI_lt (b := 12) h4 (by omega)), nI_clamp (by omega), nI_1]
            simp only [if_neg (i1 n 12 h4 (by omega)), Option.bind_some, iv_tI]
            refine ⟨_, b, _, _, rfl, rfl, n + 1, o, by omega, ⟨iv_rivp h4 v1 1 v3 v4 h1 hriv, ⟨⟨rfl, t, ht, hb2, hb3'⟩, hb4⟩, hln, fun i hi => ⟨(hear i hi).1, fun h => (hear i hi).2 (by omega)⟩, hw⟩, iv_past0 hpast rfl rfl rfl, htape, hoth, himg⟩
        · have : n = 12 := by omega
          subst this
          rw [if_neg (by decide), if_pos (show nI 12 = 12 from rfl)]
          exact ⟨_, b, _, _, rfl, rfl, hK⟩
      · rw [if_pos (iv_B0.mpr h3), if_pos (iv_B0.mpr h3)]
        exact ⟨_, b, _, _, rfl, rfl, hK⟩
    · rw [if_pos (iv_B0.mpr h2), if_pos (iv_B0.mpr h2)]
      exact ⟨_, b, _, _, rfl, rfl, hK⟩
  · rw [if_pos (iv_B0.mpr h1), if_pos (iv_B0.mpr h1)]
    exact ⟨_, b, _, _, rfl, rfl, hK⟩
theorem f_has (b : Bool) (σ : ix_St) {n : Nat} (hn : n ≤ 12) (h : σ 2 6 = nI n) (v : Int32) : ix_F 120 [.ref 2, .int v] (ix_S0 b, σ) = some (.int (iv_B (0 ≤ v ∧ v < nI n)), (ix_S0 b, σ)) := by
  rw [q_River_has_0, h]
  by_cases h1 : v < 0
  · rw [if_pos h1, iv_Bf (fun h => absurd h.1 (iv_nle.mpr h1))]
  · rw [if_neg h1]
    by_cases h2 : nI n ≤ v
    · rw [if_pos h2, iv_Bf (fun h => absurd h.2 (iv_nlt.mpr h2))]
    · rw [if_neg h2, iv_Bt ⟨iv_nlt.mp h1, iv_nle.mp h2⟩]
theorem f_isOne (b : Bool) (σ : ix_St) {n : Nat} (hn : n ≤ 12) (h : σ 135 7 = nI n) (v : Int32) : ix_F 194 [.ref 135, .int v] (ix_S0 b, σ) = some (.int (iv_B (0 ≤ v ∧ v < nI n)), (ix_S0 b, σ)) := by
  rw [q_M_isOne_0, h]
  by_cases h1 : v < 0
  · rw [if_pos h1, iv_Bf (fun h => absurd h.1 (iv_nle.mpr h1))]
  · rw [if_neg h1]
    by_cases h2 : nI n ≤ v
    · rw [if_pos h2, iv_Bf (fun h => absurd h.2 (iv_nlt.mpr h2))]
    · rw [if_neg h2, iv_Bt ⟨iv_nlt.mp h1, iv_nle.mp h2⟩]
theorem iv_rng5 {v : Int32} {m : Nat} (hm : m < 2 ^ 31) (h : 0 ≤ v ∧ v ≤ nI m) : iv_in v m := (iv_rng hm).mp ⟨iv_nlt.mpr h.1, iv_nlt.mpr h.2⟩
theorem iv_riv_st {f ra ch ta fi wa tu now : Nat → Int32} {st : Int32} {mc mt mf : Nat → Int32} {M n o : Nat} (v : Int32) (hv : iv_in v 9) (h : iv_riv f ra ch ta fi wa tu now st mc mt mf M n o) : iv_riv (upd f 3 v) ra ch ta fi wa tu now v mc mt mf M n o := by
  obtain ⟨⟨a0, a1, a2, a3, a4, a5, a6, a7⟩, ⟨h1, h2, h3⟩, h4⟩ := h
  exact ⟨⟨a0, a1, a2, rfl, a4, a5, a6, a7⟩, ⟨h1, hv, h3⟩, h4⟩
theorem iv_riv_bk {f ra ch ta fi wa tu now : Nat → Int32} {st : Int32} {mc mt mf : Nat → Int32} {M n o : Nat} (v : Int32) (hv : iv_in v 5) (h : iv_riv f ra ch ta fi wa tu now st mc mt mf M n o) : iv_riv (upd f 1 v) ra ch ta fi wa tu (upd now 3 v) st mc mt mf M n o := by
  obtain ⟨⟨a0, a1, a2, a3, a4, a5, a6, a7⟩, ⟨h1, h2, h3⟩, ⟨h4, h5⟩, h6, h7⟩ := h
  refine ⟨⟨a0, rfl, a2, a3, a4, a5, a6, a7⟩, ⟨hv, h2, h3⟩, ⟨h4, fun i hi => ?_⟩, fun i hi => ?_, h7⟩
  · rw [pk_un (by omega)]; exact h5 i hi
  · rw [pk_un (by omega), pk_un (by omega), pk_un (by omega)]; exact h6 i hi
theorem iv_riv_ag {f ra ch ta fi wa tu now : Nat → Int32} {st : Int32} {mc mt mf : Nat → Int32} {M n o : Nat} (v : Int32) (h : iv_riv f ra ch ta fi wa tu now st mc mt mf M n o) : iv_riv (upd f 2 v) ra ch ta fi wa tu (upd now 4 v) st mc mt mf M n o := by
  obtain ⟨⟨a0, a1, a2, a3, a4, a5, a6, a7⟩, ⟨h1, h2, h3⟩, ⟨h4, h5⟩, h6, h7⟩ := h
  refine ⟨⟨a0, a1, rfl, a3, a4, a5, a6, a7⟩, ⟨h1, h2, h3⟩, ⟨h4, fun i hi => ?_⟩, fun i hi => ?_, h7⟩
  · rw [pk_un (by omega)]; exact h5 i hi
  · rw [pk_un (by omega), pk_un (by omega), pk_un (by omega)]; exact h6 i hi
theorem iv_riv_rk {f ra ch ta fi wa tu now : Nat → Int32} {st : Int32} {mc mt mf : Nat → Int32} {M n o : Nat} {w : Nat} (hw : w < 12) (v : Int32) (hv : v ∈ ix_rnk) (h : iv_riv f ra ch ta fi wa tu now st mc mt mf M n o) : iv_riv f (upd ra w v) ch ta fi wa tu (upd now (6 + w) v) st mc mt mf M n o := by
  obtain ⟨⟨a0, a1, a2, a3, a4, a5, a6, a7⟩, ⟨h1, h2, h3⟩, ⟨h4, h5⟩, h6, h7⟩ := h
  refine ⟨⟨?_, ?_, ?_, a3, ?_, ?_, a6, a7⟩, ⟨h1, h2, h3⟩, ⟨h4, fun i hi => ?_⟩, fun i hi => ?_, fun i hi => ?_⟩
  · rw [pk_un (by omega)]; exact a0
  · rw [pk_un (by omega)]; exact a1
  · rw [pk_un (by omega)]; exact a2
  · rw [pk_un (by omega)]; exact a4
  · rw [pk_un (by omega)]; exact a5
  · rw [pk_un (by omega)]; exact h5 i hi
  · rw [pk_un (f := now) (k := 6 + w) (j := 30 + i) (by omega), pk_un (f := now) (k := 6 + w) (j := 42 + i) (by omega)]
    refine ⟨?_, (h6 i hi).2⟩
    by_cases e : i = w
    · subst e; rw [pk_us, pk_us]
    · rw [pk_un e, pk_un (by omega)]; exact (h6 i hi).1
  · by_cases e : i = w
    · subst e; rw [pk_us]; exact hv
    · rw [pk_un e]; exact h7 i hi
theorem iv_riv_ta {f ra ch ta fi wa tu now : Nat → Int32} {st : Int32} {mc mt mf : Nat → Int32} {M n o : Nat} (w : Nat) (v : Int32) (h : iv_riv f ra ch ta fi wa tu now st mc mt mf M n o) : iv_riv f ra ch (upd ta w v) fi wa tu now st mc (upd mt w v) mf M n o := by
  obtain ⟨h1, h2, h3, h6, h7⟩ := h
  refine ⟨h1, h2, h3, fun i hi => ⟨(h6 i hi).1, (h6 i hi).2.1, ?_, (h6 i hi).2.2.2⟩, h7⟩
  by_cases e : i = w
  · subst e; rw [pk_us, pk_us]
  · rw [pk_un e, pk_un e]; exact (h6 i hi).2.2.1
theorem iv_riv_fi {f ra ch ta fi wa tu now : Nat → Int32} {st : Int32} {mc mt mf : Nat → Int32} {M n o : Nat} (w : Nat) (v : Int32) (h : iv_riv f ra ch ta fi wa tu now st mc mt mf M n o) : iv_riv f ra ch ta (upd fi w v) wa tu now st mc mt (upd mf w v) M n o := by
  obtain ⟨h1, h2, h3, h6, h7⟩ := h
  refine ⟨h1, h2, h3, fun i hi => ⟨(h6 i hi).1, (h6 i hi).2.1, (h6 i hi).2.2.1, ?_, (h6 i hi).2.2.2.2⟩, h7⟩
  by_cases e : i = w
  · subst e; rw [pk_us, pk_us]
  · rw [pk_un e, pk_un e]; exact (h6 i hi).2.2.2.1
theorem iv_45 {v : Int32} (h : 4 ≤ v ∧ v ≤ 5) : v = 4 ∨ v = 5 := by
  obtain ⟨j, hj, rfl⟩ := iv_rng5 (m := 5) (by omega) ⟨by
    have := h.1
    rw [iv_le] at this ⊢
    have e1 : (0 : Int32).toInt = 0 := by decide
    have e2 : (4 : Int32).toInt = 4 := by decide
    omega, h.2⟩
  have h1 := h.1
  rw [show (4 : Int32) = nI 4 from rfl, nI_leI (by omega) (by omega)] at h1
  have : j = 4 ∨ j = 5 := by omega
  rcases this with rfl | rfl
  · exact Or.inl rfl
  · exact Or.inr rfl
theorem s_set (E : ix_St) (v1 v2 v3 : Int32) : iv_S E 4 159 [.int v1, .int v2, .int v3] := by
  intro k b c σ τ hk hE hR
  have hK := iv_R_keep iv_kX.rf (iv_kM_told τ 0) hR
  obtain ⟨n, o, hn, ⟨hriv, hw⟩, hpast, htape, hoth, himg⟩ := iv_R_up (Nat.le_succ k) hR
  have a6 : σ 2 6 = nI n := hriv.1.2.2.2.2.2.2.1
  have b1 : (ix_up τ 135 0 0) 135 7 = nI n := hw.1.1.1
  rw [q_X_set_0, q_M_set_0, q_M_canSet_0]
  by_cases g0 : v1 = 0
  · subst g0
    simp (decide := true) only [q_River_tell_0, f_isDigit, f_isIn, Option.bind_some, iv_tI, if_true, if_false, true_or, or_true, true_and, and_true, false_or, or_false, not_true_eq_false, not_false_eq_true, iv_B0, iv_B01, q_Past_forget_0, q_M_set_26, q_M_set_38, q_M_set_50, q_M_set_65, q_M_set_77, q_M_set_89]
    by_cases h : 0 ≤ v3 ∧ v3 ≤ 9
    · have h0 : ¬ v3 < 0 := iv_nlt.mpr h.1
      have h1 : ¬ 9 < v3 := iv_nlt.mpr h.2
      simp (decide := true) only [h, h0, h1, Option.bind_some, iv_tI, if_true, if_false, true_or, or_true, true_and, and_true, false_or, or_false, not_true_eq_false, not_false_eq_true, iv_B0, iv_B01, q_Past_forget_0, q_M_set_26, q_M_set_38, q_M_set_50, q_M_set_65, q_M_set_77, q_M_set_89]
      exact ⟨_, b, _, _, rfl, rfl, n, o, hn, ⟨iv_riv_st v3 (iv_rng5 (m := 9) (by omega) h) hriv, hw⟩, iv_past0 hpast rfl rfl rfl, htape, hoth, himg⟩
    · simp (decide := true) only [h, Option.bind_some, iv_tI, if_true, if_false, true_or, or_true, true_and, and_true, false_or, or_false, not_true_eq_false, not_false_eq_true, iv_B0, iv_B01, q_Past_forget_0, q_M_set_26, q_M_set_38, q_M_set_50, q_M_set_65, q_M_set_77, q_M_set_89]
      exact ⟨_, b, _, _, rfl, rfl, hK⟩
  by_cases g1 : v1 = 1
  · subst g1
    simp (decide := true) only [q_River_tell_0, f_isDigit, f_isIn, Option.bind_some, iv_tI, if_true, if_false, true_or, or_true, true_and, and_true, false_or, or_false, not_true_eq_false, not_false_eq_true, iv_B0, iv_B01, q_Past_forget_0, q_M_set_26, q_M_set_38, q_M_set_50, q_M_set_65, q_M_set_77, q_M_set_89]
    by_cases h : 0 ≤ v3 ∧ v3 ≤ 5
    · have h0 : ¬ v3 < 0 := iv_nlt.mpr h.1
      have h1 : ¬ 6 ≤ v3 := iv_nle.mpr (iv_6.mpr h.2)
      simp (decide := true) only [h, h0, h1, Option.bind_some, iv_tI, if_true, if_false, true_or, or_true, true_and, and_true, false_or, or_false, not_true_eq_false, not_false_eq_true, iv_B0, iv_B01, q_Past_forget_0, q_M_set_26, q_M_set_38, q_M_set_50, q_M_set_65, q_M_set_77, q_M_set_89]
      exact ⟨_, b, _, _, rfl, rfl, n, o, hn, ⟨iv_riv_bk v3 (iv_rng5 (m := 5) (by omega) h) hriv, hw⟩, iv_past0 hpast rfl rfl rfl, htape, hoth, himg⟩
    · by_cases h0 : v3 < 0
      · simp (decide := true) only [h, h0, Option.bind_some, iv_tI, if_true, if_false, true_or, or_true, true_and, and_true, false_or, or_false, not_true_eq_false, not_false_eq_true, iv_B0, iv_B01, q_Past_forget_0, q_M_set_26, q_M_set_38, q_M_set_50, q_M_set_65, q_M_set_77, q_M_set_89]
        exact ⟨_, b, _, _, rfl, rfl, hK⟩
      · have h1 : 6 ≤ v3 := iv_nlt.mp (fun h2 => h ⟨iv_nlt.mp h0, iv_6.mp h2⟩)
        simp (decide := true) only [h, h0, h1, Option.bind_some, iv_tI, if_true, if_false, true_or, or_true, true_and, and_true, false_or, or_false, not_true_eq_false, not_false_eq_true, iv_B0, iv_B01, q_Past_forget_0, q_M_set_26, q_M_set_38, q_M_set_50, q_M_set_65, q_M_set_77, q_M_set_89]
        exact ⟨_, b, _, _, rfl, rfl, hK⟩
  by_cases g2 : v1 = 2
  · subst g2
    simp (decide := true) only [q_River_tell_0, f_isDigit, f_isIn, Option.bind_some, iv_tI, if_true, if_false, true_or, or_true, true_and, and_true, false_or, or_false, not_true_eq_false, not_false_eq_true, iv_B0, iv_B01, q_Past_forget_0, q_M_set_26, q_M_set_38, q_M_set_50, q_M_set_65, q_M_set_77, q_M_set_89]
    by_cases h : 0 ≤ v3 ∧ v3 ≤ 999
    · have h0 : ¬ v3 < 0 := iv_nlt.mpr h.1
      have h1 : ¬ 999 < v3 := iv_nlt.mpr h.2
      simp (decide := true) only [h, h0, h1, Option.bind_some, iv_tI, if_true, if_false, true_or, or_true, true_and, and_true, false_or, or_false, not_true_eq_false, not_false_eq_true, iv_B0, iv_B01, q_Past_forget_0, q_M_set_26, q_M_set_38, q_M_set_50, q_M_set_65, q_M_set_77, q_M_set_89]
      exact ⟨_, b, _, _, rfl, rfl, n, o, hn, ⟨iv_riv_ag v3 hriv, hw⟩, iv_past0 hpast rfl rfl rfl, htape, hoth, himg⟩
    · by_cases h0 : v3 < 0
      · simp (decide := true) only [h, h0, Option.bind_some, iv_tI, if_true, if_false, true_or, or_true, true_and, and_true, false_or, or_false, not_true_eq_false, not_false_eq_true, iv_B0, iv_B01, q_Past_forget_0, q_M_set_26, q_M_set_38, q_M_set_50, q_M_set_65, q_M_set_77, q_M_set_89]
        exact ⟨_, b, _, _, rfl, rfl, hK⟩
      · have h1 : 999 < v3 := iv_nle.mp (fun h2 => h ⟨iv_nlt.mp h0, h2⟩)
        simp (decide := true) only [h, h0, h1, Option.bind_some, iv_tI, if_true, if_false, true_or, or_true, true_and, and_true, false_or, or_false, not_true_eq_false, not_false_eq_true, iv_B0, iv_B01, q_Past_forget_0, q_M_set_26, q_M_set_38, q_M_set_50, q_M_set_65, q_M_set_77, q_M_set_89]
        exact ⟨_, b, _, _, rfl, rfl, hK⟩
  by_cases g3 : v1 = 3
  · subst g3
    simp (decide := true) only [q_River_tellOf_0, f_has b σ hn a6, f_isOne c _ hn b1, f_isDigit, f_isIn, f_isRankX, f_isRankM, Option.bind_some, iv_tI, if_true, if_false, true_or, or_true, true_and, and_true, false_or, or_false, not_true_eq_false, not_false_eq_true, iv_B0, iv_B01, q_Past_forget_0, q_M_set_26, q_M_set_38, q_M_set_50, q_M_set_65, q_M_set_77, q_M_set_89]
    by_cases h : 0 ≤ v2 ∧ v2 < nI n
    · obtain ⟨w, hwn, rfl⟩ := (iv_rng' (by omega)).mp h
      by_cases h2 : v3 ∈ ix_rnk
      · have i1 : ¬ (nI w < 0 ∨ 12 ≤ w) := iv_ni (by omega) (by omega)
        have i2 := nI_clamp (n := w) (by omega)
        have i3 : (6 : Int32) + nI w = nI (6 + w) := nI_add 6 w
        have i4 : ¬ (nI (6 + w) < 0 ∨ 54 ≤ 6 + w) := iv_ni (by omega) (by omega)
        have i5 := nI_clamp (n := 6 + w) (by omega)
        simp (decide := true) only [h, h2, i1, i2, i3, i4, i5, Option.bind_some, iv_tI, if_true, if_false, true_or, or_true, true_and, and_true, false_or, or_false, not_true_eq_false, not_false_eq_true, iv_B0, iv_B01, q_Past_forget_0, q_M_set_26, q_M_set_38, q_M_set_50, q_M_set_65, q_M_set_77, q_M_set_89]
        have hw2 : upd (τ 136) (6 + w) v3 2 = τ 136 2 := pk_un (by omega)
        obtain ⟨⟨⟨hb1, t, ht, hb2, hb3⟩, hb4⟩, hw'⟩ := hw
        exact ⟨_, b, _, _, rfl, rfl, n, o, hn, ⟨iv_riv_rk (by omega) v3 h2 hriv, ⟨⟨hb1, t, ht, hb2, hw2.trans hb3⟩, hb4⟩, hw'⟩, iv_past0 hpast rfl rfl rfl, htape, hoth, himg⟩
      · simp (decide := true) only [h, h2, Option.bind_some, iv_tI, if_true, if_false, true_or, or_true, true_and, and_true, false_or, or_false, not_true_eq_false, not_false_eq_true, iv_B0, iv_B01, q_Past_forget_0, q_M_set_26, q_M_set_38, q_M_set_50, q_M_set_65, q_M_set_77, q_M_set_89]
        exact ⟨_, b, _, _, rfl, rfl, hK⟩
    · simp (decide := true) only [h, Option.bind_some, iv_tI, if_true, if_false, true_or, or_true, true_and, and_true, false_or, or_false, not_true_eq_false, not_false_eq_true, iv_B0, iv_B01, q_Past_forget_0, q_M_set_26, q_M_set_38, q_M_set_50, q_M_set_65, q_M_set_77, q_M_set_89]
      exact ⟨_, b, _, _, rfl, rfl, hK⟩
  by_cases g4 : v1 = 4
  · subst g4
    simp (decide := true) only [q_River_tellOf_0, f_has b σ hn a6, f_isOne c _ hn b1, f_isDigit, f_isIn, f_isRankX, f_isRankM, Option.bind_some, iv_tI, if_true, if_false, true_or, or_true, true_and, and_true, false_or, or_false, not_true_eq_false, not_false_eq_true, iv_B0, iv_B01, q_Past_forget_0, q_M_set_26, q_M_set_38, q_M_set_50, q_M_set_65, q_M_set_77, q_M_set_89]
    by_cases h : 0 ≤ v2 ∧ v2 < nI n
    · obtain ⟨w, hwn, rfl⟩ := (iv_rng' (by omega)).mp h
      by_cases h2 : 0 ≤ v3 ∧ v3 ≤ 9
      · have i1 : ¬ (nI w < 0 ∨ 12 ≤ w) := iv_ni (by omega) (by omega)
        have i2 := nI_clamp (n := w) (by omega)
        simp (decide := true) only [h, h2, i1, i2, Option.bind_some, iv_tI, if_true, if_false, true_or, or_true, true_and, and_true, false_or, or_false, not_true_eq_false, not_false_eq_true, iv_B0, iv_B01, q_Past_forget_0, q_M_set_26, q_M_set_38, q_M_set_50, q_M_set_65, q_M_set_77, q_M_set_89]
        exact ⟨_, b, _, _, rfl, rfl, n, o, hn, ⟨iv_riv_ta w v3 hriv, hw⟩, iv_past0 hpast rfl rfl rfl, htape, hoth, himg⟩
      · simp (decide := true) only [h, h2, Option.bind_some, iv_tI, if_true, if_false, true_or, or_true, true_and, and_true, false_or, or_false, not_true_eq_false, not_false_eq_true, iv_B0, iv_B01, q_Past_forget_0, q_M_set_26, q_M_set_38, q_M_set_50, q_M_set_65, q_M_set_77, q_M_set_89]
        exact ⟨_, b, _, _, rfl, rfl, hK⟩
    · simp (decide := true) only [h, Option.bind_some, iv_tI, if_true, if_false, true_or, or_true, true_and, and_true, false_or, or_false, not_true_eq_false, not_false_eq_true, iv_B0, iv_B01, q_Past_forget_0, q_M_set_26, q_M_set_38, q_M_set_50, q_M_set_65, q_M_set_77, q_M_set_89]
      exact ⟨_, b, _, _, rfl, rfl, hK⟩
  by_cases g5 : v1 = 5
  · subst g5
    simp (decide := true) only [q_River_tellOf_0, f_has b σ hn a6, f_isOne c _ hn b1, f_isDigit, f_isIn, f_isRankX, f_isRankM, Option.bind_some, iv_tI, if_true, if_false, true_or, or_true, true_and, and_true, false_or, or_false, not_true_eq_false, not_false_eq_true, iv_B0, iv_B01, q_Past_forget_0, q_M_set_26, q_M_set_38, q_M_set_50, q_M_set_65, q_M_set_77, q_M_set_89]
    by_cases h : 0 ≤ v2 ∧ v2 < nI n
    · obtain ⟨w, hwn, rfl⟩ := (iv_rng' (by omega)).mp h
      by_cases h2 : 0 ≤ v3 ∧ v3 ≤ 9
      · have i1 : ¬ (nI w < 0 ∨ 12 ≤ w) := iv_ni (by omega) (by omega)
        have i2 := nI_clamp (n := w) (by omega)
        simp (decide := true) only [h, h2, i1, i2, Option.bind_some, iv_tI, if_true, if_false, true_or, or_true, true_and, and_true, false_or, or_false, not_true_eq_false, not_false_eq_true, iv_B0, iv_B01, q_Past_forget_0, q_M_set_26, q_M_set_38, q_M_set_50, q_M_set_65, q_M_set_77, q_M_set_89]
        exact ⟨_, b, _, _, rfl, rfl, n, o, hn, ⟨iv_riv_fi w v3 hriv, hw⟩, iv_past0 hpast rfl rfl rfl, htape, hoth, himg⟩
      · simp (decide := true) only [h, h2, Option.bind_some, iv_tI, if_true, if_false, true_or, or_true, true_and, and_true, false_or, or_false, not_true_eq_false, not_false_eq_true, iv_B0, iv_B01, q_Past_forget_0, q_M_set_26, q_M_set_38, q_M_set_50, q_M_set_65, q_M_set_77, q_M_set_89]
        exact ⟨_, b, _, _, rfl, rfl, hK⟩
    · simp (decide := true) only [h, Option.bind_some, iv_tI, if_true, if_false, true_or, or_true, true_and, and_true, false_or, or_false, not_true_eq_false, not_false_eq_true, iv_B0, iv_B01, q_Past_forget_0, q_M_set_26, q_M_set_38, q_M_set_50, q_M_set_65, q_M_set_77, q_M_set_89]
      exact ⟨_, b, _, _, rfl, rfl, hK⟩
  rw [if_neg g0, if_neg g1, if_neg g2, if_neg g3, f_isIn]
  simp only [Option.bind_some, iv_tI]
  rw [if_pos (iv_B0.mpr (fun h => (iv_45 h).elim g4 g5))]
  simp only [Option.bind_some, iv_tI, if_true, true_or, or_true, iv_10, if_false]
  by_cases h : 2 < v1
  · rw [if_pos h, q_River_tellOf_0, f_has b σ hn a6]
    simp only [Option.bind_some, iv_tI]
    by_cases h2 : 0 ≤ v2 ∧ v2 < nI n
    · rw [if_neg (fun h0 => iv_B0.mp h0 h2), if_neg g3, if_neg g4, if_neg g5]
      simp only [Option.bind_some, iv_tI, if_true, true_or, or_true, iv_10, if_false]
      exact ⟨_, b, _, _, rfl, rfl, hK⟩
    · rw [if_pos (iv_B0.mpr h2)]
      simp only [Option.bind_some, iv_tI, if_true, true_or, or_true, iv_10, if_false]
      exact ⟨_, b, _, _, rfl, rfl, hK⟩
  · rw [if_neg h, q_River_tell_0, if_neg g0, if_neg g1, if_neg g2]
    simp only [Option.bind_some, iv_tI, if_true, true_or, or_true, iv_10, if_false]
    exact ⟨_, b, _, _, rfl, rfl, hK⟩
