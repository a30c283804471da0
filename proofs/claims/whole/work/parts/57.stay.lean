/-! staying over there, the log, what would be voted -/
theorem iv_riv_ov {f ra ch ta fi wa tu now : Nat → Int32} {st : Int32} {mc mt mf : Nat → Int32} {M n o w : Nat} (hn : n ≤ 12) (hw : w < n) (h : iv_riv f ra ch ta fi wa tu now st mc mt mf M n o) : iv_riv (upd f 7 (nI (o ||| 2 ^ w))) ra ch ta fi wa tu (upd now (18 + w) 1) st mc mt mf M n (o ||| 2 ^ w) := by
  obtain ⟨⟨a0, a1, a2, a3, a4, a5, a6, a7⟩, h2, ⟨h3, h4⟩, h5, h6⟩ := h
  refine ⟨⟨?_, ?_, ?_, a3, ?_, ?_, a6, rfl⟩, h2, ⟨Nat.or_lt_two_pow h3 (Nat.pow_lt_pow_right (by omega) hw), fun i hi => ?_⟩, fun i hi => ?_, h6⟩
  · rw [pk_un (by omega), pk_un (by omega)]; exact a0
  · rw [pk_un (by omega), pk_un (by omega)]; exact a1
  · rw [pk_un (by omega), pk_un (by omega)]; exact a2
  · rw [pk_un (by omega), pk_un (by omega)]; exact a4
  · rw [pk_un (by omega), pk_un (by omega)]; exact a5
  · by_cases hi2 : i = w
    · subst hi2
      rw [pk_us, iv_Bt (by rw [Nat.testBit_or, Nat.testBit_two_pow]; simp)]
    · rw [pk_un (by omega), h4 i hi]
      refine iv_Bc ?_
      rw [Nat.testBit_or, Nat.testBit_two_pow]
      simp [Ne.symm hi2]
  · rw [pk_un (by omega), pk_un (by omega), pk_un (by omega)]; exact h5 i hi
theorem iv_riv_un {f ra ch ta fi wa tu now : Nat → Int32} {st : Int32} {mc mt mf : Nat → Int32} {M n o w : Nat} (hn : n ≤ 12) (hw : w < n) (h : iv_riv f ra ch ta fi wa tu now st mc mt mf M n o) : iv_riv (upd f 7 (nI (iv_wo o (2 ^ w)))) ra ch ta fi wa tu (upd now (18 + w) 0) st mc mt mf M n (iv_wo o (2 ^ w)) := by
  obtain ⟨⟨a0, a1, a2, a3, a4, a5, a6, a7⟩, h2, ⟨h3, h4⟩, h5, h6⟩ := h
  refine ⟨⟨?_, ?_, ?_, a3, ?_, ?_, a6, rfl⟩, h2, ⟨iv_wo_lt h3, fun i hi => ?_⟩, fun i hi => ?_, h6⟩
  · rw [pk_un (by omega), pk_un (by omega)]; exact a0
  · rw [pk_un (by omega), pk_un (by omega)]; exact a1
  · rw [pk_un (by omega), pk_un (by omega)]; exact a2
  · rw [pk_un (by omega), pk_un (by omega)]; exact a4
  · rw [pk_un (by omega), pk_un (by omega)]; exact a5
  · by_cases hi2 : i = w
    · subst hi2
      rw [pk_us, iv_Bf (by rw [iv_wo_bit, Nat.testBit_two_pow]; simp)]
    · rw [pk_un (by omega), h4 i hi]
      refine iv_Bc ?_
      rw [iv_wo_bit, Nat.testBit_two_pow]
      simp [Ne.symm hi2]
  · rw [pk_un (by omega), pk_un (by omega), pk_un (by omega)]; exact h5 i hi
theorem f_isOverX (b : Bool) {σ : ix_St} {o p : Nat} (ho : o < 4096) (hp : p < 12) (h : σ 2 7 = nI o) : ix_F 121 [.ref 2, .int (nI p)] (ix_S0 b, σ) = some (.int (iv_B (o.testBit p = true)), (ix_S0 b, σ)) := by
  rw [q_River_isOver_0, h, iv_bit (by omega) (by omega)]
  by_cases hb : o.testBit p = true
  · rw [iv_Bt hb, if_pos rfl]
  · rw [iv_Bf hb, if_neg (by decide)]
theorem iv_o12 {n o : Nat} (hn : n ≤ 12) (ho : o < 2 ^ n) : o < 4096 := Nat.lt_of_lt_of_le ho (iv_p12 hn)
/-- one stays over there -/
theorem f_stay1 (b c : Bool) {σ τ : ix_St} {M n o j : Nat} (hn : n ≤ 12) (hj : j < n) (hw : iv_wor σ (iv_mv τ) M n o) (h5 : τ 135 5 = 0) (v : Int32) (hv : (v >>> (nI j &&& 31)) &&& 1 = 1) : ∃ o' σ' τ', ix_S 151 2 2 [some (.ref 1), some (.int v), some (.int (nI j))] [] (ix_S0 b, σ) = ix_S 151 2 2 [some (.ref 1), some (.int v), some (.int (nI (j + 1)))] [] (ix_S0 b, σ') ∧ ix_F 195 [.ref 135, .int (nI j)] (ix_S0 c, τ) = some (.null, (ix_S0 c, τ')) ∧ iv_wor σ' (iv_mv τ') M n o' ∧ iv_vXF σ σ' ∧ iv_vMF τ τ' := by
  have hr := iv_rvF_of hw
  have c6 : σ 2 6 = nI n := hr.1.1.2.2.2.2.2.2.1
  have c7 : σ 2 7 = nI o := hr.1.1.2.2.2.2.2.2.2
  have ho : o < 2 ^ n := hr.1.2.2.1.1
  have ov : τ 136 (18 + j) = iv_B (o.testBit j = true) := hr.1.2.2.1.2 j (by omega)
  have g1 : ¬ nI n ≤ nI j := nI_ge (by omega) (by omega)
  have m18 : (18 : Int32) + nI j = nI (18 + j) := nI_add 18 j
  have i18 : ¬ (nI (18 + j) < 0 ∨ 54 ≤ 18 + j) := iv_ni (by omega) (by omega)
  have l18 : (nI (18 + j)).toNatClampNeg = 18 + j := nI_clamp (by omega)
  by_cases hb : o.testBit j = true
  · refine ⟨o, σ, τ, ?_, ?_, hw, iv_vXF.rf, iv_vMF.rf⟩
    · rw [q_World_leaveOver_2, c6, if_neg g1, if_pos hv, f_isOverX b (iv_o12 hn ho) (by omega) c7, iv_Bt hb]
      simp only [Option.bind_some, iv_tI, iv_10, if_false, nI_1]
    · rw [q_M_stays_0]
      simp only [m18, i18, l18, if_false, ov, iv_Bt hb, if_true]
  · have hriv := iv_riv_ov hn hj hr.1
    have hbk0 := iv_bk_of hw
    have hbk : iv_bk (ix_up σ 2 7 (nI (o ||| 2 ^ j))) (ix_up τ 136 (18 + j) 1) := by
      obtain ⟨⟨k, hk, b1, b2⟩, b3⟩ := hbk0
      refine ⟨⟨k, hk, b1, ?_⟩, b3⟩
      show upd (τ 136) (18 + j) 1 2 = _
      rw [pk_un (by omega)]; exact b2
    have hx : (ix_up τ 136 (18 + j) 1) 136 5 = σ 2 5 := by
      show upd (τ 136) (18 + j) 1 5 = _
      rw [pk_un (by omega)]; exact hr.1.1.2.2.2.2.2.1.symm
    obtain ⟨σ1, τ1, w1, w2, w3, w4, w5, w6⟩ := f_note b c hbk h5 (σ 2 5) 4 (nI j) 0 hx
    have X1 : iv_vXF σ σ1 := fun z z1 z2 z3 z4 z5 => (w4 z (by omega) (by omega)).trans (iv_upn (by omega))
    have M1 : iv_vMF τ τ1 := ⟨fun z z1 z2 z3 z4 z5 z6 => (w5 z z2 z6).trans (iv_upn z2), fun i hi => by rw [w5 135 (by omega) (by omega)]; rfl⟩
    refine ⟨o ||| 2 ^ j, σ1, τ1, ?_, ?_, iv_wor_F hw X1 M1 ⟨?_, ?_⟩ w3, X1, M1⟩
    · rw [q_World_leaveOver_2, c6, if_neg g1, if_pos hv, f_isOverX b (iv_o12 hn ho) (by omega) c7, iv_Bf hb]
      simp only [Option.bind_some, iv_tI, if_true, nI_1]
      rw [c7, iv_shl (by omega), iv_or, w1]
      rfl
    · rw [q_M_stays_0]
      simp only [m18, i18, l18, if_false, ov, iv_Bf hb]
      rw [if_neg (by decide), w2]
      rfl
    · have x2 : σ1 2 = upd (σ 2) 7 (nI (o ||| 2 ^ j)) := w4 2 (by omega) (by omega)
      rw [x2, show σ1 3 = σ 3 from w4 3 (by omega) (by omega), show σ1 4 = σ 4 from w4 4 (by omega) (by omega), show σ1 5 = σ 5 from w4 5 (by omega) (by omega), show σ1 6 = σ 6 from w4 6 (by omega) (by omega), show σ1 7 = σ 7 from w4 7 (by omega) (by omega), show σ1 8 = σ 8 from w4 8 (by omega) (by omega), show τ1 135 = τ 135 from w5 135 (by omega) (by omega), show τ1 139 = τ 139 from w5 139 (by omega) (by omega), show τ1 140 = τ 140 from w5 140 (by omega) (by omega), show τ1 141 = τ 141 from w5 141 (by omega) (by omega)]
      refine iv_riv_n2 hriv (fun i hi => ?_)
      rw [w6 i hi]; rfl
    · rw [show τ1 135 = τ 135 from w5 135 (by omega) (by omega)]; exact hr.2
theorem f_leave0 (b : Bool) {σ : ix_St} {n : Nat} (hn : n ≤ 12) (c6 : σ 2 6 = nI n) (v : Int32) : ∀ d j, j + d = n → (∀ i, j ≤ i → i < n → ¬ (v >>> (nI i &&& 31)) &&& 1 = 1) → ix_S 151 2 2 [some (.ref 1), some (.int v), some (.int (nI j))] [] (ix_S0 b, σ) = some (.null, (ix_S0 b, σ)) := by
  intro d
  induction d with
  | zero =>
    intro j hj _
    rw [q_World_leaveOver_2, c6, if_pos (nI_le (by omega) (by omega))]
  | succ d ih =>
    intro j hj hv
    rw [q_World_leaveOver_2, c6, if_neg (nI_ge (by omega) (by omega)), if_neg (hv j (by omega) (by omega)), nI_1]
    exact ih (j + 1) (by omega) (fun i h1 h2 => hv i (by omega) h2)
theorem f_leave1 (b : Bool) {σ : ix_St} {n p : Nat} (hn : n ≤ 12) (hp : p < n) (c6 : σ 2 6 = nI n) (v : Int32) : ∀ d j, j + d = p → (∀ i, j ≤ i → i < p → ¬ (v >>> (nI i &&& 31)) &&& 1 = 1) → ix_S 151 2 2 [some (.ref 1), some (.int v), some (.int (nI j))] [] (ix_S0 b, σ) = ix_S 151 2 2 [some (.ref 1), some (.int v), some (.int (nI p))] [] (ix_S0 b, σ) := by
  intro d
  induction d with
  | zero =>
    intro j hj _
    rw [show j = p by omega]
  | succ d ih =>
    intro j hj hv
    rw [q_World_leaveOver_2, c6, if_neg (nI_ge (by omega) (by omega)), if_neg (hv j (by omega) (by omega)), nI_1]
    exact ih (j + 1) (by omega) (fun i h1 h2 => hv i (by omega) h2)
theorem s_stay (E : ix_St) (v w : Int32) (hv01 : w = 0 ∨ w = 1) : iv_S E 6 161 [.int v, .int w] := by
  intro k b c σ τ hk hE hR
  have hRt := iv_R_told (v := 0) hR
  have hK := iv_R_keep iv_kX.rf (iv_kM_told τ 0) hR
  obtain ⟨n, o, hn, hw, hpast, -, hoth, -⟩ := id hRt
  have hr := iv_rvF_of hw
  have c6 : σ 2 6 = nI n := hr.1.1.2.2.2.2.2.2.1
  have c7 : σ 2 7 = nI o := hr.1.1.2.2.2.2.2.2.2
  have ho : o < 2 ^ n := hr.1.2.2.1.1
  rw [q_X_stay_0, q_M_stay_0, f_has b σ hn c6, f_isOne c _ hn hr.2]
  simp only [Option.bind_some, iv_tI]
  by_cases h1 : 0 ≤ v ∧ v < nI n
  · obtain ⟨p, hp, rfl⟩ := (iv_rng' (by omega)).mp h1
    have ov : (ix_up τ 135 0 0) 136 (18 + p) = iv_B (o.testBit p = true) := hr.1.2.2.1.2 p (by omega)
    have m18 : (18 : Int32) + nI p = nI (18 + p) := nI_add 18 p
    have i18 : ¬ (nI (18 + p) < 0 ∨ 54 ≤ 18 + p) := iv_ni (by omega) (by omega)
    have l18 : (nI (18 + p)).toNatClampNeg = 18 + p := nI_clamp (by omega)
    simp only [iv_Bt h1, iv_10, if_false, f_isOverX b (iv_o12 hn ho) (show p < 12 by omega) c7, Option.bind_some, iv_tI, m18, i18, l18, ov]
    obtain ⟨σ1, τ1, e1, e2, hw1, hp1, f1, f2, f3⟩ := f_keep2 b c hn hw hpast
    have hr1 := iv_rvF_of hw1
    have d6 : σ1 2 6 = nI n := hr1.1.1.2.2.2.2.2.2.1
    have d7 : σ1 2 7 = nI o := hr1.1.1.2.2.2.2.2.2.2
    have h51 : τ1 135 5 = 0 := by rw [f3 5 (by omega)]; exact hoth.2.1
    by_cases hb : o.testBit p = true
    · rw [iv_Bt hb, if_pos rfl]
      rcases hv01 with rfl | rfl
      · -- back again
        rw [if_neg (by decide), if_neg (by decide), e1, e2]
        simp only [Option.bind_some, if_true]
        have hriv := iv_riv_un hn hp hr1.1
        have X1 : iv_vXF σ1 (ix_up σ1 2 7 (nI (iv_wo o (2 ^ p)))) := fun z z1 z2 z3 z4 z5 => iv_upn (by omega)
        have M1 : iv_vMF τ1 (ix_up τ1 136 (18 + p) 0) := ⟨fun z z1 z2 z3 z4 z5 z6 => iv_upn z2, fun i hi => rfl⟩
        have hbk : iv_bk (ix_up σ1 2 7 (nI (iv_wo o (2 ^ p)))) (ix_up τ1 136 (18 + p) 0) := by
          obtain ⟨⟨k, hk, b1, b2⟩, b3⟩ := iv_bk_of hw1
          refine ⟨⟨k, hk, b1, ?_⟩, b3⟩
          show upd (τ1 136) (18 + p) 0 2 = _
          rw [pk_un (by omega)]; exact b2
        have hw2 := iv_wor_F (N := 192 * k) hw1 X1 M1 ⟨hriv, hr1.2⟩ hbk
        refine ⟨1, b, ix_up σ1 2 7 (nI (iv_wo o (2 ^ p))), ix_up τ1 136 (18 + p) 0, ?_, rfl, ?_⟩
        · rw [d7, iv_shl (by omega), iv_wo_I]
        · exact iv_R_mk (n := n) (o := o) hRt hn (iv_wor_up (by omega) hw2) (iv_past_F hp1 (by omega) X1 M1) (fun z hz => (X1 z (by omega) (by omega) (by omega) (by omega) (by omega)).trans (f1 z (by omega))) (fun z hz => (M1.1 z (by omega) (by omega) (by omega) (by omega) (by omega) (by omega)).trans (f2 z (by omega) (by omega))) (fun i hi => (M1.2 i (by omega)).trans (f3 i (by omega)))
      · rw [if_pos rfl, if_pos rfl]
        exact ⟨_, b, _, _, rfl, rfl, hK⟩
    · rw [iv_Bf hb, if_neg (show ¬ (0 : Int32) = 1 by decide)]
      rcases hv01 with rfl | rfl
      · rw [if_pos rfl, if_pos rfl]
        exact ⟨_, b, _, _, rfl, rfl, hK⟩
      · rw [if_neg (by decide), if_neg (by decide), e1, e2]
        simp only [Option.bind_some, iv_10, if_false]
        have bits : ∀ i, i < 12 → ((nI (2 ^ p) >>> (nI i &&& 31)) &&& 1 = 1 ↔ i = p) := by
          intro i hi
          rw [iv_bit1 (Nat.lt_of_lt_of_le (Nat.pow_lt_pow_right (a := 2) (by omega) (show p < 31 by omega)) (Nat.le_refl _)) (by omega), Nat.testBit_two_pow]
          constructor
          · intro h; exact (of_decide_eq_true h).symm
          · intro h; exact decide_eq_true h.symm
        obtain ⟨o', σ2, τ2, g1, g2, hw2, x2, m2⟩ := f_stay1 b c hn hp hw1 h51 (nI (2 ^ p)) ((bits p (by omega)).mpr rfl)
        have d62 : σ2 2 6 = nI n := (iv_rvF_of hw2).1.1.2.2.2.2.2.2.1
        have hL : ix_F 151 [.ref 1, .int (nI (2 ^ p))] (ix_S0 b, σ1) = some (.null, (ix_S0 b, σ2)) := by
          rw [q_World_leaveOver_0]
          have a1 := f_leave1 b hn hp d6 (nI (2 ^ p)) p 0 (by omega) (fun i h1 h2 h3 => absurd ((bits i (by omega)).mp h3) (by omega))
          have a2 := f_leave0 b hn d62 (nI (2 ^ p)) (n - (p + 1)) (p + 1) (by omega) (fun i h1 h2 h3 => absurd ((bits i (by omega)).mp h3) (by omega))
          exact a1.trans (g1.trans a2)
        refine ⟨1, b, σ2, τ2, ?_, ?_, ?_⟩
        · rw [iv_shl (by omega), hL]; rfl
        · rw [g2]; rfl
        · exact iv_R_mk (n := n) (o := o) hRt hn (iv_wor_up (by omega) hw2) (iv_past_F hp1 (by omega) x2 m2) (fun z hz => (x2 z (by omega) (by omega) (by omega) (by omega) (by omega)).trans (f1 z (by omega))) (fun z hz => (m2.1 z (by omega) (by omega) (by omega) (by omega) (by omega) (by omega)).trans (f2 z (by omega) (by omega))) (fun i hi => (m2.2 i (by omega)).trans (f3 i (by omega)))
  · rw [iv_Bf h1, if_pos rfl, if_pos rfl]
    exact ⟨_, b, _, _, rfl, rfl, hK⟩
/-- all of a set stay over there -/
theorem f_leave (b c : Bool) {M n : Nat} (hn : n ≤ 12) (v1 : Int32) {k : Nat} (hk : k < 16) (v : Int32) : ∀ d j o σ τ, j + d = n → iv_wor σ (iv_mv τ) M n o → τ 135 5 = 0 → τ 154 (2 * k + 1) = v → ∃ o' σ' τ', ix_S 151 2 2 [some (.ref 1), some (.int v), some (.int (nI j))] [] (ix_S0 b, σ) = some (.null, (ix_S0 b, σ')) ∧ ix_S 162 10 52 [some (.ref 135), some (.int v1), some (.int (nI k)), none, some (.int (nI j))] [] (ix_S0 c, τ) = ix_S 162 10 13 [some (.ref 135), some (.int v1), some (.int (nI (k + 1))), none, none] [] (ix_S0 c, τ') ∧ iv_wor σ' (iv_mv τ') M n o' ∧ iv_vXF σ σ' ∧ iv_vMF τ τ' := by
  have m1 : (2 : Int32) * nI k + 1 = nI (2 * k + 1) := by rw [show (2 : Int32) = nI 2 from rfl, pk_mul, nI_1]
  have i1 : ¬ (nI (2 * k + 1) < 0 ∨ 64 ≤ 2 * k + 1) := iv_ni (by omega) (by omega)
  have l1 : (nI (2 * k + 1)).toNatClampNeg = 2 * k + 1 := nI_clamp (by omega)
  intro d
  induction d with
  | zero =>
    intro j o σ τ hj hw h5 hv
    have hr := iv_rvF_of hw
    have c6 : σ 2 6 = nI n := hr.1.1.2.2.2.2.2.2.1
    refine ⟨o, σ, τ, ?_, ?_, hw, iv_vXF.rf, iv_vMF.rf⟩
    · rw [q_World_leaveOver_2, c6, if_pos (nI_le (by omega) (by omega))]
    · rw [q_M_log_52, hr.2, if_pos (nI_le (by omega) (by omega)), nI_1]
  | succ d ih =>
    intro j o σ τ hj hw h5 hv
    have hr := iv_rvF_of hw
    have c6 : σ 2 6 = nI n := hr.1.1.2.2.2.2.2.2.1
    have g1 : ¬ nI n ≤ nI j := nI_ge (by omega) (by omega)
    by_cases hb : (v >>> (nI j &&& 31)) &&& 1 = 1
    · obtain ⟨o', σ1, τ1, e1, e2, hw1, x1, y1⟩ := f_stay1 b c hn (show j < n by omega) hw h5 v hb
      obtain ⟨o2, σ2, τ2, e3, e4, hw2, x2, y2⟩ := ih (j + 1) o' σ1 τ1 (by omega) hw1 (by rw [y1.2 5 (by omega)]; exact h5) (by rw [y1.1 154 (by omega) (by omega) (by omega) (by omega) (by omega) (by omega)]; exact hv)
      refine ⟨o2, σ2, τ2, e1.trans e3, ?_, hw2, x1.tr x2, y1.tr y2⟩
      rw [q_M_log_52, hr.2, if_neg g1, m1, l1, if_neg i1, hv, q_M_has_0, if_pos hb]
      simp only [Option.bind_some, iv_tI, iv_10, if_false, e2, nI_1]
      exact e4
    · obtain ⟨o2, σ2, τ2, e3, e4, hw2, x2, y2⟩ := ih (j + 1) o σ τ (by omega) hw h5 hv
      refine ⟨o2, σ2, τ2, ?_, ?_, hw2, x2, y2⟩
      · rw [q_World_leaveOver_2, c6, if_neg g1, if_neg hb, nI_1]
        exact e3
      · rw [q_M_log_52, hr.2, if_neg g1, m1, l1, if_neg i1, hv, q_M_has_0, if_neg hb]
        simp only [Option.bind_some, iv_tI, if_true, nI_1]
        exact e4
theorem iv_andS (x : Int32) {h : Nat} (hh : h < 4096) : ∃ s : Nat, s < 4096 ∧ x &&& nI h = nI s := by
  have e : (x &&& nI h) &&& (nI h ^^^ (-1)) = 0 := by
    apply Int32.toBitVec_inj.1
    have h1 : ((x &&& nI h) &&& (nI h ^^^ (-1))).toBitVec = (x.toBitVec &&& BitVec.ofNat 32 h) &&& (BitVec.ofNat 32 h ^^^ (BitVec.allOnes 32)) := rfl
    rw [h1]
    apply BitVec.eq_of_getLsbD_eq
    intro i hi
    show _ = (0#32).getLsbD i
    rw [BitVec.getLsbD_and, BitVec.getLsbD_and, BitVec.getLsbD_xor, BitVec.getLsbD_ofNat, BitVec.getLsbD_allOnes, BitVec.getLsbD_zero]
    simp only [hi, decide_true, Bool.true_and]
    cases x.toBitVec.getLsbD i <;> cases h.testBit i <;> rfl
  obtain ⟨s, h1, h2⟩ := iv_sub (h := h) (by omega) e
  exact ⟨s, iv_sub_lt (n := 12) h1 hh, h2⟩
theorem f_log (c : Bool) {n m : Nat} (hn : n ≤ 12) (hm : m ≤ 16) : ∀ d j v1 b M o σ τ, j + d = m → M + 12 * d ≤ 99999 → iv_wor σ (iv_mv τ) M n o → τ 135 5 = 0 → τ 135 37 = nI m → ∃ r b' o' σ' τ', ix_S 7 7 15 [some (.ref 0), some (.int v1), some (.int (nI j)), none] [] (ix_S0 b, σ) = some (.int r, (ix_S0 b', σ')) ∧ ix_S 162 10 13 [some (.ref 135), some (.int v1), some (.int (nI j)), none, none] [] (ix_S0 c, τ) = some (.int r, (ix_S0 c, τ')) ∧ iv_wor σ' (iv_mv τ') (M + 12 * d) n o' ∧ iv_vXF σ σ' ∧ iv_vMF τ τ' := by
  intro d
  induction d with
  | zero =>
    intro j v1 b M o σ τ hj hM hw h5 h37
    have e25 : σ 25 2 = nI m := by rw [← h37]; exact hw.2.2.1.2.2.1
    refine ⟨v1, b, o, σ, τ, ?_, ?_, hw, iv_vXF.rf, iv_vMF.rf⟩
    · rw [q_X_log_15, e25, if_pos (nI_le (by omega) (by omega))]
    · rw [q_M_log_13, h37, if_pos (nI_le (by omega) (by omega))]
  | succ d ih =>
    intro j v1 b M o σ τ hj hM hw h5 h37
    have e25 : σ 25 2 = nI m := by rw [← h37]; exact hw.2.2.1.2.2.1
    have hr := iv_rvF_of hw
    have c6 : σ 2 6 = nI n := hr.1.1.2.2.2.2.2.2.1
    have c7 : σ 2 7 = nI o := hr.1.1.2.2.2.2.2.2.2
    have ho : o < 2 ^ n := hr.1.2.2.1.1
    have g1 : ¬ nI m ≤ nI j := nI_ge (by omega) (by omega)
    have k1 : ¬ (nI j < 0 ∨ 16 ≤ j) := iv_ni (by omega) (by omega)
    have k3 : (nI j).toNatClampNeg = j := nI_clamp (by omega)
    have m1 : (2 : Int32) * nI j = nI (2 * j) := by rw [show (2 : Int32) = nI 2 from rfl, pk_mul]
    have i1 : ¬ (nI (2 * j) < 0 ∨ 64 ≤ 2 * j) := iv_ni (by omega) (by omega)
    have l1 : (nI (2 * j)).toNatClampNeg = 2 * j := nI_clamp (by omega)
    have hlog : σ 21 j = τ 154 (2 * j) ∧ σ 22 j = τ 154 (2 * j + 1) := by
      obtain ⟨m', hm', hc, hk⟩ := hw.2.2.2.2.1
      have hc' : τ 135 37 = nI m' := hc
      have : m' = m := by
        rw [h37, nI_eq (by omega) (by omega)] at hc'
        exact hc'.symm
      subst this
      exact hk j (by omega)
    have hhe := iv_he_31 hn ho
    by_cases hz : σ 21 j &&& nI (iv_he n o) = 0
    · obtain ⟨o1, σ1, τ1, e1, e2, hw1, x1, y1⟩ := f_leave b c hn v1 (show j < 16 by omega) (σ 22 j) n 0 o σ τ (by omega) hw h5 hlog.2.symm
      obtain ⟨r, b', o2, σ2, τ2, e3, e4, hw2, x2, y2⟩ := ih (j + 1) v1 b M o1 σ1 τ1 (by omega) (by omega) hw1 (by rw [y1.2 5 (by omega)]; exact h5) (by rw [y1.2 37 (by omega)]; exact h37)
      refine ⟨r, b', o2, σ2, τ2, ?_, ?_, iv_wor_up (by omega) hw2, x1.tr x2, y1.tr y2⟩
      · rw [q_X_log_15, e25, if_neg g1]
        simp only [k1, k3, if_false, f_hereX b hn c6 ho c7, Option.bind_some, iv_tI, hz, if_true, q_World_leaveOver_0]
        have e1' : ix_S 151 2 2 [some (.ref 1), some (.int (σ 22 j)), some (.int 0)] [] (ix_S0 b, σ) = some (.null, (ix_S0 b, σ1)) := e1
        rw [e1']
        simp only [Option.bind_some, nI_1]
        exact e3
      · rw [q_M_log_13, h37, if_neg g1]
        simp only [m1, i1, l1, if_false, f_hereM c hn hr.2 ho hr.1.2.2.1.2, Option.bind_some, iv_tI, ← hlog.1, hz, if_true]
        exact e2.trans e4
    · obtain ⟨s, hs, es⟩ := iv_andS (σ 21 j) hhe
      obtain ⟨r0, σ0, τ0, a1, a2, hw0, x0, y0⟩ := f_sail b c hn hs (by omega) hw h5
      have h50 : τ0 135 5 = 0 := by rw [y0.2 5 (by omega)]; exact h5
      have e22 : σ0 22 j = σ 22 j := by rw [x0 22 (by omega) (by omega) (by omega) (by omega) (by omega)]
      obtain ⟨o1, σ1, τ1, e1, e2, hw1, x1, y1⟩ := f_leave false c hn (v1 + 1) (show j < 16 by omega) (σ 22 j) n 0 o σ0 τ0 (by omega) hw0 h50 (by rw [y0.1 154 (by omega) (by omega) (by omega) (by omega) (by omega) (by omega)]; exact hlog.2.symm)
      obtain ⟨r, b', o2, σ2, τ2, e3, e4, hw2, x2, y2⟩ := ih (j + 1) (v1 + 1) false (M + 12) o1 σ1 τ1 (by omega) (by omega) hw1 (by rw [y1.2 5 (by omega)]; exact h50) (by rw [y1.2 37 (by omega), y0.2 37 (by omega)]; exact h37)
      rw [es] at hz
      refine ⟨r, b', o2, σ2, τ2, ?_, ?_, iv_wor_up (by omega) hw2, x0.tr (x1.tr x2), y0.tr (y1.tr y2)⟩
      · rw [q_X_log_15, e25, if_neg g1]
        simp only [k1, k3, if_false, f_hereX b hn c6 ho c7, Option.bind_some, iv_tI, es, hz, a1]
        rw [q_X_log_67]
        simp only [k1, k3, if_false, e22, q_World_leaveOver_0]
        have e1' : ix_S 151 2 2 [some (.ref 1), some (.int (σ 22 j)), some (.int 0)] [] (ix_S0 false, σ0) = some (.null, (ix_S0 false, σ1)) := e1
        rw [e1']
        simp only [Option.bind_some, nI_1]
        exact e3
      · rw [q_M_log_13, h37, if_neg g1]
        simp only [m1, i1, l1, if_false, f_hereM c hn hr.2 ho hr.1.2.2.1.2, Option.bind_some, iv_tI, ← hlog.1, es, hz, a2]
        exact e2.trans e4
theorem s_log (E : ix_St) : iv_S E 7 162 [] := by
  intro k b c σ τ hk hE hR
  have hRt := iv_R_told (v := 0) hR
  obtain ⟨n, o, hn, hw, hpast, -, hoth, -⟩ := id hRt
  obtain ⟨σ1, τ1, e1, e2, hw1, hp1, f1, f2, f3⟩ := f_keep2 b c hn hw hpast
  obtain ⟨m, hm, h37, -⟩ := hw1.2.2.2.2.1
  obtain ⟨r, b', o', σ2, τ2, e3, e4, hw2, x2, m2⟩ := f_log c hn hm m 0 0 b (192 * k) o σ1 τ1 (by omega) (by omega) hw1 (by rw [f3 5 (by omega)]; exact hoth.2.1) h37
  refine ⟨r, b', σ2, τ2, ?_, ?_, ?_⟩
  · rw [q_X_log_0, e1]
    exact e3
  · rw [q_M_log_0, e2]
    exact e4
  · exact iv_R_mk (n := n) (o := o) hRt hn (iv_wor_up (by omega) hw2) (iv_past_F hp1 (by omega) x2 m2) (fun z hz => (x2 z (by omega) (by omega) (by omega) (by omega) (by omega)).trans (f1 z (by omega))) (fun z hz => (m2.1 z (by omega) (by omega) (by omega) (by omega) (by omega) (by omega)).trans (f2 z (by omega) (by omega))) (fun i hi => (m2.2 i (by omega)).trans (f3 i (by omega)))
theorem f_thinks (c : Bool) : ∀ m i τ, i + m = 54 → ∃ τ', ix_S 206 1 2 [some (.ref 135), some (.int (nI i))] [] (ix_S0 c, τ) = some (.null, (ix_S0 c, τ')) ∧ (∀ z, z ≠ 135 → z ≠ 138 → τ' z = τ z) ∧ τ' 135 = upd (τ 135) 5 1 ∧ ∀ j, τ' 138 j = if i ≤ j ∧ j < 54 then τ 136 j else τ 138 j := by
  intro m
  induction m with
  | zero =>
    intro i τ hi
    refine ⟨ix_up τ 135 5 1, ?_, fun z z1 z2 => iv_upn z1, rfl, fun j => by rw [if_neg (by omega)]; rfl⟩
    rw [q_M_thinks_2, if_pos (show (54 : Int32) ≤ nI i from nI_le (a := 54) (by omega) (by omega))]
  | succ m ih =>
    intro i τ hi
    obtain ⟨τ', e, f, g, h⟩ := ih (i + 1) (ix_up τ 138 i (τ 136 i)) (by omega)
    refine ⟨τ', ?_, fun z z1 z2 => (f z z1 z2).trans (iv_upn z2), g, fun j => ?_⟩
    · rw [q_M_thinks_2, if_neg (show ¬ (54 : Int32) ≤ nI i from nI_ge (b := 54) (by omega) (by omega)), if_neg (nI_in (by omega) (by omega)), if_neg (nI_in (by omega) (by omega)), nI_clamp (by omega), nI_1]
      exact e
    · rw [h j]
      show (if _ then τ 136 j else upd (τ 138) i (τ 136 i) j) = _
      by_cases h1 : i + 1 ≤ j ∧ j < 54
      · rw [if_pos h1, if_pos (by omega)]
      · rw [if_neg h1]
        by_cases h2 : j = i
        · subst h2; rw [pk_us, if_pos (by omega)]
        · rw [pk_un h2, if_neg (by omega)]
theorem f_endsT (c : Bool) : ∀ m i τ, i + m = 54 → ∃ τ', ix_S 208 1 2 [some (.ref 135), some (.int (nI i))] [] (ix_S0 c, τ) = some (.null, (ix_S0 c, τ')) ∧ (∀ z, z ≠ 135 → z ≠ 136 → τ' z = τ z) ∧ τ' 135 = upd (τ 135) 5 0 ∧ ∀ j, τ' 136 j = if i ≤ j ∧ j < 54 then τ 138 j else τ 136 j := by
  intro m
  induction m with
  | zero =>
    intro i τ hi
    refine ⟨ix_up τ 135 5 0, ?_, fun z z1 z2 => iv_upn z1, rfl, fun j => by rw [if_neg (by omega)]; rfl⟩
    rw [q_M_endsThought_2, if_pos (show (54 : Int32) ≤ nI i from nI_le (a := 54) (by omega) (by omega))]
  | succ m ih =>
    intro i τ hi
    obtain ⟨τ', e, f, g, h⟩ := ih (i + 1) (ix_up τ 136 i (τ 138 i)) (by omega)
    refine ⟨τ', ?_, fun z z1 z2 => (f z z1 z2).trans (iv_upn z2), g, fun j => ?_⟩
    · rw [q_M_endsThought_2, if_neg (show ¬ (54 : Int32) ≤ nI i from nI_ge (b := 54) (by omega) (by omega)), if_neg (nI_in (by omega) (by omega)), if_neg (nI_in (by omega) (by omega)), nI_clamp (by omega), nI_1]
      exact e
    · rw [h j]
      show (if _ then τ 138 j else upd (τ 136) i (τ 138 i) j) = _
      by_cases h1 : i + 1 ≤ j ∧ j < 54
      · rw [if_pos h1, if_pos (by omega)]
      · rw [if_neg h1]
        by_cases h2 : j = i
        · subst h2; rw [pk_us, if_pos (by omega)]
        · rw [pk_un h2, if_neg (by omega)]
theorem s_would (E : ix_St) (v w : Int32) : iv_S E 16 171 [.int v, .int w] := by
  intro k b c σ τ hk hE hR
  have hRt := iv_R_told (v := 0) hR
  have hK := iv_R_keep iv_kX.rf (iv_kM_told τ 0) hR
  obtain ⟨n, o, hn, hw, hpast, -, hoth, -⟩ := id hRt
  have hr := iv_rvF_of hw
  have c6 : σ 2 6 = nI n := hr.1.1.2.2.2.2.2.2.1
  have c7 : σ 2 7 = nI o := hr.1.1.2.2.2.2.2.2.2
  have ho : o < 2 ^ n := hr.1.2.2.1.1
  rw [q_X_would_0, q_M_would_0, f_canRow b hn c6 ho c7, f_canCross c hn hr.2 ho hr.1.2.2.1.2]
  simp only [Option.bind_some, iv_tI]
  by_cases hc : ¬ v = 0 ∧ v &&& (nI (iv_he n o) ^^^ (-1)) = 0
  · obtain ⟨s, hs1, rfl⟩ := iv_sub (Nat.lt_of_lt_of_le (iv_he_31 hn ho) (by decide)) hc.2
    have hs : s < 4096 := iv_sub_lt (n := 12) hs1 (iv_he_31 hn ho)
    rw [iv_Bt hc, if_neg (show ¬ (1 : Int32) = 0 by decide), if_neg (show ¬ (1 : Int32) = 0 by decide), f_isIn]
    simp only [Option.bind_some, iv_tI]
    by_cases h0 : w < 0
    · rw [if_pos h0, if_pos (iv_B0.mpr (fun h => absurd h.1 (iv_nle.mpr h0)))]
      exact ⟨_, b, _, _, rfl, rfl, hK⟩
    · rw [if_neg h0]
      by_cases h2 : w ≤ 2
      · rw [if_pos h2, if_neg (fun h => iv_B0.mp h ⟨iv_nlt.mp h0, h2⟩)]
        generalize hτ0 : ix_up τ 135 0 0 = τ0 at hRt hw hpast hoth hr
        -- class: a copy of the river
        have eC : ix_F 127 [.ref 123, .ref 2] (ix_S0 b, σ) = some (.null, (ix_S0 b, iv_cpr σ 2 123)) := q_River_copyFrom_0_6 b σ
        have o1 : ∀ z, z < 123 ∨ 130 ≤ z → iv_cpr σ 2 123 z = σ z := fun z hz => iv_cpr_out (by omega)
        have r0 : ∀ i, i < 8 → iv_cpr σ 2 123 123 i = σ 2 i := fun i hi => iv_cpr_0 hi
        have r1 := iv_cpr_row (σ := σ) (p := 2) (q := 123) (by omega)
        -- reference: what is waits
        obtain ⟨τ1, t1, t2, t3, t4⟩ := f_thinks c 54 0 τ0 (by omega)
        have hrT : iv_rvT (ix_up (iv_cpr σ 2 123) 121 6 1) τ1 (192 * k) n o := by
          refine ⟨?_, ?_⟩
          · show iv_riv (iv_cpr σ 2 123 123) (iv_cpr σ 2 123 124) (iv_cpr σ 2 123 125) (iv_cpr σ 2 123 126) (iv_cpr σ 2 123 127) (iv_cpr σ 2 123 128) (iv_cpr σ 2 123 129) (τ1 136) (τ1 135 6) (τ1 139) (τ1 140) (τ1 141) (192 * k) n o
            rw [t2 136 (by omega) (by omega), t3, t2 139 (by omega) (by omega), t2 140 (by omega) (by omega), t2 141 (by omega) (by omega)]
            exact iv_riv_eq hr.1 hn r0 (fun i hi => r1 i hi) (fun i hi => rfl)
          · rw [t3]; exact hr.2
        have hlwT : iv_lw (ix_up (iv_cpr σ 2 123) 121 6 1) τ1 := iv_lw_cong (fun z h1 h2 => (iv_upn (by omega)).trans (o1 z (by omega))) (fun z h1 h2 => t2 z (by omega) (by omega)) (iv_lw_of hw)
        have hearT : ∀ i, i < 12 → (ix_up (iv_cpr σ 2 123) 121 6 1) 20 i = τ1 153 i := by
          intro i hi
          show iv_cpr σ 2 123 20 i = _
          rw [o1 20 (by omega), t2 153 (by omega) (by omega)]
          exact (hw.2.2.2.1 i hi).1
        obtain ⟨σ2, τ2, e1, e2, hV, z0, zl, x2, m2⟩ := f_vote_T c hn hs hrT hlwT hearT rfl (by rw [t3]; rfl) trivial
        obtain ⟨τ3, u1, u2, u3, u4⟩ := f_endsT c 54 0 τ2 (by omega)
        obtain ⟨L, hL, eL⟩ := iv_win_in (σ2 122)
        rw [eL] at e1 e2
        have t1' : ix_F 206 [.ref 135] (ix_S0 c, τ0) = some (.null, (ix_S0 c, τ1)) := by rw [q_M_thinks_0]; exact t1
        have u1' : ix_F 208 [.ref 135] (ix_S0 c, τ2) = some (.null, (ix_S0 c, τ3)) := by rw [q_M_endsThought_0]; exact u1
        have eI : ix_F 47 [.ref 121, .int (nI s)] (ix_S0 b, σ) = some (.int (nI L), (ix_S0 true, σ2)) := by
          rw [q_Crossing_imagine_0, eC]
          simp only [Option.bind_some, e1, iv_tI]
        simp only [eI, t1', e2, u1', Option.bind_some, iv_tI]
        rw [q_X_would_33]
        have kX : ∀ z, z < 123 ∨ 130 ≤ z → z ≠ 18 → z ≠ 19 → z ≠ 121 → z ≠ 122 → σ2 z = σ z := fun z z1 z2 z3 z4 z5 => (x2 z (by omega) z2 z3 z4 z5).trans ((iv_upn z4).trans (o1 z z1))
        have kM : ∀ z, z ≠ 135 → z ≠ 136 → z ≠ 138 → z ≠ 156 → z ≠ 157 → z ≠ 158 → τ3 z = τ0 z := fun z z1 z2 z3 z4 z5 z6 => (u2 z z1 z2).trans ((m2.1 z z1 z2 z4 z5 z6).trans (t2 z z1 z3))
        have k136 : ∀ i, i < 54 → τ3 136 i = τ0 136 i := by
          intro i hi
          rw [u4 i, if_pos ⟨by omega, hi⟩, m2.1 138 (by omega) (by omega) (by omega) (by omega) (by omega), t4 i, if_pos ⟨by omega, hi⟩]
        have k135 : ∀ i, i ≠ 43 → τ3 135 i = τ0 135 i := by
          intro i hi
          rw [u3]
          by_cases h5 : i = 5
          · subst h5; rw [pk_us]; exact hoth.2.1.symm
          · rw [pk_un h5, m2.2 i hi, t3, pk_un h5]
        have h43 : σ2 121 1 = τ3 135 43 := by
          rw [u3, pk_un (by omega)]; exact hV.2.2.2.2.2.2.1
        have hlay : ∀ l, l < 6 → σ2 122 l = τ3 158 l := by
          intro l hl
          rw [u2 158 (by omega) (by omega)]; exact zl l hl
        have hRn : iv_R (k + 1) σ2 τ3 := by
          refine iv_R_mk (n := n) (o := o) (o' := o) hRt hn (iv_wor_up (M := 192 * k) (by omega) (iv_wor_fr hw (fun z hz => kX z (by omega) (by omega) (by omega) (by omega) (by omega)) (fun z hz => kM z (by omega) (by omega) (by omega) (by omega) (by omega) (by omega)) (fun i hi => k135 i (by omega)) ⟨?_, ?_⟩ ?_)) (iv_past_up (by omega) (iv_past_cong (fun z h1 h2 => kX z (by omega) (by omega) (by omega) (by omega) (by omega)) (k135 3 (by omega)) (k135 6 (by omega)) (kM 137 (by omega) (by omega) (by omega) (by omega) (by omega) (by omega)) (kM 139 (by omega) (by omega) (by omega) (by omega) (by omega) (by omega)) (kM 140 (by omega) (by omega) (by omega) (by omega) (by omega) (by omega)) (kM 141 (by omega) (by omega) (by omega) (by omega) (by omega) (by omega)) hpast)) (fun z hz => kX z (by omega) (by omega) (by omega) (by omega) (by omega)) (fun z hz => kM z (by omega) (by omega) (by omega) (by omega) (by omega) (by omega)) (fun i hi => k135 i (by omega))
          · rw [kX 2 (by omega) (by omega) (by omega) (by omega) (by omega), kX 3 (by omega) (by omega) (by omega) (by omega) (by omega), kX 4 (by omega) (by omega) (by omega) (by omega) (by omega), kX 5 (by omega) (by omega) (by omega) (by omega) (by omega), kX 6 (by omega) (by omega) (by omega) (by omega) (by omega), kX 7 (by omega) (by omega) (by omega) (by omega) (by omega), kX 8 (by omega) (by omega) (by omega) (by omega) (by omega), k135 6 (by omega), kM 139 (by omega) (by omega) (by omega) (by omega) (by omega) (by omega), kM 140 (by omega) (by omega) (by omega) (by omega) (by omega) (by omega), kM 141 (by omega) (by omega) (by omega) (by omega) (by omega) (by omega)]
            exact iv_riv_eq hr.1 hn (fun i hi => rfl) (fun i hi => ⟨rfl, rfl, rfl, rfl, rfl, rfl⟩) k136
          · rw [k135 7 (by omega)]; exact hr.2
          · obtain ⟨⟨kk, hkk, b1, b2⟩, b3⟩ := iv_bk_of hw
            refine ⟨⟨kk, hkk, ?_, ?_⟩, ?_⟩
            · rw [kX 9 (by omega) (by omega) (by omega) (by omega) (by omega)]; exact b1
            · rw [k136 2 (by omega)]; exact b2
            · rw [kX 10 (by omega) (by omega) (by omega) (by omega) (by omega), kM 142 (by omega) (by omega) (by omega) (by omega) (by omega) (by omega)]; exact b3
        have k1 : ¬ (nI L < 0 ∨ 6 ≤ L) := iv_ni (by omega) (by omega)
        have k3 : (nI L).toNatClampNeg = L := nI_clamp (by omega)
        by_cases hw0 : w = 0
        · rw [if_pos hw0, if_pos hw0]
          exact ⟨_, true, σ2, τ3, rfl, rfl, hRn⟩
        · rw [if_neg hw0, if_neg hw0]
          by_cases hw2 : w = 2
          · rw [if_neg (by rw [hw2]; decide), if_pos hw2]
            exact ⟨_, true, σ2, τ3, rfl, by rw [h43], hRn⟩
          · have hw1 : w = 1 := by
              obtain ⟨j, hj, rfl⟩ := iv_rng5 (m := 2) (by omega) ⟨iv_nlt.mp h0, h2⟩
              have : j = 0 ∨ j = 1 ∨ j = 2 := by omega
              rcases this with rfl | rfl | rfl
              · exact absurd rfl hw0
              · rfl
              · exact absurd rfl hw2
            rw [if_pos hw1, if_neg hw2]
            simp only [k3, k1, if_false]
            by_cases hL0 : L = 0
            · subst hL0
              rw [if_pos (show nI 0 = 0 from rfl)]
              exact ⟨_, true, σ2, τ3, rfl, by rw [z0], hRn⟩
            · rw [if_neg (nI_ne0 (by omega) (by omega))]
              exact ⟨_, true, σ2, τ3, rfl, by rw [hlay L (by omega)], hRn⟩
      · rw [if_neg h2, if_pos (iv_B0.mpr (fun h => h2 h.2))]
        exact ⟨_, b, _, _, rfl, rfl, hK⟩
  · rw [iv_Bf hc, if_pos rfl, if_pos rfl]
    exact ⟨_, b, _, _, rfl, rfl, hK⟩
