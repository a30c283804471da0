/-! a crossing, staying over there, the log, what would be voted -/
theorem iv_wor_fr {σ σ' τ τ' : ix_St} {M N n o o' : Nat} (hw : iv_wor σ (iv_mv τ) M n o) (hX : ∀ z, z = 1 ∨ 12 ≤ z ∧ z ≤ 17 ∨ 20 ≤ z ∧ z ≤ 27 → σ' z = σ z) (hM : ∀ z, z = 139 ∨ z = 140 ∨ z = 141 ∨ 145 ≤ z ∧ z ≤ 151 ∨ 153 ≤ z ∧ z ≤ 155 ∨ z = 161 ∨ z = 162 → τ' z = τ z) (hs : ∀ i, i = 6 ∨ i = 7 ∨ i = 35 ∨ i = 37 ∨ i = 39 ∨ i = 47 → τ' 135 i = τ 135 i) (hriv : iv_rvF σ' τ' N n o') (hbk : iv_bk σ' τ') : iv_wor σ' (iv_mv τ') N n o' := by
  obtain ⟨h1, h2, h4, h5, h6, h7, h8, h9, h10⟩ := hw
  have m1 : iv_mv τ' 1 = iv_mv τ 1 := by
    unfold iv_mv
    rw [hs 6 (by omega), hs 7 (by omega), hs 35 (by omega), hs 37 (by omega), hs 39 (by omega), hs 47 (by omega), hM 145 (by omega)]
    rfl
  have m5 : iv_mv τ' 5 = iv_mv τ 5 := hM 153 (by omega)
  have m6 : iv_mv τ' 6 = iv_mv τ 6 := hM 162 (by omega)
  have m7 : iv_mv τ' 7 = iv_mv τ 7 := hM 161 (by omega)
  have m8 : iv_mv τ' 8 = iv_mv τ 8 := hM 154 (by omega)
  have m9 : iv_mv τ' 9 = iv_mv τ 9 := hM 155 (by omega)
  have m11 : iv_mv τ' 11 = iv_mv τ 11 := hM 146 (by omega)
  have m12 : iv_mv τ' 12 = iv_mv τ 12 := hM 147 (by omega)
  have m13 : iv_mv τ' 13 = iv_mv τ 13 := hM 148 (by omega)
  have m14 : iv_mv τ' 14 = iv_mv τ 14 := hM 149 (by omega)
  have m15 : iv_mv τ' 15 = iv_mv τ 15 := hM 150 (by omega)
  have m16 : iv_mv τ' 16 = iv_mv τ 16 := hM 151 (by omega)
  refine ⟨hriv.1, ⟨⟨hriv.2, hbk.1⟩, hbk.2⟩, ?_, ?_, ?_, ?_, ?_, ?_, ?_⟩
  · rw [hX 25 (by omega), m1]; exact h4
  · rw [hX 20 (by omega), m5]; exact h5
  · rw [hX 21 (by omega), hX 22 (by omega), m8, m1]; exact h6
  · rw [hX 23 (by omega), hX 24 (by omega), m9, m1]; exact h7
  · rw [hX 12 (by omega), hX 13 (by omega), hX 14 (by omega), hX 15 (by omega), hX 16 (by omega), hX 17 (by omega), m1, m11, m12, m13, m14, m15, m16]; exact h8
  · rw [hX 26 (by omega), m6]; exact h9
  · rw [hX 1 (by omega), hX 27 (by omega), m1, m7]; exact h10
theorem iv_bk_of {σ τ : ix_St} {M n o : Nat} (h : iv_wor σ (iv_mv τ) M n o) : iv_bk σ τ := ⟨h.2.1.1.2, h.2.1.2⟩
theorem iv_wor_F {σ σ' τ τ' : ix_St} {M N n o o' : Nat} (hw : iv_wor σ (iv_mv τ) M n o) (hX : iv_vXF σ σ') (hM : iv_vMF τ τ') (hriv : iv_rvF σ' τ' N n o') (hbk : iv_bk σ' τ') : iv_wor σ' (iv_mv τ') N n o' :=
  iv_wor_fr hw (fun z hz => hX z (by omega) (by omega) (by omega) (by omega) (by omega)) (fun z hz => hM.1 z (by omega) (by omega) (by omega) (by omega) (by omega) (by omega)) (fun i hi => hM.2 i (by omega)) hriv hbk
theorem iv_wor_cg {σ σ' τ τ' : ix_St} {M n o : Nat} (hw : iv_wor σ (iv_mv τ) M n o) (hX : ∀ z, z < 18 ∨ 20 ≤ z ∧ z < 28 → σ' z = σ z) (hM : ∀ z, z = 136 ∨ 139 ≤ z ∧ z ≤ 142 ∨ 145 ≤ z ∧ z ≤ 151 ∨ 153 ≤ z ∧ z ≤ 155 ∨ z = 161 ∨ z = 162 → τ' z = τ z) (hs : ∀ i, i = 6 ∨ i = 7 ∨ i = 35 ∨ i = 37 ∨ i = 39 ∨ i = 47 → τ' 135 i = τ 135 i) : iv_wor σ' (iv_mv τ') M n o := by
  refine iv_wor_fr hw (fun z hz => hX z (by omega)) (fun z hz => hM z (by omega)) hs (iv_rvF_cong (fun z h1 h2 => hX z (by omega)) (hs 6 (by omega)) (hs 7 (by omega)) (hM 136 (by omega)) (hM 139 (by omega)) (hM 140 (by omega)) (hM 141 (by omega)) (iv_rvF_of hw)) ?_
  obtain ⟨b1, b2⟩ := iv_bk_of hw
  refine ⟨?_, ?_⟩
  · rw [hX 9 (by omega), hM 136 (by omega)]; exact b1
  · rw [hX 10 (by omega), hM 142 (by omega)]; exact b2
/-- the rest of what holds -/
theorem iv_R_mk {k : Nat} {σ σ' τ τ' : ix_St} {n o n' o' : Nat} (hR : iv_R k σ τ) (hn' : n' ≤ 12) (hw' : iv_wor σ' (iv_mv τ') (192 * (k + 1)) n' o') (hp' : iv_past σ' τ' (192 * (k + 1)) n') (hX : ∀ z, z = 0 ∨ 28 ≤ z ∧ z < 55 ∨ z = 100 ∨ z = 101 ∨ z = 105 → σ' z = σ z) (hM : ∀ z, z = 143 ∨ z = 144 ∨ z = 163 → τ' z = τ z) (hs : ∀ i, i = 5 ∨ i = 13 ∨ i = 33 ∨ i = 34 ∨ i = 51 → τ' 135 i = τ 135 i) : iv_R (k + 1) σ' τ' := by
  obtain ⟨n0, o0, -, -, -, ht, ho, hi⟩ := iv_R_up (Nat.le_succ k) hR
  refine ⟨n', o', hn', hw', hp', ?_, ?_, ?_⟩
  · unfold iv_tape at ht ⊢
    rw [hX 100 (by omega), hX 101 (by omega), hs 13 (by omega), hM 143 (by omega)]; exact ht
  · unfold iv_oth at ho ⊢
    rw [hX 105 (by omega), hs 33 (by omega), hs 34 (by omega), hs 5 (by omega), hM 144 (by omega)]; exact ho
  · unfold iv_img iv_wor at hi ⊢
    rw [hX 0 (by omega), hs 51 (by omega), hM 163 (by omega)]
    simp only [Nat.reduceAdd, hX 28 (by omega), hX 29 (by omega), hX 30 (by omega), hX 31 (by omega), hX 32 (by omega), hX 33 (by omega), hX 34 (by omega), hX 35 (by omega), hX 36 (by omega), hX 37 (by omega), hX 39 (by omega), hX 40 (by omega), hX 41 (by omega), hX 42 (by omega), hX 43 (by omega), hX 44 (by omega), hX 47 (by omega), hX 48 (by omega), hX 49 (by omega), hX 50 (by omega), hX 51 (by omega), hX 52 (by omega), hX 53 (by omega), hX 54 (by omega)] at hi ⊢
    exact hi
theorem iv_riv_new {f f' ra ch ta fi wa tu now now' : Nat → Int32} {st : Int32} {mc mt mf : Nat → Int32} {M N n o k : Nat} {bank ag cr : Int32} (h : iv_riv f ra ch ta fi wa tu now st mc mt mf M n o) (hb : iv_in bank 5) (hk : k ≤ N) (f0 : f' 0 = f 0) (f1 : f' 1 = bank) (f2 : f' 2 = ag) (f3 : f' 3 = f 3) (f4 : f' 4 = nI k) (f5 : f' 5 = cr) (f6 : f' 6 = f 6) (f7 : f' 7 = f 7) (n0 : now' 0 = nI k) (n1 : now' 1 = now 1) (n3 : now' 3 = bank) (n4 : now' 4 = ag) (n5 : now' 5 = cr) (nr : ∀ i, 6 ≤ i → now' i = now i) : iv_riv f' ra ch ta fi wa tu now' st mc mt mf N n o := by
  obtain ⟨⟨a0, a1, a2, a3, a4, a5, a6, a7⟩, ⟨b1, b2, b3⟩, ⟨c1, c2⟩, d1, d2⟩ := h
  refine ⟨⟨?_, ?_, ?_, ?_, ?_, ?_, ?_, ?_⟩, ⟨?_, ?_, ?_⟩, ⟨c1, fun i hi => ?_⟩, fun i hi => ?_, d2⟩
  · rw [f0, n1]; exact a0
  · rw [f1, n3]
  · rw [f2, n4]
  · rw [f3]; exact a3
  · rw [f4, n0]
  · rw [f5, n5]
  · rw [f6]; exact a6
  · rw [f7]; exact a7
  · rw [f1]; exact hb
  · rw [f3]; exact b2
  · exact ⟨k, hk, f4⟩
  · rw [nr _ (by omega)]; exact c2 i hi
  · rw [nr _ (by omega), nr _ (by omega), nr _ (by omega)]; exact d1 i hi
/-- whether a land's season is over -/
theorem f_turns (b c : Bool) {σ τ : ix_St} {L : Nat} (hL : L < 6) (ag : Int32) (hsea : iv_sea (σ 23) (σ 24) (τ 155) (τ 135 39)) : (ix_F 147 [.ref 11, .int (nI L), .int ag] (ix_S0 b, σ) = some (.int 0, (ix_S0 b, σ)) ∧ ix_F 232 [.ref 135, .int (nI L), .int ag] (ix_S0 c, τ) = some (.int 0, (ix_S0 c, τ))) ∨ (ix_F 147 [.ref 11, .int (nI L), .int ag] (ix_S0 b, σ) = some (.int 1, (ix_S0 b, σ)) ∧ ix_F 232 [.ref 135, .int (nI L), .int ag] (ix_S0 c, τ) = some (.int 1, (ix_S0 c, τ)) ∧ ∃ k, k < 16 ∧ ix_F 205 [.ref 135, .int (nI L)] (ix_S0 c, τ) = some (.int (nI (3 * k)), (ix_S0 c, τ)) ∧ τ 155 (3 * k + 2) = σ 24 L ∧ iv_in (σ 24 L) 5) := by
  obtain ⟨m, hm, h39, hk, hl⟩ := hsea
  obtain ⟨r, hr, hr2⟩ := hl L hL
  have e5 := f_seasonOf c hm h39 (nI L) r hr
  have k1 : ¬ (nI L < 0 ∨ 6 ≤ L) := iv_ni (by omega) (by omega)
  have k3 : (nI L).toNatClampNeg = L := nI_clamp (by omega)
  cases r with
  | none =>
    have h0 : σ 23 L = 0 := hr2
    refine Or.inl ⟨?_, ?_⟩
    · rw [q_Texts_turnsAt_0]
      simp only [k1, k3, if_false, h0]
      rw [if_pos (by decide)]
    · rw [q_M_isOver_0, e5]
      simp only [Option.bind_some, iv_tI, iv_so, if_true]
  | some k =>
    obtain ⟨h1, h2⟩ := hr2
    have hkm : k < m := hr.1
    obtain ⟨-, ⟨a, ha1, ha2, ha⟩, hbe⟩ := hk k hkm
    have m1 : nI (3 * k) + 1 = nI (3 * k + 1) := nI_1 _
    have i1 : ¬ (nI (3 * k + 1) < 0 ∨ 96 ≤ 3 * k + 1) := iv_ni (by omega) (by omega)
    have l1 : (nI (3 * k + 1)).toNatClampNeg = 3 * k + 1 := nI_clamp (by omega)
    have hp : ¬ nI a ≤ 0 := nI_nle (by omega) (by omega)
    have hm1 : ¬ nI (3 * k) = -1 := iv_m1 (by omega)
    have e5' : ix_F 205 [.ref 135, .int (nI L)] (ix_S0 c, τ) = some (.int (nI (3 * k)), (ix_S0 c, τ)) := e5
    by_cases hlt : ag < nI a
    · refine Or.inl ⟨?_, ?_⟩
      · rw [q_Texts_turnsAt_0]
        simp only [k1, k3, if_false, h1, ha, hp, hlt, if_true]
      · rw [q_M_isOver_0, e5']
        simp only [Option.bind_some, iv_tI, hm1, if_false, e5', m1, i1, l1, ha, hlt, if_true]
    · refine Or.inr ⟨?_, ?_, k, by omega, e5', h2.symm, ?_⟩
      · rw [q_Texts_turnsAt_0]
        simp only [k1, k3, if_false, h1, ha, hp, hlt]
      · rw [q_M_isOver_0, e5']
        simp only [Option.bind_some, iv_tI, hm1, if_false, e5', m1, i1, l1, ha, hlt]
      · rw [h2]; exact hbe
def iv_ag (L bank age : Int32) : Int32 := if L = bank then (if (999 : Int32) < age + 1 then 999 else age + 1) else 0
theorem f_settle (b : Bool) (σ : ix_St) (L : Int32) : ix_F 128 [.ref 2, .int L] (ix_S0 b, σ) = some (.null, (ix_S0 b, ix_up (ix_up σ 2 2 (iv_ag L (σ 2 1) (σ 2 2))) 2 1 L)) := by
  rw [q_River_settle_0]
  unfold iv_ag
  by_cases h : L = σ 2 1
  · rw [if_pos h, if_pos h, q_Math_min_0]
    by_cases h2 : (999 : Int32) < σ 2 2 + 1
    · rw [if_pos h2, if_pos h2]; rfl
    · rw [if_neg h2, if_neg h2]; rfl
  · rw [if_neg h, if_neg h]
set_option maxRecDepth 100000 in
theorem f_sail (b c : Bool) {σ τ : ix_St} {M n o s : Nat} (hn : n ≤ 12) (hs : s < 4096) (hM : M + 12 ≤ 99999) (hw : iv_wor σ (iv_mv τ) M n o) (h5 : τ 135 5 = 0) : ∃ r σ' τ', ix_F 46 [.ref 121, .int (nI s)] (ix_S0 b, σ) = some (.int r, (ix_S0 false, σ')) ∧ ix_F 193 [.ref 135, .int (nI s)] (ix_S0 c, τ) = some (.int r, (ix_S0 c, τ')) ∧ iv_wor σ' (iv_mv τ') (M + 12) n o ∧ iv_vXF σ σ' ∧ iv_vMF τ τ' := by
  have X0 : iv_vXF σ (ix_up σ 121 6 0) := fun z z1 z2 z3 z4 z5 => iv_upn z4
  have hw0 : iv_wor (ix_up σ 121 6 0) (iv_mv τ) M n o := iv_wor_F hw X0 iv_vMF.rf (iv_rvF_cong (fun z h1 h2 => iv_upn (by omega)) rfl rfl rfl rfl rfl rfl (iv_rvF_of hw)) (iv_bk_of hw)
  obtain ⟨σ1, τ1, e1, e2, hV, -, -, x1, m1⟩ := f_vote_F c hn hs (iv_rvF_of hw0) (iv_lw_of hw0) (fun i hi => (hw0.2.2.2.1 i hi).1) rfl h5 (iv_bk_of hw0)
  obtain ⟨L, hL, eL⟩ := iv_win_in (σ1 122)
  rw [eL] at e1 e2
  obtain ⟨hR1, -, -, -, -, h51, -, hbk1⟩ := hV
  have hsea : iv_sea (σ1 23) (σ1 24) (τ1 155) (τ1 135 39) := by
    rw [x1 23 (by omega) (by omega) (by omega) (by omega) (by omega), x1 24 (by omega) (by omega) (by omega) (by omega) (by omega), m1.1 155 (by omega) (by omega) (by omega) (by omega) (by omega) (by omega), m1.2 39 (by omega)]
    exact hw0.2.2.2.2.2.1
  have b0 : σ1 2 1 = τ1 136 3 := hR1.1.1.2.1
  have a0 : σ1 2 2 = τ1 136 4 := hR1.1.1.2.2.1
  have s0 : σ1 2 3 = τ1 135 6 := hR1.1.1.2.2.2.1
  have mn0 : σ1 2 4 = τ1 136 0 := hR1.1.1.2.2.2.2.1
  have cr0 : σ1 2 5 = τ1 136 5 := hR1.1.1.2.2.2.2.2.1
  obtain ⟨mi, hmi, emi⟩ := hR1.1.2.1.2.1
  obtain ⟨mk, hmk, emk⟩ := hR1.1.2.1.2.2
  obtain ⟨ag, hag⟩ : ∃ ag, ag = iv_ag (nI L) (σ1 2 1) (σ1 2 2) := ⟨_, rfl⟩
  have eS := f_settle false σ1 (nI L)
  rw [← hag] at eS
  -- ahead of the line in the book
  have hbk2 : iv_bk (ix_up (ix_up (ix_up (ix_up σ1 2 2 ag) 2 1 (nI L)) 2 5 (σ1 2 5 + 1)) 2 4 (nI (mk + 3 + mi))) (ix_up (ix_up τ1 136 4 ag) 136 3 (nI L)) := hbk1
  obtain ⟨σ2, τ2, w1, w2, w3, w4, w5, w6⟩ := f_note false c hbk2 h51 (σ1 2 5) 2 (-1) (nI L) cr0.symm
  have g2 : σ2 2 = upd (upd (upd (upd (σ1 2) 2 ag) 1 (nI L)) 5 (σ1 2 5 + 1)) 4 (nI (mk + 3 + mi)) := w4 2 (by omega) (by omega)
  have g3 : ∀ z, z ≠ 2 → z ≠ 9 → z ≠ 10 → σ2 z = σ1 z := fun z z1 z2 z3 => (w4 z z2 z3).trans ((iv_upn z1).trans ((iv_upn z1).trans ((iv_upn z1).trans (iv_upn z1))))
  have g4 : ∀ z, z ≠ 136 → z ≠ 142 → τ2 z = τ1 z := fun z z1 z2 => (w5 z z1 z2).trans ((iv_upn z1).trans (iv_upn z1))
  have g5 : ∀ i, i ≠ 2 → τ2 136 i = upd (upd (τ1 136) 4 ag) 3 (nI L) i := w6
  have hmin : ix_F 285 [.int (σ1 2 4 + 3 + σ1 2 3), .int 99999] (ix_S0 false, ix_up (ix_up (ix_up σ1 2 2 ag) 2 1 (nI L)) 2 5 (σ1 2 5 + 1)) = some (.int (nI (mk + 3 + mi)), (ix_S0 false, ix_up (ix_up (ix_up σ1 2 2 ag) 2 1 (nI L)) 2 5 (σ1 2 5 + 1))) := by
    rw [emk, emi, show (3 : Int32) = nI 3 from rfl, nI_add, nI_add, q_Math_min_0, if_neg (show ¬ (99999 : Int32) < nI (mk + 3 + mi) from nI_nlt (a := 99999) (by omega) (by omega))]
  have hsea2 : iv_sea (σ2 23) (σ2 24) (τ2 155) (τ2 135 39) := by
    rw [g3 23 (by omega) (by omega) (by omega), g3 24 (by omega) (by omega) (by omega), g4 155 (by omega) (by omega), g4 135 (by omega) (by omega)]
    exact hsea
  have t4 : τ2 136 4 = ag := (g5 4 (by omega)).trans rfl
  have t3 : τ2 136 3 = nI L := (g5 3 (by omega)).trans rfl
  have t5 : τ2 136 5 = τ1 136 5 := (g5 5 (by omega)).trans rfl
  have t0 : τ2 136 0 = nI mk := (g5 0 (by omega)).trans (mn0.symm.trans emk)
  have t1 : τ2 136 1 = τ1 136 1 := (g5 1 (by omega)).trans rfl
  have tst : τ2 135 6 = nI mi := by rw [g4 135 (by omega) (by omega), ← s0]; exact emi
  have u1 : σ2 2 1 = nI L := by rw [g2]; rfl
  have u2 : σ2 2 2 = ag := by rw [g2]; rfl
  have tmi : τ2 136 0 + 3 + τ2 135 6 = nI (mk + 3 + mi) := by rw [t0, tst, show (3 : Int32) = nI 3 from rfl, nI_add, nI_add]
  have k1 : ¬ (nI L < 0 ∨ 6 ≤ L) := iv_ni (by omega) (by omega)
  have k3 : (nI L).toNatClampNeg = L := nI_clamp (by omega)
  have Xn : iv_vXF σ σ2 := X0.tr (x1.tr (fun z z1 z2 z3 z4 z5 => g3 z (by omega) (by omega) (by omega)))
  have Mn : iv_vMF τ τ2 := m1.tr ⟨fun z z1 z2 z3 z4 z5 z6 => g4 z z2 z6, fun i hi => by rw [g4 135 (by omega) (by omega)]⟩
  have hlead : ∀ (F : Value × ix_H → ix_R), ((ix_F 207 [.ref 135, .int (nI s)] (ix_S0 c, τ)).bind F) = F (.int (nI L), (ix_S0 c, τ1)) := fun F => by rw [e2]; rfl
  have hX : ix_F 46 [.ref 121, .int (nI s)] (ix_S0 b, σ) = ((ix_F 147 [.ref 11, .int (nI L), .int ag] (ix_S0 false, σ2)).bind fun x5 => (if (ix_toI x5.1) = 0 then some (.int (x5.2.2 2 1), (ix_S0 false, x5.2.2)) else (if (x5.2.2 2 1) < 0 ∨ 6 ≤ (x5.2.2 2 1).toNatClampNeg then none else ((ix_F 43 [.ref 9, .int (σ1 2 5), .int (3 : Int32), .int (-1 : Int32), .int (x5.2.2 24 (x5.2.2 2 1).toNatClampNeg)] (ix_S0 false, (ix_up (ix_up x5.2.2 2 1 (x5.2.2 24 (x5.2.2 2 1).toNatClampNeg)) 2 2 (0 : Int32)))).bind fun x6 => some (.int (x6.2.2 2 1), (ix_S0 false, x6.2.2)))))) := by
    rw [q_Crossing_sail_0, e1]
    simp only [Option.bind_some, iv_tI, eS]
    have q4 : (ix_up (ix_up σ1 2 2 ag) 2 1 (nI L)) 2 4 = σ1 2 4 := rfl
    have q3 : (ix_up (ix_up σ1 2 2 ag) 2 1 (nI L)) 2 3 = σ1 2 3 := rfl
    have q5 : (ix_up (ix_up σ1 2 2 ag) 2 1 (nI L)) 2 5 = σ1 2 5 := rfl
    rw [q4, q3, q5, hmin]
    simp only [Option.bind_some, iv_tI, w1, u1, u2]
  have hMd : ix_F 193 [.ref 135, .int (nI s)] (ix_S0 c, τ) = ((ix_F 232 [.ref 135, .int (nI L), .int ag] (ix_S0 c, τ2)).bind fun x8 => (if (ix_toI x8.1) = 0 then some (.int (x8.2.2 136 3), (ix_S0 c, (ix_up (ix_up x8.2.2 136 5 ((x8.2.2 136 5) + (1 : Int32))) 136 0 (((x8.2.2 136 0) + (3 : Int32)) + (x8.2.2 135 6))))) else ((ix_F 205 [.ref 135, .int (nI L)] (ix_S0 c, x8.2.2)).bind fun x9 => (if ((ix_toI x9.1) + (2 : Int32)) < 0 ∨ 96 ≤ ((ix_toI x9.1) + (2 : Int32)).toNatClampNeg then none else ((ix_F 231 [.ref 135, .int (3 : Int32), .int (-1 : Int32), .int (x9.2.2 155 ((ix_toI x9.1) + (2 : Int32)).toNatClampNeg)] (ix_S0 c, (ix_up (ix_up x9.2.2 136 3 (x9.2.2 155 ((ix_toI x9.1) + (2 : Int32)).toNatClampNeg)) 136 4 (0 : Int32)))).bind fun x10 => some (.int (x10.2.2 136 3), (ix_S0 c, (ix_up (ix_up x10.2.2 136 5 ((x10.2.2 136 5) + (1 : Int32))) 136 0 (((x10.2.2 136 0) + (3 : Int32)) + (x10.2.2 135 6)))))))))) := by
    rw [q_M_crosses_0, hlead]
    simp only [iv_tI]
    by_cases hb : nI L = τ1 136 3
    · rw [if_pos hb, q_M_lesser_0]
      have hag1 : ag = if (999 : Int32) < τ1 136 4 + 1 then 999 else τ1 136 4 + 1 := by
        rw [hag, b0, a0]; unfold iv_ag; rw [if_pos hb]
      by_cases h2 : τ1 136 4 + 1 ≤ 999
      · rw [if_pos h2]
        rw [if_neg (iv_nlt.mpr h2)] at hag1
        simp only [Option.bind_some, iv_tI, ← hag1, w2, t4]
      · rw [if_neg h2]
        rw [if_pos (iv_nle.mp h2)] at hag1
        simp only [Option.bind_some, iv_tI, ← hag1, w2, t4]
    · rw [if_neg hb]
      have hag1 : ag = 0 := by
        rw [hag, b0, a0]; unfold iv_ag; rw [if_neg hb]
      rw [hag1] at w2
      simp only [Option.bind_some, iv_tI, w2, t4, hag1]
  have hLin : iv_in (nI L) 5 := ⟨L, hL, rfl⟩
  have hrivn : ∀ (fn nn : Nat → Int32) (bk2 ag2 : Int32), iv_in bk2 5 → fn 0 = σ1 2 0 → fn 1 = bk2 → fn 2 = ag2 → fn 3 = σ1 2 3 → fn 4 = nI (mk + 3 + mi) → fn 5 = σ1 2 5 + 1 → fn 6 = σ1 2 6 → fn 7 = σ1 2 7 → nn 0 = nI (mk + 3 + mi) → nn 1 = τ1 136 1 → nn 3 = bk2 → nn 4 = ag2 → nn 5 = σ1 2 5 + 1 → (∀ i, 6 ≤ i → nn i = τ1 136 i) → iv_riv fn (σ1 3) (σ1 4) (σ1 5) (σ1 6) (σ1 7) (σ1 8) nn (τ1 135 6) (τ1 139) (τ1 140) (τ1 141) (M + 12) n o :=
    fun fn nn bk2 ag2 hb p0 p1 p2 p3 p4 p5 p6 p7 q0 q1 q3 q4 q5 qr => iv_riv_new hR1.1 hb (by omega) p0 p1 p2 p3 p4 p5 p6 p7 q0 q1 q3 q4 q5 qr
  rcases f_turns false c (show L < 6 by omega) ag hsea2 with ⟨d1, d2⟩ | ⟨d1, d2, k, hk, d3, d4, d5⟩
  · -- no season is over
    refine ⟨nI L, σ2, ix_up (ix_up τ2 136 5 (τ2 136 5 + 1)) 136 0 (nI (mk + 3 + mi)), ?_, ?_, ?_, Xn, Mn.tr ⟨fun z z1 z2 z3 z4 z5 z6 => (iv_upn z2).trans (iv_upn z2), fun i hi => rfl⟩⟩
    · rw [hX, d1]
      simp only [Option.bind_some, iv_tI, if_true, u1]
    · rw [hMd, d2]
      simp only [Option.bind_some, iv_tI, if_true, t3, tmi]
    · refine iv_wor_F hw Xn (Mn.tr ⟨fun z z1 z2 z3 z4 z5 z6 => (iv_upn z2).trans (iv_upn z2), fun i hi => rfl⟩) ⟨?_, ?_⟩ ?_
      · show iv_riv (σ2 2) (σ2 3) (σ2 4) (σ2 5) (σ2 6) (σ2 7) (σ2 8) (upd (upd (τ2 136) 5 (τ2 136 5 + 1)) 0 (nI (mk + 3 + mi))) (τ2 135 6) (τ2 139) (τ2 140) (τ2 141) (M + 12) n o
        rw [g3 3 (by omega) (by omega) (by omega), g3 4 (by omega) (by omega) (by omega), g3 5 (by omega) (by omega) (by omega), g3 6 (by omega) (by omega) (by omega), g3 7 (by omega) (by omega) (by omega), g3 8 (by omega) (by omega) (by omega), g4 135 (by omega) (by omega), g4 139 (by omega) (by omega), g4 140 (by omega) (by omega), g4 141 (by omega) (by omega), g2]
        refine hrivn _ _ (nI L) ag hLin rfl rfl rfl rfl rfl rfl rfl rfl rfl t1 t3 t4 ?_ (fun i hi => ?_)
        · show τ2 136 5 + 1 = _
          rw [t5, cr0]
        · rw [pk_un (by omega), pk_un (by omega), g5 i (by omega), pk_un (by omega), pk_un (by omega)]
      · show τ2 135 7 = nI n
        rw [g4 135 (by omega) (by omega)]; exact hR1.2
      · obtain ⟨⟨kk, hkk, b1, b2⟩, b3⟩ := w3
        exact ⟨⟨kk, hkk, b1, b2⟩, b3⟩
  · -- the season is over
    have v2 : nI (3 * k) + 2 = nI (3 * k + 2) := nI_add (3 * k) 2
    have i2 : ¬ (nI (3 * k + 2) < 0 ∨ 96 ≤ 3 * k + 2) := iv_ni (by omega) (by omega)
    have l2 : (nI (3 * k + 2)).toNatClampNeg = 3 * k + 2 := nI_clamp (by omega)
    have hbk4 : iv_bk (ix_up (ix_up σ2 2 1 (σ2 24 L)) 2 2 0) (ix_up (ix_up τ2 136 3 (σ2 24 L)) 136 4 0) := w3
    have h52 : (ix_up (ix_up τ2 136 3 (σ2 24 L)) 136 4 0) 135 5 = 0 := by
      show τ2 135 5 = 0
      rw [g4 135 (by omega) (by omega)]; exact h51
    have hx5 : (ix_up (ix_up τ2 136 3 (σ2 24 L)) 136 4 0) 136 5 = σ1 2 5 := by
      show τ2 136 5 = _
      rw [t5, cr0]
    obtain ⟨σ3, τ3, y1, y2, y3, y4, y5, y6⟩ := f_note false c hbk4 h52 (σ1 2 5) 3 (-1) (σ2 24 L) hx5
    have p2 : σ3 2 = upd (upd (σ2 2) 1 (σ2 24 L)) 2 0 := y4 2 (by omega) (by omega)
    have p3 : ∀ z, z ≠ 2 → z ≠ 9 → z ≠ 10 → σ3 z = σ2 z := fun z z1 z2 z3 => (y4 z z2 z3).trans ((iv_upn z1).trans (iv_upn z1))
    have p4 : ∀ z, z ≠ 136 → z ≠ 142 → τ3 z = τ2 z := fun z z1 z2 => (y5 z z1 z2).trans ((iv_upn z1).trans (iv_upn z1))
    have p5 : ∀ i, i ≠ 2 → τ3 136 i = upd (upd (τ2 136) 3 (σ2 24 L)) 4 0 i := y6
    have o0 : τ3 136 0 = nI mk := (p5 0 (by omega)).trans t0
    have o1 : τ3 136 1 = τ1 136 1 := (p5 1 (by omega)).trans t1
    have o3 : τ3 136 3 = σ2 24 L := (p5 3 (by omega)).trans rfl
    have o4 : τ3 136 4 = 0 := (p5 4 (by omega)).trans rfl
    have o5 : τ3 136 5 = τ1 136 5 := (p5 5 (by omega)).trans t5
    have omi : τ3 136 0 + 3 + τ3 135 6 = nI (mk + 3 + mi) := by rw [o0, p4 135 (by omega) (by omega), tst, show (3 : Int32) = nI 3 from rfl, nI_add, nI_add]
    have X2 : iv_vXF σ σ3 := Xn.tr (fun z z1 z2 z3 z4 z5 => p3 z (by omega) (by omega) (by omega))
    have M2 : iv_vMF τ (ix_up (ix_up τ3 136 5 (τ3 136 5 + 1)) 136 0 (nI (mk + 3 + mi))) := Mn.tr ⟨fun z z1 z2 z3 z4 z5 z6 => (iv_upn z2).trans ((iv_upn z2).trans (p4 z z2 z6)), fun i hi => by show τ3 135 i = _; rw [p4 135 (by omega) (by omega)]⟩
    refine ⟨σ2 24 L, σ3, ix_up (ix_up τ3 136 5 (τ3 136 5 + 1)) 136 0 (nI (mk + 3 + mi)), ?_, ?_, ?_, X2, M2⟩
    · rw [hX, d1]
      simp only [Option.bind_some, iv_tI, iv_10, if_false, u1, k1, k3, y1]
      rw [p2]
      rfl
    · rw [hMd, d2]
      simp only [Option.bind_some, iv_tI, iv_10, if_false, d3, v2, i2, l2, d4, y2, o3, omi]
    · refine iv_wor_F hw X2 M2 ⟨?_, ?_⟩ ?_
      · show iv_riv (σ3 2) (σ3 3) (σ3 4) (σ3 5) (σ3 6) (σ3 7) (σ3 8) (upd (upd (τ3 136) 5 (τ3 136 5 + 1)) 0 (nI (mk + 3 + mi))) (τ3 135 6) (τ3 139) (τ3 140) (τ3 141) (M + 12) n o
        rw [p3 3 (by omega) (by omega) (by omega), p3 4 (by omega) (by omega) (by omega), p3 5 (by omega) (by omega) (by omega), p3 6 (by omega) (by omega) (by omega), p3 7 (by omega) (by omega) (by omega), p3 8 (by omega) (by omega) (by omega), p4 135 (by omega) (by omega), p4 139 (by omega) (by omega), p4 140 (by omega) (by omega), p4 141 (by omega) (by omega), p2, g3 3 (by omega) (by omega) (by omega), g3 4 (by omega) (by omega) (by omega), g3 5 (by omega) (by omega) (by omega), g3 6 (by omega) (by omega) (by omega), g3 7 (by omega) (by omega) (by omega), g3 8 (by omega) (by omega) (by omega), g4 135 (by omega) (by omega), g4 139 (by omega) (by omega), g4 140 (by omega) (by omega), g4 141 (by omega) (by omega), g2]
        refine hrivn _ _ (σ2 24 L) 0 d5 rfl rfl rfl rfl rfl rfl rfl rfl rfl o1 o3 o4 ?_ (fun i hi => ?_)
        · show τ3 136 5 + 1 = _
          rw [o5, cr0]
        · rw [pk_un (by omega), pk_un (by omega), p5 i (by omega), pk_un (by omega), pk_un (by omega), g5 i (by omega), pk_un (by omega), pk_un (by omega)]
      · show τ3 135 7 = nI n
        rw [p4 135 (by omega) (by omega), g4 135 (by omega) (by omega)]; exact hR1.2
      · obtain ⟨⟨kk, hkk, b1, b2⟩, b3⟩ := y3
        exact ⟨⟨kk, hkk, b1, b2⟩, b3⟩
/-- what is kept ahead of an act, then the act -/
theorem iv_past_F {σ σ' τ τ' : ix_St} {M N n : Nat} (h : iv_past σ τ M n) (hMN : M ≤ N) (hX : iv_vXF σ σ') (hM : iv_vMF τ τ') : iv_past σ' τ' N n :=
  iv_past_up hMN (iv_past_cong (fun c h1 h2 => hX c (by omega) (by omega) (by omega) (by omega) (by omega)) (hM.2 3 (by omega)) (hM.2 6 (by omega)) (hM.1 137 (by omega) (by omega) (by omega) (by omega) (by omega) (by omega)) (hM.1 139 (by omega) (by omega) (by omega) (by omega) (by omega) (by omega)) (hM.1 140 (by omega) (by omega) (by omega) (by omega) (by omega) (by omega)) (hM.1 141 (by omega) (by omega) (by omega) (by omega) (by omega) (by omega)) h)
theorem f_keep2 (b c : Bool) {σ τ : ix_St} {M n o : Nat} (hn : n ≤ 12) (hw : iv_wor σ (iv_mv τ) M n o) (hp : iv_past σ τ M n) : ∃ σ' τ', ix_F 84 [.ref 55, .ref 1] (ix_S0 b, σ) = some (.null, (ix_S0 b, σ')) ∧ ix_F 192 [.ref 135] (ix_S0 c, τ) = some (.null, (ix_S0 c, τ')) ∧ iv_wor σ' (iv_mv τ') M n o ∧ iv_past σ' τ' M n ∧ (∀ z, z < 55 ∨ 100 ≤ z → σ' z = σ z) ∧ (∀ z, z ≠ 135 → z ≠ 137 → τ' z = τ z) ∧ ∀ i, i ≠ 3 → τ' 135 i = τ 135 i := by
  obtain ⟨σ', τ', e1, e2, hp', f1, f2, f3⟩ := f_keep b c hn hw hp
  exact ⟨σ', τ', e1, e2, iv_wor_cg hw (fun z hz => f1 z (by omega)) (fun z hz => f2 z (by omega) (by omega)) (fun i hi => f3 i (by omega)), hp', f1, f2, f3⟩
theorem s_cross (E : ix_St) (v : Int32) : iv_S E 5 160 [.int v] := by
  intro k b c σ τ hk hE hR
  have hRt := iv_R_told (v := 0) hR
  have hK := iv_R_keep iv_kX.rf (iv_kM_told τ 0) hR
  obtain ⟨n, o, hn, hw, hpast, -, hoth, -⟩ := id hRt
  have hr := iv_rvF_of hw
  have c6 : σ 2 6 = nI n := hr.1.1.2.2.2.2.2.2.1
  have c7 : σ 2 7 = nI o := hr.1.1.2.2.2.2.2.2.2
  have ho : o < 2 ^ n := hr.1.2.2.1.1
  rw [q_X_cross_0, q_M_cross_0, f_canRow b hn c6 ho c7, f_canCross c hn hr.2 ho hr.1.2.2.1.2]
  simp only [Option.bind_some, iv_tI]
  by_cases hc : ¬ v = 0 ∧ v &&& (nI (iv_he n o) ^^^ (-1)) = 0
  · obtain ⟨s, hs1, rfl⟩ := iv_sub (Nat.lt_of_lt_of_le (iv_he_31 hn ho) (by decide)) hc.2
    have hs : s < 4096 := iv_sub_lt (n := 12) hs1 (iv_he_31 hn ho)
    rw [iv_Bt hc, if_neg (by decide), if_neg (by decide)]
    obtain ⟨σ1, τ1, e1, e2, hw1, hp1, f1, f2, f3⟩ := f_keep2 b c hn hw hpast
    rw [e1, e2]
    simp only [Option.bind_some]
    obtain ⟨r, σ2, τ2, e3, e4, hw2, x2, m2⟩ := f_sail b c hn hs (by omega) hw1 (by rw [f3 5 (by omega)]; exact hoth.2.1)
    rw [e3, e4]
    refine ⟨r, false, σ2, τ2, by rw [Option.bind_some]; exact q_X_cross_35 false r σ2, rfl, ?_⟩
    refine iv_R_mk (n := n) (o := o) (n' := n) (o' := o) hRt hn (iv_wor_up (by omega) hw2) (iv_past_F hp1 (by omega) x2 m2) (fun z hz => (x2 z (by omega) (by omega) (by omega) (by omega) (by omega)).trans (f1 z (by omega))) (fun z hz => (m2.1 z (by omega) (by omega) (by omega) (by omega) (by omega) (by omega)).trans (f2 z (by omega) (by omega))) (fun i hi => (m2.2 i (by omega)).trans (f3 i (by omega)))
  · rw [iv_Bf hc, if_pos rfl, if_pos rfl]
    exact ⟨_, b, _, _, rfl, rfl, hK⟩
