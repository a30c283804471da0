/-! talk and abstention in a crossing -/
theorem f_fill132 (b : Bool) (σ : ix_St) (x : Int32) : ∃ σ', ix_F 284 [.ref 132, .int x] (ix_S0 b, σ) = some (.null, (ix_S0 b, σ')) ∧ (∀ z, z ≠ 132 → σ' z = σ z) ∧ ∀ i, σ' 132 i = if i < 6 then x else σ 132 i := by
  have key : ∀ d j σ, j + d = 6 → ∃ σ', ix_S 284 1 5 [some (.ref 132), some (.int x), some (.int (nI j)), some (.int (nI 6))] [] (ix_S0 b, σ) = some (.null, (ix_S0 b, σ')) ∧ (∀ z, z ≠ 132 → σ' z = σ z) ∧ ∀ i, σ' 132 i = if j ≤ i ∧ i < 6 then x else σ 132 i := by
    intro d
    induction d with
    | zero =>
      intro j σ hj
      refine ⟨σ, by rw [q_Arrays_fill_5, if_pos (nI_le (by omega) (by omega))], fun _ _ => rfl, fun i => by rw [if_neg (by omega)]⟩
    | succ d ih =>
      intro j σ hj
      obtain ⟨σ', e, f, g⟩ := ih (j + 1) (ix_up σ 132 j x) (by omega)
      refine ⟨σ', ?_, fun z hz => (f z hz).trans (iv_upn hz), fun i => ?_⟩
      · rw [q_Arrays_fill_5, if_neg (nI_ge (by omega) (by omega)), if_neg (nI_in (by omega) (by omega)), nI_clamp (by omega), nI_1]
        exact e
      · rw [g i]
        show (if _ then x else upd (σ 132) j x i) = _
        by_cases h1 : j + 1 ≤ i ∧ i < 6
        · rw [if_pos h1, if_pos (by omega)]
        · rw [if_neg h1]
          by_cases h2 : i = j
          · subst h2; rw [pk_us, if_pos (by omega)]
          · rw [pk_un h2, if_neg (by omega)]
  obtain ⟨σ', e, f, g⟩ := key 6 0 σ (by omega)
  refine ⟨σ', by rw [q_Arrays_fill_0]; exact e, f, fun i => ?_⟩
  rw [g i]
  by_cases h : i < 6
  · rw [if_pos ⟨by omega, h⟩, if_pos h]
  · rw [if_neg (fun e => h e.2), if_neg h]
theorem f_fill115 (b : Bool) (σ : ix_St) (x : Int32) : ∃ σ', ix_F 284 [.ref 115, .int x] (ix_S0 b, σ) = some (.null, (ix_S0 b, σ')) ∧ (∀ z, z ≠ 115 → σ' z = σ z) ∧ ∀ i, σ' 115 i = if i < 12 then x else σ 115 i := by
  have key : ∀ d j σ, j + d = 12 → ∃ σ', ix_S 284 1 5 [some (.ref 115), some (.int x), some (.int (nI j)), some (.int (nI 12))] [] (ix_S0 b, σ) = some (.null, (ix_S0 b, σ')) ∧ (∀ z, z ≠ 115 → σ' z = σ z) ∧ ∀ i, σ' 115 i = if j ≤ i ∧ i < 12 then x else σ 115 i := by
    intro d
    induction d with
    | zero =>
      intro j σ hj
      refine ⟨σ, by rw [q_Arrays_fill_5_1, if_pos (nI_le (by omega) (by omega))], fun _ _ => rfl, fun i => by rw [if_neg (by omega)]⟩
    | succ d ih =>
      intro j σ hj
      obtain ⟨σ', e, f, g⟩ := ih (j + 1) (ix_up σ 115 j x) (by omega)
      refine ⟨σ', ?_, fun z hz => (f z hz).trans (iv_upn hz), fun i => ?_⟩
      · rw [q_Arrays_fill_5_1, if_neg (nI_ge (by omega) (by omega)), if_neg (nI_in (by omega) (by omega)), nI_clamp (by omega), nI_1]
        exact e
      · rw [g i]
        show (if _ then x else upd (σ 115) j x i) = _
        by_cases h1 : j + 1 ≤ i ∧ i < 12
        · rw [if_pos h1, if_pos (by omega)]
        · rw [if_neg h1]
          by_cases h2 : i = j
          · subst h2; rw [pk_us, if_pos (by omega)]
          · rw [pk_un h2, if_neg (by omega)]
  obtain ⟨σ', e, f, g⟩ := key 12 0 σ (by omega)
  refine ⟨σ', by rw [q_Arrays_fill_0_1]; exact e, f, fun i => ?_⟩
  rw [g i]
  by_cases h : i < 12
  · rw [if_pos ⟨by omega, h⟩, if_pos h]
  · rw [if_neg (fun e => h e.2), if_neg h]
theorem f_fill118 (b : Bool) (σ : ix_St) (x : Int32) : ∃ σ', ix_F 284 [.ref 118, .int x] (ix_S0 b, σ) = some (.null, (ix_S0 b, σ')) ∧ (∀ z, z ≠ 118 → σ' z = σ z) ∧ ∀ i, σ' 118 i = if i < 6 then x else σ 118 i := by
  have key : ∀ d j σ, j + d = 6 → ∃ σ', ix_S 284 1 5 [some (.ref 118), some (.int x), some (.int (nI j)), some (.int (nI 6))] [] (ix_S0 b, σ) = some (.null, (ix_S0 b, σ')) ∧ (∀ z, z ≠ 118 → σ' z = σ z) ∧ ∀ i, σ' 118 i = if j ≤ i ∧ i < 6 then x else σ 118 i := by
    intro d
    induction d with
    | zero =>
      intro j σ hj
      refine ⟨σ, by rw [q_Arrays_fill_5_2, if_pos (nI_le (by omega) (by omega))], fun _ _ => rfl, fun i => by rw [if_neg (by omega)]⟩
    | succ d ih =>
      intro j σ hj
      obtain ⟨σ', e, f, g⟩ := ih (j + 1) (ix_up σ 118 j x) (by omega)
      refine ⟨σ', ?_, fun z hz => (f z hz).trans (iv_upn hz), fun i => ?_⟩
      · rw [q_Arrays_fill_5_2, if_neg (nI_ge (by omega) (by omega)), if_neg (nI_in (by omega) (by omega)), nI_clamp (by omega), nI_1]
        exact e
      · rw [g i]
        show (if _ then x else upd (σ 118) j x i) = _
        by_cases h1 : j + 1 ≤ i ∧ i < 6
        · rw [if_pos h1, if_pos (by omega)]
        · rw [if_neg h1]
          by_cases h2 : i = j
          · subst h2; rw [pk_us, if_pos (by omega)]
          · rw [pk_un h2, if_neg (by omega)]
  obtain ⟨σ', e, f, g⟩ := key 6 0 σ (by omega)
  refine ⟨σ', by rw [q_Arrays_fill_0_2]; exact e, f, fun i => ?_⟩
  rw [g i]
  by_cases h : i < 6
  · rw [if_pos ⟨by omega, h⟩, if_pos h]
  · rw [if_neg (fun e => h e.2), if_neg h]
theorem f_fill134 (b : Bool) (σ : ix_St) (x : Int32) : ∃ σ', ix_F 284 [.ref 134, .int x] (ix_S0 b, σ) = some (.null, (ix_S0 b, σ')) ∧ (∀ z, z ≠ 134 → σ' z = σ z) ∧ ∀ i, σ' 134 i = if i < 36 then x else σ 134 i := by
  have key : ∀ d j σ, j + d = 36 → ∃ σ', ix_S 284 1 5 [some (.ref 134), some (.int x), some (.int (nI j)), some (.int (nI 36))] [] (ix_S0 b, σ) = some (.null, (ix_S0 b, σ')) ∧ (∀ z, z ≠ 134 → σ' z = σ z) ∧ ∀ i, σ' 134 i = if j ≤ i ∧ i < 36 then x else σ 134 i := by
    intro d
    induction d with
    | zero =>
      intro j σ hj
      refine ⟨σ, by rw [q_Arrays_fill_5_3, if_pos (nI_le (by omega) (by omega))], fun _ _ => rfl, fun i => by rw [if_neg (by omega)]⟩
    | succ d ih =>
      intro j σ hj
      obtain ⟨σ', e, f, g⟩ := ih (j + 1) (ix_up σ 134 j x) (by omega)
      refine ⟨σ', ?_, fun z hz => (f z hz).trans (iv_upn hz), fun i => ?_⟩
      · rw [q_Arrays_fill_5_3, if_neg (nI_ge (by omega) (by omega)), if_neg (nI_in (by omega) (by omega)), nI_clamp (by omega), nI_1]
        exact e
      · rw [g i]
        show (if _ then x else upd (σ 134) j x i) = _
        by_cases h1 : j + 1 ≤ i ∧ i < 36
        · rw [if_pos h1, if_pos (by omega)]
        · rw [if_neg h1]
          by_cases h2 : i = j
          · subst h2; rw [pk_us, if_pos (by omega)]
          · rw [pk_un h2, if_neg (by omega)]
  obtain ⟨σ', e, f, g⟩ := key 36 0 σ (by omega)
  refine ⟨σ', by rw [q_Arrays_fill_0_3]; exact e, f, fun i => ?_⟩
  rw [g i]
  by_cases h : i < 36
  · rw [if_pos ⟨by omega, h⟩, if_pos h]
  · rw [if_neg (fun e => h e.2), if_neg h]
theorem f_fill122 (b : Bool) (σ : ix_St) (x : Int32) : ∃ σ', ix_F 284 [.ref 122, .int x] (ix_S0 b, σ) = some (.null, (ix_S0 b, σ')) ∧ (∀ z, z ≠ 122 → σ' z = σ z) ∧ ∀ i, σ' 122 i = if i < 6 then x else σ 122 i := by
  have key : ∀ d j σ, j + d = 6 → ∃ σ', ix_S 284 1 5 [some (.ref 122), some (.int x), some (.int (nI j)), some (.int (nI 6))] [] (ix_S0 b, σ) = some (.null, (ix_S0 b, σ')) ∧ (∀ z, z ≠ 122 → σ' z = σ z) ∧ ∀ i, σ' 122 i = if j ≤ i ∧ i < 6 then x else σ 122 i := by
    intro d
    induction d with
    | zero =>
      intro j σ hj
      refine ⟨σ, by rw [q_Arrays_fill_5_4, if_pos (nI_le (by omega) (by omega))], fun _ _ => rfl, fun i => by rw [if_neg (by omega)]⟩
    | succ d ih =>
      intro j σ hj
      obtain ⟨σ', e, f, g⟩ := ih (j + 1) (ix_up σ 122 j x) (by omega)
      refine ⟨σ', ?_, fun z hz => (f z hz).trans (iv_upn hz), fun i => ?_⟩
      · rw [q_Arrays_fill_5_4, if_neg (nI_ge (by omega) (by omega)), if_neg (nI_in (by omega) (by omega)), nI_clamp (by omega), nI_1]
        exact e
      · rw [g i]
        show (if _ then x else upd (σ 122) j x i) = _
        by_cases h1 : j + 1 ≤ i ∧ i < 6
        · rw [if_pos h1, if_pos (by omega)]
        · rw [if_neg h1]
          by_cases h2 : i = j
          · subst h2; rw [pk_us, if_pos (by omega)]
          · rw [pk_un h2, if_neg (by omega)]
  obtain ⟨σ', e, f, g⟩ := key 6 0 σ (by omega)
  refine ⟨σ', by rw [q_Arrays_fill_0_4]; exact e, f, fun i => ?_⟩
  rw [g i]
  by_cases h : i < 6
  · rw [if_pos ⟨by omega, h⟩, if_pos h]
  · rw [if_neg (fun e => h e.2), if_neg h]
theorem iv_riv_n2 {f ra ch ta fi wa tu now now' : Nat → Int32} {st : Int32} {mc mt mf : Nat → Int32} {M n o : Nat} (h : iv_riv f ra ch ta fi wa tu now st mc mt mf M n o) (hn : ∀ i, i ≠ 2 → now' i = now i) : iv_riv f ra ch ta fi wa tu now' st mc mt mf M n o := by
  obtain ⟨⟨a0, a1, a2, a3, a4, a5, a6, a7⟩, h2, ⟨h4, h5⟩, h6, h7⟩ := h
  refine ⟨⟨?_, ?_, ?_, a3, ?_, ?_, a6, a7⟩, h2, ⟨h4, fun i hi => ?_⟩, fun i hi => ?_, h7⟩
  · rw [hn 1 (by omega)]; exact a0
  · rw [hn 3 (by omega)]; exact a1
  · rw [hn 4 (by omega)]; exact a2
  · rw [hn 0 (by omega)]; exact a4
  · rw [hn 5 (by omega)]; exact a5
  · rw [hn _ (by omega)]; exact h5 i hi
  · rw [hn _ (by omega), hn _ (by omega), hn _ (by omega)]; exact h6 i hi
def iv_VF (σ τ : ix_St) (M n o s : Nat) : Prop := iv_rvF σ τ M n o ∧ iv_lw σ τ ∧ (∀ i, i < 12 → σ 20 i = τ 153 i) ∧ σ 121 7 = nI s ∧ σ 121 6 = 0 ∧ τ 135 5 = 0 ∧ σ 121 1 = τ 135 43 ∧ iv_bk σ τ
def iv_vXF (σ σ' : ix_St) : Prop := ∀ z, z < 2 ∨ 10 < z → z ≠ 18 → z ≠ 19 → z ≠ 121 → z ≠ 122 → σ' z = σ z
def iv_vMF (τ τ' : ix_St) : Prop := (∀ z, z ≠ 135 → z ≠ 136 → z ≠ 156 → z ≠ 157 → z ≠ 158 → z ≠ 142 → τ' z = τ z) ∧ ∀ i, i ≠ 43 → τ' 135 i = τ 135 i
theorem iv_vXF.rf {σ : ix_St} : iv_vXF σ σ := fun _ _ _ _ _ _ => rfl
theorem iv_vXF.tr {a b c : ix_St} (h : iv_vXF a b) (h2 : iv_vXF b c) : iv_vXF a c := fun z z1 z2 z3 z4 z5 => (h2 z z1 z2 z3 z4 z5).trans (h z z1 z2 z3 z4 z5)
theorem iv_vMF.rf {τ : ix_St} : iv_vMF τ τ := ⟨fun _ _ _ _ _ _ _ => rfl, fun _ _ => rfl⟩
theorem iv_vMF.tr {a b c : ix_St} (h : iv_vMF a b) (h2 : iv_vMF b c) : iv_vMF a c := ⟨fun z z1 z2 z3 z4 z5 z6 => (h2.1 z z1 z2 z3 z4 z5 z6).trans (h.1 z z1 z2 z3 z4 z5 z6), fun i hi => (h2.2 i hi).trans (h.2 i hi)⟩

def iv_VT (σ τ : ix_St) (M n o s : Nat) : Prop := iv_rvT σ τ M n o ∧ iv_lw σ τ ∧ (∀ i, i < 12 → σ 20 i = τ 153 i) ∧ σ 121 7 = nI s ∧ σ 121 6 = 1 ∧ τ 135 5 = 1 ∧ σ 121 1 = τ 135 43 ∧ True
def iv_vXT (σ σ' : ix_St) : Prop := ∀ z, z < 123 ∨ 129 < z → z ≠ 18 → z ≠ 19 → z ≠ 121 → z ≠ 122 → σ' z = σ z
def iv_vMT (τ τ' : ix_St) : Prop := (∀ z, z ≠ 135 → z ≠ 136 → z ≠ 156 → z ≠ 157 → z ≠ 158 → τ' z = τ z) ∧ ∀ i, i ≠ 43 → τ' 135 i = τ 135 i
theorem iv_vXT.rf {σ : ix_St} : iv_vXT σ σ := fun _ _ _ _ _ _ => rfl
theorem iv_vXT.tr {a b c : ix_St} (h : iv_vXT a b) (h2 : iv_vXT b c) : iv_vXT a c := fun z z1 z2 z3 z4 z5 => (h2 z z1 z2 z3 z4 z5).trans (h z z1 z2 z3 z4 z5)
theorem iv_vMT.rf {τ : ix_St} : iv_vMT τ τ := ⟨fun _ _ _ _ _ _  => rfl, fun _ _ => rfl⟩
theorem iv_vMT.tr {a b c : ix_St} (h : iv_vMT a b) (h2 : iv_vMT b c) : iv_vMT a c := ⟨fun z z1 z2 z3 z4 z5  => (h2.1 z z1 z2 z3 z4 z5 ).trans (h.1 z z1 z2 z3 z4 z5 ), fun i hi => (h2.2 i hi).trans (h.2 i hi)⟩

theorem f_listen_F (c : Bool) {σ τ : ix_St} {M n o s : Nat} (hn : n ≤ 12) (hV : iv_VF σ τ M n o s) {p : Nat} (hp : p < n) (hs : s < 4096) (m : Int32) : ∃ σ' τ', ix_F 50 [.ref 121, .int (nI p), .int m] (ix_S0 false, σ) = some (.null, (ix_S0 false, σ')) ∧ ix_F 241 [.ref 135, .int (nI p), .int m, .int (nI s)] (ix_S0 c, τ) = some (.null, (ix_S0 c, τ')) ∧ iv_VF σ' τ' M n o s ∧ iv_vXF σ σ' ∧ iv_vMF τ τ' := by
  obtain ⟨hR, hlw, hear, h7, h6, h5, h43, hbk⟩ := id hV
  have k1 : ¬ (nI p < 0 ∨ 12 ≤ p) := iv_ni (by omega) (by omega)
  have k3 : (nI p).toNatClampNeg = p := nI_clamp (by omega)
  obtain ⟨r, hr, t1, t2⟩ := f_talker_F false c hn hR hp (nI s) n 0 none (by omega) (fun y h => by cases h)
  have hT : ix_F 129 [.ref 2, .int (nI p), .int (τ 153 p &&& nI s)] (ix_S0 false, σ) = some (.int (iv_oi r), (ix_S0 false, σ)) := by
    rw [q_River_talkerTo_0]
    simp only [k1, k3, if_false, q_X_firstOf_0, Option.bind_some, iv_tI]
    exact t1
  have hT2 : ix_F 266 [.ref 135, .int (nI p), .int (nI s)] (ix_S0 c, τ) = some (.int (iv_oi r), (ix_S0 c, τ)) := by
    rw [q_M_talkerTo_0]; exact t2
  cases r with
  | none =>
    refine ⟨σ, τ, ?_, ?_, hV, iv_vXF.rf, iv_vMF.rf⟩
    · rw [q_Crossing_listen_0_F]
      simp only [k1, k3, if_false, hear p (by omega), h7, hT, iv_oi, if_true, Option.bind_some, iv_tI]
    · rw [q_M_isTalkedTo_0]
      simp only [hT2, iv_oi, if_true, Option.bind_some, iv_tI]
  | some y =>
    obtain ⟨hy, hyp⟩ := hr y rfl
    have hne : y ≠ p := fun e => hyp (by rw [e])
    have y0 : ¬ nI y = -1 := iv_m1 (by omega)
    have y1 : ¬ (nI y < 0 ∨ 12 ≤ y) := iv_ni (by omega) (by omega)
    have y2 : (nI y).toNatClampNeg = y := nI_clamp (by omega)
    have m6 : (6 : Int32) + nI p = nI (6 + p) := nI_add 6 p
    have m42 : (42 : Int32) + nI p = nI (42 + p) := nI_add 42 p
    have i6 : ¬ (nI (6 + p) < 0 ∨ 54 ≤ 6 + p) := iv_ni (by omega) (by omega)
    have i42 : ¬ (nI (42 + p) < 0 ∨ 54 ≤ 42 + p) := iv_ni (by omega) (by omega)
    have l6 : (nI (6 + p)).toNatClampNeg = 6 + p := nI_clamp (by omega)
    have l42 : (nI (42 + p)).toNatClampNeg = 42 + p := nI_clamp (by omega)
    obtain ⟨v, σ1, τ1, hv, e1, e2, f1, f2⟩ := f_sway_F false c hn hR hlw hp hy hs m
    have hR1 : iv_rvF σ1 τ1 M n o := iv_rvF_cong (fun z h1 h2 => f1 z (by omega) (by omega)) (by rw [f2 135 (by omega) (by omega)]) (by rw [f2 135 (by omega) (by omega)]) (f2 136 (by omega) (by omega)) (f2 139 (by omega) (by omega)) (f2 140 (by omega) (by omega)) (f2 141 (by omega) (by omega)) hR
    have hlw1 : iv_lw σ1 τ1 := iv_lw_cong (fun z h1 h2 => f1 z (by omega) (by omega)) (fun z h1 h2 => f2 z (by omega) (by omega)) hlw
    have s121 : σ1 121 = σ 121 := f1 121 (by omega) (by omega)
    have s135 : τ1 135 = τ 135 := f2 135 (by omega) (by omega)
    have hear1 : ∀ i, i < 12 → σ1 20 i = τ1 153 i := by rw [f1 20 (by omega) (by omega), f2 153 (by omega) (by omega)]; exact hear
    have hyr : σ1 3 y ∈ ix_rnk := hR1.1.2.2.2.2 y hy
    have hpr : σ1 3 p ∈ ix_rnk := hR1.1.2.2.2.2 p hp
    have ry : σ1 3 y = τ1 136 (6 + y) := (hR1.1.2.2.2.1 y (by omega)).1
    have rp : σ1 3 p = τ1 136 (6 + p) := (hR1.1.2.2.2.1 p (by omega)).1
    have tp : σ1 8 p = τ1 136 (42 + p) := (hR1.1.2.2.2.1 p (by omega)).2.2.2.2.2
    obtain ⟨ld, hld1, hld5, hld⟩ : ∃ l : Nat, 1 ≤ l ∧ l ≤ 5 ∧ σ1 3 y / 10000 = nI l := ⟨iv_d (σ1 3 y) 0, (iv_d_la _ hyr 0 (by omega)).2.1, (iv_d_la _ hyr 0 (by omega)).2.2, (iv_d_dg _ hyr).2.1⟩
    have hla : iv_la (τ1 136 (6 + y)) 0 = nI ld := by
      rw [← ry, (iv_d_la _ hyr 0 (by omega)).1, ← (iv_d_dg _ hyr).2.1, hld]
    obtain ⟨hraise, hnr⟩ := iv_raise_ok (σ1 3 p) hpr ld (by omega) hld1
    generalize hnrd : iv_mr (σ1 3 p) (nI ld) (nI ld) [0, 1, 2, 3, 4] = nr at hraise hnr
    have s0 : σ1 2 0 = τ1 136 1 := hR1.1.1.1
    have cm : (1664525 : Int32) * τ1 136 1 = τ1 136 1 * 1664525 := Int32.mul_comm _ _
    obtain ⟨w, hw⟩ : ∃ w, w = τ1 136 1 * 1664525 + 1013904223 := ⟨_, rfl⟩
    obtain ⟨d, hd⟩ : ∃ d, d = (Int32.toUInt32 w >>> (Int32.toUInt32 (8 : Int32) &&& Int32.toUInt32 31)).toInt32 - (Int32.toUInt32 w >>> (Int32.toUInt32 (8 : Int32) &&& Int32.toUInt32 31)).toInt32 / 1000 * 1000 := ⟨_, rfl⟩
    have dX : ix_F 131 [.ref 2, .int 1000] (ix_S0 false, σ1) = some (.int d, (ix_S0 false, ix_up σ1 2 0 w)) := by
      rw [q_River_draw_0, if_neg (by decide), if_neg (by decide), s0, ← hw, ← hd]
    have dM : ix_F 267 [.ref 135, .int 1000] (ix_S0 c, τ1) = some (.int d, (ix_S0 c, ix_up τ1 136 1 w)) := by
      rw [q_M_draw_0, if_neg (by decide), cm, ← hw, ← hd]
    have h60 : σ1 121 6 = 0 := by rw [s121]; exact h6
    have h50 : τ1 135 5 = 0 := by rw [s135]; exact h5
    have hR2 : iv_rvF (ix_up σ1 2 0 w) (ix_up τ1 136 1 w) M n o := ⟨iv_rivs w hR1.1, hR1.2⟩
    have hbk1 : iv_bk (ix_up σ1 2 0 w) (ix_up τ1 136 1 w) := by
      obtain ⟨⟨k, hk, b1, b2⟩, b3⟩ := hbk
      refine ⟨⟨k, hk, ?_, ?_⟩, ?_⟩
      · show σ1 9 1 = _; rw [f1 9 (by omega) (by omega)]; exact b1
      · show τ1 136 2 = _; rw [f2 136 (by omega) (by omega)]; exact b2
      · show ∀ j, j < 600 → σ1 10 j = τ1 142 j; rw [f1 10 (by omega) (by omega), f2 142 (by omega) (by omega)]; exact b3
    have vX1 : iv_vXF σ (ix_up σ1 2 0 w) := fun z z1 z2 z3 z4 z5 => (iv_upn (by omega)).trans (f1 z z2 z3)
    have vM1 : iv_vMF τ (ix_up τ1 136 1 w) := ⟨fun z z1 z2 z3 z4 z5 z6 => (iv_upn z2).trans (f2 z z3 z4), fun i hi => by show τ1 135 i = _; rw [s135]⟩
    by_cases hlt : nI v ≤ d
    · have hcT : ix_F 52 [.ref 121, .int (nI v)] (ix_S0 false, σ1) = some (.int 0, (ix_S0 false, ix_up σ1 2 0 w)) := by
        rw [q_Crossing_comesTrue_0_F, if_pos h60, dX]
        simp only [Option.bind_some, iv_tI, if_pos hlt]
      refine ⟨ix_up σ1 2 0 w, ix_up τ1 136 1 w, ?_, ?_, ⟨hR2, hlw1, hear1, ?_, ?_, ?_, ?_, hbk1⟩, vX1, vM1⟩
      · rw [q_Crossing_listen_0_F]
        simp only [k1, k3, if_false, hear p (by omega), h7, hT, iv_oi, y0, y1, y2, e1, hcT, if_true, Option.bind_some, iv_tI]
      · rw [q_M_isTalkedTo_0]
        have hlt' : ¬ d < nI v := iv_nlt.mpr hlt
        simp only [hT2, iv_oi, y0, if_false, e2, h50, dM, hlt', if_true, Option.bind_some, iv_tI]
      · show σ1 121 7 = _; rw [s121]; exact h7
      · exact h60
      · exact h50
      · show σ1 121 1 = τ1 135 43; rw [s121, s135]; exact h43
    · have hcT : ix_F 52 [.ref 121, .int (nI v)] (ix_S0 false, σ1) = some (.int 1, (ix_S0 false, ix_up σ1 2 0 w)) := by
        rw [q_Crossing_comesTrue_0_F, if_pos h60, dX]
        simp only [Option.bind_some, iv_tI, if_neg hlt]
      have n42 : (upd (upd (τ1 136) 1 w) (6 + p) nr) (42 + p) = τ1 136 (42 + p) := by rw [pk_un (by omega), pk_un (by omega)]
      have n6p : upd (τ1 136) 1 w (6 + p) = τ1 136 (6 + p) := pk_un (by omega)
      have hV3 : iv_riv (σ1 2 |> fun f => upd f 0 w) (upd (σ1 3) p nr) (σ1 4) (σ1 5) (σ1 6) (σ1 7) (upd (σ1 8) p (σ1 8 p + 1)) (upd (upd (upd (τ1 136) 1 w) (6 + p) nr) (42 + p) (σ1 8 p + 1)) (τ1 135 6) (τ1 139) (τ1 140) (τ1 141) M n o := iv_riv_tu (by omega) _ (iv_riv_rk (by omega) nr hnr hR2.1)
      -- the state ahead of the line in the book
      have hbk3 : iv_bk (ix_up (ix_up (ix_up (ix_up σ1 2 0 w) 3 p nr) 8 p (σ1 8 p + 1)) 121 1 (σ1 121 1 + 1)) (ix_up (ix_up (ix_up (ix_up τ1 136 1 w) 136 (6 + p) nr) 136 (42 + p) (σ1 8 p + 1)) 135 43 (τ1 135 43 + 1)) := by
        obtain ⟨⟨k, hk, b1, b2⟩, b3⟩ := hbk1
        refine ⟨⟨k, hk, b1, ?_⟩, b3⟩
        show upd (upd (upd (τ1 136) 1 w) (6 + p) nr) (42 + p) (σ1 8 p + 1) 2 = _
        rw [pk_un (by omega), pk_un (by omega)]; exact b2
      have hx5 : (ix_up (ix_up (ix_up (ix_up τ1 136 1 w) 136 (6 + p) nr) 136 (42 + p) (σ1 8 p + 1)) 135 43 (τ1 135 43 + 1)) 136 5 = σ1 2 5 := by
        show upd (upd (upd (τ1 136) 1 w) (6 + p) nr) (42 + p) (σ1 8 p + 1) 5 = _
        rw [pk_un (by omega), pk_un (by omega), pk_un (by omega)]; exact hR1.1.1.2.2.2.2.2.1.symm
      have n5 : (ix_up (ix_up (ix_up (ix_up τ1 136 1 w) 136 (6 + p) nr) 136 (42 + p) (σ1 8 p + 1)) 135 43 (τ1 135 43 + 1)) 135 5 = 0 := h50
      obtain ⟨σ4, τ4, w1, w2, w3, w4, w5, w6⟩ := f_note false c hbk3 n5 (σ1 2 5) 0 (nI p) (nI ld) hx5
      have rX : ix_F 40 [.int (σ1 3 p), .int (nI ld)] (ix_S0 false, ix_up σ1 2 0 w) = some (.int nr, (ix_S0 false, ix_up σ1 2 0 w)) := by rw [f_raisedX, hraise]
      have rM : ix_F 268 [.ref 135, .int (nI ld), .int (τ1 136 (6 + p))] (ix_S0 c, ix_up τ1 136 1 w) = some (.int nr, (ix_S0 c, ix_up τ1 136 1 w)) := by rw [f_rankWith, ← rp, hnrd]
      have fy1 : ix_F 243 [.ref 135, .int (nI y)] (ix_S0 c, ix_up τ1 136 1 w) = some (.int (nI ld), (ix_S0 c, ix_up τ1 136 1 w)) := by
        rw [f_firstOf c _ (by omega)]
        show some (Value.int (iv_la (upd (τ1 136) 1 w (6 + y)) 0), _) = _
        rw [pk_un (by omega), hla]
      have fy2 : ix_F 243 [.ref 135, .int (nI y)] (ix_S0 c, (ix_up (ix_up (ix_up (ix_up τ1 136 1 w) 136 (6 + p) nr) 136 (42 + p) (σ1 8 p + 1)) 135 43 (τ1 135 43 + 1))) = some (.int (nI ld), (ix_S0 c, (ix_up (ix_up (ix_up (ix_up τ1 136 1 w) 136 (6 + p) nr) 136 (42 + p) (σ1 8 p + 1)) 135 43 (τ1 135 43 + 1)))) := by
        rw [f_firstOf c _ (by omega)]
        show some (Value.int (iv_la (upd (upd (upd (τ1 136) 1 w) (6 + p) nr) (42 + p) (σ1 8 p + 1) (6 + y)) 0), _) = _
        rw [pk_un (by omega), pk_un (by omega), pk_un (by omega), hla]
      refine ⟨σ4, τ4, ?_, ?_, ⟨⟨?_, ?_⟩, ?_, ?_, ?_, ?_, ?_, ?_, w3⟩, ?_, ?_⟩
      · rw [q_Crossing_listen_0_F]
        simp only [k1, k3, if_false, hear p (by omega), h7, hT, iv_oi, y0, y1, y2, e1, hcT, iv_10, if_true, Option.bind_some, iv_tI, q_X_firstOf_0]
        rw [show (ix_up σ1 2 0 w) 3 = σ1 3 from rfl, hld, rX]
        simp only [Option.bind_some, iv_tI]
        rw [show (ix_up σ1 2 0 w) 8 = σ1 8 from rfl, show (ix_up σ1 2 0 w) 121 = σ1 121 from rfl, show (ix_up σ1 2 0 w) 2 5 = σ1 2 5 from rfl, if_pos h60, w1]
        rfl
      · rw [q_M_isTalkedTo_0]
        have hlt' : d < nI v := iv_nle.mp hlt
        simp only [hT2, iv_oi, y0, if_false, e2, h50, dM, hlt', if_true, Option.bind_some, iv_tI, fy1, m6, m42, i6, i42, l6, l42]
        rw [show (ix_up τ1 136 1 w) 136 = upd (τ1 136) 1 w from rfl, n6p, rM]
        simp only [Option.bind_some, iv_tI]
        rw [show (ix_up τ1 136 1 w) 136 = upd (τ1 136) 1 w from rfl, show (ix_up τ1 136 1 w) 135 = τ1 135 from rfl, n42, ← tp, fy2]
        simp only [Option.bind_some, iv_tI, w2]
      · have x2 : σ4 2 = upd (σ1 2) 0 w := w4 2 (by omega) (by omega)
        have x3 : σ4 3 = upd (σ1 3) p nr := w4 3 (by omega) (by omega)
        have x4 : σ4 4 = σ1 4 := w4 4 (by omega) (by omega)
        have x5 : σ4 5 = σ1 5 := w4 5 (by omega) (by omega)
        have x6 : σ4 6 = σ1 6 := w4 6 (by omega) (by omega)
        have x7 : σ4 7 = σ1 7 := w4 7 (by omega) (by omega)
        have x8 : σ4 8 = upd (σ1 8) p (σ1 8 p + 1) := w4 8 (by omega) (by omega)
        rw [x2, x3, x4, x5, x6, x7, x8, show τ4 135 = upd (τ1 135) 43 (τ1 135 43 + 1) from w5 135 (by omega) (by omega), show τ4 139 = τ1 139 from w5 139 (by omega) (by omega), show τ4 140 = τ1 140 from w5 140 (by omega) (by omega), show τ4 141 = τ1 141 from w5 141 (by omega) (by omega)]
        refine iv_riv_n2 hV3 (fun i hi => ?_)
        rw [w6 i hi]; rfl
      · rw [show τ4 135 = upd (τ1 135) 43 (τ1 135 43 + 1) from w5 135 (by omega) (by omega)]; exact hR1.2
      · exact iv_lw_cong (fun z h1 h2 => (w4 z (by omega) (by omega)).trans ((iv_upn (by omega)).trans ((iv_upn (by omega)).trans ((iv_upn (by omega)).trans (iv_upn (by omega)))))) (fun z h1 h2 => (w5 z (by omega) (by omega)).trans ((iv_upn (by omega)).trans ((iv_upn (by omega)).trans ((iv_upn (by omega)).trans (iv_upn (by omega)))))) hlw1
      · rw [show σ4 20 = σ1 20 from w4 20 (by omega) (by omega), show τ4 153 = τ1 153 from w5 153 (by omega) (by omega)]; exact hear1
      · rw [show σ4 121 = upd (σ1 121) 1 (σ1 121 1 + 1) from w4 121 (by omega) (by omega), s121]; exact h7
      · rw [show σ4 121 = upd (σ1 121) 1 (σ1 121 1 + 1) from w4 121 (by omega) (by omega), s121]; exact h6
      · rw [show τ4 135 = upd (τ1 135) 43 (τ1 135 43 + 1) from w5 135 (by omega) (by omega), s135]; exact h5
      · rw [show σ4 121 = upd (σ1 121) 1 (σ1 121 1 + 1) from w4 121 (by omega) (by omega), show τ4 135 = upd (τ1 135) 43 (τ1 135 43 + 1) from w5 135 (by omega) (by omega), s121, s135, pk_us, pk_us, h43]
      · exact fun z z1 z2 z3 z4 z5 => (w4 z (by omega) (by omega)).trans ((iv_upn z4).trans ((iv_upn (by omega)).trans ((iv_upn (by omega)).trans ((iv_upn (by omega)).trans (f1 z z2 z3)))))
      · refine ⟨fun z z1 z2 z3 z4 z5 z6 => (w5 z z2 z6).trans ((iv_upn z1).trans ((iv_upn z2).trans ((iv_upn z2).trans ((iv_upn z2).trans (f2 z z3 z4))))), fun i hi => ?_⟩
        rw [show τ4 135 = upd (τ1 135) 43 (τ1 135 43 + 1) from w5 135 (by omega) (by omega), pk_un hi, s135]

theorem f_listen_T (c : Bool) {σ τ : ix_St} {M n o s : Nat} (hn : n ≤ 12) (hV : iv_VT σ τ M n o s) {p : Nat} (hp : p < n) (hs : s < 4096) (m : Int32) : ∃ σ' τ', ix_F 50 [.ref 121, .int (nI p), .int m] (ix_S0 true, σ) = some (.null, (ix_S0 true, σ')) ∧ ix_F 241 [.ref 135, .int (nI p), .int m, .int (nI s)] (ix_S0 c, τ) = some (.null, (ix_S0 c, τ')) ∧ iv_VT σ' τ' M n o s ∧ iv_vXT σ σ' ∧ iv_vMT τ τ' := by
  obtain ⟨hR, hlw, hear, h7, h6, h5, h43, hbk⟩ := id hV
  have k1 : ¬ (nI p < 0 ∨ 12 ≤ p) := iv_ni (by omega) (by omega)
  have k3 : (nI p).toNatClampNeg = p := nI_clamp (by omega)
  obtain ⟨r, hr, t1, t2⟩ := f_talker_T true c hn hR hp (nI s) n 0 none (by omega) (fun y h => by cases h)
  have hT : ix_F 129 [.ref 123, .int (nI p), .int (τ 153 p &&& nI s)] (ix_S0 true, σ) = some (.int (iv_oi r), (ix_S0 true, σ)) := by
    rw [q_River_talkerTo_0_1]
    simp only [k1, k3, if_false, q_X_firstOf_0, Option.bind_some, iv_tI]
    exact t1
  have hT2 : ix_F 266 [.ref 135, .int (nI p), .int (nI s)] (ix_S0 c, τ) = some (.int (iv_oi r), (ix_S0 c, τ)) := by
    rw [q_M_talkerTo_0]; exact t2
  cases r with
  | none =>
    refine ⟨σ, τ, ?_, ?_, hV, iv_vXT.rf, iv_vMT.rf⟩
    · rw [q_Crossing_listen_0_T]
      simp only [k1, k3, if_false, hear p (by omega), h7, hT, iv_oi, if_true, Option.bind_some, iv_tI]
    · rw [q_M_isTalkedTo_0]
      simp only [hT2, iv_oi, if_true, Option.bind_some, iv_tI]
  | some y =>
    obtain ⟨hy, hyp⟩ := hr y rfl
    have hne : y ≠ p := fun e => hyp (by rw [e])
    have y0 : ¬ nI y = -1 := iv_m1 (by omega)
    have y1 : ¬ (nI y < 0 ∨ 12 ≤ y) := iv_ni (by omega) (by omega)
    have y2 : (nI y).toNatClampNeg = y := nI_clamp (by omega)
    have m6 : (6 : Int32) + nI p = nI (6 + p) := nI_add 6 p
    have m42 : (42 : Int32) + nI p = nI (42 + p) := nI_add 42 p
    have i6 : ¬ (nI (6 + p) < 0 ∨ 54 ≤ 6 + p) := iv_ni (by omega) (by omega)
    have i42 : ¬ (nI (42 + p) < 0 ∨ 54 ≤ 42 + p) := iv_ni (by omega) (by omega)
    have l6 : (nI (6 + p)).toNatClampNeg = 6 + p := nI_clamp (by omega)
    have l42 : (nI (42 + p)).toNatClampNeg = 42 + p := nI_clamp (by omega)
    obtain ⟨v, σ1, τ1, hv, e1, e2, f1, f2⟩ := f_sway_T true c hn hR hlw hp hy hs m
    have hR1 : iv_rvT σ1 τ1 M n o := iv_rvT_cong (fun z h1 h2 => f1 z (by omega) (by omega)) (by rw [f2 135 (by omega) (by omega)]) (by rw [f2 135 (by omega) (by omega)]) (f2 136 (by omega) (by omega)) (f2 139 (by omega) (by omega)) (f2 140 (by omega) (by omega)) (f2 141 (by omega) (by omega)) hR
    have hlw1 : iv_lw σ1 τ1 := iv_lw_cong (fun z h1 h2 => f1 z (by omega) (by omega)) (fun z h1 h2 => f2 z (by omega) (by omega)) hlw
    have s121 : σ1 121 = σ 121 := f1 121 (by omega) (by omega)
    have s135 : τ1 135 = τ 135 := f2 135 (by omega) (by omega)
    have hear1 : ∀ i, i < 12 → σ1 20 i = τ1 153 i := by rw [f1 20 (by omega) (by omega), f2 153 (by omega) (by omega)]; exact hear
    have hyr : σ1 124 y ∈ ix_rnk := hR1.1.2.2.2.2 y hy
    have hpr : σ1 124 p ∈ ix_rnk := hR1.1.2.2.2.2 p hp
    have ry : σ1 124 y = τ1 136 (6 + y) := (hR1.1.2.2.2.1 y (by omega)).1
    have rp : σ1 124 p = τ1 136 (6 + p) := (hR1.1.2.2.2.1 p (by omega)).1
    have tp : σ1 129 p = τ1 136 (42 + p) := (hR1.1.2.2.2.1 p (by omega)).2.2.2.2.2
    obtain ⟨ld, hld1, hld5, hld⟩ : ∃ l : Nat, 1 ≤ l ∧ l ≤ 5 ∧ σ1 124 y / 10000 = nI l := ⟨iv_d (σ1 124 y) 0, (iv_d_la _ hyr 0 (by omega)).2.1, (iv_d_la _ hyr 0 (by omega)).2.2, (iv_d_dg _ hyr).2.1⟩
    have hla : iv_la (τ1 136 (6 + y)) 0 = nI ld := by
      rw [← ry, (iv_d_la _ hyr 0 (by omega)).1, ← (iv_d_dg _ hyr).2.1, hld]
    obtain ⟨hraise, hnr⟩ := iv_raise_ok (σ1 124 p) hpr ld (by omega) hld1
    generalize hnrd : iv_mr (σ1 124 p) (nI ld) (nI ld) [0, 1, 2, 3, 4] = nr at hraise hnr
    have h60 : ¬ σ1 121 6 = 0 := by rw [s121, h6]; decide
    have h50 : ¬ τ1 135 5 = 0 := by rw [s135, h5]; decide
    have h51 : τ1 135 5 = 1 := by rw [s135]; exact h5
    by_cases hlt : v < 500
    · have hcT : ix_F 52 [.ref 121, .int (nI v)] (ix_S0 true, σ1) = some (.int 0, (ix_S0 true, σ1)) := by
        rw [q_Crossing_comesTrue_0_T, if_neg h60, if_pos (show nI v < 500 from nI_lt (b := 500) hlt (by omega))]
      refine ⟨σ1, τ1, ?_, ?_, ⟨hR1, hlw1, hear1, ?_, ?_, ?_, ?_, trivial⟩, fun z z1 z2 z3 z4 z5 => f1 z z2 z3, ⟨fun z z1 z2 z3 z4 z5 => f2 z z3 z4, fun i hi => by rw [s135]⟩⟩
      · rw [q_Crossing_listen_0_T]
        simp only [k1, k3, if_false, hear p (by omega), h7, hT, iv_oi, y0, y1, y2, e1, hcT, if_true, Option.bind_some, iv_tI]
      · rw [q_M_isTalkedTo_0]
        have hlt' : ¬ (1000 : Int32) ≤ 2 * nI v := by rw [show (2 : Int32) = nI 2 from rfl, pk_mul]; exact nI_ge (b := 1000) (by omega) (by omega)
        simp only [hT2, iv_oi, y0, if_false, e2, h50, hlt', Option.bind_some, iv_tI]
      · rw [s121]; exact h7
      · rw [s121]; exact h6
      · exact h51
      · rw [s121, s135]; exact h43
    · have hcT : ix_F 52 [.ref 121, .int (nI v)] (ix_S0 true, σ1) = some (.int 1, (ix_S0 true, σ1)) := by
        rw [q_Crossing_comesTrue_0_T, if_neg h60, if_neg (show ¬ nI v < 500 from nI_nlt (b := 500) (by omega) (by omega))]
      have n42 : (upd (τ1 136) (6 + p) nr) (42 + p) = τ1 136 (42 + p) := by rw [pk_un (by omega)]
      have hV3 : iv_riv (σ1 123) (upd (σ1 124) p nr) (σ1 125) (σ1 126) (σ1 127) (σ1 128) (upd (σ1 129) p (σ1 129 p + 1)) (upd (upd (τ1 136) (6 + p) nr) (42 + p) (σ1 129 p + 1)) (τ1 135 6) (τ1 139) (τ1 140) (τ1 141) M n o := iv_riv_tu (by omega) _ (iv_riv_rk (by omega) nr hnr hR1.1)
      have n5 : (ix_up (ix_up (ix_up τ1 136 (6 + p) nr) 136 (42 + p) (σ1 129 p + 1)) 135 43 (τ1 135 43 + 1)) 135 5 = 1 := h51
      have w2 := f_note_T c _ n5 0 (nI p) (nI ld)
      have rX : ix_F 40 [.int (σ1 124 p), .int (nI ld)] (ix_S0 true, σ1) = some (.int nr, (ix_S0 true, σ1)) := by rw [f_raisedX, hraise]
      have rM : ix_F 268 [.ref 135, .int (nI ld), .int (τ1 136 (6 + p))] (ix_S0 c, τ1) = some (.int nr, (ix_S0 c, τ1)) := by rw [f_rankWith, ← rp, hnrd]
      have fy1 : ix_F 243 [.ref 135, .int (nI y)] (ix_S0 c, τ1) = some (.int (nI ld), (ix_S0 c, τ1)) := by
        rw [f_firstOf c _ (by omega), hla]
      have fy2 : ix_F 243 [.ref 135, .int (nI y)] (ix_S0 c, (ix_up (ix_up (ix_up τ1 136 (6 + p) nr) 136 (42 + p) (σ1 129 p + 1)) 135 43 (τ1 135 43 + 1))) = some (.int (nI ld), (ix_S0 c, (ix_up (ix_up (ix_up τ1 136 (6 + p) nr) 136 (42 + p) (σ1 129 p + 1)) 135 43 (τ1 135 43 + 1)))) := by
        rw [f_firstOf c _ (by omega)]
        show some (Value.int (iv_la (upd (upd (τ1 136) (6 + p) nr) (42 + p) (σ1 129 p + 1) (6 + y)) 0), _) = _
        rw [pk_un (by omega), pk_un (by omega), hla]
      refine ⟨ix_up (ix_up (ix_up σ1 124 p nr) 129 p (σ1 129 p + 1)) 121 1 (σ1 121 1 + 1), ix_up (ix_up (ix_up τ1 136 (6 + p) nr) 136 (42 + p) (σ1 129 p + 1)) 135 43 (τ1 135 43 + 1), ?_, ?_, ⟨⟨hV3, hR1.2⟩, hlw1, hear1, ?_, ?_, ?_, ?_, trivial⟩, ?_, ?_⟩
      · rw [q_Crossing_listen_0_T]
        simp only [k1, k3, if_false, hear p (by omega), h7, hT, iv_oi, y0, y1, y2, e1, hcT, iv_10, if_true, Option.bind_some, iv_tI, q_X_firstOf_0]
        rw [hld, rX]
        simp only [h60, if_false, Option.bind_some, iv_tI]
      · rw [q_M_isTalkedTo_0]
        have hlt' : (1000 : Int32) ≤ 2 * nI v := by rw [show (2 : Int32) = nI 2 from rfl, pk_mul]; exact nI_le (a := 1000) (by omega) (by omega)
        simp only [hT2, iv_oi, y0, if_false, e2, h50, hlt', if_true, Option.bind_some, iv_tI, fy1, m6, m42, i6, i42, l6, l42]
        rw [rM]
        simp only [Option.bind_some, iv_tI, n42]
        rw [← tp, fy2]
        simp only [Option.bind_some, iv_tI, w2]
      · show σ1 121 7 = _; rw [s121]; exact h7
      · show σ1 121 6 = _; rw [s121]; exact h6
      · exact h51
      · show upd (σ1 121) 1 (σ1 121 1 + 1) 1 = upd (τ1 135) 43 (τ1 135 43 + 1) 43
        rw [pk_us, pk_us, s121, s135, h43]
      · exact fun z z1 z2 z3 z4 z5 => (iv_upn z4).trans ((iv_upn (by omega)).trans ((iv_upn (by omega)).trans (f1 z z2 z3)))
      · refine ⟨fun z z1 z2 z3 z4 z5 => (iv_upn z1).trans ((iv_upn z2).trans ((iv_upn z2).trans (f2 z z3 z4))), fun i hi => ?_⟩
        show upd (τ1 135) 43 _ i = _
        rw [pk_un hi, s135]

