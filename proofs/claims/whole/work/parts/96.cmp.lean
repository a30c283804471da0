/-! a comparison, joint -/
theorem cl_F {r mj : Nat} {as : List Value} {h : ix_H} (hr : ix_rk mj as < r) : ix_clS ix_S r mj as h = ix_F mj as h := by
  have h1 : Nat.blt (ix_rk mj as) r = true := Nat.ble_eq_true_of_le hr
  unfold ix_clS
  rw [h1]
  rfl
theorem cl_73 {r : Nat} (hr : 4 ≤ r) (h : ix_H) : ix_clS ix_S r 73 [.ref 105] h = ix_F 73 [.ref 105] h := cl_F (show 3 < r from hr)
theorem cl_142 {r : Nat} (hr : 4 ≤ r) (h : ix_H) : ix_clS ix_S r 142 [.ref 100] h = ix_F 142 [.ref 100] h := cl_F (show 1 < r by omega)
theorem cl_61 {r : Nat} (hr : 4 ≤ r) (k v : Int32) (h : ix_H) : ix_clS ix_S r 61 [.ref 107, .int k, .int v] h = ix_F 61 [.ref 107, .int k, .int v] h := cl_F (show 1 < r by omega)
theorem cl_68 {r : Nat} (hr : 4 ≤ r) (k : Int32) (h : ix_H) : ix_clS ix_S r 68 [.ref 105, .int k] h = ix_F 68 [.ref 105, .int k] h := cl_F (show 1 < r by omega)
theorem cl_75 {r : Nat} (hr : 4 ≤ r) (k : Int32) (h : ix_H) : ix_clS ix_S r 75 [.ref 105, .int k] h = ix_F 75 [.ref 105, .int k] h := cl_F (show 2 < r by omega)
section Cm
variable {b d : Bool} {n t z0 : Nat} {c : Nat → Nat} {T B : List Nat}
theorem j_cmp2 (hn : n ≤ 400) (hB : B.length + 4 ≤ 32) {r : Nat} (hr : 4 ≤ r) {a z x : Nat} {σ τ : ix_St} {g o : Int32} (hg : (g = 60 ∧ o = 6) ∨ (g = 61 ∧ o = 7) ∨ (g = 62 ∧ o = 8)) (hk : σ 100 7 = g) (han : a < n) (hza : z ≤ a) (hx : x ≠ 1) (h : tx_J 0 c t n a σ τ) (hc : tx_cd σ τ z0 z T (x :: B)) :
    (∃ σ' τ', ((ix_clS ix_S r 142 [.ref 100] (ix_S0 b, σ)).bind fun x6 => ((ix_clS ix_S r 73 [.ref 105] (ix_S0 b, x6.2.2)).bind fun x7 => (if (ix_toI x7.1) = 0 then some (Value.int (0 : Int32), (ix_S0 b, x7.2.2)) else ((ix_clS ix_S r 61 [.ref 107, .int (σ 100 7), .int (0 : Int32)] (ix_S0 b, x7.2.2)).bind fun x8 => some (.int (1 : Int32), (ix_S0 b, x8.2.2)))))) = some (.int 0, (ix_S0 b, σ')) ∧ ((ix_F 233 [.ref 135] (ix_S0 d, τ)).bind fun x6 => ((ix_F 260 [.ref 135] (ix_S0 d, x6.2.2)).bind fun x7 => (if (ix_toI x7.1) = (-1 : Int32) then some (Value.int (-1 : Int32), (ix_S0 d, x7.2.2)) else ((ix_F 277 [.ref 135, .int o, .int (0 : Int32)] (ix_S0 d, x7.2.2)).bind fun x8 => some (.int (0 : Int32), (ix_S0 d, x8.2.2)))))) = some (.int (-1), (ix_S0 d, τ')) ∧ tx_la σ σ' ∧ tx_lb τ τ' ∧ tx_bad σ' τ') ∨
    ∃ a' z' σ' τ', a < a' ∧ z' + a ≤ z + a' ∧ a' ≤ n ∧ z ≤ z' ∧ ((ix_clS ix_S r 142 [.ref 100] (ix_S0 b, σ)).bind fun x6 => ((ix_clS ix_S r 73 [.ref 105] (ix_S0 b, x6.2.2)).bind fun x7 => (if (ix_toI x7.1) = 0 then some (Value.int (0 : Int32), (ix_S0 b, x7.2.2)) else ((ix_clS ix_S r 61 [.ref 107, .int (σ 100 7), .int (0 : Int32)] (ix_S0 b, x7.2.2)).bind fun x8 => some (.int (1 : Int32), (ix_S0 b, x8.2.2)))))) = some (.int 1, (ix_S0 b, σ')) ∧ ((ix_F 233 [.ref 135] (ix_S0 d, τ)).bind fun x6 => ((ix_F 260 [.ref 135] (ix_S0 d, x6.2.2)).bind fun x7 => (if (ix_toI x7.1) = (-1 : Int32) then some (Value.int (-1 : Int32), (ix_S0 d, x7.2.2)) else ((ix_F 277 [.ref 135, .int o, .int (0 : Int32)] (ix_S0 d, x7.2.2)).bind fun x8 => some (.int (0 : Int32), (ix_S0 d, x8.2.2)))))) = some (.int 0, (ix_S0 d, τ')) ∧ tx_J 0 c t n a' σ' τ' ∧ tx_cd σ' τ' z0 z' T (1 :: B) ∧ tx_la σ σ' ∧ tx_lb τ τ' ∧ tx_lz σ σ' τ τ' z := by
  obtain ⟨σ1, τ1, a1, a2, a3, a4, a5, -⟩ := j_adv (b := b) (d := d) h han
  rw [cl_142 hr, a1, a2]
  simp only [Option.bind_some]
  rw [cl_73 hr]
  rcases j_sum (b := b) (d := d) (B := x :: B) hn (by show B.length + 1 + 3 ≤ 32; omega) (a := a + 1) (z := z) (by omega) (by omega) (by omega) a3 (hc.ab a4 a5) with ⟨σ', τ', u1, u2, u3, u4, u5⟩ | ⟨a', z', y, σ2, τ2, u1, ⟨u2, u3⟩, u4, u5, u6, u7, u8, u9, u10, u11, u12, u13⟩
  · rw [u1, u2]
    simp only [Option.bind_some, iv_tI]
    rw [if_pos trivial, if_pos trivial]
    exact Or.inl ⟨σ', τ', rfl, rfl, a4.la.tr u3, a5.lb.tr u4, u5⟩
  · have hts : iv_ts (y :: x :: B) o 0 = some (1 :: B) := by
      unfold iv_ts
      rcases hg with ⟨-, q⟩ | ⟨-, q⟩ | ⟨-, q⟩
      · rw [q, if_neg (by decide), if_neg (by decide), if_neg (by decide), if_neg (by decide), if_pos (by decide)]
        show (if y ≠ 1 ∧ x ≠ 1 then some (1 :: B) else none) = _
        rw [if_pos ⟨u6, hx⟩]
      · rw [q, if_neg (by decide), if_neg (by decide), if_neg (by decide), if_neg (by decide), if_pos (by decide)]
        show (if y ≠ 1 ∧ x ≠ 1 then some (1 :: B) else none) = _
        rw [if_pos ⟨u6, hx⟩]
      · rw [q, if_neg (by decide), if_neg (by decide), if_neg (by decide), if_neg (by decide), if_pos (by decide)]
        show (if y ≠ 1 ∧ x ≠ 1 then some (1 :: B) else none) = _
        rw [if_pos ⟨u6, hx⟩]
    have hen : iv_enc (((0 : Int32) <<< ((6 : Int32) &&& 31)) ||| g) o 0 := by
      rcases hg with ⟨q1, q2⟩ | ⟨q1, q2⟩ | ⟨q1, q2⟩
      · rw [q1, q2, show ((0 : Int32) <<< ((6 : Int32) &&& 31)) ||| 60 = 60 by decide]; unfold iv_enc; simp
      · rw [q1, q2, show ((0 : Int32) <<< ((6 : Int32) &&& 31)) ||| 61 = 61 by decide]; unfold iv_enc; simp
      · rw [q1, q2, show ((0 : Int32) <<< ((6 : Int32) &&& 31)) ||| 62 = 62 by decide]; unfold iv_enc; simp
    obtain ⟨σ3, τ3, v1, v2, v3, v4, v5, v6, v7, v8⟩ := j_emit (b := b) (d := d) u9 u10 (by omega) (kind := g) (value := 0) (op := o) (arg := 0) hen hts (by show B.length + 1 ≤ 32; omega)
    rw [u7, u8]
    simp only [Option.bind_some, iv_tI]
    rw [if_neg (show ¬ (1 : Int32) = 0 by decide), if_neg (show ¬ (0 : Int32) = -1 by decide), hk, cl_61 hr, v1, v2]
    simp only [Option.bind_some]
    exact Or.inr ⟨a', z' + 1, σ3, τ3, by omega, by omega, u4, by omega, rfl, rfl, v3, v4, (a4.la.tr u11).tr v5, (a5.lb.tr u12).tr v6, ((tx_lz.ab a4 a5).tr (Nat.le_refl _) u13).tr u5 v7⟩
/-- readCompared beside the class's comparison -/
theorem j_cmp (hn : n ≤ 400) (hB : B.length + 4 ≤ 32) {r : Nat} (hr : 4 ≤ r) {a z : Nat} {o : Int32} {σ τ : ix_St} (hza : z + 1 ≤ a) (han : a ≤ n) (h : tx_J 0 c t n a σ τ) (hc : tx_cd σ τ z0 z T B) (h40 : ¬ σ 100 7 = 40) (h6 : ¬ σ 100 7 = 6) :
    (∃ σ' τ', ix_S 80 r 0 [some (.ref 105), some (.int o), none] [] (ix_S0 b, σ) = some (.int 0, (ix_S0 b, σ')) ∧ ix_F 279 [.ref 135] (ix_S0 d, τ) = some (.int (-1), (ix_S0 d, τ')) ∧ tx_la σ σ' ∧ tx_lb τ τ' ∧ tx_bad σ' τ') ∨
    ∃ a' z' σ' τ', a < a' ∧ z' + a ≤ z + a' ∧ a' ≤ n ∧ z ≤ z' ∧ ix_S 80 r 0 [some (.ref 105), some (.int o), none] [] (ix_S0 b, σ) = some (.int 1, (ix_S0 b, σ')) ∧ ix_F 279 [.ref 135] (ix_S0 d, τ) = some (.int 0, (ix_S0 d, τ')) ∧ tx_J 0 c t n a' σ' τ' ∧ tx_cd σ' τ' z0 z' T (1 :: B) ∧ tx_la σ σ' ∧ tx_lb τ τ' ∧ tx_lz σ σ' τ τ' z := by
  rw [q_Parser_readCondition_0, if_neg h40, if_neg h6, cl_73 hr, q_M_readCompared_0]
  rcases j_sum (b := b) (d := d) hn (by omega) (a := a) (z := z) (by omega) (by omega) (by omega) h hc with ⟨σ', τ', u1, u2, u3, u4, u5⟩ | ⟨a', z', y, σ2, τ2, u1, ⟨u2, u3⟩, u4, u5, u6, u7, u8, u9, u10, u11, u12, u13⟩
  · rw [u1, u2]
    simp only [Option.bind_some, iv_tI]
    rw [if_pos trivial, if_pos trivial]
    exact Or.inl ⟨σ', τ', rfl, rfl, u3, u4, u5⟩
  · rw [u7, u8]
    simp only [Option.bind_some, iv_tI]
    rw [if_neg (show ¬ (1 : Int32) = 0 by decide), if_neg (show ¬ (0 : Int32) = -1 by decide)]
    obtain ⟨g1, r1⟩ := j_isG (d := d) u9 (g := 60) (by decide)
    obtain ⟨g2, r2⟩ := j_isG (d := d) u9 (g := 61) (by decide)
    obtain ⟨g3, r3⟩ := j_isG (d := d) u9 (g := 62) (by decide)
    have r1' : ix_F 262 [.ref 135, .int (60 : Int32)] (ix_S0 d, τ2) = _ := r1
    have r2' : ix_F 262 [.ref 135, .int (61 : Int32)] (ix_S0 d, τ2) = _ := r2
    have r3' : ix_F 262 [.ref 135, .int (62 : Int32)] (ix_S0 d, τ2) = _ := r3
    by_cases e1 : (tx_tn c t a').1 = 4 ∧ (tx_tn c t a').2.1 = 60
    · have k7 : σ2 100 7 = 60 := g1.mpr e1
      have hv : τ2 135 17 = 60 := by rw [u9.2.2.2.2.2 (by omega), e1.2]; rfl
      rw [if_pos k7, r1', iv_Bt e1]
      simp only [Option.bind_some, iv_tI]
      rw [if_neg (show ¬ (1 : Int32) = 0 by decide), if_pos hv]
      rcases j_cmp2 (b := b) (d := d) hn hB hr (g := 60) (o := 6) (Or.inl ⟨rfl, rfl⟩) k7 (u9.lt (by omega)) u2 u6 u9 u10 with ⟨σ', τ', q1, q2, q3, q4, q5⟩ | ⟨a2, z2, σ3, τ3, q1, q2, q3, q4, q5, q6, q7, q8, q9, q10, q11⟩
      · exact Or.inl ⟨σ', τ', q1, q2, u11.tr q3, u12.tr q4, q5⟩
      · exact Or.inr ⟨a2, z2, σ3, τ3, by omega, by omega, q3, by omega, q5, q6, q7, q8, u11.tr q9, u12.tr q10, u13.tr u5 q11⟩
    · have k7 : ¬ σ2 100 7 = 60 := fun q => e1 (g1.mp q)
      rw [if_neg k7, r1', iv_Bf e1]
      simp only [Option.bind_some, iv_tI]
      rw [if_pos trivial, r2']
      by_cases e2 : (tx_tn c t a').1 = 4 ∧ (tx_tn c t a').2.1 = 61
      · have k8 : σ2 100 7 = 61 := g2.mpr e2
        have hv0 : ¬ τ2 135 17 = 60 := by rw [u9.2.2.2.2.2 (by omega), e2.2]; decide
        have hv : τ2 135 17 = 61 := by rw [u9.2.2.2.2.2 (by omega), e2.2]; rfl
        rw [if_pos k8, iv_Bt e2]
        simp only [Option.bind_some, iv_tI]
        rw [if_neg (show ¬ (1 : Int32) = 0 by decide), if_neg hv0, if_pos hv]
        rcases j_cmp2 (b := b) (d := d) hn hB hr (g := 61) (o := 7) (Or.inr (Or.inl ⟨rfl, rfl⟩)) k8 (u9.lt (by omega)) u2 u6 u9 u10 with ⟨σ', τ', q1, q2, q3, q4, q5⟩ | ⟨a2, z2, σ3, τ3, q1, q2, q3, q4, q5, q6, q7, q8, q9, q10, q11⟩
        · exact Or.inl ⟨σ', τ', q1, q2, u11.tr q3, u12.tr q4, q5⟩
        · exact Or.inr ⟨a2, z2, σ3, τ3, by omega, by omega, q3, by omega, q5, q6, q7, q8, u11.tr q9, u12.tr q10, u13.tr u5 q11⟩
      · have k8 : ¬ σ2 100 7 = 61 := fun q => e2 (g2.mp q)
        rw [if_neg k8, iv_Bf e2]
        simp only [Option.bind_some, iv_tI]
        rw [if_pos trivial, r3']
        by_cases e3 : (tx_tn c t a').1 = 4 ∧ (tx_tn c t a').2.1 = 62
        · have k9 : σ2 100 7 = 62 := g3.mpr e3
          have hv0 : ¬ τ2 135 17 = 60 := by rw [u9.2.2.2.2.2 (by omega), e3.2]; decide
          have hv : ¬ τ2 135 17 = 61 := by rw [u9.2.2.2.2.2 (by omega), e3.2]; decide
          rw [if_pos k9, iv_Bt e3]
          simp only [Option.bind_some, iv_tI]
          rw [if_neg (show ¬ (1 : Int32) = 0 by decide), if_neg hv0, if_neg hv]
          rcases j_cmp2 (b := b) (d := d) hn hB hr (g := 62) (o := 8) (Or.inr (Or.inr ⟨rfl, rfl⟩)) k9 (u9.lt (by omega)) u2 u6 u9 u10 with ⟨σ', τ', q1, q2, q3, q4, q5⟩ | ⟨a2, z2, σ3, τ3, q1, q2, q3, q4, q5, q6, q7, q8, q9, q10, q11⟩
          · exact Or.inl ⟨σ', τ', q1, q2, u11.tr q3, u12.tr q4, q5⟩
          · exact Or.inr ⟨a2, z2, σ3, τ3, by omega, by omega, q3, by omega, q5, q6, q7, q8, u11.tr q9, u12.tr q10, u13.tr u5 q11⟩
        · have k9 : ¬ σ2 100 7 = 62 := fun q => e3 (g3.mp q)
          obtain ⟨σ', τ', b1, b2, b3, b4, b5⟩ := j_bl (b := b) (d := d) u9 1
          rw [if_neg k9, iv_Bf e3]
          simp only [Option.bind_some, iv_tI]
          rw [if_pos trivial, cl_68 hr, b1, b2]
          simp only [Option.bind_some, iv_tI]
          rw [if_pos (Or.inl trivial)]
          exact Or.inl ⟨σ', τ', rfl, rfl, u11.tr b4.la, u12.tr b5.lb, b3⟩
end Cm
