/-! a product's rest, joint -/
section Pr
variable {b d : Bool} {n t z0 : Nat} {c : Nat → Nat} {T B : List Nat}
theorem p_prod (hn : n ≤ 400) (hB : B.length + 2 ≤ 32) {w : Int32} : ∀ (m a i z x : Nat) (σ τ : ix_St), n - a = m → i + 2 ≤ a → z ≤ a → a ≤ n → x ≠ 1 → tx_J 0 c t n a σ τ → tx_cd σ τ z0 z T (x :: B) →
    (∃ σ' τ', ix_S 73 3 47 [some (.ref 105), none, some (.int w), some (.int (nI i))] [] (ix_S0 b, σ) = some (.int 0, (ix_S0 b, σ')) ∧ ix_S 276 5 10 [some (.ref 135), none] [] (ix_S0 d, τ) = some (.int (-1), (ix_S0 d, τ')) ∧ tx_la σ σ' ∧ tx_lb τ τ' ∧ tx_bad σ' τ') ∨
    ∃ a' i' z' x' σ' τ', a ≤ a' ∧ i' + 2 ≤ a' ∧ (z' ≤ a' ∧ z' + a ≤ z + a') ∧ a' ≤ n ∧ z ≤ z' ∧ x' ≠ 1 ∧ ix_S 73 3 47 [some (.ref 105), none, some (.int w), some (.int (nI i))] [] (ix_S0 b, σ) = ix_S 73 3 47 [some (.ref 105), none, some (.int w), some (.int (nI i'))] [] (ix_S0 b, σ') ∧ ix_S 276 5 10 [some (.ref 135), none] [] (ix_S0 d, τ) = some (.int 0, (ix_S0 d, τ')) ∧ tx_J 0 c t n a' σ' τ' ∧ tx_cd σ' τ' z0 z' T (x' :: B) ∧ tx_la σ σ' ∧ tx_lb τ τ' ∧ tx_lz σ σ' τ τ' z ∧ ¬ ((tx_tn c t a').1 = 4 ∧ (tx_tn c t a').2.1 = 42) ∧ ¬ ((tx_tn c t a').1 = 4 ∧ (tx_tn c t a').2.1 = 47) := by
  intro m
  induction m using Nat.strongRecOn with
  | ind m ih =>
    intro a i z x σ τ hm hi hza han hx h hc
    obtain ⟨g1, r1⟩ := j_isG (d := d) h (g := 42) (by decide)
    obtain ⟨g2, r2⟩ := j_isG (d := d) h (g := 47) (by decide)
    have r1' : ix_F 262 [.ref 135, .int (42 : Int32)] (ix_S0 d, τ) = _ := r1
    have r2' : ix_F 262 [.ref 135, .int (47 : Int32)] (ix_S0 d, τ) = _ := r2
    by_cases e1 : (tx_tn c t a).1 = 4 ∧ (tx_tn c t a).2.1 = 42
    · have k7 : σ 100 7 = 42 := g1.mpr e1
      obtain ⟨σ1, τ1, a1, a2, a3, a4, a5, -⟩ := j_adv (b := b) (d := d) h (h.lt (by omega))
      have han1 := h.lt (by omega)
      have hc1 := hc.ab a4 a5
      have c8 : ix_S 73 3 47 [some (.ref 105), none, some (.int w), some (.int (nI i))] [] (ix_S0 b, σ) = ix_S 73 3 8 [some (.ref 105), some (.int 42), some (.int w), some (.int (nI (i + 1)))] [] (ix_S0 b, σ1) := by
        rw [q_Parser_readSum_47, if_pos k7, k7, q_Parser_readSum_101, a1]
        simp only [Option.bind_some]
        rw [nI_1]
      have rr : ix_S 276 5 10 [some (.ref 135), none] [] (ix_S0 d, τ) = ((ix_F 282 [.ref 135] (ix_S0 d, τ1)).bind fun x26 => (if (ix_toI x26.1) = (-1 : Int32) then some (.int (-1 : Int32), (ix_S0 d, x26.2.2)) else ((ix_F 277 [.ref 135, .int (4 : Int32), .int (0 : Int32)] (ix_S0 d, x26.2.2)).bind fun x28 => ix_S 276 5 10 [some (.ref 135), none] [] (ix_S0 d, x28.2.2)))) := by
        rw [q_M_readProduct_10, r1', iv_Bt e1]
        simp only [Option.bind_some, iv_tI]
        rw [if_neg (by decide), r1', iv_Bt e1]
        simp only [Option.bind_some, iv_tI]
        rw [a2]
        simp only [Option.bind_some, iv_tI]
        rw [if_neg (by decide), if_neg (by decide)]
        simp only [show ¬ (1 : Int32) = 0 by decide, if_false]
      rcases j_unit (b := b) (d := d) a3 hc1 (by omega) (by show B.length + 1 < 32; omega) (v1 := 42) (by decide) with ⟨σ', τ', u1, u2, u3, u4, u5⟩ | ⟨y, σ2, τ2, hy, u1, u2, u3, u4, u5, u6, u7, u8⟩
      · refine Or.inl ⟨σ', τ', ?_, ?_, a4.la.tr u3, a5.lb.tr u4, u5⟩
        · rw [c8, q_Parser_readSum_8, if_neg (show ¬ (400 : Int32) ≤ nI (i + 1) from nI_ge (b := 400) (by omega) (by omega)), u1]
          simp only [Option.bind_some, iv_tI]
          rw [if_pos trivial, q_Parser_readSum_114]
        · rw [rr, u2]
          simp only [Option.bind_some, iv_tI]
          rw [if_pos trivial]
      · have hts : iv_ts (y :: x :: B) 4 0 = some (0 :: B) := by
          unfold iv_ts
          rw [if_neg (by decide), if_neg (by decide), if_pos (by decide)]
          show (if y ≠ 1 ∧ x ≠ 1 then some (0 :: B) else none) = _
          rw [if_pos ⟨hy, hx⟩]
        obtain ⟨σ3, τ3, v1, v2, v3, v4, v5, v6, v7, -⟩ := j_emit (b := b) (d := d) u3 u4 (by omega) (kind := 42) (value := 0) (op := 4) (arg := 0) (by rw [show ((0 : Int32) <<< ((6 : Int32) &&& 31)) ||| 42 = 42 by decide]; unfold iv_enc; simp) hts (by show B.length + 1 ≤ 32; omega)
        have cc : ix_S 73 3 47 [some (.ref 105), none, some (.int w), some (.int (nI i))] [] (ix_S0 b, σ) = ix_S 73 3 47 [some (.ref 105), none, some (.int w), some (.int (nI (i + 1)))] [] (ix_S0 b, σ3) := by
          rw [c8, q_Parser_readSum_8, if_neg (show ¬ (400 : Int32) ≤ nI (i + 1) from nI_ge (b := 400) (by omega) (by omega)), u1]
          simp only [Option.bind_some, iv_tI]
          rw [if_neg (by decide), if_pos trivial, q_Parser_readSum_35, v1]
          simp only [Option.bind_some]
        have rc : ix_S 276 5 10 [some (.ref 135), none] [] (ix_S0 d, τ) = ix_S 276 5 10 [some (.ref 135), none] [] (ix_S0 d, τ3) := by
          rw [rr, u2]
          simp only [Option.bind_some, iv_tI]
          rw [if_neg (by decide), v2]
          simp only [Option.bind_some]
        have lA : tx_la σ σ3 := (a4.la.tr u5).tr v5
        have lB : tx_lb τ τ3 := (a5.lb.tr u6).tr v6
        have lZ : tx_lz σ σ3 τ τ3 z := ((tx_lz.ab a4 a5).tr (Nat.le_refl _) u7).tr (by omega) v7
        rw [cc, rc]
        rcases ih (n - (a + 1 + 1)) (by omega) (a + 1 + 1) (i + 1) (z + 1 + 1) 0 σ3 τ3 rfl (by omega) (by omega) (by omega) (by decide) v3 v4 with ⟨σ', τ', k1, k2, k3, k4, k5⟩ | ⟨a', i', z', x', σ', τ', k1, k2, k3, k4, k5, k6, k7, k8, k9, k10, k11, k12, k13, k14⟩
        · exact Or.inl ⟨σ', τ', k1, k2, lA.tr k3, lB.tr k4, k5⟩
        · exact Or.inr ⟨a', i', z', x', σ', τ', by omega, k2, ⟨k3.1, by omega⟩, k4, by omega, k6, k7, k8, k9, k10, lA.tr k11, lB.tr k12, lZ.tr (by omega) k13, k14⟩
    · have k7 : ¬ σ 100 7 = 42 := fun q => e1 (g1.mp q)
      by_cases e2 : (tx_tn c t a).1 = 4 ∧ (tx_tn c t a).2.1 = 47
      · have k8 : σ 100 7 = 47 := g2.mpr e2
        obtain ⟨σ1, τ1, a1, a2, a3, a4, a5, -⟩ := j_adv (b := b) (d := d) h (h.lt (by omega))
        have han1 := h.lt (by omega)
        have hc1 := hc.ab a4 a5
        obtain ⟨-, n3⟩ := j_isN a3
        have c8 : ix_S 73 3 47 [some (.ref 105), none, some (.int w), some (.int (nI i))] [] (ix_S0 b, σ) = ix_S 73 3 8 [some (.ref 105), some (.int 47), some (.int w), some (.int (nI (i + 1)))] [] (ix_S0 b, σ1) := by
          rw [q_Parser_readSum_47, if_neg k7, if_pos k8, k8, q_Parser_readSum_101, a1]
          simp only [Option.bind_some]
          rw [nI_1]
        have rr : ix_S 276 5 10 [some (.ref 135), none] [] (ix_S0 d, τ) = (if τ1 135 16 = (3 : Int32) then (if τ1 135 17 = 0 then ((ix_F 255 [.ref 135, .int (2 : Int32)] (ix_S0 d, τ1)).bind fun x5 => some (.int (ix_toI x5.1), (ix_S0 d, x5.2.2))) else ((ix_F 282 [.ref 135] (ix_S0 d, τ1)).bind fun x6 => (if (ix_toI x6.1) = (-1 : Int32) then some (.int (-1 : Int32), (ix_S0 d, x6.2.2)) else ((ix_F 277 [.ref 135, .int (5 : Int32), .int (0 : Int32)] (ix_S0 d, x6.2.2)).bind fun x7 => ix_S 276 5 10 [some (.ref 135), none] [] (ix_S0 d, x7.2.2))))) else ((ix_F 255 [.ref 135, .int (1 : Int32)] (ix_S0 d, τ1)).bind fun x12 => some (.int (ix_toI x12.1), (ix_S0 d, x12.2.2)))) := by
          rw [q_M_readProduct_10, r1', iv_Bf e1]
          simp only [Option.bind_some, iv_tI]
          rw [if_pos trivial, r2', iv_Bt e2]
          simp only [Option.bind_some, iv_tI]
          rw [if_neg (by decide), r1', iv_Bf e1]
          simp only [Option.bind_some, iv_tI]
          rw [a2]
          simp only [Option.bind_some, iv_tI, if_true]
        rcases j_div (b := b) (d := d) a3 hc1 (by omega) (by show B.length + 1 < 32; omega) with ⟨q1, σ', τ', u1, u2, u3, u4, u5⟩ | ⟨q1, q2, σ', τ', u1, u2, u3, u4, u5⟩ | ⟨q1, q2, σ2, τ2, u1, u2, u3, u4, u5, u6, u7, u8⟩
        · refine Or.inl ⟨σ', τ', ?_, ?_, a4.la.tr u3, a5.lb.tr u4, u5⟩
          · rw [c8, q_Parser_readSum_8, if_neg (show ¬ (400 : Int32) ≤ nI (i + 1) from nI_ge (b := 400) (by omega) (by omega)), u1]
            simp only [Option.bind_some, iv_tI]
            rw [if_pos trivial, q_Parser_readSum_114]
          · rw [rr, if_neg (fun q => q1 (n3.mp q)), u2]
            simp only [Option.bind_some, iv_tI]
        · have hv2 : τ1 135 17 = nI (tx_tn c t (a + 1)).2.1 := a3.2.2.2.2.2 (by omega)
          refine Or.inl ⟨σ', τ', ?_, ?_, a4.la.tr u3, a5.lb.tr u4, u5⟩
          · rw [c8, q_Parser_readSum_8, if_neg (show ¬ (400 : Int32) ≤ nI (i + 1) from nI_ge (b := 400) (by omega) (by omega)), u1]
            simp only [Option.bind_some, iv_tI]
            rw [if_pos trivial, q_Parser_readSum_114]
          · rw [rr, if_pos (n3.mpr q1), if_pos (by rw [hv2, q2]; rfl), u2]
            simp only [Option.bind_some, iv_tI]
        · have hv2 : τ1 135 17 = nI (tx_tn c t (a + 1)).2.1 := a3.2.2.2.2.2 (by omega)
          have hx9 := a3.ok.2.2.1 q1
          have hts : iv_ts (2 :: x :: B) 5 0 = some (0 :: B) := by
            unfold iv_ts
            rw [if_neg (by decide), if_neg (by decide), if_neg (by decide), if_pos rfl]
            show (if x ≠ 1 then some (0 :: B) else none) = _
            rw [if_pos hx]
          obtain ⟨σ3, τ3, v1, v2, v3, v4, v5, v6, v7, -⟩ := j_emit (b := b) (d := d) u3 u4 (by omega) (kind := 47) (value := 0) (op := 5) (arg := 0) (by rw [show ((0 : Int32) <<< ((6 : Int32) &&& 31)) ||| 47 = 47 by decide]; unfold iv_enc; simp) hts (by show B.length + 1 ≤ 32; omega)
          have cc : ix_S 73 3 47 [some (.ref 105), none, some (.int w), some (.int (nI i))] [] (ix_S0 b, σ) = ix_S 73 3 47 [some (.ref 105), none, some (.int w), some (.int (nI (i + 1)))] [] (ix_S0 b, σ3) := by
            rw [c8, q_Parser_readSum_8, if_neg (show ¬ (400 : Int32) ≤ nI (i + 1) from nI_ge (b := 400) (by omega) (by omega)), u1]
            simp only [Option.bind_some, iv_tI]
            rw [if_neg (by decide), if_neg (by decide), if_pos trivial, q_Parser_readSum_35, v1]
            simp only [Option.bind_some]
          have rc : ix_S 276 5 10 [some (.ref 135), none] [] (ix_S0 d, τ) = ix_S 276 5 10 [some (.ref 135), none] [] (ix_S0 d, τ3) := by
            rw [rr, if_pos (n3.mpr q1), if_neg (by rw [hv2]; exact nI_ne0 (by omega) (by omega)), u2]
            simp only [Option.bind_some, iv_tI]
            rw [if_neg (by decide), v2]
            simp only [Option.bind_some]
          have lA : tx_la σ σ3 := (a4.la.tr u5).tr v5
          have lB : tx_lb τ τ3 := (a5.lb.tr u6).tr v6
          have lZ : tx_lz σ σ3 τ τ3 z := ((tx_lz.ab a4 a5).tr (Nat.le_refl _) u7).tr (by omega) v7
          rw [cc, rc]
          rcases ih (n - (a + 1 + 1)) (by omega) (a + 1 + 1) (i + 1) (z + 1 + 1) 0 σ3 τ3 rfl (by omega) (by omega) (by omega) (by decide) v3 v4 with ⟨σ', τ', k1, k2, k3, k4, k5⟩ | ⟨a', i', z', x', σ', τ', k1, k2, k3, k4, k5, k6, k7, k8, k9, k10, k11, k12, k13, k14⟩
          · exact Or.inl ⟨σ', τ', k1, k2, lA.tr k3, lB.tr k4, k5⟩
          · exact Or.inr ⟨a', i', z', x', σ', τ', by omega, k2, ⟨k3.1, by omega⟩, k4, by omega, k6, k7, k8, k9, k10, lA.tr k11, lB.tr k12, lZ.tr (by omega) k13, k14⟩
      · refine Or.inr ⟨a, i, z, x, σ, τ, Nat.le_refl _, hi, ⟨hza, Nat.le_refl _⟩, han, Nat.le_refl _, hx, rfl, ?_, h, hc, tx_la.rf, tx_lb.rf, tx_lz.rf, e1, e2⟩
        rw [q_M_readProduct_10, r1', iv_Bf e1]
        simp only [Option.bind_some, iv_tI]
        rw [if_pos trivial, r2', iv_Bf e2]
        simp only [Option.bind_some, iv_tI]
        rw [if_pos trivial]
end Pr
