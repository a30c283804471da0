/-! all of a sum, joint -/
section Sv
variable {b d : Bool} {n t z0 : Nat} {c : Nat → Nat} {T B : List Nat}
theorem p_sumL (hn : n ≤ 400) (hB : B.length + 3 ≤ 32) : ∀ (m a i z x : Nat) (σ τ : ix_St), n - a = m → i + 2 ≤ a → z ≤ a → a ≤ n → x ≠ 1 → tx_J 0 c t n a σ τ → tx_cd σ τ z0 z T (x :: B) →
    (∃ σ' τ', ix_S 73 3 85 [some (.ref 105), some (.int (σ 100 7)), none, some (.int (nI i))] [] (ix_S0 b, σ) = some (.int 0, (ix_S0 b, σ')) ∧ ix_S 260 6 10 [some (.ref 135), none] [] (ix_S0 d, τ) = some (.int (-1), (ix_S0 d, τ')) ∧ tx_la σ σ' ∧ tx_lb τ τ' ∧ tx_bad σ' τ') ∨
    ∃ a' z' x' σ' τ', a ≤ a' ∧ (z' ≤ a' ∧ z' + a ≤ z + a') ∧ a' ≤ n ∧ z ≤ z' ∧ x' ≠ 1 ∧ ix_S 73 3 85 [some (.ref 105), some (.int (σ 100 7)), none, some (.int (nI i))] [] (ix_S0 b, σ) = some (.int 1, (ix_S0 b, σ')) ∧ ix_S 260 6 10 [some (.ref 135), none] [] (ix_S0 d, τ) = some (.int 0, (ix_S0 d, τ')) ∧ tx_J 0 c t n a' σ' τ' ∧ tx_cd σ' τ' z0 z' T (x' :: B) ∧ tx_la σ σ' ∧ tx_lb τ τ' ∧ tx_lz σ σ' τ τ' z := by
  intro m
  induction m using Nat.strongRecOn with
  | ind m ih =>
    intro a i z x σ τ hm hi hza han hx h hc
    obtain ⟨g1, r1⟩ := j_isG (d := d) h (g := 43) (by decide)
    obtain ⟨g2, r2⟩ := j_isG (d := d) h (g := 45) (by decide)
    have r1' : ix_F 262 [.ref 135, .int (43 : Int32)] (ix_S0 d, τ) = _ := r1
    have r2' : ix_F 262 [.ref 135, .int (45 : Int32)] (ix_S0 d, τ) = _ := r2
    -- behind the sign
    have go : ∀ (g o : Int32), (g = 43 ∧ o = 2) ∨ (g = 45 ∧ o = 3) → a < n → ∀ σ1 τ1, tx_J 0 c t n (a + 1) σ1 τ1 → tx_fa σ σ1 → tx_fb τ τ1 →
        ix_S 73 3 85 [some (.ref 105), some (.int (σ 100 7)), none, some (.int (nI i))] [] (ix_S0 b, σ) = ix_S 73 3 8 [some (.ref 105), some (.int g), some (.int g), some (.int (nI (i + 1)))] [] (ix_S0 b, σ1) →
        ix_S 260 6 10 [some (.ref 135), none] [] (ix_S0 d, τ) = ((ix_F 276 [.ref 135] (ix_S0 d, τ1)).bind fun x4 => (if (ix_toI x4.1) = (-1 : Int32) then some (Value.int (-1 : Int32), (ix_S0 d, x4.2.2)) else ((ix_F 277 [.ref 135, .int o, .int (0 : Int32)] (ix_S0 d, x4.2.2)).bind fun x5 => ix_S 260 6 10 [some (.ref 135), none] [] (ix_S0 d, x5.2.2)))) →
        (∃ σ' τ', ix_S 73 3 85 [some (.ref 105), some (.int (σ 100 7)), none, some (.int (nI i))] [] (ix_S0 b, σ) = some (.int 0, (ix_S0 b, σ')) ∧ ix_S 260 6 10 [some (.ref 135), none] [] (ix_S0 d, τ) = some (.int (-1), (ix_S0 d, τ')) ∧ tx_la σ σ' ∧ tx_lb τ τ' ∧ tx_bad σ' τ') ∨
        ∃ a' z' x' σ' τ', a ≤ a' ∧ (z' ≤ a' ∧ z' + a ≤ z + a') ∧ a' ≤ n ∧ z ≤ z' ∧ x' ≠ 1 ∧ ix_S 73 3 85 [some (.ref 105), some (.int (σ 100 7)), none, some (.int (nI i))] [] (ix_S0 b, σ) = some (.int 1, (ix_S0 b, σ')) ∧ ix_S 260 6 10 [some (.ref 135), none] [] (ix_S0 d, τ) = some (.int 0, (ix_S0 d, τ')) ∧ tx_J 0 c t n a' σ' τ' ∧ tx_cd σ' τ' z0 z' T (x' :: B) ∧ tx_la σ σ' ∧ tx_lb τ τ' ∧ tx_lz σ σ' τ τ' z := by
      intro g o hg han1 σ1 τ1 a3 a4 a5 hcl hrf
      rw [hcl, hrf]
      rcases p_step (b := b) (d := d) hn hB hg (a := a + 1) (i := i + 1) (by omega) (by omega) (by omega) hx a3 (hc.ab a4 a5) with ⟨σ', τ', k1, k2, k3, k4, k5⟩ | ⟨a', i', z', σ', τ', k1, k2, k3, k4, k5, k6, k7, k8, k9, k10, k11, k12⟩
      · exact Or.inl ⟨σ', τ', k1, k2, a4.la.tr k3, a5.lb.tr k4, k5⟩
      · rw [k6, k7]
        rcases ih (n - a') (by omega) a' i' z' 0 σ' τ' rfl k2 k3.1 k4 (by decide) k8 k9 with ⟨σ2, τ2, q1, q2, q3, q4, q5⟩ | ⟨a2, z2, x2, σ2, τ2, q1, q2, q3, q4, q5, q6, q7, q8, q9, q10, q11, q12⟩
        · exact Or.inl ⟨σ2, τ2, q1, q2, (a4.la.tr k10).tr q3, (a5.lb.tr k11).tr q4, q5⟩
        · exact Or.inr ⟨a2, z2, x2, σ2, τ2, by omega, ⟨q2.1, by omega⟩, q3, by omega, q5, q6, q7, q8, q9, (a4.la.tr k10).tr q10, (a5.lb.tr k11).tr q11, ((tx_lz.ab a4 a5).tr (Nat.le_refl _) k12).tr k5 q12⟩
    by_cases e1 : (tx_tn c t a).1 = 4 ∧ (tx_tn c t a).2.1 = 43
    · have k7 : σ 100 7 = 43 := g1.mpr e1
      have hv : τ 135 17 = 43 := by rw [h.2.2.2.2.2 (by omega), e1.2]; rfl
      obtain ⟨σ1, τ1, a1, a2, a3, a4, a5, -⟩ := j_adv (b := b) (d := d) h (h.lt (by omega))
      refine go 43 2 (Or.inl ⟨rfl, rfl⟩) (h.lt (by omega)) σ1 τ1 a3 a4 a5 ?_ ?_
      · rw [q_Parser_readSum_85, if_pos k7, q_Parser_readSum_99, q_Parser_readSum_101, a1]
        simp only [Option.bind_some]
        rw [k7, nI_1]
      · rw [q_M_readSum_10, r1', iv_Bt e1]
        simp only [Option.bind_some, iv_tI]
        rw [if_neg (by decide), if_pos hv, a2]
        simp only [Option.bind_some]
    · have k7 : ¬ σ 100 7 = 43 := fun q => e1 (g1.mp q)
      by_cases e2 : (tx_tn c t a).1 = 4 ∧ (tx_tn c t a).2.1 = 45
      · have k8 : σ 100 7 = 45 := g2.mpr e2
        have hv : ¬ τ 135 17 = 43 := by rw [h.2.2.2.2.2 (by omega), e2.2]; decide
        obtain ⟨σ1, τ1, a1, a2, a3, a4, a5, -⟩ := j_adv (b := b) (d := d) h (h.lt (by omega))
        refine go 45 3 (Or.inr ⟨rfl, rfl⟩) (h.lt (by omega)) σ1 τ1 a3 a4 a5 ?_ ?_
        · rw [q_Parser_readSum_85, if_neg k7, if_pos k8, q_Parser_readSum_99, q_Parser_readSum_101, a1]
          simp only [Option.bind_some]
          rw [k8, nI_1]
        · rw [q_M_readSum_10, r1', iv_Bf e1]
          simp only [Option.bind_some, iv_tI]
          rw [if_pos trivial, r2', iv_Bt e2]
          simp only [Option.bind_some, iv_tI]
          rw [if_neg (by decide), if_neg hv, a2]
          simp only [Option.bind_some]
      · have k8 : ¬ σ 100 7 = 45 := fun q => e2 (g2.mp q)
        refine Or.inr ⟨a, z, x, σ, τ, Nat.le_refl _, ⟨hza, Nat.le_refl _⟩, han, Nat.le_refl _, hx, ?_, ?_, h, hc, tx_la.rf, tx_lb.rf, tx_lz.rf⟩
        · rw [q_Parser_readSum_85, if_neg k7, if_neg k8]
        · rw [q_M_readSum_10, r1', iv_Bf e1]
          simp only [Option.bind_some, iv_tI]
          rw [if_pos trivial, r2', iv_Bf e2]
          simp only [Option.bind_some, iv_tI]
          rw [if_pos trivial]
end Sv
section Sw
variable {b d : Bool} {n t z0 : Nat} {c : Nat → Nat} {T B : List Nat}
/-- readSum beside readSum -/
theorem j_sum (hn : n ≤ 400) (hB : B.length + 3 ≤ 32) {a z : Nat} {σ τ : ix_St} (h1 : 1 ≤ a) (hza : z ≤ a) (hz : z < 400) (h : tx_J 0 c t n a σ τ) (hc : tx_cd σ τ z0 z T B) :
    (∃ σ' τ', ix_F 73 [.ref 105] (ix_S0 b, σ) = some (.int 0, (ix_S0 b, σ')) ∧ ix_F 260 [.ref 135] (ix_S0 d, τ) = some (.int (-1), (ix_S0 d, τ')) ∧ tx_la σ σ' ∧ tx_lb τ τ' ∧ tx_bad σ' τ') ∨
    ∃ a' z' x' σ' τ', a < a' ∧ (z' ≤ a' ∧ z' + a ≤ z + a') ∧ a' ≤ n ∧ z ≤ z' ∧ x' ≠ 1 ∧ ix_F 73 [.ref 105] (ix_S0 b, σ) = some (.int 1, (ix_S0 b, σ')) ∧ ix_F 260 [.ref 135] (ix_S0 d, τ) = some (.int 0, (ix_S0 d, τ')) ∧ tx_J 0 c t n a' σ' τ' ∧ tx_cd σ' τ' z0 z' T (x' :: B) ∧ tx_la σ σ' ∧ tx_lb τ τ' ∧ tx_lz σ σ' τ τ' z := by
  have h400 : ¬ (400 : Int32) ≤ nI 0 := by decide
  have c0 : ix_F 73 [.ref 105] (ix_S0 b, σ) = ix_S 73 3 8 [some (.ref 105), some (.int (32 : Int32)), some (.int (32 : Int32)), some (.int (nI 0))] [] (ix_S0 b, σ) := q_Parser_readSum_0 b σ
  rw [c0, q_M_readSum_0, q_M_readProduct_0]
  rcases j_unit (b := b) (d := d) h hc hz (by omega) (v1 := 32) (by decide) with ⟨σ', τ', u1, u2, u3, u4, u5⟩ | ⟨y, σ2, τ2, hy, u1, u2, u3, u4, u5, u6, u7, u8⟩
  · refine Or.inl ⟨σ', τ', ?_, ?_, u3, u4, u5⟩
    · rw [q_Parser_readSum_8, if_neg h400, u1]
      simp only [Option.bind_some, iv_tI]
      rw [if_pos trivial, q_Parser_readSum_114]
    · rw [u2]
      simp only [Option.bind_some, iv_tI]
      rw [if_pos trivial]
      simp only [Option.bind_some, iv_tI]
      rw [if_pos trivial]
  have cc : ix_S 73 3 8 [some (.ref 105), some (.int (32 : Int32)), some (.int (32 : Int32)), some (.int (nI 0))] [] (ix_S0 b, σ) = ix_S 73 3 47 [some (.ref 105), none, some (.int 32), some (.int (nI 0))] [] (ix_S0 b, σ2) := by
    rw [q_Parser_readSum_8, if_neg h400, u1]
    simp only [Option.bind_some, iv_tI]
    rw [if_neg (by decide), if_neg (by decide), if_neg (by decide)]
  rw [cc, u2]
  simp only [Option.bind_some, iv_tI]
  rw [if_neg (show ¬ (0 : Int32) = -1 by decide)]
  rcases p_prod (b := b) (d := d) (w := 32) hn (by omega) _ (a + 1) 0 (z + 1) y σ2 τ2 rfl (by omega) (by omega) (by omega) hy u3 u4 with ⟨σ', τ', k1, k2, k3, k4, k5⟩ | ⟨a', i', z', x', σ', τ', k1, k2, k3, k4, k5, k6, k7, k8, k9, k10, k11, k12, k13, k14, k15⟩
  · refine Or.inl ⟨σ', τ', k1, ?_, u5.tr k3, u6.tr k4, k5⟩
    rw [k2]
    simp only [Option.bind_some, iv_tI]
    rw [if_pos trivial]
  · obtain ⟨e1, -⟩ := j_isG (d := d) k9 (g := 42) (by decide)
    obtain ⟨e2, -⟩ := j_isG (d := d) k9 (g := 47) (by decide)
    rw [k7, q_Parser_readSum_47, if_neg (show ¬ σ' 100 7 = 42 from fun q => k14 (e1.mp q)), if_neg (show ¬ σ' 100 7 = 47 from fun q => k15 (e2.mp q)), if_pos rfl, k8]
    simp only [Option.bind_some, iv_tI]
    rw [if_neg (show ¬ (0 : Int32) = -1 by decide)]
    rcases p_sumL (b := b) (d := d) hn hB _ a' i' z' x' σ' τ' rfl k2 k3.1 k4 k6 k9 k10 with ⟨σ3, τ3, q1, q2, q3, q4, q5⟩ | ⟨a2, z2, x2, σ3, τ3, q1, q2, q3, q4, q5, q6, q7, q8, q9, q10, q11, q12⟩
    · exact Or.inl ⟨σ3, τ3, q1, q2, (u5.tr k11).tr q3, (u6.tr k12).tr q4, q5⟩
    · exact Or.inr ⟨a2, z2, x2, σ3, τ3, by omega, ⟨q2.1, by omega⟩, q3, by omega, q5, q6, q7, q8, q9, (u5.tr k11).tr q10, (u6.tr k12).tr q11, (u7.tr (by omega) k13).tr (by omega) q12⟩
end Sw
