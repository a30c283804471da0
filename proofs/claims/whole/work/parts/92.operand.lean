/-! an operand, joint -/
section Op
variable {b d : Bool} {n a t z0 z : Nat} {c : Nat → Nat} {σ τ : ix_St} {T out : List Nat}
theorem j_unit (h : tx_J 0 c t n a σ τ) (hc : tx_cd σ τ z0 z T out) (hz : z < 400) (ho : out.length < 32) {v1 : Int32} (h47 : v1 ≠ 47) : (∃ σ' τ', ix_F 79 [.ref 105, .int v1] (ix_S0 b, σ) = some (.int 0, (ix_S0 b, σ')) ∧ ix_F 282 [.ref 135] (ix_S0 d, τ) = some (.int (-1), (ix_S0 d, τ')) ∧ tx_la σ σ' ∧ tx_lb τ τ' ∧ tx_bad σ' τ') ∨ ∃ x σ' τ', x ≠ 1 ∧ ix_F 79 [.ref 105, .int v1] (ix_S0 b, σ) = some (.int 1, (ix_S0 b, σ')) ∧ ix_F 282 [.ref 135] (ix_S0 d, τ) = some (.int 0, (ix_S0 d, τ')) ∧ tx_J 0 c t n (a + 1) σ' τ' ∧ tx_cd σ' τ' z0 (z + 1) T (x :: out) ∧ tx_la σ σ' ∧ tx_lb τ τ' ∧ tx_lz σ σ' τ τ' z ∧ a < n := by
  obtain ⟨n1, n3⟩ := j_isN h
  have hV := j_isV h
  have c68 : ix_S 79 2 68 [some (.ref 105), some (.int v1), none, none] [] (ix_S0 b, σ) = ix_S 79 2 90 [some (.ref 105), none, none, none] [] (ix_S0 b, σ) := by rw [q_Parser_readOperand_68, if_neg h47]
  by_cases e : (tx_tn c t a).1 = 3
  · have h33 := n1.mpr e
    obtain ⟨σ', τ', a1, a2, a3, a4, a5, a6, a7⟩ := j_takeN (b := b) (d := d) h hc hz ho e
    refine Or.inr ⟨_, σ', τ', ?_, ?_, a2, a3, a4, a5, a6, a7, h.lt (by omega)⟩
    · split <;> decide
    · rw [q_Parser_readOperand_0, if_pos h33, h33, if_neg (by decide), if_pos (by decide), q_Parser_readOperand_46, if_neg (by decide), c68]
      exact a1
  · have h33 : ¬ σ 100 7 = 33 := fun q => e (n1.mp q)
    by_cases e2 : (tx_tn c t a).1 = 2 ∧ 7 ≤ (tx_tn c t a).2.1 ∧ (tx_tn c t a).2.1 ≤ 17
    · obtain ⟨g1, g2⟩ := hV.mpr e2
      obtain ⟨σ', τ', a1, a2, a3, a4, a5, a6, a7⟩ := j_takeV (b := b) (d := d) h hc hz ho e2
      refine Or.inr ⟨0, σ', τ', by decide, ?_, a2, a3, a4, a5, a6, a7, h.lt (by omega)⟩
      rw [q_Parser_readOperand_0, if_neg h33, if_neg g1, if_neg g2, if_pos rfl, if_neg h47, if_neg (by decide), c68]
      exact a1
    · obtain ⟨σ', τ', b1, b2, b3, b4, b5⟩ := j_bl (b := b) (d := d) h 1
      refine Or.inl ⟨σ', τ', ?_, ?_, b4.la, b5.lb, b3⟩
      · have c62 : ix_S 79 2 62 [some (.ref 105), none, none, none] [] (ix_S0 b, σ) = some (.int 0, (ix_S0 b, σ')) := by
          rw [q_Parser_readOperand_62, b1]
          simp only [Option.bind_some, iv_tI]
          rw [if_pos (Or.inl trivial)]
        have c46 : ix_S 79 2 46 [some (.ref 105), some (.int v1), some (.int 0), none] [] (ix_S0 b, σ) = some (.int 0, (ix_S0 b, σ')) := by
          rw [q_Parser_readOperand_46, if_pos rfl, if_neg h47, if_pos rfl, c62]
        rw [q_Parser_readOperand_0, if_neg h33]
        by_cases g1 : σ 100 7 < 7
        · rw [if_pos g1, c46]
        · rw [if_neg g1]
          by_cases g2 : 17 < σ 100 7
          · rw [if_pos g2, c46]
          · exact absurd (hV.mp ⟨g1, g2⟩) e2
      · have r23 : ix_S 282 4 23 [some (.ref 135), none] [] (ix_S0 d, τ) = some (.int (-1), (ix_S0 d, τ')) := by
          rw [q_M_readUnit_23, if_pos rfl, if_neg (fun q => e (n3.mp q)), b2]
          simp only [Option.bind_some, iv_tI]
        rw [q_M_readUnit_0]
        by_cases g : τ 135 16 = 2
        · have h4 := h.ok.1.1
          have g2 : (tx_tn c t a).1 = 2 := by
            rw [h.2.2.2.2.1, show (2 : Int32) = nI 2 from rfl, nI_eq (by omega) (by omega)] at g
            exact g
          have hw := h.ok.2.1 g2
          rw [if_pos g, h.2.2.2.2.2 (by omega), q_M_canAsk_0, f_isIn, iv_Bf]
          · simp only [Option.bind_some, iv_tI]
            rw [if_pos (Or.inl trivial)]
            simp only [Option.bind_some, iv_tI]
            rw [if_pos trivial, r23]
          · intro q
            refine e2 ⟨g2, ?_, ?_⟩
            · exact (nI_leI (a := 7) (by omega) (by omega)).mp q.1
            · exact (nI_leI (b := 17) (by omega) (by omega)).mp q.2
        · rw [if_neg g, r23]
/-- a divisor: a number that isn't 0 -/
theorem j_div (h : tx_J 0 c t n a σ τ) (hc : tx_cd σ τ z0 z T out) (hz : z < 400) (ho : out.length < 32) : ((tx_tn c t a).1 ≠ 3 ∧ ∃ σ' τ', ix_F 79 [.ref 105, .int 47] (ix_S0 b, σ) = some (.int 0, (ix_S0 b, σ')) ∧ ix_F 255 [.ref 135, .int 1] (ix_S0 d, τ) = some (.int (-1), (ix_S0 d, τ')) ∧ tx_la σ σ' ∧ tx_lb τ τ' ∧ tx_bad σ' τ') ∨ ((tx_tn c t a).1 = 3 ∧ (tx_tn c t a).2.1 = 0 ∧ ∃ σ' τ', ix_F 79 [.ref 105, .int 47] (ix_S0 b, σ) = some (.int 0, (ix_S0 b, σ')) ∧ ix_F 255 [.ref 135, .int 2] (ix_S0 d, τ) = some (.int (-1), (ix_S0 d, τ')) ∧ tx_la σ σ' ∧ tx_lb τ τ' ∧ tx_bad σ' τ') ∨ ((tx_tn c t a).1 = 3 ∧ (tx_tn c t a).2.1 ≠ 0 ∧ ∃ σ' τ', ix_F 79 [.ref 105, .int 47] (ix_S0 b, σ) = some (.int 1, (ix_S0 b, σ')) ∧ ix_F 282 [.ref 135] (ix_S0 d, τ) = some (.int 0, (ix_S0 d, τ')) ∧ tx_J 0 c t n (a + 1) σ' τ' ∧ tx_cd σ' τ' z0 (z + 1) T (2 :: out) ∧ tx_la σ σ' ∧ tx_lb τ τ' ∧ tx_lz σ σ' τ τ' z ∧ a < n) := by
  obtain ⟨n1, n3⟩ := j_isN h
  by_cases e : (tx_tn c t a).1 = 3
  · have h33 := n1.mpr e
    have hv := h.num e
    have hx := h.ok.2.2.1 e
    have c0 : ix_F 79 [.ref 105, .int 47] (ix_S0 b, σ) = ix_S 79 2 68 [some (.ref 105), some (.int 47), none, none] [] (ix_S0 b, σ) := by
      rw [q_Parser_readOperand_0, if_pos h33, h33, if_neg (by decide), if_pos (by decide), q_Parser_readOperand_46, if_neg (by decide)]
    by_cases e0 : (tx_tn c t a).2.1 = 0
    · obtain ⟨σ', τ', b1, b2, b3, b4, b5⟩ := j_bl (b := b) (d := d) h 2
      refine Or.inr (Or.inl ⟨e, e0, σ', τ', ?_, b2, b4.la, b5.lb, b3⟩)
      rw [c0, q_Parser_readOperand_68, if_pos rfl, if_pos (by rw [hv, e0]; rfl), b1]
      simp only [Option.bind_some, iv_tI]
      rw [if_pos (Or.inl trivial)]
    · obtain ⟨σ', τ', a1, a2, a3, a4, a5, a6, a7⟩ := j_takeN (b := b) (d := d) h hc hz ho e
      rw [if_neg e0] at a4
      refine Or.inr (Or.inr ⟨e, e0, σ', τ', ?_, a2, a3, a4, a5, a6, a7, h.lt (by omega)⟩)
      rw [c0, q_Parser_readOperand_68, if_pos rfl, if_neg (by rw [hv]; exact nI_ne0 (by omega) (by omega))]
      exact a1
  · obtain ⟨σ', τ', b1, b2, b3, b4, b5⟩ := j_bl (b := b) (d := d) h 1
    have h33 : ¬ σ 100 7 = 33 := fun q => e (n1.mp q)
    refine Or.inl ⟨e, σ', τ', ?_, b2, b4.la, b5.lb, b3⟩
    have c62 : ix_S 79 2 62 [some (.ref 105), none, none, none] [] (ix_S0 b, σ) = some (.int 0, (ix_S0 b, σ')) := by
      rw [q_Parser_readOperand_62, b1]
      simp only [Option.bind_some, iv_tI]
      rw [if_pos (Or.inl trivial)]
    have c46 : ix_S 79 2 46 [some (.ref 105), some (.int 47), some (.int 0), none] [] (ix_S0 b, σ) = some (.int 0, (ix_S0 b, σ')) := by
      rw [q_Parser_readOperand_46, if_pos rfl, if_pos rfl, c62]
    rw [q_Parser_readOperand_0, if_neg h33]
    by_cases g1 : σ 100 7 < 7
    · rw [if_pos g1, c46]
    · rw [if_neg g1]
      by_cases g2 : 17 < σ 100 7
      · rw [if_pos g2, c46]
      · rw [if_neg g2, if_pos rfl, if_pos rfl, c62]
end Op
