/-! a sum, joint -/
section Su
variable {b d : Bool} {n t z0 : Nat} {c : Nat → Nat} {T B : List Nat}
/-- one more product: class at pc 8 with sign and waiting g, the reference's product and what is emitted behind it -/
theorem p_step (hn : n ≤ 400) (hB : B.length + 3 ≤ 32) {a i z x : Nat} {σ τ : ix_St} {g o : Int32} (hg : (g = 43 ∧ o = 2) ∨ (g = 45 ∧ o = 3)) (hi : i + 1 ≤ a) (hza : z + 1 ≤ a) (han : a ≤ n) (hx : x ≠ 1) (h : tx_J 0 c t n a σ τ) (hc : tx_cd σ τ z0 z T (x :: B)) :
    (∃ σ' τ', ix_S 73 3 8 [some (.ref 105), some (.int g), some (.int g), some (.int (nI i))] [] (ix_S0 b, σ) = some (.int 0, (ix_S0 b, σ')) ∧ ((ix_F 276 [.ref 135] (ix_S0 d, τ)).bind fun x4 => (if (ix_toI x4.1) = (-1 : Int32) then some (Value.int (-1 : Int32), (ix_S0 d, x4.2.2)) else ((ix_F 277 [.ref 135, .int o, .int (0 : Int32)] (ix_S0 d, x4.2.2)).bind fun x5 => ix_S 260 6 10 [some (.ref 135), none] [] (ix_S0 d, x5.2.2)))) = some (.int (-1), (ix_S0 d, τ')) ∧ tx_la σ σ' ∧ tx_lb τ τ' ∧ tx_bad σ' τ') ∨
    ∃ a' i' z' σ' τ', a < a' ∧ i' + 2 ≤ a' ∧ (z' ≤ a' ∧ z' + a ≤ z + a' + 1) ∧ a' ≤ n ∧ z ≤ z' ∧ ix_S 73 3 8 [some (.ref 105), some (.int g), some (.int g), some (.int (nI i))] [] (ix_S0 b, σ) = ix_S 73 3 85 [some (.ref 105), some (.int (σ' 100 7)), none, some (.int (nI i'))] [] (ix_S0 b, σ') ∧ ((ix_F 276 [.ref 135] (ix_S0 d, τ)).bind fun x4 => (if (ix_toI x4.1) = (-1 : Int32) then some (Value.int (-1 : Int32), (ix_S0 d, x4.2.2)) else ((ix_F 277 [.ref 135, .int o, .int (0 : Int32)] (ix_S0 d, x4.2.2)).bind fun x5 => ix_S 260 6 10 [some (.ref 135), none] [] (ix_S0 d, x5.2.2)))) = ix_S 260 6 10 [some (.ref 135), none] [] (ix_S0 d, τ') ∧ tx_J 0 c t n a' σ' τ' ∧ tx_cd σ' τ' z0 z' T (0 :: B) ∧ tx_la σ σ' ∧ tx_lb τ τ' ∧ tx_lz σ σ' τ τ' z := by
  have g47 : g ≠ 47 := by rcases hg with ⟨q, -⟩ | ⟨q, -⟩ <;> rw [q] <;> decide
  have g42 : g ≠ 42 := by rcases hg with ⟨q, -⟩ | ⟨q, -⟩ <;> rw [q] <;> decide
  have g32 : g ≠ 32 := by rcases hg with ⟨q, -⟩ | ⟨q, -⟩ <;> rw [q] <;> decide
  have h400 : ¬ (400 : Int32) ≤ nI i := nI_ge (b := 400) (by omega) (by omega)
  rcases j_unit (b := b) (d := d) h hc (by omega) (by show B.length + 1 < 32; omega) g47 with ⟨σ', τ', u1, u2, u3, u4, u5⟩ | ⟨y, σ2, τ2, hy, u1, u2, u3, u4, u5, u6, u7, u8⟩
  · refine Or.inl ⟨σ', τ', ?_, ?_, u3, u4, u5⟩
    · rw [q_Parser_readSum_8, if_neg h400, u1]
      simp only [Option.bind_some, iv_tI]
      rw [if_pos trivial, q_Parser_readSum_114]
    · rw [q_M_readProduct_0, u2]
      simp only [Option.bind_some, iv_tI]
      rw [if_pos trivial]
      simp only [Option.bind_some, iv_tI]
      rw [if_pos trivial]
  have cc : ix_S 73 3 8 [some (.ref 105), some (.int g), some (.int g), some (.int (nI i))] [] (ix_S0 b, σ) = ix_S 73 3 47 [some (.ref 105), none, some (.int g), some (.int (nI i))] [] (ix_S0 b, σ2) := by
    rw [q_Parser_readSum_8, if_neg h400, u1]
    simp only [Option.bind_some, iv_tI]
    rw [if_neg (by decide), if_neg g42, if_neg g47]
  have rc : ix_F 276 [.ref 135] (ix_S0 d, τ) = ix_S 276 5 10 [some (.ref 135), none] [] (ix_S0 d, τ2) := by
    rw [q_M_readProduct_0, u2]
    simp only [Option.bind_some, iv_tI]
    rw [if_neg (by decide)]
  rw [cc, rc]
  rcases p_prod (b := b) (d := d) (w := g) (B := x :: B) hn (by show B.length + 1 + 2 ≤ 32; omega) _ (a + 1) i (z + 1) y σ2 τ2 rfl (by omega) (by omega) (by omega) hy u3 u4 with ⟨σ', τ', k1, k2, k3, k4, k5⟩ | ⟨a', i', z', x', σ', τ', k1, k2, k3, k4, k5, k6, k7, k8, k9, k10, k11, k12, k13, k14, k15⟩
  · refine Or.inl ⟨σ', τ', k1, ?_, u5.tr k3, u6.tr k4, k5⟩
    rw [k2]
    simp only [Option.bind_some, iv_tI]
    rw [if_pos trivial]
  · obtain ⟨e1, -⟩ := j_isG (d := d) k9 (g := 42) (by decide)
    obtain ⟨e2, -⟩ := j_isG (d := d) k9 (g := 47) (by decide)
    have hts : iv_ts (x' :: x :: B) o 0 = some (0 :: B) := by
      unfold iv_ts
      rcases hg with ⟨-, q⟩ | ⟨-, q⟩
      · rw [q, if_neg (by decide), if_neg (by decide), if_pos (by decide)]
        show (if x' ≠ 1 ∧ x ≠ 1 then some (0 :: B) else none) = _
        rw [if_pos ⟨k6, hx⟩]
      · rw [q, if_neg (by decide), if_neg (by decide), if_pos (by decide)]
        show (if x' ≠ 1 ∧ x ≠ 1 then some (0 :: B) else none) = _
        rw [if_pos ⟨k6, hx⟩]
    have hen : iv_enc (((0 : Int32) <<< ((6 : Int32) &&& 31)) ||| g) o 0 := by
      rcases hg with ⟨q1, q2⟩ | ⟨q1, q2⟩
      · rw [q1, q2, show ((0 : Int32) <<< ((6 : Int32) &&& 31)) ||| 43 = 43 by decide]; unfold iv_enc; simp
      · rw [q1, q2, show ((0 : Int32) <<< ((6 : Int32) &&& 31)) ||| 45 = 45 by decide]; unfold iv_enc; simp
    obtain ⟨σ3, τ3, v1, v2, v3, v4, v5, v6, v7, v8⟩ := j_emit (b := b) (d := d) k9 k10 (by omega) (kind := g) (value := 0) (op := o) (arg := 0) hen hts (by show B.length + 1 ≤ 32; omega)
    refine Or.inr ⟨a', i', z' + 1, σ3, τ3, by omega, k2, ⟨by omega, by omega⟩, k4, by omega, ?_, ?_, v3, v4, (u5.tr k11).tr v5, (u6.tr k12).tr v6, (u7.tr (by omega) k13).tr (by omega) v7⟩
    · rw [k7, q_Parser_readSum_47, if_neg (show ¬ σ' 100 7 = 42 from fun q => k14 (e1.mp q)), if_neg (show ¬ σ' 100 7 = 47 from fun q => k15 (e2.mp q)), if_neg g32, v1]
      simp only [Option.bind_some]
      rw [v8]
    · rw [k8]
      simp only [Option.bind_some, iv_tI]
      rw [if_neg (by decide), v2]
      simp only [Option.bind_some]
end Su
