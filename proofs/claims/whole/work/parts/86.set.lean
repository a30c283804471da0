/-! a set of passengers -/
def tx_c (S : Nat) : Nat → Nat
  | 0 => 0
  | m + 1 => tx_c S m + (if S.testBit m = true then 1 else 0)
theorem tx_c_le (S : Nat) : ∀ m, tx_c S m ≤ m
  | 0 => Nat.le_refl _
  | m + 1 => by
    have := tx_c_le S m
    unfold tx_c
    split <;> omega
theorem tx_orb (S p j : Nat) : (S ||| 2 ^ p).testBit j = (S.testBit j || decide (p = j)) := by rw [Nat.testBit_or, tx_b2]
theorem tx_c_hi (S p : Nat) : ∀ m, m ≤ p → tx_c (S ||| 2 ^ p) m = tx_c S m
  | 0, _ => rfl
  | m + 1, h => by
    unfold tx_c
    rw [tx_c_hi S p m (by omega), tx_orb, decide_eq_false (by omega), Bool.or_false]
theorem tx_c_add (S p : Nat) (hp : S.testBit p = false) : ∀ m, p < m → tx_c (S ||| 2 ^ p) m = tx_c S m + 1
  | 0, h => absurd h (by omega)
  | m + 1, h => by
    unfold tx_c
    by_cases e : p = m
    · rw [tx_c_hi S p m (by omega), tx_orb, decide_eq_true e, Bool.or_true, if_pos rfl, ← e, hp, if_neg (by decide)]
    · rw [tx_c_add S p hp m (by omega), tx_orb, decide_eq_false e, Bool.or_false]
      omega
theorem tx_c_full (S : Nat) : ∀ m, tx_c S m = m → ∀ j, j < m → S.testBit j = true
  | 0, _, j, h => absurd h (by omega)
  | m + 1, h, j, hj => by
    have h1 := tx_c_le S m
    unfold tx_c at h
    by_cases e : S.testBit m = true
    · rw [if_pos e] at h
      by_cases ej : j = m
      · rw [ej]; exact e
      · exact tx_c_full S m (by omega) j (by omega)
    · rw [if_neg e] at h
      omega
theorem f_hasN {d : Bool} {τ : ix_St} {S x : Nat} (hS : S < 2 ^ 12) (hx : x < 12) : ix_F 197 [.ref 135, .int (nI S), .int (nI x)] (ix_S0 d, τ) = some (.int (iv_B (S.testBit x = true)), (ix_S0 d, τ)) := by
  have h2 : S < 4096 := hS
  rw [q_M_has_0]
  by_cases e : S.testBit x = true
  · rw [if_pos ((iv_bit1 (by omega) (by omega)).mpr e), iv_Bt e]
  · rw [if_neg (fun q => e ((iv_bit1 (by omega) (by omega)).mp q)), iv_Bf e]
section Se
variable {k n t N A O : Nat} {c : Nat → Nat} {b d : Bool}
/-- one more of the set -/
theorem j_more {a S i : Nat} {σ τ : ix_St} (hN : N ≤ 12) (hA : A < 2 ^ 12) (hO : O < 2 ^ 12) (hAO : ∀ x, x < 12 → (A.testBit x = true ↔ x < N ∧ O.testBit x = true)) (hS : S < 2 ^ 12) (h : tx_J k c t n a σ τ) (h7 : τ 135 7 = nI N) (hi : i = 0 ∨ (i ≤ 12 ∧ (tx_tn c t a).1 = 3)) :
    (∃ σ' τ', ix_S 77 4 4 [some (.ref 105), some (.int (nI A)), some (.int (nI S)), some (.int (nI i)), none] [] (ix_S0 b, σ) = some (.int 0, (ix_S0 b, σ')) ∧ ix_S 275 5 8 [some (.ref 135), some (.int (nI O)), some (.int (nI S)), some (.int 1), none] [] (ix_S0 d, τ) = some (.int (-1), (ix_S0 d, τ')) ∧ tx_fa σ σ' ∧ tx_fb τ τ' ∧ tx_bad σ' τ') ∨
    ∃ x σ' τ', x < 12 ∧ A.testBit x = true ∧ S.testBit x = false ∧ ix_S 77 4 4 [some (.ref 105), some (.int (nI A)), some (.int (nI S)), some (.int (nI i)), none] [] (ix_S0 b, σ) = ix_S 77 4 4 [some (.ref 105), some (.int (nI A)), some (.int (nI (S ||| 2 ^ x))), some (.int (nI (i + 1))), none] [] (ix_S0 b, σ') ∧ ix_S 275 5 8 [some (.ref 135), some (.int (nI O)), some (.int (nI S)), some (.int 1), none] [] (ix_S0 d, τ) = ix_S 275 5 8 [some (.ref 135), some (.int (nI O)), some (.int (nI (S ||| 2 ^ x))), some (.int (iv_B ((tx_tn c t (a + 1)).1 = 3))), none] [] (ix_S0 d, τ') ∧ tx_fa σ σ' ∧ tx_fb τ τ' ∧ tx_J k c t n (a + 1) σ' τ' := by
  obtain ⟨n1, n3⟩ := j_isN h
  have hA2 : A ^^^ (A &&& S) < 2 ^ 12 := tx_rm_lt hA
  obtain ⟨v, σ', d1, d2, d3⟩ := j_one (b := b) (d := d) h hA2
  have hi12 : i ≤ 12 := by omega
  -- the class's round
  have cl : ix_S 77 4 4 [some (.ref 105), some (.int (nI A)), some (.int (nI S)), some (.int (nI i)), none] [] (ix_S0 b, σ) = if v = -1 then some (.int 0, (ix_S0 b, σ')) else ix_S 77 4 4 [some (.ref 105), some (.int (nI A)), some (.int (nI S ||| ((1 : Int32) <<< (v &&& 31)))), some (.int (nI (i + 1))), none] [] (ix_S0 b, σ') := by
    rw [q_Parser_expectSome_4, if_neg (show ¬ (12 : Int32) < nI i from nI_nlt (a := 12) (by omega) (by omega)), tx_rmN, d1]
    simp only [Option.bind_some, iv_tI]
    by_cases e : i = 0
    · rw [if_pos (by rw [e]; decide), nI_1]
    · rw [if_neg (nI_nle (by omega) (by omega)), if_pos (n1.mpr (by omega)), nI_1]
  have eve : ∀ x, (A ^^^ (A &&& S)).testBit x = (A.testBit x && !S.testBit x) := fun x => tx_rmb A S x
  rcases d3 with ⟨g1, g2, τ', g3, g4, g5⟩ | ⟨g1, g2, g6, τ', g3, g4, g5⟩ | ⟨g1, g2, g6, g7, τ', g3, g4, g5⟩
  · refine Or.inl ⟨σ', τ', by rw [cl, if_pos g2], ?_, d2, g4, g5⟩
    rw [q_M_readSet_8, if_neg (show ¬ (1 : Int32) = 0 by decide), if_neg (fun q => g1 (n3.mp q)), r_num1 h g1 g3]
    simp only [Option.bind_some, iv_tI]
    rw [if_pos trivial]
  · have hv2 : τ 135 17 = nI (tx_tn c t a).2.1 := h.2.2.2.2.2 (by omega)
    have hx9 := h.ok.2.2.1 g1
    refine Or.inl ⟨σ', τ', by rw [cl, if_pos g6], ?_, d2, g4, g5⟩
    rw [q_M_readSet_8, if_neg (show ¬ (1 : Int32) = 0 by decide), if_pos (n3.mpr g1), h7, hv2]
    by_cases hx : (tx_tn c t a).2.1 < N
    · have hx12 : (tx_tn c t a).2.1 < 12 := by omega
      have g8 : (A.testBit (tx_tn c t a).2.1 && !S.testBit (tx_tn c t a).2.1) = false := by
        rcases g2 with g2 | g2
        · omega
        · rw [eve] at g2; exact g2
      rw [if_neg (nI_ge hx (by omega)), f_hasN hS hx12]
      simp only [Option.bind_some, iv_tI]
      by_cases e : S.testBit (tx_tn c t a).2.1 = true
      · rw [iv_Bt e, if_neg (by decide), g3]
        simp only [Option.bind_some, iv_tI]
      · rw [iv_Bf e, if_pos rfl, hv2, f_hasN hO hx12]
        simp only [Option.bind_some, iv_tI]
        have e2 : ¬ O.testBit (tx_tn c t a).2.1 = true := by
          intro q
          have q2 := (hAO _ hx12).mpr ⟨hx, q⟩
          have q3 : S.testBit (tx_tn c t a).2.1 = false := by
            cases hq : S.testBit (tx_tn c t a).2.1
            · rfl
            · exact absurd hq e
          rw [q2, q3] at g8
          cases g8
        rw [iv_Bf e2, if_pos rfl, g3]
        simp only [Option.bind_some, iv_tI]
    · rw [if_pos (nI_le (by omega) (by omega)), r_num2 h g1 hN hx g3]
      simp only [Option.bind_some, iv_tI]
      rw [if_pos trivial]
  · have hv2 : τ 135 17 = nI (tx_tn c t a).2.1 := h.2.2.2.2.2 (by omega)
    rw [eve, Bool.and_eq_true, Bool.not_eq_true'] at g6
    obtain ⟨g6, g8⟩ := g6
    have hxN := (hAO _ g2).mp g6
    obtain ⟨-, n4⟩ := j_isN g5
    refine Or.inr ⟨(tx_tn c t a).2.1, σ', τ', g2, g6, g8, ?_, ?_, d2, g4, g5⟩
    · rw [cl, g7, if_neg (iv_m1 (by omega)), iv_shl (by omega), iv_or]
    · rw [q_M_readSet_8, if_neg (show ¬ (1 : Int32) = 0 by decide), if_pos (n3.mpr g1), h7, hv2, if_neg (nI_ge hxN.1 (by omega)), f_hasN hS g2]
      simp only [Option.bind_some, iv_tI]
      rw [iv_Bf (by rw [g8]; decide), if_pos rfl, hv2, f_hasN hO g2]
      simp only [Option.bind_some, iv_tI]
      rw [iv_Bt hxN.2, if_neg (by decide), h7, r_num3 h g1 hN hxN.1 g3]
      simp only [Option.bind_some, iv_tI]
      rw [if_neg (iv_m1 (by omega)), iv_shl (by omega), iv_or]
      by_cases e : (tx_tn c t (a + 1)).1 = 3
      · rw [if_pos (n4.mpr e), iv_Bt e]
      · rw [if_neg (fun q => e (n4.mp q)), iv_Bf e]
end Se
