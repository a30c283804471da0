/-! a line of the log -/
section Sf
variable {k n t N A O : Nat} {c : Nat → Nat} {b d : Bool}
theorem j_sets (hN : N ≤ 12) (hA : A < 2 ^ 12) (hO : O < 2 ^ 12) (hAO : ∀ x, x < 12 → (A.testBit x = true ↔ x < N ∧ O.testBit x = true)) : ∀ (m i S a : Nat) (σ τ : ix_St), 12 - i = m → i ≤ 12 → 0 < i → tx_c S 12 = i → S < 2 ^ 12 → (∀ x, S.testBit x = true → A.testBit x = true) → tx_J k c t n a σ τ → τ 135 7 = nI N →
    ∃ v w σ' τ', ix_S 77 4 4 [some (.ref 105), some (.int (nI A)), some (.int (nI S)), some (.int (nI i)), none] [] (ix_S0 b, σ) = some (.int v, (ix_S0 b, σ')) ∧ ix_S 275 5 8 [some (.ref 135), some (.int (nI O)), some (.int (nI S)), some (.int (iv_B ((tx_tn c t a).1 = 3))), none] [] (ix_S0 d, τ) = some (.int w, (ix_S0 d, τ')) ∧ tx_fa σ σ' ∧ tx_fb τ τ' ∧ ((v = 0 ∧ w = -1 ∧ tx_bad σ' τ') ∨ ∃ S' a', S' ≠ 0 ∧ S' < 2 ^ 12 ∧ (∀ x, S'.testBit x = true → A.testBit x = true) ∧ v = nI S' ∧ w = nI S' ∧ a ≤ a' ∧ tx_J k c t n a' σ' τ') := by
  intro m
  induction m with
  | zero =>
    intro i S a σ τ hm hi h0 hc hS hSA h h7
    by_cases e : (tx_tn c t a).1 = 3
    · rw [iv_Bt e]
      rcases j_more (b := b) (d := d) (i := i) hN hA hO hAO hS h h7 (Or.inr ⟨by omega, e⟩) with ⟨σ', τ', a1, a2, a3, a4, a5⟩ | ⟨x, σ', τ', hx, -, hx2, -⟩
      · exact ⟨0, -1, σ', τ', a1, a2, a3, a4, Or.inl ⟨rfl, rfl, a5⟩⟩
      · rw [tx_c_full S 12 (by omega) x hx] at hx2
        cases hx2
    · obtain ⟨n1, -⟩ := j_isN h
      refine ⟨nI S, nI S, σ, τ, ?_, ?_, tx_fa.rf, tx_fb.rf, Or.inr ⟨S, a, ?_, hS, hSA, rfl, rfl, Nat.le_refl _, h⟩⟩
      · rw [q_Parser_expectSome_4, if_neg (show ¬ (12 : Int32) < nI i from nI_nlt (a := 12) (by omega) (by omega)), if_neg (nI_nle h0 (by omega)), if_neg (fun q => e (n1.mp q))]
      · rw [iv_Bf e, q_M_readSet_8, if_pos rfl]
      · intro q
        rw [q] at hc
        have : tx_c 0 12 = 0 := by decide
        omega
  | succ m ih =>
    intro i S a σ τ hm hi h0 hc hS hSA h h7
    by_cases e : (tx_tn c t a).1 = 3
    · rw [iv_Bt e]
      rcases j_more (b := b) (d := d) (i := i) hN hA hO hAO hS h h7 (Or.inr ⟨by omega, e⟩) with ⟨σ', τ', a1, a2, a3, a4, a5⟩ | ⟨x, σ1, τ1, hx, hx1, hx2, a1, a2, a3, a4, a5⟩
      · exact ⟨0, -1, σ', τ', a1, a2, a3, a4, Or.inl ⟨rfl, rfl, a5⟩⟩
      · have hp : (2 : Nat) ^ x < 2 ^ 12 := Nat.pow_lt_pow_right (by decide) hx
        obtain ⟨v, w, σ', τ', b1, b2, b3, b4, b5⟩ := ih (i + 1) (S ||| 2 ^ x) (a + 1) σ1 τ1 (by omega) (by omega) (by omega) (by rw [tx_c_add S x hx2 12 hx, hc]) (Nat.or_lt_two_pow hS hp) (fun y hy => by
          rw [tx_orb, Bool.or_eq_true, decide_eq_true_eq] at hy
          rcases hy with hy | hy
          · exact hSA y hy
          · rw [← hy]; exact hx1) a5 ((a4.2 7 (by omega) (by omega) (by omega) (by omega) (by omega) (by omega)).trans h7)
        refine ⟨v, w, σ', τ', a1.trans b1, a2.trans b2, a3.tr b3, a4.tr b4, ?_⟩
        rcases b5 with b5 | ⟨S', a', c1, c2, c3, c4, c5, c6, c7⟩
        · exact Or.inl b5
        · exact Or.inr ⟨S', a', c1, c2, c3, c4, c5, by omega, c7⟩
    · obtain ⟨n1, -⟩ := j_isN h
      refine ⟨nI S, nI S, σ, τ, ?_, ?_, tx_fa.rf, tx_fb.rf, Or.inr ⟨S, a, ?_, hS, hSA, rfl, rfl, Nat.le_refl _, h⟩⟩
      · rw [q_Parser_expectSome_4, if_neg (show ¬ (12 : Int32) < nI i from nI_nlt (a := 12) (by omega) (by omega)), if_neg (nI_nle h0 (by omega)), if_neg (fun q => e (n1.mp q))]
      · rw [iv_Bf e, q_M_readSet_8, if_pos rfl]
      · intro q
        rw [q] at hc
        have : tx_c 0 12 = 0 := by decide
        omega
/-- a set behind a word -/
theorem j_set {a : Nat} {σ τ : ix_St} (hN : N ≤ 12) (hA : A < 2 ^ 12) (hO : O < 2 ^ 12) (hAO : ∀ x, x < 12 → (A.testBit x = true ↔ x < N ∧ O.testBit x = true)) (h : tx_J k c t n a σ τ) (ha : (tx_tn c t a).1 ≠ 0) (h7 : τ 135 7 = nI N) : ∃ σ1 v w σ' τ', ix_F 142 [.ref 100] (ix_S0 b, σ) = some (.null, (ix_S0 b, σ1)) ∧ σ1 105 = σ 105 ∧ ix_F 77 [.ref 105, .int (nI A)] (ix_S0 b, σ1) = some (.int v, (ix_S0 b, σ')) ∧ ix_F 275 [.ref 135, .int (nI O)] (ix_S0 d, τ) = some (.int w, (ix_S0 d, τ')) ∧ tx_fa σ σ' ∧ tx_fb τ τ' ∧ ((v = 0 ∧ w = -1 ∧ tx_bad σ' τ') ∨ ∃ S' a', S' ≠ 0 ∧ S' < 2 ^ 12 ∧ (∀ x, S'.testBit x = true → A.testBit x = true) ∧ v = nI S' ∧ w = nI S' ∧ a < a' ∧ tx_J k c t n a' σ' τ') := by
  obtain ⟨σ1, τ1, a1, a2, a3, a4, a5, -⟩ := j_adv (b := b) (d := d) h (h.lt ha)
  have h71 : τ1 135 7 = nI N := (a5.2 7 (by omega) (by omega) (by omega) (by omega) (by omega) (by omega)).trans h7
  have e105 : σ1 105 = σ 105 := by
    funext j
    by_cases e1 : j = 1
    · rw [e1, a3.2.1.2.1, h.2.1.2.1]
    · by_cases e2 : j = 2
      · rw [e2, a3.2.1.2.2, h.2.1.2.2]
      · exact a4.2 j e1 e2
  have z0 : (0 : Int32) = nI 0 := rfl
  have hr : ∀ (w : Int32) (ρ : ix_St), ix_S 275 5 8 [some (.ref 135), some (.int (nI O)), some (.int (nI 0)), some (.int 1), none] [] (ix_S0 d, τ1) = some (.int w, (ix_S0 d, ρ)) → ix_F 275 [.ref 135, .int (nI O)] (ix_S0 d, τ) = some (.int w, (ix_S0 d, ρ)) := by
    intro w ρ hq
    rw [q_M_readSet_0, a2]
    simp only [Option.bind_some]
    exact hq
  rcases j_more (b := b) (d := d) (i := 0) (S := 0) hN hA hO hAO (by decide) a3 h71 (Or.inl rfl) with ⟨σ', τ', b1, b2, b3, b4, b5⟩ | ⟨x, σ2, τ2, hx, hx1, hx2, b1, b2, b3, b4, b5⟩
  · exact ⟨σ1, 0, -1, σ', τ', a1, e105, by rw [q_Parser_expectSome_0]; exact b1, hr _ _ b2, a4.tr b3, a5.tr b4, Or.inl ⟨rfl, rfl, b5⟩⟩
  · have hp : (2 : Nat) ^ x < 2 ^ 12 := Nat.pow_lt_pow_right (by decide) hx
    obtain ⟨v, w, σ', τ', c1, c2, c3, c4, c5⟩ := j_sets (k := k) (n := n) (t := t) (c := c) (b := b) (d := d) hN hA hO hAO 11 1 (0 ||| 2 ^ x) (a + 1 + 1) σ2 τ2 (by omega) (by omega) (by omega) (by rw [tx_c_add 0 x hx2 12 hx]; rfl) (Nat.or_lt_two_pow (by decide) hp) (fun y hy => by
      rw [tx_orb, Bool.or_eq_true, decide_eq_true_eq] at hy
      rcases hy with hy | hy
      · rw [Nat.zero_testBit] at hy; cases hy
      · rw [← hy]; exact hx1) b5 ((b4.2 7 (by omega) (by omega) (by omega) (by omega) (by omega) (by omega)).trans h71)
    refine ⟨σ1, v, w, σ', τ', a1, e105, ?_, hr _ _ (b2.trans c2), (a4.tr b3).tr c3, (a5.tr b4).tr c4, ?_⟩
    · rw [q_Parser_expectSome_0]; exact b1.trans c1
    · rcases c5 with c5 | ⟨S', a', e1, e2, e3, e4, e5, e6, e7⟩
      · exact Or.inl c5
      · exact Or.inr ⟨S', a', e1, e2, e3, e4, e5, by omega, e7⟩
end Sf
