/-! a line of the ears -/
theorem tx_rm (x y : Int32) : x &&& (y ^^^ (-1)) = x ^^^ (x &&& y) := by
  apply Int32.toBitVec_inj.1
  show x.toBitVec &&& (y.toBitVec ^^^ BitVec.allOnes 32) = x.toBitVec ^^^ (x.toBitVec &&& y.toBitVec)
  apply BitVec.eq_of_getLsbD_eq
  intro i hi
  simp only [BitVec.getLsbD_and, BitVec.getLsbD_xor, BitVec.getLsbD_allOnes, hi, decide_true]
  cases x.toBitVec.getLsbD i <;> cases y.toBitVec.getLsbD i <;> rfl
theorem tx_rmN (a b : Nat) : nI a &&& (nI b ^^^ (-1)) = nI (a ^^^ (a &&& b)) := by
  rw [tx_rm, iv_and, iv_xor]
theorem tx_rmb (a b i : Nat) : (a ^^^ (a &&& b)).testBit i = (a.testBit i && !b.testBit i) := by
  rw [Nat.testBit_xor, Nat.testBit_and]
  cases a.testBit i <;> cases b.testBit i <;> rfl
theorem tx_rm_lt {a b k : Nat} (h : a < 2 ^ k) : a ^^^ (a &&& b) < 2 ^ k := Nat.xor_lt_two_pow h (Nat.lt_of_le_of_lt Nat.and_le_left h)
theorem tx_eve {N i : Nat} : (2 ^ N - 1).testBit i = decide (i < N) := Nat.testBit_two_pow_sub_one N i
section On
variable {k n a t : Nat} {c : Nat → Nat} {σ τ : ix_St}
/-- one of a set is due -/
theorem j_one {b d : Bool} (h : tx_J k c t n a σ τ) {A : Nat} (hA : A < 2 ^ 12) : ∃ v σ', ix_F 76 [.ref 105, .int (nI A)] (ix_S0 b, σ) = some (.int v, (ix_S0 b, σ')) ∧ tx_fa σ σ' ∧
    (((tx_tn c t a).1 ≠ 3 ∧ v = -1 ∧ ∃ τ', ix_F 255 [.ref 135, .int 1] (ix_S0 d, τ) = some (.int (-1), (ix_S0 d, τ')) ∧ tx_fb τ τ' ∧ tx_bad σ' τ') ∨
    ((tx_tn c t a).1 = 3 ∧ (12 ≤ (tx_tn c t a).2.1 ∨ A.testBit (tx_tn c t a).2.1 = false) ∧ v = -1 ∧ ∃ τ', ix_F 255 [.ref 135, .int 2] (ix_S0 d, τ) = some (.int (-1), (ix_S0 d, τ')) ∧ tx_fb τ τ' ∧ tx_bad σ' τ') ∨
    ((tx_tn c t a).1 = 3 ∧ (tx_tn c t a).2.1 < 12 ∧ A.testBit (tx_tn c t a).2.1 = true ∧ v = nI (tx_tn c t a).2.1 ∧ ∃ τ', ix_F 233 [.ref 135] (ix_S0 d, τ) = some (.null, (ix_S0 d, τ')) ∧ tx_fb τ τ' ∧ tx_J k c t n (a + 1) σ' τ')) := by
  obtain ⟨i1, i2⟩ := j_isN h
  have hA2 : A < 4096 := hA
  by_cases e : (tx_tn c t a).1 = 3
  · have hv := h.num e
    have hx := h.ok.2.2.1 e
    rw [q_Parser_expectOneOf_0, if_pos (i1.mpr e), hv]
    by_cases g1 : 12 ≤ (tx_tn c t a).2.1
    · obtain ⟨σ', τ', b1, b2, b3, b4, b5⟩ := j_bl (b := b) (d := d) h 2
      rw [if_pos (show (12 : Int32) ≤ nI (tx_tn c t a).2.1 from nI_le (a := 12) g1 (by omega)), b1]
      simp only [Option.bind_some]
      exact ⟨-1, σ', rfl, b4, Or.inr (Or.inl ⟨e, Or.inl g1, rfl, τ', b2, b5, b3⟩)⟩
    · rw [if_neg (show ¬ (12 : Int32) ≤ nI (tx_tn c t a).2.1 from nI_ge (b := 12) (by omega) (by omega)), iv_bit (by omega) (by omega)]
      by_cases g2 : A.testBit (tx_tn c t a).2.1 = true
      · obtain ⟨σ', τ', b1, b2, b3, b4, b5, -⟩ := j_adv (b := b) (d := d) h (h.lt (by omega))
        rw [iv_Bt g2, if_neg (by decide), q_Parser_expectNumber_0, if_pos (i1.mpr e), hv, if_neg (nI_pos (by omega)), if_pos (show nI (tx_tn c t a).2.1 ≤ (11 : Int32) from nI_le (b := 11) (by omega) (by omega)), b1]
        simp only [Option.bind_some, iv_tI]
        exact ⟨_, σ', rfl, b4, Or.inr (Or.inr ⟨e, by omega, g2, rfl, τ', b2, b5, b3⟩)⟩
      · obtain ⟨σ', τ', b1, b2, b3, b4, b5⟩ := j_bl (b := b) (d := d) h 2
        rw [iv_Bf g2, if_pos rfl, b1]
        simp only [Option.bind_some]
        refine ⟨-1, σ', rfl, b4, Or.inr (Or.inl ⟨e, Or.inr ?_, rfl, τ', b2, b5, b3⟩)⟩
        cases hq : A.testBit (tx_tn c t a).2.1
        · rfl
        · exact absurd hq g2
  · obtain ⟨σ', τ', b1, b2, b3, b4, b5⟩ := j_bl (b := b) (d := d) h 1
    rw [q_Parser_expectOneOf_0, if_neg (fun q => e (i1.mp q)), q_Parser_expectNumber_0, if_neg (fun q => e (i1.mp q)), b1]
    simp only [Option.bind_some, iv_tI]
    exact ⟨-1, σ', rfl, b4, Or.inl ⟨e, rfl, τ', b2, b5, b3⟩⟩
theorem tx_lp {x N : Nat} (hx : x ≤ 9999) (hN : N ≤ 12) : nI x ≤ nI N - 1 ↔ x < N := by
  cases N with
  | zero =>
    constructor
    · intro h
      have h2 : (nI 0 - 1 : Int32) < 0 := by decide
      exact absurd (Int32.lt_of_le_of_lt h h2) (nI_pos (by omega))
    · intro h; omega
  | succ N => rw [nI_pred, nI_leI (by omega) (by omega)]; omega
/-- the reference's number of a passenger -/
theorem r_num1 {d : Bool} (h : tx_J k c t n a σ τ) (e : (tx_tn c t a).1 ≠ 3) {x y : Int32} {τ' : ix_St} (hr : ix_F 255 [.ref 135, .int 1] (ix_S0 d, τ) = some (.int (-1), (ix_S0 d, τ'))) : ix_F 273 [.ref 135, .int x, .int y] (ix_S0 d, τ) = some (.int (-1), (ix_S0 d, τ')) := by
  rw [q_M_readNumber_0, if_neg (fun q => e ((j_isN h).2.mp q)), hr]
  simp only [Option.bind_some, iv_tI]
theorem r_num2 {d : Bool} (h : tx_J k c t n a σ τ) (e : (tx_tn c t a).1 = 3) {N : Nat} (hN : N ≤ 12) (hx : ¬ (tx_tn c t a).2.1 < N) {τ' : ix_St} (hr : ix_F 255 [.ref 135, .int 2] (ix_S0 d, τ) = some (.int (-1), (ix_S0 d, τ'))) : ix_F 273 [.ref 135, .int 0, .int (nI N - 1)] (ix_S0 d, τ) = some (.int (-1), (ix_S0 d, τ')) := by
  have hv2 : τ 135 17 = nI (tx_tn c t a).2.1 := h.2.2.2.2.2 (by omega)
  rw [q_M_readNumber_0, if_pos ((j_isN h).2.mpr e), hv2, f_isIn, iv_Bf (fun q => hx ((tx_lp (h.ok.2.2.1 e) hN).mp q.2))]
  simp only [Option.bind_some, iv_tI]
  rw [if_pos trivial, hr]
  simp only [Option.bind_some, iv_tI]
theorem r_num3 {d : Bool} (h : tx_J k c t n a σ τ) (e : (tx_tn c t a).1 = 3) {N : Nat} (hN : N ≤ 12) (hx : (tx_tn c t a).2.1 < N) {τ' : ix_St} (hr : ix_F 233 [.ref 135] (ix_S0 d, τ) = some (.null, (ix_S0 d, τ'))) : ix_F 273 [.ref 135, .int 0, .int (nI N - 1)] (ix_S0 d, τ) = some (.int (nI (tx_tn c t a).2.1), (ix_S0 d, τ')) := by
  have hv2 : τ 135 17 = nI (tx_tn c t a).2.1 := h.2.2.2.2.2 (by omega)
  rw [q_M_readNumber_0, if_pos ((j_isN h).2.mpr e), hv2, f_isIn, iv_Bt ⟨nI_pos' (by omega), (tx_lp (h.ok.2.2.1 e) hN).mpr hx⟩]
  simp only [Option.bind_some, iv_tI]
  rw [if_neg (by decide), hr]
  simp only [Option.bind_some, iv_tI]
  rw [hv2]
end On
