/-! what is read is taken -/
theorem f_tk3 {d : Bool} {m : Nat} (hm : m ≤ 16) : ∀ (r j : Nat) (τ : ix_St), j + r = 3 * m → ∃ τ', ix_S 201 1 7 [some (.ref 135), none, some (.int (nI m)), some (.int (nI j))] [] (ix_S0 d, τ) = some (.null, (ix_S0 d, τ')) ∧ (∀ y, y ≠ 155 → y ≠ 135 → τ' y = τ y) ∧ (∀ i, τ' 155 i = if j ≤ i ∧ i < 3 * m then τ 155 (48 + i) else τ 155 i) ∧ τ' 135 39 = nI m ∧ ∀ i, i ≠ 39 → τ' 135 i = τ 135 i := by
  have hmul : (3 : Int32) * nI m = nI (3 * m) := by rw [show (3 : Int32) = nI 3 from rfl, pk_mul]
  intro r
  induction r with
  | zero =>
    intro j τ hj
    rw [q_M_takesOther_7, hmul, if_pos (show nI (3 * m) ≤ nI j from nI_le (by omega) (by omega))]
    refine ⟨_, rfl, fun y y1 y2 => ?_, fun i => ?_, ?_, fun i i1 => ?_⟩
    · rw [iv_upn y2]
    · rw [if_neg (by omega), iv_upn (by omega)]
    · rw [tx_us]
    · rw [tx_un i1]
  | succ r ih =>
    intro j τ hj
    have e : (48 : Int32) + nI j = nI (48 + j) := nI_add 48 j
    obtain ⟨τ', g1, g2, g3, g4, g6⟩ := ih (j + 1) (ix_up τ 155 j (τ 155 (48 + j))) (by omega)
    refine ⟨τ', ?_, fun y y1 y2 => (g2 y y1 y2).trans (iv_upn y1), fun i => ?_, g4, fun i i1 => (g6 i i1).trans (by rw [iv_upn (by omega)])⟩
    · rw [q_M_takesOther_7, hmul, if_neg (show ¬ nI (3 * m) ≤ nI j from nI_ge (by omega) (by omega)), e, nI_clamp (by omega), nI_clamp (by omega), if_neg (tx_in (by omega) (by omega)), if_neg (tx_in (by omega) (by omega)), nI_1]
      exact g1
    · rw [g3]
      by_cases e1 : i = j
      · rw [e1, if_neg (by omega), if_pos (by omega), tx_us]
      · by_cases e2 : j + 1 ≤ i ∧ i < 3 * m
        · rw [if_pos e2, if_pos (by omega), tx_un (by omega)]
        · rw [if_neg e2, if_neg (by omega), tx_un e1]
theorem f_tk1 {d : Bool} {m : Nat} (_hm : m ≤ 16) : ∀ (r j : Nat) (τ : ix_St), j + r = 12 → ∃ τ', ix_S 201 1 48 [some (.ref 135), none, some (.int (nI m)), some (.int (nI j))] [] (ix_S0 d, τ) = some (.null, (ix_S0 d, τ')) ∧ (∀ y, y ≠ 153 → y ≠ 135 → τ' y = τ y) ∧ (∀ i, τ' 153 i = if j ≤ i ∧ i < 12 then τ 153 (12 + i) else τ 153 i) ∧ τ' 135 35 = nI m ∧ τ' 135 3 = 0 ∧ ∀ i, i ≠ 35 → i ≠ 3 → τ' 135 i = τ 135 i := by
  intro r
  induction r with
  | zero =>
    intro j τ hj
    rw [q_M_takesOther_48, if_pos (show (12 : Int32) ≤ nI j from nI_le (a := 12) (by omega) (by omega))]
    refine ⟨_, rfl, fun y y1 y2 => ?_, fun i => ?_, ?_, ?_, fun i i1 i2 => ?_⟩
    · rw [iv_upn y2, iv_upn y2]
    · rw [if_neg (by omega), iv_upn (by omega), iv_upn (by omega)]
    · rw [tx_un (by omega), tx_us]
    · rw [tx_us]
    · rw [tx_un i2, tx_un i1]
  | succ r ih =>
    intro j τ hj
    have e : (12 : Int32) + nI j = nI (12 + j) := nI_add 12 j
    obtain ⟨τ', g1, g2, g3, g4, g5, g6⟩ := ih (j + 1) (ix_up τ 153 j (τ 153 (12 + j))) (by omega)
    refine ⟨τ', ?_, fun y y1 y2 => (g2 y y1 y2).trans (iv_upn y1), fun i => ?_, g4, g5, fun i i1 i2 => (g6 i i1 i2).trans (by rw [iv_upn (by omega)])⟩
    · rw [q_M_takesOther_48, if_neg (show ¬ (12 : Int32) ≤ nI j from nI_ge (b := 12) (by omega) (by omega)), e, nI_clamp (by omega), nI_clamp (by omega), if_neg (tx_in (by omega) (by omega)), if_neg (tx_in (by omega) (by omega)), nI_1]
      exact g1
    · rw [g3]
      by_cases e1 : i = j
      · rw [e1, if_neg (by omega), if_pos (by omega), tx_us]
      · by_cases e2 : j + 1 ≤ i ∧ i < 12
        · rw [if_pos e2, if_pos (by omega), tx_un (by omega)]
        · rw [if_neg e2, if_neg (by omega), tx_un e1]
theorem f_tk2 {d : Bool} {m : Nat} (hm : m ≤ 16) : ∀ (r j : Nat) (τ : ix_St), j + r = 2 * m → ∃ τ', ix_S 201 1 85 [some (.ref 135), none, some (.int (nI m)), some (.int (nI j))] [] (ix_S0 d, τ) = some (.null, (ix_S0 d, τ')) ∧ (∀ y, y ≠ 154 → y ≠ 135 → τ' y = τ y) ∧ (∀ i, τ' 154 i = if j ≤ i ∧ i < 2 * m then τ 154 (32 + i) else τ 154 i) ∧ τ' 135 37 = nI m ∧ τ' 135 3 = 0 ∧ ∀ i, i ≠ 37 → i ≠ 3 → τ' 135 i = τ 135 i := by
  have hmul : (2 : Int32) * nI m = nI (2 * m) := by rw [show (2 : Int32) = nI 2 from rfl, pk_mul]
  intro r
  induction r with
  | zero =>
    intro j τ hj
    rw [q_M_takesOther_85, hmul, if_pos (show nI (2 * m) ≤ nI j from nI_le (by omega) (by omega))]
    refine ⟨_, rfl, fun y y1 y2 => ?_, fun i => ?_, ?_, ?_, fun i i1 i2 => ?_⟩
    · rw [iv_upn y2, iv_upn y2]
    · rw [if_neg (by omega), iv_upn (by omega), iv_upn (by omega)]
    · rw [tx_un (by omega), tx_us]
    · rw [tx_us]
    · rw [tx_un i2, tx_un i1]
  | succ r ih =>
    intro j τ hj
    have e : (32 : Int32) + nI j = nI (32 + j) := nI_add 32 j
    obtain ⟨τ', g1, g2, g3, g4, g5, g6⟩ := ih (j + 1) (ix_up τ 154 j (τ 154 (32 + j))) (by omega)
    refine ⟨τ', ?_, fun y y1 y2 => (g2 y y1 y2).trans (iv_upn y1), fun i => ?_, g4, g5, fun i i1 i2 => (g6 i i1 i2).trans (by rw [iv_upn (by omega)])⟩
    · rw [q_M_takesOther_85, hmul, if_neg (show ¬ nI (2 * m) ≤ nI j from nI_ge (by omega) (by omega)), e, nI_clamp (by omega), nI_clamp (by omega), if_neg (tx_in (by omega) (by omega)), if_neg (tx_in (by omega) (by omega)), nI_1]
      exact g1
    · rw [g3]
      by_cases e1 : i = j
      · rw [e1, if_neg (by omega), if_pos (by omega), tx_us]
      · by_cases e2 : j + 1 ≤ i ∧ i < 2 * m
        · rw [if_pos e2, if_pos (by omega), tx_un (by omega)]
        · rw [if_neg e2, if_neg (by omega), tx_un e1]
/-- the law's lines -/
theorem f_tkL {d : Bool} {m : Nat} (hm : m ≤ 16) : ∀ (r j : Nat) (τ : ix_St), j + r = m → τ 135 26 = 0 → ∃ τ', ix_S 200 1 2 [some (.ref 135), some (.int (nI m)), some (.int (nI j))] [] (ix_S0 d, τ) = ix_S 200 1 107 [some (.ref 135), some (.int (nI m)), some (.int (0 : Int32))] [] (ix_S0 d, τ') ∧ (∀ y, y < 146 ∨ 149 < y → τ' y = τ y) ∧ ∀ y, 146 ≤ y → y ≤ 149 → ∀ i, τ' y i = if j ≤ i ∧ i < m then τ y (32 + i) else τ y i := by
  intro r
  induction r with
  | zero =>
    intro j τ hj h26
    rw [q_M_takesLaw_2, if_pos (show nI m ≤ nI j from nI_le (by omega) (by omega))]
    exact ⟨τ, rfl, fun _ _ => rfl, fun y _ _ i => by rw [if_neg (by omega)]⟩
  | succ r ih =>
    intro j τ hj h26
    have e : (32 : Int32) + nI j = nI (32 + j) := nI_add 32 j
    have e16 : (16 : Int32) * 0 + nI j = nI j := by rw [show (16 : Int32) * 0 = nI 0 by decide, nI_add, Nat.zero_add]
    have a1 : ¬ (nI (32 + j) < 0 ∨ 48 ≤ 32 + j) := tx_in (by omega) (by omega)
    have a2 : ¬ (nI j < 0 ∨ 48 ≤ j) := tx_in (by omega) (by omega)
    obtain ⟨τ', g1, g2, g3⟩ := ih (j + 1) (ix_up (ix_up (ix_up (ix_up τ 146 j (τ 146 (32 + j))) 147 j (τ 147 (32 + j))) 148 j (τ 148 (32 + j))) 149 j (τ 149 (32 + j))) (by omega) (by rw [iv_upn (by omega), iv_upn (by omega), iv_upn (by omega), iv_upn (by omega)]; exact h26)
    have key : ∀ y, 146 ≤ y → y ≤ 149 → ∀ i, (ix_up (ix_up (ix_up (ix_up τ 146 j (τ 146 (32 + j))) 147 j (τ 147 (32 + j))) 148 j (τ 148 (32 + j))) 149 j (τ 149 (32 + j))) y i = if i = j then τ y (32 + j) else τ y i := by
      intro y y1 y2 i
      have hy : y = 146 ∨ y = 147 ∨ y = 148 ∨ y = 149 := by omega
      by_cases ei : i = j
      · rw [if_pos ei, ei]
        rcases hy with rfl | rfl | rfl | rfl
        · rw [iv_upn (by omega), iv_upn (by omega), iv_upn (by omega), tx_us]
        · rw [iv_upn (by omega), iv_upn (by omega), tx_us]
        · rw [iv_upn (by omega), tx_us]
        · rw [tx_us]
      · rw [if_neg ei]
        rcases hy with rfl | rfl | rfl | rfl
        · rw [iv_upn (by omega), iv_upn (by omega), iv_upn (by omega), tx_un ei]
        · rw [iv_upn (by omega), iv_upn (by omega), tx_un ei, iv_upn (by omega)]
        · rw [iv_upn (by omega), tx_un ei, iv_upn (by omega), iv_upn (by omega)]
        · rw [tx_un ei, iv_upn (by omega), iv_upn (by omega), iv_upn (by omega)]
    refine ⟨τ', ?_, fun y hy => ?_, fun y y1 y2 i => ?_⟩
    · rw [q_M_takesLaw_2, if_neg (show ¬ nI m ≤ nI j from nI_ge (by omega) (by omega)), h26, e16, e, nI_clamp (show 32 + j < 2 ^ 31 by omega), nI_clamp (show j < 2 ^ 31 by omega), if_neg a1, if_neg a2, if_neg a1, if_neg a2, if_neg a1, if_neg a2, if_neg a1, if_neg a2, nI_1]
      exact g1
    · rw [g2 y hy, iv_upn (by omega), iv_upn (by omega), iv_upn (by omega), iv_upn (by omega)]
    · rw [g3 y y1 y2 i, key y y1 y2 (32 + i), key y y1 y2 i]
      by_cases e1 : i = j
      · rw [e1, if_neg (by omega), if_pos rfl, if_pos (by omega)]
      · by_cases e2 : j + 1 ≤ i ∧ i < m
        · rw [if_pos e2, if_neg (show ¬ 32 + i = j by omega), if_pos (by omega)]
        · rw [if_neg e2, if_neg e1, if_neg (by omega)]
/-- .. and its codes -/
theorem f_tkC {d : Bool} {v : Int32} {z : Nat} (hz : z ≤ 400) : ∀ (r j : Nat) (τ : ix_St), j + r = z → τ 135 26 = 0 → τ 135 27 = nI z → ∃ τ', ix_S 200 1 107 [some (.ref 135), some (.int v), some (.int (nI j))] [] (ix_S0 d, τ) = some (.null, (ix_S0 d, τ')) ∧ (∀ y, y ≠ 145 → y ≠ 150 → y ≠ 151 → τ' y = τ y) ∧ τ' 145 0 = v ∧ ∀ y, y = 150 ∨ y = 151 → ∀ i, τ' y i = if j ≤ i ∧ i < z then τ y (800 + i) else τ y i := by
  intro r
  induction r with
  | zero =>
    intro j τ hj h26 h27
    rw [q_M_takesLaw_107, h27, if_pos (show nI z ≤ nI j from nI_le (by omega) (by omega)), h26, if_neg (show ¬ ((0 : Int32) < 0 ∨ 2 ≤ (0 : Int32).toNatClampNeg) by decide), show (0 : Int32).toNatClampNeg = 0 by decide]
    exact ⟨_, rfl, fun y y1 _ _ => iv_upn y1, tx_us, fun y hy i => by rw [if_neg (by omega), iv_upn (by omega)]⟩
  | succ r ih =>
    intro j τ hj h26 h27
    have e : (800 : Int32) + nI j = nI (800 + j) := nI_add 800 j
    have e16 : (400 : Int32) * 0 + nI j = nI j := by rw [show (400 : Int32) * 0 = nI 0 by decide, nI_add, Nat.zero_add]
    have a1 : ¬ (nI (800 + j) < 0 ∨ 1200 ≤ 800 + j) := tx_in (by omega) (by omega)
    have a2 : ¬ (nI j < 0 ∨ 1200 ≤ j) := tx_in (by omega) (by omega)
    obtain ⟨τ', g1, g2, g3, g4⟩ := ih (j + 1) (ix_up (ix_up τ 150 j (τ 150 (800 + j))) 151 j (τ 151 (800 + j))) (by omega) (by rw [iv_upn (by omega), iv_upn (by omega)]; exact h26) (by rw [iv_upn (by omega), iv_upn (by omega)]; exact h27)
    have key : ∀ y, y = 150 ∨ y = 151 → ∀ i, (ix_up (ix_up τ 150 j (τ 150 (800 + j))) 151 j (τ 151 (800 + j))) y i = if i = j then τ y (800 + j) else τ y i := by
      intro y hy i
      by_cases ei : i = j
      · rw [if_pos ei, ei]
        rcases hy with rfl | rfl
        · rw [iv_upn (by omega), tx_us]
        · rw [tx_us]
      · rw [if_neg ei]
        rcases hy with rfl | rfl
        · rw [iv_upn (by omega), tx_un ei]
        · rw [tx_un ei, iv_upn (by omega)]
    refine ⟨τ', ?_, fun y y1 y2 y3 => (g2 y y1 y2 y3).trans (by rw [iv_upn y3, iv_upn y2]), g3, fun y hy i => ?_⟩
    · rw [q_M_takesLaw_107, h27, if_neg (show ¬ nI z ≤ nI j from nI_ge (by omega) (by omega)), h26, e16, e, nI_clamp (show 800 + j < 2 ^ 31 by omega), nI_clamp (show j < 2 ^ 31 by omega), if_neg a1, if_neg a2, if_neg a1, if_neg a2, nI_1]
      exact g1
    · rw [g4 y hy i, key y hy (800 + i), key y hy i]
      by_cases e1 : i = j
      · rw [e1, if_neg (by omega), if_pos rfl, if_pos (by omega)]
      · by_cases e2 : j + 1 ≤ i ∧ i < z
        · rw [if_pos e2, if_neg (show ¬ 800 + i = j by omega), if_pos (by omega)]
        · rw [if_neg e2, if_neg e1, if_neg (by omega)]
/-- the draft of the ears is cleared -/
theorem f_clE {d : Bool} : ∀ (r j : Nat) (τ : ix_St), j + r = 12 → ∃ τ', ix_S 234 7 2 [some (.ref 135), some (.int (nI j))] [] (ix_S0 d, τ) = ix_S 234 7 26 [some (.ref 135), some (.int (nI 0))] [] (ix_S0 d, τ') ∧ (∀ y, y ≠ 153 → τ' y = τ y) ∧ ∀ i, τ' 153 i = if 12 + j ≤ i ∧ i < 24 then 0 else τ 153 i := by
  intro r
  induction r with
  | zero =>
    intro j τ hj
    rw [q_M_readEars_2, if_pos (show (12 : Int32) ≤ nI j from nI_le (a := 12) (by omega) (by omega))]
    exact ⟨τ, rfl, fun _ _ => rfl, fun i => by rw [if_neg (by omega)]⟩
  | succ r ih =>
    intro j τ hj
    have e : (12 : Int32) + nI j = nI (12 + j) := nI_add 12 j
    obtain ⟨τ', g1, g2, g3⟩ := ih (j + 1) (ix_up τ 153 (12 + j) 0) (by omega)
    refine ⟨τ', ?_, fun y y1 => (g2 y y1).trans (iv_upn y1), fun i => ?_⟩
    · rw [q_M_readEars_2, if_neg (show ¬ (12 : Int32) ≤ nI j from nI_ge (b := 12) (by omega) (by omega)), e, nI_clamp (by omega), if_neg (tx_in (by omega) (by omega)), nI_1]
      exact g1
    · rw [g3]
      by_cases e1 : i = 12 + j
      · rw [e1, if_neg (by omega), if_pos (by omega), tx_us]
      · rw [tx_un e1]
        by_cases e2 : 12 + (j + 1) ≤ i ∧ i < 24
        · rw [if_pos e2, if_pos (by omega)]
        · rw [if_neg e2, if_neg (by omega)]
