/-! numbers: ints as naturals, truth as an int, bits -/
theorem iv_tI (v : Int32) : ix_toI (.int v) = v := by
  have h : ix_toI (.int v) = v := rfl
  exact h
def iv_B (p : Prop) [Decidable p] : Int32 := if p then 1 else 0
theorem iv_B0 {p : Prop} [Decidable p] : iv_B p = 0 ↔ ¬ p := by
  unfold iv_B
  by_cases h : p
  · rw [if_pos h]; exact ⟨fun h1 => absurd h1 (by decide), fun h1 => absurd h h1⟩
  · rw [if_neg h]; exact ⟨fun _ => h, fun _ => rfl⟩
theorem iv_B1 {p : Prop} [Decidable p] : iv_B p = 1 ↔ p := by
  unfold iv_B
  by_cases h : p
  · rw [if_pos h]; exact ⟨fun _ => h, fun _ => rfl⟩
  · rw [if_neg h]; exact ⟨fun h1 => absurd h1 (by decide), fun h1 => absurd h1 h⟩
theorem iv_B01 {p : Prop} [Decidable p] : iv_B p = 0 ∨ iv_B p = 1 := by
  by_cases h : p
  · exact Or.inr (iv_B1.mpr h)
  · exact Or.inl (iv_B0.mpr h)
theorem iv_Bt {p : Prop} [Decidable p] (h : p) : iv_B p = 1 := iv_B1.mpr h
theorem iv_Bf {p : Prop} [Decidable p] (h : ¬ p) : iv_B p = 0 := iv_B0.mpr h
theorem iv_Bc {p q : Prop} [Decidable p] [Decidable q] (h : p ↔ q) : iv_B p = iv_B q := by
  by_cases hp : p
  · rw [iv_Bt hp, iv_Bt (h.mp hp)]
  · rw [iv_Bf hp, iv_Bf (fun hq => hp (h.mpr hq))]
theorem iv_ifB {α : Type} {p : Prop} [Decidable p] (f : Int32 → α) : (if p then f 1 else f 0) = f (iv_B p) := by
  by_cases h : p
  · rw [if_pos h, iv_Bt h]
  · rw [if_neg h, iv_Bf h]
/-- a number within bounds -/
def iv_in (x : Int32) (m : Nat) : Prop := ∃ k : Nat, k ≤ m ∧ x = nI k
theorem iv_le {a b : Int32} : a ≤ b ↔ a.toInt ≤ b.toInt := Int32.le_iff_toInt_le
theorem iv_lt {a b : Int32} : a < b ↔ a.toInt < b.toInt := Int32.lt_iff_toInt_lt
theorem iv_nlt {a b : Int32} : ¬ a < b ↔ b ≤ a := by rw [iv_lt, iv_le]; omega
theorem iv_nle {a b : Int32} : ¬ a ≤ b ↔ b < a := by rw [iv_lt, iv_le]; omega
/-- an int between 0 and m, as what is asked of it says -/
theorem iv_rng {x : Int32} {m : Nat} (hm : m < 2 ^ 31) : (¬ x < 0 ∧ ¬ nI m < x) ↔ iv_in x m := by
  constructor
  · intro h
    obtain ⟨j, hj, rfl⟩ := nI_of h.1
    refine ⟨j, ?_, rfl⟩
    have h2 := h.2
    rw [nI_ltI hm hj] at h2
    omega
  · rintro ⟨k, hk, rfl⟩
    exact ⟨nI_pos (by omega), by rw [nI_ltI hm (by omega)]; omega⟩
theorem iv_rng' {x : Int32} {m : Nat} (hm : m < 2 ^ 31) : (0 ≤ x ∧ x < nI m) ↔ ∃ k : Nat, k < m ∧ x = nI k := by
  constructor
  · intro h
    obtain ⟨j, hj, rfl⟩ := nI_of (iv_nlt.mpr h.1)
    refine ⟨j, ?_, rfl⟩
    have h2 := h.2
    rwa [nI_ltI hj hm] at h2
  · rintro ⟨k, hk, rfl⟩
    exact ⟨nI_pos' (by omega), by rwa [nI_ltI (by omega) hm]⟩
theorem iv_m1 {k : Nat} (h : k < 2 ^ 31) : ¬ nI k = -1 := by
  intro e
  have h2 := congrArg Int32.toInt e
  rw [nI_toInt h] at h2
  have h3 : (-1 : Int32).toInt = -1 := by decide
  omega
theorem iv_and (a b : Nat) : nI a &&& nI b = nI (a &&& b) := by
  apply Int32.toBitVec_inj.1
  show BitVec.ofNat 32 a &&& BitVec.ofNat 32 b = BitVec.ofNat 32 (a &&& b)
  apply BitVec.eq_of_getLsbD_eq
  intro i hi
  simp [hi]
theorem iv_or (a b : Nat) : nI a ||| nI b = nI (a ||| b) := by
  apply Int32.toBitVec_inj.1
  show BitVec.ofNat 32 a ||| BitVec.ofNat 32 b = BitVec.ofNat 32 (a ||| b)
  apply BitVec.eq_of_getLsbD_eq
  intro i hi
  simp [hi]
theorem iv_xor (a b : Nat) : nI a ^^^ nI b = nI (a ^^^ b) := by
  apply Int32.toBitVec_inj.1
  show BitVec.ofNat 32 a ^^^ BitVec.ofNat 32 b = BitVec.ofNat 32 (a ^^^ b)
  apply BitVec.eq_of_getLsbD_eq
  intro i hi
  simp [hi]
theorem iv_s31 : ∀ n, n < 32 → ((nI n &&& 31).toBitVec.smod 32).toNat = n := by decide +kernel
theorem iv_shl {k : Nat} (hk : k < 31) : (1 : Int32) <<< (nI k &&& 31) = nI (2 ^ k) := by
  rw [show (1 : Int32) = nI 1 from rfl, pk_shlN (nI k &&& 31) k (iv_s31 k (by omega)) (by rw [Nat.one_mul]; exact Nat.pow_lt_pow_right (by omega) (by omega)), Nat.one_mul]
theorem iv_shr {s k : Nat} (hs : s < 2 ^ 31) (hk : k < 32) : nI s >>> (nI k &&& 31) = nI (s / 2 ^ k) := pk_shrN hs _ k (iv_s31 k hk)
theorem iv_bit {s k : Nat} (hs : s < 2 ^ 31) (hk : k < 32) : (nI s >>> (nI k &&& 31)) &&& 1 = iv_B (s.testBit k = true) := by
  rw [iv_shr hs hk, show (1 : Int32) = nI 1 from rfl, iv_and, Nat.and_one_is_mod]
  unfold iv_B
  rw [Nat.testBit_eq_decide_div_mod_eq]
  rcases Nat.mod_two_eq_zero_or_one (s / 2 ^ k) with h | h
  · rw [h, if_neg (by simp)]; rfl
  · rw [h, if_pos (by simp)]; rfl
theorem iv_bit1 {s k : Nat} (hs : s < 2 ^ 31) (hk : k < 32) : (nI s >>> (nI k &&& 31)) &&& 1 = 1 ↔ s.testBit k = true := by rw [iv_bit hs hk, iv_B1]
/-- those of n that are not of o -/
def iv_he (n o : Nat) : Nat := (2 ^ n - 1) ^^^ o
theorem iv_he_bit {n o i : Nat} (ho : o < 2 ^ n) : (iv_he n o).testBit i = (decide (i < n) && !o.testBit i) := by
  unfold iv_he
  rw [Nat.testBit_xor, Nat.testBit_two_pow_sub_one]
  by_cases h : i < n
  · simp [h]
  · have : o.testBit i = false := Nat.testBit_lt_two_pow (Nat.lt_of_lt_of_le ho (Nat.pow_le_pow_right (by omega) (by omega)))
    simp [h, this]
theorem iv_he_lt {n o : Nat} (ho : o < 2 ^ n) : iv_he n o < 2 ^ n := Nat.xor_lt_two_pow (by have := Nat.two_pow_pos n; omega) ho
theorem iv_p12 {n : Nat} (h : n ≤ 12) : 2 ^ n ≤ 4096 := by
  have := Nat.pow_le_pow_right (n := 2) (by omega) h
  exact this
theorem iv_here {n o : Nat} (hn : n ≤ 12) (ho : o < 2 ^ n) : (((1 : Int32) <<< (nI n &&& 31)) - 1) &&& (nI o ^^^ (-1)) = nI (iv_he n o) := by
  have h0 : nI (2 ^ n) - 1 = nI (2 ^ n - 1) := pk_sub (Nat.two_pow_pos n)
  rw [iv_shl (by omega), h0]
  apply Int32.toBitVec_inj.1
  apply BitVec.eq_of_getLsbD_eq
  intro i hi
  have h1 : (nI (2 ^ n - 1) &&& (nI o ^^^ (-1))).toBitVec = BitVec.ofNat 32 (2 ^ n - 1) &&& (BitVec.ofNat 32 o ^^^ (BitVec.allOnes 32)) := rfl
  rw [h1]
  show _ = (BitVec.ofNat 32 (iv_he n o)).getLsbD i
  rw [BitVec.getLsbD_and, BitVec.getLsbD_xor, BitVec.getLsbD_ofNat, BitVec.getLsbD_ofNat, BitVec.getLsbD_ofNat, BitVec.getLsbD_allOnes, iv_he_bit ho, Nat.testBit_two_pow_sub_one]
  simp [hi]
