/-! the text: its bytes, its tokens -/
def tx_L (x : Nat) : Bool := (decide (97 ≤ x) && decide (x ≤ 122)) || (decide (65 ≤ x) && decide (x ≤ 90))
def tx_D (x : Nat) : Bool := decide (48 ≤ x) && decide (x ≤ 57)
def tx_K (x : Nat) : Bool := decide (x = 32) || decide (x = 10)
def tx_G (x : Nat) : Bool := decide (x ∈ [59, 43, 45, 42, 47, 40, 41, 60, 61, 62])
/-- how far from p on the bytes are of a sort -/
def tx_run (P : Nat → Bool) (c : Nat → Nat) (t : Nat) : Nat → Nat → Nat
  | 0, p => p
  | f + 1, p => if p < t ∧ P (c p) = true then tx_run P c t f (p + 1) else p
def tx_end (P : Nat → Bool) (c : Nat → Nat) (t p : Nat) : Nat := tx_run P c t (t - p) p
section Lx
variable {P : Nat → Bool} {c : Nat → Nat} {t : Nat}
theorem tx_end_eq (p : Nat) : tx_end P c t p = if p < t ∧ P (c p) = true then tx_end P c t (p + 1) else p := by
  unfold tx_end
  by_cases h : p < t
  · obtain ⟨k, hk⟩ : ∃ k, t - p = k + 1 := ⟨t - p - 1, by omega⟩
    have h2 : t - (p + 1) = k := by omega
    rw [hk, h2]
    rfl
  · rw [if_neg (fun q => h q.1), show t - p = 0 by omega]
    rfl
theorem tx_run_b : ∀ (f p : Nat), p ≤ tx_run P c t f p ∧ (p ≤ t → tx_run P c t f p ≤ t) ∧ ∀ k, p ≤ k → k < tx_run P c t f p → P (c k) = true
  | 0, p => ⟨Nat.le_refl _, fun h => h, fun k h1 h2 => absurd h1 (Nat.not_le.mpr h2)⟩
  | f + 1, p => by
    unfold tx_run
    by_cases h : p < t ∧ P (c p) = true
    · rw [if_pos h]
      obtain ⟨h1, h2, h3⟩ := tx_run_b f (p + 1)
      refine ⟨by omega, fun _ => h2 (by omega), fun k h4 h5 => ?_⟩
      by_cases e : k = p
      · rw [e]; exact h.2
      · exact h3 k (by omega) h5
    · rw [if_neg h]
      exact ⟨Nat.le_refl _, fun h => h, fun k h1 h2 => absurd h1 (Nat.not_le.mpr h2)⟩
theorem tx_end_ge (p : Nat) : p ≤ tx_end P c t p := (tx_run_b _ p).1
theorem tx_end_le {p : Nat} (h : p ≤ t) : tx_end P c t p ≤ t := (tx_run_b _ p).2.1 h
theorem tx_end_in {p : Nat} : ∀ k, p ≤ k → k < tx_end P c t p → P (c k) = true := (tx_run_b _ p).2.2
theorem tx_end_st : ∀ (m p : Nat), t - p = m → ¬ (tx_end P c t p < t ∧ P (c (tx_end P c t p)) = true)
  | 0, p, h => by
    rw [tx_end_eq, if_neg (by omega)]
    omega
  | m + 1, p, h => by
    rw [tx_end_eq]
    by_cases h1 : p < t ∧ P (c p) = true
    · rw [if_pos h1]
      exact tx_end_st m (p + 1) (by omega)
    · rw [if_neg h1]
      exact h1
theorem tx_end_lt {p : Nat} (h : p < t) (h1 : P (c p) = true) : p < tx_end P c t p := by
  rw [tx_end_eq, if_pos ⟨h, h1⟩]
  exact tx_end_ge (p + 1)
end Lx
/-- a byte of the class's tape -/
def tx_b (c : Nat) : Int32 := (nI c).toInt8.toInt32
theorem tx_bf0 : ∀ c ∈ List.range 256, ((tx_b c = 32 ↔ c = 32) ∧ (tx_b c = 10 ↔ c = 10) ∧ (tx_b c < 97 ↔ c < 97 ∨ 128 ≤ c) ∧ (tx_b c < 65 ↔ c < 65 ∨ 128 ≤ c) ∧ (90 < tx_b c ↔ 90 < c ∧ c < 128) ∧ (tx_b c ≤ 122 ↔ c ≤ 122 ∨ 128 ≤ c) ∧ (tx_b c < 48 ↔ c < 48 ∨ 128 ≤ c) ∧ (57 < tx_b c ↔ 57 < c ∧ c < 128) ∧ ((Int32.toUInt32 (tx_b c &&& 255)) % 65536).toInt32 = nI c) := by decide +kernel
theorem tx_bf {c : Nat} (h : c < 256) : ((tx_b c = 32 ↔ c = 32) ∧ (tx_b c = 10 ↔ c = 10) ∧ (tx_b c < 97 ↔ c < 97 ∨ 128 ≤ c) ∧ (tx_b c < 65 ↔ c < 65 ∨ 128 ≤ c) ∧ (90 < tx_b c ↔ 90 < c ∧ c < 128) ∧ (tx_b c ≤ 122 ↔ c ≤ 122 ∨ 128 ≤ c) ∧ (tx_b c < 48 ↔ c < 48 ∨ 128 ≤ c) ∧ (57 < tx_b c ↔ 57 < c ∧ c < 128) ∧ ((Int32.toUInt32 (tx_b c &&& 255)) % 65536).toInt32 = nI c) := tx_bf0 c (List.mem_range.mpr h)
theorem tx_Lf0 : ∀ c ∈ List.range 256, tx_L c = true → c < 128 ∧ c ≠ 32 ∧ tx_b c = nI c := by decide +kernel
theorem tx_Df0 : ∀ c ∈ List.range 256, tx_D c = true → tx_b c = nI c := by decide +kernel
section Cl
variable {b : Bool} {σ : ix_St}
theorem f_tK {c : Nat} (h : c < 256) : ix_F 136 [.int (tx_b c)] (ix_S0 b, σ) = some (.int (iv_B (tx_K c = true)), (ix_S0 b, σ)) := by
  obtain ⟨h1, h2, -⟩ := tx_bf h
  rw [q_Tape_isBlank_0]
  by_cases e : c = 32
  · rw [if_pos (h1.mpr e), iv_Bt (by simp [tx_K, e])]
  · rw [if_neg (fun q => e (h1.mp q))]
    by_cases e2 : c = 10
    · rw [if_pos (h2.mpr e2), iv_Bt (by simp [tx_K, e2])]
    · rw [if_neg (fun q => e2 (h2.mp q)), iv_Bf (by simp [tx_K, e, e2])]
theorem f_tL {c : Nat} (h : c < 256) : ix_F 137 [.int (tx_b c)] (ix_S0 b, σ) = some (.int (iv_B (tx_L c = true)), (ix_S0 b, σ)) := by
  obtain ⟨-, -, h3, h4, h5, h6, -⟩ := tx_bf h
  have hL : tx_L c = true ↔ (97 ≤ c ∧ c ≤ 122) ∨ (65 ≤ c ∧ c ≤ 90) := by simp [tx_L]
  rw [q_Tape_isLetter_0]
  by_cases e3 : c < 97 ∨ 128 ≤ c
  · rw [if_pos (h3.mpr e3)]
    by_cases e4 : c < 65 ∨ 128 ≤ c
    · rw [if_pos (h4.mpr e4), iv_Bf (by rw [hL]; omega)]
    · rw [if_neg (fun q => e4 (h4.mp q))]
      by_cases e5 : 90 < c ∧ c < 128
      · rw [if_pos (h5.mpr e5), iv_Bf (by rw [hL]; omega)]
      · rw [if_neg (fun q => e5 (h5.mp q)), iv_Bt (by rw [hL]; omega)]
  · rw [if_neg (fun q => e3 (h3.mp q))]
    by_cases e6 : c ≤ 122 ∨ 128 ≤ c
    · rw [if_pos (h6.mpr e6), iv_Bt (by rw [hL]; omega)]
    · rw [if_neg (fun q => e6 (h6.mp q)), if_neg (fun q => by have := h4.mp q; omega), if_pos (h5.mpr (by omega)), iv_Bf (by rw [hL]; omega)]
theorem f_tD {c : Nat} (h : c < 256) : ix_F 139 [.int (tx_b c)] (ix_S0 b, σ) = some (.int (iv_B (tx_D c = true)), (ix_S0 b, σ)) := by
  obtain ⟨-, -, -, -, -, -, h7, h8, -⟩ := tx_bf h
  have hD : tx_D c = true ↔ 48 ≤ c ∧ c ≤ 57 := by simp [tx_D]
  rw [q_Tape_isFigure_0]
  by_cases e7 : c < 48 ∨ 128 ≤ c
  · rw [if_pos (h7.mpr e7), iv_Bf (by rw [hD]; omega)]
  · rw [if_neg (fun q => e7 (h7.mp q))]
    by_cases e8 : 57 < c ∧ c < 128
    · rw [if_pos (h8.mpr e8), iv_Bf (by rw [hD]; omega)]
    · rw [if_neg (fun q => e8 (h8.mp q)), iv_Bt (by rw [hD]; omega)]
end Cl
/-- what the reference reads at p -/
def tx_r (c : Nat → Nat) (t p : Nat) : Int32 := if p < t then nI (c p) else -1
section Mo
variable {b : Bool} {τ : ix_St} {c : Nat → Nat} {t : Nat}
/-- the reference's tape -/
def tx_tm (τ : ix_St) (c : Nat → Nat) (t : Nat) : Prop := t ≤ 400 ∧ τ 135 13 = nI t ∧ (∀ i, i < t → c i < 256 ∧ τ 143 i = nI (c i)) ∧ ∀ i, i < 135 → τ 144 i = iv_words.getD i 0
theorem f_raw (h : tx_tm τ c t) {p : Nat} (hp : p ≤ 400) : ix_F 249 [.ref 135, .int (nI p)] (ix_S0 b, τ) = some (.int (tx_r c t p), (ix_S0 b, τ)) := by
  obtain ⟨ht, h1, h2, -⟩ := h
  rw [q_M_raw_0, h1]
  unfold tx_r
  by_cases e : p < t
  · rw [if_neg (nI_ge e (by omega)), if_neg (nI_in (by omega) (by omega)), nI_clamp (by omega), (h2 p e).2, if_pos e]
  · rw [if_pos (nI_le (by omega) (by omega)), if_neg e]
variable {p : Nat}
theorem tx_rL (hc : p < t → c p < 256) : (97 ≤ tx_r c t p ∧ tx_r c t p ≤ 122) ∨ (65 ≤ tx_r c t p ∧ tx_r c t p ≤ 90) ↔ p < t ∧ tx_L (c p) = true := by
  unfold tx_r
  by_cases e : p < t
  · have h := hc e
    rw [if_pos e, show (97 : Int32) = nI 97 from rfl, show (122 : Int32) = nI 122 from rfl, show (65 : Int32) = nI 65 from rfl, show (90 : Int32) = nI 90 from rfl, nI_leI (by omega) (by omega), nI_leI (by omega) (by omega), nI_leI (by omega) (by omega), nI_leI (by omega) (by omega)]
    simp [tx_L, e]
  · rw [if_neg e]
    constructor
    · intro h; exact absurd h (by decide)
    · intro h; exact absurd h.1 e
theorem tx_rD (hc : p < t → c p < 256) : (48 ≤ tx_r c t p ∧ tx_r c t p ≤ 57) ↔ p < t ∧ tx_D (c p) = true := by
  unfold tx_r
  by_cases e : p < t
  · have h := hc e
    rw [if_pos e, show (48 : Int32) = nI 48 from rfl, show (57 : Int32) = nI 57 from rfl, nI_leI (by omega) (by omega), nI_leI (by omega) (by omega)]
    simp [tx_D, e]
  · rw [if_neg e]
    constructor
    · intro h; exact absurd h (by decide)
    · intro h; exact absurd h.1 e
theorem f_mL (hc : p < t → c p < 256) : ix_F 250 [.ref 135, .int (tx_r c t p)] (ix_S0 b, τ) = some (.int (iv_B (p < t ∧ tx_L (c p) = true)), (ix_S0 b, τ)) := by
  have h := tx_rL (c := c) (t := t) hc
  rw [q_M_isLetter_0, f_isIn, Option.bind_some, iv_tI]
  by_cases e : 97 ≤ tx_r c t p ∧ tx_r c t p ≤ 122
  · rw [iv_Bt e, if_neg (by decide), iv_Bt (h.mp (Or.inl e))]
  · rw [iv_Bf e, if_pos rfl, f_isIn, Option.bind_some, iv_tI]
    by_cases e2 : 65 ≤ tx_r c t p ∧ tx_r c t p ≤ 90
    · rw [iv_Bt e2, if_neg (by decide), iv_Bt (h.mp (Or.inr e2))]
    · rw [iv_Bf e2, if_pos rfl, iv_Bf (fun q => (h.mpr q).elim e e2)]
theorem f_mD (hc : p < t → c p < 256) : ix_F 252 [.ref 135, .int (tx_r c t p)] (ix_S0 b, τ) = some (.int (iv_B (p < t ∧ tx_D (c p) = true)), (ix_S0 b, τ)) := by
  rw [q_M_isDigit_0, f_isIn, Option.bind_some, iv_tI, if_pos iv_B01, iv_Bc (tx_rD hc)]
theorem f_mG {x : Nat} (hx : x < 256) : ix_F 253 [.ref 135, .int (nI x)] (ix_S0 b, τ) = some (.int (iv_B (tx_G x = true)), (ix_S0 b, τ)) := by
  have hG : tx_G x = true ↔ x = 59 ∨ x = 43 ∨ x = 45 ∨ x = 42 ∨ x = 47 ∨ x = 40 ∨ x = 41 ∨ x = 60 ∨ x = 61 ∨ x = 62 := by simp [tx_G]
  have e : ∀ k : Nat, k < 256 → (nI x = nI k ↔ x = k) := fun k hk => nI_eq (by omega) (by omega)
  rw [q_M_isMarkSign_0, show (59 : Int32) = nI 59 from rfl, show (43 : Int32) = nI 43 from rfl, show (45 : Int32) = nI 45 from rfl, show (42 : Int32) = nI 42 from rfl, show (47 : Int32) = nI 47 from rfl, show (40 : Int32) = nI 40 from rfl, show (41 : Int32) = nI 41 from rfl, show (60 : Int32) = nI 60 from rfl, show (61 : Int32) = nI 61 from rfl, show (62 : Int32) = nI 62 from rfl]
  have g : ∀ k : Nat, k < 256 → (tx_G k = true) → x = k → iv_B (tx_G x = true) = 1 := fun k _ h q => iv_Bt (by rw [q]; exact h)
  by_cases h1 : x = 59
  · rw [if_pos ((e 59 (by omega)).mpr h1), g 59 (by omega) (by decide) h1]
  rw [if_neg (fun q => h1 ((e 59 (by omega)).mp q))]
  by_cases h2 : x = 43
  · rw [if_pos ((e 43 (by omega)).mpr h2), g 43 (by omega) (by decide) h2]
  rw [if_neg (fun q => h2 ((e 43 (by omega)).mp q))]
  by_cases h3 : x = 45
  · rw [if_pos ((e 45 (by omega)).mpr h3), g 45 (by omega) (by decide) h3]
  rw [if_neg (fun q => h3 ((e 45 (by omega)).mp q))]
  by_cases h4 : x = 42
  · rw [if_pos ((e 42 (by omega)).mpr h4), g 42 (by omega) (by decide) h4]
  rw [if_neg (fun q => h4 ((e 42 (by omega)).mp q))]
  by_cases h5 : x = 47
  · rw [if_pos ((e 47 (by omega)).mpr h5), g 47 (by omega) (by decide) h5]
  rw [if_neg (fun q => h5 ((e 47 (by omega)).mp q))]
  by_cases h6 : x = 40
  · rw [if_pos ((e 40 (by omega)).mpr h6), g 40 (by omega) (by decide) h6]
  rw [if_neg (fun q => h6 ((e 40 (by omega)).mp q))]
  by_cases h7 : x = 41
  · rw [if_pos ((e 41 (by omega)).mpr h7), g 41 (by omega) (by decide) h7]
  rw [if_neg (fun q => h7 ((e 41 (by omega)).mp q))]
  by_cases h8 : x = 60
  · rw [if_pos ((e 60 (by omega)).mpr h8), g 60 (by omega) (by decide) h8]
  rw [if_neg (fun q => h8 ((e 60 (by omega)).mp q))]
  by_cases h9 : x = 61
  · rw [if_pos ((e 61 (by omega)).mpr h9), g 61 (by omega) (by decide) h9]
  rw [if_neg (fun q => h9 ((e 61 (by omega)).mp q))]
  by_cases h10 : x = 62
  · rw [if_pos ((e 62 (by omega)).mpr h10), g 62 (by omega) (by decide) h10]
  rw [if_neg (fun q => h10 ((e 62 (by omega)).mp q)), iv_Bf (by rw [hG]; omega)]
end Mo
