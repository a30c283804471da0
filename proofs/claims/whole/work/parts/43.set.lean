/-! ranks and sets -/
def iv_M (j : Nat) : Nat := 0 ||| 2 ^ (j % 10) ||| 2 ^ (j / 10 % 10) ||| 2 ^ (j / 10 / 10 % 10) ||| 2 ^ (j / 10 / 10 / 10 % 10) ||| 2 ^ (j / 10 / 10 / 10 / 10 % 10)
theorem iv_M_to0 : ((List.range 5).all fun a => (List.range 5).all fun c => (List.range 5).all fun d => (List.range 5).all fun e => (List.range 5).all fun f => decide (0 ||| 2 ^ (f + 1) ||| 2 ^ (e + 1) ||| 2 ^ (d + 1) ||| 2 ^ (c + 1) ||| 2 ^ (a + 1) ≠ 62) || decide (nI (11111 + 10000 * a + 1000 * c + 100 * d + 10 * e + f) ∈ ix_rnk)) = true := by decide +kernel
theorem iv_M_to (a : Nat) (ha : a < 5) (c : Nat) (hc : c < 5) (d : Nat) (hd : d < 5) (e : Nat) (he : e < 5) (f : Nat) (hf : f < 5) : 0 ||| 2 ^ (f + 1) ||| 2 ^ (e + 1) ||| 2 ^ (d + 1) ||| 2 ^ (c + 1) ||| 2 ^ (a + 1) ≠ 62 ∨ nI (11111 + 10000 * a + 1000 * c + 100 * d + 10 * e + f) ∈ ix_rnk := by
  have h := List.all_eq_true.mp iv_M_to0 a (List.mem_range.mpr ha)
  have h := List.all_eq_true.mp h c (List.mem_range.mpr hc)
  have h := List.all_eq_true.mp h d (List.mem_range.mpr hd)
  have h := List.all_eq_true.mp h e (List.mem_range.mpr he)
  have h := List.all_eq_true.mp h f (List.mem_range.mpr hf)
  rcases Bool.or_eq_true_iff.mp h with h | h
  · exact Or.inl (of_decide_eq_true h)
  · exact Or.inr (of_decide_eq_true h)
theorem iv_62 : ∀ d, d < 10 → Nat.testBit 62 d = true → 1 ≤ d ∧ d ≤ 5 := by decide
theorem iv_M_of : ∀ r ∈ ix_rnk, iv_M r.toNatClampNeg = 62 ∧ 12345 ≤ r ∧ r ≤ 54321 := by decide +kernel
theorem iv_M_lt (j : Nat) : iv_M j < 2 ^ 10 := by
  unfold iv_M
  have h : ∀ x, 2 ^ (x % 10) < 2 ^ 10 := fun x => Nat.pow_lt_pow_right (by omega) (Nat.mod_lt _ (by omega))
  refine Nat.or_lt_two_pow (Nat.or_lt_two_pow (Nat.or_lt_two_pow (Nat.or_lt_two_pow (Nat.or_lt_two_pow (by decide) (h _)) (h _)) (h _)) (h _)) (h _)
theorem iv_rank_iff {j : Nat} (h1 : 12345 ≤ j) (h2 : j ≤ 54321) : iv_M j = 62 ↔ nI j ∈ ix_rnk := by
  constructor
  · intro h
    have hb : ∀ d, (iv_M j).testBit d = Nat.testBit 62 d := fun d => by rw [h]
    have t : ∀ x, Nat.testBit (2 ^ x) x = true := fun x => by rw [Nat.testBit_two_pow]; simp
    have d0 := iv_62 (j % 10) (by omega) (by rw [← hb]; unfold iv_M; simp only [Nat.testBit_or, t, Bool.or_true, Bool.true_or])
    have d1 := iv_62 (j / 10 % 10) (by omega) (by rw [← hb]; unfold iv_M; simp only [Nat.testBit_or, t, Bool.or_true, Bool.true_or])
    have d2 := iv_62 (j / 10 / 10 % 10) (by omega) (by rw [← hb]; unfold iv_M; simp only [Nat.testBit_or, t, Bool.or_true, Bool.true_or])
    have d3 := iv_62 (j / 10 / 10 / 10 % 10) (by omega) (by rw [← hb]; unfold iv_M; simp only [Nat.testBit_or, t, Bool.or_true, Bool.true_or])
    have d4 := iv_62 (j / 10 / 10 / 10 / 10 % 10) (by omega) (by rw [← hb]; unfold iv_M; simp only [Nat.testBit_or, t, Bool.or_true, Bool.true_or])
    have h3 := iv_M_to (j / 10 / 10 / 10 / 10 % 10 - 1) (by omega) (j / 10 / 10 / 10 % 10 - 1) (by omega) (j / 10 / 10 % 10 - 1) (by omega) (j / 10 % 10 - 1) (by omega) (j % 10 - 1) (by omega)
    rw [show j % 10 - 1 + 1 = j % 10 by omega, show j / 10 % 10 - 1 + 1 = j / 10 % 10 by omega, show j / 10 / 10 % 10 - 1 + 1 = j / 10 / 10 % 10 by omega, show j / 10 / 10 / 10 % 10 - 1 + 1 = j / 10 / 10 / 10 % 10 by omega, show j / 10 / 10 / 10 / 10 % 10 - 1 + 1 = j / 10 / 10 / 10 / 10 % 10 by omega] at h3
    have h4 := h3.resolve_left (fun hn => hn h)
    rwa [show 11111 + 10000 * (j / 10 / 10 / 10 / 10 % 10 - 1) + 1000 * (j / 10 / 10 / 10 % 10 - 1) + 100 * (j / 10 / 10 % 10 - 1) + 10 * (j / 10 % 10 - 1) + (j % 10 - 1) = j by omega] at h4
  · intro h
    have := (iv_M_of _ h).1
    rwa [nI_clamp (by omega)] at this
theorem f_isRank_st (b : Bool) {m j i : Nat} (hj : j < 2 ^ 31) (hi : i < 5) (σ : ix_St) : ix_S 33 1 22 [none, some (.int (nI m)), some (.int (nI j)), some (.int (nI i))] [] (ix_S0 b, σ) = ix_S 33 1 22 [none, some (.int (nI (m ||| 2 ^ (j % 10)))), some (.int (nI (j / 10))), some (.int (nI (i + 1)))] [] (ix_S0 b, σ) := by
  rw [q_X_isRank_22, if_neg (by rw [show (5 : Int32) = nI 5 from rfl, nI_leI (by omega) (by omega)]; omega)]
  have e1 : nI j - nI j / 10 * 10 = nI (j % 10) := pk_rem (d := 10) hj (by omega) (by omega)
  have e2 : nI j / 10 = nI (j / 10) := pk_div (d := 10) hj (by omega) (by omega)
  rw [e1, e2, iv_shl (by omega), iv_or, nI_1]
theorem f_isRankX (b : Bool) (v : Int32) (σ : ix_St) : ix_F 33 [.int v] (ix_S0 b, σ) = some (.int (iv_B (v ∈ ix_rnk)), (ix_S0 b, σ)) := by
  rw [q_X_isRank_0]
  by_cases h1 : v < 12345
  · rw [if_pos h1, iv_Bf (fun h => absurd (iv_M_of v h).2.1 (iv_nle.mpr h1))]
  · rw [if_neg h1]
    by_cases h2 : v ≤ 54321
    · rw [if_pos h2]
      have h0 : ¬ v < 0 := by
        intro h
        refine h1 ?_
        rw [iv_lt] at h ⊢
        have e1 : (0 : Int32).toInt = 0 := by decide
        have e2 : (12345 : Int32).toInt = 12345 := by decide
        omega
      obtain ⟨j, hj, rfl⟩ := nI_of h0
      rw [show (12345 : Int32) = nI 12345 from rfl, nI_ltI hj (by omega)] at h1
      rw [show (54321 : Int32) = nI 54321 from rfl, nI_leI hj (by omega)] at h2
      rw [show (0 : Int32) = nI 0 from rfl]
      rw [f_isRank_st b hj (by omega), f_isRank_st b (by omega) (by omega), f_isRank_st b (by omega) (by omega), f_isRank_st b (by omega) (by omega), f_isRank_st b (by omega) (by omega), q_X_isRank_22, if_pos (by decide)]
      have hM := iv_M_lt j
      show (if nI (iv_M j) = nI 62 then _ else _) = _
      by_cases h : nI j ∈ ix_rnk
      · rw [if_pos ((nI_eq (by omega) (by omega)).mpr ((iv_rank_iff (by omega) h2).mpr h)), iv_Bt h]
      · rw [if_neg (fun e => h ((iv_rank_iff (by omega) h2).mp ((nI_eq (by omega) (by omega)).mp e))), iv_Bf h]
    · rw [if_neg h2, iv_Bf (fun h => h2 (iv_M_of v h).2.2)]
theorem iv_la_n {j : Nat} (hj : j < 2 ^ 31) : iv_la (nI j) 0 = nI (j / 10 / 10 / 10 / 10 % 10) ∧ iv_la (nI j) 1 = nI (j / 10 / 10 / 10 % 10) ∧ iv_la (nI j) 2 = nI (j / 10 / 10 % 10) ∧ iv_la (nI j) 3 = nI (j / 10 % 10) ∧ iv_la (nI j) 4 = nI (j % 10) := by
  have e : ∀ k, k < 2 ^ 31 → nI k / 10 = nI (k / 10) := fun k hk => pk_div (d := 10) hk (by omega) (by omega)
  have r : ∀ k, k < 2 ^ 31 → nI k - nI k / 10 * 10 = nI (k % 10) := fun k hk => pk_rem (d := 10) hk (by omega) (by omega)
  refine ⟨?_, ?_, ?_, ?_, ?_⟩
  · show nI j / 10 / 10 / 10 / 10 - nI j / 10 / 10 / 10 / 10 / 10 * 10 = _
    rw [e j hj, e _ (by omega), e _ (by omega), e _ (by omega), r _ (by omega)]
  · show nI j / 10 / 10 / 10 - nI j / 10 / 10 / 10 / 10 * 10 = _
    rw [e j hj, e _ (by omega), e _ (by omega), r _ (by omega)]
  · show nI j / 10 / 10 - nI j / 10 / 10 / 10 * 10 = _
    rw [e j hj, e _ (by omega), r _ (by omega)]
  · show nI j / 10 - nI j / 10 / 10 * 10 = _
    rw [e j hj, r _ (by omega)]
  · exact r j hj
theorem f_isRankM_st (b : Bool) (v m : Int32) {k : Nat} (hk : k < 5) (σ : ix_St) : ix_S 188 2 4 [some (.ref 135), some (.int v), some (.int m), some (.int (nI k))] [] (ix_S0 b, σ) = ix_S 188 2 4 [some (.ref 135), some (.int v), some (.int (m ||| ((1 : Int32) <<< (iv_la v k &&& 31)))), some (.int (nI (k + 1)))] [] (ix_S0 b, σ) := by
  rw [q_M_isRank_4, if_neg (by rw [show (5 : Int32) = nI 5 from rfl, nI_leI (by omega) (by omega)]; omega), f_landAt b v hk]
  simp only [Option.bind_some, iv_tI]
  rw [nI_1]
theorem f_isRankM (b : Bool) (v : Int32) (σ : ix_St) : ix_F 188 [.ref 135, .int v] (ix_S0 b, σ) = some (.int (iv_B (v ∈ ix_rnk)), (ix_S0 b, σ)) := by
  rw [q_M_isRank_0, show (0 : Int32) = nI 0 from rfl]
  rw [f_isRankM_st b v _ (by omega), f_isRankM_st b v _ (by omega), f_isRankM_st b v _ (by omega), f_isRankM_st b v _ (by omega), f_isRankM_st b v _ (by omega), q_M_isRank_4, if_pos (by decide), f_isIn]
  simp only [Option.bind_some, iv_tI]
  by_cases h : 12345 ≤ v ∧ v ≤ 54321
  · rw [if_neg (by rw [iv_B0]; exact fun hn => hn h)]
    have h0 : ¬ v < 0 := by
      intro h3
      have h4 := h.1
      rw [iv_lt] at h3
      rw [iv_le] at h4
      have e1 : (0 : Int32).toInt = 0 := by decide
      have e2 : (12345 : Int32).toInt = 12345 := by decide
      omega
    obtain ⟨j, hj, rfl⟩ := nI_of h0
    obtain ⟨h1, h2⟩ := h
    rw [show (12345 : Int32) = nI 12345 from rfl, nI_leI (by omega) hj] at h1
    rw [show (54321 : Int32) = nI 54321 from rfl, nI_leI hj (by omega)] at h2
    obtain ⟨l0, l1, l2, l3, l4⟩ := iv_la_n hj
    rw [l0, show (0 + 1 : Nat) = 1 from rfl, l1, show (1 + 1 : Nat) = 2 from rfl, l2, show (2 + 1 : Nat) = 3 from rfl, l3, show (3 + 1 : Nat) = 4 from rfl, l4]
    rw [iv_shl (by omega), iv_shl (by omega), iv_shl (by omega), iv_shl (by omega), iv_shl (by omega), iv_or, iv_or, iv_or, iv_or, iv_or]
    have hM := iv_M_lt j
    rw [show 0 ||| 2 ^ (j / 10 / 10 / 10 / 10 % 10) ||| 2 ^ (j / 10 / 10 / 10 % 10) ||| 2 ^ (j / 10 / 10 % 10) ||| 2 ^ (j / 10 % 10) ||| 2 ^ (j % 10) = iv_M j by unfold iv_M; simp only [Nat.zero_or]; ac_rfl]
    show (if nI (iv_M j) = nI 62 then _ else _) = _
    by_cases h : nI j ∈ ix_rnk
    · rw [if_pos ((nI_eq (by omega) (by omega)).mpr ((iv_rank_iff h1 h2).mpr h)), iv_Bt h]
    · rw [if_neg (fun e => h ((iv_rank_iff h1 h2).mp ((nI_eq (by omega) (by omega)).mp e))), iv_Bf h]
  · rw [if_pos (iv_B0.mpr h), iv_Bf (fun hr => h (iv_M_of v hr).2)]
theorem iv_mod_st {o p : Nat} : o % 2 ^ (p + 1) = if o.testBit p = true then o % 2 ^ p ||| 2 ^ p else o % 2 ^ p := by
  apply Nat.eq_of_testBit_eq
  intro i
  by_cases h : o.testBit p = true
  · rw [if_pos h, Nat.testBit_or, Nat.testBit_mod_two_pow, Nat.testBit_mod_two_pow, Nat.testBit_two_pow]
    by_cases hi : i = p
    · subst hi; simp [h]
    · by_cases h2 : i < p
      · simp [h2, show i < p + 1 by omega, Ne.symm hi]
      · simp [h2, show ¬ i < p + 1 by omega, Ne.symm hi]
  · rw [if_neg h, Nat.testBit_mod_two_pow, Nat.testBit_mod_two_pow]
    by_cases hi : i = p
    · subst hi; simp [h]
    · by_cases h2 : i < p
      · simp [h2, show i < p + 1 by omega]
      · simp [h2, show ¬ i < p + 1 by omega]
theorem f_overSet_aux (b : Bool) {σ : ix_St} {n o : Nat} (hn : n ≤ 12) (hp : σ 135 7 = nI n) (ho : o < 2 ^ n) (h : ∀ i, i < 12 → σ 136 (18 + i) = iv_B (o.testBit i = true)) : ∀ m p, p + m = n → ix_S 229 1 4 [some (.ref 135), some (.int (nI (o % 2 ^ p))), some (.int (nI p))] [] (ix_S0 b, σ) = some (.int (nI o), (ix_S0 b, σ)) := by
  intro m
  induction m with
  | zero =>
    intro p hpn
    have : p = n := by omega
    subst this
    rw [q_M_overSet_4, hp, if_pos (nI_le (Nat.le_refl _) (by omega)), Nat.mod_eq_of_lt ho]
  | succ m ih =>
    intro p hpn
    rw [q_M_overSet_4, hp, if_neg (by rw [nI_leI (by omega) (by omega)]; omega), show (18 : Int32) = nI 18 from rfl, nI_add, if_neg (nI_in (by omega) (by omega)), nI_clamp (by omega), h p (by omega), nI_1]
    have := ih (p + 1) (by omega)
    rw [iv_mod_st] at this
    by_cases hb : o.testBit p = true
    · rw [if_pos (iv_B1.mpr hb), iv_shl (by omega), iv_or]
      rw [if_pos hb] at this
      exact this
    · rw [if_neg (fun h => hb (iv_B1.mp h))]
      rw [if_neg hb] at this
      exact this
theorem f_overSet (b : Bool) {σ : ix_St} {n o : Nat} (hn : n ≤ 12) (hp : σ 135 7 = nI n) (ho : o < 2 ^ n) (h : ∀ i, i < 12 → σ 136 (18 + i) = iv_B (o.testBit i = true)) : ix_F 229 [.ref 135] (ix_S0 b, σ) = some (.int (nI o), (ix_S0 b, σ)) := by
  rw [q_M_overSet_0]
  have := f_overSet_aux b hn hp ho h n 0 (by omega)
  rwa [Nat.pow_zero, Nat.mod_one] at this
theorem f_hereM (b : Bool) {σ : ix_St} {n o : Nat} (hn : n ≤ 12) (hp : σ 135 7 = nI n) (ho : o < 2 ^ n) (h : ∀ i, i < 12 → σ 136 (18 + i) = iv_B (o.testBit i = true)) : ix_F 196 [.ref 135] (ix_S0 b, σ) = some (.int (nI (iv_he n o)), (ix_S0 b, σ)) := by
  rw [q_M_hereSet_0, f_overSet b hn hp ho h]
  simp only [Option.bind_some, iv_tI]
  rw [hp, iv_here hn ho]
theorem f_everyone (b : Bool) {σ : ix_St} {n : Nat} (hn : n ≤ 12) (hp : σ 2 6 = nI n) : ix_F 123 [.ref 2] (ix_S0 b, σ) = some (.int (nI (2 ^ n - 1)), (ix_S0 b, σ)) := by
  rw [q_River_everyone_0, hp, iv_shl (by omega)]
  have : nI (2 ^ n) - 1 = nI (2 ^ n - 1) := pk_sub (Nat.two_pow_pos n)
  rw [this]
theorem f_hereX (b : Bool) {σ : ix_St} {n o : Nat} (hn : n ≤ 12) (hp : σ 2 6 = nI n) (ho : o < 2 ^ n) (h : σ 2 7 = nI o) : ix_F 122 [.ref 2] (ix_S0 b, σ) = some (.int (nI (iv_he n o)), (ix_S0 b, σ)) := by
  rw [q_River_notOver_0, q_River_everyone_0]
  simp only [Option.bind_some, iv_tI]
  rw [hp, h, iv_here hn ho]
/-- a set of those that are here -/
theorem iv_sub {v : Int32} {h : Nat} (hh : h < 2 ^ 31) (e : v &&& (nI h ^^^ (-1)) = 0) : ∃ s : Nat, s &&& h = s ∧ v = nI s := by
  refine ⟨v.toBitVec.toNat &&& h, ?_, ?_⟩
  · rw [Nat.and_assoc, Nat.and_self]
  · have e2 : v.toBitVec &&& (BitVec.ofNat 32 h ^^^ BitVec.allOnes 32) = 0#32 := congrArg Int32.toBitVec e
    apply Int32.toBitVec_inj.1
    apply BitVec.eq_of_getLsbD_eq
    intro i hi
    show _ = (BitVec.ofNat 32 (v.toBitVec.toNat &&& h)).getLsbD i
    have e3 := congrArg (fun x => x.getLsbD i) e2
    simp only [BitVec.getLsbD_and, BitVec.getLsbD_xor, BitVec.getLsbD_ofNat, BitVec.getLsbD_allOnes, BitVec.getLsbD_zero, hi, decide_true, Bool.true_and] at e3
    rw [BitVec.getLsbD_ofNat, Nat.testBit_and, BitVec.testBit_toNat]
    simp only [hi, decide_true, Bool.true_and]
    revert e3
    cases v.toBitVec.getLsbD i <;> cases h.testBit i <;> simp
theorem iv_sub_lt {s h n : Nat} (e : s &&& h = s) (hh : h < 2 ^ n) : s < 2 ^ n := by
  rw [← e]
  exact Nat.lt_of_le_of_lt Nat.and_le_right hh
theorem f_canRow (b : Bool) {σ : ix_St} {n o : Nat} (hn : n ≤ 12) (hp : σ 2 6 = nI n) (ho : o < 2 ^ n) (h : σ 2 7 = nI o) (v : Int32) : ix_F 119 [.ref 2, .int v] (ix_S0 b, σ) = some (.int (iv_B (¬ v = 0 ∧ v &&& (nI (iv_he n o) ^^^ (-1)) = 0)), (ix_S0 b, σ)) := by
  rw [q_River_canRow_0]
  by_cases h0 : v = 0
  · rw [if_pos h0, iv_Bf (fun h => h.1 h0)]
  · rw [if_neg h0, f_hereX b hn hp ho h]
    simp only [Option.bind_some, iv_tI]
    by_cases h1 : v &&& (nI (iv_he n o) ^^^ (-1)) = 0
    · rw [if_pos h1, iv_Bt ⟨h0, h1⟩]
    · rw [if_neg h1, iv_Bf (fun h => h1 h.2)]
theorem iv_he_31 {n o : Nat} (hn : n ≤ 12) (ho : o < 2 ^ n) : iv_he n o < 4096 := Nat.lt_of_lt_of_le (iv_he_lt ho) (iv_p12 hn)
theorem f_canCross (b : Bool) {σ : ix_St} {n o : Nat} (hn : n ≤ 12) (hp : σ 135 7 = nI n) (ho : o < 2 ^ n) (h : ∀ i, i < 12 → σ 136 (18 + i) = iv_B (o.testBit i = true)) (v : Int32) : ix_F 191 [.ref 135, .int v] (ix_S0 b, σ) = some (.int (iv_B (¬ v = 0 ∧ v &&& (nI (iv_he n o) ^^^ (-1)) = 0)), (ix_S0 b, σ)) := by
  rw [q_M_canCross_0, f_hereM b hn hp ho h]
  simp only [Option.bind_some, iv_tI]
  have h31 := iv_he_31 hn ho
  by_cases h1 : v &&& (nI (iv_he n o) ^^^ (-1)) = 0
  · obtain ⟨s, hs, rfl⟩ := iv_sub (by omega) h1
    have hs2 : s < 2 ^ n := iv_sub_lt hs (iv_he_lt ho)
    have := iv_p12 hn
    by_cases h0 : s = 0
    · subst h0
      rw [if_pos (by decide), iv_Bf (fun h => h.1 rfl)]
    · rw [if_neg (nI_nle (by omega) (by omega)), if_pos h1, iv_Bt ⟨nI_ne0 (by omega) (by omega), h1⟩]
  · rw [iv_Bf (fun h => h1 h.2)]
    by_cases h2 : v ≤ 0
    · rw [if_pos h2]
    · rw [if_neg h2, if_neg h1]
def iv_pc : Nat → Nat → Nat
  | 0, _ => 0
  | k + 1, s => iv_pc k s + if s.testBit k then 1 else 0
theorem iv_pc_st : ∀ a, a < 64 → ∀ c, c < 64 → 64 * a + c ≠ 0 → (64 * a + c) &&& (64 * a + c - 1) < 64 * a + c ∧ iv_pc 12 (64 * a + c) = iv_pc 12 ((64 * a + c) &&& (64 * a + c - 1)) + 1 := by decide +kernel
theorem iv_pc_le (s : Nat) : ∀ k, iv_pc k s ≤ k := by
  intro k
  induction k with
  | zero => exact Nat.le_refl _
  | succ k ih =>
    show iv_pc k s + _ ≤ _
    split <;> omega
theorem f_onesOf_aux (b : Bool) (σ : ix_St) : ∀ s, s < 4096 → ∀ c, ix_S 210 1 4 [none, none, some (.int (nI c)), some (.int (nI s))] [] (ix_S0 b, σ) = some (.int (nI (c + iv_pc 12 s)), (ix_S0 b, σ)) := by
  intro s
  induction s using Nat.strongRecOn with
  | ind s ih =>
    intro hs c
    rw [q_M_onesOf_4]
    by_cases h0 : s = 0
    · subst h0
      rw [if_pos (show nI 0 = 0 from rfl)]
      rfl
    · rw [if_neg (nI_ne0 (by omega) (by omega))]
      have h1 := iv_pc_st (s / 64) (by omega) (s % 64) (by omega) (by omega)
      rw [show 64 * (s / 64) + s % 64 = s by omega] at h1
      have e : nI s - 1 = nI (s - 1) := pk_sub (b := 1) (by omega)
      rw [e, iv_and, nI_1, ih _ h1.1 (by omega), h1.2]
      rw [show c + 1 + iv_pc 12 (s &&& s - 1) = c + (iv_pc 12 (s &&& s - 1) + 1) by omega]
theorem f_onesOf (b : Bool) (σ : ix_St) {s : Nat} (hs : s < 4096) : ix_F 210 [.ref 135, .int (nI s)] (ix_S0 b, σ) = some (.int (nI (iv_pc 12 s)), (ix_S0 b, σ)) := by
  rw [q_M_onesOf_0, show (0 : Int32) = nI 0 from rfl, f_onesOf_aux b σ s hs, Nat.zero_add]
