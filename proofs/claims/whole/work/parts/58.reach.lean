/-! whom one talker reaches; what was seen; -/
def iv_hq (f : Nat → Int32) (x : Int32) : Nat → Nat
  | 0 => 0
  | n + 1 => if f n &&& x = 0 then iv_hq f x n else iv_hq f x n ||| 2 ^ n
theorem iv_hq_lt (f : Nat → Int32) (x : Int32) : ∀ n, iv_hq f x n < 2 ^ n
  | 0 => by show 0 < 2 ^ 0; decide
  | n + 1 => by
    have h := iv_hq_lt f x n
    have h1 : iv_hq f x n < 2 ^ (n + 1) := Nat.lt_of_lt_of_le h (Nat.pow_le_pow_right (by omega) (by omega))
    show (if f n &&& x = 0 then iv_hq f x n else iv_hq f x n ||| 2 ^ n) < _
    by_cases h0 : f n &&& x = 0
    · rw [if_pos h0]; exact h1
    · rw [if_neg h0]; exact Nat.or_lt_two_pow h1 (Nat.pow_lt_pow_right (by omega) (by omega))
theorem iv_hq_12 {f g : Nat → Int32} {x : Int32} {n : Nat} (hn : n ≤ 12) (h : ∀ i, i < 12 → f i = g i ∧ (n ≤ i → f i = 0)) : iv_hq f x 12 = iv_hq g x n := by
  have h1 : ∀ m, m ≤ n → iv_hq f x m = iv_hq g x m := by
    intro m
    induction m with
    | zero => intro _; rfl
    | succ m ih =>
      intro hm
      show (if f m &&& x = 0 then iv_hq f x m else iv_hq f x m ||| 2 ^ m) = (if g m &&& x = 0 then iv_hq g x m else iv_hq g x m ||| 2 ^ m)
      rw [ih (by omega), (h m (by omega)).1]
  have h2 : ∀ m, n ≤ m → m ≤ 12 → iv_hq f x m = iv_hq g x n := by
    intro m
    induction m with
    | zero => intro h0 _; rw [show n = 0 by omega]; rfl
    | succ m ih =>
      intro h3 h4
      by_cases h5 : n ≤ m
      · show (if f m &&& x = 0 then iv_hq f x m else iv_hq f x m ||| 2 ^ m) = _
        rw [(h m (by omega)).2 h5, if_pos (by rw [Int32.zero_and]), ih h5 (by omega)]
      · rw [show n = m + 1 by omega]
        exact h1 (m + 1) (by omega)
  exact h2 12 hn (by omega)
theorem f_hearX (b : Bool) (σ : ix_St) (x : Int32) : ix_F 149 [.ref 11, .int x] (ix_S0 b, σ) = some (.int (nI (iv_hq (σ 20) x 12)), (ix_S0 b, σ)) := by
  have key : ∀ d j, j + d = 12 → ix_S 149 1 4 [some (.ref 11), some (.int x), some (.int (nI (iv_hq (σ 20) x j))), some (.int (nI j))] [] (ix_S0 b, σ) = some (.int (nI (iv_hq (σ 20) x 12)), (ix_S0 b, σ)) := by
    intro d
    induction d with
    | zero =>
      intro j hj
      rw [q_Texts_hearersOf_4, if_pos (show (12 : Int32) ≤ nI j from nI_le (a := 12) (by omega) (by omega)), show j = 12 by omega]
    | succ d ih =>
      intro j hj
      rw [q_Texts_hearersOf_4, if_neg (show ¬ (12 : Int32) ≤ nI j from nI_ge (b := 12) (by omega) (by omega)), if_neg (nI_in (by omega) (by omega)), nI_clamp (by omega), nI_1, iv_shl (by omega), iv_or]
      have h := ih (j + 1) (by omega)
      by_cases h0 : σ 20 j &&& x = 0
      · rw [if_pos h0]
        rwa [show iv_hq (σ 20) x (j + 1) = iv_hq (σ 20) x j from if_pos h0] at h
      · rw [if_neg h0]
        rwa [show iv_hq (σ 20) x (j + 1) = iv_hq (σ 20) x j ||| 2 ^ j from if_neg h0] at h
  rw [q_Texts_hearersOf_0]
  exact key 12 0 (by omega)
theorem f_hearM (c : Bool) {τ : ix_St} {n : Nat} (hn : n ≤ 12) (h7 : τ 135 7 = nI n) (x : Int32) : ix_F 219 [.ref 135, .int x] (ix_S0 c, τ) = some (.int (nI (iv_hq (τ 153) x n)), (ix_S0 c, τ)) := by
  have key : ∀ d j, j + d = n → ix_S 219 1 4 [some (.ref 135), some (.int x), some (.int (nI (iv_hq (τ 153) x j))), some (.int (nI j))] [] (ix_S0 c, τ) = some (.int (nI (iv_hq (τ 153) x n)), (ix_S0 c, τ)) := by
    intro d
    induction d with
    | zero =>
      intro j hj
      rw [q_M_hearersOf_4, h7, if_pos (nI_le (by omega) (by omega)), show j = n by omega]
    | succ d ih =>
      intro j hj
      rw [q_M_hearersOf_4, h7, if_neg (nI_ge (by omega) (by omega)), if_neg (nI_in (by omega) (by omega)), nI_clamp (by omega), nI_1, iv_shl (by omega), iv_or]
      have h := ih (j + 1) (by omega)
      by_cases h0 : τ 153 j &&& x = 0
      · rw [if_pos h0]
        rwa [show iv_hq (τ 153) x (j + 1) = iv_hq (τ 153) x j from if_pos h0] at h
      · rw [if_neg h0]
        rwa [show iv_hq (τ 153) x (j + 1) = iv_hq (τ 153) x j ||| 2 ^ j from if_neg h0] at h
  rw [q_M_hearersOf_0]
  exact key n 0 (by omega)
theorem iv_pc_st2 (s t : Nat) (h : ∀ i, s.testBit i = true → t.testBit i = true) : ∀ k, ((∀ i, i < k → s.testBit i = t.testBit i) ∧ iv_pc k s = iv_pc k t) ∨ iv_pc k s < iv_pc k t
  | 0 => Or.inl ⟨fun i hi => absurd hi (by omega), rfl⟩
  | k + 1 => by
    have hr := iv_pc_st2 s t h k
    have hk := h k
    show ((∀ i, i < k + 1 → s.testBit i = t.testBit i) ∧ iv_pc k s + (if s.testBit k then 1 else 0) = iv_pc k t + (if t.testBit k then 1 else 0)) ∨ iv_pc k s + (if s.testBit k then 1 else 0) < iv_pc k t + (if t.testBit k then 1 else 0)
    cases hs : s.testBit k with
    | true =>
      rw [hk hs]
      rcases hr with ⟨h1, h2⟩ | hr
      · refine Or.inl ⟨fun i hi => ?_, by rw [h2]⟩
        by_cases hik : i = k
        · rw [hik, hs, hk hs]
        · exact h1 i (by omega)
      · right; simp only [if_true]; omega
    | false =>
      cases ht : t.testBit k with
      | true =>
        right
        rcases hr with ⟨h1, h2⟩ | hr
        · simp only [if_true, Bool.false_eq_true, if_false]; omega
        · simp only [if_true, Bool.false_eq_true, if_false]; omega
      | false =>
        rcases hr with ⟨h1, h2⟩ | hr
        · refine Or.inl ⟨fun i hi => ?_, by rw [h2]⟩
          by_cases hik : i = k
          · rw [hik, hs, ht]
          · exact h1 i (by omega)
        · right; simp only [Bool.false_eq_true, if_false]; omega
theorem iv_pc_str (k s t : Nat) (h : ∀ i, s.testBit i = true → t.testBit i = true) (h1 : s < 2 ^ k) (h2 : t < 2 ^ k) : s = t ∨ iv_pc k s < iv_pc k t := by
  rcases iv_pc_st2 s t h k with ⟨hr, -⟩ | hr
  · refine Or.inl (Nat.eq_of_testBit_eq (fun i => ?_))
    by_cases hi : i < k
    · exact hr i hi
    · have hp : 2 ^ k ≤ 2 ^ i := Nat.pow_le_pow_right (by omega) (by omega)
      rw [Nat.testBit_lt_two_pow (Nat.lt_of_lt_of_le h1 hp), Nat.testBit_lt_two_pow (Nat.lt_of_lt_of_le h2 hp)]
  · exact Or.inr hr
/-- one step further, and many -/
def iv_rg (f : Nat → Int32) (n r : Nat) : Nat := r ||| iv_hq f (nI r) n
def iv_ri (f : Nat → Int32) (n : Nat) : Nat → Nat → Nat
  | 0, r => r
  | k + 1, r => iv_ri f n k (iv_rg f n r)
theorem iv_rg_lt {f : Nat → Int32} {n r : Nat} (hn : n ≤ 12) (hr : r < 4096) : iv_rg f n r < 4096 := Nat.or_lt_two_pow (n := 12) hr (Nat.lt_of_lt_of_le (iv_hq_lt f _ n) (iv_p12 hn))
theorem iv_rg_up {f : Nat → Int32} {n r : Nat} (hn : n ≤ 12) (hr : r < 4096) : iv_rg f n r = r ∨ iv_pc 12 r < iv_pc 12 (iv_rg f n r) := by
  rcases iv_pc_str 12 r (iv_rg f n r) (fun i hi => by unfold iv_rg; rw [Nat.testBit_or, hi]; rfl) hr (iv_rg_lt hn hr) with h | h
  · exact Or.inl h.symm
  · exact Or.inr h
theorem iv_ri_fix {f : Nat → Int32} {n r : Nat} (h : iv_rg f n r = r) : ∀ k, iv_ri f n k r = r
  | 0 => rfl
  | k + 1 => by
    show iv_ri f n k (iv_rg f n r) = r
    rw [h]; exact iv_ri_fix h k
theorem f_reachX (b : Bool) {σ : ix_St} {g : Nat → Int32} {n : Nat} (hn : n ≤ 12) (hh : ∀ i, i < 12 → σ 20 i = g i ∧ (n ≤ i → σ 20 i = 0)) : ∀ d j r, j + d = 12 → ix_S 145 2 10 [some (.ref 11), none, some (.int (nI r)), some (.int (nI j))] [] (ix_S0 b, σ) = some (.int (nI (iv_ri g n d r)), (ix_S0 b, σ)) := by
  intro d
  induction d with
  | zero =>
    intro j r hj
    rw [q_Texts_reachedBy_10, if_pos (show (12 : Int32) ≤ nI j from nI_le (a := 12) (by omega) (by omega))]
    rfl
  | succ d ih =>
    intro j r hj
    rw [q_Texts_reachedBy_10, if_neg (show ¬ (12 : Int32) ≤ nI j from nI_ge (b := 12) (by omega) (by omega)), f_hearX]
    simp only [Option.bind_some, iv_tI]
    rw [iv_or, nI_1, iv_hq_12 hn hh]
    exact ih (j + 1) _ (by omega)
theorem f_reachM (c : Bool) {τ : ix_St} {n : Nat} (hn : n ≤ 12) (h7 : τ 135 7 = nI n) : ∀ d r w, r < 4096 → 12 ≤ iv_pc 12 r + d → (w = nI r → iv_rg (τ 153) n r = r) → ix_S 177 2 25 [some (.ref 135), none, some (.int (nI r)), some (.int w)] [] (ix_S0 c, τ) = some (.int (nI (iv_ri (τ 153) n d r)), (ix_S0 c, τ)) := by
  have fin : ∀ r, r < 4096 → iv_rg (τ 153) n r = r → ∀ w, ix_S 177 2 25 [some (.ref 135), none, some (.int (nI r)), some (.int w)] [] (ix_S0 c, τ) = some (.int (nI r), (ix_S0 c, τ)) := by
    intro r hr hf w
    rw [q_M_reaches_25]
    by_cases hw : w = nI r
    · rw [if_pos hw]
    · rw [if_neg hw, f_hearM c hn h7]
      simp only [Option.bind_some, iv_tI]
      rw [iv_or, show r ||| iv_hq (τ 153) (nI r) n = r from hf, q_M_reaches_25, if_pos rfl]
  intro d
  induction d with
  | zero =>
    intro r w hr hd hw
    have hf : iv_rg (τ 153) n r = r := by
      rcases iv_rg_up (f := τ 153) hn hr with h | h
      · exact h
      · have := iv_pc_le (iv_rg (τ 153) n r) 12
        omega
    exact fin r hr hf w
  | succ d ih =>
    intro r w hr hd hw
    by_cases hf : iv_rg (τ 153) n r = r
    · rw [fin r hr hf w, iv_ri_fix hf]
    · rw [q_M_reaches_25, if_neg (fun h => hf (hw h)), f_hearM c hn h7]
      simp only [Option.bind_some, iv_tI]
      rw [iv_or]
      have hup := (iv_rg_up (f := τ 153) hn hr).resolve_left hf
      refine ih (iv_rg (τ 153) n r) (nI r) (iv_rg_lt hn hr) (by omega) (fun h => ?_)
      have hl := iv_rg_lt (f := τ 153) hn hr
      rw [nI_eq (by omega) (by omega)] at h
      exact absurd h.symm hf
theorem s_reaches (E : ix_St) (v : Int32) : iv_S E 22 177 [.int v] := by
  intro k b c σ τ hk hE hR
  have hK := iv_R_keep iv_kX.rf (iv_kM_told τ 0) hR
  obtain ⟨n, o, hn, hw, -⟩ := iv_R_told (v := 0) hR
  have hr := iv_rvF_of hw
  have c6 : σ 2 6 = nI n := hr.1.1.2.2.2.2.2.2.1
  have hh : ∀ i, i < 12 → σ 20 i = (ix_up τ 135 0 0) 153 i ∧ (n ≤ i → σ 20 i = 0) := hw.2.2.2.1
  rw [q_X_reaches_0, q_M_reaches_0, f_has b σ hn c6, f_isOne c _ hn hr.2]
  simp only [Option.bind_some, iv_tI]
  by_cases h1 : 0 ≤ v ∧ v < nI n
  · obtain ⟨p, hp, rfl⟩ := (iv_rng' (by omega)).mp h1
    rw [iv_Bt h1, if_neg (show ¬ (1 : Int32) = 0 by decide), if_neg (show ¬ (1 : Int32) = 0 by decide), q_Texts_reachedBy_0, f_hearX, f_hearM c hn hr.2, iv_hq_12 hn hh]
    simp only [Option.bind_some, iv_tI]
    have hl : iv_hq ((ix_up τ 135 0 0) 153) ((1 : Int32) <<< (nI p &&& 31)) n < 4096 := Nat.lt_of_lt_of_le (iv_hq_lt _ _ n) (iv_p12 hn)
    have a1 := f_reachX b hn hh 12 0 (iv_hq ((ix_up τ 135 0 0) 153) ((1 : Int32) <<< (nI p &&& 31)) n) (by omega)
    have a2 := f_reachM c hn hr.2 12 (iv_hq ((ix_up τ 135 0 0) 153) ((1 : Int32) <<< (nI p &&& 31)) n) (-1) hl (by omega) (fun h => absurd h.symm (iv_m1 (by omega)))
    have a1' : ix_S 145 2 10 [some (.ref 11), none, some (.int (nI (iv_hq ((ix_up τ 135 0 0) 153) ((1 : Int32) <<< (nI p &&& 31)) n))), some (.int 0)] [] (ix_S0 b, σ) = some (.int (nI (iv_ri ((ix_up τ 135 0 0) 153) n 12 (iv_hq ((ix_up τ 135 0 0) 153) ((1 : Int32) <<< (nI p &&& 31)) n))), (ix_S0 b, σ)) := a1
    rw [a1', a2]
    exact ⟨_, b, _, _, rfl, rfl, hK⟩
  · rw [iv_Bf h1, if_pos rfl, if_pos rfl]
    exact ⟨_, b, _, _, rfl, rfl, hK⟩
