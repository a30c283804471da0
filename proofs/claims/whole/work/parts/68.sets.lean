/-! whose shells turn it: all sets, walked one by one -/
theorem iv_tz_of {t i : Nat} (ht : t < 12) (h : i % 2 ^ (t + 1) = 2 ^ t) : iv_tz i = t := by
  have h12 : t = 0 ∨ t = 1 ∨ t = 2 ∨ t = 3 ∨ t = 4 ∨ t = 5 ∨ t = 6 ∨ t = 7 ∨ t = 8 ∨ t = 9 ∨ t = 10 ∨ t = 11 := by omega
  unfold iv_tz
  rcases h12 with rfl | rfl | rfl | rfl | rfl | rfl | rfl | rfl | rfl | rfl | rfl | rfl
  · have h : i % 2 = 1 := h
    rw [if_pos (by omega)]
  · have h : i % 4 = 2 := h
    rw [if_neg (by omega), if_pos (by omega)]
  · have h : i % 8 = 4 := h
    rw [if_neg (by omega), if_neg (by omega), if_pos (by omega)]
  · have h : i % 16 = 8 := h
    rw [if_neg (by omega), if_neg (by omega), if_neg (by omega), if_pos (by omega)]
  · have h : i % 32 = 16 := h
    rw [if_neg (by omega), if_neg (by omega), if_neg (by omega), if_neg (by omega), if_pos (by omega)]
  · have h : i % 64 = 32 := h
    rw [if_neg (by omega), if_neg (by omega), if_neg (by omega), if_neg (by omega), if_neg (by omega), if_pos (by omega)]
  · have h : i % 128 = 64 := h
    rw [if_neg (by omega), if_neg (by omega), if_neg (by omega), if_neg (by omega), if_neg (by omega), if_neg (by omega), if_pos (by omega)]
  · have h : i % 256 = 128 := h
    rw [if_neg (by omega), if_neg (by omega), if_neg (by omega), if_neg (by omega), if_neg (by omega), if_neg (by omega), if_neg (by omega), if_pos (by omega)]
  · have h : i % 512 = 256 := h
    rw [if_neg (by omega), if_neg (by omega), if_neg (by omega), if_neg (by omega), if_neg (by omega), if_neg (by omega), if_neg (by omega), if_neg (by omega), if_pos (by omega)]
  · have h : i % 1024 = 512 := h
    rw [if_neg (by omega), if_neg (by omega), if_neg (by omega), if_neg (by omega), if_neg (by omega), if_neg (by omega), if_neg (by omega), if_neg (by omega), if_neg (by omega), if_pos (by omega)]
  · have h : i % 2048 = 1024 := h
    rw [if_neg (by omega), if_neg (by omega), if_neg (by omega), if_neg (by omega), if_neg (by omega), if_neg (by omega), if_neg (by omega), if_neg (by omega), if_neg (by omega), if_neg (by omega), if_pos (by omega)]
  · have h : i % 4096 = 2048 := h
    rw [if_neg (by omega), if_neg (by omega), if_neg (by omega), if_neg (by omega), if_neg (by omega), if_neg (by omega), if_neg (by omega), if_neg (by omega), if_neg (by omega), if_neg (by omega), if_neg (by omega)]
theorem f_chg (b : Bool) (σ : ix_St) {i : Nat} (h0 : i ≠ 0) (hi : i < 4096) : ix_F 106 [.ref 130, .int (nI i)] (ix_S0 b, σ) = some (.int (σ 133 (iv_tz i)), (ix_S0 b, σ)) := by
  have h := iv_tz_ok (i / 64) (by omega) (i % 64) (by omega)
  rw [show 64 * (i / 64) + i % 64 = i by omega] at h
  have h1 := (h.resolve_left h0).1
  rw [q_Poll_changedAt_0, f_ntz b σ h0 hi]
  simp only [Option.bind_some, iv_tI]
  rw [q_Math_min_0, if_neg (show ¬ (11 : Int32) < nI (iv_tz i) from nI_nlt (a := 11) (by omega) (by omega))]
  simp only [Option.bind_some, iv_tI]
  rw [if_neg (nI_in (by omega) (by omega)), nI_clamp (by omega)]
theorem iv_gA {l m : List Nat} {i : Nat} (h : i < l.length) : (l ++ m).getD i 0 = l.getD i 0 := by
  rw [List.getD_eq_getElem?_getD, List.getD_eq_getElem?_getD, List.getElem?_append_left h]
theorem iv_gR {l m : List Nat} {i : Nat} (h : l.length ≤ i) : (l ++ m).getD i 0 = m.getD (i - l.length) 0 := by
  rw [List.getD_eq_getElem?_getD, List.getD_eq_getElem?_getD, List.getElem?_append_right h]
/-- those of the first j of whom P is so -/
def iv_li (P : Nat → Bool) : Nat → List Nat
  | 0 => []
  | j + 1 => bif P j then iv_li P j ++ [j] else iv_li P j
theorem iv_li_len (P : Nat → Bool) : ∀ j, (iv_li P j).length ≤ j
  | 0 => Nat.le_refl _
  | j + 1 => by
    have h := iv_li_len P j
    show (bif P j then iv_li P j ++ [j] else iv_li P j).length ≤ _
    cases P j with
    | true => simp only [cond_true, List.length_append, List.length_cons, List.length_nil]; omega
    | false => simp only [cond_false]; omega
theorem iv_li_mem (P : Nat → Bool) : ∀ j i, i < (iv_li P j).length → (iv_li P j).getD i 0 < j ∧ P ((iv_li P j).getD i 0) = true
  | 0, i, h => by cases h
  | j + 1, i, h => by
    have ih := iv_li_mem P j
    cases hP : P j with
    | false =>
      have e : iv_li P (j + 1) = iv_li P j := by show (bif P j then _ else _) = _; rw [hP]; rfl
      rw [e] at h ⊢
      exact ⟨Nat.lt_succ_of_lt (ih i h).1, (ih i h).2⟩
    | true =>
      have e : iv_li P (j + 1) = iv_li P j ++ [j] := by show (bif P j then _ else _) = _; rw [hP]; rfl
      rw [e] at h ⊢
      rw [List.length_append, List.length_cons, List.length_nil] at h
      by_cases hi : i < (iv_li P j).length
      · rw [iv_gA hi]
        exact ⟨Nat.lt_succ_of_lt (ih i hi).1, (ih i hi).2⟩
      · rw [iv_gR (by omega), show i - (iv_li P j).length = 0 by omega]
        exact ⟨Nat.lt_succ_self j, hP⟩
theorem iv_li_pre (P : Nat → Bool) : ∀ d j i, i < (iv_li P j).length → i < (iv_li P (j + d)).length ∧ (iv_li P (j + d)).getD i 0 = (iv_li P j).getD i 0
  | 0, j, i, h => ⟨h, rfl⟩
  | d + 1, j, i, h => by
    have ih := iv_li_pre P d j i h
    show i < (bif P (j + d) then iv_li P (j + d) ++ [j + d] else iv_li P (j + d)).length ∧ (bif P (j + d) then iv_li P (j + d) ++ [j + d] else iv_li P (j + d)).getD i 0 = _
    cases P (j + d) with
    | true =>
      simp only [cond_true, List.length_append, List.length_cons, List.length_nil]
      exact ⟨by omega, by rw [iv_gA ih.1]; exact ih.2⟩
    | false => simp only [cond_false]; exact ih
theorem iv_li_at {P : Nat → Bool} {j : Nat} (h : P j = true) : (iv_li P (j + 1)).length = (iv_li P j).length + 1 ∧ (iv_li P (j + 1)).getD (iv_li P j).length 0 = j := by
  have e : iv_li P (j + 1) = iv_li P j ++ [j] := by show (bif P j then _ else _) = _; rw [h]; rfl
  rw [e, iv_gR (Nat.le_refl _), Nat.sub_self]
  exact ⟨by simp, rfl⟩
/-- those that lay shells and are not of a set -/
def iv_lp (o : Nat) (sh : Nat → Nat) (x : Nat) : Nat → Bool := fun j => !o.testBit j && (decide (0 < sh j) && !x.testBit j)
theorem iv_lp_t {o x j : Nat} {sh : Nat → Nat} : iv_lp o sh x j = true ↔ ¬ o.testBit j = true ∧ 0 < sh j ∧ ¬ x.testBit j = true := by
  unfold iv_lp
  cases o.testBit j <;> cases x.testBit j <;> simp
theorem f_list (b : Bool) {τ : ix_St} {n o x : Nat} {sh : Nat → Nat} (hx : x < 4096) : ∀ d j σ, j + d = n → iv_V σ τ n o → iv_L σ τ n o sh → (∀ i, i < (iv_li (iv_lp o sh x) j).length → σ 133 i = nI ((iv_li (iv_lp o sh x) j).getD i 0)) → ∃ σ', ix_S 104 1 4 [some (.ref 130), some (.int (nI x)), some (.int (nI (iv_li (iv_lp o sh x) j).length)), some (.int (nI j))] [] (ix_S0 b, σ) = some (.int (nI (iv_li (iv_lp o sh x) n).length), (ix_S0 b, σ')) ∧ (∀ z, z ≠ 133 → σ' z = σ z) ∧ ∀ i, i < (iv_li (iv_lp o sh x) n).length → σ' 133 i = nI ((iv_li (iv_lp o sh x) n).getD i 0) := by
  intro d
  induction d with
  | zero =>
    intro j σ hj hV hL h
    have : j = n := by omega
    subst this
    have hn := hV.1
    refine ⟨σ, ?_, fun _ _ => rfl, h⟩
    rw [q_Poll_listBut_4, hV.2.1, if_pos (nI_le (Nat.le_refl _) (by omega))]
  | succ d ih =>
    intro j σ hj hV hL h
    have hn := hV.1
    have k0 : ¬ nI n ≤ nI j := nI_ge (by omega) (by omega)
    have k1 : ¬ (nI j < 0 ∨ 12 ≤ (nI j).toNatClampNeg) := nI_in (by omega) (by omega)
    have k3 : (nI j).toNatClampNeg = j := nI_clamp (by omega)
    have hlj := (hL.2 j (by omega)).1
    have h9 := hL.1 j
    have hlen := iv_li_len (iv_lp o sh x) j
    have hbit := iv_bit (s := x) (k := j) (by omega) (by omega)
    have skip : iv_lp o sh x j = false → iv_li (iv_lp o sh x) (j + 1) = iv_li (iv_lp o sh x) j := fun hf => by
      show (bif iv_lp o sh x j then _ else _) = _
      rw [hf]; rfl
    rw [q_Poll_listBut_4, hV.2.1, if_neg k0, if_neg k1, k3, hlj, nI_1]
    by_cases hz : (if o.testBit j = true then 0 else sh j) = 0
    · have hf : iv_lp o sh x j = false := by
        refine Bool.eq_false_iff.mpr (fun q => ?_)
        have q := iv_lp_t.mp q
        rw [if_neg q.1] at hz
        omega
      rw [hz, if_pos (show nI 0 ≤ 0 by decide)]
      have g := ih (j + 1) σ (by omega) hV hL (by rw [skip hf]; exact h)
      rw [skip hf] at g
      exact g
    · have hb : ¬ o.testBit j = true := fun q => hz (if_pos q)
      rw [if_neg hb] at hz ⊢
      rw [if_neg (nI_nle (by omega) (by omega)), hbit]
      by_cases hc : x.testBit j = true
      · have hf : iv_lp o sh x j = false := Bool.eq_false_iff.mpr (fun q => (iv_lp_t.mp q).2.2 hc)
        rw [iv_Bt hc, if_neg (by decide)]
        have g := ih (j + 1) σ (by omega) hV hL (by rw [skip hf]; exact h)
        rw [skip hf] at g
        exact g
      · have ht : iv_lp o sh x j = true := iv_lp_t.mpr ⟨hb, by omega, hc⟩
        obtain ⟨a1, a2⟩ := iv_li_at ht
        rw [iv_Bf hc, if_pos rfl, if_neg (nI_in (by omega) (by omega)), nI_clamp (by omega), nI_1]
        obtain ⟨σ', p1, p2, p3⟩ := ih (j + 1) (ix_up σ 133 (iv_li (iv_lp o sh x) j).length (nI j)) (by omega) (iv_V_cong (iv_upn (by decide)) (iv_upn (by decide)) rfl rfl hV) (iv_L_cong (iv_upn (by decide)) rfl hL) (fun i hi => by
          show upd (σ 133) (iv_li (iv_lp o sh x) j).length (nI j) i = _
          by_cases e : i = (iv_li (iv_lp o sh x) j).length
          · rw [e, pk_us, a2]
          · rw [pk_un e, h i (by omega), (iv_li_pre (iv_lp o sh x) 1 j i (by omega)).2])
        rw [a1] at p1
        exact ⟨σ', p1, fun z hz => (p2 z hz).trans (iv_upn hz), p3⟩
theorem f_listBut (b : Bool) {σ τ : ix_St} {n o x : Nat} {sh : Nat → Nat} (hx : x < 4096) (hV : iv_V σ τ n o) (hL : iv_L σ τ n o sh) : ∃ σ', ix_F 104 [.ref 130, .int (nI x)] (ix_S0 b, σ) = some (.int (nI (iv_li (iv_lp o sh x) n).length), (ix_S0 b, σ')) ∧ (∀ z, z ≠ 133 → σ' z = σ z) ∧ ∀ i, i < (iv_li (iv_lp o sh x) n).length → σ' 133 i = nI ((iv_li (iv_lp o sh x) n).getD i 0) := by
  rw [q_Poll_listBut_0]
  exact f_list b hx n 0 σ (by omega) hV hL (fun i hi => by cases hi)
/-- sums over sets -/
def iv_e (q : Nat → Nat) : Nat → Nat
  | 0 => 0
  | m + 1 => 2 ^ q m
def iv_vs (D : Nat → Nat) (q : Nat → Nat) : Nat → Nat → Nat
  | 0, _ => 0
  | m + 1, x => iv_vs D q m x + (D (x ^^^ iv_e q m ^^^ 2 ^ q m) + iv_vs D q m (x ^^^ iv_e q m ^^^ 2 ^ q m))
def iv_T (D : Nat → Nat) (P : Nat → Bool) : Nat → Nat → Nat
  | 0, x => D x
  | j + 1, x => bif P j then iv_T D P j x + iv_T D P j (x ^^^ 2 ^ j) else iv_T D P j x
theorem iv_x3 (x a b : Nat) : x ^^^ a ^^^ b ^^^ a = x ^^^ b := by
  rw [Nat.xor_assoc (x ^^^ a) b a, Nat.xor_comm b a, ← Nat.xor_assoc, Nat.xor_assoc x a a, Nat.xor_self, Nat.xor_zero]
theorem iv_x2 (x a b : Nat) : x ^^^ a ^^^ b = x ^^^ b ^^^ a := by
  rw [Nat.xor_assoc, Nat.xor_comm a b, ← Nat.xor_assoc]
theorem iv_x1 (x a : Nat) : x ^^^ a ^^^ a = x := by
  rw [Nat.xor_assoc, Nat.xor_self, Nat.xor_zero]
theorem iv_T_cong (D : Nat → Nat) {P Q : Nat → Bool} : ∀ j, (∀ i, i < j → P i = Q i) → ∀ x, iv_T D P j x = iv_T D Q j x
  | 0, _, _ => rfl
  | j + 1, h, x => by
    have ih := iv_T_cong D j (fun i hi => h i (by omega))
    show (bif P j then iv_T D P j x + iv_T D P j (x ^^^ 2 ^ j) else iv_T D P j x) = (bif Q j then iv_T D Q j x + iv_T D Q j (x ^^^ 2 ^ j) else iv_T D Q j x)
    rw [h j (by omega), ih, ih]
theorem iv_T_inv (D : Nat → Nat) {P : Nat → Bool} {p : Nat} (hp : P p = true) : ∀ j, p < j → ∀ x, iv_T D P j (x ^^^ 2 ^ p) = iv_T D P j x
  | 0, h, _ => by omega
  | j + 1, h, x => by
    show (bif P j then iv_T D P j (x ^^^ 2 ^ p) + iv_T D P j (x ^^^ 2 ^ p ^^^ 2 ^ j) else iv_T D P j (x ^^^ 2 ^ p)) = (bif P j then iv_T D P j x + iv_T D P j (x ^^^ 2 ^ j) else iv_T D P j x)
    by_cases e : p = j
    · subst e
      rw [hp, iv_x1]
      simp only [cond_true]
      omega
    · have ih := iv_T_inv D hp j (by omega)
      rw [ih, iv_x2, ih]
theorem iv_T_idl (D : Nat → Nat) {P : Nat → Bool} {p : Nat} (hp : ∀ x, D (x ^^^ 2 ^ p) = D x) : ∀ j x, iv_T D P j (x ^^^ 2 ^ p) = iv_T D P j x
  | 0, x => hp x
  | j + 1, x => by
    show (bif P j then iv_T D P j (x ^^^ 2 ^ p) + iv_T D P j (x ^^^ 2 ^ p ^^^ 2 ^ j) else iv_T D P j (x ^^^ 2 ^ p)) = (bif P j then iv_T D P j x + iv_T D P j (x ^^^ 2 ^ j) else iv_T D P j x)
    have ih := iv_T_idl D (P := P) hp j
    rw [ih, iv_x2, ih]
theorem iv_T_0 {D : Nat → Nat} (h : ∀ x, D x = 0) (P : Nat → Bool) : ∀ j x, iv_T D P j x = 0
  | 0, x => h x
  | j + 1, x => by
    show (bif P j then iv_T D P j x + iv_T D P j (x ^^^ 2 ^ j) else iv_T D P j x) = 0
    rw [iv_T_0 h P j, iv_T_0 h P j]
    cases P j <;> rfl
def iv_cn (P : Nat → Bool) : Nat → Nat
  | 0 => 0
  | j + 1 => bif P j then iv_cn P j + 1 else iv_cn P j
theorem iv_T_two (D : Nat → Nat) {P Q : Nat → Bool} : ∀ j, (∀ i, i < j → P i = true → Q i = true) → (∀ i, i < j → Q i = true → P i = false → ∀ x, D (x ^^^ 2 ^ i) = D x) → ∀ x, iv_T D Q j x = 2 ^ iv_cn (fun i => Q i && !P i) j * iv_T D P j x
  | 0, _, _, x => by show D x = 1 * D x; omega
  | j + 1, h1, h2, x => by
    have ih := iv_T_two D j (fun i hi => h1 i (by omega)) (fun i hi => h2 i (by omega))
    show (bif Q j then iv_T D Q j x + iv_T D Q j (x ^^^ 2 ^ j) else iv_T D Q j x) = 2 ^ (bif Q j && !P j then iv_cn (fun i => Q i && !P i) j + 1 else iv_cn (fun i => Q i && !P i) j) * (bif P j then iv_T D P j x + iv_T D P j (x ^^^ 2 ^ j) else iv_T D P j x)
    cases hP : P j with
    | true =>
      rw [h1 j (by omega) hP]
      simp only [cond_true, Bool.not_true, Bool.and_false, cond_false]
      rw [ih, ih, Nat.mul_add]
    | false =>
      cases hQ : Q j with
      | true =>
        simp only [cond_true, Bool.not_false, Bool.and_true, cond_false]
        rw [ih, ih, iv_T_idl D (h2 j (by omega) hQ hP), Nat.pow_succ]
        generalize 2 ^ iv_cn (fun i => Q i && !P i) j = a
        generalize iv_T D P j x = t
        rw [Nat.mul_comm a 2, Nat.mul_assoc]
        omega
      | false =>
        simp only [Bool.false_and, cond_false]
        exact ih x
theorem iv_vs_T (D : Nat → Nat) {P : Nat → Bool} {n : Nat} : ∀ j, j ≤ n → ∀ x, D x + iv_vs D (fun i => (iv_li P n).getD i 0) (iv_li P j).length x = iv_T D P j x
  | 0, _, x => by show D x + 0 = D x; omega
  | j + 1, hj, x => by
    have ih := iv_vs_T D (P := P) (n := n) j (by omega)
    cases hP : P j with
    | false =>
      have e : iv_li P (j + 1) = iv_li P j := by show (bif P j then _ else _) = _; rw [hP]; rfl
      have e2 : iv_T D P (j + 1) x = iv_T D P j x := by show (bif P j then _ else _) = _; rw [hP]; rfl
      rw [e, e2]
      exact ih x
    | true =>
      obtain ⟨a1, a2⟩ := iv_li_at hP
      have e2 : iv_T D P (j + 1) x = iv_T D P j x + iv_T D P j (x ^^^ 2 ^ j) := by show (bif P j then _ else _) = _; rw [hP]; rfl
      have q1 : (iv_li P n).getD (iv_li P j).length 0 = j := by
        have := (iv_li_pre P (n - (j + 1)) (j + 1) (iv_li P j).length (by omega)).2
        rw [show j + 1 + (n - (j + 1)) = n by omega] at this
        rw [this, a2]
      rw [a1, e2]
      show D x + (iv_vs D _ (iv_li P j).length x + (D (x ^^^ iv_e (fun i => (iv_li P n).getD i 0) (iv_li P j).length ^^^ 2 ^ (iv_li P n).getD (iv_li P j).length 0) + iv_vs D _ (iv_li P j).length (x ^^^ iv_e (fun i => (iv_li P n).getD i 0) (iv_li P j).length ^^^ 2 ^ (iv_li P n).getD (iv_li P j).length 0))) = _
      rw [q1, ih, ← Nat.add_assoc, ih]
      have e3 : iv_T D P j (x ^^^ iv_e (fun i => (iv_li P n).getD i 0) (iv_li P j).length ^^^ 2 ^ j) = iv_T D P j (x ^^^ 2 ^ j) := by
        cases hl : (iv_li P j).length with
        | zero =>
          show iv_T D P j (x ^^^ 0 ^^^ 2 ^ j) = _
          rw [Nat.xor_zero]
        | succ m =>
          show iv_T D P j (x ^^^ 2 ^ (iv_li P n).getD m 0 ^^^ 2 ^ j) = _
          have hm := iv_li_mem P j m (by omega)
          have hpr := (iv_li_pre P (n - j) j m (by omega)).2
          rw [show j + (n - j) = n by omega] at hpr
          rw [iv_x2, hpr, iv_T_inv D hm.2 j hm.1]
      rw [e3]
/-- sums over numbers one after another -/
def iv_as (D : Nat → Nat) (h : Nat) : Nat → Nat → Nat
  | _, 0 => 0
  | s, d + 1 => (if iv_wo s h = 0 then D s else 0) + iv_as D h (s + 1) d
theorem iv_as_add (D : Nat → Nat) (h : Nat) : ∀ a s b, iv_as D h s (a + b) = iv_as D h s a + iv_as D h (s + a) b
  | 0, s, b => by rw [Nat.zero_add, Nat.add_zero]; show _ = 0 + _; omega
  | a + 1, s, b => by
    rw [show a + 1 + b = (a + b) + 1 by omega]
    show (if iv_wo s h = 0 then D s else 0) + iv_as D h (s + 1) (a + b) = (if iv_wo s h = 0 then D s else 0) + iv_as D h (s + 1) a + _
    rw [iv_as_add D h a (s + 1) b, show s + 1 + a = s + (a + 1) by omega]
    omega
theorem iv_sub_le {s h : Nat} (e : iv_wo s h = 0) : s ≤ h := by
  have h4 : s &&& h = s := by
    refine Nat.eq_of_testBit_eq (fun i => ?_)
    rw [Nat.testBit_and]
    cases hq : s.testBit i with
    | true => rw [iv_wo_0.mp e i hq]; rfl
    | false => rfl
  rw [← h4]
  exact Nat.and_le_right
theorem iv_as_0 (D : Nat → Nat) (h : Nat) : ∀ d s, h < s → iv_as D h s d = 0
  | 0, _, _ => rfl
  | d + 1, s, hs => by
    show (if iv_wo s h = 0 then D s else 0) + iv_as D h (s + 1) d = 0
    rw [iv_as_0 D h d (s + 1) (by omega), if_neg (fun e => by have := iv_sub_le e; omega)]
theorem iv_xadd {x j : Nat} (h : x % 2 ^ (j + 1) = 0) : x ^^^ 2 ^ j = x + 2 ^ j := by
  have h1 : x = 2 ^ (j + 1) * (x / 2 ^ (j + 1)) := by
    have := Nat.div_add_mod x (2 ^ (j + 1))
    omega
  have h2 := Nat.two_pow_add_eq_or_of_lt (i := j + 1) (b := 2 ^ j) (Nat.pow_lt_pow_right (by omega) (by omega)) (x / 2 ^ (j + 1))
  rw [← h1] at h2
  rw [h2]
  refine Nat.eq_of_testBit_eq (fun i => ?_)
  rw [Nat.testBit_xor, Nat.testBit_or, Nat.testBit_two_pow]
  by_cases e : j = i
  · subst e
    have hb : x.testBit j = false := by
      rw [Nat.testBit_eq_decide_div_mod_eq, h1, Nat.pow_succ, Nat.mul_assoc, Nat.mul_div_cancel_left _ (Nat.two_pow_pos j), Nat.mul_mod_right]
      rfl
    rw [hb]
    simp
  · simp [e]
theorem iv_wo_x {x j h : Nat} (hb : x.testBit j = false) : iv_wo (x ^^^ 2 ^ j) h = 0 ↔ iv_wo x h = 0 ∧ h.testBit j = true := by
  rw [iv_wo_0, iv_wo_0]
  constructor
  · intro q
    refine ⟨fun i hi => q i ?_, q j ?_⟩
    · rw [Nat.testBit_xor, Nat.testBit_two_pow, hi]
      by_cases e : j = i
      · subst e; rw [hb] at hi; cases hi
      · simp [e]
    · rw [Nat.testBit_xor, Nat.testBit_two_pow, hb]
      simp
  · rintro ⟨q1, q2⟩ i hi
    by_cases e : j = i
    · subst e; exact q2
    · rw [Nat.testBit_xor, Nat.testBit_two_pow] at hi
      simp only [e, decide_false, Bool.xor_false] at hi
      exact q1 i hi
theorem iv_as_T (D : Nat → Nat) (h : Nat) : ∀ j x, x % 2 ^ j = 0 → iv_as D h x (2 ^ j) = if iv_wo x h = 0 then iv_T D (fun i => h.testBit i) j x else 0
  | 0, x, _ => by
    show (if iv_wo x h = 0 then D x else 0) + 0 = _
    rw [Nat.add_zero]
    rfl
  | j + 1, x, hx => by
    have hd : x % 2 ^ j = 0 := by
      have h1 := Nat.mod_mod_of_dvd x (Nat.pow_dvd_pow 2 (show j ≤ j + 1 by omega))
      rw [hx] at h1
      rw [← h1]
      exact Nat.zero_mod _
    have hb : x.testBit j = false := by
      have h1 : x = 2 ^ (j + 1) * (x / 2 ^ (j + 1)) := by
        have := Nat.div_add_mod x (2 ^ (j + 1))
        omega
      rw [Nat.testBit_eq_decide_div_mod_eq, h1, Nat.pow_succ, Nat.mul_assoc, Nat.mul_div_cancel_left _ (Nat.two_pow_pos j), Nat.mul_mod_right]
      rfl
    have ex := iv_xadd hx
    have hd2 : (x + 2 ^ j) % 2 ^ j = 0 := by rw [Nat.add_mod_right]; exact hd
    rw [show (2 : Nat) ^ (j + 1) = 2 ^ j + 2 ^ j by rw [Nat.pow_succ]; omega, iv_as_add, iv_as_T D h j x hd, iv_as_T D h j (x + 2 ^ j) hd2, ← ex]
    show _ = if iv_wo x h = 0 then (bif h.testBit j then iv_T D _ j x + iv_T D _ j (x ^^^ 2 ^ j) else iv_T D _ j x) else 0
    by_cases q : iv_wo x h = 0
    · rw [if_pos q, if_pos q]
      cases hj : h.testBit j with
      | true => rw [if_pos ((iv_wo_x hb).mpr ⟨q, hj⟩)]; rfl
      | false => rw [if_neg (fun e => by have := ((iv_wo_x hb).mp e).2; rw [hj] at this; cases this)]; rfl
    · rw [if_neg q, if_neg q, if_neg (fun e => q ((iv_wo_x hb).mp e).1)]
