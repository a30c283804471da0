/-! who must be aboard -/
def iv_sm (f : Nat → Nat) : Nat → Nat
  | 0 => 0
  | j + 1 => iv_sm f j + f j
theorem iv_sm_cong {f g : Nat → Nat} : ∀ n, (∀ j, j < n → f j = g j) → iv_sm f n = iv_sm g n
  | 0, _ => rfl
  | n + 1, h => by
    show iv_sm f n + f n = iv_sm g n + g n
    rw [iv_sm_cong n (fun j hj => h j (by omega)), h n (by omega)]
theorem iv_sm_le {f : Nat → Nat} {m : Nat} (h : ∀ j, f j ≤ m) : ∀ n, iv_sm f n ≤ m * n
  | 0 => Nat.le_refl _
  | n + 1 => by
    show iv_sm f n + f n ≤ m * (n + 1)
    have h1 := iv_sm_le h n
    have h2 := h n
    rw [Nat.mul_add, Nat.mul_one]
    omega
theorem iv_sm_0 {f : Nat → Nat} : ∀ n, (∀ j, j < n → f j = 0) → iv_sm f n = 0
  | 0, _ => rfl
  | n + 1, h => by
    show iv_sm f n + f n = 0
    rw [iv_sm_0 n (fun j hj => h j (by omega)), h n (by omega)]
theorem iv_sm_at {f g : Nat → Nat} {p : Nat} : ∀ n, p < n → (∀ j, j < n → j ≠ p → f j = g j) → iv_sm f n + g p = iv_sm g n + f p
  | 0, h, _ => by omega
  | n + 1, h, e => by
    show iv_sm f n + f n + g p = iv_sm g n + g n + f p
    by_cases hp : p = n
    · rw [hp, iv_sm_cong n (fun j hj => e j (by omega) (by omega))]
      omega
    · have h1 := iv_sm_at n (by omega) (fun j hj hne => e j (by omega) hne)
      rw [e n (by omega) (fun q => hp q.symm)]
      omega
/-- what one lays for a land: aboard s, bribed t for L -/
def iv_ld (fl sh : Nat → Nat) (s t L l : Nat) (j : Nat) : Nat := if s.testBit j = true ∧ (if t.testBit j = true then L else fl j) = l then sh j else 0
theorem iv_ld_9 {fl sh : Nat → Nat} (h : ∀ i, sh i ≤ 9) (s t L l j : Nat) : iv_ld fl sh s t L l j ≤ 9 := by
  unfold iv_ld
  have := h j
  by_cases e : s.testBit j = true ∧ (if t.testBit j = true then L else fl j) = l
  · rw [if_pos e]; exact this
  · rw [if_neg e]; omega
def iv_fl (σ : ix_St) : Nat → Nat := fun i => iv_d (σ 3 i) 0
def iv_vt (fl sh : Nat → Nat) (s t L n : Nat) : Int32 := iv_win (fun l => nI (iv_sm (iv_ld fl sh s t L l) n))
theorem iv_win_cong {f g : Nat → Int32} (h : ∀ l, l < 6 → f l = g l) : iv_win f = iv_win g := iv_wl_cong (fun l h1 _ => h l h1) 5 (by omega) 0 0
theorem f_voL (c : Bool) {σ : ix_St} {n o s t L : Nat} {sh : Nat → Nat} (hs : s < 4096) (ht : t < 4096) (hL5 : L ≤ 5) : ∀ d j τ, j + d = n → iv_V σ τ n o → iv_L σ τ n o sh → (∀ l, l < 6 → τ 158 l = nI (iv_sm (iv_ld (iv_fl σ) sh s t L l) j)) → ∃ τ', ix_S 211 3 27 [some (.ref 135), some (.int (nI s)), some (.int (nI t)), some (.int (nI L)), some (.int (nI j)), none] [] (ix_S0 c, τ) = some (.int (iv_win (τ' 158)), (ix_S0 c, τ')) ∧ (∀ z, z ≠ 158 → τ' z = τ z) ∧ ∀ l, l < 6 → τ' 158 l = nI (iv_sm (iv_ld (iv_fl σ) sh s t L l) n) := by
  intro d
  induction d with
  | zero =>
    intro j τ hj hV hL h
    have : j = n := by omega
    subst this
    have hn := hV.1
    refine ⟨τ, ?_, fun _ _ => rfl, h⟩
    rw [q_M_voteOf_27, hV.2.2.2.1, if_pos (nI_le (Nat.le_refl _) (by omega)), f_winM]
    simp only [Option.bind_some, iv_tI]
  | succ d ih =>
    intro j τ hj hV hL h
    have hn := hV.1
    have m7 := hV.2.2.2.1
    have k0 : ¬ nI n ≤ nI j := nI_ge (by omega) (by omega)
    have k1 : ¬ (nI j < 0 ∨ 12 ≤ j) := iv_ni (by omega) (by omega)
    have k3 : (nI j).toNatClampNeg = j := nI_clamp (by omega)
    have hS := f_hasM c τ (s := s) (k := j) (by omega) (by omega)
    have hT := f_hasM c τ (s := t) (k := j) (by omega) (by omega)
    have hd := iv_V_d hV (show j < n by omega)
    have hlj := (hL.2 j (by omega)).2
    rw [q_M_voteOf_27]
    by_cases hb : s.testBit j = true
    · have go : ∀ x, x ≤ 5 → x = (if t.testBit j = true then L else iv_fl σ j) → ∃ τ', ix_S 211 3 27 [some (.ref 135), some (.int (nI s)), some (.int (nI t)), some (.int (nI L)), some (.int (nI (j + 1))), none] [] (ix_S0 c, ix_up τ 158 x (τ 158 x + nI (sh j))) = some (.int (iv_win (τ' 158)), (ix_S0 c, τ')) ∧ (∀ z, z ≠ 158 → τ' z = τ z) ∧ ∀ l, l < 6 → τ' 158 l = nI (iv_sm (iv_ld (iv_fl σ) sh s t L l) n) := by
        intro x hx hxe
        obtain ⟨τ', p1, p2, p3⟩ := ih (j + 1) (ix_up τ 158 x (τ 158 x + nI (sh j))) (by omega) (iv_V_cong rfl rfl (by rw [iv_upn (by decide)]) (iv_upn (by decide)) hV) (iv_L_cong rfl (iv_upn (by decide)) hL) (fun l hl => by
          show upd (τ 158) x (τ 158 x + nI (sh j)) l = nI (iv_sm (iv_ld (iv_fl σ) sh s t L l) j + iv_ld (iv_fl σ) sh s t L l j)
          by_cases e : x = l
          · rw [← e, pk_us, h x (by omega), nI_add, show iv_ld (iv_fl σ) sh s t L x j = sh j from if_pos ⟨hb, hxe.symm⟩]
          · rw [pk_un (fun q => e q.symm), h l hl, show iv_ld (iv_fl σ) sh s t L l j = 0 from if_neg (fun q => e (hxe.trans q.2)), Nat.add_zero])
        exact ⟨τ', p1, fun z hz => (p2 z hz).trans (iv_upn hz), p3⟩
      by_cases hc : t.testBit j = true
      · have y1 : ¬ (nI L < 0 ∨ 6 ≤ L) := iv_ni (by omega) (by omega)
        have y3 : (nI L).toNatClampNeg = L := nI_clamp (by omega)
        simp only [m7, k0, k1, k3, hS, hT, iv_Bt hb, iv_Bt hc, iv_10, y1, y3, hlj, nI_1, if_false, Option.bind_some, iv_tI]
        exact go L hL5 (by rw [if_pos hc])
      · have fM := f_flM c hV (show j < n by omega)
        generalize hx : iv_d (σ 3 j) 0 = x at hd fM
        have y1 : ¬ (nI x < 0 ∨ 6 ≤ x) := iv_ni (by omega) (by omega)
        have y3 : (nI x).toNatClampNeg = x := nI_clamp (by omega)
        rw [m7, if_neg k0, hS]
        simp only [Option.bind_some, iv_tI]
        rw [iv_Bt hb, if_neg (show ¬ (1 : Int32) = 0 by decide), hT]
        simp only [Option.bind_some, iv_tI]
        rw [iv_Bf hc, if_pos rfl, fM]
        simp only [Option.bind_some, iv_tI]
        rw [y3, k3, if_neg y1, if_neg k1, if_neg y1, hlj, nI_1]
        exact go x hd.2 (by rw [if_neg hc]; exact hx.symm)
    · simp only [m7, k0, hS, iv_Bf hb, nI_1, if_true, if_false, Option.bind_some, iv_tI]
      refine ih (j + 1) τ (by omega) hV hL (fun l hl => ?_)
      show τ 158 l = nI (iv_sm (iv_ld (iv_fl σ) sh s t L l) j + iv_ld (iv_fl σ) sh s t L l j)
      rw [h l hl, show iv_ld (iv_fl σ) sh s t L l j = 0 from if_neg (fun q => hb q.1), Nat.add_zero]
theorem f_clearV (c : Bool) (v1 v2 v3 : Int32) : ∀ d j τ, j + d = 6 → ∃ τ', ix_S 211 3 3 [some (.ref 135), some (.int v1), some (.int v2), some (.int v3), some (.int (nI j)), none] [] (ix_S0 c, τ) = ix_S 211 3 27 [some (.ref 135), some (.int v1), some (.int v2), some (.int v3), some (.int 0), none] [] (ix_S0 c, τ') ∧ (∀ z, z ≠ 158 → τ' z = τ z) ∧ ∀ l, (l < j → τ' 158 l = τ 158 l) ∧ (j ≤ l → l < 6 → τ' 158 l = 0) := by
  intro d
  induction d with
  | zero =>
    intro j τ hj
    have : j = 6 := by omega
    subst this
    refine ⟨τ, ?_, fun _ _ => rfl, fun l => ⟨fun _ => rfl, fun h1 h2 => by omega⟩⟩
    rw [q_M_voteOf_3, if_pos (show (6 : Int32) ≤ nI 6 by decide)]
  | succ d ih =>
    intro j τ hj
    obtain ⟨τ', p1, p2, p3⟩ := ih (j + 1) (ix_up τ 158 j 0) (by omega)
    refine ⟨τ', ?_, fun z hz => (p2 z hz).trans (iv_upn hz), fun l => ⟨fun h => ?_, fun h1 h2 => ?_⟩⟩
    · rw [q_M_voteOf_3, if_neg (show ¬ (6 : Int32) ≤ nI j from nI_ge (b := 6) (by omega) (by omega)), if_neg (nI_in (by omega) (by omega)), nI_clamp (by omega), nI_1]
      exact p1
    · rw [(p3 l).1 (by omega)]
      show upd (τ 158) j 0 l = _
      rw [pk_un (by omega)]
    · by_cases e : l = j
      · subst e
        rw [(p3 l).1 (by omega)]
        show upd (τ 158) l 0 l = _
        rw [pk_us]
      · exact (p3 l).2 (by omega) h2
/-- the reference's vote of a set, some of it bribed -/
theorem f_vo (c : Bool) {σ τ : ix_St} {n o s t L : Nat} {sh : Nat → Nat} (hs : s < 4096) (ht : t < 4096) (hL5 : L ≤ 5) (hV : iv_V σ τ n o) (hL : iv_L σ τ n o sh) : ∃ τ', ix_F 211 [.ref 135, .int (nI s), .int (nI t), .int (nI L)] (ix_S0 c, τ) = some (.int (iv_vt (iv_fl σ) sh s t L n), (ix_S0 c, τ')) ∧ ∀ z, z ≠ 158 → τ' z = τ z := by
  obtain ⟨τ1, d1, d2, d3⟩ := f_clearV c (nI s) (nI t) (nI L) 6 0 τ (by omega)
  obtain ⟨τ', p1, p2, p3⟩ := f_voL c hs ht hL5 n 0 τ1 (by omega) (iv_V_cong rfl rfl (by rw [d2 135 (by decide)]) (d2 136 (by decide)) hV) (iv_L_cong rfl (d2 159 (by decide)) hL) (fun l hl => (d3 l).2 (by omega) hl)
  refine ⟨τ', ?_, fun z hz => (p2 z hz).trans (d2 z hz)⟩
  rw [q_M_voteOf_0]
  refine (d1.trans p1).trans ?_
  rw [iv_win_cong p3]
  unfold iv_vt
  rfl
/-- a land for which no shell is laid doesn't win -/
theorem iv_wl_ne {f : Nat → Int32} {l : Nat} (h0 : ∀ k, 0 ≤ f k) (hl : f l = 0) (hl1 : 1 ≤ l) (hl5 : l ≤ 5) : ∀ d, d ≤ 5 → ∀ x m, 0 ≤ m → x ≠ nI l → iv_wl f d x m ≠ nI l := by
  intro d
  induction d with
  | zero => intro _ x m _ hx; exact hx
  | succ d ih =>
    intro hd x m hm hx
    show (if f (5 - d) ≤ m then (if f (5 - d) = m then iv_wl f d 0 m else iv_wl f d x m) else iv_wl f d (nI (5 - d)) (f (5 - d))) ≠ nI l
    by_cases h1 : f (5 - d) ≤ m
    · rw [if_pos h1]
      by_cases h2 : f (5 - d) = m
      · rw [if_pos h2]
        exact ih (by omega) 0 m hm (fun e => by have := (nI_eq (a := 0) (b := l) (by omega) (by omega)).mp e; omega)
      · rw [if_neg h2]; exact ih (by omega) x m hm hx
    · rw [if_neg h1]
      refine ih (by omega) _ _ (h0 _) (fun e => h1 ?_)
      rw [(nI_eq (by omega) (by omega)).mp e, hl]
      exact hm
theorem iv_win_ne {f : Nat → Int32} {l : Nat} (h0 : ∀ k, 0 ≤ f k) (hl : f l = 0) (h1 : 1 ≤ l) (hl5 : l ≤ 5) : iv_win f ≠ nI l :=
  iv_wl_ne h0 hl h1 hl5 5 (by omega) 0 0 (by decide) (fun e => by have := (nI_eq (a := 0) (b := l) (by omega) (by omega)).mp e; omega)
theorem iv_win_1 {f : Nat → Int32} {l w : Nat} (h1 : 1 ≤ l) (h5 : l ≤ 5) (hw : 0 < w) (hw2 : w < 2 ^ 31) (hf : ∀ k, k < 6 → f k = if k = l then nI w else 0) : iv_win f = nI l := by
  have p0 : ¬ nI w ≤ 0 := nI_nle hw hw2
  have p1 : (0 : Int32) ≤ nI w := nI_pos' hw2
  have p2 : ¬ (0 : Int32) = nI w := fun e => nI_ne0 hw hw2 e.symm
  have p3 : (0 : Int32) ≤ 0 := by decide
  have e1 := hf 1 (by omega)
  have e2 := hf 2 (by omega)
  have e3 := hf 3 (by omega)
  have e4 := hf 4 (by omega)
  have e5 := hf 5 (by omega)
  have hl : l = 1 ∨ l = 2 ∨ l = 3 ∨ l = 4 ∨ l = 5 := by omega
  rcases hl with rfl | rfl | rfl | rfl | rfl <;> simp (decide := true) only [if_true, if_false] at e1 e2 e3 e4 e5 <;> simp only [iv_win, iv_wl, Nat.reduceSub, e1, e2, e3, e4, e5, p0, p1, p2, p3, if_true, if_false]
/-- one who makes a land win alone -/
def iv_mk (fl sh : Nat → Nat) (o l p : Nat) : Prop := ¬ o.testBit p = true ∧ 0 < sh p ∧ fl p = l
theorem f_mkX (b : Bool) {σ τ : ix_St} {n o l : Nat} {sh : Nat → Nat} (hV : iv_V σ τ n o) (hL : iv_L σ τ n o sh) (hl5 : l ≤ 5) : ∀ d j, j + d = n → ∃ r : Option Nat, ix_S 89 3 2 [some (.ref 130), some (.int (nI l)), some (.int (nI j))] [] (ix_S0 b, σ) = some (.int (iv_oi r), (ix_S0 b, σ)) ∧ (r = none → ∀ i, j ≤ i → i < n → ¬ iv_mk (iv_fl σ) sh o l i) ∧ ∀ p, r = some p → p < n ∧ iv_mk (iv_fl σ) sh o l p ∧ ∀ i, j ≤ i → i < p → ¬ iv_mk (iv_fl σ) sh o l i := by
  have hn := hV.1
  have h6 := hV.2.1
  intro d
  induction d with
  | zero =>
    intro j hj
    have : j = n := by omega
    subst this
    refine ⟨none, ?_, fun _ i h1 h2 => by omega, fun p h => by cases h⟩
    rw [q_Poll_firstMaker_2, h6, if_pos (nI_le (Nat.le_refl _) (by omega))]
    rfl
  | succ d ih =>
    intro j hj
    have k0 : ¬ nI n ≤ nI j := nI_ge (by omega) (by omega)
    have k1 : ¬ (nI j < 0 ∨ 12 ≤ j) := iv_ni (by omega) (by omega)
    have k3 : (nI j).toNatClampNeg = j := nI_clamp (by omega)
    have hlj := (hL.2 j (by omega)).1
    have h9 := hL.1 j
    have hd := iv_V_d hV (show j < n by omega)
    obtain ⟨r, g1, g2, g3⟩ := ih (j + 1) (by omega)
    have skip : ¬ iv_mk (iv_fl σ) sh o l j → (r = none → ∀ i, j ≤ i → i < n → ¬ iv_mk (iv_fl σ) sh o l i) ∧ ∀ p, r = some p → p < n ∧ iv_mk (iv_fl σ) sh o l p ∧ ∀ i, j ≤ i → i < p → ¬ iv_mk (iv_fl σ) sh o l i := by
      intro hno
      refine ⟨fun h i h1 h2 => ?_, fun p h => ⟨(g3 p h).1, (g3 p h).2.1, fun i h1 h2 => ?_⟩⟩
      · by_cases e : i = j
        · rw [e]; exact hno
        · exact g2 h i (by omega) h2
      · by_cases e : i = j
        · rw [e]; exact hno
        · exact (g3 p h).2.2 i (by omega) h2
    by_cases hz : (if o.testBit j = true then 0 else sh j) = 0
    · have z0 : nI 0 ≤ 0 := by decide
      refine ⟨r, ?_, skip (fun h => ?_)⟩
      · rw [q_Poll_firstMaker_2]
        simp only [h6, k0, k1, k3, hlj, hz, z0, nI_1, if_true, if_false]
        exact g1
      · rw [if_neg h.1] at hz
        have := h.2.1
        omega
    · have hb : ¬ o.testBit j = true := fun h => hz (if_pos h)
      rw [if_neg hb] at hz hlj
      have p0 : ¬ nI (sh j) ≤ 0 := nI_nle (by omega) (by omega)
      by_cases e : iv_d (σ 3 j) 0 = l
      · refine ⟨some j, ?_, (fun h => by cases h), (fun p h => by cases h; exact ⟨by omega, ⟨hb, by omega, e⟩, fun i h1 h2 => by omega⟩)⟩
        rw [q_Poll_firstMaker_2]
        simp only [h6, k0, k1, k3, hlj, p0, f_flX b hV (show j < n by omega), e, if_true, if_false, Option.bind_some, iv_tI]
        rfl
      · have e' : ¬ nI (iv_d (σ 3 j) 0) = nI l := fun q => e ((nI_eq (by omega) (by omega)).mp q)
        refine ⟨r, ?_, skip (fun h => e h.2.2)⟩
        rw [q_Poll_firstMaker_2]
        simp only [h6, k0, k1, k3, hlj, p0, f_flX b hV (show j < n by omega), e', nI_1, if_false, Option.bind_some, iv_tI]
        exact g1
theorem iv_vt_no {fl sh : Nat → Nat} {o n s l : Nat} (h9 : ∀ i, sh i ≤ 9) (hn : n ≤ 12) (hl1 : 1 ≤ l) (hl5 : l ≤ 5) (h : ∀ i, i < n → s.testBit i = true → ¬ iv_mk fl sh o l i) (ho : ∀ i, i < n → s.testBit i = true → ¬ o.testBit i = true) : iv_vt fl sh s 0 0 n ≠ nI l := by
  refine iv_win_ne (fun k => ?_) ?_ hl1 hl5
  · have := iv_sm_le (f := iv_ld fl sh s 0 0 k) (fun j => iv_ld_9 h9 s 0 0 k j) n
    exact nI_pos' (by omega)
  · show nI (iv_sm (iv_ld fl sh s 0 0 l) n) = 0
    rw [iv_sm_0 n (fun j hj => ?_)]
    · rfl
    · unfold iv_ld
      by_cases hb : s.testBit j = true
      · have h1 := h j hj hb
        have h2 := ho j hj hb
        unfold iv_mk at h1
        by_cases e : fl j = l
        · have : sh j = 0 := by
            by_cases q : sh j = 0
            · exact q
            · exact absurd ⟨h2, by omega, e⟩ h1
          rw [this, ite_self]
        · rw [if_neg (fun q => ?_)]
          have q2 := q.2
          rw [Nat.zero_testBit] at q2
          exact e q2
      · rw [if_neg (fun q => hb q.1)]
theorem iv_vt_1 {fl sh : Nat → Nat} {o n l p : Nat} (h9 : ∀ i, sh i ≤ 9) (hl1 : 1 ≤ l) (hl5 : l ≤ 5) (hp : p < n) (h : iv_mk fl sh o l p) : iv_vt fl sh (2 ^ p) 0 0 n = nI l := by
  refine iv_win_1 (w := sh p) hl1 hl5 h.2.1 (by have := h9 p; omega) (fun k hk => ?_)
  show nI (iv_sm (iv_ld fl sh (2 ^ p) 0 0 k) n) = _
  have hat := iv_sm_at (f := iv_ld fl sh (2 ^ p) 0 0 k) (g := fun _ => 0) (p := p) n hp (fun j hj hne => by
    show (if (2 ^ p).testBit j = true ∧ _ then sh j else 0) = 0
    rw [if_neg (fun q => ?_)]
    have q1 := q.1
    rw [Nat.testBit_two_pow] at q1
    exact hne (of_decide_eq_true q1).symm)
  rw [iv_sm_0 (f := fun _ => 0) n (fun _ _ => rfl)] at hat
  have e : iv_ld fl sh (2 ^ p) 0 0 k p = if k = l then sh p else 0 := by
    unfold iv_ld
    rw [Nat.testBit_two_pow_self, Nat.zero_testBit]
    by_cases e : k = l
    · rw [if_pos e, if_pos ⟨rfl, by rw [if_neg (by decide), h.2.2, e]⟩]
    · rw [if_neg e, if_neg (fun q => ?_)]
      have q2 := q.2
      rw [if_neg (by decide), h.2.2] at q2
      exact e q2.symm
  rw [show iv_sm (iv_ld fl sh (2 ^ p) 0 0 k) n = iv_ld fl sh (2 ^ p) 0 0 k p by omega, e]
  by_cases e : k = l
  · rw [if_pos e, if_pos e]
  · rw [if_neg e, if_neg e]; rfl
theorem iv_wo_0 {s h : Nat} : iv_wo s h = 0 ↔ ∀ i, s.testBit i = true → h.testBit i = true := by
  constructor
  · intro e i hi
    have h1 := iv_wo_bit s h i
    rw [e, Nat.zero_testBit, hi] at h1
    revert h1
    cases h.testBit i <;> simp
  · intro e
    refine Nat.eq_of_testBit_eq (fun i => ?_)
    rw [iv_wo_bit, Nat.zero_testBit]
    cases hs : s.testBit i with
    | true => rw [e i hs]; rfl
    | false => rfl
theorem f_mk1 (c : Bool) {σ : ix_St} {n o l B : Nat} {sh : Nat → Nat} (v2 : Int32) (hl5 : l ≤ 5) (hB : B ≤ iv_he n o + 1) (hB2 : B ≤ 4096) (hno : ∀ s, s < B → iv_wo s (iv_he n o) = 0 → iv_vt (iv_fl σ) sh s 0 0 n ≠ nI l) : ∀ d s τ, s + d = B → iv_V σ τ n o → iv_L σ τ n o sh → ∃ τ', ix_S 172 8 42 [some (.ref 135), some (.int (nI l)), some (.int v2), some (.int (nI (iv_he n o))), some (.int (-1)), some (.int (nI s))] [] (ix_S0 c, τ) = ix_S 172 8 42 [some (.ref 135), some (.int (nI l)), some (.int v2), some (.int (nI (iv_he n o))), some (.int (-1)), some (.int (nI B))] [] (ix_S0 c, τ') ∧ ∀ z, z ≠ 158 → τ' z = τ z := by
  intro d
  induction d with
  | zero =>
    intro s τ hs hV hL
    rw [show s = B by omega]
    exact ⟨τ, rfl, fun _ _ => rfl⟩
  | succ d ih =>
    intro s τ hs hV hL
    have hh := iv_V_lt hV
    have k0 : ¬ nI (iv_he n o) < nI s := nI_nlt (by omega) (by omega)
    have hwl : iv_wo s (iv_he n o) < 4096 := iv_wo_lt (n := 12) (by omega)
    by_cases hw : iv_wo s (iv_he n o) = 0
    · obtain ⟨τ1, e1, e2⟩ := f_vo c (s := s) (t := 0) (L := 0) (by omega) (by omega) (by omega) hV hL
      have e1' : ix_F 211 [.ref 135, .int (nI s), .int 0, .int 0] (ix_S0 c, τ) = _ := e1
      obtain ⟨τ', p1, p2⟩ := ih (s + 1) τ1 (by omega) (iv_V_cong rfl rfl (by rw [e2 135 (by decide)]) (e2 136 (by decide)) hV) (iv_L_cong rfl (e2 159 (by decide)) hL)
      refine ⟨τ', ?_, fun z hz => (p2 z hz).trans (e2 z hz)⟩
      rw [q_M_makes_42, if_neg k0, iv_wo_I, hw, if_pos (show nI 0 = 0 from rfl), if_pos rfl, e1', nI_1]
      simp only [Option.bind_some, iv_tI]
      rw [if_neg (hno s (by omega) hw)]
      exact p1
    · obtain ⟨τ', p1, p2⟩ := ih (s + 1) τ (by omega) hV hL
      refine ⟨τ', ?_, p2⟩
      rw [q_M_makes_42, if_neg k0, iv_wo_I, if_neg (nI_ne0 (by omega) (by omega)), nI_1]
      exact p1
theorem iv_pc_2p : ∀ p, p < 12 → iv_pc 12 (2 ^ p) = 1 := by decide +kernel
theorem iv_pc_pos {s : Nat} (h0 : s ≠ 0) (h : s < 4096) : 1 ≤ iv_pc 12 s := by
  have h1 := iv_pc_st (s / 64) (by omega) (s % 64) (by omega) (by omega)
  rw [show 64 * (s / 64) + s % 64 = s by omega] at h1
  omega
theorem f_mk2 (c : Bool) {σ τ : ix_St} {n o l p : Nat} (v2 : Int32) (hV : iv_V σ τ n o) (hp : p < n) : ∀ d s, s + d = iv_he n o + 1 → 1 ≤ s → ix_S 172 8 42 [some (.ref 135), some (.int (nI l)), some (.int v2), some (.int (nI (iv_he n o))), some (.int (nI (2 ^ p))), some (.int (nI s))] [] (ix_S0 c, τ) = some (.int (if v2 = 1 then nI (2 ^ p) else 1), (ix_S0 c, τ)) := by
  have hn := hV.1
  have hh := iv_V_lt hV
  have hp2 : 2 ^ p < 4096 := Nat.pow_lt_pow_right (n := 12) (by omega) (by omega)
  have hm : ¬ nI (2 ^ p) = -1 := iv_m1 (by omega)
  have ho := f_onesOf c τ hp2
  rw [iv_pc_2p p (by omega)] at ho
  intro d
  induction d with
  | zero =>
    intro s hs h1
    rw [q_M_makes_42, if_pos (nI_lt (by omega) (by omega)), if_neg hm]
    by_cases e : v2 = 1
    · rw [if_pos e, if_pos e]
    · rw [if_neg e, if_neg e, ho]
      rfl
  | succ d ih =>
    intro s hs h1
    have k0 : ¬ nI (iv_he n o) < nI s := nI_nlt (by omega) (by omega)
    have hwl : iv_wo s (iv_he n o) < 4096 := iv_wo_lt (n := 12) (by omega)
    have hi := ih (s + 1) (by omega) (by omega)
    rw [q_M_makes_42, if_neg k0, iv_wo_I, nI_1]
    by_cases hw : iv_wo s (iv_he n o) = 0
    · have hpc := iv_pc_pos (s := s) (by omega) (by omega)
      have hpl := iv_pc_le s 12
      rw [hw, if_pos (show nI 0 = 0 from rfl), if_neg hm, f_onesOf c τ (by omega)]
      simp only [Option.bind_some, iv_tI]
      rw [ho]
      simp only [Option.bind_some, iv_tI]
      rw [if_pos (nI_le hpc (by omega))]
      exact hi
    · rw [if_neg (nI_ne0 (by omega) (by omega))]
      exact hi
theorem iv_kM_158 {τ τ1 τ2 : ix_St} (h : ∀ z, z ≠ 156 → z ≠ 157 → z ≠ 159 → τ1 z = τ z) (h2 : ∀ z, z ≠ 158 → τ2 z = τ1 z) : iv_kM τ τ2 := iv_kM_p h (fun z h1 _ => h2 z h1)
theorem s_makes (E : ix_St) (v w : Int32) : iv_S E 17 172 [.int v, .int w] := by
  intro k b c σ τ hk hE hR
  have hK := iv_R_keep iv_kX.rf (iv_kM_told τ 0) hR
  have hR0 := iv_R_told (v := 0) hR
  obtain ⟨n, o, hn, hw, -⟩ := iv_R_told (v := 0) hR
  rw [q_X_makes_0, q_M_makes_0, f_isLand, f_isIn]
  simp only [Option.bind_some, iv_tI]
  by_cases h1 : 1 ≤ v ∧ v ≤ 5
  · rw [if_neg (fun h => iv_B0.mp h h1), if_neg (fun h => iv_B0.mp h h1), f_isIn]
    simp only [Option.bind_some, iv_tI]
    by_cases h2 : 0 ≤ w ∧ w ≤ 1
    · rw [if_neg (iv_nlt.mpr h2.1), if_pos h2.2, if_neg (fun h => iv_B0.mp h h2)]
      obtain ⟨l, l1, l5, rfl⟩ := iv_rng1 (m := 5) (by omega) h1
      obtain ⟨σ1, τ1, sh, e1, e2, hV, hL, e3, e4⟩ := f_poll b c hn hw
      have hh := iv_V_lt hV
      have hkX := iv_kX_131 e3
      rw [e1, e2]
      simp only [Option.bind_some]
      rw [f_hereV c hV, q_Poll_firstMaker_0]
      simp only [Option.bind_some, iv_tI]
      obtain ⟨r, g1, g2, g3⟩ := f_mkX b hV hL l5 n 0 (by omega)
      have g1' : ix_S 89 3 2 [some (.ref 130), some (.int (nI l)), some (.int 0)] [] (ix_S0 b, σ1) = _ := g1
      rw [g1']
      simp only [Option.bind_some, iv_tI]
      have hsub : ∀ s, iv_wo s (iv_he n o) = 0 → ∀ i, s.testBit i = true → i < n ∧ ¬ o.testBit i = true := by
        intro s hs i hi
        have h3 := iv_wo_0.mp hs i hi
        rw [iv_he_bit hV.2.2.2.2.1] at h3
        simpa using h3
      cases r with
      | none =>
        obtain ⟨τ2, m1, m2⟩ := f_mk1 c (σ := σ1) (sh := sh) (B := iv_he n o + 1) w l5 (Nat.le_refl _) (by omega) (fun s hs hws => iv_vt_no (o := o) hL.1 hn l1 l5 (fun i hi hb => g2 rfl i (by omega) hi) (fun i hi hb => (hsub s hws i hb).2)) (iv_he n o + 1) 0 τ1 (by omega) hV hL
        have m1' : ix_S 172 8 42 [some (.ref 135), some (.int (nI l)), some (.int w), some (.int (nI (iv_he n o))), some (.int (-1)), some (.int 0)] [] (ix_S0 c, τ1) = _ := m1
        rw [if_pos (show iv_oi none = -1 from rfl), m1', q_M_makes_42, if_pos (nI_lt (by omega) (by omega)), if_pos rfl]
        exact ⟨_, b, _, _, rfl, rfl, iv_R_keep hkX (iv_kM_158 e4 m2) hR0⟩
      | some p =>
        obtain ⟨hp, hmk, hbe⟩ := g3 p rfl
        have hp2 : 2 ^ p < 4096 := Nat.pow_lt_pow_right (n := 12) (by omega) (by omega)
        have hin : iv_wo (2 ^ p) (iv_he n o) = 0 := by
          refine iv_wo_0.mpr (fun i hi => ?_)
          rw [Nat.testBit_two_pow] at hi
          have : p = i := of_decide_eq_true hi
          subst this
          rw [iv_he_bit hV.2.2.2.2.1]
          have h6 := hmk.1
          simp only [hp, decide_true, Bool.true_and]
          cases hq : o.testBit p with
          | true => exact absurd hq h6
          | false => rfl
        have hle : 2 ^ p ≤ iv_he n o := by
          have h4 : 2 ^ p &&& iv_he n o = 2 ^ p := by
            refine Nat.eq_of_testBit_eq (fun i => ?_)
            rw [Nat.testBit_and]
            cases hq : (2 ^ p).testBit i with
            | true => rw [iv_wo_0.mp hin i hq]; rfl
            | false => rfl
          rw [← h4]
          exact Nat.and_le_right
        obtain ⟨τ2, m1, m2⟩ := f_mk1 c (σ := σ1) (sh := sh) (B := 2 ^ p) w l5 (by omega) (by omega) (fun s hs hws => iv_vt_no (o := o) hL.1 hn l1 l5 (fun i hi hb => hbe i (by omega) (by
          by_cases q : i < p
          · exact q
          · exfalso
            have h5 : 2 ^ p ≤ 2 ^ i := Nat.pow_le_pow_right (by omega) (by omega)
            rw [Nat.testBit_lt_two_pow (by omega)] at hb
            cases hb)) (fun i hi hb => (hsub s hws i hb).2)) (2 ^ p) 0 τ1 (by omega) hV hL
        have m1' : ix_S 172 8 42 [some (.ref 135), some (.int (nI l)), some (.int w), some (.int (nI (iv_he n o))), some (.int (-1)), some (.int 0)] [] (ix_S0 c, τ1) = _ := m1
        have hV2 : iv_V σ1 τ2 n o := iv_V_cong rfl rfl (by rw [m2 135 (by decide)]) (m2 136 (by decide)) hV
        have hL2 : iv_L σ1 τ2 n o sh := iv_L_cong rfl (m2 159 (by decide)) hL
        obtain ⟨τ3, w1, w2⟩ := f_vo c (s := 2 ^ p) (t := 0) (L := 0) hp2 (by omega) (by omega) hV2 hL2
        have w1' : ix_F 211 [.ref 135, .int (nI (2 ^ p)), .int 0, .int 0] (ix_S0 c, τ2) = _ := w1
        have hV3 : iv_V σ1 τ3 n o := iv_V_cong rfl rfl (by rw [w2 135 (by decide)]) (w2 136 (by decide)) hV2
        have fin := f_mk2 c (l := l) w hV3 hp (iv_he n o - 2 ^ p) (2 ^ p + 1) (by have := hle; generalize 2 ^ p = q at *; omega) (by generalize 2 ^ p = q; omega)
        have mod : ix_S 172 8 42 [some (.ref 135), some (.int (nI l)), some (.int w), some (.int (nI (iv_he n o))), some (.int (-1)), some (.int 0)] [] (ix_S0 c, τ1) = some (.int (if w = 1 then nI (2 ^ p) else 1), (ix_S0 c, τ3)) := by
          rw [m1', q_M_makes_42, if_neg (nI_nlt hle (by omega)), iv_wo_I, hin, if_pos (show nI 0 = 0 from rfl), if_pos rfl, w1', nI_1]
          simp only [Option.bind_some, iv_tI]
          rw [if_pos (iv_vt_1 hL.1 l1 l5 hp hmk)]
          exact fin
        have hk3 : iv_kM (ix_up τ 135 0 0) τ3 := iv_kM_158 e4 (fun z hz => (w2 z hz).trans (m2 z hz))
        rw [if_neg (show ¬ iv_oi (some p) = -1 from iv_m1 (by omega)), mod]
        rcases iv_01 h2 with rfl | rfl
        · rw [if_pos rfl, if_neg (by decide)]
          exact ⟨_, b, _, _, rfl, rfl, iv_R_keep hkX hk3 hR0⟩
        · rw [if_neg (by decide), if_pos rfl]
          refine ⟨nI (2 ^ p), b, _, _, ?_, rfl, iv_R_keep hkX hk3 hR0⟩
          show some (Value.int ((1 : Int32) <<< (nI p &&& 31)), _) = _
          rw [iv_shl (by omega)]
    · rw [if_pos (iv_B0.mpr h2)]
      by_cases h3 : w < 0
      · rw [if_pos h3]
        exact ⟨_, b, _, _, rfl, rfl, hK⟩
      · rw [if_neg h3, if_neg (fun h => h2 ⟨iv_nlt.mp h3, h⟩)]
        exact ⟨_, b, _, _, rfl, rfl, hK⟩
  · rw [if_pos (iv_B0.mpr h1), if_pos (iv_B0.mpr h1)]
    exact ⟨_, b, _, _, rfl, rfl, hK⟩
