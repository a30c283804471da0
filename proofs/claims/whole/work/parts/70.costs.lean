/-! what a bribe costs -/
def iv_cs (br : Nat → Nat) (n s : Nat) : Nat := iv_sm (fun j => if s.testBit j = true then br j else 0) n
theorem iv_cs_x {br : Nat → Nat} {n x p : Nat} (hp : p < n) (hb : x.testBit p = false) : iv_cs br n (x ^^^ 2 ^ p) = iv_cs br n x + br p := by
  unfold iv_cs
  have hat := iv_sm_at (f := fun j => if (x ^^^ 2 ^ p).testBit j = true then br j else 0) (g := fun j => if x.testBit j = true then br j else 0) (p := p) n hp (fun j hj hne => by
    simp only [Nat.testBit_xor, Nat.testBit_two_pow, Ne.symm hne, decide_false, Bool.xor_false])
  have e1 : (if x.testBit p = true then br p else 0) = 0 := if_neg (by rw [hb]; decide)
  have e2 : (if (x ^^^ 2 ^ p).testBit p = true then br p else 0) = br p := if_pos (by rw [Nat.testBit_xor, Nat.testBit_two_pow_self, hb]; rfl)
  rw [e1, e2] at hat
  omega
theorem iv_cs_le {br : Nat → Nat} (h : ∀ i, br i ≤ 99) (n s : Nat) : iv_cs br n s ≤ 99 * n := iv_sm_le (f := fun j => if s.testBit j = true then br j else 0) (fun j => by
  have := h j
  show (if s.testBit j = true then br j else 0) ≤ 99
  by_cases e : s.testBit j = true
  · rw [if_pos e]; exact this
  · rw [if_neg e]; omega) n
theorem iv_cs_mono {br : Nat → Nat} {s t : Nat} (h : ∀ i, s.testBit i = true → t.testBit i = true) : ∀ n, iv_cs br n s ≤ iv_cs br n t
  | 0 => Nat.le_refl _
  | n + 1 => by
    have ih := iv_cs_mono (br := br) h n
    show iv_cs br n s + (if s.testBit n = true then br n else 0) ≤ iv_cs br n t + (if t.testBit n = true then br n else 0)
    by_cases e : s.testBit n = true
    · rw [if_pos e, if_pos (h n e)]; omega
    · rw [if_neg e]; omega
theorem f_br (c : Bool) {τ : ix_St} {n s : Nat} {br : Nat → Nat} (hn : n ≤ 12) (m7 : τ 135 7 = nI n) (hs : s < 4096) (hbr : ∀ i, i < n → τ 162 i + 1 = nI (br i)) : ix_F 224 [.ref 135, .int (nI s)] (ix_S0 c, τ) = some (.int (nI (iv_cs br n s)), (ix_S0 c, τ)) := by
  have key : ∀ d j, j + d = n → ix_S 224 2 4 [some (.ref 135), some (.int (nI s)), some (.int (nI (iv_cs br j s))), some (.int (nI j))] [] (ix_S0 c, τ) = some (.int (nI (iv_cs br n s)), (ix_S0 c, τ)) := by
    intro d
    induction d with
    | zero =>
      intro j hj
      have : j = n := by omega
      subst this
      rw [q_M_bribesOf_4, m7, if_pos (nI_le (Nat.le_refl _) (by omega))]
    | succ d ih =>
      intro j hj
      have h := ih (j + 1) (by omega)
      rw [q_M_bribesOf_4, m7, if_neg (nI_ge (by omega) (by omega)), f_hasM c τ (by omega) (by omega), nI_1]
      simp only [Option.bind_some, iv_tI]
      have e : iv_cs br (j + 1) s = iv_cs br j s + if s.testBit j = true then br j else 0 := rfl
      rw [e] at h
      by_cases hb : s.testBit j = true
      · rw [iv_Bt hb, if_neg (by decide), if_neg (nI_in (by omega) (by omega)), nI_clamp (by omega), Int32.add_assoc, hbr j (by omega), nI_add]
        rw [if_pos hb] at h
        exact h
      · rw [iv_Bf hb, if_pos rfl]
        rw [if_neg hb, Nat.add_zero] at h
        exact h
  rw [q_M_bribesOf_0]
  exact key n 0 (by omega)
/-- of two sets the one that is cheaper, or lesser -/
def iv_lx (C : Nat → Nat) (s t : Nat) : Prop := C s < C t ∨ C s = C t ∧ s ≤ t
theorem iv_lx_tr {C : Nat → Nat} {a b c : Nat} (h1 : iv_lx C a b) (h2 : iv_lx C b c) : iv_lx C a c := by
  unfold iv_lx at *
  omega
theorem iv_lx_an {C : Nat → Nat} {a b : Nat} (h1 : iv_lx C a b) (h2 : iv_lx C b a) : a = b := by
  unfold iv_lx at *
  omega
/-- best is the best of the sets below s -/
def iv_mi (C : Nat → Nat) (G : Nat → Prop) (h s : Nat) (best : Option Nat) : Prop := match best with
  | none => ∀ t, t < s → iv_wo t h = 0 → ¬ G t
  | some b => b < s ∧ iv_wo b h = 0 ∧ G b ∧ ∀ t, t < s → iv_wo t h = 0 → G t → iv_lx C b t
def iv_fi (v : Int32) (C : Nat → Nat) (best : Option Nat) : Int32 := match best with
  | none => -1
  | some b => if v = 1 then nI b else nI (C b)
theorem f_csM (c : Bool) {σ : ix_St} {n o l : Nat} {sh br : Nat → Nat} (v2 : Int32) (hl5 : l ≤ 5) (hb9 : ∀ i, br i ≤ 99) : ∀ d s best τ, s + d = iv_he n o + 1 → iv_V σ τ n o → iv_L σ τ n o sh → (∀ i, i < n → τ 162 i + 1 = nI (br i)) → iv_mi (iv_cs br n) (fun t => iv_vt (iv_fl σ) sh (iv_he n o) t l n = nI l) (iv_he n o) s best → ∃ best' τ', ix_S 183 8 42 [some (.ref 135), some (.int (nI l)), some (.int v2), some (.int (nI (iv_he n o))), some (.int (iv_oi best)), some (.int (nI s))] [] (ix_S0 c, τ) = some (.int (iv_fi v2 (iv_cs br n) best'), (ix_S0 c, τ')) ∧ iv_mi (iv_cs br n) (fun t => iv_vt (iv_fl σ) sh (iv_he n o) t l n = nI l) (iv_he n o) (iv_he n o + 1) best' ∧ ∀ z, z ≠ 158 → τ' z = τ z := by
  intro d
  induction d with
  | zero =>
    intro s best τ hs hV hL hbr hI
    have hh := iv_V_lt hV
    have es : s = iv_he n o + 1 := by omega
    subst es
    refine ⟨best, τ, ?_, hI, fun _ _ => rfl⟩
    rw [q_M_costs_42, if_pos (nI_lt (by omega) (by omega))]
    cases best with
    | none => rw [if_pos (show iv_oi none = -1 from rfl)]; rfl
    | some t =>
      have ht : t < iv_he n o + 1 := hI.1
      rw [if_neg (show ¬ iv_oi (some t) = -1 from iv_m1 (by omega))]
      show _ = some (Value.int (if v2 = 1 then nI t else nI (iv_cs br n t)), _)
      by_cases e : v2 = 1
      · rw [if_pos e, if_pos e]; rfl
      · rw [if_neg e, if_neg e]
        have := f_br c hV.1 hV.2.2.2.1 (s := t) (by omega) hbr
        rw [show ix_F 224 [.ref 135, .int (iv_oi (some t))] (ix_S0 c, τ) = _ from this]
        simp only [Option.bind_some, iv_tI]
  | succ d ih =>
    intro s best τ hs hV hL hbr hI
    have hh := iv_V_lt hV
    have hn := hV.1
    have k0 : ¬ nI (iv_he n o) < nI s := nI_nlt (by omega) (by omega)
    have hwl : iv_wo s (iv_he n o) < 4096 := iv_wo_lt (n := 12) (by omega)
    rw [q_M_costs_42, if_neg k0, iv_wo_I, nI_1]
    by_cases hw : iv_wo s (iv_he n o) = 0
    · obtain ⟨τ1, e1, e2⟩ := f_vo c (s := iv_he n o) (t := s) (L := l) (by omega) (by omega) hl5 hV hL
      have hV1 : iv_V σ τ1 n o := iv_V_cong rfl rfl (by rw [e2 135 (by decide)]) (e2 136 (by decide)) hV
      have hL1 : iv_L σ τ1 n o sh := iv_L_cong rfl (e2 159 (by decide)) hL
      have hbr1 : ∀ i, i < n → τ1 162 i + 1 = nI (br i) := by rw [e2 162 (by decide)]; exact hbr
      rw [hw, if_pos (show nI 0 = 0 from rfl)]
      cases best with
      | none =>
        rw [if_pos (show iv_oi none = -1 from rfl), e1]
        simp only [Option.bind_some, iv_tI]
        by_cases hg : iv_vt (iv_fl σ) sh (iv_he n o) s l n = nI l
        · obtain ⟨b', τ', p1, p2, p3⟩ := ih (s + 1) (some s) τ1 (by omega) hV1 hL1 hbr1 ⟨by omega, hw, hg, fun t ht htw htg => by
            by_cases e : t = s
            · rw [e]; exact Or.inr ⟨rfl, Nat.le_refl _⟩
            · exact absurd htg (hI t (by omega) htw)⟩
          refine ⟨b', τ', ?_, p2, fun z hz => (p3 z hz).trans (e2 z hz)⟩
          rw [if_pos hg]; exact p1
        · obtain ⟨b', τ', p1, p2, p3⟩ := ih (s + 1) none τ1 (by omega) hV1 hL1 hbr1 (fun t ht htw => by
            by_cases e : t = s
            · rw [e]; exact hg
            · exact hI t (by omega) htw)
          refine ⟨b', τ', ?_, p2, fun z hz => (p3 z hz).trans (e2 z hz)⟩
          rw [if_neg hg]; exact p1
      | some q =>
        obtain ⟨i1, i2, i3, i4⟩ := hI
        have c1 := f_br c hV.1 hV.2.2.2.1 (s := s) (by omega) hbr
        have c2 : ix_F 224 [.ref 135, .int (iv_oi (some q))] (ix_S0 c, τ) = _ := f_br c hV.1 hV.2.2.2.1 (s := q) (by omega) hbr
        have l1 := iv_cs_le hb9 n s
        have l2 := iv_cs_le hb9 n q
        rw [if_neg (show ¬ iv_oi (some q) = -1 from iv_m1 (by omega)), c1]
        simp only [Option.bind_some, iv_tI]
        rw [c2]
        simp only [Option.bind_some, iv_tI]
        by_cases hle : iv_cs br n q ≤ iv_cs br n s
        · obtain ⟨b', τ', p1, p2, p3⟩ := ih (s + 1) (some q) τ (by omega) hV hL hbr ⟨by omega, i2, i3, fun t ht htw htg => by
            by_cases e : t = s
            · rw [e]; unfold iv_lx; omega
            · exact i4 t (by omega) htw htg⟩
          refine ⟨b', τ', ?_, p2, p3⟩
          rw [if_pos (nI_le hle (by omega))]
          exact p1
        · rw [if_neg (nI_ge (by omega) (by omega)), e1]
          simp only [Option.bind_some, iv_tI]
          by_cases hg : iv_vt (iv_fl σ) sh (iv_he n o) s l n = nI l
          · obtain ⟨b', τ', p1, p2, p3⟩ := ih (s + 1) (some s) τ1 (by omega) hV1 hL1 hbr1 ⟨by omega, hw, hg, fun t ht htw htg => by
              by_cases e : t = s
              · rw [e]; exact Or.inr ⟨rfl, Nat.le_refl _⟩
              · exact iv_lx_tr (Or.inl (by omega)) (i4 t (by omega) htw htg)⟩
            refine ⟨b', τ', ?_, p2, fun z hz => (p3 z hz).trans (e2 z hz)⟩
            rw [if_pos hg]; exact p1
          · obtain ⟨b', τ', p1, p2, p3⟩ := ih (s + 1) (some q) τ1 (by omega) hV1 hL1 hbr1 ⟨by omega, i2, i3, fun t ht htw htg => by
              by_cases e : t = s
              · rw [e] at htg; exact absurd htg hg
              · exact i4 t (by omega) htw htg⟩
            refine ⟨b', τ', ?_, p2, fun z hz => (p3 z hz).trans (e2 z hz)⟩
            rw [if_neg hg]; exact p1
    · obtain ⟨b', τ', p1, p2, p3⟩ := ih (s + 1) best τ (by omega) hV hL hbr (by
        cases best with
        | none =>
          intro t ht htw
          by_cases e : t = s
          · rw [e] at htw; exact absurd htw hw
          · exact hI t (by omega) htw
        | some q =>
          obtain ⟨i1, i2, i3, i4⟩ := hI
          refine ⟨by omega, i2, i3, fun t ht htw htg => ?_⟩
          by_cases e : t = s
          · rw [e] at htw; exact absurd htw hw
          · exact i4 t (by omega) htw htg)
      refine ⟨b', τ', ?_, p2, p3⟩
      rw [if_neg (nI_ne0 (by omega) (by omega))]
      exact p1
/-- those whose own land it is -/
def iv_own (fl : Nat → Nat) (l : Nat) : Nat → Nat
  | 0 => 0
  | j + 1 => if fl j = l then iv_own fl l j ||| 2 ^ j else iv_own fl l j
theorem iv_own_lt (fl : Nat → Nat) (l : Nat) : ∀ j, iv_own fl l j < 2 ^ j
  | 0 => by show 0 < 1; omega
  | j + 1 => by
    have h : iv_own fl l j < 2 ^ (j + 1) := Nat.lt_of_lt_of_le (iv_own_lt fl l j) (Nat.pow_le_pow_right (by omega) (by omega))
    show (if fl j = l then iv_own fl l j ||| 2 ^ j else iv_own fl l j) < _
    by_cases e : fl j = l
    · rw [if_pos e]; exact Nat.or_lt_two_pow h (Nat.pow_lt_pow_right (by omega) (by omega))
    · rw [if_neg e]; exact h
theorem iv_own_bit (fl : Nat → Nat) (l : Nat) : ∀ j i, i < j → ((iv_own fl l j).testBit i = true ↔ fl i = l)
  | 0, i, h => by omega
  | j + 1, i, h => by
    show (if fl j = l then iv_own fl l j ||| 2 ^ j else iv_own fl l j).testBit i = true ↔ _
    by_cases e : i = j
    · subst e
      by_cases q : fl i = l
      · rw [if_pos q, Nat.testBit_or, Nat.testBit_two_pow_self, Bool.or_true]
        exact ⟨fun _ => q, fun _ => rfl⟩
      · rw [if_neg q, Nat.testBit_lt_two_pow (iv_own_lt fl l i)]
        exact ⟨(fun h => by cases h), fun h => absurd h q⟩
    · have ih := iv_own_bit fl l j i (by omega)
      by_cases q : fl j = l
      · rw [if_pos q, Nat.testBit_or, Nat.testBit_two_pow]
        have : ¬ j = i := fun h => e h.symm
        simp only [this, decide_false, Bool.or_false]
        exact ih
      · rw [if_neg q]; exact ih
theorem f_layAll (b : Bool) {τ : ix_St} {n o l : Nat} {sh : Nat → Nat} (hl5 : l ≤ 5) : ∀ d j σ, j + d = n → iv_V σ τ n o → iv_L σ τ n o sh → (∀ k, k < 6 → σ 132 k = nI (iv_sm (iv_ld (iv_fl σ) sh (iv_he n o) 0 l k) j)) → ∃ σ', ix_S 111 3 12 [some (.ref 130), some (.int (nI l)), some (.int (nI (iv_own (iv_fl σ) l j))), some (.int (nI j))] [] (ix_S0 b, σ) = some (.int (nI (iv_own (iv_fl σ) l n)), (ix_S0 b, σ')) ∧ (∀ z, z ≠ 132 → σ' z = σ z) ∧ ∀ k, k < 6 → σ' 132 k = nI (iv_sm (iv_ld (iv_fl σ) sh (iv_he n o) 0 l k) n) := by
  intro d
  induction d with
  | zero =>
    intro j σ hj hV hL h
    have : j = n := by omega
    subst this
    have hn := hV.1
    refine ⟨σ, ?_, fun _ _ => rfl, h⟩
    rw [q_Poll_layAll_12, hV.2.1, if_pos (nI_le (Nat.le_refl _) (by omega))]
  | succ d ih =>
    intro j σ hj hV hL h
    have hn := hV.1
    have k0 : ¬ nI n ≤ nI j := nI_ge (by omega) (by omega)
    have k1 : ¬ (nI j < 0 ∨ 12 ≤ j) := iv_ni (by omega) (by omega)
    have k3 : (nI j).toNatClampNeg = j := nI_clamp (by omega)
    have hd := iv_V_d hV (show j < n by omega)
    have hlj := (hL.2 j (by omega)).1
    have fX := f_flX b hV (show j < n by omega)
    have hV1 : ∀ L u, iv_V (ix_up σ 132 L u) τ n o := fun L u => iv_V_cong (iv_upn (by decide)) (iv_upn (by decide)) rfl rfl hV
    have fX1 : ∀ L u, ix_F 103 [.ref 130, .int (nI j)] (ix_S0 b, ix_up σ 132 L u) = some (.int (nI (iv_fl σ j)), (ix_S0 b, ix_up σ 132 L u)) := fun L u => by
      rw [f_flX b (hV1 L u) (show j < n by omega), iv_upn (by decide)]
      rfl
    have efl : ∀ L u, iv_fl (ix_up σ 132 L u) = iv_fl σ := fun L u => by unfold iv_fl; rw [iv_upn (by decide)]
    have hL5 : iv_fl σ j ≤ 5 := hd.2
    have fX : ix_F 103 [.ref 130, .int (nI j)] (ix_S0 b, σ) = some (.int (nI (iv_fl σ j)), (ix_S0 b, σ)) := fX
    have hnew : ∀ k, k < 6 → (ix_up σ 132 (iv_fl σ j) (σ 132 (iv_fl σ j) + σ 131 j)) 132 k = nI (iv_sm (iv_ld (iv_fl σ) sh (iv_he n o) 0 l k) (j + 1)) := by
      intro k hk
      show upd (σ 132) (iv_fl σ j) (σ 132 (iv_fl σ j) + σ 131 j) k = nI (iv_sm (iv_ld (iv_fl σ) sh (iv_he n o) 0 l k) j + iv_ld (iv_fl σ) sh (iv_he n o) 0 l k j)
      have hhe : (iv_he n o).testBit j = !o.testBit j := by rw [iv_he_bit hV.2.2.2.2.1]; simp [show j < n by omega]
      have eld : iv_ld (iv_fl σ) sh (iv_he n o) 0 l k j = if iv_fl σ j = k then (if o.testBit j = true then 0 else sh j) else 0 := by
        unfold iv_ld
        rw [hhe, Nat.zero_testBit]
        simp only [Bool.false_eq_true, if_false]
        by_cases e : iv_fl σ j = k
        · rw [if_pos e]
          by_cases q : o.testBit j = true
          · rw [if_pos q, if_neg (fun p => by rw [q] at p; exact absurd p.1 (by decide))]
          · rw [if_neg q, if_pos ⟨by simpa using q, e⟩]
        · rw [if_neg e, if_neg (fun p => e p.2)]
      rw [eld]
      by_cases e : iv_fl σ j = k
      · rw [if_pos e, e, pk_us, h k hk, hlj, nI_add]
      · rw [if_neg e, pk_un (fun q => e q.symm), h k hk, Nat.add_zero]
    obtain ⟨σ', p1, p2, p3⟩ := ih (j + 1) (ix_up σ 132 (iv_fl σ j) (σ 132 (iv_fl σ j) + σ 131 j)) (by omega) (hV1 _ _) (iv_L_cong (iv_upn (by decide)) rfl hL) (by rw [efl]; exact hnew)
    rw [efl] at p1 p3
    refine ⟨σ', ?_, fun z hz => (p2 z hz).trans (iv_upn hz), p3⟩
    rw [q_Poll_layAll_12, hV.2.1, if_neg k0, fX]
    simp only [Option.bind_some, iv_tI]
    rw [nI_clamp (n := iv_fl σ j) (by omega), if_neg (iv_ni (x := iv_fl σ j) (N := 6) (by omega) (by omega)), k3, if_neg k1, if_neg (iv_ni (x := iv_fl σ j) (N := 6) (by omega) (by omega)), fX1, nI_1, iv_shl (by omega), iv_or]
    simp only [Option.bind_some, iv_tI]
    by_cases e : iv_fl σ j = l
    · rw [if_pos (by rw [e])]
      rw [show iv_own (iv_fl σ) l (j + 1) = iv_own (iv_fl σ) l j ||| 2 ^ j from if_pos e] at p1
      exact p1
    · rw [if_neg (fun q => e ((nI_eq (by omega) (by omega)).mp q)), Int32.or_zero]
      rw [show iv_own (iv_fl σ) l (j + 1) = iv_own (iv_fl σ) l j from if_neg e] at p1
      exact p1
