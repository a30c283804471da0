/-! what a bribe costs: the class's walk -/
theorem iv_ld_b {fl sh : Nat → Nat} {n h x p l : Nat} (hp : p < n) (hh : h.testBit p = true) (hb : x.testBit p = false) (k : Nat) : iv_sm (iv_ld fl sh h (x ^^^ 2 ^ p) l k) n + (if fl p = k then sh p else 0) = iv_sm (iv_ld fl sh h x l k) n + if l = k then sh p else 0 := by
  have hat := iv_sm_at (f := iv_ld fl sh h (x ^^^ 2 ^ p) l k) (g := iv_ld fl sh h x l k) (p := p) n hp (fun j hj hne => by
    unfold iv_ld
    rw [Nat.testBit_xor, Nat.testBit_two_pow]
    simp only [Ne.symm hne, decide_false, Bool.xor_false])
  have e1 : iv_ld fl sh h x l k p = if fl p = k then sh p else 0 := by
    unfold iv_ld
    rw [hb, hh]
    simp only [Bool.false_eq_true, if_false, true_and]
  have e2 : iv_ld fl sh h (x ^^^ 2 ^ p) l k p = if l = k then sh p else 0 := by
    unfold iv_ld
    rw [Nat.testBit_xor, Nat.testBit_two_pow_self, hb, hh]
    simp only [Bool.false_xor, if_true, true_and]
  rw [e1, e2] at hat
  exact hat
def iv_c5 (C : Nat → Nat) (best : Option Nat) : Int32 := match best with
  | none => -1
  | some t => nI (C t)
/-- what the class holds while it walks -/
def iv_wk (σ0 : ix_St) (sh : Nat → Nat) (C : Nat → Nat) (n h l x : Nat) (best : Option Nat) (σ : ix_St) : Prop := x < 4096 ∧ (∀ t, best = some t → t < 4096) ∧ (∀ z, z ≠ 130 → z ≠ 132 → σ z = σ0 z) ∧ (∀ k, k < 6 → σ 132 k = nI (iv_sm (iv_ld (iv_fl σ0) sh h x l k) n)) ∧ σ 130 5 = iv_c5 C best ∧ σ 130 6 = iv_oi best
/-- the best of what was, and one more -/
def iv_nb (C : Nat → Nat) (G : Nat → Prop) (best best' : Option Nat) (x : Nat) : Prop := (best' = best ∨ best' = some x ∧ G x) ∧ (∀ s t, best = some t → iv_lx C t s → ∃ t', best' = some t' ∧ iv_lx C t' s) ∧ (G x → ∃ t', best' = some t' ∧ iv_lx C t' x)
theorem f_keepC (b : Bool) {σ0 σ : ix_St} {sh C : Nat → Nat} {n h l x : Nat} {best : Option Nat} (hC : ∀ t, C t < 2 ^ 31) (hl5 : l ≤ 5) (hW : iv_wk σ0 sh C n h l x best σ) : ∃ best' σ', ix_F 112 [.ref 130, .int (nI l), .int (nI (C x)), .int (nI x)] (ix_S0 b, σ) = some (.null, (ix_S0 b, σ')) ∧ iv_wk σ0 sh C n h l x best' σ' ∧ iv_nb C (fun t => iv_vt (iv_fl σ0) sh h t l n = nI l) best best' x := by
  obtain ⟨hx, hbt, hfr, hlaid, h5, h6⟩ := id hW
  have hwin : ix_F 39 [.ref 132] (ix_S0 b, σ) = some (.int (iv_vt (iv_fl σ0) sh h x l n), (ix_S0 b, σ)) := by
    rw [f_winX132, iv_win_cong hlaid]
    unfold iv_vt
    rfl
  have keep : iv_nb C (fun t => iv_vt (iv_fl σ0) sh h t l n = nI l) best best x ∨ ¬ iv_nb C (fun t => iv_vt (iv_fl σ0) sh h t l n = nI l) best best x := Classical.em _
  have take : (∀ t, best = some t → iv_lx C x t) → ∃ best' σ', ((ix_F 39 [.ref 132] (ix_S0 b, σ)).bind fun x1 => (if (ix_toI x1.1) = nI l then some (Value.null, (ix_S0 b, (ix_up (ix_up x1.2.2 130 5 (nI (C x))) 130 6 (nI x)))) else some (Value.null, (ix_S0 b, x1.2.2)))) = some (.null, (ix_S0 b, σ')) ∧ iv_wk σ0 sh C n h l x best' σ' ∧ iv_nb C (fun t => iv_vt (iv_fl σ0) sh h t l n = nI l) best best' x := by
    intro hlt
    rw [hwin]
    simp only [Option.bind_some, iv_tI]
    by_cases hg : iv_vt (iv_fl σ0) sh h x l n = nI l
    · refine ⟨some x, ix_up (ix_up σ 130 5 (nI (C x))) 130 6 (nI x), by rw [if_pos hg], ⟨hx, fun t e => by cases e; exact hx, fun z z1 z2 => ?_, fun k hk => ?_, rfl, rfl⟩, Or.inr ⟨rfl, hg⟩, fun s t e hs => ⟨x, rfl, iv_lx_tr (hlt t e) hs⟩, fun _ => ⟨x, rfl, Or.inr ⟨rfl, Nat.le_refl _⟩⟩⟩
      · rw [iv_upn z1, iv_upn z1]; exact hfr z z1 z2
      · rw [iv_upn (by decide), iv_upn (by decide)]; exact hlaid k hk
    · exact ⟨best, σ, by rw [if_neg hg], hW, Or.inl rfl, fun s t e hs => ⟨t, e, hs⟩, fun q => absurd q hg⟩
  rw [q_Poll_keepIfCheaper_0, h5, h6]
  cases best with
  | none =>
    rw [if_pos (show iv_c5 C none = -1 from rfl), if_neg (show ¬ (1 : Int32) = 0 by decide)]
    exact take (fun t e => by cases e)
  | some t =>
    have ht := hbt t rfl
    have c1 := hC t
    have c2 := hC x
    rw [if_neg (show ¬ iv_c5 C (some t) = -1 from iv_m1 c1)]
    show ∃ best' σ', (if nI (C x) < nI (C t) then _ else (if nI (C x) = nI (C t) then (if nI t ≤ nI x then _ else _) else _)) = _ ∧ _
    have stay : iv_lx C t x → ∃ best' σ', some (Value.null, (ix_S0 b, σ)) = some (Value.null, (ix_S0 b, σ')) ∧ iv_wk σ0 sh C n h l x best' σ' ∧ iv_nb C (fun t => iv_vt (iv_fl σ0) sh h t l n = nI l) (some t) best' x := fun hlx => ⟨some t, σ, rfl, hW, Or.inl rfl, fun s q e hs => ⟨q, e, hs⟩, fun _ => ⟨t, rfl, hlx⟩⟩
    by_cases a1 : C x < C t
    · rw [if_pos (nI_lt a1 c1), if_neg (show ¬ (1 : Int32) = 0 by decide)]
      exact take (fun q e => by cases e; exact Or.inl a1)
    · rw [if_neg (nI_nlt (by omega) c2)]
      by_cases a2 : C x = C t
      · rw [if_pos (by rw [a2])]
        by_cases a3 : t ≤ x
        · rw [if_pos (nI_le a3 (by omega)), if_pos (show (0 : Int32) = 0 from rfl)]
          exact stay (Or.inr ⟨a2.symm, a3⟩)
        · rw [if_neg (nI_ge (by omega) (by omega)), if_neg (show ¬ (1 : Int32) = 0 by decide)]
          exact take (fun q e => by cases e; exact Or.inr ⟨a2, by omega⟩)
      · rw [if_neg (fun q => a2 ((nI_eq c2 c1).mp q)), if_pos (show (0 : Int32) = 0 from rfl)]
        exact stay (Or.inl (by omega))
theorem f_cs_st (b : Bool) {σ0 σ τ : ix_St} {n o l x i m : Nat} {sh br : Nat → Nat} {best : Option Nat} (hV : iv_V σ0 τ n o) (hL : iv_L σ0 τ n o sh) (hb9 : ∀ j, br j ≤ 99) (hbr : ∀ j, j < n → σ0 26 j = nI (br j)) (hl5 : l ≤ 5) (hm : m ≤ 12) (h0 : i ≠ 0) (hi : i < 2 ^ m) (hW : iv_wk σ0 sh (iv_cs br n) n (iv_he n o) l x best σ) {p : Nat} (hp : p < n) (hpo : ¬ o.testBit p = true) (hpl : iv_fl σ0 p ≠ l) (hq : σ0 133 (iv_tz i) = nI p) : ∃ best' σ', ix_S 101 4 40 [some (.ref 130), some (.int (nI l)), none, some (.int (nI m)), some (.int (nI (iv_cs br n x))), some (.int (nI x)), some (.int (nI i)), none, none] [] (ix_S0 b, σ) = ix_S 101 4 40 [some (.ref 130), some (.int (nI l)), none, some (.int (nI m)), some (.int (nI (iv_cs br n (x ^^^ 2 ^ p)))), some (.int (nI (x ^^^ 2 ^ p))), some (.int (nI (i + 1))), none, none] [] (ix_S0 b, σ') ∧ iv_wk σ0 sh (iv_cs br n) n (iv_he n o) l (x ^^^ 2 ^ p) best' σ' ∧ iv_nb (iv_cs br n) (fun t => iv_vt (iv_fl σ0) sh (iv_he n o) t l n = nI l) best best' (x ^^^ 2 ^ p) := by
  obtain ⟨hx, hbt, hfr, hlaid, h5, h6⟩ := hW
  have hn := hV.1
  have h12 : 2 ^ m ≤ 4096 := iv_p12 hm
  have hp2 : 2 ^ p < 4096 := Nat.pow_lt_pow_right (n := 12) (by omega) (by omega)
  have hx2 : x ^^^ 2 ^ p < 4096 := Nat.xor_lt_two_pow (n := 12) hx hp2
  have hC : ∀ t, iv_cs br n t < 2 ^ 31 := fun t => by have := iv_cs_le hb9 n t; omega
  have hhe : (iv_he n o).testBit p = true := by rw [iv_he_bit hV.2.2.2.2.1]; simp [hp, hpo]
  have c1 : ix_F 106 [.ref 130, .int (nI i)] (ix_S0 b, σ) = some (.int (nI p), (ix_S0 b, σ)) := by
    rw [f_chg b σ h0 (by omega), hfr 133 (by decide) (by decide), hq]
  have hl5p : iv_fl σ0 p ≤ 5 := (iv_V_d hV hp).2
  have hsp : σ 131 p = nI (sh p) := by rw [hfr 131 (by decide) (by decide), (hL.2 p hp).1, if_neg hpo]
  have hbp : σ 26 p = nI (br p) := by rw [hfr 26 (by decide) (by decide)]; exact hbr p hp
  have hVσ : ∀ L u, iv_V (ix_up σ 132 L u) τ n o := fun L u => iv_V_cong ((iv_upn (by decide)).trans (hfr 2 (by decide) (by decide))) ((iv_upn (by decide)).trans (hfr 3 (by decide) (by decide))) rfl rfl hV
  have c2 : ∀ L u, ix_F 103 [.ref 130, .int (nI p)] (ix_S0 b, ix_up σ 132 L u) = some (.int (nI (iv_fl σ0 p)), (ix_S0 b, ix_up σ 132 L u)) := fun L u => by
    rw [f_flX b (hVσ L u) hp, iv_upn (by decide), hfr 3 (by decide) (by decide)]
    rfl
  have x1 : nI x ^^^ ((1 : Int32) <<< (nI p &&& 31)) = nI (x ^^^ 2 ^ p) := by rw [iv_shl (by omega), iv_xor]
  have bit := iv_bit (s := x ^^^ 2 ^ p) (k := p) (by omega) (by omega)
  have hbx : (x ^^^ 2 ^ p).testBit p = !x.testBit p := by rw [Nat.testBit_xor, Nat.testBit_two_pow_self, Bool.xor_true]
  generalize hfp : iv_fl σ0 p = L at c2 hl5p hpl
  have y1 : ¬ (nI L < 0 ∨ 6 ≤ L) := iv_ni (by omega) (by omega)
  have y3 : (nI L).toNatClampNeg = L := nI_clamp (by omega)
  have p1 : ¬ (nI p < 0 ∨ 12 ≤ p) := iv_ni (by omega) (by omega)
  have p3 : (nI p).toNatClampNeg = p := nI_clamp (by omega)
  have l1 : ¬ (nI l < 0 ∨ 6 ≤ l) := iv_ni (by omega) (by omega)
  have l3 : (nI l).toNatClampNeg = l := nI_clamp (by omega)
  have o131 : ∀ L u, (ix_up σ 132 L u) 131 p = nI (sh p) := fun L u => by rw [iv_upn (by decide)]; exact hsp
  have fin : ∀ u w, (∀ k, k < 6 → (ix_up (ix_up σ 132 l u) 132 L w) 132 k = nI (iv_sm (iv_ld (iv_fl σ0) sh (iv_he n o) (x ^^^ 2 ^ p) l k) n)) → ∃ best' σ', ((ix_F 112 [.ref 130, .int (nI l), .int (nI (iv_cs br n (x ^^^ 2 ^ p))), .int (nI (x ^^^ 2 ^ p))] (ix_S0 b, ix_up (ix_up σ 132 l u) 132 L w)).bind fun x3 => ix_S 101 4 40 [some (.ref 130), some (.int (nI l)), none, some (.int (nI m)), some (.int (nI (iv_cs br n (x ^^^ 2 ^ p)))), some (.int (nI (x ^^^ 2 ^ p))), some (.int (nI (i + 1))), none, none] [] (ix_S0 b, x3.2.2)) = ix_S 101 4 40 [some (.ref 130), some (.int (nI l)), none, some (.int (nI m)), some (.int (nI (iv_cs br n (x ^^^ 2 ^ p)))), some (.int (nI (x ^^^ 2 ^ p))), some (.int (nI (i + 1))), none, none] [] (ix_S0 b, σ') ∧ iv_wk σ0 sh (iv_cs br n) n (iv_he n o) l (x ^^^ 2 ^ p) best' σ' ∧ iv_nb (iv_cs br n) (fun t => iv_vt (iv_fl σ0) sh (iv_he n o) t l n = nI l) best best' (x ^^^ 2 ^ p) := by
    intro u w hu
    obtain ⟨best', σ', q1, q2, q3⟩ := f_keepC b hC hl5 (σ0 := σ0) (σ := ix_up (ix_up σ 132 l u) 132 L w) (sh := sh) (n := n) (h := iv_he n o) (x := x ^^^ 2 ^ p) (best := best) ⟨hx2, hbt, fun z z1 z2 => (iv_upn z2).trans ((iv_upn z2).trans (hfr z z1 z2)), hu, by rw [iv_upn (by decide), iv_upn (by decide)]; exact h5, by rw [iv_upn (by decide), iv_upn (by decide)]; exact h6⟩
    exact ⟨best', σ', by rw [q1]; rfl, q2, q3⟩
  rw [q_Poll_findCheapest_40, iv_shl (by omega), if_neg (nI_ge hi (by omega)), c1]
  simp only [Option.bind_some, iv_tI]
  rw [x1, bit, p3, l3, if_neg p1, if_neg l1, hsp, hbp, nI_1]
  cases hb : x.testBit p with
  | false =>
    have ecs := iv_cs_x (br := br) hp hb
    rw [iv_Bt (by rw [hbx, hb]; rfl), if_pos rfl, Int32.one_mul, Int32.one_mul, nI_add, ← ecs, if_neg p1, if_neg l1, c2]
    simp only [Option.bind_some, iv_tI]
    rw [y3, if_neg y1, if_neg p1, if_neg y1, o131, Int32.one_mul]
    refine fin _ _ (fun k hk => ?_)
    have hx3 := iv_ld_b (fl := iv_fl σ0) (sh := sh) (l := l) hp hhe hb k
    rw [hfp] at hx3
    show upd (upd (σ 132) l (σ 132 l + nI (sh p))) L (upd (σ 132) l (σ 132 l + nI (sh p)) L - nI (sh p)) k = _
    rw [pk_un hpl]
    by_cases e : L = k
    · subst e
      rw [if_pos rfl, if_neg (fun q => hpl q.symm), Nat.add_zero] at hx3
      rw [pk_us, hlaid L hk, ← hx3, pk_sub (by omega), Nat.add_sub_cancel]
    · rw [if_neg e, Nat.add_zero] at hx3
      rw [pk_un (fun q => e q.symm)]
      by_cases e2 : l = k
      · subst e2
        rw [if_pos rfl] at hx3
        rw [pk_us, hlaid l hk, nI_add, hx3]
      · rw [if_neg e2, Nat.add_zero] at hx3
        rw [pk_un (fun q => e2 q.symm), hlaid k hk, hx3]
  | true =>
    have hb2 : (x ^^^ 2 ^ p).testBit p = false := by rw [hbx, hb]; rfl
    have ecs := iv_cs_x (br := br) hp hb2
    rw [iv_x1] at ecs
    have en : ∀ a : Int32, (-1 : Int32) * a = -a := fun a => (Int32.neg_eq_neg_one_mul a).symm
    have esub : nI (iv_cs br n x) + -(nI (br p)) = nI (iv_cs br n (x ^^^ 2 ^ p)) := by
      rw [← Int32.sub_eq_add_neg, pk_sub (by omega), ecs, Nat.add_sub_cancel]
    rw [iv_Bf (by rw [hbx, hb]; decide), if_neg (by decide), en, en, esub, if_neg p1, if_neg l1, c2]
    simp only [Option.bind_some, iv_tI]
    rw [y3, if_neg y1, if_neg p1, if_neg y1, o131, en, Int32.sub_neg]
    rw [if_neg l1, if_neg p1]
    refine fin _ _ (fun k hk => ?_)
    have hx3 := iv_ld_b (fl := iv_fl σ0) (sh := sh) (l := l) hp hhe hb2 k
    rw [hfp, iv_x1] at hx3
    show upd (upd (σ 132) l (σ 132 l + -(nI (sh p)))) L (upd (σ 132) l (σ 132 l + -(nI (sh p))) L + nI (sh p)) k = _
    rw [pk_un hpl]
    by_cases e : L = k
    · subst e
      rw [if_pos rfl, if_neg (fun q => hpl q.symm), Nat.add_zero] at hx3
      rw [pk_us, hlaid L hk, nI_add, hx3]
    · rw [if_neg e, Nat.add_zero] at hx3
      rw [pk_un (fun q => e q.symm)]
      by_cases e2 : l = k
      · subst e2
        rw [if_pos rfl] at hx3
        rw [pk_us, hlaid l hk, hx3, ← Int32.sub_eq_add_neg, pk_sub (by omega), Nat.add_sub_cancel]
      · rw [if_neg e2, Nat.add_zero] at hx3
        rw [pk_un (fun q => e2 q.symm), hlaid k hk, hx3]
/-- the sets that are met -/
def iv_Bl (q : Nat → Nat) : Nat → Nat → Nat → Prop
  | 0, x, s => s = x
  | m + 1, x, s => iv_Bl q m x s ∨ iv_Bl q m (x ^^^ iv_e q m ^^^ 2 ^ q m) s
theorem iv_Bl_of (q : Nat → Nat) : ∀ m x s, (∀ i, (∀ t, t < m → q t ≠ i) → s.testBit i = x.testBit i) → iv_Bl q m x s
  | 0, x, s, h => Nat.eq_of_testBit_eq (fun i => h i (fun t ht => by omega))
  | m + 1, x, s, h => by
    by_cases e : s.testBit (q m) = x.testBit (q m)
    · refine Or.inl (iv_Bl_of q m x s (fun i hi => ?_))
      by_cases e2 : q m = i
      · rw [← e2]; exact e
      · refine h i (fun t ht => ?_)
        by_cases e3 : t = m
        · rw [e3]; exact e2
        · exact hi t (by omega)
    · refine Or.inr (iv_Bl_of q m _ s (fun i hi => ?_))
      have e4 : (x ^^^ iv_e q m ^^^ 2 ^ q m).testBit i = ((x ^^^ 2 ^ q m).testBit i) := by
        rw [iv_x2, Nat.testBit_xor]
        cases m with
        | zero => show ((x ^^^ 2 ^ q 0).testBit i ^^ Nat.testBit 0 i) = _; rw [Nat.zero_testBit, Bool.xor_false]
        | succ m =>
          show ((x ^^^ 2 ^ q (m + 1)).testBit i ^^ (2 ^ q m).testBit i) = _
          rw [Nat.testBit_two_pow]
          have := hi m (by omega)
          simp only [this, decide_false, Bool.xor_false]
      rw [e4, Nat.testBit_xor, Nat.testBit_two_pow]
      by_cases e2 : q m = i
      · rw [← e2]
        revert e
        cases s.testBit (q m) <;> cases x.testBit (q m) <;> simp
      · simp only [e2, decide_false, Bool.xor_false]
        refine h i (fun t ht => ?_)
        by_cases e3 : t = m
        · rw [e3]; exact e2
        · exact hi t (by omega)
/-- best is no worse than s -/
def iv_cv (C : Nat → Nat) (G : Nat → Prop) (best : Option Nat) (s : Nat) : Prop := G s → ∃ t, best = some t ∧ iv_lx C t s
theorem iv_nb_cv {C : Nat → Nat} {G : Nat → Prop} {best best' : Option Nat} {x : Nat} (h : iv_nb C G best best' x) {s : Nat} (hs : iv_cv C G best s) : iv_cv C G best' s := fun hg => by
  obtain ⟨t, e, hl⟩ := hs hg
  exact h.2.1 s t e hl
theorem f_cs_bl (b : Bool) {σ0 τ : ix_St} {n o l m0 : Nat} {sh br : Nat → Nat} {q : Nat → Nat} {Z : Nat → Prop} (hV : iv_V σ0 τ n o) (hL : iv_L σ0 τ n o sh) (hb9 : ∀ j, br j ≤ 99) (hbr : ∀ j, j < n → σ0 26 j = nI (br j)) (hl5 : l ≤ 5) (hm0 : m0 ≤ 12) (hq : ∀ t, t < m0 → q t < n ∧ ¬ o.testBit (q t) = true ∧ iv_fl σ0 (q t) ≠ l ∧ σ0 133 t = nI (q t)) (hZ : ∀ x t, t < m0 → Z x → Z (x ^^^ 2 ^ q t)) : ∀ m, m ≤ m0 → ∀ i0 x best σ, i0 % 2 ^ m = 0 → i0 + 2 ^ m ≤ 2 ^ m0 → Z x → (∀ t, best = some t → Z t ∧ iv_vt (iv_fl σ0) sh (iv_he n o) t l n = nI l) → iv_wk σ0 sh (iv_cs br n) n (iv_he n o) l x best σ → iv_cv (iv_cs br n) (fun t => iv_vt (iv_fl σ0) sh (iv_he n o) t l n = nI l) best x → ∃ best' σ', ix_S 101 4 40 [some (.ref 130), some (.int (nI l)), none, some (.int (nI m0)), some (.int (nI (iv_cs br n x))), some (.int (nI x)), some (.int (nI (i0 + 1))), none, none] [] (ix_S0 b, σ) = ix_S 101 4 40 [some (.ref 130), some (.int (nI l)), none, some (.int (nI m0)), some (.int (nI (iv_cs br n (x ^^^ iv_e q m)))), some (.int (nI (x ^^^ iv_e q m))), some (.int (nI (i0 + 2 ^ m))), none, none] [] (ix_S0 b, σ') ∧ Z (x ^^^ iv_e q m) ∧ (∀ t, best' = some t → Z t ∧ iv_vt (iv_fl σ0) sh (iv_he n o) t l n = nI l) ∧ iv_wk σ0 sh (iv_cs br n) n (iv_he n o) l (x ^^^ iv_e q m) best' σ' ∧ (∀ s, iv_cv (iv_cs br n) (fun t => iv_vt (iv_fl σ0) sh (iv_he n o) t l n = nI l) best s → iv_cv (iv_cs br n) (fun t => iv_vt (iv_fl σ0) sh (iv_he n o) t l n = nI l) best' s) ∧ ∀ s, iv_Bl q m x s → iv_cv (iv_cs br n) (fun t => iv_vt (iv_fl σ0) sh (iv_he n o) t l n = nI l) best' s := by
  intro m
  induction m with
  | zero =>
    intro _ i0 x best σ _ _ hz hg hW hc
    refine ⟨best, σ, ?_, ?_, hg, ?_, fun s h => h, fun s hs => ?_⟩
    · show _ = ix_S 101 4 40 [some (.ref 130), some (.int (nI l)), none, some (.int (nI m0)), some (.int (nI (iv_cs br n (x ^^^ 0)))), some (.int (nI (x ^^^ 0))), some (.int (nI (i0 + 1))), none, none] [] (ix_S0 b, σ)
      rw [Nat.xor_zero]
    · show Z (x ^^^ 0)
      rw [Nat.xor_zero]; exact hz
    · show iv_wk σ0 sh (iv_cs br n) n (iv_he n o) l (x ^^^ 0) best σ
      rw [Nat.xor_zero]; exact hW
    · have : s = x := hs
      rw [this]; exact hc
  | succ m ih =>
    intro hm i0 x best σ hi0 hle hz hg hW hc
    have e2 : (2 : Nat) ^ (m + 1) = 2 ^ m + 2 ^ m := by rw [Nat.pow_succ]; omega
    have hpos := Nat.two_pow_pos m
    have hd : i0 % 2 ^ m = 0 := by
      have h1 := Nat.mod_mod_of_dvd i0 (Nat.pow_dvd_pow 2 (show m ≤ m + 1 by omega))
      rw [hi0] at h1
      rw [← h1]; exact Nat.zero_mod _
    obtain ⟨best1, σ1, g1, g2, g3, g4, g5, g6⟩ := ih (by omega) i0 x best σ hd (by omega) hz hg hW hc
    have htz : iv_tz (i0 + 2 ^ m) = m := iv_tz_of (by omega) (by
      rw [Nat.add_mod, hi0, Nat.zero_add, Nat.mod_mod, Nat.mod_eq_of_lt (by omega)])
    obtain ⟨q1, q2, q3, q4⟩ := hq m (by omega)
    obtain ⟨best2, σ2, k1, k2, k3⟩ := f_cs_st b hV hL hb9 hbr hl5 hm0 (i := i0 + 2 ^ m) (by omega) (by omega) g4 q1 q2 q3 (by rw [htz]; exact q4)
    have hz2 : Z (x ^^^ iv_e q m ^^^ 2 ^ q m) := hZ _ m (by omega) g2
    have hg2 : ∀ t, best2 = some t → Z t ∧ iv_vt (iv_fl σ0) sh (iv_he n o) t l n = nI l := by
      intro t ht
      rcases k3.1 with e | ⟨e, hgx⟩
      · exact g3 t (by rw [← e]; exact ht)
      · rw [e] at ht
        cases ht
        exact ⟨hz2, hgx⟩
    obtain ⟨best3, σ3, n1, n2, n3, n4, n5, n6⟩ := ih (by omega) (i0 + 2 ^ m) _ best2 σ2 (by rw [Nat.add_mod_right]; exact hd) (by omega) hz2 hg2 k2 k3.2.2
    rw [iv_x3] at n1 n2 n4
    refine ⟨best3, σ3, ?_, n2, n3, n4, fun s hs => n5 s (iv_nb_cv k3 (g5 s hs)), fun s hs => ?_⟩
    · rw [g1, k1, n1, e2, Nat.add_assoc]
      rfl
    · rcases hs with hs | hs
      · exact n5 s (iv_nb_cv k3 (g6 s hs))
      · exact n6 s hs
def iv_st (P : Nat → Bool) : Nat → Nat
  | 0 => 0
  | j + 1 => bif P j then iv_st P j ||| 2 ^ j else iv_st P j
theorem iv_st_lt (P : Nat → Bool) : ∀ j, iv_st P j < 2 ^ j
  | 0 => by show 0 < 1; omega
  | j + 1 => by
    have h : iv_st P j < 2 ^ (j + 1) := Nat.lt_of_lt_of_le (iv_st_lt P j) (Nat.pow_le_pow_right (by omega) (by omega))
    show (bif P j then iv_st P j ||| 2 ^ j else iv_st P j) < _
    cases P j with
    | true => exact Nat.or_lt_two_pow h (Nat.pow_lt_pow_right (by omega) (by omega))
    | false => exact h
theorem iv_st_bit (P : Nat → Bool) : ∀ j i, (iv_st P j).testBit i = (decide (i < j) && P i)
  | 0, i => by show Nat.testBit 0 i = _; rw [Nat.zero_testBit]; simp
  | j + 1, i => by
    have ih := iv_st_bit P j i
    show (bif P j then iv_st P j ||| 2 ^ j else iv_st P j).testBit i = _
    by_cases e : j = i
    · subst e
      cases hP : P j with
      | true =>
        simp only [cond_true]
        rw [Nat.testBit_or, Nat.testBit_two_pow_self, Bool.or_true]
        simp
      | false =>
        simp only [cond_false]
        rw [Nat.testBit_lt_two_pow (iv_st_lt P j), Bool.and_false]
    · cases hP : P j with
      | true =>
        simp only [cond_true]
        rw [Nat.testBit_or, Nat.testBit_two_pow, ih]
        simp only [e, decide_false, Bool.or_false]
        by_cases q : i < j
        · simp [q, show i < j + 1 by omega]
        · simp [q, show ¬ i < j + 1 by omega]
      | false =>
        simp only [cond_false]
        rw [ih]
        by_cases q : i < j
        · simp [q, show i < j + 1 by omega]
        · simp [q, show ¬ i < j + 1 by omega]
theorem iv_li_ex {P : Nat → Bool} {i n : Nat} (hi : i < n) (h : P i = true) : ∃ t, t < (iv_li P n).length ∧ (iv_li P n).getD t 0 = i := by
  obtain ⟨a1, a2⟩ := iv_li_at h
  have := iv_li_pre P (n - (i + 1)) (i + 1) (iv_li P i).length (by omega)
  rw [show i + 1 + (n - (i + 1)) = n by omega] at this
  exact ⟨_, this.1, this.2.trans a2⟩
theorem iv_mi_un {C : Nat → Nat} {G : Nat → Prop} {h s : Nat} {a b : Option Nat} (ha : iv_mi C G h s a) (hb : iv_mi C G h s b) : a = b := by
  cases a with
  | none =>
    cases b with
    | none => rfl
    | some y => exact absurd hb.2.2.1 (ha y hb.1 hb.2.1)
  | some x =>
    cases b with
    | none => exact absurd ha.2.2.1 (hb x ha.1 ha.2.1)
    | some y => rw [iv_lx_an (ha.2.2.2 y hb.1 hb.2.1 hb.2.2.1) (hb.2.2.2 x ha.1 ha.2.1 ha.2.2.1)]
theorem iv_cs_0 (br : Nat → Nat) (n : Nat) : iv_cs br n 0 = 0 := iv_sm_0 n (fun j _ => if_neg (by rw [Nat.zero_testBit]; decide))
theorem f_cheap (b : Bool) {σ τ : ix_St} {n o l : Nat} {sh br : Nat → Nat} (hV : iv_V σ τ n o) (hL : iv_L σ τ n o sh) (hb9 : ∀ j, br j ≤ 99) (hbr : ∀ j, j < n → σ 26 j = nI (br j)) (hl5 : l ≤ 5) : ∃ best σ', ix_F 101 [.ref 130, .int (nI l)] (ix_S0 b, σ) = some (.null, (ix_S0 b, σ')) ∧ σ' 130 5 = iv_c5 (iv_cs br n) best ∧ σ' 130 6 = iv_oi best ∧ iv_mi (iv_cs br n) (fun t => iv_vt (iv_fl σ) sh (iv_he n o) t l n = nI l) (iv_he n o) (iv_he n o + 1) best ∧ ∀ z, z < 130 → σ' z = σ z := by
  have hn := hV.1
  have ho := hV.2.2.2.2.1
  have hh := iv_V_lt hV
  have hp12 := iv_p12 hn
  -- the cells that are asked, as they are set ahead
  obtain ⟨σa, hσa⟩ : ∃ σa, σa = ix_up (ix_up σ 130 5 (-1)) 130 6 (-1) := ⟨_, rfl⟩
  have fa : ∀ z, z ≠ 130 → σa z = σ z := fun z hz => by rw [hσa, iv_upn hz, iv_upn hz]
  have a5 : σa 130 5 = -1 := by rw [hσa]; rfl
  have a6 : σa 130 6 = -1 := by rw [hσa]; rfl
  have hVa : iv_V σa τ n o := iv_V_cong (fa 2 (by decide)) (fa 3 (by decide)) rfl rfl hV
  have hLa : iv_L σa τ n o sh := iv_L_cong (fa 131 (by decide)) rfl hL
  obtain ⟨σb, b1, b2, b3⟩ := f_fill132 b σa 0
  have hVb : iv_V σb τ n o := iv_V_cong (b2 2 (by decide)) (b2 3 (by decide)) rfl rfl hVa
  have hLb : iv_L σb τ n o sh := iv_L_cong (b2 131 (by decide)) rfl hLa
  obtain ⟨σc, c1, c2, c3⟩ := f_layAll b hl5 n 0 σb (by omega) hVb hLb (fun k hk => by rw [b3, if_pos hk]; rfl)
  have hVc : iv_V σc τ n o := iv_V_cong (c2 2 (by decide)) (c2 3 (by decide)) rfl rfl hVb
  have hLc : iv_L σc τ n o sh := iv_L_cong (c2 131 (by decide)) rfl hLb
  have hown : iv_own (iv_fl σb) l n < 4096 := Nat.lt_of_lt_of_le (iv_own_lt _ _ _) hp12
  obtain ⟨σd, d1, d2, d3⟩ := f_listBut b hown hVc hLc
  have hVd : iv_V σd τ n o := iv_V_cong (d2 2 (by decide)) (d2 3 (by decide)) rfl rfl hVc
  have hLd : iv_L σd τ n o sh := iv_L_cong (d2 131 (by decide)) rfl hLc
  have fd : ∀ z, z ≠ 130 → z ≠ 132 → z ≠ 133 → σd z = σ z := fun z z1 z2 z3 => (d2 z z3).trans ((c2 z z2).trans ((b2 z z2).trans (fa z z1)))
  have efl : iv_fl σd = iv_fl σ := by unfold iv_fl; rw [fd 3 (by decide) (by decide) (by decide)]
  have eflb : iv_fl σb = iv_fl σ := by unfold iv_fl; rw [b2 3 (by decide), fa 3 (by decide)]
  have hC : ∀ t, iv_cs br n t < 2 ^ 31 := fun t => by have := iv_cs_le hb9 n t; omega
  have hW : iv_wk σd sh (iv_cs br n) n (iv_he n o) l 0 none σd := ⟨by omega, (fun t e => by cases e), fun _ _ _ => rfl, fun k hk => by rw [d2 132 (by decide), c3 k hk, efl, eflb], by rw [d2 130 (by decide), c2 130 (by decide), b2 130 (by decide), a5]; rfl, by rw [d2 130 (by decide), c2 130 (by decide), b2 130 (by decide), a6]; rfl⟩
  obtain ⟨best1, σe, e1, e2, e3⟩ := f_keepC b hC hl5 hW
  rw [iv_cs_0] at e1
  generalize hP : iv_lp o sh (iv_own (iv_fl σb) l n) = P at d1 d3
  have hPt : ∀ i, i < n → (P i = true ↔ ¬ o.testBit i = true ∧ 0 < sh i ∧ iv_fl σ i ≠ l) := by
    intro i hi
    rw [← hP, iv_lp_t, iv_own_bit _ _ n i hi, eflb]
  generalize hm : (iv_li P n).length = m at d1
  have hmn : m ≤ n := by rw [← hm]; exact iv_li_len _ n
  have hq : ∀ t, t < m → (iv_li P n).getD t 0 < n ∧ ¬ o.testBit ((iv_li P n).getD t 0) = true ∧ iv_fl σd ((iv_li P n).getD t 0) ≠ l ∧ σd 133 t = nI ((iv_li P n).getD t 0) := by
    intro t ht
    obtain ⟨q1, q2⟩ := iv_li_mem P n t (by omega)
    have q3 := (hPt _ q1).mp q2
    exact ⟨q1, q3.1, by rw [efl]; exact q3.2.2, d3 t (by omega)⟩
  have hZ0 : iv_wo 0 (iv_he n o) = 0 := iv_wo_0.mpr (fun i hi => by rw [Nat.zero_testBit] at hi; cases hi)
  obtain ⟨best2, σf, g1, g2, g3, g4, g5, g6⟩ := f_cs_bl b (q := fun t => (iv_li P n).getD t 0) (Z := fun x => iv_wo x (iv_he n o) = 0) hVd hLd hb9 (fun j hj => by rw [fd 26 (by decide) (by decide) (by decide)]; exact hbr j hj) hl5 (show m ≤ 12 by omega) hq (fun x t ht hx => by
    obtain ⟨q1, q2, -⟩ := hq t ht
    refine iv_wo_0.mpr (fun i hi => ?_)
    by_cases e : (iv_li P n).getD t 0 = i
    · rw [e] at q1 q2
      rw [iv_he_bit ho]; simp [q1, q2]
    · rw [Nat.testBit_xor, Nat.testBit_two_pow] at hi
      simp only [e, decide_false, Bool.xor_false] at hi
      exact iv_wo_0.mp hx i hi) m (Nat.le_refl _) 0 0 best1 σe (Nat.zero_mod _) (by omega) hZ0 (fun t ht => by
    rcases e3.1 with e | ⟨e, hg⟩
    · rw [e] at ht; cases ht
    · rw [e] at ht; cases ht; exact ⟨hZ0, hg⟩) e2 e3.2.2
  refine ⟨best2, σf, ?_, g4.2.2.2.2.1, g4.2.2.2.2.2, ?_, fun z hz => (g4.2.2.1 z (by omega) (by omega)).trans (fd z (by omega) (by omega) (by omega))⟩
  · have c1' : ix_S 111 3 12 [some (.ref 130), some (.int (nI l)), some (.int 0), some (.int 0)] [] (ix_S0 b, σb) = _ := c1
    have e1' : ix_F 112 [.ref 130, .int (nI l), .int 0, .int 0] (ix_S0 b, σd) = _ := e1
    rw [iv_cs_0] at g1
    have g1' : ix_S 101 4 40 [some (.ref 130), some (.int (nI l)), none, some (.int (nI m)), some (.int 0), some (.int 0), some (.int 1), none, none] [] (ix_S0 b, σe) = _ := g1
    rw [q_Poll_findCheapest_0, ← hσa, q_Poll_layAll_0, b1]
    simp only [Option.bind_some]
    rw [c1']
    simp only [Option.bind_some, iv_tI]
    rw [d1]
    simp only [Option.bind_some, iv_tI]
    rw [e1']
    simp only [Option.bind_some]
    have h2m : 2 ^ m ≤ 4096 := iv_p12 (show m ≤ 12 by omega)
    rw [g1', q_Poll_findCheapest_40, iv_shl (by omega), Nat.zero_add, if_pos (nI_le (Nat.le_refl _) (by omega))]
  · rw [efl] at g3 g6
    have all : ∀ s, iv_wo s (iv_he n o) = 0 → iv_vt (iv_fl σ) sh (iv_he n o) s l n = nI l → ∃ t, best2 = some t ∧ iv_lx (iv_cs br n) t s := by
      intro s hs hg
      have sub : ∀ i, (s &&& iv_st P n).testBit i = true → s.testBit i = true := fun i hi => by
        rw [Nat.testBit_and] at hi
        exact (Bool.and_eq_true _ _ ▸ hi : _ ∧ _).1
      have hg' : iv_vt (iv_fl σ) sh (iv_he n o) (s &&& iv_st P n) l n = nI l := by
        rw [← hg]
        unfold iv_vt
        refine iv_win_cong (fun k hk => ?_)
        rw [iv_sm_cong n (fun j hj => ?_)]
        unfold iv_ld
        rw [Nat.testBit_and, iv_st_bit]
        simp only [hj, decide_true, Bool.true_and]
        by_cases hP2 : P j = true
        · rw [hP2, Bool.and_true]
        · by_cases hb : (iv_he n o).testBit j = true
          · have hj2 : ¬ o.testBit j = true := by
              rw [iv_he_bit ho] at hb
              simpa [hj] using hb
            rw [Bool.eq_false_iff.mpr hP2, Bool.and_false]
            by_cases h0 : sh j = 0
            · rw [h0, ite_self, ite_self]
            · have hfl : iv_fl σ j = l := by
                by_cases q : iv_fl σ j = l
                · exact q
                · exact absurd ((hPt j hj).mpr ⟨hj2, by omega, q⟩) hP2
              rw [hfl, ite_self, ite_self]
          · rw [if_neg (fun q => hb q.1), if_neg (fun q => hb q.1)]
      have hbl : iv_Bl (fun t => (iv_li P n).getD t 0) m 0 (s &&& iv_st P n) := iv_Bl_of _ m 0 _ (fun i hi => by
        rw [Nat.zero_testBit, Nat.testBit_and, iv_st_bit]
        by_cases hin : i < n
        · by_cases hP2 : P i = true
          · exfalso
            obtain ⟨t, t1, t2⟩ := iv_li_ex hin hP2
            exact hi t (by omega) t2
          · rw [Bool.eq_false_iff.mpr hP2, Bool.and_false, Bool.and_false]
        · simp [hin])
      obtain ⟨t, t1, t2⟩ := g6 _ hbl hg'
      refine ⟨t, t1, iv_lx_tr t2 ?_⟩
      have m1 := iv_cs_mono (br := br) sub n
      have m2 : s &&& iv_st P n ≤ s := Nat.and_le_left
      unfold iv_lx
      omega
    cases best2 with
    | none =>
      intro t ht htw hg
      obtain ⟨q, q1, -⟩ := all t htw hg
      cases q1
    | some q =>
      obtain ⟨q1, q2⟩ := g3 q rfl
      have q3 := iv_sub_le q1
      refine ⟨by omega, q1, q2, fun t ht htw hg => ?_⟩
      obtain ⟨q', e, hl⟩ := all t htw hg
      cases e
      exact hl
theorem s_costs (E : ix_St) (v w : Int32) : iv_S E 28 183 [.int v, .int w] := by
  intro k b c σ τ hk hE hR
  have hK := iv_R_keep iv_kX.rf (iv_kM_told τ 0) hR
  have hR0 := iv_R_told (v := 0) hR
  obtain ⟨n, o, hn, hw, -⟩ := iv_R_told (v := 0) hR
  rw [q_X_costs_0, q_M_costs_0, f_isLand, f_isIn]
  simp only [Option.bind_some, iv_tI]
  by_cases h1 : 1 ≤ v ∧ v ≤ 5
  · rw [if_neg (fun h => iv_B0.mp h h1), if_neg (fun h => iv_B0.mp h h1), f_isIn]
    simp only [Option.bind_some, iv_tI]
    by_cases h2 : 0 ≤ w ∧ w ≤ 1
    · rw [if_neg (iv_nlt.mpr h2.1), if_pos h2.2, if_neg (fun h => iv_B0.mp h h2)]
      obtain ⟨l, l1, l5, rfl⟩ := iv_rng1 (m := 5) (by omega) h1
      obtain ⟨σ1, τ1, sh, e1, e2, hV, hL, e3, e4⟩ := f_poll b c hn hw
      have hh := iv_V_lt hV
      have hbw := hw.2.2.2.2.2.2.2.1
      have hbr0 : ∀ i, i < 12 → ∃ m : Nat, m ≤ 99 ∧ σ1 26 i = nI m ∧ τ1 162 i + 1 = nI m := fun i hi => by
        obtain ⟨h3, m, hm, h4⟩ := hbw i hi
        have h3 : σ 26 i = (ix_up τ 135 0 0) 162 i + 1 := h3
        refine ⟨m, hm, ?_, ?_⟩
        · rw [e3 26 (by decide) (by decide) (by decide)]; exact h4
        · rw [e4 162 (by decide) (by decide) (by decide), ← h3]; exact h4
      have hbr1 : ∃ br : Nat → Nat, (∀ j, br j ≤ 99) ∧ ∀ i, i < 12 → σ1 26 i = nI (br i) ∧ τ1 162 i + 1 = nI (br i) := by
        refine ⟨fun i => if i < 12 then (σ1 26 i).toNatClampNeg else 0, fun j => ?_, fun i hi => ?_⟩
        · show (if j < 12 then (σ1 26 j).toNatClampNeg else 0) ≤ 99
          by_cases hj : j < 12
          · obtain ⟨m, hm, h3, -⟩ := hbr0 j hj
            rw [if_pos hj, h3, nI_clamp (by omega)]; exact hm
          · rw [if_neg hj]; omega
        · obtain ⟨m, hm, h3, h4⟩ := hbr0 i hi
          show σ1 26 i = nI (if i < 12 then (σ1 26 i).toNatClampNeg else 0) ∧ _ = nI (if i < 12 then (σ1 26 i).toNatClampNeg else 0)
          rw [if_pos hi, h3, nI_clamp (by omega)]
          exact ⟨rfl, h4⟩
      obtain ⟨br, hb9, hbr⟩ := hbr1
      obtain ⟨best, σ2, g1, g2, g3, g4, g5⟩ := f_cheap b hV hL hb9 (fun j hj => (hbr j (by omega)).1) l5
      obtain ⟨best', τ2, m1, m2, m3⟩ := f_csM c (σ := σ1) (sh := sh) (br := br) w l5 hb9 (iv_he n o + 1) 0 none τ1 (by omega) hV hL (fun i hi => (hbr i (by omega)).2) (fun t ht => by omega)
      have eb := iv_mi_un g4 m2
      subst eb
      have m1' : ix_S 183 8 42 [some (.ref 135), some (.int (nI l)), some (.int w), some (.int (nI (iv_he n o))), some (.int (-1)), some (.int 0)] [] (ix_S0 c, τ1) = _ := m1
      have hkk := iv_R_keep (iv_kX_p e3 g5) (iv_kM_158 e4 m3) hR0
      rw [e1, e2]
      simp only [Option.bind_some]
      rw [f_hereV c hV, g1]
      simp only [Option.bind_some, iv_tI]
      rw [m1', g2, g3]
      rcases iv_01 h2 with rfl | rfl
      · rw [if_pos rfl]
        refine ⟨iv_c5 (iv_cs br n) best, b, _, _, rfl, ?_, hkk⟩
        cases best with
        | none => rfl
        | some t =>
          show some (Value.int (if (0 : Int32) = 1 then nI t else nI (iv_cs br n t)), _) = _
          rw [if_neg (by decide)]
          rfl
      · rw [if_neg (by decide)]
        refine ⟨iv_oi best, b, _, _, rfl, ?_, hkk⟩
        cases best with
        | none => rfl
        | some t =>
          show some (Value.int (if (1 : Int32) = 1 then nI t else nI (iv_cs br n t)), _) = _
          rw [if_pos rfl]
          rfl
    · rw [if_pos (iv_B0.mpr h2)]
      by_cases h3 : w < 0
      · rw [if_pos h3]
        exact ⟨_, b, _, _, rfl, rfl, hK⟩
      · rw [if_neg h3, if_neg (fun h => h2 ⟨iv_nlt.mp h3, h⟩)]
        exact ⟨_, b, _, _, rfl, rfl, hK⟩
  · rw [if_pos (iv_B0.mpr h1), if_pos (iv_B0.mpr h1)]
    exact ⟨_, b, _, _, rfl, rfl, hK⟩
