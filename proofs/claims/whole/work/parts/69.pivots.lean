/-! whose shells turn it -/
theorem iv_ld_x {fl sh : Nat → Nat} {n x p : Nat} (hp : p < n) (hb : x.testBit p = false) (l : Nat) : iv_sm (iv_ld fl sh (x ^^^ 2 ^ p) 0 0 l) n = iv_sm (iv_ld fl sh x 0 0 l) n + if fl p = l then sh p else 0 := by
  have hat := iv_sm_at (f := iv_ld fl sh (x ^^^ 2 ^ p) 0 0 l) (g := iv_ld fl sh x 0 0 l) (p := p) n hp (fun j hj hne => by
    unfold iv_ld
    rw [Nat.testBit_xor, Nat.testBit_two_pow]
    simp only [Ne.symm hne, decide_false, Bool.xor_false])
  have e1 : iv_ld fl sh x 0 0 l p = 0 := by
    unfold iv_ld
    rw [if_neg (fun q => by have := q.1; rw [hb] at this; cases this)]
  have e2 : iv_ld fl sh (x ^^^ 2 ^ p) 0 0 l p = if fl p = l then sh p else 0 := by
    unfold iv_ld
    rw [Nat.testBit_xor, Nat.testBit_two_pow_self, hb, Nat.zero_testBit]
    by_cases e : fl p = l
    · rw [if_pos e, if_pos ⟨rfl, by rw [if_neg (by decide)]; exact e⟩]
    · rw [if_neg e, if_neg (fun q => ?_)]
      have q2 := q.2
      rw [if_neg (by decide)] at q2
      exact e q2
  omega
/-- whether a set votes otherwise if one more of land w with k shells comes -/
def iv_dw (fl sh : Nat → Nat) (n w k x : Nat) : Nat := if iv_win (fun l => nI (iv_sm (iv_ld fl sh x 0 0 l) n)) = iv_win (fun l => nI (iv_sm (iv_ld fl sh x 0 0 l) n + if w = l then k else 0)) then 0 else 1
theorem iv_dw_1 (fl sh : Nat → Nat) (n w k x : Nat) : iv_dw fl sh n w k x ≤ 1 := by
  unfold iv_dw
  by_cases h : iv_win (fun l => nI (iv_sm (iv_ld fl sh x 0 0 l) n)) = iv_win (fun l => nI (iv_sm (iv_ld fl sh x 0 0 l) n + if w = l then k else 0))
  · rw [if_pos h]; omega
  · rw [if_neg h]; omega
theorem iv_dw_idl {fl sh : Nat → Nat} {n w k p : Nat} (hp : p < n) (h0 : sh p = 0) (x : Nat) : iv_dw fl sh n w k (x ^^^ 2 ^ p) = iv_dw fl sh n w k x := by
  have e : ∀ l, iv_sm (iv_ld fl sh (x ^^^ 2 ^ p) 0 0 l) n = iv_sm (iv_ld fl sh x 0 0 l) n := by
    intro l
    cases hb : x.testBit p with
    | false =>
      rw [iv_ld_x hp hb, h0]
      by_cases e : fl p = l
      · rw [if_pos e]; rfl
      · rw [if_neg e]; rfl
    | true =>
      have hb2 : (x ^^^ 2 ^ p).testBit p = false := by rw [Nat.testBit_xor, Nat.testBit_two_pow_self, hb]; rfl
      have := iv_ld_x (fl := fl) (sh := sh) hp hb2 l
      rw [iv_x1, h0] at this
      rw [this]
      by_cases e : fl p = l
      · rw [if_pos e]; rfl
      · rw [if_neg e]; rfl
  unfold iv_dw
  simp only [e]
theorem iv_dw_0 (fl sh : Nat → Nat) (n w x : Nat) : iv_dw fl sh n w 0 x = 0 := by
  unfold iv_dw
  rw [if_pos]
  simp only [ite_self, Nat.add_zero]
theorem iv_up_id {σ : ix_St} {c i : Nat} {u : Int32} : ix_up (ix_up σ c i u) c i (σ c i) = σ := by
  funext z j
  show (if z = c then upd ((if c = c then upd (σ c) i u else σ c)) i (σ c i) else (if z = c then upd (σ c) i u else σ z)) j = σ z j
  by_cases h : z = c
  · subst h
    rw [if_pos rfl, if_pos rfl]
    by_cases h2 : j = i
    · subst h2; rw [pk_us]
    · rw [pk_un h2, pk_un h2]
  · rw [if_neg h, if_neg h]
theorem f_tb (b : Bool) {σ : ix_St} {A : Nat → Nat} {w k : Nat} (hA : ∀ l, l < 6 → σ 132 l = nI (A l)) (hw : w ≤ 5) : ix_F 105 [.ref 130, .int (nI w), .int (nI k)] (ix_S0 b, σ) = some (.int (nI (if iv_win (fun l => nI (A l)) = iv_win (fun l => nI (A l + if w = l then k else 0)) then 0 else 1)), (ix_S0 b, σ)) := by
  have y1 : ¬ (nI w < 0 ∨ 6 ≤ w) := iv_ni (by omega) (by omega)
  have y3 : (nI w).toNatClampNeg = w := nI_clamp (by omega)
  have w1 : iv_win (σ 132) = iv_win (fun l => nI (A l)) := iv_win_cong hA
  have w2 : iv_win ((ix_up σ 132 w (σ 132 w + nI k)) 132) = iv_win (fun l => nI (A l + if w = l then k else 0)) := iv_win_cong (fun l hl => by
    show upd (σ 132) w (σ 132 w + nI k) l = _
    by_cases e : w = l
    · subst e
      rw [pk_us, hA w hl, nI_add, if_pos rfl]
    · rw [pk_un (fun q => e q.symm), hA l hl, if_neg e]
      rfl)
  have e3 : (ix_up σ 132 w (σ 132 w + nI k)) 132 w - nI k = σ 132 w := by
    show upd (σ 132) w (σ 132 w + nI k) w - nI k = _
    rw [pk_us, Int32.add_sub_cancel]
  rw [q_Poll_turnsBank_0, f_winX132, w1, y3]
  simp only [Option.bind_some, iv_tI]
  rw [if_neg y1, if_neg y1, f_winX132, w2]
  simp only [Option.bind_some, iv_tI]
  rw [if_neg y1, if_neg y1, e3, iv_up_id]
  by_cases h : iv_win (fun l => nI (A l)) = iv_win (fun l => nI (A l + if w = l then k else 0))
  · rw [if_pos h, if_pos h]; rfl
  · rw [if_neg h, if_neg h]; rfl
/-- what holds while the sets are walked -/
def iv_pi (σ0 : ix_St) (fl sh : Nat → Nat) (n who x : Nat) (σ : ix_St) : Prop := x < 4096 ∧ x.testBit who = false ∧ (∀ z, z ≠ 132 → σ z = σ0 z) ∧ ∀ l, l < 6 → σ 132 l = nI (iv_sm (iv_ld fl sh x 0 0 l) n)
theorem f_pv_st (b : Bool) {σ0 σ τ : ix_St} {n o who x i m : Nat} {sh : Nat → Nat} (v3 : Int32) (k : Nat) (hV : iv_V σ0 τ n o) (hL : iv_L σ0 τ n o sh) (hwho : who < n) (hwo : ¬ o.testBit who = true) (hm : m ≤ 12) (h0 : i ≠ 0) (hi : i < 2 ^ m) (hI : iv_pi σ0 (iv_fl σ0) sh n who x σ) {p : Nat} (hp : p < n) (hpo : ¬ o.testBit p = true) (hpw : p ≠ who) (hq : σ0 133 (iv_tz i) = nI p) : ∃ σ', ix_S 90 3 80 [some (.ref 130), some (.int (nI who)), some (.int (nI m)), some (.int v3), some (.int (nI (iv_fl σ0 who))), some (.int (nI k)), some (.int (nI x)), some (.int (nI i)), none] [] (ix_S0 b, σ) = ix_S 90 3 80 [some (.ref 130), some (.int (nI who)), some (.int (nI m)), some (.int v3), some (.int (nI (iv_fl σ0 who))), some (.int (nI (k + iv_dw (iv_fl σ0) sh n (iv_fl σ0 who) (sh who) (x ^^^ 2 ^ p)))), some (.int (nI (x ^^^ 2 ^ p))), some (.int (nI (i + 1))), none] [] (ix_S0 b, σ') ∧ iv_pi σ0 (iv_fl σ0) sh n who (x ^^^ 2 ^ p) σ' := by
  obtain ⟨hx, hxw, hfr, hlaid⟩ := hI
  have hn := hV.1
  have h12 : 2 ^ m ≤ 4096 := Nat.pow_le_pow_right (n := 2) (by omega) hm
  have hVσ : iv_V σ τ n o := iv_V_cong (hfr 2 (by decide)) (hfr 3 (by decide)) rfl rfl hV
  have hp2 : 2 ^ p < 4096 := Nat.pow_lt_pow_right (n := 12) (by omega) (by omega)
  have hx2 : x ^^^ 2 ^ p < 4096 := Nat.xor_lt_two_pow (n := 12) hx hp2
  have c1 : ix_F 106 [.ref 130, .int (nI i)] (ix_S0 b, σ) = some (.int (nI p), (ix_S0 b, σ)) := by
    rw [f_chg b σ h0 (by omega), hfr 133 (by decide), hq]
  have c2 : ix_F 103 [.ref 130, .int (nI p)] (ix_S0 b, σ) = some (.int (nI (iv_fl σ0 p)), (ix_S0 b, σ)) := by
    rw [f_flX b hVσ hp, hfr 3 (by decide)]
    rfl
  have hd := iv_V_d hV hp
  have hdw := iv_V_d hV hwho
  have hl5 : iv_fl σ0 p ≤ 5 := hd.2
  have hw5 : iv_fl σ0 who ≤ 5 := hdw.2
  have hsp : σ 131 p = nI (sh p) := by rw [hfr 131 (by decide), (hL.2 p hp).1, if_neg hpo]
  have hsw : σ 131 who = nI (sh who) := by rw [hfr 131 (by decide), (hL.2 who hwho).1, if_neg hwo]
  have x1 : nI x ^^^ ((1 : Int32) <<< (nI p &&& 31)) = nI (x ^^^ 2 ^ p) := by rw [iv_shl (by omega), iv_xor]
  have bit := iv_bit (s := x ^^^ 2 ^ p) (k := p) (by omega) (by omega)
  have hbx : (x ^^^ 2 ^ p).testBit p = !x.testBit p := by rw [Nat.testBit_xor, Nat.testBit_two_pow_self, Bool.xor_true]
  generalize hfp : iv_fl σ0 p = L at c2 hl5
  have y1 : ¬ (nI L < 0 ∨ 6 ≤ L) := iv_ni (by omega) (by omega)
  have y3 : (nI L).toNatClampNeg = L := nI_clamp (by omega)
  have p1 : ¬ (nI p < 0 ∨ 12 ≤ p) := iv_ni (by omega) (by omega)
  have p3 : (nI p).toNatClampNeg = p := nI_clamp (by omega)
  have w1 : ¬ (nI who < 0 ∨ 12 ≤ who) := iv_ni (by omega) (by omega)
  have w3 : (nI who).toNatClampNeg = who := nI_clamp (by omega)
  have inv : ∀ u, (∀ l, l < 6 → upd (σ 132) L u l = nI (iv_sm (iv_ld (iv_fl σ0) sh (x ^^^ 2 ^ p) 0 0 l) n)) → iv_pi σ0 (iv_fl σ0) sh n who (x ^^^ 2 ^ p) (ix_up σ 132 L u) := by
    intro u hu
    refine ⟨hx2, ?_, fun z hz => (iv_upn hz).trans (hfr z hz), hu⟩
    rw [Nat.testBit_xor, Nat.testBit_two_pow, hxw]
    simp [hpw]
  have fin : ∀ u, (∀ l, l < 6 → upd (σ 132) L u l = nI (iv_sm (iv_ld (iv_fl σ0) sh (x ^^^ 2 ^ p) 0 0 l) n)) → ((ix_F 105 [.ref 130, .int (nI (iv_fl σ0 who)), .int (nI (sh who))] (ix_S0 b, ix_up σ 132 L u)).bind fun x3 => (if (ix_toI x3.1) = 0 then ix_S 90 3 80 [some (.ref 130), some (.int (nI who)), some (.int (nI m)), some (.int v3), some (.int (nI (iv_fl σ0 who))), some (.int (nI k + (0 : Int32))), some (.int (nI (x ^^^ 2 ^ p))), some (.int (nI (i + 1))), none] [] (ix_S0 b, x3.2.2) else ix_S 90 3 80 [some (.ref 130), some (.int (nI who)), some (.int (nI m)), some (.int v3), some (.int (nI (iv_fl σ0 who))), some (.int (nI k + (1 : Int32))), some (.int (nI (x ^^^ 2 ^ p))), some (.int (nI (i + 1))), none] [] (ix_S0 b, x3.2.2))) = ix_S 90 3 80 [some (.ref 130), some (.int (nI who)), some (.int (nI m)), some (.int v3), some (.int (nI (iv_fl σ0 who))), some (.int (nI (k + iv_dw (iv_fl σ0) sh n (iv_fl σ0 who) (sh who) (x ^^^ 2 ^ p)))), some (.int (nI (x ^^^ 2 ^ p))), some (.int (nI (i + 1))), none] [] (ix_S0 b, ix_up σ 132 L u) := by
    intro u hu
    rw [f_tb b (A := fun l => iv_sm (iv_ld (iv_fl σ0) sh (x ^^^ 2 ^ p) 0 0 l) n) hu hw5]
    simp only [Option.bind_some, iv_tI]
    unfold iv_dw
    by_cases h : iv_win (fun l => nI (iv_sm (iv_ld (iv_fl σ0) sh (x ^^^ 2 ^ p) 0 0 l) n)) = iv_win (fun l => nI (iv_sm (iv_ld (iv_fl σ0) sh (x ^^^ 2 ^ p) 0 0 l) n + if iv_fl σ0 who = l then sh who else 0))
    · rw [if_pos h, if_pos (show nI 0 = 0 from rfl), Int32.add_zero]
      rfl
    · rw [if_neg h, if_neg (show ¬ nI 1 = 0 by decide), nI_1]
  rw [q_Poll_timesTurned_80, iv_shl (by omega), if_neg (nI_ge hi (by omega)), c1]
  simp only [Option.bind_some, iv_tI]
  rw [c2]
  simp only [Option.bind_some, iv_tI]
  rw [x1, bit, y3, if_neg y1, p3, w3, hsp, hsw, nI_1]
  cases hb : x.testBit p with
  | false =>
    rw [iv_Bt (by rw [hbx, hb]; rfl), if_pos rfl, if_neg p1, if_neg y1, if_neg w1]
    have hu : ∀ l, l < 6 → upd (σ 132) L (σ 132 L + nI (sh p)) l = nI (iv_sm (iv_ld (iv_fl σ0) sh (x ^^^ 2 ^ p) 0 0 l) n) := by
      intro l hl
      rw [iv_ld_x hp hb, hfp]
      by_cases e : L = l
      · rw [← e, pk_us, hlaid L (by omega), nI_add, if_pos rfl]
      · rw [pk_un (fun q => e q.symm), hlaid l hl, if_neg e]; rfl
    exact ⟨_, fin _ hu, inv _ hu⟩
  | true =>
    rw [iv_Bf (by rw [hbx, hb]; decide), if_neg (by decide), if_neg p1, if_neg y1, if_neg w1]
    have hb2 : (x ^^^ 2 ^ p).testBit p = false := by rw [hbx, hb]; rfl
    have hu : ∀ l, l < 6 → upd (σ 132) L (σ 132 L + -(nI (sh p))) l = nI (iv_sm (iv_ld (iv_fl σ0) sh (x ^^^ 2 ^ p) 0 0 l) n) := by
      intro l hl
      have hx3 := iv_ld_x (fl := iv_fl σ0) (sh := sh) hp hb2 l
      rw [iv_x1, hfp] at hx3
      by_cases e : L = l
      · rw [if_pos e] at hx3
        rw [e, pk_us, hlaid l hl, hx3, ← Int32.sub_eq_add_neg, pk_sub (by omega), Nat.add_sub_cancel]
      · rw [if_neg e] at hx3
        rw [pk_un (fun q => e q.symm), hlaid l hl, hx3]; rfl
    exact ⟨_, fin _ hu, inv _ hu⟩
theorem f_pv_bl (b : Bool) {σ0 τ : ix_St} {n o who m0 : Nat} {sh : Nat → Nat} {q : Nat → Nat} (v3 : Int32) (hV : iv_V σ0 τ n o) (hL : iv_L σ0 τ n o sh) (hwho : who < n) (hwo : ¬ o.testBit who = true) (hm0 : m0 ≤ 12) (hq : ∀ t, t < m0 → q t < n ∧ ¬ o.testBit (q t) = true ∧ q t ≠ who ∧ σ0 133 t = nI (q t)) : ∀ m, m ≤ m0 → ∀ i0 k x σ, i0 % 2 ^ m = 0 → i0 + 2 ^ m ≤ 2 ^ m0 → iv_pi σ0 (iv_fl σ0) sh n who x σ → ∃ σ', ix_S 90 3 80 [some (.ref 130), some (.int (nI who)), some (.int (nI m0)), some (.int v3), some (.int (nI (iv_fl σ0 who))), some (.int (nI k)), some (.int (nI x)), some (.int (nI (i0 + 1))), none] [] (ix_S0 b, σ) = ix_S 90 3 80 [some (.ref 130), some (.int (nI who)), some (.int (nI m0)), some (.int v3), some (.int (nI (iv_fl σ0 who))), some (.int (nI (k + iv_vs (iv_dw (iv_fl σ0) sh n (iv_fl σ0 who) (sh who)) q m x))), some (.int (nI (x ^^^ iv_e q m))), some (.int (nI (i0 + 2 ^ m))), none] [] (ix_S0 b, σ') ∧ iv_pi σ0 (iv_fl σ0) sh n who (x ^^^ iv_e q m) σ' := by
  intro m
  induction m with
  | zero =>
    intro _ i0 k x σ _ _ hI
    refine ⟨σ, ?_, ?_⟩
    · show _ = ix_S 90 3 80 [some (.ref 130), some (.int (nI who)), some (.int (nI m0)), some (.int v3), some (.int (nI (iv_fl σ0 who))), some (.int (nI (k + 0))), some (.int (nI (x ^^^ 0))), some (.int (nI (i0 + 1))), none] [] (ix_S0 b, σ)
      rw [Nat.xor_zero]
      rfl
    · show iv_pi σ0 (iv_fl σ0) sh n who (x ^^^ 0) σ
      rw [Nat.xor_zero]; exact hI
  | succ m ih =>
    intro hm i0 k x σ hi0 hle hI
    have e2 : (2 : Nat) ^ (m + 1) = 2 ^ m + 2 ^ m := by rw [Nat.pow_succ]; omega
    have hpos := Nat.two_pow_pos m
    have hd : i0 % 2 ^ m = 0 := by
      have h1 := Nat.mod_mod_of_dvd i0 (Nat.pow_dvd_pow 2 (show m ≤ m + 1 by omega))
      rw [hi0] at h1
      rw [← h1]; exact Nat.zero_mod _
    obtain ⟨σ1, g1, g2⟩ := ih (by omega) i0 k x σ hd (by omega) hI
    have htz : iv_tz (i0 + 2 ^ m) = m := iv_tz_of (by omega) (by
      rw [Nat.add_mod, hi0, Nat.zero_add, Nat.mod_mod, Nat.mod_eq_of_lt (by omega)])
    obtain ⟨q1, q2, q3, q4⟩ := hq m (by omega)
    obtain ⟨σ2, g3, g4⟩ := f_pv_st b v3 (k + iv_vs (iv_dw (iv_fl σ0) sh n (iv_fl σ0 who) (sh who)) q m x) hV hL hwho hwo hm0 (i := i0 + 2 ^ m) (by omega) (by omega) g2 q1 q2 q3 (by rw [htz]; exact q4)
    obtain ⟨σ3, g5, g6⟩ := ih (by omega) (i0 + 2 ^ m) _ _ σ2 (by rw [Nat.add_mod_right]; exact hd) (by omega) g4
    refine ⟨σ3, ?_, ?_⟩
    · rw [g1, g3, g5, iv_x3, e2, Nat.add_assoc, Nat.add_assoc, Nat.add_assoc]
      rfl
    · rw [iv_x3] at g6
      exact g6
theorem iv_T_le {D : Nat → Nat} (h : ∀ x, D x ≤ 1) (P : Nat → Bool) : ∀ j x, iv_T D P j x ≤ 2 ^ j
  | 0, x => h x
  | j + 1, x => by
    have h1 := iv_T_le h P j x
    have h2 := iv_T_le h P j (x ^^^ 2 ^ j)
    show (bif P j then iv_T D P j x + iv_T D P j (x ^^^ 2 ^ j) else iv_T D P j x) ≤ 2 ^ (j + 1)
    rw [Nat.pow_succ]
    cases P j with
    | true => simp only [cond_true]; omega
    | false => simp only [cond_false]; omega
theorem iv_as_z {D : Nat → Nat} (h : Nat) (hz : ∀ x, D x = 0) : ∀ d s, iv_as D h s d = 0
  | 0, _ => rfl
  | d + 1, s => by
    show (if iv_wo s h = 0 then D s else 0) + iv_as D h (s + 1) d = 0
    rw [iv_as_z h hz d (s + 1), hz, ite_self]
theorem iv_cn_len (P : Nat → Bool) : ∀ j, (iv_li P j).length = iv_cn P j
  | 0 => rfl
  | j + 1 => by
    show (bif P j then iv_li P j ++ [j] else iv_li P j).length = bif P j then iv_cn P j + 1 else iv_cn P j
    rw [← iv_cn_len P j]
    cases P j with
    | true => simp only [cond_true, List.length_append, List.length_cons, List.length_nil]
    | false => rfl
theorem iv_cn_add {P Q : Nat → Bool} : ∀ j, (∀ i, i < j → P i = true → Q i = true) → iv_cn Q j = iv_cn P j + iv_cn (fun i => Q i && !P i) j
  | 0, _ => rfl
  | j + 1, h => by
    have ih := iv_cn_add j (fun i hi => h i (by omega))
    show (bif Q j then iv_cn Q j + 1 else iv_cn Q j) = (bif P j then iv_cn P j + 1 else iv_cn P j) + (bif Q j && !P j then iv_cn (fun i => Q i && !P i) j + 1 else iv_cn (fun i => Q i && !P i) j)
    cases hP : P j with
    | true =>
      rw [h j (by omega) hP]
      simp only [cond_true, Bool.not_true, Bool.and_false, cond_false]
      omega
    | false =>
      cases Q j with
      | true => simp only [cond_true, Bool.not_false, Bool.and_true, cond_false]; omega
      | false => simp only [Bool.false_and, cond_false]; omega
theorem iv_cn_one {H Q : Nat → Bool} {w : Nat} (hw : H w = true) (hq : Q w = false) : ∀ j, (∀ i, i < j → i ≠ w → Q i = H i) → iv_cn H j = iv_cn Q j + if w < j then 1 else 0
  | 0, _ => rfl
  | j + 1, h => by
    have ih := iv_cn_one hw hq j (fun i hi => h i (by omega))
    show (bif H j then iv_cn H j + 1 else iv_cn H j) = (bif Q j then iv_cn Q j + 1 else iv_cn Q j) + _
    by_cases e : j = w
    · subst e
      rw [hw, hq]
      simp only [cond_true, cond_false]
      rw [if_neg (by omega)] at ih
      rw [if_pos (by omega)]
      omega
    · rw [h j (by omega) e]
      by_cases e2 : w < j
      · rw [if_pos e2] at ih
        rw [if_pos (by omega)]
        cases H j with
        | true => simp only [cond_true]; omega
        | false => simp only [cond_false]; omega
      · rw [if_neg e2] at ih
        rw [if_neg (by omega)]
        cases H j with
        | true => simp only [cond_true]; omega
        | false => simp only [cond_false]; omega
theorem iv_pc_cn (s : Nat) : ∀ k, iv_pc k s = iv_cn (fun i => s.testBit i) k
  | 0 => rfl
  | k + 1 => by
    show iv_pc k s + (if s.testBit k then 1 else 0) = bif s.testBit k then iv_cn (fun i => s.testBit i) k + 1 else iv_cn (fun i => s.testBit i) k
    rw [iv_pc_cn s k]
    cases s.testBit k <;> rfl
theorem iv_pc_n {s n : Nat} (hs : s < 2 ^ n) : ∀ d, iv_pc (n + d) s = iv_pc n s
  | 0 => rfl
  | d + 1 => by
    show iv_pc (n + d) s + (if s.testBit (n + d) then 1 else 0) = _
    have h : s < 2 ^ (n + d) := Nat.lt_of_lt_of_le hs (Nat.pow_le_pow_right (by omega) (by omega))
    rw [iv_pc_n hs d, Nat.testBit_lt_two_pow h]
    rfl
/-- those others that are here -/
theorem iv_ot_bit {n o who i : Nat} (ho : o < 2 ^ n) : (iv_wo (iv_he n o) (2 ^ who)).testBit i = (decide (i < n) && !o.testBit i && !decide (who = i)) := by
  rw [iv_wo_bit, iv_he_bit ho, Nat.testBit_two_pow]
theorem iv_or_x {s w : Nat} (h : s.testBit w = false) : s ||| 2 ^ w = s ^^^ 2 ^ w := by
  refine Nat.eq_of_testBit_eq (fun i => ?_)
  rw [Nat.testBit_or, Nat.testBit_xor, Nat.testBit_two_pow]
  by_cases e : w = i
  · subst e; rw [h]; simp
  · simp [e]
theorem f_pvM (c : Bool) {σ : ix_St} {n o who : Nat} {sh : Nat → Nat} (hwho : who < n) : ∀ d s k τ, s + d = 2 ^ n → iv_V σ τ n o → iv_L σ τ n o sh → ∃ τ', ix_S 173 8 48 [some (.ref 135), some (.int (nI who)), some (.int (nI (iv_wo (iv_he n o) (2 ^ who)))), some (.int (nI k)), some (.int (nI s))] [] (ix_S0 c, τ) = some (.int (nI (k + iv_as (iv_dw (iv_fl σ) sh n (iv_fl σ who) (sh who)) (iv_wo (iv_he n o) (2 ^ who)) s d)), (ix_S0 c, τ')) ∧ ∀ z, z ≠ 158 → τ' z = τ z := by
  intro d
  induction d with
  | zero =>
    intro s k τ hs hV hL
    have hp12 := iv_p12 hV.1
    have hlt : iv_wo (iv_he n o) (2 ^ who) < 2 ^ n := iv_wo_lt (iv_he_lt hV.2.2.2.2.1)
    refine ⟨τ, ?_, fun _ _ => rfl⟩
    rw [q_M_pivots_48, if_pos (nI_lt (by omega) (by omega))]
    rfl
  | succ d ih =>
    intro s k τ hs hV hL
    have hp12 := iv_p12 hV.1
    have hn := hV.1
    have hlt : iv_wo (iv_he n o) (2 ^ who) < 2 ^ n := iv_wo_lt (iv_he_lt hV.2.2.2.2.1)
    have hwl : iv_wo s (iv_wo (iv_he n o) (2 ^ who)) < 4096 := iv_wo_lt (n := 12) (by omega)
    by_cases hgt : iv_wo (iv_he n o) (2 ^ who) < s
    · refine ⟨τ, ?_, fun _ _ => rfl⟩
      rw [q_M_pivots_48, if_pos (nI_lt hgt (by omega)), iv_as_0 _ _ _ _ hgt, Nat.add_zero]
    · have k0 : ¬ nI (iv_wo (iv_he n o) (2 ^ who)) < nI s := nI_nlt (by omega) (by omega)
      rw [q_M_pivots_48, if_neg k0, iv_wo_I, nI_1]
      show ∃ τ', _ = some (Value.int (nI (k + ((if iv_wo s (iv_wo (iv_he n o) (2 ^ who)) = 0 then iv_dw (iv_fl σ) sh n (iv_fl σ who) (sh who) s else 0) + iv_as (iv_dw (iv_fl σ) sh n (iv_fl σ who) (sh who)) (iv_wo (iv_he n o) (2 ^ who)) (s + 1) d))), (ix_S0 c, τ')) ∧ _
      by_cases hw : iv_wo s (iv_wo (iv_he n o) (2 ^ who)) = 0
      · have hsw : s.testBit who = false := by
          cases hb : s.testBit who with
          | false => rfl
          | true =>
            have := iv_wo_0.mp hw who hb
            rw [iv_ot_bit hV.2.2.2.2.1] at this
            simp at this
        have hp2 : 2 ^ who < 4096 := Nat.pow_lt_pow_right (n := 12) (by omega) (by omega)
        have hs2 : s ^^^ 2 ^ who < 4096 := Nat.xor_lt_two_pow (n := 12) (by omega) hp2
        obtain ⟨τ1, e1, e2⟩ := f_vo c (s := s) (t := 0) (L := 0) (by omega) (by omega) (by omega) hV hL
        have e1' : ix_F 211 [.ref 135, .int (nI s), .int 0, .int 0] (ix_S0 c, τ) = _ := e1
        have hV1 : iv_V σ τ1 n o := iv_V_cong rfl rfl (by rw [e2 135 (by decide)]) (e2 136 (by decide)) hV
        have hL1 : iv_L σ τ1 n o sh := iv_L_cong rfl (e2 159 (by decide)) hL
        obtain ⟨τ2, e3, e4⟩ := f_vo c (s := s ^^^ 2 ^ who) (t := 0) (L := 0) hs2 (by omega) (by omega) hV1 hL1
        have e3' : ix_F 211 [.ref 135, .int (nI (s ^^^ 2 ^ who)), .int 0, .int 0] (ix_S0 c, τ1) = _ := e3
        have hV2 : iv_V σ τ2 n o := iv_V_cong rfl rfl (by rw [e4 135 (by decide)]) (e4 136 (by decide)) hV1
        have hL2 : iv_L σ τ2 n o sh := iv_L_cong rfl (e4 159 (by decide)) hL1
        have hvt : iv_vt (iv_fl σ) sh (s ^^^ 2 ^ who) 0 0 n = iv_win (fun l => nI (iv_sm (iv_ld (iv_fl σ) sh s 0 0 l) n + if iv_fl σ who = l then sh who else 0)) := by
          unfold iv_vt
          exact iv_win_cong (fun l _ => by rw [iv_ld_x hwho hsw])
        have hfr : ∀ z, z ≠ 158 → τ2 z = τ z := fun z hz => (e4 z hz).trans (e2 z hz)
        rw [hw, if_pos (show nI 0 = 0 from rfl), if_pos rfl, e1', iv_shl (by omega), iv_or, iv_or_x hsw]
        simp only [Option.bind_some, iv_tI]
        rw [e3']
        simp only [Option.bind_some, iv_tI]
        rw [hvt]
        unfold iv_vt
        by_cases h : iv_win (fun l => nI (iv_sm (iv_ld (iv_fl σ) sh s 0 0 l) n)) = iv_win (fun l => nI (iv_sm (iv_ld (iv_fl σ) sh s 0 0 l) n + if iv_fl σ who = l then sh who else 0))
        · obtain ⟨τ', p1, p2⟩ := ih (s + 1) k τ2 (by omega) hV2 hL2
          refine ⟨τ', ?_, fun z hz => (p2 z hz).trans (hfr z hz)⟩
          rw [if_pos h, p1, show iv_dw (iv_fl σ) sh n (iv_fl σ who) (sh who) s = 0 from if_pos h, Nat.zero_add]
        · obtain ⟨τ', p1, p2⟩ := ih (s + 1) (k + 1) τ2 (by omega) hV2 hL2
          refine ⟨τ', ?_, fun z hz => (p2 z hz).trans (hfr z hz)⟩
          rw [if_neg h, nI_1, p1, show iv_dw (iv_fl σ) sh n (iv_fl σ who) (sh who) s = 1 from if_neg h, Nat.add_assoc]
      · obtain ⟨τ', p1, p2⟩ := ih (s + 1) k τ (by omega) hV hL
        refine ⟨τ', ?_, p2⟩
        rw [if_neg (nI_ne0 (by omega) (by omega)), if_neg hw, p1, Nat.zero_add]
theorem f_times (b : Bool) {σ τ : ix_St} {n o who : Nat} {sh : Nat → Nat} (hV : iv_V σ τ n o) (hL : iv_L σ τ n o sh) (hwho : who < n) (hwo : ¬ o.testBit who = true) : ∃ σ', ix_F 90 [.ref 130, .int (nI who)] (ix_S0 b, σ) = some (.int (nI (iv_as (iv_dw (iv_fl σ) sh n (iv_fl σ who) (sh who)) (iv_wo (iv_he n o) (2 ^ who)) 0 (2 ^ n))), (ix_S0 b, σ')) ∧ ∀ z, z < 130 → σ' z = σ z := by
  obtain ⟨hn, h6, h7, -, ho, -⟩ := id hV
  have hsw : σ 131 who = nI (sh who) := by rw [(hL.2 who hwho).1, if_neg hwo]
  have h9 := hL.1 who
  rw [q_Poll_timesTurned_0, if_neg (nI_in (by omega) (by omega)), nI_clamp (by omega), hsw]
  by_cases h0 : sh who = 0
  · rw [h0, if_pos (show nI 0 = 0 from rfl), iv_as_z _ (fun x => iv_dw_0 _ _ _ _ _)]
    exact ⟨σ, rfl, fun _ _ => rfl⟩
  · rw [if_neg (nI_ne0 (by omega) (by omega)), iv_shl (by omega)]
    have hp2 : 2 ^ who < 4096 := Nat.pow_lt_pow_right (n := 12) (by omega) (by omega)
    obtain ⟨σ1, e1, e2, e3⟩ := f_listBut b hp2 hV hL
    have hV1 : iv_V σ1 τ n o := iv_V_cong (e2 2 (by decide)) (e2 3 (by decide)) rfl rfl hV
    have hL1 : iv_L σ1 τ n o sh := iv_L_cong (e2 131 (by decide)) rfl hL
    obtain ⟨σ2, d1, d2, d3⟩ := f_fill132 b σ1 0
    have hV2 : iv_V σ2 τ n o := iv_V_cong (d2 2 (by decide)) (d2 3 (by decide)) rfl rfl hV1
    have hL2 : iv_L σ2 τ n o sh := iv_L_cong (d2 131 (by decide)) rfl hL1
    have efl : iv_fl σ2 = iv_fl σ := by
      unfold iv_fl
      rw [d2 3 (by decide), e2 3 (by decide)]
    have hh := iv_he_31 hn ho
    have hw5 : iv_fl σ who ≤ 5 := (iv_V_d hV hwho).2
    have c3 : ix_F 103 [.ref 130, .int (nI who)] (ix_S0 b, σ1) = some (.int (nI (iv_fl σ who)), (ix_S0 b, σ1)) := by
      rw [f_flX b hV1 hwho, e2 3 (by decide)]
      rfl
    have hA : ∀ l, l < 6 → σ2 132 l = nI (iv_sm (iv_ld (iv_fl σ) sh 0 0 0 l) n) := fun l hl => by
      rw [d3, if_pos hl, iv_sm_0 n (fun j _ => by
        unfold iv_ld
        rw [if_neg (fun q => by have := q.1; rw [Nat.zero_testBit] at this; cases this)])]
      rfl
    have c5 : ix_F 105 [.ref 130, .int (nI (iv_fl σ who)), .int (nI (sh who))] (ix_S0 b, σ2) = some (.int (nI (iv_dw (iv_fl σ) sh n (iv_fl σ who) (sh who) 0)), (ix_S0 b, σ2)) := f_tb b hA hw5
    have hsw2 : σ2 131 who = nI (sh who) := by rw [d2 131 (by decide), e2 131 (by decide)]; exact hsw
    rw [e1]
    simp only [Option.bind_some, iv_tI]
    rw [f_hereX b hn (by rw [e2 2 (by decide)]; exact h6) ho (by rw [e2 2 (by decide)]; exact h7)]
    simp only [Option.bind_some, iv_tI]
    rw [f_bitCount b σ1 hh]
    simp only [Option.bind_some, iv_tI]
    rw [c3]
    simp only [Option.bind_some, iv_tI]
    rw [d1]
    simp only [Option.bind_some]
    rw [if_neg (iv_ni (x := who) (N := 12) (by omega) (by omega)), hsw2, c5]
    simp only [Option.bind_some, iv_tI]
    have hD1 := iv_dw_1 (iv_fl σ) sh n (iv_fl σ who) (sh who) 0
    generalize hm : (iv_li (iv_lp o sh (2 ^ who)) n).length = m
    have hmn : m ≤ n := by rw [← hm]; exact iv_li_len _ n
    have hq : ∀ t, t < m → (iv_li (iv_lp o sh (2 ^ who)) n).getD t 0 < n ∧ ¬ o.testBit ((iv_li (iv_lp o sh (2 ^ who)) n).getD t 0) = true ∧ (iv_li (iv_lp o sh (2 ^ who)) n).getD t 0 ≠ who ∧ σ2 133 t = nI ((iv_li (iv_lp o sh (2 ^ who)) n).getD t 0) := by
      intro t ht
      obtain ⟨a1, a2⟩ := iv_li_mem (iv_lp o sh (2 ^ who)) n t (by omega)
      have a3 := iv_lp_t.mp a2
      refine ⟨a1, a3.1, fun e => a3.2.2 ?_, ?_⟩
      · rw [e, Nat.testBit_two_pow_self]
      · rw [d2 133 (by decide), e3 t (by omega)]
    have hI : iv_pi σ2 (iv_fl σ2) sh n who 0 σ2 := ⟨by omega, Nat.zero_testBit _, fun _ _ => rfl, by rw [efl]; exact hA⟩
    -- how many are idle
    have hTwo := iv_T_two (iv_dw (iv_fl σ) sh n (iv_fl σ who) (sh who)) (P := iv_lp o sh (2 ^ who)) (Q := fun i => (iv_wo (iv_he n o) (2 ^ who)).testBit i) n (fun i hi hP => by
      have hP := iv_lp_t.mp hP
      show (iv_wo (iv_he n o) (2 ^ who)).testBit i = true
      rw [iv_ot_bit ho]
      have h1 : ¬ who = i := fun e => hP.2.2 (by rw [← e, Nat.testBit_two_pow_self])
      simp [hi, hP.1, h1]) (fun i hi hQ hP x => by
      have hQ : (iv_wo (iv_he n o) (2 ^ who)).testBit i = true := hQ
      rw [iv_ot_bit ho] at hQ
      simp only [hi, decide_true, Bool.true_and, Bool.and_eq_true, Bool.not_eq_true', decide_eq_false_iff_not] at hQ
      refine iv_dw_idl hi ?_ x
      by_cases q : sh i = 0
      · exact q
      · exfalso
        have : iv_lp o sh (2 ^ who) i = true := iv_lp_t.mpr ⟨by rw [hQ.1]; decide, by omega, by rw [Nat.testBit_two_pow]; simpa using hQ.2⟩
        rw [this] at hP
        cases hP) 0
    have hAs := iv_as_T (iv_dw (iv_fl σ) sh n (iv_fl σ who) (sh who)) (iv_wo (iv_he n o) (2 ^ who)) n 0 (Nat.zero_mod _)
    rw [if_pos (iv_wo_0.mpr (fun i hi => by rw [Nat.zero_testBit] at hi; cases hi))] at hAs
    have hvs := iv_vs_T (iv_dw (iv_fl σ) sh n (iv_fl σ who) (sh who)) (P := iv_lp o sh (2 ^ who)) (n := n) n (Nat.le_refl _) 0
    rw [hm] at hvs
    have hle := iv_T_le (D := iv_dw (iv_fl σ) sh n (iv_fl σ who) (sh who)) (fun x => iv_dw_1 _ _ _ _ _ x) (fun i => (iv_wo (iv_he n o) (2 ^ who)).testBit i) n 0
    have hp12 := iv_p12 hn
    have hcn : iv_pc 12 (iv_he n o) = m + iv_cn (fun i => (iv_wo (iv_he n o) (2 ^ who)).testBit i && !iv_lp o sh (2 ^ who) i) n + 1 := by
      have e1 : iv_pc 12 (iv_he n o) = iv_pc n (iv_he n o) := by
        have := iv_pc_n (iv_he_lt ho) (12 - n)
        rwa [show n + (12 - n) = 12 by omega] at this
      have e2 := iv_cn_one (H := fun i => (iv_he n o).testBit i) (Q := fun i => (iv_wo (iv_he n o) (2 ^ who)).testBit i) (w := who) (by
        show (iv_he n o).testBit who = true
        rw [iv_he_bit ho]
        simp [hwho, hwo]) (by
        show (iv_wo (iv_he n o) (2 ^ who)).testBit who = false
        rw [iv_ot_bit ho]
        simp) n (fun i hi hne => by
        show (iv_wo (iv_he n o) (2 ^ who)).testBit i = (iv_he n o).testBit i
        rw [iv_ot_bit ho, iv_he_bit ho]
        have : ¬ who = i := fun e => hne e.symm
        simp [this])
      rw [if_pos hwho] at e2
      have e3 := iv_cn_add (P := iv_lp o sh (2 ^ who)) (Q := fun i => (iv_wo (iv_he n o) (2 ^ who)).testBit i) n (fun i hi hP => by
        have hP := iv_lp_t.mp hP
        show (iv_wo (iv_he n o) (2 ^ who)).testBit i = true
        rw [iv_ot_bit ho]
        have h1 : ¬ who = i := fun e => hP.2.2 (by rw [← e, Nat.testBit_two_pow_self])
        simp [hi, hP.1, h1])
      rw [e1, iv_pc_cn, e2, e3, ← iv_cn_len, hm]
    generalize hidl : iv_cn (fun i => (iv_wo (iv_he n o) (2 ^ who)).testBit i && !iv_lp o sh (2 ^ who) i) n = idl at hTwo hcn
    have hpc := iv_pc_le (iv_he n o) 12
    have e7 : nI (iv_pc 12 (iv_he n o)) - 1 - nI m = nI idl := by
      rw [show (1 : Int32) = nI 1 from rfl, pk_sub (by omega), pk_sub (by omega), hcn]
      congr 1
      omega
    rw [e7]
    obtain ⟨σ3, g1, g2⟩ := f_pv_bl b (q := fun t => (iv_li (iv_lp o sh (2 ^ who)) n).getD t 0) (nI idl) hV2 hL2 hwho hwo (by omega) hq m (Nat.le_refl _) 0 (iv_dw (iv_fl σ) sh n (iv_fl σ who) (sh who) 0) 0 σ2 (Nat.zero_mod _) (by omega) hI
    rw [efl] at g1
    have st : ∀ X, (if nI (iv_dw (iv_fl σ) sh n (iv_fl σ who) (sh who) 0) = 0 then ix_S 90 3 80 [some (.ref 130), some (.int (nI who)), some (.int (nI m)), some (.int (nI idl)), some (.int (nI (iv_fl σ who))), some (.int (0 : Int32)), some (.int (0 : Int32)), some (.int (1 : Int32)), none] [] X else ix_S 90 3 80 [some (.ref 130), some (.int (nI who)), some (.int (nI m)), some (.int (nI idl)), some (.int (nI (iv_fl σ who))), some (.int (1 : Int32)), some (.int (0 : Int32)), some (.int (1 : Int32)), none] [] X) = ix_S 90 3 80 [some (.ref 130), some (.int (nI who)), some (.int (nI m)), some (.int (nI idl)), some (.int (nI (iv_fl σ who))), some (.int (nI (iv_dw (iv_fl σ) sh n (iv_fl σ who) (sh who) 0))), some (.int (nI 0)), some (.int (nI (0 + 1))), none] [] X := by
      intro X
      generalize iv_dw (iv_fl σ) sh n (iv_fl σ who) (sh who) 0 = D at hD1
      have : D = 0 ∨ D = 1 := by omega
      rcases this with rfl | rfl
      · rw [if_pos (show nI 0 = 0 from rfl)]; rfl
      · rw [if_neg (show ¬ nI 1 = 0 by decide)]; rfl
    rw [st, g1, hvs]
    refine ⟨σ3, ?_, fun z hz => (g2.2.2.1 z (by omega)).trans ((d2 z (by omega)).trans (e2 z (by omega)))⟩
    rw [hAs, hTwo]
    rw [hTwo] at hle
    generalize iv_T (iv_dw (iv_fl σ) sh n (iv_fl σ who) (sh who)) (iv_lp o sh (2 ^ who)) n 0 = K at hle
    have h2m : 2 ^ m ≤ 4096 := iv_p12 (show m ≤ 12 by omega)
    rw [Nat.mul_comm] at hle
    rw [q_Poll_timesTurned_80, iv_shl (by omega), Nat.zero_add, if_pos (nI_le (Nat.le_refl _) (by omega)), pk_shlN (nI idl &&& 31) idl (iv_s31 idl (by omega)) (by omega), Nat.mul_comm]
theorem s_pivots (E : ix_St) (v : Int32) : iv_S E 18 173 [.int v] := by
  intro k b c σ τ hk hE hR
  have hK := iv_R_keep iv_kX.rf (iv_kM_told τ 0) hR
  have hR0 := iv_R_told (v := 0) hR
  obtain ⟨n, o, hn, hw, -⟩ := iv_R_told (v := 0) hR
  have hV0 := iv_V_of hn hw
  rw [q_X_pivots_0, q_M_pivots_0, f_has b σ hn hV0.2.1, f_isOne c _ hn hV0.2.2.2.1]
  simp only [Option.bind_some, iv_tI]
  by_cases h1 : 0 ≤ v ∧ v < nI n
  · obtain ⟨p, hp, rfl⟩ := (iv_rng' (by omega)).mp h1
    have a18 : (18 : Int32) + nI p = nI (18 + p) := nI_add 18 p
    rw [if_neg (fun h => iv_B0.mp h h1), if_neg (fun h => iv_B0.mp h h1), f_ovX b hV0 hp, a18, if_neg (nI_in (by omega) (by omega)), nI_clamp (by omega), hV0.2.2.2.2.2.1 p (by omega)]
    simp only [Option.bind_some, iv_tI]
    by_cases hb : o.testBit p = true
    · rw [iv_Bt hb, if_neg (by decide), if_pos rfl]
      exact ⟨_, b, _, _, rfl, rfl, hK⟩
    · rw [iv_Bf hb, if_pos rfl, if_neg (by decide)]
      obtain ⟨σ1, τ1, sh, e1, e2, hV, hL, e3, e4⟩ := f_poll b c hn hw
      obtain ⟨σ2, g1, g2⟩ := f_times b hV hL hp hb
      rw [e1, e2]
      simp only [Option.bind_some]
      rw [g1, f_hereV c hV]
      simp only [Option.bind_some, iv_tI]
      rw [iv_shl (by omega), iv_wo_I]
      obtain ⟨τ2, m1, m2⟩ := f_pvM c hp (2 ^ n) 0 0 τ1 (by omega) hV hL
      have m1' : ix_S 173 8 48 [some (.ref 135), some (.int (nI p)), some (.int (nI (iv_wo (iv_he n o) (2 ^ p)))), some (.int 0), some (.int 0)] [] (ix_S0 c, τ1) = _ := m1
      rw [m1', Nat.zero_add]
      exact ⟨_, b, _, _, rfl, rfl, iv_R_keep (iv_kX_p e3 g2) (iv_kM_158 e4 m2) hR0⟩
  · rw [if_pos (iv_B0.mpr h1), if_pos (iv_B0.mpr h1)]
    exact ⟨_, b, _, _, rfl, rfl, hK⟩
