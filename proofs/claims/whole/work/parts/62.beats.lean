/-! who is ahead of whom, weighed -/
def iv_au (σ : ix_St) (w : Int32) : List Nat → ix_St
  | [] => σ
  | k :: ks => iv_au (ix_up σ 134 k (σ 134 k + w)) w ks
theorem iv_au_o (w : Int32) {z : Nat} (hz : z ≠ 134) : ∀ (L : List Nat) (σ : ix_St), iv_au σ w L z = σ z
  | [], _ => rfl
  | k :: ks, σ => (iv_au_o w hz ks _).trans (iv_upn hz)
theorem iv_au_n (w : Int32) (i : Nat) : ∀ (L : List Nat) (σ : ix_St), ¬ i ∈ L → iv_au σ w L 134 i = σ 134 i
  | [], _, _ => rfl
  | k :: ks, σ, h => by
    have h1 := iv_au_n w i ks (ix_up σ 134 k (σ 134 k + w)) (fun q => h (List.mem_cons_of_mem _ q))
    refine h1.trans ?_
    show upd (σ 134) k _ i = _
    exact pk_un (fun e => h (by rw [e]; exact List.mem_cons_self))
theorem iv_au_i (w : Int32) (i : Nat) : ∀ (L : List Nat) (σ : ix_St), L.Nodup → i ∈ L → iv_au σ w L 134 i = σ 134 i + w
  | [], _, _, h => by cases h
  | k :: ks, σ, hd, h => by
    have hd' := List.nodup_cons.mp hd
    by_cases e : i = k
    · subst e
      refine (iv_au_n w i ks _ hd'.1).trans ?_
      show upd (σ 134) i _ i = _
      exact pk_us
    · refine (iv_au_i w i ks _ hd'.2 ((List.mem_cons.mp h).resolve_left e)).trans ?_
      show upd (σ 134) k _ i + w = _
      rw [pk_un e]
def iv_cl (r : Int32) : List Nat := [6 * iv_d r 0 + iv_d r 1, 6 * iv_d r 0 + iv_d r 2, 6 * iv_d r 0 + iv_d r 3, 6 * iv_d r 0 + iv_d r 4, 6 * iv_d r 1 + iv_d r 2, 6 * iv_d r 1 + iv_d r 3, 6 * iv_d r 1 + iv_d r 4, 6 * iv_d r 2 + iv_d r 3, 6 * iv_d r 2 + iv_d r 4, 6 * iv_d r 3 + iv_d r 4]
theorem iv_cl_ok : ∀ r ∈ ix_rnk, (iv_cl r).Nodup ∧ ∀ x, x < 6 → ∀ y, y < 6 → x = 0 ∨ y = 0 ∨ x = y ∨ ((6 * x + y) ∈ iv_cl r ↔ iv_ps r x < iv_ps r y) := by decide +kernel
theorem f_ac_st (b : Bool) (r w v3 : Int32) (x y : Nat) (hx : x ≤ 5) (hy : y ≤ 5) (v5 v6 : Int32) (e : iv_dg r v5 = nI y) (h1 : ¬ v5 < 1) (h0 : ¬ v5 = 0) (h6 : v5 / 10 = v6) (σ : ix_St) : ix_S 114 1 23 [some (.ref 130), some (.int r), some (.int w), some (.int v3), some (.int (nI x)), some (.int v5)] [] (ix_S0 b, σ) = ix_S 114 1 23 [some (.ref 130), some (.int r), some (.int w), some (.int v3), some (.int (nI x)), some (.int v6)] [] (ix_S0 b, ix_up σ 134 (6 * x + y) (σ 134 (6 * x + y) + w)) := by
  have e1 : nI x * 6 + (r / v5 - r / v5 / 10 * 10) = nI (6 * x + y) := by
    rw [show r / v5 - r / v5 / 10 * 10 = nI y from e, show (6 : Int32) = nI 6 from rfl, pk_mul, nI_add, Nat.mul_comm]
  rw [q_Poll_addCouples_23, if_neg h1, if_neg h0, e1, if_neg (nI_in (by omega) (by omega)), if_neg (nI_in (by omega) (by omega)), nI_clamp (by omega), h6]
theorem f_ac_go (b : Bool) (r w v3 v4 : Int32) (x : Nat) (h : v3 / 10 = v4) (σ : ix_St) : ix_S 114 1 23 [some (.ref 130), some (.int r), some (.int w), some (.int v3), some (.int (nI x)), some (.int 0)] [] (ix_S0 b, σ) = ix_S 114 1 4 [some (.ref 130), some (.int r), some (.int w), some (.int v4), none, none] [] (ix_S0 b, σ) := by
  rw [q_Poll_addCouples_23, if_pos (by decide), h]
theorem f_ac_in (b : Bool) (r w v3 : Int32) (x : Nat) (v6 : Int32) (h1 : ¬ v3 ≤ 1) (h0 : ¬ v3 = 0) (e : iv_dg r v3 = nI x) (h : v3 / 10 = v6) (σ : ix_St) : ix_S 114 1 4 [some (.ref 130), some (.int r), some (.int w), some (.int v3), none, none] [] (ix_S0 b, σ) = ix_S 114 1 23 [some (.ref 130), some (.int r), some (.int w), some (.int v3), some (.int (nI x)), some (.int v6)] [] (ix_S0 b, σ) := by
  rw [q_Poll_addCouples_4, if_neg h1, if_neg h0, show r / v3 - r / v3 / 10 * 10 = nI x from e, h]
theorem f_ac (b : Bool) {r : Int32} (hr : r ∈ ix_rnk) (w : Int32) (σ : ix_St) : ix_F 114 [.ref 130, .int r, .int w] (ix_S0 b, σ) = some (.null, (ix_S0 b, iv_au σ w (iv_cl r))) := by
  obtain ⟨g0, -, g1, g2, g3, g4⟩ := iv_d_dg r hr
  have l0 := (iv_d_la r hr 0 (by omega)).2.2
  have l1 := (iv_d_la r hr 1 (by omega)).2.2
  have l2 := (iv_d_la r hr 2 (by omega)).2.2
  have l3 := (iv_d_la r hr 3 (by omega)).2.2
  have l4 := (iv_d_la r hr 4 (by omega)).2.2
  rw [q_Poll_addCouples_0, f_ac_in b r w 10000 (iv_d r 0) 1000 (by decide) (by decide) g0 (by decide),
    f_ac_st b r w 10000 (iv_d r 0) (iv_d r 1) l0 l1 1000 100 g1 (by decide) (by decide) (by decide),
    f_ac_st b r w 10000 (iv_d r 0) (iv_d r 2) l0 l2 100 10 g2 (by decide) (by decide) (by decide),
    f_ac_st b r w 10000 (iv_d r 0) (iv_d r 3) l0 l3 10 1 g3 (by decide) (by decide) (by decide),
    f_ac_st b r w 10000 (iv_d r 0) (iv_d r 4) l0 l4 1 0 g4 (by decide) (by decide) (by decide), f_ac_go b r w 10000 1000 _ (by decide),
    f_ac_in b r w 1000 (iv_d r 1) 100 (by decide) (by decide) g1 (by decide),
    f_ac_st b r w 1000 (iv_d r 1) (iv_d r 2) l1 l2 100 10 g2 (by decide) (by decide) (by decide),
    f_ac_st b r w 1000 (iv_d r 1) (iv_d r 3) l1 l3 10 1 g3 (by decide) (by decide) (by decide),
    f_ac_st b r w 1000 (iv_d r 1) (iv_d r 4) l1 l4 1 0 g4 (by decide) (by decide) (by decide), f_ac_go b r w 1000 100 _ (by decide),
    f_ac_in b r w 100 (iv_d r 2) 10 (by decide) (by decide) g2 (by decide),
    f_ac_st b r w 100 (iv_d r 2) (iv_d r 3) l2 l3 10 1 g3 (by decide) (by decide) (by decide),
    f_ac_st b r w 100 (iv_d r 2) (iv_d r 4) l2 l4 1 0 g4 (by decide) (by decide) (by decide), f_ac_go b r w 100 10 _ (by decide),
    f_ac_in b r w 10 (iv_d r 3) 1 (by decide) (by decide) g3 (by decide),
    f_ac_st b r w 10 (iv_d r 3) (iv_d r 4) l3 l4 1 0 g4 (by decide) (by decide) (by decide), f_ac_go b r w 10 1 _ (by decide),
    q_Poll_addCouples_4, if_pos (by decide)]
  rfl
/-- the weight of those here who have one land ahead of another -/
def iv_ah (ra : Nat → Int32) (o : Nat) (wt : Nat → Int32) (x y : Nat) : Nat → Int32
  | 0 => 0
  | j + 1 => if ¬ o.testBit j = true ∧ iv_ps (ra j) x < iv_ps (ra j) y then iv_ah ra o wt x y j + wt j else iv_ah ra o wt x y j
def iv_tb (σ : ix_St) (ra : Nat → Int32) (o : Nat) (wt : Nat → Int32) (n : Nat) : Prop := ∀ x y, 1 ≤ x → x ≤ 5 → 1 ≤ y → y ≤ 5 → x ≠ y → σ 134 (6 * x + y) = iv_ah ra o wt x y n
theorem f_cmp_aux (b : Bool) {τ : ix_St} {n o : Nat} (v1 : Int32) (wt : Nat → Int32) : ∀ d j σ, j + d = n → iv_V σ τ n o → (v1 = 0 ∧ (∀ i, wt i = 1) ∨ v1 = 1 ∧ ∀ i, i < n → wt i = σ 131 i) → iv_tb σ (σ 3) o wt j → ∃ σ', ix_S 107 2 10 [some (.ref 130), some (.int v1), some (.int (nI j))] [] (ix_S0 b, σ) = some (.null, (ix_S0 b, σ')) ∧ (∀ z, z ≠ 134 → σ' z = σ z) ∧ iv_tb σ' (σ 3) o wt n := by
  intro d
  induction d with
  | zero =>
    intro j σ hj hV hw ht
    have : j = n := by omega
    subst this
    have hn := hV.1
    refine ⟨σ, ?_, fun _ _ => rfl, ht⟩
    rw [q_Poll_compare_10, hV.2.1, if_pos (nI_le (Nat.le_refl _) (by omega))]
  | succ d ih =>
    intro j σ hj hV hw ht
    have hn := hV.1
    have k0 : ¬ nI n ≤ nI j := nI_ge (by omega) (by omega)
    have k1 : ¬ (nI j < 0 ∨ 12 ≤ j) := iv_ni (by omega) (by omega)
    have k3 : (nI j).toNatClampNeg = j := nI_clamp (by omega)
    have hr := (hV.2.2.2.2.2.2 j (by omega)).2
    rw [q_Poll_compare_10]
    by_cases hb : o.testBit j = true
    · simp only [hV.2.1, k0, f_ovX b hV (show j < n by omega), iv_Bt hb, iv_10, nI_1, if_false, Option.bind_some, iv_tI]
      refine ih (j + 1) σ (by omega) hV hw (fun x y hx hx5 hy hy5 hxy => ?_)
      rw [ht x y hx hx5 hy hy5 hxy]
      exact (if_neg (fun e => e.1 hb)).symm
    · have hc := iv_cl_ok _ hr
      have nxt : ∃ σ', ix_S 107 2 10 [some (.ref 130), some (.int v1), some (.int (nI (j + 1)))] [] (ix_S0 b, iv_au σ (wt j) (iv_cl (σ 3 j))) = some (.null, (ix_S0 b, σ')) ∧ (∀ z, z ≠ 134 → σ' z = σ z) ∧ iv_tb σ' (σ 3) o wt n := by
        have o3 : iv_au σ (wt j) (iv_cl (σ 3 j)) 3 = σ 3 := iv_au_o _ (by decide) _ _
        obtain ⟨σ', p1, p2, p3⟩ := ih (j + 1) (iv_au σ (wt j) (iv_cl (σ 3 j))) (by omega) (iv_V_cong (iv_au_o _ (by decide) _ _) o3 rfl rfl hV) (by
          rw [iv_au_o _ (show 131 ≠ 134 by decide)]; exact hw) (fun x y hx hx5 hy hy5 hxy => by
          rw [o3]
          have hm := ((((hc.2 x (by omega) y (by omega)).resolve_left (by omega)).resolve_left (by omega)).resolve_left hxy)
          show _ = if ¬ o.testBit j = true ∧ iv_ps (σ 3 j) x < iv_ps (σ 3 j) y then iv_ah (σ 3) o wt x y j + wt j else iv_ah (σ 3) o wt x y j
          by_cases e : iv_ps (σ 3 j) x < iv_ps (σ 3 j) y
          · rw [if_pos ⟨hb, e⟩, iv_au_i _ _ _ _ hc.1 (hm.mpr e), ht x y hx hx5 hy hy5 hxy]
          · rw [if_neg (fun q => e q.2), iv_au_n _ _ _ _ (fun q => e (hm.mp q)), ht x y hx hx5 hy hy5 hxy])
        rw [o3] at p3
        exact ⟨σ', p1, fun z hz => (p2 z hz).trans (iv_au_o _ hz _ _), p3⟩
      rcases hw with ⟨rfl, hw⟩ | ⟨rfl, hw⟩
      · rw [hw j] at nxt
        simp only [hV.2.1, k0, k1, k3, f_ovX b hV (show j < n by omega), iv_Bf hb, f_ac b hr, nI_1, if_true, if_false, Option.bind_some, iv_tI]
        exact nxt
      · rw [hw j (by omega)] at nxt
        simp only [hV.2.1, k0, k1, k3, f_ovX b hV (show j < n by omega), iv_Bf hb, iv_10, f_ac b hr, nI_1, if_true, if_false, Option.bind_some, iv_tI]
        exact nxt
theorem f_cmp (b : Bool) {σ τ : ix_St} {n o : Nat} (v1 : Int32) (wt : Nat → Int32) (hV : iv_V σ τ n o) (hw : v1 = 0 ∧ (∀ i, wt i = 1) ∨ v1 = 1 ∧ ∀ i, i < n → wt i = σ 131 i) : ∃ σ', ix_F 107 [.ref 130, .int v1] (ix_S0 b, σ) = some (.null, (ix_S0 b, σ')) ∧ (∀ z, z ≠ 134 → σ' z = σ z) ∧ iv_tb σ' (σ 3) o wt n := by
  obtain ⟨σ1, e1, e2, e3⟩ := f_fill134 b σ 0
  obtain ⟨σ', g1, g2, g3⟩ := f_cmp_aux b v1 wt n 0 σ1 (by omega) (iv_V_cong (e2 2 (by decide)) (e2 3 (by decide)) rfl rfl hV) (by rw [e2 131 (by decide)]; exact hw) (fun x y hx hx5 hy hy5 hxy => by rw [e3, if_pos (by omega)]; rfl)
  rw [e2 3 (by decide)] at g3
  refine ⟨σ', ?_, fun z hz => (g2 z hz).trans (e2 z hz), g3⟩
  rw [q_Poll_compare_0, e1]
  exact g1
def iv_w (o : Nat) (sh : Nat → Nat) : Nat → Int32 := fun i => nI (if o.testBit i = true then 0 else sh i)
/-- by how much a land beats another -/
def iv_bb (ra : Nat → Int32) (o : Nat) (sh : Nat → Nat) (x y : Nat) : Nat → Int32
  | 0 => 0
  | j + 1 => if o.testBit j = true then iv_bb ra o sh x y j else if iv_ps (ra j) x < iv_ps (ra j) y then iv_bb ra o sh x y j + nI (sh j) else iv_bb ra o sh x y j + -(nI (sh j))
theorem iv_bb_ok {ra : Nat → Int32} {o : Nat} {sh : Nat → Nat} {x y n : Nat} (hx : 1 ≤ x) (hx5 : x ≤ 5) (hy : 1 ≤ y) (hy5 : y ≤ 5) (hxy : x ≠ y) (hr : ∀ i, i < n → ra i ∈ ix_rnk) : ∀ j, j ≤ n → iv_bb ra o sh x y j = iv_ah ra o (iv_w o sh) x y j - iv_ah ra o (iv_w o sh) y x j := by
  intro j
  induction j with
  | zero => intro _; show (0 : Int32) = 0 - 0; decide
  | succ j ih =>
    intro hj
    have h := ih (by omega)
    have hne := iv_ps_ne (hr j (by omega)) hx hx5 hy hy5 hxy
    show (if o.testBit j = true then iv_bb ra o sh x y j else if iv_ps (ra j) x < iv_ps (ra j) y then iv_bb ra o sh x y j + nI (sh j) else iv_bb ra o sh x y j + -(nI (sh j))) = (if ¬ o.testBit j = true ∧ iv_ps (ra j) x < iv_ps (ra j) y then iv_ah ra o (iv_w o sh) x y j + iv_w o sh j else iv_ah ra o (iv_w o sh) x y j) - (if ¬ o.testBit j = true ∧ iv_ps (ra j) y < iv_ps (ra j) x then iv_ah ra o (iv_w o sh) y x j + iv_w o sh j else iv_ah ra o (iv_w o sh) y x j)
    by_cases hb : o.testBit j = true
    · rw [if_pos hb, if_neg (fun e => e.1 hb), if_neg (fun e => e.1 hb), h]
    · have ew : iv_w o sh j = nI (sh j) := by unfold iv_w; rw [if_neg hb]
      rw [if_neg hb, ew, h]
      generalize iv_ah ra o (iv_w o sh) x y j = A
      generalize iv_ah ra o (iv_w o sh) y x j = B
      generalize nI (sh j) = w
      by_cases e : iv_ps (ra j) x < iv_ps (ra j) y
      · rw [if_pos e, if_pos ⟨hb, e⟩, if_neg (fun q => by have := q.2; omega)]
        rw [Int32.sub_eq_add_neg, Int32.sub_eq_add_neg]
        ac_rfl
      · rw [if_neg e, if_neg (fun q => e q.2), if_pos ⟨hb, by omega⟩]
        rw [Int32.sub_eq_add_neg, Int32.sub_eq_add_neg, Int32.neg_add, Int32.sub_eq_add_neg]
        ac_rfl
/-- what class and reference say of two lands -/
def iv_rn (x y : Nat) : Prop := 1 ≤ x ∧ x ≤ 5 ∧ 1 ≤ y ∧ y ≤ 5 ∧ x ≠ y
theorem f_cs (b : Bool) {σ τ : ix_St} {n o : Nat} {sh : Nat → Nat} (hV : iv_V σ τ n o) (hL : iv_L σ τ n o sh) : ∃ σ', ix_F 91 [.ref 130] (ix_S0 b, σ) = some (.null, (ix_S0 b, σ')) ∧ (∀ z, z ≠ 134 → σ' z = σ z) ∧ ∀ x y, iv_rn x y → ix_F 92 [.ref 130, .int (nI x), .int (nI y)] (ix_S0 b, σ') = some (.int (iv_bb (σ 3) o sh x y n), (ix_S0 b, σ')) := by
  obtain ⟨σ', e1, e2, e3⟩ := f_cmp b 1 (iv_w o sh) hV (Or.inr ⟨rfl, fun i hi => (hL.2 i hi).1.symm⟩)
  refine ⟨σ', ?_, e2, fun x y hxy => ?_⟩
  · rw [q_Poll_compareByShells_0, e1]; rfl
  · obtain ⟨hx, hx5, hy, hy5, hne⟩ := hxy
    have m1 : nI x * 6 + nI y = nI (6 * x + y) := by rw [show (6 : Int32) = nI 6 from rfl, pk_mul, nI_add, Nat.mul_comm]
    have m2 : nI y * 6 + nI x = nI (6 * y + x) := by rw [show (6 : Int32) = nI 6 from rfl, pk_mul, nI_add, Nat.mul_comm]
    rw [q_Poll_lead_0, m1, m2, if_neg (nI_in (by omega) (by omega)), if_neg (nI_in (by omega) (by omega)), nI_clamp (by omega), nI_clamp (by omega), e3 x y hx hx5 hy hy5 hne, e3 y x hy hy5 hx hx5 (Ne.symm hne), iv_bb_ok hx hx5 hy hy5 hne (fun i hi => (hV.2.2.2.2.2.2 i hi).2) n (Nat.le_refl _)]
theorem f_bbM (c : Bool) {σ τ : ix_St} {n o : Nat} {sh : Nat → Nat} (hV : iv_V σ τ n o) (hL : iv_L σ τ n o sh) {x y : Nat} (hxy : iv_rn x y) : ∀ d j, j + d = n → ix_S 212 4 5 [some (.ref 135), some (.int (nI x)), some (.int (nI y)), some (.int (iv_bb (σ 3) o sh x y j)), some (.int (nI j))] [] (ix_S0 c, τ) = some (.int (iv_bb (σ 3) o sh x y n), (ix_S0 c, τ)) := by
  obtain ⟨hn, h6, h7, m7, ho, hov, hr⟩ := id hV
  obtain ⟨hx, hx5, hy, hy5, hne⟩ := hxy
  intro d
  induction d with
  | zero =>
    intro j hj
    have : j = n := by omega
    subst this
    rw [q_M_beatsBy_5, m7, if_pos (nI_le (Nat.le_refl _) (by omega))]
  | succ d ih =>
    intro j hj
    have k0 : ¬ nI n ≤ nI j := nI_ge (by omega) (by omega)
    have k1 : ¬ (nI j < 0 ∨ 12 ≤ j) := iv_ni (by omega) (by omega)
    have k3 : (nI j).toNatClampNeg = j := nI_clamp (by omega)
    have a18 : (18 : Int32) + nI j = nI (18 + j) := nI_add 18 j
    have b18 : ¬ (nI (18 + j) < 0 ∨ 54 ≤ 18 + j) := iv_ni (by omega) (by omega)
    have c18 : (nI (18 + j)).toNatClampNeg = 18 + j := nI_clamp (by omega)
    have a6 : (6 : Int32) + nI j = nI (6 + j) := nI_add 6 j
    have b6 : ¬ (nI (6 + j) < 0 ∨ 54 ≤ 6 + j) := iv_ni (by omega) (by omega)
    have c6 : (nI (6 + j)).toNatClampNeg = 6 + j := nI_clamp (by omega)
    have hs := ih (j + 1) (by omega)
    have hrj := hr j (by omega)
    have ha : ix_F 245 [.ref 135, .int (τ 136 (6 + j)), .int (nI x), .int (nI y)] (ix_S0 c, τ) = some (.int (iv_B (iv_ps (σ 3 j) x < iv_ps (σ 3 j) y)), (ix_S0 c, τ)) := by
      rw [← hrj.1]; exact f_isAheadM c hrj.2 hx hx5 hy hy5 τ
    have hl := (hL.2 j (by omega)).2
    rw [q_M_beatsBy_5]
    by_cases hb : o.testBit j = true
    · have z1 : ¬ iv_B (o.testBit j = true) = 0 := fun h => iv_B0.mp h hb
      simp only [m7, k0, a18, b18, c18, hov j (show j < 12 by omega), z1, nI_1, if_false]
      rw [show iv_bb (σ 3) o sh x y (j + 1) = iv_bb (σ 3) o sh x y j from if_pos hb] at hs
      exact hs
    · have z0 : iv_B (o.testBit j = true) = 0 := iv_Bf hb
      have e0 : iv_bb (σ 3) o sh x y (j + 1) = if iv_ps (σ 3 j) x < iv_ps (σ 3 j) y then iv_bb (σ 3) o sh x y j + nI (sh j) else iv_bb (σ 3) o sh x y j + -(nI (sh j)) := if_neg hb
      by_cases e : iv_ps (σ 3 j) x < iv_ps (σ 3 j) y
      · simp only [m7, k0, k1, k3, a18, b18, c18, a6, b6, c6, hov j (show j < 12 by omega), z0, ha, iv_Bt e, iv_10, hl, nI_1, if_true, if_false, Option.bind_some, iv_tI]
        rw [e0, if_pos e] at hs
        exact hs
      · simp only [m7, k0, k1, k3, a18, b18, c18, a6, b6, c6, hov j (show j < 12 by omega), z0, ha, iv_Bf e, hl, nI_1, if_true, if_false, Option.bind_some, iv_tI]
        rw [e0, if_neg e] at hs
        exact hs
theorem f_bb (c : Bool) {σ τ : ix_St} {n o : Nat} {sh : Nat → Nat} (hV : iv_V σ τ n o) (hL : iv_L σ τ n o sh) {x y : Nat} (hxy : iv_rn x y) : ix_F 212 [.ref 135, .int (nI x), .int (nI y)] (ix_S0 c, τ) = some (.int (iv_bb (σ 3) o sh x y n), (ix_S0 c, τ)) := by
  rw [q_M_beatsBy_0]
  exact f_bbM c hV hL hxy n 0 (by omega)
theorem iv_kX_p {σ σ1 σ2 : ix_St} (h : ∀ z, z ≠ 18 → z ≠ 19 → z ≠ 131 → σ1 z = σ z) (h2 : ∀ z, z < 130 → σ2 z = σ1 z) : iv_kX σ σ2 := fun c _ hs => (by
  have hs' : c ≠ 18 ∧ c ≠ 19 ∧ c < 106 := by
    unfold iv_scX at hs
    omega
  exact (h2 c (by omega)).trans (h c hs'.1 hs'.2.1 (by omega)))
theorem s_beats (E : ix_St) (v w : Int32) : iv_S E 19 174 [.int v, .int w] := by
  intro k b c σ τ hk hE hR
  have hK := iv_R_keep iv_kX.rf (iv_kM_told τ 0) hR
  have hR0 := iv_R_told (v := 0) hR
  obtain ⟨n, o, hn, hw, -⟩ := iv_R_told (v := 0) hR
  rw [q_X_beats_0, q_M_beats_0, f_isLand, f_isIn]
  simp only [Option.bind_some, iv_tI]
  by_cases h1 : 1 ≤ v ∧ v ≤ 5
  · rw [if_neg (fun h => iv_B0.mp h h1), if_neg (fun h => iv_B0.mp h h1), f_isLand, f_isIn]
    simp only [Option.bind_some, iv_tI]
    by_cases h2 : 1 ≤ w ∧ w ≤ 5
    · rw [if_neg (fun h => iv_B0.mp h h2), if_neg (fun h => iv_B0.mp h h2)]
      by_cases h3 : v = w
      · rw [if_pos h3, if_pos h3]
        exact ⟨_, b, _, _, rfl, rfl, hK⟩
      · rw [if_neg h3, if_neg h3]
        obtain ⟨x, x1, x5, rfl⟩ := iv_rng1 (m := 5) (by omega) h1
        obtain ⟨y, y1, y5, rfl⟩ := iv_rng1 (m := 5) (by omega) h2
        have hxy : iv_rn x y := ⟨x1, x5, y1, y5, fun e => h3 (by rw [e])⟩
        obtain ⟨σ1, τ1, sh, e1, e2, hV, hL, e3, e4⟩ := f_poll b c hn hw
        obtain ⟨σ2, g1, g2, g3⟩ := f_cs b hV hL
        rw [e1, e2]
        simp only [Option.bind_some]
        rw [g1, f_bb c hV hL hxy]
        simp only [Option.bind_some]
        rw [g3 x y hxy]
        exact ⟨_, b, _, _, rfl, rfl, iv_R_keep (iv_kX_p e3 (fun z hz => g2 z (by omega))) (iv_kM_159 e4) hR0⟩
    · rw [if_pos (iv_B0.mpr h2), if_pos (iv_B0.mpr h2)]
      exact ⟨_, b, _, _, rfl, rfl, hK⟩
  · rw [if_pos (iv_B0.mpr h1), if_pos (iv_B0.mpr h1)]
    exact ⟨_, b, _, _, rfl, rfl, hK⟩
