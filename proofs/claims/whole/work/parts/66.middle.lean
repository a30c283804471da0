/-! the rank in the middle -/
def iv_nm (k : Nat) : Nat := if k / 6 < k % 6 then k else 6 * (k % 6) + k / 6
theorem iv_cl_nm : ∀ r ∈ ix_rnk, ((iv_cl r).map iv_nm).Perm [8, 9, 10, 11, 15, 16, 17, 22, 23, 29] := by decide +kernel
theorem iv_cl_r : ∀ r ∈ ix_rnk, ∀ k ∈ iv_cl r, 1 ≤ k / 6 ∧ k / 6 ≤ 5 ∧ 1 ≤ k % 6 ∧ k % 6 ≤ 5 ∧ k / 6 ≠ k % 6 ∧ iv_ps r (k / 6) < iv_ps r (k % 6) := by decide +kernel
/-- whether one has the lands of a couple the other way round -/
def iv_tw (s : Int32) (k : Nat) : Nat := if iv_ps s (k % 6) < iv_ps s (k / 6) then 1 else 0
theorem iv_tw_df {r s : Int32} (hr : r ∈ ix_rnk) (hs : s ∈ ix_rnk) {k : Nat} (hk : k ∈ iv_cl r) : iv_tw s k = iv_df r s (iv_nm k / 6) (iv_nm k % 6) := by
  obtain ⟨h1, h2, h3, h4, h5, h6⟩ := iv_cl_r r hr k hk
  have hne := iv_ps_ne hs h1 h2 h3 h4 h5
  have e : iv_df r s (iv_nm k / 6) (iv_nm k % 6) = iv_df r s (k / 6) (k % 6) := by
    unfold iv_nm
    by_cases h : k / 6 < k % 6
    · rw [if_pos h]
    · rw [if_neg h, show (6 * (k % 6) + k / 6) / 6 = k % 6 by omega, show (6 * (k % 6) + k / 6) % 6 = k / 6 by omega]
      exact iv_df_sym hr hs h3 h4 h1 h2 (Ne.symm h5)
  rw [e]
  unfold iv_tw iv_df
  rw [iv_Bt h6]
  by_cases h : iv_ps s (k % 6) < iv_ps s (k / 6)
  · rw [if_pos h, iv_Bf (by omega), if_neg (by decide)]
  · rw [if_neg h, iv_Bt (by omega), if_pos rfl]
theorem iv_tw_ot {r s : Int32} (hr : r ∈ ix_rnk) (hs : s ∈ ix_rnk) : ((iv_cl r).map (iv_tw s)).sum = iv_ot r s := by
  have h1 : (iv_cl r).map (iv_tw s) = ((iv_cl r).map iv_nm).map (fun k => iv_df r s (k / 6) (k % 6)) := by
    rw [List.map_map]
    exact List.map_congr_left (fun k hk => iv_tw_df hr hs hk)
  rw [h1, ((iv_cl_nm r hr).map _).sum_nat]
  show iv_df r s 1 2 + (iv_df r s 1 3 + (iv_df r s 1 4 + (iv_df r s 1 5 + (iv_df r s 2 3 + (iv_df r s 2 4 + (iv_df r s 2 5 + (iv_df r s 3 4 + (iv_df r s 3 5 + (iv_df r s 4 5 + 0))))))))) = _
  unfold iv_ot
  omega
/-- how many of those here have a couple the other way round -/
def iv_an (ra : Nat → Int32) (o : Nat) (k : Nat) : Nat → Nat
  | 0 => 0
  | j + 1 => if o.testBit j = true then iv_an ra o k j else iv_an ra o k j + iv_tw (ra j) k
theorem iv_an_ah (ra : Nat → Int32) (o : Nat) (k : Nat) : ∀ j, iv_ah ra o (fun _ => 1) (k % 6) (k / 6) j = nI (iv_an ra o k j) := by
  intro j
  induction j with
  | zero => rfl
  | succ j ih =>
    show (if ¬ o.testBit j = true ∧ iv_ps (ra j) (k % 6) < iv_ps (ra j) (k / 6) then iv_ah ra o (fun _ => 1) (k % 6) (k / 6) j + 1 else iv_ah ra o (fun _ => 1) (k % 6) (k / 6) j) = nI (if o.testBit j = true then iv_an ra o k j else iv_an ra o k j + iv_tw (ra j) k)
    rw [ih]
    unfold iv_tw
    by_cases hb : o.testBit j = true
    · rw [if_neg (fun h => h.1 hb), if_pos hb]
    · rw [if_neg hb]
      by_cases h : iv_ps (ra j) (k % 6) < iv_ps (ra j) (k / 6)
      · rw [if_pos ⟨hb, h⟩, if_pos h, nI_1]
      · rw [if_neg (fun q => h q.2), if_neg h]
        rfl
/-- couples otherwise, over all that are here -/
def iv_oa (ra : Nat → Int32) (o : Nat) (r : Int32) : Nat → Nat
  | 0 => 0
  | j + 1 => if o.testBit j = true then iv_oa ra o r j else iv_oa ra o r j + iv_ot r (ra j)
theorem iv_sum_add (f g : Nat → Nat) : ∀ L : List Nat, (L.map (fun k => f k + g k)).sum = (L.map f).sum + (L.map g).sum
  | [] => rfl
  | a :: L => by
    simp only [List.map_cons, List.sum_cons, iv_sum_add f g L]
    omega
theorem iv_oa_an {ra : Nat → Int32} {o n : Nat} {r : Int32} (hr : r ∈ ix_rnk) (h : ∀ i, i < n → ra i ∈ ix_rnk) : ∀ j, j ≤ n → ((iv_cl r).map (fun k => iv_an ra o k j)).sum = iv_oa ra o r j := by
  intro j
  induction j with
  | zero => intro _; rfl
  | succ j ih =>
    intro hj
    have hi := ih (by omega)
    show ((iv_cl r).map (fun k => if o.testBit j = true then iv_an ra o k j else iv_an ra o k j + iv_tw (ra j) k)).sum = if o.testBit j = true then iv_oa ra o r j else iv_oa ra o r j + iv_ot r (ra j)
    by_cases hb : o.testBit j = true
    · simp only [hb, if_true]
      exact hi
    · simp only [hb, Bool.false_eq_true, if_false]
      rw [iv_sum_add (fun k => iv_an ra o k j) (iv_tw (ra j)), hi, iv_tw_ot hr (h j (by omega))]
theorem iv_oa_le (ra : Nat → Int32) (o : Nat) (r : Int32) : ∀ j, iv_oa ra o r j ≤ 10 * j := by
  intro j
  induction j with
  | zero => exact Nat.le_refl _
  | succ j ih =>
    show (if o.testBit j = true then iv_oa ra o r j else iv_oa ra o r j + iv_ot r (ra j)) ≤ _
    have := iv_ot_10 r (ra j)
    split <;> omega
theorem f_ca_st (b : Bool) (r v3 : Int32) (w x y : Nat) (f : Nat) (hx : x ≤ 5) (hy : y ≤ 5) (v5 v6 : Int32) (e : iv_dg r v5 = nI y) (h1 : ¬ v5 < 1) (h0 : ¬ v5 = 0) (h6 : v5 / 10 = v6) (σ : ix_St) (hf : σ 134 (6 * y + x) = nI f) : ix_S 110 1 25 [some (.ref 130), some (.int r), some (.int (nI w)), some (.int v3), some (.int (nI x)), some (.int v5)] [] (ix_S0 b, σ) = ix_S 110 1 25 [some (.ref 130), some (.int r), some (.int (nI (w + f))), some (.int v3), some (.int (nI x)), some (.int v6)] [] (ix_S0 b, σ) := by
  have e1 : (r / v5 - r / v5 / 10 * 10) * 6 + nI x = nI (6 * y + x) := by
    rw [show r / v5 - r / v5 / 10 * 10 = nI y from e, show (6 : Int32) = nI 6 from rfl, pk_mul, nI_add, Nat.mul_comm]
  rw [q_Poll_couplesAgainst_25, if_neg h1, if_neg h0, e1, if_neg (nI_in (by omega) (by omega)), nI_clamp (by omega), hf, h6, nI_add]
theorem f_ca_go (b : Bool) (r v2 v3 v4 : Int32) (x : Nat) (h : v3 / 10 = v4) (σ : ix_St) : ix_S 110 1 25 [some (.ref 130), some (.int r), some (.int v2), some (.int v3), some (.int (nI x)), some (.int 0)] [] (ix_S0 b, σ) = ix_S 110 1 6 [some (.ref 130), some (.int r), some (.int v2), some (.int v4), none, none] [] (ix_S0 b, σ) := by
  rw [q_Poll_couplesAgainst_25, if_pos (by decide), h]
theorem f_ca_in (b : Bool) (r v2 v3 : Int32) (x : Nat) (v6 : Int32) (h1 : ¬ v3 ≤ 1) (h0 : ¬ v3 = 0) (e : iv_dg r v3 = nI x) (h : v3 / 10 = v6) (σ : ix_St) : ix_S 110 1 6 [some (.ref 130), some (.int r), some (.int v2), some (.int v3), none, none] [] (ix_S0 b, σ) = ix_S 110 1 25 [some (.ref 130), some (.int r), some (.int v2), some (.int v3), some (.int (nI x)), some (.int v6)] [] (ix_S0 b, σ) := by
  rw [q_Poll_couplesAgainst_6, if_neg h1, if_neg h0, show r / v3 - r / v3 / 10 * 10 = nI x from e, h]
theorem f_ca (b : Bool) {σ : ix_St} {ra : Nat → Int32} {o n : Nat} (ht : iv_tb σ ra o (fun _ => 1) n) (hra : ∀ i, i < n → ra i ∈ ix_rnk) {r : Int32} (hr : r ∈ ix_rnk) : ix_F 110 [.ref 130, .int r] (ix_S0 b, σ) = some (.int (nI (iv_oa ra o r n)), (ix_S0 b, σ)) := by
  obtain ⟨g0, -, g1, g2, g3, g4⟩ := iv_d_dg r hr
  have l0 := (iv_d_la r hr 0 (by omega)).2.2
  have l1 := (iv_d_la r hr 1 (by omega)).2.2
  have l2 := (iv_d_la r hr 2 (by omega)).2.2
  have l3 := (iv_d_la r hr 3 (by omega)).2.2
  have l4 := (iv_d_la r hr 4 (by omega)).2.2
  have hf : ∀ m k, m < k → k < 5 → σ 134 (6 * iv_d r k + iv_d r m) = nI (iv_an ra o (6 * iv_d r m + iv_d r k) n) := by
    intro m k hm hk
    obtain ⟨x1, x5, y1, y5, hne⟩ := iv_d_rn hr hm hk
    rw [ht _ _ y1 y5 x1 x5 (Ne.symm hne), ← iv_an_ah, show (6 * iv_d r m + iv_d r k) % 6 = iv_d r k by omega, show (6 * iv_d r m + iv_d r k) / 6 = iv_d r m by omega]
  have hs := iv_oa_an (o := o) hr hra n (Nat.le_refl n)
  have e0 : ix_S 110 1 6 [some (.ref 130), some (.int r), some (.int (nI 0)), some (.int 10000), none, none] [] (ix_S0 b, σ) = some (.int (nI (0 + iv_an ra o (6 * iv_d r 0 + iv_d r 1) n + iv_an ra o (6 * iv_d r 0 + iv_d r 2) n + iv_an ra o (6 * iv_d r 0 + iv_d r 3) n + iv_an ra o (6 * iv_d r 0 + iv_d r 4) n + iv_an ra o (6 * iv_d r 1 + iv_d r 2) n + iv_an ra o (6 * iv_d r 1 + iv_d r 3) n + iv_an ra o (6 * iv_d r 1 + iv_d r 4) n + iv_an ra o (6 * iv_d r 2 + iv_d r 3) n + iv_an ra o (6 * iv_d r 2 + iv_d r 4) n + iv_an ra o (6 * iv_d r 3 + iv_d r 4) n)), (ix_S0 b, σ)) := by
    rw [f_ca_in b r _ 10000 (iv_d r 0) 1000 (by decide) (by decide) g0 (by decide),
      f_ca_st b r 10000 _ (iv_d r 0) (iv_d r 1) _ l0 l1 1000 100 g1 (by decide) (by decide) (by decide) σ (hf 0 1 (by omega) (by omega)),
      f_ca_st b r 10000 _ (iv_d r 0) (iv_d r 2) _ l0 l2 100 10 g2 (by decide) (by decide) (by decide) σ (hf 0 2 (by omega) (by omega)),
      f_ca_st b r 10000 _ (iv_d r 0) (iv_d r 3) _ l0 l3 10 1 g3 (by decide) (by decide) (by decide) σ (hf 0 3 (by omega) (by omega)),
      f_ca_st b r 10000 _ (iv_d r 0) (iv_d r 4) _ l0 l4 1 0 g4 (by decide) (by decide) (by decide) σ (hf 0 4 (by omega) (by omega)), f_ca_go b r _ 10000 1000 _ (by decide),
      f_ca_in b r _ 1000 (iv_d r 1) 100 (by decide) (by decide) g1 (by decide),
      f_ca_st b r 1000 _ (iv_d r 1) (iv_d r 2) _ l1 l2 100 10 g2 (by decide) (by decide) (by decide) σ (hf 1 2 (by omega) (by omega)),
      f_ca_st b r 1000 _ (iv_d r 1) (iv_d r 3) _ l1 l3 10 1 g3 (by decide) (by decide) (by decide) σ (hf 1 3 (by omega) (by omega)),
      f_ca_st b r 1000 _ (iv_d r 1) (iv_d r 4) _ l1 l4 1 0 g4 (by decide) (by decide) (by decide) σ (hf 1 4 (by omega) (by omega)), f_ca_go b r _ 1000 100 _ (by decide),
      f_ca_in b r _ 100 (iv_d r 2) 10 (by decide) (by decide) g2 (by decide),
      f_ca_st b r 100 _ (iv_d r 2) (iv_d r 3) _ l2 l3 10 1 g3 (by decide) (by decide) (by decide) σ (hf 2 3 (by omega) (by omega)),
      f_ca_st b r 100 _ (iv_d r 2) (iv_d r 4) _ l2 l4 1 0 g4 (by decide) (by decide) (by decide) σ (hf 2 4 (by omega) (by omega)), f_ca_go b r _ 100 10 _ (by decide),
      f_ca_in b r _ 10 (iv_d r 3) 1 (by decide) (by decide) g3 (by decide),
      f_ca_st b r 10 _ (iv_d r 3) (iv_d r 4) _ l3 l4 1 0 g4 (by decide) (by decide) (by decide) σ (hf 3 4 (by omega) (by omega)), f_ca_go b r _ 10 1 _ (by decide),
      q_Poll_couplesAgainst_6, if_pos (by decide)]
  rw [q_Poll_couplesAgainst_0]
  refine e0.trans ?_
  rw [← hs]
  unfold iv_cl
  simp only [List.map_cons, List.map_nil, List.sum_cons, List.sum_nil]
  have e2 : ∀ a0 a1 a2 a3 a4 a5 a6 a7 a8 a9 : Nat, 0 + a0 + a1 + a2 + a3 + a4 + a5 + a6 + a7 + a8 + a9 = a0 + (a1 + (a2 + (a3 + (a4 + (a5 + (a6 + (a7 + (a8 + (a9 + 0))))))))) := by intros; omega
  rw [e2]
theorem f_oaM (c : Bool) {σ τ : ix_St} {n o : Nat} (hV : iv_V σ τ n o) {r : Int32} (hr : r ∈ ix_rnk) : ∀ d j, j + d = n → ix_S 222 5 4 [some (.ref 135), some (.int r), some (.int (nI (iv_oa (σ 3) o r j))), some (.int (nI j))] [] (ix_S0 c, τ) = some (.int (nI (iv_oa (σ 3) o r n)), (ix_S0 c, τ)) := by
  obtain ⟨hn, h6, h7, m7, ho, hov, hrr⟩ := id hV
  intro d
  induction d with
  | zero =>
    intro j hj
    have : j = n := by omega
    subst this
    rw [q_M_otherwiseAll_4, m7, if_pos (nI_le (Nat.le_refl _) (by omega))]
  | succ d ih =>
    intro j hj
    have k0 : ¬ nI n ≤ nI j := nI_ge (by omega) (by omega)
    have a18 : (18 : Int32) + nI j = nI (18 + j) := nI_add 18 j
    have b18 : ¬ (nI (18 + j) < 0 ∨ 54 ≤ 18 + j) := iv_ni (by omega) (by omega)
    have c18 : (nI (18 + j)).toNatClampNeg = 18 + j := nI_clamp (by omega)
    have a6 : (6 : Int32) + nI j = nI (6 + j) := nI_add 6 j
    have b6 : ¬ (nI (6 + j) < 0 ∨ 54 ≤ 6 + j) := iv_ni (by omega) (by omega)
    have c6 : (nI (6 + j)).toNatClampNeg = 6 + j := nI_clamp (by omega)
    have hs := ih (j + 1) (by omega)
    have hrj := hrr j (by omega)
    have ha : ix_F 220 [.ref 135, .int r, .int (τ 136 (6 + j))] (ix_S0 c, τ) = some (.int (nI (iv_ot r (σ 3 j))), (ix_S0 c, τ)) := by
      rw [← hrj.1]; exact f_otM c hr hrj.2 τ
    rw [q_M_otherwiseAll_4]
    by_cases hb : o.testBit j = true
    · have z1 : ¬ iv_B (o.testBit j = true) = 0 := fun h => iv_B0.mp h hb
      simp only [m7, k0, a18, b18, c18, hov j (show j < 12 by omega), z1, nI_1, if_false]
      rw [show iv_oa (σ 3) o r (j + 1) = iv_oa (σ 3) o r j from if_pos hb] at hs
      exact hs
    · have z0 : iv_B (o.testBit j = true) = 0 := iv_Bf hb
      simp only [m7, k0, a18, b18, c18, a6, b6, c6, hov j (show j < 12 by omega), z0, ha, nI_1, nI_add, if_true, if_false, Option.bind_some, iv_tI]
      rw [show iv_oa (σ 3) o r (j + 1) = iv_oa (σ 3) o r j + iv_ot r (σ 3 j) from if_neg hb] at hs
      exact hs
theorem f_oa (c : Bool) {σ τ : ix_St} {n o : Nat} (hV : iv_V σ τ n o) {r : Int32} (hr : r ∈ ix_rnk) : ix_F 222 [.ref 135, .int r] (ix_S0 c, τ) = some (.int (nI (iv_oa (σ 3) o r n)), (ix_S0 c, τ)) := by
  rw [q_M_otherwiseAll_0]
  exact f_oaM c hV hr n 0 (by omega)
/-- the best of some ranks: which, and its couples -/
def iv_mf (g : Nat → Nat) : List Nat → Option Nat → Nat → Option Nat × Nat
  | [], r, w => (r, w)
  | x :: L, none, _ => iv_mf g L (some x) (g x)
  | x :: L, some y, w => if w ≤ g x then iv_mf g L (some y) w else iv_mf g L (some x) (g x)
theorem iv_mf_some (g : Nat → Nat) : ∀ (L : List Nat) (y w : Nat), ∃ z u, iv_mf g L (some y) w = (some z, u)
  | [], y, w => ⟨y, w, rfl⟩
  | x :: L, y, w => by
    show ∃ z u, (if w ≤ g x then iv_mf g L (some y) w else iv_mf g L (some x) (g x)) = (some z, u)
    by_cases h : w ≤ g x
    · rw [if_pos h]; exact iv_mf_some g L y w
    · rw [if_neg h]; exact iv_mf_some g L x (g x)
def iv_mr2 (v : Int32) (q : Option Nat × Nat) (u : Int32) : Int32 := if v = 0 then iv_oi q.1 else iv_la0 q.1 q.2 u
theorem f_nrX (b : Bool) {σ : ix_St} {g : Nat → Nat} (hX : ∀ r, r ∈ ix_rnk → ix_F 110 [.ref 130, .int r] (ix_S0 b, σ) = some (.int (nI (g r.toNatClampNeg)), (ix_S0 b, σ))) (hg : ∀ j, j < 120 → σ 1001 j = ix_rnk.getD j 0) (hg2 : ∀ x, g x < 2 ^ 31) (v : Int32) : ∀ d j (r : Option Nat) (w : Nat), j + d = 120 → (∀ y, r = some y → y < 2 ^ 31) → w < 2 ^ 31 → ix_S 100 2 17 [some (.ref 130), some (.int v), some (.int (iv_oi r)), some (.int (iv_la0 r w 0)), some (.ref 1001), some (.int (Int32.ofNat 120)), some (.int (nI j)), none, none] [] (ix_S0 b, σ) = some (.int (iv_mr2 v (iv_mf g (iv_rl.drop j) r w) 0), (ix_S0 b, σ)) := by
  intro d
  induction d with
  | zero =>
    intro j r w hj hy hw
    have : j = 120 := by omega
    subst this
    rw [q_Poll_nearestRank_17, if_pos (show Int32.ofNat 120 ≤ nI 120 by decide), show iv_rl.drop 120 = [] by decide +kernel]
    show _ = some (Value.int (if v = 0 then iv_oi r else iv_la0 r w 0), _)
    by_cases h : v = 0
    · rw [if_pos h, if_pos h]
    · rw [if_neg h, if_neg h]
  | succ d ih =>
    intro j r w hj hy hw
    obtain ⟨a1, a2, a3⟩ := iv_rl_at j (by omega)
    have h31 : iv_rl.getD j 0 < 2 ^ 31 := by have := (iv_rl_9 _ a3).2.2; omega
    have hr : nI (iv_rl.getD j 0) ∈ ix_rnk := (iv_rl_mem h31).mpr a3
    rw [q_Poll_nearestRank_17, if_neg (show ¬ Int32.ofNat 120 ≤ nI j from nI_ge (b := 120) (by omega) (by omega)), if_neg (nI_in (by omega) (by omega)), nI_clamp (by omega), hg j (by omega), a1, hX _ hr, nI_clamp h31, a2, nI_1]
    simp only [Option.bind_some, iv_tI]
    have hset := ih (j + 1) (some (iv_rl.getD j 0)) (g (iv_rl.getD j 0)) (by omega) (fun y h => by cases h; exact h31) (hg2 _)
    cases r with
    | none =>
      rw [if_pos (show iv_oi none = -1 from rfl)]
      exact hset
    | some y =>
      have y0 : ¬ iv_oi (some y) = -1 := iv_m1 (hy y rfl)
      rw [if_neg y0]
      show (if nI w ≤ nI (g (iv_rl.getD j 0)) then _ else _) = some (Value.int (iv_mr2 v (if w ≤ g (iv_rl.getD j 0) then iv_mf g (iv_rl.drop (j + 1)) (some y) w else iv_mf g (iv_rl.drop (j + 1)) (some (iv_rl.getD j 0)) (g (iv_rl.getD j 0))) 0), _)
      by_cases h : w ≤ g (iv_rl.getD j 0)
      · rw [if_pos ((nI_leI hw (hg2 _)).mpr h), if_pos h]
        exact ih (j + 1) (some y) w (by omega) hy hw
      · rw [if_neg (fun q => h ((nI_leI hw (hg2 _)).mp q)), if_neg h]
        exact hset
theorem f_nrM (c : Bool) {τ : ix_St} {g : Nat → Nat} (hM : ∀ r, r ∈ ix_rnk → ix_F 222 [.ref 135, .int r] (ix_S0 c, τ) = some (.int (nI (g r.toNatClampNeg)), (ix_S0 c, τ))) (hg2 : ∀ x, g x < 100000000) (v : Int32) : ∀ d x (r : Option Nat) (w : Nat), x + 9 * d = 54330 → w < 2 ^ 31 → ix_S 179 6 28 [some (.ref 135), some (.int v), some (.int (iv_oi r)), some (.int (iv_la0 r w 100000000)), some (.int (nI x)), none] [] (ix_S0 c, τ) = some (.int (iv_mr2 v (iv_mf g (iv_rl.filter (fun r => decide (x ≤ r))) r w) 100000000), (ix_S0 c, τ)) := by
  intro d
  induction d with
  | zero =>
    intro x r w hx hw
    have : x = 54330 := by omega
    subst this
    rw [q_M_middle_28, if_pos (show (54321 : Int32) < nI 54330 by decide), iv_fil_z]
    show _ = some (Value.int (if v = 0 then iv_oi r else iv_la0 r w 100000000), _)
    by_cases h : v = 0
    · rw [if_pos h, if_pos h]
    · rw [if_neg h, if_neg h]
  | succ d ih =>
    intro x r w hx hw
    have gx := hg2 x
    rw [q_M_middle_28, if_neg (show ¬ (54321 : Int32) < nI x from nI_nlt (b := x) (a := 54321) (by omega) (by omega)), f_isRankM, iv_fil_rl (by omega)]
    simp only [Option.bind_some, iv_tI]
    rw [show nI x + 9 = nI (x + 9) from nI_add x 9]
    by_cases hm : x ∈ iv_rl
    · have hr : nI x ∈ ix_rnk := (iv_rl_mem (by omega)).mpr hm
      have hset := ih (x + 9) (some x) (g x) (by omega) (by omega)
      rw [iv_Bt hr, if_neg (by decide), hM _ hr, nI_clamp (by omega), if_pos hm]
      simp only [Option.bind_some, iv_tI, q_M_lesser_0]
      cases r with
      | none =>
        have y1 : ¬ (100000000 : Int32) ≤ nI (g x) := nI_ge (b := 100000000) (by omega) (by omega)
        have y2 : nI (g x) ≤ (100000000 : Int32) := nI_le (b := 100000000) (by omega) (by omega)
        rw [if_neg (show ¬ iv_la0 none w 100000000 ≤ nI (g x) from y1), if_pos (show nI (g x) ≤ iv_la0 none w 100000000 from y2)]
        simp only [Option.bind_some, iv_tI]
        exact hset
      | some y =>
        show (if nI w ≤ nI (g x) then (Option.bind (if nI (g x) ≤ nI w then _ else _) _) else (Option.bind (if nI (g x) ≤ nI w then _ else _) _)) = some (Value.int (iv_mr2 v (if w ≤ g x then iv_mf g (iv_rl.filter (fun r => decide (x + 9 ≤ r))) (some y) w else iv_mf g (iv_rl.filter (fun r => decide (x + 9 ≤ r))) (some x) (g x)) 100000000), _)
        by_cases h : w ≤ g x
        · have hkeep := ih (x + 9) (some y) w (by omega) hw
          rw [if_pos ((nI_leI hw (by omega)).mpr h), if_pos h]
          by_cases h2 : nI (g x) ≤ nI w
          · have e : g x = w := by rw [nI_leI (by omega) hw] at h2; omega
            rw [if_pos h2]
            simp only [Option.bind_some, iv_tI]
            rw [e]
            exact hkeep
          · rw [if_neg h2]
            simp only [Option.bind_some, iv_tI]
            exact hkeep
        · rw [if_neg (fun q => h ((nI_leI hw (by omega)).mp q)), if_neg h, if_pos ((nI_leI (by omega) hw).mpr (by omega))]
          simp only [Option.bind_some, iv_tI]
          exact hset
    · rw [iv_Bf (fun q => hm ((iv_rl_mem (by omega)).mp q)), if_pos rfl, if_neg hm]
      exact ih (x + 9) r w (by omega) hw
theorem iv_kX_134 {σ σ' : ix_St} (h : ∀ z, z ≠ 134 → σ' z = σ z) : iv_kX σ σ' := fun c _ hs => h c (fun e => hs (by unfold iv_scX; omega))
theorem s_middle (E : ix_St) (hG : ∀ j, j < 120 → E 1001 j = ix_rnk.getD j 0) (v : Int32) : iv_S E 24 179 [.int v] := by
  intro k b c σ τ hk hE hR
  have hK := iv_R_keep iv_kX.rf (iv_kM_told τ 0) hR
  have hR0 := iv_R_told (v := 0) hR
  obtain ⟨n, o, hn, hw, -⟩ := iv_R_told (v := 0) hR
  have hV := iv_V_of hn hw
  rw [q_X_middle_0, q_M_middle_0, f_isIn]
  simp only [Option.bind_some, iv_tI]
  by_cases h1 : 0 ≤ v ∧ v ≤ 1
  · rw [if_neg (iv_nlt.mpr h1.1), if_pos h1.2, if_neg (fun h => iv_B0.mp h h1), q_Poll_compareByHeads_0]
    obtain ⟨σ1, e1, e2, e3⟩ := f_cmp b 0 (fun _ => 1) hV (Or.inl ⟨rfl, fun _ => rfl⟩)
    rw [e1]
    simp only [Option.bind_some]
    rw [q_Poll_nearestRank_0]
    have hle : ∀ x, iv_oa (σ 3) o (nI x) n < 100000000 := fun x => by have := iv_oa_le (σ 3) o (nI x) n; omega
    have x1 := f_nrX b (σ := σ1) (g := fun x => iv_oa (σ 3) o (nI x) n) (fun r hr => by rw [iv_rl_id r hr]; exact f_ca b e3 (fun i hi => (hV.2.2.2.2.2.2 i hi).2) hr) (fun j hj => by rw [e2 1001 (by decide), (hE 1001 (by omega)).1]; exact hG j hj) (fun x => by have := hle x; omega) v 120 0 none 0 (by omega) (fun y h => by cases h) (by omega)
    have x2 := f_nrM c (τ := ix_up τ 135 0 0) (g := fun x => iv_oa (σ 3) o (nI x) n) (fun r hr => by rw [iv_rl_id r hr]; exact f_oa c hV hr) hle v 4665 12345 none 0 (by omega) (by omega)
    rw [iv_fil_0] at x2
    have x1' : ix_S 100 2 17 [some (.ref 130), some (.int v), some (.int (-1)), some (.int 0), some (.ref 1001), some (.int (Int32.ofNat 120)), some (.int 0), none, none] [] (ix_S0 b, σ1) = _ := x1
    have x2' : ix_S 179 6 28 [some (.ref 135), some (.int v), some (.int (-1)), some (.int 100000000), some (.int 12345), none] [] (ix_S0 c, ix_up τ 135 0 0) = _ := x2
    rw [x1', x2', List.drop_zero]
    have hne : ∃ z u, iv_mf (fun x => iv_oa (σ 3) o (nI x) n) iv_rl none 0 = (some z, u) := by
      have hl : iv_rl = 12345 :: iv_rl.drop 1 := by decide +kernel
      rw [hl]
      exact iv_mf_some _ _ _ _
    obtain ⟨z, u, hz⟩ := hne
    rw [hz]
    exact ⟨_, b, _, _, rfl, rfl, iv_R_keep (iv_kX_134 e2) iv_kM.rf hR0⟩
  · rw [if_pos (iv_B0.mpr h1)]
    by_cases h2 : v < 0
    · rw [if_pos h2]
      exact ⟨_, b, _, _, rfl, rfl, hK⟩
    · rw [if_neg h2, if_neg (fun h => h1 ⟨iv_nlt.mp h2, h⟩)]
      exact ⟨_, b, _, _, rfl, rfl, hK⟩
