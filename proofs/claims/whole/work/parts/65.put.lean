/-! the ranks one after another; in which order lands are put -/
def iv_rl : List Nat := ix_rnk.map (fun r => r.toNatClampNeg)
theorem iv_rl_srt : iv_rl.Pairwise (fun a b => a < b) := by decide +kernel
theorem iv_rl_9 : ∀ r ∈ iv_rl, r % 9 = 6 ∧ 12345 ≤ r ∧ r ≤ 54321 := by decide +kernel
theorem iv_rl_id : ∀ r ∈ ix_rnk, nI r.toNatClampNeg = r := by decide +kernel
theorem iv_rl_at : ∀ j, j < 120 → ix_rnk.getD j 0 = nI (iv_rl.getD j 0) ∧ iv_rl.drop j = iv_rl.getD j 0 :: iv_rl.drop (j + 1) ∧ iv_rl.getD j 0 ∈ iv_rl := by decide +kernel
theorem iv_rl_mem {x : Nat} (hx : x < 2 ^ 31) : nI x ∈ ix_rnk ↔ x ∈ iv_rl := by
  unfold iv_rl
  rw [List.mem_map]
  constructor
  · intro h
    exact ⟨nI x, h, nI_clamp hx⟩
  · rintro ⟨r, h1, h2⟩
    rw [← h2, iv_rl_id r h1]
    exact h1
theorem iv_fil {x : Nat} : ∀ L : List Nat, L.Pairwise (fun a b => a < b) → (∀ r ∈ L, r % 9 = x % 9) → L.filter (fun r => decide (x ≤ r)) = if x ∈ L then x :: L.filter (fun r => decide (x + 9 ≤ r)) else L.filter (fun r => decide (x + 9 ≤ r))
  | [], _, _ => by rw [if_neg (by simp)]; rfl
  | a :: L, hp, h9 => by
    obtain ⟨hp1, hp2⟩ := List.pairwise_cons.mp hp
    have ih := iv_fil L hp2 (fun r hr => h9 r (List.mem_cons_of_mem _ hr))
    have ha := h9 a List.mem_cons_self
    by_cases h1 : a < x
    · rw [List.filter_cons_of_neg (by simp; omega), List.filter_cons_of_neg (by simp; omega), ih]
      by_cases h2 : x ∈ L
      · rw [if_pos h2, if_pos (List.mem_cons_of_mem _ h2)]
      · rw [if_neg h2, if_neg (fun h => (List.mem_cons.mp h).elim (fun e => by omega) h2)]
    · by_cases h2 : a = x
      · subst h2
        have hn : ¬ a ∈ L := fun h => by have := hp1 a h; omega
        rw [if_neg hn] at ih
        rw [List.filter_cons_of_pos (by simp), List.filter_cons_of_neg (by simp), ih, if_pos List.mem_cons_self]
      · have hn : ¬ x ∈ L := fun h => by have := hp1 x h; omega
        rw [if_neg hn] at ih
        rw [List.filter_cons_of_pos (by simp; omega), List.filter_cons_of_pos (by simp; omega), ih, if_neg (fun h => (List.mem_cons.mp h).elim (fun e => by omega) hn)]
theorem iv_fil_rl {x : Nat} (h : x % 9 = 6) : iv_rl.filter (fun r => decide (x ≤ r)) = if x ∈ iv_rl then x :: iv_rl.filter (fun r => decide (x + 9 ≤ r)) else iv_rl.filter (fun r => decide (x + 9 ≤ r)) := iv_fil iv_rl iv_rl_srt (fun r hr => by rw [(iv_rl_9 r hr).1, h])
theorem iv_fil_0 : iv_rl.filter (fun r => decide (12345 ≤ r)) = iv_rl := by decide +kernel
theorem iv_fil_z : iv_rl.filter (fun r => decide (54330 ≤ r)) = [] := by decide +kernel
/-- what wins if lands are put by a rank -/
def iv_pn (B : Nat → Nat → Int32) (r : Int32) (m k : Nat) : Nat := if 0 ≤ B (iv_d r m) (iv_d r k) then m else k
def iv_pw (B : Nat → Nat → Int32) (r : Int32) : Nat := iv_d r (iv_pn B r (iv_pn B r (iv_pn B r (iv_pn B r 0 1) 2) 3) 4)
theorem iv_pn_le (B : Nat → Nat → Int32) (r : Int32) {m k : Nat} (h : m < k) : iv_pn B r m k ≤ k := by
  unfold iv_pn
  split <;> omega
theorem iv_d_rn {r : Int32} (hr : r ∈ ix_rnk) {m k : Nat} (hm : m < k) (hk : k < 5) : iv_rn (iv_d r m) (iv_d r k) := by
  have h1 := (iv_d_la r hr m (by omega)).2
  have h2 := (iv_d_la r hr k hk).2
  refine ⟨h1.1, h1.2, h2.1, h2.2, fun e => ?_⟩
  have e1 := iv_ps_d r hr m (by omega)
  have e2 := iv_ps_d r hr k hk
  rw [e] at e1
  omega
theorem f_wo_st (b : Bool) {σ : ix_St} {B : Nat → Nat → Int32} (hX : ∀ x y, iv_rn x y → ix_F 92 [.ref 130, .int (nI x), .int (nI y)] (ix_S0 b, σ) = some (.int (B x y), (ix_S0 b, σ))) {r : Int32} (hr : r ∈ ix_rnk) {m k : Nat} (hm : m < k) (hk : k < 5) (u u' : Int32) (e : iv_dg r u = nI (iv_d r k)) (h1 : ¬ u < 1) (h0 : ¬ u = 0) (h : u / 10 = u') : ix_S 109 2 9 [some (.ref 130), some (.int r), some (.int (nI (iv_d r m))), some (.int u), none] [] (ix_S0 b, σ) = ix_S 109 2 9 [some (.ref 130), some (.int r), some (.int (nI (iv_d r (iv_pn B r m k)))), some (.int u'), none] [] (ix_S0 b, σ) := by
  have e' : r / u - r / u / 10 * 10 = nI (iv_d r k) := e
  rw [q_Poll_winnerInOrder_9, if_neg h1, if_neg h0, e', hX _ _ (iv_d_rn hr hm hk), h]
  simp only [Option.bind_some, iv_tI]
  unfold iv_pn
  by_cases h3 : 0 ≤ B (iv_d r m) (iv_d r k)
  · rw [if_pos h3, if_pos h3]
  · rw [if_neg h3, if_neg h3]
theorem f_wo (b : Bool) {σ : ix_St} {B : Nat → Nat → Int32} (hX : ∀ x y, iv_rn x y → ix_F 92 [.ref 130, .int (nI x), .int (nI y)] (ix_S0 b, σ) = some (.int (B x y), (ix_S0 b, σ))) {r : Int32} (hr : r ∈ ix_rnk) : ix_F 109 [.ref 130, .int r] (ix_S0 b, σ) = some (.int (nI (iv_pw B r)), (ix_S0 b, σ)) := by
  obtain ⟨-, g0, g1, g2, g3, g4⟩ := iv_d_dg r hr
  have p1 := iv_pn_le B r (show 0 < 1 by omega)
  have p2 := iv_pn_le B r (show iv_pn B r 0 1 < 2 by omega)
  have p3 := iv_pn_le B r (show iv_pn B r (iv_pn B r 0 1) 2 < 3 by omega)
  rw [q_Poll_winnerInOrder_0, q_X_firstOf_0, g0]
  simp only [Option.bind_some, iv_tI]
  rw [f_wo_st b hX hr (show 0 < 1 by omega) (by omega) 1000 100 g1 (by decide) (by decide) (by decide), f_wo_st b hX hr (show iv_pn B r 0 1 < 2 by omega) (by omega) 100 10 g2 (by decide) (by decide) (by decide), f_wo_st b hX hr (show iv_pn B r (iv_pn B r 0 1) 2 < 3 by omega) (by omega) 10 1 g3 (by decide) (by decide) (by decide), f_wo_st b hX hr (show iv_pn B r (iv_pn B r (iv_pn B r 0 1) 2) 3 < 4 by omega) (by omega) 1 0 g4 (by decide) (by decide) (by decide), q_Poll_winnerInOrder_9, if_pos (by decide)]
  rfl
theorem f_pb_st (c : Bool) {τ : ix_St} {B : Nat → Nat → Int32} (hM : ∀ x y, iv_rn x y → τ 160 (6 * x + y) = B x y) {r : Int32} (hr : r ∈ ix_rnk) {m k : Nat} (hm : m < k) (hk : k < 5) : ix_S 248 2 9 [some (.ref 135), some (.int r), some (.int (nI (iv_d r m))), some (.int (nI k))] [] (ix_S0 c, τ) = ix_S 248 2 9 [some (.ref 135), some (.int r), some (.int (nI (iv_d r (iv_pn B r m k)))), some (.int (nI (k + 1)))] [] (ix_S0 c, τ) := by
  have hrn := iv_d_rn hr hm hk
  obtain ⟨x1, x5, y1, y5, -⟩ := id hrn
  have e6 : (6 : Int32) * nI (iv_d r m) + nI (iv_d r k) = nI (6 * iv_d r m + iv_d r k) := by rw [show (6 : Int32) = nI 6 from rfl, pk_mul, nI_add]
  rw [q_M_putBy_9, if_neg (show ¬ (5 : Int32) ≤ nI k from nI_ge (b := 5) (by omega) (by omega)), f_landAt c r hk, (iv_d_la r hr k hk).1]
  simp only [Option.bind_some, iv_tI]
  rw [e6, if_neg (nI_in (by omega) (by omega)), nI_clamp (by omega), hM _ _ hrn, f_landAt c r hk, (iv_d_la r hr k hk).1, nI_1]
  simp only [Option.bind_some, iv_tI]
  unfold iv_pn
  by_cases h3 : 0 ≤ B (iv_d r m) (iv_d r k)
  · rw [if_pos h3, if_pos h3]
  · rw [if_neg h3, if_neg h3]
theorem f_pb (c : Bool) {τ : ix_St} {B : Nat → Nat → Int32} (hM : ∀ x y, iv_rn x y → τ 160 (6 * x + y) = B x y) {r : Int32} (hr : r ∈ ix_rnk) : ix_F 248 [.ref 135, .int r] (ix_S0 c, τ) = some (.int (nI (iv_pw B r)), (ix_S0 c, τ)) := by
  have p1 := iv_pn_le B r (show 0 < 1 by omega)
  have p2 := iv_pn_le B r (show iv_pn B r 0 1 < 2 by omega)
  have p3 := iv_pn_le B r (show iv_pn B r (iv_pn B r 0 1) 2 < 3 by omega)
  rw [q_M_putBy_0, f_landAt0, (iv_d_la r hr 0 (by omega)).1]
  simp only [Option.bind_some, iv_tI]
  rw [show (1 : Int32) = nI 1 from rfl, f_pb_st c hM hr (show 0 < 1 by omega) (by omega), f_pb_st c hM hr (show iv_pn B r 0 1 < 2 by omega) (by omega), f_pb_st c hM hr (show iv_pn B r (iv_pn B r 0 1) 2 < 3 by omega) (by omega), f_pb_st c hM hr (show iv_pn B r (iv_pn B r (iv_pn B r 0 1) 2) 3 < 4 by omega) (by omega), q_M_putBy_9, if_pos (show (5 : Int32) ≤ nI (4 + 1) by decide)]
  rfl
/-- the first of some ranks by which a land wins -/
def iv_pf (B : Nat → Nat → Int32) (l : Nat) : List Nat → Int32
  | [] => -1
  | r :: L => if iv_pw B (nI r) = l then nI r else iv_pf B l L
theorem iv_pw_5 (B : Nat → Nat → Int32) {r : Int32} (hr : r ∈ ix_rnk) : iv_pw B r ≤ 5 := by
  have p1 := iv_pn_le B r (show 0 < 1 by omega)
  have p2 := iv_pn_le B r (show iv_pn B r 0 1 < 2 by omega)
  have p3 := iv_pn_le B r (show iv_pn B r (iv_pn B r 0 1) 2 < 3 by omega)
  have p4 := iv_pn_le B r (show iv_pn B r (iv_pn B r (iv_pn B r 0 1) 2) 3 < 4 by omega)
  exact (iv_d_la r hr _ (by omega)).2.2
theorem f_orderX (b : Bool) {σ : ix_St} {B : Nat → Nat → Int32} (hX : ∀ x y, iv_rn x y → ix_F 92 [.ref 130, .int (nI x), .int (nI y)] (ix_S0 b, σ) = some (.int (B x y), (ix_S0 b, σ))) (hg : ∀ j, j < 120 → σ 1001 j = ix_rnk.getD j 0) {l : Nat} (hl : l ≤ 5) : ∀ d j, j + d = 120 → ix_S 96 3 10 [some (.ref 130), some (.int (nI l)), some (.ref 1001), some (.int (Int32.ofNat 120)), some (.int (nI j)), none] [] (ix_S0 b, σ) = some (.int (iv_pf B l (iv_rl.drop j)), (ix_S0 b, σ)) := by
  intro d
  induction d with
  | zero =>
    intro j hj
    have : j = 120 := by omega
    subst this
    rw [q_Poll_orderFor_10, if_pos (show Int32.ofNat 120 ≤ nI 120 by decide), show iv_rl.drop 120 = [] by decide +kernel]
    rfl
  | succ d ih =>
    intro j hj
    obtain ⟨a1, a2, a3⟩ := iv_rl_at j (by omega)
    have hr : nI (iv_rl.getD j 0) ∈ ix_rnk := (iv_rl_mem (by have := (iv_rl_9 _ a3).2.2; omega)).mpr a3
    have h5 := iv_pw_5 B hr
    rw [q_Poll_orderFor_10, if_neg (show ¬ Int32.ofNat 120 ≤ nI j from nI_ge (b := 120) (by omega) (by omega)), if_neg (nI_in (by omega) (by omega)), nI_clamp (by omega), hg j (by omega), a1, f_wo b hX hr, a2, nI_1]
    simp only [Option.bind_some, iv_tI]
    show _ = some (Value.int (if iv_pw B (nI (iv_rl.getD j 0)) = l then nI (iv_rl.getD j 0) else iv_pf B l (iv_rl.drop (j + 1))), _)
    by_cases e : iv_pw B (nI (iv_rl.getD j 0)) = l
    · rw [if_pos (by rw [e]), if_pos e]
    · rw [if_neg (fun q => e ((nI_eq (by omega) (by omega)).mp q)), if_neg e]
      exact ih (j + 1) (by omega)
theorem f_orderM (c : Bool) {τ : ix_St} {B : Nat → Nat → Int32} (hM : ∀ x y, iv_rn x y → τ 160 (6 * x + y) = B x y) {l : Nat} (hl : l ≤ 5) : ∀ d x, x + 9 * d = 54330 → ix_S 216 5 54 [some (.ref 135), some (.int (nI l)), some (.int (nI x)), none] [] (ix_S0 c, τ) = some (.int (iv_pf B l (iv_rl.filter (fun r => decide (x ≤ r)))), (ix_S0 c, τ)) := by
  intro d
  induction d with
  | zero =>
    intro x hx
    have : x = 54330 := by omega
    subst this
    rw [q_M_putFor_54, if_pos (show (54321 : Int32) < nI 54330 by decide), iv_fil_z]
    rfl
  | succ d ih =>
    intro x hx
    have h := ih (x + 9) (by omega)
    rw [q_M_putFor_54, if_neg (show ¬ (54321 : Int32) < nI x from nI_nlt (b := x) (a := 54321) (by omega) (by omega)), f_isRankM, iv_fil_rl (by omega)]
    simp only [Option.bind_some, iv_tI]
    rw [show nI x + 9 = nI (x + 9) from nI_add x 9]
    by_cases hm : x ∈ iv_rl
    · have hr : nI x ∈ ix_rnk := (iv_rl_mem (by omega)).mpr hm
      have h5 := iv_pw_5 B hr
      rw [iv_Bt hr, if_neg (by decide), f_pb c hM hr, if_pos hm]
      simp only [Option.bind_some, iv_tI]
      show _ = some (Value.int (if iv_pw B (nI x) = l then nI x else iv_pf B l _), _)
      by_cases e : iv_pw B (nI x) = l
      · rw [if_pos (by rw [e]), if_pos e]
      · rw [if_neg (fun q => e ((nI_eq (by omega) (by omega)).mp q)), if_neg e]
        exact h
    · rw [iv_Bf (fun q => hm ((iv_rl_mem (by omega)).mp q)), if_pos rfl, if_neg hm]
      exact h
/-- the reference's table of who beats whom -/
theorem f_beat1 (c : Bool) (v : Int32) {σ : ix_St} {n o x : Nat} {sh : Nat → Nat} (hx : 1 ≤ x) (hx5 : x ≤ 5) : ∀ d y τ, y + d = 6 → 1 ≤ y → iv_V σ τ n o → iv_L σ τ n o sh → ∃ τ', ix_S 216 5 10 [some (.ref 135), some (.int v), some (.int (nI x)), some (.int (nI y))] [] (ix_S0 c, τ) = ix_S 216 5 2 [some (.ref 135), some (.int v), some (.int (nI (x + 1))), none] [] (ix_S0 c, τ') ∧ (∀ z, z ≠ 160 → τ' z = τ z) ∧ (∀ k, k < 6 * x + y → τ' 160 k = τ 160 k) ∧ ∀ z, y ≤ z → iv_rn x z → τ' 160 (6 * x + z) = iv_bb (σ 3) o sh x z n := by
  intro d
  induction d with
  | zero =>
    intro y τ hy h1 hV hL
    have : y = 6 := by omega
    subst this
    refine ⟨τ, ?_, fun _ _ => rfl, fun _ _ => rfl, fun z hz hr => by have := hr.2.2.2.1; omega⟩
    rw [q_M_putFor_10, if_pos (show (6 : Int32) ≤ nI 6 by decide), nI_1]
  | succ d ih =>
    intro y τ hy h1 hV hL
    have k6 : ¬ (6 : Int32) ≤ nI y := nI_ge (b := 6) (by omega) (by omega)
    by_cases e : x = y
    · obtain ⟨τ', p1, p2, p3, p4⟩ := ih (y + 1) τ (by omega) (by omega) hV hL
      refine ⟨τ', ?_, p2, fun k hk => p3 k (by omega), fun z hz hr => p4 z (by have := hr.2.2.2.2; omega) hr⟩
      rw [q_M_putFor_10, if_neg k6, if_pos (by rw [e]), nI_1]
      exact p1
    · have hr : iv_rn x y := ⟨hx, hx5, h1, by omega, e⟩
      have e6 : (6 : Int32) * nI x + nI y = nI (6 * x + y) := by rw [show (6 : Int32) = nI 6 from rfl, pk_mul, nI_add]
      obtain ⟨τ', p1, p2, p3, p4⟩ := ih (y + 1) (ix_up τ 160 (6 * x + y) (iv_bb (σ 3) o sh x y n)) (by omega) (by omega) (iv_V_cong rfl rfl (by rw [iv_upn (by decide)]) (iv_upn (by decide)) hV) (iv_L_cong rfl (iv_upn (by decide)) hL)
      refine ⟨τ', ?_, fun z hz => (p2 z hz).trans (iv_upn hz), fun k hk => ?_, fun z hz hrz => ?_⟩
      · rw [q_M_putFor_10, if_neg k6, if_neg (fun q => e ((nI_eq (by omega) (by omega)).mp q)), f_bb c hV hL hr, nI_1]
        simp only [Option.bind_some, iv_tI]
        rw [e6, if_neg (nI_in (by omega) (by omega)), nI_clamp (by omega)]
        exact p1
      · rw [p3 k (by omega)]
        show upd (τ 160) (6 * x + y) _ k = _
        rw [pk_un (by omega)]
      · by_cases ez : z = y
        · rw [ez, p3 (6 * x + y) (by omega)]
          show upd (τ 160) (6 * x + y) _ (6 * x + y) = _
          rw [pk_us]
        · exact p4 z (by omega) hrz
theorem f_beat (c : Bool) (v : Int32) {σ : ix_St} {n o : Nat} {sh : Nat → Nat} : ∀ d x τ, x + d = 6 → 1 ≤ x → iv_V σ τ n o → iv_L σ τ n o sh → ∃ τ', ix_S 216 5 2 [some (.ref 135), some (.int v), some (.int (nI x)), none] [] (ix_S0 c, τ) = ix_S 216 5 54 [some (.ref 135), some (.int v), some (.int 12345), none] [] (ix_S0 c, τ') ∧ (∀ z, z ≠ 160 → τ' z = τ z) ∧ (∀ k, k < 6 * x + 1 → τ' 160 k = τ 160 k) ∧ ∀ y z, x ≤ y → iv_rn y z → τ' 160 (6 * y + z) = iv_bb (σ 3) o sh y z n := by
  intro d
  induction d with
  | zero =>
    intro x τ hx h1 hV hL
    have : x = 6 := by omega
    subst this
    refine ⟨τ, ?_, fun _ _ => rfl, fun _ _ => rfl, fun y z hy hr => by have := hr.2.1; omega⟩
    rw [q_M_putFor_2, if_pos (show (6 : Int32) ≤ nI 6 by decide)]
  | succ d ih =>
    intro x τ hx h1 hV hL
    have k6 : ¬ (6 : Int32) ≤ nI x := nI_ge (b := 6) (by omega) (by omega)
    obtain ⟨τ1, q1, q2, q3, q4⟩ := f_beat1 c v h1 (by omega) 5 1 τ (by omega) (by omega) hV hL
    obtain ⟨τ', p1, p2, p3, p4⟩ := ih (x + 1) τ1 (by omega) (by omega) (iv_V_cong rfl rfl (by rw [q2 135 (by decide)]) (q2 136 (by decide)) hV) (iv_L_cong rfl (q2 159 (by decide)) hL)
    refine ⟨τ', ?_, fun z hz => (p2 z hz).trans (q2 z hz), fun k hk => (p3 k (by omega)).trans (q3 k hk), fun y z hy hr => ?_⟩
    · rw [q_M_putFor_2, if_neg k6]
      exact q1.trans p1
    · by_cases e : y = x
      · subst e
        rw [p3 _ (by have := hr.2.2.2.1; omega)]
        exact q4 z hr.2.2.1 hr
      · exact p4 y z (by omega) hr
theorem f_put5 (b c : Bool) {σ σ' τ : ix_St} {n o l : Nat} {sh : Nat → Nat} (hV : iv_V σ τ n o) (hL : iv_L σ τ n o sh) (hX : ∀ x y, iv_rn x y → ix_F 92 [.ref 130, .int (nI x), .int (nI y)] (ix_S0 b, σ') = some (.int (iv_bb (σ 3) o sh x y n), (ix_S0 b, σ'))) (hg : ∀ j, j < 120 → σ' 1001 j = ix_rnk.getD j 0) (hl : l ≤ 5) : ∃ r τ', ix_F 96 [.ref 130, .int (nI l)] (ix_S0 b, σ') = some (.int r, (ix_S0 b, σ')) ∧ ix_F 216 [.ref 135, .int (nI l)] (ix_S0 c, τ) = some (.int r, (ix_S0 c, τ')) ∧ ∀ z, z ≠ 160 → τ' z = τ z := by
  obtain ⟨τ', p1, p2, -, p4⟩ := f_beat c (nI l) 5 1 τ (by omega) (by omega) hV hL
  have h1 := f_orderX b hX hg hl 120 0 (by omega)
  have h2 := f_orderM c (fun x y hr => p4 x y hr.1 hr) hl 4665 12345 (by omega)
  refine ⟨iv_pf (fun x y => iv_bb (σ 3) o sh x y n) l iv_rl, τ', ?_, ?_, p2⟩
  · rw [q_Poll_orderFor_0]
    exact h1
  · rw [q_M_putFor_0]
    rw [iv_fil_0] at h2
    exact p1.trans h2
theorem iv_m10 {v : Int32} (h : ¬ v ≤ 10) : (1 ≤ v - 10 ∧ v - 10 ≤ 5) ↔ (11 ≤ v ∧ v ≤ 15) := by
  have h0 : ¬ v < 0 := by
    intro q
    refine h ?_
    rw [iv_lt] at q
    rw [iv_le]
    have e1 : (0 : Int32).toInt = 0 := by decide
    have e2 : (10 : Int32).toInt = 10 := by decide
    omega
  obtain ⟨k, hk, rfl⟩ := nI_of h0
  rw [show (10 : Int32) = nI 10 from rfl, nI_leI hk (by omega)] at h
  rw [show (10 : Int32) = nI 10 from rfl, pk_sub (by omega), show (1 : Int32) = nI 1 from rfl, show (5 : Int32) = nI 5 from rfl, show (11 : Int32) = nI 11 from rfl, show (15 : Int32) = nI 15 from rfl, nI_leI (by omega) (by omega), nI_leI (by omega) (by omega), nI_leI (by omega) (by omega), nI_leI (by omega) (by omega)]
  omega
theorem iv_m20 {v : Int32} (h : ¬ v ≤ 20) : (1 ≤ v - 20 ∧ v - 20 ≤ 5) ↔ (21 ≤ v ∧ v ≤ 25) := by
  have h0 : ¬ v < 0 := by
    intro q
    refine h ?_
    rw [iv_lt] at q
    rw [iv_le]
    have e1 : (0 : Int32).toInt = 0 := by decide
    have e2 : (20 : Int32).toInt = 20 := by decide
    omega
  obtain ⟨k, hk, rfl⟩ := nI_of h0
  rw [show (20 : Int32) = nI 20 from rfl, nI_leI hk (by omega)] at h
  rw [show (20 : Int32) = nI 20 from rfl, pk_sub (by omega), show (1 : Int32) = nI 1 from rfl, show (5 : Int32) = nI 5 from rfl, show (21 : Int32) = nI 21 from rfl, show (25 : Int32) = nI 25 from rfl, nI_leI (by omega) (by omega), nI_leI (by omega) (by omega), nI_leI (by omega) (by omega), nI_leI (by omega) (by omega)]
  omega
theorem iv_le_tr {a b c : Int32} (h1 : a ≤ b) (h2 : b ≤ c) : a ≤ c := by rw [iv_le] at *; omega
theorem iv_kM_p {τ τ1 τ2 : ix_St} (h : ∀ z, z ≠ 156 → z ≠ 157 → z ≠ 159 → τ1 z = τ z) (h2 : ∀ z, z ≠ 158 → z ≠ 160 → τ2 z = τ1 z) : iv_kM τ τ2 := ⟨fun c _ _ hs => by
  have hs' : c ≠ 156 ∧ c ≠ 157 ∧ c ≠ 158 ∧ c ≠ 159 ∧ c ≠ 160 := by
    unfold iv_scM at hs
    omega
  exact (h2 c hs'.2.2.1 hs'.2.2.2.2).trans (h c hs'.1 hs'.2.1 hs'.2.2.2.1), fun i _ => by rw [h2 135 (by omega) (by omega), h 135 (by omega) (by omega) (by omega)]⟩
theorem s_wins (E : ix_St) (hG : ∀ j, j < 120 → E 1001 j = ix_rnk.getD j 0) (v : Int32) : iv_S E 20 175 [.int v] := by
  intro k b c σ τ hk hE hR
  have hR0 := iv_R_told (v := 0) hR
  obtain ⟨n, o, hn, hw, -⟩ := iv_R_told (v := 0) hR
  obtain ⟨σ1, τ1, sh, e1, e2, hV, hL, e3, e4⟩ := f_poll b c hn hw
  obtain ⟨σ2, g1, g2, g3⟩ := f_cs b hV hL
  have kX : ∀ σ3, (∀ z, z < 130 → σ3 z = σ1 z) → iv_kX σ σ3 := fun σ3 h => iv_kX_p e3 h
  have kX2 : iv_kX σ σ2 := kX σ2 (fun z hz => g2 z (by omega))
  have kM1 : iv_kM (ix_up τ 135 0 0) τ1 := iv_kM_159 e4
  rw [q_X_wins_0, q_M_wins_0, e1, e2]
  simp only [Option.bind_some]
  by_cases h0 : v = 0
  · subst h0
    obtain ⟨r, c1, c2⟩ := f_champ b c g3 (fun x y hxy => f_bb c hV hL hxy)
    rw [if_neg (by decide), if_pos (by decide), g1, if_pos rfl]
    simp only [Option.bind_some]
    rw [if_pos trivial, c1, c2]
    exact ⟨r, b, _, _, rfl, rfl, iv_R_keep kX2 kM1 hR0⟩
  · rw [if_neg h0]
    by_cases h1 : v = 1
    · subst h1
      obtain ⟨r, σ3, τ3, c1, c2, c3, c4⟩ := f_last b c hV hL
      rw [if_pos rfl, if_pos rfl, c1, c2]
      exact ⟨r, b, _, _, rfl, rfl, iv_R_keep (kX σ3 (fun z hz => c3 z (by omega))) (iv_kM_p e4 (fun z h1 _ => c4 z h1)) hR0⟩
    · rw [if_neg h1, if_neg h1, f_isIn]
      simp only [Option.bind_some, iv_tI]
      by_cases h2 : v ≤ 10
      · have n1 : ¬ (11 ≤ v ∧ v ≤ 15) := fun h => absurd (iv_le_tr h.1 h2) (by decide)
        have n2 : ¬ (21 ≤ v ∧ v ≤ 25) := fun h => absurd (iv_le_tr h.1 h2) (by decide)
        rw [if_pos h2, g1, if_pos (iv_B0.mpr n1), f_isIn]
        simp only [Option.bind_some, iv_tI]
        rw [if_neg h0, if_pos (iv_le_tr h2 (by decide)), if_pos (iv_B0.mpr n2)]
        exact ⟨_, b, _, _, rfl, rfl, iv_R_keep kX2 kM1 hR0⟩
      · rw [if_neg h2, f_isLand]
        simp only [Option.bind_some, iv_tI]
        by_cases h3 : 11 ≤ v ∧ v ≤ 15
        · have h3' := (iv_m10 h2).mpr h3
          obtain ⟨l, l1, l5, el⟩ := iv_rng1 (m := 5) (by omega) h3'
          obtain ⟨r, c1, c2⟩ := f_points b c hV hL l1 l5 n 0 0 (by omega)
          have c1' : ix_S 94 2 4 [some (.ref 130), some (.int (nI l)), some (.int 0), some (.int 0), none, none] [] (ix_S0 b, σ1) = _ := c1
          have c2' : ix_S 215 3 4 [some (.ref 135), some (.int (nI l)), some (.int 0), some (.int 0)] [] (ix_S0 c, τ1) = _ := c2
          rw [if_neg (fun h => iv_B0.mp h h3'), if_neg (fun h => iv_B0.mp h h3), el, q_Poll_points_0, q_M_pointsOf_0, c1', c2']
          exact ⟨r, b, _, _, rfl, rfl, iv_R_keep (kX σ1 (fun _ _ => rfl)) kM1 hR0⟩
        · rw [if_pos (iv_B0.mpr (fun h => h3 ((iv_m10 h2).mp h))), g1, if_pos (iv_B0.mpr h3), f_isIn]
          simp only [Option.bind_some, iv_tI]
          rw [if_neg h0]
          by_cases h4 : v ≤ 20
          · rw [if_pos h4, if_pos (iv_B0.mpr (fun h => absurd (iv_le_tr h.1 h4) (by decide)))]
            exact ⟨_, b, _, _, rfl, rfl, iv_R_keep kX2 kM1 hR0⟩
          · rw [if_neg h4, f_isLand]
            simp only [Option.bind_some, iv_tI]
            by_cases h5 : 21 ≤ v ∧ v ≤ 25
            · have h5' := (iv_m20 h4).mpr h5
              obtain ⟨l, l1, l5, el⟩ := iv_rng1 (m := 5) (by omega) h5'
              have hg1 : σ2 1001 = E 1001 := (g2 1001 (by decide)).trans ((e3 1001 (by decide) (by decide) (by decide)).trans (hE 1001 (by omega)).1)
              obtain ⟨r, τ3, c1, c2, c3⟩ := f_put5 b c hV hL g3 (by rw [hg1]; exact hG) l5
              rw [if_neg (fun h => iv_B0.mp h h5'), if_neg (fun h => iv_B0.mp h h5), el, c1, c2]
              exact ⟨r, b, _, _, rfl, rfl, iv_R_keep kX2 (iv_kM_p e4 (fun z _ h2 => c3 z h2)) hR0⟩
            · rw [if_pos (iv_B0.mpr (fun h => h5 ((iv_m20 h4).mp h))), if_pos (iv_B0.mpr h5)]
              exact ⟨_, b, _, _, rfl, rfl, iv_R_keep kX2 kM1 hR0⟩
