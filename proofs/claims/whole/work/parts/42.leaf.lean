/-! small methods of both: what they answer -/
theorem f_isIn (b : Bool) (v lo hi : Int32) (σ : ix_St) : ix_F 189 [.ref 135, .int v, .int lo, .int hi] (ix_S0 b, σ) = some (.int (iv_B (lo ≤ v ∧ v ≤ hi)), (ix_S0 b, σ)) := by
  rw [q_M_isIn_0]
  by_cases h1 : v < lo
  · rw [if_pos h1, iv_Bf (fun h => absurd h.1 (iv_nle.mpr h1))]
  · rw [if_neg h1]
    by_cases h2 : hi < v
    · rw [if_pos h2, iv_Bf (fun h => absurd h.2 (iv_nle.mpr h2))]
    · rw [if_neg h2, iv_Bt ⟨iv_nlt.mp h1, iv_nlt.mp h2⟩]
theorem f_isDigit (b : Bool) (v : Int32) (σ : ix_St) : ix_F 34 [.int v] (ix_S0 b, σ) = some (.int (iv_B (0 ≤ v ∧ v ≤ 9)), (ix_S0 b, σ)) := by
  rw [q_X_isDigit_0]
  by_cases h1 : v < 0
  · rw [if_pos h1, iv_Bf (fun h => absurd h.1 (iv_nle.mpr h1))]
  · rw [if_neg h1]
    by_cases h2 : 9 < v
    · rw [if_pos h2, iv_Bf (fun h => absurd h.2 (iv_nle.mpr h2))]
    · rw [if_neg h2, iv_Bt ⟨iv_nlt.mp h1, iv_nlt.mp h2⟩]
theorem iv_6 {x : Int32} : x < 6 ↔ x ≤ 5 := by
  rw [iv_lt, iv_le]
  have h1 : (6 : Int32).toInt = 6 := by decide
  have h2 : (5 : Int32).toInt = 5 := by decide
  omega
theorem f_isLand (b : Bool) (v : Int32) (σ : ix_St) : ix_F 35 [.int v] (ix_S0 b, σ) = some (.int (iv_B (1 ≤ v ∧ v ≤ 5)), (ix_S0 b, σ)) := by
  rw [q_X_isLand_0]
  by_cases h1 : v < 1
  · rw [if_pos h1, iv_Bf (fun h => absurd h.1 (iv_nle.mpr h1))]
  · rw [if_neg h1]
    by_cases h2 : 6 ≤ v
    · rw [if_pos h2, iv_Bf (fun h => absurd (iv_6.mpr h.2) (iv_nlt.mpr h2))]
    · rw [if_neg h2, iv_Bt ⟨iv_nlt.mp h1, iv_6.mp (iv_nle.mp h2)⟩]
/-- the digit of an int at a place, as the reference reads it -/
def iv_la (v : Int32) : Nat → Int32
  | 0 => v / 10 / 10 / 10 / 10 - v / 10 / 10 / 10 / 10 / 10 * 10
  | 1 => v / 10 / 10 / 10 - v / 10 / 10 / 10 / 10 * 10
  | 2 => v / 10 / 10 - v / 10 / 10 / 10 * 10
  | 3 => v / 10 - v / 10 / 10 * 10
  | _ => v - v / 10 * 10
/-- .. as the class reads it -/
def iv_dg (v u : Int32) : Int32 := v / u - v / u / 10 * 10
theorem iv_lt5 {k : Nat} (h : k < 5) : k = 0 ∨ k = 1 ∨ k = 2 ∨ k = 3 ∨ k = 4 := by omega
theorem f_landAt (b : Bool) (v : Int32) {k : Nat} (hk : k < 5) (σ : ix_St) : ix_F 230 [.ref 135, .int v, .int (nI k)] (ix_S0 b, σ) = some (.int (iv_la v k), (ix_S0 b, σ)) := by
  rw [q_M_landAt_0]
  rcases iv_lt5 hk with rfl | rfl | rfl | rfl | rfl
  · rw [q_M_landAt_5, if_neg (by decide), q_M_landAt_5, if_neg (by decide), q_M_landAt_5, if_neg (by decide), q_M_landAt_5, if_neg (by decide), q_M_landAt_5, if_pos (by decide)]; rfl
  · rw [q_M_landAt_5, if_neg (by decide), q_M_landAt_5, if_neg (by decide), q_M_landAt_5, if_neg (by decide), q_M_landAt_5, if_pos (by decide)]; rfl
  · rw [q_M_landAt_5, if_neg (by decide), q_M_landAt_5, if_neg (by decide), q_M_landAt_5, if_pos (by decide)]; rfl
  · rw [q_M_landAt_5, if_neg (by decide), q_M_landAt_5, if_pos (by decide)]; rfl
  · rw [q_M_landAt_5, if_pos (by decide)]; rfl
theorem f_landAt0 (b : Bool) (v : Int32) (σ : ix_St) : ix_F 230 [.ref 135, .int v, .int 0] (ix_S0 b, σ) = some (.int (iv_la v 0), (ix_S0 b, σ)) := f_landAt b v (by omega : 0 < 5) σ
/-- a rank's digits -/
def iv_d (r : Int32) (k : Nat) : Nat := r.toNatClampNeg / 10 ^ (4 - k) % 10
theorem iv_d_la : ∀ r ∈ ix_rnk, ∀ k, k < 5 → iv_la r k = nI (iv_d r k) ∧ 1 ≤ iv_d r k ∧ iv_d r k ≤ 5 := by decide +kernel
theorem iv_d_dg : ∀ r ∈ ix_rnk, iv_dg r 10000 = nI (iv_d r 0) ∧ r / 10000 = nI (iv_d r 0) ∧ iv_dg r 1000 = nI (iv_d r 1) ∧ iv_dg r 100 = nI (iv_d r 2) ∧ iv_dg r 10 = nI (iv_d r 3) ∧ iv_dg r 1 = nI (iv_d r 4) := by decide +kernel
/-- where a land stands in a rank -/
def iv_ps (r : Int32) (l : Nat) : Nat := if iv_d r 0 = l then 0 else if iv_d r 1 = l then 1 else if iv_d r 2 = l then 2 else if iv_d r 3 = l then 3 else 4
theorem iv_ps_ok : ∀ r ∈ ix_rnk, ∀ l, l < 6 → 1 ≤ l → iv_ps r l < 5 ∧ iv_d r (iv_ps r l) = l ∧ ∀ j, j < iv_ps r l → iv_d r j ≠ l := by decide +kernel
theorem iv_ps_d : ∀ r ∈ ix_rnk, ∀ k, k < 5 → iv_ps r (iv_d r k) = k := by decide +kernel
theorem f_firstOf (b : Bool) (σ : ix_St) {i : Nat} (hi : i < 48) : ix_F 243 [.ref 135, .int (nI i)] (ix_S0 b, σ) = some (.int (iv_la (σ 136 (6 + i)) 0), (ix_S0 b, σ)) := by
  rw [q_M_firstOf_0, show (6 : Int32) = nI 6 from rfl, nI_add, if_neg (nI_in (by omega) (by omega)), nI_clamp (by omega), f_landAt0]
  rfl
theorem f_placeIn_aux (b : Bool) (r w : Int32) (σ : ix_St) (p : Nat) (hp : p < 5) (h1 : iv_la r p = w) (h2 : ∀ j, j < p → iv_la r j ≠ w) : ∀ m k, k + m = p → ix_S 247 2 2 [some (.ref 135), some (.int r), some (.int w), some (.int (nI k))] [] (ix_S0 b, σ) = some (.int (nI p), (ix_S0 b, σ)) := by
  intro m
  induction m with
  | zero =>
    intro k hk
    have : k = p := by omega
    subst this
    rw [q_M_placeIn_2, f_landAt b r hp]
    simp only [Option.bind_some, iv_tI]
    rw [if_pos h1]
  | succ m ih =>
    intro k hk
    rw [q_M_placeIn_2, f_landAt b r (by omega)]
    simp only [Option.bind_some, iv_tI]
    rw [if_neg (h2 k (by omega)), nI_1]
    exact ih (k + 1) (by omega)
theorem f_placeIn (b : Bool) {r : Int32} (hr : r ∈ ix_rnk) {l : Nat} (h1 : 1 ≤ l) (h5 : l ≤ 5) (σ : ix_St) : ix_F 247 [.ref 135, .int r, .int (nI l)] (ix_S0 b, σ) = some (.int (nI (iv_ps r l)), (ix_S0 b, σ)) := by
  obtain ⟨p1, p2, p3⟩ := iv_ps_ok r hr l (by omega) h1
  rw [q_M_placeIn_0]
  refine f_placeIn_aux b r (nI l) σ (iv_ps r l) p1 ?_ (fun j hj => ?_) (iv_ps r l) 0 (by omega)
  · rw [(iv_d_la r hr _ p1).1, p2]
  · have h := iv_d_la r hr j (by omega)
    rw [h.1]
    intro e
    rw [nI_eq (by omega) (by omega)] at e
    exact p3 j hj e
theorem f_isAheadM (b : Bool) {r : Int32} (hr : r ∈ ix_rnk) {l m : Nat} (h1 : 1 ≤ l) (h5 : l ≤ 5) (k1 : 1 ≤ m) (k5 : m ≤ 5) (σ : ix_St) : ix_F 245 [.ref 135, .int r, .int (nI l), .int (nI m)] (ix_S0 b, σ) = some (.int (iv_B (iv_ps r l < iv_ps r m)), (ix_S0 b, σ)) := by
  rw [q_M_isAhead_0, f_placeIn b hr h1 h5]
  simp only [Option.bind_some, iv_tI]
  rw [f_placeIn b hr k1 k5]
  simp only [Option.bind_some, iv_tI]
  have p1 := (iv_ps_ok r hr l (by omega) h1).1
  have p2 := (iv_ps_ok r hr m (by omega) k1).1
  by_cases h : iv_ps r m ≤ iv_ps r l
  · rw [if_pos ((nI_leI (by omega) (by omega)).mpr h), iv_Bf (by omega)]
  · rw [if_neg (fun e => h ((nI_leI (by omega) (by omega)).mp e)), iv_Bt (by omega)]
/-- whether one of two digits comes ahead of the other -/
def iv_xa (r a b : Int32) : List Int32 → Int32
  | [] => 0
  | u :: us => if iv_dg r u = a then 1 else if iv_dg r u = b then 0 else iv_xa r a b us
theorem f_isAhead_st (b : Bool) (r x y u : Int32) (h1 : ¬ u < 1) (h0 : ¬ u = 0) (σ : ix_St) : ix_S 37 1 4 [some (.int r), some (.int x), some (.int y), some (.int u), none] [] (ix_S0 b, σ) = if iv_dg r u = x then some (.int 1, (ix_S0 b, σ)) else if iv_dg r u = y then some (.int 0, (ix_S0 b, σ)) else ix_S 37 1 4 [some (.int r), some (.int x), some (.int y), some (.int (u / 10)), none] [] (ix_S0 b, σ) := by
  rw [q_X_isAhead_4, if_neg h1, if_neg h0]
  show (if iv_dg r u = x then (if iv_dg r u = x then _ else _) else if iv_dg r u = y then (if iv_dg r u = x then _ else _) else _) = _
  by_cases h : iv_dg r u = x
  · rw [if_pos h, if_pos h, if_pos h]
  · rw [if_neg h, if_neg h, if_neg h]
theorem iv_xa_st {α : Type} (r x y u : Int32) (us : List Int32) (f : Int32 → α) : f (iv_xa r x y (u :: us)) = if iv_dg r u = x then f 1 else if iv_dg r u = y then f 0 else f (iv_xa r x y us) := by
  show f (if iv_dg r u = x then 1 else if iv_dg r u = y then 0 else iv_xa r x y us) = _
  by_cases h : iv_dg r u = x
  · rw [if_pos h, if_pos h]
  · rw [if_neg h, if_neg h]
    by_cases h2 : iv_dg r u = y
    · rw [if_pos h2, if_pos h2]
    · rw [if_neg h2, if_neg h2]
theorem f_isAheadX (b : Bool) (r x y : Int32) (σ : ix_St) : ix_F 37 [.int r, .int x, .int y] (ix_S0 b, σ) = some (.int (iv_xa r x y [10000, 1000, 100, 10, 1]), (ix_S0 b, σ)) := by
  rw [q_X_isAhead_0]
  rw [iv_xa_st (f := fun z => some (Value.int z, (ix_S0 b, σ))), iv_xa_st (f := fun z => some (Value.int z, (ix_S0 b, σ))), iv_xa_st (f := fun z => some (Value.int z, (ix_S0 b, σ))), iv_xa_st (f := fun z => some (Value.int z, (ix_S0 b, σ))), iv_xa_st (f := fun z => some (Value.int z, (ix_S0 b, σ)))]
  rw [f_isAhead_st b r x y 10000 (by decide) (by decide), show (10000 : Int32) / 10 = 1000 by decide]
  rw [f_isAhead_st b r x y 1000 (by decide) (by decide), show (1000 : Int32) / 10 = 100 by decide]
  rw [f_isAhead_st b r x y 100 (by decide) (by decide), show (100 : Int32) / 10 = 10 by decide]
  rw [f_isAhead_st b r x y 10 (by decide) (by decide), show (10 : Int32) / 10 = 1 by decide]
  rw [f_isAhead_st b r x y 1 (by decide) (by decide), show (1 : Int32) / 10 = 0 by decide]
  have e0 : ix_S 37 1 4 [some (.int r), some (.int x), some (.int y), some (.int 0), none] [] (ix_S0 b, σ) = some (.int 0, (ix_S0 b, σ)) := by rw [q_X_isAhead_4, if_pos (by decide)]
  rw [e0]
  rfl
theorem iv_xa_ok : ∀ r ∈ ix_rnk, ∀ x, x < 6 → ∀ y, y < 6 → (x = 0 ∨ y = 0 ∨ x = y) ∨ iv_xa r (nI x) (nI y) [10000, 1000, 100, 10, 1] = iv_B (iv_ps r x < iv_ps r y) := by decide +kernel
theorem f_ahead (b : Bool) {r : Int32} (hr : r ∈ ix_rnk) {l m : Nat} (h1 : 1 ≤ l) (h5 : l ≤ 5) (k1 : 1 ≤ m) (k5 : m ≤ 5) (hlm : l ≠ m) (σ : ix_St) : ix_F 37 [.int r, .int (nI l), .int (nI m)] (ix_S0 b, σ) = some (.int (iv_B (iv_ps r l < iv_ps r m)), (ix_S0 b, σ)) := by
  rw [f_isAheadX, (iv_xa_ok r hr l (by omega) m (by omega)).resolve_left (by omega)]
/-- a rank with a land put first, by class and by reference -/
def iv_xr (r l : Int32) : Int32 → List Int32 → Int32
  | v, [] => v
  | v, u :: us => if iv_dg r u = l then iv_xr r l v us else iv_xr r l (v * 10 + iv_dg r u) us
def iv_mr (r l : Int32) : Int32 → List Nat → Int32
  | v, [] => v
  | v, k :: ks => if iv_la r k = l then iv_mr r l v ks else iv_mr r l (10 * v + iv_la r k) ks
theorem f_raised_st (b : Bool) (r l v u : Int32) (h1 : ¬ u < 1) (h0 : ¬ u = 0) (σ : ix_St) : ix_S 40 1 6 [some (.int r), some (.int l), some (.int v), some (.int u), none] [] (ix_S0 b, σ) = ix_S 40 1 6 [some (.int r), some (.int l), some (.int (if iv_dg r u = l then v else v * 10 + iv_dg r u)), some (.int (u / 10)), none] [] (ix_S0 b, σ) := by
  rw [q_X_raised_6, if_neg h1, if_neg h0]
  show (if iv_dg r u = l then _ else ix_S 40 1 6 [_, _, some (.int (v * 10 + iv_dg r u)), _, _] [] _) = _
  by_cases h : iv_dg r u = l
  · rw [if_pos h, if_pos h]
  · rw [if_neg h, if_neg h]
theorem iv_xr_st (r l v u : Int32) (us : List Int32) : iv_xr r l v (u :: us) = iv_xr r l (if iv_dg r u = l then v else v * 10 + iv_dg r u) us := by
  show (if iv_dg r u = l then iv_xr r l v us else iv_xr r l (v * 10 + iv_dg r u) us) = _
  by_cases h : iv_dg r u = l
  · rw [if_pos h, if_pos h]
  · rw [if_neg h, if_neg h]
theorem f_raisedX (b : Bool) (r l : Int32) (σ : ix_St) : ix_F 40 [.int r, .int l] (ix_S0 b, σ) = some (.int (iv_xr r l l [10000, 1000, 100, 10, 1]), (ix_S0 b, σ)) := by
  rw [q_X_raised_0, iv_xr_st, iv_xr_st, iv_xr_st, iv_xr_st, iv_xr_st]
  rw [f_raised_st b r l _ 10000 (by decide) (by decide), show (10000 : Int32) / 10 = 1000 by decide]
  rw [f_raised_st b r l _ 1000 (by decide) (by decide), show (1000 : Int32) / 10 = 100 by decide]
  rw [f_raised_st b r l _ 100 (by decide) (by decide), show (100 : Int32) / 10 = 10 by decide]
  rw [f_raised_st b r l _ 10 (by decide) (by decide), show (10 : Int32) / 10 = 1 by decide]
  rw [f_raised_st b r l _ 1 (by decide) (by decide), show (1 : Int32) / 10 = 0 by decide]
  rw [q_X_raised_6, if_pos (by decide)]
  rfl
theorem f_rankWith_st (b : Bool) (r l v : Int32) {k : Nat} (hk : k < 5) (σ : ix_St) : ix_S 268 2 5 [some (.ref 135), some (.int l), some (.int r), some (.int v), some (.int (nI k))] [] (ix_S0 b, σ) = ix_S 268 2 5 [some (.ref 135), some (.int l), some (.int r), some (.int (if iv_la r k = l then v else 10 * v + iv_la r k)), some (.int (nI (k + 1)))] [] (ix_S0 b, σ) := by
  rw [q_M_rankWith_5, if_neg (by rw [show (5 : Int32) = nI 5 from rfl, nI_leI (by omega) (by omega)]; omega), f_landAt b r hk]
  simp only [Option.bind_some, iv_tI]
  rw [f_landAt b r hk]
  simp only [Option.bind_some, iv_tI]
  rw [nI_1]
  by_cases h : iv_la r k = l
  · rw [if_pos h, if_pos h]
  · rw [if_neg h, if_neg h]
theorem iv_mr_st (r l v : Int32) (k : Nat) (us : List Nat) : iv_mr r l v (k :: us) = iv_mr r l (if iv_la r k = l then v else 10 * v + iv_la r k) us := by
  show (if iv_la r k = l then iv_mr r l v us else iv_mr r l (10 * v + iv_la r k) us) = _
  by_cases h : iv_la r k = l
  · rw [if_pos h, if_pos h]
  · rw [if_neg h, if_neg h]
theorem f_rankWith (b : Bool) (r l : Int32) (σ : ix_St) : ix_F 268 [.ref 135, .int l, .int r] (ix_S0 b, σ) = some (.int (iv_mr r l l [0, 1, 2, 3, 4]), (ix_S0 b, σ)) := by
  rw [q_M_rankWith_0, iv_mr_st, iv_mr_st, iv_mr_st, iv_mr_st, iv_mr_st, show (0 : Int32) = nI 0 from rfl]
  rw [f_rankWith_st b r l _ (by omega), f_rankWith_st b r l _ (by omega), f_rankWith_st b r l _ (by omega), f_rankWith_st b r l _ (by omega), f_rankWith_st b r l _ (by omega), q_M_rankWith_5, if_pos (by decide)]
  rfl
theorem iv_raise_ok : ∀ r ∈ ix_rnk, ∀ l, l < 6 → 1 ≤ l → iv_xr r (nI l) (nI l) [10000, 1000, 100, 10, 1] = iv_mr r (nI l) (nI l) [0, 1, 2, 3, 4] ∧ iv_mr r (nI l) (nI l) [0, 1, 2, 3, 4] ∈ ix_rnk := by decide +kernel
