/-! what a crossing is made of -/
def iv_bk (σ τ : ix_St) : Prop := (∃ k : Nat, k ≤ 150 ∧ σ 9 1 = nI k ∧ τ 136 2 = nI k) ∧ ∀ j, j < 600 → σ 10 j = τ 142 j
/-- both write a line into the book -/
theorem f_note (b c : Bool) {σ τ : ix_St} (h : iv_bk σ τ) (h5 : τ 135 5 = 0) (x v w y : Int32) (hx : τ 136 5 = x) : ∃ σ' τ', ix_F 43 [.ref 9, .int x, .int v, .int w, .int y] (ix_S0 b, σ) = some (.null, (ix_S0 b, σ')) ∧ ix_F 231 [.ref 135, .int v, .int w, .int y] (ix_S0 c, τ) = some (.null, (ix_S0 c, τ')) ∧ iv_bk σ' τ' ∧ (∀ z, z ≠ 9 → z ≠ 10 → σ' z = σ z) ∧ (∀ z, z ≠ 136 → z ≠ 142 → τ' z = τ z) ∧ ∀ i, i ≠ 2 → τ' 136 i = τ 136 i := by
  obtain ⟨⟨k, hk, h1, h2⟩, h3⟩ := h
  by_cases hf : k = 150
  · subst hf
    refine ⟨σ, τ, ?_, ?_, ⟨⟨150, by omega, h1, h2⟩, h3⟩, fun _ _ _ => rfl, fun _ _ _ => rfl, fun _ _ => rfl⟩
    · rw [q_Book_write_0, h1, if_neg (show ¬ nI 150 < 150 by decide)]
    · rw [q_M_notes_0, h5, if_pos rfl, h2, if_pos (show nI 150 = 150 from rfl)]
  · have e0 : nI k * 4 = nI (4 * k) := by rw [show (4 : Int32) = nI 4 from rfl, pk_mul, Nat.mul_comm]
    have e0' : (4 : Int32) * nI k = nI (4 * k) := by rw [show (4 : Int32) = nI 4 from rfl, pk_mul]
    have e1 : nI (4 * k) + 1 = nI (4 * k + 1) := nI_1 _
    have e2 : nI (4 * k) + 2 = nI (4 * k + 2) := nI_add _ 2
    have e3 : nI (4 * k) + 3 = nI (4 * k + 3) := nI_add _ 3
    have g0 : ¬ (nI (4 * k) < 0 ∨ 600 ≤ 4 * k) := iv_ni (by omega) (by omega)
    have g1 : ¬ (nI (4 * k + 1) < 0 ∨ 600 ≤ 4 * k + 1) := iv_ni (by omega) (by omega)
    have g2 : ¬ (nI (4 * k + 2) < 0 ∨ 600 ≤ 4 * k + 2) := iv_ni (by omega) (by omega)
    have g3 : ¬ (nI (4 * k + 3) < 0 ∨ 600 ≤ 4 * k + 3) := iv_ni (by omega) (by omega)
    have c0 := nI_clamp (n := 4 * k) (by omega)
    have c1 := nI_clamp (n := 4 * k + 1) (by omega)
    have c2 := nI_clamp (n := 4 * k + 2) (by omega)
    have c3 := nI_clamp (n := 4 * k + 3) (by omega)
    have l : nI k < 150 := nI_lt (b := 150) (by omega) (by omega)
    have l2 : ¬ nI k = 150 := fun e => hf ((nI_eq (b := 150) (by omega) (by omega)).mp e)
    refine ⟨ix_up (ix_up (ix_up (ix_up (ix_up σ 10 (4 * k) x) 10 (4 * k + 1) v) 10 (4 * k + 2) w) 10 (4 * k + 3) y) 9 1 (nI (k + 1)), ix_up (ix_up (ix_up (ix_up (ix_up τ 142 (4 * k) x) 142 (4 * k + 1) v) 142 (4 * k + 2) w) 142 (4 * k + 3) y) 136 2 (nI (k + 1)), ?_, ?_, ⟨⟨k + 1, by omega, rfl, rfl⟩, fun j hj => ?_⟩, fun z z1 z2 => ?_, fun z z1 z2 => ?_, fun i hi => ?_⟩
    · rw [q_Book_write_0, h1]
      simp only [l, e0, e1, e2, e3, g0, g1, g2, g3, c0, c1, c2, c3, nI_1, if_true, if_false]
    · rw [q_M_notes_0, h5, h2, hx]
      simp only [l2, e0', e1, e2, e3, g0, g1, g2, g3, c0, c1, c2, c3, nI_1, if_true, if_false]
    · show upd (upd (upd (upd (σ 10) (4 * k) x) (4 * k + 1) v) (4 * k + 2) w) (4 * k + 3) y j = upd (upd (upd (upd (τ 142) (4 * k) x) (4 * k + 1) v) (4 * k + 2) w) (4 * k + 3) y j
      unfold upd
      split
      · rfl
      · split
        · rfl
        · split
          · rfl
          · split
            · rfl
            · exact h3 j hj
    · rw [iv_upn z1, iv_upn z2, iv_upn z2, iv_upn z2, iv_upn z2]
    · rw [iv_upn z1, iv_upn z2, iv_upn z2, iv_upn z2, iv_upn z2]
    · show upd (τ 136) 2 _ i = _
      rw [pk_un hi]
/-- in thought nothing is written -/
theorem f_note_T (c : Bool) (τ : ix_St) (h5 : τ 135 5 = 1) (v w y : Int32) : ix_F 231 [.ref 135, .int v, .int w, .int y] (ix_S0 c, τ) = some (.null, (ix_S0 c, τ)) := by
  rw [q_M_notes_0, h5, if_neg (by decide)]
theorem iv_riv_tu {f ra ch ta fi wa tu now : Nat → Int32} {st : Int32} {mc mt mf : Nat → Int32} {M n o : Nat} {w : Nat} (hw : w < 12) (v : Int32) (h : iv_riv f ra ch ta fi wa tu now st mc mt mf M n o) : iv_riv f ra ch ta fi wa (upd tu w v) (upd now (42 + w) v) st mc mt mf M n o := by
  obtain ⟨⟨a0, a1, a2, a3, a4, a5, a6, a7⟩, ⟨h1, h2, h3⟩, ⟨h4, h5⟩, h6, h7⟩ := h
  refine ⟨⟨?_, ?_, ?_, a3, ?_, ?_, a6, a7⟩, ⟨h1, h2, h3⟩, ⟨h4, fun i hi => ?_⟩, fun i hi => ?_, h7⟩
  · rw [pk_un (by omega)]; exact a0
  · rw [pk_un (by omega)]; exact a1
  · rw [pk_un (by omega)]; exact a2
  · rw [pk_un (by omega)]; exact a4
  · rw [pk_un (by omega)]; exact a5
  · rw [pk_un (by omega)]; exact h5 i hi
  · rw [pk_un (f := now) (k := 42 + w) (j := 6 + i) (by omega), pk_un (f := now) (k := 42 + w) (j := 30 + i) (by omega)]
    refine ⟨(h6 i hi).1, (h6 i hi).2.1, (h6 i hi).2.2.1, (h6 i hi).2.2.2.1, (h6 i hi).2.2.2.2.1, ?_⟩
    by_cases e : i = w
    · subst e; rw [pk_us, pk_us]
    · rw [pk_un e, pk_un (by omega)]; exact (h6 i hi).2.2.2.2.2
theorem iv_riv_wa {f ra ch ta fi wa tu now : Nat → Int32} {st : Int32} {mc mt mf : Nat → Int32} {M n o : Nat} {w : Nat} (hw : w < 12) (v : Int32) (h : iv_riv f ra ch ta fi wa tu now st mc mt mf M n o) : iv_riv f ra ch ta fi (upd wa w v) tu (upd now (30 + w) v) st mc mt mf M n o := by
  obtain ⟨⟨a0, a1, a2, a3, a4, a5, a6, a7⟩, ⟨h1, h2, h3⟩, ⟨h4, h5⟩, h6, h7⟩ := h
  refine ⟨⟨?_, ?_, ?_, a3, ?_, ?_, a6, a7⟩, ⟨h1, h2, h3⟩, ⟨h4, fun i hi => ?_⟩, fun i hi => ?_, h7⟩
  · rw [pk_un (by omega)]; exact a0
  · rw [pk_un (by omega)]; exact a1
  · rw [pk_un (by omega)]; exact a2
  · rw [pk_un (by omega)]; exact a4
  · rw [pk_un (by omega)]; exact a5
  · rw [pk_un (by omega)]; exact h5 i hi
  · rw [pk_un (f := now) (k := 30 + w) (j := 6 + i) (by omega), pk_un (f := now) (k := 30 + w) (j := 42 + i) (by omega)]
    refine ⟨(h6 i hi).1, (h6 i hi).2.1, (h6 i hi).2.2.1, (h6 i hi).2.2.2.1, ?_, (h6 i hi).2.2.2.2.2⟩
    by_cases e : i = w
    · subst e; rw [pk_us, pk_us]
    · rw [pk_un e, pk_un (by omega)]; exact (h6 i hi).2.2.2.2.1
/-- who wins of shells that are laid -/
def iv_wl (f : Nat → Int32) : Nat → Int32 → Int32 → Int32
  | 0, x, _ => x
  | d + 1, x, m => if f (5 - d) ≤ m then (if f (5 - d) = m then iv_wl f d 0 m else iv_wl f d x m) else iv_wl f d (nI (5 - d)) (f (5 - d))
def iv_win (f : Nat → Int32) : Int32 := iv_wl f 5 0 0
theorem iv_wl_cong {f g : Nat → Int32} (h : ∀ l, l < 6 → 1 ≤ l → f l = g l) : ∀ d, d ≤ 5 → ∀ x m, iv_wl f d x m = iv_wl g d x m := by
  intro d
  induction d with
  | zero => intro _ x m; rfl
  | succ d ih =>
    intro hd x m
    show (if f (5 - d) ≤ m then (if f (5 - d) = m then iv_wl f d 0 m else iv_wl f d x m) else iv_wl f d (nI (5 - d)) (f (5 - d))) = (if g (5 - d) ≤ m then (if g (5 - d) = m then iv_wl g d 0 m else iv_wl g d x m) else iv_wl g d (nI (5 - d)) (g (5 - d)))
    rw [h (5 - d) (by omega) (by omega), ih (by omega), ih (by omega), ih (by omega)]
theorem iv_wl_in (f : Nat → Int32) : ∀ d, d ≤ 5 → ∀ x m, iv_in x 5 → iv_in (iv_wl f d x m) 5 := by
  intro d
  induction d with
  | zero => intro _ x m h; exact h
  | succ d ih =>
    intro hd x m h
    show iv_in (if f (5 - d) ≤ m then (if f (5 - d) = m then iv_wl f d 0 m else iv_wl f d x m) else iv_wl f d (nI (5 - d)) (f (5 - d))) 5
    split
    · split
      · exact ih (by omega) _ _ ⟨0, by omega, rfl⟩
      · exact ih (by omega) _ _ h
    · exact ih (by omega) _ _ ⟨5 - d, by omega, rfl⟩
theorem iv_win_in (f : Nat → Int32) : iv_in (iv_win f) 5 := iv_wl_in f 5 (by omega) 0 0 ⟨0, by omega, rfl⟩
theorem f_winX132 (b : Bool) (σ : ix_St) : ix_F 39 [.ref 132] (ix_S0 b, σ) = some (.int (iv_win (σ 132)), (ix_S0 b, σ)) := by
  have key : ∀ d, d ≤ 5 → ∀ x m, ix_S 39 1 6 [some (.ref 132), some (.int x), some (.int m), some (.int (nI (6 - d)))] [] (ix_S0 b, σ) = some (.int (iv_wl (σ 132) d x m), (ix_S0 b, σ)) := by
    intro d
    induction d with
    | zero => intro _ x m; rw [q_X_winnerOf_6, if_pos (show (6 : Int32) ≤ nI 6 by decide)]; rfl
    | succ d ih =>
      intro hd x m
      have e : 6 - (d + 1) = 5 - d := by omega
      have e2 : 5 - d + 1 = 6 - d := by omega
      rw [e, q_X_winnerOf_6, if_neg (show ¬ (6 : Int32) ≤ nI (5 - d) from nI_ge (b := 6) (by omega) (by omega))]
      simp only [nI_clamp (n := 5 - d) (by omega), iv_ni (x := 5 - d) (N := 6) (by omega) (by omega), if_false, nI_1, e2]
      show _ = some (Value.int (if σ 132 (5 - d) ≤ m then (if σ 132 (5 - d) = m then iv_wl (σ 132) d 0 m else iv_wl (σ 132) d x m) else iv_wl (σ 132) d (nI (5 - d)) (σ 132 (5 - d))), _)
      by_cases h1 : σ 132 (5 - d) ≤ m
      · rw [if_pos h1, if_pos h1]
        by_cases h2 : σ 132 (5 - d) = m
        · rw [if_pos h2, if_pos h2]; exact ih (by omega) _ _
        · rw [if_neg h2, if_neg h2]; exact ih (by omega) _ _
      · rw [if_neg h1, if_neg h1]; exact ih (by omega) _ _
  rw [q_X_winnerOf_0]
  exact key 5 (by omega) 0 0
theorem f_winX122 (b : Bool) (σ : ix_St) : ix_F 39 [.ref 122] (ix_S0 b, σ) = some (.int (iv_win (σ 122)), (ix_S0 b, σ)) := by
  have key : ∀ d, d ≤ 5 → ∀ x m, ix_S 39 1 6 [some (.ref 122), some (.int x), some (.int m), some (.int (nI (6 - d)))] [] (ix_S0 b, σ) = some (.int (iv_wl (σ 122) d x m), (ix_S0 b, σ)) := by
    intro d
    induction d with
    | zero => intro _ x m; rw [q_X_winnerOf_6_1, if_pos (show (6 : Int32) ≤ nI 6 by decide)]; rfl
    | succ d ih =>
      intro hd x m
      have e : 6 - (d + 1) = 5 - d := by omega
      have e2 : 5 - d + 1 = 6 - d := by omega
      rw [e, q_X_winnerOf_6_1, if_neg (show ¬ (6 : Int32) ≤ nI (5 - d) from nI_ge (b := 6) (by omega) (by omega))]
      simp only [nI_clamp (n := 5 - d) (by omega), iv_ni (x := 5 - d) (N := 6) (by omega) (by omega), if_false, nI_1, e2]
      show _ = some (Value.int (if σ 122 (5 - d) ≤ m then (if σ 122 (5 - d) = m then iv_wl (σ 122) d 0 m else iv_wl (σ 122) d x m) else iv_wl (σ 122) d (nI (5 - d)) (σ 122 (5 - d))), _)
      by_cases h1 : σ 122 (5 - d) ≤ m
      · rw [if_pos h1, if_pos h1]
        by_cases h2 : σ 122 (5 - d) = m
        · rw [if_pos h2, if_pos h2]; exact ih (by omega) _ _
        · rw [if_neg h2, if_neg h2]; exact ih (by omega) _ _
      · rw [if_neg h1, if_neg h1]; exact ih (by omega) _ _
  rw [q_X_winnerOf_0_1]
  exact key 5 (by omega) 0 0
theorem f_winM (b : Bool) (σ : ix_St) : ix_F 244 [.ref 135] (ix_S0 b, σ) = some (.int (iv_win (σ 158)), (ix_S0 b, σ)) := by
  have key : ∀ d, d ≤ 5 → ∀ x m, ix_S 244 2 6 [some (.ref 135), some (.int x), some (.int m), some (.int (nI (6 - d)))] [] (ix_S0 b, σ) = some (.int (iv_wl (σ 158) d x m), (ix_S0 b, σ)) := by
    intro d
    induction d with
    | zero => intro _ x m; rw [q_M_winner_6, if_pos (show (6 : Int32) ≤ nI 6 by decide)]; rfl
    | succ d ih =>
      intro hd x m
      have e : 6 - (d + 1) = 5 - d := by omega
      have e2 : 5 - d + 1 = 6 - d := by omega
      rw [e, q_M_winner_6, if_neg (show ¬ (6 : Int32) ≤ nI (5 - d) from nI_ge (b := 6) (by omega) (by omega))]
      simp only [nI_clamp (n := 5 - d) (by omega), iv_ni (x := 5 - d) (N := 6) (by omega) (by omega), if_false, nI_1, e2, q_M_greater_0]
      show _ = some (Value.int (if σ 158 (5 - d) ≤ m then (if σ 158 (5 - d) = m then iv_wl (σ 158) d 0 m else iv_wl (σ 158) d x m) else iv_wl (σ 158) d (nI (5 - d)) (σ 158 (5 - d))), _)
      by_cases h1 : σ 158 (5 - d) ≤ m
      · rw [if_pos h1, if_pos h1]
        by_cases h2 : σ 158 (5 - d) = m
        · rw [if_pos h2, if_pos h2]
          simp only [h2, if_pos (show m ≤ m from Int32.le_refl m), Option.bind_some, iv_tI]
          exact ih (by omega) _ _
        · have h3 : ¬ m ≤ σ 158 (5 - d) := fun h => h2 (Int32.le_antisymm h1 h)
          rw [if_neg h2, if_neg h2]
          simp only [if_neg h3, Option.bind_some, iv_tI]
          exact ih (by omega) _ _
      · have h3 : m ≤ σ 158 (5 - d) := Int32.le_of_lt (iv_nle.mp h1)
        rw [if_neg h1, if_neg h1]
        simp only [if_pos h3, Option.bind_some, iv_tI]
        exact ih (by omega) _ _
  rw [q_M_winner_0]
  exact key 5 (by omega) 0 0
def iv_oi (r : Option Nat) : Int32 := match r with
  | some y => nI y
  | none => -1
/-- who talks to one: class and reference find the same -/
theorem f_talker_F (b c : Bool) {σ τ : ix_St} {M n o : Nat} (hn : n ≤ 12) (hR : iv_rvF σ τ M n o) {p : Nat} (hp : p < n) (x : Int32) : ∀ d j (r : Option Nat), j + d = n → (∀ y, r = some y → y < n ∧ ¬ σ 3 y / 10000 = σ 3 p / 10000) → ∃ r' : Option Nat, (∀ y, r' = some y → y < n ∧ ¬ σ 3 y / 10000 = σ 3 p / 10000) ∧ ix_S 129 2 16 [some (.ref 2), none, some (.int (τ 153 p &&& x)), some (.int (σ 3 p / 10000)), some (.int (iv_oi r)), some (.int (nI j))] [] (ix_S0 b, σ) = some (.int (iv_oi r'), (ix_S0 b, σ)) ∧ ix_S 266 3 5 [some (.ref 135), some (.int (nI p)), some (.int x), some (.int (iv_oi r)), some (.int (nI j))] [] (ix_S0 c, τ) = some (.int (iv_oi r'), (ix_S0 c, τ)) := by
  obtain ⟨⟨⟨-, -, -, -, -, -, a6, -⟩, -, -, hrows, hranks⟩, h7⟩ := id hR
  intro d
  induction d with
  | zero =>
    intro j r hj hr
    have : j = n := by omega
    subst this
    refine ⟨r, hr, ?_, ?_⟩
    · rw [q_River_talkerTo_16, a6, if_pos (nI_le (Nat.le_refl _) (by omega))]
    · rw [q_M_talkerTo_5, h7, if_pos (nI_le (Nat.le_refl _) (by omega))]
  | succ d ih =>
    intro j r hj hr
    have k0 : ¬ nI n ≤ nI j := nI_ge (by omega) (by omega)
    have k1 : ¬ (nI j < 0 ∨ 12 ≤ j) := iv_ni (by omega) (by omega)
    have k2 : ¬ (nI p < 0 ∨ 24 ≤ p) := iv_ni (by omega) (by omega)
    have k3 : (nI j).toNatClampNeg = j := nI_clamp (by omega)
    have k4 : (nI p).toNatClampNeg = p := nI_clamp (by omega)
    have rj := hrows j (by omega)
    have rp := hrows p (by omega)
    have fj : ix_F 243 [.ref 135, .int (nI j)] (ix_S0 c, τ) = some (.int (σ 3 j / 10000), (ix_S0 c, τ)) := by
      rw [f_firstOf c τ (by omega), ← rj.1, (iv_d_la _ (hranks j (by omega)) 0 (by omega)).1, (iv_d_dg _ (hranks j (by omega))).2.1]
    have fp : ix_F 243 [.ref 135, .int (nI p)] (ix_S0 c, τ) = some (.int (σ 3 p / 10000), (ix_S0 c, τ)) := by
      rw [f_firstOf c τ (by omega), ← rp.1, (iv_d_la _ (hranks p hp) 0 (by omega)).1, (iv_d_dg _ (hranks p hp)).2.1]
    have cm : x &&& τ 153 p = τ 153 p &&& x := Int32.and_comm _ _
    have stay : ∃ r' : Option Nat, (∀ y, r' = some y → y < n ∧ ¬ σ 3 y / 10000 = σ 3 p / 10000) ∧ ix_S 129 2 16 [some (.ref 2), none, some (.int (τ 153 p &&& x)), some (.int (σ 3 p / 10000)), some (.int (iv_oi r)), some (.int (nI (j + 1)))] [] (ix_S0 b, σ) = some (.int (iv_oi r'), (ix_S0 b, σ)) ∧ ix_S 266 3 5 [some (.ref 135), some (.int (nI p)), some (.int x), some (.int (iv_oi r)), some (.int (nI (j + 1)))] [] (ix_S0 c, τ) = some (.int (iv_oi r'), (ix_S0 c, τ)) := ih (j + 1) r (by omega) hr
    by_cases hb : (((τ 153 p &&& x) >>> (nI j &&& 31)) &&& (1 : Int32)) = 1
    · by_cases hl : σ 3 j / 10000 = σ 3 p / 10000
      · obtain ⟨r', g1, g2, g3⟩ := stay
        refine ⟨r', g1, ?_, ?_⟩
        · rw [q_River_talkerTo_16]
          simp only [a6, k0, k1, k3, hb, hl, nI_1, q_X_firstOf_0, if_true, if_false, Option.bind_some, iv_tI]
          exact g2
        · rw [q_M_talkerTo_5]
          simp only [h7, k0, k2, k4, cm, q_M_has_0, hb, fj, fp, hl, nI_1, iv_10, if_true, if_false, Option.bind_some, iv_tI]
          exact g3
      · have mv : ∃ r' : Option Nat, (∀ y, r' = some y → y < n ∧ ¬ σ 3 y / 10000 = σ 3 p / 10000) ∧ ix_S 129 2 16 [some (.ref 2), none, some (.int (τ 153 p &&& x)), some (.int (σ 3 p / 10000)), some (.int (nI j)), some (.int (nI (j + 1)))] [] (ix_S0 b, σ) = some (.int (iv_oi r'), (ix_S0 b, σ)) ∧ ix_S 266 3 5 [some (.ref 135), some (.int (nI p)), some (.int x), some (.int (nI j)), some (.int (nI (j + 1)))] [] (ix_S0 c, τ) = some (.int (iv_oi r'), (ix_S0 c, τ)) := ih (j + 1) (some j) (by omega) (fun y hy => by cases hy; exact ⟨by omega, hl⟩)
        cases r with
        | none =>
          obtain ⟨r', g1, g2, g3⟩ := mv
          refine ⟨r', g1, ?_, ?_⟩
          · rw [q_River_talkerTo_16]
            simp only [a6, k0, k1, k3, hb, hl, nI_1, q_X_firstOf_0, iv_oi, if_true, if_false, Option.bind_some, iv_tI]
            exact g2
          · rw [q_M_talkerTo_5]
            simp only [h7, k0, k2, k4, cm, q_M_has_0, hb, fj, fp, hl, nI_1, iv_10, iv_oi, if_true, if_false, Option.bind_some, iv_tI]
            exact g3
        | some y =>
          have hy := (hr y rfl).1
          have y0 : ¬ nI y = -1 := iv_m1 (by omega)
          have y1 : ¬ (nI y < 0 ∨ 12 ≤ y) := iv_ni (by omega) (by omega)
          have y2 : (nI y).toNatClampNeg = y := nI_clamp (by omega)
          have ry := hrows y (by omega)
          have t1 : σ 5 j = τ 140 j := rj.2.2.1
          have t2 : σ 5 y = τ 140 y := ry.2.2.1
          by_cases ht : τ 140 j ≤ τ 140 y
          · obtain ⟨r', g1, g2, g3⟩ := stay
            refine ⟨r', g1, ?_, ?_⟩
            · rw [q_River_talkerTo_16]
              simp only [a6, k0, k1, k3, hb, hl, nI_1, q_X_firstOf_0, iv_oi, y0, y1, y2, t1, t2, ht, if_true, if_false, Option.bind_some, iv_tI]
              exact g2
            · rw [q_M_talkerTo_5]
              simp only [h7, k0, k1, k2, k3, k4, cm, q_M_has_0, hb, fj, fp, hl, nI_1, iv_10, iv_oi, y0, y1, y2, ht, if_true, if_false, Option.bind_some, iv_tI]
              exact g3
          · obtain ⟨r', g1, g2, g3⟩ := mv
            refine ⟨r', g1, ?_, ?_⟩
            · rw [q_River_talkerTo_16]
              simp only [a6, k0, k1, k3, hb, hl, nI_1, q_X_firstOf_0, iv_oi, y0, y1, y2, t1, t2, ht, if_true, if_false, Option.bind_some, iv_tI]
              exact g2
            · rw [q_M_talkerTo_5]
              simp only [h7, k0, k1, k2, k3, k4, cm, q_M_has_0, hb, fj, fp, hl, nI_1, iv_10, iv_oi, y0, y1, y2, ht, if_true, if_false, Option.bind_some, iv_tI]
              exact g3
    · obtain ⟨r', g1, g2, g3⟩ := stay
      refine ⟨r', g1, ?_, ?_⟩
      · rw [q_River_talkerTo_16]
        simp only [a6, k0, hb, nI_1, if_true, if_false]
        exact g2
      · rw [q_M_talkerTo_5]
        simp only [h7, k0, k2, k4, cm, q_M_has_0, hb, nI_1, if_true, if_false, Option.bind_some, iv_tI]
        exact g3

/-- who talks to one: class and reference find the same -/
theorem f_talker_T (b c : Bool) {σ τ : ix_St} {M n o : Nat} (hn : n ≤ 12) (hR : iv_rvT σ τ M n o) {p : Nat} (hp : p < n) (x : Int32) : ∀ d j (r : Option Nat), j + d = n → (∀ y, r = some y → y < n ∧ ¬ σ 124 y / 10000 = σ 124 p / 10000) → ∃ r' : Option Nat, (∀ y, r' = some y → y < n ∧ ¬ σ 124 y / 10000 = σ 124 p / 10000) ∧ ix_S 129 2 16 [some (.ref 123), none, some (.int (τ 153 p &&& x)), some (.int (σ 124 p / 10000)), some (.int (iv_oi r)), some (.int (nI j))] [] (ix_S0 b, σ) = some (.int (iv_oi r'), (ix_S0 b, σ)) ∧ ix_S 266 3 5 [some (.ref 135), some (.int (nI p)), some (.int x), some (.int (iv_oi r)), some (.int (nI j))] [] (ix_S0 c, τ) = some (.int (iv_oi r'), (ix_S0 c, τ)) := by
  obtain ⟨⟨⟨-, -, -, -, -, -, a6, -⟩, -, -, hrows, hranks⟩, h7⟩ := id hR
  intro d
  induction d with
  | zero =>
    intro j r hj hr
    have : j = n := by omega
    subst this
    refine ⟨r, hr, ?_, ?_⟩
    · rw [q_River_talkerTo_16_1, a6, if_pos (nI_le (Nat.le_refl _) (by omega))]
    · rw [q_M_talkerTo_5, h7, if_pos (nI_le (Nat.le_refl _) (by omega))]
  | succ d ih =>
    intro j r hj hr
    have k0 : ¬ nI n ≤ nI j := nI_ge (by omega) (by omega)
    have k1 : ¬ (nI j < 0 ∨ 12 ≤ j) := iv_ni (by omega) (by omega)
    have k2 : ¬ (nI p < 0 ∨ 24 ≤ p) := iv_ni (by omega) (by omega)
    have k3 : (nI j).toNatClampNeg = j := nI_clamp (by omega)
    have k4 : (nI p).toNatClampNeg = p := nI_clamp (by omega)
    have rj := hrows j (by omega)
    have rp := hrows p (by omega)
    have fj : ix_F 243 [.ref 135, .int (nI j)] (ix_S0 c, τ) = some (.int (σ 124 j / 10000), (ix_S0 c, τ)) := by
      rw [f_firstOf c τ (by omega), ← rj.1, (iv_d_la _ (hranks j (by omega)) 0 (by omega)).1, (iv_d_dg _ (hranks j (by omega))).2.1]
    have fp : ix_F 243 [.ref 135, .int (nI p)] (ix_S0 c, τ) = some (.int (σ 124 p / 10000), (ix_S0 c, τ)) := by
      rw [f_firstOf c τ (by omega), ← rp.1, (iv_d_la _ (hranks p hp) 0 (by omega)).1, (iv_d_dg _ (hranks p hp)).2.1]
    have cm : x &&& τ 153 p = τ 153 p &&& x := Int32.and_comm _ _
    have stay : ∃ r' : Option Nat, (∀ y, r' = some y → y < n ∧ ¬ σ 124 y / 10000 = σ 124 p / 10000) ∧ ix_S 129 2 16 [some (.ref 123), none, some (.int (τ 153 p &&& x)), some (.int (σ 124 p / 10000)), some (.int (iv_oi r)), some (.int (nI (j + 1)))] [] (ix_S0 b, σ) = some (.int (iv_oi r'), (ix_S0 b, σ)) ∧ ix_S 266 3 5 [some (.ref 135), some (.int (nI p)), some (.int x), some (.int (iv_oi r)), some (.int (nI (j + 1)))] [] (ix_S0 c, τ) = some (.int (iv_oi r'), (ix_S0 c, τ)) := ih (j + 1) r (by omega) hr
    by_cases hb : (((τ 153 p &&& x) >>> (nI j &&& 31)) &&& (1 : Int32)) = 1
    · by_cases hl : σ 124 j / 10000 = σ 124 p / 10000
      · obtain ⟨r', g1, g2, g3⟩ := stay
        refine ⟨r', g1, ?_, ?_⟩
        · rw [q_River_talkerTo_16_1]
          simp only [a6, k0, k1, k3, hb, hl, nI_1, q_X_firstOf_0, if_true, if_false, Option.bind_some, iv_tI]
          exact g2
        · rw [q_M_talkerTo_5]
          simp only [h7, k0, k2, k4, cm, q_M_has_0, hb, fj, fp, hl, nI_1, iv_10, if_true, if_false, Option.bind_some, iv_tI]
          exact g3
      · have mv : ∃ r' : Option Nat, (∀ y, r' = some y → y < n ∧ ¬ σ 124 y / 10000 = σ 124 p / 10000) ∧ ix_S 129 2 16 [some (.ref 123), none, some (.int (τ 153 p &&& x)), some (.int (σ 124 p / 10000)), some (.int (nI j)), some (.int (nI (j + 1)))] [] (ix_S0 b, σ) = some (.int (iv_oi r'), (ix_S0 b, σ)) ∧ ix_S 266 3 5 [some (.ref 135), some (.int (nI p)), some (.int x), some (.int (nI j)), some (.int (nI (j + 1)))] [] (ix_S0 c, τ) = some (.int (iv_oi r'), (ix_S0 c, τ)) := ih (j + 1) (some j) (by omega) (fun y hy => by cases hy; exact ⟨by omega, hl⟩)
        cases r with
        | none =>
          obtain ⟨r', g1, g2, g3⟩ := mv
          refine ⟨r', g1, ?_, ?_⟩
          · rw [q_River_talkerTo_16_1]
            simp only [a6, k0, k1, k3, hb, hl, nI_1, q_X_firstOf_0, iv_oi, if_true, if_false, Option.bind_some, iv_tI]
            exact g2
          · rw [q_M_talkerTo_5]
            simp only [h7, k0, k2, k4, cm, q_M_has_0, hb, fj, fp, hl, nI_1, iv_10, iv_oi, if_true, if_false, Option.bind_some, iv_tI]
            exact g3
        | some y =>
          have hy := (hr y rfl).1
          have y0 : ¬ nI y = -1 := iv_m1 (by omega)
          have y1 : ¬ (nI y < 0 ∨ 12 ≤ y) := iv_ni (by omega) (by omega)
          have y2 : (nI y).toNatClampNeg = y := nI_clamp (by omega)
          have ry := hrows y (by omega)
          have t1 : σ 126 j = τ 140 j := rj.2.2.1
          have t2 : σ 126 y = τ 140 y := ry.2.2.1
          by_cases ht : τ 140 j ≤ τ 140 y
          · obtain ⟨r', g1, g2, g3⟩ := stay
            refine ⟨r', g1, ?_, ?_⟩
            · rw [q_River_talkerTo_16_1]
              simp only [a6, k0, k1, k3, hb, hl, nI_1, q_X_firstOf_0, iv_oi, y0, y1, y2, t1, t2, ht, if_true, if_false, Option.bind_some, iv_tI]
              exact g2
            · rw [q_M_talkerTo_5]
              simp only [h7, k0, k1, k2, k3, k4, cm, q_M_has_0, hb, fj, fp, hl, nI_1, iv_10, iv_oi, y0, y1, y2, ht, if_true, if_false, Option.bind_some, iv_tI]
              exact g3
          · obtain ⟨r', g1, g2, g3⟩ := mv
            refine ⟨r', g1, ?_, ?_⟩
            · rw [q_River_talkerTo_16_1]
              simp only [a6, k0, k1, k3, hb, hl, nI_1, q_X_firstOf_0, iv_oi, y0, y1, y2, t1, t2, ht, if_true, if_false, Option.bind_some, iv_tI]
              exact g2
            · rw [q_M_talkerTo_5]
              simp only [h7, k0, k1, k2, k3, k4, cm, q_M_has_0, hb, fj, fp, hl, nI_1, iv_10, iv_oi, y0, y1, y2, ht, if_true, if_false, Option.bind_some, iv_tI]
              exact g3
    · obtain ⟨r', g1, g2, g3⟩ := stay
      refine ⟨r', g1, ?_, ?_⟩
      · rw [q_River_talkerTo_16_1]
        simp only [a6, k0, hb, nI_1, if_true, if_false]
        exact g2
      · rw [q_M_talkerTo_5]
        simp only [h7, k0, k2, k4, cm, q_M_has_0, hb, nI_1, if_true, if_false, Option.bind_some, iv_tI]
        exact g3

