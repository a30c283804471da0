/-! the champion; points; the last land left -/
theorem f_chi (b c : Bool) {σ τ : ix_St} {B : Nat → Nat → Int32} (hX : ∀ x y, iv_rn x y → ix_F 92 [.ref 130, .int (nI x), .int (nI y)] (ix_S0 b, σ) = some (.int (B x y), (ix_S0 b, σ))) (hM : ∀ x y, iv_rn x y → ix_F 212 [.ref 135, .int (nI x), .int (nI y)] (ix_S0 c, τ) = some (.int (B x y), (ix_S0 c, τ))) {x : Nat} (hx : 1 ≤ x) (hx5 : x ≤ 5) : ∀ d y q k f, y + d = 6 → 1 ≤ y → (q + 1 = y ∧ y ≤ x ∨ q + 2 = y ∧ x < y) → k ≤ q → (f = 0 ∨ f = 1) → (f = 0 ↔ k < q) → (ix_S 95 2 12 [some (.ref 130), some (.int (nI x)), some (.int (nI k)), some (.int (nI y))] [] (ix_S0 b, σ) = some (.int (nI x), (ix_S0 b, σ)) ∧ ix_S 213 5 12 [some (.ref 135), some (.int (nI x)), some (.int f), some (.int (nI y))] [] (ix_S0 c, τ) = some (.int (nI x), (ix_S0 c, τ))) ∨ (ix_S 95 2 12 [some (.ref 130), some (.int (nI x)), some (.int (nI k)), some (.int (nI y))] [] (ix_S0 b, σ) = ix_S 95 2 2 [some (.ref 130), some (.int (nI (x + 1))), none, none] [] (ix_S0 b, σ) ∧ ix_S 213 5 12 [some (.ref 135), some (.int (nI x)), some (.int f), some (.int (nI y))] [] (ix_S0 c, τ) = ix_S 213 5 2 [some (.ref 135), some (.int (nI (x + 1))), none, none] [] (ix_S0 c, τ)) := by
  intro d
  induction d with
  | zero =>
    intro y q k f hy h1 hq hk hf hiff
    have hy6 : y = 6 := by omega
    subst hy6
    rw [q_Poll_champion_12, q_M_champion_12, if_pos (show (6 : Int32) ≤ nI 6 by decide), if_pos (show (6 : Int32) ≤ nI 6 by decide), nI_1]
    by_cases h4 : k = 4
    · have hf0 : ¬ f = 0 := fun e => by have := hiff.mp e; omega
      rw [h4, if_pos (show nI 4 = (4 : Int32) from rfl), if_neg hf0]
      exact Or.inl ⟨rfl, rfl⟩
    · have hf0 : f = 0 := hiff.mpr (by omega)
      rw [if_neg (show ¬ nI k = (4 : Int32) from fun e => h4 ((nI_eq (b := 4) (by omega) (by omega)).mp e)), if_pos hf0]
      exact Or.inr ⟨rfl, rfl⟩
  | succ d ih =>
    intro y q k f hy h1 hq hk hf hiff
    have k6 : ¬ (6 : Int32) ≤ nI y := nI_ge (b := 6) (by omega) (by omega)
    rw [q_Poll_champion_12, q_M_champion_12, if_neg k6, if_neg k6, nI_1, nI_1]
    by_cases e : y = x
    · have e' : nI y = nI x := by rw [e]
      rw [if_pos e', if_pos e']
      exact ih (y + 1) q k f (by omega) (by omega) (by omega) hk hf hiff
    · have e' : ¬ nI y = nI x := fun h => e ((nI_eq (by omega) (by omega)).mp h)
      have hr : iv_rn x y := ⟨hx, hx5, h1, by omega, fun h => e h.symm⟩
      rw [if_neg e', if_neg e', hX x y hr, hM x y hr]
      simp only [Option.bind_some, iv_tI]
      by_cases h0 : 0 < B x y
      · rw [if_pos h0, if_neg (iv_nle.mpr h0)]
        exact ih (y + 1) (q + 1) (k + 1) f (by omega) (by omega) (by omega) (by omega) hf (hiff.trans ⟨fun h => by omega, fun h => by omega⟩)
      · rw [if_neg h0, if_pos (iv_nlt.mp h0)]
        exact ih (y + 1) (q + 1) k 0 (by omega) (by omega) (by omega) (by omega) (Or.inl rfl) ⟨fun _ => by omega, fun _ => rfl⟩
theorem f_champ (b c : Bool) {σ τ : ix_St} {B : Nat → Nat → Int32} (hX : ∀ x y, iv_rn x y → ix_F 92 [.ref 130, .int (nI x), .int (nI y)] (ix_S0 b, σ) = some (.int (B x y), (ix_S0 b, σ))) (hM : ∀ x y, iv_rn x y → ix_F 212 [.ref 135, .int (nI x), .int (nI y)] (ix_S0 c, τ) = some (.int (B x y), (ix_S0 c, τ))) : ∃ r, ix_F 95 [.ref 130] (ix_S0 b, σ) = some (.int r, (ix_S0 b, σ)) ∧ ix_F 213 [.ref 135] (ix_S0 c, τ) = some (.int r, (ix_S0 c, τ)) := by
  have key : ∀ d x, x + d = 6 → 1 ≤ x → ∃ r, ix_S 95 2 2 [some (.ref 130), some (.int (nI x)), none, none] [] (ix_S0 b, σ) = some (.int r, (ix_S0 b, σ)) ∧ ix_S 213 5 2 [some (.ref 135), some (.int (nI x)), none, none] [] (ix_S0 c, τ) = some (.int r, (ix_S0 c, τ)) := by
    intro d
    induction d with
    | zero =>
      intro x hx h1
      have : x = 6 := by omega
      subst this
      rw [q_Poll_champion_2, q_M_champion_2, if_pos (show (6 : Int32) ≤ nI 6 by decide), if_pos (show (6 : Int32) ≤ nI 6 by decide)]
      exact ⟨_, rfl, rfl⟩
    | succ d ih =>
      intro x hx h1
      have k6 : ¬ (6 : Int32) ≤ nI x := nI_ge (b := 6) (by omega) (by omega)
      rw [q_Poll_champion_2, q_M_champion_2, if_neg k6, if_neg k6]
      have hi := f_chi b c hX hM h1 (by omega) 5 1 0 0 1 (by omega) (by omega) (by omega) (by omega) (Or.inr rfl) ⟨fun h => absurd h (by decide), fun h => absurd h (by omega)⟩
      rcases hi with ⟨h2, h3⟩ | ⟨h2, h3⟩
      · exact ⟨nI x, h2, h3⟩
      · obtain ⟨r, g1, g2⟩ := ih (x + 1) (by omega) (by omega)
        exact ⟨r, h2.trans g1, h3.trans g2⟩
  rw [q_Poll_champion_0, q_M_champion_0]
  exact key 5 1 (by omega) (by omega)
/-- how many lands come behind one -/
def iv_bh (r : Int32) (l : Nat) : Nat → Nat
  | 0 => 0
  | m + 1 => if m + 1 ≠ l ∧ iv_ps r l < iv_ps r (m + 1) then iv_bh r l m + 1 else iv_bh r l m
theorem iv_bh_ok : ∀ r ∈ ix_rnk, ∀ l, l < 6 → l = 0 ∨ iv_bh r l 5 + iv_ps r l = 4 := by decide +kernel
theorem f_ptX (b : Bool) {σ τ : ix_St} {n o j l : Nat} (hV : iv_V σ τ n o) (hj : j < n) (hl : 1 ≤ l) (hl5 : l ≤ 5) (x : Int32) : ∀ d y, y + d = 5 → ix_S 94 2 24 [some (.ref 130), some (.int (nI l)), some (.int x), some (.int (nI j)), some (.int (nI (iv_bh (σ 3 j) l y))), some (.int (nI (y + 1)))] [] (ix_S0 b, σ) = ix_S 94 2 4 [some (.ref 130), some (.int (nI l)), some (.int (x + nI (iv_bh (σ 3 j) l 5) * σ 131 j)), some (.int (nI (j + 1))), none, none] [] (ix_S0 b, σ) := by
  have hn := hV.1
  have hr := (hV.2.2.2.2.2.2 j hj).2
  intro d
  induction d with
  | zero =>
    intro y hy
    have : y = 5 := by omega
    subst this
    rw [q_Poll_points_24, if_pos (show (6 : Int32) ≤ nI (5 + 1) by decide), if_neg (nI_in (by omega) (by omega)), nI_clamp (by omega), nI_1]
  | succ d ih =>
    intro y hy
    have h := ih (y + 1) (by omega)
    rw [q_Poll_points_24, if_neg (show ¬ (6 : Int32) ≤ nI (y + 1) from nI_ge (b := 6) (by omega) (by omega)), nI_1, nI_1]
    by_cases e : y + 1 = l
    · rw [if_pos (by rw [e])]
      rw [show iv_bh (σ 3 j) l (y + 1) = iv_bh (σ 3 j) l y from if_neg (fun q => q.1 e)] at h
      exact h
    · rw [if_neg (fun q => e ((nI_eq (by omega) (by omega)).mp q)), if_neg (nI_in (by omega) (by omega)), nI_clamp (by omega), f_ahead b hr hl hl5 (by omega) (by omega) (fun q => e q.symm)]
      simp only [Option.bind_some, iv_tI]
      by_cases e2 : iv_ps (σ 3 j) l < iv_ps (σ 3 j) (y + 1)
      · rw [iv_Bt e2, if_neg (by decide)]
        rw [show iv_bh (σ 3 j) l (y + 1) = iv_bh (σ 3 j) l y + 1 from if_pos ⟨e, e2⟩] at h
        exact h
      · rw [iv_Bf e2, if_pos rfl]
        rw [show iv_bh (σ 3 j) l (y + 1) = iv_bh (σ 3 j) l y from if_neg (fun q => e2 q.2)] at h
        exact h
theorem f_points (b c : Bool) {σ τ : ix_St} {n o l : Nat} {sh : Nat → Nat} (hV : iv_V σ τ n o) (hL : iv_L σ τ n o sh) (hl : 1 ≤ l) (hl5 : l ≤ 5) : ∀ d j x, j + d = n → ∃ r, ix_S 94 2 4 [some (.ref 130), some (.int (nI l)), some (.int x), some (.int (nI j)), none, none] [] (ix_S0 b, σ) = some (.int r, (ix_S0 b, σ)) ∧ ix_S 215 3 4 [some (.ref 135), some (.int (nI l)), some (.int x), some (.int (nI j))] [] (ix_S0 c, τ) = some (.int r, (ix_S0 c, τ)) := by
  obtain ⟨hn, h6, h7, m7, ho, hov, hr⟩ := id hV
  intro d
  induction d with
  | zero =>
    intro j x hj
    have : j = n := by omega
    subst this
    refine ⟨x, ?_, ?_⟩
    · rw [q_Poll_points_4, h6, if_pos (nI_le (Nat.le_refl _) (by omega))]
    · rw [q_M_pointsOf_4, m7, if_pos (nI_le (Nat.le_refl _) (by omega))]
  | succ d ih =>
    intro j x hj
    have k0 : ¬ nI n ≤ nI j := nI_ge (by omega) (by omega)
    have k1 : ¬ (nI j < 0 ∨ 12 ≤ j) := iv_ni (by omega) (by omega)
    have k3 : (nI j).toNatClampNeg = j := nI_clamp (by omega)
    have a18 : (18 : Int32) + nI j = nI (18 + j) := nI_add 18 j
    have b18 : ¬ (nI (18 + j) < 0 ∨ 54 ≤ 18 + j) := iv_ni (by omega) (by omega)
    have c18 : (nI (18 + j)).toNatClampNeg = 18 + j := nI_clamp (by omega)
    have a6 : (6 : Int32) + nI j = nI (6 + j) := nI_add 6 j
    have b6 : ¬ (nI (6 + j) < 0 ∨ 54 ≤ 6 + j) := iv_ni (by omega) (by omega)
    have c6 : (nI (6 + j)).toNatClampNeg = 6 + j := nI_clamp (by omega)
    have hrj := hr j (by omega)
    have hlj := hL.2 j (by omega)
    have hX := f_ptX b hV (show j < n by omega) hl hl5 x 5 0 (by omega)
    have hX' : ix_S 94 2 24 [some (.ref 130), some (.int (nI l)), some (.int x), some (.int (nI j)), some (.int 0), some (.int 1)] [] (ix_S0 b, σ) = _ := hX
    have hp : ix_F 247 [.ref 135, .int (τ 136 (6 + j)), .int (nI l)] (ix_S0 c, τ) = some (.int (nI (iv_ps (σ 3 j) l)), (ix_S0 c, τ)) := by
      rw [← hrj.1]; exact f_placeIn c hrj.2 hl hl5 τ
    have hbh := (iv_bh_ok _ hrj.2 l (by omega)).resolve_left (by omega)
    rw [q_Poll_points_4, h6, if_neg k0, hX', q_M_pointsOf_4]
    by_cases hb : o.testBit j = true
    · have z1 : ¬ iv_B (o.testBit j = true) = 0 := fun h => iv_B0.mp h hb
      obtain ⟨r, g1, g2⟩ := ih (j + 1) x (by omega)
      refine ⟨r, ?_, ?_⟩
      · rw [hlj.1, if_pos hb, show nI 0 = (0 : Int32) from rfl, Int32.mul_zero, Int32.add_zero]
        exact g1
      · simp only [m7, k0, a18, b18, c18, hov j (show j < 12 by omega), z1, nI_1, if_false]
        exact g2
    · have z0 : iv_B (o.testBit j = true) = 0 := iv_Bf hb
      obtain ⟨r, g1, g2⟩ := ih (j + 1) (x + nI (iv_bh (σ 3 j) l 5) * nI (sh j)) (by omega)
      refine ⟨r, ?_, ?_⟩
      · rw [hlj.1, if_neg hb]
        exact g1
      · have e4 : (4 : Int32) - nI (iv_ps (σ 3 j) l) = nI (iv_bh (σ 3 j) l 5) := by
          rw [show (4 : Int32) = nI 4 from rfl, pk_sub (by omega), show 4 - iv_ps (σ 3 j) l = iv_bh (σ 3 j) l 5 by omega]
        simp only [m7, k0, k1, k3, a18, b18, c18, a6, b6, c6, hov j (show j < 12 by omega), z0, hp, hlj.2, e4, nI_1, if_true, if_false, Option.bind_some, iv_tI]
        rw [Int32.mul_comm]
        exact g2
/-- trailing zeros of a number below 4096 -/
def iv_tz (i : Nat) : Nat := if i % 2 = 1 then 0 else if i % 4 = 2 then 1 else if i % 8 = 4 then 2 else if i % 16 = 8 then 3 else if i % 32 = 16 then 4 else if i % 64 = 32 then 5 else if i % 128 = 64 then 6 else if i % 256 = 128 then 7 else if i % 512 = 256 then 8 else if i % 1024 = 512 then 9 else if i % 2048 = 1024 then 10 else 11
theorem iv_tz_ok : ∀ a, a < 64 → ∀ c, c < 64 → 64 * a + c = 0 ∨ (iv_tz (64 * a + c) < 12 ∧ (nI (64 * a + c) ^^^ (-1 : Int32)) &&& (nI (64 * a + c) - (1 : Int32)) = nI (2 ^ iv_tz (64 * a + c) - 1)) := by decide +kernel
theorem f_ntz (b : Bool) (σ : ix_St) {i : Nat} (h0 : i ≠ 0) (hi : i < 4096) : ix_F 287 [.int (nI i)] (ix_S0 b, σ) = some (.int (nI (iv_tz i)), (ix_S0 b, σ)) := by
  have h := iv_tz_ok (i / 64) (by omega) (i % 64) (by omega)
  rw [show 64 * (i / 64) + i % 64 = i by omega] at h
  obtain ⟨h1, h2⟩ := h.resolve_left h0
  rw [q_Integer_numberOfTrailingZeros_0, h2]
  generalize iv_tz i = t at h1
  have h12 : t = 0 ∨ t = 1 ∨ t = 2 ∨ t = 3 ∨ t = 4 ∨ t = 5 ∨ t = 6 ∨ t = 7 ∨ t = 8 ∨ t = 9 ∨ t = 10 ∨ t = 11 := by omega
  rcases h12 with rfl | rfl | rfl | rfl | rfl | rfl | rfl | rfl | rfl | rfl | rfl | rfl <;> rfl
