/-! what the law tells -/
def iv_us (i : Int32) (k : Int32) : Int32 := (Int32.toUInt32 i >>> (Int32.toUInt32 k &&& Int32.toUInt32 31)).toInt32
def iv_b1 (i : Int32) : Int32 := i - (iv_us i 1 &&& 1431655765)
def iv_b2 (i : Int32) : Int32 := (i &&& 858993459) + (iv_us i 2 &&& 858993459)
def iv_b3 (i : Int32) : Int32 := (i + iv_us i 4) &&& 252645135
def iv_b4 (i : Int32) : Int32 := i + iv_us i 8
def iv_b5 (i : Int32) : Int32 := i + iv_us i 16
theorem iv_bc_ok : ∀ a, a < 64 → ∀ c, c < 64 → iv_b5 (iv_b4 (iv_b3 (iv_b2 (iv_b1 (nI (64 * a + c)))))) &&& 63 = nI (iv_pc 12 (64 * a + c)) := by decide +kernel
theorem f_bitCount (b : Bool) (σ : ix_St) {s : Nat} (hs : s < 4096) : ix_F 286 [.int (nI s)] (ix_S0 b, σ) = some (.int (nI (iv_pc 12 s)), (ix_S0 b, σ)) := by
  have h := iv_bc_ok (s / 64) (by omega) (s % 64) (by omega)
  rw [show 64 * (s / 64) + s % 64 = s by omega] at h
  rw [← h]
  exact q_Integer_bitCount_0 b (nI s) σ
def iv_hd (x m : Int32) : Int32 := if 0 ≤ x then (if x ≤ m then x else m) else 0
theorem f_clX (b : Bool) (σ : ix_St) (x : Int32) {m : Int32} (hm : 0 ≤ m) : ((ix_F 285 [.int x, .int m] (ix_S0 b, σ)).bind fun x3 => ((ix_F 289 [.int (0 : Int32), .int (ix_toI x3.1)] (ix_S0 b, x3.2.2)).bind fun x4 => some (Value.int (ix_toI x4.1), (ix_S0 b, x4.2.2)))) = some (.int (iv_hd x m), (ix_S0 b, σ)) := by
  rw [q_Math_min_0]
  unfold iv_hd
  by_cases h1 : m < x
  · rw [if_pos h1]
    simp only [Option.bind_some, iv_tI]
    rw [q_Math_max_0]
    have h2 : ¬ x ≤ m := iv_nle.mpr h1
    have h3 : 0 ≤ x := by rw [iv_le] at *; rw [iv_lt] at h1; omega
    rw [if_pos h3, if_neg h2]
    by_cases h4 : 0 < m
    · rw [if_pos h4]; rfl
    · rw [if_neg h4]
      have : m = 0 := by
        apply Int32.toInt_inj.mp
        rw [iv_lt] at h4; rw [iv_le] at hm
        omega
      rw [this]; rfl
  · rw [if_neg h1]
    simp only [Option.bind_some, iv_tI]
    rw [q_Math_max_0]
    by_cases h4 : 0 < x
    · have h3 : 0 ≤ x := by rw [iv_le]; rw [iv_lt] at h4; omega
      rw [if_pos h4, if_pos h3, if_pos (iv_nlt.mp h1)]; rfl
    · rw [if_neg h4]
      by_cases h5 : 0 ≤ x
      · have : x = 0 := by
          apply Int32.toInt_inj.mp
          rw [iv_lt] at h4; rw [iv_le] at h5
          omega
        rw [if_pos h5, if_pos (iv_nlt.mp h1), this]; rfl
      · rw [if_neg h5]; rfl
theorem f_held (b : Bool) (σ : ix_St) (x m : Int32) : ix_F 265 [.ref 135, .int x, .int 0, .int m] (ix_S0 b, σ) = some (.int (iv_hd x m), (ix_S0 b, σ)) := by
  rw [q_M_held_0]
  unfold iv_hd
  by_cases h1 : 0 ≤ x
  · rw [if_pos h1, if_pos h1]
    by_cases h2 : x ≤ m
    · rw [if_pos h2, if_pos h2]
    · rw [if_neg h2, if_neg h2]
  · rw [if_neg h1, if_neg h1]
theorem iv_hd_in (x : Int32) {m : Nat} (hm : m < 2 ^ 31) : ∃ v : Nat, v ≤ m ∧ iv_hd x (nI m) = nI v := by
  unfold iv_hd
  by_cases h1 : 0 ≤ x
  · rw [if_pos h1]
    by_cases h2 : x ≤ nI m
    · rw [if_pos h2]
      obtain ⟨k, hk, e⟩ := iv_rng5 hm ⟨h1, h2⟩
      exact ⟨k, hk, e⟩
    · rw [if_neg h2]
      exact ⟨m, Nat.le_refl _, rfl⟩
  · rw [if_neg h1]
    exact ⟨0, by omega, rfl⟩
theorem f_result (b c : Bool) {σ τ : ix_St} {a e t : Nat} (hae : a ≤ e) (he : e ≤ 400) (hr : iv_run (τ 150) (τ 151) (e - a) a [] [t]) (henc : ∀ i, i < e → iv_enc (σ 13 i) (τ 150 i) (τ 151 i)) (hv : ∀ k, k ≤ 10 → σ 19 (7 + k) = τ 156 k) : ∃ v σ' τ', ix_F 60 [.ref 12, .int (nI a), .int (nI e)] (ix_S0 b, σ) = some (.int v, (ix_S0 b, σ')) ∧ ix_F 264 [.ref 135, .int 0, .int (nI a), .int (nI e)] (ix_S0 c, τ) = some (.int v, (ix_S0 c, τ')) ∧ (∀ z, z ≠ 18 → σ' z = σ z) ∧ ∀ z, z ≠ 157 → τ' z = τ z := by
  obtain ⟨σ', τ', h1, h2, h3, h4, h5, -⟩ := f_run b c he (e - a) a [] [t] (ix_up σ 18 0 0) τ (by omega) hr (fun i _ hi => henc i hi) (by simp) (fun i hi => absurd hi (by simp)) trivial hv
  refine ⟨σ' 18 0, σ', τ', ?_, ?_, fun z hz => (h3 z hz).trans (iv_upn hz), h4⟩
  · rw [q_Law_result_0]
    exact h1
  · rw [q_M_runs_0, show (400 : Int32) * 0 = nI 0 from rfl, nI_add, Nat.zero_add, h5 0 (by simp)]
    exact h2
/-- the law's cells of both -/
def iv_lw (σ τ : ix_St) : Prop := iv_law (σ 12) (σ 13) (σ 14) (σ 15) (σ 16) (σ 17) (τ 145 0) (τ 146) (τ 147) (τ 148) (τ 149) (τ 150) (τ 151)
theorem iv_lw_cong {σ σ' τ τ' : ix_St} (hs : ∀ z, 12 ≤ z → z ≤ 17 → σ' z = σ z) (ht : ∀ z, 145 ≤ z → z ≤ 151 → τ' z = τ z) (h : iv_lw σ τ) : iv_lw σ' τ' := by
  unfold iv_lw at h ⊢
  rw [hs 12 (by omega) (by omega), hs 13 (by omega) (by omega), hs 14 (by omega) (by omega), hs 15 (by omega) (by omega), hs 16 (by omega) (by omega), hs 17 (by omega) (by omega), ht 145 (by omega) (by omega), ht 146 (by omega) (by omega), ht 147 (by omega) (by omega), ht 148 (by omega) (by omega), ht 149 (by omega) (by omega), ht 150 (by omega) (by omega), ht 151 (by omega) (by omega)]
  exact h
/-- how much a word can tell at most -/
def iv_mo (w : Int32) : Nat := if w = 2 then 9 else 1000
theorem f_lines (b c : Bool) (w u : Int32) {n : Nat} (hn16 : n ≤ 16) : ∀ d l σ τ, l + d = n → iv_lw σ τ → σ 12 7 = nI n → (∀ k, k ≤ 10 → σ 19 (7 + k) = τ 156 k) → ∃ x σ', ix_S 54 3 22 [some (.ref 12), some (.int w), none, none, none, none, none, some (.int u), some (.int (nI l))] [] (ix_S0 b, σ) = some (.int (iv_hd x (nI (iv_mo w))), (ix_S0 b, σ')) ∧ (∀ z, z ≠ 18 → σ' z = σ z) ∧
    ((x = u ∧ ∃ τ', ix_S 263 3 2 [some (.ref 135), some (.int w), some (.int (nI l))] [] (ix_S0 c, τ) = some (.int (-1), (ix_S0 c, τ')) ∧ ∀ z, z ≠ 157 → τ' z = τ z) ∨
     ∃ l' τ1 τ2, l' < n ∧ ix_S 263 3 2 [some (.ref 135), some (.int w), some (.int (nI l))] [] (ix_S0 c, τ) = some (.int (nI l'), (ix_S0 c, τ1)) ∧ (∀ z, z ≠ 157 → τ1 z = τ z) ∧ ix_F 264 [.ref 135, .int 0, .int (τ1 147 l'), .int (τ1 148 l')] (ix_S0 c, τ1) = some (.int x, (ix_S0 c, τ2)) ∧ ∀ z, z ≠ 157 → τ2 z = τ z) := by
  have tail : ∀ (σ : ix_St) (x : Int32), (if w = (2 : Int32) then ((ix_F 285 [.int x, .int (9 : Int32)] (ix_S0 b, σ)).bind fun x1 => ((ix_F 289 [.int (0 : Int32), .int (ix_toI x1.1)] (ix_S0 b, x1.2.2)).bind fun x2 => some (Value.int (ix_toI x2.1), (ix_S0 b, x2.2.2)))) else ((ix_F 285 [.int x, .int (1000 : Int32)] (ix_S0 b, σ)).bind fun x3 => ((ix_F 289 [.int (0 : Int32), .int (ix_toI x3.1)] (ix_S0 b, x3.2.2)).bind fun x4 => some (Value.int (ix_toI x4.1), (ix_S0 b, x4.2.2))))) = some (.int (iv_hd x (nI (iv_mo w))), (ix_S0 b, σ)) := by
    intro σ x
    unfold iv_mo
    by_cases hw : w = 2
    · rw [if_pos hw, if_pos hw]
      exact f_clX b σ x (by decide)
    · rw [if_neg hw, if_neg hw]
      exact f_clX b σ x (by decide)
  intro d
  induction d with
  | zero =>
    intro l σ τ hl hlw h7 hv
    have : l = n := by omega
    subst this
    have hml : τ 145 0 = nI l := by
      obtain ⟨n', z, -, e1, e2, -⟩ := hlw
      rw [e2, ← e1, h7]
    refine ⟨u, σ, ?_, fun _ _ => rfl, Or.inl ⟨rfl, τ, ?_, fun _ _ => rfl⟩⟩
    · rw [q_Law_tells_22, h7, if_pos (nI_le (Nat.le_refl _) (by omega))]
      exact tail σ u
    · rw [q_M_lineOf_2, hml, if_pos (nI_le (Nat.le_refl _) (by omega))]
  | succ d ih =>
    intro l σ τ hl hlw h7 hv
    have hlw0 := hlw
    obtain ⟨n', z, hn', e1, e2, hz, e3, henc, hline⟩ := hlw
    have hnn : n' = n := by
      rw [h7, nI_eq (by omega) (by omega)] at e1
      exact e1.symm
    subst hnn
    obtain ⟨-, hw2, a0, b0, c0, g1, g2, g3, w1, w2, w3, w4, w5, w6, ⟨t, ht, r1⟩, r2⟩ := hline l (by omega)
    have k0 : ¬ nI n' ≤ nI l := nI_ge (by omega) (by omega)
    have k1 : ¬ (nI l < 0 ∨ 16 ≤ l) := iv_ni (by omega) (by omega)
    have k2 : ¬ (nI l < 0 ∨ 48 ≤ l) := iv_ni (by omega) (by omega)
    have k3 : (nI l).toNatClampNeg = l := nI_clamp (by omega)
    have next : ∀ σ1 τ1, (∀ z, z ≠ 18 → σ1 z = σ z) → (∀ z, z ≠ 157 → τ1 z = τ z) → ∃ x σ', ix_S 54 3 22 [some (.ref 12), some (.int w), none, none, none, none, none, some (.int u), some (.int (nI (l + 1)))] [] (ix_S0 b, σ1) = some (.int (iv_hd x (nI (iv_mo w))), (ix_S0 b, σ')) ∧ (∀ z, z ≠ 18 → σ' z = σ z) ∧
        ((x = u ∧ ∃ τ', ix_S 263 3 2 [some (.ref 135), some (.int w), some (.int (nI (l + 1)))] [] (ix_S0 c, τ1) = some (.int (-1), (ix_S0 c, τ')) ∧ ∀ z, z ≠ 157 → τ' z = τ z) ∨
         ∃ l' τ1' τ2, l' < n' ∧ ix_S 263 3 2 [some (.ref 135), some (.int w), some (.int (nI (l + 1)))] [] (ix_S0 c, τ1) = some (.int (nI l'), (ix_S0 c, τ1')) ∧ (∀ z, z ≠ 157 → τ1' z = τ z) ∧ ix_F 264 [.ref 135, .int 0, .int (τ1' 147 l'), .int (τ1' 148 l')] (ix_S0 c, τ1') = some (.int x, (ix_S0 c, τ2)) ∧ ∀ z, z ≠ 157 → τ2 z = τ z) := by
      intro σ1 τ1 f1 f2
      obtain ⟨x, σ', p1, p2, p3⟩ := ih (l + 1) σ1 τ1 (by omega) (iv_lw_cong (fun z h1 h2 => f1 z (by omega)) (fun z h1 h2 => f2 z (by omega)) hlw0) (by rw [f1 12 (by omega)]; exact h7) (by rw [f1 19 (by omega), f2 156 (by omega)]; exact hv)
      refine ⟨x, σ', p1, fun z hz => (p2 z hz).trans (f1 z hz), ?_⟩
      rcases p3 with ⟨p4, τ', p5, p6⟩ | ⟨l', τ2, τ3, p4, p5, p6, p7, p8⟩
      · exact Or.inl ⟨p4, τ', p5, fun z hz => (p6 z hz).trans (f2 z hz)⟩
      · exact Or.inr ⟨l', τ2, τ3, p4, p5, fun z hz => (p6 z hz).trans (f2 z hz), p7, fun z hz => (p8 z hz).trans (f2 z hz)⟩
    by_cases hw : σ 14 l = w
    · have hw' : τ 146 l = w := by rw [← hw2]; exact hw
      by_cases hbc : b0 = c0
      · -- no condition
        subst hbc
        obtain ⟨v, σ1, τ1, p1, p2, p3, p4⟩ := f_result b c g1 (by omega) r1 (fun i hi => henc i (by omega)) hv
        refine ⟨v, σ1, ?_, p3, Or.inr ⟨l, τ, τ1, by omega, ?_, fun _ _ => rfl, ?_, p4⟩⟩
        · rw [q_Law_tells_22]
          simp only [h7, k0, k1, k3, hw, w1, w3, w5, p1, if_true, if_false, Option.bind_some, iv_tI]
          exact tail σ1 v
        · rw [q_M_lineOf_2]
          simp only [e2, k0, k2, k3, hw', w4, w6, if_true, if_false]
        · rw [w2, w4]; exact p2
      · obtain ⟨v, σ1, τ1, p1, p2, p3, p4⟩ := f_result b c g2 (by omega) (r2 (by omega)) (fun i hi => henc i (by omega)) hv
        have hbc' : ¬ nI b0 = nI c0 := fun h => hbc ((nI_eq (by omega) (by omega)).mp h)
        by_cases hv0 : v = 0
        · obtain ⟨x, σ', p5, p6, p7⟩ := next σ1 τ1 p3 p4
          refine ⟨x, σ', ?_, p6, ?_⟩
          · rw [q_Law_tells_22]
            simp only [h7, k0, k1, k3, hw, w3, w5, hbc', p1, hv0, nI_1, if_true, if_false, Option.bind_some, iv_tI]
            exact p5
          · have e : ix_S 263 3 2 [some (.ref 135), some (.int w), some (.int (nI l))] [] (ix_S0 c, τ) = ix_S 263 3 2 [some (.ref 135), some (.int w), some (.int (nI (l + 1)))] [] (ix_S0 c, τ1) := by
              rw [q_M_lineOf_2]
              simp only [e2, k0, k2, k3, hw', w4, w6, hbc', p2, hv0, nI_1, if_true, if_false, Option.bind_some, iv_tI]
            rw [e]
            exact p7
        · have hv1 : ∀ k, k ≤ 10 → σ1 19 (7 + k) = τ1 156 k := by rw [p3 19 (by omega), p4 156 (by omega)]; exact hv
          obtain ⟨v2, σ2, τ2, m1, m2, m3, m4⟩ := f_result (σ := σ1) (τ := τ1) b c g1 (by omega) (by rw [p4 150 (by omega), p4 151 (by omega)]; exact r1) (fun i hi => by rw [p3 13 (by omega), p4 150 (by omega), p4 151 (by omega)]; exact henc i (by omega)) hv1
          have y1 : σ1 15 l = nI a0 := by rw [p3 15 (by omega)]; exact w1
          have y2 : σ1 16 l = nI b0 := by rw [p3 16 (by omega)]; exact w3
          refine ⟨v2, σ2, ?_, fun z hz => (m3 z hz).trans (p3 z hz), Or.inr ⟨l, τ1, τ2, by omega, ?_, p4, ?_, fun z hz => (m4 z hz).trans (p4 z hz)⟩⟩
          · rw [q_Law_tells_22]
            simp only [h7, k0, k1, k3, hw, w3, w5, hbc', p1, hv0, y1, y2, m1, if_true, if_false, Option.bind_some, iv_tI]
            exact tail σ2 v2
          · rw [q_M_lineOf_2]
            simp only [e2, k0, k2, k3, hw', w4, w6, hbc', p2, hv0, if_true, if_false, Option.bind_some, iv_tI]
          · rw [p4 147 (by omega), p4 148 (by omega), w2, w4]; exact m2
    · have hw' : ¬ τ 146 l = w := by rw [← hw2]; exact hw
      obtain ⟨x, σ', p5, p6, p7⟩ := next σ τ (fun _ _ => rfl) (fun _ _ => rfl)
      refine ⟨x, σ', ?_, p6, ?_⟩
      · rw [q_Law_tells_22]
        simp only [h7, k0, k1, k3, hw, nI_1, if_true, if_false]
        exact p5
      · have e : ix_S 263 3 2 [some (.ref 135), some (.int w), some (.int (nI l))] [] (ix_S0 c, τ) = ix_S 263 3 2 [some (.ref 135), some (.int w), some (.int (nI (l + 1)))] [] (ix_S0 c, τ) := by
          rw [q_M_lineOf_2]
          simp only [e2, k0, k2, k3, hw', nI_1, if_true, if_false]
        rw [e]
        exact p7

/-- how many aboard have the same land first -/
theorem f_same_F (b c : Bool) (p s : Nat) {n : Nat} (hn : n ≤ 12) (land : Int32) : ∀ d j σ τ, j + d = n → σ 2 6 = nI n → τ 135 7 = nI n → (∀ i, i < n → σ 3 i = τ 136 (6 + i) ∧ σ 3 i ∈ ix_rnk) → p < n → land = σ 3 p / 10000 → ∃ x τ', ix_S 130 1 17 [some (.ref 2), none, some (.int (nI s)), some (.int land), some (.int (τ 156 10)), some (.int (nI j))] [] (ix_S0 b, σ) = some (.int x, (ix_S0 b, σ)) ∧ ix_S 239 3 129 [some (.ref 135), some (.int (nI p)), none, none, some (.int (nI s)), some (.int (nI j))] [] (ix_S0 c, τ) = some (.null, (ix_S0 c, τ')) ∧ τ' 156 10 = x ∧ (∀ z, z ≠ 156 → τ' z = τ z) ∧ ∀ i, i ≠ 10 → τ' 156 i = τ 156 i := by
  intro d
  induction d with
  | zero =>
    intro j σ τ hj h6 h7 hr hp hland
    have : j = n := by omega
    subst this
    refine ⟨τ 156 10, τ, ?_, ?_, rfl, fun _ _ => rfl, fun _ _ => rfl⟩
    · rw [q_River_sameFirst_17, h6, if_pos (nI_le (Nat.le_refl _) (by omega))]
    · rw [q_M_asks_129, h7, if_pos (nI_le (Nat.le_refl _) (by omega))]
  | succ d ih =>
    intro j σ τ hj h6 h7 hr hp hland
    have k0 : ¬ nI n ≤ nI j := nI_ge (by omega) (by omega)
    have k1 : ¬ (nI j < 0 ∨ 12 ≤ j) := iv_ni (by omega) (by omega)
    have k3 : (nI j).toNatClampNeg = j := nI_clamp (by omega)
    obtain ⟨r1, r2⟩ := hr j (by omega)
    obtain ⟨r3, r4⟩ := hr p hp
    have fj : ix_F 243 [.ref 135, .int (nI j)] (ix_S0 c, τ) = some (.int (σ 3 j / 10000), (ix_S0 c, τ)) := by
      rw [f_firstOf c τ (by omega), ← r1, (iv_d_la _ r2 0 (by omega)).1, (iv_d_dg _ r2).2.1]
    have fp : ix_F 243 [.ref 135, .int (nI p)] (ix_S0 c, τ) = some (.int land, (ix_S0 c, τ)) := by
      rw [f_firstOf c τ (by omega), ← r3, (iv_d_la _ r4 0 (by omega)).1, hland, (iv_d_dg _ r4).2.1]
    by_cases hb : ((nI s >>> (nI j &&& 31)) &&& (1 : Int32)) = 1
    · by_cases hl : σ 3 j / 10000 = land
      · obtain ⟨x, τ', p1, p2, p3, p4, p5⟩ := ih (j + 1) σ (ix_up τ 156 10 (τ 156 10 + 1)) (by omega) h6 h7 hr hp hland
        refine ⟨x, τ', ?_, ?_, p3, fun z hz => (p4 z hz).trans (iv_upn hz), fun i hi => (p5 i hi).trans (pk_un hi)⟩
        · rw [q_River_sameFirst_17]
          simp only [h6, k0, k1, k3, hb, hl, nI_1, if_true, if_false]
          exact p1
        · rw [q_M_asks_129, q_M_has_0]
          simp only [h7, k0, hb, nI_1, fj, fp, hl, iv_10, if_true, if_false, Option.bind_some, iv_tI]
          exact p2
      · obtain ⟨x, τ', p1, p2, p3, p4, p5⟩ := ih (j + 1) σ τ (by omega) h6 h7 hr hp hland
        refine ⟨x, τ', ?_, ?_, p3, p4, p5⟩
        · rw [q_River_sameFirst_17]
          simp only [h6, k0, k1, k3, hb, hl, nI_1, if_true, if_false]
          exact p1
        · rw [q_M_asks_129, q_M_has_0]
          simp only [h7, k0, hb, nI_1, fj, fp, hl, iv_10, if_true, if_false, Option.bind_some, iv_tI]
          exact p2
    · obtain ⟨x, τ', p1, p2, p3, p4, p5⟩ := ih (j + 1) σ τ (by omega) h6 h7 hr hp hland
      refine ⟨x, τ', ?_, ?_, p3, p4, p5⟩
      · rw [q_River_sameFirst_17]
        simp only [h6, k0, hb, nI_1, if_true, if_false]
        exact p1
      · rw [q_M_asks_129, q_M_has_0]
        simp only [h7, k0, hb, nI_1, if_true, if_false, Option.bind_some, iv_tI]
        exact p2
def iv_rvF (σ τ : ix_St) (M n o : Nat) : Prop := iv_riv (σ 2) (σ 3) (σ 4) (σ 5) (σ 6) (σ 7) (σ 8) (τ 136) (τ 135 6) (τ 139) (τ 140) (τ 141) M n o ∧ τ 135 7 = nI n
theorem f_learn_F (b c : Bool) {σ τ : ix_St} {M n o : Nat} (hn : n ≤ 12) (hR : iv_rvF σ τ M n o) {p s : Nat} (hp : p < n) (hs : s < 4096) (t m : Int32) : ∃ σ' τ', ix_F 58 [.ref 12, .ref 2, .int (nI p), .int t, .int m, .int (nI s)] (ix_S0 b, σ) = some (.null, (ix_S0 b, σ')) ∧ ix_F 239 [.ref 135, .int (nI p), .int t, .int m, .int (nI s)] (ix_S0 c, τ) = some (.null, (ix_S0 c, τ')) ∧ (∀ k, k ≤ 10 → σ' 19 (7 + k) = τ' 156 k) ∧ (∀ z, z ≠ 19 → σ' z = σ z) ∧ (∀ z, z ≠ 156 → τ' z = τ z) ∧ τ' 156 0 = τ 139 p ∧ τ' 156 2 = τ 141 p ∧ τ' 156 3 = τ 136 (30 + p) := by
  obtain ⟨⟨⟨a0, a1, a2, a3, a4, a5, a6, a7⟩, -, ⟨ho, hov⟩, hrows, hranks⟩, h7⟩ := hR
  have k1 : ¬ (nI p < 0 ∨ 12 ≤ p) := iv_ni (by omega) (by omega)
  have k3 : (nI p).toNatClampNeg = p := nI_clamp (by omega)
  have k4 : (30 : Int32) + nI p = nI (30 + p) := nI_add 30 p
  have k5 : (42 : Int32) + nI p = nI (42 + p) := nI_add 42 p
  have k6 : ¬ (nI (30 + p) < 0 ∨ 54 ≤ 30 + p) := iv_ni (by omega) (by omega)
  have k7 : ¬ (nI (42 + p) < 0 ∨ 54 ≤ 42 + p) := iv_ni (by omega) (by omega)
  have k8 : (nI (30 + p)).toNatClampNeg = 30 + p := nI_clamp (by omega)
  have k9 : (nI (42 + p)).toNatClampNeg = 42 + p := nI_clamp (by omega)
  obtain ⟨q1, q2, q3, q4, q5, q6⟩ := hrows p (by omega)
  obtain ⟨x, τ', e1, e2, e3, e4, e5⟩ := f_same_F b c p s hn (σ 3 p / 10000) n 0
    (ix_up (ix_up (ix_up (ix_up (ix_up (ix_up (ix_up (ix_up (ix_up (ix_up σ 19 7 (σ 4 p)) 19 8 t) 19 9 (σ 6 p)) 19 10 (σ 7 p)) 19 11 (σ 8 p)) 19 12 (σ 2 1)) 19 13 (σ 2 2)) 19 14 (σ 2 3)) 19 15 m) 19 16 (nI (iv_pc 12 s)))
    (ix_up (ix_up (ix_up (ix_up (ix_up (ix_up (ix_up (ix_up (ix_up (ix_up (ix_up τ 156 0 (τ 139 p)) 156 1 t) 156 2 (τ 141 p)) 156 3 (τ 136 (30 + p))) 156 4 (τ 136 (42 + p))) 156 5 (τ 136 3)) 156 6 (τ 136 4)) 156 7 (τ 135 6)) 156 8 m) 156 9 (nI (iv_pc 12 s))) 156 10 0)
    (by omega) a6 h7 (fun i hi => ⟨(hrows i (by omega)).1, hranks i hi⟩) hp rfl
  refine ⟨ix_up (ix_up (ix_up (ix_up (ix_up (ix_up (ix_up (ix_up (ix_up (ix_up (ix_up σ 19 7 (σ 4 p)) 19 8 t) 19 9 (σ 6 p)) 19 10 (σ 7 p)) 19 11 (σ 8 p)) 19 12 (σ 2 1)) 19 13 (σ 2 2)) 19 14 (σ 2 3)) 19 15 m) 19 16 (nI (iv_pc 12 s))) 19 17 x, τ', ?_, ?_, ?_, ?_, fun z hz => (e4 z hz).trans ?_, ?_, ?_, ?_⟩
  · rw [q_Law_learn_0]
    simp only [k1, k3, if_false, f_bitCount b _ hs, Option.bind_some, iv_tI]
    rw [q_River_sameFirst_0]
    simp only [k1, k3, if_false]
    have e1' := e1
    rw [show (ix_up (ix_up (ix_up (ix_up (ix_up (ix_up (ix_up (ix_up (ix_up (ix_up (ix_up τ 156 0 (τ 139 p)) 156 1 t) 156 2 (τ 141 p)) 156 3 (τ 136 (30 + p))) 156 4 (τ 136 (42 + p))) 156 5 (τ 136 3)) 156 6 (τ 136 4)) 156 7 (τ 135 6)) 156 8 m) 156 9 (nI (iv_pc 12 s))) 156 10 0) 156 10 = 0 from rfl] at e1'
    rw [show ix_S 130 1 17 [some (.ref 2), none, some (.int (nI s)), some (.int ((ix_up (ix_up (ix_up (ix_up (ix_up (ix_up (ix_up (ix_up (ix_up (ix_up σ 19 7 (σ 4 p)) 19 8 t) 19 9 (σ 6 p)) 19 10 (σ 7 p)) 19 11 (σ 8 p)) 19 12 (σ 2 1)) 19 13 (σ 2 2)) 19 14 (σ 2 3)) 19 15 m) 19 16 (nI (iv_pc 12 s))) 3 p / 10000)), some (.int 0), some (.int 0)] [] (ix_S0 b, (ix_up (ix_up (ix_up (ix_up (ix_up (ix_up (ix_up (ix_up (ix_up (ix_up σ 19 7 (σ 4 p)) 19 8 t) 19 9 (σ 6 p)) 19 10 (σ 7 p)) 19 11 (σ 8 p)) 19 12 (σ 2 1)) 19 13 (σ 2 2)) 19 14 (σ 2 3)) 19 15 m) 19 16 (nI (iv_pc 12 s)))) = _ from e1']
    rfl
  · rw [q_M_asks_0]
    simp only [k1, k3, k4, k5, k6, k7, k8, k9, if_false, f_onesOf c _ hs, Option.bind_some, iv_tI]
    exact e2
  · intro k hk
    have h11 : k = 0 ∨ k = 1 ∨ k = 2 ∨ k = 3 ∨ k = 4 ∨ k = 5 ∨ k = 6 ∨ k = 7 ∨ k = 8 ∨ k = 9 ∨ k = 10 := by omega
    rcases h11 with rfl | rfl | rfl | rfl | rfl | rfl | rfl | rfl | rfl | rfl | rfl
    · rw [e5 0 (by omega)]; exact q2
    · rw [e5 1 (by omega)]; rfl
    · rw [e5 2 (by omega)]; exact q4
    · rw [e5 3 (by omega)]; exact q5
    · rw [e5 4 (by omega)]; exact q6
    · rw [e5 5 (by omega)]; exact a1
    · rw [e5 6 (by omega)]; exact a2
    · rw [e5 7 (by omega)]; exact a3
    · rw [e5 8 (by omega)]; rfl
    · rw [e5 9 (by omega)]; rfl
    · rw [e3]; rfl
  · intro z hz
    rw [iv_upn hz, iv_upn hz, iv_upn hz, iv_upn hz, iv_upn hz, iv_upn hz, iv_upn hz, iv_upn hz, iv_upn hz, iv_upn hz, iv_upn hz]
  · rw [iv_upn hz, iv_upn hz, iv_upn hz, iv_upn hz, iv_upn hz, iv_upn hz, iv_upn hz, iv_upn hz, iv_upn hz, iv_upn hz, iv_upn hz]
  · rw [e5 0 (by omega)]; rfl
  · rw [e5 2 (by omega)]; rfl
  · rw [e5 3 (by omega)]; rfl

/-- how many aboard have the same land first -/
theorem f_same_T (b c : Bool) (p s : Nat) {n : Nat} (hn : n ≤ 12) (land : Int32) : ∀ d j σ τ, j + d = n → σ 123 6 = nI n → τ 135 7 = nI n → (∀ i, i < n → σ 124 i = τ 136 (6 + i) ∧ σ 124 i ∈ ix_rnk) → p < n → land = σ 124 p / 10000 → ∃ x τ', ix_S 130 1 17 [some (.ref 123), none, some (.int (nI s)), some (.int land), some (.int (τ 156 10)), some (.int (nI j))] [] (ix_S0 b, σ) = some (.int x, (ix_S0 b, σ)) ∧ ix_S 239 3 129 [some (.ref 135), some (.int (nI p)), none, none, some (.int (nI s)), some (.int (nI j))] [] (ix_S0 c, τ) = some (.null, (ix_S0 c, τ')) ∧ τ' 156 10 = x ∧ (∀ z, z ≠ 156 → τ' z = τ z) ∧ ∀ i, i ≠ 10 → τ' 156 i = τ 156 i := by
  intro d
  induction d with
  | zero =>
    intro j σ τ hj h6 h7 hr hp hland
    have : j = n := by omega
    subst this
    refine ⟨τ 156 10, τ, ?_, ?_, rfl, fun _ _ => rfl, fun _ _ => rfl⟩
    · rw [q_River_sameFirst_17_1, h6, if_pos (nI_le (Nat.le_refl _) (by omega))]
    · rw [q_M_asks_129, h7, if_pos (nI_le (Nat.le_refl _) (by omega))]
  | succ d ih =>
    intro j σ τ hj h6 h7 hr hp hland
    have k0 : ¬ nI n ≤ nI j := nI_ge (by omega) (by omega)
    have k1 : ¬ (nI j < 0 ∨ 12 ≤ j) := iv_ni (by omega) (by omega)
    have k3 : (nI j).toNatClampNeg = j := nI_clamp (by omega)
    obtain ⟨r1, r2⟩ := hr j (by omega)
    obtain ⟨r3, r4⟩ := hr p hp
    have fj : ix_F 243 [.ref 135, .int (nI j)] (ix_S0 c, τ) = some (.int (σ 124 j / 10000), (ix_S0 c, τ)) := by
      rw [f_firstOf c τ (by omega), ← r1, (iv_d_la _ r2 0 (by omega)).1, (iv_d_dg _ r2).2.1]
    have fp : ix_F 243 [.ref 135, .int (nI p)] (ix_S0 c, τ) = some (.int land, (ix_S0 c, τ)) := by
      rw [f_firstOf c τ (by omega), ← r3, (iv_d_la _ r4 0 (by omega)).1, hland, (iv_d_dg _ r4).2.1]
    by_cases hb : ((nI s >>> (nI j &&& 31)) &&& (1 : Int32)) = 1
    · by_cases hl : σ 124 j / 10000 = land
      · obtain ⟨x, τ', p1, p2, p3, p4, p5⟩ := ih (j + 1) σ (ix_up τ 156 10 (τ 156 10 + 1)) (by omega) h6 h7 hr hp hland
        refine ⟨x, τ', ?_, ?_, p3, fun z hz => (p4 z hz).trans (iv_upn hz), fun i hi => (p5 i hi).trans (pk_un hi)⟩
        · rw [q_River_sameFirst_17_1]
          simp only [h6, k0, k1, k3, hb, hl, nI_1, if_true, if_false]
          exact p1
        · rw [q_M_asks_129, q_M_has_0]
          simp only [h7, k0, hb, nI_1, fj, fp, hl, iv_10, if_true, if_false, Option.bind_some, iv_tI]
          exact p2
      · obtain ⟨x, τ', p1, p2, p3, p4, p5⟩ := ih (j + 1) σ τ (by omega) h6 h7 hr hp hland
        refine ⟨x, τ', ?_, ?_, p3, p4, p5⟩
        · rw [q_River_sameFirst_17_1]
          simp only [h6, k0, k1, k3, hb, hl, nI_1, if_true, if_false]
          exact p1
        · rw [q_M_asks_129, q_M_has_0]
          simp only [h7, k0, hb, nI_1, fj, fp, hl, iv_10, if_true, if_false, Option.bind_some, iv_tI]
          exact p2
    · obtain ⟨x, τ', p1, p2, p3, p4, p5⟩ := ih (j + 1) σ τ (by omega) h6 h7 hr hp hland
      refine ⟨x, τ', ?_, ?_, p3, p4, p5⟩
      · rw [q_River_sameFirst_17_1]
        simp only [h6, k0, hb, nI_1, if_true, if_false]
        exact p1
      · rw [q_M_asks_129, q_M_has_0]
        simp only [h7, k0, hb, nI_1, if_true, if_false, Option.bind_some, iv_tI]
        exact p2
def iv_rvT (σ τ : ix_St) (M n o : Nat) : Prop := iv_riv (σ 123) (σ 124) (σ 125) (σ 126) (σ 127) (σ 128) (σ 129) (τ 136) (τ 135 6) (τ 139) (τ 140) (τ 141) M n o ∧ τ 135 7 = nI n
theorem f_learn_T (b c : Bool) {σ τ : ix_St} {M n o : Nat} (hn : n ≤ 12) (hR : iv_rvT σ τ M n o) {p s : Nat} (hp : p < n) (hs : s < 4096) (t m : Int32) : ∃ σ' τ', ix_F 58 [.ref 12, .ref 123, .int (nI p), .int t, .int m, .int (nI s)] (ix_S0 b, σ) = some (.null, (ix_S0 b, σ')) ∧ ix_F 239 [.ref 135, .int (nI p), .int t, .int m, .int (nI s)] (ix_S0 c, τ) = some (.null, (ix_S0 c, τ')) ∧ (∀ k, k ≤ 10 → σ' 19 (7 + k) = τ' 156 k) ∧ (∀ z, z ≠ 19 → σ' z = σ z) ∧ (∀ z, z ≠ 156 → τ' z = τ z) ∧ τ' 156 0 = τ 139 p ∧ τ' 156 2 = τ 141 p ∧ τ' 156 3 = τ 136 (30 + p) := by
  obtain ⟨⟨⟨a0, a1, a2, a3, a4, a5, a6, a7⟩, -, ⟨ho, hov⟩, hrows, hranks⟩, h7⟩ := hR
  have k1 : ¬ (nI p < 0 ∨ 12 ≤ p) := iv_ni (by omega) (by omega)
  have k3 : (nI p).toNatClampNeg = p := nI_clamp (by omega)
  have k4 : (30 : Int32) + nI p = nI (30 + p) := nI_add 30 p
  have k5 : (42 : Int32) + nI p = nI (42 + p) := nI_add 42 p
  have k6 : ¬ (nI (30 + p) < 0 ∨ 54 ≤ 30 + p) := iv_ni (by omega) (by omega)
  have k7 : ¬ (nI (42 + p) < 0 ∨ 54 ≤ 42 + p) := iv_ni (by omega) (by omega)
  have k8 : (nI (30 + p)).toNatClampNeg = 30 + p := nI_clamp (by omega)
  have k9 : (nI (42 + p)).toNatClampNeg = 42 + p := nI_clamp (by omega)
  obtain ⟨q1, q2, q3, q4, q5, q6⟩ := hrows p (by omega)
  obtain ⟨x, τ', e1, e2, e3, e4, e5⟩ := f_same_T b c p s hn (σ 124 p / 10000) n 0
    (ix_up (ix_up (ix_up (ix_up (ix_up (ix_up (ix_up (ix_up (ix_up (ix_up σ 19 7 (σ 125 p)) 19 8 t) 19 9 (σ 127 p)) 19 10 (σ 128 p)) 19 11 (σ 129 p)) 19 12 (σ 123 1)) 19 13 (σ 123 2)) 19 14 (σ 123 3)) 19 15 m) 19 16 (nI (iv_pc 12 s)))
    (ix_up (ix_up (ix_up (ix_up (ix_up (ix_up (ix_up (ix_up (ix_up (ix_up (ix_up τ 156 0 (τ 139 p)) 156 1 t) 156 2 (τ 141 p)) 156 3 (τ 136 (30 + p))) 156 4 (τ 136 (42 + p))) 156 5 (τ 136 3)) 156 6 (τ 136 4)) 156 7 (τ 135 6)) 156 8 m) 156 9 (nI (iv_pc 12 s))) 156 10 0)
    (by omega) a6 h7 (fun i hi => ⟨(hrows i (by omega)).1, hranks i hi⟩) hp rfl
  refine ⟨ix_up (ix_up (ix_up (ix_up (ix_up (ix_up (ix_up (ix_up (ix_up (ix_up (ix_up σ 19 7 (σ 125 p)) 19 8 t) 19 9 (σ 127 p)) 19 10 (σ 128 p)) 19 11 (σ 129 p)) 19 12 (σ 123 1)) 19 13 (σ 123 2)) 19 14 (σ 123 3)) 19 15 m) 19 16 (nI (iv_pc 12 s))) 19 17 x, τ', ?_, ?_, ?_, ?_, fun z hz => (e4 z hz).trans ?_, ?_, ?_, ?_⟩
  · rw [q_Law_learn_0_1]
    simp only [k1, k3, if_false, f_bitCount b _ hs, Option.bind_some, iv_tI]
    rw [q_River_sameFirst_0_1]
    simp only [k1, k3, if_false]
    have e1' := e1
    rw [show (ix_up (ix_up (ix_up (ix_up (ix_up (ix_up (ix_up (ix_up (ix_up (ix_up (ix_up τ 156 0 (τ 139 p)) 156 1 t) 156 2 (τ 141 p)) 156 3 (τ 136 (30 + p))) 156 4 (τ 136 (42 + p))) 156 5 (τ 136 3)) 156 6 (τ 136 4)) 156 7 (τ 135 6)) 156 8 m) 156 9 (nI (iv_pc 12 s))) 156 10 0) 156 10 = 0 from rfl] at e1'
    rw [show ix_S 130 1 17 [some (.ref 123), none, some (.int (nI s)), some (.int ((ix_up (ix_up (ix_up (ix_up (ix_up (ix_up (ix_up (ix_up (ix_up (ix_up σ 19 7 (σ 125 p)) 19 8 t) 19 9 (σ 127 p)) 19 10 (σ 128 p)) 19 11 (σ 129 p)) 19 12 (σ 123 1)) 19 13 (σ 123 2)) 19 14 (σ 123 3)) 19 15 m) 19 16 (nI (iv_pc 12 s))) 124 p / 10000)), some (.int 0), some (.int 0)] [] (ix_S0 b, (ix_up (ix_up (ix_up (ix_up (ix_up (ix_up (ix_up (ix_up (ix_up (ix_up σ 19 7 (σ 125 p)) 19 8 t) 19 9 (σ 127 p)) 19 10 (σ 128 p)) 19 11 (σ 129 p)) 19 12 (σ 123 1)) 19 13 (σ 123 2)) 19 14 (σ 123 3)) 19 15 m) 19 16 (nI (iv_pc 12 s)))) = _ from e1']
    rfl
  · rw [q_M_asks_0]
    simp only [k1, k3, k4, k5, k6, k7, k8, k9, if_false, f_onesOf c _ hs, Option.bind_some, iv_tI]
    exact e2
  · intro k hk
    have h11 : k = 0 ∨ k = 1 ∨ k = 2 ∨ k = 3 ∨ k = 4 ∨ k = 5 ∨ k = 6 ∨ k = 7 ∨ k = 8 ∨ k = 9 ∨ k = 10 := by omega
    rcases h11 with rfl | rfl | rfl | rfl | rfl | rfl | rfl | rfl | rfl | rfl | rfl
    · rw [e5 0 (by omega)]; exact q2
    · rw [e5 1 (by omega)]; rfl
    · rw [e5 2 (by omega)]; exact q4
    · rw [e5 3 (by omega)]; exact q5
    · rw [e5 4 (by omega)]; exact q6
    · rw [e5 5 (by omega)]; exact a1
    · rw [e5 6 (by omega)]; exact a2
    · rw [e5 7 (by omega)]; exact a3
    · rw [e5 8 (by omega)]; rfl
    · rw [e5 9 (by omega)]; rfl
    · rw [e3]; rfl
  · intro z hz
    rw [iv_upn hz, iv_upn hz, iv_upn hz, iv_upn hz, iv_upn hz, iv_upn hz, iv_upn hz, iv_upn hz, iv_upn hz, iv_upn hz, iv_upn hz]
  · rw [iv_upn hz, iv_upn hz, iv_upn hz, iv_upn hz, iv_upn hz, iv_upn hz, iv_upn hz, iv_upn hz, iv_upn hz, iv_upn hz, iv_upn hz]
  · rw [e5 0 (by omega)]; rfl
  · rw [e5 2 (by omega)]; rfl
  · rw [e5 3 (by omega)]; rfl

