/-! boats; who is alike; the game of shells -/
theorem iv_rng1 {v : Int32} {m : Nat} (hm : m < 2 ^ 31) (h : 1 ≤ v ∧ v ≤ nI m) : ∃ k : Nat, 1 ≤ k ∧ k ≤ m ∧ v = nI k := by
  have h0 : 0 ≤ v := by
    have h1 := h.1
    rw [iv_le] at h1 ⊢
    have e1 : (1 : Int32).toInt = 1 := by decide
    have e0 : (0 : Int32).toInt = 0 := by decide
    omega
  obtain ⟨k, hk, rfl⟩ := iv_rng5 hm ⟨h0, h.2⟩
  refine ⟨k, ?_, hk, rfl⟩
  have h1 := h.1
  rw [show (1 : Int32) = nI 1 from rfl, nI_leI (by omega) (by omega)] at h1
  exact h1
/-- what is asked of the passengers in thought -/
def iv_V (σ τ : ix_St) (n o : Nat) : Prop := n ≤ 12 ∧ σ 2 6 = nI n ∧ σ 2 7 = nI o ∧ τ 135 7 = nI n ∧ o < 2 ^ n ∧ (∀ i, i < 12 → τ 136 (18 + i) = iv_B (o.testBit i = true)) ∧ ∀ i, i < n → σ 3 i = τ 136 (6 + i) ∧ σ 3 i ∈ ix_rnk
theorem iv_V_cong {σ σ' τ τ' : ix_St} {n o : Nat} (h2 : σ' 2 = σ 2) (h3 : σ' 3 = σ 3) (h7 : τ' 135 7 = τ 135 7) (h36 : τ' 136 = τ 136) (h : iv_V σ τ n o) : iv_V σ' τ' n o := by
  unfold iv_V at h ⊢
  rw [h2, h3, h7, h36]
  exact h
theorem iv_V_of {σ τ : ix_St} {M n o : Nat} (hn : n ≤ 12) (h : iv_wor σ (iv_mv τ) M n o) : iv_V σ τ n o :=
  ⟨hn, h.1.1.2.2.2.2.2.2.1, h.1.1.2.2.2.2.2.2.2, h.2.1.1.1, h.1.2.2.1.1, h.1.2.2.1.2, fun i hi => ⟨(h.1.2.2.2.1 i (by omega)).1, h.1.2.2.2.2 i hi⟩⟩
theorem f_flX (b : Bool) {σ τ : ix_St} {n o j : Nat} (hV : iv_V σ τ n o) (hj : j < n) : ix_F 103 [.ref 130, .int (nI j)] (ix_S0 b, σ) = some (.int (nI (iv_d (σ 3 j) 0)), (ix_S0 b, σ)) := by
  obtain ⟨hn, -, -, -, -, -, hr⟩ := hV
  rw [q_Poll_firstLandOf_0, if_neg (nI_in (by omega) (by omega)), nI_clamp (by omega), q_X_firstOf_0]
  simp only [Option.bind_some, iv_tI]
  rw [(iv_d_dg _ (hr j hj).2).2.1]
theorem f_flM (c : Bool) {σ τ : ix_St} {n o j : Nat} (hV : iv_V σ τ n o) (hj : j < n) : ix_F 243 [.ref 135, .int (nI j)] (ix_S0 c, τ) = some (.int (nI (iv_d (σ 3 j) 0)), (ix_S0 c, τ)) := by
  obtain ⟨hn, -, -, -, -, -, hr⟩ := hV
  rw [f_firstOf c τ (by omega), ← (hr j hj).1, (iv_d_la _ (hr j hj).2 0 (by omega)).1]
theorem iv_V_d {σ τ : ix_St} {n o j : Nat} (hV : iv_V σ τ n o) (hj : j < n) : 1 ≤ iv_d (σ 3 j) 0 ∧ iv_d (σ 3 j) 0 ≤ 5 := (iv_d_la _ (hV.2.2.2.2.2.2 j hj).2 0 (by omega)).2
theorem f_ovX (b : Bool) {σ τ : ix_St} {n o j : Nat} (hV : iv_V σ τ n o) (hj : j < n) : ix_F 121 [.ref 2, .int (nI j)] (ix_S0 b, σ) = some (.int (iv_B (o.testBit j = true)), (ix_S0 b, σ)) :=
  f_isOverX b (iv_o12 hV.1 hV.2.2.2.2.1) (by have := hV.1; omega) hV.2.2.1
/-- how many of those here have a land first -/
def iv_ct (ra : Nat → Int32) (o l : Nat) : Nat → Nat
  | 0 => 0
  | j + 1 => if ¬ o.testBit j = true ∧ iv_d (ra j) 0 = l then iv_ct ra o l j + 1 else iv_ct ra o l j
theorem f_boX (b : Bool) {τ : ix_St} {n o : Nat} (v1 : Int32) : ∀ d j σ, j + d = n → iv_V σ τ n o → (∀ l, l < 6 → σ 132 l = nI (iv_ct (σ 3) o l j)) → ∃ σ', ix_S 97 3 10 [some (.ref 130), some (.int v1), some (.int (nI j)), none] [] (ix_S0 b, σ) = ix_S 97 3 62 [some (.ref 130), some (.int v1), some (.int 0), some (.int 1)] [] (ix_S0 b, σ') ∧ (∀ z, z ≠ 132 → σ' z = σ z) ∧ ∀ l, l < 6 → σ' 132 l = nI (iv_ct (σ 3) o l n) := by
  intro d
  induction d with
  | zero =>
    intro j σ hj hV h
    have : j = n := by omega
    subst this
    have hn := hV.1
    refine ⟨σ, ?_, fun _ _ => rfl, h⟩
    rw [q_Poll_boatsNeeded_10, hV.2.1, if_pos (nI_le (Nat.le_refl _) (by omega))]
  | succ d ih =>
    intro j σ hj hV h
    have hn := hV.1
    have k0 : ¬ nI n ≤ nI j := nI_ge (by omega) (by omega)
    have hd := iv_V_d hV (show j < n by omega)
    rw [q_Poll_boatsNeeded_10, hV.2.1, if_neg k0, f_ovX b hV (by omega)]
    simp only [Option.bind_some, iv_tI]
    by_cases hb : o.testBit j = true
    · rw [iv_Bt hb, if_neg (by decide), nI_1]
      exact ih (j + 1) σ (by omega) hV (fun l hl => by rw [h l hl]; exact congrArg nI (if_neg (fun e => e.1 hb)).symm)
    · rw [iv_Bf hb, if_pos rfl, f_flX b hV (by omega)]
      simp only [Option.bind_some, iv_tI]
      rw [if_neg (nI_in (by omega) (by omega)), if_neg (nI_in (by omega) (by omega)), nI_clamp (by omega), nI_1]
      obtain ⟨σ', p1, p2, p3⟩ := ih (j + 1) (ix_up σ 132 (iv_d (σ 3 j) 0) (σ 132 (iv_d (σ 3 j) 0) + 1)) (by omega) (iv_V_cong (iv_upn (by decide)) (iv_upn (by decide)) rfl rfl hV) (fun l hl => by
        show upd (σ 132) (iv_d (σ 3 j) 0) (σ 132 (iv_d (σ 3 j) 0) + 1) l = nI (if ¬ o.testBit j = true ∧ iv_d (σ 3 j) 0 = l then iv_ct (σ 3) o l j + 1 else iv_ct (σ 3) o l j)
        by_cases e : iv_d (σ 3 j) 0 = l
        · rw [if_pos ⟨hb, e⟩, e, pk_us, h l hl, nI_1]
        · rw [if_neg (fun q => e q.2), pk_un (fun q => e q.symm), h l hl])
      exact ⟨σ', p1, fun z hz => (p2 z hz).trans (iv_upn hz), p3⟩
def iv_bo (f : Nat → Int32) (v1 : Int32) : Nat → Int32 → Int32
  | 0, x => x
  | d + 1, x => iv_bo f v1 d (x + ((f (5 - d) + v1) - 1) / v1)
theorem iv_bo_cong {f g : Nat → Int32} (v1 : Int32) (h : ∀ l, l < 6 → f l = g l) : ∀ d x, iv_bo f v1 d x = iv_bo g v1 d x
  | 0, _ => rfl
  | d + 1, x => by
    show iv_bo f v1 d _ = iv_bo g v1 d _
    rw [h (5 - d) (by omega)]
    exact iv_bo_cong v1 h d _
theorem f_boX2 (b : Bool) (σ : ix_St) {k : Nat} (h1 : 1 ≤ k) (h12 : k ≤ 12) : ∀ d, d ≤ 5 → ∀ x, ix_S 97 3 62 [some (.ref 130), some (.int (nI k)), some (.int x), some (.int (nI (6 - d)))] [] (ix_S0 b, σ) = some (.int (iv_bo (σ 132) (nI k) d x), (ix_S0 b, σ)) := by
  intro d
  induction d with
  | zero => intro _ x; rw [q_Poll_boatsNeeded_62, if_pos (show (6 : Int32) ≤ nI 6 by decide)]; rfl
  | succ d ih =>
    intro hd x
    have e : 6 - (d + 1) = 5 - d := by omega
    have e2 : 5 - d + 1 = 6 - d := by omega
    rw [e, q_Poll_boatsNeeded_62, if_neg (show ¬ (6 : Int32) ≤ nI (5 - d) from nI_ge (b := 6) (by omega) (by omega)), if_neg (nI_nle (by omega) (by omega)), if_neg (nI_in (by omega) (by omega)), if_neg (nI_ne0 (by omega) (by omega)), nI_clamp (by omega), nI_1, e2]
    exact ih (by omega) _
theorem f_boM1 (c : Bool) {σ τ : ix_St} {n o : Nat} (hV : iv_V σ τ n o) {l : Nat} (hl : l < 6) (x v1 : Int32) : ∀ d j, j + d = n → ix_S 217 3 16 [some (.ref 135), some (.int v1), some (.int x), some (.int (nI l)), some (.int (nI (iv_ct (σ 3) o l j))), some (.int (nI j))] [] (ix_S0 c, τ) = if v1 = 0 then none else ix_S 217 3 4 [some (.ref 135), some (.int v1), some (.int (x + ((nI (iv_ct (σ 3) o l n) + v1) - 1) / v1)), some (.int (nI (l + 1))), none, none] [] (ix_S0 c, τ) := by
  have hn := hV.1
  have h7 := hV.2.2.2.1
  have hov := hV.2.2.2.2.2.1
  intro d
  induction d with
  | zero =>
    intro j hj
    have : j = n := by omega
    subst this
    rw [q_M_boatsBy_16, h7, if_pos (nI_le (Nat.le_refl _) (by omega)), nI_1]
  | succ d ih =>
    intro j hj
    have k0 : ¬ nI n ≤ nI j := nI_ge (by omega) (by omega)
    have hd := iv_V_d hV (show j < n by omega)
    have hx := ih (j + 1) (by omega)
    rw [q_M_boatsBy_16, h7, if_neg k0, show (18 : Int32) + nI j = nI (18 + j) from nI_add 18 j, if_neg (nI_in (by omega) (by omega)), nI_clamp (by omega), hov j (by omega), f_flM c hV (by omega), nI_1, nI_1]
    simp only [Option.bind_some, iv_tI]
    by_cases hb : o.testBit j = true
    · rw [iv_Bt hb, if_neg (by decide)]
      rw [show iv_ct (σ 3) o l (j + 1) = iv_ct (σ 3) o l j from if_neg (fun e => e.1 hb)] at hx
      exact hx
    · rw [iv_Bf hb, if_pos rfl]
      by_cases e : iv_d (σ 3 j) 0 = l
      · rw [if_pos (by rw [e])]
        rw [show iv_ct (σ 3) o l (j + 1) = iv_ct (σ 3) o l j + 1 from if_pos ⟨hb, e⟩] at hx
        exact hx
      · rw [if_neg (fun q => e ((nI_eq (by omega) (by omega)).mp q))]
        rw [show iv_ct (σ 3) o l (j + 1) = iv_ct (σ 3) o l j from if_neg (fun q => e q.2)] at hx
        exact hx
theorem f_boM (c : Bool) {σ τ : ix_St} {n o : Nat} (hV : iv_V σ τ n o) {k : Nat} (h1 : 1 ≤ k) (h12 : k ≤ 12) : ∀ d, d ≤ 5 → ∀ x, ix_S 217 3 4 [some (.ref 135), some (.int (nI k)), some (.int x), some (.int (nI (6 - d))), none, none] [] (ix_S0 c, τ) = some (.int (iv_bo (fun l => nI (iv_ct (σ 3) o l n)) (nI k) d x), (ix_S0 c, τ)) := by
  intro d
  induction d with
  | zero => intro _ x; rw [q_M_boatsBy_4, if_pos (show (6 : Int32) ≤ nI 6 by decide)]; rfl
  | succ d ih =>
    intro hd x
    have e : 6 - (d + 1) = 5 - d := by omega
    have e2 : 5 - d + 1 = 6 - d := by omega
    have hx := f_boM1 c hV (l := 5 - d) (by omega) x (nI k) n 0 (by omega)
    rw [e, q_M_boatsBy_4, if_neg (show ¬ (6 : Int32) ≤ nI (5 - d) from nI_ge (b := 6) (by omega) (by omega))]
    rw [if_neg (nI_ne0 (by omega) (by omega)), e2, ih (by omega)] at hx
    exact hx
def iv_cX (v x : Int32) : Int32 := if v < x then (if 2 ≤ v then 2 * ((x - 2) / (v - 1)) + 1 else -1) else if x = 0 then 0 else 1
def iv_cM (v x : Int32) : Int32 := if x = 0 then 0 else if x = 1 then 1 else if v = 1 then -1 else 2 * ((((x - 1) + v) - 2) / (v - 1)) - 1
theorem iv_c_ok : ∀ k, k < 13 → 1 ≤ k → ∀ x, x < 13 → iv_cX (nI k) (nI x) = iv_cM (nI k) (nI x) := by decide +kernel
theorem f_crX (b : Bool) {σ τ : ix_St} {n o : Nat} (hV : iv_V σ τ n o) (v : Int32) : ix_F 98 [.ref 130, .int v] (ix_S0 b, σ) = some (.int (iv_cX v (nI (iv_pc 12 (iv_he n o)))), (ix_S0 b, σ)) := by
  obtain ⟨hn, h6, h7, -, ho, -⟩ := hV
  rw [q_Poll_crossingsNeeded_0, f_hereX b hn h6 ho h7]
  simp only [Option.bind_some, iv_tI]
  rw [f_bitCount b σ (iv_he_31 hn ho)]
  simp only [Option.bind_some, iv_tI]
  unfold iv_cX
  by_cases a : v < nI (iv_pc 12 (iv_he n o))
  · rw [if_pos a, if_pos a]
    by_cases a2 : 2 ≤ v
    · have a3 : ¬ v - 1 = 0 := by
        intro e
        have : v = 1 := by rw [← Int32.sub_add_cancel v 1, e]; rfl
        rw [this] at a2
        exact absurd a2 (by decide)
      rw [if_pos a2, if_pos a2, if_neg a3]
    · rw [if_neg a2, if_neg a2]
  · rw [if_neg a, if_neg a]
    by_cases a2 : nI (iv_pc 12 (iv_he n o)) = 0
    · rw [if_pos a2, if_pos a2]
    · rw [if_neg a2, if_neg a2]
theorem f_crM (c : Bool) {σ τ : ix_St} {n o : Nat} (hV : iv_V σ τ n o) (v : Int32) : ix_F 218 [.ref 135, .int v] (ix_S0 c, τ) = some (.int (iv_cM v (nI (iv_pc 12 (iv_he n o)))), (ix_S0 c, τ)) := by
  obtain ⟨hn, -, -, h7, ho, hov, -⟩ := hV
  rw [q_M_crossingsBy_0, f_hereM c hn h7 ho hov]
  simp only [Option.bind_some, iv_tI]
  rw [f_onesOf c τ (iv_he_31 hn ho)]
  simp only [Option.bind_some, iv_tI]
  unfold iv_cM
  by_cases a : nI (iv_pc 12 (iv_he n o)) = 0
  · rw [if_pos a, if_pos a]
  · rw [if_neg a, if_neg a]
    by_cases a2 : nI (iv_pc 12 (iv_he n o)) = 1
    · rw [if_pos a2, if_pos a2]
    · rw [if_neg a2, if_neg a2]
      by_cases a3 : v = 1
      · rw [if_pos a3, if_pos a3]
      · have a4 : ¬ v - 1 = 0 := by
          intro e
          exact a3 (by rw [← Int32.sub_add_cancel v 1, e]; rfl)
        rw [if_neg a3, if_neg a3, if_neg a4]
theorem iv_kX_132 {σ σ' : ix_St} (h : ∀ z, z ≠ 132 → σ' z = σ z) : iv_kX σ σ' := fun c _ hs => h c (fun e => hs (by unfold iv_scX; omega))
theorem s_boats (E : ix_St) (v w : Int32) : iv_S E 21 176 [.int v, .int w] := by
  intro k b c σ τ hk hE hR
  have hK := iv_R_keep iv_kX.rf (iv_kM_told τ 0) hR
  have hR0 := iv_R_told (v := 0) hR
  obtain ⟨n, o, hn, hw, -⟩ := iv_R_told (v := 0) hR
  have hV := iv_V_of hn hw
  rw [q_X_boats_0, q_M_boats_0, f_isIn]
  simp only [Option.bind_some, iv_tI]
  by_cases h1 : 1 ≤ v ∧ v ≤ 12
  · rw [if_neg (iv_nlt.mpr h1.1), if_pos h1.2, if_neg (fun h => iv_B0.mp h h1), f_isIn]
    simp only [Option.bind_some, iv_tI]
    obtain ⟨q, q1, q2, rfl⟩ := iv_rng1 (m := 12) (by omega) h1
    by_cases h2 : w = 0
    · subst h2
      rw [if_pos rfl, if_neg (fun h => iv_B0.mp h (by decide)), if_pos rfl, q_Poll_boatsNeeded_0, q_M_boatsBy_0]
      obtain ⟨σ1, e1, e2, e3⟩ := f_fill132 b σ 0
      rw [e1]
      simp only [Option.bind_some]
      obtain ⟨σ2, g1, g2, g3⟩ := f_boX b (nI q) n 0 σ1 (by omega) (iv_V_cong (e2 2 (by decide)) (e2 3 (by decide)) rfl rfl hV) (fun l hl => by rw [e3, if_pos hl]; rfl)
      have g1' : ix_S 97 3 10 [some (.ref 130), some (.int (nI q)), some (.int 0), none] [] (ix_S0 b, σ1) = _ := g1
      have x1 := f_boX2 b σ2 q1 q2 5 (by omega) 0
      have x1' : ix_S 97 3 62 [some (.ref 130), some (.int (nI q)), some (.int 0), some (.int 1)] [] (ix_S0 b, σ2) = _ := x1
      have x2 := f_boM c hV q1 q2 5 (by omega) 0
      have x2' : ix_S 217 3 4 [some (.ref 135), some (.int (nI q)), some (.int 0), some (.int 1), none, none] [] (ix_S0 c, ix_up τ 135 0 0) = _ := x2
      rw [g1', x1', x2', iv_bo_cong (nI q) (fun l hl => by rw [g3 l hl, e2 3 (by decide)])]
      exact ⟨_, b, _, _, rfl, rfl, iv_R_keep (iv_kX_132 (fun z hz => (g2 z hz).trans (e2 z hz))) iv_kM.rf hR0⟩
    · rw [if_neg h2]
      by_cases h3 : w = 1
      · subst h3
        rw [if_pos rfl, if_neg (fun h => iv_B0.mp h (by decide)), if_neg (by decide), f_crX b hV, f_crM c hV, iv_c_ok q (by omega) q1 (iv_pc 12 (iv_he n o)) (by have := iv_pc_le (iv_he n o) 12; omega)]
        exact ⟨_, b, _, _, rfl, rfl, hK⟩
      · rw [if_neg h3, if_pos (iv_B0.mpr (fun h => by rcases iv_01 h with h | h; exact h2 h; exact h3 h))]
        exact ⟨_, b, _, _, rfl, rfl, hK⟩
  · rw [if_pos (iv_B0.mpr h1)]
    by_cases h2 : v < 1
    · rw [if_pos h2]
      exact ⟨_, b, _, _, rfl, rfl, hK⟩
    · rw [if_neg h2, if_neg (fun h => h1 ⟨iv_nlt.mp h2, h⟩)]
      exact ⟨_, b, _, _, rfl, rfl, hK⟩
