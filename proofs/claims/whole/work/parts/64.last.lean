/-! the last land left -/
def iv_fa (r : Int32) (s : Nat) : Nat := if s.testBit (iv_d r 0) then iv_d r 0 else if s.testBit (iv_d r 1) then iv_d r 1 else if s.testBit (iv_d r 2) then iv_d r 2 else if s.testBit (iv_d r 3) then iv_d r 3 else iv_d r 4
theorem iv_fa_ok : ∀ r ∈ ix_rnk, ∀ s, s < 64 → s % 2 = 1 ∨ s = 0 ∨ (s.testBit (iv_fa r s) = true ∧ 1 ≤ iv_fa r s ∧ iv_fa r s ≤ 5) := by decide +kernel
theorem f_fa_stX (b : Bool) {r : Int32} (s : Nat) (hs : s < 64) (v2 v3 : Int32) (x : Nat) (hx : x ≤ 5) (e : iv_dg r v2 = nI x) (h1 : ¬ v2 < 1) (h0 : ¬ v2 = 0) (h : v2 / 10 = v3) (σ : ix_St) : ix_S 115 1 4 [some (.int r), some (.int (nI s)), some (.int v2), none] [] (ix_S0 b, σ) = if s.testBit x then some (.int (nI x), (ix_S0 b, σ)) else ix_S 115 1 4 [some (.int r), some (.int (nI s)), some (.int v3), none] [] (ix_S0 b, σ) := by
  have e' : r / v2 - r / v2 / 10 * 10 = nI x := e
  rw [q_Poll_firstAmong_4, if_neg h1, if_neg h0, e', h]
  by_cases hb : s.testBit x = true
  · rw [if_pos ((iv_bit1 (by omega) (by omega)).mpr hb), if_pos hb]
  · rw [if_neg (fun q => hb ((iv_bit1 (by omega) (by omega)).mp q)), if_neg hb]
theorem f_faX (b : Bool) {r : Int32} (hr : r ∈ ix_rnk) {s : Nat} (hs : s < 64) (he : ¬ s % 2 = 1) (h0 : s ≠ 0) (σ : ix_St) : ix_F 115 [.int r, .int (nI s)] (ix_S0 b, σ) = some (.int (nI (iv_fa r s)), (ix_S0 b, σ)) := by
  obtain ⟨g0, -, g1, g2, g3, g4⟩ := iv_d_dg r hr
  have l0 := (iv_d_la r hr 0 (by omega)).2.2
  have l1 := (iv_d_la r hr 1 (by omega)).2.2
  have l2 := (iv_d_la r hr 2 (by omega)).2.2
  have l3 := (iv_d_la r hr 3 (by omega)).2.2
  have l4 := (iv_d_la r hr 4 (by omega)).2.2
  have hok := (((iv_fa_ok r hr s hs).resolve_left he).resolve_left h0).1
  rw [q_Poll_firstAmong_0, f_fa_stX b s hs 10000 1000 _ l0 g0 (by decide) (by decide) (by decide), f_fa_stX b s hs 1000 100 _ l1 g1 (by decide) (by decide) (by decide), f_fa_stX b s hs 100 10 _ l2 g2 (by decide) (by decide) (by decide), f_fa_stX b s hs 10 1 _ l3 g3 (by decide) (by decide) (by decide), f_fa_stX b s hs 1 0 _ l4 g4 (by decide) (by decide) (by decide)]
  unfold iv_fa at hok ⊢
  by_cases b0 : s.testBit (iv_d r 0) = true
  · rw [if_pos b0, if_pos b0]
  · rw [if_neg b0, if_neg b0]
    rw [if_neg b0] at hok
    by_cases b1 : s.testBit (iv_d r 1) = true
    · rw [if_pos b1, if_pos b1]
    · rw [if_neg b1, if_neg b1]
      rw [if_neg b1] at hok
      by_cases b2 : s.testBit (iv_d r 2) = true
      · rw [if_pos b2, if_pos b2]
      · rw [if_neg b2, if_neg b2]
        rw [if_neg b2] at hok
        by_cases b3 : s.testBit (iv_d r 3) = true
        · rw [if_pos b3, if_pos b3]
        · rw [if_neg b3, if_neg b3]
          rw [if_neg b3] at hok
          rw [if_pos hok]
theorem f_fa_stM (c : Bool) {r : Int32} (hr : r ∈ ix_rnk) (s : Nat) (hs : s < 64) {k : Nat} (hk : k < 5) (τ : ix_St) : ix_S 271 2 2 [some (.ref 135), some (.int r), some (.int (nI s)), some (.int (nI k))] [] (ix_S0 c, τ) = if s.testBit (iv_d r k) then some (.int (nI (iv_d r k)), (ix_S0 c, τ)) else ix_S 271 2 2 [some (.ref 135), some (.int r), some (.int (nI s)), some (.int (nI (k + 1)))] [] (ix_S0 c, τ) := by
  have hd := iv_d_la r hr k hk
  rw [q_M_firstAmong_2, f_landAt c r hk, hd.1]
  simp only [Option.bind_some, iv_tI]
  rw [f_hasM c τ (by omega) (by omega)]
  simp only [Option.bind_some, iv_tI]
  rw [f_landAt c r hk, hd.1, nI_1]
  by_cases hb : s.testBit (iv_d r k) = true
  · rw [iv_Bt hb, if_neg (by decide), if_pos hb]; rfl
  · rw [iv_Bf hb, if_pos rfl, if_neg hb]
theorem f_faM (c : Bool) {r : Int32} (hr : r ∈ ix_rnk) {s : Nat} (hs : s < 64) (he : ¬ s % 2 = 1) (h0 : s ≠ 0) (τ : ix_St) : ix_F 271 [.ref 135, .int r, .int (nI s)] (ix_S0 c, τ) = some (.int (nI (iv_fa r s)), (ix_S0 c, τ)) := by
  have hok := (((iv_fa_ok r hr s hs).resolve_left he).resolve_left h0).1
  rw [q_M_firstAmong_0, show (0 : Int32) = nI 0 from rfl, f_fa_stM c hr s hs (by omega), f_fa_stM c hr s hs (by omega), f_fa_stM c hr s hs (by omega), f_fa_stM c hr s hs (by omega), f_fa_stM c hr s hs (by omega)]
  unfold iv_fa at hok ⊢
  by_cases b0 : s.testBit (iv_d r 0) = true
  · rw [if_pos b0, if_pos b0]
  · rw [if_neg b0, if_neg b0]
    rw [if_neg b0] at hok
    by_cases b1 : s.testBit (iv_d r 1) = true
    · rw [if_pos b1, if_pos b1]
    · rw [if_neg b1, if_neg b1]
      rw [if_neg b1] at hok
      by_cases b2 : s.testBit (iv_d r 2) = true
      · rw [if_pos b2, if_pos b2]
      · rw [if_neg b2, if_neg b2]
        rw [if_neg b2] at hok
        by_cases b3 : s.testBit (iv_d r 3) = true
        · rw [if_pos b3, if_pos b3]
        · rw [if_neg b3, if_neg b3]
          rw [if_neg b3] at hok
          rw [if_pos hok]
theorem f_clearM (c : Bool) (v1 : Int32) : ∀ d j τ, j + d = 6 → ∃ τ', ix_S 246 3 2 [some (.ref 135), some (.int v1), some (.int (nI j)), none] [] (ix_S0 c, τ) = ix_S 246 3 23 [some (.ref 135), some (.int v1), some (.int 0), none] [] (ix_S0 c, τ') ∧ (∀ z, z ≠ 158 → τ' z = τ z) ∧ ∀ l, (l < j → τ' 158 l = τ 158 l) ∧ (j ≤ l → l < 6 → τ' 158 l = 0) := by
  intro d
  induction d with
  | zero =>
    intro j τ hj
    have : j = 6 := by omega
    subst this
    refine ⟨τ, ?_, fun _ _ => rfl, fun l => ⟨fun _ => rfl, fun h1 h2 => by omega⟩⟩
    rw [q_M_goesAmong_2, if_pos (show (6 : Int32) ≤ nI 6 by decide)]
  | succ d ih =>
    intro j τ hj
    obtain ⟨τ', p1, p2, p3⟩ := ih (j + 1) (ix_up τ 158 j 0) (by omega)
    refine ⟨τ', ?_, fun z hz => (p2 z hz).trans (iv_upn hz), fun l => ⟨fun h => ?_, fun h1 h2 => ?_⟩⟩
    · rw [q_M_goesAmong_2, if_neg (show ¬ (6 : Int32) ≤ nI j from nI_ge (b := 6) (by omega) (by omega)), if_neg (nI_in (by omega) (by omega)), nI_clamp (by omega), nI_1]
      exact p1
    · rw [(p3 l).1 (by omega)]
      show upd (τ 158) j 0 l = _
      rw [pk_un (by omega)]
    · by_cases e : l = j
      · subst e
        rw [(p3 l).1 (by omega)]
        show upd (τ 158) l 0 l = _
        rw [pk_us]
      · exact (p3 l).2 (by omega) h2
/-- both lay what is among the lands left -/
theorem f_amg (b c : Bool) {n o s : Nat} {sh : Nat → Nat} (hs : s < 64) (he : ¬ s % 2 = 1) (h0 : s ≠ 0) : ∀ d j σ τ, j + d = n → iv_V σ τ n o → iv_L σ τ n o sh → (∀ l, l < 6 → σ 132 l = τ 158 l) → ∃ σ' τ', ix_S 108 2 10 [some (.ref 130), some (.int (nI s)), some (.int (nI j)), none] [] (ix_S0 b, σ) = ix_S 108 2 64 [some (.ref 130), some (.int (nI s)), some (.int 0), some (.int 1)] [] (ix_S0 b, σ') ∧ ix_S 246 3 23 [some (.ref 135), some (.int (nI s)), some (.int (nI j)), none] [] (ix_S0 c, τ) = ix_S 246 3 91 [some (.ref 135), some (.int (nI s)), some (.int (-1)), some (.int 1)] [] (ix_S0 c, τ') ∧ (∀ z, z ≠ 132 → σ' z = σ z) ∧ (∀ z, z ≠ 158 → τ' z = τ z) ∧ ∀ l, l < 6 → σ' 132 l = τ' 158 l := by
  intro d
  induction d with
  | zero =>
    intro j σ τ hj hV hL hl
    have : j = n := by omega
    subst this
    have hn := hV.1
    refine ⟨σ, τ, ?_, ?_, fun _ _ => rfl, fun _ _ => rfl, hl⟩
    · rw [q_Poll_weakestOf_10, hV.2.1, if_pos (nI_le (Nat.le_refl _) (by omega))]
    · rw [q_M_goesAmong_23, hV.2.2.2.1, if_pos (nI_le (Nat.le_refl _) (by omega))]
  | succ d ih =>
    intro j σ τ hj hV hL hl
    obtain ⟨hn, h6, h7, m7, ho, hov, hr⟩ := id hV
    have k0 : ¬ nI n ≤ nI j := nI_ge (by omega) (by omega)
    have k1 : ¬ (nI j < 0 ∨ 12 ≤ j) := iv_ni (by omega) (by omega)
    have k3 : (nI j).toNatClampNeg = j := nI_clamp (by omega)
    have a18 : (18 : Int32) + nI j = nI (18 + j) := nI_add 18 j
    have b18 : ¬ (nI (18 + j) < 0 ∨ 54 ≤ 18 + j) := iv_ni (by omega) (by omega)
    have c18 : (nI (18 + j)).toNatClampNeg = 18 + j := nI_clamp (by omega)
    have a6 : (6 : Int32) + nI j = nI (6 + j) := nI_add 6 j
    have b6 : ¬ (nI (6 + j) < 0 ∨ 54 ≤ 6 + j) := iv_ni (by omega) (by omega)
    have c6 : (nI (6 + j)).toNatClampNeg = 6 + j := nI_clamp (by omega)
    have hrj := hr j (by omega)
    have hlj := hL.2 j (by omega)
    obtain ⟨-, x1, x5⟩ := (((iv_fa_ok _ hrj.2 s hs).resolve_left he).resolve_left h0)
    have fX := f_faX b hrj.2 hs he h0 σ
    have fM : ix_F 271 [.ref 135, .int (τ 136 (6 + j)), .int (nI s)] (ix_S0 c, τ) = some (.int (nI (iv_fa (σ 3 j) s)), (ix_S0 c, τ)) := by
      rw [← hrj.1]; exact f_faM c hrj.2 hs he h0 τ
    generalize iv_fa (σ 3 j) s = L at x1 x5 fX fM
    have y1 : ¬ (nI L < 0 ∨ 6 ≤ L) := iv_ni (by omega) (by omega)
    have y3 : (nI L).toNatClampNeg = L := nI_clamp (by omega)
    have cls : ix_S 108 2 10 [some (.ref 130), some (.int (nI s)), some (.int (nI j)), none] [] (ix_S0 b, σ) = ix_S 108 2 10 [some (.ref 130), some (.int (nI s)), some (.int (nI (j + 1))), none] [] (ix_S0 b, ix_up σ 132 L (σ 132 L + σ 131 j)) := by
      rw [q_Poll_weakestOf_10]
      simp only [h6, k0, k1, k3, fX, y1, y3, nI_1, if_false, Option.bind_some, iv_tI]
    rw [cls]
    by_cases hb : o.testBit j = true
    · have z1 : iv_B (o.testBit j = true) = 1 := iv_Bt hb
      obtain ⟨σ', τ', p1, p2, p3, p4, p5⟩ := ih (j + 1) (ix_up σ 132 L (σ 132 L + σ 131 j)) τ (by omega) (iv_V_cong (iv_upn (by decide)) (iv_upn (by decide)) rfl rfl hV) (iv_L_cong (iv_upn (by decide)) rfl hL) (fun l h => by
        rw [← hl l h]
        show upd (σ 132) L (σ 132 L + σ 131 j) l = _
        rw [hlj.1, if_pos hb, show nI 0 = (0 : Int32) from rfl, Int32.add_zero]
        by_cases e : l = L
        · rw [e, pk_us]
        · rw [pk_un e])
      refine ⟨σ', τ', p1, ?_, fun z hz => (p3 z hz).trans (iv_upn hz), p4, p5⟩
      rw [q_M_goesAmong_23]
      simp only [m7, k0, a18, b18, c18, hov j (show j < 12 by omega), z1, nI_1, if_true, if_false]
      exact p2
    · have z1 : ¬ iv_B (o.testBit j = true) = 1 := fun h => hb (iv_B1.mp h)
      obtain ⟨σ', τ', p1, p2, p3, p4, p5⟩ := ih (j + 1) (ix_up σ 132 L (σ 132 L + σ 131 j)) (ix_up τ 158 L (τ 158 L + τ 159 j)) (by omega) (iv_V_cong (iv_upn (by decide)) (iv_upn (by decide)) (by rw [iv_upn (by decide)]) (iv_upn (by decide)) hV) (iv_L_cong (iv_upn (by decide)) (iv_upn (by decide)) hL) (fun l h => by
        show upd (σ 132) L (σ 132 L + σ 131 j) l = upd (τ 158) L (τ 158 L + τ 159 j) l
        by_cases e : l = L
        · rw [e, pk_us, pk_us, hl L (by omega), hlj.1, hlj.2, if_neg hb]
        · rw [pk_un e, pk_un e, hl l h])
      refine ⟨σ', τ', p1, ?_, fun z hz => (p3 z hz).trans (iv_upn hz), fun z hz => (p4 z hz).trans (iv_upn hz), p5⟩
      rw [q_M_goesAmong_23]
      simp only [m7, k0, k1, k3, a18, b18, c18, a6, b6, c6, hov j (show j < 12 by omega), z1, fM, y1, y3, nI_1, if_true, if_false, Option.bind_some, iv_tI]
      exact p2
def iv_o0 (r : Option Nat) : Int32 := match r with
  | some y => nI y
  | none => 0
theorem f_worst (b c : Bool) {σ τ : ix_St} {s : Nat} (hs : s < 64) (he : ¬ s % 2 = 1) (h0 : s ≠ 0) (hl : ∀ l, l < 6 → σ 132 l = τ 158 l) : ∀ d y (r : Option Nat), y + d = 6 → 1 ≤ y → (∀ w, r = some w → s.testBit w = true ∧ 1 ≤ w ∧ w ≤ 5) → (r = none → ∀ i, 1 ≤ i → i < y → s.testBit i = false) → ∃ w, s.testBit w = true ∧ 1 ≤ w ∧ w ≤ 5 ∧ ix_S 108 2 64 [some (.ref 130), some (.int (nI s)), some (.int (iv_o0 r)), some (.int (nI y))] [] (ix_S0 b, σ) = some (.int (nI w), (ix_S0 b, σ)) ∧ ix_S 246 3 91 [some (.ref 135), some (.int (nI s)), some (.int (iv_oi r)), some (.int (nI y))] [] (ix_S0 c, τ) = some (.int (nI w), (ix_S0 c, τ)) := by
  intro d
  induction d with
  | zero =>
    intro y r hy h1 hr hno
    have : y = 6 := by omega
    subst this
    cases r with
    | none =>
      exfalso
      have hno := hno rfl
      refine h0 (Nat.eq_of_testBit_eq (fun i => ?_))
      rw [Nat.zero_testBit]
      by_cases hi : i < 6
      · by_cases hi0 : i = 0
        · rw [hi0, Nat.testBit_zero]
          exact decide_eq_false he
        · exact hno i (by omega) hi
      · have : (2 : Nat) ^ 6 ≤ 2 ^ i := Nat.pow_le_pow_right (by omega) (by omega)
        exact Nat.testBit_lt_two_pow (by omega)
    | some w =>
      obtain ⟨g1, g2, g3⟩ := hr w rfl
      refine ⟨w, g1, g2, g3, ?_, ?_⟩
      · rw [q_Poll_weakestOf_64, if_pos (show (6 : Int32) ≤ nI 6 by decide)]; rfl
      · rw [q_M_goesAmong_91, if_pos (show (6 : Int32) ≤ nI 6 by decide)]; rfl
  | succ d ih =>
    intro y r hy h1 hr hno
    have k6 : ¬ (6 : Int32) ≤ nI y := nI_ge (b := 6) (by omega) (by omega)
    have y1 : ¬ (nI y < 0 ∨ 6 ≤ y) := iv_ni (by omega) (by omega)
    have y3 : (nI y).toNatClampNeg = y := nI_clamp (by omega)
    have hM := f_hasM c τ (s := s) (k := y) (by omega) (by omega)
    by_cases hb : s.testBit y = true
    · have hX : ((nI s >>> (nI y &&& 31)) &&& (1 : Int32)) = 1 := (iv_bit1 (by omega) (by omega)).mpr hb
      obtain ⟨w1, s1, s2, s3, s4, s5⟩ := ih (y + 1) (some y) (by omega) (by omega) (fun w h => by cases h; exact ⟨hb, h1, by omega⟩) (fun h => by cases h)
      cases r with
      | none =>
        have m0 : (0 : Int32) = 0 := rfl
        refine ⟨w1, s1, s2, s3, ?_, ?_⟩
        · rw [q_Poll_weakestOf_64]
          simp only [k6, hX, iv_o0, nI_1, if_true, if_false]
          exact s4
        · rw [q_M_goesAmong_91]
          simp only [k6, hM, iv_Bt hb, iv_10, iv_oi, nI_1, if_true, if_false, Option.bind_some, iv_tI]
          exact s5
      | some w =>
        obtain ⟨g1, g2, g3⟩ := hr w rfl
        have w0 : ¬ nI w = 0 := nI_ne0 (by omega) (by omega)
        have wm : ¬ nI w = -1 := iv_m1 (by omega)
        have w1' : ¬ (nI w < 0 ∨ 6 ≤ w) := iv_ni (by omega) (by omega)
        have w3 : (nI w).toNatClampNeg = w := nI_clamp (by omega)
        by_cases hc : τ 158 w < τ 158 y
        · obtain ⟨w2, t1, t2, t3, t4, t5⟩ := ih (y + 1) (some w) (by omega) (by omega) (fun q h => by cases h; exact ⟨g1, g2, g3⟩) (fun h => by cases h)
          refine ⟨w2, t1, t2, t3, ?_, ?_⟩
          · rw [q_Poll_weakestOf_64]
            simp only [k6, hX, iv_o0, w0, w1', w3, y1, y3, hl w (by omega), hl y (by omega), hc, nI_1, if_true, if_false]
            exact t4
          · rw [q_M_goesAmong_91]
            simp only [k6, hM, iv_Bt hb, iv_10, iv_oi, wm, w1', w3, y1, y3, hc, nI_1, if_true, if_false, Option.bind_some, iv_tI]
            exact t5
        · refine ⟨w1, s1, s2, s3, ?_, ?_⟩
          · rw [q_Poll_weakestOf_64]
            simp only [k6, hX, iv_o0, w0, w1', w3, y1, y3, hl w (by omega), hl y (by omega), hc, nI_1, if_true, if_false]
            exact s4
          · rw [q_M_goesAmong_91]
            simp only [k6, hM, iv_Bt hb, iv_10, iv_oi, wm, w1', w3, y1, y3, hc, nI_1, if_true, if_false, Option.bind_some, iv_tI]
            exact s5
    · have hX : ¬ ((nI s >>> (nI y &&& 31)) &&& (1 : Int32)) = 1 := fun h => hb ((iv_bit1 (by omega) (by omega)).mp h)
      obtain ⟨w2, t1, t2, t3, t4, t5⟩ := ih (y + 1) r (by omega) (by omega) hr (fun h i hi hiy => by
        by_cases e : i = y
        · rw [e]; exact Bool.eq_false_iff.mpr hb
        · exact hno h i hi (by omega))
      refine ⟨w2, t1, t2, t3, ?_, ?_⟩
      · rw [q_Poll_weakestOf_64]
        simp only [k6, hX, nI_1, if_true, if_false]
        exact t4
      · rw [q_M_goesAmong_91]
        simp only [k6, hM, iv_Bf hb, nI_1, if_true, if_false, Option.bind_some, iv_tI]
        exact t5
theorem f_weak (b c : Bool) {σ τ : ix_St} {n o s : Nat} {sh : Nat → Nat} (hs : s < 64) (he : ¬ s % 2 = 1) (h0 : s ≠ 0) (hV : iv_V σ τ n o) (hL : iv_L σ τ n o sh) : ∃ w σ' τ', s.testBit w = true ∧ 1 ≤ w ∧ w ≤ 5 ∧ ix_F 108 [.ref 130, .int (nI s)] (ix_S0 b, σ) = some (.int (nI w), (ix_S0 b, σ')) ∧ ix_F 246 [.ref 135, .int (nI s)] (ix_S0 c, τ) = some (.int (nI w), (ix_S0 c, τ')) ∧ (∀ z, z ≠ 132 → σ' z = σ z) ∧ ∀ z, z ≠ 158 → τ' z = τ z := by
  obtain ⟨σ1, e1, e2, e3⟩ := f_fill132 b σ 0
  obtain ⟨τ1, d1, d2, d3⟩ := f_clearM c (nI s) 6 0 τ (by omega)
  obtain ⟨σ2, τ2, p1, p2, p3, p4, p5⟩ := f_amg b c (sh := sh) hs he h0 n 0 σ1 τ1 (by omega) (iv_V_cong (e2 2 (by decide)) (e2 3 (by decide)) (by rw [d2 135 (by decide)]) (d2 136 (by decide)) hV) (iv_L_cong (e2 131 (by decide)) (d2 159 (by decide)) hL) (fun l hl => by rw [e3, if_pos hl, (d3 l).2 (by omega) hl])
  obtain ⟨w, q1, q2, q3, q4, q5⟩ := f_worst b c hs he h0 p5 5 1 none (by omega) (by omega) (fun w h => by cases h) (fun _ i h1 h2 => by omega)
  refine ⟨w, σ2, τ2, q1, q2, q3, ?_, ?_, fun z hz => (p3 z hz).trans (e2 z hz), fun z hz => (p4 z hz).trans (d2 z hz)⟩
  · rw [q_Poll_weakestOf_0, e1]
    exact p1.trans q4
  · rw [q_M_goesAmong_0]
    exact d1.trans (p2.trans q5)
theorem iv_lo_ok : ∀ s, s < 64 → ∀ w, w < 6 → s.testBit w = false ∨ (iv_wo s (2 ^ w) < 64 ∧ iv_wo s (2 ^ w) % 2 ≤ s % 2 ∧ iv_pc 12 (iv_wo s (2 ^ w)) + 1 = iv_pc 12 s) := by decide +kernel
theorem iv_one_ok : ∀ s, s < 64 → s % 2 = 1 ∨ iv_pc 12 s ≠ 1 ∨ (s.testBit (iv_tz s) = true ∧ 1 ≤ iv_tz s ∧ iv_tz s ≤ 5 ∧ ∀ i, i < iv_tz s → s.testBit i = false) := by decide +kernel
theorem iv_pc_0 : ∀ s, s < 64 → iv_pc 12 s = 0 → s = 0 := by decide +kernel
theorem f_lastM (c : Bool) {s t : Nat} (hs : s < 64) (h1 : s.testBit t = true) (ht : t ≤ 5) (h2 : ∀ i, i < t → s.testBit i = false) (τ : ix_St) : ∀ d l, l + d = t → ix_S 214 4 38 [some (.ref 135), some (.int (nI s)), some (.int (nI l))] [] (ix_S0 c, τ) = some (.int (nI t), (ix_S0 c, τ)) := by
  intro d
  induction d with
  | zero =>
    intro l hl
    have : l = t := by omega
    subst this
    rw [q_M_lastLand_38, f_hasM c τ (by omega) (by omega), iv_Bt h1]
    rfl
  | succ d ih =>
    intro l hl
    rw [q_M_lastLand_38, f_hasM c τ (by omega) (by omega), iv_Bf (by rw [h2 l (by omega)]; decide)]
    simp only [Option.bind_some, iv_tI, if_true]
    rw [nI_1]
    exact ih (l + 1) (by omega)
theorem f_lastL (b c : Bool) {n o : Nat} {sh : Nat → Nat} : ∀ d t s σ τ, t + d = 5 → 1 ≤ t → s < 64 → ¬ s % 2 = 1 → iv_pc 12 s = 6 - t → iv_V σ τ n o → iv_L σ τ n o sh → ∃ r σ' τ', ix_S 93 3 20 [some (.ref 130), some (.int (nI s)), some (.int (nI t))] [] (ix_S0 b, σ) = some (.int r, (ix_S0 b, σ')) ∧ ix_S 214 4 12 [some (.ref 135), some (.int (nI s)), none] [] (ix_S0 c, τ) = some (.int r, (ix_S0 c, τ')) ∧ (∀ z, z ≠ 132 → σ' z = σ z) ∧ ∀ z, z ≠ 158 → τ' z = τ z := by
  intro d
  induction d with
  | zero =>
    intro t s σ τ ht h1 hs he hp hV hL
    have : t = 5 := by omega
    subst this
    have hp1 : iv_pc 12 s = 1 := hp
    obtain ⟨g1, g2, g3, g4⟩ := ((iv_one_ok s hs).resolve_left he).resolve_left (fun h => h hp1)
    have hs0 : s ≠ 0 := fun h => by rw [h] at hp1; exact absurd hp1 (by decide)
    refine ⟨nI (iv_tz s), σ, τ, ?_, ?_, fun _ _ => rfl, fun _ _ => rfl⟩
    · rw [q_Poll_lastLeft_20, if_pos (show (5 : Int32) ≤ nI 5 by decide), f_ntz b σ hs0 (by omega)]
      rfl
    · rw [q_M_lastLand_12, f_onesOf c τ (by omega), hp1]
      simp only [Option.bind_some, iv_tI]
      rw [if_pos (show nI 1 ≤ (1 : Int32) by decide)]
      exact f_lastM c hs g1 g3 g4 τ (iv_tz s - 1) 1 (by omega)
  | succ d ih =>
    intro t s σ τ ht h1 hs he hp hV hL
    have hs0 : s ≠ 0 := fun h => by rw [h] at hp; have : iv_pc 12 0 = 0 := by decide
                                    omega
    obtain ⟨w, σ1, τ1, w1, w2, w3, w4, w5, w6, w7⟩ := f_weak b c hs he hs0 hV hL
    obtain ⟨l1, l2, l3⟩ := (iv_lo_ok s hs w (by omega)).resolve_left (by rw [w1]; decide)
    obtain ⟨r, σ', τ', p1, p2, p3, p4⟩ := ih (t + 1) (iv_wo s (2 ^ w)) σ1 τ1 (by omega) (by omega) l1 (by omega) (by omega) (iv_V_cong (w6 2 (by decide)) (w6 3 (by decide)) (by rw [w7 135 (by decide)]) (w7 136 (by decide)) hV) (iv_L_cong (w6 131 (by decide)) (w7 159 (by decide)) hL)
    refine ⟨r, σ', τ', ?_, ?_, fun z hz => (p3 z hz).trans (w6 z hz), fun z hz => (p4 z hz).trans (w7 z hz)⟩
    · rw [q_Poll_lastLeft_20, if_neg (show ¬ (5 : Int32) ≤ nI t from nI_ge (b := 5) (by omega) (by omega)), w4]
      simp only [Option.bind_some, iv_tI]
      rw [iv_shl (by omega), iv_wo_I, nI_1]
      exact p1
    · rw [q_M_lastLand_12, f_onesOf c τ (by omega)]
      simp only [Option.bind_some, iv_tI]
      rw [if_neg (show ¬ nI (iv_pc 12 s) ≤ (1 : Int32) from nI_ge (a := 1) (by omega) (by omega)), w5]
      simp only [Option.bind_some, iv_tI]
      rw [iv_shl (by omega), iv_wo_I]
      exact p2
theorem f_last (b c : Bool) {σ τ : ix_St} {n o : Nat} {sh : Nat → Nat} (hV : iv_V σ τ n o) (hL : iv_L σ τ n o sh) : ∃ r σ' τ', ix_F 93 [.ref 130] (ix_S0 b, σ) = some (.int r, (ix_S0 b, σ')) ∧ ix_F 214 [.ref 135] (ix_S0 c, τ) = some (.int r, (ix_S0 c, τ')) ∧ (∀ z, z ≠ 132 → σ' z = σ z) ∧ ∀ z, z ≠ 158 → τ' z = τ z := by
  have hh := f_hereX b hV.1 hV.2.1 hV.2.2.2.2.1 hV.2.2.1
  rw [q_Poll_lastLeft_0, q_M_lastLand_0, hh, f_hereV c hV]
  simp only [Option.bind_some, iv_tI]
  by_cases h0 : nI (iv_he n o) = 0
  · rw [if_pos h0, if_pos h0]
    exact ⟨_, σ, τ, rfl, rfl, fun _ _ => rfl, fun _ _ => rfl⟩
  · rw [if_neg h0, if_neg h0]
    exact f_lastL b c 4 1 62 σ τ (by omega) (by omega) (by omega) (by omega) (by decide) hV hL
