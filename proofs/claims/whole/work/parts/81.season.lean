/-! a line of the seasons -/
/-- what a text's reading leaves alone -/
def tx_FX (σ σ' : ix_St) : Prop := (∀ z, z < 100 ∨ z = 101 ∨ 120 < z → σ' z = σ z) ∧ σ' 105 4 = σ 105 4
def tx_FM (τ τ' : ix_St) : Prop := (∀ z, z < 135 ∨ (135 < z ∧ z < 146) ∨ 155 < z → τ' z = τ z) ∧ (∀ j, j ≤ 13 ∨ (17 < j ∧ j < 27) ∨ j = 29 ∨ 32 < j → τ' 135 j = τ 135 j) ∧ (∀ j, j < 32 → τ' 146 j = τ 146 j ∧ τ' 147 j = τ 147 j ∧ τ' 148 j = τ 148 j ∧ τ' 149 j = τ 149 j ∧ τ' 154 j = τ 154 j) ∧ (∀ j, j < 800 → τ' 150 j = τ 150 j ∧ τ' 151 j = τ 151 j) ∧ (∀ j, j < 12 → τ' 153 j = τ 153 j) ∧ ∀ j, j < 48 → τ' 155 j = τ 155 j
theorem tx_FX.rf {σ : ix_St} : tx_FX σ σ := ⟨fun _ _ => rfl, rfl⟩
theorem tx_FX.tr {σ σ1 σ2 : ix_St} (h : tx_FX σ σ1) (h2 : tx_FX σ1 σ2) : tx_FX σ σ2 := ⟨fun z a => (h2.1 z a).trans (h.1 z a), h2.2.trans h.2⟩
theorem tx_FM.rf {τ : ix_St} : tx_FM τ τ := ⟨fun _ _ => rfl, fun _ _ => rfl, fun _ _ => ⟨rfl, rfl, rfl, rfl, rfl⟩, fun _ _ => ⟨rfl, rfl⟩, fun _ _ => rfl, fun _ _ => rfl⟩
theorem tx_FM.tr {τ τ1 τ2 : ix_St} (h : tx_FM τ τ1) (h2 : tx_FM τ1 τ2) : tx_FM τ τ2 := by
  refine ⟨fun z a => (h2.1 z a).trans (h.1 z a), fun z a => (h2.2.1 z a).trans (h.2.1 z a), fun j hj => ?_, fun j hj => ?_, fun j hj => (h2.2.2.2.2.1 j hj).trans (h.2.2.2.2.1 j hj), fun j hj => (h2.2.2.2.2.2 j hj).trans (h.2.2.2.2.2 j hj)⟩
  · obtain ⟨a1, a2, a3, a4, a5⟩ := h.2.2.1 j hj
    obtain ⟨b1, b2, b3, b4, b5⟩ := h2.2.2.1 j hj
    exact ⟨b1.trans a1, b2.trans a2, b3.trans a3, b4.trans a4, b5.trans a5⟩
  · obtain ⟨a1, a2⟩ := h.2.2.2.1 j hj
    obtain ⟨b1, b2⟩ := h2.2.2.2.1 j hj
    exact ⟨b1.trans a1, b2.trans a2⟩
theorem tx_fa.FX {σ σ' : ix_St} (h : tx_fa σ σ') : tx_FX σ σ' := ⟨fun z hz => h.1 z (by omega) (by omega), h.2 4 (by omega) (by omega)⟩
theorem tx_fb.FM {τ τ' : ix_St} (h : tx_fb τ τ') : tx_FM τ τ' := by
  refine ⟨fun z hz => h.1 z (by omega), fun j hj => h.2 j (by omega) (by omega) (by omega) (by omega) (by omega) (by omega), fun j _ => ?_, fun j _ => ?_, fun j _ => ?_, fun j _ => ?_⟩
  · rw [h.1 146 (by omega), h.1 147 (by omega), h.1 148 (by omega), h.1 149 (by omega), h.1 154 (by omega)]
    exact ⟨rfl, rfl, rfl, rfl, rfl⟩
  · rw [h.1 150 (by omega), h.1 151 (by omega)]
    exact ⟨rfl, rfl⟩
  · rw [h.1 153 (by omega)]
  · rw [h.1 155 (by omega)]
/-- a write into a draft -/
theorem tx_FX.up {σ : ix_St} {z i : Nat} {v : Int32} (hz : 106 ≤ z ∧ z ≤ 120) : tx_FX σ (ix_up σ z i v) := ⟨fun y hy => iv_upn (by omega), by rw [iv_upn (by omega)]⟩
theorem tx_FM.up {τ : ix_St} {z i : Nat} {v : Int32} (hz : (146 ≤ z ∧ z ≤ 149 ∧ 32 ≤ i) ∨ (150 ≤ z ∧ z ≤ 151 ∧ 800 ≤ i) ∨ z = 152 ∨ (z = 153 ∧ 12 ≤ i) ∨ (z = 154 ∧ 32 ≤ i) ∨ (z = 155 ∧ 48 ≤ i)) : tx_FM τ (ix_up τ z i v) := by
  have key : ∀ y j, y ≠ z ∨ j ≠ i → ix_up τ z i v y j = τ y j := by
    intro y j h
    by_cases e : y = z
    · rw [e]; exact tx_un (by omega)
    · rw [iv_upn e]
  exact ⟨fun y hy => iv_upn (by omega), fun j hj => key _ _ (by omega), fun j hj => ⟨key _ _ (by omega), key _ _ (by omega), key _ _ (by omega), key _ _ (by omega), key _ _ (by omega)⟩, fun j hj => ⟨key _ _ (by omega), key _ _ (by omega)⟩, fun j hj => key _ _ (by omega), fun j hj => key _ _ (by omega)⟩
theorem tx_J.upM {k n a t : Nat} {c : Nat → Nat} {σ τ : ix_St} (h : tx_J k c t n a σ τ) {z i : Nat} {v : Int32} (hz : 144 < z) : tx_J k c t n a σ (ix_up τ z i v) := h.cg (fun _ _ _ _ => rfl) (iv_upn (by omega)) (iv_upn (by omega)) (fun _ _ _ => by rw [iv_upn (by omega)])
theorem tx_J.upX {k n a t : Nat} {c : Nat → Nat} {σ τ : ix_St} (h : tx_J k c t n a σ τ) {z i : Nat} {v : Int32} (hz : 105 < z) : tx_J k c t n a (ix_up σ z i v) τ := h.cg (fun _ _ _ _ => iv_upn (by omega)) rfl rfl (fun _ _ _ => rfl)
def tx_sea (bh bc sea : Nat → Int32) (m : Nat) : Prop := (∀ k, k < m → iv_in (sea (3 * k)) 5 ∧ (∃ a : Nat, 1 ≤ a ∧ a ≤ 99 ∧ sea (3 * k + 1) = nI a) ∧ iv_in (sea (3 * k + 2)) 5) ∧
  ∀ l, l < 6 → ∃ r, iv_fst sea m (nI l) r ∧ match r with
    | some k => bh l = sea (3 * k + 1) ∧ bc l = sea (3 * k + 2)
    | none => bh l = 0
/-- one line more -/
theorem tx_sea.add {bh bc bh' bc' sea sea' : Nat → Int32} {m L A B : Nat} (h : tx_sea bh bc sea m) (hL : L ≤ 5) (hA1 : 1 ≤ A) (hA : A ≤ 99) (hB : B ≤ 5) (h0 : ∀ j, j < 3 * m → sea' j = sea j) (h1 : sea' (3 * m) = nI L) (h2 : sea' (3 * m + 1) = nI A) (h3 : sea' (3 * m + 2) = nI B) (hn : ∀ l, l < 6 → l ≠ L → bh' l = bh l ∧ bc' l = bc l) (hz : bh L = 0 → bh' L = nI A ∧ bc' L = nI B) (hnz : bh L ≠ 0 → bh' L = bh L ∧ bc' L = bc L) : tx_sea bh' bc' sea' (m + 1) := by
  refine ⟨fun k hk => ?_, fun l hl => ?_⟩
  · by_cases e : k = m
    · rw [e, h1, h2, h3]
      exact ⟨⟨L, hL, rfl⟩, ⟨A, hA1, hA, rfl⟩, ⟨B, hB, rfl⟩⟩
    · rw [h0 _ (by omega), h0 _ (by omega), h0 _ (by omega)]
      exact h.1 k (by omega)
  · obtain ⟨r, g1, g2⟩ := h.2 l hl
    cases r with
    | some k =>
      have g3 : k < m ∧ sea (3 * k) = nI l ∧ ∀ j, j < k → sea (3 * j) ≠ nI l := g1
      have g4 : bh l = sea (3 * k + 1) ∧ bc l = sea (3 * k + 2) := g2
      have g5 : bh' l = bh l ∧ bc' l = bc l := by
        by_cases e : l = L
        · rw [e]
          refine hnz (fun q => ?_)
          obtain ⟨-, ⟨x, hx1, hx2, hx3⟩, -⟩ := h.1 k g3.1
          rw [← e, g4.1, hx3] at q
          exact nI_ne0 (by omega) (by omega) q
        · exact hn l hl e
      refine ⟨some k, ⟨by omega, by rw [h0 _ (by omega)]; exact g3.2.1, fun j hj => by rw [h0 _ (by omega)]; exact g3.2.2 j hj⟩, ?_⟩
      show bh' l = sea' (3 * k + 1) ∧ bc' l = sea' (3 * k + 2)
      rw [h0 _ (by omega), h0 _ (by omega), g5.1, g5.2]
      exact g4
    | none =>
      have g3 : ∀ j, j < m → sea (3 * j) ≠ nI l := g1
      have g4 : bh l = 0 := g2
      by_cases e : l = L
      · subst e
        obtain ⟨g5, g6⟩ := hz g4
        refine ⟨some m, ⟨by omega, h1, fun j hj => by rw [h0 _ (by omega)]; exact g3 j hj⟩, ?_⟩
        show bh' l = sea' (3 * m + 1) ∧ bc' l = sea' (3 * m + 2)
        rw [h2, h3]
        exact ⟨g5, g6⟩
      · refine ⟨none, fun j hj => ?_, ?_⟩
        · by_cases ej : j = m
          · rw [ej, h1]
            exact fun q => e ((nI_eq (by omega) (by omega)).mp q).symm
          · rw [h0 _ (by omega)]; exact g3 j (by omega)
        · show bh' l = 0
          rw [(hn l hl e).1]; exact g4
/-- a word and a number behind it -/
theorem j_told {k n a t : Nat} {c : Nat → Nat} {σ τ : ix_St} {b d : Bool} (h : tx_J k c t n a σ τ) {w g lo hi : Nat} (hw : w < 31) (hg : g < 24) (hwd : ∀ x, x < 24 → (tx_wd k x = w ↔ x = g)) (hlo : lo < 2 ^ 31) (hhi : hi < 2 ^ 31) : (∃ σ' τ', ix_F 75 [.ref 105, .int (nI w)] (ix_S0 b, σ) = some (.int 0, (ix_S0 b, σ')) ∧ ix_F 272 [.ref 135, .int (nI g), .int (nI lo), .int (nI hi)] (ix_S0 d, τ) = some (.int (-1), (ix_S0 d, τ')) ∧ tx_fa σ σ' ∧ tx_fb τ τ' ∧ tx_bad σ' τ') ∨ ∃ σ1 v σ' τ', ix_F 75 [.ref 105, .int (nI w)] (ix_S0 b, σ) = some (.int 1, (ix_S0 b, σ1)) ∧ ix_F 78 [.ref 105, .int (nI lo), .int (nI hi)] (ix_S0 b, σ1) = some (.int v, (ix_S0 b, σ')) ∧ ix_F 272 [.ref 135, .int (nI g), .int (nI lo), .int (nI hi)] (ix_S0 d, τ) = some (.int v, (ix_S0 d, τ')) ∧ tx_fa σ σ' ∧ tx_fb τ τ' ∧ ((v = -1 ∧ tx_bad σ' τ') ∨ ∃ x : Nat, v = nI x ∧ lo ≤ x ∧ x ≤ hi ∧ x ≤ 9999 ∧ tx_J k c t n (a + 2) σ' τ') := by
  rcases j_word (b := b) (d := d) h hw hg hwd with ⟨σ', τ', a1, a2, a3, a4, a5, a6⟩ | ⟨σ1, τ1, a1, a2, a3, a4, a5, a6⟩
  · refine Or.inl ⟨σ', τ', a1, ?_, a4, a5, a6⟩
    rw [q_M_readTold_0, a2]
    simp only [Option.bind_some, iv_tI]
    rw [if_pos trivial, a3]
    simp only [Option.bind_some, iv_tI]
  · obtain ⟨v, σ', τ', b1, b2, b3, b4, b5⟩ := j_num (b := b) (d := d) a6 hlo hhi
    refine Or.inr ⟨σ1, v, σ', τ', a1, b1, ?_, a4.tr b3, a5.tr b4, b5⟩
    rw [q_M_readTold_0, a2]
    simp only [Option.bind_some, iv_tI]
    rw [if_neg (by decide), a3]
    simp only [Option.bind_some]
    rw [b2]
    simp only [Option.bind_some, iv_tI]
def tx_D3 (σ τ : ix_St) (i : Nat) : Prop := tx_sea (σ 118) (σ 119) (fun j => τ 155 (48 + j)) i
theorem l_season {b d : Bool} {n a t i : Nat} {c : Nat → Nat} {σ τ : ix_St} (h : tx_J 3 c t n a σ τ) (hw : (tx_tn c t a).1 = 2 ∧ (tx_tn c t a).2.1 = 12) (hi : i < 16) (hD : tx_D3 σ τ i) : ∃ v w σ' τ', ix_F 72 [.ref 105] (ix_S0 b, σ) = some (.int v, (ix_S0 b, σ')) ∧ ix_F 258 [.ref 135, .int (nI (48 + 3 * i))] (ix_S0 d, τ) = some (.int w, (ix_S0 d, τ')) ∧ tx_FX σ σ' ∧ tx_FM τ τ' ∧ σ' 120 = σ 120 ∧ ((v = 0 ∧ w = -1 ∧ tx_bad σ' τ') ∨ (v = 1 ∧ w = 0 ∧ ∃ a', a < a' ∧ tx_J 3 c t n a' σ' τ' ∧ tx_D3 σ' τ' (i + 1))) := by
  obtain ⟨-, -, -, -, w0, w1, w2, -⟩ := tx_wds
  have hin : ∀ k, k < 3 → ¬ (nI (48 + 3 * i + k) < 0 ∨ 96 ≤ 48 + 3 * i + k) := fun k hk => tx_in (by omega) (by omega)
  have e1 : nI (48 + 3 * i) + 1 = nI (48 + 3 * i + 1) := nI_1 _
  have e2 : nI (48 + 3 * i) + 2 = nI (48 + 3 * i + 2) := nI_add _ 2
  obtain ⟨i1, i2⟩ := j_isW (d := d) h (w := 0) (g := 12) (by omega) (by omega) w0
  obtain ⟨σ1, τ1, a1, a2, a3, a4, a5, -⟩ := j_adv (b := b) (d := d) h (h.lt (by omega))
  obtain ⟨v2, σ2, τ2, b1, b2, b3, b4, b5⟩ := j_num (b := b) (d := d) a3 (lo := 0) (hi := 5) (by omega) (by omega)
  have hu : ∀ (ρ : ix_St) (q : Nat) (x : Int32), upd (ρ 155) q x q = x := fun ρ q x => pk_us
  have r1 : ix_F 272 [.ref 135, .int (12 : Int32), .int (0 : Int32), .int (5 : Int32)] (ix_S0 d, τ) = some (.int v2, (ix_S0 d, τ2)) := by
    rw [q_M_readTold_0]
    have i3 : ix_F 254 [.ref 135, .int (12 : Int32)] (ix_S0 d, τ) = some (.int 1, (ix_S0 d, τ)) := by rw [show (12 : Int32) = nI 12 from rfl, i2, iv_Bt hw]
    have b2' : ix_F 273 [.ref 135, .int (0 : Int32), .int (5 : Int32)] (ix_S0 d, τ1) = some (.int v2, (ix_S0 d, τ2)) := b2
    rw [i3]
    simp only [Option.bind_some, iv_tI]
    rw [if_neg (by decide), a2]
    simp only [Option.bind_some]
    rw [b2']
    simp only [Option.bind_some, iv_tI]
  have b1' : ix_F 78 [.ref 105, .int (0 : Int32), .int (5 : Int32)] (ix_S0 b, σ1) = some (.int v2, (ix_S0 b, σ2)) := b1
  have fX2 : tx_fa σ σ2 := a4.tr b3
  have fM2 : tx_FM τ τ2 := (a5.tr b4).FM
  have hin0 := hin 0 (by omega)
  have hin1 := hin 1 (by omega)
  have hin2 := hin 2 (by omega)
  rw [Nat.add_zero] at hin0
  rw [q_Parser_readSeason_0, q_M_readSeason_0, a1, r1]
  simp only [Option.bind_some, iv_tI]
  rw [nI_clamp (by omega), if_neg hin0, if_neg hin0, hu, b1']
  simp only [Option.bind_some, iv_tI]
  rcases b5 with ⟨rfl, b6⟩ | ⟨L, rfl, -, hL, -, b6⟩
  · rw [if_pos rfl, if_pos rfl]
    exact ⟨0, -1, _, _, rfl, rfl, fX2.FX, fM2.tr (tx_FM.up (by omega)), fX2.1 120 (by omega) (by omega), Or.inl ⟨rfl, rfl, ⟨b6.1.trans (by rw [iv_upn (by omega)]), b6.2.trans (by rw [iv_upn (by omega)])⟩⟩⟩
  rw [if_neg (iv_m1 (by omega)), if_neg (iv_m1 (by omega)), e1, e2, nI_clamp (by omega), nI_clamp (by omega)]
  have J2 : tx_J 3 c t n (a + 1 + 1) σ2 (ix_up τ2 155 (48 + 3 * i) (nI L)) := b6.upM (by omega)
  have fM3 : tx_FM τ (ix_up τ2 155 (48 + 3 * i) (nI L)) := fM2.tr (tx_FM.up (by omega))
  rcases j_told (b := b) (d := d) J2 (w := 1) (g := 22) (lo := 1) (hi := 99) (by omega) (by omega) w1 (by omega) (by omega) with ⟨σ3, τ3, c1, c2, c3, c4, c5⟩ | ⟨σx, v3, σ3, τ3, c1, c2, c3, c4, c5, c6⟩
  · have c1' : ix_F 75 [.ref 105, .int (1 : Int32)] (ix_S0 b, σ2) = some (.int 0, (ix_S0 b, σ3)) := c1
    have c2' : ix_F 272 [.ref 135, .int (22 : Int32), .int (1 : Int32), .int (99 : Int32)] (ix_S0 d, ix_up τ2 155 (48 + 3 * i) (nI L)) = some (.int (-1), (ix_S0 d, τ3)) := c2
    rw [c1', c2']
    simp only [Option.bind_some, iv_tI]
    rw [if_pos trivial, if_neg hin1, if_neg hin1, hu, if_pos rfl]
    exact ⟨0, -1, _, _, rfl, rfl, (fX2.tr c3).FX, (fM3.tr c4.FM).tr (tx_FM.up (by omega)), (fX2.tr c3).1 120 (by omega) (by omega), Or.inl ⟨rfl, rfl, ⟨c5.1.trans (by rw [iv_upn (by omega)]), c5.2.trans (by rw [iv_upn (by omega)])⟩⟩⟩
  have c1' : ix_F 75 [.ref 105, .int (1 : Int32)] (ix_S0 b, σ2) = some (.int 1, (ix_S0 b, σx)) := c1
  have c2' : ix_F 78 [.ref 105, .int (1 : Int32), .int (99 : Int32)] (ix_S0 b, σx) = some (.int v3, (ix_S0 b, σ3)) := c2
  have c3' : ix_F 272 [.ref 135, .int (22 : Int32), .int (1 : Int32), .int (99 : Int32)] (ix_S0 d, ix_up τ2 155 (48 + 3 * i) (nI L)) = some (.int v3, (ix_S0 d, τ3)) := c3
  rw [c1', c3']
  simp only [Option.bind_some, iv_tI]
  rw [if_neg (by decide), if_neg hin1, if_neg hin1, hu, c2']
  simp only [Option.bind_some, iv_tI]
  have fX3 : tx_fa σ σ3 := fX2.tr c4
  have fM4 : tx_FM τ (ix_up τ3 155 (48 + 3 * i + 1) v3) := (fM3.tr c5.FM).tr (tx_FM.up (by omega))
  rcases c6 with ⟨rfl, c6⟩ | ⟨A, rfl, hA1, hA, -, c6⟩
  · rw [if_pos rfl, if_pos rfl]
    exact ⟨0, -1, _, _, rfl, rfl, fX3.FX, fM4, fX3.1 120 (by omega) (by omega), Or.inl ⟨rfl, rfl, ⟨c6.1.trans (by rw [iv_upn (by omega)]), c6.2.trans (by rw [iv_upn (by omega)])⟩⟩⟩
  rw [if_neg (iv_m1 (by omega)), if_neg (iv_m1 (by omega))]
  have J3 := c6.upM (z := 155) (i := 48 + 3 * i + 1) (v := nI A) (by omega)
  rcases j_told (b := b) (d := d) J3 (w := 2) (g := 23) (lo := 0) (hi := 5) (by omega) (by omega) w2 (by omega) (by omega) with ⟨σ4, τ4, d1, d2, d3, d4, d5⟩ | ⟨σy, v4, σ4, τ4, d1, d2, d3, d4, d5, d6⟩
  · have d1' : ix_F 75 [.ref 105, .int (2 : Int32)] (ix_S0 b, σ3) = some (.int 0, (ix_S0 b, σ4)) := d1
    have d2' : ix_F 272 [.ref 135, .int (23 : Int32), .int (0 : Int32), .int (5 : Int32)] (ix_S0 d, ix_up τ3 155 (48 + 3 * i + 1) (nI A)) = some (.int (-1), (ix_S0 d, τ4)) := d2
    rw [d1', d2']
    simp only [Option.bind_some, iv_tI]
    rw [if_pos trivial, nI_clamp (show 48 + 3 * i + 2 < 2 ^ 31 by omega), if_neg hin2, if_neg hin2, hu, if_pos rfl]
    exact ⟨0, -1, _, _, rfl, rfl, (fX3.tr d3).FX, (fM4.tr d4.FM).tr (tx_FM.up (by omega)), (fX3.tr d3).1 120 (by omega) (by omega), Or.inl ⟨rfl, rfl, ⟨d5.1.trans (by rw [iv_upn (by omega)]), d5.2.trans (by rw [iv_upn (by omega)])⟩⟩⟩
  have d1' : ix_F 75 [.ref 105, .int (2 : Int32)] (ix_S0 b, σ3) = some (.int 1, (ix_S0 b, σy)) := d1
  have d2' : ix_F 78 [.ref 105, .int (0 : Int32), .int (5 : Int32)] (ix_S0 b, σy) = some (.int v4, (ix_S0 b, σ4)) := d2
  have d3' : ix_F 272 [.ref 135, .int (23 : Int32), .int (0 : Int32), .int (5 : Int32)] (ix_S0 d, ix_up τ3 155 (48 + 3 * i + 1) (nI A)) = some (.int v4, (ix_S0 d, τ4)) := d3
  rw [d1', d3']
  simp only [Option.bind_some, iv_tI]
  rw [if_neg (by decide), nI_clamp (show 48 + 3 * i + 2 < 2 ^ 31 by omega), if_neg hin2, if_neg hin2, hu, d2']
  simp only [Option.bind_some, iv_tI]
  have fX4 : tx_fa σ σ4 := fX3.tr d4
  have fM5 : tx_FM τ (ix_up τ4 155 (48 + 3 * i + 2) v4) := (fM4.tr d5.FM).tr (tx_FM.up (by omega))
  rcases d6 with ⟨rfl, d6⟩ | ⟨B, rfl, -, hB, -, d6⟩
  · rw [if_pos rfl, if_pos rfl]
    exact ⟨0, -1, _, _, rfl, rfl, fX4.FX, fM5, fX4.1 120 (by omega) (by omega), Or.inl ⟨rfl, rfl, ⟨d6.1.trans (by rw [iv_upn (by omega)]), d6.2.trans (by rw [iv_upn (by omega)])⟩⟩⟩
  have J4 := d6.upM (z := 155) (i := 48 + 3 * i + 2) (v := nI B) (by omega)
  have hLi : ¬ (nI L < 0 ∨ 6 ≤ L) := tx_in (by omega) (by omega)
  rw [if_neg (iv_m1 (by omega)), if_neg (iv_m1 (by omega)), if_neg hLi]
  -- what the reference's row has now
  have s0 : ∀ (v : Int32) (ρ : ix_St), tx_fb (ix_up τ4 155 (48 + 3 * i + 2) (nI B)) ρ → (∀ j, j < 3 * i → ρ 155 (48 + j) = τ 155 (48 + j)) ∧ ρ 155 (48 + 3 * i) = nI L ∧ ρ 155 (48 + (3 * i + 1)) = nI A ∧ ρ 155 (48 + (3 * i + 2)) = nI B := by
    intro v ρ hρ
    have f3 : ∀ j, τ3 155 j = ix_up τ2 155 (48 + 3 * i) (nI L) 155 j := fun j => by rw [c5.1 155 (by omega)]
    have f4 : ∀ j, τ4 155 j = ix_up τ3 155 (48 + 3 * i + 1) (nI A) 155 j := fun j => by rw [d5.1 155 (by omega)]
    have f2 : ∀ j, τ2 155 j = τ 155 j := fun j => by rw [(a5.tr b4).1 155 (by omega)]
    refine ⟨fun j hj => ?_, ?_, ?_, ?_⟩
    · rw [hρ.1 155 (by omega), tx_un (by omega), f4, tx_un (by omega), f3, tx_un (by omega), f2]
    · rw [hρ.1 155 (by omega), tx_un (by omega), f4, tx_un (by omega), f3, tx_us]
    · rw [hρ.1 155 (by omega), tx_un (by omega), f4, ← Nat.add_assoc, tx_us]
    · rw [hρ.1 155 (by omega), ← Nat.add_assoc, tx_us]
  have g18 : σ4 118 = σ 118 := fX4.1 118 (by omega) (by omega)
  have g19 : σ4 119 = σ 119 := fX4.1 119 (by omega) (by omega)
  have hgG : tx_G 59 = true := by decide
  by_cases e0 : σ4 118 L = 0
  · rw [if_pos e0, if_neg hLi, if_neg hLi]
    have J5 := (J4.upX (z := 118) (i := L) (v := nI A) (by omega)).upX (z := 119) (i := L) (v := nI B) (by omega)
    obtain ⟨v5, w5, σ5, τ5, k1, k2, k3, k4, k5⟩ := j_mark (b := b) (d := d) J5 hgG
    have k1' : ix_F 75 [.ref 105, .int (59 : Int32)] (ix_S0 b, ix_up (ix_up σ4 118 L (nI A)) 119 L (nI B)) = some (.int v5, (ix_S0 b, σ5)) := k1
    have k2' : ix_F 274 [.ref 135, .int (59 : Int32)] (ix_S0 d, ix_up τ4 155 (48 + 3 * i + 2) (nI B)) = some (.int w5, (ix_S0 d, τ5)) := k2
    have fX5 : tx_FX σ σ5 := (fX4.FX.tr ((tx_FX.up (by omega)).tr (tx_FX.up (by omega)))).tr k3.FX
    have h120 : σ5 120 = σ 120 := by rw [k3.1 120 (by omega) (by omega), iv_upn (by omega), iv_upn (by omega)]; exact fX4.1 120 (by omega) (by omega)
    rw [k1', k2']
    simp only [Option.bind_some, iv_tI]
    rcases k5 with ⟨rfl, rfl, k6⟩ | ⟨rfl, rfl, k6⟩
    · rw [if_pos (Or.inl rfl)]
      exact ⟨0, -1, _, _, rfl, rfl, fX5, fM5.tr k4.FM, h120, Or.inl ⟨rfl, rfl, k6⟩⟩
    · rw [if_pos (Or.inr rfl)]
      refine ⟨1, 0, _, _, rfl, rfl, fX5, fM5.tr k4.FM, h120, Or.inr ⟨rfl, rfl, a + 1 + 1 + 2 + 2 + 1, by omega, k6, ?_⟩⟩
      obtain ⟨z0, z1, z2, z3⟩ := s0 0 τ5 k4
      refine tx_sea.add hD hL hA1 hA hB z0 z1 z2 z3 (fun l _ hl => ?_) (fun _ => ?_) (fun q => absurd (by rw [← g18]; exact e0) q)
      · rw [k3.1 118 (by omega) (by omega), k3.1 119 (by omega) (by omega), iv_upn (c := 119) (d := 118) (by omega), tx_un hl, tx_un hl, iv_upn (c := 118) (d := 119) (by omega), g18, g19]
        exact ⟨rfl, rfl⟩
      · rw [k3.1 118 (by omega) (by omega), k3.1 119 (by omega) (by omega), iv_upn (c := 119) (d := 118) (by omega), tx_us, tx_us]
        exact ⟨rfl, rfl⟩
  · rw [if_neg e0]
    obtain ⟨v5, w5, σ5, τ5, k1, k2, k3, k4, k5⟩ := j_mark (b := b) (d := d) J4 hgG
    have k1' : ix_F 75 [.ref 105, .int (59 : Int32)] (ix_S0 b, σ4) = some (.int v5, (ix_S0 b, σ5)) := k1
    have k2' : ix_F 274 [.ref 135, .int (59 : Int32)] (ix_S0 d, ix_up τ4 155 (48 + 3 * i + 2) (nI B)) = some (.int w5, (ix_S0 d, τ5)) := k2
    have fX5 : tx_FX σ σ5 := fX4.FX.tr k3.FX
    have h120 : σ5 120 = σ 120 := by rw [k3.1 120 (by omega) (by omega)]; exact fX4.1 120 (by omega) (by omega)
    rw [k1', k2']
    simp only [Option.bind_some, iv_tI]
    rcases k5 with ⟨rfl, rfl, k6⟩ | ⟨rfl, rfl, k6⟩
    · rw [if_pos (Or.inl rfl)]
      exact ⟨0, -1, _, _, rfl, rfl, fX5, fM5.tr k4.FM, h120, Or.inl ⟨rfl, rfl, k6⟩⟩
    · rw [if_pos (Or.inr rfl)]
      refine ⟨1, 0, _, _, rfl, rfl, fX5, fM5.tr k4.FM, h120, Or.inr ⟨rfl, rfl, a + 1 + 1 + 2 + 2 + 1, by omega, k6, ?_⟩⟩
      obtain ⟨z0, z1, z2, z3⟩ := s0 0 τ5 k4
      refine tx_sea.add hD hL hA1 hA hB z0 z1 z2 z3 (fun l _ hl => ?_) (fun q => absurd (by rw [g18]; exact q) e0) (fun _ => ?_)
      · rw [k3.1 118 (by omega) (by omega), k3.1 119 (by omega) (by omega), g18, g19]
        exact ⟨rfl, rfl⟩
      · rw [k3.1 118 (by omega) (by omega), k3.1 119 (by omega) (by omega), g18, g19]
        exact ⟨rfl, rfl⟩
