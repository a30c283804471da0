/-! a text: what the world keeps -/
def tx_XA (σ σ' : ix_St) : Prop := ∀ z, z < 100 → σ' z = σ z
def tx_XB (τ τ' : ix_St) : Prop := (∀ z, (135 < z ∧ z < 146) ∨ 155 < z → τ' z = τ z) ∧ (∀ j, j = 3 ∨ j = 5 ∨ j = 6 ∨ j = 7 ∨ 34 < j → τ' 135 j = τ 135 j) ∧ (∀ j, j < 32 → τ' 146 j = τ 146 j ∧ τ' 147 j = τ 147 j ∧ τ' 148 j = τ 148 j ∧ τ' 149 j = τ 149 j ∧ τ' 154 j = τ 154 j) ∧ (∀ j, j < 800 → τ' 150 j = τ 150 j ∧ τ' 151 j = τ 151 j) ∧ (∀ j, j < 12 → τ' 153 j = τ 153 j) ∧ ∀ j, j < 48 → τ' 155 j = τ 155 j
theorem tx_FX.XA {σ σ' : ix_St} (h : tx_FX σ σ') : tx_XA σ σ' := fun z hz => h.1 z (by omega)
theorem tx_FM.XB {τ τ' : ix_St} (h : tx_FM τ τ') : tx_XB τ τ' := ⟨fun z hz => h.1 z (by omega), fun j hj => h.2.1 j (by omega), h.2.2.1, h.2.2.2.1, h.2.2.2.2.1, h.2.2.2.2.2⟩
theorem tx_XA.tr {σ σ1 σ2 : ix_St} (h : tx_XA σ σ1) (h2 : tx_XA σ1 σ2) : tx_XA σ σ2 := fun z hz => (h2 z hz).trans (h z hz)
theorem tx_XB.tr {τ τ1 τ2 : ix_St} (h : tx_XB τ τ1) (h2 : tx_XB τ1 τ2) : tx_XB τ τ2 := by
  refine ⟨fun z a => (h2.1 z a).trans (h.1 z a), fun z a => (h2.2.1 z a).trans (h.2.1 z a), fun j hj => ?_, fun j hj => ?_, fun j hj => (h2.2.2.2.2.1 j hj).trans (h.2.2.2.2.1 j hj), fun j hj => (h2.2.2.2.2.2 j hj).trans (h.2.2.2.2.2 j hj)⟩
  · obtain ⟨a1, a2, a3, a4, a5⟩ := h.2.2.1 j hj
    obtain ⟨b1, b2, b3, b4, b5⟩ := h2.2.2.1 j hj
    exact ⟨b1.trans a1, b2.trans a2, b3.trans a3, b4.trans a4, b5.trans a5⟩
  · obtain ⟨a1, a2⟩ := h.2.2.2.1 j hj
    obtain ⟨b1, b2⟩ := h2.2.2.2.1 j hj
    exact ⟨b1.trans a1, b2.trans a2⟩
theorem tx_XB.up {τ : ix_St} {i : Nat} {v : Int32} (hi : i ≤ 34 ∧ i ≠ 3 ∧ i ≠ 5 ∧ i ≠ 6 ∧ i ≠ 7) : tx_XB τ (ix_up τ 135 i v) := by
  have e : ∀ z, z ≠ 135 → ix_up τ 135 i v z = τ z := fun z hz => iv_upn hz
  refine ⟨fun z hz => e z (by omega), fun j hj => tx_un (by omega), fun j _ => ?_, fun j _ => ?_, fun j _ => ?_, fun j _ => ?_⟩
  · rw [e 146 (by omega), e 147 (by omega), e 148 (by omega), e 149 (by omega), e 154 (by omega)]
    exact ⟨rfl, rfl, rfl, rfl, rfl⟩
  · rw [e 150 (by omega), e 151 (by omega)]
    exact ⟨rfl, rfl⟩
  · rw [e 153 (by omega)]
  · rw [e 155 (by omega)]
theorem tx_XA.up {σ : ix_St} {c i : Nat} {v : Int32} (hc : 100 ≤ c) : tx_XA σ (ix_up σ c i v) := fun z hz => iv_upn (by omega)
theorem tx_logc {r s L L' : Nat → Int32} {c : Int32} (h : iv_log r s L c) (hL : ∀ j, j < 32 → L' j = L j) : iv_log r s L' c := by
  obtain ⟨m, hm, hc, h⟩ := h
  exact ⟨m, hm, hc, fun k hk => by rw [hL _ (by omega), hL _ (by omega)]; exact h k hk⟩
theorem tx_seac {bh bc sea sea' : Nat → Int32} {c : Int32} (h : iv_sea bh bc sea c) (hL : ∀ j, j < 48 → sea' j = sea j) : iv_sea bh bc sea' c := by
  obtain ⟨m, hm, hc, h1, h2⟩ := h
  refine ⟨m, hm, hc, fun k hk => ?_, fun l hl => ?_⟩
  · rw [hL _ (by omega), hL _ (by omega), hL _ (by omega)]; exact h1 k hk
  · obtain ⟨r, g1, g2⟩ := h2 l hl
    cases r with
    | some k =>
      have g3 : k < m ∧ sea (3 * k) = nI l ∧ ∀ j, j < k → sea (3 * j) ≠ nI l := g1
      have g4 : bh l = sea (3 * k + 1) ∧ bc l = sea (3 * k + 2) := g2
      refine ⟨some k, ⟨g3.1, by rw [hL _ (by omega)]; exact g3.2.1, fun j hj => by rw [hL _ (by omega)]; exact g3.2.2 j hj⟩, ?_⟩
      show bh l = sea' (3 * k + 1) ∧ bc l = sea' (3 * k + 2)
      rw [hL _ (by omega), hL _ (by omega)]
      exact g4
    | none =>
      have g3 : ∀ j, j < m → sea (3 * j) ≠ nI l := g1
      exact ⟨none, fun j hj => by rw [hL _ (by omega)]; exact g3 j hj, g2⟩
theorem tx_lawc {f steps cw cf cn cu : Nat → Int32} {ml : Int32} {mw mf mn mu op arg mw' mf' mn' mu' op' arg' : Nat → Int32} (h : iv_law f steps cw cf cn cu ml mw mf mn mu op arg) (h1 : ∀ l, l < 16 → mw' l = mw l ∧ mf' l = mf l ∧ mn' l = mn l ∧ mu' l = mu l) (h2 : ∀ j, j < 400 → op' j = op j ∧ arg' j = arg j) : iv_law f steps cw cf cn cu ml mw' mf' mn' mu' op' arg' := by
  obtain ⟨n, z, hn, g1, g2, hz, g3, g4, g5⟩ := h
  refine ⟨n, z, hn, g1, g2, hz, g3, fun i hi => ?_, fun l hl => ?_⟩
  · rw [(h2 i (by omega)).1, (h2 i (by omega)).2]; exact g4 i hi
  · obtain ⟨e1, e2, A, B, C, hAB, hBC, hCz, e3, e4, e5, e6, e7, e8, ⟨t, ht, e9⟩, e10⟩ := g5 l hl
    obtain ⟨k1, k2, k3, k4⟩ := h1 l (by omega)
    refine ⟨e1, by rw [k1]; exact e2, A, B, C, hAB, hBC, hCz, e3, by rw [k2]; exact e4, e5, by rw [k3]; exact e6, e7, by rw [k4]; exact e8, ⟨t, ht, tx_run_cg _ _ _ _ (fun j j1 j2 => h2 j (by omega)) e9⟩, fun q => tx_run_cg _ _ _ _ (fun j j1 j2 => h2 j (by omega)) (e10 q)⟩
theorem tx_worc {c c' v v' : ix_St} {M n o : Nat} (h : iv_wor c v M n o) (h1 : ∀ z, (1 ≤ z ∧ z ≤ 10) ∨ z = 26 ∨ z = 27 → c' z = c z) (h0 : v' 0 = v 0) (h10 : v' 1 0 = v 1 0) (h11 : v' 1 1 = v 1 1) (h15 : v' 1 5 = v 1 5) (h2 : ∀ z, (2 ≤ z ∧ z ≤ 4) ∨ z = 6 ∨ z = 7 ∨ z = 10 → v' z = v z) (h25 : c' 25 0 = v' 1 6 ∧ c' 25 1 = v' 1 2 ∧ c' 25 2 = v' 1 3 ∧ c' 25 3 = v' 1 4) (he : ∀ i, i < 12 → c' 20 i = v' 5 i ∧ (n ≤ i → c' 20 i = 0)) (hl : iv_log (c' 21) (c' 22) (v' 8) (v' 1 3)) (hs : iv_sea (c' 23) (c' 24) (v' 9) (v' 1 4)) (hw : iv_law (c' 12) (c' 13) (c' 14) (c' 15) (c' 16) (c' 17) (v' 1 6) (v' 11) (v' 12) (v' 13) (v' 14) (v' 15) (v' 16)) : iv_wor c' v' M n o := by
  obtain ⟨w1, ⟨⟨w2, w3⟩, w4⟩, -, -, -, -, -, w13, w14⟩ := h
  refine ⟨?_, ⟨⟨?_, ?_⟩, ?_⟩, h25, he, hl, hs, hw, ?_, ?_⟩
  · rw [h1 2 (by omega), h1 3 (by omega), h1 4 (by omega), h1 5 (by omega), h1 6 (by omega), h1 7 (by omega), h1 8 (by omega), h0, h10, h2 2 (by omega), h2 3 (by omega), h2 4 (by omega)]; exact w1
  · rw [h11]; exact w2
  · rw [h1 9 (by omega), h0]; exact w3
  · rw [h1 10 (by omega), h2 10 (by omega)]; exact w4
  · rw [h1 26 (by omega), h2 6 (by omega)]; exact w13
  · rw [h1 1 (by omega), h1 27 (by omega), h15, h2 7 (by omega)]; exact w14
theorem tx_worcc {c c' v : ix_St} {M n o : Nat} (h : iv_wor c v M n o) (h1 : ∀ z, 1 ≤ z → z ≤ 27 → c' z = c z) : iv_wor c' v M n o := by
  obtain ⟨-, -, w5, w6, w7, w8, w9, -, -⟩ := id h
  refine tx_worc h (fun z hz => h1 z (by omega) (by omega)) rfl rfl rfl rfl (fun _ _ => rfl) ?_ ?_ ?_ ?_ ?_
  · rw [h1 25 (by omega) (by omega)]; exact w5
  · rw [h1 20 (by omega) (by omega)]; exact w6
  · rw [h1 21 (by omega) (by omega), h1 22 (by omega) (by omega)]; exact w7
  · rw [h1 23 (by omega) (by omega), h1 24 (by omega) (by omega)]; exact w8
  · rw [h1 12 (by omega) (by omega), h1 13 (by omega) (by omega), h1 14 (by omega) (by omega), h1 15 (by omega) (by omega), h1 16 (by omega) (by omega), h1 17 (by omega) (by omega)]; exact w9
theorem tx_imgc {σ σ' τ τ' : ix_St} {M : Nat} (h : iv_img σ τ M) (h1 : ∀ z, z < 55 → σ' z = σ z) (h2 : τ' 135 51 = τ 135 51) (h3 : τ' 163 = τ 163) : iv_img σ' τ' M := by
  obtain ⟨g1, g2⟩ := h
  refine ⟨by rw [h1 0 (by omega), h2]; exact g1, ?_⟩
  rw [h2, h3]
  rcases g2 with g2 | ⟨g2, n, o, hn, hw⟩
  · exact Or.inl g2
  · exact Or.inr ⟨g2, n, o, hn, tx_worcc hw (fun z z1 z2 => h1 (z + 27) (by omega))⟩
/-- the world behind the reading of a text -/
theorem tx_wA {σ σ' τ τ' : ix_St} {M n o : Nat} (h : iv_wor σ (iv_mv τ) M n o) (ha : tx_XA σ σ') (hb : tx_XB τ τ') : iv_wor σ' (iv_mv τ') M n o := by
  obtain ⟨-, -, w5, w6, w7, w8, w9, -, -⟩ := id h
  have b1 : ∀ z, (135 < z ∧ z < 146) ∨ 155 < z → τ' z = τ z := hb.1
  have b2 := hb.2.1
  refine tx_worc h (fun z hz => ha z (by omega)) (b1 136 (by omega)) (b2 6 (by omega)) (b2 7 (by omega)) (b2 47 (by omega)) (fun z hz => ?_) ?_ ?_ ?_ ?_ ?_
  · have hz' : z = 2 ∨ z = 3 ∨ z = 4 ∨ z = 6 ∨ z = 7 ∨ z = 10 := by omega
    rcases hz' with rfl | rfl | rfl | rfl | rfl | rfl
    · exact b1 139 (by omega)
    · exact b1 140 (by omega)
    · exact b1 141 (by omega)
    · exact b1 162 (by omega)
    · exact b1 161 (by omega)
    · exact b1 142 (by omega)
  · rw [ha 25 (by omega)]
    show σ 25 0 = τ' 145 0 ∧ σ 25 1 = τ' 135 35 ∧ σ 25 2 = τ' 135 37 ∧ σ 25 3 = τ' 135 39
    rw [b1 145 (by omega), b2 35 (by omega), b2 37 (by omega), b2 39 (by omega)]
    exact w5
  · intro i hi
    rw [ha 20 (by omega)]
    show σ 20 i = τ' 153 i ∧ _
    rw [hb.2.2.2.2.1 i hi]
    exact w6 i hi
  · rw [ha 21 (by omega), ha 22 (by omega)]
    show iv_log (σ 21) (σ 22) (τ' 154) (τ' 135 37)
    rw [b2 37 (by omega)]
    exact tx_logc w7 (fun j hj => (hb.2.2.1 j hj).2.2.2.2)
  · rw [ha 23 (by omega), ha 24 (by omega)]
    show iv_sea (σ 23) (σ 24) (τ' 155) (τ' 135 39)
    rw [b2 39 (by omega)]
    exact tx_seac w8 (fun j hj => hb.2.2.2.2.2 j hj)
  · rw [ha 12 (by omega), ha 13 (by omega), ha 14 (by omega), ha 15 (by omega), ha 16 (by omega), ha 17 (by omega)]
    show iv_law (σ 12) (σ 13) (σ 14) (σ 15) (σ 16) (σ 17) (τ' 145 0) (τ' 146) (τ' 147) (τ' 148) (τ' 149) (τ' 150) (τ' 151)
    rw [b1 145 (by omega)]
    exact tx_lawc w9 (fun l hl => ⟨(hb.2.2.1 l (by omega)).1, (hb.2.2.1 l (by omega)).2.1, (hb.2.2.1 l (by omega)).2.2.1, (hb.2.2.1 l (by omega)).2.2.2.1⟩) (fun j hj => hb.2.2.2.1 j (by omega))
/-- all that holds, behind the reading of a text -/
theorem tx_RA {k : Nat} {σ σ' τ τ' : ix_St} (h : iv_R k σ τ) (ha : tx_XA σ σ') (hb : tx_XB τ τ') (h1 : σ' 100 1 = 0) (h2 : τ' 135 13 = 0) (h3 : σ' 105 1 = τ' 135 33) (h4 : σ' 105 2 = τ' 135 34) : iv_R (k + 1) σ' τ' := by
  obtain ⟨n, o, hn, hw, hpast, htape, hoth, himg⟩ := iv_R_up (Nat.le_succ k) h
  refine ⟨n, o, hn, tx_wA hw ha hb, iv_past_cong (fun c _ hc => ha c hc) (hb.2.1 3 (by omega)) (hb.2.1 6 (by omega)) (hb.1 137 (by omega)) (hb.1 139 (by omega)) (hb.1 140 (by omega)) (hb.1 141 (by omega)) hpast, ⟨0, by omega, h1, h2, fun i hi => absurd hi (by omega)⟩, ⟨⟨h3, h4⟩, by rw [hb.2.1 5 (by omega)]; exact hoth.2.1, by rw [hb.1 144 (by omega)]; exact hoth.2.2⟩, tx_imgc himg (fun z hz => ha z (by omega)) (hb.2.1 51 (by omega)) (hb.1 163 (by omega))⟩
