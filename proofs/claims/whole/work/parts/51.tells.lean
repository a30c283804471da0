/-! what the law tells of one, by class and reference -/
def iv_un (w : Int32) (τ : ix_St) (p : Nat) : Int32 := if w = 0 then 300 - 30 * τ 141 p else if w = 1 then 20 * τ 136 (30 + p) else 2 - τ 139 p
theorem iv_rvF_cong {σ σ' τ τ' : ix_St} {M n o : Nat} (hs : ∀ z, 2 ≤ z → z ≤ 8 → σ' z = σ z) (h6 : τ' 135 6 = τ 135 6) (h7 : τ' 135 7 = τ 135 7) (h36 : τ' 136 = τ 136) (h39 : τ' 139 = τ 139) (h40 : τ' 140 = τ 140) (h41 : τ' 141 = τ 141) (h : iv_rvF σ τ M n o) : iv_rvF σ' τ' M n o := by
  unfold iv_rvF at h ⊢
  rw [hs 2 (by omega) (by omega), hs 3 (by omega) (by omega), hs 4 (by omega) (by omega), hs 5 (by omega) (by omega), hs 6 (by omega) (by omega), hs 7 (by omega) (by omega), hs 8 (by omega) (by omega), h6, h7, h36, h39, h40, h41]
  exact h
theorem f_tell_F (b c : Bool) {σ τ : ix_St} {M n o : Nat} (hn : n ≤ 12) (hR : iv_rvF σ τ M n o) (hlw : iv_lw σ τ) {p s : Nat} (hp : p < n) (hs : s < 4096) (w t m : Int32) (hw : w = 0 ∨ w = 1 ∨ w = 2) : ∃ v σ' τ1 τ', v ≤ iv_mo w ∧ ix_F 54 [.ref 12, .int w, .ref 2, .int (nI p), .int t, .int m, .int (nI s)] (ix_S0 b, σ) = some (.int (nI v), (ix_S0 b, σ')) ∧ ix_F 239 [.ref 135, .int (nI p), .int t, .int m, .int (nI s)] (ix_S0 c, τ) = some (.null, (ix_S0 c, τ1)) ∧ ix_F 240 [.ref 135, .int w, .int (iv_un w τ p), .int (nI (iv_mo w))] (ix_S0 c, τ1) = some (.int (nI v), (ix_S0 c, τ')) ∧ (∀ z, z ≠ 18 → z ≠ 19 → σ' z = σ z) ∧ (∀ z, z ≠ 156 → τ1 z = τ z) ∧ ∀ z, z ≠ 156 → z ≠ 157 → τ' z = τ z := by
  obtain ⟨σ1, τ1, e1, e2, e3, e4, e5, e6, e7, e8⟩ := f_learn_F b c hn hR hp hs t m
  have hlw1 : iv_lw σ1 τ1 := iv_lw_cong (fun z h1 h2 => e4 z (by omega)) (fun z h1 h2 => e5 z (by omega)) hlw
  have hmo : iv_mo w < 2 ^ 31 := by unfold iv_mo; split <;> omega
  have u1 : ix_F 59 [.ref 12, .int w] (ix_S0 b, σ1) = some (.int (iv_un w τ p), (ix_S0 b, σ1)) := by
    rw [q_Law_untold_0]
    have g0 : σ1 19 7 = τ 139 p := (e3 0 (by omega)).trans e6
    have g2 : σ1 19 9 = τ 141 p := (e3 2 (by omega)).trans e7
    have g3 : σ1 19 10 = τ 136 (30 + p) := (e3 3 (by omega)).trans e8
    rcases hw with rfl | rfl | rfl
    · rw [if_pos (by decide), g2]; rfl
    · rw [if_neg (by decide), if_pos (by decide), g3]; rfl
    · rw [if_neg (by decide), if_neg (by decide), g0]; rfl
  have hlw1' := hlw1
  obtain ⟨nl, z, hnl, y1, y2, -⟩ := hlw1
  obtain ⟨x, σ2, f1, f2, f3⟩ := f_lines b c w (iv_un w τ p) hnl nl 0 σ1 τ1 (by omega) hlw1' y1 e3
  obtain ⟨v, hv, hx⟩ := iv_hd_in x hmo
  have cls : ix_F 54 [.ref 12, .int w, .ref 2, .int (nI p), .int t, .int m, .int (nI s)] (ix_S0 b, σ) = some (.int (nI v), (ix_S0 b, σ2)) := by
    rw [q_Law_tells_0, e1]
    simp only [Option.bind_some, u1, iv_tI]
    rw [← hx]
    exact f1
  have fr : ∀ z, z ≠ 18 → z ≠ 19 → σ2 z = σ z := fun z h1 h2 => (f2 z h1).trans (e4 z h2)
  rcases f3 with ⟨rfl, τ2, g1, g2⟩ | ⟨l', τ2, τ3, g0, g1, g2, g3, g4⟩
  · refine ⟨v, σ2, τ1, τ2, hv, cls, e2, ?_, fr, e5, fun z h1 h2 => (g2 z h2).trans (e5 z h1)⟩
    rw [q_M_lawTells_0, q_M_lineOf_0]
    rw [show (0 : Int32) = nI 0 from rfl, g1]
    simp only [Option.bind_some, iv_tI, if_true]
    rw [show nI 0 = (0 : Int32) from rfl, f_held, hx]
    rfl
  · refine ⟨v, σ2, τ1, τ3, hv, cls, e2, ?_, fr, e5, fun z h1 h2 => (g4 z h2).trans (e5 z h1)⟩
    rw [q_M_lawTells_0, q_M_lineOf_0]
    rw [show (0 : Int32) = nI 0 from rfl, g1]
    have k0 : ¬ nI l' = -1 := iv_m1 (by omega)
    have k1 : ¬ (nI l' < 0 ∨ 48 ≤ l') := iv_ni (by omega) (by omega)
    have k2 : (nI l').toNatClampNeg = l' := nI_clamp (by omega)
    rw [show nI 0 = (0 : Int32) from rfl]
    simp only [Option.bind_some, iv_tI, k0, k1, k2, if_false, g3]
    rw [f_held, hx]
    rfl
theorem f_sway_F (b c : Bool) {σ τ : ix_St} {M n o : Nat} (hn : n ≤ 12) (hR : iv_rvF σ τ M n o) (hlw : iv_lw σ τ) {p y s : Nat} (hp : p < n) (hy : y < n) (hs : s < 4096) (m : Int32) : ∃ v σ' τ', v ≤ 1000 ∧ ix_F 54 [.ref 12, .int 0, .ref 2, .int (nI p), .int (σ 5 y), .int m, .int (nI s)] (ix_S0 b, σ) = some (.int (nI v), (ix_S0 b, σ')) ∧ ix_F 204 [.ref 135, .int (nI p), .int (nI y), .int m, .int (nI s)] (ix_S0 c, τ) = some (.int (nI v), (ix_S0 c, τ')) ∧ (∀ z, z ≠ 18 → z ≠ 19 → σ' z = σ z) ∧ ∀ z, z ≠ 156 → z ≠ 157 → τ' z = τ z := by
  obtain ⟨v, σ', τ1, τ', h1, h2, h3, h4, h5, h6, h7⟩ := f_tell_F b c hn hR hlw hp hs 0 (σ 5 y) m (Or.inl rfl)
  refine ⟨v, σ', τ', h1, h2, ?_, h5, h7⟩
  have e : σ 5 y = τ 140 y := (hR.1.2.2.2.1 y (by omega)).2.2.1
  rw [e] at h3
  rw [q_M_swayOf_0]
  simp only [nI_clamp (n := y) (by omega), nI_clamp (n := p) (by omega), iv_ni (x := y) (N := 12) (by omega) (by omega), iv_ni (x := p) (N := 12) (by omega) (by omega), if_false, h3, Option.bind_some]
  rw [h6 141 (by omega), show ix_F 240 [.ref 135, .int 0, .int (300 - 30 * τ 141 p), .int 1000] (ix_S0 c, τ1) = _ from h4]
  rfl
theorem f_abst_F (b c : Bool) {σ τ : ix_St} {M n o : Nat} (hn : n ≤ 12) (hR : iv_rvF σ τ M n o) (hlw : iv_lw σ τ) {p s : Nat} (hp : p < n) (hs : s < 4096) (m : Int32) : ∃ v σ' τ', v ≤ 1000 ∧ ix_F 54 [.ref 12, .int 1, .ref 2, .int (nI p), .int (σ 5 p), .int m, .int (nI s)] (ix_S0 b, σ) = some (.int (nI v), (ix_S0 b, σ')) ∧ ix_F 203 [.ref 135, .int (nI p), .int m, .int (nI s)] (ix_S0 c, τ) = some (.int (nI v), (ix_S0 c, τ')) ∧ (∀ z, z ≠ 18 → z ≠ 19 → σ' z = σ z) ∧ ∀ z, z ≠ 156 → z ≠ 157 → τ' z = τ z := by
  obtain ⟨v, σ', τ1, τ', h1, h2, h3, h4, h5, h6, h7⟩ := f_tell_F b c hn hR hlw hp hs 1 (σ 5 p) m (Or.inr (Or.inl rfl))
  refine ⟨v, σ', τ', h1, h2, ?_, h5, h7⟩
  have e : σ 5 p = τ 140 p := (hR.1.2.2.2.1 p (by omega)).2.2.1
  rw [e] at h3
  rw [q_M_abstainOf_0]
  simp only [show (30 : Int32) + nI p = nI (30 + p) from nI_add 30 p, nI_clamp (n := p) (by omega), nI_clamp (n := 30 + p) (by omega), iv_ni (x := p) (N := 12) (by omega) (by omega), iv_ni (x := 30 + p) (N := 54) (by omega) (by omega), if_false, h3, Option.bind_some]
  rw [h6 136 (by omega), show ix_F 240 [.ref 135, .int 1, .int (20 * τ 136 (30 + p)), .int 1000] (ix_S0 c, τ1) = _ from h4]
  rfl
theorem f_shell_F (b c : Bool) {σ τ : ix_St} {M n o : Nat} (hn : n ≤ 12) (hR : iv_rvF σ τ M n o) (hlw : iv_lw σ τ) {p s : Nat} (hp : p < n) (hs : s < 4096) (m : Int32) : ∃ v σ' τ', v ≤ 9 ∧ ix_F 54 [.ref 12, .int 2, .ref 2, .int (nI p), .int (σ 5 p), .int m, .int (nI s)] (ix_S0 b, σ) = some (.int (nI v), (ix_S0 b, σ')) ∧ ix_F 238 [.ref 135, .int (nI p), .int m, .int (nI s)] (ix_S0 c, τ) = some (.int (nI v), (ix_S0 c, τ')) ∧ (∀ z, z ≠ 18 → z ≠ 19 → σ' z = σ z) ∧ ∀ z, z ≠ 156 → z ≠ 157 → τ' z = τ z := by
  obtain ⟨v, σ', τ1, τ', h1, h2, h3, h4, h5, h6, h7⟩ := f_tell_F b c hn hR hlw hp hs 2 (σ 5 p) m (Or.inr (Or.inr rfl))
  refine ⟨v, σ', τ', h1, h2, ?_, h5, h7⟩
  have e : σ 5 p = τ 140 p := (hR.1.2.2.2.1 p (by omega)).2.2.1
  rw [e] at h3
  rw [q_M_shellsOf_0]
  simp only [nI_clamp (n := p) (by omega), iv_ni (x := p) (N := 12) (by omega) (by omega), if_false, h3, Option.bind_some]
  rw [h6 139 (by omega), show ix_F 240 [.ref 135, .int 2, .int (2 - τ 139 p), .int 9] (ix_S0 c, τ1) = _ from h4]
  rfl

theorem iv_rvT_cong {σ σ' τ τ' : ix_St} {M n o : Nat} (hs : ∀ z, 123 ≤ z → z ≤ 129 → σ' z = σ z) (h6 : τ' 135 6 = τ 135 6) (h7 : τ' 135 7 = τ 135 7) (h36 : τ' 136 = τ 136) (h39 : τ' 139 = τ 139) (h40 : τ' 140 = τ 140) (h41 : τ' 141 = τ 141) (h : iv_rvT σ τ M n o) : iv_rvT σ' τ' M n o := by
  unfold iv_rvT at h ⊢
  rw [hs 123 (by omega) (by omega), hs 124 (by omega) (by omega), hs 125 (by omega) (by omega), hs 126 (by omega) (by omega), hs 127 (by omega) (by omega), hs 128 (by omega) (by omega), hs 129 (by omega) (by omega), h6, h7, h36, h39, h40, h41]
  exact h
theorem f_tell_T (b c : Bool) {σ τ : ix_St} {M n o : Nat} (hn : n ≤ 12) (hR : iv_rvT σ τ M n o) (hlw : iv_lw σ τ) {p s : Nat} (hp : p < n) (hs : s < 4096) (w t m : Int32) (hw : w = 0 ∨ w = 1 ∨ w = 2) : ∃ v σ' τ1 τ', v ≤ iv_mo w ∧ ix_F 54 [.ref 12, .int w, .ref 123, .int (nI p), .int t, .int m, .int (nI s)] (ix_S0 b, σ) = some (.int (nI v), (ix_S0 b, σ')) ∧ ix_F 239 [.ref 135, .int (nI p), .int t, .int m, .int (nI s)] (ix_S0 c, τ) = some (.null, (ix_S0 c, τ1)) ∧ ix_F 240 [.ref 135, .int w, .int (iv_un w τ p), .int (nI (iv_mo w))] (ix_S0 c, τ1) = some (.int (nI v), (ix_S0 c, τ')) ∧ (∀ z, z ≠ 18 → z ≠ 19 → σ' z = σ z) ∧ (∀ z, z ≠ 156 → τ1 z = τ z) ∧ ∀ z, z ≠ 156 → z ≠ 157 → τ' z = τ z := by
  obtain ⟨σ1, τ1, e1, e2, e3, e4, e5, e6, e7, e8⟩ := f_learn_T b c hn hR hp hs t m
  have hlw1 : iv_lw σ1 τ1 := iv_lw_cong (fun z h1 h2 => e4 z (by omega)) (fun z h1 h2 => e5 z (by omega)) hlw
  have hmo : iv_mo w < 2 ^ 31 := by unfold iv_mo; split <;> omega
  have u1 : ix_F 59 [.ref 12, .int w] (ix_S0 b, σ1) = some (.int (iv_un w τ p), (ix_S0 b, σ1)) := by
    rw [q_Law_untold_0]
    have g0 : σ1 19 7 = τ 139 p := (e3 0 (by omega)).trans e6
    have g2 : σ1 19 9 = τ 141 p := (e3 2 (by omega)).trans e7
    have g3 : σ1 19 10 = τ 136 (30 + p) := (e3 3 (by omega)).trans e8
    rcases hw with rfl | rfl | rfl
    · rw [if_pos (by decide), g2]; rfl
    · rw [if_neg (by decide), if_pos (by decide), g3]; rfl
    · rw [if_neg (by decide), if_neg (by decide), g0]; rfl
  have hlw1' := hlw1
  obtain ⟨nl, z, hnl, y1, y2, -⟩ := hlw1
  obtain ⟨x, σ2, f1, f2, f3⟩ := f_lines b c w (iv_un w τ p) hnl nl 0 σ1 τ1 (by omega) hlw1' y1 e3
  obtain ⟨v, hv, hx⟩ := iv_hd_in x hmo
  have cls : ix_F 54 [.ref 12, .int w, .ref 123, .int (nI p), .int t, .int m, .int (nI s)] (ix_S0 b, σ) = some (.int (nI v), (ix_S0 b, σ2)) := by
    rw [q_Law_tells_0_1, e1]
    simp only [Option.bind_some, u1, iv_tI]
    rw [← hx]
    exact f1
  have fr : ∀ z, z ≠ 18 → z ≠ 19 → σ2 z = σ z := fun z h1 h2 => (f2 z h1).trans (e4 z h2)
  rcases f3 with ⟨rfl, τ2, g1, g2⟩ | ⟨l', τ2, τ3, g0, g1, g2, g3, g4⟩
  · refine ⟨v, σ2, τ1, τ2, hv, cls, e2, ?_, fr, e5, fun z h1 h2 => (g2 z h2).trans (e5 z h1)⟩
    rw [q_M_lawTells_0, q_M_lineOf_0]
    rw [show (0 : Int32) = nI 0 from rfl, g1]
    simp only [Option.bind_some, iv_tI, if_true]
    rw [show nI 0 = (0 : Int32) from rfl, f_held, hx]
    rfl
  · refine ⟨v, σ2, τ1, τ3, hv, cls, e2, ?_, fr, e5, fun z h1 h2 => (g4 z h2).trans (e5 z h1)⟩
    rw [q_M_lawTells_0, q_M_lineOf_0]
    rw [show (0 : Int32) = nI 0 from rfl, g1]
    have k0 : ¬ nI l' = -1 := iv_m1 (by omega)
    have k1 : ¬ (nI l' < 0 ∨ 48 ≤ l') := iv_ni (by omega) (by omega)
    have k2 : (nI l').toNatClampNeg = l' := nI_clamp (by omega)
    rw [show nI 0 = (0 : Int32) from rfl]
    simp only [Option.bind_some, iv_tI, k0, k1, k2, if_false, g3]
    rw [f_held, hx]
    rfl
theorem f_sway_T (b c : Bool) {σ τ : ix_St} {M n o : Nat} (hn : n ≤ 12) (hR : iv_rvT σ τ M n o) (hlw : iv_lw σ τ) {p y s : Nat} (hp : p < n) (hy : y < n) (hs : s < 4096) (m : Int32) : ∃ v σ' τ', v ≤ 1000 ∧ ix_F 54 [.ref 12, .int 0, .ref 123, .int (nI p), .int (σ 126 y), .int m, .int (nI s)] (ix_S0 b, σ) = some (.int (nI v), (ix_S0 b, σ')) ∧ ix_F 204 [.ref 135, .int (nI p), .int (nI y), .int m, .int (nI s)] (ix_S0 c, τ) = some (.int (nI v), (ix_S0 c, τ')) ∧ (∀ z, z ≠ 18 → z ≠ 19 → σ' z = σ z) ∧ ∀ z, z ≠ 156 → z ≠ 157 → τ' z = τ z := by
  obtain ⟨v, σ', τ1, τ', h1, h2, h3, h4, h5, h6, h7⟩ := f_tell_T b c hn hR hlw hp hs 0 (σ 126 y) m (Or.inl rfl)
  refine ⟨v, σ', τ', h1, h2, ?_, h5, h7⟩
  have e : σ 126 y = τ 140 y := (hR.1.2.2.2.1 y (by omega)).2.2.1
  rw [e] at h3
  rw [q_M_swayOf_0]
  simp only [nI_clamp (n := y) (by omega), nI_clamp (n := p) (by omega), iv_ni (x := y) (N := 12) (by omega) (by omega), iv_ni (x := p) (N := 12) (by omega) (by omega), if_false, h3, Option.bind_some]
  rw [h6 141 (by omega), show ix_F 240 [.ref 135, .int 0, .int (300 - 30 * τ 141 p), .int 1000] (ix_S0 c, τ1) = _ from h4]
  rfl
theorem f_abst_T (b c : Bool) {σ τ : ix_St} {M n o : Nat} (hn : n ≤ 12) (hR : iv_rvT σ τ M n o) (hlw : iv_lw σ τ) {p s : Nat} (hp : p < n) (hs : s < 4096) (m : Int32) : ∃ v σ' τ', v ≤ 1000 ∧ ix_F 54 [.ref 12, .int 1, .ref 123, .int (nI p), .int (σ 126 p), .int m, .int (nI s)] (ix_S0 b, σ) = some (.int (nI v), (ix_S0 b, σ')) ∧ ix_F 203 [.ref 135, .int (nI p), .int m, .int (nI s)] (ix_S0 c, τ) = some (.int (nI v), (ix_S0 c, τ')) ∧ (∀ z, z ≠ 18 → z ≠ 19 → σ' z = σ z) ∧ ∀ z, z ≠ 156 → z ≠ 157 → τ' z = τ z := by
  obtain ⟨v, σ', τ1, τ', h1, h2, h3, h4, h5, h6, h7⟩ := f_tell_T b c hn hR hlw hp hs 1 (σ 126 p) m (Or.inr (Or.inl rfl))
  refine ⟨v, σ', τ', h1, h2, ?_, h5, h7⟩
  have e : σ 126 p = τ 140 p := (hR.1.2.2.2.1 p (by omega)).2.2.1
  rw [e] at h3
  rw [q_M_abstainOf_0]
  simp only [show (30 : Int32) + nI p = nI (30 + p) from nI_add 30 p, nI_clamp (n := p) (by omega), nI_clamp (n := 30 + p) (by omega), iv_ni (x := p) (N := 12) (by omega) (by omega), iv_ni (x := 30 + p) (N := 54) (by omega) (by omega), if_false, h3, Option.bind_some]
  rw [h6 136 (by omega), show ix_F 240 [.ref 135, .int 1, .int (20 * τ 136 (30 + p)), .int 1000] (ix_S0 c, τ1) = _ from h4]
  rfl
theorem f_shell_T (b c : Bool) {σ τ : ix_St} {M n o : Nat} (hn : n ≤ 12) (hR : iv_rvT σ τ M n o) (hlw : iv_lw σ τ) {p s : Nat} (hp : p < n) (hs : s < 4096) (m : Int32) : ∃ v σ' τ', v ≤ 9 ∧ ix_F 54 [.ref 12, .int 2, .ref 123, .int (nI p), .int (σ 126 p), .int m, .int (nI s)] (ix_S0 b, σ) = some (.int (nI v), (ix_S0 b, σ')) ∧ ix_F 238 [.ref 135, .int (nI p), .int m, .int (nI s)] (ix_S0 c, τ) = some (.int (nI v), (ix_S0 c, τ')) ∧ (∀ z, z ≠ 18 → z ≠ 19 → σ' z = σ z) ∧ ∀ z, z ≠ 156 → z ≠ 157 → τ' z = τ z := by
  obtain ⟨v, σ', τ1, τ', h1, h2, h3, h4, h5, h6, h7⟩ := f_tell_T b c hn hR hlw hp hs 2 (σ 126 p) m (Or.inr (Or.inr rfl))
  refine ⟨v, σ', τ', h1, h2, ?_, h5, h7⟩
  have e : σ 126 p = τ 140 p := (hR.1.2.2.2.1 p (by omega)).2.2.1
  rw [e] at h3
  rw [q_M_shellsOf_0]
  simp only [nI_clamp (n := p) (by omega), iv_ni (x := p) (N := 12) (by omega) (by omega), if_false, h3, Option.bind_some]
  rw [h6 139 (by omega), show ix_F 240 [.ref 135, .int 2, .int (2 - τ 139 p), .int 9] (ix_S0 c, τ1) = _ from h4]
  rfl

