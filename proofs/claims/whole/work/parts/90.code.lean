/-! the law's codes: class and reference beside each other, with the types that they leave -/
theorem tx_run_app {op arg : Nat → Int32} : ∀ (k a : Nat) (T t u : List Nat), iv_run op arg k a T t → iv_ts t (op (a + k)) (arg (a + k)) = some u → u.length ≤ 32 → iv_run op arg (k + 1) a T u
  | 0, a, T, t, u, h, h1, h2 => by
    have h3 : T = t := h
    rw [Nat.add_zero] at h1
    exact ⟨u, by rw [h3]; exact h1, h2, rfl⟩
  | k + 1, a, T, t, u, h, h1, h2 => by
    obtain ⟨s, g1, g2, g3⟩ := h
    refine ⟨s, g1, g2, tx_run_app k (a + 1) s t u g3 ?_ h2⟩
    rw [show a + 1 + k = a + (k + 1) by omega]
    exact h1
theorem tx_run_cg {op arg op' arg' : Nat → Int32} : ∀ (k a : Nat) (T t : List Nat), (∀ j, a ≤ j → j < a + k → op' j = op j ∧ arg' j = arg j) → iv_run op arg k a T t → iv_run op' arg' k a T t
  | 0, a, T, t, _, h => h
  | k + 1, a, T, t, hc, h => by
    obtain ⟨s, g1, g2, g3⟩ := h
    obtain ⟨c1, c2⟩ := hc a (by omega) (by omega)
    exact ⟨s, by rw [c1, c2]; exact g1, g2, tx_run_cg k (a + 1) s t (fun j h1 h2 => hc j (by omega) (by omega)) g3⟩
/-- z codes stand; those from z0 on bring the types T to out -/
def tx_cd (σ τ : ix_St) (z0 z : Nat) (T out : List Nat) : Prop := (z0 ≤ z ∧ z ≤ 400) ∧ (σ 107 8 = nI z ∧ τ 135 27 = nI z) ∧ (∀ j, j < z → iv_enc (σ 108 j) (τ 150 (800 + j)) (τ 151 (800 + j))) ∧ iv_run (fun j => τ 150 (800 + j)) (fun j => τ 151 (800 + j)) (z - z0) z0 T out
/-- what the reading of a sum or of conditions leaves alone -/
def tx_la (σ σ' : ix_St) : Prop := (∀ z, z ≠ 100 → z ≠ 105 → z ≠ 107 → z ≠ 108 → σ' z = σ z) ∧ (∀ j, j ≠ 1 → j ≠ 2 → σ' 105 j = σ 105 j) ∧ ∀ j, j ≠ 8 → σ' 107 j = σ 107 j
def tx_lb (τ τ' : ix_St) : Prop := (∀ z, z ≠ 135 → z ≠ 150 → z ≠ 151 → τ' z = τ z) ∧ (∀ j, j ≤ 13 ∨ (17 < j ∧ j < 27) ∨ (27 < j ∧ j < 31) ∨ 32 < j → τ' 135 j = τ 135 j) ∧ ∀ j, j < 800 → τ' 150 j = τ 150 j ∧ τ' 151 j = τ 151 j
/-- .. of conditions, in the reference -/
def tx_ld (τ τ' : ix_St) : Prop := (∀ z, z ≠ 135 → z ≠ 150 → z ≠ 151 → z ≠ 152 → τ' z = τ z) ∧ (∀ j, j ≤ 13 ∨ (17 < j ∧ j < 27) ∨ j = 29 ∨ 32 < j → τ' 135 j = τ 135 j) ∧ ∀ j, j < 800 → τ' 150 j = τ 150 j ∧ τ' 151 j = τ 151 j
/-- the codes before z stay as they are -/
def tx_lz (σ σ' τ τ' : ix_St) (z : Nat) : Prop := ∀ j, j < z → σ' 108 j = σ 108 j ∧ τ' 150 (800 + j) = τ 150 (800 + j) ∧ τ' 151 (800 + j) = τ 151 (800 + j)
theorem tx_la.rf {σ : ix_St} : tx_la σ σ := ⟨fun _ _ _ _ _ => rfl, fun _ _ _ => rfl, fun _ _ => rfl⟩
theorem tx_la.tr {σ σ1 σ2 : ix_St} (h : tx_la σ σ1) (h2 : tx_la σ1 σ2) : tx_la σ σ2 := ⟨fun z a b c d => (h2.1 z a b c d).trans (h.1 z a b c d), fun j a b => (h2.2.1 j a b).trans (h.2.1 j a b), fun j a => (h2.2.2 j a).trans (h.2.2 j a)⟩
theorem tx_lb.rf {τ : ix_St} : tx_lb τ τ := ⟨fun _ _ _ _ => rfl, fun _ _ => rfl, fun _ _ => ⟨rfl, rfl⟩⟩
theorem tx_ld.rf {τ : ix_St} : tx_ld τ τ := ⟨fun _ _ _ _ _ => rfl, fun _ _ => rfl, fun _ _ => ⟨rfl, rfl⟩⟩
theorem tx_lb.tr {τ τ1 τ2 : ix_St} (h : tx_lb τ τ1) (h2 : tx_lb τ1 τ2) : tx_lb τ τ2 := ⟨fun z a b c => (h2.1 z a b c).trans (h.1 z a b c), fun j a => (h2.2.1 j a).trans (h.2.1 j a), fun j a => ⟨(h2.2.2 j a).1.trans (h.2.2 j a).1, (h2.2.2 j a).2.trans (h.2.2 j a).2⟩⟩
theorem tx_ld.tr {τ τ1 τ2 : ix_St} (h : tx_ld τ τ1) (h2 : tx_ld τ1 τ2) : tx_ld τ τ2 := ⟨fun z a b c d => (h2.1 z a b c d).trans (h.1 z a b c d), fun j a => (h2.2.1 j a).trans (h.2.1 j a), fun j a => ⟨(h2.2.2 j a).1.trans (h.2.2 j a).1, (h2.2.2 j a).2.trans (h.2.2 j a).2⟩⟩
theorem tx_lb.ld {τ τ' : ix_St} (h : tx_lb τ τ') : tx_ld τ τ' := ⟨fun z a b c _ => h.1 z a b c, fun j hj => h.2.1 j (by omega), h.2.2⟩
theorem tx_lz.rf {σ τ : ix_St} {z : Nat} : tx_lz σ σ τ τ z := fun _ _ => ⟨rfl, rfl, rfl⟩
theorem tx_lz.tr {σ σ1 σ2 τ τ1 τ2 : ix_St} {z z1 : Nat} (hz : z ≤ z1) (h : tx_lz σ σ1 τ τ1 z) (h2 : tx_lz σ1 σ2 τ1 τ2 z1) : tx_lz σ σ2 τ τ2 z := fun j hj => by
  obtain ⟨a1, a2, a3⟩ := h j hj
  obtain ⟨b1, b2, b3⟩ := h2 j (by omega)
  exact ⟨b1.trans a1, b2.trans a2, b3.trans a3⟩
theorem tx_fa.la {σ σ' : ix_St} (h : tx_fa σ σ') : tx_la σ σ' := ⟨fun z a b _ _ => h.1 z a b, h.2, fun j _ => by rw [h.1 107 (by omega) (by omega)]⟩
theorem tx_fb.lb {τ τ' : ix_St} (h : tx_fb τ τ') : tx_lb τ τ' := ⟨fun z a _ _ => h.1 z a, fun j hj => h.2 j (by omega) (by omega) (by omega) (by omega) (by omega) (by omega), fun j _ => ⟨by rw [h.1 150 (by omega)], by rw [h.1 151 (by omega)]⟩⟩
theorem tx_lz.ab {σ σ' τ τ' : ix_St} {z : Nat} (h : tx_fa σ σ') (h2 : tx_fb τ τ') : tx_lz σ σ' τ τ' z := fun j _ => ⟨by rw [h.1 108 (by omega) (by omega)], by rw [h2.1 150 (by omega)], by rw [h2.1 151 (by omega)]⟩
/-- moving on leaves the codes -/
theorem tx_cd.ab {σ σ' τ τ' : ix_St} {z0 z : Nat} {T out : List Nat} (h : tx_cd σ τ z0 z T out) (ha : tx_fa σ σ') (hb : tx_fb τ τ') : tx_cd σ' τ' z0 z T out := by
  obtain ⟨h1, h2, h3, h4⟩ := h
  unfold tx_cd
  rw [ha.1 107 (by omega) (by omega), ha.1 108 (by omega) (by omega), hb.1 150 (by omega), hb.1 151 (by omega), hb.2 27 (by omega) (by omega) (by omega) (by omega) (by omega) (by omega)]
  exact ⟨h1, h2, h3, h4⟩
/-- one code more -/
theorem j_emit {b d : Bool} {k n a t z0 z : Nat} {c : Nat → Nat} {σ τ : ix_St} {T out u : List Nat} (h : tx_J k c t n a σ τ) (hc : tx_cd σ τ z0 z T out) (hz : z < 400) {kind value op arg : Int32} (he : iv_enc ((value <<< ((6 : Int32) &&& 31)) ||| kind) op arg) (ht : iv_ts out op arg = some u) (hu : u.length ≤ 32) : ∃ σ' τ', ix_F 61 [.ref 107, .int kind, .int value] (ix_S0 b, σ) = some (.null, (ix_S0 b, σ')) ∧ ix_F 277 [.ref 135, .int op, .int arg] (ix_S0 d, τ) = some (.null, (ix_S0 d, τ')) ∧ tx_J k c t n a σ' τ' ∧ tx_cd σ' τ' z0 (z + 1) T u ∧ tx_la σ σ' ∧ tx_lb τ τ' ∧ tx_lz σ σ' τ τ' z ∧ σ' 100 = σ 100 := by
  obtain ⟨⟨h1, h2⟩, ⟨h3, h4⟩, h5, h6⟩ := hc
  have e1 : (800 : Int32) + nI z = nI (800 + z) := nI_add 800 z
  have hin : ¬ (nI (800 + z) < 0 ∨ 1200 ≤ 800 + z) := tx_in (by omega) (by omega)
  refine ⟨ix_up (ix_up σ 108 z ((value <<< ((6 : Int32) &&& 31)) ||| kind)) 107 8 (nI (z + 1)), ix_up (ix_up (ix_up τ 150 (800 + z) op) 151 (800 + z) arg) 135 27 (nI (z + 1)), ?_, ?_, ?_, ⟨⟨by omega, by omega⟩, ⟨tx_us, tx_us⟩, fun j hj => ?_, ?_⟩, ⟨fun y y1 y2 y3 y4 => ?_, fun j _ _ => ?_, fun j hj => ?_⟩, ⟨fun y y1 y2 y3 => ?_, fun j hj => ?_, fun j hj => ⟨?_, ?_⟩⟩, fun j hj => ⟨?_, ?_, ?_⟩, ?_⟩
  · rw [q_Law_add_0, h3, if_neg (show ¬ (400 : Int32) ≤ nI z from nI_ge (b := 400) (by omega) (by omega)), nI_clamp (by omega), if_neg (tx_in (by omega) (by omega)), nI_1]
  · rw [q_M_emits_0, h4, e1, nI_clamp (by omega), if_neg hin, if_neg hin, nI_1]
  · refine h.cg (fun y y1 y2 _ => ?_) ?_ ?_ (fun j _ _ => ?_)
    · rw [iv_upn (by omega), iv_upn (by omega)]
    · rw [iv_upn (by omega), iv_upn (by omega), iv_upn (by omega)]
    · rw [iv_upn (by omega), iv_upn (by omega), iv_upn (by omega)]
    · rw [tx_un (by omega), iv_upn (by omega), iv_upn (by omega)]
  · rw [iv_upn (c := 107) (d := 108) (by omega), iv_upn (c := 135) (d := 150) (by omega), iv_upn (c := 151) (d := 150) (by omega), iv_upn (c := 135) (d := 151) (by omega)]
    by_cases ej : j = z
    · rw [ej, tx_us, tx_us, tx_us]; exact he
    · rw [tx_un ej, tx_un (by omega), tx_un (by omega), iv_upn (c := 150) (d := 151) (by omega)]
      exact h5 j (by omega)
  · rw [show z + 1 - z0 = z - z0 + 1 by omega]
    refine tx_run_app (z - z0) z0 T out u (tx_run_cg (z - z0) z0 T out (fun j j1 j2 => ⟨?_, ?_⟩) h6) ?_ hu
    · rw [iv_upn (by omega), iv_upn (by omega), tx_un (by omega)]
    · rw [iv_upn (by omega), tx_un (by omega), iv_upn (by omega)]
    · rw [show z0 + (z - z0) = z by omega, iv_upn (c := 135) (d := 150) (by omega), iv_upn (c := 151) (d := 150) (by omega), tx_us, iv_upn (c := 135) (d := 151) (by omega), tx_us]
      exact ht
  · rw [iv_upn y3, iv_upn y4]
  · rw [iv_upn (by omega), iv_upn (by omega)]
  · rw [tx_un hj, iv_upn (by omega)]
  · rw [iv_upn y1, iv_upn y3, iv_upn y2]
  · rw [tx_un (by omega), iv_upn (by omega), iv_upn (by omega)]
  · rw [iv_upn (by omega), iv_upn (by omega), tx_un (by omega)]
  · rw [iv_upn (by omega), tx_un (by omega), iv_upn (by omega)]
  · rw [iv_upn (by omega), tx_un (by omega)]
  · rw [iv_upn (by omega), iv_upn (by omega), tx_un (by omega)]
  · rw [iv_upn (by omega), tx_un (by omega), iv_upn (by omega)]
  · rw [iv_upn (by omega), iv_upn (by omega)]
