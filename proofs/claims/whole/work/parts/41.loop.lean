/-! the law's loop: each case out of what is shown of its call, then all of them -/
/-- class and reference answer alike, and what holds between calls holds again -/
def iv_Sim (J : Nat → ix_St → Prop) (x m : Nat) (as : List Value) : Prop := ∀ k b σ, k < 512 → J k σ → ∃ v σ1 σ2, ix_F x (.ref 0 :: as) (ix_S0 b, σ) = some (.int v, (ix_S0 b, σ1)) ∧ ix_F m (.ref 135 :: as) (ix_S0 b, σ1) = some (.int v, (ix_S0 b, σ2)) ∧ J (k + 1) σ2
/-- .. of a call that crosses, or thinks of it -/
def iv_SimS (J : Nat → ix_St → Prop) (x m : Nat) (as : List Value) : Prop := ∀ k b σ, k < 512 → J k σ → ∃ v b' σ1 σ2, ix_F x (.ref 0 :: as) (ix_S0 b, σ) = some (.int v, (ix_S0 b', σ1)) ∧ ix_F m (.ref 135 :: as) (ix_S0 b', σ1) = some (.int v, (ix_S0 b', σ2)) ∧ J (k + 1) σ2
theorem iv_bd {i L t : Nat} (ht : t ≤ 5) (h : i + 6 ≤ L) (hL : L ≤ 3072) {x y : Int32} (hx : x = nI L) (hy : y = nI t) : ¬ ((nI i + y) < 0 ∨ x.toNatClampNeg ≤ (nI i + y).toNatClampNeg) := by
  rw [hx, hy, nI_add, nI_clamp (by omega)]
  exact nI_in (by omega) (by omega)
set_option maxRecDepth 100000 in
theorem iv_case_state {J : Nat → ix_St → Prop} {L : Nat} (hL : L ≤ 3072) (hJ : ∀ k σ, J k σ → σ 999 0 = nI L) (hS : ∀ (a0 : Int32), iv_Sim J 2 157 [.int a0]) {k i : Nat} {b : Bool} {σ : ix_St} (hk : k < 512) (hi : i + 6 ≤ L) (h : J k σ) : ∃ b' σ', ix_S 0 37 172 [some (.ref 1000), some (.ref 0), some (.ref 135), some (.int (nI i))] [] (ix_S0 b, σ) = ix_S 0 37 18 [some (.ref 1000), some (.ref 0), some (.ref 135), some (.int (nI (i + 6)))] [] (ix_S0 b', σ') ∧ J (k + 1) σ' := by
  have h9 := hJ k σ h
  have c1 := iv_bd (i := i) (t := 1) (by omega) hi hL h9 (y := 1) rfl
  obtain ⟨v, σ1, σ2, e1, e2, h3⟩ := hS (σ 1000 (nI i + 1).toNatClampNeg) k b σ hk h
  have f9 : σ1 999 = σ 999 := ix_frX rfl (iv_srX (by simp)) e1 999 (by omega)
  have f0 : σ1 1000 = σ 1000 := ix_frX rfl (iv_srX (by simp)) e1 1000 (by omega)
  refine ⟨b, σ2, ?_, h3⟩
  simp only [q_Law0_law_172, if_neg c1, e1, Option.bind_some]
  simp only [f9, f0, if_neg c1, e2, Option.bind_some, ix_toI, if_true, q_Law0_law_1123]
  rw [show (6 : Int32) = nI 6 from rfl, nI_add]
set_option maxRecDepth 100000 in
theorem iv_case_passenger {J : Nat → ix_St → Prop} {L : Nat} (hL : L ≤ 3072) (hJ : ∀ k σ, J k σ → σ 999 0 = nI L) (hS : ∀ (a0 a1 a2 a3 : Int32), a1 = 0 ∨ a1 = 1 → iv_Sim J 3 158 [.int a0, .int a1, .int a2, .int a3]) {k i : Nat} {b : Bool} {σ : ix_St} (hk : k < 512) (hi : i + 6 ≤ L) (h : J k σ) : ∃ b' σ', ix_S 0 37 195 [some (.ref 1000), some (.ref 0), some (.ref 135), some (.int (nI i))] [] (ix_S0 b, σ) = ix_S 0 37 18 [some (.ref 1000), some (.ref 0), some (.ref 135), some (.int (nI (i + 6)))] [] (ix_S0 b', σ') ∧ J (k + 1) σ' := by
  have h9 := hJ k σ h
  have c1 := iv_bd (i := i) (t := 1) (by omega) hi hL h9 (y := 1) rfl
  have c2 := iv_bd (i := i) (t := 2) (by omega) hi hL h9 (y := 2) rfl
  have c3 := iv_bd (i := i) (t := 3) (by omega) hi hL h9 (y := 3) rfl
  have c4 := iv_bd (i := i) (t := 4) (by omega) hi hL h9 (y := 4) rfl
  by_cases hz2 : σ 1000 (nI i + 2).toNatClampNeg = 0
  · obtain ⟨v, σ1, σ2, e1, e2, h3⟩ := hS (σ 1000 (nI i + 1).toNatClampNeg) 0 (σ 1000 (nI i + 3).toNatClampNeg) (σ 1000 (nI i + 4).toNatClampNeg) (Or.inl rfl) k b σ hk h
    have f9 : σ1 999 = σ 999 := ix_frX rfl (iv_srX (by simp)) e1 999 (by omega)
    have f0 : σ1 1000 = σ 1000 := ix_frX rfl (iv_srX (by simp)) e1 1000 (by omega)
    refine ⟨b, σ2, ?_, h3⟩
    simp only [q_Law0_law_195, if_neg c1, if_neg c2, if_neg c3, if_neg c4, if_pos hz2, e1, Option.bind_some]
    simp only [f9, f0, if_neg c1, if_neg c2, if_neg c3, if_neg c4, if_pos hz2, e2, Option.bind_some, ix_toI, if_true, q_Law0_law_1123]
    rw [show (6 : Int32) = nI 6 from rfl, nI_add]
  · obtain ⟨v, σ1, σ2, e1, e2, h3⟩ := hS (σ 1000 (nI i + 1).toNatClampNeg) 1 (σ 1000 (nI i + 3).toNatClampNeg) (σ 1000 (nI i + 4).toNatClampNeg) (Or.inr rfl) k b σ hk h
    have f9 : σ1 999 = σ 999 := ix_frX rfl (iv_srX (by simp)) e1 999 (by omega)
    have f0 : σ1 1000 = σ 1000 := ix_frX rfl (iv_srX (by simp)) e1 1000 (by omega)
    refine ⟨b, σ2, ?_, h3⟩
    simp only [q_Law0_law_195, if_neg c1, if_neg c2, if_neg c3, if_neg c4, if_neg hz2, e1, Option.bind_some]
    simp only [f9, f0, if_neg c1, if_neg c2, if_neg c3, if_neg c4, if_neg hz2, e2, Option.bind_some, ix_toI, if_true, q_Law0_law_1123]
    rw [show (6 : Int32) = nI 6 from rfl, nI_add]
set_option maxRecDepth 100000 in
theorem iv_case_set {J : Nat → ix_St → Prop} {L : Nat} (hL : L ≤ 3072) (hJ : ∀ k σ, J k σ → σ 999 0 = nI L) (hS : ∀ (a0 a1 a2 : Int32), iv_Sim J 4 159 [.int a0, .int a1, .int a2]) {k i : Nat} {b : Bool} {σ : ix_St} (hk : k < 512) (hi : i + 6 ≤ L) (h : J k σ) : ∃ b' σ', ix_S 0 37 264 [some (.ref 1000), some (.ref 0), some (.ref 135), some (.int (nI i))] [] (ix_S0 b, σ) = ix_S 0 37 18 [some (.ref 1000), some (.ref 0), some (.ref 135), some (.int (nI (i + 6)))] [] (ix_S0 b', σ') ∧ J (k + 1) σ' := by
  have h9 := hJ k σ h
  have c1 := iv_bd (i := i) (t := 1) (by omega) hi hL h9 (y := 1) rfl
  have c2 := iv_bd (i := i) (t := 2) (by omega) hi hL h9 (y := 2) rfl
  have c3 := iv_bd (i := i) (t := 3) (by omega) hi hL h9 (y := 3) rfl
  obtain ⟨v, σ1, σ2, e1, e2, h3⟩ := hS (σ 1000 (nI i + 1).toNatClampNeg) (σ 1000 (nI i + 2).toNatClampNeg) (σ 1000 (nI i + 3).toNatClampNeg) k b σ hk h
  have f9 : σ1 999 = σ 999 := ix_frX rfl (iv_srX (by simp)) e1 999 (by omega)
  have f0 : σ1 1000 = σ 1000 := ix_frX rfl (iv_srX (by simp)) e1 1000 (by omega)
  refine ⟨b, σ2, ?_, h3⟩
  simp only [q_Law0_law_264, if_neg c1, if_neg c2, if_neg c3, e1, Option.bind_some]
  simp only [f9, f0, if_neg c1, if_neg c2, if_neg c3, e2, Option.bind_some, ix_toI, if_true, q_Law0_law_1123]
  rw [show (6 : Int32) = nI 6 from rfl, nI_add]
set_option maxRecDepth 100000 in
theorem iv_case_cross {J : Nat → ix_St → Prop} {L : Nat} (hL : L ≤ 3072) (hJ : ∀ k σ, J k σ → σ 999 0 = nI L) (hS : ∀ (a0 : Int32), iv_SimS J 5 160 [.int a0]) {k i : Nat} {b : Bool} {σ : ix_St} (hk : k < 512) (hi : i + 6 ≤ L) (h : J k σ) : ∃ b' σ', ix_S 0 37 307 [some (.ref 1000), some (.ref 0), some (.ref 135), some (.int (nI i))] [] (ix_S0 b, σ) = ix_S 0 37 18 [some (.ref 1000), some (.ref 0), some (.ref 135), some (.int (nI (i + 6)))] [] (ix_S0 b', σ') ∧ J (k + 1) σ' := by
  have h9 := hJ k σ h
  have c1 := iv_bd (i := i) (t := 1) (by omega) hi hL h9 (y := 1) rfl
  obtain ⟨v, b', σ1, σ2, e1, e2, h3⟩ := hS (σ 1000 (nI i + 1).toNatClampNeg) k b σ hk h
  have f9 : σ1 999 = σ 999 := ix_frX rfl (iv_srX (by simp)) e1 999 (by omega)
  have f0 : σ1 1000 = σ 1000 := ix_frX rfl (iv_srX (by simp)) e1 1000 (by omega)
  refine ⟨b', σ2, ?_, h3⟩
  simp only [q_Law0_law_307, if_neg c1, e1, Option.bind_some]
  simp only [q_Law0_law_316, f9, f0, if_neg c1, e2, Option.bind_some, ix_toI, if_true, q_Law0_law_1123]
  rw [show (6 : Int32) = nI 6 from rfl, nI_add]
set_option maxRecDepth 100000 in
theorem iv_case_stay {J : Nat → ix_St → Prop} {L : Nat} (hL : L ≤ 3072) (hJ : ∀ k σ, J k σ → σ 999 0 = nI L) (hS : ∀ (a0 a1 : Int32), a1 = 0 ∨ a1 = 1 → iv_Sim J 6 161 [.int a0, .int a1]) {k i : Nat} {b : Bool} {σ : ix_St} (hk : k < 512) (hi : i + 6 ≤ L) (h : J k σ) : ∃ b' σ', ix_S 0 37 330 [some (.ref 1000), some (.ref 0), some (.ref 135), some (.int (nI i))] [] (ix_S0 b, σ) = ix_S 0 37 18 [some (.ref 1000), some (.ref 0), some (.ref 135), some (.int (nI (i + 6)))] [] (ix_S0 b', σ') ∧ J (k + 1) σ' := by
  have h9 := hJ k σ h
  have c1 := iv_bd (i := i) (t := 1) (by omega) hi hL h9 (y := 1) rfl
  have c2 := iv_bd (i := i) (t := 2) (by omega) hi hL h9 (y := 2) rfl
  by_cases hz2 : σ 1000 (nI i + 2).toNatClampNeg = 0
  · obtain ⟨v, σ1, σ2, e1, e2, h3⟩ := hS (σ 1000 (nI i + 1).toNatClampNeg) 0 (Or.inl rfl) k b σ hk h
    have f9 : σ1 999 = σ 999 := ix_frX rfl (iv_srX (by simp)) e1 999 (by omega)
    have f0 : σ1 1000 = σ 1000 := ix_frX rfl (iv_srX (by simp)) e1 1000 (by omega)
    refine ⟨b, σ2, ?_, h3⟩
    simp only [q_Law0_law_330, if_neg c1, if_neg c2, if_pos hz2, e1, Option.bind_some]
    simp only [f9, f0, if_neg c1, if_neg c2, if_pos hz2, e2, Option.bind_some, ix_toI, if_true, q_Law0_law_1123]
    rw [show (6 : Int32) = nI 6 from rfl, nI_add]
  · obtain ⟨v, σ1, σ2, e1, e2, h3⟩ := hS (σ 1000 (nI i + 1).toNatClampNeg) 1 (Or.inr rfl) k b σ hk h
    have f9 : σ1 999 = σ 999 := ix_frX rfl (iv_srX (by simp)) e1 999 (by omega)
    have f0 : σ1 1000 = σ 1000 := ix_frX rfl (iv_srX (by simp)) e1 1000 (by omega)
    refine ⟨b, σ2, ?_, h3⟩
    simp only [q_Law0_law_330, if_neg c1, if_neg c2, if_neg hz2, e1, Option.bind_some]
    simp only [f9, f0, if_neg c1, if_neg c2, if_neg hz2, e2, Option.bind_some, ix_toI, if_true, q_Law0_law_1123]
    rw [show (6 : Int32) = nI 6 from rfl, nI_add]
set_option maxRecDepth 100000 in
theorem iv_case_log {J : Nat → ix_St → Prop} {L : Nat} (hL : L ≤ 3072) (hJ : ∀ k σ, J k σ → σ 999 0 = nI L) (hS : iv_SimS J 7 162 []) {k i : Nat} {b : Bool} {σ : ix_St} (hk : k < 512) (hi : i + 6 ≤ L) (h : J k σ) : ∃ b' σ', ix_S 0 37 379 [some (.ref 1000), some (.ref 0), some (.ref 135), some (.int (nI i))] [] (ix_S0 b, σ) = ix_S 0 37 18 [some (.ref 1000), some (.ref 0), some (.ref 135), some (.int (nI (i + 6)))] [] (ix_S0 b', σ') ∧ J (k + 1) σ' := by
  have h9 := hJ k σ h
  obtain ⟨v, b', σ1, σ2, e1, e2, h3⟩ := hS k b σ hk h
  have f9 : σ1 999 = σ 999 := ix_frX rfl (iv_srX (by simp)) e1 999 (by omega)
  have f0 : σ1 1000 = σ 1000 := ix_frX rfl (iv_srX (by simp)) e1 1000 (by omega)
  refine ⟨b', σ2, ?_, h3⟩
  simp only [q_Law0_law_379, e1, Option.bind_some]
  simp only [q_Law0_law_383, f9, f0, e2, Option.bind_some, ix_toI, if_true, q_Law0_law_1123]
  rw [show (6 : Int32) = nI 6 from rfl, nI_add]
set_option maxRecDepth 100000 in
theorem iv_case_feed {J : Nat → ix_St → Prop} {L : Nat} (hL : L ≤ 3072) (hJ : ∀ k σ, J k σ → σ 999 0 = nI L) (hS : ∀ (a0 a1 a2 a3 a4 : Int32), iv_Sim J 8 163 [.int a0, .int a1, .int a2, .int a3, .int a4]) {k i : Nat} {b : Bool} {σ : ix_St} (hk : k < 512) (hi : i + 6 ≤ L) (h : J k σ) : ∃ b' σ', ix_S 0 37 392 [some (.ref 1000), some (.ref 0), some (.ref 135), some (.int (nI i))] [] (ix_S0 b, σ) = ix_S 0 37 18 [some (.ref 1000), some (.ref 0), some (.ref 135), some (.int (nI (i + 6)))] [] (ix_S0 b', σ') ∧ J (k + 1) σ' := by
  have h9 := hJ k σ h
  have c1 := iv_bd (i := i) (t := 1) (by omega) hi hL h9 (y := 1) rfl
  have c2 := iv_bd (i := i) (t := 2) (by omega) hi hL h9 (y := 2) rfl
  have c3 := iv_bd (i := i) (t := 3) (by omega) hi hL h9 (y := 3) rfl
  have c4 := iv_bd (i := i) (t := 4) (by omega) hi hL h9 (y := 4) rfl
  have c5 := iv_bd (i := i) (t := 5) (by omega) hi hL h9 (y := 5) rfl
  obtain ⟨v, σ1, σ2, e1, e2, h3⟩ := hS (σ 1000 (nI i + 1).toNatClampNeg) (σ 1000 (nI i + 2).toNatClampNeg) (σ 1000 (nI i + 3).toNatClampNeg) (σ 1000 (nI i + 4).toNatClampNeg) (σ 1000 (nI i + 5).toNatClampNeg) k b σ hk h
  have f9 : σ1 999 = σ 999 := ix_frX rfl (iv_srX (by simp)) e1 999 (by omega)
  have f0 : σ1 1000 = σ 1000 := ix_frX rfl (iv_srX (by simp)) e1 1000 (by omega)
  refine ⟨b, σ2, ?_, h3⟩
  simp only [q_Law0_law_392, if_neg c1, if_neg c2, if_neg c3, if_neg c4, if_neg c5, e1, Option.bind_some]
  simp only [f9, f0, if_neg c1, if_neg c2, if_neg c3, if_neg c4, if_neg c5, e2, Option.bind_some, ix_toI, if_true, q_Law0_law_1123]
  rw [show (6 : Int32) = nI 6 from rfl, nI_add]
set_option maxRecDepth 100000 in
theorem iv_case_end {J : Nat → ix_St → Prop} {L : Nat} (hL : L ≤ 3072) (hJ : ∀ k σ, J k σ → σ 999 0 = nI L) (hS : ∀ (a0 : Int32), iv_Sim J 9 164 [.int a0]) {k i : Nat} {b : Bool} {σ : ix_St} (hk : k < 512) (hi : i + 6 ≤ L) (h : J k σ) : ∃ b' σ', ix_S 0 37 455 [some (.ref 1000), some (.ref 0), some (.ref 135), some (.int (nI i))] [] (ix_S0 b, σ) = ix_S 0 37 18 [some (.ref 1000), some (.ref 0), some (.ref 135), some (.int (nI (i + 6)))] [] (ix_S0 b', σ') ∧ J (k + 1) σ' := by
  have h9 := hJ k σ h
  have c1 := iv_bd (i := i) (t := 1) (by omega) hi hL h9 (y := 1) rfl
  obtain ⟨v, σ1, σ2, e1, e2, h3⟩ := hS (σ 1000 (nI i + 1).toNatClampNeg) k b σ hk h
  have f9 : σ1 999 = σ 999 := ix_frX rfl (iv_srX (by simp)) e1 999 (by omega)
  have f0 : σ1 1000 = σ 1000 := ix_frX rfl (iv_srX (by simp)) e1 1000 (by omega)
  refine ⟨b, σ2, ?_, h3⟩
  simp only [q_Law0_law_455, if_neg c1, e1, Option.bind_some]
  simp only [f9, f0, if_neg c1, e2, Option.bind_some, ix_toI, if_true, q_Law0_law_1123]
  rw [show (6 : Int32) = nI 6 from rfl, nI_add]
set_option maxRecDepth 100000 in
theorem iv_case_text {J : Nat → ix_St → Prop} {L : Nat} (hL : L ≤ 3072) (hJ : ∀ k σ, J k σ → σ 999 0 = nI L) (hS : ∀ (a0 : Int32), iv_Sim J 10 165 [.int a0]) {k i : Nat} {b : Bool} {σ : ix_St} (hk : k < 512) (hi : i + 6 ≤ L) (h : J k σ) : ∃ b' σ', ix_S 0 37 478 [some (.ref 1000), some (.ref 0), some (.ref 135), some (.int (nI i))] [] (ix_S0 b, σ) = ix_S 0 37 18 [some (.ref 1000), some (.ref 0), some (.ref 135), some (.int (nI (i + 6)))] [] (ix_S0 b', σ') ∧ J (k + 1) σ' := by
  have h9 := hJ k σ h
  have c1 := iv_bd (i := i) (t := 1) (by omega) hi hL h9 (y := 1) rfl
  obtain ⟨v, σ1, σ2, e1, e2, h3⟩ := hS (σ 1000 (nI i + 1).toNatClampNeg) k b σ hk h
  have f9 : σ1 999 = σ 999 := ix_frX rfl (iv_srX (by simp)) e1 999 (by omega)
  have f0 : σ1 1000 = σ 1000 := ix_frX rfl (iv_srX (by simp)) e1 1000 (by omega)
  refine ⟨b, σ2, ?_, h3⟩
  simp only [q_Law0_law_478, if_neg c1, e1, Option.bind_some]
  simp only [f9, f0, if_neg c1, e2, Option.bind_some, ix_toI, if_true, q_Law0_law_1123]
  rw [show (6 : Int32) = nI 6 from rfl, nI_add]
set_option maxRecDepth 100000 in
theorem iv_case_fault {J : Nat → ix_St → Prop} {L : Nat} (hL : L ≤ 3072) (hJ : ∀ k σ, J k σ → σ 999 0 = nI L) (hS : ∀ (a0 : Int32), iv_Sim J 11 166 [.int a0]) {k i : Nat} {b : Bool} {σ : ix_St} (hk : k < 512) (hi : i + 6 ≤ L) (h : J k σ) : ∃ b' σ', ix_S 0 37 501 [some (.ref 1000), some (.ref 0), some (.ref 135), some (.int (nI i))] [] (ix_S0 b, σ) = ix_S 0 37 18 [some (.ref 1000), some (.ref 0), some (.ref 135), some (.int (nI (i + 6)))] [] (ix_S0 b', σ') ∧ J (k + 1) σ' := by
  have h9 := hJ k σ h
  have c1 := iv_bd (i := i) (t := 1) (by omega) hi hL h9 (y := 1) rfl
  obtain ⟨v, σ1, σ2, e1, e2, h3⟩ := hS (σ 1000 (nI i + 1).toNatClampNeg) k b σ hk h
  have f9 : σ1 999 = σ 999 := ix_frX rfl (iv_srX (by simp)) e1 999 (by omega)
  have f0 : σ1 1000 = σ 1000 := ix_frX rfl (iv_srX (by simp)) e1 1000 (by omega)
  refine ⟨b, σ2, ?_, h3⟩
  simp only [q_Law0_law_501, if_neg c1, e1, Option.bind_some]
  simp only [f9, f0, if_neg c1, e2, Option.bind_some, ix_toI, if_true, q_Law0_law_1123]
  rw [show (6 : Int32) = nI 6 from rfl, nI_add]
set_option maxRecDepth 100000 in
theorem iv_case_of {J : Nat → ix_St → Prop} {L : Nat} (hL : L ≤ 3072) (hJ : ∀ k σ, J k σ → σ 999 0 = nI L) (hS : ∀ (a0 a1 : Int32), iv_Sim J 12 167 [.int a0, .int a1]) {k i : Nat} {b : Bool} {σ : ix_St} (hk : k < 512) (hi : i + 6 ≤ L) (h : J k σ) : ∃ b' σ', ix_S 0 37 524 [some (.ref 1000), some (.ref 0), some (.ref 135), some (.int (nI i))] [] (ix_S0 b, σ) = ix_S 0 37 18 [some (.ref 1000), some (.ref 0), some (.ref 135), some (.int (nI (i + 6)))] [] (ix_S0 b', σ') ∧ J (k + 1) σ' := by
  have h9 := hJ k σ h
  have c1 := iv_bd (i := i) (t := 1) (by omega) hi hL h9 (y := 1) rfl
  have c2 := iv_bd (i := i) (t := 2) (by omega) hi hL h9 (y := 2) rfl
  obtain ⟨v, σ1, σ2, e1, e2, h3⟩ := hS (σ 1000 (nI i + 1).toNatClampNeg) (σ 1000 (nI i + 2).toNatClampNeg) k b σ hk h
  have f9 : σ1 999 = σ 999 := ix_frX rfl (iv_srX (by simp)) e1 999 (by omega)
  have f0 : σ1 1000 = σ 1000 := ix_frX rfl (iv_srX (by simp)) e1 1000 (by omega)
  refine ⟨b, σ2, ?_, h3⟩
  simp only [q_Law0_law_524, if_neg c1, if_neg c2, e1, Option.bind_some]
  simp only [f9, f0, if_neg c1, if_neg c2, e2, Option.bind_some, ix_toI, if_true, q_Law0_law_1123]
  rw [show (6 : Int32) = nI 6 from rfl, nI_add]
set_option maxRecDepth 100000 in
theorem iv_case_sway {J : Nat → ix_St → Prop} {L : Nat} (hL : L ≤ 3072) (hJ : ∀ k σ, J k σ → σ 999 0 = nI L) (hS : ∀ (a0 a1 : Int32), iv_Sim J 13 168 [.int a0, .int a1]) {k i : Nat} {b : Bool} {σ : ix_St} (hk : k < 512) (hi : i + 6 ≤ L) (h : J k σ) : ∃ b' σ', ix_S 0 37 557 [some (.ref 1000), some (.ref 0), some (.ref 135), some (.int (nI i))] [] (ix_S0 b, σ) = ix_S 0 37 18 [some (.ref 1000), some (.ref 0), some (.ref 135), some (.int (nI (i + 6)))] [] (ix_S0 b', σ') ∧ J (k + 1) σ' := by
  have h9 := hJ k σ h
  have c1 := iv_bd (i := i) (t := 1) (by omega) hi hL h9 (y := 1) rfl
  have c2 := iv_bd (i := i) (t := 2) (by omega) hi hL h9 (y := 2) rfl
  obtain ⟨v, σ1, σ2, e1, e2, h3⟩ := hS (σ 1000 (nI i + 1).toNatClampNeg) (σ 1000 (nI i + 2).toNatClampNeg) k b σ hk h
  have f9 : σ1 999 = σ 999 := ix_frX rfl (iv_srX (by simp)) e1 999 (by omega)
  have f0 : σ1 1000 = σ 1000 := ix_frX rfl (iv_srX (by simp)) e1 1000 (by omega)
  refine ⟨b, σ2, ?_, h3⟩
  simp only [q_Law0_law_557, if_neg c1, if_neg c2, e1, Option.bind_some]
  simp only [f9, f0, if_neg c1, if_neg c2, e2, Option.bind_some, ix_toI, if_true, q_Law0_law_1123]
  rw [show (6 : Int32) = nI 6 from rfl, nI_add]
set_option maxRecDepth 100000 in
theorem iv_case_season {J : Nat → ix_St → Prop} {L : Nat} (hL : L ≤ 3072) (hJ : ∀ k σ, J k σ → σ 999 0 = nI L) (hS : ∀ (a0 a1 : Int32), iv_Sim J 14 169 [.int a0, .int a1]) {k i : Nat} {b : Bool} {σ : ix_St} (hk : k < 512) (hi : i + 6 ≤ L) (h : J k σ) : ∃ b' σ', ix_S 0 37 590 [some (.ref 1000), some (.ref 0), some (.ref 135), some (.int (nI i))] [] (ix_S0 b, σ) = ix_S 0 37 18 [some (.ref 1000), some (.ref 0), some (.ref 135), some (.int (nI (i + 6)))] [] (ix_S0 b', σ') ∧ J (k + 1) σ' := by
  have h9 := hJ k σ h
  have c1 := iv_bd (i := i) (t := 1) (by omega) hi hL h9 (y := 1) rfl
  have c2 := iv_bd (i := i) (t := 2) (by omega) hi hL h9 (y := 2) rfl
  obtain ⟨v, σ1, σ2, e1, e2, h3⟩ := hS (σ 1000 (nI i + 1).toNatClampNeg) (σ 1000 (nI i + 2).toNatClampNeg) k b σ hk h
  have f9 : σ1 999 = σ 999 := ix_frX rfl (iv_srX (by simp)) e1 999 (by omega)
  have f0 : σ1 1000 = σ 1000 := ix_frX rfl (iv_srX (by simp)) e1 1000 (by omega)
  refine ⟨b, σ2, ?_, h3⟩
  simp only [q_Law0_law_590, if_neg c1, if_neg c2, e1, Option.bind_some]
  simp only [f9, f0, if_neg c1, if_neg c2, e2, Option.bind_some, ix_toI, if_true, q_Law0_law_1123]
  rw [show (6 : Int32) = nI 6 from rfl, nI_add]
set_option maxRecDepth 100000 in
theorem iv_case_book {J : Nat → ix_St → Prop} {L : Nat} (hL : L ≤ 3072) (hJ : ∀ k σ, J k σ → σ 999 0 = nI L) (hS : ∀ (a0 a1 : Int32), iv_Sim J 15 170 [.int a0, .int a1]) {k i : Nat} {b : Bool} {σ : ix_St} (hk : k < 512) (hi : i + 6 ≤ L) (h : J k σ) : ∃ b' σ', ix_S 0 37 623 [some (.ref 1000), some (.ref 0), some (.ref 135), some (.int (nI i))] [] (ix_S0 b, σ) = ix_S 0 37 18 [some (.ref 1000), some (.ref 0), some (.ref 135), some (.int (nI (i + 6)))] [] (ix_S0 b', σ') ∧ J (k + 1) σ' := by
  have h9 := hJ k σ h
  have c1 := iv_bd (i := i) (t := 1) (by omega) hi hL h9 (y := 1) rfl
  have c2 := iv_bd (i := i) (t := 2) (by omega) hi hL h9 (y := 2) rfl
  obtain ⟨v, σ1, σ2, e1, e2, h3⟩ := hS (σ 1000 (nI i + 1).toNatClampNeg) (σ 1000 (nI i + 2).toNatClampNeg) k b σ hk h
  have f9 : σ1 999 = σ 999 := ix_frX rfl (iv_srX (by simp)) e1 999 (by omega)
  have f0 : σ1 1000 = σ 1000 := ix_frX rfl (iv_srX (by simp)) e1 1000 (by omega)
  refine ⟨b, σ2, ?_, h3⟩
  simp only [q_Law0_law_623, if_neg c1, if_neg c2, e1, Option.bind_some]
  simp only [f9, f0, if_neg c1, if_neg c2, e2, Option.bind_some, ix_toI, if_true, q_Law0_law_1123]
  rw [show (6 : Int32) = nI 6 from rfl, nI_add]
set_option maxRecDepth 100000 in
theorem iv_case_would {J : Nat → ix_St → Prop} {L : Nat} (hL : L ≤ 3072) (hJ : ∀ k σ, J k σ → σ 999 0 = nI L) (hS : ∀ (a0 a1 : Int32), iv_SimS J 16 171 [.int a0, .int a1]) {k i : Nat} {b : Bool} {σ : ix_St} (hk : k < 512) (hi : i + 6 ≤ L) (h : J k σ) : ∃ b' σ', ix_S 0 37 656 [some (.ref 1000), some (.ref 0), some (.ref 135), some (.int (nI i))] [] (ix_S0 b, σ) = ix_S 0 37 18 [some (.ref 1000), some (.ref 0), some (.ref 135), some (.int (nI (i + 6)))] [] (ix_S0 b', σ') ∧ J (k + 1) σ' := by
  have h9 := hJ k σ h
  have c1 := iv_bd (i := i) (t := 1) (by omega) hi hL h9 (y := 1) rfl
  have c2 := iv_bd (i := i) (t := 2) (by omega) hi hL h9 (y := 2) rfl
  obtain ⟨v, b', σ1, σ2, e1, e2, h3⟩ := hS (σ 1000 (nI i + 1).toNatClampNeg) (σ 1000 (nI i + 2).toNatClampNeg) k b σ hk h
  have f9 : σ1 999 = σ 999 := ix_frX rfl (iv_srX (by simp)) e1 999 (by omega)
  have f0 : σ1 1000 = σ 1000 := ix_frX rfl (iv_srX (by simp)) e1 1000 (by omega)
  refine ⟨b', σ2, ?_, h3⟩
  simp only [q_Law0_law_656, if_neg c1, if_neg c2, e1, Option.bind_some]
  simp only [q_Law0_law_670, f9, f0, if_neg c1, if_neg c2, e2, Option.bind_some, ix_toI, if_true, q_Law0_law_1123]
  rw [show (6 : Int32) = nI 6 from rfl, nI_add]
set_option maxRecDepth 100000 in
theorem iv_case_makes {J : Nat → ix_St → Prop} {L : Nat} (hL : L ≤ 3072) (hJ : ∀ k σ, J k σ → σ 999 0 = nI L) (hS : ∀ (a0 a1 : Int32), iv_Sim J 17 172 [.int a0, .int a1]) {k i : Nat} {b : Bool} {σ : ix_St} (hk : k < 512) (hi : i + 6 ≤ L) (h : J k σ) : ∃ b' σ', ix_S 0 37 689 [some (.ref 1000), some (.ref 0), some (.ref 135), some (.int (nI i))] [] (ix_S0 b, σ) = ix_S 0 37 18 [some (.ref 1000), some (.ref 0), some (.ref 135), some (.int (nI (i + 6)))] [] (ix_S0 b', σ') ∧ J (k + 1) σ' := by
  have h9 := hJ k σ h
  have c1 := iv_bd (i := i) (t := 1) (by omega) hi hL h9 (y := 1) rfl
  have c2 := iv_bd (i := i) (t := 2) (by omega) hi hL h9 (y := 2) rfl
  obtain ⟨v, σ1, σ2, e1, e2, h3⟩ := hS (σ 1000 (nI i + 1).toNatClampNeg) (σ 1000 (nI i + 2).toNatClampNeg) k b σ hk h
  have f9 : σ1 999 = σ 999 := ix_frX rfl (iv_srX (by simp)) e1 999 (by omega)
  have f0 : σ1 1000 = σ 1000 := ix_frX rfl (iv_srX (by simp)) e1 1000 (by omega)
  refine ⟨b, σ2, ?_, h3⟩
  simp only [q_Law0_law_689, if_neg c1, if_neg c2, e1, Option.bind_some]
  simp only [f9, f0, if_neg c1, if_neg c2, e2, Option.bind_some, ix_toI, if_true, q_Law0_law_1123]
  rw [show (6 : Int32) = nI 6 from rfl, nI_add]
set_option maxRecDepth 100000 in
theorem iv_case_pivots {J : Nat → ix_St → Prop} {L : Nat} (hL : L ≤ 3072) (hJ : ∀ k σ, J k σ → σ 999 0 = nI L) (hS : ∀ (a0 : Int32), iv_Sim J 18 173 [.int a0]) {k i : Nat} {b : Bool} {σ : ix_St} (hk : k < 512) (hi : i + 6 ≤ L) (h : J k σ) : ∃ b' σ', ix_S 0 37 722 [some (.ref 1000), some (.ref 0), some (.ref 135), some (.int (nI i))] [] (ix_S0 b, σ) = ix_S 0 37 18 [some (.ref 1000), some (.ref 0), some (.ref 135), some (.int (nI (i + 6)))] [] (ix_S0 b', σ') ∧ J (k + 1) σ' := by
  have h9 := hJ k σ h
  have c1 := iv_bd (i := i) (t := 1) (by omega) hi hL h9 (y := 1) rfl
  obtain ⟨v, σ1, σ2, e1, e2, h3⟩ := hS (σ 1000 (nI i + 1).toNatClampNeg) k b σ hk h
  have f9 : σ1 999 = σ 999 := ix_frX rfl (iv_srX (by simp)) e1 999 (by omega)
  have f0 : σ1 1000 = σ 1000 := ix_frX rfl (iv_srX (by simp)) e1 1000 (by omega)
  refine ⟨b, σ2, ?_, h3⟩
  simp only [q_Law0_law_722, if_neg c1, e1, Option.bind_some]
  simp only [f9, f0, if_neg c1, e2, Option.bind_some, ix_toI, if_true, q_Law0_law_1123]
  rw [show (6 : Int32) = nI 6 from rfl, nI_add]
set_option maxRecDepth 100000 in
theorem iv_case_beats {J : Nat → ix_St → Prop} {L : Nat} (hL : L ≤ 3072) (hJ : ∀ k σ, J k σ → σ 999 0 = nI L) (hS : ∀ (a0 a1 : Int32), iv_Sim J 19 174 [.int a0, .int a1]) {k i : Nat} {b : Bool} {σ : ix_St} (hk : k < 512) (hi : i + 6 ≤ L) (h : J k σ) : ∃ b' σ', ix_S 0 37 745 [some (.ref 1000), some (.ref 0), some (.ref 135), some (.int (nI i))] [] (ix_S0 b, σ) = ix_S 0 37 18 [some (.ref 1000), some (.ref 0), some (.ref 135), some (.int (nI (i + 6)))] [] (ix_S0 b', σ') ∧ J (k + 1) σ' := by
  have h9 := hJ k σ h
  have c1 := iv_bd (i := i) (t := 1) (by omega) hi hL h9 (y := 1) rfl
  have c2 := iv_bd (i := i) (t := 2) (by omega) hi hL h9 (y := 2) rfl
  obtain ⟨v, σ1, σ2, e1, e2, h3⟩ := hS (σ 1000 (nI i + 1).toNatClampNeg) (σ 1000 (nI i + 2).toNatClampNeg) k b σ hk h
  have f9 : σ1 999 = σ 999 := ix_frX rfl (iv_srX (by simp)) e1 999 (by omega)
  have f0 : σ1 1000 = σ 1000 := ix_frX rfl (iv_srX (by simp)) e1 1000 (by omega)
  refine ⟨b, σ2, ?_, h3⟩
  simp only [q_Law0_law_745, if_neg c1, if_neg c2, e1, Option.bind_some]
  simp only [f9, f0, if_neg c1, if_neg c2, e2, Option.bind_some, ix_toI, if_true, q_Law0_law_1123]
  rw [show (6 : Int32) = nI 6 from rfl, nI_add]
set_option maxRecDepth 100000 in
theorem iv_case_wins {J : Nat → ix_St → Prop} {L : Nat} (hL : L ≤ 3072) (hJ : ∀ k σ, J k σ → σ 999 0 = nI L) (hS : ∀ (a0 : Int32), iv_Sim J 20 175 [.int a0]) {k i : Nat} {b : Bool} {σ : ix_St} (hk : k < 512) (hi : i + 6 ≤ L) (h : J k σ) : ∃ b' σ', ix_S 0 37 778 [some (.ref 1000), some (.ref 0), some (.ref 135), some (.int (nI i))] [] (ix_S0 b, σ) = ix_S 0 37 18 [some (.ref 1000), some (.ref 0), some (.ref 135), some (.int (nI (i + 6)))] [] (ix_S0 b', σ') ∧ J (k + 1) σ' := by
  have h9 := hJ k σ h
  have c1 := iv_bd (i := i) (t := 1) (by omega) hi hL h9 (y := 1) rfl
  obtain ⟨v, σ1, σ2, e1, e2, h3⟩ := hS (σ 1000 (nI i + 1).toNatClampNeg) k b σ hk h
  have f9 : σ1 999 = σ 999 := ix_frX rfl (iv_srX (by simp)) e1 999 (by omega)
  have f0 : σ1 1000 = σ 1000 := ix_frX rfl (iv_srX (by simp)) e1 1000 (by omega)
  refine ⟨b, σ2, ?_, h3⟩
  simp only [q_Law0_law_778, if_neg c1, e1, Option.bind_some]
  simp only [f9, f0, if_neg c1, e2, Option.bind_some, ix_toI, if_true, q_Law0_law_1123]
  rw [show (6 : Int32) = nI 6 from rfl, nI_add]
set_option maxRecDepth 100000 in
theorem iv_case_boats {J : Nat → ix_St → Prop} {L : Nat} (hL : L ≤ 3072) (hJ : ∀ k σ, J k σ → σ 999 0 = nI L) (hS : ∀ (a0 a1 : Int32), iv_Sim J 21 176 [.int a0, .int a1]) {k i : Nat} {b : Bool} {σ : ix_St} (hk : k < 512) (hi : i + 6 ≤ L) (h : J k σ) : ∃ b' σ', ix_S 0 37 801 [some (.ref 1000), some (.ref 0), some (.ref 135), some (.int (nI i))] [] (ix_S0 b, σ) = ix_S 0 37 18 [some (.ref 1000), some (.ref 0), some (.ref 135), some (.int (nI (i + 6)))] [] (ix_S0 b', σ') ∧ J (k + 1) σ' := by
  have h9 := hJ k σ h
  have c1 := iv_bd (i := i) (t := 1) (by omega) hi hL h9 (y := 1) rfl
  have c2 := iv_bd (i := i) (t := 2) (by omega) hi hL h9 (y := 2) rfl
  obtain ⟨v, σ1, σ2, e1, e2, h3⟩ := hS (σ 1000 (nI i + 1).toNatClampNeg) (σ 1000 (nI i + 2).toNatClampNeg) k b σ hk h
  have f9 : σ1 999 = σ 999 := ix_frX rfl (iv_srX (by simp)) e1 999 (by omega)
  have f0 : σ1 1000 = σ 1000 := ix_frX rfl (iv_srX (by simp)) e1 1000 (by omega)
  refine ⟨b, σ2, ?_, h3⟩
  simp only [q_Law0_law_801, if_neg c1, if_neg c2, e1, Option.bind_some]
  simp only [f9, f0, if_neg c1, if_neg c2, e2, Option.bind_some, ix_toI, if_true, q_Law0_law_1123]
  rw [show (6 : Int32) = nI 6 from rfl, nI_add]
set_option maxRecDepth 100000 in
theorem iv_case_reaches {J : Nat → ix_St → Prop} {L : Nat} (hL : L ≤ 3072) (hJ : ∀ k σ, J k σ → σ 999 0 = nI L) (hS : ∀ (a0 : Int32), iv_Sim J 22 177 [.int a0]) {k i : Nat} {b : Bool} {σ : ix_St} (hk : k < 512) (hi : i + 6 ≤ L) (h : J k σ) : ∃ b' σ', ix_S 0 37 834 [some (.ref 1000), some (.ref 0), some (.ref 135), some (.int (nI i))] [] (ix_S0 b, σ) = ix_S 0 37 18 [some (.ref 1000), some (.ref 0), some (.ref 135), some (.int (nI (i + 6)))] [] (ix_S0 b', σ') ∧ J (k + 1) σ' := by
  have h9 := hJ k σ h
  have c1 := iv_bd (i := i) (t := 1) (by omega) hi hL h9 (y := 1) rfl
  obtain ⟨v, σ1, σ2, e1, e2, h3⟩ := hS (σ 1000 (nI i + 1).toNatClampNeg) k b σ hk h
  have f9 : σ1 999 = σ 999 := ix_frX rfl (iv_srX (by simp)) e1 999 (by omega)
  have f0 : σ1 1000 = σ 1000 := ix_frX rfl (iv_srX (by simp)) e1 1000 (by omega)
  refine ⟨b, σ2, ?_, h3⟩
  simp only [q_Law0_law_834, if_neg c1, e1, Option.bind_some]
  simp only [f9, f0, if_neg c1, e2, Option.bind_some, ix_toI, if_true, q_Law0_law_1123]
  rw [show (6 : Int32) = nI 6 from rfl, nI_add]
set_option maxRecDepth 100000 in
theorem iv_case_alike {J : Nat → ix_St → Prop} {L : Nat} (hL : L ≤ 3072) (hJ : ∀ k σ, J k σ → σ 999 0 = nI L) (hS : ∀ (a0 a1 : Int32), iv_Sim J 23 178 [.int a0, .int a1]) {k i : Nat} {b : Bool} {σ : ix_St} (hk : k < 512) (hi : i + 6 ≤ L) (h : J k σ) : ∃ b' σ', ix_S 0 37 857 [some (.ref 1000), some (.ref 0), some (.ref 135), some (.int (nI i))] [] (ix_S0 b, σ) = ix_S 0 37 18 [some (.ref 1000), some (.ref 0), some (.ref 135), some (.int (nI (i + 6)))] [] (ix_S0 b', σ') ∧ J (k + 1) σ' := by
  have h9 := hJ k σ h
  have c1 := iv_bd (i := i) (t := 1) (by omega) hi hL h9 (y := 1) rfl
  have c2 := iv_bd (i := i) (t := 2) (by omega) hi hL h9 (y := 2) rfl
  obtain ⟨v, σ1, σ2, e1, e2, h3⟩ := hS (σ 1000 (nI i + 1).toNatClampNeg) (σ 1000 (nI i + 2).toNatClampNeg) k b σ hk h
  have f9 : σ1 999 = σ 999 := ix_frX rfl (iv_srX (by simp)) e1 999 (by omega)
  have f0 : σ1 1000 = σ 1000 := ix_frX rfl (iv_srX (by simp)) e1 1000 (by omega)
  refine ⟨b, σ2, ?_, h3⟩
  simp only [q_Law0_law_857, if_neg c1, if_neg c2, e1, Option.bind_some]
  simp only [f9, f0, if_neg c1, if_neg c2, e2, Option.bind_some, ix_toI, if_true, q_Law0_law_1123]
  rw [show (6 : Int32) = nI 6 from rfl, nI_add]
set_option maxRecDepth 100000 in
theorem iv_case_middle {J : Nat → ix_St → Prop} {L : Nat} (hL : L ≤ 3072) (hJ : ∀ k σ, J k σ → σ 999 0 = nI L) (hS : ∀ (a0 : Int32), iv_Sim J 24 179 [.int a0]) {k i : Nat} {b : Bool} {σ : ix_St} (hk : k < 512) (hi : i + 6 ≤ L) (h : J k σ) : ∃ b' σ', ix_S 0 37 890 [some (.ref 1000), some (.ref 0), some (.ref 135), some (.int (nI i))] [] (ix_S0 b, σ) = ix_S 0 37 18 [some (.ref 1000), some (.ref 0), some (.ref 135), some (.int (nI (i + 6)))] [] (ix_S0 b', σ') ∧ J (k + 1) σ' := by
  have h9 := hJ k σ h
  have c1 := iv_bd (i := i) (t := 1) (by omega) hi hL h9 (y := 1) rfl
  obtain ⟨v, σ1, σ2, e1, e2, h3⟩ := hS (σ 1000 (nI i + 1).toNatClampNeg) k b σ hk h
  have f9 : σ1 999 = σ 999 := ix_frX rfl (iv_srX (by simp)) e1 999 (by omega)
  have f0 : σ1 1000 = σ 1000 := ix_frX rfl (iv_srX (by simp)) e1 1000 (by omega)
  refine ⟨b, σ2, ?_, h3⟩
  simp only [q_Law0_law_890, if_neg c1, e1, Option.bind_some]
  simp only [f9, f0, if_neg c1, e2, Option.bind_some, ix_toI, if_true, q_Law0_law_1123]
  rw [show (6 : Int32) = nI 6 from rfl, nI_add]
set_option maxRecDepth 100000 in
theorem iv_case_seen {J : Nat → ix_St → Prop} {L : Nat} (hL : L ≤ 3072) (hJ : ∀ k σ, J k σ → σ 999 0 = nI L) (hS : ∀ (a0 : Int32), iv_Sim J 25 180 [.int a0]) {k i : Nat} {b : Bool} {σ : ix_St} (hk : k < 512) (hi : i + 6 ≤ L) (h : J k σ) : ∃ b' σ', ix_S 0 37 913 [some (.ref 1000), some (.ref 0), some (.ref 135), some (.int (nI i))] [] (ix_S0 b, σ) = ix_S 0 37 18 [some (.ref 1000), some (.ref 0), some (.ref 135), some (.int (nI (i + 6)))] [] (ix_S0 b', σ') ∧ J (k + 1) σ' := by
  have h9 := hJ k σ h
  have c1 := iv_bd (i := i) (t := 1) (by omega) hi hL h9 (y := 1) rfl
  obtain ⟨v, σ1, σ2, e1, e2, h3⟩ := hS (σ 1000 (nI i + 1).toNatClampNeg) k b σ hk h
  have f9 : σ1 999 = σ 999 := ix_frX rfl (iv_srX (by simp)) e1 999 (by omega)
  have f0 : σ1 1000 = σ 1000 := ix_frX rfl (iv_srX (by simp)) e1 1000 (by omega)
  refine ⟨b, σ2, ?_, h3⟩
  simp only [q_Law0_law_913, if_neg c1, e1, Option.bind_some]
  simp only [f9, f0, if_neg c1, e2, Option.bind_some, ix_toI, if_true, q_Law0_law_1123]
  rw [show (6 : Int32) = nI 6 from rfl, nI_add]
set_option maxRecDepth 100000 in
theorem iv_case_began {J : Nat → ix_St → Prop} {L : Nat} (hL : L ≤ 3072) (hJ : ∀ k σ, J k σ → σ 999 0 = nI L) (hS : ∀ (a0 : Int32), iv_Sim J 26 181 [.int a0]) {k i : Nat} {b : Bool} {σ : ix_St} (hk : k < 512) (hi : i + 6 ≤ L) (h : J k σ) : ∃ b' σ', ix_S 0 37 936 [some (.ref 1000), some (.ref 0), some (.ref 135), some (.int (nI i))] [] (ix_S0 b, σ) = ix_S 0 37 18 [some (.ref 1000), some (.ref 0), some (.ref 135), some (.int (nI (i + 6)))] [] (ix_S0 b', σ') ∧ J (k + 1) σ' := by
  have h9 := hJ k σ h
  have c1 := iv_bd (i := i) (t := 1) (by omega) hi hL h9 (y := 1) rfl
  obtain ⟨v, σ1, σ2, e1, e2, h3⟩ := hS (σ 1000 (nI i + 1).toNatClampNeg) k b σ hk h
  have f9 : σ1 999 = σ 999 := ix_frX rfl (iv_srX (by simp)) e1 999 (by omega)
  have f0 : σ1 1000 = σ 1000 := ix_frX rfl (iv_srX (by simp)) e1 1000 (by omega)
  refine ⟨b, σ2, ?_, h3⟩
  simp only [q_Law0_law_936, if_neg c1, e1, Option.bind_some]
  simp only [f9, f0, if_neg c1, e2, Option.bind_some, ix_toI, if_true, q_Law0_law_1123]
  rw [show (6 : Int32) = nI 6 from rfl, nI_add]
set_option maxRecDepth 100000 in
theorem iv_case_bribe {J : Nat → ix_St → Prop} {L : Nat} (hL : L ≤ 3072) (hJ : ∀ k σ, J k σ → σ 999 0 = nI L) (hS : ∀ (a0 a1 : Int32), iv_Sim J 27 182 [.int a0, .int a1]) {k i : Nat} {b : Bool} {σ : ix_St} (hk : k < 512) (hi : i + 6 ≤ L) (h : J k σ) : ∃ b' σ', ix_S 0 37 959 [some (.ref 1000), some (.ref 0), some (.ref 135), some (.int (nI i))] [] (ix_S0 b, σ) = ix_S 0 37 18 [some (.ref 1000), some (.ref 0), some (.ref 135), some (.int (nI (i + 6)))] [] (ix_S0 b', σ') ∧ J (k + 1) σ' := by
  have h9 := hJ k σ h
  have c1 := iv_bd (i := i) (t := 1) (by omega) hi hL h9 (y := 1) rfl
  have c2 := iv_bd (i := i) (t := 2) (by omega) hi hL h9 (y := 2) rfl
  obtain ⟨v, σ1, σ2, e1, e2, h3⟩ := hS (σ 1000 (nI i + 1).toNatClampNeg) (σ 1000 (nI i + 2).toNatClampNeg) k b σ hk h
  have f9 : σ1 999 = σ 999 := ix_frX rfl (iv_srX (by simp)) e1 999 (by omega)
  have f0 : σ1 1000 = σ 1000 := ix_frX rfl (iv_srX (by simp)) e1 1000 (by omega)
  refine ⟨b, σ2, ?_, h3⟩
  simp only [q_Law0_law_959, if_neg c1, if_neg c2, e1, Option.bind_some]
  simp only [f9, f0, if_neg c1, if_neg c2, e2, Option.bind_some, ix_toI, if_true, q_Law0_law_1123]
  rw [show (6 : Int32) = nI 6 from rfl, nI_add]
set_option maxRecDepth 100000 in
theorem iv_case_costs {J : Nat → ix_St → Prop} {L : Nat} (hL : L ≤ 3072) (hJ : ∀ k σ, J k σ → σ 999 0 = nI L) (hS : ∀ (a0 a1 : Int32), iv_Sim J 28 183 [.int a0, .int a1]) {k i : Nat} {b : Bool} {σ : ix_St} (hk : k < 512) (hi : i + 6 ≤ L) (h : J k σ) : ∃ b' σ', ix_S 0 37 992 [some (.ref 1000), some (.ref 0), some (.ref 135), some (.int (nI i))] [] (ix_S0 b, σ) = ix_S 0 37 18 [some (.ref 1000), some (.ref 0), some (.ref 135), some (.int (nI (i + 6)))] [] (ix_S0 b', σ') ∧ J (k + 1) σ' := by
  have h9 := hJ k σ h
  have c1 := iv_bd (i := i) (t := 1) (by omega) hi hL h9 (y := 1) rfl
  have c2 := iv_bd (i := i) (t := 2) (by omega) hi hL h9 (y := 2) rfl
  obtain ⟨v, σ1, σ2, e1, e2, h3⟩ := hS (σ 1000 (nI i + 1).toNatClampNeg) (σ 1000 (nI i + 2).toNatClampNeg) k b σ hk h
  have f9 : σ1 999 = σ 999 := ix_frX rfl (iv_srX (by simp)) e1 999 (by omega)
  have f0 : σ1 1000 = σ 1000 := ix_frX rfl (iv_srX (by simp)) e1 1000 (by omega)
  refine ⟨b, σ2, ?_, h3⟩
  simp only [q_Law0_law_992, if_neg c1, if_neg c2, e1, Option.bind_some]
  simp only [f9, f0, if_neg c1, if_neg c2, e2, Option.bind_some, ix_toI, if_true, q_Law0_law_1123]
  rw [show (6 : Int32) = nI 6 from rfl, nI_add]
set_option maxRecDepth 100000 in
theorem iv_case_game {J : Nat → ix_St → Prop} {L : Nat} (hL : L ≤ 3072) (hJ : ∀ k σ, J k σ → σ 999 0 = nI L) (hS : ∀ (a0 : Int32), iv_Sim J 29 184 [.int a0]) {k i : Nat} {b : Bool} {σ : ix_St} (hk : k < 512) (hi : i + 6 ≤ L) (h : J k σ) : ∃ b' σ', ix_S 0 37 1025 [some (.ref 1000), some (.ref 0), some (.ref 135), some (.int (nI i))] [] (ix_S0 b, σ) = ix_S 0 37 18 [some (.ref 1000), some (.ref 0), some (.ref 135), some (.int (nI (i + 6)))] [] (ix_S0 b', σ') ∧ J (k + 1) σ' := by
  have h9 := hJ k σ h
  have c1 := iv_bd (i := i) (t := 1) (by omega) hi hL h9 (y := 1) rfl
  obtain ⟨v, σ1, σ2, e1, e2, h3⟩ := hS (σ 1000 (nI i + 1).toNatClampNeg) k b σ hk h
  have f9 : σ1 999 = σ 999 := ix_frX rfl (iv_srX (by simp)) e1 999 (by omega)
  have f0 : σ1 1000 = σ 1000 := ix_frX rfl (iv_srX (by simp)) e1 1000 (by omega)
  refine ⟨b, σ2, ?_, h3⟩
  simp only [q_Law0_law_1025, if_neg c1, e1, Option.bind_some]
  simp only [f9, f0, if_neg c1, e2, Option.bind_some, ix_toI, if_true, q_Law0_law_1123]
  rw [show (6 : Int32) = nI 6 from rfl, nI_add]
set_option maxRecDepth 100000 in
theorem iv_case_undo {J : Nat → ix_St → Prop} {L : Nat} (hL : L ≤ 3072) (hJ : ∀ k σ, J k σ → σ 999 0 = nI L) (hS : iv_Sim J 30 185 []) {k i : Nat} {b : Bool} {σ : ix_St} (hk : k < 512) (hi : i + 6 ≤ L) (h : J k σ) : ∃ b' σ', ix_S 0 37 1048 [some (.ref 1000), some (.ref 0), some (.ref 135), some (.int (nI i))] [] (ix_S0 b, σ) = ix_S 0 37 18 [some (.ref 1000), some (.ref 0), some (.ref 135), some (.int (nI (i + 6)))] [] (ix_S0 b', σ') ∧ J (k + 1) σ' := by
  have h9 := hJ k σ h
  obtain ⟨v, σ1, σ2, e1, e2, h3⟩ := hS k b σ hk h
  have f9 : σ1 999 = σ 999 := ix_frX rfl (iv_srX (by simp)) e1 999 (by omega)
  have f0 : σ1 1000 = σ 1000 := ix_frX rfl (iv_srX (by simp)) e1 1000 (by omega)
  refine ⟨b, σ2, ?_, h3⟩
  simp only [q_Law0_law_1048, e1, Option.bind_some]
  simp only [f9, f0, e2, Option.bind_some, ix_toI, if_true, q_Law0_law_1123]
  rw [show (6 : Int32) = nI 6 from rfl, nI_add]
set_option maxRecDepth 100000 in
theorem iv_case_image {J : Nat → ix_St → Prop} {L : Nat} (hL : L ≤ 3072) (hJ : ∀ k σ, J k σ → σ 999 0 = nI L) (hS : ∀ (a0 : Int32), a0 = 0 ∨ a0 = 1 → iv_Sim J 31 186 [.int a0]) {k i : Nat} {b : Bool} {σ : ix_St} (hk : k < 512) (hi : i + 6 ≤ L) (h : J k σ) : ∃ b' σ', ix_S 0 37 1061 [some (.ref 1000), some (.ref 0), some (.ref 135), some (.int (nI i))] [] (ix_S0 b, σ) = ix_S 0 37 18 [some (.ref 1000), some (.ref 0), some (.ref 135), some (.int (nI (i + 6)))] [] (ix_S0 b', σ') ∧ J (k + 1) σ' := by
  have h9 := hJ k σ h
  have c1 := iv_bd (i := i) (t := 1) (by omega) hi hL h9 (y := 1) rfl
  by_cases hz1 : σ 1000 (nI i + 1).toNatClampNeg = 0
  · obtain ⟨v, σ1, σ2, e1, e2, h3⟩ := hS 0 (Or.inl rfl) k b σ hk h
    have f9 : σ1 999 = σ 999 := ix_frX rfl (iv_srX (by simp)) e1 999 (by omega)
    have f0 : σ1 1000 = σ 1000 := ix_frX rfl (iv_srX (by simp)) e1 1000 (by omega)
    refine ⟨b, σ2, ?_, h3⟩
    simp only [q_Law0_law_1061, if_neg c1, if_pos hz1, e1, Option.bind_some]
    simp only [f9, f0, if_neg c1, if_pos hz1, e2, Option.bind_some, ix_toI, if_true, q_Law0_law_1123]
    rw [show (6 : Int32) = nI 6 from rfl, nI_add]
  · obtain ⟨v, σ1, σ2, e1, e2, h3⟩ := hS 1 (Or.inr rfl) k b σ hk h
    have f9 : σ1 999 = σ 999 := ix_frX rfl (iv_srX (by simp)) e1 999 (by omega)
    have f0 : σ1 1000 = σ 1000 := ix_frX rfl (iv_srX (by simp)) e1 1000 (by omega)
    refine ⟨b, σ2, ?_, h3⟩
    simp only [q_Law0_law_1061, if_neg c1, if_neg hz1, e1, Option.bind_some]
    simp only [f9, f0, if_neg c1, if_neg hz1, e2, Option.bind_some, ix_toI, if_true, q_Law0_law_1123]
    rw [show (6 : Int32) = nI 6 from rfl, nI_add]
set_option maxRecDepth 100000 in
theorem iv_case_look {J : Nat → ix_St → Prop} {L : Nat} (hL : L ≤ 3072) (hJ : ∀ k σ, J k σ → σ 999 0 = nI L) (hS : ∀ (a0 : Int32), iv_Sim J 32 187 [.int a0]) {k i : Nat} {b : Bool} {σ : ix_St} (hk : k < 512) (hi : i + 6 ≤ L) (h : J k σ) : ∃ b' σ', ix_S 0 37 1100 [some (.ref 1000), some (.ref 0), some (.ref 135), some (.int (nI i))] [] (ix_S0 b, σ) = ix_S 0 37 18 [some (.ref 1000), some (.ref 0), some (.ref 135), some (.int (nI (i + 6)))] [] (ix_S0 b', σ') ∧ J (k + 1) σ' := by
  have h9 := hJ k σ h
  have c1 := iv_bd (i := i) (t := 1) (by omega) hi hL h9 (y := 1) rfl
  obtain ⟨v, σ1, σ2, e1, e2, h3⟩ := hS (σ 1000 (nI i + 1).toNatClampNeg) k b σ hk h
  have f9 : σ1 999 = σ 999 := ix_frX rfl (iv_srX (by simp)) e1 999 (by omega)
  have f0 : σ1 1000 = σ 1000 := ix_frX rfl (iv_srX (by simp)) e1 1000 (by omega)
  refine ⟨b, σ2, ?_, h3⟩
  simp only [q_Law0_law_1100, if_neg c1, e1, Option.bind_some]
  simp only [f9, f0, if_neg c1, e2, Option.bind_some, ix_toI, if_true, q_Law0_law_1123]
  rw [show (6 : Int32) = nI 6 from rfl, nI_add]
/-- class and reference answer alike, call by call -/
def iv_all (E : ix_St) : Prop := (∀ (a0 : Int32), iv_S E 2 157 [.int a0]) ∧
  (∀ (a0 a1 a2 a3 : Int32), a1 = 0 ∨ a1 = 1 → iv_S E 3 158 [.int a0, .int a1, .int a2, .int a3]) ∧
  (∀ (a0 a1 a2 : Int32), iv_S E 4 159 [.int a0, .int a1, .int a2]) ∧
  (∀ (a0 : Int32), iv_S E 5 160 [.int a0]) ∧
  (∀ (a0 a1 : Int32), a1 = 0 ∨ a1 = 1 → iv_S E 6 161 [.int a0, .int a1]) ∧
  (iv_S E 7 162 []) ∧
  (∀ (a0 a1 a2 a3 a4 : Int32), iv_S E 8 163 [.int a0, .int a1, .int a2, .int a3, .int a4]) ∧
  (∀ (a0 : Int32), iv_S E 9 164 [.int a0]) ∧
  (∀ (a0 : Int32), iv_S E 10 165 [.int a0]) ∧
  (∀ (a0 : Int32), iv_S E 11 166 [.int a0]) ∧
  (∀ (a0 a1 : Int32), iv_S E 12 167 [.int a0, .int a1]) ∧
  (∀ (a0 a1 : Int32), iv_S E 13 168 [.int a0, .int a1]) ∧
  (∀ (a0 a1 : Int32), iv_S E 14 169 [.int a0, .int a1]) ∧
  (∀ (a0 a1 : Int32), iv_S E 15 170 [.int a0, .int a1]) ∧
  (∀ (a0 a1 : Int32), iv_S E 16 171 [.int a0, .int a1]) ∧
  (∀ (a0 a1 : Int32), iv_S E 17 172 [.int a0, .int a1]) ∧
  (∀ (a0 : Int32), iv_S E 18 173 [.int a0]) ∧
  (∀ (a0 a1 : Int32), iv_S E 19 174 [.int a0, .int a1]) ∧
  (∀ (a0 : Int32), iv_S E 20 175 [.int a0]) ∧
  (∀ (a0 a1 : Int32), iv_S E 21 176 [.int a0, .int a1]) ∧
  (∀ (a0 : Int32), iv_S E 22 177 [.int a0]) ∧
  (∀ (a0 a1 : Int32), iv_S E 23 178 [.int a0, .int a1]) ∧
  (∀ (a0 : Int32), iv_S E 24 179 [.int a0]) ∧
  (∀ (a0 : Int32), iv_S E 25 180 [.int a0]) ∧
  (∀ (a0 : Int32), iv_S E 26 181 [.int a0]) ∧
  (∀ (a0 a1 : Int32), iv_S E 27 182 [.int a0, .int a1]) ∧
  (∀ (a0 a1 : Int32), iv_S E 28 183 [.int a0, .int a1]) ∧
  (∀ (a0 : Int32), iv_S E 29 184 [.int a0]) ∧
  (iv_S E 30 185 []) ∧
  (∀ (a0 : Int32), a0 = 0 ∨ a0 = 1 → iv_S E 31 186 [.int a0]) ∧
  (∀ (a0 : Int32), iv_S E 32 187 [.int a0])
theorem iv_toS {E : ix_St} {x m : Nat} {as : List Value} (hx : ix_nc x = true) (hm : ix_nc m = true) (has : ∀ v ∈ as, ∃ y, v = .int y) (hS : iv_S E x m as) : iv_SimS (iv_J E) x m as := fun k b σ hk h => iv_one hx hm has hS k b σ hk h
theorem iv_toSim {E : ix_St} {x m : Nat} {as : List Value} (hx : ix_nc x = true) (hm : ix_nc m = true) (hk : ix_kd x ≠ 0) (has : ∀ v ∈ as, ∃ y, v = .int y) (hS : iv_S E x m as) : iv_Sim (iv_J E) x m as := by
  intro k b σ hk' h
  obtain ⟨v, b', σ1, σ2, e1, e2, h3⟩ := iv_one hx hm has hS k b σ hk' h
  have := iv_keepS hk e1
  rw [this] at e1 e2
  exact ⟨v, σ1, σ2, e1, e2, h3⟩
theorem iv_sw (x : Int32) : ∃ t : Nat, t < 32 ∧ (x &&& 31).toInt = (t : Int) := by
  obtain ⟨j, hj, he⟩ := pk_andE x (m := 31) 5 rfl
  exact ⟨j, hj, by rw [he, nI_toInt (by omega)]⟩
set_option maxHeartbeats 4000000 in
set_option maxRecDepth 100000 in
theorem iv_turn {E : ix_St} {L : Nat} (hL : L ≤ 3072) (hE : E 999 0 = nI L) (hA : iv_all E) {k i : Nat} {b : Bool} {σ : ix_St} (hk : k < 512) (hi : i + 6 ≤ L) (h : iv_J E k σ) : ∃ b' σ', ix_S 0 37 18 [some (.ref 1000), some (.ref 0), some (.ref 135), some (.int (nI i))] [] (ix_S0 b, σ) = ix_S 0 37 18 [some (.ref 1000), some (.ref 0), some (.ref 135), some (.int (nI (i + 6)))] [] (ix_S0 b', σ') ∧ iv_J E (k + 1) σ' := by
  obtain ⟨s0, s1, s2, s3, s4, s5, s6, s7, s8, s9, s10, s11, s12, s13, s14, s15, s16, s17, s18, s19, s20, s21, s22, s23, s24, s25, s26, s27, s28, s29, s30⟩ := hA
  have hJ : ∀ k σ, iv_J E k σ → σ 999 0 = nI L := fun k σ h => by rw [h.2 999 (by omega)]; exact hE
  have h9 := hJ k σ h
  have e1 : ¬ (Int32.ofNat (σ 999 0).toNatClampNeg - (6 : Int32)) < nI i := by
    rw [h9, nI_clamp (by omega)]
    show ¬ (nI L - nI 6) < nI i
    rw [pk_sub (by omega), nI_ltI (by omega) (by omega)]
    omega
  have e2 : ¬ (nI i < 0 ∨ (σ 999 0).toNatClampNeg ≤ (nI i).toNatClampNeg) := by
    rw [h9, nI_clamp (by omega)]
    exact nI_in (by omega) (by omega)
  obtain ⟨t, ht, e3⟩ := iv_sw (σ 1000 (nI i).toNatClampNeg)
  rw [q_Law0_law_18, if_neg e1, if_neg e2, e3]
  have ht' : t = 0 ∨ t = 1 ∨ t = 2 ∨ t = 3 ∨ t = 4 ∨ t = 5 ∨ t = 6 ∨ t = 7 ∨ t = 8 ∨ t = 9 ∨ t = 10 ∨ t = 11 ∨ t = 12 ∨ t = 13 ∨ t = 14 ∨ t = 15 ∨ t = 16 ∨ t = 17 ∨ t = 18 ∨ t = 19 ∨ t = 20 ∨ t = 21 ∨ t = 22 ∨ t = 23 ∨ t = 24 ∨ t = 25 ∨ t = 26 ∨ t = 27 ∨ t = 28 ∨ t = 29 ∨ t = 30 ∨ t = 31 := by omega
  rcases ht' with rfl | rfl | rfl | rfl | rfl | rfl | rfl | rfl | rfl | rfl | rfl | rfl | rfl | rfl | rfl | rfl | rfl | rfl | rfl | rfl | rfl | rfl | rfl | rfl | rfl | rfl | rfl | rfl | rfl | rfl | rfl | rfl
  · rw [if_pos (by decide)]
    exact iv_case_state hL hJ (fun a0  => iv_toSim rfl rfl (by decide) (by simp) (s0 a0)) hk hi h
  · rw [if_neg (by decide), if_pos (by decide)]
    exact iv_case_passenger hL hJ (fun a0 a1 a2 a3 ha1 => iv_toSim rfl rfl (by decide) (by simp) (s1 a0 a1 a2 a3 ha1)) hk hi h
  · rw [if_neg (by decide), if_neg (by decide), if_pos (by decide)]
    exact iv_case_set hL hJ (fun a0 a1 a2  => iv_toSim rfl rfl (by decide) (by simp) (s2 a0 a1 a2)) hk hi h
  · rw [if_neg (by decide), if_neg (by decide), if_neg (by decide), if_pos (by decide)]
    exact iv_case_cross hL hJ (fun a0  => iv_toS rfl rfl (by simp) (s3 a0)) hk hi h
  · rw [if_neg (by decide), if_neg (by decide), if_neg (by decide), if_neg (by decide), if_pos (by decide)]
    exact iv_case_stay hL hJ (fun a0 a1 ha1 => iv_toSim rfl rfl (by decide) (by simp) (s4 a0 a1 ha1)) hk hi h
  · rw [if_neg (by decide), if_neg (by decide), if_neg (by decide), if_neg (by decide), if_neg (by decide), if_pos (by decide)]
    exact iv_case_log hL hJ (iv_toS rfl rfl (by simp) (s5 )) hk hi h
  · rw [if_neg (by decide), if_neg (by decide), if_neg (by decide), if_neg (by decide), if_neg (by decide), if_neg (by decide), if_pos (by decide)]
    exact iv_case_feed hL hJ (fun a0 a1 a2 a3 a4  => iv_toSim rfl rfl (by decide) (by simp) (s6 a0 a1 a2 a3 a4)) hk hi h
  · rw [if_neg (by decide), if_neg (by decide), if_neg (by decide), if_neg (by decide), if_neg (by decide), if_neg (by decide), if_neg (by decide), if_pos (by decide)]
    exact iv_case_end hL hJ (fun a0  => iv_toSim rfl rfl (by decide) (by simp) (s7 a0)) hk hi h
  · rw [if_neg (by decide), if_neg (by decide), if_neg (by decide), if_neg (by decide), if_neg (by decide), if_neg (by decide), if_neg (by decide), if_neg (by decide), if_pos (by decide)]
    exact iv_case_text hL hJ (fun a0  => iv_toSim rfl rfl (by decide) (by simp) (s8 a0)) hk hi h
  · rw [if_neg (by decide), if_neg (by decide), if_neg (by decide), if_neg (by decide), if_neg (by decide), if_neg (by decide), if_neg (by decide), if_neg (by decide), if_neg (by decide), if_pos (by decide)]
    exact iv_case_fault hL hJ (fun a0  => iv_toSim rfl rfl (by decide) (by simp) (s9 a0)) hk hi h
  · rw [if_neg (by decide), if_neg (by decide), if_neg (by decide), if_neg (by decide), if_neg (by decide), if_neg (by decide), if_neg (by decide), if_neg (by decide), if_neg (by decide), if_neg (by decide), if_pos (by decide)]
    exact iv_case_of hL hJ (fun a0 a1  => iv_toSim rfl rfl (by decide) (by simp) (s10 a0 a1)) hk hi h
  · rw [if_neg (by decide), if_neg (by decide), if_neg (by decide), if_neg (by decide), if_neg (by decide), if_neg (by decide), if_neg (by decide), if_neg (by decide), if_neg (by decide), if_neg (by decide), if_neg (by decide), if_pos (by decide)]
    exact iv_case_sway hL hJ (fun a0 a1  => iv_toSim rfl rfl (by decide) (by simp) (s11 a0 a1)) hk hi h
  · rw [if_neg (by decide), if_neg (by decide), if_neg (by decide), if_neg (by decide), if_neg (by decide), if_neg (by decide), if_neg (by decide), if_neg (by decide), if_neg (by decide), if_neg (by decide), if_neg (by decide), if_neg (by decide), if_pos (by decide)]
    exact iv_case_season hL hJ (fun a0 a1  => iv_toSim rfl rfl (by decide) (by simp) (s12 a0 a1)) hk hi h
  · rw [if_neg (by decide), if_neg (by decide), if_neg (by decide), if_neg (by decide), if_neg (by decide), if_neg (by decide), if_neg (by decide), if_neg (by decide), if_neg (by decide), if_neg (by decide), if_neg (by decide), if_neg (by decide), if_neg (by decide), if_pos (by decide)]
    exact iv_case_book hL hJ (fun a0 a1  => iv_toSim rfl rfl (by decide) (by simp) (s13 a0 a1)) hk hi h
  · rw [if_neg (by decide), if_neg (by decide), if_neg (by decide), if_neg (by decide), if_neg (by decide), if_neg (by decide), if_neg (by decide), if_neg (by decide), if_neg (by decide), if_neg (by decide), if_neg (by decide), if_neg (by decide), if_neg (by decide), if_neg (by decide), if_pos (by decide)]
    exact iv_case_would hL hJ (fun a0 a1  => iv_toS rfl rfl (by simp) (s14 a0 a1)) hk hi h
  · rw [if_neg (by decide), if_neg (by decide), if_neg (by decide), if_neg (by decide), if_neg (by decide), if_neg (by decide), if_neg (by decide), if_neg (by decide), if_neg (by decide), if_neg (by decide), if_neg (by decide), if_neg (by decide), if_neg (by decide), if_neg (by decide), if_neg (by decide), if_pos (by decide)]
    exact iv_case_makes hL hJ (fun a0 a1  => iv_toSim rfl rfl (by decide) (by simp) (s15 a0 a1)) hk hi h
  · rw [if_neg (by decide), if_neg (by decide), if_neg (by decide), if_neg (by decide), if_neg (by decide), if_neg (by decide), if_neg (by decide), if_neg (by decide), if_neg (by decide), if_neg (by decide), if_neg (by decide), if_neg (by decide), if_neg (by decide), if_neg (by decide), if_neg (by decide), if_neg (by decide), if_pos (by decide)]
    exact iv_case_pivots hL hJ (fun a0  => iv_toSim rfl rfl (by decide) (by simp) (s16 a0)) hk hi h
  · rw [if_neg (by decide), if_neg (by decide), if_neg (by decide), if_neg (by decide), if_neg (by decide), if_neg (by decide), if_neg (by decide), if_neg (by decide), if_neg (by decide), if_neg (by decide), if_neg (by decide), if_neg (by decide), if_neg (by decide), if_neg (by decide), if_neg (by decide), if_neg (by decide), if_neg (by decide), if_pos (by decide)]
    exact iv_case_beats hL hJ (fun a0 a1  => iv_toSim rfl rfl (by decide) (by simp) (s17 a0 a1)) hk hi h
  · rw [if_neg (by decide), if_neg (by decide), if_neg (by decide), if_neg (by decide), if_neg (by decide), if_neg (by decide), if_neg (by decide), if_neg (by decide), if_neg (by decide), if_neg (by decide), if_neg (by decide), if_neg (by decide), if_neg (by decide), if_neg (by decide), if_neg (by decide), if_neg (by decide), if_neg (by decide), if_neg (by decide), if_pos (by decide)]
    exact iv_case_wins hL hJ (fun a0  => iv_toSim rfl rfl (by decide) (by simp) (s18 a0)) hk hi h
  · rw [if_neg (by decide), if_neg (by decide), if_neg (by decide), if_neg (by decide), if_neg (by decide), if_neg (by decide), if_neg (by decide), if_neg (by decide), if_neg (by decide), if_neg (by decide), if_neg (by decide), if_neg (by decide), if_neg (by decide), if_neg (by decide), if_neg (by decide), if_neg (by decide), if_neg (by decide), if_neg (by decide), if_neg (by decide), if_pos (by decide)]
    exact iv_case_boats hL hJ (fun a0 a1  => iv_toSim rfl rfl (by decide) (by simp) (s19 a0 a1)) hk hi h
  · rw [if_neg (by decide), if_neg (by decide), if_neg (by decide), if_neg (by decide), if_neg (by decide), if_neg (by decide), if_neg (by decide), if_neg (by decide), if_neg (by decide), if_neg (by decide), if_neg (by decide), if_neg (by decide), if_neg (by decide), if_neg (by decide), if_neg (by decide), if_neg (by decide), if_neg (by decide), if_neg (by decide), if_neg (by decide), if_neg (by decide), if_pos (by decide)]
    exact iv_case_reaches hL hJ (fun a0  => iv_toSim rfl rfl (by decide) (by simp) (s20 a0)) hk hi h
  · rw [if_neg (by decide), if_neg (by decide), if_neg (by decide), if_neg (by decide), if_neg (by decide), if_neg (by decide), if_neg (by decide), if_neg (by decide), if_neg (by decide), if_neg (by decide), if_neg (by decide), if_neg (by decide), if_neg (by decide), if_neg (by decide), if_neg (by decide), if_neg (by decide), if_neg (by decide), if_neg (by decide), if_neg (by decide), if_neg (by decide), if_neg (by decide), if_pos (by decide)]
    exact iv_case_alike hL hJ (fun a0 a1  => iv_toSim rfl rfl (by decide) (by simp) (s21 a0 a1)) hk hi h
  · rw [if_neg (by decide), if_neg (by decide), if_neg (by decide), if_neg (by decide), if_neg (by decide), if_neg (by decide), if_neg (by decide), if_neg (by decide), if_neg (by decide), if_neg (by decide), if_neg (by decide), if_neg (by decide), if_neg (by decide), if_neg (by decide), if_neg (by decide), if_neg (by decide), if_neg (by decide), if_neg (by decide), if_neg (by decide), if_neg (by decide), if_neg (by decide), if_neg (by decide), if_pos (by decide)]
    exact iv_case_middle hL hJ (fun a0  => iv_toSim rfl rfl (by decide) (by simp) (s22 a0)) hk hi h
  · rw [if_neg (by decide), if_neg (by decide), if_neg (by decide), if_neg (by decide), if_neg (by decide), if_neg (by decide), if_neg (by decide), if_neg (by decide), if_neg (by decide), if_neg (by decide), if_neg (by decide), if_neg (by decide), if_neg (by decide), if_neg (by decide), if_neg (by decide), if_neg (by decide), if_neg (by decide), if_neg (by decide), if_neg (by decide), if_neg (by decide), if_neg (by decide), if_neg (by decide), if_neg (by decide), if_pos (by decide)]
    exact iv_case_seen hL hJ (fun a0  => iv_toSim rfl rfl (by decide) (by simp) (s23 a0)) hk hi h
  · rw [if_neg (by decide), if_neg (by decide), if_neg (by decide), if_neg (by decide), if_neg (by decide), if_neg (by decide), if_neg (by decide), if_neg (by decide), if_neg (by decide), if_neg (by decide), if_neg (by decide), if_neg (by decide), if_neg (by decide), if_neg (by decide), if_neg (by decide), if_neg (by decide), if_neg (by decide), if_neg (by decide), if_neg (by decide), if_neg (by decide), if_neg (by decide), if_neg (by decide), if_neg (by decide), if_neg (by decide), if_pos (by decide)]
    exact iv_case_began hL hJ (fun a0  => iv_toSim rfl rfl (by decide) (by simp) (s24 a0)) hk hi h
  · rw [if_neg (by decide), if_neg (by decide), if_neg (by decide), if_neg (by decide), if_neg (by decide), if_neg (by decide), if_neg (by decide), if_neg (by decide), if_neg (by decide), if_neg (by decide), if_neg (by decide), if_neg (by decide), if_neg (by decide), if_neg (by decide), if_neg (by decide), if_neg (by decide), if_neg (by decide), if_neg (by decide), if_neg (by decide), if_neg (by decide), if_neg (by decide), if_neg (by decide), if_neg (by decide), if_neg (by decide), if_neg (by decide), if_pos (by decide)]
    exact iv_case_bribe hL hJ (fun a0 a1  => iv_toSim rfl rfl (by decide) (by simp) (s25 a0 a1)) hk hi h
  · rw [if_neg (by decide), if_neg (by decide), if_neg (by decide), if_neg (by decide), if_neg (by decide), if_neg (by decide), if_neg (by decide), if_neg (by decide), if_neg (by decide), if_neg (by decide), if_neg (by decide), if_neg (by decide), if_neg (by decide), if_neg (by decide), if_neg (by decide), if_neg (by decide), if_neg (by decide), if_neg (by decide), if_neg (by decide), if_neg (by decide), if_neg (by decide), if_neg (by decide), if_neg (by decide), if_neg (by decide), if_neg (by decide), if_neg (by decide), if_pos (by decide)]
    exact iv_case_costs hL hJ (fun a0 a1  => iv_toSim rfl rfl (by decide) (by simp) (s26 a0 a1)) hk hi h
  · rw [if_neg (by decide), if_neg (by decide), if_neg (by decide), if_neg (by decide), if_neg (by decide), if_neg (by decide), if_neg (by decide), if_neg (by decide), if_neg (by decide), if_neg (by decide), if_neg (by decide), if_neg (by decide), if_neg (by decide), if_neg (by decide), if_neg (by decide), if_neg (by decide), if_neg (by decide), if_neg (by decide), if_neg (by decide), if_neg (by decide), if_neg (by decide), if_neg (by decide), if_neg (by decide), if_neg (by decide), if_neg (by decide), if_neg (by decide), if_neg (by decide), if_pos (by decide)]
    exact iv_case_game hL hJ (fun a0  => iv_toSim rfl rfl (by decide) (by simp) (s27 a0)) hk hi h
  · rw [if_neg (by decide), if_neg (by decide), if_neg (by decide), if_neg (by decide), if_neg (by decide), if_neg (by decide), if_neg (by decide), if_neg (by decide), if_neg (by decide), if_neg (by decide), if_neg (by decide), if_neg (by decide), if_neg (by decide), if_neg (by decide), if_neg (by decide), if_neg (by decide), if_neg (by decide), if_neg (by decide), if_neg (by decide), if_neg (by decide), if_neg (by decide), if_neg (by decide), if_neg (by decide), if_neg (by decide), if_neg (by decide), if_neg (by decide), if_neg (by decide), if_neg (by decide), if_pos (by decide)]
    exact iv_case_undo hL hJ (iv_toSim rfl rfl (by decide) (by simp) (s28 )) hk hi h
  · rw [if_neg (by decide), if_neg (by decide), if_neg (by decide), if_neg (by decide), if_neg (by decide), if_neg (by decide), if_neg (by decide), if_neg (by decide), if_neg (by decide), if_neg (by decide), if_neg (by decide), if_neg (by decide), if_neg (by decide), if_neg (by decide), if_neg (by decide), if_neg (by decide), if_neg (by decide), if_neg (by decide), if_neg (by decide), if_neg (by decide), if_neg (by decide), if_neg (by decide), if_neg (by decide), if_neg (by decide), if_neg (by decide), if_neg (by decide), if_neg (by decide), if_neg (by decide), if_neg (by decide), if_pos (by decide)]
    exact iv_case_image hL hJ (fun a0 ha0 => iv_toSim rfl rfl (by decide) (by simp) (s29 a0 ha0)) hk hi h
  · rw [if_neg (by decide), if_neg (by decide), if_neg (by decide), if_neg (by decide), if_neg (by decide), if_neg (by decide), if_neg (by decide), if_neg (by decide), if_neg (by decide), if_neg (by decide), if_neg (by decide), if_neg (by decide), if_neg (by decide), if_neg (by decide), if_neg (by decide), if_neg (by decide), if_neg (by decide), if_neg (by decide), if_neg (by decide), if_neg (by decide), if_neg (by decide), if_neg (by decide), if_neg (by decide), if_neg (by decide), if_neg (by decide), if_neg (by decide), if_neg (by decide), if_neg (by decide), if_neg (by decide), if_neg (by decide), if_pos (by decide)]
    exact iv_case_look hL hJ (fun a0  => iv_toSim rfl rfl (by decide) (by simp) (s30 a0)) hk hi h
  · rw [if_neg (by decide), if_neg (by decide), if_neg (by decide), if_neg (by decide), if_neg (by decide), if_neg (by decide), if_neg (by decide), if_neg (by decide), if_neg (by decide), if_neg (by decide), if_neg (by decide), if_neg (by decide), if_neg (by decide), if_neg (by decide), if_neg (by decide), if_neg (by decide), if_neg (by decide), if_neg (by decide), if_neg (by decide), if_neg (by decide), if_neg (by decide), if_neg (by decide), if_neg (by decide), if_neg (by decide), if_neg (by decide), if_neg (by decide), if_neg (by decide), if_neg (by decide), if_neg (by decide), if_neg (by decide), if_neg (by decide)]
    refine ⟨b, σ, ?_, iv_R_up (Nat.le_succ k) h.1, h.2⟩
    rw [q_Law0_law_1123, show (6 : Int32) = nI 6 from rfl, nI_add]
