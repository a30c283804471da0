/-! the law's steps: class and reference go alike -/
/-- what is known of the values on a stack by their types (the top comes first) -/
def iv_stk (f : Nat → Int32) : List Nat → Prop
  | [] => True
  | t :: r => ((t = 1 → f r.length = 0 ∨ f r.length = 1) ∧ (t = 2 → ¬ f r.length = 0)) ∧ iv_stk f r
theorem iv_stk_cong {f g : Nat → Int32} : ∀ {tys : List Nat}, (∀ i, i < tys.length → g i = f i) → iv_stk f tys → iv_stk g tys
  | [], _, _ => trivial
  | t :: r, h, hs => by
    refine ⟨?_, iv_stk_cong (fun i hi => h i (Nat.lt_succ_of_lt hi)) hs.2⟩
    rw [h r.length (Nat.lt_succ_self _)]
    exact hs.1
theorem iv_stk_up {f : Nat → Int32} {r : List Nat} {t : Nat} {v : Int32} (h : iv_stk f r) (h1 : t = 1 → v = 0 ∨ v = 1) (h2 : t = 2 → ¬ v = 0) : iv_stk (upd f r.length v) (t :: r) := by
  refine ⟨?_, iv_stk_cong (fun i hi => pk_un (by omega)) h⟩
  rw [pk_us]
  exact ⟨h1, h2⟩
theorem f_isJoint (b : Bool) (σ : ix_St) (v : Int32) : ix_F 62 [.int v] (ix_S0 b, σ) = some (.int (if v = 4 then 1 else if v = 5 then 1 else if v ≤ 33 then 0 else 1), (ix_S0 b, σ)) := by
  rw [q_Law_isJoint_0]
  by_cases h1 : v = 4
  · rw [if_pos h1, if_pos h1]
  · rw [if_neg h1, if_neg h1]
    by_cases h2 : v = 5
    · rw [if_pos h2, if_pos h2]
    · rw [if_neg h2, if_neg h2]
      by_cases h3 : v ≤ 33
      · rw [if_pos h3, if_pos h3]
      · rw [if_neg h3, if_neg h3]
theorem iv_k63 {k : Nat} (h : k ≤ 9999) : nI (64 * k + 33) &&& 63 = 33 := by
  rw [pk_andN (m := 63) (by omega) 6 rfl, show (64 * k + 33) % 2 ^ 6 = 33 by omega]
  rfl
theorem iv_k6 {k : Nat} (h : k ≤ 9999) : nI (64 * k + 33) >>> ((6 : Int32) &&& 31) = nI k := by
  rw [pk_shrN (by omega) _ 6 (by decide), show (64 * k + 33) / 2 ^ 6 = k by omega]
theorem iv_k7 {k : Nat} (h : k ≤ 10) : nI (7 + k) &&& 63 = nI (7 + k) := by
  rw [pk_andN (m := 63) (by omega) 6 rfl, Nat.mod_eq_of_lt (by omega)]
theorem f_step (b c : Bool) {σ τ : ix_St} {a e : Nat} (ha : a < e) (he : e ≤ 400) {tys t' : List Nat} (ht : iv_ts tys (τ 150 a) (τ 151 a) = some t') (hl : t'.length ≤ 32) (hl0 : tys.length ≤ 32) (henc : iv_enc (σ 13 a) (τ 150 a) (τ 151 a)) (hst : ∀ i, i < tys.length → σ 18 i = τ 157 i) (hty : iv_stk (σ 18) tys) (hv : ∀ k, k ≤ 10 → σ 19 (7 + k) = τ 156 k) : ∃ pos v, t'.length = pos + 1 ∧
    ix_S 60 2 12 [some (.ref 12), none, some (.int (nI e)), some (.int (nI tys.length)), some (.int (nI a)), none] [] (ix_S0 b, σ) = ix_S 60 2 12 [some (.ref 12), none, some (.int (nI e)), some (.int (nI (pos + 1))), some (.int (nI (a + 1))), none] [] (ix_S0 b, ix_up σ 18 pos v) ∧
    ix_S 264 2 12 [some (.ref 135), some (.int 0), none, some (.int (nI e)), some (.int (nI tys.length)), some (.int (nI a))] [] (ix_S0 c, τ) = ix_S 264 2 12 [some (.ref 135), some (.int 0), none, some (.int (nI e)), some (.int (nI (pos + 1))), some (.int (nI (a + 1)))] [] (ix_S0 c, ix_up τ 157 pos v) ∧ iv_stk (upd (σ 18) pos v) t' := by
  have hA : ¬ nI e ≤ nI a := nI_ge ha (by omega)
  have hA' : ¬ (400 : Int32) * 0 + nI e ≤ nI a := by
    rw [show (400 : Int32) * 0 = nI 0 from rfl, nI_add, Nat.zero_add]; exact hA
  have hcl : (nI a).toNatClampNeg = a := nI_clamp (by omega)
  have h4 : ¬ (nI a < 0 ∨ 400 ≤ a) := iv_ni (by omega) (by omega)
  have h12 : ¬ (nI a < 0 ∨ 1200 ≤ a) := iv_ni (by omega) (by omega)
  rcases henc with ⟨ho, k, hk, harg, hs⟩ | ⟨ho, k, hk, harg, hs⟩ | ⟨ho, hs⟩ | ⟨ho, hs⟩ | ⟨ho, hs⟩ | ⟨ho, hs⟩ | ⟨ho, hs⟩ | ⟨ho, hs⟩ | ⟨ho, hs⟩ | ⟨ho, hs⟩ | ⟨ho, hs⟩ | ⟨ho, hs⟩
  · simp (decide := true) only [iv_ts, ho, if_true, if_false, Option.some.injEq] at ht
    subst ht
    have hL : tys.length < 32 := hl
    have g1 : ¬ (32 : Int32) ≤ nI tys.length := nI_ge (b := 32) hL (by omega)
    have g2 : ¬ (nI tys.length < 0 ∨ 32 ≤ tys.length) := iv_ni hL (by omega)
    have g3 : ¬ (nI tys.length < 0 ∨ 420 ≤ tys.length) := iv_ni (by omega) (by omega)
    have g4 : (nI tys.length).toNatClampNeg = tys.length := nI_clamp (by omega)
    refine ⟨tys.length, nI k, rfl, ?_, ?_, ?_⟩
    · rw [q_Law_result_12]
      simp (decide := true) only [g1, g2, g4, iv_k63 hk, iv_k6 hk, if_true, if_false, Option.bind_some, iv_tI, iv_10, nI_1, hA, hA', hcl, h4, h12, hs, ho, f_isJoint]
    · rw [q_M_runs_12]
      simp (decide := true) only [g1, g3, g4, harg, if_true, if_false, Option.bind_some, iv_tI, iv_10, nI_1, hA, hA', hcl, h4, h12, hs, ho, f_isJoint]
    · refine iv_stk_up hty (fun h => ?_) (fun h => ?_)
      · split at h <;> omega
      · intro e0
        rw [harg, if_pos e0] at h
        omega
  · simp (decide := true) only [iv_ts, ho, if_true, if_false, Option.some.injEq] at ht
    subst ht
    have hL : tys.length < 32 := hl
    have g1 : ¬ (32 : Int32) ≤ nI tys.length := nI_ge (b := 32) hL (by omega)
    have g2 : ¬ (nI tys.length < 0 ∨ 32 ≤ tys.length) := iv_ni hL (by omega)
    have g3 : ¬ (nI tys.length < 0 ∨ 420 ≤ tys.length) := iv_ni (by omega) (by omega)
    have g4 : (nI tys.length).toNatClampNeg = tys.length := nI_clamp (by omega)
    have c0 : ¬ (nI (7 + k) = 6) := fun h => by rw [show (6 : Int32) = nI 6 from rfl, nI_eq (by omega) (by omega)] at h; omega
    have c1 : ¬ (nI (7 + k) = 4) := fun h => by rw [show (4 : Int32) = nI 4 from rfl, nI_eq (by omega) (by omega)] at h; omega
    have c2 : ¬ (nI (7 + k) = 5) := fun h => by rw [show (5 : Int32) = nI 5 from rfl, nI_eq (by omega) (by omega)] at h; omega
    have c3 : nI (7 + k) ≤ 33 := nI_le (b := 33) (by omega) (by omega)
    have c4 : ¬ (17 : Int32) < nI (7 + k) := nI_nlt (a := 17) (by omega) (by omega)
    have c5 : (nI (7 + k)).toNatClampNeg = 7 + k := nI_clamp (by omega)
    have c6 : ¬ (nI (7 + k) < 0 ∨ 18 ≤ 7 + k) := iv_ni (by omega) (by omega)
    have c7 : (nI k).toNatClampNeg = k := nI_clamp (by omega)
    have c8 : ¬ (nI k < 0 ∨ 11 ≤ k) := iv_ni (by omega) (by omega)
    refine ⟨tys.length, σ 19 (7 + k), rfl, ?_, ?_, ?_⟩
    · rw [q_Law_result_12]
      simp (decide := true) only [g1, g2, g4, iv_k7 hk, c0, c1, c2, c3, c4, c5, c6, if_true, if_false, Option.bind_some, iv_tI, iv_10, nI_1, hA, hA', hcl, h4, h12, hs, ho, f_isJoint]
    · rw [q_M_runs_12, hv k hk]
      simp (decide := true) only [g1, g3, g4, harg, c7, c8, if_true, if_false, Option.bind_some, iv_tI, iv_10, nI_1, hA, hA', hcl, h4, h12, hs, ho, f_isJoint]
    · exact iv_stk_up hty (fun h => by omega) (fun h => by omega)
  · have hkd : ((43 : Int32) &&& 63) = 43 := by decide
    have hti : Int32.toInt 43 = 43 := by decide
    rcases tys with _ | ⟨x, _ | ⟨y, r⟩⟩
    · simp (decide := true) only [iv_ts, ho, if_true, if_false, or_true, true_or, or_self, reduceCtorEq] at ht
    · simp (decide := true) only [iv_ts, ho, if_true, if_false, or_true, true_or, or_self, reduceCtorEq] at ht
    · have hL : r.length + 1 + 1 ≤ 32 := hl0
      have p1 : nI (r.length + 1 + 1) - 1 = nI (r.length + 1) := nI_pred _
      have p2 : nI (r.length + 1) - 1 = nI r.length := nI_pred _
      have g0 : ¬ nI (r.length + 1 + 1) < 2 := nI_nlt (b := 2) (by omega) (by omega)
      have g1 : ¬ (nI (r.length + 1) < 0 ∨ 32 ≤ r.length + 1) := iv_ni (by omega) (by omega)
      have g2 : ¬ (nI r.length < 0 ∨ 32 ≤ r.length) := iv_ni (by omega) (by omega)
      have g3 : ¬ (nI (r.length + 1) < 0 ∨ 420 ≤ r.length + 1) := iv_ni (by omega) (by omega)
      have g4 : ¬ (nI r.length < 0 ∨ 420 ≤ r.length) := iv_ni (by omega) (by omega)
      have g5 : (nI (r.length + 1)).toNatClampNeg = r.length + 1 := nI_clamp (by omega)
      have g6 : (nI r.length).toNatClampNeg = r.length := nI_clamp (by omega)
      have e1 : τ 157 (r.length + 1) = σ 18 (r.length + 1) := (hst (r.length + 1) (by simp only [List.length_cons]; omega)).symm
      have e2 : τ 157 r.length = σ 18 r.length := (hst r.length (by simp only [List.length_cons]; omega)).symm
      have hr : iv_stk (σ 18) r := hty.2.2
      have hx := hty.1
      have hy := hty.2.1
      have hxy : x ≠ 1 ∧ y ≠ 1 := by
        by_cases e : x ≠ 1 ∧ y ≠ 1
        · exact e
        · simp (decide := true) only [iv_ts, ho, if_true, if_false, or_true, true_or, or_self, e, reduceCtorEq] at ht
      simp (decide := true) only [iv_ts, ho, if_true, if_false, or_true, true_or, or_self, hxy, ne_eq, not_false_eq_true, and_self, Option.some.injEq] at ht
      subst ht
      refine ⟨r.length, σ 18 r.length + σ 18 (r.length + 1), rfl, ?_, ?_, ?_⟩
      · rw [q_Law_result_12]
        simp (decide := true) only [p1, p2, g0, g1, g2, g3, g4, g5, g6, e1, e2, List.length_cons, hkd, hti, q_Law_joined_0, if_true, if_false, Option.bind_some, iv_tI, iv_10, nI_1, hA, hA', hcl, h4, h12, hs, ho, f_isJoint]
      · rw [q_M_runs_12]
        simp (decide := true) only [p1, p2, g0, g1, g2, g3, g4, g5, g6, e1, e2, List.length_cons, q_M_twoOf_0, if_true, if_false, Option.bind_some, iv_tI, iv_10, nI_1, hA, hA', hcl, h4, h12, hs, ho, f_isJoint]
      · exact iv_stk_up hr (fun h => by omega) (fun h => by omega)
  · have hkd : ((45 : Int32) &&& 63) = 45 := by decide
    have hti : Int32.toInt 45 = 45 := by decide
    rcases tys with _ | ⟨x, _ | ⟨y, r⟩⟩
    · simp (decide := true) only [iv_ts, ho, if_true, if_false, or_true, true_or, or_self, reduceCtorEq] at ht
    · simp (decide := true) only [iv_ts, ho, if_true, if_false, or_true, true_or, or_self, reduceCtorEq] at ht
    · have hL : r.length + 1 + 1 ≤ 32 := hl0
      have p1 : nI (r.length + 1 + 1) - 1 = nI (r.length + 1) := nI_pred _
      have p2 : nI (r.length + 1) - 1 = nI r.length := nI_pred _
      have g0 : ¬ nI (r.length + 1 + 1) < 2 := nI_nlt (b := 2) (by omega) (by omega)
      have g1 : ¬ (nI (r.length + 1) < 0 ∨ 32 ≤ r.length + 1) := iv_ni (by omega) (by omega)
      have g2 : ¬ (nI r.length < 0 ∨ 32 ≤ r.length) := iv_ni (by omega) (by omega)
      have g3 : ¬ (nI (r.length + 1) < 0 ∨ 420 ≤ r.length + 1) := iv_ni (by omega) (by omega)
      have g4 : ¬ (nI r.length < 0 ∨ 420 ≤ r.length) := iv_ni (by omega) (by omega)
      have g5 : (nI (r.length + 1)).toNatClampNeg = r.length + 1 := nI_clamp (by omega)
      have g6 : (nI r.length).toNatClampNeg = r.length := nI_clamp (by omega)
      have e1 : τ 157 (r.length + 1) = σ 18 (r.length + 1) := (hst (r.length + 1) (by simp only [List.length_cons]; omega)).symm
      have e2 : τ 157 r.length = σ 18 r.length := (hst r.length (by simp only [List.length_cons]; omega)).symm
      have hr : iv_stk (σ 18) r := hty.2.2
      have hx := hty.1
      have hy := hty.2.1
      have hxy : x ≠ 1 ∧ y ≠ 1 := by
        by_cases e : x ≠ 1 ∧ y ≠ 1
        · exact e
        · simp (decide := true) only [iv_ts, ho, if_true, if_false, or_true, true_or, or_self, e, reduceCtorEq] at ht
      simp (decide := true) only [iv_ts, ho, if_true, if_false, or_true, true_or, or_self, hxy, ne_eq, not_false_eq_true, and_self, Option.some.injEq] at ht
      subst ht
      refine ⟨r.length, σ 18 r.length - σ 18 (r.length + 1), rfl, ?_, ?_, ?_⟩
      · rw [q_Law_result_12]
        simp (decide := true) only [p1, p2, g0, g1, g2, g3, g4, g5, g6, e1, e2, List.length_cons, hkd, hti, q_Law_joined_0, if_true, if_false, Option.bind_some, iv_tI, iv_10, nI_1, hA, hA', hcl, h4, h12, hs, ho, f_isJoint]
      · rw [q_M_runs_12]
        simp (decide := true) only [p1, p2, g0, g1, g2, g3, g4, g5, g6, e1, e2, List.length_cons, q_M_twoOf_0, if_true, if_false, Option.bind_some, iv_tI, iv_10, nI_1, hA, hA', hcl, h4, h12, hs, ho, f_isJoint]
      · exact iv_stk_up hr (fun h => by omega) (fun h => by omega)
  · have hkd : ((42 : Int32) &&& 63) = 42 := by decide
    have hti : Int32.toInt 42 = 42 := by decide
    rcases tys with _ | ⟨x, _ | ⟨y, r⟩⟩
    · simp (decide := true) only [iv_ts, ho, if_true, if_false, or_true, true_or, or_self, reduceCtorEq] at ht
    · simp (decide := true) only [iv_ts, ho, if_true, if_false, or_true, true_or, or_self, reduceCtorEq] at ht
    · have hL : r.length + 1 + 1 ≤ 32 := hl0
      have p1 : nI (r.length + 1 + 1) - 1 = nI (r.length + 1) := nI_pred _
      have p2 : nI (r.length + 1) - 1 = nI r.length := nI_pred _
      have g0 : ¬ nI (r.length + 1 + 1) < 2 := nI_nlt (b := 2) (by omega) (by omega)
      have g1 : ¬ (nI (r.length + 1) < 0 ∨ 32 ≤ r.length + 1) := iv_ni (by omega) (by omega)
      have g2 : ¬ (nI r.length < 0 ∨ 32 ≤ r.length) := iv_ni (by omega) (by omega)
      have g3 : ¬ (nI (r.length + 1) < 0 ∨ 420 ≤ r.length + 1) := iv_ni (by omega) (by omega)
      have g4 : ¬ (nI r.length < 0 ∨ 420 ≤ r.length) := iv_ni (by omega) (by omega)
      have g5 : (nI (r.length + 1)).toNatClampNeg = r.length + 1 := nI_clamp (by omega)
      have g6 : (nI r.length).toNatClampNeg = r.length := nI_clamp (by omega)
      have e1 : τ 157 (r.length + 1) = σ 18 (r.length + 1) := (hst (r.length + 1) (by simp only [List.length_cons]; omega)).symm
      have e2 : τ 157 r.length = σ 18 r.length := (hst r.length (by simp only [List.length_cons]; omega)).symm
      have hr : iv_stk (σ 18) r := hty.2.2
      have hx := hty.1
      have hy := hty.2.1
      have hxy : x ≠ 1 ∧ y ≠ 1 := by
        by_cases e : x ≠ 1 ∧ y ≠ 1
        · exact e
        · simp (decide := true) only [iv_ts, ho, if_true, if_false, or_true, true_or, or_self, e, reduceCtorEq] at ht
      simp (decide := true) only [iv_ts, ho, if_true, if_false, or_true, true_or, or_self, hxy, ne_eq, not_false_eq_true, and_self, Option.some.injEq] at ht
      subst ht
      refine ⟨r.length, σ 18 r.length * σ 18 (r.length + 1), rfl, ?_, ?_, ?_⟩
      · rw [q_Law_result_12]
        simp (decide := true) only [p1, p2, g0, g1, g2, g3, g4, g5, g6, e1, e2, List.length_cons, hkd, hti, q_Law_joined_0, if_true, if_false, Option.bind_some, iv_tI, iv_10, nI_1, hA, hA', hcl, h4, h12, hs, ho, f_isJoint]
      · rw [q_M_runs_12]
        simp (decide := true) only [p1, p2, g0, g1, g2, g3, g4, g5, g6, e1, e2, List.length_cons, q_M_twoOf_0, if_true, if_false, Option.bind_some, iv_tI, iv_10, nI_1, hA, hA', hcl, h4, h12, hs, ho, f_isJoint]
      · exact iv_stk_up hr (fun h => by omega) (fun h => by omega)
  · have hkd : ((47 : Int32) &&& 63) = 47 := by decide
    have hti : Int32.toInt 47 = 47 := by decide
    rcases tys with _ | ⟨x, _ | ⟨y, r⟩⟩
    · simp (decide := true) only [iv_ts, ho, if_true, if_false, or_true, true_or, or_self, reduceCtorEq] at ht
    · simp (decide := true) only [iv_ts, ho, if_true, if_false, or_true, true_or, or_self, reduceCtorEq] at ht
    · have hL : r.length + 1 + 1 ≤ 32 := hl0
      have p1 : nI (r.length + 1 + 1) - 1 = nI (r.length + 1) := nI_pred _
      have p2 : nI (r.length + 1) - 1 = nI r.length := nI_pred _
      have g0 : ¬ nI (r.length + 1 + 1) < 2 := nI_nlt (b := 2) (by omega) (by omega)
      have g1 : ¬ (nI (r.length + 1) < 0 ∨ 32 ≤ r.length + 1) := iv_ni (by omega) (by omega)
      have g2 : ¬ (nI r.length < 0 ∨ 32 ≤ r.length) := iv_ni (by omega) (by omega)
      have g3 : ¬ (nI (r.length + 1) < 0 ∨ 420 ≤ r.length + 1) := iv_ni (by omega) (by omega)
      have g4 : ¬ (nI r.length < 0 ∨ 420 ≤ r.length) := iv_ni (by omega) (by omega)
      have g5 : (nI (r.length + 1)).toNatClampNeg = r.length + 1 := nI_clamp (by omega)
      have g6 : (nI r.length).toNatClampNeg = r.length := nI_clamp (by omega)
      have e1 : τ 157 (r.length + 1) = σ 18 (r.length + 1) := (hst (r.length + 1) (by simp only [List.length_cons]; omega)).symm
      have e2 : τ 157 r.length = σ 18 r.length := (hst r.length (by simp only [List.length_cons]; omega)).symm
      have hr : iv_stk (σ 18) r := hty.2.2
      have hx := hty.1
      have hy := hty.2.1
      have hx2 : x = 2 := by
        by_cases e : x = 2
        · exact e
        · simp (decide := true) only [iv_ts, ho, if_true, if_false, or_self] at ht
          split at ht
          · rename_i h; simp only [List.cons.injEq] at h; exact h.1
          · cases ht
      subst hx2
      have hy1 : y ≠ 1 := by
        intro e
        simp (decide := true) only [iv_ts, ho, if_true, if_false, or_self, e, ne_eq, not_true_eq_false, reduceCtorEq] at ht
      simp (decide := true) only [iv_ts, ho, if_true, if_false, or_self, hy1, ne_eq, not_false_eq_true, Option.some.injEq] at ht
      subst ht
      have hd : ¬ σ 18 (r.length + 1) = 0 := hx.2 rfl
      refine ⟨r.length, σ 18 r.length / σ 18 (r.length + 1), rfl, ?_, ?_, ?_⟩
      · rw [q_Law_result_12]
        simp (decide := true) only [hd, p1, p2, g0, g1, g2, g3, g4, g5, g6, e1, e2, List.length_cons, hkd, hti, q_Law_joined_0, if_true, if_false, Option.bind_some, iv_tI, iv_10, nI_1, hA, hA', hcl, h4, h12, hs, ho, f_isJoint]
      · rw [q_M_runs_12]
        simp (decide := true) only [hd, p1, p2, g0, g1, g2, g3, g4, g5, g6, e1, e2, List.length_cons, q_M_twoOf_0, if_true, if_false, Option.bind_some, iv_tI, iv_10, nI_1, hA, hA', hcl, h4, h12, hs, ho, f_isJoint]
      · exact iv_stk_up hr (fun h => by omega) (fun h => by omega)
  · have hkd : ((60 : Int32) &&& 63) = 60 := by decide
    have hti : Int32.toInt 60 = 60 := by decide
    rcases tys with _ | ⟨x, _ | ⟨y, r⟩⟩
    · simp (decide := true) only [iv_ts, ho, if_true, if_false, or_true, true_or, or_self, reduceCtorEq] at ht
    · simp (decide := true) only [iv_ts, ho, if_true, if_false, or_true, true_or, or_self, reduceCtorEq] at ht
    · have hL : r.length + 1 + 1 ≤ 32 := hl0
      have p1 : nI (r.length + 1 + 1) - 1 = nI (r.length + 1) := nI_pred _
      have p2 : nI (r.length + 1) - 1 = nI r.length := nI_pred _
      have g0 : ¬ nI (r.length + 1 + 1) < 2 := nI_nlt (b := 2) (by omega) (by omega)
      have g1 : ¬ (nI (r.length + 1) < 0 ∨ 32 ≤ r.length + 1) := iv_ni (by omega) (by omega)
      have g2 : ¬ (nI r.length < 0 ∨ 32 ≤ r.length) := iv_ni (by omega) (by omega)
      have g3 : ¬ (nI (r.length + 1) < 0 ∨ 420 ≤ r.length + 1) := iv_ni (by omega) (by omega)
      have g4 : ¬ (nI r.length < 0 ∨ 420 ≤ r.length) := iv_ni (by omega) (by omega)
      have g5 : (nI (r.length + 1)).toNatClampNeg = r.length + 1 := nI_clamp (by omega)
      have g6 : (nI r.length).toNatClampNeg = r.length := nI_clamp (by omega)
      have e1 : τ 157 (r.length + 1) = σ 18 (r.length + 1) := (hst (r.length + 1) (by simp only [List.length_cons]; omega)).symm
      have e2 : τ 157 r.length = σ 18 r.length := (hst r.length (by simp only [List.length_cons]; omega)).symm
      have hr : iv_stk (σ 18) r := hty.2.2
      have hx := hty.1
      have hy := hty.2.1
      have hxy : x ≠ 1 ∧ y ≠ 1 := by
        by_cases e : x ≠ 1 ∧ y ≠ 1
        · exact e
        · simp (decide := true) only [iv_ts, ho, if_true, if_false, or_true, true_or, or_self, e, reduceCtorEq] at ht
      simp (decide := true) only [iv_ts, ho, if_true, if_false, or_true, true_or, or_self, hxy, ne_eq, not_false_eq_true, and_self, Option.some.injEq] at ht
      subst ht
      by_cases hc : σ 18 (r.length + 1) ≤ σ 18 r.length
      · refine ⟨r.length, 0, rfl, ?_, ?_, ?_⟩
        · rw [q_Law_result_12]
          simp (decide := true) only [hc, p1, p2, g0, g1, g2, g3, g4, g5, g6, e1, e2, List.length_cons, hkd, hti, q_Law_joined_0, if_true, if_false, Option.bind_some, iv_tI, iv_10, nI_1, hA, hA', hcl, h4, h12, hs, ho, f_isJoint]
        · rw [q_M_runs_12]
          simp (decide := true) only [hc, p1, p2, g0, g1, g2, g3, g4, g5, g6, e1, e2, List.length_cons, q_M_twoOf_0, if_true, if_false, Option.bind_some, iv_tI, iv_10, nI_1, hA, hA', hcl, h4, h12, hs, ho, f_isJoint]
        · exact iv_stk_up hr (fun _ => Or.inl rfl) (fun h => by omega)
      · refine ⟨r.length, 1, rfl, ?_, ?_, ?_⟩
        · rw [q_Law_result_12]
          simp (decide := true) only [hc, p1, p2, g0, g1, g2, g3, g4, g5, g6, e1, e2, List.length_cons, hkd, hti, q_Law_joined_0, if_true, if_false, Option.bind_some, iv_tI, iv_10, nI_1, hA, hA', hcl, h4, h12, hs, ho, f_isJoint]
        · rw [q_M_runs_12]
          simp (decide := true) only [hc, p1, p2, g0, g1, g2, g3, g4, g5, g6, e1, e2, List.length_cons, q_M_twoOf_0, if_true, if_false, Option.bind_some, iv_tI, iv_10, nI_1, hA, hA', hcl, h4, h12, hs, ho, f_isJoint]
        · exact iv_stk_up hr (fun _ => Or.inr rfl) (fun h => by omega)
  · have hkd : ((61 : Int32) &&& 63) = 61 := by decide
    have hti : Int32.toInt 61 = 61 := by decide
    rcases tys with _ | ⟨x, _ | ⟨y, r⟩⟩
    · simp (decide := true) only [iv_ts, ho, if_true, if_false, or_true, true_or, or_self, reduceCtorEq] at ht
    · simp (decide := true) only [iv_ts, ho, if_true, if_false, or_true, true_or, or_self, reduceCtorEq] at ht
    · have hL : r.length + 1 + 1 ≤ 32 := hl0
      have p1 : nI (r.length + 1 + 1) - 1 = nI (r.length + 1) := nI_pred _
      have p2 : nI (r.length + 1) - 1 = nI r.length := nI_pred _
      have g0 : ¬ nI (r.length + 1 + 1) < 2 := nI_nlt (b := 2) (by omega) (by omega)
      have g1 : ¬ (nI (r.length + 1) < 0 ∨ 32 ≤ r.length + 1) := iv_ni (by omega) (by omega)
      have g2 : ¬ (nI r.length < 0 ∨ 32 ≤ r.length) := iv_ni (by omega) (by omega)
      have g3 : ¬ (nI (r.length + 1) < 0 ∨ 420 ≤ r.length + 1) := iv_ni (by omega) (by omega)
      have g4 : ¬ (nI r.length < 0 ∨ 420 ≤ r.length) := iv_ni (by omega) (by omega)
      have g5 : (nI (r.length + 1)).toNatClampNeg = r.length + 1 := nI_clamp (by omega)
      have g6 : (nI r.length).toNatClampNeg = r.length := nI_clamp (by omega)
      have e1 : τ 157 (r.length + 1) = σ 18 (r.length + 1) := (hst (r.length + 1) (by simp only [List.length_cons]; omega)).symm
      have e2 : τ 157 r.length = σ 18 r.length := (hst r.length (by simp only [List.length_cons]; omega)).symm
      have hr : iv_stk (σ 18) r := hty.2.2
      have hx := hty.1
      have hy := hty.2.1
      have hxy : x ≠ 1 ∧ y ≠ 1 := by
        by_cases e : x ≠ 1 ∧ y ≠ 1
        · exact e
        · simp (decide := true) only [iv_ts, ho, if_true, if_false, or_true, true_or, or_self, e, reduceCtorEq] at ht
      simp (decide := true) only [iv_ts, ho, if_true, if_false, or_true, true_or, or_self, hxy, ne_eq, not_false_eq_true, and_self, Option.some.injEq] at ht
      subst ht
      by_cases hc : σ 18 r.length = σ 18 (r.length + 1)
      · refine ⟨r.length, 1, rfl, ?_, ?_, ?_⟩
        · rw [q_Law_result_12]
          simp (decide := true) only [hc, p1, p2, g0, g1, g2, g3, g4, g5, g6, e1, e2, List.length_cons, hkd, hti, q_Law_joined_0, if_true, if_false, Option.bind_some, iv_tI, iv_10, nI_1, hA, hA', hcl, h4, h12, hs, ho, f_isJoint]
        · rw [q_M_runs_12]
          simp (decide := true) only [hc, p1, p2, g0, g1, g2, g3, g4, g5, g6, e1, e2, List.length_cons, q_M_twoOf_0, if_true, if_false, Option.bind_some, iv_tI, iv_10, nI_1, hA, hA', hcl, h4, h12, hs, ho, f_isJoint]
        · exact iv_stk_up hr (fun _ => Or.inr rfl) (fun h => by omega)
      · refine ⟨r.length, 0, rfl, ?_, ?_, ?_⟩
        · rw [q_Law_result_12]
          simp (decide := true) only [hc, p1, p2, g0, g1, g2, g3, g4, g5, g6, e1, e2, List.length_cons, hkd, hti, q_Law_joined_0, if_true, if_false, Option.bind_some, iv_tI, iv_10, nI_1, hA, hA', hcl, h4, h12, hs, ho, f_isJoint]
        · rw [q_M_runs_12]
          simp (decide := true) only [hc, p1, p2, g0, g1, g2, g3, g4, g5, g6, e1, e2, List.length_cons, q_M_twoOf_0, if_true, if_false, Option.bind_some, iv_tI, iv_10, nI_1, hA, hA', hcl, h4, h12, hs, ho, f_isJoint]
        · exact iv_stk_up hr (fun _ => Or.inl rfl) (fun h => by omega)
  · have hkd : ((62 : Int32) &&& 63) = 62 := by decide
    have hti : Int32.toInt 62 = 62 := by decide
    rcases tys with _ | ⟨x, _ | ⟨y, r⟩⟩
    · simp (decide := true) only [iv_ts, ho, if_true, if_false, or_true, true_or, or_self, reduceCtorEq] at ht
    · simp (decide := true) only [iv_ts, ho, if_true, if_false, or_true, true_or, or_self, reduceCtorEq] at ht
    · have hL : r.length + 1 + 1 ≤ 32 := hl0
      have p1 : nI (r.length + 1 + 1) - 1 = nI (r.length + 1) := nI_pred _
      have p2 : nI (r.length + 1) - 1 = nI r.length := nI_pred _
      have g0 : ¬ nI (r.length + 1 + 1) < 2 := nI_nlt (b := 2) (by omega) (by omega)
      have g1 : ¬ (nI (r.length + 1) < 0 ∨ 32 ≤ r.length + 1) := iv_ni (by omega) (by omega)
      have g2 : ¬ (nI r.length < 0 ∨ 32 ≤ r.length) := iv_ni (by omega) (by omega)
      have g3 : ¬ (nI (r.length + 1) < 0 ∨ 420 ≤ r.length + 1) := iv_ni (by omega) (by omega)
      have g4 : ¬ (nI r.length < 0 ∨ 420 ≤ r.length) := iv_ni (by omega) (by omega)
      have g5 : (nI (r.length + 1)).toNatClampNeg = r.length + 1 := nI_clamp (by omega)
      have g6 : (nI r.length).toNatClampNeg = r.length := nI_clamp (by omega)
      have e1 : τ 157 (r.length + 1) = σ 18 (r.length + 1) := (hst (r.length + 1) (by simp only [List.length_cons]; omega)).symm
      have e2 : τ 157 r.length = σ 18 r.length := (hst r.length (by simp only [List.length_cons]; omega)).symm
      have hr : iv_stk (σ 18) r := hty.2.2
      have hx := hty.1
      have hy := hty.2.1
      have hxy : x ≠ 1 ∧ y ≠ 1 := by
        by_cases e : x ≠ 1 ∧ y ≠ 1
        · exact e
        · simp (decide := true) only [iv_ts, ho, if_true, if_false, or_true, true_or, or_self, e, reduceCtorEq] at ht
      simp (decide := true) only [iv_ts, ho, if_true, if_false, or_true, true_or, or_self, hxy, ne_eq, not_false_eq_true, and_self, Option.some.injEq] at ht
      subst ht
      by_cases hc : σ 18 r.length ≤ σ 18 (r.length + 1)
      · refine ⟨r.length, 0, rfl, ?_, ?_, ?_⟩
        · rw [q_Law_result_12]
          simp (decide := true) only [hc, p1, p2, g0, g1, g2, g3, g4, g5, g6, e1, e2, List.length_cons, hkd, hti, q_Law_joined_0, if_true, if_false, Option.bind_some, iv_tI, iv_10, nI_1, hA, hA', hcl, h4, h12, hs, ho, f_isJoint]
        · rw [q_M_runs_12]
          simp (decide := true) only [hc, p1, p2, g0, g1, g2, g3, g4, g5, g6, e1, e2, List.length_cons, q_M_twoOf_0, if_true, if_false, Option.bind_some, iv_tI, iv_10, nI_1, hA, hA', hcl, h4, h12, hs, ho, f_isJoint]
        · exact iv_stk_up hr (fun _ => Or.inl rfl) (fun h => by omega)
      · refine ⟨r.length, 1, rfl, ?_, ?_, ?_⟩
        · rw [q_Law_result_12]
          simp (decide := true) only [hc, p1, p2, g0, g1, g2, g3, g4, g5, g6, e1, e2, List.length_cons, hkd, hti, q_Law_joined_0, if_true, if_false, Option.bind_some, iv_tI, iv_10, nI_1, hA, hA', hcl, h4, h12, hs, ho, f_isJoint]
        · rw [q_M_runs_12]
          simp (decide := true) only [hc, p1, p2, g0, g1, g2, g3, g4, g5, g6, e1, e2, List.length_cons, q_M_twoOf_0, if_true, if_false, Option.bind_some, iv_tI, iv_10, nI_1, hA, hA', hcl, h4, h12, hs, ho, f_isJoint]
        · exact iv_stk_up hr (fun _ => Or.inr rfl) (fun h => by omega)
  · rcases tys with _ | ⟨x, r⟩
    · simp (decide := true) only [iv_ts, ho, if_true, if_false, or_self, reduceCtorEq] at ht
    · have hL : r.length + 1 ≤ 32 := hl0
      have hx1 : x = 1 := by
        by_cases e : x = 1
        · exact e
        · simp (decide := true) only [iv_ts, ho, if_true, if_false, or_self] at ht
          split at ht
          · rename_i h; cases h; exact absurd rfl e
          · cases ht
      subst hx1
      simp (decide := true) only [iv_ts, ho, if_true, if_false, or_self, Option.some.injEq] at ht
      subst ht
      have p1 : nI (r.length + 1) - 1 = nI r.length := nI_pred _
      have g0 : ¬ nI (r.length + 1) < 1 := nI_nlt (b := 1) (by omega) (by omega)
      have g2 : ¬ (nI r.length < 0 ∨ 32 ≤ r.length) := iv_ni (by omega) (by omega)
      have g4 : ¬ (nI r.length < 0 ∨ 420 ≤ r.length) := iv_ni (by omega) (by omega)
      have g6 : (nI r.length).toNatClampNeg = r.length := nI_clamp (by omega)
      have e2 : τ 157 r.length = σ 18 r.length := (hst r.length (by simp only [List.length_cons]; omega)).symm
      have hx := hty.1
      refine ⟨r.length, 1 - σ 18 r.length, rfl, ?_, ?_, ?_⟩
      · rw [q_Law_result_12]
        simp (decide := true) only [p1, g0, g2, g6, List.length_cons, if_true, if_false, Option.bind_some, iv_tI, iv_10, nI_1, hA, hA', hcl, h4, h12, hs, ho, f_isJoint]
      · rw [q_M_runs_12]
        simp (decide := true) only [p1, g4, g6, e2, List.length_cons, if_true, if_false, Option.bind_some, iv_tI, iv_10, nI_1, hA, hA', hcl, h4, h12, hs, ho, f_isJoint]
      · refine iv_stk_up hty.2 (fun _ => ?_) (fun h => by omega)
        rcases hx.1 rfl with h | h
        · rw [h]; exact Or.inr rfl
        · rw [h]; exact Or.inl rfl
  · have hkd : ((5 : Int32) &&& 63) = 5 := by decide
    have hti : Int32.toInt 5 = 5 := by decide
    rcases tys with _ | ⟨x, _ | ⟨y, r⟩⟩
    · simp (decide := true) only [iv_ts, ho, if_true, if_false, or_true, true_or, or_self, reduceCtorEq] at ht
    · simp (decide := true) only [iv_ts, ho, if_true, if_false, or_true, true_or, or_self, reduceCtorEq] at ht
    · have hL : r.length + 1 + 1 ≤ 32 := hl0
      have p1 : nI (r.length + 1 + 1) - 1 = nI (r.length + 1) := nI_pred _
      have p2 : nI (r.length + 1) - 1 = nI r.length := nI_pred _
      have g0 : ¬ nI (r.length + 1 + 1) < 2 := nI_nlt (b := 2) (by omega) (by omega)
      have g1 : ¬ (nI (r.length + 1) < 0 ∨ 32 ≤ r.length + 1) := iv_ni (by omega) (by omega)
      have g2 : ¬ (nI r.length < 0 ∨ 32 ≤ r.length) := iv_ni (by omega) (by omega)
      have g3 : ¬ (nI (r.length + 1) < 0 ∨ 420 ≤ r.length + 1) := iv_ni (by omega) (by omega)
      have g4 : ¬ (nI r.length < 0 ∨ 420 ≤ r.length) := iv_ni (by omega) (by omega)
      have g5 : (nI (r.length + 1)).toNatClampNeg = r.length + 1 := nI_clamp (by omega)
      have g6 : (nI r.length).toNatClampNeg = r.length := nI_clamp (by omega)
      have e1 : τ 157 (r.length + 1) = σ 18 (r.length + 1) := (hst (r.length + 1) (by simp only [List.length_cons]; omega)).symm
      have e2 : τ 157 r.length = σ 18 r.length := (hst r.length (by simp only [List.length_cons]; omega)).symm
      have hr : iv_stk (σ 18) r := hty.2.2
      have hx := hty.1
      have hy := hty.2.1
      have hxy : x = 1 ∧ y = 1 := by
        by_cases e : x = 1 ∧ y = 1
        · exact e
        · simp (decide := true) only [iv_ts, ho, if_true, if_false, or_true, true_or, or_self] at ht
          split at ht
          · rename_i h; simp only [List.cons.injEq] at h; exact ⟨h.1, h.2.1⟩
          · cases ht
      obtain ⟨rfl, rfl⟩ := hxy
      simp (decide := true) only [iv_ts, ho, if_true, if_false, or_true, true_or, or_self, Option.some.injEq] at ht
      subst ht
      have hx : σ 18 (r.length + 1) = 0 ∨ σ 18 (r.length + 1) = 1 := hx.1 rfl
      have hy : σ 18 r.length = 0 ∨ σ 18 r.length = 1 := hy.1 rfl
      rcases hx with hx | hx <;> rcases hy with hy | hy
      · refine ⟨r.length, 0, rfl, ?_, ?_, ?_⟩
        · rw [q_Law_result_12]
          simp (decide := true) only [p1, p2, g0, g1, g2, g3, g4, g5, g6, e1, e2, List.length_cons, hkd, hti, q_Law_joined_0, if_true, if_false, Option.bind_some, iv_tI, iv_10, nI_1, hA, hA', hcl, h4, h12, hs, ho, f_isJoint]
          rw [hx, hy]
          rfl
        · rw [q_M_runs_12]
          simp (decide := true) only [p1, p2, g0, g1, g2, g3, g4, g5, g6, e1, e2, List.length_cons, hx, hy, q_M_twoOf_0, if_true, if_false, Option.bind_some, iv_tI, iv_10, nI_1, hA, hA', hcl, h4, h12, hs, ho, f_isJoint]
          rfl
        · exact iv_stk_up hr (fun _ => Or.inl rfl) (fun h => by omega)
      · refine ⟨r.length, 0, rfl, ?_, ?_, ?_⟩
        · rw [q_Law_result_12]
          simp (decide := true) only [p1, p2, g0, g1, g2, g3, g4, g5, g6, e1, e2, List.length_cons, hkd, hti, q_Law_joined_0, if_true, if_false, Option.bind_some, iv_tI, iv_10, nI_1, hA, hA', hcl, h4, h12, hs, ho, f_isJoint]
          rw [hx, hy]
          rfl
        · rw [q_M_runs_12]
          simp (decide := true) only [p1, p2, g0, g1, g2, g3, g4, g5, g6, e1, e2, List.length_cons, hx, hy, q_M_twoOf_0, if_true, if_false, Option.bind_some, iv_tI, iv_10, nI_1, hA, hA', hcl, h4, h12, hs, ho, f_isJoint]
          rfl
        · exact iv_stk_up hr (fun _ => Or.inl rfl) (fun h => by omega)
      · refine ⟨r.length, 0, rfl, ?_, ?_, ?_⟩
        · rw [q_Law_result_12]
          simp (decide := true) only [p1, p2, g0, g1, g2, g3, g4, g5, g6, e1, e2, List.length_cons, hkd, hti, q_Law_joined_0, if_true, if_false, Option.bind_some, iv_tI, iv_10, nI_1, hA, hA', hcl, h4, h12, hs, ho, f_isJoint]
          rw [hx, hy]
          rfl
        · rw [q_M_runs_12]
          simp (decide := true) only [p1, p2, g0, g1, g2, g3, g4, g5, g6, e1, e2, List.length_cons, hx, hy, q_M_twoOf_0, if_true, if_false, Option.bind_some, iv_tI, iv_10, nI_1, hA, hA', hcl, h4, h12, hs, ho, f_isJoint]
          rfl
        · exact iv_stk_up hr (fun _ => Or.inl rfl) (fun h => by omega)
      · refine ⟨r.length, 1, rfl, ?_, ?_, ?_⟩
        · rw [q_Law_result_12]
          simp (decide := true) only [p1, p2, g0, g1, g2, g3, g4, g5, g6, e1, e2, List.length_cons, hkd, hti, q_Law_joined_0, if_true, if_false, Option.bind_some, iv_tI, iv_10, nI_1, hA, hA', hcl, h4, h12, hs, ho, f_isJoint]
          rw [hx, hy]
          rfl
        · rw [q_M_runs_12]
          simp (decide := true) only [p1, p2, g0, g1, g2, g3, g4, g5, g6, e1, e2, List.length_cons, hx, hy, q_M_twoOf_0, if_true, if_false, Option.bind_some, iv_tI, iv_10, nI_1, hA, hA', hcl, h4, h12, hs, ho, f_isJoint]
          rfl
        · exact iv_stk_up hr (fun _ => Or.inr rfl) (fun h => by omega)
  · have hkd : ((4 : Int32) &&& 63) = 4 := by decide
    have hti : Int32.toInt 4 = 4 := by decide
    rcases tys with _ | ⟨x, _ | ⟨y, r⟩⟩
    · simp (decide := true) only [iv_ts, ho, if_true, if_false, or_true, true_or, or_self, reduceCtorEq] at ht
    · simp (decide := true) only [iv_ts, ho, if_true, if_false, or_true, true_or, or_self, reduceCtorEq] at ht
    · have hL : r.length + 1 + 1 ≤ 32 := hl0
      have p1 : nI (r.length + 1 + 1) - 1 = nI (r.length + 1) := nI_pred _
      have p2 : nI (r.length + 1) - 1 = nI r.length := nI_pred _
      have g0 : ¬ nI (r.length + 1 + 1) < 2 := nI_nlt (b := 2) (by omega) (by omega)
      have g1 : ¬ (nI (r.length + 1) < 0 ∨ 32 ≤ r.length + 1) := iv_ni (by omega) (by omega)
      have g2 : ¬ (nI r.length < 0 ∨ 32 ≤ r.length) := iv_ni (by omega) (by omega)
      have g3 : ¬ (nI (r.length + 1) < 0 ∨ 420 ≤ r.length + 1) := iv_ni (by omega) (by omega)
      have g4 : ¬ (nI r.length < 0 ∨ 420 ≤ r.length) := iv_ni (by omega) (by omega)
      have g5 : (nI (r.length + 1)).toNatClampNeg = r.length + 1 := nI_clamp (by omega)
      have g6 : (nI r.length).toNatClampNeg = r.length := nI_clamp (by omega)
      have e1 : τ 157 (r.length + 1) = σ 18 (r.length + 1) := (hst (r.length + 1) (by simp only [List.length_cons]; omega)).symm
      have e2 : τ 157 r.length = σ 18 r.length := (hst r.length (by simp only [List.length_cons]; omega)).symm
      have hr : iv_stk (σ 18) r := hty.2.2
      have hx := hty.1
      have hy := hty.2.1
      have hxy : x = 1 ∧ y = 1 := by
        by_cases e : x = 1 ∧ y = 1
        · exact e
        · simp (decide := true) only [iv_ts, ho, if_true, if_false, or_true, true_or, or_self] at ht
          split at ht
          · rename_i h; simp only [List.cons.injEq] at h; exact ⟨h.1, h.2.1⟩
          · cases ht
      obtain ⟨rfl, rfl⟩ := hxy
      simp (decide := true) only [iv_ts, ho, if_true, if_false, or_true, true_or, or_self, Option.some.injEq] at ht
      subst ht
      have hx : σ 18 (r.length + 1) = 0 ∨ σ 18 (r.length + 1) = 1 := hx.1 rfl
      have hy : σ 18 r.length = 0 ∨ σ 18 r.length = 1 := hy.1 rfl
      rcases hx with hx | hx <;> rcases hy with hy | hy
      · refine ⟨r.length, 0, rfl, ?_, ?_, ?_⟩
        · rw [q_Law_result_12]
          simp (decide := true) only [p1, p2, g0, g1, g2, g3, g4, g5, g6, e1, e2, List.length_cons, hkd, hti, q_Law_joined_0, if_true, if_false, Option.bind_some, iv_tI, iv_10, nI_1, hA, hA', hcl, h4, h12, hs, ho, f_isJoint]
          rw [hx, hy]
          rfl
        · rw [q_M_runs_12]
          simp (decide := true) only [p1, p2, g0, g1, g2, g3, g4, g5, g6, e1, e2, List.length_cons, hx, hy, q_M_twoOf_0, if_true, if_false, Option.bind_some, iv_tI, iv_10, nI_1, hA, hA', hcl, h4, h12, hs, ho, f_isJoint]
        · exact iv_stk_up hr (fun _ => Or.inl rfl) (fun h => by omega)
      · refine ⟨r.length, 1, rfl, ?_, ?_, ?_⟩
        · rw [q_Law_result_12]
          simp (decide := true) only [p1, p2, g0, g1, g2, g3, g4, g5, g6, e1, e2, List.length_cons, hkd, hti, q_Law_joined_0, if_true, if_false, Option.bind_some, iv_tI, iv_10, nI_1, hA, hA', hcl, h4, h12, hs, ho, f_isJoint]
          rw [hx, hy]
          rfl
        · rw [q_M_runs_12]
          simp (decide := true) only [p1, p2, g0, g1, g2, g3, g4, g5, g6, e1, e2, List.length_cons, hx, hy, q_M_twoOf_0, if_true, if_false, Option.bind_some, iv_tI, iv_10, nI_1, hA, hA', hcl, h4, h12, hs, ho, f_isJoint]
        · exact iv_stk_up hr (fun _ => Or.inr rfl) (fun h => by omega)
      · refine ⟨r.length, 1, rfl, ?_, ?_, ?_⟩
        · rw [q_Law_result_12]
          simp (decide := true) only [p1, p2, g0, g1, g2, g3, g4, g5, g6, e1, e2, List.length_cons, hkd, hti, q_Law_joined_0, if_true, if_false, Option.bind_some, iv_tI, iv_10, nI_1, hA, hA', hcl, h4, h12, hs, ho, f_isJoint]
          rw [hx, hy]
          rfl
        · rw [q_M_runs_12]
          simp (decide := true) only [p1, p2, g0, g1, g2, g3, g4, g5, g6, e1, e2, List.length_cons, hx, hy, q_M_twoOf_0, if_true, if_false, Option.bind_some, iv_tI, iv_10, nI_1, hA, hA', hcl, h4, h12, hs, ho, f_isJoint]
        · exact iv_stk_up hr (fun _ => Or.inr rfl) (fun h => by omega)
      · refine ⟨r.length, 1, rfl, ?_, ?_, ?_⟩
        · rw [q_Law_result_12]
          simp (decide := true) only [p1, p2, g0, g1, g2, g3, g4, g5, g6, e1, e2, List.length_cons, hkd, hti, q_Law_joined_0, if_true, if_false, Option.bind_some, iv_tI, iv_10, nI_1, hA, hA', hcl, h4, h12, hs, ho, f_isJoint]
          rw [hx, hy]
          rfl
        · rw [q_M_runs_12]
          simp (decide := true) only [p1, p2, g0, g1, g2, g3, g4, g5, g6, e1, e2, List.length_cons, hx, hy, q_M_twoOf_0, if_true, if_false, Option.bind_some, iv_tI, iv_10, nI_1, hA, hA', hcl, h4, h12, hs, ho, f_isJoint]
        · exact iv_stk_up hr (fun _ => Or.inr rfl) (fun h => by omega)
theorem iv_ts_len {tys t' : List Nat} {op arg : Int32} {pos : Nat} (h : iv_ts tys op arg = some t') (hp : t'.length = pos + 1) : pos ≤ tys.length := by
  unfold iv_ts at h
  split at h
  · cases h; simp only [List.length_cons] at hp; omega
  · split at h
    · cases h; simp only [List.length_cons] at hp; omega
    · split at h
      · split at h
        · split at h
          · cases h; simp only [List.length_cons] at hp ⊢; omega
          · cases h
        · cases h
      · split at h
        · split at h
          · split at h
            · cases h; simp only [List.length_cons] at hp ⊢; omega
            · cases h
          · cases h
        · split at h
          · split at h
            · split at h
              · cases h; simp only [List.length_cons] at hp ⊢; omega
              · cases h
            · cases h
          · split at h
            · split at h
              · cases h; simp only [List.length_cons] at hp ⊢; omega
              · cases h
            · split at h
              · split at h
                · cases h; simp only [List.length_cons] at hp ⊢; omega
                · cases h
              · cases h
theorem f_run (b c : Bool) {e : Nat} (he : e ≤ 400) : ∀ m a tys out σ τ, a + m = e → iv_run (τ 150) (τ 151) m a tys out → (∀ i, a ≤ i → i < e → iv_enc (σ 13 i) (τ 150 i) (τ 151 i)) → tys.length ≤ 32 → (∀ i, i < tys.length → σ 18 i = τ 157 i) → iv_stk (σ 18) tys → (∀ k, k ≤ 10 → σ 19 (7 + k) = τ 156 k) → ∃ σ' τ',
    ix_S 60 2 12 [some (.ref 12), none, some (.int (nI e)), some (.int (nI tys.length)), some (.int (nI a)), none] [] (ix_S0 b, σ) = some (.int (σ' 18 0), (ix_S0 b, σ')) ∧
    ix_S 264 2 12 [some (.ref 135), some (.int 0), none, some (.int (nI e)), some (.int (nI tys.length)), some (.int (nI a))] [] (ix_S0 c, τ) = some (.int (τ' 157 0), (ix_S0 c, τ')) ∧
    (∀ z, z ≠ 18 → σ' z = σ z) ∧ (∀ z, z ≠ 157 → τ' z = τ z) ∧ (∀ i, i < out.length → σ' 18 i = τ' 157 i) ∧ iv_stk (σ' 18) out := by
  intro m
  induction m with
  | zero =>
    intro a tys out σ τ hm hr henc hl hst hty hv
    have hr : tys = out := hr
    subst hr
    have : a = e := by omega
    subst this
    refine ⟨σ, τ, ?_, ?_, fun _ _ => rfl, fun _ _ => rfl, hst, hty⟩
    · rw [q_Law_result_12, if_pos (nI_le (Nat.le_refl _) (by omega))]
    · rw [q_M_runs_12, show (400 : Int32) * 0 = nI 0 from rfl, nI_add, Nat.zero_add, if_pos (nI_le (Nat.le_refl _) (by omega))]
  | succ m ih =>
    intro a tys out σ τ hm hr henc hl hst hty hv
    obtain ⟨t', h1, h2, h3⟩ := hr
    obtain ⟨pos, v, g1, g2, g3, g4⟩ := f_step b c (by omega : a < e) he h1 h2 hl (henc a (Nat.le_refl _) (by omega)) hst hty hv
    have hpos : ∀ i, i < t'.length → upd (σ 18) pos v i = upd (τ 157) pos v i := by
      intro i hi
      by_cases e : i = pos
      · rw [e, pk_us, pk_us]
      · rw [pk_un e, pk_un e]
        refine hst i ?_
        have : pos ≤ tys.length := iv_ts_len h1 g1
        omega
    obtain ⟨σ', τ', k1, k2, k3, k4, k5, k6⟩ := ih (a + 1) t' out (ix_up σ 18 pos v) (ix_up τ 157 pos v) (by omega) h3 (fun i hi => henc i (by omega)) h2 hpos g4 hv
    rw [g1] at k1 k2
    exact ⟨σ', τ', g2.trans k1, g3.trans k2, fun z hz => (k3 z hz).trans (iv_upn hz), fun z hz => (k4 z hz).trans (iv_upn hz), k5, k6⟩
