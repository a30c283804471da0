section Stq
variable {base : Nat} {xa : Nat → Nat} {cI cB cR : ClassId} {D : va_G} {L : Nat} {xs : Nat → Int32}
variable {p : Program} {l : Launch} {e : Env} {R : Room} {s : State} {m : MethodId} {args : Array Value} {below : List Frame} {meth : Method} {c : Code} {Q : State → Prop}
theorem ix_cat_sum (st : List Value) : ((st.map (ix_v base xa)).map fun v => v.category).sum = st.length := by
  induction st with
  | nil => rfl
  | cons v st ih =>
    simp only [List.map_cons, List.sum_cons, ih, ix_v_cat, List.length_cons]
    omega
/-- a new own cell: where it lies -/
theorem ix_Pt.grown {n0 z0 : Nat} {h : ix_H} {H1 : Heap} {locs : List Loc} {cells slots q N : Nat} {H : Heap} {locs0 : List Loc} (P : ix_Pt base xa cI cB cR D L xs s n0 z0 h H locs0 cells slots) (hlen : h.1.length < 900) {sh : ix_Sh} (hsh : sh.1 < 4) (hN : (bif Nat.beq sh.1 0 then (ix_kinds sh.2.1).length else sh.2.1) = N)
    (hP : va_P D ix_cls (ix_ws base xa cI cB cR h.2 0 h.1 ++ [(q, ix_ce base xa cI cB cR (fun _ => 0) sh)]) H1) (hD : va_D (fun q => base ≤ q) (ix_ws base xa cI cB cR h.2 0 h.1 ++ [(q, ix_ce base xa cI cB cR (fun _ => 0) sh)])) (hS : va_S (fun q => base ≤ q) s.heap H1 locs) (hs : H1.size ≤ s.heap.size + (cells + 1)) :
    q = ix_ad base xa h.1.length ∧ ix_Pt base xa cI cB cR D L xs s n0 z0 (h.1 ++ [sh], ix_row h.2 h.1.length (fun _ => 0)) H1 locs (cells + 1) (slots + N) := by
  obtain ⟨hR, hX, -, h0, h1, h2⟩ := P
  have hq : (ix_ws base xa cI cB cR h.2 0 h.1 ++ [(q, ix_ce base xa cI cB cR (fun _ => 0) sh)])[h.1.length]? = some (q, ix_ce base xa cI cB cR (fun _ => 0) sh) := by
    rw [List.getElem?_append_right (by rw [ix_ws_len]; exact Nat.le_refl _), ix_ws_len, Nat.sub_self]
    rfl
  have hlt : q < H1.size := (hP _ _ hq).lt
  have hge : base ≤ q := hD.2 _ _ hq
  have hne : ∀ k, k < h.1.length → q ≠ base + k := by
    intro k hk hqk
    obtain ⟨sk, hsk⟩ : ∃ sk, h.1[k]? = some sk := ⟨h.1[k], by simp [hk]⟩
    have hkk : (ix_ws base xa cI cB cR h.2 0 h.1 ++ [(q, ix_ce base xa cI cB cR (fun _ => 0) sh)])[k]? = some (base + k, ix_ce base xa cI cB cR (h.2 k) sk) := by
      rw [List.getElem?_append_left (by rw [ix_ws_len]; exact hk)]
      exact ix_at0 (by rw [ix_n_eq]; exact hsk)
    have := hD.1 _ _ _ _ hq hkk hqk
    omega
  have hqe : q = base + h.1.length := by
    by_cases hz : q < base + h.1.length
    · exact absurd (show q = base + (q - base) by omega) (hne (q - base) (by omega))
    · omega
  refine ⟨by rw [ix_ad_own (by omega)]; exact hqe, ⟨?_, ?_, ?_⟩, hX.row (by omega) _, hS, h0, ?_, ?_⟩
  · show va_P D ix_cls (ix_ws base xa cI cB cR (ix_row h.2 h.1.length _) 0 (h.1 ++ [sh])) H1
    rw [ix_ws_new, ← hqe]
    exact hP
  · show (h.1 ++ [sh]).length ≤ 900
    rw [List.length_append, List.length_singleton]
    omega
  · intro x hx
    rcases List.mem_append.mp hx with h3 | h3
    · exact hR.2.2 x h3
    · rw [List.mem_singleton.mp h3]; exact hsh
  · show cells + 1 + n0 = (h.1 ++ [sh]).length
    rw [List.length_append, List.length_singleton]
    omega
  · show slots + N + z0 = ix_sz (h.1 ++ [sh])
    rw [ix_sz_app, hN]
    omega
theorem ix_tyI {cA : ClassId} {ty : FieldType} {k : Nat} {U : State} {tys : List (ClassId × FieldType)} {cK : ClassId} (hK : va_K D ix_cls (tys ++ [(cA, ty)]) U) (hk : tys[k]? = some (cK, ty)) (hp : ty = .int ∨ ty = .byte ∨ ∃ C, ty = .object C) : cA = cK := by
  have h1 := (hK.2 tys.length (cA, ty) (by simp)).2
  have h2 := (hK.2 k (cK, ty) (by rw [List.getElem?_append_left (List.getElem?_eq_some_iff.mp hk).1]; exact hk)).2
  rcases hp with rfl | rfl | ⟨C, rfl⟩
  · exact Option.some.inj (h1.symm.trans h2)
  · exact Option.some.inj (h1.symm.trans h2)
  · obtain ⟨_, _, -, -, -, h3⟩ := h1
    obtain ⟨_, _, -, -, -, h4⟩ := h2
    exact Option.some.inj (h3.symm.trans h4)
theorem ix_newo {mm : ix_M} {r0 n0 z0 pc idx ci : Nat} (C : ix_Cx base xa cI cB cR D L xs mm r0 p R s m args meth c) {h : ix_H} {H : Heap} {locs : List Loc} {cells slots : Nat} (P : ix_Pt base xa cI cB cR D L xs s n0 z0 h H locs cells slots) (hlen : h.1.length < 900) (hci : ci < 12) (hneed : ∀ rc, ix_n ix_cls ci = some rc → Cond.classLink mm.1.cls idx rc.1 ∈ ix_tb)
    (hrc : cells + 1 ≤ R.cells) (hrs : slots + (ix_kinds ci).length ≤ R.slots) {la : Array Slot} {rest : List Value} (hdg : decode mm.2.1 pc = .ok (.new idx, 3))
    (kk : ∀ H1 locs1, ix_Pt base xa cI cB cR D L xs s n0 z0 (h.1 ++ [(0, ci, ix_fs (ix_kinds ci))], ix_row h.2 h.1.length (fun _ => 0)) H1 locs1 (cells + 1) (slots + (ix_kinds ci).length) → W p l e R s m args below meth c H1 locs1 (cells + 1) (slots + (ix_kinds ci).length) Q (F0 m (pc + 3) la (.ref (ix_ad base xa h.1.length) :: rest))) : W p l e R s m args below meth c H locs cells slots Q (F0 m pc la rest) := by
  obtain ⟨hx0, hb, hr, hlk, hml, hown, hts, hnm, hK, hE, -⟩ := C
  obtain ⟨⟨Cn, T, N⟩, hrcl⟩ : ∃ rc, ix_n ix_cls ci = some rc := by
    rw [ix_n_eq]
    exact ⟨_, List.getElem?_eq_getElem (show ci < ix_cls.length from hci)⟩
  have hO := ix_cls_ok ci _ hrcl
  have hN : (ix_kinds ci).length = N := hO.2.2.2.2.1
  rw [hN] at hrs kk
  have hA : ∀ q, s.heap.size ≤ q → base ≤ q := fun q hq => by have := P.2.2.2.1; omega
  refine va_new (D := D) (ci := ci) (C := Cn) (T := T) (N := N) (A := fun q => base ≤ q) hx0 hb hts hO.1 (ix_ty ci) hO.2.2.1 hown (hts _ (hneed _ hrcl)) (hts _ (hO.2.1 _ List.mem_cons_self)) (hts _ (hO.2.1 _ (List.mem_cons_of_mem _ List.mem_cons_self))) hK P.1.1 ix_D P.2.2.1 hA (by rw [← ix_n_eq]; exact hrcl) (fs := ix_fl base xa (fun _ => 0) 0 (ix_fs (ix_kinds ci))) (fun j hj => ?_) hrc hrs hdg (fun q H1 hP hD hS => ?_)
  · have h1 := ix_fl_get (base := base) (xa := xa) (fun _ => 0) (ix_fs (ix_kinds ci)) 0 j
    have hjl : j < (ix_kinds ci).length := by rw [hN]; exact hj
    have h2 : (ix_fs (ix_kinds ci))[j]? = (ix_n (ix_kinds ci) j).map fun k => bif Nat.beq k 2 then some none else none := by
      unfold ix_fs
      rw [List.getElem?_map, ix_n_eq]
    unfold vp_V
    rw [List.getD_eq_getElem?_getD, h1, h2]
    rcases hO.2.2.2.2.2.2 j hj with ⟨g1, g2⟩ | ⟨g1, g2⟩ | ⟨g1, g2⟩
    · rw [g1, g2]; rfl
    · rw [g1, g2]; rfl
    · rw [g1]
      cases h9 : ix_ty ci j <;> rw [h9] at g2 <;> first | (cases g2; done) | rfl
  · refine ix_size fun hs => ?_
    obtain ⟨hq, hP'⟩ := P.grown (sh := (0, ci, ix_fs (ix_kinds ci))) (N := N) hlen (Nat.le_of_ble_eq_true rfl) (by exact hN) hP hD hS hs
    subst hq
    exact kk H1 locs hP'
theorem ix_newi {mm : ix_M} {r0 n0 z0 pc : Nat} (C : ix_Cx base xa cI cB cR D L xs mm r0 p R s m args meth c) {h : ix_H} {H : Heap} {locs : List Loc} {cells slots : Nat} (P : ix_Pt base xa cI cB cR D L xs s n0 z0 h H locs cells slots) (hlen : h.1.length < 900) {n : Int32} (hn : ¬ (n < 0 ∨ 5000 < n.toNatClampNeg)) {t : ArrayType} {kd : Nat} (ht : (t = .int ∧ kd = 1) ∨ (t = .byte ∧ kd = 2))
    (hrc : cells + 1 ≤ R.cells) (hrs : slots + n.toNatClampNeg ≤ R.slots) {la : Array Slot} {rest : List Value} (hdg : decode mm.2.1 pc = .ok (.newarray t, 2))
    (kk : ∀ H1 locs1, ix_Pt base xa cI cB cR D L xs s n0 z0 (h.1 ++ [(kd, n.toNatClampNeg, [])], ix_row h.2 h.1.length (fun _ => 0)) H1 locs1 (cells + 1) (slots + n.toNatClampNeg) → W p l e R s m args below meth c H1 locs1 (cells + 1) (slots + n.toNatClampNeg) Q (F0 m (pc + 2) la (.ref (ix_ad base xa h.1.length) :: rest))) : W p l e R s m args below meth c H locs cells slots Q (F0 m pc la (.int n :: rest)) := by
  obtain ⟨hx0, hb, hr, hlk, hml, hown, hts, hnm, hK, hE, -⟩ := C
  have hA : ∀ q, s.heap.size ≤ q → base ≤ q := fun q hq => by have := P.2.2.2.1; omega
  have hn1 : ¬ n < 0 := fun q => hn (Or.inl q)
  have hn2 : n.toNatClampNeg ≤ 5000 := Nat.not_lt.mp fun q => hn (Or.inr q)
  rcases ht with ⟨rfl, rfl⟩ | ⟨rfl, rfl⟩
  · refine va_newa (D := D) (A := fun q => base ≤ q) (ty := .int) hx0 hb (hts _ (ix_glob _ (by simp [newarray.typeOf]))) rfl hK P.1.1 ix_D P.2.2.1 hA (N' := n.toNatClampNeg) (a0 := (n.toNatClampNeg, .inl (fun _ => 0))) (fun cA => rfl) hn1 rfl (by simp only [componentBytes]; omega) hrc hrs hdg (fun q cA H1 hK' hP hD hS => ?_)
    have hc := ix_tyI (k := 0) (cK := cI) hK' rfl (Or.inl rfl)
    subst hc
    refine ix_size fun hs => ?_
    obtain ⟨hq, hP'⟩ := P.grown (sh := (1, n.toNatClampNeg, [])) (N := n.toNatClampNeg) hlen (Nat.le_of_ble_eq_true rfl) rfl hP hD hS hs
    subst hq
    exact kk H1 locs hP'
  · refine va_newa (D := D) (A := fun q => base ≤ q) (ty := .byte) hx0 hb (hts _ (ix_glob _ (by simp [newarray.typeOf]))) rfl hK P.1.1 ix_D P.2.2.1 hA (N' := n.toNatClampNeg) (a0 := (n.toNatClampNeg, .inl (fun _ => 0))) (fun cA => rfl) hn1 rfl (by simp only [componentBytes]; omega) hrc hrs hdg (fun q cA H1 hK' hP hD hS => ?_)
    have hc := ix_tyI (k := 1) (cK := cB) hK' rfl (Or.inr (Or.inl rfl))
    subst hc
    refine ix_size fun hs => ?_
    obtain ⟨hq, hP'⟩ := P.grown (sh := (2, n.toNatClampNeg, [])) (N := n.toNatClampNeg) hlen (Nat.le_of_ble_eq_true rfl) rfl hP hD hS hs
    subst hq
    exact kk H1 locs hP'
theorem ix_rf_new (n : Nat) : ix_rf base xa (List.replicate n (some none)) = fun _ => none := by
  funext j
  unfold ix_rf
  rw [ix_n_eq, List.getElem?_replicate]
  by_cases h : j < n <;> simp [h]
theorem ix_newq {mm : ix_M} {r0 n0 z0 pc idx : Nat} (C : ix_Cx base xa cI cB cR D L xs mm r0 p R s m args meth c) {h : ix_H} {H : Heap} {locs : List Loc} {cells slots : Nat} (P : ix_Pt base xa cI cB cR D L xs s n0 z0 h H locs cells slots) (hlen : h.1.length < 900) {n : Int32} (hn : ¬ (n < 0 ∨ 5000 < n.toNatClampNeg)) (hneed : Cond.classLink mm.1.cls idx "VotedBank$River" ∈ ix_tb)
    (hrc : cells + 1 ≤ R.cells) (hrs : slots + n.toNatClampNeg ≤ R.slots) {la : Array Slot} {rest : List Value} (hdg : decode mm.2.1 pc = .ok (.anewarray idx, 3))
    (kk : ∀ H1 locs1, ix_Pt base xa cI cB cR D L xs s n0 z0 (h.1 ++ [(3, n.toNatClampNeg, List.replicate n.toNatClampNeg (some none))], ix_row h.2 h.1.length (fun _ => 0)) H1 locs1 (cells + 1) (slots + n.toNatClampNeg) → W p l e R s m args below meth c H1 locs1 (cells + 1) (slots + n.toNatClampNeg) Q (F0 m (pc + 3) la (.ref (ix_ad base xa h.1.length) :: rest))) : W p l e R s m args below meth c H locs cells slots Q (F0 m pc la (.int n :: rest)) := by
  obtain ⟨hx0, hb, hr, hlk, hml, hown, hts, hnm, hK, hE, -⟩ := C
  have hA : ∀ q, s.heap.size ≤ q → base ≤ q := fun q hq => by have := P.2.2.2.1; omega
  have hn1 : ¬ n < 0 := fun q => hn (Or.inl q)
  have hn2 : n.toNatClampNeg ≤ 5000 := Nat.not_lt.mp fun q => hn (Or.inr q)
  refine va_newq (D := D) (A := fun q => base ≤ q) (C := "VotedBank$River") hx0 hb hown (hts _ hneed) (va_AO.of (hts _ (ix_glob _ (by simp)))) hK P.1.1 ix_D P.2.2.1 hA (N' := n.toNatClampNeg) hn1 rfl (by omega) hrc hrs hdg (fun q cA H1 hK' hP hD hS => ?_)
  have hc := ix_tyI (k := 2) (cK := cR) hK' rfl (Or.inr (Or.inr ⟨_, rfl⟩))
  subst hc
  have hce : ix_ce base xa cI cB cA (fun _ => 0) (3, n.toNatClampNeg, List.replicate n.toNatClampNeg (some none)) = .inl (cA, n.toNatClampNeg, .inr (.inr (.inr (.inr (fun _ => none))))) := by
    show Sum.inl (cA, n.toNatClampNeg, Sum.inr (Sum.inr (Sum.inr (Sum.inr (ix_rf base xa _))))) = _
    rw [ix_rf_new]
  rw [← hce] at hP hD
  refine ix_size fun hs => ?_
  obtain ⟨hq, hP'⟩ := P.grown (sh := (3, n.toNatClampNeg, List.replicate n.toNatClampNeg (some none))) (N := n.toNatClampNeg) hlen (Nat.le_of_ble_eq_true rfl) rfl hP hD hS hs
  subst hq
  exact kk H1 locs hP'
/-- a copy of an own int array's ints into another's -/
theorem ix_copy {mm : ix_M} {r0 n0 z0 pc idx : Nat} (C : ix_Cx base xa cI cB cR D L xs mm r0 p R s m args meth c) {h : ix_H} {H : Heap} {locs : List Loc} {cells slots : Nat} (P : ix_Pt base xa cI cB cR D L xs s n0 z0 h H locs cells slots) {n dp sp : Int32} {q1 q0 : Nat} {f : ix_H → ix_R} {x : Value × ix_H} (hx : ix_cpy h n dp q1 sp q0 f = some x) (hneed : Cond.methodLink mm.1.cls idx arraycopyName ∈ ix_tb)
    {la : Array Slot} (hla : la.size = mm.2.2.1) {st : List Value} (hst : st.length ≤ 8) (hdg : decode mm.2.1 pc = .ok (.invokestatic idx, 3))
    (kk : ∀ h' H1 locs1, f h' = some x → ix_Pt base xa cI cB cR D L xs s n0 z0 h' H1 locs1 cells slots → W p l e R s m args below meth c H1 locs1 cells slots Q (F0 m (pc + 3) la (st.map (ix_v base xa)))) : W p l e R s m args below meth c H locs cells slots Q (F0 m pc la (.int n :: .int dp :: .ref (ix_ad base xa q1) :: .int sp :: .ref (ix_ad base xa q0) :: st.map (ix_v base xa))) := by
  obtain ⟨hx0, hb, hr, hlk, hml, hown, hts, hnm, hK, hE, hfr, hlo, h1r⟩ := C
  unfold ix_cpy at hx
  obtain ⟨na, sla, ha, hx⟩ := ix_own_s hx
  obtain ⟨nb, slb, hb2, hx⟩ := ix_own_s hx
  split at hx
  · cases hx
  · rename_i hc
    rw [(P.own ha).2, (P.own hb2).2]
    have g1 : ¬ sp < 0 := fun q => hc (Or.inl q)
    have g2 : ¬ dp < 0 := fun q => hc (Or.inr (Or.inl q))
    have g3 : ¬ n < 0 := fun q => hc (Or.inr (Or.inr (Or.inl q)))
    have g4 : sp.toNatClampNeg + n.toNatClampNeg ≤ na := Nat.not_lt.mp fun q => hc (Or.inr (Or.inr (Or.inr (Or.inl q))))
    have g5 : dp.toNatClampNeg + n.toNatClampNeg ≤ nb := Nat.not_lt.mp fun q => hc (Or.inr (Or.inr (Or.inr (Or.inr q))))
    refine va_copyi (D := D) (A := fun q => base ≤ q) (ty := .int) hx0 hb (hml.trans hla.symm) hown (hts _ hneed) (hts _ (ix_glob _ (by simp))) (hts _ (ix_glob _ (by simp))) (hts _ (ix_glob _ (by simp))) hK P.1.1 ix_D P.2.2.1 q0 q1 0 0 (ix_at0 ha) (ix_at0 hb2) rfl rfl rfl g1 g2 g3 g4 g5 (fun _ _ => rfl) (by omega) ?_ hdg (fun H1 locs1 hP _ hS => ?_)
    · rw [ix_cat_sum]
      have : nativeFrameWords "java/lang/System" "arraycopy" 5 = 7 := by decide
      omega
    · exact kk _ H1 locs1 hx (P.row hb2 _ hP hS)
end Stq
