section Cll
variable {base : Nat} {xa : Nat → Nat} {cI cB cR : ClassId} {D : va_G} {L : Nat} {xs : Nat → Int32}
variable {p : Program} {l : Launch} {e : Env} {R : Room} {s : State} {m : MethodId} {args : Array Value} {below : List Frame} {meth : Method} {c : Code} {Q : State → Prop}
/-- a method's words: its code, and all the tables' -/
def ix_tg : List Cond := lw_tbl.filter goodWord
def ix_wd (mm : ix_M) : List Cond := .code mm.1 mm.2.1 mm.2.2.1 mm.2.2.2.1 :: ix_tg
/-- .. the others, by its start -/
def ix_Nw (U : State) : Prop := ∀ w ∈ ix_tb, ix_bad w = true → w.before #[] U = true
theorem ix_bad_warm {w : Cond} (hb : ix_bad w = true) {A A' : Array Value} {u U : State} (hW : u.WarmedH U.vm) (h : w.before A u = true) : w.before A' U = true := by
  cases w <;> first | (cases hb; done) | skip
  case methodLinkNest a i x hh => exact va_Nw.use rfl ((va_Nw.of rfl h).warmM hW)
  case fieldLinkNest a i r n d hh => exact va_Nw.use rfl ((va_Nw.of rfl h).warmF hW)
  case arrayOver t =>
    cases t <;> first | (cases hb; done) | exact va_AO.use ((va_AO.of h).moved hW.alike)
theorem ix_bad_same {w : Cond} (hb : ix_bad w = true) {A A' : Array Value} {u U : State} (hv : U.vm = u.vm) (h : w.before A u = true) : w.before A' U = true := by
  cases w <;> first | (cases hb; done) | skip
  case methodLinkNest a i x hh => exact va_tabs rfl hv.symm h
  case fieldLinkNest a i r n d hh => exact va_tabs rfl hv.symm h
  case arrayOver t =>
    cases t <;> first | (cases hb; done) | exact va_AO.use ((va_AO.of h).moved (by rw [hv]; exact Vm.Alike.refl _))
def ix_rm (r mc ms : Nat) : Room := { frames := r, cells := mc, slots := ms, locals := 40 * r }
def ix_rv (base : Nat) (xa : Nat → Nat) (mm : ix_M) (v : Value) : Option Value := match mm.2.2.2.1 with
  | none => none
  | some _ => some (ix_v base xa v)
/-- how a method begins, how it ends -/
def ix_Pc (base : Nat) (xa : Nat → Nat) (cI cB cR : ClassId) (D : va_G) (L : Nat) (xs : Nat → Int32) (as : List Value) (h : ix_H) : Array Value → State → Prop := va_Pc (as.map (ix_v base xa)) (fun U => ix_Rep base xa cI cB cR D h U.heap ∧ ix_Xs L xs h.2 ∧ va_K D ix_cls (ix_tys cI cB cR) U ∧ ix_Ex xa (fun q => base ≤ q) L xs U U.heap ∧ U.heap.size = base + h.1.length ∧ ix_Nw U)
def ix_Qc (base : Nat) (xa : Nat → Nat) (cI cB cR : ClassId) (D : va_G) (L : Nat) (xs : Nat → Int32) (mm : ix_M) (y : Value × ix_H) : Array Value → State → Outcome → State → Prop := fun _ st oc t => oc = .returned (ix_rv base xa mm y.1) ∧ ix_Rep base xa cI cB cR D y.2 t.heap ∧ ix_Xs L xs y.2.2 ∧ va_F (fun q => base ≤ q) st t
/-- a method's contract for one start and one end -/
def ix_Mt (base : Nat) (xa : Nat → Nat) (cI cB cR : ClassId) (D : va_G) (l : Launch) (L : Nat) (xs : Nat → Int32) (mm : ix_M) (r : Nat) (as : List Value) (h : ix_H) (y : Value × ix_H) : Prop :=
  Met l mm.1 (ix_wd mm) (ix_rm r (y.2.1.length - h.1.length) (ix_sz y.2.1 - ix_sz h.1)) (ix_Pc base xa cI cB cR D L xs as h) (ix_Qc base xa cI cB cR D L xs mm y) (y.2.1.length - h.1.length) (ix_sz y.2.1 - ix_sz h.1) (fun q => base ≤ q)
theorem ix_Pc_blind (as : List Value) (h : ix_H) : FrameBlind (ix_Pc base xa cI cB cR D L xs as h) := by
  intro a U g mk q
  obtain ⟨q0, q1, q2, q3, q4, q5, q6⟩ := q
  exact ⟨q0, q1, q2, va_K.moved (u := U) (U := U.calling g mk a) (Vm.Alike.refl U.vm) q3, ix_Ex.same (u := U) (U := U.calling g mk a) rfl q4, q5, fun w hw hb => ix_bad_same (u := U) hb rfl (q6 w hw hb)⟩
theorem ix_Pc_of {mm0 : ix_M} {r0 n0 z0 : Nat} (C : ix_Cx base xa cI cB cR D L xs mm0 r0 p R s m args meth c) {h : ix_H} {H : Heap} {locs : List Loc} {cells slots : Nat} (P : ix_Pt base xa cI cB cR D L xs s n0 z0 h H locs cells slots) (hs : H.size ≤ s.heap.size + cells) (as : List Value) : ∀ U : State, U.heap = H → s.WarmedH U.vm → ix_Pc base xa cI cB cR D L xs as h (as.map (ix_v base xa)).toArray U := by
  intro U hU hW
  obtain ⟨hx0, hb, hr, hlk, hml, hown, hts, hnm, hK, hE, -⟩ := C
  refine ⟨rfl, by rw [hU]; exact P.1, P.2.1, va_K.moved hW.alike hK, ?_, by rw [hU]; exact P.size hs, fun w hw hb => ix_bad_warm hb hW (hts w hw)⟩
  rw [hU]
  exact (hE.kept (fun a h1 h2 => P.2.2.1.2.1 a h1 h2)).moved hW
theorem ix_good_tbl {mm : ix_M} (hw : ∀ w ∈ ix_mw mm, w ∈ ix_tb) : GoodIn ix_tb (ix_wd mm) := by
  intro w h
  rcases List.mem_cons.mp h with rfl | h
  · exact ⟨hw _ (by simp [ix_mw]), Or.inl rfl⟩
  · obtain ⟨h1, h2⟩ := List.mem_filter.mp h
    exact ⟨List.mem_filter.mpr ⟨h1, by unfold ix_use; rw [h2]; rfl⟩, good_of_word h2⟩
/-- what comes behind a call -/
theorem ix_callG {mm0 mm : ix_M} {r0 n0 z0 pc : Nat} (C : ix_Cx base xa cI cB cR D L xs mm0 r0 p R s m args meth c) {h : ix_H} {H : Heap} {locs : List Loc} {cells slots : Nat} (P : ix_Pt base xa cI cB cR D L xs s n0 z0 h H locs cells slots) {y : Value × ix_H} (hPy : ix_P h.1 y.2) {la : Array Slot} {st0 rest : List Value} {a : Array Value}
    (hr : va_Run p l e R s m args below meth c H locs cells slots (y.2.1.length - h.1.length) (ix_sz y.2.1 - ix_sz h.1) (F0 m pc la st0) rest (ix_Qc base xa cI cB cR D L xs mm y a) (fun q => base ≤ q))
    (kk : ∀ H1 locs1 cells1 slots1, ix_Pt base xa cI cB cR D L xs s n0 z0 y.2 H1 locs1 cells1 slots1 → W p l e R s m args below meth c H1 locs1 cells1 slots1 Q (F0 m (pc + 3) la ((ix_rv base xa mm y.1).toList ++ rest))) : W p l e R s m args below meth c H locs cells slots Q (F0 m pc la st0) := by
  intro T hT X
  obtain ⟨v, st₀, t, T', L2, h0, X', hL, e1, e2, ⟨hv, hR, hX, hz, hk⟩, st⟩ := hr T hT X
  cases hv
  rw [h0] at hz hk
  obtain ⟨-, -, hS, g0, g1, g2⟩ := P
  obtain ⟨t2, a1, b1⟩ := kk T'.heap (locs ++ L2) _ _ ⟨by rw [e1]; exact hR, hX, ⟨Nat.le_trans hS.1 (by rw [e1]; exact hz), fun q h1 h2 => by rw [e1, hk q (Nat.lt_of_lt_of_le h1 hS.1) h2]; exact hS.2.1 q h1 h2, fun q hq => by
      rcases List.mem_append.mp hq with h | h
      · exact hS.2.2 q h
      · exact hL q h⟩, g0, by have := hPy.1; omega, by have := hPy.2; omega⟩ T' rfl X'
  exact ⟨t2, st t2 a1, b1⟩
end Cll
