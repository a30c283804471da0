/-! the interpreter's steps are the machine's -/
section Snd
variable {base : Nat} {xa : Nat → Nat} {cI cB cR : ClassId} {D : va_G} {L : Nat} {xs : Nat → Int32}
variable {p : Program} {l : Launch} {e : Env} {R : Room} {s : State} {m : MethodId} {args : Array Value} {below : List Frame} {meth : Method} {c : Code} {Q : State → Prop}
/-- the locals -/
def ix_Lo (base : Nat) (xa : Nat → Nat) (nL : Nat) (ls : ix_L) (la : Array Slot) : Prop := la.size = nL ∧ ls.length ≤ nL ∧ lv_wf la ∧ ∀ (i : Nat) (v : Value), ls[i]? = some (some v) → la[i]? = some (.val (ix_v base xa v))
def ix_lv (base : Nat) (xa : Nat → Nat) (ls : ix_L) : List (Nat × Value) := (List.range ls.length).filterMap fun i => match ls[i]? with
  | some (some v) => some (i, ix_v base xa v)
  | _ => none
theorem ix_lv_mem {ls : ix_L} {i : Nat} {w : Value} : (i, w) ∈ ix_lv base xa ls ↔ ∃ v, ls[i]? = some (some v) ∧ w = ix_v base xa v := by
  unfold ix_lv
  rw [List.mem_filterMap]
  constructor
  · rintro ⟨j, hj, h⟩
    split at h
    · rename_i v hv
      cases h
      exact ⟨v, hv, rfl⟩
    · cases h
  · rintro ⟨v, hv, rfl⟩
    have hl : i < ls.length := (List.getElem?_eq_some_iff.mp hv).1
    exact ⟨i, List.mem_range.mpr hl, by rw [hv]⟩
theorem ix_Lo.has {nL : Nat} {ls : ix_L} {la : Array Slot} (h : ix_Lo base xa nL ls la) : lv_has la nL (ix_lv base xa ls) := by
  refine ⟨h.1, h.2.2.1, fun q hq => ?_⟩
  obtain ⟨i, w⟩ := q
  obtain ⟨v, h1, rfl⟩ := ix_lv_mem.mp hq
  exact h.2.2.2 i v h1
theorem ix_Lo.get {nL : Nat} {ls : ix_L} {la : Array Slot} (h : ix_Lo base xa nL ls la) {i : Nat} {v : Value} (hi : ix_n ls i = some (some v)) : la[i]? = some (.val (ix_v base xa v)) := h.2.2.2 i v (by rw [← ix_n_eq]; exact hi)
theorem ix_Lo.stored {nL : Nat} {ls : ix_L} {la : Array Slot} (h : ix_Lo base xa nL ls la) {i : Nat} {v : Value} {la' : Array Slot} (h' : lv_has la' nL ((i, ix_v base xa v) :: (ix_lv base xa ls).filter (fun q => !(q.1 == i) && !(q.1 + 1 == i && q.2.category == 2)))) : ix_Lo base xa nL (ls.set i (some v)) la' := by
  refine ⟨h'.1, by rw [List.length_set]; exact h.2.1, h'.2.1, fun j w hj => ?_⟩
  rw [List.getElem?_set] at hj
  by_cases hij : i = j
  · subst hij
    rw [if_pos rfl] at hj
    split at hj
    · cases hj
      exact h'.2.2 (i, ix_v base xa v) List.mem_cons_self
    · cases hj
  · rw [if_neg hij] at hj
    refine h'.2.2 (j, ix_v base xa w) (List.mem_cons_of_mem _ (List.mem_filter.mpr ⟨ix_lv_mem.mpr ⟨w, hj, rfl⟩, ?_⟩))
    have h1 : ¬ j = i := fun q => hij q.symm
    simp [h1, ix_v_cat]
theorem ix_Lo.mask {nL : Nat} {la : Array Slot} {ls : ix_L} (h : ix_Lo base xa nL ls la) (bs : List Bool) : ix_Lo base xa nL (ix_mask bs ls) la := by
  have key : ∀ (bs : List Bool) (ls : ix_L), (ix_mask bs ls).length ≤ ls.length ∧ ∀ (i : Nat) (v : Value), (ix_mask bs ls)[i]? = some (some v) → ls[i]? = some (some v) := by
    intro bs
    induction bs with
    | nil => intro ls; exact ⟨by simp [ix_mask], fun i v h => by simp [ix_mask] at h⟩
    | cons b bs ih =>
      intro ls
      cases ls with
      | nil => exact ⟨by simp [ix_mask], fun i v h => by simp [ix_mask] at h⟩
      | cons x ls =>
        refine ⟨by simp only [ix_mask, List.length_cons]; exact Nat.succ_le_succ (ih ls).1, fun i v h => ?_⟩
        cases i with
        | zero =>
          cases b with
          | false => simp [ix_mask] at h
          | true => simpa [ix_mask] using h
        | succ i =>
          simp only [ix_mask, List.getElem?_cons_succ] at h ⊢
          exact (ih ls).2 i v h
  exact ⟨h.1, Nat.le_trans (key bs ls).1 h.2.1, h.2.2.1, fun i v hi => h.2.2.2 i v ((key bs ls).2 i v hi)⟩
/-- what holds of the frame's method and state -/
def ix_Cx (base : Nat) (xa : Nat → Nat) (cI cB cR : ClassId) (D : va_G) (L : Nat) (xs : Nat → Int32) (mm : ix_M) (r : Nat) (p : Program) (R : Room) (s : State) (m : MethodId) (args : Array Value) (meth : Method) (c : Code) : Prop :=
  p.tables.exec = Jvm.exec ∧ c.code = mm.2.1 ∧ meth.sig.returnType = mm.2.2.2.1 ∧ meth.locks = false ∧ c.maxLocals = mm.2.2.1 ∧ s.vm.findClass mm.1.cls = some m.cls ∧ (∀ w ∈ ix_tb, w.before args s = true) ∧ (mm.1.name = "<init>" → meth.name = "<init>") ∧
  va_K D ix_cls (ix_tys cI cB cR) s ∧ ix_Ex xa (fun q => base ≤ q) L xs s s.heap ∧ r ≤ R.frames ∧ 40 * r ≤ R.locals ∧ 1 ≤ r
/-- the heap now, beside the interpreter's -/
def ix_Pt (base : Nat) (xa : Nat → Nat) (cI cB cR : ClassId) (D : va_G) (L : Nat) (xs : Nat → Int32) (s : State) (n0 z0 : Nat) (h : ix_H) (H : Heap) (locs : List Loc) (cells slots : Nat) : Prop :=
  ix_Rep base xa cI cB cR D h H ∧ ix_Xs L xs h.2 ∧ va_S (fun q => base ≤ q) s.heap H locs ∧ s.heap.size = base + n0 ∧ cells + n0 = h.1.length ∧ slots + z0 = ix_sz h.1
/-- from this frame the machine comes to Q -/
def ix_Wt (base : Nat) (xa : Nat → Nat) (cI cB cR : ClassId) (D : va_G) (L : Nat) (xs : Nat → Int32) (p : Program) (l : Launch) (e : Env) (R : Room) (s : State) (m : MethodId) (args : Array Value) (below : List Frame) (meth : Method) (c : Code) (Q : State → Prop) (n0 z0 nL : Nat) (pc : Nat) (ls : ix_L) (st : List Value) (h : ix_H) : Prop :=
  ∀ (la : Array Slot) (H : Heap) (locs : List Loc) (cells slots : Nat), ix_Lo base xa nL ls la → ix_Pt base xa cI cB cR D L xs s n0 z0 h H locs cells slots → W p l e R s m args below meth c H locs cells slots Q (F0 m pc la (st.map (ix_v base xa)))
/-- a return's instruction, value and stack -/
def ix_Rt (base : Nat) (xa : Nat → Nat) (mm : ix_M) (v : Value) (pc : Nat) (st : List Value) : Prop :=
  (∃ iv ty, v = .int iv ∧ st = [.int iv] ∧ decode mm.2.1 pc = .ok (.ireturn, 1) ∧ mm.2.2.2.1 = some ty ∧ narrow ty (.int iv) = .int iv) ∨
  (∃ a rt, v = .ref a ∧ st = [.ref (ix_ad base xa a)] ∧ decode mm.2.1 pc = .ok (.areturn, 1) ∧ mm.2.2.2.1 = some rt ∧ ((∃ n, rt = .object n) ∨ ∃ t, rt = .array t)) ∨
  (v = .null ∧ st = [] ∧ decode mm.2.1 pc = .ok (.return_, 1) ∧ mm.2.2.2.1 = none)
theorem ix_size {H : Heap} {locs : List Loc} {cells slots : Nat} {g : JFrame} (k : H.size ≤ s.heap.size + cells → W p l e R s m args below meth c H locs cells slots Q g) : W p l e R s m args below meth c H locs cells slots Q g :=
  fun T hT X => k (by rw [← hT]; exact X.heapSize) T hT X
theorem ix_Pt.size {n0 z0 : Nat} {h : ix_H} {H : Heap} {locs : List Loc} {cells slots : Nat} (P : ix_Pt base xa cI cB cR D L xs s n0 z0 h H locs cells slots) (hs : H.size ≤ s.heap.size + cells) : H.size = base + h.1.length := by
  obtain ⟨hR, -, hS, h0, h1, -⟩ := P
  have h2 : s.heap.size ≤ H.size := hS.1
  have h3 : base + h.1.length ≤ H.size := by
    by_cases hz : h.1.length = 0
    · omega
    · have := hR.lt (k := h.1.length - 1) (by omega)
      omega
  omega
theorem ix_Pt.own {n0 z0 : Nat} {h : ix_H} {H : Heap} {locs : List Loc} {cells slots : Nat} (P : ix_Pt base xa cI cB cR D L xs s n0 z0 h H locs cells slots) {r : Nat} {sh : ix_Sh} (hr : ix_n h.1 r = some sh) : r < 900 ∧ ix_ad base xa r = base + r := by
  have h1 := ix_n_lt hr
  have h2 := P.1.2.1
  have h3 : r < 900 := by omega
  exact ⟨h3, ix_ad_own (by omega)⟩
/-- another heap in its place: an own cell's ints -/
theorem ix_Pt.row {n0 z0 : Nat} {h : ix_H} {H H1 : Heap} {locs locs1 : List Loc} {cells slots : Nat} (P : ix_Pt base xa cI cB cR D L xs s n0 z0 h H locs cells slots) {r : Nat} {sh : ix_Sh} (hr : ix_n h.1 r = some sh) (f : Nat → Int32)
    (hP : va_P D ix_cls ((ix_ws base xa cI cB cR h.2 0 h.1).set r (base + r, ix_ce base xa cI cB cR f sh)) H1) (hS : va_S (fun q => base ≤ q) s.heap H1 locs1) : ix_Pt base xa cI cB cR D L xs s n0 z0 (h.1, ix_row h.2 r f) H1 locs1 cells slots := by
  have h1 := (P.own hr).1
  rw [ix_ws_row f hr] at hP
  exact ⟨⟨hP, P.1.2⟩, P.2.1.row (by omega) f, hS, P.2.2.2.1, P.2.2.2.2.1, P.2.2.2.2.2⟩
/-- .. its references -/
theorem ix_Pt.shape {n0 z0 : Nat} {h : ix_H} {H H1 : Heap} {locs locs1 : List Loc} {cells slots : Nat} (P : ix_Pt base xa cI cB cR D L xs s n0 z0 h H locs cells slots) {r q n : Nat} {sl : List (Option (Option Nat))} (sl' : List (Option (Option Nat))) (hr : ix_n h.1 r = some (q, n, sl))
    (hP : va_P D ix_cls ((ix_ws base xa cI cB cR h.2 0 h.1).set r (base + r, ix_ce base xa cI cB cR (h.2 r) (q, n, sl'))) H1) (hS : va_S (fun q => base ≤ q) s.heap H1 locs1) : ix_Pt base xa cI cB cR D L xs s n0 z0 (h.1.set r (q, n, sl'), h.2) H1 locs1 cells slots := by
  rw [ix_ws_set _ (ix_n_lt hr)] at hP
  refine ⟨⟨hP, ?_, fun sh hsh => ?_⟩, P.2.1, hS, P.2.2.2.1, ?_, ?_⟩
  · show (h.1.set r _).length ≤ 900
    rw [List.length_set]
    exact P.1.2.1
  · rcases List.mem_or_eq_of_mem_set hsh with h1 | rfl
    · exact P.1.2.2 _ h1
    · rw [ix_n_eq] at hr
      exact P.1.2.2 (q, n, sl) (List.mem_of_getElem? hr)
  · show cells + n0 = (h.1.set r _).length
    rw [List.length_set]
    exact P.2.2.2.2.1
  · show slots + z0 = ix_sz (h.1.set r _)
    rw [ix_sz_set _ _ _ _ _ _ hr]
    exact P.2.2.2.2.2
end Snd
