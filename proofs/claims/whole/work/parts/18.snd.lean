section Sd
variable {base : Nat} {xa : Nat → Nat} {cI cB cR : ClassId} {D : va_G} {L : Nat} {xs : Nat → Int32}
variable {p : Program} {l : Launch} {e : Env} {R : Room} {s : State} {m : MethodId} {args : Array Value} {below : List Frame} {meth : Method} {c : Code} {Q : State → Prop}
theorem ix_go_W (hAll : ix_All) {mm : ix_M} {r0 n0 z0 : Nat} (C : ix_Cx base xa cI cB cR D L xs mm r0 p R s m args meth c) (hGd : ix_Gd mm) {x : Value × ix_H} (hrc : x.2.1.length ≤ n0 + R.cells) (hrs : ix_sz x.2.1 ≤ z0 + R.slots)
    (hret : ∀ pc st la H locs cells slots, ix_Rt base xa mm x.1 pc st → ix_Pt base xa cI cB cR D L xs s n0 z0 x.2 H locs cells slots → W p l e R s m args below meth c H locs cells slots Q (F0 m pc la st))
    {cb : ix_JP} {cl : ix_CL} (hcl : ix_Cl base xa cI cB cR D l L xs r0 cl) (hbP : ∀ t ls st h x, cb t ls st h = some x → ix_P h.1 x.2) (hcP : ∀ a as h x, cl a as h = some x → ix_P h.1 x.2)
    (hcb : ∀ t ls st h, cb t ls st h = some x → ix_Wt base xa cI cB cR D L xs p l e R s m args below meth c Q n0 z0 mm.2.2.1 t ls st h) :
    ∀ (k : Nat) (rest : List ix_E), (∀ e0 ∈ rest, e0 ∈ mm.2.2.2.2.2.2) → ∀ (pc : Nat) (ls : ix_L) (st : List Value) (h : ix_H), ix_go mm.2.2.2.2.2.2 cb (ix_D0 cl) k rest pc ls st h = some x → ix_Wt base xa cI cB cR D L xs p l e R s m args below meth c Q n0 z0 mm.2.2.1 pc ls st h := by
  intro k
  induction k with
  | zero => intro rest _ pc ls st h hx; exact absurd hx (by simp [ix_go])
  | succ k ih =>
    intro rest hin pc ls st h hx
    rcases rest with _ | ⟨e0, rest⟩
    · exact absurd hx (by simp [ix_go])
    · unfold ix_go at hx
      obtain ⟨h1, hx⟩ := ix_bif_s hx
      have hpc := ix_beq h1
      subst hpc
      rcases hr : e0.2.2.2.1 with _ | kp
      · rw [hr] at hx
        exact ix_step hAll C hGd hrc hrs hret hcl e0 (hin e0 List.mem_cons_self) (fun ls st h hx => ⟨ix_go_P _ hbP hcP _ _ _ _ _ _ _ hx, ih rest (fun q hq => hin q (List.mem_cons_of_mem _ hq)) _ ls st h hx⟩) (fun t ls st h hx => ih (ix_fd mm.2.2.2.2.2.2 t) (fun q hq => (List.dropWhile_sublist _).subset hq) t ls st h hx) ls st h hx
      · rw [hr] at hx
        have hW := hcb _ _ _ _ hx
        exact fun la H locs cells slots hL P => hW la H locs cells slots (hL.mask kp) P
theorem ix_at_W (hAll : ix_All) {mm : ix_M} {r0 n0 z0 : Nat} (C : ix_Cx base xa cI cB cR D L xs mm r0 p R s m args meth c) (hGd : ix_Gd mm) {x : Value × ix_H} (hrc : x.2.1.length ≤ n0 + R.cells) (hrs : ix_sz x.2.1 ≤ z0 + R.slots)
    (hret : ∀ pc st la H locs cells slots, ix_Rt base xa mm x.1 pc st → ix_Pt base xa cI cB cR D L xs s n0 z0 x.2 H locs cells slots → W p l e R s m args below meth c H locs cells slots Q (F0 m pc la st))
    {cb : ix_JP} {cl : ix_CL} (hcl : ix_Cl base xa cI cB cR D l L xs r0 cl) (hbP : ∀ t ls st h x, cb t ls st h = some x → ix_P h.1 x.2) (hcP : ∀ a as h x, cl a as h = some x → ix_P h.1 x.2)
    (hcb : ∀ t ls st h, cb t ls st h = some x → ix_Wt base xa cI cB cR D L xs p l e R s m args below meth c Q n0 z0 mm.2.2.1 t ls st h)
    (pc : Nat) (ls : ix_L) (st : List Value) (h : ix_H) (hx : ix_at mm.2.2.2.2.2.2 cb (ix_D0 cl) pc ls st h = some x) : ix_Wt base xa cI cB cR D L xs p l e R s m args below meth c Q n0 z0 mm.2.2.1 pc ls st h := by
  unfold ix_at at hx
  have hsub : ∀ t, ∀ q ∈ ix_fd mm.2.2.2.2.2.2 t, q ∈ mm.2.2.2.2.2.2 := fun t q hq => (List.dropWhile_sublist _).subset hq
  rcases hq : ix_fd mm.2.2.2.2.2.2 pc with _ | ⟨e0, rest⟩
  · rw [hq] at hx; exact absurd hx (by simp)
  · rw [hq] at hx
    have hmem : ∀ q ∈ e0 :: rest, q ∈ mm.2.2.2.2.2.2 := fun q h => hsub pc q (by rw [hq]; exact h)
    have hpc : e0.1 = pc := by
      have h2 : (!Nat.beq e0.1 pc) ≠ true := by
        have := List.head_dropWhile_not (fun e => !Nat.beq e.1 pc) (l := mm.2.2.2.2.2.2) (by
          intro hz
          have : ix_fd mm.2.2.2.2.2.2 pc = [] := hz
          rw [hq] at this
          cases this)
        have h3 : (List.dropWhile (fun e => !Nat.beq e.1 pc) mm.2.2.2.2.2.2) = e0 :: rest := hq
        simp only [h3, List.head_cons] at this
        rw [this]
        decide
      cases hz : Nat.beq e0.1 pc
      · rw [hz] at h2; exact absurd rfl h2
      · exact ix_beq hz
    subst hpc
    have go := ix_go_W hAll C hGd hrc hrs hret hcl hbP hcP hcb
    exact ix_step hAll C hGd hrc hrs hret hcl e0 (hmem e0 List.mem_cons_self) (fun ls st h hx => ⟨ix_go_P _ hbP hcP _ _ _ _ _ _ _ hx, go 3000 rest (fun q hq => hmem q (List.mem_cons_of_mem _ hq)) _ ls st h hx⟩) (fun t ls st h hx => go 3000 (ix_fd mm.2.2.2.2.2.2 t) (hsub t) t ls st h hx) ls st h hx
end Sd
/-- what the interpreter says of a frame of method mi, the machine does -/
def ix_Snd (base : Nat) (xa : Nat → Nat) (cI cB cR : ClassId) (D : va_G) (l : Launch) (L : Nat) (xs : Nat → Int32) (n : Nat) : Prop :=
  ∀ (mi r pc : Nat) (ls : ix_L) (st : List Value) (h : ix_H) (x : Value × ix_H), ix_sem n mi r pc ls st h = some x → ∀ mm, ix_n ix_ms mi = some mm →
    ∀ (p : Program) (e : Env) (R : Room) (s : State) (m : MethodId) (args : Array Value) (below : List Frame) (meth : Method) (c : Code) (Q : State → Prop) (n0 z0 : Nat), ix_Cx base xa cI cB cR D L xs mm r p R s m args meth c → x.2.1.length ≤ n0 + R.cells → ix_sz x.2.1 ≤ z0 + R.slots →
    (∀ pc st la H locs cells slots, ix_Rt base xa mm x.1 pc st → ix_Pt base xa cI cB cR D L xs s n0 z0 x.2 H locs cells slots → W p l e R s m args below meth c H locs cells slots Q (F0 m pc la st)) →
    ix_Wt base xa cI cB cR D L xs p l e R s m args below meth c Q n0 z0 mm.2.2.1 pc ls st h
section Se
variable {base : Nat} {xa : Nat → Nat} {cI cB cR : ClassId} {D : va_G} {l : Launch} {L : Nat} {xs : Nat → Int32}
theorem ix_lv_args (as : List Value) : ∀ (k i : Nat) (v : Value), as[i]? = some v → (k + i, ix_v base xa v) ∈ lv_args k (as.map (ix_v base xa)) := by
  induction as with
  | nil => intro k i v h; simp at h
  | cons a as ih =>
    intro k i v h
    simp only [List.map_cons, lv_args, ix_v_cat]
    cases i with
    | zero =>
      simp only [List.getElem?_cons_zero, Option.some.injEq] at h
      subst h
      exact List.mem_cons_self
    | succ i =>
      simp only [List.getElem?_cons_succ] at h
      have := ih (k + 1) i v h
      rw [show k + (i + 1) = k + 1 + i by omega]
      exact List.mem_cons_of_mem _ this
theorem ix_lg_len (as : List Value) : (lg_sl (as.map (ix_v base xa))).length = as.length := by
  induction as with
  | nil => rfl
  | cons a as ih =>
    simp only [lg_sl, List.map_cons, List.flatMap_cons, ix_v_cat] at ih ⊢
    simp only [List.length_append, ih, List.length_cons]
    simp
    omega
theorem ix_rk_pos {mi : Nat} {mm : ix_M} (h : ix_n ix_ms mi = some mm) (as : List Value) : 1 ≤ ix_rk mi as := by
  have hlen : ix_ms.length = 301 := by decide +kernel
  have h1 : mi < 301 := by
    have := ix_n_lt h
    rw [hlen] at this
    exact this
  have h2 : ∀ k, k < 301 → ∃ q ∈ ix_rks, ix_n ix_rks k = some q ∧ 1 ≤ q.1 := by decide +kernel
  obtain ⟨⟨b, f⟩, -, h3, h4⟩ := h2 mi h1
  unfold ix_rk
  rw [h3]
  have h5 : 1 ≤ b := h4
  cases f with
  | zero => exact h5
  | succ f =>
    dsimp only
    split <;> omega
/-- Math's two in the interpreter -/
theorem ix_minS {n r : Nat} {as : List Value} {h : ix_H} {y : Value × ix_H} (hx : ix_sem n 285 r 0 (ix_in 285 as) [] h = some y) (hl : as.length = 2) : ∃ u w, as = [.int u, .int w] ∧ y = (.int (if w < u then w else u), h) := by
  obtain ⟨v, w, rfl⟩ : ∃ v w, as = [v, w] := by
    rcases as with _ | ⟨v, _ | ⟨w, _ | ⟨z, as⟩⟩⟩
    · cases hl
    · cases hl
    · exact ⟨v, w, rfl⟩
    · simp at hl
  cases n with
  | zero => exact absurd hx (by simp [ix_sem])
  | succ n =>
    cases v <;> first | (cases hx; done) | skip
    cases w <;> first | (cases hx; done) | skip
    rename_i u w
    have hy : (if w < u then some (Value.int w, h) else some (Value.int u, h)) = some y := hx
    refine ⟨u, w, rfl, ?_⟩
    by_cases hc : w < u
    · rw [if_pos hc] at hy ⊢; exact (Option.some.inj hy).symm
    · rw [if_neg hc] at hy ⊢; exact (Option.some.inj hy).symm
theorem ix_maxS {n r : Nat} {as : List Value} {h : ix_H} {y : Value × ix_H} (hx : ix_sem n 289 r 0 (ix_in 289 as) [] h = some y) (hl : as.length = 2) : ∃ u w, as = [.int u, .int w] ∧ y = (.int (if u < w then w else u), h) := by
  obtain ⟨v, w, rfl⟩ : ∃ v w, as = [v, w] := by
    rcases as with _ | ⟨v, _ | ⟨w, _ | ⟨z, as⟩⟩⟩
    · cases hl
    · cases hl
    · exact ⟨v, w, rfl⟩
    · simp at hl
  cases n with
  | zero => exact absurd hx (by simp [ix_sem])
  | succ n =>
    cases v <;> first | (cases hx; done) | skip
    cases w <;> first | (cases hx; done) | skip
    rename_i u w
    have hy : (if u < w then some (Value.int w, h) else some (Value.int u, h)) = some y := hx
    refine ⟨u, w, rfl, ?_⟩
    by_cases hc : u < w
    · rw [if_pos hc] at hy ⊢; exact (Option.some.inj hy).symm
    · rw [if_neg hc] at hy ⊢; exact (Option.some.inj hy).symm
/-- a method's contract out of what the interpreter says -/
theorem ix_met {n : Nat} (hS : ix_Snd base xa cI cB cR D l L xs n) {mj : Nat} {mm : ix_M} (hm : ix_n ix_ms mj = some mm) (hGd : ix_Gd mm) {as : List Value} {h : ix_H} {y : Value × ix_H} (hx : ix_sem n mj (ix_rk mj as) 0 (ix_in mj as) [] h = some y) (hlen : as.length ≤ mm.2.2.1) (hmt : ix_mth mm = false) : ix_Mt base xa cI cB cR D l L xs mm (ix_rk mj as) as h y := by
  have hPy := ix_sem_P _ _ _ _ _ _ _ _ hx
  have hnb := hGd.2
  simp only [ix_nmb, Bool.and_eq_true, hmt, Bool.or_false] at hnb
  refine Met.ofW (cc := mm.2.1) (maxL := mm.2.2.1) (ret := mm.2.2.2.1) hnb.1 rfl ?_
  intro p e s m args below meth c s₁ B hml hv
  obtain ⟨rfl, hR, hX, hK, hE, hsz, hNw⟩ := hv
  have hts0 := atoms_spec (ws := ix_wd mm) B.pre
  have hl := lv_entry (as.map (ix_v base xa)) (n := mm.2.2.1) (by rw [ix_lg_len]; exact hlen)
  rw [lg_entry_eq]
  generalize (lg_sl (as.map (ix_v base xa)) ++ List.replicate (mm.2.2.1 - (lg_sl (as.map (ix_v base xa))).length) Slot.unset).toArray = la at hl ⊢
  have hin : ix_mL mj = mm.2.2.1 := by unfold ix_mL; rw [hm]
  have hL : ix_Lo base xa mm.2.2.1 (ix_in mj as) la := by
    refine ⟨hl.1, ?_, hl.2.1, fun i v hi => ?_⟩
    · unfold ix_in
      rw [hin, List.length_append, List.length_map, List.length_replicate]
      omega
    · unfold ix_in at hi
      by_cases hi2 : i < as.length
      · rw [List.getElem?_append_left (by rw [List.length_map]; exact hi2), List.getElem?_map] at hi
        obtain ⟨w, h1, h2⟩ := Option.map_eq_some_iff.mp hi
        cases h2
        have := hl.2.2 _ (ix_lv_args (base := base) (xa := xa) as 0 i v h1)
        rw [Nat.zero_add] at this
        exact this
      · rw [List.getElem?_append_right (by rw [List.length_map]; omega), List.getElem?_replicate] at hi
        split at hi <;> cases hi
  have hCx : ix_Cx base xa cI cB cR D L xs mm (ix_rk mj as) p (headSpec (ix_wd mm) (ix_rm (ix_rk mj as) (y.2.1.length - h.1.length) (ix_sz y.2.1 - ix_sz h.1))).room s m (as.map (ix_v base xa)).toArray meth c :=
    ⟨B.exec, B.bytes, B.returns, B.notSynchronized, hml, findClass_of_methodNamed B.named, fun w hw => (by
      obtain ⟨h1, h2⟩ := List.mem_filter.mp hw
      unfold ix_use at h2
      rcases Bool.or_eq_true_iff.mp h2 with h3 | h3
      · exact hts0 w (List.mem_cons_of_mem _ (List.mem_filter.mpr ⟨h1, h3⟩))
      · exact ix_bad_same h3 rfl (hNw w hw h3)), fun hz => (name_of_methodNamed B.named B.method).1.trans hz, hK, hE, Nat.le_refl _, Nat.le_refl _, ix_rk_pos hm as⟩
  have hPt : ix_Pt base xa cI cB cR D L xs s h.1.length (ix_sz h.1) h s.heap [] 0 0 := ⟨hR, hX, va_S.rf, hsz, Nat.zero_add _, Nat.zero_add _⟩
  have a1 := hPy.1
  have a2 := hPy.2
  refine hS mj (ix_rk mj as) 0 (ix_in mj as) [] h y hx mm hm p e _ s m _ below meth c _ h.1.length (ix_sz h.1) hCx (by show _ ≤ _ + (y.2.1.length - h.1.length); omega) (by show _ ≤ _ + (ix_sz y.2.1 - ix_sz h.1); omega) ?_ la s.heap [] 0 0 hL hPt
  intro pc st la H locs cells slots hRt P
  have b1 := P.2.2.2.2.1
  have b2 := P.2.2.2.2.2
  have hc1 : y.2.1.length - h.1.length = cells := by omega
  have hc2 : ix_sz y.2.1 - ix_sz h.1 = slots := by omega
  have hlk : meth.locks = false := B.notSynchronized
  rw [hc1, hc2]
  rcases hRt with ⟨iv, ty, h1, rfl, hd, g1, g2⟩ | ⟨a, rt, h1, rfl, hd, g1, g2⟩ | ⟨h1, rfl, hd, g1⟩
  · refine W.zret B.exec B.bytes (B.returns.trans g1) g2 (fun t ht hW => ⟨?_, by rw [ht]; exact P.1, P.2.1, P.2.2.1.F ht⟩) P.2.2.1.2.2 hd hlk
    unfold ix_rv
    rw [g1, h1]
    rfl
  · refine W.aret B.exec B.bytes (B.returns.trans g1) g2 (Or.inr ⟨_, rfl⟩) (fun t ht hW => ⟨?_, by rw [ht]; exact P.1, P.2.1, P.2.2.1.F ht⟩) P.2.2.1.2.2 hd hlk
    unfold ix_rv
    rw [g1, h1]
    rfl
  · refine W.vret B.exec B.bytes (B.returns.trans g1) (fun t ht hW => ⟨?_, by rw [ht]; exact P.1, P.2.1, P.2.2.1.F ht⟩) P.2.2.1.2.2 hd hlk
    unfold ix_rv
    rw [g1]
theorem ix_sound (hAll : ix_All) : ∀ n, ix_Snd base xa cI cB cR D l L xs n := by
  intro n
  induction n with
  | zero => intro mi r pc ls st h x hx; exact absurd hx (by simp [ix_sem])
  | succ n ih =>
    intro mi r pc ls st h x hx mm hm p e R s m args below meth c Q n0 z0 C hrc hrs hret
    have htab : ix_tab mi = mm.2.2.2.2.2.2 := by unfold ix_tab; rw [hm]
    have hx' : ix_at (ix_tab mi) (ix_sem n mi r) (ix_D0 (ix_clS (ix_sem n) r)) pc ls st h = some x := hx
    rw [htab] at hx'
    refine ix_at_W hAll C (hAll.1 mi mm hm) hrc hrs hret (cl := ix_clS (ix_sem n) r) ?_ (fun t ls st h x hx => ix_sem_P n mi r t ls st h x hx) (ix_clS_P (ix_sem_P n) r) (fun t ls st h hx => ih mi r t ls st h x hx mm hm p e R s m args below meth c Q n0 z0 C hrc hrs hret) pc ls st h hx'
    intro a as h' y hy
    unfold ix_clS at hy
    obtain ⟨h1, hy⟩ := ix_bif_s hy
    have hlt : ix_rk a as < r := Nat.le_of_ble_eq_true h1
    rcases hma : ix_n ix_ms a with _ | mj
    · exfalso
      cases n with
      | zero => exact absurd hy (by simp [ix_sem])
      | succ n =>
        have hy' : ix_at (ix_tab a) (ix_sem n a (ix_rk a as)) (ix_D0 (ix_clS (ix_sem n) (ix_rk a as))) 0 (ix_in a as) [] h' = some y := hy
        have ht : ix_tab a = [] := by unfold ix_tab; rw [hma]
        rw [ht] at hy'
        cases hy'
    · exact ⟨mj, ix_rk a as, rfl, hlt, ix_sem_P _ _ _ _ _ _ _ _ hy, fun hlen hmt => ix_met ih hma (hAll.1 a mj hma) hy hlen hmt, fun hl => ⟨fun ha => by subst ha; exact ix_minS hy hl, fun ha => by subst ha; exact ix_maxS hy hl⟩⟩
end Se
