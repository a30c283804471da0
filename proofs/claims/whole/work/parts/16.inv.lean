section Inv
variable {base : Nat} {xa : Nat → Nat} {cI cB cR : ClassId} {D : va_G} {L : Nat} {xs : Nat → Int32}
variable {p : Program} {l : Launch} {e : Env} {R : Room} {s : State} {m : MethodId} {args : Array Value} {below : List Frame} {meth : Method} {c : Code} {Q : State → Prop}
theorem ix_invS {mm0 mm : ix_M} {r0 rj n0 z0 pc idx : Nat} {v : Int32} (C : ix_Cx base xa cI cB cR D L xs mm0 r0 p R s m args meth c) {h : ix_H} {H : Heap} {locs : List Loc} {cells slots : Nat} (P : ix_Pt base xa cI cB cR D L xs s n0 z0 h H locs cells slots) {y : Value × ix_H} (hPy : ix_P h.1 y.2) {as st' : List Value} (hMt : ix_Mt base xa cI cB cR D l L xs mm rj as h y) (hrj : rj < r0)
    (hcs : y.2.1.length ≤ n0 + R.cells) (hss : ix_sz y.2.1 ≤ z0 + R.slots) (hGd : ix_Gd mm) (hmw : ∀ w ∈ ix_mw mm, w ∈ ix_tb) (hst : mm.2.2.2.2.2.1 = true) (hlen : as.length = mm.2.2.2.2.1) (hst8 : st'.length ≤ 8) (hneed : (if v = 1 then Cond.methodLinkNest mm0.1.cls idx mm.1 "VotedBank" else Cond.methodLink mm0.1.cls idx mm.1) ∈ ix_tb) {la : Array Slot} (hla : la.size = mm0.2.2.1) (hdg : decode mm0.2.1 pc = .ok (.invokestatic idx, 3))
    (kk : ∀ H1 locs1 cells1 slots1, ix_Pt base xa cI cB cR D L xs s n0 z0 y.2 H1 locs1 cells1 slots1 → W p l e R s m args below meth c H1 locs1 cells1 slots1 Q (F0 m (pc + 3) la ((ix_rv base xa mm y.1).toList ++ st'.map (ix_v base xa)))) : W p l e R s m args below meth c H locs cells slots Q (F0 m pc la ((as.reverse ++ st').map (ix_v base xa))) := by
  refine ix_size fun hs => ?_
  have hC := C
  obtain ⟨hx0, hb, hr, hlk, hml, hown, hts, hnm, hK, hE, hfr, hlo, h1r⟩ := C
  have hnb := hGd.2
  simp only [ix_nmb, Bool.and_eq_true, decide_eq_true_eq] at hnb
  obtain ⟨-, hd1, hd2, hd3, hd4⟩ := hnb
  have hGI := ix_good_tbl hmw
  have hini : (Cond.initialized mm.1.cls).before args s = true := hts _ (hmw _ (by simp [ix_mw]))
  have hstat : (Cond.static mm.1).before args s = true := hts _ (hmw _ (by simp [ix_mw, hst]))
  have hroom : (ix_rm rj (y.2.1.length - h.1.length) (ix_sz y.2.1 - ix_sz h.1)).frames + 1 ≤ R.frames ∧ 8 + (mm.2.2.1 + 11) + (ix_rm rj (y.2.1.length - h.1.length) (ix_sz y.2.1 - ix_sz h.1)).locals ≤ R.locals := by
    show rj + 1 ≤ R.frames ∧ 8 + (mm.2.2.1 + 11) + 40 * rj ≤ R.locals
    omega
  have hf : cells + (y.2.1.length - h.1.length) ≤ R.cells ∧ slots + (ix_sz y.2.1 - ix_sz h.1) ≤ R.slots := by
    have a1 := hPy.1
    have a2 := hPy.2
    have a3 := P.2.2.2.2.1
    have a4 := P.2.2.2.2.2
    omega
  have hp : PreS s H (ix_Pc base xa cI cB cR D L xs as h) (as.map (ix_v base xa)) := ⟨ix_Pc_blind as h, ix_Pc_of hC P hs as⟩
  have hstk : (F0 m pc la ((as.reverse ++ st').map (ix_v base xa))).stack = (as.map (ix_v base xa)).reverse ++ st'.map (ix_v base xa) := by simp
  refine ix_callG hC P hPy (mm := mm) (a := (as.map (ix_v base xa)).toArray) (rest := st'.map (ix_v base xa)) ?_ kk
  by_cases hv : v = 1
  · rw [if_pos hv] at hneed
    exact va_runSN ⟨hx0, hb, hml, hown, hts⟩ hMt ⟨va_cnB _ hts hGI rfl rfl rfl (va_Nw.of rfl (hts _ hneed)) hini ⟨hd1, hd2, hd3⟩ hroom, hstat, trivial⟩ hp rfl (by rw [List.length_map]; exact hlen) hla hstk (lv_room (by rw [ix_cat_sum]; exact hst8)) hdg hf
  · rw [if_neg hv] at hneed
    exact va_runS ⟨hx0, hb, hml, hown, hts⟩ hMt ⟨callB_of _ hts hGI rfl rfl rfl hini (hts _ hneed) ⟨hd1, hd2, hd3⟩ hroom, hstat⟩ hp rfl (by rw [List.length_map]; exact hlen) hla hstk (lv_room (by rw [ix_cat_sum]; exact hst8)) hdg hf
theorem ix_invV {mm0 mm : ix_M} {r0 rj n0 z0 pc idx d rr : Nat} {v : Int32} (C : ix_Cx base xa cI cB cR D L xs mm0 r0 p R s m args meth c) {h : ix_H} {H : Heap} {locs : List Loc} {cells slots : Nat} (P : ix_Pt base xa cI cB cR D L xs s n0 z0 h H locs cells slots) {y : Value × ix_H} (hPy : ix_P h.1 y.2) {as st' : List Value} (hMt : ix_Mt base xa cI cB cR D l L xs mm rj (.ref rr :: as) h y) (hrj : rj < r0)
    (hcs : y.2.1.length ≤ n0 + R.cells) (hss : ix_sz y.2.1 ≤ z0 + R.slots) (hGd : ix_Gd mm) (hmw : ∀ w ∈ ix_mw mm, w ∈ ix_tb) (hst : mm.2.2.2.2.2.1 = false) (hni : mm.1.name ≠ "<init>") (hd : d = 99 ∨ d < 12) (hcd : ix_clsOf d = mm.1.cls) (hA : ix_isA h rr d = true) (hlen : as.length = mm.2.2.2.2.1) (hst8 : st'.length ≤ 8) (hneed : (if v = 1 then Cond.methodLinkNest mm0.1.cls idx mm.1 "VotedBank" else Cond.methodLink mm0.1.cls idx mm.1) ∈ ix_tb) {la : Array Slot} (hla : la.size = mm0.2.2.1) (hdg : decode mm0.2.1 pc = .ok (.invokevirtual idx, 3))
    (kk : ∀ H1 locs1 cells1 slots1, ix_Pt base xa cI cB cR D L xs s n0 z0 y.2 H1 locs1 cells1 slots1 → W p l e R s m args below meth c H1 locs1 cells1 slots1 Q (F0 m (pc + 3) la ((ix_rv base xa mm y.1).toList ++ st'.map (ix_v base xa)))) : W p l e R s m args below meth c H locs cells slots Q (F0 m pc la (((Value.ref rr :: as).reverse ++ st').map (ix_v base xa))) := by
  refine ix_size fun hs => ?_
  have hC := C
  obtain ⟨hx0, hb, hr, hlk, hml, hown, hts, hnm, hK, hE, hfr, hlo, h1r⟩ := C
  have hnb := hGd.2
  simp only [ix_nmb, Bool.and_eq_true, decide_eq_true_eq] at hnb
  obtain ⟨-, hd1, hd2, hd3, hd4⟩ := hnb
  have hGI := ix_good_tbl hmw
  have hini : (Cond.initialized mm.1.cls).before args s = true := hts _ (hmw _ (by simp [ix_mw]))
  have hinst : (Cond.instanceMethod mm.1).before args s = true := hts _ (hmw _ (by simp [ix_mw, hst, hni]))
  have hsel : (Cond.selects mm.1.cls mm.1 mm.1).before args s = true := hts _ (hmw _ (by simp [ix_mw, hst, hni]))
  have hroom : (ix_rm rj (y.2.1.length - h.1.length) (ix_sz y.2.1 - ix_sz h.1)).frames + 1 ≤ R.frames ∧ 8 + (mm.2.2.1 + 11) + (ix_rm rj (y.2.1.length - h.1.length) (ix_sz y.2.1 - ix_sz h.1)).locals ≤ R.locals := by
    show rj + 1 ≤ R.frames ∧ 8 + (mm.2.2.1 + 11) + 40 * rj ≤ R.locals
    omega
  have hf : cells + (y.2.1.length - h.1.length) ≤ R.cells ∧ slots + (ix_sz y.2.1 - ix_sz h.1) ≤ R.slots := by
    have a1 := hPy.1
    have a2 := hPy.2
    have a3 := P.2.2.2.2.1
    have a4 := P.2.2.2.2.2
    omega
  have hrecv : ∃ cellB : Cell, H[ix_ad base xa rr]? = some cellB ∧ cellB.vm.isStatics = false ∧ s.vm.findClass mm.1.cls = some cellB.cls := by
    rcases ix_isA_s hA with ⟨sl, hsh⟩ | ⟨rfl, n, sl, hsh⟩
    · rcases ix_sh_s hsh with ⟨h1, h2⟩ | ⟨i0, rfl, h2⟩
      · rw [(P.own h2).2, ← hcd]
        have hat := P.1.1 rr _ (ix_at0 h2)
        obtain ⟨q, hq, -⟩ := hat
        have hq2 : ix_n ix_cls d = some q := by rw [ix_n_eq]; exact hq
        have hne : ¬ d = 99 := by
          intro hz
          rw [hz] at hq
          exact absurd hq (by simp [ix_cls])
        have hcq : ix_clsOf d = q.1 := by
          unfold ix_clsOf
          rw [if_neg hne, hq2]
        rw [hcq]
        exact va_recv hK P.1.1 hq (ix_at0 h2)
      · exact absurd (ix_xs_lo h2) (by decide)
    · rcases ix_sh_s hsh with ⟨h1, h2⟩ | ⟨i0, rfl, h2⟩
      · have h9 : (14 : Nat) < 4 := P.1.2.2 _ (ix_mem_n h2)
        omega
      · obtain ⟨hn, rfl⟩ := ix_xs_14 h2
        rw [ix_ad_x, ← hcd]
        exact va_Orecv (hE.2.2.2.2.1.1 n hn).1 P.2.2.1
  have hp : PreV s H mm.1.cls (ix_ad base xa rr) (ix_Pc base xa cI cB cR D L xs (.ref rr :: as) h) (as.map (ix_v base xa)) := ⟨ix_Pc_blind _ h, hrecv, ix_Pc_of hC P hs (.ref rr :: as)⟩
  have hstk : (F0 m pc la (((Value.ref rr :: as).reverse ++ st').map (ix_v base xa))).stack = (as.map (ix_v base xa)).reverse ++ .ref (ix_ad base xa rr) :: st'.map (ix_v base xa) := by simp [ix_v]
  refine ix_callG hC P hPy (mm := mm) (a := (Value.ref (ix_ad base xa rr) :: as.map (ix_v base xa)).toArray) (rest := st'.map (ix_v base xa)) ?_ kk
  by_cases hv : v = 1
  · rw [if_pos hv] at hneed
    exact va_runVN ⟨hx0, hb, hml, hown, hts⟩ hMt ⟨va_cnB _ hts hGI rfl rfl rfl (va_Nw.of rfl (hts _ hneed)) hini ⟨hd1, hd2, hd3⟩ hroom, hinst, hsel⟩ hp rfl (by rw [List.length_map]; exact hlen) hla hstk (lv_room (by rw [ix_cat_sum]; exact hst8)) hdg hf
  · rw [if_neg hv] at hneed
    exact va_runV ⟨hx0, hb, hml, hown, hts⟩ hMt ⟨callB_of _ hts hGI rfl rfl rfl hini (hts _ hneed) ⟨hd1, hd2, hd3⟩ hroom, hinst, hsel⟩ hp rfl (by rw [List.length_map]; exact hlen) hla hstk (lv_room (by rw [ix_cat_sum]; exact hst8)) hdg hf
theorem ix_invI {mm0 mm : ix_M} {r0 rj n0 z0 pc idx rr : Nat} {v : Int32} (C : ix_Cx base xa cI cB cR D L xs mm0 r0 p R s m args meth c) {h : ix_H} {H : Heap} {locs : List Loc} {cells slots : Nat} (P : ix_Pt base xa cI cB cR D L xs s n0 z0 h H locs cells slots) {y : Value × ix_H} (hPy : ix_P h.1 y.2) {as st' : List Value} (hMt : ix_Mt base xa cI cB cR D l L xs mm rj (.ref rr :: as) h y) (hrj : rj < r0)
    (hcs : y.2.1.length ≤ n0 + R.cells) (hss : ix_sz y.2.1 ≤ z0 + R.slots) (hGd : ix_Gd mm) (hmw : ∀ w ∈ ix_mw mm, w ∈ ix_tb) (hst : mm.2.2.2.2.2.1 = false) (hni : mm.1.name = "<init>") (hret : mm.2.2.2.1 = none) (hlen : as.length = mm.2.2.2.2.1) (hst8 : st'.length ≤ 8) (hneed : (if v = 1 then Cond.methodLinkNest mm0.1.cls idx mm.1 "VotedBank" else Cond.methodLink mm0.1.cls idx mm.1) ∈ ix_tb) {la : Array Slot} (hla : la.size = mm0.2.2.1) (hdg : decode mm0.2.1 pc = .ok (.invokespecial idx, 3))
    (kk : ∀ H1 locs1 cells1 slots1, ix_Pt base xa cI cB cR D L xs s n0 z0 y.2 H1 locs1 cells1 slots1 → W p l e R s m args below meth c H1 locs1 cells1 slots1 Q (F0 m (pc + 3) la ((ix_rv base xa mm y.1).toList ++ st'.map (ix_v base xa)))) : W p l e R s m args below meth c H locs cells slots Q (F0 m pc la (((Value.ref rr :: as).reverse ++ st').map (ix_v base xa))) := by
  refine ix_size fun hs => ?_
  have hC := C
  obtain ⟨hx0, hb, hr, hlk, hml, hown, hts, hnm, hK, hE, hfr, hlo, h1r⟩ := C
  have hnb := hGd.2
  simp only [ix_nmb, Bool.and_eq_true, decide_eq_true_eq] at hnb
  obtain ⟨-, hd1, hd2, hd3, hd4⟩ := hnb
  have hGI := ix_good_tbl hmw
  have hini : (Cond.initialized mm.1.cls).before args s = true := hts _ (hmw _ (by simp [ix_mw]))
  have hinst : (Cond.instanceMethod mm.1).before args s = true := hts _ (hmw _ (by simp [ix_mw, hst, hni]))
  have hroom : (ix_rm rj (y.2.1.length - h.1.length) (ix_sz y.2.1 - ix_sz h.1)).frames + 1 ≤ R.frames ∧ 8 + (mm.2.2.1 + 11) + (ix_rm rj (y.2.1.length - h.1.length) (ix_sz y.2.1 - ix_sz h.1)).locals ≤ R.locals := by
    show rj + 1 ≤ R.frames ∧ 8 + (mm.2.2.1 + 11) + 40 * rj ≤ R.locals
    omega
  have hf : cells + (y.2.1.length - h.1.length) ≤ R.cells ∧ slots + (ix_sz y.2.1 - ix_sz h.1) ≤ R.slots := by
    have a1 := hPy.1
    have a2 := hPy.2
    have a3 := P.2.2.2.2.1
    have a4 := P.2.2.2.2.2
    omega
  have hp : PreS s H (ix_Pc base xa cI cB cR D L xs (.ref rr :: as) h) (.ref (ix_ad base xa rr) :: as.map (ix_v base xa)) := ⟨ix_Pc_blind _ h, ix_Pc_of hC P hs (.ref rr :: as)⟩
  have hstk : (F0 m pc la (((Value.ref rr :: as).reverse ++ st').map (ix_v base xa))).stack = (as.map (ix_v base xa)).reverse ++ .ref (ix_ad base xa rr) :: st'.map (ix_v base xa) := by simp [ix_v]
  have hwd : ix_wd mm = Cond.code mm.1 mm.2.1 mm.2.2.1 none :: ix_tg := by rw [← hret]; rfl
  refine ix_callG hC P hPy (mm := mm) (a := (Value.ref (ix_ad base xa rr) :: as.map (ix_v base xa)).toArray) (rest := st'.map (ix_v base xa)) ?_ kk
  by_cases hv : v = 1
  · rw [if_pos hv] at hneed
    exact va_runIN ⟨hx0, hb, hml, hown, hts⟩ hMt ⟨va_cnB _ hts hGI hwd rfl rfl (va_Nw.of rfl (hts _ hneed)) hini ⟨hd1, hd2, hd3⟩ hroom, hni, hinst⟩ hp rfl (by rw [List.length_map]; exact hlen) hla hstk (lv_room (by rw [ix_cat_sum]; exact hst8)) hdg hf
  · rw [if_neg hv] at hneed
    exact va_runI ⟨hx0, hb, hml, hown, hts⟩ hMt ⟨callB_of _ hts hGI hwd rfl rfl hini (hts _ hneed) ⟨hd1, hd2, hd3⟩ hroom, hni, hinst⟩ hp rfl (by rw [List.length_map]; exact hlen) hla hstk (lv_room (by rw [ix_cat_sum]; exact hst8)) hdg hf
end Inv
