section Mn
variable {base : Nat} {xa : Nat → Nat} {cI cB cR : ClassId} {D : va_G} {L : Nat} {xs : Nat → Int32}
variable {p : Program} {l : Launch} {e : Env} {R : Room} {s : State} {m : MethodId} {args : Array Value} {below : List Frame} {meth : Method} {c : Code} {Q : State → Prop}
/-- called methods keep their contracts -/
def ix_Cl (base : Nat) (xa : Nat → Nat) (cI cB cR : ClassId) (D : va_G) (l : Launch) (L : Nat) (xs : Nat → Int32) (r0 : Nat) (cl : ix_CL) : Prop :=
  ∀ a as h y, cl a as h = some y → ∃ mm rj, ix_n ix_ms a = some mm ∧ rj < r0 ∧ ix_P h.1 y.2 ∧ (as.length ≤ mm.2.2.1 → ix_mth mm = false → ix_Mt base xa cI cB cR D l L xs mm rj as h y) ∧ (as.length = 2 → (a = 285 → ∃ u w, as = [.int u, .int w] ∧ y = (.int (if w < u then w else u), h)) ∧ (a = 289 → ∃ u w, as = [.int u, .int w] ∧ y = (.int (if u < w then w else u), h)))
theorem ix_as_head {as st' st : List Value} {b rr : Nat} (h1 : as.length = b) (h2 : st = as.reverse ++ st') (hb : 0 < b) (h3 : ix_n st (b - 1) = some (.ref rr)) : ∃ as', as = .ref rr :: as' := by
  rw [ix_n_eq, h2, List.getElem?_append_left (by rw [List.length_reverse]; omega)] at h3
  cases as with
  | nil => simp at h1; omega
  | cons v as' =>
    refine ⟨as', ?_⟩
    rw [List.reverse_cons, List.getElem?_append_right (by rw [List.length_reverse]; simp at h1; omega)] at h3
    have hz : b - 1 - as'.reverse.length = 0 := by rw [List.length_reverse]; simp at h1; omega
    rw [hz] at h3
    simp at h3
    rw [h3]
set_option maxHeartbeats 4000000 in
/-- one instruction of the interpreter is one of the machine -/
theorem ix_step (hAll : ix_All) {mm : ix_M} {r0 n0 z0 : Nat} (C : ix_Cx base xa cI cB cR D L xs mm r0 p R s m args meth c) (hGd : ix_Gd mm) {x : Value × ix_H} (hrc : x.2.1.length ≤ n0 + R.cells) (hrs : ix_sz x.2.1 ≤ z0 + R.slots)
    (hret : ∀ pc st la H locs cells slots, ix_Rt base xa mm x.1 pc st → ix_Pt base xa cI cB cR D L xs s n0 z0 x.2 H locs cells slots → W p l e R s m args below meth c H locs cells slots Q (F0 m pc la st))
    {cl : ix_CL} {nx : ix_NX} {jp : ix_JP} (hcl : ix_Cl base xa cI cB cR D l L xs r0 cl) (e0 : ix_E) (he : e0 ∈ mm.2.2.2.2.2.2)
    (hn : ∀ ls st h, nx ls st h = some x → ix_P h.1 x.2 ∧ ix_Wt base xa cI cB cR D L xs p l e R s m args below meth c Q n0 z0 mm.2.2.1 (e0.1 + e0.2.2.1) ls st h)
    (hj : ∀ t ls st h, jp t ls st h = some x → ix_Wt base xa cI cB cR D L xs p l e R s m args below meth c Q n0 z0 mm.2.2.1 t ls st h)
    (ls : ix_L) (st : List Value) (h : ix_H) (hx : ix_ex (ix_D0 cl) nx jp e0 ls st h = some x) : ix_Wt base xa cI cB cR D L xs p l e R s m args below meth c Q n0 z0 mm.2.2.1 e0.1 ls st h := by
  obtain ⟨hdec, hok, hneed⟩ := hGd.1 e0 he
  obtain ⟨pc, ins, len, ct, a, b, k, d, v⟩ := e0
  dsimp only at hdec hn
  have hC := C
  obtain ⟨hx0, hb, hr, hlk, hml, hown, hts, hnm, hK, hE, hfr, hlo, h1r⟩ := C
  intro la H locs cells slots hL P
  have hD : va_D (fun q => base ≤ q) (ix_ws base xa cI cB cR h.2 0 h.1) := ix_D
  cases ins
  case iconst n =>
    simp only [ix_okb, decide_eq_true_eq] at hok
    obtain ⟨rfl, hok⟩ := hok
    exact lv_iconst hx0 hb hdec hok ((hn _ _ _ hx).2 la H locs cells slots hL P)
  case bipush n =>
    simp only [ix_okb, decide_eq_true_eq] at hok
    obtain ⟨rfl, hok⟩ := hok
    exact lv_bipush hx0 hb hdec hok ((hn _ _ _ hx).2 la H locs cells slots hL P)
  case sipush n =>
    simp only [ix_okb, decide_eq_true_eq] at hok
    obtain ⟨rfl, hok⟩ := hok
    exact lv_sipush hx0 hb hdec hok ((hn _ _ _ hx).2 la H locs cells slots hL P)
  case ldc i =>
    simp only [ix_okb, decide_eq_true_eq] at hok
    obtain ⟨rfl, hok⟩ := hok
    unfold ix_ex at hx
    dsimp only at hx
    cases hbz : Nat.beq b 0 with
    | true =>
      rw [hbz] at hx
      refine lv_ldc hx0 hb hown (hts _ (hneed _ ?_)) hdec ((hn _ _ _ hx).2 la H locs cells slots hL P)
      unfold ix_need
      dsimp only
      rw [hbz]
      exact List.mem_cons_self
    | false =>
      rw [hbz] at hx
      rcases hok with h0 | ⟨t, ht, h1, h2, h3⟩
      · rw [h0] at hbz; cases hbz
      · have hR := hE.2.2.2.2.2 t ht
        have hW := (hn _ _ _ hx).2 la H locs cells slots hL P
        have ha : ix_ad base xa a = xa (t.2.2.2 - 1000) := by
          rw [← h3]
          have hge : ¬ t.2.2.2 < 1000 := by
            have : ∀ t ∈ ix_txt, 1000 ≤ t.2.2.2 := by decide
            have := this t ht
            omega
          exact if_neg hge
        rw [h1, h2] at hR
        refine va_ldcS hx0 hb hown hR hdec ?_
        rw [← ha]
        exact hW
  case ldc_w i =>
    simp only [ix_okb, decide_eq_true_eq] at hok
    subst hok
    have hW := (hn _ _ _ hx).2 la H locs cells slots hL P
    have hcon := hts _ (hneed _ (List.mem_cons_self))
    intro T hT X
    obtain ⟨t, a1, b1⟩ := hW T hT X
    exact ⟨t, va_ldcwI X hx0 hown hcon rfl (by rw [hb]; exact hdec) t a1, b1⟩
  case iload i =>
    simp only [ix_okb, decide_eq_true_eq] at hok
    obtain ⟨rfl, rfl⟩ := hok
    unfold ix_ex at hx
    dsimp only at hx
    rcases hq : ix_n ls i with _ | _ | y
    · rw [hq] at hx; cases hx
    · rw [hq] at hx; cases hx
    · rw [hq] at hx
      cases y <;> first | (cases hx; done) | exact lv_iload hx0 hb hdec (hL.get hq) ((hn _ _ _ hx).2 la H locs cells slots hL P)
  case iload_n i =>
    simp only [ix_okb, decide_eq_true_eq] at hok
    obtain ⟨rfl, rfl⟩ := hok
    unfold ix_ex at hx
    dsimp only at hx
    rcases hq : ix_n ls i.val with _ | _ | y
    · rw [hq] at hx; cases hx
    · rw [hq] at hx; cases hx
    · rw [hq] at hx
      cases y <;> first | (cases hx; done) | exact lv_iload_n hx0 hb hdec rfl (hL.get hq) ((hn _ _ _ hx).2 la H locs cells slots hL P)
  case aload i =>
    simp only [ix_okb, decide_eq_true_eq] at hok
    obtain ⟨rfl, rfl⟩ := hok
    unfold ix_ex at hx
    dsimp only at hx
    rcases hq : ix_n ls i with _ | _ | y
    · rw [hq] at hx; cases hx
    · rw [hq] at hx; cases hx
    · rw [hq] at hx
      cases y <;> first | (cases hx; done) | exact lv_aload hx0 hb hdec (hL.get hq) ((hn _ _ _ hx).2 la H locs cells slots hL P)
  case aload_n i =>
    simp only [ix_okb, decide_eq_true_eq] at hok
    obtain ⟨rfl, rfl⟩ := hok
    unfold ix_ex at hx
    dsimp only at hx
    rcases hq : ix_n ls i.val with _ | _ | y
    · rw [hq] at hx; cases hx
    · rw [hq] at hx; cases hx
    · rw [hq] at hx
      cases y <;> first | (cases hx; done) | exact lv_aload_n hx0 hb hdec rfl (hL.get hq) ((hn _ _ _ hx).2 la H locs cells slots hL P)
  case istore i =>
    simp only [ix_okb, decide_eq_true_eq] at hok
    obtain ⟨rfl, rfl⟩ := hok
    obtain ⟨y, st1, rfl, hx⟩ := ix_popI_s hx
    obtain ⟨hlt, hx⟩ := ix_bif_s hx
    have hlt' : i < ls.length := Nat.le_of_ble_eq_true hlt
    exact lv_istore hx0 hb hdec hL.has (Nat.lt_of_lt_of_le hlt' hL.2.1) rfl (fun la' hl' => (hn _ _ _ hx).2 la' H locs cells slots (hL.stored (v := .int y) hl') P)
  case istore_n i =>
    simp only [ix_okb, decide_eq_true_eq] at hok
    obtain ⟨rfl, rfl⟩ := hok
    obtain ⟨y, st1, rfl, hx⟩ := ix_popI_s hx
    obtain ⟨hlt, hx⟩ := ix_bif_s hx
    have hlt' : i.val < ls.length := Nat.le_of_ble_eq_true hlt
    exact lv_istore_n hx0 hb hdec rfl hL.has (Nat.lt_of_lt_of_le hlt' hL.2.1) rfl (fun la' hl' => (hn _ _ _ hx).2 la' H locs cells slots (hL.stored (v := .int y) hl') P)
  case astore i =>
    simp only [ix_okb, decide_eq_true_eq] at hok
    obtain ⟨rfl, rfl⟩ := hok
    obtain ⟨y, st1, rfl, hx⟩ := ix_popR_s hx
    obtain ⟨hlt, hx⟩ := ix_bif_s hx
    have hlt' : i < ls.length := Nat.le_of_ble_eq_true hlt
    exact lv_astore hx0 hb hdec hL.has (Nat.lt_of_lt_of_le hlt' hL.2.1) rfl (fun la' hl' => (hn _ _ _ hx).2 la' H locs cells slots (hL.stored (v := .ref y) hl') P)
  case astore_n i =>
    simp only [ix_okb, decide_eq_true_eq] at hok
    obtain ⟨rfl, rfl⟩ := hok
    obtain ⟨y, st1, rfl, hx⟩ := ix_popR_s hx
    obtain ⟨hlt, hx⟩ := ix_bif_s hx
    have hlt' : i.val < ls.length := Nat.le_of_ble_eq_true hlt
    exact lv_astore_n hx0 hb hdec rfl hL.has (Nat.lt_of_lt_of_le hlt' hL.2.1) rfl (fun la' hl' => (hn _ _ _ hx).2 la' H locs cells slots (hL.stored (v := .ref y) hl') P)
  case iinc i n =>
    simp only [ix_okb, decide_eq_true_eq] at hok
    obtain ⟨rfl, rfl, hok⟩ := hok
    unfold ix_ex at hx
    dsimp only at hx
    rcases hq : ix_n ls i with _ | _ | y
    · rw [hq] at hx; cases hx
    · rw [hq] at hx; cases hx
    · rw [hq] at hx
      cases y <;> first | (cases hx; done) | skip
      rename_i y
      have hlt' : i < ls.length := ix_n_lt hq
      obtain ⟨kk, hkk⟩ := List.getElem?_of_mem (ix_lv_mem.mpr ⟨.int y, by rw [← ix_n_eq]; exact hq, rfl⟩ : (i, ix_v base xa (.int y)) ∈ ix_lv base xa ls)
      have hval : y + Int32.ofInt n = (bif Nat.beq k 0 then y + v else y - v) := by
        rcases hok with ⟨rfl, h1⟩ | ⟨rfl, h1⟩
        · rw [h1]; rfl
        · rw [h1]
          show y + -v = y - v
          rw [Int32.sub_eq_add_neg]
      exact lv_iinc hx0 hb hdec hL.has hkk hval (Nat.lt_of_lt_of_le hlt' hL.2.1) rfl (fun la' hl' => (hn _ _ _ hx).2 la' H locs cells slots (hL.stored (v := .int (bif Nat.beq k 0 then y + v else y - v)) hl') P)
  case dup =>
    simp only [ix_okb, decide_eq_true_eq] at hok
    subst hok
    rcases st with _ | ⟨y, st⟩
    · cases hx
    · exact lv_dup hx0 hb hdec (ix_v_cat y) ((hn _ _ _ hx).2 la H locs cells slots hL P)
  case dup2 =>
    simp only [ix_okb, decide_eq_true_eq] at hok
    subst hok
    rcases st with _ | ⟨y, _ | ⟨z, st⟩⟩
    · cases hx
    · cases hx
    · exact lv_dup2_11 hx0 hb hdec (ix_v_cat y) (ix_v_cat z) ((hn _ _ _ hx).2 la H locs cells slots hL P)
  case pop =>
    simp only [ix_okb, decide_eq_true_eq] at hok
    subst hok
    rcases st with _ | ⟨y, st⟩
    · cases hx
    · exact lv_pop hx0 hb hdec (ix_v_cat y) ((hn _ _ _ hx).2 la H locs cells slots hL P)
  case iadd =>
    simp only [ix_okb, decide_eq_true_eq] at hok
    subst hok
    obtain ⟨y, st1, rfl, hx⟩ := ix_popI_s hx
    obtain ⟨z, st1, rfl, hx⟩ := ix_popI_s hx
    exact lv_iadd hx0 hb hdec ((hn _ _ _ hx).2 la H locs cells slots hL P)
  case isub =>
    simp only [ix_okb, decide_eq_true_eq] at hok
    subst hok
    obtain ⟨y, st1, rfl, hx⟩ := ix_popI_s hx
    obtain ⟨z, st1, rfl, hx⟩ := ix_popI_s hx
    exact lv_isub hx0 hb hdec ((hn _ _ _ hx).2 la H locs cells slots hL P)
  case imul =>
    simp only [ix_okb, decide_eq_true_eq] at hok
    subst hok
    obtain ⟨y, st1, rfl, hx⟩ := ix_popI_s hx
    obtain ⟨z, st1, rfl, hx⟩ := ix_popI_s hx
    exact lv_imul hx0 hb hdec ((hn _ _ _ hx).2 la H locs cells slots hL P)
  case iand =>
    simp only [ix_okb, decide_eq_true_eq] at hok
    subst hok
    obtain ⟨y, st1, rfl, hx⟩ := ix_popI_s hx
    obtain ⟨z, st1, rfl, hx⟩ := ix_popI_s hx
    exact lv_iand hx0 hb hdec ((hn _ _ _ hx).2 la H locs cells slots hL P)
  case ior =>
    simp only [ix_okb, decide_eq_true_eq] at hok
    subst hok
    obtain ⟨y, st1, rfl, hx⟩ := ix_popI_s hx
    obtain ⟨z, st1, rfl, hx⟩ := ix_popI_s hx
    exact lv_ior hx0 hb hdec ((hn _ _ _ hx).2 la H locs cells slots hL P)
  case ixor =>
    simp only [ix_okb, decide_eq_true_eq] at hok
    subst hok
    obtain ⟨y, st1, rfl, hx⟩ := ix_popI_s hx
    obtain ⟨z, st1, rfl, hx⟩ := ix_popI_s hx
    exact lv_ixor hx0 hb hdec ((hn _ _ _ hx).2 la H locs cells slots hL P)
  case ishl =>
    simp only [ix_okb, decide_eq_true_eq] at hok
    subst hok
    obtain ⟨y, st1, rfl, hx⟩ := ix_popI_s hx
    obtain ⟨z, st1, rfl, hx⟩ := ix_popI_s hx
    exact lv_ishl hx0 hb hdec ((hn _ _ _ hx).2 la H locs cells slots hL P)
  case ishr =>
    simp only [ix_okb, decide_eq_true_eq] at hok
    subst hok
    obtain ⟨y, st1, rfl, hx⟩ := ix_popI_s hx
    obtain ⟨z, st1, rfl, hx⟩ := ix_popI_s hx
    exact lv_ishr hx0 hb hdec ((hn _ _ _ hx).2 la H locs cells slots hL P)
  case iushr =>
    simp only [ix_okb, decide_eq_true_eq] at hok
    subst hok
    obtain ⟨y, st1, rfl, hx⟩ := ix_popI_s hx
    obtain ⟨z, st1, rfl, hx⟩ := ix_popI_s hx
    exact lv_iushr hx0 hb hdec rfl ((hn _ _ _ hx).2 la H locs cells slots hL P)
  case idiv =>
    simp only [ix_okb, decide_eq_true_eq] at hok
    subst hok
    obtain ⟨y, st1, rfl, hy⟩ := ix_popI_s hx
    obtain ⟨z, st2, rfl, hz⟩ := ix_popI_s hy
    split at hz
    · cases hz
    · rename_i hc
      exact lv_idiv hx0 hb hdec hc ((hn _ _ _ hz).2 la H locs cells slots hL P)
  case irem =>
    simp only [ix_okb, decide_eq_true_eq] at hok
    subst hok
    obtain ⟨y, st1, rfl, hy⟩ := ix_popI_s hx
    obtain ⟨z, st2, rfl, hz⟩ := ix_popI_s hy
    split at hz
    · cases hz
    · rename_i hc
      exact lv_irem hx0 hb hdec hc ((hn _ _ _ hz).2 la H locs cells slots hL P)
  case ineg =>
    simp only [ix_okb, decide_eq_true_eq] at hok
    subst hok
    obtain ⟨y, st1, rfl, hx⟩ := ix_popI_s hx
    exact lv_ineg hx0 hb hdec ((hn _ _ _ hx).2 la H locs cells slots hL P)
  case i2b =>
    simp only [ix_okb, decide_eq_true_eq] at hok
    subst hok
    obtain ⟨y, st1, rfl, hx⟩ := ix_popI_s hx
    exact lv_i2b hx0 hb hdec rfl ((hn _ _ _ hx).2 la H locs cells slots hL P)
  case i2c =>
    simp only [ix_okb, decide_eq_true_eq] at hok
    subst hok
    obtain ⟨y, st1, rfl, hx⟩ := ix_popI_s hx
    exact lv_i2c hx0 hb hdec rfl ((hn _ _ _ hx).2 la H locs cells slots hL P)
  case goto o =>
    simp only [ix_okb, decide_eq_true_eq] at hok
    obtain ⟨rfl, hok⟩ := hok
    exact lv_goto hx0 hb hdec hok (hj _ _ _ _ hx la H locs cells slots hL P)
  case ifCond cd o =>
    simp only [ix_okb, decide_eq_true_eq] at hok
    obtain ⟨rfl, hok⟩ := hok
    obtain ⟨y, st1, rfl, hy⟩ := ix_popI_s hx
    have T : ∀ hz : jp a ls st1 h = some x, W p l e R s m args below meth c H locs cells slots Q (F0 m a la (st1.map (ix_v base xa))) := fun hz => hj _ _ _ _ hz la H locs cells slots hL P
    have F : ∀ hz : nx ls st1 h = some x, W p l e R s m args below meth c H locs cells slots Q (F0 m (pc + 3) la (st1.map (ix_v base xa))) := fun hz => (hn _ _ _ hz).2 la H locs cells slots hL P
    cases cd <;> dsimp only at hy
    · exact lv_if_eq hx0 hb hdec hok (fun hc => T (by rw [if_pos hc] at hy; exact hy)) (fun hc => F (by rw [if_neg hc] at hy; exact hy))
    · exact lv_if_ne hx0 hb hdec hok (fun hc => T (by rw [if_neg hc] at hy; exact hy)) (fun hc => F (by rw [if_pos hc] at hy; exact hy))
    · exact lv_if_lt hx0 hb hdec hok (fun hc => T (by rw [if_pos hc] at hy; exact hy)) (fun hc => F (by rw [if_neg hc] at hy; exact hy))
    · exact lv_if_ge hx0 hb hdec hok (fun hc => T (by rw [if_pos hc] at hy; exact hy)) (fun hc => F (by rw [if_neg hc] at hy; exact hy))
    · exact lv_if_gt hx0 hb hdec hok (fun hc => T (by rw [if_pos hc] at hy; exact hy)) (fun hc => F (by rw [if_neg hc] at hy; exact hy))
    · exact lv_if_le hx0 hb hdec hok (fun hc => T (by rw [if_pos hc] at hy; exact hy)) (fun hc => F (by rw [if_neg hc] at hy; exact hy))
  case if_icmp cd o =>
    simp only [ix_okb, decide_eq_true_eq] at hok
    obtain ⟨rfl, hok⟩ := hok
    obtain ⟨y, st1, rfl, hy⟩ := ix_popI_s hx
    obtain ⟨z, st2, rfl, hy⟩ := ix_popI_s hy
    have T : ∀ hz : jp a ls st2 h = some x, W p l e R s m args below meth c H locs cells slots Q (F0 m a la (st2.map (ix_v base xa))) := fun hz => hj _ _ _ _ hz la H locs cells slots hL P
    have F : ∀ hz : nx ls st2 h = some x, W p l e R s m args below meth c H locs cells slots Q (F0 m (pc + 3) la (st2.map (ix_v base xa))) := fun hz => (hn _ _ _ hz).2 la H locs cells slots hL P
    cases cd
    · have hy2 : (if z = y then jp a ls st2 h else nx ls st2 h) = some x := hy
      exact lv_icmp_eq hx0 hb hdec hok (fun hc => T (by rw [if_pos hc] at hy2; exact hy2)) (fun hc => F (by rw [if_neg hc] at hy2; exact hy2))
    · have hy2 : (if z = y then nx ls st2 h else jp a ls st2 h) = some x := hy
      exact lv_icmp_ne hx0 hb hdec hok (fun hc => T (by rw [if_neg hc] at hy2; exact hy2)) (fun hc => F (by rw [if_pos hc] at hy2; exact hy2))
    · have hy2 : (if z < y then jp a ls st2 h else nx ls st2 h) = some x := hy
      exact lv_icmp_lt hx0 hb hdec hok (fun hc => T (by rw [if_pos hc] at hy2; exact hy2)) (fun hc => F (by rw [if_neg hc] at hy2; exact hy2))
    · have hy2 : (if y ≤ z then jp a ls st2 h else nx ls st2 h) = some x := hy
      exact lv_icmp_ge hx0 hb hdec hok (fun hc => T (by rw [if_pos hc] at hy2; exact hy2)) (fun hc => F (by rw [if_neg hc] at hy2; exact hy2))
    · have hy2 : (if y < z then jp a ls st2 h else nx ls st2 h) = some x := hy
      exact lv_icmp_gt hx0 hb hdec hok (fun hc => T (by rw [if_pos hc] at hy2; exact hy2)) (fun hc => F (by rw [if_neg hc] at hy2; exact hy2))
    · have hy2 : (if z ≤ y then jp a ls st2 h else nx ls st2 h) = some x := hy
      exact lv_icmp_le hx0 hb hdec hok (fun hc => T (by rw [if_pos hc] at hy2; exact hy2)) (fun hc => F (by rw [if_neg hc] at hy2; exact hy2))
  case tableswitch df lo hi os =>
    simp only [ix_okb, decide_eq_true_eq] at hok
    obtain ⟨ho1, ho2, ho3⟩ := hok
    obtain ⟨y, st1, rfl, hy⟩ := ix_popI_s hx
    have hsz : (os.toList.length : Int) = os.size := by simp
    rcases ix_sw_s _ _ hy with ⟨h1, h2⟩ | ⟨o, h1, h2, h3, h4⟩
    · exact lv_tableOut hx0 hb hdec (by omega) (tgt := ((pc : Int) + df).toNat) (by omega) (hj _ _ _ _ h2 la H locs cells slots hL P)
    · have ho : 0 ≤ (pc : Int) + o := ho3 o (List.mem_of_getElem? h3)
      exact lv_tableIn hx0 hb hdec (by omega) (by omega) (off := o) (by rw [← Array.getElem?_toList]; exact h3) (tgt := ((pc : Int) + o).toNat) (by omega) (hj _ _ _ _ h4 la H locs cells slots hL P)
  case lookupswitch df ps =>
    simp only [ix_okb, decide_eq_true_eq] at hok
    obtain ⟨ho1, ho2, ho3⟩ := hok
    obtain ⟨y, st1, rfl, hy⟩ := ix_popI_s hx
    have h2 := ix_lk_s _ hy
    have hge : 0 ≤ (pc : Int) + Op.lookupswitch.offset ps.toList df y.toInt := by
      rcases ix_lk_in (d := df) (x := y.toInt) ps.toList with h3 | ⟨o, h3, h4⟩
      · rw [h3]; exact ho2
      · rw [h4]; exact ho3 o h3
    exact lv_lookup hx0 hb hdec ho1 rfl (tgt := ((pc : Int) + Op.lookupswitch.offset ps.toList df y.toInt).toNat) (by omega) (hj _ _ _ _ h2 la H locs cells slots hL P)
  case getstatic i =>
    simp only [ix_okb, decide_eq_true_eq] at hok
    obtain ⟨rfl, hok⟩ := hok
    rcases hok with ⟨rfl, rfl⟩ | ⟨rfl, rfl⟩ | rfl
    · exact va_gets hx0 hb hE.2.2.2.1.1 P.2.2.1 hown (hts _ (hneed _ List.mem_cons_self)) (fun _ h => h) hdec ((hn _ _ _ hx).2 la H locs cells slots hL P)
    · have hW := (hn _ _ _ hx).2 la H locs cells slots hL P
      rw [show (Value.ref 1001 :: st).map (ix_v base xa) = .ref (xa 1) :: st.map (ix_v base xa) from congrArg (fun q => Value.ref q :: st.map (ix_v base xa)) (ix_ad_x 1)] at hW
      exact va_getsN hx0 hb hE.2.2.1 P.2.2.1 hown (hts _ (hneed _ List.mem_cons_self)) (fun _ h => h) hdec hW
    · exact va_gets hx0 hb hE.2.2.2.1.2 P.2.2.1 hown (hts _ (hneed _ List.mem_cons_self)) (fun _ h => h) hdec ((hn _ _ _ hx).2 la H locs cells slots hL P)
  case getfield i =>
    simp only [ix_okb, decide_eq_true_eq] at hok
    obtain ⟨rfl, hok⟩ := hok
    obtain ⟨r, st1, rfl, hy⟩ := ix_popR_s hx
    exact ix_getf hC P hy hok hneed hdec (fun w hw => (hn _ _ _ hw).2 la H locs cells slots hL P)
  case putfield i =>
    simp only [ix_okb, Bool.and_eq_true, decide_eq_true_eq] at hok
    obtain ⟨⟨rfl, hok1, hok2, hok3⟩, hok4⟩ := hok
    rcases st with _ | ⟨w, st⟩
    · cases hx
    · obtain ⟨r, st1, rfl, hy⟩ := ix_popR_s (show ix_popR st (fun r st => ix_put h r a b k w fun h => nx ls st h) = some x from hx)
      refine ix_putf hC P hy ⟨hok1, hok2, hok3⟩ (fun rc hrc2 => ?_) (fun rc hrc2 => ?_) hdec (fun h' H1 locs1 hw P' => (hn _ _ _ hw).2 la H1 locs1 cells slots hL P')
      · rw [hrc2] at hok4
        simpa using hok4
      · refine hneed _ ?_
        unfold ix_need
        dsimp only
        rw [hrc2]
        exact List.mem_cons_self
  case arraylength =>
    simp only [ix_okb, decide_eq_true_eq] at hok
    subst hok
    obtain ⟨r, st1, rfl, hy⟩ := ix_popR_s hx
    rcases hq : ix_sh h r with _ | ⟨q, n, sl⟩
    · rw [hq] at hy; cases hy
    · rw [hq] at hy
      obtain ⟨h1, h2⟩ := ix_bif_s hy
      have hqk : q = 1 ∨ q = 2 ∨ q = 11 ∨ q = 12 := by
        simp only [Bool.or_eq_true] at h1
        rcases h1 with ((h1 | h1) | h1) | h1
        · exact Or.inl (ix_beq h1)
        · exact Or.inr (Or.inl (ix_beq h1))
        · exact Or.inr (Or.inr (Or.inl (ix_beq h1)))
        · exact Or.inr (Or.inr (Or.inr (ix_beq h1)))
      exact ix_alen hC P hq hqk hdec ((hn _ _ _ h2).2 la H locs cells slots hL P)
  case iaload =>
    simp only [ix_okb, decide_eq_true_eq] at hok
    subst hok
    obtain ⟨i, st1, rfl, hy⟩ := ix_popI_s hx
    obtain ⟨r, st2, rfl, hy⟩ := ix_popR_s hy
    obtain ⟨q, n, sl, h1, h2, h3⟩ := ix_arr_s hy
    split at h3
    · cases h3
    · rename_i hc
      exact ix_iald hC P h1 h2 hc hdec ((hn _ _ _ h3).2 la H locs cells slots hL P)
  case baload =>
    simp only [ix_okb, decide_eq_true_eq] at hok
    subst hok
    obtain ⟨i, st1, rfl, hy⟩ := ix_popI_s hx
    obtain ⟨r, st2, rfl, hy⟩ := ix_popR_s hy
    obtain ⟨q, n, sl, h1, h2, h3⟩ := ix_arr_s hy
    split at h3
    · cases h3
    · rename_i hc
      exact ix_bald hC P h1 h2 hc hdec ((hn _ _ _ h3).2 la H locs cells slots hL P)
  case iastore =>
    simp only [ix_okb, decide_eq_true_eq] at hok
    subst hok
    obtain ⟨y, st1, rfl, hy⟩ := ix_popI_s hx
    obtain ⟨i, st2, rfl, hy⟩ := ix_popI_s hy
    obtain ⟨r, st3, rfl, hy⟩ := ix_popR_s hy
    obtain ⟨n, sl, h1, h3⟩ := ix_own_s hy
    split at h3
    · cases h3
    · rename_i hc
      rw [show (Value.int y :: Value.int i :: Value.ref r :: st3).map (ix_v base xa) = .int y :: .int i :: .ref (base + r) :: st3.map (ix_v base xa) from congrArg (fun q => Value.int y :: Value.int i :: Value.ref q :: st3.map (ix_v base xa)) (P.own h1).2]
      exact va_iast hx0 hb hK P.1.1 hD P.2.2.1 r 0 (ix_at0 h1) rfl hc hdec (fun H1 locs1 hP _ hS => (hn _ _ _ h3).2 la H1 locs1 cells slots hL (P.row h1 _ hP hS))
  case bastore =>
    simp only [ix_okb, decide_eq_true_eq] at hok
    subst hok
    obtain ⟨y, st1, rfl, hy⟩ := ix_popI_s hx
    obtain ⟨i, st2, rfl, hy⟩ := ix_popI_s hy
    obtain ⟨r, st3, rfl, hy⟩ := ix_popR_s hy
    obtain ⟨n, sl, h1, h3⟩ := ix_own_s hy
    split at h3
    · cases h3
    · rename_i hc
      rw [show (Value.int y :: Value.int i :: Value.ref r :: st3).map (ix_v base xa) = .int y :: .int i :: .ref (base + r) :: st3.map (ix_v base xa) from congrArg (fun q => Value.int y :: Value.int i :: Value.ref q :: st3.map (ix_v base xa)) (P.own h1).2]
      exact va_bast hx0 hb hK P.1.1 hD P.2.2.1 r 1 (ix_at0 h1) rfl hc hdec (fun H1 locs1 hP _ hS => (hn _ _ _ h3).2 la H1 locs1 cells slots hL (P.row h1 _ (by rw [vp_nar_byte] at hP; exact hP) hS))
  case aaload =>
    simp only [ix_okb, decide_eq_true_eq] at hok
    subst hok
    obtain ⟨i, st1, rfl, hy⟩ := ix_popI_s hx
    obtain ⟨r, st2, rfl, hz⟩ := ix_popR_s hy
    rcases hq : ix_n h.1 r with _ | ⟨q, n, sl⟩
    · rw [hq] at hz; cases hz
    · rw [hq] at hz
      obtain ⟨h1, h2⟩ := ix_bif_s hz
      cases ix_beq h1
      split at h2
      · cases h2
      · rename_i hc
        obtain ⟨a2, -, h4, h5⟩ := ix_ch_s _ _ h2
        rw [Nat.sub_zero] at h4
        have hW := (hn _ _ _ h5).2 la H locs cells slots hL P
        have hrf : va_rf (ix_rf base xa sl i.toNatClampNeg) = .ref (ix_ad base xa a2) := by
          unfold ix_rf
          rw [h4]
          rfl
        rw [show (Value.int i :: Value.ref r :: st2).map (ix_v base xa) = .int i :: .ref (base + r) :: st2.map (ix_v base xa) from congrArg (fun q => Value.int i :: Value.ref q :: st2.map (ix_v base xa)) (P.own hq).2]
        refine va_aldq hx0 hb hK P.1.1 r 2 (ix_at0 hq) rfl hc hdec ?_
        rw [hrf]
        exact hW
  case aastore =>
    simp only [ix_okb, decide_eq_true_eq] at hok
    subst hok
    obtain ⟨y, st1, rfl, hy⟩ := ix_popR_s hx
    obtain ⟨i, st2, rfl, hy2⟩ := ix_popI_s hy
    obtain ⟨r, st3, rfl, hz⟩ := ix_popR_s hy2
    rcases hq : ix_n h.1 r with _ | ⟨q, n, sl⟩
    · rw [hq] at hz; cases hz
    · rw [hq] at hz
      obtain ⟨h1, h2⟩ := ix_bif_s hz
      obtain ⟨h3, h4⟩ := Bool.and_eq_true_iff.mp h1
      cases ix_beq h3
      split at h2
      · cases h2
      · rename_i hc
        have hc1 : ¬ (i < 0 ∨ n ≤ i.toNatClampNeg) := fun z => hc (z.elim Or.inl (fun w => Or.inr (Or.inl w)))
        have hc2 : i.toNatClampNeg < sl.length := Nat.not_le.mp fun z => hc (Or.inr (Or.inr z))
        rcases ix_isA_s h4 with ⟨sl2, hsh⟩ | ⟨hz, -⟩
        · rcases ix_sh_s hsh with ⟨g1, g2⟩ | ⟨i0, rfl, g2⟩
          · rw [show (Value.ref y :: Value.int i :: Value.ref r :: st3).map (ix_v base xa) = .ref (base + y) :: .int i :: .ref (base + r) :: st3.map (ix_v base xa) from by
              show (Value.ref (ix_ad base xa y) :: Value.int i :: Value.ref (ix_ad base xa r) :: st3.map (ix_v base xa)) = _
              rw [(P.own hq).2, (P.own g2).2]]
            refine va_astq (D := D) (r := ("VotedBank$River", ix_T6, 14)) hx0 hb hK P.1.1 hD P.2.2.1 r 2 y 6 (ix_at0 hq) rfl (ix_at0 g2) rfl hc1 hdec (fun H1 locs1 hP _ hS => (hn _ _ _ h2).2 la H1 locs1 cells slots hL (P.shape _ hq ?_ hS))
            rw [← (P.own g2).2, ix_rf_set hc2] at hP
            exact hP
          · exact absurd (ix_xs_lo g2) (by decide)
        · cases hz
  case new i =>
    simp only [ix_okb, decide_eq_true_eq] at hok
    obtain ⟨rfl, hok⟩ := hok
    obtain ⟨h1, h2⟩ := ix_new_s (show ix_new h (0, a, ix_fs (ix_kinds a)) (fun r h => nx ls (.ref r :: st) h) = some x from hx)
    have hPp := (hn _ _ _ h2).1
    have e1 : (h.1 ++ [((0, a, ix_fs (ix_kinds a)) : ix_Sh)]).length = h.1.length + 1 := by simp
    have e2 := ix_sz_app h.1 (0, a, ix_fs (ix_kinds a))
    have e2' : ix_sz (h.1 ++ [(0, a, ix_fs (ix_kinds a))]) = ix_sz h.1 + (ix_kinds a).length := e2
    have q1 : (h.1 ++ [((0, a, ix_fs (ix_kinds a)) : ix_Sh)]).length ≤ x.2.1.length := hPp.1
    have q2 : ix_sz (h.1 ++ [(0, a, ix_fs (ix_kinds a))]) ≤ ix_sz x.2.1 := hPp.2
    have a3 := P.2.2.2.2.1
    have a4 := P.2.2.2.2.2
    refine ix_newo hC P h1 hok (fun rc hrc2 => ?_) (by omega) (by omega) hdec (fun H1 locs1 P' => (hn _ _ _ h2).2 la H1 locs1 _ _ hL P')
    refine hneed _ ?_
    unfold ix_need
    dsimp only
    rw [hrc2]
    exact List.mem_cons_self
  case newarray t =>
    simp only [ix_okb, decide_eq_true_eq] at hok
    subst hok
    obtain ⟨n, st1, rfl, hy⟩ := ix_popI_s hx
    split at hy
    · cases hy
    · rename_i hc
      have a3 := P.2.2.2.2.1
      have a4 := P.2.2.2.2.2
      cases t <;> first | (cases hy; done) | skip
      · obtain ⟨h1, h2⟩ := ix_new_s hy
        have hPp := (hn _ _ _ h2).1
        have e1 : (h.1 ++ [((2, n.toNatClampNeg, []) : ix_Sh)]).length = h.1.length + 1 := by simp
        have e2' : ix_sz (h.1 ++ [(2, n.toNatClampNeg, [])]) = ix_sz h.1 + n.toNatClampNeg := ix_sz_app h.1 (2, n.toNatClampNeg, [])
        have q1 : (h.1 ++ [((2, n.toNatClampNeg, []) : ix_Sh)]).length ≤ x.2.1.length := hPp.1
        have q2 : ix_sz (h.1 ++ [(2, n.toNatClampNeg, [])]) ≤ ix_sz x.2.1 := hPp.2
        exact ix_newi hC P h1 hc (Or.inr ⟨rfl, rfl⟩) (by omega) (by omega) hdec (fun H1 locs1 P' => (hn _ _ _ h2).2 la H1 locs1 _ _ hL P')
      · obtain ⟨h1, h2⟩ := ix_new_s hy
        have hPp := (hn _ _ _ h2).1
        have e1 : (h.1 ++ [((1, n.toNatClampNeg, []) : ix_Sh)]).length = h.1.length + 1 := by simp
        have e2' : ix_sz (h.1 ++ [(1, n.toNatClampNeg, [])]) = ix_sz h.1 + n.toNatClampNeg := ix_sz_app h.1 (1, n.toNatClampNeg, [])
        have q1 : (h.1 ++ [((1, n.toNatClampNeg, []) : ix_Sh)]).length ≤ x.2.1.length := hPp.1
        have q2 : ix_sz (h.1 ++ [(1, n.toNatClampNeg, [])]) ≤ ix_sz x.2.1 := hPp.2
        exact ix_newi hC P h1 hc (Or.inl ⟨rfl, rfl⟩) (by omega) (by omega) hdec (fun H1 locs1 P' => (hn _ _ _ h2).2 la H1 locs1 _ _ hL P')
  case anewarray i =>
    simp only [ix_okb, decide_eq_true_eq] at hok
    subst hok
    obtain ⟨n, st1, rfl, hy⟩ := ix_popI_s hx
    split at hy
    · cases hy
    · rename_i hc
      have a3 := P.2.2.2.2.1
      have a4 := P.2.2.2.2.2
      obtain ⟨h1, h2⟩ := ix_new_s hy
      have hPp := (hn _ _ _ h2).1
      have e1 : (h.1 ++ [((3, n.toNatClampNeg, List.replicate n.toNatClampNeg (some none)) : ix_Sh)]).length = h.1.length + 1 := by simp
      have e2' : ix_sz (h.1 ++ [(3, n.toNatClampNeg, List.replicate n.toNatClampNeg (some none))]) = ix_sz h.1 + n.toNatClampNeg := ix_sz_app h.1 (3, n.toNatClampNeg, List.replicate n.toNatClampNeg (some none))
      have q1 : (h.1 ++ [((3, n.toNatClampNeg, List.replicate n.toNatClampNeg (some none)) : ix_Sh)]).length ≤ x.2.1.length := hPp.1
      have q2 : ix_sz (h.1 ++ [(3, n.toNatClampNeg, List.replicate n.toNatClampNeg (some none))]) ≤ ix_sz x.2.1 := hPp.2
      exact ix_newq hC P h1 hc (hneed _ List.mem_cons_self) (by omega) (by omega) hdec (fun H1 locs1 P' => (hn _ _ _ h2).2 la H1 locs1 _ _ hL P')
  case invokestatic i =>
    simp only [ix_okb, Bool.and_eq_true, Bool.or_eq_true, decide_eq_true_eq] at hok
    obtain ⟨rfl, hok⟩ := hok
    unfold ix_ex at hx
    dsimp only at hx
    cases hk2 : Nat.beq k 2 with
    | true =>
      rw [hk2] at hx
      obtain ⟨n, st1, rfl, hy1⟩ := ix_popI_s hx
      obtain ⟨dp, st2, rfl, hy2⟩ := ix_popI_s hy1
      obtain ⟨q1, st3, rfl, hy3⟩ := ix_popR_s hy2
      obtain ⟨sp, st4, rfl, hy4⟩ := ix_popI_s hy3
      obtain ⟨q0, st5, rfl, hy5⟩ := ix_popR_s hy4
      obtain ⟨h8, hy⟩ := ix_bif_s hy5
      refine ix_copy hC P hy (hneed _ ?_) hL.1 (Nat.le_of_ble_eq_true h8) hdec (fun h' H1 locs1 hw P' => (hn _ _ _ hw).2 la H1 locs1 cells slots hL P')
      unfold ix_need
      dsimp only
      rw [hk2]
      exact List.mem_cons_self
    | false =>
      rw [hk2] at hx
      have hkne : ¬ k = 2 := fun z => by rw [z] at hk2; cases hk2
      obtain ⟨as, st', y, h1, h2, h3, h4, h5⟩ := ix_call_s hx
      obtain ⟨mj, rj, g1, g2, g3, g4, g5⟩ := hcl _ _ _ _ h4
      rw [g1] at hok
      have hok' := hok.resolve_left hkne
      simp only [decide_eq_true_eq] at hok'
      obtain ⟨ha0, hst, hbn, hbl, hrt, hmt⟩ := hok'
      subst h2
      have hPn := (hn _ _ _ h5).1
      have q1 := hPn.1
      have q2 := hPn.2
      rcases hmt with hmt | ⟨ha, hv0, hk1, hb2⟩
      rotate_left
      · obtain ⟨gA, gB⟩ := g5 (by omega)
        have hl0 : Cond.methodLink mm.1.cls i mj.1 ∈ ix_tb := hneed _ (by
          unfold ix_need
          dsimp only
          rw [hk2, g1, hv0]
          exact List.mem_cons_self)
        have p1 := P.2.2.2.2.1
        have p2 := P.2.2.2.2.2
        have hcat : ((st'.map (ix_v base xa)).map fun v => v.category).sum + 13 ≤ R.locals := by
          rw [ix_cat_sum]
          omega
        rcases ha with rfl | rfl
        · obtain ⟨u, w, rfl, rfl⟩ := gA rfl
          obtain rfl : ix_m285 = mj := Option.some.inj g1
          have hmw := hAll.2 285 ix_m285 (by decide) rfl
          have hst1 : Cond.static ix_m285.1 ∈ ix_mw ix_m285 := by simp [ix_mw, hst]
          have hin1 : Cond.initialized ix_m285.1.cls ∈ ix_mw ix_m285 := by simp [ix_mw]
          have q3 : h.1.length ≤ x.2.1.length := q1
          have q4 : ix_sz h.1 ≤ ix_sz x.2.1 := q2
          have hW := (hn _ _ _ h5).2 la H locs cells slots hL P
          rw [hk1] at hW
          exact va_mmin hx0 hb (hml.trans hL.1.symm) hown (hts _ hl0) (hts _ (hmw _ hst1)) (hts _ (hmw _ hin1)) (hts _ (hmw _ List.mem_cons_self)) (by omega) hcat (by omega) (by omega) hdec hW
        · obtain ⟨u, w, rfl, rfl⟩ := gB rfl
          obtain rfl : ix_m289 = mj := Option.some.inj g1
          have hmw := hAll.2 289 ix_m289 (by decide) rfl
          have hst1 : Cond.static ix_m289.1 ∈ ix_mw ix_m289 := by simp [ix_mw, hst]
          have hin1 : Cond.initialized ix_m289.1.cls ∈ ix_mw ix_m289 := by simp [ix_mw]
          have q3 : h.1.length ≤ x.2.1.length := q1
          have q4 : ix_sz h.1 ≤ ix_sz x.2.1 := q2
          have hW := (hn _ _ _ h5).2 la H locs cells slots hL P
          rw [hk1] at hW
          exact va_mmax hx0 hb (hml.trans hL.1.symm) hown (hts _ hl0) (hts _ (hmw _ hst1)) (hts _ (hmw _ hin1)) (hts _ (hmw _ List.mem_cons_self)) (by omega) hcat (by omega) (by omega) hdec hW
      refine ix_invS (v := v) hC P g3 (g4 (by omega) hmt) g2 (by omega) (by omega) (hAll.1 a mj g1) (hAll.2 a mj ha0 g1) hst (by omega) h3 (hneed _ ?_) hL.1 hdec (fun H1 locs1 cells1 slots1 P' => ?_)
      · unfold ix_need
        dsimp only
        rw [hk2, g1]
        exact List.mem_cons_self
      · have hW := (hn _ _ _ h5).2 la H1 locs1 cells1 slots1 hL P'
        cases hmr : mj.2.2.2.1 with
        | none =>
          have hk0 : k = 0 := hrt.mp hmr
          rw [hk0] at hW
          unfold ix_rv
          rw [hmr]
          exact hW
        | some ty =>
          have hk0 : ¬ k = 0 := fun z => by have := hrt.mpr z; rw [hmr] at this; cases this
          have hkb : Nat.beq k 0 = false := by
            cases hz : Nat.beq k 0
            · rfl
            · exact absurd (ix_beq hz) hk0
          rw [hkb] at hW
          unfold ix_rv
          rw [hmr]
          exact hW
  case invokevirtual i =>
    simp only [ix_okb, Bool.and_eq_true, decide_eq_true_eq] at hok
    obtain ⟨⟨rfl, hdd⟩, hok⟩ := hok
    obtain ⟨rr, w1, w2, hx⟩ := ix_recv_s (show ix_recv h b d st (ix_call (ix_D0 cl) nx ls st h a b k) = some x from hx)
    obtain ⟨as, st', y, h1, h2, h3, h4, h5⟩ := ix_call_s hx
    obtain ⟨mj, rj, g1, g2, g3, g4, g5⟩ := hcl _ _ _ _ h4
    rw [g1] at hok
    simp only [decide_eq_true_eq] at hok
    obtain ⟨ha0, hst, hni, hcd, hbn, hbl, hrt, hmt⟩ := hok
    obtain ⟨as', rfl⟩ := ix_as_head h1 h2 (by omega) w1
    subst h2
    have hPn := (hn _ _ _ h5).1
    have q1 := hPn.1
    have q2 := hPn.2
    have hl1 : as'.length + 1 = b := h1
    refine ix_invV (v := v) (d := d) hC P g3 (g4 (by show as'.length + 1 ≤ _; omega) hmt) g2 (by omega) (by omega) (hAll.1 a mj g1) (hAll.2 a mj ha0 g1) hst hni hdd hcd w2 (by omega) h3 (hneed _ ?_) hL.1 hdec (fun H1 locs1 cells1 slots1 P' => ?_)
    · unfold ix_need
      dsimp only
      rw [g1]
      exact List.mem_cons_self
    · have hW := (hn _ _ _ h5).2 la H1 locs1 cells1 slots1 hL P'
      cases hmr : mj.2.2.2.1 with
      | none =>
        have hk0 : k = 0 := hrt.mp hmr
        rw [hk0] at hW
        unfold ix_rv
        rw [hmr]
        exact hW
      | some ty =>
        have hk0 : ¬ k = 0 := fun z => by have := hrt.mpr z; rw [hmr] at this; cases this
        have hkb : Nat.beq k 0 = false := by
          cases hz : Nat.beq k 0
          · rfl
          · exact absurd (ix_beq hz) hk0
        rw [hkb] at hW
        unfold ix_rv
        rw [hmr]
        exact hW
  case invokespecial i =>
    simp only [ix_okb, Bool.and_eq_true, Bool.or_eq_true, decide_eq_true_eq] at hok
    obtain ⟨rfl, hok⟩ := hok
    unfold ix_ex at hx
    dsimp only at hx
    cases hk2 : Nat.beq k 2 with
    | true =>
      rw [hk2] at hx
      obtain ⟨q, st1, rfl, hy⟩ := ix_popR_s hx
      obtain ⟨h8, hy⟩ := ix_bif_s hy
      have h8' : st1.length ≤ 8 := Nat.le_of_ble_eq_true h8
      have hlink : Cond.methodLink mm.1.cls i objectInit ∈ ix_tb := by
        refine hneed _ ?_
        unfold ix_need
        dsimp only
        rw [hk2]
        exact List.mem_cons_self
      refine W.objInit hx0 hb hown (hts _ hlink) (hts _ (ix_glob _ (by simp))) (hts _ (ix_glob _ (by simp))) rfl (hL.1.trans hml.symm) rfl hdec (by omega) ?_ ((hn _ _ _ hy).2 la H locs cells slots hL P)
      show 2 * 0 + ((st1.map (ix_v base xa)).map fun v => v.category).sum + 12 ≤ R.locals
      rw [ix_cat_sum]
      omega
    | false =>
      rw [hk2] at hx
      have hkne : ¬ k = 2 := fun z => by rw [z] at hk2; cases hk2
      obtain ⟨rr, w1, w2, hx⟩ := ix_recv_s hx
      obtain ⟨as, st', y, h1, h2, h3, h4, h5⟩ := ix_call_s hx
      obtain ⟨mj, rj, g1, g2, g3, g4, g5⟩ := hcl _ _ _ _ h4
      rw [g1] at hok
      have hok' := hok.resolve_left hkne
      simp only [decide_eq_true_eq] at hok'
      obtain ⟨ha0, hst, hni, hbn, hbl, hrt, hk0, hmt⟩ := hok'
      obtain ⟨as', rfl⟩ := ix_as_head h1 h2 (by omega) w1
      subst h2
      have hPn := (hn _ _ _ h5).1
      have q1 := hPn.1
      have q2 := hPn.2
      have hl1 : as'.length + 1 = b := h1
      refine ix_invI (v := v) hC P g3 (g4 (by show as'.length + 1 ≤ _; omega) hmt) g2 (by omega) (by omega) (hAll.1 a mj g1) (hAll.2 a mj ha0 g1) hst hni hrt (by omega) h3 (hneed _ ?_) hL.1 hdec (fun H1 locs1 cells1 slots1 P' => ?_)
      · unfold ix_need
        dsimp only
        rw [hk2, g1]
        exact List.mem_cons_self
      · have hW := (hn _ _ _ h5).2 la H1 locs1 cells1 slots1 hL P'
        rw [hk0] at hW
        unfold ix_rv
        rw [hrt]
        exact hW
  case ireturn =>
    simp only [ix_okb, decide_eq_true_eq] at hok
    obtain ⟨rfl, hok⟩ := hok
    rcases st with _ | ⟨y, _ | ⟨z, st⟩⟩
    · cases hx
    · cases y <;> first | (cases hx; done) | skip
      rename_i y
      obtain ⟨h1, h2⟩ := ix_nar_s (show ix_nar a y (some (.int y, h)) = some x from hx)
      cases h1
      have hty : ∃ ty, mm.2.2.2.1 = some ty ∧ ((a = 0 ∧ ty = .int) ∨ (a = 1 ∧ ty = .boolean) ∨ (a = 2 ∧ ty = .byte) ∨ (a = 3 ∧ ty = .char)) := by
        rcases hok with ⟨g1, g2⟩ | ⟨g1, g2⟩ | ⟨g1, g2⟩ | ⟨g1, g2⟩
        · exact ⟨_, g2, Or.inl ⟨g1, rfl⟩⟩
        · exact ⟨_, g2, Or.inr (Or.inl ⟨g1, rfl⟩)⟩
        · exact ⟨_, g2, Or.inr (Or.inr (Or.inl ⟨g1, rfl⟩))⟩
        · exact ⟨_, g2, Or.inr (Or.inr (Or.inr ⟨g1, rfl⟩))⟩
      obtain ⟨ty, g1, g2⟩ := hty
      exact hret pc _ la H locs cells slots (Or.inl ⟨y, ty, rfl, rfl, hdec, g1, ix_nar_ok h2 g2⟩) P
    · cases hx
  case areturn =>
    simp only [ix_okb, Bool.and_eq_true, decide_eq_true_eq] at hok
    obtain ⟨rfl, hok⟩ := hok
    rcases st with _ | ⟨y, _ | ⟨z, st⟩⟩
    · cases hx
    · cases y <;> first | (cases hx; done) | skip
      rename_i y
      cases hx
      cases hmr : mm.2.2.2.1 with
      | none => rw [hmr] at hok; cases hok
      | some rt =>
        rw [hmr] at hok
        refine hret pc _ la H locs cells slots (Or.inr (Or.inl ⟨y, rt, rfl, rfl, hdec, hmr, ?_⟩)) P
        cases rt <;> first | (cases hok; done) | exact Or.inl ⟨_, rfl⟩ | exact Or.inr ⟨_, rfl⟩
    · cases hx
  case return_ =>
    simp only [ix_okb, decide_eq_true_eq] at hok
    obtain ⟨rfl, hok⟩ := hok
    rcases st with _ | ⟨y, st⟩
    · cases hx
      exact hret pc _ la H locs cells slots (Or.inr (Or.inr ⟨rfl, rfl, hdec, hok⟩)) P
    · cases hx
  all_goals (exfalso; cases hx)
end Mn
