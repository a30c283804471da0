section Stp
variable {base : Nat} {xa : Nat → Nat} {cI cB cR : ClassId} {D : va_G} {L : Nat} {xs : Nat → Int32}
variable {p : Program} {l : Launch} {e : Env} {R : Room} {s : State} {m : MethodId} {args : Array Value} {below : List Frame} {meth : Method} {c : Code} {Q : State → Prop}
theorem ix_xs_11 {σ : ix_St} {i n : Nat} {sl : List (Option (Option Nat))} (h : ix_n (ix_xs σ) i = some (11, n, sl)) : (i = 0 ∧ n = (σ 999 0).toNatClampNeg) ∨ (i = 1 ∧ n = 120) := by
  rcases i with _ | _ | _ | _ | _ | _ | _ | _ | _ | _ | _ | _ | i
  · cases h; exact Or.inl ⟨rfl, rfl⟩
  · cases h; exact Or.inr ⟨rfl, rfl⟩
  all_goals cases h
theorem ix_xs_12 {σ : ix_St} {i n : Nat} {sl : List (Option (Option Nat))} (h : ix_n (ix_xs σ) i = some (12, n, sl)) : ∃ k, k < 5 ∧ i = 7 + k ∧ n = ix_lens.getD k 0 := by
  rcases i with _ | _ | _ | _ | _ | _ | _ | _ | _ | _ | _ | _ | i
  all_goals first | (cases h; done) | skip
  · cases h; exact ⟨0, by decide, rfl, rfl⟩
  · cases h; exact ⟨1, by decide, rfl, rfl⟩
  · cases h; exact ⟨2, by decide, rfl, rfl⟩
  · cases h; exact ⟨3, by decide, rfl, rfl⟩
  · cases h; exact ⟨4, by decide, rfl, rfl⟩
theorem ix_xs_14 {σ : ix_St} {i n : Nat} {sl : List (Option (Option Nat))} (h : ix_n (ix_xs σ) i = some (14, n, sl)) : n < 5 ∧ i = 2 + n := by
  rcases i with _ | _ | _ | _ | _ | _ | _ | _ | _ | _ | _ | _ | i
  all_goals first | (cases h; done) | skip
  all_goals (cases h; exact ⟨by decide, rfl⟩)
theorem ix_xs_lo {σ : ix_St} {i q n : Nat} {sl : List (Option (Option Nat))} (h : ix_n (ix_xs σ) i = some (q, n, sl)) : 4 ≤ q := by
  rcases i with _ | _ | _ | _ | _ | _ | _ | _ | _ | _ | _ | _ | i
  all_goals (cases h; try decide)
theorem ix_ad_x (i : Nat) : ix_ad base xa (1000 + i) = xa i := by
  unfold ix_ad
  rw [if_neg (by omega), Nat.add_sub_cancel_left]
theorem ix_mem_n {α : Type} {l : List α} {r : Nat} {x : α} (h : ix_n l r = some x) : x ∈ l := by
  rw [ix_n_eq] at h
  exact List.mem_of_getElem? h
/-- an array read, of an own cell or a given one -/
theorem ix_iald {mm : ix_M} {r0 n0 z0 pc : Nat} (C : ix_Cx base xa cI cB cR D L xs mm r0 p R s m args meth c) {h : ix_H} {H : Heap} {locs : List Loc} {cells slots : Nat} (P : ix_Pt base xa cI cB cR D L xs s n0 z0 h H locs cells slots) {r q n : Nat} {sl : List (Option (Option Nat))} (hs : ix_sh h r = some (q, n, sl)) (hq : q = 1 ∨ q = 1 + 10) {i : Int32} (hi : ¬ (i < 0 ∨ n ≤ i.toNatClampNeg)) {la : Array Slot} {rest : List Value} (hdg : decode mm.2.1 pc = .ok (.iaload, 1))
    (kk : W p l e R s m args below meth c H locs cells slots Q (F0 m (pc + 1) la (.int (h.2 r i.toNatClampNeg) :: rest))) : W p l e R s m args below meth c H locs cells slots Q (F0 m pc la (.int i :: .ref (ix_ad base xa r) :: rest)) := by
  obtain ⟨hx0, hb, hr, hlk, hml, hown, hts, hnm, hK, hE, -⟩ := C
  rcases ix_sh_s hs with ⟨h1, h2⟩ | ⟨i0, rfl, h2⟩
  · have h3 := P.1.2.2 _ (ix_mem_n h2)
    have h4 : q = 1 := by simp only at h3; omega
    subst h4
    rw [(P.own h2).2]
    exact va_iald hx0 hb hK P.1.1 r 0 (ix_at0 h2) rfl hi hdg kk
  · have h3 := ix_xs_lo h2
    have h4 : q = 11 := by omega
    subst h4
    rw [ix_ad_x]
    have hX := P.2.1
    have hlt : i.toNatClampNeg < n := Nat.not_le.mp fun q => hi (Or.inr q)
    rcases ix_xs_11 h2 with ⟨rfl, rfl⟩ | ⟨rfl, rfl⟩
    · have hLe : (h.2 999 0).toNatClampNeg = L := by rw [hX.2.1]; exact nI_clamp (Nat.lt_of_le_of_lt hX.1 (by decide))
      rw [hLe] at hi hlt
      refine va_ti hx0 hb hE.1 P.2.2.1 hi (v := .int (h.2 1000 i.toNatClampNeg)) ?_ hdg kk
      show Value.int (xs _) = _
      rw [hX.2.2.1 _ hlt]
    · refine va_ti hx0 hb hE.2.1 P.2.2.1 hi (v := .int (h.2 1001 i.toNatClampNeg)) ?_ hdg kk
      show Value.int _ = _
      rw [hX.2.2.2.1 _ hlt]
theorem ix_bald {mm : ix_M} {r0 n0 z0 pc : Nat} (C : ix_Cx base xa cI cB cR D L xs mm r0 p R s m args meth c) {h : ix_H} {H : Heap} {locs : List Loc} {cells slots : Nat} (P : ix_Pt base xa cI cB cR D L xs s n0 z0 h H locs cells slots) {r q n : Nat} {sl : List (Option (Option Nat))} (hs : ix_sh h r = some (q, n, sl)) (hq : q = 2 ∨ q = 2 + 10) {i : Int32} (hi : ¬ (i < 0 ∨ n ≤ i.toNatClampNeg)) {la : Array Slot} {rest : List Value} (hdg : decode mm.2.1 pc = .ok (.baload, 1))
    (kk : W p l e R s m args below meth c H locs cells slots Q (F0 m (pc + 1) la (.int (h.2 r i.toNatClampNeg) :: rest))) : W p l e R s m args below meth c H locs cells slots Q (F0 m pc la (.int i :: .ref (ix_ad base xa r) :: rest)) := by
  obtain ⟨hx0, hb, hr, hlk, hml, hown, hts, hnm, hK, hE, -⟩ := C
  rcases ix_sh_s hs with ⟨h1, h2⟩ | ⟨i0, rfl, h2⟩
  · have h3 := P.1.2.2 _ (ix_mem_n h2)
    have h4 : q = 2 := by simp only at h3; omega
    subst h4
    rw [(P.own h2).2]
    exact va_bald hx0 hb hK P.1.1 r 1 (ix_at0 h2) rfl hi hdg kk
  · have h3 := ix_xs_lo h2
    have h4 : q = 12 := by omega
    subst h4
    rw [ix_ad_x]
    have hX := P.2.1
    have hlt : i.toNatClampNeg < n := Nat.not_le.mp fun q => hi (Or.inr q)
    obtain ⟨k, hk, rfl, rfl⟩ := ix_xs_12 h2
    refine va_tb hx0 hb (hE.2.2.2.2.1.1 k hk).2.2.2 P.2.2.1 hi (v := .int (h.2 (1000 + (7 + k)) i.toNatClampNeg)) ?_ hdg kk
    show Value.int _ = _
    rw [show 1000 + (7 + k) = 1007 + k by omega, hX.2.2.2.2 k hk _ hlt]
theorem ix_alen {mm : ix_M} {r0 n0 z0 pc : Nat} (C : ix_Cx base xa cI cB cR D L xs mm r0 p R s m args meth c) {h : ix_H} {H : Heap} {locs : List Loc} {cells slots : Nat} (P : ix_Pt base xa cI cB cR D L xs s n0 z0 h H locs cells slots) {r q n : Nat} {sl : List (Option (Option Nat))} (hs : ix_sh h r = some (q, n, sl)) (hq : q = 1 ∨ q = 2 ∨ q = 11 ∨ q = 12) {la : Array Slot} {rest : List Value} (hdg : decode mm.2.1 pc = .ok (.arraylength, 1))
    (kk : W p l e R s m args below meth c H locs cells slots Q (F0 m (pc + 1) la (.int (Int32.ofNat n) :: rest))) : W p l e R s m args below meth c H locs cells slots Q (F0 m pc la (.ref (ix_ad base xa r) :: rest)) := by
  obtain ⟨hx0, hb, hr, hlk, hml, hown, hts, hnm, hK, hE, -⟩ := C
  rcases ix_sh_s hs with ⟨h1, h2⟩ | ⟨i0, rfl, h2⟩
  · have h3 := P.1.2.2 _ (ix_mem_n h2)
    rw [(P.own h2).2]
    have h4 : q = 1 ∨ q = 2 := by simp only at h3; omega
    rcases h4 with rfl | rfl
    · exact va_alen hx0 hb hK P.1.1 r 0 (ix_at0 h2) (ty := .int) rfl rfl hdg kk
    · exact va_alen hx0 hb hK P.1.1 r 1 (ix_at0 h2) (ty := .byte) rfl rfl hdg kk
  · have h3 := ix_xs_lo h2
    rw [ix_ad_x]
    have hX := P.2.1
    have h4 : q = 11 ∨ q = 12 := by omega
    rcases h4 with rfl | rfl
    · rcases ix_xs_11 h2 with ⟨rfl, rfl⟩ | ⟨rfl, rfl⟩
      · have hLe : (h.2 999 0).toNatClampNeg = L := by rw [hX.2.1]; exact nI_clamp (Nat.lt_of_le_of_lt hX.1 (by decide))
        rw [hLe] at kk
        exact va_tlen hx0 hb hE.1 P.2.2.1 rfl hdg kk
      · exact va_tlen hx0 hb hE.2.1 P.2.2.1 rfl hdg kk
    · obtain ⟨k, hk, rfl, rfl⟩ := ix_xs_12 h2
      exact va_tlen hx0 hb (hE.2.2.2.2.1.1 k hk).2.2.2 P.2.2.1 rfl hdg kk
/-- a field read -/
theorem ix_getf {mm : ix_M} {r0 n0 z0 pc idx ci k : Nat} (C : ix_Cx base xa cI cB cR D L xs mm r0 p R s m args meth c) {h : ix_H} {H : Heap} {locs : List Loc} {cells slots : Nat} (P : ix_Pt base xa cI cB cR D L xs s n0 z0 h H locs cells slots) {r : Nat} {x : Value × ix_H} {f : Value → ix_R} (hx : ix_get h r ci k f = some x)
    (hok : (ci = 99 ∧ k < 2) ∨ (ci < 12 ∧ k < (ix_kinds ci).length)) (hneed : ∀ w ∈ (bif Nat.beq ci 99 then (match k with
        | 0 => [.fieldLink mm.1.cls idx "java/lang/String" "value" "[B"]
        | _ => [.fieldLink mm.1.cls idx "java/lang/String" "coder" "B"]) else (match ix_n ix_cls ci with
        | some r => [.fieldLink mm.1.cls idx r.1 (r.2.1 k).2.1 (r.2.1 k).2.2.1]
        | none => []) : List Cond), w ∈ ix_tb) {la : Array Slot} {rest : List Value} (hdg : decode mm.2.1 pc = .ok (.getfield idx, 3))
    (kk : ∀ v, f v = some x → W p l e R s m args below meth c H locs cells slots Q (F0 m (pc + 3) la (ix_v base xa v :: rest))) : W p l e R s m args below meth c H locs cells slots Q (F0 m pc la (.ref (ix_ad base xa r) :: rest)) := by
  obtain ⟨hx0, hb, hr, hlk, hml, hown, hts, hnm, hK, hE, -⟩ := C
  rcases ix_get_s hx with ⟨sl, hs, hv⟩ | ⟨rfl, n, sl, hs, hv⟩
  · rcases ix_sh_s hs with ⟨h1, h2⟩ | ⟨i0, rfl, h2⟩
    · have hci : ci < 12 ∧ k < (ix_kinds ci).length := by
        rcases hok with ⟨rfl, -⟩ | h5
        · exfalso
          obtain ⟨q, hq, -⟩ := P.1.1 r _ (ix_at0 h2)
          exact absurd hq (by simp [ix_cls])
        · exact h5
      obtain ⟨rc, hrc⟩ : ∃ rc, ix_n ix_cls ci = some rc := by
        rw [ix_n_eq]
        exact ⟨_, List.getElem?_eq_getElem (show ci < ix_cls.length from hci.1)⟩
      have hO := ix_cls_ok ci rc hrc
      have hne : Nat.beq ci 99 = false := by
        cases hq : Nat.beq ci 99
        · rfl
        · have := ix_beq hq; omega
      rw [hne, hrc] at hneed
      have hkN : k < rc.2.2 := by rw [← hO.2.2.2.2.1]; exact hci.2
      rw [(P.own h2).2]
      obtain ⟨Cn, T, N⟩ := rc
      have hgo : ∀ v, ix_n sl k = some v → W p l e R s m args below meth c H locs cells slots Q (F0 m (pc + 3) la (ix_sv base xa (h.2 r) k v :: rest)) → W p l e R s m args below meth c H locs cells slots Q (F0 m pc la (.ref (base + r) :: rest)) := by
        intro v hv2 hW
        refine va_get (D := D) (ci := ci) (C := Cn) (T := T) (N := N) (ref := Cn) hx0 hb hts hO.1 hown hK P.1.1 r (ix_at0 h2) (by rw [← ix_n_eq]; exact hrc) k hkN (hts _ (hneed _ List.mem_cons_self)) (fun y hy => ?_) (v := ix_sv base xa (h.2 r) k v) ?_ hdg hW
        · rw [show (T k).1 = Cn from hO.2.2.2.2.2.1 k hkN] at hy
          exact hy
        · rw [ix_fl_get, ← ix_n_eq, hv2]
          simp
      rcases hv with ⟨h5, h6⟩ | ⟨a, h5, h6⟩
      · exact hgo none h5 (kk _ h6)
      · exact hgo (some (some a)) h5 (kk _ h6)
    · exact absurd (ix_xs_lo h2) (by decide)
  · rcases ix_sh_s hs with ⟨h1, h2⟩ | ⟨i0, rfl, h2⟩
    · have h9 : (14 : Nat) < 4 := P.1.2.2 _ (ix_mem_n h2)
      omega
    · obtain ⟨hn, rfl⟩ := ix_xs_14 h2
      rw [ix_ad_x]
      have hS5 := hE.2.2.2.2.1.1 n hn
      rcases hv with ⟨rfl, h6⟩ | ⟨h5, h6⟩
      · have hk6 := kk _ h6
        rw [show ix_v base xa (.ref (1007 + n)) = .ref (xa (7 + n)) from congrArg Value.ref (by rw [show 1007 + n = 1000 + (7 + n) by omega]; exact ix_ad_x _)] at hk6
        exact vk_getf hx0 hb hS5.2.2.1 P.2.2.1 hown (hts _ (hneed _ List.mem_cons_self)) (fun _ h => h) hdg hk6
      · obtain ⟨k', rfl⟩ : ∃ k', k = k' + 1 := ⟨k - 1, by omega⟩
        exact vk_getf hx0 hb hS5.2.1 P.2.2.1 hown (hts _ (hneed _ List.mem_cons_self)) (fun _ h => h) hdg (kk _ h6)
/-- a field write -/
theorem ix_putf {mm : ix_M} {r0 n0 z0 pc idx ci k b : Nat} (C : ix_Cx base xa cI cB cR D L xs mm r0 p R s m args meth c) {h : ix_H} {H : Heap} {locs : List Loc} {cells slots : Nat} (P : ix_Pt base xa cI cB cR D L xs s n0 z0 h H locs cells slots) {r : Nat} {v : Value} {x : Value × ix_H} {f : ix_H → ix_R} (hx : ix_put h r ci k b v f = some x)
    (hok : ci < 12 ∧ k < (ix_kinds ci).length ∧ ix_n (ix_kinds ci) k = some b) (hfin : ∀ rc, ix_n ix_cls ci = some rc → (rc.2.1 k).2.2.2 = false ∨ (mm.1.name = "<init>" ∧ rc.1 = mm.1.cls)) (hneed : ∀ rc, ix_n ix_cls ci = some rc → Cond.fieldLink mm.1.cls idx rc.1 (rc.2.1 k).2.1 (rc.2.1 k).2.2.1 ∈ ix_tb) {la : Array Slot} {rest : List Value} (hdg : decode mm.2.1 pc = .ok (.putfield idx, 3))
    (kk : ∀ h' H1 locs1, f h' = some x → ix_Pt base xa cI cB cR D L xs s n0 z0 h' H1 locs1 cells slots → W p l e R s m args below meth c H1 locs1 cells slots Q (F0 m (pc + 3) la rest)) : W p l e R s m args below meth c H locs cells slots Q (F0 m pc la (ix_v base xa v :: .ref (ix_ad base xa r) :: rest)) := by
  obtain ⟨hx0, hb, hr, hlk, hml, hown, hts, hnm, hK, hE, -⟩ := C
  obtain ⟨sl, h2, hv⟩ := ix_put_s hx
  obtain ⟨⟨Cn, T, N⟩, hrc⟩ : ∃ rc, ix_n ix_cls ci = some rc := by
    rw [ix_n_eq]
    exact ⟨_, List.getElem?_eq_getElem (show ci < ix_cls.length from hok.1)⟩
  have hO := ix_cls_ok ci _ hrc
  have hkN : k < N := by rw [← show (ix_kinds ci).length = N from hO.2.2.2.2.1]; exact hok.2.1
  rw [(P.own h2).2]
  have hD : va_D (fun q => base ≤ q) (ix_ws base xa cI cB cR h.2 0 h.1) := ix_D
  have hsame : ∀ y, s.fieldFound? (T k).1 (T k).2.1 (T k).2.2.1 = some y → s.fieldFound? Cn (T k).2.1 (T k).2.2.1 = some y := fun y hy => by
    rw [show (T k).1 = Cn from hO.2.2.2.2.2.1 k hkN] at hy
    exact hy
  have hrc' : ix_cls[ci]? = some (Cn, T, N) := by rw [← ix_n_eq]; exact hrc
  have go : ∀ (w : Value), narrow (ix_ty ci k) w = w → fits (ix_ty ci k) w = true → (∀ (H1 : Heap) (locs1 : List Loc), va_P D ix_cls ((ix_ws base xa cI cB cR h.2 0 h.1).set r (base + r, .inr (ci, (ix_fl base xa (h.2 r) 0 sl).set k w))) H1 → va_S (fun q => base ≤ q) s.heap H1 locs1 → W p l e R s m args below meth c H1 locs1 cells slots Q (F0 m (pc + 3) la rest)) → k < sl.length → W p l e R s m args below meth c H locs cells slots Q (F0 m pc la (w :: .ref (base + r) :: rest)) := by
    intro w hn hf hW hlen
    rcases hfin _ hrc with h7 | ⟨h7, h8⟩
    · exact va_put (D := D) (ci := ci) (v := w) (ty := ix_ty ci k) (C := Cn) (T := T) (N := N) (ref := Cn) hx0 hb hts hO.1 (ix_ty ci) hO.2.2.1 hO.2.2.2.1 hown hK P.1.1 hD P.2.2.1 r (ix_at0 h2) hrc' k hkN (hts _ (hneed _ hrc)) hsame h7 (hO.2.2.1 k hkN) hn hf (by rw [ix_fl_len]; exact hlen) hdg (fun H1 locs1 hP _ hS => hW H1 locs1 hP hS)
    · cases h9 : (T k).2.2.2 with
      | false => exact va_put (D := D) (ci := ci) (v := w) (ty := ix_ty ci k) (C := Cn) (T := T) (N := N) (ref := Cn) hx0 hb hts hO.1 (ix_ty ci) hO.2.2.1 hO.2.2.2.1 hown hK P.1.1 hD P.2.2.1 r (ix_at0 h2) hrc' k hkN (hts _ (hneed _ hrc)) hsame h9 (hO.2.2.1 k hkN) hn hf (by rw [ix_fl_len]; exact hlen) hdg (fun H1 locs1 hP _ hS => hW H1 locs1 hP hS)
      | true => exact va_putF (D := D) (ci := ci) (v := w) (ty := ix_ty ci k) (C := Cn) (T := T) (N := N) (ref := Cn) hx0 hb hts hO.1 (ix_ty ci) hO.2.2.1 hO.2.2.2.1 hown hK P.1.1 hD P.2.2.1 r (ix_at0 h2) hrc' k hkN (hts _ (hneed _ hrc)) hsame h9 (hnm h7) ((hO.2.2.2.2.2.1 k hkN).trans h8) (hO.2.2.1 k hkN) hn hf (by rw [ix_fl_len]; exact hlen) hdg (fun H1 locs1 hP _ hS => hW H1 locs1 hP hS)
  rcases hv with ⟨y, rfl, h3, h4, h5⟩ | ⟨a, o, rfl, rfl, h3, h5⟩
  · have hty : narrow (ix_ty ci k) (.int y) = .int y ∧ fits (ix_ty ci k) (.int y) = true := by
      rcases hO.2.2.2.2.2.2 k hkN with ⟨g1, g2⟩ | ⟨g1, g2⟩ | ⟨g1, g2⟩
      · rw [g2]; exact ⟨rfl, rfl⟩
      · rw [g2]
        have hb1 : b = 1 := Option.some.inj (hok.2.2.symm.trans g1)
        rcases h4 with h4 | ⟨-, h4⟩
        · omega
        · rcases h4 with rfl | rfl <;> exact ⟨rfl, rfl⟩
      · have hb1 : b = 2 := Option.some.inj (hok.2.2.symm.trans g1)
        rcases h4 with h4 | ⟨h4, -⟩ <;> omega
    refine go (.int y) hty.1 hty.2 (fun H1 locs1 hP hS => ?_) (ix_n_lt h3)
    rw [ix_fl_int y h3] at hP
    exact kk _ H1 locs1 h5 (P.row h2 (upd (h.2 r) k y) hP hS)
  · have hty : narrow (ix_ty ci k) (.ref (ix_ad base xa a)) = .ref (ix_ad base xa a) ∧ fits (ix_ty ci k) (.ref (ix_ad base xa a)) = true := by
      rcases hO.2.2.2.2.2.2 k hkN with ⟨g1, g2⟩ | ⟨g1, g2⟩ | ⟨g1, g2⟩
      · exact absurd (Option.some.inj (hok.2.2.symm.trans g1)) (by decide)
      · exact absurd (Option.some.inj (hok.2.2.symm.trans g1)) (by decide)
      · cases h9 : ix_ty ci k <;> rw [h9] at g2 <;> first | (cases g2; done) | exact ⟨rfl, rfl⟩
    refine go (.ref (ix_ad base xa a)) hty.1 hty.2 (fun H1 locs1 hP hS => ?_) (ix_n_lt h3)
    rw [ix_fl_ref (ix_n_lt h3)] at hP
    exact kk _ H1 locs1 h5 (P.shape _ h2 hP hS)
end Stp
