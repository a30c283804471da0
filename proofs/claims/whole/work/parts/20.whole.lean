/-- the interpreter's numbers at the law's start -/
def ix_s0 (L : Nat) (xs : Nat → Int32) : ix_St := fun k j => if k = 999 then Int32.ofNat L else if k = 1000 then xs j else if k = 1001 then ix_rnk.getD j 0 else if k < 1007 then 0 else (ix_byt.getD (k - 1007) []).getD j 0
theorem ix_s0_Xs {L : Nat} (hL : L ≤ 3072) (xs : Nat → Int32) : ix_Xs L xs (ix_s0 L xs) := by
  refine ⟨hL, rfl, fun j _ => rfl, fun j _ => rfl, fun i hi j hj => ?_⟩
  unfold ix_s0
  rw [if_neg (by omega), if_neg (by omega), if_neg (by omega), if_neg (by omega), Nat.add_sub_cancel_left]
set_option maxHeartbeats 4000000 in
theorem ix_start (hAll : ix_All) {p : Program} {e : Env} {s : State} {m : MethodId} {below : List Frame} {meth : Method} {c : Code} (l : Launch) {b L : Nat} {xs : Nat → Int32} (hL : L ≤ 3072) (C0 : lw_At p s m meth c b L xs) {n : Nat} {h' : ix_H} (hx : ix_sem n 0 (ix_rk 0 [.ref 1000]) 0 (ix_in 0 [.ref 1000]) [] ([], ix_s0 L xs) = some (.int 1, h')) (hc : h'.1.length ≤ 600000) (hz : ix_sz h'.1 ≤ 7302250) :
    W p l e room_1 s m #[Value.ref b] below meth c s.heap [] 0 0 (lw_Z below #[Value.ref b] s) (entryFrame m ([Value.ref b] : List Value).toArray 4) := by
  obtain ⟨hx0, hb, hr, hml, hown, hts, hX, hbl, hlocks, hgv⟩ := C0
  have hA0 : ∀ a : Nat, a < s.heap.size → ¬ (fun q : Nat => s.heap.size ≤ q) a := fun a h1 h2 => absurd h1 (Nat.not_lt.mpr h2)
  have hfl : ∀ w ∈ ix_fc, w.before #[Value.ref b] s = true := flat_of_before _ hgv
  have htb : ∀ w ∈ ix_tb, w.before #[Value.ref b] s = true := fun w hw => hts w (List.mem_filter.mp hw).1
  obtain ⟨tR, hevR, hTR⟩ := va_Tof (args := #[Value.ref b]) (s := s) (tm := .static "VotedBank" "RANKS" "[I") (ty := .int) (N := 120) (f := fun j => .int (ix_rnk.getD j 0)) (A := fun q => s.heap.size ≤ q) (by decide) (hfl _ (ix_fo _ (by simp))) (va_eqt (hfl _ (ix_fo _ (by simp)))) (fun j hj => va_eqt (hfl _ (ix_fr _ (List.mem_map.mpr ⟨j, List.mem_range.mpr hj, rfl⟩)))) hA0
  have hZR : va_Z "VotedBank" "RANKS" "[I" (.ref tR) (fun q => s.heap.size ≤ q) s s.heap := va_Zof (hts _ (ix_fls _ (by simp))) (hts _ (ix_fls _ (by simp))) hevR hA0
  have hZC : va_Z "java/lang/String" "COMPACT_STRINGS" "Z" (.int 1) (fun q => s.heap.size ≤ q) s s.heap := va_Zof (hts _ (ix_fls _ (by simp))) (hts _ (ix_fls _ (by simp))) (va_eqi (hfl _ (ix_fo _ (by simp)))) hA0
  have hel : ∀ i : Nat, i < 5 → ∀ j : Nat, j < ix_lens.getD i 0 → (Cond.eq (.elem (.field (ix_tm i) "java/lang/String" "value" "[B") (.int (Int32.ofNat j))) (.int ((ix_byt.getD i []).getD j 0))).before #[Value.ref b] s = true := by
    intro i hi j hj
    have h5 : i = 0 ∨ i = 1 ∨ i = 2 ∨ i = 3 ∨ i = 4 := by omega
    rcases h5 with rfl | rfl | rfl | rfl | rfl
    · exact hfl _ (ix_fe0 _ (List.mem_map.mpr ⟨j, List.mem_range.mpr hj, rfl⟩))
    · exact hfl _ (ix_fe1 _ (List.mem_map.mpr ⟨j, List.mem_range.mpr hj, rfl⟩))
    · exact hfl _ (ix_fe2 _ (List.mem_map.mpr ⟨j, List.mem_range.mpr hj, rfl⟩))
    · exact hfl _ (ix_fe3 _ (List.mem_map.mpr ⟨j, List.mem_range.mpr hj, rfl⟩))
    · exact hfl _ (ix_fe4 _ (List.mem_map.mpr ⟨j, List.mem_range.mpr hj, rfl⟩))
  have hs1 : ∀ i : Nat, i < 5 → ∀ w ∈ ([.exactly (ix_tm i) "java/lang/String", .eq (.field (ix_tm i) "java/lang/String" "coder" "B") (.int 0), .arrayOf (.field (ix_tm i) "java/lang/String" "value" "[B") .byte, .eq (.length (.field (ix_tm i) "java/lang/String" "value" "[B")) (.int (Int32.ofNat (ix_lens.getD i 0)))] : List Cond), w.before #[Value.ref b] s = true := fun i hi w hw => hfl _ (ix_fs1 _ (List.mem_flatMap.mpr ⟨i, List.mem_range.mpr hi, hw⟩))
  have hne : ∀ i j : Nat, i < 5 → j < 5 → i ≠ j → (Cond.not (Cond.eq (ix_tm i) (ix_tm j))).before #[Value.ref b] s = true ∨ (Cond.not (Cond.eq (ix_tm j) (ix_tm i))).before #[Value.ref b] s = true := by
    intro i j hi hj hij
    have key : ∀ i ∈ List.range 5, ∀ j ∈ List.range 5, i = j ∨ (i, j) ∈ ix_prs ∨ (j, i) ∈ ix_prs := by decide
    rcases (key i (List.mem_range.mpr hi) j (List.mem_range.mpr hj)).resolve_left hij with h | h
    · exact Or.inl (hfl _ (ix_fn _ (List.mem_map.mpr ⟨(i, j), h, rfl⟩)))
    · exact Or.inr (hfl _ (ix_fn _ (List.mem_map.mpr ⟨(j, i), h, rfl⟩)))
  obtain ⟨adK, adV, hvk, hevK⟩ := vk_Sof (args := #[Value.ref b]) (s := s) (N := 5) (tm := ix_tm) (len := ix_lens) (byt := ix_byt) (A := fun q => s.heap.size ≤ q) (by decide) (fun i hi => hs1 i hi _ (by simp)) (fun i hi => hs1 i hi _ (by simp)) (fun i hi => hs1 i hi _ (by simp)) (fun i hi => hs1 i hi _ (by simp)) hel hne hA0
  have hZq : va_Zq "jdk/internal/util/Preconditions" "SIOOBE_FORMATTER" "Ljava/util/function/BiFunction;" (fun q => s.heap.size ≤ q) s s.heap := va_Zqof (hts _ (ix_fls2 _ (by simp))) (hts _ (ix_fls2 _ (by simp))) (hfl _ (ix_fo2 _ (by simp))) hA0
  obtain ⟨f12, f13, hZF⟩ : ∃ f12 f13 : Nat, va_Z "jdk/internal/util/Preconditions" "SIOOBE_FORMATTER" "Ljava/util/function/BiFunction;" (if f12 = 0 then .null else .ref f13) (fun q => s.heap.size ≤ q) s s.heap := by
    rcases hZq with h | ⟨t, h⟩
    · exact ⟨0, 0, h⟩
    · exact ⟨1, t, h⟩
  obtain ⟨xa, hxa0, hxa1, hxaK, hxaV, hxaF⟩ : ∃ xa : Nat → Nat, xa 0 = b ∧ xa 1 = tR ∧ (∀ i, i < 5 → xa (2 + i) = adK i) ∧ (∀ i, i < 5 → xa (7 + i) = adV i) ∧ xa 12 = f12 ∧ xa 13 = f13 := by
    refine ⟨fun k => if k = 0 then b else if k = 1 then tR else if k < 7 then adK (k - 2) else if k = 12 then f12 else if k = 13 then f13 else adV (k - 7), rfl, rfl, fun i hi => ?_, fun i hi => ?_, rfl, rfl⟩
    · simp only
      rw [if_neg (by omega), if_neg (by omega), if_pos (by omega), Nat.add_sub_cancel_left]
    · simp only
      rw [if_neg (by omega), if_neg (by omega), if_neg (by omega), if_neg (by omega), if_neg (by omega), Nat.add_sub_cancel_left]
  have hTs : va_T .int (xa 0) L (fun j => .int (xs j)) (fun q => s.heap.size ≤ q) s s.heap := by
    obtain ⟨scr, h1, h2, h3, h4, h5⟩ := hX
    rw [hxa0]
    exact ⟨scr, h1, h2, h3, by omega, by rw [h4], h5, hA0 b hbl⟩
  have hvk' : vk_S 5 ix_lens ix_byt (fun i => xa (2 + i)) (fun i => xa (7 + i)) (fun q => s.heap.size ≤ q) s s.heap := by
    refine ⟨fun i hi => ?_, fun i j hi hj hij => ?_⟩
    · have := hvk.1 i hi
      simp only [hxaK i hi, hxaV i hi]
      exact this
    · simp only [hxaK i hi, hxaK j hj] at hij
      exact hvk.2 i j hi hj hij
  have hR5 : ∀ t ∈ ix_txt, vk_R t.1 t.2.1 t.2.2.1 (xa (t.2.2.2 - 1000)) s := by
    have hsr : ∀ t ∈ ix_txt, (Cond.stringRef t.1 t.2.1 t.2.2.1).before #[Value.ref b] s = true := fun t ht => hts _ (ix_fx _ (List.mem_map.mpr ⟨t, ht, rfl⟩))
    have key : ∀ t ∈ ix_txt, ∃ i, i < 5 ∧ t.2.2.2 - 1000 = 2 + i ∧ ix_tm i = .string t.1 t.2.1 := by decide
    intro t ht
    obtain ⟨i, hi, h1, h2⟩ := key t ht
    rw [h1, hxaK i hi]
    have h3 := hevK i hi
    rw [h2] at h3
    exact vk_R.of (hsr t ht) h3
  have hE : ix_Ex xa (fun q => s.heap.size ≤ q) L xs s s.heap := ⟨hTs, by rw [hxa1]; exact hTR, by rw [hxa1]; exact hZR, ⟨hZC, by unfold ix_fv; rw [hxaF.1, hxaF.2]; exact hZF⟩, hvk', hR5⟩
  have hcl : ∀ ci : Nat, ∃ q : ClassId × (Nat → Nat), ∀ r, ix_cls[ci]? = some r → u_Kn s r.1 r.2.1 r.2.2 q.1 q.2 := by
    intro ci
    cases hq : ix_cls[ci]? with
    | none => exact ⟨(0, fun _ => 0), fun r hr => by cases hr⟩
    | some r =>
      have hO := ix_cls_ok ci r (by rw [ix_n_eq]; exact hq)
      obtain ⟨cC, iS, hk⟩ := u_known htb hO.1 (htb _ (hO.2.1 _ List.mem_cons_self))
      exact ⟨(cC, iS), fun r' hr' => by cases hr'; exact hk⟩
  obtain ⟨dq, hdq⟩ := Classical.axiomOfChoice hcl
  obtain ⟨cI, kI, oI, i1, i2, i3⟩ := Cond.arrayClass_spec (args := #[Value.ref b]) (first := s) (o := none) (s := s) (idx := []) (htb _ (ix_glob (.arrayClass .int) (by simp)))
  obtain ⟨cB, kB, oB, b1, b2, b3⟩ := Cond.arrayClass_spec (args := #[Value.ref b]) (first := s) (o := none) (s := s) (idx := []) (htb _ (ix_glob (.arrayClass .byte) (by simp)))
  obtain ⟨oR, cR, kR, r1, -, r2, r3, r4⟩ := Cond.arrayOver_spec (args := #[Value.ref b]) (first := s) (o := none) (s := s) (idx := []) (n := "VotedBank$River") (htb _ (ix_glob (.arrayOver (.object "VotedBank$River")) (by simp)))
  have hK : va_K (fun ci => (dq ci).1, fun ci => (dq ci).2) ix_cls (ix_tys cI cB cR) s := by
    refine ⟨fun ci r hr => hdq ci r hr, fun k q hk => ?_⟩
    rcases k with _ | _ | _ | k
    · cases hk
      exact ⟨fun N z => ⟨(fun k h => by cases h), kI, i2, oI, i3⟩, i1⟩
    · cases hk
      exact ⟨fun N z => ⟨(fun k h => by cases h), kB, b2, oB, b3⟩, b1⟩
    · cases hk
      exact ⟨fun N z => ⟨(fun k h => by cases h), kR, r2, oR, r3⟩, kR, oR, r2, r3, r1, r4⟩
    · cases hk
  have hm0 : ix_n ix_ms 0 = some ix_m0 := rfl
  have hrk : ix_rk 0 [.ref 1000] = 37 := rfl
  have hCx : ix_Cx s.heap.size xa cI cB cR (fun ci => (dq ci).1, fun ci => (dq ci).2) L xs ix_m0 (ix_rk 0 [.ref 1000]) p room_1 s m #[Value.ref b] meth c :=
    ⟨hx0, hb, hr, hlocks, hml, hown, htb, fun h => absurd h (by decide), hK, hE, by rw [hrk]; decide, by rw [hrk]; decide, by rw [hrk]; decide⟩
  have hl := lv_entry ([Value.ref b]) (n := 4) (Nat.le_of_ble_eq_true rfl)
  rw [lg_entry_eq]
  generalize (lg_sl ([Value.ref b]) ++ List.replicate (4 - (lg_sl ([Value.ref b])).length) Slot.unset).toArray = la at hl ⊢
  have hLo : ix_Lo s.heap.size xa 4 (ix_in 0 [.ref 1000]) la := by
    refine ⟨hl.1, Nat.le_refl _, hl.2.1, fun i v hi => ?_⟩
    rcases i with _ | _ | _ | _ | i
    · cases hi
      have h1 : la[0]? = some (.val (.ref b)) := hl.2.2 (0, .ref b) List.mem_cons_self
      rw [h1]
      show _ = some (Slot.val (Value.ref (ix_ad s.heap.size xa (1000 + 0))))
      rw [ix_ad_x, hxa0]
    all_goals cases hi
  have hPt : ix_Pt s.heap.size xa cI cB cR (fun ci => (dq ci).1, fun ci => (dq ci).2) L xs s 0 0 ([], ix_s0 L xs) s.heap [] 0 0 :=
    ⟨⟨fun k q hk => by simp [ix_ws] at hk, Nat.zero_le _, fun sh hsh => by cases hsh⟩, ix_s0_Xs hL xs, va_S.rf, rfl, rfl, rfl⟩
  refine ix_sound hAll n 0 (ix_rk 0 [.ref 1000]) 0 (ix_in 0 [.ref 1000]) [] ([], ix_s0 L xs) (.int 1, h') hx ix_m0 hm0 p e room_1 s m _ below meth c _ 0 0 hCx (by rw [Nat.zero_add]; exact hc) (by rw [Nat.zero_add]; exact hz) ?_ la s.heap [] 0 0 hLo hPt
  intro pc st la H locs cells slots hRt P
  have p1 : cells + 0 = h'.1.length := P.2.2.2.2.1
  have p2 : slots + 0 = ix_sz h'.1 := P.2.2.2.2.2
  rcases hRt with ⟨iv, ty, h1, rfl, hd, g1, g2⟩ | ⟨a, rt, h1, -⟩ | ⟨h1, -⟩
  · cases h1
    refine va_forget (fun q hq => P.2.2.1.2.2 q hq) ?_
    refine W.widen (k := 600000) (n := 7302250) (by omega) (by omega) ?_
    exact lw_ret hx0 hb hr hlocks hd
  · cases h1
  · cases h1
