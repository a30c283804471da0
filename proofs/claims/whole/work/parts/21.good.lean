theorem ix_chunk {α : Type} {P : α → Prop} {l : List α} (n : Nat) (hn : l.length ≤ 32 * n) (h : ∀ k, k < n → ∀ e ∈ (l.drop (32 * k)).take 32, P e) : ∀ e ∈ l, P e := by
  intro e he
  obtain ⟨i, hi⟩ := List.getElem?_of_mem he
  have hl : i < l.length := (List.getElem?_eq_some_iff.mp hi).1
  refine h (i / 32) (by omega) e ?_
  refine List.mem_of_getElem? (i := i % 32) ?_
  rw [List.getElem?_take, if_pos (by omega), List.getElem?_drop, show 32 * (i / 32) + i % 32 = i by omega]
  exact hi
def ix_Gc (mm : ix_M) (l : List ix_E) : Prop := ∀ e ∈ l, decode mm.2.1 e.1 = .ok (e.2.1, e.2.2.1) ∧ ix_okb mm e = true ∧ ∀ w ∈ ix_need mm.1.cls e, w ∈ ix_tb
theorem ix_Gc_of {mm : ix_M} {l : List ix_E} (ps : List Nat) (h1 : l.all (fun e => decide (decode mm.2.1 e.1 = .ok (e.2.1, e.2.2.1))) = true) (h2 : l.all (ix_okb mm) = true) (h3 : l.flatMap (ix_need mm.1.cls) = ps.filterMap (fun i => lw_tbl[i]?)) : ix_Gc mm l := by
  refine fun e he => ⟨of_decide_eq_true (List.all_eq_true.mp h1 e he), List.all_eq_true.mp h2 e he, fun w hw => ?_⟩
  exact ix_mem_p ps h3 (fun w hw => by obtain ⟨e, -, hw⟩ := List.mem_flatMap.mp hw; exact ix_need_use _ e w hw) w (List.mem_flatMap.mpr ⟨e, he, hw⟩)
set_option maxRecDepth 100000 in
theorem ix_g0_0 : ix_Gc ix_m0 ((ix_t0.drop (32 * 0)).take 32) := ix_Gc_of [158, 160, 1296, 1298, 568] (by decide +kernel) (by decide +kernel) (by decide +kernel)
set_option maxRecDepth 100000 in
theorem ix_g0_1 : ix_Gc ix_m0 ((ix_t0.drop (32 * 1)).take 32) := ix_Gc_of [1469] (by decide +kernel) (by decide +kernel) (by decide +kernel)
set_option maxRecDepth 100000 in
theorem ix_g0_2 : ix_Gc ix_m0 ((ix_t0.drop (32 * 2)).take 32) := ix_Gc_of [576, 1473] (by decide +kernel) (by decide +kernel) (by decide +kernel)
set_option maxRecDepth 100000 in
theorem ix_g0_3 : ix_Gc ix_m0 ((ix_t0.drop (32 * 3)).take 32) := ix_Gc_of [591, 1490] (by decide +kernel) (by decide +kernel) (by decide +kernel)
set_option maxRecDepth 100000 in
theorem ix_g0_4 : ix_Gc ix_m0 ((ix_t0.drop (32 * 4)).take 32) := ix_Gc_of [609, 1658] (by decide +kernel) (by decide +kernel) (by decide +kernel)
set_option maxRecDepth 100000 in
theorem ix_g0_5 : ix_Gc ix_m0 ((ix_t0.drop (32 * 5)).take 32) := ix_Gc_of [735, 1780, 750, 1788] (by decide +kernel) (by decide +kernel) (by decide +kernel)
set_option maxRecDepth 100000 in
theorem ix_g0_6 : ix_Gc ix_m0 ((ix_t0.drop (32 * 6)).take 32) := ix_Gc_of [755] (by decide +kernel) (by decide +kernel) (by decide +kernel)
set_option maxRecDepth 100000 in
theorem ix_g0_7 : ix_Gc ix_m0 ((ix_t0.drop (32 * 7)).take 32) := ix_Gc_of [1502, 767] (by decide +kernel) (by decide +kernel) (by decide +kernel)
set_option maxRecDepth 100000 in
theorem ix_g0_8 : ix_Gc ix_m0 ((ix_t0.drop (32 * 8)).take 32) := ix_Gc_of [1510, 771, 1514, 1012] (by decide +kernel) (by decide +kernel) (by decide +kernel)
set_option maxRecDepth 100000 in
theorem ix_g0_9 : ix_Gc ix_m0 ((ix_t0.drop (32 * 9)).take 32) := ix_Gc_of [1654, 1016] (by decide +kernel) (by decide +kernel) (by decide +kernel)
set_option maxRecDepth 100000 in
theorem ix_g0_10 : ix_Gc ix_m0 ((ix_t0.drop (32 * 10)).take 32) := ix_Gc_of [1792, 1030, 1800] (by decide +kernel) (by decide +kernel) (by decide +kernel)
set_option maxRecDepth 100000 in
theorem ix_g0_11 : ix_Gc ix_m0 ((ix_t0.drop (32 * 11)).take 32) := ix_Gc_of [1034, 1804] (by decide +kernel) (by decide +kernel) (by decide +kernel)
set_option maxRecDepth 100000 in
theorem ix_g0_12 : ix_Gc ix_m0 ((ix_t0.drop (32 * 12)).take 32) := ix_Gc_of [1038, 1808] (by decide +kernel) (by decide +kernel) (by decide +kernel)
set_option maxRecDepth 100000 in
theorem ix_g0_13 : ix_Gc ix_m0 ((ix_t0.drop (32 * 13)).take 32) := ix_Gc_of [1046, 1812, 1055] (by decide +kernel) (by decide +kernel) (by decide +kernel)
set_option maxRecDepth 100000 in
theorem ix_g0_14 : ix_Gc ix_m0 ((ix_t0.drop (32 * 14)).take 32) := ix_Gc_of [1824, 1077, 1836] (by decide +kernel) (by decide +kernel) (by decide +kernel)
set_option maxRecDepth 100000 in
theorem ix_g0_15 : ix_Gc ix_m0 ((ix_t0.drop (32 * 15)).take 32) := ix_Gc_of [1105, 1840, 1125] (by decide +kernel) (by decide +kernel) (by decide +kernel)
set_option maxRecDepth 100000 in
theorem ix_g0_16 : ix_Gc ix_m0 ((ix_t0.drop (32 * 16)).take 32) := ix_Gc_of [1856, 1162] (by decide +kernel) (by decide +kernel) (by decide +kernel)
set_option maxRecDepth 100000 in
theorem ix_g0_17 : ix_Gc ix_m0 ((ix_t0.drop (32 * 17)).take 32) := ix_Gc_of [1888, 1174, 1900] (by decide +kernel) (by decide +kernel) (by decide +kernel)
set_option maxRecDepth 100000 in
theorem ix_g0_18 : ix_Gc ix_m0 ((ix_t0.drop (32 * 18)).take 32) := ix_Gc_of [1186, 1908, 1200, 1917] (by decide +kernel) (by decide +kernel) (by decide +kernel)
set_option maxRecDepth 100000 in
theorem ix_g0_19 : ix_Gc ix_m0 ((ix_t0.drop (32 * 19)).take 32) := ix_Gc_of [1216, 1925, 1224, 1929] (by decide +kernel) (by decide +kernel) (by decide +kernel)
set_option maxRecDepth 100000 in
theorem ix_g0_20 : ix_Gc ix_m0 ((ix_t0.drop (32 * 20)).take 32) := ix_Gc_of [1237, 1937] (by decide +kernel) (by decide +kernel) (by decide +kernel)
set_option maxRecDepth 100000 in
theorem ix_g0_21 : ix_Gc ix_m0 ((ix_t0.drop (32 * 21)).take 32) := ix_Gc_of [1241, 1941, 1257] (by decide +kernel) (by decide +kernel) (by decide +kernel)
set_option maxRecDepth 100000 in
theorem ix_g0_22 : ix_Gc ix_m0 ((ix_t0.drop (32 * 22)).take 32) := ix_Gc_of [1949, 1268, 1465, 1276] (by decide +kernel) (by decide +kernel) (by decide +kernel)
set_option maxRecDepth 100000 in
theorem ix_g0_23 : ix_Gc ix_m0 ((ix_t0.drop (32 * 23)).take 32) := ix_Gc_of [1957, 1292, 1973] (by decide +kernel) (by decide +kernel) (by decide +kernel)
set_option maxRecDepth 100000 in
theorem ix_g0 : ix_Gd ix_m0 := by
  refine ⟨ix_chunk (l := ix_t0) 24 (by decide +kernel) ?_, by decide +kernel⟩
  intro k hk
  rcases k with _ | _ | _ | _ | _ | _ | _ | _ | _ | _ | _ | _ | _ | _ | _ | _ | _ | _ | _ | _ | _ | _ | _ | _ | k
  · exact ix_g0_0
  · exact ix_g0_1
  · exact ix_g0_2
  · exact ix_g0_3
  · exact ix_g0_4
  · exact ix_g0_5
  · exact ix_g0_6
  · exact ix_g0_7
  · exact ix_g0_8
  · exact ix_g0_9
  · exact ix_g0_10
  · exact ix_g0_11
  · exact ix_g0_12
  · exact ix_g0_13
  · exact ix_g0_14
  · exact ix_g0_15
  · exact ix_g0_16
  · exact ix_g0_17
  · exact ix_g0_18
  · exact ix_g0_19
  · exact ix_g0_20
  · exact ix_g0_21
  · exact ix_g0_22
  · exact ix_g0_23
  · omega
