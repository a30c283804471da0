set_option maxRecDepth 100000 in
theorem ix_g156_0 : ix_Gc ix_m156 ((ix_t156.drop (32 * 0)).take 32) := ix_Gc_of [1301, 1303, 1304, 1306, 1310, 1311, 1312, 1313] (by decide +kernel) (by decide +kernel) (by decide +kernel)
set_option maxRecDepth 100000 in
theorem ix_g156_1 : ix_Gc ix_m156 ((ix_t156.drop (32 * 1)).take 32) := ix_Gc_of [1314] (by decide +kernel) (by decide +kernel) (by decide +kernel)
set_option maxRecDepth 100000 in
theorem ix_g156_2 : ix_Gc ix_m156 ((ix_t156.drop (32 * 2)).take 32) := ix_Gc_of [] (by decide +kernel) (by decide +kernel) (by decide +kernel)
set_option maxRecDepth 100000 in
theorem ix_g156_3 : ix_Gc ix_m156 ((ix_t156.drop (32 * 3)).take 32) := ix_Gc_of [] (by decide +kernel) (by decide +kernel) (by decide +kernel)
set_option maxRecDepth 100000 in
theorem ix_g156_4 : ix_Gc ix_m156 ((ix_t156.drop (32 * 4)).take 32) := ix_Gc_of [] (by decide +kernel) (by decide +kernel) (by decide +kernel)
set_option maxRecDepth 100000 in
theorem ix_g156_5 : ix_Gc ix_m156 ((ix_t156.drop (32 * 5)).take 32) := ix_Gc_of [] (by decide +kernel) (by decide +kernel) (by decide +kernel)
set_option maxRecDepth 100000 in
theorem ix_g156_6 : ix_Gc ix_m156 ((ix_t156.drop (32 * 6)).take 32) := ix_Gc_of [] (by decide +kernel) (by decide +kernel) (by decide +kernel)
set_option maxRecDepth 100000 in
theorem ix_g156_7 : ix_Gc ix_m156 ((ix_t156.drop (32 * 7)).take 32) := ix_Gc_of [] (by decide +kernel) (by decide +kernel) (by decide +kernel)
set_option maxRecDepth 100000 in
theorem ix_g156_8 : ix_Gc ix_m156 ((ix_t156.drop (32 * 8)).take 32) := ix_Gc_of [] (by decide +kernel) (by decide +kernel) (by decide +kernel)
set_option maxRecDepth 100000 in
theorem ix_g156_9 : ix_Gc ix_m156 ((ix_t156.drop (32 * 9)).take 32) := ix_Gc_of [] (by decide +kernel) (by decide +kernel) (by decide +kernel)
set_option maxRecDepth 100000 in
theorem ix_g156_10 : ix_Gc ix_m156 ((ix_t156.drop (32 * 10)).take 32) := ix_Gc_of [] (by decide +kernel) (by decide +kernel) (by decide +kernel)
set_option maxRecDepth 100000 in
theorem ix_g156_11 : ix_Gc ix_m156 ((ix_t156.drop (32 * 11)).take 32) := ix_Gc_of [] (by decide +kernel) (by decide +kernel) (by decide +kernel)
set_option maxRecDepth 100000 in
theorem ix_g156_12 : ix_Gc ix_m156 ((ix_t156.drop (32 * 12)).take 32) := ix_Gc_of [] (by decide +kernel) (by decide +kernel) (by decide +kernel)
set_option maxRecDepth 100000 in
theorem ix_g156_13 : ix_Gc ix_m156 ((ix_t156.drop (32 * 13)).take 32) := ix_Gc_of [] (by decide +kernel) (by decide +kernel) (by decide +kernel)
set_option maxRecDepth 100000 in
theorem ix_g156_14 : ix_Gc ix_m156 ((ix_t156.drop (32 * 14)).take 32) := ix_Gc_of [] (by decide +kernel) (by decide +kernel) (by decide +kernel)
set_option maxRecDepth 100000 in
theorem ix_g156_15 : ix_Gc ix_m156 ((ix_t156.drop (32 * 15)).take 32) := ix_Gc_of [] (by decide +kernel) (by decide +kernel) (by decide +kernel)
set_option maxRecDepth 100000 in
theorem ix_g156_16 : ix_Gc ix_m156 ((ix_t156.drop (32 * 16)).take 32) := ix_Gc_of [] (by decide +kernel) (by decide +kernel) (by decide +kernel)
set_option maxRecDepth 100000 in
theorem ix_g156_17 : ix_Gc ix_m156 ((ix_t156.drop (32 * 17)).take 32) := ix_Gc_of [] (by decide +kernel) (by decide +kernel) (by decide +kernel)
set_option maxRecDepth 100000 in
theorem ix_g156_18 : ix_Gc ix_m156 ((ix_t156.drop (32 * 18)).take 32) := ix_Gc_of [1320, 1321, 1322, 1323, 1324, 1325, 1326, 1327] (by decide +kernel) (by decide +kernel) (by decide +kernel)
set_option maxRecDepth 100000 in
theorem ix_g156_19 : ix_Gc ix_m156 ((ix_t156.drop (32 * 19)).take 32) := ix_Gc_of [1331, 1336, 1338, 1340, 1342, 1343, 1344, 1346] (by decide +kernel) (by decide +kernel) (by decide +kernel)
set_option maxRecDepth 100000 in
theorem ix_g156_20 : ix_Gc ix_m156 ((ix_t156.drop (32 * 20)).take 32) := ix_Gc_of [1347, 1348, 1350, 1351, 1355] (by decide +kernel) (by decide +kernel) (by decide +kernel)
set_option maxRecDepth 100000 in
theorem ix_g156 : ix_Gd ix_m156 := by
  refine ⟨ix_chunk (l := ix_t156) 21 (by decide +kernel) ?_, by decide +kernel⟩
  intro k hk
  rcases k with _ | _ | _ | _ | _ | _ | _ | _ | _ | _ | _ | _ | _ | _ | _ | _ | _ | _ | _ | _ | _ | k
  · exact ix_g156_0
  · exact ix_g156_1
  · exact ix_g156_2
  · exact ix_g156_3
  · exact ix_g156_4
  · exact ix_g156_5
  · exact ix_g156_6
  · exact ix_g156_7
  · exact ix_g156_8
  · exact ix_g156_9
  · exact ix_g156_10
  · exact ix_g156_11
  · exact ix_g156_12
  · exact ix_g156_13
  · exact ix_g156_14
  · exact ix_g156_15
  · exact ix_g156_16
  · exact ix_g156_17
  · exact ix_g156_18
  · exact ix_g156_19
  · exact ix_g156_20
  · omega
set_option maxRecDepth 100000 in
theorem ix_w156 : ∀ w ∈ ix_mw ix_m156, w ∈ ix_tb := ix_mem_p [1300, 149, 1299] (by rfl) (ix_mw_use _)
