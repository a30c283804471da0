set_option maxRecDepth 100000 in
theorem ix_g101_0 : ix_Gc ix_m101 ((ix_t101.drop (32 * 0)).take 32) := ix_Gc_of [524, 526, 1249, 1085, 1253] (by decide +kernel) (by decide +kernel) (by decide +kernel)
set_option maxRecDepth 100000 in
theorem ix_g101_1 : ix_Gc ix_m101 ((ix_t101.drop (32 * 1)).take 32) := ix_Gc_of [1096, 519, 368, 521] (by decide +kernel) (by decide +kernel) (by decide +kernel)
set_option maxRecDepth 100000 in
theorem ix_g101_2 : ix_Gc ix_m101 ((ix_t101.drop (32 * 2)).take 32) := ix_Gc_of [520, 521, 1072, 520, 1253] (by decide +kernel) (by decide +kernel) (by decide +kernel)
set_option maxRecDepth 100000 in
theorem ix_g101_3 : ix_Gc ix_m101 ((ix_t101.drop (32 * 3)).take 32) := ix_Gc_of [] (by decide +kernel) (by decide +kernel) (by decide +kernel)
set_option maxRecDepth 100000 in
theorem ix_g101 : ix_Gd ix_m101 := by
  refine ⟨ix_chunk (l := ix_t101) 4 (by decide +kernel) ?_, by decide +kernel⟩
  intro k hk
  rcases k with _ | _ | _ | _ | k
  · exact ix_g101_0
  · exact ix_g101_1
  · exact ix_g101_2
  · exact ix_g101_3
  · omega
theorem ix_w101 : ∀ w ∈ ix_mw ix_m101, w ∈ ix_tb := ix_mem_p [1248, 148, 1246, 1247] (by decide +kernel) (ix_mw_use _)
set_option maxRecDepth 100000 in
theorem ix_g102_0 : ix_Gc ix_m102 ((ix_t102.drop (32 * 0)).take 32) := ix_Gc_of [519, 357, 201, 520, 1265, 519, 357, 201, 520] (by decide +kernel) (by decide +kernel) (by decide +kernel)
set_option maxRecDepth 100000 in
theorem ix_g102_1 : ix_Gc ix_m102 ((ix_t102.drop (32 * 1)).take 32) := ix_Gc_of [1265, 520, 520, 1265, 520] (by decide +kernel) (by decide +kernel) (by decide +kernel)
set_option maxRecDepth 100000 in
theorem ix_g102_2 : ix_Gc ix_m102 ((ix_t102.drop (32 * 2)).take 32) := ix_Gc_of [520] (by decide +kernel) (by decide +kernel) (by decide +kernel)
set_option maxRecDepth 100000 in
theorem ix_g102 : ix_Gd ix_m102 := by
  refine ⟨ix_chunk (l := ix_t102) 3 (by decide +kernel) ?_, by decide +kernel⟩
  intro k hk
  rcases k with _ | _ | _ | k
  · exact ix_g102_0
  · exact ix_g102_1
  · exact ix_g102_2
  · omega
theorem ix_w102 : ∀ w ∈ ix_mw ix_m102, w ∈ ix_tb := ix_mem_p [1264, 148, 1262, 1263] (by decide +kernel) (ix_mw_use _)
set_option maxRecDepth 100000 in
theorem ix_g103 : ix_Gd ix_m103 := ix_Gd_of [519, 357, 208, 1076] (by decide +kernel) (by decide +kernel) (by decide +kernel) (by decide +kernel)
theorem ix_w103 : ∀ w ∈ ix_mw ix_m103, w ∈ ix_tb := ix_mem_p [1075, 148, 1074, 27] (by decide +kernel) (ix_mw_use _)
set_option maxRecDepth 100000 in
theorem ix_g104 : ix_Gd ix_m104 := ix_Gd_of [519, 357, 201, 520, 522] (by decide +kernel) (by decide +kernel) (by decide +kernel) (by decide +kernel)
theorem ix_w104 : ∀ w ∈ ix_mw ix_m104, w ∈ ix_tb := ix_mem_p [1088, 148, 1087, 28] (by decide +kernel) (ix_mw_use _)
set_option maxRecDepth 100000 in
theorem ix_g105 : ix_Gd ix_m105 := ix_Gd_of [521, 1095, 521, 521, 1095, 521] (by decide +kernel) (by decide +kernel) (by decide +kernel) (by decide +kernel)
theorem ix_w105 : ∀ w ∈ ix_mw ix_m105, w ∈ ix_tb := ix_mem_p [1094, 148, 1093, 29] (by decide +kernel) (ix_mw_use _)
set_option maxRecDepth 100000 in
theorem ix_g106 : ix_Gd ix_m106 := ix_Gd_of [522, 1100, 1104] (by decide +kernel) (by decide +kernel) (by decide +kernel) (by decide +kernel)
theorem ix_w106 : ∀ w ∈ ix_mw ix_m106, w ∈ ix_tb := ix_mem_p [1099, 148, 1098, 30] (by decide +kernel) (ix_mw_use _)
set_option maxRecDepth 100000 in
theorem ix_g107 : ix_Gd ix_m107 := ix_Gd_of [523, 1090, 519, 357, 201, 519, 357, 1066, 519, 357, 208, 520, 1117] (by decide +kernel) (by decide +kernel) (by decide +kernel) (by decide +kernel)
theorem ix_w107 : ∀ w ∈ ix_mw ix_m107, w ∈ ix_tb := ix_mem_p [1116, 148, 1115, 31] (by decide +kernel) (ix_mw_use _)
set_option maxRecDepth 100000 in
theorem ix_g108_0 : ix_Gc ix_m108 ((ix_t108.drop (32 * 0)).take 32) := ix_Gc_of [521, 1090, 519, 357, 201, 521, 519, 357, 208, 1137, 520] (by decide +kernel) (by decide +kernel) (by decide +kernel)
set_option maxRecDepth 100000 in
theorem ix_g108_1 : ix_Gc ix_m108 ((ix_t108.drop (32 * 1)).take 32) := ix_Gc_of [521, 521] (by decide +kernel) (by decide +kernel) (by decide +kernel)
set_option maxRecDepth 100000 in
theorem ix_g108 : ix_Gd ix_m108 := by
  refine ⟨ix_chunk (l := ix_t108) 2 (by decide +kernel) ?_, by decide +kernel⟩
  intro k hk
  rcases k with _ | _ | k
  · exact ix_g108_0
  · exact ix_g108_1
  · omega
theorem ix_w108 : ∀ w ∈ ix_mw ix_m108, w ∈ ix_tb := ix_mem_p [1136, 148, 1135, 33] (by decide +kernel) (ix_mw_use _)
set_option maxRecDepth 100000 in
theorem ix_g109 : ix_Gd ix_m109 := ix_Gd_of [1076, 1151] (by decide +kernel) (by decide +kernel) (by decide +kernel) (by decide +kernel)
theorem ix_w109 : ∀ w ∈ ix_mw ix_m109, w ∈ ix_tb := ix_mem_p [1161, 148, 1160, 34] (by decide +kernel) (ix_mw_use _)
set_option maxRecDepth 100000 in
theorem ix_g110 : ix_Gd ix_m110 := ix_Gd_of [523] (by decide +kernel) (by decide +kernel) (by decide +kernel) (by decide +kernel)
theorem ix_w110 : ∀ w ∈ ix_mw ix_m110, w ∈ ix_tb := ix_mem_p [1215, 148, 1214, 36] (by decide +kernel) (ix_mw_use _)
set_option maxRecDepth 100000 in
theorem ix_g111 : ix_Gd ix_m111 := ix_Gd_of [521, 1090, 519, 357, 201, 521, 1072, 520, 1072] (by decide +kernel) (by decide +kernel) (by decide +kernel) (by decide +kernel)
theorem ix_w111 : ∀ w ∈ ix_mw ix_m111, w ∈ ix_tb := ix_mem_p [1252, 148, 1251, 38] (by decide +kernel) (ix_mw_use _)
set_option maxRecDepth 100000 in
theorem ix_g112 : ix_Gd ix_m112 := ix_Gd_of [524, 524, 524, 526, 521, 1095, 524, 526] (by decide +kernel) (by decide +kernel) (by decide +kernel) (by decide +kernel)
theorem ix_w112 : ∀ w ∈ ix_mw ix_m112, w ∈ ix_tb := ix_mem_p [1256, 148, 1255, 39] (by decide +kernel) (ix_mw_use _)
set_option maxRecDepth 100000 in
theorem ix_g113 : ix_Gd ix_m113 := ix_Gd_of [] (by decide +kernel) (by decide +kernel) (by decide +kernel) (by decide +kernel)
theorem ix_w113 : ∀ w ∈ ix_mw ix_m113, w ∈ ix_tb := ix_mem_p [1267, 148, 1266] (by decide +kernel) (ix_mw_use _)
set_option maxRecDepth 100000 in
theorem ix_g114 : ix_Gd ix_m114 := ix_Gd_of [523] (by decide +kernel) (by decide +kernel) (by decide +kernel) (by decide +kernel)
theorem ix_w114 : ∀ w ∈ ix_mw ix_m114, w ∈ ix_tb := ix_mem_p [1120, 148, 1119, 32] (by decide +kernel) (ix_mw_use _)
set_option maxRecDepth 100000 in
theorem ix_g115 : ix_Gd ix_m115 := ix_Gd_of [] (by decide +kernel) (by decide +kernel) (by decide +kernel) (by decide +kernel)
theorem ix_w115 : ∀ w ∈ ix_mw ix_m115, w ∈ ix_tb := ix_mem_p [1139, 148, 1138] (by decide +kernel) (ix_mw_use _)
set_option maxRecDepth 100000 in
theorem ix_g116 : ix_Gd ix_m116 := ix_Gd_of [199, 199, 207, 211, 213, 217, 219, 222, 199, 199] (by decide +kernel) (by decide +kernel) (by decide +kernel) (by decide +kernel)
theorem ix_w116 : ∀ w ∈ ix_mw ix_m116, w ∈ ix_tb := ix_mem_p [590, 139, 588, 589] (by decide +kernel) (ix_mw_use _)
set_option maxRecDepth 100000 in
theorem ix_g117 : ix_Gd ix_m117 := ix_Gd_of [599, 188, 180, 184] (by decide +kernel) (by decide +kernel) (by decide +kernel) (by decide +kernel)
theorem ix_w117 : ∀ w ∈ ix_mw ix_m117, w ∈ ix_tb := ix_mem_p [598, 139, 596, 597] (by decide +kernel) (ix_mw_use _)
set_option maxRecDepth 100000 in
theorem ix_g118 : ix_Gd ix_m118 := ix_Gd_of [604, 608, 207, 599, 213, 599, 217] (by decide +kernel) (by decide +kernel) (by decide +kernel) (by decide +kernel)
theorem ix_w118 : ∀ w ∈ ix_mw ix_m118, w ∈ ix_tb := ix_mem_p [603, 139, 601, 602] (by decide +kernel) (ix_mw_use _)
set_option maxRecDepth 100000 in
theorem ix_g119 : ix_Gd ix_m119 := ix_Gd_of [617] (by decide +kernel) (by decide +kernel) (by decide +kernel) (by decide +kernel)
theorem ix_w119 : ∀ w ∈ ix_mw ix_m119, w ∈ ix_tb := ix_mem_p [616, 139, 614, 615] (by decide +kernel) (ix_mw_use _)
set_option maxRecDepth 100000 in
theorem ix_g120 : ix_Gd ix_m120 := ix_Gd_of [199] (by decide +kernel) (by decide +kernel) (by decide +kernel) (by decide +kernel)
theorem ix_w120 : ∀ w ∈ ix_mw ix_m120, w ∈ ix_tb := ix_mem_p [607, 139, 605, 606] (by decide +kernel) (ix_mw_use _)
set_option maxRecDepth 100000 in
theorem ix_g121 : ix_Gd ix_m121 := ix_Gd_of [204] (by decide +kernel) (by decide +kernel) (by decide +kernel) (by decide +kernel)
theorem ix_w121 : ∀ w ∈ ix_mw ix_m121, w ∈ ix_tb := ix_mem_p [743, 139, 741, 742] (by decide +kernel) (ix_mw_use _)
set_option maxRecDepth 100000 in
theorem ix_g122 : ix_Gd ix_m122 := ix_Gd_of [621, 204] (by decide +kernel) (by decide +kernel) (by decide +kernel) (by decide +kernel)
theorem ix_w122 : ∀ w ∈ ix_mw ix_m122, w ∈ ix_tb := ix_mem_p [620, 139, 618, 619] (by decide +kernel) (ix_mw_use _)
set_option maxRecDepth 100000 in
theorem ix_g123 : ix_Gd ix_m123 := ix_Gd_of [199] (by decide +kernel) (by decide +kernel) (by decide +kernel) (by decide +kernel)
theorem ix_w123 : ∀ w ∈ ix_mw ix_m123, w ∈ ix_tb := ix_mem_p [624, 139, 622, 623] (by decide +kernel) (ix_mw_use _)
set_option maxRecDepth 100000 in
theorem ix_g124 : ix_Gd ix_m124 := ix_Gd_of [207, 211, 213, 217, 204, 219, 222] (by decide +kernel) (by decide +kernel) (by decide +kernel) (by decide +kernel)
theorem ix_w124 : ∀ w ∈ ix_mw ix_m124, w ∈ ix_tb := ix_mem_p [1029, 139, 1027, 1028] (by decide +kernel) (ix_mw_use _)
set_option maxRecDepth 100000 in
theorem ix_g125 : ix_Gd ix_m125 := ix_Gd_of [199, 1194, 207, 207, 1195] (by decide +kernel) (by decide +kernel) (by decide +kernel) (by decide +kernel)
theorem ix_w125 : ∀ w ∈ ix_mw ix_m125, w ∈ ix_tb := ix_mem_p [1193, 139, 1191, 1192] (by decide +kernel) (ix_mw_use _)
set_option maxRecDepth 100000 in
theorem ix_g126 : ix_Gd ix_m126 := ix_Gd_of [177, 207, 211, 213, 217, 219, 222] (by decide +kernel) (by decide +kernel) (by decide +kernel) (by decide +kernel)
theorem ix_w126 : ∀ w ∈ ix_mw ix_m126, w ∈ ix_tb := ix_mem_p [176, 139, 175] (by decide +kernel) (ix_mw_use _)
set_option maxRecDepth 100000 in
theorem ix_g127_0 : ix_Gc ix_m127 ((ix_t127.drop (32 * 0)).take 32) := ix_Gc_of [178, 178, 180, 180, 184, 184, 188, 188, 192, 192, 195, 195, 199, 199, 204, 204] (by decide +kernel) (by decide +kernel) (by decide +kernel)
set_option maxRecDepth 100000 in
theorem ix_g127_1 : ix_Gc ix_m127 ((ix_t127.drop (32 * 1)).take 32) := ix_Gc_of [207, 207, 633, 211, 211, 633, 213, 213, 633, 217, 217, 633] (by decide +kernel) (by decide +kernel) (by decide +kernel)
set_option maxRecDepth 100000 in
theorem ix_g127_2 : ix_Gc ix_m127 ((ix_t127.drop (32 * 2)).take 32) := ix_Gc_of [219, 219, 633, 222, 222, 633] (by decide +kernel) (by decide +kernel) (by decide +kernel)
set_option maxRecDepth 100000 in
theorem ix_g127 : ix_Gd ix_m127 := by
  refine ⟨ix_chunk (l := ix_t127) 3 (by decide +kernel) ?_, by decide +kernel⟩
  intro k hk
  rcases k with _ | _ | _ | k
  · exact ix_g127_0
  · exact ix_g127_1
  · exact ix_g127_2
  · omega
theorem ix_w127 : ∀ w ∈ ix_mw ix_m127, w ∈ ix_tb := ix_mem_p [632, 139, 630, 631] (by decide +kernel) (ix_mw_use _)
set_option maxRecDepth 100000 in
theorem ix_g128 : ix_Gd ix_m128 := ix_Gd_of [180, 184, 728, 184, 180] (by decide +kernel) (by decide +kernel) (by decide +kernel) (by decide +kernel)
theorem ix_w128 : ∀ w ∈ ix_mw ix_m128, w ∈ ix_tb := ix_mem_p [727, 139, 725, 726] (by decide +kernel) (ix_mw_use _)
set_option maxRecDepth 100000 in
theorem ix_g129 : ix_Gd ix_m129 := ix_Gd_of [207, 659, 199, 207, 659, 213, 213] (by decide +kernel) (by decide +kernel) (by decide +kernel) (by decide +kernel)
theorem ix_w129 : ∀ w ∈ ix_mw ix_m129, w ∈ ix_tb := ix_mem_p [658, 139, 656, 657] (by decide +kernel) (ix_mw_use _)
set_option maxRecDepth 100000 in
theorem ix_g130 : ix_Gd ix_m130 := ix_Gd_of [207, 199, 207] (by decide +kernel) (by decide +kernel) (by decide +kernel) (by decide +kernel)
theorem ix_w130 : ∀ w ∈ ix_mw ix_m130, w ∈ ix_tb := ix_mem_p [679, 139, 677, 678] (by decide +kernel) (ix_mw_use _)
set_option maxRecDepth 100000 in
theorem ix_g131 : ix_Gd ix_m131 := ix_Gd_of [178, 706, 707, 178, 178] (by decide +kernel) (by decide +kernel) (by decide +kernel) (by decide +kernel)
theorem ix_w131 : ∀ w ∈ ix_mw ix_m131, w ∈ ix_tb := ix_mem_p [705, 139, 703, 704] (by decide +kernel) (ix_mw_use _)
set_option maxRecDepth 100000 in
theorem ix_g132 : ix_Gd ix_m132 := ix_Gd_of [414, 415, 418, 419, 420] (by decide +kernel) (by decide +kernel) (by decide +kernel) (by decide +kernel)
theorem ix_w132 : ∀ w ∈ ix_mw ix_m132, w ∈ ix_tb := ix_mem_p [413, 145, 412] (by decide +kernel) (ix_mw_use _)
set_option maxRecDepth 100000 in
theorem ix_g133 : ix_Gd ix_m133 := ix_Gd_of [416] (by decide +kernel) (by decide +kernel) (by decide +kernel) (by decide +kernel)
theorem ix_w133 : ∀ w ∈ ix_mw ix_m133, w ∈ ix_tb := ix_mem_p [762, 145, 760, 761] (by decide +kernel) (ix_mw_use _)
set_option maxRecDepth 100000 in
theorem ix_g134 : ix_Gd ix_m134 := ix_Gd_of [416, 415, 416, 416, 416] (by decide +kernel) (by decide +kernel) (by decide +kernel) (by decide +kernel)
theorem ix_w134 : ∀ w ∈ ix_mw ix_m134, w ∈ ix_tb := ix_mem_p [766, 145, 764, 765] (by decide +kernel) (ix_mw_use _)
set_option maxRecDepth 100000 in
theorem ix_g135_0 : ix_Gc ix_m135 ((ix_t135.drop (32 * 0)).take 32) := ix_Gc_of [421, 416, 415, 800, 415, 803, 806] (by decide +kernel) (by decide +kernel) (by decide +kernel)
set_option maxRecDepth 100000 in
theorem ix_g135_1 : ix_Gc ix_m135 ((ix_t135.drop (32 * 1)).take 32) := ix_Gc_of [415, 866, 869, 415, 874, 862] (by decide +kernel) (by decide +kernel) (by decide +kernel)
set_option maxRecDepth 100000 in
theorem ix_g135_2 : ix_Gc ix_m135 ((ix_t135.drop (32 * 2)).take 32) := ix_Gc_of [416, 862, 422, 929] (by decide +kernel) (by decide +kernel) (by decide +kernel)
set_option maxRecDepth 100000 in
theorem ix_g135 : ix_Gd ix_m135 := by
  refine ⟨ix_chunk (l := ix_t135) 3 (by decide +kernel) ?_, by decide +kernel⟩
  intro k hk
  rcases k with _ | _ | _ | k
  · exact ix_g135_0
  · exact ix_g135_1
  · exact ix_g135_2
  · omega
theorem ix_w135 : ∀ w ∈ ix_mw ix_m135, w ∈ ix_tb := ix_mem_p [799, 145, 797, 798] (by decide +kernel) (ix_mw_use _)
set_option maxRecDepth 100000 in
theorem ix_g136 : ix_Gd ix_m136 := ix_Gd_of [] (by decide +kernel) (by decide +kernel) (by decide +kernel) (by decide +kernel)
theorem ix_w136 : ∀ w ∈ ix_mw ix_m136, w ∈ ix_tb := ix_mem_p [802, 145, 801] (by decide +kernel) (ix_mw_use _)
set_option maxRecDepth 100000 in
theorem ix_g137 : ix_Gd ix_m137 := ix_Gd_of [] (by decide +kernel) (by decide +kernel) (by decide +kernel) (by decide +kernel)
theorem ix_w137 : ∀ w ∈ ix_mw ix_m137, w ∈ ix_tb := ix_mem_p [805, 145, 804] (by decide +kernel) (ix_mw_use _)
set_option maxRecDepth 100000 in
theorem ix_g138_0 : ix_Gc ix_m138 ((ix_t138.drop (32 * 0)).take 32) := ix_Gc_of [416, 415, 803, 810, 810] (by decide +kernel) (by decide +kernel) (by decide +kernel)
set_option maxRecDepth 100000 in
theorem ix_g138_1 : ix_Gc ix_m138 ((ix_t138.drop (32 * 1)).take 32) := ix_Gc_of [820, 858] (by decide +kernel) (by decide +kernel) (by decide +kernel)
set_option maxRecDepth 100000 in
theorem ix_g138_2 : ix_Gc ix_m138 ((ix_t138.drop (32 * 2)).take 32) := ix_Gc_of [862] (by decide +kernel) (by decide +kernel) (by decide +kernel)
set_option maxRecDepth 100000 in
theorem ix_g138 : ix_Gd ix_m138 := by
  refine ⟨ix_chunk (l := ix_t138) 3 (by decide +kernel) ?_, by decide +kernel⟩
  intro k hk
  rcases k with _ | _ | _ | k
  · exact ix_g138_0
  · exact ix_g138_1
  · exact ix_g138_2
  · omega
theorem ix_w138 : ∀ w ∈ ix_mw ix_m138, w ∈ ix_tb := ix_mem_p [809, 145, 808, 8] (by decide +kernel) (ix_mw_use _)
set_option maxRecDepth 100000 in
theorem ix_g139 : ix_Gd ix_m139 := ix_Gd_of [] (by decide +kernel) (by decide +kernel) (by decide +kernel) (by decide +kernel)
theorem ix_w139 : ∀ w ∈ ix_mw ix_m139, w ∈ ix_tb := ix_mem_p [868, 145, 867] (by decide +kernel) (ix_mw_use _)
set_option maxRecDepth 100000 in
theorem ix_g140 : ix_Gd ix_m140 := ix_Gd_of [416, 415, 866, 415, 862] (by decide +kernel) (by decide +kernel) (by decide +kernel) (by decide +kernel)
theorem ix_w140 : ∀ w ∈ ix_mw ix_m140, w ∈ ix_tb := ix_mem_p [872, 145, 871, 11] (by decide +kernel) (ix_mw_use _)
set_option maxRecDepth 100000 in
theorem ix_g141 : ix_Gd ix_m141 := ix_Gd_of [421, 418, 421, 419, 421, 420, 421, 421, 421] (by decide +kernel) (by decide +kernel) (by decide +kernel) (by decide +kernel)
theorem ix_w141 : ∀ w ∈ ix_mw ix_m141, w ∈ ix_tb := ix_mem_p [865, 145, 864, 10] (by decide +kernel) (ix_mw_use _)
set_option maxRecDepth 100000 in
theorem ix_g142 : ix_Gd ix_m142 := ix_Gd_of [422, 421, 422, 422, 418, 422, 424, 419, 422, 425, 420, 422, 428] (by decide +kernel) (by decide +kernel) (by decide +kernel) (by decide +kernel)
theorem ix_w142 : ∀ w ∈ ix_mw ix_m142, w ∈ ix_tb := ix_mem_p [932, 145, 930, 931] (by decide +kernel) (ix_mw_use _)
set_option maxRecDepth 100000 in
theorem ix_g143 : ix_Gd ix_m143 := ix_Gd_of [820, 415] (by decide +kernel) (by decide +kernel) (by decide +kernel) (by decide +kernel)
theorem ix_w143 : ∀ w ∈ ix_mw ix_m143, w ∈ ix_tb := ix_mem_p [861, 145, 860, 9] (by decide +kernel) (ix_mw_use _)
set_option maxRecDepth 100000 in
theorem ix_g144_0 : ix_Gc ix_m144 ((ix_t144.drop (32 * 0)).take 32) := ix_Gc_of [333, 333, 311, 311, 1006, 315, 315, 1011] (by decide +kernel) (by decide +kernel) (by decide +kernel)
set_option maxRecDepth 100000 in
theorem ix_g144_1 : ix_Gc ix_m144 ((ix_t144.drop (32 * 1)).take 32) := ix_Gc_of [319, 319, 1011, 322, 322, 1011, 325, 325, 1011, 328, 328, 1011] (by decide +kernel) (by decide +kernel) (by decide +kernel)
set_option maxRecDepth 100000 in
theorem ix_g144_2 : ix_Gc ix_m144 ((ix_t144.drop (32 * 2)).take 32) := ix_Gc_of [] (by decide +kernel) (by decide +kernel) (by decide +kernel)
set_option maxRecDepth 100000 in
theorem ix_g144 : ix_Gd ix_m144 := by
  refine ⟨ix_chunk (l := ix_t144) 3 (by decide +kernel) ?_, by decide +kernel⟩
  intro k hk
  rcases k with _ | _ | _ | k
  · exact ix_g144_0
  · exact ix_g144_1
  · exact ix_g144_2
  · omega
theorem ix_w144 : ∀ w ∈ ix_mw ix_m144, w ∈ ix_tb := ix_mem_p [1005, 141, 1003, 1004] (by decide +kernel) (ix_mw_use _)
set_option maxRecDepth 100000 in
theorem ix_g145 : ix_Gd ix_m145 := ix_Gd_of [1182, 1182] (by decide +kernel) (by decide +kernel) (by decide +kernel) (by decide +kernel)
theorem ix_w145 : ∀ w ∈ ix_mw ix_m145, w ∈ ix_tb := ix_mem_p [1181, 141, 1179, 1180] (by decide +kernel) (ix_mw_use _)
set_option maxRecDepth 100000 in
theorem ix_g146 : ix_Gd ix_m146 := ix_Gd_of [275, 276, 278, 311, 315, 319, 322, 325, 328, 333] (by decide +kernel) (by decide +kernel) (by decide +kernel) (by decide +kernel)
theorem ix_w146 : ∀ w ∈ ix_mw ix_m146, w ∈ ix_tb := ix_mem_p [274, 141, 273] (by decide +kernel) (ix_mw_use _)
set_option maxRecDepth 100000 in
theorem ix_g147 : ix_Gd ix_m147 := ix_Gd_of [325, 325] (by decide +kernel) (by decide +kernel) (by decide +kernel) (by decide +kernel)
theorem ix_w147 : ∀ w ∈ ix_mw ix_m147, w ∈ ix_tb := ix_mem_p [734, 141, 732, 733] (by decide +kernel) (ix_mw_use _)
set_option maxRecDepth 100000 in
theorem ix_g148 : ix_Gd ix_m148 := ix_Gd_of [333, 311, 784, 315, 788, 325, 788] (by decide +kernel) (by decide +kernel) (by decide +kernel) (by decide +kernel)
theorem ix_w148 : ∀ w ∈ ix_mw ix_m148, w ∈ ix_tb := ix_mem_p [783, 141, 781, 782] (by decide +kernel) (ix_mw_use _)
set_option maxRecDepth 100000 in
theorem ix_g149 : ix_Gd ix_m149 := ix_Gd_of [315] (by decide +kernel) (by decide +kernel) (by decide +kernel) (by decide +kernel)
theorem ix_w149 : ∀ w ∈ ix_mw ix_m149, w ∈ ix_tb := ix_mem_p [1185, 141, 1184, 35] (by decide +kernel) (ix_mw_use _)
set_option maxRecDepth 100000 in
theorem ix_g150 : ix_Gd ix_m150 := ix_Gd_of [171, 172, 174, 354, 255, 257, 359, 270, 272, 364, 367, 370, 367, 351] (by decide +kernel) (by decide +kernel) (by decide +kernel) (by decide +kernel)
theorem ix_w150 : ∀ w ∈ ix_mw ix_m150, w ∈ ix_tb := ix_mem_p [170, 138, 169] (by decide +kernel) (ix_mw_use _)
set_option maxRecDepth 100000 in
theorem ix_g151 : ix_Gd ix_m151 := ix_Gd_of [354, 200, 354, 748, 354, 205, 205, 359, 354, 197, 749] (by decide +kernel) (by decide +kernel) (by decide +kernel) (by decide +kernel)
theorem ix_w151 : ∀ w ∈ ix_mw ix_m151, w ∈ ix_tb := ix_mem_p [747, 138, 745, 746] (by decide +kernel) (ix_mw_use _)
set_option maxRecDepth 100000 in
theorem ix_g152 : ix_Gd ix_m152 := ix_Gd_of [371, 371, 370, 371, 371, 371, 371] (by decide +kernel) (by decide +kernel) (by decide +kernel) (by decide +kernel)
theorem ix_w152 : ∀ w ∈ ix_mw ix_m152, w ∈ ix_tb := ix_mem_p [1223, 138, 1221, 1222] (by decide +kernel) (ix_mw_use _)
set_option maxRecDepth 100000 in
theorem ix_g153 : ix_Gd ix_m153 := ix_Gd_of [1232] (by decide +kernel) (by decide +kernel) (by decide +kernel) (by decide +kernel)
theorem ix_w153 : ∀ w ∈ ix_mw ix_m153, w ∈ ix_tb := ix_mem_p [1231, 138, 1229, 1230] (by decide +kernel) (ix_mw_use _)
set_option maxRecDepth 100000 in
theorem ix_g154 : ix_Gd ix_m154 := ix_Gd_of [354, 354, 1284, 359, 359, 1285, 364, 364, 1290, 367, 367, 1291, 370, 370, 1291, 371, 371] (by decide +kernel) (by decide +kernel) (by decide +kernel) (by decide +kernel)
theorem ix_w154 : ∀ w ∈ ix_mw ix_m154, w ∈ ix_tb := ix_mem_p [1283, 138, 1281, 1282] (by decide +kernel) (ix_mw_use _)
set_option maxRecDepth 100000 in
theorem ix_g155 : ix_Gd ix_m155 := ix_Gd_of [371, 364, 1236, 364, 330, 370] (by decide +kernel) (by decide +kernel) (by decide +kernel) (by decide +kernel)
theorem ix_w155 : ∀ w ∈ ix_mw ix_m155, w ∈ ix_tb := ix_mem_p [1235, 138, 1234, 37] (by decide +kernel) (ix_mw_use _)
