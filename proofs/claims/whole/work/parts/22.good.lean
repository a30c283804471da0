set_option maxRecDepth 100000 in
theorem ix_g1 : ix_Gd ix_m1 := ix_Gd_of [163, 166, 168, 543, 166, 168, 544, 386, 388, 545, 409, 411, 546, 451, 546, 453, 547, 478, 543, 480, 548, 513, 543, 515, 549] (by decide +kernel) (by decide +kernel) (by decide +kernel) (by decide +kernel)
theorem ix_w1 : ∀ w ∈ ix_mw ix_m1, w ∈ ix_tb := ix_mem_p [162, 137, 161] (by decide +kernel) (ix_mw_use _)
set_option maxRecDepth 100000 in
theorem ix_g2 : ix_Gd ix_m2 := ix_Gd_of [543, 356, 179, 543, 356, 179, 545, 572] (by decide +kernel) (by decide +kernel) (by decide +kernel) (by decide +kernel)
theorem ix_w2 : ∀ w ∈ ix_mw ix_m2, w ∈ ix_tb := ix_mem_p [571, 137, 569, 570] (by decide +kernel) (ix_mw_use _)
set_option maxRecDepth 100000 in
theorem ix_g3 : ix_Gd ix_m3 := ix_Gd_of [543, 356, 580, 584, 584, 202, 545, 572, 587] (by decide +kernel) (by decide +kernel) (by decide +kernel) (by decide +kernel)
theorem ix_w3 : ∀ w ∈ ix_mw ix_m3, w ∈ ix_tb := ix_mem_p [579, 137, 577, 578] (by decide +kernel) (ix_mw_use _)
set_option maxRecDepth 100000 in
theorem ix_g4 : ix_Gd ix_m4 := ix_Gd_of [543, 356, 595, 543, 356, 600, 545, 572] (by decide +kernel) (by decide +kernel) (by decide +kernel) (by decide +kernel)
theorem ix_w4 : ∀ w ∈ ix_mw ix_m4, w ∈ ix_tb := ix_mem_p [594, 137, 592, 593] (by decide +kernel) (ix_mw_use _)
set_option maxRecDepth 100000 in
theorem ix_g5 : ix_Gd ix_m5 := ix_Gd_of [543, 356, 613, 545, 543, 625, 548, 639] (by decide +kernel) (by decide +kernel) (by decide +kernel) (by decide +kernel)
theorem ix_w5 : ∀ w ∈ ix_mw ix_m5, w ∈ ix_tb := ix_mem_p [612, 137, 610, 611] (by decide +kernel) (ix_mw_use _)
set_option maxRecDepth 100000 in
theorem ix_g6 : ix_Gd ix_m6 := ix_Gd_of [543, 356, 739, 740, 545, 543, 625, 543, 744, 206, 206] (by decide +kernel) (by decide +kernel) (by decide +kernel) (by decide +kernel)
theorem ix_w6 : ∀ w ∈ ix_mw ix_m6, w ∈ ix_tb := ix_mem_p [738, 137, 736, 737] (by decide +kernel) (ix_mw_use _)
set_option maxRecDepth 100000 in
theorem ix_g7 : ix_Gd ix_m7 := ix_Gd_of [545, 543, 625, 543, 366, 335, 543, 366, 320, 543, 356, 754, 548, 639, 543, 543, 366, 323, 744] (by decide +kernel) (by decide +kernel) (by decide +kernel) (by decide +kernel)
theorem ix_w7 : ∀ w ∈ ix_mw ix_m7, w ∈ ix_tb := ix_mem_p [753, 137, 751, 752] (by decide +kernel) (ix_mw_use _)
set_option maxRecDepth 100000 in
theorem ix_g8 : ix_Gd ix_m8 := ix_Gd_of [546, 759, 546, 763, 546, 763, 546, 763, 546, 763, 546, 763, 546, 417] (by decide +kernel) (by decide +kernel) (by decide +kernel) (by decide +kernel)
theorem ix_w8 : ∀ w ∈ ix_mw ix_m8, w ∈ ix_tb := ix_mem_p [758, 137, 756, 757] (by decide +kernel) (ix_mw_use _)
set_option maxRecDepth 100000 in
theorem ix_g9 : ix_Gd ix_m9 := ix_Gd_of [546, 417, 546, 417] (by decide +kernel) (by decide +kernel) (by decide +kernel) (by decide +kernel)
theorem ix_w9 : ∀ w ∈ ix_mw ix_m9, w ∈ ix_tb := ix_mem_p [770, 137, 768, 769] (by decide +kernel) (ix_mw_use _)
set_option maxRecDepth 100000 in
theorem ix_g10 : ix_Gd ix_m10 := ix_Gd_of [547, 543, 356, 775, 776, 546, 417, 543, 366, 547, 460, 1002, 545, 572] (by decide +kernel) (by decide +kernel) (by decide +kernel) (by decide +kernel)
theorem ix_w10 : ∀ w ∈ ix_mw ix_m10, w ∈ ix_tb := ix_mem_p [774, 137, 772, 773] (by decide +kernel) (ix_mw_use _)
set_option maxRecDepth 100000 in
theorem ix_g11 : ix_Gd ix_m11 := ix_Gd_of [547, 462, 547, 464] (by decide +kernel) (by decide +kernel) (by decide +kernel) (by decide +kernel)
theorem ix_w11 : ∀ w ∈ ix_mw ix_m11, w ∈ ix_tb := ix_mem_p [1015, 137, 1013, 1014] (by decide +kernel) (ix_mw_use _)
set_option maxRecDepth 100000 in
theorem ix_g12 : ix_Gd ix_m12 := ix_Gd_of [543, 356, 739, 543, 366, 318, 549, 216, 1020, 549, 216, 1020, 1026] (by decide +kernel) (by decide +kernel) (by decide +kernel) (by decide +kernel)
theorem ix_w12 : ∀ w ∈ ix_mw ix_m12, w ∈ ix_tb := ix_mem_p [1019, 137, 1017, 1018] (by decide +kernel) (ix_mw_use _)
set_option maxRecDepth 100000 in
theorem ix_g13 : ix_Gd ix_m13 := ix_Gd_of [543, 356, 739, 739, 549, 216, 1020] (by decide +kernel) (by decide +kernel) (by decide +kernel) (by decide +kernel)
theorem ix_w13 : ∀ w ∈ ix_mw ix_m13, w ∈ ix_tb := ix_mem_p [1033, 137, 1031, 1032] (by decide +kernel) (ix_mw_use _)
set_option maxRecDepth 100000 in
theorem ix_g14 : ix_Gd ix_m14 := ix_Gd_of [543, 366, 327, 327, 332] (by decide +kernel) (by decide +kernel) (by decide +kernel) (by decide +kernel)
theorem ix_w14 : ∀ w ∈ ix_mw ix_m14, w ∈ ix_tb := ix_mem_p [1037, 137, 1035, 1036] (by decide +kernel) (ix_mw_use _)
set_option maxRecDepth 100000 in
theorem ix_g15 : ix_Gd ix_m15 := ix_Gd_of [543, 362, 1042] (by decide +kernel) (by decide +kernel) (by decide +kernel) (by decide +kernel)
theorem ix_w15 : ∀ w ∈ ix_mw ix_m15, w ∈ ix_tb := ix_mem_p [1041, 137, 1039, 1040] (by decide +kernel) (ix_mw_use _)
set_option maxRecDepth 100000 in
theorem ix_g16 : ix_Gd ix_m16 := ix_Gd_of [543, 356, 613, 548, 1050, 548, 487, 548, 489] (by decide +kernel) (by decide +kernel) (by decide +kernel) (by decide +kernel)
theorem ix_w16 : ∀ w ∈ ix_mw ix_m16, w ∈ ix_tb := ix_mem_p [1049, 137, 1047, 1048] (by decide +kernel) (ix_mw_use _)
set_option maxRecDepth 100000 in
theorem ix_g17 : ix_Gd ix_m17 := ix_Gd_of [1059, 549, 1062, 549, 1068] (by decide +kernel) (by decide +kernel) (by decide +kernel) (by decide +kernel)
theorem ix_w17 : ∀ w ∈ ix_mw ix_m17, w ∈ ix_tb := ix_mem_p [1058, 137, 1056, 1057] (by decide +kernel) (ix_mw_use _)
set_option maxRecDepth 100000 in
theorem ix_g18 : ix_Gd ix_m18 := ix_Gd_of [543, 356, 739, 543, 356, 740, 549, 1062, 549, 1081] (by decide +kernel) (by decide +kernel) (by decide +kernel) (by decide +kernel)
theorem ix_w18 : ∀ w ∈ ix_mw ix_m18, w ∈ ix_tb := ix_mem_p [1080, 137, 1078, 1079] (by decide +kernel) (ix_mw_use _)
set_option maxRecDepth 100000 in
theorem ix_g19 : ix_Gd ix_m19 := ix_Gd_of [1059, 1059, 549, 1062, 549, 1109, 549, 1121] (by decide +kernel) (by decide +kernel) (by decide +kernel) (by decide +kernel)
theorem ix_w19 : ∀ w ∈ ix_mw ix_m19, w ∈ ix_tb := ix_mem_p [1108, 137, 1106, 1107] (by decide +kernel) (ix_mw_use _)
set_option maxRecDepth 100000 in
theorem ix_g20 : ix_Gd ix_m20 := ix_Gd_of [549, 1062, 549, 1129, 1059, 549, 1140, 549, 1109, 549, 1147, 1059, 549, 1152] (by decide +kernel) (by decide +kernel) (by decide +kernel) (by decide +kernel)
theorem ix_w20 : ∀ w ∈ ix_mw ix_m20, w ∈ ix_tb := ix_mem_p [1128, 137, 1126, 1127] (by decide +kernel) (ix_mw_use _)
set_option maxRecDepth 100000 in
theorem ix_g21 : ix_Gd ix_m21 := ix_Gd_of [549, 1166, 549, 1170] (by decide +kernel) (by decide +kernel) (by decide +kernel) (by decide +kernel)
theorem ix_w21 : ∀ w ∈ ix_mw ix_m21, w ∈ ix_tb := ix_mem_p [1165, 137, 1163, 1164] (by decide +kernel) (ix_mw_use _)
set_option maxRecDepth 100000 in
theorem ix_g22 : ix_Gd ix_m22 := ix_Gd_of [543, 356, 739, 543, 366, 1178] (by decide +kernel) (by decide +kernel) (by decide +kernel) (by decide +kernel)
theorem ix_w22 : ∀ w ∈ ix_mw ix_m22, w ∈ ix_tb := ix_mem_p [1177, 137, 1175, 1176] (by decide +kernel) (ix_mw_use _)
set_option maxRecDepth 100000 in
theorem ix_g23 : ix_Gd ix_m23 := ix_Gd_of [543, 356, 739, 1190, 739, 210, 210, 1199] (by decide +kernel) (by decide +kernel) (by decide +kernel) (by decide +kernel)
theorem ix_w23 : ∀ w ∈ ix_mw ix_m23, w ∈ ix_tb := ix_mem_p [1189, 137, 1187, 1188] (by decide +kernel) (ix_mw_use _)
set_option maxRecDepth 100000 in
theorem ix_g24 : ix_Gd ix_m24 := ix_Gd_of [549, 1204, 549, 1208] (by decide +kernel) (by decide +kernel) (by decide +kernel) (by decide +kernel)
theorem ix_w24 : ∀ w ∈ ix_mw ix_m24, w ∈ ix_tb := ix_mem_p [1203, 137, 1201, 1202] (by decide +kernel) (ix_mw_use _)
set_option maxRecDepth 100000 in
theorem ix_g25 : ix_Gd ix_m25 := ix_Gd_of [543, 1220] (by decide +kernel) (by decide +kernel) (by decide +kernel) (by decide +kernel)
theorem ix_w25 : ∀ w ∈ ix_mw ix_m25, w ∈ ix_tb := ix_mem_p [1219, 137, 1217, 1218] (by decide +kernel) (ix_mw_use _)
set_option maxRecDepth 100000 in
theorem ix_g26 : ix_Gd ix_m26 := ix_Gd_of [543, 1228] (by decide +kernel) (by decide +kernel) (by decide +kernel) (by decide +kernel)
theorem ix_w26 : ∀ w ∈ ix_mw ix_m26, w ∈ ix_tb := ix_mem_p [1227, 137, 1225, 1226] (by decide +kernel) (ix_mw_use _)
set_option maxRecDepth 100000 in
theorem ix_g27 : ix_Gd ix_m27 := ix_Gd_of [543, 369] (by decide +kernel) (by decide +kernel) (by decide +kernel) (by decide +kernel)
theorem ix_w27 : ∀ w ∈ ix_mw ix_m27, w ∈ ix_tb := ix_mem_p [1240, 137, 1238, 1239] (by decide +kernel) (ix_mw_use _)
set_option maxRecDepth 100000 in
theorem ix_g28 : ix_Gd ix_m28 := ix_Gd_of [1059, 549, 1062, 549, 1245, 549, 525, 549, 527] (by decide +kernel) (by decide +kernel) (by decide +kernel) (by decide +kernel)
theorem ix_w28 : ∀ w ∈ ix_mw ix_m28, w ∈ ix_tb := ix_mem_p [1244, 137, 1242, 1243] (by decide +kernel) (ix_mw_use _)
set_option maxRecDepth 100000 in
theorem ix_g29 : ix_Gd ix_m29 := ix_Gd_of [549, 1062, 549, 1261] (by decide +kernel) (by decide +kernel) (by decide +kernel) (by decide +kernel)
theorem ix_w29 : ∀ w ∈ ix_mw ix_m29, w ∈ ix_tb := ix_mem_p [1260, 137, 1258, 1259] (by decide +kernel) (ix_mw_use _)
set_option maxRecDepth 100000 in
theorem ix_g30 : ix_Gd ix_m30 := ix_Gd_of [545, 543, 1272] (by decide +kernel) (by decide +kernel) (by decide +kernel) (by decide +kernel)
theorem ix_w30 : ∀ w ∈ ix_mw ix_m30, w ∈ ix_tb := ix_mem_p [1271, 137, 1269, 1270] (by decide +kernel) (ix_mw_use _)
set_option maxRecDepth 100000 in
theorem ix_g31 : ix_Gd ix_m31 := ix_Gd_of [544, 543, 1280, 550, 550, 543, 544, 1280, 545, 572, 550] (by decide +kernel) (by decide +kernel) (by decide +kernel) (by decide +kernel)
theorem ix_w31 : ∀ w ∈ ix_mw ix_m31, w ∈ ix_tb := ix_mem_p [1279, 137, 1277, 1278] (by decide +kernel) (ix_mw_use _)
set_option maxRecDepth 100000 in
theorem ix_g32_0 : ix_Gc ix_m32 ((ix_t32.drop (32 * 0)).take 32) := ix_Gc_of [543, 356, 202, 183, 187, 191, 194, 198, 206, 543, 362, 264] (by decide +kernel) (by decide +kernel) (by decide +kernel)
set_option maxRecDepth 100000 in
theorem ix_g32_1 : ix_Gc ix_m32 ((ix_t32.drop (32 * 1)).take 32) := ix_Gc_of [179, 543, 366, 335, 543, 366, 335, 543, 366, 335, 543, 366, 335] (by decide +kernel) (by decide +kernel) (by decide +kernel)
set_option maxRecDepth 100000 in
theorem ix_g32_2 : ix_Gc ix_m32 ((ix_t32.drop (32 * 2)).take 32) := ix_Gc_of [543, 372, 545, 399] (by decide +kernel) (by decide +kernel) (by decide +kernel)
set_option maxRecDepth 100000 in
theorem ix_g32 : ix_Gd ix_m32 := by
  refine ⟨ix_chunk (l := ix_t32) 3 (by decide +kernel) ?_, by decide +kernel⟩
  intro k hk
  rcases k with _ | _ | _ | k
  · exact ix_g32_0
  · exact ix_g32_1
  · exact ix_g32_2
  · omega
theorem ix_w32 : ∀ w ∈ ix_mw ix_m32, w ∈ ix_tb := ix_mem_p [1295, 137, 1293, 1294] (by decide +kernel) (ix_mw_use _)
set_option maxRecDepth 100000 in
theorem ix_g33 : ix_Gd ix_m33 := ix_Gd_of [583] (by decide +kernel) (by decide +kernel) (by decide +kernel) (by decide +kernel)
theorem ix_w33 : ∀ w ∈ ix_mw ix_m33, w ∈ ix_tb := ix_mem_p [582, 137, 581] (by decide +kernel) (ix_mw_use _)
set_option maxRecDepth 100000 in
theorem ix_g34 : ix_Gd ix_m34 := ix_Gd_of [] (by decide +kernel) (by decide +kernel) (by decide +kernel) (by decide +kernel)
theorem ix_w34 : ∀ w ∈ ix_mw ix_m34, w ∈ ix_tb := ix_mem_p [586, 137, 585] (by decide +kernel) (ix_mw_use _)
set_option maxRecDepth 100000 in
theorem ix_g35 : ix_Gd ix_m35 := ix_Gd_of [] (by decide +kernel) (by decide +kernel) (by decide +kernel) (by decide +kernel)
theorem ix_w35 : ∀ w ∈ ix_mw ix_m35, w ∈ ix_tb := ix_mem_p [1061, 137, 1060] (by decide +kernel) (ix_mw_use _)
set_option maxRecDepth 100000 in
theorem ix_g36 : ix_Gd ix_m36 := ix_Gd_of [1198, 1198] (by decide +kernel) (by decide +kernel) (by decide +kernel) (by decide +kernel)
theorem ix_w36 : ∀ w ∈ ix_mw ix_m36, w ∈ ix_tb := ix_mem_p [1197, 137, 1196] (by decide +kernel) (ix_mw_use _)
set_option maxRecDepth 100000 in
theorem ix_g37 : ix_Gd ix_m37 := ix_Gd_of [] (by decide +kernel) (by decide +kernel) (by decide +kernel) (by decide +kernel)
theorem ix_w37 : ∀ w ∈ ix_mw ix_m37, w ∈ ix_tb := ix_mem_p [1146, 137, 1145] (by decide +kernel) (ix_mw_use _)
set_option maxRecDepth 100000 in
theorem ix_g38 : ix_Gd ix_m38 := ix_Gd_of [] (by decide +kernel) (by decide +kernel) (by decide +kernel) (by decide +kernel)
theorem ix_w38 : ∀ w ∈ ix_mw ix_m38, w ∈ ix_tb := ix_mem_p [661, 137, 660] (by decide +kernel) (ix_mw_use _)
set_option maxRecDepth 100000 in
theorem ix_g39 : ix_Gd ix_m39 := ix_Gd_of [] (by decide +kernel) (by decide +kernel) (by decide +kernel) (by decide +kernel)
theorem ix_w39 : ∀ w ∈ ix_mw ix_m39, w ∈ ix_tb := ix_mem_p [723, 137, 722] (by decide +kernel) (ix_mw_use _)
set_option maxRecDepth 100000 in
theorem ix_g40 : ix_Gd ix_m40 := ix_Gd_of [] (by decide +kernel) (by decide +kernel) (by decide +kernel) (by decide +kernel)
theorem ix_w40 : ∀ w ∈ ix_mw ix_m40, w ∈ ix_tb := ix_mem_p [711, 137, 710] (by decide +kernel) (ix_mw_use _)
set_option maxRecDepth 100000 in
theorem ix_g41 : ix_Gd ix_m41 := ix_Gd_of [262, 261] (by decide +kernel) (by decide +kernel) (by decide +kernel) (by decide +kernel)
theorem ix_w41 : ∀ w ∈ ix_mw ix_m41, w ∈ ix_tb := ix_mem_p [1045, 140, 1043, 1044] (by decide +kernel) (ix_mw_use _)
set_option maxRecDepth 100000 in
theorem ix_g42 : ix_Gd ix_m42 := ix_Gd_of [260, 261] (by decide +kernel) (by decide +kernel) (by decide +kernel) (by decide +kernel)
theorem ix_w42 : ∀ w ∈ ix_mw ix_m42, w ∈ ix_tb := ix_mem_p [259, 140, 258] (by decide +kernel) (ix_mw_use _)
set_option maxRecDepth 100000 in
theorem ix_g43 : ix_Gd ix_m43 := ix_Gd_of [262, 262, 261, 261, 261, 261, 262, 262] (by decide +kernel) (by decide +kernel) (by decide +kernel) (by decide +kernel)
theorem ix_w43 : ∀ w ∈ ix_mw ix_m43, w ∈ ix_tb := ix_mem_p [715, 140, 713, 714] (by decide +kernel) (ix_mw_use _)
set_option maxRecDepth 100000 in
theorem ix_g44 : ix_Gd ix_m44 := ix_Gd_of [262, 262, 261, 261, 1289] (by decide +kernel) (by decide +kernel) (by decide +kernel) (by decide +kernel)
theorem ix_w44 : ∀ w ∈ ix_mw ix_m44, w ∈ ix_tb := ix_mem_p [1288, 140, 1286, 1287] (by decide +kernel) (ix_mw_use _)
set_option maxRecDepth 100000 in
theorem ix_g45 : ix_Gd ix_m45 := ix_Gd_of [483, 486, 484, 485, 492, 490, 363, 312, 491, 355, 493] (by decide +kernel) (by decide +kernel) (by decide +kernel) (by decide +kernel)
theorem ix_w45 : ∀ w ∈ ix_mw ix_m45, w ∈ ix_tb := ix_mem_p [482, 147, 481] (by decide +kernel) (ix_mw_use _)
set_option maxRecDepth 100000 in
theorem ix_g46_0 : ix_Gc ix_m46 ((ix_t46.drop (32 * 0)).take 32) := ix_Gc_of [490, 355, 493, 494, 643, 493, 196, 493, 724, 493, 196, 196, 493, 493, 193] (by decide +kernel) (by decide +kernel) (by decide +kernel)
set_option maxRecDepth 100000 in
theorem ix_g46_1 : ix_Gc ix_m46 ((ix_t46.drop (32 * 1)).take 32) := ix_Gc_of [493, 189, 729, 730, 193, 490, 361, 712, 490, 363, 493, 181, 493, 185, 731, 493, 490] (by decide +kernel) (by decide +kernel) (by decide +kernel)
set_option maxRecDepth 100000 in
theorem ix_g46_2 : ix_Gc ix_m46 ((ix_t46.drop (32 * 2)).take 32) := ix_Gc_of [363, 329, 493, 181, 181, 493, 185, 490, 361, 493, 181, 712, 493, 181] (by decide +kernel) (by decide +kernel) (by decide +kernel)
set_option maxRecDepth 100000 in
theorem ix_g46 : ix_Gd ix_m46 := by
  refine ⟨ix_chunk (l := ix_t46) 3 (by decide +kernel) ?_, by decide +kernel⟩
  intro k hk
  rcases k with _ | _ | _ | k
  · exact ix_g46_0
  · exact ix_g46_1
  · exact ix_g46_2
  · omega
theorem ix_w46 : ∀ w ∈ ix_mw ix_m46, w ∈ ix_tb := ix_mem_p [642, 147, 640, 641] (by decide +kernel) (ix_mw_use _)
set_option maxRecDepth 100000 in
theorem ix_g47 : ix_Gd ix_m47 := ix_Gd_of [492, 490, 355, 1054, 492, 493, 494, 643] (by decide +kernel) (by decide +kernel) (by decide +kernel) (by decide +kernel)
theorem ix_w47 : ∀ w ∈ ix_mw ix_m47, w ∈ ix_tb := ix_mem_p [1053, 147, 1051, 1052] (by decide +kernel) (ix_mw_use _)
set_option maxRecDepth 100000 in
theorem ix_g48_0 : ix_Gc ix_m48 ((ix_t48.drop (32 * 0)).take 32) := ix_Gc_of [495, 488, 493, 189, 493, 203, 647, 651] (by decide +kernel) (by decide +kernel) (by decide +kernel)
set_option maxRecDepth 100000 in
theorem ix_g48_1 : ix_Gc ix_m48 ((ix_t48.drop (32 * 1)).take 32) := ix_Gc_of [493, 203, 647, 716, 486] (by decide +kernel) (by decide +kernel) (by decide +kernel)
set_option maxRecDepth 100000 in
theorem ix_g48_2 : ix_Gc ix_m48 ((ix_t48.drop (32 * 2)).take 32) := ix_Gc_of [720, 493, 203, 647, 493, 209, 708, 486] (by decide +kernel) (by decide +kernel) (by decide +kernel)
set_option maxRecDepth 100000 in
theorem ix_g48_3 : ix_Gc ix_m48 ((ix_t48.drop (32 * 3)).take 32) := ix_Gc_of [491, 493, 493, 215, 495, 662, 486, 721] (by decide +kernel) (by decide +kernel) (by decide +kernel)
set_option maxRecDepth 100000 in
theorem ix_g48 : ix_Gd ix_m48 := by
  refine ⟨ix_chunk (l := ix_t48) 4 (by decide +kernel) ?_, by decide +kernel⟩
  intro k hk
  rcases k with _ | _ | _ | _ | k
  · exact ix_g48_0
  · exact ix_g48_1
  · exact ix_g48_2
  · exact ix_g48_3
  · omega
theorem ix_w48 : ∀ w ∈ ix_mw ix_m48, w ∈ ix_tb := ix_mem_p [646, 147, 645, 0] (by decide +kernel) (ix_mw_use _)
set_option maxRecDepth 100000 in
theorem ix_g49 : ix_Gd ix_m49 := ix_Gd_of [495] (by decide +kernel) (by decide +kernel) (by decide +kernel) (by decide +kernel)
theorem ix_w49 : ∀ w ∈ ix_mw ix_m49, w ∈ ix_tb := ix_mem_p [650, 147, 649, 1] (by decide +kernel) (ix_mw_use _)
set_option maxRecDepth 100000 in
theorem ix_g50_0 : ix_Gc ix_m50 ((ix_t50.drop (32 * 0)).take 32) := ix_Gc_of [493, 490, 363, 316, 495, 655, 491, 493, 493, 215, 495] (by decide +kernel) (by decide +kernel) (by decide +kernel)
set_option maxRecDepth 100000 in
theorem ix_g50_1 : ix_Gc ix_m50 ((ix_t50.drop (32 * 1)).take 32) := ix_Gc_of [662, 698, 493, 209, 708, 493, 209, 493, 209, 709, 493, 224] (by decide +kernel) (by decide +kernel) (by decide +kernel)
set_option maxRecDepth 100000 in
theorem ix_g50_2 : ix_Gc ix_m50 ((ix_t50.drop (32 * 2)).take 32) := ix_Gc_of [488, 488, 494, 490, 361, 493, 196, 712] (by decide +kernel) (by decide +kernel) (by decide +kernel)
set_option maxRecDepth 100000 in
theorem ix_g50 : ix_Gd ix_m50 := by
  refine ⟨ix_chunk (l := ix_t50) 3 (by decide +kernel) ?_, by decide +kernel⟩
  intro k hk
  rcases k with _ | _ | _ | k
  · exact ix_g50_0
  · exact ix_g50_1
  · exact ix_g50_2
  · omega
theorem ix_w50 : ∀ w ∈ ix_mw ix_m50, w ∈ ix_tb := ix_mem_p [654, 147, 653, 2] (by decide +kernel) (ix_mw_use _)
set_option maxRecDepth 100000 in
theorem ix_g51 : ix_Gd ix_m51 := ix_Gd_of [491, 493, 493, 215, 495, 662, 698, 493, 221, 494, 490, 361, 493, 196, 493, 221, 712] (by decide +kernel) (by decide +kernel) (by decide +kernel) (by decide +kernel)
theorem ix_w51 : ∀ w ∈ ix_mw ix_m51, w ∈ ix_tb := ix_mem_p [719, 147, 718, 7] (by decide +kernel) (ix_mw_use _)
set_option maxRecDepth 100000 in
theorem ix_g52 : ix_Gd ix_m52 := ix_Gd_of [494, 493, 702] (by decide +kernel) (by decide +kernel) (by decide +kernel) (by decide +kernel)
theorem ix_w52 : ∀ w ∈ ix_mw ix_m52, w ∈ ix_tb := ix_mem_p [701, 147, 700, 6] (by decide +kernel) (ix_mw_use _)
set_option maxRecDepth 100000 in
theorem ix_g53 : ix_Gd ix_m53 := ix_Gd_of [290, 290, 289, 289, 282, 282, 1010, 283, 283, 1010, 284, 284, 1010, 285, 285, 1010, 286, 286, 1010] (by decide +kernel) (by decide +kernel) (by decide +kernel) (by decide +kernel)
theorem ix_w53 : ∀ w ∈ ix_mw ix_m53, w ∈ ix_tb := ix_mem_p [1009, 142, 1007, 1008] (by decide +kernel) (ix_mw_use _)
set_option maxRecDepth 100000 in
theorem ix_g54_0 : ix_Gc ix_m54 ((ix_t54.drop (32 * 0)).take 32) := ix_Gc_of [666, 680, 289, 283, 285, 286] (by decide +kernel) (by decide +kernel) (by decide +kernel)
set_option maxRecDepth 100000 in
theorem ix_g54_1 : ix_Gc ix_m54 ((ix_t54.drop (32 * 1)).take 32) := ix_Gc_of [285, 286, 684, 284, 285, 684] (by decide +kernel) (by decide +kernel) (by decide +kernel)
set_option maxRecDepth 100000 in
theorem ix_g54_2 : ix_Gc ix_m54 ((ix_t54.drop (32 * 2)).take 32) := ix_Gc_of [694, 695] (by decide +kernel) (by decide +kernel) (by decide +kernel)
set_option maxRecDepth 100000 in
theorem ix_g54 : ix_Gd ix_m54 := by
  refine ⟨ix_chunk (l := ix_t54) 3 (by decide +kernel) ?_, by decide +kernel⟩
  intro k hk
  rcases k with _ | _ | _ | k
  · exact ix_g54_0
  · exact ix_g54_1
  · exact ix_g54_2
  · omega
theorem ix_w54 : ∀ w ∈ ix_mw ix_m54, w ∈ ix_tb := ix_mem_p [665, 142, 663, 664] (by decide +kernel) (ix_mw_use _)
set_option maxRecDepth 100000 in
theorem ix_g55 : ix_Gd ix_m55 := ix_Gd_of [281, 282, 283, 284, 285, 286, 287, 288] (by decide +kernel) (by decide +kernel) (by decide +kernel) (by decide +kernel)
theorem ix_w55 : ∀ w ∈ ix_mw ix_m55, w ∈ ix_tb := ix_mem_p [280, 142, 279] (by decide +kernel) (ix_mw_use _)
set_option maxRecDepth 100000 in
theorem ix_g56 : ix_Gd ix_m56 := ix_Gd_of [290, 289] (by decide +kernel) (by decide +kernel) (by decide +kernel) (by decide +kernel)
theorem ix_w56 : ∀ w ∈ ix_mw ix_m56, w ∈ ix_tb := ix_mem_p [787, 142, 785, 786] (by decide +kernel) (ix_mw_use _)
set_option maxRecDepth 100000 in
theorem ix_g57 : ix_Gd ix_m57 := ix_Gd_of [289, 283, 289, 284, 289, 285, 289, 286, 289, 290, 289, 289] (by decide +kernel) (by decide +kernel) (by decide +kernel) (by decide +kernel)
theorem ix_w57 : ∀ w ∈ ix_mw ix_m57, w ∈ ix_tb := ix_mem_p [977, 142, 975, 976] (by decide +kernel) (ix_mw_use _)
set_option maxRecDepth 100000 in
theorem ix_g58_0 : ix_Gc ix_m58 ((ix_t58.drop (32 * 0)).take 32) := ix_Gc_of [288, 212, 288, 288, 218, 288, 220, 288] (by decide +kernel) (by decide +kernel) (by decide +kernel)
set_option maxRecDepth 100000 in
theorem ix_g58_1 : ix_Gc ix_m58 ((ix_t58.drop (32 * 1)).take 32) := ix_Gc_of [223, 288, 182, 288, 186, 288, 190, 288, 288] (by decide +kernel) (by decide +kernel) (by decide +kernel)
set_option maxRecDepth 100000 in
theorem ix_g58_2 : ix_Gc ix_m58 ((ix_t58.drop (32 * 2)).take 32) := ix_Gc_of [670, 288, 676] (by decide +kernel) (by decide +kernel) (by decide +kernel)
set_option maxRecDepth 100000 in
theorem ix_g58 : ix_Gd ix_m58 := by
  refine ⟨ix_chunk (l := ix_t58) 3 (by decide +kernel) ?_, by decide +kernel⟩
  intro k hk
  rcases k with _ | _ | _ | k
  · exact ix_g58_0
  · exact ix_g58_1
  · exact ix_g58_2
  · omega
theorem ix_w58 : ∀ w ∈ ix_mw ix_m58, w ∈ ix_tb := ix_mem_p [669, 142, 668, 3] (by decide +kernel) (ix_mw_use _)
set_option maxRecDepth 100000 in
theorem ix_g59 : ix_Gd ix_m59 := ix_Gd_of [288, 288, 288] (by decide +kernel) (by decide +kernel) (by decide +kernel) (by decide +kernel)
theorem ix_w59 : ∀ w ∈ ix_mw ix_m59, w ∈ ix_tb := ix_mem_p [683, 142, 682, 4] (by decide +kernel) (ix_mw_use _)
set_option maxRecDepth 100000 in
theorem ix_g60_0 : ix_Gc ix_m60 ((ix_t60.drop (32 * 0)).take 32) := ix_Gc_of [287, 282, 287] (by decide +kernel) (by decide +kernel) (by decide +kernel)
set_option maxRecDepth 100000 in
theorem ix_g60_1 : ix_Gc ix_m60 ((ix_t60.drop (32 * 1)).take 32) := ix_Gc_of [287, 688, 287, 287, 287, 691] (by decide +kernel) (by decide +kernel) (by decide +kernel)
set_option maxRecDepth 100000 in
theorem ix_g60_2 : ix_Gc ix_m60 ((ix_t60.drop (32 * 2)).take 32) := ix_Gc_of [287, 288, 282, 287] (by decide +kernel) (by decide +kernel) (by decide +kernel)
set_option maxRecDepth 100000 in
theorem ix_g60 : ix_Gd ix_m60 := by
  refine ⟨ix_chunk (l := ix_t60) 3 (by decide +kernel) ?_, by decide +kernel⟩
  intro k hk
  rcases k with _ | _ | _ | k
  · exact ix_g60_0
  · exact ix_g60_1
  · exact ix_g60_2
  · omega
theorem ix_w60 : ∀ w ∈ ix_mw ix_m60, w ∈ ix_tb := ix_mem_p [687, 142, 686, 5] (by decide +kernel) (ix_mw_use _)
set_option maxRecDepth 100000 in
theorem ix_g61 : ix_Gd ix_m61 := ix_Gd_of [290, 282, 290, 290, 290] (by decide +kernel) (by decide +kernel) (by decide +kernel) (by decide +kernel)
theorem ix_w61 : ∀ w ∈ ix_mw ix_m61, w ∈ ix_tb := ix_mem_p [957, 142, 955, 956] (by decide +kernel) (ix_mw_use _)
set_option maxRecDepth 100000 in
theorem ix_g62 : ix_Gd ix_m62 := ix_Gd_of [] (by decide +kernel) (by decide +kernel) (by decide +kernel) (by decide +kernel)
theorem ix_w62 : ∀ w ∈ ix_mw ix_m62, w ∈ ix_tb := ix_mem_p [690, 142, 689] (by decide +kernel) (ix_mw_use _)
set_option maxRecDepth 100000 in
theorem ix_g63 : ix_Gd ix_m63 := ix_Gd_of [] (by decide +kernel) (by decide +kernel) (by decide +kernel) (by decide +kernel)
theorem ix_w63 : ∀ w ∈ ix_mw ix_m63, w ∈ ix_tb := ix_mem_p [693, 142, 692] (by decide +kernel) (ix_mw_use _)
set_option maxRecDepth 100000 in
theorem ix_g64 : ix_Gd ix_m64 := ix_Gd_of [456, 457, 458, 459, 463, 465] (by decide +kernel) (by decide +kernel) (by decide +kernel) (by decide +kernel)
theorem ix_w64 : ∀ w ∈ ix_mw ix_m64, w ∈ ix_tb := ix_mem_p [455, 146, 454] (by decide +kernel) (ix_mw_use _)
set_option maxRecDepth 100000 in
theorem ix_g65_0 : ix_Gc ix_m65 ((ix_t65.drop (32 * 0)).take 32) := ix_Gc_of [461, 463, 466, 459, 780, 465, 789, 796] (by decide +kernel) (by decide +kernel) (by decide +kernel)
set_option maxRecDepth 100000 in
theorem ix_g65_1 : ix_Gc ix_m65 ((ix_t65.drop (32 * 1)).take 32) := ix_Gc_of [465, 423, 933, 937, 937, 941] (by decide +kernel) (by decide +kernel) (by decide +kernel)
set_option maxRecDepth 100000 in
theorem ix_g65_2 : ix_Gc ix_m65 ((ix_t65.drop (32 * 2)).take 32) := ix_Gc_of [978, 990, 998, 459, 334, 459, 334] (by decide +kernel) (by decide +kernel) (by decide +kernel)
set_option maxRecDepth 100000 in
theorem ix_g65_3 : ix_Gc ix_m65 ((ix_t65.drop (32 * 3)).take 32) := ix_Gc_of [] (by decide +kernel) (by decide +kernel) (by decide +kernel)
set_option maxRecDepth 100000 in
theorem ix_g65 : ix_Gd ix_m65 := by
  refine ⟨ix_chunk (l := ix_t65) 4 (by decide +kernel) ?_, by decide +kernel⟩
  intro k hk
  rcases k with _ | _ | _ | _ | k
  · exact ix_g65_0
  · exact ix_g65_1
  · exact ix_g65_2
  · exact ix_g65_3
  · omega
theorem ix_w65 : ∀ w ∈ ix_mw ix_m65, w ∈ ix_tb := ix_mem_p [779, 146, 777, 778] (by decide +kernel) (ix_mw_use _)
set_option maxRecDepth 100000 in
theorem ix_g66 : ix_Gd ix_m66 := ix_Gd_of [] (by decide +kernel) (by decide +kernel) (by decide +kernel) (by decide +kernel)
theorem ix_w66 : ∀ w ∈ ix_mw ix_m66, w ∈ ix_tb := ix_mem_p [791, 146, 790] (by decide +kernel) (ix_mw_use _)
set_option maxRecDepth 100000 in
theorem ix_g67 : ix_Gd ix_m67 := ix_Gd_of [465, 423, 465, 423] (by decide +kernel) (by decide +kernel) (by decide +kernel) (by decide +kernel)
theorem ix_w67 : ∀ w ∈ ix_mw ix_m67, w ∈ ix_tb := ix_mem_p [936, 146, 935, 12] (by decide +kernel) (ix_mw_use _)
set_option maxRecDepth 100000 in
theorem ix_g68 : ix_Gd ix_m68 := ix_Gd_of [461, 465, 427, 463] (by decide +kernel) (by decide +kernel) (by decide +kernel) (by decide +kernel)
theorem ix_w68 : ∀ w ∈ ix_mw ix_m68, w ∈ ix_tb := ix_mem_p [940, 146, 939, 13] (by decide +kernel) (ix_mw_use _)
set_option maxRecDepth 100000 in
theorem ix_g69 : ix_Gd ix_m69 := ix_Gd_of [465, 423, 459, 314, 291, 465, 945, 946, 459, 314, 291, 465, 423, 465, 945, 958, 459, 314, 974, 970] (by decide +kernel) (by decide +kernel) (by decide +kernel) (by decide +kernel)
theorem ix_w69 : ∀ w ∈ ix_mw ix_m69, w ∈ ix_tb := ix_mem_p [944, 146, 943, 14] (by decide +kernel) (ix_mw_use _)
set_option maxRecDepth 100000 in
theorem ix_g70 : ix_Gd ix_m70 := ix_Gd_of [465, 945, 466, 982, 970, 466, 982, 459, 317, 970] (by decide +kernel) (by decide +kernel) (by decide +kernel) (by decide +kernel)
theorem ix_w70 : ∀ w ∈ ix_mw ix_m70, w ∈ ix_tb := ix_mem_p [981, 146, 980, 21] (by decide +kernel) (ix_mw_use _)
set_option maxRecDepth 100000 in
theorem ix_g71 : ix_Gd ix_m71 := ix_Gd_of [465, 945, 466, 994, 465, 423, 465, 945, 994, 459, 321, 459, 324, 970] (by decide +kernel) (by decide +kernel) (by decide +kernel) (by decide +kernel)
theorem ix_w71 : ∀ w ∈ ix_mw ix_m71, w ∈ ix_tb := ix_mem_p [993, 146, 992, 24] (by decide +kernel) (ix_mw_use _)
set_option maxRecDepth 100000 in
theorem ix_g72_0 : ix_Gc ix_m72 ((ix_t72.drop (32 * 0)).take 32) := ix_Gc_of [465, 945, 986, 970, 986, 970] (by decide +kernel) (by decide +kernel) (by decide +kernel)
set_option maxRecDepth 100000 in
theorem ix_g72_1 : ix_Gc ix_m72 ((ix_t72.drop (32 * 1)).take 32) := ix_Gc_of [986, 459, 326, 459, 326, 459, 331, 970] (by decide +kernel) (by decide +kernel) (by decide +kernel)
set_option maxRecDepth 100000 in
theorem ix_g72 : ix_Gd ix_m72 := by
  refine ⟨ix_chunk (l := ix_t72) 2 (by decide +kernel) ?_, by decide +kernel⟩
  intro k hk
  rcases k with _ | _ | k
  · exact ix_g72_0
  · exact ix_g72_1
  · omega
theorem ix_w72 : ∀ w ∈ ix_mw ix_m72, w ∈ ix_tb := ix_mem_p [1001, 146, 1000, 26] (by decide +kernel) (ix_mw_use _)
set_option maxRecDepth 100000 in
theorem ix_g73_0 : ix_Gc ix_m73 ((ix_t73.drop (32 * 0)).take 32) := ix_Gc_of [950, 459, 314, 954, 465, 423] (by decide +kernel) (by decide +kernel) (by decide +kernel)
set_option maxRecDepth 100000 in
theorem ix_g73_1 : ix_Gc ix_m73 ((ix_t73.drop (32 * 1)).take 32) := ix_Gc_of [459, 314, 954, 465, 945] (by decide +kernel) (by decide +kernel) (by decide +kernel)
set_option maxRecDepth 100000 in
theorem ix_g73 : ix_Gd ix_m73 := by
  refine ⟨ix_chunk (l := ix_t73) 2 (by decide +kernel) ?_, by decide +kernel⟩
  intro k hk
  rcases k with _ | _ | k
  · exact ix_g73_0
  · exact ix_g73_1
  · omega
theorem ix_w73 : ∀ w ∈ ix_mw ix_m73, w ∈ ix_tb := ix_mem_p [949, 146, 948, 15] (by decide +kernel) (ix_mw_use _)
set_option maxRecDepth 100000 in
theorem ix_g74_0 : ix_Gc ix_m74 ((ix_t74.drop (32 * 0)).take 32) := ix_Gc_of [962, 459, 314, 954, 465, 423] (by decide +kernel) (by decide +kernel) (by decide +kernel)
set_option maxRecDepth 100000 in
theorem ix_g74_1 : ix_Gc ix_m74 ((ix_t74.drop (32 * 1)).take 32) := ix_Gc_of [459, 314, 954, 465, 423, 465, 423, 465, 423] (by decide +kernel) (by decide +kernel) (by decide +kernel)
set_option maxRecDepth 100000 in
theorem ix_g74_2 : ix_Gc ix_m74 ((ix_t74.drop (32 * 2)).take 32) := ix_Gc_of [465, 945] (by decide +kernel) (by decide +kernel) (by decide +kernel)
set_option maxRecDepth 100000 in
theorem ix_g74 : ix_Gd ix_m74 := by
  refine ⟨ix_chunk (l := ix_t74) 3 (by decide +kernel) ?_, by decide +kernel⟩
  intro k hk
  rcases k with _ | _ | _ | k
  · exact ix_g74_0
  · exact ix_g74_1
  · exact ix_g74_2
  · omega
theorem ix_w74 : ∀ w ∈ ix_mw ix_m74, w ∈ ix_tb := ix_mem_p [961, 146, 960, 17] (by decide +kernel) (ix_mw_use _)
set_option maxRecDepth 100000 in
theorem ix_g75 : ix_Gd ix_m75 := ix_Gd_of [465, 423, 937, 465, 945] (by decide +kernel) (by decide +kernel) (by decide +kernel) (by decide +kernel)
theorem ix_w75 : ∀ w ∈ ix_mw ix_m75, w ∈ ix_tb := ix_mem_p [973, 146, 972, 20] (by decide +kernel) (ix_mw_use _)
set_option maxRecDepth 100000 in
theorem ix_g76 : ix_Gd ix_m76 := ix_Gd_of [465, 423, 465, 426, 465, 426, 937, 986] (by decide +kernel) (by decide +kernel) (by decide +kernel) (by decide +kernel)
theorem ix_w76 : ∀ w ∈ ix_mw ix_m76, w ∈ ix_tb := ix_mem_p [985, 146, 984, 22] (by decide +kernel) (ix_mw_use _)
set_option maxRecDepth 100000 in
theorem ix_g77 : ix_Gd ix_m77 := ix_Gd_of [465, 423, 982] (by decide +kernel) (by decide +kernel) (by decide +kernel) (by decide +kernel)
theorem ix_w77 : ∀ w ∈ ix_mw ix_m77, w ∈ ix_tb := ix_mem_p [997, 146, 996, 25] (by decide +kernel) (ix_mw_use _)
set_option maxRecDepth 100000 in
theorem ix_g78 : ix_Gd ix_m78 := ix_Gd_of [465, 423, 937, 465, 426, 937, 465, 945] (by decide +kernel) (by decide +kernel) (by decide +kernel) (by decide +kernel)
theorem ix_w78 : ∀ w ∈ ix_mw ix_m78, w ∈ ix_tb := ix_mem_p [989, 146, 988, 23] (by decide +kernel) (ix_mw_use _)
set_option maxRecDepth 100000 in
theorem ix_g79 : ix_Gd ix_m79 := ix_Gd_of [465, 423, 465, 423, 465, 423, 937, 465, 426, 937, 459, 314, 465, 423, 465, 426, 954, 465, 945] (by decide +kernel) (by decide +kernel) (by decide +kernel) (by decide +kernel)
theorem ix_w79 : ∀ w ∈ ix_mw ix_m79, w ∈ ix_tb := ix_mem_p [953, 146, 952, 16] (by decide +kernel) (ix_mw_use _)
set_option maxRecDepth 100000 in
theorem ix_g80_0 : ix_Gc ix_m80 ((ix_t80.drop (32 * 0)).take 32) := ix_Gc_of [465, 423, 465, 423, 966, 937, 946, 465, 423] (by decide +kernel) (by decide +kernel) (by decide +kernel)
set_option maxRecDepth 100000 in
theorem ix_g80_1 : ix_Gc ix_m80 ((ix_t80.drop (32 * 1)).take 32) := ix_Gc_of [937, 465, 945, 946, 459, 314, 954] (by decide +kernel) (by decide +kernel) (by decide +kernel)
set_option maxRecDepth 100000 in
theorem ix_g80 : ix_Gd ix_m80 := by
  refine ⟨ix_chunk (l := ix_t80) 2 (by decide +kernel) ?_, by decide +kernel⟩
  intro k hk
  rcases k with _ | _ | k
  · exact ix_g80_0
  · exact ix_g80_1
  · omega
theorem ix_w80 : ∀ w ∈ ix_mw ix_m80, w ∈ ix_tb := ix_mem_p [965, 146, 964, 18] (by decide +kernel) (ix_mw_use _)
set_option maxRecDepth 100000 in
theorem ix_g81 : ix_Gd ix_m81 := ix_Gd_of [465, 423, 465, 945, 958, 970, 962, 459, 314, 954] (by decide +kernel) (by decide +kernel) (by decide +kernel) (by decide +kernel)
theorem ix_w81 : ∀ w ∈ ix_mw ix_m81, w ∈ ix_tb := ix_mem_p [969, 146, 968, 19] (by decide +kernel) (ix_mw_use _)
set_option maxRecDepth 100000 in
theorem ix_g82 : ix_Gd ix_m82 := ix_Gd_of [391, 392, 395, 396, 395, 392, 394] (by decide +kernel) (by decide +kernel) (by decide +kernel) (by decide +kernel)
theorem ix_w82 : ∀ w ∈ ix_mw ix_m82, w ∈ ix_tb := ix_mem_p [390, 144, 389] (by decide +kernel) (ix_mw_use _)
set_option maxRecDepth 100000 in
theorem ix_g83 : ix_Gd ix_m83 := ix_Gd_of [398] (by decide +kernel) (by decide +kernel) (by decide +kernel) (by decide +kernel)
theorem ix_w83 : ∀ w ∈ ix_mw ix_m83, w ∈ ix_tb := ix_mem_p [575, 144, 573, 574] (by decide +kernel) (ix_mw_use _)
set_option maxRecDepth 100000 in
theorem ix_g84 : ix_Gd ix_m84 := ix_Gd_of [395, 397, 358, 629, 396, 397, 360, 263, 397, 397, 398, 636, 398] (by decide +kernel) (by decide +kernel) (by decide +kernel) (by decide +kernel)
theorem ix_w84 : ∀ w ∈ ix_mw ix_m84, w ∈ ix_tb := ix_mem_p [628, 144, 626, 627] (by decide +kernel) (ix_mw_use _)
set_option maxRecDepth 100000 in
theorem ix_g85 : ix_Gd ix_m85 := ix_Gd_of [398, 397, 397, 398, 398, 358, 395, 397, 629, 360, 396, 397, 263] (by decide +kernel) (by decide +kernel) (by decide +kernel) (by decide +kernel)
theorem ix_w85 : ∀ w ∈ ix_mw ix_m85, w ∈ ix_tb := ix_mem_p [1275, 144, 1273, 1274] (by decide +kernel) (ix_mw_use _)
set_option maxRecDepth 100000 in
theorem ix_g86 : ix_Gd ix_m86 := ix_Gd_of [518, 520, 521, 522, 523, 519] (by decide +kernel) (by decide +kernel) (by decide +kernel) (by decide +kernel)
theorem ix_w86 : ∀ w ∈ ix_mw ix_m86, w ∈ ix_tb := ix_mem_p [517, 148, 516] (by decide +kernel) (ix_mw_use _)
set_option maxRecDepth 100000 in
theorem ix_g87 : ix_Gd ix_m87 := ix_Gd_of [519, 357, 519, 365, 313, 1024, 1025] (by decide +kernel) (by decide +kernel) (by decide +kernel) (by decide +kernel)
theorem ix_w87 : ∀ w ∈ ix_mw ix_m87, w ∈ ix_tb := ix_mem_p [1023, 148, 1021, 1022] (by decide +kernel) (ix_mw_use _)
set_option maxRecDepth 100000 in
theorem ix_g88 : ix_Gd ix_m88 := ix_Gd_of [519, 357, 201, 520, 1066, 214, 1067] (by decide +kernel) (by decide +kernel) (by decide +kernel) (by decide +kernel)
theorem ix_w88 : ∀ w ∈ ix_mw ix_m88, w ∈ ix_tb := ix_mem_p [1065, 148, 1063, 1064] (by decide +kernel) (ix_mw_use _)
set_option maxRecDepth 100000 in
theorem ix_g89 : ix_Gd ix_m89 := ix_Gd_of [519, 357, 201, 520, 1072] (by decide +kernel) (by decide +kernel) (by decide +kernel) (by decide +kernel)
theorem ix_w89 : ∀ w ∈ ix_mw ix_m89, w ∈ ix_tb := ix_mem_p [1071, 148, 1069, 1070] (by decide +kernel) (ix_mw_use _)
set_option maxRecDepth 100000 in
theorem ix_g90_0 : ix_Gc ix_m90 ((ix_t90.drop (32 * 0)).take 32) := ix_Gc_of [520, 1085, 519, 357, 1024, 1089, 1072, 521, 1090] (by decide +kernel) (by decide +kernel) (by decide +kernel)
set_option maxRecDepth 100000 in
theorem ix_g90_1 : ix_Gc ix_m90 ((ix_t90.drop (32 * 1)).take 32) := ix_Gc_of [520, 1091, 1096, 521] (by decide +kernel) (by decide +kernel) (by decide +kernel)
set_option maxRecDepth 100000 in
theorem ix_g90_2 : ix_Gc ix_m90 ((ix_t90.drop (32 * 2)).take 32) := ix_Gc_of [1072, 520, 520, 520, 1091] (by decide +kernel) (by decide +kernel) (by decide +kernel)
set_option maxRecDepth 100000 in
theorem ix_g90_3 : ix_Gc ix_m90 ((ix_t90.drop (32 * 3)).take 32) := ix_Gc_of [] (by decide +kernel) (by decide +kernel) (by decide +kernel)
set_option maxRecDepth 100000 in
theorem ix_g90 : ix_Gd ix_m90 := by
  refine ⟨ix_chunk (l := ix_t90) 4 (by decide +kernel) ?_, by decide +kernel⟩
  intro k hk
  rcases k with _ | _ | _ | _ | k
  · exact ix_g90_0
  · exact ix_g90_1
  · exact ix_g90_2
  · exact ix_g90_3
  · omega
theorem ix_w90 : ∀ w ∈ ix_mw ix_m90, w ∈ ix_tb := ix_mem_p [1084, 148, 1082, 1083] (by decide +kernel) (ix_mw_use _)
set_option maxRecDepth 100000 in
theorem ix_g91 : ix_Gd ix_m91 := ix_Gd_of [1113] (by decide +kernel) (by decide +kernel) (by decide +kernel) (by decide +kernel)
theorem ix_w91 : ∀ w ∈ ix_mw ix_m91, w ∈ ix_tb := ix_mem_p [1112, 148, 1110, 1111] (by decide +kernel) (ix_mw_use _)
set_option maxRecDepth 100000 in
theorem ix_g92 : ix_Gd ix_m92 := ix_Gd_of [523, 523] (by decide +kernel) (by decide +kernel) (by decide +kernel) (by decide +kernel)
theorem ix_w92 : ∀ w ∈ ix_mw ix_m92, w ∈ ix_tb := ix_mem_p [1124, 148, 1122, 1123] (by decide +kernel) (ix_mw_use _)
set_option maxRecDepth 100000 in
theorem ix_g93 : ix_Gd ix_m93 := ix_Gd_of [519, 357, 1024, 1133, 1100] (by decide +kernel) (by decide +kernel) (by decide +kernel) (by decide +kernel)
theorem ix_w93 : ∀ w ∈ ix_mw ix_m93, w ∈ ix_tb := ix_mem_p [1132, 148, 1130, 1131] (by decide +kernel) (ix_mw_use _)
set_option maxRecDepth 100000 in
theorem ix_g94 : ix_Gd ix_m94 := ix_Gd_of [519, 357, 201, 519, 357, 208, 1144, 520] (by decide +kernel) (by decide +kernel) (by decide +kernel) (by decide +kernel)
theorem ix_w94 : ∀ w ∈ ix_mw ix_m94, w ∈ ix_tb := ix_mem_p [1143, 148, 1141, 1142] (by decide +kernel) (ix_mw_use _)
set_option maxRecDepth 100000 in
theorem ix_g95 : ix_Gd ix_m95 := ix_Gd_of [1151] (by decide +kernel) (by decide +kernel) (by decide +kernel) (by decide +kernel)
theorem ix_w95 : ∀ w ∈ ix_mw ix_m95, w ∈ ix_tb := ix_mem_p [1150, 148, 1148, 1149] (by decide +kernel) (ix_mw_use _)
set_option maxRecDepth 100000 in
theorem ix_g96 : ix_Gd ix_m96 := ix_Gd_of [1156, 1158] (by decide +kernel) (by decide +kernel) (by decide +kernel) (by decide +kernel)
theorem ix_w96 : ∀ w ∈ ix_mw ix_m96, w ∈ ix_tb := ix_mem_p [1155, 148, 1153, 1154] (by decide +kernel) (ix_mw_use _)
set_option maxRecDepth 100000 in
theorem ix_g97 : ix_Gd ix_m97 := ix_Gd_of [521, 1090, 519, 357, 201, 519, 357, 1066, 521, 1072, 521] (by decide +kernel) (by decide +kernel) (by decide +kernel) (by decide +kernel)
theorem ix_w97 : ∀ w ∈ ix_mw ix_m97, w ∈ ix_tb := ix_mem_p [1169, 148, 1167, 1168] (by decide +kernel) (ix_mw_use _)
set_option maxRecDepth 100000 in
theorem ix_g98 : ix_Gd ix_m98 := ix_Gd_of [519, 357, 1024, 1089] (by decide +kernel) (by decide +kernel) (by decide +kernel) (by decide +kernel)
theorem ix_w98 : ∀ w ∈ ix_mw ix_m98, w ∈ ix_tb := ix_mem_p [1173, 148, 1171, 1172] (by decide +kernel) (ix_mw_use _)
set_option maxRecDepth 100000 in
theorem ix_g99 : ix_Gd ix_m99 := ix_Gd_of [1113] (by decide +kernel) (by decide +kernel) (by decide +kernel) (by decide +kernel)
theorem ix_w99 : ∀ w ∈ ix_mw ix_m99, w ∈ ix_tb := ix_mem_p [1207, 148, 1205, 1206] (by decide +kernel) (ix_mw_use _)
set_option maxRecDepth 100000 in
theorem ix_g100 : ix_Gd ix_m100 := ix_Gd_of [1156, 1212] (by decide +kernel) (by decide +kernel) (by decide +kernel) (by decide +kernel)
theorem ix_w100 : ∀ w ∈ ix_mw ix_m100, w ∈ ix_tb := ix_mem_p [1211, 148, 1209, 1210] (by decide +kernel) (ix_mw_use _)
