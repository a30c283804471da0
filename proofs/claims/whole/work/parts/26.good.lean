set_option maxRecDepth 100000 in
theorem ix_g233_0 : ix_Gc ix_m233 ((ix_t233.drop (32 * 0)).take 32) := ix_Gc_of [1316, 1526, 1316, 1526, 1316, 1316, 1316, 1317, 1318, 1316, 1526] (by decide +kernel) (by decide +kernel) (by decide +kernel)
set_option maxRecDepth 100000 in
theorem ix_g233_1 : ix_Gc ix_m233 ((ix_t233.drop (32 * 1)).take 32) := ix_Gc_of [1318, 1316, 1316, 1319, 1530, 1316, 1526, 1530, 1316, 1316] (by decide +kernel) (by decide +kernel) (by decide +kernel)
set_option maxRecDepth 100000 in
theorem ix_g233_2 : ix_Gc ix_m233 ((ix_t233.drop (32 * 2)).take 32) := ix_Gc_of [1317, 1316, 1534, 1319, 1319, 1318, 1538, 1319, 1316, 1526, 1538] (by decide +kernel) (by decide +kernel) (by decide +kernel)
set_option maxRecDepth 100000 in
theorem ix_g233_3 : ix_Gc ix_m233 ((ix_t233.drop (32 * 3)).take 32) := ix_Gc_of [1319, 1319, 1316, 1526, 1319, 1319, 1316, 1316, 1316, 1317] (by decide +kernel) (by decide +kernel) (by decide +kernel)
set_option maxRecDepth 100000 in
theorem ix_g233_4 : ix_Gc ix_m233 ((ix_t233.drop (32 * 4)).take 32) := ix_Gc_of [1318, 1542, 1318] (by decide +kernel) (by decide +kernel) (by decide +kernel)
set_option maxRecDepth 100000 in
theorem ix_g233 : ix_Gd ix_m233 := by
  refine ⟨ix_chunk (l := ix_t233) 5 (by decide +kernel) ?_, by decide +kernel⟩
  intro k hk
  rcases k with _ | _ | _ | _ | _ | k
  · exact ix_g233_0
  · exact ix_g233_1
  · exact ix_g233_2
  · exact ix_g233_3
  · exact ix_g233_4
  · omega
theorem ix_w233 : ∀ w ∈ ix_mw ix_m233, w ∈ ix_tb := ix_mem_p [1525, 149, 1524, 47] (by decide +kernel) (ix_mw_use _)
set_option maxRecDepth 100000 in
theorem ix_g234 : ix_Gd ix_m234 := ix_Gd_of [1338, 1550, 1554, 1558, 1318, 1554] (by decide +kernel) (by decide +kernel) (by decide +kernel) (by decide +kernel)
theorem ix_w234 : ∀ w ∈ ix_mw ix_m234, w ∈ ix_tb := ix_mem_p [1549, 149, 1548, 53] (by decide +kernel) (ix_mw_use _)
set_option maxRecDepth 100000 in
theorem ix_g235 : ix_Gd ix_m235 := ix_Gd_of [1550, 1554, 1582, 1318, 1554] (by decide +kernel) (by decide +kernel) (by decide +kernel) (by decide +kernel)
theorem ix_w235 : ∀ w ∈ ix_mw ix_m235, w ∈ ix_tb := ix_mem_p [1581, 149, 1580, 61] (by decide +kernel) (ix_mw_use _)
set_option maxRecDepth 100000 in
theorem ix_g236 : ix_Gd ix_m236 := ix_Gd_of [1550, 1554, 1598, 1318, 1554] (by decide +kernel) (by decide +kernel) (by decide +kernel) (by decide +kernel)
theorem ix_w236 : ∀ w ∈ ix_mw ix_m236, w ∈ ix_tb := ix_mem_p [1597, 149, 1596, 65] (by decide +kernel) (ix_mw_use _)
set_option maxRecDepth 100000 in
theorem ix_g237_0 : ix_Gc ix_m237 ((ix_t237.drop (32 * 0)).take 32) := ix_Gc_of [1606, 1554, 1322, 1319, 1522, 1323, 1329, 1610] (by decide +kernel) (by decide +kernel) (by decide +kernel)
set_option maxRecDepth 100000 in
theorem ix_g237_1 : ix_Gc ix_m237 ((ix_t237.drop (32 * 1)).take 32) := ix_Gc_of [1324, 1329, 1550, 1522, 1630, 1325, 1329, 1574] (by decide +kernel) (by decide +kernel) (by decide +kernel)
set_option maxRecDepth 100000 in
theorem ix_g237_2 : ix_Gc ix_m237 ((ix_t237.drop (32 * 2)).take 32) := ix_Gc_of [1554, 1522, 1318, 1554] (by decide +kernel) (by decide +kernel) (by decide +kernel)
set_option maxRecDepth 100000 in
theorem ix_g237 : ix_Gd ix_m237 := by
  refine ⟨ix_chunk (l := ix_t237) 3 (by decide +kernel) ?_, by decide +kernel⟩
  intro k hk
  rcases k with _ | _ | _ | k
  · exact ix_g237_0
  · exact ix_g237_1
  · exact ix_g237_2
  · omega
theorem ix_w237 : ∀ w ∈ ix_mw ix_m237, w ∈ ix_tb := ix_mem_p [1605, 149, 1604, 67] (by decide +kernel) (ix_mw_use _)
set_option maxRecDepth 100000 in
theorem ix_g238 : ix_Gd ix_m238 := ix_Gd_of [1311, 1702, 1310, 1710] (by decide +kernel) (by decide +kernel) (by decide +kernel) (by decide +kernel)
theorem ix_w238 : ∀ w ∈ ix_mw ix_m238, w ∈ ix_tb := ix_mem_p [1759, 149, 1758, 103] (by decide +kernel) (ix_mw_use _)
set_option maxRecDepth 100000 in
theorem ix_g239_0 : ix_Gc ix_m239 ((ix_t239.drop (32 * 0)).take 32) := ix_Gc_of [1343, 1310, 1343, 1343, 1312, 1343, 1303] (by decide +kernel) (by decide +kernel) (by decide +kernel)
set_option maxRecDepth 100000 in
theorem ix_g239_1 : ix_Gc ix_m239 ((ix_t239.drop (32 * 1)).take 32) := ix_Gc_of [1343, 1303, 1343, 1303, 1343, 1303, 1343, 1308] (by decide +kernel) (by decide +kernel) (by decide +kernel)
set_option maxRecDepth 100000 in
theorem ix_g239_2 : ix_Gc ix_m239 ((ix_t239.drop (32 * 2)).take 32) := ix_Gc_of [1343, 1343, 1706, 1343, 1309, 1590, 1694] (by decide +kernel) (by decide +kernel) (by decide +kernel)
set_option maxRecDepth 100000 in
theorem ix_g239_3 : ix_Gc ix_m239 ((ix_t239.drop (32 * 3)).take 32) := ix_Gc_of [1694, 1343, 1343] (by decide +kernel) (by decide +kernel) (by decide +kernel)
set_option maxRecDepth 100000 in
theorem ix_g239 : ix_Gd ix_m239 := by
  refine ⟨ix_chunk (l := ix_t239) 4 (by decide +kernel) ?_, by decide +kernel⟩
  intro k hk
  rcases k with _ | _ | _ | _ | k
  · exact ix_g239_0
  · exact ix_g239_1
  · exact ix_g239_2
  · exact ix_g239_3
  · omega
theorem ix_w239 : ∀ w ∈ ix_mw ix_m239, w ∈ ix_tb := ix_mem_p [1705, 149, 1704, 90] (by decide +kernel) (ix_mw_use _)
set_option maxRecDepth 100000 in
theorem ix_g240 : ix_Gd ix_m240 := ix_Gd_of [1714, 1323, 1324, 1718, 1726] (by decide +kernel) (by decide +kernel) (by decide +kernel) (by decide +kernel)
theorem ix_w240 : ∀ w ∈ ix_mw ix_m240, w ∈ ix_tb := ix_mem_p [1713, 149, 1712, 92] (by decide +kernel) (ix_mw_use _)
set_option maxRecDepth 100000 in
theorem ix_g241_0 : ix_Gc ix_m241 ((ix_t241.drop (32 * 0)).take 32) := ix_Gc_of [1690, 1698, 1307, 1730] (by decide +kernel) (by decide +kernel) (by decide +kernel)
set_option maxRecDepth 100000 in
theorem ix_g241_1 : ix_Gc ix_m241 ((ix_t241.drop (32 * 1)).take 32) := ix_Gc_of [1303, 1694, 1303, 1736, 1303, 1303] (by decide +kernel) (by decide +kernel) (by decide +kernel)
set_option maxRecDepth 100000 in
theorem ix_g241_2 : ix_Gc ix_m241 ((ix_t241.drop (32 * 2)).take 32) := ix_Gc_of [1345, 1345, 1694, 1740] (by decide +kernel) (by decide +kernel) (by decide +kernel)
set_option maxRecDepth 100000 in
theorem ix_g241 : ix_Gd ix_m241 := by
  refine ⟨ix_chunk (l := ix_t241) 3 (by decide +kernel) ?_, by decide +kernel⟩
  intro k hk
  rcases k with _ | _ | _ | k
  · exact ix_g241_0
  · exact ix_g241_1
  · exact ix_g241_2
  · omega
theorem ix_w241 : ∀ w ∈ ix_mw ix_m241, w ∈ ix_tb := ix_mem_p [1689, 149, 1688, 86] (by decide +kernel) (ix_mw_use _)
set_option maxRecDepth 100000 in
theorem ix_g242 : ix_Gd ix_m242 := ix_Gd_of [1309, 1590, 1748, 1303, 1303, 1303, 1740] (by decide +kernel) (by decide +kernel) (by decide +kernel) (by decide +kernel)
theorem ix_w242 : ∀ w ∈ ix_mw ix_m242, w ∈ ix_tb := ix_mem_p [1747, 149, 1746, 100] (by decide +kernel) (ix_mw_use _)
set_option maxRecDepth 100000 in
theorem ix_g243 : ix_Gd ix_m243 := ix_Gd_of [1303, 1481] (by decide +kernel) (by decide +kernel) (by decide +kernel) (by decide +kernel)
theorem ix_w243 : ∀ w ∈ ix_mw ix_m243, w ∈ ix_tb := ix_mem_p [1697, 149, 1696, 88] (by decide +kernel) (ix_mw_use _)
set_option maxRecDepth 100000 in
theorem ix_g244 : ix_Gd ix_m244 := ix_Gd_of [1346, 1346, 1346, 1764] (by decide +kernel) (by decide +kernel) (by decide +kernel) (by decide +kernel)
theorem ix_w244 : ∀ w ∈ ix_mw ix_m244, w ∈ ix_tb := ix_mem_p [1763, 149, 1762, 104] (by decide +kernel) (ix_mw_use _)
set_option maxRecDepth 100000 in
theorem ix_g245 : ix_Gd ix_m245 := ix_Gd_of [1852, 1852] (by decide +kernel) (by decide +kernel) (by decide +kernel) (by decide +kernel)
theorem ix_w245 : ∀ w ∈ ix_mw ix_m245, w ∈ ix_tb := ix_mem_p [1851, 149, 1850, 116] (by decide +kernel) (ix_mw_use _)
set_option maxRecDepth 100000 in
theorem ix_g246_0 : ix_Gc ix_m246 ((ix_t246.drop (32 * 0)).take 32) := ix_Gc_of [1346, 1309, 1303, 1303] (by decide +kernel) (by decide +kernel) (by decide +kernel)
set_option maxRecDepth 100000 in
theorem ix_g246_1 : ix_Gc ix_m246 ((ix_t246.drop (32 * 1)).take 32) := ix_Gc_of [1872, 1346, 1346, 1347, 1590] (by decide +kernel) (by decide +kernel) (by decide +kernel)
set_option maxRecDepth 100000 in
theorem ix_g246_2 : ix_Gc ix_m246 ((ix_t246.drop (32 * 2)).take 32) := ix_Gc_of [1346, 1346] (by decide +kernel) (by decide +kernel) (by decide +kernel)
set_option maxRecDepth 100000 in
theorem ix_g246 : ix_Gd ix_m246 := by
  refine ⟨ix_chunk (l := ix_t246) 3 (by decide +kernel) ?_, by decide +kernel⟩
  intro k hk
  rcases k with _ | _ | _ | k
  · exact ix_g246_0
  · exact ix_g246_1
  · exact ix_g246_2
  · omega
theorem ix_w246 : ∀ w ∈ ix_mw ix_m246, w ∈ ix_tb := ix_mem_p [1871, 149, 1870, 120] (by decide +kernel) (ix_mw_use _)
set_option maxRecDepth 100000 in
theorem ix_g247 : ix_Gd ix_m247 := ix_Gd_of [1481] (by decide +kernel) (by decide +kernel) (by decide +kernel) (by decide +kernel)
theorem ix_w247 : ∀ w ∈ ix_mw ix_m247, w ∈ ix_tb := ix_mem_p [1855, 149, 1854, 117] (by decide +kernel) (ix_mw_use _)
set_option maxRecDepth 100000 in
theorem ix_g248 : ix_Gd ix_m248 := ix_Gd_of [1481, 1348, 1481, 1481] (by decide +kernel) (by decide +kernel) (by decide +kernel) (by decide +kernel)
theorem ix_w248 : ∀ w ∈ ix_mw ix_m248, w ∈ ix_tb := ix_mem_p [1887, 149, 1886, 124] (by decide +kernel) (ix_mw_use _)
set_option maxRecDepth 100000 in
theorem ix_g249 : ix_Gd ix_m249 := ix_Gd_of [1315, 1314] (by decide +kernel) (by decide +kernel) (by decide +kernel) (by decide +kernel)
theorem ix_w249 : ∀ w ∈ ix_mw ix_m249, w ∈ ix_tb := ix_mem_p [1529, 149, 1528, 48] (by decide +kernel) (ix_mw_use _)
set_option maxRecDepth 100000 in
theorem ix_g250 : ix_Gd ix_m250 := ix_Gd_of [1486, 1486] (by decide +kernel) (by decide +kernel) (by decide +kernel) (by decide +kernel)
theorem ix_w250 : ∀ w ∈ ix_mw ix_m250, w ∈ ix_tb := ix_mem_p [1533, 149, 1532, 49] (by decide +kernel) (ix_mw_use _)
set_option maxRecDepth 100000 in
theorem ix_g251_0 : ix_Gc ix_m251 ((ix_t251.drop (32 * 0)).take 32) := ix_Gc_of [1320, 1314] (by decide +kernel) (by decide +kernel) (by decide +kernel)
set_option maxRecDepth 100000 in
theorem ix_g251_1 : ix_Gc ix_m251 ((ix_t251.drop (32 * 1)).take 32) := ix_Gc_of [1320, 1320] (by decide +kernel) (by decide +kernel) (by decide +kernel)
set_option maxRecDepth 100000 in
theorem ix_g251_2 : ix_Gc ix_m251 ((ix_t251.drop (32 * 2)).take 32) := ix_Gc_of [] (by decide +kernel) (by decide +kernel) (by decide +kernel)
set_option maxRecDepth 100000 in
theorem ix_g251 : ix_Gd ix_m251 := by
  refine ⟨ix_chunk (l := ix_t251) 3 (by decide +kernel) ?_, by decide +kernel⟩
  intro k hk
  rcases k with _ | _ | _ | k
  · exact ix_g251_0
  · exact ix_g251_1
  · exact ix_g251_2
  · omega
theorem ix_w251 : ∀ w ∈ ix_mw ix_m251, w ∈ ix_tb := ix_mem_p [1537, 149, 1536, 50] (by decide +kernel) (ix_mw_use _)
set_option maxRecDepth 100000 in
theorem ix_g252 : ix_Gd ix_m252 := ix_Gd_of [1486] (by decide +kernel) (by decide +kernel) (by decide +kernel) (by decide +kernel)
theorem ix_w252 : ∀ w ∈ ix_mw ix_m252, w ∈ ix_tb := ix_mem_p [1541, 149, 1540, 51] (by decide +kernel) (ix_mw_use _)
set_option maxRecDepth 100000 in
theorem ix_g253 : ix_Gd ix_m253 := ix_Gd_of [] (by decide +kernel) (by decide +kernel) (by decide +kernel) (by decide +kernel)
theorem ix_w253 : ∀ w ∈ ix_mw ix_m253, w ∈ ix_tb := ix_mem_p [1545, 149, 1544, 52] (by decide +kernel) (ix_mw_use _)
set_option maxRecDepth 100000 in
theorem ix_g254 : ix_Gd ix_m254 := ix_Gd_of [1318, 1319] (by decide +kernel) (by decide +kernel) (by decide +kernel) (by decide +kernel)
theorem ix_w254 : ∀ w ∈ ix_mw ix_m254, w ∈ ix_tb := ix_mem_p [1553, 149, 1552, 54] (by decide +kernel) (ix_mw_use _)
set_option maxRecDepth 100000 in
theorem ix_g255 : ix_Gd ix_m255 := ix_Gd_of [1333, 1317, 1334] (by decide +kernel) (by decide +kernel) (by decide +kernel) (by decide +kernel)
theorem ix_w255 : ∀ w ∈ ix_mw ix_m255, w ∈ ix_tb := ix_mem_p [1557, 149, 1556, 55] (by decide +kernel) (ix_mw_use _)
set_option maxRecDepth 100000 in
theorem ix_g256_0 : ix_Gc ix_m256 ((ix_t256.drop (32 * 0)).take 32) := ix_Gc_of [1309, 1562, 1550, 1554, 1522, 1318, 1319] (by decide +kernel) (by decide +kernel) (by decide +kernel)
set_option maxRecDepth 100000 in
theorem ix_g256_1 : ix_Gc ix_m256 ((ix_t256.drop (32 * 1)).take 32) := ix_Gc_of [1554, 1309, 1566, 1338, 1338] (by decide +kernel) (by decide +kernel) (by decide +kernel)
set_option maxRecDepth 100000 in
theorem ix_g256_2 : ix_Gc ix_m256 ((ix_t256.drop (32 * 2)).take 32) := ix_Gc_of [1570] (by decide +kernel) (by decide +kernel) (by decide +kernel)
set_option maxRecDepth 100000 in
theorem ix_g256 : ix_Gd ix_m256 := by
  refine ⟨ix_chunk (l := ix_t256) 3 (by decide +kernel) ?_, by decide +kernel⟩
  intro k hk
  rcases k with _ | _ | _ | k
  · exact ix_g256_0
  · exact ix_g256_1
  · exact ix_g256_2
  · omega
theorem ix_w256 : ∀ w ∈ ix_mw ix_m256, w ∈ ix_tb := ix_mem_p [1561, 149, 1560, 56] (by decide +kernel) (ix_mw_use _)
set_option maxRecDepth 100000 in
theorem ix_g257 : ix_Gd ix_m257 := ix_Gd_of [1340, 1586, 1340, 1340, 1550, 1340, 1586, 1340, 1570] (by decide +kernel) (by decide +kernel) (by decide +kernel) (by decide +kernel)
theorem ix_w257 : ∀ w ∈ ix_mw ix_m257, w ∈ ix_tb := ix_mem_p [1585, 149, 1584, 62] (by decide +kernel) (ix_mw_use _)
set_option maxRecDepth 100000 in
theorem ix_g258_0 : ix_Gc ix_m258 ((ix_t258.drop (32 * 0)).take 32) := ix_Gc_of [1342, 1562, 1342, 1342, 1562, 1342] (by decide +kernel) (by decide +kernel) (by decide +kernel)
set_option maxRecDepth 100000 in
theorem ix_g258_1 : ix_Gc ix_m258 ((ix_t258.drop (32 * 1)).take 32) := ix_Gc_of [1342, 1562, 1342, 1570] (by decide +kernel) (by decide +kernel) (by decide +kernel)
set_option maxRecDepth 100000 in
theorem ix_g258 : ix_Gd ix_m258 := by
  refine ⟨ix_chunk (l := ix_t258) 2 (by decide +kernel) ?_, by decide +kernel⟩
  intro k hk
  rcases k with _ | _ | k
  · exact ix_g258_0
  · exact ix_g258_1
  · omega
theorem ix_w258 : ∀ w ∈ ix_mw ix_m258, w ∈ ix_tb := ix_mem_p [1601, 149, 1600, 66] (by decide +kernel) (ix_mw_use _)
set_option maxRecDepth 100000 in
theorem ix_g259 : ix_Gd ix_m259 := ix_Gd_of [1318, 1319, 1486] (by decide +kernel) (by decide +kernel) (by decide +kernel) (by decide +kernel)
theorem ix_w259 : ∀ w ∈ ix_mw ix_m259, w ∈ ix_tb := ix_mem_p [1609, 149, 1608, 68] (by decide +kernel) (ix_mw_use _)
set_option maxRecDepth 100000 in
theorem ix_g260 : ix_Gd ix_m260 := ix_Gd_of [1614, 1574, 1574, 1319, 1522, 1614, 1626] (by decide +kernel) (by decide +kernel) (by decide +kernel) (by decide +kernel)
theorem ix_w260 : ∀ w ∈ ix_mw ix_m260, w ∈ ix_tb := ix_mem_p [1613, 149, 1612, 69] (by decide +kernel) (ix_mw_use _)
set_option maxRecDepth 100000 in
theorem ix_g261_0 : ix_Gc ix_m261 ((ix_t261.drop (32 * 0)).take 32) := ix_Gc_of [1332, 1550, 1574, 1330, 1554, 1330] (by decide +kernel) (by decide +kernel) (by decide +kernel)
set_option maxRecDepth 100000 in
theorem ix_g261_1 : ix_Gc ix_m261 ((ix_t261.drop (32 * 1)).take 32) := ix_Gc_of [1330, 1634, 1522, 1638, 1642, 1550] (by decide +kernel) (by decide +kernel) (by decide +kernel)
set_option maxRecDepth 100000 in
theorem ix_g261_2 : ix_Gc ix_m261 ((ix_t261.drop (32 * 2)).take 32) := ix_Gc_of [1642, 1634, 1522, 1550, 1642, 1642, 1634, 1522] (by decide +kernel) (by decide +kernel) (by decide +kernel)
set_option maxRecDepth 100000 in
theorem ix_g261_3 : ix_Gc ix_m261 ((ix_t261.drop (32 * 3)).take 32) := ix_Gc_of [1642, 1642, 1574, 1554, 1332, 1332, 1330, 1330] (by decide +kernel) (by decide +kernel) (by decide +kernel)
set_option maxRecDepth 100000 in
theorem ix_g261_4 : ix_Gc ix_m261 ((ix_t261.drop (32 * 4)).take 32) := ix_Gc_of [1642, 1522] (by decide +kernel) (by decide +kernel) (by decide +kernel)
set_option maxRecDepth 100000 in
theorem ix_g261 : ix_Gd ix_m261 := by
  refine ⟨ix_chunk (l := ix_t261) 5 (by decide +kernel) ?_, by decide +kernel⟩
  intro k hk
  rcases k with _ | _ | _ | _ | _ | k
  · exact ix_g261_0
  · exact ix_g261_1
  · exact ix_g261_2
  · exact ix_g261_3
  · exact ix_g261_4
  · omega
theorem ix_w261 : ∀ w ∈ ix_mw ix_m261, w ∈ ix_tb := ix_mem_p [1633, 149, 1632, 74] (by decide +kernel) (ix_mw_use _)
set_option maxRecDepth 100000 in
theorem ix_g262 : ix_Gd ix_m262 := ix_Gd_of [1318, 1319] (by decide +kernel) (by decide +kernel) (by decide +kernel) (by decide +kernel)
theorem ix_w262 : ∀ w ∈ ix_mw ix_m262, w ∈ ix_tb := ix_mem_p [1577, 149, 1576, 60] (by decide +kernel) (ix_mw_use _)
set_option maxRecDepth 100000 in
theorem ix_g263 : ix_Gd ix_m263 := ix_Gd_of [1321, 1322, 1324, 1325, 1324, 1325, 1718] (by decide +kernel) (by decide +kernel) (by decide +kernel) (by decide +kernel)
theorem ix_w263 : ∀ w ∈ ix_mw ix_m263, w ∈ ix_tb := ix_mem_p [1717, 149, 1716, 93] (by decide +kernel) (ix_mw_use _)
set_option maxRecDepth 100000 in
theorem ix_g264_0 : ix_Gc ix_m264 ((ix_t264.drop (32 * 0)).take 32) := ix_Gc_of [1326, 1326, 1344, 1326] (by decide +kernel) (by decide +kernel) (by decide +kernel)
set_option maxRecDepth 100000 in
theorem ix_g264_1 : ix_Gc ix_m264 ((ix_t264.drop (32 * 1)).take 32) := ix_Gc_of [1327, 1343, 1327, 1326, 1344] (by decide +kernel) (by decide +kernel) (by decide +kernel)
set_option maxRecDepth 100000 in
theorem ix_g264_2 : ix_Gc ix_m264 ((ix_t264.drop (32 * 2)).take 32) := ix_Gc_of [1344, 1344, 1326, 1344, 1344] (by decide +kernel) (by decide +kernel) (by decide +kernel)
set_option maxRecDepth 100000 in
theorem ix_g264_3 : ix_Gc ix_m264 ((ix_t264.drop (32 * 3)).take 32) := ix_Gc_of [1722, 1344] (by decide +kernel) (by decide +kernel) (by decide +kernel)
set_option maxRecDepth 100000 in
theorem ix_g264 : ix_Gd ix_m264 := by
  refine ⟨ix_chunk (l := ix_t264) 4 (by decide +kernel) ?_, by decide +kernel⟩
  intro k hk
  rcases k with _ | _ | _ | _ | k
  · exact ix_g264_0
  · exact ix_g264_1
  · exact ix_g264_2
  · exact ix_g264_3
  · omega
theorem ix_w264 : ∀ w ∈ ix_mw ix_m264, w ∈ ix_tb := ix_mem_p [1721, 149, 1720, 94] (by decide +kernel) (ix_mw_use _)
set_option maxRecDepth 100000 in
theorem ix_g265 : ix_Gd ix_m265 := ix_Gd_of [] (by decide +kernel) (by decide +kernel) (by decide +kernel) (by decide +kernel)
theorem ix_w265 : ∀ w ∈ ix_mw ix_m265, w ∈ ix_tb := ix_mem_p [1729, 149, 1728, 96] (by decide +kernel) (ix_mw_use _)
set_option maxRecDepth 100000 in
theorem ix_g266 : ix_Gd ix_m266 := ix_Gd_of [1309, 1338, 1590, 1694, 1694, 1311, 1311] (by decide +kernel) (by decide +kernel) (by decide +kernel) (by decide +kernel)
theorem ix_w266 : ∀ w ∈ ix_mw ix_m266, w ∈ ix_tb := ix_mem_p [1693, 149, 1692, 87] (by decide +kernel) (ix_mw_use _)
set_option maxRecDepth 100000 in
theorem ix_g267 : ix_Gd ix_m267 := ix_Gd_of [1303, 1734, 1303, 1735, 1303] (by decide +kernel) (by decide +kernel) (by decide +kernel) (by decide +kernel)
theorem ix_w267 : ∀ w ∈ ix_mw ix_m267, w ∈ ix_tb := ix_mem_p [1733, 149, 1732, 97] (by decide +kernel) (ix_mw_use _)
set_option maxRecDepth 100000 in
theorem ix_g268 : ix_Gd ix_m268 := ix_Gd_of [1481, 1481] (by decide +kernel) (by decide +kernel) (by decide +kernel) (by decide +kernel)
theorem ix_w268 : ∀ w ∈ ix_mw ix_m268, w ∈ ix_tb := ix_mem_p [1739, 149, 1738, 98] (by decide +kernel) (ix_mw_use _)
set_option maxRecDepth 100000 in
theorem ix_g269 : ix_Gd ix_m269 := ix_Gd_of [1752, 1307, 1730] (by decide +kernel) (by decide +kernel) (by decide +kernel) (by decide +kernel)
theorem ix_w269 : ∀ w ∈ ix_mw ix_m269, w ∈ ix_tb := ix_mem_p [1751, 149, 1750, 101] (by decide +kernel) (ix_mw_use _)
set_option maxRecDepth 100000 in
theorem ix_g270 : ix_Gd ix_m270 := ix_Gd_of [] (by decide +kernel) (by decide +kernel) (by decide +kernel) (by decide +kernel)
theorem ix_w270 : ∀ w ∈ ix_mw ix_m270, w ∈ ix_tb := ix_mem_p [1767, 149, 1766, 105] (by decide +kernel) (ix_mw_use _)
set_option maxRecDepth 100000 in
theorem ix_g271 : ix_Gd ix_m271 := ix_Gd_of [1481, 1590, 1481] (by decide +kernel) (by decide +kernel) (by decide +kernel) (by decide +kernel)
theorem ix_w271 : ∀ w ∈ ix_mw ix_m271, w ∈ ix_tb := ix_mem_p [1875, 149, 1874, 121] (by decide +kernel) (ix_mw_use _)
set_option maxRecDepth 100000 in
theorem ix_g272 : ix_Gd ix_m272 := ix_Gd_of [1550, 1554, 1522, 1566] (by decide +kernel) (by decide +kernel) (by decide +kernel) (by decide +kernel)
theorem ix_w272 : ∀ w ∈ ix_mw ix_m272, w ∈ ix_tb := ix_mem_p [1565, 149, 1564, 57] (by decide +kernel) (ix_mw_use _)
set_option maxRecDepth 100000 in
theorem ix_g273 : ix_Gd ix_m273 := ix_Gd_of [1318, 1554, 1319, 1486, 1554, 1319, 1522] (by decide +kernel) (by decide +kernel) (by decide +kernel) (by decide +kernel)
theorem ix_w273 : ∀ w ∈ ix_mw ix_m273, w ∈ ix_tb := ix_mem_p [1569, 149, 1568, 58] (by decide +kernel) (ix_mw_use _)
set_option maxRecDepth 100000 in
theorem ix_g274 : ix_Gd ix_m274 := ix_Gd_of [1574, 1554, 1522] (by decide +kernel) (by decide +kernel) (by decide +kernel) (by decide +kernel)
theorem ix_w274 : ∀ w ∈ ix_mw ix_m274, w ∈ ix_tb := ix_mem_p [1573, 149, 1572, 59] (by decide +kernel) (ix_mw_use _)
set_option maxRecDepth 100000 in
theorem ix_g275_0 : ix_Gc ix_m275 ((ix_t275.drop (32 * 0)).take 32) := ix_Gc_of [1522, 1318, 1319, 1309, 1319, 1590, 1319, 1590, 1554] (by decide +kernel) (by decide +kernel) (by decide +kernel)
set_option maxRecDepth 100000 in
theorem ix_g275_1 : ix_Gc ix_m275 ((ix_t275.drop (32 * 1)).take 32) := ix_Gc_of [1309, 1566, 1318] (by decide +kernel) (by decide +kernel) (by decide +kernel)
set_option maxRecDepth 100000 in
theorem ix_g275 : ix_Gd ix_m275 := by
  refine ⟨ix_chunk (l := ix_t275) 2 (by decide +kernel) ?_, by decide +kernel⟩
  intro k hk
  rcases k with _ | _ | k
  · exact ix_g275_0
  · exact ix_g275_1
  · omega
theorem ix_w275 : ∀ w ∈ ix_mw ix_m275, w ∈ ix_tb := ix_mem_p [1589, 149, 1588, 63] (by decide +kernel) (ix_mw_use _)
set_option maxRecDepth 100000 in
theorem ix_g276 : ix_Gd ix_m276 := ix_Gd_of [1618, 1574, 1574, 1574, 1522, 1318, 1554, 1319, 1554, 1618, 1626] (by decide +kernel) (by decide +kernel) (by decide +kernel) (by decide +kernel)
theorem ix_w276 : ∀ w ∈ ix_mw ix_m276, w ∈ ix_tb := ix_mem_p [1617, 149, 1616, 70] (by decide +kernel) (ix_mw_use _)
set_option maxRecDepth 100000 in
theorem ix_g277 : ix_Gd ix_m277 := ix_Gd_of [1326, 1329, 1327, 1329, 1329, 1329] (by decide +kernel) (by decide +kernel) (by decide +kernel) (by decide +kernel)
theorem ix_w277 : ∀ w ∈ ix_mw ix_m277, w ∈ ix_tb := ix_mem_p [1629, 149, 1628, 73] (by decide +kernel) (ix_mw_use _)
set_option maxRecDepth 100000 in
theorem ix_g278 : ix_Gd ix_m278 := ix_Gd_of [1331, 1332, 1332, 1332] (by decide +kernel) (by decide +kernel) (by decide +kernel) (by decide +kernel)
theorem ix_w278 : ∀ w ∈ ix_mw ix_m278, w ∈ ix_tb := ix_mem_p [1637, 149, 1636, 75] (by decide +kernel) (ix_mw_use _)
set_option maxRecDepth 100000 in
theorem ix_g279 : ix_Gd ix_m279 := ix_Gd_of [1610, 1574, 1574, 1574, 1554, 1319, 1319, 1522, 1610, 1626] (by decide +kernel) (by decide +kernel) (by decide +kernel) (by decide +kernel)
theorem ix_w279 : ∀ w ∈ ix_mw ix_m279, w ∈ ix_tb := ix_mem_p [1641, 149, 1640, 76] (by decide +kernel) (ix_mw_use _)
set_option maxRecDepth 100000 in
theorem ix_g280 : ix_Gd ix_m280 := ix_Gd_of [1332, 1331, 1332, 1332, 1332, 1626, 1330, 1330] (by decide +kernel) (by decide +kernel) (by decide +kernel) (by decide +kernel)
theorem ix_w280 : ∀ w ∈ ix_mw ix_m280, w ∈ ix_tb := ix_mem_p [1645, 149, 1644, 77] (by decide +kernel) (ix_mw_use _)
set_option maxRecDepth 100000 in
theorem ix_g281_0 : ix_Gc ix_m281 ((ix_t281.drop (32 * 0)).take 32) := ix_Gc_of [] (by decide +kernel) (by decide +kernel) (by decide +kernel)
set_option maxRecDepth 100000 in
theorem ix_g281_1 : ix_Gc ix_m281 ((ix_t281.drop (32 * 1)).take 32) := ix_Gc_of [] (by decide +kernel) (by decide +kernel) (by decide +kernel)
set_option maxRecDepth 100000 in
theorem ix_g281_2 : ix_Gc ix_m281 ((ix_t281.drop (32 * 2)).take 32) := ix_Gc_of [] (by decide +kernel) (by decide +kernel) (by decide +kernel)
set_option maxRecDepth 100000 in
theorem ix_g281 : ix_Gd ix_m281 := by
  refine ⟨ix_chunk (l := ix_t281) 3 (by decide +kernel) ?_, by decide +kernel⟩
  intro k hk
  rcases k with _ | _ | _ | k
  · exact ix_g281_0
  · exact ix_g281_1
  · exact ix_g281_2
  · omega
theorem ix_w281 : ∀ w ∈ ix_mw ix_m281, w ∈ ix_tb := ix_mem_p [1725, 149, 1724, 95] (by decide +kernel) (ix_mw_use _)
set_option maxRecDepth 100000 in
theorem ix_g282 : ix_Gd ix_m282 := ix_Gd_of [1318, 1319, 1622, 1318, 1554, 1319, 1319, 1626, 1522] (by decide +kernel) (by decide +kernel) (by decide +kernel) (by decide +kernel)
theorem ix_w282 : ∀ w ∈ ix_mw ix_m282, w ∈ ix_tb := ix_mem_p [1621, 149, 1620, 71] (by decide +kernel) (ix_mw_use _)
set_option maxRecDepth 100000 in
theorem ix_g283 : ix_Gd ix_m283 := ix_Gd_of [1486] (by decide +kernel) (by decide +kernel) (by decide +kernel) (by decide +kernel)
theorem ix_w283 : ∀ w ∈ ix_mw ix_m283, w ∈ ix_tb := ix_mem_p [1625, 149, 1624, 72] (by decide +kernel) (ix_mw_use _)
set_option maxRecDepth 100000 in
theorem ix_g284 : ix_Gd ix_m284 := ix_Gd_of [] (by decide +kernel) (by decide +kernel) (by decide +kernel) (by decide +kernel)
theorem ix_w284 : ∀ w ∈ ix_mw ix_m284, w ∈ ix_tb := ix_mem_p [353, 143, 352] (by decide +kernel) (ix_mw_use _)
set_option maxRecDepth 100000 in
theorem ix_g285 : ix_Gd ix_m285 := ix_Gd_of [] (by decide +kernel) (by decide +kernel) (by decide +kernel) (by decide +kernel)
theorem ix_w285 : ∀ w ∈ ix_mw ix_m285, w ∈ ix_tb := ix_mem_p [638, 151, 637] (by decide +kernel) (ix_mw_use _)
set_option maxRecDepth 100000 in
theorem ix_g286 : ix_Gd ix_m286 := ix_Gd_of [673, 674, 674, 675] (by decide +kernel) (by decide +kernel) (by decide +kernel) (by decide +kernel)
theorem ix_w286 : ∀ w ∈ ix_mw ix_m286, w ∈ ix_tb := ix_mem_p [672, 152, 671] (by decide +kernel) (ix_mw_use _)
set_option maxRecDepth 100000 in
theorem ix_g287 : ix_Gd ix_m287 := ix_Gd_of [1103] (by decide +kernel) (by decide +kernel) (by decide +kernel) (by decide +kernel)
theorem ix_w287 : ∀ w ∈ ix_mw ix_m287, w ∈ ix_tb := ix_mem_p [1102, 152, 1101] (by decide +kernel) (ix_mw_use _)
set_option maxRecDepth 100000 in
theorem ix_g288 : ix_Gd ix_m288 := ix_Gd_of [878] (by decide +kernel) (by decide +kernel) (by decide +kernel) (by decide +kernel)
theorem ix_w288 : ∀ w ∈ ix_mw ix_m288, w ∈ ix_tb := ix_mem_p [877, 153, 875, 876] (by decide +kernel) (ix_mw_use _)
set_option maxRecDepth 100000 in
theorem ix_g289 : ix_Gd ix_m289 := ix_Gd_of [] (by decide +kernel) (by decide +kernel) (by decide +kernel) (by decide +kernel)
theorem ix_w289 : ∀ w ∈ ix_mw ix_m289, w ∈ ix_tb := ix_mem_p [697, 151, 696] (by decide +kernel) (ix_mw_use _)
set_option maxRecDepth 100000 in
theorem ix_g290 : ix_Gd ix_m290 := ix_Gd_of [1977, 814] (by decide +kernel) (by decide +kernel) (by decide +kernel) (by decide +kernel)
theorem ix_w290 : ∀ w ∈ ix_mw ix_m290, w ∈ ix_tb := ix_mem_p [813, 153, 811, 812] (by decide +kernel) (ix_mw_use _)
set_option maxRecDepth 100000 in
theorem ix_g291 : ix_Gd ix_m291 := ix_Gd_of [824, 1977, 828, 1977] (by decide +kernel) (by decide +kernel) (by decide +kernel) (by decide +kernel)
theorem ix_w291 : ∀ w ∈ ix_mw ix_m291, w ∈ ix_tb := ix_mem_p [823, 153, 821, 822] (by decide +kernel) (ix_mw_use _)
set_option maxRecDepth 100000 in
theorem ix_g292 : ix_Gd ix_m292 := ix_Gd_of [824, 1977, 882, 883, 1977, 882] (by decide +kernel) (by decide +kernel) (by decide +kernel) (by decide +kernel)
theorem ix_w292 : ∀ w ∈ ix_mw ix_m292, w ∈ ix_tb := ix_mem_p [881, 153, 879, 880] (by decide +kernel) (ix_mw_use _)
set_option maxRecDepth 100000 in
theorem ix_g293 : ix_Gd ix_m293 := ix_Gd_of [818, 1978] (by decide +kernel) (by decide +kernel) (by decide +kernel) (by decide +kernel)
theorem ix_w293 : ∀ w ∈ ix_mw ix_m293, w ∈ ix_tb := ix_mem_p [817, 153, 815, 816] (by decide +kernel) (ix_mw_use _)
set_option maxRecDepth 100000 in
theorem ix_g294 : ix_Gd ix_m294 := ix_Gd_of [818, 1978] (by decide +kernel) (by decide +kernel) (by decide +kernel) (by decide +kernel)
theorem ix_w294 : ∀ w ∈ ix_mw ix_m294, w ∈ ix_tb := ix_mem_p [827, 153, 825, 826] (by decide +kernel) (ix_mw_use _)
set_option maxRecDepth 100000 in
theorem ix_g295 : ix_Gd ix_m295 := ix_Gd_of [831] (by decide +kernel) (by decide +kernel) (by decide +kernel) (by decide +kernel)
theorem ix_w295 : ∀ w ∈ ix_mw ix_m295, w ∈ ix_tb := ix_mem_p [830, 154, 829] (by decide +kernel) (ix_mw_use _)
set_option maxRecDepth 100000 in
theorem ix_g296 : ix_Gd ix_m296 := ix_Gd_of [886, 889, 890, 891] (by decide +kernel) (by decide +kernel) (by decide +kernel) (by decide +kernel)
theorem ix_w296 : ∀ w ∈ ix_mw ix_m296, w ∈ ix_tb := ix_mem_p [885, 154, 884] (by decide +kernel) (ix_mw_use _)
set_option maxRecDepth 100000 in
theorem ix_g297 : ix_Gd ix_m297 := ix_Gd_of [] (by decide +kernel) (by decide +kernel) (by decide +kernel) (by decide +kernel)
theorem ix_w297 : ∀ w ∈ ix_mw ix_m297, w ∈ ix_tb := ix_mem_p [888, 154, 887] (by decide +kernel) (ix_mw_use _)
set_option maxRecDepth 100000 in
theorem ix_g298 : ix_Gd ix_m298 := ix_Gd_of [] (by decide +kernel) (by decide +kernel) (by decide +kernel) (by decide +kernel)
theorem ix_w298 : ∀ w ∈ ix_mw ix_m298, w ∈ ix_tb := ix_mem_p [893, 154, 892] (by decide +kernel) (ix_mw_use _)
set_option maxRecDepth 100000 in
theorem ix_g299 : ix_Gd ix_m299 := ix_Gd_of [834, 836] (by decide +kernel) (by decide +kernel) (by decide +kernel) (by decide +kernel)
theorem ix_w299 : ∀ w ∈ ix_mw ix_m299, w ∈ ix_tb := ix_mem_p [833, 153, 832] (by decide +kernel) (ix_mw_use _)
set_option maxRecDepth 100000 in
theorem ix_g300 : ix_Gd ix_m300 := ix_Gd_of [] (by decide +kernel) (by decide +kernel) (by decide +kernel) (by decide +kernel)
theorem ix_w300 : ∀ w ∈ ix_mw ix_m300, w ∈ ix_tb := ix_mem_p [838, 155, 837] (by decide +kernel) (ix_mw_use _)
