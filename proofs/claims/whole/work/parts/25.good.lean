set_option maxRecDepth 100000 in
theorem ix_g157 : ix_Gd ix_m157 := ix_Gd_of [1302, 1303, 1303, 1305] (by decide +kernel) (by decide +kernel) (by decide +kernel) (by decide +kernel)
theorem ix_w157 : ∀ w ∈ ix_mw ix_m157, w ∈ ix_tb := ix_mem_p [1472, 149, 1470, 1471] (by decide +kernel) (ix_mw_use _)
set_option maxRecDepth 100000 in
theorem ix_g158_0 : ix_Gc ix_m158 ((ix_t158.drop (32 * 0)).take 32) := ix_Gc_of [1302, 1477, 1486, 1486, 1309, 1309, 1303] (by decide +kernel) (by decide +kernel) (by decide +kernel)
set_option maxRecDepth 100000 in
theorem ix_g158_1 : ix_Gc ix_m158 ((ix_t158.drop (32 * 1)).take 32) := ix_Gc_of [1303, 1303, 1303, 1310] (by decide +kernel) (by decide +kernel) (by decide +kernel)
set_option maxRecDepth 100000 in
theorem ix_g158_2 : ix_Gc ix_m158 ((ix_t158.drop (32 * 2)).take 32) := ix_Gc_of [1311, 1312, 1309, 1305] (by decide +kernel) (by decide +kernel) (by decide +kernel)
set_option maxRecDepth 100000 in
theorem ix_g158 : ix_Gd ix_m158 := by
  refine ⟨ix_chunk (l := ix_t158) 3 (by decide +kernel) ?_, by decide +kernel⟩
  intro k hk
  rcases k with _ | _ | _ | k
  · exact ix_g158_0
  · exact ix_g158_1
  · exact ix_g158_2
  · omega
theorem ix_w158 : ∀ w ∈ ix_mw ix_m158, w ∈ ix_tb := ix_mem_p [1476, 149, 1474, 1475] (by decide +kernel) (ix_mw_use _)
set_option maxRecDepth 100000 in
theorem ix_g159_0 : ix_Gc ix_m159 ((ix_t159.drop (32 * 0)).take 32) := ix_Gc_of [1302, 1494, 1308, 1303, 1303] (by decide +kernel) (by decide +kernel) (by decide +kernel)
set_option maxRecDepth 100000 in
theorem ix_g159_1 : ix_Gc ix_m159 ((ix_t159.drop (32 * 1)).take 32) := ix_Gc_of [1303, 1311, 1312, 1305] (by decide +kernel) (by decide +kernel) (by decide +kernel)
set_option maxRecDepth 100000 in
theorem ix_g159 : ix_Gd ix_m159 := by
  refine ⟨ix_chunk (l := ix_t159) 2 (by decide +kernel) ?_, by decide +kernel⟩
  intro k hk
  rcases k with _ | _ | k
  · exact ix_g159_0
  · exact ix_g159_1
  · omega
theorem ix_w159 : ∀ w ∈ ix_mw ix_m159, w ∈ ix_tb := ix_mem_p [1493, 149, 1491, 1492] (by decide +kernel) (ix_mw_use _)
set_option maxRecDepth 100000 in
theorem ix_g160 : ix_Gd ix_m160 := ix_Gd_of [1302, 1662, 1674, 1678] (by decide +kernel) (by decide +kernel) (by decide +kernel) (by decide +kernel)
theorem ix_w160 : ∀ w ∈ ix_mw ix_m160, w ∈ ix_tb := ix_mem_p [1661, 149, 1659, 1660] (by decide +kernel) (ix_mw_use _)
set_option maxRecDepth 100000 in
theorem ix_g161 : ix_Gd ix_m161 := ix_Gd_of [1302, 1498, 1303, 1674, 1784, 1303] (by decide +kernel) (by decide +kernel) (by decide +kernel) (by decide +kernel)
theorem ix_w161 : ∀ w ∈ ix_mw ix_m161, w ∈ ix_tb := ix_mem_p [1783, 149, 1781, 1782] (by decide +kernel) (ix_mw_use _)
set_option maxRecDepth 100000 in
theorem ix_g162 : ix_Gd ix_m162 := ix_Gd_of [1302, 1674, 1339, 1340, 1666, 1678, 1309, 1340, 1590, 1784] (by decide +kernel) (by decide +kernel) (by decide +kernel) (by decide +kernel)
theorem ix_w162 : ∀ w ∈ ix_mw ix_m162, w ∈ ix_tb := ix_mem_p [1791, 149, 1789, 1790] (by decide +kernel) (ix_mw_use _)
set_option maxRecDepth 100000 in
theorem ix_g163 : ix_Gd ix_m163 := ix_Gd_of [1302, 1315, 1506, 1506, 1506, 1506, 1506, 1315] (by decide +kernel) (by decide +kernel) (by decide +kernel) (by decide +kernel)
theorem ix_w163 : ∀ w ∈ ix_mw ix_m163, w ∈ ix_tb := ix_mem_p [1505, 149, 1503, 1504] (by decide +kernel) (ix_mw_use _)
set_option maxRecDepth 100000 in
theorem ix_g164 : ix_Gd ix_m164 := ix_Gd_of [1302, 1315, 1486, 1315] (by decide +kernel) (by decide +kernel) (by decide +kernel) (by decide +kernel)
theorem ix_w164 : ∀ w ∈ ix_mw ix_m164, w ∈ ix_tb := ix_mem_p [1513, 149, 1511, 1512] (by decide +kernel) (ix_mw_use _)
set_option maxRecDepth 100000 in
theorem ix_g165_0 : ix_Gc ix_m165 ((ix_t165.drop (32 * 0)).take 32) := ix_Gc_of [1302, 1335, 1336, 1316, 1329, 1330, 1486, 1518] (by decide +kernel) (by decide +kernel) (by decide +kernel)
set_option maxRecDepth 100000 in
theorem ix_g165_1 : ix_Gc ix_m165 ((ix_t165.drop (32 * 1)).take 32) := ix_Gc_of [1333, 1335, 1334, 1336, 1315, 1646, 1650] (by decide +kernel) (by decide +kernel) (by decide +kernel)
set_option maxRecDepth 100000 in
theorem ix_g165 : ix_Gd ix_m165 := by
  refine ⟨ix_chunk (l := ix_t165) 2 (by decide +kernel) ?_, by decide +kernel⟩
  intro k hk
  rcases k with _ | _ | k
  · exact ix_g165_0
  · exact ix_g165_1
  · omega
theorem ix_w165 : ∀ w ∈ ix_mw ix_m165, w ∈ ix_tb := ix_mem_p [1517, 149, 1515, 1516] (by decide +kernel) (ix_mw_use _)
set_option maxRecDepth 100000 in
theorem ix_g166 : ix_Gd ix_m166 := ix_Gd_of [1302, 1335, 1336] (by decide +kernel) (by decide +kernel) (by decide +kernel) (by decide +kernel)
theorem ix_w166 : ∀ w ∈ ix_mw ix_m166, w ∈ ix_tb := ix_mem_p [1657, 149, 1655, 1656] (by decide +kernel) (ix_mw_use _)
set_option maxRecDepth 100000 in
theorem ix_g167_0 : ix_Gc ix_m167 ((ix_t167.drop (32 * 0)).take 32) := ix_Gc_of [1302, 1498, 1303, 1310, 1311] (by decide +kernel) (by decide +kernel) (by decide +kernel)
set_option maxRecDepth 100000 in
theorem ix_g167_1 : ix_Gc ix_m167 ((ix_t167.drop (32 * 1)).take 32) := ix_Gc_of [1312, 1303, 1303] (by decide +kernel) (by decide +kernel) (by decide +kernel)
set_option maxRecDepth 100000 in
theorem ix_g167_2 : ix_Gc ix_m167 ((ix_t167.drop (32 * 2)).take 32) := ix_Gc_of [1303, 1338, 1796, 1666] (by decide +kernel) (by decide +kernel) (by decide +kernel)
set_option maxRecDepth 100000 in
theorem ix_g167_3 : ix_Gc ix_m167 ((ix_t167.drop (32 * 3)).take 32) := ix_Gc_of [1752] (by decide +kernel) (by decide +kernel) (by decide +kernel)
set_option maxRecDepth 100000 in
theorem ix_g167 : ix_Gd ix_m167 := by
  refine ⟨ix_chunk (l := ix_t167) 4 (by decide +kernel) ?_, by decide +kernel⟩
  intro k hk
  rcases k with _ | _ | _ | _ | k
  · exact ix_g167_0
  · exact ix_g167_1
  · exact ix_g167_2
  · exact ix_g167_3
  · omega
theorem ix_w167 : ∀ w ∈ ix_mw ix_m167, w ∈ ix_tb := ix_mem_p [1795, 149, 1793, 1794] (by decide +kernel) (ix_mw_use _)
set_option maxRecDepth 100000 in
theorem ix_g168 : ix_Gd ix_m168 := ix_Gd_of [1302, 1498, 1498, 1666, 1698] (by decide +kernel) (by decide +kernel) (by decide +kernel) (by decide +kernel)
theorem ix_w168 : ∀ w ∈ ix_mw ix_m168, w ∈ ix_tb := ix_mem_p [1803, 149, 1801, 1802] (by decide +kernel) (ix_mw_use _)
set_option maxRecDepth 100000 in
theorem ix_g169 : ix_Gd ix_m169 := ix_Gd_of [1302, 1486, 1486, 1776, 1342, 1776] (by decide +kernel) (by decide +kernel) (by decide +kernel) (by decide +kernel)
theorem ix_w169 : ∀ w ∈ ix_mw ix_m169, w ∈ ix_tb := ix_mem_p [1807, 149, 1805, 1806] (by decide +kernel) (ix_mw_use _)
set_option maxRecDepth 100000 in
theorem ix_g170 : ix_Gd ix_m170 := ix_Gd_of [1302, 1303, 1486, 1486, 1313] (by decide +kernel) (by decide +kernel) (by decide +kernel) (by decide +kernel)
theorem ix_w170 : ∀ w ∈ ix_mw ix_m170, w ∈ ix_tb := ix_mem_p [1811, 149, 1809, 1810] (by decide +kernel) (ix_mw_use _)
set_option maxRecDepth 100000 in
theorem ix_g171 : ix_Gd ix_m171 := ix_Gd_of [1302, 1662, 1486, 1816, 1682, 1820, 1345, 1346] (by decide +kernel) (by decide +kernel) (by decide +kernel) (by decide +kernel)
theorem ix_w171 : ∀ w ∈ ix_mw ix_m171, w ∈ ix_tb := ix_mem_p [1815, 149, 1813, 1814] (by decide +kernel) (ix_mw_use _)
set_option maxRecDepth 100000 in
theorem ix_g172_0 : ix_Gc ix_m172 ((ix_t172.drop (32 * 0)).take 32) := ix_Gc_of [1302, 1486, 1486, 1828, 1666] (by decide +kernel) (by decide +kernel) (by decide +kernel)
set_option maxRecDepth 100000 in
theorem ix_g172_1 : ix_Gc ix_m172 ((ix_t172.drop (32 * 1)).take 32) := ix_Gc_of [1706, 1706, 1832] (by decide +kernel) (by decide +kernel) (by decide +kernel)
set_option maxRecDepth 100000 in
theorem ix_g172_2 : ix_Gc ix_m172 ((ix_t172.drop (32 * 2)).take 32) := ix_Gc_of [1706] (by decide +kernel) (by decide +kernel) (by decide +kernel)
set_option maxRecDepth 100000 in
theorem ix_g172 : ix_Gd ix_m172 := by
  refine ⟨ix_chunk (l := ix_t172) 3 (by decide +kernel) ?_, by decide +kernel⟩
  intro k hk
  rcases k with _ | _ | _ | k
  · exact ix_g172_0
  · exact ix_g172_1
  · exact ix_g172_2
  · omega
theorem ix_w172 : ∀ w ∈ ix_mw ix_m172, w ∈ ix_tb := ix_mem_p [1827, 149, 1825, 1826] (by decide +kernel) (ix_mw_use _)
set_option maxRecDepth 100000 in
theorem ix_g173_0 : ix_Gc ix_m173 ((ix_t173.drop (32 * 0)).take 32) := ix_Gc_of [1302, 1498, 1303, 1828, 1666] (by decide +kernel) (by decide +kernel) (by decide +kernel)
set_option maxRecDepth 100000 in
theorem ix_g173_1 : ix_Gc ix_m173 ((ix_t173.drop (32 * 1)).take 32) := ix_Gc_of [1832, 1832] (by decide +kernel) (by decide +kernel) (by decide +kernel)
set_option maxRecDepth 100000 in
theorem ix_g173 : ix_Gd ix_m173 := by
  refine ⟨ix_chunk (l := ix_t173) 2 (by decide +kernel) ?_, by decide +kernel⟩
  intro k hk
  rcases k with _ | _ | k
  · exact ix_g173_0
  · exact ix_g173_1
  · omega
theorem ix_w173 : ∀ w ∈ ix_mw ix_m173, w ∈ ix_tb := ix_mem_p [1839, 149, 1837, 1838] (by decide +kernel) (ix_mw_use _)
set_option maxRecDepth 100000 in
theorem ix_g174 : ix_Gd ix_m174 := ix_Gd_of [1302, 1486, 1486, 1828, 1844] (by decide +kernel) (by decide +kernel) (by decide +kernel) (by decide +kernel)
theorem ix_w174 : ∀ w ∈ ix_mw ix_m174, w ∈ ix_tb := ix_mem_p [1843, 149, 1841, 1842] (by decide +kernel) (ix_mw_use _)
set_option maxRecDepth 100000 in
theorem ix_g175 : ix_Gd ix_m175 := ix_Gd_of [1302, 1828, 1860, 1864, 1486, 1876, 1486, 1880] (by decide +kernel) (by decide +kernel) (by decide +kernel) (by decide +kernel)
theorem ix_w175 : ∀ w ∈ ix_mw ix_m175, w ∈ ix_tb := ix_mem_p [1859, 149, 1857, 1858] (by decide +kernel) (ix_mw_use _)
set_option maxRecDepth 100000 in
theorem ix_g176 : ix_Gd ix_m176 := ix_Gd_of [1302, 1486, 1486, 1892, 1896] (by decide +kernel) (by decide +kernel) (by decide +kernel) (by decide +kernel)
theorem ix_w176 : ∀ w ∈ ix_mw ix_m176, w ∈ ix_tb := ix_mem_p [1891, 149, 1889, 1890] (by decide +kernel) (ix_mw_use _)
set_option maxRecDepth 100000 in
theorem ix_g177 : ix_Gd ix_m177 := ix_Gd_of [1302, 1498, 1904, 1904] (by decide +kernel) (by decide +kernel) (by decide +kernel) (by decide +kernel)
theorem ix_w177 : ∀ w ∈ ix_mw ix_m177, w ∈ ix_tb := ix_mem_p [1903, 149, 1901, 1902] (by decide +kernel) (ix_mw_use _)
set_option maxRecDepth 100000 in
theorem ix_g178_0 : ix_Gc ix_m178 ((ix_t178.drop (32 * 0)).take 32) := ix_Gc_of [1302, 1498, 1498, 1303, 1303] (by decide +kernel) (by decide +kernel) (by decide +kernel)
set_option maxRecDepth 100000 in
theorem ix_g178_1 : ix_Gc ix_m178 ((ix_t178.drop (32 * 1)).take 32) := ix_Gc_of [1912, 1916, 1309, 1303, 1303] (by decide +kernel) (by decide +kernel) (by decide +kernel)
set_option maxRecDepth 100000 in
theorem ix_g178_2 : ix_Gc ix_m178 ((ix_t178.drop (32 * 2)).take 32) := ix_Gc_of [1303, 1912, 1768] (by decide +kernel) (by decide +kernel) (by decide +kernel)
set_option maxRecDepth 100000 in
theorem ix_g178 : ix_Gd ix_m178 := by
  refine ⟨ix_chunk (l := ix_t178) 3 (by decide +kernel) ?_, by decide +kernel⟩
  intro k hk
  rcases k with _ | _ | _ | k
  · exact ix_g178_0
  · exact ix_g178_1
  · exact ix_g178_2
  · omega
theorem ix_w178 : ∀ w ∈ ix_mw ix_m178, w ∈ ix_tb := ix_mem_p [1911, 149, 1909, 1910] (by decide +kernel) (ix_mw_use _)
set_option maxRecDepth 100000 in
theorem ix_g179 : ix_Gd ix_m179 := ix_Gd_of [1302, 1486, 1916, 1485, 1477, 1921, 1768] (by decide +kernel) (by decide +kernel) (by decide +kernel) (by decide +kernel)
theorem ix_w179 : ∀ w ∈ ix_mw ix_m179, w ∈ ix_tb := ix_mem_p [1920, 149, 1918, 1919] (by decide +kernel) (ix_mw_use _)
set_option maxRecDepth 100000 in
theorem ix_g180 : ix_Gd ix_m180 := ix_Gd_of [1302, 1349, 1486, 1349, 1350, 1349, 1349, 1349, 1349] (by decide +kernel) (by decide +kernel) (by decide +kernel) (by decide +kernel)
theorem ix_w180 : ∀ w ∈ ix_mw ix_m180, w ∈ ix_tb := ix_mem_p [1928, 149, 1926, 1927] (by decide +kernel) (ix_mw_use _)
set_option maxRecDepth 100000 in
theorem ix_g181 : ix_Gd ix_m181 := ix_Gd_of [1302, 1486, 1933] (by decide +kernel) (by decide +kernel) (by decide +kernel) (by decide +kernel)
theorem ix_w181 : ∀ w ∈ ix_mw ix_m181, w ∈ ix_tb := ix_mem_p [1932, 149, 1930, 1931] (by decide +kernel) (ix_mw_use _)
set_option maxRecDepth 100000 in
theorem ix_g182 : ix_Gd ix_m182 := ix_Gd_of [1302, 1486, 1486, 1351] (by decide +kernel) (by decide +kernel) (by decide +kernel) (by decide +kernel)
theorem ix_w182 : ∀ w ∈ ix_mw ix_m182, w ∈ ix_tb := ix_mem_p [1940, 149, 1938, 1939] (by decide +kernel) (ix_mw_use _)
set_option maxRecDepth 100000 in
theorem ix_g183_0 : ix_Gc ix_m183 ((ix_t183.drop (32 * 0)).take 32) := ix_Gc_of [1302, 1486, 1486, 1828, 1666] (by decide +kernel) (by decide +kernel) (by decide +kernel)
set_option maxRecDepth 100000 in
theorem ix_g183_1 : ix_Gc ix_m183 ((ix_t183.drop (32 * 1)).take 32) := ix_Gc_of [1945, 1945, 1832] (by decide +kernel) (by decide +kernel) (by decide +kernel)
set_option maxRecDepth 100000 in
theorem ix_g183_2 : ix_Gc ix_m183 ((ix_t183.drop (32 * 2)).take 32) := ix_Gc_of [1945] (by decide +kernel) (by decide +kernel) (by decide +kernel)
set_option maxRecDepth 100000 in
theorem ix_g183 : ix_Gd ix_m183 := by
  refine ⟨ix_chunk (l := ix_t183) 3 (by decide +kernel) ?_, by decide +kernel⟩
  intro k hk
  rcases k with _ | _ | _ | k
  · exact ix_g183_0
  · exact ix_g183_1
  · exact ix_g183_2
  · omega
theorem ix_w183 : ∀ w ∈ ix_mw ix_m183, w ∈ ix_tb := ix_mem_p [1944, 149, 1942, 1943] (by decide +kernel) (ix_mw_use _)
set_option maxRecDepth 100000 in
theorem ix_g184_0 : ix_Gc ix_m184 ((ix_t184.drop (32 * 0)).take 32) := ix_Gc_of [1302, 1486, 1828, 1666, 1309, 1590] (by decide +kernel) (by decide +kernel) (by decide +kernel)
set_option maxRecDepth 100000 in
theorem ix_g184_1 : ix_Gc ix_m184 ((ix_t184.drop (32 * 1)).take 32) := ix_Gc_of [1347, 1953, 1309, 1590, 1347, 1347, 1953] (by decide +kernel) (by decide +kernel) (by decide +kernel)
set_option maxRecDepth 100000 in
theorem ix_g184_2 : ix_Gc ix_m184 ((ix_t184.drop (32 * 2)).take 32) := ix_Gc_of [1347, 1953, 1347] (by decide +kernel) (by decide +kernel) (by decide +kernel)
set_option maxRecDepth 100000 in
theorem ix_g184_3 : ix_Gc ix_m184 ((ix_t184.drop (32 * 3)).take 32) := ix_Gc_of [] (by decide +kernel) (by decide +kernel) (by decide +kernel)
set_option maxRecDepth 100000 in
theorem ix_g184 : ix_Gd ix_m184 := by
  refine ⟨ix_chunk (l := ix_t184) 4 (by decide +kernel) ?_, by decide +kernel⟩
  intro k hk
  rcases k with _ | _ | _ | _ | k
  · exact ix_g184_0
  · exact ix_g184_1
  · exact ix_g184_2
  · exact ix_g184_3
  · omega
theorem ix_w184 : ∀ w ∈ ix_mw ix_m184, w ∈ ix_tb := ix_mem_p [1952, 149, 1950, 1951] (by decide +kernel) (ix_mw_use _)
set_option maxRecDepth 100000 in
theorem ix_g185 : ix_Gd ix_m185 := ix_Gd_of [1302, 1305, 1305, 1305, 1303, 1304, 1305] (by decide +kernel) (by decide +kernel) (by decide +kernel) (by decide +kernel)
theorem ix_w185 : ∀ w ∈ ix_mw ix_m185, w ∈ ix_tb := ix_mem_p [1468, 149, 1466, 1467] (by decide +kernel) (ix_mw_use _)
set_option maxRecDepth 100000 in
theorem ix_g186_0 : ix_Gc ix_m186 ((ix_t186.drop (32 * 0)).take 32) := ix_Gc_of [1302, 1353, 1352, 1353, 1354, 1303, 1303] (by decide +kernel) (by decide +kernel) (by decide +kernel)
set_option maxRecDepth 100000 in
theorem ix_g186_1 : ix_Gc ix_m186 ((ix_t186.drop (32 * 1)).take 32) := ix_Gc_of [1961, 1965, 1313, 1313, 1961, 1969, 1305] (by decide +kernel) (by decide +kernel) (by decide +kernel)
set_option maxRecDepth 100000 in
theorem ix_g186 : ix_Gd ix_m186 := by
  refine ⟨ix_chunk (l := ix_t186) 2 (by decide +kernel) ?_, by decide +kernel⟩
  intro k hk
  rcases k with _ | _ | k
  · exact ix_g186_0
  · exact ix_g186_1
  · omega
theorem ix_w186 : ∀ w ∈ ix_mw ix_m186, w ∈ ix_tb := ix_mem_p [1960, 149, 1958, 1959] (by decide +kernel) (ix_mw_use _)
set_option maxRecDepth 100000 in
theorem ix_g187_0 : ix_Gc ix_m187 ((ix_t187.drop (32 * 0)).take 32) := ix_Gc_of [1302, 1309, 1303, 1303, 1308] (by decide +kernel) (by decide +kernel) (by decide +kernel)
set_option maxRecDepth 100000 in
theorem ix_g187_1 : ix_Gc ix_m187 ((ix_t187.drop (32 * 1)).take 32) := ix_Gc_of [1303, 1303, 1670, 1303] (by decide +kernel) (by decide +kernel) (by decide +kernel)
set_option maxRecDepth 100000 in
theorem ix_g187_2 : ix_Gc ix_m187 ((ix_t187.drop (32 * 2)).take 32) := ix_Gc_of [1303, 1321, 1337, 1339, 1341] (by decide +kernel) (by decide +kernel) (by decide +kernel)
set_option maxRecDepth 100000 in
theorem ix_g187_3 : ix_Gc ix_m187 ((ix_t187.drop (32 * 3)).take 32) := ix_Gc_of [1349, 1305] (by decide +kernel) (by decide +kernel) (by decide +kernel)
set_option maxRecDepth 100000 in
theorem ix_g187 : ix_Gd ix_m187 := by
  refine ⟨ix_chunk (l := ix_t187) 4 (by decide +kernel) ?_, by decide +kernel⟩
  intro k hk
  rcases k with _ | _ | _ | _ | k
  · exact ix_g187_0
  · exact ix_g187_1
  · exact ix_g187_2
  · exact ix_g187_3
  · omega
theorem ix_w187 : ∀ w ∈ ix_mw ix_m187, w ∈ ix_tb := ix_mem_p [1976, 149, 1974, 1975] (by decide +kernel) (ix_mw_use _)
set_option maxRecDepth 100000 in
theorem ix_g188 : ix_Gd ix_m188 := ix_Gd_of [1481, 1485, 1486] (by decide +kernel) (by decide +kernel) (by decide +kernel) (by decide +kernel)
theorem ix_w188 : ∀ w ∈ ix_mw ix_m188, w ∈ ix_tb := ix_mem_p [1480, 149, 1479, 40] (by decide +kernel) (ix_mw_use _)
set_option maxRecDepth 100000 in
theorem ix_g189 : ix_Gd ix_m189 := ix_Gd_of [] (by decide +kernel) (by decide +kernel) (by decide +kernel) (by decide +kernel)
theorem ix_w189 : ∀ w ∈ ix_mw ix_m189, w ∈ ix_tb := ix_mem_p [1489, 149, 1488, 42] (by decide +kernel) (ix_mw_use _)
set_option maxRecDepth 100000 in
theorem ix_g190_0 : ix_Gc ix_m190 ((ix_t190.drop (32 * 0)).take 32) := ix_Gc_of [1486, 1486, 1486, 1498] (by decide +kernel) (by decide +kernel) (by decide +kernel)
set_option maxRecDepth 100000 in
theorem ix_g190_1 : ix_Gc ix_m190 ((ix_t190.drop (32 * 1)).take 32) := ix_Gc_of [1477, 1486, 1498, 1486] (by decide +kernel) (by decide +kernel) (by decide +kernel)
set_option maxRecDepth 100000 in
theorem ix_g190 : ix_Gd ix_m190 := by
  refine ⟨ix_chunk (l := ix_t190) 2 (by decide +kernel) ?_, by decide +kernel⟩
  intro k hk
  rcases k with _ | _ | k
  · exact ix_g190_0
  · exact ix_g190_1
  · omega
theorem ix_w190 : ∀ w ∈ ix_mw ix_m190, w ∈ ix_tb := ix_mem_p [1497, 149, 1496, 43] (by decide +kernel) (ix_mw_use _)
set_option maxRecDepth 100000 in
theorem ix_g191 : ix_Gd ix_m191 := ix_Gd_of [1666] (by decide +kernel) (by decide +kernel) (by decide +kernel) (by decide +kernel)
theorem ix_w191 : ∀ w ∈ ix_mw ix_m191, w ∈ ix_tb := ix_mem_p [1665, 149, 1664, 80] (by decide +kernel) (ix_mw_use _)
set_option maxRecDepth 100000 in
theorem ix_g192 : ix_Gd ix_m192 := ix_Gd_of [1305, 1305, 1305, 1305, 1304, 1304, 1304, 1305, 1303, 1305, 1305] (by decide +kernel) (by decide +kernel) (by decide +kernel) (by decide +kernel)
theorem ix_w192 : ∀ w ∈ ix_mw ix_m192, w ∈ ix_tb := ix_mem_p [1677, 149, 1676, 83] (by decide +kernel) (ix_mw_use _)
set_option maxRecDepth 100000 in
theorem ix_g193_0 : ix_Gc ix_m193 ((ix_t193.drop (32 * 0)).take 32) := ix_Gc_of [1682, 1303, 1303, 1303, 1768, 1303] (by decide +kernel) (by decide +kernel) (by decide +kernel)
set_option maxRecDepth 100000 in
theorem ix_g193_1 : ix_Gc ix_m193 ((ix_t193.drop (32 * 1)).take 32) := ix_Gc_of [1740, 1303, 1772, 1303, 1342, 1776, 1303] (by decide +kernel) (by decide +kernel) (by decide +kernel)
set_option maxRecDepth 100000 in
theorem ix_g193_2 : ix_Gc ix_m193 ((ix_t193.drop (32 * 2)).take 32) := ix_Gc_of [1303, 1740, 1303, 1303, 1303, 1303, 1308, 1303] (by decide +kernel) (by decide +kernel) (by decide +kernel)
set_option maxRecDepth 100000 in
theorem ix_g193 : ix_Gd ix_m193 := by
  refine ⟨ix_chunk (l := ix_t193) 3 (by decide +kernel) ?_, by decide +kernel⟩
  intro k hk
  rcases k with _ | _ | _ | k
  · exact ix_g193_0
  · exact ix_g193_1
  · exact ix_g193_2
  · omega
theorem ix_w193 : ∀ w ∈ ix_mw ix_m193, w ∈ ix_tb := ix_mem_p [1681, 149, 1680, 84] (by decide +kernel) (ix_mw_use _)
set_option maxRecDepth 100000 in
theorem ix_g194 : ix_Gd ix_m194 := ix_Gd_of [1309] (by decide +kernel) (by decide +kernel) (by decide +kernel) (by decide +kernel)
theorem ix_w194 : ∀ w ∈ ix_mw ix_m194, w ∈ ix_tb := ix_mem_p [1501, 149, 1500, 44] (by decide +kernel) (ix_mw_use _)
set_option maxRecDepth 100000 in
theorem ix_g195 : ix_Gd ix_m195 := ix_Gd_of [1303, 1303, 1740] (by decide +kernel) (by decide +kernel) (by decide +kernel) (by decide +kernel)
theorem ix_w195 : ∀ w ∈ ix_mw ix_m195, w ∈ ix_tb := ix_mem_p [1787, 149, 1786, 109] (by decide +kernel) (ix_mw_use _)
set_option maxRecDepth 100000 in
theorem ix_g196 : ix_Gd ix_m196 := ix_Gd_of [1309, 1670] (by decide +kernel) (by decide +kernel) (by decide +kernel) (by decide +kernel)
theorem ix_w196 : ∀ w ∈ ix_mw ix_m196, w ∈ ix_tb := ix_mem_p [1669, 149, 1668, 81] (by decide +kernel) (ix_mw_use _)
set_option maxRecDepth 100000 in
theorem ix_g197 : ix_Gd ix_m197 := ix_Gd_of [] (by decide +kernel) (by decide +kernel) (by decide +kernel) (by decide +kernel)
theorem ix_w197 : ∀ w ∈ ix_mw ix_m197, w ∈ ix_tb := ix_mem_p [1593, 149, 1592, 64] (by decide +kernel) (ix_mw_use _)
set_option maxRecDepth 100000 in
theorem ix_g198 : ix_Gd ix_m198 := ix_Gd_of [1314, 1315, 1315, 1315] (by decide +kernel) (by decide +kernel) (by decide +kernel) (by decide +kernel)
theorem ix_w198 : ∀ w ∈ ix_mw ix_m198, w ∈ ix_tb := ix_mem_p [1509, 149, 1508, 45] (by decide +kernel) (ix_mw_use _)
set_option maxRecDepth 100000 in
theorem ix_g199 : ix_Gd ix_m199 := ix_Gd_of [1328, 1522, 1546, 1578, 1594, 1602] (by decide +kernel) (by decide +kernel) (by decide +kernel) (by decide +kernel)
theorem ix_w199 : ∀ w ∈ ix_mw ix_m199, w ∈ ix_tb := ix_mem_p [1521, 149, 1520, 46] (by decide +kernel) (ix_mw_use _)
set_option maxRecDepth 100000 in
theorem ix_g200_0 : ix_Gc ix_m200 ((ix_t200.drop (32 * 0)).take 32) := ix_Gc_of [1322, 1328, 1322, 1323, 1328, 1323] (by decide +kernel) (by decide +kernel) (by decide +kernel)
set_option maxRecDepth 100000 in
theorem ix_g200_1 : ix_Gc ix_m200 ((ix_t200.drop (32 * 1)).take 32) := ix_Gc_of [1324, 1328, 1324, 1325, 1328, 1325] (by decide +kernel) (by decide +kernel) (by decide +kernel)
set_option maxRecDepth 100000 in
theorem ix_g200_2 : ix_Gc ix_m200 ((ix_t200.drop (32 * 2)).take 32) := ix_Gc_of [1329, 1326, 1328, 1326, 1327, 1328] (by decide +kernel) (by decide +kernel) (by decide +kernel)
set_option maxRecDepth 100000 in
theorem ix_g200_3 : ix_Gc ix_m200 ((ix_t200.drop (32 * 3)).take 32) := ix_Gc_of [1327, 1321, 1328] (by decide +kernel) (by decide +kernel) (by decide +kernel)
set_option maxRecDepth 100000 in
theorem ix_g200 : ix_Gd ix_m200 := by
  refine ⟨ix_chunk (l := ix_t200) 4 (by decide +kernel) ?_, by decide +kernel⟩
  intro k hk
  rcases k with _ | _ | _ | _ | k
  · exact ix_g200_0
  · exact ix_g200_1
  · exact ix_g200_2
  · exact ix_g200_3
  · omega
theorem ix_w200 : ∀ w ∈ ix_mw ix_m200, w ∈ ix_tb := ix_mem_p [1649, 149, 1648, 78] (by decide +kernel) (ix_mw_use _)
set_option maxRecDepth 100000 in
theorem ix_g201_0 : ix_Gc ix_m201 ((ix_t201.drop (32 * 0)).take 32) := ix_Gc_of [1342, 1342, 1341] (by decide +kernel) (by decide +kernel) (by decide +kernel)
set_option maxRecDepth 100000 in
theorem ix_g201_1 : ix_Gc ix_m201 ((ix_t201.drop (32 * 1)).take 32) := ix_Gc_of [1338, 1338, 1337, 1340, 1340] (by decide +kernel) (by decide +kernel) (by decide +kernel)
set_option maxRecDepth 100000 in
theorem ix_g201_2 : ix_Gc ix_m201 ((ix_t201.drop (32 * 2)).take 32) := ix_Gc_of [1339, 1305] (by decide +kernel) (by decide +kernel) (by decide +kernel)
set_option maxRecDepth 100000 in
theorem ix_g201 : ix_Gd ix_m201 := by
  refine ⟨ix_chunk (l := ix_t201) 3 (by decide +kernel) ?_, by decide +kernel⟩
  intro k hk
  rcases k with _ | _ | _ | k
  · exact ix_g201_0
  · exact ix_g201_1
  · exact ix_g201_2
  · omega
theorem ix_w201 : ∀ w ∈ ix_mw ix_m201, w ∈ ix_tb := ix_mem_p [1653, 149, 1652, 79] (by decide +kernel) (ix_mw_use _)
set_option maxRecDepth 100000 in
theorem ix_g202 : ix_Gd ix_m202 := ix_Gd_of [1666, 1756] (by decide +kernel) (by decide +kernel) (by decide +kernel) (by decide +kernel)
theorem ix_w202 : ∀ w ∈ ix_mw ix_m202, w ∈ ix_tb := ix_mem_p [1799, 149, 1798, 110] (by decide +kernel) (ix_mw_use _)
set_option maxRecDepth 100000 in
theorem ix_g203 : ix_Gd ix_m203 := ix_Gd_of [1311, 1702, 1303, 1710] (by decide +kernel) (by decide +kernel) (by decide +kernel) (by decide +kernel)
theorem ix_w203 : ∀ w ∈ ix_mw ix_m203, w ∈ ix_tb := ix_mem_p [1755, 149, 1754, 102] (by decide +kernel) (ix_mw_use _)
set_option maxRecDepth 100000 in
theorem ix_g204 : ix_Gd ix_m204 := ix_Gd_of [1311, 1702, 1312, 1710] (by decide +kernel) (by decide +kernel) (by decide +kernel) (by decide +kernel)
theorem ix_w204 : ∀ w ∈ ix_mw ix_m204, w ∈ ix_tb := ix_mem_p [1701, 149, 1700, 89] (by decide +kernel) (ix_mw_use _)
set_option maxRecDepth 100000 in
theorem ix_g205 : ix_Gd ix_m205 := ix_Gd_of [1341, 1342] (by decide +kernel) (by decide +kernel) (by decide +kernel) (by decide +kernel)
theorem ix_w205 : ∀ w ∈ ix_mw ix_m205, w ∈ ix_tb := ix_mem_p [1779, 149, 1778, 108] (by decide +kernel) (ix_mw_use _)
set_option maxRecDepth 100000 in
theorem ix_g206 : ix_Gd ix_m206 := ix_Gd_of [1306, 1303, 1307] (by decide +kernel) (by decide +kernel) (by decide +kernel) (by decide +kernel)
theorem ix_w206 : ∀ w ∈ ix_mw ix_m206, w ∈ ix_tb := ix_mem_p [1819, 149, 1818, 111] (by decide +kernel) (ix_mw_use _)
set_option maxRecDepth 100000 in
theorem ix_g207_0 : ix_Gc ix_m207 ((ix_t207.drop (32 * 0)).take 32) := ix_Gc_of [1308, 1345, 1309, 1590, 1686] (by decide +kernel) (by decide +kernel) (by decide +kernel)
set_option maxRecDepth 100000 in
theorem ix_g207_1 : ix_Gc ix_m207 ((ix_t207.drop (32 * 1)).take 32) := ix_Gc_of [1744, 1346, 1309, 1590] (by decide +kernel) (by decide +kernel) (by decide +kernel)
set_option maxRecDepth 100000 in
theorem ix_g207_2 : ix_Gc ix_m207 ((ix_t207.drop (32 * 2)).take 32) := ix_Gc_of [1346, 1694, 1346, 1694, 1756, 1760] (by decide +kernel) (by decide +kernel) (by decide +kernel)
set_option maxRecDepth 100000 in
theorem ix_g207 : ix_Gd ix_m207 := by
  refine ⟨ix_chunk (l := ix_t207) 3 (by decide +kernel) ?_, by decide +kernel⟩
  intro k hk
  rcases k with _ | _ | _ | k
  · exact ix_g207_0
  · exact ix_g207_1
  · exact ix_g207_2
  · omega
theorem ix_w207 : ∀ w ∈ ix_mw ix_m207, w ∈ ix_tb := ix_mem_p [1685, 149, 1684, 85] (by decide +kernel) (ix_mw_use _)
set_option maxRecDepth 100000 in
theorem ix_g208 : ix_Gd ix_m208 := ix_Gd_of [1303, 1306, 1307] (by decide +kernel) (by decide +kernel) (by decide +kernel) (by decide +kernel)
theorem ix_w208 : ∀ w ∈ ix_mw ix_m208, w ∈ ix_tb := ix_mem_p [1823, 149, 1822, 112] (by decide +kernel) (ix_mw_use _)
set_option maxRecDepth 100000 in
theorem ix_g209 : ix_Gd ix_m209 := ix_Gd_of [1309, 1347, 1796] (by decide +kernel) (by decide +kernel) (by decide +kernel) (by decide +kernel)
theorem ix_w209 : ∀ w ∈ ix_mw ix_m209, w ∈ ix_tb := ix_mem_p [1831, 149, 1830, 113] (by decide +kernel) (ix_mw_use _)
set_option maxRecDepth 100000 in
theorem ix_g210 : ix_Gd ix_m210 := ix_Gd_of [] (by decide +kernel) (by decide +kernel) (by decide +kernel) (by decide +kernel)
theorem ix_w210 : ∀ w ∈ ix_mw ix_m210, w ∈ ix_tb := ix_mem_p [1709, 149, 1708, 91] (by decide +kernel) (ix_mw_use _)
set_option maxRecDepth 100000 in
theorem ix_g211 : ix_Gd ix_m211 := ix_Gd_of [1346, 1309, 1590, 1590, 1694, 1346, 1346, 1347, 1760] (by decide +kernel) (by decide +kernel) (by decide +kernel) (by decide +kernel)
theorem ix_w211 : ∀ w ∈ ix_mw ix_m211, w ∈ ix_tb := ix_mem_p [1835, 149, 1834, 114] (by decide +kernel) (ix_mw_use _)
set_option maxRecDepth 100000 in
theorem ix_g212 : ix_Gd ix_m212 := ix_Gd_of [1309, 1303, 1303, 1848, 1347, 1347] (by decide +kernel) (by decide +kernel) (by decide +kernel) (by decide +kernel)
theorem ix_w212 : ∀ w ∈ ix_mw ix_m212, w ∈ ix_tb := ix_mem_p [1847, 149, 1846, 115] (by decide +kernel) (ix_mw_use _)
set_option maxRecDepth 100000 in
theorem ix_g213 : ix_Gd ix_m213 := ix_Gd_of [1844] (by decide +kernel) (by decide +kernel) (by decide +kernel) (by decide +kernel)
theorem ix_w213 : ∀ w ∈ ix_mw ix_m213, w ∈ ix_tb := ix_mem_p [1863, 149, 1862, 118] (by decide +kernel) (ix_mw_use _)
set_option maxRecDepth 100000 in
theorem ix_g214 : ix_Gd ix_m214 := ix_Gd_of [1666, 1706, 1868, 1590] (by decide +kernel) (by decide +kernel) (by decide +kernel) (by decide +kernel)
theorem ix_w214 : ∀ w ∈ ix_mw ix_m214, w ∈ ix_tb := ix_mem_p [1867, 149, 1866, 119] (by decide +kernel) (ix_mw_use _)
set_option maxRecDepth 100000 in
theorem ix_g215 : ix_Gd ix_m215 := ix_Gd_of [1309, 1303, 1347, 1303, 1852] (by decide +kernel) (by decide +kernel) (by decide +kernel) (by decide +kernel)
theorem ix_w215 : ∀ w ∈ ix_mw ix_m215, w ∈ ix_tb := ix_mem_p [1879, 149, 1878, 122] (by decide +kernel) (ix_mw_use _)
set_option maxRecDepth 100000 in
theorem ix_g216 : ix_Gd ix_m216 := ix_Gd_of [1348, 1844, 1485, 1477, 1884] (by decide +kernel) (by decide +kernel) (by decide +kernel) (by decide +kernel)
theorem ix_w216 : ∀ w ∈ ix_mw ix_m216, w ∈ ix_tb := ix_mem_p [1883, 149, 1882, 123] (by decide +kernel) (ix_mw_use _)
set_option maxRecDepth 100000 in
theorem ix_g217 : ix_Gd ix_m217 := ix_Gd_of [1309, 1303, 1694] (by decide +kernel) (by decide +kernel) (by decide +kernel) (by decide +kernel)
theorem ix_w217 : ∀ w ∈ ix_mw ix_m217, w ∈ ix_tb := ix_mem_p [1895, 149, 1894, 125] (by decide +kernel) (ix_mw_use _)
set_option maxRecDepth 100000 in
theorem ix_g218 : ix_Gd ix_m218 := ix_Gd_of [1666, 1706] (by decide +kernel) (by decide +kernel) (by decide +kernel) (by decide +kernel)
theorem ix_w218 : ∀ w ∈ ix_mw ix_m218, w ∈ ix_tb := ix_mem_p [1899, 149, 1898, 126] (by decide +kernel) (ix_mw_use _)
set_option maxRecDepth 100000 in
theorem ix_g219 : ix_Gd ix_m219 := ix_Gd_of [1309, 1338] (by decide +kernel) (by decide +kernel) (by decide +kernel) (by decide +kernel)
theorem ix_w219 : ∀ w ∈ ix_mw ix_m219, w ∈ ix_tb := ix_mem_p [1907, 149, 1906, 127] (by decide +kernel) (ix_mw_use _)
set_option maxRecDepth 100000 in
theorem ix_g220 : ix_Gd ix_m220 := ix_Gd_of [1848, 1848] (by decide +kernel) (by decide +kernel) (by decide +kernel) (by decide +kernel)
theorem ix_w220 : ∀ w ∈ ix_mw ix_m220, w ∈ ix_tb := ix_mem_p [1915, 149, 1914, 128] (by decide +kernel) (ix_mw_use _)
set_option maxRecDepth 100000 in
theorem ix_g221 : ix_Gd ix_m221 := ix_Gd_of [] (by decide +kernel) (by decide +kernel) (by decide +kernel) (by decide +kernel)
theorem ix_w221 : ∀ w ∈ ix_mw ix_m221, w ∈ ix_tb := ix_mem_p [1771, 149, 1770, 106] (by decide +kernel) (ix_mw_use _)
set_option maxRecDepth 100000 in
theorem ix_g222 : ix_Gd ix_m222 := ix_Gd_of [1309, 1303, 1303, 1912] (by decide +kernel) (by decide +kernel) (by decide +kernel) (by decide +kernel)
theorem ix_w222 : ∀ w ∈ ix_mw ix_m222, w ∈ ix_tb := ix_mem_p [1924, 149, 1923, 129] (by decide +kernel) (ix_mw_use _)
set_option maxRecDepth 100000 in
theorem ix_g223 : ix_Gd ix_m223 := ix_Gd_of [1349, 1772, 1342, 1776, 1350] (by decide +kernel) (by decide +kernel) (by decide +kernel) (by decide +kernel)
theorem ix_w223 : ∀ w ∈ ix_mw ix_m223, w ∈ ix_tb := ix_mem_p [1936, 149, 1935, 130] (by decide +kernel) (ix_mw_use _)
set_option maxRecDepth 100000 in
theorem ix_g224 : ix_Gd ix_m224 := ix_Gd_of [1309, 1590, 1351] (by decide +kernel) (by decide +kernel) (by decide +kernel) (by decide +kernel)
theorem ix_w224 : ∀ w ∈ ix_mw ix_m224, w ∈ ix_tb := ix_mem_p [1948, 149, 1947, 131] (by decide +kernel) (ix_mw_use _)
set_option maxRecDepth 100000 in
theorem ix_g225 : ix_Gd ix_m225 := ix_Gd_of [] (by decide +kernel) (by decide +kernel) (by decide +kernel) (by decide +kernel)
theorem ix_w225 : ∀ w ∈ ix_mw ix_m225, w ∈ ix_tb := ix_mem_p [1956, 149, 1955, 132] (by decide +kernel) (ix_mw_use _)
set_option maxRecDepth 100000 in
theorem ix_g226 : ix_Gd ix_m226 := ix_Gd_of [1354, 1354, 1352, 1355, 1354, 1355, 1354] (by decide +kernel) (by decide +kernel) (by decide +kernel) (by decide +kernel)
theorem ix_w226 : ∀ w ∈ ix_mw ix_m226, w ∈ ix_tb := ix_mem_p [1964, 149, 1963, 133] (by decide +kernel) (ix_mw_use _)
set_option maxRecDepth 100000 in
theorem ix_g227_0 : ix_Gc ix_m227 ((ix_t227.drop (32 * 0)).take 32) := ix_Gc_of [1308, 1961, 1308, 1309, 1961, 1309, 1337, 1961, 1337, 1339, 1961, 1339, 1341, 1961, 1341] (by decide +kernel) (by decide +kernel) (by decide +kernel)
set_option maxRecDepth 100000 in
theorem ix_g227_1 : ix_Gc ix_m227 ((ix_t227.drop (32 * 1)).take 32) := ix_Gc_of [1349, 1961, 1349, 1310, 1310, 1961, 1311, 1311, 1961, 1312] (by decide +kernel) (by decide +kernel) (by decide +kernel)
set_option maxRecDepth 100000 in
theorem ix_g227_2 : ix_Gc ix_m227 ((ix_t227.drop (32 * 2)).take 32) := ix_Gc_of [1312, 1961, 1338, 1338, 1961, 1351, 1351, 1961] (by decide +kernel) (by decide +kernel) (by decide +kernel)
set_option maxRecDepth 100000 in
theorem ix_g227_3 : ix_Gc ix_m227 ((ix_t227.drop (32 * 3)).take 32) := ix_Gc_of [1350, 1350, 1961, 1340, 1340, 1961] (by decide +kernel) (by decide +kernel) (by decide +kernel)
set_option maxRecDepth 100000 in
theorem ix_g227_4 : ix_Gc ix_m227 ((ix_t227.drop (32 * 4)).take 32) := ix_Gc_of [1342, 1342, 1961] (by decide +kernel) (by decide +kernel) (by decide +kernel)
set_option maxRecDepth 100000 in
theorem ix_g227 : ix_Gd ix_m227 := by
  refine ⟨ix_chunk (l := ix_t227) 5 (by decide +kernel) ?_, by decide +kernel⟩
  intro k hk
  rcases k with _ | _ | _ | _ | _ | k
  · exact ix_g227_0
  · exact ix_g227_1
  · exact ix_g227_2
  · exact ix_g227_3
  · exact ix_g227_4
  · omega
theorem ix_w227 : ∀ w ∈ ix_mw ix_m227, w ∈ ix_tb := ix_mem_p [1968, 149, 1967, 134] (by decide +kernel) (ix_mw_use _)
set_option maxRecDepth 100000 in
theorem ix_g228_0 : ix_Gc ix_m228 ((ix_t228.drop (32 * 0)).take 32) := ix_Gc_of [1321, 1321, 1961, 1322, 1322, 1961, 1323, 1323] (by decide +kernel) (by decide +kernel) (by decide +kernel)
set_option maxRecDepth 100000 in
theorem ix_g228_1 : ix_Gc ix_m228 ((ix_t228.drop (32 * 1)).take 32) := ix_Gc_of [1961, 1324, 1324, 1961, 1325, 1325, 1961, 1326] (by decide +kernel) (by decide +kernel) (by decide +kernel)
set_option maxRecDepth 100000 in
theorem ix_g228_2 : ix_Gc ix_m228 ((ix_t228.drop (32 * 2)).take 32) := ix_Gc_of [1326, 1961, 1327, 1327, 1961] (by decide +kernel) (by decide +kernel) (by decide +kernel)
set_option maxRecDepth 100000 in
theorem ix_g228 : ix_Gd ix_m228 := by
  refine ⟨ix_chunk (l := ix_t228) 3 (by decide +kernel) ?_, by decide +kernel⟩
  intro k hk
  rcases k with _ | _ | _ | k
  · exact ix_g228_0
  · exact ix_g228_1
  · exact ix_g228_2
  · omega
theorem ix_w228 : ∀ w ∈ ix_mw ix_m228, w ∈ ix_tb := ix_mem_p [1972, 149, 1971, 135] (by decide +kernel) (ix_mw_use _)
set_option maxRecDepth 100000 in
theorem ix_g229 : ix_Gd ix_m229 := ix_Gd_of [1309, 1303] (by decide +kernel) (by decide +kernel) (by decide +kernel) (by decide +kernel)
theorem ix_w229 : ∀ w ∈ ix_mw ix_m229, w ∈ ix_tb := ix_mem_p [1673, 149, 1672, 82] (by decide +kernel) (ix_mw_use _)
set_option maxRecDepth 100000 in
theorem ix_g230 : ix_Gd ix_m230 := ix_Gd_of [] (by decide +kernel) (by decide +kernel) (by decide +kernel) (by decide +kernel)
theorem ix_w230 : ∀ w ∈ ix_mw ix_m230, w ∈ ix_tb := ix_mem_p [1484, 149, 1483, 41] (by decide +kernel) (ix_mw_use _)
set_option maxRecDepth 100000 in
theorem ix_g231 : ix_Gd ix_m231 := ix_Gd_of [1307, 1303, 1303, 1313, 1303, 1313, 1313, 1313, 1303, 1303] (by decide +kernel) (by decide +kernel) (by decide +kernel) (by decide +kernel)
theorem ix_w231 : ∀ w ∈ ix_mw ix_m231, w ∈ ix_tb := ix_mem_p [1743, 149, 1742, 99] (by decide +kernel) (ix_mw_use _)
set_option maxRecDepth 100000 in
theorem ix_g232 : ix_Gd ix_m232 := ix_Gd_of [1776, 1342, 1776] (by decide +kernel) (by decide +kernel) (by decide +kernel) (by decide +kernel)
theorem ix_w232 : ∀ w ∈ ix_mw ix_m232, w ∈ ix_tb := ix_mem_p [1775, 149, 1774, 107] (by decide +kernel) (ix_mw_use _)
