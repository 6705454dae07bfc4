theorem ejb_31 : (Int8.ofInt (31)).toInt32 = 31 := by decide
theorem wlk_13 : Cond.classLink RL 13 (ej_en 1) ∈ ej_WS := ej_ws (List.mem_of_getElem? (i := 756) (by decide +kernel)) (by decide +kernel)
theorem wcd_1 : Cond.castable (ej_en 1) (ej_en 1) ∈ cw_cd := List.mem_filter.mpr ⟨List.mem_of_getElem? (i := 764) (by decide +kernel), by decide +kernel⟩
theorem wlk_15 : Cond.classLink RL 15 (ej_en 2) ∈ ej_WS := ej_ws (List.mem_of_getElem? (i := 757) (by decide +kernel)) (by decide +kernel)
theorem wcd_2 : Cond.castable (ej_en 2) (ej_en 2) ∈ cw_cd := List.mem_filter.mpr ⟨List.mem_of_getElem? (i := 831) (by decide +kernel), by decide +kernel⟩
theorem wlk_21 : Cond.classLink RL 21 (ej_en 3) ∈ ej_WS := ej_ws (List.mem_of_getElem? (i := 849) (by decide +kernel)) (by decide +kernel)
theorem wcd_3 : Cond.castable (ej_en 3) (ej_en 3) ∈ cw_cd := List.mem_filter.mpr ⟨List.mem_of_getElem? (i := 859) (by decide +kernel), by decide +kernel⟩
theorem ej_tout25 {z : Int32} (h0 : z ≠ 0) (h1 : z ≠ 1) (h2 : z ≠ 2) (h3 : z ≠ 3) (h4 : z ≠ 4) (h5 : z ≠ 5) (h6 : z ≠ 6) (h7 : z ≠ 7) (h8 : z ≠ 8) (h9 : z ≠ 9) (h10 : z ≠ 10) (h11 : z ≠ 11) (h12 : z ≠ 12) (h13 : z ≠ 13) (h14 : z ≠ 14) (h15 : z ≠ 15) (h16 : z ≠ 16) (h17 : z ≠ 17) (h18 : z ≠ 18) (h19 : z ≠ 19) (h20 : z ≠ 20) (h21 : z ≠ 21) (h22 : z ≠ 22) (h23 : z ≠ 23) (h24 : z ≠ 24) : z.toInt < 0 ∨ 24 < z.toInt := by
  have e0 := ej_ne h0
  have q0 : (0 : Int32).toInt = 0 := by decide
  have e1 := ej_ne h1
  have q1 : (1 : Int32).toInt = 1 := by decide
  have e2 := ej_ne h2
  have q2 : (2 : Int32).toInt = 2 := by decide
  have e3 := ej_ne h3
  have q3 : (3 : Int32).toInt = 3 := by decide
  have e4 := ej_ne h4
  have q4 : (4 : Int32).toInt = 4 := by decide
  have e5 := ej_ne h5
  have q5 : (5 : Int32).toInt = 5 := by decide
  have e6 := ej_ne h6
  have q6 : (6 : Int32).toInt = 6 := by decide
  have e7 := ej_ne h7
  have q7 : (7 : Int32).toInt = 7 := by decide
  have e8 := ej_ne h8
  have q8 : (8 : Int32).toInt = 8 := by decide
  have e9 := ej_ne h9
  have q9 : (9 : Int32).toInt = 9 := by decide
  have e10 := ej_ne h10
  have q10 : (10 : Int32).toInt = 10 := by decide
  have e11 := ej_ne h11
  have q11 : (11 : Int32).toInt = 11 := by decide
  have e12 := ej_ne h12
  have q12 : (12 : Int32).toInt = 12 := by decide
  have e13 := ej_ne h13
  have q13 : (13 : Int32).toInt = 13 := by decide
  have e14 := ej_ne h14
  have q14 : (14 : Int32).toInt = 14 := by decide
  have e15 := ej_ne h15
  have q15 : (15 : Int32).toInt = 15 := by decide
  have e16 := ej_ne h16
  have q16 : (16 : Int32).toInt = 16 := by decide
  have e17 := ej_ne h17
  have q17 : (17 : Int32).toInt = 17 := by decide
  have e18 := ej_ne h18
  have q18 : (18 : Int32).toInt = 18 := by decide
  have e19 := ej_ne h19
  have q19 : (19 : Int32).toInt = 19 := by decide
  have e20 := ej_ne h20
  have q20 : (20 : Int32).toInt = 20 := by decide
  have e21 := ej_ne h21
  have q21 : (21 : Int32).toInt = 21 := by decide
  have e22 := ej_ne h22
  have q22 : (22 : Int32).toInt = 22 := by decide
  have e23 := ej_ne h23
  have q23 : (23 : Int32).toInt = 23 := by decide
  have e24 := ej_ne h24
  have q24 : (24 : Int32).toInt = 24 := by decide
  omega
theorem lv_L_103 : ej_LV RL 103 yX11_value i11_value (some .int) 0 := ⟨wd_1744, wd_1745, wd_1746, wd_117, wd_1747, by decide, by decide, by decide +kernel⟩
theorem lv_L_104 : ej_LV RL 104 yX10_fault i10_fault (some .int) 1 := ⟨wd_449, wd_450, wd_451, wd_106, wd_452, by decide, by decide, by decide +kernel⟩
theorem lv_L_108 : ej_LV RL 108 yX11_fault i11_fault (some .int) 1 := ⟨wd_1748, wd_1749, wd_1750, wd_117, wd_1751, by decide, by decide, by decide +kernel⟩
theorem lv_L_111 : ej_LV RL 111 yX11_setHome i11_setHome (some .int) 0 := ⟨wd_1752, wd_1753, wd_1754, wd_117, wd_1755, by decide, by decide, by decide +kernel⟩
theorem lv_L_112 : ej_LV RL 112 yX10_home i10_home (some .int) 0 := ⟨wd_461, wd_462, wd_463, wd_106, wd_464, by decide, by decide, by decide +kernel⟩
theorem lv_L_115 : ej_LV RL 115 yX11_home i11_home (some .int) 0 := ⟨wd_1760, wd_1761, wd_1762, wd_117, wd_1763, by decide, by decide, by decide +kernel⟩
theorem lv_L_116 : ej_LV RL 116 yX10_lookUp i10_lookUp (some .int) 0 := ⟨wd_473, wd_474, wd_475, wd_106, wd_476, by decide, by decide, by decide +kernel⟩
theorem lv_L_119 : ej_LV RL 119 yX11_lookUp i11_lookUp (some .int) 0 := ⟨wd_1764, wd_1765, wd_1766, wd_117, wd_1767, by decide, by decide, by decide +kernel⟩
theorem lv_L_120 : ej_LV RL 120 yX10_nodes i10_nodes (some .int) 0 := ⟨wd_505, wd_506, wd_507, wd_106, wd_508, by decide, by decide, by decide +kernel⟩
theorem lv_L_123 : ej_LV RL 123 yX11_nodes i11_nodes (some .int) 0 := ⟨wd_1768, wd_1769, wd_1770, wd_117, wd_1771, by decide, by decide, by decide +kernel⟩
theorem lv_L_126 : ej_LV RL 126 yX11_name i11_name (some .int) 1 := ⟨wd_1772, wd_1773, wd_1774, wd_117, wd_1775, by decide, by decide, by decide +kernel⟩
theorem lv_L_129 : ej_LV RL 129 yX11_kind i11_kind (some .int) 1 := ⟨wd_1788, wd_1789, wd_1790, wd_117, wd_1791, by decide, by decide, by decide +kernel⟩
theorem lv_L_132 : ej_LV RL 132 yX11_isPrivate i11_isPrivate (some .boolean) 1 := ⟨wd_1792, wd_1793, wd_1794, wd_117, wd_1795, by decide, by decide, by decide +kernel⟩
theorem lv_L_136 : ej_LV RL 136 yX11_linkCost i11_linkCost (some .int) 2 := ⟨wd_1796, wd_1797, wd_1798, wd_117, wd_1799, by decide, by decide, by decide +kernel⟩
theorem lv_L_139 : ej_LV RL 139 yX11_memberCost i11_memberCost (some .int) 2 := ⟨wd_1804, wd_1805, wd_1806, wd_117, wd_1807, by decide, by decide, by decide +kernel⟩
theorem lv_L_142 : ej_LV RL 142 yX11_cost i11_cost (some .int) 1 := ⟨wd_1808, wd_1809, wd_1810, wd_117, wd_1811, by decide, by decide, by decide +kernel⟩
theorem lv_L_145 : ej_LV RL 145 yX11_costByRounds i11_costByRounds (some .int) 1 := ⟨wd_1820, wd_1821, wd_1822, wd_117, wd_1823, by decide, by decide, by decide +kernel⟩
theorem lv_L_148 : ej_LV RL 148 yX11_steps i11_steps (some .int) 1 := ⟨wd_1824, wd_1825, wd_1826, wd_117, wd_1827, by decide, by decide, by decide +kernel⟩
theorem lv_L_151 : ej_LV RL 151 yX11_state i11_state (some .int) 1 := ⟨wd_1828, wd_1829, wd_1830, wd_117, wd_1831, by decide, by decide, by decide +kernel⟩
theorem lv_L_154 : ej_LV RL 154 yX11_nodeAt i11_nodeAt (some .int) 2 := ⟨wd_1832, wd_1833, wd_1834, wd_117, wd_1835, by decide, by decide, by decide +kernel⟩
theorem lv_L_157 : ej_LV RL 157 yX11_costAt i11_costAt (some .int) 2 := ⟨wd_1844, wd_1845, wd_1846, wd_117, wd_1847, by decide, by decide, by decide +kernel⟩
theorem lv_L_160 : ej_LV RL 160 yX11_stepAt i11_stepAt (some .int) 2 := ⟨wd_1848, wd_1849, wd_1850, wd_117, wd_1851, by decide, by decide, by decide +kernel⟩
theorem lv_L_163 : ej_LV RL 163 yX11_isBack i11_isBack (some .boolean) 2 := ⟨wd_1852, wd_1853, wd_1854, wd_117, wd_1855, by decide, by decide, by decide +kernel⟩
theorem lv_L_166 : ej_LV RL 166 yX11_print i11_print (some .int) 1 := ⟨wd_1856, wd_1857, wd_1858, wd_117, wd_1859, by decide, by decide, by decide +kernel⟩
theorem lv_L_167 : ej_LV RL 167 yX10_rewrite i10_rewrite (some .int) 0 := ⟨wd_513, wd_514, wd_515, wd_106, wd_516, by decide, by decide, by decide +kernel⟩
theorem lv_L_17 : ej_LV RL 17 yX10_load i10_load (some .int) 1 := ⟨wd_850, wd_851, wd_852, wd_106, wd_853, by decide, by decide, by decide +kernel⟩
theorem lv_L_170 : ej_LV RL 170 yX11_rewrite i11_rewrite (some .int) 0 := ⟨wd_1880, wd_1881, wd_1882, wd_117, wd_1883, by decide, by decide, by decide +kernel⟩
theorem lv_L_171 : ej_LV RL 171 yX10_word i10_word (some .long) 1 := ⟨wd_748, wd_749, wd_750, wd_106, wd_751, by decide, by decide, by decide +kernel⟩
theorem lv_L_175 : ej_LV RL 175 yX11_word i11_word (some .long) 1 := ⟨wd_1900, wd_1901, wd_1902, wd_117, wd_1903, by decide, by decide, by decide +kernel⟩
theorem lv_L_23 : ej_LV RL 23 yX10_drop i10_drop (some .int) 1 := ⟨wd_1178, wd_1179, wd_1180, wd_106, wd_1181, by decide, by decide, by decide +kernel⟩
theorem lv_L_26 : ej_LV RL 26 yX10_value i10_value (some .int) 0 := ⟨wd_1185, wd_1186, wd_1187, wd_106, wd_1188, by decide, by decide, by decide +kernel⟩
theorem lv_L_30 : ej_LV RL 30 yX10_setHome i10_setHome (some .int) 0 := ⟨wd_1201, wd_1202, wd_1203, wd_106, wd_1204, by decide, by decide, by decide +kernel⟩
theorem lv_L_33 : ej_LV RL 33 yX10_name i10_name (some .int) 1 := ⟨wd_1214, wd_1215, wd_1216, wd_106, wd_1217, by decide, by decide, by decide +kernel⟩
theorem lv_L_36 : ej_LV RL 36 yX10_kind i10_kind (some .int) 1 := ⟨wd_1229, wd_1230, wd_1231, wd_106, wd_1232, by decide, by decide, by decide +kernel⟩
theorem lv_L_39 : ej_LV RL 39 yX10_isPrivate i10_isPrivate (some .boolean) 1 := ⟨wd_1237, wd_1238, wd_1239, wd_106, wd_1240, by decide, by decide, by decide +kernel⟩
theorem lv_L_43 : ej_LV RL 43 yX10_linkCost i10_linkCost (some .int) 2 := ⟨wd_1245, wd_1246, wd_1247, wd_106, wd_1248, by decide, by decide, by decide +kernel⟩
theorem lv_L_47 : ej_LV RL 47 yX10_memberCost i10_memberCost (some .int) 2 := ⟨wd_1253, wd_1254, wd_1255, wd_106, wd_1256, by decide, by decide, by decide +kernel⟩
theorem lv_L_50 : ej_LV RL 50 yX10_cost i10_cost (some .int) 1 := ⟨wd_1261, wd_1262, wd_1263, wd_106, wd_1264, by decide, by decide, by decide +kernel⟩
theorem lv_L_53 : ej_LV RL 53 yX10_costByRounds i10_costByRounds (some .int) 1 := ⟨wd_1273, wd_1274, wd_1275, wd_106, wd_1276, by decide, by decide, by decide +kernel⟩
theorem lv_L_56 : ej_LV RL 56 yX10_steps i10_steps (some .int) 1 := ⟨wd_1296, wd_1297, wd_1298, wd_106, wd_1299, by decide, by decide, by decide +kernel⟩
theorem lv_L_59 : ej_LV RL 59 yX10_state i10_state (some .int) 1 := ⟨wd_1304, wd_1305, wd_1306, wd_106, wd_1307, by decide, by decide, by decide +kernel⟩
theorem lv_L_62 : ej_LV RL 62 yX10_nodeAt i10_nodeAt (some .int) 2 := ⟨wd_1311, wd_1312, wd_1313, wd_106, wd_1314, by decide, by decide, by decide +kernel⟩
theorem lv_L_65 : ej_LV RL 65 yX10_costAt i10_costAt (some .int) 2 := ⟨wd_1325, wd_1326, wd_1327, wd_106, wd_1328, by decide, by decide, by decide +kernel⟩
theorem lv_L_68 : ej_LV RL 68 yX10_stepAt i10_stepAt (some .int) 2 := ⟨wd_1332, wd_1333, wd_1334, wd_106, wd_1335, by decide, by decide, by decide +kernel⟩
theorem lv_L_7 : ej_LV RL 7 yX10_feed i10_feed (some .int) 2 := ⟨wd_758, wd_759, wd_760, wd_106, wd_761, by decide, by decide, by decide +kernel⟩
theorem lv_L_71 : ej_LV RL 71 yX10_isBack i10_isBack (some .boolean) 2 := ⟨wd_1340, wd_1341, wd_1342, wd_106, wd_1343, by decide, by decide, by decide +kernel⟩
theorem lv_L_75 : ej_LV RL 75 yX10_print i10_print (some .int) 1 := ⟨wd_1348, wd_1349, wd_1350, wd_106, wd_1351, by decide, by decide, by decide +kernel⟩
theorem lv_L_89 : ej_LV RL 89 yX11_feed i11_feed (some .int) 2 := ⟨wd_1717, wd_1718, wd_1719, wd_117, wd_1720, by decide, by decide, by decide +kernel⟩
theorem lv_L_90 : ej_LV RL 90 yX11_thrown i11_thrown (some .int) 0 := ⟨wd_1713, wd_1714, wd_1715, wd_117, wd_1716, by decide, by decide, by decide +kernel⟩
theorem lv_L_96 : ej_LV RL 96 yX11_load i11_load (some .int) 1 := ⟨wd_1725, wd_1726, wd_1727, wd_117, wd_1728, by decide, by decide, by decide +kernel⟩
theorem lv_L_99 : ej_LV RL 99 yX11_drop i11_drop (some .int) 1 := ⟨wd_1740, wd_1741, wd_1742, wd_117, wd_1743, by decide, by decide, by decide +kernel⟩
theorem lw_L_100 : ej_LW RL 100 yL_value iL_value [(0, 8, 11, 15)] 2 := ⟨wd_1182, wd_1183, wd_105, ej_ws (List.mem_of_getElem? (i := 1184) (by decide +kernel)) (by decide +kernel), by decide, by decide, by decide +kernel⟩
theorem lw_L_109 : ej_LW RL 109 yL_setHome iL_setHome [(0, 8, 11, 13)] 2 := ⟨wd_1198, wd_1199, wd_105, ej_ws (List.mem_of_getElem? (i := 1200) (by decide +kernel)) (by decide +kernel), by decide, by decide, by decide +kernel⟩
theorem lw_L_124 : ej_LW RL 124 yL_name iL_name [(0, 9, 12, 21)] 3 := ⟨wd_1211, wd_1212, wd_105, ej_ws (List.mem_of_getElem? (i := 1213) (by decide +kernel)) (by decide +kernel), by decide, by decide, by decide +kernel⟩
theorem lw_L_127 : ej_LW RL 127 yL_kind iL_kind [(0, 9, 12, 21)] 3 := ⟨wd_1226, wd_1227, wd_105, ej_ws (List.mem_of_getElem? (i := 1228) (by decide +kernel)) (by decide +kernel), by decide, by decide, by decide +kernel⟩
theorem lw_L_130 : ej_LW RL 130 yL_isPrivate iL_isPrivate [(0, 16, 19, 21)] 3 := ⟨wd_1234, wd_1235, wd_105, ej_ws (List.mem_of_getElem? (i := 1236) (by decide +kernel)) (by decide +kernel), by decide, by decide, by decide +kernel⟩
theorem lw_L_133 : ej_LW RL 133 yL_linkCost iL_linkCost [(0, 10, 13, 21)] 4 := ⟨wd_1242, wd_1243, wd_105, ej_ws (List.mem_of_getElem? (i := 1244) (by decide +kernel)) (by decide +kernel), by decide, by decide, by decide +kernel⟩
theorem lw_L_137 : ej_LW RL 137 yL_memberCost iL_memberCost [(0, 10, 13, 21)] 4 := ⟨wd_1250, wd_1251, wd_105, ej_ws (List.mem_of_getElem? (i := 1252) (by decide +kernel)) (by decide +kernel), by decide, by decide, by decide +kernel⟩
theorem lw_L_140 : ej_LW RL 140 yL_cost iL_cost [(0, 9, 12, 21)] 3 := ⟨wd_1258, wd_1259, wd_105, ej_ws (List.mem_of_getElem? (i := 1260) (by decide +kernel)) (by decide +kernel), by decide, by decide, by decide +kernel⟩
theorem lw_L_143 : ej_LW RL 143 yL_costByRounds iL_costByRounds [(0, 9, 12, 21)] 3 := ⟨wd_1270, wd_1271, wd_105, ej_ws (List.mem_of_getElem? (i := 1272) (by decide +kernel)) (by decide +kernel), by decide, by decide, by decide +kernel⟩
theorem lw_L_146 : ej_LW RL 146 yL_steps iL_steps [(0, 9, 12, 21)] 3 := ⟨wd_1293, wd_1294, wd_105, ej_ws (List.mem_of_getElem? (i := 1295) (by decide +kernel)) (by decide +kernel), by decide, by decide, by decide +kernel⟩
theorem lw_L_149 : ej_LW RL 149 yL_state iL_state [(0, 9, 12, 21)] 3 := ⟨wd_1301, wd_1302, wd_105, ej_ws (List.mem_of_getElem? (i := 1303) (by decide +kernel)) (by decide +kernel), by decide, by decide, by decide +kernel⟩
theorem lw_L_152 : ej_LW RL 152 yL_nodeAt iL_nodeAt [(0, 10, 13, 21)] 4 := ⟨wd_1308, wd_1309, wd_105, ej_ws (List.mem_of_getElem? (i := 1310) (by decide +kernel)) (by decide +kernel), by decide, by decide, by decide +kernel⟩
theorem lw_L_155 : ej_LW RL 155 yL_costAt iL_costAt [(0, 10, 13, 21)] 4 := ⟨wd_1322, wd_1323, wd_105, ej_ws (List.mem_of_getElem? (i := 1324) (by decide +kernel)) (by decide +kernel), by decide, by decide, by decide +kernel⟩
theorem lw_L_158 : ej_LW RL 158 yL_stepAt iL_stepAt [(0, 10, 13, 21)] 4 := ⟨wd_1329, wd_1330, wd_105, ej_ws (List.mem_of_getElem? (i := 1331) (by decide +kernel)) (by decide +kernel), by decide, by decide, by decide +kernel⟩
theorem lw_L_161 : ej_LW RL 161 yL_isBack iL_isBack [(0, 17, 20, 21)] 4 := ⟨wd_1337, wd_1338, wd_105, ej_ws (List.mem_of_getElem? (i := 1339) (by decide +kernel)) (by decide +kernel), by decide, by decide, by decide +kernel⟩
theorem lw_L_164 : ej_LW RL 164 yL_print iL_print [(0, 9, 12, 21)] 3 := ⟨wd_1345, wd_1346, wd_105, ej_ws (List.mem_of_getElem? (i := 1347) (by decide +kernel)) (by decide +kernel), by decide, by decide, by decide +kernel⟩
theorem lw_L_84 : ej_LW RL 84 yL_feed iL_feed [(0, 11, 14, 13), (0, 11, 18, 15)] 4 := ⟨wd_753, wd_754, wd_105, ej_ws (List.mem_of_getElem? (i := 755) (by decide +kernel)) (by decide +kernel), by decide, by decide, by decide +kernel⟩
theorem lw_L_93 : ej_LW RL 93 yL_load iL_load [(0, 9, 12, 21), (0, 9, 15, 15)] 3 := ⟨wd_846, wd_847, wd_105, ej_ws (List.mem_of_getElem? (i := 848) (by decide +kernel)) (by decide +kernel), by decide, by decide, by decide +kernel⟩
theorem lw_L_97 : ej_LW RL 97 yL_drop iL_drop [(0, 9, 12, 21)] 3 := ⟨wd_1175, wd_1176, wd_105, ej_ws (List.mem_of_getElem? (i := 1177) (by decide +kernel)) (by decide +kernel), by decide, by decide, by decide +kernel⟩
