theorem ejb_11 : (Int8.ofInt (11)).toInt32 = 11 := by decide
theorem ejb_12 : (Int8.ofInt (12)).toInt32 = 12 := by decide
theorem ejb_14 : (Int8.ofInt (14)).toInt32 = 14 := by decide
theorem ejb_16 : (Int8.ofInt (16)).toInt32 = 16 := by decide
theorem ejb_30 : (Int8.ofInt (30)).toInt32 = 30 := by decide
theorem ejb_36 : (Int8.ofInt (36)).toInt32 = 36 := by decide
theorem ejb_53 : (Int8.ofInt (53)).toInt32 = 53 := by decide
theorem ejb_7 : (Int8.ofInt (7)).toInt32 = 7 := by decide
theorem ejb_75 : (Int8.ofInt (75)).toInt32 = 75 := by decide
theorem ejb_80 : (Int8.ofInt (80)).toInt32 = 80 := by decide
theorem ejl_1 : Int64.ofNat ((1 : Fin 2) : Nat) = 1 := by decide
theorem ejs_179 : (Int16.ofInt (179)).toInt32 = 179 := by decide
theorem ejs_277 : (Int16.ofInt (277)).toInt32 = 277 := by decide
theorem ejs_691 : (Int16.ofInt (691)).toInt32 = 691 := by decide
theorem ejs_800 : (Int16.ofInt (800)).toInt32 = 800 := by decide
theorem ejs_8000 : (Int16.ofInt (8000)).toInt32 = 8000 := by decide
theorem ejs_m1181 : (Int16.ofInt (-1181)).toInt32 = (-1181) := by decide
theorem ejs_m1182 : (Int16.ofInt (-1182)).toInt32 = (-1182) := by decide
theorem ejs_m1183 : (Int16.ofInt (-1183)).toInt32 = (-1183) := by decide
theorem wlk_29 : Cond.classLink RL 29 (ej_en 3) ∈ ej_WS := ej_ws (List.mem_of_getElem? (i := 397) (by decide +kernel)) (by decide +kernel)
theorem wcd_3 : Cond.castable (ej_en 3) (ej_en 3) ∈ cw_cd := List.mem_filter.mpr ⟨List.mem_of_getElem? (i := 508) (by decide +kernel), by decide +kernel⟩
theorem wlk_31 : Cond.classLink RL 31 (ej_en 1) ∈ ej_WS := ej_ws (List.mem_of_getElem? (i := 398) (by decide +kernel)) (by decide +kernel)
theorem wcd_1 : Cond.castable (ej_en 1) (ej_en 1) ∈ cw_cd := List.mem_filter.mpr ⟨List.mem_of_getElem? (i := 406) (by decide +kernel), by decide +kernel⟩
theorem wlk_33 : Cond.classLink RL 33 (ej_en 2) ∈ ej_WS := ej_ws (List.mem_of_getElem? (i := 399) (by decide +kernel)) (by decide +kernel)
theorem wcd_2 : Cond.castable (ej_en 2) (ej_en 2) ∈ cw_cd := List.mem_filter.mpr ⟨List.mem_of_getElem? (i := 477) (by decide +kernel), by decide +kernel⟩
theorem ki_L_111 : Cond.constant RL 111 200000 ∈ ej_WS := ej_ws (List.mem_of_getElem? (i := 1129) (by decide +kernel)) (by decide +kernel)
theorem ki_L_7 : Cond.constant RL 7 1690806771 ∈ ej_WS := ej_ws (List.mem_of_getElem? (i := 392) (by decide +kernel)) (by decide +kernel)
theorem ki_L_8 : Cond.constant RL 8 2147483647 ∈ ej_WS := ej_ws (List.mem_of_getElem? (i := 393) (by decide +kernel)) (by decide +kernel)
theorem ki_L_86 : Cond.constant RL 86 100000 ∈ ej_WS := ej_ws (List.mem_of_getElem? (i := 912) (by decide +kernel)) (by decide +kernel)
theorem kl_L_115 : Cond.constantLong RL 115 31 ∈ ej_WS := ej_ws (List.mem_of_getElem? (i := 1305) (by decide +kernel)) (by decide +kernel)
theorem kl_L_120 : Cond.constantLong RL 120 1000003 ∈ ej_WS := ej_ws (List.mem_of_getElem? (i := 1306) (by decide +kernel)) (by decide +kernel)
theorem kl_L_122 : Cond.constantLong RL 122 1009 ∈ ej_WS := ej_ws (List.mem_of_getElem? (i := 1307) (by decide +kernel)) (by decide +kernel)
theorem kl_L_124 : Cond.constantLong RL 124 65537 ∈ ej_WS := ej_ws (List.mem_of_getElem? (i := 1308) (by decide +kernel)) (by decide +kernel)
theorem kl_L_130 : Cond.constantLong RL 130 255 ∈ ej_WS := ej_ws (List.mem_of_getElem? (i := 1244) (by decide +kernel)) (by decide +kernel)
theorem kl_L_144 : Cond.constantLong RL 144 (-1) ∈ ej_WS := ej_ws (List.mem_of_getElem? (i := 1248) (by decide +kernel)) (by decide +kernel)
theorem kl_L_146 : Cond.constantLong RL 146 159471185185 ∈ ej_WS := ej_ws (List.mem_of_getElem? (i := 1249) (by decide +kernel)) (by decide +kernel)
theorem kl_L_159 : Cond.constantLong RL 159 5 ∈ ej_WS := ej_ws (List.mem_of_getElem? (i := 1309) (by decide +kernel)) (by decide +kernel)
theorem kl_L_161 : Cond.constantLong RL 161 996286561 ∈ ej_WS := ej_ws (List.mem_of_getElem? (i := 1310) (by decide +kernel)) (by decide +kernel)
theorem kl_L_163 : Cond.constantLong RL 163 808400168 ∈ ej_WS := ej_ws (List.mem_of_getElem? (i := 1311) (by decide +kernel)) (by decide +kernel)
theorem kl_L_165 : Cond.constantLong RL 165 1481452343 ∈ ej_WS := ej_ws (List.mem_of_getElem? (i := 1312) (by decide +kernel)) (by decide +kernel)
theorem kl_L_171 : Cond.constantLong RL 171 2314885530818453536 ∈ ej_WS := ej_ws (List.mem_of_getElem? (i := 1319) (by decide +kernel)) (by decide +kernel)
theorem kl_L_173 : Cond.constantLong RL 173 32 ∈ ej_WS := ej_ws (List.mem_of_getElem? (i := 1320) (by decide +kernel)) (by decide +kernel)
theorem kl_L_91 : Cond.constantLong RL 91 529965081956 ∈ ej_WS := ej_ws (List.mem_of_getElem? (i := 908) (by decide +kernel)) (by decide +kernel)
theorem ls_L_100 : ej_LS RL 100 yL_node iL_node (some .int) 3 := ⟨wd_913, wd_914, wd_46, wd_915, by decide, by decide, by decide +kernel⟩
theorem ls_L_104 : ej_LS RL 104 yL_told iL_told (some .int) 5 := ⟨wd_988, wd_989, wd_46, wd_990, by decide, by decide, by decide +kernel⟩
theorem ls_L_108 : ej_LS RL 108 yL_either iL_either (some .int) 2 := ⟨wd_1121, wd_1122, wd_46, wd_1123, by decide, by decide, by decide +kernel⟩
theorem ls_L_132 : ej_LS RL 132 yL_isNet iL_isNet (some .boolean) 3 := ⟨wd_969, wd_970, wd_46, wd_971, by decide, by decide, by decide +kernel⟩
theorem ls_L_136 : ej_LS RL 136 yL_step iL_step (some .int) 7 := ⟨wd_1118, wd_1119, wd_46, wd_1120, by decide, by decide, by decide +kernel⟩
theorem ls_L_140 : ej_LS RL 140 yL_out iL_out (some .int) 2 := ⟨wd_1241, wd_1242, wd_46, wd_1243, by decide, by decide, by decide +kernel⟩
theorem ls_L_155 : ej_LS RL 155 yL_all iL_all (some .long) 2 := ⟨wd_1302, wd_1303, wd_46, wd_1304, by decide, by decide, by decide +kernel⟩
theorem ls_L_179 : ej_LS RL 179 yL_isRefused iL_isRefused (some .boolean) 3 := ⟨wd_1299, wd_1300, wd_46, wd_1301, by decide, by decide, by decide +kernel⟩
theorem ls_L_183 : ej_LS RL 183 yL_isFull iL_isFull (some .boolean) 1 := ⟨wd_1316, wd_1317, wd_46, wd_1318, by decide, by decide, by decide +kernel⟩
theorem ls_L_187 : ej_LS RL 187 yL_dice iL_dice (some .int) 2 := ⟨wd_389, wd_390, wd_46, wd_391, by decide, by decide, by decide +kernel⟩
theorem ls_L_191 : ej_LS RL 191 yL_saysStatement iL_saysStatement none 3 := ⟨wd_905, wd_906, wd_46, wd_907, by decide, by decide, by decide +kernel⟩
theorem ls_L_195 : ej_LS RL 195 yL_reads iL_reads none 3 := ⟨wd_916, wd_917, wd_46, wd_918, by decide, by decide, by decide +kernel⟩
theorem ls_L_199 : ej_LS RL 199 yL_areNodes iL_areNodes (some .boolean) 5 := ⟨wd_922, wd_923, wd_46, wd_924, by decide, by decide, by decide +kernel⟩
theorem ls_L_203 : ej_LS RL 203 yL_areWays iL_areWays (some .boolean) 4 := ⟨wd_999, wd_1000, wd_46, wd_1001, by decide, by decide, by decide +kernel⟩
theorem ls_L_207 : ej_LS RL 207 yL_areBacks iL_areBacks (some .boolean) 4 := ⟨wd_1193, wd_1194, wd_46, wd_1195, by decide, by decide, by decide +kernel⟩
theorem ls_L_210 : ej_LS RL 210 yL_isSum iL_isSum (some .boolean) 2 := ⟨wd_1288, wd_1289, wd_46, wd_1290, by decide, by decide, by decide +kernel⟩
theorem ls_L_214 : ej_LS RL 214 yL_isPrinted iL_isPrinted (some .boolean) 5 := ⟨wd_1196, wd_1197, wd_46, wd_1198, by decide, by decide, by decide +kernel⟩
theorem ls_L_217 : ej_LS RL 217 yL_isRewritten iL_isRewritten (some .boolean) 4 := ⟨wd_1245, wd_1246, wd_46, wd_1247, by decide, by decide, by decide +kernel⟩
theorem ls_L_87 : ej_LS RL 87 yL_says iL_says none 2 := ⟨wd_902, wd_903, wd_46, wd_904, by decide, by decide, by decide +kernel⟩
theorem ls_L_93 : ej_LS RL 93 yL_saysNumber iL_saysNumber none 2 := ⟨wd_909, wd_910, wd_46, wd_911, by decide, by decide, by decide +kernel⟩
theorem ls_L_96 : ej_LS RL 96 yL_holds iL_holds (some .boolean) 2 := ⟨wd_919, wd_920, wd_46, wd_921, by decide, by decide, by decide +kernel⟩
theorem lv_L_112 : ej_LV RL 112 yX10_nodes i10_nodes (some .int) 0 := ⟨wd_925, wd_926, wd_927, wd_47, wd_928, by decide, by decide, by decide +kernel⟩
theorem lv_L_117 : ej_LV RL 117 yX10_home i10_home (some .int) 0 := ⟨wd_933, wd_934, wd_935, wd_47, wd_936, by decide, by decide, by decide +kernel⟩
theorem lv_L_126 : ej_LV RL 126 yX10_word i10_word (some .long) 1 := ⟨wd_956, wd_957, wd_958, wd_47, wd_959, by decide, by decide, by decide +kernel⟩
theorem lv_L_148 : ej_LV RL 148 yX10_rewrite i10_rewrite (some .int) 0 := ⟨wd_1250, wd_1251, wd_1252, wd_47, wd_1253, by decide, by decide, by decide +kernel⟩
theorem lv_L_15 : ej_LV RL 15 yX10_load i10_load (some .int) 1 := ⟨wd_495, wd_496, wd_497, wd_47, wd_498, by decide, by decide, by decide +kernel⟩
theorem lv_L_151 : ej_LV RL 151 yX10_fault i10_fault (some .int) 1 := ⟨wd_1291, wd_1292, wd_1293, wd_47, wd_1294, by decide, by decide, by decide +kernel⟩
theorem lv_L_175 : ej_LV RL 175 yX10_lookUp i10_lookUp (some .int) 0 := ⟨wd_1321, wd_1322, wd_1323, wd_47, wd_1324, by decide, by decide, by decide +kernel⟩
theorem lv_L_19 : ej_LV RL 19 yX10_drop i10_drop (some .int) 1 := ⟨wd_859, wd_860, wd_861, wd_47, wd_862, by decide, by decide, by decide +kernel⟩
theorem lv_L_22 : ej_LV RL 22 yX10_value i10_value (some .int) 0 := ⟨wd_863, wd_864, wd_865, wd_47, wd_866, by decide, by decide, by decide +kernel⟩
theorem lv_L_26 : ej_LV RL 26 yX10_setHome i10_setHome (some .int) 0 := ⟨wd_880, wd_881, wd_882, wd_47, wd_883, by decide, by decide, by decide +kernel⟩
theorem lv_L_35 : ej_LV RL 35 yX10_name i10_name (some .int) 1 := ⟨wd_937, wd_938, wd_939, wd_47, wd_940, by decide, by decide, by decide +kernel⟩
theorem lv_L_38 : ej_LV RL 38 yX10_kind i10_kind (some .int) 1 := ⟨wd_961, wd_962, wd_963, wd_47, wd_964, by decide, by decide, by decide +kernel⟩
theorem lv_L_41 : ej_LV RL 41 yX10_isPrivate i10_isPrivate (some .boolean) 1 := ⟨wd_972, wd_973, wd_974, wd_47, wd_975, by decide, by decide, by decide +kernel⟩
theorem lv_L_45 : ej_LV RL 45 yX10_linkCost i10_linkCost (some .int) 2 := ⟨wd_980, wd_981, wd_982, wd_47, wd_983, by decide, by decide, by decide +kernel⟩
theorem lv_L_49 : ej_LV RL 49 yX10_memberCost i10_memberCost (some .int) 2 := ⟨wd_991, wd_992, wd_993, wd_47, wd_994, by decide, by decide, by decide +kernel⟩
theorem lv_L_52 : ej_LV RL 52 yX10_cost i10_cost (some .int) 1 := ⟨wd_1002, wd_1003, wd_1004, wd_47, wd_1005, by decide, by decide, by decide +kernel⟩
theorem lv_L_55 : ej_LV RL 55 yX10_costByRounds i10_costByRounds (some .int) 1 := ⟨wd_1138, wd_1139, wd_1140, wd_47, wd_1141, by decide, by decide, by decide +kernel⟩
theorem lv_L_58 : ej_LV RL 58 yX10_steps i10_steps (some .int) 1 := ⟨wd_1130, wd_1131, wd_1132, wd_47, wd_1133, by decide, by decide, by decide +kernel⟩
theorem lv_L_61 : ej_LV RL 61 yX10_state i10_state (some .int) 1 := ⟨wd_1158, wd_1159, wd_1160, wd_47, wd_1161, by decide, by decide, by decide +kernel⟩
theorem lv_L_64 : ej_LV RL 64 yX10_nodeAt i10_nodeAt (some .int) 2 := ⟨wd_1162, wd_1163, wd_1164, wd_47, wd_1165, by decide, by decide, by decide +kernel⟩
theorem lv_L_67 : ej_LV RL 67 yX10_costAt i10_costAt (some .int) 2 := ⟨wd_1189, wd_1190, wd_1191, wd_47, wd_1192, by decide, by decide, by decide +kernel⟩
theorem lv_L_70 : ej_LV RL 70 yX10_stepAt i10_stepAt (some .int) 2 := ⟨wd_1181, wd_1182, wd_1183, wd_47, wd_1184, by decide, by decide, by decide +kernel⟩
theorem lv_L_73 : ej_LV RL 73 yX10_isBack i10_isBack (some .boolean) 2 := ⟨wd_1124, wd_1125, wd_1126, wd_47, wd_1127, by decide, by decide, by decide +kernel⟩
theorem lv_L_77 : ej_LV RL 77 yX10_print i10_print (some .int) 1 := ⟨wd_1199, wd_1200, wd_1201, wd_47, wd_1202, by decide, by decide, by decide +kernel⟩
theorem lv_L_9 : ej_LV RL 9 yX10_feed i10_feed (some .int) 2 := ⟨wd_400, wd_401, wd_402, wd_47, wd_403, by decide, by decide, by decide +kernel⟩
theorem lx_L_167 : ej_LX RL 167 yL_of iL_of (some .int) [(0, 202, 203, 29)] 4 := ⟨wd_1313, wd_1314, wd_46, ej_ws (List.mem_of_getElem? (i := 1315) (by decide +kernel)) (by decide +kernel), by decide, by decide, by decide +kernel⟩
theorem lx_L_80 : ej_LX RL 80 yL_act iL_act (some .int) [(0, 58, 59, 29), (0, 58, 65, 31), (0, 58, 71, 33)] 4 := ⟨wd_394, wd_395, wd_46, ej_ws (List.mem_of_getElem? (i := 396) (by decide +kernel)) (by decide +kernel), by decide, by decide, by decide +kernel⟩
