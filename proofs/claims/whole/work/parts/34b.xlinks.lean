theorem wd_19 : Cond.selects "MailRouter" ⟨"MailRouter", "drawMap", "(I)Z"⟩ ⟨"MailRouter", "drawMap", "(I)Z"⟩ ∈ ej_WS := ej_ws (List.mem_of_getElem? (i := 19) (by decide +kernel)) (by decide +kernel)
theorem wd_42 : Cond.selects "MailRouter" ⟨"MailRouter", "needNode", "(I)V"⟩ ⟨"MailRouter", "needNode", "(I)V"⟩ ∈ ej_WS := ej_ws (List.mem_of_getElem? (i := 42) (by decide +kernel)) (by decide +kernel)
theorem wd_45 : Cond.selects "MailRouter" ⟨"MailRouter", "needPlace", "(II)V"⟩ ⟨"MailRouter", "needPlace", "(II)V"⟩ ∈ ej_WS := ej_ws (List.mem_of_getElem? (i := 45) (by decide +kernel)) (by decide +kernel)
theorem wd_417 : Cond.fieldLink "MailRouter" 39 "MailRouter" "tokens" "LMailRouter$Tokens;" ∈ ej_WS := ej_ws (List.mem_of_getElem? (i := 417) (by decide +kernel)) (by decide +kernel)
theorem wd_418 : Cond.fieldLink "MailRouter" 48 "MailRouter" "sum" "LMailRouter$Sum;" ∈ ej_WS := ej_ws (List.mem_of_getElem? (i := 418) (by decide +kernel)) (by decide +kernel)
theorem wd_421 : Cond.fieldLink "MailRouter" 73 "MailRouter" "stepRules" "LMailRouter$Steps;" ∈ ej_WS := ej_ws (List.mem_of_getElem? (i := 421) (by decide +kernel)) (by decide +kernel)
theorem wd_845 : Cond.methodLink "MailRouter" 111 ⟨"MailRouter$Text", "append", "(I)V"⟩ ∈ ej_WS := ej_ws (List.mem_of_getElem? (i := 845) (by decide +kernel)) (by decide +kernel)
theorem wd_854 : Cond.methodLink "MailRouter" 114 ⟨"MailRouter", "isFile", "(I)Z"⟩ ∈ ej_WS := ej_ws (List.mem_of_getElem? (i := 854) (by decide +kernel)) (by decide +kernel)
theorem wd_855 : Cond.static ⟨"MailRouter", "isFile", "(I)Z"⟩ ∈ ej_WS := ej_ws (List.mem_of_getElem? (i := 855) (by decide +kernel)) (by decide +kernel)
theorem wd_856 : Cond.code ⟨"MailRouter", "isFile", "(I)Z"⟩ prog_1_method_27_code 1 (some .boolean) ∈ ej_WS := ej_ws (List.mem_of_getElem? (i := 856) (by decide +kernel)) (by decide +kernel)
theorem wd_873 : Cond.methodLink "MailRouter" 126 ⟨"MailRouter$Fault", "clear", "()V"⟩ ∈ ej_WS := ej_ws (List.mem_of_getElem? (i := 873) (by decide +kernel)) (by decide +kernel)
theorem wd_874 : Cond.instanceMethod ⟨"MailRouter$Fault", "clear", "()V"⟩ ∈ ej_WS := ej_ws (List.mem_of_getElem? (i := 874) (by decide +kernel)) (by decide +kernel)
theorem wd_875 : Cond.selects "MailRouter$Fault" ⟨"MailRouter$Fault", "clear", "()V"⟩ ⟨"MailRouter$Fault", "clear", "()V"⟩ ∈ ej_WS := ej_ws (List.mem_of_getElem? (i := 875) (by decide +kernel)) (by decide +kernel)
theorem wd_876 : Cond.code ⟨"MailRouter$Fault", "clear", "()V"⟩ prog_3_method_2_code 1 none ∈ ej_WS := ej_ws (List.mem_of_getElem? (i := 876) (by decide +kernel)) (by decide +kernel)
theorem wd_877 : Cond.methodLink "MailRouter" 127 ⟨"MailRouter", "drawMap", "(I)Z"⟩ ∈ ej_WS := ej_ws (List.mem_of_getElem? (i := 877) (by decide +kernel)) (by decide +kernel)
theorem wd_879 : Cond.instanceMethod ⟨"MailRouter", "drawMap", "(I)Z"⟩ ∈ ej_WS := ej_ws (List.mem_of_getElem? (i := 879) (by decide +kernel)) (by decide +kernel)
theorem wd_880 : Cond.code ⟨"MailRouter", "drawMap", "(I)Z"⟩ prog_1_method_30_code 3 (some .boolean) ∈ ej_WS := ej_ws (List.mem_of_getElem? (i := 880) (by decide +kernel)) (by decide +kernel)
theorem wd_1173 : Cond.methodLink "MailRouter" 130 ⟨"MailRouter$Text", "become", "(LMailRouter$Text;)V"⟩ ∈ ej_WS := ej_ws (List.mem_of_getElem? (i := 1173) (by decide +kernel)) (by decide +kernel)
theorem wd_1189 : Cond.methodLink "MailRouter" 136 ⟨"MailRouter$Tokens", "scan", "(LMailRouter$Text;)V"⟩ ∈ ej_WS := ej_ws (List.mem_of_getElem? (i := 1189) (by decide +kernel)) (by decide +kernel)
theorem wd_1190 : Cond.methodLink "MailRouter" 139 ⟨"MailRouter$Sum", "workOut", "(I)Z"⟩ ∈ ej_WS := ej_ws (List.mem_of_getElem? (i := 1190) (by decide +kernel)) (by decide +kernel)
theorem wd_1191 : Cond.methodLink "MailRouter" 142 ⟨"MailRouter$Sum", "faultCode", "()I"⟩ ∈ ej_WS := ej_ws (List.mem_of_getElem? (i := 1191) (by decide +kernel)) (by decide +kernel)
theorem wd_1192 : Cond.methodLink "MailRouter" 145 ⟨"MailRouter$Sum", "faultToken", "()I"⟩ ∈ ej_WS := ej_ws (List.mem_of_getElem? (i := 1192) (by decide +kernel)) (by decide +kernel)
theorem wd_1193 : Cond.methodLink "MailRouter" 148 ⟨"MailRouter$Tokens", "beginAt", "(I)I"⟩ ∈ ej_WS := ej_ws (List.mem_of_getElem? (i := 1193) (by decide +kernel)) (by decide +kernel)
theorem wd_1194 : Cond.methodLink "MailRouter" 156 ⟨"MailRouter$Sum", "next", "()I"⟩ ∈ ej_WS := ej_ws (List.mem_of_getElem? (i := 1194) (by decide +kernel)) (by decide +kernel)
theorem wd_1195 : Cond.methodLink "MailRouter" 159 ⟨"MailRouter$Tokens", "sortAt", "(I)I"⟩ ∈ ej_WS := ej_ws (List.mem_of_getElem? (i := 1195) (by decide +kernel)) (by decide +kernel)
theorem wd_1197 : Cond.methodLink "MailRouter" 167 ⟨"MailRouter$Sum", "result", "()I"⟩ ∈ ej_WS := ej_ws (List.mem_of_getElem? (i := 1197) (by decide +kernel)) (by decide +kernel)
theorem wd_1206 : Cond.methodLink "MailRouter" 179 ⟨"MailRouter$Ways", "beginAt", "(J)V"⟩ ∈ ej_WS := ej_ws (List.mem_of_getElem? (i := 1206) (by decide +kernel)) (by decide +kernel)
theorem wd_1207 : Cond.instanceMethod ⟨"MailRouter$Ways", "beginAt", "(J)V"⟩ ∈ ej_WS := ej_ws (List.mem_of_getElem? (i := 1207) (by decide +kernel)) (by decide +kernel)
theorem wd_1208 : Cond.selects "MailRouter$Ways" ⟨"MailRouter$Ways", "beginAt", "(J)V"⟩ ⟨"MailRouter$Ways", "beginAt", "(J)V"⟩ ∈ ej_WS := ej_ws (List.mem_of_getElem? (i := 1208) (by decide +kernel)) (by decide +kernel)
theorem wd_1209 : Cond.code ⟨"MailRouter$Ways", "beginAt", "(J)V"⟩ prog_11_method_2_code 3 none ∈ ej_WS := ej_ws (List.mem_of_getElem? (i := 1209) (by decide +kernel)) (by decide +kernel)
theorem wd_1218 : Cond.methodLink "MailRouter" 192 ⟨"MailRouter", "needNode", "(I)V"⟩ ∈ ej_WS := ej_ws (List.mem_of_getElem? (i := 1218) (by decide +kernel)) (by decide +kernel)
theorem wd_1220 : Cond.instanceMethod ⟨"MailRouter", "needNode", "(I)V"⟩ ∈ ej_WS := ej_ws (List.mem_of_getElem? (i := 1220) (by decide +kernel)) (by decide +kernel)
theorem wd_1221 : Cond.code ⟨"MailRouter", "needNode", "(I)V"⟩ prog_1_method_28_code 2 none ∈ ej_WS := ej_ws (List.mem_of_getElem? (i := 1221) (by decide +kernel)) (by decide +kernel)
theorem wd_1222 : Cond.methodLink "MailRouter" 254 ⟨"MailRouter$Atlas", "has", "(I)Z"⟩ ∈ ej_WS := ej_ws (List.mem_of_getElem? (i := 1222) (by decide +kernel)) (by decide +kernel)
theorem wd_1224 : Cond.methodLink "MailRouter" 195 ⟨"MailRouter$Atlas", "nameOf", "(I)J"⟩ ∈ ej_WS := ej_ws (List.mem_of_getElem? (i := 1224) (by decide +kernel)) (by decide +kernel)
theorem wd_1225 : Cond.methodLink "MailRouter" 199 ⟨"MailRouter$Text", "appendName", "(J)V"⟩ ∈ ej_WS := ej_ws (List.mem_of_getElem? (i := 1225) (by decide +kernel)) (by decide +kernel)
theorem wd_1233 : Cond.methodLink "MailRouter" 202 ⟨"MailRouter$Atlas", "kindOf", "(I)I"⟩ ∈ ej_WS := ej_ws (List.mem_of_getElem? (i := 1233) (by decide +kernel)) (by decide +kernel)
theorem wd_1241 : Cond.methodLink "MailRouter" 205 ⟨"MailRouter$Atlas", "isOwned", "(I)Z"⟩ ∈ ej_WS := ej_ws (List.mem_of_getElem? (i := 1241) (by decide +kernel)) (by decide +kernel)
theorem wd_1249 : Cond.methodLink "MailRouter" 208 ⟨"MailRouter$Atlas", "priceOfLink", "(II)I"⟩ ∈ ej_WS := ej_ws (List.mem_of_getElem? (i := 1249) (by decide +kernel)) (by decide +kernel)
theorem wd_1257 : Cond.methodLink "MailRouter" 212 ⟨"MailRouter$Atlas", "priceOfMember", "(II)I"⟩ ∈ ej_WS := ej_ws (List.mem_of_getElem? (i := 1257) (by decide +kernel)) (by decide +kernel)
theorem wd_1265 : Cond.methodLink "MailRouter" 217 ⟨"MailRouter$Ways", "routeKey", "(I)I"⟩ ∈ ej_WS := ej_ws (List.mem_of_getElem? (i := 1265) (by decide +kernel)) (by decide +kernel)
theorem wd_1266 : Cond.methodLink "MailRouter" 220 ⟨"MailRouter$Ways", "costOfKey", "(I)I"⟩ ∈ ej_WS := ej_ws (List.mem_of_getElem? (i := 1266) (by decide +kernel)) (by decide +kernel)
theorem wd_1267 : Cond.instanceMethod ⟨"MailRouter$Ways", "costOfKey", "(I)I"⟩ ∈ ej_WS := ej_ws (List.mem_of_getElem? (i := 1267) (by decide +kernel)) (by decide +kernel)
theorem wd_1268 : Cond.selects "MailRouter$Ways" ⟨"MailRouter$Ways", "costOfKey", "(I)I"⟩ ⟨"MailRouter$Ways", "costOfKey", "(I)I"⟩ ∈ ej_WS := ej_ws (List.mem_of_getElem? (i := 1268) (by decide +kernel)) (by decide +kernel)
theorem wd_1269 : Cond.code ⟨"MailRouter$Ways", "costOfKey", "(I)I"⟩ prog_11_method_5_code 2 (some .int) ∈ ej_WS := ej_ws (List.mem_of_getElem? (i := 1269) (by decide +kernel)) (by decide +kernel)
theorem wd_1277 : Cond.methodLink "MailRouter" 223 ⟨"MailRouter$Ways", "findByRounds", "()V"⟩ ∈ ej_WS := ej_ws (List.mem_of_getElem? (i := 1277) (by decide +kernel)) (by decide +kernel)
theorem wd_1278 : Cond.instanceMethod ⟨"MailRouter$Ways", "findByRounds", "()V"⟩ ∈ ej_WS := ej_ws (List.mem_of_getElem? (i := 1278) (by decide +kernel)) (by decide +kernel)
theorem wd_1279 : Cond.selects "MailRouter$Ways" ⟨"MailRouter$Ways", "findByRounds", "()V"⟩ ⟨"MailRouter$Ways", "findByRounds", "()V"⟩ ∈ ej_WS := ej_ws (List.mem_of_getElem? (i := 1279) (by decide +kernel)) (by decide +kernel)
theorem wd_1280 : Cond.code ⟨"MailRouter$Ways", "findByRounds", "()V"⟩ prog_11_method_17_code 5 none ∈ ej_WS := ej_ws (List.mem_of_getElem? (i := 1280) (by decide +kernel)) (by decide +kernel)
theorem wd_1289 : Cond.methodLink "MailRouter" 226 ⟨"MailRouter$Ways", "leastByRounds", "(I)I"⟩ ∈ ej_WS := ej_ws (List.mem_of_getElem? (i := 1289) (by decide +kernel)) (by decide +kernel)
theorem wd_1290 : Cond.instanceMethod ⟨"MailRouter$Ways", "leastByRounds", "(I)I"⟩ ∈ ej_WS := ej_ws (List.mem_of_getElem? (i := 1290) (by decide +kernel)) (by decide +kernel)
theorem wd_1291 : Cond.selects "MailRouter$Ways" ⟨"MailRouter$Ways", "leastByRounds", "(I)I"⟩ ⟨"MailRouter$Ways", "leastByRounds", "(I)I"⟩ ∈ ej_WS := ej_ws (List.mem_of_getElem? (i := 1291) (by decide +kernel)) (by decide +kernel)
theorem wd_1292 : Cond.code ⟨"MailRouter$Ways", "leastByRounds", "(I)I"⟩ prog_11_method_11_code 4 (some .int) ∈ ej_WS := ej_ws (List.mem_of_getElem? (i := 1292) (by decide +kernel)) (by decide +kernel)
theorem wd_1300 : Cond.methodLink "MailRouter" 229 ⟨"MailRouter$Ways", "lengthOfKey", "(I)I"⟩ ∈ ej_WS := ej_ws (List.mem_of_getElem? (i := 1300) (by decide +kernel)) (by decide +kernel)
theorem wd_1315 : Cond.methodLink "MailRouter" 232 ⟨"MailRouter", "needPlace", "(II)V"⟩ ∈ ej_WS := ej_ws (List.mem_of_getElem? (i := 1315) (by decide +kernel)) (by decide +kernel)
theorem wd_1317 : Cond.instanceMethod ⟨"MailRouter", "needPlace", "(II)V"⟩ ∈ ej_WS := ej_ws (List.mem_of_getElem? (i := 1317) (by decide +kernel)) (by decide +kernel)
theorem wd_1318 : Cond.code ⟨"MailRouter", "needPlace", "(II)V"⟩ prog_1_method_29_code 3 none ∈ ej_WS := ej_ws (List.mem_of_getElem? (i := 1318) (by decide +kernel)) (by decide +kernel)
theorem wd_1319 : Cond.methodLink "MailRouter" 259 ⟨"MailRouter$Ways", "layOut", "(I)I"⟩ ∈ ej_WS := ej_ws (List.mem_of_getElem? (i := 1319) (by decide +kernel)) (by decide +kernel)
theorem wd_1321 : Cond.methodLink "MailRouter" 236 ⟨"MailRouter$Ways", "keyOn", "(I)I"⟩ ∈ ej_WS := ej_ws (List.mem_of_getElem? (i := 1321) (by decide +kernel)) (by decide +kernel)
theorem wd_1336 : Cond.methodLink "MailRouter" 239 ⟨"MailRouter$Ways", "kindOfKey", "(I)I"⟩ ∈ ej_WS := ej_ws (List.mem_of_getElem? (i := 1336) (by decide +kernel)) (by decide +kernel)
theorem wd_1344 : Cond.methodLink "MailRouter" 242 ⟨"MailRouter$Steps", "hasBack", "(II)Z"⟩ ∈ ej_WS := ej_ws (List.mem_of_getElem? (i := 1344) (by decide +kernel)) (by decide +kernel)
theorem wd_1352 : Cond.methodLink "MailRouter" 245 ⟨"MailRouter$Printer", "writeRouteOf", "(I)V"⟩ ∈ ej_WS := ej_ws (List.mem_of_getElem? (i := 1352) (by decide +kernel)) (by decide +kernel)
theorem wd_1353 : Cond.instanceMethod ⟨"MailRouter$Printer", "writeRouteOf", "(I)V"⟩ ∈ ej_WS := ej_ws (List.mem_of_getElem? (i := 1353) (by decide +kernel)) (by decide +kernel)
theorem wd_1354 : Cond.selects "MailRouter$Printer" ⟨"MailRouter$Printer", "writeRouteOf", "(I)V"⟩ ⟨"MailRouter$Printer", "writeRouteOf", "(I)V"⟩ ∈ ej_WS := ej_ws (List.mem_of_getElem? (i := 1354) (by decide +kernel)) (by decide +kernel)
theorem wd_1355 : Cond.code ⟨"MailRouter$Printer", "writeRouteOf", "(I)V"⟩ prog_4_method_2_code 3 none ∈ ej_WS := ej_ws (List.mem_of_getElem? (i := 1355) (by decide +kernel)) (by decide +kernel)
theorem fl_X10_39 : ej_FL RX10 39 9 5 (.object "MailRouter$Tokens") true := ⟨RX10, TX10, 12, tyX10, rfl, Nat.le_of_ble_eq_true rfl, ws_X10, wd_417, rfl, tyX10_ok 5 (by decide), tyX10_ok, nmX10⟩
theorem fl_X10_48 : ej_FL RX10 48 9 6 (.object "MailRouter$Sum") true := ⟨RX10, TX10, 12, tyX10, rfl, Nat.le_of_ble_eq_true rfl, ws_X10, wd_418, rfl, tyX10_ok 6 (by decide), tyX10_ok, nmX10⟩
theorem fl_X10_73 : ej_FL RX10 73 9 9 (.object "MailRouter$Steps") true := ⟨RX10, TX10, 12, tyX10, rfl, Nat.le_of_ble_eq_true rfl, ws_X10, wd_421, rfl, tyX10_ok 9 (by decide), tyX10_ok, nmX10⟩
theorem ls_X10_114 : ej_LS RX10 114 yX10_isFile i10_isFile (some .boolean) 1 := ⟨wd_854, wd_855, wd_106, wd_856, by decide, by decide, by decide +kernel⟩
theorem lv_X10_111 : ej_LV RX10 111 yX7_append i7_append none 1 := ⟨wd_845, wd_731, wd_732, wd_107, wd_733, by decide, by decide, by decide +kernel⟩
theorem lv_X10_126 : ej_LV RX10 126 yX1_clear i1_clear none 0 := ⟨wd_873, wd_874, wd_875, wd_109, wd_876, by decide, by decide, by decide +kernel⟩
theorem lv_X10_127 : ej_LV RX10 127 yX10_drawMap i10_drawMap (some .boolean) 1 := ⟨wd_877, wd_879, wd_19, wd_106, wd_880, by decide, by decide, by decide +kernel⟩
theorem lv_X10_130 : ej_LV RX10 130 yX7_become i7_become none 1 := ⟨wd_1173, wd_898, wd_899, wd_107, wd_900, by decide, by decide, by decide +kernel⟩
theorem lv_X10_136 : ej_LV RX10 136 yX8_scan i8_scan none 1 := ⟨wd_1189, wd_894, wd_895, wd_110, wd_896, by decide, by decide, by decide +kernel⟩
theorem lv_X10_139 : ej_LV RX10 139 yX6_workOut i6_workOut (some .boolean) 1 := ⟨wd_1190, wd_1079, wd_1080, wd_111, wd_1081, by decide, by decide, by decide +kernel⟩
theorem lv_X10_142 : ej_LV RX10 142 yX6_faultCode i6_faultCode (some .int) 0 := ⟨wd_1191, wd_1126, wd_1127, wd_111, wd_1128, by decide, by decide, by decide +kernel⟩
theorem lv_X10_145 : ej_LV RX10 145 yX6_faultToken i6_faultToken (some .int) 0 := ⟨wd_1192, wd_1130, wd_1131, wd_111, wd_1132, by decide, by decide, by decide +kernel⟩
theorem lv_X10_148 : ej_LV RX10 148 yX8_beginAt i8_beginAt (some .int) 1 := ⟨wd_1193, wd_1012, wd_1013, wd_110, wd_1014, by decide, by decide, by decide +kernel⟩
theorem lv_X10_156 : ej_LV RX10 156 yX6_next i6_next (some .int) 0 := ⟨wd_1194, wd_1134, wd_1135, wd_111, wd_1136, by decide, by decide, by decide +kernel⟩
theorem lv_X10_159 : ej_LV RX10 159 yX8_sortAt i8_sortAt (some .int) 1 := ⟨wd_1195, wd_1004, wd_1005, wd_110, wd_1006, by decide, by decide, by decide +kernel⟩
theorem lv_X10_167 : ej_LV RX10 167 yX6_result i6_result (some .int) 0 := ⟨wd_1197, wd_1138, wd_1139, wd_111, wd_1140, by decide, by decide, by decide +kernel⟩
theorem lv_X10_179 : ej_LV RX10 179 yX9_beginAt i9_beginAt none 1 := ⟨wd_1206, wd_1207, wd_1208, wd_115, wd_1209, by decide, by decide, by decide +kernel⟩
theorem lv_X10_192 : ej_LV RX10 192 yX10_needNode i10_needNode none 1 := ⟨wd_1218, wd_1220, wd_42, wd_106, wd_1221, by decide, by decide, by decide +kernel⟩
theorem lv_X10_195 : ej_LV RX10 195 yX0_nameOf i0_nameOf (some .long) 1 := ⟨wd_1224, wd_664, wd_665, wd_112, wd_666, by decide, by decide, by decide +kernel⟩
theorem lv_X10_199 : ej_LV RX10 199 yX7_appendName i7_appendName none 1 := ⟨wd_1225, wd_726, wd_727, wd_107, wd_728, by decide, by decide, by decide +kernel⟩
theorem lv_X10_202 : ej_LV RX10 202 yX0_kindOf i0_kindOf (some .int) 1 := ⟨wd_1233, wd_717, wd_718, wd_112, wd_719, by decide, by decide, by decide +kernel⟩
theorem lv_X10_205 : ej_LV RX10 205 yX0_isOwned i0_isOwned (some .boolean) 1 := ⟨wd_1241, wd_675, wd_676, wd_112, wd_677, by decide, by decide, by decide +kernel⟩
theorem lv_X10_208 : ej_LV RX10 208 yX0_priceOfLink i0_priceOfLink (some .int) 2 := ⟨wd_1249, wd_586, wd_587, wd_112, wd_588, by decide, by decide, by decide +kernel⟩
theorem lv_X10_212 : ej_LV RX10 212 yX0_priceOfMember i0_priceOfMember (some .int) 2 := ⟨wd_1257, wd_598, wd_599, wd_112, wd_600, by decide, by decide, by decide +kernel⟩
theorem lv_X10_217 : ej_LV RX10 217 yX9_routeKey i9_routeKey (some .int) 1 := ⟨wd_1265, wd_679, wd_680, wd_115, wd_681, by decide, by decide, by decide +kernel⟩
theorem lv_X10_220 : ej_LV RX10 220 yX9_costOfKey i9_costOfKey (some .int) 1 := ⟨wd_1266, wd_1267, wd_1268, wd_115, wd_1269, by decide, by decide, by decide +kernel⟩
theorem lv_X10_223 : ej_LV RX10 223 yX9_findByRounds i9_findByRounds none 0 := ⟨wd_1277, wd_1278, wd_1279, wd_115, wd_1280, by decide, by decide, by decide +kernel⟩
theorem lv_X10_226 : ej_LV RX10 226 yX9_leastByRounds i9_leastByRounds (some .int) 1 := ⟨wd_1289, wd_1290, wd_1291, wd_115, wd_1292, by decide, by decide, by decide +kernel⟩
theorem lv_X10_229 : ej_LV RX10 229 yX9_lengthOfKey i9_lengthOfKey (some .int) 1 := ⟨wd_1300, wd_693, wd_694, wd_115, wd_695, by decide, by decide, by decide +kernel⟩
theorem lv_X10_232 : ej_LV RX10 232 yX10_needPlace i10_needPlace none 2 := ⟨wd_1315, wd_1317, wd_45, wd_106, wd_1318, by decide, by decide, by decide +kernel⟩
theorem lv_X10_236 : ej_LV RX10 236 yX9_keyOn i9_keyOn (some .int) 1 := ⟨wd_1321, wd_709, wd_710, wd_115, wd_711, by decide, by decide, by decide +kernel⟩
theorem lv_X10_239 : ej_LV RX10 239 yX9_kindOfKey i9_kindOfKey (some .int) 1 := ⟨wd_1336, wd_713, wd_714, wd_115, wd_715, by decide, by decide, by decide +kernel⟩
theorem lv_X10_242 : ej_LV RX10 242 yX5_hasBack i5_hasBack (some .boolean) 2 := ⟨wd_1344, wd_607, wd_608, wd_114, wd_609, by decide, by decide, by decide +kernel⟩
theorem lv_X10_245 : ej_LV RX10 245 yX2_writeRouteOf i2_writeRouteOf none 1 := ⟨wd_1352, wd_1353, wd_1354, wd_116, wd_1355, by decide, by decide, by decide +kernel⟩
theorem lv_X10_254 : ej_LV RX10 254 yX0_has i0_has (some .boolean) 1 := ⟨wd_1222, wd_541, wd_542, wd_112, wd_543, by decide, by decide, by decide +kernel⟩
theorem lv_X10_259 : ej_LV RX10 259 yX9_layOut i9_layOut (some .int) 1 := ⟨wd_1319, wd_688, wd_689, wd_115, wd_690, by decide, by decide, by decide +kernel⟩
