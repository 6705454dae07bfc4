theorem wd_1 : Cond.selects "MailRouter" ⟨"MailRouter", "drawMap", "(I)Z"⟩ ⟨"MailRouter", "drawMap", "(I)Z"⟩ ∈ ej_WS := ej_ws (List.mem_of_getElem? (i := 1) (by decide +kernel)) (by decide +kernel)
theorem wd_24 : Cond.selects "MailRouter" ⟨"MailRouter", "needNode", "(I)V"⟩ ⟨"MailRouter", "needNode", "(I)V"⟩ ∈ ej_WS := ej_ws (List.mem_of_getElem? (i := 24) (by decide +kernel)) (by decide +kernel)
theorem wd_34 : Cond.selects "MailRouter" ⟨"MailRouter", "needPlace", "(II)V"⟩ ⟨"MailRouter", "needPlace", "(II)V"⟩ ∈ ej_WS := ej_ws (List.mem_of_getElem? (i := 34) (by decide +kernel)) (by decide +kernel)
theorem wd_357 : Cond.fieldLink "MailRouter" 39 "MailRouter" "tokens" "LMailRouter$Tokens;" ∈ ej_WS := ej_ws (List.mem_of_getElem? (i := 357) (by decide +kernel)) (by decide +kernel)
theorem wd_358 : Cond.fieldLink "MailRouter" 48 "MailRouter" "sum" "LMailRouter$Sum;" ∈ ej_WS := ej_ws (List.mem_of_getElem? (i := 358) (by decide +kernel)) (by decide +kernel)
theorem wd_361 : Cond.fieldLink "MailRouter" 73 "MailRouter" "stepRules" "LMailRouter$Steps;" ∈ ej_WS := ej_ws (List.mem_of_getElem? (i := 361) (by decide +kernel)) (by decide +kernel)
theorem wd_491 : Cond.methodLink "MailRouter" 111 ⟨"MailRouter$Text", "append", "(I)V"⟩ ∈ ej_WS := ej_ws (List.mem_of_getElem? (i := 491) (by decide +kernel)) (by decide +kernel)
theorem wd_499 : Cond.methodLink "MailRouter" 114 ⟨"MailRouter", "isFile", "(I)Z"⟩ ∈ ej_WS := ej_ws (List.mem_of_getElem? (i := 499) (by decide +kernel)) (by decide +kernel)
theorem wd_500 : Cond.static ⟨"MailRouter", "isFile", "(I)Z"⟩ ∈ ej_WS := ej_ws (List.mem_of_getElem? (i := 500) (by decide +kernel)) (by decide +kernel)
theorem wd_501 : Cond.code ⟨"MailRouter", "isFile", "(I)Z"⟩ prog_1_method_27_code 1 (some .boolean) ∈ ej_WS := ej_ws (List.mem_of_getElem? (i := 501) (by decide +kernel)) (by decide +kernel)
theorem wd_522 : Cond.methodLink "MailRouter" 126 ⟨"MailRouter$Fault", "clear", "()V"⟩ ∈ ej_WS := ej_ws (List.mem_of_getElem? (i := 522) (by decide +kernel)) (by decide +kernel)
theorem wd_523 : Cond.instanceMethod ⟨"MailRouter$Fault", "clear", "()V"⟩ ∈ ej_WS := ej_ws (List.mem_of_getElem? (i := 523) (by decide +kernel)) (by decide +kernel)
theorem wd_524 : Cond.selects "MailRouter$Fault" ⟨"MailRouter$Fault", "clear", "()V"⟩ ⟨"MailRouter$Fault", "clear", "()V"⟩ ∈ ej_WS := ej_ws (List.mem_of_getElem? (i := 524) (by decide +kernel)) (by decide +kernel)
theorem wd_525 : Cond.code ⟨"MailRouter$Fault", "clear", "()V"⟩ prog_3_method_2_code 1 none ∈ ej_WS := ej_ws (List.mem_of_getElem? (i := 525) (by decide +kernel)) (by decide +kernel)
theorem wd_526 : Cond.methodLink "MailRouter" 127 ⟨"MailRouter", "drawMap", "(I)Z"⟩ ∈ ej_WS := ej_ws (List.mem_of_getElem? (i := 526) (by decide +kernel)) (by decide +kernel)
theorem wd_528 : Cond.instanceMethod ⟨"MailRouter", "drawMap", "(I)Z"⟩ ∈ ej_WS := ej_ws (List.mem_of_getElem? (i := 528) (by decide +kernel)) (by decide +kernel)
theorem wd_529 : Cond.code ⟨"MailRouter", "drawMap", "(I)Z"⟩ prog_1_method_30_code 3 (some .boolean) ∈ ej_WS := ej_ws (List.mem_of_getElem? (i := 529) (by decide +kernel)) (by decide +kernel)
theorem wd_857 : Cond.methodLink "MailRouter" 130 ⟨"MailRouter$Text", "become", "(LMailRouter$Text;)V"⟩ ∈ ej_WS := ej_ws (List.mem_of_getElem? (i := 857) (by decide +kernel)) (by decide +kernel)
theorem wd_867 : Cond.methodLink "MailRouter" 136 ⟨"MailRouter$Tokens", "scan", "(LMailRouter$Text;)V"⟩ ∈ ej_WS := ej_ws (List.mem_of_getElem? (i := 867) (by decide +kernel)) (by decide +kernel)
theorem wd_868 : Cond.methodLink "MailRouter" 139 ⟨"MailRouter$Sum", "workOut", "(I)Z"⟩ ∈ ej_WS := ej_ws (List.mem_of_getElem? (i := 868) (by decide +kernel)) (by decide +kernel)
theorem wd_869 : Cond.methodLink "MailRouter" 142 ⟨"MailRouter$Sum", "faultCode", "()I"⟩ ∈ ej_WS := ej_ws (List.mem_of_getElem? (i := 869) (by decide +kernel)) (by decide +kernel)
theorem wd_870 : Cond.methodLink "MailRouter" 145 ⟨"MailRouter$Sum", "faultToken", "()I"⟩ ∈ ej_WS := ej_ws (List.mem_of_getElem? (i := 870) (by decide +kernel)) (by decide +kernel)
theorem wd_871 : Cond.methodLink "MailRouter" 148 ⟨"MailRouter$Tokens", "beginAt", "(I)I"⟩ ∈ ej_WS := ej_ws (List.mem_of_getElem? (i := 871) (by decide +kernel)) (by decide +kernel)
theorem wd_872 : Cond.methodLink "MailRouter" 156 ⟨"MailRouter$Sum", "next", "()I"⟩ ∈ ej_WS := ej_ws (List.mem_of_getElem? (i := 872) (by decide +kernel)) (by decide +kernel)
theorem wd_873 : Cond.methodLink "MailRouter" 159 ⟨"MailRouter$Tokens", "sortAt", "(I)I"⟩ ∈ ej_WS := ej_ws (List.mem_of_getElem? (i := 873) (by decide +kernel)) (by decide +kernel)
theorem wd_879 : Cond.methodLink "MailRouter" 167 ⟨"MailRouter$Sum", "result", "()I"⟩ ∈ ej_WS := ej_ws (List.mem_of_getElem? (i := 879) (by decide +kernel)) (by decide +kernel)
theorem wd_892 : Cond.methodLink "MailRouter" 179 ⟨"MailRouter$Ways", "beginAt", "(J)V"⟩ ∈ ej_WS := ej_ws (List.mem_of_getElem? (i := 892) (by decide +kernel)) (by decide +kernel)
theorem wd_893 : Cond.instanceMethod ⟨"MailRouter$Ways", "beginAt", "(J)V"⟩ ∈ ej_WS := ej_ws (List.mem_of_getElem? (i := 893) (by decide +kernel)) (by decide +kernel)
theorem wd_894 : Cond.selects "MailRouter$Ways" ⟨"MailRouter$Ways", "beginAt", "(J)V"⟩ ⟨"MailRouter$Ways", "beginAt", "(J)V"⟩ ∈ ej_WS := ej_ws (List.mem_of_getElem? (i := 894) (by decide +kernel)) (by decide +kernel)
theorem wd_895 : Cond.code ⟨"MailRouter$Ways", "beginAt", "(J)V"⟩ prog_11_method_2_code 3 none ∈ ej_WS := ej_ws (List.mem_of_getElem? (i := 895) (by decide +kernel)) (by decide +kernel)
theorem wd_941 : Cond.methodLink "MailRouter" 192 ⟨"MailRouter", "needNode", "(I)V"⟩ ∈ ej_WS := ej_ws (List.mem_of_getElem? (i := 941) (by decide +kernel)) (by decide +kernel)
theorem wd_943 : Cond.instanceMethod ⟨"MailRouter", "needNode", "(I)V"⟩ ∈ ej_WS := ej_ws (List.mem_of_getElem? (i := 943) (by decide +kernel)) (by decide +kernel)
theorem wd_944 : Cond.code ⟨"MailRouter", "needNode", "(I)V"⟩ prog_1_method_28_code 2 none ∈ ej_WS := ej_ws (List.mem_of_getElem? (i := 944) (by decide +kernel)) (by decide +kernel)
theorem wd_945 : Cond.methodLink "MailRouter" 254 ⟨"MailRouter$Atlas", "has", "(I)Z"⟩ ∈ ej_WS := ej_ws (List.mem_of_getElem? (i := 945) (by decide +kernel)) (by decide +kernel)
theorem wd_947 : Cond.methodLink "MailRouter" 195 ⟨"MailRouter$Atlas", "nameOf", "(I)J"⟩ ∈ ej_WS := ej_ws (List.mem_of_getElem? (i := 947) (by decide +kernel)) (by decide +kernel)
theorem wd_951 : Cond.methodLink "MailRouter" 199 ⟨"MailRouter$Text", "appendName", "(J)V"⟩ ∈ ej_WS := ej_ws (List.mem_of_getElem? (i := 951) (by decide +kernel)) (by decide +kernel)
theorem wd_965 : Cond.methodLink "MailRouter" 202 ⟨"MailRouter$Atlas", "kindOf", "(I)I"⟩ ∈ ej_WS := ej_ws (List.mem_of_getElem? (i := 965) (by decide +kernel)) (by decide +kernel)
theorem wd_976 : Cond.methodLink "MailRouter" 205 ⟨"MailRouter$Atlas", "isOwned", "(I)Z"⟩ ∈ ej_WS := ej_ws (List.mem_of_getElem? (i := 976) (by decide +kernel)) (by decide +kernel)
theorem wd_984 : Cond.methodLink "MailRouter" 208 ⟨"MailRouter$Atlas", "priceOfLink", "(II)I"⟩ ∈ ej_WS := ej_ws (List.mem_of_getElem? (i := 984) (by decide +kernel)) (by decide +kernel)
theorem wd_995 : Cond.methodLink "MailRouter" 212 ⟨"MailRouter$Atlas", "priceOfMember", "(II)I"⟩ ∈ ej_WS := ej_ws (List.mem_of_getElem? (i := 995) (by decide +kernel)) (by decide +kernel)
theorem wd_1110 : Cond.methodLink "MailRouter" 217 ⟨"MailRouter$Ways", "routeKey", "(I)I"⟩ ∈ ej_WS := ej_ws (List.mem_of_getElem? (i := 1110) (by decide +kernel)) (by decide +kernel)
theorem wd_1114 : Cond.methodLink "MailRouter" 220 ⟨"MailRouter$Ways", "costOfKey", "(I)I"⟩ ∈ ej_WS := ej_ws (List.mem_of_getElem? (i := 1114) (by decide +kernel)) (by decide +kernel)
theorem wd_1115 : Cond.instanceMethod ⟨"MailRouter$Ways", "costOfKey", "(I)I"⟩ ∈ ej_WS := ej_ws (List.mem_of_getElem? (i := 1115) (by decide +kernel)) (by decide +kernel)
theorem wd_1116 : Cond.selects "MailRouter$Ways" ⟨"MailRouter$Ways", "costOfKey", "(I)I"⟩ ⟨"MailRouter$Ways", "costOfKey", "(I)I"⟩ ∈ ej_WS := ej_ws (List.mem_of_getElem? (i := 1116) (by decide +kernel)) (by decide +kernel)
theorem wd_1117 : Cond.code ⟨"MailRouter$Ways", "costOfKey", "(I)I"⟩ prog_11_method_5_code 2 (some .int) ∈ ej_WS := ej_ws (List.mem_of_getElem? (i := 1117) (by decide +kernel)) (by decide +kernel)
theorem wd_1128 : Cond.methodLink "MailRouter" 242 ⟨"MailRouter$Steps", "hasBack", "(II)Z"⟩ ∈ ej_WS := ej_ws (List.mem_of_getElem? (i := 1128) (by decide +kernel)) (by decide +kernel)
theorem wd_1134 : Cond.methodLink "MailRouter" 229 ⟨"MailRouter$Ways", "lengthOfKey", "(I)I"⟩ ∈ ej_WS := ej_ws (List.mem_of_getElem? (i := 1134) (by decide +kernel)) (by decide +kernel)
theorem wd_1142 : Cond.methodLink "MailRouter" 223 ⟨"MailRouter$Ways", "findByRounds", "()V"⟩ ∈ ej_WS := ej_ws (List.mem_of_getElem? (i := 1142) (by decide +kernel)) (by decide +kernel)
theorem wd_1143 : Cond.instanceMethod ⟨"MailRouter$Ways", "findByRounds", "()V"⟩ ∈ ej_WS := ej_ws (List.mem_of_getElem? (i := 1143) (by decide +kernel)) (by decide +kernel)
theorem wd_1144 : Cond.selects "MailRouter$Ways" ⟨"MailRouter$Ways", "findByRounds", "()V"⟩ ⟨"MailRouter$Ways", "findByRounds", "()V"⟩ ∈ ej_WS := ej_ws (List.mem_of_getElem? (i := 1144) (by decide +kernel)) (by decide +kernel)
theorem wd_1145 : Cond.code ⟨"MailRouter$Ways", "findByRounds", "()V"⟩ prog_11_method_17_code 5 none ∈ ej_WS := ej_ws (List.mem_of_getElem? (i := 1145) (by decide +kernel)) (by decide +kernel)
theorem wd_1154 : Cond.methodLink "MailRouter" 226 ⟨"MailRouter$Ways", "leastByRounds", "(I)I"⟩ ∈ ej_WS := ej_ws (List.mem_of_getElem? (i := 1154) (by decide +kernel)) (by decide +kernel)
theorem wd_1155 : Cond.instanceMethod ⟨"MailRouter$Ways", "leastByRounds", "(I)I"⟩ ∈ ej_WS := ej_ws (List.mem_of_getElem? (i := 1155) (by decide +kernel)) (by decide +kernel)
theorem wd_1156 : Cond.selects "MailRouter$Ways" ⟨"MailRouter$Ways", "leastByRounds", "(I)I"⟩ ⟨"MailRouter$Ways", "leastByRounds", "(I)I"⟩ ∈ ej_WS := ej_ws (List.mem_of_getElem? (i := 1156) (by decide +kernel)) (by decide +kernel)
theorem wd_1157 : Cond.code ⟨"MailRouter$Ways", "leastByRounds", "(I)I"⟩ prog_11_method_11_code 4 (some .int) ∈ ej_WS := ej_ws (List.mem_of_getElem? (i := 1157) (by decide +kernel)) (by decide +kernel)
theorem wd_1166 : Cond.methodLink "MailRouter" 232 ⟨"MailRouter", "needPlace", "(II)V"⟩ ∈ ej_WS := ej_ws (List.mem_of_getElem? (i := 1166) (by decide +kernel)) (by decide +kernel)
theorem wd_1168 : Cond.instanceMethod ⟨"MailRouter", "needPlace", "(II)V"⟩ ∈ ej_WS := ej_ws (List.mem_of_getElem? (i := 1168) (by decide +kernel)) (by decide +kernel)
theorem wd_1169 : Cond.code ⟨"MailRouter", "needPlace", "(II)V"⟩ prog_1_method_29_code 3 none ∈ ej_WS := ej_ws (List.mem_of_getElem? (i := 1169) (by decide +kernel)) (by decide +kernel)
theorem wd_1170 : Cond.methodLink "MailRouter" 259 ⟨"MailRouter$Ways", "layOut", "(I)I"⟩ ∈ ej_WS := ej_ws (List.mem_of_getElem? (i := 1170) (by decide +kernel)) (by decide +kernel)
theorem wd_1177 : Cond.methodLink "MailRouter" 236 ⟨"MailRouter$Ways", "keyOn", "(I)I"⟩ ∈ ej_WS := ej_ws (List.mem_of_getElem? (i := 1177) (by decide +kernel)) (by decide +kernel)
theorem wd_1185 : Cond.methodLink "MailRouter" 239 ⟨"MailRouter$Ways", "kindOfKey", "(I)I"⟩ ∈ ej_WS := ej_ws (List.mem_of_getElem? (i := 1185) (by decide +kernel)) (by decide +kernel)
theorem wd_1203 : Cond.methodLink "MailRouter" 245 ⟨"MailRouter$Printer", "writeRouteOf", "(I)V"⟩ ∈ ej_WS := ej_ws (List.mem_of_getElem? (i := 1203) (by decide +kernel)) (by decide +kernel)
theorem wd_1204 : Cond.instanceMethod ⟨"MailRouter$Printer", "writeRouteOf", "(I)V"⟩ ∈ ej_WS := ej_ws (List.mem_of_getElem? (i := 1204) (by decide +kernel)) (by decide +kernel)
theorem wd_1205 : Cond.selects "MailRouter$Printer" ⟨"MailRouter$Printer", "writeRouteOf", "(I)V"⟩ ⟨"MailRouter$Printer", "writeRouteOf", "(I)V"⟩ ∈ ej_WS := ej_ws (List.mem_of_getElem? (i := 1205) (by decide +kernel)) (by decide +kernel)
theorem wd_1206 : Cond.code ⟨"MailRouter$Printer", "writeRouteOf", "(I)V"⟩ prog_4_method_2_code 3 none ∈ ej_WS := ej_ws (List.mem_of_getElem? (i := 1206) (by decide +kernel)) (by decide +kernel)
theorem fl_X10_39 : ej_FL RX10 39 9 5 (.object "MailRouter$Tokens") true := ⟨RX10, TX10, 12, tyX10, rfl, Nat.le_of_ble_eq_true rfl, ws_X10, wd_357, rfl, tyX10_ok 5 (by decide), tyX10_ok, nmX10⟩
theorem fl_X10_48 : ej_FL RX10 48 9 6 (.object "MailRouter$Sum") true := ⟨RX10, TX10, 12, tyX10, rfl, Nat.le_of_ble_eq_true rfl, ws_X10, wd_358, rfl, tyX10_ok 6 (by decide), tyX10_ok, nmX10⟩
theorem fl_X10_73 : ej_FL RX10 73 9 9 (.object "MailRouter$Steps") true := ⟨RX10, TX10, 12, tyX10, rfl, Nat.le_of_ble_eq_true rfl, ws_X10, wd_361, rfl, tyX10_ok 9 (by decide), tyX10_ok, nmX10⟩
theorem ls_X10_114 : ej_LS RX10 114 yX10_isFile i10_isFile (some .boolean) 1 := ⟨wd_499, wd_500, wd_47, wd_501, by decide, by decide, by decide +kernel⟩
theorem lv_X10_111 : ej_LV RX10 111 yX7_append i7_append none 1 := ⟨wd_491, wd_492, wd_493, wd_48, wd_494, by decide, by decide, by decide +kernel⟩
theorem lv_X10_126 : ej_LV RX10 126 yX1_clear i1_clear none 0 := ⟨wd_522, wd_523, wd_524, wd_50, wd_525, by decide, by decide, by decide +kernel⟩
theorem lv_X10_127 : ej_LV RX10 127 yX10_drawMap i10_drawMap (some .boolean) 1 := ⟨wd_526, wd_528, wd_1, wd_47, wd_529, by decide, by decide, by decide +kernel⟩
theorem lv_X10_130 : ej_LV RX10 130 yX7_become i7_become none 1 := ⟨wd_857, wd_547, wd_548, wd_48, wd_549, by decide, by decide, by decide +kernel⟩
theorem lv_X10_136 : ej_LV RX10 136 yX8_scan i8_scan none 1 := ⟨wd_867, wd_543, wd_544, wd_51, wd_545, by decide, by decide, by decide +kernel⟩
theorem lv_X10_139 : ej_LV RX10 139 yX6_workOut i6_workOut (some .boolean) 1 := ⟨wd_868, wd_760, wd_761, wd_52, wd_762, by decide, by decide, by decide +kernel⟩
theorem lv_X10_142 : ej_LV RX10 142 yX6_faultCode i6_faultCode (some .int) 0 := ⟨wd_869, wd_807, wd_808, wd_52, wd_809, by decide, by decide, by decide +kernel⟩
theorem lv_X10_145 : ej_LV RX10 145 yX6_faultToken i6_faultToken (some .int) 0 := ⟨wd_870, wd_811, wd_812, wd_52, wd_813, by decide, by decide, by decide +kernel⟩
theorem lv_X10_148 : ej_LV RX10 148 yX8_beginAt i8_beginAt (some .int) 1 := ⟨wd_871, wd_681, wd_682, wd_51, wd_683, by decide, by decide, by decide +kernel⟩
theorem lv_X10_156 : ej_LV RX10 156 yX6_next i6_next (some .int) 0 := ⟨wd_872, wd_815, wd_816, wd_52, wd_817, by decide, by decide, by decide +kernel⟩
theorem lv_X10_159 : ej_LV RX10 159 yX8_sortAt i8_sortAt (some .int) 1 := ⟨wd_873, wd_673, wd_674, wd_51, wd_675, by decide, by decide, by decide +kernel⟩
theorem lv_X10_167 : ej_LV RX10 167 yX6_result i6_result (some .int) 0 := ⟨wd_879, wd_819, wd_820, wd_52, wd_821, by decide, by decide, by decide +kernel⟩
theorem lv_X10_179 : ej_LV RX10 179 yX9_beginAt i9_beginAt none 1 := ⟨wd_892, wd_893, wd_894, wd_56, wd_895, by decide, by decide, by decide +kernel⟩
theorem lv_X10_192 : ej_LV RX10 192 yX10_needNode i10_needNode none 1 := ⟨wd_941, wd_943, wd_24, wd_47, wd_944, by decide, by decide, by decide +kernel⟩
theorem lv_X10_195 : ej_LV RX10 195 yX0_nameOf i0_nameOf (some .long) 1 := ⟨wd_947, wd_948, wd_949, wd_53, wd_950, by decide, by decide, by decide +kernel⟩
theorem lv_X10_199 : ej_LV RX10 199 yX7_appendName i7_appendName none 1 := ⟨wd_951, wd_952, wd_953, wd_48, wd_954, by decide, by decide, by decide +kernel⟩
theorem lv_X10_202 : ej_LV RX10 202 yX0_kindOf i0_kindOf (some .int) 1 := ⟨wd_965, wd_966, wd_967, wd_53, wd_968, by decide, by decide, by decide +kernel⟩
theorem lv_X10_205 : ej_LV RX10 205 yX0_isOwned i0_isOwned (some .boolean) 1 := ⟨wd_976, wd_977, wd_978, wd_53, wd_979, by decide, by decide, by decide +kernel⟩
theorem lv_X10_208 : ej_LV RX10 208 yX0_priceOfLink i0_priceOfLink (some .int) 2 := ⟨wd_984, wd_985, wd_986, wd_53, wd_987, by decide, by decide, by decide +kernel⟩
theorem lv_X10_212 : ej_LV RX10 212 yX0_priceOfMember i0_priceOfMember (some .int) 2 := ⟨wd_995, wd_996, wd_997, wd_53, wd_998, by decide, by decide, by decide +kernel⟩
theorem lv_X10_217 : ej_LV RX10 217 yX9_routeKey i9_routeKey (some .int) 1 := ⟨wd_1110, wd_1111, wd_1112, wd_56, wd_1113, by decide, by decide, by decide +kernel⟩
theorem lv_X10_220 : ej_LV RX10 220 yX9_costOfKey i9_costOfKey (some .int) 1 := ⟨wd_1114, wd_1115, wd_1116, wd_56, wd_1117, by decide, by decide, by decide +kernel⟩
theorem lv_X10_223 : ej_LV RX10 223 yX9_findByRounds i9_findByRounds none 0 := ⟨wd_1142, wd_1143, wd_1144, wd_56, wd_1145, by decide, by decide, by decide +kernel⟩
theorem lv_X10_226 : ej_LV RX10 226 yX9_leastByRounds i9_leastByRounds (some .int) 1 := ⟨wd_1154, wd_1155, wd_1156, wd_56, wd_1157, by decide, by decide, by decide +kernel⟩
theorem lv_X10_229 : ej_LV RX10 229 yX9_lengthOfKey i9_lengthOfKey (some .int) 1 := ⟨wd_1134, wd_1135, wd_1136, wd_56, wd_1137, by decide, by decide, by decide +kernel⟩
theorem lv_X10_232 : ej_LV RX10 232 yX10_needPlace i10_needPlace none 2 := ⟨wd_1166, wd_1168, wd_34, wd_47, wd_1169, by decide, by decide, by decide +kernel⟩
theorem lv_X10_236 : ej_LV RX10 236 yX9_keyOn i9_keyOn (some .int) 1 := ⟨wd_1177, wd_1178, wd_1179, wd_56, wd_1180, by decide, by decide, by decide +kernel⟩
theorem lv_X10_239 : ej_LV RX10 239 yX9_kindOfKey i9_kindOfKey (some .int) 1 := ⟨wd_1185, wd_1186, wd_1187, wd_56, wd_1188, by decide, by decide, by decide +kernel⟩
theorem lv_X10_242 : ej_LV RX10 242 yX5_hasBack i5_hasBack (some .boolean) 2 := ⟨wd_1128, wd_1080, wd_1081, wd_55, wd_1082, by decide, by decide, by decide +kernel⟩
theorem lv_X10_245 : ej_LV RX10 245 yX2_writeRouteOf i2_writeRouteOf none 1 := ⟨wd_1203, wd_1204, wd_1205, wd_57, wd_1206, by decide, by decide, by decide +kernel⟩
theorem lv_X10_254 : ej_LV RX10 254 yX0_has i0_has (some .boolean) 1 := ⟨wd_945, wd_748, wd_749, wd_53, wd_750, by decide, by decide, by decide +kernel⟩
theorem lv_X10_259 : ej_LV RX10 259 yX9_layOut i9_layOut (some .int) 1 := ⟨wd_1170, wd_1171, wd_1172, wd_56, wd_1173, by decide, by decide, by decide +kernel⟩
