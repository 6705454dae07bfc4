def iL_feed : ej_I := (cL_feed, 6, RL, 7, 114)
def iL_load : ej_I := (cL_load, 4, RL, 13, 312)
def iL_drop : ej_I := (cL_drop, 4, RL, 13, 312)
def iL_value : ej_I := (cL_value, 3, RL, 11, 263)
def iL_setHome : ej_I := (cL_setHome, 3, RL, 7, 112)
def iL_name : ej_I := (cL_name, 4, RL, 8, 132)
def iL_kind : ej_I := (cL_kind, 4, RL, 8, 132)
def iL_isPrivate : ej_I := (cL_isPrivate, 4, RL, 8, 132)
def iL_linkCost : ej_I := (cL_linkCost, 5, RL, 8, 133)
def iL_memberCost : ej_I := (cL_memberCost, 5, RL, 8, 133)
def iL_cost : ej_I := (cL_cost, 4, RL, 8, 164)
def iL_costByRounds : ej_I := (cL_costByRounds, 4, RL, 8, 166)
def iL_steps : ej_I := (cL_steps, 4, RL, 8, 164)
def iL_state : ej_I := (cL_state, 4, RL, 8, 165)
def iL_nodeAt : ej_I := (cL_nodeAt, 5, RL, 9, 187)
def iL_costAt : ej_I := (cL_costAt, 5, RL, 9, 187)
def iL_stepAt : ej_I := (cL_stepAt, 5, RL, 9, 187)
def iL_isBack : ej_I := (cL_isBack, 5, RL, 8, 165)
def iL_print : ej_I := (cL_print, 4, RL, 8, 164)
def iL_law : ej_I := (cL_law, 7, RL, 15, 594)
theorem pn_L : plainName RL = true := by decide +kernel
theorem wd_105 : Cond.initialized "MailRouterLaw" ∈ ej_WS := ej_ws (List.mem_of_getElem? (i := 105) (by decide +kernel)) (by decide +kernel)
theorem wd_449 : Cond.methodLink "MailRouterLaw" 104 ⟨"MailRouter", "fault", "(Z)I"⟩ ∈ ej_WS := ej_ws (List.mem_of_getElem? (i := 449) (by decide +kernel)) (by decide +kernel)
theorem wd_450 : Cond.instanceMethod ⟨"MailRouter", "fault", "(Z)I"⟩ ∈ ej_WS := ej_ws (List.mem_of_getElem? (i := 450) (by decide +kernel)) (by decide +kernel)
theorem wd_451 : Cond.selects "MailRouter" ⟨"MailRouter", "fault", "(Z)I"⟩ ⟨"MailRouter", "fault", "(Z)I"⟩ ∈ ej_WS := ej_ws (List.mem_of_getElem? (i := 451) (by decide +kernel)) (by decide +kernel)
theorem wd_452 : Cond.code ⟨"MailRouter", "fault", "(Z)I"⟩ prog_1_method_6_code 2 (some .int) ∈ ej_WS := ej_ws (List.mem_of_getElem? (i := 452) (by decide +kernel)) (by decide +kernel)
theorem wd_461 : Cond.methodLink "MailRouterLaw" 112 ⟨"MailRouter", "home", "()I"⟩ ∈ ej_WS := ej_ws (List.mem_of_getElem? (i := 461) (by decide +kernel)) (by decide +kernel)
theorem wd_462 : Cond.instanceMethod ⟨"MailRouter", "home", "()I"⟩ ∈ ej_WS := ej_ws (List.mem_of_getElem? (i := 462) (by decide +kernel)) (by decide +kernel)
theorem wd_463 : Cond.selects "MailRouter" ⟨"MailRouter", "home", "()I"⟩ ⟨"MailRouter", "home", "()I"⟩ ∈ ej_WS := ej_ws (List.mem_of_getElem? (i := 463) (by decide +kernel)) (by decide +kernel)
theorem wd_464 : Cond.code ⟨"MailRouter", "home", "()I"⟩ prog_1_method_8_code 1 (some .int) ∈ ej_WS := ej_ws (List.mem_of_getElem? (i := 464) (by decide +kernel)) (by decide +kernel)
theorem wd_473 : Cond.methodLink "MailRouterLaw" 116 ⟨"MailRouter", "lookUp", "()I"⟩ ∈ ej_WS := ej_ws (List.mem_of_getElem? (i := 473) (by decide +kernel)) (by decide +kernel)
theorem wd_474 : Cond.instanceMethod ⟨"MailRouter", "lookUp", "()I"⟩ ∈ ej_WS := ej_ws (List.mem_of_getElem? (i := 474) (by decide +kernel)) (by decide +kernel)
theorem wd_475 : Cond.selects "MailRouter" ⟨"MailRouter", "lookUp", "()I"⟩ ⟨"MailRouter", "lookUp", "()I"⟩ ∈ ej_WS := ej_ws (List.mem_of_getElem? (i := 475) (by decide +kernel)) (by decide +kernel)
theorem wd_476 : Cond.code ⟨"MailRouter", "lookUp", "()I"⟩ prog_1_method_9_code 3 (some .int) ∈ ej_WS := ej_ws (List.mem_of_getElem? (i := 476) (by decide +kernel)) (by decide +kernel)
theorem wd_505 : Cond.methodLink "MailRouterLaw" 120 ⟨"MailRouter", "nodes", "()I"⟩ ∈ ej_WS := ej_ws (List.mem_of_getElem? (i := 505) (by decide +kernel)) (by decide +kernel)
theorem wd_506 : Cond.instanceMethod ⟨"MailRouter", "nodes", "()I"⟩ ∈ ej_WS := ej_ws (List.mem_of_getElem? (i := 506) (by decide +kernel)) (by decide +kernel)
theorem wd_507 : Cond.selects "MailRouter" ⟨"MailRouter", "nodes", "()I"⟩ ⟨"MailRouter", "nodes", "()I"⟩ ∈ ej_WS := ej_ws (List.mem_of_getElem? (i := 507) (by decide +kernel)) (by decide +kernel)
theorem wd_508 : Cond.code ⟨"MailRouter", "nodes", "()I"⟩ prog_1_method_10_code 1 (some .int) ∈ ej_WS := ej_ws (List.mem_of_getElem? (i := 508) (by decide +kernel)) (by decide +kernel)
theorem wd_513 : Cond.methodLink "MailRouterLaw" 167 ⟨"MailRouter", "rewrite", "()I"⟩ ∈ ej_WS := ej_ws (List.mem_of_getElem? (i := 513) (by decide +kernel)) (by decide +kernel)
theorem wd_514 : Cond.instanceMethod ⟨"MailRouter", "rewrite", "()I"⟩ ∈ ej_WS := ej_ws (List.mem_of_getElem? (i := 514) (by decide +kernel)) (by decide +kernel)
theorem wd_515 : Cond.selects "MailRouter" ⟨"MailRouter", "rewrite", "()I"⟩ ⟨"MailRouter", "rewrite", "()I"⟩ ∈ ej_WS := ej_ws (List.mem_of_getElem? (i := 515) (by decide +kernel)) (by decide +kernel)
theorem wd_516 : Cond.code ⟨"MailRouter", "rewrite", "()I"⟩ prog_1_method_25_code 1 (some .int) ∈ ej_WS := ej_ws (List.mem_of_getElem? (i := 516) (by decide +kernel)) (by decide +kernel)
theorem wd_748 : Cond.methodLink "MailRouterLaw" 171 ⟨"MailRouter", "word", "(I)J"⟩ ∈ ej_WS := ej_ws (List.mem_of_getElem? (i := 748) (by decide +kernel)) (by decide +kernel)
theorem wd_749 : Cond.instanceMethod ⟨"MailRouter", "word", "(I)J"⟩ ∈ ej_WS := ej_ws (List.mem_of_getElem? (i := 749) (by decide +kernel)) (by decide +kernel)
theorem wd_750 : Cond.selects "MailRouter" ⟨"MailRouter", "word", "(I)J"⟩ ⟨"MailRouter", "word", "(I)J"⟩ ∈ ej_WS := ej_ws (List.mem_of_getElem? (i := 750) (by decide +kernel)) (by decide +kernel)
theorem wd_751 : Cond.code ⟨"MailRouter", "word", "(I)J"⟩ prog_1_method_26_code 6 (some .long) ∈ ej_WS := ej_ws (List.mem_of_getElem? (i := 751) (by decide +kernel)) (by decide +kernel)
theorem wd_753 : Cond.methodLink "MailRouterLaw" 84 ⟨"MailRouterLaw", "feed", "(LMailRouter;JI[J)I"⟩ ∈ ej_WS := ej_ws (List.mem_of_getElem? (i := 753) (by decide +kernel)) (by decide +kernel)
theorem wd_754 : Cond.static ⟨"MailRouterLaw", "feed", "(LMailRouter;JI[J)I"⟩ ∈ ej_WS := ej_ws (List.mem_of_getElem? (i := 754) (by decide +kernel)) (by decide +kernel)
theorem wd_758 : Cond.methodLink "MailRouterLaw" 7 ⟨"MailRouter", "feed", "(JI)I"⟩ ∈ ej_WS := ej_ws (List.mem_of_getElem? (i := 758) (by decide +kernel)) (by decide +kernel)
theorem wd_759 : Cond.instanceMethod ⟨"MailRouter", "feed", "(JI)I"⟩ ∈ ej_WS := ej_ws (List.mem_of_getElem? (i := 759) (by decide +kernel)) (by decide +kernel)
theorem wd_760 : Cond.selects "MailRouter" ⟨"MailRouter", "feed", "(JI)I"⟩ ⟨"MailRouter", "feed", "(JI)I"⟩ ∈ ej_WS := ej_ws (List.mem_of_getElem? (i := 760) (by decide +kernel)) (by decide +kernel)
theorem wd_761 : Cond.code ⟨"MailRouter", "feed", "(JI)I"⟩ prog_1_method_2_code 5 (some .int) ∈ ej_WS := ej_ws (List.mem_of_getElem? (i := 761) (by decide +kernel)) (by decide +kernel)
theorem wd_846 : Cond.methodLink "MailRouterLaw" 93 ⟨"MailRouterLaw", "load", "(LMailRouter;I[J)I"⟩ ∈ ej_WS := ej_ws (List.mem_of_getElem? (i := 846) (by decide +kernel)) (by decide +kernel)
theorem wd_847 : Cond.static ⟨"MailRouterLaw", "load", "(LMailRouter;I[J)I"⟩ ∈ ej_WS := ej_ws (List.mem_of_getElem? (i := 847) (by decide +kernel)) (by decide +kernel)
theorem wd_850 : Cond.methodLink "MailRouterLaw" 17 ⟨"MailRouter", "load", "(I)I"⟩ ∈ ej_WS := ej_ws (List.mem_of_getElem? (i := 850) (by decide +kernel)) (by decide +kernel)
theorem wd_851 : Cond.instanceMethod ⟨"MailRouter", "load", "(I)I"⟩ ∈ ej_WS := ej_ws (List.mem_of_getElem? (i := 851) (by decide +kernel)) (by decide +kernel)
theorem wd_852 : Cond.selects "MailRouter" ⟨"MailRouter", "load", "(I)I"⟩ ⟨"MailRouter", "load", "(I)I"⟩ ∈ ej_WS := ej_ws (List.mem_of_getElem? (i := 852) (by decide +kernel)) (by decide +kernel)
theorem wd_853 : Cond.code ⟨"MailRouter", "load", "(I)I"⟩ prog_1_method_3_code 3 (some .int) ∈ ej_WS := ej_ws (List.mem_of_getElem? (i := 853) (by decide +kernel)) (by decide +kernel)
theorem wd_1175 : Cond.methodLink "MailRouterLaw" 97 ⟨"MailRouterLaw", "drop", "(LMailRouter;I[J)I"⟩ ∈ ej_WS := ej_ws (List.mem_of_getElem? (i := 1175) (by decide +kernel)) (by decide +kernel)
theorem wd_1176 : Cond.static ⟨"MailRouterLaw", "drop", "(LMailRouter;I[J)I"⟩ ∈ ej_WS := ej_ws (List.mem_of_getElem? (i := 1176) (by decide +kernel)) (by decide +kernel)
theorem wd_1178 : Cond.methodLink "MailRouterLaw" 23 ⟨"MailRouter", "drop", "(I)I"⟩ ∈ ej_WS := ej_ws (List.mem_of_getElem? (i := 1178) (by decide +kernel)) (by decide +kernel)
theorem wd_1179 : Cond.instanceMethod ⟨"MailRouter", "drop", "(I)I"⟩ ∈ ej_WS := ej_ws (List.mem_of_getElem? (i := 1179) (by decide +kernel)) (by decide +kernel)
theorem wd_1180 : Cond.selects "MailRouter" ⟨"MailRouter", "drop", "(I)I"⟩ ⟨"MailRouter", "drop", "(I)I"⟩ ∈ ej_WS := ej_ws (List.mem_of_getElem? (i := 1180) (by decide +kernel)) (by decide +kernel)
theorem wd_1181 : Cond.code ⟨"MailRouter", "drop", "(I)I"⟩ prog_1_method_4_code 3 (some .int) ∈ ej_WS := ej_ws (List.mem_of_getElem? (i := 1181) (by decide +kernel)) (by decide +kernel)
theorem wd_1182 : Cond.methodLink "MailRouterLaw" 100 ⟨"MailRouterLaw", "value", "(LMailRouter;[J)I"⟩ ∈ ej_WS := ej_ws (List.mem_of_getElem? (i := 1182) (by decide +kernel)) (by decide +kernel)
theorem wd_1183 : Cond.static ⟨"MailRouterLaw", "value", "(LMailRouter;[J)I"⟩ ∈ ej_WS := ej_ws (List.mem_of_getElem? (i := 1183) (by decide +kernel)) (by decide +kernel)
theorem wd_1185 : Cond.methodLink "MailRouterLaw" 26 ⟨"MailRouter", "value", "()I"⟩ ∈ ej_WS := ej_ws (List.mem_of_getElem? (i := 1185) (by decide +kernel)) (by decide +kernel)
theorem wd_1186 : Cond.instanceMethod ⟨"MailRouter", "value", "()I"⟩ ∈ ej_WS := ej_ws (List.mem_of_getElem? (i := 1186) (by decide +kernel)) (by decide +kernel)
theorem wd_1187 : Cond.selects "MailRouter" ⟨"MailRouter", "value", "()I"⟩ ⟨"MailRouter", "value", "()I"⟩ ∈ ej_WS := ej_ws (List.mem_of_getElem? (i := 1187) (by decide +kernel)) (by decide +kernel)
theorem wd_1188 : Cond.code ⟨"MailRouter", "value", "()I"⟩ prog_1_method_5_code 1 (some .int) ∈ ej_WS := ej_ws (List.mem_of_getElem? (i := 1188) (by decide +kernel)) (by decide +kernel)
theorem wd_1198 : Cond.methodLink "MailRouterLaw" 109 ⟨"MailRouterLaw", "setHome", "(LMailRouter;[J)I"⟩ ∈ ej_WS := ej_ws (List.mem_of_getElem? (i := 1198) (by decide +kernel)) (by decide +kernel)
theorem wd_1199 : Cond.static ⟨"MailRouterLaw", "setHome", "(LMailRouter;[J)I"⟩ ∈ ej_WS := ej_ws (List.mem_of_getElem? (i := 1199) (by decide +kernel)) (by decide +kernel)
theorem wd_1201 : Cond.methodLink "MailRouterLaw" 30 ⟨"MailRouter", "setHome", "()I"⟩ ∈ ej_WS := ej_ws (List.mem_of_getElem? (i := 1201) (by decide +kernel)) (by decide +kernel)
theorem wd_1202 : Cond.instanceMethod ⟨"MailRouter", "setHome", "()I"⟩ ∈ ej_WS := ej_ws (List.mem_of_getElem? (i := 1202) (by decide +kernel)) (by decide +kernel)
theorem wd_1203 : Cond.selects "MailRouter" ⟨"MailRouter", "setHome", "()I"⟩ ⟨"MailRouter", "setHome", "()I"⟩ ∈ ej_WS := ej_ws (List.mem_of_getElem? (i := 1203) (by decide +kernel)) (by decide +kernel)
theorem wd_1204 : Cond.code ⟨"MailRouter", "setHome", "()I"⟩ prog_1_method_7_code 3 (some .int) ∈ ej_WS := ej_ws (List.mem_of_getElem? (i := 1204) (by decide +kernel)) (by decide +kernel)
theorem wd_1211 : Cond.methodLink "MailRouterLaw" 124 ⟨"MailRouterLaw", "name", "(LMailRouter;I[J)I"⟩ ∈ ej_WS := ej_ws (List.mem_of_getElem? (i := 1211) (by decide +kernel)) (by decide +kernel)
theorem wd_1212 : Cond.static ⟨"MailRouterLaw", "name", "(LMailRouter;I[J)I"⟩ ∈ ej_WS := ej_ws (List.mem_of_getElem? (i := 1212) (by decide +kernel)) (by decide +kernel)
theorem wd_1214 : Cond.methodLink "MailRouterLaw" 33 ⟨"MailRouter", "name", "(I)I"⟩ ∈ ej_WS := ej_ws (List.mem_of_getElem? (i := 1214) (by decide +kernel)) (by decide +kernel)
theorem wd_1215 : Cond.instanceMethod ⟨"MailRouter", "name", "(I)I"⟩ ∈ ej_WS := ej_ws (List.mem_of_getElem? (i := 1215) (by decide +kernel)) (by decide +kernel)
theorem wd_1216 : Cond.selects "MailRouter" ⟨"MailRouter", "name", "(I)I"⟩ ⟨"MailRouter", "name", "(I)I"⟩ ∈ ej_WS := ej_ws (List.mem_of_getElem? (i := 1216) (by decide +kernel)) (by decide +kernel)
theorem wd_1217 : Cond.code ⟨"MailRouter", "name", "(I)I"⟩ prog_1_method_11_code 2 (some .int) ∈ ej_WS := ej_ws (List.mem_of_getElem? (i := 1217) (by decide +kernel)) (by decide +kernel)
theorem wd_1226 : Cond.methodLink "MailRouterLaw" 127 ⟨"MailRouterLaw", "kind", "(LMailRouter;I[J)I"⟩ ∈ ej_WS := ej_ws (List.mem_of_getElem? (i := 1226) (by decide +kernel)) (by decide +kernel)
theorem wd_1227 : Cond.static ⟨"MailRouterLaw", "kind", "(LMailRouter;I[J)I"⟩ ∈ ej_WS := ej_ws (List.mem_of_getElem? (i := 1227) (by decide +kernel)) (by decide +kernel)
theorem wd_1229 : Cond.methodLink "MailRouterLaw" 36 ⟨"MailRouter", "kind", "(I)I"⟩ ∈ ej_WS := ej_ws (List.mem_of_getElem? (i := 1229) (by decide +kernel)) (by decide +kernel)
theorem wd_1230 : Cond.instanceMethod ⟨"MailRouter", "kind", "(I)I"⟩ ∈ ej_WS := ej_ws (List.mem_of_getElem? (i := 1230) (by decide +kernel)) (by decide +kernel)
theorem wd_1231 : Cond.selects "MailRouter" ⟨"MailRouter", "kind", "(I)I"⟩ ⟨"MailRouter", "kind", "(I)I"⟩ ∈ ej_WS := ej_ws (List.mem_of_getElem? (i := 1231) (by decide +kernel)) (by decide +kernel)
theorem wd_1232 : Cond.code ⟨"MailRouter", "kind", "(I)I"⟩ prog_1_method_12_code 2 (some .int) ∈ ej_WS := ej_ws (List.mem_of_getElem? (i := 1232) (by decide +kernel)) (by decide +kernel)
theorem wd_1234 : Cond.methodLink "MailRouterLaw" 130 ⟨"MailRouterLaw", "isPrivate", "(LMailRouter;I[J)I"⟩ ∈ ej_WS := ej_ws (List.mem_of_getElem? (i := 1234) (by decide +kernel)) (by decide +kernel)
theorem wd_1235 : Cond.static ⟨"MailRouterLaw", "isPrivate", "(LMailRouter;I[J)I"⟩ ∈ ej_WS := ej_ws (List.mem_of_getElem? (i := 1235) (by decide +kernel)) (by decide +kernel)
theorem wd_1237 : Cond.methodLink "MailRouterLaw" 39 ⟨"MailRouter", "isPrivate", "(I)Z"⟩ ∈ ej_WS := ej_ws (List.mem_of_getElem? (i := 1237) (by decide +kernel)) (by decide +kernel)
theorem wd_1238 : Cond.instanceMethod ⟨"MailRouter", "isPrivate", "(I)Z"⟩ ∈ ej_WS := ej_ws (List.mem_of_getElem? (i := 1238) (by decide +kernel)) (by decide +kernel)
theorem wd_1239 : Cond.selects "MailRouter" ⟨"MailRouter", "isPrivate", "(I)Z"⟩ ⟨"MailRouter", "isPrivate", "(I)Z"⟩ ∈ ej_WS := ej_ws (List.mem_of_getElem? (i := 1239) (by decide +kernel)) (by decide +kernel)
theorem wd_1240 : Cond.code ⟨"MailRouter", "isPrivate", "(I)Z"⟩ prog_1_method_13_code 2 (some .boolean) ∈ ej_WS := ej_ws (List.mem_of_getElem? (i := 1240) (by decide +kernel)) (by decide +kernel)
theorem wd_1242 : Cond.methodLink "MailRouterLaw" 133 ⟨"MailRouterLaw", "linkCost", "(LMailRouter;II[J)I"⟩ ∈ ej_WS := ej_ws (List.mem_of_getElem? (i := 1242) (by decide +kernel)) (by decide +kernel)
theorem wd_1243 : Cond.static ⟨"MailRouterLaw", "linkCost", "(LMailRouter;II[J)I"⟩ ∈ ej_WS := ej_ws (List.mem_of_getElem? (i := 1243) (by decide +kernel)) (by decide +kernel)
theorem wd_1245 : Cond.methodLink "MailRouterLaw" 43 ⟨"MailRouter", "linkCost", "(II)I"⟩ ∈ ej_WS := ej_ws (List.mem_of_getElem? (i := 1245) (by decide +kernel)) (by decide +kernel)
theorem wd_1246 : Cond.instanceMethod ⟨"MailRouter", "linkCost", "(II)I"⟩ ∈ ej_WS := ej_ws (List.mem_of_getElem? (i := 1246) (by decide +kernel)) (by decide +kernel)
theorem wd_1247 : Cond.selects "MailRouter" ⟨"MailRouter", "linkCost", "(II)I"⟩ ⟨"MailRouter", "linkCost", "(II)I"⟩ ∈ ej_WS := ej_ws (List.mem_of_getElem? (i := 1247) (by decide +kernel)) (by decide +kernel)
theorem wd_1248 : Cond.code ⟨"MailRouter", "linkCost", "(II)I"⟩ prog_1_method_14_code 3 (some .int) ∈ ej_WS := ej_ws (List.mem_of_getElem? (i := 1248) (by decide +kernel)) (by decide +kernel)
theorem wd_1250 : Cond.methodLink "MailRouterLaw" 137 ⟨"MailRouterLaw", "memberCost", "(LMailRouter;II[J)I"⟩ ∈ ej_WS := ej_ws (List.mem_of_getElem? (i := 1250) (by decide +kernel)) (by decide +kernel)
theorem wd_1251 : Cond.static ⟨"MailRouterLaw", "memberCost", "(LMailRouter;II[J)I"⟩ ∈ ej_WS := ej_ws (List.mem_of_getElem? (i := 1251) (by decide +kernel)) (by decide +kernel)
theorem wd_1253 : Cond.methodLink "MailRouterLaw" 47 ⟨"MailRouter", "memberCost", "(II)I"⟩ ∈ ej_WS := ej_ws (List.mem_of_getElem? (i := 1253) (by decide +kernel)) (by decide +kernel)
theorem wd_1254 : Cond.instanceMethod ⟨"MailRouter", "memberCost", "(II)I"⟩ ∈ ej_WS := ej_ws (List.mem_of_getElem? (i := 1254) (by decide +kernel)) (by decide +kernel)
theorem wd_1255 : Cond.selects "MailRouter" ⟨"MailRouter", "memberCost", "(II)I"⟩ ⟨"MailRouter", "memberCost", "(II)I"⟩ ∈ ej_WS := ej_ws (List.mem_of_getElem? (i := 1255) (by decide +kernel)) (by decide +kernel)
theorem wd_1256 : Cond.code ⟨"MailRouter", "memberCost", "(II)I"⟩ prog_1_method_15_code 3 (some .int) ∈ ej_WS := ej_ws (List.mem_of_getElem? (i := 1256) (by decide +kernel)) (by decide +kernel)
theorem wd_1258 : Cond.methodLink "MailRouterLaw" 140 ⟨"MailRouterLaw", "cost", "(LMailRouter;I[J)I"⟩ ∈ ej_WS := ej_ws (List.mem_of_getElem? (i := 1258) (by decide +kernel)) (by decide +kernel)
theorem wd_1259 : Cond.static ⟨"MailRouterLaw", "cost", "(LMailRouter;I[J)I"⟩ ∈ ej_WS := ej_ws (List.mem_of_getElem? (i := 1259) (by decide +kernel)) (by decide +kernel)
theorem wd_1261 : Cond.methodLink "MailRouterLaw" 50 ⟨"MailRouter", "cost", "(I)I"⟩ ∈ ej_WS := ej_ws (List.mem_of_getElem? (i := 1261) (by decide +kernel)) (by decide +kernel)
theorem wd_1262 : Cond.instanceMethod ⟨"MailRouter", "cost", "(I)I"⟩ ∈ ej_WS := ej_ws (List.mem_of_getElem? (i := 1262) (by decide +kernel)) (by decide +kernel)
theorem wd_1263 : Cond.selects "MailRouter" ⟨"MailRouter", "cost", "(I)I"⟩ ⟨"MailRouter", "cost", "(I)I"⟩ ∈ ej_WS := ej_ws (List.mem_of_getElem? (i := 1263) (by decide +kernel)) (by decide +kernel)
theorem wd_1264 : Cond.code ⟨"MailRouter", "cost", "(I)I"⟩ prog_1_method_16_code 2 (some .int) ∈ ej_WS := ej_ws (List.mem_of_getElem? (i := 1264) (by decide +kernel)) (by decide +kernel)
theorem wd_1270 : Cond.methodLink "MailRouterLaw" 143 ⟨"MailRouterLaw", "costByRounds", "(LMailRouter;I[J)I"⟩ ∈ ej_WS := ej_ws (List.mem_of_getElem? (i := 1270) (by decide +kernel)) (by decide +kernel)
theorem wd_1271 : Cond.static ⟨"MailRouterLaw", "costByRounds", "(LMailRouter;I[J)I"⟩ ∈ ej_WS := ej_ws (List.mem_of_getElem? (i := 1271) (by decide +kernel)) (by decide +kernel)
theorem wd_1273 : Cond.methodLink "MailRouterLaw" 53 ⟨"MailRouter", "costByRounds", "(I)I"⟩ ∈ ej_WS := ej_ws (List.mem_of_getElem? (i := 1273) (by decide +kernel)) (by decide +kernel)
theorem wd_1274 : Cond.instanceMethod ⟨"MailRouter", "costByRounds", "(I)I"⟩ ∈ ej_WS := ej_ws (List.mem_of_getElem? (i := 1274) (by decide +kernel)) (by decide +kernel)
theorem wd_1275 : Cond.selects "MailRouter" ⟨"MailRouter", "costByRounds", "(I)I"⟩ ⟨"MailRouter", "costByRounds", "(I)I"⟩ ∈ ej_WS := ej_ws (List.mem_of_getElem? (i := 1275) (by decide +kernel)) (by decide +kernel)
theorem wd_1276 : Cond.code ⟨"MailRouter", "costByRounds", "(I)I"⟩ prog_1_method_17_code 2 (some .int) ∈ ej_WS := ej_ws (List.mem_of_getElem? (i := 1276) (by decide +kernel)) (by decide +kernel)
theorem wd_1293 : Cond.methodLink "MailRouterLaw" 146 ⟨"MailRouterLaw", "steps", "(LMailRouter;I[J)I"⟩ ∈ ej_WS := ej_ws (List.mem_of_getElem? (i := 1293) (by decide +kernel)) (by decide +kernel)
theorem wd_1294 : Cond.static ⟨"MailRouterLaw", "steps", "(LMailRouter;I[J)I"⟩ ∈ ej_WS := ej_ws (List.mem_of_getElem? (i := 1294) (by decide +kernel)) (by decide +kernel)
theorem wd_1296 : Cond.methodLink "MailRouterLaw" 56 ⟨"MailRouter", "steps", "(I)I"⟩ ∈ ej_WS := ej_ws (List.mem_of_getElem? (i := 1296) (by decide +kernel)) (by decide +kernel)
theorem wd_1297 : Cond.instanceMethod ⟨"MailRouter", "steps", "(I)I"⟩ ∈ ej_WS := ej_ws (List.mem_of_getElem? (i := 1297) (by decide +kernel)) (by decide +kernel)
theorem wd_1298 : Cond.selects "MailRouter" ⟨"MailRouter", "steps", "(I)I"⟩ ⟨"MailRouter", "steps", "(I)I"⟩ ∈ ej_WS := ej_ws (List.mem_of_getElem? (i := 1298) (by decide +kernel)) (by decide +kernel)
theorem wd_1299 : Cond.code ⟨"MailRouter", "steps", "(I)I"⟩ prog_1_method_18_code 2 (some .int) ∈ ej_WS := ej_ws (List.mem_of_getElem? (i := 1299) (by decide +kernel)) (by decide +kernel)
theorem wd_1301 : Cond.methodLink "MailRouterLaw" 149 ⟨"MailRouterLaw", "state", "(LMailRouter;I[J)I"⟩ ∈ ej_WS := ej_ws (List.mem_of_getElem? (i := 1301) (by decide +kernel)) (by decide +kernel)
theorem wd_1302 : Cond.static ⟨"MailRouterLaw", "state", "(LMailRouter;I[J)I"⟩ ∈ ej_WS := ej_ws (List.mem_of_getElem? (i := 1302) (by decide +kernel)) (by decide +kernel)
theorem wd_1304 : Cond.methodLink "MailRouterLaw" 59 ⟨"MailRouter", "state", "(I)I"⟩ ∈ ej_WS := ej_ws (List.mem_of_getElem? (i := 1304) (by decide +kernel)) (by decide +kernel)
theorem wd_1305 : Cond.instanceMethod ⟨"MailRouter", "state", "(I)I"⟩ ∈ ej_WS := ej_ws (List.mem_of_getElem? (i := 1305) (by decide +kernel)) (by decide +kernel)
theorem wd_1306 : Cond.selects "MailRouter" ⟨"MailRouter", "state", "(I)I"⟩ ⟨"MailRouter", "state", "(I)I"⟩ ∈ ej_WS := ej_ws (List.mem_of_getElem? (i := 1306) (by decide +kernel)) (by decide +kernel)
theorem wd_1307 : Cond.code ⟨"MailRouter", "state", "(I)I"⟩ prog_1_method_19_code 3 (some .int) ∈ ej_WS := ej_ws (List.mem_of_getElem? (i := 1307) (by decide +kernel)) (by decide +kernel)
theorem wd_1308 : Cond.methodLink "MailRouterLaw" 152 ⟨"MailRouterLaw", "nodeAt", "(LMailRouter;II[J)I"⟩ ∈ ej_WS := ej_ws (List.mem_of_getElem? (i := 1308) (by decide +kernel)) (by decide +kernel)
theorem wd_1309 : Cond.static ⟨"MailRouterLaw", "nodeAt", "(LMailRouter;II[J)I"⟩ ∈ ej_WS := ej_ws (List.mem_of_getElem? (i := 1309) (by decide +kernel)) (by decide +kernel)
theorem wd_1311 : Cond.methodLink "MailRouterLaw" 62 ⟨"MailRouter", "nodeAt", "(II)I"⟩ ∈ ej_WS := ej_ws (List.mem_of_getElem? (i := 1311) (by decide +kernel)) (by decide +kernel)
theorem wd_1312 : Cond.instanceMethod ⟨"MailRouter", "nodeAt", "(II)I"⟩ ∈ ej_WS := ej_ws (List.mem_of_getElem? (i := 1312) (by decide +kernel)) (by decide +kernel)
theorem wd_1313 : Cond.selects "MailRouter" ⟨"MailRouter", "nodeAt", "(II)I"⟩ ⟨"MailRouter", "nodeAt", "(II)I"⟩ ∈ ej_WS := ej_ws (List.mem_of_getElem? (i := 1313) (by decide +kernel)) (by decide +kernel)
theorem wd_1314 : Cond.code ⟨"MailRouter", "nodeAt", "(II)I"⟩ prog_1_method_20_code 3 (some .int) ∈ ej_WS := ej_ws (List.mem_of_getElem? (i := 1314) (by decide +kernel)) (by decide +kernel)
theorem wd_1322 : Cond.methodLink "MailRouterLaw" 155 ⟨"MailRouterLaw", "costAt", "(LMailRouter;II[J)I"⟩ ∈ ej_WS := ej_ws (List.mem_of_getElem? (i := 1322) (by decide +kernel)) (by decide +kernel)
theorem wd_1323 : Cond.static ⟨"MailRouterLaw", "costAt", "(LMailRouter;II[J)I"⟩ ∈ ej_WS := ej_ws (List.mem_of_getElem? (i := 1323) (by decide +kernel)) (by decide +kernel)
theorem wd_1325 : Cond.methodLink "MailRouterLaw" 65 ⟨"MailRouter", "costAt", "(II)I"⟩ ∈ ej_WS := ej_ws (List.mem_of_getElem? (i := 1325) (by decide +kernel)) (by decide +kernel)
theorem wd_1326 : Cond.instanceMethod ⟨"MailRouter", "costAt", "(II)I"⟩ ∈ ej_WS := ej_ws (List.mem_of_getElem? (i := 1326) (by decide +kernel)) (by decide +kernel)
theorem wd_1327 : Cond.selects "MailRouter" ⟨"MailRouter", "costAt", "(II)I"⟩ ⟨"MailRouter", "costAt", "(II)I"⟩ ∈ ej_WS := ej_ws (List.mem_of_getElem? (i := 1327) (by decide +kernel)) (by decide +kernel)
theorem wd_1328 : Cond.code ⟨"MailRouter", "costAt", "(II)I"⟩ prog_1_method_21_code 3 (some .int) ∈ ej_WS := ej_ws (List.mem_of_getElem? (i := 1328) (by decide +kernel)) (by decide +kernel)
theorem wd_1329 : Cond.methodLink "MailRouterLaw" 158 ⟨"MailRouterLaw", "stepAt", "(LMailRouter;II[J)I"⟩ ∈ ej_WS := ej_ws (List.mem_of_getElem? (i := 1329) (by decide +kernel)) (by decide +kernel)
theorem wd_1330 : Cond.static ⟨"MailRouterLaw", "stepAt", "(LMailRouter;II[J)I"⟩ ∈ ej_WS := ej_ws (List.mem_of_getElem? (i := 1330) (by decide +kernel)) (by decide +kernel)
theorem wd_1332 : Cond.methodLink "MailRouterLaw" 68 ⟨"MailRouter", "stepAt", "(II)I"⟩ ∈ ej_WS := ej_ws (List.mem_of_getElem? (i := 1332) (by decide +kernel)) (by decide +kernel)
theorem wd_1333 : Cond.instanceMethod ⟨"MailRouter", "stepAt", "(II)I"⟩ ∈ ej_WS := ej_ws (List.mem_of_getElem? (i := 1333) (by decide +kernel)) (by decide +kernel)
theorem wd_1334 : Cond.selects "MailRouter" ⟨"MailRouter", "stepAt", "(II)I"⟩ ⟨"MailRouter", "stepAt", "(II)I"⟩ ∈ ej_WS := ej_ws (List.mem_of_getElem? (i := 1334) (by decide +kernel)) (by decide +kernel)
theorem wd_1335 : Cond.code ⟨"MailRouter", "stepAt", "(II)I"⟩ prog_1_method_22_code 3 (some .int) ∈ ej_WS := ej_ws (List.mem_of_getElem? (i := 1335) (by decide +kernel)) (by decide +kernel)
theorem wd_1337 : Cond.methodLink "MailRouterLaw" 161 ⟨"MailRouterLaw", "isBack", "(LMailRouter;II[J)I"⟩ ∈ ej_WS := ej_ws (List.mem_of_getElem? (i := 1337) (by decide +kernel)) (by decide +kernel)
theorem wd_1338 : Cond.static ⟨"MailRouterLaw", "isBack", "(LMailRouter;II[J)I"⟩ ∈ ej_WS := ej_ws (List.mem_of_getElem? (i := 1338) (by decide +kernel)) (by decide +kernel)
theorem wd_1340 : Cond.methodLink "MailRouterLaw" 71 ⟨"MailRouter", "isBack", "(II)Z"⟩ ∈ ej_WS := ej_ws (List.mem_of_getElem? (i := 1340) (by decide +kernel)) (by decide +kernel)
theorem wd_1341 : Cond.instanceMethod ⟨"MailRouter", "isBack", "(II)Z"⟩ ∈ ej_WS := ej_ws (List.mem_of_getElem? (i := 1341) (by decide +kernel)) (by decide +kernel)
theorem wd_1342 : Cond.selects "MailRouter" ⟨"MailRouter", "isBack", "(II)Z"⟩ ⟨"MailRouter", "isBack", "(II)Z"⟩ ∈ ej_WS := ej_ws (List.mem_of_getElem? (i := 1342) (by decide +kernel)) (by decide +kernel)
theorem wd_1343 : Cond.code ⟨"MailRouter", "isBack", "(II)Z"⟩ prog_1_method_23_code 3 (some .boolean) ∈ ej_WS := ej_ws (List.mem_of_getElem? (i := 1343) (by decide +kernel)) (by decide +kernel)
theorem wd_1345 : Cond.methodLink "MailRouterLaw" 164 ⟨"MailRouterLaw", "print", "(LMailRouter;I[J)I"⟩ ∈ ej_WS := ej_ws (List.mem_of_getElem? (i := 1345) (by decide +kernel)) (by decide +kernel)
theorem wd_1346 : Cond.static ⟨"MailRouterLaw", "print", "(LMailRouter;I[J)I"⟩ ∈ ej_WS := ej_ws (List.mem_of_getElem? (i := 1346) (by decide +kernel)) (by decide +kernel)
theorem wd_1348 : Cond.methodLink "MailRouterLaw" 75 ⟨"MailRouter", "print", "(I)I"⟩ ∈ ej_WS := ej_ws (List.mem_of_getElem? (i := 1348) (by decide +kernel)) (by decide +kernel)
theorem wd_1349 : Cond.instanceMethod ⟨"MailRouter", "print", "(I)I"⟩ ∈ ej_WS := ej_ws (List.mem_of_getElem? (i := 1349) (by decide +kernel)) (by decide +kernel)
theorem wd_1350 : Cond.selects "MailRouter" ⟨"MailRouter", "print", "(I)I"⟩ ⟨"MailRouter", "print", "(I)I"⟩ ∈ ej_WS := ej_ws (List.mem_of_getElem? (i := 1350) (by decide +kernel)) (by decide +kernel)
theorem wd_1351 : Cond.code ⟨"MailRouter", "print", "(I)I"⟩ prog_1_method_24_code 2 (some .int) ∈ ej_WS := ej_ws (List.mem_of_getElem? (i := 1351) (by decide +kernel)) (by decide +kernel)
theorem wd_1713 : Cond.methodLink "MailRouterLaw" 90 ⟨"MailRouterModel", "thrown", "()I"⟩ ∈ ej_WS := ej_ws (List.mem_of_getElem? (i := 1713) (by decide +kernel)) (by decide +kernel)
theorem wd_1714 : Cond.instanceMethod ⟨"MailRouterModel", "thrown", "()I"⟩ ∈ ej_WS := ej_ws (List.mem_of_getElem? (i := 1714) (by decide +kernel)) (by decide +kernel)
theorem wd_1715 : Cond.selects "MailRouterModel" ⟨"MailRouterModel", "thrown", "()I"⟩ ⟨"MailRouterModel", "thrown", "()I"⟩ ∈ ej_WS := ej_ws (List.mem_of_getElem? (i := 1715) (by decide +kernel)) (by decide +kernel)
theorem wd_1716 : Cond.code ⟨"MailRouterModel", "thrown", "()I"⟩ prog_13_method_4_code 1 (some .int) ∈ ej_WS := ej_ws (List.mem_of_getElem? (i := 1716) (by decide +kernel)) (by decide +kernel)
theorem wd_1717 : Cond.methodLink "MailRouterLaw" 89 ⟨"MailRouterModel", "feed", "(JI)I"⟩ ∈ ej_WS := ej_ws (List.mem_of_getElem? (i := 1717) (by decide +kernel)) (by decide +kernel)
theorem wd_1718 : Cond.instanceMethod ⟨"MailRouterModel", "feed", "(JI)I"⟩ ∈ ej_WS := ej_ws (List.mem_of_getElem? (i := 1718) (by decide +kernel)) (by decide +kernel)
theorem wd_1719 : Cond.selects "MailRouterModel" ⟨"MailRouterModel", "feed", "(JI)I"⟩ ⟨"MailRouterModel", "feed", "(JI)I"⟩ ∈ ej_WS := ej_ws (List.mem_of_getElem? (i := 1719) (by decide +kernel)) (by decide +kernel)
theorem wd_1720 : Cond.code ⟨"MailRouterModel", "feed", "(JI)I"⟩ prog_13_method_51_code 5 (some .int) ∈ ej_WS := ej_ws (List.mem_of_getElem? (i := 1720) (by decide +kernel)) (by decide +kernel)
theorem wd_1725 : Cond.methodLink "MailRouterLaw" 96 ⟨"MailRouterModel", "load", "(I)I"⟩ ∈ ej_WS := ej_ws (List.mem_of_getElem? (i := 1725) (by decide +kernel)) (by decide +kernel)
theorem wd_1726 : Cond.instanceMethod ⟨"MailRouterModel", "load", "(I)I"⟩ ∈ ej_WS := ej_ws (List.mem_of_getElem? (i := 1726) (by decide +kernel)) (by decide +kernel)
theorem wd_1727 : Cond.selects "MailRouterModel" ⟨"MailRouterModel", "load", "(I)I"⟩ ⟨"MailRouterModel", "load", "(I)I"⟩ ∈ ej_WS := ej_ws (List.mem_of_getElem? (i := 1727) (by decide +kernel)) (by decide +kernel)
theorem wd_1728 : Cond.code ⟨"MailRouterModel", "load", "(I)I"⟩ prog_13_method_54_code 3 (some .int) ∈ ej_WS := ej_ws (List.mem_of_getElem? (i := 1728) (by decide +kernel)) (by decide +kernel)
theorem wd_1740 : Cond.methodLink "MailRouterLaw" 99 ⟨"MailRouterModel", "drop", "(I)I"⟩ ∈ ej_WS := ej_ws (List.mem_of_getElem? (i := 1740) (by decide +kernel)) (by decide +kernel)
theorem wd_1741 : Cond.instanceMethod ⟨"MailRouterModel", "drop", "(I)I"⟩ ∈ ej_WS := ej_ws (List.mem_of_getElem? (i := 1741) (by decide +kernel)) (by decide +kernel)
theorem wd_1742 : Cond.selects "MailRouterModel" ⟨"MailRouterModel", "drop", "(I)I"⟩ ⟨"MailRouterModel", "drop", "(I)I"⟩ ∈ ej_WS := ej_ws (List.mem_of_getElem? (i := 1742) (by decide +kernel)) (by decide +kernel)
theorem wd_1743 : Cond.code ⟨"MailRouterModel", "drop", "(I)I"⟩ prog_13_method_56_code 3 (some .int) ∈ ej_WS := ej_ws (List.mem_of_getElem? (i := 1743) (by decide +kernel)) (by decide +kernel)
theorem wd_1744 : Cond.methodLink "MailRouterLaw" 103 ⟨"MailRouterModel", "value", "()I"⟩ ∈ ej_WS := ej_ws (List.mem_of_getElem? (i := 1744) (by decide +kernel)) (by decide +kernel)
theorem wd_1745 : Cond.instanceMethod ⟨"MailRouterModel", "value", "()I"⟩ ∈ ej_WS := ej_ws (List.mem_of_getElem? (i := 1745) (by decide +kernel)) (by decide +kernel)
theorem wd_1746 : Cond.selects "MailRouterModel" ⟨"MailRouterModel", "value", "()I"⟩ ⟨"MailRouterModel", "value", "()I"⟩ ∈ ej_WS := ej_ws (List.mem_of_getElem? (i := 1746) (by decide +kernel)) (by decide +kernel)
theorem wd_1747 : Cond.code ⟨"MailRouterModel", "value", "()I"⟩ prog_13_method_57_code 2 (some .int) ∈ ej_WS := ej_ws (List.mem_of_getElem? (i := 1747) (by decide +kernel)) (by decide +kernel)
theorem wd_1748 : Cond.methodLink "MailRouterLaw" 108 ⟨"MailRouterModel", "fault", "(Z)I"⟩ ∈ ej_WS := ej_ws (List.mem_of_getElem? (i := 1748) (by decide +kernel)) (by decide +kernel)
theorem wd_1749 : Cond.instanceMethod ⟨"MailRouterModel", "fault", "(Z)I"⟩ ∈ ej_WS := ej_ws (List.mem_of_getElem? (i := 1749) (by decide +kernel)) (by decide +kernel)
theorem wd_1750 : Cond.selects "MailRouterModel" ⟨"MailRouterModel", "fault", "(Z)I"⟩ ⟨"MailRouterModel", "fault", "(Z)I"⟩ ∈ ej_WS := ej_ws (List.mem_of_getElem? (i := 1750) (by decide +kernel)) (by decide +kernel)
theorem wd_1751 : Cond.code ⟨"MailRouterModel", "fault", "(Z)I"⟩ prog_13_method_58_code 2 (some .int) ∈ ej_WS := ej_ws (List.mem_of_getElem? (i := 1751) (by decide +kernel)) (by decide +kernel)
theorem wd_1752 : Cond.methodLink "MailRouterLaw" 111 ⟨"MailRouterModel", "setHome", "()I"⟩ ∈ ej_WS := ej_ws (List.mem_of_getElem? (i := 1752) (by decide +kernel)) (by decide +kernel)
theorem wd_1753 : Cond.instanceMethod ⟨"MailRouterModel", "setHome", "()I"⟩ ∈ ej_WS := ej_ws (List.mem_of_getElem? (i := 1753) (by decide +kernel)) (by decide +kernel)
theorem wd_1754 : Cond.selects "MailRouterModel" ⟨"MailRouterModel", "setHome", "()I"⟩ ⟨"MailRouterModel", "setHome", "()I"⟩ ∈ ej_WS := ej_ws (List.mem_of_getElem? (i := 1754) (by decide +kernel)) (by decide +kernel)
theorem wd_1755 : Cond.code ⟨"MailRouterModel", "setHome", "()I"⟩ prog_13_method_60_code 3 (some .int) ∈ ej_WS := ej_ws (List.mem_of_getElem? (i := 1755) (by decide +kernel)) (by decide +kernel)
theorem wd_1760 : Cond.methodLink "MailRouterLaw" 115 ⟨"MailRouterModel", "home", "()I"⟩ ∈ ej_WS := ej_ws (List.mem_of_getElem? (i := 1760) (by decide +kernel)) (by decide +kernel)
theorem wd_1761 : Cond.instanceMethod ⟨"MailRouterModel", "home", "()I"⟩ ∈ ej_WS := ej_ws (List.mem_of_getElem? (i := 1761) (by decide +kernel)) (by decide +kernel)
theorem wd_1762 : Cond.selects "MailRouterModel" ⟨"MailRouterModel", "home", "()I"⟩ ⟨"MailRouterModel", "home", "()I"⟩ ∈ ej_WS := ej_ws (List.mem_of_getElem? (i := 1762) (by decide +kernel)) (by decide +kernel)
theorem wd_1763 : Cond.code ⟨"MailRouterModel", "home", "()I"⟩ prog_13_method_62_code 1 (some .int) ∈ ej_WS := ej_ws (List.mem_of_getElem? (i := 1763) (by decide +kernel)) (by decide +kernel)
theorem wd_1764 : Cond.methodLink "MailRouterLaw" 119 ⟨"MailRouterModel", "lookUp", "()I"⟩ ∈ ej_WS := ej_ws (List.mem_of_getElem? (i := 1764) (by decide +kernel)) (by decide +kernel)
theorem wd_1765 : Cond.instanceMethod ⟨"MailRouterModel", "lookUp", "()I"⟩ ∈ ej_WS := ej_ws (List.mem_of_getElem? (i := 1765) (by decide +kernel)) (by decide +kernel)
theorem wd_1766 : Cond.selects "MailRouterModel" ⟨"MailRouterModel", "lookUp", "()I"⟩ ⟨"MailRouterModel", "lookUp", "()I"⟩ ∈ ej_WS := ej_ws (List.mem_of_getElem? (i := 1766) (by decide +kernel)) (by decide +kernel)
theorem wd_1767 : Cond.code ⟨"MailRouterModel", "lookUp", "()I"⟩ prog_13_method_63_code 3 (some .int) ∈ ej_WS := ej_ws (List.mem_of_getElem? (i := 1767) (by decide +kernel)) (by decide +kernel)
theorem wd_1768 : Cond.methodLink "MailRouterLaw" 123 ⟨"MailRouterModel", "nodes", "()I"⟩ ∈ ej_WS := ej_ws (List.mem_of_getElem? (i := 1768) (by decide +kernel)) (by decide +kernel)
theorem wd_1769 : Cond.instanceMethod ⟨"MailRouterModel", "nodes", "()I"⟩ ∈ ej_WS := ej_ws (List.mem_of_getElem? (i := 1769) (by decide +kernel)) (by decide +kernel)
theorem wd_1770 : Cond.selects "MailRouterModel" ⟨"MailRouterModel", "nodes", "()I"⟩ ⟨"MailRouterModel", "nodes", "()I"⟩ ∈ ej_WS := ej_ws (List.mem_of_getElem? (i := 1770) (by decide +kernel)) (by decide +kernel)
theorem wd_1771 : Cond.code ⟨"MailRouterModel", "nodes", "()I"⟩ prog_13_method_64_code 1 (some .int) ∈ ej_WS := ej_ws (List.mem_of_getElem? (i := 1771) (by decide +kernel)) (by decide +kernel)
theorem wd_1772 : Cond.methodLink "MailRouterLaw" 126 ⟨"MailRouterModel", "name", "(I)I"⟩ ∈ ej_WS := ej_ws (List.mem_of_getElem? (i := 1772) (by decide +kernel)) (by decide +kernel)
theorem wd_1773 : Cond.instanceMethod ⟨"MailRouterModel", "name", "(I)I"⟩ ∈ ej_WS := ej_ws (List.mem_of_getElem? (i := 1773) (by decide +kernel)) (by decide +kernel)
theorem wd_1774 : Cond.selects "MailRouterModel" ⟨"MailRouterModel", "name", "(I)I"⟩ ⟨"MailRouterModel", "name", "(I)I"⟩ ∈ ej_WS := ej_ws (List.mem_of_getElem? (i := 1774) (by decide +kernel)) (by decide +kernel)
theorem wd_1775 : Cond.code ⟨"MailRouterModel", "name", "(I)I"⟩ prog_13_method_67_code 2 (some .int) ∈ ej_WS := ej_ws (List.mem_of_getElem? (i := 1775) (by decide +kernel)) (by decide +kernel)
theorem wd_1788 : Cond.methodLink "MailRouterLaw" 129 ⟨"MailRouterModel", "kind", "(I)I"⟩ ∈ ej_WS := ej_ws (List.mem_of_getElem? (i := 1788) (by decide +kernel)) (by decide +kernel)
theorem wd_1789 : Cond.instanceMethod ⟨"MailRouterModel", "kind", "(I)I"⟩ ∈ ej_WS := ej_ws (List.mem_of_getElem? (i := 1789) (by decide +kernel)) (by decide +kernel)
theorem wd_1790 : Cond.selects "MailRouterModel" ⟨"MailRouterModel", "kind", "(I)I"⟩ ⟨"MailRouterModel", "kind", "(I)I"⟩ ∈ ej_WS := ej_ws (List.mem_of_getElem? (i := 1790) (by decide +kernel)) (by decide +kernel)
theorem wd_1791 : Cond.code ⟨"MailRouterModel", "kind", "(I)I"⟩ prog_13_method_68_code 2 (some .int) ∈ ej_WS := ej_ws (List.mem_of_getElem? (i := 1791) (by decide +kernel)) (by decide +kernel)
theorem wd_1792 : Cond.methodLink "MailRouterLaw" 132 ⟨"MailRouterModel", "isPrivate", "(I)Z"⟩ ∈ ej_WS := ej_ws (List.mem_of_getElem? (i := 1792) (by decide +kernel)) (by decide +kernel)
theorem wd_1793 : Cond.instanceMethod ⟨"MailRouterModel", "isPrivate", "(I)Z"⟩ ∈ ej_WS := ej_ws (List.mem_of_getElem? (i := 1793) (by decide +kernel)) (by decide +kernel)
theorem wd_1794 : Cond.selects "MailRouterModel" ⟨"MailRouterModel", "isPrivate", "(I)Z"⟩ ⟨"MailRouterModel", "isPrivate", "(I)Z"⟩ ∈ ej_WS := ej_ws (List.mem_of_getElem? (i := 1794) (by decide +kernel)) (by decide +kernel)
theorem wd_1795 : Cond.code ⟨"MailRouterModel", "isPrivate", "(I)Z"⟩ prog_13_method_69_code 2 (some .boolean) ∈ ej_WS := ej_ws (List.mem_of_getElem? (i := 1795) (by decide +kernel)) (by decide +kernel)
theorem wd_1796 : Cond.methodLink "MailRouterLaw" 136 ⟨"MailRouterModel", "linkCost", "(II)I"⟩ ∈ ej_WS := ej_ws (List.mem_of_getElem? (i := 1796) (by decide +kernel)) (by decide +kernel)
theorem wd_1797 : Cond.instanceMethod ⟨"MailRouterModel", "linkCost", "(II)I"⟩ ∈ ej_WS := ej_ws (List.mem_of_getElem? (i := 1797) (by decide +kernel)) (by decide +kernel)
theorem wd_1798 : Cond.selects "MailRouterModel" ⟨"MailRouterModel", "linkCost", "(II)I"⟩ ⟨"MailRouterModel", "linkCost", "(II)I"⟩ ∈ ej_WS := ej_ws (List.mem_of_getElem? (i := 1798) (by decide +kernel)) (by decide +kernel)
theorem wd_1799 : Cond.code ⟨"MailRouterModel", "linkCost", "(II)I"⟩ prog_13_method_71_code 3 (some .int) ∈ ej_WS := ej_ws (List.mem_of_getElem? (i := 1799) (by decide +kernel)) (by decide +kernel)
theorem wd_1804 : Cond.methodLink "MailRouterLaw" 139 ⟨"MailRouterModel", "memberCost", "(II)I"⟩ ∈ ej_WS := ej_ws (List.mem_of_getElem? (i := 1804) (by decide +kernel)) (by decide +kernel)
theorem wd_1805 : Cond.instanceMethod ⟨"MailRouterModel", "memberCost", "(II)I"⟩ ∈ ej_WS := ej_ws (List.mem_of_getElem? (i := 1805) (by decide +kernel)) (by decide +kernel)
theorem wd_1806 : Cond.selects "MailRouterModel" ⟨"MailRouterModel", "memberCost", "(II)I"⟩ ⟨"MailRouterModel", "memberCost", "(II)I"⟩ ∈ ej_WS := ej_ws (List.mem_of_getElem? (i := 1806) (by decide +kernel)) (by decide +kernel)
theorem wd_1807 : Cond.code ⟨"MailRouterModel", "memberCost", "(II)I"⟩ prog_13_method_72_code 3 (some .int) ∈ ej_WS := ej_ws (List.mem_of_getElem? (i := 1807) (by decide +kernel)) (by decide +kernel)
theorem wd_1808 : Cond.methodLink "MailRouterLaw" 142 ⟨"MailRouterModel", "cost", "(I)I"⟩ ∈ ej_WS := ej_ws (List.mem_of_getElem? (i := 1808) (by decide +kernel)) (by decide +kernel)
theorem wd_1809 : Cond.instanceMethod ⟨"MailRouterModel", "cost", "(I)I"⟩ ∈ ej_WS := ej_ws (List.mem_of_getElem? (i := 1809) (by decide +kernel)) (by decide +kernel)
theorem wd_1810 : Cond.selects "MailRouterModel" ⟨"MailRouterModel", "cost", "(I)I"⟩ ⟨"MailRouterModel", "cost", "(I)I"⟩ ∈ ej_WS := ej_ws (List.mem_of_getElem? (i := 1810) (by decide +kernel)) (by decide +kernel)
theorem wd_1811 : Cond.code ⟨"MailRouterModel", "cost", "(I)I"⟩ prog_13_method_74_code 2 (some .int) ∈ ej_WS := ej_ws (List.mem_of_getElem? (i := 1811) (by decide +kernel)) (by decide +kernel)
theorem wd_1820 : Cond.methodLink "MailRouterLaw" 145 ⟨"MailRouterModel", "costByRounds", "(I)I"⟩ ∈ ej_WS := ej_ws (List.mem_of_getElem? (i := 1820) (by decide +kernel)) (by decide +kernel)
theorem wd_1821 : Cond.instanceMethod ⟨"MailRouterModel", "costByRounds", "(I)I"⟩ ∈ ej_WS := ej_ws (List.mem_of_getElem? (i := 1821) (by decide +kernel)) (by decide +kernel)
theorem wd_1822 : Cond.selects "MailRouterModel" ⟨"MailRouterModel", "costByRounds", "(I)I"⟩ ⟨"MailRouterModel", "costByRounds", "(I)I"⟩ ∈ ej_WS := ej_ws (List.mem_of_getElem? (i := 1822) (by decide +kernel)) (by decide +kernel)
theorem wd_1823 : Cond.code ⟨"MailRouterModel", "costByRounds", "(I)I"⟩ prog_13_method_75_code 2 (some .int) ∈ ej_WS := ej_ws (List.mem_of_getElem? (i := 1823) (by decide +kernel)) (by decide +kernel)
theorem wd_1824 : Cond.methodLink "MailRouterLaw" 148 ⟨"MailRouterModel", "steps", "(I)I"⟩ ∈ ej_WS := ej_ws (List.mem_of_getElem? (i := 1824) (by decide +kernel)) (by decide +kernel)
theorem wd_1825 : Cond.instanceMethod ⟨"MailRouterModel", "steps", "(I)I"⟩ ∈ ej_WS := ej_ws (List.mem_of_getElem? (i := 1825) (by decide +kernel)) (by decide +kernel)
theorem wd_1826 : Cond.selects "MailRouterModel" ⟨"MailRouterModel", "steps", "(I)I"⟩ ⟨"MailRouterModel", "steps", "(I)I"⟩ ∈ ej_WS := ej_ws (List.mem_of_getElem? (i := 1826) (by decide +kernel)) (by decide +kernel)
theorem wd_1827 : Cond.code ⟨"MailRouterModel", "steps", "(I)I"⟩ prog_13_method_76_code 3 (some .int) ∈ ej_WS := ej_ws (List.mem_of_getElem? (i := 1827) (by decide +kernel)) (by decide +kernel)
theorem wd_1828 : Cond.methodLink "MailRouterLaw" 151 ⟨"MailRouterModel", "state", "(I)I"⟩ ∈ ej_WS := ej_ws (List.mem_of_getElem? (i := 1828) (by decide +kernel)) (by decide +kernel)
theorem wd_1829 : Cond.instanceMethod ⟨"MailRouterModel", "state", "(I)I"⟩ ∈ ej_WS := ej_ws (List.mem_of_getElem? (i := 1829) (by decide +kernel)) (by decide +kernel)
theorem wd_1830 : Cond.selects "MailRouterModel" ⟨"MailRouterModel", "state", "(I)I"⟩ ⟨"MailRouterModel", "state", "(I)I"⟩ ∈ ej_WS := ej_ws (List.mem_of_getElem? (i := 1830) (by decide +kernel)) (by decide +kernel)
theorem wd_1831 : Cond.code ⟨"MailRouterModel", "state", "(I)I"⟩ prog_13_method_77_code 3 (some .int) ∈ ej_WS := ej_ws (List.mem_of_getElem? (i := 1831) (by decide +kernel)) (by decide +kernel)
theorem wd_1832 : Cond.methodLink "MailRouterLaw" 154 ⟨"MailRouterModel", "nodeAt", "(II)I"⟩ ∈ ej_WS := ej_ws (List.mem_of_getElem? (i := 1832) (by decide +kernel)) (by decide +kernel)
theorem wd_1833 : Cond.instanceMethod ⟨"MailRouterModel", "nodeAt", "(II)I"⟩ ∈ ej_WS := ej_ws (List.mem_of_getElem? (i := 1833) (by decide +kernel)) (by decide +kernel)
theorem wd_1834 : Cond.selects "MailRouterModel" ⟨"MailRouterModel", "nodeAt", "(II)I"⟩ ⟨"MailRouterModel", "nodeAt", "(II)I"⟩ ∈ ej_WS := ej_ws (List.mem_of_getElem? (i := 1834) (by decide +kernel)) (by decide +kernel)
theorem wd_1835 : Cond.code ⟨"MailRouterModel", "nodeAt", "(II)I"⟩ prog_13_method_79_code 4 (some .int) ∈ ej_WS := ej_ws (List.mem_of_getElem? (i := 1835) (by decide +kernel)) (by decide +kernel)
theorem wd_1844 : Cond.methodLink "MailRouterLaw" 157 ⟨"MailRouterModel", "costAt", "(II)I"⟩ ∈ ej_WS := ej_ws (List.mem_of_getElem? (i := 1844) (by decide +kernel)) (by decide +kernel)
theorem wd_1845 : Cond.instanceMethod ⟨"MailRouterModel", "costAt", "(II)I"⟩ ∈ ej_WS := ej_ws (List.mem_of_getElem? (i := 1845) (by decide +kernel)) (by decide +kernel)
theorem wd_1846 : Cond.selects "MailRouterModel" ⟨"MailRouterModel", "costAt", "(II)I"⟩ ⟨"MailRouterModel", "costAt", "(II)I"⟩ ∈ ej_WS := ej_ws (List.mem_of_getElem? (i := 1846) (by decide +kernel)) (by decide +kernel)
theorem wd_1847 : Cond.code ⟨"MailRouterModel", "costAt", "(II)I"⟩ prog_13_method_80_code 4 (some .int) ∈ ej_WS := ej_ws (List.mem_of_getElem? (i := 1847) (by decide +kernel)) (by decide +kernel)
theorem wd_1848 : Cond.methodLink "MailRouterLaw" 160 ⟨"MailRouterModel", "stepAt", "(II)I"⟩ ∈ ej_WS := ej_ws (List.mem_of_getElem? (i := 1848) (by decide +kernel)) (by decide +kernel)
theorem wd_1849 : Cond.instanceMethod ⟨"MailRouterModel", "stepAt", "(II)I"⟩ ∈ ej_WS := ej_ws (List.mem_of_getElem? (i := 1849) (by decide +kernel)) (by decide +kernel)
theorem wd_1850 : Cond.selects "MailRouterModel" ⟨"MailRouterModel", "stepAt", "(II)I"⟩ ⟨"MailRouterModel", "stepAt", "(II)I"⟩ ∈ ej_WS := ej_ws (List.mem_of_getElem? (i := 1850) (by decide +kernel)) (by decide +kernel)
theorem wd_1851 : Cond.code ⟨"MailRouterModel", "stepAt", "(II)I"⟩ prog_13_method_81_code 4 (some .int) ∈ ej_WS := ej_ws (List.mem_of_getElem? (i := 1851) (by decide +kernel)) (by decide +kernel)
theorem wd_1852 : Cond.methodLink "MailRouterLaw" 163 ⟨"MailRouterModel", "isBack", "(II)Z"⟩ ∈ ej_WS := ej_ws (List.mem_of_getElem? (i := 1852) (by decide +kernel)) (by decide +kernel)
theorem wd_1853 : Cond.instanceMethod ⟨"MailRouterModel", "isBack", "(II)Z"⟩ ∈ ej_WS := ej_ws (List.mem_of_getElem? (i := 1853) (by decide +kernel)) (by decide +kernel)
theorem wd_1854 : Cond.selects "MailRouterModel" ⟨"MailRouterModel", "isBack", "(II)Z"⟩ ⟨"MailRouterModel", "isBack", "(II)Z"⟩ ∈ ej_WS := ej_ws (List.mem_of_getElem? (i := 1854) (by decide +kernel)) (by decide +kernel)
theorem wd_1855 : Cond.code ⟨"MailRouterModel", "isBack", "(II)Z"⟩ prog_13_method_82_code 3 (some .boolean) ∈ ej_WS := ej_ws (List.mem_of_getElem? (i := 1855) (by decide +kernel)) (by decide +kernel)
theorem wd_1856 : Cond.methodLink "MailRouterLaw" 166 ⟨"MailRouterModel", "print", "(I)I"⟩ ∈ ej_WS := ej_ws (List.mem_of_getElem? (i := 1856) (by decide +kernel)) (by decide +kernel)
theorem wd_1857 : Cond.instanceMethod ⟨"MailRouterModel", "print", "(I)I"⟩ ∈ ej_WS := ej_ws (List.mem_of_getElem? (i := 1857) (by decide +kernel)) (by decide +kernel)
theorem wd_1858 : Cond.selects "MailRouterModel" ⟨"MailRouterModel", "print", "(I)I"⟩ ⟨"MailRouterModel", "print", "(I)I"⟩ ∈ ej_WS := ej_ws (List.mem_of_getElem? (i := 1858) (by decide +kernel)) (by decide +kernel)
theorem wd_1859 : Cond.code ⟨"MailRouterModel", "print", "(I)I"⟩ prog_13_method_89_code 2 (some .int) ∈ ej_WS := ej_ws (List.mem_of_getElem? (i := 1859) (by decide +kernel)) (by decide +kernel)
theorem wd_1880 : Cond.methodLink "MailRouterLaw" 170 ⟨"MailRouterModel", "rewrite", "()I"⟩ ∈ ej_WS := ej_ws (List.mem_of_getElem? (i := 1880) (by decide +kernel)) (by decide +kernel)
theorem wd_1881 : Cond.instanceMethod ⟨"MailRouterModel", "rewrite", "()I"⟩ ∈ ej_WS := ej_ws (List.mem_of_getElem? (i := 1881) (by decide +kernel)) (by decide +kernel)
theorem wd_1882 : Cond.selects "MailRouterModel" ⟨"MailRouterModel", "rewrite", "()I"⟩ ⟨"MailRouterModel", "rewrite", "()I"⟩ ∈ ej_WS := ej_ws (List.mem_of_getElem? (i := 1882) (by decide +kernel)) (by decide +kernel)
theorem wd_1883 : Cond.code ⟨"MailRouterModel", "rewrite", "()I"⟩ prog_13_method_94_code 8 (some .int) ∈ ej_WS := ej_ws (List.mem_of_getElem? (i := 1883) (by decide +kernel)) (by decide +kernel)
theorem wd_1900 : Cond.methodLink "MailRouterLaw" 175 ⟨"MailRouterModel", "word", "(I)J"⟩ ∈ ej_WS := ej_ws (List.mem_of_getElem? (i := 1900) (by decide +kernel)) (by decide +kernel)
theorem wd_1901 : Cond.instanceMethod ⟨"MailRouterModel", "word", "(I)J"⟩ ∈ ej_WS := ej_ws (List.mem_of_getElem? (i := 1901) (by decide +kernel)) (by decide +kernel)
theorem wd_1902 : Cond.selects "MailRouterModel" ⟨"MailRouterModel", "word", "(I)J"⟩ ⟨"MailRouterModel", "word", "(I)J"⟩ ∈ ej_WS := ej_ws (List.mem_of_getElem? (i := 1902) (by decide +kernel)) (by decide +kernel)
theorem wd_1903 : Cond.code ⟨"MailRouterModel", "word", "(I)J"⟩ prog_13_method_95_code 7 (some .long) ∈ ej_WS := ej_ws (List.mem_of_getElem? (i := 1903) (by decide +kernel)) (by decide +kernel)
theorem ejb_31 : (Int8.ofInt (31)).toInt32 = 31 := by decide
theorem wlk_13 : Cond.classLink RL 13 (ej_en 1) ∈ ej_WS := ej_ws (List.mem_of_getElem? (i := 756) (by decide +kernel)) (by decide +kernel)
theorem wcd_1 : Cond.castable (ej_en 1) (ej_en 1) ∈ cw_cd := List.mem_filter.mpr ⟨List.mem_of_getElem? (i := 764) (by decide +kernel), by decide +kernel⟩
theorem wlk_15 : Cond.classLink RL 15 (ej_en 2) ∈ ej_WS := ej_ws (List.mem_of_getElem? (i := 757) (by decide +kernel)) (by decide +kernel)
theorem wcd_2 : Cond.castable (ej_en 2) (ej_en 2) ∈ cw_cd := List.mem_filter.mpr ⟨List.mem_of_getElem? (i := 831) (by decide +kernel), by decide +kernel⟩
theorem wlk_21 : Cond.classLink RL 21 (ej_en 3) ∈ ej_WS := ej_ws (List.mem_of_getElem? (i := 849) (by decide +kernel)) (by decide +kernel)
theorem wcd_3 : Cond.castable (ej_en 3) (ej_en 3) ∈ cw_cd := List.mem_filter.mpr ⟨List.mem_of_getElem? (i := 859) (by decide +kernel), by decide +kernel⟩
theorem ej_tout25 {z : Int32} (h0 : z ≠ 0) (h1 : z ≠ 1) (h2 : z ≠ 2) (h3 : z ≠ 3) (h4 : z ≠ 4) (h5 : z ≠ 5) (h6 : z ≠ 6) (h7 : z ≠ 7) (h8 : z ≠ 8) (h9 : z ≠ 9) (h10 : z ≠ 10) (h11 : z ≠ 11) (h12 : z ≠ 12) (h13 : z ≠ 13) (h14 : z ≠ 14) (h15 : z ≠ 15) (h16 : z ≠ 16) (h17 : z ≠ 17) (h18 : z ≠ 18) (h19 : z ≠ 19) (h20 : z ≠ 20) (h21 : z ≠ 21) (h22 : z ≠ 22) (h23 : z ≠ 23) (h24 : z ≠ 24) : z.toInt < 0 ∨ 24 < z.toInt := by
  have e0 := ej_ne h0
  have q0 : (0 : Int32).toInt = 0 := by decide
  have e1 := ej_ne h1
  have q1 : (1 : Int32).toInt = 1 := by decide
  have e2 := ej_ne h2
  have q2 : (2 : Int32).toInt = 2 := by decide
  have e3 := ej_ne h3
  have q3 : (3 : Int32).toInt = 3 := by decide
  have e4 := ej_ne h4
  have q4 : (4 : Int32).toInt = 4 := by decide
  have e5 := ej_ne h5
  have q5 : (5 : Int32).toInt = 5 := by decide
  have e6 := ej_ne h6
  have q6 : (6 : Int32).toInt = 6 := by decide
  have e7 := ej_ne h7
  have q7 : (7 : Int32).toInt = 7 := by decide
  have e8 := ej_ne h8
  have q8 : (8 : Int32).toInt = 8 := by decide
  have e9 := ej_ne h9
  have q9 : (9 : Int32).toInt = 9 := by decide
  have e10 := ej_ne h10
  have q10 : (10 : Int32).toInt = 10 := by decide
  have e11 := ej_ne h11
  have q11 : (11 : Int32).toInt = 11 := by decide
  have e12 := ej_ne h12
  have q12 : (12 : Int32).toInt = 12 := by decide
  have e13 := ej_ne h13
  have q13 : (13 : Int32).toInt = 13 := by decide
  have e14 := ej_ne h14
  have q14 : (14 : Int32).toInt = 14 := by decide
  have e15 := ej_ne h15
  have q15 : (15 : Int32).toInt = 15 := by decide
  have e16 := ej_ne h16
  have q16 : (16 : Int32).toInt = 16 := by decide
  have e17 := ej_ne h17
  have q17 : (17 : Int32).toInt = 17 := by decide
  have e18 := ej_ne h18
  have q18 : (18 : Int32).toInt = 18 := by decide
  have e19 := ej_ne h19
  have q19 : (19 : Int32).toInt = 19 := by decide
  have e20 := ej_ne h20
  have q20 : (20 : Int32).toInt = 20 := by decide
  have e21 := ej_ne h21
  have q21 : (21 : Int32).toInt = 21 := by decide
  have e22 := ej_ne h22
  have q22 : (22 : Int32).toInt = 22 := by decide
  have e23 := ej_ne h23
  have q23 : (23 : Int32).toInt = 23 := by decide
  have e24 := ej_ne h24
  have q24 : (24 : Int32).toInt = 24 := by decide
  omega
theorem lv_L_103 : ej_LV RL 103 yX11_value i11_value (some .int) 0 := ⟨wd_1744, wd_1745, wd_1746, wd_117, wd_1747, by decide, by decide, by decide +kernel⟩
theorem lv_L_104 : ej_LV RL 104 yX10_fault i10_fault (some .int) 1 := ⟨wd_449, wd_450, wd_451, wd_106, wd_452, by decide, by decide, by decide +kernel⟩
theorem lv_L_108 : ej_LV RL 108 yX11_fault i11_fault (some .int) 1 := ⟨wd_1748, wd_1749, wd_1750, wd_117, wd_1751, by decide, by decide, by decide +kernel⟩
theorem lv_L_111 : ej_LV RL 111 yX11_setHome i11_setHome (some .int) 0 := ⟨wd_1752, wd_1753, wd_1754, wd_117, wd_1755, by decide, by decide, by decide +kernel⟩
theorem lv_L_112 : ej_LV RL 112 yX10_home i10_home (some .int) 0 := ⟨wd_461, wd_462, wd_463, wd_106, wd_464, by decide, by decide, by decide +kernel⟩
theorem lv_L_115 : ej_LV RL 115 yX11_home i11_home (some .int) 0 := ⟨wd_1760, wd_1761, wd_1762, wd_117, wd_1763, by decide, by decide, by decide +kernel⟩
theorem lv_L_116 : ej_LV RL 116 yX10_lookUp i10_lookUp (some .int) 0 := ⟨wd_473, wd_474, wd_475, wd_106, wd_476, by decide, by decide, by decide +kernel⟩
theorem lv_L_119 : ej_LV RL 119 yX11_lookUp i11_lookUp (some .int) 0 := ⟨wd_1764, wd_1765, wd_1766, wd_117, wd_1767, by decide, by decide, by decide +kernel⟩
theorem lv_L_120 : ej_LV RL 120 yX10_nodes i10_nodes (some .int) 0 := ⟨wd_505, wd_506, wd_507, wd_106, wd_508, by decide, by decide, by decide +kernel⟩
theorem lv_L_123 : ej_LV RL 123 yX11_nodes i11_nodes (some .int) 0 := ⟨wd_1768, wd_1769, wd_1770, wd_117, wd_1771, by decide, by decide, by decide +kernel⟩
theorem lv_L_126 : ej_LV RL 126 yX11_name i11_name (some .int) 1 := ⟨wd_1772, wd_1773, wd_1774, wd_117, wd_1775, by decide, by decide, by decide +kernel⟩
theorem lv_L_129 : ej_LV RL 129 yX11_kind i11_kind (some .int) 1 := ⟨wd_1788, wd_1789, wd_1790, wd_117, wd_1791, by decide, by decide, by decide +kernel⟩
theorem lv_L_132 : ej_LV RL 132 yX11_isPrivate i11_isPrivate (some .boolean) 1 := ⟨wd_1792, wd_1793, wd_1794, wd_117, wd_1795, by decide, by decide, by decide +kernel⟩
theorem lv_L_136 : ej_LV RL 136 yX11_linkCost i11_linkCost (some .int) 2 := ⟨wd_1796, wd_1797, wd_1798, wd_117, wd_1799, by decide, by decide, by decide +kernel⟩
theorem lv_L_139 : ej_LV RL 139 yX11_memberCost i11_memberCost (some .int) 2 := ⟨wd_1804, wd_1805, wd_1806, wd_117, wd_1807, by decide, by decide, by decide +kernel⟩
theorem lv_L_142 : ej_LV RL 142 yX11_cost i11_cost (some .int) 1 := ⟨wd_1808, wd_1809, wd_1810, wd_117, wd_1811, by decide, by decide, by decide +kernel⟩
theorem lv_L_145 : ej_LV RL 145 yX11_costByRounds i11_costByRounds (some .int) 1 := ⟨wd_1820, wd_1821, wd_1822, wd_117, wd_1823, by decide, by decide, by decide +kernel⟩
theorem lv_L_148 : ej_LV RL 148 yX11_steps i11_steps (some .int) 1 := ⟨wd_1824, wd_1825, wd_1826, wd_117, wd_1827, by decide, by decide, by decide +kernel⟩
theorem lv_L_151 : ej_LV RL 151 yX11_state i11_state (some .int) 1 := ⟨wd_1828, wd_1829, wd_1830, wd_117, wd_1831, by decide, by decide, by decide +kernel⟩
theorem lv_L_154 : ej_LV RL 154 yX11_nodeAt i11_nodeAt (some .int) 2 := ⟨wd_1832, wd_1833, wd_1834, wd_117, wd_1835, by decide, by decide, by decide +kernel⟩
theorem lv_L_157 : ej_LV RL 157 yX11_costAt i11_costAt (some .int) 2 := ⟨wd_1844, wd_1845, wd_1846, wd_117, wd_1847, by decide, by decide, by decide +kernel⟩
theorem lv_L_160 : ej_LV RL 160 yX11_stepAt i11_stepAt (some .int) 2 := ⟨wd_1848, wd_1849, wd_1850, wd_117, wd_1851, by decide, by decide, by decide +kernel⟩
theorem lv_L_163 : ej_LV RL 163 yX11_isBack i11_isBack (some .boolean) 2 := ⟨wd_1852, wd_1853, wd_1854, wd_117, wd_1855, by decide, by decide, by decide +kernel⟩
theorem lv_L_166 : ej_LV RL 166 yX11_print i11_print (some .int) 1 := ⟨wd_1856, wd_1857, wd_1858, wd_117, wd_1859, by decide, by decide, by decide +kernel⟩
theorem lv_L_167 : ej_LV RL 167 yX10_rewrite i10_rewrite (some .int) 0 := ⟨wd_513, wd_514, wd_515, wd_106, wd_516, by decide, by decide, by decide +kernel⟩
theorem lv_L_17 : ej_LV RL 17 yX10_load i10_load (some .int) 1 := ⟨wd_850, wd_851, wd_852, wd_106, wd_853, by decide, by decide, by decide +kernel⟩
theorem lv_L_170 : ej_LV RL 170 yX11_rewrite i11_rewrite (some .int) 0 := ⟨wd_1880, wd_1881, wd_1882, wd_117, wd_1883, by decide, by decide, by decide +kernel⟩
theorem lv_L_171 : ej_LV RL 171 yX10_word i10_word (some .long) 1 := ⟨wd_748, wd_749, wd_750, wd_106, wd_751, by decide, by decide, by decide +kernel⟩
theorem lv_L_175 : ej_LV RL 175 yX11_word i11_word (some .long) 1 := ⟨wd_1900, wd_1901, wd_1902, wd_117, wd_1903, by decide, by decide, by decide +kernel⟩
theorem lv_L_23 : ej_LV RL 23 yX10_drop i10_drop (some .int) 1 := ⟨wd_1178, wd_1179, wd_1180, wd_106, wd_1181, by decide, by decide, by decide +kernel⟩
theorem lv_L_26 : ej_LV RL 26 yX10_value i10_value (some .int) 0 := ⟨wd_1185, wd_1186, wd_1187, wd_106, wd_1188, by decide, by decide, by decide +kernel⟩
theorem lv_L_30 : ej_LV RL 30 yX10_setHome i10_setHome (some .int) 0 := ⟨wd_1201, wd_1202, wd_1203, wd_106, wd_1204, by decide, by decide, by decide +kernel⟩
theorem lv_L_33 : ej_LV RL 33 yX10_name i10_name (some .int) 1 := ⟨wd_1214, wd_1215, wd_1216, wd_106, wd_1217, by decide, by decide, by decide +kernel⟩
theorem lv_L_36 : ej_LV RL 36 yX10_kind i10_kind (some .int) 1 := ⟨wd_1229, wd_1230, wd_1231, wd_106, wd_1232, by decide, by decide, by decide +kernel⟩
theorem lv_L_39 : ej_LV RL 39 yX10_isPrivate i10_isPrivate (some .boolean) 1 := ⟨wd_1237, wd_1238, wd_1239, wd_106, wd_1240, by decide, by decide, by decide +kernel⟩
theorem lv_L_43 : ej_LV RL 43 yX10_linkCost i10_linkCost (some .int) 2 := ⟨wd_1245, wd_1246, wd_1247, wd_106, wd_1248, by decide, by decide, by decide +kernel⟩
theorem lv_L_47 : ej_LV RL 47 yX10_memberCost i10_memberCost (some .int) 2 := ⟨wd_1253, wd_1254, wd_1255, wd_106, wd_1256, by decide, by decide, by decide +kernel⟩
theorem lv_L_50 : ej_LV RL 50 yX10_cost i10_cost (some .int) 1 := ⟨wd_1261, wd_1262, wd_1263, wd_106, wd_1264, by decide, by decide, by decide +kernel⟩
theorem lv_L_53 : ej_LV RL 53 yX10_costByRounds i10_costByRounds (some .int) 1 := ⟨wd_1273, wd_1274, wd_1275, wd_106, wd_1276, by decide, by decide, by decide +kernel⟩
theorem lv_L_56 : ej_LV RL 56 yX10_steps i10_steps (some .int) 1 := ⟨wd_1296, wd_1297, wd_1298, wd_106, wd_1299, by decide, by decide, by decide +kernel⟩
theorem lv_L_59 : ej_LV RL 59 yX10_state i10_state (some .int) 1 := ⟨wd_1304, wd_1305, wd_1306, wd_106, wd_1307, by decide, by decide, by decide +kernel⟩
theorem lv_L_62 : ej_LV RL 62 yX10_nodeAt i10_nodeAt (some .int) 2 := ⟨wd_1311, wd_1312, wd_1313, wd_106, wd_1314, by decide, by decide, by decide +kernel⟩
theorem lv_L_65 : ej_LV RL 65 yX10_costAt i10_costAt (some .int) 2 := ⟨wd_1325, wd_1326, wd_1327, wd_106, wd_1328, by decide, by decide, by decide +kernel⟩
theorem lv_L_68 : ej_LV RL 68 yX10_stepAt i10_stepAt (some .int) 2 := ⟨wd_1332, wd_1333, wd_1334, wd_106, wd_1335, by decide, by decide, by decide +kernel⟩
theorem lv_L_7 : ej_LV RL 7 yX10_feed i10_feed (some .int) 2 := ⟨wd_758, wd_759, wd_760, wd_106, wd_761, by decide, by decide, by decide +kernel⟩
theorem lv_L_71 : ej_LV RL 71 yX10_isBack i10_isBack (some .boolean) 2 := ⟨wd_1340, wd_1341, wd_1342, wd_106, wd_1343, by decide, by decide, by decide +kernel⟩
theorem lv_L_75 : ej_LV RL 75 yX10_print i10_print (some .int) 1 := ⟨wd_1348, wd_1349, wd_1350, wd_106, wd_1351, by decide, by decide, by decide +kernel⟩
theorem lv_L_89 : ej_LV RL 89 yX11_feed i11_feed (some .int) 2 := ⟨wd_1717, wd_1718, wd_1719, wd_117, wd_1720, by decide, by decide, by decide +kernel⟩
theorem lv_L_90 : ej_LV RL 90 yX11_thrown i11_thrown (some .int) 0 := ⟨wd_1713, wd_1714, wd_1715, wd_117, wd_1716, by decide, by decide, by decide +kernel⟩
theorem lv_L_96 : ej_LV RL 96 yX11_load i11_load (some .int) 1 := ⟨wd_1725, wd_1726, wd_1727, wd_117, wd_1728, by decide, by decide, by decide +kernel⟩
theorem lv_L_99 : ej_LV RL 99 yX11_drop i11_drop (some .int) 1 := ⟨wd_1740, wd_1741, wd_1742, wd_117, wd_1743, by decide, by decide, by decide +kernel⟩
theorem lw_L_100 : ej_LW RL 100 yL_value iL_value [(0, 8, 11, 15)] 2 := ⟨wd_1182, wd_1183, wd_105, ej_ws (List.mem_of_getElem? (i := 1184) (by decide +kernel)) (by decide +kernel), by decide, by decide, by decide +kernel⟩
theorem lw_L_109 : ej_LW RL 109 yL_setHome iL_setHome [(0, 8, 11, 13)] 2 := ⟨wd_1198, wd_1199, wd_105, ej_ws (List.mem_of_getElem? (i := 1200) (by decide +kernel)) (by decide +kernel), by decide, by decide, by decide +kernel⟩
theorem lw_L_124 : ej_LW RL 124 yL_name iL_name [(0, 9, 12, 21)] 3 := ⟨wd_1211, wd_1212, wd_105, ej_ws (List.mem_of_getElem? (i := 1213) (by decide +kernel)) (by decide +kernel), by decide, by decide, by decide +kernel⟩
theorem lw_L_127 : ej_LW RL 127 yL_kind iL_kind [(0, 9, 12, 21)] 3 := ⟨wd_1226, wd_1227, wd_105, ej_ws (List.mem_of_getElem? (i := 1228) (by decide +kernel)) (by decide +kernel), by decide, by decide, by decide +kernel⟩
theorem lw_L_130 : ej_LW RL 130 yL_isPrivate iL_isPrivate [(0, 16, 19, 21)] 3 := ⟨wd_1234, wd_1235, wd_105, ej_ws (List.mem_of_getElem? (i := 1236) (by decide +kernel)) (by decide +kernel), by decide, by decide, by decide +kernel⟩
theorem lw_L_133 : ej_LW RL 133 yL_linkCost iL_linkCost [(0, 10, 13, 21)] 4 := ⟨wd_1242, wd_1243, wd_105, ej_ws (List.mem_of_getElem? (i := 1244) (by decide +kernel)) (by decide +kernel), by decide, by decide, by decide +kernel⟩
theorem lw_L_137 : ej_LW RL 137 yL_memberCost iL_memberCost [(0, 10, 13, 21)] 4 := ⟨wd_1250, wd_1251, wd_105, ej_ws (List.mem_of_getElem? (i := 1252) (by decide +kernel)) (by decide +kernel), by decide, by decide, by decide +kernel⟩
theorem lw_L_140 : ej_LW RL 140 yL_cost iL_cost [(0, 9, 12, 21)] 3 := ⟨wd_1258, wd_1259, wd_105, ej_ws (List.mem_of_getElem? (i := 1260) (by decide +kernel)) (by decide +kernel), by decide, by decide, by decide +kernel⟩
theorem lw_L_143 : ej_LW RL 143 yL_costByRounds iL_costByRounds [(0, 9, 12, 21)] 3 := ⟨wd_1270, wd_1271, wd_105, ej_ws (List.mem_of_getElem? (i := 1272) (by decide +kernel)) (by decide +kernel), by decide, by decide, by decide +kernel⟩
theorem lw_L_146 : ej_LW RL 146 yL_steps iL_steps [(0, 9, 12, 21)] 3 := ⟨wd_1293, wd_1294, wd_105, ej_ws (List.mem_of_getElem? (i := 1295) (by decide +kernel)) (by decide +kernel), by decide, by decide, by decide +kernel⟩
theorem lw_L_149 : ej_LW RL 149 yL_state iL_state [(0, 9, 12, 21)] 3 := ⟨wd_1301, wd_1302, wd_105, ej_ws (List.mem_of_getElem? (i := 1303) (by decide +kernel)) (by decide +kernel), by decide, by decide, by decide +kernel⟩
theorem lw_L_152 : ej_LW RL 152 yL_nodeAt iL_nodeAt [(0, 10, 13, 21)] 4 := ⟨wd_1308, wd_1309, wd_105, ej_ws (List.mem_of_getElem? (i := 1310) (by decide +kernel)) (by decide +kernel), by decide, by decide, by decide +kernel⟩
theorem lw_L_155 : ej_LW RL 155 yL_costAt iL_costAt [(0, 10, 13, 21)] 4 := ⟨wd_1322, wd_1323, wd_105, ej_ws (List.mem_of_getElem? (i := 1324) (by decide +kernel)) (by decide +kernel), by decide, by decide, by decide +kernel⟩
theorem lw_L_158 : ej_LW RL 158 yL_stepAt iL_stepAt [(0, 10, 13, 21)] 4 := ⟨wd_1329, wd_1330, wd_105, ej_ws (List.mem_of_getElem? (i := 1331) (by decide +kernel)) (by decide +kernel), by decide, by decide, by decide +kernel⟩
theorem lw_L_161 : ej_LW RL 161 yL_isBack iL_isBack [(0, 17, 20, 21)] 4 := ⟨wd_1337, wd_1338, wd_105, ej_ws (List.mem_of_getElem? (i := 1339) (by decide +kernel)) (by decide +kernel), by decide, by decide, by decide +kernel⟩
theorem lw_L_164 : ej_LW RL 164 yL_print iL_print [(0, 9, 12, 21)] 3 := ⟨wd_1345, wd_1346, wd_105, ej_ws (List.mem_of_getElem? (i := 1347) (by decide +kernel)) (by decide +kernel), by decide, by decide, by decide +kernel⟩
theorem lw_L_84 : ej_LW RL 84 yL_feed iL_feed [(0, 11, 14, 13), (0, 11, 18, 15)] 4 := ⟨wd_753, wd_754, wd_105, ej_ws (List.mem_of_getElem? (i := 755) (by decide +kernel)) (by decide +kernel), by decide, by decide, by decide +kernel⟩
theorem lw_L_93 : ej_LW RL 93 yL_load iL_load [(0, 9, 12, 21), (0, 9, 15, 15)] 3 := ⟨wd_846, wd_847, wd_105, ej_ws (List.mem_of_getElem? (i := 848) (by decide +kernel)) (by decide +kernel), by decide, by decide, by decide +kernel⟩
theorem lw_L_97 : ej_LW RL 97 yL_drop iL_drop [(0, 9, 12, 21)] 3 := ⟨wd_1175, wd_1176, wd_105, ej_ws (List.mem_of_getElem? (i := 1177) (by decide +kernel)) (by decide +kernel), by decide, by decide, by decide +kernel⟩
