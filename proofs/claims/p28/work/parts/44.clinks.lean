theorem wd_76 : Cond.classLink "MailRouter" 9 "MailRouter$Text" ∈ ej_WS := ej_ws (List.mem_of_getElem? (i := 76) (by decide +kernel)) (by decide +kernel)
theorem wd_77 : Cond.instantiable "MailRouter$Text" 2 ∈ ej_WS := ej_ws (List.mem_of_getElem? (i := 77) (by decide +kernel)) (by decide +kernel)
theorem wd_78 : Cond.methodLink "MailRouter" 11 ⟨"MailRouter$Text", "<init>", "(I)V"⟩ ∈ ej_WS := ej_ws (List.mem_of_getElem? (i := 78) (by decide +kernel)) (by decide +kernel)
theorem wd_79 : Cond.instanceMethod ⟨"MailRouter$Text", "<init>", "(I)V"⟩ ∈ ej_WS := ej_ws (List.mem_of_getElem? (i := 79) (by decide +kernel)) (by decide +kernel)
theorem wd_80 : Cond.code ⟨"MailRouter$Text", "<init>", "(I)V"⟩ prog_9_method_1_code 2 none ∈ ej_WS := ej_ws (List.mem_of_getElem? (i := 80) (by decide +kernel)) (by decide +kernel)
theorem wd_92 : Cond.arrayClass .byte ∈ ej_WS := ej_ws (List.mem_of_getElem? (i := 92) (by decide +kernel)) (by decide +kernel)
theorem wd_94 : Cond.classLink "MailRouter" 29 "MailRouter$Fault" ∈ ej_WS := ej_ws (List.mem_of_getElem? (i := 94) (by decide +kernel)) (by decide +kernel)
theorem wd_95 : Cond.instantiable "MailRouter$Fault" 2 ∈ ej_WS := ej_ws (List.mem_of_getElem? (i := 95) (by decide +kernel)) (by decide +kernel)
theorem wd_97 : Cond.instanceMethod ⟨"MailRouter$Fault", "<init>", "()V"⟩ ∈ ej_WS := ej_ws (List.mem_of_getElem? (i := 97) (by decide +kernel)) (by decide +kernel)
theorem wd_98 : Cond.code ⟨"MailRouter$Fault", "<init>", "()V"⟩ prog_3_method_1_code 1 none ∈ ej_WS := ej_ws (List.mem_of_getElem? (i := 98) (by decide +kernel)) (by decide +kernel)
theorem wd_107 : Cond.arrayClass .int ∈ ej_WS := ej_ws (List.mem_of_getElem? (i := 107) (by decide +kernel)) (by decide +kernel)
theorem wd_108 : Cond.classLink "MailRouter" 36 "MailRouter$Tokens" ∈ ej_WS := ej_ws (List.mem_of_getElem? (i := 108) (by decide +kernel)) (by decide +kernel)
theorem wd_109 : Cond.instantiable "MailRouter$Tokens" 6 ∈ ej_WS := ej_ws (List.mem_of_getElem? (i := 109) (by decide +kernel)) (by decide +kernel)
theorem wd_111 : Cond.instanceMethod ⟨"MailRouter$Tokens", "<init>", "()V"⟩ ∈ ej_WS := ej_ws (List.mem_of_getElem? (i := 111) (by decide +kernel)) (by decide +kernel)
theorem wd_112 : Cond.code ⟨"MailRouter$Tokens", "<init>", "()V"⟩ prog_10_method_1_code 1 none ∈ ej_WS := ej_ws (List.mem_of_getElem? (i := 112) (by decide +kernel)) (by decide +kernel)
theorem wd_114 : Cond.classLink "MailRouter$Tokens" 9 "MailRouter$Text" ∈ ej_WS := ej_ws (List.mem_of_getElem? (i := 114) (by decide +kernel)) (by decide +kernel)
theorem wd_115 : Cond.methodLink "MailRouter$Tokens" 11 ⟨"MailRouter$Text", "<init>", "(I)V"⟩ ∈ ej_WS := ej_ws (List.mem_of_getElem? (i := 115) (by decide +kernel)) (by decide +kernel)
theorem wd_135 : Cond.arrayClass .long ∈ ej_WS := ej_ws (List.mem_of_getElem? (i := 135) (by decide +kernel)) (by decide +kernel)
theorem wd_136 : Cond.classLink "MailRouter" 43 "MailRouter$Sum" ∈ ej_WS := ej_ws (List.mem_of_getElem? (i := 136) (by decide +kernel)) (by decide +kernel)
theorem wd_137 : Cond.instantiable "MailRouter$Sum" 14 ∈ ej_WS := ej_ws (List.mem_of_getElem? (i := 137) (by decide +kernel)) (by decide +kernel)
theorem wd_138 : Cond.methodLink "MailRouter" 45 ⟨"MailRouter$Sum", "<init>", "(LMailRouter$Tokens;)V"⟩ ∈ ej_WS := ej_ws (List.mem_of_getElem? (i := 138) (by decide +kernel)) (by decide +kernel)
theorem wd_139 : Cond.instanceMethod ⟨"MailRouter$Sum", "<init>", "(LMailRouter$Tokens;)V"⟩ ∈ ej_WS := ej_ws (List.mem_of_getElem? (i := 139) (by decide +kernel)) (by decide +kernel)
theorem wd_140 : Cond.code ⟨"MailRouter$Sum", "<init>", "(LMailRouter$Tokens;)V"⟩ prog_8_method_1_code 2 none ∈ ej_WS := ej_ws (List.mem_of_getElem? (i := 140) (by decide +kernel)) (by decide +kernel)
theorem wd_185 : Cond.classLink "MailRouter" 52 "MailRouter$Atlas" ∈ ej_WS := ej_ws (List.mem_of_getElem? (i := 185) (by decide +kernel)) (by decide +kernel)
theorem wd_186 : Cond.instantiable "MailRouter$Atlas" 16 ∈ ej_WS := ej_ws (List.mem_of_getElem? (i := 186) (by decide +kernel)) (by decide +kernel)
theorem wd_188 : Cond.instanceMethod ⟨"MailRouter$Atlas", "<init>", "()V"⟩ ∈ ej_WS := ej_ws (List.mem_of_getElem? (i := 188) (by decide +kernel)) (by decide +kernel)
theorem wd_189 : Cond.code ⟨"MailRouter$Atlas", "<init>", "()V"⟩ prog_2_method_1_code 1 none ∈ ej_WS := ej_ws (List.mem_of_getElem? (i := 189) (by decide +kernel)) (by decide +kernel)
theorem wd_191 : Cond.classLink "MailRouter$Atlas" 34 "[[I" ∈ ej_WS := ej_ws (List.mem_of_getElem? (i := 191) (by decide +kernel)) (by decide +kernel)
theorem wd_242 : Cond.classLink "MailRouter" 59 "MailRouter$Reader" ∈ ej_WS := ej_ws (List.mem_of_getElem? (i := 242) (by decide +kernel)) (by decide +kernel)
theorem wd_243 : Cond.instantiable "MailRouter$Reader" 9 ∈ ej_WS := ej_ws (List.mem_of_getElem? (i := 243) (by decide +kernel)) (by decide +kernel)
theorem wd_244 : Cond.methodLink "MailRouter" 61 ⟨"MailRouter$Reader", "<init>", "(LMailRouter$Tokens;LMailRouter$Sum;LMailRouter$Atlas;LMailRouter$Fault;)V"⟩ ∈ ej_WS := ej_ws (List.mem_of_getElem? (i := 244) (by decide +kernel)) (by decide +kernel)
theorem wd_245 : Cond.instanceMethod ⟨"MailRouter$Reader", "<init>", "(LMailRouter$Tokens;LMailRouter$Sum;LMailRouter$Atlas;LMailRouter$Fault;)V"⟩ ∈ ej_WS := ej_ws (List.mem_of_getElem? (i := 245) (by decide +kernel)) (by decide +kernel)
theorem wd_246 : Cond.code ⟨"MailRouter$Reader", "<init>", "(LMailRouter$Tokens;LMailRouter$Sum;LMailRouter$Atlas;LMailRouter$Fault;)V"⟩ prog_6_method_1_code 5 none ∈ ej_WS := ej_ws (List.mem_of_getElem? (i := 246) (by decide +kernel)) (by decide +kernel)
theorem wd_276 : Cond.classLink "MailRouter" 68 "MailRouter$Steps" ∈ ej_WS := ej_ws (List.mem_of_getElem? (i := 276) (by decide +kernel)) (by decide +kernel)
theorem wd_277 : Cond.instantiable "MailRouter$Steps" 2 ∈ ej_WS := ej_ws (List.mem_of_getElem? (i := 277) (by decide +kernel)) (by decide +kernel)
theorem wd_278 : Cond.methodLink "MailRouter" 70 ⟨"MailRouter$Steps", "<init>", "(LMailRouter$Atlas;)V"⟩ ∈ ej_WS := ej_ws (List.mem_of_getElem? (i := 278) (by decide +kernel)) (by decide +kernel)
theorem wd_279 : Cond.instanceMethod ⟨"MailRouter$Steps", "<init>", "(LMailRouter$Atlas;)V"⟩ ∈ ej_WS := ej_ws (List.mem_of_getElem? (i := 279) (by decide +kernel)) (by decide +kernel)
theorem wd_280 : Cond.code ⟨"MailRouter$Steps", "<init>", "(LMailRouter$Atlas;)V"⟩ prog_7_method_1_code 2 none ∈ ej_WS := ej_ws (List.mem_of_getElem? (i := 280) (by decide +kernel)) (by decide +kernel)
theorem wd_289 : Cond.classLink "MailRouter" 77 "MailRouter$Ways" ∈ ej_WS := ej_ws (List.mem_of_getElem? (i := 289) (by decide +kernel)) (by decide +kernel)
theorem wd_290 : Cond.instantiable "MailRouter$Ways" 12 ∈ ej_WS := ej_ws (List.mem_of_getElem? (i := 290) (by decide +kernel)) (by decide +kernel)
theorem wd_291 : Cond.methodLink "MailRouter" 79 ⟨"MailRouter$Ways", "<init>", "(LMailRouter$Atlas;LMailRouter$Steps;)V"⟩ ∈ ej_WS := ej_ws (List.mem_of_getElem? (i := 291) (by decide +kernel)) (by decide +kernel)
theorem wd_292 : Cond.instanceMethod ⟨"MailRouter$Ways", "<init>", "(LMailRouter$Atlas;LMailRouter$Steps;)V"⟩ ∈ ej_WS := ej_ws (List.mem_of_getElem? (i := 292) (by decide +kernel)) (by decide +kernel)
theorem wd_293 : Cond.code ⟨"MailRouter$Ways", "<init>", "(LMailRouter$Atlas;LMailRouter$Steps;)V"⟩ prog_11_method_1_code 3 none ∈ ej_WS := ej_ws (List.mem_of_getElem? (i := 293) (by decide +kernel)) (by decide +kernel)
theorem wd_332 : Cond.arrayClass .boolean ∈ ej_WS := ej_ws (List.mem_of_getElem? (i := 332) (by decide +kernel)) (by decide +kernel)
theorem wd_333 : Cond.classLink "MailRouter" 86 "MailRouter$Printer" ∈ ej_WS := ej_ws (List.mem_of_getElem? (i := 333) (by decide +kernel)) (by decide +kernel)
theorem wd_334 : Cond.instantiable "MailRouter$Printer" 4 ∈ ej_WS := ej_ws (List.mem_of_getElem? (i := 334) (by decide +kernel)) (by decide +kernel)
theorem wd_335 : Cond.methodLink "MailRouter" 88 ⟨"MailRouter$Printer", "<init>", "(LMailRouter$Atlas;LMailRouter$Steps;LMailRouter$Ways;LMailRouter$Text;)V"⟩ ∈ ej_WS := ej_ws (List.mem_of_getElem? (i := 335) (by decide +kernel)) (by decide +kernel)
theorem wd_336 : Cond.instanceMethod ⟨"MailRouter$Printer", "<init>", "(LMailRouter$Atlas;LMailRouter$Steps;LMailRouter$Ways;LMailRouter$Text;)V"⟩ ∈ ej_WS := ej_ws (List.mem_of_getElem? (i := 336) (by decide +kernel)) (by decide +kernel)
theorem wd_337 : Cond.code ⟨"MailRouter$Printer", "<init>", "(LMailRouter$Atlas;LMailRouter$Steps;LMailRouter$Ways;LMailRouter$Text;)V"⟩ prog_4_method_1_code 5 none ∈ ej_WS := ej_ws (List.mem_of_getElem? (i := 337) (by decide +kernel)) (by decide +kernel)
theorem ejs_601 : (Int16.ofInt (601)).toInt32 = 601 := by decide
theorem ob_i : Cond.instanceMethod Lib.objectInit ∈ ej_WS := ej_ws (List.mem_of_getElem? (i := 74) (by decide +kernel)) (by decide +kernel)
theorem ob_c : Cond.code Lib.objectInit ⟨#[0xb1]⟩ 1 none ∈ ej_WS := ej_ws (List.mem_of_getElem? (i := 75) (by decide +kernel)) (by decide +kernel)
theorem ar_boolean : Cond.arrayClass .boolean ∈ ej_WS := wd_332
theorem ar_byte : Cond.arrayClass .byte ∈ ej_WS := wd_92
theorem ar_int : Cond.arrayClass .int ∈ ej_WS := wd_107
theorem ar_long : Cond.arrayClass .long ∈ ej_WS := wd_135
theorem lc_X10_11 : Cond.methodLink RX10 11 yX7_init ∈ ej_WS := wd_78
theorem lc_X10_11_2 : Cond.instanceMethod yX7_init ∈ ej_WS := wd_79
theorem lc_X10_11_4 : Cond.initialized yX7_init.cls ∈ ej_WS := wd_48
theorem lc_X10_11_5 : Cond.code yX7_init i7_init.1 i7_init.2.1 none ∈ ej_WS := wd_80
theorem lc_X10_11_6 : yX7_init.cls ≠ "java/lang/invoke/MethodHandle" ∧ yX7_init.cls ≠ "java/lang/invoke/VarHandle" ∧ (parseMethodDescriptor yX7_init.desc).map (fun d => d.parameters.length) = some 1 := ⟨by decide, by decide, by decide +kernel⟩
theorem lc_X10_31 : ∃ host : String, (RX10, 31, yX1_init, host) ∈ cw_nestM := ⟨"MailRouter", by decide +kernel⟩
theorem lc_X10_31_2 : Cond.instanceMethod yX1_init ∈ ej_WS := wd_97
theorem lc_X10_31_4 : Cond.initialized yX1_init.cls ∈ ej_WS := wd_50
theorem lc_X10_31_5 : Cond.code yX1_init i1_init.1 i1_init.2.1 none ∈ ej_WS := wd_98
theorem lc_X10_31_6 : yX1_init.cls ≠ "java/lang/invoke/MethodHandle" ∧ yX1_init.cls ≠ "java/lang/invoke/VarHandle" ∧ (parseMethodDescriptor yX1_init.desc).map (fun d => d.parameters.length) = some 0 := ⟨by decide, by decide, by decide +kernel⟩
theorem lc_X10_38 : ∃ host : String, (RX10, 38, yX8_init, host) ∈ cw_nestM := ⟨"MailRouter", by decide +kernel⟩
theorem lc_X10_38_2 : Cond.instanceMethod yX8_init ∈ ej_WS := wd_111
theorem lc_X10_38_4 : Cond.initialized yX8_init.cls ∈ ej_WS := wd_51
theorem lc_X10_38_5 : Cond.code yX8_init i8_init.1 i8_init.2.1 none ∈ ej_WS := wd_112
theorem lc_X10_38_6 : yX8_init.cls ≠ "java/lang/invoke/MethodHandle" ∧ yX8_init.cls ≠ "java/lang/invoke/VarHandle" ∧ (parseMethodDescriptor yX8_init.desc).map (fun d => d.parameters.length) = some 0 := ⟨by decide, by decide, by decide +kernel⟩
theorem lc_X10_45 : Cond.methodLink RX10 45 yX6_init ∈ ej_WS := wd_138
theorem lc_X10_45_2 : Cond.instanceMethod yX6_init ∈ ej_WS := wd_139
theorem lc_X10_45_4 : Cond.initialized yX6_init.cls ∈ ej_WS := wd_52
theorem lc_X10_45_5 : Cond.code yX6_init i6_init.1 i6_init.2.1 none ∈ ej_WS := wd_140
theorem lc_X10_45_6 : yX6_init.cls ≠ "java/lang/invoke/MethodHandle" ∧ yX6_init.cls ≠ "java/lang/invoke/VarHandle" ∧ (parseMethodDescriptor yX6_init.desc).map (fun d => d.parameters.length) = some 1 := ⟨by decide, by decide, by decide +kernel⟩
theorem lc_X10_54 : ∃ host : String, (RX10, 54, yX0_init, host) ∈ cw_nestM := ⟨"MailRouter", by decide +kernel⟩
theorem lc_X10_54_2 : Cond.instanceMethod yX0_init ∈ ej_WS := wd_188
theorem lc_X10_54_4 : Cond.initialized yX0_init.cls ∈ ej_WS := wd_53
theorem lc_X10_54_5 : Cond.code yX0_init i0_init.1 i0_init.2.1 none ∈ ej_WS := wd_189
theorem lc_X10_54_6 : yX0_init.cls ≠ "java/lang/invoke/MethodHandle" ∧ yX0_init.cls ≠ "java/lang/invoke/VarHandle" ∧ (parseMethodDescriptor yX0_init.desc).map (fun d => d.parameters.length) = some 0 := ⟨by decide, by decide, by decide +kernel⟩
theorem lc_X10_61 : Cond.methodLink RX10 61 yX4_init ∈ ej_WS := wd_244
theorem lc_X10_61_2 : Cond.instanceMethod yX4_init ∈ ej_WS := wd_245
theorem lc_X10_61_4 : Cond.initialized yX4_init.cls ∈ ej_WS := wd_54
theorem lc_X10_61_5 : Cond.code yX4_init i4_init.1 i4_init.2.1 none ∈ ej_WS := wd_246
theorem lc_X10_61_6 : yX4_init.cls ≠ "java/lang/invoke/MethodHandle" ∧ yX4_init.cls ≠ "java/lang/invoke/VarHandle" ∧ (parseMethodDescriptor yX4_init.desc).map (fun d => d.parameters.length) = some 4 := ⟨by decide, by decide, by decide +kernel⟩
theorem lc_X10_70 : Cond.methodLink RX10 70 yX5_init ∈ ej_WS := wd_278
theorem lc_X10_70_2 : Cond.instanceMethod yX5_init ∈ ej_WS := wd_279
theorem lc_X10_70_4 : Cond.initialized yX5_init.cls ∈ ej_WS := wd_55
theorem lc_X10_70_5 : Cond.code yX5_init i5_init.1 i5_init.2.1 none ∈ ej_WS := wd_280
theorem lc_X10_70_6 : yX5_init.cls ≠ "java/lang/invoke/MethodHandle" ∧ yX5_init.cls ≠ "java/lang/invoke/VarHandle" ∧ (parseMethodDescriptor yX5_init.desc).map (fun d => d.parameters.length) = some 1 := ⟨by decide, by decide, by decide +kernel⟩
theorem lc_X10_79 : Cond.methodLink RX10 79 yX9_init ∈ ej_WS := wd_291
theorem lc_X10_79_2 : Cond.instanceMethod yX9_init ∈ ej_WS := wd_292
theorem lc_X10_79_4 : Cond.initialized yX9_init.cls ∈ ej_WS := wd_56
theorem lc_X10_79_5 : Cond.code yX9_init i9_init.1 i9_init.2.1 none ∈ ej_WS := wd_293
theorem lc_X10_79_6 : yX9_init.cls ≠ "java/lang/invoke/MethodHandle" ∧ yX9_init.cls ≠ "java/lang/invoke/VarHandle" ∧ (parseMethodDescriptor yX9_init.desc).map (fun d => d.parameters.length) = some 2 := ⟨by decide, by decide, by decide +kernel⟩
theorem lc_X10_88 : Cond.methodLink RX10 88 yX2_init ∈ ej_WS := wd_335
theorem lc_X10_88_2 : Cond.instanceMethod yX2_init ∈ ej_WS := wd_336
theorem lc_X10_88_4 : Cond.initialized yX2_init.cls ∈ ej_WS := wd_57
theorem lc_X10_88_5 : Cond.code yX2_init i2_init.1 i2_init.2.1 none ∈ ej_WS := wd_337
theorem lc_X10_88_6 : yX2_init.cls ≠ "java/lang/invoke/MethodHandle" ∧ yX2_init.cls ≠ "java/lang/invoke/VarHandle" ∧ (parseMethodDescriptor yX2_init.desc).map (fun d => d.parameters.length) = some 4 := ⟨by decide, by decide, by decide +kernel⟩
theorem lc_X8_11 : Cond.methodLink RX8 11 yX7_init ∈ ej_WS := wd_115
theorem lc_X8_11_2 : Cond.instanceMethod yX7_init ∈ ej_WS := wd_79
theorem lc_X8_11_4 : Cond.initialized yX7_init.cls ∈ ej_WS := wd_48
theorem lc_X8_11_5 : Cond.code yX7_init i7_init.1 i7_init.2.1 none ∈ ej_WS := wd_80
theorem lc_X8_11_6 : yX7_init.cls ≠ "java/lang/invoke/MethodHandle" ∧ yX7_init.cls ≠ "java/lang/invoke/VarHandle" ∧ (parseMethodDescriptor yX7_init.desc).map (fun d => d.parameters.length) = some 1 := ⟨by decide, by decide, by decide +kernel⟩
theorem cla_X0_34 : Cond.classLink RX0 34 "[[I" ∈ ej_WS := wd_191
theorem cla_X10_9 : Cond.classLink RX10 9 "MailRouter$Text" ∈ ej_WS := wd_76
theorem dec_X0_10 : ∀ (C : String) (T : u_T) (N : Nat), vwCl[0]? = some (C, T, N) → (T 10).1 = RX0 := by
  intro C T N h
  cases h
  rfl
theorem dec_X0_11 : ∀ (C : String) (T : u_T) (N : Nat), vwCl[0]? = some (C, T, N) → (T 11).1 = RX0 := by
  intro C T N h
  cases h
  rfl
theorem dec_X0_12 : ∀ (C : String) (T : u_T) (N : Nat), vwCl[0]? = some (C, T, N) → (T 12).1 = RX0 := by
  intro C T N h
  cases h
  rfl
theorem dec_X0_13 : ∀ (C : String) (T : u_T) (N : Nat), vwCl[0]? = some (C, T, N) → (T 13).1 = RX0 := by
  intro C T N h
  cases h
  rfl
theorem dec_X0_14 : ∀ (C : String) (T : u_T) (N : Nat), vwCl[0]? = some (C, T, N) → (T 14).1 = RX0 := by
  intro C T N h
  cases h
  rfl
theorem dec_X0_15 : ∀ (C : String) (T : u_T) (N : Nat), vwCl[0]? = some (C, T, N) → (T 15).1 = RX0 := by
  intro C T N h
  cases h
  rfl
theorem dec_X0_2 : ∀ (C : String) (T : u_T) (N : Nat), vwCl[0]? = some (C, T, N) → (T 2).1 = RX0 := by
  intro C T N h
  cases h
  rfl
theorem dec_X0_3 : ∀ (C : String) (T : u_T) (N : Nat), vwCl[0]? = some (C, T, N) → (T 3).1 = RX0 := by
  intro C T N h
  cases h
  rfl
theorem dec_X0_9 : ∀ (C : String) (T : u_T) (N : Nat), vwCl[0]? = some (C, T, N) → (T 9).1 = RX0 := by
  intro C T N h
  cases h
  rfl
theorem dec_X10_0 : ∀ (C : String) (T : u_T) (N : Nat), vwCl[9]? = some (C, T, N) → (T 0).1 = RX10 := by
  intro C T N h
  cases h
  rfl
theorem dec_X10_1 : ∀ (C : String) (T : u_T) (N : Nat), vwCl[9]? = some (C, T, N) → (T 1).1 = RX10 := by
  intro C T N h
  cases h
  rfl
theorem dec_X10_10 : ∀ (C : String) (T : u_T) (N : Nat), vwCl[9]? = some (C, T, N) → (T 10).1 = RX10 := by
  intro C T N h
  cases h
  rfl
theorem dec_X10_11 : ∀ (C : String) (T : u_T) (N : Nat), vwCl[9]? = some (C, T, N) → (T 11).1 = RX10 := by
  intro C T N h
  cases h
  rfl
theorem dec_X10_2 : ∀ (C : String) (T : u_T) (N : Nat), vwCl[9]? = some (C, T, N) → (T 2).1 = RX10 := by
  intro C T N h
  cases h
  rfl
theorem dec_X10_3 : ∀ (C : String) (T : u_T) (N : Nat), vwCl[9]? = some (C, T, N) → (T 3).1 = RX10 := by
  intro C T N h
  cases h
  rfl
theorem dec_X10_4 : ∀ (C : String) (T : u_T) (N : Nat), vwCl[9]? = some (C, T, N) → (T 4).1 = RX10 := by
  intro C T N h
  cases h
  rfl
theorem dec_X10_5 : ∀ (C : String) (T : u_T) (N : Nat), vwCl[9]? = some (C, T, N) → (T 5).1 = RX10 := by
  intro C T N h
  cases h
  rfl
theorem dec_X10_6 : ∀ (C : String) (T : u_T) (N : Nat), vwCl[9]? = some (C, T, N) → (T 6).1 = RX10 := by
  intro C T N h
  cases h
  rfl
theorem dec_X10_7 : ∀ (C : String) (T : u_T) (N : Nat), vwCl[9]? = some (C, T, N) → (T 7).1 = RX10 := by
  intro C T N h
  cases h
  rfl
theorem dec_X10_8 : ∀ (C : String) (T : u_T) (N : Nat), vwCl[9]? = some (C, T, N) → (T 8).1 = RX10 := by
  intro C T N h
  cases h
  rfl
theorem dec_X10_9 : ∀ (C : String) (T : u_T) (N : Nat), vwCl[9]? = some (C, T, N) → (T 9).1 = RX10 := by
  intro C T N h
  cases h
  rfl
theorem dec_X2_0 : ∀ (C : String) (T : u_T) (N : Nat), vwCl[2]? = some (C, T, N) → (T 0).1 = RX2 := by
  intro C T N h
  cases h
  rfl
theorem dec_X2_1 : ∀ (C : String) (T : u_T) (N : Nat), vwCl[2]? = some (C, T, N) → (T 1).1 = RX2 := by
  intro C T N h
  cases h
  rfl
theorem dec_X2_2 : ∀ (C : String) (T : u_T) (N : Nat), vwCl[2]? = some (C, T, N) → (T 2).1 = RX2 := by
  intro C T N h
  cases h
  rfl
theorem dec_X2_3 : ∀ (C : String) (T : u_T) (N : Nat), vwCl[2]? = some (C, T, N) → (T 3).1 = RX2 := by
  intro C T N h
  cases h
  rfl
theorem dec_X4_0 : ∀ (C : String) (T : u_T) (N : Nat), vwCl[3]? = some (C, T, N) → (T 0).1 = RX4 := by
  intro C T N h
  cases h
  rfl
theorem dec_X4_1 : ∀ (C : String) (T : u_T) (N : Nat), vwCl[3]? = some (C, T, N) → (T 1).1 = RX4 := by
  intro C T N h
  cases h
  rfl
theorem dec_X4_2 : ∀ (C : String) (T : u_T) (N : Nat), vwCl[3]? = some (C, T, N) → (T 2).1 = RX4 := by
  intro C T N h
  cases h
  rfl
theorem dec_X4_3 : ∀ (C : String) (T : u_T) (N : Nat), vwCl[3]? = some (C, T, N) → (T 3).1 = RX4 := by
  intro C T N h
  cases h
  rfl
theorem dec_X5_0 : ∀ (C : String) (T : u_T) (N : Nat), vwCl[4]? = some (C, T, N) → (T 0).1 = RX5 := by
  intro C T N h
  cases h
  rfl
theorem dec_X5_1 : ∀ (C : String) (T : u_T) (N : Nat), vwCl[4]? = some (C, T, N) → (T 1).1 = RX5 := by
  intro C T N h
  cases h
  rfl
theorem dec_X6_0 : ∀ (C : String) (T : u_T) (N : Nat), vwCl[5]? = some (C, T, N) → (T 0).1 = RX6 := by
  intro C T N h
  cases h
  rfl
theorem dec_X6_6 : ∀ (C : String) (T : u_T) (N : Nat), vwCl[5]? = some (C, T, N) → (T 6).1 = RX6 := by
  intro C T N h
  cases h
  rfl
theorem dec_X6_7 : ∀ (C : String) (T : u_T) (N : Nat), vwCl[5]? = some (C, T, N) → (T 7).1 = RX6 := by
  intro C T N h
  cases h
  rfl
theorem dec_X6_8 : ∀ (C : String) (T : u_T) (N : Nat), vwCl[5]? = some (C, T, N) → (T 8).1 = RX6 := by
  intro C T N h
  cases h
  rfl
theorem dec_X6_9 : ∀ (C : String) (T : u_T) (N : Nat), vwCl[5]? = some (C, T, N) → (T 9).1 = RX6 := by
  intro C T N h
  cases h
  rfl
theorem dec_X7_0 : ∀ (C : String) (T : u_T) (N : Nat), vwCl[6]? = some (C, T, N) → (T 0).1 = RX7 := by
  intro C T N h
  cases h
  rfl
theorem dec_X8_0 : ∀ (C : String) (T : u_T) (N : Nat), vwCl[7]? = some (C, T, N) → (T 0).1 = RX8 := by
  intro C T N h
  cases h
  rfl
theorem dec_X8_1 : ∀ (C : String) (T : u_T) (N : Nat), vwCl[7]? = some (C, T, N) → (T 1).1 = RX8 := by
  intro C T N h
  cases h
  rfl
theorem dec_X8_2 : ∀ (C : String) (T : u_T) (N : Nat), vwCl[7]? = some (C, T, N) → (T 2).1 = RX8 := by
  intro C T N h
  cases h
  rfl
theorem dec_X8_3 : ∀ (C : String) (T : u_T) (N : Nat), vwCl[7]? = some (C, T, N) → (T 3).1 = RX8 := by
  intro C T N h
  cases h
  rfl
theorem dec_X8_4 : ∀ (C : String) (T : u_T) (N : Nat), vwCl[7]? = some (C, T, N) → (T 4).1 = RX8 := by
  intro C T N h
  cases h
  rfl
theorem dec_X9_0 : ∀ (C : String) (T : u_T) (N : Nat), vwCl[8]? = some (C, T, N) → (T 0).1 = RX9 := by
  intro C T N h
  cases h
  rfl
theorem dec_X9_1 : ∀ (C : String) (T : u_T) (N : Nat), vwCl[8]? = some (C, T, N) → (T 1).1 = RX9 := by
  intro C T N h
  cases h
  rfl
theorem dec_X9_10 : ∀ (C : String) (T : u_T) (N : Nat), vwCl[8]? = some (C, T, N) → (T 10).1 = RX9 := by
  intro C T N h
  cases h
  rfl
theorem dec_X9_11 : ∀ (C : String) (T : u_T) (N : Nat), vwCl[8]? = some (C, T, N) → (T 11).1 = RX9 := by
  intro C T N h
  cases h
  rfl
theorem dec_X9_5 : ∀ (C : String) (T : u_T) (N : Nat), vwCl[8]? = some (C, T, N) → (T 5).1 = RX9 := by
  intro C T N h
  cases h
  rfl
theorem dec_X9_6 : ∀ (C : String) (T : u_T) (N : Nat), vwCl[8]? = some (C, T, N) → (T 6).1 = RX9 := by
  intro C T N h
  cases h
  rfl
theorem dec_X9_7 : ∀ (C : String) (T : u_T) (N : Nat), vwCl[8]? = some (C, T, N) → (T 7).1 = RX9 := by
  intro C T N h
  cases h
  rfl
theorem dec_X9_8 : ∀ (C : String) (T : u_T) (N : Nat), vwCl[8]? = some (C, T, N) → (T 8).1 = RX9 := by
  intro C T N h
  cases h
  rfl
theorem dec_X9_9 : ∀ (C : String) (T : u_T) (N : Nat), vwCl[8]? = some (C, T, N) → (T 9).1 = RX9 := by
  intro C T N h
  cases h
  rfl
theorem cn_X10_29 : cj_CL RX10 29 1 2 [.int 0, .int 0] := ⟨RX1, TX1, tyX1, rfl, ws_X1, wd_94, wd_95, wd_50, tyX1_ok, by
  intro j hj
  match j, hj with
  | 0, _ => rfl
  | 1, _ => rfl
  | j + 2, h => exact absurd h (by omega)⟩
theorem cn_X10_36 : cj_CL RX10 36 7 6 [.null, .null, .null, .null, .null, .int 0] := ⟨RX8, TX8, tyX8, rfl, ws_X8, wd_108, wd_109, wd_51, tyX8_ok, by
  intro j hj
  match j, hj with
  | 0, _ => rfl
  | 1, _ => rfl
  | 2, _ => rfl
  | 3, _ => rfl
  | 4, _ => rfl
  | 5, _ => rfl
  | j + 6, h => exact absurd h (by omega)⟩
theorem cn_X10_43 : cj_CL RX10 43 5 14 [.null, .int 0, .int 0, .int 0, .int 0, .int 0, .null, .null, .null, .null, .int 0, .int 0, .int 0, .int 0] := ⟨RX6, TX6, tyX6, rfl, ws_X6, wd_136, wd_137, wd_52, tyX6_ok, by
  intro j hj
  match j, hj with
  | 0, _ => rfl
  | 1, _ => rfl
  | 2, _ => rfl
  | 3, _ => rfl
  | 4, _ => rfl
  | 5, _ => rfl
  | 6, _ => rfl
  | 7, _ => rfl
  | 8, _ => rfl
  | 9, _ => rfl
  | 10, _ => rfl
  | 11, _ => rfl
  | 12, _ => rfl
  | 13, _ => rfl
  | j + 14, h => exact absurd h (by omega)⟩
theorem cn_X10_52 : cj_CL RX10 52 0 16 [.int 0, .int 0, .null, .null, .int 0, .int 0, .int 0, .int 0, .int 0, .null, .null, .null, .null, .null, .null, .null] := ⟨RX0, TX0, tyX0, rfl, ws_X0, wd_185, wd_186, wd_53, tyX0_ok, by
  intro j hj
  match j, hj with
  | 0, _ => rfl
  | 1, _ => rfl
  | 2, _ => rfl
  | 3, _ => rfl
  | 4, _ => rfl
  | 5, _ => rfl
  | 6, _ => rfl
  | 7, _ => rfl
  | 8, _ => rfl
  | 9, _ => rfl
  | 10, _ => rfl
  | 11, _ => rfl
  | 12, _ => rfl
  | 13, _ => rfl
  | 14, _ => rfl
  | 15, _ => rfl
  | j + 16, h => exact absurd h (by omega)⟩
theorem cn_X10_59 : cj_CL RX10 59 3 9 [.null, .null, .null, .null, .int 0, .int 0, .int 0, .int 0, .int 0] := ⟨RX4, TX4, tyX4, rfl, ws_X4, wd_242, wd_243, wd_54, tyX4_ok, by
  intro j hj
  match j, hj with
  | 0, _ => rfl
  | 1, _ => rfl
  | 2, _ => rfl
  | 3, _ => rfl
  | 4, _ => rfl
  | 5, _ => rfl
  | 6, _ => rfl
  | 7, _ => rfl
  | 8, _ => rfl
  | j + 9, h => exact absurd h (by omega)⟩
theorem cn_X10_68 : cj_CL RX10 68 4 2 [.null, .null] := ⟨RX5, TX5, tyX5, rfl, ws_X5, wd_276, wd_277, wd_55, tyX5_ok, by
  intro j hj
  match j, hj with
  | 0, _ => rfl
  | 1, _ => rfl
  | j + 2, h => exact absurd h (by omega)⟩
theorem cn_X10_77 : cj_CL RX10 77 8 12 [.null, .null, .long 0, .int 0, .int 0, .null, .null, .null, .null, .null, .null, .null] := ⟨RX9, TX9, tyX9, rfl, ws_X9, wd_289, wd_290, wd_56, tyX9_ok, by
  intro j hj
  match j, hj with
  | 0, _ => rfl
  | 1, _ => rfl
  | 2, _ => rfl
  | 3, _ => rfl
  | 4, _ => rfl
  | 5, _ => rfl
  | 6, _ => rfl
  | 7, _ => rfl
  | 8, _ => rfl
  | 9, _ => rfl
  | 10, _ => rfl
  | 11, _ => rfl
  | j + 12, h => exact absurd h (by omega)⟩
theorem cn_X10_86 : cj_CL RX10 86 2 4 [.null, .null, .null, .null] := ⟨RX2, TX2, tyX2, rfl, ws_X2, wd_333, wd_334, wd_57, tyX2_ok, by
  intro j hj
  match j, hj with
  | 0, _ => rfl
  | 1, _ => rfl
  | 2, _ => rfl
  | 3, _ => rfl
  | j + 4, h => exact absurd h (by omega)⟩
theorem cn_X10_9 : cj_CL RX10 9 6 2 [.null, .int 0] := ⟨RX7, TX7, tyX7, rfl, ws_X7, wd_76, wd_77, wd_48, tyX7_ok, by
  intro j hj
  match j, hj with
  | 0, _ => rfl
  | 1, _ => rfl
  | j + 2, h => exact absurd h (by omega)⟩
theorem cn_X8_9 : cj_CL RX8 9 6 2 [.null, .int 0] := ⟨RX7, TX7, tyX7, rfl, ws_X7, wd_114, wd_77, wd_48, tyX7_ok, by
  intro j hj
  match j, hj with
  | 0, _ => rfl
  | 1, _ => rfl
  | j + 2, h => exact absurd h (by omega)⟩
theorem ob_X0_3 : Cond.methodLink RX0 3 Lib.objectInit ∈ ej_WS := ej_ws (List.mem_of_getElem? (i := 190) (by decide +kernel)) (by decide +kernel)
theorem ob_X1_1 : Cond.methodLink RX1 1 Lib.objectInit ∈ ej_WS := ej_ws (List.mem_of_getElem? (i := 99) (by decide +kernel)) (by decide +kernel)
theorem ob_X10_3 : Cond.methodLink RX10 3 Lib.objectInit ∈ ej_WS := ej_ws (List.mem_of_getElem? (i := 73) (by decide +kernel)) (by decide +kernel)
theorem ob_X2_3 : Cond.methodLink RX2 3 Lib.objectInit ∈ ej_WS := ej_ws (List.mem_of_getElem? (i := 338) (by decide +kernel)) (by decide +kernel)
theorem ob_X4_3 : Cond.methodLink RX4 3 Lib.objectInit ∈ ej_WS := ej_ws (List.mem_of_getElem? (i := 247) (by decide +kernel)) (by decide +kernel)
theorem ob_X5_3 : Cond.methodLink RX5 3 Lib.objectInit ∈ ej_WS := ej_ws (List.mem_of_getElem? (i := 281) (by decide +kernel)) (by decide +kernel)
theorem ob_X6_3 : Cond.methodLink RX6 3 Lib.objectInit ∈ ej_WS := ej_ws (List.mem_of_getElem? (i := 141) (by decide +kernel)) (by decide +kernel)
theorem ob_X7_3 : Cond.methodLink RX7 3 Lib.objectInit ∈ ej_WS := ej_ws (List.mem_of_getElem? (i := 81) (by decide +kernel)) (by decide +kernel)
theorem ob_X8_3 : Cond.methodLink RX8 3 Lib.objectInit ∈ ej_WS := ej_ws (List.mem_of_getElem? (i := 113) (by decide +kernel)) (by decide +kernel)
theorem ob_X9_3 : Cond.methodLink RX9 3 Lib.objectInit ∈ ej_WS := ej_ws (List.mem_of_getElem? (i := 294) (by decide +kernel)) (by decide +kernel)
