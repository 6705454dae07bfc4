theorem wd_136 : Cond.classLink "MailRouter" 9 "MailRouter$Text" ∈ ej_WS := ej_ws (List.mem_of_getElem? (i := 136) (by decide +kernel)) (by decide +kernel)
theorem wd_137 : Cond.instantiable "MailRouter$Text" 2 ∈ ej_WS := ej_ws (List.mem_of_getElem? (i := 137) (by decide +kernel)) (by decide +kernel)
theorem wd_138 : Cond.methodLink "MailRouter" 11 ⟨"MailRouter$Text", "<init>", "(I)V"⟩ ∈ ej_WS := ej_ws (List.mem_of_getElem? (i := 138) (by decide +kernel)) (by decide +kernel)
theorem wd_139 : Cond.instanceMethod ⟨"MailRouter$Text", "<init>", "(I)V"⟩ ∈ ej_WS := ej_ws (List.mem_of_getElem? (i := 139) (by decide +kernel)) (by decide +kernel)
theorem wd_140 : Cond.code ⟨"MailRouter$Text", "<init>", "(I)V"⟩ prog_9_method_1_code 2 none ∈ ej_WS := ej_ws (List.mem_of_getElem? (i := 140) (by decide +kernel)) (by decide +kernel)
theorem wd_152 : Cond.arrayClass .byte ∈ ej_WS := ej_ws (List.mem_of_getElem? (i := 152) (by decide +kernel)) (by decide +kernel)
theorem wd_154 : Cond.classLink "MailRouter" 29 "MailRouter$Fault" ∈ ej_WS := ej_ws (List.mem_of_getElem? (i := 154) (by decide +kernel)) (by decide +kernel)
theorem wd_155 : Cond.instantiable "MailRouter$Fault" 2 ∈ ej_WS := ej_ws (List.mem_of_getElem? (i := 155) (by decide +kernel)) (by decide +kernel)
theorem wd_157 : Cond.instanceMethod ⟨"MailRouter$Fault", "<init>", "()V"⟩ ∈ ej_WS := ej_ws (List.mem_of_getElem? (i := 157) (by decide +kernel)) (by decide +kernel)
theorem wd_158 : Cond.code ⟨"MailRouter$Fault", "<init>", "()V"⟩ prog_3_method_1_code 1 none ∈ ej_WS := ej_ws (List.mem_of_getElem? (i := 158) (by decide +kernel)) (by decide +kernel)
theorem wd_167 : Cond.arrayClass .int ∈ ej_WS := ej_ws (List.mem_of_getElem? (i := 167) (by decide +kernel)) (by decide +kernel)
theorem wd_168 : Cond.classLink "MailRouter" 36 "MailRouter$Tokens" ∈ ej_WS := ej_ws (List.mem_of_getElem? (i := 168) (by decide +kernel)) (by decide +kernel)
theorem wd_169 : Cond.instantiable "MailRouter$Tokens" 6 ∈ ej_WS := ej_ws (List.mem_of_getElem? (i := 169) (by decide +kernel)) (by decide +kernel)
theorem wd_171 : Cond.instanceMethod ⟨"MailRouter$Tokens", "<init>", "()V"⟩ ∈ ej_WS := ej_ws (List.mem_of_getElem? (i := 171) (by decide +kernel)) (by decide +kernel)
theorem wd_172 : Cond.code ⟨"MailRouter$Tokens", "<init>", "()V"⟩ prog_10_method_1_code 1 none ∈ ej_WS := ej_ws (List.mem_of_getElem? (i := 172) (by decide +kernel)) (by decide +kernel)
theorem wd_174 : Cond.classLink "MailRouter$Tokens" 9 "MailRouter$Text" ∈ ej_WS := ej_ws (List.mem_of_getElem? (i := 174) (by decide +kernel)) (by decide +kernel)
theorem wd_175 : Cond.methodLink "MailRouter$Tokens" 11 ⟨"MailRouter$Text", "<init>", "(I)V"⟩ ∈ ej_WS := ej_ws (List.mem_of_getElem? (i := 175) (by decide +kernel)) (by decide +kernel)
theorem wd_195 : Cond.arrayClass .long ∈ ej_WS := ej_ws (List.mem_of_getElem? (i := 195) (by decide +kernel)) (by decide +kernel)
theorem wd_196 : Cond.classLink "MailRouter" 43 "MailRouter$Sum" ∈ ej_WS := ej_ws (List.mem_of_getElem? (i := 196) (by decide +kernel)) (by decide +kernel)
theorem wd_197 : Cond.instantiable "MailRouter$Sum" 14 ∈ ej_WS := ej_ws (List.mem_of_getElem? (i := 197) (by decide +kernel)) (by decide +kernel)
theorem wd_198 : Cond.methodLink "MailRouter" 45 ⟨"MailRouter$Sum", "<init>", "(LMailRouter$Tokens;)V"⟩ ∈ ej_WS := ej_ws (List.mem_of_getElem? (i := 198) (by decide +kernel)) (by decide +kernel)
theorem wd_199 : Cond.instanceMethod ⟨"MailRouter$Sum", "<init>", "(LMailRouter$Tokens;)V"⟩ ∈ ej_WS := ej_ws (List.mem_of_getElem? (i := 199) (by decide +kernel)) (by decide +kernel)
theorem wd_200 : Cond.code ⟨"MailRouter$Sum", "<init>", "(LMailRouter$Tokens;)V"⟩ prog_8_method_1_code 2 none ∈ ej_WS := ej_ws (List.mem_of_getElem? (i := 200) (by decide +kernel)) (by decide +kernel)
theorem wd_245 : Cond.classLink "MailRouter" 52 "MailRouter$Atlas" ∈ ej_WS := ej_ws (List.mem_of_getElem? (i := 245) (by decide +kernel)) (by decide +kernel)
theorem wd_246 : Cond.instantiable "MailRouter$Atlas" 16 ∈ ej_WS := ej_ws (List.mem_of_getElem? (i := 246) (by decide +kernel)) (by decide +kernel)
theorem wd_248 : Cond.instanceMethod ⟨"MailRouter$Atlas", "<init>", "()V"⟩ ∈ ej_WS := ej_ws (List.mem_of_getElem? (i := 248) (by decide +kernel)) (by decide +kernel)
theorem wd_249 : Cond.code ⟨"MailRouter$Atlas", "<init>", "()V"⟩ prog_2_method_1_code 1 none ∈ ej_WS := ej_ws (List.mem_of_getElem? (i := 249) (by decide +kernel)) (by decide +kernel)
theorem wd_251 : Cond.classLink "MailRouter$Atlas" 34 "[[I" ∈ ej_WS := ej_ws (List.mem_of_getElem? (i := 251) (by decide +kernel)) (by decide +kernel)
theorem wd_302 : Cond.classLink "MailRouter" 59 "MailRouter$Reader" ∈ ej_WS := ej_ws (List.mem_of_getElem? (i := 302) (by decide +kernel)) (by decide +kernel)
theorem wd_303 : Cond.instantiable "MailRouter$Reader" 9 ∈ ej_WS := ej_ws (List.mem_of_getElem? (i := 303) (by decide +kernel)) (by decide +kernel)
theorem wd_304 : Cond.methodLink "MailRouter" 61 ⟨"MailRouter$Reader", "<init>", "(LMailRouter$Tokens;LMailRouter$Sum;LMailRouter$Atlas;LMailRouter$Fault;)V"⟩ ∈ ej_WS := ej_ws (List.mem_of_getElem? (i := 304) (by decide +kernel)) (by decide +kernel)
theorem wd_305 : Cond.instanceMethod ⟨"MailRouter$Reader", "<init>", "(LMailRouter$Tokens;LMailRouter$Sum;LMailRouter$Atlas;LMailRouter$Fault;)V"⟩ ∈ ej_WS := ej_ws (List.mem_of_getElem? (i := 305) (by decide +kernel)) (by decide +kernel)
theorem wd_306 : Cond.code ⟨"MailRouter$Reader", "<init>", "(LMailRouter$Tokens;LMailRouter$Sum;LMailRouter$Atlas;LMailRouter$Fault;)V"⟩ prog_6_method_1_code 5 none ∈ ej_WS := ej_ws (List.mem_of_getElem? (i := 306) (by decide +kernel)) (by decide +kernel)
theorem wd_336 : Cond.classLink "MailRouter" 68 "MailRouter$Steps" ∈ ej_WS := ej_ws (List.mem_of_getElem? (i := 336) (by decide +kernel)) (by decide +kernel)
theorem wd_337 : Cond.instantiable "MailRouter$Steps" 2 ∈ ej_WS := ej_ws (List.mem_of_getElem? (i := 337) (by decide +kernel)) (by decide +kernel)
theorem wd_338 : Cond.methodLink "MailRouter" 70 ⟨"MailRouter$Steps", "<init>", "(LMailRouter$Atlas;)V"⟩ ∈ ej_WS := ej_ws (List.mem_of_getElem? (i := 338) (by decide +kernel)) (by decide +kernel)
theorem wd_339 : Cond.instanceMethod ⟨"MailRouter$Steps", "<init>", "(LMailRouter$Atlas;)V"⟩ ∈ ej_WS := ej_ws (List.mem_of_getElem? (i := 339) (by decide +kernel)) (by decide +kernel)
theorem wd_340 : Cond.code ⟨"MailRouter$Steps", "<init>", "(LMailRouter$Atlas;)V"⟩ prog_7_method_1_code 2 none ∈ ej_WS := ej_ws (List.mem_of_getElem? (i := 340) (by decide +kernel)) (by decide +kernel)
theorem wd_349 : Cond.classLink "MailRouter" 77 "MailRouter$Ways" ∈ ej_WS := ej_ws (List.mem_of_getElem? (i := 349) (by decide +kernel)) (by decide +kernel)
theorem wd_350 : Cond.instantiable "MailRouter$Ways" 12 ∈ ej_WS := ej_ws (List.mem_of_getElem? (i := 350) (by decide +kernel)) (by decide +kernel)
theorem wd_351 : Cond.methodLink "MailRouter" 79 ⟨"MailRouter$Ways", "<init>", "(LMailRouter$Atlas;LMailRouter$Steps;)V"⟩ ∈ ej_WS := ej_ws (List.mem_of_getElem? (i := 351) (by decide +kernel)) (by decide +kernel)
theorem wd_352 : Cond.instanceMethod ⟨"MailRouter$Ways", "<init>", "(LMailRouter$Atlas;LMailRouter$Steps;)V"⟩ ∈ ej_WS := ej_ws (List.mem_of_getElem? (i := 352) (by decide +kernel)) (by decide +kernel)
theorem wd_353 : Cond.code ⟨"MailRouter$Ways", "<init>", "(LMailRouter$Atlas;LMailRouter$Steps;)V"⟩ prog_11_method_1_code 3 none ∈ ej_WS := ej_ws (List.mem_of_getElem? (i := 353) (by decide +kernel)) (by decide +kernel)
theorem wd_392 : Cond.arrayClass .boolean ∈ ej_WS := ej_ws (List.mem_of_getElem? (i := 392) (by decide +kernel)) (by decide +kernel)
theorem wd_393 : Cond.classLink "MailRouter" 86 "MailRouter$Printer" ∈ ej_WS := ej_ws (List.mem_of_getElem? (i := 393) (by decide +kernel)) (by decide +kernel)
theorem wd_394 : Cond.instantiable "MailRouter$Printer" 4 ∈ ej_WS := ej_ws (List.mem_of_getElem? (i := 394) (by decide +kernel)) (by decide +kernel)
theorem wd_395 : Cond.methodLink "MailRouter" 88 ⟨"MailRouter$Printer", "<init>", "(LMailRouter$Atlas;LMailRouter$Steps;LMailRouter$Ways;LMailRouter$Text;)V"⟩ ∈ ej_WS := ej_ws (List.mem_of_getElem? (i := 395) (by decide +kernel)) (by decide +kernel)
theorem wd_396 : Cond.instanceMethod ⟨"MailRouter$Printer", "<init>", "(LMailRouter$Atlas;LMailRouter$Steps;LMailRouter$Ways;LMailRouter$Text;)V"⟩ ∈ ej_WS := ej_ws (List.mem_of_getElem? (i := 396) (by decide +kernel)) (by decide +kernel)
theorem wd_397 : Cond.code ⟨"MailRouter$Printer", "<init>", "(LMailRouter$Atlas;LMailRouter$Steps;LMailRouter$Ways;LMailRouter$Text;)V"⟩ prog_4_method_1_code 5 none ∈ ej_WS := ej_ws (List.mem_of_getElem? (i := 397) (by decide +kernel)) (by decide +kernel)
theorem ejs_601 : (Int16.ofInt (601)).toInt32 = 601 := by decide
theorem ob_i : Cond.instanceMethod Lib.objectInit ∈ ej_WS := ej_ws (List.mem_of_getElem? (i := 134) (by decide +kernel)) (by decide +kernel)
theorem ob_c : Cond.code Lib.objectInit ⟨#[0xb1]⟩ 1 none ∈ ej_WS := ej_ws (List.mem_of_getElem? (i := 135) (by decide +kernel)) (by decide +kernel)
theorem ar_boolean : Cond.arrayClass .boolean ∈ ej_WS := wd_392
theorem ar_byte : Cond.arrayClass .byte ∈ ej_WS := wd_152
theorem ar_int : Cond.arrayClass .int ∈ ej_WS := wd_167
theorem ar_long : Cond.arrayClass .long ∈ ej_WS := wd_195
theorem lc_X10_11 : Cond.methodLink RX10 11 yX7_init ∈ ej_WS := wd_138
theorem lc_X10_11_2 : Cond.instanceMethod yX7_init ∈ ej_WS := wd_139
theorem lc_X10_11_4 : Cond.initialized yX7_init.cls ∈ ej_WS := wd_107
theorem lc_X10_11_5 : Cond.code yX7_init i7_init.1 i7_init.2.1 none ∈ ej_WS := wd_140
theorem lc_X10_11_6 : yX7_init.cls ≠ "java/lang/invoke/MethodHandle" ∧ yX7_init.cls ≠ "java/lang/invoke/VarHandle" ∧ (parseMethodDescriptor yX7_init.desc).map (fun d => d.parameters.length) = some 1 := ⟨by decide, by decide, by decide +kernel⟩
theorem lc_X10_31 : ∃ host : String, (RX10, 31, yX1_init, host) ∈ cw_nestM := ⟨"MailRouter", by decide +kernel⟩
theorem lc_X10_31_2 : Cond.instanceMethod yX1_init ∈ ej_WS := wd_157
theorem lc_X10_31_4 : Cond.initialized yX1_init.cls ∈ ej_WS := wd_109
theorem lc_X10_31_5 : Cond.code yX1_init i1_init.1 i1_init.2.1 none ∈ ej_WS := wd_158
theorem lc_X10_31_6 : yX1_init.cls ≠ "java/lang/invoke/MethodHandle" ∧ yX1_init.cls ≠ "java/lang/invoke/VarHandle" ∧ (parseMethodDescriptor yX1_init.desc).map (fun d => d.parameters.length) = some 0 := ⟨by decide, by decide, by decide +kernel⟩
theorem lc_X10_38 : ∃ host : String, (RX10, 38, yX8_init, host) ∈ cw_nestM := ⟨"MailRouter", by decide +kernel⟩
theorem lc_X10_38_2 : Cond.instanceMethod yX8_init ∈ ej_WS := wd_171
theorem lc_X10_38_4 : Cond.initialized yX8_init.cls ∈ ej_WS := wd_110
theorem lc_X10_38_5 : Cond.code yX8_init i8_init.1 i8_init.2.1 none ∈ ej_WS := wd_172
theorem lc_X10_38_6 : yX8_init.cls ≠ "java/lang/invoke/MethodHandle" ∧ yX8_init.cls ≠ "java/lang/invoke/VarHandle" ∧ (parseMethodDescriptor yX8_init.desc).map (fun d => d.parameters.length) = some 0 := ⟨by decide, by decide, by decide +kernel⟩
theorem lc_X10_45 : Cond.methodLink RX10 45 yX6_init ∈ ej_WS := wd_198
theorem lc_X10_45_2 : Cond.instanceMethod yX6_init ∈ ej_WS := wd_199
theorem lc_X10_45_4 : Cond.initialized yX6_init.cls ∈ ej_WS := wd_111
theorem lc_X10_45_5 : Cond.code yX6_init i6_init.1 i6_init.2.1 none ∈ ej_WS := wd_200
theorem lc_X10_45_6 : yX6_init.cls ≠ "java/lang/invoke/MethodHandle" ∧ yX6_init.cls ≠ "java/lang/invoke/VarHandle" ∧ (parseMethodDescriptor yX6_init.desc).map (fun d => d.parameters.length) = some 1 := ⟨by decide, by decide, by decide +kernel⟩
theorem lc_X10_54 : ∃ host : String, (RX10, 54, yX0_init, host) ∈ cw_nestM := ⟨"MailRouter", by decide +kernel⟩
theorem lc_X10_54_2 : Cond.instanceMethod yX0_init ∈ ej_WS := wd_248
theorem lc_X10_54_4 : Cond.initialized yX0_init.cls ∈ ej_WS := wd_112
theorem lc_X10_54_5 : Cond.code yX0_init i0_init.1 i0_init.2.1 none ∈ ej_WS := wd_249
theorem lc_X10_54_6 : yX0_init.cls ≠ "java/lang/invoke/MethodHandle" ∧ yX0_init.cls ≠ "java/lang/invoke/VarHandle" ∧ (parseMethodDescriptor yX0_init.desc).map (fun d => d.parameters.length) = some 0 := ⟨by decide, by decide, by decide +kernel⟩
theorem lc_X10_61 : Cond.methodLink RX10 61 yX4_init ∈ ej_WS := wd_304
theorem lc_X10_61_2 : Cond.instanceMethod yX4_init ∈ ej_WS := wd_305
theorem lc_X10_61_4 : Cond.initialized yX4_init.cls ∈ ej_WS := wd_113
theorem lc_X10_61_5 : Cond.code yX4_init i4_init.1 i4_init.2.1 none ∈ ej_WS := wd_306
theorem lc_X10_61_6 : yX4_init.cls ≠ "java/lang/invoke/MethodHandle" ∧ yX4_init.cls ≠ "java/lang/invoke/VarHandle" ∧ (parseMethodDescriptor yX4_init.desc).map (fun d => d.parameters.length) = some 4 := ⟨by decide, by decide, by decide +kernel⟩
theorem lc_X10_70 : Cond.methodLink RX10 70 yX5_init ∈ ej_WS := wd_338
theorem lc_X10_70_2 : Cond.instanceMethod yX5_init ∈ ej_WS := wd_339
theorem lc_X10_70_4 : Cond.initialized yX5_init.cls ∈ ej_WS := wd_114
theorem lc_X10_70_5 : Cond.code yX5_init i5_init.1 i5_init.2.1 none ∈ ej_WS := wd_340
theorem lc_X10_70_6 : yX5_init.cls ≠ "java/lang/invoke/MethodHandle" ∧ yX5_init.cls ≠ "java/lang/invoke/VarHandle" ∧ (parseMethodDescriptor yX5_init.desc).map (fun d => d.parameters.length) = some 1 := ⟨by decide, by decide, by decide +kernel⟩
theorem lc_X10_79 : Cond.methodLink RX10 79 yX9_init ∈ ej_WS := wd_351
theorem lc_X10_79_2 : Cond.instanceMethod yX9_init ∈ ej_WS := wd_352
theorem lc_X10_79_4 : Cond.initialized yX9_init.cls ∈ ej_WS := wd_115
theorem lc_X10_79_5 : Cond.code yX9_init i9_init.1 i9_init.2.1 none ∈ ej_WS := wd_353
theorem lc_X10_79_6 : yX9_init.cls ≠ "java/lang/invoke/MethodHandle" ∧ yX9_init.cls ≠ "java/lang/invoke/VarHandle" ∧ (parseMethodDescriptor yX9_init.desc).map (fun d => d.parameters.length) = some 2 := ⟨by decide, by decide, by decide +kernel⟩
theorem lc_X10_88 : Cond.methodLink RX10 88 yX2_init ∈ ej_WS := wd_395
theorem lc_X10_88_2 : Cond.instanceMethod yX2_init ∈ ej_WS := wd_396
theorem lc_X10_88_4 : Cond.initialized yX2_init.cls ∈ ej_WS := wd_116
theorem lc_X10_88_5 : Cond.code yX2_init i2_init.1 i2_init.2.1 none ∈ ej_WS := wd_397
theorem lc_X10_88_6 : yX2_init.cls ≠ "java/lang/invoke/MethodHandle" ∧ yX2_init.cls ≠ "java/lang/invoke/VarHandle" ∧ (parseMethodDescriptor yX2_init.desc).map (fun d => d.parameters.length) = some 4 := ⟨by decide, by decide, by decide +kernel⟩
theorem lc_X8_11 : Cond.methodLink RX8 11 yX7_init ∈ ej_WS := wd_175
theorem lc_X8_11_2 : Cond.instanceMethod yX7_init ∈ ej_WS := wd_139
theorem lc_X8_11_4 : Cond.initialized yX7_init.cls ∈ ej_WS := wd_107
theorem lc_X8_11_5 : Cond.code yX7_init i7_init.1 i7_init.2.1 none ∈ ej_WS := wd_140
theorem lc_X8_11_6 : yX7_init.cls ≠ "java/lang/invoke/MethodHandle" ∧ yX7_init.cls ≠ "java/lang/invoke/VarHandle" ∧ (parseMethodDescriptor yX7_init.desc).map (fun d => d.parameters.length) = some 1 := ⟨by decide, by decide, by decide +kernel⟩
theorem cla_X0_34 : Cond.classLink RX0 34 "[[I" ∈ ej_WS := wd_251
theorem cla_X10_9 : Cond.classLink RX10 9 "MailRouter$Text" ∈ ej_WS := wd_136
theorem dec_X0_10 : ∀ (C : String) (T : u_T) (N : Nat), vwCl[0]? = some (C, T, N) → (T 10).1 = RX0 := by
  intro C T N h
  cases h
  rfl
theorem dec_X0_11 : ∀ (C : String) (T : u_T) (N : Nat), vwCl[0]? = some (C, T, N) → (T 11).1 = RX0 := by
  intro C T N h
  cases h
  rfl
theorem dec_X0_12 : ∀ (C : String) (T : u_T) (N : Nat), vwCl[0]? = some (C, T, N) → (T 12).1 = RX0 := by
  intro C T N h
  cases h
  rfl
theorem dec_X0_13 : ∀ (C : String) (T : u_T) (N : Nat), vwCl[0]? = some (C, T, N) → (T 13).1 = RX0 := by
  intro C T N h
  cases h
  rfl
theorem dec_X0_14 : ∀ (C : String) (T : u_T) (N : Nat), vwCl[0]? = some (C, T, N) → (T 14).1 = RX0 := by
  intro C T N h
  cases h
  rfl
theorem dec_X0_15 : ∀ (C : String) (T : u_T) (N : Nat), vwCl[0]? = some (C, T, N) → (T 15).1 = RX0 := by
  intro C T N h
  cases h
  rfl
theorem dec_X0_2 : ∀ (C : String) (T : u_T) (N : Nat), vwCl[0]? = some (C, T, N) → (T 2).1 = RX0 := by
  intro C T N h
  cases h
  rfl
theorem dec_X0_3 : ∀ (C : String) (T : u_T) (N : Nat), vwCl[0]? = some (C, T, N) → (T 3).1 = RX0 := by
  intro C T N h
  cases h
  rfl
theorem dec_X0_9 : ∀ (C : String) (T : u_T) (N : Nat), vwCl[0]? = some (C, T, N) → (T 9).1 = RX0 := by
  intro C T N h
  cases h
  rfl
theorem dec_X10_0 : ∀ (C : String) (T : u_T) (N : Nat), vwCl[9]? = some (C, T, N) → (T 0).1 = RX10 := by
  intro C T N h
  cases h
  rfl
theorem dec_X10_1 : ∀ (C : String) (T : u_T) (N : Nat), vwCl[9]? = some (C, T, N) → (T 1).1 = RX10 := by
  intro C T N h
  cases h
  rfl
theorem dec_X10_10 : ∀ (C : String) (T : u_T) (N : Nat), vwCl[9]? = some (C, T, N) → (T 10).1 = RX10 := by
  intro C T N h
  cases h
  rfl
theorem dec_X10_11 : ∀ (C : String) (T : u_T) (N : Nat), vwCl[9]? = some (C, T, N) → (T 11).1 = RX10 := by
  intro C T N h
  cases h
  rfl
theorem dec_X10_2 : ∀ (C : String) (T : u_T) (N : Nat), vwCl[9]? = some (C, T, N) → (T 2).1 = RX10 := by
  intro C T N h
  cases h
  rfl
theorem dec_X10_3 : ∀ (C : String) (T : u_T) (N : Nat), vwCl[9]? = some (C, T, N) → (T 3).1 = RX10 := by
  intro C T N h
  cases h
  rfl
theorem dec_X10_4 : ∀ (C : String) (T : u_T) (N : Nat), vwCl[9]? = some (C, T, N) → (T 4).1 = RX10 := by
  intro C T N h
  cases h
  rfl
theorem dec_X10_5 : ∀ (C : String) (T : u_T) (N : Nat), vwCl[9]? = some (C, T, N) → (T 5).1 = RX10 := by
  intro C T N h
  cases h
  rfl
theorem dec_X10_6 : ∀ (C : String) (T : u_T) (N : Nat), vwCl[9]? = some (C, T, N) → (T 6).1 = RX10 := by
  intro C T N h
  cases h
  rfl
theorem dec_X10_7 : ∀ (C : String) (T : u_T) (N : Nat), vwCl[9]? = some (C, T, N) → (T 7).1 = RX10 := by
  intro C T N h
  cases h
  rfl
theorem dec_X10_8 : ∀ (C : String) (T : u_T) (N : Nat), vwCl[9]? = some (C, T, N) → (T 8).1 = RX10 := by
  intro C T N h
  cases h
  rfl
theorem dec_X10_9 : ∀ (C : String) (T : u_T) (N : Nat), vwCl[9]? = some (C, T, N) → (T 9).1 = RX10 := by
  intro C T N h
  cases h
  rfl
theorem dec_X2_0 : ∀ (C : String) (T : u_T) (N : Nat), vwCl[2]? = some (C, T, N) → (T 0).1 = RX2 := by
  intro C T N h
  cases h
  rfl
theorem dec_X2_1 : ∀ (C : String) (T : u_T) (N : Nat), vwCl[2]? = some (C, T, N) → (T 1).1 = RX2 := by
  intro C T N h
  cases h
  rfl
theorem dec_X2_2 : ∀ (C : String) (T : u_T) (N : Nat), vwCl[2]? = some (C, T, N) → (T 2).1 = RX2 := by
  intro C T N h
  cases h
  rfl
theorem dec_X2_3 : ∀ (C : String) (T : u_T) (N : Nat), vwCl[2]? = some (C, T, N) → (T 3).1 = RX2 := by
  intro C T N h
  cases h
  rfl
theorem dec_X4_0 : ∀ (C : String) (T : u_T) (N : Nat), vwCl[3]? = some (C, T, N) → (T 0).1 = RX4 := by
  intro C T N h
  cases h
  rfl
theorem dec_X4_1 : ∀ (C : String) (T : u_T) (N : Nat), vwCl[3]? = some (C, T, N) → (T 1).1 = RX4 := by
  intro C T N h
  cases h
  rfl
theorem dec_X4_2 : ∀ (C : String) (T : u_T) (N : Nat), vwCl[3]? = some (C, T, N) → (T 2).1 = RX4 := by
  intro C T N h
  cases h
  rfl
theorem dec_X4_3 : ∀ (C : String) (T : u_T) (N : Nat), vwCl[3]? = some (C, T, N) → (T 3).1 = RX4 := by
  intro C T N h
  cases h
  rfl
theorem dec_X5_0 : ∀ (C : String) (T : u_T) (N : Nat), vwCl[4]? = some (C, T, N) → (T 0).1 = RX5 := by
  intro C T N h
  cases h
  rfl
theorem dec_X5_1 : ∀ (C : String) (T : u_T) (N : Nat), vwCl[4]? = some (C, T, N) → (T 1).1 = RX5 := by
  intro C T N h
  cases h
  rfl
theorem dec_X6_0 : ∀ (C : String) (T : u_T) (N : Nat), vwCl[5]? = some (C, T, N) → (T 0).1 = RX6 := by
  intro C T N h
  cases h
  rfl
theorem dec_X6_6 : ∀ (C : String) (T : u_T) (N : Nat), vwCl[5]? = some (C, T, N) → (T 6).1 = RX6 := by
  intro C T N h
  cases h
  rfl
theorem dec_X6_7 : ∀ (C : String) (T : u_T) (N : Nat), vwCl[5]? = some (C, T, N) → (T 7).1 = RX6 := by
  intro C T N h
  cases h
  rfl
theorem dec_X6_8 : ∀ (C : String) (T : u_T) (N : Nat), vwCl[5]? = some (C, T, N) → (T 8).1 = RX6 := by
  intro C T N h
  cases h
  rfl
theorem dec_X6_9 : ∀ (C : String) (T : u_T) (N : Nat), vwCl[5]? = some (C, T, N) → (T 9).1 = RX6 := by
  intro C T N h
  cases h
  rfl
theorem dec_X7_0 : ∀ (C : String) (T : u_T) (N : Nat), vwCl[6]? = some (C, T, N) → (T 0).1 = RX7 := by
  intro C T N h
  cases h
  rfl
theorem dec_X8_0 : ∀ (C : String) (T : u_T) (N : Nat), vwCl[7]? = some (C, T, N) → (T 0).1 = RX8 := by
  intro C T N h
  cases h
  rfl
theorem dec_X8_1 : ∀ (C : String) (T : u_T) (N : Nat), vwCl[7]? = some (C, T, N) → (T 1).1 = RX8 := by
  intro C T N h
  cases h
  rfl
theorem dec_X8_2 : ∀ (C : String) (T : u_T) (N : Nat), vwCl[7]? = some (C, T, N) → (T 2).1 = RX8 := by
  intro C T N h
  cases h
  rfl
theorem dec_X8_3 : ∀ (C : String) (T : u_T) (N : Nat), vwCl[7]? = some (C, T, N) → (T 3).1 = RX8 := by
  intro C T N h
  cases h
  rfl
theorem dec_X8_4 : ∀ (C : String) (T : u_T) (N : Nat), vwCl[7]? = some (C, T, N) → (T 4).1 = RX8 := by
  intro C T N h
  cases h
  rfl
theorem dec_X9_0 : ∀ (C : String) (T : u_T) (N : Nat), vwCl[8]? = some (C, T, N) → (T 0).1 = RX9 := by
  intro C T N h
  cases h
  rfl
theorem dec_X9_1 : ∀ (C : String) (T : u_T) (N : Nat), vwCl[8]? = some (C, T, N) → (T 1).1 = RX9 := by
  intro C T N h
  cases h
  rfl
theorem dec_X9_10 : ∀ (C : String) (T : u_T) (N : Nat), vwCl[8]? = some (C, T, N) → (T 10).1 = RX9 := by
  intro C T N h
  cases h
  rfl
theorem dec_X9_11 : ∀ (C : String) (T : u_T) (N : Nat), vwCl[8]? = some (C, T, N) → (T 11).1 = RX9 := by
  intro C T N h
  cases h
  rfl
theorem dec_X9_5 : ∀ (C : String) (T : u_T) (N : Nat), vwCl[8]? = some (C, T, N) → (T 5).1 = RX9 := by
  intro C T N h
  cases h
  rfl
theorem dec_X9_6 : ∀ (C : String) (T : u_T) (N : Nat), vwCl[8]? = some (C, T, N) → (T 6).1 = RX9 := by
  intro C T N h
  cases h
  rfl
theorem dec_X9_7 : ∀ (C : String) (T : u_T) (N : Nat), vwCl[8]? = some (C, T, N) → (T 7).1 = RX9 := by
  intro C T N h
  cases h
  rfl
theorem dec_X9_8 : ∀ (C : String) (T : u_T) (N : Nat), vwCl[8]? = some (C, T, N) → (T 8).1 = RX9 := by
  intro C T N h
  cases h
  rfl
theorem dec_X9_9 : ∀ (C : String) (T : u_T) (N : Nat), vwCl[8]? = some (C, T, N) → (T 9).1 = RX9 := by
  intro C T N h
  cases h
  rfl
theorem cn_X10_29 : cj_CL RX10 29 1 2 [.int 0, .int 0] := ⟨RX1, TX1, tyX1, rfl, ws_X1, wd_154, wd_155, wd_109, tyX1_ok, by
  intro j hj
  match j, hj with
  | 0, _ => rfl
  | 1, _ => rfl
  | j + 2, h => exact absurd h (by omega)⟩
theorem cn_X10_36 : cj_CL RX10 36 7 6 [.null, .null, .null, .null, .null, .int 0] := ⟨RX8, TX8, tyX8, rfl, ws_X8, wd_168, wd_169, wd_110, tyX8_ok, by
  intro j hj
  match j, hj with
  | 0, _ => rfl
  | 1, _ => rfl
  | 2, _ => rfl
  | 3, _ => rfl
  | 4, _ => rfl
  | 5, _ => rfl
  | j + 6, h => exact absurd h (by omega)⟩
theorem cn_X10_43 : cj_CL RX10 43 5 14 [.null, .int 0, .int 0, .int 0, .int 0, .int 0, .null, .null, .null, .null, .int 0, .int 0, .int 0, .int 0] := ⟨RX6, TX6, tyX6, rfl, ws_X6, wd_196, wd_197, wd_111, tyX6_ok, by
  intro j hj
  match j, hj with
  | 0, _ => rfl
  | 1, _ => rfl
  | 2, _ => rfl
  | 3, _ => rfl
  | 4, _ => rfl
  | 5, _ => rfl
  | 6, _ => rfl
  | 7, _ => rfl
  | 8, _ => rfl
  | 9, _ => rfl
  | 10, _ => rfl
  | 11, _ => rfl
  | 12, _ => rfl
  | 13, _ => rfl
  | j + 14, h => exact absurd h (by omega)⟩
theorem cn_X10_52 : cj_CL RX10 52 0 16 [.int 0, .int 0, .null, .null, .int 0, .int 0, .int 0, .int 0, .int 0, .null, .null, .null, .null, .null, .null, .null] := ⟨RX0, TX0, tyX0, rfl, ws_X0, wd_245, wd_246, wd_112, tyX0_ok, by
  intro j hj
  match j, hj with
  | 0, _ => rfl
  | 1, _ => rfl
  | 2, _ => rfl
  | 3, _ => rfl
  | 4, _ => rfl
  | 5, _ => rfl
  | 6, _ => rfl
  | 7, _ => rfl
  | 8, _ => rfl
  | 9, _ => rfl
  | 10, _ => rfl
  | 11, _ => rfl
  | 12, _ => rfl
  | 13, _ => rfl
  | 14, _ => rfl
  | 15, _ => rfl
  | j + 16, h => exact absurd h (by omega)⟩
theorem cn_X10_59 : cj_CL RX10 59 3 9 [.null, .null, .null, .null, .int 0, .int 0, .int 0, .int 0, .int 0] := ⟨RX4, TX4, tyX4, rfl, ws_X4, wd_302, wd_303, wd_113, tyX4_ok, by
  intro j hj
  match j, hj with
  | 0, _ => rfl
  | 1, _ => rfl
  | 2, _ => rfl
  | 3, _ => rfl
  | 4, _ => rfl
  | 5, _ => rfl
  | 6, _ => rfl
  | 7, _ => rfl
  | 8, _ => rfl
  | j + 9, h => exact absurd h (by omega)⟩
theorem cn_X10_68 : cj_CL RX10 68 4 2 [.null, .null] := ⟨RX5, TX5, tyX5, rfl, ws_X5, wd_336, wd_337, wd_114, tyX5_ok, by
  intro j hj
  match j, hj with
  | 0, _ => rfl
  | 1, _ => rfl
  | j + 2, h => exact absurd h (by omega)⟩
theorem cn_X10_77 : cj_CL RX10 77 8 12 [.null, .null, .long 0, .int 0, .int 0, .null, .null, .null, .null, .null, .null, .null] := ⟨RX9, TX9, tyX9, rfl, ws_X9, wd_349, wd_350, wd_115, tyX9_ok, by
  intro j hj
  match j, hj with
  | 0, _ => rfl
  | 1, _ => rfl
  | 2, _ => rfl
  | 3, _ => rfl
  | 4, _ => rfl
  | 5, _ => rfl
  | 6, _ => rfl
  | 7, _ => rfl
  | 8, _ => rfl
  | 9, _ => rfl
  | 10, _ => rfl
  | 11, _ => rfl
  | j + 12, h => exact absurd h (by omega)⟩
theorem cn_X10_86 : cj_CL RX10 86 2 4 [.null, .null, .null, .null] := ⟨RX2, TX2, tyX2, rfl, ws_X2, wd_393, wd_394, wd_116, tyX2_ok, by
  intro j hj
  match j, hj with
  | 0, _ => rfl
  | 1, _ => rfl
  | 2, _ => rfl
  | 3, _ => rfl
  | j + 4, h => exact absurd h (by omega)⟩
theorem cn_X10_9 : cj_CL RX10 9 6 2 [.null, .int 0] := ⟨RX7, TX7, tyX7, rfl, ws_X7, wd_136, wd_137, wd_107, tyX7_ok, by
  intro j hj
  match j, hj with
  | 0, _ => rfl
  | 1, _ => rfl
  | j + 2, h => exact absurd h (by omega)⟩
theorem cn_X8_9 : cj_CL RX8 9 6 2 [.null, .int 0] := ⟨RX7, TX7, tyX7, rfl, ws_X7, wd_174, wd_137, wd_107, tyX7_ok, by
  intro j hj
  match j, hj with
  | 0, _ => rfl
  | 1, _ => rfl
  | j + 2, h => exact absurd h (by omega)⟩
theorem ob_X0_3 : Cond.methodLink RX0 3 Lib.objectInit ∈ ej_WS := ej_ws (List.mem_of_getElem? (i := 250) (by decide +kernel)) (by decide +kernel)
theorem ob_X1_1 : Cond.methodLink RX1 1 Lib.objectInit ∈ ej_WS := ej_ws (List.mem_of_getElem? (i := 159) (by decide +kernel)) (by decide +kernel)
theorem ob_X10_3 : Cond.methodLink RX10 3 Lib.objectInit ∈ ej_WS := ej_ws (List.mem_of_getElem? (i := 133) (by decide +kernel)) (by decide +kernel)
theorem ob_X2_3 : Cond.methodLink RX2 3 Lib.objectInit ∈ ej_WS := ej_ws (List.mem_of_getElem? (i := 398) (by decide +kernel)) (by decide +kernel)
theorem ob_X4_3 : Cond.methodLink RX4 3 Lib.objectInit ∈ ej_WS := ej_ws (List.mem_of_getElem? (i := 307) (by decide +kernel)) (by decide +kernel)
theorem ob_X5_3 : Cond.methodLink RX5 3 Lib.objectInit ∈ ej_WS := ej_ws (List.mem_of_getElem? (i := 341) (by decide +kernel)) (by decide +kernel)
theorem ob_X6_3 : Cond.methodLink RX6 3 Lib.objectInit ∈ ej_WS := ej_ws (List.mem_of_getElem? (i := 201) (by decide +kernel)) (by decide +kernel)
theorem ob_X7_3 : Cond.methodLink RX7 3 Lib.objectInit ∈ ej_WS := ej_ws (List.mem_of_getElem? (i := 141) (by decide +kernel)) (by decide +kernel)
theorem ob_X8_3 : Cond.methodLink RX8 3 Lib.objectInit ∈ ej_WS := ej_ws (List.mem_of_getElem? (i := 173) (by decide +kernel)) (by decide +kernel)
theorem ob_X9_3 : Cond.methodLink RX9 3 Lib.objectInit ∈ ej_WS := ej_ws (List.mem_of_getElem? (i := 354) (by decide +kernel)) (by decide +kernel)
