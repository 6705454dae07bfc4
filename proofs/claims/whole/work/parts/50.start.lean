theorem wd_128 : Cond.classLink "MailRouterLaw" 8 "MailRouter" ∈ ej_WS := ej_ws (List.mem_of_getElem? (i := 128) (by decide +kernel)) (by decide +kernel)
theorem wd_129 : Cond.instantiable "MailRouter" 12 ∈ ej_WS := ej_ws (List.mem_of_getElem? (i := 129) (by decide +kernel)) (by decide +kernel)
theorem wd_130 : Cond.methodLink "MailRouterLaw" 78 ⟨"MailRouter", "<init>", "()V"⟩ ∈ ej_WS := ej_ws (List.mem_of_getElem? (i := 130) (by decide +kernel)) (by decide +kernel)
theorem wd_131 : Cond.instanceMethod ⟨"MailRouter", "<init>", "()V"⟩ ∈ ej_WS := ej_ws (List.mem_of_getElem? (i := 131) (by decide +kernel)) (by decide +kernel)
theorem wd_132 : Cond.code ⟨"MailRouter", "<init>", "()V"⟩ prog_1_method_1_code 2 none ∈ ej_WS := ej_ws (List.mem_of_getElem? (i := 132) (by decide +kernel)) (by decide +kernel)
theorem wd_1356 : Cond.classLink "MailRouterLaw" 79 "MailRouterModel" ∈ ej_WS := ej_ws (List.mem_of_getElem? (i := 1356) (by decide +kernel)) (by decide +kernel)
theorem wd_1357 : Cond.instantiable "MailRouterModel" 53 ∈ ej_WS := ej_ws (List.mem_of_getElem? (i := 1357) (by decide +kernel)) (by decide +kernel)
theorem wd_1358 : Cond.methodLink "MailRouterLaw" 81 ⟨"MailRouterModel", "<init>", "()V"⟩ ∈ ej_WS := ej_ws (List.mem_of_getElem? (i := 1358) (by decide +kernel)) (by decide +kernel)
theorem wd_1359 : Cond.instanceMethod ⟨"MailRouterModel", "<init>", "()V"⟩ ∈ ej_WS := ej_ws (List.mem_of_getElem? (i := 1359) (by decide +kernel)) (by decide +kernel)
set_option maxRecDepth 200000 in
theorem wd_1360 : Cond.code ⟨"MailRouterModel", "<init>", "()V"⟩ prog_13_method_1_code 1 none ∈ ej_WS := ej_ws (List.mem_of_getElem? (i := 1360) rfl) (by decide +kernel)
theorem cn_L_8 : cj_CL RL 8 9 12 [.null, .null, .null, .null, .null, .null, .null, .null, .null, .null, .null, .null] := ⟨RX10, TX10, tyX10, rfl, ws_X10, wd_128, wd_129, wd_106, tyX10_ok, by
  intro j hj
  match j, hj with
  | 0, _ => rfl
  | 1, _ => rfl
  | 2, _ => rfl
  | 3, _ => rfl
  | 4, _ => rfl
  | 5, _ => rfl
  | 6, _ => rfl
  | 7, _ => rfl
  | 8, _ => rfl
  | 9, _ => rfl
  | 10, _ => rfl
  | 11, _ => rfl
  | j + 12, h => exact absurd h (by omega)⟩
theorem cn_L_79 : cj_CL RL 79 10 53 [.null, .null, .null, .null, .null, .null, .int 0, .int 0, .int 0, .int 0, .int 0, .long 0, .int 0, .int 0, .int 0, .int 0, .int 0, .int 0, .int 0, .int 0, .null, .null, .null, .null, .null, .null, .int 0, .int 0, .int 0, .int 0, .null, .null, .null, .null, .null, .null, .null, .null, .null, .null, .null, .null, .null, .long 0, .null, .null, .null, .null, .int 0, .null, .null, .int 0, .int 0] := ⟨RX11, TX11, tyX11, rfl, ws_X11, wd_1356, wd_1357, wd_117, tyX11_ok, by
  intro j hj
  match j, hj with
  | 0, _ => rfl
  | 1, _ => rfl
  | 2, _ => rfl
  | 3, _ => rfl
  | 4, _ => rfl
  | 5, _ => rfl
  | 6, _ => rfl
  | 7, _ => rfl
  | 8, _ => rfl
  | 9, _ => rfl
  | 10, _ => rfl
  | 11, _ => rfl
  | 12, _ => rfl
  | 13, _ => rfl
  | 14, _ => rfl
  | 15, _ => rfl
  | 16, _ => rfl
  | 17, _ => rfl
  | 18, _ => rfl
  | 19, _ => rfl
  | 20, _ => rfl
  | 21, _ => rfl
  | 22, _ => rfl
  | 23, _ => rfl
  | 24, _ => rfl
  | 25, _ => rfl
  | 26, _ => rfl
  | 27, _ => rfl
  | 28, _ => rfl
  | 29, _ => rfl
  | 30, _ => rfl
  | 31, _ => rfl
  | 32, _ => rfl
  | 33, _ => rfl
  | 34, _ => rfl
  | 35, _ => rfl
  | 36, _ => rfl
  | 37, _ => rfl
  | 38, _ => rfl
  | 39, _ => rfl
  | 40, _ => rfl
  | 41, _ => rfl
  | 42, _ => rfl
  | 43, _ => rfl
  | 44, _ => rfl
  | 45, _ => rfl
  | 46, _ => rfl
  | 47, _ => rfl
  | 48, _ => rfl
  | 49, _ => rfl
  | 50, _ => rfl
  | 51, _ => rfl
  | 52, _ => rfl
  | j + 53, h => exact absurd h (by omega)⟩
theorem lc_L_78 : Cond.methodLink RL 78 yX10_init ∈ ej_WS := wd_130
theorem lc_L_78_2 : Cond.instanceMethod yX10_init ∈ ej_WS := wd_131
theorem lc_L_78_4 : Cond.initialized yX10_init.cls ∈ ej_WS := wd_106
theorem lc_L_78_5 : Cond.code yX10_init i10_init.1 i10_init.2.1 none ∈ ej_WS := wd_132
theorem lc_L_78_6 : yX10_init.cls ≠ "java/lang/invoke/MethodHandle" ∧ yX10_init.cls ≠ "java/lang/invoke/VarHandle" ∧ (parseMethodDescriptor yX10_init.desc).map (fun d => d.parameters.length) = some 0 := ⟨by decide, by decide, by decide +kernel⟩
theorem lc_L_81 : Cond.methodLink RL 81 yX11_init ∈ ej_WS := wd_1358
theorem lc_L_81_2 : Cond.instanceMethod yX11_init ∈ ej_WS := wd_1359
theorem lc_L_81_4 : Cond.initialized yX11_init.cls ∈ ej_WS := wd_117
theorem lc_L_81_5 : Cond.code yX11_init i11_init.1 i11_init.2.1 none ∈ ej_WS := wd_1360
theorem lc_L_81_6 : yX11_init.cls ≠ "java/lang/invoke/MethodHandle" ∧ yX11_init.cls ≠ "java/lang/invoke/VarHandle" ∧ (parseMethodDescriptor yX11_init.desc).map (fun d => d.parameters.length) = some 0 := ⟨by decide, by decide, by decide +kernel⟩
theorem st_arr {args : Array Value} {s : State} {ty : FieldType} {c : ClassId} (h : ∃ k comp, s.vm.findClass ("[" ++ ty.toString) = some c ∧ s.vm.classes[c]? = some k ∧ k.kind = .array comp ty) : ArrOfT s c ty := by
  obtain ⟨k, comp, f1, f2, f3⟩ := h
  exact fun N z => ⟨(fun q hq => by cases hq), k, f2, comp, f3⟩
theorem st_K {args : Array Value} {s : State} (hts : ∀ w ∈ ej_WS, w.before args s = true) (ho : (Cond.arrayOver (.object "MailRouter$Text")).before args s = true) (hi : (Cond.arrayOver (.array .int)).before args s = true) : ∃ (D : va_G) (aC : Nat → ClassId), va_K D vwCl (ej_tys aC) s := by
  obtain ⟨c0, S0, K0⟩ := u_known (C := RX0) (T := TX0) (N := 16) (n := 16) hts ws_X0 (hts (.instantiable RX0 16) wd_246)
  obtain ⟨c1, S1, K1⟩ := u_known (C := RX1) (T := TX1) (N := 2) (n := 2) hts ws_X1 (hts (.instantiable RX1 2) wd_155)
  obtain ⟨c2, S2, K2⟩ := u_known (C := RX2) (T := TX2) (N := 4) (n := 4) hts ws_X2 (hts (.instantiable RX2 4) wd_394)
  obtain ⟨c3, S3, K3⟩ := u_known (C := RX4) (T := TX4) (N := 9) (n := 9) hts ws_X4 (hts (.instantiable RX4 9) wd_303)
  obtain ⟨c4, S4, K4⟩ := u_known (C := RX5) (T := TX5) (N := 2) (n := 2) hts ws_X5 (hts (.instantiable RX5 2) wd_337)
  obtain ⟨c5, S5, K5⟩ := u_known (C := RX6) (T := TX6) (N := 14) (n := 14) hts ws_X6 (hts (.instantiable RX6 14) wd_197)
  obtain ⟨c6, S6, K6⟩ := u_known (C := RX7) (T := TX7) (N := 2) (n := 2) hts ws_X7 (hts (.instantiable RX7 2) wd_137)
  obtain ⟨c7, S7, K7⟩ := u_known (C := RX8) (T := TX8) (N := 6) (n := 6) hts ws_X8 (hts (.instantiable RX8 6) wd_169)
  obtain ⟨c8, S8, K8⟩ := u_known (C := RX9) (T := TX9) (N := 12) (n := 12) hts ws_X9 (hts (.instantiable RX9 12) wd_350)
  obtain ⟨c9, S9, K9⟩ := u_known (C := RX10) (T := TX10) (N := 12) (n := 12) hts ws_X10 (hts (.instantiable RX10 12) wd_129)
  obtain ⟨c10, S10, K10⟩ := u_known (C := RX11) (T := TX11) (N := 53) (n := 53) hts ws_X11 (hts (.instantiable RX11 53) wd_1357)
  obtain ⟨a0, k0, m0, f0, g0, h0⟩ := Cond.arrayClass_spec (hts _ ar_byte)
  obtain ⟨a1, k1, m1, f1, g1, h1⟩ := Cond.arrayClass_spec (hts _ ar_int)
  obtain ⟨a2, k2, m2, f2, g2, h2⟩ := Cond.arrayClass_spec (hts _ ar_long)
  obtain ⟨a3, k3, m3, f3, g3, h3⟩ := Cond.arrayClass_spec (hts _ ar_boolean)
  obtain ⟨m4, a4, k4, f4, -, g4, h4, n4⟩ := Cond.arrayOver_spec ho
  obtain ⟨m5, a5, k5, f5, -, g5, h5, n5⟩ := arrayOver_specB hi
  refine ⟨(fun k => [c0, c1, c2, c3, c4, c5, c6, c7, c8, c9, c10].getD k c0, fun k => [S0, S1, S2, S3, S4, S5, S6, S7, S8, S9, S10].getD k S0), fun k => [a0, a1, a2, a3, a4, a5].getD k a0, ?_, ?_⟩
  · intro k q hq
    match k, hq with
    | 0, hq => cases hq; exact K0
    | 1, hq => cases hq; exact K1
    | 2, hq => cases hq; exact K2
    | 3, hq => cases hq; exact K3
    | 4, hq => cases hq; exact K4
    | 5, hq => cases hq; exact K5
    | 6, hq => cases hq; exact K6
    | 7, hq => cases hq; exact K7
    | 8, hq => cases hq; exact K8
    | 9, hq => cases hq; exact K9
    | 10, hq => cases hq; exact K10
    | k + 11, hq => cases hq
  · intro k q hq
    match k, hq with
    | 0, hq => cases hq; exact ⟨fun N z => ⟨(fun q hq => by cases hq), k0, g0, m0, h0⟩, f0⟩
    | 1, hq => cases hq; exact ⟨fun N z => ⟨(fun q hq => by cases hq), k1, g1, m1, h1⟩, f1⟩
    | 2, hq => cases hq; exact ⟨fun N z => ⟨(fun q hq => by cases hq), k2, g2, m2, h2⟩, f2⟩
    | 3, hq => cases hq; exact ⟨fun N z => ⟨(fun q hq => by cases hq), k3, g3, m3, h3⟩, f3⟩
    | 4, hq => cases hq; exact ⟨fun N z => ⟨(fun q hq => by cases hq), k4, g4, m4, h4⟩, k4, m4, g4, h4, f4, n4⟩
    | 5, hq => cases hq; exact ⟨fun N z => ⟨(fun q hq => by cases hq), k5, g5, m5, h5⟩, n5⟩
    | k + 6, hq => cases hq
/-- the pure claim: the reference begins, and the law of the two models is 1 -/
def st_PURE : Prop := ∃ (n : Nat) (σr : ej_S), m11_init n ej_Z = some σr ∧ ∀ (N : Nat) (xs : Nat → Int32), N ≤ 2048 → mL_law n N xs 600 0 (ej_Z, σr, fun _ => 0) = some 1
set_option maxRecDepth 200000 in
set_option maxHeartbeats 4000000 in
theorem st_walk {D : va_G} {aC : Nat → ClassId} {F : ej_F} {b N n : Nat} {xs : Nat → Int32} {σr : ej_S} {tR : Nat} {adE adK adV : Nat → Nat} (hq : ej_finL b N xs F room_1.cells room_1.slots) (hc : cl_cnt F 0 0 room_1.cells room_1.slots) (hM : m11_init n ej_Z = some σr) (hR : mL_law n N xs 600 0 (ej_Z, σr, fun _ => 0) = some 1) (hro : ∀ ad : Nat → Nat, match F with | (_, _, _, _, s, _, _, _, _, _, _, A, _, _) => cw_RO (D, aC, ad, tR, adE, adK, adV) A s s.heap) : ej_J (cjV D aC []) F iL_law () () 0 [(0, .ref b)] [] (some ()) := by
  refine cl_new hc cn_L_8 (Nat.le_of_ble_eq_true rfl) (Nat.le_of_ble_eq_true rfl) d_law_0 (fun h0 => ?_)
  refine j_dup d_law_3 rfl ?_
  refine cl_call (B := []) (fun l => k10_init l D aC h0) lc_L_78 lc_L_78_2 lc_L_78_4 lc_L_78_5 lc_L_78_6 rfl ⟨Nat.le_of_ble_eq_true rfl, Nat.le_of_ble_eq_true rfl⟩ d_law_4 rfl (Nat.le_of_ble_eq_true rfl) (cl_cntup 1 12 hc) (Nat.le_of_ble_eq_true rfl) (Nat.le_of_ble_eq_true rfl) rfl (fun w1 hw1 => ?_)
  obtain ⟨q0, q1, q2, q3, q4, q5, q6, q7, q8, q9, q10, q11, q12, q13, q14, q15, q16, q17, q18, q19, q20, q21, q22, q23, q24, q25, q26, q27, q28, q29, q30, q31, q32, q33, q34, q35, r36, q37, r38, q39, q40, q41, q42, q43, q44, q45, q46, q47, q48, q49, q50, rfl⟩ := hw1
  refine cj_norm (ws' := ((h0, .inr (9, [.ref q0, .ref q2, .ref q4, .ref q13, .ref q14, .ref q15, .ref q22, .ref q27, .ref q39, .ref q40, .ref q42, .ref q50])) :: ((q0, .inr (6, [.ref q1, .int 0])) :: ((q1, .inl (aC 0, (600, .inl (fun _ => 0)))) :: ((q2, .inr (6, [.ref q3, .int 0])) :: ((q3, .inl (aC 0, (1200, .inl (fun _ => 0)))) :: ((q4, .inl (aC 4, 4, .inr (.inr (.inr (.inr (va_up (va_up (va_up (va_up (fun _ => none) (0 : Int32).toNatClampNeg (some q5)) (1 : Int32).toNatClampNeg (some q7)) (2 : Int32).toNatClampNeg (some q9)) (3 : Int32).toNatClampNeg (some q11))))))) :: ((q5, .inr (6, [.ref q6, .int 0])) :: ((q6, .inl (aC 0, (600, .inl (fun _ => 0)))) :: ((q7, .inr (6, [.ref q8, .int 0])) :: ((q8, .inl (aC 0, (600, .inl (fun _ => 0)))) :: ((q9, .inr (6, [.ref q10, .int 0])) :: ((q10, .inl (aC 0, (600, .inl (fun _ => 0)))) :: ((q11, .inr (6, [.ref q12, .int 0])) :: ((q12, .inl (aC 0, (600, .inl (fun _ => 0)))) :: ((q13, .inl (aC 1, (4, .inl (fun _ => 0)))) :: ((q14, .inr (1, [.int 0, .int 0])) :: ((q15, .inr (7, [.ref q16, .ref q18, .ref q19, .ref q20, .ref q21, .int 0])) :: ((q16, .inr (6, [.ref q17, .int 0])) :: ((q17, .inl (aC 0, (600, .inl (fun _ => 0)))) :: ((q18, .inl (aC 1, (601, .inl (fun _ => 0)))) :: ((q19, .inl (aC 1, (601, .inl (fun _ => 0)))) :: ((q20, .inl (aC 1, (601, .inl (fun _ => 0)))) :: ((q21, .inl (aC 2, (601, .inr (.inl (fun _ => 0))))) :: ((q22, .inr (5, [.ref q15, .int 0, .int 0, .int 0, .int 0, .int 0, .ref q23, .ref q24, .ref q25, .ref q26, .int 0, .int 0, .int 0, .int 0])) :: ((q23, .inl (aC 1, (600, .inl (fun _ => 0)))) :: ((q24, .inl (aC 1, (600, .inl (fun _ => 0)))) :: ((q25, .inl (aC 1, (600, .inl (fun _ => 0)))) :: ((q26, .inl (aC 1, (600, .inl (fun _ => 0)))) :: ((q27, .inr (0, [.int 0, .int 0, .ref q28, .ref q29, .int 0, .int 0, .int 0, .int 0, .int 0, .ref q30, .ref q31, .ref q32, .ref q33, .ref q34, .ref q35, .ref q37])) :: ((q28, .inl (aC 2, (24, .inr (.inl (fun _ => 0))))) :: ((q29, .inl (aC 1, (24, .inl (fun _ => 0)))) :: ((q30, .inl (aC 1, (24, .inl (fun _ => 0)))) :: ((q31, .inl (aC 1, (24, .inl (fun _ => 0)))) :: ((q32, .inl (aC 1, (24, .inl (fun _ => 0)))) :: ((q33, .inl (aC 1, (24, .inl (fun _ => 0)))) :: ((q34, .inl (aC 1, (24, .inl (fun _ => 0)))) :: ((q35, .inl (aC 5, 24, .inr (.inr (.inr (.inr (fun i => if i < 24 then some (r36 i) else none)))))) :: ((List.range 24).map (fun i => (r36 i, .inl (aC 1, 24, .inl (fun _ => 0)))) ++ ((q37, .inl (aC 5, 24, .inr (.inr (.inr (.inr (fun i => if i < 24 then some (r38 i) else none)))))) :: ((List.range 24).map (fun i => (r38 i, .inl (aC 1, 24, .inl (fun _ => 0)))) ++ ((q39, .inr (3, [.ref q15, .ref q22, .ref q27, .ref q14, .int 0, .int 0, .int 0, .int 0, .int 0])) :: ((q40, .inr (4, [.ref q27, .ref q41])) :: ((q41, .inl (aC 1, (24, .inl (fun _ => 0)))) :: ((q42, .inr (8, [.ref q27, .ref q40, .long 0, .int 0, .int 0, .ref q43, .ref q44, .ref q45, .ref q46, .ref q47, .ref q48, .ref q49])) :: ((q43, .inl (aC 1, (96, .inl (fun _ => 0)))) :: ((q44, .inl (aC 1, (96, .inl (fun _ => 0)))) :: ((q45, .inl (aC 1, (96, .inl (fun _ => 0)))) :: ((q46, .inl (aC 1, (96, .inl (fun _ => 0)))) :: ((q47, .inl (aC 3, (96, .inl (fun _ => 0)))) :: ((q48, .inl (aC 1, (96, .inl (fun _ => 0)))) :: ((q49, .inl (aC 1, (96, .inl (fun _ => 0)))) :: ((q50, .inr (2, [.ref q27, .ref q40, .ref q42, .ref q2])) :: []))))))))))))))))))))))))))))))))))))))))))))))))))))) rfl ?_
  refine j_astore_n (i := 1) (L' := [(1, .ref h0), (0, .ref b)]) d_law_7 rfl (Nat.le_of_ble_eq_true rfl) rfl ?_
  refine cl_new (cl_cntup 97 11755 (cl_cntup 1 12 hc)) cn_L_79 (Nat.le_of_ble_eq_true rfl) (Nat.le_of_ble_eq_true rfl) d_law_8 (fun h1 => ?_)
  refine j_dup d_law_11 rfl ?_
  refine cl_call (B := ((h0, .inr (9, [.ref q0, .ref q2, .ref q4, .ref q13, .ref q14, .ref q15, .ref q22, .ref q27, .ref q39, .ref q40, .ref q42, .ref q50])) :: ((q0, .inr (6, [.ref q1, .int 0])) :: ((q1, .inl (aC 0, (600, .inl (fun _ => 0)))) :: ((q2, .inr (6, [.ref q3, .int 0])) :: ((q3, .inl (aC 0, (1200, .inl (fun _ => 0)))) :: ((q4, .inl (aC 4, 4, .inr (.inr (.inr (.inr (va_up (va_up (va_up (va_up (fun _ => none) (0 : Int32).toNatClampNeg (some q5)) (1 : Int32).toNatClampNeg (some q7)) (2 : Int32).toNatClampNeg (some q9)) (3 : Int32).toNatClampNeg (some q11))))))) :: ((q5, .inr (6, [.ref q6, .int 0])) :: ((q6, .inl (aC 0, (600, .inl (fun _ => 0)))) :: ((q7, .inr (6, [.ref q8, .int 0])) :: ((q8, .inl (aC 0, (600, .inl (fun _ => 0)))) :: ((q9, .inr (6, [.ref q10, .int 0])) :: ((q10, .inl (aC 0, (600, .inl (fun _ => 0)))) :: ((q11, .inr (6, [.ref q12, .int 0])) :: ((q12, .inl (aC 0, (600, .inl (fun _ => 0)))) :: ((q13, .inl (aC 1, (4, .inl (fun _ => 0)))) :: ((q14, .inr (1, [.int 0, .int 0])) :: ((q15, .inr (7, [.ref q16, .ref q18, .ref q19, .ref q20, .ref q21, .int 0])) :: ((q16, .inr (6, [.ref q17, .int 0])) :: ((q17, .inl (aC 0, (600, .inl (fun _ => 0)))) :: ((q18, .inl (aC 1, (601, .inl (fun _ => 0)))) :: ((q19, .inl (aC 1, (601, .inl (fun _ => 0)))) :: ((q20, .inl (aC 1, (601, .inl (fun _ => 0)))) :: ((q21, .inl (aC 2, (601, .inr (.inl (fun _ => 0))))) :: ((q22, .inr (5, [.ref q15, .int 0, .int 0, .int 0, .int 0, .int 0, .ref q23, .ref q24, .ref q25, .ref q26, .int 0, .int 0, .int 0, .int 0])) :: ((q23, .inl (aC 1, (600, .inl (fun _ => 0)))) :: ((q24, .inl (aC 1, (600, .inl (fun _ => 0)))) :: ((q25, .inl (aC 1, (600, .inl (fun _ => 0)))) :: ((q26, .inl (aC 1, (600, .inl (fun _ => 0)))) :: ((q27, .inr (0, [.int 0, .int 0, .ref q28, .ref q29, .int 0, .int 0, .int 0, .int 0, .int 0, .ref q30, .ref q31, .ref q32, .ref q33, .ref q34, .ref q35, .ref q37])) :: ((q28, .inl (aC 2, (24, .inr (.inl (fun _ => 0))))) :: ((q29, .inl (aC 1, (24, .inl (fun _ => 0)))) :: ((q30, .inl (aC 1, (24, .inl (fun _ => 0)))) :: ((q31, .inl (aC 1, (24, .inl (fun _ => 0)))) :: ((q32, .inl (aC 1, (24, .inl (fun _ => 0)))) :: ((q33, .inl (aC 1, (24, .inl (fun _ => 0)))) :: ((q34, .inl (aC 1, (24, .inl (fun _ => 0)))) :: ((q35, .inl (aC 5, 24, .inr (.inr (.inr (.inr (fun i => if i < 24 then some (r36 i) else none)))))) :: ((List.range 24).map (fun i => (r36 i, .inl (aC 1, 24, .inl (fun _ => 0)))) ++ ((q37, .inl (aC 5, 24, .inr (.inr (.inr (.inr (fun i => if i < 24 then some (r38 i) else none)))))) :: ((List.range 24).map (fun i => (r38 i, .inl (aC 1, 24, .inl (fun _ => 0)))) ++ ((q39, .inr (3, [.ref q15, .ref q22, .ref q27, .ref q14, .int 0, .int 0, .int 0, .int 0, .int 0])) :: ((q40, .inr (4, [.ref q27, .ref q41])) :: ((q41, .inl (aC 1, (24, .inl (fun _ => 0)))) :: ((q42, .inr (8, [.ref q27, .ref q40, .long 0, .int 0, .int 0, .ref q43, .ref q44, .ref q45, .ref q46, .ref q47, .ref q48, .ref q49])) :: ((q43, .inl (aC 1, (96, .inl (fun _ => 0)))) :: ((q44, .inl (aC 1, (96, .inl (fun _ => 0)))) :: ((q45, .inl (aC 1, (96, .inl (fun _ => 0)))) :: ((q46, .inl (aC 1, (96, .inl (fun _ => 0)))) :: ((q47, .inl (aC 3, (96, .inl (fun _ => 0)))) :: ((q48, .inl (aC 1, (96, .inl (fun _ => 0)))) :: ((q49, .inl (aC 1, (96, .inl (fun _ => 0)))) :: ((q50, .inr (2, [.ref q27, .ref q40, .ref q42, .ref q2])) :: []))))))))))))))))))))))))))))))))))))))))))))))))))))) (fun l => k11_init l D aC h1 hM) lc_L_81 lc_L_81_2 lc_L_81_4 lc_L_81_5 lc_L_81_6 rfl ⟨Nat.le_of_ble_eq_true rfl, Nat.le_of_ble_eq_true rfl⟩ d_law_12 rfl (Nat.le_of_ble_eq_true rfl) (cl_cntup 1 53 (cl_cntup 97 11755 (cl_cntup 1 12 hc))) (Nat.le_of_ble_eq_true rfl) (Nat.le_of_ble_eq_true rfl) rfl (fun w1 hw1 => ?_)
  obtain ⟨ad1, e1, rfl⟩ := hw1
  subst e1
  refine j_astore_n (i := 2) (L' := [(2, .ref (ad1 200)), (1, .ref h0), (0, .ref b)]) d_law_15 rfl (Nat.le_of_ble_eq_true rfl) rfl ?_
  refine j_iconst (v := 1) d_law_16 (by decide) ?_
  refine cl_newa (atype := .long) (t0 := 2) (N := 1) (z := (1, .inr (.inl (fun _ => 0)))) (cl_cntup 31 15442 (cl_cntup 1 53 (cl_cntup 97 11755 (cl_cntup 1 12 hc)))) ar_long rfl rfl (fun _ _ => rfl) (fun _ => rfl) (by decide) (by decide) (by decide) (Nat.le_of_ble_eq_true rfl) (Nat.le_of_ble_eq_true rfl) d_law_17 (fun q => ?_)
  refine j_astore_n (i := 3) (L' := [(3, .ref q), (2, .ref (ad1 200)), (1, .ref h0), (0, .ref b)]) d_law_19 rfl (Nat.le_of_ble_eq_true rfl) rfl ?_
  refine j_iconst (v := 0) d_law_20 (by decide) ?_
  refine j_istore (i := 4) (L' := [(4, .int 0), (3, .ref q), (2, .ref (ad1 200)), (1, .ref h0), (0, .ref b)]) d_law_21 (Nat.le_of_ble_eq_true rfl) rfl ?_
  refine cl_conv (W := lw_W (D, aC, (fun n => if n < 100 then ([h0, q14, q15, q22, q27, q39, q40, q42, q50, 0, q0, q2, q5, q7, q9, q11, q16, 0, 0, 0, q1, q3, q6, q8, q10, q12, q17, 0, 0, 0, q13, q18, q19, q20, q21, q23, q24, q25, q26, q28, q29, q30, q31, q32, q33, q34, q41, q43, q44, q45, q46, q47, q48, q49, 0, 0, 0, 0, 0, 0, q4, q35, q37] : List Nat).getD n 0 else if n < 130 then r36 (n - 100) else if n < 200 then r38 (n - 130) else if n < 300 then ad1 n else q), tR, adE, adK, adV)) (RO := cw_RO (D, aC, (fun n => if n < 100 then ([h0, q14, q15, q22, q27, q39, q40, q42, q50, 0, q0, q2, q5, q7, q9, q11, q16, 0, 0, 0, q1, q3, q6, q8, q10, q12, q17, 0, 0, 0, q13, q18, q19, q20, q21, q23, q24, q25, q26, q28, q29, q30, q31, q32, q33, q34, q41, q43, q44, q45, q46, q47, q48, q49, 0, 0, 0, 0, 0, 0, q4, q35, q37] : List Nat).getD n 0 else if n < 130 then r36 (n - 100) else if n < 200 then r38 (n - 130) else if n < 300 then ad1 n else q), tR, adE, adK, adV)) (σ := (ej_Z, σr, fun _ => 0)) (lV_ok (D, aC, (fun n => if n < 100 then ([h0, q14, q15, q22, q27, q39, q40, q42, q50, 0, q0, q2, q5, q7, q9, q11, q16, 0, 0, 0, q1, q3, q6, q8, q10, q12, q17, 0, 0, 0, q13, q18, q19, q20, q21, q23, q24, q25, q26, q28, q29, q30, q31, q32, q33, q34, q41, q43, q44, q45, q46, q47, q48, q49, 0, 0, 0, 0, 0, 0, q4, q35, q37] : List Nat).getD n 0 else if n < 130 then r36 (n - 100) else if n < 200 then r38 (n - 130) else if n < 300 then ad1 n else q), tR, adE, adK, adV)) ?_ (st_convP h0 q0 q1 q2 q3 q4 q5 q6 q7 q8 q9 q10 q11 q12 q13 q14 q15 q16 q17 q18 q19 q20 q21 q22 q23 q24 q25 q26 q27 q28 q29 q30 q31 q32 q33 q34 q35 r36 q37 r38 q39 q40 q41 q42 q43 q44 q45 q46 q47 q48 q49 q50 ad1 q σr tR adE adK adV) (st_convD h0 q0 q1 q2 q3 q4 q5 q6 q7 q8 q9 q10 q11 q12 q13 q14 q15 q16 q17 q18 q19 q20 q21 q22 q23 q24 q25 q26 q27 q28 q29 q30 q31 q32 q33 q34 q35 r36 q37 r38 q39 q40 q41 q42 q43 q44 q45 q46 q47 q48 q49 q50 ad1 q σr tR adE adK adV) hR ?_
  · obtain ⟨p, l, e, R, s, m, args, below, meth, c, Q, A, cells, slots⟩ := F
    exact hro _
  · have g0 : ej_finL b N xs (ej_up F 1 12) 100000 1000000 := ej_finLu hq (Nat.le_of_ble_eq_true rfl) (Nat.le_of_ble_eq_true rfl)
    have g1 : ej_finL b N xs (ej_up (ej_up F 1 12) 97 11755) 99000 900000 := ej_finLu g0 (by omega) (by omega)
    have g2 : ej_finL b N xs (ej_up (ej_up (ej_up F 1 12) 97 11755) 1 53) 98000 800000 := ej_finLu g1 (by omega) (by omega)
    have g3 : ej_finL b N xs (ej_up (ej_up (ej_up (ej_up F 1 12) 97 11755) 1 53) 31 15442) 97000 700000 := ej_finLu g2 (by omega) (by omega)
    have g4 : ej_finL b N xs (ej_up (ej_up (ej_up (ej_up (ej_up F 1 12) 97 11755) 1 53) 31 15442) 1 1) 96000 600000 := ej_finLu g3 (by omega) (by omega)
    have g5 := ej_finLw (kc' := 2 * 600) (ks' := 12 * 600) g4 (by omega) (by omega)
    have g6 := jL_law (D, aC, (fun n => if n < 100 then ([h0, q14, q15, q22, q27, q39, q40, q42, q50, 0, q0, q2, q5, q7, q9, q11, q16, 0, 0, 0, q1, q3, q6, q8, q10, q12, q17, 0, 0, 0, q13, q18, q19, q20, q21, q23, q24, q25, q26, q28, q29, q30, q31, q32, q33, q34, q41, q43, q44, q45, q46, q47, q48, q49, 0, 0, 0, 0, 0, 0, q4, q35, q37] : List Nat).getD n 0 else if n < 130 then r36 (n - 100) else if n < 200 then r38 (n - 130) else if n < 300 then ad1 n else q), tR, adE, adK, adV) n 600 g5 0 (ej_Z, σr, fun _ => 0)
    exact j_sub [4, 3, 2, 1, 0] rfl g6
theorem st_nilP {D : va_G} {H : Heap} : va_P D vwCl [] H := fun k q h => by simp at h
theorem st_nilD {A : Nat → Prop} : va_D A [] := ⟨fun i j x y h => by simp at h, fun k x h => by simp at h⟩
