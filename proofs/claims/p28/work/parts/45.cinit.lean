section
variable {D : va_G} {aC : Nat → ClassId} {F : ej_F} {I : ej_I} {ws ws' : va_W} {pc : Nat} {L : List (Nat × Value)} {st : List Value}
theorem cj_norm (h : ws = ws') (k : ej_J (cjV D aC ws') F I () () pc L st (some ())) : ej_J (cjV D aC ws) F I () () pc L st (some ()) := by rw [h]; exact k
end
set_option maxRecDepth 40000 in
set_option maxHeartbeats 400000 in
theorem k7_init (l : Launch) (D : va_G) (aC : Nat → ClassId) (h0 : Nat) (a1 : Int32) (N : Nat) (ha : ¬ (if a1 < 0 then (0 : Int32) else a1) < 0) (hN : (if a1 < 0 then (0 : Int32) else a1).toNatClampNeg = N) (hb : N ≤ 536870912) : cj_Con l D aC i7_init yX7_init [.int a1] h0 (.inr (6, [.null, .int 0])) 1 N (fun w1 => ∃ (q1 : Nat), w1 = ((h0, .inr (6, [.ref q1, .int 0])) :: ((q1, .inl (aC 0, (N, .inl (fun _ => 0)))) :: []))) := by
  refine cj_con_of pn_X7 rfl rfl (Nat.le_of_ble_eq_true rfl) rfl (fun F hq => ?_)
  refine j_aload_n 0 rfl d7_init_0 ?_
  refine cj_obj (ob_X7_3) ob_i ob_c (Nat.le_of_ble_eq_true rfl) (Nat.le_of_ble_eq_true rfl) (Nat.le_of_ble_eq_true rfl) d7_init_1 ?_
  refine j_aload_n 0 rfl d7_init_4 ?_
  refine j_iload_n 1 rfl d7_init_5 ?_
  refine j_iconst d7_init_6 ejc_0 ?_
  refine j_mmax ma_X7_9 ma_st_mmax ma_in ma_co_mmax ⟨Nat.le_of_ble_eq_true rfl, Nat.le_of_ble_eq_true rfl⟩ (Nat.le_of_ble_eq_true rfl) d7_init_7 ?_
  refine cj_newa (atype := .byte) (t0 := 0) (N := N) (z := (N, .inl (fun _ => 0))) hq ar_byte rfl rfl (fun _ _ => rfl) (fun _ => rfl) ha hN (by show N * 1 ≤ 536870912; omega) (by omega) (by omega) d7_init_10 (fun q1 => ?_)
  refine cj_norm (ws' := ((h0, .inr (6, [.null, .int 0])) :: ((q1, .inl (aC 0, (N, .inl (fun _ => 0)))) :: []))) (by simp only [List.cons_append, List.append_assoc, List.nil_append, List.append_nil]) ?_
  refine cj_putF (q0 := 0) (ws' := ((h0, .inr (6, [.ref q1, .int 0])) :: ((q1, .inl (aC 0, (N, .inl (fun _ => 0)))) :: []))) (cj_finup 1 N hq) fl_X7_15 rfl (Nat.le_of_ble_eq_true rfl) rfl rfl rfl dec_X7_0 d7_init_12 ?_
  exact cj_vret (cj_finup 1 N hq) ⟨q1, rfl⟩ (Nat.le_refl _) (by omega) d7_init_15

set_option maxRecDepth 40000 in
set_option maxHeartbeats 400000 in
theorem k1_init (l : Launch) (D : va_G) (aC : Nat → ClassId) (h0 : Nat)   : cj_Con l D aC i1_init yX1_init [] h0 (.inr (1, [.int 0, .int 0])) 0 0 (fun w1 => w1 = ((h0, .inr (1, [.int 0, .int 0])) :: [])) := by
  refine cj_con_of pn_X1 rfl rfl (Nat.le_of_ble_eq_true rfl) rfl (fun F hq => ?_)
  refine j_aload_n 0 rfl d1_init_0 ?_
  refine cj_obj (ob_X1_1) ob_i ob_c (Nat.le_of_ble_eq_true rfl) (Nat.le_of_ble_eq_true rfl) (Nat.le_of_ble_eq_true rfl) d1_init_1 ?_
  exact cj_vret hq rfl (Nat.le_of_ble_eq_true rfl) (Nat.le_of_ble_eq_true rfl) d1_init_4

set_option maxRecDepth 40000 in
set_option maxHeartbeats 400000 in
theorem k8_init (l : Launch) (D : va_G) (aC : Nat → ClassId) (h0 : Nat)   : cj_Con l D aC i8_init yX8_init [] h0 (.inr (7, [.null, .null, .null, .null, .null, .int 0])) 6 3006 (fun w1 => ∃ (q1 : Nat) (q2 : Nat) (q3 : Nat) (q4 : Nat) (q5 : Nat) (q6 : Nat), w1 = ((h0, .inr (7, [.ref q1, .ref q3, .ref q4, .ref q5, .ref q6, .int 0])) :: ((q1, .inr (6, [.ref q2, .int 0])) :: ((q2, .inl (aC 0, (600, .inl (fun _ => 0)))) :: ((q3, .inl (aC 1, (601, .inl (fun _ => 0)))) :: ((q4, .inl (aC 1, (601, .inl (fun _ => 0)))) :: ((q5, .inl (aC 1, (601, .inl (fun _ => 0)))) :: ((q6, .inl (aC 2, (601, .inr (.inl (fun _ => 0))))) :: [])))))))) := by
  refine cj_con_of pn_X8 rfl rfl (Nat.le_of_ble_eq_true rfl) rfl (fun F hq => ?_)
  refine j_aload_n 0 rfl d8_init_0 ?_
  refine cj_obj (ob_X8_3) ob_i ob_c (Nat.le_of_ble_eq_true rfl) (Nat.le_of_ble_eq_true rfl) (Nat.le_of_ble_eq_true rfl) d8_init_1 ?_
  refine j_aload_n 0 rfl d8_init_4 ?_
  refine cj_new hq cn_X8_9 (Nat.le_of_ble_eq_true rfl) (Nat.le_of_ble_eq_true rfl) d8_init_5 (fun q1 => ?_)
  refine cj_norm (ws' := ((h0, .inr (7, [.null, .null, .null, .null, .null, .int 0])) :: ((q1, .inr (6, [.null, .int 0])) :: []))) (by simp only [List.cons_append, List.append_assoc, List.nil_append, List.append_nil]) ?_
  refine j_dup d8_init_8 rfl ?_
  refine j_sipush d8_init_9 ejs_600 ?_
  refine cj_call (B := ((h0, .inr (7, [.null, .null, .null, .null, .null, .int 0])) :: [])) (fun l => k7_init l D aC q1 600 600 (by decide) (by decide) (by decide)) lc_X8_11 lc_X8_11_2 lc_X8_11_4 lc_X8_11_5 lc_X8_11_6 rfl ⟨Nat.le_of_ble_eq_true rfl, Nat.le_of_ble_eq_true rfl⟩ d8_init_12 rfl (Nat.le_of_ble_eq_true rfl) (cj_finup 1 2 hq) (Nat.le_of_ble_eq_true rfl) (Nat.le_of_ble_eq_true rfl) (by simp only [List.cons_append, List.append_assoc, List.nil_append, List.append_nil]) (fun w1 hw1 => ?_)
  obtain ⟨q2, rfl⟩ := hw1
  refine cj_norm (ws' := ((h0, .inr (7, [.null, .null, .null, .null, .null, .int 0])) :: ((q1, .inr (6, [.ref q2, .int 0])) :: ((q2, .inl (aC 0, (600, .inl (fun _ => 0)))) :: [])))) (by simp only [List.cons_append, List.append_assoc, List.nil_append, List.append_nil]) ?_
  refine cj_putF (q0 := 0) (ws' := ((h0, .inr (7, [.ref q1, .null, .null, .null, .null, .int 0])) :: ((q1, .inr (6, [.ref q2, .int 0])) :: ((q2, .inl (aC 0, (600, .inl (fun _ => 0)))) :: [])))) (cj_finup 1 600 (cj_finup 1 2 hq)) fl_X8_14 rfl (Nat.le_of_ble_eq_true rfl) rfl rfl rfl dec_X8_0 d8_init_15 ?_
  refine j_aload_n 0 rfl d8_init_18 ?_
  refine j_sipush d8_init_19 ejs_601 ?_
  refine cj_newa (atype := .int) (t0 := 1) (N := 601) (z := (601, .inl (fun _ => 0))) (cj_finup 1 600 (cj_finup 1 2 hq)) ar_int rfl rfl (fun _ _ => rfl) (fun _ => rfl) (by decide) (by decide) (by decide) (Nat.le_of_ble_eq_true rfl) (Nat.le_of_ble_eq_true rfl) d8_init_22 (fun q3 => ?_)
  refine cj_norm (ws' := ((h0, .inr (7, [.ref q1, .null, .null, .null, .null, .int 0])) :: ((q1, .inr (6, [.ref q2, .int 0])) :: ((q2, .inl (aC 0, (600, .inl (fun _ => 0)))) :: ((q3, .inl (aC 1, (601, .inl (fun _ => 0)))) :: []))))) (by simp only [List.cons_append, List.append_assoc, List.nil_append, List.append_nil]) ?_
  refine cj_putF (q0 := 0) (ws' := ((h0, .inr (7, [.ref q1, .ref q3, .null, .null, .null, .int 0])) :: ((q1, .inr (6, [.ref q2, .int 0])) :: ((q2, .inl (aC 0, (600, .inl (fun _ => 0)))) :: ((q3, .inl (aC 1, (601, .inl (fun _ => 0)))) :: []))))) (cj_finup 1 601 (cj_finup 1 600 (cj_finup 1 2 hq))) fl_X8_20 rfl (Nat.le_of_ble_eq_true rfl) rfl rfl rfl dec_X8_1 d8_init_24 ?_
  refine j_aload_n 0 rfl d8_init_27 ?_
  refine j_sipush d8_init_28 ejs_601 ?_
  refine cj_newa (atype := .int) (t0 := 1) (N := 601) (z := (601, .inl (fun _ => 0))) (cj_finup 1 601 (cj_finup 1 600 (cj_finup 1 2 hq))) ar_int rfl rfl (fun _ _ => rfl) (fun _ => rfl) (by decide) (by decide) (by decide) (Nat.le_of_ble_eq_true rfl) (Nat.le_of_ble_eq_true rfl) d8_init_31 (fun q4 => ?_)
  refine cj_norm (ws' := ((h0, .inr (7, [.ref q1, .ref q3, .null, .null, .null, .int 0])) :: ((q1, .inr (6, [.ref q2, .int 0])) :: ((q2, .inl (aC 0, (600, .inl (fun _ => 0)))) :: ((q3, .inl (aC 1, (601, .inl (fun _ => 0)))) :: ((q4, .inl (aC 1, (601, .inl (fun _ => 0)))) :: [])))))) (by simp only [List.cons_append, List.append_assoc, List.nil_append, List.append_nil]) ?_
  refine cj_putF (q0 := 0) (ws' := ((h0, .inr (7, [.ref q1, .ref q3, .ref q4, .null, .null, .int 0])) :: ((q1, .inr (6, [.ref q2, .int 0])) :: ((q2, .inl (aC 0, (600, .inl (fun _ => 0)))) :: ((q3, .inl (aC 1, (601, .inl (fun _ => 0)))) :: ((q4, .inl (aC 1, (601, .inl (fun _ => 0)))) :: [])))))) (cj_finup 1 601 (cj_finup 1 601 (cj_finup 1 600 (cj_finup 1 2 hq)))) fl_X8_24 rfl (Nat.le_of_ble_eq_true rfl) rfl rfl rfl dec_X8_2 d8_init_33 ?_
  refine j_aload_n 0 rfl d8_init_36 ?_
  refine j_sipush d8_init_37 ejs_601 ?_
  refine cj_newa (atype := .int) (t0 := 1) (N := 601) (z := (601, .inl (fun _ => 0))) (cj_finup 1 601 (cj_finup 1 601 (cj_finup 1 600 (cj_finup 1 2 hq)))) ar_int rfl rfl (fun _ _ => rfl) (fun _ => rfl) (by decide) (by decide) (by decide) (Nat.le_of_ble_eq_true rfl) (Nat.le_of_ble_eq_true rfl) d8_init_40 (fun q5 => ?_)
  refine cj_norm (ws' := ((h0, .inr (7, [.ref q1, .ref q3, .ref q4, .null, .null, .int 0])) :: ((q1, .inr (6, [.ref q2, .int 0])) :: ((q2, .inl (aC 0, (600, .inl (fun _ => 0)))) :: ((q3, .inl (aC 1, (601, .inl (fun _ => 0)))) :: ((q4, .inl (aC 1, (601, .inl (fun _ => 0)))) :: ((q5, .inl (aC 1, (601, .inl (fun _ => 0)))) :: []))))))) (by simp only [List.cons_append, List.append_assoc, List.nil_append, List.append_nil]) ?_
  refine cj_putF (q0 := 0) (ws' := ((h0, .inr (7, [.ref q1, .ref q3, .ref q4, .ref q5, .null, .int 0])) :: ((q1, .inr (6, [.ref q2, .int 0])) :: ((q2, .inl (aC 0, (600, .inl (fun _ => 0)))) :: ((q3, .inl (aC 1, (601, .inl (fun _ => 0)))) :: ((q4, .inl (aC 1, (601, .inl (fun _ => 0)))) :: ((q5, .inl (aC 1, (601, .inl (fun _ => 0)))) :: []))))))) (cj_finup 1 601 (cj_finup 1 601 (cj_finup 1 601 (cj_finup 1 600 (cj_finup 1 2 hq))))) fl_X8_27 rfl (Nat.le_of_ble_eq_true rfl) rfl rfl rfl dec_X8_3 d8_init_42 ?_
  refine j_aload_n 0 rfl d8_init_45 ?_
  refine j_sipush d8_init_46 ejs_601 ?_
  refine cj_newa (atype := .long) (t0 := 2) (N := 601) (z := (601, .inr (.inl (fun _ => 0)))) (cj_finup 1 601 (cj_finup 1 601 (cj_finup 1 601 (cj_finup 1 600 (cj_finup 1 2 hq))))) ar_long rfl rfl (fun _ _ => rfl) (fun _ => rfl) (by decide) (by decide) (by decide) (Nat.le_of_ble_eq_true rfl) (Nat.le_of_ble_eq_true rfl) d8_init_49 (fun q6 => ?_)
  refine cj_norm (ws' := ((h0, .inr (7, [.ref q1, .ref q3, .ref q4, .ref q5, .null, .int 0])) :: ((q1, .inr (6, [.ref q2, .int 0])) :: ((q2, .inl (aC 0, (600, .inl (fun _ => 0)))) :: ((q3, .inl (aC 1, (601, .inl (fun _ => 0)))) :: ((q4, .inl (aC 1, (601, .inl (fun _ => 0)))) :: ((q5, .inl (aC 1, (601, .inl (fun _ => 0)))) :: ((q6, .inl (aC 2, (601, .inr (.inl (fun _ => 0))))) :: [])))))))) (by simp only [List.cons_append, List.append_assoc, List.nil_append, List.append_nil]) ?_
  refine cj_putF (q0 := 0) (ws' := ((h0, .inr (7, [.ref q1, .ref q3, .ref q4, .ref q5, .ref q6, .int 0])) :: ((q1, .inr (6, [.ref q2, .int 0])) :: ((q2, .inl (aC 0, (600, .inl (fun _ => 0)))) :: ((q3, .inl (aC 1, (601, .inl (fun _ => 0)))) :: ((q4, .inl (aC 1, (601, .inl (fun _ => 0)))) :: ((q5, .inl (aC 1, (601, .inl (fun _ => 0)))) :: ((q6, .inl (aC 2, (601, .inr (.inl (fun _ => 0))))) :: [])))))))) (cj_finup 1 601 (cj_finup 1 601 (cj_finup 1 601 (cj_finup 1 601 (cj_finup 1 600 (cj_finup 1 2 hq)))))) fl_X8_30 rfl (Nat.le_of_ble_eq_true rfl) rfl rfl rfl dec_X8_4 d8_init_51 ?_
  exact cj_vret (cj_finup 1 601 (cj_finup 1 601 (cj_finup 1 601 (cj_finup 1 601 (cj_finup 1 600 (cj_finup 1 2 hq)))))) ⟨q1, q2, q3, q4, q5, q6, rfl⟩ (Nat.le_of_ble_eq_true rfl) (Nat.le_of_ble_eq_true rfl) d8_init_54

set_option maxRecDepth 40000 in
set_option maxHeartbeats 400000 in
theorem k6_init (l : Launch) (D : va_G) (aC : Nat → ClassId) (h0 : Nat) (p1 : Nat)  : cj_Con l D aC i6_init yX6_init [.ref p1] h0 (.inr (5, [.null, .int 0, .int 0, .int 0, .int 0, .int 0, .null, .null, .null, .null, .int 0, .int 0, .int 0, .int 0])) 4 2400 (fun w1 => ∃ (q1 : Nat) (q2 : Nat) (q3 : Nat) (q4 : Nat), w1 = ((h0, .inr (5, [.ref p1, .int 0, .int 0, .int 0, .int 0, .int 0, .ref q1, .ref q2, .ref q3, .ref q4, .int 0, .int 0, .int 0, .int 0])) :: ((q1, .inl (aC 1, (600, .inl (fun _ => 0)))) :: ((q2, .inl (aC 1, (600, .inl (fun _ => 0)))) :: ((q3, .inl (aC 1, (600, .inl (fun _ => 0)))) :: ((q4, .inl (aC 1, (600, .inl (fun _ => 0)))) :: [])))))) := by
  refine cj_con_of pn_X6 rfl rfl (Nat.le_of_ble_eq_true rfl) rfl (fun F hq => ?_)
  refine j_aload_n 0 rfl d6_init_0 ?_
  refine cj_obj (ob_X6_3) ob_i ob_c (Nat.le_of_ble_eq_true rfl) (Nat.le_of_ble_eq_true rfl) (Nat.le_of_ble_eq_true rfl) d6_init_1 ?_
  refine j_aload_n 0 rfl d6_init_4 ?_
  refine j_sipush d6_init_5 ejs_600 ?_
  refine cj_newa (atype := .int) (t0 := 1) (N := 600) (z := (600, .inl (fun _ => 0))) hq ar_int rfl rfl (fun _ _ => rfl) (fun _ => rfl) (by decide) (by decide) (by decide) (Nat.le_of_ble_eq_true rfl) (Nat.le_of_ble_eq_true rfl) d6_init_8 (fun q1 => ?_)
  refine cj_norm (ws' := ((h0, .inr (5, [.null, .int 0, .int 0, .int 0, .int 0, .int 0, .null, .null, .null, .null, .int 0, .int 0, .int 0, .int 0])) :: ((q1, .inl (aC 1, (600, .inl (fun _ => 0)))) :: []))) (by simp only [List.cons_append, List.append_assoc, List.nil_append, List.append_nil]) ?_
  refine cj_putF (q0 := 0) (ws' := ((h0, .inr (5, [.null, .int 0, .int 0, .int 0, .int 0, .int 0, .ref q1, .null, .null, .null, .int 0, .int 0, .int 0, .int 0])) :: ((q1, .inl (aC 1, (600, .inl (fun _ => 0)))) :: []))) (cj_finup 1 600 hq) fl_X6_9 rfl (Nat.le_of_ble_eq_true rfl) rfl rfl rfl dec_X6_6 d6_init_10 ?_
  refine j_aload_n 0 rfl d6_init_13 ?_
  refine j_sipush d6_init_14 ejs_600 ?_
  refine cj_newa (atype := .int) (t0 := 1) (N := 600) (z := (600, .inl (fun _ => 0))) (cj_finup 1 600 hq) ar_int rfl rfl (fun _ _ => rfl) (fun _ => rfl) (by decide) (by decide) (by decide) (Nat.le_of_ble_eq_true rfl) (Nat.le_of_ble_eq_true rfl) d6_init_17 (fun q2 => ?_)
  refine cj_norm (ws' := ((h0, .inr (5, [.null, .int 0, .int 0, .int 0, .int 0, .int 0, .ref q1, .null, .null, .null, .int 0, .int 0, .int 0, .int 0])) :: ((q1, .inl (aC 1, (600, .inl (fun _ => 0)))) :: ((q2, .inl (aC 1, (600, .inl (fun _ => 0)))) :: [])))) (by simp only [List.cons_append, List.append_assoc, List.nil_append, List.append_nil]) ?_
  refine cj_putF (q0 := 0) (ws' := ((h0, .inr (5, [.null, .int 0, .int 0, .int 0, .int 0, .int 0, .ref q1, .ref q2, .null, .null, .int 0, .int 0, .int 0, .int 0])) :: ((q1, .inl (aC 1, (600, .inl (fun _ => 0)))) :: ((q2, .inl (aC 1, (600, .inl (fun _ => 0)))) :: [])))) (cj_finup 1 600 (cj_finup 1 600 hq)) fl_X6_15 rfl (Nat.le_of_ble_eq_true rfl) rfl rfl rfl dec_X6_7 d6_init_19 ?_
  refine j_aload_n 0 rfl d6_init_22 ?_
  refine j_sipush d6_init_23 ejs_600 ?_
  refine cj_newa (atype := .int) (t0 := 1) (N := 600) (z := (600, .inl (fun _ => 0))) (cj_finup 1 600 (cj_finup 1 600 hq)) ar_int rfl rfl (fun _ _ => rfl) (fun _ => rfl) (by decide) (by decide) (by decide) (Nat.le_of_ble_eq_true rfl) (Nat.le_of_ble_eq_true rfl) d6_init_26 (fun q3 => ?_)
  refine cj_norm (ws' := ((h0, .inr (5, [.null, .int 0, .int 0, .int 0, .int 0, .int 0, .ref q1, .ref q2, .null, .null, .int 0, .int 0, .int 0, .int 0])) :: ((q1, .inl (aC 1, (600, .inl (fun _ => 0)))) :: ((q2, .inl (aC 1, (600, .inl (fun _ => 0)))) :: ((q3, .inl (aC 1, (600, .inl (fun _ => 0)))) :: []))))) (by simp only [List.cons_append, List.append_assoc, List.nil_append, List.append_nil]) ?_
  refine cj_putF (q0 := 0) (ws' := ((h0, .inr (5, [.null, .int 0, .int 0, .int 0, .int 0, .int 0, .ref q1, .ref q2, .ref q3, .null, .int 0, .int 0, .int 0, .int 0])) :: ((q1, .inl (aC 1, (600, .inl (fun _ => 0)))) :: ((q2, .inl (aC 1, (600, .inl (fun _ => 0)))) :: ((q3, .inl (aC 1, (600, .inl (fun _ => 0)))) :: []))))) (cj_finup 1 600 (cj_finup 1 600 (cj_finup 1 600 hq))) fl_X6_18 rfl (Nat.le_of_ble_eq_true rfl) rfl rfl rfl dec_X6_8 d6_init_28 ?_
  refine j_aload_n 0 rfl d6_init_31 ?_
  refine j_sipush d6_init_32 ejs_600 ?_
  refine cj_newa (atype := .int) (t0 := 1) (N := 600) (z := (600, .inl (fun _ => 0))) (cj_finup 1 600 (cj_finup 1 600 (cj_finup 1 600 hq))) ar_int rfl rfl (fun _ _ => rfl) (fun _ => rfl) (by decide) (by decide) (by decide) (Nat.le_of_ble_eq_true rfl) (Nat.le_of_ble_eq_true rfl) d6_init_35 (fun q4 => ?_)
  refine cj_norm (ws' := ((h0, .inr (5, [.null, .int 0, .int 0, .int 0, .int 0, .int 0, .ref q1, .ref q2, .ref q3, .null, .int 0, .int 0, .int 0, .int 0])) :: ((q1, .inl (aC 1, (600, .inl (fun _ => 0)))) :: ((q2, .inl (aC 1, (600, .inl (fun _ => 0)))) :: ((q3, .inl (aC 1, (600, .inl (fun _ => 0)))) :: ((q4, .inl (aC 1, (600, .inl (fun _ => 0)))) :: [])))))) (by simp only [List.cons_append, List.append_assoc, List.nil_append, List.append_nil]) ?_
  refine cj_putF (q0 := 0) (ws' := ((h0, .inr (5, [.null, .int 0, .int 0, .int 0, .int 0, .int 0, .ref q1, .ref q2, .ref q3, .ref q4, .int 0, .int 0, .int 0, .int 0])) :: ((q1, .inl (aC 1, (600, .inl (fun _ => 0)))) :: ((q2, .inl (aC 1, (600, .inl (fun _ => 0)))) :: ((q3, .inl (aC 1, (600, .inl (fun _ => 0)))) :: ((q4, .inl (aC 1, (600, .inl (fun _ => 0)))) :: [])))))) (cj_finup 1 600 (cj_finup 1 600 (cj_finup 1 600 (cj_finup 1 600 hq)))) fl_X6_21 rfl (Nat.le_of_ble_eq_true rfl) rfl rfl rfl dec_X6_9 d6_init_37 ?_
  refine j_aload_n 0 rfl d6_init_40 ?_
  refine j_aload_n 1 rfl d6_init_41 ?_
  refine cj_putF (q0 := 0) (ws' := ((h0, .inr (5, [.ref p1, .int 0, .int 0, .int 0, .int 0, .int 0, .ref q1, .ref q2, .ref q3, .ref q4, .int 0, .int 0, .int 0, .int 0])) :: ((q1, .inl (aC 1, (600, .inl (fun _ => 0)))) :: ((q2, .inl (aC 1, (600, .inl (fun _ => 0)))) :: ((q3, .inl (aC 1, (600, .inl (fun _ => 0)))) :: ((q4, .inl (aC 1, (600, .inl (fun _ => 0)))) :: [])))))) (cj_finup 1 600 (cj_finup 1 600 (cj_finup 1 600 (cj_finup 1 600 hq)))) fl_X6_24 rfl (Nat.le_of_ble_eq_true rfl) rfl rfl rfl dec_X6_0 d6_init_42 ?_
  exact cj_vret (cj_finup 1 600 (cj_finup 1 600 (cj_finup 1 600 (cj_finup 1 600 hq)))) ⟨q1, q2, q3, q4, rfl⟩ (Nat.le_of_ble_eq_true rfl) (Nat.le_of_ble_eq_true rfl) d6_init_45

set_option maxRecDepth 40000 in
set_option maxHeartbeats 400000 in
theorem k0_init (l : Launch) (D : va_G) (aC : Nat → ClassId) (h0 : Nat)   : cj_Con l D aC i0_init yX0_init [] h0 (.inr (0, [.int 0, .int 0, .null, .null, .int 0, .int 0, .int 0, .int 0, .int 0, .null, .null, .null, .null, .null, .null, .null])) 57 1368 (fun w1 => ∃ (q1 : Nat) (q2 : Nat) (q3 : Nat) (q4 : Nat) (q5 : Nat) (q6 : Nat) (q7 : Nat) (q8 : Nat) (r9 : Nat → Nat) (q10 : Nat) (r11 : Nat → Nat), w1 = ((h0, .inr (0, [.int 0, .int 0, .ref q1, .ref q2, .int 0, .int 0, .int 0, .int 0, .int 0, .ref q3, .ref q4, .ref q5, .ref q6, .ref q7, .ref q8, .ref q10])) :: ((q1, .inl (aC 2, (24, .inr (.inl (fun _ => 0))))) :: ((q2, .inl (aC 1, (24, .inl (fun _ => 0)))) :: ((q3, .inl (aC 1, (24, .inl (fun _ => 0)))) :: ((q4, .inl (aC 1, (24, .inl (fun _ => 0)))) :: ((q5, .inl (aC 1, (24, .inl (fun _ => 0)))) :: ((q6, .inl (aC 1, (24, .inl (fun _ => 0)))) :: ((q7, .inl (aC 1, (24, .inl (fun _ => 0)))) :: ((q8, .inl (aC 5, 24, .inr (.inr (.inr (.inr (fun i => if i < 24 then some (r9 i) else none)))))) :: ((List.range 24).map (fun i => (r9 i, .inl (aC 1, 24, .inl (fun _ => 0)))) ++ ((q10, .inl (aC 5, 24, .inr (.inr (.inr (.inr (fun i => if i < 24 then some (r11 i) else none)))))) :: ((List.range 24).map (fun i => (r11 i, .inl (aC 1, 24, .inl (fun _ => 0)))) ++ []))))))))))))) := by
  refine cj_con_of pn_X0 rfl rfl (Nat.le_of_ble_eq_true rfl) rfl (fun F hq => ?_)
  refine j_aload_n 0 rfl d0_init_0 ?_
  refine cj_obj (ob_X0_3) ob_i ob_c (Nat.le_of_ble_eq_true rfl) (Nat.le_of_ble_eq_true rfl) (Nat.le_of_ble_eq_true rfl) d0_init_1 ?_
  refine j_aload_n 0 rfl d0_init_4 ?_
  refine j_bipush d0_init_5 ejb_24 ?_
  refine cj_newa (atype := .long) (t0 := 2) (N := 24) (z := (24, .inr (.inl (fun _ => 0)))) hq ar_long rfl rfl (fun _ _ => rfl) (fun _ => rfl) (by decide) (by decide) (by decide) (Nat.le_of_ble_eq_true rfl) (Nat.le_of_ble_eq_true rfl) d0_init_7 (fun q1 => ?_)
  refine cj_norm (ws' := ((h0, .inr (0, [.int 0, .int 0, .null, .null, .int 0, .int 0, .int 0, .int 0, .int 0, .null, .null, .null, .null, .null, .null, .null])) :: ((q1, .inl (aC 2, (24, .inr (.inl (fun _ => 0))))) :: []))) (by simp only [List.cons_append, List.append_assoc, List.nil_append, List.append_nil]) ?_
  refine cj_putF (q0 := 0) (ws' := ((h0, .inr (0, [.int 0, .int 0, .ref q1, .null, .int 0, .int 0, .int 0, .int 0, .int 0, .null, .null, .null, .null, .null, .null, .null])) :: ((q1, .inl (aC 2, (24, .inr (.inl (fun _ => 0))))) :: []))) (cj_finup 1 24 hq) fl_X0_9 rfl (Nat.le_of_ble_eq_true rfl) rfl rfl rfl dec_X0_2 d0_init_9 ?_
  refine j_aload_n 0 rfl d0_init_12 ?_
  refine j_bipush d0_init_13 ejb_24 ?_
  refine cj_newa (atype := .int) (t0 := 1) (N := 24) (z := (24, .inl (fun _ => 0))) (cj_finup 1 24 hq) ar_int rfl rfl (fun _ _ => rfl) (fun _ => rfl) (by decide) (by decide) (by decide) (Nat.le_of_ble_eq_true rfl) (Nat.le_of_ble_eq_true rfl) d0_init_15 (fun q2 => ?_)
  refine cj_norm (ws' := ((h0, .inr (0, [.int 0, .int 0, .ref q1, .null, .int 0, .int 0, .int 0, .int 0, .int 0, .null, .null, .null, .null, .null, .null, .null])) :: ((q1, .inl (aC 2, (24, .inr (.inl (fun _ => 0))))) :: ((q2, .inl (aC 1, (24, .inl (fun _ => 0)))) :: [])))) (by simp only [List.cons_append, List.append_assoc, List.nil_append, List.append_nil]) ?_
  refine cj_putF (q0 := 0) (ws' := ((h0, .inr (0, [.int 0, .int 0, .ref q1, .ref q2, .int 0, .int 0, .int 0, .int 0, .int 0, .null, .null, .null, .null, .null, .null, .null])) :: ((q1, .inl (aC 2, (24, .inr (.inl (fun _ => 0))))) :: ((q2, .inl (aC 1, (24, .inl (fun _ => 0)))) :: [])))) (cj_finup 1 24 (cj_finup 1 24 hq)) fl_X0_15 rfl (Nat.le_of_ble_eq_true rfl) rfl rfl rfl dec_X0_3 d0_init_17 ?_
  refine j_aload_n 0 rfl d0_init_20 ?_
  refine j_bipush d0_init_21 ejb_24 ?_
  refine cj_newa (atype := .int) (t0 := 1) (N := 24) (z := (24, .inl (fun _ => 0))) (cj_finup 1 24 (cj_finup 1 24 hq)) ar_int rfl rfl (fun _ _ => rfl) (fun _ => rfl) (by decide) (by decide) (by decide) (Nat.le_of_ble_eq_true rfl) (Nat.le_of_ble_eq_true rfl) d0_init_23 (fun q3 => ?_)
  refine cj_norm (ws' := ((h0, .inr (0, [.int 0, .int 0, .ref q1, .ref q2, .int 0, .int 0, .int 0, .int 0, .int 0, .null, .null, .null, .null, .null, .null, .null])) :: ((q1, .inl (aC 2, (24, .inr (.inl (fun _ => 0))))) :: ((q2, .inl (aC 1, (24, .inl (fun _ => 0)))) :: ((q3, .inl (aC 1, (24, .inl (fun _ => 0)))) :: []))))) (by simp only [List.cons_append, List.append_assoc, List.nil_append, List.append_nil]) ?_
  refine cj_putF (q0 := 0) (ws' := ((h0, .inr (0, [.int 0, .int 0, .ref q1, .ref q2, .int 0, .int 0, .int 0, .int 0, .int 0, .ref q3, .null, .null, .null, .null, .null, .null])) :: ((q1, .inl (aC 2, (24, .inr (.inl (fun _ => 0))))) :: ((q2, .inl (aC 1, (24, .inl (fun _ => 0)))) :: ((q3, .inl (aC 1, (24, .inl (fun _ => 0)))) :: []))))) (cj_finup 1 24 (cj_finup 1 24 (cj_finup 1 24 hq))) fl_X0_19 rfl (Nat.le_of_ble_eq_true rfl) rfl rfl rfl dec_X0_9 d0_init_25 ?_
  refine j_aload_n 0 rfl d0_init_28 ?_
  refine j_bipush d0_init_29 ejb_24 ?_
  refine cj_newa (atype := .int) (t0 := 1) (N := 24) (z := (24, .inl (fun _ => 0))) (cj_finup 1 24 (cj_finup 1 24 (cj_finup 1 24 hq))) ar_int rfl rfl (fun _ _ => rfl) (fun _ => rfl) (by decide) (by decide) (by decide) (Nat.le_of_ble_eq_true rfl) (Nat.le_of_ble_eq_true rfl) d0_init_31 (fun q4 => ?_)
  refine cj_norm (ws' := ((h0, .inr (0, [.int 0, .int 0, .ref q1, .ref q2, .int 0, .int 0, .int 0, .int 0, .int 0, .ref q3, .null, .null, .null, .null, .null, .null])) :: ((q1, .inl (aC 2, (24, .inr (.inl (fun _ => 0))))) :: ((q2, .inl (aC 1, (24, .inl (fun _ => 0)))) :: ((q3, .inl (aC 1, (24, .inl (fun _ => 0)))) :: ((q4, .inl (aC 1, (24, .inl (fun _ => 0)))) :: [])))))) (by simp only [List.cons_append, List.append_assoc, List.nil_append, List.append_nil]) ?_
  refine cj_putF (q0 := 0) (ws' := ((h0, .inr (0, [.int 0, .int 0, .ref q1, .ref q2, .int 0, .int 0, .int 0, .int 0, .int 0, .ref q3, .ref q4, .null, .null, .null, .null, .null])) :: ((q1, .inl (aC 2, (24, .inr (.inl (fun _ => 0))))) :: ((q2, .inl (aC 1, (24, .inl (fun _ => 0)))) :: ((q3, .inl (aC 1, (24, .inl (fun _ => 0)))) :: ((q4, .inl (aC 1, (24, .inl (fun _ => 0)))) :: [])))))) (cj_finup 1 24 (cj_finup 1 24 (cj_finup 1 24 (cj_finup 1 24 hq)))) fl_X0_22 rfl (Nat.le_of_ble_eq_true rfl) rfl rfl rfl dec_X0_10 d0_init_33 ?_
  refine j_aload_n 0 rfl d0_init_36 ?_
  refine j_bipush d0_init_37 ejb_24 ?_
  refine cj_newa (atype := .int) (t0 := 1) (N := 24) (z := (24, .inl (fun _ => 0))) (cj_finup 1 24 (cj_finup 1 24 (cj_finup 1 24 (cj_finup 1 24 hq)))) ar_int rfl rfl (fun _ _ => rfl) (fun _ => rfl) (by decide) (by decide) (by decide) (Nat.le_of_ble_eq_true rfl) (Nat.le_of_ble_eq_true rfl) d0_init_39 (fun q5 => ?_)
  refine cj_norm (ws' := ((h0, .inr (0, [.int 0, .int 0, .ref q1, .ref q2, .int 0, .int 0, .int 0, .int 0, .int 0, .ref q3, .ref q4, .null, .null, .null, .null, .null])) :: ((q1, .inl (aC 2, (24, .inr (.inl (fun _ => 0))))) :: ((q2, .inl (aC 1, (24, .inl (fun _ => 0)))) :: ((q3, .inl (aC 1, (24, .inl (fun _ => 0)))) :: ((q4, .inl (aC 1, (24, .inl (fun _ => 0)))) :: ((q5, .inl (aC 1, (24, .inl (fun _ => 0)))) :: []))))))) (by simp only [List.cons_append, List.append_assoc, List.nil_append, List.append_nil]) ?_
  refine cj_putF (q0 := 0) (ws' := ((h0, .inr (0, [.int 0, .int 0, .ref q1, .ref q2, .int 0, .int 0, .int 0, .int 0, .int 0, .ref q3, .ref q4, .ref q5, .null, .null, .null, .null])) :: ((q1, .inl (aC 2, (24, .inr (.inl (fun _ => 0))))) :: ((q2, .inl (aC 1, (24, .inl (fun _ => 0)))) :: ((q3, .inl (aC 1, (24, .inl (fun _ => 0)))) :: ((q4, .inl (aC 1, (24, .inl (fun _ => 0)))) :: ((q5, .inl (aC 1, (24, .inl (fun _ => 0)))) :: []))))))) (cj_finup 1 24 (cj_finup 1 24 (cj_finup 1 24 (cj_finup 1 24 (cj_finup 1 24 hq))))) fl_X0_25 rfl (Nat.le_of_ble_eq_true rfl) rfl rfl rfl dec_X0_11 d0_init_41 ?_
  refine j_aload_n 0 rfl d0_init_44 ?_
  refine j_bipush d0_init_45 ejb_24 ?_
  refine cj_newa (atype := .int) (t0 := 1) (N := 24) (z := (24, .inl (fun _ => 0))) (cj_finup 1 24 (cj_finup 1 24 (cj_finup 1 24 (cj_finup 1 24 (cj_finup 1 24 hq))))) ar_int rfl rfl (fun _ _ => rfl) (fun _ => rfl) (by decide) (by decide) (by decide) (Nat.le_of_ble_eq_true rfl) (Nat.le_of_ble_eq_true rfl) d0_init_47 (fun q6 => ?_)
  refine cj_norm (ws' := ((h0, .inr (0, [.int 0, .int 0, .ref q1, .ref q2, .int 0, .int 0, .int 0, .int 0, .int 0, .ref q3, .ref q4, .ref q5, .null, .null, .null, .null])) :: ((q1, .inl (aC 2, (24, .inr (.inl (fun _ => 0))))) :: ((q2, .inl (aC 1, (24, .inl (fun _ => 0)))) :: ((q3, .inl (aC 1, (24, .inl (fun _ => 0)))) :: ((q4, .inl (aC 1, (24, .inl (fun _ => 0)))) :: ((q5, .inl (aC 1, (24, .inl (fun _ => 0)))) :: ((q6, .inl (aC 1, (24, .inl (fun _ => 0)))) :: [])))))))) (by simp only [List.cons_append, List.append_assoc, List.nil_append, List.append_nil]) ?_
  refine cj_putF (q0 := 0) (ws' := ((h0, .inr (0, [.int 0, .int 0, .ref q1, .ref q2, .int 0, .int 0, .int 0, .int 0, .int 0, .ref q3, .ref q4, .ref q5, .ref q6, .null, .null, .null])) :: ((q1, .inl (aC 2, (24, .inr (.inl (fun _ => 0))))) :: ((q2, .inl (aC 1, (24, .inl (fun _ => 0)))) :: ((q3, .inl (aC 1, (24, .inl (fun _ => 0)))) :: ((q4, .inl (aC 1, (24, .inl (fun _ => 0)))) :: ((q5, .inl (aC 1, (24, .inl (fun _ => 0)))) :: ((q6, .inl (aC 1, (24, .inl (fun _ => 0)))) :: [])))))))) (cj_finup 1 24 (cj_finup 1 24 (cj_finup 1 24 (cj_finup 1 24 (cj_finup 1 24 (cj_finup 1 24 hq)))))) fl_X0_28 rfl (Nat.le_of_ble_eq_true rfl) rfl rfl rfl dec_X0_12 d0_init_49 ?_
  refine j_aload_n 0 rfl d0_init_52 ?_
  refine j_bipush d0_init_53 ejb_24 ?_
  refine cj_newa (atype := .int) (t0 := 1) (N := 24) (z := (24, .inl (fun _ => 0))) (cj_finup 1 24 (cj_finup 1 24 (cj_finup 1 24 (cj_finup 1 24 (cj_finup 1 24 (cj_finup 1 24 hq)))))) ar_int rfl rfl (fun _ _ => rfl) (fun _ => rfl) (by decide) (by decide) (by decide) (Nat.le_of_ble_eq_true rfl) (Nat.le_of_ble_eq_true rfl) d0_init_55 (fun q7 => ?_)
  refine cj_norm (ws' := ((h0, .inr (0, [.int 0, .int 0, .ref q1, .ref q2, .int 0, .int 0, .int 0, .int 0, .int 0, .ref q3, .ref q4, .ref q5, .ref q6, .null, .null, .null])) :: ((q1, .inl (aC 2, (24, .inr (.inl (fun _ => 0))))) :: ((q2, .inl (aC 1, (24, .inl (fun _ => 0)))) :: ((q3, .inl (aC 1, (24, .inl (fun _ => 0)))) :: ((q4, .inl (aC 1, (24, .inl (fun _ => 0)))) :: ((q5, .inl (aC 1, (24, .inl (fun _ => 0)))) :: ((q6, .inl (aC 1, (24, .inl (fun _ => 0)))) :: ((q7, .inl (aC 1, (24, .inl (fun _ => 0)))) :: []))))))))) (by simp only [List.cons_append, List.append_assoc, List.nil_append, List.append_nil]) ?_
  refine cj_putF (q0 := 0) (ws' := ((h0, .inr (0, [.int 0, .int 0, .ref q1, .ref q2, .int 0, .int 0, .int 0, .int 0, .int 0, .ref q3, .ref q4, .ref q5, .ref q6, .ref q7, .null, .null])) :: ((q1, .inl (aC 2, (24, .inr (.inl (fun _ => 0))))) :: ((q2, .inl (aC 1, (24, .inl (fun _ => 0)))) :: ((q3, .inl (aC 1, (24, .inl (fun _ => 0)))) :: ((q4, .inl (aC 1, (24, .inl (fun _ => 0)))) :: ((q5, .inl (aC 1, (24, .inl (fun _ => 0)))) :: ((q6, .inl (aC 1, (24, .inl (fun _ => 0)))) :: ((q7, .inl (aC 1, (24, .inl (fun _ => 0)))) :: []))))))))) (cj_finup 1 24 (cj_finup 1 24 (cj_finup 1 24 (cj_finup 1 24 (cj_finup 1 24 (cj_finup 1 24 (cj_finup 1 24 hq))))))) fl_X0_31 rfl (Nat.le_of_ble_eq_true rfl) rfl rfl rfl dec_X0_13 d0_init_57 ?_
  refine j_aload_n 0 rfl d0_init_60 ?_
  refine j_bipush d0_init_61 ejb_24 ?_
  refine j_bipush d0_init_63 ejb_24 ?_
  refine cj_mna (cj_finup 1 24 (cj_finup 1 24 (cj_finup 1 24 (cj_finup 1 24 (cj_finup 1 24 (cj_finup 1 24 (cj_finup 1 24 hq))))))) cla_X0_34 ar_int (Nat.le_of_ble_eq_true rfl) (Nat.le_of_ble_eq_true rfl) d0_init_65 (fun q8 r9 => ?_)
  refine cj_norm (ws' := ((h0, .inr (0, [.int 0, .int 0, .ref q1, .ref q2, .int 0, .int 0, .int 0, .int 0, .int 0, .ref q3, .ref q4, .ref q5, .ref q6, .ref q7, .null, .null])) :: ((q1, .inl (aC 2, (24, .inr (.inl (fun _ => 0))))) :: ((q2, .inl (aC 1, (24, .inl (fun _ => 0)))) :: ((q3, .inl (aC 1, (24, .inl (fun _ => 0)))) :: ((q4, .inl (aC 1, (24, .inl (fun _ => 0)))) :: ((q5, .inl (aC 1, (24, .inl (fun _ => 0)))) :: ((q6, .inl (aC 1, (24, .inl (fun _ => 0)))) :: ((q7, .inl (aC 1, (24, .inl (fun _ => 0)))) :: ((q8, .inl (aC 5, 24, .inr (.inr (.inr (.inr (fun i => if i < 24 then some (r9 i) else none)))))) :: ((List.range 24).map (fun i => (r9 i, .inl (aC 1, 24, .inl (fun _ => 0)))) ++ []))))))))))) (by simp only [List.cons_append, List.append_assoc, List.nil_append, List.append_nil]) ?_
  refine cj_putF (q0 := 0) (ws' := ((h0, .inr (0, [.int 0, .int 0, .ref q1, .ref q2, .int 0, .int 0, .int 0, .int 0, .int 0, .ref q3, .ref q4, .ref q5, .ref q6, .ref q7, .ref q8, .null])) :: ((q1, .inl (aC 2, (24, .inr (.inl (fun _ => 0))))) :: ((q2, .inl (aC 1, (24, .inl (fun _ => 0)))) :: ((q3, .inl (aC 1, (24, .inl (fun _ => 0)))) :: ((q4, .inl (aC 1, (24, .inl (fun _ => 0)))) :: ((q5, .inl (aC 1, (24, .inl (fun _ => 0)))) :: ((q6, .inl (aC 1, (24, .inl (fun _ => 0)))) :: ((q7, .inl (aC 1, (24, .inl (fun _ => 0)))) :: ((q8, .inl (aC 5, 24, .inr (.inr (.inr (.inr (fun i => if i < 24 then some (r9 i) else none)))))) :: ((List.range 24).map (fun i => (r9 i, .inl (aC 1, 24, .inl (fun _ => 0)))) ++ []))))))))))) (cj_finup 25 600 (cj_finup 1 24 (cj_finup 1 24 (cj_finup 1 24 (cj_finup 1 24 (cj_finup 1 24 (cj_finup 1 24 (cj_finup 1 24 hq)))))))) fl_X0_36 rfl (Nat.le_of_ble_eq_true rfl) rfl rfl rfl dec_X0_14 d0_init_69 ?_
  refine j_aload_n 0 rfl d0_init_72 ?_
  refine j_bipush d0_init_73 ejb_24 ?_
  refine j_bipush d0_init_75 ejb_24 ?_
  refine cj_mna (cj_finup 25 600 (cj_finup 1 24 (cj_finup 1 24 (cj_finup 1 24 (cj_finup 1 24 (cj_finup 1 24 (cj_finup 1 24 (cj_finup 1 24 hq)))))))) cla_X0_34 ar_int (Nat.le_of_ble_eq_true rfl) (Nat.le_of_ble_eq_true rfl) d0_init_77 (fun q10 r11 => ?_)
  refine cj_norm (ws' := ((h0, .inr (0, [.int 0, .int 0, .ref q1, .ref q2, .int 0, .int 0, .int 0, .int 0, .int 0, .ref q3, .ref q4, .ref q5, .ref q6, .ref q7, .ref q8, .null])) :: ((q1, .inl (aC 2, (24, .inr (.inl (fun _ => 0))))) :: ((q2, .inl (aC 1, (24, .inl (fun _ => 0)))) :: ((q3, .inl (aC 1, (24, .inl (fun _ => 0)))) :: ((q4, .inl (aC 1, (24, .inl (fun _ => 0)))) :: ((q5, .inl (aC 1, (24, .inl (fun _ => 0)))) :: ((q6, .inl (aC 1, (24, .inl (fun _ => 0)))) :: ((q7, .inl (aC 1, (24, .inl (fun _ => 0)))) :: ((q8, .inl (aC 5, 24, .inr (.inr (.inr (.inr (fun i => if i < 24 then some (r9 i) else none)))))) :: ((List.range 24).map (fun i => (r9 i, .inl (aC 1, 24, .inl (fun _ => 0)))) ++ ((q10, .inl (aC 5, 24, .inr (.inr (.inr (.inr (fun i => if i < 24 then some (r11 i) else none)))))) :: ((List.range 24).map (fun i => (r11 i, .inl (aC 1, 24, .inl (fun _ => 0)))) ++ []))))))))))))) (by simp only [List.cons_append, List.append_assoc, List.nil_append, List.append_nil]) ?_
  refine cj_putF (q0 := 0) (ws' := ((h0, .inr (0, [.int 0, .int 0, .ref q1, .ref q2, .int 0, .int 0, .int 0, .int 0, .int 0, .ref q3, .ref q4, .ref q5, .ref q6, .ref q7, .ref q8, .ref q10])) :: ((q1, .inl (aC 2, (24, .inr (.inl (fun _ => 0))))) :: ((q2, .inl (aC 1, (24, .inl (fun _ => 0)))) :: ((q3, .inl (aC 1, (24, .inl (fun _ => 0)))) :: ((q4, .inl (aC 1, (24, .inl (fun _ => 0)))) :: ((q5, .inl (aC 1, (24, .inl (fun _ => 0)))) :: ((q6, .inl (aC 1, (24, .inl (fun _ => 0)))) :: ((q7, .inl (aC 1, (24, .inl (fun _ => 0)))) :: ((q8, .inl (aC 5, 24, .inr (.inr (.inr (.inr (fun i => if i < 24 then some (r9 i) else none)))))) :: ((List.range 24).map (fun i => (r9 i, .inl (aC 1, 24, .inl (fun _ => 0)))) ++ ((q10, .inl (aC 5, 24, .inr (.inr (.inr (.inr (fun i => if i < 24 then some (r11 i) else none)))))) :: ((List.range 24).map (fun i => (r11 i, .inl (aC 1, 24, .inl (fun _ => 0)))) ++ []))))))))))))) (cj_finup 25 600 (cj_finup 25 600 (cj_finup 1 24 (cj_finup 1 24 (cj_finup 1 24 (cj_finup 1 24 (cj_finup 1 24 (cj_finup 1 24 (cj_finup 1 24 hq))))))))) fl_X0_39 rfl (Nat.le_of_ble_eq_true rfl) rfl rfl rfl dec_X0_15 d0_init_81 ?_
  exact cj_vret (cj_finup 25 600 (cj_finup 25 600 (cj_finup 1 24 (cj_finup 1 24 (cj_finup 1 24 (cj_finup 1 24 (cj_finup 1 24 (cj_finup 1 24 (cj_finup 1 24 hq))))))))) ⟨q1, q2, q3, q4, q5, q6, q7, q8, r9, q10, r11, rfl⟩ (Nat.le_of_ble_eq_true rfl) (Nat.le_of_ble_eq_true rfl) d0_init_84

set_option maxRecDepth 40000 in
set_option maxHeartbeats 400000 in
theorem k4_init (l : Launch) (D : va_G) (aC : Nat → ClassId) (h0 : Nat) (p1 : Nat) (p2 : Nat) (p3 : Nat) (p4 : Nat)  : cj_Con l D aC i4_init yX4_init [.ref p1, .ref p2, .ref p3, .ref p4] h0 (.inr (3, [.null, .null, .null, .null, .int 0, .int 0, .int 0, .int 0, .int 0])) 0 0 (fun w1 => w1 = ((h0, .inr (3, [.ref p1, .ref p2, .ref p3, .ref p4, .int 0, .int 0, .int 0, .int 0, .int 0])) :: [])) := by
  refine cj_con_of pn_X4 rfl rfl (Nat.le_of_ble_eq_true rfl) rfl (fun F hq => ?_)
  refine j_aload_n 0 rfl d4_init_0 ?_
  refine cj_obj (ob_X4_3) ob_i ob_c (Nat.le_of_ble_eq_true rfl) (Nat.le_of_ble_eq_true rfl) (Nat.le_of_ble_eq_true rfl) d4_init_1 ?_
  refine j_aload_n 0 rfl d4_init_4 ?_
  refine j_aload_n 1 rfl d4_init_5 ?_
  refine cj_putF (q0 := 0) (ws' := ((h0, .inr (3, [.ref p1, .null, .null, .null, .int 0, .int 0, .int 0, .int 0, .int 0])) :: [])) hq fl_X4_9 rfl (Nat.le_of_ble_eq_true rfl) rfl rfl rfl dec_X4_0 d4_init_6 ?_
  refine j_aload_n 0 rfl d4_init_9 ?_
  refine j_aload_n 2 rfl d4_init_10 ?_
  refine cj_putF (q0 := 0) (ws' := ((h0, .inr (3, [.ref p1, .ref p2, .null, .null, .int 0, .int 0, .int 0, .int 0, .int 0])) :: [])) hq fl_X4_15 rfl (Nat.le_of_ble_eq_true rfl) rfl rfl rfl dec_X4_1 d4_init_11 ?_
  refine j_aload_n 0 rfl d4_init_14 ?_
  refine j_aload_n 3 rfl d4_init_15 ?_
  refine cj_putF (q0 := 0) (ws' := ((h0, .inr (3, [.ref p1, .ref p2, .ref p3, .null, .int 0, .int 0, .int 0, .int 0, .int 0])) :: [])) hq fl_X4_19 rfl (Nat.le_of_ble_eq_true rfl) rfl rfl rfl dec_X4_2 d4_init_16 ?_
  refine j_aload_n 0 rfl d4_init_19 ?_
  refine j_aload 4 rfl d4_init_20 ?_
  refine cj_putF (q0 := 0) (ws' := ((h0, .inr (3, [.ref p1, .ref p2, .ref p3, .ref p4, .int 0, .int 0, .int 0, .int 0, .int 0])) :: [])) hq fl_X4_23 rfl (Nat.le_of_ble_eq_true rfl) rfl rfl rfl dec_X4_3 d4_init_22 ?_
  exact cj_vret hq rfl (Nat.le_of_ble_eq_true rfl) (Nat.le_of_ble_eq_true rfl) d4_init_25

set_option maxRecDepth 40000 in
set_option maxHeartbeats 400000 in
theorem k5_init (l : Launch) (D : va_G) (aC : Nat → ClassId) (h0 : Nat) (p1 : Nat)  : cj_Con l D aC i5_init yX5_init [.ref p1] h0 (.inr (4, [.null, .null])) 1 24 (fun w1 => ∃ (q1 : Nat), w1 = ((h0, .inr (4, [.ref p1, .ref q1])) :: ((q1, .inl (aC 1, (24, .inl (fun _ => 0)))) :: []))) := by
  refine cj_con_of pn_X5 rfl rfl (Nat.le_of_ble_eq_true rfl) rfl (fun F hq => ?_)
  refine j_aload_n 0 rfl d5_init_0 ?_
  refine cj_obj (ob_X5_3) ob_i ob_c (Nat.le_of_ble_eq_true rfl) (Nat.le_of_ble_eq_true rfl) (Nat.le_of_ble_eq_true rfl) d5_init_1 ?_
  refine j_aload_n 0 rfl d5_init_4 ?_
  refine j_bipush d5_init_5 ejb_24 ?_
  refine cj_newa (atype := .int) (t0 := 1) (N := 24) (z := (24, .inl (fun _ => 0))) hq ar_int rfl rfl (fun _ _ => rfl) (fun _ => rfl) (by decide) (by decide) (by decide) (Nat.le_of_ble_eq_true rfl) (Nat.le_of_ble_eq_true rfl) d5_init_7 (fun q1 => ?_)
  refine cj_norm (ws' := ((h0, .inr (4, [.null, .null])) :: ((q1, .inl (aC 1, (24, .inl (fun _ => 0)))) :: []))) (by simp only [List.cons_append, List.append_assoc, List.nil_append, List.append_nil]) ?_
  refine cj_putF (q0 := 0) (ws' := ((h0, .inr (4, [.null, .ref q1])) :: ((q1, .inl (aC 1, (24, .inl (fun _ => 0)))) :: []))) (cj_finup 1 24 hq) fl_X5_9 rfl (Nat.le_of_ble_eq_true rfl) rfl rfl rfl dec_X5_1 d5_init_9 ?_
  refine j_aload_n 0 rfl d5_init_12 ?_
  refine j_aload_n 1 rfl d5_init_13 ?_
  refine cj_putF (q0 := 0) (ws' := ((h0, .inr (4, [.ref p1, .ref q1])) :: ((q1, .inl (aC 1, (24, .inl (fun _ => 0)))) :: []))) (cj_finup 1 24 hq) fl_X5_15 rfl (Nat.le_of_ble_eq_true rfl) rfl rfl rfl dec_X5_0 d5_init_14 ?_
  exact cj_vret (cj_finup 1 24 hq) ⟨q1, rfl⟩ (Nat.le_of_ble_eq_true rfl) (Nat.le_of_ble_eq_true rfl) d5_init_17

set_option maxRecDepth 40000 in
set_option maxHeartbeats 400000 in
theorem k9_init (l : Launch) (D : va_G) (aC : Nat → ClassId) (h0 : Nat) (p1 : Nat) (p2 : Nat)  : cj_Con l D aC i9_init yX9_init [.ref p1, .ref p2] h0 (.inr (8, [.null, .null, .long 0, .int 0, .int 0, .null, .null, .null, .null, .null, .null, .null])) 7 672 (fun w1 => ∃ (q1 : Nat) (q2 : Nat) (q3 : Nat) (q4 : Nat) (q5 : Nat) (q6 : Nat) (q7 : Nat), w1 = ((h0, .inr (8, [.ref p1, .ref p2, .long 0, .int 0, .int 0, .ref q1, .ref q2, .ref q3, .ref q4, .ref q5, .ref q6, .ref q7])) :: ((q1, .inl (aC 1, (96, .inl (fun _ => 0)))) :: ((q2, .inl (aC 1, (96, .inl (fun _ => 0)))) :: ((q3, .inl (aC 1, (96, .inl (fun _ => 0)))) :: ((q4, .inl (aC 1, (96, .inl (fun _ => 0)))) :: ((q5, .inl (aC 3, (96, .inl (fun _ => 0)))) :: ((q6, .inl (aC 1, (96, .inl (fun _ => 0)))) :: ((q7, .inl (aC 1, (96, .inl (fun _ => 0)))) :: []))))))))) := by
  refine cj_con_of pn_X9 rfl rfl (Nat.le_of_ble_eq_true rfl) rfl (fun F hq => ?_)
  refine j_aload_n 0 rfl d9_init_0 ?_
  refine cj_obj (ob_X9_3) ob_i ob_c (Nat.le_of_ble_eq_true rfl) (Nat.le_of_ble_eq_true rfl) (Nat.le_of_ble_eq_true rfl) d9_init_1 ?_
  refine j_aload_n 0 rfl d9_init_4 ?_
  refine j_bipush d9_init_5 ejb_96 ?_
  refine cj_newa (atype := .int) (t0 := 1) (N := 96) (z := (96, .inl (fun _ => 0))) hq ar_int rfl rfl (fun _ _ => rfl) (fun _ => rfl) (by decide) (by decide) (by decide) (Nat.le_of_ble_eq_true rfl) (Nat.le_of_ble_eq_true rfl) d9_init_7 (fun q1 => ?_)
  refine cj_norm (ws' := ((h0, .inr (8, [.null, .null, .long 0, .int 0, .int 0, .null, .null, .null, .null, .null, .null, .null])) :: ((q1, .inl (aC 1, (96, .inl (fun _ => 0)))) :: []))) (by simp only [List.cons_append, List.append_assoc, List.nil_append, List.append_nil]) ?_
  refine cj_putF (q0 := 0) (ws' := ((h0, .inr (8, [.null, .null, .long 0, .int 0, .int 0, .ref q1, .null, .null, .null, .null, .null, .null])) :: ((q1, .inl (aC 1, (96, .inl (fun _ => 0)))) :: []))) (cj_finup 1 96 hq) fl_X9_9 rfl (Nat.le_of_ble_eq_true rfl) rfl rfl rfl dec_X9_5 d9_init_9 ?_
  refine j_aload_n 0 rfl d9_init_12 ?_
  refine j_bipush d9_init_13 ejb_96 ?_
  refine cj_newa (atype := .int) (t0 := 1) (N := 96) (z := (96, .inl (fun _ => 0))) (cj_finup 1 96 hq) ar_int rfl rfl (fun _ _ => rfl) (fun _ => rfl) (by decide) (by decide) (by decide) (Nat.le_of_ble_eq_true rfl) (Nat.le_of_ble_eq_true rfl) d9_init_15 (fun q2 => ?_)
  refine cj_norm (ws' := ((h0, .inr (8, [.null, .null, .long 0, .int 0, .int 0, .ref q1, .null, .null, .null, .null, .null, .null])) :: ((q1, .inl (aC 1, (96, .inl (fun _ => 0)))) :: ((q2, .inl (aC 1, (96, .inl (fun _ => 0)))) :: [])))) (by simp only [List.cons_append, List.append_assoc, List.nil_append, List.append_nil]) ?_
  refine cj_putF (q0 := 0) (ws' := ((h0, .inr (8, [.null, .null, .long 0, .int 0, .int 0, .ref q1, .ref q2, .null, .null, .null, .null, .null])) :: ((q1, .inl (aC 1, (96, .inl (fun _ => 0)))) :: ((q2, .inl (aC 1, (96, .inl (fun _ => 0)))) :: [])))) (cj_finup 1 96 (cj_finup 1 96 hq)) fl_X9_15 rfl (Nat.le_of_ble_eq_true rfl) rfl rfl rfl dec_X9_6 d9_init_17 ?_
  refine j_aload_n 0 rfl d9_init_20 ?_
  refine j_bipush d9_init_21 ejb_96 ?_
  refine cj_newa (atype := .int) (t0 := 1) (N := 96) (z := (96, .inl (fun _ => 0))) (cj_finup 1 96 (cj_finup 1 96 hq)) ar_int rfl rfl (fun _ _ => rfl) (fun _ => rfl) (by decide) (by decide) (by decide) (Nat.le_of_ble_eq_true rfl) (Nat.le_of_ble_eq_true rfl) d9_init_23 (fun q3 => ?_)
  refine cj_norm (ws' := ((h0, .inr (8, [.null, .null, .long 0, .int 0, .int 0, .ref q1, .ref q2, .null, .null, .null, .null, .null])) :: ((q1, .inl (aC 1, (96, .inl (fun _ => 0)))) :: ((q2, .inl (aC 1, (96, .inl (fun _ => 0)))) :: ((q3, .inl (aC 1, (96, .inl (fun _ => 0)))) :: []))))) (by simp only [List.cons_append, List.append_assoc, List.nil_append, List.append_nil]) ?_
  refine cj_putF (q0 := 0) (ws' := ((h0, .inr (8, [.null, .null, .long 0, .int 0, .int 0, .ref q1, .ref q2, .ref q3, .null, .null, .null, .null])) :: ((q1, .inl (aC 1, (96, .inl (fun _ => 0)))) :: ((q2, .inl (aC 1, (96, .inl (fun _ => 0)))) :: ((q3, .inl (aC 1, (96, .inl (fun _ => 0)))) :: []))))) (cj_finup 1 96 (cj_finup 1 96 (cj_finup 1 96 hq))) fl_X9_18 rfl (Nat.le_of_ble_eq_true rfl) rfl rfl rfl dec_X9_7 d9_init_25 ?_
  refine j_aload_n 0 rfl d9_init_28 ?_
  refine j_bipush d9_init_29 ejb_96 ?_
  refine cj_newa (atype := .int) (t0 := 1) (N := 96) (z := (96, .inl (fun _ => 0))) (cj_finup 1 96 (cj_finup 1 96 (cj_finup 1 96 hq))) ar_int rfl rfl (fun _ _ => rfl) (fun _ => rfl) (by decide) (by decide) (by decide) (Nat.le_of_ble_eq_true rfl) (Nat.le_of_ble_eq_true rfl) d9_init_31 (fun q4 => ?_)
  refine cj_norm (ws' := ((h0, .inr (8, [.null, .null, .long 0, .int 0, .int 0, .ref q1, .ref q2, .ref q3, .null, .null, .null, .null])) :: ((q1, .inl (aC 1, (96, .inl (fun _ => 0)))) :: ((q2, .inl (aC 1, (96, .inl (fun _ => 0)))) :: ((q3, .inl (aC 1, (96, .inl (fun _ => 0)))) :: ((q4, .inl (aC 1, (96, .inl (fun _ => 0)))) :: [])))))) (by simp only [List.cons_append, List.append_assoc, List.nil_append, List.append_nil]) ?_
  refine cj_putF (q0 := 0) (ws' := ((h0, .inr (8, [.null, .null, .long 0, .int 0, .int 0, .ref q1, .ref q2, .ref q3, .ref q4, .null, .null, .null])) :: ((q1, .inl (aC 1, (96, .inl (fun _ => 0)))) :: ((q2, .inl (aC 1, (96, .inl (fun _ => 0)))) :: ((q3, .inl (aC 1, (96, .inl (fun _ => 0)))) :: ((q4, .inl (aC 1, (96, .inl (fun _ => 0)))) :: [])))))) (cj_finup 1 96 (cj_finup 1 96 (cj_finup 1 96 (cj_finup 1 96 hq)))) fl_X9_21 rfl (Nat.le_of_ble_eq_true rfl) rfl rfl rfl dec_X9_8 d9_init_33 ?_
  refine j_aload_n 0 rfl d9_init_36 ?_
  refine j_bipush d9_init_37 ejb_96 ?_
  refine cj_newa (atype := .boolean) (t0 := 3) (N := 96) (z := (96, .inl (fun _ => 0))) (cj_finup 1 96 (cj_finup 1 96 (cj_finup 1 96 (cj_finup 1 96 hq)))) ar_boolean rfl rfl (fun _ _ => rfl) (fun _ => rfl) (by decide) (by decide) (by decide) (Nat.le_of_ble_eq_true rfl) (Nat.le_of_ble_eq_true rfl) d9_init_39 (fun q5 => ?_)
  refine cj_norm (ws' := ((h0, .inr (8, [.null, .null, .long 0, .int 0, .int 0, .ref q1, .ref q2, .ref q3, .ref q4, .null, .null, .null])) :: ((q1, .inl (aC 1, (96, .inl (fun _ => 0)))) :: ((q2, .inl (aC 1, (96, .inl (fun _ => 0)))) :: ((q3, .inl (aC 1, (96, .inl (fun _ => 0)))) :: ((q4, .inl (aC 1, (96, .inl (fun _ => 0)))) :: ((q5, .inl (aC 3, (96, .inl (fun _ => 0)))) :: []))))))) (by simp only [List.cons_append, List.append_assoc, List.nil_append, List.append_nil]) ?_
  refine cj_putF (q0 := 0) (ws' := ((h0, .inr (8, [.null, .null, .long 0, .int 0, .int 0, .ref q1, .ref q2, .ref q3, .ref q4, .ref q5, .null, .null])) :: ((q1, .inl (aC 1, (96, .inl (fun _ => 0)))) :: ((q2, .inl (aC 1, (96, .inl (fun _ => 0)))) :: ((q3, .inl (aC 1, (96, .inl (fun _ => 0)))) :: ((q4, .inl (aC 1, (96, .inl (fun _ => 0)))) :: ((q5, .inl (aC 3, (96, .inl (fun _ => 0)))) :: []))))))) (cj_finup 1 96 (cj_finup 1 96 (cj_finup 1 96 (cj_finup 1 96 (cj_finup 1 96 hq))))) fl_X9_24 rfl (Nat.le_of_ble_eq_true rfl) rfl rfl rfl dec_X9_9 d9_init_41 ?_
  refine j_aload_n 0 rfl d9_init_44 ?_
  refine j_bipush d9_init_45 ejb_96 ?_
  refine cj_newa (atype := .int) (t0 := 1) (N := 96) (z := (96, .inl (fun _ => 0))) (cj_finup 1 96 (cj_finup 1 96 (cj_finup 1 96 (cj_finup 1 96 (cj_finup 1 96 hq))))) ar_int rfl rfl (fun _ _ => rfl) (fun _ => rfl) (by decide) (by decide) (by decide) (Nat.le_of_ble_eq_true rfl) (Nat.le_of_ble_eq_true rfl) d9_init_47 (fun q6 => ?_)
  refine cj_norm (ws' := ((h0, .inr (8, [.null, .null, .long 0, .int 0, .int 0, .ref q1, .ref q2, .ref q3, .ref q4, .ref q5, .null, .null])) :: ((q1, .inl (aC 1, (96, .inl (fun _ => 0)))) :: ((q2, .inl (aC 1, (96, .inl (fun _ => 0)))) :: ((q3, .inl (aC 1, (96, .inl (fun _ => 0)))) :: ((q4, .inl (aC 1, (96, .inl (fun _ => 0)))) :: ((q5, .inl (aC 3, (96, .inl (fun _ => 0)))) :: ((q6, .inl (aC 1, (96, .inl (fun _ => 0)))) :: [])))))))) (by simp only [List.cons_append, List.append_assoc, List.nil_append, List.append_nil]) ?_
  refine cj_putF (q0 := 0) (ws' := ((h0, .inr (8, [.null, .null, .long 0, .int 0, .int 0, .ref q1, .ref q2, .ref q3, .ref q4, .ref q5, .ref q6, .null])) :: ((q1, .inl (aC 1, (96, .inl (fun _ => 0)))) :: ((q2, .inl (aC 1, (96, .inl (fun _ => 0)))) :: ((q3, .inl (aC 1, (96, .inl (fun _ => 0)))) :: ((q4, .inl (aC 1, (96, .inl (fun _ => 0)))) :: ((q5, .inl (aC 3, (96, .inl (fun _ => 0)))) :: ((q6, .inl (aC 1, (96, .inl (fun _ => 0)))) :: [])))))))) (cj_finup 1 96 (cj_finup 1 96 (cj_finup 1 96 (cj_finup 1 96 (cj_finup 1 96 (cj_finup 1 96 hq)))))) fl_X9_28 rfl (Nat.le_of_ble_eq_true rfl) rfl rfl rfl dec_X9_10 d9_init_49 ?_
  refine j_aload_n 0 rfl d9_init_52 ?_
  refine j_bipush d9_init_53 ejb_96 ?_
  refine cj_newa (atype := .int) (t0 := 1) (N := 96) (z := (96, .inl (fun _ => 0))) (cj_finup 1 96 (cj_finup 1 96 (cj_finup 1 96 (cj_finup 1 96 (cj_finup 1 96 (cj_finup 1 96 hq)))))) ar_int rfl rfl (fun _ _ => rfl) (fun _ => rfl) (by decide) (by decide) (by decide) (Nat.le_of_ble_eq_true rfl) (Nat.le_of_ble_eq_true rfl) d9_init_55 (fun q7 => ?_)
  refine cj_norm (ws' := ((h0, .inr (8, [.null, .null, .long 0, .int 0, .int 0, .ref q1, .ref q2, .ref q3, .ref q4, .ref q5, .ref q6, .null])) :: ((q1, .inl (aC 1, (96, .inl (fun _ => 0)))) :: ((q2, .inl (aC 1, (96, .inl (fun _ => 0)))) :: ((q3, .inl (aC 1, (96, .inl (fun _ => 0)))) :: ((q4, .inl (aC 1, (96, .inl (fun _ => 0)))) :: ((q5, .inl (aC 3, (96, .inl (fun _ => 0)))) :: ((q6, .inl (aC 1, (96, .inl (fun _ => 0)))) :: ((q7, .inl (aC 1, (96, .inl (fun _ => 0)))) :: []))))))))) (by simp only [List.cons_append, List.append_assoc, List.nil_append, List.append_nil]) ?_
  refine cj_putF (q0 := 0) (ws' := ((h0, .inr (8, [.null, .null, .long 0, .int 0, .int 0, .ref q1, .ref q2, .ref q3, .ref q4, .ref q5, .ref q6, .ref q7])) :: ((q1, .inl (aC 1, (96, .inl (fun _ => 0)))) :: ((q2, .inl (aC 1, (96, .inl (fun _ => 0)))) :: ((q3, .inl (aC 1, (96, .inl (fun _ => 0)))) :: ((q4, .inl (aC 1, (96, .inl (fun _ => 0)))) :: ((q5, .inl (aC 3, (96, .inl (fun _ => 0)))) :: ((q6, .inl (aC 1, (96, .inl (fun _ => 0)))) :: ((q7, .inl (aC 1, (96, .inl (fun _ => 0)))) :: []))))))))) (cj_finup 1 96 (cj_finup 1 96 (cj_finup 1 96 (cj_finup 1 96 (cj_finup 1 96 (cj_finup 1 96 (cj_finup 1 96 hq))))))) fl_X9_31 rfl (Nat.le_of_ble_eq_true rfl) rfl rfl rfl dec_X9_11 d9_init_57 ?_
  refine j_aload_n 0 rfl d9_init_60 ?_
  refine j_aload_n 1 rfl d9_init_61 ?_
  refine cj_putF (q0 := 0) (ws' := ((h0, .inr (8, [.ref p1, .null, .long 0, .int 0, .int 0, .ref q1, .ref q2, .ref q3, .ref q4, .ref q5, .ref q6, .ref q7])) :: ((q1, .inl (aC 1, (96, .inl (fun _ => 0)))) :: ((q2, .inl (aC 1, (96, .inl (fun _ => 0)))) :: ((q3, .inl (aC 1, (96, .inl (fun _ => 0)))) :: ((q4, .inl (aC 1, (96, .inl (fun _ => 0)))) :: ((q5, .inl (aC 3, (96, .inl (fun _ => 0)))) :: ((q6, .inl (aC 1, (96, .inl (fun _ => 0)))) :: ((q7, .inl (aC 1, (96, .inl (fun _ => 0)))) :: []))))))))) (cj_finup 1 96 (cj_finup 1 96 (cj_finup 1 96 (cj_finup 1 96 (cj_finup 1 96 (cj_finup 1 96 (cj_finup 1 96 hq))))))) fl_X9_34 rfl (Nat.le_of_ble_eq_true rfl) rfl rfl rfl dec_X9_0 d9_init_62 ?_
  refine j_aload_n 0 rfl d9_init_65 ?_
  refine j_aload_n 2 rfl d9_init_66 ?_
  refine cj_putF (q0 := 0) (ws' := ((h0, .inr (8, [.ref p1, .ref p2, .long 0, .int 0, .int 0, .ref q1, .ref q2, .ref q3, .ref q4, .ref q5, .ref q6, .ref q7])) :: ((q1, .inl (aC 1, (96, .inl (fun _ => 0)))) :: ((q2, .inl (aC 1, (96, .inl (fun _ => 0)))) :: ((q3, .inl (aC 1, (96, .inl (fun _ => 0)))) :: ((q4, .inl (aC 1, (96, .inl (fun _ => 0)))) :: ((q5, .inl (aC 3, (96, .inl (fun _ => 0)))) :: ((q6, .inl (aC 1, (96, .inl (fun _ => 0)))) :: ((q7, .inl (aC 1, (96, .inl (fun _ => 0)))) :: []))))))))) (cj_finup 1 96 (cj_finup 1 96 (cj_finup 1 96 (cj_finup 1 96 (cj_finup 1 96 (cj_finup 1 96 (cj_finup 1 96 hq))))))) fl_X9_38 rfl (Nat.le_of_ble_eq_true rfl) rfl rfl rfl dec_X9_1 d9_init_67 ?_
  exact cj_vret (cj_finup 1 96 (cj_finup 1 96 (cj_finup 1 96 (cj_finup 1 96 (cj_finup 1 96 (cj_finup 1 96 (cj_finup 1 96 hq))))))) ⟨q1, q2, q3, q4, q5, q6, q7, rfl⟩ (Nat.le_of_ble_eq_true rfl) (Nat.le_of_ble_eq_true rfl) d9_init_70

set_option maxRecDepth 40000 in
set_option maxHeartbeats 400000 in
theorem k2_init (l : Launch) (D : va_G) (aC : Nat → ClassId) (h0 : Nat) (p1 : Nat) (p2 : Nat) (p3 : Nat) (p4 : Nat)  : cj_Con l D aC i2_init yX2_init [.ref p1, .ref p2, .ref p3, .ref p4] h0 (.inr (2, [.null, .null, .null, .null])) 0 0 (fun w1 => w1 = ((h0, .inr (2, [.ref p1, .ref p2, .ref p3, .ref p4])) :: [])) := by
  refine cj_con_of pn_X2 rfl rfl (Nat.le_of_ble_eq_true rfl) rfl (fun F hq => ?_)
  refine j_aload_n 0 rfl d2_init_0 ?_
  refine cj_obj (ob_X2_3) ob_i ob_c (Nat.le_of_ble_eq_true rfl) (Nat.le_of_ble_eq_true rfl) (Nat.le_of_ble_eq_true rfl) d2_init_1 ?_
  refine j_aload_n 0 rfl d2_init_4 ?_
  refine j_aload_n 1 rfl d2_init_5 ?_
  refine cj_putF (q0 := 0) (ws' := ((h0, .inr (2, [.ref p1, .null, .null, .null])) :: [])) hq fl_X2_9 rfl (Nat.le_of_ble_eq_true rfl) rfl rfl rfl dec_X2_0 d2_init_6 ?_
  refine j_aload_n 0 rfl d2_init_9 ?_
  refine j_aload_n 2 rfl d2_init_10 ?_
  refine cj_putF (q0 := 0) (ws' := ((h0, .inr (2, [.ref p1, .ref p2, .null, .null])) :: [])) hq fl_X2_15 rfl (Nat.le_of_ble_eq_true rfl) rfl rfl rfl dec_X2_1 d2_init_11 ?_
  refine j_aload_n 0 rfl d2_init_14 ?_
  refine j_aload_n 3 rfl d2_init_15 ?_
  refine cj_putF (q0 := 0) (ws' := ((h0, .inr (2, [.ref p1, .ref p2, .ref p3, .null])) :: [])) hq fl_X2_19 rfl (Nat.le_of_ble_eq_true rfl) rfl rfl rfl dec_X2_2 d2_init_16 ?_
  refine j_aload_n 0 rfl d2_init_19 ?_
  refine j_aload 4 rfl d2_init_20 ?_
  refine cj_putF (q0 := 0) (ws' := ((h0, .inr (2, [.ref p1, .ref p2, .ref p3, .ref p4])) :: [])) hq fl_X2_23 rfl (Nat.le_of_ble_eq_true rfl) rfl rfl rfl dec_X2_3 d2_init_22 ?_
  exact cj_vret hq rfl (Nat.le_of_ble_eq_true rfl) (Nat.le_of_ble_eq_true rfl) d2_init_25

