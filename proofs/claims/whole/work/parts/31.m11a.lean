noncomputable def m11_letter (n : Nat) (a1 : Int64) (a2 : Int32) (σ : ej_S) : Option (Int64 × ej_S) := (if a2 = 0 then (some (a1, σ)) else (some ((((32 * a1) + (a2.toInt64)) - 65) + 1, σ)))
set_option maxRecDepth 20000 in
set_option maxHeartbeats 2000000 in
theorem j11_letter (x : cw_T) (n : Nat) (a1 : Int64) (a2 : Int32) (σ : ej_S) {F : ej_F} {r0 : Int64 × ej_S} (hq : ej_fin (rV x) F (some .long) (some (.long r0.1)) r0.2) : ej_J (rV x) F i11_letter r0 σ 0 [(0, .long a1), (2, .int a2)] [] (m11_letter n a1 a2 σ) := by
  unfold m11_letter
  refine j_iload_n 1 rfl d11_letter_0 ?_
  refine j_if_ne d11_letter_1 ?_ ?_
  · refine j_ldc2 d11_letter_8 kl_X11_116 ?_
    refine j_lload_n 0 rfl d11_letter_11 ?_
    refine j_lmul d11_letter_12 ?_
    refine j_iload_n 1 rfl d11_letter_13 ?_
    refine j_i2l d11_letter_14 ?_
    refine j_ladd d11_letter_15 ?_
    refine j_ldc2 d11_letter_16 kl_X11_118 ?_
    refine j_lsub d11_letter_19 ?_
    refine j_lconst d11_letter_20 ejl_1 ?_
    refine j_ladd d11_letter_21 ?_
    exact j_lreturn hq d11_letter_22
  · refine j_lload_n 0 rfl d11_letter_4 ?_
    refine j_goto d11_letter_5 ?_
    exact j_lreturn hq d11_letter_22
theorem c11_letter (x : cw_T) (n : Nat) (a1 : Int64) (a2 : Int32) (σ : ej_S) : ∀ r σ1, m11_letter n a1 a2 σ = some (r, σ1) → ∀ l, ej_Con l (rV x) i11_letter yX11_letter (some .long) [.long a1, .int a2] σ (some (.long r)) σ1 := fun r σ1 h l => ej_con_of (rV_ok x) pn_X11 rfl (Nat.le_of_ble_eq_true rfl) rfl h (fun F hq => j11_letter x n a1 a2 σ hq)

noncomputable def m11_letters (n : Nat) (a1 : Int64) (a2 : Int32) (a3 : Int32) (a4 : Int32) (a5 : Int32) (a6 : Int32) (σ : ej_S) : Option (Int64 × ej_S) := ej_bl (m11_letter n a1 a2 σ) fun r2 s1 => ej_bl (m11_letter n r2 a3 s1) fun r4 s3 => ej_bl (m11_letter n r4 a4 s3) fun r6 s5 => ej_bl (m11_letter n r6 a5 s5) fun r8 s7 => ej_bl (m11_letter n r8 a6 s7) fun r10 s9 => (some (r10, s9))
set_option maxRecDepth 20000 in
set_option maxHeartbeats 2000000 in
theorem j11_letters (x : cw_T) (n : Nat) (a1 : Int64) (a2 : Int32) (a3 : Int32) (a4 : Int32) (a5 : Int32) (a6 : Int32) (σ : ej_S) {F : ej_F} {r0 : Int64 × ej_S} (hq : ej_fin (rV x) F (some .long) (some (.long r0.1)) r0.2) : ej_J (rV x) F i11_letters r0 σ 0 [(0, .long a1), (2, .int a2), (3, .int a3), (4, .int a4), (5, .int a5), (6, .int a6)] [] (m11_letters n a1 a2 a3 a4 a5 a6 σ) := by
  unfold m11_letters
  refine j_lload_n 0 rfl d11_letters_0 ?_
  refine j_iload_n 1 rfl d11_letters_1 ?_
  refine j_callSl (c11_letter x n a1 a2 σ) ls_X11_112 ⟨Nat.le_of_ble_eq_true rfl, Nat.le_of_ble_eq_true rfl⟩ d11_letters_2 rfl (Nat.le_of_ble_eq_true rfl) (fun r2 s1 => ?_)
  refine j_iload_n 2 rfl d11_letters_5 ?_
  refine j_callSl (c11_letter x n r2 a3 s1) ls_X11_112 ⟨Nat.le_of_ble_eq_true rfl, Nat.le_of_ble_eq_true rfl⟩ d11_letters_6 rfl (Nat.le_of_ble_eq_true rfl) (fun r4 s3 => ?_)
  refine j_iload 3 rfl d11_letters_9 ?_
  refine j_callSl (c11_letter x n r4 a4 s3) ls_X11_112 ⟨Nat.le_of_ble_eq_true rfl, Nat.le_of_ble_eq_true rfl⟩ d11_letters_11 rfl (Nat.le_of_ble_eq_true rfl) (fun r6 s5 => ?_)
  refine j_lstore (i := 7) (L' := [(7, .long r6), (0, .long a1), (2, .int a2), (3, .int a3), (4, .int a4), (5, .int a5), (6, .int a6)]) d11_letters_14 (Nat.le_of_ble_eq_true rfl) rfl ?_
  refine j_lload 0 rfl d11_letters_16 ?_
  refine j_iload 5 rfl d11_letters_18 ?_
  refine j_callSl (c11_letter x n r6 a5 s5) ls_X11_112 ⟨Nat.le_of_ble_eq_true rfl, Nat.le_of_ble_eq_true rfl⟩ d11_letters_20 rfl (Nat.le_of_ble_eq_true rfl) (fun r8 s7 => ?_)
  refine j_iload 6 rfl d11_letters_23 ?_
  refine j_callSl (c11_letter x n r8 a6 s7) ls_X11_112 ⟨Nat.le_of_ble_eq_true rfl, Nat.le_of_ble_eq_true rfl⟩ d11_letters_25 rfl (Nat.le_of_ble_eq_true rfl) (fun r10 s9 => ?_)
  exact j_lreturn hq d11_letters_28
theorem c11_letters (x : cw_T) (n : Nat) (a1 : Int64) (a2 : Int32) (a3 : Int32) (a4 : Int32) (a5 : Int32) (a6 : Int32) (σ : ej_S) : ∀ r σ1, m11_letters n a1 a2 a3 a4 a5 a6 σ = some (r, σ1) → ∀ l, ej_Con l (rV x) i11_letters yX11_letters (some .long) [.long a1, .int a2, .int a3, .int a4, .int a5, .int a6] σ (some (.long r)) σ1 := fun r σ1 h l => ej_con_of (rV_ok x) pn_X11 rfl (Nat.le_of_ble_eq_true rfl) rfl h (fun F hq => j11_letters x n a1 a2 a3 a4 a5 a6 σ hq)

noncomputable def m11_thrown (n : Nat)  (σ : ej_S) : Option (Int32 × ej_S) := (some (gI σ 19, σ))
set_option maxRecDepth 20000 in
set_option maxHeartbeats 2000000 in
theorem j11_thrown (x : cw_T) (n : Nat)  (σ : ej_S) {F : ej_F} {r0 : Int32 × ej_S} (hq : ej_fin (rV x) F (some .int) (some (.int r0.1)) r0.2) : ej_J (rV x) F i11_thrown r0 σ 0 [(0, .ref (cw_a x 200))] [] (m11_thrown n  σ) := by
  unfold m11_thrown
  refine j_aload_n 0 rfl d11_thrown_0 ?_
  refine j_get fl_X11_120 (rV_g_200_52 x σ) d11_thrown_1 ?_
  exact j_ireturn hq d11_thrown_4
theorem c11_thrown (x : cw_T) (n : Nat)  (σ : ej_S) : ∀ r σ1, m11_thrown n  σ = some (r, σ1) → ∀ l, ej_Con l (rV x) i11_thrown yX11_thrown (some .int) [.ref (cw_a x 200)] σ (some (.int r)) σ1 := fun r σ1 h l => ej_con_of (rV_ok x) pn_X11 rfl (Nat.le_of_ble_eq_true rfl) rfl h (fun F hq => j11_thrown x n  σ hq)

noncomputable def m11_goes (n : Nat) (a1 : Int32) (σ : ej_S) : Option (Int32 × ej_S) := ej_nm (uI σ 19 a1) fun s1 => (if a1 = 0 then (some (1, s1)) else (some (0, s1)))
set_option maxRecDepth 20000 in
set_option maxHeartbeats 2000000 in
theorem j11_goes (x : cw_T) (n : Nat) (a1 : Int32) (σ : ej_S) {F : ej_F} {r0 : Int32 × ej_S} (hq : ej_fin (rV x) F (some .boolean) (some (.int r0.1)) r0.2) : ej_J (rV x) F i11_goes r0 σ 0 [(0, .ref (cw_a x 200)), (1, .int a1)] [] (m11_goes n a1 σ) := by
  unfold m11_goes
  refine j_aload_n 0 rfl d11_goes_0 ?_
  refine j_iload_n 1 rfl d11_goes_1 ?_
  refine j_put fl_X11_120 (rV_p_200_52 x σ a1) rfl rfl d11_goes_2 (fun s1 => ?_)
  refine j_iload_n 1 rfl d11_goes_5 ?_
  refine j_if_ne d11_goes_6 ?_ ?_
  · refine j_iconst d11_goes_13 ejc_0 ?_
    exact j_zreturn0 hq d11_goes_14
  · refine j_iconst d11_goes_9 ejc_1 ?_
    refine j_goto d11_goes_10 ?_
    exact j_zreturn1 hq d11_goes_14
theorem c11_goes (x : cw_T) (n : Nat) (a1 : Int32) (σ : ej_S) : ∀ r σ1, m11_goes n a1 σ = some (r, σ1) → ∀ l, ej_Con l (rV x) i11_goes yX11_goes (some .boolean) [.ref (cw_a x 200), .int a1] σ (some (.int r)) σ1 := fun r σ1 h l => ej_con_of (rV_ok x) pn_X11 rfl (Nat.le_of_ble_eq_true rfl) rfl h (fun F hq => j11_goes x n a1 σ hq)

noncomputable def m11_isIn (n : Nat) (a1 : Int32) (a2 : Int32) (a3 : Int32) (σ : ej_S) : Option (Int32 × ej_S) := (if a1 < a2 then (some (0, σ)) else (if a3 < a1 then (some (0, σ)) else (some (1, σ))))
set_option maxRecDepth 20000 in
set_option maxHeartbeats 2000000 in
theorem j11_isIn (x : cw_T) (n : Nat) (a1 : Int32) (a2 : Int32) (a3 : Int32) (σ : ej_S) {F : ej_F} {r0 : Int32 × ej_S} (hq : ej_fin (rV x) F (some .boolean) (some (.int r0.1)) r0.2) : ej_J (rV x) F i11_isIn r0 σ 0 [(0, .int a1), (1, .int a2), (2, .int a3)] [] (m11_isIn n a1 a2 a3 σ) := by
  unfold m11_isIn
  refine j_iload_n 0 rfl d11_isIn_0 ?_
  refine j_iload_n 1 rfl d11_isIn_1 ?_
  refine j_icmp_lt d11_isIn_2 ?_ ?_
  · refine j_iconst d11_isIn_14 ejc_0 ?_
    exact j_zreturn0 hq d11_isIn_15
  · refine j_iload_n 0 rfl d11_isIn_5 ?_
    refine j_iload_n 2 rfl d11_isIn_6 ?_
    refine j_icmp_gt d11_isIn_7 ?_ ?_
    · refine j_iconst d11_isIn_14 ejc_0 ?_
      exact j_zreturn0 hq d11_isIn_15
    · refine j_iconst d11_isIn_10 ejc_1 ?_
      refine j_goto d11_isIn_11 ?_
      exact j_zreturn1 hq d11_isIn_15
theorem c11_isIn (x : cw_T) (n : Nat) (a1 : Int32) (a2 : Int32) (a3 : Int32) (σ : ej_S) : ∀ r σ1, m11_isIn n a1 a2 a3 σ = some (r, σ1) → ∀ l, ej_Con l (rV x) i11_isIn yX11_isIn (some .boolean) [.int a1, .int a2, .int a3] σ (some (.int r)) σ1 := fun r σ1 h l => ej_con_of (rV_ok x) pn_X11 rfl (Nat.le_of_ble_eq_true rfl) rfl h (fun F hq => j11_isIn x n a1 a2 a3 σ hq)

noncomputable def m11_code (n : Nat) (a1 : Int32) (σ : ej_S) : Option (Int32 × ej_S) := ej_ck (gI σ 0) 5 ((if gA σ 1 (gI σ 0).toNatClampNeg ≤ a1 then (some ((-1), σ)) else ej_ck ((600 * (gI σ 0)) + a1) 3000 ((some (gA σ 0 ((600 * (gI σ 0)) + a1).toNatClampNeg, σ)))))
set_option maxRecDepth 20000 in
set_option maxHeartbeats 2000000 in
theorem j11_code (x : cw_T) (n : Nat) (a1 : Int32) (σ : ej_S) {F : ej_F} {r0 : Int32 × ej_S} (hq : ej_fin (rV x) F (some .int) (some (.int r0.1)) r0.2) : ej_J (rV x) F i11_code r0 σ 0 [(0, .ref (cw_a x 200)), (1, .int a1)] [] (m11_code n a1 σ) := by
  unfold m11_code
  refine j_iload_n 1 rfl d11_code_0 ?_
  refine j_aload_n 0 rfl d11_code_1 ?_
  refine j_get fl_X11_13 (rV_g_200_1 x σ) d11_code_2 ?_
  refine j_aload_n 0 rfl d11_code_5 ?_
  refine j_get fl_X11_124 (rV_g_200_6 x σ) d11_code_6 ?_
  refine j_iald (rV_a_202 x σ) d11_code_9 ?_
  refine j_icmp_ge d11_code_10 ?_ ?_
  · refine j_iconst d11_code_31 ejc_m1 ?_
    exact j_ireturn hq d11_code_32
  · refine j_aload_n 0 rfl d11_code_13 ?_
    refine j_get fl_X11_7 (rV_g_200_0 x σ) d11_code_14 ?_
    refine j_sipush d11_code_17 ejs_600 ?_
    refine j_aload_n 0 rfl d11_code_20 ?_
    refine j_get fl_X11_124 (rV_g_200_6 x σ) d11_code_21 ?_
    refine j_imul d11_code_24 ?_
    refine j_iload_n 1 rfl d11_code_25 ?_
    refine j_iadd d11_code_26 ?_
    refine j_iald (rV_a_201 x σ) d11_code_27 ?_
    refine j_goto d11_code_28 ?_
    exact j_ireturn hq d11_code_32
theorem c11_code (x : cw_T) (n : Nat) (a1 : Int32) (σ : ej_S) : ∀ r σ1, m11_code n a1 σ = some (r, σ1) → ∀ l, ej_Con l (rV x) i11_code yX11_code (some .int) [.ref (cw_a x 200), .int a1] σ (some (.int r)) σ1 := fun r σ1 h l => ej_con_of (rV_ok x) pn_X11 rfl (Nat.le_of_ble_eq_true rfl) rfl h (fun F hq => j11_code x n a1 σ hq)

noncomputable def m11_isSmall (n : Nat) (a1 : Int32) (σ : ej_S) : Option (Int32 × ej_S) := ej_bi (m11_isIn n a1 97 122 σ) fun r2 s1 => (some (ej_bz r2, s1))
set_option maxRecDepth 20000 in
set_option maxHeartbeats 2000000 in
theorem j11_isSmall (x : cw_T) (n : Nat) (a1 : Int32) (σ : ej_S) {F : ej_F} {r0 : Int32 × ej_S} (hq : ej_fin (rV x) F (some .boolean) (some (.int r0.1)) r0.2) : ej_J (rV x) F i11_isSmall r0 σ 0 [(0, .int a1)] [] (m11_isSmall n a1 σ) := by
  unfold m11_isSmall
  refine j_iload_n 0 rfl d11_isSmall_0 ?_
  refine j_bipush d11_isSmall_1 ejb_97 ?_
  refine j_bipush d11_isSmall_3 ejb_122 ?_
  refine j_callSi (c11_isIn x n a1 97 122 σ) ls_X11_127 ⟨Nat.le_of_ble_eq_true rfl, Nat.le_of_ble_eq_true rfl⟩ d11_isSmall_5 rfl (Nat.le_of_ble_eq_true rfl) (fun r2 s1 => ?_)
  exact j_zreturn hq d11_isSmall_8
theorem c11_isSmall (x : cw_T) (n : Nat) (a1 : Int32) (σ : ej_S) : ∀ r σ1, m11_isSmall n a1 σ = some (r, σ1) → ∀ l, ej_Con l (rV x) i11_isSmall yX11_isSmall (some .boolean) [.int a1] σ (some (.int r)) σ1 := fun r σ1 h l => ej_con_of (rV_ok x) pn_X11 rfl (Nat.le_of_ble_eq_true rfl) rfl h (fun F hq => j11_isSmall x n a1 σ hq)

noncomputable def m11_isGreat (n : Nat) (a1 : Int32) (σ : ej_S) : Option (Int32 × ej_S) := ej_bi (m11_isIn n a1 65 90 σ) fun r2 s1 => (some (ej_bz r2, s1))
set_option maxRecDepth 20000 in
set_option maxHeartbeats 2000000 in
theorem j11_isGreat (x : cw_T) (n : Nat) (a1 : Int32) (σ : ej_S) {F : ej_F} {r0 : Int32 × ej_S} (hq : ej_fin (rV x) F (some .boolean) (some (.int r0.1)) r0.2) : ej_J (rV x) F i11_isGreat r0 σ 0 [(0, .int a1)] [] (m11_isGreat n a1 σ) := by
  unfold m11_isGreat
  refine j_iload_n 0 rfl d11_isGreat_0 ?_
  refine j_bipush d11_isGreat_1 ejb_65 ?_
  refine j_bipush d11_isGreat_3 ejb_90 ?_
  refine j_callSi (c11_isIn x n a1 65 90 σ) ls_X11_127 ⟨Nat.le_of_ble_eq_true rfl, Nat.le_of_ble_eq_true rfl⟩ d11_isGreat_5 rfl (Nat.le_of_ble_eq_true rfl) (fun r2 s1 => ?_)
  exact j_zreturn hq d11_isGreat_8
theorem c11_isGreat (x : cw_T) (n : Nat) (a1 : Int32) (σ : ej_S) : ∀ r σ1, m11_isGreat n a1 σ = some (r, σ1) → ∀ l, ej_Con l (rV x) i11_isGreat yX11_isGreat (some .boolean) [.int a1] σ (some (.int r)) σ1 := fun r σ1 h l => ej_con_of (rV_ok x) pn_X11 rfl (Nat.le_of_ble_eq_true rfl) rfl h (fun F hq => j11_isGreat x n a1 σ hq)

noncomputable def m11_isFigure (n : Nat) (a1 : Int32) (σ : ej_S) : Option (Int32 × ej_S) := ej_bi (m11_isIn n a1 48 57 σ) fun r2 s1 => (some (ej_bz r2, s1))
set_option maxRecDepth 20000 in
set_option maxHeartbeats 2000000 in
theorem j11_isFigure (x : cw_T) (n : Nat) (a1 : Int32) (σ : ej_S) {F : ej_F} {r0 : Int32 × ej_S} (hq : ej_fin (rV x) F (some .boolean) (some (.int r0.1)) r0.2) : ej_J (rV x) F i11_isFigure r0 σ 0 [(0, .int a1)] [] (m11_isFigure n a1 σ) := by
  unfold m11_isFigure
  refine j_iload_n 0 rfl d11_isFigure_0 ?_
  refine j_bipush d11_isFigure_1 ejb_48 ?_
  refine j_bipush d11_isFigure_3 ejb_57 ?_
  refine j_callSi (c11_isIn x n a1 48 57 σ) ls_X11_127 ⟨Nat.le_of_ble_eq_true rfl, Nat.le_of_ble_eq_true rfl⟩ d11_isFigure_5 rfl (Nat.le_of_ble_eq_true rfl) (fun r2 s1 => ?_)
  exact j_zreturn hq d11_isFigure_8
theorem c11_isFigure (x : cw_T) (n : Nat) (a1 : Int32) (σ : ej_S) : ∀ r σ1, m11_isFigure n a1 σ = some (r, σ1) → ∀ l, ej_Con l (rV x) i11_isFigure yX11_isFigure (some .boolean) [.int a1] σ (some (.int r)) σ1 := fun r σ1 h l => ej_con_of (rV_ok x) pn_X11 rfl (Nat.le_of_ble_eq_true rfl) rfl h (fun F hq => j11_isFigure x n a1 σ hq)

noncomputable def m11_goesOn (n : Nat) (a1 : Int32) (σ : ej_S) : Option (Int32 × ej_S) := ej_bi (m11_isSmall n a1 σ) fun r2 s1 => (if r2 = 0 then ej_bi (m11_isFigure n a1 s1) fun r4 s3 => (if r4 = 0 then (if a1 = 46 then (some (1, s3)) else (if a1 = 45 then (some (1, s3)) else (some (0, s3)))) else (some (1, s3))) else (some (1, s1)))
set_option maxRecDepth 20000 in
set_option maxHeartbeats 2000000 in
theorem j11_goesOn (x : cw_T) (n : Nat) (a1 : Int32) (σ : ej_S) {F : ej_F} {r0 : Int32 × ej_S} (hq : ej_fin (rV x) F (some .boolean) (some (.int r0.1)) r0.2) : ej_J (rV x) F i11_goesOn r0 σ 0 [(0, .int a1)] [] (m11_goesOn n a1 σ) := by
  unfold m11_goesOn
  refine j_iload_n 0 rfl d11_goesOn_0 ?_
  refine j_callSi (c11_isSmall x n a1 σ) ls_X11_131 ⟨Nat.le_of_ble_eq_true rfl, Nat.le_of_ble_eq_true rfl⟩ d11_goesOn_1 rfl (Nat.le_of_ble_eq_true rfl) (fun r2 s1 => ?_)
  refine j_if_ne d11_goesOn_4 ?_ ?_
  · refine j_iconst d11_goesOn_26 ejc_1 ?_
    refine j_goto d11_goesOn_27 ?_
    exact j_zreturn1 hq d11_goesOn_31
  · refine j_iload_n 0 rfl d11_goesOn_7 ?_
    refine j_callSi (c11_isFigure x n a1 s1) ls_X11_135 ⟨Nat.le_of_ble_eq_true rfl, Nat.le_of_ble_eq_true rfl⟩ d11_goesOn_8 rfl (Nat.le_of_ble_eq_true rfl) (fun r4 s3 => ?_)
    refine j_if_ne d11_goesOn_11 ?_ ?_
    · refine j_iconst d11_goesOn_26 ejc_1 ?_
      refine j_goto d11_goesOn_27 ?_
      exact j_zreturn1 hq d11_goesOn_31
    · refine j_iload_n 0 rfl d11_goesOn_14 ?_
      refine j_bipush d11_goesOn_15 ejb_46 ?_
      refine j_icmp_eq d11_goesOn_17 ?_ ?_
      · refine j_iconst d11_goesOn_26 ejc_1 ?_
        refine j_goto d11_goesOn_27 ?_
        exact j_zreturn1 hq d11_goesOn_31
      · refine j_iload_n 0 rfl d11_goesOn_20 ?_
        refine j_bipush d11_goesOn_21 ejb_45 ?_
        refine j_icmp_ne d11_goesOn_23 ?_ ?_
        · refine j_iconst d11_goesOn_30 ejc_0 ?_
          exact j_zreturn0 hq d11_goesOn_31
        · refine j_iconst d11_goesOn_26 ejc_1 ?_
          refine j_goto d11_goesOn_27 ?_
          exact j_zreturn1 hq d11_goesOn_31
theorem c11_goesOn (x : cw_T) (n : Nat) (a1 : Int32) (σ : ej_S) : ∀ r σ1, m11_goesOn n a1 σ = some (r, σ1) → ∀ l, ej_Con l (rV x) i11_goesOn yX11_goesOn (some .boolean) [.int a1] σ (some (.int r)) σ1 := fun r σ1 h l => ej_con_of (rV_ok x) pn_X11 rfl (Nat.le_of_ble_eq_true rfl) rfl h (fun F hq => j11_goesOn x n a1 σ hq)

noncomputable def m11_isSign_47 (n : Nat) (y1 : Int32) (y2 : Int32) (σ : ej_S) : Option (Int32 × ej_S) := (if y2 = 0 then (if y1 = 33 then (some (1, σ)) else (if y1 = 43 then (some (1, σ)) else (if y1 = 45 then (some (1, σ)) else (if y1 = 42 then (some (1, σ)) else (if y1 = 47 then (some (1, σ)) else (if y1 = 59 then (some (1, σ)) else (some (0, σ)))))))) else (some (1, σ)))
set_option maxRecDepth 20000 in
set_option maxHeartbeats 2000000 in
theorem j11_isSign_47 (x : cw_T) (n : Nat) {F : ej_F} {r0 : Int32 × ej_S} (hq : ej_fin (rV x) F (some .boolean) (some (.int r0.1)) r0.2) (y1 : Int32) (y2 : Int32) (σ : ej_S) : ej_J (rV x) F i11_isSign r0 σ 47 [(0, .int y1)] [.int y2] (m11_isSign_47 n y1 y2 σ) := by
  unfold m11_isSign_47
  refine j_istore_n (i := 1) (L' := [(1, .int y2), (0, .int y1)]) d11_isSign_47 rfl (Nat.le_of_ble_eq_true rfl) rfl ?_
  refine j_iload_n 0 rfl d11_isSign_48 ?_
  refine j_if_ne d11_isSign_49 ?_ ?_
  · refine j_iconst d11_isSign_88 ejc_1 ?_
    refine j_goto d11_isSign_89 ?_
    exact j_zreturn1 hq d11_isSign_93
  · refine j_iload_n 1 rfl d11_isSign_52 ?_
    refine j_bipush d11_isSign_53 ejb_33 ?_
    refine j_icmp_eq d11_isSign_55 ?_ ?_
    · refine j_iconst d11_isSign_88 ejc_1 ?_
      refine j_goto d11_isSign_89 ?_
      exact j_zreturn1 hq d11_isSign_93
    · refine j_iload_n 1 rfl d11_isSign_58 ?_
      refine j_bipush d11_isSign_59 ejb_43 ?_
      refine j_icmp_eq d11_isSign_61 ?_ ?_
      · refine j_iconst d11_isSign_88 ejc_1 ?_
        refine j_goto d11_isSign_89 ?_
        exact j_zreturn1 hq d11_isSign_93
      · refine j_iload_n 1 rfl d11_isSign_64 ?_
        refine j_bipush d11_isSign_65 ejb_45 ?_
        refine j_icmp_eq d11_isSign_67 ?_ ?_
        · refine j_iconst d11_isSign_88 ejc_1 ?_
          refine j_goto d11_isSign_89 ?_
          exact j_zreturn1 hq d11_isSign_93
        · refine j_iload_n 1 rfl d11_isSign_70 ?_
          refine j_bipush d11_isSign_71 ejb_42 ?_
          refine j_icmp_eq d11_isSign_73 ?_ ?_
          · refine j_iconst d11_isSign_88 ejc_1 ?_
            refine j_goto d11_isSign_89 ?_
            exact j_zreturn1 hq d11_isSign_93
          · refine j_iload_n 1 rfl d11_isSign_76 ?_
            refine j_bipush d11_isSign_77 ejb_47 ?_
            refine j_icmp_eq d11_isSign_79 ?_ ?_
            · refine j_iconst d11_isSign_88 ejc_1 ?_
              refine j_goto d11_isSign_89 ?_
              exact j_zreturn1 hq d11_isSign_93
            · refine j_iload_n 1 rfl d11_isSign_82 ?_
              refine j_bipush d11_isSign_83 ejb_59 ?_
              refine j_icmp_ne d11_isSign_85 ?_ ?_
              · refine j_iconst d11_isSign_92 ejc_0 ?_
                exact j_zreturn0 hq d11_isSign_93
              · refine j_iconst d11_isSign_88 ejc_1 ?_
                refine j_goto d11_isSign_89 ?_
                exact j_zreturn1 hq d11_isSign_93
noncomputable def m11_isSign (n : Nat) (a1 : Int32) (σ : ej_S) : Option (Int32 × ej_S) := (if a1 = 61 then (m11_isSign_47 n a1 1 σ) else (if a1 = 64 then (m11_isSign_47 n a1 1 σ) else (if a1 = 123 then (m11_isSign_47 n a1 1 σ) else (if a1 = 125 then (m11_isSign_47 n a1 1 σ) else (if a1 = 40 then (m11_isSign_47 n a1 1 σ) else (if a1 = 41 then (m11_isSign_47 n a1 1 σ) else (if a1 = 44 then (m11_isSign_47 n a1 1 σ) else (m11_isSign_47 n a1 0 σ))))))))
set_option maxRecDepth 20000 in
set_option maxHeartbeats 2000000 in
theorem j11_isSign (x : cw_T) (n : Nat) (a1 : Int32) (σ : ej_S) {F : ej_F} {r0 : Int32 × ej_S} (hq : ej_fin (rV x) F (some .boolean) (some (.int r0.1)) r0.2) : ej_J (rV x) F i11_isSign r0 σ 0 [(0, .int a1)] [] (m11_isSign n a1 σ) := by
  unfold m11_isSign
  refine j_iload_n 0 rfl d11_isSign_0 ?_
  refine j_bipush d11_isSign_1 ejb_61 ?_
  refine j_icmp_eq d11_isSign_3 ?_ ?_
  · refine j_iconst d11_isSign_42 ejc_1 ?_
    refine j_goto d11_isSign_43 ?_
    exact j_sub [0] rfl (j11_isSign_47 x n hq a1 1 σ)
  · refine j_iload_n 0 rfl d11_isSign_6 ?_
    refine j_bipush d11_isSign_7 ejb_64 ?_
    refine j_icmp_eq d11_isSign_9 ?_ ?_
    · refine j_iconst d11_isSign_42 ejc_1 ?_
      refine j_goto d11_isSign_43 ?_
      exact j_sub [0] rfl (j11_isSign_47 x n hq a1 1 σ)
    · refine j_iload_n 0 rfl d11_isSign_12 ?_
      refine j_bipush d11_isSign_13 ejb_123 ?_
      refine j_icmp_eq d11_isSign_15 ?_ ?_
      · refine j_iconst d11_isSign_42 ejc_1 ?_
        refine j_goto d11_isSign_43 ?_
        exact j_sub [0] rfl (j11_isSign_47 x n hq a1 1 σ)
      · refine j_iload_n 0 rfl d11_isSign_18 ?_
        refine j_bipush d11_isSign_19 ejb_125 ?_
        refine j_icmp_eq d11_isSign_21 ?_ ?_
        · refine j_iconst d11_isSign_42 ejc_1 ?_
          refine j_goto d11_isSign_43 ?_
          exact j_sub [0] rfl (j11_isSign_47 x n hq a1 1 σ)
        · refine j_iload_n 0 rfl d11_isSign_24 ?_
          refine j_bipush d11_isSign_25 ejb_40 ?_
          refine j_icmp_eq d11_isSign_27 ?_ ?_
          · refine j_iconst d11_isSign_42 ejc_1 ?_
            refine j_goto d11_isSign_43 ?_
            exact j_sub [0] rfl (j11_isSign_47 x n hq a1 1 σ)
          · refine j_iload_n 0 rfl d11_isSign_30 ?_
            refine j_bipush d11_isSign_31 ejb_41 ?_
            refine j_icmp_eq d11_isSign_33 ?_ ?_
            · refine j_iconst d11_isSign_42 ejc_1 ?_
              refine j_goto d11_isSign_43 ?_
              exact j_sub [0] rfl (j11_isSign_47 x n hq a1 1 σ)
            · refine j_iload_n 0 rfl d11_isSign_36 ?_
              refine j_bipush d11_isSign_37 ejb_44 ?_
              refine j_icmp_ne d11_isSign_39 ?_ ?_
              · refine j_iconst d11_isSign_46 ejc_0 ?_
                exact j_sub [0] rfl (j11_isSign_47 x n hq a1 0 σ)
              · refine j_iconst d11_isSign_42 ejc_1 ?_
                refine j_goto d11_isSign_43 ?_
                exact j_sub [0] rfl (j11_isSign_47 x n hq a1 1 σ)
theorem c11_isSign (x : cw_T) (n : Nat) (a1 : Int32) (σ : ej_S) : ∀ r σ1, m11_isSign n a1 σ = some (r, σ1) → ∀ l, ej_Con l (rV x) i11_isSign yX11_isSign (some .boolean) [.int a1] σ (some (.int r)) σ1 := fun r σ1 h l => ej_con_of (rV_ok x) pn_X11 rfl (Nat.le_of_ble_eq_true rfl) rfl h (fun F hq => j11_isSign x n a1 σ hq)

noncomputable def m11_passesBlanks_87 (n : Nat) (f2 : Int32 → ej_S → Option (ej_S))  (σ : ej_S) : Option (ej_S) := ej_nm (uI σ 1 ((gI σ 1) + 1)) fun s5 => (f2 1 s5)
set_option maxRecDepth 20000 in
set_option maxHeartbeats 2000000 in
theorem j11_passesBlanks_87 (x : cw_T) (n : Nat) {F : ej_F} {r0 : ej_S} (hq : ej_fin (rV x) F none none r0) (f2 : Int32 → ej_S → Option (ej_S)) (H2 : ∀ (y1 : Int32) (σ : ej_S), ej_J (rV x) F i11_passesBlanks r0 σ 2 [(0, .ref (cw_a x 200)), (1, .int y1)] [] (f2 y1 σ))  (σ : ej_S) : ej_J (rV x) F i11_passesBlanks r0 σ 87 [(0, .ref (cw_a x 200))] [] (m11_passesBlanks_87 n f2  σ) := by
  unfold m11_passesBlanks_87
  refine j_iconst d11_passesBlanks_87 ejc_1 ?_
  refine j_goto d11_passesBlanks_88 ?_
  refine j_istore_n (i := 1) (L' := [(1, .int 1), (0, .ref (cw_a x 200))]) d11_passesBlanks_92 rfl (Nat.le_of_ble_eq_true rfl) rfl ?_
  refine j_aload_n 1 rfl d11_passesBlanks_93 ?_
  refine j_dup d11_passesBlanks_94 rfl ?_
  refine j_get fl_X11_138 (rV_g_200_7 x σ) d11_passesBlanks_95 ?_
  refine j_iconst d11_passesBlanks_98 ejc_1 ?_
  refine j_iadd d11_passesBlanks_99 ?_
  refine j_put fl_X11_138 (rV_p_200_7 x σ ((gI σ 1) + 1)) rfl rfl d11_passesBlanks_100 (fun s5 => ?_)
  refine j_goto d11_passesBlanks_103 ?_
  exact j_sub [1, 0] rfl (H2 1 s5)
noncomputable def m11_passesBlanks_70 (n : Nat) (f2 : Int32 → ej_S → Option (ej_S)) (y4 : Int32) (σ : ej_S) : Option (ej_S) := (if y4 = 0 then ej_bi (m11_code n (gI σ 1) σ) fun r7 s6 => (if r7 = 35 then (m11_passesBlanks_87 n f2 s6) else ej_nm (uI s6 1 ((gI s6 1) + 1)) fun s8 => (f2 0 s8)) else (m11_passesBlanks_87 n f2 σ))
set_option maxRecDepth 20000 in
set_option maxHeartbeats 2000000 in
theorem j11_passesBlanks_70 (x : cw_T) (n : Nat) {F : ej_F} {r0 : ej_S} (hq : ej_fin (rV x) F none none r0) (f2 : Int32 → ej_S → Option (ej_S)) (H2 : ∀ (y1 : Int32) (σ : ej_S), ej_J (rV x) F i11_passesBlanks r0 σ 2 [(0, .ref (cw_a x 200)), (1, .int y1)] [] (f2 y1 σ)) (y4 : Int32) (σ : ej_S) : ej_J (rV x) F i11_passesBlanks r0 σ 70 [(0, .ref (cw_a x 200)), (1, .int y4)] [] (m11_passesBlanks_70 n f2 y4 σ) := by
  unfold m11_passesBlanks_70
  refine j_iload_n 1 rfl d11_passesBlanks_70 ?_
  refine j_if_ne d11_passesBlanks_71 ?_ ?_
  · exact j_sub [0] rfl (j11_passesBlanks_87 x n hq f2 H2 σ)
  · refine j_aload_n 0 rfl d11_passesBlanks_74 ?_
    refine j_aload_n 0 rfl d11_passesBlanks_75 ?_
    refine j_get fl_X11_138 (rV_g_200_7 x σ) d11_passesBlanks_76 ?_
    refine j_callVi (c11_code x n (gI σ 1) σ) lv_X11_141 (rV_rc_200 x σ) ⟨Nat.le_of_ble_eq_true rfl, Nat.le_of_ble_eq_true rfl⟩ d11_passesBlanks_79 rfl (Nat.le_of_ble_eq_true rfl) (fun r7 s6 => ?_)
    refine j_bipush d11_passesBlanks_82 ejb_35 ?_
    refine j_icmp_ne d11_passesBlanks_84 ?_ ?_
    · refine j_iconst d11_passesBlanks_91 ejc_0 ?_
      refine j_istore_n (i := 1) (L' := [(1, .int 0), (0, .ref (cw_a x 200))]) d11_passesBlanks_92 rfl (Nat.le_of_ble_eq_true rfl) rfl ?_
      refine j_aload_n 1 rfl d11_passesBlanks_93 ?_
      refine j_dup d11_passesBlanks_94 rfl ?_
      refine j_get fl_X11_138 (rV_g_200_7 x s6) d11_passesBlanks_95 ?_
      refine j_iconst d11_passesBlanks_98 ejc_1 ?_
      refine j_iadd d11_passesBlanks_99 ?_
      refine j_put fl_X11_138 (rV_p_200_7 x s6 ((gI s6 1) + 1)) rfl rfl d11_passesBlanks_100 (fun s8 => ?_)
      refine j_goto d11_passesBlanks_103 ?_
      exact j_sub [1, 0] rfl (H2 0 s8)
    · exact j_sub [0] rfl (j11_passesBlanks_87 x n hq f2 H2 s6)
noncomputable def m11_passesBlanks_2 (n : Nat) (k : Nat) : Int32 → ej_S → Option (ej_S) := Nat.rec (motive := fun _ => Int32 → ej_S → Option (ej_S)) (fun _ _ => none) (fun _ ih y1 σ => ej_bi (m11_code n (gI σ 1) σ) fun r3 s2 => (if r3 = 9 then (m11_passesBlanks_70 n ih y1 s2) else ej_bi (m11_code n (gI s2 1) s2) fun r10 s9 => (if r10 = 32 then (m11_passesBlanks_70 n ih y1 s9) else ej_bi (m11_code n (gI s9 1) s9) fun r12 s11 => (if r12 = 35 then (m11_passesBlanks_70 n ih y1 s11) else (if y1 = 0 then (some s11) else ej_bi (m11_code n (gI s11 1) s11) fun r14 s13 => (if r14 = (-1) then (some s13) else ej_bi (m11_code n (gI s13 1) s13) fun r16 s15 => (if r16 = 10 then (some s15) else (m11_passesBlanks_70 n ih y1 s15)))))))) k
theorem m11_passesBlanks_2_s (n : Nat) (k : Nat) (y1 : Int32) (σ : ej_S) : m11_passesBlanks_2 n (k + 1) y1 σ = (ej_bi (m11_code n (gI σ 1) σ) fun r3 s2 => (if r3 = 9 then (m11_passesBlanks_70 n (m11_passesBlanks_2 n k) y1 s2) else ej_bi (m11_code n (gI s2 1) s2) fun r10 s9 => (if r10 = 32 then (m11_passesBlanks_70 n (m11_passesBlanks_2 n k) y1 s9) else ej_bi (m11_code n (gI s9 1) s9) fun r12 s11 => (if r12 = 35 then (m11_passesBlanks_70 n (m11_passesBlanks_2 n k) y1 s11) else (if y1 = 0 then (some s11) else ej_bi (m11_code n (gI s11 1) s11) fun r14 s13 => (if r14 = (-1) then (some s13) else ej_bi (m11_code n (gI s13 1) s13) fun r16 s15 => (if r16 = 10 then (some s15) else (m11_passesBlanks_70 n (m11_passesBlanks_2 n k) y1 s15))))))) : Option (ej_S)) := rfl
set_option maxRecDepth 20000 in
set_option maxHeartbeats 2000000 in
theorem j11_passesBlanks_2 (x : cw_T) (n : Nat) {F : ej_F} {r0 : ej_S} (hq : ej_fin (rV x) F none none r0) : ∀ (k : Nat) (y1 : Int32) (σ : ej_S), ej_J (rV x) F i11_passesBlanks r0 σ 2 [(0, .ref (cw_a x 200)), (1, .int y1)] [] (m11_passesBlanks_2 n k y1 σ) := by
  intro k
  induction k with
  | zero => intro y1 σ; exact j_none
  | succ k ih =>
    intro y1 σ
    rw [m11_passesBlanks_2_s]
    refine j_aload_n 0 rfl d11_passesBlanks_2 ?_
    refine j_aload_n 0 rfl d11_passesBlanks_3 ?_
    refine j_get fl_X11_138 (rV_g_200_7 x σ) d11_passesBlanks_4 ?_
    refine j_callVi (c11_code x n (gI σ 1) σ) lv_X11_141 (rV_rc_200 x σ) ⟨Nat.le_of_ble_eq_true rfl, Nat.le_of_ble_eq_true rfl⟩ d11_passesBlanks_7 rfl (Nat.le_of_ble_eq_true rfl) (fun r3 s2 => ?_)
    refine j_bipush d11_passesBlanks_10 ejb_9 ?_
    refine j_icmp_eq d11_passesBlanks_12 ?_ ?_
    · exact j_sub [0, 1] rfl (j11_passesBlanks_70 x n hq (m11_passesBlanks_2 n k) ih y1 s2)
    · refine j_aload_n 0 rfl d11_passesBlanks_15 ?_
      refine j_aload_n 0 rfl d11_passesBlanks_16 ?_
      refine j_get fl_X11_138 (rV_g_200_7 x s2) d11_passesBlanks_17 ?_
      refine j_callVi (c11_code x n (gI s2 1) s2) lv_X11_141 (rV_rc_200 x s2) ⟨Nat.le_of_ble_eq_true rfl, Nat.le_of_ble_eq_true rfl⟩ d11_passesBlanks_20 rfl (Nat.le_of_ble_eq_true rfl) (fun r10 s9 => ?_)
      refine j_bipush d11_passesBlanks_23 ejb_32 ?_
      refine j_icmp_eq d11_passesBlanks_25 ?_ ?_
      · exact j_sub [0, 1] rfl (j11_passesBlanks_70 x n hq (m11_passesBlanks_2 n k) ih y1 s9)
      · refine j_aload_n 0 rfl d11_passesBlanks_28 ?_
        refine j_aload_n 0 rfl d11_passesBlanks_29 ?_
        refine j_get fl_X11_138 (rV_g_200_7 x s9) d11_passesBlanks_30 ?_
        refine j_callVi (c11_code x n (gI s9 1) s9) lv_X11_141 (rV_rc_200 x s9) ⟨Nat.le_of_ble_eq_true rfl, Nat.le_of_ble_eq_true rfl⟩ d11_passesBlanks_33 rfl (Nat.le_of_ble_eq_true rfl) (fun r12 s11 => ?_)
        refine j_bipush d11_passesBlanks_36 ejb_35 ?_
        refine j_icmp_eq d11_passesBlanks_38 ?_ ?_
        · exact j_sub [0, 1] rfl (j11_passesBlanks_70 x n hq (m11_passesBlanks_2 n k) ih y1 s11)
        · refine j_iload_n 1 rfl d11_passesBlanks_41 ?_
          refine j_if_eq d11_passesBlanks_42 ?_ ?_
          · exact j_vreturn hq d11_passesBlanks_106
          · refine j_aload_n 0 rfl d11_passesBlanks_45 ?_
            refine j_aload_n 0 rfl d11_passesBlanks_46 ?_
            refine j_get fl_X11_138 (rV_g_200_7 x s11) d11_passesBlanks_47 ?_
            refine j_callVi (c11_code x n (gI s11 1) s11) lv_X11_141 (rV_rc_200 x s11) ⟨Nat.le_of_ble_eq_true rfl, Nat.le_of_ble_eq_true rfl⟩ d11_passesBlanks_50 rfl (Nat.le_of_ble_eq_true rfl) (fun r14 s13 => ?_)
            refine j_iconst d11_passesBlanks_53 ejc_m1 ?_
            refine j_icmp_eq d11_passesBlanks_54 ?_ ?_
            · exact j_vreturn hq d11_passesBlanks_106
            · refine j_aload_n 0 rfl d11_passesBlanks_57 ?_
              refine j_aload_n 0 rfl d11_passesBlanks_58 ?_
              refine j_get fl_X11_138 (rV_g_200_7 x s13) d11_passesBlanks_59 ?_
              refine j_callVi (c11_code x n (gI s13 1) s13) lv_X11_141 (rV_rc_200 x s13) ⟨Nat.le_of_ble_eq_true rfl, Nat.le_of_ble_eq_true rfl⟩ d11_passesBlanks_62 rfl (Nat.le_of_ble_eq_true rfl) (fun r16 s15 => ?_)
              refine j_bipush d11_passesBlanks_65 ejb_10 ?_
              refine j_icmp_eq d11_passesBlanks_67 ?_ ?_
              · exact j_vreturn hq d11_passesBlanks_106
              · exact j_sub [0, 1] rfl (j11_passesBlanks_70 x n hq (m11_passesBlanks_2 n k) ih y1 s15)
noncomputable def m11_passesBlanks (n : Nat)  (σ : ej_S) : Option (ej_S) := (m11_passesBlanks_2 n n 0 σ)
set_option maxRecDepth 20000 in
set_option maxHeartbeats 2000000 in
theorem j11_passesBlanks (x : cw_T) (n : Nat)  (σ : ej_S) {F : ej_F} {r0 : ej_S} (hq : ej_fin (rV x) F none none r0) : ej_J (rV x) F i11_passesBlanks r0 σ 0 [(0, .ref (cw_a x 200))] [] (m11_passesBlanks n  σ) := by
  unfold m11_passesBlanks
  refine j_iconst d11_passesBlanks_0 ejc_0 ?_
  refine j_istore_n (i := 1) (L' := [(1, .int 0), (0, .ref (cw_a x 200))]) d11_passesBlanks_1 rfl (Nat.le_of_ble_eq_true rfl) rfl ?_
  exact j_sub [1, 0] rfl (j11_passesBlanks_2 x n hq n 0 σ)
theorem c11_passesBlanks (x : cw_T) (n : Nat)  (σ : ej_S) : ∀ σ1, m11_passesBlanks n  σ = some σ1 → ∀ l, ej_Con l (rV x) i11_passesBlanks yX11_passesBlanks none [.ref (cw_a x 200)] σ none σ1 := fun σ1 h l => ej_con_of (rV_ok x) pn_X11 rfl (Nat.le_of_ble_eq_true rfl) rfl h (fun F hq => j11_passesBlanks x n  σ hq)

noncomputable def m11_next_103 (n : Nat) (f54 : ej_S → Option (ej_S)) (y15 : Int64) (y16 : Int64) (σ : ej_S) : Option (ej_S) := ej_nm (uJ σ 0 (y16 ||| y15)) fun s17 => ej_nm (uI s17 4 ((gI s17 4) + 1)) fun s18 => ej_nm (uI s18 1 ((gI s18 1) + 1)) fun s19 => (f54 s19)
set_option maxRecDepth 20000 in
set_option maxHeartbeats 2000000 in
theorem j11_next_103 (x : cw_T) (n : Nat) {F : ej_F} {r0 : ej_S} (hq : ej_fin (rV x) F none none r0) (f54 : ej_S → Option (ej_S)) (H54 : ∀  (σ : ej_S), ej_J (rV x) F i11_next r0 σ 54 [(0, .ref (cw_a x 200))] [] (f54  σ)) (y15 : Int64) (y16 : Int64) (σ : ej_S) : ej_J (rV x) F i11_next r0 σ 103 [(0, .ref (cw_a x 200))] [.long y15, .long y16, .ref (cw_a x 200)] (m11_next_103 n f54 y15 y16 σ) := by
  unfold m11_next_103
  refine j_lor d11_next_103 ?_
  refine j_put fl_X11_154 (rV_p_200_11 x σ (y16 ||| y15)) rfl rfl d11_next_104 (fun s17 => ?_)
  refine j_aload_n 0 rfl d11_next_107 ?_
  refine j_dup d11_next_108 rfl ?_
  refine j_get fl_X11_151 (rV_g_200_10 x s17) d11_next_109 ?_
  refine j_iconst d11_next_112 ejc_1 ?_
  refine j_iadd d11_next_113 ?_
  refine j_put fl_X11_151 (rV_p_200_10 x s17 ((gI s17 4) + 1)) rfl rfl d11_next_114 (fun s18 => ?_)
  refine j_aload_n 0 rfl d11_next_117 ?_
  refine j_dup d11_next_118 rfl ?_
  refine j_get fl_X11_138 (rV_g_200_7 x s18) d11_next_119 ?_
  refine j_iconst d11_next_122 ejc_1 ?_
  refine j_iadd d11_next_123 ?_
  refine j_put fl_X11_138 (rV_p_200_7 x s18 ((gI s18 1) + 1)) rfl rfl d11_next_124 (fun s19 => ?_)
  refine j_goto d11_next_127 ?_
  exact j_sub [0] rfl (H54 s19)
noncomputable def m11_next_54 (n : Nat) (k : Nat) : ej_S → Option (ej_S) := Nat.rec (motive := fun _ => ej_S → Option (ej_S)) (fun _ => none) (fun _ ih  σ => ej_bi (m11_code n (gI σ 1) σ) fun r12 s11 => ej_bi (m11_goesOn n r12 s11) fun r14 s13 => (if r14 = 0 then (some s13) else (if 8 ≤ gI s13 4 then (m11_next_103 n ih 0 (gJ s13 0) s13) else ej_bi (m11_code n (gI s13 1) s13) fun r21 s20 => (m11_next_103 n ih ((r21.toInt64) <<< ((8 * (gI s20 4)).toInt64 &&& 63)) (gJ s13 0) s20)))) k
theorem m11_next_54_s (n : Nat) (k : Nat)  (σ : ej_S) : m11_next_54 n (k + 1)  σ = (ej_bi (m11_code n (gI σ 1) σ) fun r12 s11 => ej_bi (m11_goesOn n r12 s11) fun r14 s13 => (if r14 = 0 then (some s13) else (if 8 ≤ gI s13 4 then (m11_next_103 n (m11_next_54 n k) 0 (gJ s13 0) s13) else ej_bi (m11_code n (gI s13 1) s13) fun r21 s20 => (m11_next_103 n (m11_next_54 n k) ((r21.toInt64) <<< ((8 * (gI s20 4)).toInt64 &&& 63)) (gJ s13 0) s20))) : Option (ej_S)) := rfl
set_option maxRecDepth 20000 in
set_option maxHeartbeats 2000000 in
theorem j11_next_54 (x : cw_T) (n : Nat) {F : ej_F} {r0 : ej_S} (hq : ej_fin (rV x) F none none r0) : ∀ (k : Nat)  (σ : ej_S), ej_J (rV x) F i11_next r0 σ 54 [(0, .ref (cw_a x 200))] [] (m11_next_54 n k  σ) := by
  intro k
  induction k with
  | zero => intro  σ; exact j_none
  | succ k ih =>
    intro  σ
    rw [m11_next_54_s]
    refine j_aload_n 0 rfl d11_next_54 ?_
    refine j_aload_n 0 rfl d11_next_55 ?_
    refine j_get fl_X11_138 (rV_g_200_7 x σ) d11_next_56 ?_
    refine j_callVi (c11_code x n (gI σ 1) σ) lv_X11_141 (rV_rc_200 x σ) ⟨Nat.le_of_ble_eq_true rfl, Nat.le_of_ble_eq_true rfl⟩ d11_next_59 rfl (Nat.le_of_ble_eq_true rfl) (fun r12 s11 => ?_)
    refine j_callSi (c11_goesOn x n r12 s11) ls_X11_164 ⟨Nat.le_of_ble_eq_true rfl, Nat.le_of_ble_eq_true rfl⟩ d11_next_62 rfl (Nat.le_of_ble_eq_true rfl) (fun r14 s13 => ?_)
    refine j_if_eq d11_next_65 ?_ ?_
    · exact j_vreturn hq d11_next_347
    · refine j_aload_n 0 rfl d11_next_68 ?_
      refine j_dup d11_next_69 rfl ?_
      refine j_get fl_X11_154 (rV_g_200_11 x s13) d11_next_70 ?_
      refine j_aload_n 0 rfl d11_next_73 ?_
      refine j_get fl_X11_151 (rV_g_200_10 x s13) d11_next_74 ?_
      refine j_bipush d11_next_77 ejb_8 ?_
      refine j_icmp_ge d11_next_79 ?_ ?_
      · refine j_lconst d11_next_102 ejl_0 ?_
        exact j_sub [0] rfl (j11_next_103 x n hq (m11_next_54 n k) ih 0 (gJ s13 0) s13)
      · refine j_aload_n 0 rfl d11_next_82 ?_
        refine j_aload_n 0 rfl d11_next_83 ?_
        refine j_get fl_X11_138 (rV_g_200_7 x s13) d11_next_84 ?_
        refine j_callVi (c11_code x n (gI s13 1) s13) lv_X11_141 (rV_rc_200 x s13) ⟨Nat.le_of_ble_eq_true rfl, Nat.le_of_ble_eq_true rfl⟩ d11_next_87 rfl (Nat.le_of_ble_eq_true rfl) (fun r21 s20 => ?_)
        refine j_i2l d11_next_90 ?_
        refine j_bipush d11_next_91 ejb_8 ?_
        refine j_aload_n 0 rfl d11_next_93 ?_
        refine j_get fl_X11_151 (rV_g_200_10 x s20) d11_next_94 ?_
        refine j_imul d11_next_97 ?_
        refine j_lshl d11_next_98 ?_
        refine j_goto d11_next_99 ?_
        exact j_sub [0] rfl (j11_next_103 x n hq (m11_next_54 n k) ih ((r21.toInt64) <<< ((8 * (gI s20 4)).toInt64 &&& 63)) (gJ s13 0) s20)
noncomputable def m11_next_325 (n : Nat) (y28 : Int32) (y29 : Int32) (σ : ej_S) : Option (ej_S) := ej_nm (uI σ 2 y29) fun s30 => (if y28 = (-1) then ej_nm (uI s30 1 ((gI s30 1) + 0)) fun s32 => (some s32) else ej_nm (uI s30 1 ((gI s30 1) + 1)) fun s31 => (some s31))
set_option maxRecDepth 20000 in
set_option maxHeartbeats 2000000 in
theorem j11_next_325 (x : cw_T) (n : Nat) {F : ej_F} {r0 : ej_S} (hq : ej_fin (rV x) F none none r0) (y28 : Int32) (y29 : Int32) (σ : ej_S) : ej_J (rV x) F i11_next r0 σ 325 [(0, .ref (cw_a x 200)), (1, .int y28)] [.int y29, .ref (cw_a x 200)] (m11_next_325 n y28 y29 σ) := by
  unfold m11_next_325
  refine j_put fl_X11_161 (rV_p_200_8 x σ y29) rfl rfl d11_next_325 (fun s30 => ?_)
  refine j_aload_n 0 rfl d11_next_328 ?_
  refine j_dup d11_next_329 rfl ?_
  refine j_get fl_X11_138 (rV_g_200_7 x s30) d11_next_330 ?_
  refine j_iload_n 1 rfl d11_next_333 ?_
  refine j_iconst d11_next_334 ejc_m1 ?_
  refine j_icmp_ne d11_next_335 ?_ ?_
  · refine j_iconst d11_next_342 ejc_1 ?_
    refine j_iadd d11_next_343 ?_
    refine j_put fl_X11_138 (rV_p_200_7 x s30 ((gI s30 1) + 1)) rfl rfl d11_next_344 (fun s31 => ?_)
    exact j_vreturn hq d11_next_347
  · refine j_iconst d11_next_338 ejc_0 ?_
    refine j_goto d11_next_339 ?_
    refine j_iadd d11_next_343 ?_
    refine j_put fl_X11_138 (rV_p_200_7 x s30 ((gI s30 1) + 0)) rfl rfl d11_next_344 (fun s32 => ?_)
    exact j_vreturn hq d11_next_347
noncomputable def m11_next_226 (n : Nat) (k : Nat) : ej_S → Option (ej_S) := Nat.rec (motive := fun _ => ej_S → Option (ej_S)) (fun _ => none) (fun _ ih  σ => ej_bi (m11_code n (gI σ 1) σ) fun r35 s34 => ej_bi (m11_isFigure n r35 s34) fun r37 s36 => (if r37 = 0 then (some s36) else (if gI s36 5 ≤ 1000000 then ej_bi (m11_code n (gI s36 1) s36) fun r39 s38 => ej_nm (uI s38 5 (((10 * (gI s36 5)) + r39) - 48)) fun s40 => ej_nm (uI s40 1 ((gI s40 1) + 1)) fun s41 => (ih s41) else ej_nm (uI s36 5 (gI s36 5)) fun s42 => ej_nm (uI s42 1 ((gI s42 1) + 1)) fun s43 => (ih s43)))) k
theorem m11_next_226_s (n : Nat) (k : Nat)  (σ : ej_S) : m11_next_226 n (k + 1)  σ = (ej_bi (m11_code n (gI σ 1) σ) fun r35 s34 => ej_bi (m11_isFigure n r35 s34) fun r37 s36 => (if r37 = 0 then (some s36) else (if gI s36 5 ≤ 1000000 then ej_bi (m11_code n (gI s36 1) s36) fun r39 s38 => ej_nm (uI s38 5 (((10 * (gI s36 5)) + r39) - 48)) fun s40 => ej_nm (uI s40 1 ((gI s40 1) + 1)) fun s41 => ((m11_next_226 n k) s41) else ej_nm (uI s36 5 (gI s36 5)) fun s42 => ej_nm (uI s42 1 ((gI s42 1) + 1)) fun s43 => ((m11_next_226 n k) s43))) : Option (ej_S)) := rfl
set_option maxRecDepth 20000 in
set_option maxHeartbeats 2000000 in
theorem j11_next_226 (x : cw_T) (n : Nat) {F : ej_F} {r0 : ej_S} (hq : ej_fin (rV x) F none none r0) : ∀ (k : Nat)  (σ : ej_S), ej_J (rV x) F i11_next r0 σ 226 [(0, .ref (cw_a x 200))] [] (m11_next_226 n k  σ) := by
  intro k
  induction k with
  | zero => intro  σ; exact j_none
  | succ k ih =>
    intro  σ
    rw [m11_next_226_s]
    refine j_aload_n 0 rfl d11_next_226 ?_
    refine j_aload_n 0 rfl d11_next_227 ?_
    refine j_get fl_X11_138 (rV_g_200_7 x σ) d11_next_228 ?_
    refine j_callVi (c11_code x n (gI σ 1) σ) lv_X11_141 (rV_rc_200 x σ) ⟨Nat.le_of_ble_eq_true rfl, Nat.le_of_ble_eq_true rfl⟩ d11_next_231 rfl (Nat.le_of_ble_eq_true rfl) (fun r35 s34 => ?_)
    refine j_callSi (c11_isFigure x n r35 s34) ls_X11_135 ⟨Nat.le_of_ble_eq_true rfl, Nat.le_of_ble_eq_true rfl⟩ d11_next_234 rfl (Nat.le_of_ble_eq_true rfl) (fun r37 s36 => ?_)
    refine j_if_eq d11_next_237 ?_ ?_
    · exact j_vreturn hq d11_next_347
    · refine j_aload_n 0 rfl d11_next_240 ?_
      refine j_aload_n 0 rfl d11_next_241 ?_
      refine j_get fl_X11_158 (rV_g_200_12 x s36) d11_next_242 ?_
      refine j_ldc d11_next_245 ki_X11_170 ?_
      refine j_icmp_le d11_next_247 ?_ ?_
      · refine j_bipush d11_next_257 ejb_10 ?_
        refine j_aload_n 0 rfl d11_next_259 ?_
        refine j_get fl_X11_158 (rV_g_200_12 x s36) d11_next_260 ?_
        refine j_imul d11_next_263 ?_
        refine j_aload_n 0 rfl d11_next_264 ?_
        refine j_aload_n 0 rfl d11_next_265 ?_
        refine j_get fl_X11_138 (rV_g_200_7 x s36) d11_next_266 ?_
        refine j_callVi (c11_code x n (gI s36 1) s36) lv_X11_141 (rV_rc_200 x s36) ⟨Nat.le_of_ble_eq_true rfl, Nat.le_of_ble_eq_true rfl⟩ d11_next_269 rfl (Nat.le_of_ble_eq_true rfl) (fun r39 s38 => ?_)
        refine j_iadd d11_next_272 ?_
        refine j_bipush d11_next_273 ejb_48 ?_
        refine j_isub d11_next_275 ?_
        refine j_put fl_X11_158 (rV_p_200_12 x s38 (((10 * (gI s36 5)) + r39) - 48)) rfl rfl d11_next_276 (fun s40 => ?_)
        refine j_aload_n 0 rfl d11_next_279 ?_
        refine j_dup d11_next_280 rfl ?_
        refine j_get fl_X11_138 (rV_g_200_7 x s40) d11_next_281 ?_
        refine j_iconst d11_next_284 ejc_1 ?_
        refine j_iadd d11_next_285 ?_
        refine j_put fl_X11_138 (rV_p_200_7 x s40 ((gI s40 1) + 1)) rfl rfl d11_next_286 (fun s41 => ?_)
        refine j_goto d11_next_289 ?_
        exact j_sub [0] rfl (ih s41)
      · refine j_aload_n 0 rfl d11_next_250 ?_
        refine j_get fl_X11_158 (rV_g_200_12 x s36) d11_next_251 ?_
        refine j_goto d11_next_254 ?_
        refine j_put fl_X11_158 (rV_p_200_12 x s36 (gI s36 5)) rfl rfl d11_next_276 (fun s42 => ?_)
        refine j_aload_n 0 rfl d11_next_279 ?_
        refine j_dup d11_next_280 rfl ?_
        refine j_get fl_X11_138 (rV_g_200_7 x s42) d11_next_281 ?_
        refine j_iconst d11_next_284 ejc_1 ?_
        refine j_iadd d11_next_285 ?_
        refine j_put fl_X11_138 (rV_p_200_7 x s42 ((gI s42 1) + 1)) rfl rfl d11_next_286 (fun s43 => ?_)
        refine j_goto d11_next_289 ?_
        exact j_sub [0] rfl (ih s43)
noncomputable def m11_next_188 (n : Nat) (f142 : ej_S → Option (ej_S)) (y49 : Int64) (σ : ej_S) : Option (ej_S) := ej_nm (uJ σ 0 y49) fun s50 => ej_nm (uI s50 4 ((gI s50 4) + 1)) fun s51 => ej_nm (uI s51 1 ((gI s51 1) + 1)) fun s52 => (f142 s52)
set_option maxRecDepth 20000 in
set_option maxHeartbeats 2000000 in
theorem j11_next_188 (x : cw_T) (n : Nat) {F : ej_F} {r0 : ej_S} (hq : ej_fin (rV x) F none none r0) (f142 : ej_S → Option (ej_S)) (H142 : ∀  (σ : ej_S), ej_J (rV x) F i11_next r0 σ 142 [(0, .ref (cw_a x 200))] [] (f142  σ)) (y49 : Int64) (σ : ej_S) : ej_J (rV x) F i11_next r0 σ 188 [(0, .ref (cw_a x 200))] [.long y49, .ref (cw_a x 200)] (m11_next_188 n f142 y49 σ) := by
  unfold m11_next_188
  refine j_put fl_X11_154 (rV_p_200_11 x σ y49) rfl rfl d11_next_188 (fun s50 => ?_)
  refine j_aload_n 0 rfl d11_next_191 ?_
  refine j_dup d11_next_192 rfl ?_
  refine j_get fl_X11_151 (rV_g_200_10 x s50) d11_next_193 ?_
  refine j_iconst d11_next_196 ejc_1 ?_
  refine j_iadd d11_next_197 ?_
  refine j_put fl_X11_151 (rV_p_200_10 x s50 ((gI s50 4) + 1)) rfl rfl d11_next_198 (fun s51 => ?_)
  refine j_aload_n 0 rfl d11_next_201 ?_
  refine j_dup d11_next_202 rfl ?_
  refine j_get fl_X11_138 (rV_g_200_7 x s51) d11_next_203 ?_
  refine j_iconst d11_next_206 ejc_1 ?_
  refine j_iadd d11_next_207 ?_
  refine j_put fl_X11_138 (rV_p_200_7 x s51 ((gI s51 1) + 1)) rfl rfl d11_next_208 (fun s52 => ?_)
  refine j_goto d11_next_211 ?_
  exact j_sub [0] rfl (H142 s52)
noncomputable def m11_next_142 (n : Nat) (k : Nat) : ej_S → Option (ej_S) := Nat.rec (motive := fun _ => ej_S → Option (ej_S)) (fun _ => none) (fun _ ih  σ => ej_bi (m11_code n (gI σ 1) σ) fun r46 s45 => ej_bi (m11_isGreat n r46 s45) fun r48 s47 => (if r48 = 0 then (some s47) else (if 10 ≤ gI s47 4 then (m11_next_188 n ih (gJ s47 0) s47) else ej_bi (m11_code n (gI s47 1) s47) fun r54 s53 => ej_bl (m11_letter n (gJ s47 0) r54 s53) fun r56 s55 => (m11_next_188 n ih r56 s55)))) k
theorem m11_next_142_s (n : Nat) (k : Nat)  (σ : ej_S) : m11_next_142 n (k + 1)  σ = (ej_bi (m11_code n (gI σ 1) σ) fun r46 s45 => ej_bi (m11_isGreat n r46 s45) fun r48 s47 => (if r48 = 0 then (some s47) else (if 10 ≤ gI s47 4 then (m11_next_188 n (m11_next_142 n k) (gJ s47 0) s47) else ej_bi (m11_code n (gI s47 1) s47) fun r54 s53 => ej_bl (m11_letter n (gJ s47 0) r54 s53) fun r56 s55 => (m11_next_188 n (m11_next_142 n k) r56 s55))) : Option (ej_S)) := rfl
set_option maxRecDepth 20000 in
set_option maxHeartbeats 2000000 in
theorem j11_next_142 (x : cw_T) (n : Nat) {F : ej_F} {r0 : ej_S} (hq : ej_fin (rV x) F none none r0) : ∀ (k : Nat)  (σ : ej_S), ej_J (rV x) F i11_next r0 σ 142 [(0, .ref (cw_a x 200))] [] (m11_next_142 n k  σ) := by
  intro k
  induction k with
  | zero => intro  σ; exact j_none
  | succ k ih =>
    intro  σ
    rw [m11_next_142_s]
    refine j_aload_n 0 rfl d11_next_142 ?_
    refine j_aload_n 0 rfl d11_next_143 ?_
    refine j_get fl_X11_138 (rV_g_200_7 x σ) d11_next_144 ?_
    refine j_callVi (c11_code x n (gI σ 1) σ) lv_X11_141 (rV_rc_200 x σ) ⟨Nat.le_of_ble_eq_true rfl, Nat.le_of_ble_eq_true rfl⟩ d11_next_147 rfl (Nat.le_of_ble_eq_true rfl) (fun r46 s45 => ?_)
    refine j_callSi (c11_isGreat x n r46 s45) ls_X11_167 ⟨Nat.le_of_ble_eq_true rfl, Nat.le_of_ble_eq_true rfl⟩ d11_next_150 rfl (Nat.le_of_ble_eq_true rfl) (fun r48 s47 => ?_)
    refine j_if_eq d11_next_153 ?_ ?_
    · exact j_vreturn hq d11_next_347
    · refine j_aload_n 0 rfl d11_next_156 ?_
      refine j_aload_n 0 rfl d11_next_157 ?_
      refine j_get fl_X11_151 (rV_g_200_10 x s47) d11_next_158 ?_
      refine j_bipush d11_next_161 ejb_10 ?_
      refine j_icmp_ge d11_next_163 ?_ ?_
      · refine j_aload_n 0 rfl d11_next_184 ?_
        refine j_get fl_X11_154 (rV_g_200_11 x s47) d11_next_185 ?_
        exact j_sub [0] rfl (j11_next_188 x n hq (m11_next_142 n k) ih (gJ s47 0) s47)
      · refine j_aload_n 0 rfl d11_next_166 ?_
        refine j_get fl_X11_154 (rV_g_200_11 x s47) d11_next_167 ?_
        refine j_aload_n 0 rfl d11_next_170 ?_
        refine j_aload_n 0 rfl d11_next_171 ?_
        refine j_get fl_X11_138 (rV_g_200_7 x s47) d11_next_172 ?_
        refine j_callVi (c11_code x n (gI s47 1) s47) lv_X11_141 (rV_rc_200 x s47) ⟨Nat.le_of_ble_eq_true rfl, Nat.le_of_ble_eq_true rfl⟩ d11_next_175 rfl (Nat.le_of_ble_eq_true rfl) (fun r54 s53 => ?_)
        refine j_callSl (c11_letter x n (gJ s47 0) r54 s53) ls_X11_112 ⟨Nat.le_of_ble_eq_true rfl, Nat.le_of_ble_eq_true rfl⟩ d11_next_178 rfl (Nat.le_of_ble_eq_true rfl) (fun r56 s55 => ?_)
        refine j_goto d11_next_181 ?_
        exact j_sub [0] rfl (j11_next_188 x n hq (m11_next_142 n k) ih r56 s55)
noncomputable def m11_next (n : Nat)  (σ : ej_S) : Option (ej_S) := ej_bv (m11_passesBlanks n σ) fun s1 => ej_nm (uI s1 3 (gI s1 1)) fun s2 => ej_bi (m11_code n (gI s2 1) s2) fun r4 s3 => ej_nm (uI s3 4 0) fun s5 => ej_nm (uJ s5 0 0) fun s6 => ej_nm (uI s6 5 0) fun s7 => ej_bi (m11_isSmall n r4 s7) fun r9 s8 => (if r9 = 0 then (if r4 = 46 then ej_nm (uI s8 2 1) fun s57 => (m11_next_54 n n s57) else ej_bi (m11_isGreat n r4 s8) fun r23 s22 => (if r23 = 0 then ej_bi (m11_isFigure n r4 s22) fun r25 s24 => (if r25 = 0 then (if r4 = (-1) then (m11_next_325 n r4 0 s24) else (if r4 = 10 then (m11_next_325 n r4 59 s24) else ej_bi (m11_isSign n r4 s24) fun r27 s26 => (if r27 = 0 then (m11_next_325 n r4 4 s26) else (m11_next_325 n r4 r4 s26)))) else ej_nm (uI s24 2 3) fun s33 => (m11_next_226 n n s33)) else ej_nm (uI s22 2 2) fun s44 => (m11_next_142 n n s44))) else ej_nm (uI s8 2 1) fun s10 => (m11_next_54 n n s10))
set_option maxRecDepth 20000 in
set_option maxHeartbeats 2000000 in
theorem j11_next (x : cw_T) (n : Nat)  (σ : ej_S) {F : ej_F} {r0 : ej_S} (hq : ej_fin (rV x) F none none r0) : ej_J (rV x) F i11_next r0 σ 0 [(0, .ref (cw_a x 200))] [] (m11_next n  σ) := by
  unfold m11_next
  refine j_aload_n 0 rfl d11_next_0 ?_
  refine j_callVv (c11_passesBlanks x n σ) lv_X11_145 (rV_rc_200 x σ) ⟨Nat.le_of_ble_eq_true rfl, Nat.le_of_ble_eq_true rfl⟩ d11_next_1 rfl (Nat.le_of_ble_eq_true rfl) (fun s1 => ?_)
  refine j_aload_n 0 rfl d11_next_4 ?_
  refine j_aload_n 0 rfl d11_next_5 ?_
  refine j_get fl_X11_138 (rV_g_200_7 x s1) d11_next_6 ?_
  refine j_put fl_X11_148 (rV_p_200_9 x s1 (gI s1 1)) rfl rfl d11_next_9 (fun s2 => ?_)
  refine j_aload_n 0 rfl d11_next_12 ?_
  refine j_aload_n 0 rfl d11_next_13 ?_
  refine j_get fl_X11_138 (rV_g_200_7 x s2) d11_next_14 ?_
  refine j_callVi (c11_code x n (gI s2 1) s2) lv_X11_141 (rV_rc_200 x s2) ⟨Nat.le_of_ble_eq_true rfl, Nat.le_of_ble_eq_true rfl⟩ d11_next_17 rfl (Nat.le_of_ble_eq_true rfl) (fun r4 s3 => ?_)
  refine j_istore_n (i := 1) (L' := [(1, .int r4), (0, .ref (cw_a x 200))]) d11_next_20 rfl (Nat.le_of_ble_eq_true rfl) rfl ?_
  refine j_aload_n 1 rfl d11_next_21 ?_
  refine j_iconst d11_next_22 ejc_0 ?_
  refine j_put fl_X11_151 (rV_p_200_10 x s3 0) rfl rfl d11_next_23 (fun s5 => ?_)
  refine j_aload_n 1 rfl d11_next_26 ?_
  refine j_lconst d11_next_27 ejl_0 ?_
  refine j_put fl_X11_154 (rV_p_200_11 x s5 0) rfl rfl d11_next_28 (fun s6 => ?_)
  refine j_aload_n 1 rfl d11_next_31 ?_
  refine j_iconst d11_next_32 ejc_0 ?_
  refine j_put fl_X11_158 (rV_p_200_12 x s6 0) rfl rfl d11_next_33 (fun s7 => ?_)
  refine j_iload_n 0 rfl d11_next_36 ?_
  refine j_callSi (c11_isSmall x n r4 s7) ls_X11_131 ⟨Nat.le_of_ble_eq_true rfl, Nat.le_of_ble_eq_true rfl⟩ d11_next_37 rfl (Nat.le_of_ble_eq_true rfl) (fun r9 s8 => ?_)
  refine j_if_ne d11_next_40 ?_ ?_
  · refine j_aload_n 1 rfl d11_next_49 ?_
    refine j_iconst d11_next_50 ejc_1 ?_
    refine j_put fl_X11_161 (rV_p_200_8 x s8 1) rfl rfl d11_next_51 (fun s10 => ?_)
    exact j_sub [1] rfl (j11_next_54 x n hq n s10)
  · refine j_iload_n 0 rfl d11_next_43 ?_
    refine j_bipush d11_next_44 ejb_46 ?_
    refine j_icmp_ne d11_next_46 ?_ ?_
    · refine j_iload_n 0 rfl d11_next_130 ?_
      refine j_callSi (c11_isGreat x n r4 s8) ls_X11_167 ⟨Nat.le_of_ble_eq_true rfl, Nat.le_of_ble_eq_true rfl⟩ d11_next_131 rfl (Nat.le_of_ble_eq_true rfl) (fun r23 s22 => ?_)
      refine j_if_eq d11_next_134 ?_ ?_
      · refine j_iload_n 0 rfl d11_next_214 ?_
        refine j_callSi (c11_isFigure x n r4 s22) ls_X11_135 ⟨Nat.le_of_ble_eq_true rfl, Nat.le_of_ble_eq_true rfl⟩ d11_next_215 rfl (Nat.le_of_ble_eq_true rfl) (fun r25 s24 => ?_)
        refine j_if_eq d11_next_218 ?_ ?_
        · refine j_aload_n 1 rfl d11_next_292 ?_
          refine j_iload_n 0 rfl d11_next_293 ?_
          refine j_iconst d11_next_294 ejc_m1 ?_
          refine j_icmp_ne d11_next_295 ?_ ?_
          · refine j_iload_n 0 rfl d11_next_302 ?_
            refine j_bipush d11_next_303 ejb_10 ?_
            refine j_icmp_ne d11_next_305 ?_ ?_
            · refine j_iload_n 0 rfl d11_next_313 ?_
              refine j_callSi (c11_isSign x n r4 s24) ls_X11_171 ⟨Nat.le_of_ble_eq_true rfl, Nat.le_of_ble_eq_true rfl⟩ d11_next_314 rfl (Nat.le_of_ble_eq_true rfl) (fun r27 s26 => ?_)
              refine j_if_eq d11_next_317 ?_ ?_
              · refine j_iconst d11_next_324 ejc_4 ?_
                exact j_sub [1, 0] rfl (j11_next_325 x n hq r4 4 s26)
              · refine j_iload_n 0 rfl d11_next_320 ?_
                refine j_goto d11_next_321 ?_
                exact j_sub [1, 0] rfl (j11_next_325 x n hq r4 r4 s26)
            · refine j_bipush d11_next_308 ejb_59 ?_
              refine j_goto d11_next_310 ?_
              exact j_sub [1, 0] rfl (j11_next_325 x n hq r4 59 s24)
          · refine j_iconst d11_next_298 ejc_0 ?_
            refine j_goto d11_next_299 ?_
            exact j_sub [1, 0] rfl (j11_next_325 x n hq r4 0 s24)
        · refine j_aload_n 1 rfl d11_next_221 ?_
          refine j_iconst d11_next_222 ejc_3 ?_
          refine j_put fl_X11_161 (rV_p_200_8 x s24 3) rfl rfl d11_next_223 (fun s33 => ?_)
          exact j_sub [1] rfl (j11_next_226 x n hq n s33)
      · refine j_aload_n 1 rfl d11_next_137 ?_
        refine j_iconst d11_next_138 ejc_2 ?_
        refine j_put fl_X11_161 (rV_p_200_8 x s22 2) rfl rfl d11_next_139 (fun s44 => ?_)
        exact j_sub [1] rfl (j11_next_142 x n hq n s44)
    · refine j_aload_n 1 rfl d11_next_49 ?_
      refine j_iconst d11_next_50 ejc_1 ?_
      refine j_put fl_X11_161 (rV_p_200_8 x s8 1) rfl rfl d11_next_51 (fun s57 => ?_)
      exact j_sub [1] rfl (j11_next_54 x n hq n s57)
theorem c11_next (x : cw_T) (n : Nat)  (σ : ej_S) : ∀ σ1, m11_next n  σ = some σ1 → ∀ l, ej_Con l (rV x) i11_next yX11_next none [.ref (cw_a x 200)] σ none σ1 := fun σ1 h l => ej_con_of (rV_ok x) pn_X11 rfl (Nat.le_of_ble_eq_true rfl) rfl h (fun F hq => j11_next x n  σ hq)

noncomputable def m11_fails (n : Nat) (a1 : Int32) (a2 : Int32) (σ : ej_S) : Option (Int32 × ej_S) := ej_nm (uI σ 9 a1) fun s1 => ej_nm (uI s1 10 a2) fun s2 => (some (0, s2))
set_option maxRecDepth 20000 in
set_option maxHeartbeats 2000000 in
theorem j11_fails (x : cw_T) (n : Nat) (a1 : Int32) (a2 : Int32) (σ : ej_S) {F : ej_F} {r0 : Int32 × ej_S} (hq : ej_fin (rV x) F (some .boolean) (some (.int r0.1)) r0.2) : ej_J (rV x) F i11_fails r0 σ 0 [(0, .ref (cw_a x 200)), (1, .int a1), (2, .int a2)] [] (m11_fails n a1 a2 σ) := by
  unfold m11_fails
  refine j_aload_n 0 rfl d11_fails_0 ?_
  refine j_iload_n 1 rfl d11_fails_1 ?_
  refine j_put fl_X11_174 (rV_p_200_16 x σ a1) rfl rfl d11_fails_2 (fun s1 => ?_)
  refine j_aload_n 0 rfl d11_fails_5 ?_
  refine j_iload_n 2 rfl d11_fails_6 ?_
  refine j_put fl_X11_177 (rV_p_200_17 x s1 a2) rfl rfl d11_fails_7 (fun s2 => ?_)
  refine j_iconst d11_fails_10 ejc_0 ?_
  exact j_zreturn0 hq d11_fails_11
theorem c11_fails (x : cw_T) (n : Nat) (a1 : Int32) (a2 : Int32) (σ : ej_S) : ∀ r σ1, m11_fails n a1 a2 σ = some (r, σ1) → ∀ l, ej_Con l (rV x) i11_fails yX11_fails (some .boolean) [.ref (cw_a x 200), .int a1, .int a2] σ (some (.int r)) σ1 := fun r σ1 h l => ej_con_of (rV_ok x) pn_X11 rfl (Nat.le_of_ble_eq_true rfl) rfl h (fun F hq => j11_fails x n a1 a2 σ hq)

noncomputable def m11_failsHere (n : Nat) (a1 : Int32) (σ : ej_S) : Option (Int32 × ej_S) := ej_bi (m11_fails n a1 (gI σ 3) σ) fun r2 s1 => (some (ej_bz r2, s1))
set_option maxRecDepth 20000 in
set_option maxHeartbeats 2000000 in
theorem j11_failsHere (x : cw_T) (n : Nat) (a1 : Int32) (σ : ej_S) {F : ej_F} {r0 : Int32 × ej_S} (hq : ej_fin (rV x) F (some .boolean) (some (.int r0.1)) r0.2) : ej_J (rV x) F i11_failsHere r0 σ 0 [(0, .ref (cw_a x 200)), (1, .int a1)] [] (m11_failsHere n a1 σ) := by
  unfold m11_failsHere
  refine j_aload_n 0 rfl d11_failsHere_0 ?_
  refine j_iload_n 1 rfl d11_failsHere_1 ?_
  refine j_aload_n 0 rfl d11_failsHere_2 ?_
  refine j_get fl_X11_148 (rV_g_200_9 x σ) d11_failsHere_3 ?_
  refine j_callVi (c11_fails x n a1 (gI σ 3) σ) lv_X11_180 (rV_rc_200 x σ) ⟨Nat.le_of_ble_eq_true rfl, Nat.le_of_ble_eq_true rfl⟩ d11_failsHere_6 rfl (Nat.le_of_ble_eq_true rfl) (fun r2 s1 => ?_)
  exact j_zreturn hq d11_failsHere_9
theorem c11_failsHere (x : cw_T) (n : Nat) (a1 : Int32) (σ : ej_S) : ∀ r σ1, m11_failsHere n a1 σ = some (r, σ1) → ∀ l, ej_Con l (rV x) i11_failsHere yX11_failsHere (some .boolean) [.ref (cw_a x 200), .int a1] σ (some (.int r)) σ1 := fun r σ1 h l => ej_con_of (rV_ok x) pn_X11 rfl (Nat.le_of_ble_eq_true rfl) rfl h (fun F hq => j11_failsHere x n a1 σ hq)

noncomputable def m11_isFactor_114 (n : Nat) (y3 : Int32) (y4 : Int32) (σ : ej_S) : Option (Int32 × ej_S) := ej_nm (uI σ 14 y4) fun s5 => (if y3 = (-1) then ej_bi (m11_failsHere n 3 s5) fun r7 s6 => (if r7 = 0 then (some (0, s6)) else (some (1, s6))) else (some (1, s5)))
set_option maxRecDepth 20000 in
set_option maxHeartbeats 2000000 in
theorem j11_isFactor_114 (x : cw_T) (n : Nat) {F : ej_F} {r0 : Int32 × ej_S} (hq : ej_fin (rV x) F (some .boolean) (some (.int r0.1)) r0.2) (y3 : Int32) (y4 : Int32) (σ : ej_S) : ej_J (rV x) F i11_isFactor r0 σ 114 [(0, .ref (cw_a x 200)), (1, .int y3)] [.int y4, .ref (cw_a x 200)] (m11_isFactor_114 n y3 y4 σ) := by
  unfold m11_isFactor_114
  refine j_put fl_X11_184 (rV_p_200_27 x σ y4) rfl rfl d11_isFactor_114 (fun s5 => ?_)
  refine j_iload_n 1 rfl d11_isFactor_117 ?_
  refine j_iconst d11_isFactor_118 ejc_m1 ?_
  refine j_icmp_ne d11_isFactor_119 ?_ ?_
  · refine j_iconst d11_isFactor_130 ejc_1 ?_
    refine j_goto d11_isFactor_131 ?_
    exact j_zreturn1 hq d11_isFactor_135
  · refine j_aload_n 0 rfl d11_isFactor_122 ?_
    refine j_iconst d11_isFactor_123 ejc_3 ?_
    refine j_callVi (c11_failsHere x n 3 s5) lv_X11_187 (rV_rc_200 x s5) ⟨Nat.le_of_ble_eq_true rfl, Nat.le_of_ble_eq_true rfl⟩ d11_isFactor_124 rfl (Nat.le_of_ble_eq_true rfl) (fun r7 s6 => ?_)
    refine j_if_eq d11_isFactor_127 ?_ ?_
    · refine j_iconst d11_isFactor_134 ejc_0 ?_
      exact j_zreturn0 hq d11_isFactor_135
    · refine j_iconst d11_isFactor_130 ejc_1 ?_
      refine j_goto d11_isFactor_131 ?_
      exact j_zreturn1 hq d11_isFactor_135
noncomputable def m11_isFactor_57 (n : Nat) (k : Nat) : Int32 → Int32 → ej_S → Option (Int32 × ej_S) := Nat.rec (motive := fun _ => Int32 → Int32 → ej_S → Option (Int32 × ej_S)) (fun _ _ _ => none) (fun _ ih y1 y2 σ => (if 10 ≤ y2 then (if y1 = (-1) then (m11_isFactor_114 n y1 0 σ) else ej_ck y1 10 ((m11_isFactor_114 n y1 (gA σ 4 y1.toNatClampNeg) σ))) else ej_ck y2 10 ((if lg_cmp (gB σ 0 y2.toNatClampNeg) (gJ σ 0) = 0 then (if 10 ≤ gI σ 4 then ej_nm (y2 + 1) fun x9 => (ih y1 x9 σ) else ej_nm (y2 + 1) fun x10 => (ih y2 x10 σ)) else ej_nm (y2 + 1) fun x8 => (ih y1 x8 σ))))) k
theorem m11_isFactor_57_s (n : Nat) (k : Nat) (y1 : Int32) (y2 : Int32) (σ : ej_S) : m11_isFactor_57 n (k + 1) y1 y2 σ = ((if 10 ≤ y2 then (if y1 = (-1) then (m11_isFactor_114 n y1 0 σ) else ej_ck y1 10 ((m11_isFactor_114 n y1 (gA σ 4 y1.toNatClampNeg) σ))) else ej_ck y2 10 ((if lg_cmp (gB σ 0 y2.toNatClampNeg) (gJ σ 0) = 0 then (if 10 ≤ gI σ 4 then ej_nm (y2 + 1) fun x9 => ((m11_isFactor_57 n k) y1 x9 σ) else ej_nm (y2 + 1) fun x10 => ((m11_isFactor_57 n k) y2 x10 σ)) else ej_nm (y2 + 1) fun x8 => ((m11_isFactor_57 n k) y1 x8 σ)))) : Option (Int32 × ej_S)) := rfl
set_option maxRecDepth 20000 in
set_option maxHeartbeats 2000000 in
theorem j11_isFactor_57 (x : cw_T) (n : Nat) {F : ej_F} {r0 : Int32 × ej_S} (hq : ej_fin (rV x) F (some .boolean) (some (.int r0.1)) r0.2) : ∀ (k : Nat) (y1 : Int32) (y2 : Int32) (σ : ej_S), ej_J (rV x) F i11_isFactor r0 σ 57 [(0, .ref (cw_a x 200)), (1, .int y1), (2, .int y2)] [] (m11_isFactor_57 n k y1 y2 σ) := by
  intro k
  induction k with
  | zero => intro y1 y2 σ; exact j_none
  | succ k ih =>
    intro y1 y2 σ
    rw [m11_isFactor_57_s]
    refine j_iload_n 2 rfl d11_isFactor_57 ?_
    refine j_bipush d11_isFactor_58 ejb_10 ?_
    refine j_icmp_ge d11_isFactor_60 ?_ ?_
    · refine j_aload_n 0 rfl d11_isFactor_98 ?_
      refine j_iload_n 1 rfl d11_isFactor_99 ?_
      refine j_iconst d11_isFactor_100 ejc_m1 ?_
      refine j_icmp_ne d11_isFactor_101 ?_ ?_
      · refine j_aload_n 0 rfl d11_isFactor_108 ?_
        refine j_get fl_X11_26 (rV_g_200_5 x σ) d11_isFactor_109 ?_
        refine j_iload_n 1 rfl d11_isFactor_112 ?_
        refine j_iald (rV_a_206 x σ) d11_isFactor_113 ?_
        exact j_sub [0, 1] rfl (j11_isFactor_114 x n hq y1 (gA σ 4 y1.toNatClampNeg) σ)
      · refine j_iconst d11_isFactor_104 ejc_0 ?_
        refine j_goto d11_isFactor_105 ?_
        exact j_sub [0, 1] rfl (j11_isFactor_114 x n hq y1 0 σ)
    · refine j_aload_n 0 rfl d11_isFactor_63 ?_
      refine j_get fl_X11_22 (rV_g_200_4 x σ) d11_isFactor_64 ?_
      refine j_iload_n 2 rfl d11_isFactor_67 ?_
      refine j_lald (rV_a_205 x σ) d11_isFactor_68 ?_
      refine j_aload_n 0 rfl d11_isFactor_69 ?_
      refine j_get fl_X11_154 (rV_g_200_11 x σ) d11_isFactor_70 ?_
      refine j_lcmp d11_isFactor_73 ?_
      refine j_if_ne d11_isFactor_74 ?_ ?_
      · refine j_iload_n 1 rfl d11_isFactor_90 ?_
        refine j_istore_n (i := 1) (L' := [(1, .int y1), (0, .ref (cw_a x 200)), (2, .int y2)]) d11_isFactor_91 rfl (Nat.le_of_ble_eq_true rfl) rfl ?_
        refine j_iinc (i := 2) (v := 1) (Ly := fun x8 => [(2, .int x8), (1, .int y1), (0, .ref (cw_a x 200))]) 2 d11_isFactor_92 rfl ejc_1 (Nat.le_of_ble_eq_true rfl) (fun _ => rfl) (fun x8 => ?_)
        refine j_goto d11_isFactor_95 ?_
        exact j_sub [2, 1, 0] rfl (ih y1 x8 σ)
      · refine j_aload_n 0 rfl d11_isFactor_77 ?_
        refine j_get fl_X11_151 (rV_g_200_10 x σ) d11_isFactor_78 ?_
        refine j_bipush d11_isFactor_81 ejb_10 ?_
        refine j_icmp_ge d11_isFactor_83 ?_ ?_
        · refine j_iload_n 1 rfl d11_isFactor_90 ?_
          refine j_istore_n (i := 1) (L' := [(1, .int y1), (0, .ref (cw_a x 200)), (2, .int y2)]) d11_isFactor_91 rfl (Nat.le_of_ble_eq_true rfl) rfl ?_
          refine j_iinc (i := 2) (v := 1) (Ly := fun x9 => [(2, .int x9), (1, .int y1), (0, .ref (cw_a x 200))]) 2 d11_isFactor_92 rfl ejc_1 (Nat.le_of_ble_eq_true rfl) (fun _ => rfl) (fun x9 => ?_)
          refine j_goto d11_isFactor_95 ?_
          exact j_sub [2, 1, 0] rfl (ih y1 x9 σ)
        · refine j_iload_n 2 rfl d11_isFactor_86 ?_
          refine j_goto d11_isFactor_87 ?_
          refine j_istore_n (i := 1) (L' := [(1, .int y2), (0, .ref (cw_a x 200)), (2, .int y2)]) d11_isFactor_91 rfl (Nat.le_of_ble_eq_true rfl) rfl ?_
          refine j_iinc (i := 2) (v := 1) (Ly := fun x10 => [(2, .int x10), (1, .int y2), (0, .ref (cw_a x 200))]) 2 d11_isFactor_92 rfl ejc_1 (Nat.le_of_ble_eq_true rfl) (fun _ => rfl) (fun x10 => ?_)
          refine j_goto d11_isFactor_95 ?_
          exact j_sub [2, 1, 0] rfl (ih y2 x10 σ)
noncomputable def m11_isFactor (n : Nat)  (σ : ej_S) : Option (Int32 × ej_S) := (if gI σ 2 = 3 then ej_nm (uI σ 14 (gI σ 5)) fun s13 => (if gI s13 5 ≤ 1000000 then (some (1, s13)) else ej_bi (m11_failsHere n 4 s13) fun r15 s14 => (if r15 = 0 then (some (0, s14)) else (some (1, s14)))) else (if gI σ 2 = 2 then (m11_isFactor_57 n n (-1) 0 σ) else ej_bi (m11_failsHere n 1 σ) fun r12 s11 => (some (ej_bz r12, s11))))
set_option maxRecDepth 20000 in
set_option maxHeartbeats 2000000 in
theorem j11_isFactor (x : cw_T) (n : Nat)  (σ : ej_S) {F : ej_F} {r0 : Int32 × ej_S} (hq : ej_fin (rV x) F (some .boolean) (some (.int r0.1)) r0.2) : ej_J (rV x) F i11_isFactor r0 σ 0 [(0, .ref (cw_a x 200))] [] (m11_isFactor n  σ) := by
  unfold m11_isFactor
  refine j_aload_n 0 rfl d11_isFactor_0 ?_
  refine j_get fl_X11_161 (rV_g_200_8 x σ) d11_isFactor_1 ?_
  refine j_iconst d11_isFactor_4 ejc_3 ?_
  refine j_icmp_ne d11_isFactor_5 ?_ ?_
  · refine j_aload_n 0 rfl d11_isFactor_39 ?_
    refine j_get fl_X11_161 (rV_g_200_8 x σ) d11_isFactor_40 ?_
    refine j_iconst d11_isFactor_43 ejc_2 ?_
    refine j_icmp_eq d11_isFactor_44 ?_ ?_
    · refine j_iconst d11_isFactor_53 ejc_m1 ?_
      refine j_istore_n (i := 1) (L' := [(1, .int (-1)), (0, .ref (cw_a x 200))]) d11_isFactor_54 rfl (Nat.le_of_ble_eq_true rfl) rfl ?_
      refine j_iconst d11_isFactor_55 ejc_0 ?_
      refine j_istore_n (i := 2) (L' := [(2, .int 0), (1, .int (-1)), (0, .ref (cw_a x 200))]) d11_isFactor_56 rfl (Nat.le_of_ble_eq_true rfl) rfl ?_
      exact j_sub [2, 1, 0] rfl (j11_isFactor_57 x n hq n (-1) 0 σ)
    · refine j_aload_n 0 rfl d11_isFactor_47 ?_
      refine j_iconst d11_isFactor_48 ejc_1 ?_
      refine j_callVi (c11_failsHere x n 1 σ) lv_X11_187 (rV_rc_200 x σ) ⟨Nat.le_of_ble_eq_true rfl, Nat.le_of_ble_eq_true rfl⟩ d11_isFactor_49 rfl (Nat.le_of_ble_eq_true rfl) (fun r12 s11 => ?_)
      exact j_zreturn hq d11_isFactor_52
  · refine j_aload_n 0 rfl d11_isFactor_8 ?_
    refine j_aload_n 0 rfl d11_isFactor_9 ?_
    refine j_get fl_X11_158 (rV_g_200_12 x σ) d11_isFactor_10 ?_
    refine j_put fl_X11_184 (rV_p_200_27 x σ (gI σ 5)) rfl rfl d11_isFactor_13 (fun s13 => ?_)
    refine j_aload_n 0 rfl d11_isFactor_16 ?_
    refine j_get fl_X11_158 (rV_g_200_12 x s13) d11_isFactor_17 ?_
    refine j_ldc d11_isFactor_20 ki_X11_170 ?_
    refine j_icmp_le d11_isFactor_22 ?_ ?_
    · refine j_iconst d11_isFactor_33 ejc_1 ?_
      refine j_goto d11_isFactor_34 ?_
      exact j_zreturn1 hq d11_isFactor_38
    · refine j_aload_n 0 rfl d11_isFactor_25 ?_
      refine j_iconst d11_isFactor_26 ejc_4 ?_
      refine j_callVi (c11_failsHere x n 4 s13) lv_X11_187 (rV_rc_200 x s13) ⟨Nat.le_of_ble_eq_true rfl, Nat.le_of_ble_eq_true rfl⟩ d11_isFactor_27 rfl (Nat.le_of_ble_eq_true rfl) (fun r15 s14 => ?_)
      refine j_if_eq d11_isFactor_30 ?_ ?_
      · refine j_iconst d11_isFactor_37 ejc_0 ?_
        exact j_zreturn0 hq d11_isFactor_38
      · refine j_iconst d11_isFactor_33 ejc_1 ?_
        refine j_goto d11_isFactor_34 ?_
        exact j_zreturn1 hq d11_isFactor_38
theorem c11_isFactor (x : cw_T) (n : Nat)  (σ : ej_S) : ∀ r σ1, m11_isFactor n  σ = some (r, σ1) → ∀ l, ej_Con l (rV x) i11_isFactor yX11_isFactor (some .boolean) [.ref (cw_a x 200)] σ (some (.int r)) σ1 := fun r σ1 h l => ej_con_of (rV_ok x) pn_X11 rfl (Nat.le_of_ble_eq_true rfl) rfl h (fun F hq => j11_isFactor x n  σ hq)

noncomputable def m11_isWorked_64 (n : Nat) (y5 : Int32) (y6 : Int64) (σ : ej_S) : Option (Int32 × ej_S) := ej_nm (uI σ 14 (y6.toInt32)) fun s7 => (if 0 < lg_cmp y6 1000000 then ej_bi (m11_fails n 4 y5 s7) fun r9 s8 => (if r9 = 0 then (some (0, s8)) else (some (1, s8))) else (if 0 ≤ lg_cmp y6 (-1000000) then (some (1, s7)) else ej_bi (m11_fails n 4 y5 s7) fun r11 s10 => (if r11 = 0 then (some (0, s10)) else (some (1, s10)))))
set_option maxRecDepth 20000 in
set_option maxHeartbeats 2000000 in
theorem j11_isWorked_64 (x : cw_T) (n : Nat) {F : ej_F} {r0 : Int32 × ej_S} (hq : ej_fin (rV x) F (some .boolean) (some (.int r0.1)) r0.2) (y5 : Int32) (y6 : Int64) (σ : ej_S) : ej_J (rV x) F i11_isWorked r0 σ 64 [(0, .ref (cw_a x 200)), (4, .int y5)] [.long y6] (m11_isWorked_64 n y5 y6 σ) := by
  unfold m11_isWorked_64
  refine j_lstore (i := 5) (L' := [(5, .long y6), (0, .ref (cw_a x 200)), (4, .int y5)]) d11_isWorked_64 (Nat.le_of_ble_eq_true rfl) rfl ?_
  refine j_aload_n 1 rfl d11_isWorked_66 ?_
  refine j_lload 0 rfl d11_isWorked_67 ?_
  refine j_l2i d11_isWorked_69 ?_
  refine j_put fl_X11_184 (rV_p_200_27 x σ (y6.toInt32)) rfl rfl d11_isWorked_70 (fun s7 => ?_)
  refine j_lload 0 rfl d11_isWorked_73 ?_
  refine j_ldc2 d11_isWorked_75 kl_X11_190 ?_
  refine j_lcmp d11_isWorked_78 ?_
  refine j_if_gt d11_isWorked_79 ?_ ?_
  · refine j_aload_n 1 rfl d11_isWorked_91 ?_
    refine j_iconst d11_isWorked_92 ejc_4 ?_
    refine j_iload 2 rfl d11_isWorked_93 ?_
    refine j_callVi (c11_fails x n 4 y5 s7) lv_X11_180 (rV_rc_200 x s7) ⟨Nat.le_of_ble_eq_true rfl, Nat.le_of_ble_eq_true rfl⟩ d11_isWorked_95 rfl (Nat.le_of_ble_eq_true rfl) (fun r9 s8 => ?_)
    refine j_if_eq d11_isWorked_98 ?_ ?_
    · refine j_iconst d11_isWorked_105 ejc_0 ?_
      exact j_zreturn0 hq d11_isWorked_106
    · refine j_iconst d11_isWorked_101 ejc_1 ?_
      refine j_goto d11_isWorked_102 ?_
      exact j_zreturn1 hq d11_isWorked_106
  · refine j_lload 0 rfl d11_isWorked_82 ?_
    refine j_ldc2 d11_isWorked_84 kl_X11_192 ?_
    refine j_lcmp d11_isWorked_87 ?_
    refine j_if_ge d11_isWorked_88 ?_ ?_
    · refine j_iconst d11_isWorked_101 ejc_1 ?_
      refine j_goto d11_isWorked_102 ?_
      exact j_zreturn1 hq d11_isWorked_106
    · refine j_aload_n 1 rfl d11_isWorked_91 ?_
      refine j_iconst d11_isWorked_92 ejc_4 ?_
      refine j_iload 2 rfl d11_isWorked_93 ?_
      refine j_callVi (c11_fails x n 4 y5 s7) lv_X11_180 (rV_rc_200 x s7) ⟨Nat.le_of_ble_eq_true rfl, Nat.le_of_ble_eq_true rfl⟩ d11_isWorked_95 rfl (Nat.le_of_ble_eq_true rfl) (fun r11 s10 => ?_)
      refine j_if_eq d11_isWorked_98 ?_ ?_
      · refine j_iconst d11_isWorked_105 ejc_0 ?_
        exact j_zreturn0 hq d11_isWorked_106
      · refine j_iconst d11_isWorked_101 ejc_1 ?_
        refine j_goto d11_isWorked_102 ?_
        exact j_zreturn1 hq d11_isWorked_106
noncomputable def m11_isWorked_18 (n : Nat) (y1 : Int32) (y2 : Int32) (y3 : Int32) (y4 : Int32) (σ : ej_S) : Option (Int32 × ej_S) := (if y1 = 43 then (m11_isWorked_64 n y4 ((y2.toInt64) + (y3.toInt64)) σ) else (if y1 = 45 then (m11_isWorked_64 n y4 ((y2.toInt64) - (y3.toInt64)) σ) else (if y1 = 42 then (m11_isWorked_64 n y4 ((y2.toInt64) * (y3.toInt64)) σ) else ej_dv y3 ((m11_isWorked_64 n y4 ((y2 / y3).toInt64) σ)))))
set_option maxRecDepth 20000 in
set_option maxHeartbeats 2000000 in
theorem j11_isWorked_18 (x : cw_T) (n : Nat) {F : ej_F} {r0 : Int32 × ej_S} (hq : ej_fin (rV x) F (some .boolean) (some (.int r0.1)) r0.2) (y1 : Int32) (y2 : Int32) (y3 : Int32) (y4 : Int32) (σ : ej_S) : ej_J (rV x) F i11_isWorked r0 σ 18 [(0, .ref (cw_a x 200)), (1, .int y1), (2, .int y2), (3, .int y3), (4, .int y4)] [] (m11_isWorked_18 n y1 y2 y3 y4 σ) := by
  unfold m11_isWorked_18
  refine j_iload_n 1 rfl d11_isWorked_18 ?_
  refine j_bipush d11_isWorked_19 ejb_43 ?_
  refine j_icmp_ne d11_isWorked_21 ?_ ?_
  · refine j_iload_n 1 rfl d11_isWorked_32 ?_
    refine j_bipush d11_isWorked_33 ejb_45 ?_
    refine j_icmp_ne d11_isWorked_35 ?_ ?_
    · refine j_iload_n 1 rfl d11_isWorked_46 ?_
      refine j_bipush d11_isWorked_47 ejb_42 ?_
      refine j_icmp_ne d11_isWorked_49 ?_ ?_
      · refine j_iload_n 2 rfl d11_isWorked_60 ?_
        refine j_iload_n 3 rfl d11_isWorked_61 ?_
        refine j_idiv d11_isWorked_62 ?_
        refine j_i2l d11_isWorked_63 ?_
        exact j_sub [0, 4] rfl (j11_isWorked_64 x n hq y4 ((y2 / y3).toInt64) σ)
      · refine j_iload_n 2 rfl d11_isWorked_52 ?_
        refine j_i2l d11_isWorked_53 ?_
        refine j_iload_n 3 rfl d11_isWorked_54 ?_
        refine j_i2l d11_isWorked_55 ?_
        refine j_lmul d11_isWorked_56 ?_
        refine j_goto d11_isWorked_57 ?_
        exact j_sub [0, 4] rfl (j11_isWorked_64 x n hq y4 ((y2.toInt64) * (y3.toInt64)) σ)
    · refine j_iload_n 2 rfl d11_isWorked_38 ?_
      refine j_i2l d11_isWorked_39 ?_
      refine j_iload_n 3 rfl d11_isWorked_40 ?_
      refine j_i2l d11_isWorked_41 ?_
      refine j_lsub d11_isWorked_42 ?_
      refine j_goto d11_isWorked_43 ?_
      exact j_sub [0, 4] rfl (j11_isWorked_64 x n hq y4 ((y2.toInt64) - (y3.toInt64)) σ)
  · refine j_iload_n 2 rfl d11_isWorked_24 ?_
    refine j_i2l d11_isWorked_25 ?_
    refine j_iload_n 3 rfl d11_isWorked_26 ?_
    refine j_i2l d11_isWorked_27 ?_
    refine j_ladd d11_isWorked_28 ?_
    refine j_goto d11_isWorked_29 ?_
    exact j_sub [0, 4] rfl (j11_isWorked_64 x n hq y4 ((y2.toInt64) + (y3.toInt64)) σ)
noncomputable def m11_isWorked (n : Nat) (a1 : Int32) (a2 : Int32) (a3 : Int32) (a4 : Int32) (σ : ej_S) : Option (Int32 × ej_S) := (if a1 = 47 then (if a3 = 0 then ej_bi (m11_fails n 4 a4 σ) fun r13 s12 => (some (ej_bz r13, s12)) else (m11_isWorked_18 n a1 a2 a3 a4 σ)) else (m11_isWorked_18 n a1 a2 a3 a4 σ))
set_option maxRecDepth 20000 in
set_option maxHeartbeats 2000000 in
theorem j11_isWorked (x : cw_T) (n : Nat) (a1 : Int32) (a2 : Int32) (a3 : Int32) (a4 : Int32) (σ : ej_S) {F : ej_F} {r0 : Int32 × ej_S} (hq : ej_fin (rV x) F (some .boolean) (some (.int r0.1)) r0.2) : ej_J (rV x) F i11_isWorked r0 σ 0 [(0, .ref (cw_a x 200)), (1, .int a1), (2, .int a2), (3, .int a3), (4, .int a4)] [] (m11_isWorked n a1 a2 a3 a4 σ) := by
  unfold m11_isWorked
  refine j_iload_n 1 rfl d11_isWorked_0 ?_
  refine j_bipush d11_isWorked_1 ejb_47 ?_
  refine j_icmp_ne d11_isWorked_3 ?_ ?_
  · exact j_sub [0, 1, 2, 3, 4] rfl (j11_isWorked_18 x n hq a1 a2 a3 a4 σ)
  · refine j_iload_n 3 rfl d11_isWorked_6 ?_
    refine j_if_ne d11_isWorked_7 ?_ ?_
    · exact j_sub [0, 1, 2, 3, 4] rfl (j11_isWorked_18 x n hq a1 a2 a3 a4 σ)
    · refine j_aload_n 0 rfl d11_isWorked_10 ?_
      refine j_iconst d11_isWorked_11 ejc_4 ?_
      refine j_iload 4 rfl d11_isWorked_12 ?_
      refine j_callVi (c11_fails x n 4 a4 σ) lv_X11_180 (rV_rc_200 x σ) ⟨Nat.le_of_ble_eq_true rfl, Nat.le_of_ble_eq_true rfl⟩ d11_isWorked_14 rfl (Nat.le_of_ble_eq_true rfl) (fun r13 s12 => ?_)
      exact j_zreturn hq d11_isWorked_17
theorem c11_isWorked (x : cw_T) (n : Nat) (a1 : Int32) (a2 : Int32) (a3 : Int32) (a4 : Int32) (σ : ej_S) : ∀ r σ1, m11_isWorked n a1 a2 a3 a4 σ = some (r, σ1) → ∀ l, ej_Con l (rV x) i11_isWorked yX11_isWorked (some .boolean) [.ref (cw_a x 200), .int a1, .int a2, .int a3, .int a4] σ (some (.int r)) σ1 := fun r σ1 h l => ej_con_of (rV_ok x) pn_X11 rfl (Nat.le_of_ble_eq_true rfl) rfl h (fun F hq => j11_isWorked x n a1 a2 a3 a4 σ hq)

noncomputable def m11_closes_70 (n : Nat)  (σ : ej_S) : Option (Int32 × ej_S) := ej_ck (gI σ 13) 602 (ej_nm (uA σ 8 ((gI σ 13).toNatClampNeg) (gI σ 14)) fun s1 => ej_ck (gI s1 13) 602 (ej_nm (uA s1 9 ((gI s1 13).toNatClampNeg) (gI s1 2)) fun s2 => ej_ck (gI s2 13) 602 (ej_nm (uA s2 10 ((gI s2 13).toNatClampNeg) (gI s2 3)) fun s3 => ej_bv (m11_next n s3) fun s4 => (some (0, s4)))))
set_option maxRecDepth 20000 in
set_option maxHeartbeats 2000000 in
theorem j11_closes_70 (x : cw_T) (n : Nat) {F : ej_F} {r0 : Int32 × ej_S} (hq : ej_fin (rV x) F (some .int) (some (.int r0.1)) r0.2)  (σ : ej_S) : ej_J (rV x) F i11_closes r0 σ 70 [(0, .ref (cw_a x 200))] [] (m11_closes_70 n  σ) := by
  unfold m11_closes_70
  refine j_aload_n 0 rfl d11_closes_70 ?_
  refine j_get fl_X11_38 (rV_g_200_23 x σ) d11_closes_71 ?_
  refine j_aload_n 0 rfl d11_closes_74 ?_
  refine j_get fl_X11_194 (rV_g_200_26 x σ) d11_closes_75 ?_
  refine j_aload_n 0 rfl d11_closes_78 ?_
  refine j_get fl_X11_184 (rV_g_200_27 x σ) d11_closes_79 ?_
  refine j_iast (rV_s_210 x σ ((gI σ 13).toNatClampNeg) (gI σ 14)) d11_closes_82 (fun s1 => ?_)
  refine j_aload_n 0 rfl d11_closes_83 ?_
  refine j_get fl_X11_41 (rV_g_200_24 x s1) d11_closes_84 ?_
  refine j_aload_n 0 rfl d11_closes_87 ?_
  refine j_get fl_X11_194 (rV_g_200_26 x s1) d11_closes_88 ?_
  refine j_aload_n 0 rfl d11_closes_91 ?_
  refine j_get fl_X11_161 (rV_g_200_8 x s1) d11_closes_92 ?_
  refine j_iast (rV_s_211 x s1 ((gI s1 13).toNatClampNeg) (gI s1 2)) d11_closes_95 (fun s2 => ?_)
  refine j_aload_n 0 rfl d11_closes_96 ?_
  refine j_get fl_X11_44 (rV_g_200_25 x s2) d11_closes_97 ?_
  refine j_aload_n 0 rfl d11_closes_100 ?_
  refine j_get fl_X11_194 (rV_g_200_26 x s2) d11_closes_101 ?_
  refine j_aload_n 0 rfl d11_closes_104 ?_
  refine j_get fl_X11_148 (rV_g_200_9 x s2) d11_closes_105 ?_
  refine j_iast (rV_s_212 x s2 ((gI s2 13).toNatClampNeg) (gI s2 3)) d11_closes_108 (fun s3 => ?_)
  refine j_aload_n 0 rfl d11_closes_109 ?_
  refine j_callVv (c11_next x n s3) lv_X11_201 (rV_rc_200 x s3) ⟨Nat.le_of_ble_eq_true rfl, Nat.le_of_ble_eq_true rfl⟩ d11_closes_110 rfl (Nat.le_of_ble_eq_true rfl) (fun s4 => ?_)
  refine j_iconst d11_closes_113 ejc_0 ?_
  exact j_ireturn hq d11_closes_114
noncomputable def m11_closes_185 (n : Nat)  (σ : ej_S) : Option (Int32 × ej_S) := ej_ck (gI σ 13) 602 (ej_nm (uA σ 5 ((gI σ 13).toNatClampNeg) (gI σ 14)) fun s5 => ej_ck (gI s5 13) 602 (ej_nm (uA s5 6 ((gI s5 13).toNatClampNeg) (gI s5 2)) fun s6 => ej_ck (gI s6 13) 602 (ej_nm (uA s6 7 ((gI s6 13).toNatClampNeg) (gI s6 3)) fun s7 => ej_ck (gI s7 13) 602 (ej_nm (uA s7 9 ((gI s7 13).toNatClampNeg) 0) fun s8 => ej_bv (m11_next n s8) fun s9 => (some (0, s9))))))
set_option maxRecDepth 20000 in
set_option maxHeartbeats 2000000 in
theorem j11_closes_185 (x : cw_T) (n : Nat) {F : ej_F} {r0 : Int32 × ej_S} (hq : ej_fin (rV x) F (some .int) (some (.int r0.1)) r0.2)  (σ : ej_S) : ej_J (rV x) F i11_closes r0 σ 185 [(0, .ref (cw_a x 200))] [] (m11_closes_185 n  σ) := by
  unfold m11_closes_185
  refine j_aload_n 0 rfl d11_closes_185 ?_
  refine j_get fl_X11_29 (rV_g_200_20 x σ) d11_closes_186 ?_
  refine j_aload_n 0 rfl d11_closes_189 ?_
  refine j_get fl_X11_194 (rV_g_200_26 x σ) d11_closes_190 ?_
  refine j_aload_n 0 rfl d11_closes_193 ?_
  refine j_get fl_X11_184 (rV_g_200_27 x σ) d11_closes_194 ?_
  refine j_iast (rV_s_207 x σ ((gI σ 13).toNatClampNeg) (gI σ 14)) d11_closes_197 (fun s5 => ?_)
  refine j_aload_n 0 rfl d11_closes_198 ?_
  refine j_get fl_X11_32 (rV_g_200_21 x s5) d11_closes_199 ?_
  refine j_aload_n 0 rfl d11_closes_202 ?_
  refine j_get fl_X11_194 (rV_g_200_26 x s5) d11_closes_203 ?_
  refine j_aload_n 0 rfl d11_closes_206 ?_
  refine j_get fl_X11_161 (rV_g_200_8 x s5) d11_closes_207 ?_
  refine j_iast (rV_s_208 x s5 ((gI s5 13).toNatClampNeg) (gI s5 2)) d11_closes_210 (fun s6 => ?_)
  refine j_aload_n 0 rfl d11_closes_211 ?_
  refine j_get fl_X11_35 (rV_g_200_22 x s6) d11_closes_212 ?_
  refine j_aload_n 0 rfl d11_closes_215 ?_
  refine j_get fl_X11_194 (rV_g_200_26 x s6) d11_closes_216 ?_
  refine j_aload_n 0 rfl d11_closes_219 ?_
  refine j_get fl_X11_148 (rV_g_200_9 x s6) d11_closes_220 ?_
  refine j_iast (rV_s_209 x s6 ((gI s6 13).toNatClampNeg) (gI s6 3)) d11_closes_223 (fun s7 => ?_)
  refine j_aload_n 0 rfl d11_closes_224 ?_
  refine j_get fl_X11_41 (rV_g_200_24 x s7) d11_closes_225 ?_
  refine j_aload_n 0 rfl d11_closes_228 ?_
  refine j_get fl_X11_194 (rV_g_200_26 x s7) d11_closes_229 ?_
  refine j_iconst d11_closes_232 ejc_0 ?_
  refine j_iast (rV_s_211 x s7 ((gI s7 13).toNatClampNeg) 0) d11_closes_233 (fun s8 => ?_)
  refine j_aload_n 0 rfl d11_closes_234 ?_
  refine j_callVv (c11_next x n s8) lv_X11_201 (rV_rc_200 x s8) ⟨Nat.le_of_ble_eq_true rfl, Nat.le_of_ble_eq_true rfl⟩ d11_closes_235 rfl (Nat.le_of_ble_eq_true rfl) (fun s9 => ?_)
  refine j_iconst d11_closes_238 ejc_0 ?_
  exact j_ireturn hq d11_closes_239
noncomputable def m11_closes_167 (n : Nat) (f0 : ej_S → Option (Int32 × ej_S))  (σ : ej_S) : Option (Int32 × ej_S) := (if gI σ 2 = 43 then (m11_closes_185 n σ) else (if gI σ 2 = 45 then (m11_closes_185 n σ) else (if gI σ 13 = 0 then (some (1, σ)) else (if gI σ 2 = 41 then ej_bv (m11_next n σ) fun s10 => ej_nm (uI s10 13 ((gI s10 13) - 1)) fun s11 => (f0 s11) else ej_bi (m11_failsHere n 1 σ) fun r13 s12 => (some (2, s12))))))
set_option maxRecDepth 20000 in
set_option maxHeartbeats 2000000 in
theorem j11_closes_167 (x : cw_T) (n : Nat) {F : ej_F} {r0 : Int32 × ej_S} (hq : ej_fin (rV x) F (some .int) (some (.int r0.1)) r0.2) (f0 : ej_S → Option (Int32 × ej_S)) (H0 : ∀  (σ : ej_S), ej_J (rV x) F i11_closes r0 σ 0 [(0, .ref (cw_a x 200))] [] (f0  σ))  (σ : ej_S) : ej_J (rV x) F i11_closes r0 σ 167 [(0, .ref (cw_a x 200))] [] (m11_closes_167 n f0  σ) := by
  unfold m11_closes_167
  refine j_aload_n 0 rfl d11_closes_167 ?_
  refine j_get fl_X11_161 (rV_g_200_8 x σ) d11_closes_168 ?_
  refine j_bipush d11_closes_171 ejb_43 ?_
  refine j_icmp_eq d11_closes_173 ?_ ?_
  · exact j_sub [0] rfl (j11_closes_185 x n hq σ)
  · refine j_aload_n 0 rfl d11_closes_176 ?_
    refine j_get fl_X11_161 (rV_g_200_8 x σ) d11_closes_177 ?_
    refine j_bipush d11_closes_180 ejb_45 ?_
    refine j_icmp_ne d11_closes_182 ?_ ?_
    · refine j_aload_n 0 rfl d11_closes_240 ?_
      refine j_get fl_X11_194 (rV_g_200_26 x σ) d11_closes_241 ?_
      refine j_if_ne d11_closes_244 ?_ ?_
      · refine j_aload_n 0 rfl d11_closes_249 ?_
        refine j_get fl_X11_161 (rV_g_200_8 x σ) d11_closes_250 ?_
        refine j_bipush d11_closes_253 ejb_41 ?_
        refine j_icmp_eq d11_closes_255 ?_ ?_
        · refine j_aload_n 0 rfl d11_closes_266 ?_
          refine j_callVv (c11_next x n σ) lv_X11_201 (rV_rc_200 x σ) ⟨Nat.le_of_ble_eq_true rfl, Nat.le_of_ble_eq_true rfl⟩ d11_closes_267 rfl (Nat.le_of_ble_eq_true rfl) (fun s10 => ?_)
          refine j_aload_n 0 rfl d11_closes_270 ?_
          refine j_dup d11_closes_271 rfl ?_
          refine j_get fl_X11_194 (rV_g_200_26 x s10) d11_closes_272 ?_
          refine j_iconst d11_closes_275 ejc_1 ?_
          refine j_isub d11_closes_276 ?_
          refine j_put fl_X11_194 (rV_p_200_26 x s10 ((gI s10 13) - 1)) rfl rfl d11_closes_277 (fun s11 => ?_)
          refine j_goto d11_closes_280 ?_
          exact j_sub [0] rfl (H0 s11)
        · refine j_aload_n 0 rfl d11_closes_258 ?_
          refine j_iconst d11_closes_259 ejc_1 ?_
          refine j_callVi (c11_failsHere x n 1 σ) lv_X11_187 (rV_rc_200 x σ) ⟨Nat.le_of_ble_eq_true rfl, Nat.le_of_ble_eq_true rfl⟩ d11_closes_260 rfl (Nat.le_of_ble_eq_true rfl) (fun r13 s12 => ?_)
          refine j_pop d11_closes_263 rfl ?_
          refine j_iconst d11_closes_264 ejc_2 ?_
          exact j_ireturn hq d11_closes_265
      · refine j_iconst d11_closes_247 ejc_1 ?_
        exact j_ireturn hq d11_closes_248
    · exact j_sub [0] rfl (j11_closes_185 x n hq σ)
noncomputable def m11_closes_52 (n : Nat) (f0 : ej_S → Option (Int32 × ej_S))  (σ : ej_S) : Option (Int32 × ej_S) := (if gI σ 2 = 42 then (m11_closes_70 n σ) else (if gI σ 2 = 47 then (m11_closes_70 n σ) else ej_ck (gI σ 13) 602 ((if gA σ 6 (gI σ 13).toNatClampNeg = 0 then (m11_closes_167 n f0 σ) else ej_ck (gI σ 13) 602 (ej_ck (gI σ 13) 602 (ej_ck (gI σ 13) 602 (ej_bi (m11_isWorked n (gA σ 6 (gI σ 13).toNatClampNeg) (gA σ 5 (gI σ 13).toNatClampNeg) (gI σ 14) (gA σ 7 (gI σ 13).toNatClampNeg) σ) fun r15 s14 => (if r15 = 0 then (some (2, s14)) else (m11_closes_167 n f0 s14)))))))))
set_option maxRecDepth 20000 in
set_option maxHeartbeats 2000000 in
theorem j11_closes_52 (x : cw_T) (n : Nat) {F : ej_F} {r0 : Int32 × ej_S} (hq : ej_fin (rV x) F (some .int) (some (.int r0.1)) r0.2) (f0 : ej_S → Option (Int32 × ej_S)) (H0 : ∀  (σ : ej_S), ej_J (rV x) F i11_closes r0 σ 0 [(0, .ref (cw_a x 200))] [] (f0  σ))  (σ : ej_S) : ej_J (rV x) F i11_closes r0 σ 52 [(0, .ref (cw_a x 200))] [] (m11_closes_52 n f0  σ) := by
  unfold m11_closes_52
  refine j_aload_n 0 rfl d11_closes_52 ?_
  refine j_get fl_X11_161 (rV_g_200_8 x σ) d11_closes_53 ?_
  refine j_bipush d11_closes_56 ejb_42 ?_
  refine j_icmp_eq d11_closes_58 ?_ ?_
  · exact j_sub [0] rfl (j11_closes_70 x n hq σ)
  · refine j_aload_n 0 rfl d11_closes_61 ?_
    refine j_get fl_X11_161 (rV_g_200_8 x σ) d11_closes_62 ?_
    refine j_bipush d11_closes_65 ejb_47 ?_
    refine j_icmp_ne d11_closes_67 ?_ ?_
    · refine j_aload_n 0 rfl d11_closes_115 ?_
      refine j_get fl_X11_32 (rV_g_200_21 x σ) d11_closes_116 ?_
      refine j_aload_n 0 rfl d11_closes_119 ?_
      refine j_get fl_X11_194 (rV_g_200_26 x σ) d11_closes_120 ?_
      refine j_iald (rV_a_208 x σ) d11_closes_123 ?_
      refine j_if_eq d11_closes_124 ?_ ?_
      · exact j_sub [0] rfl (j11_closes_167 x n hq f0 H0 σ)
      · refine j_aload_n 0 rfl d11_closes_127 ?_
        refine j_aload_n 0 rfl d11_closes_128 ?_
        refine j_get fl_X11_32 (rV_g_200_21 x σ) d11_closes_129 ?_
        refine j_aload_n 0 rfl d11_closes_132 ?_
        refine j_get fl_X11_194 (rV_g_200_26 x σ) d11_closes_133 ?_
        refine j_iald (rV_a_208 x σ) d11_closes_136 ?_
        refine j_aload_n 0 rfl d11_closes_137 ?_
        refine j_get fl_X11_29 (rV_g_200_20 x σ) d11_closes_138 ?_
        refine j_aload_n 0 rfl d11_closes_141 ?_
        refine j_get fl_X11_194 (rV_g_200_26 x σ) d11_closes_142 ?_
        refine j_iald (rV_a_207 x σ) d11_closes_145 ?_
        refine j_aload_n 0 rfl d11_closes_146 ?_
        refine j_get fl_X11_184 (rV_g_200_27 x σ) d11_closes_147 ?_
        refine j_aload_n 0 rfl d11_closes_150 ?_
        refine j_get fl_X11_35 (rV_g_200_22 x σ) d11_closes_151 ?_
        refine j_aload_n 0 rfl d11_closes_154 ?_
        refine j_get fl_X11_194 (rV_g_200_26 x σ) d11_closes_155 ?_
        refine j_iald (rV_a_209 x σ) d11_closes_158 ?_
        refine j_callVi (c11_isWorked x n (gA σ 6 (gI σ 13).toNatClampNeg) (gA σ 5 (gI σ 13).toNatClampNeg) (gI σ 14) (gA σ 7 (gI σ 13).toNatClampNeg) σ) lv_X11_197 (rV_rc_200 x σ) ⟨Nat.le_of_ble_eq_true rfl, Nat.le_of_ble_eq_true rfl⟩ d11_closes_159 rfl (Nat.le_of_ble_eq_true rfl) (fun r15 s14 => ?_)
        refine j_if_ne d11_closes_162 ?_ ?_
        · exact j_sub [0] rfl (j11_closes_167 x n hq f0 H0 s14)
        · refine j_iconst d11_closes_165 ejc_2 ?_
          exact j_ireturn hq d11_closes_166
    · exact j_sub [0] rfl (j11_closes_70 x n hq σ)
noncomputable def m11_closes_0 (n : Nat) (k : Nat) : ej_S → Option (Int32 × ej_S) := Nat.rec (motive := fun _ => ej_S → Option (Int32 × ej_S)) (fun _ => none) (fun _ ih  σ => ej_ck (gI σ 13) 602 ((if gA σ 9 (gI σ 13).toNatClampNeg = 0 then (m11_closes_52 n ih σ) else ej_ck (gI σ 13) 602 (ej_ck (gI σ 13) 602 (ej_ck (gI σ 13) 602 (ej_bi (m11_isWorked n (gA σ 9 (gI σ 13).toNatClampNeg) (gA σ 8 (gI σ 13).toNatClampNeg) (gI σ 14) (gA σ 10 (gI σ 13).toNatClampNeg) σ) fun r17 s16 => (if r17 = 0 then (some (2, s16)) else (m11_closes_52 n ih s16)))))))) k
theorem m11_closes_0_s (n : Nat) (k : Nat)  (σ : ej_S) : m11_closes_0 n (k + 1)  σ = (ej_ck (gI σ 13) 602 ((if gA σ 9 (gI σ 13).toNatClampNeg = 0 then (m11_closes_52 n (m11_closes_0 n k) σ) else ej_ck (gI σ 13) 602 (ej_ck (gI σ 13) 602 (ej_ck (gI σ 13) 602 (ej_bi (m11_isWorked n (gA σ 9 (gI σ 13).toNatClampNeg) (gA σ 8 (gI σ 13).toNatClampNeg) (gI σ 14) (gA σ 10 (gI σ 13).toNatClampNeg) σ) fun r17 s16 => (if r17 = 0 then (some (2, s16)) else (m11_closes_52 n (m11_closes_0 n k) s16))))))) : Option (Int32 × ej_S)) := rfl
set_option maxRecDepth 20000 in
set_option maxHeartbeats 2000000 in
theorem j11_closes_0 (x : cw_T) (n : Nat) {F : ej_F} {r0 : Int32 × ej_S} (hq : ej_fin (rV x) F (some .int) (some (.int r0.1)) r0.2) : ∀ (k : Nat)  (σ : ej_S), ej_J (rV x) F i11_closes r0 σ 0 [(0, .ref (cw_a x 200))] [] (m11_closes_0 n k  σ) := by
  intro k
  induction k with
  | zero => intro  σ; exact j_none
  | succ k ih =>
    intro  σ
    rw [m11_closes_0_s]
    refine j_aload_n 0 rfl d11_closes_0 ?_
    refine j_get fl_X11_41 (rV_g_200_24 x σ) d11_closes_1 ?_
    refine j_aload_n 0 rfl d11_closes_4 ?_
    refine j_get fl_X11_194 (rV_g_200_26 x σ) d11_closes_5 ?_
    refine j_iald (rV_a_211 x σ) d11_closes_8 ?_
    refine j_if_eq d11_closes_9 ?_ ?_
    · exact j_sub [0] rfl (j11_closes_52 x n hq (m11_closes_0 n k) ih σ)
    · refine j_aload_n 0 rfl d11_closes_12 ?_
      refine j_aload_n 0 rfl d11_closes_13 ?_
      refine j_get fl_X11_41 (rV_g_200_24 x σ) d11_closes_14 ?_
      refine j_aload_n 0 rfl d11_closes_17 ?_
      refine j_get fl_X11_194 (rV_g_200_26 x σ) d11_closes_18 ?_
      refine j_iald (rV_a_211 x σ) d11_closes_21 ?_
      refine j_aload_n 0 rfl d11_closes_22 ?_
      refine j_get fl_X11_38 (rV_g_200_23 x σ) d11_closes_23 ?_
      refine j_aload_n 0 rfl d11_closes_26 ?_
      refine j_get fl_X11_194 (rV_g_200_26 x σ) d11_closes_27 ?_
      refine j_iald (rV_a_210 x σ) d11_closes_30 ?_
      refine j_aload_n 0 rfl d11_closes_31 ?_
      refine j_get fl_X11_184 (rV_g_200_27 x σ) d11_closes_32 ?_
      refine j_aload_n 0 rfl d11_closes_35 ?_
      refine j_get fl_X11_44 (rV_g_200_25 x σ) d11_closes_36 ?_
      refine j_aload_n 0 rfl d11_closes_39 ?_
      refine j_get fl_X11_194 (rV_g_200_26 x σ) d11_closes_40 ?_
      refine j_iald (rV_a_212 x σ) d11_closes_43 ?_
      refine j_callVi (c11_isWorked x n (gA σ 9 (gI σ 13).toNatClampNeg) (gA σ 8 (gI σ 13).toNatClampNeg) (gI σ 14) (gA σ 10 (gI σ 13).toNatClampNeg) σ) lv_X11_197 (rV_rc_200 x σ) ⟨Nat.le_of_ble_eq_true rfl, Nat.le_of_ble_eq_true rfl⟩ d11_closes_44 rfl (Nat.le_of_ble_eq_true rfl) (fun r17 s16 => ?_)
      refine j_if_ne d11_closes_47 ?_ ?_
      · exact j_sub [0] rfl (j11_closes_52 x n hq (m11_closes_0 n k) ih s16)
      · refine j_iconst d11_closes_50 ejc_2 ?_
        exact j_ireturn hq d11_closes_51
noncomputable def m11_closes (n : Nat)  (σ : ej_S) : Option (Int32 × ej_S) := (m11_closes_0 n n σ)
set_option maxRecDepth 20000 in
set_option maxHeartbeats 2000000 in
theorem j11_closes (x : cw_T) (n : Nat)  (σ : ej_S) {F : ej_F} {r0 : Int32 × ej_S} (hq : ej_fin (rV x) F (some .int) (some (.int r0.1)) r0.2) : ej_J (rV x) F i11_closes r0 σ 0 [(0, .ref (cw_a x 200))] [] (m11_closes n  σ) := by
  unfold m11_closes
  exact j_sub [0] rfl (j11_closes_0 x n hq n σ)
theorem c11_closes (x : cw_T) (n : Nat)  (σ : ej_S) : ∀ r σ1, m11_closes n  σ = some (r, σ1) → ∀ l, ej_Con l (rV x) i11_closes yX11_closes (some .int) [.ref (cw_a x 200)] σ (some (.int r)) σ1 := fun r σ1 h l => ej_con_of (rV_ok x) pn_X11 rfl (Nat.le_of_ble_eq_true rfl) rfl h (fun F hq => j11_closes x n  σ hq)

noncomputable def m11_isSum_21 (n : Nat) (k : Nat) : Int32 → ej_S → Option (Int32 × ej_S) := Nat.rec (motive := fun _ => Int32 → ej_S → Option (Int32 × ej_S)) (fun _ _ => none) (fun _ ih y4 σ => (if y4 = 0 then (if gI σ 2 = 40 then ej_nm (uI σ 13 ((gI σ 13) + 1)) fun s10 => ej_ck (gI s10 13) 602 (ej_nm (uA s10 6 ((gI s10 13).toNatClampNeg) 0) fun s11 => ej_ck (gI s11 13) 602 (ej_nm (uA s11 9 ((gI s11 13).toNatClampNeg) 0) fun s12 => ej_bv (m11_next n s12) fun s13 => (ih y4 s13))) else ej_bi (m11_isFactor n σ) fun r6 s5 => (if r6 = 0 then (ih 2 s5) else ej_bv (m11_next n s5) fun s7 => ej_bi (m11_closes n s7) fun r9 s8 => (ih r9 s8))) else (if y4 = 1 then (some (1, σ)) else (some (0, σ))))) k
theorem m11_isSum_21_s (n : Nat) (k : Nat) (y4 : Int32) (σ : ej_S) : m11_isSum_21 n (k + 1) y4 σ = ((if y4 = 0 then (if gI σ 2 = 40 then ej_nm (uI σ 13 ((gI σ 13) + 1)) fun s10 => ej_ck (gI s10 13) 602 (ej_nm (uA s10 6 ((gI s10 13).toNatClampNeg) 0) fun s11 => ej_ck (gI s11 13) 602 (ej_nm (uA s11 9 ((gI s11 13).toNatClampNeg) 0) fun s12 => ej_bv (m11_next n s12) fun s13 => ((m11_isSum_21 n k) y4 s13))) else ej_bi (m11_isFactor n σ) fun r6 s5 => (if r6 = 0 then ((m11_isSum_21 n k) 2 s5) else ej_bv (m11_next n s5) fun s7 => ej_bi (m11_closes n s7) fun r9 s8 => ((m11_isSum_21 n k) r9 s8))) else (if y4 = 1 then (some (1, σ)) else (some (0, σ)))) : Option (Int32 × ej_S)) := rfl
set_option maxRecDepth 20000 in
set_option maxHeartbeats 2000000 in
theorem j11_isSum_21 (x : cw_T) (n : Nat) {F : ej_F} {r0 : Int32 × ej_S} (hq : ej_fin (rV x) F (some .boolean) (some (.int r0.1)) r0.2) : ∀ (k : Nat) (y4 : Int32) (σ : ej_S), ej_J (rV x) F i11_isSum r0 σ 21 [(0, .ref (cw_a x 200)), (1, .int y4)] [] (m11_isSum_21 n k y4 σ) := by
  intro k
  induction k with
  | zero => intro y4 σ; exact j_none
  | succ k ih =>
    intro y4 σ
    rw [m11_isSum_21_s]
    refine j_iload_n 1 rfl d11_isSum_21 ?_
    refine j_if_ne d11_isSum_22 ?_ ?_
    · refine j_iload_n 1 rfl d11_isSum_95 ?_
      refine j_iconst d11_isSum_96 ejc_1 ?_
      refine j_icmp_ne d11_isSum_97 ?_ ?_
      · refine j_iconst d11_isSum_104 ejc_0 ?_
        exact j_zreturn0 hq d11_isSum_105
      · refine j_iconst d11_isSum_100 ejc_1 ?_
        refine j_goto d11_isSum_101 ?_
        exact j_zreturn1 hq d11_isSum_105
    · refine j_aload_n 0 rfl d11_isSum_25 ?_
      refine j_get fl_X11_161 (rV_g_200_8 x σ) d11_isSum_26 ?_
      refine j_bipush d11_isSum_29 ejb_40 ?_
      refine j_icmp_ne d11_isSum_31 ?_ ?_
      · refine j_aload_n 0 rfl d11_isSum_71 ?_
        refine j_callVi (c11_isFactor x n σ) lv_X11_204 (rV_rc_200 x σ) ⟨Nat.le_of_ble_eq_true rfl, Nat.le_of_ble_eq_true rfl⟩ d11_isSum_72 rfl (Nat.le_of_ble_eq_true rfl) (fun r6 s5 => ?_)
        refine j_if_eq d11_isSum_75 ?_ ?_
        · refine j_iconst d11_isSum_90 ejc_2 ?_
          refine j_istore_n (i := 1) (L' := [(1, .int 2), (0, .ref (cw_a x 200))]) d11_isSum_91 rfl (Nat.le_of_ble_eq_true rfl) rfl ?_
          refine j_goto d11_isSum_92 ?_
          exact j_sub [1, 0] rfl (ih 2 s5)
        · refine j_aload_n 0 rfl d11_isSum_78 ?_
          refine j_callVv (c11_next x n s5) lv_X11_201 (rV_rc_200 x s5) ⟨Nat.le_of_ble_eq_true rfl, Nat.le_of_ble_eq_true rfl⟩ d11_isSum_79 rfl (Nat.le_of_ble_eq_true rfl) (fun s7 => ?_)
          refine j_aload_n 0 rfl d11_isSum_82 ?_
          refine j_callVi (c11_closes x n s7) lv_X11_208 (rV_rc_200 x s7) ⟨Nat.le_of_ble_eq_true rfl, Nat.le_of_ble_eq_true rfl⟩ d11_isSum_83 rfl (Nat.le_of_ble_eq_true rfl) (fun r9 s8 => ?_)
          refine j_istore_n (i := 1) (L' := [(1, .int r9), (0, .ref (cw_a x 200))]) d11_isSum_86 rfl (Nat.le_of_ble_eq_true rfl) rfl ?_
          refine j_goto d11_isSum_87 ?_
          exact j_sub [1, 0] rfl (ih r9 s8)
      · refine j_aload_n 0 rfl d11_isSum_34 ?_
        refine j_dup d11_isSum_35 rfl ?_
        refine j_get fl_X11_194 (rV_g_200_26 x σ) d11_isSum_36 ?_
        refine j_iconst d11_isSum_39 ejc_1 ?_
        refine j_iadd d11_isSum_40 ?_
        refine j_put fl_X11_194 (rV_p_200_26 x σ ((gI σ 13) + 1)) rfl rfl d11_isSum_41 (fun s10 => ?_)
        refine j_aload_n 0 rfl d11_isSum_44 ?_
        refine j_get fl_X11_32 (rV_g_200_21 x s10) d11_isSum_45 ?_
        refine j_aload_n 0 rfl d11_isSum_48 ?_
        refine j_get fl_X11_194 (rV_g_200_26 x s10) d11_isSum_49 ?_
        refine j_iconst d11_isSum_52 ejc_0 ?_
        refine j_iast (rV_s_208 x s10 ((gI s10 13).toNatClampNeg) 0) d11_isSum_53 (fun s11 => ?_)
        refine j_aload_n 0 rfl d11_isSum_54 ?_
        refine j_get fl_X11_41 (rV_g_200_24 x s11) d11_isSum_55 ?_
        refine j_aload_n 0 rfl d11_isSum_58 ?_
        refine j_get fl_X11_194 (rV_g_200_26 x s11) d11_isSum_59 ?_
        refine j_iconst d11_isSum_62 ejc_0 ?_
        refine j_iast (rV_s_211 x s11 ((gI s11 13).toNatClampNeg) 0) d11_isSum_63 (fun s12 => ?_)
        refine j_aload_n 0 rfl d11_isSum_64 ?_
        refine j_callVv (c11_next x n s12) lv_X11_201 (rV_rc_200 x s12) ⟨Nat.le_of_ble_eq_true rfl, Nat.le_of_ble_eq_true rfl⟩ d11_isSum_65 rfl (Nat.le_of_ble_eq_true rfl) (fun s13 => ?_)
        refine j_goto d11_isSum_68 ?_
        exact j_sub [0, 1] rfl (ih y4 s13)
noncomputable def m11_isSum (n : Nat)  (σ : ej_S) : Option (Int32 × ej_S) := ej_nm (uI σ 13 0) fun s1 => ej_ck 0 602 (ej_nm (uA s1 6 ((0 : Int32).toNatClampNeg) 0) fun s2 => ej_ck 0 602 (ej_nm (uA s2 9 ((0 : Int32).toNatClampNeg) 0) fun s3 => (m11_isSum_21 n n 0 s3)))
set_option maxRecDepth 20000 in
set_option maxHeartbeats 2000000 in
theorem j11_isSum (x : cw_T) (n : Nat)  (σ : ej_S) {F : ej_F} {r0 : Int32 × ej_S} (hq : ej_fin (rV x) F (some .boolean) (some (.int r0.1)) r0.2) : ej_J (rV x) F i11_isSum r0 σ 0 [(0, .ref (cw_a x 200))] [] (m11_isSum n  σ) := by
  unfold m11_isSum
  refine j_aload_n 0 rfl d11_isSum_0 ?_
  refine j_iconst d11_isSum_1 ejc_0 ?_
  refine j_put fl_X11_194 (rV_p_200_26 x σ 0) rfl rfl d11_isSum_2 (fun s1 => ?_)
  refine j_aload_n 0 rfl d11_isSum_5 ?_
  refine j_get fl_X11_32 (rV_g_200_21 x s1) d11_isSum_6 ?_
  refine j_iconst d11_isSum_9 ejc_0 ?_
  refine j_iconst d11_isSum_10 ejc_0 ?_
  refine j_iast (rV_s_208 x s1 ((0 : Int32).toNatClampNeg) 0) d11_isSum_11 (fun s2 => ?_)
  refine j_aload_n 0 rfl d11_isSum_12 ?_
  refine j_get fl_X11_41 (rV_g_200_24 x s2) d11_isSum_13 ?_
  refine j_iconst d11_isSum_16 ejc_0 ?_
  refine j_iconst d11_isSum_17 ejc_0 ?_
  refine j_iast (rV_s_211 x s2 ((0 : Int32).toNatClampNeg) 0) d11_isSum_18 (fun s3 => ?_)
  refine j_iconst d11_isSum_19 ejc_0 ?_
  refine j_istore_n (i := 1) (L' := [(1, .int 0), (0, .ref (cw_a x 200))]) d11_isSum_20 rfl (Nat.le_of_ble_eq_true rfl) rfl ?_
  exact j_sub [1, 0] rfl (j11_isSum_21 x n hq n 0 s3)
theorem c11_isSum (x : cw_T) (n : Nat)  (σ : ej_S) : ∀ r σ1, m11_isSum n  σ = some (r, σ1) → ∀ l, ej_Con l (rV x) i11_isSum yX11_isSum (some .boolean) [.ref (cw_a x 200)] σ (some (.int r)) σ1 := fun r σ1 h l => ej_con_of (rV_ok x) pn_X11 rfl (Nat.le_of_ble_eq_true rfl) rfl h (fun F hq => j11_isSum x n  σ hq)

noncomputable def m11_isCost (n : Nat)  (σ : ej_S) : Option (Int32 × ej_S) := ej_nm (uI σ 14 4000) fun s1 => (if gI s1 2 = 40 then ej_bv (m11_next n s1) fun s2 => ej_bi (m11_isSum n s2) fun r4 s3 => (if r4 = 0 then (some (0, s3)) else (if gI s3 2 = 41 then ej_bv (m11_next n s3) fun s5 => (if 0 ≤ gI s5 14 then ej_nm (uI s5 14 (gI s5 14)) fun s6 => (some (1, s6)) else ej_nm (uI s5 14 0) fun s7 => (some (1, s7))) else ej_bi (m11_failsHere n 1 s3) fun r9 s8 => (some (ej_bz r9, s8)))) else (some (1, s1)))
set_option maxRecDepth 20000 in
set_option maxHeartbeats 2000000 in
theorem j11_isCost (x : cw_T) (n : Nat)  (σ : ej_S) {F : ej_F} {r0 : Int32 × ej_S} (hq : ej_fin (rV x) F (some .boolean) (some (.int r0.1)) r0.2) : ej_J (rV x) F i11_isCost r0 σ 0 [(0, .ref (cw_a x 200))] [] (m11_isCost n  σ) := by
  unfold m11_isCost
  refine j_aload_n 0 rfl d11_isCost_0 ?_
  refine j_sipush d11_isCost_1 ejs_4000 ?_
  refine j_put fl_X11_184 (rV_p_200_27 x σ 4000) rfl rfl d11_isCost_4 (fun s1 => ?_)
  refine j_aload_n 0 rfl d11_isCost_7 ?_
  refine j_get fl_X11_161 (rV_g_200_8 x s1) d11_isCost_8 ?_
  refine j_bipush d11_isCost_11 ejb_40 ?_
  refine j_icmp_eq d11_isCost_13 ?_ ?_
  · refine j_aload_n 0 rfl d11_isCost_18 ?_
    refine j_callVv (c11_next x n s1) lv_X11_201 (rV_rc_200 x s1) ⟨Nat.le_of_ble_eq_true rfl, Nat.le_of_ble_eq_true rfl⟩ d11_isCost_19 rfl (Nat.le_of_ble_eq_true rfl) (fun s2 => ?_)
    refine j_aload_n 0 rfl d11_isCost_22 ?_
    refine j_callVi (c11_isSum x n s2) lv_X11_212 (rV_rc_200 x s2) ⟨Nat.le_of_ble_eq_true rfl, Nat.le_of_ble_eq_true rfl⟩ d11_isCost_23 rfl (Nat.le_of_ble_eq_true rfl) (fun r4 s3 => ?_)
    refine j_if_ne d11_isCost_26 ?_ ?_
    · refine j_aload_n 0 rfl d11_isCost_31 ?_
      refine j_get fl_X11_161 (rV_g_200_8 x s3) d11_isCost_32 ?_
      refine j_bipush d11_isCost_35 ejb_41 ?_
      refine j_icmp_eq d11_isCost_37 ?_ ?_
      · refine j_aload_n 0 rfl d11_isCost_46 ?_
        refine j_callVv (c11_next x n s3) lv_X11_201 (rV_rc_200 x s3) ⟨Nat.le_of_ble_eq_true rfl, Nat.le_of_ble_eq_true rfl⟩ d11_isCost_47 rfl (Nat.le_of_ble_eq_true rfl) (fun s5 => ?_)
        refine j_aload_n 0 rfl d11_isCost_50 ?_
        refine j_aload_n 0 rfl d11_isCost_51 ?_
        refine j_get fl_X11_184 (rV_g_200_27 x s5) d11_isCost_52 ?_
        refine j_if_ge d11_isCost_55 ?_ ?_
        · refine j_aload_n 0 rfl d11_isCost_62 ?_
          refine j_get fl_X11_184 (rV_g_200_27 x s5) d11_isCost_63 ?_
          refine j_put fl_X11_184 (rV_p_200_27 x s5 (gI s5 14)) rfl rfl d11_isCost_66 (fun s6 => ?_)
          refine j_iconst d11_isCost_69 ejc_1 ?_
          exact j_zreturn1 hq d11_isCost_70
        · refine j_iconst d11_isCost_58 ejc_0 ?_
          refine j_goto d11_isCost_59 ?_
          refine j_put fl_X11_184 (rV_p_200_27 x s5 0) rfl rfl d11_isCost_66 (fun s7 => ?_)
          refine j_iconst d11_isCost_69 ejc_1 ?_
          exact j_zreturn1 hq d11_isCost_70
      · refine j_aload_n 0 rfl d11_isCost_40 ?_
        refine j_iconst d11_isCost_41 ejc_1 ?_
        refine j_callVi (c11_failsHere x n 1 s3) lv_X11_187 (rV_rc_200 x s3) ⟨Nat.le_of_ble_eq_true rfl, Nat.le_of_ble_eq_true rfl⟩ d11_isCost_42 rfl (Nat.le_of_ble_eq_true rfl) (fun r9 s8 => ?_)
        exact j_zreturn hq d11_isCost_45
    · refine j_iconst d11_isCost_29 ejc_0 ?_
      exact j_zreturn0 hq d11_isCost_30
  · refine j_iconst d11_isCost_16 ejc_1 ?_
    exact j_zreturn1 hq d11_isCost_17
theorem c11_isCost (x : cw_T) (n : Nat)  (σ : ej_S) : ∀ r σ1, m11_isCost n  σ = some (r, σ1) → ∀ l, ej_Con l (rV x) i11_isCost yX11_isCost (some .boolean) [.ref (cw_a x 200)] σ (some (.int r)) σ1 := fun r σ1 h l => ej_con_of (rV_ok x) pn_X11 rfl (Nat.le_of_ble_eq_true rfl) rfl h (fun F hq => j11_isCost x n  σ hq)

noncomputable def m11_isName (n : Nat)  (σ : ej_S) : Option (Int32 × ej_S) := (if gI σ 2 = 1 then (if gI σ 4 ≤ 8 then (some (1, σ)) else ej_bi (m11_failsHere n 2 σ) fun r4 s3 => (if r4 = 0 then (some (0, s3)) else (some (1, s3)))) else ej_bi (m11_failsHere n 1 σ) fun r2 s1 => (some (ej_bz r2, s1)))
set_option maxRecDepth 20000 in
set_option maxHeartbeats 2000000 in
theorem j11_isName (x : cw_T) (n : Nat)  (σ : ej_S) {F : ej_F} {r0 : Int32 × ej_S} (hq : ej_fin (rV x) F (some .boolean) (some (.int r0.1)) r0.2) : ej_J (rV x) F i11_isName r0 σ 0 [(0, .ref (cw_a x 200))] [] (m11_isName n  σ) := by
  unfold m11_isName
  refine j_aload_n 0 rfl d11_isName_0 ?_
  refine j_get fl_X11_161 (rV_g_200_8 x σ) d11_isName_1 ?_
  refine j_iconst d11_isName_4 ejc_1 ?_
  refine j_icmp_ne d11_isName_5 ?_ ?_
  · refine j_aload_n 0 rfl d11_isName_33 ?_
    refine j_iconst d11_isName_34 ejc_1 ?_
    refine j_callVi (c11_failsHere x n 1 σ) lv_X11_187 (rV_rc_200 x σ) ⟨Nat.le_of_ble_eq_true rfl, Nat.le_of_ble_eq_true rfl⟩ d11_isName_35 rfl (Nat.le_of_ble_eq_true rfl) (fun r2 s1 => ?_)
    exact j_zreturn hq d11_isName_38
  · refine j_aload_n 0 rfl d11_isName_8 ?_
    refine j_get fl_X11_151 (rV_g_200_10 x σ) d11_isName_9 ?_
    refine j_bipush d11_isName_12 ejb_8 ?_
    refine j_icmp_le d11_isName_14 ?_ ?_
    · refine j_iconst d11_isName_25 ejc_1 ?_
      refine j_goto d11_isName_26 ?_
      exact j_zreturn1 hq d11_isName_38
    · refine j_aload_n 0 rfl d11_isName_17 ?_
      refine j_iconst d11_isName_18 ejc_2 ?_
      refine j_callVi (c11_failsHere x n 2 σ) lv_X11_187 (rV_rc_200 x σ) ⟨Nat.le_of_ble_eq_true rfl, Nat.le_of_ble_eq_true rfl⟩ d11_isName_19 rfl (Nat.le_of_ble_eq_true rfl) (fun r4 s3 => ?_)
      refine j_if_eq d11_isName_22 ?_ ?_
      · refine j_iconst d11_isName_29 ejc_0 ?_
        refine j_goto d11_isName_30 ?_
        exact j_zreturn0 hq d11_isName_38
      · refine j_iconst d11_isName_25 ejc_1 ?_
        refine j_goto d11_isName_26 ?_
        exact j_zreturn1 hq d11_isName_38
theorem c11_isName (x : cw_T) (n : Nat)  (σ : ej_S) : ∀ r σ1, m11_isName n  σ = some (r, σ1) → ∀ l, ej_Con l (rV x) i11_isName yX11_isName (some .boolean) [.ref (cw_a x 200)] σ (some (.int r)) σ1 := fun r σ1 h l => ej_con_of (rV_ok x) pn_X11 rfl (Nat.le_of_ble_eq_true rfl) rfl h (fun F hq => j11_isName x n  σ hq)

noncomputable def m11_isMore (n : Nat)  (σ : ej_S) : Option (Int32 × ej_S) := (if gI σ 2 = 44 then ej_bv (m11_next n σ) fun s1 => (some (1, s1)) else (some (0, σ)))
set_option maxRecDepth 20000 in
set_option maxHeartbeats 2000000 in
theorem j11_isMore (x : cw_T) (n : Nat)  (σ : ej_S) {F : ej_F} {r0 : Int32 × ej_S} (hq : ej_fin (rV x) F (some .boolean) (some (.int r0.1)) r0.2) : ej_J (rV x) F i11_isMore r0 σ 0 [(0, .ref (cw_a x 200))] [] (m11_isMore n  σ) := by
  unfold m11_isMore
  refine j_aload_n 0 rfl d11_isMore_0 ?_
  refine j_get fl_X11_161 (rV_g_200_8 x σ) d11_isMore_1 ?_
  refine j_bipush d11_isMore_4 ejb_44 ?_
  refine j_icmp_eq d11_isMore_6 ?_ ?_
  · refine j_aload_n 0 rfl d11_isMore_11 ?_
    refine j_callVv (c11_next x n σ) lv_X11_201 (rV_rc_200 x σ) ⟨Nat.le_of_ble_eq_true rfl, Nat.le_of_ble_eq_true rfl⟩ d11_isMore_12 rfl (Nat.le_of_ble_eq_true rfl) (fun s1 => ?_)
    refine j_iconst d11_isMore_15 ejc_1 ?_
    exact j_zreturn1 hq d11_isMore_16
  · refine j_iconst d11_isMore_9 ejc_0 ?_
    exact j_zreturn0 hq d11_isMore_10
theorem c11_isMore (x : cw_T) (n : Nat)  (σ : ej_S) : ∀ r σ1, m11_isMore n  σ = some (r, σ1) → ∀ l, ej_Con l (rV x) i11_isMore yX11_isMore (some .boolean) [.ref (cw_a x 200)] σ (some (.int r)) σ1 := fun r σ1 h l => ej_con_of (rV_ok x) pn_X11 rfl (Nat.le_of_ble_eq_true rfl) rfl h (fun F hq => j11_isMore x n  σ hq)

noncomputable def m11_isClosed (n : Nat)  (σ : ej_S) : Option (Int32 × ej_S) := (if gI σ 2 = 125 then ej_bv (m11_next n σ) fun s1 => (some (1, s1)) else ej_bi (m11_failsHere n 1 σ) fun r3 s2 => (some (ej_bz r3, s2)))
set_option maxRecDepth 20000 in
set_option maxHeartbeats 2000000 in
theorem j11_isClosed (x : cw_T) (n : Nat)  (σ : ej_S) {F : ej_F} {r0 : Int32 × ej_S} (hq : ej_fin (rV x) F (some .boolean) (some (.int r0.1)) r0.2) : ej_J (rV x) F i11_isClosed r0 σ 0 [(0, .ref (cw_a x 200))] [] (m11_isClosed n  σ) := by
  unfold m11_isClosed
  refine j_aload_n 0 rfl d11_isClosed_0 ?_
  refine j_get fl_X11_161 (rV_g_200_8 x σ) d11_isClosed_1 ?_
  refine j_bipush d11_isClosed_4 ejb_125 ?_
  refine j_icmp_eq d11_isClosed_6 ?_ ?_
  · refine j_aload_n 0 rfl d11_isClosed_15 ?_
    refine j_callVv (c11_next x n σ) lv_X11_201 (rV_rc_200 x σ) ⟨Nat.le_of_ble_eq_true rfl, Nat.le_of_ble_eq_true rfl⟩ d11_isClosed_16 rfl (Nat.le_of_ble_eq_true rfl) (fun s1 => ?_)
    refine j_iconst d11_isClosed_19 ejc_1 ?_
    exact j_zreturn1 hq d11_isClosed_20
  · refine j_aload_n 0 rfl d11_isClosed_9 ?_
    refine j_iconst d11_isClosed_10 ejc_1 ?_
    refine j_callVi (c11_failsHere x n 1 σ) lv_X11_187 (rV_rc_200 x σ) ⟨Nat.le_of_ble_eq_true rfl, Nat.le_of_ble_eq_true rfl⟩ d11_isClosed_11 rfl (Nat.le_of_ble_eq_true rfl) (fun r3 s2 => ?_)
    exact j_zreturn hq d11_isClosed_14
theorem c11_isClosed (x : cw_T) (n : Nat)  (σ : ej_S) : ∀ r σ1, m11_isClosed n  σ = some (r, σ1) → ∀ l, ej_Con l (rV x) i11_isClosed yX11_isClosed (some .boolean) [.ref (cw_a x 200)] σ (some (.int r)) σ1 := fun r σ1 h l => ej_con_of (rV_ok x) pn_X11 rfl (Nat.le_of_ble_eq_true rfl) rfl h (fun F hq => j11_isClosed x n  σ hq)

noncomputable def m11_found_6 (n : Nat) (k : Nat) : Int64 → Int32 → Int32 → Int32 → ej_S → Option (Int32 × ej_S) := Nat.rec (motive := fun _ => Int64 → Int32 → Int32 → Int32 → ej_S → Option (Int32 × ej_S)) (fun _ _ _ _ _ => none) (fun _ ih y1 y2 y3 y4 σ => (if gI σ 15 ≤ y4 then (some (y3, σ)) else ej_ck y4 24 ((if lg_cmp (gB σ 1 y4.toNatClampNeg) y1 = 0 then ej_ck y4 24 ((if gA σ 11 y4.toNatClampNeg = y2 then ej_nm (y4 + 1) fun x7 => (ih y1 y2 y4 x7 σ) else ej_nm (y4 + 1) fun x6 => (ih y1 y2 y3 x6 σ))) else ej_nm (y4 + 1) fun x5 => (ih y1 y2 y3 x5 σ))))) k
theorem m11_found_6_s (n : Nat) (k : Nat) (y1 : Int64) (y2 : Int32) (y3 : Int32) (y4 : Int32) (σ : ej_S) : m11_found_6 n (k + 1) y1 y2 y3 y4 σ = ((if gI σ 15 ≤ y4 then (some (y3, σ)) else ej_ck y4 24 ((if lg_cmp (gB σ 1 y4.toNatClampNeg) y1 = 0 then ej_ck y4 24 ((if gA σ 11 y4.toNatClampNeg = y2 then ej_nm (y4 + 1) fun x7 => ((m11_found_6 n k) y1 y2 y4 x7 σ) else ej_nm (y4 + 1) fun x6 => ((m11_found_6 n k) y1 y2 y3 x6 σ))) else ej_nm (y4 + 1) fun x5 => ((m11_found_6 n k) y1 y2 y3 x5 σ)))) : Option (Int32 × ej_S)) := rfl
set_option maxRecDepth 20000 in
set_option maxHeartbeats 2000000 in
theorem j11_found_6 (x : cw_T) (n : Nat) {F : ej_F} {r0 : Int32 × ej_S} (hq : ej_fin (rV x) F (some .int) (some (.int r0.1)) r0.2) : ∀ (k : Nat) (y1 : Int64) (y2 : Int32) (y3 : Int32) (y4 : Int32) (σ : ej_S), ej_J (rV x) F i11_found r0 σ 6 [(0, .ref (cw_a x 200)), (1, .long y1), (3, .int y2), (4, .int y3), (5, .int y4)] [] (m11_found_6 n k y1 y2 y3 y4 σ) := by
  intro k
  induction k with
  | zero => intro y1 y2 y3 y4 σ; exact j_none
  | succ k ih =>
    intro y1 y2 y3 y4 σ
    rw [m11_found_6_s]
    refine j_iload 4 rfl d11_found_6 ?_
    refine j_aload_n 0 rfl d11_found_8 ?_
    refine j_get fl_X11_272 (rV_g_200_28 x σ) d11_found_9 ?_
    refine j_icmp_ge d11_found_12 ?_ ?_
    · refine j_iload 3 rfl d11_found_53 ?_
      exact j_ireturn hq d11_found_55
    · refine j_aload_n 0 rfl d11_found_15 ?_
      refine j_get fl_X11_47 (rV_g_200_30 x σ) d11_found_16 ?_
      refine j_iload 4 rfl d11_found_19 ?_
      refine j_lald (rV_a_213 x σ) d11_found_21 ?_
      refine j_lload_n 1 rfl d11_found_22 ?_
      refine j_lcmp d11_found_23 ?_
      refine j_if_ne d11_found_24 ?_ ?_
      · refine j_iload 3 rfl d11_found_43 ?_
        refine j_istore (i := 4) (L' := [(4, .int y3), (0, .ref (cw_a x 200)), (1, .long y1), (3, .int y2), (5, .int y4)]) d11_found_45 (Nat.le_of_ble_eq_true rfl) rfl ?_
        refine j_iinc (i := 5) (v := 1) (Ly := fun x5 => [(5, .int x5), (4, .int y3), (0, .ref (cw_a x 200)), (1, .long y1), (3, .int y2)]) 4 d11_found_47 rfl ejc_1 (Nat.le_of_ble_eq_true rfl) (fun _ => rfl) (fun x5 => ?_)
        refine j_goto d11_found_50 ?_
        exact j_sub [2, 3, 4, 1, 0] rfl (ih y1 y2 y3 x5 σ)
      · refine j_aload_n 0 rfl d11_found_27 ?_
        refine j_get fl_X11_50 (rV_g_200_31 x σ) d11_found_28 ?_
        refine j_iload 4 rfl d11_found_31 ?_
        refine j_iald (rV_a_214 x σ) d11_found_33 ?_
        refine j_iload_n 2 rfl d11_found_34 ?_
        refine j_icmp_ne d11_found_35 ?_ ?_
        · refine j_iload 3 rfl d11_found_43 ?_
          refine j_istore (i := 4) (L' := [(4, .int y3), (0, .ref (cw_a x 200)), (1, .long y1), (3, .int y2), (5, .int y4)]) d11_found_45 (Nat.le_of_ble_eq_true rfl) rfl ?_
          refine j_iinc (i := 5) (v := 1) (Ly := fun x6 => [(5, .int x6), (4, .int y3), (0, .ref (cw_a x 200)), (1, .long y1), (3, .int y2)]) 4 d11_found_47 rfl ejc_1 (Nat.le_of_ble_eq_true rfl) (fun _ => rfl) (fun x6 => ?_)
          refine j_goto d11_found_50 ?_
          exact j_sub [2, 3, 4, 1, 0] rfl (ih y1 y2 y3 x6 σ)
        · refine j_iload 4 rfl d11_found_38 ?_
          refine j_goto d11_found_40 ?_
          refine j_istore (i := 4) (L' := [(4, .int y4), (0, .ref (cw_a x 200)), (1, .long y1), (3, .int y2), (5, .int y4)]) d11_found_45 (Nat.le_of_ble_eq_true rfl) rfl ?_
          refine j_iinc (i := 5) (v := 1) (Ly := fun x7 => [(5, .int x7), (4, .int y4), (0, .ref (cw_a x 200)), (1, .long y1), (3, .int y2)]) 4 d11_found_47 rfl ejc_1 (Nat.le_of_ble_eq_true rfl) (fun _ => rfl) (fun x7 => ?_)
          refine j_goto d11_found_50 ?_
          exact j_sub [2, 3, 4, 1, 0] rfl (ih y1 y2 y4 x7 σ)
noncomputable def m11_found (n : Nat) (a1 : Int64) (a2 : Int32) (σ : ej_S) : Option (Int32 × ej_S) := (m11_found_6 n n a1 a2 (-1) 0 σ)
set_option maxRecDepth 20000 in
set_option maxHeartbeats 2000000 in
theorem j11_found (x : cw_T) (n : Nat) (a1 : Int64) (a2 : Int32) (σ : ej_S) {F : ej_F} {r0 : Int32 × ej_S} (hq : ej_fin (rV x) F (some .int) (some (.int r0.1)) r0.2) : ej_J (rV x) F i11_found r0 σ 0 [(0, .ref (cw_a x 200)), (1, .long a1), (3, .int a2)] [] (m11_found n a1 a2 σ) := by
  unfold m11_found
  refine j_iconst d11_found_0 ejc_m1 ?_
  refine j_istore (i := 4) (L' := [(4, .int (-1)), (0, .ref (cw_a x 200)), (1, .long a1), (3, .int a2)]) d11_found_1 (Nat.le_of_ble_eq_true rfl) rfl ?_
  refine j_iconst d11_found_3 ejc_0 ?_
  refine j_istore (i := 5) (L' := [(5, .int 0), (4, .int (-1)), (0, .ref (cw_a x 200)), (1, .long a1), (3, .int a2)]) d11_found_4 (Nat.le_of_ble_eq_true rfl) rfl ?_
  exact j_sub [2, 3, 4, 1, 0] rfl (j11_found_6 x n hq n a1 a2 (-1) 0 σ)
theorem c11_found (x : cw_T) (n : Nat) (a1 : Int64) (a2 : Int32) (σ : ej_S) : ∀ r σ1, m11_found n a1 a2 σ = some (r, σ1) → ∀ l, ej_Con l (rV x) i11_found yX11_found (some .int) [.ref (cw_a x 200), .long a1, .int a2] σ (some (.int r)) σ1 := fun r σ1 h l => ej_con_of (rV_ok x) pn_X11 rfl (Nat.le_of_ble_eq_true rfl) rfl h (fun F hq => j11_found x n a1 a2 σ hq)

noncomputable def m11_made (n : Nat) (a1 : Int64) (a2 : Int32) (σ : ej_S) : Option (Int32 × ej_S) := (if gI σ 15 = 24 then ej_nm (uI σ 16 1) fun s4 => (some (0, s4)) else ej_ck (gI σ 15) 24 (ej_nm (uB σ 1 ((gI σ 15).toNatClampNeg) a1) fun s1 => ej_ck (gI s1 15) 24 (ej_nm (uA s1 11 ((gI s1 15).toNatClampNeg) a2) fun s2 => ej_nm (uI s2 15 ((gI s2 15) + 1)) fun s3 => (some ((gI s3 15) - 1, s3)))))
set_option maxRecDepth 20000 in
set_option maxHeartbeats 2000000 in
theorem j11_made (x : cw_T) (n : Nat) (a1 : Int64) (a2 : Int32) (σ : ej_S) {F : ej_F} {r0 : Int32 × ej_S} (hq : ej_fin (rV x) F (some .int) (some (.int r0.1)) r0.2) : ej_J (rV x) F i11_made r0 σ 0 [(0, .ref (cw_a x 200)), (1, .long a1), (3, .int a2)] [] (m11_made n a1 a2 σ) := by
  unfold m11_made
  refine j_aload_n 0 rfl d11_made_0 ?_
  refine j_get fl_X11_272 (rV_g_200_28 x σ) d11_made_1 ?_
  refine j_bipush d11_made_4 ejb_24 ?_
  refine j_icmp_ne d11_made_6 ?_ ?_
  · refine j_aload_n 0 rfl d11_made_16 ?_
    refine j_get fl_X11_47 (rV_g_200_30 x σ) d11_made_17 ?_
    refine j_aload_n 0 rfl d11_made_20 ?_
    refine j_get fl_X11_272 (rV_g_200_28 x σ) d11_made_21 ?_
    refine j_lload_n 1 rfl d11_made_24 ?_
    refine j_last (rV_s_213 x σ ((gI σ 15).toNatClampNeg) a1) d11_made_25 (fun s1 => ?_)
    refine j_aload_n 0 rfl d11_made_26 ?_
    refine j_get fl_X11_50 (rV_g_200_31 x s1) d11_made_27 ?_
    refine j_aload_n 0 rfl d11_made_30 ?_
    refine j_get fl_X11_272 (rV_g_200_28 x s1) d11_made_31 ?_
    refine j_iload_n 2 rfl d11_made_34 ?_
    refine j_iast (rV_s_214 x s1 ((gI s1 15).toNatClampNeg) a2) d11_made_35 (fun s2 => ?_)
    refine j_aload_n 0 rfl d11_made_36 ?_
    refine j_dup d11_made_37 rfl ?_
    refine j_get fl_X11_272 (rV_g_200_28 x s2) d11_made_38 ?_
    refine j_iconst d11_made_41 ejc_1 ?_
    refine j_iadd d11_made_42 ?_
    refine j_put fl_X11_272 (rV_p_200_28 x s2 ((gI s2 15) + 1)) rfl rfl d11_made_43 (fun s3 => ?_)
    refine j_aload_n 0 rfl d11_made_46 ?_
    refine j_get fl_X11_272 (rV_g_200_28 x s3) d11_made_47 ?_
    refine j_iconst d11_made_50 ejc_1 ?_
    refine j_isub d11_made_51 ?_
    exact j_ireturn hq d11_made_52
  · refine j_aload_n 0 rfl d11_made_9 ?_
    refine j_iconst d11_made_10 ejc_1 ?_
    refine j_put fl_X11_275 (rV_p_200_29 x σ 1) rfl rfl d11_made_11 (fun s4 => ?_)
    refine j_iconst d11_made_14 ejc_0 ?_
    exact j_ireturn hq d11_made_15
theorem c11_made (x : cw_T) (n : Nat) (a1 : Int64) (a2 : Int32) (σ : ej_S) : ∀ r σ1, m11_made n a1 a2 σ = some (r, σ1) → ∀ l, ej_Con l (rV x) i11_made yX11_made (some .int) [.ref (cw_a x 200), .long a1, .int a2] σ (some (.int r)) σ1 := fun r σ1 h l => ej_con_of (rV_ok x) pn_X11 rfl (Nat.le_of_ble_eq_true rfl) rfl h (fun F hq => j11_made x n a1 a2 σ hq)

noncomputable def m11_nodeOf (n : Nat) (a1 : Int64) (σ : ej_S) : Option (Int32 × ej_S) := (if gI σ 6 = 0 then (some (0, σ)) else ej_bi (m11_found n a1 (gI σ 7) σ) fun r2 s1 => ej_bi (m11_found n a1 (-1) s1) fun r4 s3 => (if r2 = (-1) then (if r4 = (-1) then ej_bi (m11_made n a1 (-1) s3) fun r6 s5 => (some (r6, s5)) else (some (r4, s3))) else (some (r2, s3))))
set_option maxRecDepth 20000 in
set_option maxHeartbeats 2000000 in
theorem j11_nodeOf (x : cw_T) (n : Nat) (a1 : Int64) (σ : ej_S) {F : ej_F} {r0 : Int32 × ej_S} (hq : ej_fin (rV x) F (some .int) (some (.int r0.1)) r0.2) : ej_J (rV x) F i11_nodeOf r0 σ 0 [(0, .ref (cw_a x 200)), (1, .long a1)] [] (m11_nodeOf n a1 σ) := by
  unfold m11_nodeOf
  refine j_aload_n 0 rfl d11_nodeOf_0 ?_
  refine j_get fl_X11_237 (rV_g_200_13 x σ) d11_nodeOf_1 ?_
  refine j_if_ne d11_nodeOf_4 ?_ ?_
  · refine j_aload_n 0 rfl d11_nodeOf_9 ?_
    refine j_lload_n 1 rfl d11_nodeOf_10 ?_
    refine j_aload_n 0 rfl d11_nodeOf_11 ?_
    refine j_get fl_X11_278 (rV_g_200_14 x σ) d11_nodeOf_12 ?_
    refine j_callVi (c11_found x n a1 (gI σ 7) σ) lv_X11_281 (rV_rc_200 x σ) ⟨Nat.le_of_ble_eq_true rfl, Nat.le_of_ble_eq_true rfl⟩ d11_nodeOf_15 rfl (Nat.le_of_ble_eq_true rfl) (fun r2 s1 => ?_)
    refine j_istore_n (i := 3) (L' := [(3, .int r2), (0, .ref (cw_a x 200)), (1, .long a1)]) d11_nodeOf_18 rfl (Nat.le_of_ble_eq_true rfl) rfl ?_
    refine j_aload_n 1 rfl d11_nodeOf_19 ?_
    refine j_lload_n 2 rfl d11_nodeOf_20 ?_
    refine j_iconst d11_nodeOf_21 ejc_m1 ?_
    refine j_callVi (c11_found x n a1 (-1) s1) lv_X11_281 (rV_rc_200 x s1) ⟨Nat.le_of_ble_eq_true rfl, Nat.le_of_ble_eq_true rfl⟩ d11_nodeOf_22 rfl (Nat.le_of_ble_eq_true rfl) (fun r4 s3 => ?_)
    refine j_istore (i := 4) (L' := [(4, .int r4), (3, .int r2), (0, .ref (cw_a x 200)), (1, .long a1)]) d11_nodeOf_25 (Nat.le_of_ble_eq_true rfl) rfl ?_
    refine j_iload_n 1 rfl d11_nodeOf_27 ?_
    refine j_iconst d11_nodeOf_28 ejc_m1 ?_
    refine j_icmp_eq d11_nodeOf_29 ?_ ?_
    · refine j_iload 0 rfl d11_nodeOf_36 ?_
      refine j_iconst d11_nodeOf_38 ejc_m1 ?_
      refine j_icmp_eq d11_nodeOf_39 ?_ ?_
      · refine j_aload_n 2 rfl d11_nodeOf_47 ?_
        refine j_lload_n 3 rfl d11_nodeOf_48 ?_
        refine j_iconst d11_nodeOf_49 ejc_m1 ?_
        refine j_callVi (c11_made x n a1 (-1) s3) lv_X11_285 (rV_rc_200 x s3) ⟨Nat.le_of_ble_eq_true rfl, Nat.le_of_ble_eq_true rfl⟩ d11_nodeOf_50 rfl (Nat.le_of_ble_eq_true rfl) (fun r6 s5 => ?_)
        exact j_ireturn hq d11_nodeOf_53
      · refine j_iload 0 rfl d11_nodeOf_42 ?_
        refine j_goto d11_nodeOf_44 ?_
        exact j_ireturn hq d11_nodeOf_53
    · refine j_iload_n 1 rfl d11_nodeOf_32 ?_
      refine j_goto d11_nodeOf_33 ?_
      exact j_ireturn hq d11_nodeOf_53
  · refine j_iconst d11_nodeOf_7 ejc_0 ?_
    exact j_ireturn hq d11_nodeOf_8
theorem c11_nodeOf (x : cw_T) (n : Nat) (a1 : Int64) (σ : ej_S) : ∀ r σ1, m11_nodeOf n a1 σ = some (r, σ1) → ∀ l, ej_Con l (rV x) i11_nodeOf yX11_nodeOf (some .int) [.ref (cw_a x 200), .long a1] σ (some (.int r)) σ1 := fun r σ1 h l => ej_con_of (rV_ok x) pn_X11 rfl (Nat.le_of_ble_eq_true rfl) rfl h (fun F hq => j11_nodeOf x n a1 σ hq)

noncomputable def m11_links_61 (n : Nat) (y2 : Int32) (y3 : Int32) (y4 : Int32) (y5 : Int32) (y6 : Int32) (y7 : Int32) (σ : ej_S) : Option (ej_S) := (if gI σ 6 = 0 then (some σ) else (if y2 = y3 then (some σ) else (if y7 = 0 then (some σ) else ej_ck y6 576 (ej_nm (uA σ 16 (y6.toNatClampNeg) y4) fun s8 => ej_ck y6 576 (ej_nm (uA s8 17 (y6.toNatClampNeg) (ej_bz y5)) fun s9 => (some s9))))))
set_option maxRecDepth 20000 in
set_option maxHeartbeats 2000000 in
theorem j11_links_61 (x : cw_T) (n : Nat) {F : ej_F} {r0 : ej_S} (hq : ej_fin (rV x) F none none r0) (y2 : Int32) (y3 : Int32) (y4 : Int32) (y5 : Int32) (y6 : Int32) (y7 : Int32) (σ : ej_S) : ej_J (rV x) F i11_links r0 σ 61 [(0, .ref (cw_a x 200)), (1, .int y2), (2, .int y3), (3, .int y4), (4, .int y5), (5, .int y6)] [.int y7] (m11_links_61 n y2 y3 y4 y5 y6 y7 σ) := by
  unfold m11_links_61
  refine j_istore (i := 6) (L' := [(6, .int y7), (0, .ref (cw_a x 200)), (1, .int y2), (2, .int y3), (3, .int y4), (4, .int y5), (5, .int y6)]) d11_links_61 (Nat.le_of_ble_eq_true rfl) rfl ?_
  refine j_aload_n 1 rfl d11_links_63 ?_
  refine j_get fl_X11_237 (rV_g_200_13 x σ) d11_links_64 ?_
  refine j_if_eq d11_links_67 ?_ ?_
  · exact j_vreturn hq d11_links_97
  · refine j_iload_n 2 rfl d11_links_70 ?_
    refine j_iload_n 3 rfl d11_links_71 ?_
    refine j_icmp_eq d11_links_72 ?_ ?_
    · exact j_vreturn hq d11_links_97
    · refine j_iload 0 rfl d11_links_75 ?_
      refine j_if_eq d11_links_77 ?_ ?_
      · exact j_vreturn hq d11_links_97
      · refine j_aload_n 1 rfl d11_links_80 ?_
        refine j_get fl_X11_66 (rV_g_200_36 x σ) d11_links_81 ?_
        refine j_iload 6 rfl d11_links_84 ?_
        refine j_iload_n 4 rfl d11_links_86 ?_
        refine j_iast (rV_s_219 x σ (y6.toNatClampNeg) y4) d11_links_87 (fun s8 => ?_)
        refine j_aload_n 1 rfl d11_links_88 ?_
        refine j_get fl_X11_69 (rV_g_200_37 x s8) d11_links_89 ?_
        refine j_iload 6 rfl d11_links_92 ?_
        refine j_iload 5 rfl d11_links_94 ?_
        refine j_zast (rV_s_220 x s8 (y6.toNatClampNeg) (ej_bz y5)) d11_links_96 (fun s9 => ?_)
        exact j_vreturn hq d11_links_97
noncomputable def m11_links (n : Nat) (a1 : Int32) (a2 : Int32) (a3 : Int32) (a4 : Int32) (σ : ej_S) : Option (ej_S) := ej_nm ((24 * a1) + a2) fun x1 => ej_ck x1 576 ((if gA σ 16 x1.toNatClampNeg = (-1) then (m11_links_61 n a1 a2 a3 a4 x1 1 σ) else ej_ck x1 576 ((if a3 < gA σ 16 x1.toNatClampNeg then (m11_links_61 n a1 a2 a3 a4 x1 1 σ) else ej_ck x1 576 ((if a3 = gA σ 16 x1.toNatClampNeg then ej_ck x1 576 ((if gA σ 17 x1.toNatClampNeg = 0 then (m11_links_61 n a1 a2 a3 a4 x1 0 σ) else (if a4 = 0 then (m11_links_61 n a1 a2 a3 a4 x1 1 σ) else (m11_links_61 n a1 a2 a3 a4 x1 0 σ)))) else (m11_links_61 n a1 a2 a3 a4 x1 0 σ)))))))
set_option maxRecDepth 20000 in
set_option maxHeartbeats 2000000 in
theorem j11_links (x : cw_T) (n : Nat) (a1 : Int32) (a2 : Int32) (a3 : Int32) (a4 : Int32) (σ : ej_S) {F : ej_F} {r0 : ej_S} (hq : ej_fin (rV x) F none none r0) : ej_J (rV x) F i11_links r0 σ 0 [(0, .ref (cw_a x 200)), (1, .int a1), (2, .int a2), (3, .int a3), (4, .int a4)] [] (m11_links n a1 a2 a3 a4 σ) := by
  unfold m11_links
  refine j_bipush d11_links_0 ejb_24 ?_
  refine j_iload_n 1 rfl d11_links_2 ?_
  refine j_imul d11_links_3 ?_
  refine j_iload_n 2 rfl d11_links_4 ?_
  refine j_iadd d11_links_5 ?_
  refine j_nmi (fun x1 => ?_)
  refine j_istore (i := 5) (L' := [(5, .int x1), (0, .ref (cw_a x 200)), (1, .int a1), (2, .int a2), (3, .int a3), (4, .int a4)]) d11_links_6 (Nat.le_of_ble_eq_true rfl) rfl ?_
  refine j_aload_n 1 rfl d11_links_8 ?_
  refine j_get fl_X11_66 (rV_g_200_36 x σ) d11_links_9 ?_
  refine j_iload 0 rfl d11_links_12 ?_
  refine j_iald (rV_a_219 x σ) d11_links_14 ?_
  refine j_iconst d11_links_15 ejc_m1 ?_
  refine j_icmp_eq d11_links_16 ?_ ?_
  · refine j_iconst d11_links_56 ejc_1 ?_
    refine j_goto d11_links_57 ?_
    exact j_sub [1, 2, 3, 4, 5, 0] rfl (j11_links_61 x n hq a1 a2 a3 a4 x1 1 σ)
  · refine j_iload_n 4 rfl d11_links_19 ?_
    refine j_aload_n 1 rfl d11_links_20 ?_
    refine j_get fl_X11_66 (rV_g_200_36 x σ) d11_links_21 ?_
    refine j_iload 0 rfl d11_links_24 ?_
    refine j_iald (rV_a_219 x σ) d11_links_26 ?_
    refine j_icmp_lt d11_links_27 ?_ ?_
    · refine j_iconst d11_links_56 ejc_1 ?_
      refine j_goto d11_links_57 ?_
      exact j_sub [1, 2, 3, 4, 5, 0] rfl (j11_links_61 x n hq a1 a2 a3 a4 x1 1 σ)
    · refine j_iload_n 4 rfl d11_links_30 ?_
      refine j_aload_n 1 rfl d11_links_31 ?_
      refine j_get fl_X11_66 (rV_g_200_36 x σ) d11_links_32 ?_
      refine j_iload 0 rfl d11_links_35 ?_
      refine j_iald (rV_a_219 x σ) d11_links_37 ?_
      refine j_icmp_ne d11_links_38 ?_ ?_
      · refine j_iconst d11_links_60 ejc_0 ?_
        exact j_sub [1, 2, 3, 4, 5, 0] rfl (j11_links_61 x n hq a1 a2 a3 a4 x1 0 σ)
      · refine j_aload_n 1 rfl d11_links_41 ?_
        refine j_get fl_X11_69 (rV_g_200_37 x σ) d11_links_42 ?_
        refine j_iload 0 rfl d11_links_45 ?_
        refine j_zald (rV_a_220 x σ) d11_links_47 ?_
        refine j_if_eq d11_links_48 ?_ ?_
        · refine j_iconst d11_links_60 ejc_0 ?_
          exact j_sub [1, 2, 3, 4, 5, 0] rfl (j11_links_61 x n hq a1 a2 a3 a4 x1 0 σ)
        · refine j_iload 5 rfl d11_links_51 ?_
          refine j_if_ne d11_links_53 ?_ ?_
          · refine j_iconst d11_links_60 ejc_0 ?_
            exact j_sub [1, 2, 3, 4, 5, 0] rfl (j11_links_61 x n hq a1 a2 a3 a4 x1 0 σ)
          · refine j_iconst d11_links_56 ejc_1 ?_
            refine j_goto d11_links_57 ?_
            exact j_sub [1, 2, 3, 4, 5, 0] rfl (j11_links_61 x n hq a1 a2 a3 a4 x1 1 σ)
theorem c11_links (x : cw_T) (n : Nat) (a1 : Int32) (a2 : Int32) (a3 : Int32) (a4 : Int32) (σ : ej_S) : ∀ σ1, m11_links n a1 a2 a3 a4 σ = some σ1 → ∀ l, ej_Con l (rV x) i11_links yX11_links none [.ref (cw_a x 200), .int a1, .int a2, .int a3, .int a4] σ none σ1 := fun σ1 h l => ej_con_of (rV_ok x) pn_X11 rfl (Nat.le_of_ble_eq_true rfl) rfl h (fun F hq => j11_links x n a1 a2 a3 a4 σ hq)

noncomputable def m11_areTargets_29 (n : Nat) (f2 : Int32 → Int32 → ej_S → Option (Int32 × ej_S)) (y3 : Int32) (y4 : Int32) (σ : ej_S) : Option (Int32 × ej_S) := ej_bi (m11_isName n σ) fun r6 s5 => (if r6 = 0 then (some (0, s5)) else ej_bi (m11_nodeOf n (gJ s5 0) s5) fun r8 s7 => ej_bv (m11_next n s7) fun s9 => ej_bi (m11_isCost n s9) fun r11 s10 => (if r11 = 0 then (some (0, s10)) else ej_bv (m11_links n y3 r8 (gI s10 14) y4 s10) fun s12 => ej_bi (m11_isMore n s12) fun r14 s13 => (f2 y3 r14 s13)))
set_option maxRecDepth 20000 in
set_option maxHeartbeats 2000000 in
theorem j11_areTargets_29 (x : cw_T) (n : Nat) {F : ej_F} {r0 : Int32 × ej_S} (hq : ej_fin (rV x) F (some .boolean) (some (.int r0.1)) r0.2) (f2 : Int32 → Int32 → ej_S → Option (Int32 × ej_S)) (H2 : ∀ (y1 : Int32) (y2 : Int32) (σ : ej_S), ej_J (rV x) F i11_areTargets r0 σ 2 [(0, .ref (cw_a x 200)), (1, .int y1), (2, .int y2)] [] (f2 y1 y2 σ)) (y3 : Int32) (y4 : Int32) (σ : ej_S) : ej_J (rV x) F i11_areTargets r0 σ 29 [(0, .ref (cw_a x 200)), (1, .int y3), (3, .int y4)] [] (m11_areTargets_29 n f2 y3 y4 σ) := by
  unfold m11_areTargets_29
  refine j_aload_n 0 rfl d11_areTargets_29 ?_
  refine j_callVi (c11_isName x n σ) lv_X11_215 (rV_rc_200 x σ) ⟨Nat.le_of_ble_eq_true rfl, Nat.le_of_ble_eq_true rfl⟩ d11_areTargets_30 rfl (Nat.le_of_ble_eq_true rfl) (fun r6 s5 => ?_)
  refine j_if_ne d11_areTargets_33 ?_ ?_
  · refine j_aload_n 0 rfl d11_areTargets_38 ?_
    refine j_aload_n 0 rfl d11_areTargets_39 ?_
    refine j_get fl_X11_154 (rV_g_200_11 x s5) d11_areTargets_40 ?_
    refine j_callVi (c11_nodeOf x n (gJ s5 0) s5) lv_X11_218 (rV_rc_200 x s5) ⟨Nat.le_of_ble_eq_true rfl, Nat.le_of_ble_eq_true rfl⟩ d11_areTargets_43 rfl (Nat.le_of_ble_eq_true rfl) (fun r8 s7 => ?_)
    refine j_istore (i := 4) (L' := [(4, .int r8), (0, .ref (cw_a x 200)), (1, .int y3), (3, .int y4)]) d11_areTargets_46 (Nat.le_of_ble_eq_true rfl) rfl ?_
    refine j_aload_n 1 rfl d11_areTargets_48 ?_
    refine j_callVv (c11_next x n s7) lv_X11_201 (rV_rc_200 x s7) ⟨Nat.le_of_ble_eq_true rfl, Nat.le_of_ble_eq_true rfl⟩ d11_areTargets_49 rfl (Nat.le_of_ble_eq_true rfl) (fun s9 => ?_)
    refine j_aload_n 1 rfl d11_areTargets_52 ?_
    refine j_callVi (c11_isCost x n s9) lv_X11_222 (rV_rc_200 x s9) ⟨Nat.le_of_ble_eq_true rfl, Nat.le_of_ble_eq_true rfl⟩ d11_areTargets_53 rfl (Nat.le_of_ble_eq_true rfl) (fun r11 s10 => ?_)
    refine j_if_ne d11_areTargets_56 ?_ ?_
    · refine j_aload_n 1 rfl d11_areTargets_61 ?_
      refine j_iload_n 2 rfl d11_areTargets_62 ?_
      refine j_iload 0 rfl d11_areTargets_63 ?_
      refine j_aload_n 1 rfl d11_areTargets_65 ?_
      refine j_get fl_X11_184 (rV_g_200_27 x s10) d11_areTargets_66 ?_
      refine j_iload_n 3 rfl d11_areTargets_69 ?_
      refine j_callVv (c11_links x n y3 r8 (gI s10 14) y4 s10) lv_X11_225 (rV_rc_200 x s10) ⟨Nat.le_of_ble_eq_true rfl, Nat.le_of_ble_eq_true rfl⟩ d11_areTargets_70 rfl (Nat.le_of_ble_eq_true rfl) (fun s12 => ?_)
      refine j_aload_n 1 rfl d11_areTargets_73 ?_
      refine j_callVi (c11_isMore x n s12) lv_X11_228 (rV_rc_200 x s12) ⟨Nat.le_of_ble_eq_true rfl, Nat.le_of_ble_eq_true rfl⟩ d11_areTargets_74 rfl (Nat.le_of_ble_eq_true rfl) (fun r14 s13 => ?_)
      refine j_istore_n (i := 2) (L' := [(2, .int r14), (4, .int r8), (0, .ref (cw_a x 200)), (1, .int y3), (3, .int y4)]) d11_areTargets_77 rfl (Nat.le_of_ble_eq_true rfl) rfl ?_
      refine j_goto d11_areTargets_78 ?_
      exact j_sub [2, 3, 0] rfl (H2 y3 r14 s13)
    · refine j_iconst d11_areTargets_59 ejc_0 ?_
      exact j_zreturn0 hq d11_areTargets_60
  · refine j_iconst d11_areTargets_36 ejc_0 ?_
    exact j_zreturn0 hq d11_areTargets_37
noncomputable def m11_areTargets_2 (n : Nat) (k : Nat) : Int32 → Int32 → ej_S → Option (Int32 × ej_S) := Nat.rec (motive := fun _ => Int32 → Int32 → ej_S → Option (Int32 × ej_S)) (fun _ _ _ => none) (fun _ ih y1 y2 σ => (if y2 = 0 then (some (1, σ)) else (if gI σ 2 = 64 then (if (1 : Int32) = 0 then (m11_areTargets_29 n ih y1 1 σ) else ej_bv (m11_next n σ) fun s16 => (m11_areTargets_29 n ih y1 1 s16)) else (if (0 : Int32) = 0 then (m11_areTargets_29 n ih y1 0 σ) else ej_bv (m11_next n σ) fun s15 => (m11_areTargets_29 n ih y1 0 s15))))) k
theorem m11_areTargets_2_s (n : Nat) (k : Nat) (y1 : Int32) (y2 : Int32) (σ : ej_S) : m11_areTargets_2 n (k + 1) y1 y2 σ = ((if y2 = 0 then (some (1, σ)) else (if gI σ 2 = 64 then (if (1 : Int32) = 0 then (m11_areTargets_29 n (m11_areTargets_2 n k) y1 1 σ) else ej_bv (m11_next n σ) fun s16 => (m11_areTargets_29 n (m11_areTargets_2 n k) y1 1 s16)) else (if (0 : Int32) = 0 then (m11_areTargets_29 n (m11_areTargets_2 n k) y1 0 σ) else ej_bv (m11_next n σ) fun s15 => (m11_areTargets_29 n (m11_areTargets_2 n k) y1 0 s15)))) : Option (Int32 × ej_S)) := rfl
set_option maxRecDepth 20000 in
set_option maxHeartbeats 2000000 in
theorem j11_areTargets_2 (x : cw_T) (n : Nat) {F : ej_F} {r0 : Int32 × ej_S} (hq : ej_fin (rV x) F (some .boolean) (some (.int r0.1)) r0.2) : ∀ (k : Nat) (y1 : Int32) (y2 : Int32) (σ : ej_S), ej_J (rV x) F i11_areTargets r0 σ 2 [(0, .ref (cw_a x 200)), (1, .int y1), (2, .int y2)] [] (m11_areTargets_2 n k y1 y2 σ) := by
  intro k
  induction k with
  | zero => intro y1 y2 σ; exact j_none
  | succ k ih =>
    intro y1 y2 σ
    rw [m11_areTargets_2_s]
    refine j_iload_n 2 rfl d11_areTargets_2 ?_
    refine j_if_eq d11_areTargets_3 ?_ ?_
    · refine j_iconst d11_areTargets_81 ejc_1 ?_
      exact j_zreturn1 hq d11_areTargets_82
    · refine j_aload_n 0 rfl d11_areTargets_6 ?_
      refine j_get fl_X11_161 (rV_g_200_8 x σ) d11_areTargets_7 ?_
      refine j_bipush d11_areTargets_10 ejb_64 ?_
      refine j_icmp_ne d11_areTargets_12 ?_ ?_
      · refine j_iconst d11_areTargets_19 ejc_0 ?_
        refine j_istore_n (i := 3) (L' := [(3, .int 0), (0, .ref (cw_a x 200)), (1, .int y1), (2, .int y2)]) d11_areTargets_20 rfl (Nat.le_of_ble_eq_true rfl) rfl ?_
        refine j_iload_n 0 rfl d11_areTargets_21 ?_
        refine j_if_eq d11_areTargets_22 ?_ ?_
        · exact j_sub [1, 2, 0] rfl (j11_areTargets_29 x n hq (m11_areTargets_2 n k) ih y1 0 σ)
        · refine j_aload_n 1 rfl d11_areTargets_25 ?_
          refine j_callVv (c11_next x n σ) lv_X11_201 (rV_rc_200 x σ) ⟨Nat.le_of_ble_eq_true rfl, Nat.le_of_ble_eq_true rfl⟩ d11_areTargets_26 rfl (Nat.le_of_ble_eq_true rfl) (fun s15 => ?_)
          exact j_sub [1, 2, 0] rfl (j11_areTargets_29 x n hq (m11_areTargets_2 n k) ih y1 0 s15)
      · refine j_iconst d11_areTargets_15 ejc_1 ?_
        refine j_goto d11_areTargets_16 ?_
        refine j_istore_n (i := 3) (L' := [(3, .int 1), (0, .ref (cw_a x 200)), (1, .int y1), (2, .int y2)]) d11_areTargets_20 rfl (Nat.le_of_ble_eq_true rfl) rfl ?_
        refine j_iload_n 0 rfl d11_areTargets_21 ?_
        refine j_if_eq d11_areTargets_22 ?_ ?_
        · exact j_sub [1, 2, 0] rfl (j11_areTargets_29 x n hq (m11_areTargets_2 n k) ih y1 1 σ)
        · refine j_aload_n 1 rfl d11_areTargets_25 ?_
          refine j_callVv (c11_next x n σ) lv_X11_201 (rV_rc_200 x σ) ⟨Nat.le_of_ble_eq_true rfl, Nat.le_of_ble_eq_true rfl⟩ d11_areTargets_26 rfl (Nat.le_of_ble_eq_true rfl) (fun s16 => ?_)
          exact j_sub [1, 2, 0] rfl (j11_areTargets_29 x n hq (m11_areTargets_2 n k) ih y1 1 s16)
noncomputable def m11_areTargets (n : Nat) (a1 : Int32) (σ : ej_S) : Option (Int32 × ej_S) := (m11_areTargets_2 n n a1 1 σ)
set_option maxRecDepth 20000 in
set_option maxHeartbeats 2000000 in
theorem j11_areTargets (x : cw_T) (n : Nat) (a1 : Int32) (σ : ej_S) {F : ej_F} {r0 : Int32 × ej_S} (hq : ej_fin (rV x) F (some .boolean) (some (.int r0.1)) r0.2) : ej_J (rV x) F i11_areTargets r0 σ 0 [(0, .ref (cw_a x 200)), (1, .int a1)] [] (m11_areTargets n a1 σ) := by
  unfold m11_areTargets
  refine j_iconst d11_areTargets_0 ejc_1 ?_
  refine j_istore_n (i := 2) (L' := [(2, .int 1), (0, .ref (cw_a x 200)), (1, .int a1)]) d11_areTargets_1 rfl (Nat.le_of_ble_eq_true rfl) rfl ?_
  exact j_sub [1, 2, 0] rfl (j11_areTargets_2 x n hq n a1 1 σ)
theorem c11_areTargets (x : cw_T) (n : Nat) (a1 : Int32) (σ : ej_S) : ∀ r σ1, m11_areTargets n a1 σ = some (r, σ1) → ∀ l, ej_Con l (rV x) i11_areTargets yX11_areTargets (some .boolean) [.ref (cw_a x 200), .int a1] σ (some (.int r)) σ1 := fun r σ1 h l => ej_con_of (rV_ok x) pn_X11 rfl (Nat.le_of_ble_eq_true rfl) rfl h (fun F hq => j11_areTargets x n a1 σ hq)

noncomputable def m11_holds_104 (n : Nat) (f43 : Int32 → Int32 → Int32 → Int32 → ej_S → Option (ej_S)) (y8 : Int32) (y9 : Int32) (y10 : Int32) (y11 : Int32) (y12 : Int32) (y13 : Int32) (σ : ej_S) : Option (ej_S) := (if y13 = 0 then ej_ck y12 576 (ej_ck y12 576 (ej_nm (uA σ 20 (y12.toNatClampNeg) (gA σ 20 y12.toNatClampNeg)) fun s14 => ej_nm (y11 + 1) fun x15 => (f43 y8 y9 y10 x15 s14))) else ej_ck y12 576 (ej_nm (uA σ 20 (y12.toNatClampNeg) y10) fun s16 => ej_nm (y11 + 1) fun x17 => (f43 y8 y9 y10 x17 s16)))
set_option maxRecDepth 20000 in
set_option maxHeartbeats 2000000 in
theorem j11_holds_104 (x : cw_T) (n : Nat) {F : ej_F} {r0 : ej_S} (hq : ej_fin (rV x) F none none r0) (f43 : Int32 → Int32 → Int32 → Int32 → ej_S → Option (ej_S)) (H43 : ∀ (y3 : Int32) (y4 : Int32) (y5 : Int32) (y6 : Int32) (σ : ej_S), ej_J (rV x) F i11_holds r0 σ 43 [(0, .ref (cw_a x 200)), (1, .int y3), (2, .int y4), (3, .int y5), (5, .int y6)] [] (f43 y3 y4 y5 y6 σ)) (y8 : Int32) (y9 : Int32) (y10 : Int32) (y11 : Int32) (y12 : Int32) (y13 : Int32) (σ : ej_S) : ej_J (rV x) F i11_holds r0 σ 104 [(0, .ref (cw_a x 200)), (1, .int y8), (2, .int y9), (3, .int y10), (5, .int y11), (6, .int y12)] [.int y13] (m11_holds_104 n f43 y8 y9 y10 y11 y12 y13 σ) := by
  unfold m11_holds_104
  refine j_istore (i := 7) (L' := [(7, .int y13), (0, .ref (cw_a x 200)), (1, .int y8), (2, .int y9), (3, .int y10), (5, .int y11), (6, .int y12)]) d11_holds_104 (Nat.le_of_ble_eq_true rfl) rfl ?_
  refine j_aload_n 1 rfl d11_holds_106 ?_
  refine j_get fl_X11_78 (rV_g_200_40 x σ) d11_holds_107 ?_
  refine j_iload 6 rfl d11_holds_110 ?_
  refine j_iload 0 rfl d11_holds_112 ?_
  refine j_if_eq d11_holds_114 ?_ ?_
  · refine j_aload_n 1 rfl d11_holds_121 ?_
    refine j_get fl_X11_78 (rV_g_200_40 x σ) d11_holds_122 ?_
    refine j_iload 6 rfl d11_holds_125 ?_
    refine j_iald (rV_a_223 x σ) d11_holds_127 ?_
    refine j_iast (rV_s_223 x σ (y12.toNatClampNeg) (gA σ 20 y12.toNatClampNeg)) d11_holds_128 (fun s14 => ?_)
    refine j_iinc (i := 5) (v := 1) (Ly := fun x15 => [(5, .int x15), (7, .int y13), (0, .ref (cw_a x 200)), (1, .int y8), (2, .int y9), (3, .int y10), (6, .int y12)]) 5 d11_holds_129 rfl ejc_1 (Nat.le_of_ble_eq_true rfl) (fun _ => rfl) (fun x15 => ?_)
    refine j_goto d11_holds_132 ?_
    exact j_sub [2, 3, 4, 5, 0] rfl (H43 y8 y9 y10 x15 s14)
  · refine j_iload_n 4 rfl d11_holds_117 ?_
    refine j_goto d11_holds_118 ?_
    refine j_iast (rV_s_223 x σ (y12.toNatClampNeg) y10) d11_holds_128 (fun s16 => ?_)
    refine j_iinc (i := 5) (v := 1) (Ly := fun x17 => [(5, .int x17), (7, .int y13), (0, .ref (cw_a x 200)), (1, .int y8), (2, .int y9), (3, .int y10), (6, .int y12)]) 5 d11_holds_129 rfl ejc_1 (Nat.le_of_ble_eq_true rfl) (fun _ => rfl) (fun x17 => ?_)
    refine j_goto d11_holds_132 ?_
    exact j_sub [2, 3, 4, 5, 0] rfl (H43 y8 y9 y10 x17 s16)
noncomputable def m11_holds_43 (n : Nat) (k : Nat) : Int32 → Int32 → Int32 → Int32 → ej_S → Option (ej_S) := Nat.rec (motive := fun _ => Int32 → Int32 → Int32 → Int32 → ej_S → Option (ej_S)) (fun _ _ _ _ _ => none) (fun _ ih y3 y4 y5 y6 σ => (if gI σ 15 ≤ y6 then (some σ) else ej_nm ((24 * y6) + y3) fun x7 => (if (y4 >>> (y6 &&& 31)) &&& 1 = 1 then (if y6 = y3 then (m11_holds_104 n ih y3 y4 y5 y6 x7 0 σ) else ej_ck x7 576 ((if gA σ 20 x7.toNatClampNeg = (-1) then (m11_holds_104 n ih y3 y4 y5 y6 x7 1 σ) else ej_ck x7 576 ((if gA σ 20 x7.toNatClampNeg ≤ y5 then (m11_holds_104 n ih y3 y4 y5 y6 x7 0 σ) else (m11_holds_104 n ih y3 y4 y5 y6 x7 1 σ)))))) else (m11_holds_104 n ih y3 y4 y5 y6 x7 0 σ)))) k
theorem m11_holds_43_s (n : Nat) (k : Nat) (y3 : Int32) (y4 : Int32) (y5 : Int32) (y6 : Int32) (σ : ej_S) : m11_holds_43 n (k + 1) y3 y4 y5 y6 σ = ((if gI σ 15 ≤ y6 then (some σ) else ej_nm ((24 * y6) + y3) fun x7 => (if (y4 >>> (y6 &&& 31)) &&& 1 = 1 then (if y6 = y3 then (m11_holds_104 n (m11_holds_43 n k) y3 y4 y5 y6 x7 0 σ) else ej_ck x7 576 ((if gA σ 20 x7.toNatClampNeg = (-1) then (m11_holds_104 n (m11_holds_43 n k) y3 y4 y5 y6 x7 1 σ) else ej_ck x7 576 ((if gA σ 20 x7.toNatClampNeg ≤ y5 then (m11_holds_104 n (m11_holds_43 n k) y3 y4 y5 y6 x7 0 σ) else (m11_holds_104 n (m11_holds_43 n k) y3 y4 y5 y6 x7 1 σ)))))) else (m11_holds_104 n (m11_holds_43 n k) y3 y4 y5 y6 x7 0 σ))) : Option (ej_S)) := rfl
set_option maxRecDepth 20000 in
set_option maxHeartbeats 2000000 in
theorem j11_holds_43 (x : cw_T) (n : Nat) {F : ej_F} {r0 : ej_S} (hq : ej_fin (rV x) F none none r0) : ∀ (k : Nat) (y3 : Int32) (y4 : Int32) (y5 : Int32) (y6 : Int32) (σ : ej_S), ej_J (rV x) F i11_holds r0 σ 43 [(0, .ref (cw_a x 200)), (1, .int y3), (2, .int y4), (3, .int y5), (5, .int y6)] [] (m11_holds_43 n k y3 y4 y5 y6 σ) := by
  intro k
  induction k with
  | zero => intro y3 y4 y5 y6 σ; exact j_none
  | succ k ih =>
    intro y3 y4 y5 y6 σ
    rw [m11_holds_43_s]
    refine j_iload 4 rfl d11_holds_43 ?_
    refine j_aload_n 0 rfl d11_holds_45 ?_
    refine j_get fl_X11_272 (rV_g_200_28 x σ) d11_holds_46 ?_
    refine j_icmp_ge d11_holds_49 ?_ ?_
    · exact j_vreturn hq d11_holds_135
    · refine j_bipush d11_holds_52 ejb_24 ?_
      refine j_iload 4 rfl d11_holds_54 ?_
      refine j_imul d11_holds_56 ?_
      refine j_iload_n 1 rfl d11_holds_57 ?_
      refine j_iadd d11_holds_58 ?_
      refine j_nmi (fun x7 => ?_)
      refine j_istore (i := 6) (L' := [(6, .int x7), (0, .ref (cw_a x 200)), (1, .int y3), (2, .int y4), (3, .int y5), (5, .int y6)]) d11_holds_59 (Nat.le_of_ble_eq_true rfl) rfl ?_
      refine j_iload_n 3 rfl d11_holds_61 ?_
      refine j_iload 5 rfl d11_holds_62 ?_
      refine j_ishr d11_holds_64 ?_
      refine j_iconst d11_holds_65 ejc_1 ?_
      refine j_iand d11_holds_66 ?_
      refine j_iconst d11_holds_67 ejc_1 ?_
      refine j_icmp_ne d11_holds_68 ?_ ?_
      · refine j_iconst d11_holds_103 ejc_0 ?_
        exact j_sub [1, 2, 3, 4, 5, 0] rfl (j11_holds_104 x n hq (m11_holds_43 n k) ih y3 y4 y5 y6 x7 0 σ)
      · refine j_iload 5 rfl d11_holds_71 ?_
        refine j_iload_n 2 rfl d11_holds_73 ?_
        refine j_icmp_eq d11_holds_74 ?_ ?_
        · refine j_iconst d11_holds_103 ejc_0 ?_
          exact j_sub [1, 2, 3, 4, 5, 0] rfl (j11_holds_104 x n hq (m11_holds_43 n k) ih y3 y4 y5 y6 x7 0 σ)
        · refine j_aload_n 1 rfl d11_holds_77 ?_
          refine j_get fl_X11_78 (rV_g_200_40 x σ) d11_holds_78 ?_
          refine j_iload 0 rfl d11_holds_81 ?_
          refine j_iald (rV_a_223 x σ) d11_holds_83 ?_
          refine j_iconst d11_holds_84 ejc_m1 ?_
          refine j_icmp_eq d11_holds_85 ?_ ?_
          · refine j_iconst d11_holds_99 ejc_1 ?_
            refine j_goto d11_holds_100 ?_
            exact j_sub [1, 2, 3, 4, 5, 0] rfl (j11_holds_104 x n hq (m11_holds_43 n k) ih y3 y4 y5 y6 x7 1 σ)
          · refine j_iload_n 4 rfl d11_holds_88 ?_
            refine j_aload_n 1 rfl d11_holds_89 ?_
            refine j_get fl_X11_78 (rV_g_200_40 x σ) d11_holds_90 ?_
            refine j_iload 0 rfl d11_holds_93 ?_
            refine j_iald (rV_a_223 x σ) d11_holds_95 ?_
            refine j_icmp_ge d11_holds_96 ?_ ?_
            · refine j_iconst d11_holds_103 ejc_0 ?_
              exact j_sub [1, 2, 3, 4, 5, 0] rfl (j11_holds_104 x n hq (m11_holds_43 n k) ih y3 y4 y5 y6 x7 0 σ)
            · refine j_iconst d11_holds_99 ejc_1 ?_
              refine j_goto d11_holds_100 ?_
              exact j_sub [1, 2, 3, 4, 5, 0] rfl (j11_holds_104 x n hq (m11_holds_43 n k) ih y3 y4 y5 y6 x7 1 σ)
noncomputable def m11_holds (n : Nat) (a1 : Int32) (a2 : Int32) (a3 : Int32) (a4 : Int32) (σ : ej_S) : Option (ej_S) := (if gI σ 6 = 0 then (some σ) else ej_ck a1 24 (ej_nm (uA σ 12 (a1.toNatClampNeg) (ej_bz 1)) fun s1 => ej_ck a1 24 ((if gA s1 13 a1.toNatClampNeg = 0 then (if a4 = 0 then ej_ck a1 24 (ej_nm (uA s1 13 (a1.toNatClampNeg) (ej_bz 1)) fun s19 => (m11_holds_43 n n a1 a2 a3 0 s19)) else ej_ck a1 24 (ej_nm (uA s1 13 (a1.toNatClampNeg) (ej_bz 0)) fun s18 => (m11_holds_43 n n a1 a2 a3 0 s18))) else ej_ck a1 24 (ej_nm (uA s1 13 (a1.toNatClampNeg) (ej_bz 1)) fun s2 => (m11_holds_43 n n a1 a2 a3 0 s2))))))
set_option maxRecDepth 20000 in
set_option maxHeartbeats 2000000 in
theorem j11_holds (x : cw_T) (n : Nat) (a1 : Int32) (a2 : Int32) (a3 : Int32) (a4 : Int32) (σ : ej_S) {F : ej_F} {r0 : ej_S} (hq : ej_fin (rV x) F none none r0) : ej_J (rV x) F i11_holds r0 σ 0 [(0, .ref (cw_a x 200)), (1, .int a1), (2, .int a2), (3, .int a3), (4, .int a4)] [] (m11_holds n a1 a2 a3 a4 σ) := by
  unfold m11_holds
  refine j_aload_n 0 rfl d11_holds_0 ?_
  refine j_get fl_X11_237 (rV_g_200_13 x σ) d11_holds_1 ?_
  refine j_if_ne d11_holds_4 ?_ ?_
  · refine j_aload_n 0 rfl d11_holds_8 ?_
    refine j_get fl_X11_53 (rV_g_200_32 x σ) d11_holds_9 ?_
    refine j_iload_n 1 rfl d11_holds_12 ?_
    refine j_iconst d11_holds_13 ejc_1 ?_
    refine j_zast (rV_s_215 x σ (a1.toNatClampNeg) (ej_bz 1)) d11_holds_14 (fun s1 => ?_)
    refine j_aload_n 0 rfl d11_holds_15 ?_
    refine j_get fl_X11_57 (rV_g_200_33 x s1) d11_holds_16 ?_
    refine j_iload_n 1 rfl d11_holds_19 ?_
    refine j_aload_n 0 rfl d11_holds_20 ?_
    refine j_get fl_X11_57 (rV_g_200_33 x s1) d11_holds_21 ?_
    refine j_iload_n 1 rfl d11_holds_24 ?_
    refine j_zald (rV_a_216 x s1) d11_holds_25 ?_
    refine j_if_ne d11_holds_26 ?_ ?_
    · refine j_iconst d11_holds_34 ejc_1 ?_
      refine j_goto d11_holds_35 ?_
      refine j_zast (rV_s_216 x s1 (a1.toNatClampNeg) (ej_bz 1)) d11_holds_39 (fun s2 => ?_)
      refine j_iconst d11_holds_40 ejc_0 ?_
      refine j_istore (i := 5) (L' := [(5, .int 0), (0, .ref (cw_a x 200)), (1, .int a1), (2, .int a2), (3, .int a3), (4, .int a4)]) d11_holds_41 (Nat.le_of_ble_eq_true rfl) rfl ?_
      exact j_sub [1, 2, 3, 4, 0] rfl (j11_holds_43 x n hq n a1 a2 a3 0 s2)
    · refine j_iload 4 rfl d11_holds_29 ?_
      refine j_if_ne d11_holds_31 ?_ ?_
      · refine j_iconst d11_holds_38 ejc_0 ?_
        refine j_zast (rV_s_216 x s1 (a1.toNatClampNeg) (ej_bz 0)) d11_holds_39 (fun s18 => ?_)
        refine j_iconst d11_holds_40 ejc_0 ?_
        refine j_istore (i := 5) (L' := [(5, .int 0), (0, .ref (cw_a x 200)), (1, .int a1), (2, .int a2), (3, .int a3), (4, .int a4)]) d11_holds_41 (Nat.le_of_ble_eq_true rfl) rfl ?_
        exact j_sub [1, 2, 3, 4, 0] rfl (j11_holds_43 x n hq n a1 a2 a3 0 s18)
      · refine j_iconst d11_holds_34 ejc_1 ?_
        refine j_goto d11_holds_35 ?_
        refine j_zast (rV_s_216 x s1 (a1.toNatClampNeg) (ej_bz 1)) d11_holds_39 (fun s19 => ?_)
        refine j_iconst d11_holds_40 ejc_0 ?_
        refine j_istore (i := 5) (L' := [(5, .int 0), (0, .ref (cw_a x 200)), (1, .int a1), (2, .int a2), (3, .int a3), (4, .int a4)]) d11_holds_41 (Nat.le_of_ble_eq_true rfl) rfl ?_
        exact j_sub [1, 2, 3, 4, 0] rfl (j11_holds_43 x n hq n a1 a2 a3 0 s19)
  · exact j_vreturn hq d11_holds_7
theorem c11_holds (x : cw_T) (n : Nat) (a1 : Int32) (a2 : Int32) (a3 : Int32) (a4 : Int32) (σ : ej_S) : ∀ σ1, m11_holds n a1 a2 a3 a4 σ = some σ1 → ∀ l, ej_Con l (rV x) i11_holds yX11_holds none [.ref (cw_a x 200), .int a1, .int a2, .int a3, .int a4] σ none σ1 := fun σ1 h l => ej_con_of (rV_ok x) pn_X11 rfl (Nat.le_of_ble_eq_true rfl) rfl h (fun F hq => j11_holds x n a1 a2 a3 a4 σ hq)

noncomputable def m11_areMembers_47 (n : Nat) (k : Nat) : Int32 → Int32 → Int32 → Int32 → ej_S → Option (Int32 × ej_S) := Nat.rec (motive := fun _ => Int32 → Int32 → Int32 → Int32 → ej_S → Option (Int32 × ej_S)) (fun _ _ _ _ _ => none) (fun _ ih y4 y5 y6 y7 σ => (if y7 = 0 then ej_bi (m11_isClosed n σ) fun r9 s8 => (if r9 = 0 then (some (0, s8)) else ej_bi (m11_isCost n s8) fun r11 s10 => (if r11 = 0 then (some (0, s10)) else ej_bv (m11_holds n y4 y6 (gI s10 14) y5 s10) fun s12 => (some (1, s12)))) else ej_bi (m11_isName n σ) fun r14 s13 => (if r14 = 0 then (some (0, s13)) else ej_bi (m11_nodeOf n (gJ s13 0) s13) fun r16 s15 => ej_nm (y6 ||| (1 <<< (r16 &&& 31))) fun x17 => ej_bv (m11_next n s15) fun s18 => ej_bi (m11_isMore n s18) fun r20 s19 => (ih y4 y5 x17 r20 s19)))) k
theorem m11_areMembers_47_s (n : Nat) (k : Nat) (y4 : Int32) (y5 : Int32) (y6 : Int32) (y7 : Int32) (σ : ej_S) : m11_areMembers_47 n (k + 1) y4 y5 y6 y7 σ = ((if y7 = 0 then ej_bi (m11_isClosed n σ) fun r9 s8 => (if r9 = 0 then (some (0, s8)) else ej_bi (m11_isCost n s8) fun r11 s10 => (if r11 = 0 then (some (0, s10)) else ej_bv (m11_holds n y4 y6 (gI s10 14) y5 s10) fun s12 => (some (1, s12)))) else ej_bi (m11_isName n σ) fun r14 s13 => (if r14 = 0 then (some (0, s13)) else ej_bi (m11_nodeOf n (gJ s13 0) s13) fun r16 s15 => ej_nm (y6 ||| (1 <<< (r16 &&& 31))) fun x17 => ej_bv (m11_next n s15) fun s18 => ej_bi (m11_isMore n s18) fun r20 s19 => ((m11_areMembers_47 n k) y4 y5 x17 r20 s19))) : Option (Int32 × ej_S)) := rfl
set_option maxRecDepth 20000 in
set_option maxHeartbeats 2000000 in
theorem j11_areMembers_47 (x : cw_T) (n : Nat) {F : ej_F} {r0 : Int32 × ej_S} (hq : ej_fin (rV x) F (some .boolean) (some (.int r0.1)) r0.2) : ∀ (k : Nat) (y4 : Int32) (y5 : Int32) (y6 : Int32) (y7 : Int32) (σ : ej_S), ej_J (rV x) F i11_areMembers r0 σ 47 [(0, .ref (cw_a x 200)), (1, .int y4), (2, .int y5), (3, .int y6), (4, .int y7)] [] (m11_areMembers_47 n k y4 y5 y6 y7 σ) := by
  intro k
  induction k with
  | zero => intro y4 y5 y6 y7 σ; exact j_none
  | succ k ih =>
    intro y4 y5 y6 y7 σ
    rw [m11_areMembers_47_s]
    refine j_iload 4 rfl d11_areMembers_47 ?_
    refine j_if_eq d11_areMembers_49 ?_ ?_
    · refine j_aload_n 0 rfl d11_areMembers_87 ?_
      refine j_callVi (c11_isClosed x n σ) lv_X11_231 (rV_rc_200 x σ) ⟨Nat.le_of_ble_eq_true rfl, Nat.le_of_ble_eq_true rfl⟩ d11_areMembers_88 rfl (Nat.le_of_ble_eq_true rfl) (fun r9 s8 => ?_)
      refine j_if_eq d11_areMembers_91 ?_ ?_
      · refine j_iconst d11_areMembers_101 ejc_0 ?_
        exact j_zreturn0 hq d11_areMembers_102
      · refine j_aload_n 0 rfl d11_areMembers_94 ?_
        refine j_callVi (c11_isCost x n s8) lv_X11_222 (rV_rc_200 x s8) ⟨Nat.le_of_ble_eq_true rfl, Nat.le_of_ble_eq_true rfl⟩ d11_areMembers_95 rfl (Nat.le_of_ble_eq_true rfl) (fun r11 s10 => ?_)
        refine j_if_ne d11_areMembers_98 ?_ ?_
        · refine j_aload_n 0 rfl d11_areMembers_103 ?_
          refine j_iload_n 1 rfl d11_areMembers_104 ?_
          refine j_iload_n 3 rfl d11_areMembers_105 ?_
          refine j_aload_n 0 rfl d11_areMembers_106 ?_
          refine j_get fl_X11_184 (rV_g_200_27 x s10) d11_areMembers_107 ?_
          refine j_iload_n 2 rfl d11_areMembers_110 ?_
          refine j_callVv (c11_holds x n y4 y6 (gI s10 14) y5 s10) lv_X11_234 (rV_rc_200 x s10) ⟨Nat.le_of_ble_eq_true rfl, Nat.le_of_ble_eq_true rfl⟩ d11_areMembers_111 rfl (Nat.le_of_ble_eq_true rfl) (fun s12 => ?_)
          refine j_iconst d11_areMembers_114 ejc_1 ?_
          exact j_zreturn1 hq d11_areMembers_115
        · refine j_iconst d11_areMembers_101 ejc_0 ?_
          exact j_zreturn0 hq d11_areMembers_102
    · refine j_aload_n 0 rfl d11_areMembers_52 ?_
      refine j_callVi (c11_isName x n σ) lv_X11_215 (rV_rc_200 x σ) ⟨Nat.le_of_ble_eq_true rfl, Nat.le_of_ble_eq_true rfl⟩ d11_areMembers_53 rfl (Nat.le_of_ble_eq_true rfl) (fun r14 s13 => ?_)
      refine j_if_ne d11_areMembers_56 ?_ ?_
      · refine j_iload_n 3 rfl d11_areMembers_61 ?_
        refine j_iconst d11_areMembers_62 ejc_1 ?_
        refine j_aload_n 0 rfl d11_areMembers_63 ?_
        refine j_aload_n 0 rfl d11_areMembers_64 ?_
        refine j_get fl_X11_154 (rV_g_200_11 x s13) d11_areMembers_65 ?_
        refine j_callVi (c11_nodeOf x n (gJ s13 0) s13) lv_X11_218 (rV_rc_200 x s13) ⟨Nat.le_of_ble_eq_true rfl, Nat.le_of_ble_eq_true rfl⟩ d11_areMembers_68 rfl (Nat.le_of_ble_eq_true rfl) (fun r16 s15 => ?_)
        refine j_ishl d11_areMembers_71 ?_
        refine j_ior d11_areMembers_72 ?_
        refine j_nmi (fun x17 => ?_)
        refine j_istore_n (i := 3) (L' := [(3, .int x17), (0, .ref (cw_a x 200)), (1, .int y4), (2, .int y5), (4, .int y7)]) d11_areMembers_73 rfl (Nat.le_of_ble_eq_true rfl) rfl ?_
        refine j_aload_n 1 rfl d11_areMembers_74 ?_
        refine j_callVv (c11_next x n s15) lv_X11_201 (rV_rc_200 x s15) ⟨Nat.le_of_ble_eq_true rfl, Nat.le_of_ble_eq_true rfl⟩ d11_areMembers_75 rfl (Nat.le_of_ble_eq_true rfl) (fun s18 => ?_)
        refine j_aload_n 1 rfl d11_areMembers_78 ?_
        refine j_callVi (c11_isMore x n s18) lv_X11_228 (rV_rc_200 x s18) ⟨Nat.le_of_ble_eq_true rfl, Nat.le_of_ble_eq_true rfl⟩ d11_areMembers_79 rfl (Nat.le_of_ble_eq_true rfl) (fun r20 s19 => ?_)
        refine j_istore (i := 4) (L' := [(4, .int r20), (3, .int x17), (0, .ref (cw_a x 200)), (1, .int y4), (2, .int y5)]) d11_areMembers_82 (Nat.le_of_ble_eq_true rfl) rfl ?_
        refine j_goto d11_areMembers_84 ?_
        exact j_sub [2, 3, 4, 1, 0] rfl (ih y4 y5 x17 r20 s19)
      · refine j_iconst d11_areMembers_59 ejc_0 ?_
        exact j_zreturn0 hq d11_areMembers_60
noncomputable def m11_areMembers_23 (n : Nat) (y1 : Int32) (y2 : Int32) (σ : ej_S) : Option (Int32 × ej_S) := (if gI σ 2 = 123 then ej_bv (m11_next n σ) fun s3 => (m11_areMembers_47 n n y1 y2 0 1 s3) else ej_bi (m11_failsHere n 1 σ) fun r22 s21 => (some (ej_bz r22, s21)))
set_option maxRecDepth 20000 in
set_option maxHeartbeats 2000000 in
theorem j11_areMembers_23 (x : cw_T) (n : Nat) {F : ej_F} {r0 : Int32 × ej_S} (hq : ej_fin (rV x) F (some .boolean) (some (.int r0.1)) r0.2) (y1 : Int32) (y2 : Int32) (σ : ej_S) : ej_J (rV x) F i11_areMembers r0 σ 23 [(0, .ref (cw_a x 200)), (1, .int y1), (2, .int y2)] [] (m11_areMembers_23 n y1 y2 σ) := by
  unfold m11_areMembers_23
  refine j_aload_n 0 rfl d11_areMembers_23 ?_
  refine j_get fl_X11_161 (rV_g_200_8 x σ) d11_areMembers_24 ?_
  refine j_bipush d11_areMembers_27 ejb_123 ?_
  refine j_icmp_eq d11_areMembers_29 ?_ ?_
  · refine j_aload_n 0 rfl d11_areMembers_38 ?_
    refine j_callVv (c11_next x n σ) lv_X11_201 (rV_rc_200 x σ) ⟨Nat.le_of_ble_eq_true rfl, Nat.le_of_ble_eq_true rfl⟩ d11_areMembers_39 rfl (Nat.le_of_ble_eq_true rfl) (fun s3 => ?_)
    refine j_iconst d11_areMembers_42 ejc_0 ?_
    refine j_istore_n (i := 3) (L' := [(3, .int 0), (0, .ref (cw_a x 200)), (1, .int y1), (2, .int y2)]) d11_areMembers_43 rfl (Nat.le_of_ble_eq_true rfl) rfl ?_
    refine j_iconst d11_areMembers_44 ejc_1 ?_
    refine j_istore (i := 4) (L' := [(4, .int 1), (3, .int 0), (0, .ref (cw_a x 200)), (1, .int y1), (2, .int y2)]) d11_areMembers_45 (Nat.le_of_ble_eq_true rfl) rfl ?_
    exact j_sub [2, 3, 4, 1, 0] rfl (j11_areMembers_47 x n hq n y1 y2 0 1 s3)
  · refine j_aload_n 0 rfl d11_areMembers_32 ?_
    refine j_iconst d11_areMembers_33 ejc_1 ?_
    refine j_callVi (c11_failsHere x n 1 σ) lv_X11_187 (rV_rc_200 x σ) ⟨Nat.le_of_ble_eq_true rfl, Nat.le_of_ble_eq_true rfl⟩ d11_areMembers_34 rfl (Nat.le_of_ble_eq_true rfl) (fun r22 s21 => ?_)
    exact j_zreturn hq d11_areMembers_37
noncomputable def m11_areMembers (n : Nat) (a1 : Int32) (σ : ej_S) : Option (Int32 × ej_S) := (if gI σ 2 = 64 then (if (1 : Int32) = 0 then (m11_areMembers_23 n a1 1 σ) else ej_bv (m11_next n σ) fun s24 => (m11_areMembers_23 n a1 1 s24)) else (if (0 : Int32) = 0 then (m11_areMembers_23 n a1 0 σ) else ej_bv (m11_next n σ) fun s23 => (m11_areMembers_23 n a1 0 s23)))
set_option maxRecDepth 20000 in
set_option maxHeartbeats 2000000 in
theorem j11_areMembers (x : cw_T) (n : Nat) (a1 : Int32) (σ : ej_S) {F : ej_F} {r0 : Int32 × ej_S} (hq : ej_fin (rV x) F (some .boolean) (some (.int r0.1)) r0.2) : ej_J (rV x) F i11_areMembers r0 σ 0 [(0, .ref (cw_a x 200)), (1, .int a1)] [] (m11_areMembers n a1 σ) := by
  unfold m11_areMembers
  refine j_aload_n 0 rfl d11_areMembers_0 ?_
  refine j_get fl_X11_161 (rV_g_200_8 x σ) d11_areMembers_1 ?_
  refine j_bipush d11_areMembers_4 ejb_64 ?_
  refine j_icmp_ne d11_areMembers_6 ?_ ?_
  · refine j_iconst d11_areMembers_13 ejc_0 ?_
    refine j_istore_n (i := 2) (L' := [(2, .int 0), (0, .ref (cw_a x 200)), (1, .int a1)]) d11_areMembers_14 rfl (Nat.le_of_ble_eq_true rfl) rfl ?_
    refine j_iload_n 0 rfl d11_areMembers_15 ?_
    refine j_if_eq d11_areMembers_16 ?_ ?_
    · exact j_sub [1, 2, 0] rfl (j11_areMembers_23 x n hq a1 0 σ)
    · refine j_aload_n 1 rfl d11_areMembers_19 ?_
      refine j_callVv (c11_next x n σ) lv_X11_201 (rV_rc_200 x σ) ⟨Nat.le_of_ble_eq_true rfl, Nat.le_of_ble_eq_true rfl⟩ d11_areMembers_20 rfl (Nat.le_of_ble_eq_true rfl) (fun s23 => ?_)
      exact j_sub [1, 2, 0] rfl (j11_areMembers_23 x n hq a1 0 s23)
  · refine j_iconst d11_areMembers_9 ejc_1 ?_
    refine j_goto d11_areMembers_10 ?_
    refine j_istore_n (i := 2) (L' := [(2, .int 1), (0, .ref (cw_a x 200)), (1, .int a1)]) d11_areMembers_14 rfl (Nat.le_of_ble_eq_true rfl) rfl ?_
    refine j_iload_n 0 rfl d11_areMembers_15 ?_
    refine j_if_eq d11_areMembers_16 ?_ ?_
    · exact j_sub [1, 2, 0] rfl (j11_areMembers_23 x n hq a1 1 σ)
    · refine j_aload_n 1 rfl d11_areMembers_19 ?_
      refine j_callVv (c11_next x n σ) lv_X11_201 (rV_rc_200 x σ) ⟨Nat.le_of_ble_eq_true rfl, Nat.le_of_ble_eq_true rfl⟩ d11_areMembers_20 rfl (Nat.le_of_ble_eq_true rfl) (fun s24 => ?_)
      exact j_sub [1, 2, 0] rfl (j11_areMembers_23 x n hq a1 1 s24)
theorem c11_areMembers (x : cw_T) (n : Nat) (a1 : Int32) (σ : ej_S) : ∀ r σ1, m11_areMembers n a1 σ = some (r, σ1) → ∀ l, ej_Con l (rV x) i11_areMembers yX11_areMembers (some .boolean) [.ref (cw_a x 200), .int a1] σ (some (.int r)) σ1 := fun r σ1 h l => ej_con_of (rV_ok x) pn_X11 rfl (Nat.le_of_ble_eq_true rfl) rfl h (fun F hq => j11_areMembers x n a1 σ hq)

noncomputable def m11_areOthers_2 (n : Nat) (k : Nat) : Int32 → Int32 → ej_S → Option (Int32 × ej_S) := Nat.rec (motive := fun _ => Int32 → Int32 → ej_S → Option (Int32 × ej_S)) (fun _ _ _ => none) (fun _ ih y1 y2 σ => (if y2 = 0 then (some (1, σ)) else ej_bi (m11_isName n σ) fun r4 s3 => (if r4 = 0 then (some (0, s3)) else ej_bi (m11_nodeOf n (gJ s3 0) s3) fun r6 s5 => ej_bv (m11_next n s5) fun s7 => (if gI s7 6 = 0 then ej_bi (m11_isMore n s7) fun r9 s8 => (ih y1 r9 s8) else (if y1 = r6 then ej_bi (m11_isMore n s7) fun r11 s10 => (ih y1 r11 s10) else ej_ck ((24 * y1) + r6) 576 (ej_nm (uA s7 19 (((24 * y1) + r6).toNatClampNeg) (ej_bz 1)) fun s12 => ej_ck ((24 * r6) + y1) 576 (ej_nm (uA s12 19 (((24 * r6) + y1).toNatClampNeg) (ej_bz 1)) fun s13 => ej_bi (m11_isMore n s13) fun r15 s14 => (ih y1 r15 s14)))))))) k
theorem m11_areOthers_2_s (n : Nat) (k : Nat) (y1 : Int32) (y2 : Int32) (σ : ej_S) : m11_areOthers_2 n (k + 1) y1 y2 σ = ((if y2 = 0 then (some (1, σ)) else ej_bi (m11_isName n σ) fun r4 s3 => (if r4 = 0 then (some (0, s3)) else ej_bi (m11_nodeOf n (gJ s3 0) s3) fun r6 s5 => ej_bv (m11_next n s5) fun s7 => (if gI s7 6 = 0 then ej_bi (m11_isMore n s7) fun r9 s8 => ((m11_areOthers_2 n k) y1 r9 s8) else (if y1 = r6 then ej_bi (m11_isMore n s7) fun r11 s10 => ((m11_areOthers_2 n k) y1 r11 s10) else ej_ck ((24 * y1) + r6) 576 (ej_nm (uA s7 19 (((24 * y1) + r6).toNatClampNeg) (ej_bz 1)) fun s12 => ej_ck ((24 * r6) + y1) 576 (ej_nm (uA s12 19 (((24 * r6) + y1).toNatClampNeg) (ej_bz 1)) fun s13 => ej_bi (m11_isMore n s13) fun r15 s14 => ((m11_areOthers_2 n k) y1 r15 s14))))))) : Option (Int32 × ej_S)) := rfl
set_option maxRecDepth 20000 in
set_option maxHeartbeats 2000000 in
theorem j11_areOthers_2 (x : cw_T) (n : Nat) {F : ej_F} {r0 : Int32 × ej_S} (hq : ej_fin (rV x) F (some .boolean) (some (.int r0.1)) r0.2) : ∀ (k : Nat) (y1 : Int32) (y2 : Int32) (σ : ej_S), ej_J (rV x) F i11_areOthers r0 σ 2 [(0, .ref (cw_a x 200)), (1, .int y1), (2, .int y2)] [] (m11_areOthers_2 n k y1 y2 σ) := by
  intro k
  induction k with
  | zero => intro y1 y2 σ; exact j_none
  | succ k ih =>
    intro y1 y2 σ
    rw [m11_areOthers_2_s]
    refine j_iload_n 2 rfl d11_areOthers_2 ?_
    refine j_if_eq d11_areOthers_3 ?_ ?_
    · refine j_iconst d11_areOthers_72 ejc_1 ?_
      exact j_zreturn1 hq d11_areOthers_73
    · refine j_aload_n 0 rfl d11_areOthers_6 ?_
      refine j_callVi (c11_isName x n σ) lv_X11_215 (rV_rc_200 x σ) ⟨Nat.le_of_ble_eq_true rfl, Nat.le_of_ble_eq_true rfl⟩ d11_areOthers_7 rfl (Nat.le_of_ble_eq_true rfl) (fun r4 s3 => ?_)
      refine j_if_ne d11_areOthers_10 ?_ ?_
      · refine j_aload_n 0 rfl d11_areOthers_15 ?_
        refine j_aload_n 0 rfl d11_areOthers_16 ?_
        refine j_get fl_X11_154 (rV_g_200_11 x s3) d11_areOthers_17 ?_
        refine j_callVi (c11_nodeOf x n (gJ s3 0) s3) lv_X11_218 (rV_rc_200 x s3) ⟨Nat.le_of_ble_eq_true rfl, Nat.le_of_ble_eq_true rfl⟩ d11_areOthers_20 rfl (Nat.le_of_ble_eq_true rfl) (fun r6 s5 => ?_)
        refine j_istore_n (i := 3) (L' := [(3, .int r6), (0, .ref (cw_a x 200)), (1, .int y1), (2, .int y2)]) d11_areOthers_23 rfl (Nat.le_of_ble_eq_true rfl) rfl ?_
        refine j_aload_n 1 rfl d11_areOthers_24 ?_
        refine j_callVv (c11_next x n s5) lv_X11_201 (rV_rc_200 x s5) ⟨Nat.le_of_ble_eq_true rfl, Nat.le_of_ble_eq_true rfl⟩ d11_areOthers_25 rfl (Nat.le_of_ble_eq_true rfl) (fun s7 => ?_)
        refine j_aload_n 1 rfl d11_areOthers_28 ?_
        refine j_get fl_X11_237 (rV_g_200_13 x s7) d11_areOthers_29 ?_
        refine j_if_eq d11_areOthers_32 ?_ ?_
        · refine j_aload_n 1 rfl d11_areOthers_64 ?_
          refine j_callVi (c11_isMore x n s7) lv_X11_228 (rV_rc_200 x s7) ⟨Nat.le_of_ble_eq_true rfl, Nat.le_of_ble_eq_true rfl⟩ d11_areOthers_65 rfl (Nat.le_of_ble_eq_true rfl) (fun r9 s8 => ?_)
          refine j_istore_n (i := 2) (L' := [(2, .int r9), (3, .int r6), (0, .ref (cw_a x 200)), (1, .int y1)]) d11_areOthers_68 rfl (Nat.le_of_ble_eq_true rfl) rfl ?_
          refine j_goto d11_areOthers_69 ?_
          exact j_sub [2, 3, 0] rfl (ih y1 r9 s8)
        · refine j_iload_n 2 rfl d11_areOthers_35 ?_
          refine j_iload_n 0 rfl d11_areOthers_36 ?_
          refine j_icmp_eq d11_areOthers_37 ?_ ?_
          · refine j_aload_n 1 rfl d11_areOthers_64 ?_
            refine j_callVi (c11_isMore x n s7) lv_X11_228 (rV_rc_200 x s7) ⟨Nat.le_of_ble_eq_true rfl, Nat.le_of_ble_eq_true rfl⟩ d11_areOthers_65 rfl (Nat.le_of_ble_eq_true rfl) (fun r11 s10 => ?_)
            refine j_istore_n (i := 2) (L' := [(2, .int r11), (3, .int r6), (0, .ref (cw_a x 200)), (1, .int y1)]) d11_areOthers_68 rfl (Nat.le_of_ble_eq_true rfl) rfl ?_
            refine j_goto d11_areOthers_69 ?_
            exact j_sub [2, 3, 0] rfl (ih y1 r11 s10)
          · refine j_aload_n 1 rfl d11_areOthers_40 ?_
            refine j_get fl_X11_75 (rV_g_200_39 x s7) d11_areOthers_41 ?_
            refine j_bipush d11_areOthers_44 ejb_24 ?_
            refine j_iload_n 2 rfl d11_areOthers_46 ?_
            refine j_imul d11_areOthers_47 ?_
            refine j_iload_n 0 rfl d11_areOthers_48 ?_
            refine j_iadd d11_areOthers_49 ?_
            refine j_iconst d11_areOthers_50 ejc_1 ?_
            refine j_zast (rV_s_222 x s7 (((24 * y1) + r6).toNatClampNeg) (ej_bz 1)) d11_areOthers_51 (fun s12 => ?_)
            refine j_aload_n 1 rfl d11_areOthers_52 ?_
            refine j_get fl_X11_75 (rV_g_200_39 x s12) d11_areOthers_53 ?_
            refine j_bipush d11_areOthers_56 ejb_24 ?_
            refine j_iload_n 0 rfl d11_areOthers_58 ?_
            refine j_imul d11_areOthers_59 ?_
            refine j_iload_n 2 rfl d11_areOthers_60 ?_
            refine j_iadd d11_areOthers_61 ?_
            refine j_iconst d11_areOthers_62 ejc_1 ?_
            refine j_zast (rV_s_222 x s12 (((24 * r6) + y1).toNatClampNeg) (ej_bz 1)) d11_areOthers_63 (fun s13 => ?_)
            refine j_aload_n 1 rfl d11_areOthers_64 ?_
            refine j_callVi (c11_isMore x n s13) lv_X11_228 (rV_rc_200 x s13) ⟨Nat.le_of_ble_eq_true rfl, Nat.le_of_ble_eq_true rfl⟩ d11_areOthers_65 rfl (Nat.le_of_ble_eq_true rfl) (fun r15 s14 => ?_)
            refine j_istore_n (i := 2) (L' := [(2, .int r15), (3, .int r6), (0, .ref (cw_a x 200)), (1, .int y1)]) d11_areOthers_68 rfl (Nat.le_of_ble_eq_true rfl) rfl ?_
            refine j_goto d11_areOthers_69 ?_
            exact j_sub [2, 3, 0] rfl (ih y1 r15 s14)
      · refine j_iconst d11_areOthers_13 ejc_0 ?_
        exact j_zreturn0 hq d11_areOthers_14
noncomputable def m11_areOthers (n : Nat) (a1 : Int32) (σ : ej_S) : Option (Int32 × ej_S) := (m11_areOthers_2 n n a1 1 σ)
set_option maxRecDepth 20000 in
set_option maxHeartbeats 2000000 in
theorem j11_areOthers (x : cw_T) (n : Nat) (a1 : Int32) (σ : ej_S) {F : ej_F} {r0 : Int32 × ej_S} (hq : ej_fin (rV x) F (some .boolean) (some (.int r0.1)) r0.2) : ej_J (rV x) F i11_areOthers r0 σ 0 [(0, .ref (cw_a x 200)), (1, .int a1)] [] (m11_areOthers n a1 σ) := by
  unfold m11_areOthers
  refine j_iconst d11_areOthers_0 ejc_1 ?_
  refine j_istore_n (i := 2) (L' := [(2, .int 1), (0, .ref (cw_a x 200)), (1, .int a1)]) d11_areOthers_1 rfl (Nat.le_of_ble_eq_true rfl) rfl ?_
  exact j_sub [1, 2, 0] rfl (j11_areOthers_2 x n hq n a1 1 σ)
theorem c11_areOthers (x : cw_T) (n : Nat) (a1 : Int32) (σ : ej_S) : ∀ r σ1, m11_areOthers n a1 σ = some (r, σ1) → ∀ l, ej_Con l (rV x) i11_areOthers yX11_areOthers (some .boolean) [.ref (cw_a x 200), .int a1] σ (some (.int r)) σ1 := fun r σ1 h l => ej_con_of (rV_ok x) pn_X11 rfl (Nat.le_of_ble_eq_true rfl) rfl h (fun F hq => j11_areOthers x n a1 σ hq)

noncomputable def m11_privately (n : Nat) (a1 : Int64) (σ : ej_S) : Option (Int32 × ej_S) := (if gI σ 6 = 0 then (some (0, σ)) else ej_bi (m11_found n a1 (gI σ 7) σ) fun r2 s1 => (if r2 = (-1) then ej_bi (m11_made n a1 (gI s1 7) s1) fun r4 s3 => (some (r4, s3)) else (some (r2, s1))))
set_option maxRecDepth 20000 in
set_option maxHeartbeats 2000000 in
theorem j11_privately (x : cw_T) (n : Nat) (a1 : Int64) (σ : ej_S) {F : ej_F} {r0 : Int32 × ej_S} (hq : ej_fin (rV x) F (some .int) (some (.int r0.1)) r0.2) : ej_J (rV x) F i11_privately r0 σ 0 [(0, .ref (cw_a x 200)), (1, .long a1)] [] (m11_privately n a1 σ) := by
  unfold m11_privately
  refine j_aload_n 0 rfl d11_privately_0 ?_
  refine j_get fl_X11_237 (rV_g_200_13 x σ) d11_privately_1 ?_
  refine j_if_ne d11_privately_4 ?_ ?_
  · refine j_aload_n 0 rfl d11_privately_9 ?_
    refine j_lload_n 1 rfl d11_privately_10 ?_
    refine j_aload_n 0 rfl d11_privately_11 ?_
    refine j_get fl_X11_278 (rV_g_200_14 x σ) d11_privately_12 ?_
    refine j_callVi (c11_found x n a1 (gI σ 7) σ) lv_X11_281 (rV_rc_200 x σ) ⟨Nat.le_of_ble_eq_true rfl, Nat.le_of_ble_eq_true rfl⟩ d11_privately_15 rfl (Nat.le_of_ble_eq_true rfl) (fun r2 s1 => ?_)
    refine j_istore_n (i := 3) (L' := [(3, .int r2), (0, .ref (cw_a x 200)), (1, .long a1)]) d11_privately_18 rfl (Nat.le_of_ble_eq_true rfl) rfl ?_
    refine j_iload_n 0 rfl d11_privately_19 ?_
    refine j_iconst d11_privately_20 ejc_m1 ?_
    refine j_icmp_eq d11_privately_21 ?_ ?_
    · refine j_aload_n 1 rfl d11_privately_28 ?_
      refine j_lload_n 2 rfl d11_privately_29 ?_
      refine j_aload_n 1 rfl d11_privately_30 ?_
      refine j_get fl_X11_278 (rV_g_200_14 x s1) d11_privately_31 ?_
      refine j_callVi (c11_made x n a1 (gI s1 7) s1) lv_X11_285 (rV_rc_200 x s1) ⟨Nat.le_of_ble_eq_true rfl, Nat.le_of_ble_eq_true rfl⟩ d11_privately_34 rfl (Nat.le_of_ble_eq_true rfl) (fun r4 s3 => ?_)
      exact j_ireturn hq d11_privately_37
    · refine j_iload_n 0 rfl d11_privately_24 ?_
      refine j_goto d11_privately_25 ?_
      exact j_ireturn hq d11_privately_37
  · refine j_iconst d11_privately_7 ejc_0 ?_
    exact j_ireturn hq d11_privately_8
theorem c11_privately (x : cw_T) (n : Nat) (a1 : Int64) (σ : ej_S) : ∀ r σ1, m11_privately n a1 σ = some (r, σ1) → ∀ l, ej_Con l (rV x) i11_privately yX11_privately (some .int) [.ref (cw_a x 200), .long a1] σ (some (.int r)) σ1 := fun r σ1 h l => ej_con_of (rV_ok x) pn_X11 rfl (Nat.le_of_ble_eq_true rfl) rfl h (fun F hq => j11_privately x n a1 σ hq)

noncomputable def m11_isItem_92 (n : Nat) (y10 : Int64) (y11 : Int32) (y12 : Int32) (y13 : Int32) (σ : ej_S) : Option (Int32 × ej_S) := ej_ck y13 24 (ej_nm (uA σ 14 (y13.toNatClampNeg) (ej_bz y12)) fun s14 => ej_ck y11 24 ((if gA s14 15 y11.toNatClampNeg = 0 then (if gI s14 6 = 0 then ej_ck y11 24 (ej_nm (uA s14 15 (y11.toNatClampNeg) (ej_bz 0)) fun s16 => (some (1, s16))) else (if lg_cmp y10 431198855527 = 0 then ej_ck y11 24 (ej_nm (uA s14 15 (y11.toNatClampNeg) (ej_bz 1)) fun s18 => (some (1, s18))) else ej_ck y11 24 (ej_nm (uA s14 15 (y11.toNatClampNeg) (ej_bz 0)) fun s17 => (some (1, s17))))) else ej_ck y11 24 (ej_nm (uA s14 15 (y11.toNatClampNeg) (ej_bz 1)) fun s15 => (some (1, s15))))))
set_option maxRecDepth 20000 in
set_option maxHeartbeats 2000000 in
theorem j11_isItem_92 (x : cw_T) (n : Nat) {F : ej_F} {r0 : Int32 × ej_S} (hq : ej_fin (rV x) F (some .boolean) (some (.int r0.1)) r0.2) (y10 : Int64) (y11 : Int32) (y12 : Int32) (y13 : Int32) (σ : ej_S) : ej_J (rV x) F i11_isItem r0 σ 92 [(0, .ref (cw_a x 200)), (1, .long y10), (3, .int y11)] [.int y12, .int y13, .ref (cw_a x 217)] (m11_isItem_92 n y10 y11 y12 y13 σ) := by
  unfold m11_isItem_92
  refine j_zast (rV_s_217 x σ (y13.toNatClampNeg) (ej_bz y12)) d11_isItem_92 (fun s14 => ?_)
  refine j_aload_n 0 rfl d11_isItem_93 ?_
  refine j_get fl_X11_63 (rV_g_200_35 x s14) d11_isItem_94 ?_
  refine j_iload_n 2 rfl d11_isItem_97 ?_
  refine j_aload_n 0 rfl d11_isItem_98 ?_
  refine j_get fl_X11_63 (rV_g_200_35 x s14) d11_isItem_99 ?_
  refine j_iload_n 2 rfl d11_isItem_102 ?_
  refine j_zald (rV_a_218 x s14) d11_isItem_103 ?_
  refine j_if_ne d11_isItem_104 ?_ ?_
  · refine j_iconst d11_isItem_122 ejc_1 ?_
    refine j_goto d11_isItem_123 ?_
    refine j_zast (rV_s_218 x s14 (y11.toNatClampNeg) (ej_bz 1)) d11_isItem_127 (fun s15 => ?_)
    refine j_iconst d11_isItem_128 ejc_1 ?_
    exact j_zreturn1 hq d11_isItem_129
  · refine j_aload_n 0 rfl d11_isItem_107 ?_
    refine j_get fl_X11_237 (rV_g_200_13 x s14) d11_isItem_108 ?_
    refine j_if_eq d11_isItem_111 ?_ ?_
    · refine j_iconst d11_isItem_126 ejc_0 ?_
      refine j_zast (rV_s_218 x s14 (y11.toNatClampNeg) (ej_bz 0)) d11_isItem_127 (fun s16 => ?_)
      refine j_iconst d11_isItem_128 ejc_1 ?_
      exact j_zreturn1 hq d11_isItem_129
    · refine j_lload_n 1 rfl d11_isItem_114 ?_
      refine j_ldc2 d11_isItem_115 kl_X11_248 ?_
      refine j_lcmp d11_isItem_118 ?_
      refine j_if_ne d11_isItem_119 ?_ ?_
      · refine j_iconst d11_isItem_126 ejc_0 ?_
        refine j_zast (rV_s_218 x s14 (y11.toNatClampNeg) (ej_bz 0)) d11_isItem_127 (fun s17 => ?_)
        refine j_iconst d11_isItem_128 ejc_1 ?_
        exact j_zreturn1 hq d11_isItem_129
      · refine j_iconst d11_isItem_122 ejc_1 ?_
        refine j_goto d11_isItem_123 ?_
        refine j_zast (rV_s_218 x s14 (y11.toNatClampNeg) (ej_bz 1)) d11_isItem_127 (fun s18 => ?_)
        refine j_iconst d11_isItem_128 ejc_1 ?_
        exact j_zreturn1 hq d11_isItem_129
noncomputable def m11_isItem_58 (n : Nat) (y8 : Int64) (y9 : Int32) (σ : ej_S) : Option (Int32 × ej_S) := ej_ck y9 24 ((if gA σ 14 y9.toNatClampNeg = 0 then (if gI σ 6 = 0 then (m11_isItem_92 n y8 y9 0 y9 σ) else (if lg_cmp y8 1684104548 = 0 then (m11_isItem_92 n y8 y9 1 y9 σ) else (m11_isItem_92 n y8 y9 0 y9 σ))) else (m11_isItem_92 n y8 y9 1 y9 σ)))
set_option maxRecDepth 20000 in
set_option maxHeartbeats 2000000 in
theorem j11_isItem_58 (x : cw_T) (n : Nat) {F : ej_F} {r0 : Int32 × ej_S} (hq : ej_fin (rV x) F (some .boolean) (some (.int r0.1)) r0.2) (y8 : Int64) (y9 : Int32) (σ : ej_S) : ej_J (rV x) F i11_isItem r0 σ 58 [(0, .ref (cw_a x 200)), (1, .long y8), (3, .int y9)] [] (m11_isItem_58 n y8 y9 σ) := by
  unfold m11_isItem_58
  refine j_aload_n 0 rfl d11_isItem_58 ?_
  refine j_get fl_X11_60 (rV_g_200_34 x σ) d11_isItem_59 ?_
  refine j_iload_n 2 rfl d11_isItem_62 ?_
  refine j_aload_n 0 rfl d11_isItem_63 ?_
  refine j_get fl_X11_60 (rV_g_200_34 x σ) d11_isItem_64 ?_
  refine j_iload_n 2 rfl d11_isItem_67 ?_
  refine j_zald (rV_a_217 x σ) d11_isItem_68 ?_
  refine j_if_ne d11_isItem_69 ?_ ?_
  · refine j_iconst d11_isItem_87 ejc_1 ?_
    refine j_goto d11_isItem_88 ?_
    exact j_sub [0, 1, 2] rfl (j11_isItem_92 x n hq y8 y9 1 y9 σ)
  · refine j_aload_n 0 rfl d11_isItem_72 ?_
    refine j_get fl_X11_237 (rV_g_200_13 x σ) d11_isItem_73 ?_
    refine j_if_eq d11_isItem_76 ?_ ?_
    · refine j_iconst d11_isItem_91 ejc_0 ?_
      exact j_sub [0, 1, 2] rfl (j11_isItem_92 x n hq y8 y9 0 y9 σ)
    · refine j_lload_n 1 rfl d11_isItem_79 ?_
      refine j_ldc2 d11_isItem_80 kl_X11_246 ?_
      refine j_lcmp d11_isItem_83 ?_
      refine j_if_ne d11_isItem_84 ?_ ?_
      · refine j_iconst d11_isItem_91 ejc_0 ?_
        exact j_sub [0, 1, 2] rfl (j11_isItem_92 x n hq y8 y9 0 y9 σ)
      · refine j_iconst d11_isItem_87 ejc_1 ?_
        refine j_goto d11_isItem_88 ?_
        exact j_sub [0, 1, 2] rfl (j11_isItem_92 x n hq y8 y9 1 y9 σ)
noncomputable def m11_isItem_36 (n : Nat) (y5 : Int64) (y6 : Int32) (σ : ej_S) : Option (Int32 × ej_S) := ej_bv (m11_next n σ) fun s7 => (if lg_cmp y5 1684104548 = 0 then (if gI s7 2 = 33 then ej_bv (m11_next n s7) fun s19 => ej_bi (m11_isName n s19) fun r21 s20 => (if r21 = 0 then (some (0, s20)) else ej_bi (m11_nodeOf n (gJ s20 0) s20) fun r23 s22 => ej_bv (m11_next n s22) fun s24 => ej_ck ((24 * y6) + r23) 576 ((if gA s24 18 ((24 * y6) + r23).toNatClampNeg = 0 then (if gI s24 6 = 0 then ej_ck ((24 * y6) + r23) 576 (ej_nm (uA s24 18 (((24 * y6) + r23).toNatClampNeg) (ej_bz 0)) fun s26 => (some (1, s26))) else ej_ck ((24 * y6) + r23) 576 (ej_nm (uA s24 18 (((24 * y6) + r23).toNatClampNeg) (ej_bz 1)) fun s27 => (some (1, s27)))) else ej_ck ((24 * y6) + r23) 576 (ej_nm (uA s24 18 (((24 * y6) + r23).toNatClampNeg) (ej_bz 1)) fun s25 => (some (1, s25)))))) else (m11_isItem_58 n y5 y6 s7)) else (m11_isItem_58 n y5 y6 s7))
set_option maxRecDepth 20000 in
set_option maxHeartbeats 2000000 in
theorem j11_isItem_36 (x : cw_T) (n : Nat) {F : ej_F} {r0 : Int32 × ej_S} (hq : ej_fin (rV x) F (some .boolean) (some (.int r0.1)) r0.2) (y5 : Int64) (y6 : Int32) (σ : ej_S) : ej_J (rV x) F i11_isItem r0 σ 36 [(0, .ref (cw_a x 200)), (1, .long y5)] [.int y6] (m11_isItem_36 n y5 y6 σ) := by
  unfold m11_isItem_36
  refine j_istore_n (i := 3) (L' := [(3, .int y6), (0, .ref (cw_a x 200)), (1, .long y5)]) d11_isItem_36 rfl (Nat.le_of_ble_eq_true rfl) rfl ?_
  refine j_aload_n 1 rfl d11_isItem_37 ?_
  refine j_callVv (c11_next x n σ) lv_X11_201 (rV_rc_200 x σ) ⟨Nat.le_of_ble_eq_true rfl, Nat.le_of_ble_eq_true rfl⟩ d11_isItem_38 rfl (Nat.le_of_ble_eq_true rfl) (fun s7 => ?_)
  refine j_lload_n 2 rfl d11_isItem_41 ?_
  refine j_ldc2 d11_isItem_42 kl_X11_246 ?_
  refine j_lcmp d11_isItem_45 ?_
  refine j_if_ne d11_isItem_46 ?_ ?_
  · exact j_sub [1, 2, 0] rfl (j11_isItem_58 x n hq y5 y6 s7)
  · refine j_aload_n 1 rfl d11_isItem_49 ?_
    refine j_get fl_X11_161 (rV_g_200_8 x s7) d11_isItem_50 ?_
    refine j_bipush d11_isItem_53 ejb_33 ?_
    refine j_icmp_eq d11_isItem_55 ?_ ?_
    · refine j_aload_n 1 rfl d11_isItem_130 ?_
      refine j_callVv (c11_next x n s7) lv_X11_201 (rV_rc_200 x s7) ⟨Nat.le_of_ble_eq_true rfl, Nat.le_of_ble_eq_true rfl⟩ d11_isItem_131 rfl (Nat.le_of_ble_eq_true rfl) (fun s19 => ?_)
      refine j_aload_n 1 rfl d11_isItem_134 ?_
      refine j_callVi (c11_isName x n s19) lv_X11_215 (rV_rc_200 x s19) ⟨Nat.le_of_ble_eq_true rfl, Nat.le_of_ble_eq_true rfl⟩ d11_isItem_135 rfl (Nat.le_of_ble_eq_true rfl) (fun r21 s20 => ?_)
      refine j_if_ne d11_isItem_138 ?_ ?_
      · refine j_aload_n 1 rfl d11_isItem_143 ?_
        refine j_aload_n 1 rfl d11_isItem_144 ?_
        refine j_get fl_X11_154 (rV_g_200_11 x s20) d11_isItem_145 ?_
        refine j_callVi (c11_nodeOf x n (gJ s20 0) s20) lv_X11_218 (rV_rc_200 x s20) ⟨Nat.le_of_ble_eq_true rfl, Nat.le_of_ble_eq_true rfl⟩ d11_isItem_148 rfl (Nat.le_of_ble_eq_true rfl) (fun r23 s22 => ?_)
        refine j_istore (i := 4) (L' := [(4, .int r23), (3, .int y6), (0, .ref (cw_a x 200)), (1, .long y5)]) d11_isItem_151 (Nat.le_of_ble_eq_true rfl) rfl ?_
        refine j_aload_n 2 rfl d11_isItem_153 ?_
        refine j_callVv (c11_next x n s22) lv_X11_201 (rV_rc_200 x s22) ⟨Nat.le_of_ble_eq_true rfl, Nat.le_of_ble_eq_true rfl⟩ d11_isItem_154 rfl (Nat.le_of_ble_eq_true rfl) (fun s24 => ?_)
        refine j_aload_n 2 rfl d11_isItem_157 ?_
        refine j_get fl_X11_72 (rV_g_200_38 x s24) d11_isItem_158 ?_
        refine j_bipush d11_isItem_161 ejb_24 ?_
        refine j_iload_n 1 rfl d11_isItem_163 ?_
        refine j_imul d11_isItem_164 ?_
        refine j_iload 0 rfl d11_isItem_165 ?_
        refine j_iadd d11_isItem_167 ?_
        refine j_aload_n 2 rfl d11_isItem_168 ?_
        refine j_get fl_X11_72 (rV_g_200_38 x s24) d11_isItem_169 ?_
        refine j_bipush d11_isItem_172 ejb_24 ?_
        refine j_iload_n 1 rfl d11_isItem_174 ?_
        refine j_imul d11_isItem_175 ?_
        refine j_iload 0 rfl d11_isItem_176 ?_
        refine j_iadd d11_isItem_178 ?_
        refine j_zald (rV_a_221 x s24) d11_isItem_179 ?_
        refine j_if_ne d11_isItem_180 ?_ ?_
        · refine j_iconst d11_isItem_190 ejc_1 ?_
          refine j_goto d11_isItem_191 ?_
          refine j_zast (rV_s_221 x s24 (((24 * y6) + r23).toNatClampNeg) (ej_bz 1)) d11_isItem_195 (fun s25 => ?_)
          refine j_iconst d11_isItem_196 ejc_1 ?_
          exact j_zreturn1 hq d11_isItem_197
        · refine j_aload_n 2 rfl d11_isItem_183 ?_
          refine j_get fl_X11_237 (rV_g_200_13 x s24) d11_isItem_184 ?_
          refine j_if_eq d11_isItem_187 ?_ ?_
          · refine j_iconst d11_isItem_194 ejc_0 ?_
            refine j_zast (rV_s_221 x s24 (((24 * y6) + r23).toNatClampNeg) (ej_bz 0)) d11_isItem_195 (fun s26 => ?_)
            refine j_iconst d11_isItem_196 ejc_1 ?_
            exact j_zreturn1 hq d11_isItem_197
          · refine j_iconst d11_isItem_190 ejc_1 ?_
            refine j_goto d11_isItem_191 ?_
            refine j_zast (rV_s_221 x s24 (((24 * y6) + r23).toNatClampNeg) (ej_bz 1)) d11_isItem_195 (fun s27 => ?_)
            refine j_iconst d11_isItem_196 ejc_1 ?_
            exact j_zreturn1 hq d11_isItem_197
      · refine j_iconst d11_isItem_141 ejc_0 ?_
        exact j_zreturn0 hq d11_isItem_142
    · exact j_sub [1, 2, 0] rfl (j11_isItem_58 x n hq y5 y6 s7)
noncomputable def m11_isItem (n : Nat) (a1 : Int64) (σ : ej_S) : Option (Int32 × ej_S) := ej_bi (m11_isName n σ) fun r2 s1 => (if r2 = 0 then (some (0, s1)) else (if lg_cmp a1 28556934595048048 = 0 then ej_bi (m11_privately n (gJ s1 0) s1) fun r29 s28 => (m11_isItem_36 n a1 r29 s28) else ej_bi (m11_nodeOf n (gJ s1 0) s1) fun r4 s3 => (m11_isItem_36 n a1 r4 s3)))
set_option maxRecDepth 20000 in
set_option maxHeartbeats 2000000 in
theorem j11_isItem (x : cw_T) (n : Nat) (a1 : Int64) (σ : ej_S) {F : ej_F} {r0 : Int32 × ej_S} (hq : ej_fin (rV x) F (some .boolean) (some (.int r0.1)) r0.2) : ej_J (rV x) F i11_isItem r0 σ 0 [(0, .ref (cw_a x 200)), (1, .long a1)] [] (m11_isItem n a1 σ) := by
  unfold m11_isItem
  refine j_aload_n 0 rfl d11_isItem_0 ?_
  refine j_callVi (c11_isName x n σ) lv_X11_215 (rV_rc_200 x σ) ⟨Nat.le_of_ble_eq_true rfl, Nat.le_of_ble_eq_true rfl⟩ d11_isItem_1 rfl (Nat.le_of_ble_eq_true rfl) (fun r2 s1 => ?_)
  refine j_if_ne d11_isItem_4 ?_ ?_
  · refine j_lload_n 1 rfl d11_isItem_9 ?_
    refine j_ldc2 d11_isItem_10 kl_X11_241 ?_
    refine j_lcmp d11_isItem_13 ?_
    refine j_if_ne d11_isItem_14 ?_ ?_
    · refine j_aload_n 0 rfl d11_isItem_28 ?_
      refine j_aload_n 0 rfl d11_isItem_29 ?_
      refine j_get fl_X11_154 (rV_g_200_11 x s1) d11_isItem_30 ?_
      refine j_callVi (c11_nodeOf x n (gJ s1 0) s1) lv_X11_218 (rV_rc_200 x s1) ⟨Nat.le_of_ble_eq_true rfl, Nat.le_of_ble_eq_true rfl⟩ d11_isItem_33 rfl (Nat.le_of_ble_eq_true rfl) (fun r4 s3 => ?_)
      exact j_sub [0, 1] rfl (j11_isItem_36 x n hq a1 r4 s3)
    · refine j_aload_n 0 rfl d11_isItem_17 ?_
      refine j_aload_n 0 rfl d11_isItem_18 ?_
      refine j_get fl_X11_154 (rV_g_200_11 x s1) d11_isItem_19 ?_
      refine j_callVi (c11_privately x n (gJ s1 0) s1) lv_X11_243 (rV_rc_200 x s1) ⟨Nat.le_of_ble_eq_true rfl, Nat.le_of_ble_eq_true rfl⟩ d11_isItem_22 rfl (Nat.le_of_ble_eq_true rfl) (fun r29 s28 => ?_)
      refine j_goto d11_isItem_25 ?_
      exact j_sub [0, 1] rfl (j11_isItem_36 x n hq a1 r29 s28)
  · refine j_iconst d11_isItem_7 ejc_0 ?_
    exact j_zreturn0 hq d11_isItem_8
theorem c11_isItem (x : cw_T) (n : Nat) (a1 : Int64) (σ : ej_S) : ∀ r σ1, m11_isItem n a1 σ = some (r, σ1) → ∀ l, ej_Con l (rV x) i11_isItem yX11_isItem (some .boolean) [.ref (cw_a x 200), .long a1] σ (some (.int r)) σ1 := fun r σ1 h l => ej_con_of (rV_ok x) pn_X11 rfl (Nat.le_of_ble_eq_true rfl) rfl h (fun F hq => j11_isItem x n a1 σ hq)

noncomputable def m11_isList_6 (n : Nat) (k : Nat) : Int64 → Int32 → ej_S → Option (Int32 × ej_S) := Nat.rec (motive := fun _ => Int64 → Int32 → ej_S → Option (Int32 × ej_S)) (fun _ _ _ => none) (fun _ ih y2 y3 σ => (if y3 = 0 then ej_bi (m11_isClosed n σ) fun r5 s4 => (some (ej_bz r5, s4)) else ej_bi (m11_isItem n y2 σ) fun r7 s6 => (if r7 = 0 then (some (0, s6)) else ej_bi (m11_isMore n s6) fun r9 s8 => (ih y2 r9 s8)))) k
theorem m11_isList_6_s (n : Nat) (k : Nat) (y2 : Int64) (y3 : Int32) (σ : ej_S) : m11_isList_6 n (k + 1) y2 y3 σ = ((if y3 = 0 then ej_bi (m11_isClosed n σ) fun r5 s4 => (some (ej_bz r5, s4)) else ej_bi (m11_isItem n y2 σ) fun r7 s6 => (if r7 = 0 then (some (0, s6)) else ej_bi (m11_isMore n s6) fun r9 s8 => ((m11_isList_6 n k) y2 r9 s8))) : Option (Int32 × ej_S)) := rfl
set_option maxRecDepth 20000 in
set_option maxHeartbeats 2000000 in
theorem j11_isList_6 (x : cw_T) (n : Nat) {F : ej_F} {r0 : Int32 × ej_S} (hq : ej_fin (rV x) F (some .boolean) (some (.int r0.1)) r0.2) : ∀ (k : Nat) (y2 : Int64) (y3 : Int32) (σ : ej_S), ej_J (rV x) F i11_isList r0 σ 6 [(0, .ref (cw_a x 200)), (1, .long y2), (3, .int y3)] [] (m11_isList_6 n k y2 y3 σ) := by
  intro k
  induction k with
  | zero => intro y2 y3 σ; exact j_none
  | succ k ih =>
    intro y2 y3 σ
    rw [m11_isList_6_s]
    refine j_iload_n 2 rfl d11_isList_6 ?_
    refine j_if_eq d11_isList_7 ?_ ?_
    · refine j_aload_n 0 rfl d11_isList_28 ?_
      refine j_callVi (c11_isClosed x n σ) lv_X11_231 (rV_rc_200 x σ) ⟨Nat.le_of_ble_eq_true rfl, Nat.le_of_ble_eq_true rfl⟩ d11_isList_29 rfl (Nat.le_of_ble_eq_true rfl) (fun r5 s4 => ?_)
      exact j_zreturn hq d11_isList_32
    · refine j_aload_n 0 rfl d11_isList_10 ?_
      refine j_lload_n 1 rfl d11_isList_11 ?_
      refine j_callVi (c11_isItem x n y2 σ) lv_X11_250 (rV_rc_200 x σ) ⟨Nat.le_of_ble_eq_true rfl, Nat.le_of_ble_eq_true rfl⟩ d11_isList_12 rfl (Nat.le_of_ble_eq_true rfl) (fun r7 s6 => ?_)
      refine j_if_ne d11_isList_15 ?_ ?_
      · refine j_aload_n 0 rfl d11_isList_20 ?_
        refine j_callVi (c11_isMore x n s6) lv_X11_228 (rV_rc_200 x s6) ⟨Nat.le_of_ble_eq_true rfl, Nat.le_of_ble_eq_true rfl⟩ d11_isList_21 rfl (Nat.le_of_ble_eq_true rfl) (fun r9 s8 => ?_)
        refine j_istore_n (i := 3) (L' := [(3, .int r9), (0, .ref (cw_a x 200)), (1, .long y2)]) d11_isList_24 rfl (Nat.le_of_ble_eq_true rfl) rfl ?_
        refine j_goto d11_isList_25 ?_
        exact j_sub [1, 2, 0] rfl (ih y2 r9 s8)
      · refine j_iconst d11_isList_18 ejc_0 ?_
        exact j_zreturn0 hq d11_isList_19
noncomputable def m11_isList (n : Nat) (a1 : Int64) (σ : ej_S) : Option (Int32 × ej_S) := ej_bv (m11_next n σ) fun s1 => (m11_isList_6 n n a1 1 s1)
set_option maxRecDepth 20000 in
set_option maxHeartbeats 2000000 in
theorem j11_isList (x : cw_T) (n : Nat) (a1 : Int64) (σ : ej_S) {F : ej_F} {r0 : Int32 × ej_S} (hq : ej_fin (rV x) F (some .boolean) (some (.int r0.1)) r0.2) : ej_J (rV x) F i11_isList r0 σ 0 [(0, .ref (cw_a x 200)), (1, .long a1)] [] (m11_isList n a1 σ) := by
  unfold m11_isList
  refine j_aload_n 0 rfl d11_isList_0 ?_
  refine j_callVv (c11_next x n σ) lv_X11_201 (rV_rc_200 x σ) ⟨Nat.le_of_ble_eq_true rfl, Nat.le_of_ble_eq_true rfl⟩ d11_isList_1 rfl (Nat.le_of_ble_eq_true rfl) (fun s1 => ?_)
  refine j_iconst d11_isList_4 ejc_1 ?_
  refine j_istore_n (i := 3) (L' := [(3, .int 1), (0, .ref (cw_a x 200)), (1, .long a1)]) d11_isList_5 rfl (Nat.le_of_ble_eq_true rfl) rfl ?_
  exact j_sub [1, 2, 0] rfl (j11_isList_6 x n hq n a1 1 s1)
theorem c11_isList (x : cw_T) (n : Nat) (a1 : Int64) (σ : ej_S) : ∀ r σ1, m11_isList n a1 σ = some (r, σ1) → ∀ l, ej_Con l (rV x) i11_isList yX11_isList (some .boolean) [.ref (cw_a x 200), .long a1] σ (some (.int r)) σ1 := fun r σ1 h l => ej_con_of (rV_ok x) pn_X11 rfl (Nat.le_of_ble_eq_true rfl) rfl h (fun F hq => j11_isList x n a1 σ hq)

noncomputable def m11_isStatement_57 (n : Nat) (y5 : Int64) (σ : ej_S) : Option (Int32 × ej_S) := ej_bi (m11_nodeOf n y5 σ) fun r7 s6 => (if gI s6 2 = 61 then ej_bv (m11_next n s6) fun s8 => (if gI s8 2 = 64 then ej_bi (m11_areMembers n r7 s8) fun r10 s9 => (some (ej_bz r10, s9)) else (if gI s8 2 = 123 then ej_bi (m11_areMembers n r7 s8) fun r14 s13 => (some (ej_bz r14, s13)) else ej_bi (m11_areOthers n r7 s8) fun r12 s11 => (some (ej_bz r12, s11)))) else ej_bi (m11_areTargets n r7 s6) fun r16 s15 => (some (ej_bz r16, s15)))
set_option maxRecDepth 20000 in
set_option maxHeartbeats 2000000 in
theorem j11_isStatement_57 (x : cw_T) (n : Nat) {F : ej_F} {r0 : Int32 × ej_S} (hq : ej_fin (rV x) F (some .boolean) (some (.int r0.1)) r0.2) (y5 : Int64) (σ : ej_S) : ej_J (rV x) F i11_isStatement r0 σ 57 [(0, .ref (cw_a x 200)), (1, .long y5)] [] (m11_isStatement_57 n y5 σ) := by
  unfold m11_isStatement_57
  refine j_aload_n 0 rfl d11_isStatement_57 ?_
  refine j_lload_n 1 rfl d11_isStatement_58 ?_
  refine j_callVi (c11_nodeOf x n y5 σ) lv_X11_218 (rV_rc_200 x σ) ⟨Nat.le_of_ble_eq_true rfl, Nat.le_of_ble_eq_true rfl⟩ d11_isStatement_59 rfl (Nat.le_of_ble_eq_true rfl) (fun r7 s6 => ?_)
  refine j_istore_n (i := 3) (L' := [(3, .int r7), (0, .ref (cw_a x 200)), (1, .long y5)]) d11_isStatement_62 rfl (Nat.le_of_ble_eq_true rfl) rfl ?_
  refine j_aload_n 1 rfl d11_isStatement_63 ?_
  refine j_get fl_X11_161 (rV_g_200_8 x s6) d11_isStatement_64 ?_
  refine j_bipush d11_isStatement_67 ejb_61 ?_
  refine j_icmp_eq d11_isStatement_69 ?_ ?_
  · refine j_aload_n 1 rfl d11_isStatement_78 ?_
    refine j_callVv (c11_next x n s6) lv_X11_201 (rV_rc_200 x s6) ⟨Nat.le_of_ble_eq_true rfl, Nat.le_of_ble_eq_true rfl⟩ d11_isStatement_79 rfl (Nat.le_of_ble_eq_true rfl) (fun s8 => ?_)
    refine j_aload_n 1 rfl d11_isStatement_82 ?_
    refine j_get fl_X11_161 (rV_g_200_8 x s8) d11_isStatement_83 ?_
    refine j_bipush d11_isStatement_86 ejb_64 ?_
    refine j_icmp_eq d11_isStatement_88 ?_ ?_
    · refine j_aload_n 1 rfl d11_isStatement_100 ?_
      refine j_iload_n 0 rfl d11_isStatement_101 ?_
      refine j_callVi (c11_areMembers x n r7 s8) lv_X11_260 (rV_rc_200 x s8) ⟨Nat.le_of_ble_eq_true rfl, Nat.le_of_ble_eq_true rfl⟩ d11_isStatement_102 rfl (Nat.le_of_ble_eq_true rfl) (fun r10 s9 => ?_)
      refine j_goto d11_isStatement_105 ?_
      exact j_zreturn hq d11_isStatement_113
    · refine j_aload_n 1 rfl d11_isStatement_91 ?_
      refine j_get fl_X11_161 (rV_g_200_8 x s8) d11_isStatement_92 ?_
      refine j_bipush d11_isStatement_95 ejb_123 ?_
      refine j_icmp_ne d11_isStatement_97 ?_ ?_
      · refine j_aload_n 1 rfl d11_isStatement_108 ?_
        refine j_iload_n 0 rfl d11_isStatement_109 ?_
        refine j_callVi (c11_areOthers x n r7 s8) lv_X11_263 (rV_rc_200 x s8) ⟨Nat.le_of_ble_eq_true rfl, Nat.le_of_ble_eq_true rfl⟩ d11_isStatement_110 rfl (Nat.le_of_ble_eq_true rfl) (fun r12 s11 => ?_)
        exact j_zreturn hq d11_isStatement_113
      · refine j_aload_n 1 rfl d11_isStatement_100 ?_
        refine j_iload_n 0 rfl d11_isStatement_101 ?_
        refine j_callVi (c11_areMembers x n r7 s8) lv_X11_260 (rV_rc_200 x s8) ⟨Nat.le_of_ble_eq_true rfl, Nat.le_of_ble_eq_true rfl⟩ d11_isStatement_102 rfl (Nat.le_of_ble_eq_true rfl) (fun r14 s13 => ?_)
        refine j_goto d11_isStatement_105 ?_
        exact j_zreturn hq d11_isStatement_113
  · refine j_aload_n 1 rfl d11_isStatement_72 ?_
    refine j_iload_n 0 rfl d11_isStatement_73 ?_
    refine j_callVi (c11_areTargets x n r7 s6) lv_X11_257 (rV_rc_200 x s6) ⟨Nat.le_of_ble_eq_true rfl, Nat.le_of_ble_eq_true rfl⟩ d11_isStatement_74 rfl (Nat.le_of_ble_eq_true rfl) (fun r16 s15 => ?_)
    exact j_zreturn hq d11_isStatement_77
noncomputable def m11_isStatement (n : Nat)  (σ : ej_S) : Option (Int32 × ej_S) := ej_bi (m11_isName n σ) fun r2 s1 => (if r2 = 0 then (some (0, s1)) else ej_nm (gJ s1 0) fun x3 => ej_bv (m11_next n s1) fun s4 => (if gI s4 2 = 123 then (if lg_cmp x3 1684104548 = 0 then ej_bi (m11_isList n x3 s4) fun r18 s17 => (some (ej_bz r18, s17)) else (if lg_cmp x3 28556934595048048 = 0 then ej_bi (m11_isList n x3 s4) fun r20 s19 => (some (ej_bz r20, s19)) else (if lg_cmp x3 431198855527 = 0 then ej_bi (m11_isList n x3 s4) fun r22 s21 => (some (ej_bz r22, s21)) else (m11_isStatement_57 n x3 s4)))) else (m11_isStatement_57 n x3 s4)))
set_option maxRecDepth 20000 in
set_option maxHeartbeats 2000000 in
theorem j11_isStatement (x : cw_T) (n : Nat)  (σ : ej_S) {F : ej_F} {r0 : Int32 × ej_S} (hq : ej_fin (rV x) F (some .boolean) (some (.int r0.1)) r0.2) : ej_J (rV x) F i11_isStatement r0 σ 0 [(0, .ref (cw_a x 200))] [] (m11_isStatement n  σ) := by
  unfold m11_isStatement
  refine j_aload_n 0 rfl d11_isStatement_0 ?_
  refine j_callVi (c11_isName x n σ) lv_X11_215 (rV_rc_200 x σ) ⟨Nat.le_of_ble_eq_true rfl, Nat.le_of_ble_eq_true rfl⟩ d11_isStatement_1 rfl (Nat.le_of_ble_eq_true rfl) (fun r2 s1 => ?_)
  refine j_if_ne d11_isStatement_4 ?_ ?_
  · refine j_aload_n 0 rfl d11_isStatement_9 ?_
    refine j_get fl_X11_154 (rV_g_200_11 x s1) d11_isStatement_10 ?_
    refine j_nml (fun x3 => ?_)
    refine j_lstore_n (i := 1) (L' := [(1, .long x3), (0, .ref (cw_a x 200))]) d11_isStatement_13 rfl (Nat.le_of_ble_eq_true rfl) rfl ?_
    refine j_aload_n 1 rfl d11_isStatement_14 ?_
    refine j_callVv (c11_next x n s1) lv_X11_201 (rV_rc_200 x s1) ⟨Nat.le_of_ble_eq_true rfl, Nat.le_of_ble_eq_true rfl⟩ d11_isStatement_15 rfl (Nat.le_of_ble_eq_true rfl) (fun s4 => ?_)
    refine j_aload_n 1 rfl d11_isStatement_18 ?_
    refine j_get fl_X11_161 (rV_g_200_8 x s4) d11_isStatement_19 ?_
    refine j_bipush d11_isStatement_22 ejb_123 ?_
    refine j_icmp_ne d11_isStatement_24 ?_ ?_
    · exact j_sub [1, 0] rfl (j11_isStatement_57 x n hq x3 s4)
    · refine j_lload_n 0 rfl d11_isStatement_27 ?_
      refine j_ldc2 d11_isStatement_28 kl_X11_246 ?_
      refine j_lcmp d11_isStatement_31 ?_
      refine j_if_eq d11_isStatement_32 ?_ ?_
      · refine j_aload_n 1 rfl d11_isStatement_51 ?_
        refine j_lload_n 0 rfl d11_isStatement_52 ?_
        refine j_callVi (c11_isList x n x3 s4) lv_X11_254 (rV_rc_200 x s4) ⟨Nat.le_of_ble_eq_true rfl, Nat.le_of_ble_eq_true rfl⟩ d11_isStatement_53 rfl (Nat.le_of_ble_eq_true rfl) (fun r18 s17 => ?_)
        exact j_zreturn hq d11_isStatement_56
      · refine j_lload_n 0 rfl d11_isStatement_35 ?_
        refine j_ldc2 d11_isStatement_36 kl_X11_241 ?_
        refine j_lcmp d11_isStatement_39 ?_
        refine j_if_eq d11_isStatement_40 ?_ ?_
        · refine j_aload_n 1 rfl d11_isStatement_51 ?_
          refine j_lload_n 0 rfl d11_isStatement_52 ?_
          refine j_callVi (c11_isList x n x3 s4) lv_X11_254 (rV_rc_200 x s4) ⟨Nat.le_of_ble_eq_true rfl, Nat.le_of_ble_eq_true rfl⟩ d11_isStatement_53 rfl (Nat.le_of_ble_eq_true rfl) (fun r20 s19 => ?_)
          exact j_zreturn hq d11_isStatement_56
        · refine j_lload_n 0 rfl d11_isStatement_43 ?_
          refine j_ldc2 d11_isStatement_44 kl_X11_248 ?_
          refine j_lcmp d11_isStatement_47 ?_
          refine j_if_ne d11_isStatement_48 ?_ ?_
          · exact j_sub [1, 0] rfl (j11_isStatement_57 x n hq x3 s4)
          · refine j_aload_n 1 rfl d11_isStatement_51 ?_
            refine j_lload_n 0 rfl d11_isStatement_52 ?_
            refine j_callVi (c11_isList x n x3 s4) lv_X11_254 (rV_rc_200 x s4) ⟨Nat.le_of_ble_eq_true rfl, Nat.le_of_ble_eq_true rfl⟩ d11_isStatement_53 rfl (Nat.le_of_ble_eq_true rfl) (fun r22 s21 => ?_)
            exact j_zreturn hq d11_isStatement_56
  · refine j_iconst d11_isStatement_7 ejc_0 ?_
    exact j_zreturn0 hq d11_isStatement_8
theorem c11_isStatement (x : cw_T) (n : Nat)  (σ : ej_S) : ∀ r σ1, m11_isStatement n  σ = some (r, σ1) → ∀ l, ej_Con l (rV x) i11_isStatement yX11_isStatement (some .boolean) [.ref (cw_a x 200)] σ (some (.int r)) σ1 := fun r σ1 h l => ej_con_of (rV_ok x) pn_X11 rfl (Nat.le_of_ble_eq_true rfl) rfl h (fun F hq => j11_isStatement x n  σ hq)

noncomputable def m11_isRead_107 (n : Nat) (f31 : Int32 → ej_S → Option (Int32 × ej_S))  (σ : ej_S) : Option (Int32 × ej_S) := ej_nm (uI σ 8 ((gI σ 8) + 1)) fun s11 => (f31 1 s11)
set_option maxRecDepth 20000 in
set_option maxHeartbeats 2000000 in
theorem j11_isRead_107 (x : cw_T) (n : Nat) {F : ej_F} {r0 : Int32 × ej_S} (hq : ej_fin (rV x) F (some .boolean) (some (.int r0.1)) r0.2) (f31 : Int32 → ej_S → Option (Int32 × ej_S)) (H31 : ∀ (y7 : Int32) (σ : ej_S), ej_J (rV x) F i11_isRead r0 σ 31 [(0, .ref (cw_a x 200)), (2, .int y7)] [] (f31 y7 σ))  (σ : ej_S) : ej_J (rV x) F i11_isRead r0 σ 107 [(0, .ref (cw_a x 200))] [] (m11_isRead_107 n f31  σ) := by
  unfold m11_isRead_107
  refine j_iconst d11_isRead_107 ejc_1 ?_
  refine j_goto d11_isRead_108 ?_
  refine j_istore_n (i := 2) (L' := [(2, .int 1), (0, .ref (cw_a x 200))]) d11_isRead_112 rfl (Nat.le_of_ble_eq_true rfl) rfl ?_
  refine j_aload_n 1 rfl d11_isRead_113 ?_
  refine j_dup d11_isRead_114 rfl ?_
  refine j_get fl_X11_266 (rV_g_200_15 x σ) d11_isRead_115 ?_
  refine j_iconst d11_isRead_118 ejc_1 ?_
  refine j_iadd d11_isRead_119 ?_
  refine j_put fl_X11_266 (rV_p_200_15 x σ ((gI σ 8) + 1)) rfl rfl d11_isRead_120 (fun s11 => ?_)
  refine j_goto d11_isRead_123 ?_
  exact j_sub [1, 0] rfl (H31 1 s11)
noncomputable def m11_isRead_31 (n : Nat) (k : Nat) : Int32 → ej_S → Option (Int32 × ej_S) := Nat.rec (motive := fun _ => Int32 → ej_S → Option (Int32 × ej_S)) (fun _ _ => none) (fun _ ih y7 σ => (if y7 = 0 then (some (ej_bz y7, σ)) else (if gI σ 2 = 0 then (some (ej_bz y7, σ)) else (if gI σ 2 = 59 then ej_bv (m11_next n σ) fun s17 => (ih y7 s17) else (if gI σ 8 = 40 then ej_bi (m11_failsHere n 5 σ) fun r16 s15 => (ih r16 s15) else ej_bi (m11_isStatement n σ) fun r9 s8 => (if r9 = 0 then ej_nm (uI s8 8 ((gI s8 8) + 1)) fun s10 => (ih 0 s10) else (if gI s8 2 = 59 then (m11_isRead_107 n ih s8) else (if gI s8 2 = 0 then (m11_isRead_107 n ih s8) else ej_bi (m11_failsHere n 1 s8) fun r13 s12 => (if r13 = 0 then ej_nm (uI s12 8 ((gI s12 8) + 1)) fun s14 => (ih 0 s14) else (m11_isRead_107 n ih s12)))))))))) k
theorem m11_isRead_31_s (n : Nat) (k : Nat) (y7 : Int32) (σ : ej_S) : m11_isRead_31 n (k + 1) y7 σ = ((if y7 = 0 then (some (ej_bz y7, σ)) else (if gI σ 2 = 0 then (some (ej_bz y7, σ)) else (if gI σ 2 = 59 then ej_bv (m11_next n σ) fun s17 => ((m11_isRead_31 n k) y7 s17) else (if gI σ 8 = 40 then ej_bi (m11_failsHere n 5 σ) fun r16 s15 => ((m11_isRead_31 n k) r16 s15) else ej_bi (m11_isStatement n σ) fun r9 s8 => (if r9 = 0 then ej_nm (uI s8 8 ((gI s8 8) + 1)) fun s10 => ((m11_isRead_31 n k) 0 s10) else (if gI s8 2 = 59 then (m11_isRead_107 n (m11_isRead_31 n k) s8) else (if gI s8 2 = 0 then (m11_isRead_107 n (m11_isRead_31 n k) s8) else ej_bi (m11_failsHere n 1 s8) fun r13 s12 => (if r13 = 0 then ej_nm (uI s12 8 ((gI s12 8) + 1)) fun s14 => ((m11_isRead_31 n k) 0 s14) else (m11_isRead_107 n (m11_isRead_31 n k) s12))))))))) : Option (Int32 × ej_S)) := rfl
set_option maxRecDepth 20000 in
set_option maxHeartbeats 2000000 in
theorem j11_isRead_31 (x : cw_T) (n : Nat) {F : ej_F} {r0 : Int32 × ej_S} (hq : ej_fin (rV x) F (some .boolean) (some (.int r0.1)) r0.2) : ∀ (k : Nat) (y7 : Int32) (σ : ej_S), ej_J (rV x) F i11_isRead r0 σ 31 [(0, .ref (cw_a x 200)), (2, .int y7)] [] (m11_isRead_31 n k y7 σ) := by
  intro k
  induction k with
  | zero => intro y7 σ; exact j_none
  | succ k ih =>
    intro y7 σ
    rw [m11_isRead_31_s]
    refine j_iload_n 1 rfl d11_isRead_31 ?_
    refine j_if_eq d11_isRead_32 ?_ ?_
    · refine j_iload_n 1 rfl d11_isRead_126 ?_
      exact j_zreturn hq d11_isRead_127
    · refine j_aload_n 0 rfl d11_isRead_35 ?_
      refine j_get fl_X11_161 (rV_g_200_8 x σ) d11_isRead_36 ?_
      refine j_if_eq d11_isRead_39 ?_ ?_
      · refine j_iload_n 1 rfl d11_isRead_126 ?_
        exact j_zreturn hq d11_isRead_127
      · refine j_aload_n 0 rfl d11_isRead_42 ?_
        refine j_get fl_X11_161 (rV_g_200_8 x σ) d11_isRead_43 ?_
        refine j_bipush d11_isRead_46 ejb_59 ?_
        refine j_icmp_ne d11_isRead_48 ?_ ?_
        · refine j_aload_n 0 rfl d11_isRead_58 ?_
          refine j_get fl_X11_266 (rV_g_200_15 x σ) d11_isRead_59 ?_
          refine j_bipush d11_isRead_62 ejb_40 ?_
          refine j_icmp_ne d11_isRead_64 ?_ ?_
          · refine j_aload_n 0 rfl d11_isRead_76 ?_
            refine j_callVi (c11_isStatement x n σ) lv_X11_269 (rV_rc_200 x σ) ⟨Nat.le_of_ble_eq_true rfl, Nat.le_of_ble_eq_true rfl⟩ d11_isRead_77 rfl (Nat.le_of_ble_eq_true rfl) (fun r9 s8 => ?_)
            refine j_if_eq d11_isRead_80 ?_ ?_
            · refine j_iconst d11_isRead_111 ejc_0 ?_
              refine j_istore_n (i := 2) (L' := [(2, .int 0), (0, .ref (cw_a x 200))]) d11_isRead_112 rfl (Nat.le_of_ble_eq_true rfl) rfl ?_
              refine j_aload_n 1 rfl d11_isRead_113 ?_
              refine j_dup d11_isRead_114 rfl ?_
              refine j_get fl_X11_266 (rV_g_200_15 x s8) d11_isRead_115 ?_
              refine j_iconst d11_isRead_118 ejc_1 ?_
              refine j_iadd d11_isRead_119 ?_
              refine j_put fl_X11_266 (rV_p_200_15 x s8 ((gI s8 8) + 1)) rfl rfl d11_isRead_120 (fun s10 => ?_)
              refine j_goto d11_isRead_123 ?_
              exact j_sub [1, 0] rfl (ih 0 s10)
            · refine j_aload_n 0 rfl d11_isRead_83 ?_
              refine j_get fl_X11_161 (rV_g_200_8 x s8) d11_isRead_84 ?_
              refine j_bipush d11_isRead_87 ejb_59 ?_
              refine j_icmp_eq d11_isRead_89 ?_ ?_
              · exact j_sub [0] rfl (j11_isRead_107 x n hq (m11_isRead_31 n k) ih s8)
              · refine j_aload_n 0 rfl d11_isRead_92 ?_
                refine j_get fl_X11_161 (rV_g_200_8 x s8) d11_isRead_93 ?_
                refine j_if_eq d11_isRead_96 ?_ ?_
                · exact j_sub [0] rfl (j11_isRead_107 x n hq (m11_isRead_31 n k) ih s8)
                · refine j_aload_n 0 rfl d11_isRead_99 ?_
                  refine j_iconst d11_isRead_100 ejc_1 ?_
                  refine j_callVi (c11_failsHere x n 1 s8) lv_X11_187 (rV_rc_200 x s8) ⟨Nat.le_of_ble_eq_true rfl, Nat.le_of_ble_eq_true rfl⟩ d11_isRead_101 rfl (Nat.le_of_ble_eq_true rfl) (fun r13 s12 => ?_)
                  refine j_if_eq d11_isRead_104 ?_ ?_
                  · refine j_iconst d11_isRead_111 ejc_0 ?_
                    refine j_istore_n (i := 2) (L' := [(2, .int 0), (0, .ref (cw_a x 200))]) d11_isRead_112 rfl (Nat.le_of_ble_eq_true rfl) rfl ?_
                    refine j_aload_n 1 rfl d11_isRead_113 ?_
                    refine j_dup d11_isRead_114 rfl ?_
                    refine j_get fl_X11_266 (rV_g_200_15 x s12) d11_isRead_115 ?_
                    refine j_iconst d11_isRead_118 ejc_1 ?_
                    refine j_iadd d11_isRead_119 ?_
                    refine j_put fl_X11_266 (rV_p_200_15 x s12 ((gI s12 8) + 1)) rfl rfl d11_isRead_120 (fun s14 => ?_)
                    refine j_goto d11_isRead_123 ?_
                    exact j_sub [1, 0] rfl (ih 0 s14)
                  · exact j_sub [0] rfl (j11_isRead_107 x n hq (m11_isRead_31 n k) ih s12)
          · refine j_aload_n 0 rfl d11_isRead_67 ?_
            refine j_iconst d11_isRead_68 ejc_5 ?_
            refine j_callVi (c11_failsHere x n 5 σ) lv_X11_187 (rV_rc_200 x σ) ⟨Nat.le_of_ble_eq_true rfl, Nat.le_of_ble_eq_true rfl⟩ d11_isRead_69 rfl (Nat.le_of_ble_eq_true rfl) (fun r16 s15 => ?_)
            refine j_istore_n (i := 2) (L' := [(2, .int r16), (0, .ref (cw_a x 200))]) d11_isRead_72 rfl (Nat.le_of_ble_eq_true rfl) rfl ?_
            refine j_goto d11_isRead_73 ?_
            exact j_sub [1, 0] rfl (ih r16 s15)
        · refine j_aload_n 0 rfl d11_isRead_51 ?_
          refine j_callVv (c11_next x n σ) lv_X11_201 (rV_rc_200 x σ) ⟨Nat.le_of_ble_eq_true rfl, Nat.le_of_ble_eq_true rfl⟩ d11_isRead_52 rfl (Nat.le_of_ble_eq_true rfl) (fun s17 => ?_)
          refine j_goto d11_isRead_55 ?_
          exact j_sub [0, 1] rfl (ih y7 s17)
noncomputable def m11_isRead (n : Nat) (a1 : Int32) (σ : ej_S) : Option (Int32 × ej_S) := ej_nm (uI σ 0 a1) fun s1 => ej_nm (uI s1 1 0) fun s2 => ej_nm (uI s2 8 0) fun s3 => ej_nm (uI s3 9 0) fun s4 => ej_nm (uI s4 10 0) fun s5 => ej_bv (m11_next n s5) fun s6 => (m11_isRead_31 n n 1 s6)
set_option maxRecDepth 20000 in
set_option maxHeartbeats 2000000 in
theorem j11_isRead (x : cw_T) (n : Nat) (a1 : Int32) (σ : ej_S) {F : ej_F} {r0 : Int32 × ej_S} (hq : ej_fin (rV x) F (some .boolean) (some (.int r0.1)) r0.2) : ej_J (rV x) F i11_isRead r0 σ 0 [(0, .ref (cw_a x 200)), (1, .int a1)] [] (m11_isRead n a1 σ) := by
  unfold m11_isRead
  refine j_aload_n 0 rfl d11_isRead_0 ?_
  refine j_iload_n 1 rfl d11_isRead_1 ?_
  refine j_put fl_X11_124 (rV_p_200_6 x σ a1) rfl rfl d11_isRead_2 (fun s1 => ?_)
  refine j_aload_n 0 rfl d11_isRead_5 ?_
  refine j_iconst d11_isRead_6 ejc_0 ?_
  refine j_put fl_X11_138 (rV_p_200_7 x s1 0) rfl rfl d11_isRead_7 (fun s2 => ?_)
  refine j_aload_n 0 rfl d11_isRead_10 ?_
  refine j_iconst d11_isRead_11 ejc_0 ?_
  refine j_put fl_X11_266 (rV_p_200_15 x s2 0) rfl rfl d11_isRead_12 (fun s3 => ?_)
  refine j_aload_n 0 rfl d11_isRead_15 ?_
  refine j_iconst d11_isRead_16 ejc_0 ?_
  refine j_put fl_X11_174 (rV_p_200_16 x s3 0) rfl rfl d11_isRead_17 (fun s4 => ?_)
  refine j_aload_n 0 rfl d11_isRead_20 ?_
  refine j_iconst d11_isRead_21 ejc_0 ?_
  refine j_put fl_X11_177 (rV_p_200_17 x s4 0) rfl rfl d11_isRead_22 (fun s5 => ?_)
  refine j_aload_n 0 rfl d11_isRead_25 ?_
  refine j_callVv (c11_next x n s5) lv_X11_201 (rV_rc_200 x s5) ⟨Nat.le_of_ble_eq_true rfl, Nat.le_of_ble_eq_true rfl⟩ d11_isRead_26 rfl (Nat.le_of_ble_eq_true rfl) (fun s6 => ?_)
  refine j_iconst d11_isRead_29 ejc_1 ?_
  refine j_istore_n (i := 2) (L' := [(2, .int 1), (0, .ref (cw_a x 200)), (1, .int a1)]) d11_isRead_30 rfl (Nat.le_of_ble_eq_true rfl) rfl ?_
  exact j_sub [1, 0] rfl (j11_isRead_31 x n hq n 1 s6)
theorem c11_isRead (x : cw_T) (n : Nat) (a1 : Int32) (σ : ej_S) : ∀ r σ1, m11_isRead n a1 σ = some (r, σ1) → ∀ l, ej_Con l (rV x) i11_isRead yX11_isRead (some .boolean) [.ref (cw_a x 200), .int a1] σ (some (.int r)) σ1 := fun r σ1 h l => ej_con_of (rV_ok x) pn_X11 rfl (Nat.le_of_ble_eq_true rfl) rfl h (fun F hq => j11_isRead x n a1 σ hq)

noncomputable def m11_homeNode (n : Nat)  (σ : ej_S) : Option (Int32 × ej_S) := (if lg_cmp (gJ σ 1) 0 = 0 then (some ((-1), σ)) else ej_bi (m11_found n (gJ σ 1) (-1) σ) fun r2 s1 => (some (r2, s1)))
set_option maxRecDepth 20000 in
set_option maxHeartbeats 2000000 in
theorem j11_homeNode (x : cw_T) (n : Nat)  (σ : ej_S) {F : ej_F} {r0 : Int32 × ej_S} (hq : ej_fin (rV x) F (some .int) (some (.int r0.1)) r0.2) : ej_J (rV x) F i11_homeNode r0 σ 0 [(0, .ref (cw_a x 200))] [] (m11_homeNode n  σ) := by
  unfold m11_homeNode
  refine j_aload_n 0 rfl d11_homeNode_0 ?_
  refine j_get fl_X11_365 (rV_g_200_43 x σ) d11_homeNode_1 ?_
  refine j_lconst d11_homeNode_4 ejl_0 ?_
  refine j_lcmp d11_homeNode_5 ?_
  refine j_if_ne d11_homeNode_6 ?_ ?_
  · refine j_aload_n 0 rfl d11_homeNode_13 ?_
    refine j_aload_n 0 rfl d11_homeNode_14 ?_
    refine j_get fl_X11_365 (rV_g_200_43 x σ) d11_homeNode_15 ?_
    refine j_iconst d11_homeNode_18 ejc_m1 ?_
    refine j_callVi (c11_found x n (gJ σ 1) (-1) σ) lv_X11_281 (rV_rc_200 x σ) ⟨Nat.le_of_ble_eq_true rfl, Nat.le_of_ble_eq_true rfl⟩ d11_homeNode_19 rfl (Nat.le_of_ble_eq_true rfl) (fun r2 s1 => ?_)
    exact j_ireturn hq d11_homeNode_22
  · refine j_iconst d11_homeNode_9 ejc_m1 ?_
    refine j_goto d11_homeNode_10 ?_
    exact j_ireturn hq d11_homeNode_22
theorem c11_homeNode (x : cw_T) (n : Nat)  (σ : ej_S) : ∀ r σ1, m11_homeNode n  σ = some (r, σ1) → ∀ l, ej_Con l (rV x) i11_homeNode yX11_homeNode (some .int) [.ref (cw_a x 200)] σ (some (.int r)) σ1 := fun r σ1 h l => ej_con_of (rV_ok x) pn_X11 rfl (Nat.le_of_ble_eq_true rfl) rfl h (fun F hq => j11_homeNode x n  σ hq)

noncomputable def m11_kindOf (n : Nat) (a1 : Int32) (σ : ej_S) : Option (Int32 × ej_S) := ej_ck a1 24 ((if lg_cmp ((gB σ 1 a1.toNatClampNeg) &&& 255) 46 = 0 then (some (2, σ)) else ej_ck a1 24 ((if gA σ 12 a1.toNatClampNeg = 0 then (some (0, σ)) else (some (1, σ))))))
set_option maxRecDepth 20000 in
set_option maxHeartbeats 2000000 in
theorem j11_kindOf (x : cw_T) (n : Nat) (a1 : Int32) (σ : ej_S) {F : ej_F} {r0 : Int32 × ej_S} (hq : ej_fin (rV x) F (some .int) (some (.int r0.1)) r0.2) : ej_J (rV x) F i11_kindOf r0 σ 0 [(0, .ref (cw_a x 200)), (1, .int a1)] [] (m11_kindOf n a1 σ) := by
  unfold m11_kindOf
  refine j_aload_n 0 rfl d11_kindOf_0 ?_
  refine j_get fl_X11_47 (rV_g_200_30 x σ) d11_kindOf_1 ?_
  refine j_iload_n 1 rfl d11_kindOf_4 ?_
  refine j_lald (rV_a_213 x σ) d11_kindOf_5 ?_
  refine j_ldc2 d11_kindOf_6 kl_X11_294 ?_
  refine j_land d11_kindOf_9 ?_
  refine j_ldc2 d11_kindOf_10 kl_X11_296 ?_
  refine j_lcmp d11_kindOf_13 ?_
  refine j_if_ne d11_kindOf_14 ?_ ?_
  · refine j_aload_n 0 rfl d11_kindOf_21 ?_
    refine j_get fl_X11_53 (rV_g_200_32 x σ) d11_kindOf_22 ?_
    refine j_iload_n 1 rfl d11_kindOf_25 ?_
    refine j_zald (rV_a_215 x σ) d11_kindOf_26 ?_
    refine j_if_eq d11_kindOf_27 ?_ ?_
    · refine j_iconst d11_kindOf_34 ejc_0 ?_
      exact j_ireturn hq d11_kindOf_35
    · refine j_iconst d11_kindOf_30 ejc_1 ?_
      refine j_goto d11_kindOf_31 ?_
      exact j_ireturn hq d11_kindOf_35
  · refine j_iconst d11_kindOf_17 ejc_2 ?_
    refine j_goto d11_kindOf_18 ?_
    exact j_ireturn hq d11_kindOf_35
theorem c11_kindOf (x : cw_T) (n : Nat) (a1 : Int32) (σ : ej_S) : ∀ r σ1, m11_kindOf n a1 σ = some (r, σ1) → ∀ l, ej_Con l (rV x) i11_kindOf yX11_kindOf (some .int) [.ref (cw_a x 200), .int a1] σ (some (.int r)) σ1 := fun r σ1 h l => ej_con_of (rV_ok x) pn_X11 rfl (Nat.le_of_ble_eq_true rfl) rfl h (fun F hq => j11_kindOf x n a1 σ hq)

noncomputable def m11_stepCost_81 (n : Nat) (y5 : Int32) (y6 : Int32) (y7 : Int32) (σ : ej_S) : Option (Int32 × ej_S) := ej_ck y5 24 ((if gA σ 14 y5.toNatClampNeg = 0 then (some ((y7 + y6) + 0, σ)) else (some ((y7 + y6) + 100000, σ))))
set_option maxRecDepth 20000 in
set_option maxHeartbeats 2000000 in
theorem j11_stepCost_81 (x : cw_T) (n : Nat) {F : ej_F} {r0 : Int32 × ej_S} (hq : ej_fin (rV x) F (some .int) (some (.int r0.1)) r0.2) (y5 : Int32) (y6 : Int32) (y7 : Int32) (σ : ej_S) : ej_J (rV x) F i11_stepCost r0 σ 81 [(0, .ref (cw_a x 200)), (1, .int y5)] [.int y6, .int y7] (m11_stepCost_81 n y5 y6 y7 σ) := by
  unfold m11_stepCost_81
  refine j_iadd d11_stepCost_81 ?_
  refine j_aload_n 0 rfl d11_stepCost_82 ?_
  refine j_get fl_X11_60 (rV_g_200_34 x σ) d11_stepCost_83 ?_
  refine j_iload_n 1 rfl d11_stepCost_86 ?_
  refine j_zald (rV_a_217 x σ) d11_stepCost_87 ?_
  refine j_if_eq d11_stepCost_88 ?_ ?_
  · refine j_iconst d11_stepCost_97 ejc_0 ?_
    refine j_iadd d11_stepCost_98 ?_
    exact j_ireturn hq d11_stepCost_99
  · refine j_ldcw d11_stepCost_91 ki_X11_298 ?_
    refine j_goto d11_stepCost_94 ?_
    refine j_iadd d11_stepCost_98 ?_
    exact j_ireturn hq d11_stepCost_99
noncomputable def m11_stepCost (n : Nat) (a1 : Int32) (a2 : Int32) (a3 : Int32) (σ : ej_S) : Option (Int32 × ej_S) := ej_nm ((24 * a1) + a2) fun x1 => ej_nm ((24 * a2) + a1) fun x2 => (if a3 = 1 then ej_ck x1 576 ((if gA σ 19 x1.toNatClampNeg = 0 then (some ((-1), σ)) else (some (0, σ)))) else (if a3 = 2 then ej_ck x1 576 ((if gA σ 16 x1.toNatClampNeg = (-1) then (some ((-1), σ)) else ej_ck x1 576 (ej_ck x1 576 ((if gA σ 18 x1.toNatClampNeg = 0 then (m11_stepCost_81 n a1 0 (gA σ 16 x1.toNatClampNeg) σ) else (m11_stepCost_81 n a1 100000 (gA σ 16 x1.toNatClampNeg) σ)))))) else (if a3 = 3 then ej_ck x1 576 ((if gA σ 20 x1.toNatClampNeg = (-1) then (some ((-1), σ)) else ej_ck x1 576 (ej_ck a2 24 ((if gA σ 15 a2.toNatClampNeg = 0 then ej_bi (m11_kindOf n a2 σ) fun r4 s3 => (if r4 = 2 then (some ((gA σ 20 x1.toNatClampNeg) + 70000, s3)) else (some ((gA σ 20 x1.toNatClampNeg) + 0, s3))) else (some ((gA σ 20 x1.toNatClampNeg) + 70000, σ))))))) else (if a3 = 4 then ej_ck x2 576 ((if gA σ 20 x2.toNatClampNeg = (-1) then (some ((-1), σ)) else (some (0, σ)))) else ej_ck x1 576 ((if gA σ 21 x1.toNatClampNeg = 0 then (some ((-1), σ)) else ej_ck x2 576 ((some ((gA σ 16 x2.toNatClampNeg) + 200000, σ)))))))))
set_option maxRecDepth 20000 in
set_option maxHeartbeats 2000000 in
theorem j11_stepCost (x : cw_T) (n : Nat) (a1 : Int32) (a2 : Int32) (a3 : Int32) (σ : ej_S) {F : ej_F} {r0 : Int32 × ej_S} (hq : ej_fin (rV x) F (some .int) (some (.int r0.1)) r0.2) : ej_J (rV x) F i11_stepCost r0 σ 0 [(0, .ref (cw_a x 200)), (1, .int a1), (2, .int a2), (3, .int a3)] [] (m11_stepCost n a1 a2 a3 σ) := by
  unfold m11_stepCost
  refine j_bipush d11_stepCost_0 ejb_24 ?_
  refine j_iload_n 1 rfl d11_stepCost_2 ?_
  refine j_imul d11_stepCost_3 ?_
  refine j_iload_n 2 rfl d11_stepCost_4 ?_
  refine j_iadd d11_stepCost_5 ?_
  refine j_nmi (fun x1 => ?_)
  refine j_istore (i := 4) (L' := [(4, .int x1), (0, .ref (cw_a x 200)), (1, .int a1), (2, .int a2), (3, .int a3)]) d11_stepCost_6 (Nat.le_of_ble_eq_true rfl) rfl ?_
  refine j_bipush d11_stepCost_8 ejb_24 ?_
  refine j_iload_n 3 rfl d11_stepCost_10 ?_
  refine j_imul d11_stepCost_11 ?_
  refine j_iload_n 2 rfl d11_stepCost_12 ?_
  refine j_iadd d11_stepCost_13 ?_
  refine j_nmi (fun x2 => ?_)
  refine j_istore (i := 5) (L' := [(5, .int x2), (4, .int x1), (0, .ref (cw_a x 200)), (1, .int a1), (2, .int a2), (3, .int a3)]) d11_stepCost_14 (Nat.le_of_ble_eq_true rfl) rfl ?_
  refine j_iload_n 5 rfl d11_stepCost_16 ?_
  refine j_iconst d11_stepCost_17 ejc_1 ?_
  refine j_icmp_ne d11_stepCost_18 ?_ ?_
  · refine j_iload_n 5 rfl d11_stepCost_37 ?_
    refine j_iconst d11_stepCost_38 ejc_2 ?_
    refine j_icmp_ne d11_stepCost_39 ?_ ?_
    · refine j_iload_n 5 rfl d11_stepCost_100 ?_
      refine j_iconst d11_stepCost_101 ejc_3 ?_
      refine j_icmp_ne d11_stepCost_102 ?_ ?_
      · refine j_iload_n 5 rfl d11_stepCost_154 ?_
        refine j_iconst d11_stepCost_155 ejc_4 ?_
        refine j_icmp_ne d11_stepCost_156 ?_ ?_
        · refine j_aload_n 2 rfl d11_stepCost_178 ?_
          refine j_get fl_X11_81 (rV_g_200_41 x σ) d11_stepCost_179 ?_
          refine j_iload 1 rfl d11_stepCost_182 ?_
          refine j_zald (rV_a_224 x σ) d11_stepCost_184 ?_
          refine j_if_eq d11_stepCost_185 ?_ ?_
          · refine j_iconst d11_stepCost_202 ejc_m1 ?_
            exact j_ireturn hq d11_stepCost_203
          · refine j_aload_n 2 rfl d11_stepCost_188 ?_
            refine j_get fl_X11_66 (rV_g_200_36 x σ) d11_stepCost_189 ?_
            refine j_iload 0 rfl d11_stepCost_192 ?_
            refine j_iald (rV_a_219 x σ) d11_stepCost_194 ?_
            refine j_ldcw d11_stepCost_195 ki_X11_303 ?_
            refine j_iadd d11_stepCost_198 ?_
            refine j_goto d11_stepCost_199 ?_
            exact j_ireturn hq d11_stepCost_203
        · refine j_aload_n 2 rfl d11_stepCost_159 ?_
          refine j_get fl_X11_78 (rV_g_200_40 x σ) d11_stepCost_160 ?_
          refine j_iload 0 rfl d11_stepCost_163 ?_
          refine j_iald (rV_a_223 x σ) d11_stepCost_165 ?_
          refine j_iconst d11_stepCost_166 ejc_m1 ?_
          refine j_icmp_ne d11_stepCost_167 ?_ ?_
          · refine j_iconst d11_stepCost_174 ejc_0 ?_
            refine j_goto d11_stepCost_175 ?_
            exact j_ireturn hq d11_stepCost_203
          · refine j_iconst d11_stepCost_170 ejc_m1 ?_
            refine j_goto d11_stepCost_171 ?_
            exact j_ireturn hq d11_stepCost_203
      · refine j_aload_n 2 rfl d11_stepCost_105 ?_
        refine j_get fl_X11_78 (rV_g_200_40 x σ) d11_stepCost_106 ?_
        refine j_iload 1 rfl d11_stepCost_109 ?_
        refine j_iald (rV_a_223 x σ) d11_stepCost_111 ?_
        refine j_iconst d11_stepCost_112 ejc_m1 ?_
        refine j_icmp_ne d11_stepCost_113 ?_ ?_
        · refine j_aload_n 2 rfl d11_stepCost_120 ?_
          refine j_get fl_X11_78 (rV_g_200_40 x σ) d11_stepCost_121 ?_
          refine j_iload 1 rfl d11_stepCost_124 ?_
          refine j_iald (rV_a_223 x σ) d11_stepCost_126 ?_
          refine j_aload_n 2 rfl d11_stepCost_127 ?_
          refine j_get fl_X11_63 (rV_g_200_35 x σ) d11_stepCost_128 ?_
          refine j_iload_n 4 rfl d11_stepCost_131 ?_
          refine j_zald (rV_a_218 x σ) d11_stepCost_132 ?_
          refine j_if_ne d11_stepCost_133 ?_ ?_
          · refine j_ldcw d11_stepCost_145 ki_X11_302 ?_
            refine j_goto d11_stepCost_148 ?_
            refine j_iadd d11_stepCost_152 ?_
            exact j_ireturn hq d11_stepCost_153
          · refine j_aload_n 2 rfl d11_stepCost_136 ?_
            refine j_iload_n 4 rfl d11_stepCost_137 ?_
            refine j_callVi (c11_kindOf x n a2 σ) lv_X11_299 (rV_rc_200 x σ) ⟨Nat.le_of_ble_eq_true rfl, Nat.le_of_ble_eq_true rfl⟩ d11_stepCost_138 rfl (Nat.le_of_ble_eq_true rfl) (fun r4 s3 => ?_)
            refine j_iconst d11_stepCost_141 ejc_2 ?_
            refine j_icmp_ne d11_stepCost_142 ?_ ?_
            · refine j_iconst d11_stepCost_151 ejc_0 ?_
              refine j_iadd d11_stepCost_152 ?_
              exact j_ireturn hq d11_stepCost_153
            · refine j_ldcw d11_stepCost_145 ki_X11_302 ?_
              refine j_goto d11_stepCost_148 ?_
              refine j_iadd d11_stepCost_152 ?_
              exact j_ireturn hq d11_stepCost_153
        · refine j_iconst d11_stepCost_116 ejc_m1 ?_
          refine j_goto d11_stepCost_117 ?_
          exact j_ireturn hq d11_stepCost_153
    · refine j_aload_n 2 rfl d11_stepCost_42 ?_
      refine j_get fl_X11_66 (rV_g_200_36 x σ) d11_stepCost_43 ?_
      refine j_iload 1 rfl d11_stepCost_46 ?_
      refine j_iald (rV_a_219 x σ) d11_stepCost_48 ?_
      refine j_iconst d11_stepCost_49 ejc_m1 ?_
      refine j_icmp_ne d11_stepCost_50 ?_ ?_
      · refine j_aload_n 2 rfl d11_stepCost_57 ?_
        refine j_get fl_X11_66 (rV_g_200_36 x σ) d11_stepCost_58 ?_
        refine j_iload 1 rfl d11_stepCost_61 ?_
        refine j_iald (rV_a_219 x σ) d11_stepCost_63 ?_
        refine j_aload_n 2 rfl d11_stepCost_64 ?_
        refine j_get fl_X11_72 (rV_g_200_38 x σ) d11_stepCost_65 ?_
        refine j_iload 1 rfl d11_stepCost_68 ?_
        refine j_zald (rV_a_221 x σ) d11_stepCost_70 ?_
        refine j_if_eq d11_stepCost_71 ?_ ?_
        · refine j_iconst d11_stepCost_80 ejc_0 ?_
          exact j_sub [2, 3] rfl (j11_stepCost_81 x n hq a1 0 (gA σ 16 x1.toNatClampNeg) σ)
        · refine j_ldcw d11_stepCost_74 ki_X11_298 ?_
          refine j_goto d11_stepCost_77 ?_
          exact j_sub [2, 3] rfl (j11_stepCost_81 x n hq a1 100000 (gA σ 16 x1.toNatClampNeg) σ)
      · refine j_iconst d11_stepCost_53 ejc_m1 ?_
        refine j_goto d11_stepCost_54 ?_
        exact j_ireturn hq d11_stepCost_99
  · refine j_aload_n 2 rfl d11_stepCost_21 ?_
    refine j_get fl_X11_75 (rV_g_200_39 x σ) d11_stepCost_22 ?_
    refine j_iload 1 rfl d11_stepCost_25 ?_
    refine j_zald (rV_a_222 x σ) d11_stepCost_27 ?_
    refine j_if_eq d11_stepCost_28 ?_ ?_
    · refine j_iconst d11_stepCost_35 ejc_m1 ?_
      exact j_ireturn hq d11_stepCost_36
    · refine j_iconst d11_stepCost_31 ejc_0 ?_
      refine j_goto d11_stepCost_32 ?_
      exact j_ireturn hq d11_stepCost_36
theorem c11_stepCost (x : cw_T) (n : Nat) (a1 : Int32) (a2 : Int32) (a3 : Int32) (σ : ej_S) : ∀ r σ1, m11_stepCost n a1 a2 a3 σ = some (r, σ1) → ∀ l, ej_Con l (rV x) i11_stepCost yX11_stepCost (some .int) [.ref (cw_a x 200), .int a1, .int a2, .int a3] σ (some (.int r)) σ1 := fun r σ1 h l => ej_con_of (rV_ok x) pn_X11 rfl (Nat.le_of_ble_eq_true rfl) rfl h (fun F hq => j11_stepCost x n a1 a2 a3 σ hq)

noncomputable def m11_reaches_125 (n : Nat) (f74 : Int32 → Int32 → Int32 → Int32 → Int32 → ej_S → Option (ej_S)) (y18 : Int32) (y19 : Int32) (y20 : Int32) (y21 : Int32) (y22 : Int32) (y23 : Int32) (y24 : Int32) (σ : ej_S) : Option (ej_S) := ej_ck y24 24 (ej_nm (uA σ 22 (y24.toNatClampNeg) (ej_bz y23)) fun s25 => (if y18 = 0 then ej_ck y21 24 ((if gA s25 22 y21.toNatClampNeg = 0 then ej_nm (y22 + 1) fun x27 => (f74 0 y19 y20 y21 x27 s25) else ej_nm (y22 + 1) fun x28 => (f74 1 y19 y20 y21 x28 s25))) else ej_nm (y22 + 1) fun x26 => (f74 1 y19 y20 y21 x26 s25)))
set_option maxRecDepth 20000 in
set_option maxHeartbeats 2000000 in
theorem j11_reaches_125 (x : cw_T) (n : Nat) {F : ej_F} {r0 : ej_S} (hq : ej_fin (rV x) F none none r0) (f74 : Int32 → Int32 → Int32 → Int32 → Int32 → ej_S → Option (ej_S)) (H74 : ∀ (y8 : Int32) (y9 : Int32) (y10 : Int32) (y11 : Int32) (y12 : Int32) (σ : ej_S), ej_J (rV x) F i11_reaches r0 σ 74 [(0, .ref (cw_a x 200)), (2, .int y8), (3, .int y9), (4, .int y10), (5, .int y11), (6, .int y12)] [] (f74 y8 y9 y10 y11 y12 σ)) (y18 : Int32) (y19 : Int32) (y20 : Int32) (y21 : Int32) (y22 : Int32) (y23 : Int32) (y24 : Int32) (σ : ej_S) : ej_J (rV x) F i11_reaches r0 σ 125 [(0, .ref (cw_a x 200)), (2, .int y18), (3, .int y19), (4, .int y20), (5, .int y21), (6, .int y22)] [.int y23, .int y24, .ref (cw_a x 225)] (m11_reaches_125 n f74 y18 y19 y20 y21 y22 y23 y24 σ) := by
  unfold m11_reaches_125
  refine j_zast (rV_s_225 x σ (y24.toNatClampNeg) (ej_bz y23)) d11_reaches_125 (fun s25 => ?_)
  refine j_iload_n 1 rfl d11_reaches_126 ?_
  refine j_if_ne d11_reaches_127 ?_ ?_
  · refine j_iconst d11_reaches_140 ejc_1 ?_
    refine j_goto d11_reaches_141 ?_
    refine j_istore_n (i := 2) (L' := [(2, .int 1), (0, .ref (cw_a x 200)), (3, .int y19), (4, .int y20), (5, .int y21), (6, .int y22)]) d11_reaches_145 rfl (Nat.le_of_ble_eq_true rfl) rfl ?_
    refine j_iinc (i := 6) (v := 1) (Ly := fun x26 => [(6, .int x26), (2, .int 1), (0, .ref (cw_a x 200)), (3, .int y19), (4, .int y20), (5, .int y21)]) 5 d11_reaches_146 rfl ejc_1 (Nat.le_of_ble_eq_true rfl) (fun _ => rfl) (fun x26 => ?_)
    refine j_goto d11_reaches_149 ?_
    exact j_sub [2, 1, 3, 4, 5, 0] rfl (H74 1 y19 y20 y21 x26 s25)
  · refine j_aload_n 0 rfl d11_reaches_130 ?_
    refine j_get fl_X11_84 (rV_g_200_42 x s25) d11_reaches_131 ?_
    refine j_iload 4 rfl d11_reaches_134 ?_
    refine j_zald (rV_a_225 x s25) d11_reaches_136 ?_
    refine j_if_eq d11_reaches_137 ?_ ?_
    · refine j_iconst d11_reaches_144 ejc_0 ?_
      refine j_istore_n (i := 2) (L' := [(2, .int 0), (0, .ref (cw_a x 200)), (3, .int y19), (4, .int y20), (5, .int y21), (6, .int y22)]) d11_reaches_145 rfl (Nat.le_of_ble_eq_true rfl) rfl ?_
      refine j_iinc (i := 6) (v := 1) (Ly := fun x27 => [(6, .int x27), (2, .int 0), (0, .ref (cw_a x 200)), (3, .int y19), (4, .int y20), (5, .int y21)]) 5 d11_reaches_146 rfl ejc_1 (Nat.le_of_ble_eq_true rfl) (fun _ => rfl) (fun x27 => ?_)
      refine j_goto d11_reaches_149 ?_
      exact j_sub [2, 1, 3, 4, 5, 0] rfl (H74 0 y19 y20 y21 x27 s25)
    · refine j_iconst d11_reaches_140 ejc_1 ?_
      refine j_goto d11_reaches_141 ?_
      refine j_istore_n (i := 2) (L' := [(2, .int 1), (0, .ref (cw_a x 200)), (3, .int y19), (4, .int y20), (5, .int y21), (6, .int y22)]) d11_reaches_145 rfl (Nat.le_of_ble_eq_true rfl) rfl ?_
      refine j_iinc (i := 6) (v := 1) (Ly := fun x28 => [(6, .int x28), (2, .int 1), (0, .ref (cw_a x 200)), (3, .int y19), (4, .int y20), (5, .int y21)]) 5 d11_reaches_146 rfl ejc_1 (Nat.le_of_ble_eq_true rfl) (fun _ => rfl) (fun x28 => ?_)
      refine j_goto d11_reaches_149 ?_
      exact j_sub [2, 1, 3, 4, 5, 0] rfl (H74 1 y19 y20 y21 x28 s25)
noncomputable def m11_reaches_74 (n : Nat) (f42 : Int32 → Int32 → ej_S → Option (ej_S)) (k : Nat) : Int32 → Int32 → Int32 → Int32 → Int32 → ej_S → Option (ej_S) := Nat.rec (motive := fun _ => Int32 → Int32 → Int32 → Int32 → Int32 → ej_S → Option (ej_S)) (fun _ _ _ _ _ _ => none) (fun _ ih y8 y9 y10 y11 y12 σ => (if 5 < y12 then ej_nm (y9 + 1) fun x13 => (f42 y8 x13 σ) else ej_ck y10 24 ((if gA σ 22 y10.toNatClampNeg = 0 then ej_nm (y9 + 1) fun x14 => (f42 y8 x14 σ) else ej_ck y11 24 ((if gA σ 22 y11.toNatClampNeg = 0 then ej_bi (m11_stepCost n y10 y11 y12 σ) fun r17 s16 => (if r17 = (-1) then (m11_reaches_125 n ih y8 y9 y10 y11 y12 0 y11 s16) else (m11_reaches_125 n ih y8 y9 y10 y11 y12 1 y11 s16)) else ej_nm (y9 + 1) fun x15 => (f42 y8 x15 σ))))))) k
theorem m11_reaches_74_s (n : Nat) (f42 : Int32 → Int32 → ej_S → Option (ej_S)) (k : Nat) (y8 : Int32) (y9 : Int32) (y10 : Int32) (y11 : Int32) (y12 : Int32) (σ : ej_S) : m11_reaches_74 n f42 (k + 1) y8 y9 y10 y11 y12 σ = ((if 5 < y12 then ej_nm (y9 + 1) fun x13 => (f42 y8 x13 σ) else ej_ck y10 24 ((if gA σ 22 y10.toNatClampNeg = 0 then ej_nm (y9 + 1) fun x14 => (f42 y8 x14 σ) else ej_ck y11 24 ((if gA σ 22 y11.toNatClampNeg = 0 then ej_bi (m11_stepCost n y10 y11 y12 σ) fun r17 s16 => (if r17 = (-1) then (m11_reaches_125 n (m11_reaches_74 n f42 k) y8 y9 y10 y11 y12 0 y11 s16) else (m11_reaches_125 n (m11_reaches_74 n f42 k) y8 y9 y10 y11 y12 1 y11 s16)) else ej_nm (y9 + 1) fun x15 => (f42 y8 x15 σ)))))) : Option (ej_S)) := rfl
set_option maxRecDepth 20000 in
set_option maxHeartbeats 2000000 in
theorem j11_reaches_74 (x : cw_T) (n : Nat) {F : ej_F} {r0 : ej_S} (hq : ej_fin (rV x) F none none r0) (f42 : Int32 → Int32 → ej_S → Option (ej_S)) (H42 : ∀ (y4 : Int32) (y5 : Int32) (σ : ej_S), ej_J (rV x) F i11_reaches r0 σ 42 [(0, .ref (cw_a x 200)), (2, .int y4), (3, .int y5)] [] (f42 y4 y5 σ)) : ∀ (k : Nat) (y8 : Int32) (y9 : Int32) (y10 : Int32) (y11 : Int32) (y12 : Int32) (σ : ej_S), ej_J (rV x) F i11_reaches r0 σ 74 [(0, .ref (cw_a x 200)), (2, .int y8), (3, .int y9), (4, .int y10), (5, .int y11), (6, .int y12)] [] (m11_reaches_74 n f42 k y8 y9 y10 y11 y12 σ) := by
  intro k
  induction k with
  | zero => intro y8 y9 y10 y11 y12 σ; exact j_none
  | succ k ih =>
    intro y8 y9 y10 y11 y12 σ
    rw [m11_reaches_74_s]
    refine j_iload 5 rfl d11_reaches_74 ?_
    refine j_iconst d11_reaches_76 ejc_5 ?_
    refine j_icmp_gt d11_reaches_77 ?_ ?_
    · refine j_iinc (i := 3) (v := 1) (Ly := fun x13 => [(3, .int x13), (0, .ref (cw_a x 200)), (2, .int y8), (4, .int y10), (5, .int y11), (6, .int y12)]) 2 d11_reaches_152 rfl ejc_1 (Nat.le_of_ble_eq_true rfl) (fun _ => rfl) (fun x13 => ?_)
      refine j_goto d11_reaches_155 ?_
      exact j_sub [1, 2, 0] rfl (H42 y8 x13 σ)
    · refine j_aload_n 0 rfl d11_reaches_80 ?_
      refine j_get fl_X11_84 (rV_g_200_42 x σ) d11_reaches_81 ?_
      refine j_iload 3 rfl d11_reaches_84 ?_
      refine j_zald (rV_a_225 x σ) d11_reaches_86 ?_
      refine j_if_eq d11_reaches_87 ?_ ?_
      · refine j_iinc (i := 3) (v := 1) (Ly := fun x14 => [(3, .int x14), (0, .ref (cw_a x 200)), (2, .int y8), (4, .int y10), (5, .int y11), (6, .int y12)]) 2 d11_reaches_152 rfl ejc_1 (Nat.le_of_ble_eq_true rfl) (fun _ => rfl) (fun x14 => ?_)
        refine j_goto d11_reaches_155 ?_
        exact j_sub [1, 2, 0] rfl (H42 y8 x14 σ)
      · refine j_aload_n 0 rfl d11_reaches_90 ?_
        refine j_get fl_X11_84 (rV_g_200_42 x σ) d11_reaches_91 ?_
        refine j_iload 4 rfl d11_reaches_94 ?_
        refine j_zald (rV_a_225 x σ) d11_reaches_96 ?_
        refine j_if_ne d11_reaches_97 ?_ ?_
        · refine j_iinc (i := 3) (v := 1) (Ly := fun x15 => [(3, .int x15), (0, .ref (cw_a x 200)), (2, .int y8), (4, .int y10), (5, .int y11), (6, .int y12)]) 2 d11_reaches_152 rfl ejc_1 (Nat.le_of_ble_eq_true rfl) (fun _ => rfl) (fun x15 => ?_)
          refine j_goto d11_reaches_155 ?_
          exact j_sub [1, 2, 0] rfl (H42 y8 x15 σ)
        · refine j_aload_n 0 rfl d11_reaches_100 ?_
          refine j_get fl_X11_84 (rV_g_200_42 x σ) d11_reaches_101 ?_
          refine j_iload 4 rfl d11_reaches_104 ?_
          refine j_aload_n 0 rfl d11_reaches_106 ?_
          refine j_iload 3 rfl d11_reaches_107 ?_
          refine j_iload 4 rfl d11_reaches_109 ?_
          refine j_iload 5 rfl d11_reaches_111 ?_
          refine j_callVi (c11_stepCost x n y10 y11 y12 σ) lv_X11_309 (rV_rc_200 x σ) ⟨Nat.le_of_ble_eq_true rfl, Nat.le_of_ble_eq_true rfl⟩ d11_reaches_113 rfl (Nat.le_of_ble_eq_true rfl) (fun r17 s16 => ?_)
          refine j_iconst d11_reaches_116 ejc_m1 ?_
          refine j_icmp_eq d11_reaches_117 ?_ ?_
          · refine j_iconst d11_reaches_124 ejc_0 ?_
            exact j_sub [0, 1, 2, 3, 4, 5] rfl (j11_reaches_125 x n hq (m11_reaches_74 n f42 k) ih y8 y9 y10 y11 y12 0 y11 s16)
          · refine j_iconst d11_reaches_120 ejc_1 ?_
            refine j_goto d11_reaches_121 ?_
            exact j_sub [0, 1, 2, 3, 4, 5] rfl (j11_reaches_125 x n hq (m11_reaches_74 n f42 k) ih y8 y9 y10 y11 y12 1 y11 s16)
noncomputable def m11_reaches_42 (n : Nat) (f34 : Int32 → ej_S → Option (ej_S)) (k : Nat) : Int32 → Int32 → ej_S → Option (ej_S) := Nat.rec (motive := fun _ => Int32 → Int32 → ej_S → Option (ej_S)) (fun _ _ _ => none) (fun _ ih y4 y5 σ => (if (gI σ 15) * (gI σ 15) ≤ y5 then (f34 y4 σ) else ej_dv (gI σ 15) (ej_nm (y5 / (gI σ 15)) fun x6 => ej_dv (gI σ 15) (ej_nm (y5 - y5 / (gI σ 15) * (gI σ 15)) fun x7 => (m11_reaches_74 n ih n y4 y5 x6 x7 1 σ))))) k
theorem m11_reaches_42_s (n : Nat) (f34 : Int32 → ej_S → Option (ej_S)) (k : Nat) (y4 : Int32) (y5 : Int32) (σ : ej_S) : m11_reaches_42 n f34 (k + 1) y4 y5 σ = ((if (gI σ 15) * (gI σ 15) ≤ y5 then (f34 y4 σ) else ej_dv (gI σ 15) (ej_nm (y5 / (gI σ 15)) fun x6 => ej_dv (gI σ 15) (ej_nm (y5 - y5 / (gI σ 15) * (gI σ 15)) fun x7 => (m11_reaches_74 n (m11_reaches_42 n f34 k) n y4 y5 x6 x7 1 σ)))) : Option (ej_S)) := rfl
set_option maxRecDepth 20000 in
set_option maxHeartbeats 2000000 in
theorem j11_reaches_42 (x : cw_T) (n : Nat) {F : ej_F} {r0 : ej_S} (hq : ej_fin (rV x) F none none r0) (f34 : Int32 → ej_S → Option (ej_S)) (H34 : ∀ (y3 : Int32) (σ : ej_S), ej_J (rV x) F i11_reaches r0 σ 34 [(0, .ref (cw_a x 200)), (2, .int y3)] [] (f34 y3 σ)) : ∀ (k : Nat) (y4 : Int32) (y5 : Int32) (σ : ej_S), ej_J (rV x) F i11_reaches r0 σ 42 [(0, .ref (cw_a x 200)), (2, .int y4), (3, .int y5)] [] (m11_reaches_42 n f34 k y4 y5 σ) := by
  intro k
  induction k with
  | zero => intro y4 y5 σ; exact j_none
  | succ k ih =>
    intro y4 y5 σ
    rw [m11_reaches_42_s]
    refine j_iload_n 2 rfl d11_reaches_42 ?_
    refine j_aload_n 0 rfl d11_reaches_43 ?_
    refine j_get fl_X11_272 (rV_g_200_28 x σ) d11_reaches_44 ?_
    refine j_aload_n 0 rfl d11_reaches_47 ?_
    refine j_get fl_X11_272 (rV_g_200_28 x σ) d11_reaches_48 ?_
    refine j_imul d11_reaches_51 ?_
    refine j_icmp_ge d11_reaches_52 ?_ ?_
    · refine j_goto d11_reaches_158 ?_
      exact j_sub [0, 1] rfl (H34 y4 σ)
    · refine j_iload_n 2 rfl d11_reaches_55 ?_
      refine j_aload_n 0 rfl d11_reaches_56 ?_
      refine j_get fl_X11_272 (rV_g_200_28 x σ) d11_reaches_57 ?_
      refine j_idiv d11_reaches_60 ?_
      refine j_nmi (fun x6 => ?_)
      refine j_istore (i := 4) (L' := [(4, .int x6), (0, .ref (cw_a x 200)), (2, .int y4), (3, .int y5)]) d11_reaches_61 (Nat.le_of_ble_eq_true rfl) rfl ?_
      refine j_iload_n 3 rfl d11_reaches_63 ?_
      refine j_aload_n 1 rfl d11_reaches_64 ?_
      refine j_get fl_X11_272 (rV_g_200_28 x σ) d11_reaches_65 ?_
      refine j_irem d11_reaches_68 ?_
      refine j_nmi (fun x7 => ?_)
      refine j_istore (i := 5) (L' := [(5, .int x7), (4, .int x6), (0, .ref (cw_a x 200)), (2, .int y4), (3, .int y5)]) d11_reaches_69 (Nat.le_of_ble_eq_true rfl) rfl ?_
      refine j_iconst d11_reaches_71 ejc_1 ?_
      refine j_istore (i := 6) (L' := [(6, .int 1), (5, .int x7), (4, .int x6), (0, .ref (cw_a x 200)), (2, .int y4), (3, .int y5)]) d11_reaches_72 (Nat.le_of_ble_eq_true rfl) rfl ?_
      exact j_sub [3, 4, 5, 2, 1, 0] rfl (j11_reaches_74 x n hq (m11_reaches_42 n f34 k) ih n y4 y5 x6 x7 1 σ)
noncomputable def m11_reaches_34 (n : Nat) (k : Nat) : Int32 → ej_S → Option (ej_S) := Nat.rec (motive := fun _ => Int32 → ej_S → Option (ej_S)) (fun _ _ => none) (fun _ ih y3 σ => (if y3 = 0 then (some σ) else (m11_reaches_42 n ih n 0 0 σ))) k
theorem m11_reaches_34_s (n : Nat) (k : Nat) (y3 : Int32) (σ : ej_S) : m11_reaches_34 n (k + 1) y3 σ = ((if y3 = 0 then (some σ) else (m11_reaches_42 n (m11_reaches_34 n k) n 0 0 σ)) : Option (ej_S)) := rfl
set_option maxRecDepth 20000 in
set_option maxHeartbeats 2000000 in
theorem j11_reaches_34 (x : cw_T) (n : Nat) {F : ej_F} {r0 : ej_S} (hq : ej_fin (rV x) F none none r0) : ∀ (k : Nat) (y3 : Int32) (σ : ej_S), ej_J (rV x) F i11_reaches r0 σ 34 [(0, .ref (cw_a x 200)), (2, .int y3)] [] (m11_reaches_34 n k y3 σ) := by
  intro k
  induction k with
  | zero => intro y3 σ; exact j_none
  | succ k ih =>
    intro y3 σ
    rw [m11_reaches_34_s]
    refine j_iload_n 1 rfl d11_reaches_34 ?_
    refine j_if_eq d11_reaches_35 ?_ ?_
    · exact j_vreturn hq d11_reaches_161
    · refine j_iconst d11_reaches_38 ejc_0 ?_
      refine j_istore_n (i := 2) (L' := [(2, .int 0), (0, .ref (cw_a x 200))]) d11_reaches_39 rfl (Nat.le_of_ble_eq_true rfl) rfl ?_
      refine j_iconst d11_reaches_40 ejc_0 ?_
      refine j_istore_n (i := 3) (L' := [(3, .int 0), (2, .int 0), (0, .ref (cw_a x 200))]) d11_reaches_41 rfl (Nat.le_of_ble_eq_true rfl) rfl ?_
      exact j_sub [2, 1, 0] rfl (j11_reaches_42 x n hq (m11_reaches_34 n k) ih n 0 0 σ)
noncomputable def m11_reaches_2 (n : Nat) (k : Nat) : Int32 → Int32 → ej_S → Option (ej_S) := Nat.rec (motive := fun _ => Int32 → Int32 → ej_S → Option (ej_S)) (fun _ _ _ => none) (fun _ ih y1 y2 σ => (if gI σ 15 ≤ y2 then (m11_reaches_34 n n 1 σ) else (if y2 = y1 then ej_ck y2 24 (ej_nm (uA σ 22 (y2.toNatClampNeg) (ej_bz 1)) fun s31 => ej_nm (y2 + 1) fun x32 => (ih y1 x32 s31)) else ej_ck y2 24 (ej_nm (uA σ 22 (y2.toNatClampNeg) (ej_bz 0)) fun s29 => ej_nm (y2 + 1) fun x30 => (ih y1 x30 s29))))) k
theorem m11_reaches_2_s (n : Nat) (k : Nat) (y1 : Int32) (y2 : Int32) (σ : ej_S) : m11_reaches_2 n (k + 1) y1 y2 σ = ((if gI σ 15 ≤ y2 then (m11_reaches_34 n n 1 σ) else (if y2 = y1 then ej_ck y2 24 (ej_nm (uA σ 22 (y2.toNatClampNeg) (ej_bz 1)) fun s31 => ej_nm (y2 + 1) fun x32 => ((m11_reaches_2 n k) y1 x32 s31)) else ej_ck y2 24 (ej_nm (uA σ 22 (y2.toNatClampNeg) (ej_bz 0)) fun s29 => ej_nm (y2 + 1) fun x30 => ((m11_reaches_2 n k) y1 x30 s29)))) : Option (ej_S)) := rfl
set_option maxRecDepth 20000 in
set_option maxHeartbeats 2000000 in
theorem j11_reaches_2 (x : cw_T) (n : Nat) {F : ej_F} {r0 : ej_S} (hq : ej_fin (rV x) F none none r0) : ∀ (k : Nat) (y1 : Int32) (y2 : Int32) (σ : ej_S), ej_J (rV x) F i11_reaches r0 σ 2 [(0, .ref (cw_a x 200)), (1, .int y1), (2, .int y2)] [] (m11_reaches_2 n k y1 y2 σ) := by
  intro k
  induction k with
  | zero => intro y1 y2 σ; exact j_none
  | succ k ih =>
    intro y1 y2 σ
    rw [m11_reaches_2_s]
    refine j_iload_n 2 rfl d11_reaches_2 ?_
    refine j_aload_n 0 rfl d11_reaches_3 ?_
    refine j_get fl_X11_272 (rV_g_200_28 x σ) d11_reaches_4 ?_
    refine j_icmp_ge d11_reaches_7 ?_ ?_
    · refine j_iconst d11_reaches_32 ejc_1 ?_
      refine j_istore_n (i := 2) (L' := [(2, .int 1), (0, .ref (cw_a x 200)), (1, .int y1)]) d11_reaches_33 rfl (Nat.le_of_ble_eq_true rfl) rfl ?_
      exact j_sub [1, 0] rfl (j11_reaches_34 x n hq n 1 σ)
    · refine j_aload_n 0 rfl d11_reaches_10 ?_
      refine j_get fl_X11_84 (rV_g_200_42 x σ) d11_reaches_11 ?_
      refine j_iload_n 2 rfl d11_reaches_14 ?_
      refine j_iload_n 2 rfl d11_reaches_15 ?_
      refine j_iload_n 1 rfl d11_reaches_16 ?_
      refine j_icmp_ne d11_reaches_17 ?_ ?_
      · refine j_iconst d11_reaches_24 ejc_0 ?_
        refine j_zast (rV_s_225 x σ (y2.toNatClampNeg) (ej_bz 0)) d11_reaches_25 (fun s29 => ?_)
        refine j_iinc (i := 2) (v := 1) (Ly := fun x30 => [(2, .int x30), (0, .ref (cw_a x 200)), (1, .int y1)]) 2 d11_reaches_26 rfl ejc_1 (Nat.le_of_ble_eq_true rfl) (fun _ => rfl) (fun x30 => ?_)
        refine j_goto d11_reaches_29 ?_
        exact j_sub [1, 2, 0] rfl (ih y1 x30 s29)
      · refine j_iconst d11_reaches_20 ejc_1 ?_
        refine j_goto d11_reaches_21 ?_
        refine j_zast (rV_s_225 x σ (y2.toNatClampNeg) (ej_bz 1)) d11_reaches_25 (fun s31 => ?_)
        refine j_iinc (i := 2) (v := 1) (Ly := fun x32 => [(2, .int x32), (0, .ref (cw_a x 200)), (1, .int y1)]) 2 d11_reaches_26 rfl ejc_1 (Nat.le_of_ble_eq_true rfl) (fun _ => rfl) (fun x32 => ?_)
        refine j_goto d11_reaches_29 ?_
        exact j_sub [1, 2, 0] rfl (ih y1 x32 s31)
noncomputable def m11_reaches (n : Nat) (a1 : Int32) (σ : ej_S) : Option (ej_S) := (m11_reaches_2 n n a1 0 σ)
set_option maxRecDepth 20000 in
set_option maxHeartbeats 2000000 in
theorem j11_reaches (x : cw_T) (n : Nat) (a1 : Int32) (σ : ej_S) {F : ej_F} {r0 : ej_S} (hq : ej_fin (rV x) F none none r0) : ej_J (rV x) F i11_reaches r0 σ 0 [(0, .ref (cw_a x 200)), (1, .int a1)] [] (m11_reaches n a1 σ) := by
  unfold m11_reaches
  refine j_iconst d11_reaches_0 ejc_0 ?_
  refine j_istore_n (i := 2) (L' := [(2, .int 0), (0, .ref (cw_a x 200)), (1, .int a1)]) d11_reaches_1 rfl (Nat.le_of_ble_eq_true rfl) rfl ?_
  exact j_sub [1, 2, 0] rfl (j11_reaches_2 x n hq n a1 0 σ)
theorem c11_reaches (x : cw_T) (n : Nat) (a1 : Int32) (σ : ej_S) : ∀ σ1, m11_reaches n a1 σ = some σ1 → ∀ l, ej_Con l (rV x) i11_reaches yX11_reaches none [.ref (cw_a x 200), .int a1] σ none σ1 := fun σ1 h l => ej_con_of (rV_ok x) pn_X11 rfl (Nat.le_of_ble_eq_true rfl) rfl h (fun F hq => j11_reaches x n a1 σ hq)

noncomputable def m11_givesBack_4 (n : Nat) (k : Nat) : Int32 → Int32 → ej_S → Option (Int32 × ej_S) := Nat.rec (motive := fun _ => Int32 → Int32 → ej_S → Option (Int32 × ej_S)) (fun _ _ _ => none) (fun _ ih y1 y2 σ => (if (gI σ 15) * (gI σ 15) ≤ y2 then (some (ej_bz y1, σ)) else ej_dv (gI σ 15) (ej_nm (y2 / (gI σ 15)) fun x3 => ej_dv (gI σ 15) (ej_nm (y2 - y2 / (gI σ 15) * (gI σ 15)) fun x4 => ej_ck x3 24 ((if gA σ 22 x3.toNatClampNeg = 0 then ej_ck x4 24 ((if gA σ 22 x4.toNatClampNeg = 0 then ej_nm (y2 + 1) fun x6 => (ih y1 x6 σ) else ej_ck ((24 * x3) + x4) 576 ((if gA σ 16 ((24 * x3) + x4).toNatClampNeg = (-1) then ej_nm (y2 + 1) fun x7 => (ih y1 x7 σ) else ej_ck ((24 * x4) + x3) 576 (ej_nm (uA σ 21 (((24 * x4) + x3).toNatClampNeg) (ej_bz 1)) fun s8 => ej_nm (y2 + 1) fun x9 => (ih 1 x9 s8)))))) else ej_nm (y2 + 1) fun x5 => (ih y1 x5 σ))))))) k
theorem m11_givesBack_4_s (n : Nat) (k : Nat) (y1 : Int32) (y2 : Int32) (σ : ej_S) : m11_givesBack_4 n (k + 1) y1 y2 σ = ((if (gI σ 15) * (gI σ 15) ≤ y2 then (some (ej_bz y1, σ)) else ej_dv (gI σ 15) (ej_nm (y2 / (gI σ 15)) fun x3 => ej_dv (gI σ 15) (ej_nm (y2 - y2 / (gI σ 15) * (gI σ 15)) fun x4 => ej_ck x3 24 ((if gA σ 22 x3.toNatClampNeg = 0 then ej_ck x4 24 ((if gA σ 22 x4.toNatClampNeg = 0 then ej_nm (y2 + 1) fun x6 => ((m11_givesBack_4 n k) y1 x6 σ) else ej_ck ((24 * x3) + x4) 576 ((if gA σ 16 ((24 * x3) + x4).toNatClampNeg = (-1) then ej_nm (y2 + 1) fun x7 => ((m11_givesBack_4 n k) y1 x7 σ) else ej_ck ((24 * x4) + x3) 576 (ej_nm (uA σ 21 (((24 * x4) + x3).toNatClampNeg) (ej_bz 1)) fun s8 => ej_nm (y2 + 1) fun x9 => ((m11_givesBack_4 n k) 1 x9 s8)))))) else ej_nm (y2 + 1) fun x5 => ((m11_givesBack_4 n k) y1 x5 σ)))))) : Option (Int32 × ej_S)) := rfl
set_option maxRecDepth 20000 in
set_option maxHeartbeats 2000000 in
theorem j11_givesBack_4 (x : cw_T) (n : Nat) {F : ej_F} {r0 : Int32 × ej_S} (hq : ej_fin (rV x) F (some .boolean) (some (.int r0.1)) r0.2) : ∀ (k : Nat) (y1 : Int32) (y2 : Int32) (σ : ej_S), ej_J (rV x) F i11_givesBack r0 σ 4 [(0, .ref (cw_a x 200)), (1, .int y1), (2, .int y2)] [] (m11_givesBack_4 n k y1 y2 σ) := by
  intro k
  induction k with
  | zero => intro y1 y2 σ; exact j_none
  | succ k ih =>
    intro y1 y2 σ
    rw [m11_givesBack_4_s]
    refine j_iload_n 2 rfl d11_givesBack_4 ?_
    refine j_aload_n 0 rfl d11_givesBack_5 ?_
    refine j_get fl_X11_272 (rV_g_200_28 x σ) d11_givesBack_6 ?_
    refine j_aload_n 0 rfl d11_givesBack_9 ?_
    refine j_get fl_X11_272 (rV_g_200_28 x σ) d11_givesBack_10 ?_
    refine j_imul d11_givesBack_13 ?_
    refine j_icmp_ge d11_givesBack_14 ?_ ?_
    · refine j_iload_n 1 rfl d11_givesBack_88 ?_
      exact j_zreturn hq d11_givesBack_89
    · refine j_iload_n 2 rfl d11_givesBack_17 ?_
      refine j_aload_n 0 rfl d11_givesBack_18 ?_
      refine j_get fl_X11_272 (rV_g_200_28 x σ) d11_givesBack_19 ?_
      refine j_idiv d11_givesBack_22 ?_
      refine j_nmi (fun x3 => ?_)
      refine j_istore_n (i := 3) (L' := [(3, .int x3), (0, .ref (cw_a x 200)), (1, .int y1), (2, .int y2)]) d11_givesBack_23 rfl (Nat.le_of_ble_eq_true rfl) rfl ?_
      refine j_iload_n 3 rfl d11_givesBack_24 ?_
      refine j_aload_n 1 rfl d11_givesBack_25 ?_
      refine j_get fl_X11_272 (rV_g_200_28 x σ) d11_givesBack_26 ?_
      refine j_irem d11_givesBack_29 ?_
      refine j_nmi (fun x4 => ?_)
      refine j_istore (i := 4) (L' := [(4, .int x4), (3, .int x3), (0, .ref (cw_a x 200)), (1, .int y1), (2, .int y2)]) d11_givesBack_30 (Nat.le_of_ble_eq_true rfl) rfl ?_
      refine j_aload_n 2 rfl d11_givesBack_32 ?_
      refine j_get fl_X11_84 (rV_g_200_42 x σ) d11_givesBack_33 ?_
      refine j_iload_n 1 rfl d11_givesBack_36 ?_
      refine j_zald (rV_a_225 x σ) d11_givesBack_37 ?_
      refine j_if_ne d11_givesBack_38 ?_ ?_
      · refine j_iinc (i := 2) (v := 1) (Ly := fun x5 => [(2, .int x5), (4, .int x4), (3, .int x3), (0, .ref (cw_a x 200)), (1, .int y1)]) 4 d11_givesBack_82 rfl ejc_1 (Nat.le_of_ble_eq_true rfl) (fun _ => rfl) (fun x5 => ?_)
        refine j_goto d11_givesBack_85 ?_
        exact j_sub [3, 4, 0] rfl (ih y1 x5 σ)
      · refine j_aload_n 2 rfl d11_givesBack_41 ?_
        refine j_get fl_X11_84 (rV_g_200_42 x σ) d11_givesBack_42 ?_
        refine j_iload 0 rfl d11_givesBack_45 ?_
        refine j_zald (rV_a_225 x σ) d11_givesBack_47 ?_
        refine j_if_eq d11_givesBack_48 ?_ ?_
        · refine j_iinc (i := 2) (v := 1) (Ly := fun x6 => [(2, .int x6), (4, .int x4), (3, .int x3), (0, .ref (cw_a x 200)), (1, .int y1)]) 4 d11_givesBack_82 rfl ejc_1 (Nat.le_of_ble_eq_true rfl) (fun _ => rfl) (fun x6 => ?_)
          refine j_goto d11_givesBack_85 ?_
          exact j_sub [3, 4, 0] rfl (ih y1 x6 σ)
        · refine j_aload_n 2 rfl d11_givesBack_51 ?_
          refine j_get fl_X11_66 (rV_g_200_36 x σ) d11_givesBack_52 ?_
          refine j_bipush d11_givesBack_55 ejb_24 ?_
          refine j_iload_n 1 rfl d11_givesBack_57 ?_
          refine j_imul d11_givesBack_58 ?_
          refine j_iload 0 rfl d11_givesBack_59 ?_
          refine j_iadd d11_givesBack_61 ?_
          refine j_iald (rV_a_219 x σ) d11_givesBack_62 ?_
          refine j_iconst d11_givesBack_63 ejc_m1 ?_
          refine j_icmp_eq d11_givesBack_64 ?_ ?_
          · refine j_iinc (i := 2) (v := 1) (Ly := fun x7 => [(2, .int x7), (4, .int x4), (3, .int x3), (0, .ref (cw_a x 200)), (1, .int y1)]) 4 d11_givesBack_82 rfl ejc_1 (Nat.le_of_ble_eq_true rfl) (fun _ => rfl) (fun x7 => ?_)
            refine j_goto d11_givesBack_85 ?_
            exact j_sub [3, 4, 0] rfl (ih y1 x7 σ)
          · refine j_aload_n 2 rfl d11_givesBack_67 ?_
            refine j_get fl_X11_81 (rV_g_200_41 x σ) d11_givesBack_68 ?_
            refine j_bipush d11_givesBack_71 ejb_24 ?_
            refine j_iload 0 rfl d11_givesBack_73 ?_
            refine j_imul d11_givesBack_75 ?_
            refine j_iload_n 1 rfl d11_givesBack_76 ?_
            refine j_iadd d11_givesBack_77 ?_
            refine j_iconst d11_givesBack_78 ejc_1 ?_
            refine j_zast (rV_s_224 x σ (((24 * x4) + x3).toNatClampNeg) (ej_bz 1)) d11_givesBack_79 (fun s8 => ?_)
            refine j_iconst d11_givesBack_80 ejc_1 ?_
            refine j_istore_n (i := 1) (L' := [(1, .int 1), (4, .int x4), (3, .int x3), (0, .ref (cw_a x 200)), (2, .int y2)]) d11_givesBack_81 rfl (Nat.le_of_ble_eq_true rfl) rfl ?_
            refine j_iinc (i := 2) (v := 1) (Ly := fun x9 => [(2, .int x9), (1, .int 1), (4, .int x4), (3, .int x3), (0, .ref (cw_a x 200))]) 4 d11_givesBack_82 rfl ejc_1 (Nat.le_of_ble_eq_true rfl) (fun _ => rfl) (fun x9 => ?_)
            refine j_goto d11_givesBack_85 ?_
            exact j_sub [4, 1, 0] rfl (ih 1 x9 s8)
noncomputable def m11_givesBack (n : Nat)  (σ : ej_S) : Option (Int32 × ej_S) := (m11_givesBack_4 n n 0 0 σ)
set_option maxRecDepth 20000 in
set_option maxHeartbeats 2000000 in
theorem j11_givesBack (x : cw_T) (n : Nat)  (σ : ej_S) {F : ej_F} {r0 : Int32 × ej_S} (hq : ej_fin (rV x) F (some .boolean) (some (.int r0.1)) r0.2) : ej_J (rV x) F i11_givesBack r0 σ 0 [(0, .ref (cw_a x 200))] [] (m11_givesBack n  σ) := by
  unfold m11_givesBack
  refine j_iconst d11_givesBack_0 ejc_0 ?_
  refine j_istore_n (i := 1) (L' := [(1, .int 0), (0, .ref (cw_a x 200))]) d11_givesBack_1 rfl (Nat.le_of_ble_eq_true rfl) rfl ?_
  refine j_iconst d11_givesBack_2 ejc_0 ?_
  refine j_istore_n (i := 2) (L' := [(2, .int 0), (1, .int 0), (0, .ref (cw_a x 200))]) d11_givesBack_3 rfl (Nat.le_of_ble_eq_true rfl) rfl ?_
  exact j_sub [2, 1, 0] rfl (j11_givesBack_4 x n hq n 0 0 σ)
theorem c11_givesBack (x : cw_T) (n : Nat)  (σ : ej_S) : ∀ r σ1, m11_givesBack n  σ = some (r, σ1) → ∀ l, ej_Con l (rV x) i11_givesBack yX11_givesBack (some .boolean) [.ref (cw_a x 200)] σ (some (.int r)) σ1 := fun r σ1 h l => ej_con_of (rV_ok x) pn_X11 rfl (Nat.le_of_ble_eq_true rfl) rfl h (fun F hq => j11_givesBack x n  σ hq)

noncomputable def m11_mark_38 (n : Nat) (y1 : Int32) (y2 : Int32) (σ : ej_S) : Option (Int32 × ej_S) := (if y1 = 1 then (some (0, σ)) else (if y1 = 3 then (some (0, σ)) else (if y2 = 0 then (some (1, σ)) else (some (2, σ)))))
set_option maxRecDepth 20000 in
set_option maxHeartbeats 2000000 in
theorem j11_mark_38 (x : cw_T) (n : Nat) {F : ej_F} {r0 : Int32 × ej_S} (hq : ej_fin (rV x) F (some .int) (some (.int r0.1)) r0.2) (y1 : Int32) (y2 : Int32) (σ : ej_S) : ej_J (rV x) F i11_mark r0 σ 38 [(3, .int y1)] [.int y2] (m11_mark_38 n y1 y2 σ) := by
  unfold m11_mark_38
  refine j_istore (i := 4) (L' := [(4, .int y2), (3, .int y1)]) d11_mark_38 (Nat.le_of_ble_eq_true rfl) rfl ?_
  refine j_iload_n 1 rfl d11_mark_40 ?_
  refine j_iconst d11_mark_41 ejc_1 ?_
  refine j_icmp_eq d11_mark_42 ?_ ?_
  · refine j_iconst d11_mark_50 ejc_0 ?_
    refine j_goto d11_mark_51 ?_
    exact j_ireturn hq d11_mark_64
  · refine j_iload_n 1 rfl d11_mark_45 ?_
    refine j_iconst d11_mark_46 ejc_3 ?_
    refine j_icmp_ne d11_mark_47 ?_ ?_
    · refine j_iload 0 rfl d11_mark_54 ?_
      refine j_if_eq d11_mark_56 ?_ ?_
      · refine j_iconst d11_mark_63 ejc_1 ?_
        exact j_ireturn hq d11_mark_64
      · refine j_iconst d11_mark_59 ejc_2 ?_
        refine j_goto d11_mark_60 ?_
        exact j_ireturn hq d11_mark_64
    · refine j_iconst d11_mark_50 ejc_0 ?_
      refine j_goto d11_mark_51 ?_
      exact j_ireturn hq d11_mark_64
noncomputable def m11_mark (n : Nat) (a1 : Int32) (a2 : Int32) (a3 : Int32) (σ : ej_S) : Option (Int32 × ej_S) := (if a3 = 2 then ej_ck ((24 * a1) + a2) 576 ((m11_mark_38 n a3 (gA σ 17 ((24 * a1) + a2).toNatClampNeg) σ)) else (if a3 = 4 then ej_ck a1 24 ((if gA σ 13 a1.toNatClampNeg = 0 then (m11_mark_38 n a3 1 σ) else (m11_mark_38 n a3 0 σ))) else (m11_mark_38 n a3 0 σ)))
set_option maxRecDepth 20000 in
set_option maxHeartbeats 2000000 in
theorem j11_mark (x : cw_T) (n : Nat) (a1 : Int32) (a2 : Int32) (a3 : Int32) (σ : ej_S) {F : ej_F} {r0 : Int32 × ej_S} (hq : ej_fin (rV x) F (some .int) (some (.int r0.1)) r0.2) : ej_J (rV x) F i11_mark r0 σ 0 [(0, .ref (cw_a x 200)), (1, .int a1), (2, .int a2), (3, .int a3)] [] (m11_mark n a1 a2 a3 σ) := by
  unfold m11_mark
  refine j_iload_n 3 rfl d11_mark_0 ?_
  refine j_iconst d11_mark_1 ejc_2 ?_
  refine j_icmp_ne d11_mark_2 ?_ ?_
  · refine j_iload_n 3 rfl d11_mark_19 ?_
    refine j_iconst d11_mark_20 ejc_4 ?_
    refine j_icmp_ne d11_mark_21 ?_ ?_
    · refine j_iconst d11_mark_37 ejc_0 ?_
      exact j_sub [3] rfl (j11_mark_38 x n hq a3 0 σ)
    · refine j_aload_n 0 rfl d11_mark_24 ?_
      refine j_get fl_X11_57 (rV_g_200_33 x σ) d11_mark_25 ?_
      refine j_iload_n 1 rfl d11_mark_28 ?_
      refine j_zald (rV_a_216 x σ) d11_mark_29 ?_
      refine j_if_ne d11_mark_30 ?_ ?_
      · refine j_iconst d11_mark_37 ejc_0 ?_
        exact j_sub [3] rfl (j11_mark_38 x n hq a3 0 σ)
      · refine j_iconst d11_mark_33 ejc_1 ?_
        refine j_goto d11_mark_34 ?_
        exact j_sub [3] rfl (j11_mark_38 x n hq a3 1 σ)
  · refine j_aload_n 0 rfl d11_mark_5 ?_
    refine j_get fl_X11_69 (rV_g_200_37 x σ) d11_mark_6 ?_
    refine j_bipush d11_mark_9 ejb_24 ?_
    refine j_iload_n 1 rfl d11_mark_11 ?_
    refine j_imul d11_mark_12 ?_
    refine j_iload_n 2 rfl d11_mark_13 ?_
    refine j_iadd d11_mark_14 ?_
    refine j_zald (rV_a_220 x σ) d11_mark_15 ?_
    refine j_goto d11_mark_16 ?_
    exact j_sub [3] rfl (j11_mark_38 x n hq a3 (gA σ 17 ((24 * a1) + a2).toNatClampNeg) σ)
theorem c11_mark (x : cw_T) (n : Nat) (a1 : Int32) (a2 : Int32) (a3 : Int32) (σ : ej_S) : ∀ r σ1, m11_mark n a1 a2 a3 σ = some (r, σ1) → ∀ l, ej_Con l (rV x) i11_mark yX11_mark (some .int) [.ref (cw_a x 200), .int a1, .int a2, .int a3] σ (some (.int r)) σ1 := fun r σ1 h l => ej_con_of (rV_ok x) pn_X11 rfl (Nat.le_of_ble_eq_true rfl) rfl h (fun F hq => j11_mark x n a1 a2 a3 σ hq)

noncomputable def m11_stateBehind_35 (n : Nat) (y7 : Int32) (y8 : Int32) (y9 : Int32) (y10 : Int32) (y11 : Int32) (σ : ej_S) : Option (Int32 × ej_S) := ej_bi (m11_mark n y7 y9 y10 σ) fun r13 s12 => (if r13 = 2 then (if y11 = 0 then (some ((y8 ||| 1) ||| 0, s12)) else (some ((y8 ||| 1) ||| 2, s12))) else (if y11 = 0 then (some ((y8 ||| 0) ||| 0, s12)) else (some ((y8 ||| 0) ||| 2, s12))))
set_option maxRecDepth 20000 in
set_option maxHeartbeats 2000000 in
theorem j11_stateBehind_35 (x : cw_T) (n : Nat) {F : ej_F} {r0 : Int32 × ej_S} (hq : ej_fin (rV x) F (some .int) (some (.int r0.1)) r0.2) (y7 : Int32) (y8 : Int32) (y9 : Int32) (y10 : Int32) (y11 : Int32) (σ : ej_S) : ej_J (rV x) F i11_stateBehind r0 σ 35 [(0, .ref (cw_a x 200)), (1, .int y7), (2, .int y8), (3, .int y9), (4, .int y10)] [.int y11] (m11_stateBehind_35 n y7 y8 y9 y10 y11 σ) := by
  unfold m11_stateBehind_35
  refine j_istore (i := 5) (L' := [(5, .int y11), (0, .ref (cw_a x 200)), (1, .int y7), (2, .int y8), (3, .int y9), (4, .int y10)]) d11_stateBehind_35 (Nat.le_of_ble_eq_true rfl) rfl ?_
  refine j_iload_n 3 rfl d11_stateBehind_37 ?_
  refine j_aload_n 1 rfl d11_stateBehind_38 ?_
  refine j_iload_n 2 rfl d11_stateBehind_39 ?_
  refine j_iload_n 4 rfl d11_stateBehind_40 ?_
  refine j_iload 5 rfl d11_stateBehind_41 ?_
  refine j_callVi (c11_mark x n y7 y9 y10 σ) lv_X11_304 (rV_rc_200 x σ) ⟨Nat.le_of_ble_eq_true rfl, Nat.le_of_ble_eq_true rfl⟩ d11_stateBehind_43 rfl (Nat.le_of_ble_eq_true rfl) (fun r13 s12 => ?_)
  refine j_iconst d11_stateBehind_46 ejc_2 ?_
  refine j_icmp_ne d11_stateBehind_47 ?_ ?_
  · refine j_iconst d11_stateBehind_54 ejc_0 ?_
    refine j_ior d11_stateBehind_55 ?_
    refine j_iload 0 rfl d11_stateBehind_56 ?_
    refine j_if_eq d11_stateBehind_58 ?_ ?_
    · refine j_iconst d11_stateBehind_65 ejc_0 ?_
      refine j_ior d11_stateBehind_66 ?_
      exact j_ireturn hq d11_stateBehind_67
    · refine j_iconst d11_stateBehind_61 ejc_2 ?_
      refine j_goto d11_stateBehind_62 ?_
      refine j_ior d11_stateBehind_66 ?_
      exact j_ireturn hq d11_stateBehind_67
  · refine j_iconst d11_stateBehind_50 ejc_1 ?_
    refine j_goto d11_stateBehind_51 ?_
    refine j_ior d11_stateBehind_55 ?_
    refine j_iload 0 rfl d11_stateBehind_56 ?_
    refine j_if_eq d11_stateBehind_58 ?_ ?_
    · refine j_iconst d11_stateBehind_65 ejc_0 ?_
      refine j_ior d11_stateBehind_66 ?_
      exact j_ireturn hq d11_stateBehind_67
    · refine j_iconst d11_stateBehind_61 ejc_2 ?_
      refine j_goto d11_stateBehind_62 ?_
      refine j_ior d11_stateBehind_66 ?_
      exact j_ireturn hq d11_stateBehind_67
noncomputable def m11_stateBehind_12 (n : Nat) (y1 : Int32) (y2 : Int32) (y3 : Int32) (y4 : Int32) (σ : ej_S) : Option (Int32 × ej_S) := ej_bi (m11_kindOf n y1 σ) fun r6 s5 => (if r6 = 2 then ej_bi (m11_kindOf n y3 s5) fun r15 s14 => (if r15 = 2 then (m11_stateBehind_35 n y1 y2 y3 y4 0 s14) else (m11_stateBehind_35 n y1 y2 y3 y4 1 s14)) else (m11_stateBehind_35 n y1 y2 y3 y4 0 s5))
set_option maxRecDepth 20000 in
set_option maxHeartbeats 2000000 in
theorem j11_stateBehind_12 (x : cw_T) (n : Nat) {F : ej_F} {r0 : Int32 × ej_S} (hq : ej_fin (rV x) F (some .int) (some (.int r0.1)) r0.2) (y1 : Int32) (y2 : Int32) (y3 : Int32) (y4 : Int32) (σ : ej_S) : ej_J (rV x) F i11_stateBehind r0 σ 12 [(0, .ref (cw_a x 200)), (1, .int y1), (2, .int y2), (3, .int y3), (4, .int y4)] [] (m11_stateBehind_12 n y1 y2 y3 y4 σ) := by
  unfold m11_stateBehind_12
  refine j_aload_n 0 rfl d11_stateBehind_12 ?_
  refine j_iload_n 1 rfl d11_stateBehind_13 ?_
  refine j_callVi (c11_kindOf x n y1 σ) lv_X11_299 (rV_rc_200 x σ) ⟨Nat.le_of_ble_eq_true rfl, Nat.le_of_ble_eq_true rfl⟩ d11_stateBehind_14 rfl (Nat.le_of_ble_eq_true rfl) (fun r6 s5 => ?_)
  refine j_iconst d11_stateBehind_17 ejc_2 ?_
  refine j_icmp_ne d11_stateBehind_18 ?_ ?_
  · refine j_iconst d11_stateBehind_34 ejc_0 ?_
    exact j_sub [0, 1, 2, 3, 4] rfl (j11_stateBehind_35 x n hq y1 y2 y3 y4 0 s5)
  · refine j_aload_n 0 rfl d11_stateBehind_21 ?_
    refine j_iload_n 3 rfl d11_stateBehind_22 ?_
    refine j_callVi (c11_kindOf x n y3 s5) lv_X11_299 (rV_rc_200 x s5) ⟨Nat.le_of_ble_eq_true rfl, Nat.le_of_ble_eq_true rfl⟩ d11_stateBehind_23 rfl (Nat.le_of_ble_eq_true rfl) (fun r15 s14 => ?_)
    refine j_iconst d11_stateBehind_26 ejc_2 ?_
    refine j_icmp_eq d11_stateBehind_27 ?_ ?_
    · refine j_iconst d11_stateBehind_34 ejc_0 ?_
      exact j_sub [0, 1, 2, 3, 4] rfl (j11_stateBehind_35 x n hq y1 y2 y3 y4 0 s14)
    · refine j_iconst d11_stateBehind_30 ejc_1 ?_
      refine j_goto d11_stateBehind_31 ?_
      exact j_sub [0, 1, 2, 3, 4] rfl (j11_stateBehind_35 x n hq y1 y2 y3 y4 1 s14)
noncomputable def m11_stateBehind (n : Nat) (a1 : Int32) (a2 : Int32) (a3 : Int32) (a4 : Int32) (σ : ej_S) : Option (Int32 × ej_S) := (if a4 = 2 then (m11_stateBehind_12 n a1 a2 a3 a4 σ) else (if a4 = 4 then (m11_stateBehind_12 n a1 a2 a3 a4 σ) else (m11_stateBehind_35 n a1 a2 a3 a4 0 σ)))
set_option maxRecDepth 20000 in
set_option maxHeartbeats 2000000 in
theorem j11_stateBehind (x : cw_T) (n : Nat) (a1 : Int32) (a2 : Int32) (a3 : Int32) (a4 : Int32) (σ : ej_S) {F : ej_F} {r0 : Int32 × ej_S} (hq : ej_fin (rV x) F (some .int) (some (.int r0.1)) r0.2) : ej_J (rV x) F i11_stateBehind r0 σ 0 [(0, .ref (cw_a x 200)), (1, .int a1), (2, .int a2), (3, .int a3), (4, .int a4)] [] (m11_stateBehind n a1 a2 a3 a4 σ) := by
  unfold m11_stateBehind
  refine j_iload 4 rfl d11_stateBehind_0 ?_
  refine j_iconst d11_stateBehind_2 ejc_2 ?_
  refine j_icmp_eq d11_stateBehind_3 ?_ ?_
  · exact j_sub [0, 1, 2, 3, 4] rfl (j11_stateBehind_12 x n hq a1 a2 a3 a4 σ)
  · refine j_iload 4 rfl d11_stateBehind_6 ?_
    refine j_iconst d11_stateBehind_8 ejc_4 ?_
    refine j_icmp_ne d11_stateBehind_9 ?_ ?_
    · refine j_iconst d11_stateBehind_34 ejc_0 ?_
      exact j_sub [0, 1, 2, 3, 4] rfl (j11_stateBehind_35 x n hq a1 a2 a3 a4 0 σ)
    · exact j_sub [0, 1, 2, 3, 4] rfl (j11_stateBehind_12 x n hq a1 a2 a3 a4 σ)
theorem c11_stateBehind (x : cw_T) (n : Nat) (a1 : Int32) (a2 : Int32) (a3 : Int32) (a4 : Int32) (σ : ej_S) : ∀ r σ1, m11_stateBehind n a1 a2 a3 a4 σ = some (r, σ1) → ∀ l, ej_Con l (rV x) i11_stateBehind yX11_stateBehind (some .int) [.ref (cw_a x 200), .int a1, .int a2, .int a3, .int a4] σ (some (.int r)) σ1 := fun r σ1 h l => ej_con_of (rV_ok x) pn_X11 rfl (Nat.le_of_ble_eq_true rfl) rfl h (fun F hq => j11_stateBehind x n a1 a2 a3 a4 σ hq)

noncomputable def m11_costIn_51 (n : Nat) (y6 : Int32) (y7 : Int32) (y8 : Int32) (y9 : Int32) (y10 : Int32) (y11 : Int32) (σ : ej_S) : Option (Int32 × ej_S) := ej_bi (m11_stepCost n y6 y8 y9 σ) fun r13 s12 => (if y7 ≤ 1 then (some ((r13 + y11) + 0, s12)) else (if y10 = 0 then (some ((r13 + y11) + 0, s12)) else (some ((r13 + y11) + 60000, s12))))
set_option maxRecDepth 20000 in
set_option maxHeartbeats 2000000 in
theorem j11_costIn_51 (x : cw_T) (n : Nat) {F : ej_F} {r0 : Int32 × ej_S} (hq : ej_fin (rV x) F (some .int) (some (.int r0.1)) r0.2) (y6 : Int32) (y7 : Int32) (y8 : Int32) (y9 : Int32) (y10 : Int32) (y11 : Int32) (σ : ej_S) : ej_J (rV x) F i11_costIn r0 σ 51 [(0, .ref (cw_a x 200)), (1, .int y6), (2, .int y7), (3, .int y8), (4, .int y9), (5, .int y10)] [.int y11] (m11_costIn_51 n y6 y7 y8 y9 y10 y11 σ) := by
  unfold m11_costIn_51
  refine j_istore (i := 6) (L' := [(6, .int y11), (0, .ref (cw_a x 200)), (1, .int y6), (2, .int y7), (3, .int y8), (4, .int y9), (5, .int y10)]) d11_costIn_51 (Nat.le_of_ble_eq_true rfl) rfl ?_
  refine j_aload_n 1 rfl d11_costIn_53 ?_
  refine j_iload_n 2 rfl d11_costIn_54 ?_
  refine j_iload_n 4 rfl d11_costIn_55 ?_
  refine j_iload 5 rfl d11_costIn_56 ?_
  refine j_callVi (c11_stepCost x n y6 y8 y9 σ) lv_X11_309 (rV_rc_200 x σ) ⟨Nat.le_of_ble_eq_true rfl, Nat.le_of_ble_eq_true rfl⟩ d11_costIn_58 rfl (Nat.le_of_ble_eq_true rfl) (fun r13 s12 => ?_)
  refine j_iload 0 rfl d11_costIn_61 ?_
  refine j_iadd d11_costIn_63 ?_
  refine j_iload_n 3 rfl d11_costIn_64 ?_
  refine j_iconst d11_costIn_65 ejc_1 ?_
  refine j_icmp_le d11_costIn_66 ?_ ?_
  · refine j_iconst d11_costIn_80 ejc_0 ?_
    refine j_iadd d11_costIn_81 ?_
    exact j_ireturn hq d11_costIn_82
  · refine j_iload 6 rfl d11_costIn_69 ?_
    refine j_if_eq d11_costIn_71 ?_ ?_
    · refine j_iconst d11_costIn_80 ejc_0 ?_
      refine j_iadd d11_costIn_81 ?_
      exact j_ireturn hq d11_costIn_82
    · refine j_ldcw d11_costIn_74 ki_X11_312 ?_
      refine j_goto d11_costIn_77 ?_
      refine j_iadd d11_costIn_81 ?_
      exact j_ireturn hq d11_costIn_82
noncomputable def m11_costIn_23 (n : Nat) (y1 : Int32) (y2 : Int32) (y3 : Int32) (y4 : Int32) (y5 : Int32) (σ : ej_S) : Option (Int32 × ej_S) := (if y2 &&& 1 = 1 then ej_bi (m11_mark n y1 y3 y4 σ) fun r15 s14 => (if r15 = 1 then (m11_costIn_51 n y1 y2 y3 y4 y5 50000 s14) else (m11_costIn_51 n y1 y2 y3 y4 y5 0 s14)) else (m11_costIn_51 n y1 y2 y3 y4 y5 0 σ))
set_option maxRecDepth 20000 in
set_option maxHeartbeats 2000000 in
theorem j11_costIn_23 (x : cw_T) (n : Nat) {F : ej_F} {r0 : Int32 × ej_S} (hq : ej_fin (rV x) F (some .int) (some (.int r0.1)) r0.2) (y1 : Int32) (y2 : Int32) (y3 : Int32) (y4 : Int32) (y5 : Int32) (σ : ej_S) : ej_J (rV x) F i11_costIn r0 σ 23 [(0, .ref (cw_a x 200)), (1, .int y1), (2, .int y2), (3, .int y3), (4, .int y4)] [.int y5] (m11_costIn_23 n y1 y2 y3 y4 y5 σ) := by
  unfold m11_costIn_23
  refine j_istore (i := 5) (L' := [(5, .int y5), (0, .ref (cw_a x 200)), (1, .int y1), (2, .int y2), (3, .int y3), (4, .int y4)]) d11_costIn_23 (Nat.le_of_ble_eq_true rfl) rfl ?_
  refine j_iload_n 3 rfl d11_costIn_25 ?_
  refine j_iconst d11_costIn_26 ejc_1 ?_
  refine j_iand d11_costIn_27 ?_
  refine j_iconst d11_costIn_28 ejc_1 ?_
  refine j_icmp_ne d11_costIn_29 ?_ ?_
  · refine j_iconst d11_costIn_50 ejc_0 ?_
    exact j_sub [1, 2, 3, 4, 5, 0] rfl (j11_costIn_51 x n hq y1 y2 y3 y4 y5 0 σ)
  · refine j_aload_n 1 rfl d11_costIn_32 ?_
    refine j_iload_n 2 rfl d11_costIn_33 ?_
    refine j_iload_n 4 rfl d11_costIn_34 ?_
    refine j_iload 5 rfl d11_costIn_35 ?_
    refine j_callVi (c11_mark x n y1 y3 y4 σ) lv_X11_304 (rV_rc_200 x σ) ⟨Nat.le_of_ble_eq_true rfl, Nat.le_of_ble_eq_true rfl⟩ d11_costIn_37 rfl (Nat.le_of_ble_eq_true rfl) (fun r15 s14 => ?_)
    refine j_iconst d11_costIn_40 ejc_1 ?_
    refine j_icmp_ne d11_costIn_41 ?_ ?_
    · refine j_iconst d11_costIn_50 ejc_0 ?_
      exact j_sub [1, 2, 3, 4, 5, 0] rfl (j11_costIn_51 x n hq y1 y2 y3 y4 y5 0 s14)
    · refine j_ldcw d11_costIn_44 ki_X11_308 ?_
      refine j_goto d11_costIn_47 ?_
      exact j_sub [1, 2, 3, 4, 5, 0] rfl (j11_costIn_51 x n hq y1 y2 y3 y4 y5 50000 s14)
noncomputable def m11_costIn (n : Nat) (a1 : Int32) (a2 : Int32) (a3 : Int32) (a4 : Int32) (σ : ej_S) : Option (Int32 × ej_S) := (if a4 = 2 then (m11_costIn_23 n a1 a2 a3 a4 1 σ) else (if a4 = 5 then (m11_costIn_23 n a1 a2 a3 a4 1 σ) else (if a4 = 3 then (m11_costIn_23 n a1 a2 a3 a4 1 σ) else (m11_costIn_23 n a1 a2 a3 a4 0 σ))))
set_option maxRecDepth 20000 in
set_option maxHeartbeats 2000000 in
theorem j11_costIn (x : cw_T) (n : Nat) (a1 : Int32) (a2 : Int32) (a3 : Int32) (a4 : Int32) (σ : ej_S) {F : ej_F} {r0 : Int32 × ej_S} (hq : ej_fin (rV x) F (some .int) (some (.int r0.1)) r0.2) : ej_J (rV x) F i11_costIn r0 σ 0 [(0, .ref (cw_a x 200)), (1, .int a1), (2, .int a2), (3, .int a3), (4, .int a4)] [] (m11_costIn n a1 a2 a3 a4 σ) := by
  unfold m11_costIn
  refine j_iload 4 rfl d11_costIn_0 ?_
  refine j_iconst d11_costIn_2 ejc_2 ?_
  refine j_icmp_eq d11_costIn_3 ?_ ?_
  · refine j_iconst d11_costIn_18 ejc_1 ?_
    refine j_goto d11_costIn_19 ?_
    exact j_sub [0, 1, 2, 3, 4] rfl (j11_costIn_23 x n hq a1 a2 a3 a4 1 σ)
  · refine j_iload 4 rfl d11_costIn_6 ?_
    refine j_iconst d11_costIn_8 ejc_5 ?_
    refine j_icmp_eq d11_costIn_9 ?_ ?_
    · refine j_iconst d11_costIn_18 ejc_1 ?_
      refine j_goto d11_costIn_19 ?_
      exact j_sub [0, 1, 2, 3, 4] rfl (j11_costIn_23 x n hq a1 a2 a3 a4 1 σ)
    · refine j_iload 4 rfl d11_costIn_12 ?_
      refine j_iconst d11_costIn_14 ejc_3 ?_
      refine j_icmp_ne d11_costIn_15 ?_ ?_
      · refine j_iconst d11_costIn_22 ejc_0 ?_
        exact j_sub [0, 1, 2, 3, 4] rfl (j11_costIn_23 x n hq a1 a2 a3 a4 0 σ)
      · refine j_iconst d11_costIn_18 ejc_1 ?_
        refine j_goto d11_costIn_19 ?_
        exact j_sub [0, 1, 2, 3, 4] rfl (j11_costIn_23 x n hq a1 a2 a3 a4 1 σ)
theorem c11_costIn (x : cw_T) (n : Nat) (a1 : Int32) (a2 : Int32) (a3 : Int32) (a4 : Int32) (σ : ej_S) : ∀ r σ1, m11_costIn n a1 a2 a3 a4 σ = some (r, σ1) → ∀ l, ej_Con l (rV x) i11_costIn yX11_costIn (some .int) [.ref (cw_a x 200), .int a1, .int a2, .int a3, .int a4] σ (some (.int r)) σ1 := fun r σ1 h l => ej_con_of (rV_ok x) pn_X11 rfl (Nat.le_of_ble_eq_true rfl) rfl h (fun F hq => j11_costIn x n a1 a2 a3 a4 σ hq)

noncomputable def m11_isBetter_127 (n : Nat) (y11 : Int32) (y12 : Int32) (y13 : Int32) (y14 : Int32) (σ : ej_S) : Option (Int32 × ej_S) := (if y14 = 0 then (some (ej_bz y14, σ)) else ej_ck y12 96 (ej_nm (uA σ 23 (y12.toNatClampNeg) y13) fun s15 => ej_ck y11 96 (ej_ck y12 96 (ej_nm (uA s15 24 (y12.toNatClampNeg) ((gA s15 24 y11.toNatClampNeg) + 1)) fun s16 => (some (ej_bz y14, s16))))))
set_option maxRecDepth 20000 in
set_option maxHeartbeats 2000000 in
theorem j11_isBetter_127 (x : cw_T) (n : Nat) {F : ej_F} {r0 : Int32 × ej_S} (hq : ej_fin (rV x) F (some .boolean) (some (.int r0.1)) r0.2) (y11 : Int32) (y12 : Int32) (y13 : Int32) (y14 : Int32) (σ : ej_S) : ej_J (rV x) F i11_isBetter r0 σ 127 [(0, .ref (cw_a x 200)), (1, .int y11), (6, .int y12), (7, .int y13)] [.int y14] (m11_isBetter_127 n y11 y12 y13 y14 σ) := by
  unfold m11_isBetter_127
  refine j_istore (i := 8) (L' := [(8, .int y14), (0, .ref (cw_a x 200)), (1, .int y11), (6, .int y12), (7, .int y13)]) d11_isBetter_127 (Nat.le_of_ble_eq_true rfl) rfl ?_
  refine j_iload 0 rfl d11_isBetter_129 ?_
  refine j_if_eq d11_isBetter_131 ?_ ?_
  · refine j_iload 0 rfl d11_isBetter_158 ?_
    exact j_zreturn hq d11_isBetter_160
  · refine j_aload_n 1 rfl d11_isBetter_134 ?_
    refine j_get fl_X11_87 (rV_g_200_44 x σ) d11_isBetter_135 ?_
    refine j_iload 3 rfl d11_isBetter_138 ?_
    refine j_iload 4 rfl d11_isBetter_140 ?_
    refine j_iast (rV_s_226 x σ (y12.toNatClampNeg) y13) d11_isBetter_142 (fun s15 => ?_)
    refine j_aload_n 1 rfl d11_isBetter_143 ?_
    refine j_get fl_X11_90 (rV_g_200_45 x s15) d11_isBetter_144 ?_
    refine j_iload 3 rfl d11_isBetter_147 ?_
    refine j_aload_n 1 rfl d11_isBetter_149 ?_
    refine j_get fl_X11_90 (rV_g_200_45 x s15) d11_isBetter_150 ?_
    refine j_iload_n 2 rfl d11_isBetter_153 ?_
    refine j_iald (rV_a_227 x s15) d11_isBetter_154 ?_
    refine j_iconst d11_isBetter_155 ejc_1 ?_
    refine j_iadd d11_isBetter_156 ?_
    refine j_iast (rV_s_227 x s15 (y12.toNatClampNeg) ((gA s15 24 y11.toNatClampNeg) + 1)) d11_isBetter_157 (fun s16 => ?_)
    refine j_iload 0 rfl d11_isBetter_158 ?_
    exact j_zreturn hq d11_isBetter_160
noncomputable def m11_isBetter (n : Nat) (a1 : Int32) (a2 : Int32) (a3 : Int32) (σ : ej_S) : Option (Int32 × ej_S) := ej_nm (a1 / 4) fun x1 => ej_nm (a1 - a1 / 4 * 4) fun x2 => ej_ck a1 96 ((if gA σ 23 a1.toNatClampNeg = (-1) then (some (0, σ)) else ej_bi (m11_stepCost n x1 a2 a3 σ) fun r4 s3 => (if r4 = (-1) then (some (0, s3)) else ej_bi (m11_stateBehind n x1 x2 a2 a3 s3) fun r6 s5 => ej_nm ((4 * a2) + r6) fun x7 => ej_ck a1 96 (ej_bi (m11_costIn n x1 x2 a2 a3 s5) fun r9 s8 => ej_nm ((gA s5 23 a1.toNatClampNeg) + r9) fun x10 => ej_ck x7 96 ((if gA s8 23 x7.toNatClampNeg = (-1) then (m11_isBetter_127 n a1 x7 x10 1 s8) else ej_ck x7 96 ((if x10 < gA s8 23 x7.toNatClampNeg then (m11_isBetter_127 n a1 x7 x10 1 s8) else ej_ck x7 96 ((if x10 = gA s8 23 x7.toNatClampNeg then ej_ck a1 96 (ej_ck x7 96 ((if gA s8 24 x7.toNatClampNeg ≤ (gA s8 24 a1.toNatClampNeg) + 1 then (m11_isBetter_127 n a1 x7 x10 0 s8) else (m11_isBetter_127 n a1 x7 x10 1 s8)))) else (m11_isBetter_127 n a1 x7 x10 0 s8)))))))))))
set_option maxRecDepth 20000 in
set_option maxHeartbeats 2000000 in
theorem j11_isBetter (x : cw_T) (n : Nat) (a1 : Int32) (a2 : Int32) (a3 : Int32) (σ : ej_S) {F : ej_F} {r0 : Int32 × ej_S} (hq : ej_fin (rV x) F (some .boolean) (some (.int r0.1)) r0.2) : ej_J (rV x) F i11_isBetter r0 σ 0 [(0, .ref (cw_a x 200)), (1, .int a1), (2, .int a2), (3, .int a3)] [] (m11_isBetter n a1 a2 a3 σ) := by
  unfold m11_isBetter
  refine j_iload_n 1 rfl d11_isBetter_0 ?_
  refine j_iconst d11_isBetter_1 ejc_4 ?_
  refine j_idiv0 (by decide) d11_isBetter_2 ?_
  refine j_nmi (fun x1 => ?_)
  refine j_istore (i := 4) (L' := [(4, .int x1), (0, .ref (cw_a x 200)), (1, .int a1), (2, .int a2), (3, .int a3)]) d11_isBetter_3 (Nat.le_of_ble_eq_true rfl) rfl ?_
  refine j_iload_n 2 rfl d11_isBetter_5 ?_
  refine j_iconst d11_isBetter_6 ejc_4 ?_
  refine j_irem0 (by decide) d11_isBetter_7 ?_
  refine j_nmi (fun x2 => ?_)
  refine j_istore (i := 5) (L' := [(5, .int x2), (4, .int x1), (0, .ref (cw_a x 200)), (1, .int a1), (2, .int a2), (3, .int a3)]) d11_isBetter_8 (Nat.le_of_ble_eq_true rfl) rfl ?_
  refine j_aload_n 2 rfl d11_isBetter_10 ?_
  refine j_get fl_X11_87 (rV_g_200_44 x σ) d11_isBetter_11 ?_
  refine j_iload_n 3 rfl d11_isBetter_14 ?_
  refine j_iald (rV_a_226 x σ) d11_isBetter_15 ?_
  refine j_iconst d11_isBetter_16 ejc_m1 ?_
  refine j_icmp_eq d11_isBetter_17 ?_ ?_
  · refine j_iconst d11_isBetter_32 ejc_0 ?_
    exact j_zreturn0 hq d11_isBetter_33
  · refine j_aload_n 2 rfl d11_isBetter_20 ?_
    refine j_iload 1 rfl d11_isBetter_21 ?_
    refine j_iload_n 4 rfl d11_isBetter_23 ?_
    refine j_iload_n 5 rfl d11_isBetter_24 ?_
    refine j_callVi (c11_stepCost x n x1 a2 a3 σ) lv_X11_309 (rV_rc_200 x σ) ⟨Nat.le_of_ble_eq_true rfl, Nat.le_of_ble_eq_true rfl⟩ d11_isBetter_25 rfl (Nat.le_of_ble_eq_true rfl) (fun r4 s3 => ?_)
    refine j_iconst d11_isBetter_28 ejc_m1 ?_
    refine j_icmp_ne d11_isBetter_29 ?_ ?_
    · refine j_iconst d11_isBetter_34 ejc_4 ?_
      refine j_iload_n 4 rfl d11_isBetter_35 ?_
      refine j_imul d11_isBetter_36 ?_
      refine j_aload_n 2 rfl d11_isBetter_37 ?_
      refine j_iload 1 rfl d11_isBetter_38 ?_
      refine j_iload 0 rfl d11_isBetter_40 ?_
      refine j_iload_n 4 rfl d11_isBetter_42 ?_
      refine j_iload_n 5 rfl d11_isBetter_43 ?_
      refine j_callVi (c11_stateBehind x n x1 x2 a2 a3 s3) lv_X11_313 (rV_rc_200 x s3) ⟨Nat.le_of_ble_eq_true rfl, Nat.le_of_ble_eq_true rfl⟩ d11_isBetter_44 rfl (Nat.le_of_ble_eq_true rfl) (fun r6 s5 => ?_)
      refine j_iadd d11_isBetter_47 ?_
      refine j_nmi (fun x7 => ?_)
      refine j_istore (i := 6) (L' := [(6, .int x7), (5, .int x2), (4, .int x1), (0, .ref (cw_a x 200)), (1, .int a1), (2, .int a2), (3, .int a3)]) d11_isBetter_48 (Nat.le_of_ble_eq_true rfl) rfl ?_
      refine j_aload_n 3 rfl d11_isBetter_50 ?_
      refine j_get fl_X11_87 (rV_g_200_44 x s5) d11_isBetter_51 ?_
      refine j_iload_n 4 rfl d11_isBetter_54 ?_
      refine j_iald (rV_a_226 x s5) d11_isBetter_55 ?_
      refine j_aload_n 3 rfl d11_isBetter_56 ?_
      refine j_iload 2 rfl d11_isBetter_57 ?_
      refine j_iload 1 rfl d11_isBetter_59 ?_
      refine j_iload_n 5 rfl d11_isBetter_61 ?_
      refine j_iload_n 6 rfl d11_isBetter_62 ?_
      refine j_callVi (c11_costIn x n x1 x2 a2 a3 s5) lv_X11_317 (rV_rc_200 x s5) ⟨Nat.le_of_ble_eq_true rfl, Nat.le_of_ble_eq_true rfl⟩ d11_isBetter_63 rfl (Nat.le_of_ble_eq_true rfl) (fun r9 s8 => ?_)
      refine j_iadd d11_isBetter_66 ?_
      refine j_nmi (fun x10 => ?_)
      refine j_istore (i := 7) (L' := [(7, .int x10), (6, .int x7), (5, .int x2), (4, .int x1), (0, .ref (cw_a x 200)), (1, .int a1), (2, .int a2), (3, .int a3)]) d11_isBetter_67 (Nat.le_of_ble_eq_true rfl) rfl ?_
      refine j_aload_n 4 rfl d11_isBetter_69 ?_
      refine j_get fl_X11_87 (rV_g_200_44 x s8) d11_isBetter_70 ?_
      refine j_iload 1 rfl d11_isBetter_73 ?_
      refine j_iald (rV_a_226 x s8) d11_isBetter_75 ?_
      refine j_iconst d11_isBetter_76 ejc_m1 ?_
      refine j_icmp_eq d11_isBetter_77 ?_ ?_
      · refine j_iconst d11_isBetter_122 ejc_1 ?_
        refine j_goto d11_isBetter_123 ?_
        exact j_sub [4, 5, 1, 0] rfl (j11_isBetter_127 x n hq a1 x7 x10 1 s8)
      · refine j_iload 0 rfl d11_isBetter_80 ?_
        refine j_aload_n 4 rfl d11_isBetter_82 ?_
        refine j_get fl_X11_87 (rV_g_200_44 x s8) d11_isBetter_83 ?_
        refine j_iload 1 rfl d11_isBetter_86 ?_
        refine j_iald (rV_a_226 x s8) d11_isBetter_88 ?_
        refine j_icmp_lt d11_isBetter_89 ?_ ?_
        · refine j_iconst d11_isBetter_122 ejc_1 ?_
          refine j_goto d11_isBetter_123 ?_
          exact j_sub [4, 5, 1, 0] rfl (j11_isBetter_127 x n hq a1 x7 x10 1 s8)
        · refine j_iload 0 rfl d11_isBetter_92 ?_
          refine j_aload_n 4 rfl d11_isBetter_94 ?_
          refine j_get fl_X11_87 (rV_g_200_44 x s8) d11_isBetter_95 ?_
          refine j_iload 1 rfl d11_isBetter_98 ?_
          refine j_iald (rV_a_226 x s8) d11_isBetter_100 ?_
          refine j_icmp_ne d11_isBetter_101 ?_ ?_
          · refine j_iconst d11_isBetter_126 ejc_0 ?_
            exact j_sub [4, 5, 1, 0] rfl (j11_isBetter_127 x n hq a1 x7 x10 0 s8)
          · refine j_aload_n 4 rfl d11_isBetter_104 ?_
            refine j_get fl_X11_90 (rV_g_200_45 x s8) d11_isBetter_105 ?_
            refine j_iload_n 5 rfl d11_isBetter_108 ?_
            refine j_iald (rV_a_227 x s8) d11_isBetter_109 ?_
            refine j_iconst d11_isBetter_110 ejc_1 ?_
            refine j_iadd d11_isBetter_111 ?_
            refine j_aload_n 4 rfl d11_isBetter_112 ?_
            refine j_get fl_X11_90 (rV_g_200_45 x s8) d11_isBetter_113 ?_
            refine j_iload 1 rfl d11_isBetter_116 ?_
            refine j_iald (rV_a_227 x s8) d11_isBetter_118 ?_
            refine j_icmp_ge d11_isBetter_119 ?_ ?_
            · refine j_iconst d11_isBetter_126 ejc_0 ?_
              exact j_sub [4, 5, 1, 0] rfl (j11_isBetter_127 x n hq a1 x7 x10 0 s8)
            · refine j_iconst d11_isBetter_122 ejc_1 ?_
              refine j_goto d11_isBetter_123 ?_
              exact j_sub [4, 5, 1, 0] rfl (j11_isBetter_127 x n hq a1 x7 x10 1 s8)
    · refine j_iconst d11_isBetter_32 ejc_0 ?_
      exact j_zreturn0 hq d11_isBetter_33
theorem c11_isBetter (x : cw_T) (n : Nat) (a1 : Int32) (a2 : Int32) (a3 : Int32) (σ : ej_S) : ∀ r σ1, m11_isBetter n a1 a2 a3 σ = some (r, σ1) → ∀ l, ej_Con l (rV x) i11_isBetter yX11_isBetter (some .boolean) [.ref (cw_a x 200), .int a1, .int a2, .int a3] σ (some (.int r)) σ1 := fun r σ1 h l => ej_con_of (rV_ok x) pn_X11 rfl (Nat.le_of_ble_eq_true rfl) rfl h (fun F hq => j11_isBetter x n a1 a2 a3 σ hq)

noncomputable def m11_comes_69 (n : Nat) (y8 : Int32) (y9 : Int32) (y10 : Int32) (y11 : Int32) (y12 : Int32) (y13 : Int32) (y14 : Int32) (σ : ej_S) : Option (Int32 × ej_S) := (if y14 = 0 then (some (0, σ)) else ej_ck y8 96 (ej_bi (m11_costIn n y11 y12 y13 y10 σ) fun r16 s15 => ej_ck y9 96 ((if (gA σ 23 y8.toNatClampNeg) + r16 = gA s15 23 y9.toNatClampNeg then ej_ck y8 96 (ej_ck y9 96 ((if (gA s15 24 y8.toNatClampNeg) + 1 = gA s15 24 y9.toNatClampNeg then (some (1, s15)) else (some (0, s15))))) else (some (0, s15))))))
set_option maxRecDepth 20000 in
set_option maxHeartbeats 2000000 in
theorem j11_comes_69 (x : cw_T) (n : Nat) {F : ej_F} {r0 : Int32 × ej_S} (hq : ej_fin (rV x) F (some .boolean) (some (.int r0.1)) r0.2) (y8 : Int32) (y9 : Int32) (y10 : Int32) (y11 : Int32) (y12 : Int32) (y13 : Int32) (y14 : Int32) (σ : ej_S) : ej_J (rV x) F i11_comes r0 σ 69 [(0, .ref (cw_a x 200)), (1, .int y8), (2, .int y9), (3, .int y10), (4, .int y11), (5, .int y12), (6, .int y13)] [.int y14] (m11_comes_69 n y8 y9 y10 y11 y12 y13 y14 σ) := by
  unfold m11_comes_69
  refine j_istore (i := 7) (L' := [(7, .int y14), (0, .ref (cw_a x 200)), (1, .int y8), (2, .int y9), (3, .int y10), (4, .int y11), (5, .int y12), (6, .int y13)]) d11_comes_69 (Nat.le_of_ble_eq_true rfl) rfl ?_
  refine j_iload 0 rfl d11_comes_71 ?_
  refine j_if_eq d11_comes_73 ?_ ?_
  · refine j_iconst d11_comes_124 ejc_0 ?_
    exact j_zreturn0 hq d11_comes_125
  · refine j_aload_n 1 rfl d11_comes_76 ?_
    refine j_get fl_X11_87 (rV_g_200_44 x σ) d11_comes_77 ?_
    refine j_iload_n 2 rfl d11_comes_80 ?_
    refine j_iald (rV_a_226 x σ) d11_comes_81 ?_
    refine j_aload_n 1 rfl d11_comes_82 ?_
    refine j_iload 5 rfl d11_comes_83 ?_
    refine j_iload 6 rfl d11_comes_85 ?_
    refine j_iload 7 rfl d11_comes_87 ?_
    refine j_iload_n 4 rfl d11_comes_89 ?_
    refine j_callVi (c11_costIn x n y11 y12 y13 y10 σ) lv_X11_317 (rV_rc_200 x σ) ⟨Nat.le_of_ble_eq_true rfl, Nat.le_of_ble_eq_true rfl⟩ d11_comes_90 rfl (Nat.le_of_ble_eq_true rfl) (fun r16 s15 => ?_)
    refine j_iadd d11_comes_93 ?_
    refine j_aload_n 1 rfl d11_comes_94 ?_
    refine j_get fl_X11_87 (rV_g_200_44 x s15) d11_comes_95 ?_
    refine j_iload_n 3 rfl d11_comes_98 ?_
    refine j_iald (rV_a_226 x s15) d11_comes_99 ?_
    refine j_icmp_ne d11_comes_100 ?_ ?_
    · refine j_iconst d11_comes_124 ejc_0 ?_
      exact j_zreturn0 hq d11_comes_125
    · refine j_aload_n 1 rfl d11_comes_103 ?_
      refine j_get fl_X11_90 (rV_g_200_45 x s15) d11_comes_104 ?_
      refine j_iload_n 2 rfl d11_comes_107 ?_
      refine j_iald (rV_a_227 x s15) d11_comes_108 ?_
      refine j_iconst d11_comes_109 ejc_1 ?_
      refine j_iadd d11_comes_110 ?_
      refine j_aload_n 1 rfl d11_comes_111 ?_
      refine j_get fl_X11_90 (rV_g_200_45 x s15) d11_comes_112 ?_
      refine j_iload_n 3 rfl d11_comes_115 ?_
      refine j_iald (rV_a_227 x s15) d11_comes_116 ?_
      refine j_icmp_ne d11_comes_117 ?_ ?_
      · refine j_iconst d11_comes_124 ejc_0 ?_
        exact j_zreturn0 hq d11_comes_125
      · refine j_iconst d11_comes_120 ejc_1 ?_
        refine j_goto d11_comes_121 ?_
        exact j_zreturn1 hq d11_comes_125
noncomputable def m11_comes (n : Nat) (a1 : Int32) (a2 : Int32) (a3 : Int32) (σ : ej_S) : Option (Int32 × ej_S) := ej_nm (a1 / 4) fun x1 => ej_nm (a1 - a1 / 4 * 4) fun x2 => ej_nm (a2 / 4) fun x3 => ej_ck a1 96 ((if gA σ 23 a1.toNatClampNeg = (-1) then (some (0, σ)) else (if x1 = x3 then (some (0, σ)) else ej_bi (m11_stepCost n x1 x3 a3 σ) fun r5 s4 => (if r5 = (-1) then (some (0, s4)) else ej_bi (m11_stateBehind n x1 x2 x3 a3 s4) fun r7 s6 => (if r7 = a2 - a2 / 4 * 4 then (m11_comes_69 n a1 a2 a3 x1 x2 x3 1 s6) else (m11_comes_69 n a1 a2 a3 x1 x2 x3 0 s6))))))
set_option maxRecDepth 20000 in
set_option maxHeartbeats 2000000 in
theorem j11_comes (x : cw_T) (n : Nat) (a1 : Int32) (a2 : Int32) (a3 : Int32) (σ : ej_S) {F : ej_F} {r0 : Int32 × ej_S} (hq : ej_fin (rV x) F (some .boolean) (some (.int r0.1)) r0.2) : ej_J (rV x) F i11_comes r0 σ 0 [(0, .ref (cw_a x 200)), (1, .int a1), (2, .int a2), (3, .int a3)] [] (m11_comes n a1 a2 a3 σ) := by
  unfold m11_comes
  refine j_iload_n 1 rfl d11_comes_0 ?_
  refine j_iconst d11_comes_1 ejc_4 ?_
  refine j_idiv0 (by decide) d11_comes_2 ?_
  refine j_nmi (fun x1 => ?_)
  refine j_istore (i := 4) (L' := [(4, .int x1), (0, .ref (cw_a x 200)), (1, .int a1), (2, .int a2), (3, .int a3)]) d11_comes_3 (Nat.le_of_ble_eq_true rfl) rfl ?_
  refine j_iload_n 2 rfl d11_comes_5 ?_
  refine j_iconst d11_comes_6 ejc_4 ?_
  refine j_irem0 (by decide) d11_comes_7 ?_
  refine j_nmi (fun x2 => ?_)
  refine j_istore (i := 5) (L' := [(5, .int x2), (4, .int x1), (0, .ref (cw_a x 200)), (1, .int a1), (2, .int a2), (3, .int a3)]) d11_comes_8 (Nat.le_of_ble_eq_true rfl) rfl ?_
  refine j_iload_n 4 rfl d11_comes_10 ?_
  refine j_iconst d11_comes_11 ejc_4 ?_
  refine j_idiv0 (by decide) d11_comes_12 ?_
  refine j_nmi (fun x3 => ?_)
  refine j_istore (i := 6) (L' := [(6, .int x3), (5, .int x2), (4, .int x1), (0, .ref (cw_a x 200)), (1, .int a1), (2, .int a2), (3, .int a3)]) d11_comes_13 (Nat.le_of_ble_eq_true rfl) rfl ?_
  refine j_aload_n 3 rfl d11_comes_15 ?_
  refine j_get fl_X11_87 (rV_g_200_44 x σ) d11_comes_16 ?_
  refine j_iload_n 4 rfl d11_comes_19 ?_
  refine j_iald (rV_a_226 x σ) d11_comes_20 ?_
  refine j_iconst d11_comes_21 ejc_m1 ?_
  refine j_icmp_eq d11_comes_22 ?_ ?_
  · refine j_iconst d11_comes_45 ejc_0 ?_
    exact j_zreturn0 hq d11_comes_46
  · refine j_iload 2 rfl d11_comes_25 ?_
    refine j_iload 0 rfl d11_comes_27 ?_
    refine j_icmp_eq d11_comes_29 ?_ ?_
    · refine j_iconst d11_comes_45 ejc_0 ?_
      exact j_zreturn0 hq d11_comes_46
    · refine j_aload_n 3 rfl d11_comes_32 ?_
      refine j_iload 2 rfl d11_comes_33 ?_
      refine j_iload 0 rfl d11_comes_35 ?_
      refine j_iload_n 6 rfl d11_comes_37 ?_
      refine j_callVi (c11_stepCost x n x1 x3 a3 σ) lv_X11_309 (rV_rc_200 x σ) ⟨Nat.le_of_ble_eq_true rfl, Nat.le_of_ble_eq_true rfl⟩ d11_comes_38 rfl (Nat.le_of_ble_eq_true rfl) (fun r5 s4 => ?_)
      refine j_iconst d11_comes_41 ejc_m1 ?_
      refine j_icmp_ne d11_comes_42 ?_ ?_
      · refine j_aload_n 3 rfl d11_comes_47 ?_
        refine j_iload 2 rfl d11_comes_48 ?_
        refine j_iload 1 rfl d11_comes_50 ?_
        refine j_iload 0 rfl d11_comes_52 ?_
        refine j_iload_n 6 rfl d11_comes_54 ?_
        refine j_callVi (c11_stateBehind x n x1 x2 x3 a3 s4) lv_X11_313 (rV_rc_200 x s4) ⟨Nat.le_of_ble_eq_true rfl, Nat.le_of_ble_eq_true rfl⟩ d11_comes_55 rfl (Nat.le_of_ble_eq_true rfl) (fun r7 s6 => ?_)
        refine j_iload_n 5 rfl d11_comes_58 ?_
        refine j_iconst d11_comes_59 ejc_4 ?_
        refine j_irem0 (by decide) d11_comes_60 ?_
        refine j_icmp_ne d11_comes_61 ?_ ?_
        · refine j_iconst d11_comes_68 ejc_0 ?_
          exact j_sub [3, 4, 5, 6, 2, 1, 0] rfl (j11_comes_69 x n hq a1 a2 a3 x1 x2 x3 0 s6)
        · refine j_iconst d11_comes_64 ejc_1 ?_
          refine j_goto d11_comes_65 ?_
          exact j_sub [3, 4, 5, 6, 2, 1, 0] rfl (j11_comes_69 x n hq a1 a2 a3 x1 x2 x3 1 s6)
      · refine j_iconst d11_comes_45 ejc_0 ?_
        exact j_zreturn0 hq d11_comes_46
theorem c11_comes (x : cw_T) (n : Nat) (a1 : Int32) (a2 : Int32) (a3 : Int32) (σ : ej_S) : ∀ r σ1, m11_comes n a1 a2 a3 σ = some (r, σ1) → ∀ l, ej_Con l (rV x) i11_comes yX11_comes (some .boolean) [.ref (cw_a x 200), .int a1, .int a2, .int a3] σ (some (.int r)) σ1 := fun r σ1 h l => ej_con_of (rV_ok x) pn_X11 rfl (Nat.le_of_ble_eq_true rfl) rfl h (fun F hq => j11_comes x n a1 a2 a3 σ hq)

noncomputable def m11_solves_300 (n : Nat) (f262 : Int32 → Int32 → Int32 → ej_S → Option (ej_S)) (y24 : Int32) (y25 : Int32) (y26 : Int32) (y27 : Int32) (y28 : Int32) (y29 : Int32) (σ : ej_S) : Option (ej_S) := ej_ck y29 96 (ej_nm (uA σ 25 (y29.toNatClampNeg) y28) fun s30 => (if y27 = 0 then ej_ck y24 96 (ej_ck y24 96 (ej_nm (uA s30 26 (y24.toNatClampNeg) (gA s30 26 y24.toNatClampNeg)) fun s31 => ej_nm (y26 + (-1)) fun x32 => (f262 y24 y25 x32 s31))) else ej_ck y24 96 (ej_nm (uA s30 26 (y24.toNatClampNeg) y26) fun s33 => ej_nm (y26 + (-1)) fun x34 => (f262 y24 y25 x34 s33))))
set_option maxRecDepth 20000 in
set_option maxHeartbeats 2000000 in
theorem j11_solves_300 (x : cw_T) (n : Nat) {F : ej_F} {r0 : ej_S} (hq : ej_fin (rV x) F none none r0) (f262 : Int32 → Int32 → Int32 → ej_S → Option (ej_S)) (H262 : ∀ (y18 : Int32) (y19 : Int32) (y20 : Int32) (σ : ej_S), ej_J (rV x) F i11_solves r0 σ 262 [(0, .ref (cw_a x 200)), (3, .int y18), (4, .int y19), (5, .int y20)] [] (f262 y18 y19 y20 σ)) (y24 : Int32) (y25 : Int32) (y26 : Int32) (y27 : Int32) (y28 : Int32) (y29 : Int32) (σ : ej_S) : ej_J (rV x) F i11_solves r0 σ 300 [(0, .ref (cw_a x 200)), (3, .int y24), (4, .int y25), (5, .int y26), (6, .int y27)] [.int y28, .int y29, .ref (cw_a x 228)] (m11_solves_300 n f262 y24 y25 y26 y27 y28 y29 σ) := by
  unfold m11_solves_300
  refine j_iast (rV_s_228 x σ (y29.toNatClampNeg) y28) d11_solves_300 (fun s30 => ?_)
  refine j_aload_n 0 rfl d11_solves_301 ?_
  refine j_get fl_X11_96 (rV_g_200_47 x s30) d11_solves_302 ?_
  refine j_iload_n 1 rfl d11_solves_305 ?_
  refine j_iload 4 rfl d11_solves_306 ?_
  refine j_if_eq d11_solves_308 ?_ ?_
  · refine j_aload_n 0 rfl d11_solves_316 ?_
    refine j_get fl_X11_96 (rV_g_200_47 x s30) d11_solves_317 ?_
    refine j_iload_n 1 rfl d11_solves_320 ?_
    refine j_iald (rV_a_229 x s30) d11_solves_321 ?_
    refine j_iast (rV_s_229 x s30 (y24.toNatClampNeg) (gA s30 26 y24.toNatClampNeg)) d11_solves_322 (fun s31 => ?_)
    refine j_iinc (i := 5) (v := (-1)) (Ly := fun x32 => [(5, .int x32), (0, .ref (cw_a x 200)), (3, .int y24), (4, .int y25), (6, .int y27)]) 3 d11_solves_323 rfl ejc_m1 (Nat.le_of_ble_eq_true rfl) (fun _ => rfl) (fun x32 => ?_)
    refine j_goto d11_solves_326 ?_
    exact j_sub [1, 2, 3, 0] rfl (H262 y24 y25 x32 s31)
  · refine j_iload 3 rfl d11_solves_311 ?_
    refine j_goto d11_solves_313 ?_
    refine j_iast (rV_s_229 x s30 (y24.toNatClampNeg) y26) d11_solves_322 (fun s33 => ?_)
    refine j_iinc (i := 5) (v := (-1)) (Ly := fun x34 => [(5, .int x34), (0, .ref (cw_a x 200)), (3, .int y24), (4, .int y25), (6, .int y27)]) 3 d11_solves_323 rfl ejc_m1 (Nat.le_of_ble_eq_true rfl) (fun _ => rfl) (fun x34 => ?_)
    refine j_goto d11_solves_326 ?_
    exact j_sub [1, 2, 3, 0] rfl (H262 y24 y25 x34 s33)
noncomputable def m11_solves_262 (n : Nat) (f235 : Int32 → Int32 → ej_S → Option (ej_S)) (k : Nat) : Int32 → Int32 → Int32 → ej_S → Option (ej_S) := Nat.rec (motive := fun _ => Int32 → Int32 → Int32 → ej_S → Option (ej_S)) (fun _ _ _ _ => none) (fun _ ih y18 y19 y20 σ => (if y20 < 1 then ej_nm (y19 + (-1)) fun x21 => (f235 y18 x21 σ) else ej_bi (m11_comes n y19 y18 y20 σ) fun r23 s22 => (if r23 = 0 then ej_ck y18 96 ((m11_solves_300 n ih y18 y19 y20 r23 (gA s22 25 y18.toNatClampNeg) y18 s22)) else (m11_solves_300 n ih y18 y19 y20 r23 y19 y18 s22)))) k
theorem m11_solves_262_s (n : Nat) (f235 : Int32 → Int32 → ej_S → Option (ej_S)) (k : Nat) (y18 : Int32) (y19 : Int32) (y20 : Int32) (σ : ej_S) : m11_solves_262 n f235 (k + 1) y18 y19 y20 σ = ((if y20 < 1 then ej_nm (y19 + (-1)) fun x21 => (f235 y18 x21 σ) else ej_bi (m11_comes n y19 y18 y20 σ) fun r23 s22 => (if r23 = 0 then ej_ck y18 96 ((m11_solves_300 n (m11_solves_262 n f235 k) y18 y19 y20 r23 (gA s22 25 y18.toNatClampNeg) y18 s22)) else (m11_solves_300 n (m11_solves_262 n f235 k) y18 y19 y20 r23 y19 y18 s22))) : Option (ej_S)) := rfl
set_option maxRecDepth 20000 in
set_option maxHeartbeats 2000000 in
theorem j11_solves_262 (x : cw_T) (n : Nat) {F : ej_F} {r0 : ej_S} (hq : ej_fin (rV x) F none none r0) (f235 : Int32 → Int32 → ej_S → Option (ej_S)) (H235 : ∀ (y13 : Int32) (y14 : Int32) (σ : ej_S), ej_J (rV x) F i11_solves r0 σ 235 [(0, .ref (cw_a x 200)), (3, .int y13), (4, .int y14)] [] (f235 y13 y14 σ)) : ∀ (k : Nat) (y18 : Int32) (y19 : Int32) (y20 : Int32) (σ : ej_S), ej_J (rV x) F i11_solves r0 σ 262 [(0, .ref (cw_a x 200)), (3, .int y18), (4, .int y19), (5, .int y20)] [] (m11_solves_262 n f235 k y18 y19 y20 σ) := by
  intro k
  induction k with
  | zero => intro y18 y19 y20 σ; exact j_none
  | succ k ih =>
    intro y18 y19 y20 σ
    rw [m11_solves_262_s]
    refine j_iload 3 rfl d11_solves_262 ?_
    refine j_iconst d11_solves_264 ejc_1 ?_
    refine j_icmp_lt d11_solves_265 ?_ ?_
    · refine j_iinc (i := 4) (v := (-1)) (Ly := fun x21 => [(4, .int x21), (0, .ref (cw_a x 200)), (3, .int y18), (5, .int y20)]) 2 d11_solves_329 rfl ejc_m1 (Nat.le_of_ble_eq_true rfl) (fun _ => rfl) (fun x21 => ?_)
      refine j_goto d11_solves_332 ?_
      exact j_sub [1, 2, 0] rfl (H235 y18 x21 σ)
    · refine j_aload_n 0 rfl d11_solves_268 ?_
      refine j_iload 2 rfl d11_solves_269 ?_
      refine j_iload_n 1 rfl d11_solves_271 ?_
      refine j_iload 3 rfl d11_solves_272 ?_
      refine j_callVi (c11_comes x n y19 y18 y20 σ) lv_X11_333 (rV_rc_200 x σ) ⟨Nat.le_of_ble_eq_true rfl, Nat.le_of_ble_eq_true rfl⟩ d11_solves_274 rfl (Nat.le_of_ble_eq_true rfl) (fun r23 s22 => ?_)
      refine j_istore (i := 6) (L' := [(6, .int r23), (0, .ref (cw_a x 200)), (3, .int y18), (4, .int y19), (5, .int y20)]) d11_solves_277 (Nat.le_of_ble_eq_true rfl) rfl ?_
      refine j_aload_n 1 rfl d11_solves_279 ?_
      refine j_get fl_X11_93 (rV_g_200_46 x s22) d11_solves_280 ?_
      refine j_iload_n 2 rfl d11_solves_283 ?_
      refine j_iload 0 rfl d11_solves_284 ?_
      refine j_if_eq d11_solves_286 ?_ ?_
      · refine j_aload_n 1 rfl d11_solves_294 ?_
        refine j_get fl_X11_93 (rV_g_200_46 x s22) d11_solves_295 ?_
        refine j_iload_n 2 rfl d11_solves_298 ?_
        refine j_iald (rV_a_228 x s22) d11_solves_299 ?_
        exact j_sub [1, 2, 3, 4, 0] rfl (j11_solves_300 x n hq (m11_solves_262 n f235 k) ih y18 y19 y20 r23 (gA s22 25 y18.toNatClampNeg) y18 s22)
      · refine j_iload 3 rfl d11_solves_289 ?_
        refine j_goto d11_solves_291 ?_
        exact j_sub [1, 2, 3, 4, 0] rfl (j11_solves_300 x n hq (m11_solves_262 n f235 k) ih y18 y19 y20 r23 y19 y18 s22)
noncomputable def m11_solves_235 (n : Nat) (f215 : Int32 → ej_S → Option (ej_S)) (k : Nat) : Int32 → Int32 → ej_S → Option (ej_S) := Nat.rec (motive := fun _ => Int32 → Int32 → ej_S → Option (ej_S)) (fun _ _ _ => none) (fun _ ih y13 y14 σ => (if y14 < 0 then ej_nm (y13 + 1) fun x15 => (f215 x15 σ) else ej_ck y13 96 ((if gA σ 23 y13.toNatClampNeg = (-1) then ej_nm (y13 + 1) fun x16 => (f215 x16 σ) else ej_ck y13 96 ((if gA σ 24 y13.toNatClampNeg ≤ 0 then ej_nm (y13 + 1) fun x17 => (f215 x17 σ) else (m11_solves_262 n ih n y13 y14 5 σ))))))) k
theorem m11_solves_235_s (n : Nat) (f215 : Int32 → ej_S → Option (ej_S)) (k : Nat) (y13 : Int32) (y14 : Int32) (σ : ej_S) : m11_solves_235 n f215 (k + 1) y13 y14 σ = ((if y14 < 0 then ej_nm (y13 + 1) fun x15 => (f215 x15 σ) else ej_ck y13 96 ((if gA σ 23 y13.toNatClampNeg = (-1) then ej_nm (y13 + 1) fun x16 => (f215 x16 σ) else ej_ck y13 96 ((if gA σ 24 y13.toNatClampNeg ≤ 0 then ej_nm (y13 + 1) fun x17 => (f215 x17 σ) else (m11_solves_262 n (m11_solves_235 n f215 k) n y13 y14 5 σ)))))) : Option (ej_S)) := rfl
set_option maxRecDepth 20000 in
set_option maxHeartbeats 2000000 in
theorem j11_solves_235 (x : cw_T) (n : Nat) {F : ej_F} {r0 : ej_S} (hq : ej_fin (rV x) F none none r0) (f215 : Int32 → ej_S → Option (ej_S)) (H215 : ∀ (y11 : Int32) (σ : ej_S), ej_J (rV x) F i11_solves r0 σ 215 [(0, .ref (cw_a x 200)), (3, .int y11)] [] (f215 y11 σ)) : ∀ (k : Nat) (y13 : Int32) (y14 : Int32) (σ : ej_S), ej_J (rV x) F i11_solves r0 σ 235 [(0, .ref (cw_a x 200)), (3, .int y13), (4, .int y14)] [] (m11_solves_235 n f215 k y13 y14 σ) := by
  intro k
  induction k with
  | zero => intro y13 y14 σ; exact j_none
  | succ k ih =>
    intro y13 y14 σ
    rw [m11_solves_235_s]
    refine j_iload 2 rfl d11_solves_235 ?_
    refine j_if_lt d11_solves_237 ?_ ?_
    · refine j_iinc (i := 3) (v := 1) (Ly := fun x15 => [(3, .int x15), (0, .ref (cw_a x 200)), (4, .int y14)]) 1 d11_solves_335 rfl ejc_1 (Nat.le_of_ble_eq_true rfl) (fun _ => rfl) (fun x15 => ?_)
      refine j_goto d11_solves_338 ?_
      exact j_sub [1, 0] rfl (H215 x15 σ)
    · refine j_aload_n 0 rfl d11_solves_240 ?_
      refine j_get fl_X11_87 (rV_g_200_44 x σ) d11_solves_241 ?_
      refine j_iload_n 1 rfl d11_solves_244 ?_
      refine j_iald (rV_a_226 x σ) d11_solves_245 ?_
      refine j_iconst d11_solves_246 ejc_m1 ?_
      refine j_icmp_eq d11_solves_247 ?_ ?_
      · refine j_iinc (i := 3) (v := 1) (Ly := fun x16 => [(3, .int x16), (0, .ref (cw_a x 200)), (4, .int y14)]) 1 d11_solves_335 rfl ejc_1 (Nat.le_of_ble_eq_true rfl) (fun _ => rfl) (fun x16 => ?_)
        refine j_goto d11_solves_338 ?_
        exact j_sub [1, 0] rfl (H215 x16 σ)
      · refine j_aload_n 0 rfl d11_solves_250 ?_
        refine j_get fl_X11_90 (rV_g_200_45 x σ) d11_solves_251 ?_
        refine j_iload_n 1 rfl d11_solves_254 ?_
        refine j_iald (rV_a_227 x σ) d11_solves_255 ?_
        refine j_if_le d11_solves_256 ?_ ?_
        · refine j_iinc (i := 3) (v := 1) (Ly := fun x17 => [(3, .int x17), (0, .ref (cw_a x 200)), (4, .int y14)]) 1 d11_solves_335 rfl ejc_1 (Nat.le_of_ble_eq_true rfl) (fun _ => rfl) (fun x17 => ?_)
          refine j_goto d11_solves_338 ?_
          exact j_sub [1, 0] rfl (H215 x17 σ)
        · refine j_iconst d11_solves_259 ejc_5 ?_
          refine j_istore (i := 5) (L' := [(5, .int 5), (0, .ref (cw_a x 200)), (3, .int y13), (4, .int y14)]) d11_solves_260 (Nat.le_of_ble_eq_true rfl) rfl ?_
          exact j_sub [1, 2, 3, 0] rfl (j11_solves_262 x n hq (m11_solves_235 n f215 k) ih n y13 y14 5 σ)
noncomputable def m11_solves_215 (n : Nat) (k : Nat) : Int32 → ej_S → Option (ej_S) := Nat.rec (motive := fun _ => Int32 → ej_S → Option (ej_S)) (fun _ _ => none) (fun _ ih y11 σ => (if 4 * (gI σ 15) ≤ y11 then (some σ) else ej_nm ((4 * (gI σ 15)) - 1) fun x12 => (m11_solves_235 n ih n y11 x12 σ))) k
theorem m11_solves_215_s (n : Nat) (k : Nat) (y11 : Int32) (σ : ej_S) : m11_solves_215 n (k + 1) y11 σ = ((if 4 * (gI σ 15) ≤ y11 then (some σ) else ej_nm ((4 * (gI σ 15)) - 1) fun x12 => (m11_solves_235 n (m11_solves_215 n k) n y11 x12 σ)) : Option (ej_S)) := rfl
set_option maxRecDepth 20000 in
set_option maxHeartbeats 2000000 in
theorem j11_solves_215 (x : cw_T) (n : Nat) {F : ej_F} {r0 : ej_S} (hq : ej_fin (rV x) F none none r0) : ∀ (k : Nat) (y11 : Int32) (σ : ej_S), ej_J (rV x) F i11_solves r0 σ 215 [(0, .ref (cw_a x 200)), (3, .int y11)] [] (m11_solves_215 n k y11 σ) := by
  intro k
  induction k with
  | zero => intro y11 σ; exact j_none
  | succ k ih =>
    intro y11 σ
    rw [m11_solves_215_s]
    refine j_iload_n 1 rfl d11_solves_215 ?_
    refine j_iconst d11_solves_216 ejc_4 ?_
    refine j_aload_n 0 rfl d11_solves_217 ?_
    refine j_get fl_X11_272 (rV_g_200_28 x σ) d11_solves_218 ?_
    refine j_imul d11_solves_221 ?_
    refine j_icmp_ge d11_solves_222 ?_ ?_
    · exact j_vreturn hq d11_solves_341
    · refine j_iconst d11_solves_225 ejc_4 ?_
      refine j_aload_n 0 rfl d11_solves_226 ?_
      refine j_get fl_X11_272 (rV_g_200_28 x σ) d11_solves_227 ?_
      refine j_imul d11_solves_230 ?_
      refine j_iconst d11_solves_231 ejc_1 ?_
      refine j_isub d11_solves_232 ?_
      refine j_nmi (fun x12 => ?_)
      refine j_istore (i := 4) (L' := [(4, .int x12), (0, .ref (cw_a x 200)), (3, .int y11)]) d11_solves_233 (Nat.le_of_ble_eq_true rfl) rfl ?_
      exact j_sub [1, 2, 0] rfl (j11_solves_235 x n hq (m11_solves_215 n k) ih n y11 x12 σ)
noncomputable def m11_solves_181 (n : Nat) (f132 : Int32 → Int32 → Int32 → ej_S → Option (ej_S)) (y41 : Int32) (y42 : Int32) (y43 : Int32) (y44 : Int32) (σ : ej_S) : Option (ej_S) := (if y41 = 0 then (if y44 = 0 then ej_nm (y43 + 1) fun x46 => (f132 0 y42 x46 σ) else ej_nm (y43 + 1) fun x47 => (f132 1 y42 x47 σ)) else ej_nm (y43 + 1) fun x45 => (f132 1 y42 x45 σ))
set_option maxRecDepth 20000 in
set_option maxHeartbeats 2000000 in
theorem j11_solves_181 (x : cw_T) (n : Nat) {F : ej_F} {r0 : ej_S} (hq : ej_fin (rV x) F none none r0) (f132 : Int32 → Int32 → Int32 → ej_S → Option (ej_S)) (H132 : ∀ (y37 : Int32) (y38 : Int32) (y39 : Int32) (σ : ej_S), ej_J (rV x) F i11_solves r0 σ 132 [(0, .ref (cw_a x 200)), (2, .int y37), (3, .int y38), (4, .int y39)] [] (f132 y37 y38 y39 σ)) (y41 : Int32) (y42 : Int32) (y43 : Int32) (y44 : Int32) (σ : ej_S) : ej_J (rV x) F i11_solves r0 σ 181 [(0, .ref (cw_a x 200)), (2, .int y41), (3, .int y42), (4, .int y43)] [.int y44] (m11_solves_181 n f132 y41 y42 y43 y44 σ) := by
  unfold m11_solves_181
  refine j_istore (i := 5) (L' := [(5, .int y44), (0, .ref (cw_a x 200)), (2, .int y41), (3, .int y42), (4, .int y43)]) d11_solves_181 (Nat.le_of_ble_eq_true rfl) rfl ?_
  refine j_iload_n 2 rfl d11_solves_183 ?_
  refine j_if_ne d11_solves_184 ?_ ?_
  · refine j_iconst d11_solves_192 ejc_1 ?_
    refine j_goto d11_solves_193 ?_
    refine j_istore_n (i := 2) (L' := [(2, .int 1), (5, .int y44), (0, .ref (cw_a x 200)), (3, .int y42), (4, .int y43)]) d11_solves_197 rfl (Nat.le_of_ble_eq_true rfl) rfl ?_
    refine j_iinc (i := 4) (v := 1) (Ly := fun x45 => [(4, .int x45), (2, .int 1), (5, .int y44), (0, .ref (cw_a x 200)), (3, .int y42)]) 4 d11_solves_198 rfl ejc_1 (Nat.le_of_ble_eq_true rfl) (fun _ => rfl) (fun x45 => ?_)
    refine j_goto d11_solves_201 ?_
    exact j_sub [3, 1, 4, 0] rfl (H132 1 y42 x45 σ)
  · refine j_iload 0 rfl d11_solves_187 ?_
    refine j_if_eq d11_solves_189 ?_ ?_
    · refine j_iconst d11_solves_196 ejc_0 ?_
      refine j_istore_n (i := 2) (L' := [(2, .int 0), (5, .int y44), (0, .ref (cw_a x 200)), (3, .int y42), (4, .int y43)]) d11_solves_197 rfl (Nat.le_of_ble_eq_true rfl) rfl ?_
      refine j_iinc (i := 4) (v := 1) (Ly := fun x46 => [(4, .int x46), (2, .int 0), (5, .int y44), (0, .ref (cw_a x 200)), (3, .int y42)]) 4 d11_solves_198 rfl ejc_1 (Nat.le_of_ble_eq_true rfl) (fun _ => rfl) (fun x46 => ?_)
      refine j_goto d11_solves_201 ?_
      exact j_sub [3, 1, 4, 0] rfl (H132 0 y42 x46 σ)
    · refine j_iconst d11_solves_192 ejc_1 ?_
      refine j_goto d11_solves_193 ?_
      refine j_istore_n (i := 2) (L' := [(2, .int 1), (5, .int y44), (0, .ref (cw_a x 200)), (3, .int y42), (4, .int y43)]) d11_solves_197 rfl (Nat.le_of_ble_eq_true rfl) rfl ?_
      refine j_iinc (i := 4) (v := 1) (Ly := fun x47 => [(4, .int x47), (2, .int 1), (5, .int y44), (0, .ref (cw_a x 200)), (3, .int y42)]) 4 d11_solves_198 rfl ejc_1 (Nat.le_of_ble_eq_true rfl) (fun _ => rfl) (fun x47 => ?_)
      refine j_goto d11_solves_201 ?_
      exact j_sub [3, 1, 4, 0] rfl (H132 1 y42 x47 σ)
noncomputable def m11_solves_132 (n : Nat) (f114 : Int32 → Int32 → ej_S → Option (ej_S)) (k : Nat) : Int32 → Int32 → Int32 → ej_S → Option (ej_S) := Nat.rec (motive := fun _ => Int32 → Int32 → Int32 → ej_S → Option (ej_S)) (fun _ _ _ _ => none) (fun _ ih y37 y38 y39 σ => (if 5 < y39 then ej_nm (y38 + 1) fun x40 => (f114 y37 x40 σ) else ej_dv (gI σ 15) (ej_dv (gI σ 15) ((if (y38 / (gI σ 15)) / 4 = y38 - y38 / (gI σ 15) * (gI σ 15) then (m11_solves_181 n ih y37 y38 y39 0 σ) else ej_dv (gI σ 15) (ej_dv (gI σ 15) (ej_bi (m11_isBetter n (y38 / (gI σ 15)) (y38 - y38 / (gI σ 15) * (gI σ 15)) y39 σ) fun r49 s48 => (if r49 = 0 then (m11_solves_181 n ih y37 y38 y39 0 s48) else (m11_solves_181 n ih y37 y38 y39 1 s48))))))))) k
theorem m11_solves_132_s (n : Nat) (f114 : Int32 → Int32 → ej_S → Option (ej_S)) (k : Nat) (y37 : Int32) (y38 : Int32) (y39 : Int32) (σ : ej_S) : m11_solves_132 n f114 (k + 1) y37 y38 y39 σ = ((if 5 < y39 then ej_nm (y38 + 1) fun x40 => (f114 y37 x40 σ) else ej_dv (gI σ 15) (ej_dv (gI σ 15) ((if (y38 / (gI σ 15)) / 4 = y38 - y38 / (gI σ 15) * (gI σ 15) then (m11_solves_181 n (m11_solves_132 n f114 k) y37 y38 y39 0 σ) else ej_dv (gI σ 15) (ej_dv (gI σ 15) (ej_bi (m11_isBetter n (y38 / (gI σ 15)) (y38 - y38 / (gI σ 15) * (gI σ 15)) y39 σ) fun r49 s48 => (if r49 = 0 then (m11_solves_181 n (m11_solves_132 n f114 k) y37 y38 y39 0 s48) else (m11_solves_181 n (m11_solves_132 n f114 k) y37 y38 y39 1 s48)))))))) : Option (ej_S)) := rfl
set_option maxRecDepth 20000 in
set_option maxHeartbeats 2000000 in
theorem j11_solves_132 (x : cw_T) (n : Nat) {F : ej_F} {r0 : ej_S} (hq : ej_fin (rV x) F none none r0) (f114 : Int32 → Int32 → ej_S → Option (ej_S)) (H114 : ∀ (y35 : Int32) (y36 : Int32) (σ : ej_S), ej_J (rV x) F i11_solves r0 σ 114 [(0, .ref (cw_a x 200)), (2, .int y35), (3, .int y36)] [] (f114 y35 y36 σ)) : ∀ (k : Nat) (y37 : Int32) (y38 : Int32) (y39 : Int32) (σ : ej_S), ej_J (rV x) F i11_solves r0 σ 132 [(0, .ref (cw_a x 200)), (2, .int y37), (3, .int y38), (4, .int y39)] [] (m11_solves_132 n f114 k y37 y38 y39 σ) := by
  intro k
  induction k with
  | zero => intro y37 y38 y39 σ; exact j_none
  | succ k ih =>
    intro y37 y38 y39 σ
    rw [m11_solves_132_s]
    refine j_iload 3 rfl d11_solves_132 ?_
    refine j_iconst d11_solves_134 ejc_5 ?_
    refine j_icmp_gt d11_solves_135 ?_ ?_
    · refine j_iinc (i := 3) (v := 1) (Ly := fun x40 => [(3, .int x40), (0, .ref (cw_a x 200)), (2, .int y37), (4, .int y39)]) 2 d11_solves_204 rfl ejc_1 (Nat.le_of_ble_eq_true rfl) (fun _ => rfl) (fun x40 => ?_)
      refine j_goto d11_solves_207 ?_
      exact j_sub [1, 2, 0] rfl (H114 y37 x40 σ)
    · refine j_iload_n 2 rfl d11_solves_138 ?_
      refine j_aload_n 0 rfl d11_solves_139 ?_
      refine j_get fl_X11_272 (rV_g_200_28 x σ) d11_solves_140 ?_
      refine j_idiv d11_solves_143 ?_
      refine j_iconst d11_solves_144 ejc_4 ?_
      refine j_idiv0 (by decide) d11_solves_145 ?_
      refine j_iload_n 2 rfl d11_solves_146 ?_
      refine j_aload_n 0 rfl d11_solves_147 ?_
      refine j_get fl_X11_272 (rV_g_200_28 x σ) d11_solves_148 ?_
      refine j_irem d11_solves_151 ?_
      refine j_icmp_eq d11_solves_152 ?_ ?_
      · refine j_iconst d11_solves_180 ejc_0 ?_
        exact j_sub [0, 1, 2, 3] rfl (j11_solves_181 x n hq (m11_solves_132 n f114 k) ih y37 y38 y39 0 σ)
      · refine j_aload_n 0 rfl d11_solves_155 ?_
        refine j_iload_n 2 rfl d11_solves_156 ?_
        refine j_aload_n 0 rfl d11_solves_157 ?_
        refine j_get fl_X11_272 (rV_g_200_28 x σ) d11_solves_158 ?_
        refine j_idiv d11_solves_161 ?_
        refine j_iload_n 2 rfl d11_solves_162 ?_
        refine j_aload_n 0 rfl d11_solves_163 ?_
        refine j_get fl_X11_272 (rV_g_200_28 x σ) d11_solves_164 ?_
        refine j_irem d11_solves_167 ?_
        refine j_iload 3 rfl d11_solves_168 ?_
        refine j_callVi (c11_isBetter x n (y38 / (gI σ 15)) (y38 - y38 / (gI σ 15) * (gI σ 15)) y39 σ) lv_X11_330 (rV_rc_200 x σ) ⟨Nat.le_of_ble_eq_true rfl, Nat.le_of_ble_eq_true rfl⟩ d11_solves_170 rfl (Nat.le_of_ble_eq_true rfl) (fun r49 s48 => ?_)
        refine j_if_eq d11_solves_173 ?_ ?_
        · refine j_iconst d11_solves_180 ejc_0 ?_
          exact j_sub [0, 1, 2, 3] rfl (j11_solves_181 x n hq (m11_solves_132 n f114 k) ih y37 y38 y39 0 s48)
        · refine j_iconst d11_solves_176 ejc_1 ?_
          refine j_goto d11_solves_177 ?_
          exact j_sub [0, 1, 2, 3] rfl (j11_solves_181 x n hq (m11_solves_132 n f114 k) ih y37 y38 y39 1 s48)
noncomputable def m11_solves_114 (n : Nat) (f106 : Int32 → ej_S → Option (ej_S)) (k : Nat) : Int32 → Int32 → ej_S → Option (ej_S) := Nat.rec (motive := fun _ => Int32 → Int32 → ej_S → Option (ej_S)) (fun _ _ _ => none) (fun _ ih y35 y36 σ => (if (4 * (gI σ 15)) * (gI σ 15) ≤ y36 then (f106 y35 σ) else (m11_solves_132 n ih n y35 y36 1 σ))) k
theorem m11_solves_114_s (n : Nat) (f106 : Int32 → ej_S → Option (ej_S)) (k : Nat) (y35 : Int32) (y36 : Int32) (σ : ej_S) : m11_solves_114 n f106 (k + 1) y35 y36 σ = ((if (4 * (gI σ 15)) * (gI σ 15) ≤ y36 then (f106 y35 σ) else (m11_solves_132 n (m11_solves_114 n f106 k) n y35 y36 1 σ)) : Option (ej_S)) := rfl
set_option maxRecDepth 20000 in
set_option maxHeartbeats 2000000 in
theorem j11_solves_114 (x : cw_T) (n : Nat) {F : ej_F} {r0 : ej_S} (hq : ej_fin (rV x) F none none r0) (f106 : Int32 → ej_S → Option (ej_S)) (H106 : ∀ (y10 : Int32) (σ : ej_S), ej_J (rV x) F i11_solves r0 σ 106 [(0, .ref (cw_a x 200)), (2, .int y10)] [] (f106 y10 σ)) : ∀ (k : Nat) (y35 : Int32) (y36 : Int32) (σ : ej_S), ej_J (rV x) F i11_solves r0 σ 114 [(0, .ref (cw_a x 200)), (2, .int y35), (3, .int y36)] [] (m11_solves_114 n f106 k y35 y36 σ) := by
  intro k
  induction k with
  | zero => intro y35 y36 σ; exact j_none
  | succ k ih =>
    intro y35 y36 σ
    rw [m11_solves_114_s]
    refine j_iload_n 2 rfl d11_solves_114 ?_
    refine j_iconst d11_solves_115 ejc_4 ?_
    refine j_aload_n 0 rfl d11_solves_116 ?_
    refine j_get fl_X11_272 (rV_g_200_28 x σ) d11_solves_117 ?_
    refine j_imul d11_solves_120 ?_
    refine j_aload_n 0 rfl d11_solves_121 ?_
    refine j_get fl_X11_272 (rV_g_200_28 x σ) d11_solves_122 ?_
    refine j_imul d11_solves_125 ?_
    refine j_icmp_ge d11_solves_126 ?_ ?_
    · refine j_goto d11_solves_210 ?_
      exact j_sub [0, 1] rfl (H106 y35 σ)
    · refine j_iconst d11_solves_129 ejc_1 ?_
      refine j_istore (i := 4) (L' := [(4, .int 1), (0, .ref (cw_a x 200)), (2, .int y35), (3, .int y36)]) d11_solves_130 (Nat.le_of_ble_eq_true rfl) rfl ?_
      exact j_sub [1, 2, 3, 0] rfl (j11_solves_132 x n hq (m11_solves_114 n f106 k) ih n y35 y36 1 σ)
noncomputable def m11_solves_106 (n : Nat) (k : Nat) : Int32 → ej_S → Option (ej_S) := Nat.rec (motive := fun _ => Int32 → ej_S → Option (ej_S)) (fun _ _ => none) (fun _ ih y10 σ => (if y10 = 0 then (m11_solves_215 n n 0 σ) else (m11_solves_114 n ih n 0 0 σ))) k
theorem m11_solves_106_s (n : Nat) (k : Nat) (y10 : Int32) (σ : ej_S) : m11_solves_106 n (k + 1) y10 σ = ((if y10 = 0 then (m11_solves_215 n n 0 σ) else (m11_solves_114 n (m11_solves_106 n k) n 0 0 σ)) : Option (ej_S)) := rfl
set_option maxRecDepth 20000 in
set_option maxHeartbeats 2000000 in
theorem j11_solves_106 (x : cw_T) (n : Nat) {F : ej_F} {r0 : ej_S} (hq : ej_fin (rV x) F none none r0) : ∀ (k : Nat) (y10 : Int32) (σ : ej_S), ej_J (rV x) F i11_solves r0 σ 106 [(0, .ref (cw_a x 200)), (2, .int y10)] [] (m11_solves_106 n k y10 σ) := by
  intro k
  induction k with
  | zero => intro y10 σ; exact j_none
  | succ k ih =>
    intro y10 σ
    rw [m11_solves_106_s]
    refine j_iload_n 1 rfl d11_solves_106 ?_
    refine j_if_eq d11_solves_107 ?_ ?_
    · refine j_iconst d11_solves_213 ejc_0 ?_
      refine j_istore_n (i := 3) (L' := [(3, .int 0), (0, .ref (cw_a x 200)), (2, .int y10)]) d11_solves_214 rfl (Nat.le_of_ble_eq_true rfl) rfl ?_
      exact j_sub [1, 0] rfl (j11_solves_215 x n hq n 0 σ)
    · refine j_iconst d11_solves_110 ejc_0 ?_
      refine j_istore_n (i := 2) (L' := [(2, .int 0), (0, .ref (cw_a x 200))]) d11_solves_111 rfl (Nat.le_of_ble_eq_true rfl) rfl ?_
      refine j_iconst d11_solves_112 ejc_0 ?_
      refine j_istore_n (i := 3) (L' := [(3, .int 0), (2, .int 0), (0, .ref (cw_a x 200))]) d11_solves_113 rfl (Nat.le_of_ble_eq_true rfl) rfl ?_
      exact j_sub [2, 1, 0] rfl (j11_solves_114 x n hq (m11_solves_106 n k) ih n 0 0 σ)
noncomputable def m11_solves_80 (n : Nat) (k : Nat) : Int32 → ej_S → Option (ej_S) := Nat.rec (motive := fun _ => Int32 → ej_S → Option (ej_S)) (fun _ _ => none) (fun _ ih y6 σ => ej_bi (m11_givesBack n σ) fun r8 s7 => (if r8 = 0 then ej_ck (4 * y6) 96 (ej_nm (uA s7 23 ((4 * y6).toNatClampNeg) 0) fun s9 => (m11_solves_106 n n 1 s9)) else ej_bv (m11_reaches n y6 s7) fun s50 => (ih y6 s50))) k
theorem m11_solves_80_s (n : Nat) (k : Nat) (y6 : Int32) (σ : ej_S) : m11_solves_80 n (k + 1) y6 σ = (ej_bi (m11_givesBack n σ) fun r8 s7 => (if r8 = 0 then ej_ck (4 * y6) 96 (ej_nm (uA s7 23 ((4 * y6).toNatClampNeg) 0) fun s9 => (m11_solves_106 n n 1 s9)) else ej_bv (m11_reaches n y6 s7) fun s50 => ((m11_solves_80 n k) y6 s50)) : Option (ej_S)) := rfl
set_option maxRecDepth 20000 in
set_option maxHeartbeats 2000000 in
theorem j11_solves_80 (x : cw_T) (n : Nat) {F : ej_F} {r0 : ej_S} (hq : ej_fin (rV x) F none none r0) : ∀ (k : Nat) (y6 : Int32) (σ : ej_S), ej_J (rV x) F i11_solves r0 σ 80 [(0, .ref (cw_a x 200)), (1, .int y6)] [] (m11_solves_80 n k y6 σ) := by
  intro k
  induction k with
  | zero => intro y6 σ; exact j_none
  | succ k ih =>
    intro y6 σ
    rw [m11_solves_80_s]
    refine j_aload_n 0 rfl d11_solves_80 ?_
    refine j_callVi (c11_givesBack x n σ) lv_X11_327 (rV_rc_200 x σ) ⟨Nat.le_of_ble_eq_true rfl, Nat.le_of_ble_eq_true rfl⟩ d11_solves_81 rfl (Nat.le_of_ble_eq_true rfl) (fun r8 s7 => ?_)
    refine j_if_eq d11_solves_84 ?_ ?_
    · refine j_aload_n 0 rfl d11_solves_95 ?_
      refine j_get fl_X11_87 (rV_g_200_44 x s7) d11_solves_96 ?_
      refine j_iconst d11_solves_99 ejc_4 ?_
      refine j_iload_n 1 rfl d11_solves_100 ?_
      refine j_imul d11_solves_101 ?_
      refine j_iconst d11_solves_102 ejc_0 ?_
      refine j_iast (rV_s_226 x s7 ((4 * y6).toNatClampNeg) 0) d11_solves_103 (fun s9 => ?_)
      refine j_iconst d11_solves_104 ejc_1 ?_
      refine j_istore_n (i := 2) (L' := [(2, .int 1), (0, .ref (cw_a x 200)), (1, .int y6)]) d11_solves_105 rfl (Nat.le_of_ble_eq_true rfl) rfl ?_
      exact j_sub [1, 0] rfl (j11_solves_106 x n hq n 1 s9)
    · refine j_aload_n 0 rfl d11_solves_87 ?_
      refine j_iload_n 1 rfl d11_solves_88 ?_
      refine j_callVv (c11_reaches x n y6 s7) lv_X11_323 (rV_rc_200 x s7) ⟨Nat.le_of_ble_eq_true rfl, Nat.le_of_ble_eq_true rfl⟩ d11_solves_89 rfl (Nat.le_of_ble_eq_true rfl) (fun s50 => ?_)
      refine j_goto d11_solves_92 ?_
      exact j_sub [0, 1] rfl (ih y6 s50)
noncomputable def m11_solves_24 (n : Nat) (k : Nat) : Int32 → ej_S → Option (ej_S) := Nat.rec (motive := fun _ => Int32 → ej_S → Option (ej_S)) (fun _ _ => none) (fun _ ih y2 σ => (if 96 ≤ y2 then ej_bi (m11_homeNode n σ) fun r4 s3 => (if r4 = (-1) then (some s3) else ej_bv (m11_reaches n r4 s3) fun s5 => (m11_solves_80 n n r4 s5)) else ej_ck y2 96 (ej_nm (uA σ 23 (y2.toNatClampNeg) (-1)) fun s51 => ej_ck y2 96 (ej_nm (uA s51 24 (y2.toNatClampNeg) 0) fun s52 => ej_ck y2 96 (ej_nm (uA s52 25 (y2.toNatClampNeg) (-1)) fun s53 => ej_ck y2 96 (ej_nm (uA s53 26 (y2.toNatClampNeg) 0) fun s54 => ej_nm (y2 + 1) fun x55 => (ih x55 s54))))))) k
theorem m11_solves_24_s (n : Nat) (k : Nat) (y2 : Int32) (σ : ej_S) : m11_solves_24 n (k + 1) y2 σ = ((if 96 ≤ y2 then ej_bi (m11_homeNode n σ) fun r4 s3 => (if r4 = (-1) then (some s3) else ej_bv (m11_reaches n r4 s3) fun s5 => (m11_solves_80 n n r4 s5)) else ej_ck y2 96 (ej_nm (uA σ 23 (y2.toNatClampNeg) (-1)) fun s51 => ej_ck y2 96 (ej_nm (uA s51 24 (y2.toNatClampNeg) 0) fun s52 => ej_ck y2 96 (ej_nm (uA s52 25 (y2.toNatClampNeg) (-1)) fun s53 => ej_ck y2 96 (ej_nm (uA s53 26 (y2.toNatClampNeg) 0) fun s54 => ej_nm (y2 + 1) fun x55 => ((m11_solves_24 n k) x55 s54)))))) : Option (ej_S)) := rfl
set_option maxRecDepth 20000 in
set_option maxHeartbeats 2000000 in
theorem j11_solves_24 (x : cw_T) (n : Nat) {F : ej_F} {r0 : ej_S} (hq : ej_fin (rV x) F none none r0) : ∀ (k : Nat) (y2 : Int32) (σ : ej_S), ej_J (rV x) F i11_solves r0 σ 24 [(0, .ref (cw_a x 200)), (1, .int y2)] [] (m11_solves_24 n k y2 σ) := by
  intro k
  induction k with
  | zero => intro y2 σ; exact j_none
  | succ k ih =>
    intro y2 σ
    rw [m11_solves_24_s]
    refine j_iload_n 1 rfl d11_solves_24 ?_
    refine j_bipush d11_solves_25 ejb_96 ?_
    refine j_icmp_ge d11_solves_27 ?_ ?_
    · refine j_aload_n 0 rfl d11_solves_64 ?_
      refine j_callVi (c11_homeNode x n σ) lv_X11_320 (rV_rc_200 x σ) ⟨Nat.le_of_ble_eq_true rfl, Nat.le_of_ble_eq_true rfl⟩ d11_solves_65 rfl (Nat.le_of_ble_eq_true rfl) (fun r4 s3 => ?_)
      refine j_istore_n (i := 1) (L' := [(1, .int r4), (0, .ref (cw_a x 200))]) d11_solves_68 rfl (Nat.le_of_ble_eq_true rfl) rfl ?_
      refine j_iload_n 0 rfl d11_solves_69 ?_
      refine j_iconst d11_solves_70 ejc_m1 ?_
      refine j_icmp_ne d11_solves_71 ?_ ?_
      · refine j_aload_n 1 rfl d11_solves_75 ?_
        refine j_iload_n 0 rfl d11_solves_76 ?_
        refine j_callVv (c11_reaches x n r4 s3) lv_X11_323 (rV_rc_200 x s3) ⟨Nat.le_of_ble_eq_true rfl, Nat.le_of_ble_eq_true rfl⟩ d11_solves_77 rfl (Nat.le_of_ble_eq_true rfl) (fun s5 => ?_)
        exact j_sub [1, 0] rfl (j11_solves_80 x n hq n r4 s5)
      · exact j_vreturn hq d11_solves_74
    · refine j_aload_n 0 rfl d11_solves_30 ?_
      refine j_get fl_X11_87 (rV_g_200_44 x σ) d11_solves_31 ?_
      refine j_iload_n 1 rfl d11_solves_34 ?_
      refine j_iconst d11_solves_35 ejc_m1 ?_
      refine j_iast (rV_s_226 x σ (y2.toNatClampNeg) (-1)) d11_solves_36 (fun s51 => ?_)
      refine j_aload_n 0 rfl d11_solves_37 ?_
      refine j_get fl_X11_90 (rV_g_200_45 x s51) d11_solves_38 ?_
      refine j_iload_n 1 rfl d11_solves_41 ?_
      refine j_iconst d11_solves_42 ejc_0 ?_
      refine j_iast (rV_s_227 x s51 (y2.toNatClampNeg) 0) d11_solves_43 (fun s52 => ?_)
      refine j_aload_n 0 rfl d11_solves_44 ?_
      refine j_get fl_X11_93 (rV_g_200_46 x s52) d11_solves_45 ?_
      refine j_iload_n 1 rfl d11_solves_48 ?_
      refine j_iconst d11_solves_49 ejc_m1 ?_
      refine j_iast (rV_s_228 x s52 (y2.toNatClampNeg) (-1)) d11_solves_50 (fun s53 => ?_)
      refine j_aload_n 0 rfl d11_solves_51 ?_
      refine j_get fl_X11_96 (rV_g_200_47 x s53) d11_solves_52 ?_
      refine j_iload_n 1 rfl d11_solves_55 ?_
      refine j_iconst d11_solves_56 ejc_0 ?_
      refine j_iast (rV_s_229 x s53 (y2.toNatClampNeg) 0) d11_solves_57 (fun s54 => ?_)
      refine j_iinc (i := 1) (v := 1) (Ly := fun x55 => [(1, .int x55), (0, .ref (cw_a x 200))]) 1 d11_solves_58 rfl ejc_1 (Nat.le_of_ble_eq_true rfl) (fun _ => rfl) (fun x55 => ?_)
      refine j_goto d11_solves_61 ?_
      exact j_sub [1, 0] rfl (ih x55 s54)
noncomputable def m11_solves_2 (n : Nat) (k : Nat) : Int32 → ej_S → Option (ej_S) := Nat.rec (motive := fun _ => Int32 → ej_S → Option (ej_S)) (fun _ _ => none) (fun _ ih y1 σ => (if 576 ≤ y1 then (m11_solves_24 n n 0 σ) else ej_ck y1 576 (ej_nm (uA σ 21 (y1.toNatClampNeg) (ej_bz 0)) fun s56 => ej_nm (y1 + 1) fun x57 => (ih x57 s56)))) k
theorem m11_solves_2_s (n : Nat) (k : Nat) (y1 : Int32) (σ : ej_S) : m11_solves_2 n (k + 1) y1 σ = ((if 576 ≤ y1 then (m11_solves_24 n n 0 σ) else ej_ck y1 576 (ej_nm (uA σ 21 (y1.toNatClampNeg) (ej_bz 0)) fun s56 => ej_nm (y1 + 1) fun x57 => ((m11_solves_2 n k) x57 s56))) : Option (ej_S)) := rfl
set_option maxRecDepth 20000 in
set_option maxHeartbeats 2000000 in
theorem j11_solves_2 (x : cw_T) (n : Nat) {F : ej_F} {r0 : ej_S} (hq : ej_fin (rV x) F none none r0) : ∀ (k : Nat) (y1 : Int32) (σ : ej_S), ej_J (rV x) F i11_solves r0 σ 2 [(0, .ref (cw_a x 200)), (1, .int y1)] [] (m11_solves_2 n k y1 σ) := by
  intro k
  induction k with
  | zero => intro y1 σ; exact j_none
  | succ k ih =>
    intro y1 σ
    rw [m11_solves_2_s]
    refine j_iload_n 1 rfl d11_solves_2 ?_
    refine j_sipush d11_solves_3 ejs_576 ?_
    refine j_icmp_ge d11_solves_6 ?_ ?_
    · refine j_iconst d11_solves_22 ejc_0 ?_
      refine j_istore_n (i := 1) (L' := [(1, .int 0), (0, .ref (cw_a x 200))]) d11_solves_23 rfl (Nat.le_of_ble_eq_true rfl) rfl ?_
      exact j_sub [1, 0] rfl (j11_solves_24 x n hq n 0 σ)
    · refine j_aload_n 0 rfl d11_solves_9 ?_
      refine j_get fl_X11_81 (rV_g_200_41 x σ) d11_solves_10 ?_
      refine j_iload_n 1 rfl d11_solves_13 ?_
      refine j_iconst d11_solves_14 ejc_0 ?_
      refine j_zast (rV_s_224 x σ (y1.toNatClampNeg) (ej_bz 0)) d11_solves_15 (fun s56 => ?_)
      refine j_iinc (i := 1) (v := 1) (Ly := fun x57 => [(1, .int x57), (0, .ref (cw_a x 200))]) 1 d11_solves_16 rfl ejc_1 (Nat.le_of_ble_eq_true rfl) (fun _ => rfl) (fun x57 => ?_)
      refine j_goto d11_solves_19 ?_
      exact j_sub [1, 0] rfl (ih x57 s56)
noncomputable def m11_solves (n : Nat)  (σ : ej_S) : Option (ej_S) := (m11_solves_2 n n 0 σ)
set_option maxRecDepth 20000 in
set_option maxHeartbeats 2000000 in
theorem j11_solves (x : cw_T) (n : Nat)  (σ : ej_S) {F : ej_F} {r0 : ej_S} (hq : ej_fin (rV x) F none none r0) : ej_J (rV x) F i11_solves r0 σ 0 [(0, .ref (cw_a x 200))] [] (m11_solves n  σ) := by
  unfold m11_solves
  refine j_iconst d11_solves_0 ejc_0 ?_
  refine j_istore_n (i := 1) (L' := [(1, .int 0), (0, .ref (cw_a x 200))]) d11_solves_1 rfl (Nat.le_of_ble_eq_true rfl) rfl ?_
  exact j_sub [1, 0] rfl (j11_solves_2 x n hq n 0 σ)
theorem c11_solves (x : cw_T) (n : Nat)  (σ : ej_S) : ∀ σ1, m11_solves n  σ = some σ1 → ∀ l, ej_Con l (rV x) i11_solves yX11_solves none [.ref (cw_a x 200)] σ none σ1 := fun σ1 h l => ej_con_of (rV_ok x) pn_X11 rfl (Nat.le_of_ble_eq_true rfl) rfl h (fun F hq => j11_solves x n  σ hq)

