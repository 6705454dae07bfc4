noncomputable def m6_beginSum (n : Nat)  (σ : ej_S) : Option (ej_S) := ej_nm (uI σ 14 (-1)) fun s1 => ej_nm (uI s1 16 (-1)) fun s2 => (some s2)
set_option maxRecDepth 20000 in
set_option maxHeartbeats 2000000 in
theorem j6_beginSum (x : cw_T) (n : Nat)  (σ : ej_S) {F : ej_F} {r0 : ej_S} (hq : ej_fin (cV x) F none none r0) : ej_J (cV x) F i6_beginSum r0 σ 0 [(0, .ref (cw_a x 3))] [] (m6_beginSum n  σ) := by
  unfold m6_beginSum
  refine j_aload_n 0 rfl d6_beginSum_0 ?_
  refine j_iconst d6_beginSum_1 ejc_m1 ?_
  refine j_put fl_X6_70 (cV_p_3_2 x σ (-1)) rfl rfl d6_beginSum_2 (fun s1 => ?_)
  refine j_aload_n 0 rfl d6_beginSum_5 ?_
  refine j_iconst d6_beginSum_6 ejc_m1 ?_
  refine j_put fl_X6_64 (cV_p_3_4 x s1 (-1)) rfl rfl d6_beginSum_7 (fun s2 => ?_)
  exact j_vreturn hq d6_beginSum_10
theorem c6_beginSum (x : cw_T) (n : Nat)  (σ : ej_S) : ∀ σ1, m6_beginSum n  σ = some σ1 → ∀ l, ej_Con l (cV x) i6_beginSum yX6_beginSum none [.ref (cw_a x 3)] σ none σ1 := fun σ1 h l => ej_con_of (cV_ok x) pn_X6 rfl (Nat.le_of_ble_eq_true rfl) rfl h (fun F hq => j6_beginSum x n  σ hq)

noncomputable def m6_fail (n : Nat) (a1 : Int32) (a2 : Int32) (σ : ej_S) : Option (Int32 × ej_S) := ej_nm (uI σ 20 a1) fun s1 => ej_nm (uI s1 21 a2) fun s2 => (some (0, s2))
set_option maxRecDepth 20000 in
set_option maxHeartbeats 2000000 in
theorem j6_fail (x : cw_T) (n : Nat) (a1 : Int32) (a2 : Int32) (σ : ej_S) {F : ej_F} {r0 : Int32 × ej_S} (hq : ej_fin (cV x) F (some .boolean) (some (.int r0.1)) r0.2) : ej_J (cV x) F i6_fail r0 σ 0 [(0, .ref (cw_a x 3)), (1, .int a1), (2, .int a2)] [] (m6_fail n a1 a2 σ) := by
  unfold m6_fail
  refine j_aload_n 0 rfl d6_fail_0 ?_
  refine j_iload_n 1 rfl d6_fail_1 ?_
  refine j_put fl_X6_35 (cV_p_3_12 x σ a1) rfl rfl d6_fail_2 (fun s1 => ?_)
  refine j_aload_n 0 rfl d6_fail_5 ?_
  refine j_iload_n 2 rfl d6_fail_6 ?_
  refine j_put fl_X6_38 (cV_p_3_13 x s1 a2) rfl rfl d6_fail_7 (fun s2 => ?_)
  refine j_iconst d6_fail_10 ejc_0 ?_
  exact j_zreturn0 hq d6_fail_11
theorem c6_fail (x : cw_T) (n : Nat) (a1 : Int32) (a2 : Int32) (σ : ej_S) : ∀ r σ1, m6_fail n a1 a2 σ = some (r, σ1) → ∀ l, ej_Con l (cV x) i6_fail yX6_fail (some .boolean) [.ref (cw_a x 3), .int a1, .int a2] σ (some (.int r)) σ1 := fun r σ1 h l => ej_con_of (cV_ok x) pn_X6 rfl (Nat.le_of_ble_eq_true rfl) rfl h (fun F hq => j6_fail x n a1 a2 σ hq)

noncomputable def m6_open (n : Nat)  (σ : ej_S) : Option (Int32 × ej_S) := (if gI σ 18 < 0 then ej_bi (m6_fail n 1 (gI σ 19) σ) fun r2 s1 => (some (ej_bz r2, s1)) else (if gI σ 18 < 600 then ej_ck (gI σ 18) 600 (ej_nm (uA σ 14 ((gI σ 18).toNatClampNeg) (gI σ 13)) fun s3 => ej_ck (gI s3 18) 600 (ej_nm (uA s3 15 ((gI s3 18).toNatClampNeg) (gI s3 14)) fun s4 => ej_ck (gI s4 18) 600 (ej_nm (uA s4 16 ((gI s4 18).toNatClampNeg) (gI s4 15)) fun s5 => ej_ck (gI s5 18) 600 (ej_nm (uA s5 17 ((gI s5 18).toNatClampNeg) (gI s5 16)) fun s6 => ej_nm (uI s6 18 ((gI s6 18) + 1)) fun s7 => ej_bv (m6_beginSum n s7) fun s8 => (some (1, s8)))))) else ej_bi (m6_fail n 1 (gI σ 19) σ) fun r10 s9 => (some (ej_bz r10, s9))))
set_option maxRecDepth 20000 in
set_option maxHeartbeats 2000000 in
theorem j6_open (x : cw_T) (n : Nat)  (σ : ej_S) {F : ej_F} {r0 : Int32 × ej_S} (hq : ej_fin (cV x) F (some .boolean) (some (.int r0.1)) r0.2) : ej_J (cV x) F i6_open r0 σ 0 [(0, .ref (cw_a x 3))] [] (m6_open n  σ) := by
  unfold m6_open
  refine j_aload_n 0 rfl d6_open_0 ?_
  refine j_get fl_X6_41 (cV_g_3_10 x σ) d6_open_1 ?_
  refine j_if_lt d6_open_4 ?_ ?_
  · refine j_aload_n 0 rfl d6_open_17 ?_
    refine j_iconst d6_open_18 ejc_1 ?_
    refine j_aload_n 0 rfl d6_open_19 ?_
    refine j_get fl_X6_32 (cV_g_3_11 x σ) d6_open_20 ?_
    refine j_callVi (c6_fail x n 1 (gI σ 19) σ) lv_X6_76 (cV_rc_3 x σ) ⟨Nat.le_of_ble_eq_true rfl, Nat.le_of_ble_eq_true rfl⟩ d6_open_23 rfl (Nat.le_of_ble_eq_true rfl) (fun r2 s1 => ?_)
    exact j_zreturn hq d6_open_26
  · refine j_aload_n 0 rfl d6_open_7 ?_
    refine j_get fl_X6_41 (cV_g_3_10 x σ) d6_open_8 ?_
    refine j_sipush d6_open_11 ejs_600 ?_
    refine j_icmp_lt d6_open_14 ?_ ?_
    · refine j_aload_n 0 rfl d6_open_27 ?_
      refine j_get fl_X6_9 (cV_g_3_6 x σ) d6_open_28 ?_
      refine j_aload_n 0 rfl d6_open_31 ?_
      refine j_get fl_X6_41 (cV_g_3_10 x σ) d6_open_32 ?_
      refine j_aload_n 0 rfl d6_open_35 ?_
      refine j_get fl_X6_28 (cV_g_3_1 x σ) d6_open_36 ?_
      refine j_iast (cV_s_35 x σ ((gI σ 18).toNatClampNeg) (gI σ 13)) d6_open_39 (fun s3 => ?_)
      refine j_aload_n 0 rfl d6_open_40 ?_
      refine j_get fl_X6_15 (cV_g_3_7 x s3) d6_open_41 ?_
      refine j_aload_n 0 rfl d6_open_44 ?_
      refine j_get fl_X6_41 (cV_g_3_10 x s3) d6_open_45 ?_
      refine j_aload_n 0 rfl d6_open_48 ?_
      refine j_get fl_X6_70 (cV_g_3_2 x s3) d6_open_49 ?_
      refine j_iast (cV_s_36 x s3 ((gI s3 18).toNatClampNeg) (gI s3 14)) d6_open_52 (fun s4 => ?_)
      refine j_aload_n 0 rfl d6_open_53 ?_
      refine j_get fl_X6_18 (cV_g_3_8 x s4) d6_open_54 ?_
      refine j_aload_n 0 rfl d6_open_57 ?_
      refine j_get fl_X6_41 (cV_g_3_10 x s4) d6_open_58 ?_
      refine j_aload_n 0 rfl d6_open_61 ?_
      refine j_get fl_X6_80 (cV_g_3_3 x s4) d6_open_62 ?_
      refine j_iast (cV_s_37 x s4 ((gI s4 18).toNatClampNeg) (gI s4 15)) d6_open_65 (fun s5 => ?_)
      refine j_aload_n 0 rfl d6_open_66 ?_
      refine j_get fl_X6_21 (cV_g_3_9 x s5) d6_open_67 ?_
      refine j_aload_n 0 rfl d6_open_70 ?_
      refine j_get fl_X6_41 (cV_g_3_10 x s5) d6_open_71 ?_
      refine j_aload_n 0 rfl d6_open_74 ?_
      refine j_get fl_X6_64 (cV_g_3_4 x s5) d6_open_75 ?_
      refine j_iast (cV_s_38 x s5 ((gI s5 18).toNatClampNeg) (gI s5 16)) d6_open_78 (fun s6 => ?_)
      refine j_aload_n 0 rfl d6_open_79 ?_
      refine j_dup d6_open_80 rfl ?_
      refine j_get fl_X6_41 (cV_g_3_10 x s6) d6_open_81 ?_
      refine j_iconst d6_open_84 ejc_1 ?_
      refine j_iadd d6_open_85 ?_
      refine j_put fl_X6_41 (cV_p_3_10 x s6 ((gI s6 18) + 1)) rfl rfl d6_open_86 (fun s7 => ?_)
      refine j_aload_n 0 rfl d6_open_89 ?_
      refine j_callVv (c6_beginSum x n s7) lv_X6_44 (cV_rc_3 x s7) ⟨Nat.le_of_ble_eq_true rfl, Nat.le_of_ble_eq_true rfl⟩ d6_open_90 rfl (Nat.le_of_ble_eq_true rfl) (fun s8 => ?_)
      refine j_iconst d6_open_93 ejc_1 ?_
      exact j_zreturn1 hq d6_open_94
    · refine j_aload_n 0 rfl d6_open_17 ?_
      refine j_iconst d6_open_18 ejc_1 ?_
      refine j_aload_n 0 rfl d6_open_19 ?_
      refine j_get fl_X6_32 (cV_g_3_11 x σ) d6_open_20 ?_
      refine j_callVi (c6_fail x n 1 (gI σ 19) σ) lv_X6_76 (cV_rc_3 x σ) ⟨Nat.le_of_ble_eq_true rfl, Nat.le_of_ble_eq_true rfl⟩ d6_open_23 rfl (Nat.le_of_ble_eq_true rfl) (fun r10 s9 => ?_)
      exact j_zreturn hq d6_open_26
theorem c6_open (x : cw_T) (n : Nat)  (σ : ej_S) : ∀ r σ1, m6_open n  σ = some (r, σ1) → ∀ l, ej_Con l (cV x) i6_open yX6_open (some .boolean) [.ref (cw_a x 3)] σ (some (.int r)) σ1 := fun r σ1 h l => ej_con_of (cV_ok x) pn_X6 rfl (Nat.le_of_ble_eq_true rfl) rfl h (fun F hq => j6_open x n  σ hq)

noncomputable def m6_readFactor_22 (n : Nat) (y1 : Int32) (σ : ej_S) : Option (Int32 × ej_S) := ej_bi (m8_worthAt n (gI σ 19) σ) fun r3 s2 => ej_nm (uI s2 17 r3) fun s4 => (if gI s4 17 = 1000001 then (if y1 = 65 then ej_bi (m6_fail n 3 (gI s4 19) s4) fun r8 s7 => (if r8 = 0 then (some (0, s7)) else (some (1, s7))) else ej_bi (m6_fail n 4 (gI s4 19) s4) fun r6 s5 => (if r6 = 0 then (some (0, s5)) else (some (1, s5)))) else (some (1, s4)))
set_option maxRecDepth 20000 in
set_option maxHeartbeats 2000000 in
theorem j6_readFactor_22 (x : cw_T) (n : Nat) {F : ej_F} {r0 : Int32 × ej_S} (hq : ej_fin (cV x) F (some .boolean) (some (.int r0.1)) r0.2) (y1 : Int32) (σ : ej_S) : ej_J (cV x) F i6_readFactor r0 σ 22 [(0, .ref (cw_a x 3)), (1, .int y1)] [] (m6_readFactor_22 n y1 σ) := by
  unfold m6_readFactor_22
  refine j_aload_n 0 rfl d6_readFactor_22 ?_
  refine j_aload_n 0 rfl d6_readFactor_23 ?_
  refine j_get fl_X6_24 (cV_g_3_0 x σ) d6_readFactor_24 ?_
  refine j_aload_n 0 rfl d6_readFactor_27 ?_
  refine j_get fl_X6_32 (cV_g_3_11 x σ) d6_readFactor_28 ?_
  refine j_callVi (c8_worthAt x n (gI σ 19) σ) lv_X6_86 (cV_rc_2 x σ) ⟨Nat.le_of_ble_eq_true rfl, Nat.le_of_ble_eq_true rfl⟩ d6_readFactor_31 rfl (Nat.le_of_ble_eq_true rfl) (fun r3 s2 => ?_)
  refine j_put fl_X6_83 (cV_p_3_5 x s2 r3) rfl rfl d6_readFactor_34 (fun s4 => ?_)
  refine j_aload_n 0 rfl d6_readFactor_37 ?_
  refine j_get fl_X6_83 (cV_g_3_5 x s4) d6_readFactor_38 ?_
  refine j_ldc d6_readFactor_41 ki_X6_89 ?_
  refine j_icmp_ne d6_readFactor_43 ?_ ?_
  · refine j_iconst d6_readFactor_68 ejc_1 ?_
    refine j_goto d6_readFactor_69 ?_
    exact j_zreturn1 hq d6_readFactor_73
  · refine j_aload_n 0 rfl d6_readFactor_46 ?_
    refine j_iload_n 1 rfl d6_readFactor_47 ?_
    refine j_bipush d6_readFactor_48 ejb_65 ?_
    refine j_icmp_ne d6_readFactor_50 ?_ ?_
    · refine j_iconst d6_readFactor_57 ejc_4 ?_
      refine j_aload_n 0 rfl d6_readFactor_58 ?_
      refine j_get fl_X6_32 (cV_g_3_11 x s4) d6_readFactor_59 ?_
      refine j_callVi (c6_fail x n 4 (gI s4 19) s4) lv_X6_76 (cV_rc_3 x s4) ⟨Nat.le_of_ble_eq_true rfl, Nat.le_of_ble_eq_true rfl⟩ d6_readFactor_62 rfl (Nat.le_of_ble_eq_true rfl) (fun r6 s5 => ?_)
      refine j_if_eq d6_readFactor_65 ?_ ?_
      · refine j_iconst d6_readFactor_72 ejc_0 ?_
        exact j_zreturn0 hq d6_readFactor_73
      · refine j_iconst d6_readFactor_68 ejc_1 ?_
        refine j_goto d6_readFactor_69 ?_
        exact j_zreturn1 hq d6_readFactor_73
    · refine j_iconst d6_readFactor_53 ejc_3 ?_
      refine j_goto d6_readFactor_54 ?_
      refine j_aload_n 0 rfl d6_readFactor_58 ?_
      refine j_get fl_X6_32 (cV_g_3_11 x s4) d6_readFactor_59 ?_
      refine j_callVi (c6_fail x n 3 (gI s4 19) s4) lv_X6_76 (cV_rc_3 x s4) ⟨Nat.le_of_ble_eq_true rfl, Nat.le_of_ble_eq_true rfl⟩ d6_readFactor_62 rfl (Nat.le_of_ble_eq_true rfl) (fun r8 s7 => ?_)
      refine j_if_eq d6_readFactor_65 ?_ ?_
      · refine j_iconst d6_readFactor_72 ejc_0 ?_
        exact j_zreturn0 hq d6_readFactor_73
      · refine j_iconst d6_readFactor_68 ejc_1 ?_
        refine j_goto d6_readFactor_69 ?_
        exact j_zreturn1 hq d6_readFactor_73
noncomputable def m6_readFactor (n : Nat) (a1 : Int32) (σ : ej_S) : Option (Int32 × ej_S) := (if a1 = 48 then (m6_readFactor_22 n a1 σ) else (if a1 = 65 then (m6_readFactor_22 n a1 σ) else ej_bi (m6_fail n 1 (gI σ 19) σ) fun r10 s9 => (some (ej_bz r10, s9))))
set_option maxRecDepth 20000 in
set_option maxHeartbeats 2000000 in
theorem j6_readFactor (x : cw_T) (n : Nat) (a1 : Int32) (σ : ej_S) {F : ej_F} {r0 : Int32 × ej_S} (hq : ej_fin (cV x) F (some .boolean) (some (.int r0.1)) r0.2) : ej_J (cV x) F i6_readFactor r0 σ 0 [(0, .ref (cw_a x 3)), (1, .int a1)] [] (m6_readFactor n a1 σ) := by
  unfold m6_readFactor
  refine j_iload_n 1 rfl d6_readFactor_0 ?_
  refine j_bipush d6_readFactor_1 ejb_48 ?_
  refine j_icmp_eq d6_readFactor_3 ?_ ?_
  · exact j_sub [0, 1] rfl (j6_readFactor_22 x n hq a1 σ)
  · refine j_iload_n 1 rfl d6_readFactor_6 ?_
    refine j_bipush d6_readFactor_7 ejb_65 ?_
    refine j_icmp_eq d6_readFactor_9 ?_ ?_
    · exact j_sub [0, 1] rfl (j6_readFactor_22 x n hq a1 σ)
    · refine j_aload_n 0 rfl d6_readFactor_12 ?_
      refine j_iconst d6_readFactor_13 ejc_1 ?_
      refine j_aload_n 0 rfl d6_readFactor_14 ?_
      refine j_get fl_X6_32 (cV_g_3_11 x σ) d6_readFactor_15 ?_
      refine j_callVi (c6_fail x n 1 (gI σ 19) σ) lv_X6_76 (cV_rc_3 x σ) ⟨Nat.le_of_ble_eq_true rfl, Nat.le_of_ble_eq_true rfl⟩ d6_readFactor_18 rfl (Nat.le_of_ble_eq_true rfl) (fun r10 s9 => ?_)
      exact j_zreturn hq d6_readFactor_21
theorem c6_readFactor (x : cw_T) (n : Nat) (a1 : Int32) (σ : ej_S) : ∀ r σ1, m6_readFactor n a1 σ = some (r, σ1) → ∀ l, ej_Con l (cV x) i6_readFactor yX6_readFactor (some .boolean) [.ref (cw_a x 3), .int a1] σ (some (.int r)) σ1 := fun r σ1 h l => ej_con_of (cV_ok x) pn_X6 rfl (Nat.le_of_ble_eq_true rfl) rfl h (fun F hq => j6_readFactor x n a1 σ hq)

noncomputable def m6_combine (n : Nat) (a1 : Int64) (a2 : Int32) (a3 : Int64) (σ : ej_S) : Option (Int64 × ej_S) := (if a2 = 43 then (some (a1 + a3, σ)) else (if a2 = 45 then (some (a1 - a3, σ)) else (if a2 = 42 then (some (a1 * a3, σ)) else (if lg_cmp a3 0 = 0 then (some (1000001, σ)) else ej_dvl a3 ((some (a1 / a3, σ)))))))
set_option maxRecDepth 20000 in
set_option maxHeartbeats 2000000 in
theorem j6_combine (x : cw_T) (n : Nat) (a1 : Int64) (a2 : Int32) (a3 : Int64) (σ : ej_S) {F : ej_F} {r0 : Int64 × ej_S} (hq : ej_fin (cV x) F (some .long) (some (.long r0.1)) r0.2) : ej_J (cV x) F i6_combine r0 σ 0 [(0, .long a1), (2, .int a2), (3, .long a3)] [] (m6_combine n a1 a2 a3 σ) := by
  unfold m6_combine
  refine j_iload_n 1 rfl d6_combine_0 ?_
  refine j_bipush d6_combine_1 ejb_43 ?_
  refine j_icmp_ne d6_combine_3 ?_ ?_
  · refine j_iload_n 1 rfl d6_combine_10 ?_
    refine j_bipush d6_combine_11 ejb_45 ?_
    refine j_icmp_ne d6_combine_13 ?_ ?_
    · refine j_iload_n 1 rfl d6_combine_20 ?_
      refine j_bipush d6_combine_21 ejb_42 ?_
      refine j_icmp_ne d6_combine_23 ?_ ?_
      · refine j_lload_n 2 rfl d6_combine_30 ?_
        refine j_lconst d6_combine_31 ejl_0 ?_
        refine j_lcmp d6_combine_32 ?_
        refine j_if_ne d6_combine_33 ?_ ?_
        · refine j_lload_n 0 rfl d6_combine_42 ?_
          refine j_lload_n 2 rfl d6_combine_43 ?_
          refine j_ldiv d6_combine_44 ?_
          exact j_lreturn hq d6_combine_45
        · refine j_ldc2 d6_combine_36 kl_X6_98 ?_
          refine j_goto d6_combine_39 ?_
          exact j_lreturn hq d6_combine_45
      · refine j_lload_n 0 rfl d6_combine_26 ?_
        refine j_lload_n 2 rfl d6_combine_27 ?_
        refine j_lmul d6_combine_28 ?_
        exact j_lreturn hq d6_combine_29
    · refine j_lload_n 0 rfl d6_combine_16 ?_
      refine j_lload_n 2 rfl d6_combine_17 ?_
      refine j_lsub d6_combine_18 ?_
      exact j_lreturn hq d6_combine_19
  · refine j_lload_n 0 rfl d6_combine_6 ?_
    refine j_lload_n 2 rfl d6_combine_7 ?_
    refine j_ladd d6_combine_8 ?_
    exact j_lreturn hq d6_combine_9
theorem c6_combine (x : cw_T) (n : Nat) (a1 : Int64) (a2 : Int32) (a3 : Int64) (σ : ej_S) : ∀ r σ1, m6_combine n a1 a2 a3 σ = some (r, σ1) → ∀ l, ej_Con l (cV x) i6_combine yX6_combine (some .long) [.long a1, .int a2, .long a3] σ (some (.long r)) σ1 := fun r σ1 h l => ej_con_of (cV_ok x) pn_X6 rfl (Nat.le_of_ble_eq_true rfl) rfl h (fun F hq => j6_combine x n a1 a2 a3 σ hq)

noncomputable def m6_isWithinLimit (n : Nat) (a1 : Int64) (σ : ej_S) : Option (Int32 × ej_S) := (if lg_cmp a1 (-1000000) < 0 then (some (0, σ)) else (if 0 < lg_cmp a1 1000000 then (some (0, σ)) else (some (1, σ))))
set_option maxRecDepth 20000 in
set_option maxHeartbeats 2000000 in
theorem j6_isWithinLimit (x : cw_T) (n : Nat) (a1 : Int64) (σ : ej_S) {F : ej_F} {r0 : Int32 × ej_S} (hq : ej_fin (cV x) F (some .boolean) (some (.int r0.1)) r0.2) : ej_J (cV x) F i6_isWithinLimit r0 σ 0 [(0, .long a1)] [] (m6_isWithinLimit n a1 σ) := by
  unfold m6_isWithinLimit
  refine j_lload_n 0 rfl d6_isWithinLimit_0 ?_
  refine j_ldc2 d6_isWithinLimit_1 kl_X6_100 ?_
  refine j_lcmp d6_isWithinLimit_4 ?_
  refine j_if_lt d6_isWithinLimit_5 ?_ ?_
  · refine j_iconst d6_isWithinLimit_20 ejc_0 ?_
    exact j_zreturn0 hq d6_isWithinLimit_21
  · refine j_lload_n 0 rfl d6_isWithinLimit_8 ?_
    refine j_ldc2 d6_isWithinLimit_9 kl_X6_102 ?_
    refine j_lcmp d6_isWithinLimit_12 ?_
    refine j_if_gt d6_isWithinLimit_13 ?_ ?_
    · refine j_iconst d6_isWithinLimit_20 ejc_0 ?_
      exact j_zreturn0 hq d6_isWithinLimit_21
    · refine j_iconst d6_isWithinLimit_16 ejc_1 ?_
      refine j_goto d6_isWithinLimit_17 ?_
      exact j_zreturn1 hq d6_isWithinLimit_21
theorem c6_isWithinLimit (x : cw_T) (n : Nat) (a1 : Int64) (σ : ej_S) : ∀ r σ1, m6_isWithinLimit n a1 σ = some (r, σ1) → ∀ l, ej_Con l (cV x) i6_isWithinLimit yX6_isWithinLimit (some .boolean) [.long a1] σ (some (.int r)) σ1 := fun r σ1 h l => ej_con_of (cV_ok x) pn_X6 rfl (Nat.le_of_ble_eq_true rfl) rfl h (fun F hq => j6_isWithinLimit x n a1 σ hq)

noncomputable def m6_endFactor_39 (n : Nat) (y6 : Int32) (y7 : Int64) (σ : ej_S) : Option (Int32 × ej_S) := ej_nm (uI σ 15 (y7.toInt32)) fun s8 => ej_nm (uI s8 16 (-1)) fun s9 => ej_bi (m6_isWithinLimit n y7 s9) fun r11 s10 => (if r11 = 0 then ej_bi (m6_fail n 4 y6 s10) fun r13 s12 => (if r13 = 0 then (some (0, s12)) else (some (1, s12))) else (some (1, s10)))
set_option maxRecDepth 20000 in
set_option maxHeartbeats 2000000 in
theorem j6_endFactor_39 (x : cw_T) (n : Nat) {F : ej_F} {r0 : Int32 × ej_S} (hq : ej_fin (cV x) F (some .boolean) (some (.int r0.1)) r0.2) (y6 : Int32) (y7 : Int64) (σ : ej_S) : ej_J (cV x) F i6_endFactor r0 σ 39 [(0, .ref (cw_a x 3)), (1, .int y6)] [.long y7] (m6_endFactor_39 n y6 y7 σ) := by
  unfold m6_endFactor_39
  refine j_lstore_n (i := 2) (L' := [(2, .long y7), (0, .ref (cw_a x 3)), (1, .int y6)]) d6_endFactor_39 rfl (Nat.le_of_ble_eq_true rfl) rfl ?_
  refine j_aload_n 1 rfl d6_endFactor_40 ?_
  refine j_lload_n 0 rfl d6_endFactor_41 ?_
  refine j_l2i d6_endFactor_42 ?_
  refine j_put fl_X6_80 (cV_p_3_3 x σ (y7.toInt32)) rfl rfl d6_endFactor_43 (fun s8 => ?_)
  refine j_aload_n 1 rfl d6_endFactor_46 ?_
  refine j_iconst d6_endFactor_47 ejc_m1 ?_
  refine j_put fl_X6_64 (cV_p_3_4 x s8 (-1)) rfl rfl d6_endFactor_48 (fun s9 => ?_)
  refine j_lload_n 0 rfl d6_endFactor_51 ?_
  refine j_callSi (c6_isWithinLimit x n y7 s9) ls_X6_94 ⟨Nat.le_of_ble_eq_true rfl, Nat.le_of_ble_eq_true rfl⟩ d6_endFactor_52 rfl (Nat.le_of_ble_eq_true rfl) (fun r11 s10 => ?_)
  refine j_if_ne d6_endFactor_55 ?_ ?_
  · refine j_iconst d6_endFactor_67 ejc_1 ?_
    refine j_goto d6_endFactor_68 ?_
    exact j_zreturn1 hq d6_endFactor_72
  · refine j_aload_n 1 rfl d6_endFactor_58 ?_
    refine j_iconst d6_endFactor_59 ejc_4 ?_
    refine j_iload_n 2 rfl d6_endFactor_60 ?_
    refine j_callVi (c6_fail x n 4 y6 s10) lv_X6_76 (cV_rc_3 x s10) ⟨Nat.le_of_ble_eq_true rfl, Nat.le_of_ble_eq_true rfl⟩ d6_endFactor_61 rfl (Nat.le_of_ble_eq_true rfl) (fun r13 s12 => ?_)
    refine j_if_eq d6_endFactor_64 ?_ ?_
    · refine j_iconst d6_endFactor_71 ejc_0 ?_
      exact j_zreturn0 hq d6_endFactor_72
    · refine j_iconst d6_endFactor_67 ejc_1 ?_
      refine j_goto d6_endFactor_68 ?_
      exact j_zreturn1 hq d6_endFactor_72
noncomputable def m6_endFactor (n : Nat)  (σ : ej_S) : Option (Int32 × ej_S) := ej_nm (gI σ 16) fun x1 => (if x1 = (-1) then (m6_endFactor_39 n x1 ((gI σ 17).toInt64) σ) else ej_bi (m8_sortAt n x1 σ) fun r3 s2 => ej_bl (m6_combine n ((gI σ 15).toInt64) r3 ((gI s2 17).toInt64) s2) fun r5 s4 => (m6_endFactor_39 n x1 r5 s4))
set_option maxRecDepth 20000 in
set_option maxHeartbeats 2000000 in
theorem j6_endFactor (x : cw_T) (n : Nat)  (σ : ej_S) {F : ej_F} {r0 : Int32 × ej_S} (hq : ej_fin (cV x) F (some .boolean) (some (.int r0.1)) r0.2) : ej_J (cV x) F i6_endFactor r0 σ 0 [(0, .ref (cw_a x 3))] [] (m6_endFactor n  σ) := by
  unfold m6_endFactor
  refine j_aload_n 0 rfl d6_endFactor_0 ?_
  refine j_get fl_X6_64 (cV_g_3_4 x σ) d6_endFactor_1 ?_
  refine j_nmi (fun x1 => ?_)
  refine j_istore_n (i := 1) (L' := [(1, .int x1), (0, .ref (cw_a x 3))]) d6_endFactor_4 rfl (Nat.le_of_ble_eq_true rfl) rfl ?_
  refine j_iload_n 0 rfl d6_endFactor_5 ?_
  refine j_iconst d6_endFactor_6 ejc_m1 ?_
  refine j_icmp_ne d6_endFactor_7 ?_ ?_
  · refine j_aload_n 1 rfl d6_endFactor_18 ?_
    refine j_get fl_X6_80 (cV_g_3_3 x σ) d6_endFactor_19 ?_
    refine j_i2l d6_endFactor_22 ?_
    refine j_aload_n 1 rfl d6_endFactor_23 ?_
    refine j_get fl_X6_24 (cV_g_3_0 x σ) d6_endFactor_24 ?_
    refine j_iload_n 0 rfl d6_endFactor_27 ?_
    refine j_callVi (c8_sortAt x n x1 σ) lv_X6_47 (cV_rc_2 x σ) ⟨Nat.le_of_ble_eq_true rfl, Nat.le_of_ble_eq_true rfl⟩ d6_endFactor_28 rfl (Nat.le_of_ble_eq_true rfl) (fun r3 s2 => ?_)
    refine j_aload_n 1 rfl d6_endFactor_31 ?_
    refine j_get fl_X6_83 (cV_g_3_5 x s2) d6_endFactor_32 ?_
    refine j_i2l d6_endFactor_35 ?_
    refine j_callSl (c6_combine x n ((gI σ 15).toInt64) r3 ((gI s2 17).toInt64) s2) ls_X6_90 ⟨Nat.le_of_ble_eq_true rfl, Nat.le_of_ble_eq_true rfl⟩ d6_endFactor_36 rfl (Nat.le_of_ble_eq_true rfl) (fun r5 s4 => ?_)
    exact j_sub [1, 0] rfl (j6_endFactor_39 x n hq x1 r5 s4)
  · refine j_aload_n 1 rfl d6_endFactor_10 ?_
    refine j_get fl_X6_83 (cV_g_3_5 x σ) d6_endFactor_11 ?_
    refine j_i2l d6_endFactor_14 ?_
    refine j_goto d6_endFactor_15 ?_
    exact j_sub [1, 0] rfl (j6_endFactor_39 x n hq x1 ((gI σ 17).toInt64) σ)
theorem c6_endFactor (x : cw_T) (n : Nat)  (σ : ej_S) : ∀ r σ1, m6_endFactor n  σ = some (r, σ1) → ∀ l, ej_Con l (cV x) i6_endFactor yX6_endFactor (some .boolean) [.ref (cw_a x 3)] σ (some (.int r)) σ1 := fun r σ1 h l => ej_con_of (cV_ok x) pn_X6 rfl (Nat.le_of_ble_eq_true rfl) rfl h (fun F hq => j6_endFactor x n  σ hq)

noncomputable def m6_endProduct_39 (n : Nat) (y6 : Int32) (y7 : Int64) (σ : ej_S) : Option (Int32 × ej_S) := ej_nm (uI σ 13 (y7.toInt32)) fun s8 => ej_nm (uI s8 14 (-1)) fun s9 => ej_bi (m6_isWithinLimit n y7 s9) fun r11 s10 => (if r11 = 0 then ej_bi (m6_fail n 4 y6 s10) fun r13 s12 => (if r13 = 0 then (some (0, s12)) else (some (1, s12))) else (some (1, s10)))
set_option maxRecDepth 20000 in
set_option maxHeartbeats 2000000 in
theorem j6_endProduct_39 (x : cw_T) (n : Nat) {F : ej_F} {r0 : Int32 × ej_S} (hq : ej_fin (cV x) F (some .boolean) (some (.int r0.1)) r0.2) (y6 : Int32) (y7 : Int64) (σ : ej_S) : ej_J (cV x) F i6_endProduct r0 σ 39 [(0, .ref (cw_a x 3)), (1, .int y6)] [.long y7] (m6_endProduct_39 n y6 y7 σ) := by
  unfold m6_endProduct_39
  refine j_lstore_n (i := 2) (L' := [(2, .long y7), (0, .ref (cw_a x 3)), (1, .int y6)]) d6_endProduct_39 rfl (Nat.le_of_ble_eq_true rfl) rfl ?_
  refine j_aload_n 1 rfl d6_endProduct_40 ?_
  refine j_lload_n 0 rfl d6_endProduct_41 ?_
  refine j_l2i d6_endProduct_42 ?_
  refine j_put fl_X6_28 (cV_p_3_1 x σ (y7.toInt32)) rfl rfl d6_endProduct_43 (fun s8 => ?_)
  refine j_aload_n 1 rfl d6_endProduct_46 ?_
  refine j_iconst d6_endProduct_47 ejc_m1 ?_
  refine j_put fl_X6_70 (cV_p_3_2 x s8 (-1)) rfl rfl d6_endProduct_48 (fun s9 => ?_)
  refine j_lload_n 0 rfl d6_endProduct_51 ?_
  refine j_callSi (c6_isWithinLimit x n y7 s9) ls_X6_94 ⟨Nat.le_of_ble_eq_true rfl, Nat.le_of_ble_eq_true rfl⟩ d6_endProduct_52 rfl (Nat.le_of_ble_eq_true rfl) (fun r11 s10 => ?_)
  refine j_if_ne d6_endProduct_55 ?_ ?_
  · refine j_iconst d6_endProduct_67 ejc_1 ?_
    refine j_goto d6_endProduct_68 ?_
    exact j_zreturn1 hq d6_endProduct_72
  · refine j_aload_n 1 rfl d6_endProduct_58 ?_
    refine j_iconst d6_endProduct_59 ejc_4 ?_
    refine j_iload_n 2 rfl d6_endProduct_60 ?_
    refine j_callVi (c6_fail x n 4 y6 s10) lv_X6_76 (cV_rc_3 x s10) ⟨Nat.le_of_ble_eq_true rfl, Nat.le_of_ble_eq_true rfl⟩ d6_endProduct_61 rfl (Nat.le_of_ble_eq_true rfl) (fun r13 s12 => ?_)
    refine j_if_eq d6_endProduct_64 ?_ ?_
    · refine j_iconst d6_endProduct_71 ejc_0 ?_
      exact j_zreturn0 hq d6_endProduct_72
    · refine j_iconst d6_endProduct_67 ejc_1 ?_
      refine j_goto d6_endProduct_68 ?_
      exact j_zreturn1 hq d6_endProduct_72
noncomputable def m6_endProduct (n : Nat)  (σ : ej_S) : Option (Int32 × ej_S) := ej_nm (gI σ 14) fun x1 => (if x1 = (-1) then (m6_endProduct_39 n x1 ((gI σ 15).toInt64) σ) else ej_bi (m8_sortAt n x1 σ) fun r3 s2 => ej_bl (m6_combine n ((gI σ 13).toInt64) r3 ((gI s2 15).toInt64) s2) fun r5 s4 => (m6_endProduct_39 n x1 r5 s4))
set_option maxRecDepth 20000 in
set_option maxHeartbeats 2000000 in
theorem j6_endProduct (x : cw_T) (n : Nat)  (σ : ej_S) {F : ej_F} {r0 : Int32 × ej_S} (hq : ej_fin (cV x) F (some .boolean) (some (.int r0.1)) r0.2) : ej_J (cV x) F i6_endProduct r0 σ 0 [(0, .ref (cw_a x 3))] [] (m6_endProduct n  σ) := by
  unfold m6_endProduct
  refine j_aload_n 0 rfl d6_endProduct_0 ?_
  refine j_get fl_X6_70 (cV_g_3_2 x σ) d6_endProduct_1 ?_
  refine j_nmi (fun x1 => ?_)
  refine j_istore_n (i := 1) (L' := [(1, .int x1), (0, .ref (cw_a x 3))]) d6_endProduct_4 rfl (Nat.le_of_ble_eq_true rfl) rfl ?_
  refine j_iload_n 0 rfl d6_endProduct_5 ?_
  refine j_iconst d6_endProduct_6 ejc_m1 ?_
  refine j_icmp_ne d6_endProduct_7 ?_ ?_
  · refine j_aload_n 1 rfl d6_endProduct_18 ?_
    refine j_get fl_X6_28 (cV_g_3_1 x σ) d6_endProduct_19 ?_
    refine j_i2l d6_endProduct_22 ?_
    refine j_aload_n 1 rfl d6_endProduct_23 ?_
    refine j_get fl_X6_24 (cV_g_3_0 x σ) d6_endProduct_24 ?_
    refine j_iload_n 0 rfl d6_endProduct_27 ?_
    refine j_callVi (c8_sortAt x n x1 σ) lv_X6_47 (cV_rc_2 x σ) ⟨Nat.le_of_ble_eq_true rfl, Nat.le_of_ble_eq_true rfl⟩ d6_endProduct_28 rfl (Nat.le_of_ble_eq_true rfl) (fun r3 s2 => ?_)
    refine j_aload_n 1 rfl d6_endProduct_31 ?_
    refine j_get fl_X6_80 (cV_g_3_3 x s2) d6_endProduct_32 ?_
    refine j_i2l d6_endProduct_35 ?_
    refine j_callSl (c6_combine x n ((gI σ 13).toInt64) r3 ((gI s2 15).toInt64) s2) ls_X6_90 ⟨Nat.le_of_ble_eq_true rfl, Nat.le_of_ble_eq_true rfl⟩ d6_endProduct_36 rfl (Nat.le_of_ble_eq_true rfl) (fun r5 s4 => ?_)
    exact j_sub [1, 0] rfl (j6_endProduct_39 x n hq x1 r5 s4)
  · refine j_aload_n 1 rfl d6_endProduct_10 ?_
    refine j_get fl_X6_80 (cV_g_3_3 x σ) d6_endProduct_11 ?_
    refine j_i2l d6_endProduct_14 ?_
    refine j_goto d6_endProduct_15 ?_
    exact j_sub [1, 0] rfl (j6_endProduct_39 x n hq x1 ((gI σ 15).toInt64) σ)
theorem c6_endProduct (x : cw_T) (n : Nat)  (σ : ej_S) : ∀ r σ1, m6_endProduct n  σ = some (r, σ1) → ∀ l, ej_Con l (cV x) i6_endProduct yX6_endProduct (some .boolean) [.ref (cw_a x 3)] σ (some (.int r)) σ1 := fun r σ1 h l => ej_con_of (cV_ok x) pn_X6 rfl (Nat.le_of_ble_eq_true rfl) rfl h (fun F hq => j6_endProduct x n  σ hq)

noncomputable def m6_close (n : Nat) (a1 : Int32) (σ : ej_S) : Option (Int32 × ej_S) := (if a1 = 41 then (if gI σ 18 < 1 then ej_bi (m6_fail n 1 (gI σ 19) σ) fun r4 s3 => (some (ej_bz r4, s3)) else (if gI σ 18 ≤ 600 then ej_nm (gI σ 13) fun x5 => ej_nm (uI σ 18 ((gI σ 18) - 1)) fun s6 => ej_ck (gI s6 18) 600 (ej_nm (uI s6 13 (gA s6 14 (gI s6 18).toNatClampNeg)) fun s7 => ej_ck (gI s7 18) 600 (ej_nm (uI s7 14 (gA s7 15 (gI s7 18).toNatClampNeg)) fun s8 => ej_ck (gI s8 18) 600 (ej_nm (uI s8 15 (gA s8 16 (gI s8 18).toNatClampNeg)) fun s9 => ej_ck (gI s9 18) 600 (ej_nm (uI s9 16 (gA s9 17 (gI s9 18).toNatClampNeg)) fun s10 => ej_nm (uI s10 17 x5) fun s11 => (some (1, s11)))))) else ej_bi (m6_fail n 1 (gI σ 19) σ) fun r13 s12 => (some (ej_bz r13, s12)))) else ej_bi (m6_fail n 1 (gI σ 19) σ) fun r2 s1 => (some (ej_bz r2, s1)))
set_option maxRecDepth 20000 in
set_option maxHeartbeats 2000000 in
theorem j6_close (x : cw_T) (n : Nat) (a1 : Int32) (σ : ej_S) {F : ej_F} {r0 : Int32 × ej_S} (hq : ej_fin (cV x) F (some .boolean) (some (.int r0.1)) r0.2) : ej_J (cV x) F i6_close r0 σ 0 [(0, .ref (cw_a x 3)), (1, .int a1)] [] (m6_close n a1 σ) := by
  unfold m6_close
  refine j_iload_n 1 rfl d6_close_0 ?_
  refine j_bipush d6_close_1 ejb_41 ?_
  refine j_icmp_ne d6_close_3 ?_ ?_
  · refine j_aload_n 0 rfl d6_close_24 ?_
    refine j_iconst d6_close_25 ejc_1 ?_
    refine j_aload_n 0 rfl d6_close_26 ?_
    refine j_get fl_X6_32 (cV_g_3_11 x σ) d6_close_27 ?_
    refine j_callVi (c6_fail x n 1 (gI σ 19) σ) lv_X6_76 (cV_rc_3 x σ) ⟨Nat.le_of_ble_eq_true rfl, Nat.le_of_ble_eq_true rfl⟩ d6_close_30 rfl (Nat.le_of_ble_eq_true rfl) (fun r2 s1 => ?_)
    exact j_zreturn hq d6_close_33
  · refine j_aload_n 0 rfl d6_close_6 ?_
    refine j_get fl_X6_41 (cV_g_3_10 x σ) d6_close_7 ?_
    refine j_iconst d6_close_10 ejc_1 ?_
    refine j_icmp_lt d6_close_11 ?_ ?_
    · refine j_aload_n 0 rfl d6_close_24 ?_
      refine j_iconst d6_close_25 ejc_1 ?_
      refine j_aload_n 0 rfl d6_close_26 ?_
      refine j_get fl_X6_32 (cV_g_3_11 x σ) d6_close_27 ?_
      refine j_callVi (c6_fail x n 1 (gI σ 19) σ) lv_X6_76 (cV_rc_3 x σ) ⟨Nat.le_of_ble_eq_true rfl, Nat.le_of_ble_eq_true rfl⟩ d6_close_30 rfl (Nat.le_of_ble_eq_true rfl) (fun r4 s3 => ?_)
      exact j_zreturn hq d6_close_33
    · refine j_aload_n 0 rfl d6_close_14 ?_
      refine j_get fl_X6_41 (cV_g_3_10 x σ) d6_close_15 ?_
      refine j_sipush d6_close_18 ejs_600 ?_
      refine j_icmp_le d6_close_21 ?_ ?_
      · refine j_aload_n 0 rfl d6_close_34 ?_
        refine j_get fl_X6_28 (cV_g_3_1 x σ) d6_close_35 ?_
        refine j_nmi (fun x5 => ?_)
        refine j_istore_n (i := 2) (L' := [(2, .int x5), (0, .ref (cw_a x 3)), (1, .int a1)]) d6_close_38 rfl (Nat.le_of_ble_eq_true rfl) rfl ?_
        refine j_aload_n 1 rfl d6_close_39 ?_
        refine j_dup d6_close_40 rfl ?_
        refine j_get fl_X6_41 (cV_g_3_10 x σ) d6_close_41 ?_
        refine j_iconst d6_close_44 ejc_1 ?_
        refine j_isub d6_close_45 ?_
        refine j_put fl_X6_41 (cV_p_3_10 x σ ((gI σ 18) - 1)) rfl rfl d6_close_46 (fun s6 => ?_)
        refine j_aload_n 1 rfl d6_close_49 ?_
        refine j_aload_n 1 rfl d6_close_50 ?_
        refine j_get fl_X6_9 (cV_g_3_6 x s6) d6_close_51 ?_
        refine j_aload_n 1 rfl d6_close_54 ?_
        refine j_get fl_X6_41 (cV_g_3_10 x s6) d6_close_55 ?_
        refine j_iald (cV_a_35 x s6) d6_close_58 ?_
        refine j_put fl_X6_28 (cV_p_3_1 x s6 (gA s6 14 (gI s6 18).toNatClampNeg)) rfl rfl d6_close_59 (fun s7 => ?_)
        refine j_aload_n 1 rfl d6_close_62 ?_
        refine j_aload_n 1 rfl d6_close_63 ?_
        refine j_get fl_X6_15 (cV_g_3_7 x s7) d6_close_64 ?_
        refine j_aload_n 1 rfl d6_close_67 ?_
        refine j_get fl_X6_41 (cV_g_3_10 x s7) d6_close_68 ?_
        refine j_iald (cV_a_36 x s7) d6_close_71 ?_
        refine j_put fl_X6_70 (cV_p_3_2 x s7 (gA s7 15 (gI s7 18).toNatClampNeg)) rfl rfl d6_close_72 (fun s8 => ?_)
        refine j_aload_n 1 rfl d6_close_75 ?_
        refine j_aload_n 1 rfl d6_close_76 ?_
        refine j_get fl_X6_18 (cV_g_3_8 x s8) d6_close_77 ?_
        refine j_aload_n 1 rfl d6_close_80 ?_
        refine j_get fl_X6_41 (cV_g_3_10 x s8) d6_close_81 ?_
        refine j_iald (cV_a_37 x s8) d6_close_84 ?_
        refine j_put fl_X6_80 (cV_p_3_3 x s8 (gA s8 16 (gI s8 18).toNatClampNeg)) rfl rfl d6_close_85 (fun s9 => ?_)
        refine j_aload_n 1 rfl d6_close_88 ?_
        refine j_aload_n 1 rfl d6_close_89 ?_
        refine j_get fl_X6_21 (cV_g_3_9 x s9) d6_close_90 ?_
        refine j_aload_n 1 rfl d6_close_93 ?_
        refine j_get fl_X6_41 (cV_g_3_10 x s9) d6_close_94 ?_
        refine j_iald (cV_a_38 x s9) d6_close_97 ?_
        refine j_put fl_X6_64 (cV_p_3_4 x s9 (gA s9 17 (gI s9 18).toNatClampNeg)) rfl rfl d6_close_98 (fun s10 => ?_)
        refine j_aload_n 1 rfl d6_close_101 ?_
        refine j_iload_n 0 rfl d6_close_102 ?_
        refine j_put fl_X6_83 (cV_p_3_5 x s10 x5) rfl rfl d6_close_103 (fun s11 => ?_)
        refine j_iconst d6_close_106 ejc_1 ?_
        exact j_zreturn1 hq d6_close_107
      · refine j_aload_n 0 rfl d6_close_24 ?_
        refine j_iconst d6_close_25 ejc_1 ?_
        refine j_aload_n 0 rfl d6_close_26 ?_
        refine j_get fl_X6_32 (cV_g_3_11 x σ) d6_close_27 ?_
        refine j_callVi (c6_fail x n 1 (gI σ 19) σ) lv_X6_76 (cV_rc_3 x σ) ⟨Nat.le_of_ble_eq_true rfl, Nat.le_of_ble_eq_true rfl⟩ d6_close_30 rfl (Nat.le_of_ble_eq_true rfl) (fun r13 s12 => ?_)
        exact j_zreturn hq d6_close_33
theorem c6_close (x : cw_T) (n : Nat) (a1 : Int32) (σ : ej_S) : ∀ r σ1, m6_close n a1 σ = some (r, σ1) → ∀ l, ej_Con l (cV x) i6_close yX6_close (some .boolean) [.ref (cw_a x 3), .int a1] σ (some (.int r)) σ1 := fun r σ1 h l => ej_con_of (cV_ok x) pn_X6 rfl (Nat.le_of_ble_eq_true rfl) rfl h (fun F hq => j6_close x n a1 σ hq)

noncomputable def m6_workOut_99 (n : Nat) (f18 : Int32 → Int32 → ej_S → Option (Int32 × ej_S)) (y13 : Int32) (σ : ej_S) : Option (Int32 × ej_S) := ej_nm (uI σ 16 (gI σ 19)) fun s14 => ej_nm (uI s14 19 ((gI s14 19) + 1)) fun s15 => ej_nm (y13 + 1) fun x16 => (f18 0 x16 s15)
set_option maxRecDepth 20000 in
set_option maxHeartbeats 2000000 in
theorem j6_workOut_99 (x : cw_T) (n : Nat) {F : ej_F} {r0 : Int32 × ej_S} (hq : ej_fin (cV x) F (some .boolean) (some (.int r0.1)) r0.2) (f18 : Int32 → Int32 → ej_S → Option (Int32 × ej_S)) (H18 : ∀ (y4 : Int32) (y5 : Int32) (σ : ej_S), ej_J (cV x) F i6_workOut r0 σ 18 [(0, .ref (cw_a x 3)), (2, .int y4), (3, .int y5)] [] (f18 y4 y5 σ)) (y13 : Int32) (σ : ej_S) : ej_J (cV x) F i6_workOut r0 σ 99 [(0, .ref (cw_a x 3)), (3, .int y13)] [] (m6_workOut_99 n f18 y13 σ) := by
  unfold m6_workOut_99
  refine j_aload_n 0 rfl d6_workOut_99 ?_
  refine j_aload_n 0 rfl d6_workOut_100 ?_
  refine j_get fl_X6_32 (cV_g_3_11 x σ) d6_workOut_101 ?_
  refine j_put fl_X6_64 (cV_p_3_4 x σ (gI σ 19)) rfl rfl d6_workOut_104 (fun s14 => ?_)
  refine j_iconst d6_workOut_107 ejc_0 ?_
  refine j_istore_n (i := 2) (L' := [(2, .int 0), (0, .ref (cw_a x 3)), (3, .int y13)]) d6_workOut_108 rfl (Nat.le_of_ble_eq_true rfl) rfl ?_
  refine j_goto d6_workOut_109 ?_
  refine j_aload_n 1 rfl d6_workOut_175 ?_
  refine j_dup d6_workOut_176 rfl ?_
  refine j_get fl_X6_32 (cV_g_3_11 x s14) d6_workOut_177 ?_
  refine j_iconst d6_workOut_180 ejc_1 ?_
  refine j_iadd d6_workOut_181 ?_
  refine j_put fl_X6_32 (cV_p_3_11 x s14 ((gI s14 19) + 1)) rfl rfl d6_workOut_182 (fun s15 => ?_)
  refine j_iinc (i := 3) (v := 1) (Ly := fun x16 => [(3, .int x16), (2, .int 0), (0, .ref (cw_a x 3))]) 2 d6_workOut_185 rfl ejc_1 (Nat.le_of_ble_eq_true rfl) (fun _ => rfl) (fun x16 => ?_)
  refine j_goto d6_workOut_188 ?_
  exact j_sub [2, 1, 0] rfl (H18 0 x16 s15)
noncomputable def m6_workOut_135 (n : Nat) (f18 : Int32 → Int32 → ej_S → Option (Int32 × ej_S)) (y19 : Int32) (σ : ej_S) : Option (Int32 × ej_S) := ej_nm (uI σ 14 (gI σ 19)) fun s20 => ej_nm (uI s20 19 ((gI s20 19) + 1)) fun s21 => ej_nm (y19 + 1) fun x22 => (f18 0 x22 s21)
set_option maxRecDepth 20000 in
set_option maxHeartbeats 2000000 in
theorem j6_workOut_135 (x : cw_T) (n : Nat) {F : ej_F} {r0 : Int32 × ej_S} (hq : ej_fin (cV x) F (some .boolean) (some (.int r0.1)) r0.2) (f18 : Int32 → Int32 → ej_S → Option (Int32 × ej_S)) (H18 : ∀ (y4 : Int32) (y5 : Int32) (σ : ej_S), ej_J (cV x) F i6_workOut r0 σ 18 [(0, .ref (cw_a x 3)), (2, .int y4), (3, .int y5)] [] (f18 y4 y5 σ)) (y19 : Int32) (σ : ej_S) : ej_J (cV x) F i6_workOut r0 σ 135 [(0, .ref (cw_a x 3)), (3, .int y19)] [] (m6_workOut_135 n f18 y19 σ) := by
  unfold m6_workOut_135
  refine j_aload_n 0 rfl d6_workOut_135 ?_
  refine j_aload_n 0 rfl d6_workOut_136 ?_
  refine j_get fl_X6_32 (cV_g_3_11 x σ) d6_workOut_137 ?_
  refine j_put fl_X6_70 (cV_p_3_2 x σ (gI σ 19)) rfl rfl d6_workOut_140 (fun s20 => ?_)
  refine j_iconst d6_workOut_143 ejc_0 ?_
  refine j_istore_n (i := 2) (L' := [(2, .int 0), (0, .ref (cw_a x 3)), (3, .int y19)]) d6_workOut_144 rfl (Nat.le_of_ble_eq_true rfl) rfl ?_
  refine j_goto d6_workOut_145 ?_
  refine j_aload_n 1 rfl d6_workOut_175 ?_
  refine j_dup d6_workOut_176 rfl ?_
  refine j_get fl_X6_32 (cV_g_3_11 x s20) d6_workOut_177 ?_
  refine j_iconst d6_workOut_180 ejc_1 ?_
  refine j_iadd d6_workOut_181 ?_
  refine j_put fl_X6_32 (cV_p_3_11 x s20 ((gI s20 19) + 1)) rfl rfl d6_workOut_182 (fun s21 => ?_)
  refine j_iinc (i := 3) (v := 1) (Ly := fun x22 => [(3, .int x22), (2, .int 0), (0, .ref (cw_a x 3))]) 2 d6_workOut_185 rfl ejc_1 (Nat.le_of_ble_eq_true rfl) (fun _ => rfl) (fun x22 => ?_)
  refine j_goto d6_workOut_188 ?_
  exact j_sub [2, 1, 0] rfl (H18 0 x22 s21)
noncomputable def m6_workOut_58 (n : Nat) (f18 : Int32 → Int32 → ej_S → Option (Int32 × ej_S)) (y10 : Int32) (y11 : Int32) (y12 : Int32) (σ : ej_S) : Option (Int32 × ej_S) := (if y10 = 0 then ej_bi (m6_readFactor n y12 σ) fun r30 s29 => (if r30 = 0 then (some (0, s29)) else ej_bi (m6_endFactor n s29) fun r32 s31 => (if r32 = 0 then (some (0, s31)) else ej_nm (uI s31 19 ((gI s31 19) + 1)) fun s33 => ej_nm (y11 + 1) fun x34 => (f18 1 x34 s33))) else (if y12 = 42 then (m6_workOut_99 n f18 y11 σ) else (if y12 = 47 then (m6_workOut_99 n f18 y11 σ) else ej_bi (m6_endProduct n σ) fun r18 s17 => (if r18 = 0 then (some (0, s17)) else (if y12 = 43 then (m6_workOut_135 n f18 y11 s17) else (if y12 = 45 then (m6_workOut_135 n f18 y11 s17) else (if gI s17 18 = 0 then (some (1, s17)) else ej_bi (m6_close n y12 s17) fun r24 s23 => (if r24 = 0 then (some (0, s23)) else ej_bi (m6_endFactor n s23) fun r26 s25 => (if r26 = 0 then (some (0, s25)) else ej_nm (uI s25 19 ((gI s25 19) + 1)) fun s27 => ej_nm (y11 + 1) fun x28 => (f18 y10 x28 s27))))))))))
set_option maxRecDepth 20000 in
set_option maxHeartbeats 2000000 in
theorem j6_workOut_58 (x : cw_T) (n : Nat) {F : ej_F} {r0 : Int32 × ej_S} (hq : ej_fin (cV x) F (some .boolean) (some (.int r0.1)) r0.2) (f18 : Int32 → Int32 → ej_S → Option (Int32 × ej_S)) (H18 : ∀ (y4 : Int32) (y5 : Int32) (σ : ej_S), ej_J (cV x) F i6_workOut r0 σ 18 [(0, .ref (cw_a x 3)), (2, .int y4), (3, .int y5)] [] (f18 y4 y5 σ)) (y10 : Int32) (y11 : Int32) (y12 : Int32) (σ : ej_S) : ej_J (cV x) F i6_workOut r0 σ 58 [(0, .ref (cw_a x 3)), (2, .int y10), (3, .int y11), (4, .int y12)] [] (m6_workOut_58 n f18 y10 y11 y12 σ) := by
  unfold m6_workOut_58
  refine j_iload_n 1 rfl d6_workOut_58 ?_
  refine j_if_ne d6_workOut_59 ?_ ?_
  · refine j_iload 3 rfl d6_workOut_85 ?_
    refine j_bipush d6_workOut_87 ejb_42 ?_
    refine j_icmp_eq d6_workOut_89 ?_ ?_
    · exact j_sub [0, 2] rfl (j6_workOut_99 x n hq f18 H18 y11 σ)
    · refine j_iload 3 rfl d6_workOut_92 ?_
      refine j_bipush d6_workOut_94 ejb_47 ?_
      refine j_icmp_ne d6_workOut_96 ?_ ?_
      · refine j_aload_n 0 rfl d6_workOut_112 ?_
        refine j_callVi (c6_endProduct x n σ) lv_X6_67 (cV_rc_3 x σ) ⟨Nat.le_of_ble_eq_true rfl, Nat.le_of_ble_eq_true rfl⟩ d6_workOut_113 rfl (Nat.le_of_ble_eq_true rfl) (fun r18 s17 => ?_)
        refine j_if_ne d6_workOut_116 ?_ ?_
        · refine j_iload 3 rfl d6_workOut_121 ?_
          refine j_bipush d6_workOut_123 ejb_43 ?_
          refine j_icmp_eq d6_workOut_125 ?_ ?_
          · exact j_sub [0, 2] rfl (j6_workOut_135 x n hq f18 H18 y11 s17)
          · refine j_iload 3 rfl d6_workOut_128 ?_
            refine j_bipush d6_workOut_130 ejb_45 ?_
            refine j_icmp_ne d6_workOut_132 ?_ ?_
            · refine j_aload_n 0 rfl d6_workOut_148 ?_
              refine j_get fl_X6_41 (cV_g_3_10 x s17) d6_workOut_149 ?_
              refine j_if_ne d6_workOut_152 ?_ ?_
              · refine j_aload_n 0 rfl d6_workOut_157 ?_
                refine j_iload 3 rfl d6_workOut_158 ?_
                refine j_callVi (c6_close x n y12 s17) lv_X6_73 (cV_rc_3 x s17) ⟨Nat.le_of_ble_eq_true rfl, Nat.le_of_ble_eq_true rfl⟩ d6_workOut_160 rfl (Nat.le_of_ble_eq_true rfl) (fun r24 s23 => ?_)
                refine j_if_eq d6_workOut_163 ?_ ?_
                · refine j_iconst d6_workOut_173 ejc_0 ?_
                  exact j_zreturn0 hq d6_workOut_174
                · refine j_aload_n 0 rfl d6_workOut_166 ?_
                  refine j_callVi (c6_endFactor x n s23) lv_X6_61 (cV_rc_3 x s23) ⟨Nat.le_of_ble_eq_true rfl, Nat.le_of_ble_eq_true rfl⟩ d6_workOut_167 rfl (Nat.le_of_ble_eq_true rfl) (fun r26 s25 => ?_)
                  refine j_if_ne d6_workOut_170 ?_ ?_
                  · refine j_aload_n 0 rfl d6_workOut_175 ?_
                    refine j_dup d6_workOut_176 rfl ?_
                    refine j_get fl_X6_32 (cV_g_3_11 x s25) d6_workOut_177 ?_
                    refine j_iconst d6_workOut_180 ejc_1 ?_
                    refine j_iadd d6_workOut_181 ?_
                    refine j_put fl_X6_32 (cV_p_3_11 x s25 ((gI s25 19) + 1)) rfl rfl d6_workOut_182 (fun s27 => ?_)
                    refine j_iinc (i := 3) (v := 1) (Ly := fun x28 => [(3, .int x28), (0, .ref (cw_a x 3)), (2, .int y10), (4, .int y12)]) 2 d6_workOut_185 rfl ejc_1 (Nat.le_of_ble_eq_true rfl) (fun _ => rfl) (fun x28 => ?_)
                    refine j_goto d6_workOut_188 ?_
                    exact j_sub [1, 2, 0] rfl (H18 y10 x28 s27)
                  · refine j_iconst d6_workOut_173 ejc_0 ?_
                    exact j_zreturn0 hq d6_workOut_174
              · refine j_iconst d6_workOut_155 ejc_1 ?_
                exact j_zreturn1 hq d6_workOut_156
            · exact j_sub [0, 2] rfl (j6_workOut_135 x n hq f18 H18 y11 s17)
        · refine j_iconst d6_workOut_119 ejc_0 ?_
          exact j_zreturn0 hq d6_workOut_120
      · exact j_sub [0, 2] rfl (j6_workOut_99 x n hq f18 H18 y11 σ)
  · refine j_aload_n 0 rfl d6_workOut_62 ?_
    refine j_iload 3 rfl d6_workOut_63 ?_
    refine j_callVi (c6_readFactor x n y12 σ) lv_X6_57 (cV_rc_3 x σ) ⟨Nat.le_of_ble_eq_true rfl, Nat.le_of_ble_eq_true rfl⟩ d6_workOut_65 rfl (Nat.le_of_ble_eq_true rfl) (fun r30 s29 => ?_)
    refine j_if_eq d6_workOut_68 ?_ ?_
    · refine j_iconst d6_workOut_78 ejc_0 ?_
      exact j_zreturn0 hq d6_workOut_79
    · refine j_aload_n 0 rfl d6_workOut_71 ?_
      refine j_callVi (c6_endFactor x n s29) lv_X6_61 (cV_rc_3 x s29) ⟨Nat.le_of_ble_eq_true rfl, Nat.le_of_ble_eq_true rfl⟩ d6_workOut_72 rfl (Nat.le_of_ble_eq_true rfl) (fun r32 s31 => ?_)
      refine j_if_ne d6_workOut_75 ?_ ?_
      · refine j_iconst d6_workOut_80 ejc_1 ?_
        refine j_istore_n (i := 2) (L' := [(2, .int 1), (0, .ref (cw_a x 3)), (3, .int y11), (4, .int y12)]) d6_workOut_81 rfl (Nat.le_of_ble_eq_true rfl) rfl ?_
        refine j_goto d6_workOut_82 ?_
        refine j_aload_n 1 rfl d6_workOut_175 ?_
        refine j_dup d6_workOut_176 rfl ?_
        refine j_get fl_X6_32 (cV_g_3_11 x s31) d6_workOut_177 ?_
        refine j_iconst d6_workOut_180 ejc_1 ?_
        refine j_iadd d6_workOut_181 ?_
        refine j_put fl_X6_32 (cV_p_3_11 x s31 ((gI s31 19) + 1)) rfl rfl d6_workOut_182 (fun s33 => ?_)
        refine j_iinc (i := 3) (v := 1) (Ly := fun x34 => [(3, .int x34), (2, .int 1), (0, .ref (cw_a x 3)), (4, .int y12)]) 2 d6_workOut_185 rfl ejc_1 (Nat.le_of_ble_eq_true rfl) (fun _ => rfl) (fun x34 => ?_)
        refine j_goto d6_workOut_188 ?_
        exact j_sub [2, 1, 0] rfl (H18 1 x34 s33)
      · refine j_iconst d6_workOut_78 ejc_0 ?_
        exact j_zreturn0 hq d6_workOut_79
noncomputable def m6_workOut_18 (n : Nat) (k : Nat) : Int32 → Int32 → ej_S → Option (Int32 × ej_S) := Nat.rec (motive := fun _ => Int32 → Int32 → ej_S → Option (Int32 × ej_S)) (fun _ _ _ => none) (fun _ ih y4 y5 σ => (if 600 < y5 then ej_bi (m6_fail n 1 (gI σ 19) σ) fun r7 s6 => (some (ej_bz r7, s6)) else ej_bi (m8_sortAt n (gI σ 19) σ) fun r9 s8 => (if y4 = 0 then (if r9 = 40 then ej_bi (m6_open n s8) fun r36 s35 => (if r36 = 0 then (some (0, s35)) else ej_nm (uI s35 19 ((gI s35 19) + 1)) fun s37 => ej_nm (y5 + 1) fun x38 => (ih y4 x38 s37)) else (m6_workOut_58 n ih y4 y5 r9 s8)) else (m6_workOut_58 n ih y4 y5 r9 s8)))) k
theorem m6_workOut_18_s (n : Nat) (k : Nat) (y4 : Int32) (y5 : Int32) (σ : ej_S) : m6_workOut_18 n (k + 1) y4 y5 σ = ((if 600 < y5 then ej_bi (m6_fail n 1 (gI σ 19) σ) fun r7 s6 => (some (ej_bz r7, s6)) else ej_bi (m8_sortAt n (gI σ 19) σ) fun r9 s8 => (if y4 = 0 then (if r9 = 40 then ej_bi (m6_open n s8) fun r36 s35 => (if r36 = 0 then (some (0, s35)) else ej_nm (uI s35 19 ((gI s35 19) + 1)) fun s37 => ej_nm (y5 + 1) fun x38 => ((m6_workOut_18 n k) y4 x38 s37)) else (m6_workOut_58 n (m6_workOut_18 n k) y4 y5 r9 s8)) else (m6_workOut_58 n (m6_workOut_18 n k) y4 y5 r9 s8))) : Option (Int32 × ej_S)) := rfl
set_option maxRecDepth 20000 in
set_option maxHeartbeats 2000000 in
theorem j6_workOut_18 (x : cw_T) (n : Nat) {F : ej_F} {r0 : Int32 × ej_S} (hq : ej_fin (cV x) F (some .boolean) (some (.int r0.1)) r0.2) : ∀ (k : Nat) (y4 : Int32) (y5 : Int32) (σ : ej_S), ej_J (cV x) F i6_workOut r0 σ 18 [(0, .ref (cw_a x 3)), (2, .int y4), (3, .int y5)] [] (m6_workOut_18 n k y4 y5 σ) := by
  intro k
  induction k with
  | zero => intro y4 y5 σ; exact j_none
  | succ k ih =>
    intro y4 y5 σ
    rw [m6_workOut_18_s]
    refine j_iload_n 2 rfl d6_workOut_18 ?_
    refine j_sipush d6_workOut_19 ejs_600 ?_
    refine j_icmp_gt d6_workOut_22 ?_ ?_
    · refine j_aload_n 0 rfl d6_workOut_191 ?_
      refine j_iconst d6_workOut_192 ejc_1 ?_
      refine j_aload_n 0 rfl d6_workOut_193 ?_
      refine j_get fl_X6_32 (cV_g_3_11 x σ) d6_workOut_194 ?_
      refine j_callVi (c6_fail x n 1 (gI σ 19) σ) lv_X6_76 (cV_rc_3 x σ) ⟨Nat.le_of_ble_eq_true rfl, Nat.le_of_ble_eq_true rfl⟩ d6_workOut_197 rfl (Nat.le_of_ble_eq_true rfl) (fun r7 s6 => ?_)
      exact j_zreturn hq d6_workOut_200
    · refine j_aload_n 0 rfl d6_workOut_25 ?_
      refine j_get fl_X6_24 (cV_g_3_0 x σ) d6_workOut_26 ?_
      refine j_aload_n 0 rfl d6_workOut_29 ?_
      refine j_get fl_X6_32 (cV_g_3_11 x σ) d6_workOut_30 ?_
      refine j_callVi (c8_sortAt x n (gI σ 19) σ) lv_X6_47 (cV_rc_2 x σ) ⟨Nat.le_of_ble_eq_true rfl, Nat.le_of_ble_eq_true rfl⟩ d6_workOut_33 rfl (Nat.le_of_ble_eq_true rfl) (fun r9 s8 => ?_)
      refine j_istore (i := 4) (L' := [(4, .int r9), (0, .ref (cw_a x 3)), (2, .int y4), (3, .int y5)]) d6_workOut_36 (Nat.le_of_ble_eq_true rfl) rfl ?_
      refine j_iload_n 2 rfl d6_workOut_38 ?_
      refine j_if_ne d6_workOut_39 ?_ ?_
      · exact j_sub [1, 2, 3, 0] rfl (j6_workOut_58 x n hq (m6_workOut_18 n k) ih y4 y5 r9 s8)
      · refine j_iload 0 rfl d6_workOut_42 ?_
        refine j_bipush d6_workOut_44 ejb_40 ?_
        refine j_icmp_ne d6_workOut_46 ?_ ?_
        · exact j_sub [1, 2, 3, 0] rfl (j6_workOut_58 x n hq (m6_workOut_18 n k) ih y4 y5 r9 s8)
        · refine j_aload_n 1 rfl d6_workOut_49 ?_
          refine j_callVi (c6_open x n s8) lv_X6_53 (cV_rc_3 x s8) ⟨Nat.le_of_ble_eq_true rfl, Nat.le_of_ble_eq_true rfl⟩ d6_workOut_50 rfl (Nat.le_of_ble_eq_true rfl) (fun r36 s35 => ?_)
          refine j_if_ne d6_workOut_53 ?_ ?_
          · refine j_aload_n 1 rfl d6_workOut_175 ?_
            refine j_dup d6_workOut_176 rfl ?_
            refine j_get fl_X6_32 (cV_g_3_11 x s35) d6_workOut_177 ?_
            refine j_iconst d6_workOut_180 ejc_1 ?_
            refine j_iadd d6_workOut_181 ?_
            refine j_put fl_X6_32 (cV_p_3_11 x s35 ((gI s35 19) + 1)) rfl rfl d6_workOut_182 (fun s37 => ?_)
            refine j_iinc (i := 3) (v := 1) (Ly := fun x38 => [(3, .int x38), (4, .int r9), (0, .ref (cw_a x 3)), (2, .int y4)]) 3 d6_workOut_185 rfl ejc_1 (Nat.le_of_ble_eq_true rfl) (fun _ => rfl) (fun x38 => ?_)
            refine j_goto d6_workOut_188 ?_
            exact j_sub [2, 3, 0] rfl (ih y4 x38 s37)
          · refine j_iconst d6_workOut_56 ejc_0 ?_
            exact j_zreturn0 hq d6_workOut_57
noncomputable def m6_workOut (n : Nat) (a1 : Int32) (σ : ej_S) : Option (Int32 × ej_S) := ej_nm (uI σ 19 a1) fun s1 => ej_nm (uI s1 18 0) fun s2 => ej_bv (m6_beginSum n s2) fun s3 => (m6_workOut_18 n n 0 0 s3)
set_option maxRecDepth 20000 in
set_option maxHeartbeats 2000000 in
theorem j6_workOut (x : cw_T) (n : Nat) (a1 : Int32) (σ : ej_S) {F : ej_F} {r0 : Int32 × ej_S} (hq : ej_fin (cV x) F (some .boolean) (some (.int r0.1)) r0.2) : ej_J (cV x) F i6_workOut r0 σ 0 [(0, .ref (cw_a x 3)), (1, .int a1)] [] (m6_workOut n a1 σ) := by
  unfold m6_workOut
  refine j_aload_n 0 rfl d6_workOut_0 ?_
  refine j_iload_n 1 rfl d6_workOut_1 ?_
  refine j_put fl_X6_32 (cV_p_3_11 x σ a1) rfl rfl d6_workOut_2 (fun s1 => ?_)
  refine j_aload_n 0 rfl d6_workOut_5 ?_
  refine j_iconst d6_workOut_6 ejc_0 ?_
  refine j_put fl_X6_41 (cV_p_3_10 x s1 0) rfl rfl d6_workOut_7 (fun s2 => ?_)
  refine j_aload_n 0 rfl d6_workOut_10 ?_
  refine j_callVv (c6_beginSum x n s2) lv_X6_44 (cV_rc_3 x s2) ⟨Nat.le_of_ble_eq_true rfl, Nat.le_of_ble_eq_true rfl⟩ d6_workOut_11 rfl (Nat.le_of_ble_eq_true rfl) (fun s3 => ?_)
  refine j_iconst d6_workOut_14 ejc_0 ?_
  refine j_istore_n (i := 2) (L' := [(2, .int 0), (0, .ref (cw_a x 3)), (1, .int a1)]) d6_workOut_15 rfl (Nat.le_of_ble_eq_true rfl) rfl ?_
  refine j_iconst d6_workOut_16 ejc_0 ?_
  refine j_istore_n (i := 3) (L' := [(3, .int 0), (2, .int 0), (0, .ref (cw_a x 3)), (1, .int a1)]) d6_workOut_17 rfl (Nat.le_of_ble_eq_true rfl) rfl ?_
  exact j_sub [2, 1, 0] rfl (j6_workOut_18 x n hq n 0 0 s3)
theorem c6_workOut (x : cw_T) (n : Nat) (a1 : Int32) (σ : ej_S) : ∀ r σ1, m6_workOut n a1 σ = some (r, σ1) → ∀ l, ej_Con l (cV x) i6_workOut yX6_workOut (some .boolean) [.ref (cw_a x 3), .int a1] σ (some (.int r)) σ1 := fun r σ1 h l => ej_con_of (cV_ok x) pn_X6 rfl (Nat.le_of_ble_eq_true rfl) rfl h (fun F hq => j6_workOut x n a1 σ hq)

noncomputable def m6_faultCode (n : Nat)  (σ : ej_S) : Option (Int32 × ej_S) := (some (gI σ 20, σ))
set_option maxRecDepth 20000 in
set_option maxHeartbeats 2000000 in
theorem j6_faultCode (x : cw_T) (n : Nat)  (σ : ej_S) {F : ej_F} {r0 : Int32 × ej_S} (hq : ej_fin (cV x) F (some .int) (some (.int r0.1)) r0.2) : ej_J (cV x) F i6_faultCode r0 σ 0 [(0, .ref (cw_a x 3))] [] (m6_faultCode n  σ) := by
  unfold m6_faultCode
  refine j_aload_n 0 rfl d6_faultCode_0 ?_
  refine j_get fl_X6_35 (cV_g_3_12 x σ) d6_faultCode_1 ?_
  exact j_ireturn hq d6_faultCode_4
theorem c6_faultCode (x : cw_T) (n : Nat)  (σ : ej_S) : ∀ r σ1, m6_faultCode n  σ = some (r, σ1) → ∀ l, ej_Con l (cV x) i6_faultCode yX6_faultCode (some .int) [.ref (cw_a x 3)] σ (some (.int r)) σ1 := fun r σ1 h l => ej_con_of (cV_ok x) pn_X6 rfl (Nat.le_of_ble_eq_true rfl) rfl h (fun F hq => j6_faultCode x n  σ hq)

noncomputable def m6_faultToken (n : Nat)  (σ : ej_S) : Option (Int32 × ej_S) := (some (gI σ 21, σ))
set_option maxRecDepth 20000 in
set_option maxHeartbeats 2000000 in
theorem j6_faultToken (x : cw_T) (n : Nat)  (σ : ej_S) {F : ej_F} {r0 : Int32 × ej_S} (hq : ej_fin (cV x) F (some .int) (some (.int r0.1)) r0.2) : ej_J (cV x) F i6_faultToken r0 σ 0 [(0, .ref (cw_a x 3))] [] (m6_faultToken n  σ) := by
  unfold m6_faultToken
  refine j_aload_n 0 rfl d6_faultToken_0 ?_
  refine j_get fl_X6_38 (cV_g_3_13 x σ) d6_faultToken_1 ?_
  exact j_ireturn hq d6_faultToken_4
theorem c6_faultToken (x : cw_T) (n : Nat)  (σ : ej_S) : ∀ r σ1, m6_faultToken n  σ = some (r, σ1) → ∀ l, ej_Con l (cV x) i6_faultToken yX6_faultToken (some .int) [.ref (cw_a x 3)] σ (some (.int r)) σ1 := fun r σ1 h l => ej_con_of (cV_ok x) pn_X6 rfl (Nat.le_of_ble_eq_true rfl) rfl h (fun F hq => j6_faultToken x n  σ hq)

noncomputable def m6_next (n : Nat)  (σ : ej_S) : Option (Int32 × ej_S) := (some (gI σ 19, σ))
set_option maxRecDepth 20000 in
set_option maxHeartbeats 2000000 in
theorem j6_next (x : cw_T) (n : Nat)  (σ : ej_S) {F : ej_F} {r0 : Int32 × ej_S} (hq : ej_fin (cV x) F (some .int) (some (.int r0.1)) r0.2) : ej_J (cV x) F i6_next r0 σ 0 [(0, .ref (cw_a x 3))] [] (m6_next n  σ) := by
  unfold m6_next
  refine j_aload_n 0 rfl d6_next_0 ?_
  refine j_get fl_X6_32 (cV_g_3_11 x σ) d6_next_1 ?_
  exact j_ireturn hq d6_next_4
theorem c6_next (x : cw_T) (n : Nat)  (σ : ej_S) : ∀ r σ1, m6_next n  σ = some (r, σ1) → ∀ l, ej_Con l (cV x) i6_next yX6_next (some .int) [.ref (cw_a x 3)] σ (some (.int r)) σ1 := fun r σ1 h l => ej_con_of (cV_ok x) pn_X6 rfl (Nat.le_of_ble_eq_true rfl) rfl h (fun F hq => j6_next x n  σ hq)

noncomputable def m6_result (n : Nat)  (σ : ej_S) : Option (Int32 × ej_S) := (some (gI σ 13, σ))
set_option maxRecDepth 20000 in
set_option maxHeartbeats 2000000 in
theorem j6_result (x : cw_T) (n : Nat)  (σ : ej_S) {F : ej_F} {r0 : Int32 × ej_S} (hq : ej_fin (cV x) F (some .int) (some (.int r0.1)) r0.2) : ej_J (cV x) F i6_result r0 σ 0 [(0, .ref (cw_a x 3))] [] (m6_result n  σ) := by
  unfold m6_result
  refine j_aload_n 0 rfl d6_result_0 ?_
  refine j_get fl_X6_28 (cV_g_3_1 x σ) d6_result_1 ?_
  exact j_ireturn hq d6_result_4
theorem c6_result (x : cw_T) (n : Nat)  (σ : ej_S) : ∀ r σ1, m6_result n  σ = some (r, σ1) → ∀ l, ej_Con l (cV x) i6_result yX6_result (some .int) [.ref (cw_a x 3)] σ (some (.int r)) σ1 := fun r σ1 h l => ej_con_of (cV_ok x) pn_X6 rfl (Nat.le_of_ble_eq_true rfl) rfl h (fun F hq => j6_result x n  σ hq)

