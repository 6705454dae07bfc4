noncomputable def m4_statements (n : Nat)  (σ : ej_S) : Option (Int32 × ej_S) := (some (gI σ 31, σ))
set_option maxRecDepth 20000 in
set_option maxHeartbeats 2000000 in
theorem j4_statements (x : cw_T) (n : Nat)  (σ : ej_S) {F : ej_F} {r0 : Int32 × ej_S} (hq : ej_fin (cV x) F (some .int) (some (.int r0.1)) r0.2) : ej_J (cV x) F i4_statements r0 σ 0 [(0, .ref (cw_a x 5))] [] (m4_statements n  σ) := by
  unfold m4_statements
  refine j_aload_n 0 rfl d4_statements_0 ?_
  refine j_get fl_X4_27 (cV_g_5_6 x σ) d4_statements_1 ?_
  exact j_ireturn hq d4_statements_4
theorem c4_statements (x : cw_T) (n : Nat)  (σ : ej_S) : ∀ r σ1, m4_statements n  σ = some (r, σ1) → ∀ l, ej_Con l (cV x) i4_statements yX4_statements (some .int) [.ref (cw_a x 5)] σ (some (.int r)) σ1 := fun r σ1 h l => ej_con_of (cV_ok x) pn_X4 rfl (Nat.le_of_ble_eq_true rfl) rfl h (fun F hq => j4_statements x n  σ hq)

noncomputable def m4_take (n : Nat) (a1 : Int32) (σ : ej_S) : Option (Int32 × ej_S) := ej_bi (m8_sortAt n (gI σ 30) σ) fun r2 s1 => (if r2 = a1 then ej_nm (uI s1 30 ((gI s1 30) + 1)) fun s3 => (some (1, s3)) else (some (0, s1)))
set_option maxRecDepth 20000 in
set_option maxHeartbeats 2000000 in
theorem j4_take (x : cw_T) (n : Nat) (a1 : Int32) (σ : ej_S) {F : ej_F} {r0 : Int32 × ej_S} (hq : ej_fin (cV x) F (some .boolean) (some (.int r0.1)) r0.2) : ej_J (cV x) F i4_take r0 σ 0 [(0, .ref (cw_a x 5)), (1, .int a1)] [] (m4_take n a1 σ) := by
  unfold m4_take
  refine j_aload_n 0 rfl d4_take_0 ?_
  refine j_get fl_X4_9 (cV_g_5_0 x σ) d4_take_1 ?_
  refine j_aload_n 0 rfl d4_take_4 ?_
  refine j_get fl_X4_40 (cV_g_5_5 x σ) d4_take_5 ?_
  refine j_callVi (c8_sortAt x n (gI σ 30) σ) lv_X4_43 (cV_rc_2 x σ) ⟨Nat.le_of_ble_eq_true rfl, Nat.le_of_ble_eq_true rfl⟩ d4_take_8 rfl (Nat.le_of_ble_eq_true rfl) (fun r2 s1 => ?_)
  refine j_iload_n 1 rfl d4_take_11 ?_
  refine j_icmp_eq d4_take_12 ?_ ?_
  · refine j_aload_n 0 rfl d4_take_17 ?_
    refine j_dup d4_take_18 rfl ?_
    refine j_get fl_X4_40 (cV_g_5_5 x s1) d4_take_19 ?_
    refine j_iconst d4_take_22 ejc_1 ?_
    refine j_iadd d4_take_23 ?_
    refine j_put fl_X4_40 (cV_p_5_5 x s1 ((gI s1 30) + 1)) rfl rfl d4_take_24 (fun s3 => ?_)
    refine j_iconst d4_take_27 ejc_1 ?_
    exact j_zreturn1 hq d4_take_28
  · refine j_iconst d4_take_15 ejc_0 ?_
    exact j_zreturn0 hq d4_take_16
theorem c4_take (x : cw_T) (n : Nat) (a1 : Int32) (σ : ej_S) : ∀ r σ1, m4_take n a1 σ = some (r, σ1) → ∀ l, ej_Con l (cV x) i4_take yX4_take (some .boolean) [.ref (cw_a x 5), .int a1] σ (some (.int r)) σ1 := fun r σ1 h l => ej_con_of (cV_ok x) pn_X4 rfl (Nat.le_of_ble_eq_true rfl) rfl h (fun F hq => j4_take x n a1 σ hq)

noncomputable def m4_listAhead (n : Nat)  (σ : ej_S) : Option (Int32 × ej_S) := ej_bi (m8_sortAt n ((gI σ 30) + 1) σ) fun r2 s1 => (if r2 = 123 then ej_bi (m8_isAt n 0 (gI s1 30) s1) fun r4 s3 => (if r4 = 0 then ej_bi (m8_isAt n 1 (gI s3 30) s3) fun r6 s5 => (if r6 = 0 then ej_bi (m8_isAt n 2 (gI s5 30) s5) fun r8 s7 => (if r8 = 0 then (some (0, s7)) else (some (3, s7))) else (some (2, s5))) else (some (1, s3))) else (some (0, s1)))
set_option maxRecDepth 20000 in
set_option maxHeartbeats 2000000 in
theorem j4_listAhead (x : cw_T) (n : Nat)  (σ : ej_S) {F : ej_F} {r0 : Int32 × ej_S} (hq : ej_fin (cV x) F (some .int) (some (.int r0.1)) r0.2) : ej_J (cV x) F i4_listAhead r0 σ 0 [(0, .ref (cw_a x 5))] [] (m4_listAhead n  σ) := by
  unfold m4_listAhead
  refine j_aload_n 0 rfl d4_listAhead_0 ?_
  refine j_get fl_X4_9 (cV_g_5_0 x σ) d4_listAhead_1 ?_
  refine j_aload_n 0 rfl d4_listAhead_4 ?_
  refine j_get fl_X4_40 (cV_g_5_5 x σ) d4_listAhead_5 ?_
  refine j_iconst d4_listAhead_8 ejc_1 ?_
  refine j_iadd d4_listAhead_9 ?_
  refine j_callVi (c8_sortAt x n ((gI σ 30) + 1) σ) lv_X4_43 (cV_rc_2 x σ) ⟨Nat.le_of_ble_eq_true rfl, Nat.le_of_ble_eq_true rfl⟩ d4_listAhead_10 rfl (Nat.le_of_ble_eq_true rfl) (fun r2 s1 => ?_)
  refine j_bipush d4_listAhead_13 ejb_123 ?_
  refine j_icmp_eq d4_listAhead_15 ?_ ?_
  · refine j_aload_n 0 rfl d4_listAhead_20 ?_
    refine j_get fl_X4_9 (cV_g_5_0 x s1) d4_listAhead_21 ?_
    refine j_aload_n 0 rfl d4_listAhead_24 ?_
    refine j_get fl_X4_40 (cV_g_5_5 x s1) d4_listAhead_25 ?_
    refine j_ldcS (s := 0) st_X4_87 d4_listAhead_28 ?_
    refine j_callVi (c8_isAt x n 0 (Nat.le_of_ble_eq_true rfl) (gI s1 30) s1) lv_X4_89 (cV_rc_2 x s1) ⟨Nat.le_of_ble_eq_true rfl, Nat.le_of_ble_eq_true rfl⟩ d4_listAhead_30 rfl (Nat.le_of_ble_eq_true rfl) (fun r4 s3 => ?_)
    refine j_if_eq d4_listAhead_33 ?_ ?_
    · refine j_aload_n 0 rfl d4_listAhead_38 ?_
      refine j_get fl_X4_9 (cV_g_5_0 x s3) d4_listAhead_39 ?_
      refine j_aload_n 0 rfl d4_listAhead_42 ?_
      refine j_get fl_X4_40 (cV_g_5_5 x s3) d4_listAhead_43 ?_
      refine j_ldcS (s := 1) st_X4_93 d4_listAhead_46 ?_
      refine j_callVi (c8_isAt x n 1 (Nat.le_of_ble_eq_true rfl) (gI s3 30) s3) lv_X4_89 (cV_rc_2 x s3) ⟨Nat.le_of_ble_eq_true rfl, Nat.le_of_ble_eq_true rfl⟩ d4_listAhead_48 rfl (Nat.le_of_ble_eq_true rfl) (fun r6 s5 => ?_)
      refine j_if_eq d4_listAhead_51 ?_ ?_
      · refine j_aload_n 0 rfl d4_listAhead_56 ?_
        refine j_get fl_X4_9 (cV_g_5_0 x s5) d4_listAhead_57 ?_
        refine j_aload_n 0 rfl d4_listAhead_60 ?_
        refine j_get fl_X4_40 (cV_g_5_5 x s5) d4_listAhead_61 ?_
        refine j_ldcS (s := 2) st_X4_95 d4_listAhead_64 ?_
        refine j_callVi (c8_isAt x n 2 (Nat.le_of_ble_eq_true rfl) (gI s5 30) s5) lv_X4_89 (cV_rc_2 x s5) ⟨Nat.le_of_ble_eq_true rfl, Nat.le_of_ble_eq_true rfl⟩ d4_listAhead_66 rfl (Nat.le_of_ble_eq_true rfl) (fun r8 s7 => ?_)
        refine j_if_eq d4_listAhead_69 ?_ ?_
        · refine j_iconst d4_listAhead_76 ejc_0 ?_
          exact j_ireturn hq d4_listAhead_77
        · refine j_iconst d4_listAhead_72 ejc_3 ?_
          refine j_goto d4_listAhead_73 ?_
          exact j_ireturn hq d4_listAhead_77
      · refine j_iconst d4_listAhead_54 ejc_2 ?_
        exact j_ireturn hq d4_listAhead_55
    · refine j_iconst d4_listAhead_36 ejc_1 ?_
      exact j_ireturn hq d4_listAhead_37
  · refine j_iconst d4_listAhead_18 ejc_0 ?_
    exact j_ireturn hq d4_listAhead_19
theorem c4_listAhead (x : cw_T) (n : Nat)  (σ : ej_S) : ∀ r σ1, m4_listAhead n  σ = some (r, σ1) → ∀ l, ej_Con l (cV x) i4_listAhead yX4_listAhead (some .int) [.ref (cw_a x 5)] σ (some (.int r)) σ1 := fun r σ1 h l => ej_con_of (cV_ok x) pn_X4 rfl (Nat.le_of_ble_eq_true rfl) rfl h (fun F hq => j4_listAhead x n  σ hq)

noncomputable def m4_misplaced (n : Nat)  (σ : ej_S) : Option (Int32 × ej_S) := ej_bi (m8_beginAt n (gI σ 30) σ) fun r2 s1 => ej_bi (m1_tell n 1 r2 s1) fun r4 s3 => (some (ej_bz r4, s3))
set_option maxRecDepth 20000 in
set_option maxHeartbeats 2000000 in
theorem j4_misplaced (x : cw_T) (n : Nat)  (σ : ej_S) {F : ej_F} {r0 : Int32 × ej_S} (hq : ej_fin (cV x) F (some .boolean) (some (.int r0.1)) r0.2) : ej_J (cV x) F i4_misplaced r0 σ 0 [(0, .ref (cw_a x 5))] [] (m4_misplaced n  σ) := by
  unfold m4_misplaced
  refine j_aload_n 0 rfl d4_misplaced_0 ?_
  refine j_get fl_X4_23 (cV_g_5_3 x σ) d4_misplaced_1 ?_
  refine j_iconst d4_misplaced_4 ejc_1 ?_
  refine j_aload_n 0 rfl d4_misplaced_5 ?_
  refine j_get fl_X4_9 (cV_g_5_0 x σ) d4_misplaced_6 ?_
  refine j_aload_n 0 rfl d4_misplaced_9 ?_
  refine j_get fl_X4_40 (cV_g_5_5 x σ) d4_misplaced_10 ?_
  refine j_callVi (c8_beginAt x n (gI σ 30) σ) lv_X4_51 (cV_rc_2 x σ) ⟨Nat.le_of_ble_eq_true rfl, Nat.le_of_ble_eq_true rfl⟩ d4_misplaced_13 rfl (Nat.le_of_ble_eq_true rfl) (fun r2 s1 => ?_)
  refine j_callVi (c1_tell x n 1 r2 s1) lv_X4_54 (cV_rc_1 x s1) ⟨Nat.le_of_ble_eq_true rfl, Nat.le_of_ble_eq_true rfl⟩ d4_misplaced_16 rfl (Nat.le_of_ble_eq_true rfl) (fun r4 s3 => ?_)
  exact j_zreturn hq d4_misplaced_19
theorem c4_misplaced (x : cw_T) (n : Nat)  (σ : ej_S) : ∀ r σ1, m4_misplaced n  σ = some (r, σ1) → ∀ l, ej_Con l (cV x) i4_misplaced yX4_misplaced (some .boolean) [.ref (cw_a x 5)] σ (some (.int r)) σ1 := fun r σ1 h l => ej_con_of (cV_ok x) pn_X4 rfl (Nat.le_of_ble_eq_true rfl) rfl h (fun F hq => j4_misplaced x n  σ hq)

noncomputable def m4_takeName (n : Nat) (a1 : Int32) (σ : ej_S) : Option (Int32 × ej_S) := ej_bi (m8_sortAt n (gI σ 30) σ) fun r2 s1 => (if r2 = 97 then ej_bi (m8_lengthAt n (gI s1 30) s1) fun r4 s3 => (if r4 ≤ 8 then ej_bl (m8_nameAt n (gI s3 30) s3) fun r6 s5 => ej_bi (m0_nodeFor n r6 (gI s5 29) a1 s5) fun r8 s7 => ej_nm (uI s7 32 r8) fun s9 => ej_nm (uI s9 30 ((gI s9 30) + 1)) fun s10 => (some (1, s10)) else ej_bi (m8_beginAt n (gI s3 30) s3) fun r12 s11 => ej_bi (m1_tell n 2 r12 s11) fun r14 s13 => (some (ej_bz r14, s13))) else ej_bi (m4_misplaced n s1) fun r16 s15 => (some (ej_bz r16, s15)))
set_option maxRecDepth 20000 in
set_option maxHeartbeats 2000000 in
theorem j4_takeName (x : cw_T) (n : Nat) (a1 : Int32) (σ : ej_S) {F : ej_F} {r0 : Int32 × ej_S} (hq : ej_fin (cV x) F (some .boolean) (some (.int r0.1)) r0.2) : ej_J (cV x) F i4_takeName r0 σ 0 [(0, .ref (cw_a x 5)), (1, .int a1)] [] (m4_takeName n a1 σ) := by
  unfold m4_takeName
  refine j_aload_n 0 rfl d4_takeName_0 ?_
  refine j_get fl_X4_9 (cV_g_5_0 x σ) d4_takeName_1 ?_
  refine j_aload_n 0 rfl d4_takeName_4 ?_
  refine j_get fl_X4_40 (cV_g_5_5 x σ) d4_takeName_5 ?_
  refine j_callVi (c8_sortAt x n (gI σ 30) σ) lv_X4_43 (cV_rc_2 x σ) ⟨Nat.le_of_ble_eq_true rfl, Nat.le_of_ble_eq_true rfl⟩ d4_takeName_8 rfl (Nat.le_of_ble_eq_true rfl) (fun r2 s1 => ?_)
  refine j_bipush d4_takeName_11 ejb_97 ?_
  refine j_icmp_eq d4_takeName_13 ?_ ?_
  · refine j_aload_n 0 rfl d4_takeName_21 ?_
    refine j_get fl_X4_9 (cV_g_5_0 x s1) d4_takeName_22 ?_
    refine j_aload_n 0 rfl d4_takeName_25 ?_
    refine j_get fl_X4_40 (cV_g_5_5 x s1) d4_takeName_26 ?_
    refine j_callVi (c8_lengthAt x n (gI s1 30) s1) lv_X4_129 (cV_rc_2 x s1) ⟨Nat.le_of_ble_eq_true rfl, Nat.le_of_ble_eq_true rfl⟩ d4_takeName_29 rfl (Nat.le_of_ble_eq_true rfl) (fun r4 s3 => ?_)
    refine j_bipush d4_takeName_32 ejb_8 ?_
    refine j_icmp_le d4_takeName_34 ?_ ?_
    · refine j_aload_n 0 rfl d4_takeName_57 ?_
      refine j_aload_n 0 rfl d4_takeName_58 ?_
      refine j_get fl_X4_19 (cV_g_5_2 x s3) d4_takeName_59 ?_
      refine j_aload_n 0 rfl d4_takeName_62 ?_
      refine j_get fl_X4_9 (cV_g_5_0 x s3) d4_takeName_63 ?_
      refine j_aload_n 0 rfl d4_takeName_66 ?_
      refine j_get fl_X4_40 (cV_g_5_5 x s3) d4_takeName_67 ?_
      refine j_callVl (c8_nameAt x n (gI s3 30) s3) lv_X4_132 (cV_rc_2 x s3) ⟨Nat.le_of_ble_eq_true rfl, Nat.le_of_ble_eq_true rfl⟩ d4_takeName_70 rfl (Nat.le_of_ble_eq_true rfl) (fun r6 s5 => ?_)
      refine j_aload_n 0 rfl d4_takeName_73 ?_
      refine j_get fl_X4_37 (cV_g_5_4 x s5) d4_takeName_74 ?_
      refine j_iload_n 1 rfl d4_takeName_77 ?_
      refine j_callVi (c0_nodeFor x n r6 (gI s5 29) a1 s5) lv_X4_136 (cV_rc_4 x s5) ⟨Nat.le_of_ble_eq_true rfl, Nat.le_of_ble_eq_true rfl⟩ d4_takeName_78 rfl (Nat.le_of_ble_eq_true rfl) (fun r8 s7 => ?_)
      refine j_put fl_X4_71 (cV_p_5_7 x s7 r8) rfl rfl d4_takeName_81 (fun s9 => ?_)
      refine j_aload_n 0 rfl d4_takeName_84 ?_
      refine j_dup d4_takeName_85 rfl ?_
      refine j_get fl_X4_40 (cV_g_5_5 x s9) d4_takeName_86 ?_
      refine j_iconst d4_takeName_89 ejc_1 ?_
      refine j_iadd d4_takeName_90 ?_
      refine j_put fl_X4_40 (cV_p_5_5 x s9 ((gI s9 30) + 1)) rfl rfl d4_takeName_91 (fun s10 => ?_)
      refine j_iconst d4_takeName_94 ejc_1 ?_
      exact j_zreturn1 hq d4_takeName_95
    · refine j_aload_n 0 rfl d4_takeName_37 ?_
      refine j_get fl_X4_23 (cV_g_5_3 x s3) d4_takeName_38 ?_
      refine j_iconst d4_takeName_41 ejc_2 ?_
      refine j_aload_n 0 rfl d4_takeName_42 ?_
      refine j_get fl_X4_9 (cV_g_5_0 x s3) d4_takeName_43 ?_
      refine j_aload_n 0 rfl d4_takeName_46 ?_
      refine j_get fl_X4_40 (cV_g_5_5 x s3) d4_takeName_47 ?_
      refine j_callVi (c8_beginAt x n (gI s3 30) s3) lv_X4_51 (cV_rc_2 x s3) ⟨Nat.le_of_ble_eq_true rfl, Nat.le_of_ble_eq_true rfl⟩ d4_takeName_50 rfl (Nat.le_of_ble_eq_true rfl) (fun r12 s11 => ?_)
      refine j_callVi (c1_tell x n 2 r12 s11) lv_X4_54 (cV_rc_1 x s11) ⟨Nat.le_of_ble_eq_true rfl, Nat.le_of_ble_eq_true rfl⟩ d4_takeName_53 rfl (Nat.le_of_ble_eq_true rfl) (fun r14 s13 => ?_)
      exact j_zreturn hq d4_takeName_56
  · refine j_aload_n 0 rfl d4_takeName_16 ?_
    refine j_callVi (c4_misplaced x n s1) lv_X4_83 (cV_rc_5 x s1) ⟨Nat.le_of_ble_eq_true rfl, Nat.le_of_ble_eq_true rfl⟩ d4_takeName_17 rfl (Nat.le_of_ble_eq_true rfl) (fun r16 s15 => ?_)
    exact j_zreturn hq d4_takeName_20
theorem c4_takeName (x : cw_T) (n : Nat) (a1 : Int32) (σ : ej_S) : ∀ r σ1, m4_takeName n a1 σ = some (r, σ1) → ∀ l, ej_Con l (cV x) i4_takeName yX4_takeName (some .boolean) [.ref (cw_a x 5), .int a1] σ (some (.int r)) σ1 := fun r σ1 h l => ej_con_of (cV_ok x) pn_X4 rfl (Nat.le_of_ble_eq_true rfl) rfl h (fun F hq => j4_takeName x n a1 σ hq)

noncomputable def m4_readList_130 (n : Nat)  (σ : ej_S) : Option (Int32 × ej_S) := ej_bi (m4_take n 125 σ) fun r5 s4 => (if r5 = 0 then ej_bi (m4_misplaced n s4) fun r7 s6 => (if r7 = 0 then (some (0, s6)) else (some (1, s6))) else (some (1, s4)))
set_option maxRecDepth 20000 in
set_option maxHeartbeats 2000000 in
theorem j4_readList_130 (x : cw_T) (n : Nat) {F : ej_F} {r0 : Int32 × ej_S} (hq : ej_fin (cV x) F (some .boolean) (some (.int r0.1)) r0.2)  (σ : ej_S) : ej_J (cV x) F i4_readList r0 σ 130 [(0, .ref (cw_a x 5))] [] (m4_readList_130 n  σ) := by
  unfold m4_readList_130
  refine j_aload_n 0 rfl d4_readList_130 ?_
  refine j_bipush d4_readList_131 ejb_125 ?_
  refine j_callVi (c4_take x n 125 σ) lv_X4_47 (cV_rc_5 x σ) ⟨Nat.le_of_ble_eq_true rfl, Nat.le_of_ble_eq_true rfl⟩ d4_readList_133 rfl (Nat.le_of_ble_eq_true rfl) (fun r5 s4 => ?_)
  refine j_if_ne d4_readList_136 ?_ ?_
  · refine j_iconst d4_readList_146 ejc_1 ?_
    refine j_goto d4_readList_147 ?_
    exact j_zreturn1 hq d4_readList_151
  · refine j_aload_n 0 rfl d4_readList_139 ?_
    refine j_callVi (c4_misplaced x n s4) lv_X4_83 (cV_rc_5 x s4) ⟨Nat.le_of_ble_eq_true rfl, Nat.le_of_ble_eq_true rfl⟩ d4_readList_140 rfl (Nat.le_of_ble_eq_true rfl) (fun r7 s6 => ?_)
    refine j_if_eq d4_readList_143 ?_ ?_
    · refine j_iconst d4_readList_150 ejc_0 ?_
      exact j_zreturn0 hq d4_readList_151
    · refine j_iconst d4_readList_146 ejc_1 ?_
      refine j_goto d4_readList_147 ?_
      exact j_zreturn1 hq d4_readList_151
noncomputable def m4_readList_97 (n : Nat) (f12 : Int32 → Int32 → ej_S → Option (Int32 × ej_S)) (y14 : Int32) (y15 : Int32) (y16 : Int32) (σ : ej_S) : Option (Int32 × ej_S) := (if y14 = 1 then ej_bi (m4_takeName n 0 σ) fun r19 s18 => (if r19 = 0 then (some (0, s18)) else ej_bv (m0_killLink n y16 (gI s18 32) s18) fun s20 => ej_nm (y15 + 1) fun x21 => (f12 y14 x21 s20)) else ej_nm (y15 + 1) fun x17 => (f12 y14 x17 σ))
set_option maxRecDepth 20000 in
set_option maxHeartbeats 2000000 in
theorem j4_readList_97 (x : cw_T) (n : Nat) {F : ej_F} {r0 : Int32 × ej_S} (hq : ej_fin (cV x) F (some .boolean) (some (.int r0.1)) r0.2) (f12 : Int32 → Int32 → ej_S → Option (Int32 × ej_S)) (H12 : ∀ (y2 : Int32) (y3 : Int32) (σ : ej_S), ej_J (cV x) F i4_readList r0 σ 12 [(0, .ref (cw_a x 5)), (1, .int y2), (2, .int y3)] [] (f12 y2 y3 σ)) (y14 : Int32) (y15 : Int32) (y16 : Int32) (σ : ej_S) : ej_J (cV x) F i4_readList r0 σ 97 [(0, .ref (cw_a x 5)), (1, .int y14), (2, .int y15), (3, .int y16)] [] (m4_readList_97 n f12 y14 y15 y16 σ) := by
  unfold m4_readList_97
  refine j_iload_n 1 rfl d4_readList_97 ?_
  refine j_iconst d4_readList_98 ejc_1 ?_
  refine j_icmp_ne d4_readList_99 ?_ ?_
  · refine j_iinc (i := 2) (v := 1) (Ly := fun x17 => [(2, .int x17), (0, .ref (cw_a x 5)), (1, .int y14), (3, .int y16)]) 2 d4_readList_124 rfl ejc_1 (Nat.le_of_ble_eq_true rfl) (fun _ => rfl) (fun x17 => ?_)
    refine j_goto d4_readList_127 ?_
    exact j_sub [1, 2, 0] rfl (H12 y14 x17 σ)
  · refine j_aload_n 0 rfl d4_readList_102 ?_
    refine j_iconst d4_readList_103 ejc_0 ?_
    refine j_callVi (c4_takeName x n 0 σ) lv_X4_67 (cV_rc_5 x σ) ⟨Nat.le_of_ble_eq_true rfl, Nat.le_of_ble_eq_true rfl⟩ d4_readList_104 rfl (Nat.le_of_ble_eq_true rfl) (fun r19 s18 => ?_)
    refine j_if_ne d4_readList_107 ?_ ?_
    · refine j_aload_n 0 rfl d4_readList_112 ?_
      refine j_get fl_X4_19 (cV_g_5_2 x s18) d4_readList_113 ?_
      refine j_iload_n 3 rfl d4_readList_116 ?_
      refine j_aload_n 0 rfl d4_readList_117 ?_
      refine j_get fl_X4_71 (cV_g_5_7 x s18) d4_readList_118 ?_
      refine j_callVv (c0_killLink x n y16 (gI s18 32) s18) lv_X4_126 (cV_rc_4 x s18) ⟨Nat.le_of_ble_eq_true rfl, Nat.le_of_ble_eq_true rfl⟩ d4_readList_121 rfl (Nat.le_of_ble_eq_true rfl) (fun s20 => ?_)
      refine j_iinc (i := 2) (v := 1) (Ly := fun x21 => [(2, .int x21), (0, .ref (cw_a x 5)), (1, .int y14), (3, .int y16)]) 2 d4_readList_124 rfl ejc_1 (Nat.le_of_ble_eq_true rfl) (fun _ => rfl) (fun x21 => ?_)
      refine j_goto d4_readList_127 ?_
      exact j_sub [1, 2, 0] rfl (H12 y14 x21 s20)
    · refine j_iconst d4_readList_110 ejc_0 ?_
      exact j_zreturn0 hq d4_readList_111
noncomputable def m4_readList_43 (n : Nat) (f12 : Int32 → Int32 → ej_S → Option (Int32 × ej_S)) (y8 : Int32) (y9 : Int32) (y10 : Int32) (σ : ej_S) : Option (Int32 × ej_S) := ej_bi (m4_takeName n y10 σ) fun r12 s11 => (if r12 = 0 then (some (0, s11)) else ej_nm (gI s11 32) fun x13 => (if y8 = 3 then ej_bv (m0_gate n x13 s11) fun s26 => ej_nm (y9 + 1) fun x27 => (f12 y8 x27 s26) else (if y8 = 1 then ej_bi (m4_take n 33 s11) fun r23 s22 => (if r23 = 0 then ej_bv (m0_kill n x13 s22) fun s24 => ej_nm (y9 + 1) fun x25 => (f12 y8 x25 s24) else (m4_readList_97 n f12 y8 y9 x13 s22)) else (m4_readList_97 n f12 y8 y9 x13 s11))))
set_option maxRecDepth 20000 in
set_option maxHeartbeats 2000000 in
theorem j4_readList_43 (x : cw_T) (n : Nat) {F : ej_F} {r0 : Int32 × ej_S} (hq : ej_fin (cV x) F (some .boolean) (some (.int r0.1)) r0.2) (f12 : Int32 → Int32 → ej_S → Option (Int32 × ej_S)) (H12 : ∀ (y2 : Int32) (y3 : Int32) (σ : ej_S), ej_J (cV x) F i4_readList r0 σ 12 [(0, .ref (cw_a x 5)), (1, .int y2), (2, .int y3)] [] (f12 y2 y3 σ)) (y8 : Int32) (y9 : Int32) (y10 : Int32) (σ : ej_S) : ej_J (cV x) F i4_readList r0 σ 43 [(0, .ref (cw_a x 5)), (1, .int y8), (2, .int y9)] [.int y10, .ref (cw_a x 5)] (m4_readList_43 n f12 y8 y9 y10 σ) := by
  unfold m4_readList_43
  refine j_callVi (c4_takeName x n y10 σ) lv_X4_67 (cV_rc_5 x σ) ⟨Nat.le_of_ble_eq_true rfl, Nat.le_of_ble_eq_true rfl⟩ d4_readList_43 rfl (Nat.le_of_ble_eq_true rfl) (fun r12 s11 => ?_)
  refine j_if_ne d4_readList_46 ?_ ?_
  · refine j_aload_n 0 rfl d4_readList_51 ?_
    refine j_get fl_X4_71 (cV_g_5_7 x s11) d4_readList_52 ?_
    refine j_nmi (fun x13 => ?_)
    refine j_istore_n (i := 3) (L' := [(3, .int x13), (0, .ref (cw_a x 5)), (1, .int y8), (2, .int y9)]) d4_readList_55 rfl (Nat.le_of_ble_eq_true rfl) rfl ?_
    refine j_iload_n 2 rfl d4_readList_56 ?_
    refine j_iconst d4_readList_57 ejc_3 ?_
    refine j_icmp_ne d4_readList_58 ?_ ?_
    · refine j_iload_n 2 rfl d4_readList_72 ?_
      refine j_iconst d4_readList_73 ejc_1 ?_
      refine j_icmp_ne d4_readList_74 ?_ ?_
      · exact j_sub [1, 2, 3, 0] rfl (j4_readList_97 x n hq f12 H12 y8 y9 x13 s11)
      · refine j_aload_n 1 rfl d4_readList_77 ?_
        refine j_bipush d4_readList_78 ejb_33 ?_
        refine j_callVi (c4_take x n 33 s11) lv_X4_47 (cV_rc_5 x s11) ⟨Nat.le_of_ble_eq_true rfl, Nat.le_of_ble_eq_true rfl⟩ d4_readList_80 rfl (Nat.le_of_ble_eq_true rfl) (fun r23 s22 => ?_)
        refine j_if_ne d4_readList_83 ?_ ?_
        · exact j_sub [1, 2, 3, 0] rfl (j4_readList_97 x n hq f12 H12 y8 y9 x13 s22)
        · refine j_aload_n 1 rfl d4_readList_86 ?_
          refine j_get fl_X4_19 (cV_g_5_2 x s22) d4_readList_87 ?_
          refine j_iload_n 0 rfl d4_readList_90 ?_
          refine j_callVv (c0_kill x n x13 s22) lv_X4_123 (cV_rc_4 x s22) ⟨Nat.le_of_ble_eq_true rfl, Nat.le_of_ble_eq_true rfl⟩ d4_readList_91 rfl (Nat.le_of_ble_eq_true rfl) (fun s24 => ?_)
          refine j_goto d4_readList_94 ?_
          refine j_iinc (i := 2) (v := 1) (Ly := fun x25 => [(2, .int x25), (3, .int x13), (0, .ref (cw_a x 5)), (1, .int y8)]) 3 d4_readList_124 rfl ejc_1 (Nat.le_of_ble_eq_true rfl) (fun _ => rfl) (fun x25 => ?_)
          refine j_goto d4_readList_127 ?_
          exact j_sub [2, 3, 0] rfl (H12 y8 x25 s24)
    · refine j_aload_n 1 rfl d4_readList_61 ?_
      refine j_get fl_X4_19 (cV_g_5_2 x s11) d4_readList_62 ?_
      refine j_iload_n 0 rfl d4_readList_65 ?_
      refine j_callVv (c0_gate x n x13 s11) lv_X4_119 (cV_rc_4 x s11) ⟨Nat.le_of_ble_eq_true rfl, Nat.le_of_ble_eq_true rfl⟩ d4_readList_66 rfl (Nat.le_of_ble_eq_true rfl) (fun s26 => ?_)
      refine j_goto d4_readList_69 ?_
      refine j_iinc (i := 2) (v := 1) (Ly := fun x27 => [(2, .int x27), (3, .int x13), (0, .ref (cw_a x 5)), (1, .int y8)]) 3 d4_readList_124 rfl ejc_1 (Nat.le_of_ble_eq_true rfl) (fun _ => rfl) (fun x27 => ?_)
      refine j_goto d4_readList_127 ?_
      exact j_sub [2, 3, 0] rfl (H12 y8 x27 s26)
  · refine j_iconst d4_readList_49 ejc_0 ?_
    exact j_zreturn0 hq d4_readList_50
noncomputable def m4_readList_12 (n : Nat) (k : Nat) : Int32 → Int32 → ej_S → Option (Int32 × ej_S) := Nat.rec (motive := fun _ => Int32 → Int32 → ej_S → Option (Int32 × ej_S)) (fun _ _ _ => none) (fun _ ih y2 y3 σ => (if 600 < y3 then (m4_readList_130 n σ) else (if y3 = 0 then (if y2 = 2 then (m4_readList_43 n ih y2 y3 1 σ) else (m4_readList_43 n ih y2 y3 0 σ)) else ej_bi (m4_take n 44 σ) fun r29 s28 => (if r29 = 0 then (m4_readList_130 n s28) else (if y2 = 2 then (m4_readList_43 n ih y2 y3 1 s28) else (m4_readList_43 n ih y2 y3 0 s28)))))) k
theorem m4_readList_12_s (n : Nat) (k : Nat) (y2 : Int32) (y3 : Int32) (σ : ej_S) : m4_readList_12 n (k + 1) y2 y3 σ = ((if 600 < y3 then (m4_readList_130 n σ) else (if y3 = 0 then (if y2 = 2 then (m4_readList_43 n (m4_readList_12 n k) y2 y3 1 σ) else (m4_readList_43 n (m4_readList_12 n k) y2 y3 0 σ)) else ej_bi (m4_take n 44 σ) fun r29 s28 => (if r29 = 0 then (m4_readList_130 n s28) else (if y2 = 2 then (m4_readList_43 n (m4_readList_12 n k) y2 y3 1 s28) else (m4_readList_43 n (m4_readList_12 n k) y2 y3 0 s28))))) : Option (Int32 × ej_S)) := rfl
set_option maxRecDepth 20000 in
set_option maxHeartbeats 2000000 in
theorem j4_readList_12 (x : cw_T) (n : Nat) {F : ej_F} {r0 : Int32 × ej_S} (hq : ej_fin (cV x) F (some .boolean) (some (.int r0.1)) r0.2) : ∀ (k : Nat) (y2 : Int32) (y3 : Int32) (σ : ej_S), ej_J (cV x) F i4_readList r0 σ 12 [(0, .ref (cw_a x 5)), (1, .int y2), (2, .int y3)] [] (m4_readList_12 n k y2 y3 σ) := by
  intro k
  induction k with
  | zero => intro y2 y3 σ; exact j_none
  | succ k ih =>
    intro y2 y3 σ
    rw [m4_readList_12_s]
    refine j_iload_n 2 rfl d4_readList_12 ?_
    refine j_sipush d4_readList_13 ejs_600 ?_
    refine j_icmp_gt d4_readList_16 ?_ ?_
    · exact j_sub [0] rfl (j4_readList_130 x n hq σ)
    · refine j_iload_n 2 rfl d4_readList_19 ?_
      refine j_if_eq d4_readList_20 ?_ ?_
      · refine j_aload_n 0 rfl d4_readList_32 ?_
        refine j_iload_n 1 rfl d4_readList_33 ?_
        refine j_iconst d4_readList_34 ejc_2 ?_
        refine j_icmp_ne d4_readList_35 ?_ ?_
        · refine j_iconst d4_readList_42 ejc_0 ?_
          exact j_sub [0, 1, 2] rfl (j4_readList_43 x n hq (m4_readList_12 n k) ih y2 y3 0 σ)
        · refine j_iconst d4_readList_38 ejc_1 ?_
          refine j_goto d4_readList_39 ?_
          exact j_sub [0, 1, 2] rfl (j4_readList_43 x n hq (m4_readList_12 n k) ih y2 y3 1 σ)
      · refine j_aload_n 0 rfl d4_readList_23 ?_
        refine j_bipush d4_readList_24 ejb_44 ?_
        refine j_callVi (c4_take x n 44 σ) lv_X4_47 (cV_rc_5 x σ) ⟨Nat.le_of_ble_eq_true rfl, Nat.le_of_ble_eq_true rfl⟩ d4_readList_26 rfl (Nat.le_of_ble_eq_true rfl) (fun r29 s28 => ?_)
        refine j_if_eq d4_readList_29 ?_ ?_
        · exact j_sub [0] rfl (j4_readList_130 x n hq s28)
        · refine j_aload_n 0 rfl d4_readList_32 ?_
          refine j_iload_n 1 rfl d4_readList_33 ?_
          refine j_iconst d4_readList_34 ejc_2 ?_
          refine j_icmp_ne d4_readList_35 ?_ ?_
          · refine j_iconst d4_readList_42 ejc_0 ?_
            exact j_sub [0, 1, 2] rfl (j4_readList_43 x n hq (m4_readList_12 n k) ih y2 y3 0 s28)
          · refine j_iconst d4_readList_38 ejc_1 ?_
            refine j_goto d4_readList_39 ?_
            exact j_sub [0, 1, 2] rfl (j4_readList_43 x n hq (m4_readList_12 n k) ih y2 y3 1 s28)
noncomputable def m4_readList (n : Nat) (a1 : Int32) (σ : ej_S) : Option (Int32 × ej_S) := ej_nm (uI σ 30 ((gI σ 30) + 2)) fun s1 => (m4_readList_12 n n a1 0 s1)
set_option maxRecDepth 20000 in
set_option maxHeartbeats 2000000 in
theorem j4_readList (x : cw_T) (n : Nat) (a1 : Int32) (σ : ej_S) {F : ej_F} {r0 : Int32 × ej_S} (hq : ej_fin (cV x) F (some .boolean) (some (.int r0.1)) r0.2) : ej_J (cV x) F i4_readList r0 σ 0 [(0, .ref (cw_a x 5)), (1, .int a1)] [] (m4_readList n a1 σ) := by
  unfold m4_readList
  refine j_aload_n 0 rfl d4_readList_0 ?_
  refine j_dup d4_readList_1 rfl ?_
  refine j_get fl_X4_40 (cV_g_5_5 x σ) d4_readList_2 ?_
  refine j_iconst d4_readList_5 ejc_2 ?_
  refine j_iadd d4_readList_6 ?_
  refine j_put fl_X4_40 (cV_p_5_5 x σ ((gI σ 30) + 2)) rfl rfl d4_readList_7 (fun s1 => ?_)
  refine j_iconst d4_readList_10 ejc_0 ?_
  refine j_istore_n (i := 2) (L' := [(2, .int 0), (0, .ref (cw_a x 5)), (1, .int a1)]) d4_readList_11 rfl (Nat.le_of_ble_eq_true rfl) rfl ?_
  exact j_sub [1, 2, 0] rfl (j4_readList_12 x n hq n a1 0 s1)
theorem c4_readList (x : cw_T) (n : Nat) (a1 : Int32) (σ : ej_S) : ∀ r σ1, m4_readList n a1 σ = some (r, σ1) → ∀ l, ej_Con l (cV x) i4_readList yX4_readList (some .boolean) [.ref (cw_a x 5), .int a1] σ (some (.int r)) σ1 := fun r σ1 h l => ej_con_of (cV_ok x) pn_X4 rfl (Nat.le_of_ble_eq_true rfl) rfl h (fun F hq => j4_readList x n a1 σ hq)

noncomputable def m4_takePrice (n : Nat)  (σ : ej_S) : Option (Int32 × ej_S) := ej_nm (uI σ 33 4000) fun s1 => ej_bi (m4_take n 40 s1) fun r3 s2 => (if r3 = 0 then (some (1, s2)) else ej_bi (m6_workOut n (gI s2 30) s2) fun r5 s4 => (if r5 = 0 then ej_bi (m6_faultCode n s4) fun r17 s16 => ej_bi (m6_faultToken n s16) fun r19 s18 => ej_bi (m8_beginAt n r19 s18) fun r21 s20 => ej_bi (m1_tell n r17 r21 s20) fun r23 s22 => (some (ej_bz r23, s22)) else ej_bi (m6_next n s4) fun r7 s6 => ej_nm (uI s6 30 r7) fun s8 => ej_bi (m6_result n s8) fun r10 s9 => ej_nm (uI s9 33 (if r10 < 0 then 0 else r10)) fun s11 => ej_bi (m4_take n 41 s11) fun r13 s12 => (if r13 = 0 then ej_bi (m4_misplaced n s12) fun r15 s14 => (if r15 = 0 then (some (0, s14)) else (some (1, s14))) else (some (1, s12)))))
set_option maxRecDepth 20000 in
set_option maxHeartbeats 2000000 in
theorem j4_takePrice (x : cw_T) (n : Nat)  (σ : ej_S) {F : ej_F} {r0 : Int32 × ej_S} (hq : ej_fin (cV x) F (some .boolean) (some (.int r0.1)) r0.2) : ej_J (cV x) F i4_takePrice r0 σ 0 [(0, .ref (cw_a x 5))] [] (m4_takePrice n  σ) := by
  unfold m4_takePrice
  refine j_aload_n 0 rfl d4_takePrice_0 ?_
  refine j_sipush d4_takePrice_1 ejs_4000 ?_
  refine j_put fl_X4_100 (cV_p_5_8 x σ 4000) rfl rfl d4_takePrice_4 (fun s1 => ?_)
  refine j_aload_n 0 rfl d4_takePrice_7 ?_
  refine j_bipush d4_takePrice_8 ejb_40 ?_
  refine j_callVi (c4_take x n 40 s1) lv_X4_47 (cV_rc_5 x s1) ⟨Nat.le_of_ble_eq_true rfl, Nat.le_of_ble_eq_true rfl⟩ d4_takePrice_10 rfl (Nat.le_of_ble_eq_true rfl) (fun r3 s2 => ?_)
  refine j_if_ne d4_takePrice_13 ?_ ?_
  · refine j_aload_n 0 rfl d4_takePrice_18 ?_
    refine j_get fl_X4_15 (cV_g_5_1 x s2) d4_takePrice_19 ?_
    refine j_aload_n 0 rfl d4_takePrice_22 ?_
    refine j_get fl_X4_40 (cV_g_5_5 x s2) d4_takePrice_23 ?_
    refine j_callVi (c6_workOut x n (gI s2 30) s2) lv_X4_140 (cV_rc_3 x s2) ⟨Nat.le_of_ble_eq_true rfl, Nat.le_of_ble_eq_true rfl⟩ d4_takePrice_26 rfl (Nat.le_of_ble_eq_true rfl) (fun r5 s4 => ?_)
    refine j_if_ne d4_takePrice_29 ?_ ?_
    · refine j_aload_n 0 rfl d4_takePrice_61 ?_
      refine j_aload_n 0 rfl d4_takePrice_62 ?_
      refine j_get fl_X4_15 (cV_g_5_1 x s4) d4_takePrice_63 ?_
      refine j_callVi (c6_next x n s4) lv_X4_151 (cV_rc_3 x s4) ⟨Nat.le_of_ble_eq_true rfl, Nat.le_of_ble_eq_true rfl⟩ d4_takePrice_66 rfl (Nat.le_of_ble_eq_true rfl) (fun r7 s6 => ?_)
      refine j_put fl_X4_40 (cV_p_5_5 x s6 r7) rfl rfl d4_takePrice_69 (fun s8 => ?_)
      refine j_aload_n 0 rfl d4_takePrice_72 ?_
      refine j_aload_n 0 rfl d4_takePrice_73 ?_
      refine j_get fl_X4_15 (cV_g_5_1 x s8) d4_takePrice_74 ?_
      refine j_callVi (c6_result x n s8) lv_X4_154 (cV_rc_3 x s8) ⟨Nat.le_of_ble_eq_true rfl, Nat.le_of_ble_eq_true rfl⟩ d4_takePrice_77 rfl (Nat.le_of_ble_eq_true rfl) (fun r10 s9 => ?_)
      refine j_iconst d4_takePrice_80 ejc_0 ?_
      refine j_mmax ma_X4_157 ma_st_mmax ma_in ma_co_mmax ⟨Nat.le_of_ble_eq_true rfl, Nat.le_of_ble_eq_true rfl⟩ (Nat.le_of_ble_eq_true rfl) d4_takePrice_81 ?_
      refine j_put fl_X4_100 (cV_p_5_8 x s9 (if r10 < 0 then 0 else r10)) rfl rfl d4_takePrice_84 (fun s11 => ?_)
      refine j_aload_n 0 rfl d4_takePrice_87 ?_
      refine j_bipush d4_takePrice_88 ejb_41 ?_
      refine j_callVi (c4_take x n 41 s11) lv_X4_47 (cV_rc_5 x s11) ⟨Nat.le_of_ble_eq_true rfl, Nat.le_of_ble_eq_true rfl⟩ d4_takePrice_90 rfl (Nat.le_of_ble_eq_true rfl) (fun r13 s12 => ?_)
      refine j_if_ne d4_takePrice_93 ?_ ?_
      · refine j_iconst d4_takePrice_103 ejc_1 ?_
        refine j_goto d4_takePrice_104 ?_
        exact j_zreturn1 hq d4_takePrice_108
      · refine j_aload_n 0 rfl d4_takePrice_96 ?_
        refine j_callVi (c4_misplaced x n s12) lv_X4_83 (cV_rc_5 x s12) ⟨Nat.le_of_ble_eq_true rfl, Nat.le_of_ble_eq_true rfl⟩ d4_takePrice_97 rfl (Nat.le_of_ble_eq_true rfl) (fun r15 s14 => ?_)
        refine j_if_eq d4_takePrice_100 ?_ ?_
        · refine j_iconst d4_takePrice_107 ejc_0 ?_
          exact j_zreturn0 hq d4_takePrice_108
        · refine j_iconst d4_takePrice_103 ejc_1 ?_
          refine j_goto d4_takePrice_104 ?_
          exact j_zreturn1 hq d4_takePrice_108
    · refine j_aload_n 0 rfl d4_takePrice_32 ?_
      refine j_get fl_X4_23 (cV_g_5_3 x s4) d4_takePrice_33 ?_
      refine j_aload_n 0 rfl d4_takePrice_36 ?_
      refine j_get fl_X4_15 (cV_g_5_1 x s4) d4_takePrice_37 ?_
      refine j_callVi (c6_faultCode x n s4) lv_X4_145 (cV_rc_3 x s4) ⟨Nat.le_of_ble_eq_true rfl, Nat.le_of_ble_eq_true rfl⟩ d4_takePrice_40 rfl (Nat.le_of_ble_eq_true rfl) (fun r17 s16 => ?_)
      refine j_aload_n 0 rfl d4_takePrice_43 ?_
      refine j_get fl_X4_9 (cV_g_5_0 x s16) d4_takePrice_44 ?_
      refine j_aload_n 0 rfl d4_takePrice_47 ?_
      refine j_get fl_X4_15 (cV_g_5_1 x s16) d4_takePrice_48 ?_
      refine j_callVi (c6_faultToken x n s16) lv_X4_148 (cV_rc_3 x s16) ⟨Nat.le_of_ble_eq_true rfl, Nat.le_of_ble_eq_true rfl⟩ d4_takePrice_51 rfl (Nat.le_of_ble_eq_true rfl) (fun r19 s18 => ?_)
      refine j_callVi (c8_beginAt x n r19 s18) lv_X4_51 (cV_rc_2 x s18) ⟨Nat.le_of_ble_eq_true rfl, Nat.le_of_ble_eq_true rfl⟩ d4_takePrice_54 rfl (Nat.le_of_ble_eq_true rfl) (fun r21 s20 => ?_)
      refine j_callVi (c1_tell x n r17 r21 s20) lv_X4_54 (cV_rc_1 x s20) ⟨Nat.le_of_ble_eq_true rfl, Nat.le_of_ble_eq_true rfl⟩ d4_takePrice_57 rfl (Nat.le_of_ble_eq_true rfl) (fun r23 s22 => ?_)
      exact j_zreturn hq d4_takePrice_60
  · refine j_iconst d4_takePrice_16 ejc_1 ?_
    exact j_zreturn1 hq d4_takePrice_17
theorem c4_takePrice (x : cw_T) (n : Nat)  (σ : ej_S) : ∀ r σ1, m4_takePrice n  σ = some (r, σ1) → ∀ l, ej_Con l (cV x) i4_takePrice yX4_takePrice (some .boolean) [.ref (cw_a x 5)] σ (some (.int r)) σ1 := fun r σ1 h l => ej_con_of (cV_ok x) pn_X4 rfl (Nat.le_of_ble_eq_true rfl) rfl h (fun F hq => j4_takePrice x n  σ hq)

noncomputable def m4_readLinks_2 (n : Nat) (k : Nat) : Int32 → Int32 → ej_S → Option (Int32 × ej_S) := Nat.rec (motive := fun _ => Int32 → Int32 → ej_S → Option (Int32 × ej_S)) (fun _ _ _ => none) (fun _ ih y1 y2 σ => (if 600 < y2 then ej_bi (m4_misplaced n σ) fun r4 s3 => (some (ej_bz r4, s3)) else ej_bi (m4_take n 64 σ) fun r6 s5 => ej_bi (m4_takeName n 0 s5) fun r8 s7 => (if r8 = 0 then (some (0, s7)) else ej_nm (gI s7 32) fun x9 => ej_bi (m4_takePrice n s7) fun r11 s10 => (if r11 = 0 then (some (0, s10)) else ej_bv (m0_addLink n y1 x9 (gI s10 33) r6 s10) fun s12 => ej_bi (m4_take n 44 s12) fun r14 s13 => (if r14 = 0 then (some (1, s13)) else ej_nm (y2 + 1) fun x15 => (ih y1 x15 s13)))))) k
theorem m4_readLinks_2_s (n : Nat) (k : Nat) (y1 : Int32) (y2 : Int32) (σ : ej_S) : m4_readLinks_2 n (k + 1) y1 y2 σ = ((if 600 < y2 then ej_bi (m4_misplaced n σ) fun r4 s3 => (some (ej_bz r4, s3)) else ej_bi (m4_take n 64 σ) fun r6 s5 => ej_bi (m4_takeName n 0 s5) fun r8 s7 => (if r8 = 0 then (some (0, s7)) else ej_nm (gI s7 32) fun x9 => ej_bi (m4_takePrice n s7) fun r11 s10 => (if r11 = 0 then (some (0, s10)) else ej_bv (m0_addLink n y1 x9 (gI s10 33) r6 s10) fun s12 => ej_bi (m4_take n 44 s12) fun r14 s13 => (if r14 = 0 then (some (1, s13)) else ej_nm (y2 + 1) fun x15 => ((m4_readLinks_2 n k) y1 x15 s13))))) : Option (Int32 × ej_S)) := rfl
set_option maxRecDepth 20000 in
set_option maxHeartbeats 2000000 in
theorem j4_readLinks_2 (x : cw_T) (n : Nat) {F : ej_F} {r0 : Int32 × ej_S} (hq : ej_fin (cV x) F (some .boolean) (some (.int r0.1)) r0.2) : ∀ (k : Nat) (y1 : Int32) (y2 : Int32) (σ : ej_S), ej_J (cV x) F i4_readLinks r0 σ 2 [(0, .ref (cw_a x 5)), (1, .int y1), (2, .int y2)] [] (m4_readLinks_2 n k y1 y2 σ) := by
  intro k
  induction k with
  | zero => intro y1 y2 σ; exact j_none
  | succ k ih =>
    intro y1 y2 σ
    rw [m4_readLinks_2_s]
    refine j_iload_n 2 rfl d4_readLinks_2 ?_
    refine j_sipush d4_readLinks_3 ejs_600 ?_
    refine j_icmp_gt d4_readLinks_6 ?_ ?_
    · refine j_aload_n 0 rfl d4_readLinks_73 ?_
      refine j_callVi (c4_misplaced x n σ) lv_X4_83 (cV_rc_5 x σ) ⟨Nat.le_of_ble_eq_true rfl, Nat.le_of_ble_eq_true rfl⟩ d4_readLinks_74 rfl (Nat.le_of_ble_eq_true rfl) (fun r4 s3 => ?_)
      exact j_zreturn hq d4_readLinks_77
    · refine j_aload_n 0 rfl d4_readLinks_9 ?_
      refine j_bipush d4_readLinks_10 ejb_64 ?_
      refine j_callVi (c4_take x n 64 σ) lv_X4_47 (cV_rc_5 x σ) ⟨Nat.le_of_ble_eq_true rfl, Nat.le_of_ble_eq_true rfl⟩ d4_readLinks_12 rfl (Nat.le_of_ble_eq_true rfl) (fun r6 s5 => ?_)
      refine j_istore_n (i := 3) (L' := [(3, .int r6), (0, .ref (cw_a x 5)), (1, .int y1), (2, .int y2)]) d4_readLinks_15 rfl (Nat.le_of_ble_eq_true rfl) rfl ?_
      refine j_aload_n 1 rfl d4_readLinks_16 ?_
      refine j_iconst d4_readLinks_17 ejc_0 ?_
      refine j_callVi (c4_takeName x n 0 s5) lv_X4_67 (cV_rc_5 x s5) ⟨Nat.le_of_ble_eq_true rfl, Nat.le_of_ble_eq_true rfl⟩ d4_readLinks_18 rfl (Nat.le_of_ble_eq_true rfl) (fun r8 s7 => ?_)
      refine j_if_ne d4_readLinks_21 ?_ ?_
      · refine j_aload_n 1 rfl d4_readLinks_26 ?_
        refine j_get fl_X4_71 (cV_g_5_7 x s7) d4_readLinks_27 ?_
        refine j_nmi (fun x9 => ?_)
        refine j_istore (i := 4) (L' := [(4, .int x9), (3, .int r6), (0, .ref (cw_a x 5)), (1, .int y1), (2, .int y2)]) d4_readLinks_30 (Nat.le_of_ble_eq_true rfl) rfl ?_
        refine j_aload_n 2 rfl d4_readLinks_32 ?_
        refine j_callVi (c4_takePrice x n s7) lv_X4_97 (cV_rc_5 x s7) ⟨Nat.le_of_ble_eq_true rfl, Nat.le_of_ble_eq_true rfl⟩ d4_readLinks_33 rfl (Nat.le_of_ble_eq_true rfl) (fun r11 s10 => ?_)
        refine j_if_ne d4_readLinks_36 ?_ ?_
        · refine j_aload_n 2 rfl d4_readLinks_41 ?_
          refine j_get fl_X4_19 (cV_g_5_2 x s10) d4_readLinks_42 ?_
          refine j_iload_n 3 rfl d4_readLinks_45 ?_
          refine j_iload 0 rfl d4_readLinks_46 ?_
          refine j_aload_n 2 rfl d4_readLinks_48 ?_
          refine j_get fl_X4_100 (cV_g_5_8 x s10) d4_readLinks_49 ?_
          refine j_iload_n 1 rfl d4_readLinks_52 ?_
          refine j_callVv (c0_addLink x n y1 x9 (gI s10 33) r6 s10) lv_X4_103 (cV_rc_4 x s10) ⟨Nat.le_of_ble_eq_true rfl, Nat.le_of_ble_eq_true rfl⟩ d4_readLinks_53 rfl (Nat.le_of_ble_eq_true rfl) (fun s12 => ?_)
          refine j_aload_n 2 rfl d4_readLinks_56 ?_
          refine j_bipush d4_readLinks_57 ejb_44 ?_
          refine j_callVi (c4_take x n 44 s12) lv_X4_47 (cV_rc_5 x s12) ⟨Nat.le_of_ble_eq_true rfl, Nat.le_of_ble_eq_true rfl⟩ d4_readLinks_59 rfl (Nat.le_of_ble_eq_true rfl) (fun r14 s13 => ?_)
          refine j_if_ne d4_readLinks_62 ?_ ?_
          · refine j_iinc (i := 2) (v := 1) (Ly := fun x15 => [(2, .int x15), (4, .int x9), (3, .int r6), (0, .ref (cw_a x 5)), (1, .int y1)]) 4 d4_readLinks_67 rfl ejc_1 (Nat.le_of_ble_eq_true rfl) (fun _ => rfl) (fun x15 => ?_)
            refine j_goto d4_readLinks_70 ?_
            exact j_sub [3, 4, 0] rfl (ih y1 x15 s13)
          · refine j_iconst d4_readLinks_65 ejc_1 ?_
            exact j_zreturn1 hq d4_readLinks_66
        · refine j_iconst d4_readLinks_39 ejc_0 ?_
          exact j_zreturn0 hq d4_readLinks_40
      · refine j_iconst d4_readLinks_24 ejc_0 ?_
        exact j_zreturn0 hq d4_readLinks_25
noncomputable def m4_readLinks (n : Nat) (a1 : Int32) (σ : ej_S) : Option (Int32 × ej_S) := (m4_readLinks_2 n n a1 0 σ)
set_option maxRecDepth 20000 in
set_option maxHeartbeats 2000000 in
theorem j4_readLinks (x : cw_T) (n : Nat) (a1 : Int32) (σ : ej_S) {F : ej_F} {r0 : Int32 × ej_S} (hq : ej_fin (cV x) F (some .boolean) (some (.int r0.1)) r0.2) : ej_J (cV x) F i4_readLinks r0 σ 0 [(0, .ref (cw_a x 5)), (1, .int a1)] [] (m4_readLinks n a1 σ) := by
  unfold m4_readLinks
  refine j_iconst d4_readLinks_0 ejc_0 ?_
  refine j_istore_n (i := 2) (L' := [(2, .int 0), (0, .ref (cw_a x 5)), (1, .int a1)]) d4_readLinks_1 rfl (Nat.le_of_ble_eq_true rfl) rfl ?_
  exact j_sub [1, 2, 0] rfl (j4_readLinks_2 x n hq n a1 0 σ)
theorem c4_readLinks (x : cw_T) (n : Nat) (a1 : Int32) (σ : ej_S) : ∀ r σ1, m4_readLinks n a1 σ = some (r, σ1) → ∀ l, ej_Con l (cV x) i4_readLinks yX4_readLinks (some .boolean) [.ref (cw_a x 5), .int a1] σ (some (.int r)) σ1 := fun r σ1 h l => ej_con_of (cV_ok x) pn_X4 rfl (Nat.le_of_ble_eq_true rfl) rfl h (fun F hq => j4_readLinks x n a1 σ hq)

noncomputable def m4_readAliases_2 (n : Nat) (k : Nat) : Int32 → Int32 → ej_S → Option (Int32 × ej_S) := Nat.rec (motive := fun _ => Int32 → Int32 → ej_S → Option (Int32 × ej_S)) (fun _ _ _ => none) (fun _ ih y1 y2 σ => (if 600 < y2 then ej_bi (m4_misplaced n σ) fun r4 s3 => (some (ej_bz r4, s3)) else ej_bi (m4_takeName n 0 σ) fun r6 s5 => (if r6 = 0 then (some (0, s5)) else ej_bv (m0_addAlias n y1 (gI s5 32) s5) fun s7 => ej_bi (m4_take n 44 s7) fun r9 s8 => (if r9 = 0 then (some (1, s8)) else ej_nm (y2 + 1) fun x10 => (ih y1 x10 s8))))) k
theorem m4_readAliases_2_s (n : Nat) (k : Nat) (y1 : Int32) (y2 : Int32) (σ : ej_S) : m4_readAliases_2 n (k + 1) y1 y2 σ = ((if 600 < y2 then ej_bi (m4_misplaced n σ) fun r4 s3 => (some (ej_bz r4, s3)) else ej_bi (m4_takeName n 0 σ) fun r6 s5 => (if r6 = 0 then (some (0, s5)) else ej_bv (m0_addAlias n y1 (gI s5 32) s5) fun s7 => ej_bi (m4_take n 44 s7) fun r9 s8 => (if r9 = 0 then (some (1, s8)) else ej_nm (y2 + 1) fun x10 => ((m4_readAliases_2 n k) y1 x10 s8)))) : Option (Int32 × ej_S)) := rfl
set_option maxRecDepth 20000 in
set_option maxHeartbeats 2000000 in
theorem j4_readAliases_2 (x : cw_T) (n : Nat) {F : ej_F} {r0 : Int32 × ej_S} (hq : ej_fin (cV x) F (some .boolean) (some (.int r0.1)) r0.2) : ∀ (k : Nat) (y1 : Int32) (y2 : Int32) (σ : ej_S), ej_J (cV x) F i4_readAliases r0 σ 2 [(0, .ref (cw_a x 5)), (1, .int y1), (2, .int y2)] [] (m4_readAliases_2 n k y1 y2 σ) := by
  intro k
  induction k with
  | zero => intro y1 y2 σ; exact j_none
  | succ k ih =>
    intro y1 y2 σ
    rw [m4_readAliases_2_s]
    refine j_iload_n 2 rfl d4_readAliases_2 ?_
    refine j_sipush d4_readAliases_3 ejs_600 ?_
    refine j_icmp_gt d4_readAliases_6 ?_ ?_
    · refine j_aload_n 0 rfl d4_readAliases_48 ?_
      refine j_callVi (c4_misplaced x n σ) lv_X4_83 (cV_rc_5 x σ) ⟨Nat.le_of_ble_eq_true rfl, Nat.le_of_ble_eq_true rfl⟩ d4_readAliases_49 rfl (Nat.le_of_ble_eq_true rfl) (fun r4 s3 => ?_)
      exact j_zreturn hq d4_readAliases_52
    · refine j_aload_n 0 rfl d4_readAliases_9 ?_
      refine j_iconst d4_readAliases_10 ejc_0 ?_
      refine j_callVi (c4_takeName x n 0 σ) lv_X4_67 (cV_rc_5 x σ) ⟨Nat.le_of_ble_eq_true rfl, Nat.le_of_ble_eq_true rfl⟩ d4_readAliases_11 rfl (Nat.le_of_ble_eq_true rfl) (fun r6 s5 => ?_)
      refine j_if_ne d4_readAliases_14 ?_ ?_
      · refine j_aload_n 0 rfl d4_readAliases_19 ?_
        refine j_get fl_X4_19 (cV_g_5_2 x s5) d4_readAliases_20 ?_
        refine j_iload_n 1 rfl d4_readAliases_23 ?_
        refine j_aload_n 0 rfl d4_readAliases_24 ?_
        refine j_get fl_X4_71 (cV_g_5_7 x s5) d4_readAliases_25 ?_
        refine j_callVv (c0_addAlias x n y1 (gI s5 32) s5) lv_X4_109 (cV_rc_4 x s5) ⟨Nat.le_of_ble_eq_true rfl, Nat.le_of_ble_eq_true rfl⟩ d4_readAliases_28 rfl (Nat.le_of_ble_eq_true rfl) (fun s7 => ?_)
        refine j_aload_n 0 rfl d4_readAliases_31 ?_
        refine j_bipush d4_readAliases_32 ejb_44 ?_
        refine j_callVi (c4_take x n 44 s7) lv_X4_47 (cV_rc_5 x s7) ⟨Nat.le_of_ble_eq_true rfl, Nat.le_of_ble_eq_true rfl⟩ d4_readAliases_34 rfl (Nat.le_of_ble_eq_true rfl) (fun r9 s8 => ?_)
        refine j_if_ne d4_readAliases_37 ?_ ?_
        · refine j_iinc (i := 2) (v := 1) (Ly := fun x10 => [(2, .int x10), (0, .ref (cw_a x 5)), (1, .int y1)]) 2 d4_readAliases_42 rfl ejc_1 (Nat.le_of_ble_eq_true rfl) (fun _ => rfl) (fun x10 => ?_)
          refine j_goto d4_readAliases_45 ?_
          exact j_sub [1, 2, 0] rfl (ih y1 x10 s8)
        · refine j_iconst d4_readAliases_40 ejc_1 ?_
          exact j_zreturn1 hq d4_readAliases_41
      · refine j_iconst d4_readAliases_17 ejc_0 ?_
        exact j_zreturn0 hq d4_readAliases_18
noncomputable def m4_readAliases (n : Nat) (a1 : Int32) (σ : ej_S) : Option (Int32 × ej_S) := (m4_readAliases_2 n n a1 0 σ)
set_option maxRecDepth 20000 in
set_option maxHeartbeats 2000000 in
theorem j4_readAliases (x : cw_T) (n : Nat) (a1 : Int32) (σ : ej_S) {F : ej_F} {r0 : Int32 × ej_S} (hq : ej_fin (cV x) F (some .boolean) (some (.int r0.1)) r0.2) : ej_J (cV x) F i4_readAliases r0 σ 0 [(0, .ref (cw_a x 5)), (1, .int a1)] [] (m4_readAliases n a1 σ) := by
  unfold m4_readAliases
  refine j_iconst d4_readAliases_0 ejc_0 ?_
  refine j_istore_n (i := 2) (L' := [(2, .int 0), (0, .ref (cw_a x 5)), (1, .int a1)]) d4_readAliases_1 rfl (Nat.le_of_ble_eq_true rfl) rfl ?_
  exact j_sub [1, 2, 0] rfl (j4_readAliases_2 x n hq n a1 0 σ)
theorem c4_readAliases (x : cw_T) (n : Nat) (a1 : Int32) (σ : ej_S) : ∀ r σ1, m4_readAliases n a1 σ = some (r, σ1) → ∀ l, ej_Con l (cV x) i4_readAliases yX4_readAliases (some .boolean) [.ref (cw_a x 5), .int a1] σ (some (.int r)) σ1 := fun r σ1 h l => ej_con_of (cV_ok x) pn_X4 rfl (Nat.le_of_ble_eq_true rfl) rfl h (fun F hq => j4_readAliases x n a1 σ hq)

noncomputable def m4_readMembers_74 (n : Nat) (y9 : Int32) (y10 : Int32) (y11 : Int32) (σ : ej_S) : Option (Int32 × ej_S) := ej_bi (m4_take n 125 σ) fun r13 s12 => (if r13 = 0 then ej_bi (m4_misplaced n s12) fun r18 s17 => (some (ej_bz r18, s17)) else ej_bi (m4_takePrice n s12) fun r15 s14 => (if r15 = 0 then (some (0, s14)) else ej_bv (m0_addMembers n y9 y11 (gI s14 33) y10 s14) fun s16 => (some (1, s16))))
set_option maxRecDepth 20000 in
set_option maxHeartbeats 2000000 in
theorem j4_readMembers_74 (x : cw_T) (n : Nat) {F : ej_F} {r0 : Int32 × ej_S} (hq : ej_fin (cV x) F (some .boolean) (some (.int r0.1)) r0.2) (y9 : Int32) (y10 : Int32) (y11 : Int32) (σ : ej_S) : ej_J (cV x) F i4_readMembers r0 σ 74 [(0, .ref (cw_a x 5)), (1, .int y9), (2, .int y10), (3, .int y11)] [] (m4_readMembers_74 n y9 y10 y11 σ) := by
  unfold m4_readMembers_74
  refine j_aload_n 0 rfl d4_readMembers_74 ?_
  refine j_bipush d4_readMembers_75 ejb_125 ?_
  refine j_callVi (c4_take x n 125 σ) lv_X4_47 (cV_rc_5 x σ) ⟨Nat.le_of_ble_eq_true rfl, Nat.le_of_ble_eq_true rfl⟩ d4_readMembers_77 rfl (Nat.le_of_ble_eq_true rfl) (fun r13 s12 => ?_)
  refine j_if_ne d4_readMembers_80 ?_ ?_
  · refine j_aload_n 0 rfl d4_readMembers_88 ?_
    refine j_callVi (c4_takePrice x n s12) lv_X4_97 (cV_rc_5 x s12) ⟨Nat.le_of_ble_eq_true rfl, Nat.le_of_ble_eq_true rfl⟩ d4_readMembers_89 rfl (Nat.le_of_ble_eq_true rfl) (fun r15 s14 => ?_)
    refine j_if_ne d4_readMembers_92 ?_ ?_
    · refine j_aload_n 0 rfl d4_readMembers_97 ?_
      refine j_get fl_X4_19 (cV_g_5_2 x s14) d4_readMembers_98 ?_
      refine j_iload_n 1 rfl d4_readMembers_101 ?_
      refine j_iload_n 3 rfl d4_readMembers_102 ?_
      refine j_aload_n 0 rfl d4_readMembers_103 ?_
      refine j_get fl_X4_100 (cV_g_5_8 x s14) d4_readMembers_104 ?_
      refine j_iload_n 2 rfl d4_readMembers_107 ?_
      refine j_callVv (c0_addMembers x n y9 y11 (gI s14 33) y10 s14) lv_X4_116 (cV_rc_4 x s14) ⟨Nat.le_of_ble_eq_true rfl, Nat.le_of_ble_eq_true rfl⟩ d4_readMembers_108 rfl (Nat.le_of_ble_eq_true rfl) (fun s16 => ?_)
      refine j_iconst d4_readMembers_111 ejc_1 ?_
      exact j_zreturn1 hq d4_readMembers_112
    · refine j_iconst d4_readMembers_95 ejc_0 ?_
      exact j_zreturn0 hq d4_readMembers_96
  · refine j_aload_n 0 rfl d4_readMembers_83 ?_
    refine j_callVi (c4_misplaced x n s12) lv_X4_83 (cV_rc_5 x s12) ⟨Nat.le_of_ble_eq_true rfl, Nat.le_of_ble_eq_true rfl⟩ d4_readMembers_84 rfl (Nat.le_of_ble_eq_true rfl) (fun r18 s17 => ?_)
    exact j_zreturn hq d4_readMembers_87
noncomputable def m4_readMembers_48 (n : Nat) (f26 : Int32 → Int32 → Int32 → Int32 → ej_S → Option (Int32 × ej_S)) (y19 : Int32) (y20 : Int32) (y21 : Int32) (y22 : Int32) (σ : ej_S) : Option (Int32 × ej_S) := ej_bi (m4_takeName n 0 σ) fun r24 s23 => (if r24 = 0 then (some (0, s23)) else ej_bi (m10_setOf n (gI s23 32) s23) fun r26 s25 => ej_nm (y21 ||| r26) fun x27 => ej_nm (y22 + 1) fun x28 => (f26 y19 y20 x27 x28 s25))
set_option maxRecDepth 20000 in
set_option maxHeartbeats 2000000 in
theorem j4_readMembers_48 (x : cw_T) (n : Nat) {F : ej_F} {r0 : Int32 × ej_S} (hq : ej_fin (cV x) F (some .boolean) (some (.int r0.1)) r0.2) (f26 : Int32 → Int32 → Int32 → Int32 → ej_S → Option (Int32 × ej_S)) (H26 : ∀ (y5 : Int32) (y6 : Int32) (y7 : Int32) (y8 : Int32) (σ : ej_S), ej_J (cV x) F i4_readMembers r0 σ 26 [(0, .ref (cw_a x 5)), (1, .int y5), (2, .int y6), (3, .int y7), (4, .int y8)] [] (f26 y5 y6 y7 y8 σ)) (y19 : Int32) (y20 : Int32) (y21 : Int32) (y22 : Int32) (σ : ej_S) : ej_J (cV x) F i4_readMembers r0 σ 48 [(0, .ref (cw_a x 5)), (1, .int y19), (2, .int y20), (3, .int y21), (4, .int y22)] [] (m4_readMembers_48 n f26 y19 y20 y21 y22 σ) := by
  unfold m4_readMembers_48
  refine j_aload_n 0 rfl d4_readMembers_48 ?_
  refine j_iconst d4_readMembers_49 ejc_0 ?_
  refine j_callVi (c4_takeName x n 0 σ) lv_X4_67 (cV_rc_5 x σ) ⟨Nat.le_of_ble_eq_true rfl, Nat.le_of_ble_eq_true rfl⟩ d4_readMembers_50 rfl (Nat.le_of_ble_eq_true rfl) (fun r24 s23 => ?_)
  refine j_if_ne d4_readMembers_53 ?_ ?_
  · refine j_iload_n 3 rfl d4_readMembers_58 ?_
    refine j_aload_n 0 rfl d4_readMembers_59 ?_
    refine j_get fl_X4_71 (cV_g_5_7 x s23) d4_readMembers_60 ?_
    refine j_callNi (c10_setOf x n (gI s23 32) s23) (ln_X4_113 x) ⟨Nat.le_of_ble_eq_true rfl, Nat.le_of_ble_eq_true rfl⟩ d4_readMembers_63 rfl (Nat.le_of_ble_eq_true rfl) (fun r26 s25 => ?_)
    refine j_ior d4_readMembers_66 ?_
    refine j_nmi (fun x27 => ?_)
    refine j_istore_n (i := 3) (L' := [(3, .int x27), (0, .ref (cw_a x 5)), (1, .int y19), (2, .int y20), (4, .int y22)]) d4_readMembers_67 rfl (Nat.le_of_ble_eq_true rfl) rfl ?_
    refine j_iinc (i := 4) (v := 1) (Ly := fun x28 => [(4, .int x28), (3, .int x27), (0, .ref (cw_a x 5)), (1, .int y19), (2, .int y20)]) 4 d4_readMembers_68 rfl ejc_1 (Nat.le_of_ble_eq_true rfl) (fun _ => rfl) (fun x28 => ?_)
    refine j_goto d4_readMembers_71 ?_
    exact j_sub [2, 3, 4, 1, 0] rfl (H26 y19 y20 x27 x28 s25)
  · refine j_iconst d4_readMembers_56 ejc_0 ?_
    exact j_zreturn0 hq d4_readMembers_57
noncomputable def m4_readMembers_26 (n : Nat) (k : Nat) : Int32 → Int32 → Int32 → Int32 → ej_S → Option (Int32 × ej_S) := Nat.rec (motive := fun _ => Int32 → Int32 → Int32 → Int32 → ej_S → Option (Int32 × ej_S)) (fun _ _ _ _ _ => none) (fun _ ih y5 y6 y7 y8 σ => (if 600 < y8 then (m4_readMembers_74 n y5 y6 y7 σ) else (if y8 = 0 then (m4_readMembers_48 n ih y5 y6 y7 y8 σ) else ej_bi (m4_take n 44 σ) fun r30 s29 => (if r30 = 0 then (m4_readMembers_74 n y5 y6 y7 s29) else (m4_readMembers_48 n ih y5 y6 y7 y8 s29))))) k
theorem m4_readMembers_26_s (n : Nat) (k : Nat) (y5 : Int32) (y6 : Int32) (y7 : Int32) (y8 : Int32) (σ : ej_S) : m4_readMembers_26 n (k + 1) y5 y6 y7 y8 σ = ((if 600 < y8 then (m4_readMembers_74 n y5 y6 y7 σ) else (if y8 = 0 then (m4_readMembers_48 n (m4_readMembers_26 n k) y5 y6 y7 y8 σ) else ej_bi (m4_take n 44 σ) fun r30 s29 => (if r30 = 0 then (m4_readMembers_74 n y5 y6 y7 s29) else (m4_readMembers_48 n (m4_readMembers_26 n k) y5 y6 y7 y8 s29)))) : Option (Int32 × ej_S)) := rfl
set_option maxRecDepth 20000 in
set_option maxHeartbeats 2000000 in
theorem j4_readMembers_26 (x : cw_T) (n : Nat) {F : ej_F} {r0 : Int32 × ej_S} (hq : ej_fin (cV x) F (some .boolean) (some (.int r0.1)) r0.2) : ∀ (k : Nat) (y5 : Int32) (y6 : Int32) (y7 : Int32) (y8 : Int32) (σ : ej_S), ej_J (cV x) F i4_readMembers r0 σ 26 [(0, .ref (cw_a x 5)), (1, .int y5), (2, .int y6), (3, .int y7), (4, .int y8)] [] (m4_readMembers_26 n k y5 y6 y7 y8 σ) := by
  intro k
  induction k with
  | zero => intro y5 y6 y7 y8 σ; exact j_none
  | succ k ih =>
    intro y5 y6 y7 y8 σ
    rw [m4_readMembers_26_s]
    refine j_iload 4 rfl d4_readMembers_26 ?_
    refine j_sipush d4_readMembers_28 ejs_600 ?_
    refine j_icmp_gt d4_readMembers_31 ?_ ?_
    · exact j_sub [0, 1, 2, 3] rfl (j4_readMembers_74 x n hq y5 y6 y7 σ)
    · refine j_iload 4 rfl d4_readMembers_34 ?_
      refine j_if_eq d4_readMembers_36 ?_ ?_
      · exact j_sub [0, 1, 2, 3, 4] rfl (j4_readMembers_48 x n hq (m4_readMembers_26 n k) ih y5 y6 y7 y8 σ)
      · refine j_aload_n 0 rfl d4_readMembers_39 ?_
        refine j_bipush d4_readMembers_40 ejb_44 ?_
        refine j_callVi (c4_take x n 44 σ) lv_X4_47 (cV_rc_5 x σ) ⟨Nat.le_of_ble_eq_true rfl, Nat.le_of_ble_eq_true rfl⟩ d4_readMembers_42 rfl (Nat.le_of_ble_eq_true rfl) (fun r30 s29 => ?_)
        refine j_if_eq d4_readMembers_45 ?_ ?_
        · exact j_sub [0, 1, 2, 3] rfl (j4_readMembers_74 x n hq y5 y6 y7 s29)
        · exact j_sub [0, 1, 2, 3, 4] rfl (j4_readMembers_48 x n hq (m4_readMembers_26 n k) ih y5 y6 y7 y8 s29)
noncomputable def m4_readMembers (n : Nat) (a1 : Int32) (σ : ej_S) : Option (Int32 × ej_S) := ej_bi (m4_take n 64 σ) fun r2 s1 => ej_bi (m4_take n 123 s1) fun r4 s3 => (if r4 = 0 then ej_bi (m4_misplaced n s3) fun r32 s31 => (some (ej_bz r32, s31)) else (m4_readMembers_26 n n a1 r2 0 0 s3))
set_option maxRecDepth 20000 in
set_option maxHeartbeats 2000000 in
theorem j4_readMembers (x : cw_T) (n : Nat) (a1 : Int32) (σ : ej_S) {F : ej_F} {r0 : Int32 × ej_S} (hq : ej_fin (cV x) F (some .boolean) (some (.int r0.1)) r0.2) : ej_J (cV x) F i4_readMembers r0 σ 0 [(0, .ref (cw_a x 5)), (1, .int a1)] [] (m4_readMembers n a1 σ) := by
  unfold m4_readMembers
  refine j_aload_n 0 rfl d4_readMembers_0 ?_
  refine j_bipush d4_readMembers_1 ejb_64 ?_
  refine j_callVi (c4_take x n 64 σ) lv_X4_47 (cV_rc_5 x σ) ⟨Nat.le_of_ble_eq_true rfl, Nat.le_of_ble_eq_true rfl⟩ d4_readMembers_3 rfl (Nat.le_of_ble_eq_true rfl) (fun r2 s1 => ?_)
  refine j_istore_n (i := 2) (L' := [(2, .int r2), (0, .ref (cw_a x 5)), (1, .int a1)]) d4_readMembers_6 rfl (Nat.le_of_ble_eq_true rfl) rfl ?_
  refine j_aload_n 1 rfl d4_readMembers_7 ?_
  refine j_bipush d4_readMembers_8 ejb_123 ?_
  refine j_callVi (c4_take x n 123 s1) lv_X4_47 (cV_rc_5 x s1) ⟨Nat.le_of_ble_eq_true rfl, Nat.le_of_ble_eq_true rfl⟩ d4_readMembers_10 rfl (Nat.le_of_ble_eq_true rfl) (fun r4 s3 => ?_)
  refine j_if_ne d4_readMembers_13 ?_ ?_
  · refine j_iconst d4_readMembers_21 ejc_0 ?_
    refine j_istore_n (i := 3) (L' := [(3, .int 0), (2, .int r2), (0, .ref (cw_a x 5)), (1, .int a1)]) d4_readMembers_22 rfl (Nat.le_of_ble_eq_true rfl) rfl ?_
    refine j_iconst d4_readMembers_23 ejc_0 ?_
    refine j_istore (i := 4) (L' := [(4, .int 0), (3, .int 0), (2, .int r2), (0, .ref (cw_a x 5)), (1, .int a1)]) d4_readMembers_24 (Nat.le_of_ble_eq_true rfl) rfl ?_
    exact j_sub [3, 4, 2, 1, 0] rfl (j4_readMembers_26 x n hq n a1 r2 0 0 s3)
  · refine j_aload_n 1 rfl d4_readMembers_16 ?_
    refine j_callVi (c4_misplaced x n s3) lv_X4_83 (cV_rc_5 x s3) ⟨Nat.le_of_ble_eq_true rfl, Nat.le_of_ble_eq_true rfl⟩ d4_readMembers_17 rfl (Nat.le_of_ble_eq_true rfl) (fun r32 s31 => ?_)
    exact j_zreturn hq d4_readMembers_20
theorem c4_readMembers (x : cw_T) (n : Nat) (a1 : Int32) (σ : ej_S) : ∀ r σ1, m4_readMembers n a1 σ = some (r, σ1) → ∀ l, ej_Con l (cV x) i4_readMembers yX4_readMembers (some .boolean) [.ref (cw_a x 5), .int a1] σ (some (.int r)) σ1 := fun r σ1 h l => ej_con_of (cV_ok x) pn_X4 rfl (Nat.le_of_ble_eq_true rfl) rfl h (fun F hq => j4_readMembers x n a1 σ hq)

noncomputable def m4_read_182 (n : Nat) (t1 : Nat) (f25 : Int32 → ej_S → Option (Int32 × ej_S)) (y20 : Int32) (y21 : Int32) (σ : ej_S) : Option (Int32 × ej_S) := (if y21 = 0 then (some (0, σ)) else ej_nm (uI σ 31 ((gI σ 31) + 1)) fun s22 => ej_bi (m8_sortAt n (gI s22 30) s22) fun r24 s23 => (if r24 = 59 then ej_nm (y20 + 1) fun x25 => (f25 x25 s23) else ej_bi (m8_sortAt n (gI s23 30) s23) fun r27 s26 => (if r27 = 0 then ej_nm (y20 + 1) fun x28 => (f25 x28 s26) else ej_bi (m4_misplaced n s26) fun r30 s29 => (some (ej_bz r30, s29)))))
set_option maxRecDepth 20000 in
set_option maxHeartbeats 2000000 in
theorem j4_read_182 (x : cw_T) (n : Nat) (t1 : Nat) (ht1 : t1 < 7) {F : ej_F} {r0 : Int32 × ej_S} (hq : ej_fin (cV x) F (some .boolean) (some (.int r0.1)) r0.2) (f25 : Int32 → ej_S → Option (Int32 × ej_S)) (H25 : ∀ (y5 : Int32) (σ : ej_S), ej_J (cV x) F i4_read r0 σ 25 [(0, .ref (cw_a x 5)), (3, .int y5)] [] (f25 y5 σ)) (y20 : Int32) (y21 : Int32) (σ : ej_S) : ej_J (cV x) F i4_read r0 σ 182 [(0, .ref (cw_a x 5)), (3, .int y20), (5, .int y21)] [] (m4_read_182 n t1 f25 y20 y21 σ) := by
  unfold m4_read_182
  refine j_iload 2 rfl d4_read_182 ?_
  refine j_if_ne d4_read_184 ?_ ?_
  · refine j_aload_n 0 rfl d4_read_189 ?_
    refine j_dup d4_read_190 rfl ?_
    refine j_get fl_X4_27 (cV_g_5_6 x σ) d4_read_191 ?_
    refine j_iconst d4_read_194 ejc_1 ?_
    refine j_iadd d4_read_195 ?_
    refine j_put fl_X4_27 (cV_p_5_6 x σ ((gI σ 31) + 1)) rfl rfl d4_read_196 (fun s22 => ?_)
    refine j_aload_n 0 rfl d4_read_199 ?_
    refine j_get fl_X4_9 (cV_g_5_0 x s22) d4_read_200 ?_
    refine j_aload_n 0 rfl d4_read_203 ?_
    refine j_get fl_X4_40 (cV_g_5_5 x s22) d4_read_204 ?_
    refine j_callVi (c8_sortAt x n (gI s22 30) s22) lv_X4_43 (cV_rc_2 x s22) ⟨Nat.le_of_ble_eq_true rfl, Nat.le_of_ble_eq_true rfl⟩ d4_read_207 rfl (Nat.le_of_ble_eq_true rfl) (fun r24 s23 => ?_)
    refine j_bipush d4_read_210 ejb_59 ?_
    refine j_icmp_eq d4_read_212 ?_ ?_
    · refine j_iinc (i := 3) (v := 1) (Ly := fun x25 => [(3, .int x25), (0, .ref (cw_a x 5)), (5, .int y21)]) 1 d4_read_234 rfl ejc_1 (Nat.le_of_ble_eq_true rfl) (fun _ => rfl) (fun x25 => ?_)
      refine j_goto d4_read_237 ?_
      exact j_sub [1, 0] rfl (H25 x25 s23)
    · refine j_aload_n 0 rfl d4_read_215 ?_
      refine j_get fl_X4_9 (cV_g_5_0 x s23) d4_read_216 ?_
      refine j_aload_n 0 rfl d4_read_219 ?_
      refine j_get fl_X4_40 (cV_g_5_5 x s23) d4_read_220 ?_
      refine j_callVi (c8_sortAt x n (gI s23 30) s23) lv_X4_43 (cV_rc_2 x s23) ⟨Nat.le_of_ble_eq_true rfl, Nat.le_of_ble_eq_true rfl⟩ d4_read_223 rfl (Nat.le_of_ble_eq_true rfl) (fun r27 s26 => ?_)
      refine j_if_eq d4_read_226 ?_ ?_
      · refine j_iinc (i := 3) (v := 1) (Ly := fun x28 => [(3, .int x28), (0, .ref (cw_a x 5)), (5, .int y21)]) 1 d4_read_234 rfl ejc_1 (Nat.le_of_ble_eq_true rfl) (fun _ => rfl) (fun x28 => ?_)
        refine j_goto d4_read_237 ?_
        exact j_sub [1, 0] rfl (H25 x28 s26)
      · refine j_aload_n 0 rfl d4_read_229 ?_
        refine j_callVi (c4_misplaced x n s26) lv_X4_83 (cV_rc_5 x s26) ⟨Nat.le_of_ble_eq_true rfl, Nat.le_of_ble_eq_true rfl⟩ d4_read_230 rfl (Nat.le_of_ble_eq_true rfl) (fun r30 s29 => ?_)
        exact j_zreturn hq d4_read_233
  · refine j_iconst d4_read_187 ejc_0 ?_
    exact j_zreturn0 hq d4_read_188
noncomputable def m4_read_25 (n : Nat) (t1 : Nat) (k : Nat) : Int32 → ej_S → Option (Int32 × ej_S) := Nat.rec (motive := fun _ => Int32 → ej_S → Option (Int32 × ej_S)) (fun _ _ => none) (fun _ ih y5 σ => (if 600 < y5 then (some (1, σ)) else ej_bi (m8_sortAt n (gI σ 30) σ) fun r7 s6 => (if r7 = 0 then (some (1, s6)) else ej_bi (m4_take n 59 s6) fun r9 s8 => (if r9 = 0 then (if gI s8 31 < 40 then ej_bi (m4_listAhead n s8) fun r11 s10 => (if r11 = 0 then ej_bi (m4_takeName n 0 s10) fun r13 s12 => (if r13 = 0 then (m4_read_182 n t1 ih y5 0 s12) else ej_bi (m4_take n 61 s12) fun r15 s14 => (if r15 = 0 then ej_bi (m4_readLinks n (gI s14 32) s14) fun r34 s33 => (m4_read_182 n t1 ih y5 r34 s33) else ej_bi (m8_sortAt n (gI s14 30) s14) fun r17 s16 => (if r17 = 97 then ej_bi (m4_readAliases n (gI s16 32) s16) fun r32 s31 => (m4_read_182 n t1 ih y5 r32 s31) else ej_bi (m4_readMembers n (gI s16 32) s16) fun r19 s18 => (m4_read_182 n t1 ih y5 r19 s18)))) else ej_bi (m4_readList n r11 s10) fun r36 s35 => (m4_read_182 n t1 ih y5 r36 s35)) else ej_bi (m8_beginAt n (gI s8 30) s8) fun r38 s37 => ej_bi (m1_tell n 5 r38 s37) fun r40 s39 => (some (ej_bz r40, s39))) else ej_nm (y5 + 1) fun x41 => (ih x41 s8))))) k
theorem m4_read_25_s (n : Nat) (t1 : Nat) (k : Nat) (y5 : Int32) (σ : ej_S) : m4_read_25 n t1 (k + 1) y5 σ = ((if 600 < y5 then (some (1, σ)) else ej_bi (m8_sortAt n (gI σ 30) σ) fun r7 s6 => (if r7 = 0 then (some (1, s6)) else ej_bi (m4_take n 59 s6) fun r9 s8 => (if r9 = 0 then (if gI s8 31 < 40 then ej_bi (m4_listAhead n s8) fun r11 s10 => (if r11 = 0 then ej_bi (m4_takeName n 0 s10) fun r13 s12 => (if r13 = 0 then (m4_read_182 n t1 (m4_read_25 n t1 k) y5 0 s12) else ej_bi (m4_take n 61 s12) fun r15 s14 => (if r15 = 0 then ej_bi (m4_readLinks n (gI s14 32) s14) fun r34 s33 => (m4_read_182 n t1 (m4_read_25 n t1 k) y5 r34 s33) else ej_bi (m8_sortAt n (gI s14 30) s14) fun r17 s16 => (if r17 = 97 then ej_bi (m4_readAliases n (gI s16 32) s16) fun r32 s31 => (m4_read_182 n t1 (m4_read_25 n t1 k) y5 r32 s31) else ej_bi (m4_readMembers n (gI s16 32) s16) fun r19 s18 => (m4_read_182 n t1 (m4_read_25 n t1 k) y5 r19 s18)))) else ej_bi (m4_readList n r11 s10) fun r36 s35 => (m4_read_182 n t1 (m4_read_25 n t1 k) y5 r36 s35)) else ej_bi (m8_beginAt n (gI s8 30) s8) fun r38 s37 => ej_bi (m1_tell n 5 r38 s37) fun r40 s39 => (some (ej_bz r40, s39))) else ej_nm (y5 + 1) fun x41 => ((m4_read_25 n t1 k) x41 s8)))) : Option (Int32 × ej_S)) := rfl
set_option maxRecDepth 20000 in
set_option maxHeartbeats 2000000 in
theorem j4_read_25 (x : cw_T) (n : Nat) (t1 : Nat) (ht1 : t1 < 7) {F : ej_F} {r0 : Int32 × ej_S} (hq : ej_fin (cV x) F (some .boolean) (some (.int r0.1)) r0.2) : ∀ (k : Nat) (y5 : Int32) (σ : ej_S), ej_J (cV x) F i4_read r0 σ 25 [(0, .ref (cw_a x 5)), (3, .int y5)] [] (m4_read_25 n t1 k y5 σ) := by
  intro k
  induction k with
  | zero => intro y5 σ; exact j_none
  | succ k ih =>
    intro y5 σ
    rw [m4_read_25_s]
    refine j_iload_n 1 rfl d4_read_25 ?_
    refine j_sipush d4_read_26 ejs_600 ?_
    refine j_icmp_gt d4_read_29 ?_ ?_
    · refine j_iconst d4_read_240 ejc_1 ?_
      exact j_zreturn1 hq d4_read_241
    · refine j_aload_n 0 rfl d4_read_32 ?_
      refine j_get fl_X4_9 (cV_g_5_0 x σ) d4_read_33 ?_
      refine j_aload_n 0 rfl d4_read_36 ?_
      refine j_get fl_X4_40 (cV_g_5_5 x σ) d4_read_37 ?_
      refine j_callVi (c8_sortAt x n (gI σ 30) σ) lv_X4_43 (cV_rc_2 x σ) ⟨Nat.le_of_ble_eq_true rfl, Nat.le_of_ble_eq_true rfl⟩ d4_read_40 rfl (Nat.le_of_ble_eq_true rfl) (fun r7 s6 => ?_)
      refine j_if_eq d4_read_43 ?_ ?_
      · refine j_iconst d4_read_240 ejc_1 ?_
        exact j_zreturn1 hq d4_read_241
      · refine j_aload_n 0 rfl d4_read_46 ?_
        refine j_bipush d4_read_47 ejb_59 ?_
        refine j_callVi (c4_take x n 59 s6) lv_X4_47 (cV_rc_5 x s6) ⟨Nat.le_of_ble_eq_true rfl, Nat.le_of_ble_eq_true rfl⟩ d4_read_49 rfl (Nat.le_of_ble_eq_true rfl) (fun r9 s8 => ?_)
        refine j_if_eq d4_read_52 ?_ ?_
        · refine j_aload_n 0 rfl d4_read_58 ?_
          refine j_get fl_X4_27 (cV_g_5_6 x s8) d4_read_59 ?_
          refine j_bipush d4_read_62 ejb_40 ?_
          refine j_icmp_lt d4_read_64 ?_ ?_
          · refine j_aload_n 0 rfl d4_read_87 ?_
            refine j_callVi (c4_listAhead x n s8) lv_X4_60 (cV_rc_5 x s8) ⟨Nat.le_of_ble_eq_true rfl, Nat.le_of_ble_eq_true rfl⟩ d4_read_88 rfl (Nat.le_of_ble_eq_true rfl) (fun r11 s10 => ?_)
            refine j_istore (i := 4) (L' := [(4, .int r11), (0, .ref (cw_a x 5)), (3, .int y5)]) d4_read_91 (Nat.le_of_ble_eq_true rfl) rfl ?_
            refine j_iload 0 rfl d4_read_93 ?_
            refine j_if_eq d4_read_95 ?_ ?_
            · refine j_aload_n 1 rfl d4_read_109 ?_
              refine j_iconst d4_read_110 ejc_0 ?_
              refine j_callVi (c4_takeName x n 0 s10) lv_X4_67 (cV_rc_5 x s10) ⟨Nat.le_of_ble_eq_true rfl, Nat.le_of_ble_eq_true rfl⟩ d4_read_111 rfl (Nat.le_of_ble_eq_true rfl) (fun r13 s12 => ?_)
              refine j_if_ne d4_read_114 ?_ ?_
              · refine j_aload_n 1 rfl d4_read_123 ?_
                refine j_bipush d4_read_124 ejb_61 ?_
                refine j_callVi (c4_take x n 61 s12) lv_X4_47 (cV_rc_5 x s12) ⟨Nat.le_of_ble_eq_true rfl, Nat.le_of_ble_eq_true rfl⟩ d4_read_126 rfl (Nat.le_of_ble_eq_true rfl) (fun r15 s14 => ?_)
                refine j_if_ne d4_read_129 ?_ ?_
                · refine j_aload_n 1 rfl d4_read_145 ?_
                  refine j_get fl_X4_9 (cV_g_5_0 x s14) d4_read_146 ?_
                  refine j_aload_n 1 rfl d4_read_149 ?_
                  refine j_get fl_X4_40 (cV_g_5_5 x s14) d4_read_150 ?_
                  refine j_callVi (c8_sortAt x n (gI s14 30) s14) lv_X4_43 (cV_rc_2 x s14) ⟨Nat.le_of_ble_eq_true rfl, Nat.le_of_ble_eq_true rfl⟩ d4_read_153 rfl (Nat.le_of_ble_eq_true rfl) (fun r17 s16 => ?_)
                  refine j_bipush d4_read_156 ejb_97 ?_
                  refine j_icmp_ne d4_read_158 ?_ ?_
                  · refine j_aload_n 1 rfl d4_read_172 ?_
                    refine j_aload_n 1 rfl d4_read_173 ?_
                    refine j_get fl_X4_71 (cV_g_5_7 x s16) d4_read_174 ?_
                    refine j_callVi (c4_readMembers x n (gI s16 32) s16) lv_X4_80 (cV_rc_5 x s16) ⟨Nat.le_of_ble_eq_true rfl, Nat.le_of_ble_eq_true rfl⟩ d4_read_177 rfl (Nat.le_of_ble_eq_true rfl) (fun r19 s18 => ?_)
                    refine j_istore (i := 5) (L' := [(5, .int r19), (4, .int r11), (0, .ref (cw_a x 5)), (3, .int y5)]) d4_read_180 (Nat.le_of_ble_eq_true rfl) rfl ?_
                    exact j_sub [2, 3, 0] rfl (j4_read_182 x n t1 ht1 hq (m4_read_25 n t1 k) ih y5 r19 s18)
                  · refine j_aload_n 1 rfl d4_read_161 ?_
                    refine j_aload_n 1 rfl d4_read_162 ?_
                    refine j_get fl_X4_71 (cV_g_5_7 x s16) d4_read_163 ?_
                    refine j_callVi (c4_readAliases x n (gI s16 32) s16) lv_X4_77 (cV_rc_5 x s16) ⟨Nat.le_of_ble_eq_true rfl, Nat.le_of_ble_eq_true rfl⟩ d4_read_166 rfl (Nat.le_of_ble_eq_true rfl) (fun r32 s31 => ?_)
                    refine j_goto d4_read_169 ?_
                    refine j_istore (i := 5) (L' := [(5, .int r32), (4, .int r11), (0, .ref (cw_a x 5)), (3, .int y5)]) d4_read_180 (Nat.le_of_ble_eq_true rfl) rfl ?_
                    exact j_sub [2, 3, 0] rfl (j4_read_182 x n t1 ht1 hq (m4_read_25 n t1 k) ih y5 r32 s31)
                · refine j_aload_n 1 rfl d4_read_132 ?_
                  refine j_aload_n 1 rfl d4_read_133 ?_
                  refine j_get fl_X4_71 (cV_g_5_7 x s14) d4_read_134 ?_
                  refine j_callVi (c4_readLinks x n (gI s14 32) s14) lv_X4_74 (cV_rc_5 x s14) ⟨Nat.le_of_ble_eq_true rfl, Nat.le_of_ble_eq_true rfl⟩ d4_read_137 rfl (Nat.le_of_ble_eq_true rfl) (fun r34 s33 => ?_)
                  refine j_istore (i := 5) (L' := [(5, .int r34), (4, .int r11), (0, .ref (cw_a x 5)), (3, .int y5)]) d4_read_140 (Nat.le_of_ble_eq_true rfl) rfl ?_
                  refine j_goto d4_read_142 ?_
                  exact j_sub [2, 3, 0] rfl (j4_read_182 x n t1 ht1 hq (m4_read_25 n t1 k) ih y5 r34 s33)
              · refine j_iconst d4_read_117 ejc_0 ?_
                refine j_istore (i := 5) (L' := [(5, .int 0), (4, .int r11), (0, .ref (cw_a x 5)), (3, .int y5)]) d4_read_118 (Nat.le_of_ble_eq_true rfl) rfl ?_
                refine j_goto d4_read_120 ?_
                exact j_sub [2, 3, 0] rfl (j4_read_182 x n t1 ht1 hq (m4_read_25 n t1 k) ih y5 0 s12)
            · refine j_aload_n 1 rfl d4_read_98 ?_
              refine j_iload 0 rfl d4_read_99 ?_
              refine j_callVi (c4_readList x n r11 s10) lv_X4_64 (cV_rc_5 x s10) ⟨Nat.le_of_ble_eq_true rfl, Nat.le_of_ble_eq_true rfl⟩ d4_read_101 rfl (Nat.le_of_ble_eq_true rfl) (fun r36 s35 => ?_)
              refine j_istore (i := 5) (L' := [(5, .int r36), (4, .int r11), (0, .ref (cw_a x 5)), (3, .int y5)]) d4_read_104 (Nat.le_of_ble_eq_true rfl) rfl ?_
              refine j_goto d4_read_106 ?_
              exact j_sub [2, 3, 0] rfl (j4_read_182 x n t1 ht1 hq (m4_read_25 n t1 k) ih y5 r36 s35)
          · refine j_aload_n 0 rfl d4_read_67 ?_
            refine j_get fl_X4_23 (cV_g_5_3 x s8) d4_read_68 ?_
            refine j_iconst d4_read_71 ejc_5 ?_
            refine j_aload_n 0 rfl d4_read_72 ?_
            refine j_get fl_X4_9 (cV_g_5_0 x s8) d4_read_73 ?_
            refine j_aload_n 0 rfl d4_read_76 ?_
            refine j_get fl_X4_40 (cV_g_5_5 x s8) d4_read_77 ?_
            refine j_callVi (c8_beginAt x n (gI s8 30) s8) lv_X4_51 (cV_rc_2 x s8) ⟨Nat.le_of_ble_eq_true rfl, Nat.le_of_ble_eq_true rfl⟩ d4_read_80 rfl (Nat.le_of_ble_eq_true rfl) (fun r38 s37 => ?_)
            refine j_callVi (c1_tell x n 5 r38 s37) lv_X4_54 (cV_rc_1 x s37) ⟨Nat.le_of_ble_eq_true rfl, Nat.le_of_ble_eq_true rfl⟩ d4_read_83 rfl (Nat.le_of_ble_eq_true rfl) (fun r40 s39 => ?_)
            exact j_zreturn hq d4_read_86
        · refine j_goto d4_read_55 ?_
          refine j_iinc (i := 3) (v := 1) (Ly := fun x41 => [(3, .int x41), (0, .ref (cw_a x 5))]) 1 d4_read_234 rfl ejc_1 (Nat.le_of_ble_eq_true rfl) (fun _ => rfl) (fun x41 => ?_)
          refine j_goto d4_read_237 ?_
          exact j_sub [1, 0] rfl (ih x41 s8)
noncomputable def m4_read (n : Nat) (t1 : Nat) (a2 : Int32) (σ : ej_S) : Option (Int32 × ej_S) := ej_bv (m8_scan n t1 σ) fun s1 => ej_nm (uI s1 29 a2) fun s2 => ej_nm (uI s2 30 0) fun s3 => ej_nm (uI s3 31 0) fun s4 => (m4_read_25 n t1 n 0 s4)
set_option maxRecDepth 20000 in
set_option maxHeartbeats 2000000 in
theorem j4_read (x : cw_T) (n : Nat) (t1 : Nat) (ht1 : t1 < 7) (a2 : Int32) (σ : ej_S) {F : ej_F} {r0 : Int32 × ej_S} (hq : ej_fin (cV x) F (some .boolean) (some (.int r0.1)) r0.2) : ej_J (cV x) F i4_read r0 σ 0 [(0, .ref (cw_a x 5)), (1, .ref (cw_a x (10 + t1))), (2, .int a2)] [] (m4_read n t1 a2 σ) := by
  unfold m4_read
  refine j_aload_n 0 rfl d4_read_0 ?_
  refine j_get fl_X4_9 (cV_g_5_0 x σ) d4_read_1 ?_
  refine j_aload_n 1 rfl d4_read_4 ?_
  refine j_callVv (c8_scan x n t1 ht1 σ) lv_X4_31 (cV_rc_2 x σ) ⟨Nat.le_of_ble_eq_true rfl, Nat.le_of_ble_eq_true rfl⟩ d4_read_5 rfl (Nat.le_of_ble_eq_true rfl) (fun s1 => ?_)
  refine j_aload_n 0 rfl d4_read_8 ?_
  refine j_iload_n 2 rfl d4_read_9 ?_
  refine j_put fl_X4_37 (cV_p_5_4 x s1 a2) rfl rfl d4_read_10 (fun s2 => ?_)
  refine j_aload_n 0 rfl d4_read_13 ?_
  refine j_iconst d4_read_14 ejc_0 ?_
  refine j_put fl_X4_40 (cV_p_5_5 x s2 0) rfl rfl d4_read_15 (fun s3 => ?_)
  refine j_aload_n 0 rfl d4_read_18 ?_
  refine j_iconst d4_read_19 ejc_0 ?_
  refine j_put fl_X4_27 (cV_p_5_6 x s3 0) rfl rfl d4_read_20 (fun s4 => ?_)
  refine j_iconst d4_read_23 ejc_0 ?_
  refine j_istore_n (i := 3) (L' := [(3, .int 0), (0, .ref (cw_a x 5)), (1, .ref (cw_a x (10 + t1))), (2, .int a2)]) d4_read_24 rfl (Nat.le_of_ble_eq_true rfl) rfl ?_
  exact j_sub [1, 0] rfl (j4_read_25 x n t1 ht1 hq n 0 s4)
theorem c4_read (x : cw_T) (n : Nat) (t1 : Nat) (ht1 : t1 < 7) (a2 : Int32) (σ : ej_S) : ∀ r σ1, m4_read n t1 a2 σ = some (r, σ1) → ∀ l, ej_Con l (cV x) i4_read yX4_read (some .boolean) [.ref (cw_a x 5), .ref (cw_a x (10 + t1)), .int a2] σ (some (.int r)) σ1 := fun r σ1 h l => ej_con_of (cV_ok x) pn_X4 rfl (Nat.le_of_ble_eq_true rfl) rfl h (fun F hq => j4_read x n t1 ht1 a2 σ hq)

