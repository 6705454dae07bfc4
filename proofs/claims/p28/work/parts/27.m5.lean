noncomputable def m5_markOf (n : Nat) (a1 : Int32) (a2 : Int32) (a3 : Int32) (σ : ej_S) : Option (Int32 × ej_S) := (if a2 = 2 then ej_bi (m0_isRightLink n a1 a3 σ) fun r4 s3 => (if r4 = 0 then (some (1, s3)) else (some (2, s3))) else (if a2 = 4 then ej_bi (m0_isRightNet n a1 σ) fun r2 s1 => (if r2 = 0 then (some (1, s1)) else (some (2, s1))) else (if a2 = 5 then (some (1, σ)) else (some (0, σ)))))
set_option maxRecDepth 20000 in
set_option maxHeartbeats 2000000 in
theorem j5_markOf (x : cw_T) (n : Nat) (a1 : Int32) (a2 : Int32) (a3 : Int32) (σ : ej_S) {F : ej_F} {r0 : Int32 × ej_S} (hq : ej_fin (cV x) F (some .int) (some (.int r0.1)) r0.2) : ej_J (cV x) F i5_markOf r0 σ 0 [(0, .ref (cw_a x 6)), (1, .int a1), (2, .int a2), (3, .int a3)] [] (m5_markOf n a1 a2 a3 σ) := by
  unfold m5_markOf
  refine j_iload_n 2 rfl d5_markOf_0 ?_
  refine j_iconst d5_markOf_1 ejc_2 ?_
  refine j_icmp_ne d5_markOf_2 ?_ ?_
  · refine j_iload_n 2 rfl d5_markOf_23 ?_
    refine j_iconst d5_markOf_24 ejc_4 ?_
    refine j_icmp_ne d5_markOf_25 ?_ ?_
    · refine j_iload_n 2 rfl d5_markOf_45 ?_
      refine j_iconst d5_markOf_46 ejc_5 ?_
      refine j_icmp_ne d5_markOf_47 ?_ ?_
      · refine j_iconst d5_markOf_54 ejc_0 ?_
        exact j_ireturn hq d5_markOf_55
      · refine j_iconst d5_markOf_50 ejc_1 ?_
        refine j_goto d5_markOf_51 ?_
        exact j_ireturn hq d5_markOf_55
    · refine j_aload_n 0 rfl d5_markOf_28 ?_
      refine j_get fl_X5_15 (cV_g_6_0 x σ) d5_markOf_29 ?_
      refine j_iload_n 1 rfl d5_markOf_32 ?_
      refine j_callVi (c0_isRightNet x n a1 σ) lv_X5_52 (cV_rc_4 x σ) ⟨Nat.le_of_ble_eq_true rfl, Nat.le_of_ble_eq_true rfl⟩ d5_markOf_33 rfl (Nat.le_of_ble_eq_true rfl) (fun r2 s1 => ?_)
      refine j_if_eq d5_markOf_36 ?_ ?_
      · refine j_iconst d5_markOf_43 ejc_1 ?_
        exact j_ireturn hq d5_markOf_44
      · refine j_iconst d5_markOf_39 ejc_2 ?_
        refine j_goto d5_markOf_40 ?_
        exact j_ireturn hq d5_markOf_44
  · refine j_aload_n 0 rfl d5_markOf_5 ?_
    refine j_get fl_X5_15 (cV_g_6_0 x σ) d5_markOf_6 ?_
    refine j_iload_n 1 rfl d5_markOf_9 ?_
    refine j_iload_n 3 rfl d5_markOf_10 ?_
    refine j_callVi (c0_isRightLink x n a1 a3 σ) lv_X5_49 (cV_rc_4 x σ) ⟨Nat.le_of_ble_eq_true rfl, Nat.le_of_ble_eq_true rfl⟩ d5_markOf_11 rfl (Nat.le_of_ble_eq_true rfl) (fun r4 s3 => ?_)
    refine j_if_eq d5_markOf_14 ?_ ?_
    · refine j_iconst d5_markOf_21 ejc_1 ?_
      exact j_ireturn hq d5_markOf_22
    · refine j_iconst d5_markOf_17 ejc_2 ?_
      refine j_goto d5_markOf_18 ?_
      exact j_ireturn hq d5_markOf_22
theorem c5_markOf (x : cw_T) (n : Nat) (a1 : Int32) (a2 : Int32) (a3 : Int32) (σ : ej_S) : ∀ r σ1, m5_markOf n a1 a2 a3 σ = some (r, σ1) → ∀ l, ej_Con l (cV x) i5_markOf yX5_markOf (some .int) [.ref (cw_a x 6), .int a1, .int a2, .int a3] σ (some (.int r)) σ1 := fun r σ1 h l => ej_con_of (cV_ok x) pn_X5 rfl (Nat.le_of_ble_eq_true rfl) rfl h (fun F hq => j5_markOf x n a1 a2 a3 σ hq)

noncomputable def m5_hasBack (n : Nat) (a1 : Int32) (a2 : Int32) (σ : ej_S) : Option (Int32 × ej_S) := ej_bi (m0_has n a1 σ) fun r2 s1 => (if r2 = 0 then (some (0, s1)) else ej_ck a1 24 (ej_bi (m10_holds n (gA s1 24 a1.toNatClampNeg) a2 s1) fun r4 s3 => (if r4 = 0 then (some (0, s3)) else (some (1, s3)))))
set_option maxRecDepth 20000 in
set_option maxHeartbeats 2000000 in
theorem j5_hasBack (x : cw_T) (n : Nat) (a1 : Int32) (a2 : Int32) (σ : ej_S) {F : ej_F} {r0 : Int32 × ej_S} (hq : ej_fin (cV x) F (some .boolean) (some (.int r0.1)) r0.2) : ej_J (cV x) F i5_hasBack r0 σ 0 [(0, .ref (cw_a x 6)), (1, .int a1), (2, .int a2)] [] (m5_hasBack n a1 a2 σ) := by
  unfold m5_hasBack
  refine j_aload_n 0 rfl d5_hasBack_0 ?_
  refine j_get fl_X5_15 (cV_g_6_0 x σ) d5_hasBack_1 ?_
  refine j_iload_n 1 rfl d5_hasBack_4 ?_
  refine j_callVi (c0_has x n a1 σ) lv_X5_19 (cV_rc_4 x σ) ⟨Nat.le_of_ble_eq_true rfl, Nat.le_of_ble_eq_true rfl⟩ d5_hasBack_5 rfl (Nat.le_of_ble_eq_true rfl) (fun r2 s1 => ?_)
  refine j_if_eq d5_hasBack_8 ?_ ?_
  · refine j_iconst d5_hasBack_28 ejc_0 ?_
    exact j_zreturn0 hq d5_hasBack_29
  · refine j_aload_n 0 rfl d5_hasBack_11 ?_
    refine j_get fl_X5_9 (cV_g_6_1 x s1) d5_hasBack_12 ?_
    refine j_iload_n 1 rfl d5_hasBack_15 ?_
    refine j_iald (cV_a_46 x s1) d5_hasBack_16 ?_
    refine j_iload_n 2 rfl d5_hasBack_17 ?_
    refine j_callNi (c10_holds x n (gA s1 24 a1.toNatClampNeg) a2 s1) (ln_X5_25 x) ⟨Nat.le_of_ble_eq_true rfl, Nat.le_of_ble_eq_true rfl⟩ d5_hasBack_18 rfl (Nat.le_of_ble_eq_true rfl) (fun r4 s3 => ?_)
    refine j_if_eq d5_hasBack_21 ?_ ?_
    · refine j_iconst d5_hasBack_28 ejc_0 ?_
      exact j_zreturn0 hq d5_hasBack_29
    · refine j_iconst d5_hasBack_24 ejc_1 ?_
      refine j_goto d5_hasBack_25 ?_
      exact j_zreturn1 hq d5_hasBack_29
theorem c5_hasBack (x : cw_T) (n : Nat) (a1 : Int32) (a2 : Int32) (σ : ej_S) : ∀ r σ1, m5_hasBack n a1 a2 σ = some (r, σ1) → ∀ l, ej_Con l (cV x) i5_hasBack yX5_hasBack (some .boolean) [.ref (cw_a x 6), .int a1, .int a2] σ (some (.int r)) σ1 := fun r σ1 h l => ej_con_of (cV_ok x) pn_X5 rfl (Nat.le_of_ble_eq_true rfl) rfl h (fun F hq => j5_hasBack x n a1 a2 σ hq)

noncomputable def m5_targetsOf (n : Nat) (a1 : Int32) (σ : ej_S) : Option (Int32 × ej_S) := ej_bi (m0_has n a1 σ) fun r2 s1 => (if r2 = 0 then (some (0, s1)) else ej_bi (m0_nextTo n a1 s1) fun r4 s3 => ej_ck a1 24 ((some (r4 ||| (gA s3 24 a1.toNatClampNeg), s3))))
set_option maxRecDepth 20000 in
set_option maxHeartbeats 2000000 in
theorem j5_targetsOf (x : cw_T) (n : Nat) (a1 : Int32) (σ : ej_S) {F : ej_F} {r0 : Int32 × ej_S} (hq : ej_fin (cV x) F (some .int) (some (.int r0.1)) r0.2) : ej_J (cV x) F i5_targetsOf r0 σ 0 [(0, .ref (cw_a x 6)), (1, .int a1)] [] (m5_targetsOf n a1 σ) := by
  unfold m5_targetsOf
  refine j_aload_n 0 rfl d5_targetsOf_0 ?_
  refine j_get fl_X5_15 (cV_g_6_0 x σ) d5_targetsOf_1 ?_
  refine j_iload_n 1 rfl d5_targetsOf_4 ?_
  refine j_callVi (c0_has x n a1 σ) lv_X5_19 (cV_rc_4 x σ) ⟨Nat.le_of_ble_eq_true rfl, Nat.le_of_ble_eq_true rfl⟩ d5_targetsOf_5 rfl (Nat.le_of_ble_eq_true rfl) (fun r2 s1 => ?_)
  refine j_if_eq d5_targetsOf_8 ?_ ?_
  · refine j_iconst d5_targetsOf_29 ejc_0 ?_
    exact j_ireturn hq d5_targetsOf_30
  · refine j_aload_n 0 rfl d5_targetsOf_11 ?_
    refine j_get fl_X5_15 (cV_g_6_0 x s1) d5_targetsOf_12 ?_
    refine j_iload_n 1 rfl d5_targetsOf_15 ?_
    refine j_callVi (c0_nextTo x n a1 s1) lv_X5_29 (cV_rc_4 x s1) ⟨Nat.le_of_ble_eq_true rfl, Nat.le_of_ble_eq_true rfl⟩ d5_targetsOf_16 rfl (Nat.le_of_ble_eq_true rfl) (fun r4 s3 => ?_)
    refine j_aload_n 0 rfl d5_targetsOf_19 ?_
    refine j_get fl_X5_9 (cV_g_6_1 x s3) d5_targetsOf_20 ?_
    refine j_iload_n 1 rfl d5_targetsOf_23 ?_
    refine j_iald (cV_a_46 x s3) d5_targetsOf_24 ?_
    refine j_ior d5_targetsOf_25 ?_
    refine j_goto d5_targetsOf_26 ?_
    exact j_ireturn hq d5_targetsOf_30
theorem c5_targetsOf (x : cw_T) (n : Nat) (a1 : Int32) (σ : ej_S) : ∀ r σ1, m5_targetsOf n a1 σ = some (r, σ1) → ∀ l, ej_Con l (cV x) i5_targetsOf yX5_targetsOf (some .int) [.ref (cw_a x 6), .int a1] σ (some (.int r)) σ1 := fun r σ1 h l => ej_con_of (cV_ok x) pn_X5 rfl (Nat.le_of_ble_eq_true rfl) rfl h (fun F hq => j5_targetsOf x n a1 σ hq)

noncomputable def m5_plus (n : Nat) (a1 : Int32) (a2 : Int32) (σ : ej_S) : Option (Int32 × ej_S) := (if a1 = (-1) then (some ((-1), σ)) else (some (a1 + a2, σ)))
set_option maxRecDepth 20000 in
set_option maxHeartbeats 2000000 in
theorem j5_plus (x : cw_T) (n : Nat) (a1 : Int32) (a2 : Int32) (σ : ej_S) {F : ej_F} {r0 : Int32 × ej_S} (hq : ej_fin (cV x) F (some .int) (some (.int r0.1)) r0.2) : ej_J (cV x) F i5_plus r0 σ 0 [(0, .int a1), (1, .int a2)] [] (m5_plus n a1 a2 σ) := by
  unfold m5_plus
  refine j_iload_n 0 rfl d5_plus_0 ?_
  refine j_iconst d5_plus_1 ejc_m1 ?_
  refine j_icmp_ne d5_plus_2 ?_ ?_
  · refine j_iload_n 0 rfl d5_plus_9 ?_
    refine j_iload_n 1 rfl d5_plus_10 ?_
    refine j_iadd d5_plus_11 ?_
    exact j_ireturn hq d5_plus_12
  · refine j_iconst d5_plus_5 ejc_m1 ?_
    refine j_goto d5_plus_6 ?_
    exact j_ireturn hq d5_plus_12
theorem c5_plus (x : cw_T) (n : Nat) (a1 : Int32) (a2 : Int32) (σ : ej_S) : ∀ r σ1, m5_plus n a1 a2 σ = some (r, σ1) → ∀ l, ej_Con l (cV x) i5_plus yX5_plus (some .int) [.int a1, .int a2] σ (some (.int r)) σ1 := fun r σ1 h l => ej_con_of (cV_ok x) pn_X5 rfl (Nat.le_of_ble_eq_true rfl) rfl h (fun F hq => j5_plus x n a1 a2 σ hq)

noncomputable def m5_plainCost (n : Nat) (a1 : Int32) (a2 : Int32) (a3 : Int32) (σ : ej_S) : Option (Int32 × ej_S) := (if a2 = 1 then ej_bi (m0_isAlias n a1 a3 σ) fun r2 s1 => (if r2 = 0 then (some ((-1), s1)) else (some (0, s1))) else (if a2 = 2 then ej_bi (m0_priceOfLink n a1 a3 σ) fun r4 s3 => ej_bi (m0_deathsOn n a1 a3 s3) fun r6 s5 => ej_bi (m5_plus n r4 (100000 * r6) s5) fun r8 s7 => (some (r8, s7)) else (if a2 = 3 then ej_bi (m0_priceOfMember n a1 a3 σ) fun r10 s9 => ej_bi (m0_isGate n a3 s9) fun r12 s11 => (if r12 = 0 then ej_bi (m5_plus n r10 0 s11) fun r14 s13 => (some (r14, s13)) else ej_bi (m5_plus n r10 70000 s11) fun r16 s15 => (some (r16, s15))) else (if a2 = 4 then ej_bi (m0_priceOfMember n a3 a1 σ) fun r18 s17 => (if r18 = (-1) then (some ((-1), s17)) else (some (0, s17))) else (if a2 = 5 then ej_bi (m5_hasBack n a1 a3 σ) fun r20 s19 => (if r20 = 0 then (some ((-1), s19)) else ej_bi (m0_priceOfLink n a3 a1 s19) fun r22 s21 => ej_bi (m5_plus n r22 200000 s21) fun r24 s23 => (some (r24, s23))) else (some ((-1), σ)))))))
set_option maxRecDepth 20000 in
set_option maxHeartbeats 2000000 in
theorem j5_plainCost (x : cw_T) (n : Nat) (a1 : Int32) (a2 : Int32) (a3 : Int32) (σ : ej_S) {F : ej_F} {r0 : Int32 × ej_S} (hq : ej_fin (cV x) F (some .int) (some (.int r0.1)) r0.2) : ej_J (cV x) F i5_plainCost r0 σ 0 [(0, .ref (cw_a x 6)), (1, .int a1), (2, .int a2), (3, .int a3)] [] (m5_plainCost n a1 a2 a3 σ) := by
  unfold m5_plainCost
  refine j_iload_n 2 rfl d5_plainCost_0 ?_
  refine j_tab1 (v := 1) (off := 35) (t := 36) d5_plainCost_1 (by decide) (by decide) rfl (by decide) ?_ (fun hne1 => ?_)
  · refine j_aload_n 0 rfl d5_plainCost_36 ?_
    refine j_get fl_X5_15 (cV_g_6_0 x σ) d5_plainCost_37 ?_
    refine j_iload_n 1 rfl d5_plainCost_40 ?_
    refine j_iload_n 3 rfl d5_plainCost_41 ?_
    refine j_callVi (c0_isAlias x n a1 a3 σ) lv_X5_55 (cV_rc_4 x σ) ⟨Nat.le_of_ble_eq_true rfl, Nat.le_of_ble_eq_true rfl⟩ d5_plainCost_42 rfl (Nat.le_of_ble_eq_true rfl) (fun r2 s1 => ?_)
    refine j_if_eq d5_plainCost_45 ?_ ?_
    · refine j_iconst d5_plainCost_52 ejc_m1 ?_
      exact j_ireturn hq d5_plainCost_53
    · refine j_iconst d5_plainCost_48 ejc_0 ?_
      refine j_goto d5_plainCost_49 ?_
      exact j_ireturn hq d5_plainCost_53
  refine j_tab1 (v := 2) (off := 53) (t := 54) d5_plainCost_1 (by decide) (by decide) rfl (by decide) ?_ (fun hne2 => ?_)
  · refine j_aload_n 0 rfl d5_plainCost_54 ?_
    refine j_get fl_X5_15 (cV_g_6_0 x σ) d5_plainCost_55 ?_
    refine j_iload_n 1 rfl d5_plainCost_58 ?_
    refine j_iload_n 3 rfl d5_plainCost_59 ?_
    refine j_callVi (c0_priceOfLink x n a1 a3 σ) lv_X5_58 (cV_rc_4 x σ) ⟨Nat.le_of_ble_eq_true rfl, Nat.le_of_ble_eq_true rfl⟩ d5_plainCost_60 rfl (Nat.le_of_ble_eq_true rfl) (fun r4 s3 => ?_)
    refine j_ldc d5_plainCost_63 ki_X5_61 ?_
    refine j_aload_n 0 rfl d5_plainCost_65 ?_
    refine j_get fl_X5_15 (cV_g_6_0 x s3) d5_plainCost_66 ?_
    refine j_iload_n 1 rfl d5_plainCost_69 ?_
    refine j_iload_n 3 rfl d5_plainCost_70 ?_
    refine j_callVi (c0_deathsOn x n a1 a3 s3) lv_X5_62 (cV_rc_4 x s3) ⟨Nat.le_of_ble_eq_true rfl, Nat.le_of_ble_eq_true rfl⟩ d5_plainCost_71 rfl (Nat.le_of_ble_eq_true rfl) (fun r6 s5 => ?_)
    refine j_imul d5_plainCost_74 ?_
    refine j_callSi (c5_plus x n r4 (100000 * r6) s5) ls_X5_41 ⟨Nat.le_of_ble_eq_true rfl, Nat.le_of_ble_eq_true rfl⟩ d5_plainCost_75 rfl (Nat.le_of_ble_eq_true rfl) (fun r8 s7 => ?_)
    exact j_ireturn hq d5_plainCost_78
  refine j_tab1 (v := 3) (off := 78) (t := 79) d5_plainCost_1 (by decide) (by decide) rfl (by decide) ?_ (fun hne3 => ?_)
  · refine j_aload_n 0 rfl d5_plainCost_79 ?_
    refine j_get fl_X5_15 (cV_g_6_0 x σ) d5_plainCost_80 ?_
    refine j_iload_n 1 rfl d5_plainCost_83 ?_
    refine j_iload_n 3 rfl d5_plainCost_84 ?_
    refine j_callVi (c0_priceOfMember x n a1 a3 σ) lv_X5_65 (cV_rc_4 x σ) ⟨Nat.le_of_ble_eq_true rfl, Nat.le_of_ble_eq_true rfl⟩ d5_plainCost_85 rfl (Nat.le_of_ble_eq_true rfl) (fun r10 s9 => ?_)
    refine j_aload_n 0 rfl d5_plainCost_88 ?_
    refine j_get fl_X5_15 (cV_g_6_0 x s9) d5_plainCost_89 ?_
    refine j_iload_n 3 rfl d5_plainCost_92 ?_
    refine j_callVi (c0_isGate x n a3 s9) lv_X5_68 (cV_rc_4 x s9) ⟨Nat.le_of_ble_eq_true rfl, Nat.le_of_ble_eq_true rfl⟩ d5_plainCost_93 rfl (Nat.le_of_ble_eq_true rfl) (fun r12 s11 => ?_)
    refine j_if_eq d5_plainCost_96 ?_ ?_
    · refine j_iconst d5_plainCost_104 ejc_0 ?_
      refine j_callSi (c5_plus x n r10 0 s11) ls_X5_41 ⟨Nat.le_of_ble_eq_true rfl, Nat.le_of_ble_eq_true rfl⟩ d5_plainCost_105 rfl (Nat.le_of_ble_eq_true rfl) (fun r14 s13 => ?_)
      exact j_ireturn hq d5_plainCost_108
    · refine j_ldc d5_plainCost_99 ki_X5_71 ?_
      refine j_goto d5_plainCost_101 ?_
      refine j_callSi (c5_plus x n r10 70000 s11) ls_X5_41 ⟨Nat.le_of_ble_eq_true rfl, Nat.le_of_ble_eq_true rfl⟩ d5_plainCost_105 rfl (Nat.le_of_ble_eq_true rfl) (fun r16 s15 => ?_)
      exact j_ireturn hq d5_plainCost_108
  refine j_tab1 (v := 4) (off := 108) (t := 109) d5_plainCost_1 (by decide) (by decide) rfl (by decide) ?_ (fun hne4 => ?_)
  · refine j_aload_n 0 rfl d5_plainCost_109 ?_
    refine j_get fl_X5_15 (cV_g_6_0 x σ) d5_plainCost_110 ?_
    refine j_iload_n 3 rfl d5_plainCost_113 ?_
    refine j_iload_n 1 rfl d5_plainCost_114 ?_
    refine j_callVi (c0_priceOfMember x n a3 a1 σ) lv_X5_65 (cV_rc_4 x σ) ⟨Nat.le_of_ble_eq_true rfl, Nat.le_of_ble_eq_true rfl⟩ d5_plainCost_115 rfl (Nat.le_of_ble_eq_true rfl) (fun r18 s17 => ?_)
    refine j_iconst d5_plainCost_118 ejc_m1 ?_
    refine j_icmp_ne d5_plainCost_119 ?_ ?_
    · refine j_iconst d5_plainCost_126 ejc_0 ?_
      exact j_ireturn hq d5_plainCost_127
    · refine j_iconst d5_plainCost_122 ejc_m1 ?_
      refine j_goto d5_plainCost_123 ?_
      exact j_ireturn hq d5_plainCost_127
  refine j_tab1 (v := 5) (off := 127) (t := 128) d5_plainCost_1 (by decide) (by decide) rfl (by decide) ?_ (fun hne5 => ?_)
  · refine j_aload_n 0 rfl d5_plainCost_128 ?_
    refine j_iload_n 1 rfl d5_plainCost_129 ?_
    refine j_iload_n 3 rfl d5_plainCost_130 ?_
    refine j_callVi (c5_hasBack x n a1 a3 σ) lv_X5_72 (cV_rc_6 x σ) ⟨Nat.le_of_ble_eq_true rfl, Nat.le_of_ble_eq_true rfl⟩ d5_plainCost_131 rfl (Nat.le_of_ble_eq_true rfl) (fun r20 s19 => ?_)
    refine j_if_eq d5_plainCost_134 ?_ ?_
    · refine j_iconst d5_plainCost_154 ejc_m1 ?_
      exact j_ireturn hq d5_plainCost_155
    · refine j_aload_n 0 rfl d5_plainCost_137 ?_
      refine j_get fl_X5_15 (cV_g_6_0 x s19) d5_plainCost_138 ?_
      refine j_iload_n 3 rfl d5_plainCost_141 ?_
      refine j_iload_n 1 rfl d5_plainCost_142 ?_
      refine j_callVi (c0_priceOfLink x n a3 a1 s19) lv_X5_58 (cV_rc_4 x s19) ⟨Nat.le_of_ble_eq_true rfl, Nat.le_of_ble_eq_true rfl⟩ d5_plainCost_143 rfl (Nat.le_of_ble_eq_true rfl) (fun r22 s21 => ?_)
      refine j_ldc d5_plainCost_146 ki_X5_75 ?_
      refine j_callSi (c5_plus x n r22 200000 s21) ls_X5_41 ⟨Nat.le_of_ble_eq_true rfl, Nat.le_of_ble_eq_true rfl⟩ d5_plainCost_148 rfl (Nat.le_of_ble_eq_true rfl) (fun r24 s23 => ?_)
      refine j_goto d5_plainCost_151 ?_
      exact j_ireturn hq d5_plainCost_155
  refine j_tabO (t := 156) d5_plainCost_1 (by first | exact ej_tout5 hne1 hne2 hne3 hne4 hne5) (by decide) ?_
  refine j_iconst d5_plainCost_156 ejc_m1 ?_
  exact j_ireturn hq d5_plainCost_157
theorem c5_plainCost (x : cw_T) (n : Nat) (a1 : Int32) (a2 : Int32) (a3 : Int32) (σ : ej_S) : ∀ r σ1, m5_plainCost n a1 a2 a3 σ = some (r, σ1) → ∀ l, ej_Con l (cV x) i5_plainCost yX5_plainCost (some .int) [.ref (cw_a x 6), .int a1, .int a2, .int a3] σ (some (.int r)) σ1 := fun r σ1 h l => ej_con_of (cV_ok x) pn_X5 rfl (Nat.le_of_ble_eq_true rfl) rfl h (fun F hq => j5_plainCost x n a1 a2 a3 σ hq)

noncomputable def m5_costOf_37 (n : Nat) (y3 : Int32) (y4 : Int32) (y5 : Int32) (σ : ej_S) : Option (Int32 × ej_S) := (if y3 &&& 2 = 0 then (some (y5, σ)) else (if y4 = 2 then ej_bi (m5_plus n y5 60000 σ) fun r7 s6 => (some (r7, s6)) else (if y4 = 5 then ej_bi (m5_plus n y5 60000 σ) fun r9 s8 => (some (r9, s8)) else (if y4 = 3 then ej_bi (m5_plus n y5 60000 σ) fun r11 s10 => (some (r11, s10)) else (some (y5, σ))))))
set_option maxRecDepth 20000 in
set_option maxHeartbeats 2000000 in
theorem j5_costOf_37 (x : cw_T) (n : Nat) {F : ej_F} {r0 : Int32 × ej_S} (hq : ej_fin (cV x) F (some .int) (some (.int r0.1)) r0.2) (y3 : Int32) (y4 : Int32) (y5 : Int32) (σ : ej_S) : ej_J (cV x) F i5_costOf r0 σ 37 [(2, .int y3), (3, .int y4), (5, .int y5)] [] (m5_costOf_37 n y3 y4 y5 σ) := by
  unfold m5_costOf_37
  refine j_iload_n 0 rfl d5_costOf_37 ?_
  refine j_iconst d5_costOf_38 ejc_2 ?_
  refine j_iand d5_costOf_39 ?_
  refine j_if_eq d5_costOf_40 ?_ ?_
  · refine j_iload 2 rfl d5_costOf_67 ?_
    exact j_ireturn hq d5_costOf_69
  · refine j_iload_n 1 rfl d5_costOf_43 ?_
    refine j_iconst d5_costOf_44 ejc_2 ?_
    refine j_icmp_eq d5_costOf_45 ?_ ?_
    · refine j_iload 2 rfl d5_costOf_58 ?_
      refine j_ldc d5_costOf_60 ki_X5_45 ?_
      refine j_callSi (c5_plus x n y5 60000 σ) ls_X5_41 ⟨Nat.le_of_ble_eq_true rfl, Nat.le_of_ble_eq_true rfl⟩ d5_costOf_62 rfl (Nat.le_of_ble_eq_true rfl) (fun r7 s6 => ?_)
      refine j_istore (i := 5) (L' := [(5, .int r7), (2, .int y3), (3, .int y4)]) d5_costOf_65 (Nat.le_of_ble_eq_true rfl) rfl ?_
      refine j_iload 0 rfl d5_costOf_67 ?_
      exact j_ireturn hq d5_costOf_69
    · refine j_iload_n 1 rfl d5_costOf_48 ?_
      refine j_iconst d5_costOf_49 ejc_5 ?_
      refine j_icmp_eq d5_costOf_50 ?_ ?_
      · refine j_iload 2 rfl d5_costOf_58 ?_
        refine j_ldc d5_costOf_60 ki_X5_45 ?_
        refine j_callSi (c5_plus x n y5 60000 σ) ls_X5_41 ⟨Nat.le_of_ble_eq_true rfl, Nat.le_of_ble_eq_true rfl⟩ d5_costOf_62 rfl (Nat.le_of_ble_eq_true rfl) (fun r9 s8 => ?_)
        refine j_istore (i := 5) (L' := [(5, .int r9), (2, .int y3), (3, .int y4)]) d5_costOf_65 (Nat.le_of_ble_eq_true rfl) rfl ?_
        refine j_iload 0 rfl d5_costOf_67 ?_
        exact j_ireturn hq d5_costOf_69
      · refine j_iload_n 1 rfl d5_costOf_53 ?_
        refine j_iconst d5_costOf_54 ejc_3 ?_
        refine j_icmp_ne d5_costOf_55 ?_ ?_
        · refine j_iload 2 rfl d5_costOf_67 ?_
          exact j_ireturn hq d5_costOf_69
        · refine j_iload 2 rfl d5_costOf_58 ?_
          refine j_ldc d5_costOf_60 ki_X5_45 ?_
          refine j_callSi (c5_plus x n y5 60000 σ) ls_X5_41 ⟨Nat.le_of_ble_eq_true rfl, Nat.le_of_ble_eq_true rfl⟩ d5_costOf_62 rfl (Nat.le_of_ble_eq_true rfl) (fun r11 s10 => ?_)
          refine j_istore (i := 5) (L' := [(5, .int r11), (2, .int y3), (3, .int y4)]) d5_costOf_65 (Nat.le_of_ble_eq_true rfl) rfl ?_
          refine j_iload 0 rfl d5_costOf_67 ?_
          exact j_ireturn hq d5_costOf_69
noncomputable def m5_costOf (n : Nat) (a1 : Int32) (a2 : Int32) (a3 : Int32) (a4 : Int32) (σ : ej_S) : Option (Int32 × ej_S) := ej_bi (m5_plainCost n a1 a3 a4 σ) fun r2 s1 => (if a2 &&& 1 = 0 then (m5_costOf_37 n a2 a3 r2 s1) else ej_bi (m5_markOf n a1 a3 a4 s1) fun r13 s12 => (if r13 = 1 then ej_bi (m5_plus n r2 50000 s12) fun r15 s14 => (m5_costOf_37 n a2 a3 r15 s14) else (m5_costOf_37 n a2 a3 r2 s12)))
set_option maxRecDepth 20000 in
set_option maxHeartbeats 2000000 in
theorem j5_costOf (x : cw_T) (n : Nat) (a1 : Int32) (a2 : Int32) (a3 : Int32) (a4 : Int32) (σ : ej_S) {F : ej_F} {r0 : Int32 × ej_S} (hq : ej_fin (cV x) F (some .int) (some (.int r0.1)) r0.2) : ej_J (cV x) F i5_costOf r0 σ 0 [(0, .ref (cw_a x 6)), (1, .int a1), (2, .int a2), (3, .int a3), (4, .int a4)] [] (m5_costOf n a1 a2 a3 a4 σ) := by
  unfold m5_costOf
  refine j_aload_n 0 rfl d5_costOf_0 ?_
  refine j_iload_n 1 rfl d5_costOf_1 ?_
  refine j_iload_n 3 rfl d5_costOf_2 ?_
  refine j_iload 4 rfl d5_costOf_3 ?_
  refine j_callVi (c5_plainCost x n a1 a3 a4 σ) lv_X5_33 (cV_rc_6 x σ) ⟨Nat.le_of_ble_eq_true rfl, Nat.le_of_ble_eq_true rfl⟩ d5_costOf_5 rfl (Nat.le_of_ble_eq_true rfl) (fun r2 s1 => ?_)
  refine j_istore (i := 5) (L' := [(5, .int r2), (0, .ref (cw_a x 6)), (1, .int a1), (2, .int a2), (3, .int a3), (4, .int a4)]) d5_costOf_8 (Nat.le_of_ble_eq_true rfl) rfl ?_
  refine j_iload_n 3 rfl d5_costOf_10 ?_
  refine j_iconst d5_costOf_11 ejc_1 ?_
  refine j_iand d5_costOf_12 ?_
  refine j_if_eq d5_costOf_13 ?_ ?_
  · exact j_sub [3, 4, 0] rfl (j5_costOf_37 x n hq a2 a3 r2 s1)
  · refine j_aload_n 1 rfl d5_costOf_16 ?_
    refine j_iload_n 2 rfl d5_costOf_17 ?_
    refine j_iload_n 4 rfl d5_costOf_18 ?_
    refine j_iload 5 rfl d5_costOf_19 ?_
    refine j_callVi (c5_markOf x n a1 a3 a4 s1) lv_X5_37 (cV_rc_6 x s1) ⟨Nat.le_of_ble_eq_true rfl, Nat.le_of_ble_eq_true rfl⟩ d5_costOf_21 rfl (Nat.le_of_ble_eq_true rfl) (fun r13 s12 => ?_)
    refine j_iconst d5_costOf_24 ejc_1 ?_
    refine j_icmp_ne d5_costOf_25 ?_ ?_
    · exact j_sub [3, 4, 0] rfl (j5_costOf_37 x n hq a2 a3 r2 s12)
    · refine j_iload 0 rfl d5_costOf_28 ?_
      refine j_ldc d5_costOf_30 ki_X5_40 ?_
      refine j_callSi (c5_plus x n r2 50000 s12) ls_X5_41 ⟨Nat.le_of_ble_eq_true rfl, Nat.le_of_ble_eq_true rfl⟩ d5_costOf_32 rfl (Nat.le_of_ble_eq_true rfl) (fun r15 s14 => ?_)
      refine j_istore (i := 5) (L' := [(5, .int r15), (0, .ref (cw_a x 6)), (1, .int a1), (2, .int a2), (3, .int a3), (4, .int a4)]) d5_costOf_35 (Nat.le_of_ble_eq_true rfl) rfl ?_
      exact j_sub [3, 4, 0] rfl (j5_costOf_37 x n hq a2 a3 r15 s14)
theorem c5_costOf (x : cw_T) (n : Nat) (a1 : Int32) (a2 : Int32) (a3 : Int32) (a4 : Int32) (σ : ej_S) : ∀ r σ1, m5_costOf n a1 a2 a3 a4 σ = some (r, σ1) → ∀ l, ej_Con l (cV x) i5_costOf yX5_costOf (some .int) [.ref (cw_a x 6), .int a1, .int a2, .int a3, .int a4] σ (some (.int r)) σ1 := fun r σ1 h l => ej_con_of (cV_ok x) pn_X5 rfl (Nat.le_of_ble_eq_true rfl) rfl h (fun F hq => j5_costOf x n a1 a2 a3 a4 σ hq)

noncomputable def m5_stateBehind_31 (n : Nat) (y3 : Int32) (y4 : Int32) (y5 : Int32) (σ : ej_S) : Option (Int32 × ej_S) := ej_bi (m0_isDomain n y3 σ) fun r7 s6 => (if r7 = 0 then (some (y5, s6)) else ej_bi (m0_isDomain n y4 s6) fun r9 s8 => (if r9 = 0 then ej_nm (y5 ||| 2) fun x10 => (some (x10, s8)) else (some (y5, s8))))
set_option maxRecDepth 20000 in
set_option maxHeartbeats 2000000 in
theorem j5_stateBehind_31 (x : cw_T) (n : Nat) {F : ej_F} {r0 : Int32 × ej_S} (hq : ej_fin (cV x) F (some .int) (some (.int r0.1)) r0.2) (y3 : Int32) (y4 : Int32) (y5 : Int32) (σ : ej_S) : ej_J (cV x) F i5_stateBehind r0 σ 31 [(0, .ref (cw_a x 6)), (1, .int y3), (4, .int y4), (5, .int y5)] [] (m5_stateBehind_31 n y3 y4 y5 σ) := by
  unfold m5_stateBehind_31
  refine j_aload_n 0 rfl d5_stateBehind_31 ?_
  refine j_get fl_X5_15 (cV_g_6_0 x σ) d5_stateBehind_32 ?_
  refine j_iload_n 1 rfl d5_stateBehind_35 ?_
  refine j_callVi (c0_isDomain x n y3 σ) lv_X5_46 (cV_rc_4 x σ) ⟨Nat.le_of_ble_eq_true rfl, Nat.le_of_ble_eq_true rfl⟩ d5_stateBehind_36 rfl (Nat.le_of_ble_eq_true rfl) (fun r7 s6 => ?_)
  refine j_if_eq d5_stateBehind_39 ?_ ?_
  · refine j_iload 3 rfl d5_stateBehind_60 ?_
    exact j_ireturn hq d5_stateBehind_62
  · refine j_aload_n 0 rfl d5_stateBehind_42 ?_
    refine j_get fl_X5_15 (cV_g_6_0 x s6) d5_stateBehind_43 ?_
    refine j_iload 2 rfl d5_stateBehind_46 ?_
    refine j_callVi (c0_isDomain x n y4 s6) lv_X5_46 (cV_rc_4 x s6) ⟨Nat.le_of_ble_eq_true rfl, Nat.le_of_ble_eq_true rfl⟩ d5_stateBehind_48 rfl (Nat.le_of_ble_eq_true rfl) (fun r9 s8 => ?_)
    refine j_if_ne d5_stateBehind_51 ?_ ?_
    · refine j_iload 3 rfl d5_stateBehind_60 ?_
      exact j_ireturn hq d5_stateBehind_62
    · refine j_iload 3 rfl d5_stateBehind_54 ?_
      refine j_iconst d5_stateBehind_56 ejc_2 ?_
      refine j_ior d5_stateBehind_57 ?_
      refine j_nmi (fun x10 => ?_)
      refine j_istore (i := 5) (L' := [(5, .int x10), (0, .ref (cw_a x 6)), (1, .int y3), (4, .int y4)]) d5_stateBehind_58 (Nat.le_of_ble_eq_true rfl) rfl ?_
      refine j_iload 0 rfl d5_stateBehind_60 ?_
      exact j_ireturn hq d5_stateBehind_62
noncomputable def m5_stateBehind (n : Nat) (a1 : Int32) (a2 : Int32) (a3 : Int32) (a4 : Int32) (σ : ej_S) : Option (Int32 × ej_S) := ej_bi (m5_markOf n a1 a3 a4 σ) fun r2 s1 => (if r2 = 2 then ej_nm (a2 ||| 1) fun x11 => (if a3 = 2 then (m5_stateBehind_31 n a1 a4 x11 s1) else (if a3 = 4 then (m5_stateBehind_31 n a1 a4 x11 s1) else (some (x11, s1)))) else (if a3 = 2 then (m5_stateBehind_31 n a1 a4 a2 s1) else (if a3 = 4 then (m5_stateBehind_31 n a1 a4 a2 s1) else (some (a2, s1)))))
set_option maxRecDepth 20000 in
set_option maxHeartbeats 2000000 in
theorem j5_stateBehind (x : cw_T) (n : Nat) (a1 : Int32) (a2 : Int32) (a3 : Int32) (a4 : Int32) (σ : ej_S) {F : ej_F} {r0 : Int32 × ej_S} (hq : ej_fin (cV x) F (some .int) (some (.int r0.1)) r0.2) : ej_J (cV x) F i5_stateBehind r0 σ 0 [(0, .ref (cw_a x 6)), (1, .int a1), (2, .int a2), (3, .int a3), (4, .int a4)] [] (m5_stateBehind n a1 a2 a3 a4 σ) := by
  unfold m5_stateBehind
  refine j_iload_n 2 rfl d5_stateBehind_0 ?_
  refine j_istore (i := 5) (L' := [(5, .int a2), (0, .ref (cw_a x 6)), (1, .int a1), (2, .int a2), (3, .int a3), (4, .int a4)]) d5_stateBehind_1 (Nat.le_of_ble_eq_true rfl) rfl ?_
  refine j_aload_n 1 rfl d5_stateBehind_3 ?_
  refine j_iload_n 2 rfl d5_stateBehind_4 ?_
  refine j_iload_n 4 rfl d5_stateBehind_5 ?_
  refine j_iload 5 rfl d5_stateBehind_6 ?_
  refine j_callVi (c5_markOf x n a1 a3 a4 σ) lv_X5_37 (cV_rc_6 x σ) ⟨Nat.le_of_ble_eq_true rfl, Nat.le_of_ble_eq_true rfl⟩ d5_stateBehind_8 rfl (Nat.le_of_ble_eq_true rfl) (fun r2 s1 => ?_)
  refine j_iconst d5_stateBehind_11 ejc_2 ?_
  refine j_icmp_ne d5_stateBehind_12 ?_ ?_
  · refine j_iload_n 4 rfl d5_stateBehind_21 ?_
    refine j_iconst d5_stateBehind_22 ejc_2 ?_
    refine j_icmp_eq d5_stateBehind_23 ?_ ?_
    · exact j_sub [1, 2, 5, 0] rfl (j5_stateBehind_31 x n hq a1 a4 a2 s1)
    · refine j_iload_n 4 rfl d5_stateBehind_26 ?_
      refine j_iconst d5_stateBehind_27 ejc_4 ?_
      refine j_icmp_ne d5_stateBehind_28 ?_ ?_
      · refine j_iload 0 rfl d5_stateBehind_60 ?_
        exact j_ireturn hq d5_stateBehind_62
      · exact j_sub [1, 2, 5, 0] rfl (j5_stateBehind_31 x n hq a1 a4 a2 s1)
  · refine j_iload 0 rfl d5_stateBehind_15 ?_
    refine j_iconst d5_stateBehind_17 ejc_1 ?_
    refine j_ior d5_stateBehind_18 ?_
    refine j_nmi (fun x11 => ?_)
    refine j_istore (i := 5) (L' := [(5, .int x11), (0, .ref (cw_a x 6)), (1, .int a1), (2, .int a2), (3, .int a3), (4, .int a4)]) d5_stateBehind_19 (Nat.le_of_ble_eq_true rfl) rfl ?_
    refine j_iload_n 4 rfl d5_stateBehind_21 ?_
    refine j_iconst d5_stateBehind_22 ejc_2 ?_
    refine j_icmp_eq d5_stateBehind_23 ?_ ?_
    · exact j_sub [1, 2, 5, 0] rfl (j5_stateBehind_31 x n hq a1 a4 x11 s1)
    · refine j_iload_n 4 rfl d5_stateBehind_26 ?_
      refine j_iconst d5_stateBehind_27 ejc_4 ?_
      refine j_icmp_ne d5_stateBehind_28 ?_ ?_
      · refine j_iload 0 rfl d5_stateBehind_60 ?_
        exact j_ireturn hq d5_stateBehind_62
      · exact j_sub [1, 2, 5, 0] rfl (j5_stateBehind_31 x n hq a1 a4 x11 s1)
theorem c5_stateBehind (x : cw_T) (n : Nat) (a1 : Int32) (a2 : Int32) (a3 : Int32) (a4 : Int32) (σ : ej_S) : ∀ r σ1, m5_stateBehind n a1 a2 a3 a4 σ = some (r, σ1) → ∀ l, ej_Con l (cV x) i5_stateBehind yX5_stateBehind (some .int) [.ref (cw_a x 6), .int a1, .int a2, .int a3, .int a4] σ (some (.int r)) σ1 := fun r σ1 h l => ej_con_of (cV_ok x) pn_X5 rfl (Nat.le_of_ble_eq_true rfl) rfl h (fun F hq => j5_stateBehind x n a1 a2 a3 a4 σ hq)

noncomputable def m5_spread_16 (n : Nat) (f4 : Int32 → Int32 → ej_S → Option (Int32 × ej_S)) (k : Nat) : Int32 → Int32 → Int32 → Int32 → ej_S → Option (Int32 × ej_S) := Nat.rec (motive := fun _ => Int32 → Int32 → Int32 → Int32 → ej_S → Option (Int32 × ej_S)) (fun _ _ _ _ _ => none) (fun _ ih y3 y4 y5 y6 σ => (if 24 ≤ y6 then (if y3 = y5 then (some (y3, σ)) else ej_nm (y4 + 1) fun x7 => (f4 y3 x7 σ)) else ej_bi (m10_holds n y3 y6 σ) fun r9 s8 => (if r9 = 0 then ej_nm (y6 + 1) fun x10 => (ih y3 y4 y5 x10 s8) else ej_bi (m5_targetsOf n y6 s8) fun r12 s11 => ej_nm (y3 ||| r12) fun x13 => ej_nm (y6 + 1) fun x14 => (ih x13 y4 y5 x14 s11)))) k
theorem m5_spread_16_s (n : Nat) (f4 : Int32 → Int32 → ej_S → Option (Int32 × ej_S)) (k : Nat) (y3 : Int32) (y4 : Int32) (y5 : Int32) (y6 : Int32) (σ : ej_S) : m5_spread_16 n f4 (k + 1) y3 y4 y5 y6 σ = ((if 24 ≤ y6 then (if y3 = y5 then (some (y3, σ)) else ej_nm (y4 + 1) fun x7 => (f4 y3 x7 σ)) else ej_bi (m10_holds n y3 y6 σ) fun r9 s8 => (if r9 = 0 then ej_nm (y6 + 1) fun x10 => ((m5_spread_16 n f4 k) y3 y4 y5 x10 s8) else ej_bi (m5_targetsOf n y6 s8) fun r12 s11 => ej_nm (y3 ||| r12) fun x13 => ej_nm (y6 + 1) fun x14 => ((m5_spread_16 n f4 k) x13 y4 y5 x14 s11))) : Option (Int32 × ej_S)) := rfl
set_option maxRecDepth 20000 in
set_option maxHeartbeats 2000000 in
theorem j5_spread_16 (x : cw_T) (n : Nat) {F : ej_F} {r0 : Int32 × ej_S} (hq : ej_fin (cV x) F (some .int) (some (.int r0.1)) r0.2) (f4 : Int32 → Int32 → ej_S → Option (Int32 × ej_S)) (H4 : ∀ (y1 : Int32) (y2 : Int32) (σ : ej_S), ej_J (cV x) F i5_spread r0 σ 4 [(0, .ref (cw_a x 6)), (2, .int y1), (3, .int y2)] [] (f4 y1 y2 σ)) : ∀ (k : Nat) (y3 : Int32) (y4 : Int32) (y5 : Int32) (y6 : Int32) (σ : ej_S), ej_J (cV x) F i5_spread r0 σ 16 [(0, .ref (cw_a x 6)), (2, .int y3), (3, .int y4), (4, .int y5), (5, .int y6)] [] (m5_spread_16 n f4 k y3 y4 y5 y6 σ) := by
  intro k
  induction k with
  | zero => intro y3 y4 y5 y6 σ; exact j_none
  | succ k ih =>
    intro y3 y4 y5 y6 σ
    rw [m5_spread_16_s]
    refine j_iload 4 rfl d5_spread_16 ?_
    refine j_bipush d5_spread_18 ejb_24 ?_
    refine j_icmp_ge d5_spread_20 ?_ ?_
    · refine j_iload_n 1 rfl d5_spread_47 ?_
      refine j_iload 3 rfl d5_spread_48 ?_
      refine j_icmp_ne d5_spread_50 ?_ ?_
      · refine j_iinc (i := 3) (v := 1) (Ly := fun x7 => [(3, .int x7), (0, .ref (cw_a x 6)), (2, .int y3), (4, .int y5), (5, .int y6)]) 2 d5_spread_55 rfl ejc_1 (Nat.le_of_ble_eq_true rfl) (fun _ => rfl) (fun x7 => ?_)
        refine j_goto d5_spread_58 ?_
        exact j_sub [1, 2, 0] rfl (H4 y3 x7 σ)
      · refine j_iload_n 1 rfl d5_spread_53 ?_
        exact j_ireturn hq d5_spread_54
    · refine j_iload_n 1 rfl d5_spread_23 ?_
      refine j_iload 4 rfl d5_spread_24 ?_
      refine j_callNi (c10_holds x n y3 y6 σ) (ln_X5_25 x) ⟨Nat.le_of_ble_eq_true rfl, Nat.le_of_ble_eq_true rfl⟩ d5_spread_26 rfl (Nat.le_of_ble_eq_true rfl) (fun r9 s8 => ?_)
      refine j_if_eq d5_spread_29 ?_ ?_
      · refine j_iinc (i := 5) (v := 1) (Ly := fun x10 => [(5, .int x10), (0, .ref (cw_a x 6)), (2, .int y3), (3, .int y4), (4, .int y5)]) 4 d5_spread_41 rfl ejc_1 (Nat.le_of_ble_eq_true rfl) (fun _ => rfl) (fun x10 => ?_)
        refine j_goto d5_spread_44 ?_
        exact j_sub [1, 2, 3, 4, 0] rfl (ih y3 y4 y5 x10 s8)
      · refine j_iload_n 1 rfl d5_spread_32 ?_
        refine j_aload_n 0 rfl d5_spread_33 ?_
        refine j_iload 4 rfl d5_spread_34 ?_
        refine j_callVi (c5_targetsOf x n y6 s8) lv_X5_85 (cV_rc_6 x s8) ⟨Nat.le_of_ble_eq_true rfl, Nat.le_of_ble_eq_true rfl⟩ d5_spread_36 rfl (Nat.le_of_ble_eq_true rfl) (fun r12 s11 => ?_)
        refine j_ior d5_spread_39 ?_
        refine j_nmi (fun x13 => ?_)
        refine j_istore_n (i := 2) (L' := [(2, .int x13), (0, .ref (cw_a x 6)), (3, .int y4), (4, .int y5), (5, .int y6)]) d5_spread_40 rfl (Nat.le_of_ble_eq_true rfl) rfl ?_
        refine j_iinc (i := 5) (v := 1) (Ly := fun x14 => [(5, .int x14), (2, .int x13), (0, .ref (cw_a x 6)), (3, .int y4), (4, .int y5)]) 4 d5_spread_41 rfl ejc_1 (Nat.le_of_ble_eq_true rfl) (fun _ => rfl) (fun x14 => ?_)
        refine j_goto d5_spread_44 ?_
        exact j_sub [2, 1, 3, 4, 0] rfl (ih x13 y4 y5 x14 s11)
noncomputable def m5_spread_4 (n : Nat) (k : Nat) : Int32 → Int32 → ej_S → Option (Int32 × ej_S) := Nat.rec (motive := fun _ => Int32 → Int32 → ej_S → Option (Int32 × ej_S)) (fun _ _ _ => none) (fun _ ih y1 y2 σ => (if 24 < y2 then (some (y1, σ)) else (m5_spread_16 n ih n y1 y2 y1 0 σ))) k
theorem m5_spread_4_s (n : Nat) (k : Nat) (y1 : Int32) (y2 : Int32) (σ : ej_S) : m5_spread_4 n (k + 1) y1 y2 σ = ((if 24 < y2 then (some (y1, σ)) else (m5_spread_16 n (m5_spread_4 n k) n y1 y2 y1 0 σ)) : Option (Int32 × ej_S)) := rfl
set_option maxRecDepth 20000 in
set_option maxHeartbeats 2000000 in
theorem j5_spread_4 (x : cw_T) (n : Nat) {F : ej_F} {r0 : Int32 × ej_S} (hq : ej_fin (cV x) F (some .int) (some (.int r0.1)) r0.2) : ∀ (k : Nat) (y1 : Int32) (y2 : Int32) (σ : ej_S), ej_J (cV x) F i5_spread r0 σ 4 [(0, .ref (cw_a x 6)), (2, .int y1), (3, .int y2)] [] (m5_spread_4 n k y1 y2 σ) := by
  intro k
  induction k with
  | zero => intro y1 y2 σ; exact j_none
  | succ k ih =>
    intro y1 y2 σ
    rw [m5_spread_4_s]
    refine j_iload_n 2 rfl d5_spread_4 ?_
    refine j_bipush d5_spread_5 ejb_24 ?_
    refine j_icmp_gt d5_spread_7 ?_ ?_
    · refine j_iload_n 1 rfl d5_spread_61 ?_
      exact j_ireturn hq d5_spread_62
    · refine j_iload_n 1 rfl d5_spread_10 ?_
      refine j_istore (i := 4) (L' := [(4, .int y1), (0, .ref (cw_a x 6)), (2, .int y1), (3, .int y2)]) d5_spread_11 (Nat.le_of_ble_eq_true rfl) rfl ?_
      refine j_iconst d5_spread_13 ejc_0 ?_
      refine j_istore (i := 5) (L' := [(5, .int 0), (4, .int y1), (0, .ref (cw_a x 6)), (2, .int y1), (3, .int y2)]) d5_spread_14 (Nat.le_of_ble_eq_true rfl) rfl ?_
      exact j_sub [2, 3, 4, 1, 0] rfl (j5_spread_16 x n hq (m5_spread_4 n k) ih n y1 y2 y1 0 σ)
noncomputable def m5_spread (n : Nat) (a1 : Int32) (σ : ej_S) : Option (Int32 × ej_S) := (m5_spread_4 n n a1 0 σ)
set_option maxRecDepth 20000 in
set_option maxHeartbeats 2000000 in
theorem j5_spread (x : cw_T) (n : Nat) (a1 : Int32) (σ : ej_S) {F : ej_F} {r0 : Int32 × ej_S} (hq : ej_fin (cV x) F (some .int) (some (.int r0.1)) r0.2) : ej_J (cV x) F i5_spread r0 σ 0 [(0, .ref (cw_a x 6)), (1, .int a1)] [] (m5_spread n a1 σ) := by
  unfold m5_spread
  refine j_iload_n 1 rfl d5_spread_0 ?_
  refine j_istore_n (i := 2) (L' := [(2, .int a1), (0, .ref (cw_a x 6)), (1, .int a1)]) d5_spread_1 rfl (Nat.le_of_ble_eq_true rfl) rfl ?_
  refine j_iconst d5_spread_2 ejc_0 ?_
  refine j_istore_n (i := 3) (L' := [(3, .int 0), (2, .int a1), (0, .ref (cw_a x 6)), (1, .int a1)]) d5_spread_3 rfl (Nat.le_of_ble_eq_true rfl) rfl ?_
  exact j_sub [2, 1, 0] rfl (j5_spread_4 x n hq n a1 0 σ)
theorem c5_spread (x : cw_T) (n : Nat) (a1 : Int32) (σ : ej_S) : ∀ r σ1, m5_spread n a1 σ = some (r, σ1) → ∀ l, ej_Con l (cV x) i5_spread yX5_spread (some .int) [.ref (cw_a x 6), .int a1] σ (some (.int r)) σ1 := fun r σ1 h l => ej_con_of (cV_ok x) pn_X5 rfl (Nat.le_of_ble_eq_true rfl) rfl h (fun F hq => j5_spread x n a1 σ hq)

noncomputable def m5_turnLinks_14 (n : Nat) (k : Nat) : Int32 → Int32 → Int32 → ej_S → Option (Int32 × ej_S) := Nat.rec (motive := fun _ => Int32 → Int32 → Int32 → ej_S → Option (Int32 × ej_S)) (fun _ _ _ _ => none) (fun _ ih y4 y5 y6 σ => (if 24 ≤ y6 then (if y5 = 0 then (some (0, σ)) else (some (1, σ))) else ej_bi (m10_holds n y5 y6 σ) fun r8 s7 => (if r8 = 0 then ej_nm (y6 + 1) fun x9 => (ih y4 y5 x9 s7) else ej_ck y6 24 (ej_bi (m10_setOf n y4 s7) fun r11 s10 => ej_ck y6 24 (ej_nm (uA s10 24 (y6.toNatClampNeg) ((gA s7 24 y6.toNatClampNeg) ||| r11)) fun s12 => ej_nm (y6 + 1) fun x13 => (ih y4 y5 x13 s12)))))) k
theorem m5_turnLinks_14_s (n : Nat) (k : Nat) (y4 : Int32) (y5 : Int32) (y6 : Int32) (σ : ej_S) : m5_turnLinks_14 n (k + 1) y4 y5 y6 σ = ((if 24 ≤ y6 then (if y5 = 0 then (some (0, σ)) else (some (1, σ))) else ej_bi (m10_holds n y5 y6 σ) fun r8 s7 => (if r8 = 0 then ej_nm (y6 + 1) fun x9 => ((m5_turnLinks_14 n k) y4 y5 x9 s7) else ej_ck y6 24 (ej_bi (m10_setOf n y4 s7) fun r11 s10 => ej_ck y6 24 (ej_nm (uA s10 24 (y6.toNatClampNeg) ((gA s7 24 y6.toNatClampNeg) ||| r11)) fun s12 => ej_nm (y6 + 1) fun x13 => ((m5_turnLinks_14 n k) y4 y5 x13 s12))))) : Option (Int32 × ej_S)) := rfl
set_option maxRecDepth 20000 in
set_option maxHeartbeats 2000000 in
theorem j5_turnLinks_14 (x : cw_T) (n : Nat) {F : ej_F} {r0 : Int32 × ej_S} (hq : ej_fin (cV x) F (some .boolean) (some (.int r0.1)) r0.2) : ∀ (k : Nat) (y4 : Int32) (y5 : Int32) (y6 : Int32) (σ : ej_S), ej_J (cV x) F i5_turnLinks r0 σ 14 [(0, .ref (cw_a x 6)), (1, .int y4), (3, .int y5), (4, .int y6)] [] (m5_turnLinks_14 n k y4 y5 y6 σ) := by
  intro k
  induction k with
  | zero => intro y4 y5 y6 σ; exact j_none
  | succ k ih =>
    intro y4 y5 y6 σ
    rw [m5_turnLinks_14_s]
    refine j_iload 3 rfl d5_turnLinks_14 ?_
    refine j_bipush d5_turnLinks_16 ejb_24 ?_
    refine j_icmp_ge d5_turnLinks_18 ?_ ?_
    · refine j_iload_n 2 rfl d5_turnLinks_50 ?_
      refine j_if_eq d5_turnLinks_51 ?_ ?_
      · refine j_iconst d5_turnLinks_58 ejc_0 ?_
        exact j_zreturn0 hq d5_turnLinks_59
      · refine j_iconst d5_turnLinks_54 ejc_1 ?_
        refine j_goto d5_turnLinks_55 ?_
        exact j_zreturn1 hq d5_turnLinks_59
    · refine j_iload_n 2 rfl d5_turnLinks_21 ?_
      refine j_iload 3 rfl d5_turnLinks_22 ?_
      refine j_callNi (c10_holds x n y5 y6 σ) (ln_X5_25 x) ⟨Nat.le_of_ble_eq_true rfl, Nat.le_of_ble_eq_true rfl⟩ d5_turnLinks_24 rfl (Nat.le_of_ble_eq_true rfl) (fun r8 s7 => ?_)
      refine j_if_eq d5_turnLinks_27 ?_ ?_
      · refine j_iinc (i := 4) (v := 1) (Ly := fun x9 => [(4, .int x9), (0, .ref (cw_a x 6)), (1, .int y4), (3, .int y5)]) 3 d5_turnLinks_44 rfl ejc_1 (Nat.le_of_ble_eq_true rfl) (fun _ => rfl) (fun x9 => ?_)
        refine j_goto d5_turnLinks_47 ?_
        exact j_sub [1, 2, 3, 0] rfl (ih y4 y5 x9 s7)
      · refine j_aload_n 0 rfl d5_turnLinks_30 ?_
        refine j_get fl_X5_9 (cV_g_6_1 x s7) d5_turnLinks_31 ?_
        refine j_iload 3 rfl d5_turnLinks_34 ?_
        refine j_dup2 d5_turnLinks_36 rfl rfl ?_
        refine j_iald (cV_a_46 x s7) d5_turnLinks_37 ?_
        refine j_iload_n 1 rfl d5_turnLinks_38 ?_
        refine j_callNi (c10_setOf x n y4 s7) (ln_X5_76 x) ⟨Nat.le_of_ble_eq_true rfl, Nat.le_of_ble_eq_true rfl⟩ d5_turnLinks_39 rfl (Nat.le_of_ble_eq_true rfl) (fun r11 s10 => ?_)
        refine j_ior d5_turnLinks_42 ?_
        refine j_iast (cV_s_46 x s10 (y6.toNatClampNeg) ((gA s7 24 y6.toNatClampNeg) ||| r11)) d5_turnLinks_43 (fun s12 => ?_)
        refine j_iinc (i := 4) (v := 1) (Ly := fun x13 => [(4, .int x13), (0, .ref (cw_a x 6)), (1, .int y4), (3, .int y5)]) 3 d5_turnLinks_44 rfl ejc_1 (Nat.le_of_ble_eq_true rfl) (fun _ => rfl) (fun x13 => ?_)
        refine j_goto d5_turnLinks_47 ?_
        exact j_sub [1, 2, 3, 0] rfl (ih y4 y5 x13 s12)
noncomputable def m5_turnLinks (n : Nat) (a1 : Int32) (a2 : Int32) (σ : ej_S) : Option (Int32 × ej_S) := ej_bi (m0_linksOf n a1 σ) fun r2 s1 => ej_nm (r2 &&& a2) fun x3 => (m5_turnLinks_14 n n a1 x3 0 s1)
set_option maxRecDepth 20000 in
set_option maxHeartbeats 2000000 in
theorem j5_turnLinks (x : cw_T) (n : Nat) (a1 : Int32) (a2 : Int32) (σ : ej_S) {F : ej_F} {r0 : Int32 × ej_S} (hq : ej_fin (cV x) F (some .boolean) (some (.int r0.1)) r0.2) : ej_J (cV x) F i5_turnLinks r0 σ 0 [(0, .ref (cw_a x 6)), (1, .int a1), (2, .int a2)] [] (m5_turnLinks n a1 a2 σ) := by
  unfold m5_turnLinks
  refine j_aload_n 0 rfl d5_turnLinks_0 ?_
  refine j_get fl_X5_15 (cV_g_6_0 x σ) d5_turnLinks_1 ?_
  refine j_iload_n 1 rfl d5_turnLinks_4 ?_
  refine j_callVi (c0_linksOf x n a1 σ) lv_X5_88 (cV_rc_4 x σ) ⟨Nat.le_of_ble_eq_true rfl, Nat.le_of_ble_eq_true rfl⟩ d5_turnLinks_5 rfl (Nat.le_of_ble_eq_true rfl) (fun r2 s1 => ?_)
  refine j_iload_n 2 rfl d5_turnLinks_8 ?_
  refine j_iand d5_turnLinks_9 ?_
  refine j_nmi (fun x3 => ?_)
  refine j_istore_n (i := 3) (L' := [(3, .int x3), (0, .ref (cw_a x 6)), (1, .int a1), (2, .int a2)]) d5_turnLinks_10 rfl (Nat.le_of_ble_eq_true rfl) rfl ?_
  refine j_iconst d5_turnLinks_11 ejc_0 ?_
  refine j_istore (i := 4) (L' := [(4, .int 0), (3, .int x3), (0, .ref (cw_a x 6)), (1, .int a1), (2, .int a2)]) d5_turnLinks_12 (Nat.le_of_ble_eq_true rfl) rfl ?_
  exact j_sub [2, 3, 1, 0] rfl (j5_turnLinks_14 x n hq n a1 x3 0 s1)
theorem c5_turnLinks (x : cw_T) (n : Nat) (a1 : Int32) (a2 : Int32) (σ : ej_S) : ∀ r σ1, m5_turnLinks n a1 a2 σ = some (r, σ1) → ∀ l, ej_Con l (cV x) i5_turnLinks yX5_turnLinks (some .boolean) [.ref (cw_a x 6), .int a1, .int a2] σ (some (.int r)) σ1 := fun r σ1 h l => ej_con_of (cV_ok x) pn_X5 rfl (Nat.le_of_ble_eq_true rfl) rfl h (fun F hq => j5_turnLinks x n a1 a2 σ hq)

noncomputable def m5_findLinksBack_46 (n : Nat) (f28 : Int32 → Int32 → ej_S → Option (ej_S)) (k : Nat) : Int32 → Int32 → Int32 → Int32 → ej_S → Option (ej_S) := Nat.rec (motive := fun _ => Int32 → Int32 → Int32 → Int32 → ej_S → Option (ej_S)) (fun _ _ _ _ _ => none) (fun _ ih y9 y10 y11 y12 σ => (if 24 ≤ y12 then (if y11 = 0 then (some σ) else ej_nm (y10 + 1) fun x13 => (f28 y9 x13 σ)) else ej_bi (m10_holds n y9 y12 σ) fun r15 s14 => (if r15 = 0 then ej_bi (m5_turnLinks n y12 y9 s14) fun r18 s17 => ej_nm (y11 ||| r18) fun x19 => ej_nm (y12 + 1) fun x20 => (ih y9 y10 x19 x20 s17) else ej_nm (y12 + 1) fun x16 => (ih y9 y10 y11 x16 s14)))) k
theorem m5_findLinksBack_46_s (n : Nat) (f28 : Int32 → Int32 → ej_S → Option (ej_S)) (k : Nat) (y9 : Int32) (y10 : Int32) (y11 : Int32) (y12 : Int32) (σ : ej_S) : m5_findLinksBack_46 n f28 (k + 1) y9 y10 y11 y12 σ = ((if 24 ≤ y12 then (if y11 = 0 then (some σ) else ej_nm (y10 + 1) fun x13 => (f28 y9 x13 σ)) else ej_bi (m10_holds n y9 y12 σ) fun r15 s14 => (if r15 = 0 then ej_bi (m5_turnLinks n y12 y9 s14) fun r18 s17 => ej_nm (y11 ||| r18) fun x19 => ej_nm (y12 + 1) fun x20 => ((m5_findLinksBack_46 n f28 k) y9 y10 x19 x20 s17) else ej_nm (y12 + 1) fun x16 => ((m5_findLinksBack_46 n f28 k) y9 y10 y11 x16 s14))) : Option (ej_S)) := rfl
set_option maxRecDepth 20000 in
set_option maxHeartbeats 2000000 in
theorem j5_findLinksBack_46 (x : cw_T) (n : Nat) {F : ej_F} {r0 : ej_S} (hq : ej_fin (cV x) F none none r0) (f28 : Int32 → Int32 → ej_S → Option (ej_S)) (H28 : ∀ (y5 : Int32) (y6 : Int32) (σ : ej_S), ej_J (cV x) F i5_findLinksBack r0 σ 28 [(0, .ref (cw_a x 6)), (2, .int y5), (3, .int y6)] [] (f28 y5 y6 σ)) : ∀ (k : Nat) (y9 : Int32) (y10 : Int32) (y11 : Int32) (y12 : Int32) (σ : ej_S), ej_J (cV x) F i5_findLinksBack r0 σ 46 [(0, .ref (cw_a x 6)), (2, .int y9), (3, .int y10), (4, .int y11), (5, .int y12)] [] (m5_findLinksBack_46 n f28 k y9 y10 y11 y12 σ) := by
  intro k
  induction k with
  | zero => intro y9 y10 y11 y12 σ; exact j_none
  | succ k ih =>
    intro y9 y10 y11 y12 σ
    rw [m5_findLinksBack_46_s]
    refine j_iload 4 rfl d5_findLinksBack_46 ?_
    refine j_bipush d5_findLinksBack_48 ejb_24 ?_
    refine j_icmp_ge d5_findLinksBack_50 ?_ ?_
    · refine j_iload 3 rfl d5_findLinksBack_80 ?_
      refine j_if_ne d5_findLinksBack_82 ?_ ?_
      · refine j_iinc (i := 3) (v := 1) (Ly := fun x13 => [(3, .int x13), (0, .ref (cw_a x 6)), (2, .int y9), (4, .int y11), (5, .int y12)]) 2 d5_findLinksBack_86 rfl ejc_1 (Nat.le_of_ble_eq_true rfl) (fun _ => rfl) (fun x13 => ?_)
        refine j_goto d5_findLinksBack_89 ?_
        exact j_sub [1, 2, 0] rfl (H28 y9 x13 σ)
      · exact j_vreturn hq d5_findLinksBack_85
    · refine j_iload_n 1 rfl d5_findLinksBack_53 ?_
      refine j_iload 4 rfl d5_findLinksBack_54 ?_
      refine j_callNi (c10_holds x n y9 y12 σ) (ln_X5_25 x) ⟨Nat.le_of_ble_eq_true rfl, Nat.le_of_ble_eq_true rfl⟩ d5_findLinksBack_56 rfl (Nat.le_of_ble_eq_true rfl) (fun r15 s14 => ?_)
      refine j_if_ne d5_findLinksBack_59 ?_ ?_
      · refine j_iinc (i := 5) (v := 1) (Ly := fun x16 => [(5, .int x16), (0, .ref (cw_a x 6)), (2, .int y9), (3, .int y10), (4, .int y11)]) 4 d5_findLinksBack_74 rfl ejc_1 (Nat.le_of_ble_eq_true rfl) (fun _ => rfl) (fun x16 => ?_)
        refine j_goto d5_findLinksBack_77 ?_
        exact j_sub [1, 2, 3, 4, 0] rfl (ih y9 y10 y11 x16 s14)
      · refine j_iload 3 rfl d5_findLinksBack_62 ?_
        refine j_aload_n 0 rfl d5_findLinksBack_64 ?_
        refine j_iload 4 rfl d5_findLinksBack_65 ?_
        refine j_iload_n 1 rfl d5_findLinksBack_67 ?_
        refine j_callVi (c5_turnLinks x n y12 y9 s14) lv_X5_82 (cV_rc_6 x s14) ⟨Nat.le_of_ble_eq_true rfl, Nat.le_of_ble_eq_true rfl⟩ d5_findLinksBack_68 rfl (Nat.le_of_ble_eq_true rfl) (fun r18 s17 => ?_)
        refine j_ior d5_findLinksBack_71 ?_
        refine j_nmi (fun x19 => ?_)
        refine j_istore (i := 4) (L' := [(4, .int x19), (0, .ref (cw_a x 6)), (2, .int y9), (3, .int y10), (5, .int y12)]) d5_findLinksBack_72 (Nat.le_of_ble_eq_true rfl) rfl ?_
        refine j_iinc (i := 5) (v := 1) (Ly := fun x20 => [(5, .int x20), (4, .int x19), (0, .ref (cw_a x 6)), (2, .int y9), (3, .int y10)]) 4 d5_findLinksBack_74 rfl ejc_1 (Nat.le_of_ble_eq_true rfl) (fun _ => rfl) (fun x20 => ?_)
        refine j_goto d5_findLinksBack_77 ?_
        exact j_sub [2, 3, 4, 1, 0] rfl (ih y9 y10 x19 x20 s17)
noncomputable def m5_findLinksBack_28 (n : Nat) (k : Nat) : Int32 → Int32 → ej_S → Option (ej_S) := Nat.rec (motive := fun _ => Int32 → Int32 → ej_S → Option (ej_S)) (fun _ _ _ => none) (fun _ ih y5 y6 σ => (if 24 < y6 then (some σ) else ej_bi (m5_spread n y5 σ) fun r8 s7 => (m5_findLinksBack_46 n ih n r8 y6 0 0 s7))) k
theorem m5_findLinksBack_28_s (n : Nat) (k : Nat) (y5 : Int32) (y6 : Int32) (σ : ej_S) : m5_findLinksBack_28 n (k + 1) y5 y6 σ = ((if 24 < y6 then (some σ) else ej_bi (m5_spread n y5 σ) fun r8 s7 => (m5_findLinksBack_46 n (m5_findLinksBack_28 n k) n r8 y6 0 0 s7)) : Option (ej_S)) := rfl
set_option maxRecDepth 20000 in
set_option maxHeartbeats 2000000 in
theorem j5_findLinksBack_28 (x : cw_T) (n : Nat) {F : ej_F} {r0 : ej_S} (hq : ej_fin (cV x) F none none r0) : ∀ (k : Nat) (y5 : Int32) (y6 : Int32) (σ : ej_S), ej_J (cV x) F i5_findLinksBack r0 σ 28 [(0, .ref (cw_a x 6)), (2, .int y5), (3, .int y6)] [] (m5_findLinksBack_28 n k y5 y6 σ) := by
  intro k
  induction k with
  | zero => intro y5 y6 σ; exact j_none
  | succ k ih =>
    intro y5 y6 σ
    rw [m5_findLinksBack_28_s]
    refine j_iload_n 2 rfl d5_findLinksBack_28 ?_
    refine j_bipush d5_findLinksBack_29 ejb_24 ?_
    refine j_icmp_gt d5_findLinksBack_31 ?_ ?_
    · exact j_vreturn hq d5_findLinksBack_92
    · refine j_aload_n 0 rfl d5_findLinksBack_34 ?_
      refine j_iload_n 1 rfl d5_findLinksBack_35 ?_
      refine j_callVi (c5_spread x n y5 σ) lv_X5_79 (cV_rc_6 x σ) ⟨Nat.le_of_ble_eq_true rfl, Nat.le_of_ble_eq_true rfl⟩ d5_findLinksBack_36 rfl (Nat.le_of_ble_eq_true rfl) (fun r8 s7 => ?_)
      refine j_istore_n (i := 2) (L' := [(2, .int r8), (0, .ref (cw_a x 6)), (3, .int y6)]) d5_findLinksBack_39 rfl (Nat.le_of_ble_eq_true rfl) rfl ?_
      refine j_iconst d5_findLinksBack_40 ejc_0 ?_
      refine j_istore (i := 4) (L' := [(4, .int 0), (2, .int r8), (0, .ref (cw_a x 6)), (3, .int y6)]) d5_findLinksBack_41 (Nat.le_of_ble_eq_true rfl) rfl ?_
      refine j_iconst d5_findLinksBack_43 ejc_0 ?_
      refine j_istore (i := 5) (L' := [(5, .int 0), (4, .int 0), (2, .int r8), (0, .ref (cw_a x 6)), (3, .int y6)]) d5_findLinksBack_44 (Nat.le_of_ble_eq_true rfl) rfl ?_
      exact j_sub [3, 2, 4, 1, 0] rfl (j5_findLinksBack_46 x n hq (m5_findLinksBack_28 n k) ih n r8 y6 0 0 s7)
noncomputable def m5_findLinksBack_2 (n : Nat) (k : Nat) : Int32 → Int32 → ej_S → Option (ej_S) := Nat.rec (motive := fun _ => Int32 → Int32 → ej_S → Option (ej_S)) (fun _ _ _ => none) (fun _ ih y1 y2 σ => (if 24 ≤ y2 then ej_bi (m10_setOf n y1 σ) fun r4 s3 => (m5_findLinksBack_28 n n r4 0 s3) else ej_ck y2 24 (ej_nm (uA σ 24 (y2.toNatClampNeg) 0) fun s21 => ej_nm (y2 + 1) fun x22 => (ih y1 x22 s21)))) k
theorem m5_findLinksBack_2_s (n : Nat) (k : Nat) (y1 : Int32) (y2 : Int32) (σ : ej_S) : m5_findLinksBack_2 n (k + 1) y1 y2 σ = ((if 24 ≤ y2 then ej_bi (m10_setOf n y1 σ) fun r4 s3 => (m5_findLinksBack_28 n n r4 0 s3) else ej_ck y2 24 (ej_nm (uA σ 24 (y2.toNatClampNeg) 0) fun s21 => ej_nm (y2 + 1) fun x22 => ((m5_findLinksBack_2 n k) y1 x22 s21))) : Option (ej_S)) := rfl
set_option maxRecDepth 20000 in
set_option maxHeartbeats 2000000 in
theorem j5_findLinksBack_2 (x : cw_T) (n : Nat) {F : ej_F} {r0 : ej_S} (hq : ej_fin (cV x) F none none r0) : ∀ (k : Nat) (y1 : Int32) (y2 : Int32) (σ : ej_S), ej_J (cV x) F i5_findLinksBack r0 σ 2 [(0, .ref (cw_a x 6)), (1, .int y1), (2, .int y2)] [] (m5_findLinksBack_2 n k y1 y2 σ) := by
  intro k
  induction k with
  | zero => intro y1 y2 σ; exact j_none
  | succ k ih =>
    intro y1 y2 σ
    rw [m5_findLinksBack_2_s]
    refine j_iload_n 2 rfl d5_findLinksBack_2 ?_
    refine j_bipush d5_findLinksBack_3 ejb_24 ?_
    refine j_icmp_ge d5_findLinksBack_5 ?_ ?_
    · refine j_iload_n 1 rfl d5_findLinksBack_21 ?_
      refine j_callNi (c10_setOf x n y1 σ) (ln_X5_76 x) ⟨Nat.le_of_ble_eq_true rfl, Nat.le_of_ble_eq_true rfl⟩ d5_findLinksBack_22 rfl (Nat.le_of_ble_eq_true rfl) (fun r4 s3 => ?_)
      refine j_istore_n (i := 2) (L' := [(2, .int r4), (0, .ref (cw_a x 6)), (1, .int y1)]) d5_findLinksBack_25 rfl (Nat.le_of_ble_eq_true rfl) rfl ?_
      refine j_iconst d5_findLinksBack_26 ejc_0 ?_
      refine j_istore_n (i := 3) (L' := [(3, .int 0), (2, .int r4), (0, .ref (cw_a x 6)), (1, .int y1)]) d5_findLinksBack_27 rfl (Nat.le_of_ble_eq_true rfl) rfl ?_
      exact j_sub [2, 1, 0] rfl (j5_findLinksBack_28 x n hq n r4 0 s3)
    · refine j_aload_n 0 rfl d5_findLinksBack_8 ?_
      refine j_get fl_X5_9 (cV_g_6_1 x σ) d5_findLinksBack_9 ?_
      refine j_iload_n 2 rfl d5_findLinksBack_12 ?_
      refine j_iconst d5_findLinksBack_13 ejc_0 ?_
      refine j_iast (cV_s_46 x σ (y2.toNatClampNeg) 0) d5_findLinksBack_14 (fun s21 => ?_)
      refine j_iinc (i := 2) (v := 1) (Ly := fun x22 => [(2, .int x22), (0, .ref (cw_a x 6)), (1, .int y1)]) 2 d5_findLinksBack_15 rfl ejc_1 (Nat.le_of_ble_eq_true rfl) (fun _ => rfl) (fun x22 => ?_)
      refine j_goto d5_findLinksBack_18 ?_
      exact j_sub [1, 2, 0] rfl (ih y1 x22 s21)
noncomputable def m5_findLinksBack (n : Nat) (a1 : Int32) (σ : ej_S) : Option (ej_S) := (m5_findLinksBack_2 n n a1 0 σ)
set_option maxRecDepth 20000 in
set_option maxHeartbeats 2000000 in
theorem j5_findLinksBack (x : cw_T) (n : Nat) (a1 : Int32) (σ : ej_S) {F : ej_F} {r0 : ej_S} (hq : ej_fin (cV x) F none none r0) : ej_J (cV x) F i5_findLinksBack r0 σ 0 [(0, .ref (cw_a x 6)), (1, .int a1)] [] (m5_findLinksBack n a1 σ) := by
  unfold m5_findLinksBack
  refine j_iconst d5_findLinksBack_0 ejc_0 ?_
  refine j_istore_n (i := 2) (L' := [(2, .int 0), (0, .ref (cw_a x 6)), (1, .int a1)]) d5_findLinksBack_1 rfl (Nat.le_of_ble_eq_true rfl) rfl ?_
  exact j_sub [1, 2, 0] rfl (j5_findLinksBack_2 x n hq n a1 0 σ)
theorem c5_findLinksBack (x : cw_T) (n : Nat) (a1 : Int32) (σ : ej_S) : ∀ σ1, m5_findLinksBack n a1 σ = some σ1 → ∀ l, ej_Con l (cV x) i5_findLinksBack yX5_findLinksBack none [.ref (cw_a x 6), .int a1] σ none σ1 := fun σ1 h l => ej_con_of (cV_ok x) pn_X5 rfl (Nat.le_of_ble_eq_true rfl) rfl h (fun F hq => j5_findLinksBack x n a1 σ hq)

