noncomputable def m2_nodeOn (n : Nat) (a1 : Int32) (σ : ej_S) : Option (Int32 × ej_S) := ej_bi (m9_keyOn n a1 σ) fun r2 s1 => (some (r2 / 4, s1))
set_option maxRecDepth 20000 in
set_option maxHeartbeats 2000000 in
theorem j2_nodeOn (x : cw_T) (n : Nat) (a1 : Int32) (σ : ej_S) {F : ej_F} {r0 : Int32 × ej_S} (hq : ej_fin (cV x) F (some .int) (some (.int r0.1)) r0.2) : ej_J (cV x) F i2_nodeOn r0 σ 0 [(0, .ref (cw_a x 8)), (1, .int a1)] [] (m2_nodeOn n a1 σ) := by
  unfold m2_nodeOn
  refine j_aload_n 0 rfl d2_nodeOn_0 ?_
  refine j_get fl_X2_19 (cV_g_8_2 x σ) d2_nodeOn_1 ?_
  refine j_iload_n 1 rfl d2_nodeOn_4 ?_
  refine j_callVi (c9_keyOn x n a1 σ) lv_X2_113 (cV_rc_7 x σ) ⟨Nat.le_of_ble_eq_true rfl, Nat.le_of_ble_eq_true rfl⟩ d2_nodeOn_5 rfl (Nat.le_of_ble_eq_true rfl) (fun r2 s1 => ?_)
  refine j_iconst d2_nodeOn_8 ejc_4 ?_
  refine j_idiv0 (by decide) d2_nodeOn_9 ?_
  exact j_ireturn hq d2_nodeOn_10
theorem c2_nodeOn (x : cw_T) (n : Nat) (a1 : Int32) (σ : ej_S) : ∀ r σ1, m2_nodeOn n a1 σ = some (r, σ1) → ∀ l, ej_Con l (cV x) i2_nodeOn yX2_nodeOn (some .int) [.ref (cw_a x 8), .int a1] σ (some (.int r)) σ1 := fun r σ1 h l => ej_con_of (cV_ok x) pn_X2 rfl (Nat.le_of_ble_eq_true rfl) rfl h (fun F hq => j2_nodeOn x n a1 σ hq)

noncomputable def m2_printedMark (n : Nat) (a1 : Int32) (σ : ej_S) : Option (Int32 × ej_S) := ej_bi (m2_nodeOn n a1 σ) fun r2 s1 => ej_bi (m9_keyOn n a1 s1) fun r4 s3 => ej_bi (m9_kindOfKey n r4 s3) fun r6 s5 => ej_bi (m0_kindOf n r2 s5) fun r8 s7 => (if r8 = 0 then ej_bi (m2_nodeOn n (a1 - 1) s7) fun r10 s9 => ej_bi (m5_markOf n r10 r6 r2 s9) fun r12 s11 => (some (r12, s11)) else (some (0, s7)))
set_option maxRecDepth 20000 in
set_option maxHeartbeats 2000000 in
theorem j2_printedMark (x : cw_T) (n : Nat) (a1 : Int32) (σ : ej_S) {F : ej_F} {r0 : Int32 × ej_S} (hq : ej_fin (cV x) F (some .int) (some (.int r0.1)) r0.2) : ej_J (cV x) F i2_printedMark r0 σ 0 [(0, .ref (cw_a x 8)), (1, .int a1)] [] (m2_printedMark n a1 σ) := by
  unfold m2_printedMark
  refine j_aload_n 0 rfl d2_printedMark_0 ?_
  refine j_iload_n 1 rfl d2_printedMark_1 ?_
  refine j_callVi (c2_nodeOn x n a1 σ) lv_X2_110 (cV_rc_8 x σ) ⟨Nat.le_of_ble_eq_true rfl, Nat.le_of_ble_eq_true rfl⟩ d2_printedMark_2 rfl (Nat.le_of_ble_eq_true rfl) (fun r2 s1 => ?_)
  refine j_istore_n (i := 2) (L' := [(2, .int r2), (0, .ref (cw_a x 8)), (1, .int a1)]) d2_printedMark_5 rfl (Nat.le_of_ble_eq_true rfl) rfl ?_
  refine j_aload_n 1 rfl d2_printedMark_6 ?_
  refine j_get fl_X2_19 (cV_g_8_2 x s1) d2_printedMark_7 ?_
  refine j_aload_n 1 rfl d2_printedMark_10 ?_
  refine j_get fl_X2_19 (cV_g_8_2 x s1) d2_printedMark_11 ?_
  refine j_iload_n 2 rfl d2_printedMark_14 ?_
  refine j_callVi (c9_keyOn x n a1 s1) lv_X2_113 (cV_rc_7 x s1) ⟨Nat.le_of_ble_eq_true rfl, Nat.le_of_ble_eq_true rfl⟩ d2_printedMark_15 rfl (Nat.le_of_ble_eq_true rfl) (fun r4 s3 => ?_)
  refine j_callVi (c9_kindOfKey x n r4 s3) lv_X2_116 (cV_rc_7 x s3) ⟨Nat.le_of_ble_eq_true rfl, Nat.le_of_ble_eq_true rfl⟩ d2_printedMark_18 rfl (Nat.le_of_ble_eq_true rfl) (fun r6 s5 => ?_)
  refine j_istore_n (i := 3) (L' := [(3, .int r6), (2, .int r2), (0, .ref (cw_a x 8)), (1, .int a1)]) d2_printedMark_21 rfl (Nat.le_of_ble_eq_true rfl) rfl ?_
  refine j_aload_n 2 rfl d2_printedMark_22 ?_
  refine j_get fl_X2_9 (cV_g_8_0 x s5) d2_printedMark_23 ?_
  refine j_iload_n 1 rfl d2_printedMark_26 ?_
  refine j_callVi (c0_kindOf x n r2 s5) lv_X2_119 (cV_rc_4 x s5) ⟨Nat.le_of_ble_eq_true rfl, Nat.le_of_ble_eq_true rfl⟩ d2_printedMark_27 rfl (Nat.le_of_ble_eq_true rfl) (fun r8 s7 => ?_)
  refine j_if_ne d2_printedMark_30 ?_ ?_
  · refine j_iconst d2_printedMark_52 ejc_0 ?_
    exact j_ireturn hq d2_printedMark_53
  · refine j_aload_n 2 rfl d2_printedMark_33 ?_
    refine j_get fl_X2_15 (cV_g_8_1 x s7) d2_printedMark_34 ?_
    refine j_aload_n 2 rfl d2_printedMark_37 ?_
    refine j_iload_n 3 rfl d2_printedMark_38 ?_
    refine j_iconst d2_printedMark_39 ejc_1 ?_
    refine j_isub d2_printedMark_40 ?_
    refine j_callVi (c2_nodeOn x n (a1 - 1) s7) lv_X2_110 (cV_rc_8 x s7) ⟨Nat.le_of_ble_eq_true rfl, Nat.le_of_ble_eq_true rfl⟩ d2_printedMark_41 rfl (Nat.le_of_ble_eq_true rfl) (fun r10 s9 => ?_)
    refine j_iload_n 0 rfl d2_printedMark_44 ?_
    refine j_iload_n 1 rfl d2_printedMark_45 ?_
    refine j_callVi (c5_markOf x n r10 r6 r2 s9) lv_X2_122 (cV_rc_6 x s9) ⟨Nat.le_of_ble_eq_true rfl, Nat.le_of_ble_eq_true rfl⟩ d2_printedMark_46 rfl (Nat.le_of_ble_eq_true rfl) (fun r12 s11 => ?_)
    refine j_goto d2_printedMark_49 ?_
    exact j_ireturn hq d2_printedMark_53
theorem c2_printedMark (x : cw_T) (n : Nat) (a1 : Int32) (σ : ej_S) : ∀ r σ1, m2_printedMark n a1 σ = some (r, σ1) → ∀ l, ej_Con l (cV x) i2_printedMark yX2_printedMark (some .int) [.ref (cw_a x 8), .int a1] σ (some (.int r)) σ1 := fun r σ1 h l => ej_con_of (cV_ok x) pn_X2 rfl (Nat.le_of_ble_eq_true rfl) rfl h (fun F hq => j2_printedMark x n a1 σ hq)

noncomputable def m2_comesFromDomain_31 (n : Nat) (y5 : Int32) (σ : ej_S) : Option (Int32 × ej_S) := ej_bi (m2_nodeOn n (y5 - 1) σ) fun r7 s6 => ej_bi (m0_isDomain n r7 s6) fun r9 s8 => (if r9 = 0 then (some (0, s8)) else (some (1, s8)))
set_option maxRecDepth 20000 in
set_option maxHeartbeats 2000000 in
theorem j2_comesFromDomain_31 (x : cw_T) (n : Nat) {F : ej_F} {r0 : Int32 × ej_S} (hq : ej_fin (cV x) F (some .boolean) (some (.int r0.1)) r0.2) (y5 : Int32) (σ : ej_S) : ej_J (cV x) F i2_comesFromDomain r0 σ 31 [(0, .ref (cw_a x 8)), (1, .int y5)] [] (m2_comesFromDomain_31 n y5 σ) := by
  unfold m2_comesFromDomain_31
  refine j_aload_n 0 rfl d2_comesFromDomain_31 ?_
  refine j_get fl_X2_9 (cV_g_8_0 x σ) d2_comesFromDomain_32 ?_
  refine j_aload_n 0 rfl d2_comesFromDomain_35 ?_
  refine j_iload_n 1 rfl d2_comesFromDomain_36 ?_
  refine j_iconst d2_comesFromDomain_37 ejc_1 ?_
  refine j_isub d2_comesFromDomain_38 ?_
  refine j_callVi (c2_nodeOn x n (y5 - 1) σ) lv_X2_110 (cV_rc_8 x σ) ⟨Nat.le_of_ble_eq_true rfl, Nat.le_of_ble_eq_true rfl⟩ d2_comesFromDomain_39 rfl (Nat.le_of_ble_eq_true rfl) (fun r7 s6 => ?_)
  refine j_callVi (c0_isDomain x n r7 s6) lv_X2_87 (cV_rc_4 x s6) ⟨Nat.le_of_ble_eq_true rfl, Nat.le_of_ble_eq_true rfl⟩ d2_comesFromDomain_42 rfl (Nat.le_of_ble_eq_true rfl) (fun r9 s8 => ?_)
  refine j_if_eq d2_comesFromDomain_45 ?_ ?_
  · refine j_iconst d2_comesFromDomain_52 ejc_0 ?_
    exact j_zreturn0 hq d2_comesFromDomain_53
  · refine j_iconst d2_comesFromDomain_48 ejc_1 ?_
    refine j_goto d2_comesFromDomain_49 ?_
    exact j_zreturn1 hq d2_comesFromDomain_53
noncomputable def m2_comesFromDomain (n : Nat) (a1 : Int32) (σ : ej_S) : Option (Int32 × ej_S) := ej_bi (m9_keyOn n a1 σ) fun r2 s1 => ej_bi (m9_kindOfKey n r2 s1) fun r4 s3 => (if r4 = 2 then (m2_comesFromDomain_31 n a1 s3) else (if r4 = 5 then (m2_comesFromDomain_31 n a1 s3) else (if r4 = 4 then (m2_comesFromDomain_31 n a1 s3) else (some (0, s3)))))
set_option maxRecDepth 20000 in
set_option maxHeartbeats 2000000 in
theorem j2_comesFromDomain (x : cw_T) (n : Nat) (a1 : Int32) (σ : ej_S) {F : ej_F} {r0 : Int32 × ej_S} (hq : ej_fin (cV x) F (some .boolean) (some (.int r0.1)) r0.2) : ej_J (cV x) F i2_comesFromDomain r0 σ 0 [(0, .ref (cw_a x 8)), (1, .int a1)] [] (m2_comesFromDomain n a1 σ) := by
  unfold m2_comesFromDomain
  refine j_aload_n 0 rfl d2_comesFromDomain_0 ?_
  refine j_get fl_X2_19 (cV_g_8_2 x σ) d2_comesFromDomain_1 ?_
  refine j_aload_n 0 rfl d2_comesFromDomain_4 ?_
  refine j_get fl_X2_19 (cV_g_8_2 x σ) d2_comesFromDomain_5 ?_
  refine j_iload_n 1 rfl d2_comesFromDomain_8 ?_
  refine j_callVi (c9_keyOn x n a1 σ) lv_X2_113 (cV_rc_7 x σ) ⟨Nat.le_of_ble_eq_true rfl, Nat.le_of_ble_eq_true rfl⟩ d2_comesFromDomain_9 rfl (Nat.le_of_ble_eq_true rfl) (fun r2 s1 => ?_)
  refine j_callVi (c9_kindOfKey x n r2 s1) lv_X2_116 (cV_rc_7 x s1) ⟨Nat.le_of_ble_eq_true rfl, Nat.le_of_ble_eq_true rfl⟩ d2_comesFromDomain_12 rfl (Nat.le_of_ble_eq_true rfl) (fun r4 s3 => ?_)
  refine j_istore_n (i := 2) (L' := [(2, .int r4), (0, .ref (cw_a x 8)), (1, .int a1)]) d2_comesFromDomain_15 rfl (Nat.le_of_ble_eq_true rfl) rfl ?_
  refine j_iload_n 0 rfl d2_comesFromDomain_16 ?_
  refine j_iconst d2_comesFromDomain_17 ejc_2 ?_
  refine j_icmp_eq d2_comesFromDomain_18 ?_ ?_
  · exact j_sub [1, 2] rfl (j2_comesFromDomain_31 x n hq a1 s3)
  · refine j_iload_n 0 rfl d2_comesFromDomain_21 ?_
    refine j_iconst d2_comesFromDomain_22 ejc_5 ?_
    refine j_icmp_eq d2_comesFromDomain_23 ?_ ?_
    · exact j_sub [1, 2] rfl (j2_comesFromDomain_31 x n hq a1 s3)
    · refine j_iload_n 0 rfl d2_comesFromDomain_26 ?_
      refine j_iconst d2_comesFromDomain_27 ejc_4 ?_
      refine j_icmp_ne d2_comesFromDomain_28 ?_ ?_
      · refine j_iconst d2_comesFromDomain_52 ejc_0 ?_
        exact j_zreturn0 hq d2_comesFromDomain_53
      · exact j_sub [1, 2] rfl (j2_comesFromDomain_31 x n hq a1 s3)
theorem c2_comesFromDomain (x : cw_T) (n : Nat) (a1 : Int32) (σ : ej_S) : ∀ r σ1, m2_comesFromDomain n a1 σ = some (r, σ1) → ∀ l, ej_Con l (cV x) i2_comesFromDomain yX2_comesFromDomain (some .boolean) [.ref (cw_a x 8), .int a1] σ (some (.int r)) σ1 := fun r σ1 h l => ej_con_of (cV_ok x) pn_X2 rfl (Nat.le_of_ble_eq_true rfl) rfl h (fun F hq => j2_comesFromDomain x n a1 σ hq)

noncomputable def m2_writeNameOnWay_21 (n : Nat) (k : Nat) : Int32 → ej_S → Option (ej_S) := Nat.rec (motive := fun _ => Int32 → ej_S → Option (ej_S)) (fun _ _ => none) (fun _ ih y6 σ => (if y6 < 1 then (some σ) else ej_bi (m2_comesFromDomain n y6 σ) fun r8 s7 => (if r8 = 0 then (some s7) else ej_bi (m2_nodeOn n (y6 - 1) s7) fun r10 s9 => ej_bl (m0_nameOf n r10 s9) fun r12 s11 => ej_bv (m7_appendName n 1 r12 s11) fun s13 => ej_nm (y6 + (-1)) fun x14 => (ih x14 s13)))) k
theorem m2_writeNameOnWay_21_s (n : Nat) (k : Nat) (y6 : Int32) (σ : ej_S) : m2_writeNameOnWay_21 n (k + 1) y6 σ = ((if y6 < 1 then (some σ) else ej_bi (m2_comesFromDomain n y6 σ) fun r8 s7 => (if r8 = 0 then (some s7) else ej_bi (m2_nodeOn n (y6 - 1) s7) fun r10 s9 => ej_bl (m0_nameOf n r10 s9) fun r12 s11 => ej_bv (m7_appendName n 1 r12 s11) fun s13 => ej_nm (y6 + (-1)) fun x14 => ((m2_writeNameOnWay_21 n k) x14 s13))) : Option (ej_S)) := rfl
set_option maxRecDepth 20000 in
set_option maxHeartbeats 2000000 in
theorem j2_writeNameOnWay_21 (x : cw_T) (n : Nat) {F : ej_F} {r0 : ej_S} (hq : ej_fin (cV x) F none none r0) : ∀ (k : Nat) (y6 : Int32) (σ : ej_S), ej_J (cV x) F i2_writeNameOnWay r0 σ 21 [(0, .ref (cw_a x 8)), (2, .int y6)] [] (m2_writeNameOnWay_21 n k y6 σ) := by
  intro k
  induction k with
  | zero => intro y6 σ; exact j_none
  | succ k ih =>
    intro y6 σ
    rw [m2_writeNameOnWay_21_s]
    refine j_iload_n 1 rfl d2_writeNameOnWay_21 ?_
    refine j_iconst d2_writeNameOnWay_22 ejc_1 ?_
    refine j_icmp_lt d2_writeNameOnWay_23 ?_ ?_
    · exact j_vreturn hq d2_writeNameOnWay_61
    · refine j_aload_n 0 rfl d2_writeNameOnWay_26 ?_
      refine j_iload_n 1 rfl d2_writeNameOnWay_27 ?_
      refine j_callVi (c2_comesFromDomain x n y6 σ) lv_X2_132 (cV_rc_8 x σ) ⟨Nat.le_of_ble_eq_true rfl, Nat.le_of_ble_eq_true rfl⟩ d2_writeNameOnWay_28 rfl (Nat.le_of_ble_eq_true rfl) (fun r8 s7 => ?_)
      refine j_if_eq d2_writeNameOnWay_31 ?_ ?_
      · exact j_vreturn hq d2_writeNameOnWay_61
      · refine j_aload_n 0 rfl d2_writeNameOnWay_34 ?_
        refine j_get fl_X2_23 (cV_g_8_3 x s7) d2_writeNameOnWay_35 ?_
        refine j_aload_n 0 rfl d2_writeNameOnWay_38 ?_
        refine j_get fl_X2_9 (cV_g_8_0 x s7) d2_writeNameOnWay_39 ?_
        refine j_aload_n 0 rfl d2_writeNameOnWay_42 ?_
        refine j_iload_n 1 rfl d2_writeNameOnWay_43 ?_
        refine j_iconst d2_writeNameOnWay_44 ejc_1 ?_
        refine j_isub d2_writeNameOnWay_45 ?_
        refine j_callVi (c2_nodeOn x n (y6 - 1) s7) lv_X2_110 (cV_rc_8 x s7) ⟨Nat.le_of_ble_eq_true rfl, Nat.le_of_ble_eq_true rfl⟩ d2_writeNameOnWay_46 rfl (Nat.le_of_ble_eq_true rfl) (fun r10 s9 => ?_)
        refine j_callVl (c0_nameOf x n r10 s9) lv_X2_96 (cV_rc_4 x s9) ⟨Nat.le_of_ble_eq_true rfl, Nat.le_of_ble_eq_true rfl⟩ d2_writeNameOnWay_49 rfl (Nat.le_of_ble_eq_true rfl) (fun r12 s11 => ?_)
        refine j_callVv (c7_appendName x n 1 (Nat.le_of_ble_eq_true rfl) r12 s11) lv_X2_128 (cV_rc_t x s11 1 (Nat.le_of_ble_eq_true rfl)) ⟨Nat.le_of_ble_eq_true rfl, Nat.le_of_ble_eq_true rfl⟩ d2_writeNameOnWay_52 rfl (Nat.le_of_ble_eq_true rfl) (fun s13 => ?_)
        refine j_iinc (i := 2) (v := (-1)) (Ly := fun x14 => [(2, .int x14), (0, .ref (cw_a x 8))]) 1 d2_writeNameOnWay_55 rfl ejc_m1 (Nat.le_of_ble_eq_true rfl) (fun _ => rfl) (fun x14 => ?_)
        refine j_goto d2_writeNameOnWay_58 ?_
        exact j_sub [1, 0] rfl (ih x14 s13)
noncomputable def m2_writeNameOnWay (n : Nat) (a1 : Int32) (σ : ej_S) : Option (ej_S) := ej_bi (m2_nodeOn n a1 σ) fun r2 s1 => ej_bl (m0_nameOf n r2 s1) fun r4 s3 => ej_bv (m7_appendName n 1 r4 s3) fun s5 => (m2_writeNameOnWay_21 n n a1 s5)
set_option maxRecDepth 20000 in
set_option maxHeartbeats 2000000 in
theorem j2_writeNameOnWay (x : cw_T) (n : Nat) (a1 : Int32) (σ : ej_S) {F : ej_F} {r0 : ej_S} (hq : ej_fin (cV x) F none none r0) : ej_J (cV x) F i2_writeNameOnWay r0 σ 0 [(0, .ref (cw_a x 8)), (1, .int a1)] [] (m2_writeNameOnWay n a1 σ) := by
  unfold m2_writeNameOnWay
  refine j_aload_n 0 rfl d2_writeNameOnWay_0 ?_
  refine j_get fl_X2_23 (cV_g_8_3 x σ) d2_writeNameOnWay_1 ?_
  refine j_aload_n 0 rfl d2_writeNameOnWay_4 ?_
  refine j_get fl_X2_9 (cV_g_8_0 x σ) d2_writeNameOnWay_5 ?_
  refine j_aload_n 0 rfl d2_writeNameOnWay_8 ?_
  refine j_iload_n 1 rfl d2_writeNameOnWay_9 ?_
  refine j_callVi (c2_nodeOn x n a1 σ) lv_X2_110 (cV_rc_8 x σ) ⟨Nat.le_of_ble_eq_true rfl, Nat.le_of_ble_eq_true rfl⟩ d2_writeNameOnWay_10 rfl (Nat.le_of_ble_eq_true rfl) (fun r2 s1 => ?_)
  refine j_callVl (c0_nameOf x n r2 s1) lv_X2_96 (cV_rc_4 x s1) ⟨Nat.le_of_ble_eq_true rfl, Nat.le_of_ble_eq_true rfl⟩ d2_writeNameOnWay_13 rfl (Nat.le_of_ble_eq_true rfl) (fun r4 s3 => ?_)
  refine j_callVv (c7_appendName x n 1 (Nat.le_of_ble_eq_true rfl) r4 s3) lv_X2_128 (cV_rc_t x s3 1 (Nat.le_of_ble_eq_true rfl)) ⟨Nat.le_of_ble_eq_true rfl, Nat.le_of_ble_eq_true rfl⟩ d2_writeNameOnWay_16 rfl (Nat.le_of_ble_eq_true rfl) (fun s5 => ?_)
  refine j_iload_n 1 rfl d2_writeNameOnWay_19 ?_
  refine j_istore_n (i := 2) (L' := [(2, .int a1), (0, .ref (cw_a x 8)), (1, .int a1)]) d2_writeNameOnWay_20 rfl (Nat.le_of_ble_eq_true rfl) rfl ?_
  exact j_sub [1, 0] rfl (j2_writeNameOnWay_21 x n hq n a1 s5)
theorem c2_writeNameOnWay (x : cw_T) (n : Nat) (a1 : Int32) (σ : ej_S) : ∀ σ1, m2_writeNameOnWay n a1 σ = some σ1 → ∀ l, ej_Con l (cV x) i2_writeNameOnWay yX2_writeNameOnWay none [.ref (cw_a x 8), .int a1] σ none σ1 := fun σ1 h l => ej_con_of (cV_ok x) pn_X2 rfl (Nat.le_of_ble_eq_true rfl) rfl h (fun F hq => j2_writeNameOnWay x n a1 σ hq)

noncomputable def m2_writeLeft_2 (n : Nat) (k : Nat) : Int32 → Int32 → ej_S → Option (ej_S) := Nat.rec (motive := fun _ => Int32 → Int32 → ej_S → Option (ej_S)) (fun _ _ _ => none) (fun _ ih y1 y2 σ => (if y1 < y2 then (some σ) else ej_bi (m2_printedMark n y2 σ) fun r4 s3 => (if r4 = 1 then ej_bv (m2_writeNameOnWay n y2 s3) fun s6 => ej_bv (m7_append n 1 33 s6) fun s7 => ej_nm (y2 + 1) fun x8 => (ih y1 x8 s7) else ej_nm (y2 + 1) fun x5 => (ih y1 x5 s3)))) k
theorem m2_writeLeft_2_s (n : Nat) (k : Nat) (y1 : Int32) (y2 : Int32) (σ : ej_S) : m2_writeLeft_2 n (k + 1) y1 y2 σ = ((if y1 < y2 then (some σ) else ej_bi (m2_printedMark n y2 σ) fun r4 s3 => (if r4 = 1 then ej_bv (m2_writeNameOnWay n y2 s3) fun s6 => ej_bv (m7_append n 1 33 s6) fun s7 => ej_nm (y2 + 1) fun x8 => ((m2_writeLeft_2 n k) y1 x8 s7) else ej_nm (y2 + 1) fun x5 => ((m2_writeLeft_2 n k) y1 x5 s3))) : Option (ej_S)) := rfl
set_option maxRecDepth 20000 in
set_option maxHeartbeats 2000000 in
theorem j2_writeLeft_2 (x : cw_T) (n : Nat) {F : ej_F} {r0 : ej_S} (hq : ej_fin (cV x) F none none r0) : ∀ (k : Nat) (y1 : Int32) (y2 : Int32) (σ : ej_S), ej_J (cV x) F i2_writeLeft r0 σ 2 [(0, .ref (cw_a x 8)), (1, .int y1), (2, .int y2)] [] (m2_writeLeft_2 n k y1 y2 σ) := by
  intro k
  induction k with
  | zero => intro y1 y2 σ; exact j_none
  | succ k ih =>
    intro y1 y2 σ
    rw [m2_writeLeft_2_s]
    refine j_iload_n 2 rfl d2_writeLeft_2 ?_
    refine j_iload_n 1 rfl d2_writeLeft_3 ?_
    refine j_icmp_gt d2_writeLeft_4 ?_ ?_
    · exact j_vreturn hq d2_writeLeft_36
    · refine j_aload_n 0 rfl d2_writeLeft_7 ?_
      refine j_iload_n 2 rfl d2_writeLeft_8 ?_
      refine j_callVi (c2_printedMark x n y2 σ) lv_X2_104 (cV_rc_8 x σ) ⟨Nat.le_of_ble_eq_true rfl, Nat.le_of_ble_eq_true rfl⟩ d2_writeLeft_9 rfl (Nat.le_of_ble_eq_true rfl) (fun r4 s3 => ?_)
      refine j_iconst d2_writeLeft_12 ejc_1 ?_
      refine j_icmp_ne d2_writeLeft_13 ?_ ?_
      · refine j_iinc (i := 2) (v := 1) (Ly := fun x5 => [(2, .int x5), (0, .ref (cw_a x 8)), (1, .int y1)]) 2 d2_writeLeft_30 rfl ejc_1 (Nat.le_of_ble_eq_true rfl) (fun _ => rfl) (fun x5 => ?_)
        refine j_goto d2_writeLeft_33 ?_
        exact j_sub [1, 2, 0] rfl (ih y1 x5 s3)
      · refine j_aload_n 0 rfl d2_writeLeft_16 ?_
        refine j_iload_n 2 rfl d2_writeLeft_17 ?_
        refine j_callVv (c2_writeNameOnWay x n y2 s3) lv_X2_107 (cV_rc_8 x s3) ⟨Nat.le_of_ble_eq_true rfl, Nat.le_of_ble_eq_true rfl⟩ d2_writeLeft_18 rfl (Nat.le_of_ble_eq_true rfl) (fun s6 => ?_)
        refine j_aload_n 0 rfl d2_writeLeft_21 ?_
        refine j_get fl_X2_23 (cV_g_8_3 x s6) d2_writeLeft_22 ?_
        refine j_bipush d2_writeLeft_25 ejb_33 ?_
        refine j_callVv (c7_append x n 1 (Nat.le_of_ble_eq_true rfl) 33 s6) lv_X2_42 (cV_rc_t x s6 1 (Nat.le_of_ble_eq_true rfl)) ⟨Nat.le_of_ble_eq_true rfl, Nat.le_of_ble_eq_true rfl⟩ d2_writeLeft_27 rfl (Nat.le_of_ble_eq_true rfl) (fun s7 => ?_)
        refine j_iinc (i := 2) (v := 1) (Ly := fun x8 => [(2, .int x8), (0, .ref (cw_a x 8)), (1, .int y1)]) 2 d2_writeLeft_30 rfl ejc_1 (Nat.le_of_ble_eq_true rfl) (fun _ => rfl) (fun x8 => ?_)
        refine j_goto d2_writeLeft_33 ?_
        exact j_sub [1, 2, 0] rfl (ih y1 x8 s7)
noncomputable def m2_writeLeft (n : Nat) (a1 : Int32) (σ : ej_S) : Option (ej_S) := (m2_writeLeft_2 n n a1 1 σ)
set_option maxRecDepth 20000 in
set_option maxHeartbeats 2000000 in
theorem j2_writeLeft (x : cw_T) (n : Nat) (a1 : Int32) (σ : ej_S) {F : ej_F} {r0 : ej_S} (hq : ej_fin (cV x) F none none r0) : ej_J (cV x) F i2_writeLeft r0 σ 0 [(0, .ref (cw_a x 8)), (1, .int a1)] [] (m2_writeLeft n a1 σ) := by
  unfold m2_writeLeft
  refine j_iconst d2_writeLeft_0 ejc_1 ?_
  refine j_istore_n (i := 2) (L' := [(2, .int 1), (0, .ref (cw_a x 8)), (1, .int a1)]) d2_writeLeft_1 rfl (Nat.le_of_ble_eq_true rfl) rfl ?_
  exact j_sub [1, 2, 0] rfl (j2_writeLeft_2 x n hq n a1 1 σ)
theorem c2_writeLeft (x : cw_T) (n : Nat) (a1 : Int32) (σ : ej_S) : ∀ σ1, m2_writeLeft n a1 σ = some σ1 → ∀ l, ej_Con l (cV x) i2_writeLeft yX2_writeLeft none [.ref (cw_a x 8), .int a1] σ none σ1 := fun σ1 h l => ej_con_of (cV_ok x) pn_X2 rfl (Nat.le_of_ble_eq_true rfl) rfl h (fun F hq => j2_writeLeft x n a1 σ hq)

noncomputable def m2_writeRight_2 (n : Nat) (k : Nat) : Int32 → ej_S → Option (ej_S) := Nat.rec (motive := fun _ => Int32 → ej_S → Option (ej_S)) (fun _ _ => none) (fun _ ih y1 σ => (if y1 < 1 then (some σ) else ej_bi (m2_printedMark n y1 σ) fun r3 s2 => (if r3 = 2 then ej_bv (m7_append n 1 64 s2) fun s5 => ej_bv (m2_writeNameOnWay n y1 s5) fun s6 => ej_nm (y1 + (-1)) fun x7 => (ih x7 s6) else ej_nm (y1 + (-1)) fun x4 => (ih x4 s2)))) k
theorem m2_writeRight_2_s (n : Nat) (k : Nat) (y1 : Int32) (σ : ej_S) : m2_writeRight_2 n (k + 1) y1 σ = ((if y1 < 1 then (some σ) else ej_bi (m2_printedMark n y1 σ) fun r3 s2 => (if r3 = 2 then ej_bv (m7_append n 1 64 s2) fun s5 => ej_bv (m2_writeNameOnWay n y1 s5) fun s6 => ej_nm (y1 + (-1)) fun x7 => ((m2_writeRight_2 n k) x7 s6) else ej_nm (y1 + (-1)) fun x4 => ((m2_writeRight_2 n k) x4 s2))) : Option (ej_S)) := rfl
set_option maxRecDepth 20000 in
set_option maxHeartbeats 2000000 in
theorem j2_writeRight_2 (x : cw_T) (n : Nat) {F : ej_F} {r0 : ej_S} (hq : ej_fin (cV x) F none none r0) : ∀ (k : Nat) (y1 : Int32) (σ : ej_S), ej_J (cV x) F i2_writeRight r0 σ 2 [(0, .ref (cw_a x 8)), (2, .int y1)] [] (m2_writeRight_2 n k y1 σ) := by
  intro k
  induction k with
  | zero => intro y1 σ; exact j_none
  | succ k ih =>
    intro y1 σ
    rw [m2_writeRight_2_s]
    refine j_iload_n 1 rfl d2_writeRight_2 ?_
    refine j_iconst d2_writeRight_3 ejc_1 ?_
    refine j_icmp_lt d2_writeRight_4 ?_ ?_
    · exact j_vreturn hq d2_writeRight_36
    · refine j_aload_n 0 rfl d2_writeRight_7 ?_
      refine j_iload_n 1 rfl d2_writeRight_8 ?_
      refine j_callVi (c2_printedMark x n y1 σ) lv_X2_104 (cV_rc_8 x σ) ⟨Nat.le_of_ble_eq_true rfl, Nat.le_of_ble_eq_true rfl⟩ d2_writeRight_9 rfl (Nat.le_of_ble_eq_true rfl) (fun r3 s2 => ?_)
      refine j_iconst d2_writeRight_12 ejc_2 ?_
      refine j_icmp_ne d2_writeRight_13 ?_ ?_
      · refine j_iinc (i := 2) (v := (-1)) (Ly := fun x4 => [(2, .int x4), (0, .ref (cw_a x 8))]) 1 d2_writeRight_30 rfl ejc_m1 (Nat.le_of_ble_eq_true rfl) (fun _ => rfl) (fun x4 => ?_)
        refine j_goto d2_writeRight_33 ?_
        exact j_sub [1, 0] rfl (ih x4 s2)
      · refine j_aload_n 0 rfl d2_writeRight_16 ?_
        refine j_get fl_X2_23 (cV_g_8_3 x s2) d2_writeRight_17 ?_
        refine j_bipush d2_writeRight_20 ejb_64 ?_
        refine j_callVv (c7_append x n 1 (Nat.le_of_ble_eq_true rfl) 64 s2) lv_X2_42 (cV_rc_t x s2 1 (Nat.le_of_ble_eq_true rfl)) ⟨Nat.le_of_ble_eq_true rfl, Nat.le_of_ble_eq_true rfl⟩ d2_writeRight_22 rfl (Nat.le_of_ble_eq_true rfl) (fun s5 => ?_)
        refine j_aload_n 0 rfl d2_writeRight_25 ?_
        refine j_iload_n 1 rfl d2_writeRight_26 ?_
        refine j_callVv (c2_writeNameOnWay x n y1 s5) lv_X2_107 (cV_rc_8 x s5) ⟨Nat.le_of_ble_eq_true rfl, Nat.le_of_ble_eq_true rfl⟩ d2_writeRight_27 rfl (Nat.le_of_ble_eq_true rfl) (fun s6 => ?_)
        refine j_iinc (i := 2) (v := (-1)) (Ly := fun x7 => [(2, .int x7), (0, .ref (cw_a x 8))]) 1 d2_writeRight_30 rfl ejc_m1 (Nat.le_of_ble_eq_true rfl) (fun _ => rfl) (fun x7 => ?_)
        refine j_goto d2_writeRight_33 ?_
        exact j_sub [1, 0] rfl (ih x7 s6)
noncomputable def m2_writeRight (n : Nat) (a1 : Int32) (σ : ej_S) : Option (ej_S) := (m2_writeRight_2 n n a1 σ)
set_option maxRecDepth 20000 in
set_option maxHeartbeats 2000000 in
theorem j2_writeRight (x : cw_T) (n : Nat) (a1 : Int32) (σ : ej_S) {F : ej_F} {r0 : ej_S} (hq : ej_fin (cV x) F none none r0) : ej_J (cV x) F i2_writeRight r0 σ 0 [(0, .ref (cw_a x 8)), (1, .int a1)] [] (m2_writeRight n a1 σ) := by
  unfold m2_writeRight
  refine j_iload_n 1 rfl d2_writeRight_0 ?_
  refine j_istore_n (i := 2) (L' := [(2, .int a1), (0, .ref (cw_a x 8)), (1, .int a1)]) d2_writeRight_1 rfl (Nat.le_of_ble_eq_true rfl) rfl ?_
  exact j_sub [1, 0] rfl (j2_writeRight_2 x n hq n a1 σ)
theorem c2_writeRight (x : cw_T) (n : Nat) (a1 : Int32) (σ : ej_S) : ∀ σ1, m2_writeRight n a1 σ = some σ1 → ∀ l, ej_Con l (cV x) i2_writeRight yX2_writeRight none [.ref (cw_a x 8), .int a1] σ none σ1 := fun σ1 h l => ej_con_of (cV_ok x) pn_X2 rfl (Nat.le_of_ble_eq_true rfl) rfl h (fun F hq => j2_writeRight x n a1 σ hq)

noncomputable def m2_writeRouteOf (n : Nat) (a1 : Int32) (σ : ej_S) : Option (ej_S) := ej_bv (m7_clear n 1 σ) fun s1 => ej_bi (m9_layOut n a1 s1) fun r3 s2 => (if r3 = (-1) then (some s2) else ej_bv (m2_writeLeft n r3 s2) fun s4 => ej_bv (m7_append n 1 37 s4) fun s5 => ej_bv (m2_writeRight n r3 s5) fun s6 => (some s6))
set_option maxRecDepth 20000 in
set_option maxHeartbeats 2000000 in
theorem j2_writeRouteOf (x : cw_T) (n : Nat) (a1 : Int32) (σ : ej_S) {F : ej_F} {r0 : ej_S} (hq : ej_fin (cV x) F none none r0) : ej_J (cV x) F i2_writeRouteOf r0 σ 0 [(0, .ref (cw_a x 8)), (1, .int a1)] [] (m2_writeRouteOf n a1 σ) := by
  unfold m2_writeRouteOf
  refine j_aload_n 0 rfl d2_writeRouteOf_0 ?_
  refine j_get fl_X2_23 (cV_g_8_3 x σ) d2_writeRouteOf_1 ?_
  refine j_callVv (c7_clear x n 1 (Nat.le_of_ble_eq_true rfl) σ) lv_X2_27 (cV_rc_t x σ 1 (Nat.le_of_ble_eq_true rfl)) ⟨Nat.le_of_ble_eq_true rfl, Nat.le_of_ble_eq_true rfl⟩ d2_writeRouteOf_4 rfl (Nat.le_of_ble_eq_true rfl) (fun s1 => ?_)
  refine j_aload_n 0 rfl d2_writeRouteOf_7 ?_
  refine j_get fl_X2_19 (cV_g_8_2 x s1) d2_writeRouteOf_8 ?_
  refine j_iload_n 1 rfl d2_writeRouteOf_11 ?_
  refine j_callVi (c9_layOut x n a1 s1) lv_X2_32 (cV_rc_7 x s1) ⟨Nat.le_of_ble_eq_true rfl, Nat.le_of_ble_eq_true rfl⟩ d2_writeRouteOf_12 rfl (Nat.le_of_ble_eq_true rfl) (fun r3 s2 => ?_)
  refine j_istore_n (i := 2) (L' := [(2, .int r3), (0, .ref (cw_a x 8)), (1, .int a1)]) d2_writeRouteOf_15 rfl (Nat.le_of_ble_eq_true rfl) rfl ?_
  refine j_iload_n 0 rfl d2_writeRouteOf_16 ?_
  refine j_iconst d2_writeRouteOf_17 ejc_m1 ?_
  refine j_icmp_ne d2_writeRouteOf_18 ?_ ?_
  · refine j_aload_n 1 rfl d2_writeRouteOf_22 ?_
    refine j_iload_n 0 rfl d2_writeRouteOf_23 ?_
    refine j_callVv (c2_writeLeft x n r3 s2) lv_X2_38 (cV_rc_8 x s2) ⟨Nat.le_of_ble_eq_true rfl, Nat.le_of_ble_eq_true rfl⟩ d2_writeRouteOf_24 rfl (Nat.le_of_ble_eq_true rfl) (fun s4 => ?_)
    refine j_aload_n 1 rfl d2_writeRouteOf_27 ?_
    refine j_get fl_X2_23 (cV_g_8_3 x s4) d2_writeRouteOf_28 ?_
    refine j_bipush d2_writeRouteOf_31 ejb_37 ?_
    refine j_callVv (c7_append x n 1 (Nat.le_of_ble_eq_true rfl) 37 s4) lv_X2_42 (cV_rc_t x s4 1 (Nat.le_of_ble_eq_true rfl)) ⟨Nat.le_of_ble_eq_true rfl, Nat.le_of_ble_eq_true rfl⟩ d2_writeRouteOf_33 rfl (Nat.le_of_ble_eq_true rfl) (fun s5 => ?_)
    refine j_aload_n 1 rfl d2_writeRouteOf_36 ?_
    refine j_iload_n 0 rfl d2_writeRouteOf_37 ?_
    refine j_callVv (c2_writeRight x n r3 s5) lv_X2_45 (cV_rc_8 x s5) ⟨Nat.le_of_ble_eq_true rfl, Nat.le_of_ble_eq_true rfl⟩ d2_writeRouteOf_38 rfl (Nat.le_of_ble_eq_true rfl) (fun s6 => ?_)
    exact j_vreturn hq d2_writeRouteOf_41
  · exact j_vreturn hq d2_writeRouteOf_21
theorem c2_writeRouteOf (x : cw_T) (n : Nat) (a1 : Int32) (σ : ej_S) : ∀ σ1, m2_writeRouteOf n a1 σ = some σ1 → ∀ l, ej_Con l (cV x) i2_writeRouteOf yX2_writeRouteOf none [.ref (cw_a x 8), .int a1] σ none σ1 := fun σ1 h l => ej_con_of (cV_ok x) pn_X2 rfl (Nat.le_of_ble_eq_true rfl) rfl h (fun F hq => j2_writeRouteOf x n a1 σ hq)

noncomputable def m2_beginOfPart_2 (n : Nat) (t1 : Nat) (k : Nat) : Int32 → ej_S → Option (Int32 × ej_S) := Nat.rec (motive := fun _ => Int32 → ej_S → Option (Int32 × ej_S)) (fun _ _ => none) (fun _ ih y1 σ => (if y1 ≤ 0 then (some (y1, σ)) else ej_bi (m7_byteAt n t1 (y1 - 1) σ) fun r3 s2 => (if r3 = 33 then (some (y1, s2)) else ej_nm (y1 + (-1)) fun x4 => (ih x4 s2)))) k
theorem m2_beginOfPart_2_s (n : Nat) (t1 : Nat) (k : Nat) (y1 : Int32) (σ : ej_S) : m2_beginOfPart_2 n t1 (k + 1) y1 σ = ((if y1 ≤ 0 then (some (y1, σ)) else ej_bi (m7_byteAt n t1 (y1 - 1) σ) fun r3 s2 => (if r3 = 33 then (some (y1, s2)) else ej_nm (y1 + (-1)) fun x4 => ((m2_beginOfPart_2 n t1 k) x4 s2))) : Option (Int32 × ej_S)) := rfl
set_option maxRecDepth 20000 in
set_option maxHeartbeats 2000000 in
theorem j2_beginOfPart_2 (x : cw_T) (n : Nat) (t1 : Nat) (ht1 : t1 < 7) {F : ej_F} {r0 : Int32 × ej_S} (hq : ej_fin (cV x) F (some .int) (some (.int r0.1)) r0.2) : ∀ (k : Nat) (y1 : Int32) (σ : ej_S), ej_J (cV x) F i2_beginOfPart r0 σ 2 [(0, .ref (cw_a x (10 + t1))), (2, .int y1)] [] (m2_beginOfPart_2 n t1 k y1 σ) := by
  intro k
  induction k with
  | zero => intro y1 σ; exact j_none
  | succ k ih =>
    intro y1 σ
    rw [m2_beginOfPart_2_s]
    refine j_iload_n 1 rfl d2_beginOfPart_2 ?_
    refine j_if_le d2_beginOfPart_3 ?_ ?_
    · refine j_iload_n 1 rfl d2_beginOfPart_24 ?_
      exact j_ireturn hq d2_beginOfPart_25
    · refine j_aload_n 0 rfl d2_beginOfPart_6 ?_
      refine j_iload_n 1 rfl d2_beginOfPart_7 ?_
      refine j_iconst d2_beginOfPart_8 ejc_1 ?_
      refine j_isub d2_beginOfPart_9 ?_
      refine j_callVi (c7_byteAt x n t1 ht1 (y1 - 1) σ) lv_X2_52 (cV_rc_t x σ t1 ht1) ⟨Nat.le_of_ble_eq_true rfl, Nat.le_of_ble_eq_true rfl⟩ d2_beginOfPart_10 rfl (Nat.le_of_ble_eq_true rfl) (fun r3 s2 => ?_)
      refine j_bipush d2_beginOfPart_13 ejb_33 ?_
      refine j_icmp_eq d2_beginOfPart_15 ?_ ?_
      · refine j_iload_n 1 rfl d2_beginOfPart_24 ?_
        exact j_ireturn hq d2_beginOfPart_25
      · refine j_iinc (i := 2) (v := (-1)) (Ly := fun x4 => [(2, .int x4), (0, .ref (cw_a x (10 + t1)))]) 1 d2_beginOfPart_18 rfl ejc_m1 (Nat.le_of_ble_eq_true rfl) (fun _ => rfl) (fun x4 => ?_)
        refine j_goto d2_beginOfPart_21 ?_
        exact j_sub [1, 0] rfl (ih x4 s2)
noncomputable def m2_beginOfPart (n : Nat) (t1 : Nat) (a2 : Int32) (σ : ej_S) : Option (Int32 × ej_S) := (m2_beginOfPart_2 n t1 n a2 σ)
set_option maxRecDepth 20000 in
set_option maxHeartbeats 2000000 in
theorem j2_beginOfPart (x : cw_T) (n : Nat) (t1 : Nat) (ht1 : t1 < 7) (a2 : Int32) (σ : ej_S) {F : ej_F} {r0 : Int32 × ej_S} (hq : ej_fin (cV x) F (some .int) (some (.int r0.1)) r0.2) : ej_J (cV x) F i2_beginOfPart r0 σ 0 [(0, .ref (cw_a x (10 + t1))), (1, .int a2)] [] (m2_beginOfPart n t1 a2 σ) := by
  unfold m2_beginOfPart
  refine j_iload_n 1 rfl d2_beginOfPart_0 ?_
  refine j_istore_n (i := 2) (L' := [(2, .int a2), (0, .ref (cw_a x (10 + t1))), (1, .int a2)]) d2_beginOfPart_1 rfl (Nat.le_of_ble_eq_true rfl) rfl ?_
  exact j_sub [1, 0] rfl (j2_beginOfPart_2 x n t1 ht1 hq n a2 σ)
theorem c2_beginOfPart (x : cw_T) (n : Nat) (t1 : Nat) (ht1 : t1 < 7) (a2 : Int32) (σ : ej_S) : ∀ r σ1, m2_beginOfPart n t1 a2 σ = some (r, σ1) → ∀ l, ej_Con l (cV x) i2_beginOfPart yX2_beginOfPart (some .int) [.ref (cw_a x (10 + t1)), .int a2] σ (some (.int r)) σ1 := fun r σ1 h l => ej_con_of (cV_ok x) pn_X2 rfl (Nat.le_of_ble_eq_true rfl) rfl h (fun F hq => j2_beginOfPart x n t1 ht1 a2 σ hq)

noncomputable def m2_lengthOfName_2 (n : Nat) (k : Nat) : Int32 → Int32 → ej_S → Option (Int32 × ej_S) := Nat.rec (motive := fun _ => Int32 → Int32 → ej_S → Option (Int32 × ej_S)) (fun _ _ _ => none) (fun _ ih y1 y2 σ => (if 8 ≤ y2 then (some (y2, σ)) else ej_bl (m0_nameOf n y1 σ) fun r4 s3 => ej_bi (m10_nameByte n r4 y2 s3) fun r6 s5 => (if r6 = 0 then (some (y2, s5)) else ej_nm (y2 + 1) fun x7 => (ih y1 x7 s5)))) k
theorem m2_lengthOfName_2_s (n : Nat) (k : Nat) (y1 : Int32) (y2 : Int32) (σ : ej_S) : m2_lengthOfName_2 n (k + 1) y1 y2 σ = ((if 8 ≤ y2 then (some (y2, σ)) else ej_bl (m0_nameOf n y1 σ) fun r4 s3 => ej_bi (m10_nameByte n r4 y2 s3) fun r6 s5 => (if r6 = 0 then (some (y2, s5)) else ej_nm (y2 + 1) fun x7 => ((m2_lengthOfName_2 n k) y1 x7 s5))) : Option (Int32 × ej_S)) := rfl
set_option maxRecDepth 20000 in
set_option maxHeartbeats 2000000 in
theorem j2_lengthOfName_2 (x : cw_T) (n : Nat) {F : ej_F} {r0 : Int32 × ej_S} (hq : ej_fin (cV x) F (some .int) (some (.int r0.1)) r0.2) : ∀ (k : Nat) (y1 : Int32) (y2 : Int32) (σ : ej_S), ej_J (cV x) F i2_lengthOfName r0 σ 2 [(0, .ref (cw_a x 8)), (1, .int y1), (2, .int y2)] [] (m2_lengthOfName_2 n k y1 y2 σ) := by
  intro k
  induction k with
  | zero => intro y1 y2 σ; exact j_none
  | succ k ih =>
    intro y1 y2 σ
    rw [m2_lengthOfName_2_s]
    refine j_iload_n 2 rfl d2_lengthOfName_2 ?_
    refine j_bipush d2_lengthOfName_3 ejb_8 ?_
    refine j_icmp_ge d2_lengthOfName_5 ?_ ?_
    · refine j_iload_n 2 rfl d2_lengthOfName_29 ?_
      exact j_ireturn hq d2_lengthOfName_30
    · refine j_aload_n 0 rfl d2_lengthOfName_8 ?_
      refine j_get fl_X2_9 (cV_g_8_0 x σ) d2_lengthOfName_9 ?_
      refine j_iload_n 1 rfl d2_lengthOfName_12 ?_
      refine j_callVl (c0_nameOf x n y1 σ) lv_X2_96 (cV_rc_4 x σ) ⟨Nat.le_of_ble_eq_true rfl, Nat.le_of_ble_eq_true rfl⟩ d2_lengthOfName_13 rfl (Nat.le_of_ble_eq_true rfl) (fun r4 s3 => ?_)
      refine j_iload_n 2 rfl d2_lengthOfName_16 ?_
      refine j_callNi (c10_nameByte x n r4 y2 s3) (ln_X2_100 x) ⟨Nat.le_of_ble_eq_true rfl, Nat.le_of_ble_eq_true rfl⟩ d2_lengthOfName_17 rfl (Nat.le_of_ble_eq_true rfl) (fun r6 s5 => ?_)
      refine j_if_eq d2_lengthOfName_20 ?_ ?_
      · refine j_iload_n 2 rfl d2_lengthOfName_29 ?_
        exact j_ireturn hq d2_lengthOfName_30
      · refine j_iinc (i := 2) (v := 1) (Ly := fun x7 => [(2, .int x7), (0, .ref (cw_a x 8)), (1, .int y1)]) 2 d2_lengthOfName_23 rfl ejc_1 (Nat.le_of_ble_eq_true rfl) (fun _ => rfl) (fun x7 => ?_)
        refine j_goto d2_lengthOfName_26 ?_
        exact j_sub [1, 2, 0] rfl (ih y1 x7 s5)
noncomputable def m2_lengthOfName (n : Nat) (a1 : Int32) (σ : ej_S) : Option (Int32 × ej_S) := (m2_lengthOfName_2 n n a1 0 σ)
set_option maxRecDepth 20000 in
set_option maxHeartbeats 2000000 in
theorem j2_lengthOfName (x : cw_T) (n : Nat) (a1 : Int32) (σ : ej_S) {F : ej_F} {r0 : Int32 × ej_S} (hq : ej_fin (cV x) F (some .int) (some (.int r0.1)) r0.2) : ej_J (cV x) F i2_lengthOfName r0 σ 0 [(0, .ref (cw_a x 8)), (1, .int a1)] [] (m2_lengthOfName n a1 σ) := by
  unfold m2_lengthOfName
  refine j_iconst d2_lengthOfName_0 ejc_0 ?_
  refine j_istore_n (i := 2) (L' := [(2, .int 0), (0, .ref (cw_a x 8)), (1, .int a1)]) d2_lengthOfName_1 rfl (Nat.le_of_ble_eq_true rfl) rfl ?_
  exact j_sub [1, 2, 0] rfl (j2_lengthOfName_2 x n hq n a1 0 σ)
theorem c2_lengthOfName (x : cw_T) (n : Nat) (a1 : Int32) (σ : ej_S) : ∀ r σ1, m2_lengthOfName n a1 σ = some (r, σ1) → ∀ l, ej_Con l (cV x) i2_lengthOfName yX2_lengthOfName (some .int) [.ref (cw_a x 8), .int a1] σ (some (.int r)) σ1 := fun r σ1 h l => ej_con_of (cV_ok x) pn_X2 rfl (Nat.le_of_ble_eq_true rfl) rfl h (fun F hq => j2_lengthOfName x n a1 σ hq)

noncomputable def m2_endsWithName_21 (n : Nat) (t1 : Nat) (k : Nat) : Int32 → Int32 → Int32 → Int32 → ej_S → Option (Int32 × ej_S) := Nat.rec (motive := fun _ => Int32 → Int32 → Int32 → Int32 → ej_S → Option (Int32 × ej_S)) (fun _ _ _ _ _ => none) (fun _ ih y3 y4 y5 y6 σ => (if y5 ≤ y6 then (some (1, σ)) else ej_bi (m7_byteAt n t1 ((y3 - y5) + y6) σ) fun r8 s7 => ej_bl (m0_nameOf n y4 s7) fun r10 s9 => ej_bi (m10_nameByte n r10 y6 s9) fun r12 s11 => (if r8 = r12 then ej_nm (y6 + 1) fun x13 => (ih y3 y4 y5 x13 s11) else (some (0, s11))))) k
theorem m2_endsWithName_21_s (n : Nat) (t1 : Nat) (k : Nat) (y3 : Int32) (y4 : Int32) (y5 : Int32) (y6 : Int32) (σ : ej_S) : m2_endsWithName_21 n t1 (k + 1) y3 y4 y5 y6 σ = ((if y5 ≤ y6 then (some (1, σ)) else ej_bi (m7_byteAt n t1 ((y3 - y5) + y6) σ) fun r8 s7 => ej_bl (m0_nameOf n y4 s7) fun r10 s9 => ej_bi (m10_nameByte n r10 y6 s9) fun r12 s11 => (if r8 = r12 then ej_nm (y6 + 1) fun x13 => ((m2_endsWithName_21 n t1 k) y3 y4 y5 x13 s11) else (some (0, s11)))) : Option (Int32 × ej_S)) := rfl
set_option maxRecDepth 20000 in
set_option maxHeartbeats 2000000 in
theorem j2_endsWithName_21 (x : cw_T) (n : Nat) (t1 : Nat) (ht1 : t1 < 7) {F : ej_F} {r0 : Int32 × ej_S} (hq : ej_fin (cV x) F (some .boolean) (some (.int r0.1)) r0.2) : ∀ (k : Nat) (y3 : Int32) (y4 : Int32) (y5 : Int32) (y6 : Int32) (σ : ej_S), ej_J (cV x) F i2_endsWithName r0 σ 21 [(0, .ref (cw_a x 8)), (1, .ref (cw_a x (10 + t1))), (3, .int y3), (4, .int y4), (5, .int y5), (6, .int y6)] [] (m2_endsWithName_21 n t1 k y3 y4 y5 y6 σ) := by
  intro k
  induction k with
  | zero => intro y3 y4 y5 y6 σ; exact j_none
  | succ k ih =>
    intro y3 y4 y5 y6 σ
    rw [m2_endsWithName_21_s]
    refine j_iload 5 rfl d2_endsWithName_21 ?_
    refine j_iload 4 rfl d2_endsWithName_23 ?_
    refine j_icmp_ge d2_endsWithName_25 ?_ ?_
    · refine j_iconst d2_endsWithName_64 ejc_1 ?_
      exact j_zreturn1 hq d2_endsWithName_65
    · refine j_aload_n 1 rfl d2_endsWithName_28 ?_
      refine j_iload_n 2 rfl d2_endsWithName_29 ?_
      refine j_iload 4 rfl d2_endsWithName_30 ?_
      refine j_isub d2_endsWithName_32 ?_
      refine j_iload 5 rfl d2_endsWithName_33 ?_
      refine j_iadd d2_endsWithName_35 ?_
      refine j_callVi (c7_byteAt x n t1 ht1 ((y3 - y5) + y6) σ) lv_X2_52 (cV_rc_t x σ t1 ht1) ⟨Nat.le_of_ble_eq_true rfl, Nat.le_of_ble_eq_true rfl⟩ d2_endsWithName_36 rfl (Nat.le_of_ble_eq_true rfl) (fun r8 s7 => ?_)
      refine j_aload_n 0 rfl d2_endsWithName_39 ?_
      refine j_get fl_X2_9 (cV_g_8_0 x s7) d2_endsWithName_40 ?_
      refine j_iload 3 rfl d2_endsWithName_43 ?_
      refine j_callVl (c0_nameOf x n y4 s7) lv_X2_96 (cV_rc_4 x s7) ⟨Nat.le_of_ble_eq_true rfl, Nat.le_of_ble_eq_true rfl⟩ d2_endsWithName_45 rfl (Nat.le_of_ble_eq_true rfl) (fun r10 s9 => ?_)
      refine j_iload 5 rfl d2_endsWithName_48 ?_
      refine j_callNi (c10_nameByte x n r10 y6 s9) (ln_X2_100 x) ⟨Nat.le_of_ble_eq_true rfl, Nat.le_of_ble_eq_true rfl⟩ d2_endsWithName_50 rfl (Nat.le_of_ble_eq_true rfl) (fun r12 s11 => ?_)
      refine j_icmp_eq d2_endsWithName_53 ?_ ?_
      · refine j_iinc (i := 6) (v := 1) (Ly := fun x13 => [(6, .int x13), (0, .ref (cw_a x 8)), (1, .ref (cw_a x (10 + t1))), (3, .int y3), (4, .int y4), (5, .int y5)]) 5 d2_endsWithName_58 rfl ejc_1 (Nat.le_of_ble_eq_true rfl) (fun _ => rfl) (fun x13 => ?_)
        refine j_goto d2_endsWithName_61 ?_
        exact j_sub [1, 2, 3, 4, 5, 0] rfl (ih y3 y4 y5 x13 s11)
      · refine j_iconst d2_endsWithName_56 ejc_0 ?_
        exact j_zreturn0 hq d2_endsWithName_57
noncomputable def m2_endsWithName (n : Nat) (t1 : Nat) (a2 : Int32) (a3 : Int32) (a4 : Int32) (σ : ej_S) : Option (Int32 × ej_S) := ej_bi (m2_lengthOfName n a4 σ) fun r2 s1 => (if r2 ≤ a3 - a2 then (m2_endsWithName_21 n t1 n a3 a4 r2 0 s1) else (some (0, s1)))
set_option maxRecDepth 20000 in
set_option maxHeartbeats 2000000 in
theorem j2_endsWithName (x : cw_T) (n : Nat) (t1 : Nat) (ht1 : t1 < 7) (a2 : Int32) (a3 : Int32) (a4 : Int32) (σ : ej_S) {F : ej_F} {r0 : Int32 × ej_S} (hq : ej_fin (cV x) F (some .boolean) (some (.int r0.1)) r0.2) : ej_J (cV x) F i2_endsWithName r0 σ 0 [(0, .ref (cw_a x 8)), (1, .ref (cw_a x (10 + t1))), (2, .int a2), (3, .int a3), (4, .int a4)] [] (m2_endsWithName n t1 a2 a3 a4 σ) := by
  unfold m2_endsWithName
  refine j_aload_n 0 rfl d2_endsWithName_0 ?_
  refine j_iload 4 rfl d2_endsWithName_1 ?_
  refine j_callVi (c2_lengthOfName x n a4 σ) lv_X2_71 (cV_rc_8 x σ) ⟨Nat.le_of_ble_eq_true rfl, Nat.le_of_ble_eq_true rfl⟩ d2_endsWithName_3 rfl (Nat.le_of_ble_eq_true rfl) (fun r2 s1 => ?_)
  refine j_istore (i := 5) (L' := [(5, .int r2), (0, .ref (cw_a x 8)), (1, .ref (cw_a x (10 + t1))), (2, .int a2), (3, .int a3), (4, .int a4)]) d2_endsWithName_6 (Nat.le_of_ble_eq_true rfl) rfl ?_
  refine j_iload 0 rfl d2_endsWithName_8 ?_
  refine j_iload_n 4 rfl d2_endsWithName_10 ?_
  refine j_iload_n 3 rfl d2_endsWithName_11 ?_
  refine j_isub d2_endsWithName_12 ?_
  refine j_icmp_le d2_endsWithName_13 ?_ ?_
  · refine j_iconst d2_endsWithName_18 ejc_0 ?_
    refine j_istore (i := 6) (L' := [(6, .int 0), (5, .int r2), (0, .ref (cw_a x 8)), (1, .ref (cw_a x (10 + t1))), (2, .int a2), (3, .int a3), (4, .int a4)]) d2_endsWithName_19 (Nat.le_of_ble_eq_true rfl) rfl ?_
    exact j_sub [2, 3, 5, 6, 1, 0] rfl (j2_endsWithName_21 x n t1 ht1 hq n a3 a4 r2 0 s1)
  · refine j_iconst d2_endsWithName_16 ejc_0 ?_
    exact j_zreturn0 hq d2_endsWithName_17
theorem c2_endsWithName (x : cw_T) (n : Nat) (t1 : Nat) (ht1 : t1 < 7) (a2 : Int32) (a3 : Int32) (a4 : Int32) (σ : ej_S) : ∀ r σ1, m2_endsWithName n t1 a2 a3 a4 σ = some (r, σ1) → ∀ l, ej_Con l (cV x) i2_endsWithName yX2_endsWithName (some .boolean) [.ref (cw_a x 8), .ref (cw_a x (10 + t1)), .int a2, .int a3, .int a4] σ (some (.int r)) σ1 := fun r σ1 h l => ej_con_of (cV_ok x) pn_X2 rfl (Nat.le_of_ble_eq_true rfl) rfl h (fun F hq => j2_endsWithName x n t1 ht1 a2 a3 a4 σ hq)

noncomputable def m2_isRouted (n : Nat) (a1 : Int32) (σ : ej_S) : Option (Int32 × ej_S) := ej_bi (m0_isOwned n a1 σ) fun r2 s1 => (if r2 = 0 then ej_bi (m9_routeKey n a1 s1) fun r4 s3 => (if r4 = (-1) then (some (0, s3)) else (some (1, s3))) else (some (0, s1)))
set_option maxRecDepth 20000 in
set_option maxHeartbeats 2000000 in
theorem j2_isRouted (x : cw_T) (n : Nat) (a1 : Int32) (σ : ej_S) {F : ej_F} {r0 : Int32 × ej_S} (hq : ej_fin (cV x) F (some .boolean) (some (.int r0.1)) r0.2) : ej_J (cV x) F i2_isRouted r0 σ 0 [(0, .ref (cw_a x 8)), (1, .int a1)] [] (m2_isRouted n a1 σ) := by
  unfold m2_isRouted
  refine j_aload_n 0 rfl d2_isRouted_0 ?_
  refine j_get fl_X2_9 (cV_g_8_0 x σ) d2_isRouted_1 ?_
  refine j_iload_n 1 rfl d2_isRouted_4 ?_
  refine j_callVi (c0_isOwned x n a1 σ) lv_X2_90 (cV_rc_4 x σ) ⟨Nat.le_of_ble_eq_true rfl, Nat.le_of_ble_eq_true rfl⟩ d2_isRouted_5 rfl (Nat.le_of_ble_eq_true rfl) (fun r2 s1 => ?_)
  refine j_if_ne d2_isRouted_8 ?_ ?_
  · refine j_iconst d2_isRouted_27 ejc_0 ?_
    exact j_zreturn0 hq d2_isRouted_28
  · refine j_aload_n 0 rfl d2_isRouted_11 ?_
    refine j_get fl_X2_19 (cV_g_8_2 x s1) d2_isRouted_12 ?_
    refine j_iload_n 1 rfl d2_isRouted_15 ?_
    refine j_callVi (c9_routeKey x n a1 s1) lv_X2_93 (cV_rc_7 x s1) ⟨Nat.le_of_ble_eq_true rfl, Nat.le_of_ble_eq_true rfl⟩ d2_isRouted_16 rfl (Nat.le_of_ble_eq_true rfl) (fun r4 s3 => ?_)
    refine j_iconst d2_isRouted_19 ejc_m1 ?_
    refine j_icmp_eq d2_isRouted_20 ?_ ?_
    · refine j_iconst d2_isRouted_27 ejc_0 ?_
      exact j_zreturn0 hq d2_isRouted_28
    · refine j_iconst d2_isRouted_23 ejc_1 ?_
      refine j_goto d2_isRouted_24 ?_
      exact j_zreturn1 hq d2_isRouted_28
theorem c2_isRouted (x : cw_T) (n : Nat) (a1 : Int32) (σ : ej_S) : ∀ r σ1, m2_isRouted n a1 σ = some (r, σ1) → ∀ l, ej_Con l (cV x) i2_isRouted yX2_isRouted (some .boolean) [.ref (cw_a x 8), .int a1] σ (some (.int r)) σ1 := fun r σ1 h l => ej_con_of (cV_ok x) pn_X2 rfl (Nat.le_of_ble_eq_true rfl) rfl h (fun F hq => j2_isRouted x n a1 σ hq)

noncomputable def m2_nodeOfPart_6 (n : Nat) (t1 : Nat) (k : Nat) : Int32 → Int32 → Int32 → Int32 → ej_S → Option (Int32 × ej_S) := Nat.rec (motive := fun _ => Int32 → Int32 → Int32 → Int32 → ej_S → Option (Int32 × ej_S)) (fun _ _ _ _ _ => none) (fun _ ih y1 y2 y3 y4 σ => ej_bi (m0_size n σ) fun r6 s5 => (if r6 ≤ y4 then (some (y3, s5)) else ej_bi (m2_endsWithName n t1 y1 y2 y4 s5) fun r8 s7 => (if r8 = 0 then ej_nm (y4 + 1) fun x9 => (ih y1 y2 y3 x9 s7) else ej_bi (m2_isRouted n y4 s7) fun r11 s10 => (if r11 = 0 then ej_nm (y4 + 1) fun x22 => (ih y1 y2 y3 x22 s10) else ej_bi (m2_lengthOfName n y4 s10) fun r13 s12 => (if r13 = y2 - y1 then (some (y4, s12)) else ej_bi (m0_isDomain n y4 s12) fun r15 s14 => (if r15 = 0 then ej_nm (y4 + 1) fun x16 => (ih y1 y2 y3 x16 s14) else (if y3 = (-1) then ej_nm (y4 + 1) fun x17 => (ih y1 y2 y4 x17 s14) else ej_bi (m2_lengthOfName n y3 s14) fun r19 s18 => (if r13 ≤ r19 then ej_nm (y4 + 1) fun x20 => (ih y1 y2 y3 x20 s18) else ej_nm (y4 + 1) fun x21 => (ih y1 y2 y4 x21 s18))))))))) k
theorem m2_nodeOfPart_6_s (n : Nat) (t1 : Nat) (k : Nat) (y1 : Int32) (y2 : Int32) (y3 : Int32) (y4 : Int32) (σ : ej_S) : m2_nodeOfPart_6 n t1 (k + 1) y1 y2 y3 y4 σ = (ej_bi (m0_size n σ) fun r6 s5 => (if r6 ≤ y4 then (some (y3, s5)) else ej_bi (m2_endsWithName n t1 y1 y2 y4 s5) fun r8 s7 => (if r8 = 0 then ej_nm (y4 + 1) fun x9 => ((m2_nodeOfPart_6 n t1 k) y1 y2 y3 x9 s7) else ej_bi (m2_isRouted n y4 s7) fun r11 s10 => (if r11 = 0 then ej_nm (y4 + 1) fun x22 => ((m2_nodeOfPart_6 n t1 k) y1 y2 y3 x22 s10) else ej_bi (m2_lengthOfName n y4 s10) fun r13 s12 => (if r13 = y2 - y1 then (some (y4, s12)) else ej_bi (m0_isDomain n y4 s12) fun r15 s14 => (if r15 = 0 then ej_nm (y4 + 1) fun x16 => ((m2_nodeOfPart_6 n t1 k) y1 y2 y3 x16 s14) else (if y3 = (-1) then ej_nm (y4 + 1) fun x17 => ((m2_nodeOfPart_6 n t1 k) y1 y2 y4 x17 s14) else ej_bi (m2_lengthOfName n y3 s14) fun r19 s18 => (if r13 ≤ r19 then ej_nm (y4 + 1) fun x20 => ((m2_nodeOfPart_6 n t1 k) y1 y2 y3 x20 s18) else ej_nm (y4 + 1) fun x21 => ((m2_nodeOfPart_6 n t1 k) y1 y2 y4 x21 s18)))))))) : Option (Int32 × ej_S)) := rfl
set_option maxRecDepth 20000 in
set_option maxHeartbeats 2000000 in
theorem j2_nodeOfPart_6 (x : cw_T) (n : Nat) (t1 : Nat) (ht1 : t1 < 7) {F : ej_F} {r0 : Int32 × ej_S} (hq : ej_fin (cV x) F (some .int) (some (.int r0.1)) r0.2) : ∀ (k : Nat) (y1 : Int32) (y2 : Int32) (y3 : Int32) (y4 : Int32) (σ : ej_S), ej_J (cV x) F i2_nodeOfPart r0 σ 6 [(0, .ref (cw_a x 8)), (1, .ref (cw_a x (10 + t1))), (2, .int y1), (3, .int y2), (4, .int y3), (5, .int y4)] [] (m2_nodeOfPart_6 n t1 k y1 y2 y3 y4 σ) := by
  intro k
  induction k with
  | zero => intro y1 y2 y3 y4 σ; exact j_none
  | succ k ih =>
    intro y1 y2 y3 y4 σ
    rw [m2_nodeOfPart_6_s]
    refine j_iload 5 rfl d2_nodeOfPart_6 ?_
    refine j_aload_n 0 rfl d2_nodeOfPart_8 ?_
    refine j_get fl_X2_9 (cV_g_8_0 x σ) d2_nodeOfPart_9 ?_
    refine j_callVi (c0_size x n σ) lv_X2_74 (cV_rc_4 x σ) ⟨Nat.le_of_ble_eq_true rfl, Nat.le_of_ble_eq_true rfl⟩ d2_nodeOfPart_12 rfl (Nat.le_of_ble_eq_true rfl) (fun r6 s5 => ?_)
    refine j_icmp_ge d2_nodeOfPart_15 ?_ ?_
    · refine j_iload 4 rfl d2_nodeOfPart_100 ?_
      exact j_ireturn hq d2_nodeOfPart_102
    · refine j_aload_n 0 rfl d2_nodeOfPart_18 ?_
      refine j_aload_n 1 rfl d2_nodeOfPart_19 ?_
      refine j_iload_n 2 rfl d2_nodeOfPart_20 ?_
      refine j_iload_n 3 rfl d2_nodeOfPart_21 ?_
      refine j_iload 5 rfl d2_nodeOfPart_22 ?_
      refine j_callVi (c2_endsWithName x n t1 ht1 y1 y2 y4 s5) lv_X2_79 (cV_rc_8 x s5) ⟨Nat.le_of_ble_eq_true rfl, Nat.le_of_ble_eq_true rfl⟩ d2_nodeOfPart_24 rfl (Nat.le_of_ble_eq_true rfl) (fun r8 s7 => ?_)
      refine j_if_eq d2_nodeOfPart_27 ?_ ?_
      · refine j_iinc (i := 5) (v := 1) (Ly := fun x9 => [(5, .int x9), (0, .ref (cw_a x 8)), (1, .ref (cw_a x (10 + t1))), (2, .int y1), (3, .int y2), (4, .int y3)]) 5 d2_nodeOfPart_94 rfl ejc_1 (Nat.le_of_ble_eq_true rfl) (fun _ => rfl) (fun x9 => ?_)
        refine j_goto d2_nodeOfPart_97 ?_
        exact j_sub [1, 2, 3, 4, 5, 0] rfl (ih y1 y2 y3 x9 s7)
      · refine j_aload_n 0 rfl d2_nodeOfPart_30 ?_
        refine j_iload 5 rfl d2_nodeOfPart_31 ?_
        refine j_callVi (c2_isRouted x n y4 s7) lv_X2_83 (cV_rc_8 x s7) ⟨Nat.le_of_ble_eq_true rfl, Nat.le_of_ble_eq_true rfl⟩ d2_nodeOfPart_33 rfl (Nat.le_of_ble_eq_true rfl) (fun r11 s10 => ?_)
        refine j_if_ne d2_nodeOfPart_36 ?_ ?_
        · refine j_aload_n 0 rfl d2_nodeOfPart_42 ?_
          refine j_iload 5 rfl d2_nodeOfPart_43 ?_
          refine j_callVi (c2_lengthOfName x n y4 s10) lv_X2_71 (cV_rc_8 x s10) ⟨Nat.le_of_ble_eq_true rfl, Nat.le_of_ble_eq_true rfl⟩ d2_nodeOfPart_45 rfl (Nat.le_of_ble_eq_true rfl) (fun r13 s12 => ?_)
          refine j_istore (i := 6) (L' := [(6, .int r13), (0, .ref (cw_a x 8)), (1, .ref (cw_a x (10 + t1))), (2, .int y1), (3, .int y2), (4, .int y3), (5, .int y4)]) d2_nodeOfPart_48 (Nat.le_of_ble_eq_true rfl) rfl ?_
          refine j_iload 0 rfl d2_nodeOfPart_50 ?_
          refine j_iload_n 4 rfl d2_nodeOfPart_52 ?_
          refine j_iload_n 3 rfl d2_nodeOfPart_53 ?_
          refine j_isub d2_nodeOfPart_54 ?_
          refine j_icmp_ne d2_nodeOfPart_55 ?_ ?_
          · refine j_aload_n 1 rfl d2_nodeOfPart_61 ?_
            refine j_get fl_X2_9 (cV_g_8_0 x s12) d2_nodeOfPart_62 ?_
            refine j_iload 6 rfl d2_nodeOfPart_65 ?_
            refine j_callVi (c0_isDomain x n y4 s12) lv_X2_87 (cV_rc_4 x s12) ⟨Nat.le_of_ble_eq_true rfl, Nat.le_of_ble_eq_true rfl⟩ d2_nodeOfPart_67 rfl (Nat.le_of_ble_eq_true rfl) (fun r15 s14 => ?_)
            refine j_if_eq d2_nodeOfPart_70 ?_ ?_
            · refine j_iinc (i := 5) (v := 1) (Ly := fun x16 => [(5, .int x16), (6, .int r13), (0, .ref (cw_a x 8)), (1, .ref (cw_a x (10 + t1))), (2, .int y1), (3, .int y2), (4, .int y3)]) 6 d2_nodeOfPart_94 rfl ejc_1 (Nat.le_of_ble_eq_true rfl) (fun _ => rfl) (fun x16 => ?_)
              refine j_goto d2_nodeOfPart_97 ?_
              exact j_sub [2, 3, 4, 5, 6, 0] rfl (ih y1 y2 y3 x16 s14)
            · refine j_iload 5 rfl d2_nodeOfPart_73 ?_
              refine j_iconst d2_nodeOfPart_75 ejc_m1 ?_
              refine j_icmp_eq d2_nodeOfPart_76 ?_ ?_
              · refine j_iload 6 rfl d2_nodeOfPart_90 ?_
                refine j_istore (i := 4) (L' := [(4, .int y4), (6, .int r13), (0, .ref (cw_a x 8)), (1, .ref (cw_a x (10 + t1))), (2, .int y1), (3, .int y2), (5, .int y4)]) d2_nodeOfPart_92 (Nat.le_of_ble_eq_true rfl) rfl ?_
                refine j_iinc (i := 5) (v := 1) (Ly := fun x17 => [(5, .int x17), (4, .int y4), (6, .int r13), (0, .ref (cw_a x 8)), (1, .ref (cw_a x (10 + t1))), (2, .int y1), (3, .int y2)]) 6 d2_nodeOfPart_94 rfl ejc_1 (Nat.le_of_ble_eq_true rfl) (fun _ => rfl) (fun x17 => ?_)
                refine j_goto d2_nodeOfPart_97 ?_
                exact j_sub [3, 4, 5, 6, 1, 0] rfl (ih y1 y2 y4 x17 s14)
              · refine j_iload 0 rfl d2_nodeOfPart_79 ?_
                refine j_aload_n 1 rfl d2_nodeOfPart_81 ?_
                refine j_iload 5 rfl d2_nodeOfPart_82 ?_
                refine j_callVi (c2_lengthOfName x n y3 s14) lv_X2_71 (cV_rc_8 x s14) ⟨Nat.le_of_ble_eq_true rfl, Nat.le_of_ble_eq_true rfl⟩ d2_nodeOfPart_84 rfl (Nat.le_of_ble_eq_true rfl) (fun r19 s18 => ?_)
                refine j_icmp_le d2_nodeOfPart_87 ?_ ?_
                · refine j_iinc (i := 5) (v := 1) (Ly := fun x20 => [(5, .int x20), (6, .int r13), (0, .ref (cw_a x 8)), (1, .ref (cw_a x (10 + t1))), (2, .int y1), (3, .int y2), (4, .int y3)]) 6 d2_nodeOfPart_94 rfl ejc_1 (Nat.le_of_ble_eq_true rfl) (fun _ => rfl) (fun x20 => ?_)
                  refine j_goto d2_nodeOfPart_97 ?_
                  exact j_sub [2, 3, 4, 5, 6, 0] rfl (ih y1 y2 y3 x20 s18)
                · refine j_iload 6 rfl d2_nodeOfPart_90 ?_
                  refine j_istore (i := 4) (L' := [(4, .int y4), (6, .int r13), (0, .ref (cw_a x 8)), (1, .ref (cw_a x (10 + t1))), (2, .int y1), (3, .int y2), (5, .int y4)]) d2_nodeOfPart_92 (Nat.le_of_ble_eq_true rfl) rfl ?_
                  refine j_iinc (i := 5) (v := 1) (Ly := fun x21 => [(5, .int x21), (4, .int y4), (6, .int r13), (0, .ref (cw_a x 8)), (1, .ref (cw_a x (10 + t1))), (2, .int y1), (3, .int y2)]) 6 d2_nodeOfPart_94 rfl ejc_1 (Nat.le_of_ble_eq_true rfl) (fun _ => rfl) (fun x21 => ?_)
                  refine j_goto d2_nodeOfPart_97 ?_
                  exact j_sub [3, 4, 5, 6, 1, 0] rfl (ih y1 y2 y4 x21 s18)
          · refine j_iload 6 rfl d2_nodeOfPart_58 ?_
            exact j_ireturn hq d2_nodeOfPart_60
        · refine j_goto d2_nodeOfPart_39 ?_
          refine j_iinc (i := 5) (v := 1) (Ly := fun x22 => [(5, .int x22), (0, .ref (cw_a x 8)), (1, .ref (cw_a x (10 + t1))), (2, .int y1), (3, .int y2), (4, .int y3)]) 5 d2_nodeOfPart_94 rfl ejc_1 (Nat.le_of_ble_eq_true rfl) (fun _ => rfl) (fun x22 => ?_)
          refine j_goto d2_nodeOfPart_97 ?_
          exact j_sub [1, 2, 3, 4, 5, 0] rfl (ih y1 y2 y3 x22 s10)
noncomputable def m2_nodeOfPart (n : Nat) (t1 : Nat) (a2 : Int32) (a3 : Int32) (σ : ej_S) : Option (Int32 × ej_S) := (m2_nodeOfPart_6 n t1 n a2 a3 (-1) 0 σ)
set_option maxRecDepth 20000 in
set_option maxHeartbeats 2000000 in
theorem j2_nodeOfPart (x : cw_T) (n : Nat) (t1 : Nat) (ht1 : t1 < 7) (a2 : Int32) (a3 : Int32) (σ : ej_S) {F : ej_F} {r0 : Int32 × ej_S} (hq : ej_fin (cV x) F (some .int) (some (.int r0.1)) r0.2) : ej_J (cV x) F i2_nodeOfPart r0 σ 0 [(0, .ref (cw_a x 8)), (1, .ref (cw_a x (10 + t1))), (2, .int a2), (3, .int a3)] [] (m2_nodeOfPart n t1 a2 a3 σ) := by
  unfold m2_nodeOfPart
  refine j_iconst d2_nodeOfPart_0 ejc_m1 ?_
  refine j_istore (i := 4) (L' := [(4, .int (-1)), (0, .ref (cw_a x 8)), (1, .ref (cw_a x (10 + t1))), (2, .int a2), (3, .int a3)]) d2_nodeOfPart_1 (Nat.le_of_ble_eq_true rfl) rfl ?_
  refine j_iconst d2_nodeOfPart_3 ejc_0 ?_
  refine j_istore (i := 5) (L' := [(5, .int 0), (4, .int (-1)), (0, .ref (cw_a x 8)), (1, .ref (cw_a x (10 + t1))), (2, .int a2), (3, .int a3)]) d2_nodeOfPart_4 (Nat.le_of_ble_eq_true rfl) rfl ?_
  exact j_sub [2, 3, 4, 5, 1, 0] rfl (j2_nodeOfPart_6 x n t1 ht1 hq n a2 a3 (-1) 0 σ)
theorem c2_nodeOfPart (x : cw_T) (n : Nat) (t1 : Nat) (ht1 : t1 < 7) (a2 : Int32) (a3 : Int32) (σ : ej_S) : ∀ r σ1, m2_nodeOfPart n t1 a2 a3 σ = some (r, σ1) → ∀ l, ej_Con l (cV x) i2_nodeOfPart yX2_nodeOfPart (some .int) [.ref (cw_a x 8), .ref (cw_a x (10 + t1)), .int a2, .int a3] σ (some (.int r)) σ1 := fun r σ1 h l => ej_con_of (cV_ok x) pn_X2 rfl (Nat.le_of_ble_eq_true rfl) rfl h (fun F hq => j2_nodeOfPart x n t1 ht1 a2 a3 σ hq)

noncomputable def m2_writeAlong_60 (n : Nat) (t2 : Nat) (y10 : Int32) (y11 : Int32) (σ : ej_S) : Option (ej_S) := ej_bi (m7_length n t2 σ) fun r13 s12 => ej_bv (m7_appendPart n 1 t2 (y10 + 1) r13 s12) fun s14 => ej_bv (m2_writeRight n y11 s14) fun s15 => (some s15)
set_option maxRecDepth 20000 in
set_option maxHeartbeats 2000000 in
theorem j2_writeAlong_60 (x : cw_T) (n : Nat) (t2 : Nat) (ht2 : t2 < 7) {F : ej_F} {r0 : ej_S} (hq : ej_fin (cV x) F none none r0) (y10 : Int32) (y11 : Int32) (σ : ej_S) : ej_J (cV x) F i2_writeAlong r0 σ 60 [(0, .ref (cw_a x 8)), (2, .ref (cw_a x (10 + t2))), (4, .int y10), (6, .int y11)] [] (m2_writeAlong_60 n t2 y10 y11 σ) := by
  unfold m2_writeAlong_60
  refine j_aload_n 0 rfl d2_writeAlong_60 ?_
  refine j_get fl_X2_23 (cV_g_8_3 x σ) d2_writeAlong_61 ?_
  refine j_aload_n 1 rfl d2_writeAlong_64 ?_
  refine j_iload 2 rfl d2_writeAlong_65 ?_
  refine j_iconst d2_writeAlong_67 ejc_1 ?_
  refine j_iadd d2_writeAlong_68 ?_
  refine j_aload_n 1 rfl d2_writeAlong_69 ?_
  refine j_callVi (c7_length x n t2 ht2 σ) lv_X2_48 (cV_rc_t x σ t2 ht2) ⟨Nat.le_of_ble_eq_true rfl, Nat.le_of_ble_eq_true rfl⟩ d2_writeAlong_70 rfl (Nat.le_of_ble_eq_true rfl) (fun r13 s12 => ?_)
  refine j_callVv (c7_appendPart x n 1 (Nat.le_of_ble_eq_true rfl) t2 ht2 (y10 + 1) r13 s12) lv_X2_67 (cV_rc_t x s12 1 (Nat.le_of_ble_eq_true rfl)) ⟨Nat.le_of_ble_eq_true rfl, Nat.le_of_ble_eq_true rfl⟩ d2_writeAlong_73 rfl (Nat.le_of_ble_eq_true rfl) (fun s14 => ?_)
  refine j_aload_n 0 rfl d2_writeAlong_76 ?_
  refine j_iload 3 rfl d2_writeAlong_77 ?_
  refine j_callVv (c2_writeRight x n y11 s14) lv_X2_45 (cV_rc_8 x s14) ⟨Nat.le_of_ble_eq_true rfl, Nat.le_of_ble_eq_true rfl⟩ d2_writeAlong_79 rfl (Nat.le_of_ble_eq_true rfl) (fun s15 => ?_)
  exact j_vreturn hq d2_writeAlong_82
noncomputable def m2_writeAlong_17 (n : Nat) (t2 : Nat) (y3 : Int32) (y4 : Int32) (y5 : Int32) (y6 : Int32) (σ : ej_S) : Option (ej_S) := ej_bi (m9_layOut n y3 σ) fun r8 s7 => ej_bv (m2_writeLeft n r8 s7) fun s9 => (if y6 = 0 then (m2_writeAlong_60 n t2 y5 r8 s9) else ej_bv (m7_appendPart n 1 t2 y4 y5 s9) fun s16 => ej_bv (m7_append n 1 33 s16) fun s17 => (m2_writeAlong_60 n t2 y5 r8 s17))
set_option maxRecDepth 20000 in
set_option maxHeartbeats 2000000 in
theorem j2_writeAlong_17 (x : cw_T) (n : Nat) (t2 : Nat) (ht2 : t2 < 7) {F : ej_F} {r0 : ej_S} (hq : ej_fin (cV x) F none none r0) (y3 : Int32) (y4 : Int32) (y5 : Int32) (y6 : Int32) (σ : ej_S) : ej_J (cV x) F i2_writeAlong r0 σ 17 [(0, .ref (cw_a x 8)), (1, .int y3), (2, .ref (cw_a x (10 + t2))), (3, .int y4), (4, .int y5)] [.int y6] (m2_writeAlong_17 n t2 y3 y4 y5 y6 σ) := by
  unfold m2_writeAlong_17
  refine j_istore (i := 5) (L' := [(5, .int y6), (0, .ref (cw_a x 8)), (1, .int y3), (2, .ref (cw_a x (10 + t2))), (3, .int y4), (4, .int y5)]) d2_writeAlong_17 (Nat.le_of_ble_eq_true rfl) rfl ?_
  refine j_aload_n 1 rfl d2_writeAlong_19 ?_
  refine j_get fl_X2_19 (cV_g_8_2 x σ) d2_writeAlong_20 ?_
  refine j_iload_n 2 rfl d2_writeAlong_23 ?_
  refine j_callVi (c9_layOut x n y3 σ) lv_X2_32 (cV_rc_7 x σ) ⟨Nat.le_of_ble_eq_true rfl, Nat.le_of_ble_eq_true rfl⟩ d2_writeAlong_24 rfl (Nat.le_of_ble_eq_true rfl) (fun r8 s7 => ?_)
  refine j_istore (i := 6) (L' := [(6, .int r8), (5, .int y6), (0, .ref (cw_a x 8)), (1, .int y3), (2, .ref (cw_a x (10 + t2))), (3, .int y4), (4, .int y5)]) d2_writeAlong_27 (Nat.le_of_ble_eq_true rfl) rfl ?_
  refine j_aload_n 2 rfl d2_writeAlong_29 ?_
  refine j_iload 0 rfl d2_writeAlong_30 ?_
  refine j_callVv (c2_writeLeft x n r8 s7) lv_X2_38 (cV_rc_8 x s7) ⟨Nat.le_of_ble_eq_true rfl, Nat.le_of_ble_eq_true rfl⟩ d2_writeAlong_32 rfl (Nat.le_of_ble_eq_true rfl) (fun s9 => ?_)
  refine j_iload 1 rfl d2_writeAlong_35 ?_
  refine j_if_eq d2_writeAlong_37 ?_ ?_
  · exact j_sub [2, 4, 6, 0] rfl (j2_writeAlong_60 x n t2 ht2 hq y5 r8 s9)
  · refine j_aload_n 2 rfl d2_writeAlong_40 ?_
    refine j_get fl_X2_23 (cV_g_8_3 x s9) d2_writeAlong_41 ?_
    refine j_aload_n 4 rfl d2_writeAlong_44 ?_
    refine j_iload_n 5 rfl d2_writeAlong_45 ?_
    refine j_iload 6 rfl d2_writeAlong_46 ?_
    refine j_callVv (c7_appendPart x n 1 (Nat.le_of_ble_eq_true rfl) t2 ht2 y4 y5 s9) lv_X2_67 (cV_rc_t x s9 1 (Nat.le_of_ble_eq_true rfl)) ⟨Nat.le_of_ble_eq_true rfl, Nat.le_of_ble_eq_true rfl⟩ d2_writeAlong_48 rfl (Nat.le_of_ble_eq_true rfl) (fun s16 => ?_)
    refine j_aload_n 2 rfl d2_writeAlong_51 ?_
    refine j_get fl_X2_23 (cV_g_8_3 x s16) d2_writeAlong_52 ?_
    refine j_bipush d2_writeAlong_55 ejb_33 ?_
    refine j_callVv (c7_append x n 1 (Nat.le_of_ble_eq_true rfl) 33 s16) lv_X2_42 (cV_rc_t x s16 1 (Nat.le_of_ble_eq_true rfl)) ⟨Nat.le_of_ble_eq_true rfl, Nat.le_of_ble_eq_true rfl⟩ d2_writeAlong_57 rfl (Nat.le_of_ble_eq_true rfl) (fun s17 => ?_)
    exact j_sub [2, 4, 6, 0] rfl (j2_writeAlong_60 x n t2 ht2 hq y5 r8 s17)
noncomputable def m2_writeAlong (n : Nat) (t2 : Nat) (a1 : Int32) (a3 : Int32) (a4 : Int32) (σ : ej_S) : Option (ej_S) := ej_bi (m2_lengthOfName n a1 σ) fun r2 s1 => (if a4 - a3 ≤ r2 then (m2_writeAlong_17 n t2 a1 a3 a4 0 s1) else (m2_writeAlong_17 n t2 a1 a3 a4 1 s1))
set_option maxRecDepth 20000 in
set_option maxHeartbeats 2000000 in
theorem j2_writeAlong (x : cw_T) (n : Nat) (t2 : Nat) (ht2 : t2 < 7) (a1 : Int32) (a3 : Int32) (a4 : Int32) (σ : ej_S) {F : ej_F} {r0 : ej_S} (hq : ej_fin (cV x) F none none r0) : ej_J (cV x) F i2_writeAlong r0 σ 0 [(0, .ref (cw_a x 8)), (1, .int a1), (2, .ref (cw_a x (10 + t2))), (3, .int a3), (4, .int a4)] [] (m2_writeAlong n t2 a1 a3 a4 σ) := by
  unfold m2_writeAlong
  refine j_iload 4 rfl d2_writeAlong_0 ?_
  refine j_iload_n 3 rfl d2_writeAlong_2 ?_
  refine j_isub d2_writeAlong_3 ?_
  refine j_aload_n 0 rfl d2_writeAlong_4 ?_
  refine j_iload_n 1 rfl d2_writeAlong_5 ?_
  refine j_callVi (c2_lengthOfName x n a1 σ) lv_X2_71 (cV_rc_8 x σ) ⟨Nat.le_of_ble_eq_true rfl, Nat.le_of_ble_eq_true rfl⟩ d2_writeAlong_6 rfl (Nat.le_of_ble_eq_true rfl) (fun r2 s1 => ?_)
  refine j_icmp_le d2_writeAlong_9 ?_ ?_
  · refine j_iconst d2_writeAlong_16 ejc_0 ?_
    exact j_sub [0, 1, 2, 3, 4] rfl (j2_writeAlong_17 x n t2 ht2 hq a1 a3 a4 0 s1)
  · refine j_iconst d2_writeAlong_12 ejc_1 ?_
    refine j_goto d2_writeAlong_13 ?_
    exact j_sub [0, 1, 2, 3, 4] rfl (j2_writeAlong_17 x n t2 ht2 hq a1 a3 a4 1 s1)
theorem c2_writeAlong (x : cw_T) (n : Nat) (t2 : Nat) (ht2 : t2 < 7) (a1 : Int32) (a3 : Int32) (a4 : Int32) (σ : ej_S) : ∀ σ1, m2_writeAlong n t2 a1 a3 a4 σ = some σ1 → ∀ l, ej_Con l (cV x) i2_writeAlong yX2_writeAlong none [.ref (cw_a x 8), .int a1, .ref (cw_a x (10 + t2)), .int a3, .int a4] σ none σ1 := fun σ1 h l => ej_con_of (cV_ok x) pn_X2 rfl (Nat.le_of_ble_eq_true rfl) rfl h (fun F hq => j2_writeAlong x n t2 ht2 a1 a3 a4 σ hq)

noncomputable def m2_writeAddress_14 (n : Nat) (t1 : Nat) (k : Nat) : Int32 → ej_S → Option (ej_S) := Nat.rec (motive := fun _ => Int32 → ej_S → Option (ej_S)) (fun _ _ => none) (fun _ ih y5 σ => (if y5 < 0 then ej_bi (m7_length n t1 σ) fun r7 s6 => ej_bv (m7_appendPart n 1 t1 0 r7 s6) fun s8 => (some s8) else ej_bi (m7_byteAt n t1 y5 σ) fun r10 s9 => (if r10 = 33 then ej_bi (m2_beginOfPart n t1 y5 s9) fun r13 s12 => ej_bi (m2_nodeOfPart n t1 r13 y5 s12) fun r15 s14 => (if r15 = (-1) then ej_nm (y5 + (-1)) fun x16 => (ih x16 s14) else ej_bv (m2_writeAlong n t1 r15 r13 y5 s14) fun s17 => (some s17)) else ej_nm (y5 + (-1)) fun x11 => (ih x11 s9)))) k
theorem m2_writeAddress_14_s (n : Nat) (t1 : Nat) (k : Nat) (y5 : Int32) (σ : ej_S) : m2_writeAddress_14 n t1 (k + 1) y5 σ = ((if y5 < 0 then ej_bi (m7_length n t1 σ) fun r7 s6 => ej_bv (m7_appendPart n 1 t1 0 r7 s6) fun s8 => (some s8) else ej_bi (m7_byteAt n t1 y5 σ) fun r10 s9 => (if r10 = 33 then ej_bi (m2_beginOfPart n t1 y5 s9) fun r13 s12 => ej_bi (m2_nodeOfPart n t1 r13 y5 s12) fun r15 s14 => (if r15 = (-1) then ej_nm (y5 + (-1)) fun x16 => ((m2_writeAddress_14 n t1 k) x16 s14) else ej_bv (m2_writeAlong n t1 r15 r13 y5 s14) fun s17 => (some s17)) else ej_nm (y5 + (-1)) fun x11 => ((m2_writeAddress_14 n t1 k) x11 s9))) : Option (ej_S)) := rfl
set_option maxRecDepth 20000 in
set_option maxHeartbeats 2000000 in
theorem j2_writeAddress_14 (x : cw_T) (n : Nat) (t1 : Nat) (ht1 : t1 < 7) {F : ej_F} {r0 : ej_S} (hq : ej_fin (cV x) F none none r0) : ∀ (k : Nat) (y5 : Int32) (σ : ej_S), ej_J (cV x) F i2_writeAddress r0 σ 14 [(0, .ref (cw_a x 8)), (1, .ref (cw_a x (10 + t1))), (2, .int y5)] [] (m2_writeAddress_14 n t1 k y5 σ) := by
  intro k
  induction k with
  | zero => intro y5 σ; exact j_none
  | succ k ih =>
    intro y5 σ
    rw [m2_writeAddress_14_s]
    refine j_iload_n 2 rfl d2_writeAddress_14 ?_
    refine j_if_lt d2_writeAddress_15 ?_ ?_
    · refine j_aload_n 0 rfl d2_writeAddress_65 ?_
      refine j_get fl_X2_23 (cV_g_8_3 x σ) d2_writeAddress_66 ?_
      refine j_aload_n 1 rfl d2_writeAddress_69 ?_
      refine j_iconst d2_writeAddress_70 ejc_0 ?_
      refine j_aload_n 1 rfl d2_writeAddress_71 ?_
      refine j_callVi (c7_length x n t1 ht1 σ) lv_X2_48 (cV_rc_t x σ t1 ht1) ⟨Nat.le_of_ble_eq_true rfl, Nat.le_of_ble_eq_true rfl⟩ d2_writeAddress_72 rfl (Nat.le_of_ble_eq_true rfl) (fun r7 s6 => ?_)
      refine j_callVv (c7_appendPart x n 1 (Nat.le_of_ble_eq_true rfl) t1 ht1 0 r7 s6) lv_X2_67 (cV_rc_t x s6 1 (Nat.le_of_ble_eq_true rfl)) ⟨Nat.le_of_ble_eq_true rfl, Nat.le_of_ble_eq_true rfl⟩ d2_writeAddress_75 rfl (Nat.le_of_ble_eq_true rfl) (fun s8 => ?_)
      exact j_vreturn hq d2_writeAddress_78
    · refine j_aload_n 1 rfl d2_writeAddress_18 ?_
      refine j_iload_n 2 rfl d2_writeAddress_19 ?_
      refine j_callVi (c7_byteAt x n t1 ht1 y5 σ) lv_X2_52 (cV_rc_t x σ t1 ht1) ⟨Nat.le_of_ble_eq_true rfl, Nat.le_of_ble_eq_true rfl⟩ d2_writeAddress_20 rfl (Nat.le_of_ble_eq_true rfl) (fun r10 s9 => ?_)
      refine j_bipush d2_writeAddress_23 ejb_33 ?_
      refine j_icmp_ne d2_writeAddress_25 ?_ ?_
      · refine j_iinc (i := 2) (v := (-1)) (Ly := fun x11 => [(2, .int x11), (0, .ref (cw_a x 8)), (1, .ref (cw_a x (10 + t1)))]) 2 d2_writeAddress_59 rfl ejc_m1 (Nat.le_of_ble_eq_true rfl) (fun _ => rfl) (fun x11 => ?_)
        refine j_goto d2_writeAddress_62 ?_
        exact j_sub [1, 2, 0] rfl (ih x11 s9)
      · refine j_aload_n 1 rfl d2_writeAddress_28 ?_
        refine j_iload_n 2 rfl d2_writeAddress_29 ?_
        refine j_callSi (c2_beginOfPart x n t1 ht1 y5 s9) ls_X2_55 ⟨Nat.le_of_ble_eq_true rfl, Nat.le_of_ble_eq_true rfl⟩ d2_writeAddress_30 rfl (Nat.le_of_ble_eq_true rfl) (fun r13 s12 => ?_)
        refine j_istore_n (i := 3) (L' := [(3, .int r13), (0, .ref (cw_a x 8)), (1, .ref (cw_a x (10 + t1))), (2, .int y5)]) d2_writeAddress_33 rfl (Nat.le_of_ble_eq_true rfl) rfl ?_
        refine j_aload_n 1 rfl d2_writeAddress_34 ?_
        refine j_aload_n 2 rfl d2_writeAddress_35 ?_
        refine j_iload_n 0 rfl d2_writeAddress_36 ?_
        refine j_iload_n 3 rfl d2_writeAddress_37 ?_
        refine j_callVi (c2_nodeOfPart x n t1 ht1 r13 y5 s12) lv_X2_59 (cV_rc_8 x s12) ⟨Nat.le_of_ble_eq_true rfl, Nat.le_of_ble_eq_true rfl⟩ d2_writeAddress_38 rfl (Nat.le_of_ble_eq_true rfl) (fun r15 s14 => ?_)
        refine j_istore (i := 4) (L' := [(4, .int r15), (3, .int r13), (0, .ref (cw_a x 8)), (1, .ref (cw_a x (10 + t1))), (2, .int y5)]) d2_writeAddress_41 (Nat.le_of_ble_eq_true rfl) rfl ?_
        refine j_iload 0 rfl d2_writeAddress_43 ?_
        refine j_iconst d2_writeAddress_45 ejc_m1 ?_
        refine j_icmp_eq d2_writeAddress_46 ?_ ?_
        · refine j_iinc (i := 2) (v := (-1)) (Ly := fun x16 => [(2, .int x16), (4, .int r15), (3, .int r13), (0, .ref (cw_a x 8)), (1, .ref (cw_a x (10 + t1)))]) 4 d2_writeAddress_59 rfl ejc_m1 (Nat.le_of_ble_eq_true rfl) (fun _ => rfl) (fun x16 => ?_)
          refine j_goto d2_writeAddress_62 ?_
          exact j_sub [3, 4, 0] rfl (ih x16 s14)
        · refine j_aload_n 2 rfl d2_writeAddress_49 ?_
          refine j_iload 0 rfl d2_writeAddress_50 ?_
          refine j_aload_n 3 rfl d2_writeAddress_52 ?_
          refine j_iload_n 1 rfl d2_writeAddress_53 ?_
          refine j_iload_n 4 rfl d2_writeAddress_54 ?_
          refine j_callVv (c2_writeAlong x n t1 ht1 r15 r13 y5 s14) lv_X2_63 (cV_rc_8 x s14) ⟨Nat.le_of_ble_eq_true rfl, Nat.le_of_ble_eq_true rfl⟩ d2_writeAddress_55 rfl (Nat.le_of_ble_eq_true rfl) (fun s17 => ?_)
          exact j_vreturn hq d2_writeAddress_58
noncomputable def m2_writeAddress (n : Nat) (t1 : Nat)  (σ : ej_S) : Option (ej_S) := ej_bv (m7_clear n 1 σ) fun s1 => ej_bi (m7_length n t1 s1) fun r3 s2 => ej_nm (r3 - 1) fun x4 => (m2_writeAddress_14 n t1 n x4 s2)
set_option maxRecDepth 20000 in
set_option maxHeartbeats 2000000 in
theorem j2_writeAddress (x : cw_T) (n : Nat) (t1 : Nat) (ht1 : t1 < 7)  (σ : ej_S) {F : ej_F} {r0 : ej_S} (hq : ej_fin (cV x) F none none r0) : ej_J (cV x) F i2_writeAddress r0 σ 0 [(0, .ref (cw_a x 8)), (1, .ref (cw_a x (10 + t1)))] [] (m2_writeAddress n t1  σ) := by
  unfold m2_writeAddress
  refine j_aload_n 0 rfl d2_writeAddress_0 ?_
  refine j_get fl_X2_23 (cV_g_8_3 x σ) d2_writeAddress_1 ?_
  refine j_callVv (c7_clear x n 1 (Nat.le_of_ble_eq_true rfl) σ) lv_X2_27 (cV_rc_t x σ 1 (Nat.le_of_ble_eq_true rfl)) ⟨Nat.le_of_ble_eq_true rfl, Nat.le_of_ble_eq_true rfl⟩ d2_writeAddress_4 rfl (Nat.le_of_ble_eq_true rfl) (fun s1 => ?_)
  refine j_aload_n 1 rfl d2_writeAddress_7 ?_
  refine j_callVi (c7_length x n t1 ht1 s1) lv_X2_48 (cV_rc_t x s1 t1 ht1) ⟨Nat.le_of_ble_eq_true rfl, Nat.le_of_ble_eq_true rfl⟩ d2_writeAddress_8 rfl (Nat.le_of_ble_eq_true rfl) (fun r3 s2 => ?_)
  refine j_iconst d2_writeAddress_11 ejc_1 ?_
  refine j_isub d2_writeAddress_12 ?_
  refine j_nmi (fun x4 => ?_)
  refine j_istore_n (i := 2) (L' := [(2, .int x4), (0, .ref (cw_a x 8)), (1, .ref (cw_a x (10 + t1)))]) d2_writeAddress_13 rfl (Nat.le_of_ble_eq_true rfl) rfl ?_
  exact j_sub [1, 2, 0] rfl (j2_writeAddress_14 x n t1 ht1 hq n x4 s2)
theorem c2_writeAddress (x : cw_T) (n : Nat) (t1 : Nat) (ht1 : t1 < 7)  (σ : ej_S) : ∀ σ1, m2_writeAddress n t1  σ = some σ1 → ∀ l, ej_Con l (cV x) i2_writeAddress yX2_writeAddress none [.ref (cw_a x 8), .ref (cw_a x (10 + t1))] σ none σ1 := fun σ1 h l => ej_con_of (cV_ok x) pn_X2 rfl (Nat.le_of_ble_eq_true rfl) rfl h (fun F hq => j2_writeAddress x n t1 ht1  σ hq)

