noncomputable def m11_rebuilds_109 (n : Nat) (k : Nat) : Int32 → ej_S → Option (ej_S) := Nat.rec (motive := fun _ => Int32 → ej_S → Option (ej_S)) (fun _ _ => none) (fun _ ih y6 σ => (if 4 ≤ y6 then ej_nm (uI σ 6 0) fun s7 => ej_bv (m11_solves n s7) fun s8 => (some s8) else ej_nm (uI σ 7 y6) fun s9 => ej_bi (m11_isRead n y6 s9) fun r11 s10 => ej_ck y6 4 (ej_nm (uA s10 2 (y6.toNatClampNeg) (gI s10 8)) fun s12 => ej_nm (y6 + 1) fun x13 => (ih x13 s12)))) k
theorem m11_rebuilds_109_s (n : Nat) (k : Nat) (y6 : Int32) (σ : ej_S) : m11_rebuilds_109 n (k + 1) y6 σ = ((if 4 ≤ y6 then ej_nm (uI σ 6 0) fun s7 => ej_bv (m11_solves n s7) fun s8 => (some s8) else ej_nm (uI σ 7 y6) fun s9 => ej_bi (m11_isRead n y6 s9) fun r11 s10 => ej_ck y6 4 (ej_nm (uA s10 2 (y6.toNatClampNeg) (gI s10 8)) fun s12 => ej_nm (y6 + 1) fun x13 => ((m11_rebuilds_109 n k) x13 s12))) : Option (ej_S)) := rfl
set_option maxRecDepth 20000 in
set_option maxHeartbeats 2000000 in
theorem j11_rebuilds_109 (x : cw_T) (n : Nat) {F : ej_F} {r0 : ej_S} (hq : ej_fin (rV x) F none none r0) : ∀ (k : Nat) (y6 : Int32) (σ : ej_S), ej_J (rV x) F i11_rebuilds r0 σ 109 [(0, .ref (cw_a x 200)), (1, .int y6)] [] (m11_rebuilds_109 n k y6 σ) := by
  intro k
  induction k with
  | zero => intro y6 σ; exact j_none
  | succ k ih =>
    intro y6 σ
    rw [m11_rebuilds_109_s]
    refine j_iload_n 1 rfl d11_rebuilds_109 ?_
    refine j_iconst d11_rebuilds_110 ejc_4 ?_
    refine j_icmp_ge d11_rebuilds_111 ?_ ?_
    · refine j_aload_n 0 rfl d11_rebuilds_141 ?_
      refine j_iconst d11_rebuilds_142 ejc_0 ?_
      refine j_put fl_X11_237 (rV_p_200_13 x σ 0) rfl rfl d11_rebuilds_143 (fun s7 => ?_)
      refine j_aload_n 0 rfl d11_rebuilds_146 ?_
      refine j_callVv (c11_solves x n s7) lv_X11_291 (rV_rc_200 x s7) ⟨Nat.le_of_ble_eq_true rfl, Nat.le_of_ble_eq_true rfl⟩ d11_rebuilds_147 rfl (Nat.le_of_ble_eq_true rfl) (fun s8 => ?_)
      exact j_vreturn hq d11_rebuilds_150
    · refine j_aload_n 0 rfl d11_rebuilds_114 ?_
      refine j_iload_n 1 rfl d11_rebuilds_115 ?_
      refine j_put fl_X11_278 (rV_p_200_14 x σ y6) rfl rfl d11_rebuilds_116 (fun s9 => ?_)
      refine j_aload_n 0 rfl d11_rebuilds_119 ?_
      refine j_iload_n 1 rfl d11_rebuilds_120 ?_
      refine j_callVi (c11_isRead x n y6 s9) lv_X11_288 (rV_rc_200 x s9) ⟨Nat.le_of_ble_eq_true rfl, Nat.le_of_ble_eq_true rfl⟩ d11_rebuilds_121 rfl (Nat.le_of_ble_eq_true rfl) (fun r11 s10 => ?_)
      refine j_pop d11_rebuilds_124 rfl ?_
      refine j_aload_n 0 rfl d11_rebuilds_125 ?_
      refine j_get fl_X11_16 (rV_g_200_2 x s10) d11_rebuilds_126 ?_
      refine j_iload_n 1 rfl d11_rebuilds_129 ?_
      refine j_aload_n 0 rfl d11_rebuilds_130 ?_
      refine j_get fl_X11_266 (rV_g_200_15 x s10) d11_rebuilds_131 ?_
      refine j_iast (rV_s_203 x s10 (y6.toNatClampNeg) (gI s10 8)) d11_rebuilds_134 (fun s12 => ?_)
      refine j_iinc (i := 1) (v := 1) (Ly := fun x13 => [(1, .int x13), (0, .ref (cw_a x 200))]) 1 d11_rebuilds_135 rfl ejc_1 (Nat.le_of_ble_eq_true rfl) (fun _ => rfl) (fun x13 => ?_)
      refine j_goto d11_rebuilds_138 ?_
      exact j_sub [1, 0] rfl (ih x13 s12)
noncomputable def m11_rebuilds_62 (n : Nat) (k : Nat) : Int32 → ej_S → Option (ej_S) := Nat.rec (motive := fun _ => Int32 → ej_S → Option (ej_S)) (fun _ _ => none) (fun _ ih y4 σ => (if 24 ≤ y4 then ej_nm (uI σ 6 1) fun s5 => (m11_rebuilds_109 n n 0 s5) else ej_ck y4 24 (ej_nm (uA σ 12 (y4.toNatClampNeg) (ej_bz 0)) fun s14 => ej_ck y4 24 (ej_nm (uA s14 13 (y4.toNatClampNeg) (ej_bz 0)) fun s15 => ej_ck y4 24 (ej_nm (uA s15 14 (y4.toNatClampNeg) (ej_bz 0)) fun s16 => ej_ck y4 24 (ej_nm (uA s16 15 (y4.toNatClampNeg) (ej_bz 0)) fun s17 => ej_nm (y4 + 1) fun x18 => (ih x18 s17))))))) k
theorem m11_rebuilds_62_s (n : Nat) (k : Nat) (y4 : Int32) (σ : ej_S) : m11_rebuilds_62 n (k + 1) y4 σ = ((if 24 ≤ y4 then ej_nm (uI σ 6 1) fun s5 => (m11_rebuilds_109 n n 0 s5) else ej_ck y4 24 (ej_nm (uA σ 12 (y4.toNatClampNeg) (ej_bz 0)) fun s14 => ej_ck y4 24 (ej_nm (uA s14 13 (y4.toNatClampNeg) (ej_bz 0)) fun s15 => ej_ck y4 24 (ej_nm (uA s15 14 (y4.toNatClampNeg) (ej_bz 0)) fun s16 => ej_ck y4 24 (ej_nm (uA s16 15 (y4.toNatClampNeg) (ej_bz 0)) fun s17 => ej_nm (y4 + 1) fun x18 => ((m11_rebuilds_62 n k) x18 s17)))))) : Option (ej_S)) := rfl
set_option maxRecDepth 20000 in
set_option maxHeartbeats 2000000 in
theorem j11_rebuilds_62 (x : cw_T) (n : Nat) {F : ej_F} {r0 : ej_S} (hq : ej_fin (rV x) F none none r0) : ∀ (k : Nat) (y4 : Int32) (σ : ej_S), ej_J (rV x) F i11_rebuilds r0 σ 62 [(0, .ref (cw_a x 200)), (1, .int y4)] [] (m11_rebuilds_62 n k y4 σ) := by
  intro k
  induction k with
  | zero => intro y4 σ; exact j_none
  | succ k ih =>
    intro y4 σ
    rw [m11_rebuilds_62_s]
    refine j_iload_n 1 rfl d11_rebuilds_62 ?_
    refine j_bipush d11_rebuilds_63 ejb_24 ?_
    refine j_icmp_ge d11_rebuilds_65 ?_ ?_
    · refine j_aload_n 0 rfl d11_rebuilds_102 ?_
      refine j_iconst d11_rebuilds_103 ejc_1 ?_
      refine j_put fl_X11_237 (rV_p_200_13 x σ 1) rfl rfl d11_rebuilds_104 (fun s5 => ?_)
      refine j_iconst d11_rebuilds_107 ejc_0 ?_
      refine j_istore_n (i := 1) (L' := [(1, .int 0), (0, .ref (cw_a x 200))]) d11_rebuilds_108 rfl (Nat.le_of_ble_eq_true rfl) rfl ?_
      exact j_sub [1, 0] rfl (j11_rebuilds_109 x n hq n 0 s5)
    · refine j_aload_n 0 rfl d11_rebuilds_68 ?_
      refine j_get fl_X11_53 (rV_g_200_32 x σ) d11_rebuilds_69 ?_
      refine j_iload_n 1 rfl d11_rebuilds_72 ?_
      refine j_iconst d11_rebuilds_73 ejc_0 ?_
      refine j_zast (rV_s_215 x σ (y4.toNatClampNeg) (ej_bz 0)) d11_rebuilds_74 (fun s14 => ?_)
      refine j_aload_n 0 rfl d11_rebuilds_75 ?_
      refine j_get fl_X11_57 (rV_g_200_33 x s14) d11_rebuilds_76 ?_
      refine j_iload_n 1 rfl d11_rebuilds_79 ?_
      refine j_iconst d11_rebuilds_80 ejc_0 ?_
      refine j_zast (rV_s_216 x s14 (y4.toNatClampNeg) (ej_bz 0)) d11_rebuilds_81 (fun s15 => ?_)
      refine j_aload_n 0 rfl d11_rebuilds_82 ?_
      refine j_get fl_X11_60 (rV_g_200_34 x s15) d11_rebuilds_83 ?_
      refine j_iload_n 1 rfl d11_rebuilds_86 ?_
      refine j_iconst d11_rebuilds_87 ejc_0 ?_
      refine j_zast (rV_s_217 x s15 (y4.toNatClampNeg) (ej_bz 0)) d11_rebuilds_88 (fun s16 => ?_)
      refine j_aload_n 0 rfl d11_rebuilds_89 ?_
      refine j_get fl_X11_63 (rV_g_200_35 x s16) d11_rebuilds_90 ?_
      refine j_iload_n 1 rfl d11_rebuilds_93 ?_
      refine j_iconst d11_rebuilds_94 ejc_0 ?_
      refine j_zast (rV_s_218 x s16 (y4.toNatClampNeg) (ej_bz 0)) d11_rebuilds_95 (fun s17 => ?_)
      refine j_iinc (i := 1) (v := 1) (Ly := fun x18 => [(1, .int x18), (0, .ref (cw_a x 200))]) 1 d11_rebuilds_96 rfl ejc_1 (Nat.le_of_ble_eq_true rfl) (fun _ => rfl) (fun x18 => ?_)
      refine j_goto d11_rebuilds_99 ?_
      exact j_sub [1, 0] rfl (ih x18 s17)
noncomputable def m11_rebuilds_12 (n : Nat) (k : Nat) : Int32 → ej_S → Option (ej_S) := Nat.rec (motive := fun _ => Int32 → ej_S → Option (ej_S)) (fun _ _ => none) (fun _ ih y3 σ => (if 576 ≤ y3 then (m11_rebuilds_62 n n 0 σ) else ej_ck y3 576 (ej_nm (uA σ 16 (y3.toNatClampNeg) (-1)) fun s19 => ej_ck y3 576 (ej_nm (uA s19 17 (y3.toNatClampNeg) (ej_bz 0)) fun s20 => ej_ck y3 576 (ej_nm (uA s20 18 (y3.toNatClampNeg) (ej_bz 0)) fun s21 => ej_ck y3 576 (ej_nm (uA s21 19 (y3.toNatClampNeg) (ej_bz 0)) fun s22 => ej_ck y3 576 (ej_nm (uA s22 20 (y3.toNatClampNeg) (-1)) fun s23 => ej_nm (y3 + 1) fun x24 => (ih x24 s23)))))))) k
theorem m11_rebuilds_12_s (n : Nat) (k : Nat) (y3 : Int32) (σ : ej_S) : m11_rebuilds_12 n (k + 1) y3 σ = ((if 576 ≤ y3 then (m11_rebuilds_62 n n 0 σ) else ej_ck y3 576 (ej_nm (uA σ 16 (y3.toNatClampNeg) (-1)) fun s19 => ej_ck y3 576 (ej_nm (uA s19 17 (y3.toNatClampNeg) (ej_bz 0)) fun s20 => ej_ck y3 576 (ej_nm (uA s20 18 (y3.toNatClampNeg) (ej_bz 0)) fun s21 => ej_ck y3 576 (ej_nm (uA s21 19 (y3.toNatClampNeg) (ej_bz 0)) fun s22 => ej_ck y3 576 (ej_nm (uA s22 20 (y3.toNatClampNeg) (-1)) fun s23 => ej_nm (y3 + 1) fun x24 => ((m11_rebuilds_12 n k) x24 s23))))))) : Option (ej_S)) := rfl
set_option maxRecDepth 20000 in
set_option maxHeartbeats 2000000 in
theorem j11_rebuilds_12 (x : cw_T) (n : Nat) {F : ej_F} {r0 : ej_S} (hq : ej_fin (rV x) F none none r0) : ∀ (k : Nat) (y3 : Int32) (σ : ej_S), ej_J (rV x) F i11_rebuilds r0 σ 12 [(0, .ref (cw_a x 200)), (1, .int y3)] [] (m11_rebuilds_12 n k y3 σ) := by
  intro k
  induction k with
  | zero => intro y3 σ; exact j_none
  | succ k ih =>
    intro y3 σ
    rw [m11_rebuilds_12_s]
    refine j_iload_n 1 rfl d11_rebuilds_12 ?_
    refine j_sipush d11_rebuilds_13 ejs_576 ?_
    refine j_icmp_ge d11_rebuilds_16 ?_ ?_
    · refine j_iconst d11_rebuilds_60 ejc_0 ?_
      refine j_istore_n (i := 1) (L' := [(1, .int 0), (0, .ref (cw_a x 200))]) d11_rebuilds_61 rfl (Nat.le_of_ble_eq_true rfl) rfl ?_
      exact j_sub [1, 0] rfl (j11_rebuilds_62 x n hq n 0 σ)
    · refine j_aload_n 0 rfl d11_rebuilds_19 ?_
      refine j_get fl_X11_66 (rV_g_200_36 x σ) d11_rebuilds_20 ?_
      refine j_iload_n 1 rfl d11_rebuilds_23 ?_
      refine j_iconst d11_rebuilds_24 ejc_m1 ?_
      refine j_iast (rV_s_219 x σ (y3.toNatClampNeg) (-1)) d11_rebuilds_25 (fun s19 => ?_)
      refine j_aload_n 0 rfl d11_rebuilds_26 ?_
      refine j_get fl_X11_69 (rV_g_200_37 x s19) d11_rebuilds_27 ?_
      refine j_iload_n 1 rfl d11_rebuilds_30 ?_
      refine j_iconst d11_rebuilds_31 ejc_0 ?_
      refine j_zast (rV_s_220 x s19 (y3.toNatClampNeg) (ej_bz 0)) d11_rebuilds_32 (fun s20 => ?_)
      refine j_aload_n 0 rfl d11_rebuilds_33 ?_
      refine j_get fl_X11_72 (rV_g_200_38 x s20) d11_rebuilds_34 ?_
      refine j_iload_n 1 rfl d11_rebuilds_37 ?_
      refine j_iconst d11_rebuilds_38 ejc_0 ?_
      refine j_zast (rV_s_221 x s20 (y3.toNatClampNeg) (ej_bz 0)) d11_rebuilds_39 (fun s21 => ?_)
      refine j_aload_n 0 rfl d11_rebuilds_40 ?_
      refine j_get fl_X11_75 (rV_g_200_39 x s21) d11_rebuilds_41 ?_
      refine j_iload_n 1 rfl d11_rebuilds_44 ?_
      refine j_iconst d11_rebuilds_45 ejc_0 ?_
      refine j_zast (rV_s_222 x s21 (y3.toNatClampNeg) (ej_bz 0)) d11_rebuilds_46 (fun s22 => ?_)
      refine j_aload_n 0 rfl d11_rebuilds_47 ?_
      refine j_get fl_X11_78 (rV_g_200_40 x s22) d11_rebuilds_48 ?_
      refine j_iload_n 1 rfl d11_rebuilds_51 ?_
      refine j_iconst d11_rebuilds_52 ejc_m1 ?_
      refine j_iast (rV_s_223 x s22 (y3.toNatClampNeg) (-1)) d11_rebuilds_53 (fun s23 => ?_)
      refine j_iinc (i := 1) (v := 1) (Ly := fun x24 => [(1, .int x24), (0, .ref (cw_a x 200))]) 1 d11_rebuilds_54 rfl ejc_1 (Nat.le_of_ble_eq_true rfl) (fun _ => rfl) (fun x24 => ?_)
      refine j_goto d11_rebuilds_57 ?_
      exact j_sub [1, 0] rfl (ih x24 s23)
noncomputable def m11_rebuilds (n : Nat)  (σ : ej_S) : Option (ej_S) := ej_nm (uI σ 15 0) fun s1 => ej_nm (uI s1 16 0) fun s2 => (m11_rebuilds_12 n n 0 s2)
set_option maxRecDepth 20000 in
set_option maxHeartbeats 2000000 in
theorem j11_rebuilds (x : cw_T) (n : Nat)  (σ : ej_S) {F : ej_F} {r0 : ej_S} (hq : ej_fin (rV x) F none none r0) : ej_J (rV x) F i11_rebuilds r0 σ 0 [(0, .ref (cw_a x 200))] [] (m11_rebuilds n  σ) := by
  unfold m11_rebuilds
  refine j_aload_n 0 rfl d11_rebuilds_0 ?_
  refine j_iconst d11_rebuilds_1 ejc_0 ?_
  refine j_put fl_X11_272 (rV_p_200_28 x σ 0) rfl rfl d11_rebuilds_2 (fun s1 => ?_)
  refine j_aload_n 0 rfl d11_rebuilds_5 ?_
  refine j_iconst d11_rebuilds_6 ejc_0 ?_
  refine j_put fl_X11_275 (rV_p_200_29 x s1 0) rfl rfl d11_rebuilds_7 (fun s2 => ?_)
  refine j_iconst d11_rebuilds_10 ejc_0 ?_
  refine j_istore_n (i := 1) (L' := [(1, .int 0), (0, .ref (cw_a x 200))]) d11_rebuilds_11 rfl (Nat.le_of_ble_eq_true rfl) rfl ?_
  exact j_sub [1, 0] rfl (j11_rebuilds_12 x n hq n 0 s2)
theorem c11_rebuilds (x : cw_T) (n : Nat)  (σ : ej_S) : ∀ σ1, m11_rebuilds n  σ = some σ1 → ∀ l, ej_Con l (rV x) i11_rebuilds yX11_rebuilds none [.ref (cw_a x 200)] σ none σ1 := fun σ1 h l => ej_con_of (rV_ok x) pn_X11 rfl (Nat.le_of_ble_eq_true rfl) rfl h (fun F hq => j11_rebuilds x n  σ hq)

noncomputable def m11_wayOf_80 (n : Nat) (f6 : Int32 → Int32 → Int32 → ej_S → Option (Int32 × ej_S)) (y5 : Int32) (y6 : Int32) (y7 : Int32) (y8 : Int32) (σ : ej_S) : Option (Int32 × ej_S) := (if y8 = 0 then ej_nm (y7 + 1) fun x9 => (f6 y5 y6 x9 σ) else ej_nm (y7 + 1) fun x10 => (f6 y5 y7 x10 σ))
set_option maxRecDepth 20000 in
set_option maxHeartbeats 2000000 in
theorem j11_wayOf_80 (x : cw_T) (n : Nat) {F : ej_F} {r0 : Int32 × ej_S} (hq : ej_fin (rV x) F (some .int) (some (.int r0.1)) r0.2) (f6 : Int32 → Int32 → Int32 → ej_S → Option (Int32 × ej_S)) (H6 : ∀ (y2 : Int32) (y3 : Int32) (y4 : Int32) (σ : ej_S), ej_J (rV x) F i11_wayOf r0 σ 6 [(0, .ref (cw_a x 200)), (1, .int y2), (2, .int y3), (3, .int y4)] [] (f6 y2 y3 y4 σ)) (y5 : Int32) (y6 : Int32) (y7 : Int32) (y8 : Int32) (σ : ej_S) : ej_J (rV x) F i11_wayOf r0 σ 80 [(0, .ref (cw_a x 200)), (1, .int y5), (2, .int y6), (3, .int y7)] [.int y8] (m11_wayOf_80 n f6 y5 y6 y7 y8 σ) := by
  unfold m11_wayOf_80
  refine j_istore (i := 4) (L' := [(4, .int y8), (0, .ref (cw_a x 200)), (1, .int y5), (2, .int y6), (3, .int y7)]) d11_wayOf_80 (Nat.le_of_ble_eq_true rfl) rfl ?_
  refine j_iload 0 rfl d11_wayOf_82 ?_
  refine j_if_eq d11_wayOf_84 ?_ ?_
  · refine j_iload_n 3 rfl d11_wayOf_91 ?_
    refine j_istore_n (i := 2) (L' := [(2, .int y6), (4, .int y8), (0, .ref (cw_a x 200)), (1, .int y5), (3, .int y7)]) d11_wayOf_92 rfl (Nat.le_of_ble_eq_true rfl) rfl ?_
    refine j_iinc (i := 3) (v := 1) (Ly := fun x9 => [(3, .int x9), (2, .int y6), (4, .int y8), (0, .ref (cw_a x 200)), (1, .int y5)]) 4 d11_wayOf_93 rfl ejc_1 (Nat.le_of_ble_eq_true rfl) (fun _ => rfl) (fun x9 => ?_)
    refine j_goto d11_wayOf_96 ?_
    exact j_sub [3, 4, 1, 0] rfl (H6 y5 y6 x9 σ)
  · refine j_iload_n 4 rfl d11_wayOf_87 ?_
    refine j_goto d11_wayOf_88 ?_
    refine j_istore_n (i := 2) (L' := [(2, .int y7), (4, .int y8), (0, .ref (cw_a x 200)), (1, .int y5), (3, .int y7)]) d11_wayOf_92 rfl (Nat.le_of_ble_eq_true rfl) rfl ?_
    refine j_iinc (i := 3) (v := 1) (Ly := fun x10 => [(3, .int x10), (2, .int y7), (4, .int y8), (0, .ref (cw_a x 200)), (1, .int y5)]) 4 d11_wayOf_93 rfl ejc_1 (Nat.le_of_ble_eq_true rfl) (fun _ => rfl) (fun x10 => ?_)
    refine j_goto d11_wayOf_96 ?_
    exact j_sub [3, 4, 1, 0] rfl (H6 y5 y7 x10 σ)
noncomputable def m11_wayOf_6 (n : Nat) (k : Nat) : Int32 → Int32 → Int32 → ej_S → Option (Int32 × ej_S) := Nat.rec (motive := fun _ => Int32 → Int32 → Int32 → ej_S → Option (Int32 × ej_S)) (fun _ _ _ _ => none) (fun _ ih y2 y3 y4 σ => (if (4 * y2) + 4 ≤ y4 then (some (y3, σ)) else ej_ck y4 96 ((if gA σ 23 y4.toNatClampNeg = (-1) then (m11_wayOf_80 n ih y2 y3 y4 0 σ) else (if y3 = (-1) then (m11_wayOf_80 n ih y2 y3 y4 1 σ) else ej_ck y4 96 (ej_ck y3 96 ((if gA σ 23 y4.toNatClampNeg < gA σ 23 y3.toNatClampNeg then (m11_wayOf_80 n ih y2 y3 y4 1 σ) else ej_ck y4 96 (ej_ck y3 96 ((if gA σ 23 y4.toNatClampNeg = gA σ 23 y3.toNatClampNeg then ej_ck y4 96 (ej_ck y3 96 ((if gA σ 24 y3.toNatClampNeg ≤ gA σ 24 y4.toNatClampNeg then (m11_wayOf_80 n ih y2 y3 y4 0 σ) else (m11_wayOf_80 n ih y2 y3 y4 1 σ)))) else (m11_wayOf_80 n ih y2 y3 y4 0 σ)))))))))))) k
theorem m11_wayOf_6_s (n : Nat) (k : Nat) (y2 : Int32) (y3 : Int32) (y4 : Int32) (σ : ej_S) : m11_wayOf_6 n (k + 1) y2 y3 y4 σ = ((if (4 * y2) + 4 ≤ y4 then (some (y3, σ)) else ej_ck y4 96 ((if gA σ 23 y4.toNatClampNeg = (-1) then (m11_wayOf_80 n (m11_wayOf_6 n k) y2 y3 y4 0 σ) else (if y3 = (-1) then (m11_wayOf_80 n (m11_wayOf_6 n k) y2 y3 y4 1 σ) else ej_ck y4 96 (ej_ck y3 96 ((if gA σ 23 y4.toNatClampNeg < gA σ 23 y3.toNatClampNeg then (m11_wayOf_80 n (m11_wayOf_6 n k) y2 y3 y4 1 σ) else ej_ck y4 96 (ej_ck y3 96 ((if gA σ 23 y4.toNatClampNeg = gA σ 23 y3.toNatClampNeg then ej_ck y4 96 (ej_ck y3 96 ((if gA σ 24 y3.toNatClampNeg ≤ gA σ 24 y4.toNatClampNeg then (m11_wayOf_80 n (m11_wayOf_6 n k) y2 y3 y4 0 σ) else (m11_wayOf_80 n (m11_wayOf_6 n k) y2 y3 y4 1 σ)))) else (m11_wayOf_80 n (m11_wayOf_6 n k) y2 y3 y4 0 σ))))))))))) : Option (Int32 × ej_S)) := rfl
set_option maxRecDepth 20000 in
set_option maxHeartbeats 2000000 in
theorem j11_wayOf_6 (x : cw_T) (n : Nat) {F : ej_F} {r0 : Int32 × ej_S} (hq : ej_fin (rV x) F (some .int) (some (.int r0.1)) r0.2) : ∀ (k : Nat) (y2 : Int32) (y3 : Int32) (y4 : Int32) (σ : ej_S), ej_J (rV x) F i11_wayOf r0 σ 6 [(0, .ref (cw_a x 200)), (1, .int y2), (2, .int y3), (3, .int y4)] [] (m11_wayOf_6 n k y2 y3 y4 σ) := by
  intro k
  induction k with
  | zero => intro y2 y3 y4 σ; exact j_none
  | succ k ih =>
    intro y2 y3 y4 σ
    rw [m11_wayOf_6_s]
    refine j_iload_n 3 rfl d11_wayOf_6 ?_
    refine j_iconst d11_wayOf_7 ejc_4 ?_
    refine j_iload_n 1 rfl d11_wayOf_8 ?_
    refine j_imul d11_wayOf_9 ?_
    refine j_iconst d11_wayOf_10 ejc_4 ?_
    refine j_iadd d11_wayOf_11 ?_
    refine j_icmp_ge d11_wayOf_12 ?_ ?_
    · refine j_iload_n 2 rfl d11_wayOf_99 ?_
      exact j_ireturn hq d11_wayOf_100
    · refine j_aload_n 0 rfl d11_wayOf_15 ?_
      refine j_get fl_X11_87 (rV_g_200_44 x σ) d11_wayOf_16 ?_
      refine j_iload_n 3 rfl d11_wayOf_19 ?_
      refine j_iald (rV_a_226 x σ) d11_wayOf_20 ?_
      refine j_iconst d11_wayOf_21 ejc_m1 ?_
      refine j_icmp_eq d11_wayOf_22 ?_ ?_
      · refine j_iconst d11_wayOf_79 ejc_0 ?_
        exact j_sub [0, 1, 2, 3] rfl (j11_wayOf_80 x n hq (m11_wayOf_6 n k) ih y2 y3 y4 0 σ)
      · refine j_iload_n 2 rfl d11_wayOf_25 ?_
        refine j_iconst d11_wayOf_26 ejc_m1 ?_
        refine j_icmp_eq d11_wayOf_27 ?_ ?_
        · refine j_iconst d11_wayOf_75 ejc_1 ?_
          refine j_goto d11_wayOf_76 ?_
          exact j_sub [0, 1, 2, 3] rfl (j11_wayOf_80 x n hq (m11_wayOf_6 n k) ih y2 y3 y4 1 σ)
        · refine j_aload_n 0 rfl d11_wayOf_30 ?_
          refine j_get fl_X11_87 (rV_g_200_44 x σ) d11_wayOf_31 ?_
          refine j_iload_n 3 rfl d11_wayOf_34 ?_
          refine j_iald (rV_a_226 x σ) d11_wayOf_35 ?_
          refine j_aload_n 0 rfl d11_wayOf_36 ?_
          refine j_get fl_X11_87 (rV_g_200_44 x σ) d11_wayOf_37 ?_
          refine j_iload_n 2 rfl d11_wayOf_40 ?_
          refine j_iald (rV_a_226 x σ) d11_wayOf_41 ?_
          refine j_icmp_lt d11_wayOf_42 ?_ ?_
          · refine j_iconst d11_wayOf_75 ejc_1 ?_
            refine j_goto d11_wayOf_76 ?_
            exact j_sub [0, 1, 2, 3] rfl (j11_wayOf_80 x n hq (m11_wayOf_6 n k) ih y2 y3 y4 1 σ)
          · refine j_aload_n 0 rfl d11_wayOf_45 ?_
            refine j_get fl_X11_87 (rV_g_200_44 x σ) d11_wayOf_46 ?_
            refine j_iload_n 3 rfl d11_wayOf_49 ?_
            refine j_iald (rV_a_226 x σ) d11_wayOf_50 ?_
            refine j_aload_n 0 rfl d11_wayOf_51 ?_
            refine j_get fl_X11_87 (rV_g_200_44 x σ) d11_wayOf_52 ?_
            refine j_iload_n 2 rfl d11_wayOf_55 ?_
            refine j_iald (rV_a_226 x σ) d11_wayOf_56 ?_
            refine j_icmp_ne d11_wayOf_57 ?_ ?_
            · refine j_iconst d11_wayOf_79 ejc_0 ?_
              exact j_sub [0, 1, 2, 3] rfl (j11_wayOf_80 x n hq (m11_wayOf_6 n k) ih y2 y3 y4 0 σ)
            · refine j_aload_n 0 rfl d11_wayOf_60 ?_
              refine j_get fl_X11_90 (rV_g_200_45 x σ) d11_wayOf_61 ?_
              refine j_iload_n 3 rfl d11_wayOf_64 ?_
              refine j_iald (rV_a_227 x σ) d11_wayOf_65 ?_
              refine j_aload_n 0 rfl d11_wayOf_66 ?_
              refine j_get fl_X11_90 (rV_g_200_45 x σ) d11_wayOf_67 ?_
              refine j_iload_n 2 rfl d11_wayOf_70 ?_
              refine j_iald (rV_a_227 x σ) d11_wayOf_71 ?_
              refine j_icmp_ge d11_wayOf_72 ?_ ?_
              · refine j_iconst d11_wayOf_79 ejc_0 ?_
                exact j_sub [0, 1, 2, 3] rfl (j11_wayOf_80 x n hq (m11_wayOf_6 n k) ih y2 y3 y4 0 σ)
              · refine j_iconst d11_wayOf_75 ejc_1 ?_
                refine j_goto d11_wayOf_76 ?_
                exact j_sub [0, 1, 2, 3] rfl (j11_wayOf_80 x n hq (m11_wayOf_6 n k) ih y2 y3 y4 1 σ)
noncomputable def m11_wayOf (n : Nat) (a1 : Int32) (σ : ej_S) : Option (Int32 × ej_S) := ej_nm (4 * a1) fun x1 => (m11_wayOf_6 n n a1 (-1) x1 σ)
set_option maxRecDepth 20000 in
set_option maxHeartbeats 2000000 in
theorem j11_wayOf (x : cw_T) (n : Nat) (a1 : Int32) (σ : ej_S) {F : ej_F} {r0 : Int32 × ej_S} (hq : ej_fin (rV x) F (some .int) (some (.int r0.1)) r0.2) : ej_J (rV x) F i11_wayOf r0 σ 0 [(0, .ref (cw_a x 200)), (1, .int a1)] [] (m11_wayOf n a1 σ) := by
  unfold m11_wayOf
  refine j_iconst d11_wayOf_0 ejc_m1 ?_
  refine j_istore_n (i := 2) (L' := [(2, .int (-1)), (0, .ref (cw_a x 200)), (1, .int a1)]) d11_wayOf_1 rfl (Nat.le_of_ble_eq_true rfl) rfl ?_
  refine j_iconst d11_wayOf_2 ejc_4 ?_
  refine j_iload_n 2 rfl d11_wayOf_3 ?_
  refine j_imul d11_wayOf_4 ?_
  refine j_nmi (fun x1 => ?_)
  refine j_istore_n (i := 3) (L' := [(3, .int x1), (2, .int (-1)), (0, .ref (cw_a x 200)), (1, .int a1)]) d11_wayOf_5 rfl (Nat.le_of_ble_eq_true rfl) rfl ?_
  exact j_sub [2, 3, 1, 0] rfl (j11_wayOf_6 x n hq n a1 (-1) x1 σ)
theorem c11_wayOf (x : cw_T) (n : Nat) (a1 : Int32) (σ : ej_S) : ∀ r σ1, m11_wayOf n a1 σ = some (r, σ1) → ∀ l, ej_Con l (rV x) i11_wayOf yX11_wayOf (some .int) [.ref (cw_a x 200), .int a1] σ (some (.int r)) σ1 := fun r σ1 h l => ej_con_of (rV_ok x) pn_X11 rfl (Nat.le_of_ble_eq_true rfl) rfl h (fun F hq => j11_wayOf x n a1 σ hq)

noncomputable def m11_lays_21 (n : Nat) (k : Nat) : Int32 → Int32 → ej_S → Option (ej_S) := Nat.rec (motive := fun _ => Int32 → Int32 → ej_S → Option (ej_S)) (fun _ _ _ => none) (fun _ ih y5 y6 σ => (if y6 < 0 then (some σ) else ej_ck y6 97 (ej_nm (uA σ 27 (y6.toNatClampNeg) y5) fun s7 => ej_ck y5 96 (ej_nm (gA s7 25 y5.toNatClampNeg) fun x8 => ej_nm (y6 + (-1)) fun x9 => (ih x8 x9 s7))))) k
theorem m11_lays_21_s (n : Nat) (k : Nat) (y5 : Int32) (y6 : Int32) (σ : ej_S) : m11_lays_21 n (k + 1) y5 y6 σ = ((if y6 < 0 then (some σ) else ej_ck y6 97 (ej_nm (uA σ 27 (y6.toNatClampNeg) y5) fun s7 => ej_ck y5 96 (ej_nm (gA s7 25 y5.toNatClampNeg) fun x8 => ej_nm (y6 + (-1)) fun x9 => ((m11_lays_21 n k) x8 x9 s7)))) : Option (ej_S)) := rfl
set_option maxRecDepth 20000 in
set_option maxHeartbeats 2000000 in
theorem j11_lays_21 (x : cw_T) (n : Nat) {F : ej_F} {r0 : ej_S} (hq : ej_fin (rV x) F none none r0) : ∀ (k : Nat) (y5 : Int32) (y6 : Int32) (σ : ej_S), ej_J (rV x) F i11_lays r0 σ 21 [(0, .ref (cw_a x 200)), (2, .int y5), (3, .int y6)] [] (m11_lays_21 n k y5 y6 σ) := by
  intro k
  induction k with
  | zero => intro y5 y6 σ; exact j_none
  | succ k ih =>
    intro y5 y6 σ
    rw [m11_lays_21_s]
    refine j_iload_n 2 rfl d11_lays_21 ?_
    refine j_if_lt d11_lays_22 ?_ ?_
    · exact j_vreturn hq d11_lays_45
    · refine j_aload_n 0 rfl d11_lays_25 ?_
      refine j_get fl_X11_99 (rV_g_200_49 x σ) d11_lays_26 ?_
      refine j_iload_n 2 rfl d11_lays_29 ?_
      refine j_iload_n 1 rfl d11_lays_30 ?_
      refine j_iast (rV_s_230 x σ (y6.toNatClampNeg) y5) d11_lays_31 (fun s7 => ?_)
      refine j_aload_n 0 rfl d11_lays_32 ?_
      refine j_get fl_X11_93 (rV_g_200_46 x s7) d11_lays_33 ?_
      refine j_iload_n 1 rfl d11_lays_36 ?_
      refine j_iald (rV_a_228 x s7) d11_lays_37 ?_
      refine j_nmi (fun x8 => ?_)
      refine j_istore_n (i := 2) (L' := [(2, .int x8), (0, .ref (cw_a x 200)), (3, .int y6)]) d11_lays_38 rfl (Nat.le_of_ble_eq_true rfl) rfl ?_
      refine j_iinc (i := 3) (v := (-1)) (Ly := fun x9 => [(3, .int x9), (2, .int x8), (0, .ref (cw_a x 200))]) 2 d11_lays_39 rfl ejc_m1 (Nat.le_of_ble_eq_true rfl) (fun _ => rfl) (fun x9 => ?_)
      refine j_goto d11_lays_42 ?_
      exact j_sub [2, 1, 0] rfl (ih x8 x9 s7)
noncomputable def m11_lays (n : Nat) (a1 : Int32) (σ : ej_S) : Option (ej_S) := ej_bi (m11_wayOf n a1 σ) fun r2 s1 => ej_ck r2 96 (ej_nm (uI s1 17 (gA s1 24 r2.toNatClampNeg)) fun s3 => ej_nm (gI s3 17) fun x4 => (m11_lays_21 n n r2 x4 s3))
set_option maxRecDepth 20000 in
set_option maxHeartbeats 2000000 in
theorem j11_lays (x : cw_T) (n : Nat) (a1 : Int32) (σ : ej_S) {F : ej_F} {r0 : ej_S} (hq : ej_fin (rV x) F none none r0) : ej_J (rV x) F i11_lays r0 σ 0 [(0, .ref (cw_a x 200)), (1, .int a1)] [] (m11_lays n a1 σ) := by
  unfold m11_lays
  refine j_aload_n 0 rfl d11_lays_0 ?_
  refine j_iload_n 1 rfl d11_lays_1 ?_
  refine j_callVi (c11_wayOf x n a1 σ) lv_X11_336 (rV_rc_200 x σ) ⟨Nat.le_of_ble_eq_true rfl, Nat.le_of_ble_eq_true rfl⟩ d11_lays_2 rfl (Nat.le_of_ble_eq_true rfl) (fun r2 s1 => ?_)
  refine j_istore_n (i := 2) (L' := [(2, .int r2), (0, .ref (cw_a x 200)), (1, .int a1)]) d11_lays_5 rfl (Nat.le_of_ble_eq_true rfl) rfl ?_
  refine j_aload_n 1 rfl d11_lays_6 ?_
  refine j_aload_n 1 rfl d11_lays_7 ?_
  refine j_get fl_X11_90 (rV_g_200_45 x s1) d11_lays_8 ?_
  refine j_iload_n 0 rfl d11_lays_11 ?_
  refine j_iald (rV_a_227 x s1) d11_lays_12 ?_
  refine j_put fl_X11_339 (rV_p_200_48 x s1 (gA s1 24 r2.toNatClampNeg)) rfl rfl d11_lays_13 (fun s3 => ?_)
  refine j_aload_n 1 rfl d11_lays_16 ?_
  refine j_get fl_X11_339 (rV_g_200_48 x s3) d11_lays_17 ?_
  refine j_nmi (fun x4 => ?_)
  refine j_istore_n (i := 3) (L' := [(3, .int x4), (2, .int r2), (0, .ref (cw_a x 200)), (1, .int a1)]) d11_lays_20 rfl (Nat.le_of_ble_eq_true rfl) rfl ?_
  exact j_sub [2, 1, 0] rfl (j11_lays_21 x n hq n r2 x4 s3)
theorem c11_lays (x : cw_T) (n : Nat) (a1 : Int32) (σ : ej_S) : ∀ σ1, m11_lays n a1 σ = some σ1 → ∀ l, ej_Con l (rV x) i11_lays yX11_lays none [.ref (cw_a x 200), .int a1] σ none σ1 := fun σ1 h l => ej_con_of (rV_ok x) pn_X11 rfl (Nat.le_of_ble_eq_true rfl) rfl h (fun F hq => j11_lays x n a1 σ hq)

noncomputable def m11_feed_45 (n : Nat) (k : Nat) : Int64 → Int32 → Int32 → ej_S → Option (Int32 × ej_S) := Nat.rec (motive := fun _ => Int64 → Int32 → Int32 → ej_S → Option (Int32 × ej_S)) (fun _ _ _ _ => none) (fun _ ih y5 y6 y7 σ => (if y6 ≤ y7 then ej_ck 4 5 ((some (gA σ 1 (4 : Int32).toNatClampNeg, σ))) else ej_ck 4 5 (ej_ck (2400 + (gA σ 1 (4 : Int32).toNatClampNeg)) 3000 (ej_nm (uA σ 0 ((2400 + (gA σ 1 (4 : Int32).toNatClampNeg)).toNatClampNeg) (((y5 >>> ((8 * y7).toInt64 &&& 63)) &&& 255).toInt32)) fun s8 => ej_ck 4 5 (ej_ck 4 5 (ej_nm (uA s8 1 ((4 : Int32).toNatClampNeg) ((gA s8 1 (4 : Int32).toNatClampNeg) + 1)) fun s9 => ej_nm (y7 + 1) fun x10 => (ih y5 y6 x10 s9))))))) k
theorem m11_feed_45_s (n : Nat) (k : Nat) (y5 : Int64) (y6 : Int32) (y7 : Int32) (σ : ej_S) : m11_feed_45 n (k + 1) y5 y6 y7 σ = ((if y6 ≤ y7 then ej_ck 4 5 ((some (gA σ 1 (4 : Int32).toNatClampNeg, σ))) else ej_ck 4 5 (ej_ck (2400 + (gA σ 1 (4 : Int32).toNatClampNeg)) 3000 (ej_nm (uA σ 0 ((2400 + (gA σ 1 (4 : Int32).toNatClampNeg)).toNatClampNeg) (((y5 >>> ((8 * y7).toInt64 &&& 63)) &&& 255).toInt32)) fun s8 => ej_ck 4 5 (ej_ck 4 5 (ej_nm (uA s8 1 ((4 : Int32).toNatClampNeg) ((gA s8 1 (4 : Int32).toNatClampNeg) + 1)) fun s9 => ej_nm (y7 + 1) fun x10 => ((m11_feed_45 n k) y5 y6 x10 s9)))))) : Option (Int32 × ej_S)) := rfl
set_option maxRecDepth 20000 in
set_option maxHeartbeats 2000000 in
theorem j11_feed_45 (x : cw_T) (n : Nat) {F : ej_F} {r0 : Int32 × ej_S} (hq : ej_fin (rV x) F (some .int) (some (.int r0.1)) r0.2) : ∀ (k : Nat) (y5 : Int64) (y6 : Int32) (y7 : Int32) (σ : ej_S), ej_J (rV x) F i11_feed r0 σ 45 [(0, .ref (cw_a x 200)), (1, .long y5), (3, .int y6), (4, .int y7)] [] (m11_feed_45 n k y5 y6 y7 σ) := by
  intro k
  induction k with
  | zero => intro y5 y6 y7 σ; exact j_none
  | succ k ih =>
    intro y5 y6 y7 σ
    rw [m11_feed_45_s]
    refine j_iload 3 rfl d11_feed_45 ?_
    refine j_iload_n 2 rfl d11_feed_47 ?_
    refine j_icmp_ge d11_feed_48 ?_ ?_
    · refine j_aload_n 0 rfl d11_feed_94 ?_
      refine j_get fl_X11_13 (rV_g_200_1 x σ) d11_feed_95 ?_
      refine j_iconst d11_feed_98 ejc_4 ?_
      refine j_iald (rV_a_202 x σ) d11_feed_99 ?_
      exact j_ireturn hq d11_feed_100
    · refine j_aload_n 0 rfl d11_feed_51 ?_
      refine j_get fl_X11_7 (rV_g_200_0 x σ) d11_feed_52 ?_
      refine j_sipush d11_feed_55 ejs_2400 ?_
      refine j_aload_n 0 rfl d11_feed_58 ?_
      refine j_get fl_X11_13 (rV_g_200_1 x σ) d11_feed_59 ?_
      refine j_iconst d11_feed_62 ejc_4 ?_
      refine j_iald (rV_a_202 x σ) d11_feed_63 ?_
      refine j_iadd d11_feed_64 ?_
      refine j_lload_n 1 rfl d11_feed_65 ?_
      refine j_bipush d11_feed_66 ejb_8 ?_
      refine j_iload 3 rfl d11_feed_68 ?_
      refine j_imul d11_feed_70 ?_
      refine j_lshr d11_feed_71 ?_
      refine j_ldc2 d11_feed_72 kl_X11_294 ?_
      refine j_land d11_feed_75 ?_
      refine j_l2i d11_feed_76 ?_
      refine j_iast (rV_s_201 x σ ((2400 + (gA σ 1 (4 : Int32).toNatClampNeg)).toNatClampNeg) (((y5 >>> ((8 * y7).toInt64 &&& 63)) &&& 255).toInt32)) d11_feed_77 (fun s8 => ?_)
      refine j_aload_n 0 rfl d11_feed_78 ?_
      refine j_get fl_X11_13 (rV_g_200_1 x s8) d11_feed_79 ?_
      refine j_iconst d11_feed_82 ejc_4 ?_
      refine j_dup2 d11_feed_83 rfl rfl ?_
      refine j_iald (rV_a_202 x s8) d11_feed_84 ?_
      refine j_iconst d11_feed_85 ejc_1 ?_
      refine j_iadd d11_feed_86 ?_
      refine j_iast (rV_s_202 x s8 ((4 : Int32).toNatClampNeg) ((gA s8 1 (4 : Int32).toNatClampNeg) + 1)) d11_feed_87 (fun s9 => ?_)
      refine j_iinc (i := 4) (v := 1) (Ly := fun x10 => [(4, .int x10), (0, .ref (cw_a x 200)), (1, .long y5), (3, .int y6)]) 3 d11_feed_88 rfl ejc_1 (Nat.le_of_ble_eq_true rfl) (fun _ => rfl) (fun x10 => ?_)
      refine j_goto d11_feed_91 ?_
      exact j_sub [1, 2, 3, 0] rfl (ih y5 y6 x10 s9)
noncomputable def m11_feed (n : Nat) (a1 : Int64) (a2 : Int32) (σ : ej_S) : Option (Int32 × ej_S) := ej_bi (m11_isIn n a2 1 8 σ) fun r2 s1 => (if r2 = 0 then ej_bi (m11_goes n 1 s1) fun r14 s13 => (if r14 = 0 then (some (0, s13)) else (m11_feed_45 n n a1 a2 0 s13)) else ej_ck 4 5 ((if (gA s1 1 (4 : Int32).toNatClampNeg) + a2 ≤ 600 then ej_bi (m11_goes n 0 s1) fun r4 s3 => (if r4 = 0 then (some (0, s3)) else (m11_feed_45 n n a1 a2 0 s3)) else ej_bi (m11_goes n 2 s1) fun r12 s11 => (if r12 = 0 then (some (0, s11)) else (m11_feed_45 n n a1 a2 0 s11)))))
set_option maxRecDepth 20000 in
set_option maxHeartbeats 2000000 in
theorem j11_feed (x : cw_T) (n : Nat) (a1 : Int64) (a2 : Int32) (σ : ej_S) {F : ej_F} {r0 : Int32 × ej_S} (hq : ej_fin (rV x) F (some .int) (some (.int r0.1)) r0.2) : ej_J (rV x) F i11_feed r0 σ 0 [(0, .ref (cw_a x 200)), (1, .long a1), (3, .int a2)] [] (m11_feed n a1 a2 σ) := by
  unfold m11_feed
  refine j_aload_n 0 rfl d11_feed_0 ?_
  refine j_iload_n 2 rfl d11_feed_1 ?_
  refine j_iconst d11_feed_2 ejc_1 ?_
  refine j_bipush d11_feed_3 ejb_8 ?_
  refine j_callSi (c11_isIn x n a2 1 8 σ) ls_X11_127 ⟨Nat.le_of_ble_eq_true rfl, Nat.le_of_ble_eq_true rfl⟩ d11_feed_5 rfl (Nat.le_of_ble_eq_true rfl) (fun r2 s1 => ?_)
  refine j_if_ne d11_feed_8 ?_ ?_
  · refine j_aload_n 0 rfl d11_feed_15 ?_
    refine j_get fl_X11_13 (rV_g_200_1 x s1) d11_feed_16 ?_
    refine j_iconst d11_feed_19 ejc_4 ?_
    refine j_iald (rV_a_202 x s1) d11_feed_20 ?_
    refine j_iload_n 2 rfl d11_feed_21 ?_
    refine j_iadd d11_feed_22 ?_
    refine j_sipush d11_feed_23 ejs_600 ?_
    refine j_icmp_le d11_feed_26 ?_ ?_
    · refine j_iconst d11_feed_33 ejc_0 ?_
      refine j_callVi (c11_goes x n 0 s1) lv_X11_342 (rV_rc_200 x s1) ⟨Nat.le_of_ble_eq_true rfl, Nat.le_of_ble_eq_true rfl⟩ d11_feed_34 rfl (Nat.le_of_ble_eq_true rfl) (fun r4 s3 => ?_)
      refine j_if_ne d11_feed_37 ?_ ?_
      · refine j_iconst d11_feed_42 ejc_0 ?_
        refine j_istore (i := 4) (L' := [(4, .int 0), (0, .ref (cw_a x 200)), (1, .long a1), (3, .int a2)]) d11_feed_43 (Nat.le_of_ble_eq_true rfl) rfl ?_
        exact j_sub [1, 2, 3, 0] rfl (j11_feed_45 x n hq n a1 a2 0 s3)
      · refine j_iconst d11_feed_40 ejc_0 ?_
        exact j_ireturn hq d11_feed_41
    · refine j_iconst d11_feed_29 ejc_2 ?_
      refine j_goto d11_feed_30 ?_
      refine j_callVi (c11_goes x n 2 s1) lv_X11_342 (rV_rc_200 x s1) ⟨Nat.le_of_ble_eq_true rfl, Nat.le_of_ble_eq_true rfl⟩ d11_feed_34 rfl (Nat.le_of_ble_eq_true rfl) (fun r12 s11 => ?_)
      refine j_if_ne d11_feed_37 ?_ ?_
      · refine j_iconst d11_feed_42 ejc_0 ?_
        refine j_istore (i := 4) (L' := [(4, .int 0), (0, .ref (cw_a x 200)), (1, .long a1), (3, .int a2)]) d11_feed_43 (Nat.le_of_ble_eq_true rfl) rfl ?_
        exact j_sub [1, 2, 3, 0] rfl (j11_feed_45 x n hq n a1 a2 0 s11)
      · refine j_iconst d11_feed_40 ejc_0 ?_
        exact j_ireturn hq d11_feed_41
  · refine j_iconst d11_feed_11 ejc_1 ?_
    refine j_goto d11_feed_12 ?_
    refine j_callVi (c11_goes x n 1 s1) lv_X11_342 (rV_rc_200 x s1) ⟨Nat.le_of_ble_eq_true rfl, Nat.le_of_ble_eq_true rfl⟩ d11_feed_34 rfl (Nat.le_of_ble_eq_true rfl) (fun r14 s13 => ?_)
    refine j_if_ne d11_feed_37 ?_ ?_
    · refine j_iconst d11_feed_42 ejc_0 ?_
      refine j_istore (i := 4) (L' := [(4, .int 0), (0, .ref (cw_a x 200)), (1, .long a1), (3, .int a2)]) d11_feed_43 (Nat.le_of_ble_eq_true rfl) rfl ?_
      exact j_sub [1, 2, 3, 0] rfl (j11_feed_45 x n hq n a1 a2 0 s13)
    · refine j_iconst d11_feed_40 ejc_0 ?_
      exact j_ireturn hq d11_feed_41
theorem c11_feed (x : cw_T) (n : Nat) (a1 : Int64) (a2 : Int32) (σ : ej_S) : ∀ r σ1, m11_feed n a1 a2 σ = some (r, σ1) → ∀ l, ej_Con l (rV x) i11_feed yX11_feed (some .int) [.ref (cw_a x 200), .long a1, .int a2] σ (some (.int r)) σ1 := fun r σ1 h l => ej_con_of (rV_ok x) pn_X11 rfl (Nat.le_of_ble_eq_true rfl) rfl h (fun F hq => j11_feed x n a1 a2 σ hq)

noncomputable def m11_isFile (n : Nat) (a1 : Int32) (σ : ej_S) : Option (Int32 × ej_S) := ej_bi (m11_isIn n a1 0 3 σ) fun r2 s1 => (some (ej_bz r2, s1))
set_option maxRecDepth 20000 in
set_option maxHeartbeats 2000000 in
theorem j11_isFile (x : cw_T) (n : Nat) (a1 : Int32) (σ : ej_S) {F : ej_F} {r0 : Int32 × ej_S} (hq : ej_fin (rV x) F (some .boolean) (some (.int r0.1)) r0.2) : ej_J (rV x) F i11_isFile r0 σ 0 [(0, .int a1)] [] (m11_isFile n a1 σ) := by
  unfold m11_isFile
  refine j_iload_n 0 rfl d11_isFile_0 ?_
  refine j_iconst d11_isFile_1 ejc_0 ?_
  refine j_iconst d11_isFile_2 ejc_3 ?_
  refine j_callSi (c11_isIn x n a1 0 3 σ) ls_X11_127 ⟨Nat.le_of_ble_eq_true rfl, Nat.le_of_ble_eq_true rfl⟩ d11_isFile_3 rfl (Nat.le_of_ble_eq_true rfl) (fun r2 s1 => ?_)
  exact j_zreturn hq d11_isFile_6
theorem c11_isFile (x : cw_T) (n : Nat) (a1 : Int32) (σ : ej_S) : ∀ r σ1, m11_isFile n a1 σ = some (r, σ1) → ∀ l, ej_Con l (rV x) i11_isFile yX11_isFile (some .boolean) [.int a1] σ (some (.int r)) σ1 := fun r σ1 h l => ej_con_of (rV_ok x) pn_X11 rfl (Nat.le_of_ble_eq_true rfl) rfl h (fun F hq => j11_isFile x n a1 σ hq)

noncomputable def m11_tells_13 (n : Nat) (y1 : Int32) (y2 : Int32) (σ : ej_S) : Option (ej_S) := ej_nm (uI σ 11 y2) fun s3 => (if y1 = 0 then ej_nm (uI s3 12 (gI s3 10)) fun s4 => ej_ck 4 5 (ej_nm (uA s4 1 ((4 : Int32).toNatClampNeg) 0) fun s5 => (some s5)) else ej_nm (uI s3 12 0) fun s6 => ej_ck 4 5 (ej_nm (uA s6 1 ((4 : Int32).toNatClampNeg) 0) fun s7 => (some s7)))
set_option maxRecDepth 20000 in
set_option maxHeartbeats 2000000 in
theorem j11_tells_13 (x : cw_T) (n : Nat) {F : ej_F} {r0 : ej_S} (hq : ej_fin (rV x) F none none r0) (y1 : Int32) (y2 : Int32) (σ : ej_S) : ej_J (rV x) F i11_tells r0 σ 13 [(0, .ref (cw_a x 200)), (1, .int y1)] [.int y2, .ref (cw_a x 200)] (m11_tells_13 n y1 y2 σ) := by
  unfold m11_tells_13
  refine j_put fl_X11_345 (rV_p_200_18 x σ y2) rfl rfl d11_tells_13 (fun s3 => ?_)
  refine j_aload_n 0 rfl d11_tells_16 ?_
  refine j_iload_n 1 rfl d11_tells_17 ?_
  refine j_if_eq d11_tells_18 ?_ ?_
  · refine j_aload_n 0 rfl d11_tells_25 ?_
    refine j_get fl_X11_177 (rV_g_200_17 x s3) d11_tells_26 ?_
    refine j_put fl_X11_348 (rV_p_200_19 x s3 (gI s3 10)) rfl rfl d11_tells_29 (fun s4 => ?_)
    refine j_aload_n 0 rfl d11_tells_32 ?_
    refine j_get fl_X11_13 (rV_g_200_1 x s4) d11_tells_33 ?_
    refine j_iconst d11_tells_36 ejc_4 ?_
    refine j_iconst d11_tells_37 ejc_0 ?_
    refine j_iast (rV_s_202 x s4 ((4 : Int32).toNatClampNeg) 0) d11_tells_38 (fun s5 => ?_)
    exact j_vreturn hq d11_tells_39
  · refine j_iconst d11_tells_21 ejc_0 ?_
    refine j_goto d11_tells_22 ?_
    refine j_put fl_X11_348 (rV_p_200_19 x s3 0) rfl rfl d11_tells_29 (fun s6 => ?_)
    refine j_aload_n 0 rfl d11_tells_32 ?_
    refine j_get fl_X11_13 (rV_g_200_1 x s6) d11_tells_33 ?_
    refine j_iconst d11_tells_36 ejc_4 ?_
    refine j_iconst d11_tells_37 ejc_0 ?_
    refine j_iast (rV_s_202 x s6 ((4 : Int32).toNatClampNeg) 0) d11_tells_38 (fun s7 => ?_)
    exact j_vreturn hq d11_tells_39
noncomputable def m11_tells (n : Nat) (a1 : Int32) (σ : ej_S) : Option (ej_S) := (if a1 = 0 then (m11_tells_13 n a1 (gI σ 9) σ) else (m11_tells_13 n a1 0 σ))
set_option maxRecDepth 20000 in
set_option maxHeartbeats 2000000 in
theorem j11_tells (x : cw_T) (n : Nat) (a1 : Int32) (σ : ej_S) {F : ej_F} {r0 : ej_S} (hq : ej_fin (rV x) F none none r0) : ej_J (rV x) F i11_tells r0 σ 0 [(0, .ref (cw_a x 200)), (1, .int a1)] [] (m11_tells n a1 σ) := by
  unfold m11_tells
  refine j_aload_n 0 rfl d11_tells_0 ?_
  refine j_iload_n 1 rfl d11_tells_1 ?_
  refine j_if_eq d11_tells_2 ?_ ?_
  · refine j_aload_n 0 rfl d11_tells_9 ?_
    refine j_get fl_X11_174 (rV_g_200_16 x σ) d11_tells_10 ?_
    exact j_sub [0, 1] rfl (j11_tells_13 x n hq a1 (gI σ 9) σ)
  · refine j_iconst d11_tells_5 ejc_0 ?_
    refine j_goto d11_tells_6 ?_
    exact j_sub [0, 1] rfl (j11_tells_13 x n hq a1 0 σ)
theorem c11_tells (x : cw_T) (n : Nat) (a1 : Int32) (σ : ej_S) : ∀ σ1, m11_tells n a1 σ = some σ1 → ∀ l, ej_Con l (rV x) i11_tells yX11_tells none [.ref (cw_a x 200), .int a1] σ none σ1 := fun σ1 h l => ej_con_of (rV_ok x) pn_X11 rfl (Nat.le_of_ble_eq_true rfl) rfl h (fun F hq => j11_tells x n a1 σ hq)

noncomputable def m11_isTaken_105 (n : Nat) (k : Nat) : Int32 → Int32 → Int32 → ej_S → Option (Int32 × ej_S) := Nat.rec (motive := fun _ => Int32 → Int32 → Int32 → ej_S → Option (Int32 × ej_S)) (fun _ _ _ _ => none) (fun _ ih y10 y11 y12 σ => (if y11 ≤ y12 then ej_ck y10 5 (ej_nm (uA σ 1 (y10.toNatClampNeg) y11) fun s13 => ej_bv (m11_rebuilds n s13) fun s14 => ej_ck 4 5 (ej_bi (m11_fails n 6 (gA s14 1 (4 : Int32).toNatClampNeg) s14) fun r16 s15 => (some (ej_bz r16, s15)))) else ej_ck y12 600 (ej_ck ((600 * y10) + y12) 3000 (ej_nm (uA σ 0 (((600 * y10) + y12).toNatClampNeg) (gA σ 3 y12.toNatClampNeg)) fun s17 => ej_nm (y12 + 1) fun x18 => (ih y10 y11 x18 s17))))) k
theorem m11_isTaken_105_s (n : Nat) (k : Nat) (y10 : Int32) (y11 : Int32) (y12 : Int32) (σ : ej_S) : m11_isTaken_105 n (k + 1) y10 y11 y12 σ = ((if y11 ≤ y12 then ej_ck y10 5 (ej_nm (uA σ 1 (y10.toNatClampNeg) y11) fun s13 => ej_bv (m11_rebuilds n s13) fun s14 => ej_ck 4 5 (ej_bi (m11_fails n 6 (gA s14 1 (4 : Int32).toNatClampNeg) s14) fun r16 s15 => (some (ej_bz r16, s15)))) else ej_ck y12 600 (ej_ck ((600 * y10) + y12) 3000 (ej_nm (uA σ 0 (((600 * y10) + y12).toNatClampNeg) (gA σ 3 y12.toNatClampNeg)) fun s17 => ej_nm (y12 + 1) fun x18 => ((m11_isTaken_105 n k) y10 y11 x18 s17)))) : Option (Int32 × ej_S)) := rfl
set_option maxRecDepth 20000 in
set_option maxHeartbeats 2000000 in
theorem j11_isTaken_105 (x : cw_T) (n : Nat) {F : ej_F} {r0 : Int32 × ej_S} (hq : ej_fin (rV x) F (some .boolean) (some (.int r0.1)) r0.2) : ∀ (k : Nat) (y10 : Int32) (y11 : Int32) (y12 : Int32) (σ : ej_S), ej_J (rV x) F i11_isTaken r0 σ 105 [(0, .ref (cw_a x 200)), (1, .int y10), (2, .int y11), (3, .int y12)] [] (m11_isTaken_105 n k y10 y11 y12 σ) := by
  intro k
  induction k with
  | zero => intro y10 y11 y12 σ; exact j_none
  | succ k ih =>
    intro y10 y11 y12 σ
    rw [m11_isTaken_105_s]
    refine j_iload_n 3 rfl d11_isTaken_105 ?_
    refine j_iload_n 2 rfl d11_isTaken_106 ?_
    refine j_icmp_ge d11_isTaken_107 ?_ ?_
    · refine j_aload_n 0 rfl d11_isTaken_134 ?_
      refine j_get fl_X11_13 (rV_g_200_1 x σ) d11_isTaken_135 ?_
      refine j_iload_n 1 rfl d11_isTaken_138 ?_
      refine j_iload_n 2 rfl d11_isTaken_139 ?_
      refine j_iast (rV_s_202 x σ (y10.toNatClampNeg) y11) d11_isTaken_140 (fun s13 => ?_)
      refine j_aload_n 0 rfl d11_isTaken_141 ?_
      refine j_callVv (c11_rebuilds x n s13) lv_X11_109 (rV_rc_200 x s13) ⟨Nat.le_of_ble_eq_true rfl, Nat.le_of_ble_eq_true rfl⟩ d11_isTaken_142 rfl (Nat.le_of_ble_eq_true rfl) (fun s14 => ?_)
      refine j_aload_n 0 rfl d11_isTaken_145 ?_
      refine j_bipush d11_isTaken_146 ejb_6 ?_
      refine j_aload_n 0 rfl d11_isTaken_148 ?_
      refine j_get fl_X11_13 (rV_g_200_1 x s14) d11_isTaken_149 ?_
      refine j_iconst d11_isTaken_152 ejc_4 ?_
      refine j_iald (rV_a_202 x s14) d11_isTaken_153 ?_
      refine j_callVi (c11_fails x n 6 (gA s14 1 (4 : Int32).toNatClampNeg) s14) lv_X11_180 (rV_rc_200 x s14) ⟨Nat.le_of_ble_eq_true rfl, Nat.le_of_ble_eq_true rfl⟩ d11_isTaken_154 rfl (Nat.le_of_ble_eq_true rfl) (fun r16 s15 => ?_)
      exact j_zreturn hq d11_isTaken_157
    · refine j_aload_n 0 rfl d11_isTaken_110 ?_
      refine j_get fl_X11_7 (rV_g_200_0 x σ) d11_isTaken_111 ?_
      refine j_sipush d11_isTaken_114 ejs_600 ?_
      refine j_iload_n 1 rfl d11_isTaken_117 ?_
      refine j_imul d11_isTaken_118 ?_
      refine j_iload_n 3 rfl d11_isTaken_119 ?_
      refine j_iadd d11_isTaken_120 ?_
      refine j_aload_n 0 rfl d11_isTaken_121 ?_
      refine j_get fl_X11_19 (rV_g_200_3 x σ) d11_isTaken_122 ?_
      refine j_iload_n 3 rfl d11_isTaken_125 ?_
      refine j_iald (rV_a_204 x σ) d11_isTaken_126 ?_
      refine j_iast (rV_s_201 x σ (((600 * y10) + y12).toNatClampNeg) (gA σ 3 y12.toNatClampNeg)) d11_isTaken_127 (fun s17 => ?_)
      refine j_iinc (i := 3) (v := 1) (Ly := fun x18 => [(3, .int x18), (0, .ref (cw_a x 200)), (1, .int y10), (2, .int y11)]) 3 d11_isTaken_128 rfl ejc_1 (Nat.le_of_ble_eq_true rfl) (fun _ => rfl) (fun x18 => ?_)
      refine j_goto d11_isTaken_131 ?_
      exact j_sub [1, 2, 3, 0] rfl (ih y10 y11 x18 s17)
noncomputable def m11_isTaken_40 (n : Nat) (k : Nat) : Int32 → Int32 → Int32 → ej_S → Option (Int32 × ej_S) := Nat.rec (motive := fun _ => Int32 → Int32 → Int32 → ej_S → Option (Int32 × ej_S)) (fun _ _ _ _ => none) (fun _ ih y5 y6 y7 σ => ej_ck 4 5 ((if gA σ 1 (4 : Int32).toNatClampNeg ≤ y7 then ej_ck 4 5 (ej_ck y5 5 (ej_nm (uA σ 1 (y5.toNatClampNeg) (gA σ 1 (4 : Int32).toNatClampNeg)) fun s8 => ej_bv (m11_rebuilds n s8) fun s9 => (if gI s9 16 = 0 then (some (1, s9)) else (m11_isTaken_105 n n y5 y6 0 s9)))) else ej_ck (2400 + y7) 3000 (ej_ck ((600 * y5) + y7) 3000 (ej_nm (uA σ 0 (((600 * y5) + y7).toNatClampNeg) (gA σ 0 (2400 + y7).toNatClampNeg)) fun s19 => ej_nm (y7 + 1) fun x20 => (ih y5 y6 x20 s19)))))) k
theorem m11_isTaken_40_s (n : Nat) (k : Nat) (y5 : Int32) (y6 : Int32) (y7 : Int32) (σ : ej_S) : m11_isTaken_40 n (k + 1) y5 y6 y7 σ = (ej_ck 4 5 ((if gA σ 1 (4 : Int32).toNatClampNeg ≤ y7 then ej_ck 4 5 (ej_ck y5 5 (ej_nm (uA σ 1 (y5.toNatClampNeg) (gA σ 1 (4 : Int32).toNatClampNeg)) fun s8 => ej_bv (m11_rebuilds n s8) fun s9 => (if gI s9 16 = 0 then (some (1, s9)) else (m11_isTaken_105 n n y5 y6 0 s9)))) else ej_ck (2400 + y7) 3000 (ej_ck ((600 * y5) + y7) 3000 (ej_nm (uA σ 0 (((600 * y5) + y7).toNatClampNeg) (gA σ 0 (2400 + y7).toNatClampNeg)) fun s19 => ej_nm (y7 + 1) fun x20 => ((m11_isTaken_40 n k) y5 y6 x20 s19))))) : Option (Int32 × ej_S)) := rfl
set_option maxRecDepth 20000 in
set_option maxHeartbeats 2000000 in
theorem j11_isTaken_40 (x : cw_T) (n : Nat) {F : ej_F} {r0 : Int32 × ej_S} (hq : ej_fin (rV x) F (some .boolean) (some (.int r0.1)) r0.2) : ∀ (k : Nat) (y5 : Int32) (y6 : Int32) (y7 : Int32) (σ : ej_S), ej_J (rV x) F i11_isTaken r0 σ 40 [(0, .ref (cw_a x 200)), (1, .int y5), (2, .int y6), (3, .int y7)] [] (m11_isTaken_40 n k y5 y6 y7 σ) := by
  intro k
  induction k with
  | zero => intro y5 y6 y7 σ; exact j_none
  | succ k ih =>
    intro y5 y6 y7 σ
    rw [m11_isTaken_40_s]
    refine j_iload_n 3 rfl d11_isTaken_40 ?_
    refine j_aload_n 0 rfl d11_isTaken_41 ?_
    refine j_get fl_X11_13 (rV_g_200_1 x σ) d11_isTaken_42 ?_
    refine j_iconst d11_isTaken_45 ejc_4 ?_
    refine j_iald (rV_a_202 x σ) d11_isTaken_46 ?_
    refine j_icmp_ge d11_isTaken_47 ?_ ?_
    · refine j_aload_n 0 rfl d11_isTaken_78 ?_
      refine j_get fl_X11_13 (rV_g_200_1 x σ) d11_isTaken_79 ?_
      refine j_iload_n 1 rfl d11_isTaken_82 ?_
      refine j_aload_n 0 rfl d11_isTaken_83 ?_
      refine j_get fl_X11_13 (rV_g_200_1 x σ) d11_isTaken_84 ?_
      refine j_iconst d11_isTaken_87 ejc_4 ?_
      refine j_iald (rV_a_202 x σ) d11_isTaken_88 ?_
      refine j_iast (rV_s_202 x σ (y5.toNatClampNeg) (gA σ 1 (4 : Int32).toNatClampNeg)) d11_isTaken_89 (fun s8 => ?_)
      refine j_aload_n 0 rfl d11_isTaken_90 ?_
      refine j_callVv (c11_rebuilds x n s8) lv_X11_109 (rV_rc_200 x s8) ⟨Nat.le_of_ble_eq_true rfl, Nat.le_of_ble_eq_true rfl⟩ d11_isTaken_91 rfl (Nat.le_of_ble_eq_true rfl) (fun s9 => ?_)
      refine j_aload_n 0 rfl d11_isTaken_94 ?_
      refine j_get fl_X11_275 (rV_g_200_29 x s9) d11_isTaken_95 ?_
      refine j_if_ne d11_isTaken_98 ?_ ?_
      · refine j_iconst d11_isTaken_103 ejc_0 ?_
        refine j_istore_n (i := 3) (L' := [(3, .int 0), (0, .ref (cw_a x 200)), (1, .int y5), (2, .int y6)]) d11_isTaken_104 rfl (Nat.le_of_ble_eq_true rfl) rfl ?_
        exact j_sub [1, 2, 3, 0] rfl (j11_isTaken_105 x n hq n y5 y6 0 s9)
      · refine j_iconst d11_isTaken_101 ejc_1 ?_
        exact j_zreturn1 hq d11_isTaken_102
    · refine j_aload_n 0 rfl d11_isTaken_50 ?_
      refine j_get fl_X11_7 (rV_g_200_0 x σ) d11_isTaken_51 ?_
      refine j_sipush d11_isTaken_54 ejs_600 ?_
      refine j_iload_n 1 rfl d11_isTaken_57 ?_
      refine j_imul d11_isTaken_58 ?_
      refine j_iload_n 3 rfl d11_isTaken_59 ?_
      refine j_iadd d11_isTaken_60 ?_
      refine j_aload_n 0 rfl d11_isTaken_61 ?_
      refine j_get fl_X11_7 (rV_g_200_0 x σ) d11_isTaken_62 ?_
      refine j_sipush d11_isTaken_65 ejs_2400 ?_
      refine j_iload_n 3 rfl d11_isTaken_68 ?_
      refine j_iadd d11_isTaken_69 ?_
      refine j_iald (rV_a_201 x σ) d11_isTaken_70 ?_
      refine j_iast (rV_s_201 x σ (((600 * y5) + y7).toNatClampNeg) (gA σ 0 (2400 + y7).toNatClampNeg)) d11_isTaken_71 (fun s19 => ?_)
      refine j_iinc (i := 3) (v := 1) (Ly := fun x20 => [(3, .int x20), (0, .ref (cw_a x 200)), (1, .int y5), (2, .int y6)]) 3 d11_isTaken_72 rfl ejc_1 (Nat.le_of_ble_eq_true rfl) (fun _ => rfl) (fun x20 => ?_)
      refine j_goto d11_isTaken_75 ?_
      exact j_sub [1, 2, 3, 0] rfl (ih y5 y6 x20 s19)
noncomputable def m11_isTaken_9 (n : Nat) (k : Nat) : Int32 → Int32 → Int32 → ej_S → Option (Int32 × ej_S) := Nat.rec (motive := fun _ => Int32 → Int32 → Int32 → ej_S → Option (Int32 × ej_S)) (fun _ _ _ _ => none) (fun _ ih y2 y3 y4 σ => (if y3 ≤ y4 then (m11_isTaken_40 n n y2 y3 0 σ) else ej_ck ((600 * y2) + y4) 3000 (ej_ck y4 600 (ej_nm (uA σ 3 (y4.toNatClampNeg) (gA σ 0 ((600 * y2) + y4).toNatClampNeg)) fun s21 => ej_nm (y4 + 1) fun x22 => (ih y2 y3 x22 s21))))) k
theorem m11_isTaken_9_s (n : Nat) (k : Nat) (y2 : Int32) (y3 : Int32) (y4 : Int32) (σ : ej_S) : m11_isTaken_9 n (k + 1) y2 y3 y4 σ = ((if y3 ≤ y4 then (m11_isTaken_40 n n y2 y3 0 σ) else ej_ck ((600 * y2) + y4) 3000 (ej_ck y4 600 (ej_nm (uA σ 3 (y4.toNatClampNeg) (gA σ 0 ((600 * y2) + y4).toNatClampNeg)) fun s21 => ej_nm (y4 + 1) fun x22 => ((m11_isTaken_9 n k) y2 y3 x22 s21)))) : Option (Int32 × ej_S)) := rfl
set_option maxRecDepth 20000 in
set_option maxHeartbeats 2000000 in
theorem j11_isTaken_9 (x : cw_T) (n : Nat) {F : ej_F} {r0 : Int32 × ej_S} (hq : ej_fin (rV x) F (some .boolean) (some (.int r0.1)) r0.2) : ∀ (k : Nat) (y2 : Int32) (y3 : Int32) (y4 : Int32) (σ : ej_S), ej_J (rV x) F i11_isTaken r0 σ 9 [(0, .ref (cw_a x 200)), (1, .int y2), (2, .int y3), (3, .int y4)] [] (m11_isTaken_9 n k y2 y3 y4 σ) := by
  intro k
  induction k with
  | zero => intro y2 y3 y4 σ; exact j_none
  | succ k ih =>
    intro y2 y3 y4 σ
    rw [m11_isTaken_9_s]
    refine j_iload_n 3 rfl d11_isTaken_9 ?_
    refine j_iload_n 2 rfl d11_isTaken_10 ?_
    refine j_icmp_ge d11_isTaken_11 ?_ ?_
    · refine j_iconst d11_isTaken_38 ejc_0 ?_
      refine j_istore_n (i := 3) (L' := [(3, .int 0), (0, .ref (cw_a x 200)), (1, .int y2), (2, .int y3)]) d11_isTaken_39 rfl (Nat.le_of_ble_eq_true rfl) rfl ?_
      exact j_sub [1, 2, 3, 0] rfl (j11_isTaken_40 x n hq n y2 y3 0 σ)
    · refine j_aload_n 0 rfl d11_isTaken_14 ?_
      refine j_get fl_X11_19 (rV_g_200_3 x σ) d11_isTaken_15 ?_
      refine j_iload_n 3 rfl d11_isTaken_18 ?_
      refine j_aload_n 0 rfl d11_isTaken_19 ?_
      refine j_get fl_X11_7 (rV_g_200_0 x σ) d11_isTaken_20 ?_
      refine j_sipush d11_isTaken_23 ejs_600 ?_
      refine j_iload_n 1 rfl d11_isTaken_26 ?_
      refine j_imul d11_isTaken_27 ?_
      refine j_iload_n 3 rfl d11_isTaken_28 ?_
      refine j_iadd d11_isTaken_29 ?_
      refine j_iald (rV_a_201 x σ) d11_isTaken_30 ?_
      refine j_iast (rV_s_204 x σ (y4.toNatClampNeg) (gA σ 0 ((600 * y2) + y4).toNatClampNeg)) d11_isTaken_31 (fun s21 => ?_)
      refine j_iinc (i := 3) (v := 1) (Ly := fun x22 => [(3, .int x22), (0, .ref (cw_a x 200)), (1, .int y2), (2, .int y3)]) 3 d11_isTaken_32 rfl ejc_1 (Nat.le_of_ble_eq_true rfl) (fun _ => rfl) (fun x22 => ?_)
      refine j_goto d11_isTaken_35 ?_
      exact j_sub [1, 2, 3, 0] rfl (ih y2 y3 x22 s21)
noncomputable def m11_isTaken (n : Nat) (a1 : Int32) (σ : ej_S) : Option (Int32 × ej_S) := ej_ck a1 5 (ej_nm (gA σ 1 a1.toNatClampNeg) fun x1 => (m11_isTaken_9 n n a1 x1 0 σ))
set_option maxRecDepth 20000 in
set_option maxHeartbeats 2000000 in
theorem j11_isTaken (x : cw_T) (n : Nat) (a1 : Int32) (σ : ej_S) {F : ej_F} {r0 : Int32 × ej_S} (hq : ej_fin (rV x) F (some .boolean) (some (.int r0.1)) r0.2) : ej_J (rV x) F i11_isTaken r0 σ 0 [(0, .ref (cw_a x 200)), (1, .int a1)] [] (m11_isTaken n a1 σ) := by
  unfold m11_isTaken
  refine j_aload_n 0 rfl d11_isTaken_0 ?_
  refine j_get fl_X11_13 (rV_g_200_1 x σ) d11_isTaken_1 ?_
  refine j_iload_n 1 rfl d11_isTaken_4 ?_
  refine j_iald (rV_a_202 x σ) d11_isTaken_5 ?_
  refine j_nmi (fun x1 => ?_)
  refine j_istore_n (i := 2) (L' := [(2, .int x1), (0, .ref (cw_a x 200)), (1, .int a1)]) d11_isTaken_6 rfl (Nat.le_of_ble_eq_true rfl) rfl ?_
  refine j_iconst d11_isTaken_7 ejc_0 ?_
  refine j_istore_n (i := 3) (L' := [(3, .int 0), (2, .int x1), (0, .ref (cw_a x 200)), (1, .int a1)]) d11_isTaken_8 rfl (Nat.le_of_ble_eq_true rfl) rfl ?_
  exact j_sub [2, 3, 1, 0] rfl (j11_isTaken_9 x n hq n a1 x1 0 σ)
theorem c11_isTaken (x : cw_T) (n : Nat) (a1 : Int32) (σ : ej_S) : ∀ r σ1, m11_isTaken n a1 σ = some (r, σ1) → ∀ l, ej_Con l (rV x) i11_isTaken yX11_isTaken (some .boolean) [.ref (cw_a x 200), .int a1] σ (some (.int r)) σ1 := fun r σ1 h l => ej_con_of (rV_ok x) pn_X11 rfl (Nat.le_of_ble_eq_true rfl) rfl h (fun F hq => j11_isTaken x n a1 σ hq)

noncomputable def m11_load_44 (n : Nat) (y9 : Int32) (y10 : Int32) (σ : ej_S) : Option (Int32 × ej_S) := ej_bv (m11_tells n y10 σ) fun s11 => (if y10 = 0 then ej_bi (m11_goes n 2 s11) fun r13 s12 => (if r13 = 0 then (some (0, s12)) else ej_ck y9 4 ((some (gA s12 2 y9.toNatClampNeg, s12)))) else ej_bi (m11_goes n 0 s11) fun r15 s14 => (if r15 = 0 then (some (0, s14)) else ej_ck y9 4 ((some (gA s14 2 y9.toNatClampNeg, s14)))))
set_option maxRecDepth 20000 in
set_option maxHeartbeats 2000000 in
theorem j11_load_44 (x : cw_T) (n : Nat) {F : ej_F} {r0 : Int32 × ej_S} (hq : ej_fin (rV x) F (some .int) (some (.int r0.1)) r0.2) (y9 : Int32) (y10 : Int32) (σ : ej_S) : ej_J (rV x) F i11_load r0 σ 44 [(0, .ref (cw_a x 200)), (1, .int y9), (2, .int y10)] [] (m11_load_44 n y9 y10 σ) := by
  unfold m11_load_44
  refine j_aload_n 0 rfl d11_load_44 ?_
  refine j_iload_n 2 rfl d11_load_45 ?_
  refine j_callVv (c11_tells x n y10 σ) lv_X11_357 (rV_rc_200 x σ) ⟨Nat.le_of_ble_eq_true rfl, Nat.le_of_ble_eq_true rfl⟩ d11_load_46 rfl (Nat.le_of_ble_eq_true rfl) (fun s11 => ?_)
  refine j_aload_n 0 rfl d11_load_49 ?_
  refine j_iload_n 2 rfl d11_load_50 ?_
  refine j_if_eq d11_load_51 ?_ ?_
  · refine j_iconst d11_load_58 ejc_2 ?_
    refine j_callVi (c11_goes x n 2 s11) lv_X11_342 (rV_rc_200 x s11) ⟨Nat.le_of_ble_eq_true rfl, Nat.le_of_ble_eq_true rfl⟩ d11_load_59 rfl (Nat.le_of_ble_eq_true rfl) (fun r13 s12 => ?_)
    refine j_if_eq d11_load_62 ?_ ?_
    · refine j_iconst d11_load_74 ejc_0 ?_
      exact j_ireturn hq d11_load_75
    · refine j_aload_n 0 rfl d11_load_65 ?_
      refine j_get fl_X11_16 (rV_g_200_2 x s12) d11_load_66 ?_
      refine j_iload_n 1 rfl d11_load_69 ?_
      refine j_iald (rV_a_203 x s12) d11_load_70 ?_
      refine j_goto d11_load_71 ?_
      exact j_ireturn hq d11_load_75
  · refine j_iconst d11_load_54 ejc_0 ?_
    refine j_goto d11_load_55 ?_
    refine j_callVi (c11_goes x n 0 s11) lv_X11_342 (rV_rc_200 x s11) ⟨Nat.le_of_ble_eq_true rfl, Nat.le_of_ble_eq_true rfl⟩ d11_load_59 rfl (Nat.le_of_ble_eq_true rfl) (fun r15 s14 => ?_)
    refine j_if_eq d11_load_62 ?_ ?_
    · refine j_iconst d11_load_74 ejc_0 ?_
      exact j_ireturn hq d11_load_75
    · refine j_aload_n 0 rfl d11_load_65 ?_
      refine j_get fl_X11_16 (rV_g_200_2 x s14) d11_load_66 ?_
      refine j_iload_n 1 rfl d11_load_69 ?_
      refine j_iald (rV_a_203 x s14) d11_load_70 ?_
      refine j_goto d11_load_71 ?_
      exact j_ireturn hq d11_load_75
noncomputable def m11_load_13 (n : Nat) (y3 : Int32) (y4 : Int32) (σ : ej_S) : Option (Int32 × ej_S) := ej_bi (m11_goes n y4 σ) fun r6 s5 => (if r6 = 0 then ej_ck 4 5 (ej_nm (uA s5 1 ((4 : Int32).toNatClampNeg) 0) fun s18 => (some (0, s18))) else ej_bi (m11_isRead n 4 s5) fun r8 s7 => (if r8 = 0 then (m11_load_44 n y3 r8 s7) else ej_bi (m11_isTaken n y3 s7) fun r17 s16 => (m11_load_44 n y3 r17 s16)))
set_option maxRecDepth 20000 in
set_option maxHeartbeats 2000000 in
theorem j11_load_13 (x : cw_T) (n : Nat) {F : ej_F} {r0 : Int32 × ej_S} (hq : ej_fin (rV x) F (some .int) (some (.int r0.1)) r0.2) (y3 : Int32) (y4 : Int32) (σ : ej_S) : ej_J (rV x) F i11_load r0 σ 13 [(0, .ref (cw_a x 200)), (1, .int y3)] [.int y4, .ref (cw_a x 200)] (m11_load_13 n y3 y4 σ) := by
  unfold m11_load_13
  refine j_callVi (c11_goes x n y4 σ) lv_X11_342 (rV_rc_200 x σ) ⟨Nat.le_of_ble_eq_true rfl, Nat.le_of_ble_eq_true rfl⟩ d11_load_13 rfl (Nat.le_of_ble_eq_true rfl) (fun r6 s5 => ?_)
  refine j_if_ne d11_load_16 ?_ ?_
  · refine j_aload_n 0 rfl d11_load_28 ?_
    refine j_iconst d11_load_29 ejc_4 ?_
    refine j_callVi (c11_isRead x n 4 s5) lv_X11_288 (rV_rc_200 x s5) ⟨Nat.le_of_ble_eq_true rfl, Nat.le_of_ble_eq_true rfl⟩ d11_load_30 rfl (Nat.le_of_ble_eq_true rfl) (fun r8 s7 => ?_)
    refine j_istore_n (i := 2) (L' := [(2, .int r8), (0, .ref (cw_a x 200)), (1, .int y3)]) d11_load_33 rfl (Nat.le_of_ble_eq_true rfl) rfl ?_
    refine j_iload_n 0 rfl d11_load_34 ?_
    refine j_if_eq d11_load_35 ?_ ?_
    · exact j_sub [1, 2, 0] rfl (j11_load_44 x n hq y3 r8 s7)
    · refine j_aload_n 1 rfl d11_load_38 ?_
      refine j_iload_n 2 rfl d11_load_39 ?_
      refine j_callVi (c11_isTaken x n y3 s7) lv_X11_354 (rV_rc_200 x s7) ⟨Nat.le_of_ble_eq_true rfl, Nat.le_of_ble_eq_true rfl⟩ d11_load_40 rfl (Nat.le_of_ble_eq_true rfl) (fun r17 s16 => ?_)
      refine j_istore_n (i := 2) (L' := [(2, .int r17), (0, .ref (cw_a x 200)), (1, .int y3)]) d11_load_43 rfl (Nat.le_of_ble_eq_true rfl) rfl ?_
      exact j_sub [1, 2, 0] rfl (j11_load_44 x n hq y3 r17 s16)
  · refine j_aload_n 0 rfl d11_load_19 ?_
    refine j_get fl_X11_13 (rV_g_200_1 x s5) d11_load_20 ?_
    refine j_iconst d11_load_23 ejc_4 ?_
    refine j_iconst d11_load_24 ejc_0 ?_
    refine j_iast (rV_s_202 x s5 ((4 : Int32).toNatClampNeg) 0) d11_load_25 (fun s18 => ?_)
    refine j_iconst d11_load_26 ejc_0 ?_
    exact j_ireturn hq d11_load_27
noncomputable def m11_load (n : Nat) (a1 : Int32) (σ : ej_S) : Option (Int32 × ej_S) := ej_bi (m11_isFile n a1 σ) fun r2 s1 => (if r2 = 0 then (m11_load_13 n a1 1 s1) else (m11_load_13 n a1 0 s1))
set_option maxRecDepth 20000 in
set_option maxHeartbeats 2000000 in
theorem j11_load (x : cw_T) (n : Nat) (a1 : Int32) (σ : ej_S) {F : ej_F} {r0 : Int32 × ej_S} (hq : ej_fin (rV x) F (some .int) (some (.int r0.1)) r0.2) : ej_J (rV x) F i11_load r0 σ 0 [(0, .ref (cw_a x 200)), (1, .int a1)] [] (m11_load n a1 σ) := by
  unfold m11_load
  refine j_aload_n 0 rfl d11_load_0 ?_
  refine j_iload_n 1 rfl d11_load_1 ?_
  refine j_callSi (c11_isFile x n a1 σ) ls_X11_351 ⟨Nat.le_of_ble_eq_true rfl, Nat.le_of_ble_eq_true rfl⟩ d11_load_2 rfl (Nat.le_of_ble_eq_true rfl) (fun r2 s1 => ?_)
  refine j_if_eq d11_load_5 ?_ ?_
  · refine j_iconst d11_load_12 ejc_1 ?_
    exact j_sub [0, 1] rfl (j11_load_13 x n hq a1 1 s1)
  · refine j_iconst d11_load_8 ejc_0 ?_
    refine j_goto d11_load_9 ?_
    exact j_sub [0, 1] rfl (j11_load_13 x n hq a1 0 s1)
theorem c11_load (x : cw_T) (n : Nat) (a1 : Int32) (σ : ej_S) : ∀ r σ1, m11_load n a1 σ = some (r, σ1) → ∀ l, ej_Con l (rV x) i11_load yX11_load (some .int) [.ref (cw_a x 200), .int a1] σ (some (.int r)) σ1 := fun r σ1 h l => ej_con_of (rV_ok x) pn_X11 rfl (Nat.le_of_ble_eq_true rfl) rfl h (fun F hq => j11_load x n a1 σ hq)

noncomputable def m11_drop_13 (n : Nat) (y3 : Int32) (y4 : Int32) (σ : ej_S) : Option (Int32 × ej_S) := ej_bi (m11_goes n y4 σ) fun r6 s5 => (if r6 = 0 then (some (0, s5)) else ej_ck y3 4 (ej_nm (gA s5 2 y3.toNatClampNeg) fun x7 => ej_ck y3 5 (ej_nm (uA s5 1 (y3.toNatClampNeg) 0) fun s8 => ej_bv (m11_rebuilds n s8) fun s9 => (some (x7, s9)))))
set_option maxRecDepth 20000 in
set_option maxHeartbeats 2000000 in
theorem j11_drop_13 (x : cw_T) (n : Nat) {F : ej_F} {r0 : Int32 × ej_S} (hq : ej_fin (rV x) F (some .int) (some (.int r0.1)) r0.2) (y3 : Int32) (y4 : Int32) (σ : ej_S) : ej_J (rV x) F i11_drop r0 σ 13 [(0, .ref (cw_a x 200)), (1, .int y3)] [.int y4, .ref (cw_a x 200)] (m11_drop_13 n y3 y4 σ) := by
  unfold m11_drop_13
  refine j_callVi (c11_goes x n y4 σ) lv_X11_342 (rV_rc_200 x σ) ⟨Nat.le_of_ble_eq_true rfl, Nat.le_of_ble_eq_true rfl⟩ d11_drop_13 rfl (Nat.le_of_ble_eq_true rfl) (fun r6 s5 => ?_)
  refine j_if_ne d11_drop_16 ?_ ?_
  · refine j_aload_n 0 rfl d11_drop_21 ?_
    refine j_get fl_X11_16 (rV_g_200_2 x s5) d11_drop_22 ?_
    refine j_iload_n 1 rfl d11_drop_25 ?_
    refine j_iald (rV_a_203 x s5) d11_drop_26 ?_
    refine j_nmi (fun x7 => ?_)
    refine j_istore_n (i := 2) (L' := [(2, .int x7), (0, .ref (cw_a x 200)), (1, .int y3)]) d11_drop_27 rfl (Nat.le_of_ble_eq_true rfl) rfl ?_
    refine j_aload_n 1 rfl d11_drop_28 ?_
    refine j_get fl_X11_13 (rV_g_200_1 x s5) d11_drop_29 ?_
    refine j_iload_n 2 rfl d11_drop_32 ?_
    refine j_iconst d11_drop_33 ejc_0 ?_
    refine j_iast (rV_s_202 x s5 (y3.toNatClampNeg) 0) d11_drop_34 (fun s8 => ?_)
    refine j_aload_n 1 rfl d11_drop_35 ?_
    refine j_callVv (c11_rebuilds x n s8) lv_X11_109 (rV_rc_200 x s8) ⟨Nat.le_of_ble_eq_true rfl, Nat.le_of_ble_eq_true rfl⟩ d11_drop_36 rfl (Nat.le_of_ble_eq_true rfl) (fun s9 => ?_)
    refine j_iload_n 0 rfl d11_drop_39 ?_
    exact j_ireturn hq d11_drop_40
  · refine j_iconst d11_drop_19 ejc_0 ?_
    exact j_ireturn hq d11_drop_20
noncomputable def m11_drop (n : Nat) (a1 : Int32) (σ : ej_S) : Option (Int32 × ej_S) := ej_bi (m11_isFile n a1 σ) fun r2 s1 => (if r2 = 0 then (m11_drop_13 n a1 1 s1) else (m11_drop_13 n a1 0 s1))
set_option maxRecDepth 20000 in
set_option maxHeartbeats 2000000 in
theorem j11_drop (x : cw_T) (n : Nat) (a1 : Int32) (σ : ej_S) {F : ej_F} {r0 : Int32 × ej_S} (hq : ej_fin (rV x) F (some .int) (some (.int r0.1)) r0.2) : ej_J (rV x) F i11_drop r0 σ 0 [(0, .ref (cw_a x 200)), (1, .int a1)] [] (m11_drop n a1 σ) := by
  unfold m11_drop
  refine j_aload_n 0 rfl d11_drop_0 ?_
  refine j_iload_n 1 rfl d11_drop_1 ?_
  refine j_callSi (c11_isFile x n a1 σ) ls_X11_351 ⟨Nat.le_of_ble_eq_true rfl, Nat.le_of_ble_eq_true rfl⟩ d11_drop_2 rfl (Nat.le_of_ble_eq_true rfl) (fun r2 s1 => ?_)
  refine j_if_eq d11_drop_5 ?_ ?_
  · refine j_iconst d11_drop_12 ejc_1 ?_
    exact j_sub [0, 1] rfl (j11_drop_13 x n hq a1 1 s1)
  · refine j_iconst d11_drop_8 ejc_0 ?_
    refine j_goto d11_drop_9 ?_
    exact j_sub [0, 1] rfl (j11_drop_13 x n hq a1 0 s1)
theorem c11_drop (x : cw_T) (n : Nat) (a1 : Int32) (σ : ej_S) : ∀ r σ1, m11_drop n a1 σ = some (r, σ1) → ∀ l, ej_Con l (rV x) i11_drop yX11_drop (some .int) [.ref (cw_a x 200), .int a1] σ (some (.int r)) σ1 := fun r σ1 h l => ej_con_of (rV_ok x) pn_X11 rfl (Nat.le_of_ble_eq_true rfl) rfl h (fun F hq => j11_drop x n a1 σ hq)

noncomputable def m11_value_51 (n : Nat) (y8 : Int32) (σ : ej_S) : Option (Int32 × ej_S) := ej_bv (m11_tells n y8 σ) fun s9 => (if y8 = 0 then ej_bi (m11_goes n 1 s9) fun r11 s10 => (if r11 = 0 then (some (0, s10)) else (some (gI s10 14, s10))) else ej_bi (m11_goes n 0 s9) fun r13 s12 => (if r13 = 0 then (some (0, s12)) else (some (gI s12 14, s12))))
set_option maxRecDepth 20000 in
set_option maxHeartbeats 2000000 in
theorem j11_value_51 (x : cw_T) (n : Nat) {F : ej_F} {r0 : Int32 × ej_S} (hq : ej_fin (rV x) F (some .int) (some (.int r0.1)) r0.2) (y8 : Int32) (σ : ej_S) : ej_J (rV x) F i11_value r0 σ 51 [(0, .ref (cw_a x 200))] [.int y8] (m11_value_51 n y8 σ) := by
  unfold m11_value_51
  refine j_istore_n (i := 1) (L' := [(1, .int y8), (0, .ref (cw_a x 200))]) d11_value_51 rfl (Nat.le_of_ble_eq_true rfl) rfl ?_
  refine j_aload_n 1 rfl d11_value_52 ?_
  refine j_iload_n 0 rfl d11_value_53 ?_
  refine j_callVv (c11_tells x n y8 σ) lv_X11_357 (rV_rc_200 x σ) ⟨Nat.le_of_ble_eq_true rfl, Nat.le_of_ble_eq_true rfl⟩ d11_value_54 rfl (Nat.le_of_ble_eq_true rfl) (fun s9 => ?_)
  refine j_aload_n 1 rfl d11_value_57 ?_
  refine j_iload_n 0 rfl d11_value_58 ?_
  refine j_if_eq d11_value_59 ?_ ?_
  · refine j_iconst d11_value_66 ejc_1 ?_
    refine j_callVi (c11_goes x n 1 s9) lv_X11_342 (rV_rc_200 x s9) ⟨Nat.le_of_ble_eq_true rfl, Nat.le_of_ble_eq_true rfl⟩ d11_value_67 rfl (Nat.le_of_ble_eq_true rfl) (fun r11 s10 => ?_)
    refine j_if_eq d11_value_70 ?_ ?_
    · refine j_iconst d11_value_80 ejc_0 ?_
      exact j_ireturn hq d11_value_81
    · refine j_aload_n 1 rfl d11_value_73 ?_
      refine j_get fl_X11_184 (rV_g_200_27 x s10) d11_value_74 ?_
      refine j_goto d11_value_77 ?_
      exact j_ireturn hq d11_value_81
  · refine j_iconst d11_value_62 ejc_0 ?_
    refine j_goto d11_value_63 ?_
    refine j_callVi (c11_goes x n 0 s9) lv_X11_342 (rV_rc_200 x s9) ⟨Nat.le_of_ble_eq_true rfl, Nat.le_of_ble_eq_true rfl⟩ d11_value_67 rfl (Nat.le_of_ble_eq_true rfl) (fun r13 s12 => ?_)
    refine j_if_eq d11_value_70 ?_ ?_
    · refine j_iconst d11_value_80 ejc_0 ?_
      exact j_ireturn hq d11_value_81
    · refine j_aload_n 1 rfl d11_value_73 ?_
      refine j_get fl_X11_184 (rV_g_200_27 x s12) d11_value_74 ?_
      refine j_goto d11_value_77 ?_
      exact j_ireturn hq d11_value_81
noncomputable def m11_value (n : Nat)  (σ : ej_S) : Option (Int32 × ej_S) := ej_nm (uI σ 0 4) fun s1 => ej_nm (uI s1 1 0) fun s2 => ej_nm (uI s2 9 0) fun s3 => ej_nm (uI s3 10 0) fun s4 => ej_bv (m11_next n s4) fun s5 => ej_bi (m11_isSum n s5) fun r7 s6 => (if r7 = 0 then (m11_value_51 n 0 s6) else (if gI s6 2 = 0 then (m11_value_51 n 1 s6) else ej_bi (m11_failsHere n 1 s6) fun r15 s14 => (if r15 = 0 then (m11_value_51 n 0 s14) else (m11_value_51 n 1 s14))))
set_option maxRecDepth 20000 in
set_option maxHeartbeats 2000000 in
theorem j11_value (x : cw_T) (n : Nat)  (σ : ej_S) {F : ej_F} {r0 : Int32 × ej_S} (hq : ej_fin (rV x) F (some .int) (some (.int r0.1)) r0.2) : ej_J (rV x) F i11_value r0 σ 0 [(0, .ref (cw_a x 200))] [] (m11_value n  σ) := by
  unfold m11_value
  refine j_aload_n 0 rfl d11_value_0 ?_
  refine j_iconst d11_value_1 ejc_4 ?_
  refine j_put fl_X11_124 (rV_p_200_6 x σ 4) rfl rfl d11_value_2 (fun s1 => ?_)
  refine j_aload_n 0 rfl d11_value_5 ?_
  refine j_iconst d11_value_6 ejc_0 ?_
  refine j_put fl_X11_138 (rV_p_200_7 x s1 0) rfl rfl d11_value_7 (fun s2 => ?_)
  refine j_aload_n 0 rfl d11_value_10 ?_
  refine j_iconst d11_value_11 ejc_0 ?_
  refine j_put fl_X11_174 (rV_p_200_16 x s2 0) rfl rfl d11_value_12 (fun s3 => ?_)
  refine j_aload_n 0 rfl d11_value_15 ?_
  refine j_iconst d11_value_16 ejc_0 ?_
  refine j_put fl_X11_177 (rV_p_200_17 x s3 0) rfl rfl d11_value_17 (fun s4 => ?_)
  refine j_aload_n 0 rfl d11_value_20 ?_
  refine j_callVv (c11_next x n s4) lv_X11_201 (rV_rc_200 x s4) ⟨Nat.le_of_ble_eq_true rfl, Nat.le_of_ble_eq_true rfl⟩ d11_value_21 rfl (Nat.le_of_ble_eq_true rfl) (fun s5 => ?_)
  refine j_aload_n 0 rfl d11_value_24 ?_
  refine j_callVi (c11_isSum x n s5) lv_X11_212 (rV_rc_200 x s5) ⟨Nat.le_of_ble_eq_true rfl, Nat.le_of_ble_eq_true rfl⟩ d11_value_25 rfl (Nat.le_of_ble_eq_true rfl) (fun r7 s6 => ?_)
  refine j_if_eq d11_value_28 ?_ ?_
  · refine j_iconst d11_value_50 ejc_0 ?_
    exact j_sub [0] rfl (j11_value_51 x n hq 0 s6)
  · refine j_aload_n 0 rfl d11_value_31 ?_
    refine j_get fl_X11_161 (rV_g_200_8 x s6) d11_value_32 ?_
    refine j_if_eq d11_value_35 ?_ ?_
    · refine j_iconst d11_value_46 ejc_1 ?_
      refine j_goto d11_value_47 ?_
      exact j_sub [0] rfl (j11_value_51 x n hq 1 s6)
    · refine j_aload_n 0 rfl d11_value_38 ?_
      refine j_iconst d11_value_39 ejc_1 ?_
      refine j_callVi (c11_failsHere x n 1 s6) lv_X11_187 (rV_rc_200 x s6) ⟨Nat.le_of_ble_eq_true rfl, Nat.le_of_ble_eq_true rfl⟩ d11_value_40 rfl (Nat.le_of_ble_eq_true rfl) (fun r15 s14 => ?_)
      refine j_if_eq d11_value_43 ?_ ?_
      · refine j_iconst d11_value_50 ejc_0 ?_
        exact j_sub [0] rfl (j11_value_51 x n hq 0 s14)
      · refine j_iconst d11_value_46 ejc_1 ?_
        refine j_goto d11_value_47 ?_
        exact j_sub [0] rfl (j11_value_51 x n hq 1 s14)
theorem c11_value (x : cw_T) (n : Nat)  (σ : ej_S) : ∀ r σ1, m11_value n  σ = some (r, σ1) → ∀ l, ej_Con l (rV x) i11_value yX11_value (some .int) [.ref (cw_a x 200)] σ (some (.int r)) σ1 := fun r σ1 h l => ej_con_of (rV_ok x) pn_X11 rfl (Nat.le_of_ble_eq_true rfl) rfl h (fun F hq => j11_value x n  σ hq)

noncomputable def m11_fault (n : Nat) (a1 : Int32) (σ : ej_S) : Option (Int32 × ej_S) := ej_nm (uI σ 19 0) fun s1 => (if a1 = 0 then (some (gI s1 11, s1)) else (some (gI s1 12, s1)))
set_option maxRecDepth 20000 in
set_option maxHeartbeats 2000000 in
theorem j11_fault (x : cw_T) (n : Nat) (a1 : Int32) (σ : ej_S) {F : ej_F} {r0 : Int32 × ej_S} (hq : ej_fin (rV x) F (some .int) (some (.int r0.1)) r0.2) : ej_J (rV x) F i11_fault r0 σ 0 [(0, .ref (cw_a x 200)), (1, .int a1)] [] (m11_fault n a1 σ) := by
  unfold m11_fault
  refine j_aload_n 0 rfl d11_fault_0 ?_
  refine j_iconst d11_fault_1 ejc_0 ?_
  refine j_put fl_X11_120 (rV_p_200_52 x σ 0) rfl rfl d11_fault_2 (fun s1 => ?_)
  refine j_iload_n 1 rfl d11_fault_5 ?_
  refine j_if_eq d11_fault_6 ?_ ?_
  · refine j_aload_n 0 rfl d11_fault_16 ?_
    refine j_get fl_X11_345 (rV_g_200_18 x s1) d11_fault_17 ?_
    exact j_ireturn hq d11_fault_20
  · refine j_aload_n 0 rfl d11_fault_9 ?_
    refine j_get fl_X11_348 (rV_g_200_19 x s1) d11_fault_10 ?_
    refine j_goto d11_fault_13 ?_
    exact j_ireturn hq d11_fault_20
theorem c11_fault (x : cw_T) (n : Nat) (a1 : Int32) (σ : ej_S) : ∀ r σ1, m11_fault n a1 σ = some (r, σ1) → ∀ l, ej_Con l (rV x) i11_fault yX11_fault (some .int) [.ref (cw_a x 200), .int a1] σ (some (.int r)) σ1 := fun r σ1 h l => ej_con_of (rV_ok x) pn_X11 rfl (Nat.le_of_ble_eq_true rfl) rfl h (fun F hq => j11_fault x n a1 σ hq)

noncomputable def m11_taped_55 (n : Nat) (k : Nat) : Int32 → Int64 → Int32 → Int32 → ej_S → Option (Int64 × ej_S) := Nat.rec (motive := fun _ => Int32 → Int64 → Int32 → Int32 → ej_S → Option (Int64 × ej_S)) (fun _ _ _ _ _ => none) (fun _ ih y5 y6 y7 y8 σ => (if y5 ≤ y8 then (if y7 = 0 then (some (0, σ)) else (some (y6, σ))) else (if y7 = 0 then (if y7 = 0 then (some (0, σ)) else (some (y6, σ))) else ej_bi (m11_code n y8 σ) fun r10 s9 => ej_bi (m11_goesOn n r10 s9) fun r12 s11 => ej_bi (m11_code n y8 s11) fun r14 s13 => ej_nm (y6 ||| ((r14.toInt64) <<< ((8 * y8).toInt64 &&& 63))) fun x15 => ej_nm (y8 + 1) fun x16 => (ih y5 x15 r12 x16 s13)))) k
theorem m11_taped_55_s (n : Nat) (k : Nat) (y5 : Int32) (y6 : Int64) (y7 : Int32) (y8 : Int32) (σ : ej_S) : m11_taped_55 n (k + 1) y5 y6 y7 y8 σ = ((if y5 ≤ y8 then (if y7 = 0 then (some (0, σ)) else (some (y6, σ))) else (if y7 = 0 then (if y7 = 0 then (some (0, σ)) else (some (y6, σ))) else ej_bi (m11_code n y8 σ) fun r10 s9 => ej_bi (m11_goesOn n r10 s9) fun r12 s11 => ej_bi (m11_code n y8 s11) fun r14 s13 => ej_nm (y6 ||| ((r14.toInt64) <<< ((8 * y8).toInt64 &&& 63))) fun x15 => ej_nm (y8 + 1) fun x16 => ((m11_taped_55 n k) y5 x15 r12 x16 s13))) : Option (Int64 × ej_S)) := rfl
set_option maxRecDepth 20000 in
set_option maxHeartbeats 2000000 in
theorem j11_taped_55 (x : cw_T) (n : Nat) {F : ej_F} {r0 : Int64 × ej_S} (hq : ej_fin (rV x) F (some .long) (some (.long r0.1)) r0.2) : ∀ (k : Nat) (y5 : Int32) (y6 : Int64) (y7 : Int32) (y8 : Int32) (σ : ej_S), ej_J (rV x) F i11_taped r0 σ 55 [(0, .ref (cw_a x 200)), (1, .int y5), (2, .long y6), (4, .int y7), (5, .int y8)] [] (m11_taped_55 n k y5 y6 y7 y8 σ) := by
  intro k
  induction k with
  | zero => intro y5 y6 y7 y8 σ; exact j_none
  | succ k ih =>
    intro y5 y6 y7 y8 σ
    rw [m11_taped_55_s]
    refine j_iload 4 rfl d11_taped_55 ?_
    refine j_iload_n 1 rfl d11_taped_57 ?_
    refine j_icmp_ge d11_taped_58 ?_ ?_
    · refine j_iload 3 rfl d11_taped_99 ?_
      refine j_if_eq d11_taped_101 ?_ ?_
      · refine j_lconst d11_taped_108 ejl_0 ?_
        exact j_lreturn hq d11_taped_109
      · refine j_lload_n 2 rfl d11_taped_104 ?_
        refine j_goto d11_taped_105 ?_
        exact j_lreturn hq d11_taped_109
    · refine j_iload 3 rfl d11_taped_61 ?_
      refine j_if_eq d11_taped_63 ?_ ?_
      · refine j_iload 3 rfl d11_taped_99 ?_
        refine j_if_eq d11_taped_101 ?_ ?_
        · refine j_lconst d11_taped_108 ejl_0 ?_
          exact j_lreturn hq d11_taped_109
        · refine j_lload_n 2 rfl d11_taped_104 ?_
          refine j_goto d11_taped_105 ?_
          exact j_lreturn hq d11_taped_109
      · refine j_aload_n 0 rfl d11_taped_66 ?_
        refine j_iload 4 rfl d11_taped_67 ?_
        refine j_callVi (c11_code x n y8 σ) lv_X11_141 (rV_rc_200 x σ) ⟨Nat.le_of_ble_eq_true rfl, Nat.le_of_ble_eq_true rfl⟩ d11_taped_69 rfl (Nat.le_of_ble_eq_true rfl) (fun r10 s9 => ?_)
        refine j_callSi (c11_goesOn x n r10 s9) ls_X11_164 ⟨Nat.le_of_ble_eq_true rfl, Nat.le_of_ble_eq_true rfl⟩ d11_taped_72 rfl (Nat.le_of_ble_eq_true rfl) (fun r12 s11 => ?_)
        refine j_istore (i := 4) (L' := [(4, .int r12), (0, .ref (cw_a x 200)), (1, .int y5), (2, .long y6), (5, .int y8)]) d11_taped_75 (Nat.le_of_ble_eq_true rfl) rfl ?_
        refine j_lload_n 3 rfl d11_taped_77 ?_
        refine j_aload_n 1 rfl d11_taped_78 ?_
        refine j_iload 4 rfl d11_taped_79 ?_
        refine j_callVi (c11_code x n y8 s11) lv_X11_141 (rV_rc_200 x s11) ⟨Nat.le_of_ble_eq_true rfl, Nat.le_of_ble_eq_true rfl⟩ d11_taped_81 rfl (Nat.le_of_ble_eq_true rfl) (fun r14 s13 => ?_)
        refine j_i2l d11_taped_84 ?_
        refine j_bipush d11_taped_85 ejb_8 ?_
        refine j_iload 4 rfl d11_taped_87 ?_
        refine j_imul d11_taped_89 ?_
        refine j_lshl d11_taped_90 ?_
        refine j_lor d11_taped_91 ?_
        refine j_nml (fun x15 => ?_)
        refine j_lstore_n (i := 2) (L' := [(2, .long x15), (4, .int r12), (0, .ref (cw_a x 200)), (1, .int y5), (5, .int y8)]) d11_taped_92 rfl (Nat.le_of_ble_eq_true rfl) rfl ?_
        refine j_iinc (i := 5) (v := 1) (Ly := fun x16 => [(5, .int x16), (2, .long x15), (4, .int r12), (0, .ref (cw_a x 200)), (1, .int y5)]) 4 d11_taped_93 rfl ejc_1 (Nat.le_of_ble_eq_true rfl) (fun _ => rfl) (fun x16 => ?_)
        refine j_goto d11_taped_96 ?_
        exact j_sub [3, 4, 1, 2, 0] rfl (ih y5 x15 r12 x16 s13)
noncomputable def m11_taped (n : Nat)  (σ : ej_S) : Option (Int64 × ej_S) := ej_nm (uI σ 0 4) fun s1 => ej_ck 4 5 (ej_nm (gA s1 1 (4 : Int32).toNatClampNeg) fun x2 => ej_bi (m11_isIn n x2 1 8 s1) fun r4 s3 => (if r4 = 0 then (m11_taped_55 n n x2 0 0 0 s3) else ej_bi (m11_code n 0 s3) fun r18 s17 => ej_bi (m11_isSmall n r18 s17) fun r20 s19 => (if r20 = 0 then ej_bi (m11_code n 0 s19) fun r22 s21 => (if r22 = 46 then (m11_taped_55 n n x2 0 1 0 s21) else (m11_taped_55 n n x2 0 0 0 s21)) else (m11_taped_55 n n x2 0 1 0 s19))))
set_option maxRecDepth 20000 in
set_option maxHeartbeats 2000000 in
theorem j11_taped (x : cw_T) (n : Nat)  (σ : ej_S) {F : ej_F} {r0 : Int64 × ej_S} (hq : ej_fin (rV x) F (some .long) (some (.long r0.1)) r0.2) : ej_J (rV x) F i11_taped r0 σ 0 [(0, .ref (cw_a x 200))] [] (m11_taped n  σ) := by
  unfold m11_taped
  refine j_aload_n 0 rfl d11_taped_0 ?_
  refine j_iconst d11_taped_1 ejc_4 ?_
  refine j_put fl_X11_124 (rV_p_200_6 x σ 4) rfl rfl d11_taped_2 (fun s1 => ?_)
  refine j_aload_n 0 rfl d11_taped_5 ?_
  refine j_get fl_X11_13 (rV_g_200_1 x s1) d11_taped_6 ?_
  refine j_iconst d11_taped_9 ejc_4 ?_
  refine j_iald (rV_a_202 x s1) d11_taped_10 ?_
  refine j_nmi (fun x2 => ?_)
  refine j_istore_n (i := 1) (L' := [(1, .int x2), (0, .ref (cw_a x 200))]) d11_taped_11 rfl (Nat.le_of_ble_eq_true rfl) rfl ?_
  refine j_lconst d11_taped_12 ejl_0 ?_
  refine j_lstore_n (i := 2) (L' := [(2, .long 0), (1, .int x2), (0, .ref (cw_a x 200))]) d11_taped_13 rfl (Nat.le_of_ble_eq_true rfl) rfl ?_
  refine j_iload_n 1 rfl d11_taped_14 ?_
  refine j_iconst d11_taped_15 ejc_1 ?_
  refine j_bipush d11_taped_16 ejb_8 ?_
  refine j_callSi (c11_isIn x n x2 1 8 s1) ls_X11_127 ⟨Nat.le_of_ble_eq_true rfl, Nat.le_of_ble_eq_true rfl⟩ d11_taped_18 rfl (Nat.le_of_ble_eq_true rfl) (fun r4 s3 => ?_)
  refine j_if_eq d11_taped_21 ?_ ?_
  · refine j_iconst d11_taped_49 ejc_0 ?_
    refine j_istore (i := 4) (L' := [(4, .int 0), (2, .long 0), (1, .int x2), (0, .ref (cw_a x 200))]) d11_taped_50 (Nat.le_of_ble_eq_true rfl) rfl ?_
    refine j_iconst d11_taped_52 ejc_0 ?_
    refine j_istore (i := 5) (L' := [(5, .int 0), (4, .int 0), (2, .long 0), (1, .int x2), (0, .ref (cw_a x 200))]) d11_taped_53 (Nat.le_of_ble_eq_true rfl) rfl ?_
    exact j_sub [4, 3, 2, 1, 0] rfl (j11_taped_55 x n hq n x2 0 0 0 s3)
  · refine j_aload_n 2 rfl d11_taped_24 ?_
    refine j_iconst d11_taped_25 ejc_0 ?_
    refine j_callVi (c11_code x n 0 s3) lv_X11_141 (rV_rc_200 x s3) ⟨Nat.le_of_ble_eq_true rfl, Nat.le_of_ble_eq_true rfl⟩ d11_taped_26 rfl (Nat.le_of_ble_eq_true rfl) (fun r18 s17 => ?_)
    refine j_callSi (c11_isSmall x n r18 s17) ls_X11_131 ⟨Nat.le_of_ble_eq_true rfl, Nat.le_of_ble_eq_true rfl⟩ d11_taped_29 rfl (Nat.le_of_ble_eq_true rfl) (fun r20 s19 => ?_)
    refine j_if_ne d11_taped_32 ?_ ?_
    · refine j_iconst d11_taped_45 ejc_1 ?_
      refine j_goto d11_taped_46 ?_
      refine j_istore (i := 4) (L' := [(4, .int 1), (2, .long 0), (1, .int x2), (0, .ref (cw_a x 200))]) d11_taped_50 (Nat.le_of_ble_eq_true rfl) rfl ?_
      refine j_iconst d11_taped_52 ejc_0 ?_
      refine j_istore (i := 5) (L' := [(5, .int 0), (4, .int 1), (2, .long 0), (1, .int x2), (0, .ref (cw_a x 200))]) d11_taped_53 (Nat.le_of_ble_eq_true rfl) rfl ?_
      exact j_sub [4, 3, 2, 1, 0] rfl (j11_taped_55 x n hq n x2 0 1 0 s19)
    · refine j_aload_n 2 rfl d11_taped_35 ?_
      refine j_iconst d11_taped_36 ejc_0 ?_
      refine j_callVi (c11_code x n 0 s19) lv_X11_141 (rV_rc_200 x s19) ⟨Nat.le_of_ble_eq_true rfl, Nat.le_of_ble_eq_true rfl⟩ d11_taped_37 rfl (Nat.le_of_ble_eq_true rfl) (fun r22 s21 => ?_)
      refine j_bipush d11_taped_40 ejb_46 ?_
      refine j_icmp_ne d11_taped_42 ?_ ?_
      · refine j_iconst d11_taped_49 ejc_0 ?_
        refine j_istore (i := 4) (L' := [(4, .int 0), (2, .long 0), (1, .int x2), (0, .ref (cw_a x 200))]) d11_taped_50 (Nat.le_of_ble_eq_true rfl) rfl ?_
        refine j_iconst d11_taped_52 ejc_0 ?_
        refine j_istore (i := 5) (L' := [(5, .int 0), (4, .int 0), (2, .long 0), (1, .int x2), (0, .ref (cw_a x 200))]) d11_taped_53 (Nat.le_of_ble_eq_true rfl) rfl ?_
        exact j_sub [4, 3, 2, 1, 0] rfl (j11_taped_55 x n hq n x2 0 0 0 s21)
      · refine j_iconst d11_taped_45 ejc_1 ?_
        refine j_goto d11_taped_46 ?_
        refine j_istore (i := 4) (L' := [(4, .int 1), (2, .long 0), (1, .int x2), (0, .ref (cw_a x 200))]) d11_taped_50 (Nat.le_of_ble_eq_true rfl) rfl ?_
        refine j_iconst d11_taped_52 ejc_0 ?_
        refine j_istore (i := 5) (L' := [(5, .int 0), (4, .int 1), (2, .long 0), (1, .int x2), (0, .ref (cw_a x 200))]) d11_taped_53 (Nat.le_of_ble_eq_true rfl) rfl ?_
        exact j_sub [4, 3, 2, 1, 0] rfl (j11_taped_55 x n hq n x2 0 1 0 s21)
theorem c11_taped (x : cw_T) (n : Nat)  (σ : ej_S) : ∀ r σ1, m11_taped n  σ = some (r, σ1) → ∀ l, ej_Con l (rV x) i11_taped yX11_taped (some .long) [.ref (cw_a x 200)] σ (some (.long r)) σ1 := fun r σ1 h l => ej_con_of (rV_ok x) pn_X11 rfl (Nat.le_of_ble_eq_true rfl) rfl h (fun F hq => j11_taped x n  σ hq)

noncomputable def m11_setHome_24 (n : Nat) (y4 : Int64) (y5 : Int32) (σ : ej_S) : Option (Int32 × ej_S) := ej_bi (m11_goes n y5 σ) fun r7 s6 => (if r7 = 0 then (some (0, s6)) else ej_nm (uJ s6 1 y4) fun s8 => ej_bv (m11_solves n s8) fun s9 => ej_bi (m11_homeNode n s9) fun r11 s10 => (some (r11, s10)))
set_option maxRecDepth 20000 in
set_option maxHeartbeats 2000000 in
theorem j11_setHome_24 (x : cw_T) (n : Nat) {F : ej_F} {r0 : Int32 × ej_S} (hq : ej_fin (rV x) F (some .int) (some (.int r0.1)) r0.2) (y4 : Int64) (y5 : Int32) (σ : ej_S) : ej_J (rV x) F i11_setHome r0 σ 24 [(0, .ref (cw_a x 200)), (1, .long y4)] [.int y5, .ref (cw_a x 200)] (m11_setHome_24 n y4 y5 σ) := by
  unfold m11_setHome_24
  refine j_callVi (c11_goes x n y5 σ) lv_X11_342 (rV_rc_200 x σ) ⟨Nat.le_of_ble_eq_true rfl, Nat.le_of_ble_eq_true rfl⟩ d11_setHome_24 rfl (Nat.le_of_ble_eq_true rfl) (fun r7 s6 => ?_)
  refine j_if_ne d11_setHome_27 ?_ ?_
  · refine j_aload_n 0 rfl d11_setHome_32 ?_
    refine j_lload_n 1 rfl d11_setHome_33 ?_
    refine j_put fl_X11_365 (rV_p_200_43 x s6 y4) rfl rfl d11_setHome_34 (fun s8 => ?_)
    refine j_aload_n 0 rfl d11_setHome_37 ?_
    refine j_callVv (c11_solves x n s8) lv_X11_291 (rV_rc_200 x s8) ⟨Nat.le_of_ble_eq_true rfl, Nat.le_of_ble_eq_true rfl⟩ d11_setHome_38 rfl (Nat.le_of_ble_eq_true rfl) (fun s9 => ?_)
    refine j_aload_n 0 rfl d11_setHome_41 ?_
    refine j_callVi (c11_homeNode x n s9) lv_X11_320 (rV_rc_200 x s9) ⟨Nat.le_of_ble_eq_true rfl, Nat.le_of_ble_eq_true rfl⟩ d11_setHome_42 rfl (Nat.le_of_ble_eq_true rfl) (fun r11 s10 => ?_)
    exact j_ireturn hq d11_setHome_45
  · refine j_iconst d11_setHome_30 ejc_0 ?_
    exact j_ireturn hq d11_setHome_31
noncomputable def m11_setHome (n : Nat)  (σ : ej_S) : Option (Int32 × ej_S) := ej_bl (m11_taped n σ) fun r2 s1 => ej_ck 4 5 (ej_nm (uA s1 1 ((4 : Int32).toNatClampNeg) 0) fun s3 => (if lg_cmp r2 0 = 0 then (m11_setHome_24 n r2 1 s3) else (m11_setHome_24 n r2 0 s3)))
set_option maxRecDepth 20000 in
set_option maxHeartbeats 2000000 in
theorem j11_setHome (x : cw_T) (n : Nat)  (σ : ej_S) {F : ej_F} {r0 : Int32 × ej_S} (hq : ej_fin (rV x) F (some .int) (some (.int r0.1)) r0.2) : ej_J (rV x) F i11_setHome r0 σ 0 [(0, .ref (cw_a x 200))] [] (m11_setHome n  σ) := by
  unfold m11_setHome
  refine j_aload_n 0 rfl d11_setHome_0 ?_
  refine j_callVl (c11_taped x n σ) lv_X11_361 (rV_rc_200 x σ) ⟨Nat.le_of_ble_eq_true rfl, Nat.le_of_ble_eq_true rfl⟩ d11_setHome_1 rfl (Nat.le_of_ble_eq_true rfl) (fun r2 s1 => ?_)
  refine j_lstore_n (i := 1) (L' := [(1, .long r2), (0, .ref (cw_a x 200))]) d11_setHome_4 rfl (Nat.le_of_ble_eq_true rfl) rfl ?_
  refine j_aload_n 1 rfl d11_setHome_5 ?_
  refine j_get fl_X11_13 (rV_g_200_1 x s1) d11_setHome_6 ?_
  refine j_iconst d11_setHome_9 ejc_4 ?_
  refine j_iconst d11_setHome_10 ejc_0 ?_
  refine j_iast (rV_s_202 x s1 ((4 : Int32).toNatClampNeg) 0) d11_setHome_11 (fun s3 => ?_)
  refine j_aload_n 1 rfl d11_setHome_12 ?_
  refine j_lload_n 0 rfl d11_setHome_13 ?_
  refine j_lconst d11_setHome_14 ejl_0 ?_
  refine j_lcmp d11_setHome_15 ?_
  refine j_if_ne d11_setHome_16 ?_ ?_
  · refine j_iconst d11_setHome_23 ejc_0 ?_
    exact j_sub [1, 0] rfl (j11_setHome_24 x n hq r2 0 s3)
  · refine j_iconst d11_setHome_19 ejc_1 ?_
    refine j_goto d11_setHome_20 ?_
    exact j_sub [1, 0] rfl (j11_setHome_24 x n hq r2 1 s3)
theorem c11_setHome (x : cw_T) (n : Nat)  (σ : ej_S) : ∀ r σ1, m11_setHome n  σ = some (r, σ1) → ∀ l, ej_Con l (rV x) i11_setHome yX11_setHome (some .int) [.ref (cw_a x 200)] σ (some (.int r)) σ1 := fun r σ1 h l => ej_con_of (rV_ok x) pn_X11 rfl (Nat.le_of_ble_eq_true rfl) rfl h (fun F hq => j11_setHome x n  σ hq)

noncomputable def m11_home (n : Nat)  (σ : ej_S) : Option (Int32 × ej_S) := ej_nm (uI σ 19 0) fun s1 => ej_bi (m11_homeNode n s1) fun r3 s2 => (some (r3, s2))
set_option maxRecDepth 20000 in
set_option maxHeartbeats 2000000 in
theorem j11_home (x : cw_T) (n : Nat)  (σ : ej_S) {F : ej_F} {r0 : Int32 × ej_S} (hq : ej_fin (rV x) F (some .int) (some (.int r0.1)) r0.2) : ej_J (rV x) F i11_home r0 σ 0 [(0, .ref (cw_a x 200))] [] (m11_home n  σ) := by
  unfold m11_home
  refine j_aload_n 0 rfl d11_home_0 ?_
  refine j_iconst d11_home_1 ejc_0 ?_
  refine j_put fl_X11_120 (rV_p_200_52 x σ 0) rfl rfl d11_home_2 (fun s1 => ?_)
  refine j_aload_n 0 rfl d11_home_5 ?_
  refine j_callVi (c11_homeNode x n s1) lv_X11_320 (rV_rc_200 x s1) ⟨Nat.le_of_ble_eq_true rfl, Nat.le_of_ble_eq_true rfl⟩ d11_home_6 rfl (Nat.le_of_ble_eq_true rfl) (fun r3 s2 => ?_)
  exact j_ireturn hq d11_home_9
theorem c11_home (x : cw_T) (n : Nat)  (σ : ej_S) : ∀ r σ1, m11_home n  σ = some (r, σ1) → ∀ l, ej_Con l (rV x) i11_home yX11_home (some .int) [.ref (cw_a x 200)] σ (some (.int r)) σ1 := fun r σ1 h l => ej_con_of (rV_ok x) pn_X11 rfl (Nat.le_of_ble_eq_true rfl) rfl h (fun F hq => j11_home x n  σ hq)

noncomputable def m11_lookUp (n : Nat)  (σ : ej_S) : Option (Int32 × ej_S) := ej_nm (uI σ 19 0) fun s1 => ej_bl (m11_taped n s1) fun r3 s2 => ej_ck 4 5 (ej_nm (uA s2 1 ((4 : Int32).toNatClampNeg) 0) fun s4 => (if lg_cmp r3 0 = 0 then (some ((-1), s4)) else ej_bi (m11_found n r3 (-1) s4) fun r6 s5 => (some (r6, s5))))
set_option maxRecDepth 20000 in
set_option maxHeartbeats 2000000 in
theorem j11_lookUp (x : cw_T) (n : Nat)  (σ : ej_S) {F : ej_F} {r0 : Int32 × ej_S} (hq : ej_fin (rV x) F (some .int) (some (.int r0.1)) r0.2) : ej_J (rV x) F i11_lookUp r0 σ 0 [(0, .ref (cw_a x 200))] [] (m11_lookUp n  σ) := by
  unfold m11_lookUp
  refine j_aload_n 0 rfl d11_lookUp_0 ?_
  refine j_iconst d11_lookUp_1 ejc_0 ?_
  refine j_put fl_X11_120 (rV_p_200_52 x σ 0) rfl rfl d11_lookUp_2 (fun s1 => ?_)
  refine j_aload_n 0 rfl d11_lookUp_5 ?_
  refine j_callVl (c11_taped x n s1) lv_X11_361 (rV_rc_200 x s1) ⟨Nat.le_of_ble_eq_true rfl, Nat.le_of_ble_eq_true rfl⟩ d11_lookUp_6 rfl (Nat.le_of_ble_eq_true rfl) (fun r3 s2 => ?_)
  refine j_lstore_n (i := 1) (L' := [(1, .long r3), (0, .ref (cw_a x 200))]) d11_lookUp_9 rfl (Nat.le_of_ble_eq_true rfl) rfl ?_
  refine j_aload_n 1 rfl d11_lookUp_10 ?_
  refine j_get fl_X11_13 (rV_g_200_1 x s2) d11_lookUp_11 ?_
  refine j_iconst d11_lookUp_14 ejc_4 ?_
  refine j_iconst d11_lookUp_15 ejc_0 ?_
  refine j_iast (rV_s_202 x s2 ((4 : Int32).toNatClampNeg) 0) d11_lookUp_16 (fun s4 => ?_)
  refine j_lload_n 0 rfl d11_lookUp_17 ?_
  refine j_lconst d11_lookUp_18 ejl_0 ?_
  refine j_lcmp d11_lookUp_19 ?_
  refine j_if_ne d11_lookUp_20 ?_ ?_
  · refine j_aload_n 1 rfl d11_lookUp_27 ?_
    refine j_lload_n 0 rfl d11_lookUp_28 ?_
    refine j_iconst d11_lookUp_29 ejc_m1 ?_
    refine j_callVi (c11_found x n r3 (-1) s4) lv_X11_281 (rV_rc_200 x s4) ⟨Nat.le_of_ble_eq_true rfl, Nat.le_of_ble_eq_true rfl⟩ d11_lookUp_30 rfl (Nat.le_of_ble_eq_true rfl) (fun r6 s5 => ?_)
    exact j_ireturn hq d11_lookUp_33
  · refine j_iconst d11_lookUp_23 ejc_m1 ?_
    refine j_goto d11_lookUp_24 ?_
    exact j_ireturn hq d11_lookUp_33
theorem c11_lookUp (x : cw_T) (n : Nat)  (σ : ej_S) : ∀ r σ1, m11_lookUp n  σ = some (r, σ1) → ∀ l, ej_Con l (rV x) i11_lookUp yX11_lookUp (some .int) [.ref (cw_a x 200)] σ (some (.int r)) σ1 := fun r σ1 h l => ej_con_of (rV_ok x) pn_X11 rfl (Nat.le_of_ble_eq_true rfl) rfl h (fun F hq => j11_lookUp x n  σ hq)

noncomputable def m11_nodes (n : Nat)  (σ : ej_S) : Option (Int32 × ej_S) := ej_nm (uI σ 19 0) fun s1 => (some (gI s1 15, s1))
set_option maxRecDepth 20000 in
set_option maxHeartbeats 2000000 in
theorem j11_nodes (x : cw_T) (n : Nat)  (σ : ej_S) {F : ej_F} {r0 : Int32 × ej_S} (hq : ej_fin (rV x) F (some .int) (some (.int r0.1)) r0.2) : ej_J (rV x) F i11_nodes r0 σ 0 [(0, .ref (cw_a x 200))] [] (m11_nodes n  σ) := by
  unfold m11_nodes
  refine j_aload_n 0 rfl d11_nodes_0 ?_
  refine j_iconst d11_nodes_1 ejc_0 ?_
  refine j_put fl_X11_120 (rV_p_200_52 x σ 0) rfl rfl d11_nodes_2 (fun s1 => ?_)
  refine j_aload_n 0 rfl d11_nodes_5 ?_
  refine j_get fl_X11_272 (rV_g_200_28 x s1) d11_nodes_6 ?_
  exact j_ireturn hq d11_nodes_9
theorem c11_nodes (x : cw_T) (n : Nat)  (σ : ej_S) : ∀ r σ1, m11_nodes n  σ = some (r, σ1) → ∀ l, ej_Con l (rV x) i11_nodes yX11_nodes (some .int) [.ref (cw_a x 200)] σ (some (.int r)) σ1 := fun r σ1 h l => ej_con_of (rV_ok x) pn_X11 rfl (Nat.le_of_ble_eq_true rfl) rfl h (fun F hq => j11_nodes x n  σ hq)

noncomputable def m11_isNode (n : Nat) (a1 : Int32) (σ : ej_S) : Option (Int32 × ej_S) := ej_bi (m11_isIn n a1 0 ((gI σ 15) - 1) σ) fun r2 s1 => (some (ej_bz r2, s1))
set_option maxRecDepth 20000 in
set_option maxHeartbeats 2000000 in
theorem j11_isNode (x : cw_T) (n : Nat) (a1 : Int32) (σ : ej_S) {F : ej_F} {r0 : Int32 × ej_S} (hq : ej_fin (rV x) F (some .boolean) (some (.int r0.1)) r0.2) : ej_J (rV x) F i11_isNode r0 σ 0 [(0, .ref (cw_a x 200)), (1, .int a1)] [] (m11_isNode n a1 σ) := by
  unfold m11_isNode
  refine j_iload_n 1 rfl d11_isNode_0 ?_
  refine j_iconst d11_isNode_1 ejc_0 ?_
  refine j_aload_n 0 rfl d11_isNode_2 ?_
  refine j_get fl_X11_272 (rV_g_200_28 x σ) d11_isNode_3 ?_
  refine j_iconst d11_isNode_6 ejc_1 ?_
  refine j_isub d11_isNode_7 ?_
  refine j_callSi (c11_isIn x n a1 0 ((gI σ 15) - 1) σ) ls_X11_127 ⟨Nat.le_of_ble_eq_true rfl, Nat.le_of_ble_eq_true rfl⟩ d11_isNode_8 rfl (Nat.le_of_ble_eq_true rfl) (fun r2 s1 => ?_)
  exact j_zreturn hq d11_isNode_11
theorem c11_isNode (x : cw_T) (n : Nat) (a1 : Int32) (σ : ej_S) : ∀ r σ1, m11_isNode n a1 σ = some (r, σ1) → ∀ l, ej_Con l (rV x) i11_isNode yX11_isNode (some .boolean) [.ref (cw_a x 200), .int a1] σ (some (.int r)) σ1 := fun r σ1 h l => ej_con_of (rV_ok x) pn_X11 rfl (Nat.le_of_ble_eq_true rfl) rfl h (fun F hq => j11_isNode x n a1 σ hq)

noncomputable def m11_asks (n : Nat) (a1 : Int32) (σ : ej_S) : Option (Int32 × ej_S) := ej_bi (m11_isNode n a1 σ) fun r2 s1 => (if r2 = 0 then ej_bi (m11_goes n 1 s1) fun r4 s3 => (some (ej_bz r4, s3)) else ej_bi (m11_goes n 0 s1) fun r6 s5 => (some (ej_bz r6, s5)))
set_option maxRecDepth 20000 in
set_option maxHeartbeats 2000000 in
theorem j11_asks (x : cw_T) (n : Nat) (a1 : Int32) (σ : ej_S) {F : ej_F} {r0 : Int32 × ej_S} (hq : ej_fin (rV x) F (some .boolean) (some (.int r0.1)) r0.2) : ej_J (rV x) F i11_asks r0 σ 0 [(0, .ref (cw_a x 200)), (1, .int a1)] [] (m11_asks n a1 σ) := by
  unfold m11_asks
  refine j_aload_n 0 rfl d11_asks_0 ?_
  refine j_aload_n 0 rfl d11_asks_1 ?_
  refine j_iload_n 1 rfl d11_asks_2 ?_
  refine j_callVi (c11_isNode x n a1 σ) lv_X11_368 (rV_rc_200 x σ) ⟨Nat.le_of_ble_eq_true rfl, Nat.le_of_ble_eq_true rfl⟩ d11_asks_3 rfl (Nat.le_of_ble_eq_true rfl) (fun r2 s1 => ?_)
  refine j_if_eq d11_asks_6 ?_ ?_
  · refine j_iconst d11_asks_13 ejc_1 ?_
    refine j_callVi (c11_goes x n 1 s1) lv_X11_342 (rV_rc_200 x s1) ⟨Nat.le_of_ble_eq_true rfl, Nat.le_of_ble_eq_true rfl⟩ d11_asks_14 rfl (Nat.le_of_ble_eq_true rfl) (fun r4 s3 => ?_)
    exact j_zreturn hq d11_asks_17
  · refine j_iconst d11_asks_9 ejc_0 ?_
    refine j_goto d11_asks_10 ?_
    refine j_callVi (c11_goes x n 0 s1) lv_X11_342 (rV_rc_200 x s1) ⟨Nat.le_of_ble_eq_true rfl, Nat.le_of_ble_eq_true rfl⟩ d11_asks_14 rfl (Nat.le_of_ble_eq_true rfl) (fun r6 s5 => ?_)
    exact j_zreturn hq d11_asks_17
theorem c11_asks (x : cw_T) (n : Nat) (a1 : Int32) (σ : ej_S) : ∀ r σ1, m11_asks n a1 σ = some (r, σ1) → ∀ l, ej_Con l (rV x) i11_asks yX11_asks (some .boolean) [.ref (cw_a x 200), .int a1] σ (some (.int r)) σ1 := fun r σ1 h l => ej_con_of (rV_ok x) pn_X11 rfl (Nat.le_of_ble_eq_true rfl) rfl h (fun F hq => j11_asks x n a1 σ hq)

noncomputable def m11_puts_7 (n : Nat) (k : Nat) : Int64 → ej_S → Option (ej_S) := Nat.rec (motive := fun _ => Int64 → ej_S → Option (ej_S)) (fun _ _ => none) (fun _ ih y2 σ => (if lg_cmp y2 0 = 0 then (some σ) else ej_ck (gI σ 18) 4096 (ej_nm (uA σ 28 ((gI σ 18).toNatClampNeg) ((y2 &&& 255).toInt32)) fun s3 => ej_nm (uI s3 18 ((gI s3 18) + 1)) fun s4 => ej_nm (y2 >>> ((8 : Int32).toInt64 &&& 63)) fun x5 => (ih x5 s4)))) k
theorem m11_puts_7_s (n : Nat) (k : Nat) (y2 : Int64) (σ : ej_S) : m11_puts_7 n (k + 1) y2 σ = ((if lg_cmp y2 0 = 0 then (some σ) else ej_ck (gI σ 18) 4096 (ej_nm (uA σ 28 ((gI σ 18).toNatClampNeg) ((y2 &&& 255).toInt32)) fun s3 => ej_nm (uI s3 18 ((gI s3 18) + 1)) fun s4 => ej_nm (y2 >>> ((8 : Int32).toInt64 &&& 63)) fun x5 => ((m11_puts_7 n k) x5 s4))) : Option (ej_S)) := rfl
set_option maxRecDepth 20000 in
set_option maxHeartbeats 2000000 in
theorem j11_puts_7 (x : cw_T) (n : Nat) {F : ej_F} {r0 : ej_S} (hq : ej_fin (rV x) F none none r0) : ∀ (k : Nat) (y2 : Int64) (σ : ej_S), ej_J (rV x) F i11_puts r0 σ 7 [(0, .ref (cw_a x 200)), (2, .long y2)] [] (m11_puts_7 n k y2 σ) := by
  intro k
  induction k with
  | zero => intro y2 σ; exact j_none
  | succ k ih =>
    intro y2 σ
    rw [m11_puts_7_s]
    refine j_lload_n 1 rfl d11_puts_7 ?_
    refine j_lconst d11_puts_8 ejl_0 ?_
    refine j_lcmp d11_puts_9 ?_
    refine j_if_eq d11_puts_10 ?_ ?_
    · exact j_vreturn hq d11_puts_46
    · refine j_aload_n 0 rfl d11_puts_13 ?_
      refine j_get fl_X11_102 (rV_g_200_50 x σ) d11_puts_14 ?_
      refine j_aload_n 0 rfl d11_puts_17 ?_
      refine j_get fl_X11_374 (rV_g_200_51 x σ) d11_puts_18 ?_
      refine j_lload_n 1 rfl d11_puts_21 ?_
      refine j_ldc2 d11_puts_22 kl_X11_294 ?_
      refine j_land d11_puts_25 ?_
      refine j_l2i d11_puts_26 ?_
      refine j_iast (rV_s_231 x σ ((gI σ 18).toNatClampNeg) ((y2 &&& 255).toInt32)) d11_puts_27 (fun s3 => ?_)
      refine j_aload_n 0 rfl d11_puts_28 ?_
      refine j_dup d11_puts_29 rfl ?_
      refine j_get fl_X11_374 (rV_g_200_51 x s3) d11_puts_30 ?_
      refine j_iconst d11_puts_33 ejc_1 ?_
      refine j_iadd d11_puts_34 ?_
      refine j_put fl_X11_374 (rV_p_200_51 x s3 ((gI s3 18) + 1)) rfl rfl d11_puts_35 (fun s4 => ?_)
      refine j_lload_n 1 rfl d11_puts_38 ?_
      refine j_bipush d11_puts_39 ejb_8 ?_
      refine j_lshr d11_puts_41 ?_
      refine j_nml (fun x5 => ?_)
      refine j_lstore_n (i := 2) (L' := [(2, .long x5), (0, .ref (cw_a x 200))]) d11_puts_42 rfl (Nat.le_of_ble_eq_true rfl) rfl ?_
      refine j_goto d11_puts_43 ?_
      exact j_sub [1, 0] rfl (ih x5 s4)
noncomputable def m11_puts (n : Nat) (a1 : Int32) (σ : ej_S) : Option (ej_S) := ej_ck a1 24 (ej_nm (gB σ 1 a1.toNatClampNeg) fun x1 => (m11_puts_7 n n x1 σ))
set_option maxRecDepth 20000 in
set_option maxHeartbeats 2000000 in
theorem j11_puts (x : cw_T) (n : Nat) (a1 : Int32) (σ : ej_S) {F : ej_F} {r0 : ej_S} (hq : ej_fin (rV x) F none none r0) : ej_J (rV x) F i11_puts r0 σ 0 [(0, .ref (cw_a x 200)), (1, .int a1)] [] (m11_puts n a1 σ) := by
  unfold m11_puts
  refine j_aload_n 0 rfl d11_puts_0 ?_
  refine j_get fl_X11_47 (rV_g_200_30 x σ) d11_puts_1 ?_
  refine j_iload_n 1 rfl d11_puts_4 ?_
  refine j_lald (rV_a_213 x σ) d11_puts_5 ?_
  refine j_nml (fun x1 => ?_)
  refine j_lstore_n (i := 2) (L' := [(2, .long x1), (0, .ref (cw_a x 200)), (1, .int a1)]) d11_puts_6 rfl (Nat.le_of_ble_eq_true rfl) rfl ?_
  exact j_sub [1, 0] rfl (j11_puts_7 x n hq n x1 σ)
theorem c11_puts (x : cw_T) (n : Nat) (a1 : Int32) (σ : ej_S) : ∀ σ1, m11_puts n a1 σ = some σ1 → ∀ l, ej_Con l (rV x) i11_puts yX11_puts none [.ref (cw_a x 200), .int a1] σ none σ1 := fun σ1 h l => ej_con_of (rV_ok x) pn_X11 rfl (Nat.le_of_ble_eq_true rfl) rfl h (fun F hq => j11_puts x n a1 σ hq)

noncomputable def m11_name (n : Nat) (a1 : Int32) (σ : ej_S) : Option (Int32 × ej_S) := ej_bi (m11_asks n a1 σ) fun r2 s1 => (if r2 = 0 then (some (0, s1)) else ej_nm (uI s1 18 0) fun s3 => ej_bv (m11_puts n a1 s3) fun s4 => (some (gI s4 18, s4)))
set_option maxRecDepth 20000 in
set_option maxHeartbeats 2000000 in
theorem j11_name (x : cw_T) (n : Nat) (a1 : Int32) (σ : ej_S) {F : ej_F} {r0 : Int32 × ej_S} (hq : ej_fin (rV x) F (some .int) (some (.int r0.1)) r0.2) : ej_J (rV x) F i11_name r0 σ 0 [(0, .ref (cw_a x 200)), (1, .int a1)] [] (m11_name n a1 σ) := by
  unfold m11_name
  refine j_aload_n 0 rfl d11_name_0 ?_
  refine j_iload_n 1 rfl d11_name_1 ?_
  refine j_callVi (c11_asks x n a1 σ) lv_X11_371 (rV_rc_200 x σ) ⟨Nat.le_of_ble_eq_true rfl, Nat.le_of_ble_eq_true rfl⟩ d11_name_2 rfl (Nat.le_of_ble_eq_true rfl) (fun r2 s1 => ?_)
  refine j_if_ne d11_name_5 ?_ ?_
  · refine j_aload_n 0 rfl d11_name_10 ?_
    refine j_iconst d11_name_11 ejc_0 ?_
    refine j_put fl_X11_374 (rV_p_200_51 x s1 0) rfl rfl d11_name_12 (fun s3 => ?_)
    refine j_aload_n 0 rfl d11_name_15 ?_
    refine j_iload_n 1 rfl d11_name_16 ?_
    refine j_callVv (c11_puts x n a1 s3) lv_X11_377 (rV_rc_200 x s3) ⟨Nat.le_of_ble_eq_true rfl, Nat.le_of_ble_eq_true rfl⟩ d11_name_17 rfl (Nat.le_of_ble_eq_true rfl) (fun s4 => ?_)
    refine j_aload_n 0 rfl d11_name_20 ?_
    refine j_get fl_X11_374 (rV_g_200_51 x s4) d11_name_21 ?_
    exact j_ireturn hq d11_name_24
  · refine j_iconst d11_name_8 ejc_0 ?_
    exact j_ireturn hq d11_name_9
theorem c11_name (x : cw_T) (n : Nat) (a1 : Int32) (σ : ej_S) : ∀ r σ1, m11_name n a1 σ = some (r, σ1) → ∀ l, ej_Con l (rV x) i11_name yX11_name (some .int) [.ref (cw_a x 200), .int a1] σ (some (.int r)) σ1 := fun r σ1 h l => ej_con_of (rV_ok x) pn_X11 rfl (Nat.le_of_ble_eq_true rfl) rfl h (fun F hq => j11_name x n a1 σ hq)

noncomputable def m11_kind (n : Nat) (a1 : Int32) (σ : ej_S) : Option (Int32 × ej_S) := ej_bi (m11_asks n a1 σ) fun r2 s1 => (if r2 = 0 then (some (0, s1)) else ej_bi (m11_kindOf n a1 s1) fun r4 s3 => (some (r4, s3)))
set_option maxRecDepth 20000 in
set_option maxHeartbeats 2000000 in
theorem j11_kind (x : cw_T) (n : Nat) (a1 : Int32) (σ : ej_S) {F : ej_F} {r0 : Int32 × ej_S} (hq : ej_fin (rV x) F (some .int) (some (.int r0.1)) r0.2) : ej_J (rV x) F i11_kind r0 σ 0 [(0, .ref (cw_a x 200)), (1, .int a1)] [] (m11_kind n a1 σ) := by
  unfold m11_kind
  refine j_aload_n 0 rfl d11_kind_0 ?_
  refine j_iload_n 1 rfl d11_kind_1 ?_
  refine j_callVi (c11_asks x n a1 σ) lv_X11_371 (rV_rc_200 x σ) ⟨Nat.le_of_ble_eq_true rfl, Nat.le_of_ble_eq_true rfl⟩ d11_kind_2 rfl (Nat.le_of_ble_eq_true rfl) (fun r2 s1 => ?_)
  refine j_if_eq d11_kind_5 ?_ ?_
  · refine j_iconst d11_kind_16 ejc_0 ?_
    exact j_ireturn hq d11_kind_17
  · refine j_aload_n 0 rfl d11_kind_8 ?_
    refine j_iload_n 1 rfl d11_kind_9 ?_
    refine j_callVi (c11_kindOf x n a1 s1) lv_X11_299 (rV_rc_200 x s1) ⟨Nat.le_of_ble_eq_true rfl, Nat.le_of_ble_eq_true rfl⟩ d11_kind_10 rfl (Nat.le_of_ble_eq_true rfl) (fun r4 s3 => ?_)
    refine j_goto d11_kind_13 ?_
    exact j_ireturn hq d11_kind_17
theorem c11_kind (x : cw_T) (n : Nat) (a1 : Int32) (σ : ej_S) : ∀ r σ1, m11_kind n a1 σ = some (r, σ1) → ∀ l, ej_Con l (rV x) i11_kind yX11_kind (some .int) [.ref (cw_a x 200), .int a1] σ (some (.int r)) σ1 := fun r σ1 h l => ej_con_of (rV_ok x) pn_X11 rfl (Nat.le_of_ble_eq_true rfl) rfl h (fun F hq => j11_kind x n a1 σ hq)

noncomputable def m11_isPrivate (n : Nat) (a1 : Int32) (σ : ej_S) : Option (Int32 × ej_S) := ej_bi (m11_asks n a1 σ) fun r2 s1 => (if r2 = 0 then (some (0, s1)) else ej_ck a1 24 ((if gA s1 11 a1.toNatClampNeg = (-1) then (some (0, s1)) else (some (1, s1)))))
set_option maxRecDepth 20000 in
set_option maxHeartbeats 2000000 in
theorem j11_isPrivate (x : cw_T) (n : Nat) (a1 : Int32) (σ : ej_S) {F : ej_F} {r0 : Int32 × ej_S} (hq : ej_fin (rV x) F (some .boolean) (some (.int r0.1)) r0.2) : ej_J (rV x) F i11_isPrivate r0 σ 0 [(0, .ref (cw_a x 200)), (1, .int a1)] [] (m11_isPrivate n a1 σ) := by
  unfold m11_isPrivate
  refine j_aload_n 0 rfl d11_isPrivate_0 ?_
  refine j_iload_n 1 rfl d11_isPrivate_1 ?_
  refine j_callVi (c11_asks x n a1 σ) lv_X11_371 (rV_rc_200 x σ) ⟨Nat.le_of_ble_eq_true rfl, Nat.le_of_ble_eq_true rfl⟩ d11_isPrivate_2 rfl (Nat.le_of_ble_eq_true rfl) (fun r2 s1 => ?_)
  refine j_if_eq d11_isPrivate_5 ?_ ?_
  · refine j_iconst d11_isPrivate_22 ejc_0 ?_
    exact j_zreturn0 hq d11_isPrivate_23
  · refine j_aload_n 0 rfl d11_isPrivate_8 ?_
    refine j_get fl_X11_50 (rV_g_200_31 x s1) d11_isPrivate_9 ?_
    refine j_iload_n 1 rfl d11_isPrivate_12 ?_
    refine j_iald (rV_a_214 x s1) d11_isPrivate_13 ?_
    refine j_iconst d11_isPrivate_14 ejc_m1 ?_
    refine j_icmp_eq d11_isPrivate_15 ?_ ?_
    · refine j_iconst d11_isPrivate_22 ejc_0 ?_
      exact j_zreturn0 hq d11_isPrivate_23
    · refine j_iconst d11_isPrivate_18 ejc_1 ?_
      refine j_goto d11_isPrivate_19 ?_
      exact j_zreturn1 hq d11_isPrivate_23
theorem c11_isPrivate (x : cw_T) (n : Nat) (a1 : Int32) (σ : ej_S) : ∀ r σ1, m11_isPrivate n a1 σ = some (r, σ1) → ∀ l, ej_Con l (rV x) i11_isPrivate yX11_isPrivate (some .boolean) [.ref (cw_a x 200), .int a1] σ (some (.int r)) σ1 := fun r σ1 h l => ej_con_of (rV_ok x) pn_X11 rfl (Nat.le_of_ble_eq_true rfl) rfl h (fun F hq => j11_isPrivate x n a1 σ hq)

noncomputable def m11_ask (n : Nat) (a1 : Int32) (a2 : Int32) (σ : ej_S) : Option (Int32 × ej_S) := ej_bi (m11_isNode n a1 σ) fun r2 s1 => (if r2 = 0 then ej_bi (m11_goes n 1 s1) fun r4 s3 => (some (ej_bz r4, s3)) else ej_bi (m11_isNode n a2 s1) fun r6 s5 => (if r6 = 0 then ej_bi (m11_goes n 1 s5) fun r8 s7 => (some (ej_bz r8, s7)) else ej_bi (m11_goes n 0 s5) fun r10 s9 => (some (ej_bz r10, s9))))
set_option maxRecDepth 20000 in
set_option maxHeartbeats 2000000 in
theorem j11_ask (x : cw_T) (n : Nat) (a1 : Int32) (a2 : Int32) (σ : ej_S) {F : ej_F} {r0 : Int32 × ej_S} (hq : ej_fin (rV x) F (some .boolean) (some (.int r0.1)) r0.2) : ej_J (rV x) F i11_ask r0 σ 0 [(0, .ref (cw_a x 200)), (1, .int a1), (2, .int a2)] [] (m11_ask n a1 a2 σ) := by
  unfold m11_ask
  refine j_aload_n 0 rfl d11_ask_0 ?_
  refine j_aload_n 0 rfl d11_ask_1 ?_
  refine j_iload_n 1 rfl d11_ask_2 ?_
  refine j_callVi (c11_isNode x n a1 σ) lv_X11_368 (rV_rc_200 x σ) ⟨Nat.le_of_ble_eq_true rfl, Nat.le_of_ble_eq_true rfl⟩ d11_ask_3 rfl (Nat.le_of_ble_eq_true rfl) (fun r2 s1 => ?_)
  refine j_if_eq d11_ask_6 ?_ ?_
  · refine j_iconst d11_ask_21 ejc_1 ?_
    refine j_callVi (c11_goes x n 1 s1) lv_X11_342 (rV_rc_200 x s1) ⟨Nat.le_of_ble_eq_true rfl, Nat.le_of_ble_eq_true rfl⟩ d11_ask_22 rfl (Nat.le_of_ble_eq_true rfl) (fun r4 s3 => ?_)
    exact j_zreturn hq d11_ask_25
  · refine j_aload_n 0 rfl d11_ask_9 ?_
    refine j_iload_n 2 rfl d11_ask_10 ?_
    refine j_callVi (c11_isNode x n a2 s1) lv_X11_368 (rV_rc_200 x s1) ⟨Nat.le_of_ble_eq_true rfl, Nat.le_of_ble_eq_true rfl⟩ d11_ask_11 rfl (Nat.le_of_ble_eq_true rfl) (fun r6 s5 => ?_)
    refine j_if_eq d11_ask_14 ?_ ?_
    · refine j_iconst d11_ask_21 ejc_1 ?_
      refine j_callVi (c11_goes x n 1 s5) lv_X11_342 (rV_rc_200 x s5) ⟨Nat.le_of_ble_eq_true rfl, Nat.le_of_ble_eq_true rfl⟩ d11_ask_22 rfl (Nat.le_of_ble_eq_true rfl) (fun r8 s7 => ?_)
      exact j_zreturn hq d11_ask_25
    · refine j_iconst d11_ask_17 ejc_0 ?_
      refine j_goto d11_ask_18 ?_
      refine j_callVi (c11_goes x n 0 s5) lv_X11_342 (rV_rc_200 x s5) ⟨Nat.le_of_ble_eq_true rfl, Nat.le_of_ble_eq_true rfl⟩ d11_ask_22 rfl (Nat.le_of_ble_eq_true rfl) (fun r10 s9 => ?_)
      exact j_zreturn hq d11_ask_25
theorem c11_ask (x : cw_T) (n : Nat) (a1 : Int32) (a2 : Int32) (σ : ej_S) : ∀ r σ1, m11_ask n a1 a2 σ = some (r, σ1) → ∀ l, ej_Con l (rV x) i11_ask yX11_ask (some .boolean) [.ref (cw_a x 200), .int a1, .int a2] σ (some (.int r)) σ1 := fun r σ1 h l => ej_con_of (rV_ok x) pn_X11 rfl (Nat.le_of_ble_eq_true rfl) rfl h (fun F hq => j11_ask x n a1 a2 σ hq)

noncomputable def m11_linkCost (n : Nat) (a1 : Int32) (a2 : Int32) (σ : ej_S) : Option (Int32 × ej_S) := ej_bi (m11_ask n a1 a2 σ) fun r2 s1 => (if r2 = 0 then (some (0, s1)) else ej_ck ((24 * a1) + a2) 576 ((some (gA s1 16 ((24 * a1) + a2).toNatClampNeg, s1))))
set_option maxRecDepth 20000 in
set_option maxHeartbeats 2000000 in
theorem j11_linkCost (x : cw_T) (n : Nat) (a1 : Int32) (a2 : Int32) (σ : ej_S) {F : ej_F} {r0 : Int32 × ej_S} (hq : ej_fin (rV x) F (some .int) (some (.int r0.1)) r0.2) : ej_J (rV x) F i11_linkCost r0 σ 0 [(0, .ref (cw_a x 200)), (1, .int a1), (2, .int a2)] [] (m11_linkCost n a1 a2 σ) := by
  unfold m11_linkCost
  refine j_aload_n 0 rfl d11_linkCost_0 ?_
  refine j_iload_n 1 rfl d11_linkCost_1 ?_
  refine j_iload_n 2 rfl d11_linkCost_2 ?_
  refine j_callVi (c11_ask x n a1 a2 σ) lv_X11_380 (rV_rc_200 x σ) ⟨Nat.le_of_ble_eq_true rfl, Nat.le_of_ble_eq_true rfl⟩ d11_linkCost_3 rfl (Nat.le_of_ble_eq_true rfl) (fun r2 s1 => ?_)
  refine j_if_eq d11_linkCost_6 ?_ ?_
  · refine j_iconst d11_linkCost_23 ejc_0 ?_
    exact j_ireturn hq d11_linkCost_24
  · refine j_aload_n 0 rfl d11_linkCost_9 ?_
    refine j_get fl_X11_66 (rV_g_200_36 x s1) d11_linkCost_10 ?_
    refine j_bipush d11_linkCost_13 ejb_24 ?_
    refine j_iload_n 1 rfl d11_linkCost_15 ?_
    refine j_imul d11_linkCost_16 ?_
    refine j_iload_n 2 rfl d11_linkCost_17 ?_
    refine j_iadd d11_linkCost_18 ?_
    refine j_iald (rV_a_219 x s1) d11_linkCost_19 ?_
    refine j_goto d11_linkCost_20 ?_
    exact j_ireturn hq d11_linkCost_24
theorem c11_linkCost (x : cw_T) (n : Nat) (a1 : Int32) (a2 : Int32) (σ : ej_S) : ∀ r σ1, m11_linkCost n a1 a2 σ = some (r, σ1) → ∀ l, ej_Con l (rV x) i11_linkCost yX11_linkCost (some .int) [.ref (cw_a x 200), .int a1, .int a2] σ (some (.int r)) σ1 := fun r σ1 h l => ej_con_of (rV_ok x) pn_X11 rfl (Nat.le_of_ble_eq_true rfl) rfl h (fun F hq => j11_linkCost x n a1 a2 σ hq)

noncomputable def m11_memberCost (n : Nat) (a1 : Int32) (a2 : Int32) (σ : ej_S) : Option (Int32 × ej_S) := ej_bi (m11_ask n a1 a2 σ) fun r2 s1 => (if r2 = 0 then (some (0, s1)) else ej_ck ((24 * a1) + a2) 576 ((some (gA s1 20 ((24 * a1) + a2).toNatClampNeg, s1))))
set_option maxRecDepth 20000 in
set_option maxHeartbeats 2000000 in
theorem j11_memberCost (x : cw_T) (n : Nat) (a1 : Int32) (a2 : Int32) (σ : ej_S) {F : ej_F} {r0 : Int32 × ej_S} (hq : ej_fin (rV x) F (some .int) (some (.int r0.1)) r0.2) : ej_J (rV x) F i11_memberCost r0 σ 0 [(0, .ref (cw_a x 200)), (1, .int a1), (2, .int a2)] [] (m11_memberCost n a1 a2 σ) := by
  unfold m11_memberCost
  refine j_aload_n 0 rfl d11_memberCost_0 ?_
  refine j_iload_n 1 rfl d11_memberCost_1 ?_
  refine j_iload_n 2 rfl d11_memberCost_2 ?_
  refine j_callVi (c11_ask x n a1 a2 σ) lv_X11_380 (rV_rc_200 x σ) ⟨Nat.le_of_ble_eq_true rfl, Nat.le_of_ble_eq_true rfl⟩ d11_memberCost_3 rfl (Nat.le_of_ble_eq_true rfl) (fun r2 s1 => ?_)
  refine j_if_eq d11_memberCost_6 ?_ ?_
  · refine j_iconst d11_memberCost_23 ejc_0 ?_
    exact j_ireturn hq d11_memberCost_24
  · refine j_aload_n 0 rfl d11_memberCost_9 ?_
    refine j_get fl_X11_78 (rV_g_200_40 x s1) d11_memberCost_10 ?_
    refine j_bipush d11_memberCost_13 ejb_24 ?_
    refine j_iload_n 1 rfl d11_memberCost_15 ?_
    refine j_imul d11_memberCost_16 ?_
    refine j_iload_n 2 rfl d11_memberCost_17 ?_
    refine j_iadd d11_memberCost_18 ?_
    refine j_iald (rV_a_223 x s1) d11_memberCost_19 ?_
    refine j_goto d11_memberCost_20 ?_
    exact j_ireturn hq d11_memberCost_24
theorem c11_memberCost (x : cw_T) (n : Nat) (a1 : Int32) (a2 : Int32) (σ : ej_S) : ∀ r σ1, m11_memberCost n a1 a2 σ = some (r, σ1) → ∀ l, ej_Con l (rV x) i11_memberCost yX11_memberCost (some .int) [.ref (cw_a x 200), .int a1, .int a2] σ (some (.int r)) σ1 := fun r σ1 h l => ej_con_of (rV_ok x) pn_X11 rfl (Nat.le_of_ble_eq_true rfl) rfl h (fun F hq => j11_memberCost x n a1 a2 σ hq)

noncomputable def m11_costTo_17 (n : Nat) (y3 : Int32) (σ : ej_S) : Option (Int32 × ej_S) := (if y3 = (-1) then (if gI σ 19 = 0 then (some ((-1), σ)) else (some (0, σ))) else ej_ck y3 96 ((some (gA σ 23 y3.toNatClampNeg, σ))))
set_option maxRecDepth 20000 in
set_option maxHeartbeats 2000000 in
theorem j11_costTo_17 (x : cw_T) (n : Nat) {F : ej_F} {r0 : Int32 × ej_S} (hq : ej_fin (rV x) F (some .int) (some (.int r0.1)) r0.2) (y3 : Int32) (σ : ej_S) : ej_J (rV x) F i11_costTo r0 σ 17 [(0, .ref (cw_a x 200))] [.int y3] (m11_costTo_17 n y3 σ) := by
  unfold m11_costTo_17
  refine j_istore_n (i := 2) (L' := [(2, .int y3), (0, .ref (cw_a x 200))]) d11_costTo_17 rfl (Nat.le_of_ble_eq_true rfl) rfl ?_
  refine j_iload_n 0 rfl d11_costTo_18 ?_
  refine j_iconst d11_costTo_19 ejc_m1 ?_
  refine j_icmp_ne d11_costTo_20 ?_ ?_
  · refine j_aload_n 1 rfl d11_costTo_38 ?_
    refine j_get fl_X11_87 (rV_g_200_44 x σ) d11_costTo_39 ?_
    refine j_iload_n 0 rfl d11_costTo_42 ?_
    refine j_iald (rV_a_226 x σ) d11_costTo_43 ?_
    exact j_ireturn hq d11_costTo_44
  · refine j_aload_n 1 rfl d11_costTo_23 ?_
    refine j_get fl_X11_120 (rV_g_200_52 x σ) d11_costTo_24 ?_
    refine j_if_ne d11_costTo_27 ?_ ?_
    · refine j_iconst d11_costTo_34 ejc_0 ?_
      refine j_goto d11_costTo_35 ?_
      exact j_ireturn hq d11_costTo_44
    · refine j_iconst d11_costTo_30 ejc_m1 ?_
      refine j_goto d11_costTo_31 ?_
      exact j_ireturn hq d11_costTo_44
noncomputable def m11_costTo (n : Nat) (a1 : Int32) (σ : ej_S) : Option (Int32 × ej_S) := ej_bi (m11_asks n a1 σ) fun r2 s1 => (if r2 = 0 then (m11_costTo_17 n (-1) s1) else ej_bi (m11_wayOf n a1 s1) fun r5 s4 => (m11_costTo_17 n r5 s4))
set_option maxRecDepth 20000 in
set_option maxHeartbeats 2000000 in
theorem j11_costTo (x : cw_T) (n : Nat) (a1 : Int32) (σ : ej_S) {F : ej_F} {r0 : Int32 × ej_S} (hq : ej_fin (rV x) F (some .int) (some (.int r0.1)) r0.2) : ej_J (rV x) F i11_costTo r0 σ 0 [(0, .ref (cw_a x 200)), (1, .int a1)] [] (m11_costTo n a1 σ) := by
  unfold m11_costTo
  refine j_aload_n 0 rfl d11_costTo_0 ?_
  refine j_iload_n 1 rfl d11_costTo_1 ?_
  refine j_callVi (c11_asks x n a1 σ) lv_X11_371 (rV_rc_200 x σ) ⟨Nat.le_of_ble_eq_true rfl, Nat.le_of_ble_eq_true rfl⟩ d11_costTo_2 rfl (Nat.le_of_ble_eq_true rfl) (fun r2 s1 => ?_)
  refine j_if_eq d11_costTo_5 ?_ ?_
  · refine j_iconst d11_costTo_16 ejc_m1 ?_
    exact j_sub [0] rfl (j11_costTo_17 x n hq (-1) s1)
  · refine j_aload_n 0 rfl d11_costTo_8 ?_
    refine j_iload_n 1 rfl d11_costTo_9 ?_
    refine j_callVi (c11_wayOf x n a1 s1) lv_X11_336 (rV_rc_200 x s1) ⟨Nat.le_of_ble_eq_true rfl, Nat.le_of_ble_eq_true rfl⟩ d11_costTo_10 rfl (Nat.le_of_ble_eq_true rfl) (fun r5 s4 => ?_)
    refine j_goto d11_costTo_13 ?_
    exact j_sub [0] rfl (j11_costTo_17 x n hq r5 s4)
theorem c11_costTo (x : cw_T) (n : Nat) (a1 : Int32) (σ : ej_S) : ∀ r σ1, m11_costTo n a1 σ = some (r, σ1) → ∀ l, ej_Con l (rV x) i11_costTo yX11_costTo (some .int) [.ref (cw_a x 200), .int a1] σ (some (.int r)) σ1 := fun r σ1 h l => ej_con_of (rV_ok x) pn_X11 rfl (Nat.le_of_ble_eq_true rfl) rfl h (fun F hq => j11_costTo x n a1 σ hq)

noncomputable def m11_cost (n : Nat) (a1 : Int32) (σ : ej_S) : Option (Int32 × ej_S) := ej_bi (m11_costTo n a1 σ) fun r2 s1 => (some (r2, s1))
set_option maxRecDepth 20000 in
set_option maxHeartbeats 2000000 in
theorem j11_cost (x : cw_T) (n : Nat) (a1 : Int32) (σ : ej_S) {F : ej_F} {r0 : Int32 × ej_S} (hq : ej_fin (rV x) F (some .int) (some (.int r0.1)) r0.2) : ej_J (rV x) F i11_cost r0 σ 0 [(0, .ref (cw_a x 200)), (1, .int a1)] [] (m11_cost n a1 σ) := by
  unfold m11_cost
  refine j_aload_n 0 rfl d11_cost_0 ?_
  refine j_iload_n 1 rfl d11_cost_1 ?_
  refine j_callVi (c11_costTo x n a1 σ) lv_X11_383 (rV_rc_200 x σ) ⟨Nat.le_of_ble_eq_true rfl, Nat.le_of_ble_eq_true rfl⟩ d11_cost_2 rfl (Nat.le_of_ble_eq_true rfl) (fun r2 s1 => ?_)
  exact j_ireturn hq d11_cost_5
theorem c11_cost (x : cw_T) (n : Nat) (a1 : Int32) (σ : ej_S) : ∀ r σ1, m11_cost n a1 σ = some (r, σ1) → ∀ l, ej_Con l (rV x) i11_cost yX11_cost (some .int) [.ref (cw_a x 200), .int a1] σ (some (.int r)) σ1 := fun r σ1 h l => ej_con_of (rV_ok x) pn_X11 rfl (Nat.le_of_ble_eq_true rfl) rfl h (fun F hq => j11_cost x n a1 σ hq)

noncomputable def m11_costByRounds (n : Nat) (a1 : Int32) (σ : ej_S) : Option (Int32 × ej_S) := ej_bi (m11_costTo n a1 σ) fun r2 s1 => (some (r2, s1))
set_option maxRecDepth 20000 in
set_option maxHeartbeats 2000000 in
theorem j11_costByRounds (x : cw_T) (n : Nat) (a1 : Int32) (σ : ej_S) {F : ej_F} {r0 : Int32 × ej_S} (hq : ej_fin (rV x) F (some .int) (some (.int r0.1)) r0.2) : ej_J (rV x) F i11_costByRounds r0 σ 0 [(0, .ref (cw_a x 200)), (1, .int a1)] [] (m11_costByRounds n a1 σ) := by
  unfold m11_costByRounds
  refine j_aload_n 0 rfl d11_costByRounds_0 ?_
  refine j_iload_n 1 rfl d11_costByRounds_1 ?_
  refine j_callVi (c11_costTo x n a1 σ) lv_X11_383 (rV_rc_200 x σ) ⟨Nat.le_of_ble_eq_true rfl, Nat.le_of_ble_eq_true rfl⟩ d11_costByRounds_2 rfl (Nat.le_of_ble_eq_true rfl) (fun r2 s1 => ?_)
  exact j_ireturn hq d11_costByRounds_5
theorem c11_costByRounds (x : cw_T) (n : Nat) (a1 : Int32) (σ : ej_S) : ∀ r σ1, m11_costByRounds n a1 σ = some (r, σ1) → ∀ l, ej_Con l (rV x) i11_costByRounds yX11_costByRounds (some .int) [.ref (cw_a x 200), .int a1] σ (some (.int r)) σ1 := fun r σ1 h l => ej_con_of (rV_ok x) pn_X11 rfl (Nat.le_of_ble_eq_true rfl) rfl h (fun F hq => j11_costByRounds x n a1 σ hq)

noncomputable def m11_steps_17 (n : Nat) (y3 : Int32) (σ : ej_S) : Option (Int32 × ej_S) := (if y3 = (-1) then (if gI σ 19 = 0 then (some ((-1), σ)) else (some (0, σ))) else ej_ck y3 96 ((some (gA σ 24 y3.toNatClampNeg, σ))))
set_option maxRecDepth 20000 in
set_option maxHeartbeats 2000000 in
theorem j11_steps_17 (x : cw_T) (n : Nat) {F : ej_F} {r0 : Int32 × ej_S} (hq : ej_fin (rV x) F (some .int) (some (.int r0.1)) r0.2) (y3 : Int32) (σ : ej_S) : ej_J (rV x) F i11_steps r0 σ 17 [(0, .ref (cw_a x 200))] [.int y3] (m11_steps_17 n y3 σ) := by
  unfold m11_steps_17
  refine j_istore_n (i := 2) (L' := [(2, .int y3), (0, .ref (cw_a x 200))]) d11_steps_17 rfl (Nat.le_of_ble_eq_true rfl) rfl ?_
  refine j_iload_n 0 rfl d11_steps_18 ?_
  refine j_iconst d11_steps_19 ejc_m1 ?_
  refine j_icmp_ne d11_steps_20 ?_ ?_
  · refine j_aload_n 1 rfl d11_steps_38 ?_
    refine j_get fl_X11_90 (rV_g_200_45 x σ) d11_steps_39 ?_
    refine j_iload_n 0 rfl d11_steps_42 ?_
    refine j_iald (rV_a_227 x σ) d11_steps_43 ?_
    exact j_ireturn hq d11_steps_44
  · refine j_aload_n 1 rfl d11_steps_23 ?_
    refine j_get fl_X11_120 (rV_g_200_52 x σ) d11_steps_24 ?_
    refine j_if_ne d11_steps_27 ?_ ?_
    · refine j_iconst d11_steps_34 ejc_0 ?_
      refine j_goto d11_steps_35 ?_
      exact j_ireturn hq d11_steps_44
    · refine j_iconst d11_steps_30 ejc_m1 ?_
      refine j_goto d11_steps_31 ?_
      exact j_ireturn hq d11_steps_44
noncomputable def m11_steps (n : Nat) (a1 : Int32) (σ : ej_S) : Option (Int32 × ej_S) := ej_bi (m11_asks n a1 σ) fun r2 s1 => (if r2 = 0 then (m11_steps_17 n (-1) s1) else ej_bi (m11_wayOf n a1 s1) fun r5 s4 => (m11_steps_17 n r5 s4))
set_option maxRecDepth 20000 in
set_option maxHeartbeats 2000000 in
theorem j11_steps (x : cw_T) (n : Nat) (a1 : Int32) (σ : ej_S) {F : ej_F} {r0 : Int32 × ej_S} (hq : ej_fin (rV x) F (some .int) (some (.int r0.1)) r0.2) : ej_J (rV x) F i11_steps r0 σ 0 [(0, .ref (cw_a x 200)), (1, .int a1)] [] (m11_steps n a1 σ) := by
  unfold m11_steps
  refine j_aload_n 0 rfl d11_steps_0 ?_
  refine j_iload_n 1 rfl d11_steps_1 ?_
  refine j_callVi (c11_asks x n a1 σ) lv_X11_371 (rV_rc_200 x σ) ⟨Nat.le_of_ble_eq_true rfl, Nat.le_of_ble_eq_true rfl⟩ d11_steps_2 rfl (Nat.le_of_ble_eq_true rfl) (fun r2 s1 => ?_)
  refine j_if_eq d11_steps_5 ?_ ?_
  · refine j_iconst d11_steps_16 ejc_m1 ?_
    exact j_sub [0] rfl (j11_steps_17 x n hq (-1) s1)
  · refine j_aload_n 0 rfl d11_steps_8 ?_
    refine j_iload_n 1 rfl d11_steps_9 ?_
    refine j_callVi (c11_wayOf x n a1 s1) lv_X11_336 (rV_rc_200 x s1) ⟨Nat.le_of_ble_eq_true rfl, Nat.le_of_ble_eq_true rfl⟩ d11_steps_10 rfl (Nat.le_of_ble_eq_true rfl) (fun r5 s4 => ?_)
    refine j_goto d11_steps_13 ?_
    exact j_sub [0] rfl (j11_steps_17 x n hq r5 s4)
theorem c11_steps (x : cw_T) (n : Nat) (a1 : Int32) (σ : ej_S) : ∀ r σ1, m11_steps n a1 σ = some (r, σ1) → ∀ l, ej_Con l (rV x) i11_steps yX11_steps (some .int) [.ref (cw_a x 200), .int a1] σ (some (.int r)) σ1 := fun r σ1 h l => ej_con_of (rV_ok x) pn_X11 rfl (Nat.le_of_ble_eq_true rfl) rfl h (fun F hq => j11_steps x n a1 σ hq)

noncomputable def m11_state_17 (n : Nat) (y3 : Int32) (σ : ej_S) : Option (Int32 × ej_S) := (if y3 = (-1) then (if gI σ 19 = 0 then (some ((-1), σ)) else (some (0, σ))) else (some (y3 - y3 / 4 * 4, σ)))
set_option maxRecDepth 20000 in
set_option maxHeartbeats 2000000 in
theorem j11_state_17 (x : cw_T) (n : Nat) {F : ej_F} {r0 : Int32 × ej_S} (hq : ej_fin (rV x) F (some .int) (some (.int r0.1)) r0.2) (y3 : Int32) (σ : ej_S) : ej_J (rV x) F i11_state r0 σ 17 [(0, .ref (cw_a x 200))] [.int y3] (m11_state_17 n y3 σ) := by
  unfold m11_state_17
  refine j_istore_n (i := 2) (L' := [(2, .int y3), (0, .ref (cw_a x 200))]) d11_state_17 rfl (Nat.le_of_ble_eq_true rfl) rfl ?_
  refine j_iload_n 0 rfl d11_state_18 ?_
  refine j_iconst d11_state_19 ejc_m1 ?_
  refine j_icmp_ne d11_state_20 ?_ ?_
  · refine j_iload_n 0 rfl d11_state_38 ?_
    refine j_iconst d11_state_39 ejc_4 ?_
    refine j_irem0 (by decide) d11_state_40 ?_
    exact j_ireturn hq d11_state_41
  · refine j_aload_n 1 rfl d11_state_23 ?_
    refine j_get fl_X11_120 (rV_g_200_52 x σ) d11_state_24 ?_
    refine j_if_ne d11_state_27 ?_ ?_
    · refine j_iconst d11_state_34 ejc_0 ?_
      refine j_goto d11_state_35 ?_
      exact j_ireturn hq d11_state_41
    · refine j_iconst d11_state_30 ejc_m1 ?_
      refine j_goto d11_state_31 ?_
      exact j_ireturn hq d11_state_41
noncomputable def m11_state (n : Nat) (a1 : Int32) (σ : ej_S) : Option (Int32 × ej_S) := ej_bi (m11_asks n a1 σ) fun r2 s1 => (if r2 = 0 then (m11_state_17 n (-1) s1) else ej_bi (m11_wayOf n a1 s1) fun r5 s4 => (m11_state_17 n r5 s4))
set_option maxRecDepth 20000 in
set_option maxHeartbeats 2000000 in
theorem j11_state (x : cw_T) (n : Nat) (a1 : Int32) (σ : ej_S) {F : ej_F} {r0 : Int32 × ej_S} (hq : ej_fin (rV x) F (some .int) (some (.int r0.1)) r0.2) : ej_J (rV x) F i11_state r0 σ 0 [(0, .ref (cw_a x 200)), (1, .int a1)] [] (m11_state n a1 σ) := by
  unfold m11_state
  refine j_aload_n 0 rfl d11_state_0 ?_
  refine j_iload_n 1 rfl d11_state_1 ?_
  refine j_callVi (c11_asks x n a1 σ) lv_X11_371 (rV_rc_200 x σ) ⟨Nat.le_of_ble_eq_true rfl, Nat.le_of_ble_eq_true rfl⟩ d11_state_2 rfl (Nat.le_of_ble_eq_true rfl) (fun r2 s1 => ?_)
  refine j_if_eq d11_state_5 ?_ ?_
  · refine j_iconst d11_state_16 ejc_m1 ?_
    exact j_sub [0] rfl (j11_state_17 x n hq (-1) s1)
  · refine j_aload_n 0 rfl d11_state_8 ?_
    refine j_iload_n 1 rfl d11_state_9 ?_
    refine j_callVi (c11_wayOf x n a1 s1) lv_X11_336 (rV_rc_200 x s1) ⟨Nat.le_of_ble_eq_true rfl, Nat.le_of_ble_eq_true rfl⟩ d11_state_10 rfl (Nat.le_of_ble_eq_true rfl) (fun r5 s4 => ?_)
    refine j_goto d11_state_13 ?_
    exact j_sub [0] rfl (j11_state_17 x n hq r5 s4)
theorem c11_state (x : cw_T) (n : Nat) (a1 : Int32) (σ : ej_S) : ∀ r σ1, m11_state n a1 σ = some (r, σ1) → ∀ l, ej_Con l (rV x) i11_state yX11_state (some .int) [.ref (cw_a x 200), .int a1] σ (some (.int r)) σ1 := fun r σ1 h l => ej_con_of (rV_ok x) pn_X11 rfl (Nat.le_of_ble_eq_true rfl) rfl h (fun F hq => j11_state x n a1 σ hq)

noncomputable def m11_wayAt_43 (n : Nat) (y6 : Int32) (y7 : Int32) (y8 : Int32) (σ : ej_S) : Option (Int32 × ej_S) := ej_bi (m11_goes n y8 σ) fun r10 s9 => (if r10 = 0 then (some ((-1), s9)) else ej_bv (m11_lays n y6 s9) fun s11 => ej_ck y7 97 ((some (gA s11 27 y7.toNatClampNeg, s11))))
set_option maxRecDepth 20000 in
set_option maxHeartbeats 2000000 in
theorem j11_wayAt_43 (x : cw_T) (n : Nat) {F : ej_F} {r0 : Int32 × ej_S} (hq : ej_fin (rV x) F (some .int) (some (.int r0.1)) r0.2) (y6 : Int32) (y7 : Int32) (y8 : Int32) (σ : ej_S) : ej_J (rV x) F i11_wayAt r0 σ 43 [(0, .ref (cw_a x 200)), (1, .int y6), (2, .int y7)] [.int y8, .ref (cw_a x 200)] (m11_wayAt_43 n y6 y7 y8 σ) := by
  unfold m11_wayAt_43
  refine j_callVi (c11_goes x n y8 σ) lv_X11_342 (rV_rc_200 x σ) ⟨Nat.le_of_ble_eq_true rfl, Nat.le_of_ble_eq_true rfl⟩ d11_wayAt_43 rfl (Nat.le_of_ble_eq_true rfl) (fun r10 s9 => ?_)
  refine j_if_ne d11_wayAt_46 ?_ ?_
  · refine j_aload_n 0 rfl d11_wayAt_51 ?_
    refine j_iload_n 1 rfl d11_wayAt_52 ?_
    refine j_callVv (c11_lays x n y6 s9) lv_X11_386 (rV_rc_200 x s9) ⟨Nat.le_of_ble_eq_true rfl, Nat.le_of_ble_eq_true rfl⟩ d11_wayAt_53 rfl (Nat.le_of_ble_eq_true rfl) (fun s11 => ?_)
    refine j_aload_n 0 rfl d11_wayAt_56 ?_
    refine j_get fl_X11_99 (rV_g_200_49 x s11) d11_wayAt_57 ?_
    refine j_iload_n 2 rfl d11_wayAt_60 ?_
    refine j_iald (rV_a_230 x s11) d11_wayAt_61 ?_
    exact j_ireturn hq d11_wayAt_62
  · refine j_iconst d11_wayAt_49 ejc_m1 ?_
    exact j_ireturn hq d11_wayAt_50
noncomputable def m11_wayAt_17 (n : Nat) (y3 : Int32) (y4 : Int32) (y5 : Int32) (σ : ej_S) : Option (Int32 × ej_S) := (if y5 = (-1) then (m11_wayAt_43 n y3 y4 1 σ) else ej_ck y5 96 (ej_bi (m11_isIn n y4 0 (gA σ 24 y5.toNatClampNeg) σ) fun r13 s12 => (if r13 = 0 then (m11_wayAt_43 n y3 y4 1 s12) else (m11_wayAt_43 n y3 y4 0 s12))))
set_option maxRecDepth 20000 in
set_option maxHeartbeats 2000000 in
theorem j11_wayAt_17 (x : cw_T) (n : Nat) {F : ej_F} {r0 : Int32 × ej_S} (hq : ej_fin (rV x) F (some .int) (some (.int r0.1)) r0.2) (y3 : Int32) (y4 : Int32) (y5 : Int32) (σ : ej_S) : ej_J (rV x) F i11_wayAt r0 σ 17 [(0, .ref (cw_a x 200)), (1, .int y3), (2, .int y4)] [.int y5] (m11_wayAt_17 n y3 y4 y5 σ) := by
  unfold m11_wayAt_17
  refine j_istore_n (i := 3) (L' := [(3, .int y5), (0, .ref (cw_a x 200)), (1, .int y3), (2, .int y4)]) d11_wayAt_17 rfl (Nat.le_of_ble_eq_true rfl) rfl ?_
  refine j_aload_n 1 rfl d11_wayAt_18 ?_
  refine j_iload_n 0 rfl d11_wayAt_19 ?_
  refine j_iconst d11_wayAt_20 ejc_m1 ?_
  refine j_icmp_eq d11_wayAt_21 ?_ ?_
  · refine j_iconst d11_wayAt_38 ejc_1 ?_
    refine j_goto d11_wayAt_39 ?_
    exact j_sub [1, 2, 3] rfl (j11_wayAt_43 x n hq y3 y4 1 σ)
  · refine j_iload_n 3 rfl d11_wayAt_24 ?_
    refine j_iconst d11_wayAt_25 ejc_0 ?_
    refine j_aload_n 1 rfl d11_wayAt_26 ?_
    refine j_get fl_X11_90 (rV_g_200_45 x σ) d11_wayAt_27 ?_
    refine j_iload_n 0 rfl d11_wayAt_30 ?_
    refine j_iald (rV_a_227 x σ) d11_wayAt_31 ?_
    refine j_callSi (c11_isIn x n y4 0 (gA σ 24 y5.toNatClampNeg) σ) ls_X11_127 ⟨Nat.le_of_ble_eq_true rfl, Nat.le_of_ble_eq_true rfl⟩ d11_wayAt_32 rfl (Nat.le_of_ble_eq_true rfl) (fun r13 s12 => ?_)
    refine j_if_ne d11_wayAt_35 ?_ ?_
    · refine j_iconst d11_wayAt_42 ejc_0 ?_
      exact j_sub [1, 2, 3] rfl (j11_wayAt_43 x n hq y3 y4 0 s12)
    · refine j_iconst d11_wayAt_38 ejc_1 ?_
      refine j_goto d11_wayAt_39 ?_
      exact j_sub [1, 2, 3] rfl (j11_wayAt_43 x n hq y3 y4 1 s12)
noncomputable def m11_wayAt (n : Nat) (a1 : Int32) (a2 : Int32) (σ : ej_S) : Option (Int32 × ej_S) := ej_bi (m11_isNode n a1 σ) fun r2 s1 => (if r2 = 0 then (m11_wayAt_17 n a1 a2 (-1) s1) else ej_bi (m11_wayOf n a1 s1) fun r15 s14 => (m11_wayAt_17 n a1 a2 r15 s14))
set_option maxRecDepth 20000 in
set_option maxHeartbeats 2000000 in
theorem j11_wayAt (x : cw_T) (n : Nat) (a1 : Int32) (a2 : Int32) (σ : ej_S) {F : ej_F} {r0 : Int32 × ej_S} (hq : ej_fin (rV x) F (some .int) (some (.int r0.1)) r0.2) : ej_J (rV x) F i11_wayAt r0 σ 0 [(0, .ref (cw_a x 200)), (1, .int a1), (2, .int a2)] [] (m11_wayAt n a1 a2 σ) := by
  unfold m11_wayAt
  refine j_aload_n 0 rfl d11_wayAt_0 ?_
  refine j_iload_n 1 rfl d11_wayAt_1 ?_
  refine j_callVi (c11_isNode x n a1 σ) lv_X11_368 (rV_rc_200 x σ) ⟨Nat.le_of_ble_eq_true rfl, Nat.le_of_ble_eq_true rfl⟩ d11_wayAt_2 rfl (Nat.le_of_ble_eq_true rfl) (fun r2 s1 => ?_)
  refine j_if_eq d11_wayAt_5 ?_ ?_
  · refine j_iconst d11_wayAt_16 ejc_m1 ?_
    exact j_sub [0, 1, 2] rfl (j11_wayAt_17 x n hq a1 a2 (-1) s1)
  · refine j_aload_n 0 rfl d11_wayAt_8 ?_
    refine j_iload_n 1 rfl d11_wayAt_9 ?_
    refine j_callVi (c11_wayOf x n a1 s1) lv_X11_336 (rV_rc_200 x s1) ⟨Nat.le_of_ble_eq_true rfl, Nat.le_of_ble_eq_true rfl⟩ d11_wayAt_10 rfl (Nat.le_of_ble_eq_true rfl) (fun r15 s14 => ?_)
    refine j_goto d11_wayAt_13 ?_
    exact j_sub [0, 1, 2] rfl (j11_wayAt_17 x n hq a1 a2 r15 s14)
theorem c11_wayAt (x : cw_T) (n : Nat) (a1 : Int32) (a2 : Int32) (σ : ej_S) : ∀ r σ1, m11_wayAt n a1 a2 σ = some (r, σ1) → ∀ l, ej_Con l (rV x) i11_wayAt yX11_wayAt (some .int) [.ref (cw_a x 200), .int a1, .int a2] σ (some (.int r)) σ1 := fun r σ1 h l => ej_con_of (rV_ok x) pn_X11 rfl (Nat.le_of_ble_eq_true rfl) rfl h (fun F hq => j11_wayAt x n a1 a2 σ hq)

noncomputable def m11_nodeAt (n : Nat) (a1 : Int32) (a2 : Int32) (σ : ej_S) : Option (Int32 × ej_S) := ej_bi (m11_wayAt n a1 a2 σ) fun r2 s1 => (if r2 = (-1) then (some (0, s1)) else (some (r2 / 4, s1)))
set_option maxRecDepth 20000 in
set_option maxHeartbeats 2000000 in
theorem j11_nodeAt (x : cw_T) (n : Nat) (a1 : Int32) (a2 : Int32) (σ : ej_S) {F : ej_F} {r0 : Int32 × ej_S} (hq : ej_fin (rV x) F (some .int) (some (.int r0.1)) r0.2) : ej_J (rV x) F i11_nodeAt r0 σ 0 [(0, .ref (cw_a x 200)), (1, .int a1), (2, .int a2)] [] (m11_nodeAt n a1 a2 σ) := by
  unfold m11_nodeAt
  refine j_aload_n 0 rfl d11_nodeAt_0 ?_
  refine j_iload_n 1 rfl d11_nodeAt_1 ?_
  refine j_iload_n 2 rfl d11_nodeAt_2 ?_
  refine j_callVi (c11_wayAt x n a1 a2 σ) lv_X11_389 (rV_rc_200 x σ) ⟨Nat.le_of_ble_eq_true rfl, Nat.le_of_ble_eq_true rfl⟩ d11_nodeAt_3 rfl (Nat.le_of_ble_eq_true rfl) (fun r2 s1 => ?_)
  refine j_istore_n (i := 3) (L' := [(3, .int r2), (0, .ref (cw_a x 200)), (1, .int a1), (2, .int a2)]) d11_nodeAt_6 rfl (Nat.le_of_ble_eq_true rfl) rfl ?_
  refine j_iload_n 0 rfl d11_nodeAt_7 ?_
  refine j_iconst d11_nodeAt_8 ejc_m1 ?_
  refine j_icmp_ne d11_nodeAt_9 ?_ ?_
  · refine j_iload_n 0 rfl d11_nodeAt_16 ?_
    refine j_iconst d11_nodeAt_17 ejc_4 ?_
    refine j_idiv0 (by decide) d11_nodeAt_18 ?_
    exact j_ireturn hq d11_nodeAt_19
  · refine j_iconst d11_nodeAt_12 ejc_0 ?_
    refine j_goto d11_nodeAt_13 ?_
    exact j_ireturn hq d11_nodeAt_19
theorem c11_nodeAt (x : cw_T) (n : Nat) (a1 : Int32) (a2 : Int32) (σ : ej_S) : ∀ r σ1, m11_nodeAt n a1 a2 σ = some (r, σ1) → ∀ l, ej_Con l (rV x) i11_nodeAt yX11_nodeAt (some .int) [.ref (cw_a x 200), .int a1, .int a2] σ (some (.int r)) σ1 := fun r σ1 h l => ej_con_of (rV_ok x) pn_X11 rfl (Nat.le_of_ble_eq_true rfl) rfl h (fun F hq => j11_nodeAt x n a1 a2 σ hq)

noncomputable def m11_costAt (n : Nat) (a1 : Int32) (a2 : Int32) (σ : ej_S) : Option (Int32 × ej_S) := ej_bi (m11_wayAt n a1 a2 σ) fun r2 s1 => (if r2 = (-1) then (some (0, s1)) else ej_ck r2 96 ((some (gA s1 23 r2.toNatClampNeg, s1))))
set_option maxRecDepth 20000 in
set_option maxHeartbeats 2000000 in
theorem j11_costAt (x : cw_T) (n : Nat) (a1 : Int32) (a2 : Int32) (σ : ej_S) {F : ej_F} {r0 : Int32 × ej_S} (hq : ej_fin (rV x) F (some .int) (some (.int r0.1)) r0.2) : ej_J (rV x) F i11_costAt r0 σ 0 [(0, .ref (cw_a x 200)), (1, .int a1), (2, .int a2)] [] (m11_costAt n a1 a2 σ) := by
  unfold m11_costAt
  refine j_aload_n 0 rfl d11_costAt_0 ?_
  refine j_iload_n 1 rfl d11_costAt_1 ?_
  refine j_iload_n 2 rfl d11_costAt_2 ?_
  refine j_callVi (c11_wayAt x n a1 a2 σ) lv_X11_389 (rV_rc_200 x σ) ⟨Nat.le_of_ble_eq_true rfl, Nat.le_of_ble_eq_true rfl⟩ d11_costAt_3 rfl (Nat.le_of_ble_eq_true rfl) (fun r2 s1 => ?_)
  refine j_istore_n (i := 3) (L' := [(3, .int r2), (0, .ref (cw_a x 200)), (1, .int a1), (2, .int a2)]) d11_costAt_6 rfl (Nat.le_of_ble_eq_true rfl) rfl ?_
  refine j_iload_n 0 rfl d11_costAt_7 ?_
  refine j_iconst d11_costAt_8 ejc_m1 ?_
  refine j_icmp_ne d11_costAt_9 ?_ ?_
  · refine j_aload_n 1 rfl d11_costAt_16 ?_
    refine j_get fl_X11_87 (rV_g_200_44 x s1) d11_costAt_17 ?_
    refine j_iload_n 0 rfl d11_costAt_20 ?_
    refine j_iald (rV_a_226 x s1) d11_costAt_21 ?_
    exact j_ireturn hq d11_costAt_22
  · refine j_iconst d11_costAt_12 ejc_0 ?_
    refine j_goto d11_costAt_13 ?_
    exact j_ireturn hq d11_costAt_22
theorem c11_costAt (x : cw_T) (n : Nat) (a1 : Int32) (a2 : Int32) (σ : ej_S) : ∀ r σ1, m11_costAt n a1 a2 σ = some (r, σ1) → ∀ l, ej_Con l (rV x) i11_costAt yX11_costAt (some .int) [.ref (cw_a x 200), .int a1, .int a2] σ (some (.int r)) σ1 := fun r σ1 h l => ej_con_of (rV_ok x) pn_X11 rfl (Nat.le_of_ble_eq_true rfl) rfl h (fun F hq => j11_costAt x n a1 a2 σ hq)

noncomputable def m11_stepAt (n : Nat) (a1 : Int32) (a2 : Int32) (σ : ej_S) : Option (Int32 × ej_S) := ej_bi (m11_wayAt n a1 a2 σ) fun r2 s1 => (if r2 = (-1) then (some (0, s1)) else ej_ck r2 96 ((some (gA s1 26 r2.toNatClampNeg, s1))))
set_option maxRecDepth 20000 in
set_option maxHeartbeats 2000000 in
theorem j11_stepAt (x : cw_T) (n : Nat) (a1 : Int32) (a2 : Int32) (σ : ej_S) {F : ej_F} {r0 : Int32 × ej_S} (hq : ej_fin (rV x) F (some .int) (some (.int r0.1)) r0.2) : ej_J (rV x) F i11_stepAt r0 σ 0 [(0, .ref (cw_a x 200)), (1, .int a1), (2, .int a2)] [] (m11_stepAt n a1 a2 σ) := by
  unfold m11_stepAt
  refine j_aload_n 0 rfl d11_stepAt_0 ?_
  refine j_iload_n 1 rfl d11_stepAt_1 ?_
  refine j_iload_n 2 rfl d11_stepAt_2 ?_
  refine j_callVi (c11_wayAt x n a1 a2 σ) lv_X11_389 (rV_rc_200 x σ) ⟨Nat.le_of_ble_eq_true rfl, Nat.le_of_ble_eq_true rfl⟩ d11_stepAt_3 rfl (Nat.le_of_ble_eq_true rfl) (fun r2 s1 => ?_)
  refine j_istore_n (i := 3) (L' := [(3, .int r2), (0, .ref (cw_a x 200)), (1, .int a1), (2, .int a2)]) d11_stepAt_6 rfl (Nat.le_of_ble_eq_true rfl) rfl ?_
  refine j_iload_n 0 rfl d11_stepAt_7 ?_
  refine j_iconst d11_stepAt_8 ejc_m1 ?_
  refine j_icmp_ne d11_stepAt_9 ?_ ?_
  · refine j_aload_n 1 rfl d11_stepAt_16 ?_
    refine j_get fl_X11_96 (rV_g_200_47 x s1) d11_stepAt_17 ?_
    refine j_iload_n 0 rfl d11_stepAt_20 ?_
    refine j_iald (rV_a_229 x s1) d11_stepAt_21 ?_
    exact j_ireturn hq d11_stepAt_22
  · refine j_iconst d11_stepAt_12 ejc_0 ?_
    refine j_goto d11_stepAt_13 ?_
    exact j_ireturn hq d11_stepAt_22
theorem c11_stepAt (x : cw_T) (n : Nat) (a1 : Int32) (a2 : Int32) (σ : ej_S) : ∀ r σ1, m11_stepAt n a1 a2 σ = some (r, σ1) → ∀ l, ej_Con l (rV x) i11_stepAt yX11_stepAt (some .int) [.ref (cw_a x 200), .int a1, .int a2] σ (some (.int r)) σ1 := fun r σ1 h l => ej_con_of (rV_ok x) pn_X11 rfl (Nat.le_of_ble_eq_true rfl) rfl h (fun F hq => j11_stepAt x n a1 a2 σ hq)

noncomputable def m11_isBack (n : Nat) (a1 : Int32) (a2 : Int32) (σ : ej_S) : Option (Int32 × ej_S) := ej_bi (m11_ask n a1 a2 σ) fun r2 s1 => (if r2 = 0 then (some (0, s1)) else ej_ck ((24 * a1) + a2) 576 ((if gA s1 21 ((24 * a1) + a2).toNatClampNeg = 0 then (some (0, s1)) else (some (1, s1)))))
set_option maxRecDepth 20000 in
set_option maxHeartbeats 2000000 in
theorem j11_isBack (x : cw_T) (n : Nat) (a1 : Int32) (a2 : Int32) (σ : ej_S) {F : ej_F} {r0 : Int32 × ej_S} (hq : ej_fin (rV x) F (some .boolean) (some (.int r0.1)) r0.2) : ej_J (rV x) F i11_isBack r0 σ 0 [(0, .ref (cw_a x 200)), (1, .int a1), (2, .int a2)] [] (m11_isBack n a1 a2 σ) := by
  unfold m11_isBack
  refine j_aload_n 0 rfl d11_isBack_0 ?_
  refine j_iload_n 1 rfl d11_isBack_1 ?_
  refine j_iload_n 2 rfl d11_isBack_2 ?_
  refine j_callVi (c11_ask x n a1 a2 σ) lv_X11_380 (rV_rc_200 x σ) ⟨Nat.le_of_ble_eq_true rfl, Nat.le_of_ble_eq_true rfl⟩ d11_isBack_3 rfl (Nat.le_of_ble_eq_true rfl) (fun r2 s1 => ?_)
  refine j_if_eq d11_isBack_6 ?_ ?_
  · refine j_iconst d11_isBack_27 ejc_0 ?_
    exact j_zreturn0 hq d11_isBack_28
  · refine j_aload_n 0 rfl d11_isBack_9 ?_
    refine j_get fl_X11_81 (rV_g_200_41 x s1) d11_isBack_10 ?_
    refine j_bipush d11_isBack_13 ejb_24 ?_
    refine j_iload_n 1 rfl d11_isBack_15 ?_
    refine j_imul d11_isBack_16 ?_
    refine j_iload_n 2 rfl d11_isBack_17 ?_
    refine j_iadd d11_isBack_18 ?_
    refine j_zald (rV_a_224 x s1) d11_isBack_19 ?_
    refine j_if_eq d11_isBack_20 ?_ ?_
    · refine j_iconst d11_isBack_27 ejc_0 ?_
      exact j_zreturn0 hq d11_isBack_28
    · refine j_iconst d11_isBack_23 ejc_1 ?_
      refine j_goto d11_isBack_24 ?_
      exact j_zreturn1 hq d11_isBack_28
theorem c11_isBack (x : cw_T) (n : Nat) (a1 : Int32) (a2 : Int32) (σ : ej_S) : ∀ r σ1, m11_isBack n a1 a2 σ = some (r, σ1) → ∀ l, ej_Con l (rV x) i11_isBack yX11_isBack (some .boolean) [.ref (cw_a x 200), .int a1, .int a2] σ (some (.int r)) σ1 := fun r σ1 h l => ej_con_of (rV_ok x) pn_X11 rfl (Nat.le_of_ble_eq_true rfl) rfl h (fun F hq => j11_isBack x n a1 a2 σ hq)

noncomputable def m11_putsCode (n : Nat) (a1 : Int32) (σ : ej_S) : Option (ej_S) := ej_ck (gI σ 18) 4096 (ej_nm (uA σ 28 ((gI σ 18).toNatClampNeg) a1) fun s1 => ej_nm (uI s1 18 ((gI s1 18) + 1)) fun s2 => (some s2))
set_option maxRecDepth 20000 in
set_option maxHeartbeats 2000000 in
theorem j11_putsCode (x : cw_T) (n : Nat) (a1 : Int32) (σ : ej_S) {F : ej_F} {r0 : ej_S} (hq : ej_fin (rV x) F none none r0) : ej_J (rV x) F i11_putsCode r0 σ 0 [(0, .ref (cw_a x 200)), (1, .int a1)] [] (m11_putsCode n a1 σ) := by
  unfold m11_putsCode
  refine j_aload_n 0 rfl d11_putsCode_0 ?_
  refine j_get fl_X11_102 (rV_g_200_50 x σ) d11_putsCode_1 ?_
  refine j_aload_n 0 rfl d11_putsCode_4 ?_
  refine j_get fl_X11_374 (rV_g_200_51 x σ) d11_putsCode_5 ?_
  refine j_iload_n 1 rfl d11_putsCode_8 ?_
  refine j_iast (rV_s_231 x σ ((gI σ 18).toNatClampNeg) a1) d11_putsCode_9 (fun s1 => ?_)
  refine j_aload_n 0 rfl d11_putsCode_10 ?_
  refine j_dup d11_putsCode_11 rfl ?_
  refine j_get fl_X11_374 (rV_g_200_51 x s1) d11_putsCode_12 ?_
  refine j_iconst d11_putsCode_15 ejc_1 ?_
  refine j_iadd d11_putsCode_16 ?_
  refine j_put fl_X11_374 (rV_p_200_51 x s1 ((gI s1 18) + 1)) rfl rfl d11_putsCode_17 (fun s2 => ?_)
  exact j_vreturn hq d11_putsCode_20
theorem c11_putsCode (x : cw_T) (n : Nat) (a1 : Int32) (σ : ej_S) : ∀ σ1, m11_putsCode n a1 σ = some σ1 → ∀ l, ej_Con l (rV x) i11_putsCode yX11_putsCode none [.ref (cw_a x 200), .int a1] σ none σ1 := fun σ1 h l => ej_con_of (rV_ok x) pn_X11 rfl (Nat.le_of_ble_eq_true rfl) rfl h (fun F hq => j11_putsCode x n a1 σ hq)

noncomputable def m11_putsNameAt_14 (n : Nat) (k : Nat) : Int32 → ej_S → Option (ej_S) := Nat.rec (motive := fun _ => Int32 → ej_S → Option (ej_S)) (fun _ _ => none) (fun _ ih y2 σ => (if y2 ≤ 0 then (some σ) else ej_ck y2 97 (ej_ck (gA σ 27 y2.toNatClampNeg) 96 ((if gA σ 26 (gA σ 27 y2.toNatClampNeg).toNatClampNeg = 1 then (some σ) else ej_ck y2 97 (ej_ck (gA σ 27 y2.toNatClampNeg) 96 ((if gA σ 26 (gA σ 27 y2.toNatClampNeg).toNatClampNeg = 3 then (some σ) else ej_ck (y2 - 1) 97 (ej_bi (m11_kindOf n ((gA σ 27 (y2 - 1).toNatClampNeg) / 4) σ) fun r4 s3 => (if r4 = 2 then ej_nm (y2 + (-1)) fun x5 => ej_ck x5 97 (ej_bv (m11_puts n ((gA s3 27 x5.toNatClampNeg) / 4) s3) fun s6 => (ih x5 s6)) else (some s3))))))))))) k
theorem m11_putsNameAt_14_s (n : Nat) (k : Nat) (y2 : Int32) (σ : ej_S) : m11_putsNameAt_14 n (k + 1) y2 σ = ((if y2 ≤ 0 then (some σ) else ej_ck y2 97 (ej_ck (gA σ 27 y2.toNatClampNeg) 96 ((if gA σ 26 (gA σ 27 y2.toNatClampNeg).toNatClampNeg = 1 then (some σ) else ej_ck y2 97 (ej_ck (gA σ 27 y2.toNatClampNeg) 96 ((if gA σ 26 (gA σ 27 y2.toNatClampNeg).toNatClampNeg = 3 then (some σ) else ej_ck (y2 - 1) 97 (ej_bi (m11_kindOf n ((gA σ 27 (y2 - 1).toNatClampNeg) / 4) σ) fun r4 s3 => (if r4 = 2 then ej_nm (y2 + (-1)) fun x5 => ej_ck x5 97 (ej_bv (m11_puts n ((gA s3 27 x5.toNatClampNeg) / 4) s3) fun s6 => ((m11_putsNameAt_14 n k) x5 s6)) else (some s3)))))))))) : Option (ej_S)) := rfl
set_option maxRecDepth 20000 in
set_option maxHeartbeats 2000000 in
theorem j11_putsNameAt_14 (x : cw_T) (n : Nat) {F : ej_F} {r0 : ej_S} (hq : ej_fin (rV x) F none none r0) : ∀ (k : Nat) (y2 : Int32) (σ : ej_S), ej_J (rV x) F i11_putsNameAt r0 σ 14 [(0, .ref (cw_a x 200)), (2, .int y2)] [] (m11_putsNameAt_14 n k y2 σ) := by
  intro k
  induction k with
  | zero => intro y2 σ; exact j_none
  | succ k ih =>
    intro y2 σ
    rw [m11_putsNameAt_14_s]
    refine j_iload_n 1 rfl d11_putsNameAt_14 ?_
    refine j_if_le d11_putsNameAt_15 ?_ ?_
    · exact j_vreturn hq d11_putsNameAt_84
    · refine j_aload_n 0 rfl d11_putsNameAt_18 ?_
      refine j_get fl_X11_96 (rV_g_200_47 x σ) d11_putsNameAt_19 ?_
      refine j_aload_n 0 rfl d11_putsNameAt_22 ?_
      refine j_get fl_X11_99 (rV_g_200_49 x σ) d11_putsNameAt_23 ?_
      refine j_iload_n 1 rfl d11_putsNameAt_26 ?_
      refine j_iald (rV_a_230 x σ) d11_putsNameAt_27 ?_
      refine j_iald (rV_a_229 x σ) d11_putsNameAt_28 ?_
      refine j_iconst d11_putsNameAt_29 ejc_1 ?_
      refine j_icmp_eq d11_putsNameAt_30 ?_ ?_
      · exact j_vreturn hq d11_putsNameAt_84
      · refine j_aload_n 0 rfl d11_putsNameAt_33 ?_
        refine j_get fl_X11_96 (rV_g_200_47 x σ) d11_putsNameAt_34 ?_
        refine j_aload_n 0 rfl d11_putsNameAt_37 ?_
        refine j_get fl_X11_99 (rV_g_200_49 x σ) d11_putsNameAt_38 ?_
        refine j_iload_n 1 rfl d11_putsNameAt_41 ?_
        refine j_iald (rV_a_230 x σ) d11_putsNameAt_42 ?_
        refine j_iald (rV_a_229 x σ) d11_putsNameAt_43 ?_
        refine j_iconst d11_putsNameAt_44 ejc_3 ?_
        refine j_icmp_eq d11_putsNameAt_45 ?_ ?_
        · exact j_vreturn hq d11_putsNameAt_84
        · refine j_aload_n 0 rfl d11_putsNameAt_48 ?_
          refine j_aload_n 0 rfl d11_putsNameAt_49 ?_
          refine j_get fl_X11_99 (rV_g_200_49 x σ) d11_putsNameAt_50 ?_
          refine j_iload_n 1 rfl d11_putsNameAt_53 ?_
          refine j_iconst d11_putsNameAt_54 ejc_1 ?_
          refine j_isub d11_putsNameAt_55 ?_
          refine j_iald (rV_a_230 x σ) d11_putsNameAt_56 ?_
          refine j_iconst d11_putsNameAt_57 ejc_4 ?_
          refine j_idiv0 (by decide) d11_putsNameAt_58 ?_
          refine j_callVi (c11_kindOf x n ((gA σ 27 (y2 - 1).toNatClampNeg) / 4) σ) lv_X11_299 (rV_rc_200 x σ) ⟨Nat.le_of_ble_eq_true rfl, Nat.le_of_ble_eq_true rfl⟩ d11_putsNameAt_59 rfl (Nat.le_of_ble_eq_true rfl) (fun r4 s3 => ?_)
          refine j_iconst d11_putsNameAt_62 ejc_2 ?_
          refine j_icmp_ne d11_putsNameAt_63 ?_ ?_
          · exact j_vreturn hq d11_putsNameAt_84
          · refine j_iinc (i := 2) (v := (-1)) (Ly := fun x5 => [(2, .int x5), (0, .ref (cw_a x 200))]) 1 d11_putsNameAt_66 rfl ejc_m1 (Nat.le_of_ble_eq_true rfl) (fun _ => rfl) (fun x5 => ?_)
            refine j_aload_n 1 rfl d11_putsNameAt_69 ?_
            refine j_aload_n 1 rfl d11_putsNameAt_70 ?_
            refine j_get fl_X11_99 (rV_g_200_49 x s3) d11_putsNameAt_71 ?_
            refine j_iload_n 0 rfl d11_putsNameAt_74 ?_
            refine j_iald (rV_a_230 x s3) d11_putsNameAt_75 ?_
            refine j_iconst d11_putsNameAt_76 ejc_4 ?_
            refine j_idiv0 (by decide) d11_putsNameAt_77 ?_
            refine j_callVv (c11_puts x n ((gA s3 27 x5.toNatClampNeg) / 4) s3) lv_X11_377 (rV_rc_200 x s3) ⟨Nat.le_of_ble_eq_true rfl, Nat.le_of_ble_eq_true rfl⟩ d11_putsNameAt_78 rfl (Nat.le_of_ble_eq_true rfl) (fun s6 => ?_)
            refine j_goto d11_putsNameAt_81 ?_
            exact j_sub [1, 0] rfl (ih x5 s6)
noncomputable def m11_putsNameAt (n : Nat) (a1 : Int32) (σ : ej_S) : Option (ej_S) := ej_ck a1 97 (ej_bv (m11_puts n ((gA σ 27 a1.toNatClampNeg) / 4) σ) fun s1 => (m11_putsNameAt_14 n n a1 s1))
set_option maxRecDepth 20000 in
set_option maxHeartbeats 2000000 in
theorem j11_putsNameAt (x : cw_T) (n : Nat) (a1 : Int32) (σ : ej_S) {F : ej_F} {r0 : ej_S} (hq : ej_fin (rV x) F none none r0) : ej_J (rV x) F i11_putsNameAt r0 σ 0 [(0, .ref (cw_a x 200)), (1, .int a1)] [] (m11_putsNameAt n a1 σ) := by
  unfold m11_putsNameAt
  refine j_aload_n 0 rfl d11_putsNameAt_0 ?_
  refine j_aload_n 0 rfl d11_putsNameAt_1 ?_
  refine j_get fl_X11_99 (rV_g_200_49 x σ) d11_putsNameAt_2 ?_
  refine j_iload_n 1 rfl d11_putsNameAt_5 ?_
  refine j_iald (rV_a_230 x σ) d11_putsNameAt_6 ?_
  refine j_iconst d11_putsNameAt_7 ejc_4 ?_
  refine j_idiv0 (by decide) d11_putsNameAt_8 ?_
  refine j_callVv (c11_puts x n ((gA σ 27 a1.toNatClampNeg) / 4) σ) lv_X11_377 (rV_rc_200 x σ) ⟨Nat.le_of_ble_eq_true rfl, Nat.le_of_ble_eq_true rfl⟩ d11_putsNameAt_9 rfl (Nat.le_of_ble_eq_true rfl) (fun s1 => ?_)
  refine j_iload_n 1 rfl d11_putsNameAt_12 ?_
  refine j_istore_n (i := 2) (L' := [(2, .int a1), (0, .ref (cw_a x 200)), (1, .int a1)]) d11_putsNameAt_13 rfl (Nat.le_of_ble_eq_true rfl) rfl ?_
  exact j_sub [1, 0] rfl (j11_putsNameAt_14 x n hq n a1 s1)
theorem c11_putsNameAt (x : cw_T) (n : Nat) (a1 : Int32) (σ : ej_S) : ∀ σ1, m11_putsNameAt n a1 σ = some σ1 → ∀ l, ej_Con l (rV x) i11_putsNameAt yX11_putsNameAt none [.ref (cw_a x 200), .int a1] σ none σ1 := fun σ1 h l => ej_con_of (rV_ok x) pn_X11 rfl (Nat.le_of_ble_eq_true rfl) rfl h (fun F hq => j11_putsNameAt x n a1 σ hq)

noncomputable def m11_markAt_57 (n : Nat) (y7 : Int32) (y8 : Int32) (y9 : Int32) (y10 : Int32) (σ : ej_S) : Option (Int32 × ej_S) := (if y10 = 0 then (some (0, σ)) else ej_ck (y7 - 1) 97 (ej_bi (m11_mark n ((gA σ 27 (y7 - 1).toNatClampNeg) / 4) y8 y9 σ) fun r12 s11 => (some (r12, s11))))
set_option maxRecDepth 20000 in
set_option maxHeartbeats 2000000 in
theorem j11_markAt_57 (x : cw_T) (n : Nat) {F : ej_F} {r0 : Int32 × ej_S} (hq : ej_fin (rV x) F (some .int) (some (.int r0.1)) r0.2) (y7 : Int32) (y8 : Int32) (y9 : Int32) (y10 : Int32) (σ : ej_S) : ej_J (rV x) F i11_markAt r0 σ 57 [(0, .ref (cw_a x 200)), (1, .int y7), (2, .int y8), (3, .int y9)] [.int y10] (m11_markAt_57 n y7 y8 y9 y10 σ) := by
  unfold m11_markAt_57
  refine j_istore (i := 4) (L' := [(4, .int y10), (0, .ref (cw_a x 200)), (1, .int y7), (2, .int y8), (3, .int y9)]) d11_markAt_57 (Nat.le_of_ble_eq_true rfl) rfl ?_
  refine j_iload 0 rfl d11_markAt_59 ?_
  refine j_if_eq d11_markAt_61 ?_ ?_
  · refine j_iconst d11_markAt_83 ejc_0 ?_
    exact j_ireturn hq d11_markAt_84
  · refine j_aload_n 1 rfl d11_markAt_64 ?_
    refine j_aload_n 1 rfl d11_markAt_65 ?_
    refine j_get fl_X11_99 (rV_g_200_49 x σ) d11_markAt_66 ?_
    refine j_iload_n 2 rfl d11_markAt_69 ?_
    refine j_iconst d11_markAt_70 ejc_1 ?_
    refine j_isub d11_markAt_71 ?_
    refine j_iald (rV_a_230 x σ) d11_markAt_72 ?_
    refine j_iconst d11_markAt_73 ejc_4 ?_
    refine j_idiv0 (by decide) d11_markAt_74 ?_
    refine j_iload_n 3 rfl d11_markAt_75 ?_
    refine j_iload_n 4 rfl d11_markAt_76 ?_
    refine j_callVi (c11_mark x n ((gA σ 27 (y7 - 1).toNatClampNeg) / 4) y8 y9 σ) lv_X11_304 (rV_rc_200 x σ) ⟨Nat.le_of_ble_eq_true rfl, Nat.le_of_ble_eq_true rfl⟩ d11_markAt_77 rfl (Nat.le_of_ble_eq_true rfl) (fun r12 s11 => ?_)
    refine j_goto d11_markAt_80 ?_
    exact j_ireturn hq d11_markAt_84
noncomputable def m11_markAt_28 (n : Nat) (y2 : Int32) (y3 : Int32) (y4 : Int32) (σ : ej_S) : Option (Int32 × ej_S) := (if y4 = 2 then ej_bi (m11_kindOf n y3 σ) fun r6 s5 => (if r6 = 0 then (m11_markAt_57 n y2 y3 y4 1 s5) else (m11_markAt_57 n y2 y3 y4 0 s5)) else (if y4 = 5 then ej_bi (m11_kindOf n y3 σ) fun r14 s13 => (if r14 = 0 then (m11_markAt_57 n y2 y3 y4 1 s13) else (m11_markAt_57 n y2 y3 y4 0 s13)) else (if y4 = 4 then ej_bi (m11_kindOf n y3 σ) fun r16 s15 => (if r16 = 0 then (m11_markAt_57 n y2 y3 y4 1 s15) else (m11_markAt_57 n y2 y3 y4 0 s15)) else (m11_markAt_57 n y2 y3 y4 0 σ))))
set_option maxRecDepth 20000 in
set_option maxHeartbeats 2000000 in
theorem j11_markAt_28 (x : cw_T) (n : Nat) {F : ej_F} {r0 : Int32 × ej_S} (hq : ej_fin (rV x) F (some .int) (some (.int r0.1)) r0.2) (y2 : Int32) (y3 : Int32) (y4 : Int32) (σ : ej_S) : ej_J (rV x) F i11_markAt r0 σ 28 [(0, .ref (cw_a x 200)), (1, .int y2), (2, .int y3)] [.int y4] (m11_markAt_28 n y2 y3 y4 σ) := by
  unfold m11_markAt_28
  refine j_istore_n (i := 3) (L' := [(3, .int y4), (0, .ref (cw_a x 200)), (1, .int y2), (2, .int y3)]) d11_markAt_28 rfl (Nat.le_of_ble_eq_true rfl) rfl ?_
  refine j_iload_n 0 rfl d11_markAt_29 ?_
  refine j_iconst d11_markAt_30 ejc_2 ?_
  refine j_icmp_eq d11_markAt_31 ?_ ?_
  · refine j_aload_n 1 rfl d11_markAt_44 ?_
    refine j_iload_n 3 rfl d11_markAt_45 ?_
    refine j_callVi (c11_kindOf x n y3 σ) lv_X11_299 (rV_rc_200 x σ) ⟨Nat.le_of_ble_eq_true rfl, Nat.le_of_ble_eq_true rfl⟩ d11_markAt_46 rfl (Nat.le_of_ble_eq_true rfl) (fun r6 s5 => ?_)
    refine j_if_ne d11_markAt_49 ?_ ?_
    · refine j_iconst d11_markAt_56 ejc_0 ?_
      exact j_sub [1, 2, 3, 0] rfl (j11_markAt_57 x n hq y2 y3 y4 0 s5)
    · refine j_iconst d11_markAt_52 ejc_1 ?_
      refine j_goto d11_markAt_53 ?_
      exact j_sub [1, 2, 3, 0] rfl (j11_markAt_57 x n hq y2 y3 y4 1 s5)
  · refine j_iload_n 0 rfl d11_markAt_34 ?_
    refine j_iconst d11_markAt_35 ejc_5 ?_
    refine j_icmp_eq d11_markAt_36 ?_ ?_
    · refine j_aload_n 1 rfl d11_markAt_44 ?_
      refine j_iload_n 3 rfl d11_markAt_45 ?_
      refine j_callVi (c11_kindOf x n y3 σ) lv_X11_299 (rV_rc_200 x σ) ⟨Nat.le_of_ble_eq_true rfl, Nat.le_of_ble_eq_true rfl⟩ d11_markAt_46 rfl (Nat.le_of_ble_eq_true rfl) (fun r14 s13 => ?_)
      refine j_if_ne d11_markAt_49 ?_ ?_
      · refine j_iconst d11_markAt_56 ejc_0 ?_
        exact j_sub [1, 2, 3, 0] rfl (j11_markAt_57 x n hq y2 y3 y4 0 s13)
      · refine j_iconst d11_markAt_52 ejc_1 ?_
        refine j_goto d11_markAt_53 ?_
        exact j_sub [1, 2, 3, 0] rfl (j11_markAt_57 x n hq y2 y3 y4 1 s13)
    · refine j_iload_n 0 rfl d11_markAt_39 ?_
      refine j_iconst d11_markAt_40 ejc_4 ?_
      refine j_icmp_ne d11_markAt_41 ?_ ?_
      · refine j_iconst d11_markAt_56 ejc_0 ?_
        exact j_sub [1, 2, 3, 0] rfl (j11_markAt_57 x n hq y2 y3 y4 0 σ)
      · refine j_aload_n 1 rfl d11_markAt_44 ?_
        refine j_iload_n 3 rfl d11_markAt_45 ?_
        refine j_callVi (c11_kindOf x n y3 σ) lv_X11_299 (rV_rc_200 x σ) ⟨Nat.le_of_ble_eq_true rfl, Nat.le_of_ble_eq_true rfl⟩ d11_markAt_46 rfl (Nat.le_of_ble_eq_true rfl) (fun r16 s15 => ?_)
        refine j_if_ne d11_markAt_49 ?_ ?_
        · refine j_iconst d11_markAt_56 ejc_0 ?_
          exact j_sub [1, 2, 3, 0] rfl (j11_markAt_57 x n hq y2 y3 y4 0 s15)
        · refine j_iconst d11_markAt_52 ejc_1 ?_
          refine j_goto d11_markAt_53 ?_
          exact j_sub [1, 2, 3, 0] rfl (j11_markAt_57 x n hq y2 y3 y4 1 s15)
noncomputable def m11_markAt (n : Nat) (a1 : Int32) (σ : ej_S) : Option (Int32 × ej_S) := ej_ck a1 97 (ej_nm ((gA σ 27 a1.toNatClampNeg) / 4) fun x1 => (if a1 = 0 then (m11_markAt_28 n a1 x1 0 σ) else ej_ck a1 97 (ej_ck (gA σ 27 a1.toNatClampNeg) 96 ((m11_markAt_28 n a1 x1 (gA σ 26 (gA σ 27 a1.toNatClampNeg).toNatClampNeg) σ)))))
set_option maxRecDepth 20000 in
set_option maxHeartbeats 2000000 in
theorem j11_markAt (x : cw_T) (n : Nat) (a1 : Int32) (σ : ej_S) {F : ej_F} {r0 : Int32 × ej_S} (hq : ej_fin (rV x) F (some .int) (some (.int r0.1)) r0.2) : ej_J (rV x) F i11_markAt r0 σ 0 [(0, .ref (cw_a x 200)), (1, .int a1)] [] (m11_markAt n a1 σ) := by
  unfold m11_markAt
  refine j_aload_n 0 rfl d11_markAt_0 ?_
  refine j_get fl_X11_99 (rV_g_200_49 x σ) d11_markAt_1 ?_
  refine j_iload_n 1 rfl d11_markAt_4 ?_
  refine j_iald (rV_a_230 x σ) d11_markAt_5 ?_
  refine j_iconst d11_markAt_6 ejc_4 ?_
  refine j_idiv0 (by decide) d11_markAt_7 ?_
  refine j_nmi (fun x1 => ?_)
  refine j_istore_n (i := 2) (L' := [(2, .int x1), (0, .ref (cw_a x 200)), (1, .int a1)]) d11_markAt_8 rfl (Nat.le_of_ble_eq_true rfl) rfl ?_
  refine j_iload_n 2 rfl d11_markAt_9 ?_
  refine j_if_ne d11_markAt_10 ?_ ?_
  · refine j_aload_n 1 rfl d11_markAt_17 ?_
    refine j_get fl_X11_96 (rV_g_200_47 x σ) d11_markAt_18 ?_
    refine j_aload_n 1 rfl d11_markAt_21 ?_
    refine j_get fl_X11_99 (rV_g_200_49 x σ) d11_markAt_22 ?_
    refine j_iload_n 2 rfl d11_markAt_25 ?_
    refine j_iald (rV_a_230 x σ) d11_markAt_26 ?_
    refine j_iald (rV_a_229 x σ) d11_markAt_27 ?_
    exact j_sub [1, 2, 0] rfl (j11_markAt_28 x n hq a1 x1 (gA σ 26 (gA σ 27 a1.toNatClampNeg).toNatClampNeg) σ)
  · refine j_iconst d11_markAt_13 ejc_0 ?_
    refine j_goto d11_markAt_14 ?_
    exact j_sub [1, 2, 0] rfl (j11_markAt_28 x n hq a1 x1 0 σ)
theorem c11_markAt (x : cw_T) (n : Nat) (a1 : Int32) (σ : ej_S) : ∀ r σ1, m11_markAt n a1 σ = some (r, σ1) → ∀ l, ej_Con l (rV x) i11_markAt yX11_markAt (some .int) [.ref (cw_a x 200), .int a1] σ (some (.int r)) σ1 := fun r σ1 h l => ej_con_of (rV_ok x) pn_X11 rfl (Nat.le_of_ble_eq_true rfl) rfl h (fun F hq => j11_markAt x n a1 σ hq)

noncomputable def m11_putsLeft_2 (n : Nat) (k : Nat) : Int32 → ej_S → Option (ej_S) := Nat.rec (motive := fun _ => Int32 → ej_S → Option (ej_S)) (fun _ _ => none) (fun _ ih y1 σ => (if gI σ 17 < y1 then (some σ) else ej_bi (m11_markAt n y1 σ) fun r3 s2 => (if r3 = 1 then ej_bv (m11_putsNameAt n y1 s2) fun s5 => ej_bv (m11_putsCode n 33 s5) fun s6 => ej_nm (y1 + 1) fun x7 => (ih x7 s6) else ej_nm (y1 + 1) fun x4 => (ih x4 s2)))) k
theorem m11_putsLeft_2_s (n : Nat) (k : Nat) (y1 : Int32) (σ : ej_S) : m11_putsLeft_2 n (k + 1) y1 σ = ((if gI σ 17 < y1 then (some σ) else ej_bi (m11_markAt n y1 σ) fun r3 s2 => (if r3 = 1 then ej_bv (m11_putsNameAt n y1 s2) fun s5 => ej_bv (m11_putsCode n 33 s5) fun s6 => ej_nm (y1 + 1) fun x7 => ((m11_putsLeft_2 n k) x7 s6) else ej_nm (y1 + 1) fun x4 => ((m11_putsLeft_2 n k) x4 s2))) : Option (ej_S)) := rfl
set_option maxRecDepth 20000 in
set_option maxHeartbeats 2000000 in
theorem j11_putsLeft_2 (x : cw_T) (n : Nat) {F : ej_F} {r0 : ej_S} (hq : ej_fin (rV x) F none none r0) : ∀ (k : Nat) (y1 : Int32) (σ : ej_S), ej_J (rV x) F i11_putsLeft r0 σ 2 [(0, .ref (cw_a x 200)), (1, .int y1)] [] (m11_putsLeft_2 n k y1 σ) := by
  intro k
  induction k with
  | zero => intro y1 σ; exact j_none
  | succ k ih =>
    intro y1 σ
    rw [m11_putsLeft_2_s]
    refine j_iload_n 1 rfl d11_putsLeft_2 ?_
    refine j_aload_n 0 rfl d11_putsLeft_3 ?_
    refine j_get fl_X11_339 (rV_g_200_48 x σ) d11_putsLeft_4 ?_
    refine j_icmp_gt d11_putsLeft_7 ?_ ?_
    · exact j_vreturn hq d11_putsLeft_36
    · refine j_aload_n 0 rfl d11_putsLeft_10 ?_
      refine j_iload_n 1 rfl d11_putsLeft_11 ?_
      refine j_callVi (c11_markAt x n y1 σ) lv_X11_393 (rV_rc_200 x σ) ⟨Nat.le_of_ble_eq_true rfl, Nat.le_of_ble_eq_true rfl⟩ d11_putsLeft_12 rfl (Nat.le_of_ble_eq_true rfl) (fun r3 s2 => ?_)
      refine j_iconst d11_putsLeft_15 ejc_1 ?_
      refine j_icmp_ne d11_putsLeft_16 ?_ ?_
      · refine j_iinc (i := 1) (v := 1) (Ly := fun x4 => [(1, .int x4), (0, .ref (cw_a x 200))]) 1 d11_putsLeft_30 rfl ejc_1 (Nat.le_of_ble_eq_true rfl) (fun _ => rfl) (fun x4 => ?_)
        refine j_goto d11_putsLeft_33 ?_
        exact j_sub [1, 0] rfl (ih x4 s2)
      · refine j_aload_n 0 rfl d11_putsLeft_19 ?_
        refine j_iload_n 1 rfl d11_putsLeft_20 ?_
        refine j_callVv (c11_putsNameAt x n y1 s2) lv_X11_396 (rV_rc_200 x s2) ⟨Nat.le_of_ble_eq_true rfl, Nat.le_of_ble_eq_true rfl⟩ d11_putsLeft_21 rfl (Nat.le_of_ble_eq_true rfl) (fun s5 => ?_)
        refine j_aload_n 0 rfl d11_putsLeft_24 ?_
        refine j_bipush d11_putsLeft_25 ejb_33 ?_
        refine j_callVv (c11_putsCode x n 33 s5) lv_X11_399 (rV_rc_200 x s5) ⟨Nat.le_of_ble_eq_true rfl, Nat.le_of_ble_eq_true rfl⟩ d11_putsLeft_27 rfl (Nat.le_of_ble_eq_true rfl) (fun s6 => ?_)
        refine j_iinc (i := 1) (v := 1) (Ly := fun x7 => [(1, .int x7), (0, .ref (cw_a x 200))]) 1 d11_putsLeft_30 rfl ejc_1 (Nat.le_of_ble_eq_true rfl) (fun _ => rfl) (fun x7 => ?_)
        refine j_goto d11_putsLeft_33 ?_
        exact j_sub [1, 0] rfl (ih x7 s6)
noncomputable def m11_putsLeft (n : Nat)  (σ : ej_S) : Option (ej_S) := (m11_putsLeft_2 n n 0 σ)
set_option maxRecDepth 20000 in
set_option maxHeartbeats 2000000 in
theorem j11_putsLeft (x : cw_T) (n : Nat)  (σ : ej_S) {F : ej_F} {r0 : ej_S} (hq : ej_fin (rV x) F none none r0) : ej_J (rV x) F i11_putsLeft r0 σ 0 [(0, .ref (cw_a x 200))] [] (m11_putsLeft n  σ) := by
  unfold m11_putsLeft
  refine j_iconst d11_putsLeft_0 ejc_0 ?_
  refine j_istore_n (i := 1) (L' := [(1, .int 0), (0, .ref (cw_a x 200))]) d11_putsLeft_1 rfl (Nat.le_of_ble_eq_true rfl) rfl ?_
  exact j_sub [1, 0] rfl (j11_putsLeft_2 x n hq n 0 σ)
theorem c11_putsLeft (x : cw_T) (n : Nat)  (σ : ej_S) : ∀ σ1, m11_putsLeft n  σ = some σ1 → ∀ l, ej_Con l (rV x) i11_putsLeft yX11_putsLeft none [.ref (cw_a x 200)] σ none σ1 := fun σ1 h l => ej_con_of (rV_ok x) pn_X11 rfl (Nat.le_of_ble_eq_true rfl) rfl h (fun F hq => j11_putsLeft x n  σ hq)

noncomputable def m11_putsRight_5 (n : Nat) (k : Nat) : Int32 → ej_S → Option (ej_S) := Nat.rec (motive := fun _ => Int32 → ej_S → Option (ej_S)) (fun _ _ => none) (fun _ ih y2 σ => (if y2 < 0 then (some σ) else ej_bi (m11_markAt n y2 σ) fun r4 s3 => (if r4 = 2 then ej_bv (m11_putsCode n 64 s3) fun s6 => ej_bv (m11_putsNameAt n y2 s6) fun s7 => ej_nm (y2 + (-1)) fun x8 => (ih x8 s7) else ej_nm (y2 + (-1)) fun x5 => (ih x5 s3)))) k
theorem m11_putsRight_5_s (n : Nat) (k : Nat) (y2 : Int32) (σ : ej_S) : m11_putsRight_5 n (k + 1) y2 σ = ((if y2 < 0 then (some σ) else ej_bi (m11_markAt n y2 σ) fun r4 s3 => (if r4 = 2 then ej_bv (m11_putsCode n 64 s3) fun s6 => ej_bv (m11_putsNameAt n y2 s6) fun s7 => ej_nm (y2 + (-1)) fun x8 => ((m11_putsRight_5 n k) x8 s7) else ej_nm (y2 + (-1)) fun x5 => ((m11_putsRight_5 n k) x5 s3))) : Option (ej_S)) := rfl
set_option maxRecDepth 20000 in
set_option maxHeartbeats 2000000 in
theorem j11_putsRight_5 (x : cw_T) (n : Nat) {F : ej_F} {r0 : ej_S} (hq : ej_fin (rV x) F none none r0) : ∀ (k : Nat) (y2 : Int32) (σ : ej_S), ej_J (rV x) F i11_putsRight r0 σ 5 [(0, .ref (cw_a x 200)), (1, .int y2)] [] (m11_putsRight_5 n k y2 σ) := by
  intro k
  induction k with
  | zero => intro y2 σ; exact j_none
  | succ k ih =>
    intro y2 σ
    rw [m11_putsRight_5_s]
    refine j_iload_n 1 rfl d11_putsRight_5 ?_
    refine j_if_lt d11_putsRight_6 ?_ ?_
    · exact j_vreturn hq d11_putsRight_35
    · refine j_aload_n 0 rfl d11_putsRight_9 ?_
      refine j_iload_n 1 rfl d11_putsRight_10 ?_
      refine j_callVi (c11_markAt x n y2 σ) lv_X11_393 (rV_rc_200 x σ) ⟨Nat.le_of_ble_eq_true rfl, Nat.le_of_ble_eq_true rfl⟩ d11_putsRight_11 rfl (Nat.le_of_ble_eq_true rfl) (fun r4 s3 => ?_)
      refine j_iconst d11_putsRight_14 ejc_2 ?_
      refine j_icmp_ne d11_putsRight_15 ?_ ?_
      · refine j_iinc (i := 1) (v := (-1)) (Ly := fun x5 => [(1, .int x5), (0, .ref (cw_a x 200))]) 1 d11_putsRight_29 rfl ejc_m1 (Nat.le_of_ble_eq_true rfl) (fun _ => rfl) (fun x5 => ?_)
        refine j_goto d11_putsRight_32 ?_
        exact j_sub [1, 0] rfl (ih x5 s3)
      · refine j_aload_n 0 rfl d11_putsRight_18 ?_
        refine j_bipush d11_putsRight_19 ejb_64 ?_
        refine j_callVv (c11_putsCode x n 64 s3) lv_X11_399 (rV_rc_200 x s3) ⟨Nat.le_of_ble_eq_true rfl, Nat.le_of_ble_eq_true rfl⟩ d11_putsRight_21 rfl (Nat.le_of_ble_eq_true rfl) (fun s6 => ?_)
        refine j_aload_n 0 rfl d11_putsRight_24 ?_
        refine j_iload_n 1 rfl d11_putsRight_25 ?_
        refine j_callVv (c11_putsNameAt x n y2 s6) lv_X11_396 (rV_rc_200 x s6) ⟨Nat.le_of_ble_eq_true rfl, Nat.le_of_ble_eq_true rfl⟩ d11_putsRight_26 rfl (Nat.le_of_ble_eq_true rfl) (fun s7 => ?_)
        refine j_iinc (i := 1) (v := (-1)) (Ly := fun x8 => [(1, .int x8), (0, .ref (cw_a x 200))]) 1 d11_putsRight_29 rfl ejc_m1 (Nat.le_of_ble_eq_true rfl) (fun _ => rfl) (fun x8 => ?_)
        refine j_goto d11_putsRight_32 ?_
        exact j_sub [1, 0] rfl (ih x8 s7)
noncomputable def m11_putsRight (n : Nat)  (σ : ej_S) : Option (ej_S) := ej_nm (gI σ 17) fun x1 => (m11_putsRight_5 n n x1 σ)
set_option maxRecDepth 20000 in
set_option maxHeartbeats 2000000 in
theorem j11_putsRight (x : cw_T) (n : Nat)  (σ : ej_S) {F : ej_F} {r0 : ej_S} (hq : ej_fin (rV x) F none none r0) : ej_J (rV x) F i11_putsRight r0 σ 0 [(0, .ref (cw_a x 200))] [] (m11_putsRight n  σ) := by
  unfold m11_putsRight
  refine j_aload_n 0 rfl d11_putsRight_0 ?_
  refine j_get fl_X11_339 (rV_g_200_48 x σ) d11_putsRight_1 ?_
  refine j_nmi (fun x1 => ?_)
  refine j_istore_n (i := 1) (L' := [(1, .int x1), (0, .ref (cw_a x 200))]) d11_putsRight_4 rfl (Nat.le_of_ble_eq_true rfl) rfl ?_
  exact j_sub [1, 0] rfl (j11_putsRight_5 x n hq n x1 σ)
theorem c11_putsRight (x : cw_T) (n : Nat)  (σ : ej_S) : ∀ σ1, m11_putsRight n  σ = some σ1 → ∀ l, ej_Con l (rV x) i11_putsRight yX11_putsRight none [.ref (cw_a x 200)] σ none σ1 := fun σ1 h l => ej_con_of (rV_ok x) pn_X11 rfl (Nat.le_of_ble_eq_true rfl) rfl h (fun F hq => j11_putsRight x n  σ hq)

noncomputable def m11_print (n : Nat) (a1 : Int32) (σ : ej_S) : Option (Int32 × ej_S) := ej_bi (m11_asks n a1 σ) fun r2 s1 => (if r2 = 0 then (some (0, s1)) else ej_nm (uI s1 18 0) fun s3 => ej_bi (m11_wayOf n a1 s3) fun r5 s4 => (if r5 = (-1) then (some (gI s4 18, s4)) else ej_bv (m11_lays n a1 s4) fun s6 => ej_bv (m11_putsLeft n s6) fun s7 => ej_bv (m11_putsCode n 37 s7) fun s8 => ej_bv (m11_putsRight n s8) fun s9 => (some (gI s9 18, s9))))
set_option maxRecDepth 20000 in
set_option maxHeartbeats 2000000 in
theorem j11_print (x : cw_T) (n : Nat) (a1 : Int32) (σ : ej_S) {F : ej_F} {r0 : Int32 × ej_S} (hq : ej_fin (rV x) F (some .int) (some (.int r0.1)) r0.2) : ej_J (rV x) F i11_print r0 σ 0 [(0, .ref (cw_a x 200)), (1, .int a1)] [] (m11_print n a1 σ) := by
  unfold m11_print
  refine j_aload_n 0 rfl d11_print_0 ?_
  refine j_iload_n 1 rfl d11_print_1 ?_
  refine j_callVi (c11_asks x n a1 σ) lv_X11_371 (rV_rc_200 x σ) ⟨Nat.le_of_ble_eq_true rfl, Nat.le_of_ble_eq_true rfl⟩ d11_print_2 rfl (Nat.le_of_ble_eq_true rfl) (fun r2 s1 => ?_)
  refine j_if_ne d11_print_5 ?_ ?_
  · refine j_aload_n 0 rfl d11_print_10 ?_
    refine j_iconst d11_print_11 ejc_0 ?_
    refine j_put fl_X11_374 (rV_p_200_51 x s1 0) rfl rfl d11_print_12 (fun s3 => ?_)
    refine j_aload_n 0 rfl d11_print_15 ?_
    refine j_iload_n 1 rfl d11_print_16 ?_
    refine j_callVi (c11_wayOf x n a1 s3) lv_X11_336 (rV_rc_200 x s3) ⟨Nat.le_of_ble_eq_true rfl, Nat.le_of_ble_eq_true rfl⟩ d11_print_17 rfl (Nat.le_of_ble_eq_true rfl) (fun r5 s4 => ?_)
    refine j_iconst d11_print_20 ejc_m1 ?_
    refine j_icmp_eq d11_print_21 ?_ ?_
    · refine j_aload_n 0 rfl d11_print_43 ?_
      refine j_get fl_X11_374 (rV_g_200_51 x s4) d11_print_44 ?_
      exact j_ireturn hq d11_print_47
    · refine j_aload_n 0 rfl d11_print_24 ?_
      refine j_iload_n 1 rfl d11_print_25 ?_
      refine j_callVv (c11_lays x n a1 s4) lv_X11_386 (rV_rc_200 x s4) ⟨Nat.le_of_ble_eq_true rfl, Nat.le_of_ble_eq_true rfl⟩ d11_print_26 rfl (Nat.le_of_ble_eq_true rfl) (fun s6 => ?_)
      refine j_aload_n 0 rfl d11_print_29 ?_
      refine j_callVv (c11_putsLeft x n s6) lv_X11_402 (rV_rc_200 x s6) ⟨Nat.le_of_ble_eq_true rfl, Nat.le_of_ble_eq_true rfl⟩ d11_print_30 rfl (Nat.le_of_ble_eq_true rfl) (fun s7 => ?_)
      refine j_aload_n 0 rfl d11_print_33 ?_
      refine j_bipush d11_print_34 ejb_37 ?_
      refine j_callVv (c11_putsCode x n 37 s7) lv_X11_399 (rV_rc_200 x s7) ⟨Nat.le_of_ble_eq_true rfl, Nat.le_of_ble_eq_true rfl⟩ d11_print_36 rfl (Nat.le_of_ble_eq_true rfl) (fun s8 => ?_)
      refine j_aload_n 0 rfl d11_print_39 ?_
      refine j_callVv (c11_putsRight x n s8) lv_X11_405 (rV_rc_200 x s8) ⟨Nat.le_of_ble_eq_true rfl, Nat.le_of_ble_eq_true rfl⟩ d11_print_40 rfl (Nat.le_of_ble_eq_true rfl) (fun s9 => ?_)
      refine j_aload_n 0 rfl d11_print_43 ?_
      refine j_get fl_X11_374 (rV_g_200_51 x s9) d11_print_44 ?_
      exact j_ireturn hq d11_print_47
  · refine j_iconst d11_print_8 ejc_0 ?_
    exact j_ireturn hq d11_print_9
theorem c11_print (x : cw_T) (n : Nat) (a1 : Int32) (σ : ej_S) : ∀ r σ1, m11_print n a1 σ = some (r, σ1) → ∀ l, ej_Con l (rV x) i11_print yX11_print (some .int) [.ref (cw_a x 200), .int a1] σ (some (.int r)) σ1 := fun r σ1 h l => ej_con_of (rV_ok x) pn_X11 rfl (Nat.le_of_ble_eq_true rfl) rfl h (fun F hq => j11_print x n a1 σ hq)

noncomputable def m11_nameLength_9 (n : Nat) (k : Nat) : Int32 → Int64 → ej_S → Option (Int32 × ej_S) := Nat.rec (motive := fun _ => Int32 → Int64 → ej_S → Option (Int32 × ej_S)) (fun _ _ _ => none) (fun _ ih y2 y3 σ => (if lg_cmp y3 0 = 0 then (some (y2, σ)) else ej_nm (y2 + 1) fun x4 => ej_nm (y3 >>> ((8 : Int32).toInt64 &&& 63)) fun x5 => (ih x4 x5 σ))) k
theorem m11_nameLength_9_s (n : Nat) (k : Nat) (y2 : Int32) (y3 : Int64) (σ : ej_S) : m11_nameLength_9 n (k + 1) y2 y3 σ = ((if lg_cmp y3 0 = 0 then (some (y2, σ)) else ej_nm (y2 + 1) fun x4 => ej_nm (y3 >>> ((8 : Int32).toInt64 &&& 63)) fun x5 => ((m11_nameLength_9 n k) x4 x5 σ)) : Option (Int32 × ej_S)) := rfl
set_option maxRecDepth 20000 in
set_option maxHeartbeats 2000000 in
theorem j11_nameLength_9 (x : cw_T) (n : Nat) {F : ej_F} {r0 : Int32 × ej_S} (hq : ej_fin (rV x) F (some .int) (some (.int r0.1)) r0.2) : ∀ (k : Nat) (y2 : Int32) (y3 : Int64) (σ : ej_S), ej_J (rV x) F i11_nameLength r0 σ 9 [(2, .int y2), (3, .long y3)] [] (m11_nameLength_9 n k y2 y3 σ) := by
  intro k
  induction k with
  | zero => intro y2 y3 σ; exact j_none
  | succ k ih =>
    intro y2 y3 σ
    rw [m11_nameLength_9_s]
    refine j_lload_n 1 rfl d11_nameLength_9 ?_
    refine j_lconst d11_nameLength_10 ejl_0 ?_
    refine j_lcmp d11_nameLength_11 ?_
    refine j_if_eq d11_nameLength_12 ?_ ?_
    · refine j_iload_n 0 rfl d11_nameLength_26 ?_
      exact j_ireturn hq d11_nameLength_27
    · refine j_iinc (i := 2) (v := 1) (Ly := fun x4 => [(2, .int x4), (3, .long y3)]) 0 d11_nameLength_15 rfl ejc_1 (Nat.le_of_ble_eq_true rfl) (fun _ => rfl) (fun x4 => ?_)
      refine j_lload_n 1 rfl d11_nameLength_18 ?_
      refine j_bipush d11_nameLength_19 ejb_8 ?_
      refine j_lshr d11_nameLength_21 ?_
      refine j_nml (fun x5 => ?_)
      refine j_lstore_n (i := 3) (L' := [(3, .long x5), (2, .int x4)]) d11_nameLength_22 rfl (Nat.le_of_ble_eq_true rfl) rfl ?_
      refine j_goto d11_nameLength_23 ?_
      exact j_sub [1, 0] rfl (ih x4 x5 σ)
noncomputable def m11_nameLength (n : Nat) (a1 : Int32) (σ : ej_S) : Option (Int32 × ej_S) := ej_ck a1 24 (ej_nm (gB σ 1 a1.toNatClampNeg) fun x1 => (m11_nameLength_9 n n 0 x1 σ))
set_option maxRecDepth 20000 in
set_option maxHeartbeats 2000000 in
theorem j11_nameLength (x : cw_T) (n : Nat) (a1 : Int32) (σ : ej_S) {F : ej_F} {r0 : Int32 × ej_S} (hq : ej_fin (rV x) F (some .int) (some (.int r0.1)) r0.2) : ej_J (rV x) F i11_nameLength r0 σ 0 [(0, .ref (cw_a x 200)), (1, .int a1)] [] (m11_nameLength n a1 σ) := by
  unfold m11_nameLength
  refine j_iconst d11_nameLength_0 ejc_0 ?_
  refine j_istore_n (i := 2) (L' := [(2, .int 0), (0, .ref (cw_a x 200)), (1, .int a1)]) d11_nameLength_1 rfl (Nat.le_of_ble_eq_true rfl) rfl ?_
  refine j_aload_n 1 rfl d11_nameLength_2 ?_
  refine j_get fl_X11_47 (rV_g_200_30 x σ) d11_nameLength_3 ?_
  refine j_iload_n 2 rfl d11_nameLength_6 ?_
  refine j_lald (rV_a_213 x σ) d11_nameLength_7 ?_
  refine j_nml (fun x1 => ?_)
  refine j_lstore_n (i := 3) (L' := [(3, .long x1), (2, .int 0), (0, .ref (cw_a x 200)), (1, .int a1)]) d11_nameLength_8 rfl (Nat.le_of_ble_eq_true rfl) rfl ?_
  exact j_sub [1, 0] rfl (j11_nameLength_9 x n hq n 0 x1 σ)
theorem c11_nameLength (x : cw_T) (n : Nat) (a1 : Int32) (σ : ej_S) : ∀ r σ1, m11_nameLength n a1 σ = some (r, σ1) → ∀ l, ej_Con l (rV x) i11_nameLength yX11_nameLength (some .int) [.ref (cw_a x 200), .int a1] σ (some (.int r)) σ1 := fun r σ1 h l => ej_con_of (rV_ok x) pn_X11 rfl (Nat.le_of_ble_eq_true rfl) rfl h (fun F hq => j11_nameLength x n a1 σ hq)

noncomputable def m11_endsWith_25 (n : Nat) (k : Nat) : Int32 → Int32 → Int32 → Int32 → Int32 → ej_S → Option (Int32 × ej_S) := Nat.rec (motive := fun _ => Int32 → Int32 → Int32 → Int32 → Int32 → ej_S → Option (Int32 × ej_S)) (fun _ _ _ _ _ _ => none) (fun _ ih y3 y4 y5 y6 y7 σ => (if y5 ≤ y7 then (some (ej_bz y6, σ)) else (if y6 = 0 then (some (ej_bz y6, σ)) else ej_ck (((2400 + y3) - y5) + y7) 3000 (ej_ck y4 24 ((if gA σ 0 (((2400 + y3) - y5) + y7).toNatClampNeg = (((gB σ 1 y4.toNatClampNeg) >>> ((8 * y7).toInt64 &&& 63)) &&& 255).toInt32 then ej_nm (y7 + 1) fun x9 => (ih y3 y4 y5 1 x9 σ) else ej_nm (y7 + 1) fun x8 => (ih y3 y4 y5 0 x8 σ))))))) k
theorem m11_endsWith_25_s (n : Nat) (k : Nat) (y3 : Int32) (y4 : Int32) (y5 : Int32) (y6 : Int32) (y7 : Int32) (σ : ej_S) : m11_endsWith_25 n (k + 1) y3 y4 y5 y6 y7 σ = ((if y5 ≤ y7 then (some (ej_bz y6, σ)) else (if y6 = 0 then (some (ej_bz y6, σ)) else ej_ck (((2400 + y3) - y5) + y7) 3000 (ej_ck y4 24 ((if gA σ 0 (((2400 + y3) - y5) + y7).toNatClampNeg = (((gB σ 1 y4.toNatClampNeg) >>> ((8 * y7).toInt64 &&& 63)) &&& 255).toInt32 then ej_nm (y7 + 1) fun x9 => ((m11_endsWith_25 n k) y3 y4 y5 1 x9 σ) else ej_nm (y7 + 1) fun x8 => ((m11_endsWith_25 n k) y3 y4 y5 0 x8 σ)))))) : Option (Int32 × ej_S)) := rfl
set_option maxRecDepth 20000 in
set_option maxHeartbeats 2000000 in
theorem j11_endsWith_25 (x : cw_T) (n : Nat) {F : ej_F} {r0 : Int32 × ej_S} (hq : ej_fin (rV x) F (some .boolean) (some (.int r0.1)) r0.2) : ∀ (k : Nat) (y3 : Int32) (y4 : Int32) (y5 : Int32) (y6 : Int32) (y7 : Int32) (σ : ej_S), ej_J (rV x) F i11_endsWith r0 σ 25 [(0, .ref (cw_a x 200)), (2, .int y3), (3, .int y4), (4, .int y5), (5, .int y6), (6, .int y7)] [] (m11_endsWith_25 n k y3 y4 y5 y6 y7 σ) := by
  intro k
  induction k with
  | zero => intro y3 y4 y5 y6 y7 σ; exact j_none
  | succ k ih =>
    intro y3 y4 y5 y6 y7 σ
    rw [m11_endsWith_25_s]
    refine j_iload 5 rfl d11_endsWith_25 ?_
    refine j_iload 3 rfl d11_endsWith_27 ?_
    refine j_icmp_ge d11_endsWith_29 ?_ ?_
    · refine j_iload 4 rfl d11_endsWith_86 ?_
      exact j_zreturn hq d11_endsWith_88
    · refine j_iload 4 rfl d11_endsWith_32 ?_
      refine j_if_eq d11_endsWith_34 ?_ ?_
      · refine j_iload 4 rfl d11_endsWith_86 ?_
        exact j_zreturn hq d11_endsWith_88
      · refine j_aload_n 0 rfl d11_endsWith_37 ?_
        refine j_get fl_X11_7 (rV_g_200_0 x σ) d11_endsWith_38 ?_
        refine j_sipush d11_endsWith_41 ejs_2400 ?_
        refine j_iload_n 1 rfl d11_endsWith_44 ?_
        refine j_iadd d11_endsWith_45 ?_
        refine j_iload 3 rfl d11_endsWith_46 ?_
        refine j_isub d11_endsWith_48 ?_
        refine j_iload 5 rfl d11_endsWith_49 ?_
        refine j_iadd d11_endsWith_51 ?_
        refine j_iald (rV_a_201 x σ) d11_endsWith_52 ?_
        refine j_aload_n 0 rfl d11_endsWith_53 ?_
        refine j_get fl_X11_47 (rV_g_200_30 x σ) d11_endsWith_54 ?_
        refine j_iload_n 2 rfl d11_endsWith_57 ?_
        refine j_lald (rV_a_213 x σ) d11_endsWith_58 ?_
        refine j_bipush d11_endsWith_59 ejb_8 ?_
        refine j_iload 5 rfl d11_endsWith_61 ?_
        refine j_imul d11_endsWith_63 ?_
        refine j_lshr d11_endsWith_64 ?_
        refine j_ldc2 d11_endsWith_65 kl_X11_294 ?_
        refine j_land d11_endsWith_68 ?_
        refine j_l2i d11_endsWith_69 ?_
        refine j_icmp_ne d11_endsWith_70 ?_ ?_
        · refine j_iconst d11_endsWith_77 ejc_0 ?_
          refine j_istore (i := 5) (L' := [(5, .int 0), (0, .ref (cw_a x 200)), (2, .int y3), (3, .int y4), (4, .int y5), (6, .int y7)]) d11_endsWith_78 (Nat.le_of_ble_eq_true rfl) rfl ?_
          refine j_iinc (i := 6) (v := 1) (Ly := fun x8 => [(6, .int x8), (5, .int 0), (0, .ref (cw_a x 200)), (2, .int y3), (3, .int y4), (4, .int y5)]) 5 d11_endsWith_80 rfl ejc_1 (Nat.le_of_ble_eq_true rfl) (fun _ => rfl) (fun x8 => ?_)
          refine j_goto d11_endsWith_83 ?_
          exact j_sub [2, 3, 4, 5, 1, 0] rfl (ih y3 y4 y5 0 x8 σ)
        · refine j_iconst d11_endsWith_73 ejc_1 ?_
          refine j_goto d11_endsWith_74 ?_
          refine j_istore (i := 5) (L' := [(5, .int 1), (0, .ref (cw_a x 200)), (2, .int y3), (3, .int y4), (4, .int y5), (6, .int y7)]) d11_endsWith_78 (Nat.le_of_ble_eq_true rfl) rfl ?_
          refine j_iinc (i := 6) (v := 1) (Ly := fun x9 => [(6, .int x9), (5, .int 1), (0, .ref (cw_a x 200)), (2, .int y3), (3, .int y4), (4, .int y5)]) 5 d11_endsWith_80 rfl ejc_1 (Nat.le_of_ble_eq_true rfl) (fun _ => rfl) (fun x9 => ?_)
          refine j_goto d11_endsWith_83 ?_
          exact j_sub [2, 3, 4, 5, 1, 0] rfl (ih y3 y4 y5 1 x9 σ)
noncomputable def m11_endsWith (n : Nat) (a1 : Int32) (a2 : Int32) (a3 : Int32) (σ : ej_S) : Option (Int32 × ej_S) := ej_bi (m11_nameLength n a3 σ) fun r2 s1 => (if a2 - a1 < r2 then (m11_endsWith_25 n n a2 a3 r2 0 0 s1) else (m11_endsWith_25 n n a2 a3 r2 1 0 s1))
set_option maxRecDepth 20000 in
set_option maxHeartbeats 2000000 in
theorem j11_endsWith (x : cw_T) (n : Nat) (a1 : Int32) (a2 : Int32) (a3 : Int32) (σ : ej_S) {F : ej_F} {r0 : Int32 × ej_S} (hq : ej_fin (rV x) F (some .boolean) (some (.int r0.1)) r0.2) : ej_J (rV x) F i11_endsWith r0 σ 0 [(0, .ref (cw_a x 200)), (1, .int a1), (2, .int a2), (3, .int a3)] [] (m11_endsWith n a1 a2 a3 σ) := by
  unfold m11_endsWith
  refine j_aload_n 0 rfl d11_endsWith_0 ?_
  refine j_iload_n 3 rfl d11_endsWith_1 ?_
  refine j_callVi (c11_nameLength x n a3 σ) lv_X11_408 (rV_rc_200 x σ) ⟨Nat.le_of_ble_eq_true rfl, Nat.le_of_ble_eq_true rfl⟩ d11_endsWith_2 rfl (Nat.le_of_ble_eq_true rfl) (fun r2 s1 => ?_)
  refine j_istore (i := 4) (L' := [(4, .int r2), (0, .ref (cw_a x 200)), (1, .int a1), (2, .int a2), (3, .int a3)]) d11_endsWith_5 (Nat.le_of_ble_eq_true rfl) rfl ?_
  refine j_iload_n 3 rfl d11_endsWith_7 ?_
  refine j_iload_n 2 rfl d11_endsWith_8 ?_
  refine j_isub d11_endsWith_9 ?_
  refine j_iload 0 rfl d11_endsWith_10 ?_
  refine j_icmp_lt d11_endsWith_12 ?_ ?_
  · refine j_iconst d11_endsWith_19 ejc_0 ?_
    refine j_istore (i := 5) (L' := [(5, .int 0), (4, .int r2), (0, .ref (cw_a x 200)), (1, .int a1), (2, .int a2), (3, .int a3)]) d11_endsWith_20 (Nat.le_of_ble_eq_true rfl) rfl ?_
    refine j_iconst d11_endsWith_22 ejc_0 ?_
    refine j_istore (i := 6) (L' := [(6, .int 0), (5, .int 0), (4, .int r2), (0, .ref (cw_a x 200)), (1, .int a1), (2, .int a2), (3, .int a3)]) d11_endsWith_23 (Nat.le_of_ble_eq_true rfl) rfl ?_
    exact j_sub [3, 5, 6, 2, 1, 0] rfl (j11_endsWith_25 x n hq n a2 a3 r2 0 0 s1)
  · refine j_iconst d11_endsWith_15 ejc_1 ?_
    refine j_goto d11_endsWith_16 ?_
    refine j_istore (i := 5) (L' := [(5, .int 1), (4, .int r2), (0, .ref (cw_a x 200)), (1, .int a1), (2, .int a2), (3, .int a3)]) d11_endsWith_20 (Nat.le_of_ble_eq_true rfl) rfl ?_
    refine j_iconst d11_endsWith_22 ejc_0 ?_
    refine j_istore (i := 6) (L' := [(6, .int 0), (5, .int 1), (4, .int r2), (0, .ref (cw_a x 200)), (1, .int a1), (2, .int a2), (3, .int a3)]) d11_endsWith_23 (Nat.le_of_ble_eq_true rfl) rfl ?_
    exact j_sub [3, 5, 6, 2, 1, 0] rfl (j11_endsWith_25 x n hq n a2 a3 r2 1 0 s1)
theorem c11_endsWith (x : cw_T) (n : Nat) (a1 : Int32) (a2 : Int32) (a3 : Int32) (σ : ej_S) : ∀ r σ1, m11_endsWith n a1 a2 a3 σ = some (r, σ1) → ∀ l, ej_Con l (rV x) i11_endsWith yX11_endsWith (some .boolean) [.ref (cw_a x 200), .int a1, .int a2, .int a3] σ (some (.int r)) σ1 := fun r σ1 h l => ej_con_of (rV_ok x) pn_X11 rfl (Nat.le_of_ble_eq_true rfl) rfl h (fun F hq => j11_endsWith x n a1 a2 a3 σ hq)

noncomputable def m11_known_142 (n : Nat) (f8 : Int32 → Int32 → Int32 → Int32 → Int32 → ej_S → Option (Int32 × ej_S)) (y26 : Int32) (y27 : Int32) (y28 : Int32) (y29 : Int32) (y30 : Int32) (y31 : Int32) (σ : ej_S) : Option (Int32 × ej_S) := (if y28 = 0 then (if y30 = 0 then ej_nm (y29 + 1) fun x33 => (f8 y26 y27 y31 0 x33 σ) else ej_nm (y29 + 1) fun x34 => (f8 y26 y27 y31 1 x34 σ)) else ej_nm (y29 + 1) fun x32 => (f8 y26 y27 y31 1 x32 σ))
set_option maxRecDepth 20000 in
set_option maxHeartbeats 2000000 in
theorem j11_known_142 (x : cw_T) (n : Nat) {F : ej_F} {r0 : Int32 × ej_S} (hq : ej_fin (rV x) F (some .int) (some (.int r0.1)) r0.2) (f8 : Int32 → Int32 → Int32 → Int32 → Int32 → ej_S → Option (Int32 × ej_S)) (H8 : ∀ (y1 : Int32) (y2 : Int32) (y3 : Int32) (y4 : Int32) (y5 : Int32) (σ : ej_S), ej_J (rV x) F i11_known r0 σ 8 [(0, .ref (cw_a x 200)), (1, .int y1), (2, .int y2), (3, .int y3), (4, .int y4), (5, .int y5)] [] (f8 y1 y2 y3 y4 y5 σ)) (y26 : Int32) (y27 : Int32) (y28 : Int32) (y29 : Int32) (y30 : Int32) (y31 : Int32) (σ : ej_S) : ej_J (rV x) F i11_known r0 σ 142 [(0, .ref (cw_a x 200)), (1, .int y26), (2, .int y27), (4, .int y28), (5, .int y29), (7, .int y30)] [.int y31] (m11_known_142 n f8 y26 y27 y28 y29 y30 y31 σ) := by
  unfold m11_known_142
  refine j_istore_n (i := 3) (L' := [(3, .int y31), (0, .ref (cw_a x 200)), (1, .int y26), (2, .int y27), (4, .int y28), (5, .int y29), (7, .int y30)]) d11_known_142 rfl (Nat.le_of_ble_eq_true rfl) rfl ?_
  refine j_iload 4 rfl d11_known_143 ?_
  refine j_if_ne d11_known_145 ?_ ?_
  · refine j_iconst d11_known_153 ejc_1 ?_
    refine j_goto d11_known_154 ?_
    refine j_istore (i := 4) (L' := [(4, .int 1), (3, .int y31), (0, .ref (cw_a x 200)), (1, .int y26), (2, .int y27), (5, .int y29), (7, .int y30)]) d11_known_158 (Nat.le_of_ble_eq_true rfl) rfl ?_
    refine j_iinc (i := 5) (v := 1) (Ly := fun x32 => [(5, .int x32), (4, .int 1), (3, .int y31), (0, .ref (cw_a x 200)), (1, .int y26), (2, .int y27), (7, .int y30)]) 5 d11_known_160 rfl ejc_1 (Nat.le_of_ble_eq_true rfl) (fun _ => rfl) (fun x32 => ?_)
    refine j_goto d11_known_163 ?_
    exact j_sub [3, 4, 5, 2, 1, 0] rfl (H8 y26 y27 y31 1 x32 σ)
  · refine j_iload 6 rfl d11_known_148 ?_
    refine j_if_eq d11_known_150 ?_ ?_
    · refine j_iconst d11_known_157 ejc_0 ?_
      refine j_istore (i := 4) (L' := [(4, .int 0), (3, .int y31), (0, .ref (cw_a x 200)), (1, .int y26), (2, .int y27), (5, .int y29), (7, .int y30)]) d11_known_158 (Nat.le_of_ble_eq_true rfl) rfl ?_
      refine j_iinc (i := 5) (v := 1) (Ly := fun x33 => [(5, .int x33), (4, .int 0), (3, .int y31), (0, .ref (cw_a x 200)), (1, .int y26), (2, .int y27), (7, .int y30)]) 5 d11_known_160 rfl ejc_1 (Nat.le_of_ble_eq_true rfl) (fun _ => rfl) (fun x33 => ?_)
      refine j_goto d11_known_163 ?_
      exact j_sub [3, 4, 5, 2, 1, 0] rfl (H8 y26 y27 y31 0 x33 σ)
    · refine j_iconst d11_known_153 ejc_1 ?_
      refine j_goto d11_known_154 ?_
      refine j_istore (i := 4) (L' := [(4, .int 1), (3, .int y31), (0, .ref (cw_a x 200)), (1, .int y26), (2, .int y27), (5, .int y29), (7, .int y30)]) d11_known_158 (Nat.le_of_ble_eq_true rfl) rfl ?_
      refine j_iinc (i := 5) (v := 1) (Ly := fun x34 => [(5, .int x34), (4, .int 1), (3, .int y31), (0, .ref (cw_a x 200)), (1, .int y26), (2, .int y27), (7, .int y30)]) 5 d11_known_160 rfl ejc_1 (Nat.le_of_ble_eq_true rfl) (fun _ => rfl) (fun x34 => ?_)
      refine j_goto d11_known_163 ?_
      exact j_sub [3, 4, 5, 2, 1, 0] rfl (H8 y26 y27 y31 1 x34 σ)
noncomputable def m11_known_119 (n : Nat) (f8 : Int32 → Int32 → Int32 → Int32 → Int32 → ej_S → Option (Int32 × ej_S)) (y19 : Int32) (y20 : Int32) (y21 : Int32) (y22 : Int32) (y23 : Int32) (y24 : Int32) (y25 : Int32) (σ : ej_S) : Option (Int32 × ej_S) := (if y24 = 0 then (if y22 = 0 then (if y25 = 0 then (m11_known_142 n f8 y19 y20 y22 y23 y24 y21 σ) else (m11_known_142 n f8 y19 y20 y22 y23 y24 y23 σ)) else (m11_known_142 n f8 y19 y20 y22 y23 y24 y21 σ)) else (m11_known_142 n f8 y19 y20 y22 y23 y24 y23 σ))
set_option maxRecDepth 20000 in
set_option maxHeartbeats 2000000 in
theorem j11_known_119 (x : cw_T) (n : Nat) {F : ej_F} {r0 : Int32 × ej_S} (hq : ej_fin (rV x) F (some .int) (some (.int r0.1)) r0.2) (f8 : Int32 → Int32 → Int32 → Int32 → Int32 → ej_S → Option (Int32 × ej_S)) (H8 : ∀ (y1 : Int32) (y2 : Int32) (y3 : Int32) (y4 : Int32) (y5 : Int32) (σ : ej_S), ej_J (rV x) F i11_known r0 σ 8 [(0, .ref (cw_a x 200)), (1, .int y1), (2, .int y2), (3, .int y3), (4, .int y4), (5, .int y5)] [] (f8 y1 y2 y3 y4 y5 σ)) (y19 : Int32) (y20 : Int32) (y21 : Int32) (y22 : Int32) (y23 : Int32) (y24 : Int32) (y25 : Int32) (σ : ej_S) : ej_J (rV x) F i11_known r0 σ 119 [(0, .ref (cw_a x 200)), (1, .int y19), (2, .int y20), (3, .int y21), (4, .int y22), (5, .int y23), (7, .int y24)] [.int y25] (m11_known_119 n f8 y19 y20 y21 y22 y23 y24 y25 σ) := by
  unfold m11_known_119
  refine j_istore (i := 8) (L' := [(8, .int y25), (0, .ref (cw_a x 200)), (1, .int y19), (2, .int y20), (3, .int y21), (4, .int y22), (5, .int y23), (7, .int y24)]) d11_known_119 (Nat.le_of_ble_eq_true rfl) rfl ?_
  refine j_iload 7 rfl d11_known_121 ?_
  refine j_if_ne d11_known_123 ?_ ?_
  · refine j_iload 6 rfl d11_known_136 ?_
    refine j_goto d11_known_138 ?_
    exact j_sub [1, 2, 3, 5, 6, 7] rfl (j11_known_142 x n hq f8 H8 y19 y20 y22 y23 y24 y23 σ)
  · refine j_iload 5 rfl d11_known_126 ?_
    refine j_if_ne d11_known_128 ?_ ?_
    · refine j_iload_n 4 rfl d11_known_141 ?_
      exact j_sub [1, 2, 3, 5, 6, 7] rfl (j11_known_142 x n hq f8 H8 y19 y20 y22 y23 y24 y21 σ)
    · refine j_iload 0 rfl d11_known_131 ?_
      refine j_if_eq d11_known_133 ?_ ?_
      · refine j_iload_n 4 rfl d11_known_141 ?_
        exact j_sub [1, 2, 3, 5, 6, 7] rfl (j11_known_142 x n hq f8 H8 y19 y20 y22 y23 y24 y21 σ)
      · refine j_iload 6 rfl d11_known_136 ?_
        refine j_goto d11_known_138 ?_
        exact j_sub [1, 2, 3, 5, 6, 7] rfl (j11_known_142 x n hq f8 H8 y19 y20 y22 y23 y24 y23 σ)
noncomputable def m11_known_78 (n : Nat) (f8 : Int32 → Int32 → Int32 → Int32 → Int32 → ej_S → Option (Int32 × ej_S)) (y12 : Int32) (y13 : Int32) (y14 : Int32) (y15 : Int32) (y16 : Int32) (y17 : Int32) (y18 : Int32) (σ : ej_S) : Option (Int32 × ej_S) := (if y17 = 0 then (m11_known_119 n f8 y12 y13 y14 y15 y16 y18 0 σ) else ej_bi (m11_kindOf n y16 σ) fun r36 s35 => (if r36 = 2 then (if y14 = (-1) then (m11_known_119 n f8 y12 y13 y14 y15 y16 y18 1 s35) else ej_bi (m11_nameLength n y16 s35) fun r38 s37 => ej_bi (m11_nameLength n y14 s37) fun r40 s39 => (if r38 ≤ r40 then (m11_known_119 n f8 y12 y13 y14 y15 y16 y18 0 s39) else (m11_known_119 n f8 y12 y13 y14 y15 y16 y18 1 s39))) else (m11_known_119 n f8 y12 y13 y14 y15 y16 y18 0 s35)))
set_option maxRecDepth 20000 in
set_option maxHeartbeats 2000000 in
theorem j11_known_78 (x : cw_T) (n : Nat) {F : ej_F} {r0 : Int32 × ej_S} (hq : ej_fin (rV x) F (some .int) (some (.int r0.1)) r0.2) (f8 : Int32 → Int32 → Int32 → Int32 → Int32 → ej_S → Option (Int32 × ej_S)) (H8 : ∀ (y1 : Int32) (y2 : Int32) (y3 : Int32) (y4 : Int32) (y5 : Int32) (σ : ej_S), ej_J (rV x) F i11_known r0 σ 8 [(0, .ref (cw_a x 200)), (1, .int y1), (2, .int y2), (3, .int y3), (4, .int y4), (5, .int y5)] [] (f8 y1 y2 y3 y4 y5 σ)) (y12 : Int32) (y13 : Int32) (y14 : Int32) (y15 : Int32) (y16 : Int32) (y17 : Int32) (y18 : Int32) (σ : ej_S) : ej_J (rV x) F i11_known r0 σ 78 [(0, .ref (cw_a x 200)), (1, .int y12), (2, .int y13), (3, .int y14), (4, .int y15), (5, .int y16), (6, .int y17)] [.int y18] (m11_known_78 n f8 y12 y13 y14 y15 y16 y17 y18 σ) := by
  unfold m11_known_78
  refine j_istore (i := 7) (L' := [(7, .int y18), (0, .ref (cw_a x 200)), (1, .int y12), (2, .int y13), (3, .int y14), (4, .int y15), (5, .int y16), (6, .int y17)]) d11_known_78 (Nat.le_of_ble_eq_true rfl) rfl ?_
  refine j_iload 7 rfl d11_known_80 ?_
  refine j_if_eq d11_known_82 ?_ ?_
  · refine j_iconst d11_known_118 ejc_0 ?_
    exact j_sub [1, 2, 3, 4, 5, 6, 0] rfl (j11_known_119 x n hq f8 H8 y12 y13 y14 y15 y16 y18 0 σ)
  · refine j_aload_n 1 rfl d11_known_85 ?_
    refine j_iload 6 rfl d11_known_86 ?_
    refine j_callVi (c11_kindOf x n y16 σ) lv_X11_299 (rV_rc_200 x σ) ⟨Nat.le_of_ble_eq_true rfl, Nat.le_of_ble_eq_true rfl⟩ d11_known_88 rfl (Nat.le_of_ble_eq_true rfl) (fun r36 s35 => ?_)
    refine j_iconst d11_known_91 ejc_2 ?_
    refine j_icmp_ne d11_known_92 ?_ ?_
    · refine j_iconst d11_known_118 ejc_0 ?_
      exact j_sub [1, 2, 3, 4, 5, 6, 0] rfl (j11_known_119 x n hq f8 H8 y12 y13 y14 y15 y16 y18 0 s35)
    · refine j_iload_n 4 rfl d11_known_95 ?_
      refine j_iconst d11_known_96 ejc_m1 ?_
      refine j_icmp_eq d11_known_97 ?_ ?_
      · refine j_iconst d11_known_114 ejc_1 ?_
        refine j_goto d11_known_115 ?_
        exact j_sub [1, 2, 3, 4, 5, 6, 0] rfl (j11_known_119 x n hq f8 H8 y12 y13 y14 y15 y16 y18 1 s35)
      · refine j_aload_n 1 rfl d11_known_100 ?_
        refine j_iload 6 rfl d11_known_101 ?_
        refine j_callVi (c11_nameLength x n y16 s35) lv_X11_408 (rV_rc_200 x s35) ⟨Nat.le_of_ble_eq_true rfl, Nat.le_of_ble_eq_true rfl⟩ d11_known_103 rfl (Nat.le_of_ble_eq_true rfl) (fun r38 s37 => ?_)
        refine j_aload_n 1 rfl d11_known_106 ?_
        refine j_iload_n 4 rfl d11_known_107 ?_
        refine j_callVi (c11_nameLength x n y14 s37) lv_X11_408 (rV_rc_200 x s37) ⟨Nat.le_of_ble_eq_true rfl, Nat.le_of_ble_eq_true rfl⟩ d11_known_108 rfl (Nat.le_of_ble_eq_true rfl) (fun r40 s39 => ?_)
        refine j_icmp_le d11_known_111 ?_ ?_
        · refine j_iconst d11_known_118 ejc_0 ?_
          exact j_sub [1, 2, 3, 4, 5, 6, 0] rfl (j11_known_119 x n hq f8 H8 y12 y13 y14 y15 y16 y18 0 s39)
        · refine j_iconst d11_known_114 ejc_1 ?_
          refine j_goto d11_known_115 ?_
          exact j_sub [1, 2, 3, 4, 5, 6, 0] rfl (j11_known_119 x n hq f8 H8 y12 y13 y14 y15 y16 y18 1 s39)
noncomputable def m11_known_54 (n : Nat) (f8 : Int32 → Int32 → Int32 → Int32 → Int32 → ej_S → Option (Int32 × ej_S)) (y6 : Int32) (y7 : Int32) (y8 : Int32) (y9 : Int32) (y10 : Int32) (y11 : Int32) (σ : ej_S) : Option (Int32 × ej_S) := (if y11 = 0 then (m11_known_78 n f8 y6 y7 y8 y9 y10 y11 0 σ) else ej_bi (m11_nameLength n y10 σ) fun r42 s41 => (if r42 = y7 - y6 then (m11_known_78 n f8 y6 y7 y8 y9 y10 y11 1 s41) else (m11_known_78 n f8 y6 y7 y8 y9 y10 y11 0 s41)))
set_option maxRecDepth 20000 in
set_option maxHeartbeats 2000000 in
theorem j11_known_54 (x : cw_T) (n : Nat) {F : ej_F} {r0 : Int32 × ej_S} (hq : ej_fin (rV x) F (some .int) (some (.int r0.1)) r0.2) (f8 : Int32 → Int32 → Int32 → Int32 → Int32 → ej_S → Option (Int32 × ej_S)) (H8 : ∀ (y1 : Int32) (y2 : Int32) (y3 : Int32) (y4 : Int32) (y5 : Int32) (σ : ej_S), ej_J (rV x) F i11_known r0 σ 8 [(0, .ref (cw_a x 200)), (1, .int y1), (2, .int y2), (3, .int y3), (4, .int y4), (5, .int y5)] [] (f8 y1 y2 y3 y4 y5 σ)) (y6 : Int32) (y7 : Int32) (y8 : Int32) (y9 : Int32) (y10 : Int32) (y11 : Int32) (σ : ej_S) : ej_J (rV x) F i11_known r0 σ 54 [(0, .ref (cw_a x 200)), (1, .int y6), (2, .int y7), (3, .int y8), (4, .int y9), (5, .int y10)] [.int y11] (m11_known_54 n f8 y6 y7 y8 y9 y10 y11 σ) := by
  unfold m11_known_54
  refine j_istore (i := 6) (L' := [(6, .int y11), (0, .ref (cw_a x 200)), (1, .int y6), (2, .int y7), (3, .int y8), (4, .int y9), (5, .int y10)]) d11_known_54 (Nat.le_of_ble_eq_true rfl) rfl ?_
  refine j_iload 0 rfl d11_known_56 ?_
  refine j_if_eq d11_known_58 ?_ ?_
  · refine j_iconst d11_known_77 ejc_0 ?_
    exact j_sub [1, 2, 3, 4, 5, 6, 0] rfl (j11_known_78 x n hq f8 H8 y6 y7 y8 y9 y10 y11 0 σ)
  · refine j_aload_n 1 rfl d11_known_61 ?_
    refine j_iload 6 rfl d11_known_62 ?_
    refine j_callVi (c11_nameLength x n y10 σ) lv_X11_408 (rV_rc_200 x σ) ⟨Nat.le_of_ble_eq_true rfl, Nat.le_of_ble_eq_true rfl⟩ d11_known_64 rfl (Nat.le_of_ble_eq_true rfl) (fun r42 s41 => ?_)
    refine j_iload_n 3 rfl d11_known_67 ?_
    refine j_iload_n 2 rfl d11_known_68 ?_
    refine j_isub d11_known_69 ?_
    refine j_icmp_ne d11_known_70 ?_ ?_
    · refine j_iconst d11_known_77 ejc_0 ?_
      exact j_sub [1, 2, 3, 4, 5, 6, 0] rfl (j11_known_78 x n hq f8 H8 y6 y7 y8 y9 y10 y11 0 s41)
    · refine j_iconst d11_known_73 ejc_1 ?_
      refine j_goto d11_known_74 ?_
      exact j_sub [1, 2, 3, 4, 5, 6, 0] rfl (j11_known_78 x n hq f8 H8 y6 y7 y8 y9 y10 y11 1 s41)
noncomputable def m11_known_8 (n : Nat) (k : Nat) : Int32 → Int32 → Int32 → Int32 → Int32 → ej_S → Option (Int32 × ej_S) := Nat.rec (motive := fun _ => Int32 → Int32 → Int32 → Int32 → Int32 → ej_S → Option (Int32 × ej_S)) (fun _ _ _ _ _ _ => none) (fun _ ih y1 y2 y3 y4 y5 σ => (if gI σ 15 ≤ y5 then (some (y3, σ)) else ej_ck y5 24 ((if gA σ 11 y5.toNatClampNeg = (-1) then ej_bi (m11_wayOf n y5 σ) fun r44 s43 => (if r44 = (-1) then (m11_known_54 n ih y1 y2 y3 y4 y5 0 s43) else ej_bi (m11_endsWith n y1 y2 y5 s43) fun r46 s45 => (if r46 = 0 then (m11_known_54 n ih y1 y2 y3 y4 y5 0 s45) else (m11_known_54 n ih y1 y2 y3 y4 y5 1 s45))) else (m11_known_54 n ih y1 y2 y3 y4 y5 0 σ))))) k
theorem m11_known_8_s (n : Nat) (k : Nat) (y1 : Int32) (y2 : Int32) (y3 : Int32) (y4 : Int32) (y5 : Int32) (σ : ej_S) : m11_known_8 n (k + 1) y1 y2 y3 y4 y5 σ = ((if gI σ 15 ≤ y5 then (some (y3, σ)) else ej_ck y5 24 ((if gA σ 11 y5.toNatClampNeg = (-1) then ej_bi (m11_wayOf n y5 σ) fun r44 s43 => (if r44 = (-1) then (m11_known_54 n (m11_known_8 n k) y1 y2 y3 y4 y5 0 s43) else ej_bi (m11_endsWith n y1 y2 y5 s43) fun r46 s45 => (if r46 = 0 then (m11_known_54 n (m11_known_8 n k) y1 y2 y3 y4 y5 0 s45) else (m11_known_54 n (m11_known_8 n k) y1 y2 y3 y4 y5 1 s45))) else (m11_known_54 n (m11_known_8 n k) y1 y2 y3 y4 y5 0 σ)))) : Option (Int32 × ej_S)) := rfl
set_option maxRecDepth 20000 in
set_option maxHeartbeats 2000000 in
theorem j11_known_8 (x : cw_T) (n : Nat) {F : ej_F} {r0 : Int32 × ej_S} (hq : ej_fin (rV x) F (some .int) (some (.int r0.1)) r0.2) : ∀ (k : Nat) (y1 : Int32) (y2 : Int32) (y3 : Int32) (y4 : Int32) (y5 : Int32) (σ : ej_S), ej_J (rV x) F i11_known r0 σ 8 [(0, .ref (cw_a x 200)), (1, .int y1), (2, .int y2), (3, .int y3), (4, .int y4), (5, .int y5)] [] (m11_known_8 n k y1 y2 y3 y4 y5 σ) := by
  intro k
  induction k with
  | zero => intro y1 y2 y3 y4 y5 σ; exact j_none
  | succ k ih =>
    intro y1 y2 y3 y4 y5 σ
    rw [m11_known_8_s]
    refine j_iload 5 rfl d11_known_8 ?_
    refine j_aload_n 0 rfl d11_known_10 ?_
    refine j_get fl_X11_272 (rV_g_200_28 x σ) d11_known_11 ?_
    refine j_icmp_ge d11_known_14 ?_ ?_
    · refine j_iload_n 3 rfl d11_known_166 ?_
      exact j_ireturn hq d11_known_167
    · refine j_aload_n 0 rfl d11_known_17 ?_
      refine j_get fl_X11_50 (rV_g_200_31 x σ) d11_known_18 ?_
      refine j_iload 5 rfl d11_known_21 ?_
      refine j_iald (rV_a_214 x σ) d11_known_23 ?_
      refine j_iconst d11_known_24 ejc_m1 ?_
      refine j_icmp_ne d11_known_25 ?_ ?_
      · refine j_iconst d11_known_53 ejc_0 ?_
        exact j_sub [0, 1, 2, 3, 4, 5] rfl (j11_known_54 x n hq (m11_known_8 n k) ih y1 y2 y3 y4 y5 0 σ)
      · refine j_aload_n 0 rfl d11_known_28 ?_
        refine j_iload 5 rfl d11_known_29 ?_
        refine j_callVi (c11_wayOf x n y5 σ) lv_X11_336 (rV_rc_200 x σ) ⟨Nat.le_of_ble_eq_true rfl, Nat.le_of_ble_eq_true rfl⟩ d11_known_31 rfl (Nat.le_of_ble_eq_true rfl) (fun r44 s43 => ?_)
        refine j_iconst d11_known_34 ejc_m1 ?_
        refine j_icmp_eq d11_known_35 ?_ ?_
        · refine j_iconst d11_known_53 ejc_0 ?_
          exact j_sub [0, 1, 2, 3, 4, 5] rfl (j11_known_54 x n hq (m11_known_8 n k) ih y1 y2 y3 y4 y5 0 s43)
        · refine j_aload_n 0 rfl d11_known_38 ?_
          refine j_iload_n 1 rfl d11_known_39 ?_
          refine j_iload_n 2 rfl d11_known_40 ?_
          refine j_iload 5 rfl d11_known_41 ?_
          refine j_callVi (c11_endsWith x n y1 y2 y5 s43) lv_X11_411 (rV_rc_200 x s43) ⟨Nat.le_of_ble_eq_true rfl, Nat.le_of_ble_eq_true rfl⟩ d11_known_43 rfl (Nat.le_of_ble_eq_true rfl) (fun r46 s45 => ?_)
          refine j_if_eq d11_known_46 ?_ ?_
          · refine j_iconst d11_known_53 ejc_0 ?_
            exact j_sub [0, 1, 2, 3, 4, 5] rfl (j11_known_54 x n hq (m11_known_8 n k) ih y1 y2 y3 y4 y5 0 s45)
          · refine j_iconst d11_known_49 ejc_1 ?_
            refine j_goto d11_known_50 ?_
            exact j_sub [0, 1, 2, 3, 4, 5] rfl (j11_known_54 x n hq (m11_known_8 n k) ih y1 y2 y3 y4 y5 1 s45)
noncomputable def m11_known (n : Nat) (a1 : Int32) (a2 : Int32) (σ : ej_S) : Option (Int32 × ej_S) := (m11_known_8 n n a1 a2 (-1) 0 0 σ)
set_option maxRecDepth 20000 in
set_option maxHeartbeats 2000000 in
theorem j11_known (x : cw_T) (n : Nat) (a1 : Int32) (a2 : Int32) (σ : ej_S) {F : ej_F} {r0 : Int32 × ej_S} (hq : ej_fin (rV x) F (some .int) (some (.int r0.1)) r0.2) : ej_J (rV x) F i11_known r0 σ 0 [(0, .ref (cw_a x 200)), (1, .int a1), (2, .int a2)] [] (m11_known n a1 a2 σ) := by
  unfold m11_known
  refine j_iconst d11_known_0 ejc_m1 ?_
  refine j_istore_n (i := 3) (L' := [(3, .int (-1)), (0, .ref (cw_a x 200)), (1, .int a1), (2, .int a2)]) d11_known_1 rfl (Nat.le_of_ble_eq_true rfl) rfl ?_
  refine j_iconst d11_known_2 ejc_0 ?_
  refine j_istore (i := 4) (L' := [(4, .int 0), (3, .int (-1)), (0, .ref (cw_a x 200)), (1, .int a1), (2, .int a2)]) d11_known_3 (Nat.le_of_ble_eq_true rfl) rfl ?_
  refine j_iconst d11_known_5 ejc_0 ?_
  refine j_istore (i := 5) (L' := [(5, .int 0), (4, .int 0), (3, .int (-1)), (0, .ref (cw_a x 200)), (1, .int a1), (2, .int a2)]) d11_known_6 (Nat.le_of_ble_eq_true rfl) rfl ?_
  exact j_sub [3, 4, 5, 2, 1, 0] rfl (j11_known_8 x n hq n a1 a2 (-1) 0 0 σ)
theorem c11_known (x : cw_T) (n : Nat) (a1 : Int32) (a2 : Int32) (σ : ej_S) : ∀ r σ1, m11_known n a1 a2 σ = some (r, σ1) → ∀ l, ej_Con l (rV x) i11_known yX11_known (some .int) [.ref (cw_a x 200), .int a1, .int a2] σ (some (.int r)) σ1 := fun r σ1 h l => ej_con_of (rV_ok x) pn_X11 rfl (Nat.le_of_ble_eq_true rfl) rfl h (fun F hq => j11_known x n a1 a2 σ hq)

noncomputable def m11_putsTape_2 (n : Nat) (k : Nat) : Int32 → Int32 → ej_S → Option (ej_S) := Nat.rec (motive := fun _ => Int32 → Int32 → ej_S → Option (ej_S)) (fun _ _ _ => none) (fun _ ih y1 y2 σ => (if y1 ≤ y2 then (some σ) else ej_ck (2400 + y2) 3000 (ej_bv (m11_putsCode n (gA σ 0 (2400 + y2).toNatClampNeg) σ) fun s3 => ej_nm (y2 + 1) fun x4 => (ih y1 x4 s3)))) k
theorem m11_putsTape_2_s (n : Nat) (k : Nat) (y1 : Int32) (y2 : Int32) (σ : ej_S) : m11_putsTape_2 n (k + 1) y1 y2 σ = ((if y1 ≤ y2 then (some σ) else ej_ck (2400 + y2) 3000 (ej_bv (m11_putsCode n (gA σ 0 (2400 + y2).toNatClampNeg) σ) fun s3 => ej_nm (y2 + 1) fun x4 => ((m11_putsTape_2 n k) y1 x4 s3))) : Option (ej_S)) := rfl
set_option maxRecDepth 20000 in
set_option maxHeartbeats 2000000 in
theorem j11_putsTape_2 (x : cw_T) (n : Nat) {F : ej_F} {r0 : ej_S} (hq : ej_fin (rV x) F none none r0) : ∀ (k : Nat) (y1 : Int32) (y2 : Int32) (σ : ej_S), ej_J (rV x) F i11_putsTape r0 σ 2 [(0, .ref (cw_a x 200)), (2, .int y1), (3, .int y2)] [] (m11_putsTape_2 n k y1 y2 σ) := by
  intro k
  induction k with
  | zero => intro y1 y2 σ; exact j_none
  | succ k ih =>
    intro y1 y2 σ
    rw [m11_putsTape_2_s]
    refine j_iload_n 2 rfl d11_putsTape_2 ?_
    refine j_iload_n 1 rfl d11_putsTape_3 ?_
    refine j_icmp_ge d11_putsTape_4 ?_ ?_
    · exact j_vreturn hq d11_putsTape_27
    · refine j_aload_n 0 rfl d11_putsTape_7 ?_
      refine j_aload_n 0 rfl d11_putsTape_8 ?_
      refine j_get fl_X11_7 (rV_g_200_0 x σ) d11_putsTape_9 ?_
      refine j_sipush d11_putsTape_12 ejs_2400 ?_
      refine j_iload_n 2 rfl d11_putsTape_15 ?_
      refine j_iadd d11_putsTape_16 ?_
      refine j_iald (rV_a_201 x σ) d11_putsTape_17 ?_
      refine j_callVv (c11_putsCode x n (gA σ 0 (2400 + y2).toNatClampNeg) σ) lv_X11_399 (rV_rc_200 x σ) ⟨Nat.le_of_ble_eq_true rfl, Nat.le_of_ble_eq_true rfl⟩ d11_putsTape_18 rfl (Nat.le_of_ble_eq_true rfl) (fun s3 => ?_)
      refine j_iinc (i := 3) (v := 1) (Ly := fun x4 => [(3, .int x4), (0, .ref (cw_a x 200)), (2, .int y1)]) 2 d11_putsTape_21 rfl ejc_1 (Nat.le_of_ble_eq_true rfl) (fun _ => rfl) (fun x4 => ?_)
      refine j_goto d11_putsTape_24 ?_
      exact j_sub [1, 2, 0] rfl (ih y1 x4 s3)
noncomputable def m11_putsTape (n : Nat) (a1 : Int32) (a2 : Int32) (σ : ej_S) : Option (ej_S) := (m11_putsTape_2 n n a2 a1 σ)
set_option maxRecDepth 20000 in
set_option maxHeartbeats 2000000 in
theorem j11_putsTape (x : cw_T) (n : Nat) (a1 : Int32) (a2 : Int32) (σ : ej_S) {F : ej_F} {r0 : ej_S} (hq : ej_fin (rV x) F none none r0) : ej_J (rV x) F i11_putsTape r0 σ 0 [(0, .ref (cw_a x 200)), (1, .int a1), (2, .int a2)] [] (m11_putsTape n a1 a2 σ) := by
  unfold m11_putsTape
  refine j_iload_n 1 rfl d11_putsTape_0 ?_
  refine j_istore_n (i := 3) (L' := [(3, .int a1), (0, .ref (cw_a x 200)), (1, .int a1), (2, .int a2)]) d11_putsTape_1 rfl (Nat.le_of_ble_eq_true rfl) rfl ?_
  exact j_sub [1, 3, 0] rfl (j11_putsTape_2 x n hq n a2 a1 σ)
theorem c11_putsTape (x : cw_T) (n : Nat) (a1 : Int32) (a2 : Int32) (σ : ej_S) : ∀ σ1, m11_putsTape n a1 a2 σ = some σ1 → ∀ l, ej_Con l (rV x) i11_putsTape yX11_putsTape none [.ref (cw_a x 200), .int a1, .int a2] σ none σ1 := fun σ1 h l => ej_con_of (rV_ok x) pn_X11 rfl (Nat.le_of_ble_eq_true rfl) rfl h (fun F hq => j11_putsTape x n a1 a2 σ hq)

noncomputable def m11_rewrite_164 (n : Nat) (y14 : Int32) (y15 : Int32) (σ : ej_S) : Option (Int32 × ej_S) := ej_bv (m11_putsTape n (y15 + 1) y14 σ) fun s16 => ej_bv (m11_putsRight n s16) fun s17 => ej_ck 4 5 (ej_nm (uA s17 1 ((4 : Int32).toNatClampNeg) 0) fun s18 => (some (gI s18 18, s18)))
set_option maxRecDepth 20000 in
set_option maxHeartbeats 2000000 in
theorem j11_rewrite_164 (x : cw_T) (n : Nat) {F : ej_F} {r0 : Int32 × ej_S} (hq : ej_fin (rV x) F (some .int) (some (.int r0.1)) r0.2) (y14 : Int32) (y15 : Int32) (σ : ej_S) : ej_J (rV x) F i11_rewrite r0 σ 164 [(0, .ref (cw_a x 200)), (1, .int y14), (5, .int y15)] [] (m11_rewrite_164 n y14 y15 σ) := by
  unfold m11_rewrite_164
  refine j_aload_n 0 rfl d11_rewrite_164 ?_
  refine j_iload 2 rfl d11_rewrite_165 ?_
  refine j_iconst d11_rewrite_167 ejc_1 ?_
  refine j_iadd d11_rewrite_168 ?_
  refine j_iload_n 1 rfl d11_rewrite_169 ?_
  refine j_callVv (c11_putsTape x n (y15 + 1) y14 σ) lv_X11_417 (rV_rc_200 x σ) ⟨Nat.le_of_ble_eq_true rfl, Nat.le_of_ble_eq_true rfl⟩ d11_rewrite_170 rfl (Nat.le_of_ble_eq_true rfl) (fun s16 => ?_)
  refine j_aload_n 0 rfl d11_rewrite_173 ?_
  refine j_callVv (c11_putsRight x n s16) lv_X11_405 (rV_rc_200 x s16) ⟨Nat.le_of_ble_eq_true rfl, Nat.le_of_ble_eq_true rfl⟩ d11_rewrite_174 rfl (Nat.le_of_ble_eq_true rfl) (fun s17 => ?_)
  refine j_aload_n 0 rfl d11_rewrite_177 ?_
  refine j_get fl_X11_13 (rV_g_200_1 x s17) d11_rewrite_178 ?_
  refine j_iconst d11_rewrite_181 ejc_4 ?_
  refine j_iconst d11_rewrite_182 ejc_0 ?_
  refine j_iast (rV_s_202 x s17 ((4 : Int32).toNatClampNeg) 0) d11_rewrite_183 (fun s18 => ?_)
  refine j_aload_n 0 rfl d11_rewrite_184 ?_
  refine j_get fl_X11_374 (rV_g_200_51 x s18) d11_rewrite_185 ?_
  exact j_ireturn hq d11_rewrite_188
noncomputable def m11_rewrite_81 (n : Nat) (f25 : Int32 → Int32 → Int32 → Int32 → Int32 → Int32 → ej_S → Option (Int32 × ej_S)) (y26 : Int32) (y27 : Int32) (y28 : Int32) (y29 : Int32) (y30 : Int32) (y31 : Int32) (σ : ej_S) : Option (Int32 × ej_S) := (if y30 = (-1) then ej_nm (y29 + 1) fun x34 => ej_nm (y29 + 1) fun x35 => (f25 y26 x34 y27 y31 y28 x35 σ) else ej_nm (y29 + 1) fun x32 => ej_nm (y29 + 1) fun x33 => (f25 y26 x32 y27 y31 y29 x33 σ))
set_option maxRecDepth 20000 in
set_option maxHeartbeats 2000000 in
theorem j11_rewrite_81 (x : cw_T) (n : Nat) {F : ej_F} {r0 : Int32 × ej_S} (hq : ej_fin (rV x) F (some .int) (some (.int r0.1)) r0.2) (f25 : Int32 → Int32 → Int32 → Int32 → Int32 → Int32 → ej_S → Option (Int32 × ej_S)) (H25 : ∀ (y3 : Int32) (y4 : Int32) (y5 : Int32) (y6 : Int32) (y7 : Int32) (y8 : Int32) (σ : ej_S), ej_J (rV x) F i11_rewrite r0 σ 25 [(0, .ref (cw_a x 200)), (1, .int y3), (2, .int y4), (3, .int y5), (4, .int y6), (5, .int y7), (6, .int y8)] [] (f25 y3 y4 y5 y6 y7 y8 σ)) (y26 : Int32) (y27 : Int32) (y28 : Int32) (y29 : Int32) (y30 : Int32) (y31 : Int32) (σ : ej_S) : ej_J (rV x) F i11_rewrite r0 σ 81 [(0, .ref (cw_a x 200)), (1, .int y26), (3, .int y27), (5, .int y28), (6, .int y29), (7, .int y30)] [.int y31] (m11_rewrite_81 n f25 y26 y27 y28 y29 y30 y31 σ) := by
  unfold m11_rewrite_81
  refine j_istore (i := 4) (L' := [(4, .int y31), (0, .ref (cw_a x 200)), (1, .int y26), (3, .int y27), (5, .int y28), (6, .int y29), (7, .int y30)]) d11_rewrite_81 (Nat.le_of_ble_eq_true rfl) rfl ?_
  refine j_iload 6 rfl d11_rewrite_83 ?_
  refine j_iconst d11_rewrite_85 ejc_m1 ?_
  refine j_icmp_ne d11_rewrite_86 ?_ ?_
  · refine j_iload 5 rfl d11_rewrite_94 ?_
    refine j_istore (i := 5) (L' := [(5, .int y29), (4, .int y31), (0, .ref (cw_a x 200)), (1, .int y26), (3, .int y27), (6, .int y29), (7, .int y30)]) d11_rewrite_96 (Nat.le_of_ble_eq_true rfl) rfl ?_
    refine j_iload 5 rfl d11_rewrite_98 ?_
    refine j_iconst d11_rewrite_100 ejc_1 ?_
    refine j_iadd d11_rewrite_101 ?_
    refine j_nmi (fun x32 => ?_)
    refine j_istore_n (i := 2) (L' := [(2, .int x32), (5, .int y29), (4, .int y31), (0, .ref (cw_a x 200)), (1, .int y26), (3, .int y27), (6, .int y29), (7, .int y30)]) d11_rewrite_102 rfl (Nat.le_of_ble_eq_true rfl) rfl ?_
    refine j_iinc (i := 6) (v := 1) (Ly := fun x33 => [(6, .int x33), (2, .int x32), (5, .int y29), (4, .int y31), (0, .ref (cw_a x 200)), (1, .int y26), (3, .int y27), (7, .int y30)]) 6 d11_rewrite_103 rfl ejc_1 (Nat.le_of_ble_eq_true rfl) (fun _ => rfl) (fun x33 => ?_)
    refine j_goto d11_rewrite_106 ?_
    exact j_sub [4, 5, 1, 6, 3, 2, 0] rfl (H25 y26 x32 y27 y31 y29 x33 σ)
  · refine j_iload 4 rfl d11_rewrite_89 ?_
    refine j_goto d11_rewrite_91 ?_
    refine j_istore (i := 5) (L' := [(5, .int y28), (4, .int y31), (0, .ref (cw_a x 200)), (1, .int y26), (3, .int y27), (6, .int y29), (7, .int y30)]) d11_rewrite_96 (Nat.le_of_ble_eq_true rfl) rfl ?_
    refine j_iload 5 rfl d11_rewrite_98 ?_
    refine j_iconst d11_rewrite_100 ejc_1 ?_
    refine j_iadd d11_rewrite_101 ?_
    refine j_nmi (fun x34 => ?_)
    refine j_istore_n (i := 2) (L' := [(2, .int x34), (5, .int y28), (4, .int y31), (0, .ref (cw_a x 200)), (1, .int y26), (3, .int y27), (6, .int y29), (7, .int y30)]) d11_rewrite_102 rfl (Nat.le_of_ble_eq_true rfl) rfl ?_
    refine j_iinc (i := 6) (v := 1) (Ly := fun x35 => [(6, .int x35), (2, .int x34), (5, .int y28), (4, .int y31), (0, .ref (cw_a x 200)), (1, .int y26), (3, .int y27), (7, .int y30)]) 6 d11_rewrite_103 rfl ejc_1 (Nat.le_of_ble_eq_true rfl) (fun _ => rfl) (fun x35 => ?_)
    refine j_goto d11_rewrite_106 ?_
    exact j_sub [4, 5, 1, 6, 3, 2, 0] rfl (H25 y26 x34 y27 y31 y28 x35 σ)
noncomputable def m11_rewrite_25 (n : Nat) (k : Nat) : Int32 → Int32 → Int32 → Int32 → Int32 → Int32 → ej_S → Option (Int32 × ej_S) := Nat.rec (motive := fun _ => Int32 → Int32 → Int32 → Int32 → Int32 → Int32 → ej_S → Option (Int32 × ej_S)) (fun _ _ _ _ _ _ _ => none) (fun _ ih y3 y4 y5 y6 y7 y8 σ => (if y3 ≤ y8 then ej_nm (uI σ 18 0) fun s9 => (if y5 = (-1) then ej_bv (m11_putsTape n 0 y3 s9) fun s21 => ej_ck 4 5 (ej_nm (uA s21 1 ((4 : Int32).toNatClampNeg) 0) fun s22 => (some (gI s22 18, s22))) else ej_bv (m11_lays n y5 s9) fun s10 => ej_bv (m11_putsLeft n s10) fun s11 => ej_bi (m11_nameLength n y5 s11) fun r13 s12 => (if y7 - y6 ≤ r13 then (m11_rewrite_164 n y3 y7 s12) else ej_bv (m11_putsTape n y6 y7 s12) fun s19 => ej_bv (m11_putsCode n 33 s19) fun s20 => (m11_rewrite_164 n y3 y7 s20))) else ej_ck (2400 + y8) 3000 ((if gA σ 0 (2400 + y8).toNatClampNeg = 33 then ej_bi (m11_known n y4 y8 σ) fun r25 s24 => (if r25 = (-1) then (if r25 = (-1) then (m11_rewrite_81 n ih y3 y5 y7 y8 r25 y6 s24) else (m11_rewrite_81 n ih y3 y5 y7 y8 r25 y4 s24)) else (if r25 = (-1) then (m11_rewrite_81 n ih y3 r25 y7 y8 r25 y6 s24) else (m11_rewrite_81 n ih y3 r25 y7 y8 r25 y4 s24))) else ej_nm (y8 + 1) fun x23 => (ih y3 y4 y5 y6 y7 x23 σ))))) k
theorem m11_rewrite_25_s (n : Nat) (k : Nat) (y3 : Int32) (y4 : Int32) (y5 : Int32) (y6 : Int32) (y7 : Int32) (y8 : Int32) (σ : ej_S) : m11_rewrite_25 n (k + 1) y3 y4 y5 y6 y7 y8 σ = ((if y3 ≤ y8 then ej_nm (uI σ 18 0) fun s9 => (if y5 = (-1) then ej_bv (m11_putsTape n 0 y3 s9) fun s21 => ej_ck 4 5 (ej_nm (uA s21 1 ((4 : Int32).toNatClampNeg) 0) fun s22 => (some (gI s22 18, s22))) else ej_bv (m11_lays n y5 s9) fun s10 => ej_bv (m11_putsLeft n s10) fun s11 => ej_bi (m11_nameLength n y5 s11) fun r13 s12 => (if y7 - y6 ≤ r13 then (m11_rewrite_164 n y3 y7 s12) else ej_bv (m11_putsTape n y6 y7 s12) fun s19 => ej_bv (m11_putsCode n 33 s19) fun s20 => (m11_rewrite_164 n y3 y7 s20))) else ej_ck (2400 + y8) 3000 ((if gA σ 0 (2400 + y8).toNatClampNeg = 33 then ej_bi (m11_known n y4 y8 σ) fun r25 s24 => (if r25 = (-1) then (if r25 = (-1) then (m11_rewrite_81 n (m11_rewrite_25 n k) y3 y5 y7 y8 r25 y6 s24) else (m11_rewrite_81 n (m11_rewrite_25 n k) y3 y5 y7 y8 r25 y4 s24)) else (if r25 = (-1) then (m11_rewrite_81 n (m11_rewrite_25 n k) y3 r25 y7 y8 r25 y6 s24) else (m11_rewrite_81 n (m11_rewrite_25 n k) y3 r25 y7 y8 r25 y4 s24))) else ej_nm (y8 + 1) fun x23 => ((m11_rewrite_25 n k) y3 y4 y5 y6 y7 x23 σ)))) : Option (Int32 × ej_S)) := rfl
set_option maxRecDepth 20000 in
set_option maxHeartbeats 2000000 in
theorem j11_rewrite_25 (x : cw_T) (n : Nat) {F : ej_F} {r0 : Int32 × ej_S} (hq : ej_fin (rV x) F (some .int) (some (.int r0.1)) r0.2) : ∀ (k : Nat) (y3 : Int32) (y4 : Int32) (y5 : Int32) (y6 : Int32) (y7 : Int32) (y8 : Int32) (σ : ej_S), ej_J (rV x) F i11_rewrite r0 σ 25 [(0, .ref (cw_a x 200)), (1, .int y3), (2, .int y4), (3, .int y5), (4, .int y6), (5, .int y7), (6, .int y8)] [] (m11_rewrite_25 n k y3 y4 y5 y6 y7 y8 σ) := by
  intro k
  induction k with
  | zero => intro y3 y4 y5 y6 y7 y8 σ; exact j_none
  | succ k ih =>
    intro y3 y4 y5 y6 y7 y8 σ
    rw [m11_rewrite_25_s]
    refine j_iload 6 rfl d11_rewrite_25 ?_
    refine j_iload_n 1 rfl d11_rewrite_27 ?_
    refine j_icmp_ge d11_rewrite_28 ?_ ?_
    · refine j_aload_n 0 rfl d11_rewrite_109 ?_
      refine j_iconst d11_rewrite_110 ejc_0 ?_
      refine j_put fl_X11_374 (rV_p_200_51 x σ 0) rfl rfl d11_rewrite_111 (fun s9 => ?_)
      refine j_iload_n 3 rfl d11_rewrite_114 ?_
      refine j_iconst d11_rewrite_115 ejc_m1 ?_
      refine j_icmp_ne d11_rewrite_116 ?_ ?_
      · refine j_aload_n 0 rfl d11_rewrite_128 ?_
        refine j_iload_n 3 rfl d11_rewrite_129 ?_
        refine j_callVv (c11_lays x n y5 s9) lv_X11_386 (rV_rc_200 x s9) ⟨Nat.le_of_ble_eq_true rfl, Nat.le_of_ble_eq_true rfl⟩ d11_rewrite_130 rfl (Nat.le_of_ble_eq_true rfl) (fun s10 => ?_)
        refine j_aload_n 0 rfl d11_rewrite_133 ?_
        refine j_callVv (c11_putsLeft x n s10) lv_X11_402 (rV_rc_200 x s10) ⟨Nat.le_of_ble_eq_true rfl, Nat.le_of_ble_eq_true rfl⟩ d11_rewrite_134 rfl (Nat.le_of_ble_eq_true rfl) (fun s11 => ?_)
        refine j_aload_n 0 rfl d11_rewrite_137 ?_
        refine j_iload_n 3 rfl d11_rewrite_138 ?_
        refine j_callVi (c11_nameLength x n y5 s11) lv_X11_408 (rV_rc_200 x s11) ⟨Nat.le_of_ble_eq_true rfl, Nat.le_of_ble_eq_true rfl⟩ d11_rewrite_139 rfl (Nat.le_of_ble_eq_true rfl) (fun r13 s12 => ?_)
        refine j_iload 5 rfl d11_rewrite_142 ?_
        refine j_iload 4 rfl d11_rewrite_144 ?_
        refine j_isub d11_rewrite_146 ?_
        refine j_icmp_ge d11_rewrite_147 ?_ ?_
        · exact j_sub [0, 1, 5] rfl (j11_rewrite_164 x n hq y3 y7 s12)
        · refine j_aload_n 0 rfl d11_rewrite_150 ?_
          refine j_iload 4 rfl d11_rewrite_151 ?_
          refine j_iload 5 rfl d11_rewrite_153 ?_
          refine j_callVv (c11_putsTape x n y6 y7 s12) lv_X11_417 (rV_rc_200 x s12) ⟨Nat.le_of_ble_eq_true rfl, Nat.le_of_ble_eq_true rfl⟩ d11_rewrite_155 rfl (Nat.le_of_ble_eq_true rfl) (fun s19 => ?_)
          refine j_aload_n 0 rfl d11_rewrite_158 ?_
          refine j_bipush d11_rewrite_159 ejb_33 ?_
          refine j_callVv (c11_putsCode x n 33 s19) lv_X11_399 (rV_rc_200 x s19) ⟨Nat.le_of_ble_eq_true rfl, Nat.le_of_ble_eq_true rfl⟩ d11_rewrite_161 rfl (Nat.le_of_ble_eq_true rfl) (fun s20 => ?_)
          exact j_sub [0, 1, 5] rfl (j11_rewrite_164 x n hq y3 y7 s20)
      · refine j_aload_n 0 rfl d11_rewrite_119 ?_
        refine j_iconst d11_rewrite_120 ejc_0 ?_
        refine j_iload_n 1 rfl d11_rewrite_121 ?_
        refine j_callVv (c11_putsTape x n 0 y3 s9) lv_X11_417 (rV_rc_200 x s9) ⟨Nat.le_of_ble_eq_true rfl, Nat.le_of_ble_eq_true rfl⟩ d11_rewrite_122 rfl (Nat.le_of_ble_eq_true rfl) (fun s21 => ?_)
        refine j_goto d11_rewrite_125 ?_
        refine j_aload_n 0 rfl d11_rewrite_177 ?_
        refine j_get fl_X11_13 (rV_g_200_1 x s21) d11_rewrite_178 ?_
        refine j_iconst d11_rewrite_181 ejc_4 ?_
        refine j_iconst d11_rewrite_182 ejc_0 ?_
        refine j_iast (rV_s_202 x s21 ((4 : Int32).toNatClampNeg) 0) d11_rewrite_183 (fun s22 => ?_)
        refine j_aload_n 0 rfl d11_rewrite_184 ?_
        refine j_get fl_X11_374 (rV_g_200_51 x s22) d11_rewrite_185 ?_
        exact j_ireturn hq d11_rewrite_188
    · refine j_aload_n 0 rfl d11_rewrite_31 ?_
      refine j_get fl_X11_7 (rV_g_200_0 x σ) d11_rewrite_32 ?_
      refine j_sipush d11_rewrite_35 ejs_2400 ?_
      refine j_iload 6 rfl d11_rewrite_38 ?_
      refine j_iadd d11_rewrite_40 ?_
      refine j_iald (rV_a_201 x σ) d11_rewrite_41 ?_
      refine j_bipush d11_rewrite_42 ejb_33 ?_
      refine j_icmp_ne d11_rewrite_44 ?_ ?_
      · refine j_iinc (i := 6) (v := 1) (Ly := fun x23 => [(6, .int x23), (0, .ref (cw_a x 200)), (1, .int y3), (2, .int y4), (3, .int y5), (4, .int y6), (5, .int y7)]) 6 d11_rewrite_103 rfl ejc_1 (Nat.le_of_ble_eq_true rfl) (fun _ => rfl) (fun x23 => ?_)
        refine j_goto d11_rewrite_106 ?_
        exact j_sub [1, 2, 3, 4, 5, 6, 0] rfl (ih y3 y4 y5 y6 y7 x23 σ)
      · refine j_aload_n 0 rfl d11_rewrite_47 ?_
        refine j_iload_n 2 rfl d11_rewrite_48 ?_
        refine j_iload 6 rfl d11_rewrite_49 ?_
        refine j_callVi (c11_known x n y4 y8 σ) lv_X11_414 (rV_rc_200 x σ) ⟨Nat.le_of_ble_eq_true rfl, Nat.le_of_ble_eq_true rfl⟩ d11_rewrite_51 rfl (Nat.le_of_ble_eq_true rfl) (fun r25 s24 => ?_)
        refine j_istore (i := 7) (L' := [(7, .int r25), (0, .ref (cw_a x 200)), (1, .int y3), (2, .int y4), (3, .int y5), (4, .int y6), (5, .int y7), (6, .int y8)]) d11_rewrite_54 (Nat.le_of_ble_eq_true rfl) rfl ?_
        refine j_iload 0 rfl d11_rewrite_56 ?_
        refine j_iconst d11_rewrite_58 ejc_m1 ?_
        refine j_icmp_ne d11_rewrite_59 ?_ ?_
        · refine j_iload 0 rfl d11_rewrite_66 ?_
          refine j_istore_n (i := 3) (L' := [(3, .int r25), (7, .int r25), (0, .ref (cw_a x 200)), (1, .int y3), (2, .int y4), (4, .int y6), (5, .int y7), (6, .int y8)]) d11_rewrite_68 rfl (Nat.le_of_ble_eq_true rfl) rfl ?_
          refine j_iload 1 rfl d11_rewrite_69 ?_
          refine j_iconst d11_rewrite_71 ejc_m1 ?_
          refine j_icmp_ne d11_rewrite_72 ?_ ?_
          · refine j_iload_n 4 rfl d11_rewrite_80 ?_
            exact j_sub [2, 3, 0, 6, 7, 1] rfl (j11_rewrite_81 x n hq (m11_rewrite_25 n k) ih y3 r25 y7 y8 r25 y4 s24)
          · refine j_iload 5 rfl d11_rewrite_75 ?_
            refine j_goto d11_rewrite_77 ?_
            exact j_sub [2, 3, 0, 6, 7, 1] rfl (j11_rewrite_81 x n hq (m11_rewrite_25 n k) ih y3 r25 y7 y8 r25 y6 s24)
        · refine j_iload_n 4 rfl d11_rewrite_62 ?_
          refine j_goto d11_rewrite_63 ?_
          refine j_istore_n (i := 3) (L' := [(3, .int y5), (7, .int r25), (0, .ref (cw_a x 200)), (1, .int y3), (2, .int y4), (4, .int y6), (5, .int y7), (6, .int y8)]) d11_rewrite_68 rfl (Nat.le_of_ble_eq_true rfl) rfl ?_
          refine j_iload 1 rfl d11_rewrite_69 ?_
          refine j_iconst d11_rewrite_71 ejc_m1 ?_
          refine j_icmp_ne d11_rewrite_72 ?_ ?_
          · refine j_iload_n 4 rfl d11_rewrite_80 ?_
            exact j_sub [2, 3, 0, 6, 7, 1] rfl (j11_rewrite_81 x n hq (m11_rewrite_25 n k) ih y3 y5 y7 y8 r25 y4 s24)
          · refine j_iload 5 rfl d11_rewrite_75 ?_
            refine j_goto d11_rewrite_77 ?_
            exact j_sub [2, 3, 0, 6, 7, 1] rfl (j11_rewrite_81 x n hq (m11_rewrite_25 n k) ih y3 y5 y7 y8 r25 y6 s24)
noncomputable def m11_rewrite (n : Nat)  (σ : ej_S) : Option (Int32 × ej_S) := ej_nm (uI σ 19 0) fun s1 => ej_ck 4 5 (ej_nm (gA s1 1 (4 : Int32).toNatClampNeg) fun x2 => (m11_rewrite_25 n n x2 0 (-1) 0 0 0 s1))
set_option maxRecDepth 20000 in
set_option maxHeartbeats 2000000 in
theorem j11_rewrite (x : cw_T) (n : Nat)  (σ : ej_S) {F : ej_F} {r0 : Int32 × ej_S} (hq : ej_fin (rV x) F (some .int) (some (.int r0.1)) r0.2) : ej_J (rV x) F i11_rewrite r0 σ 0 [(0, .ref (cw_a x 200))] [] (m11_rewrite n  σ) := by
  unfold m11_rewrite
  refine j_aload_n 0 rfl d11_rewrite_0 ?_
  refine j_iconst d11_rewrite_1 ejc_0 ?_
  refine j_put fl_X11_120 (rV_p_200_52 x σ 0) rfl rfl d11_rewrite_2 (fun s1 => ?_)
  refine j_aload_n 0 rfl d11_rewrite_5 ?_
  refine j_get fl_X11_13 (rV_g_200_1 x s1) d11_rewrite_6 ?_
  refine j_iconst d11_rewrite_9 ejc_4 ?_
  refine j_iald (rV_a_202 x s1) d11_rewrite_10 ?_
  refine j_nmi (fun x2 => ?_)
  refine j_istore_n (i := 1) (L' := [(1, .int x2), (0, .ref (cw_a x 200))]) d11_rewrite_11 rfl (Nat.le_of_ble_eq_true rfl) rfl ?_
  refine j_iconst d11_rewrite_12 ejc_0 ?_
  refine j_istore_n (i := 2) (L' := [(2, .int 0), (1, .int x2), (0, .ref (cw_a x 200))]) d11_rewrite_13 rfl (Nat.le_of_ble_eq_true rfl) rfl ?_
  refine j_iconst d11_rewrite_14 ejc_m1 ?_
  refine j_istore_n (i := 3) (L' := [(3, .int (-1)), (2, .int 0), (1, .int x2), (0, .ref (cw_a x 200))]) d11_rewrite_15 rfl (Nat.le_of_ble_eq_true rfl) rfl ?_
  refine j_iconst d11_rewrite_16 ejc_0 ?_
  refine j_istore (i := 4) (L' := [(4, .int 0), (3, .int (-1)), (2, .int 0), (1, .int x2), (0, .ref (cw_a x 200))]) d11_rewrite_17 (Nat.le_of_ble_eq_true rfl) rfl ?_
  refine j_iconst d11_rewrite_19 ejc_0 ?_
  refine j_istore (i := 5) (L' := [(5, .int 0), (4, .int 0), (3, .int (-1)), (2, .int 0), (1, .int x2), (0, .ref (cw_a x 200))]) d11_rewrite_20 (Nat.le_of_ble_eq_true rfl) rfl ?_
  refine j_iconst d11_rewrite_22 ejc_0 ?_
  refine j_istore (i := 6) (L' := [(6, .int 0), (5, .int 0), (4, .int 0), (3, .int (-1)), (2, .int 0), (1, .int x2), (0, .ref (cw_a x 200))]) d11_rewrite_23 (Nat.le_of_ble_eq_true rfl) rfl ?_
  exact j_sub [6, 5, 4, 3, 2, 1, 0] rfl (j11_rewrite_25 x n hq n x2 0 (-1) 0 0 0 s1)
theorem c11_rewrite (x : cw_T) (n : Nat)  (σ : ej_S) : ∀ r σ1, m11_rewrite n  σ = some (r, σ1) → ∀ l, ej_Con l (rV x) i11_rewrite yX11_rewrite (some .int) [.ref (cw_a x 200)] σ (some (.int r)) σ1 := fun r σ1 h l => ej_con_of (rV_ok x) pn_X11 rfl (Nat.le_of_ble_eq_true rfl) rfl h (fun F hq => j11_rewrite x n  σ hq)

noncomputable def m11_word_10 (n : Nat) (k : Nat) : Int32 → Int64 → Int32 → ej_S → Option (Int64 × ej_S) := Nat.rec (motive := fun _ => Int32 → Int64 → Int32 → ej_S → Option (Int64 × ej_S)) (fun _ _ _ _ => none) (fun _ ih y2 y3 y4 σ => (if 8 ≤ y4 then (some (y3, σ)) else ej_nm ((8 * (y2.toInt64)) + (y4.toInt64)) fun x5 => (if lg_cmp x5 0 < 0 then ej_nm (y3 ||| 0) fun x6 => ej_nm (y4 + 1) fun x7 => (ih y2 x6 x7 σ) else (if 0 ≤ lg_cmp x5 ((gI σ 18).toInt64) then ej_nm (y3 ||| 0) fun x8 => ej_nm (y4 + 1) fun x9 => (ih y2 x8 x9 σ) else ej_ck (x5.toInt32) 4096 (ej_nm (y3 ||| (((gA σ 28 (x5.toInt32).toNatClampNeg).toInt64) <<< ((8 * y4).toInt64 &&& 63))) fun x10 => ej_nm (y4 + 1) fun x11 => (ih y2 x10 x11 σ)))))) k
theorem m11_word_10_s (n : Nat) (k : Nat) (y2 : Int32) (y3 : Int64) (y4 : Int32) (σ : ej_S) : m11_word_10 n (k + 1) y2 y3 y4 σ = ((if 8 ≤ y4 then (some (y3, σ)) else ej_nm ((8 * (y2.toInt64)) + (y4.toInt64)) fun x5 => (if lg_cmp x5 0 < 0 then ej_nm (y3 ||| 0) fun x6 => ej_nm (y4 + 1) fun x7 => ((m11_word_10 n k) y2 x6 x7 σ) else (if 0 ≤ lg_cmp x5 ((gI σ 18).toInt64) then ej_nm (y3 ||| 0) fun x8 => ej_nm (y4 + 1) fun x9 => ((m11_word_10 n k) y2 x8 x9 σ) else ej_ck (x5.toInt32) 4096 (ej_nm (y3 ||| (((gA σ 28 (x5.toInt32).toNatClampNeg).toInt64) <<< ((8 * y4).toInt64 &&& 63))) fun x10 => ej_nm (y4 + 1) fun x11 => ((m11_word_10 n k) y2 x10 x11 σ))))) : Option (Int64 × ej_S)) := rfl
set_option maxRecDepth 20000 in
set_option maxHeartbeats 2000000 in
theorem j11_word_10 (x : cw_T) (n : Nat) {F : ej_F} {r0 : Int64 × ej_S} (hq : ej_fin (rV x) F (some .long) (some (.long r0.1)) r0.2) : ∀ (k : Nat) (y2 : Int32) (y3 : Int64) (y4 : Int32) (σ : ej_S), ej_J (rV x) F i11_word r0 σ 10 [(0, .ref (cw_a x 200)), (1, .int y2), (2, .long y3), (4, .int y4)] [] (m11_word_10 n k y2 y3 y4 σ) := by
  intro k
  induction k with
  | zero => intro y2 y3 y4 σ; exact j_none
  | succ k ih =>
    intro y2 y3 y4 σ
    rw [m11_word_10_s]
    refine j_iload 3 rfl d11_word_10 ?_
    refine j_bipush d11_word_12 ejb_8 ?_
    refine j_icmp_ge d11_word_14 ?_ ?_
    · refine j_lload_n 2 rfl d11_word_75 ?_
      exact j_lreturn hq d11_word_76
    · refine j_ldc2 d11_word_17 kl_X11_421 ?_
      refine j_iload_n 1 rfl d11_word_20 ?_
      refine j_i2l d11_word_21 ?_
      refine j_lmul d11_word_22 ?_
      refine j_iload 3 rfl d11_word_23 ?_
      refine j_i2l d11_word_25 ?_
      refine j_ladd d11_word_26 ?_
      refine j_nml (fun x5 => ?_)
      refine j_lstore (i := 5) (L' := [(5, .long x5), (0, .ref (cw_a x 200)), (1, .int y2), (2, .long y3), (4, .int y4)]) d11_word_27 (Nat.le_of_ble_eq_true rfl) rfl ?_
      refine j_lload_n 3 rfl d11_word_29 ?_
      refine j_lload 0 rfl d11_word_30 ?_
      refine j_lconst d11_word_32 ejl_0 ?_
      refine j_lcmp d11_word_33 ?_
      refine j_if_lt d11_word_34 ?_ ?_
      · refine j_lconst d11_word_66 ejl_0 ?_
        refine j_lor d11_word_67 ?_
        refine j_nml (fun x6 => ?_)
        refine j_lstore_n (i := 2) (L' := [(2, .long x6), (5, .long x5), (0, .ref (cw_a x 200)), (1, .int y2), (4, .int y4)]) d11_word_68 rfl (Nat.le_of_ble_eq_true rfl) rfl ?_
        refine j_iinc (i := 4) (v := 1) (Ly := fun x7 => [(4, .int x7), (2, .long x6), (5, .long x5), (0, .ref (cw_a x 200)), (1, .int y2)]) 4 d11_word_69 rfl ejc_1 (Nat.le_of_ble_eq_true rfl) (fun _ => rfl) (fun x7 => ?_)
        refine j_goto d11_word_72 ?_
        exact j_sub [3, 4, 1, 0] rfl (ih y2 x6 x7 σ)
      · refine j_lload 0 rfl d11_word_37 ?_
        refine j_aload_n 1 rfl d11_word_39 ?_
        refine j_get fl_X11_374 (rV_g_200_51 x σ) d11_word_40 ?_
        refine j_i2l d11_word_43 ?_
        refine j_lcmp d11_word_44 ?_
        refine j_if_ge d11_word_45 ?_ ?_
        · refine j_lconst d11_word_66 ejl_0 ?_
          refine j_lor d11_word_67 ?_
          refine j_nml (fun x8 => ?_)
          refine j_lstore_n (i := 2) (L' := [(2, .long x8), (5, .long x5), (0, .ref (cw_a x 200)), (1, .int y2), (4, .int y4)]) d11_word_68 rfl (Nat.le_of_ble_eq_true rfl) rfl ?_
          refine j_iinc (i := 4) (v := 1) (Ly := fun x9 => [(4, .int x9), (2, .long x8), (5, .long x5), (0, .ref (cw_a x 200)), (1, .int y2)]) 4 d11_word_69 rfl ejc_1 (Nat.le_of_ble_eq_true rfl) (fun _ => rfl) (fun x9 => ?_)
          refine j_goto d11_word_72 ?_
          exact j_sub [3, 4, 1, 0] rfl (ih y2 x8 x9 σ)
        · refine j_aload_n 1 rfl d11_word_48 ?_
          refine j_get fl_X11_102 (rV_g_200_50 x σ) d11_word_49 ?_
          refine j_lload 0 rfl d11_word_52 ?_
          refine j_l2i d11_word_54 ?_
          refine j_iald (rV_a_231 x σ) d11_word_55 ?_
          refine j_i2l d11_word_56 ?_
          refine j_bipush d11_word_57 ejb_8 ?_
          refine j_iload 4 rfl d11_word_59 ?_
          refine j_imul d11_word_61 ?_
          refine j_lshl d11_word_62 ?_
          refine j_goto d11_word_63 ?_
          refine j_lor d11_word_67 ?_
          refine j_nml (fun x10 => ?_)
          refine j_lstore_n (i := 2) (L' := [(2, .long x10), (5, .long x5), (0, .ref (cw_a x 200)), (1, .int y2), (4, .int y4)]) d11_word_68 rfl (Nat.le_of_ble_eq_true rfl) rfl ?_
          refine j_iinc (i := 4) (v := 1) (Ly := fun x11 => [(4, .int x11), (2, .long x10), (5, .long x5), (0, .ref (cw_a x 200)), (1, .int y2)]) 4 d11_word_69 rfl ejc_1 (Nat.le_of_ble_eq_true rfl) (fun _ => rfl) (fun x11 => ?_)
          refine j_goto d11_word_72 ?_
          exact j_sub [3, 4, 1, 0] rfl (ih y2 x10 x11 σ)
noncomputable def m11_word (n : Nat) (a1 : Int32) (σ : ej_S) : Option (Int64 × ej_S) := ej_nm (uI σ 19 0) fun s1 => (m11_word_10 n n a1 0 0 s1)
set_option maxRecDepth 20000 in
set_option maxHeartbeats 2000000 in
theorem j11_word (x : cw_T) (n : Nat) (a1 : Int32) (σ : ej_S) {F : ej_F} {r0 : Int64 × ej_S} (hq : ej_fin (rV x) F (some .long) (some (.long r0.1)) r0.2) : ej_J (rV x) F i11_word r0 σ 0 [(0, .ref (cw_a x 200)), (1, .int a1)] [] (m11_word n a1 σ) := by
  unfold m11_word
  refine j_aload_n 0 rfl d11_word_0 ?_
  refine j_iconst d11_word_1 ejc_0 ?_
  refine j_put fl_X11_120 (rV_p_200_52 x σ 0) rfl rfl d11_word_2 (fun s1 => ?_)
  refine j_lconst d11_word_5 ejl_0 ?_
  refine j_lstore_n (i := 2) (L' := [(2, .long 0), (0, .ref (cw_a x 200)), (1, .int a1)]) d11_word_6 rfl (Nat.le_of_ble_eq_true rfl) rfl ?_
  refine j_iconst d11_word_7 ejc_0 ?_
  refine j_istore (i := 4) (L' := [(4, .int 0), (2, .long 0), (0, .ref (cw_a x 200)), (1, .int a1)]) d11_word_8 (Nat.le_of_ble_eq_true rfl) rfl ?_
  exact j_sub [2, 3, 1, 0] rfl (j11_word_10 x n hq n a1 0 0 s1)
theorem c11_word (x : cw_T) (n : Nat) (a1 : Int32) (σ : ej_S) : ∀ r σ1, m11_word n a1 σ = some (r, σ1) → ∀ l, ej_Con l (rV x) i11_word yX11_word (some .long) [.ref (cw_a x 200), .int a1] σ (some (.long r)) σ1 := fun r σ1 h l => ej_con_of (rV_ok x) pn_X11 rfl (Nat.le_of_ble_eq_true rfl) rfl h (fun F hq => j11_word x n a1 σ hq)

