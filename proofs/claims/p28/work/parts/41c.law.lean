noncomputable def mL_step_183 (n : Nat) (y17 : Int32) (y18 : Int32) (y19 : Int32) (σ : lw_S) : Option (Int32 × lw_S) := (if y17 = 4 then (some (0, σ)) else (if y17 = 5 then (some ((y18 + y19) + 200000, σ)) else (some ((y18 + y19) + 0, σ))))
set_option maxRecDepth 20000 in
set_option maxHeartbeats 2000000 in
theorem jL_step_183 (x : lw_T) (n : Nat) {F : ej_F} {r0 : Int32 × lw_S} (hq : ej_fin (lV x) F (some .int) (some (.int r0.1)) r0.2) (y17 : Int32) (y18 : Int32) (y19 : Int32) (σ : lw_S) : ej_J (lV x) F iL_step r0 σ 183 [(6, .int y17), (9, .int y18)] [.int y19] (mL_step_183 n y17 y18 y19 σ) := by
  unfold mL_step_183
  refine j_istore (i := 10) (L' := [(10, .int y19), (6, .int y17), (9, .int y18)]) dL_step_183 (Nat.le_of_ble_eq_true rfl) rfl ?_
  refine j_iload 1 rfl dL_step_185 ?_
  refine j_iconst dL_step_187 ejc_4 ?_
  refine j_icmp_ne dL_step_188 ?_ ?_
  · refine j_iload 2 rfl dL_step_195 ?_
    refine j_iload 0 rfl dL_step_197 ?_
    refine j_iadd dL_step_199 ?_
    refine j_iload 1 rfl dL_step_200 ?_
    refine j_iconst dL_step_202 ejc_5 ?_
    refine j_icmp_ne dL_step_203 ?_ ?_
    · refine j_iconst dL_step_211 ejc_0 ?_
      refine j_iadd dL_step_212 ?_
      exact j_ireturn hq dL_step_213
    · refine j_ldc dL_step_206 ki_L_111 ?_
      refine j_goto dL_step_208 ?_
      refine j_iadd dL_step_212 ?_
      exact j_ireturn hq dL_step_213
  · refine j_iconst dL_step_191 ejc_0 ?_
    refine j_goto dL_step_192 ?_
    exact j_ireturn hq dL_step_213
noncomputable def mL_step_164 (n : Nat) (y11 : Int32) (y12 : Int32) (y13 : Int32) (y14 : Int32) (σ : lw_S) : Option (Int32 × lw_S) := ej_bi (mL_told n 3 y12 0 σ) fun r15 s16 => (if 0 ≤ r15 then (mL_step_183 n y11 y13 (y14 + 100000) s16) else (mL_step_183 n y11 y13 (y14 + 0) s16))
set_option maxRecDepth 20000 in
set_option maxHeartbeats 2000000 in
theorem jL_step_164 (x : lw_T) (n : Nat) {F : ej_F} {r0 : Int32 × lw_S} (hq : ej_fin (lV x) F (some .int) (some (.int r0.1)) r0.2) (y11 : Int32) (y12 : Int32) (y13 : Int32) (y14 : Int32) (σ : lw_S) : ej_J (lV x) F iL_step r0 σ 164 [(1, .ref (cw_a x.1 210)), (3, .ref (cw_a x.1 212)), (6, .int y11), (7, .int y12), (9, .int y13)] [.int y14] (mL_step_164 n y11 y12 y13 y14 σ) := by
  unfold mL_step_164
  refine j_aload_n 0 rfl dL_step_164 ?_
  refine j_aload_n 1 rfl dL_step_165 ?_
  refine j_iconst dL_step_166 ejc_3 ?_
  refine j_iload 3 rfl dL_step_167 ?_
  refine j_iconst dL_step_169 ejc_0 ?_
  refine j_callSi (kL_told x n 3 y12 0 σ) ls_L_104 ⟨Nat.le_of_ble_eq_true rfl, Nat.le_of_ble_eq_true rfl⟩ dL_step_170 rfl (Nat.le_of_ble_eq_true rfl) (fun r15 s16 => ?_)
  refine j_if_ge dL_step_173 ?_ ?_
  · refine j_ldc dL_step_180 ki_L_86 ?_
    refine j_iadd dL_step_182 ?_
    exact j_sub [2, 4] rfl (jL_step_183 x n hq y11 y13 (y14 + 100000) s16)
  · refine j_iconst dL_step_176 ejc_0 ?_
    refine j_goto dL_step_177 ?_
    refine j_iadd dL_step_182 ?_
    exact j_sub [2, 4] rfl (jL_step_183 x n hq y11 y13 (y14 + 0) s16)
noncomputable def mL_step_126 (n : Nat) (y5 : Int32) (y6 : Int32) (y7 : Int32) (y8 : Int32) (σ : lw_S) : Option (Int32 × lw_S) := (if 0 ≤ y8 then (if y5 = 2 then ej_bi (mL_told n 4 y6 y7 σ) fun r9 s10 => (if 0 ≤ r9 then (mL_step_164 n y5 y6 y8 100000 s10) else (mL_step_164 n y5 y6 y8 0 s10)) else (mL_step_183 n y5 y8 0 σ)) else (some ((-1), σ)))
set_option maxRecDepth 20000 in
set_option maxHeartbeats 2000000 in
theorem jL_step_126 (x : lw_T) (n : Nat) {F : ej_F} {r0 : Int32 × lw_S} (hq : ej_fin (lV x) F (some .int) (some (.int r0.1)) r0.2) (y5 : Int32) (y6 : Int32) (y7 : Int32) (y8 : Int32) (σ : lw_S) : ej_J (lV x) F iL_step r0 σ 126 [(1, .ref (cw_a x.1 210)), (3, .ref (cw_a x.1 212)), (6, .int y5), (7, .int y6), (8, .int y7)] [.int y8] (mL_step_126 n y5 y6 y7 y8 σ) := by
  unfold mL_step_126
  refine j_istore (i := 9) (L' := [(9, .int y8), (1, .ref (cw_a x.1 210)), (3, .ref (cw_a x.1 212)), (6, .int y5), (7, .int y6), (8, .int y7)]) dL_step_126 (Nat.le_of_ble_eq_true rfl) rfl ?_
  refine j_iload 0 rfl dL_step_128 ?_
  refine j_if_ge dL_step_130 ?_ ?_
  · refine j_iload 3 rfl dL_step_135 ?_
    refine j_iconst dL_step_137 ejc_2 ?_
    refine j_icmp_eq dL_step_138 ?_ ?_
    · refine j_aload_n 1 rfl dL_step_145 ?_
      refine j_aload_n 2 rfl dL_step_146 ?_
      refine j_iconst dL_step_147 ejc_4 ?_
      refine j_iload 4 rfl dL_step_148 ?_
      refine j_iload 5 rfl dL_step_150 ?_
      refine j_callSi (kL_told x n 4 y6 y7 σ) ls_L_104 ⟨Nat.le_of_ble_eq_true rfl, Nat.le_of_ble_eq_true rfl⟩ dL_step_152 rfl (Nat.le_of_ble_eq_true rfl) (fun r9 s10 => ?_)
      refine j_if_ge dL_step_155 ?_ ?_
      · refine j_ldc dL_step_162 ki_L_86 ?_
        exact j_sub [1, 2, 3, 4, 0] rfl (jL_step_164 x n hq y5 y6 y8 100000 s10)
      · refine j_iconst dL_step_158 ejc_0 ?_
        refine j_goto dL_step_159 ?_
        exact j_sub [1, 2, 3, 4, 0] rfl (jL_step_164 x n hq y5 y6 y8 0 s10)
    · refine j_iconst dL_step_141 ejc_0 ?_
      refine j_goto dL_step_142 ?_
      exact j_sub [3, 0] rfl (jL_step_183 x n hq y5 y8 0 σ)
  · refine j_iconst dL_step_133 ejc_m1 ?_
    exact j_ireturn hq dL_step_134
noncomputable def mL_step (n : Nat) (a4 : Int32) (a5 : Int32) (a6 : Int32) (σ : lw_S) : Option (Int32 × lw_S) := ej_ck a4 12 (ej_nm (gA σ.2 1 a4.toNatClampNeg) fun x1 => ej_ck a5 12 (ej_nm (gA σ.2 1 a5.toNatClampNeg) fun x2 => (if a6 = 1 then ej_bi (mL_told n 1 x1 x2 σ) fun r28 s29 => ej_bi (mL_told n 1 x2 x1 s29) fun r30 s31 => ej_bi (mL_either n r28 r30 s31) fun r32 s33 => (mL_step_126 n a6 x1 x2 r32 s33) else (if a6 = 2 then ej_bi (mL_told n 0 x1 x2 σ) fun r26 s27 => (mL_step_126 n a6 x1 x2 r26 s27) else (if a6 = 3 then ej_bi (mL_told n 2 x2 x1 σ) fun r24 s25 => (mL_step_126 n a6 x1 x2 r24 s25) else (if a6 = 4 then ej_bi (mL_told n 2 x1 x2 σ) fun r22 s23 => (mL_step_126 n a6 x1 x2 r22 s23) else ej_bi (ej_lcn (m10_isBack n a4 a5 σ.1) σ) fun r3 s4 => (if r3 = 0 then (mL_step_126 n a6 x1 x2 (-1) s4) else ej_bi (mL_told n 0 x2 x1 s4) fun r20 s21 => (mL_step_126 n a6 x1 x2 r20 s21))))))))
set_option maxRecDepth 20000 in
set_option maxHeartbeats 2000000 in
theorem jL_step (x : lw_T) (n : Nat) (a4 : Int32) (a5 : Int32) (a6 : Int32) (σ : lw_S) {F : ej_F} {r0 : Int32 × lw_S} (hq : ej_fin (lV x) F (some .int) (some (.int r0.1)) r0.2) : ej_J (lV x) F iL_step r0 σ 0 [(0, .ref (cw_a x.1 0)), (1, .ref (cw_a x.1 210)), (2, .ref (cw_a x.1 211)), (3, .ref (cw_a x.1 212)), (4, .int a4), (5, .int a5), (6, .int a6)] [] (mL_step n a4 a5 a6 σ) := by
  unfold mL_step
  refine j_aload_n 2 rfl dL_step_0 ?_
  refine j_iload 4 rfl dL_step_1 ?_
  refine j_iald (lV_a_211 x σ) dL_step_3 ?_
  refine j_nmi (fun x1 => ?_)
  refine j_istore (i := 7) (L' := [(7, .int x1), (0, .ref (cw_a x.1 0)), (1, .ref (cw_a x.1 210)), (2, .ref (cw_a x.1 211)), (3, .ref (cw_a x.1 212)), (4, .int a4), (5, .int a5), (6, .int a6)]) dL_step_4 (Nat.le_of_ble_eq_true rfl) rfl ?_
  refine j_aload_n 3 rfl dL_step_6 ?_
  refine j_iload 6 rfl dL_step_7 ?_
  refine j_iald (lV_a_211 x σ) dL_step_9 ?_
  refine j_nmi (fun x2 => ?_)
  refine j_istore (i := 8) (L' := [(8, .int x2), (7, .int x1), (0, .ref (cw_a x.1 0)), (1, .ref (cw_a x.1 210)), (2, .ref (cw_a x.1 211)), (3, .ref (cw_a x.1 212)), (4, .int a4), (5, .int a5), (6, .int a6)]) dL_step_10 (Nat.le_of_ble_eq_true rfl) rfl ?_
  refine j_iload 8 rfl dL_step_12 ?_
  refine j_iconst dL_step_14 ejc_1 ?_
  refine j_icmp_ne dL_step_15 ?_ ?_
  · refine j_iload 8 rfl dL_step_44 ?_
    refine j_iconst dL_step_46 ejc_2 ?_
    refine j_icmp_ne dL_step_47 ?_ ?_
    · refine j_iload 8 rfl dL_step_63 ?_
      refine j_iconst dL_step_65 ejc_3 ?_
      refine j_icmp_ne dL_step_66 ?_ ?_
      · refine j_iload 8 rfl dL_step_82 ?_
        refine j_iconst dL_step_84 ejc_4 ?_
        refine j_icmp_ne dL_step_85 ?_ ?_
        · refine j_aload_n 2 rfl dL_step_101 ?_
          refine j_iload 6 rfl dL_step_102 ?_
          refine j_iload 7 rfl dL_step_104 ?_
          refine j_callVi (lcn_con (n10_isBack x.1 n a4 a5 σ.1)) lv_L_73 (lV_rc_0 x σ) ⟨Nat.le_of_ble_eq_true rfl, Nat.le_of_ble_eq_true rfl⟩ dL_step_106 rfl (Nat.le_of_ble_eq_true rfl) (fun r3 s4 => ?_)
          refine j_if_eq dL_step_109 ?_ ?_
          · refine j_iconst dL_step_125 ejc_m1 ?_
            exact j_sub [3, 5, 8, 1, 0] rfl (jL_step_126 x n hq a6 x1 x2 (-1) s4)
          · refine j_aload_n 3 rfl dL_step_112 ?_
            refine j_aload_n 5 rfl dL_step_113 ?_
            refine j_iconst dL_step_114 ejc_0 ?_
            refine j_iload 0 rfl dL_step_115 ?_
            refine j_iload 1 rfl dL_step_117 ?_
            refine j_callSi (kL_told x n 0 x2 x1 s4) ls_L_104 ⟨Nat.le_of_ble_eq_true rfl, Nat.le_of_ble_eq_true rfl⟩ dL_step_119 rfl (Nat.le_of_ble_eq_true rfl) (fun r20 s21 => ?_)
            refine j_goto dL_step_122 ?_
            exact j_sub [3, 5, 8, 1, 0] rfl (jL_step_126 x n hq a6 x1 x2 r20 s21)
        · refine j_aload_n 3 rfl dL_step_88 ?_
          refine j_aload_n 5 rfl dL_step_89 ?_
          refine j_iconst dL_step_90 ejc_2 ?_
          refine j_iload 1 rfl dL_step_91 ?_
          refine j_iload 0 rfl dL_step_93 ?_
          refine j_callSi (kL_told x n 2 x1 x2 σ) ls_L_104 ⟨Nat.le_of_ble_eq_true rfl, Nat.le_of_ble_eq_true rfl⟩ dL_step_95 rfl (Nat.le_of_ble_eq_true rfl) (fun r22 s23 => ?_)
          refine j_goto dL_step_98 ?_
          exact j_sub [3, 5, 8, 1, 0] rfl (jL_step_126 x n hq a6 x1 x2 r22 s23)
      · refine j_aload_n 3 rfl dL_step_69 ?_
        refine j_aload_n 5 rfl dL_step_70 ?_
        refine j_iconst dL_step_71 ejc_2 ?_
        refine j_iload 0 rfl dL_step_72 ?_
        refine j_iload 1 rfl dL_step_74 ?_
        refine j_callSi (kL_told x n 2 x2 x1 σ) ls_L_104 ⟨Nat.le_of_ble_eq_true rfl, Nat.le_of_ble_eq_true rfl⟩ dL_step_76 rfl (Nat.le_of_ble_eq_true rfl) (fun r24 s25 => ?_)
        refine j_goto dL_step_79 ?_
        exact j_sub [3, 5, 8, 1, 0] rfl (jL_step_126 x n hq a6 x1 x2 r24 s25)
    · refine j_aload_n 3 rfl dL_step_50 ?_
      refine j_aload_n 5 rfl dL_step_51 ?_
      refine j_iconst dL_step_52 ejc_0 ?_
      refine j_iload 1 rfl dL_step_53 ?_
      refine j_iload 0 rfl dL_step_55 ?_
      refine j_callSi (kL_told x n 0 x1 x2 σ) ls_L_104 ⟨Nat.le_of_ble_eq_true rfl, Nat.le_of_ble_eq_true rfl⟩ dL_step_57 rfl (Nat.le_of_ble_eq_true rfl) (fun r26 s27 => ?_)
      refine j_goto dL_step_60 ?_
      exact j_sub [3, 5, 8, 1, 0] rfl (jL_step_126 x n hq a6 x1 x2 r26 s27)
  · refine j_aload_n 3 rfl dL_step_18 ?_
    refine j_aload_n 5 rfl dL_step_19 ?_
    refine j_iconst dL_step_20 ejc_1 ?_
    refine j_iload 1 rfl dL_step_21 ?_
    refine j_iload 0 rfl dL_step_23 ?_
    refine j_callSi (kL_told x n 1 x1 x2 σ) ls_L_104 ⟨Nat.le_of_ble_eq_true rfl, Nat.le_of_ble_eq_true rfl⟩ dL_step_25 rfl (Nat.le_of_ble_eq_true rfl) (fun r28 s29 => ?_)
    refine j_aload_n 3 rfl dL_step_28 ?_
    refine j_aload_n 5 rfl dL_step_29 ?_
    refine j_iconst dL_step_30 ejc_1 ?_
    refine j_iload 0 rfl dL_step_31 ?_
    refine j_iload 1 rfl dL_step_33 ?_
    refine j_callSi (kL_told x n 1 x2 x1 s29) ls_L_104 ⟨Nat.le_of_ble_eq_true rfl, Nat.le_of_ble_eq_true rfl⟩ dL_step_35 rfl (Nat.le_of_ble_eq_true rfl) (fun r30 s31 => ?_)
    refine j_callSi (kL_either x n r28 r30 s31) ls_L_108 ⟨Nat.le_of_ble_eq_true rfl, Nat.le_of_ble_eq_true rfl⟩ dL_step_38 rfl (Nat.le_of_ble_eq_true rfl) (fun r32 s33 => ?_)
    refine j_goto dL_step_41 ?_
    exact j_sub [3, 5, 8, 1, 0] rfl (jL_step_126 x n hq a6 x1 x2 r32 s33)
theorem kL_step (x : lw_T) (n : Nat) (a4 : Int32) (a5 : Int32) (a6 : Int32) (σ : lw_S) : ∀ r σ1, mL_step n a4 a5 a6 σ = some (r, σ1) → ∀ l, ej_Con l (lV x) iL_step yL_step (some .int) [.ref (cw_a x.1 0), .ref (cw_a x.1 210), .ref (cw_a x.1 211), .ref (cw_a x.1 212), .int a4, .int a5, .int a6] σ (some (.int r)) σ1 := fun r σ1 h l => ej_con_of (lV_ok x) pn_L rfl (Nat.le_of_ble_eq_true rfl) rfl h (fun F hq => jL_step x n a4 a5 a6 σ hq)

noncomputable def mL_all_19 (n : Nat) (k : Nat) : Int64 → Int32 → lw_S → Option (Int64 × lw_S) := Nat.rec (motive := fun _ => Int64 → Int32 → lw_S → Option (Int64 × lw_S)) (fun _ _ _ => none) (fun _ ih y6 y7 σ => ej_ck 2 4 ((if gA σ.2 2 (2 : Int32).toNatClampNeg ≤ y7 then (some (y6, σ)) else ej_bi (ej_lcn (m10_cost n y7 σ.1) σ) fun r8 s9 => ej_bi (ej_lcn (m10_steps n y7 s9.1) s9) fun r10 s11 => ej_bi (ej_lcn (m10_kind n y7 s11.1) s11) fun r12 s13 => ej_ck 2 4 (ej_dv (gA s13.2 2 (2 : Int32).toNatClampNeg) (ej_bi (ej_lcn (m10_linkCost n y7 ((y7 + 1) - (y7 + 1) / (gA s13.2 2 (2 : Int32).toNatClampNeg) * (gA s13.2 2 (2 : Int32).toNatClampNeg)) s13.1) s13) fun r14 s15 => ej_nm (((((1000003 * y6) + (r8.toInt64)) + (31 * (r10.toInt64))) + (1009 * (r12.toInt64))) + (65537 * (r14.toInt64))) fun x16 => ej_nm (y7 + 1) fun x17 => (ih x16 x17 s15)))))) k
theorem mL_all_19_s (n : Nat) (k : Nat) (y6 : Int64) (y7 : Int32) (σ : lw_S) : mL_all_19 n (k + 1) y6 y7 σ = (ej_ck 2 4 ((if gA σ.2 2 (2 : Int32).toNatClampNeg ≤ y7 then (some (y6, σ)) else ej_bi (ej_lcn (m10_cost n y7 σ.1) σ) fun r8 s9 => ej_bi (ej_lcn (m10_steps n y7 s9.1) s9) fun r10 s11 => ej_bi (ej_lcn (m10_kind n y7 s11.1) s11) fun r12 s13 => ej_ck 2 4 (ej_dv (gA s13.2 2 (2 : Int32).toNatClampNeg) (ej_bi (ej_lcn (m10_linkCost n y7 ((y7 + 1) - (y7 + 1) / (gA s13.2 2 (2 : Int32).toNatClampNeg) * (gA s13.2 2 (2 : Int32).toNatClampNeg)) s13.1) s13) fun r14 s15 => ej_nm (((((1000003 * y6) + (r8.toInt64)) + (31 * (r10.toInt64))) + (1009 * (r12.toInt64))) + (65537 * (r14.toInt64))) fun x16 => ej_nm (y7 + 1) fun x17 => ((mL_all_19 n k) x16 x17 s15))))) : Option (Int64 × lw_S)) := rfl
set_option maxRecDepth 20000 in
set_option maxHeartbeats 2000000 in
theorem jL_all_19 (x : lw_T) (n : Nat) {F : ej_F} {r0 : Int64 × lw_S} (hq : ej_fin (lV x) F (some .long) (some (.long r0.1)) r0.2) : ∀ (k : Nat) (y6 : Int64) (y7 : Int32) (σ : lw_S), ej_J (lV x) F iL_all r0 σ 19 [(0, .ref (cw_a x.1 0)), (1, .ref (cw_a x.1 212)), (2, .long y6), (4, .int y7)] [] (mL_all_19 n k y6 y7 σ) := by
  intro k
  induction k with
  | zero => intro y6 y7 σ; exact j_none
  | succ k ih =>
    intro y6 y7 σ
    rw [mL_all_19_s]
    refine j_iload 3 rfl dL_all_19 ?_
    refine j_aload_n 1 rfl dL_all_21 ?_
    refine j_iconst dL_all_22 ejc_2 ?_
    refine j_iald (lV_a_212 x σ) dL_all_23 ?_
    refine j_icmp_ge dL_all_24 ?_ ?_
    · refine j_lload_n 2 rfl dL_all_91 ?_
      exact j_lreturn hq dL_all_92
    · refine j_ldc2 dL_all_27 kl_L_120 ?_
      refine j_lload_n 2 rfl dL_all_30 ?_
      refine j_lmul dL_all_31 ?_
      refine j_aload_n 0 rfl dL_all_32 ?_
      refine j_iload 3 rfl dL_all_33 ?_
      refine j_callVi (lcn_con (n10_cost x.1 n y7 σ.1)) lv_L_52 (lV_rc_0 x σ) ⟨Nat.le_of_ble_eq_true rfl, Nat.le_of_ble_eq_true rfl⟩ dL_all_35 rfl (Nat.le_of_ble_eq_true rfl) (fun r8 s9 => ?_)
      refine j_i2l dL_all_38 ?_
      refine j_ladd dL_all_39 ?_
      refine j_ldc2 dL_all_40 kl_L_115 ?_
      refine j_aload_n 0 rfl dL_all_43 ?_
      refine j_iload 3 rfl dL_all_44 ?_
      refine j_callVi (lcn_con (n10_steps x.1 n y7 s9.1)) lv_L_58 (lV_rc_0 x s9) ⟨Nat.le_of_ble_eq_true rfl, Nat.le_of_ble_eq_true rfl⟩ dL_all_46 rfl (Nat.le_of_ble_eq_true rfl) (fun r10 s11 => ?_)
      refine j_i2l dL_all_49 ?_
      refine j_lmul dL_all_50 ?_
      refine j_ladd dL_all_51 ?_
      refine j_ldc2 dL_all_52 kl_L_122 ?_
      refine j_aload_n 0 rfl dL_all_55 ?_
      refine j_iload 3 rfl dL_all_56 ?_
      refine j_callVi (lcn_con (n10_kind x.1 n y7 s11.1)) lv_L_38 (lV_rc_0 x s11) ⟨Nat.le_of_ble_eq_true rfl, Nat.le_of_ble_eq_true rfl⟩ dL_all_58 rfl (Nat.le_of_ble_eq_true rfl) (fun r12 s13 => ?_)
      refine j_i2l dL_all_61 ?_
      refine j_lmul dL_all_62 ?_
      refine j_ladd dL_all_63 ?_
      refine j_ldc2 dL_all_64 kl_L_124 ?_
      refine j_aload_n 0 rfl dL_all_67 ?_
      refine j_iload 3 rfl dL_all_68 ?_
      refine j_iload 3 rfl dL_all_70 ?_
      refine j_iconst dL_all_72 ejc_1 ?_
      refine j_iadd dL_all_73 ?_
      refine j_aload_n 1 rfl dL_all_74 ?_
      refine j_iconst dL_all_75 ejc_2 ?_
      refine j_iald (lV_a_212 x s13) dL_all_76 ?_
      refine j_irem dL_all_77 ?_
      refine j_callVi (lcn_con (n10_linkCost x.1 n y7 ((y7 + 1) - (y7 + 1) / (gA s13.2 2 (2 : Int32).toNatClampNeg) * (gA s13.2 2 (2 : Int32).toNatClampNeg)) s13.1)) lv_L_45 (lV_rc_0 x s13) ⟨Nat.le_of_ble_eq_true rfl, Nat.le_of_ble_eq_true rfl⟩ dL_all_78 rfl (Nat.le_of_ble_eq_true rfl) (fun r14 s15 => ?_)
      refine j_i2l dL_all_81 ?_
      refine j_lmul dL_all_82 ?_
      refine j_ladd dL_all_83 ?_
      refine j_nml (fun x16 => ?_)
      refine j_lstore_n (i := 2) (L' := [(2, .long x16), (0, .ref (cw_a x.1 0)), (1, .ref (cw_a x.1 212)), (4, .int y7)]) dL_all_84 rfl (Nat.le_of_ble_eq_true rfl) rfl ?_
      refine j_iinc (i := 4) (v := 1) (Ly := fun x17 => [(4, .int x17), (2, .long x16), (0, .ref (cw_a x.1 0)), (1, .ref (cw_a x.1 212))]) 3 dL_all_85 rfl ejc_1 (Nat.le_of_ble_eq_true rfl) (fun _ => rfl) (fun x17 => ?_)
      refine j_goto dL_all_88 ?_
      exact j_sub [2, 3, 1, 0] rfl (ih x16 x17 s15)
noncomputable def mL_all (n : Nat)  (σ : lw_S) : Option (Int64 × lw_S) := ej_bi (ej_lc (m10_nodes n σ.1) σ) fun r1 s2 => ej_bi (ej_lc (m10_home n s2.1) s2) fun r3 s4 => ej_nm ((r1.toInt64) + (31 * (r3.toInt64))) fun x5 => (mL_all_19 n n x5 0 s4)
set_option maxRecDepth 20000 in
set_option maxHeartbeats 2000000 in
theorem jL_all (x : lw_T) (n : Nat)  (σ : lw_S) {F : ej_F} {r0 : Int64 × lw_S} (hq : ej_fin (lV x) F (some .long) (some (.long r0.1)) r0.2) : ej_J (lV x) F iL_all r0 σ 0 [(0, .ref (cw_a x.1 0)), (1, .ref (cw_a x.1 212))] [] (mL_all n  σ) := by
  unfold mL_all
  refine j_aload_n 0 rfl dL_all_0 ?_
  refine j_callVi (fun z1 z2 z3 z4 => lc_con (f := fun r => some (.int r)) (fun z5 z6 z7 => c10_nodes x.1 n σ.1 z5 z6 z7 z4) z1 z2 z3) lv_L_112 (lV_rc_0 x σ) ⟨Nat.le_of_ble_eq_true rfl, Nat.le_of_ble_eq_true rfl⟩ dL_all_1 rfl (Nat.le_of_ble_eq_true rfl) (fun r1 s2 => ?_)
  refine j_i2l dL_all_4 ?_
  refine j_ldc2 dL_all_5 kl_L_115 ?_
  refine j_aload_n 0 rfl dL_all_8 ?_
  refine j_callVi (fun z1 z2 z3 z4 => lc_con (f := fun r => some (.int r)) (fun z5 z6 z7 => c10_home x.1 n s2.1 z5 z6 z7 z4) z1 z2 z3) lv_L_117 (lV_rc_0 x s2) ⟨Nat.le_of_ble_eq_true rfl, Nat.le_of_ble_eq_true rfl⟩ dL_all_9 rfl (Nat.le_of_ble_eq_true rfl) (fun r3 s4 => ?_)
  refine j_i2l dL_all_12 ?_
  refine j_lmul dL_all_13 ?_
  refine j_ladd dL_all_14 ?_
  refine j_nml (fun x5 => ?_)
  refine j_lstore_n (i := 2) (L' := [(2, .long x5), (0, .ref (cw_a x.1 0)), (1, .ref (cw_a x.1 212))]) dL_all_15 rfl (Nat.le_of_ble_eq_true rfl) rfl ?_
  refine j_iconst dL_all_16 ejc_0 ?_
  refine j_istore (i := 4) (L' := [(4, .int 0), (2, .long x5), (0, .ref (cw_a x.1 0)), (1, .ref (cw_a x.1 212))]) dL_all_17 (Nat.le_of_ble_eq_true rfl) rfl ?_
  exact j_sub [2, 3, 1, 0] rfl (jL_all_19 x n hq n x5 0 s4)
theorem kL_all (x : lw_T) (n : Nat)  (σ : lw_S) : ∀ r σ1, mL_all n  σ = some (r, σ1) → ∀ l, ej_Con l (lV x) iL_all yL_all (some .long) [.ref (cw_a x.1 0), .ref (cw_a x.1 212)] σ (some (.long r)) σ1 := fun r σ1 h l => ej_con_of (lV_ok x) pn_L rfl (Nat.le_of_ble_eq_true rfl) rfl h (fun F hq => jL_all x n  σ hq)

noncomputable def mL_out (n : Nat) (a1 : Int32) (σ : lw_S) : Option (Int32 × lw_S) := ej_bl (ej_lc (m10_word n (a1 / 8) σ.1) σ) fun r1 s2 => (some (((r1 >>> ((8 * (a1 - a1 / 8 * 8)).toInt64 &&& 63)) &&& 255).toInt32, s2))
set_option maxRecDepth 20000 in
set_option maxHeartbeats 2000000 in
theorem jL_out (x : lw_T) (n : Nat) (a1 : Int32) (σ : lw_S) {F : ej_F} {r0 : Int32 × lw_S} (hq : ej_fin (lV x) F (some .int) (some (.int r0.1)) r0.2) : ej_J (lV x) F iL_out r0 σ 0 [(0, .ref (cw_a x.1 0)), (1, .int a1)] [] (mL_out n a1 σ) := by
  unfold mL_out
  refine j_aload_n 0 rfl dL_out_0 ?_
  refine j_iload_n 1 rfl dL_out_1 ?_
  refine j_bipush dL_out_2 ejb_8 ?_
  refine j_idiv0 (by decide) dL_out_4 ?_
  refine j_callVl (fun z1 z2 z3 z4 => lc_con (f := fun r => some (.long r)) (fun z5 z6 z7 => c10_word x.1 n (a1 / 8) σ.1 z5 z6 z7 z4) z1 z2 z3) lv_L_126 (lV_rc_0 x σ) ⟨Nat.le_of_ble_eq_true rfl, Nat.le_of_ble_eq_true rfl⟩ dL_out_5 rfl (Nat.le_of_ble_eq_true rfl) (fun r1 s2 => ?_)
  refine j_bipush dL_out_8 ejb_8 ?_
  refine j_iload_n 1 rfl dL_out_10 ?_
  refine j_bipush dL_out_11 ejb_8 ?_
  refine j_irem0 (by decide) dL_out_13 ?_
  refine j_imul dL_out_14 ?_
  refine j_lshr dL_out_15 ?_
  refine j_ldc2 dL_out_16 kl_L_130 ?_
  refine j_land dL_out_19 ?_
  refine j_l2i dL_out_20 ?_
  exact j_ireturn hq dL_out_21
theorem kL_out (x : lw_T) (n : Nat) (a1 : Int32) (σ : lw_S) : ∀ r σ1, mL_out n a1 σ = some (r, σ1) → ∀ l, ej_Con l (lV x) iL_out yL_out (some .int) [.ref (cw_a x.1 0), .int a1] σ (some (.int r)) σ1 := fun r σ1 h l => ej_con_of (lV_ok x) pn_L rfl (Nat.le_of_ble_eq_true rfl) rfl h (fun F hq => jL_out x n a1 σ hq)

noncomputable def mL_areNodes_109 (n : Nat) (f35 : Int32 → Int32 → Int32 → lw_S → Option (Int32 × lw_S)) (y17 : Int32) (y18 : Int32) (y19 : Int32) (y20 : Int32) (y21 : Int32) (σ : lw_S) : Option (Int32 × lw_S) := (if y21 = y20 then ej_bi (ej_lcn (m10_isPrivate n y18 σ.1) σ) fun r23 s24 => (if r23 = 0 then ej_bi (ej_lcn (m10_linkCost n y18 y19 s24.1) s24) fun r26 s27 => ej_ck y18 12 (ej_ck y19 12 (ej_bi (mL_told n 0 (gA s27.2 1 y18.toNatClampNeg) (gA s27.2 1 y19.toNatClampNeg) s27) fun r28 s29 => (if r26 = r28 then ej_bi (ej_lcn (m10_memberCost n y18 y19 s29.1) s29) fun r31 s32 => ej_ck y19 12 (ej_ck y18 12 (ej_bi (mL_told n 2 (gA s32.2 1 y19.toNatClampNeg) (gA s32.2 1 y18.toNatClampNeg) s32) fun r33 s34 => (if r31 = r33 then ej_nm (y18 + 1) fun x36 => (f35 y17 1 x36 s34) else ej_nm (y18 + 1) fun x35 => (f35 y17 0 x35 s34)))) else ej_nm (y18 + 1) fun x30 => (f35 y17 0 x30 s29)))) else ej_nm (y18 + 1) fun x25 => (f35 y17 0 x25 s24)) else ej_nm (y18 + 1) fun x22 => (f35 y17 0 x22 σ))
set_option maxRecDepth 20000 in
set_option maxHeartbeats 2000000 in
theorem jL_areNodes_109 (x : lw_T) (n : Nat) {F : ej_F} {r0 : Int32 × lw_S} (hq : ej_fin (lV x) F (some .boolean) (some (.int r0.1)) r0.2) (f35 : Int32 → Int32 → Int32 → lw_S → Option (Int32 × lw_S)) (H35 : ∀ (y3 : Int32) (y4 : Int32) (y5 : Int32) (σ : lw_S), ej_J (lV x) F iL_areNodes r0 σ 35 [(0, .ref (cw_a x.1 0)), (1, .ref (cw_a x.1 210)), (2, .ref (cw_a x.1 211)), (3, .ref (cw_a x.1 212)), (4, .int y3), (5, .int y4), (6, .int y5)] [] (f35 y3 y4 y5 σ)) (y17 : Int32) (y18 : Int32) (y19 : Int32) (y20 : Int32) (y21 : Int32) (σ : lw_S) : ej_J (lV x) F iL_areNodes r0 σ 109 [(0, .ref (cw_a x.1 0)), (1, .ref (cw_a x.1 210)), (2, .ref (cw_a x.1 211)), (3, .ref (cw_a x.1 212)), (4, .int y17), (6, .int y18), (7, .int y19)] [.int y20, .int y21] (mL_areNodes_109 n f35 y17 y18 y19 y20 y21 σ) := by
  unfold mL_areNodes_109
  refine j_icmp_ne dL_areNodes_109 ?_ ?_
  · refine j_iconst dL_areNodes_175 ejc_0 ?_
    refine j_istore (i := 5) (L' := [(5, .int 0), (0, .ref (cw_a x.1 0)), (1, .ref (cw_a x.1 210)), (2, .ref (cw_a x.1 211)), (3, .ref (cw_a x.1 212)), (4, .int y17), (6, .int y18), (7, .int y19)]) dL_areNodes_176 (Nat.le_of_ble_eq_true rfl) rfl ?_
    refine j_iinc (i := 6) (v := 1) (Ly := fun x22 => [(6, .int x22), (5, .int 0), (0, .ref (cw_a x.1 0)), (1, .ref (cw_a x.1 210)), (2, .ref (cw_a x.1 211)), (3, .ref (cw_a x.1 212)), (4, .int y17), (7, .int y19)]) 6 dL_areNodes_178 rfl ejc_1 (Nat.le_of_ble_eq_true rfl) (fun _ => rfl) (fun x22 => ?_)
    refine j_goto dL_areNodes_181 ?_
    exact j_sub [2, 3, 4, 5, 6, 1, 0] rfl (H35 y17 0 x22 σ)
  · refine j_aload_n 0 rfl dL_areNodes_112 ?_
    refine j_iload 5 rfl dL_areNodes_113 ?_
    refine j_callVi (lcn_con (n10_isPrivate x.1 n y18 σ.1)) lv_L_41 (lV_rc_0 x σ) ⟨Nat.le_of_ble_eq_true rfl, Nat.le_of_ble_eq_true rfl⟩ dL_areNodes_115 rfl (Nat.le_of_ble_eq_true rfl) (fun r23 s24 => ?_)
    refine j_if_ne dL_areNodes_118 ?_ ?_
    · refine j_iconst dL_areNodes_175 ejc_0 ?_
      refine j_istore (i := 5) (L' := [(5, .int 0), (0, .ref (cw_a x.1 0)), (1, .ref (cw_a x.1 210)), (2, .ref (cw_a x.1 211)), (3, .ref (cw_a x.1 212)), (4, .int y17), (6, .int y18), (7, .int y19)]) dL_areNodes_176 (Nat.le_of_ble_eq_true rfl) rfl ?_
      refine j_iinc (i := 6) (v := 1) (Ly := fun x25 => [(6, .int x25), (5, .int 0), (0, .ref (cw_a x.1 0)), (1, .ref (cw_a x.1 210)), (2, .ref (cw_a x.1 211)), (3, .ref (cw_a x.1 212)), (4, .int y17), (7, .int y19)]) 6 dL_areNodes_178 rfl ejc_1 (Nat.le_of_ble_eq_true rfl) (fun _ => rfl) (fun x25 => ?_)
      refine j_goto dL_areNodes_181 ?_
      exact j_sub [2, 3, 4, 5, 6, 1, 0] rfl (H35 y17 0 x25 s24)
    · refine j_aload_n 0 rfl dL_areNodes_121 ?_
      refine j_iload 5 rfl dL_areNodes_122 ?_
      refine j_iload 6 rfl dL_areNodes_124 ?_
      refine j_callVi (lcn_con (n10_linkCost x.1 n y18 y19 s24.1)) lv_L_45 (lV_rc_0 x s24) ⟨Nat.le_of_ble_eq_true rfl, Nat.le_of_ble_eq_true rfl⟩ dL_areNodes_126 rfl (Nat.le_of_ble_eq_true rfl) (fun r26 s27 => ?_)
      refine j_aload_n 1 rfl dL_areNodes_129 ?_
      refine j_aload_n 3 rfl dL_areNodes_130 ?_
      refine j_iconst dL_areNodes_131 ejc_0 ?_
      refine j_aload_n 2 rfl dL_areNodes_132 ?_
      refine j_iload 5 rfl dL_areNodes_133 ?_
      refine j_iald (lV_a_211 x s27) dL_areNodes_135 ?_
      refine j_aload_n 2 rfl dL_areNodes_136 ?_
      refine j_iload 6 rfl dL_areNodes_137 ?_
      refine j_iald (lV_a_211 x s27) dL_areNodes_139 ?_
      refine j_callSi (kL_told x n 0 (gA s27.2 1 y18.toNatClampNeg) (gA s27.2 1 y19.toNatClampNeg) s27) ls_L_104 ⟨Nat.le_of_ble_eq_true rfl, Nat.le_of_ble_eq_true rfl⟩ dL_areNodes_140 rfl (Nat.le_of_ble_eq_true rfl) (fun r28 s29 => ?_)
      refine j_icmp_ne dL_areNodes_143 ?_ ?_
      · refine j_iconst dL_areNodes_175 ejc_0 ?_
        refine j_istore (i := 5) (L' := [(5, .int 0), (0, .ref (cw_a x.1 0)), (1, .ref (cw_a x.1 210)), (2, .ref (cw_a x.1 211)), (3, .ref (cw_a x.1 212)), (4, .int y17), (6, .int y18), (7, .int y19)]) dL_areNodes_176 (Nat.le_of_ble_eq_true rfl) rfl ?_
        refine j_iinc (i := 6) (v := 1) (Ly := fun x30 => [(6, .int x30), (5, .int 0), (0, .ref (cw_a x.1 0)), (1, .ref (cw_a x.1 210)), (2, .ref (cw_a x.1 211)), (3, .ref (cw_a x.1 212)), (4, .int y17), (7, .int y19)]) 6 dL_areNodes_178 rfl ejc_1 (Nat.le_of_ble_eq_true rfl) (fun _ => rfl) (fun x30 => ?_)
        refine j_goto dL_areNodes_181 ?_
        exact j_sub [2, 3, 4, 5, 6, 1, 0] rfl (H35 y17 0 x30 s29)
      · refine j_aload_n 0 rfl dL_areNodes_146 ?_
        refine j_iload 5 rfl dL_areNodes_147 ?_
        refine j_iload 6 rfl dL_areNodes_149 ?_
        refine j_callVi (lcn_con (n10_memberCost x.1 n y18 y19 s29.1)) lv_L_49 (lV_rc_0 x s29) ⟨Nat.le_of_ble_eq_true rfl, Nat.le_of_ble_eq_true rfl⟩ dL_areNodes_151 rfl (Nat.le_of_ble_eq_true rfl) (fun r31 s32 => ?_)
        refine j_aload_n 1 rfl dL_areNodes_154 ?_
        refine j_aload_n 3 rfl dL_areNodes_155 ?_
        refine j_iconst dL_areNodes_156 ejc_2 ?_
        refine j_aload_n 2 rfl dL_areNodes_157 ?_
        refine j_iload 6 rfl dL_areNodes_158 ?_
        refine j_iald (lV_a_211 x s32) dL_areNodes_160 ?_
        refine j_aload_n 2 rfl dL_areNodes_161 ?_
        refine j_iload 5 rfl dL_areNodes_162 ?_
        refine j_iald (lV_a_211 x s32) dL_areNodes_164 ?_
        refine j_callSi (kL_told x n 2 (gA s32.2 1 y19.toNatClampNeg) (gA s32.2 1 y18.toNatClampNeg) s32) ls_L_104 ⟨Nat.le_of_ble_eq_true rfl, Nat.le_of_ble_eq_true rfl⟩ dL_areNodes_165 rfl (Nat.le_of_ble_eq_true rfl) (fun r33 s34 => ?_)
        refine j_icmp_ne dL_areNodes_168 ?_ ?_
        · refine j_iconst dL_areNodes_175 ejc_0 ?_
          refine j_istore (i := 5) (L' := [(5, .int 0), (0, .ref (cw_a x.1 0)), (1, .ref (cw_a x.1 210)), (2, .ref (cw_a x.1 211)), (3, .ref (cw_a x.1 212)), (4, .int y17), (6, .int y18), (7, .int y19)]) dL_areNodes_176 (Nat.le_of_ble_eq_true rfl) rfl ?_
          refine j_iinc (i := 6) (v := 1) (Ly := fun x35 => [(6, .int x35), (5, .int 0), (0, .ref (cw_a x.1 0)), (1, .ref (cw_a x.1 210)), (2, .ref (cw_a x.1 211)), (3, .ref (cw_a x.1 212)), (4, .int y17), (7, .int y19)]) 6 dL_areNodes_178 rfl ejc_1 (Nat.le_of_ble_eq_true rfl) (fun _ => rfl) (fun x35 => ?_)
          refine j_goto dL_areNodes_181 ?_
          exact j_sub [2, 3, 4, 5, 6, 1, 0] rfl (H35 y17 0 x35 s34)
        · refine j_iconst dL_areNodes_171 ejc_1 ?_
          refine j_goto dL_areNodes_172 ?_
          refine j_istore (i := 5) (L' := [(5, .int 1), (0, .ref (cw_a x.1 0)), (1, .ref (cw_a x.1 210)), (2, .ref (cw_a x.1 211)), (3, .ref (cw_a x.1 212)), (4, .int y17), (6, .int y18), (7, .int y19)]) dL_areNodes_176 (Nat.le_of_ble_eq_true rfl) rfl ?_
          refine j_iinc (i := 6) (v := 1) (Ly := fun x36 => [(6, .int x36), (5, .int 1), (0, .ref (cw_a x.1 0)), (1, .ref (cw_a x.1 210)), (2, .ref (cw_a x.1 211)), (3, .ref (cw_a x.1 212)), (4, .int y17), (7, .int y19)]) 6 dL_areNodes_178 rfl ejc_1 (Nat.le_of_ble_eq_true rfl) (fun _ => rfl) (fun x36 => ?_)
          refine j_goto dL_areNodes_181 ?_
          exact j_sub [2, 3, 4, 5, 6, 1, 0] rfl (H35 y17 1 x36 s34)
noncomputable def mL_areNodes_35 (n : Nat) (k : Nat) : Int32 → Int32 → Int32 → lw_S → Option (Int32 × lw_S) := Nat.rec (motive := fun _ => Int32 → Int32 → Int32 → lw_S → Option (Int32 × lw_S)) (fun _ _ _ _ => none) (fun _ ih y3 y4 y5 σ => ej_ck 2 4 ((if gA σ.2 2 (2 : Int32).toNatClampNeg ≤ y5 then (some (ej_bz y4, σ)) else (if y4 = 0 then (some (ej_bz y4, σ)) else ej_ck 2 4 (ej_dv (gA σ.2 2 (2 : Int32).toNatClampNeg) (ej_nm ((y5 + y3) - (y5 + y3) / (gA σ.2 2 (2 : Int32).toNatClampNeg) * (gA σ.2 2 (2 : Int32).toNatClampNeg)) fun x6 => ej_bi (ej_lcn (m10_name n y5 σ.1) σ) fun r7 s8 => (if r7 = 1 then ej_bl (ej_lc (m10_word n 0 s8.1) s8) fun r10 s11 => ej_ck y5 12 ((if lg_cmp r10 ((97 + (gA s11.2 1 y5.toNatClampNeg)).toInt64) = 0 then ej_bi (ej_lcn (m10_kind n y5 s11.1) s11) fun r13 s14 => ej_ck y5 12 (ej_bi (mL_isNet n (gA s14.2 1 y5.toNatClampNeg) s14) fun r15 s16 => (if r15 = 0 then (mL_areNodes_109 n ih y3 y5 x6 0 r13 s16) else (mL_areNodes_109 n ih y3 y5 x6 1 r13 s16))) else ej_nm (y5 + 1) fun x12 => (ih y3 0 x12 s11))) else ej_nm (y5 + 1) fun x9 => (ih y3 0 x9 s8)))))))) k
theorem mL_areNodes_35_s (n : Nat) (k : Nat) (y3 : Int32) (y4 : Int32) (y5 : Int32) (σ : lw_S) : mL_areNodes_35 n (k + 1) y3 y4 y5 σ = (ej_ck 2 4 ((if gA σ.2 2 (2 : Int32).toNatClampNeg ≤ y5 then (some (ej_bz y4, σ)) else (if y4 = 0 then (some (ej_bz y4, σ)) else ej_ck 2 4 (ej_dv (gA σ.2 2 (2 : Int32).toNatClampNeg) (ej_nm ((y5 + y3) - (y5 + y3) / (gA σ.2 2 (2 : Int32).toNatClampNeg) * (gA σ.2 2 (2 : Int32).toNatClampNeg)) fun x6 => ej_bi (ej_lcn (m10_name n y5 σ.1) σ) fun r7 s8 => (if r7 = 1 then ej_bl (ej_lc (m10_word n 0 s8.1) s8) fun r10 s11 => ej_ck y5 12 ((if lg_cmp r10 ((97 + (gA s11.2 1 y5.toNatClampNeg)).toInt64) = 0 then ej_bi (ej_lcn (m10_kind n y5 s11.1) s11) fun r13 s14 => ej_ck y5 12 (ej_bi (mL_isNet n (gA s14.2 1 y5.toNatClampNeg) s14) fun r15 s16 => (if r15 = 0 then (mL_areNodes_109 n (mL_areNodes_35 n k) y3 y5 x6 0 r13 s16) else (mL_areNodes_109 n (mL_areNodes_35 n k) y3 y5 x6 1 r13 s16))) else ej_nm (y5 + 1) fun x12 => ((mL_areNodes_35 n k) y3 0 x12 s11))) else ej_nm (y5 + 1) fun x9 => ((mL_areNodes_35 n k) y3 0 x9 s8))))))) : Option (Int32 × lw_S)) := rfl
set_option maxRecDepth 20000 in
set_option maxHeartbeats 2000000 in
theorem jL_areNodes_35 (x : lw_T) (n : Nat) {F : ej_F} {r0 : Int32 × lw_S} (hq : ej_fin (lV x) F (some .boolean) (some (.int r0.1)) r0.2) : ∀ (k : Nat) (y3 : Int32) (y4 : Int32) (y5 : Int32) (σ : lw_S), ej_J (lV x) F iL_areNodes r0 σ 35 [(0, .ref (cw_a x.1 0)), (1, .ref (cw_a x.1 210)), (2, .ref (cw_a x.1 211)), (3, .ref (cw_a x.1 212)), (4, .int y3), (5, .int y4), (6, .int y5)] [] (mL_areNodes_35 n k y3 y4 y5 σ) := by
  intro k
  induction k with
  | zero => intro y3 y4 y5 σ; exact j_none
  | succ k ih =>
    intro y3 y4 y5 σ
    rw [mL_areNodes_35_s]
    refine j_iload 6 rfl dL_areNodes_35 ?_
    refine j_aload_n 3 rfl dL_areNodes_37 ?_
    refine j_iconst dL_areNodes_38 ejc_2 ?_
    refine j_iald (lV_a_212 x σ) dL_areNodes_39 ?_
    refine j_icmp_ge dL_areNodes_40 ?_ ?_
    · refine j_iload 5 rfl dL_areNodes_184 ?_
      exact j_zreturn hq dL_areNodes_186
    · refine j_iload 5 rfl dL_areNodes_43 ?_
      refine j_if_eq dL_areNodes_45 ?_ ?_
      · refine j_iload 5 rfl dL_areNodes_184 ?_
        exact j_zreturn hq dL_areNodes_186
      · refine j_iload 6 rfl dL_areNodes_48 ?_
        refine j_iload 4 rfl dL_areNodes_50 ?_
        refine j_iadd dL_areNodes_52 ?_
        refine j_aload_n 3 rfl dL_areNodes_53 ?_
        refine j_iconst dL_areNodes_54 ejc_2 ?_
        refine j_iald (lV_a_212 x σ) dL_areNodes_55 ?_
        refine j_irem dL_areNodes_56 ?_
        refine j_nmi (fun x6 => ?_)
        refine j_istore (i := 7) (L' := [(7, .int x6), (0, .ref (cw_a x.1 0)), (1, .ref (cw_a x.1 210)), (2, .ref (cw_a x.1 211)), (3, .ref (cw_a x.1 212)), (4, .int y3), (5, .int y4), (6, .int y5)]) dL_areNodes_57 (Nat.le_of_ble_eq_true rfl) rfl ?_
        refine j_aload_n 1 rfl dL_areNodes_59 ?_
        refine j_iload 7 rfl dL_areNodes_60 ?_
        refine j_callVi (lcn_con (n10_name x.1 n y5 σ.1)) lv_L_35 (lV_rc_0 x σ) ⟨Nat.le_of_ble_eq_true rfl, Nat.le_of_ble_eq_true rfl⟩ dL_areNodes_62 rfl (Nat.le_of_ble_eq_true rfl) (fun r7 s8 => ?_)
        refine j_iconst dL_areNodes_65 ejc_1 ?_
        refine j_icmp_ne dL_areNodes_66 ?_ ?_
        · refine j_iconst dL_areNodes_175 ejc_0 ?_
          refine j_istore (i := 5) (L' := [(5, .int 0), (7, .int x6), (0, .ref (cw_a x.1 0)), (1, .ref (cw_a x.1 210)), (2, .ref (cw_a x.1 211)), (3, .ref (cw_a x.1 212)), (4, .int y3), (6, .int y5)]) dL_areNodes_176 (Nat.le_of_ble_eq_true rfl) rfl ?_
          refine j_iinc (i := 6) (v := 1) (Ly := fun x9 => [(6, .int x9), (5, .int 0), (7, .int x6), (0, .ref (cw_a x.1 0)), (1, .ref (cw_a x.1 210)), (2, .ref (cw_a x.1 211)), (3, .ref (cw_a x.1 212)), (4, .int y3)]) 7 dL_areNodes_178 rfl ejc_1 (Nat.le_of_ble_eq_true rfl) (fun _ => rfl) (fun x9 => ?_)
          refine j_goto dL_areNodes_181 ?_
          exact j_sub [3, 4, 5, 6, 7, 1, 0] rfl (ih y3 0 x9 s8)
        · refine j_aload_n 1 rfl dL_areNodes_69 ?_
          refine j_iconst dL_areNodes_70 ejc_0 ?_
          refine j_callVl (fun z1 z2 z3 z4 => lc_con (f := fun r => some (.long r)) (fun z5 z6 z7 => c10_word x.1 n 0 s8.1 z5 z6 z7 z4) z1 z2 z3) lv_L_126 (lV_rc_0 x s8) ⟨Nat.le_of_ble_eq_true rfl, Nat.le_of_ble_eq_true rfl⟩ dL_areNodes_71 rfl (Nat.le_of_ble_eq_true rfl) (fun r10 s11 => ?_)
          refine j_bipush dL_areNodes_74 ejb_97 ?_
          refine j_aload_n 3 rfl dL_areNodes_76 ?_
          refine j_iload 7 rfl dL_areNodes_77 ?_
          refine j_iald (lV_a_211 x s11) dL_areNodes_79 ?_
          refine j_iadd dL_areNodes_80 ?_
          refine j_i2l dL_areNodes_81 ?_
          refine j_lcmp dL_areNodes_82 ?_
          refine j_if_ne dL_areNodes_83 ?_ ?_
          · refine j_iconst dL_areNodes_175 ejc_0 ?_
            refine j_istore (i := 5) (L' := [(5, .int 0), (7, .int x6), (0, .ref (cw_a x.1 0)), (1, .ref (cw_a x.1 210)), (2, .ref (cw_a x.1 211)), (3, .ref (cw_a x.1 212)), (4, .int y3), (6, .int y5)]) dL_areNodes_176 (Nat.le_of_ble_eq_true rfl) rfl ?_
            refine j_iinc (i := 6) (v := 1) (Ly := fun x12 => [(6, .int x12), (5, .int 0), (7, .int x6), (0, .ref (cw_a x.1 0)), (1, .ref (cw_a x.1 210)), (2, .ref (cw_a x.1 211)), (3, .ref (cw_a x.1 212)), (4, .int y3)]) 7 dL_areNodes_178 rfl ejc_1 (Nat.le_of_ble_eq_true rfl) (fun _ => rfl) (fun x12 => ?_)
            refine j_goto dL_areNodes_181 ?_
            exact j_sub [3, 4, 5, 6, 7, 1, 0] rfl (ih y3 0 x12 s11)
          · refine j_aload_n 1 rfl dL_areNodes_86 ?_
            refine j_iload 7 rfl dL_areNodes_87 ?_
            refine j_callVi (lcn_con (n10_kind x.1 n y5 s11.1)) lv_L_38 (lV_rc_0 x s11) ⟨Nat.le_of_ble_eq_true rfl, Nat.le_of_ble_eq_true rfl⟩ dL_areNodes_89 rfl (Nat.le_of_ble_eq_true rfl) (fun r13 s14 => ?_)
            refine j_aload_n 2 rfl dL_areNodes_92 ?_
            refine j_aload_n 4 rfl dL_areNodes_93 ?_
            refine j_aload_n 3 rfl dL_areNodes_94 ?_
            refine j_iload 7 rfl dL_areNodes_95 ?_
            refine j_iald (lV_a_211 x s14) dL_areNodes_97 ?_
            refine j_callSi (kL_isNet x n (gA s14.2 1 y5.toNatClampNeg) s14) ls_L_132 ⟨Nat.le_of_ble_eq_true rfl, Nat.le_of_ble_eq_true rfl⟩ dL_areNodes_98 rfl (Nat.le_of_ble_eq_true rfl) (fun r15 s16 => ?_)
            refine j_if_eq dL_areNodes_101 ?_ ?_
            · refine j_iconst dL_areNodes_108 ejc_0 ?_
              exact j_sub [1, 2, 3, 4, 5, 7, 0] rfl (jL_areNodes_109 x n hq (mL_areNodes_35 n k) ih y3 y5 x6 0 r13 s16)
            · refine j_iconst dL_areNodes_104 ejc_1 ?_
              refine j_goto dL_areNodes_105 ?_
              exact j_sub [1, 2, 3, 4, 5, 7, 0] rfl (jL_areNodes_109 x n hq (mL_areNodes_35 n k) ih y3 y5 x6 1 r13 s16)
noncomputable def mL_areNodes (n : Nat) (a4 : Int32) (σ : lw_S) : Option (Int32 × lw_S) := ej_bi (ej_lc (m10_nodes n σ.1) σ) fun r1 s2 => ej_ck 2 4 ((if r1 = gA s2.2 2 (2 : Int32).toNatClampNeg then ej_bi (ej_lc (m10_home n s2.1) s2) fun r37 s38 => ej_ck 3 4 (ej_bi (mL_node n (gA s38.2 2 (3 : Int32).toNatClampNeg) s38) fun r39 s40 => (if r37 = r39 then (mL_areNodes_35 n n a4 1 0 s40) else (mL_areNodes_35 n n a4 0 0 s40))) else (mL_areNodes_35 n n a4 0 0 s2)))
set_option maxRecDepth 20000 in
set_option maxHeartbeats 2000000 in
theorem jL_areNodes (x : lw_T) (n : Nat) (a4 : Int32) (σ : lw_S) {F : ej_F} {r0 : Int32 × lw_S} (hq : ej_fin (lV x) F (some .boolean) (some (.int r0.1)) r0.2) : ej_J (lV x) F iL_areNodes r0 σ 0 [(0, .ref (cw_a x.1 0)), (1, .ref (cw_a x.1 210)), (2, .ref (cw_a x.1 211)), (3, .ref (cw_a x.1 212)), (4, .int a4)] [] (mL_areNodes n a4 σ) := by
  unfold mL_areNodes
  refine j_aload_n 0 rfl dL_areNodes_0 ?_
  refine j_callVi (fun z1 z2 z3 z4 => lc_con (f := fun r => some (.int r)) (fun z5 z6 z7 => c10_nodes x.1 n σ.1 z5 z6 z7 z4) z1 z2 z3) lv_L_112 (lV_rc_0 x σ) ⟨Nat.le_of_ble_eq_true rfl, Nat.le_of_ble_eq_true rfl⟩ dL_areNodes_1 rfl (Nat.le_of_ble_eq_true rfl) (fun r1 s2 => ?_)
  refine j_aload_n 3 rfl dL_areNodes_4 ?_
  refine j_iconst dL_areNodes_5 ejc_2 ?_
  refine j_iald (lV_a_212 x s2) dL_areNodes_6 ?_
  refine j_icmp_ne dL_areNodes_7 ?_ ?_
  · refine j_iconst dL_areNodes_29 ejc_0 ?_
    refine j_istore (i := 5) (L' := [(5, .int 0), (0, .ref (cw_a x.1 0)), (1, .ref (cw_a x.1 210)), (2, .ref (cw_a x.1 211)), (3, .ref (cw_a x.1 212)), (4, .int a4)]) dL_areNodes_30 (Nat.le_of_ble_eq_true rfl) rfl ?_
    refine j_iconst dL_areNodes_32 ejc_0 ?_
    refine j_istore (i := 6) (L' := [(6, .int 0), (5, .int 0), (0, .ref (cw_a x.1 0)), (1, .ref (cw_a x.1 210)), (2, .ref (cw_a x.1 211)), (3, .ref (cw_a x.1 212)), (4, .int a4)]) dL_areNodes_33 (Nat.le_of_ble_eq_true rfl) rfl ?_
    exact j_sub [2, 3, 4, 5, 6, 1, 0] rfl (jL_areNodes_35 x n hq n a4 0 0 s2)
  · refine j_aload_n 0 rfl dL_areNodes_10 ?_
    refine j_callVi (fun z1 z2 z3 z4 => lc_con (f := fun r => some (.int r)) (fun z5 z6 z7 => c10_home x.1 n s2.1 z5 z6 z7 z4) z1 z2 z3) lv_L_117 (lV_rc_0 x s2) ⟨Nat.le_of_ble_eq_true rfl, Nat.le_of_ble_eq_true rfl⟩ dL_areNodes_11 rfl (Nat.le_of_ble_eq_true rfl) (fun r37 s38 => ?_)
    refine j_aload_n 2 rfl dL_areNodes_14 ?_
    refine j_aload_n 3 rfl dL_areNodes_15 ?_
    refine j_aload_n 3 rfl dL_areNodes_16 ?_
    refine j_iconst dL_areNodes_17 ejc_3 ?_
    refine j_iald (lV_a_212 x s38) dL_areNodes_18 ?_
    refine j_callSi (kL_node x n (gA s38.2 2 (3 : Int32).toNatClampNeg) s38) ls_L_100 ⟨Nat.le_of_ble_eq_true rfl, Nat.le_of_ble_eq_true rfl⟩ dL_areNodes_19 rfl (Nat.le_of_ble_eq_true rfl) (fun r39 s40 => ?_)
    refine j_icmp_ne dL_areNodes_22 ?_ ?_
    · refine j_iconst dL_areNodes_29 ejc_0 ?_
      refine j_istore (i := 5) (L' := [(5, .int 0), (0, .ref (cw_a x.1 0)), (1, .ref (cw_a x.1 210)), (2, .ref (cw_a x.1 211)), (3, .ref (cw_a x.1 212)), (4, .int a4)]) dL_areNodes_30 (Nat.le_of_ble_eq_true rfl) rfl ?_
      refine j_iconst dL_areNodes_32 ejc_0 ?_
      refine j_istore (i := 6) (L' := [(6, .int 0), (5, .int 0), (0, .ref (cw_a x.1 0)), (1, .ref (cw_a x.1 210)), (2, .ref (cw_a x.1 211)), (3, .ref (cw_a x.1 212)), (4, .int a4)]) dL_areNodes_33 (Nat.le_of_ble_eq_true rfl) rfl ?_
      exact j_sub [2, 3, 4, 5, 6, 1, 0] rfl (jL_areNodes_35 x n hq n a4 0 0 s40)
    · refine j_iconst dL_areNodes_25 ejc_1 ?_
      refine j_goto dL_areNodes_26 ?_
      refine j_istore (i := 5) (L' := [(5, .int 1), (0, .ref (cw_a x.1 0)), (1, .ref (cw_a x.1 210)), (2, .ref (cw_a x.1 211)), (3, .ref (cw_a x.1 212)), (4, .int a4)]) dL_areNodes_30 (Nat.le_of_ble_eq_true rfl) rfl ?_
      refine j_iconst dL_areNodes_32 ejc_0 ?_
      refine j_istore (i := 6) (L' := [(6, .int 0), (5, .int 1), (0, .ref (cw_a x.1 0)), (1, .ref (cw_a x.1 210)), (2, .ref (cw_a x.1 211)), (3, .ref (cw_a x.1 212)), (4, .int a4)]) dL_areNodes_33 (Nat.le_of_ble_eq_true rfl) rfl ?_
      exact j_sub [2, 3, 4, 5, 6, 1, 0] rfl (jL_areNodes_35 x n hq n a4 1 0 s40)
theorem kL_areNodes (x : lw_T) (n : Nat) (a4 : Int32) (σ : lw_S) : ∀ r σ1, mL_areNodes n a4 σ = some (r, σ1) → ∀ l, ej_Con l (lV x) iL_areNodes yL_areNodes (some .boolean) [.ref (cw_a x.1 0), .ref (cw_a x.1 210), .ref (cw_a x.1 211), .ref (cw_a x.1 212), .int a4] σ (some (.int r)) σ1 := fun r σ1 h l => ej_con_of (lV_ok x) pn_L rfl (Nat.le_of_ble_eq_true rfl) rfl h (fun F hq => jL_areNodes x n a4 σ hq)

