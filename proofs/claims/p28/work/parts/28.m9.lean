noncomputable def m9_isShorter (n : Nat) (a1 : Int32) (a2 : Int32) (σ : ej_S) : Option (Int32 × ej_S) := ej_ck a1 96 (ej_ck a2 96 ((if gA σ 25 a1.toNatClampNeg = gA σ 25 a2.toNatClampNeg then ej_ck a1 96 (ej_ck a2 96 ((if gA σ 26 a2.toNatClampNeg ≤ gA σ 26 a1.toNatClampNeg then (some (0, σ)) else (some (1, σ))))) else ej_ck a1 96 (ej_ck a2 96 ((if gA σ 25 a2.toNatClampNeg ≤ gA σ 25 a1.toNatClampNeg then (some (0, σ)) else (some (1, σ))))))))
set_option maxRecDepth 20000 in
set_option maxHeartbeats 2000000 in
theorem j9_isShorter (x : cw_T) (n : Nat) (a1 : Int32) (a2 : Int32) (σ : ej_S) {F : ej_F} {r0 : Int32 × ej_S} (hq : ej_fin (cV x) F (some .boolean) (some (.int r0.1)) r0.2) : ej_J (cV x) F i9_isShorter r0 σ 0 [(0, .ref (cw_a x 7)), (1, .int a1), (2, .int a2)] [] (m9_isShorter n a1 a2 σ) := by
  unfold m9_isShorter
  refine j_aload_n 0 rfl d9_isShorter_0 ?_
  refine j_get fl_X9_9 (cV_g_7_5 x σ) d9_isShorter_1 ?_
  refine j_iload_n 1 rfl d9_isShorter_4 ?_
  refine j_iald (cV_a_47 x σ) d9_isShorter_5 ?_
  refine j_aload_n 0 rfl d9_isShorter_6 ?_
  refine j_get fl_X9_9 (cV_g_7_5 x σ) d9_isShorter_7 ?_
  refine j_iload_n 2 rfl d9_isShorter_10 ?_
  refine j_iald (cV_a_47 x σ) d9_isShorter_11 ?_
  refine j_icmp_eq d9_isShorter_12 ?_ ?_
  · refine j_aload_n 0 rfl d9_isShorter_38 ?_
    refine j_get fl_X9_15 (cV_g_7_6 x σ) d9_isShorter_39 ?_
    refine j_iload_n 1 rfl d9_isShorter_42 ?_
    refine j_iald (cV_a_48 x σ) d9_isShorter_43 ?_
    refine j_aload_n 0 rfl d9_isShorter_44 ?_
    refine j_get fl_X9_15 (cV_g_7_6 x σ) d9_isShorter_45 ?_
    refine j_iload_n 2 rfl d9_isShorter_48 ?_
    refine j_iald (cV_a_48 x σ) d9_isShorter_49 ?_
    refine j_icmp_ge d9_isShorter_50 ?_ ?_
    · refine j_iconst d9_isShorter_57 ejc_0 ?_
      exact j_zreturn0 hq d9_isShorter_58
    · refine j_iconst d9_isShorter_53 ejc_1 ?_
      refine j_goto d9_isShorter_54 ?_
      exact j_zreturn1 hq d9_isShorter_58
  · refine j_aload_n 0 rfl d9_isShorter_15 ?_
    refine j_get fl_X9_9 (cV_g_7_5 x σ) d9_isShorter_16 ?_
    refine j_iload_n 1 rfl d9_isShorter_19 ?_
    refine j_iald (cV_a_47 x σ) d9_isShorter_20 ?_
    refine j_aload_n 0 rfl d9_isShorter_21 ?_
    refine j_get fl_X9_9 (cV_g_7_5 x σ) d9_isShorter_22 ?_
    refine j_iload_n 2 rfl d9_isShorter_25 ?_
    refine j_iald (cV_a_47 x σ) d9_isShorter_26 ?_
    refine j_icmp_ge d9_isShorter_27 ?_ ?_
    · refine j_iconst d9_isShorter_34 ejc_0 ?_
      refine j_goto d9_isShorter_35 ?_
      exact j_zreturn0 hq d9_isShorter_58
    · refine j_iconst d9_isShorter_30 ejc_1 ?_
      refine j_goto d9_isShorter_31 ?_
      exact j_zreturn1 hq d9_isShorter_58
theorem c9_isShorter (x : cw_T) (n : Nat) (a1 : Int32) (a2 : Int32) (σ : ej_S) : ∀ r σ1, m9_isShorter n a1 a2 σ = some (r, σ1) → ∀ l, ej_Con l (cV x) i9_isShorter yX9_isShorter (some .boolean) [.ref (cw_a x 7), .int a1, .int a2] σ (some (.int r)) σ1 := fun r σ1 h l => ej_con_of (cV_ok x) pn_X9 rfl (Nat.le_of_ble_eq_true rfl) rfl h (fun F hq => j9_isShorter x n a1 a2 σ hq)

noncomputable def m9_routeKey_18 (n : Nat) (k : Nat) : Int32 → Int32 → Int32 → ej_S → Option (Int32 × ej_S) := Nat.rec (motive := fun _ => Int32 → Int32 → Int32 → ej_S → Option (Int32 × ej_S)) (fun _ _ _ _ => none) (fun _ ih y2 y3 y4 σ => (if (y2 + 1) * 4 ≤ y4 then (some (y3, σ)) else ej_ck y4 96 ((if gA σ 25 y4.toNatClampNeg = (-1) then ej_nm (y4 + 1) fun x5 => (ih y2 y3 x5 σ) else (if y3 = (-1) then ej_nm (y4 + 1) fun x6 => (ih y2 y4 x6 σ) else ej_bi (m9_isShorter n y4 y3 σ) fun r8 s7 => (if r8 = 0 then ej_nm (y4 + 1) fun x9 => (ih y2 y3 x9 s7) else ej_nm (y4 + 1) fun x10 => (ih y2 y4 x10 s7))))))) k
theorem m9_routeKey_18_s (n : Nat) (k : Nat) (y2 : Int32) (y3 : Int32) (y4 : Int32) (σ : ej_S) : m9_routeKey_18 n (k + 1) y2 y3 y4 σ = ((if (y2 + 1) * 4 ≤ y4 then (some (y3, σ)) else ej_ck y4 96 ((if gA σ 25 y4.toNatClampNeg = (-1) then ej_nm (y4 + 1) fun x5 => ((m9_routeKey_18 n k) y2 y3 x5 σ) else (if y3 = (-1) then ej_nm (y4 + 1) fun x6 => ((m9_routeKey_18 n k) y2 y4 x6 σ) else ej_bi (m9_isShorter n y4 y3 σ) fun r8 s7 => (if r8 = 0 then ej_nm (y4 + 1) fun x9 => ((m9_routeKey_18 n k) y2 y3 x9 s7) else ej_nm (y4 + 1) fun x10 => ((m9_routeKey_18 n k) y2 y4 x10 s7)))))) : Option (Int32 × ej_S)) := rfl
set_option maxRecDepth 20000 in
set_option maxHeartbeats 2000000 in
theorem j9_routeKey_18 (x : cw_T) (n : Nat) {F : ej_F} {r0 : Int32 × ej_S} (hq : ej_fin (cV x) F (some .int) (some (.int r0.1)) r0.2) : ∀ (k : Nat) (y2 : Int32) (y3 : Int32) (y4 : Int32) (σ : ej_S), ej_J (cV x) F i9_routeKey r0 σ 18 [(0, .ref (cw_a x 7)), (1, .int y2), (2, .int y3), (3, .int y4)] [] (m9_routeKey_18 n k y2 y3 y4 σ) := by
  intro k
  induction k with
  | zero => intro y2 y3 y4 σ; exact j_none
  | succ k ih =>
    intro y2 y3 y4 σ
    rw [m9_routeKey_18_s]
    refine j_iload_n 3 rfl d9_routeKey_18 ?_
    refine j_iload_n 1 rfl d9_routeKey_19 ?_
    refine j_iconst d9_routeKey_20 ejc_1 ?_
    refine j_iadd d9_routeKey_21 ?_
    refine j_iconst d9_routeKey_22 ejc_4 ?_
    refine j_imul d9_routeKey_23 ?_
    refine j_icmp_ge d9_routeKey_24 ?_ ?_
    · refine j_iload_n 2 rfl d9_routeKey_59 ?_
      exact j_ireturn hq d9_routeKey_60
    · refine j_aload_n 0 rfl d9_routeKey_27 ?_
      refine j_get fl_X9_9 (cV_g_7_5 x σ) d9_routeKey_28 ?_
      refine j_iload_n 3 rfl d9_routeKey_31 ?_
      refine j_iald (cV_a_47 x σ) d9_routeKey_32 ?_
      refine j_iconst d9_routeKey_33 ejc_m1 ?_
      refine j_icmp_eq d9_routeKey_34 ?_ ?_
      · refine j_iinc (i := 3) (v := 1) (Ly := fun x5 => [(3, .int x5), (0, .ref (cw_a x 7)), (1, .int y2), (2, .int y3)]) 3 d9_routeKey_53 rfl ejc_1 (Nat.le_of_ble_eq_true rfl) (fun _ => rfl) (fun x5 => ?_)
        refine j_goto d9_routeKey_56 ?_
        exact j_sub [1, 2, 3, 0] rfl (ih y2 y3 x5 σ)
      · refine j_iload_n 2 rfl d9_routeKey_37 ?_
        refine j_iconst d9_routeKey_38 ejc_m1 ?_
        refine j_icmp_eq d9_routeKey_39 ?_ ?_
        · refine j_iload_n 3 rfl d9_routeKey_51 ?_
          refine j_istore_n (i := 2) (L' := [(2, .int y4), (0, .ref (cw_a x 7)), (1, .int y2), (3, .int y4)]) d9_routeKey_52 rfl (Nat.le_of_ble_eq_true rfl) rfl ?_
          refine j_iinc (i := 3) (v := 1) (Ly := fun x6 => [(3, .int x6), (2, .int y4), (0, .ref (cw_a x 7)), (1, .int y2)]) 3 d9_routeKey_53 rfl ejc_1 (Nat.le_of_ble_eq_true rfl) (fun _ => rfl) (fun x6 => ?_)
          refine j_goto d9_routeKey_56 ?_
          exact j_sub [2, 3, 1, 0] rfl (ih y2 y4 x6 σ)
        · refine j_aload_n 0 rfl d9_routeKey_42 ?_
          refine j_iload_n 3 rfl d9_routeKey_43 ?_
          refine j_iload_n 2 rfl d9_routeKey_44 ?_
          refine j_callVi (c9_isShorter x n y4 y3 σ) lv_X9_62 (cV_rc_7 x σ) ⟨Nat.le_of_ble_eq_true rfl, Nat.le_of_ble_eq_true rfl⟩ d9_routeKey_45 rfl (Nat.le_of_ble_eq_true rfl) (fun r8 s7 => ?_)
          refine j_if_eq d9_routeKey_48 ?_ ?_
          · refine j_iinc (i := 3) (v := 1) (Ly := fun x9 => [(3, .int x9), (0, .ref (cw_a x 7)), (1, .int y2), (2, .int y3)]) 3 d9_routeKey_53 rfl ejc_1 (Nat.le_of_ble_eq_true rfl) (fun _ => rfl) (fun x9 => ?_)
            refine j_goto d9_routeKey_56 ?_
            exact j_sub [1, 2, 3, 0] rfl (ih y2 y3 x9 s7)
          · refine j_iload_n 3 rfl d9_routeKey_51 ?_
            refine j_istore_n (i := 2) (L' := [(2, .int y4), (0, .ref (cw_a x 7)), (1, .int y2), (3, .int y4)]) d9_routeKey_52 rfl (Nat.le_of_ble_eq_true rfl) rfl ?_
            refine j_iinc (i := 3) (v := 1) (Ly := fun x10 => [(3, .int x10), (2, .int y4), (0, .ref (cw_a x 7)), (1, .int y2)]) 3 d9_routeKey_53 rfl ejc_1 (Nat.le_of_ble_eq_true rfl) (fun _ => rfl) (fun x10 => ?_)
            refine j_goto d9_routeKey_56 ?_
            exact j_sub [2, 3, 1, 0] rfl (ih y2 y4 x10 s7)
noncomputable def m9_routeKey (n : Nat) (a1 : Int32) (σ : ej_S) : Option (Int32 × ej_S) := (if a1 < 0 then (some ((-1), σ)) else (if a1 < 24 then ej_nm (a1 * 4) fun x1 => (m9_routeKey_18 n n a1 (-1) x1 σ) else (some ((-1), σ))))
set_option maxRecDepth 20000 in
set_option maxHeartbeats 2000000 in
theorem j9_routeKey (x : cw_T) (n : Nat) (a1 : Int32) (σ : ej_S) {F : ej_F} {r0 : Int32 × ej_S} (hq : ej_fin (cV x) F (some .int) (some (.int r0.1)) r0.2) : ej_J (cV x) F i9_routeKey r0 σ 0 [(0, .ref (cw_a x 7)), (1, .int a1)] [] (m9_routeKey n a1 σ) := by
  unfold m9_routeKey
  refine j_iload_n 1 rfl d9_routeKey_0 ?_
  refine j_if_lt d9_routeKey_1 ?_ ?_
  · refine j_iconst d9_routeKey_10 ejc_m1 ?_
    exact j_ireturn hq d9_routeKey_11
  · refine j_iload_n 1 rfl d9_routeKey_4 ?_
    refine j_bipush d9_routeKey_5 ejb_24 ?_
    refine j_icmp_lt d9_routeKey_7 ?_ ?_
    · refine j_iconst d9_routeKey_12 ejc_m1 ?_
      refine j_istore_n (i := 2) (L' := [(2, .int (-1)), (0, .ref (cw_a x 7)), (1, .int a1)]) d9_routeKey_13 rfl (Nat.le_of_ble_eq_true rfl) rfl ?_
      refine j_iload_n 2 rfl d9_routeKey_14 ?_
      refine j_iconst d9_routeKey_15 ejc_4 ?_
      refine j_imul d9_routeKey_16 ?_
      refine j_nmi (fun x1 => ?_)
      refine j_istore_n (i := 3) (L' := [(3, .int x1), (2, .int (-1)), (0, .ref (cw_a x 7)), (1, .int a1)]) d9_routeKey_17 rfl (Nat.le_of_ble_eq_true rfl) rfl ?_
      exact j_sub [2, 3, 1, 0] rfl (j9_routeKey_18 x n hq n a1 (-1) x1 σ)
    · refine j_iconst d9_routeKey_10 ejc_m1 ?_
      exact j_ireturn hq d9_routeKey_11
theorem c9_routeKey (x : cw_T) (n : Nat) (a1 : Int32) (σ : ej_S) : ∀ r σ1, m9_routeKey n a1 σ = some (r, σ1) → ∀ l, ej_Con l (cV x) i9_routeKey yX9_routeKey (some .int) [.ref (cw_a x 7), .int a1] σ (some (.int r)) σ1 := fun r σ1 h l => ej_con_of (cV_ok x) pn_X9 rfl (Nat.le_of_ble_eq_true rfl) rfl h (fun F hq => j9_routeKey x n a1 σ hq)

noncomputable def m9_lengthOfKey (n : Nat) (a1 : Int32) (σ : ej_S) : Option (Int32 × ej_S) := (if a1 < 0 then (some ((-1), σ)) else (if 96 ≤ a1 then (some ((-1), σ)) else ej_ck a1 96 ((some (gA σ 26 a1.toNatClampNeg, σ)))))
set_option maxRecDepth 20000 in
set_option maxHeartbeats 2000000 in
theorem j9_lengthOfKey (x : cw_T) (n : Nat) (a1 : Int32) (σ : ej_S) {F : ej_F} {r0 : Int32 × ej_S} (hq : ej_fin (cV x) F (some .int) (some (.int r0.1)) r0.2) : ej_J (cV x) F i9_lengthOfKey r0 σ 0 [(0, .ref (cw_a x 7)), (1, .int a1)] [] (m9_lengthOfKey n a1 σ) := by
  unfold m9_lengthOfKey
  refine j_iload_n 1 rfl d9_lengthOfKey_0 ?_
  refine j_if_lt d9_lengthOfKey_1 ?_ ?_
  · refine j_iconst d9_lengthOfKey_19 ejc_m1 ?_
    exact j_ireturn hq d9_lengthOfKey_20
  · refine j_iload_n 1 rfl d9_lengthOfKey_4 ?_
    refine j_bipush d9_lengthOfKey_5 ejb_96 ?_
    refine j_icmp_ge d9_lengthOfKey_7 ?_ ?_
    · refine j_iconst d9_lengthOfKey_19 ejc_m1 ?_
      exact j_ireturn hq d9_lengthOfKey_20
    · refine j_aload_n 0 rfl d9_lengthOfKey_10 ?_
      refine j_get fl_X9_15 (cV_g_7_6 x σ) d9_lengthOfKey_11 ?_
      refine j_iload_n 1 rfl d9_lengthOfKey_14 ?_
      refine j_iald (cV_a_48 x σ) d9_lengthOfKey_15 ?_
      refine j_goto d9_lengthOfKey_16 ?_
      exact j_ireturn hq d9_lengthOfKey_20
theorem c9_lengthOfKey (x : cw_T) (n : Nat) (a1 : Int32) (σ : ej_S) : ∀ r σ1, m9_lengthOfKey n a1 σ = some (r, σ1) → ∀ l, ej_Con l (cV x) i9_lengthOfKey yX9_lengthOfKey (some .int) [.ref (cw_a x 7), .int a1] σ (some (.int r)) σ1 := fun r σ1 h l => ej_con_of (cV_ok x) pn_X9 rfl (Nat.le_of_ble_eq_true rfl) rfl h (fun F hq => j9_lengthOfKey x n a1 σ hq)

noncomputable def m9_layOut_15 (n : Nat) (k : Nat) : Int32 → Int32 → Int32 → ej_S → Option (Int32 × ej_S) := Nat.rec (motive := fun _ => Int32 → Int32 → Int32 → ej_S → Option (Int32 × ej_S)) (fun _ _ _ _ => none) (fun _ ih y5 y6 y7 σ => (if y7 < 0 then (some (y6, σ)) else (if 96 ≤ y7 then (some (y6, σ)) else (if y5 < 0 then (some (y6, σ)) else (if 96 ≤ y5 then (some (y6, σ)) else ej_ck y7 96 (ej_nm (uA σ 31 (y7.toNatClampNeg) y5) fun s8 => ej_ck y5 96 (ej_nm (gA s8 27 y5.toNatClampNeg) fun x9 => ej_nm (y7 + (-1)) fun x10 => (ih x9 y6 x10 s8)))))))) k
theorem m9_layOut_15_s (n : Nat) (k : Nat) (y5 : Int32) (y6 : Int32) (y7 : Int32) (σ : ej_S) : m9_layOut_15 n (k + 1) y5 y6 y7 σ = ((if y7 < 0 then (some (y6, σ)) else (if 96 ≤ y7 then (some (y6, σ)) else (if y5 < 0 then (some (y6, σ)) else (if 96 ≤ y5 then (some (y6, σ)) else ej_ck y7 96 (ej_nm (uA σ 31 (y7.toNatClampNeg) y5) fun s8 => ej_ck y5 96 (ej_nm (gA s8 27 y5.toNatClampNeg) fun x9 => ej_nm (y7 + (-1)) fun x10 => ((m9_layOut_15 n k) x9 y6 x10 s8))))))) : Option (Int32 × ej_S)) := rfl
set_option maxRecDepth 20000 in
set_option maxHeartbeats 2000000 in
theorem j9_layOut_15 (x : cw_T) (n : Nat) {F : ej_F} {r0 : Int32 × ej_S} (hq : ej_fin (cV x) F (some .int) (some (.int r0.1)) r0.2) : ∀ (k : Nat) (y5 : Int32) (y6 : Int32) (y7 : Int32) (σ : ej_S), ej_J (cV x) F i9_layOut r0 σ 15 [(0, .ref (cw_a x 7)), (2, .int y5), (3, .int y6), (4, .int y7)] [] (m9_layOut_15 n k y5 y6 y7 σ) := by
  intro k
  induction k with
  | zero => intro y5 y6 y7 σ; exact j_none
  | succ k ih =>
    intro y5 y6 y7 σ
    rw [m9_layOut_15_s]
    refine j_iload 3 rfl d9_layOut_15 ?_
    refine j_if_lt d9_layOut_17 ?_ ?_
    · refine j_iload_n 2 rfl d9_layOut_58 ?_
      exact j_ireturn hq d9_layOut_59
    · refine j_iload 3 rfl d9_layOut_20 ?_
      refine j_bipush d9_layOut_22 ejb_96 ?_
      refine j_icmp_ge d9_layOut_24 ?_ ?_
      · refine j_iload_n 2 rfl d9_layOut_58 ?_
        exact j_ireturn hq d9_layOut_59
      · refine j_iload_n 1 rfl d9_layOut_27 ?_
        refine j_if_lt d9_layOut_28 ?_ ?_
        · refine j_iload_n 2 rfl d9_layOut_58 ?_
          exact j_ireturn hq d9_layOut_59
        · refine j_iload_n 1 rfl d9_layOut_31 ?_
          refine j_bipush d9_layOut_32 ejb_96 ?_
          refine j_icmp_ge d9_layOut_34 ?_ ?_
          · refine j_iload_n 2 rfl d9_layOut_58 ?_
            exact j_ireturn hq d9_layOut_59
          · refine j_aload_n 0 rfl d9_layOut_37 ?_
            refine j_get fl_X9_31 (cV_g_7_11 x σ) d9_layOut_38 ?_
            refine j_iload 3 rfl d9_layOut_41 ?_
            refine j_iload_n 1 rfl d9_layOut_43 ?_
            refine j_iast (cV_s_53 x σ (y7.toNatClampNeg) y5) d9_layOut_44 (fun s8 => ?_)
            refine j_aload_n 0 rfl d9_layOut_45 ?_
            refine j_get fl_X9_18 (cV_g_7_7 x s8) d9_layOut_46 ?_
            refine j_iload_n 1 rfl d9_layOut_49 ?_
            refine j_iald (cV_a_49 x s8) d9_layOut_50 ?_
            refine j_nmi (fun x9 => ?_)
            refine j_istore_n (i := 2) (L' := [(2, .int x9), (0, .ref (cw_a x 7)), (3, .int y6), (4, .int y7)]) d9_layOut_51 rfl (Nat.le_of_ble_eq_true rfl) rfl ?_
            refine j_iinc (i := 4) (v := (-1)) (Ly := fun x10 => [(4, .int x10), (2, .int x9), (0, .ref (cw_a x 7)), (3, .int y6)]) 3 d9_layOut_52 rfl ejc_m1 (Nat.le_of_ble_eq_true rfl) (fun _ => rfl) (fun x10 => ?_)
            refine j_goto d9_layOut_55 ?_
            exact j_sub [2, 1, 3, 0] rfl (ih x9 y6 x10 s8)
noncomputable def m9_layOut (n : Nat) (a1 : Int32) (σ : ej_S) : Option (Int32 × ej_S) := ej_bi (m9_routeKey n a1 σ) fun r2 s1 => ej_bi (m9_lengthOfKey n r2 s1) fun r4 s3 => (m9_layOut_15 n n r2 r4 r4 s3)
set_option maxRecDepth 20000 in
set_option maxHeartbeats 2000000 in
theorem j9_layOut (x : cw_T) (n : Nat) (a1 : Int32) (σ : ej_S) {F : ej_F} {r0 : Int32 × ej_S} (hq : ej_fin (cV x) F (some .int) (some (.int r0.1)) r0.2) : ej_J (cV x) F i9_layOut r0 σ 0 [(0, .ref (cw_a x 7)), (1, .int a1)] [] (m9_layOut n a1 σ) := by
  unfold m9_layOut
  refine j_aload_n 0 rfl d9_layOut_0 ?_
  refine j_iload_n 1 rfl d9_layOut_1 ?_
  refine j_callVi (c9_routeKey x n a1 σ) lv_X9_66 (cV_rc_7 x σ) ⟨Nat.le_of_ble_eq_true rfl, Nat.le_of_ble_eq_true rfl⟩ d9_layOut_2 rfl (Nat.le_of_ble_eq_true rfl) (fun r2 s1 => ?_)
  refine j_istore_n (i := 2) (L' := [(2, .int r2), (0, .ref (cw_a x 7)), (1, .int a1)]) d9_layOut_5 rfl (Nat.le_of_ble_eq_true rfl) rfl ?_
  refine j_aload_n 1 rfl d9_layOut_6 ?_
  refine j_iload_n 0 rfl d9_layOut_7 ?_
  refine j_callVi (c9_lengthOfKey x n r2 s1) lv_X9_70 (cV_rc_7 x s1) ⟨Nat.le_of_ble_eq_true rfl, Nat.le_of_ble_eq_true rfl⟩ d9_layOut_8 rfl (Nat.le_of_ble_eq_true rfl) (fun r4 s3 => ?_)
  refine j_istore_n (i := 3) (L' := [(3, .int r4), (2, .int r2), (0, .ref (cw_a x 7)), (1, .int a1)]) d9_layOut_11 rfl (Nat.le_of_ble_eq_true rfl) rfl ?_
  refine j_iload_n 0 rfl d9_layOut_12 ?_
  refine j_istore (i := 4) (L' := [(4, .int r4), (3, .int r4), (2, .int r2), (0, .ref (cw_a x 7)), (1, .int a1)]) d9_layOut_13 (Nat.le_of_ble_eq_true rfl) rfl ?_
  exact j_sub [3, 2, 1, 0] rfl (j9_layOut_15 x n hq n r2 r4 r4 s3)
theorem c9_layOut (x : cw_T) (n : Nat) (a1 : Int32) (σ : ej_S) : ∀ r σ1, m9_layOut n a1 σ = some (r, σ1) → ∀ l, ej_Con l (cV x) i9_layOut yX9_layOut (some .int) [.ref (cw_a x 7), .int a1] σ (some (.int r)) σ1 := fun r σ1 h l => ej_con_of (cV_ok x) pn_X9 rfl (Nat.le_of_ble_eq_true rfl) rfl h (fun F hq => j9_layOut x n a1 σ hq)

noncomputable def m9_keyOn (n : Nat) (a1 : Int32) (σ : ej_S) : Option (Int32 × ej_S) := (if a1 < 0 then (some ((-1), σ)) else (if 96 ≤ a1 then (some ((-1), σ)) else ej_ck a1 96 ((some (gA σ 31 a1.toNatClampNeg, σ)))))
set_option maxRecDepth 20000 in
set_option maxHeartbeats 2000000 in
theorem j9_keyOn (x : cw_T) (n : Nat) (a1 : Int32) (σ : ej_S) {F : ej_F} {r0 : Int32 × ej_S} (hq : ej_fin (cV x) F (some .int) (some (.int r0.1)) r0.2) : ej_J (cV x) F i9_keyOn r0 σ 0 [(0, .ref (cw_a x 7)), (1, .int a1)] [] (m9_keyOn n a1 σ) := by
  unfold m9_keyOn
  refine j_iload_n 1 rfl d9_keyOn_0 ?_
  refine j_if_lt d9_keyOn_1 ?_ ?_
  · refine j_iconst d9_keyOn_19 ejc_m1 ?_
    exact j_ireturn hq d9_keyOn_20
  · refine j_iload_n 1 rfl d9_keyOn_4 ?_
    refine j_bipush d9_keyOn_5 ejb_96 ?_
    refine j_icmp_ge d9_keyOn_7 ?_ ?_
    · refine j_iconst d9_keyOn_19 ejc_m1 ?_
      exact j_ireturn hq d9_keyOn_20
    · refine j_aload_n 0 rfl d9_keyOn_10 ?_
      refine j_get fl_X9_31 (cV_g_7_11 x σ) d9_keyOn_11 ?_
      refine j_iload_n 1 rfl d9_keyOn_14 ?_
      refine j_iald (cV_a_53 x σ) d9_keyOn_15 ?_
      refine j_goto d9_keyOn_16 ?_
      exact j_ireturn hq d9_keyOn_20
theorem c9_keyOn (x : cw_T) (n : Nat) (a1 : Int32) (σ : ej_S) : ∀ r σ1, m9_keyOn n a1 σ = some (r, σ1) → ∀ l, ej_Con l (cV x) i9_keyOn yX9_keyOn (some .int) [.ref (cw_a x 7), .int a1] σ (some (.int r)) σ1 := fun r σ1 h l => ej_con_of (cV_ok x) pn_X9 rfl (Nat.le_of_ble_eq_true rfl) rfl h (fun F hq => j9_keyOn x n a1 σ hq)

noncomputable def m9_kindOfKey (n : Nat) (a1 : Int32) (σ : ej_S) : Option (Int32 × ej_S) := (if a1 < 0 then (some ((-1), σ)) else (if 96 ≤ a1 then (some ((-1), σ)) else ej_ck a1 96 ((some (gA σ 28 a1.toNatClampNeg, σ)))))
set_option maxRecDepth 20000 in
set_option maxHeartbeats 2000000 in
theorem j9_kindOfKey (x : cw_T) (n : Nat) (a1 : Int32) (σ : ej_S) {F : ej_F} {r0 : Int32 × ej_S} (hq : ej_fin (cV x) F (some .int) (some (.int r0.1)) r0.2) : ej_J (cV x) F i9_kindOfKey r0 σ 0 [(0, .ref (cw_a x 7)), (1, .int a1)] [] (m9_kindOfKey n a1 σ) := by
  unfold m9_kindOfKey
  refine j_iload_n 1 rfl d9_kindOfKey_0 ?_
  refine j_if_lt d9_kindOfKey_1 ?_ ?_
  · refine j_iconst d9_kindOfKey_19 ejc_m1 ?_
    exact j_ireturn hq d9_kindOfKey_20
  · refine j_iload_n 1 rfl d9_kindOfKey_4 ?_
    refine j_bipush d9_kindOfKey_5 ejb_96 ?_
    refine j_icmp_ge d9_kindOfKey_7 ?_ ?_
    · refine j_iconst d9_kindOfKey_19 ejc_m1 ?_
      exact j_ireturn hq d9_kindOfKey_20
    · refine j_aload_n 0 rfl d9_kindOfKey_10 ?_
      refine j_get fl_X9_21 (cV_g_7_8 x σ) d9_kindOfKey_11 ?_
      refine j_iload_n 1 rfl d9_kindOfKey_14 ?_
      refine j_iald (cV_a_50 x σ) d9_kindOfKey_15 ?_
      refine j_goto d9_kindOfKey_16 ?_
      exact j_ireturn hq d9_kindOfKey_20
theorem c9_kindOfKey (x : cw_T) (n : Nat) (a1 : Int32) (σ : ej_S) : ∀ r σ1, m9_kindOfKey n a1 σ = some (r, σ1) → ∀ l, ej_Con l (cV x) i9_kindOfKey yX9_kindOfKey (some .int) [.ref (cw_a x 7), .int a1] σ (some (.int r)) σ1 := fun r σ1 h l => ej_con_of (cV_ok x) pn_X9 rfl (Nat.le_of_ble_eq_true rfl) rfl h (fun F hq => j9_kindOfKey x n a1 σ hq)

noncomputable def m9_forget (n : Nat)  (σ : ej_S) : Option (ej_S) := ej_nm (uI σ 34 0) fun s1 => ej_nm (uI s1 35 0) fun s2 => (some s2)
set_option maxRecDepth 20000 in
set_option maxHeartbeats 2000000 in
theorem j9_forget (x : cw_T) (n : Nat)  (σ : ej_S) {F : ej_F} {r0 : ej_S} (hq : ej_fin (cV x) F none none r0) : ej_J (cV x) F i9_forget r0 σ 0 [(0, .ref (cw_a x 7))] [] (m9_forget n  σ) := by
  unfold m9_forget
  refine j_aload_n 0 rfl d9_forget_0 ?_
  refine j_iconst d9_forget_1 ejc_0 ?_
  refine j_put fl_X9_49 (cV_p_7_3 x σ 0) rfl rfl d9_forget_2 (fun s1 => ?_)
  refine j_aload_n 0 rfl d9_forget_5 ?_
  refine j_iconst d9_forget_6 ejc_0 ?_
  refine j_put fl_X9_53 (cV_p_7_4 x s1 0) rfl rfl d9_forget_7 (fun s2 => ?_)
  exact j_vreturn hq d9_forget_10
theorem c9_forget (x : cw_T) (n : Nat)  (σ : ej_S) : ∀ σ1, m9_forget n  σ = some σ1 → ∀ l, ej_Con l (cV x) i9_forget yX9_forget none [.ref (cw_a x 7)] σ none σ1 := fun σ1 h l => ej_con_of (cV_ok x) pn_X9 rfl (Nat.le_of_ble_eq_true rfl) rfl h (fun F hq => j9_forget x n  σ hq)

noncomputable def m9_beginAt (n : Nat) (a1 : Int64) (σ : ej_S) : Option (ej_S) := ej_nm (uJ σ 0 a1) fun s1 => ej_bv (m9_forget n s1) fun s2 => (some s2)
set_option maxRecDepth 20000 in
set_option maxHeartbeats 2000000 in
theorem j9_beginAt (x : cw_T) (n : Nat) (a1 : Int64) (σ : ej_S) {F : ej_F} {r0 : ej_S} (hq : ej_fin (cV x) F none none r0) : ej_J (cV x) F i9_beginAt r0 σ 0 [(0, .ref (cw_a x 7)), (1, .long a1)] [] (m9_beginAt n a1 σ) := by
  unfold m9_beginAt
  refine j_aload_n 0 rfl d9_beginAt_0 ?_
  refine j_lload_n 1 rfl d9_beginAt_1 ?_
  refine j_put fl_X9_42 (cV_p_7_2 x σ a1) rfl rfl d9_beginAt_2 (fun s1 => ?_)
  refine j_aload_n 0 rfl d9_beginAt_5 ?_
  refine j_callVv (c9_forget x n s1) lv_X9_46 (cV_rc_7 x s1) ⟨Nat.le_of_ble_eq_true rfl, Nat.le_of_ble_eq_true rfl⟩ d9_beginAt_6 rfl (Nat.le_of_ble_eq_true rfl) (fun s2 => ?_)
  exact j_vreturn hq d9_beginAt_9
theorem c9_beginAt (x : cw_T) (n : Nat) (a1 : Int64) (σ : ej_S) : ∀ σ1, m9_beginAt n a1 σ = some σ1 → ∀ l, ej_Con l (cV x) i9_beginAt yX9_beginAt none [.ref (cw_a x 7), .long a1] σ none σ1 := fun σ1 h l => ej_con_of (cV_ok x) pn_X9 rfl (Nat.le_of_ble_eq_true rfl) rfl h (fun F hq => j9_beginAt x n a1 σ hq)

noncomputable def m9_homeNode (n : Nat)  (σ : ej_S) : Option (Int32 × ej_S) := ej_bi (m0_find n (gJ σ 0) (-1) σ) fun r2 s1 => (some (r2, s1))
set_option maxRecDepth 20000 in
set_option maxHeartbeats 2000000 in
theorem j9_homeNode (x : cw_T) (n : Nat)  (σ : ej_S) {F : ej_F} {r0 : Int32 × ej_S} (hq : ej_fin (cV x) F (some .int) (some (.int r0.1)) r0.2) : ej_J (cV x) F i9_homeNode r0 σ 0 [(0, .ref (cw_a x 7))] [] (m9_homeNode n  σ) := by
  unfold m9_homeNode
  refine j_aload_n 0 rfl d9_homeNode_0 ?_
  refine j_get fl_X9_34 (cV_g_7_0 x σ) d9_homeNode_1 ?_
  refine j_aload_n 0 rfl d9_homeNode_4 ?_
  refine j_get fl_X9_42 (cV_g_7_2 x σ) d9_homeNode_5 ?_
  refine j_iconst d9_homeNode_8 ejc_m1 ?_
  refine j_callVi (c0_find x n (gJ σ 0) (-1) σ) lv_X9_56 (cV_rc_4 x σ) ⟨Nat.le_of_ble_eq_true rfl, Nat.le_of_ble_eq_true rfl⟩ d9_homeNode_9 rfl (Nat.le_of_ble_eq_true rfl) (fun r2 s1 => ?_)
  exact j_ireturn hq d9_homeNode_12
theorem c9_homeNode (x : cw_T) (n : Nat)  (σ : ej_S) : ∀ r σ1, m9_homeNode n  σ = some (r, σ1) → ∀ l, ej_Con l (cV x) i9_homeNode yX9_homeNode (some .int) [.ref (cw_a x 7)] σ (some (.int r)) σ1 := fun r σ1 h l => ej_con_of (cV_ok x) pn_X9 rfl (Nat.le_of_ble_eq_true rfl) rfl h (fun F hq => j9_homeNode x n  σ hq)

noncomputable def m9_costOfKey (n : Nat) (a1 : Int32) (σ : ej_S) : Option (Int32 × ej_S) := (if a1 < 0 then (some ((-1), σ)) else (if 96 ≤ a1 then (some ((-1), σ)) else ej_ck a1 96 ((some (gA σ 25 a1.toNatClampNeg, σ)))))
set_option maxRecDepth 20000 in
set_option maxHeartbeats 2000000 in
theorem j9_costOfKey (x : cw_T) (n : Nat) (a1 : Int32) (σ : ej_S) {F : ej_F} {r0 : Int32 × ej_S} (hq : ej_fin (cV x) F (some .int) (some (.int r0.1)) r0.2) : ej_J (cV x) F i9_costOfKey r0 σ 0 [(0, .ref (cw_a x 7)), (1, .int a1)] [] (m9_costOfKey n a1 σ) := by
  unfold m9_costOfKey
  refine j_iload_n 1 rfl d9_costOfKey_0 ?_
  refine j_if_lt d9_costOfKey_1 ?_ ?_
  · refine j_iconst d9_costOfKey_19 ejc_m1 ?_
    exact j_ireturn hq d9_costOfKey_20
  · refine j_iload_n 1 rfl d9_costOfKey_4 ?_
    refine j_bipush d9_costOfKey_5 ejb_96 ?_
    refine j_icmp_ge d9_costOfKey_7 ?_ ?_
    · refine j_iconst d9_costOfKey_19 ejc_m1 ?_
      exact j_ireturn hq d9_costOfKey_20
    · refine j_aload_n 0 rfl d9_costOfKey_10 ?_
      refine j_get fl_X9_9 (cV_g_7_5 x σ) d9_costOfKey_11 ?_
      refine j_iload_n 1 rfl d9_costOfKey_14 ?_
      refine j_iald (cV_a_47 x σ) d9_costOfKey_15 ?_
      refine j_goto d9_costOfKey_16 ?_
      exact j_ireturn hq d9_costOfKey_20
theorem c9_costOfKey (x : cw_T) (n : Nat) (a1 : Int32) (σ : ej_S) : ∀ r σ1, m9_costOfKey n a1 σ = some (r, σ1) → ∀ l, ej_Con l (cV x) i9_costOfKey yX9_costOfKey (some .int) [.ref (cw_a x 7), .int a1] σ (some (.int r)) σ1 := fun r σ1 h l => ej_con_of (cV_ok x) pn_X9 rfl (Nat.le_of_ble_eq_true rfl) rfl h (fun F hq => j9_costOfKey x n a1 σ hq)

noncomputable def m9_leastByRounds_18 (n : Nat) (k : Nat) : Int32 → Int32 → Int32 → ej_S → Option (Int32 × ej_S) := Nat.rec (motive := fun _ => Int32 → Int32 → Int32 → ej_S → Option (Int32 × ej_S)) (fun _ _ _ _ => none) (fun _ ih y2 y3 y4 σ => (if (y2 + 1) * 4 ≤ y4 then (some (y3, σ)) else ej_ck y4 96 ((if gA σ 30 y4.toNatClampNeg = (-1) then ej_nm (y4 + 1) fun x5 => (ih y2 y3 x5 σ) else (if y3 = (-1) then ej_ck y4 96 (ej_nm (gA σ 30 y4.toNatClampNeg) fun x6 => ej_nm (y4 + 1) fun x7 => (ih y2 x6 x7 σ)) else ej_ck y4 96 ((if y3 ≤ gA σ 30 y4.toNatClampNeg then ej_nm (y4 + 1) fun x8 => (ih y2 y3 x8 σ) else ej_ck y4 96 (ej_nm (gA σ 30 y4.toNatClampNeg) fun x9 => ej_nm (y4 + 1) fun x10 => (ih y2 x9 x10 σ))))))))) k
theorem m9_leastByRounds_18_s (n : Nat) (k : Nat) (y2 : Int32) (y3 : Int32) (y4 : Int32) (σ : ej_S) : m9_leastByRounds_18 n (k + 1) y2 y3 y4 σ = ((if (y2 + 1) * 4 ≤ y4 then (some (y3, σ)) else ej_ck y4 96 ((if gA σ 30 y4.toNatClampNeg = (-1) then ej_nm (y4 + 1) fun x5 => ((m9_leastByRounds_18 n k) y2 y3 x5 σ) else (if y3 = (-1) then ej_ck y4 96 (ej_nm (gA σ 30 y4.toNatClampNeg) fun x6 => ej_nm (y4 + 1) fun x7 => ((m9_leastByRounds_18 n k) y2 x6 x7 σ)) else ej_ck y4 96 ((if y3 ≤ gA σ 30 y4.toNatClampNeg then ej_nm (y4 + 1) fun x8 => ((m9_leastByRounds_18 n k) y2 y3 x8 σ) else ej_ck y4 96 (ej_nm (gA σ 30 y4.toNatClampNeg) fun x9 => ej_nm (y4 + 1) fun x10 => ((m9_leastByRounds_18 n k) y2 x9 x10 σ)))))))) : Option (Int32 × ej_S)) := rfl
set_option maxRecDepth 20000 in
set_option maxHeartbeats 2000000 in
theorem j9_leastByRounds_18 (x : cw_T) (n : Nat) {F : ej_F} {r0 : Int32 × ej_S} (hq : ej_fin (cV x) F (some .int) (some (.int r0.1)) r0.2) : ∀ (k : Nat) (y2 : Int32) (y3 : Int32) (y4 : Int32) (σ : ej_S), ej_J (cV x) F i9_leastByRounds r0 σ 18 [(0, .ref (cw_a x 7)), (1, .int y2), (2, .int y3), (3, .int y4)] [] (m9_leastByRounds_18 n k y2 y3 y4 σ) := by
  intro k
  induction k with
  | zero => intro y2 y3 y4 σ; exact j_none
  | succ k ih =>
    intro y2 y3 y4 σ
    rw [m9_leastByRounds_18_s]
    refine j_iload_n 3 rfl d9_leastByRounds_18 ?_
    refine j_iload_n 1 rfl d9_leastByRounds_19 ?_
    refine j_iconst d9_leastByRounds_20 ejc_1 ?_
    refine j_iadd d9_leastByRounds_21 ?_
    refine j_iconst d9_leastByRounds_22 ejc_4 ?_
    refine j_imul d9_leastByRounds_23 ?_
    refine j_icmp_ge d9_leastByRounds_24 ?_ ?_
    · refine j_iload_n 2 rfl d9_leastByRounds_65 ?_
      exact j_ireturn hq d9_leastByRounds_66
    · refine j_aload_n 0 rfl d9_leastByRounds_27 ?_
      refine j_get fl_X9_28 (cV_g_7_10 x σ) d9_leastByRounds_28 ?_
      refine j_iload_n 3 rfl d9_leastByRounds_31 ?_
      refine j_iald (cV_a_52 x σ) d9_leastByRounds_32 ?_
      refine j_iconst d9_leastByRounds_33 ejc_m1 ?_
      refine j_icmp_eq d9_leastByRounds_34 ?_ ?_
      · refine j_iinc (i := 3) (v := 1) (Ly := fun x5 => [(3, .int x5), (0, .ref (cw_a x 7)), (1, .int y2), (2, .int y3)]) 3 d9_leastByRounds_59 rfl ejc_1 (Nat.le_of_ble_eq_true rfl) (fun _ => rfl) (fun x5 => ?_)
        refine j_goto d9_leastByRounds_62 ?_
        exact j_sub [1, 2, 3, 0] rfl (ih y2 y3 x5 σ)
      · refine j_iload_n 2 rfl d9_leastByRounds_37 ?_
        refine j_iconst d9_leastByRounds_38 ejc_m1 ?_
        refine j_icmp_eq d9_leastByRounds_39 ?_ ?_
        · refine j_aload_n 0 rfl d9_leastByRounds_52 ?_
          refine j_get fl_X9_28 (cV_g_7_10 x σ) d9_leastByRounds_53 ?_
          refine j_iload_n 3 rfl d9_leastByRounds_56 ?_
          refine j_iald (cV_a_52 x σ) d9_leastByRounds_57 ?_
          refine j_nmi (fun x6 => ?_)
          refine j_istore_n (i := 2) (L' := [(2, .int x6), (0, .ref (cw_a x 7)), (1, .int y2), (3, .int y4)]) d9_leastByRounds_58 rfl (Nat.le_of_ble_eq_true rfl) rfl ?_
          refine j_iinc (i := 3) (v := 1) (Ly := fun x7 => [(3, .int x7), (2, .int x6), (0, .ref (cw_a x 7)), (1, .int y2)]) 3 d9_leastByRounds_59 rfl ejc_1 (Nat.le_of_ble_eq_true rfl) (fun _ => rfl) (fun x7 => ?_)
          refine j_goto d9_leastByRounds_62 ?_
          exact j_sub [2, 3, 1, 0] rfl (ih y2 x6 x7 σ)
        · refine j_aload_n 0 rfl d9_leastByRounds_42 ?_
          refine j_get fl_X9_28 (cV_g_7_10 x σ) d9_leastByRounds_43 ?_
          refine j_iload_n 3 rfl d9_leastByRounds_46 ?_
          refine j_iald (cV_a_52 x σ) d9_leastByRounds_47 ?_
          refine j_iload_n 2 rfl d9_leastByRounds_48 ?_
          refine j_icmp_ge d9_leastByRounds_49 ?_ ?_
          · refine j_iinc (i := 3) (v := 1) (Ly := fun x8 => [(3, .int x8), (0, .ref (cw_a x 7)), (1, .int y2), (2, .int y3)]) 3 d9_leastByRounds_59 rfl ejc_1 (Nat.le_of_ble_eq_true rfl) (fun _ => rfl) (fun x8 => ?_)
            refine j_goto d9_leastByRounds_62 ?_
            exact j_sub [1, 2, 3, 0] rfl (ih y2 y3 x8 σ)
          · refine j_aload_n 0 rfl d9_leastByRounds_52 ?_
            refine j_get fl_X9_28 (cV_g_7_10 x σ) d9_leastByRounds_53 ?_
            refine j_iload_n 3 rfl d9_leastByRounds_56 ?_
            refine j_iald (cV_a_52 x σ) d9_leastByRounds_57 ?_
            refine j_nmi (fun x9 => ?_)
            refine j_istore_n (i := 2) (L' := [(2, .int x9), (0, .ref (cw_a x 7)), (1, .int y2), (3, .int y4)]) d9_leastByRounds_58 rfl (Nat.le_of_ble_eq_true rfl) rfl ?_
            refine j_iinc (i := 3) (v := 1) (Ly := fun x10 => [(3, .int x10), (2, .int x9), (0, .ref (cw_a x 7)), (1, .int y2)]) 3 d9_leastByRounds_59 rfl ejc_1 (Nat.le_of_ble_eq_true rfl) (fun _ => rfl) (fun x10 => ?_)
            refine j_goto d9_leastByRounds_62 ?_
            exact j_sub [2, 3, 1, 0] rfl (ih y2 x9 x10 σ)
noncomputable def m9_leastByRounds (n : Nat) (a1 : Int32) (σ : ej_S) : Option (Int32 × ej_S) := (if a1 < 0 then (some ((-1), σ)) else (if a1 < 24 then ej_nm (a1 * 4) fun x1 => (m9_leastByRounds_18 n n a1 (-1) x1 σ) else (some ((-1), σ))))
set_option maxRecDepth 20000 in
set_option maxHeartbeats 2000000 in
theorem j9_leastByRounds (x : cw_T) (n : Nat) (a1 : Int32) (σ : ej_S) {F : ej_F} {r0 : Int32 × ej_S} (hq : ej_fin (cV x) F (some .int) (some (.int r0.1)) r0.2) : ej_J (cV x) F i9_leastByRounds r0 σ 0 [(0, .ref (cw_a x 7)), (1, .int a1)] [] (m9_leastByRounds n a1 σ) := by
  unfold m9_leastByRounds
  refine j_iload_n 1 rfl d9_leastByRounds_0 ?_
  refine j_if_lt d9_leastByRounds_1 ?_ ?_
  · refine j_iconst d9_leastByRounds_10 ejc_m1 ?_
    exact j_ireturn hq d9_leastByRounds_11
  · refine j_iload_n 1 rfl d9_leastByRounds_4 ?_
    refine j_bipush d9_leastByRounds_5 ejb_24 ?_
    refine j_icmp_lt d9_leastByRounds_7 ?_ ?_
    · refine j_iconst d9_leastByRounds_12 ejc_m1 ?_
      refine j_istore_n (i := 2) (L' := [(2, .int (-1)), (0, .ref (cw_a x 7)), (1, .int a1)]) d9_leastByRounds_13 rfl (Nat.le_of_ble_eq_true rfl) rfl ?_
      refine j_iload_n 2 rfl d9_leastByRounds_14 ?_
      refine j_iconst d9_leastByRounds_15 ejc_4 ?_
      refine j_imul d9_leastByRounds_16 ?_
      refine j_nmi (fun x1 => ?_)
      refine j_istore_n (i := 3) (L' := [(3, .int x1), (2, .int (-1)), (0, .ref (cw_a x 7)), (1, .int a1)]) d9_leastByRounds_17 rfl (Nat.le_of_ble_eq_true rfl) rfl ?_
      exact j_sub [2, 3, 1, 0] rfl (j9_leastByRounds_18 x n hq n a1 (-1) x1 σ)
    · refine j_iconst d9_leastByRounds_10 ejc_m1 ?_
      exact j_ireturn hq d9_leastByRounds_11
theorem c9_leastByRounds (x : cw_T) (n : Nat) (a1 : Int32) (σ : ej_S) : ∀ r σ1, m9_leastByRounds n a1 σ = some (r, σ1) → ∀ l, ej_Con l (cV x) i9_leastByRounds yX9_leastByRounds (some .int) [.ref (cw_a x 7), .int a1] σ (some (.int r)) σ1 := fun r σ1 h l => ej_con_of (cV_ok x) pn_X9 rfl (Nat.le_of_ble_eq_true rfl) rfl h (fun F hq => j9_leastByRounds x n a1 σ hq)

noncomputable def m9_nearestUnsettled_4 (n : Nat) (k : Nat) : Int32 → Int32 → ej_S → Option (Int32 × ej_S) := Nat.rec (motive := fun _ => Int32 → Int32 → ej_S → Option (Int32 × ej_S)) (fun _ _ _ => none) (fun _ ih y1 y2 σ => (if 96 ≤ y2 then (some (y1, σ)) else ej_ck y2 96 ((if gA σ 29 y2.toNatClampNeg = 0 then ej_ck y2 96 ((if gA σ 25 y2.toNatClampNeg = (-1) then ej_nm (y2 + 1) fun x4 => (ih y1 x4 σ) else (if y1 = (-1) then ej_nm (y2 + 1) fun x5 => (ih y2 x5 σ) else ej_bi (m9_isShorter n y2 y1 σ) fun r7 s6 => (if r7 = 0 then ej_nm (y2 + 1) fun x8 => (ih y1 x8 s6) else ej_nm (y2 + 1) fun x9 => (ih y2 x9 s6))))) else ej_nm (y2 + 1) fun x3 => (ih y1 x3 σ))))) k
theorem m9_nearestUnsettled_4_s (n : Nat) (k : Nat) (y1 : Int32) (y2 : Int32) (σ : ej_S) : m9_nearestUnsettled_4 n (k + 1) y1 y2 σ = ((if 96 ≤ y2 then (some (y1, σ)) else ej_ck y2 96 ((if gA σ 29 y2.toNatClampNeg = 0 then ej_ck y2 96 ((if gA σ 25 y2.toNatClampNeg = (-1) then ej_nm (y2 + 1) fun x4 => ((m9_nearestUnsettled_4 n k) y1 x4 σ) else (if y1 = (-1) then ej_nm (y2 + 1) fun x5 => ((m9_nearestUnsettled_4 n k) y2 x5 σ) else ej_bi (m9_isShorter n y2 y1 σ) fun r7 s6 => (if r7 = 0 then ej_nm (y2 + 1) fun x8 => ((m9_nearestUnsettled_4 n k) y1 x8 s6) else ej_nm (y2 + 1) fun x9 => ((m9_nearestUnsettled_4 n k) y2 x9 s6))))) else ej_nm (y2 + 1) fun x3 => ((m9_nearestUnsettled_4 n k) y1 x3 σ)))) : Option (Int32 × ej_S)) := rfl
set_option maxRecDepth 20000 in
set_option maxHeartbeats 2000000 in
theorem j9_nearestUnsettled_4 (x : cw_T) (n : Nat) {F : ej_F} {r0 : Int32 × ej_S} (hq : ej_fin (cV x) F (some .int) (some (.int r0.1)) r0.2) : ∀ (k : Nat) (y1 : Int32) (y2 : Int32) (σ : ej_S), ej_J (cV x) F i9_nearestUnsettled r0 σ 4 [(0, .ref (cw_a x 7)), (1, .int y1), (2, .int y2)] [] (m9_nearestUnsettled_4 n k y1 y2 σ) := by
  intro k
  induction k with
  | zero => intro y1 y2 σ; exact j_none
  | succ k ih =>
    intro y1 y2 σ
    rw [m9_nearestUnsettled_4_s]
    refine j_iload_n 2 rfl d9_nearestUnsettled_4 ?_
    refine j_bipush d9_nearestUnsettled_5 ejb_96 ?_
    refine j_icmp_ge d9_nearestUnsettled_7 ?_ ?_
    · refine j_iload_n 1 rfl d9_nearestUnsettled_51 ?_
      exact j_ireturn hq d9_nearestUnsettled_52
    · refine j_aload_n 0 rfl d9_nearestUnsettled_10 ?_
      refine j_get fl_X9_24 (cV_g_7_9 x σ) d9_nearestUnsettled_11 ?_
      refine j_iload_n 2 rfl d9_nearestUnsettled_14 ?_
      refine j_zald (cV_a_51 x σ) d9_nearestUnsettled_15 ?_
      refine j_if_ne d9_nearestUnsettled_16 ?_ ?_
      · refine j_iinc (i := 2) (v := 1) (Ly := fun x3 => [(2, .int x3), (0, .ref (cw_a x 7)), (1, .int y1)]) 2 d9_nearestUnsettled_45 rfl ejc_1 (Nat.le_of_ble_eq_true rfl) (fun _ => rfl) (fun x3 => ?_)
        refine j_goto d9_nearestUnsettled_48 ?_
        exact j_sub [1, 2, 0] rfl (ih y1 x3 σ)
      · refine j_aload_n 0 rfl d9_nearestUnsettled_19 ?_
        refine j_get fl_X9_9 (cV_g_7_5 x σ) d9_nearestUnsettled_20 ?_
        refine j_iload_n 2 rfl d9_nearestUnsettled_23 ?_
        refine j_iald (cV_a_47 x σ) d9_nearestUnsettled_24 ?_
        refine j_iconst d9_nearestUnsettled_25 ejc_m1 ?_
        refine j_icmp_eq d9_nearestUnsettled_26 ?_ ?_
        · refine j_iinc (i := 2) (v := 1) (Ly := fun x4 => [(2, .int x4), (0, .ref (cw_a x 7)), (1, .int y1)]) 2 d9_nearestUnsettled_45 rfl ejc_1 (Nat.le_of_ble_eq_true rfl) (fun _ => rfl) (fun x4 => ?_)
          refine j_goto d9_nearestUnsettled_48 ?_
          exact j_sub [1, 2, 0] rfl (ih y1 x4 σ)
        · refine j_iload_n 1 rfl d9_nearestUnsettled_29 ?_
          refine j_iconst d9_nearestUnsettled_30 ejc_m1 ?_
          refine j_icmp_eq d9_nearestUnsettled_31 ?_ ?_
          · refine j_iload_n 2 rfl d9_nearestUnsettled_43 ?_
            refine j_istore_n (i := 1) (L' := [(1, .int y2), (0, .ref (cw_a x 7)), (2, .int y2)]) d9_nearestUnsettled_44 rfl (Nat.le_of_ble_eq_true rfl) rfl ?_
            refine j_iinc (i := 2) (v := 1) (Ly := fun x5 => [(2, .int x5), (1, .int y2), (0, .ref (cw_a x 7))]) 2 d9_nearestUnsettled_45 rfl ejc_1 (Nat.le_of_ble_eq_true rfl) (fun _ => rfl) (fun x5 => ?_)
            refine j_goto d9_nearestUnsettled_48 ?_
            exact j_sub [2, 1, 0] rfl (ih y2 x5 σ)
          · refine j_aload_n 0 rfl d9_nearestUnsettled_34 ?_
            refine j_iload_n 2 rfl d9_nearestUnsettled_35 ?_
            refine j_iload_n 1 rfl d9_nearestUnsettled_36 ?_
            refine j_callVi (c9_isShorter x n y2 y1 σ) lv_X9_62 (cV_rc_7 x σ) ⟨Nat.le_of_ble_eq_true rfl, Nat.le_of_ble_eq_true rfl⟩ d9_nearestUnsettled_37 rfl (Nat.le_of_ble_eq_true rfl) (fun r7 s6 => ?_)
            refine j_if_eq d9_nearestUnsettled_40 ?_ ?_
            · refine j_iinc (i := 2) (v := 1) (Ly := fun x8 => [(2, .int x8), (0, .ref (cw_a x 7)), (1, .int y1)]) 2 d9_nearestUnsettled_45 rfl ejc_1 (Nat.le_of_ble_eq_true rfl) (fun _ => rfl) (fun x8 => ?_)
              refine j_goto d9_nearestUnsettled_48 ?_
              exact j_sub [1, 2, 0] rfl (ih y1 x8 s6)
            · refine j_iload_n 2 rfl d9_nearestUnsettled_43 ?_
              refine j_istore_n (i := 1) (L' := [(1, .int y2), (0, .ref (cw_a x 7)), (2, .int y2)]) d9_nearestUnsettled_44 rfl (Nat.le_of_ble_eq_true rfl) rfl ?_
              refine j_iinc (i := 2) (v := 1) (Ly := fun x9 => [(2, .int x9), (1, .int y2), (0, .ref (cw_a x 7))]) 2 d9_nearestUnsettled_45 rfl ejc_1 (Nat.le_of_ble_eq_true rfl) (fun _ => rfl) (fun x9 => ?_)
              refine j_goto d9_nearestUnsettled_48 ?_
              exact j_sub [2, 1, 0] rfl (ih y2 x9 s6)
noncomputable def m9_nearestUnsettled (n : Nat)  (σ : ej_S) : Option (Int32 × ej_S) := (m9_nearestUnsettled_4 n n (-1) 0 σ)
set_option maxRecDepth 20000 in
set_option maxHeartbeats 2000000 in
theorem j9_nearestUnsettled (x : cw_T) (n : Nat)  (σ : ej_S) {F : ej_F} {r0 : Int32 × ej_S} (hq : ej_fin (cV x) F (some .int) (some (.int r0.1)) r0.2) : ej_J (cV x) F i9_nearestUnsettled r0 σ 0 [(0, .ref (cw_a x 7))] [] (m9_nearestUnsettled n  σ) := by
  unfold m9_nearestUnsettled
  refine j_iconst d9_nearestUnsettled_0 ejc_m1 ?_
  refine j_istore_n (i := 1) (L' := [(1, .int (-1)), (0, .ref (cw_a x 7))]) d9_nearestUnsettled_1 rfl (Nat.le_of_ble_eq_true rfl) rfl ?_
  refine j_iconst d9_nearestUnsettled_2 ejc_0 ?_
  refine j_istore_n (i := 2) (L' := [(2, .int 0), (1, .int (-1)), (0, .ref (cw_a x 7))]) d9_nearestUnsettled_3 rfl (Nat.le_of_ble_eq_true rfl) rfl ?_
  exact j_sub [2, 1, 0] rfl (j9_nearestUnsettled_4 x n hq n (-1) 0 σ)
theorem c9_nearestUnsettled (x : cw_T) (n : Nat)  (σ : ej_S) : ∀ r σ1, m9_nearestUnsettled n  σ = some (r, σ1) → ∀ l, ej_Con l (cV x) i9_nearestUnsettled yX9_nearestUnsettled (some .int) [.ref (cw_a x 7)] σ (some (.int r)) σ1 := fun r σ1 h l => ej_con_of (cV_ok x) pn_X9 rfl (Nat.le_of_ble_eq_true rfl) rfl h (fun F hq => j9_nearestUnsettled x n  σ hq)

noncomputable def m9_offer_178 (n : Nat) (y3 : Int32) (y4 : Int32) (y5 : Int32) (y6 : Int32) (y7 : Int32) (y8 : Int32) (σ : ej_S) : Option (ej_S) := (if y8 = 0 then (some σ) else ej_ck y3 96 (ej_nm (uA σ 25 (y3.toNatClampNeg) y6) fun s9 => ej_ck y3 96 (ej_nm (uA s9 26 (y3.toNatClampNeg) y7) fun s10 => ej_ck y3 96 (ej_nm (uA s10 27 (y3.toNatClampNeg) y4) fun s11 => ej_ck y3 96 (ej_nm (uA s11 28 (y3.toNatClampNeg) y5) fun s12 => (some s12))))))
set_option maxRecDepth 20000 in
set_option maxHeartbeats 2000000 in
theorem j9_offer_178 (x : cw_T) (n : Nat) {F : ej_F} {r0 : ej_S} (hq : ej_fin (cV x) F none none r0) (y3 : Int32) (y4 : Int32) (y5 : Int32) (y6 : Int32) (y7 : Int32) (y8 : Int32) (σ : ej_S) : ej_J (cV x) F i9_offer r0 σ 178 [(0, .ref (cw_a x 7)), (1, .int y3), (3, .int y4), (4, .int y5), (5, .int y6), (6, .int y7), (7, .int y8)] [] (m9_offer_178 n y3 y4 y5 y6 y7 y8 σ) := by
  unfold m9_offer_178
  refine j_iload 6 rfl d9_offer_178 ?_
  refine j_if_eq d9_offer_180 ?_ ?_
  · exact j_vreturn hq d9_offer_214
  · refine j_aload_n 0 rfl d9_offer_183 ?_
    refine j_get fl_X9_9 (cV_g_7_5 x σ) d9_offer_184 ?_
    refine j_iload_n 1 rfl d9_offer_187 ?_
    refine j_iload 4 rfl d9_offer_188 ?_
    refine j_iast (cV_s_47 x σ (y3.toNatClampNeg) y6) d9_offer_190 (fun s9 => ?_)
    refine j_aload_n 0 rfl d9_offer_191 ?_
    refine j_get fl_X9_15 (cV_g_7_6 x s9) d9_offer_192 ?_
    refine j_iload_n 1 rfl d9_offer_195 ?_
    refine j_iload 5 rfl d9_offer_196 ?_
    refine j_iast (cV_s_48 x s9 (y3.toNatClampNeg) y7) d9_offer_198 (fun s10 => ?_)
    refine j_aload_n 0 rfl d9_offer_199 ?_
    refine j_get fl_X9_18 (cV_g_7_7 x s10) d9_offer_200 ?_
    refine j_iload_n 1 rfl d9_offer_203 ?_
    refine j_iload_n 2 rfl d9_offer_204 ?_
    refine j_iast (cV_s_49 x s10 (y3.toNatClampNeg) y4) d9_offer_205 (fun s11 => ?_)
    refine j_aload_n 0 rfl d9_offer_206 ?_
    refine j_get fl_X9_21 (cV_g_7_8 x s11) d9_offer_207 ?_
    refine j_iload_n 1 rfl d9_offer_210 ?_
    refine j_iload 3 rfl d9_offer_211 ?_
    refine j_iast (cV_s_50 x s11 (y3.toNatClampNeg) y5) d9_offer_213 (fun s12 => ?_)
    exact j_vreturn hq d9_offer_214
noncomputable def m9_offer (n : Nat) (a1 : Int32) (a2 : Int32) (a3 : Int32) (a4 : Int32) (σ : ej_S) : Option (ej_S) := (if a1 < 0 then (some σ) else (if 96 ≤ a1 then (some σ) else (if a3 < 0 then (some σ) else (if 96 ≤ a3 then (some σ) else ej_ck a1 96 ((if gA σ 29 a1.toNatClampNeg = 0 then ej_ck a3 96 (ej_nm ((gA σ 25 a3.toNatClampNeg) + a2) fun x1 => ej_ck a3 96 (ej_nm ((gA σ 26 a3.toNatClampNeg) + 1) fun x2 => ej_ck a1 96 ((if gA σ 25 a1.toNatClampNeg = (-1) then (m9_offer_178 n a1 a3 a4 x1 x2 1 σ) else ej_ck a1 96 ((if x1 = gA σ 25 a1.toNatClampNeg then ej_ck a1 96 ((if x2 = gA σ 26 a1.toNatClampNeg then ej_ck a1 96 ((if a3 = gA σ 27 a1.toNatClampNeg then ej_ck a1 96 ((if gA σ 28 a1.toNatClampNeg ≤ a4 then (m9_offer_178 n a1 a3 a4 x1 x2 0 σ) else (m9_offer_178 n a1 a3 a4 x1 x2 1 σ))) else ej_ck a1 96 ((if gA σ 27 a1.toNatClampNeg ≤ a3 then (m9_offer_178 n a1 a3 a4 x1 x2 0 σ) else (m9_offer_178 n a1 a3 a4 x1 x2 1 σ))))) else ej_ck a1 96 ((if gA σ 26 a1.toNatClampNeg ≤ x2 then (m9_offer_178 n a1 a3 a4 x1 x2 0 σ) else (m9_offer_178 n a1 a3 a4 x1 x2 1 σ))))) else ej_ck a1 96 ((if gA σ 25 a1.toNatClampNeg ≤ x1 then (m9_offer_178 n a1 a3 a4 x1 x2 0 σ) else (m9_offer_178 n a1 a3 a4 x1 x2 1 σ))))))))) else (some σ)))))))
set_option maxRecDepth 20000 in
set_option maxHeartbeats 2000000 in
theorem j9_offer (x : cw_T) (n : Nat) (a1 : Int32) (a2 : Int32) (a3 : Int32) (a4 : Int32) (σ : ej_S) {F : ej_F} {r0 : ej_S} (hq : ej_fin (cV x) F none none r0) : ej_J (cV x) F i9_offer r0 σ 0 [(0, .ref (cw_a x 7)), (1, .int a1), (2, .int a2), (3, .int a3), (4, .int a4)] [] (m9_offer n a1 a2 a3 a4 σ) := by
  unfold m9_offer
  refine j_iload_n 1 rfl d9_offer_0 ?_
  refine j_if_lt d9_offer_1 ?_ ?_
  · exact j_vreturn hq d9_offer_29
  · refine j_iload_n 1 rfl d9_offer_4 ?_
    refine j_bipush d9_offer_5 ejb_96 ?_
    refine j_icmp_ge d9_offer_7 ?_ ?_
    · exact j_vreturn hq d9_offer_29
    · refine j_iload_n 3 rfl d9_offer_10 ?_
      refine j_if_lt d9_offer_11 ?_ ?_
      · exact j_vreturn hq d9_offer_29
      · refine j_iload_n 3 rfl d9_offer_14 ?_
        refine j_bipush d9_offer_15 ejb_96 ?_
        refine j_icmp_ge d9_offer_17 ?_ ?_
        · exact j_vreturn hq d9_offer_29
        · refine j_aload_n 0 rfl d9_offer_20 ?_
          refine j_get fl_X9_24 (cV_g_7_9 x σ) d9_offer_21 ?_
          refine j_iload_n 1 rfl d9_offer_24 ?_
          refine j_zald (cV_a_51 x σ) d9_offer_25 ?_
          refine j_if_eq d9_offer_26 ?_ ?_
          · refine j_aload_n 0 rfl d9_offer_30 ?_
            refine j_get fl_X9_9 (cV_g_7_5 x σ) d9_offer_31 ?_
            refine j_iload_n 3 rfl d9_offer_34 ?_
            refine j_iald (cV_a_47 x σ) d9_offer_35 ?_
            refine j_iload_n 2 rfl d9_offer_36 ?_
            refine j_iadd d9_offer_37 ?_
            refine j_nmi (fun x1 => ?_)
            refine j_istore (i := 5) (L' := [(5, .int x1), (0, .ref (cw_a x 7)), (1, .int a1), (2, .int a2), (3, .int a3), (4, .int a4)]) d9_offer_38 (Nat.le_of_ble_eq_true rfl) rfl ?_
            refine j_aload_n 1 rfl d9_offer_40 ?_
            refine j_get fl_X9_15 (cV_g_7_6 x σ) d9_offer_41 ?_
            refine j_iload_n 4 rfl d9_offer_44 ?_
            refine j_iald (cV_a_48 x σ) d9_offer_45 ?_
            refine j_iconst d9_offer_46 ejc_1 ?_
            refine j_iadd d9_offer_47 ?_
            refine j_nmi (fun x2 => ?_)
            refine j_istore (i := 6) (L' := [(6, .int x2), (5, .int x1), (0, .ref (cw_a x 7)), (1, .int a1), (2, .int a2), (3, .int a3), (4, .int a4)]) d9_offer_48 (Nat.le_of_ble_eq_true rfl) rfl ?_
            refine j_aload_n 2 rfl d9_offer_50 ?_
            refine j_get fl_X9_9 (cV_g_7_5 x σ) d9_offer_51 ?_
            refine j_iload_n 3 rfl d9_offer_54 ?_
            refine j_iald (cV_a_47 x σ) d9_offer_55 ?_
            refine j_iconst d9_offer_56 ejc_m1 ?_
            refine j_icmp_ne d9_offer_57 ?_ ?_
            · refine j_iload 1 rfl d9_offer_66 ?_
              refine j_aload_n 2 rfl d9_offer_68 ?_
              refine j_get fl_X9_9 (cV_g_7_5 x σ) d9_offer_69 ?_
              refine j_iload_n 3 rfl d9_offer_72 ?_
              refine j_iald (cV_a_47 x σ) d9_offer_73 ?_
              refine j_icmp_eq d9_offer_74 ?_ ?_
              · refine j_iload 0 rfl d9_offer_98 ?_
                refine j_aload_n 2 rfl d9_offer_100 ?_
                refine j_get fl_X9_15 (cV_g_7_6 x σ) d9_offer_101 ?_
                refine j_iload_n 3 rfl d9_offer_104 ?_
                refine j_iald (cV_a_48 x σ) d9_offer_105 ?_
                refine j_icmp_eq d9_offer_106 ?_ ?_
                · refine j_iload_n 5 rfl d9_offer_130 ?_
                  refine j_aload_n 2 rfl d9_offer_131 ?_
                  refine j_get fl_X9_18 (cV_g_7_7 x σ) d9_offer_132 ?_
                  refine j_iload_n 3 rfl d9_offer_135 ?_
                  refine j_iald (cV_a_49 x σ) d9_offer_136 ?_
                  refine j_icmp_eq d9_offer_137 ?_ ?_
                  · refine j_iload 6 rfl d9_offer_160 ?_
                    refine j_aload_n 2 rfl d9_offer_162 ?_
                    refine j_get fl_X9_21 (cV_g_7_8 x σ) d9_offer_163 ?_
                    refine j_iload_n 3 rfl d9_offer_166 ?_
                    refine j_iald (cV_a_50 x σ) d9_offer_167 ?_
                    refine j_icmp_ge d9_offer_168 ?_ ?_
                    · refine j_iconst d9_offer_175 ejc_0 ?_
                      refine j_istore (i := 7) (L' := [(7, .int 0), (6, .int x2), (5, .int x1), (0, .ref (cw_a x 7)), (1, .int a1), (2, .int a2), (3, .int a3), (4, .int a4)]) d9_offer_176 (Nat.le_of_ble_eq_true rfl) rfl ?_
                      exact j_sub [3, 4, 6, 7, 2, 1, 0] rfl (j9_offer_178 x n hq a1 a3 a4 x1 x2 0 σ)
                    · refine j_iconst d9_offer_171 ejc_1 ?_
                      refine j_goto d9_offer_172 ?_
                      refine j_istore (i := 7) (L' := [(7, .int 1), (6, .int x2), (5, .int x1), (0, .ref (cw_a x 7)), (1, .int a1), (2, .int a2), (3, .int a3), (4, .int a4)]) d9_offer_176 (Nat.le_of_ble_eq_true rfl) rfl ?_
                      exact j_sub [3, 4, 6, 7, 2, 1, 0] rfl (j9_offer_178 x n hq a1 a3 a4 x1 x2 1 σ)
                  · refine j_iload_n 5 rfl d9_offer_140 ?_
                    refine j_aload_n 2 rfl d9_offer_141 ?_
                    refine j_get fl_X9_18 (cV_g_7_7 x σ) d9_offer_142 ?_
                    refine j_iload_n 3 rfl d9_offer_145 ?_
                    refine j_iald (cV_a_49 x σ) d9_offer_146 ?_
                    refine j_icmp_ge d9_offer_147 ?_ ?_
                    · refine j_iconst d9_offer_154 ejc_0 ?_
                      refine j_istore (i := 7) (L' := [(7, .int 0), (6, .int x2), (5, .int x1), (0, .ref (cw_a x 7)), (1, .int a1), (2, .int a2), (3, .int a3), (4, .int a4)]) d9_offer_155 (Nat.le_of_ble_eq_true rfl) rfl ?_
                      refine j_goto d9_offer_157 ?_
                      exact j_sub [3, 4, 6, 7, 2, 1, 0] rfl (j9_offer_178 x n hq a1 a3 a4 x1 x2 0 σ)
                    · refine j_iconst d9_offer_150 ejc_1 ?_
                      refine j_goto d9_offer_151 ?_
                      refine j_istore (i := 7) (L' := [(7, .int 1), (6, .int x2), (5, .int x1), (0, .ref (cw_a x 7)), (1, .int a1), (2, .int a2), (3, .int a3), (4, .int a4)]) d9_offer_155 (Nat.le_of_ble_eq_true rfl) rfl ?_
                      refine j_goto d9_offer_157 ?_
                      exact j_sub [3, 4, 6, 7, 2, 1, 0] rfl (j9_offer_178 x n hq a1 a3 a4 x1 x2 1 σ)
                · refine j_iload 0 rfl d9_offer_109 ?_
                  refine j_aload_n 2 rfl d9_offer_111 ?_
                  refine j_get fl_X9_15 (cV_g_7_6 x σ) d9_offer_112 ?_
                  refine j_iload_n 3 rfl d9_offer_115 ?_
                  refine j_iald (cV_a_48 x σ) d9_offer_116 ?_
                  refine j_icmp_ge d9_offer_117 ?_ ?_
                  · refine j_iconst d9_offer_124 ejc_0 ?_
                    refine j_istore (i := 7) (L' := [(7, .int 0), (6, .int x2), (5, .int x1), (0, .ref (cw_a x 7)), (1, .int a1), (2, .int a2), (3, .int a3), (4, .int a4)]) d9_offer_125 (Nat.le_of_ble_eq_true rfl) rfl ?_
                    refine j_goto d9_offer_127 ?_
                    exact j_sub [3, 4, 6, 7, 2, 1, 0] rfl (j9_offer_178 x n hq a1 a3 a4 x1 x2 0 σ)
                  · refine j_iconst d9_offer_120 ejc_1 ?_
                    refine j_goto d9_offer_121 ?_
                    refine j_istore (i := 7) (L' := [(7, .int 1), (6, .int x2), (5, .int x1), (0, .ref (cw_a x 7)), (1, .int a1), (2, .int a2), (3, .int a3), (4, .int a4)]) d9_offer_125 (Nat.le_of_ble_eq_true rfl) rfl ?_
                    refine j_goto d9_offer_127 ?_
                    exact j_sub [3, 4, 6, 7, 2, 1, 0] rfl (j9_offer_178 x n hq a1 a3 a4 x1 x2 1 σ)
              · refine j_iload 1 rfl d9_offer_77 ?_
                refine j_aload_n 2 rfl d9_offer_79 ?_
                refine j_get fl_X9_9 (cV_g_7_5 x σ) d9_offer_80 ?_
                refine j_iload_n 3 rfl d9_offer_83 ?_
                refine j_iald (cV_a_47 x σ) d9_offer_84 ?_
                refine j_icmp_ge d9_offer_85 ?_ ?_
                · refine j_iconst d9_offer_92 ejc_0 ?_
                  refine j_istore (i := 7) (L' := [(7, .int 0), (6, .int x2), (5, .int x1), (0, .ref (cw_a x 7)), (1, .int a1), (2, .int a2), (3, .int a3), (4, .int a4)]) d9_offer_93 (Nat.le_of_ble_eq_true rfl) rfl ?_
                  refine j_goto d9_offer_95 ?_
                  exact j_sub [3, 4, 6, 7, 2, 1, 0] rfl (j9_offer_178 x n hq a1 a3 a4 x1 x2 0 σ)
                · refine j_iconst d9_offer_88 ejc_1 ?_
                  refine j_goto d9_offer_89 ?_
                  refine j_istore (i := 7) (L' := [(7, .int 1), (6, .int x2), (5, .int x1), (0, .ref (cw_a x 7)), (1, .int a1), (2, .int a2), (3, .int a3), (4, .int a4)]) d9_offer_93 (Nat.le_of_ble_eq_true rfl) rfl ?_
                  refine j_goto d9_offer_95 ?_
                  exact j_sub [3, 4, 6, 7, 2, 1, 0] rfl (j9_offer_178 x n hq a1 a3 a4 x1 x2 1 σ)
            · refine j_iconst d9_offer_60 ejc_1 ?_
              refine j_istore (i := 7) (L' := [(7, .int 1), (6, .int x2), (5, .int x1), (0, .ref (cw_a x 7)), (1, .int a1), (2, .int a2), (3, .int a3), (4, .int a4)]) d9_offer_61 (Nat.le_of_ble_eq_true rfl) rfl ?_
              refine j_goto d9_offer_63 ?_
              exact j_sub [3, 4, 6, 7, 2, 1, 0] rfl (j9_offer_178 x n hq a1 a3 a4 x1 x2 1 σ)
          · exact j_vreturn hq d9_offer_29
theorem c9_offer (x : cw_T) (n : Nat) (a1 : Int32) (a2 : Int32) (a3 : Int32) (a4 : Int32) (σ : ej_S) : ∀ σ1, m9_offer n a1 a2 a3 a4 σ = some σ1 → ∀ l, ej_Con l (cV x) i9_offer yX9_offer none [.ref (cw_a x 7), .int a1, .int a2, .int a3, .int a4] σ none σ1 := fun σ1 h l => ej_con_of (cV_ok x) pn_X9 rfl (Nat.le_of_ble_eq_true rfl) rfl h (fun F hq => j9_offer x n a1 a2 a3 a4 σ hq)

noncomputable def m9_goOnFrom_31 (n : Nat) (f21 : Int32 → Int32 → Int32 → Int32 → Int32 → ej_S → Option (ej_S)) (k : Nat) : Int32 → Int32 → Int32 → Int32 → Int32 → Int32 → ej_S → Option (ej_S) := Nat.rec (motive := fun _ => Int32 → Int32 → Int32 → Int32 → Int32 → Int32 → ej_S → Option (ej_S)) (fun _ _ _ _ _ _ _ => none) (fun _ ih y10 y11 y12 y13 y14 y15 σ => (if 5 < y15 then ej_nm (y14 + 1) fun x16 => (f21 y10 y11 y12 y13 x16 σ) else ej_bi (m10_holds n y13 y14 σ) fun r18 s17 => (if r18 = 0 then ej_nm (y14 + 1) fun x19 => (f21 y10 y11 y12 y13 x19 s17) else ej_bi (m5_costOf n y11 y12 y15 y14 s17) fun r21 s20 => (if r21 = (-1) then ej_nm (y15 + 1) fun x22 => (ih y10 y11 y12 y13 y14 x22 s20) else ej_bi (m5_stateBehind n y11 y12 y15 y14 s20) fun r24 s23 => ej_bv (m9_offer n ((y14 * 4) + r24) r21 y10 y15 s23) fun s25 => ej_nm (y15 + 1) fun x26 => (ih y10 y11 y12 y13 y14 x26 s25))))) k
theorem m9_goOnFrom_31_s (n : Nat) (f21 : Int32 → Int32 → Int32 → Int32 → Int32 → ej_S → Option (ej_S)) (k : Nat) (y10 : Int32) (y11 : Int32) (y12 : Int32) (y13 : Int32) (y14 : Int32) (y15 : Int32) (σ : ej_S) : m9_goOnFrom_31 n f21 (k + 1) y10 y11 y12 y13 y14 y15 σ = ((if 5 < y15 then ej_nm (y14 + 1) fun x16 => (f21 y10 y11 y12 y13 x16 σ) else ej_bi (m10_holds n y13 y14 σ) fun r18 s17 => (if r18 = 0 then ej_nm (y14 + 1) fun x19 => (f21 y10 y11 y12 y13 x19 s17) else ej_bi (m5_costOf n y11 y12 y15 y14 s17) fun r21 s20 => (if r21 = (-1) then ej_nm (y15 + 1) fun x22 => ((m9_goOnFrom_31 n f21 k) y10 y11 y12 y13 y14 x22 s20) else ej_bi (m5_stateBehind n y11 y12 y15 y14 s20) fun r24 s23 => ej_bv (m9_offer n ((y14 * 4) + r24) r21 y10 y15 s23) fun s25 => ej_nm (y15 + 1) fun x26 => ((m9_goOnFrom_31 n f21 k) y10 y11 y12 y13 y14 x26 s25)))) : Option (ej_S)) := rfl
set_option maxRecDepth 20000 in
set_option maxHeartbeats 2000000 in
theorem j9_goOnFrom_31 (x : cw_T) (n : Nat) {F : ej_F} {r0 : ej_S} (hq : ej_fin (cV x) F none none r0) (f21 : Int32 → Int32 → Int32 → Int32 → Int32 → ej_S → Option (ej_S)) (H21 : ∀ (y5 : Int32) (y6 : Int32) (y7 : Int32) (y8 : Int32) (y9 : Int32) (σ : ej_S), ej_J (cV x) F i9_goOnFrom r0 σ 21 [(0, .ref (cw_a x 7)), (1, .int y5), (2, .int y6), (3, .int y7), (4, .int y8), (5, .int y9)] [] (f21 y5 y6 y7 y8 y9 σ)) : ∀ (k : Nat) (y10 : Int32) (y11 : Int32) (y12 : Int32) (y13 : Int32) (y14 : Int32) (y15 : Int32) (σ : ej_S), ej_J (cV x) F i9_goOnFrom r0 σ 31 [(0, .ref (cw_a x 7)), (1, .int y10), (2, .int y11), (3, .int y12), (4, .int y13), (5, .int y14), (6, .int y15)] [] (m9_goOnFrom_31 n f21 k y10 y11 y12 y13 y14 y15 σ) := by
  intro k
  induction k with
  | zero => intro y10 y11 y12 y13 y14 y15 σ; exact j_none
  | succ k ih =>
    intro y10 y11 y12 y13 y14 y15 σ
    rw [m9_goOnFrom_31_s]
    refine j_iload 6 rfl d9_goOnFrom_31 ?_
    refine j_iconst d9_goOnFrom_33 ejc_5 ?_
    refine j_icmp_gt d9_goOnFrom_34 ?_ ?_
    · refine j_iinc (i := 5) (v := 1) (Ly := fun x16 => [(5, .int x16), (0, .ref (cw_a x 7)), (1, .int y10), (2, .int y11), (3, .int y12), (4, .int y13), (6, .int y15)]) 5 d9_goOnFrom_101 rfl ejc_1 (Nat.le_of_ble_eq_true rfl) (fun _ => rfl) (fun x16 => ?_)
      refine j_goto d9_goOnFrom_104 ?_
      exact j_sub [1, 2, 3, 4, 5, 0] rfl (H21 y10 y11 y12 y13 x16 σ)
    · refine j_iload 4 rfl d9_goOnFrom_37 ?_
      refine j_iload 5 rfl d9_goOnFrom_39 ?_
      refine j_callNi (c10_holds x n y13 y14 σ) (ln_X9_92 x) ⟨Nat.le_of_ble_eq_true rfl, Nat.le_of_ble_eq_true rfl⟩ d9_goOnFrom_41 rfl (Nat.le_of_ble_eq_true rfl) (fun r18 s17 => ?_)
      refine j_if_eq d9_goOnFrom_44 ?_ ?_
      · refine j_iinc (i := 5) (v := 1) (Ly := fun x19 => [(5, .int x19), (0, .ref (cw_a x 7)), (1, .int y10), (2, .int y11), (3, .int y12), (4, .int y13), (6, .int y15)]) 5 d9_goOnFrom_101 rfl ejc_1 (Nat.le_of_ble_eq_true rfl) (fun _ => rfl) (fun x19 => ?_)
        refine j_goto d9_goOnFrom_104 ?_
        exact j_sub [1, 2, 3, 4, 5, 0] rfl (H21 y10 y11 y12 y13 x19 s17)
      · refine j_aload_n 0 rfl d9_goOnFrom_47 ?_
        refine j_get fl_X9_38 (cV_g_7_1 x s17) d9_goOnFrom_48 ?_
        refine j_iload_n 2 rfl d9_goOnFrom_51 ?_
        refine j_iload_n 3 rfl d9_goOnFrom_52 ?_
        refine j_iload 6 rfl d9_goOnFrom_53 ?_
        refine j_iload 5 rfl d9_goOnFrom_55 ?_
        refine j_callVi (c5_costOf x n y11 y12 y15 y14 s17) lv_X9_95 (cV_rc_6 x s17) ⟨Nat.le_of_ble_eq_true rfl, Nat.le_of_ble_eq_true rfl⟩ d9_goOnFrom_57 rfl (Nat.le_of_ble_eq_true rfl) (fun r21 s20 => ?_)
        refine j_istore (i := 7) (L' := [(7, .int r21), (0, .ref (cw_a x 7)), (1, .int y10), (2, .int y11), (3, .int y12), (4, .int y13), (5, .int y14), (6, .int y15)]) d9_goOnFrom_60 (Nat.le_of_ble_eq_true rfl) rfl ?_
        refine j_iload 0 rfl d9_goOnFrom_62 ?_
        refine j_iconst d9_goOnFrom_64 ejc_m1 ?_
        refine j_icmp_eq d9_goOnFrom_65 ?_ ?_
        · refine j_iinc (i := 6) (v := 1) (Ly := fun x22 => [(6, .int x22), (7, .int r21), (0, .ref (cw_a x 7)), (1, .int y10), (2, .int y11), (3, .int y12), (4, .int y13), (5, .int y14)]) 7 d9_goOnFrom_95 rfl ejc_1 (Nat.le_of_ble_eq_true rfl) (fun _ => rfl) (fun x22 => ?_)
          refine j_goto d9_goOnFrom_98 ?_
          exact j_sub [2, 3, 4, 5, 6, 7, 0] rfl (ih y10 y11 y12 y13 y14 x22 s20)
        · refine j_aload_n 1 rfl d9_goOnFrom_68 ?_
          refine j_iload 6 rfl d9_goOnFrom_69 ?_
          refine j_iconst d9_goOnFrom_71 ejc_4 ?_
          refine j_imul d9_goOnFrom_72 ?_
          refine j_aload_n 1 rfl d9_goOnFrom_73 ?_
          refine j_get fl_X9_38 (cV_g_7_1 x s20) d9_goOnFrom_74 ?_
          refine j_iload_n 3 rfl d9_goOnFrom_77 ?_
          refine j_iload_n 4 rfl d9_goOnFrom_78 ?_
          refine j_iload 7 rfl d9_goOnFrom_79 ?_
          refine j_iload 6 rfl d9_goOnFrom_81 ?_
          refine j_callVi (c5_stateBehind x n y11 y12 y15 y14 s20) lv_X9_99 (cV_rc_6 x s20) ⟨Nat.le_of_ble_eq_true rfl, Nat.le_of_ble_eq_true rfl⟩ d9_goOnFrom_83 rfl (Nat.le_of_ble_eq_true rfl) (fun r24 s23 => ?_)
          refine j_iadd d9_goOnFrom_86 ?_
          refine j_iload 0 rfl d9_goOnFrom_87 ?_
          refine j_iload_n 2 rfl d9_goOnFrom_89 ?_
          refine j_iload 7 rfl d9_goOnFrom_90 ?_
          refine j_callVv (c9_offer x n ((y14 * 4) + r24) r21 y10 y15 s23) lv_X9_102 (cV_rc_7 x s23) ⟨Nat.le_of_ble_eq_true rfl, Nat.le_of_ble_eq_true rfl⟩ d9_goOnFrom_92 rfl (Nat.le_of_ble_eq_true rfl) (fun s25 => ?_)
          refine j_iinc (i := 6) (v := 1) (Ly := fun x26 => [(6, .int x26), (7, .int r21), (0, .ref (cw_a x 7)), (1, .int y10), (2, .int y11), (3, .int y12), (4, .int y13), (5, .int y14)]) 7 d9_goOnFrom_95 rfl ejc_1 (Nat.le_of_ble_eq_true rfl) (fun _ => rfl) (fun x26 => ?_)
          refine j_goto d9_goOnFrom_98 ?_
          exact j_sub [2, 3, 4, 5, 6, 7, 0] rfl (ih y10 y11 y12 y13 y14 x26 s25)
noncomputable def m9_goOnFrom_21 (n : Nat) (k : Nat) : Int32 → Int32 → Int32 → Int32 → Int32 → ej_S → Option (ej_S) := Nat.rec (motive := fun _ => Int32 → Int32 → Int32 → Int32 → Int32 → ej_S → Option (ej_S)) (fun _ _ _ _ _ _ => none) (fun _ ih y5 y6 y7 y8 y9 σ => (if 24 ≤ y9 then (some σ) else (m9_goOnFrom_31 n ih n y5 y6 y7 y8 y9 1 σ))) k
theorem m9_goOnFrom_21_s (n : Nat) (k : Nat) (y5 : Int32) (y6 : Int32) (y7 : Int32) (y8 : Int32) (y9 : Int32) (σ : ej_S) : m9_goOnFrom_21 n (k + 1) y5 y6 y7 y8 y9 σ = ((if 24 ≤ y9 then (some σ) else (m9_goOnFrom_31 n (m9_goOnFrom_21 n k) n y5 y6 y7 y8 y9 1 σ)) : Option (ej_S)) := rfl
set_option maxRecDepth 20000 in
set_option maxHeartbeats 2000000 in
theorem j9_goOnFrom_21 (x : cw_T) (n : Nat) {F : ej_F} {r0 : ej_S} (hq : ej_fin (cV x) F none none r0) : ∀ (k : Nat) (y5 : Int32) (y6 : Int32) (y7 : Int32) (y8 : Int32) (y9 : Int32) (σ : ej_S), ej_J (cV x) F i9_goOnFrom r0 σ 21 [(0, .ref (cw_a x 7)), (1, .int y5), (2, .int y6), (3, .int y7), (4, .int y8), (5, .int y9)] [] (m9_goOnFrom_21 n k y5 y6 y7 y8 y9 σ) := by
  intro k
  induction k with
  | zero => intro y5 y6 y7 y8 y9 σ; exact j_none
  | succ k ih =>
    intro y5 y6 y7 y8 y9 σ
    rw [m9_goOnFrom_21_s]
    refine j_iload 5 rfl d9_goOnFrom_21 ?_
    refine j_bipush d9_goOnFrom_23 ejb_24 ?_
    refine j_icmp_ge d9_goOnFrom_25 ?_ ?_
    · exact j_vreturn hq d9_goOnFrom_107
    · refine j_iconst d9_goOnFrom_28 ejc_1 ?_
      refine j_istore (i := 6) (L' := [(6, .int 1), (0, .ref (cw_a x 7)), (1, .int y5), (2, .int y6), (3, .int y7), (4, .int y8), (5, .int y9)]) d9_goOnFrom_29 (Nat.le_of_ble_eq_true rfl) rfl ?_
      exact j_sub [1, 2, 3, 4, 5, 6, 0] rfl (j9_goOnFrom_31 x n hq (m9_goOnFrom_21 n k) ih n y5 y6 y7 y8 y9 1 σ)
noncomputable def m9_goOnFrom (n : Nat) (a1 : Int32) (σ : ej_S) : Option (ej_S) := ej_nm (a1 / 4) fun x1 => ej_nm (a1 - a1 / 4 * 4) fun x2 => ej_bi (m5_targetsOf n x1 σ) fun r4 s3 => (m9_goOnFrom_21 n n a1 x1 x2 r4 0 s3)
set_option maxRecDepth 20000 in
set_option maxHeartbeats 2000000 in
theorem j9_goOnFrom (x : cw_T) (n : Nat) (a1 : Int32) (σ : ej_S) {F : ej_F} {r0 : ej_S} (hq : ej_fin (cV x) F none none r0) : ej_J (cV x) F i9_goOnFrom r0 σ 0 [(0, .ref (cw_a x 7)), (1, .int a1)] [] (m9_goOnFrom n a1 σ) := by
  unfold m9_goOnFrom
  refine j_iload_n 1 rfl d9_goOnFrom_0 ?_
  refine j_iconst d9_goOnFrom_1 ejc_4 ?_
  refine j_idiv0 (by decide) d9_goOnFrom_2 ?_
  refine j_nmi (fun x1 => ?_)
  refine j_istore_n (i := 2) (L' := [(2, .int x1), (0, .ref (cw_a x 7)), (1, .int a1)]) d9_goOnFrom_3 rfl (Nat.le_of_ble_eq_true rfl) rfl ?_
  refine j_iload_n 2 rfl d9_goOnFrom_4 ?_
  refine j_iconst d9_goOnFrom_5 ejc_4 ?_
  refine j_irem0 (by decide) d9_goOnFrom_6 ?_
  refine j_nmi (fun x2 => ?_)
  refine j_istore_n (i := 3) (L' := [(3, .int x2), (2, .int x1), (0, .ref (cw_a x 7)), (1, .int a1)]) d9_goOnFrom_7 rfl (Nat.le_of_ble_eq_true rfl) rfl ?_
  refine j_aload_n 2 rfl d9_goOnFrom_8 ?_
  refine j_get fl_X9_38 (cV_g_7_1 x σ) d9_goOnFrom_9 ?_
  refine j_iload_n 1 rfl d9_goOnFrom_12 ?_
  refine j_callVi (c5_targetsOf x n x1 σ) lv_X9_89 (cV_rc_6 x σ) ⟨Nat.le_of_ble_eq_true rfl, Nat.le_of_ble_eq_true rfl⟩ d9_goOnFrom_13 rfl (Nat.le_of_ble_eq_true rfl) (fun r4 s3 => ?_)
  refine j_istore (i := 4) (L' := [(4, .int r4), (3, .int x2), (2, .int x1), (0, .ref (cw_a x 7)), (1, .int a1)]) d9_goOnFrom_16 (Nat.le_of_ble_eq_true rfl) rfl ?_
  refine j_iconst d9_goOnFrom_18 ejc_0 ?_
  refine j_istore (i := 5) (L' := [(5, .int 0), (4, .int r4), (3, .int x2), (2, .int x1), (0, .ref (cw_a x 7)), (1, .int a1)]) d9_goOnFrom_19 (Nat.le_of_ble_eq_true rfl) rfl ?_
  exact j_sub [4, 5, 3, 2, 1, 0] rfl (j9_goOnFrom_21 x n hq n a1 x1 x2 r4 0 s3)
theorem c9_goOnFrom (x : cw_T) (n : Nat) (a1 : Int32) (σ : ej_S) : ∀ σ1, m9_goOnFrom n a1 σ = some σ1 → ∀ l, ej_Con l (cV x) i9_goOnFrom yX9_goOnFrom none [.ref (cw_a x 7), .int a1] σ none σ1 := fun σ1 h l => ej_con_of (cV_ok x) pn_X9 rfl (Nat.le_of_ble_eq_true rfl) rfl h (fun F hq => j9_goOnFrom x n a1 σ hq)

noncomputable def m9_find_106 (n : Nat) (k : Nat) : Int32 → ej_S → Option (ej_S) := Nat.rec (motive := fun _ => Int32 → ej_S → Option (ej_S)) (fun _ _ => none) (fun _ ih y11 σ => (if 96 ≤ y11 then (some σ) else ej_bi (m9_nearestUnsettled n σ) fun r13 s12 => (if r13 < 0 then (some s12) else (if r13 < 96 then ej_ck r13 96 (ej_nm (uA s12 29 (r13.toNatClampNeg) (ej_bz 1)) fun s14 => ej_bv (m9_goOnFrom n r13 s14) fun s15 => ej_nm (y11 + 1) fun x16 => (ih x16 s15)) else (some s12))))) k
theorem m9_find_106_s (n : Nat) (k : Nat) (y11 : Int32) (σ : ej_S) : m9_find_106 n (k + 1) y11 σ = ((if 96 ≤ y11 then (some σ) else ej_bi (m9_nearestUnsettled n σ) fun r13 s12 => (if r13 < 0 then (some s12) else (if r13 < 96 then ej_ck r13 96 (ej_nm (uA s12 29 (r13.toNatClampNeg) (ej_bz 1)) fun s14 => ej_bv (m9_goOnFrom n r13 s14) fun s15 => ej_nm (y11 + 1) fun x16 => ((m9_find_106 n k) x16 s15)) else (some s12)))) : Option (ej_S)) := rfl
set_option maxRecDepth 20000 in
set_option maxHeartbeats 2000000 in
theorem j9_find_106 (x : cw_T) (n : Nat) {F : ej_F} {r0 : ej_S} (hq : ej_fin (cV x) F none none r0) : ∀ (k : Nat) (y11 : Int32) (σ : ej_S), ej_J (cV x) F i9_find r0 σ 106 [(0, .ref (cw_a x 7)), (3, .int y11)] [] (m9_find_106 n k y11 σ) := by
  intro k
  induction k with
  | zero => intro y11 σ; exact j_none
  | succ k ih =>
    intro y11 σ
    rw [m9_find_106_s]
    refine j_iload_n 1 rfl d9_find_106 ?_
    refine j_bipush d9_find_107 ejb_96 ?_
    refine j_icmp_ge d9_find_109 ?_ ?_
    · exact j_vreturn hq d9_find_151
    · refine j_aload_n 0 rfl d9_find_112 ?_
      refine j_callVi (c9_nearestUnsettled x n σ) lv_X9_83 (cV_rc_7 x σ) ⟨Nat.le_of_ble_eq_true rfl, Nat.le_of_ble_eq_true rfl⟩ d9_find_113 rfl (Nat.le_of_ble_eq_true rfl) (fun r13 s12 => ?_)
      refine j_istore (i := 4) (L' := [(4, .int r13), (0, .ref (cw_a x 7)), (3, .int y11)]) d9_find_116 (Nat.le_of_ble_eq_true rfl) rfl ?_
      refine j_iload 0 rfl d9_find_118 ?_
      refine j_if_lt d9_find_120 ?_ ?_
      · exact j_vreturn hq d9_find_130
      · refine j_iload 0 rfl d9_find_123 ?_
        refine j_bipush d9_find_125 ejb_96 ?_
        refine j_icmp_lt d9_find_127 ?_ ?_
        · refine j_aload_n 1 rfl d9_find_131 ?_
          refine j_get fl_X9_24 (cV_g_7_9 x s12) d9_find_132 ?_
          refine j_iload 0 rfl d9_find_135 ?_
          refine j_iconst d9_find_137 ejc_1 ?_
          refine j_zast (cV_s_51 x s12 (r13.toNatClampNeg) (ej_bz 1)) d9_find_138 (fun s14 => ?_)
          refine j_aload_n 1 rfl d9_find_139 ?_
          refine j_iload 0 rfl d9_find_140 ?_
          refine j_callVv (c9_goOnFrom x n r13 s14) lv_X9_86 (cV_rc_7 x s14) ⟨Nat.le_of_ble_eq_true rfl, Nat.le_of_ble_eq_true rfl⟩ d9_find_142 rfl (Nat.le_of_ble_eq_true rfl) (fun s15 => ?_)
          refine j_iinc (i := 3) (v := 1) (Ly := fun x16 => [(3, .int x16), (4, .int r13), (0, .ref (cw_a x 7))]) 2 d9_find_145 rfl ejc_1 (Nat.le_of_ble_eq_true rfl) (fun _ => rfl) (fun x16 => ?_)
          refine j_goto d9_find_148 ?_
          exact j_sub [2, 0] rfl (ih x16 s15)
        · exact j_vreturn hq d9_find_130
noncomputable def m9_find_15 (n : Nat) (k : Nat) : Int32 → ej_S → Option (ej_S) := Nat.rec (motive := fun _ => Int32 → ej_S → Option (ej_S)) (fun _ _ => none) (fun _ ih y2 σ => (if 96 ≤ y2 then ej_bi (m9_homeNode n σ) fun r4 s3 => ej_bv (m5_findLinksBack n r4 s3) fun s5 => (if r4 < 0 then (some s5) else (if r4 < 24 then ej_nm (r4 * 4) fun x6 => ej_ck x6 96 (ej_nm (uA s5 25 (x6.toNatClampNeg) 0) fun s7 => ej_ck x6 96 (ej_nm (uA s7 26 (x6.toNatClampNeg) 0) fun s8 => ej_ck x6 96 (ej_nm (uA s8 27 (x6.toNatClampNeg) (-1)) fun s9 => ej_ck x6 96 (ej_nm (uA s9 28 (x6.toNatClampNeg) 0) fun s10 => (m9_find_106 n n 0 s10))))) else (some s5))) else ej_ck y2 96 (ej_nm (uA σ 25 (y2.toNatClampNeg) (-1)) fun s17 => ej_ck y2 96 (ej_nm (uA s17 26 (y2.toNatClampNeg) (-1)) fun s18 => ej_ck y2 96 (ej_nm (uA s18 29 (y2.toNatClampNeg) (ej_bz 0)) fun s19 => ej_nm (y2 + 1) fun x20 => (ih x20 s19)))))) k
theorem m9_find_15_s (n : Nat) (k : Nat) (y2 : Int32) (σ : ej_S) : m9_find_15 n (k + 1) y2 σ = ((if 96 ≤ y2 then ej_bi (m9_homeNode n σ) fun r4 s3 => ej_bv (m5_findLinksBack n r4 s3) fun s5 => (if r4 < 0 then (some s5) else (if r4 < 24 then ej_nm (r4 * 4) fun x6 => ej_ck x6 96 (ej_nm (uA s5 25 (x6.toNatClampNeg) 0) fun s7 => ej_ck x6 96 (ej_nm (uA s7 26 (x6.toNatClampNeg) 0) fun s8 => ej_ck x6 96 (ej_nm (uA s8 27 (x6.toNatClampNeg) (-1)) fun s9 => ej_ck x6 96 (ej_nm (uA s9 28 (x6.toNatClampNeg) 0) fun s10 => (m9_find_106 n n 0 s10))))) else (some s5))) else ej_ck y2 96 (ej_nm (uA σ 25 (y2.toNatClampNeg) (-1)) fun s17 => ej_ck y2 96 (ej_nm (uA s17 26 (y2.toNatClampNeg) (-1)) fun s18 => ej_ck y2 96 (ej_nm (uA s18 29 (y2.toNatClampNeg) (ej_bz 0)) fun s19 => ej_nm (y2 + 1) fun x20 => ((m9_find_15 n k) x20 s19))))) : Option (ej_S)) := rfl
set_option maxRecDepth 20000 in
set_option maxHeartbeats 2000000 in
theorem j9_find_15 (x : cw_T) (n : Nat) {F : ej_F} {r0 : ej_S} (hq : ej_fin (cV x) F none none r0) : ∀ (k : Nat) (y2 : Int32) (σ : ej_S), ej_J (cV x) F i9_find r0 σ 15 [(0, .ref (cw_a x 7)), (1, .int y2)] [] (m9_find_15 n k y2 σ) := by
  intro k
  induction k with
  | zero => intro y2 σ; exact j_none
  | succ k ih =>
    intro y2 σ
    rw [m9_find_15_s]
    refine j_iload_n 1 rfl d9_find_15 ?_
    refine j_bipush d9_find_16 ejb_96 ?_
    refine j_icmp_ge d9_find_18 ?_ ?_
    · refine j_aload_n 0 rfl d9_find_48 ?_
      refine j_callVi (c9_homeNode x n σ) lv_X9_73 (cV_rc_7 x σ) ⟨Nat.le_of_ble_eq_true rfl, Nat.le_of_ble_eq_true rfl⟩ d9_find_49 rfl (Nat.le_of_ble_eq_true rfl) (fun r4 s3 => ?_)
      refine j_istore_n (i := 1) (L' := [(1, .int r4), (0, .ref (cw_a x 7))]) d9_find_52 rfl (Nat.le_of_ble_eq_true rfl) rfl ?_
      refine j_aload_n 1 rfl d9_find_53 ?_
      refine j_get fl_X9_38 (cV_g_7_1 x s3) d9_find_54 ?_
      refine j_iload_n 0 rfl d9_find_57 ?_
      refine j_callVv (c5_findLinksBack x n r4 s3) lv_X9_77 (cV_rc_6 x s3) ⟨Nat.le_of_ble_eq_true rfl, Nat.le_of_ble_eq_true rfl⟩ d9_find_58 rfl (Nat.le_of_ble_eq_true rfl) (fun s5 => ?_)
      refine j_iload_n 0 rfl d9_find_61 ?_
      refine j_if_lt d9_find_62 ?_ ?_
      · exact j_vreturn hq d9_find_71
      · refine j_iload_n 0 rfl d9_find_65 ?_
        refine j_bipush d9_find_66 ejb_24 ?_
        refine j_icmp_lt d9_find_68 ?_ ?_
        · refine j_iload_n 0 rfl d9_find_72 ?_
          refine j_iconst d9_find_73 ejc_4 ?_
          refine j_imul d9_find_74 ?_
          refine j_nmi (fun x6 => ?_)
          refine j_istore_n (i := 2) (L' := [(2, .int x6), (1, .int r4), (0, .ref (cw_a x 7))]) d9_find_75 rfl (Nat.le_of_ble_eq_true rfl) rfl ?_
          refine j_aload_n 2 rfl d9_find_76 ?_
          refine j_get fl_X9_9 (cV_g_7_5 x s5) d9_find_77 ?_
          refine j_iload_n 0 rfl d9_find_80 ?_
          refine j_iconst d9_find_81 ejc_0 ?_
          refine j_iast (cV_s_47 x s5 (x6.toNatClampNeg) 0) d9_find_82 (fun s7 => ?_)
          refine j_aload_n 2 rfl d9_find_83 ?_
          refine j_get fl_X9_15 (cV_g_7_6 x s7) d9_find_84 ?_
          refine j_iload_n 0 rfl d9_find_87 ?_
          refine j_iconst d9_find_88 ejc_0 ?_
          refine j_iast (cV_s_48 x s7 (x6.toNatClampNeg) 0) d9_find_89 (fun s8 => ?_)
          refine j_aload_n 2 rfl d9_find_90 ?_
          refine j_get fl_X9_18 (cV_g_7_7 x s8) d9_find_91 ?_
          refine j_iload_n 0 rfl d9_find_94 ?_
          refine j_iconst d9_find_95 ejc_m1 ?_
          refine j_iast (cV_s_49 x s8 (x6.toNatClampNeg) (-1)) d9_find_96 (fun s9 => ?_)
          refine j_aload_n 2 rfl d9_find_97 ?_
          refine j_get fl_X9_21 (cV_g_7_8 x s9) d9_find_98 ?_
          refine j_iload_n 0 rfl d9_find_101 ?_
          refine j_iconst d9_find_102 ejc_0 ?_
          refine j_iast (cV_s_50 x s9 (x6.toNatClampNeg) 0) d9_find_103 (fun s10 => ?_)
          refine j_iconst d9_find_104 ejc_0 ?_
          refine j_istore_n (i := 3) (L' := [(3, .int 0), (2, .int x6), (1, .int r4), (0, .ref (cw_a x 7))]) d9_find_105 rfl (Nat.le_of_ble_eq_true rfl) rfl ?_
          exact j_sub [3, 0] rfl (j9_find_106 x n hq n 0 s10)
        · exact j_vreturn hq d9_find_71
    · refine j_aload_n 0 rfl d9_find_21 ?_
      refine j_get fl_X9_9 (cV_g_7_5 x σ) d9_find_22 ?_
      refine j_iload_n 1 rfl d9_find_25 ?_
      refine j_iconst d9_find_26 ejc_m1 ?_
      refine j_iast (cV_s_47 x σ (y2.toNatClampNeg) (-1)) d9_find_27 (fun s17 => ?_)
      refine j_aload_n 0 rfl d9_find_28 ?_
      refine j_get fl_X9_15 (cV_g_7_6 x s17) d9_find_29 ?_
      refine j_iload_n 1 rfl d9_find_32 ?_
      refine j_iconst d9_find_33 ejc_m1 ?_
      refine j_iast (cV_s_48 x s17 (y2.toNatClampNeg) (-1)) d9_find_34 (fun s18 => ?_)
      refine j_aload_n 0 rfl d9_find_35 ?_
      refine j_get fl_X9_24 (cV_g_7_9 x s18) d9_find_36 ?_
      refine j_iload_n 1 rfl d9_find_39 ?_
      refine j_iconst d9_find_40 ejc_0 ?_
      refine j_zast (cV_s_51 x s18 (y2.toNatClampNeg) (ej_bz 0)) d9_find_41 (fun s19 => ?_)
      refine j_iinc (i := 1) (v := 1) (Ly := fun x20 => [(1, .int x20), (0, .ref (cw_a x 7))]) 1 d9_find_42 rfl ejc_1 (Nat.le_of_ble_eq_true rfl) (fun _ => rfl) (fun x20 => ?_)
      refine j_goto d9_find_45 ?_
      exact j_sub [1, 0] rfl (ih x20 s19)
noncomputable def m9_find (n : Nat)  (σ : ej_S) : Option (ej_S) := (if gI σ 34 = 0 then ej_nm (uI σ 34 1) fun s1 => (m9_find_15 n n 0 s1) else (some σ))
set_option maxRecDepth 20000 in
set_option maxHeartbeats 2000000 in
theorem j9_find (x : cw_T) (n : Nat)  (σ : ej_S) {F : ej_F} {r0 : ej_S} (hq : ej_fin (cV x) F none none r0) : ej_J (cV x) F i9_find r0 σ 0 [(0, .ref (cw_a x 7))] [] (m9_find n  σ) := by
  unfold m9_find
  refine j_aload_n 0 rfl d9_find_0 ?_
  refine j_get fl_X9_49 (cV_g_7_3 x σ) d9_find_1 ?_
  refine j_if_eq d9_find_4 ?_ ?_
  · refine j_aload_n 0 rfl d9_find_8 ?_
    refine j_iconst d9_find_9 ejc_1 ?_
    refine j_put fl_X9_49 (cV_p_7_3 x σ 1) rfl rfl d9_find_10 (fun s1 => ?_)
    refine j_iconst d9_find_13 ejc_0 ?_
    refine j_istore_n (i := 1) (L' := [(1, .int 0), (0, .ref (cw_a x 7))]) d9_find_14 rfl (Nat.le_of_ble_eq_true rfl) rfl ?_
    exact j_sub [1, 0] rfl (j9_find_15 x n hq n 0 s1)
  · exact j_vreturn hq d9_find_7
theorem c9_find (x : cw_T) (n : Nat)  (σ : ej_S) : ∀ σ1, m9_find n  σ = some σ1 → ∀ l, ej_Con l (cV x) i9_find yX9_find none [.ref (cw_a x 7)] σ none σ1 := fun σ1 h l => ej_con_of (cV_ok x) pn_X9 rfl (Nat.le_of_ble_eq_true rfl) rfl h (fun F hq => j9_find x n  σ hq)

noncomputable def m9_lessen (n : Nat) (a1 : Int32) (a2 : Int32) (σ : ej_S) : Option (Int32 × ej_S) := (if a1 < 0 then (some (0, σ)) else (if 96 ≤ a1 then (some (0, σ)) else ej_ck a1 96 ((if gA σ 30 a1.toNatClampNeg = (-1) then ej_ck a1 96 (ej_nm (uA σ 30 (a1.toNatClampNeg) a2) fun s1 => (some (1, s1))) else ej_ck a1 96 ((if a2 < gA σ 30 a1.toNatClampNeg then ej_ck a1 96 (ej_nm (uA σ 30 (a1.toNatClampNeg) a2) fun s2 => (some (1, s2))) else (some (0, σ))))))))
set_option maxRecDepth 20000 in
set_option maxHeartbeats 2000000 in
theorem j9_lessen (x : cw_T) (n : Nat) (a1 : Int32) (a2 : Int32) (σ : ej_S) {F : ej_F} {r0 : Int32 × ej_S} (hq : ej_fin (cV x) F (some .boolean) (some (.int r0.1)) r0.2) : ej_J (cV x) F i9_lessen r0 σ 0 [(0, .ref (cw_a x 7)), (1, .int a1), (2, .int a2)] [] (m9_lessen n a1 a2 σ) := by
  unfold m9_lessen
  refine j_iload_n 1 rfl d9_lessen_0 ?_
  refine j_if_lt d9_lessen_1 ?_ ?_
  · refine j_iconst d9_lessen_30 ejc_0 ?_
    exact j_zreturn0 hq d9_lessen_31
  · refine j_iload_n 1 rfl d9_lessen_4 ?_
    refine j_bipush d9_lessen_5 ejb_96 ?_
    refine j_icmp_ge d9_lessen_7 ?_ ?_
    · refine j_iconst d9_lessen_30 ejc_0 ?_
      exact j_zreturn0 hq d9_lessen_31
    · refine j_aload_n 0 rfl d9_lessen_10 ?_
      refine j_get fl_X9_28 (cV_g_7_10 x σ) d9_lessen_11 ?_
      refine j_iload_n 1 rfl d9_lessen_14 ?_
      refine j_iald (cV_a_52 x σ) d9_lessen_15 ?_
      refine j_iconst d9_lessen_16 ejc_m1 ?_
      refine j_icmp_eq d9_lessen_17 ?_ ?_
      · refine j_aload_n 0 rfl d9_lessen_32 ?_
        refine j_get fl_X9_28 (cV_g_7_10 x σ) d9_lessen_33 ?_
        refine j_iload_n 1 rfl d9_lessen_36 ?_
        refine j_iload_n 2 rfl d9_lessen_37 ?_
        refine j_iast (cV_s_52 x σ (a1.toNatClampNeg) a2) d9_lessen_38 (fun s1 => ?_)
        refine j_iconst d9_lessen_39 ejc_1 ?_
        exact j_zreturn1 hq d9_lessen_40
      · refine j_aload_n 0 rfl d9_lessen_20 ?_
        refine j_get fl_X9_28 (cV_g_7_10 x σ) d9_lessen_21 ?_
        refine j_iload_n 1 rfl d9_lessen_24 ?_
        refine j_iald (cV_a_52 x σ) d9_lessen_25 ?_
        refine j_iload_n 2 rfl d9_lessen_26 ?_
        refine j_icmp_gt d9_lessen_27 ?_ ?_
        · refine j_aload_n 0 rfl d9_lessen_32 ?_
          refine j_get fl_X9_28 (cV_g_7_10 x σ) d9_lessen_33 ?_
          refine j_iload_n 1 rfl d9_lessen_36 ?_
          refine j_iload_n 2 rfl d9_lessen_37 ?_
          refine j_iast (cV_s_52 x σ (a1.toNatClampNeg) a2) d9_lessen_38 (fun s2 => ?_)
          refine j_iconst d9_lessen_39 ejc_1 ?_
          exact j_zreturn1 hq d9_lessen_40
        · refine j_iconst d9_lessen_30 ejc_0 ?_
          exact j_zreturn0 hq d9_lessen_31
theorem c9_lessen (x : cw_T) (n : Nat) (a1 : Int32) (a2 : Int32) (σ : ej_S) : ∀ r σ1, m9_lessen n a1 a2 σ = some (r, σ1) → ∀ l, ej_Con l (cV x) i9_lessen yX9_lessen (some .boolean) [.ref (cw_a x 7), .int a1, .int a2] σ (some (.int r)) σ1 := fun r σ1 h l => ej_con_of (cV_ok x) pn_X9 rfl (Nat.le_of_ble_eq_true rfl) rfl h (fun F hq => j9_lessen x n a1 a2 σ hq)

noncomputable def m9_lessenFrom_35 (n : Nat) (f25 : Int32 → Int32 → Int32 → Int32 → Int32 → Int32 → ej_S → Option (Int32 × ej_S)) (k : Nat) : Int32 → Int32 → Int32 → Int32 → Int32 → Int32 → Int32 → ej_S → Option (Int32 × ej_S) := Nat.rec (motive := fun _ => Int32 → Int32 → Int32 → Int32 → Int32 → Int32 → Int32 → ej_S → Option (Int32 × ej_S)) (fun _ _ _ _ _ _ _ _ => none) (fun _ ih y11 y12 y13 y14 y15 y16 y17 σ => (if 5 < y17 then ej_nm (y16 + 1) fun x18 => (f25 y11 y12 y13 y14 y15 x18 σ) else ej_bi (m10_holds n y14 y16 σ) fun r20 s19 => (if r20 = 0 then ej_nm (y16 + 1) fun x21 => (f25 y11 y12 y13 y14 y15 x21 s19) else ej_bi (m5_costOf n y12 y13 y17 y16 s19) fun r23 s22 => (if r23 = (-1) then ej_nm (y17 + 1) fun x24 => (ih y11 y12 y13 y14 y15 y16 x24 s22) else ej_bi (m5_stateBehind n y12 y13 y17 y16 s22) fun r26 s25 => ej_bi (m9_lessen n ((y16 * 4) + r26) (y11 + r23) s25) fun r28 s27 => ej_nm (y15 ||| r28) fun x29 => ej_nm (y17 + 1) fun x30 => (ih y11 y12 y13 y14 x29 y16 x30 s27))))) k
theorem m9_lessenFrom_35_s (n : Nat) (f25 : Int32 → Int32 → Int32 → Int32 → Int32 → Int32 → ej_S → Option (Int32 × ej_S)) (k : Nat) (y11 : Int32) (y12 : Int32) (y13 : Int32) (y14 : Int32) (y15 : Int32) (y16 : Int32) (y17 : Int32) (σ : ej_S) : m9_lessenFrom_35 n f25 (k + 1) y11 y12 y13 y14 y15 y16 y17 σ = ((if 5 < y17 then ej_nm (y16 + 1) fun x18 => (f25 y11 y12 y13 y14 y15 x18 σ) else ej_bi (m10_holds n y14 y16 σ) fun r20 s19 => (if r20 = 0 then ej_nm (y16 + 1) fun x21 => (f25 y11 y12 y13 y14 y15 x21 s19) else ej_bi (m5_costOf n y12 y13 y17 y16 s19) fun r23 s22 => (if r23 = (-1) then ej_nm (y17 + 1) fun x24 => ((m9_lessenFrom_35 n f25 k) y11 y12 y13 y14 y15 y16 x24 s22) else ej_bi (m5_stateBehind n y12 y13 y17 y16 s22) fun r26 s25 => ej_bi (m9_lessen n ((y16 * 4) + r26) (y11 + r23) s25) fun r28 s27 => ej_nm (y15 ||| r28) fun x29 => ej_nm (y17 + 1) fun x30 => ((m9_lessenFrom_35 n f25 k) y11 y12 y13 y14 x29 y16 x30 s27)))) : Option (Int32 × ej_S)) := rfl
set_option maxRecDepth 20000 in
set_option maxHeartbeats 2000000 in
theorem j9_lessenFrom_35 (x : cw_T) (n : Nat) {F : ej_F} {r0 : Int32 × ej_S} (hq : ej_fin (cV x) F (some .boolean) (some (.int r0.1)) r0.2) (f25 : Int32 → Int32 → Int32 → Int32 → Int32 → Int32 → ej_S → Option (Int32 × ej_S)) (H25 : ∀ (y5 : Int32) (y6 : Int32) (y7 : Int32) (y8 : Int32) (y9 : Int32) (y10 : Int32) (σ : ej_S), ej_J (cV x) F i9_lessenFrom r0 σ 25 [(0, .ref (cw_a x 7)), (2, .int y5), (3, .int y6), (4, .int y7), (5, .int y8), (6, .int y9), (7, .int y10)] [] (f25 y5 y6 y7 y8 y9 y10 σ)) : ∀ (k : Nat) (y11 : Int32) (y12 : Int32) (y13 : Int32) (y14 : Int32) (y15 : Int32) (y16 : Int32) (y17 : Int32) (σ : ej_S), ej_J (cV x) F i9_lessenFrom r0 σ 35 [(0, .ref (cw_a x 7)), (2, .int y11), (3, .int y12), (4, .int y13), (5, .int y14), (6, .int y15), (7, .int y16), (8, .int y17)] [] (m9_lessenFrom_35 n f25 k y11 y12 y13 y14 y15 y16 y17 σ) := by
  intro k
  induction k with
  | zero => intro y11 y12 y13 y14 y15 y16 y17 σ; exact j_none
  | succ k ih =>
    intro y11 y12 y13 y14 y15 y16 y17 σ
    rw [m9_lessenFrom_35_s]
    refine j_iload 7 rfl d9_lessenFrom_35 ?_
    refine j_iconst d9_lessenFrom_37 ejc_5 ?_
    refine j_icmp_gt d9_lessenFrom_38 ?_ ?_
    · refine j_iinc (i := 7) (v := 1) (Ly := fun x18 => [(7, .int x18), (0, .ref (cw_a x 7)), (2, .int y11), (3, .int y12), (4, .int y13), (5, .int y14), (6, .int y15), (8, .int y17)]) 6 d9_lessenFrom_111 rfl ejc_1 (Nat.le_of_ble_eq_true rfl) (fun _ => rfl) (fun x18 => ?_)
      refine j_goto d9_lessenFrom_114 ?_
      exact j_sub [1, 2, 3, 4, 5, 6, 0] rfl (H25 y11 y12 y13 y14 y15 x18 σ)
    · refine j_iload 4 rfl d9_lessenFrom_41 ?_
      refine j_iload 6 rfl d9_lessenFrom_43 ?_
      refine j_callNi (c10_holds x n y14 y16 σ) (ln_X9_92 x) ⟨Nat.le_of_ble_eq_true rfl, Nat.le_of_ble_eq_true rfl⟩ d9_lessenFrom_45 rfl (Nat.le_of_ble_eq_true rfl) (fun r20 s19 => ?_)
      refine j_if_eq d9_lessenFrom_48 ?_ ?_
      · refine j_iinc (i := 7) (v := 1) (Ly := fun x21 => [(7, .int x21), (0, .ref (cw_a x 7)), (2, .int y11), (3, .int y12), (4, .int y13), (5, .int y14), (6, .int y15), (8, .int y17)]) 6 d9_lessenFrom_111 rfl ejc_1 (Nat.le_of_ble_eq_true rfl) (fun _ => rfl) (fun x21 => ?_)
        refine j_goto d9_lessenFrom_114 ?_
        exact j_sub [1, 2, 3, 4, 5, 6, 0] rfl (H25 y11 y12 y13 y14 y15 x21 s19)
      · refine j_aload_n 0 rfl d9_lessenFrom_51 ?_
        refine j_get fl_X9_38 (cV_g_7_1 x s19) d9_lessenFrom_52 ?_
        refine j_iload_n 2 rfl d9_lessenFrom_55 ?_
        refine j_iload 3 rfl d9_lessenFrom_56 ?_
        refine j_iload 7 rfl d9_lessenFrom_58 ?_
        refine j_iload 6 rfl d9_lessenFrom_60 ?_
        refine j_callVi (c5_costOf x n y12 y13 y17 y16 s19) lv_X9_95 (cV_rc_6 x s19) ⟨Nat.le_of_ble_eq_true rfl, Nat.le_of_ble_eq_true rfl⟩ d9_lessenFrom_62 rfl (Nat.le_of_ble_eq_true rfl) (fun r23 s22 => ?_)
        refine j_istore (i := 9) (L' := [(9, .int r23), (0, .ref (cw_a x 7)), (2, .int y11), (3, .int y12), (4, .int y13), (5, .int y14), (6, .int y15), (7, .int y16), (8, .int y17)]) d9_lessenFrom_65 (Nat.le_of_ble_eq_true rfl) rfl ?_
        refine j_iload 0 rfl d9_lessenFrom_67 ?_
        refine j_iconst d9_lessenFrom_69 ejc_m1 ?_
        refine j_icmp_eq d9_lessenFrom_70 ?_ ?_
        · refine j_iinc (i := 8) (v := 1) (Ly := fun x24 => [(8, .int x24), (9, .int r23), (0, .ref (cw_a x 7)), (2, .int y11), (3, .int y12), (4, .int y13), (5, .int y14), (6, .int y15), (7, .int y16)]) 8 d9_lessenFrom_105 rfl ejc_1 (Nat.le_of_ble_eq_true rfl) (fun _ => rfl) (fun x24 => ?_)
          refine j_goto d9_lessenFrom_108 ?_
          exact j_sub [2, 3, 4, 5, 6, 7, 8, 0] rfl (ih y11 y12 y13 y14 y15 y16 x24 s22)
        · refine j_iload 6 rfl d9_lessenFrom_73 ?_
          refine j_aload_n 1 rfl d9_lessenFrom_75 ?_
          refine j_iload 7 rfl d9_lessenFrom_76 ?_
          refine j_iconst d9_lessenFrom_78 ejc_4 ?_
          refine j_imul d9_lessenFrom_79 ?_
          refine j_aload_n 1 rfl d9_lessenFrom_80 ?_
          refine j_get fl_X9_38 (cV_g_7_1 x s22) d9_lessenFrom_81 ?_
          refine j_iload_n 3 rfl d9_lessenFrom_84 ?_
          refine j_iload 4 rfl d9_lessenFrom_85 ?_
          refine j_iload 8 rfl d9_lessenFrom_87 ?_
          refine j_iload 7 rfl d9_lessenFrom_89 ?_
          refine j_callVi (c5_stateBehind x n y12 y13 y17 y16 s22) lv_X9_99 (cV_rc_6 x s22) ⟨Nat.le_of_ble_eq_true rfl, Nat.le_of_ble_eq_true rfl⟩ d9_lessenFrom_91 rfl (Nat.le_of_ble_eq_true rfl) (fun r26 s25 => ?_)
          refine j_iadd d9_lessenFrom_94 ?_
          refine j_iload_n 2 rfl d9_lessenFrom_95 ?_
          refine j_iload 0 rfl d9_lessenFrom_96 ?_
          refine j_iadd d9_lessenFrom_98 ?_
          refine j_callVi (c9_lessen x n ((y16 * 4) + r26) (y11 + r23) s25) lv_X9_109 (cV_rc_7 x s25) ⟨Nat.le_of_ble_eq_true rfl, Nat.le_of_ble_eq_true rfl⟩ d9_lessenFrom_99 rfl (Nat.le_of_ble_eq_true rfl) (fun r28 s27 => ?_)
          refine j_ior d9_lessenFrom_102 ?_
          refine j_nmi (fun x29 => ?_)
          refine j_istore (i := 6) (L' := [(6, .int x29), (9, .int r23), (0, .ref (cw_a x 7)), (2, .int y11), (3, .int y12), (4, .int y13), (5, .int y14), (7, .int y16), (8, .int y17)]) d9_lessenFrom_103 (Nat.le_of_ble_eq_true rfl) rfl ?_
          refine j_iinc (i := 8) (v := 1) (Ly := fun x30 => [(8, .int x30), (6, .int x29), (9, .int r23), (0, .ref (cw_a x 7)), (2, .int y11), (3, .int y12), (4, .int y13), (5, .int y14), (7, .int y16)]) 8 d9_lessenFrom_105 rfl ejc_1 (Nat.le_of_ble_eq_true rfl) (fun _ => rfl) (fun x30 => ?_)
          refine j_goto d9_lessenFrom_108 ?_
          exact j_sub [3, 4, 5, 6, 7, 1, 8, 0] rfl (ih y11 y12 y13 y14 x29 y16 x30 s27)
noncomputable def m9_lessenFrom_25 (n : Nat) (k : Nat) : Int32 → Int32 → Int32 → Int32 → Int32 → Int32 → ej_S → Option (Int32 × ej_S) := Nat.rec (motive := fun _ => Int32 → Int32 → Int32 → Int32 → Int32 → Int32 → ej_S → Option (Int32 × ej_S)) (fun _ _ _ _ _ _ _ => none) (fun _ ih y5 y6 y7 y8 y9 y10 σ => (if 24 ≤ y10 then (some (ej_bz y9, σ)) else (m9_lessenFrom_35 n ih n y5 y6 y7 y8 y9 y10 1 σ))) k
theorem m9_lessenFrom_25_s (n : Nat) (k : Nat) (y5 : Int32) (y6 : Int32) (y7 : Int32) (y8 : Int32) (y9 : Int32) (y10 : Int32) (σ : ej_S) : m9_lessenFrom_25 n (k + 1) y5 y6 y7 y8 y9 y10 σ = ((if 24 ≤ y10 then (some (ej_bz y9, σ)) else (m9_lessenFrom_35 n (m9_lessenFrom_25 n k) n y5 y6 y7 y8 y9 y10 1 σ)) : Option (Int32 × ej_S)) := rfl
set_option maxRecDepth 20000 in
set_option maxHeartbeats 2000000 in
theorem j9_lessenFrom_25 (x : cw_T) (n : Nat) {F : ej_F} {r0 : Int32 × ej_S} (hq : ej_fin (cV x) F (some .boolean) (some (.int r0.1)) r0.2) : ∀ (k : Nat) (y5 : Int32) (y6 : Int32) (y7 : Int32) (y8 : Int32) (y9 : Int32) (y10 : Int32) (σ : ej_S), ej_J (cV x) F i9_lessenFrom r0 σ 25 [(0, .ref (cw_a x 7)), (2, .int y5), (3, .int y6), (4, .int y7), (5, .int y8), (6, .int y9), (7, .int y10)] [] (m9_lessenFrom_25 n k y5 y6 y7 y8 y9 y10 σ) := by
  intro k
  induction k with
  | zero => intro y5 y6 y7 y8 y9 y10 σ; exact j_none
  | succ k ih =>
    intro y5 y6 y7 y8 y9 y10 σ
    rw [m9_lessenFrom_25_s]
    refine j_iload 6 rfl d9_lessenFrom_25 ?_
    refine j_bipush d9_lessenFrom_27 ejb_24 ?_
    refine j_icmp_ge d9_lessenFrom_29 ?_ ?_
    · refine j_iload 5 rfl d9_lessenFrom_117 ?_
      exact j_zreturn hq d9_lessenFrom_119
    · refine j_iconst d9_lessenFrom_32 ejc_1 ?_
      refine j_istore (i := 8) (L' := [(8, .int 1), (0, .ref (cw_a x 7)), (2, .int y5), (3, .int y6), (4, .int y7), (5, .int y8), (6, .int y9), (7, .int y10)]) d9_lessenFrom_33 (Nat.le_of_ble_eq_true rfl) rfl ?_
      exact j_sub [1, 2, 3, 4, 5, 6, 7, 0] rfl (j9_lessenFrom_35 x n hq (m9_lessenFrom_25 n k) ih n y5 y6 y7 y8 y9 y10 1 σ)
noncomputable def m9_lessenFrom (n : Nat) (a1 : Int32) (a2 : Int32) (σ : ej_S) : Option (Int32 × ej_S) := ej_nm (a1 / 4) fun x1 => ej_nm (a1 - a1 / 4 * 4) fun x2 => ej_bi (m5_targetsOf n x1 σ) fun r4 s3 => (m9_lessenFrom_25 n n a2 x1 x2 r4 0 0 s3)
set_option maxRecDepth 20000 in
set_option maxHeartbeats 2000000 in
theorem j9_lessenFrom (x : cw_T) (n : Nat) (a1 : Int32) (a2 : Int32) (σ : ej_S) {F : ej_F} {r0 : Int32 × ej_S} (hq : ej_fin (cV x) F (some .boolean) (some (.int r0.1)) r0.2) : ej_J (cV x) F i9_lessenFrom r0 σ 0 [(0, .ref (cw_a x 7)), (1, .int a1), (2, .int a2)] [] (m9_lessenFrom n a1 a2 σ) := by
  unfold m9_lessenFrom
  refine j_iload_n 1 rfl d9_lessenFrom_0 ?_
  refine j_iconst d9_lessenFrom_1 ejc_4 ?_
  refine j_idiv0 (by decide) d9_lessenFrom_2 ?_
  refine j_nmi (fun x1 => ?_)
  refine j_istore_n (i := 3) (L' := [(3, .int x1), (0, .ref (cw_a x 7)), (1, .int a1), (2, .int a2)]) d9_lessenFrom_3 rfl (Nat.le_of_ble_eq_true rfl) rfl ?_
  refine j_iload_n 2 rfl d9_lessenFrom_4 ?_
  refine j_iconst d9_lessenFrom_5 ejc_4 ?_
  refine j_irem0 (by decide) d9_lessenFrom_6 ?_
  refine j_nmi (fun x2 => ?_)
  refine j_istore (i := 4) (L' := [(4, .int x2), (3, .int x1), (0, .ref (cw_a x 7)), (1, .int a1), (2, .int a2)]) d9_lessenFrom_7 (Nat.le_of_ble_eq_true rfl) rfl ?_
  refine j_aload_n 2 rfl d9_lessenFrom_9 ?_
  refine j_get fl_X9_38 (cV_g_7_1 x σ) d9_lessenFrom_10 ?_
  refine j_iload_n 1 rfl d9_lessenFrom_13 ?_
  refine j_callVi (c5_targetsOf x n x1 σ) lv_X9_89 (cV_rc_6 x σ) ⟨Nat.le_of_ble_eq_true rfl, Nat.le_of_ble_eq_true rfl⟩ d9_lessenFrom_14 rfl (Nat.le_of_ble_eq_true rfl) (fun r4 s3 => ?_)
  refine j_istore (i := 5) (L' := [(5, .int r4), (4, .int x2), (3, .int x1), (0, .ref (cw_a x 7)), (1, .int a1), (2, .int a2)]) d9_lessenFrom_17 (Nat.le_of_ble_eq_true rfl) rfl ?_
  refine j_iconst d9_lessenFrom_19 ejc_0 ?_
  refine j_istore (i := 6) (L' := [(6, .int 0), (5, .int r4), (4, .int x2), (3, .int x1), (0, .ref (cw_a x 7)), (1, .int a1), (2, .int a2)]) d9_lessenFrom_20 (Nat.le_of_ble_eq_true rfl) rfl ?_
  refine j_iconst d9_lessenFrom_22 ejc_0 ?_
  refine j_istore (i := 7) (L' := [(7, .int 0), (6, .int 0), (5, .int r4), (4, .int x2), (3, .int x1), (0, .ref (cw_a x 7)), (1, .int a1), (2, .int a2)]) d9_lessenFrom_23 (Nat.le_of_ble_eq_true rfl) rfl ?_
  exact j_sub [5, 7, 4, 3, 2, 1, 0] rfl (j9_lessenFrom_25 x n hq n a2 x1 x2 r4 0 0 s3)
theorem c9_lessenFrom (x : cw_T) (n : Nat) (a1 : Int32) (a2 : Int32) (σ : ej_S) : ∀ r σ1, m9_lessenFrom n a1 a2 σ = some (r, σ1) → ∀ l, ej_Con l (cV x) i9_lessenFrom yX9_lessenFrom (some .boolean) [.ref (cw_a x 7), .int a1, .int a2] σ (some (.int r)) σ1 := fun r σ1 h l => ej_con_of (cV_ok x) pn_X9 rfl (Nat.le_of_ble_eq_true rfl) rfl h (fun F hq => j9_lessenFrom x n a1 a2 σ hq)

noncomputable def m9_findByRounds_78 (n : Nat) (f63 : Int32 → Int32 → ej_S → Option (ej_S)) (k : Nat) : Int32 → Int32 → Int32 → ej_S → Option (ej_S) := Nat.rec (motive := fun _ => Int32 → Int32 → Int32 → ej_S → Option (ej_S)) (fun _ _ _ _ => none) (fun _ ih y8 y9 y10 σ => (if 96 ≤ y10 then ej_nm (y9 + 1) fun x11 => (f63 y8 x11 σ) else ej_ck y10 96 ((if gA σ 30 y10.toNatClampNeg = (-1) then ej_nm (y10 + 1) fun x12 => (ih y8 y9 x12 σ) else ej_ck y10 96 (ej_bi (m9_lessenFrom n y10 (gA σ 30 y10.toNatClampNeg) σ) fun r14 s13 => ej_nm (y8 ||| r14) fun x15 => ej_nm (y10 + 1) fun x16 => (ih x15 y9 x16 s13)))))) k
theorem m9_findByRounds_78_s (n : Nat) (f63 : Int32 → Int32 → ej_S → Option (ej_S)) (k : Nat) (y8 : Int32) (y9 : Int32) (y10 : Int32) (σ : ej_S) : m9_findByRounds_78 n f63 (k + 1) y8 y9 y10 σ = ((if 96 ≤ y10 then ej_nm (y9 + 1) fun x11 => (f63 y8 x11 σ) else ej_ck y10 96 ((if gA σ 30 y10.toNatClampNeg = (-1) then ej_nm (y10 + 1) fun x12 => ((m9_findByRounds_78 n f63 k) y8 y9 x12 σ) else ej_ck y10 96 (ej_bi (m9_lessenFrom n y10 (gA σ 30 y10.toNatClampNeg) σ) fun r14 s13 => ej_nm (y8 ||| r14) fun x15 => ej_nm (y10 + 1) fun x16 => ((m9_findByRounds_78 n f63 k) x15 y9 x16 s13))))) : Option (ej_S)) := rfl
set_option maxRecDepth 20000 in
set_option maxHeartbeats 2000000 in
theorem j9_findByRounds_78 (x : cw_T) (n : Nat) {F : ej_F} {r0 : ej_S} (hq : ej_fin (cV x) F none none r0) (f63 : Int32 → Int32 → ej_S → Option (ej_S)) (H63 : ∀ (y6 : Int32) (y7 : Int32) (σ : ej_S), ej_J (cV x) F i9_findByRounds r0 σ 63 [(0, .ref (cw_a x 7)), (2, .int y6), (3, .int y7)] [] (f63 y6 y7 σ)) : ∀ (k : Nat) (y8 : Int32) (y9 : Int32) (y10 : Int32) (σ : ej_S), ej_J (cV x) F i9_findByRounds r0 σ 78 [(0, .ref (cw_a x 7)), (2, .int y8), (3, .int y9), (4, .int y10)] [] (m9_findByRounds_78 n f63 k y8 y9 y10 σ) := by
  intro k
  induction k with
  | zero => intro y8 y9 y10 σ; exact j_none
  | succ k ih =>
    intro y8 y9 y10 σ
    rw [m9_findByRounds_78_s]
    refine j_iload 3 rfl d9_findByRounds_78 ?_
    refine j_bipush d9_findByRounds_80 ejb_96 ?_
    refine j_icmp_ge d9_findByRounds_82 ?_ ?_
    · refine j_iinc (i := 3) (v := 1) (Ly := fun x11 => [(3, .int x11), (0, .ref (cw_a x 7)), (2, .int y8), (4, .int y10)]) 2 d9_findByRounds_118 rfl ejc_1 (Nat.le_of_ble_eq_true rfl) (fun _ => rfl) (fun x11 => ?_)
      refine j_goto d9_findByRounds_121 ?_
      exact j_sub [1, 2, 0] rfl (H63 y8 x11 σ)
    · refine j_aload_n 0 rfl d9_findByRounds_85 ?_
      refine j_get fl_X9_28 (cV_g_7_10 x σ) d9_findByRounds_86 ?_
      refine j_iload 3 rfl d9_findByRounds_89 ?_
      refine j_iald (cV_a_52 x σ) d9_findByRounds_91 ?_
      refine j_iconst d9_findByRounds_92 ejc_m1 ?_
      refine j_icmp_eq d9_findByRounds_93 ?_ ?_
      · refine j_iinc (i := 4) (v := 1) (Ly := fun x12 => [(4, .int x12), (0, .ref (cw_a x 7)), (2, .int y8), (3, .int y9)]) 3 d9_findByRounds_112 rfl ejc_1 (Nat.le_of_ble_eq_true rfl) (fun _ => rfl) (fun x12 => ?_)
        refine j_goto d9_findByRounds_115 ?_
        exact j_sub [1, 2, 3, 0] rfl (ih y8 y9 x12 σ)
      · refine j_iload_n 1 rfl d9_findByRounds_96 ?_
        refine j_aload_n 0 rfl d9_findByRounds_97 ?_
        refine j_iload 3 rfl d9_findByRounds_98 ?_
        refine j_aload_n 0 rfl d9_findByRounds_100 ?_
        refine j_get fl_X9_28 (cV_g_7_10 x σ) d9_findByRounds_101 ?_
        refine j_iload 3 rfl d9_findByRounds_104 ?_
        refine j_iald (cV_a_52 x σ) d9_findByRounds_106 ?_
        refine j_callVi (c9_lessenFrom x n y10 (gA σ 30 y10.toNatClampNeg) σ) lv_X9_106 (cV_rc_7 x σ) ⟨Nat.le_of_ble_eq_true rfl, Nat.le_of_ble_eq_true rfl⟩ d9_findByRounds_107 rfl (Nat.le_of_ble_eq_true rfl) (fun r14 s13 => ?_)
        refine j_ior d9_findByRounds_110 ?_
        refine j_nmi (fun x15 => ?_)
        refine j_istore_n (i := 2) (L' := [(2, .int x15), (0, .ref (cw_a x 7)), (3, .int y9), (4, .int y10)]) d9_findByRounds_111 rfl (Nat.le_of_ble_eq_true rfl) rfl ?_
        refine j_iinc (i := 4) (v := 1) (Ly := fun x16 => [(4, .int x16), (2, .int x15), (0, .ref (cw_a x 7)), (3, .int y9)]) 3 d9_findByRounds_112 rfl ejc_1 (Nat.le_of_ble_eq_true rfl) (fun _ => rfl) (fun x16 => ?_)
        refine j_goto d9_findByRounds_115 ?_
        exact j_sub [2, 1, 3, 0] rfl (ih x15 y9 x16 s13)
noncomputable def m9_findByRounds_63 (n : Nat) (k : Nat) : Int32 → Int32 → ej_S → Option (ej_S) := Nat.rec (motive := fun _ => Int32 → Int32 → ej_S → Option (ej_S)) (fun _ _ _ => none) (fun _ ih y6 y7 σ => (if 96 < y7 then (some σ) else (if y6 = 0 then (some σ) else (m9_findByRounds_78 n ih n 0 y7 0 σ)))) k
theorem m9_findByRounds_63_s (n : Nat) (k : Nat) (y6 : Int32) (y7 : Int32) (σ : ej_S) : m9_findByRounds_63 n (k + 1) y6 y7 σ = ((if 96 < y7 then (some σ) else (if y6 = 0 then (some σ) else (m9_findByRounds_78 n (m9_findByRounds_63 n k) n 0 y7 0 σ))) : Option (ej_S)) := rfl
set_option maxRecDepth 20000 in
set_option maxHeartbeats 2000000 in
theorem j9_findByRounds_63 (x : cw_T) (n : Nat) {F : ej_F} {r0 : ej_S} (hq : ej_fin (cV x) F none none r0) : ∀ (k : Nat) (y6 : Int32) (y7 : Int32) (σ : ej_S), ej_J (cV x) F i9_findByRounds r0 σ 63 [(0, .ref (cw_a x 7)), (2, .int y6), (3, .int y7)] [] (m9_findByRounds_63 n k y6 y7 σ) := by
  intro k
  induction k with
  | zero => intro y6 y7 σ; exact j_none
  | succ k ih =>
    intro y6 y7 σ
    rw [m9_findByRounds_63_s]
    refine j_iload_n 2 rfl d9_findByRounds_63 ?_
    refine j_bipush d9_findByRounds_64 ejb_96 ?_
    refine j_icmp_gt d9_findByRounds_66 ?_ ?_
    · exact j_vreturn hq d9_findByRounds_124
    · refine j_iload_n 1 rfl d9_findByRounds_69 ?_
      refine j_if_eq d9_findByRounds_70 ?_ ?_
      · exact j_vreturn hq d9_findByRounds_124
      · refine j_iconst d9_findByRounds_73 ejc_0 ?_
        refine j_istore_n (i := 2) (L' := [(2, .int 0), (0, .ref (cw_a x 7)), (3, .int y7)]) d9_findByRounds_74 rfl (Nat.le_of_ble_eq_true rfl) rfl ?_
        refine j_iconst d9_findByRounds_75 ejc_0 ?_
        refine j_istore (i := 4) (L' := [(4, .int 0), (2, .int 0), (0, .ref (cw_a x 7)), (3, .int y7)]) d9_findByRounds_76 (Nat.le_of_ble_eq_true rfl) rfl ?_
        exact j_sub [2, 1, 3, 0] rfl (j9_findByRounds_78 x n hq (m9_findByRounds_63 n k) ih n 0 y7 0 σ)
noncomputable def m9_findByRounds_15 (n : Nat) (k : Nat) : Int32 → ej_S → Option (ej_S) := Nat.rec (motive := fun _ => Int32 → ej_S → Option (ej_S)) (fun _ _ => none) (fun _ ih y2 σ => (if 96 ≤ y2 then ej_bi (m9_homeNode n σ) fun r4 s3 => (if r4 < 0 then (some s3) else (if r4 < 24 then ej_ck (r4 * 4) 96 (ej_nm (uA s3 30 ((r4 * 4).toNatClampNeg) 0) fun s5 => (m9_findByRounds_63 n n 1 0 s5)) else (some s3))) else ej_ck y2 96 (ej_nm (uA σ 30 (y2.toNatClampNeg) (-1)) fun s17 => ej_nm (y2 + 1) fun x18 => (ih x18 s17)))) k
theorem m9_findByRounds_15_s (n : Nat) (k : Nat) (y2 : Int32) (σ : ej_S) : m9_findByRounds_15 n (k + 1) y2 σ = ((if 96 ≤ y2 then ej_bi (m9_homeNode n σ) fun r4 s3 => (if r4 < 0 then (some s3) else (if r4 < 24 then ej_ck (r4 * 4) 96 (ej_nm (uA s3 30 ((r4 * 4).toNatClampNeg) 0) fun s5 => (m9_findByRounds_63 n n 1 0 s5)) else (some s3))) else ej_ck y2 96 (ej_nm (uA σ 30 (y2.toNatClampNeg) (-1)) fun s17 => ej_nm (y2 + 1) fun x18 => ((m9_findByRounds_15 n k) x18 s17))) : Option (ej_S)) := rfl
set_option maxRecDepth 20000 in
set_option maxHeartbeats 2000000 in
theorem j9_findByRounds_15 (x : cw_T) (n : Nat) {F : ej_F} {r0 : ej_S} (hq : ej_fin (cV x) F none none r0) : ∀ (k : Nat) (y2 : Int32) (σ : ej_S), ej_J (cV x) F i9_findByRounds r0 σ 15 [(0, .ref (cw_a x 7)), (1, .int y2)] [] (m9_findByRounds_15 n k y2 σ) := by
  intro k
  induction k with
  | zero => intro y2 σ; exact j_none
  | succ k ih =>
    intro y2 σ
    rw [m9_findByRounds_15_s]
    refine j_iload_n 1 rfl d9_findByRounds_15 ?_
    refine j_bipush d9_findByRounds_16 ejb_96 ?_
    refine j_icmp_ge d9_findByRounds_18 ?_ ?_
    · refine j_aload_n 0 rfl d9_findByRounds_34 ?_
      refine j_callVi (c9_homeNode x n σ) lv_X9_73 (cV_rc_7 x σ) ⟨Nat.le_of_ble_eq_true rfl, Nat.le_of_ble_eq_true rfl⟩ d9_findByRounds_35 rfl (Nat.le_of_ble_eq_true rfl) (fun r4 s3 => ?_)
      refine j_istore_n (i := 1) (L' := [(1, .int r4), (0, .ref (cw_a x 7))]) d9_findByRounds_38 rfl (Nat.le_of_ble_eq_true rfl) rfl ?_
      refine j_iload_n 0 rfl d9_findByRounds_39 ?_
      refine j_if_lt d9_findByRounds_40 ?_ ?_
      · exact j_vreturn hq d9_findByRounds_49
      · refine j_iload_n 0 rfl d9_findByRounds_43 ?_
        refine j_bipush d9_findByRounds_44 ejb_24 ?_
        refine j_icmp_lt d9_findByRounds_46 ?_ ?_
        · refine j_aload_n 1 rfl d9_findByRounds_50 ?_
          refine j_get fl_X9_28 (cV_g_7_10 x s3) d9_findByRounds_51 ?_
          refine j_iload_n 0 rfl d9_findByRounds_54 ?_
          refine j_iconst d9_findByRounds_55 ejc_4 ?_
          refine j_imul d9_findByRounds_56 ?_
          refine j_iconst d9_findByRounds_57 ejc_0 ?_
          refine j_iast (cV_s_52 x s3 ((r4 * 4).toNatClampNeg) 0) d9_findByRounds_58 (fun s5 => ?_)
          refine j_iconst d9_findByRounds_59 ejc_1 ?_
          refine j_istore_n (i := 2) (L' := [(2, .int 1), (1, .int r4), (0, .ref (cw_a x 7))]) d9_findByRounds_60 rfl (Nat.le_of_ble_eq_true rfl) rfl ?_
          refine j_iconst d9_findByRounds_61 ejc_0 ?_
          refine j_istore_n (i := 3) (L' := [(3, .int 0), (2, .int 1), (1, .int r4), (0, .ref (cw_a x 7))]) d9_findByRounds_62 rfl (Nat.le_of_ble_eq_true rfl) rfl ?_
          exact j_sub [3, 1, 0] rfl (j9_findByRounds_63 x n hq n 1 0 s5)
        · exact j_vreturn hq d9_findByRounds_49
    · refine j_aload_n 0 rfl d9_findByRounds_21 ?_
      refine j_get fl_X9_28 (cV_g_7_10 x σ) d9_findByRounds_22 ?_
      refine j_iload_n 1 rfl d9_findByRounds_25 ?_
      refine j_iconst d9_findByRounds_26 ejc_m1 ?_
      refine j_iast (cV_s_52 x σ (y2.toNatClampNeg) (-1)) d9_findByRounds_27 (fun s17 => ?_)
      refine j_iinc (i := 1) (v := 1) (Ly := fun x18 => [(1, .int x18), (0, .ref (cw_a x 7))]) 1 d9_findByRounds_28 rfl ejc_1 (Nat.le_of_ble_eq_true rfl) (fun _ => rfl) (fun x18 => ?_)
      refine j_goto d9_findByRounds_31 ?_
      exact j_sub [1, 0] rfl (ih x18 s17)
noncomputable def m9_findByRounds (n : Nat)  (σ : ej_S) : Option (ej_S) := (if gI σ 35 = 0 then ej_nm (uI σ 35 1) fun s1 => (m9_findByRounds_15 n n 0 s1) else (some σ))
set_option maxRecDepth 20000 in
set_option maxHeartbeats 2000000 in
theorem j9_findByRounds (x : cw_T) (n : Nat)  (σ : ej_S) {F : ej_F} {r0 : ej_S} (hq : ej_fin (cV x) F none none r0) : ej_J (cV x) F i9_findByRounds r0 σ 0 [(0, .ref (cw_a x 7))] [] (m9_findByRounds n  σ) := by
  unfold m9_findByRounds
  refine j_aload_n 0 rfl d9_findByRounds_0 ?_
  refine j_get fl_X9_53 (cV_g_7_4 x σ) d9_findByRounds_1 ?_
  refine j_if_eq d9_findByRounds_4 ?_ ?_
  · refine j_aload_n 0 rfl d9_findByRounds_8 ?_
    refine j_iconst d9_findByRounds_9 ejc_1 ?_
    refine j_put fl_X9_53 (cV_p_7_4 x σ 1) rfl rfl d9_findByRounds_10 (fun s1 => ?_)
    refine j_iconst d9_findByRounds_13 ejc_0 ?_
    refine j_istore_n (i := 1) (L' := [(1, .int 0), (0, .ref (cw_a x 7))]) d9_findByRounds_14 rfl (Nat.le_of_ble_eq_true rfl) rfl ?_
    exact j_sub [1, 0] rfl (j9_findByRounds_15 x n hq n 0 s1)
  · exact j_vreturn hq d9_findByRounds_7
theorem c9_findByRounds (x : cw_T) (n : Nat)  (σ : ej_S) : ∀ σ1, m9_findByRounds n  σ = some σ1 → ∀ l, ej_Con l (cV x) i9_findByRounds yX9_findByRounds none [.ref (cw_a x 7)] σ none σ1 := fun σ1 h l => ej_con_of (cV_ok x) pn_X9 rfl (Nat.le_of_ble_eq_true rfl) rfl h (fun F hq => j9_findByRounds x n  σ hq)

