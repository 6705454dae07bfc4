noncomputable def m0_clear_37 (n : Nat) (k : Nat) : Int32 → ej_S → Option (ej_S) := Nat.rec (motive := fun _ => Int32 → ej_S → Option (ej_S)) (fun _ _ => none) (fun _ ih y8 σ => (if 24 ≤ y8 then (some σ) else ej_ck y8 24 (ej_nm (uA σ 19 (y8.toNatClampNeg) 0) fun s9 => ej_ck y8 24 (ej_nm (uA s9 20 (y8.toNatClampNeg) 0) fun s10 => ej_ck y8 24 (ej_nm (uA s10 21 (y8.toNatClampNeg) 0) fun s11 => ej_ck y8 24 (ej_nm (uA s11 22 (y8.toNatClampNeg) 0) fun s12 => ej_ck y8 24 (ej_nm (uA s12 23 (y8.toNatClampNeg) 0) fun s13 => ej_nm (y8 + 1) fun x14 => (ih x14 s13)))))))) k
theorem m0_clear_37_s (n : Nat) (k : Nat) (y8 : Int32) (σ : ej_S) : m0_clear_37 n (k + 1) y8 σ = ((if 24 ≤ y8 then (some σ) else ej_ck y8 24 (ej_nm (uA σ 19 (y8.toNatClampNeg) 0) fun s9 => ej_ck y8 24 (ej_nm (uA s9 20 (y8.toNatClampNeg) 0) fun s10 => ej_ck y8 24 (ej_nm (uA s10 21 (y8.toNatClampNeg) 0) fun s11 => ej_ck y8 24 (ej_nm (uA s11 22 (y8.toNatClampNeg) 0) fun s12 => ej_ck y8 24 (ej_nm (uA s12 23 (y8.toNatClampNeg) 0) fun s13 => ej_nm (y8 + 1) fun x14 => ((m0_clear_37 n k) x14 s13))))))) : Option (ej_S)) := rfl
set_option maxRecDepth 20000 in
set_option maxHeartbeats 2000000 in
theorem j0_clear_37 (x : cw_T) (n : Nat) {F : ej_F} {r0 : ej_S} (hq : ej_fin (cV x) F none none r0) : ∀ (k : Nat) (y8 : Int32) (σ : ej_S), ej_J (cV x) F i0_clear r0 σ 37 [(0, .ref (cw_a x 4)), (1, .int y8)] [] (m0_clear_37 n k y8 σ) := by
  intro k
  induction k with
  | zero => intro y8 σ; exact j_none
  | succ k ih =>
    intro y8 σ
    rw [m0_clear_37_s]
    refine j_iload_n 1 rfl d0_clear_37 ?_
    refine j_bipush d0_clear_38 ejb_24 ?_
    refine j_icmp_ge d0_clear_40 ?_ ?_
    · exact j_vreturn hq d0_clear_84
    · refine j_aload_n 0 rfl d0_clear_43 ?_
      refine j_get fl_X0_19 (cV_g_4_9 x σ) d0_clear_44 ?_
      refine j_iload_n 1 rfl d0_clear_47 ?_
      refine j_iconst d0_clear_48 ejc_0 ?_
      refine j_iast (cV_s_41 x σ (y8.toNatClampNeg) 0) d0_clear_49 (fun s9 => ?_)
      refine j_aload_n 0 rfl d0_clear_50 ?_
      refine j_get fl_X0_22 (cV_g_4_10 x s9) d0_clear_51 ?_
      refine j_iload_n 1 rfl d0_clear_54 ?_
      refine j_iconst d0_clear_55 ejc_0 ?_
      refine j_iast (cV_s_42 x s9 (y8.toNatClampNeg) 0) d0_clear_56 (fun s10 => ?_)
      refine j_aload_n 0 rfl d0_clear_57 ?_
      refine j_get fl_X0_25 (cV_g_4_11 x s10) d0_clear_58 ?_
      refine j_iload_n 1 rfl d0_clear_61 ?_
      refine j_iconst d0_clear_62 ejc_0 ?_
      refine j_iast (cV_s_43 x s10 (y8.toNatClampNeg) 0) d0_clear_63 (fun s11 => ?_)
      refine j_aload_n 0 rfl d0_clear_64 ?_
      refine j_get fl_X0_28 (cV_g_4_12 x s11) d0_clear_65 ?_
      refine j_iload_n 1 rfl d0_clear_68 ?_
      refine j_iconst d0_clear_69 ejc_0 ?_
      refine j_iast (cV_s_44 x s11 (y8.toNatClampNeg) 0) d0_clear_70 (fun s12 => ?_)
      refine j_aload_n 0 rfl d0_clear_71 ?_
      refine j_get fl_X0_31 (cV_g_4_13 x s12) d0_clear_72 ?_
      refine j_iload_n 1 rfl d0_clear_75 ?_
      refine j_iconst d0_clear_76 ejc_0 ?_
      refine j_iast (cV_s_45 x s12 (y8.toNatClampNeg) 0) d0_clear_77 (fun s13 => ?_)
      refine j_iinc (i := 1) (v := 1) (Ly := fun x14 => [(1, .int x14), (0, .ref (cw_a x 4))]) 1 d0_clear_78 rfl ejc_1 (Nat.le_of_ble_eq_true rfl) (fun _ => rfl) (fun x14 => ?_)
      refine j_goto d0_clear_81 ?_
      exact j_sub [1, 0] rfl (ih x14 s13)
noncomputable def m0_clear (n : Nat)  (σ : ej_S) : Option (ej_S) := ej_nm (uI σ 22 0) fun s1 => ej_nm (uI s1 23 0) fun s2 => ej_nm (uI s2 24 0) fun s3 => ej_nm (uI s3 25 0) fun s4 => ej_nm (uI s4 26 0) fun s5 => ej_nm (uI s5 27 0) fun s6 => ej_nm (uI s6 28 0) fun s7 => (m0_clear_37 n n 0 s7)
set_option maxRecDepth 20000 in
set_option maxHeartbeats 2000000 in
theorem j0_clear (x : cw_T) (n : Nat)  (σ : ej_S) {F : ej_F} {r0 : ej_S} (hq : ej_fin (cV x) F none none r0) : ej_J (cV x) F i0_clear r0 σ 0 [(0, .ref (cw_a x 4))] [] (m0_clear n  σ) := by
  unfold m0_clear
  refine j_aload_n 0 rfl d0_clear_0 ?_
  refine j_iconst d0_clear_1 ejc_0 ?_
  refine j_put fl_X0_42 (cV_p_4_0 x σ 0) rfl rfl d0_clear_2 (fun s1 => ?_)
  refine j_aload_n 0 rfl d0_clear_5 ?_
  refine j_iconst d0_clear_6 ejc_0 ?_
  refine j_put fl_X0_46 (cV_p_4_1 x s1 0) rfl rfl d0_clear_7 (fun s2 => ?_)
  refine j_aload_n 0 rfl d0_clear_10 ?_
  refine j_iconst d0_clear_11 ejc_0 ?_
  refine j_put fl_X0_50 (cV_p_4_4 x s2 0) rfl rfl d0_clear_12 (fun s3 => ?_)
  refine j_aload_n 0 rfl d0_clear_15 ?_
  refine j_iconst d0_clear_16 ejc_0 ?_
  refine j_put fl_X0_53 (cV_p_4_5 x s3 0) rfl rfl d0_clear_17 (fun s4 => ?_)
  refine j_aload_n 0 rfl d0_clear_20 ?_
  refine j_iconst d0_clear_21 ejc_0 ?_
  refine j_put fl_X0_56 (cV_p_4_6 x s4 0) rfl rfl d0_clear_22 (fun s5 => ?_)
  refine j_aload_n 0 rfl d0_clear_25 ?_
  refine j_iconst d0_clear_26 ejc_0 ?_
  refine j_put fl_X0_59 (cV_p_4_7 x s5 0) rfl rfl d0_clear_27 (fun s6 => ?_)
  refine j_aload_n 0 rfl d0_clear_30 ?_
  refine j_iconst d0_clear_31 ejc_0 ?_
  refine j_put fl_X0_62 (cV_p_4_8 x s6 0) rfl rfl d0_clear_32 (fun s7 => ?_)
  refine j_iconst d0_clear_35 ejc_0 ?_
  refine j_istore_n (i := 1) (L' := [(1, .int 0), (0, .ref (cw_a x 4))]) d0_clear_36 rfl (Nat.le_of_ble_eq_true rfl) rfl ?_
  exact j_sub [1, 0] rfl (j0_clear_37 x n hq n 0 s7)
theorem c0_clear (x : cw_T) (n : Nat)  (σ : ej_S) : ∀ σ1, m0_clear n  σ = some σ1 → ∀ l, ej_Con l (cV x) i0_clear yX0_clear none [.ref (cw_a x 4)] σ none σ1 := fun σ1 h l => ej_con_of (cV_ok x) pn_X0 rfl (Nat.le_of_ble_eq_true rfl) rfl h (fun F hq => j0_clear x n  σ hq)

noncomputable def m0_size (n : Nat)  (σ : ej_S) : Option (Int32 × ej_S) := (some (gI σ 22, σ))
set_option maxRecDepth 20000 in
set_option maxHeartbeats 2000000 in
theorem j0_size (x : cw_T) (n : Nat)  (σ : ej_S) {F : ej_F} {r0 : Int32 × ej_S} (hq : ej_fin (cV x) F (some .int) (some (.int r0.1)) r0.2) : ej_J (cV x) F i0_size r0 σ 0 [(0, .ref (cw_a x 4))] [] (m0_size n  σ) := by
  unfold m0_size
  refine j_aload_n 0 rfl d0_size_0 ?_
  refine j_get fl_X0_42 (cV_g_4_0 x σ) d0_size_1 ?_
  exact j_ireturn hq d0_size_4
theorem c0_size (x : cw_T) (n : Nat)  (σ : ej_S) : ∀ r σ1, m0_size n  σ = some (r, σ1) → ∀ l, ej_Con l (cV x) i0_size yX0_size (some .int) [.ref (cw_a x 4)] σ (some (.int r)) σ1 := fun r σ1 h l => ej_con_of (cV_ok x) pn_X0 rfl (Nat.le_of_ble_eq_true rfl) rfl h (fun F hq => j0_size x n  σ hq)

noncomputable def m0_isCrowded (n : Nat)  (σ : ej_S) : Option (Int32 × ej_S) := (some (ej_bz (gI σ 23), σ))
set_option maxRecDepth 20000 in
set_option maxHeartbeats 2000000 in
theorem j0_isCrowded (x : cw_T) (n : Nat)  (σ : ej_S) {F : ej_F} {r0 : Int32 × ej_S} (hq : ej_fin (cV x) F (some .boolean) (some (.int r0.1)) r0.2) : ej_J (cV x) F i0_isCrowded r0 σ 0 [(0, .ref (cw_a x 4))] [] (m0_isCrowded n  σ) := by
  unfold m0_isCrowded
  refine j_aload_n 0 rfl d0_isCrowded_0 ?_
  refine j_get fl_X0_46 (cV_g_4_1 x σ) d0_isCrowded_1 ?_
  exact j_zreturn hq d0_isCrowded_4
theorem c0_isCrowded (x : cw_T) (n : Nat)  (σ : ej_S) : ∀ r σ1, m0_isCrowded n  σ = some (r, σ1) → ∀ l, ej_Con l (cV x) i0_isCrowded yX0_isCrowded (some .boolean) [.ref (cw_a x 4)] σ (some (.int r)) σ1 := fun r σ1 h l => ej_con_of (cV_ok x) pn_X0 rfl (Nat.le_of_ble_eq_true rfl) rfl h (fun F hq => j0_isCrowded x n  σ hq)

noncomputable def m0_has (n : Nat) (a1 : Int32) (σ : ej_S) : Option (Int32 × ej_S) := (if a1 < 0 then (some (0, σ)) else (if gI σ 22 ≤ a1 then (some (0, σ)) else (if 24 ≤ a1 then (some (0, σ)) else (some (1, σ)))))
set_option maxRecDepth 20000 in
set_option maxHeartbeats 2000000 in
theorem j0_has (x : cw_T) (n : Nat) (a1 : Int32) (σ : ej_S) {F : ej_F} {r0 : Int32 × ej_S} (hq : ej_fin (cV x) F (some .boolean) (some (.int r0.1)) r0.2) : ej_J (cV x) F i0_has r0 σ 0 [(0, .ref (cw_a x 4)), (1, .int a1)] [] (m0_has n a1 σ) := by
  unfold m0_has
  refine j_iload_n 1 rfl d0_has_0 ?_
  refine j_if_lt d0_has_1 ?_ ?_
  · refine j_iconst d0_has_22 ejc_0 ?_
    exact j_zreturn0 hq d0_has_23
  · refine j_iload_n 1 rfl d0_has_4 ?_
    refine j_aload_n 0 rfl d0_has_5 ?_
    refine j_get fl_X0_42 (cV_g_4_0 x σ) d0_has_6 ?_
    refine j_icmp_ge d0_has_9 ?_ ?_
    · refine j_iconst d0_has_22 ejc_0 ?_
      exact j_zreturn0 hq d0_has_23
    · refine j_iload_n 1 rfl d0_has_12 ?_
      refine j_bipush d0_has_13 ejb_24 ?_
      refine j_icmp_ge d0_has_15 ?_ ?_
      · refine j_iconst d0_has_22 ejc_0 ?_
        exact j_zreturn0 hq d0_has_23
      · refine j_iconst d0_has_18 ejc_1 ?_
        refine j_goto d0_has_19 ?_
        exact j_zreturn1 hq d0_has_23
theorem c0_has (x : cw_T) (n : Nat) (a1 : Int32) (σ : ej_S) : ∀ r σ1, m0_has n a1 σ = some (r, σ1) → ∀ l, ej_Con l (cV x) i0_has yX0_has (some .boolean) [.ref (cw_a x 4), .int a1] σ (some (.int r)) σ1 := fun r σ1 h l => ej_con_of (cV_ok x) pn_X0 rfl (Nat.le_of_ble_eq_true rfl) rfl h (fun F hq => j0_has x n a1 σ hq)

noncomputable def m0_find_3 (n : Nat) (k : Nat) : Int64 → Int32 → Int32 → ej_S → Option (Int32 × ej_S) := Nat.rec (motive := fun _ => Int64 → Int32 → Int32 → ej_S → Option (Int32 × ej_S)) (fun _ _ _ _ => none) (fun _ ih y1 y2 y3 σ => (if gI σ 22 ≤ y3 then (some ((-1), σ)) else (if 24 ≤ y3 then (some ((-1), σ)) else ej_ck y3 24 ((if lg_cmp (gB σ 1 y3.toNatClampNeg) y1 = 0 then ej_ck y3 24 ((if gA σ 18 y3.toNatClampNeg = y2 then (some (y3, σ)) else ej_nm (y3 + 1) fun x5 => (ih y1 y2 x5 σ))) else ej_nm (y3 + 1) fun x4 => (ih y1 y2 x4 σ)))))) k
theorem m0_find_3_s (n : Nat) (k : Nat) (y1 : Int64) (y2 : Int32) (y3 : Int32) (σ : ej_S) : m0_find_3 n (k + 1) y1 y2 y3 σ = ((if gI σ 22 ≤ y3 then (some ((-1), σ)) else (if 24 ≤ y3 then (some ((-1), σ)) else ej_ck y3 24 ((if lg_cmp (gB σ 1 y3.toNatClampNeg) y1 = 0 then ej_ck y3 24 ((if gA σ 18 y3.toNatClampNeg = y2 then (some (y3, σ)) else ej_nm (y3 + 1) fun x5 => ((m0_find_3 n k) y1 y2 x5 σ))) else ej_nm (y3 + 1) fun x4 => ((m0_find_3 n k) y1 y2 x4 σ))))) : Option (Int32 × ej_S)) := rfl
set_option maxRecDepth 20000 in
set_option maxHeartbeats 2000000 in
theorem j0_find_3 (x : cw_T) (n : Nat) {F : ej_F} {r0 : Int32 × ej_S} (hq : ej_fin (cV x) F (some .int) (some (.int r0.1)) r0.2) : ∀ (k : Nat) (y1 : Int64) (y2 : Int32) (y3 : Int32) (σ : ej_S), ej_J (cV x) F i0_find r0 σ 3 [(0, .ref (cw_a x 4)), (1, .long y1), (3, .int y2), (4, .int y3)] [] (m0_find_3 n k y1 y2 y3 σ) := by
  intro k
  induction k with
  | zero => intro y1 y2 y3 σ; exact j_none
  | succ k ih =>
    intro y1 y2 y3 σ
    rw [m0_find_3_s]
    refine j_iload 3 rfl d0_find_3 ?_
    refine j_aload_n 0 rfl d0_find_5 ?_
    refine j_get fl_X0_42 (cV_g_4_0 x σ) d0_find_6 ?_
    refine j_icmp_ge d0_find_9 ?_ ?_
    · refine j_iconst d0_find_51 ejc_m1 ?_
      exact j_ireturn hq d0_find_52
    · refine j_iload 3 rfl d0_find_12 ?_
      refine j_bipush d0_find_14 ejb_24 ?_
      refine j_icmp_ge d0_find_16 ?_ ?_
      · refine j_iconst d0_find_51 ejc_m1 ?_
        exact j_ireturn hq d0_find_52
      · refine j_aload_n 0 rfl d0_find_19 ?_
        refine j_get fl_X0_9 (cV_g_4_2 x σ) d0_find_20 ?_
        refine j_iload 3 rfl d0_find_23 ?_
        refine j_lald (cV_a_39 x σ) d0_find_25 ?_
        refine j_lload_n 1 rfl d0_find_26 ?_
        refine j_lcmp d0_find_27 ?_
        refine j_if_ne d0_find_28 ?_ ?_
        · refine j_iinc (i := 4) (v := 1) (Ly := fun x4 => [(4, .int x4), (0, .ref (cw_a x 4)), (1, .long y1), (3, .int y2)]) 3 d0_find_45 rfl ejc_1 (Nat.le_of_ble_eq_true rfl) (fun _ => rfl) (fun x4 => ?_)
          refine j_goto d0_find_48 ?_
          exact j_sub [1, 2, 3, 0] rfl (ih y1 y2 x4 σ)
        · refine j_aload_n 0 rfl d0_find_31 ?_
          refine j_get fl_X0_15 (cV_g_4_3 x σ) d0_find_32 ?_
          refine j_iload 3 rfl d0_find_35 ?_
          refine j_iald (cV_a_40 x σ) d0_find_37 ?_
          refine j_iload_n 2 rfl d0_find_38 ?_
          refine j_icmp_ne d0_find_39 ?_ ?_
          · refine j_iinc (i := 4) (v := 1) (Ly := fun x5 => [(4, .int x5), (0, .ref (cw_a x 4)), (1, .long y1), (3, .int y2)]) 3 d0_find_45 rfl ejc_1 (Nat.le_of_ble_eq_true rfl) (fun _ => rfl) (fun x5 => ?_)
            refine j_goto d0_find_48 ?_
            exact j_sub [1, 2, 3, 0] rfl (ih y1 y2 x5 σ)
          · refine j_iload 3 rfl d0_find_42 ?_
            exact j_ireturn hq d0_find_44
noncomputable def m0_find (n : Nat) (a1 : Int64) (a2 : Int32) (σ : ej_S) : Option (Int32 × ej_S) := (m0_find_3 n n a1 a2 0 σ)
set_option maxRecDepth 20000 in
set_option maxHeartbeats 2000000 in
theorem j0_find (x : cw_T) (n : Nat) (a1 : Int64) (a2 : Int32) (σ : ej_S) {F : ej_F} {r0 : Int32 × ej_S} (hq : ej_fin (cV x) F (some .int) (some (.int r0.1)) r0.2) : ej_J (cV x) F i0_find r0 σ 0 [(0, .ref (cw_a x 4)), (1, .long a1), (3, .int a2)] [] (m0_find n a1 a2 σ) := by
  unfold m0_find
  refine j_iconst d0_find_0 ejc_0 ?_
  refine j_istore (i := 4) (L' := [(4, .int 0), (0, .ref (cw_a x 4)), (1, .long a1), (3, .int a2)]) d0_find_1 (Nat.le_of_ble_eq_true rfl) rfl ?_
  exact j_sub [1, 2, 3, 0] rfl (j0_find_3 x n hq n a1 a2 0 σ)
theorem c0_find (x : cw_T) (n : Nat) (a1 : Int64) (a2 : Int32) (σ : ej_S) : ∀ r σ1, m0_find n a1 a2 σ = some (r, σ1) → ∀ l, ej_Con l (cV x) i0_find yX0_find (some .int) [.ref (cw_a x 4), .long a1, .int a2] σ (some (.int r)) σ1 := fun r σ1 h l => ej_con_of (cV_ok x) pn_X0 rfl (Nat.le_of_ble_eq_true rfl) rfl h (fun F hq => j0_find x n a1 a2 σ hq)

noncomputable def m0_nodeFor_121 (n : Nat)  (σ : ej_S) : Option (Int32 × ej_S) := ej_nm (uI σ 22 ((gI σ 22) + 1)) fun s17 => (some ((gI s17 22) - 1, s17))
set_option maxRecDepth 20000 in
set_option maxHeartbeats 2000000 in
theorem j0_nodeFor_121 (x : cw_T) (n : Nat) {F : ej_F} {r0 : Int32 × ej_S} (hq : ej_fin (cV x) F (some .int) (some (.int r0.1)) r0.2)  (σ : ej_S) : ej_J (cV x) F i0_nodeFor r0 σ 121 [(0, .ref (cw_a x 4))] [] (m0_nodeFor_121 n  σ) := by
  unfold m0_nodeFor_121
  refine j_aload_n 0 rfl d0_nodeFor_121 ?_
  refine j_dup d0_nodeFor_122 rfl ?_
  refine j_get fl_X0_42 (cV_g_4_0 x σ) d0_nodeFor_123 ?_
  refine j_iconst d0_nodeFor_126 ejc_1 ?_
  refine j_iadd d0_nodeFor_127 ?_
  refine j_put fl_X0_42 (cV_p_4_0 x σ ((gI σ 22) + 1)) rfl rfl d0_nodeFor_128 (fun s17 => ?_)
  refine j_aload_n 0 rfl d0_nodeFor_131 ?_
  refine j_get fl_X0_42 (cV_g_4_0 x s17) d0_nodeFor_132 ?_
  refine j_iconst d0_nodeFor_135 ejc_1 ?_
  refine j_isub d0_nodeFor_136 ?_
  exact j_ireturn hq d0_nodeFor_137
noncomputable def m0_nodeFor_94 (n : Nat) (y11 : Int64) (y12 : Int32) (y13 : Int32) (σ : ej_S) : Option (Int32 × ej_S) := ej_ck y13 24 (ej_nm (uA σ 18 (y13.toNatClampNeg) y12) fun s14 => ej_bi (m10_nameByte n y11 0 s14) fun r16 s15 => (if r16 = 46 then ej_bi (m10_setOf n (gI s15 22) s15) fun r19 s18 => ej_nm (uI s18 24 ((gI s15 24) ||| r19)) fun s20 => (m0_nodeFor_121 n s20) else (m0_nodeFor_121 n s15)))
set_option maxRecDepth 20000 in
set_option maxHeartbeats 2000000 in
theorem j0_nodeFor_94 (x : cw_T) (n : Nat) {F : ej_F} {r0 : Int32 × ej_S} (hq : ej_fin (cV x) F (some .int) (some (.int r0.1)) r0.2) (y11 : Int64) (y12 : Int32) (y13 : Int32) (σ : ej_S) : ej_J (cV x) F i0_nodeFor r0 σ 94 [(0, .ref (cw_a x 4)), (1, .long y11)] [.int y12, .int y13, .ref (cw_a x 40)] (m0_nodeFor_94 n y11 y12 y13 σ) := by
  unfold m0_nodeFor_94
  refine j_iast (cV_s_40 x σ (y13.toNatClampNeg) y12) d0_nodeFor_94 (fun s14 => ?_)
  refine j_lload_n 1 rfl d0_nodeFor_95 ?_
  refine j_iconst d0_nodeFor_96 ejc_0 ?_
  refine j_callNi (c10_nameByte x n y11 0 s14) (ln_X0_69 x) ⟨Nat.le_of_ble_eq_true rfl, Nat.le_of_ble_eq_true rfl⟩ d0_nodeFor_97 rfl (Nat.le_of_ble_eq_true rfl) (fun r16 s15 => ?_)
  refine j_bipush d0_nodeFor_100 ejb_46 ?_
  refine j_icmp_ne d0_nodeFor_102 ?_ ?_
  · exact j_sub [0] rfl (j0_nodeFor_121 x n hq s15)
  · refine j_aload_n 0 rfl d0_nodeFor_105 ?_
    refine j_dup d0_nodeFor_106 rfl ?_
    refine j_get fl_X0_50 (cV_g_4_4 x s15) d0_nodeFor_107 ?_
    refine j_aload_n 0 rfl d0_nodeFor_110 ?_
    refine j_get fl_X0_42 (cV_g_4_0 x s15) d0_nodeFor_111 ?_
    refine j_callNi (c10_setOf x n (gI s15 22) s15) (ln_X0_72 x) ⟨Nat.le_of_ble_eq_true rfl, Nat.le_of_ble_eq_true rfl⟩ d0_nodeFor_114 rfl (Nat.le_of_ble_eq_true rfl) (fun r19 s18 => ?_)
    refine j_ior d0_nodeFor_117 ?_
    refine j_put fl_X0_50 (cV_p_4_4 x s18 ((gI s15 24) ||| r19)) rfl rfl d0_nodeFor_118 (fun s20 => ?_)
    exact j_sub [0] rfl (j0_nodeFor_121 x n hq s20)
noncomputable def m0_nodeFor_32 (n : Nat) (y5 : Int64) (y6 : Int32) (y7 : Int32) (y8 : Int32) (σ : ej_S) : Option (Int32 × ej_S) := (if y8 = (-1) then (if gI σ 22 < 0 then ej_nm (uI σ 23 1) fun s9 => (some ((-1), s9)) else (if gI σ 22 < 24 then ej_ck (gI σ 22) 24 (ej_nm (uB σ 1 ((gI σ 22).toNatClampNeg) y5) fun s10 => (if y7 = 0 then (m0_nodeFor_94 n y5 (-1) (gI s10 22) s10) else (m0_nodeFor_94 n y5 y6 (gI s10 22) s10))) else ej_nm (uI σ 23 1) fun s21 => (some ((-1), s21)))) else (some (y8, σ)))
set_option maxRecDepth 20000 in
set_option maxHeartbeats 2000000 in
theorem j0_nodeFor_32 (x : cw_T) (n : Nat) {F : ej_F} {r0 : Int32 × ej_S} (hq : ej_fin (cV x) F (some .int) (some (.int r0.1)) r0.2) (y5 : Int64) (y6 : Int32) (y7 : Int32) (y8 : Int32) (σ : ej_S) : ej_J (cV x) F i0_nodeFor r0 σ 32 [(0, .ref (cw_a x 4)), (1, .long y5), (3, .int y6), (4, .int y7)] [.int y8] (m0_nodeFor_32 n y5 y6 y7 y8 σ) := by
  unfold m0_nodeFor_32
  refine j_istore (i := 6) (L' := [(6, .int y8), (0, .ref (cw_a x 4)), (1, .long y5), (3, .int y6), (4, .int y7)]) d0_nodeFor_32 (Nat.le_of_ble_eq_true rfl) rfl ?_
  refine j_iload 0 rfl d0_nodeFor_34 ?_
  refine j_iconst d0_nodeFor_36 ejc_m1 ?_
  refine j_icmp_eq d0_nodeFor_37 ?_ ?_
  · refine j_aload_n 1 rfl d0_nodeFor_43 ?_
    refine j_get fl_X0_42 (cV_g_4_0 x σ) d0_nodeFor_44 ?_
    refine j_if_lt d0_nodeFor_47 ?_ ?_
    · refine j_aload_n 1 rfl d0_nodeFor_59 ?_
      refine j_iconst d0_nodeFor_60 ejc_1 ?_
      refine j_put fl_X0_46 (cV_p_4_1 x σ 1) rfl rfl d0_nodeFor_61 (fun s9 => ?_)
      refine j_iconst d0_nodeFor_64 ejc_m1 ?_
      exact j_ireturn hq d0_nodeFor_65
    · refine j_aload_n 1 rfl d0_nodeFor_50 ?_
      refine j_get fl_X0_42 (cV_g_4_0 x σ) d0_nodeFor_51 ?_
      refine j_bipush d0_nodeFor_54 ejb_24 ?_
      refine j_icmp_lt d0_nodeFor_56 ?_ ?_
      · refine j_aload_n 1 rfl d0_nodeFor_66 ?_
        refine j_get fl_X0_9 (cV_g_4_2 x σ) d0_nodeFor_67 ?_
        refine j_aload_n 1 rfl d0_nodeFor_70 ?_
        refine j_get fl_X0_42 (cV_g_4_0 x σ) d0_nodeFor_71 ?_
        refine j_lload_n 2 rfl d0_nodeFor_74 ?_
        refine j_last (cV_s_39 x σ ((gI σ 22).toNatClampNeg) y5) d0_nodeFor_75 (fun s10 => ?_)
        refine j_aload_n 1 rfl d0_nodeFor_76 ?_
        refine j_get fl_X0_15 (cV_g_4_3 x s10) d0_nodeFor_77 ?_
        refine j_aload_n 1 rfl d0_nodeFor_80 ?_
        refine j_get fl_X0_42 (cV_g_4_0 x s10) d0_nodeFor_81 ?_
        refine j_iload 4 rfl d0_nodeFor_84 ?_
        refine j_if_eq d0_nodeFor_86 ?_ ?_
        · refine j_iconst d0_nodeFor_93 ejc_m1 ?_
          exact j_sub [1, 2] rfl (j0_nodeFor_94 x n hq y5 (-1) (gI s10 22) s10)
        · refine j_iload_n 3 rfl d0_nodeFor_89 ?_
          refine j_goto d0_nodeFor_90 ?_
          exact j_sub [1, 2] rfl (j0_nodeFor_94 x n hq y5 y6 (gI s10 22) s10)
      · refine j_aload_n 1 rfl d0_nodeFor_59 ?_
        refine j_iconst d0_nodeFor_60 ejc_1 ?_
        refine j_put fl_X0_46 (cV_p_4_1 x σ 1) rfl rfl d0_nodeFor_61 (fun s21 => ?_)
        refine j_iconst d0_nodeFor_64 ejc_m1 ?_
        exact j_ireturn hq d0_nodeFor_65
  · refine j_iload 0 rfl d0_nodeFor_40 ?_
    exact j_ireturn hq d0_nodeFor_42
noncomputable def m0_nodeFor (n : Nat) (a1 : Int64) (a2 : Int32) (a3 : Int32) (σ : ej_S) : Option (Int32 × ej_S) := ej_bi (m0_find n a1 a2 σ) fun r2 s1 => (if r2 = (-1) then (if a3 = 0 then ej_bi (m0_find n a1 (-1) s1) fun r4 s3 => (m0_nodeFor_32 n a1 a2 a3 r4 s3) else (m0_nodeFor_32 n a1 a2 a3 (-1) s1)) else (some (r2, s1)))
set_option maxRecDepth 20000 in
set_option maxHeartbeats 2000000 in
theorem j0_nodeFor (x : cw_T) (n : Nat) (a1 : Int64) (a2 : Int32) (a3 : Int32) (σ : ej_S) {F : ej_F} {r0 : Int32 × ej_S} (hq : ej_fin (cV x) F (some .int) (some (.int r0.1)) r0.2) : ej_J (cV x) F i0_nodeFor r0 σ 0 [(0, .ref (cw_a x 4)), (1, .long a1), (3, .int a2), (4, .int a3)] [] (m0_nodeFor n a1 a2 a3 σ) := by
  unfold m0_nodeFor
  refine j_aload_n 0 rfl d0_nodeFor_0 ?_
  refine j_lload_n 1 rfl d0_nodeFor_1 ?_
  refine j_iload_n 2 rfl d0_nodeFor_2 ?_
  refine j_callVi (c0_find x n a1 a2 σ) lv_X0_65 (cV_rc_4 x σ) ⟨Nat.le_of_ble_eq_true rfl, Nat.le_of_ble_eq_true rfl⟩ d0_nodeFor_3 rfl (Nat.le_of_ble_eq_true rfl) (fun r2 s1 => ?_)
  refine j_istore (i := 5) (L' := [(5, .int r2), (0, .ref (cw_a x 4)), (1, .long a1), (3, .int a2), (4, .int a3)]) d0_nodeFor_6 (Nat.le_of_ble_eq_true rfl) rfl ?_
  refine j_iload 0 rfl d0_nodeFor_8 ?_
  refine j_iconst d0_nodeFor_10 ejc_m1 ?_
  refine j_icmp_eq d0_nodeFor_11 ?_ ?_
  · refine j_iload 4 rfl d0_nodeFor_17 ?_
    refine j_if_eq d0_nodeFor_19 ?_ ?_
    · refine j_aload_n 1 rfl d0_nodeFor_26 ?_
      refine j_lload_n 2 rfl d0_nodeFor_27 ?_
      refine j_iconst d0_nodeFor_28 ejc_m1 ?_
      refine j_callVi (c0_find x n a1 (-1) s1) lv_X0_65 (cV_rc_4 x s1) ⟨Nat.le_of_ble_eq_true rfl, Nat.le_of_ble_eq_true rfl⟩ d0_nodeFor_29 rfl (Nat.le_of_ble_eq_true rfl) (fun r4 s3 => ?_)
      exact j_sub [1, 2, 3, 4] rfl (j0_nodeFor_32 x n hq a1 a2 a3 r4 s3)
    · refine j_iconst d0_nodeFor_22 ejc_m1 ?_
      refine j_goto d0_nodeFor_23 ?_
      exact j_sub [1, 2, 3, 4] rfl (j0_nodeFor_32 x n hq a1 a2 a3 (-1) s1)
  · refine j_iload 0 rfl d0_nodeFor_14 ?_
    exact j_ireturn hq d0_nodeFor_16
theorem c0_nodeFor (x : cw_T) (n : Nat) (a1 : Int64) (a2 : Int32) (a3 : Int32) (σ : ej_S) : ∀ r σ1, m0_nodeFor n a1 a2 a3 σ = some (r, σ1) → ∀ l, ej_Con l (cV x) i0_nodeFor yX0_nodeFor (some .int) [.ref (cw_a x 4), .long a1, .int a2, .int a3] σ (some (.int r)) σ1 := fun r σ1 h l => ej_con_of (cV_ok x) pn_X0 rfl (Nat.le_of_ble_eq_true rfl) rfl h (fun F hq => j0_nodeFor x n a1 a2 a3 σ hq)

noncomputable def m0_addLink_104 (n : Nat) (y24 : Int32) (y25 : Int32) (y26 : Int32) (σ : ej_S) : Option (ej_S) := (if y26 = 0 then ej_ck y24 24 (ej_bi (m10_setOf n y25 σ) fun r28 s27 => ej_ck y24 24 (ej_nm (uA s27 21 (y24.toNatClampNeg) ((gA σ 21 y24.toNatClampNeg) &&& (r28 ^^^ (-1)))) fun s29 => (some s29))) else (some σ))
set_option maxRecDepth 20000 in
set_option maxHeartbeats 2000000 in
theorem j0_addLink_104 (x : cw_T) (n : Nat) {F : ej_F} {r0 : ej_S} (hq : ej_fin (cV x) F none none r0) (y24 : Int32) (y25 : Int32) (y26 : Int32) (σ : ej_S) : ej_J (cV x) F i0_addLink r0 σ 104 [(0, .ref (cw_a x 4)), (1, .int y24), (2, .int y25), (4, .int y26)] [] (m0_addLink_104 n y24 y25 y26 σ) := by
  unfold m0_addLink_104
  refine j_iload 3 rfl d0_addLink_104 ?_
  refine j_if_ne d0_addLink_106 ?_ ?_
  · exact j_vreturn hq d0_addLink_124
  · refine j_aload_n 0 rfl d0_addLink_109 ?_
    refine j_get fl_X0_25 (cV_g_4_11 x σ) d0_addLink_110 ?_
    refine j_iload_n 1 rfl d0_addLink_113 ?_
    refine j_dup2 d0_addLink_114 rfl rfl ?_
    refine j_iald (cV_a_43 x σ) d0_addLink_115 ?_
    refine j_iload_n 2 rfl d0_addLink_116 ?_
    refine j_callNi (c10_setOf x n y25 σ) (ln_X0_72 x) ⟨Nat.le_of_ble_eq_true rfl, Nat.le_of_ble_eq_true rfl⟩ d0_addLink_117 rfl (Nat.le_of_ble_eq_true rfl) (fun r28 s27 => ?_)
    refine j_iconst d0_addLink_120 ejc_m1 ?_
    refine j_ixor d0_addLink_121 ?_
    refine j_iand d0_addLink_122 ?_
    refine j_iast (cV_s_43 x s27 (y24.toNatClampNeg) ((gA σ 21 y24.toNatClampNeg) &&& (r28 ^^^ (-1)))) d0_addLink_123 (fun s29 => ?_)
    exact j_vreturn hq d0_addLink_124
noncomputable def m0_addLink_69 (n : Nat) (y12 : Int32) (y13 : Int32) (y14 : Int32) (y15 : Int32) (σ : ej_S) : Option (ej_S) := ej_ck y12 24 (ej_bi (m10_setOf n y13 σ) fun r17 s16 => ej_ck y12 24 (ej_nm (uA s16 20 (y12.toNatClampNeg) ((gA σ 20 y12.toNatClampNeg) ||| r17)) fun s18 => ej_ck y12 24 (ej_ck y13 24 (ej_nm (uM s18 0 (y12.toNatClampNeg) (y13.toNatClampNeg) y14) fun s20 => ej_ck y12 24 (ej_bi (m10_setOf n y13 s20) fun r22 s21 => ej_ck y12 24 (ej_nm (uA s21 21 (y12.toNatClampNeg) ((gA s20 21 y12.toNatClampNeg) ||| r22)) fun s23 => (m0_addLink_104 n y12 y13 y15 s23)))))))
set_option maxRecDepth 20000 in
set_option maxHeartbeats 2000000 in
theorem j0_addLink_69 (x : cw_T) (n : Nat) {F : ej_F} {r0 : ej_S} (hq : ej_fin (cV x) F none none r0) (y12 : Int32) (y13 : Int32) (y14 : Int32) (y15 : Int32) (σ : ej_S) : ej_J (cV x) F i0_addLink r0 σ 69 [(0, .ref (cw_a x 4)), (1, .int y12), (2, .int y13), (3, .int y14), (4, .int y15)] [] (m0_addLink_69 n y12 y13 y14 y15 σ) := by
  unfold m0_addLink_69
  refine j_aload_n 0 rfl d0_addLink_69 ?_
  refine j_get fl_X0_22 (cV_g_4_10 x σ) d0_addLink_70 ?_
  refine j_iload_n 1 rfl d0_addLink_73 ?_
  refine j_dup2 d0_addLink_74 rfl rfl ?_
  refine j_iald (cV_a_42 x σ) d0_addLink_75 ?_
  refine j_iload_n 2 rfl d0_addLink_76 ?_
  refine j_callNi (c10_setOf x n y13 σ) (ln_X0_72 x) ⟨Nat.le_of_ble_eq_true rfl, Nat.le_of_ble_eq_true rfl⟩ d0_addLink_77 rfl (Nat.le_of_ble_eq_true rfl) (fun r17 s16 => ?_)
  refine j_ior d0_addLink_80 ?_
  refine j_iast (cV_s_42 x s16 (y12.toNatClampNeg) ((gA σ 20 y12.toNatClampNeg) ||| r17)) d0_addLink_81 (fun s18 => ?_)
  refine j_aload_n 0 rfl d0_addLink_82 ?_
  refine j_get fl_X0_36 (cV_g_4_14 x s18) d0_addLink_83 ?_
  refine j_iload_n 1 rfl d0_addLink_86 ?_
  refine j_aaldM0 x d0_addLink_87 (fun h19 => ?_)
  refine j_iload_n 2 rfl d0_addLink_88 ?_
  refine j_iload_n 3 rfl d0_addLink_89 ?_
  refine j_iast (cV_s_m0 x s18 (y13.toNatClampNeg) y14 (y12.toNatClampNeg) h19) d0_addLink_90 (fun s20 => ?_)
  refine j_aload_n 0 rfl d0_addLink_91 ?_
  refine j_get fl_X0_25 (cV_g_4_11 x s20) d0_addLink_92 ?_
  refine j_iload_n 1 rfl d0_addLink_95 ?_
  refine j_dup2 d0_addLink_96 rfl rfl ?_
  refine j_iald (cV_a_43 x s20) d0_addLink_97 ?_
  refine j_iload_n 2 rfl d0_addLink_98 ?_
  refine j_callNi (c10_setOf x n y13 s20) (ln_X0_72 x) ⟨Nat.le_of_ble_eq_true rfl, Nat.le_of_ble_eq_true rfl⟩ d0_addLink_99 rfl (Nat.le_of_ble_eq_true rfl) (fun r22 s21 => ?_)
  refine j_ior d0_addLink_102 ?_
  refine j_iast (cV_s_43 x s21 (y12.toNatClampNeg) ((gA s20 21 y12.toNatClampNeg) ||| r22)) d0_addLink_103 (fun s23 => ?_)
  exact j_sub [0, 1, 2, 4] rfl (j0_addLink_104 x n hq y12 y13 y15 s23)
noncomputable def m0_addLink_52 (n : Nat) (y7 : Int32) (y8 : Int32) (y9 : Int32) (y10 : Int32) (y11 : Int32) (σ : ej_S) : Option (ej_S) := (if y11 = 0 then (m0_addLink_69 n y7 y8 y9 y10 σ) else ej_ck y7 24 (ej_ck y8 24 ((if gM σ 0 (y7.toNatClampNeg) y8.toNatClampNeg ≤ y9 then (m0_addLink_104 n y7 y8 y10 σ) else (m0_addLink_69 n y7 y8 y9 y10 σ)))))
set_option maxRecDepth 20000 in
set_option maxHeartbeats 2000000 in
theorem j0_addLink_52 (x : cw_T) (n : Nat) {F : ej_F} {r0 : ej_S} (hq : ej_fin (cV x) F none none r0) (y7 : Int32) (y8 : Int32) (y9 : Int32) (y10 : Int32) (y11 : Int32) (σ : ej_S) : ej_J (cV x) F i0_addLink r0 σ 52 [(0, .ref (cw_a x 4)), (1, .int y7), (2, .int y8), (3, .int y9), (4, .int y10), (5, .int y11)] [] (m0_addLink_52 n y7 y8 y9 y10 y11 σ) := by
  unfold m0_addLink_52
  refine j_iload 5 rfl d0_addLink_52 ?_
  refine j_if_eq d0_addLink_54 ?_ ?_
  · exact j_sub [0, 1, 2, 3, 4] rfl (j0_addLink_69 x n hq y7 y8 y9 y10 σ)
  · refine j_aload_n 0 rfl d0_addLink_57 ?_
    refine j_get fl_X0_36 (cV_g_4_14 x σ) d0_addLink_58 ?_
    refine j_iload_n 1 rfl d0_addLink_61 ?_
    refine j_aaldM0 x d0_addLink_62 (fun h30 => ?_)
    refine j_iload_n 2 rfl d0_addLink_63 ?_
    refine j_iald (cV_a_m0 x σ (y7.toNatClampNeg) h30) d0_addLink_64 ?_
    refine j_iload_n 3 rfl d0_addLink_65 ?_
    refine j_icmp_le d0_addLink_66 ?_ ?_
    · exact j_sub [0, 1, 2, 4] rfl (j0_addLink_104 x n hq y7 y8 y10 σ)
    · exact j_sub [0, 1, 2, 3, 4] rfl (j0_addLink_69 x n hq y7 y8 y9 y10 σ)
noncomputable def m0_addLink (n : Nat) (a1 : Int32) (a2 : Int32) (a3 : Int32) (a4 : Int32) (σ : ej_S) : Option (ej_S) := ej_bi (m0_has n a1 σ) fun r2 s1 => (if r2 = 0 then (some s1) else ej_bi (m0_has n a2 s1) fun r4 s3 => (if r4 = 0 then (some s3) else (if a1 = a2 then (some s3) else ej_ck a1 24 (ej_bi (m10_holds n (gA s3 20 a1.toNatClampNeg) a2 s3) fun r6 s5 => (if r6 = 0 then (m0_addLink_52 n a1 a2 a3 a4 r6 s5) else ej_ck a1 24 (ej_ck a2 24 ((if a3 ≤ gM s5 0 (a1.toNatClampNeg) a2.toNatClampNeg then (m0_addLink_52 n a1 a2 a3 a4 r6 s5) else (some s5)))))))))
set_option maxRecDepth 20000 in
set_option maxHeartbeats 2000000 in
theorem j0_addLink (x : cw_T) (n : Nat) (a1 : Int32) (a2 : Int32) (a3 : Int32) (a4 : Int32) (σ : ej_S) {F : ej_F} {r0 : ej_S} (hq : ej_fin (cV x) F none none r0) : ej_J (cV x) F i0_addLink r0 σ 0 [(0, .ref (cw_a x 4)), (1, .int a1), (2, .int a2), (3, .int a3), (4, .int a4)] [] (m0_addLink n a1 a2 a3 a4 σ) := by
  unfold m0_addLink
  refine j_aload_n 0 rfl d0_addLink_0 ?_
  refine j_iload_n 1 rfl d0_addLink_1 ?_
  refine j_callVi (c0_has x n a1 σ) lv_X0_76 (cV_rc_4 x σ) ⟨Nat.le_of_ble_eq_true rfl, Nat.le_of_ble_eq_true rfl⟩ d0_addLink_2 rfl (Nat.le_of_ble_eq_true rfl) (fun r2 s1 => ?_)
  refine j_if_eq d0_addLink_5 ?_ ?_
  · exact j_vreturn hq d0_addLink_21
  · refine j_aload_n 0 rfl d0_addLink_8 ?_
    refine j_iload_n 2 rfl d0_addLink_9 ?_
    refine j_callVi (c0_has x n a2 s1) lv_X0_76 (cV_rc_4 x s1) ⟨Nat.le_of_ble_eq_true rfl, Nat.le_of_ble_eq_true rfl⟩ d0_addLink_10 rfl (Nat.le_of_ble_eq_true rfl) (fun r4 s3 => ?_)
    refine j_if_eq d0_addLink_13 ?_ ?_
    · exact j_vreturn hq d0_addLink_21
    · refine j_iload_n 1 rfl d0_addLink_16 ?_
      refine j_iload_n 2 rfl d0_addLink_17 ?_
      refine j_icmp_ne d0_addLink_18 ?_ ?_
      · refine j_aload_n 0 rfl d0_addLink_22 ?_
        refine j_get fl_X0_22 (cV_g_4_10 x s3) d0_addLink_23 ?_
        refine j_iload_n 1 rfl d0_addLink_26 ?_
        refine j_iald (cV_a_42 x s3) d0_addLink_27 ?_
        refine j_iload_n 2 rfl d0_addLink_28 ?_
        refine j_callNi (c10_holds x n (gA s3 20 a1.toNatClampNeg) a2 s3) (ln_X0_80 x) ⟨Nat.le_of_ble_eq_true rfl, Nat.le_of_ble_eq_true rfl⟩ d0_addLink_29 rfl (Nat.le_of_ble_eq_true rfl) (fun r6 s5 => ?_)
        refine j_istore (i := 5) (L' := [(5, .int r6), (0, .ref (cw_a x 4)), (1, .int a1), (2, .int a2), (3, .int a3), (4, .int a4)]) d0_addLink_32 (Nat.le_of_ble_eq_true rfl) rfl ?_
        refine j_iload 0 rfl d0_addLink_34 ?_
        refine j_if_eq d0_addLink_36 ?_ ?_
        · exact j_sub [1, 2, 3, 4, 5, 0] rfl (j0_addLink_52 x n hq a1 a2 a3 a4 r6 s5)
        · refine j_aload_n 1 rfl d0_addLink_39 ?_
          refine j_get fl_X0_36 (cV_g_4_14 x s5) d0_addLink_40 ?_
          refine j_iload_n 2 rfl d0_addLink_43 ?_
          refine j_aaldM0 x d0_addLink_44 (fun h31 => ?_)
          refine j_iload_n 3 rfl d0_addLink_45 ?_
          refine j_iald (cV_a_m0 x s5 (a1.toNatClampNeg) h31) d0_addLink_46 ?_
          refine j_iload_n 4 rfl d0_addLink_47 ?_
          refine j_icmp_ge d0_addLink_48 ?_ ?_
          · exact j_sub [1, 2, 3, 4, 5, 0] rfl (j0_addLink_52 x n hq a1 a2 a3 a4 r6 s5)
          · exact j_vreturn hq d0_addLink_51
      · exact j_vreturn hq d0_addLink_21
theorem c0_addLink (x : cw_T) (n : Nat) (a1 : Int32) (a2 : Int32) (a3 : Int32) (a4 : Int32) (σ : ej_S) : ∀ σ1, m0_addLink n a1 a2 a3 a4 σ = some σ1 → ∀ l, ej_Con l (cV x) i0_addLink yX0_addLink none [.ref (cw_a x 4), .int a1, .int a2, .int a3, .int a4] σ none σ1 := fun σ1 h l => ej_con_of (cV_ok x) pn_X0 rfl (Nat.le_of_ble_eq_true rfl) rfl h (fun F hq => j0_addLink x n a1 a2 a3 a4 σ hq)

noncomputable def m0_addAlias (n : Nat) (a1 : Int32) (a2 : Int32) (σ : ej_S) : Option (ej_S) := ej_bi (m0_has n a1 σ) fun r2 s1 => (if r2 = 0 then (some s1) else ej_bi (m0_has n a2 s1) fun r4 s3 => (if r4 = 0 then (some s3) else (if a1 = a2 then (some s3) else ej_ck a1 24 (ej_bi (m10_setOf n a2 s3) fun r6 s5 => ej_ck a1 24 (ej_nm (uA s5 19 (a1.toNatClampNeg) ((gA s3 19 a1.toNatClampNeg) ||| r6)) fun s7 => ej_ck a2 24 (ej_bi (m10_setOf n a1 s7) fun r9 s8 => ej_ck a2 24 (ej_nm (uA s8 19 (a2.toNatClampNeg) ((gA s7 19 a2.toNatClampNeg) ||| r9)) fun s10 => (some s10))))))))
set_option maxRecDepth 20000 in
set_option maxHeartbeats 2000000 in
theorem j0_addAlias (x : cw_T) (n : Nat) (a1 : Int32) (a2 : Int32) (σ : ej_S) {F : ej_F} {r0 : ej_S} (hq : ej_fin (cV x) F none none r0) : ej_J (cV x) F i0_addAlias r0 σ 0 [(0, .ref (cw_a x 4)), (1, .int a1), (2, .int a2)] [] (m0_addAlias n a1 a2 σ) := by
  unfold m0_addAlias
  refine j_aload_n 0 rfl d0_addAlias_0 ?_
  refine j_iload_n 1 rfl d0_addAlias_1 ?_
  refine j_callVi (c0_has x n a1 σ) lv_X0_76 (cV_rc_4 x σ) ⟨Nat.le_of_ble_eq_true rfl, Nat.le_of_ble_eq_true rfl⟩ d0_addAlias_2 rfl (Nat.le_of_ble_eq_true rfl) (fun r2 s1 => ?_)
  refine j_if_eq d0_addAlias_5 ?_ ?_
  · exact j_vreturn hq d0_addAlias_47
  · refine j_aload_n 0 rfl d0_addAlias_8 ?_
    refine j_iload_n 2 rfl d0_addAlias_9 ?_
    refine j_callVi (c0_has x n a2 s1) lv_X0_76 (cV_rc_4 x s1) ⟨Nat.le_of_ble_eq_true rfl, Nat.le_of_ble_eq_true rfl⟩ d0_addAlias_10 rfl (Nat.le_of_ble_eq_true rfl) (fun r4 s3 => ?_)
    refine j_if_eq d0_addAlias_13 ?_ ?_
    · exact j_vreturn hq d0_addAlias_47
    · refine j_iload_n 1 rfl d0_addAlias_16 ?_
      refine j_iload_n 2 rfl d0_addAlias_17 ?_
      refine j_icmp_eq d0_addAlias_18 ?_ ?_
      · exact j_vreturn hq d0_addAlias_47
      · refine j_aload_n 0 rfl d0_addAlias_21 ?_
        refine j_get fl_X0_19 (cV_g_4_9 x s3) d0_addAlias_22 ?_
        refine j_iload_n 1 rfl d0_addAlias_25 ?_
        refine j_dup2 d0_addAlias_26 rfl rfl ?_
        refine j_iald (cV_a_41 x s3) d0_addAlias_27 ?_
        refine j_iload_n 2 rfl d0_addAlias_28 ?_
        refine j_callNi (c10_setOf x n a2 s3) (ln_X0_72 x) ⟨Nat.le_of_ble_eq_true rfl, Nat.le_of_ble_eq_true rfl⟩ d0_addAlias_29 rfl (Nat.le_of_ble_eq_true rfl) (fun r6 s5 => ?_)
        refine j_ior d0_addAlias_32 ?_
        refine j_iast (cV_s_41 x s5 (a1.toNatClampNeg) ((gA s3 19 a1.toNatClampNeg) ||| r6)) d0_addAlias_33 (fun s7 => ?_)
        refine j_aload_n 0 rfl d0_addAlias_34 ?_
        refine j_get fl_X0_19 (cV_g_4_9 x s7) d0_addAlias_35 ?_
        refine j_iload_n 2 rfl d0_addAlias_38 ?_
        refine j_dup2 d0_addAlias_39 rfl rfl ?_
        refine j_iald (cV_a_41 x s7) d0_addAlias_40 ?_
        refine j_iload_n 1 rfl d0_addAlias_41 ?_
        refine j_callNi (c10_setOf x n a1 s7) (ln_X0_72 x) ⟨Nat.le_of_ble_eq_true rfl, Nat.le_of_ble_eq_true rfl⟩ d0_addAlias_42 rfl (Nat.le_of_ble_eq_true rfl) (fun r9 s8 => ?_)
        refine j_ior d0_addAlias_45 ?_
        refine j_iast (cV_s_41 x s8 (a2.toNatClampNeg) ((gA s7 19 a2.toNatClampNeg) ||| r9)) d0_addAlias_46 (fun s10 => ?_)
        exact j_vreturn hq d0_addAlias_47
theorem c0_addAlias (x : cw_T) (n : Nat) (a1 : Int32) (a2 : Int32) (σ : ej_S) : ∀ σ1, m0_addAlias n a1 a2 σ = some σ1 → ∀ l, ej_Con l (cV x) i0_addAlias yX0_addAlias none [.ref (cw_a x 4), .int a1, .int a2] σ none σ1 := fun σ1 h l => ej_con_of (cV_ok x) pn_X0 rfl (Nat.le_of_ble_eq_true rfl) rfl h (fun F hq => j0_addAlias x n a1 a2 σ hq)

noncomputable def m0_addMembers_117 (n : Nat) (f43 : Int32 → Int32 → Int32 → Int32 → ej_S → Option (ej_S)) (y17 : Int32) (y18 : Int32) (y19 : Int32) (y20 : Int32) (y21 : Int32) (y22 : Int32) (u23 : Nat) (σ : ej_S) : Option (ej_S) := ej_ck y22 24 (ej_nm (uM σ 1 u23 (y22.toNatClampNeg) y21) fun s24 => ej_ck y17 24 (ej_bi (m10_setOf n y20 s24) fun r26 s25 => ej_ck y17 24 (ej_nm (uA s25 23 (y17.toNatClampNeg) ((gA s24 23 y17.toNatClampNeg) ||| r26)) fun s27 => ej_nm (y20 + 1) fun x28 => (f43 y17 y18 y19 x28 s27))))
set_option maxRecDepth 20000 in
set_option maxHeartbeats 2000000 in
theorem j0_addMembers_117 (x : cw_T) (n : Nat) {F : ej_F} {r0 : ej_S} (hq : ej_fin (cV x) F none none r0) (f43 : Int32 → Int32 → Int32 → Int32 → ej_S → Option (ej_S)) (H43 : ∀ (y6 : Int32) (y7 : Int32) (y8 : Int32) (y9 : Int32) (σ : ej_S), ej_J (cV x) F i0_addMembers r0 σ 43 [(0, .ref (cw_a x 4)), (1, .int y6), (2, .int y7), (3, .int y8), (5, .int y9)] [] (f43 y6 y7 y8 y9 σ)) (y17 : Int32) (y18 : Int32) (y19 : Int32) (y20 : Int32) (y21 : Int32) (y22 : Int32) (u23 : Nat) (hu23 : u23 < 24) (σ : ej_S) : ej_J (cV x) F i0_addMembers r0 σ 117 [(0, .ref (cw_a x 4)), (1, .int y17), (2, .int y18), (3, .int y19), (5, .int y20)] [.int y21, .int y22, .ref (cw_a x (130 + u23))] (m0_addMembers_117 n f43 y17 y18 y19 y20 y21 y22 u23 σ) := by
  unfold m0_addMembers_117
  refine j_iast (cV_s_m1 x σ (y22.toNatClampNeg) y21 u23 hu23) d0_addMembers_117 (fun s24 => ?_)
  refine j_aload_n 0 rfl d0_addMembers_118 ?_
  refine j_get fl_X0_31 (cV_g_4_13 x s24) d0_addMembers_119 ?_
  refine j_iload_n 1 rfl d0_addMembers_122 ?_
  refine j_dup2 d0_addMembers_123 rfl rfl ?_
  refine j_iald (cV_a_45 x s24) d0_addMembers_124 ?_
  refine j_iload 4 rfl d0_addMembers_125 ?_
  refine j_callNi (c10_setOf x n y20 s24) (ln_X0_72 x) ⟨Nat.le_of_ble_eq_true rfl, Nat.le_of_ble_eq_true rfl⟩ d0_addMembers_127 rfl (Nat.le_of_ble_eq_true rfl) (fun r26 s25 => ?_)
  refine j_ior d0_addMembers_130 ?_
  refine j_iast (cV_s_45 x s25 (y17.toNatClampNeg) ((gA s24 23 y17.toNatClampNeg) ||| r26)) d0_addMembers_131 (fun s27 => ?_)
  refine j_iinc (i := 5) (v := 1) (Ly := fun x28 => [(5, .int x28), (0, .ref (cw_a x 4)), (1, .int y17), (2, .int y18), (3, .int y19)]) 4 d0_addMembers_132 rfl ejc_1 (Nat.le_of_ble_eq_true rfl) (fun _ => rfl) (fun x28 => ?_)
  refine j_goto d0_addMembers_135 ?_
  exact j_sub [1, 2, 3, 4, 0] rfl (H43 y17 y18 y19 x28 s27)
noncomputable def m0_addMembers_43 (n : Nat) (k : Nat) : Int32 → Int32 → Int32 → Int32 → ej_S → Option (ej_S) := Nat.rec (motive := fun _ => Int32 → Int32 → Int32 → Int32 → ej_S → Option (ej_S)) (fun _ _ _ _ _ => none) (fun _ ih y6 y7 y8 y9 σ => (if gI σ 22 ≤ y9 then (some σ) else (if 24 ≤ y9 then (some σ) else (if y9 = y6 then ej_nm (y9 + 1) fun x10 => (ih y6 y7 y8 x10 σ) else ej_bi (m10_holds n y7 y9 σ) fun r12 s11 => (if r12 = 0 then ej_nm (y9 + 1) fun x13 => (ih y6 y7 y8 x13 s11) else ej_ck y6 24 (ej_bi (m10_holds n (gA s11 23 y6.toNatClampNeg) y9 s11) fun r15 s14 => ej_ck y6 24 ((if r15 = 0 then (m0_addMembers_117 n ih y6 y7 y8 y9 y8 y9 (y6.toNatClampNeg) s14) else ej_ck y6 24 (ej_ck y9 24 ((m0_addMembers_117 n ih y6 y7 y8 y9 (if y8 < gM s14 1 (y6.toNatClampNeg) y9.toNatClampNeg then y8 else gM s14 1 (y6.toNatClampNeg) y9.toNatClampNeg) y9 (y6.toNatClampNeg) s14))))))))))) k
theorem m0_addMembers_43_s (n : Nat) (k : Nat) (y6 : Int32) (y7 : Int32) (y8 : Int32) (y9 : Int32) (σ : ej_S) : m0_addMembers_43 n (k + 1) y6 y7 y8 y9 σ = ((if gI σ 22 ≤ y9 then (some σ) else (if 24 ≤ y9 then (some σ) else (if y9 = y6 then ej_nm (y9 + 1) fun x10 => ((m0_addMembers_43 n k) y6 y7 y8 x10 σ) else ej_bi (m10_holds n y7 y9 σ) fun r12 s11 => (if r12 = 0 then ej_nm (y9 + 1) fun x13 => ((m0_addMembers_43 n k) y6 y7 y8 x13 s11) else ej_ck y6 24 (ej_bi (m10_holds n (gA s11 23 y6.toNatClampNeg) y9 s11) fun r15 s14 => ej_ck y6 24 ((if r15 = 0 then (m0_addMembers_117 n (m0_addMembers_43 n k) y6 y7 y8 y9 y8 y9 (y6.toNatClampNeg) s14) else ej_ck y6 24 (ej_ck y9 24 ((m0_addMembers_117 n (m0_addMembers_43 n k) y6 y7 y8 y9 (if y8 < gM s14 1 (y6.toNatClampNeg) y9.toNatClampNeg then y8 else gM s14 1 (y6.toNatClampNeg) y9.toNatClampNeg) y9 (y6.toNatClampNeg) s14)))))))))) : Option (ej_S)) := rfl
set_option maxRecDepth 20000 in
set_option maxHeartbeats 2000000 in
theorem j0_addMembers_43 (x : cw_T) (n : Nat) {F : ej_F} {r0 : ej_S} (hq : ej_fin (cV x) F none none r0) : ∀ (k : Nat) (y6 : Int32) (y7 : Int32) (y8 : Int32) (y9 : Int32) (σ : ej_S), ej_J (cV x) F i0_addMembers r0 σ 43 [(0, .ref (cw_a x 4)), (1, .int y6), (2, .int y7), (3, .int y8), (5, .int y9)] [] (m0_addMembers_43 n k y6 y7 y8 y9 σ) := by
  intro k
  induction k with
  | zero => intro y6 y7 y8 y9 σ; exact j_none
  | succ k ih =>
    intro y6 y7 y8 y9 σ
    rw [m0_addMembers_43_s]
    refine j_iload 4 rfl d0_addMembers_43 ?_
    refine j_aload_n 0 rfl d0_addMembers_45 ?_
    refine j_get fl_X0_42 (cV_g_4_0 x σ) d0_addMembers_46 ?_
    refine j_icmp_ge d0_addMembers_49 ?_ ?_
    · exact j_vreturn hq d0_addMembers_138
    · refine j_iload 4 rfl d0_addMembers_52 ?_
      refine j_bipush d0_addMembers_54 ejb_24 ?_
      refine j_icmp_ge d0_addMembers_56 ?_ ?_
      · exact j_vreturn hq d0_addMembers_138
      · refine j_iload 4 rfl d0_addMembers_59 ?_
        refine j_iload_n 1 rfl d0_addMembers_61 ?_
        refine j_icmp_eq d0_addMembers_62 ?_ ?_
        · refine j_iinc (i := 5) (v := 1) (Ly := fun x10 => [(5, .int x10), (0, .ref (cw_a x 4)), (1, .int y6), (2, .int y7), (3, .int y8)]) 4 d0_addMembers_132 rfl ejc_1 (Nat.le_of_ble_eq_true rfl) (fun _ => rfl) (fun x10 => ?_)
          refine j_goto d0_addMembers_135 ?_
          exact j_sub [1, 2, 3, 4, 0] rfl (ih y6 y7 y8 x10 σ)
        · refine j_iload_n 2 rfl d0_addMembers_65 ?_
          refine j_iload 4 rfl d0_addMembers_66 ?_
          refine j_callNi (c10_holds x n y7 y9 σ) (ln_X0_80 x) ⟨Nat.le_of_ble_eq_true rfl, Nat.le_of_ble_eq_true rfl⟩ d0_addMembers_68 rfl (Nat.le_of_ble_eq_true rfl) (fun r12 s11 => ?_)
          refine j_if_eq d0_addMembers_71 ?_ ?_
          · refine j_iinc (i := 5) (v := 1) (Ly := fun x13 => [(5, .int x13), (0, .ref (cw_a x 4)), (1, .int y6), (2, .int y7), (3, .int y8)]) 4 d0_addMembers_132 rfl ejc_1 (Nat.le_of_ble_eq_true rfl) (fun _ => rfl) (fun x13 => ?_)
            refine j_goto d0_addMembers_135 ?_
            exact j_sub [1, 2, 3, 4, 0] rfl (ih y6 y7 y8 x13 s11)
          · refine j_aload_n 0 rfl d0_addMembers_74 ?_
            refine j_get fl_X0_31 (cV_g_4_13 x s11) d0_addMembers_75 ?_
            refine j_iload_n 1 rfl d0_addMembers_78 ?_
            refine j_iald (cV_a_45 x s11) d0_addMembers_79 ?_
            refine j_iload 4 rfl d0_addMembers_80 ?_
            refine j_callNi (c10_holds x n (gA s11 23 y6.toNatClampNeg) y9 s11) (ln_X0_80 x) ⟨Nat.le_of_ble_eq_true rfl, Nat.le_of_ble_eq_true rfl⟩ d0_addMembers_82 rfl (Nat.le_of_ble_eq_true rfl) (fun r15 s14 => ?_)
            refine j_istore (i := 6) (L' := [(6, .int r15), (0, .ref (cw_a x 4)), (1, .int y6), (2, .int y7), (3, .int y8), (5, .int y9)]) d0_addMembers_85 (Nat.le_of_ble_eq_true rfl) rfl ?_
            refine j_aload_n 1 rfl d0_addMembers_87 ?_
            refine j_get fl_X0_39 (cV_g_4_15 x s14) d0_addMembers_88 ?_
            refine j_iload_n 2 rfl d0_addMembers_91 ?_
            refine j_aaldM1 x d0_addMembers_92 (fun h16 => ?_)
            refine j_iload 5 rfl d0_addMembers_93 ?_
            refine j_iload 0 rfl d0_addMembers_95 ?_
            refine j_if_eq d0_addMembers_97 ?_ ?_
            · refine j_iload_n 4 rfl d0_addMembers_116 ?_
              exact j_sub [1, 2, 3, 4, 5] rfl (j0_addMembers_117 x n hq (m0_addMembers_43 n k) ih y6 y7 y8 y9 y8 y9 (y6.toNatClampNeg) h16 s14)
            · refine j_aload_n 1 rfl d0_addMembers_100 ?_
              refine j_get fl_X0_39 (cV_g_4_15 x s14) d0_addMembers_101 ?_
              refine j_iload_n 2 rfl d0_addMembers_104 ?_
              refine j_aaldM1 x d0_addMembers_105 (fun h29 => ?_)
              refine j_iload 5 rfl d0_addMembers_106 ?_
              refine j_iald (cV_a_m1 x s14 (y6.toNatClampNeg) h29) d0_addMembers_108 ?_
              refine j_iload_n 4 rfl d0_addMembers_109 ?_
              refine j_mmin ma_X0_84 ma_st_mmin ma_in ma_co_mmin ⟨Nat.le_of_ble_eq_true rfl, Nat.le_of_ble_eq_true rfl⟩ (Nat.le_of_ble_eq_true rfl) d0_addMembers_110 ?_
              refine j_goto d0_addMembers_113 ?_
              exact j_sub [1, 2, 3, 4, 5] rfl (j0_addMembers_117 x n hq (m0_addMembers_43 n k) ih y6 y7 y8 y9 (if y8 < gM s14 1 (y6.toNatClampNeg) y9.toNatClampNeg then y8 else gM s14 1 (y6.toNatClampNeg) y9.toNatClampNeg) y9 (y6.toNatClampNeg) h16 s14)
noncomputable def m0_addMembers (n : Nat) (a1 : Int32) (a2 : Int32) (a3 : Int32) (a4 : Int32) (σ : ej_S) : Option (ej_S) := ej_bi (m0_has n a1 σ) fun r2 s1 => (if r2 = 0 then (some s1) else ej_bi (m10_setOf n a1 s1) fun r4 s3 => ej_nm (uI s3 25 ((gI s1 25) ||| r4)) fun s5 => (if a4 = 0 then ej_bi (m10_setOf n a1 s5) fun r31 s30 => ej_nm (uI s30 26 ((gI s5 26) ||| r31)) fun s32 => (m0_addMembers_43 n n a1 a2 a3 0 s32) else (m0_addMembers_43 n n a1 a2 a3 0 s5)))
set_option maxRecDepth 20000 in
set_option maxHeartbeats 2000000 in
theorem j0_addMembers (x : cw_T) (n : Nat) (a1 : Int32) (a2 : Int32) (a3 : Int32) (a4 : Int32) (σ : ej_S) {F : ej_F} {r0 : ej_S} (hq : ej_fin (cV x) F none none r0) : ej_J (cV x) F i0_addMembers r0 σ 0 [(0, .ref (cw_a x 4)), (1, .int a1), (2, .int a2), (3, .int a3), (4, .int a4)] [] (m0_addMembers n a1 a2 a3 a4 σ) := by
  unfold m0_addMembers
  refine j_aload_n 0 rfl d0_addMembers_0 ?_
  refine j_iload_n 1 rfl d0_addMembers_1 ?_
  refine j_callVi (c0_has x n a1 σ) lv_X0_76 (cV_rc_4 x σ) ⟨Nat.le_of_ble_eq_true rfl, Nat.le_of_ble_eq_true rfl⟩ d0_addMembers_2 rfl (Nat.le_of_ble_eq_true rfl) (fun r2 s1 => ?_)
  refine j_if_ne d0_addMembers_5 ?_ ?_
  · refine j_aload_n 0 rfl d0_addMembers_9 ?_
    refine j_dup d0_addMembers_10 rfl ?_
    refine j_get fl_X0_53 (cV_g_4_5 x s1) d0_addMembers_11 ?_
    refine j_iload_n 1 rfl d0_addMembers_14 ?_
    refine j_callNi (c10_setOf x n a1 s1) (ln_X0_72 x) ⟨Nat.le_of_ble_eq_true rfl, Nat.le_of_ble_eq_true rfl⟩ d0_addMembers_15 rfl (Nat.le_of_ble_eq_true rfl) (fun r4 s3 => ?_)
    refine j_ior d0_addMembers_18 ?_
    refine j_put fl_X0_53 (cV_p_4_5 x s3 ((gI s1 25) ||| r4)) rfl rfl d0_addMembers_19 (fun s5 => ?_)
    refine j_iload 4 rfl d0_addMembers_22 ?_
    refine j_if_ne d0_addMembers_24 ?_ ?_
    · refine j_iconst d0_addMembers_40 ejc_0 ?_
      refine j_istore (i := 5) (L' := [(5, .int 0), (0, .ref (cw_a x 4)), (1, .int a1), (2, .int a2), (3, .int a3), (4, .int a4)]) d0_addMembers_41 (Nat.le_of_ble_eq_true rfl) rfl ?_
      exact j_sub [1, 2, 3, 4, 0] rfl (j0_addMembers_43 x n hq n a1 a2 a3 0 s5)
    · refine j_aload_n 0 rfl d0_addMembers_27 ?_
      refine j_dup d0_addMembers_28 rfl ?_
      refine j_get fl_X0_56 (cV_g_4_6 x s5) d0_addMembers_29 ?_
      refine j_iload_n 1 rfl d0_addMembers_32 ?_
      refine j_callNi (c10_setOf x n a1 s5) (ln_X0_72 x) ⟨Nat.le_of_ble_eq_true rfl, Nat.le_of_ble_eq_true rfl⟩ d0_addMembers_33 rfl (Nat.le_of_ble_eq_true rfl) (fun r31 s30 => ?_)
      refine j_ior d0_addMembers_36 ?_
      refine j_put fl_X0_56 (cV_p_4_6 x s30 ((gI s5 26) ||| r31)) rfl rfl d0_addMembers_37 (fun s32 => ?_)
      refine j_iconst d0_addMembers_40 ejc_0 ?_
      refine j_istore (i := 5) (L' := [(5, .int 0), (0, .ref (cw_a x 4)), (1, .int a1), (2, .int a2), (3, .int a3), (4, .int a4)]) d0_addMembers_41 (Nat.le_of_ble_eq_true rfl) rfl ?_
      exact j_sub [1, 2, 3, 4, 0] rfl (j0_addMembers_43 x n hq n a1 a2 a3 0 s32)
  · exact j_vreturn hq d0_addMembers_8
theorem c0_addMembers (x : cw_T) (n : Nat) (a1 : Int32) (a2 : Int32) (a3 : Int32) (a4 : Int32) (σ : ej_S) : ∀ σ1, m0_addMembers n a1 a2 a3 a4 σ = some σ1 → ∀ l, ej_Con l (cV x) i0_addMembers yX0_addMembers none [.ref (cw_a x 4), .int a1, .int a2, .int a3, .int a4] σ none σ1 := fun σ1 h l => ej_con_of (cV_ok x) pn_X0 rfl (Nat.le_of_ble_eq_true rfl) rfl h (fun F hq => j0_addMembers x n a1 a2 a3 a4 σ hq)

noncomputable def m0_gate (n : Nat) (a1 : Int32) (σ : ej_S) : Option (ej_S) := ej_bi (m10_setOf n a1 σ) fun r2 s1 => ej_nm (uI s1 27 ((gI σ 27) ||| r2)) fun s3 => (some s3)
set_option maxRecDepth 20000 in
set_option maxHeartbeats 2000000 in
theorem j0_gate (x : cw_T) (n : Nat) (a1 : Int32) (σ : ej_S) {F : ej_F} {r0 : ej_S} (hq : ej_fin (cV x) F none none r0) : ej_J (cV x) F i0_gate r0 σ 0 [(0, .ref (cw_a x 4)), (1, .int a1)] [] (m0_gate n a1 σ) := by
  unfold m0_gate
  refine j_aload_n 0 rfl d0_gate_0 ?_
  refine j_dup d0_gate_1 rfl ?_
  refine j_get fl_X0_59 (cV_g_4_7 x σ) d0_gate_2 ?_
  refine j_iload_n 1 rfl d0_gate_5 ?_
  refine j_callNi (c10_setOf x n a1 σ) (ln_X0_72 x) ⟨Nat.le_of_ble_eq_true rfl, Nat.le_of_ble_eq_true rfl⟩ d0_gate_6 rfl (Nat.le_of_ble_eq_true rfl) (fun r2 s1 => ?_)
  refine j_ior d0_gate_9 ?_
  refine j_put fl_X0_59 (cV_p_4_7 x s1 ((gI σ 27) ||| r2)) rfl rfl d0_gate_10 (fun s3 => ?_)
  exact j_vreturn hq d0_gate_13
theorem c0_gate (x : cw_T) (n : Nat) (a1 : Int32) (σ : ej_S) : ∀ σ1, m0_gate n a1 σ = some σ1 → ∀ l, ej_Con l (cV x) i0_gate yX0_gate none [.ref (cw_a x 4), .int a1] σ none σ1 := fun σ1 h l => ej_con_of (cV_ok x) pn_X0 rfl (Nat.le_of_ble_eq_true rfl) rfl h (fun F hq => j0_gate x n a1 σ hq)

noncomputable def m0_kill (n : Nat) (a1 : Int32) (σ : ej_S) : Option (ej_S) := ej_bi (m10_setOf n a1 σ) fun r2 s1 => ej_nm (uI s1 28 ((gI σ 28) ||| r2)) fun s3 => (some s3)
set_option maxRecDepth 20000 in
set_option maxHeartbeats 2000000 in
theorem j0_kill (x : cw_T) (n : Nat) (a1 : Int32) (σ : ej_S) {F : ej_F} {r0 : ej_S} (hq : ej_fin (cV x) F none none r0) : ej_J (cV x) F i0_kill r0 σ 0 [(0, .ref (cw_a x 4)), (1, .int a1)] [] (m0_kill n a1 σ) := by
  unfold m0_kill
  refine j_aload_n 0 rfl d0_kill_0 ?_
  refine j_dup d0_kill_1 rfl ?_
  refine j_get fl_X0_62 (cV_g_4_8 x σ) d0_kill_2 ?_
  refine j_iload_n 1 rfl d0_kill_5 ?_
  refine j_callNi (c10_setOf x n a1 σ) (ln_X0_72 x) ⟨Nat.le_of_ble_eq_true rfl, Nat.le_of_ble_eq_true rfl⟩ d0_kill_6 rfl (Nat.le_of_ble_eq_true rfl) (fun r2 s1 => ?_)
  refine j_ior d0_kill_9 ?_
  refine j_put fl_X0_62 (cV_p_4_8 x s1 ((gI σ 28) ||| r2)) rfl rfl d0_kill_10 (fun s3 => ?_)
  exact j_vreturn hq d0_kill_13
theorem c0_kill (x : cw_T) (n : Nat) (a1 : Int32) (σ : ej_S) : ∀ σ1, m0_kill n a1 σ = some σ1 → ∀ l, ej_Con l (cV x) i0_kill yX0_kill none [.ref (cw_a x 4), .int a1] σ none σ1 := fun σ1 h l => ej_con_of (cV_ok x) pn_X0 rfl (Nat.le_of_ble_eq_true rfl) rfl h (fun F hq => j0_kill x n a1 σ hq)

noncomputable def m0_killLink (n : Nat) (a1 : Int32) (a2 : Int32) (σ : ej_S) : Option (ej_S) := ej_bi (m0_has n a1 σ) fun r2 s1 => (if r2 = 0 then (some s1) else ej_ck a1 24 (ej_bi (m10_setOf n a2 s1) fun r4 s3 => ej_ck a1 24 (ej_nm (uA s3 22 (a1.toNatClampNeg) ((gA s1 22 a1.toNatClampNeg) ||| r4)) fun s5 => (some s5))))
set_option maxRecDepth 20000 in
set_option maxHeartbeats 2000000 in
theorem j0_killLink (x : cw_T) (n : Nat) (a1 : Int32) (a2 : Int32) (σ : ej_S) {F : ej_F} {r0 : ej_S} (hq : ej_fin (cV x) F none none r0) : ej_J (cV x) F i0_killLink r0 σ 0 [(0, .ref (cw_a x 4)), (1, .int a1), (2, .int a2)] [] (m0_killLink n a1 a2 σ) := by
  unfold m0_killLink
  refine j_aload_n 0 rfl d0_killLink_0 ?_
  refine j_iload_n 1 rfl d0_killLink_1 ?_
  refine j_callVi (c0_has x n a1 σ) lv_X0_76 (cV_rc_4 x σ) ⟨Nat.le_of_ble_eq_true rfl, Nat.le_of_ble_eq_true rfl⟩ d0_killLink_2 rfl (Nat.le_of_ble_eq_true rfl) (fun r2 s1 => ?_)
  refine j_if_eq d0_killLink_5 ?_ ?_
  · exact j_vreturn hq d0_killLink_21
  · refine j_aload_n 0 rfl d0_killLink_8 ?_
    refine j_get fl_X0_28 (cV_g_4_12 x s1) d0_killLink_9 ?_
    refine j_iload_n 1 rfl d0_killLink_12 ?_
    refine j_dup2 d0_killLink_13 rfl rfl ?_
    refine j_iald (cV_a_44 x s1) d0_killLink_14 ?_
    refine j_iload_n 2 rfl d0_killLink_15 ?_
    refine j_callNi (c10_setOf x n a2 s1) (ln_X0_72 x) ⟨Nat.le_of_ble_eq_true rfl, Nat.le_of_ble_eq_true rfl⟩ d0_killLink_16 rfl (Nat.le_of_ble_eq_true rfl) (fun r4 s3 => ?_)
    refine j_ior d0_killLink_19 ?_
    refine j_iast (cV_s_44 x s3 (a1.toNatClampNeg) ((gA s1 22 a1.toNatClampNeg) ||| r4)) d0_killLink_20 (fun s5 => ?_)
    exact j_vreturn hq d0_killLink_21
theorem c0_killLink (x : cw_T) (n : Nat) (a1 : Int32) (a2 : Int32) (σ : ej_S) : ∀ σ1, m0_killLink n a1 a2 σ = some σ1 → ∀ l, ej_Con l (cV x) i0_killLink yX0_killLink none [.ref (cw_a x 4), .int a1, .int a2] σ none σ1 := fun σ1 h l => ej_con_of (cV_ok x) pn_X0 rfl (Nat.le_of_ble_eq_true rfl) rfl h (fun F hq => j0_killLink x n a1 a2 σ hq)

noncomputable def m0_nameOf (n : Nat) (a1 : Int32) (σ : ej_S) : Option (Int64 × ej_S) := ej_bi (m0_has n a1 σ) fun r2 s1 => (if r2 = 0 then (some (0, s1)) else ej_ck a1 24 ((some (gB s1 1 a1.toNatClampNeg, s1))))
set_option maxRecDepth 20000 in
set_option maxHeartbeats 2000000 in
theorem j0_nameOf (x : cw_T) (n : Nat) (a1 : Int32) (σ : ej_S) {F : ej_F} {r0 : Int64 × ej_S} (hq : ej_fin (cV x) F (some .long) (some (.long r0.1)) r0.2) : ej_J (cV x) F i0_nameOf r0 σ 0 [(0, .ref (cw_a x 4)), (1, .int a1)] [] (m0_nameOf n a1 σ) := by
  unfold m0_nameOf
  refine j_aload_n 0 rfl d0_nameOf_0 ?_
  refine j_iload_n 1 rfl d0_nameOf_1 ?_
  refine j_callVi (c0_has x n a1 σ) lv_X0_76 (cV_rc_4 x σ) ⟨Nat.le_of_ble_eq_true rfl, Nat.le_of_ble_eq_true rfl⟩ d0_nameOf_2 rfl (Nat.le_of_ble_eq_true rfl) (fun r2 s1 => ?_)
  refine j_if_eq d0_nameOf_5 ?_ ?_
  · refine j_lconst d0_nameOf_17 ejl_0 ?_
    exact j_lreturn hq d0_nameOf_18
  · refine j_aload_n 0 rfl d0_nameOf_8 ?_
    refine j_get fl_X0_9 (cV_g_4_2 x s1) d0_nameOf_9 ?_
    refine j_iload_n 1 rfl d0_nameOf_12 ?_
    refine j_lald (cV_a_39 x s1) d0_nameOf_13 ?_
    refine j_goto d0_nameOf_14 ?_
    exact j_lreturn hq d0_nameOf_18
theorem c0_nameOf (x : cw_T) (n : Nat) (a1 : Int32) (σ : ej_S) : ∀ r σ1, m0_nameOf n a1 σ = some (r, σ1) → ∀ l, ej_Con l (cV x) i0_nameOf yX0_nameOf (some .long) [.ref (cw_a x 4), .int a1] σ (some (.long r)) σ1 := fun r σ1 h l => ej_con_of (cV_ok x) pn_X0 rfl (Nat.le_of_ble_eq_true rfl) rfl h (fun F hq => j0_nameOf x n a1 σ hq)

noncomputable def m0_isOwned (n : Nat) (a1 : Int32) (σ : ej_S) : Option (Int32 × ej_S) := ej_bi (m0_has n a1 σ) fun r2 s1 => (if r2 = 0 then (some (0, s1)) else ej_ck a1 24 ((if gA s1 18 a1.toNatClampNeg = (-1) then (some (0, s1)) else (some (1, s1)))))
set_option maxRecDepth 20000 in
set_option maxHeartbeats 2000000 in
theorem j0_isOwned (x : cw_T) (n : Nat) (a1 : Int32) (σ : ej_S) {F : ej_F} {r0 : Int32 × ej_S} (hq : ej_fin (cV x) F (some .boolean) (some (.int r0.1)) r0.2) : ej_J (cV x) F i0_isOwned r0 σ 0 [(0, .ref (cw_a x 4)), (1, .int a1)] [] (m0_isOwned n a1 σ) := by
  unfold m0_isOwned
  refine j_aload_n 0 rfl d0_isOwned_0 ?_
  refine j_iload_n 1 rfl d0_isOwned_1 ?_
  refine j_callVi (c0_has x n a1 σ) lv_X0_76 (cV_rc_4 x σ) ⟨Nat.le_of_ble_eq_true rfl, Nat.le_of_ble_eq_true rfl⟩ d0_isOwned_2 rfl (Nat.le_of_ble_eq_true rfl) (fun r2 s1 => ?_)
  refine j_if_eq d0_isOwned_5 ?_ ?_
  · refine j_iconst d0_isOwned_22 ejc_0 ?_
    exact j_zreturn0 hq d0_isOwned_23
  · refine j_aload_n 0 rfl d0_isOwned_8 ?_
    refine j_get fl_X0_15 (cV_g_4_3 x s1) d0_isOwned_9 ?_
    refine j_iload_n 1 rfl d0_isOwned_12 ?_
    refine j_iald (cV_a_40 x s1) d0_isOwned_13 ?_
    refine j_iconst d0_isOwned_14 ejc_m1 ?_
    refine j_icmp_eq d0_isOwned_15 ?_ ?_
    · refine j_iconst d0_isOwned_22 ejc_0 ?_
      exact j_zreturn0 hq d0_isOwned_23
    · refine j_iconst d0_isOwned_18 ejc_1 ?_
      refine j_goto d0_isOwned_19 ?_
      exact j_zreturn1 hq d0_isOwned_23
theorem c0_isOwned (x : cw_T) (n : Nat) (a1 : Int32) (σ : ej_S) : ∀ r σ1, m0_isOwned n a1 σ = some (r, σ1) → ∀ l, ej_Con l (cV x) i0_isOwned yX0_isOwned (some .boolean) [.ref (cw_a x 4), .int a1] σ (some (.int r)) σ1 := fun r σ1 h l => ej_con_of (cV_ok x) pn_X0 rfl (Nat.le_of_ble_eq_true rfl) rfl h (fun F hq => j0_isOwned x n a1 σ hq)

noncomputable def m0_isDomain (n : Nat) (a1 : Int32) (σ : ej_S) : Option (Int32 × ej_S) := ej_bi (m10_holds n (gI σ 24) a1 σ) fun r2 s1 => (some (ej_bz r2, s1))
set_option maxRecDepth 20000 in
set_option maxHeartbeats 2000000 in
theorem j0_isDomain (x : cw_T) (n : Nat) (a1 : Int32) (σ : ej_S) {F : ej_F} {r0 : Int32 × ej_S} (hq : ej_fin (cV x) F (some .boolean) (some (.int r0.1)) r0.2) : ej_J (cV x) F i0_isDomain r0 σ 0 [(0, .ref (cw_a x 4)), (1, .int a1)] [] (m0_isDomain n a1 σ) := by
  unfold m0_isDomain
  refine j_aload_n 0 rfl d0_isDomain_0 ?_
  refine j_get fl_X0_50 (cV_g_4_4 x σ) d0_isDomain_1 ?_
  refine j_iload_n 1 rfl d0_isDomain_4 ?_
  refine j_callNi (c10_holds x n (gI σ 24) a1 σ) (ln_X0_80 x) ⟨Nat.le_of_ble_eq_true rfl, Nat.le_of_ble_eq_true rfl⟩ d0_isDomain_5 rfl (Nat.le_of_ble_eq_true rfl) (fun r2 s1 => ?_)
  exact j_zreturn hq d0_isDomain_8
theorem c0_isDomain (x : cw_T) (n : Nat) (a1 : Int32) (σ : ej_S) : ∀ r σ1, m0_isDomain n a1 σ = some (r, σ1) → ∀ l, ej_Con l (cV x) i0_isDomain yX0_isDomain (some .boolean) [.ref (cw_a x 4), .int a1] σ (some (.int r)) σ1 := fun r σ1 h l => ej_con_of (cV_ok x) pn_X0 rfl (Nat.le_of_ble_eq_true rfl) rfl h (fun F hq => j0_isDomain x n a1 σ hq)

noncomputable def m0_kindOf (n : Nat) (a1 : Int32) (σ : ej_S) : Option (Int32 × ej_S) := ej_bi (m10_holds n (gI σ 24) a1 σ) fun r2 s1 => (if r2 = 0 then ej_bi (m10_holds n (gI s1 25) a1 s1) fun r4 s3 => (if r4 = 0 then (some (0, s3)) else (some (1, s3))) else (some (2, s1)))
set_option maxRecDepth 20000 in
set_option maxHeartbeats 2000000 in
theorem j0_kindOf (x : cw_T) (n : Nat) (a1 : Int32) (σ : ej_S) {F : ej_F} {r0 : Int32 × ej_S} (hq : ej_fin (cV x) F (some .int) (some (.int r0.1)) r0.2) : ej_J (cV x) F i0_kindOf r0 σ 0 [(0, .ref (cw_a x 4)), (1, .int a1)] [] (m0_kindOf n a1 σ) := by
  unfold m0_kindOf
  refine j_aload_n 0 rfl d0_kindOf_0 ?_
  refine j_get fl_X0_50 (cV_g_4_4 x σ) d0_kindOf_1 ?_
  refine j_iload_n 1 rfl d0_kindOf_4 ?_
  refine j_callNi (c10_holds x n (gI σ 24) a1 σ) (ln_X0_80 x) ⟨Nat.le_of_ble_eq_true rfl, Nat.le_of_ble_eq_true rfl⟩ d0_kindOf_5 rfl (Nat.le_of_ble_eq_true rfl) (fun r2 s1 => ?_)
  refine j_if_eq d0_kindOf_8 ?_ ?_
  · refine j_aload_n 0 rfl d0_kindOf_13 ?_
    refine j_get fl_X0_53 (cV_g_4_5 x s1) d0_kindOf_14 ?_
    refine j_iload_n 1 rfl d0_kindOf_17 ?_
    refine j_callNi (c10_holds x n (gI s1 25) a1 s1) (ln_X0_80 x) ⟨Nat.le_of_ble_eq_true rfl, Nat.le_of_ble_eq_true rfl⟩ d0_kindOf_18 rfl (Nat.le_of_ble_eq_true rfl) (fun r4 s3 => ?_)
    refine j_if_eq d0_kindOf_21 ?_ ?_
    · refine j_iconst d0_kindOf_28 ejc_0 ?_
      exact j_ireturn hq d0_kindOf_29
    · refine j_iconst d0_kindOf_24 ejc_1 ?_
      refine j_goto d0_kindOf_25 ?_
      exact j_ireturn hq d0_kindOf_29
  · refine j_iconst d0_kindOf_11 ejc_2 ?_
    exact j_ireturn hq d0_kindOf_12
theorem c0_kindOf (x : cw_T) (n : Nat) (a1 : Int32) (σ : ej_S) : ∀ r σ1, m0_kindOf n a1 σ = some (r, σ1) → ∀ l, ej_Con l (cV x) i0_kindOf yX0_kindOf (some .int) [.ref (cw_a x 4), .int a1] σ (some (.int r)) σ1 := fun r σ1 h l => ej_con_of (cV_ok x) pn_X0 rfl (Nat.le_of_ble_eq_true rfl) rfl h (fun F hq => j0_kindOf x n a1 σ hq)

noncomputable def m0_isAlias (n : Nat) (a1 : Int32) (a2 : Int32) (σ : ej_S) : Option (Int32 × ej_S) := ej_bi (m0_has n a1 σ) fun r2 s1 => (if r2 = 0 then (some (0, s1)) else ej_ck a1 24 (ej_bi (m10_holds n (gA s1 19 a1.toNatClampNeg) a2 s1) fun r4 s3 => (if r4 = 0 then (some (0, s3)) else (some (1, s3)))))
set_option maxRecDepth 20000 in
set_option maxHeartbeats 2000000 in
theorem j0_isAlias (x : cw_T) (n : Nat) (a1 : Int32) (a2 : Int32) (σ : ej_S) {F : ej_F} {r0 : Int32 × ej_S} (hq : ej_fin (cV x) F (some .boolean) (some (.int r0.1)) r0.2) : ej_J (cV x) F i0_isAlias r0 σ 0 [(0, .ref (cw_a x 4)), (1, .int a1), (2, .int a2)] [] (m0_isAlias n a1 a2 σ) := by
  unfold m0_isAlias
  refine j_aload_n 0 rfl d0_isAlias_0 ?_
  refine j_iload_n 1 rfl d0_isAlias_1 ?_
  refine j_callVi (c0_has x n a1 σ) lv_X0_76 (cV_rc_4 x σ) ⟨Nat.le_of_ble_eq_true rfl, Nat.le_of_ble_eq_true rfl⟩ d0_isAlias_2 rfl (Nat.le_of_ble_eq_true rfl) (fun r2 s1 => ?_)
  refine j_if_eq d0_isAlias_5 ?_ ?_
  · refine j_iconst d0_isAlias_25 ejc_0 ?_
    exact j_zreturn0 hq d0_isAlias_26
  · refine j_aload_n 0 rfl d0_isAlias_8 ?_
    refine j_get fl_X0_19 (cV_g_4_9 x s1) d0_isAlias_9 ?_
    refine j_iload_n 1 rfl d0_isAlias_12 ?_
    refine j_iald (cV_a_41 x s1) d0_isAlias_13 ?_
    refine j_iload_n 2 rfl d0_isAlias_14 ?_
    refine j_callNi (c10_holds x n (gA s1 19 a1.toNatClampNeg) a2 s1) (ln_X0_80 x) ⟨Nat.le_of_ble_eq_true rfl, Nat.le_of_ble_eq_true rfl⟩ d0_isAlias_15 rfl (Nat.le_of_ble_eq_true rfl) (fun r4 s3 => ?_)
    refine j_if_eq d0_isAlias_18 ?_ ?_
    · refine j_iconst d0_isAlias_25 ejc_0 ?_
      exact j_zreturn0 hq d0_isAlias_26
    · refine j_iconst d0_isAlias_21 ejc_1 ?_
      refine j_goto d0_isAlias_22 ?_
      exact j_zreturn1 hq d0_isAlias_26
theorem c0_isAlias (x : cw_T) (n : Nat) (a1 : Int32) (a2 : Int32) (σ : ej_S) : ∀ r σ1, m0_isAlias n a1 a2 σ = some (r, σ1) → ∀ l, ej_Con l (cV x) i0_isAlias yX0_isAlias (some .boolean) [.ref (cw_a x 4), .int a1, .int a2] σ (some (.int r)) σ1 := fun r σ1 h l => ej_con_of (cV_ok x) pn_X0 rfl (Nat.le_of_ble_eq_true rfl) rfl h (fun F hq => j0_isAlias x n a1 a2 σ hq)

noncomputable def m0_priceOfLink (n : Nat) (a1 : Int32) (a2 : Int32) (σ : ej_S) : Option (Int32 × ej_S) := ej_bi (m0_has n a1 σ) fun r2 s1 => (if r2 = 0 then (some ((-1), s1)) else ej_bi (m0_has n a2 s1) fun r4 s3 => (if r4 = 0 then (some ((-1), s3)) else ej_ck a1 24 (ej_bi (m10_holds n (gA s3 20 a1.toNatClampNeg) a2 s3) fun r6 s5 => (if r6 = 0 then (some ((-1), s5)) else ej_ck a1 24 (ej_ck a2 24 ((some (gM s5 0 (a1.toNatClampNeg) a2.toNatClampNeg, s5))))))))
set_option maxRecDepth 20000 in
set_option maxHeartbeats 2000000 in
theorem j0_priceOfLink (x : cw_T) (n : Nat) (a1 : Int32) (a2 : Int32) (σ : ej_S) {F : ej_F} {r0 : Int32 × ej_S} (hq : ej_fin (cV x) F (some .int) (some (.int r0.1)) r0.2) : ej_J (cV x) F i0_priceOfLink r0 σ 0 [(0, .ref (cw_a x 4)), (1, .int a1), (2, .int a2)] [] (m0_priceOfLink n a1 a2 σ) := by
  unfold m0_priceOfLink
  refine j_aload_n 0 rfl d0_priceOfLink_0 ?_
  refine j_iload_n 1 rfl d0_priceOfLink_1 ?_
  refine j_callVi (c0_has x n a1 σ) lv_X0_76 (cV_rc_4 x σ) ⟨Nat.le_of_ble_eq_true rfl, Nat.le_of_ble_eq_true rfl⟩ d0_priceOfLink_2 rfl (Nat.le_of_ble_eq_true rfl) (fun r2 s1 => ?_)
  refine j_if_eq d0_priceOfLink_5 ?_ ?_
  · refine j_iconst d0_priceOfLink_40 ejc_m1 ?_
    exact j_ireturn hq d0_priceOfLink_41
  · refine j_aload_n 0 rfl d0_priceOfLink_8 ?_
    refine j_iload_n 2 rfl d0_priceOfLink_9 ?_
    refine j_callVi (c0_has x n a2 s1) lv_X0_76 (cV_rc_4 x s1) ⟨Nat.le_of_ble_eq_true rfl, Nat.le_of_ble_eq_true rfl⟩ d0_priceOfLink_10 rfl (Nat.le_of_ble_eq_true rfl) (fun r4 s3 => ?_)
    refine j_if_eq d0_priceOfLink_13 ?_ ?_
    · refine j_iconst d0_priceOfLink_40 ejc_m1 ?_
      exact j_ireturn hq d0_priceOfLink_41
    · refine j_aload_n 0 rfl d0_priceOfLink_16 ?_
      refine j_get fl_X0_22 (cV_g_4_10 x s3) d0_priceOfLink_17 ?_
      refine j_iload_n 1 rfl d0_priceOfLink_20 ?_
      refine j_iald (cV_a_42 x s3) d0_priceOfLink_21 ?_
      refine j_iload_n 2 rfl d0_priceOfLink_22 ?_
      refine j_callNi (c10_holds x n (gA s3 20 a1.toNatClampNeg) a2 s3) (ln_X0_80 x) ⟨Nat.le_of_ble_eq_true rfl, Nat.le_of_ble_eq_true rfl⟩ d0_priceOfLink_23 rfl (Nat.le_of_ble_eq_true rfl) (fun r6 s5 => ?_)
      refine j_if_eq d0_priceOfLink_26 ?_ ?_
      · refine j_iconst d0_priceOfLink_40 ejc_m1 ?_
        exact j_ireturn hq d0_priceOfLink_41
      · refine j_aload_n 0 rfl d0_priceOfLink_29 ?_
        refine j_get fl_X0_36 (cV_g_4_14 x s5) d0_priceOfLink_30 ?_
        refine j_iload_n 1 rfl d0_priceOfLink_33 ?_
        refine j_aaldM0 x d0_priceOfLink_34 (fun h7 => ?_)
        refine j_iload_n 2 rfl d0_priceOfLink_35 ?_
        refine j_iald (cV_a_m0 x s5 (a1.toNatClampNeg) h7) d0_priceOfLink_36 ?_
        refine j_goto d0_priceOfLink_37 ?_
        exact j_ireturn hq d0_priceOfLink_41
theorem c0_priceOfLink (x : cw_T) (n : Nat) (a1 : Int32) (a2 : Int32) (σ : ej_S) : ∀ r σ1, m0_priceOfLink n a1 a2 σ = some (r, σ1) → ∀ l, ej_Con l (cV x) i0_priceOfLink yX0_priceOfLink (some .int) [.ref (cw_a x 4), .int a1, .int a2] σ (some (.int r)) σ1 := fun r σ1 h l => ej_con_of (cV_ok x) pn_X0 rfl (Nat.le_of_ble_eq_true rfl) rfl h (fun F hq => j0_priceOfLink x n a1 a2 σ hq)

noncomputable def m0_priceOfMember (n : Nat) (a1 : Int32) (a2 : Int32) (σ : ej_S) : Option (Int32 × ej_S) := ej_bi (m0_has n a1 σ) fun r2 s1 => (if r2 = 0 then (some ((-1), s1)) else ej_bi (m0_has n a2 s1) fun r4 s3 => (if r4 = 0 then (some ((-1), s3)) else ej_ck a2 24 (ej_bi (m10_holds n (gA s3 23 a2.toNatClampNeg) a1 s3) fun r6 s5 => (if r6 = 0 then (some ((-1), s5)) else ej_ck a2 24 (ej_ck a1 24 ((some (gM s5 1 (a2.toNatClampNeg) a1.toNatClampNeg, s5))))))))
set_option maxRecDepth 20000 in
set_option maxHeartbeats 2000000 in
theorem j0_priceOfMember (x : cw_T) (n : Nat) (a1 : Int32) (a2 : Int32) (σ : ej_S) {F : ej_F} {r0 : Int32 × ej_S} (hq : ej_fin (cV x) F (some .int) (some (.int r0.1)) r0.2) : ej_J (cV x) F i0_priceOfMember r0 σ 0 [(0, .ref (cw_a x 4)), (1, .int a1), (2, .int a2)] [] (m0_priceOfMember n a1 a2 σ) := by
  unfold m0_priceOfMember
  refine j_aload_n 0 rfl d0_priceOfMember_0 ?_
  refine j_iload_n 1 rfl d0_priceOfMember_1 ?_
  refine j_callVi (c0_has x n a1 σ) lv_X0_76 (cV_rc_4 x σ) ⟨Nat.le_of_ble_eq_true rfl, Nat.le_of_ble_eq_true rfl⟩ d0_priceOfMember_2 rfl (Nat.le_of_ble_eq_true rfl) (fun r2 s1 => ?_)
  refine j_if_eq d0_priceOfMember_5 ?_ ?_
  · refine j_iconst d0_priceOfMember_40 ejc_m1 ?_
    exact j_ireturn hq d0_priceOfMember_41
  · refine j_aload_n 0 rfl d0_priceOfMember_8 ?_
    refine j_iload_n 2 rfl d0_priceOfMember_9 ?_
    refine j_callVi (c0_has x n a2 s1) lv_X0_76 (cV_rc_4 x s1) ⟨Nat.le_of_ble_eq_true rfl, Nat.le_of_ble_eq_true rfl⟩ d0_priceOfMember_10 rfl (Nat.le_of_ble_eq_true rfl) (fun r4 s3 => ?_)
    refine j_if_eq d0_priceOfMember_13 ?_ ?_
    · refine j_iconst d0_priceOfMember_40 ejc_m1 ?_
      exact j_ireturn hq d0_priceOfMember_41
    · refine j_aload_n 0 rfl d0_priceOfMember_16 ?_
      refine j_get fl_X0_31 (cV_g_4_13 x s3) d0_priceOfMember_17 ?_
      refine j_iload_n 2 rfl d0_priceOfMember_20 ?_
      refine j_iald (cV_a_45 x s3) d0_priceOfMember_21 ?_
      refine j_iload_n 1 rfl d0_priceOfMember_22 ?_
      refine j_callNi (c10_holds x n (gA s3 23 a2.toNatClampNeg) a1 s3) (ln_X0_80 x) ⟨Nat.le_of_ble_eq_true rfl, Nat.le_of_ble_eq_true rfl⟩ d0_priceOfMember_23 rfl (Nat.le_of_ble_eq_true rfl) (fun r6 s5 => ?_)
      refine j_if_eq d0_priceOfMember_26 ?_ ?_
      · refine j_iconst d0_priceOfMember_40 ejc_m1 ?_
        exact j_ireturn hq d0_priceOfMember_41
      · refine j_aload_n 0 rfl d0_priceOfMember_29 ?_
        refine j_get fl_X0_39 (cV_g_4_15 x s5) d0_priceOfMember_30 ?_
        refine j_iload_n 2 rfl d0_priceOfMember_33 ?_
        refine j_aaldM1 x d0_priceOfMember_34 (fun h7 => ?_)
        refine j_iload_n 1 rfl d0_priceOfMember_35 ?_
        refine j_iald (cV_a_m1 x s5 (a2.toNatClampNeg) h7) d0_priceOfMember_36 ?_
        refine j_goto d0_priceOfMember_37 ?_
        exact j_ireturn hq d0_priceOfMember_41
theorem c0_priceOfMember (x : cw_T) (n : Nat) (a1 : Int32) (a2 : Int32) (σ : ej_S) : ∀ r σ1, m0_priceOfMember n a1 a2 σ = some (r, σ1) → ∀ l, ej_Con l (cV x) i0_priceOfMember yX0_priceOfMember (some .int) [.ref (cw_a x 4), .int a1, .int a2] σ (some (.int r)) σ1 := fun r σ1 h l => ej_con_of (cV_ok x) pn_X0 rfl (Nat.le_of_ble_eq_true rfl) rfl h (fun F hq => j0_priceOfMember x n a1 a2 σ hq)

noncomputable def m0_isRightLink (n : Nat) (a1 : Int32) (a2 : Int32) (σ : ej_S) : Option (Int32 × ej_S) := ej_bi (m0_has n a1 σ) fun r2 s1 => (if r2 = 0 then (some (0, s1)) else ej_ck a1 24 (ej_bi (m10_holds n (gA s1 21 a1.toNatClampNeg) a2 s1) fun r4 s3 => (if r4 = 0 then (some (0, s3)) else (some (1, s3)))))
set_option maxRecDepth 20000 in
set_option maxHeartbeats 2000000 in
theorem j0_isRightLink (x : cw_T) (n : Nat) (a1 : Int32) (a2 : Int32) (σ : ej_S) {F : ej_F} {r0 : Int32 × ej_S} (hq : ej_fin (cV x) F (some .boolean) (some (.int r0.1)) r0.2) : ej_J (cV x) F i0_isRightLink r0 σ 0 [(0, .ref (cw_a x 4)), (1, .int a1), (2, .int a2)] [] (m0_isRightLink n a1 a2 σ) := by
  unfold m0_isRightLink
  refine j_aload_n 0 rfl d0_isRightLink_0 ?_
  refine j_iload_n 1 rfl d0_isRightLink_1 ?_
  refine j_callVi (c0_has x n a1 σ) lv_X0_76 (cV_rc_4 x σ) ⟨Nat.le_of_ble_eq_true rfl, Nat.le_of_ble_eq_true rfl⟩ d0_isRightLink_2 rfl (Nat.le_of_ble_eq_true rfl) (fun r2 s1 => ?_)
  refine j_if_eq d0_isRightLink_5 ?_ ?_
  · refine j_iconst d0_isRightLink_25 ejc_0 ?_
    exact j_zreturn0 hq d0_isRightLink_26
  · refine j_aload_n 0 rfl d0_isRightLink_8 ?_
    refine j_get fl_X0_25 (cV_g_4_11 x s1) d0_isRightLink_9 ?_
    refine j_iload_n 1 rfl d0_isRightLink_12 ?_
    refine j_iald (cV_a_43 x s1) d0_isRightLink_13 ?_
    refine j_iload_n 2 rfl d0_isRightLink_14 ?_
    refine j_callNi (c10_holds x n (gA s1 21 a1.toNatClampNeg) a2 s1) (ln_X0_80 x) ⟨Nat.le_of_ble_eq_true rfl, Nat.le_of_ble_eq_true rfl⟩ d0_isRightLink_15 rfl (Nat.le_of_ble_eq_true rfl) (fun r4 s3 => ?_)
    refine j_if_eq d0_isRightLink_18 ?_ ?_
    · refine j_iconst d0_isRightLink_25 ejc_0 ?_
      exact j_zreturn0 hq d0_isRightLink_26
    · refine j_iconst d0_isRightLink_21 ejc_1 ?_
      refine j_goto d0_isRightLink_22 ?_
      exact j_zreturn1 hq d0_isRightLink_26
theorem c0_isRightLink (x : cw_T) (n : Nat) (a1 : Int32) (a2 : Int32) (σ : ej_S) : ∀ r σ1, m0_isRightLink n a1 a2 σ = some (r, σ1) → ∀ l, ej_Con l (cV x) i0_isRightLink yX0_isRightLink (some .boolean) [.ref (cw_a x 4), .int a1, .int a2] σ (some (.int r)) σ1 := fun r σ1 h l => ej_con_of (cV_ok x) pn_X0 rfl (Nat.le_of_ble_eq_true rfl) rfl h (fun F hq => j0_isRightLink x n a1 a2 σ hq)

noncomputable def m0_isRightNet (n : Nat) (a1 : Int32) (σ : ej_S) : Option (Int32 × ej_S) := ej_bi (m10_holds n (gI σ 25) a1 σ) fun r2 s1 => (if r2 = 0 then (some (0, s1)) else ej_bi (m10_holds n (gI s1 26) a1 s1) fun r4 s3 => (if r4 = 0 then (some (1, s3)) else (some (0, s3))))
set_option maxRecDepth 20000 in
set_option maxHeartbeats 2000000 in
theorem j0_isRightNet (x : cw_T) (n : Nat) (a1 : Int32) (σ : ej_S) {F : ej_F} {r0 : Int32 × ej_S} (hq : ej_fin (cV x) F (some .boolean) (some (.int r0.1)) r0.2) : ej_J (cV x) F i0_isRightNet r0 σ 0 [(0, .ref (cw_a x 4)), (1, .int a1)] [] (m0_isRightNet n a1 σ) := by
  unfold m0_isRightNet
  refine j_aload_n 0 rfl d0_isRightNet_0 ?_
  refine j_get fl_X0_53 (cV_g_4_5 x σ) d0_isRightNet_1 ?_
  refine j_iload_n 1 rfl d0_isRightNet_4 ?_
  refine j_callNi (c10_holds x n (gI σ 25) a1 σ) (ln_X0_80 x) ⟨Nat.le_of_ble_eq_true rfl, Nat.le_of_ble_eq_true rfl⟩ d0_isRightNet_5 rfl (Nat.le_of_ble_eq_true rfl) (fun r2 s1 => ?_)
  refine j_if_eq d0_isRightNet_8 ?_ ?_
  · refine j_iconst d0_isRightNet_26 ejc_0 ?_
    exact j_zreturn0 hq d0_isRightNet_27
  · refine j_aload_n 0 rfl d0_isRightNet_11 ?_
    refine j_get fl_X0_56 (cV_g_4_6 x s1) d0_isRightNet_12 ?_
    refine j_iload_n 1 rfl d0_isRightNet_15 ?_
    refine j_callNi (c10_holds x n (gI s1 26) a1 s1) (ln_X0_80 x) ⟨Nat.le_of_ble_eq_true rfl, Nat.le_of_ble_eq_true rfl⟩ d0_isRightNet_16 rfl (Nat.le_of_ble_eq_true rfl) (fun r4 s3 => ?_)
    refine j_if_ne d0_isRightNet_19 ?_ ?_
    · refine j_iconst d0_isRightNet_26 ejc_0 ?_
      exact j_zreturn0 hq d0_isRightNet_27
    · refine j_iconst d0_isRightNet_22 ejc_1 ?_
      refine j_goto d0_isRightNet_23 ?_
      exact j_zreturn1 hq d0_isRightNet_27
theorem c0_isRightNet (x : cw_T) (n : Nat) (a1 : Int32) (σ : ej_S) : ∀ r σ1, m0_isRightNet n a1 σ = some (r, σ1) → ∀ l, ej_Con l (cV x) i0_isRightNet yX0_isRightNet (some .boolean) [.ref (cw_a x 4), .int a1] σ (some (.int r)) σ1 := fun r σ1 h l => ej_con_of (cV_ok x) pn_X0 rfl (Nat.le_of_ble_eq_true rfl) rfl h (fun F hq => j0_isRightNet x n a1 σ hq)

noncomputable def m0_isGate (n : Nat) (a1 : Int32) (σ : ej_S) : Option (Int32 × ej_S) := ej_bi (m10_holds n (gI σ 27) a1 σ) fun r2 s1 => (if r2 = 0 then ej_bi (m10_holds n (gI s1 24) a1 s1) fun r4 s3 => (if r4 = 0 then (some (0, s3)) else (some (1, s3))) else (some (1, s1)))
set_option maxRecDepth 20000 in
set_option maxHeartbeats 2000000 in
theorem j0_isGate (x : cw_T) (n : Nat) (a1 : Int32) (σ : ej_S) {F : ej_F} {r0 : Int32 × ej_S} (hq : ej_fin (cV x) F (some .boolean) (some (.int r0.1)) r0.2) : ej_J (cV x) F i0_isGate r0 σ 0 [(0, .ref (cw_a x 4)), (1, .int a1)] [] (m0_isGate n a1 σ) := by
  unfold m0_isGate
  refine j_aload_n 0 rfl d0_isGate_0 ?_
  refine j_get fl_X0_59 (cV_g_4_7 x σ) d0_isGate_1 ?_
  refine j_iload_n 1 rfl d0_isGate_4 ?_
  refine j_callNi (c10_holds x n (gI σ 27) a1 σ) (ln_X0_80 x) ⟨Nat.le_of_ble_eq_true rfl, Nat.le_of_ble_eq_true rfl⟩ d0_isGate_5 rfl (Nat.le_of_ble_eq_true rfl) (fun r2 s1 => ?_)
  refine j_if_ne d0_isGate_8 ?_ ?_
  · refine j_iconst d0_isGate_22 ejc_1 ?_
    refine j_goto d0_isGate_23 ?_
    exact j_zreturn1 hq d0_isGate_27
  · refine j_aload_n 0 rfl d0_isGate_11 ?_
    refine j_get fl_X0_50 (cV_g_4_4 x s1) d0_isGate_12 ?_
    refine j_iload_n 1 rfl d0_isGate_15 ?_
    refine j_callNi (c10_holds x n (gI s1 24) a1 s1) (ln_X0_80 x) ⟨Nat.le_of_ble_eq_true rfl, Nat.le_of_ble_eq_true rfl⟩ d0_isGate_16 rfl (Nat.le_of_ble_eq_true rfl) (fun r4 s3 => ?_)
    refine j_if_eq d0_isGate_19 ?_ ?_
    · refine j_iconst d0_isGate_26 ejc_0 ?_
      exact j_zreturn0 hq d0_isGate_27
    · refine j_iconst d0_isGate_22 ejc_1 ?_
      refine j_goto d0_isGate_23 ?_
      exact j_zreturn1 hq d0_isGate_27
theorem c0_isGate (x : cw_T) (n : Nat) (a1 : Int32) (σ : ej_S) : ∀ r σ1, m0_isGate n a1 σ = some (r, σ1) → ∀ l, ej_Con l (cV x) i0_isGate yX0_isGate (some .boolean) [.ref (cw_a x 4), .int a1] σ (some (.int r)) σ1 := fun r σ1 h l => ej_con_of (cV_ok x) pn_X0 rfl (Nat.le_of_ble_eq_true rfl) rfl h (fun F hq => j0_isGate x n a1 σ hq)

noncomputable def m0_deathsOn_16 (n : Nat) (y3 : Int32) (y4 : Int32) (y5 : Int32) (σ : ej_S) : Option (Int32 × ej_S) := ej_bi (m0_has n y3 σ) fun r7 s6 => (if r7 = 0 then (some (y5, s6)) else ej_ck y3 24 (ej_bi (m10_holds n (gA s6 22 y3.toNatClampNeg) y4 s6) fun r9 s8 => (if r9 = 0 then (some (y5, s8)) else (some (y5 + 1, s8)))))
set_option maxRecDepth 20000 in
set_option maxHeartbeats 2000000 in
theorem j0_deathsOn_16 (x : cw_T) (n : Nat) {F : ej_F} {r0 : Int32 × ej_S} (hq : ej_fin (cV x) F (some .int) (some (.int r0.1)) r0.2) (y3 : Int32) (y4 : Int32) (y5 : Int32) (σ : ej_S) : ej_J (cV x) F i0_deathsOn r0 σ 16 [(0, .ref (cw_a x 4)), (1, .int y3), (2, .int y4)] [.int y5] (m0_deathsOn_16 n y3 y4 y5 σ) := by
  unfold m0_deathsOn_16
  refine j_istore_n (i := 3) (L' := [(3, .int y5), (0, .ref (cw_a x 4)), (1, .int y3), (2, .int y4)]) d0_deathsOn_16 rfl (Nat.le_of_ble_eq_true rfl) rfl ?_
  refine j_aload_n 1 rfl d0_deathsOn_17 ?_
  refine j_iload_n 2 rfl d0_deathsOn_18 ?_
  refine j_callVi (c0_has x n y3 σ) lv_X0_76 (cV_rc_4 x σ) ⟨Nat.le_of_ble_eq_true rfl, Nat.le_of_ble_eq_true rfl⟩ d0_deathsOn_19 rfl (Nat.le_of_ble_eq_true rfl) (fun r7 s6 => ?_)
  refine j_if_eq d0_deathsOn_22 ?_ ?_
  · refine j_iload_n 0 rfl d0_deathsOn_44 ?_
    exact j_ireturn hq d0_deathsOn_45
  · refine j_aload_n 1 rfl d0_deathsOn_25 ?_
    refine j_get fl_X0_28 (cV_g_4_12 x s6) d0_deathsOn_26 ?_
    refine j_iload_n 2 rfl d0_deathsOn_29 ?_
    refine j_iald (cV_a_44 x s6) d0_deathsOn_30 ?_
    refine j_iload_n 3 rfl d0_deathsOn_31 ?_
    refine j_callNi (c10_holds x n (gA s6 22 y3.toNatClampNeg) y4 s6) (ln_X0_80 x) ⟨Nat.le_of_ble_eq_true rfl, Nat.le_of_ble_eq_true rfl⟩ d0_deathsOn_32 rfl (Nat.le_of_ble_eq_true rfl) (fun r9 s8 => ?_)
    refine j_if_eq d0_deathsOn_35 ?_ ?_
    · refine j_iload_n 0 rfl d0_deathsOn_44 ?_
      exact j_ireturn hq d0_deathsOn_45
    · refine j_iload_n 0 rfl d0_deathsOn_38 ?_
      refine j_iconst d0_deathsOn_39 ejc_1 ?_
      refine j_iadd d0_deathsOn_40 ?_
      refine j_goto d0_deathsOn_41 ?_
      exact j_ireturn hq d0_deathsOn_45
noncomputable def m0_deathsOn (n : Nat) (a1 : Int32) (a2 : Int32) (σ : ej_S) : Option (Int32 × ej_S) := ej_bi (m10_holds n (gI σ 28) a1 σ) fun r2 s1 => (if r2 = 0 then (m0_deathsOn_16 n a1 a2 0 s1) else (m0_deathsOn_16 n a1 a2 1 s1))
set_option maxRecDepth 20000 in
set_option maxHeartbeats 2000000 in
theorem j0_deathsOn (x : cw_T) (n : Nat) (a1 : Int32) (a2 : Int32) (σ : ej_S) {F : ej_F} {r0 : Int32 × ej_S} (hq : ej_fin (cV x) F (some .int) (some (.int r0.1)) r0.2) : ej_J (cV x) F i0_deathsOn r0 σ 0 [(0, .ref (cw_a x 4)), (1, .int a1), (2, .int a2)] [] (m0_deathsOn n a1 a2 σ) := by
  unfold m0_deathsOn
  refine j_aload_n 0 rfl d0_deathsOn_0 ?_
  refine j_get fl_X0_62 (cV_g_4_8 x σ) d0_deathsOn_1 ?_
  refine j_iload_n 1 rfl d0_deathsOn_4 ?_
  refine j_callNi (c10_holds x n (gI σ 28) a1 σ) (ln_X0_80 x) ⟨Nat.le_of_ble_eq_true rfl, Nat.le_of_ble_eq_true rfl⟩ d0_deathsOn_5 rfl (Nat.le_of_ble_eq_true rfl) (fun r2 s1 => ?_)
  refine j_if_eq d0_deathsOn_8 ?_ ?_
  · refine j_iconst d0_deathsOn_15 ejc_0 ?_
    exact j_sub [0, 1, 2] rfl (j0_deathsOn_16 x n hq a1 a2 0 s1)
  · refine j_iconst d0_deathsOn_11 ejc_1 ?_
    refine j_goto d0_deathsOn_12 ?_
    exact j_sub [0, 1, 2] rfl (j0_deathsOn_16 x n hq a1 a2 1 s1)
theorem c0_deathsOn (x : cw_T) (n : Nat) (a1 : Int32) (a2 : Int32) (σ : ej_S) : ∀ r σ1, m0_deathsOn n a1 a2 σ = some (r, σ1) → ∀ l, ej_Con l (cV x) i0_deathsOn yX0_deathsOn (some .int) [.ref (cw_a x 4), .int a1, .int a2] σ (some (.int r)) σ1 := fun r σ1 h l => ej_con_of (cV_ok x) pn_X0 rfl (Nat.le_of_ble_eq_true rfl) rfl h (fun F hq => j0_deathsOn x n a1 a2 σ hq)

noncomputable def m0_linksOf (n : Nat) (a1 : Int32) (σ : ej_S) : Option (Int32 × ej_S) := ej_bi (m0_has n a1 σ) fun r2 s1 => (if r2 = 0 then (some (0, s1)) else ej_ck a1 24 ((some (gA s1 20 a1.toNatClampNeg, s1))))
set_option maxRecDepth 20000 in
set_option maxHeartbeats 2000000 in
theorem j0_linksOf (x : cw_T) (n : Nat) (a1 : Int32) (σ : ej_S) {F : ej_F} {r0 : Int32 × ej_S} (hq : ej_fin (cV x) F (some .int) (some (.int r0.1)) r0.2) : ej_J (cV x) F i0_linksOf r0 σ 0 [(0, .ref (cw_a x 4)), (1, .int a1)] [] (m0_linksOf n a1 σ) := by
  unfold m0_linksOf
  refine j_aload_n 0 rfl d0_linksOf_0 ?_
  refine j_iload_n 1 rfl d0_linksOf_1 ?_
  refine j_callVi (c0_has x n a1 σ) lv_X0_76 (cV_rc_4 x σ) ⟨Nat.le_of_ble_eq_true rfl, Nat.le_of_ble_eq_true rfl⟩ d0_linksOf_2 rfl (Nat.le_of_ble_eq_true rfl) (fun r2 s1 => ?_)
  refine j_if_eq d0_linksOf_5 ?_ ?_
  · refine j_iconst d0_linksOf_17 ejc_0 ?_
    exact j_ireturn hq d0_linksOf_18
  · refine j_aload_n 0 rfl d0_linksOf_8 ?_
    refine j_get fl_X0_22 (cV_g_4_10 x s1) d0_linksOf_9 ?_
    refine j_iload_n 1 rfl d0_linksOf_12 ?_
    refine j_iald (cV_a_42 x s1) d0_linksOf_13 ?_
    refine j_goto d0_linksOf_14 ?_
    exact j_ireturn hq d0_linksOf_18
theorem c0_linksOf (x : cw_T) (n : Nat) (a1 : Int32) (σ : ej_S) : ∀ r σ1, m0_linksOf n a1 σ = some (r, σ1) → ∀ l, ej_Con l (cV x) i0_linksOf yX0_linksOf (some .int) [.ref (cw_a x 4), .int a1] σ (some (.int r)) σ1 := fun r σ1 h l => ej_con_of (cV_ok x) pn_X0 rfl (Nat.le_of_ble_eq_true rfl) rfl h (fun F hq => j0_linksOf x n a1 σ hq)

noncomputable def m0_nextTo_33 (n : Nat) (k : Nat) : Int32 → Int32 → Int32 → ej_S → Option (Int32 × ej_S) := Nat.rec (motive := fun _ => Int32 → Int32 → Int32 → ej_S → Option (Int32 × ej_S)) (fun _ _ _ _ => none) (fun _ ih y4 y5 y6 σ => (if gI σ 22 ≤ y6 then (some (y5, σ)) else (if 24 ≤ y6 then (some (y5, σ)) else ej_ck y6 24 (ej_bi (m10_holds n (gA σ 23 y6.toNatClampNeg) y4 σ) fun r8 s7 => (if r8 = 0 then ej_nm (y6 + 1) fun x9 => (ih y4 y5 x9 s7) else ej_bi (m10_setOf n y6 s7) fun r11 s10 => ej_nm (y5 ||| r11) fun x12 => ej_nm (y6 + 1) fun x13 => (ih y4 x12 x13 s10)))))) k
theorem m0_nextTo_33_s (n : Nat) (k : Nat) (y4 : Int32) (y5 : Int32) (y6 : Int32) (σ : ej_S) : m0_nextTo_33 n (k + 1) y4 y5 y6 σ = ((if gI σ 22 ≤ y6 then (some (y5, σ)) else (if 24 ≤ y6 then (some (y5, σ)) else ej_ck y6 24 (ej_bi (m10_holds n (gA σ 23 y6.toNatClampNeg) y4 σ) fun r8 s7 => (if r8 = 0 then ej_nm (y6 + 1) fun x9 => ((m0_nextTo_33 n k) y4 y5 x9 s7) else ej_bi (m10_setOf n y6 s7) fun r11 s10 => ej_nm (y5 ||| r11) fun x12 => ej_nm (y6 + 1) fun x13 => ((m0_nextTo_33 n k) y4 x12 x13 s10))))) : Option (Int32 × ej_S)) := rfl
set_option maxRecDepth 20000 in
set_option maxHeartbeats 2000000 in
theorem j0_nextTo_33 (x : cw_T) (n : Nat) {F : ej_F} {r0 : Int32 × ej_S} (hq : ej_fin (cV x) F (some .int) (some (.int r0.1)) r0.2) : ∀ (k : Nat) (y4 : Int32) (y5 : Int32) (y6 : Int32) (σ : ej_S), ej_J (cV x) F i0_nextTo r0 σ 33 [(0, .ref (cw_a x 4)), (1, .int y4), (2, .int y5), (3, .int y6)] [] (m0_nextTo_33 n k y4 y5 y6 σ) := by
  intro k
  induction k with
  | zero => intro y4 y5 y6 σ; exact j_none
  | succ k ih =>
    intro y4 y5 y6 σ
    rw [m0_nextTo_33_s]
    refine j_iload_n 3 rfl d0_nextTo_33 ?_
    refine j_aload_n 0 rfl d0_nextTo_34 ?_
    refine j_get fl_X0_42 (cV_g_4_0 x σ) d0_nextTo_35 ?_
    refine j_icmp_ge d0_nextTo_38 ?_ ?_
    · refine j_iload_n 2 rfl d0_nextTo_73 ?_
      exact j_ireturn hq d0_nextTo_74
    · refine j_iload_n 3 rfl d0_nextTo_41 ?_
      refine j_bipush d0_nextTo_42 ejb_24 ?_
      refine j_icmp_ge d0_nextTo_44 ?_ ?_
      · refine j_iload_n 2 rfl d0_nextTo_73 ?_
        exact j_ireturn hq d0_nextTo_74
      · refine j_aload_n 0 rfl d0_nextTo_47 ?_
        refine j_get fl_X0_31 (cV_g_4_13 x σ) d0_nextTo_48 ?_
        refine j_iload_n 3 rfl d0_nextTo_51 ?_
        refine j_iald (cV_a_45 x σ) d0_nextTo_52 ?_
        refine j_iload_n 1 rfl d0_nextTo_53 ?_
        refine j_callNi (c10_holds x n (gA σ 23 y6.toNatClampNeg) y4 σ) (ln_X0_80 x) ⟨Nat.le_of_ble_eq_true rfl, Nat.le_of_ble_eq_true rfl⟩ d0_nextTo_54 rfl (Nat.le_of_ble_eq_true rfl) (fun r8 s7 => ?_)
        refine j_if_eq d0_nextTo_57 ?_ ?_
        · refine j_iinc (i := 3) (v := 1) (Ly := fun x9 => [(3, .int x9), (0, .ref (cw_a x 4)), (1, .int y4), (2, .int y5)]) 3 d0_nextTo_67 rfl ejc_1 (Nat.le_of_ble_eq_true rfl) (fun _ => rfl) (fun x9 => ?_)
          refine j_goto d0_nextTo_70 ?_
          exact j_sub [1, 2, 3, 0] rfl (ih y4 y5 x9 s7)
        · refine j_iload_n 2 rfl d0_nextTo_60 ?_
          refine j_iload_n 3 rfl d0_nextTo_61 ?_
          refine j_callNi (c10_setOf x n y6 s7) (ln_X0_72 x) ⟨Nat.le_of_ble_eq_true rfl, Nat.le_of_ble_eq_true rfl⟩ d0_nextTo_62 rfl (Nat.le_of_ble_eq_true rfl) (fun r11 s10 => ?_)
          refine j_ior d0_nextTo_65 ?_
          refine j_nmi (fun x12 => ?_)
          refine j_istore_n (i := 2) (L' := [(2, .int x12), (0, .ref (cw_a x 4)), (1, .int y4), (3, .int y6)]) d0_nextTo_66 rfl (Nat.le_of_ble_eq_true rfl) rfl ?_
          refine j_iinc (i := 3) (v := 1) (Ly := fun x13 => [(3, .int x13), (2, .int x12), (0, .ref (cw_a x 4)), (1, .int y4)]) 3 d0_nextTo_67 rfl ejc_1 (Nat.le_of_ble_eq_true rfl) (fun _ => rfl) (fun x13 => ?_)
          refine j_goto d0_nextTo_70 ?_
          exact j_sub [2, 3, 1, 0] rfl (ih y4 x12 x13 s10)
noncomputable def m0_nextTo (n : Nat) (a1 : Int32) (σ : ej_S) : Option (Int32 × ej_S) := ej_bi (m0_has n a1 σ) fun r2 s1 => (if r2 = 0 then (some (0, s1)) else ej_ck a1 24 (ej_ck a1 24 (ej_ck a1 24 (ej_nm (((gA s1 19 a1.toNatClampNeg) ||| (gA s1 20 a1.toNatClampNeg)) ||| (gA s1 23 a1.toNatClampNeg)) fun x3 => (m0_nextTo_33 n n a1 x3 0 s1)))))
set_option maxRecDepth 20000 in
set_option maxHeartbeats 2000000 in
theorem j0_nextTo (x : cw_T) (n : Nat) (a1 : Int32) (σ : ej_S) {F : ej_F} {r0 : Int32 × ej_S} (hq : ej_fin (cV x) F (some .int) (some (.int r0.1)) r0.2) : ej_J (cV x) F i0_nextTo r0 σ 0 [(0, .ref (cw_a x 4)), (1, .int a1)] [] (m0_nextTo n a1 σ) := by
  unfold m0_nextTo
  refine j_aload_n 0 rfl d0_nextTo_0 ?_
  refine j_iload_n 1 rfl d0_nextTo_1 ?_
  refine j_callVi (c0_has x n a1 σ) lv_X0_76 (cV_rc_4 x σ) ⟨Nat.le_of_ble_eq_true rfl, Nat.le_of_ble_eq_true rfl⟩ d0_nextTo_2 rfl (Nat.le_of_ble_eq_true rfl) (fun r2 s1 => ?_)
  refine j_if_ne d0_nextTo_5 ?_ ?_
  · refine j_aload_n 0 rfl d0_nextTo_10 ?_
    refine j_get fl_X0_19 (cV_g_4_9 x s1) d0_nextTo_11 ?_
    refine j_iload_n 1 rfl d0_nextTo_14 ?_
    refine j_iald (cV_a_41 x s1) d0_nextTo_15 ?_
    refine j_aload_n 0 rfl d0_nextTo_16 ?_
    refine j_get fl_X0_22 (cV_g_4_10 x s1) d0_nextTo_17 ?_
    refine j_iload_n 1 rfl d0_nextTo_20 ?_
    refine j_iald (cV_a_42 x s1) d0_nextTo_21 ?_
    refine j_ior d0_nextTo_22 ?_
    refine j_aload_n 0 rfl d0_nextTo_23 ?_
    refine j_get fl_X0_31 (cV_g_4_13 x s1) d0_nextTo_24 ?_
    refine j_iload_n 1 rfl d0_nextTo_27 ?_
    refine j_iald (cV_a_45 x s1) d0_nextTo_28 ?_
    refine j_ior d0_nextTo_29 ?_
    refine j_nmi (fun x3 => ?_)
    refine j_istore_n (i := 2) (L' := [(2, .int x3), (0, .ref (cw_a x 4)), (1, .int a1)]) d0_nextTo_30 rfl (Nat.le_of_ble_eq_true rfl) rfl ?_
    refine j_iconst d0_nextTo_31 ejc_0 ?_
    refine j_istore_n (i := 3) (L' := [(3, .int 0), (2, .int x3), (0, .ref (cw_a x 4)), (1, .int a1)]) d0_nextTo_32 rfl (Nat.le_of_ble_eq_true rfl) rfl ?_
    exact j_sub [2, 3, 1, 0] rfl (j0_nextTo_33 x n hq n a1 x3 0 s1)
  · refine j_iconst d0_nextTo_8 ejc_0 ?_
    exact j_ireturn hq d0_nextTo_9
theorem c0_nextTo (x : cw_T) (n : Nat) (a1 : Int32) (σ : ej_S) : ∀ r σ1, m0_nextTo n a1 σ = some (r, σ1) → ∀ l, ej_Con l (cV x) i0_nextTo yX0_nextTo (some .int) [.ref (cw_a x 4), .int a1] σ (some (.int r)) σ1 := fun r σ1 h l => ej_con_of (cV_ok x) pn_X0 rfl (Nat.le_of_ble_eq_true rfl) rfl h (fun F hq => j0_nextTo x n a1 σ hq)

