noncomputable def m7_clear (n : Nat) (t : Nat)  (σ : ej_S) : Option (ej_S) := ej_nm (uI σ t 0) fun s1 => (some s1)
set_option maxRecDepth 20000 in
set_option maxHeartbeats 2000000 in
theorem j7_clear (x : cw_T) (n : Nat) (t : Nat) (ht : t < 7)  (σ : ej_S) {F : ej_F} {r0 : ej_S} (hq : ej_fin (cV x) F none none r0) : ej_J (cV x) F i7_clear r0 σ 0 [(0, .ref (cw_a x (10 + t)))] [] (m7_clear n t  σ) := by
  unfold m7_clear
  refine j_aload_n 0 rfl d7_clear_0 ?_
  refine j_iconst d7_clear_1 ejc_0 ?_
  refine j_put fl_X7_21 (cV_p_t_1 x σ 0 t ht) rfl rfl d7_clear_2 (fun s1 => ?_)
  exact j_vreturn hq d7_clear_5
theorem c7_clear (x : cw_T) (n : Nat) (t : Nat) (ht : t < 7)  (σ : ej_S) : ∀ σ1, m7_clear n t  σ = some σ1 → ∀ l, ej_Con l (cV x) i7_clear yX7_clear none [.ref (cw_a x (10 + t))] σ none σ1 := fun σ1 h l => ej_con_of (cV_ok x) pn_X7 rfl (Nat.le_of_ble_eq_true rfl) rfl h (fun F hq => j7_clear x n t ht  σ hq)

noncomputable def m7_append (n : Nat) (t : Nat) (a1 : Int32) (σ : ej_S) : Option (ej_S) := (if gI σ t < 0 then (some σ) else (if Int32.ofNat (cw_tl t) ≤ gI σ t then (some σ) else ej_ck (gI σ t) (cw_tl t) (ej_nm (uA σ t ((gI σ t).toNatClampNeg) (vp_nar .byte (a1.toInt8.toInt32))) fun s1 => ej_nm (uI s1 t ((gI s1 t) + 1)) fun s2 => (some s2))))
set_option maxRecDepth 20000 in
set_option maxHeartbeats 2000000 in
theorem j7_append (x : cw_T) (n : Nat) (t : Nat) (ht : t < 7) (a1 : Int32) (σ : ej_S) {F : ej_F} {r0 : ej_S} (hq : ej_fin (cV x) F none none r0) : ej_J (cV x) F i7_append r0 σ 0 [(0, .ref (cw_a x (10 + t))), (1, .int a1)] [] (m7_append n t a1 σ) := by
  unfold m7_append
  refine j_aload_n 0 rfl d7_append_0 ?_
  refine j_get fl_X7_21 (cV_g_t_1 x σ t ht) d7_append_1 ?_
  refine j_if_lt d7_append_4 ?_ ?_
  · exact j_vreturn hq d7_append_40
  · refine j_aload_n 0 rfl d7_append_7 ?_
    refine j_get fl_X7_21 (cV_g_t_1 x σ t ht) d7_append_8 ?_
    refine j_aload_n 0 rfl d7_append_11 ?_
    refine j_get fl_X7_15 (cV_g_t_0 x σ t ht) d7_append_12 ?_
    refine j_alen (cV_a_t x σ t ht) (Nat.le_of_ble_eq_true rfl) rfl d7_append_15 ?_
    refine j_icmp_ge d7_append_16 ?_ ?_
    · exact j_vreturn hq d7_append_40
    · refine j_aload_n 0 rfl d7_append_19 ?_
      refine j_get fl_X7_15 (cV_g_t_0 x σ t ht) d7_append_20 ?_
      refine j_aload_n 0 rfl d7_append_23 ?_
      refine j_get fl_X7_21 (cV_g_t_1 x σ t ht) d7_append_24 ?_
      refine j_iload_n 1 rfl d7_append_27 ?_
      refine j_i2b d7_append_28 ?_
      refine j_bast (cV_s_t x σ ((gI σ t).toNatClampNeg) (vp_nar .byte (a1.toInt8.toInt32)) t ht) d7_append_29 (fun s1 => ?_)
      refine j_aload_n 0 rfl d7_append_30 ?_
      refine j_dup d7_append_31 rfl ?_
      refine j_get fl_X7_21 (cV_g_t_1 x s1 t ht) d7_append_32 ?_
      refine j_iconst d7_append_35 ejc_1 ?_
      refine j_iadd d7_append_36 ?_
      refine j_put fl_X7_21 (cV_p_t_1 x s1 ((gI s1 t) + 1) t ht) rfl rfl d7_append_37 (fun s2 => ?_)
      exact j_vreturn hq d7_append_40
theorem c7_append (x : cw_T) (n : Nat) (t : Nat) (ht : t < 7) (a1 : Int32) (σ : ej_S) : ∀ σ1, m7_append n t a1 σ = some σ1 → ∀ l, ej_Con l (cV x) i7_append yX7_append none [.ref (cw_a x (10 + t)), .int a1] σ none σ1 := fun σ1 h l => ej_con_of (cV_ok x) pn_X7 rfl (Nat.le_of_ble_eq_true rfl) rfl h (fun F hq => j7_append x n t ht a1 σ hq)

noncomputable def m7_appendName_2 (n : Nat) (t : Nat) (k : Nat) : Int64 → Int32 → ej_S → Option (ej_S) := Nat.rec (motive := fun _ => Int64 → Int32 → ej_S → Option (ej_S)) (fun _ _ _ => none) (fun _ ih y1 y2 σ => (if 8 ≤ y2 then (some σ) else ej_bi (m10_nameByte n y1 y2 σ) fun r4 s3 => (if r4 = 0 then (some s3) else ej_bi (m10_nameByte n y1 y2 s3) fun r6 s5 => ej_bv (m7_append n t r6 s5) fun s7 => ej_nm (y2 + 1) fun x8 => (ih y1 x8 s7)))) k
theorem m7_appendName_2_s (n : Nat) (t : Nat) (k : Nat) (y1 : Int64) (y2 : Int32) (σ : ej_S) : m7_appendName_2 n t (k + 1) y1 y2 σ = ((if 8 ≤ y2 then (some σ) else ej_bi (m10_nameByte n y1 y2 σ) fun r4 s3 => (if r4 = 0 then (some s3) else ej_bi (m10_nameByte n y1 y2 s3) fun r6 s5 => ej_bv (m7_append n t r6 s5) fun s7 => ej_nm (y2 + 1) fun x8 => ((m7_appendName_2 n t k) y1 x8 s7))) : Option (ej_S)) := rfl
set_option maxRecDepth 20000 in
set_option maxHeartbeats 2000000 in
theorem j7_appendName_2 (x : cw_T) (n : Nat) (t : Nat) (ht : t < 7) {F : ej_F} {r0 : ej_S} (hq : ej_fin (cV x) F none none r0) : ∀ (k : Nat) (y1 : Int64) (y2 : Int32) (σ : ej_S), ej_J (cV x) F i7_appendName r0 σ 2 [(0, .ref (cw_a x (10 + t))), (1, .long y1), (3, .int y2)] [] (m7_appendName_2 n t k y1 y2 σ) := by
  intro k
  induction k with
  | zero => intro y1 y2 σ; exact j_none
  | succ k ih =>
    intro y1 y2 σ
    rw [m7_appendName_2_s]
    refine j_iload_n 2 rfl d7_appendName_2 ?_
    refine j_bipush d7_appendName_3 ejb_8 ?_
    refine j_icmp_ge d7_appendName_5 ?_ ?_
    · exact j_vreturn hq d7_appendName_31
    · refine j_lload_n 1 rfl d7_appendName_8 ?_
      refine j_iload_n 2 rfl d7_appendName_9 ?_
      refine j_callNi (c10_nameByte x n y1 y2 σ) (ln_X7_25 x) ⟨Nat.le_of_ble_eq_true rfl, Nat.le_of_ble_eq_true rfl⟩ d7_appendName_10 rfl (Nat.le_of_ble_eq_true rfl) (fun r4 s3 => ?_)
      refine j_if_eq d7_appendName_13 ?_ ?_
      · exact j_vreturn hq d7_appendName_31
      · refine j_aload_n 0 rfl d7_appendName_16 ?_
        refine j_lload_n 1 rfl d7_appendName_17 ?_
        refine j_iload_n 2 rfl d7_appendName_18 ?_
        refine j_callNi (c10_nameByte x n y1 y2 s3) (ln_X7_25 x) ⟨Nat.le_of_ble_eq_true rfl, Nat.le_of_ble_eq_true rfl⟩ d7_appendName_19 rfl (Nat.le_of_ble_eq_true rfl) (fun r6 s5 => ?_)
        refine j_callVv (c7_append x n t ht r6 s5) lv_X7_29 (cV_rc_t x s5 t ht) ⟨Nat.le_of_ble_eq_true rfl, Nat.le_of_ble_eq_true rfl⟩ d7_appendName_22 rfl (Nat.le_of_ble_eq_true rfl) (fun s7 => ?_)
        refine j_iinc (i := 3) (v := 1) (Ly := fun x8 => [(3, .int x8), (0, .ref (cw_a x (10 + t))), (1, .long y1)]) 2 d7_appendName_25 rfl ejc_1 (Nat.le_of_ble_eq_true rfl) (fun _ => rfl) (fun x8 => ?_)
        refine j_goto d7_appendName_28 ?_
        exact j_sub [1, 2, 0] rfl (ih y1 x8 s7)
noncomputable def m7_appendName (n : Nat) (t : Nat) (a1 : Int64) (σ : ej_S) : Option (ej_S) := (m7_appendName_2 n t n a1 0 σ)
set_option maxRecDepth 20000 in
set_option maxHeartbeats 2000000 in
theorem j7_appendName (x : cw_T) (n : Nat) (t : Nat) (ht : t < 7) (a1 : Int64) (σ : ej_S) {F : ej_F} {r0 : ej_S} (hq : ej_fin (cV x) F none none r0) : ej_J (cV x) F i7_appendName r0 σ 0 [(0, .ref (cw_a x (10 + t))), (1, .long a1)] [] (m7_appendName n t a1 σ) := by
  unfold m7_appendName
  refine j_iconst d7_appendName_0 ejc_0 ?_
  refine j_istore_n (i := 3) (L' := [(3, .int 0), (0, .ref (cw_a x (10 + t))), (1, .long a1)]) d7_appendName_1 rfl (Nat.le_of_ble_eq_true rfl) rfl ?_
  exact j_sub [1, 2, 0] rfl (j7_appendName_2 x n t ht hq n a1 0 σ)
theorem c7_appendName (x : cw_T) (n : Nat) (t : Nat) (ht : t < 7) (a1 : Int64) (σ : ej_S) : ∀ σ1, m7_appendName n t a1 σ = some σ1 → ∀ l, ej_Con l (cV x) i7_appendName yX7_appendName none [.ref (cw_a x (10 + t)), .long a1] σ none σ1 := fun σ1 h l => ej_con_of (cV_ok x) pn_X7 rfl (Nat.le_of_ble_eq_true rfl) rfl h (fun F hq => j7_appendName x n t ht a1 σ hq)

noncomputable def m7_length (n : Nat) (t : Nat)  (σ : ej_S) : Option (Int32 × ej_S) := (some (gI σ t, σ))
set_option maxRecDepth 20000 in
set_option maxHeartbeats 2000000 in
theorem j7_length (x : cw_T) (n : Nat) (t : Nat) (ht : t < 7)  (σ : ej_S) {F : ej_F} {r0 : Int32 × ej_S} (hq : ej_fin (cV x) F (some .int) (some (.int r0.1)) r0.2) : ej_J (cV x) F i7_length r0 σ 0 [(0, .ref (cw_a x (10 + t)))] [] (m7_length n t  σ) := by
  unfold m7_length
  refine j_aload_n 0 rfl d7_length_0 ?_
  refine j_get fl_X7_21 (cV_g_t_1 x σ t ht) d7_length_1 ?_
  exact j_ireturn hq d7_length_4
theorem c7_length (x : cw_T) (n : Nat) (t : Nat) (ht : t < 7)  (σ : ej_S) : ∀ r σ1, m7_length n t  σ = some (r, σ1) → ∀ l, ej_Con l (cV x) i7_length yX7_length (some .int) [.ref (cw_a x (10 + t))] σ (some (.int r)) σ1 := fun r σ1 h l => ej_con_of (cV_ok x) pn_X7 rfl (Nat.le_of_ble_eq_true rfl) rfl h (fun F hq => j7_length x n t ht  σ hq)

noncomputable def m7_byteAt (n : Nat) (t : Nat) (a1 : Int32) (σ : ej_S) : Option (Int32 × ej_S) := (if a1 < 0 then (some ((-1), σ)) else (if gI σ t ≤ a1 then (some ((-1), σ)) else (if Int32.ofNat (cw_tl t) ≤ a1 then (some ((-1), σ)) else ej_ck a1 (cw_tl t) ((some ((gA σ t a1.toNatClampNeg) &&& 255, σ))))))
set_option maxRecDepth 20000 in
set_option maxHeartbeats 2000000 in
theorem j7_byteAt (x : cw_T) (n : Nat) (t : Nat) (ht : t < 7) (a1 : Int32) (σ : ej_S) {F : ej_F} {r0 : Int32 × ej_S} (hq : ej_fin (cV x) F (some .int) (some (.int r0.1)) r0.2) : ej_J (cV x) F i7_byteAt r0 σ 0 [(0, .ref (cw_a x (10 + t))), (1, .int a1)] [] (m7_byteAt n t a1 σ) := by
  unfold m7_byteAt
  refine j_iload_n 1 rfl d7_byteAt_0 ?_
  refine j_if_lt d7_byteAt_1 ?_ ?_
  · refine j_iconst d7_byteAt_34 ejc_m1 ?_
    exact j_ireturn hq d7_byteAt_35
  · refine j_iload_n 1 rfl d7_byteAt_4 ?_
    refine j_aload_n 0 rfl d7_byteAt_5 ?_
    refine j_get fl_X7_21 (cV_g_t_1 x σ t ht) d7_byteAt_6 ?_
    refine j_icmp_ge d7_byteAt_9 ?_ ?_
    · refine j_iconst d7_byteAt_34 ejc_m1 ?_
      exact j_ireturn hq d7_byteAt_35
    · refine j_iload_n 1 rfl d7_byteAt_12 ?_
      refine j_aload_n 0 rfl d7_byteAt_13 ?_
      refine j_get fl_X7_15 (cV_g_t_0 x σ t ht) d7_byteAt_14 ?_
      refine j_alen (cV_a_t x σ t ht) (Nat.le_of_ble_eq_true rfl) rfl d7_byteAt_17 ?_
      refine j_icmp_ge d7_byteAt_18 ?_ ?_
      · refine j_iconst d7_byteAt_34 ejc_m1 ?_
        exact j_ireturn hq d7_byteAt_35
      · refine j_aload_n 0 rfl d7_byteAt_21 ?_
        refine j_get fl_X7_15 (cV_g_t_0 x σ t ht) d7_byteAt_22 ?_
        refine j_iload_n 1 rfl d7_byteAt_25 ?_
        refine j_bald (cV_a_t x σ t ht) d7_byteAt_26 ?_
        refine j_sipush d7_byteAt_27 ejs_255 ?_
        refine j_iand d7_byteAt_30 ?_
        refine j_goto d7_byteAt_31 ?_
        exact j_ireturn hq d7_byteAt_35
theorem c7_byteAt (x : cw_T) (n : Nat) (t : Nat) (ht : t < 7) (a1 : Int32) (σ : ej_S) : ∀ r σ1, m7_byteAt n t a1 σ = some (r, σ1) → ∀ l, ej_Con l (cV x) i7_byteAt yX7_byteAt (some .int) [.ref (cw_a x (10 + t)), .int a1] σ (some (.int r)) σ1 := fun r σ1 h l => ej_con_of (cV_ok x) pn_X7 rfl (Nat.le_of_ble_eq_true rfl) rfl h (fun F hq => j7_byteAt x n t ht a1 σ hq)

noncomputable def m7_appendPart_7 (n : Nat) (t : Nat) (t1 : Nat) (k : Nat) : Int32 → Int32 → ej_S → Option (ej_S) := Nat.rec (motive := fun _ => Int32 → Int32 → ej_S → Option (ej_S)) (fun _ _ _ => none) (fun _ ih y2 y3 σ => (if y2 ≤ y3 then (some σ) else (if gI σ t1 ≤ y3 then (some σ) else ej_bi (m7_byteAt n t1 y3 σ) fun r5 s4 => ej_bv (m7_append n t r5 s4) fun s6 => ej_nm (y3 + 1) fun x7 => (ih y2 x7 s6)))) k
theorem m7_appendPart_7_s (n : Nat) (t : Nat) (t1 : Nat) (k : Nat) (y2 : Int32) (y3 : Int32) (σ : ej_S) : m7_appendPart_7 n t t1 (k + 1) y2 y3 σ = ((if y2 ≤ y3 then (some σ) else (if gI σ t1 ≤ y3 then (some σ) else ej_bi (m7_byteAt n t1 y3 σ) fun r5 s4 => ej_bv (m7_append n t r5 s4) fun s6 => ej_nm (y3 + 1) fun x7 => ((m7_appendPart_7 n t t1 k) y2 x7 s6))) : Option (ej_S)) := rfl
set_option maxRecDepth 20000 in
set_option maxHeartbeats 2000000 in
theorem j7_appendPart_7 (x : cw_T) (n : Nat) (t : Nat) (ht : t < 7) (t1 : Nat) (ht1 : t1 < 7) {F : ej_F} {r0 : ej_S} (hq : ej_fin (cV x) F none none r0) : ∀ (k : Nat) (y2 : Int32) (y3 : Int32) (σ : ej_S), ej_J (cV x) F i7_appendPart r0 σ 7 [(0, .ref (cw_a x (10 + t))), (1, .ref (cw_a x (10 + t1))), (3, .int y2), (4, .int y3)] [] (m7_appendPart_7 n t t1 k y2 y3 σ) := by
  intro k
  induction k with
  | zero => intro y2 y3 σ; exact j_none
  | succ k ih =>
    intro y2 y3 σ
    rw [m7_appendPart_7_s]
    refine j_iload 3 rfl d7_appendPart_7 ?_
    refine j_iload_n 2 rfl d7_appendPart_9 ?_
    refine j_icmp_ge d7_appendPart_10 ?_ ?_
    · exact j_vreturn hq d7_appendPart_38
    · refine j_iload 3 rfl d7_appendPart_13 ?_
      refine j_aload_n 1 rfl d7_appendPart_15 ?_
      refine j_get fl_X7_21 (cV_g_t_1 x σ t1 ht1) d7_appendPart_16 ?_
      refine j_icmp_ge d7_appendPart_19 ?_ ?_
      · exact j_vreturn hq d7_appendPart_38
      · refine j_aload_n 0 rfl d7_appendPart_22 ?_
        refine j_aload_n 1 rfl d7_appendPart_23 ?_
        refine j_iload 3 rfl d7_appendPart_24 ?_
        refine j_callVi (c7_byteAt x n t1 ht1 y3 σ) lv_X7_33 (cV_rc_t x σ t1 ht1) ⟨Nat.le_of_ble_eq_true rfl, Nat.le_of_ble_eq_true rfl⟩ d7_appendPart_26 rfl (Nat.le_of_ble_eq_true rfl) (fun r5 s4 => ?_)
        refine j_callVv (c7_append x n t ht r5 s4) lv_X7_29 (cV_rc_t x s4 t ht) ⟨Nat.le_of_ble_eq_true rfl, Nat.le_of_ble_eq_true rfl⟩ d7_appendPart_29 rfl (Nat.le_of_ble_eq_true rfl) (fun s6 => ?_)
        refine j_iinc (i := 4) (v := 1) (Ly := fun x7 => [(4, .int x7), (0, .ref (cw_a x (10 + t))), (1, .ref (cw_a x (10 + t1))), (3, .int y2)]) 3 d7_appendPart_32 rfl ejc_1 (Nat.le_of_ble_eq_true rfl) (fun _ => rfl) (fun x7 => ?_)
        refine j_goto d7_appendPart_35 ?_
        exact j_sub [1, 2, 3, 0] rfl (ih y2 x7 s6)
noncomputable def m7_appendPart (n : Nat) (t : Nat) (t1 : Nat) (a2 : Int32) (a3 : Int32) (σ : ej_S) : Option (ej_S) := ej_nm ((if a2 < 0 then 0 else a2)) fun x1 => (m7_appendPart_7 n t t1 n a3 x1 σ)
set_option maxRecDepth 20000 in
set_option maxHeartbeats 2000000 in
theorem j7_appendPart (x : cw_T) (n : Nat) (t : Nat) (ht : t < 7) (t1 : Nat) (ht1 : t1 < 7) (a2 : Int32) (a3 : Int32) (σ : ej_S) {F : ej_F} {r0 : ej_S} (hq : ej_fin (cV x) F none none r0) : ej_J (cV x) F i7_appendPart r0 σ 0 [(0, .ref (cw_a x (10 + t))), (1, .ref (cw_a x (10 + t1))), (2, .int a2), (3, .int a3)] [] (m7_appendPart n t t1 a2 a3 σ) := by
  unfold m7_appendPart
  refine j_iload_n 2 rfl d7_appendPart_0 ?_
  refine j_iconst d7_appendPart_1 ejc_0 ?_
  refine j_mmax ma_X7_9 ma_st_mmax ma_in ma_co_mmax ⟨Nat.le_of_ble_eq_true rfl, Nat.le_of_ble_eq_true rfl⟩ (Nat.le_of_ble_eq_true rfl) d7_appendPart_2 ?_
  refine j_nmi (fun x1 => ?_)
  refine j_istore (i := 4) (L' := [(4, .int x1), (0, .ref (cw_a x (10 + t))), (1, .ref (cw_a x (10 + t1))), (2, .int a2), (3, .int a3)]) d7_appendPart_5 (Nat.le_of_ble_eq_true rfl) rfl ?_
  exact j_sub [1, 2, 4, 0] rfl (j7_appendPart_7 x n t ht t1 ht1 hq n a3 x1 σ)
theorem c7_appendPart (x : cw_T) (n : Nat) (t : Nat) (ht : t < 7) (t1 : Nat) (ht1 : t1 < 7) (a2 : Int32) (a3 : Int32) (σ : ej_S) : ∀ σ1, m7_appendPart n t t1 a2 a3 σ = some σ1 → ∀ l, ej_Con l (cV x) i7_appendPart yX7_appendPart none [.ref (cw_a x (10 + t)), .ref (cw_a x (10 + t1)), .int a2, .int a3] σ none σ1 := fun σ1 h l => ej_con_of (cV_ok x) pn_X7 rfl (Nat.le_of_ble_eq_true rfl) rfl h (fun F hq => j7_appendPart x n t ht t1 ht1 a2 a3 σ hq)

noncomputable def m7_become (n : Nat) (t : Nat) (t1 : Nat)  (σ : ej_S) : Option (ej_S) := ej_bv (m7_clear n t σ) fun s1 => ej_bv (m7_appendPart n t t1 0 (gI s1 t1) s1) fun s2 => (some s2)
set_option maxRecDepth 20000 in
set_option maxHeartbeats 2000000 in
theorem j7_become (x : cw_T) (n : Nat) (t : Nat) (ht : t < 7) (t1 : Nat) (ht1 : t1 < 7)  (σ : ej_S) {F : ej_F} {r0 : ej_S} (hq : ej_fin (cV x) F none none r0) : ej_J (cV x) F i7_become r0 σ 0 [(0, .ref (cw_a x (10 + t))), (1, .ref (cw_a x (10 + t1)))] [] (m7_become n t t1  σ) := by
  unfold m7_become
  refine j_aload_n 0 rfl d7_become_0 ?_
  refine j_callVv (c7_clear x n t ht σ) lv_X7_37 (cV_rc_t x σ t ht) ⟨Nat.le_of_ble_eq_true rfl, Nat.le_of_ble_eq_true rfl⟩ d7_become_1 rfl (Nat.le_of_ble_eq_true rfl) (fun s1 => ?_)
  refine j_aload_n 0 rfl d7_become_4 ?_
  refine j_aload_n 1 rfl d7_become_5 ?_
  refine j_iconst d7_become_6 ejc_0 ?_
  refine j_aload_n 1 rfl d7_become_7 ?_
  refine j_get fl_X7_21 (cV_g_t_1 x s1 t1 ht1) d7_become_8 ?_
  refine j_callVv (c7_appendPart x n t ht t1 ht1 0 (gI s1 t1) s1) lv_X7_40 (cV_rc_t x s1 t ht) ⟨Nat.le_of_ble_eq_true rfl, Nat.le_of_ble_eq_true rfl⟩ d7_become_11 rfl (Nat.le_of_ble_eq_true rfl) (fun s2 => ?_)
  exact j_vreturn hq d7_become_14
theorem c7_become (x : cw_T) (n : Nat) (t : Nat) (ht : t < 7) (t1 : Nat) (ht1 : t1 < 7)  (σ : ej_S) : ∀ σ1, m7_become n t t1  σ = some σ1 → ∀ l, ej_Con l (cV x) i7_become yX7_become none [.ref (cw_a x (10 + t)), .ref (cw_a x (10 + t1))] σ none σ1 := fun σ1 h l => ej_con_of (cV_ok x) pn_X7 rfl (Nat.le_of_ble_eq_true rfl) rfl h (fun F hq => j7_become x n t ht t1 ht1  σ hq)

noncomputable def m7_packed_5 (n : Nat) (t : Nat) (k : Nat) : Int32 → Int32 → Int64 → Int32 → ej_S → Option (Int64 × ej_S) := Nat.rec (motive := fun _ => Int32 → Int32 → Int64 → Int32 → ej_S → Option (Int64 × ej_S)) (fun _ _ _ _ _ => none) (fun _ ih y1 y2 y3 y4 σ => (if 8 ≤ y4 then (some (y3, σ)) else (if y2 ≤ y1 + y4 then (some (y3, σ)) else ej_bi (m7_byteAt n t (y1 + y4) σ) fun r6 s5 => ej_nm (y3 ||| (((r6.toInt64) &&& 255) <<< ((8 * y4).toInt64 &&& 63))) fun x7 => ej_nm (y4 + 1) fun x8 => (ih y1 y2 x7 x8 s5)))) k
theorem m7_packed_5_s (n : Nat) (t : Nat) (k : Nat) (y1 : Int32) (y2 : Int32) (y3 : Int64) (y4 : Int32) (σ : ej_S) : m7_packed_5 n t (k + 1) y1 y2 y3 y4 σ = ((if 8 ≤ y4 then (some (y3, σ)) else (if y2 ≤ y1 + y4 then (some (y3, σ)) else ej_bi (m7_byteAt n t (y1 + y4) σ) fun r6 s5 => ej_nm (y3 ||| (((r6.toInt64) &&& 255) <<< ((8 * y4).toInt64 &&& 63))) fun x7 => ej_nm (y4 + 1) fun x8 => ((m7_packed_5 n t k) y1 y2 x7 x8 s5))) : Option (Int64 × ej_S)) := rfl
set_option maxRecDepth 20000 in
set_option maxHeartbeats 2000000 in
theorem j7_packed_5 (x : cw_T) (n : Nat) (t : Nat) (ht : t < 7) {F : ej_F} {r0 : Int64 × ej_S} (hq : ej_fin (cV x) F (some .long) (some (.long r0.1)) r0.2) : ∀ (k : Nat) (y1 : Int32) (y2 : Int32) (y3 : Int64) (y4 : Int32) (σ : ej_S), ej_J (cV x) F i7_packed r0 σ 5 [(0, .ref (cw_a x (10 + t))), (1, .int y1), (2, .int y2), (3, .long y3), (5, .int y4)] [] (m7_packed_5 n t k y1 y2 y3 y4 σ) := by
  intro k
  induction k with
  | zero => intro y1 y2 y3 y4 σ; exact j_none
  | succ k ih =>
    intro y1 y2 y3 y4 σ
    rw [m7_packed_5_s]
    refine j_iload 4 rfl d7_packed_5 ?_
    refine j_bipush d7_packed_7 ejb_8 ?_
    refine j_icmp_ge d7_packed_9 ?_ ?_
    · refine j_lload_n 3 rfl d7_packed_48 ?_
      exact j_lreturn hq d7_packed_49
    · refine j_iload_n 1 rfl d7_packed_12 ?_
      refine j_iload 4 rfl d7_packed_13 ?_
      refine j_iadd d7_packed_15 ?_
      refine j_iload_n 2 rfl d7_packed_16 ?_
      refine j_icmp_ge d7_packed_17 ?_ ?_
      · refine j_lload_n 3 rfl d7_packed_48 ?_
        exact j_lreturn hq d7_packed_49
      · refine j_lload_n 3 rfl d7_packed_20 ?_
        refine j_aload_n 0 rfl d7_packed_21 ?_
        refine j_iload_n 1 rfl d7_packed_22 ?_
        refine j_iload 4 rfl d7_packed_23 ?_
        refine j_iadd d7_packed_25 ?_
        refine j_callVi (c7_byteAt x n t ht (y1 + y4) σ) lv_X7_33 (cV_rc_t x σ t ht) ⟨Nat.le_of_ble_eq_true rfl, Nat.le_of_ble_eq_true rfl⟩ d7_packed_26 rfl (Nat.le_of_ble_eq_true rfl) (fun r6 s5 => ?_)
        refine j_i2l d7_packed_29 ?_
        refine j_ldc2 d7_packed_30 kl_X7_44 ?_
        refine j_land d7_packed_33 ?_
        refine j_bipush d7_packed_34 ejb_8 ?_
        refine j_iload 4 rfl d7_packed_36 ?_
        refine j_imul d7_packed_38 ?_
        refine j_lshl d7_packed_39 ?_
        refine j_lor d7_packed_40 ?_
        refine j_nml (fun x7 => ?_)
        refine j_lstore_n (i := 3) (L' := [(3, .long x7), (0, .ref (cw_a x (10 + t))), (1, .int y1), (2, .int y2), (5, .int y4)]) d7_packed_41 rfl (Nat.le_of_ble_eq_true rfl) rfl ?_
        refine j_iinc (i := 5) (v := 1) (Ly := fun x8 => [(5, .int x8), (3, .long x7), (0, .ref (cw_a x (10 + t))), (1, .int y1), (2, .int y2)]) 4 d7_packed_42 rfl ejc_1 (Nat.le_of_ble_eq_true rfl) (fun _ => rfl) (fun x8 => ?_)
        refine j_goto d7_packed_45 ?_
        exact j_sub [2, 3, 4, 1, 0] rfl (ih y1 y2 x7 x8 s5)
noncomputable def m7_packed (n : Nat) (t : Nat) (a1 : Int32) (a2 : Int32) (σ : ej_S) : Option (Int64 × ej_S) := (m7_packed_5 n t n a1 a2 0 0 σ)
set_option maxRecDepth 20000 in
set_option maxHeartbeats 2000000 in
theorem j7_packed (x : cw_T) (n : Nat) (t : Nat) (ht : t < 7) (a1 : Int32) (a2 : Int32) (σ : ej_S) {F : ej_F} {r0 : Int64 × ej_S} (hq : ej_fin (cV x) F (some .long) (some (.long r0.1)) r0.2) : ej_J (cV x) F i7_packed r0 σ 0 [(0, .ref (cw_a x (10 + t))), (1, .int a1), (2, .int a2)] [] (m7_packed n t a1 a2 σ) := by
  unfold m7_packed
  refine j_lconst d7_packed_0 ejl_0 ?_
  refine j_lstore_n (i := 3) (L' := [(3, .long 0), (0, .ref (cw_a x (10 + t))), (1, .int a1), (2, .int a2)]) d7_packed_1 rfl (Nat.le_of_ble_eq_true rfl) rfl ?_
  refine j_iconst d7_packed_2 ejc_0 ?_
  refine j_istore (i := 5) (L' := [(5, .int 0), (3, .long 0), (0, .ref (cw_a x (10 + t))), (1, .int a1), (2, .int a2)]) d7_packed_3 (Nat.le_of_ble_eq_true rfl) rfl ?_
  exact j_sub [2, 3, 4, 1, 0] rfl (j7_packed_5 x n t ht hq n a1 a2 0 0 σ)
theorem c7_packed (x : cw_T) (n : Nat) (t : Nat) (ht : t < 7) (a1 : Int32) (a2 : Int32) (σ : ej_S) : ∀ r σ1, m7_packed n t a1 a2 σ = some (r, σ1) → ∀ l, ej_Con l (cV x) i7_packed yX7_packed (some .long) [.ref (cw_a x (10 + t)), .int a1, .int a2] σ (some (.long r)) σ1 := fun r σ1 h l => ej_con_of (cV_ok x) pn_X7 rfl (Nat.le_of_ble_eq_true rfl) rfl h (fun F hq => j7_packed x n t ht a1 a2 σ hq)

noncomputable def m7_spells_15 (n : Nat) (t : Nat) (t3 : Nat) (k : Nat) : Int32 → Int32 → ej_S → Option (Int32 × ej_S) := Nat.rec (motive := fun _ => Int32 → Int32 → ej_S → Option (Int32 × ej_S)) (fun _ _ _ => none) (fun _ ih y3 y4 σ => ej_bi (mJ0_length n t3  σ) fun r5 s6 => (if r5 ≤ y4 then (some (1, s6)) else ej_bi (m7_byteAt n t (y3 + y4) s6) fun r8 s7 => ej_bi (mJ0_charAt n t3 y4 s7) fun r9 s10 => (if r8 = r9 then ej_nm (y4 + 1) fun x11 => (ih y3 x11 s10) else (some (0, s10))))) k
theorem m7_spells_15_s (n : Nat) (t : Nat) (t3 : Nat) (k : Nat) (y3 : Int32) (y4 : Int32) (σ : ej_S) : m7_spells_15 n t t3 (k + 1) y3 y4 σ = (ej_bi (mJ0_length n t3  σ) fun r5 s6 => (if r5 ≤ y4 then (some (1, s6)) else ej_bi (m7_byteAt n t (y3 + y4) s6) fun r8 s7 => ej_bi (mJ0_charAt n t3 y4 s7) fun r9 s10 => (if r8 = r9 then ej_nm (y4 + 1) fun x11 => ((m7_spells_15 n t t3 k) y3 x11 s10) else (some (0, s10)))) : Option (Int32 × ej_S)) := rfl
set_option maxRecDepth 20000 in
set_option maxHeartbeats 2000000 in
theorem j7_spells_15 (x : cw_T) (n : Nat) (t : Nat) (ht : t < 7) (t3 : Nat) (ht3 : t3 < 13) {F : ej_F} {r0 : Int32 × ej_S} (hq : ej_fin (cV x) F (some .boolean) (some (.int r0.1)) r0.2) : ∀ (k : Nat) (y3 : Int32) (y4 : Int32) (σ : ej_S), ej_J (cV x) F i7_spells r0 σ 15 [(0, .ref (cw_a x (10 + t))), (1, .int y3), (3, .ref (cw_k x t3)), (4, .int y4)] [] (m7_spells_15 n t t3 k y3 y4 σ) := by
  intro k
  induction k with
  | zero => intro y3 y4 σ; exact j_none
  | succ k ih =>
    intro y3 y4 σ
    rw [m7_spells_15_s]
    refine j_iload 3 rfl d7_spells_15 ?_
    refine j_aload_n 2 rfl d7_spells_17 ?_
    refine j_callJi (cJ0_length x n t3 ht3  σ) js_X7_46 rfl ht3 ⟨Nat.le_of_ble_eq_true rfl, Nat.le_of_ble_eq_true rfl⟩ d7_spells_18 rfl (Nat.le_of_ble_eq_true rfl) (fun r5 s6 => ?_)
    refine j_icmp_ge d7_spells_21 ?_ ?_
    · refine j_iconst d7_spells_49 ejc_1 ?_
      exact j_zreturn1 hq d7_spells_50
    · refine j_aload_n 0 rfl d7_spells_24 ?_
      refine j_iload_n 1 rfl d7_spells_25 ?_
      refine j_iload 3 rfl d7_spells_26 ?_
      refine j_iadd d7_spells_28 ?_
      refine j_callVi (c7_byteAt x n t ht (y3 + y4) s6) lv_X7_33 (cV_rc_t x s6 t ht) ⟨Nat.le_of_ble_eq_true rfl, Nat.le_of_ble_eq_true rfl⟩ d7_spells_29 rfl (Nat.le_of_ble_eq_true rfl) (fun r8 s7 => ?_)
      refine j_aload_n 2 rfl d7_spells_32 ?_
      refine j_iload 3 rfl d7_spells_33 ?_
      refine j_callJi (cJ0_charAt x n t3 ht3 y4 s7) js_X7_51 rfl ht3 ⟨Nat.le_of_ble_eq_true rfl, Nat.le_of_ble_eq_true rfl⟩ d7_spells_35 rfl (Nat.le_of_ble_eq_true rfl) (fun r9 s10 => ?_)
      refine j_icmp_eq d7_spells_38 ?_ ?_
      · refine j_iinc (i := 4) (v := 1) (Ly := fun x11 => [(4, .int x11), (0, .ref (cw_a x (10 + t))), (1, .int y3), (3, .ref (cw_k x t3))]) 3 d7_spells_43 rfl ejc_1 (Nat.le_of_ble_eq_true rfl) (fun _ => rfl) (fun x11 => ?_)
        refine j_goto d7_spells_46 ?_
        exact j_sub [1, 2, 3, 0] rfl (ih y3 x11 s10)
      · refine j_iconst d7_spells_41 ejc_0 ?_
        exact j_zreturn0 hq d7_spells_42
noncomputable def m7_spells (n : Nat) (t : Nat) (t3 : Nat) (a1 : Int32) (a2 : Int32) (σ : ej_S) : Option (Int32 × ej_S) := ej_bi (mJ0_length n t3  σ) fun r1 s2 => (if a2 - a1 = r1 then (m7_spells_15 n t t3 n a1 0 s2) else (some (0, s2)))
set_option maxRecDepth 20000 in
set_option maxHeartbeats 2000000 in
theorem j7_spells (x : cw_T) (n : Nat) (t : Nat) (ht : t < 7) (t3 : Nat) (ht3 : t3 < 13) (a1 : Int32) (a2 : Int32) (σ : ej_S) {F : ej_F} {r0 : Int32 × ej_S} (hq : ej_fin (cV x) F (some .boolean) (some (.int r0.1)) r0.2) : ej_J (cV x) F i7_spells r0 σ 0 [(0, .ref (cw_a x (10 + t))), (1, .int a1), (2, .int a2), (3, .ref (cw_k x t3))] [] (m7_spells n t t3 a1 a2 σ) := by
  unfold m7_spells
  refine j_iload_n 2 rfl d7_spells_0 ?_
  refine j_iload_n 1 rfl d7_spells_1 ?_
  refine j_isub d7_spells_2 ?_
  refine j_aload_n 3 rfl d7_spells_3 ?_
  refine j_callJi (cJ0_length x n t3 ht3  σ) js_X7_46 rfl ht3 ⟨Nat.le_of_ble_eq_true rfl, Nat.le_of_ble_eq_true rfl⟩ d7_spells_4 rfl (Nat.le_of_ble_eq_true rfl) (fun r1 s2 => ?_)
  refine j_icmp_eq d7_spells_7 ?_ ?_
  · refine j_iconst d7_spells_12 ejc_0 ?_
    refine j_istore (i := 4) (L' := [(4, .int 0), (0, .ref (cw_a x (10 + t))), (1, .int a1), (2, .int a2), (3, .ref (cw_k x t3))]) d7_spells_13 (Nat.le_of_ble_eq_true rfl) rfl ?_
    exact j_sub [1, 2, 4, 0] rfl (j7_spells_15 x n t ht t3 ht3 hq n a1 0 s2)
  · refine j_iconst d7_spells_10 ejc_0 ?_
    exact j_zreturn0 hq d7_spells_11
theorem c7_spells (x : cw_T) (n : Nat) (t : Nat) (ht : t < 7) (t3 : Nat) (ht3 : t3 < 13) (a1 : Int32) (a2 : Int32) (σ : ej_S) : ∀ r σ1, m7_spells n t t3 a1 a2 σ = some (r, σ1) → ∀ l, ej_Con l (cV x) i7_spells yX7_spells (some .boolean) [.ref (cw_a x (10 + t)), .int a1, .int a2, .ref (cw_k x t3)] σ (some (.int r)) σ1 := fun r σ1 h l => ej_con_of (cV_ok x) pn_X7 rfl (Nat.le_of_ble_eq_true rfl) rfl h (fun F hq => j7_spells x n t ht t3 ht3 a1 a2 σ hq)

noncomputable def m7_asName_24 (n : Nat) (t : Nat) (k : Nat) : Int32 → ej_S → Option (Int64 × ej_S) := Nat.rec (motive := fun _ => Int32 → ej_S → Option (Int64 × ej_S)) (fun _ _ => none) (fun _ ih y5 σ => (if gI σ t ≤ y5 then ej_bl (m7_packed n t 0 (gI σ t) σ) fun r7 s6 => (some (r7, s6)) else ej_bi (m7_byteAt n t y5 σ) fun r9 s8 => ej_bi (m10_isNamePart n r9 s8) fun r11 s10 => (if r11 = 0 then (some (0, s10)) else ej_nm (y5 + 1) fun x12 => (ih x12 s10)))) k
theorem m7_asName_24_s (n : Nat) (t : Nat) (k : Nat) (y5 : Int32) (σ : ej_S) : m7_asName_24 n t (k + 1) y5 σ = ((if gI σ t ≤ y5 then ej_bl (m7_packed n t 0 (gI σ t) σ) fun r7 s6 => (some (r7, s6)) else ej_bi (m7_byteAt n t y5 σ) fun r9 s8 => ej_bi (m10_isNamePart n r9 s8) fun r11 s10 => (if r11 = 0 then (some (0, s10)) else ej_nm (y5 + 1) fun x12 => ((m7_asName_24 n t k) x12 s10))) : Option (Int64 × ej_S)) := rfl
set_option maxRecDepth 20000 in
set_option maxHeartbeats 2000000 in
theorem j7_asName_24 (x : cw_T) (n : Nat) (t : Nat) (ht : t < 7) {F : ej_F} {r0 : Int64 × ej_S} (hq : ej_fin (cV x) F (some .long) (some (.long r0.1)) r0.2) : ∀ (k : Nat) (y5 : Int32) (σ : ej_S), ej_J (cV x) F i7_asName r0 σ 24 [(0, .ref (cw_a x (10 + t))), (1, .int y5)] [] (m7_asName_24 n t k y5 σ) := by
  intro k
  induction k with
  | zero => intro y5 σ; exact j_none
  | succ k ih =>
    intro y5 σ
    rw [m7_asName_24_s]
    refine j_iload_n 1 rfl d7_asName_24 ?_
    refine j_aload_n 0 rfl d7_asName_25 ?_
    refine j_get fl_X7_21 (cV_g_t_1 x σ t ht) d7_asName_26 ?_
    refine j_icmp_ge d7_asName_29 ?_ ?_
    · refine j_aload_n 0 rfl d7_asName_51 ?_
      refine j_iconst d7_asName_52 ejc_0 ?_
      refine j_aload_n 0 rfl d7_asName_53 ?_
      refine j_get fl_X7_21 (cV_g_t_1 x σ t ht) d7_asName_54 ?_
      refine j_callVl (c7_packed x n t ht 0 (gI σ t) σ) lv_X7_62 (cV_rc_t x σ t ht) ⟨Nat.le_of_ble_eq_true rfl, Nat.le_of_ble_eq_true rfl⟩ d7_asName_57 rfl (Nat.le_of_ble_eq_true rfl) (fun r7 s6 => ?_)
      exact j_lreturn hq d7_asName_60
    · refine j_aload_n 0 rfl d7_asName_32 ?_
      refine j_iload_n 1 rfl d7_asName_33 ?_
      refine j_callVi (c7_byteAt x n t ht y5 σ) lv_X7_33 (cV_rc_t x σ t ht) ⟨Nat.le_of_ble_eq_true rfl, Nat.le_of_ble_eq_true rfl⟩ d7_asName_34 rfl (Nat.le_of_ble_eq_true rfl) (fun r9 s8 => ?_)
      refine j_callNi (c10_isNamePart x n r9 s8) (ln_X7_59 x) ⟨Nat.le_of_ble_eq_true rfl, Nat.le_of_ble_eq_true rfl⟩ d7_asName_37 rfl (Nat.le_of_ble_eq_true rfl) (fun r11 s10 => ?_)
      refine j_if_ne d7_asName_40 ?_ ?_
      · refine j_iinc (i := 1) (v := 1) (Ly := fun x12 => [(1, .int x12), (0, .ref (cw_a x (10 + t)))]) 1 d7_asName_45 rfl ejc_1 (Nat.le_of_ble_eq_true rfl) (fun _ => rfl) (fun x12 => ?_)
        refine j_goto d7_asName_48 ?_
        exact j_sub [1, 0] rfl (ih x12 s10)
      · refine j_lconst d7_asName_43 ejl_0 ?_
        exact j_lreturn hq d7_asName_44
noncomputable def m7_asName (n : Nat) (t : Nat)  (σ : ej_S) : Option (Int64 × ej_S) := (if 8 < gI σ t then (some (0, σ)) else ej_bi (m7_byteAt n t 0 σ) fun r2 s1 => ej_bi (m10_isNameStart n r2 s1) fun r4 s3 => (if r4 = 0 then (some (0, s3)) else (m7_asName_24 n t n 1 s3)))
set_option maxRecDepth 20000 in
set_option maxHeartbeats 2000000 in
theorem j7_asName (x : cw_T) (n : Nat) (t : Nat) (ht : t < 7)  (σ : ej_S) {F : ej_F} {r0 : Int64 × ej_S} (hq : ej_fin (cV x) F (some .long) (some (.long r0.1)) r0.2) : ej_J (cV x) F i7_asName r0 σ 0 [(0, .ref (cw_a x (10 + t)))] [] (m7_asName n t  σ) := by
  unfold m7_asName
  refine j_aload_n 0 rfl d7_asName_0 ?_
  refine j_get fl_X7_21 (cV_g_t_1 x σ t ht) d7_asName_1 ?_
  refine j_bipush d7_asName_4 ejb_8 ?_
  refine j_icmp_gt d7_asName_6 ?_ ?_
  · refine j_lconst d7_asName_20 ejl_0 ?_
    exact j_lreturn hq d7_asName_21
  · refine j_aload_n 0 rfl d7_asName_9 ?_
    refine j_iconst d7_asName_10 ejc_0 ?_
    refine j_callVi (c7_byteAt x n t ht 0 σ) lv_X7_33 (cV_rc_t x σ t ht) ⟨Nat.le_of_ble_eq_true rfl, Nat.le_of_ble_eq_true rfl⟩ d7_asName_11 rfl (Nat.le_of_ble_eq_true rfl) (fun r2 s1 => ?_)
    refine j_callNi (c10_isNameStart x n r2 s1) (ln_X7_55 x) ⟨Nat.le_of_ble_eq_true rfl, Nat.le_of_ble_eq_true rfl⟩ d7_asName_14 rfl (Nat.le_of_ble_eq_true rfl) (fun r4 s3 => ?_)
    refine j_if_ne d7_asName_17 ?_ ?_
    · refine j_iconst d7_asName_22 ejc_1 ?_
      refine j_istore_n (i := 1) (L' := [(1, .int 1), (0, .ref (cw_a x (10 + t)))]) d7_asName_23 rfl (Nat.le_of_ble_eq_true rfl) rfl ?_
      exact j_sub [1, 0] rfl (j7_asName_24 x n t ht hq n 1 s3)
    · refine j_lconst d7_asName_20 ejl_0 ?_
      exact j_lreturn hq d7_asName_21
theorem c7_asName (x : cw_T) (n : Nat) (t : Nat) (ht : t < 7)  (σ : ej_S) : ∀ r σ1, m7_asName n t  σ = some (r, σ1) → ∀ l, ej_Con l (cV x) i7_asName yX7_asName (some .long) [.ref (cw_a x (10 + t))] σ (some (.long r)) σ1 := fun r σ1 h l => ej_con_of (cV_ok x) pn_X7 rfl (Nat.le_of_ble_eq_true rfl) rfl h (fun F hq => j7_asName x n t ht  σ hq)

