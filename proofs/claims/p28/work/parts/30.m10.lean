noncomputable def m10_fault (n : Nat) (a1 : Int32) (σ : ej_S) : Option (Int32 × ej_S) := (if a1 = 0 then ej_bi (m1_code n σ) fun r2 s1 => (some (r2, s1)) else ej_bi (m1_where n σ) fun r4 s3 => (some (r4, s3)))
set_option maxRecDepth 20000 in
set_option maxHeartbeats 2000000 in
theorem j10_fault (x : cw_T) (n : Nat) (a1 : Int32) (σ : ej_S) {F : ej_F} {r0 : Int32 × ej_S} (hq : ej_fin (cV x) F (some .int) (some (.int r0.1)) r0.2) : ej_J (cV x) F i10_fault r0 σ 0 [(0, .ref (cw_a x 0)), (1, .int a1)] [] (m10_fault n a1 σ) := by
  unfold m10_fault
  refine j_iload_n 1 rfl d10_fault_0 ?_
  refine j_if_eq d10_fault_1 ?_ ?_
  · refine j_aload_n 0 rfl d10_fault_14 ?_
    refine j_get fl_X10_32 (cV_g_0_4 x σ) d10_fault_15 ?_
    refine j_callVi (c1_code x n σ) lv_X10_162 (cV_rc_1 x σ) ⟨Nat.le_of_ble_eq_true rfl, Nat.le_of_ble_eq_true rfl⟩ d10_fault_18 rfl (Nat.le_of_ble_eq_true rfl) (fun r2 s1 => ?_)
    exact j_ireturn hq d10_fault_21
  · refine j_aload_n 0 rfl d10_fault_4 ?_
    refine j_get fl_X10_32 (cV_g_0_4 x σ) d10_fault_5 ?_
    refine j_callVi (c1_where x n σ) lv_X10_170 (cV_rc_1 x σ) ⟨Nat.le_of_ble_eq_true rfl, Nat.le_of_ble_eq_true rfl⟩ d10_fault_8 rfl (Nat.le_of_ble_eq_true rfl) (fun r4 s3 => ?_)
    refine j_goto d10_fault_11 ?_
    exact j_ireturn hq d10_fault_21
theorem c10_fault (x : cw_T) (n : Nat) (a1 : Int32) (σ : ej_S) : ∀ r σ1, m10_fault n a1 σ = some (r, σ1) → ∀ l, ej_Con l (cV x) i10_fault yX10_fault (some .int) [.ref (cw_a x 0), .int a1] σ (some (.int r)) σ1 := fun r σ1 h l => ej_con_of (cV_ok x) pn_X10 rfl (Nat.le_of_ble_eq_true rfl) rfl h (fun F hq => j10_fault x n a1 σ hq)

noncomputable def m10_home (n : Nat)  (σ : ej_S) : Option (Int32 × ej_S) := ej_bi (m9_homeNode n σ) fun r2 s1 => (some (r2, s1))
set_option maxRecDepth 20000 in
set_option maxHeartbeats 2000000 in
theorem j10_home (x : cw_T) (n : Nat)  (σ : ej_S) {F : ej_F} {r0 : Int32 × ej_S} (hq : ej_fin (cV x) F (some .int) (some (.int r0.1)) r0.2) : ej_J (cV x) F i10_home r0 σ 0 [(0, .ref (cw_a x 0))] [] (m10_home n  σ) := by
  unfold m10_home
  refine j_aload_n 0 rfl d10_home_0 ?_
  refine j_get fl_X10_82 (cV_g_0_10 x σ) d10_home_1 ?_
  refine j_callVi (c9_homeNode x n σ) lv_X10_182 (cV_rc_7 x σ) ⟨Nat.le_of_ble_eq_true rfl, Nat.le_of_ble_eq_true rfl⟩ d10_home_4 rfl (Nat.le_of_ble_eq_true rfl) (fun r2 s1 => ?_)
  exact j_ireturn hq d10_home_7
theorem c10_home (x : cw_T) (n : Nat)  (σ : ej_S) : ∀ r σ1, m10_home n  σ = some (r, σ1) → ∀ l, ej_Con l (cV x) i10_home yX10_home (some .int) [.ref (cw_a x 0)] σ (some (.int r)) σ1 := fun r σ1 h l => ej_con_of (cV_ok x) pn_X10 rfl (Nat.le_of_ble_eq_true rfl) rfl h (fun F hq => j10_home x n  σ hq)

noncomputable def m10_lookUp (n : Nat)  (σ : ej_S) : Option (Int32 × ej_S) := ej_bl (m7_asName n 0 σ) fun r2 s1 => ej_bv (m7_clear n 0 s1) fun s3 => ej_bi (m0_find n r2 (-1) s3) fun r5 s4 => (some (r5, s4))
set_option maxRecDepth 20000 in
set_option maxHeartbeats 2000000 in
theorem j10_lookUp (x : cw_T) (n : Nat)  (σ : ej_S) {F : ej_F} {r0 : Int32 × ej_S} (hq : ej_fin (cV x) F (some .int) (some (.int r0.1)) r0.2) : ej_J (cV x) F i10_lookUp r0 σ 0 [(0, .ref (cw_a x 0))] [] (m10_lookUp n  σ) := by
  unfold m10_lookUp
  refine j_aload_n 0 rfl d10_lookUp_0 ?_
  refine j_get fl_X10_14 (cV_g_0_0 x σ) d10_lookUp_1 ?_
  refine j_callVl (c7_asName x n 0 (Nat.le_of_ble_eq_true rfl) σ) lv_X10_173 (cV_rc_t x σ 0 (Nat.le_of_ble_eq_true rfl)) ⟨Nat.le_of_ble_eq_true rfl, Nat.le_of_ble_eq_true rfl⟩ d10_lookUp_4 rfl (Nat.le_of_ble_eq_true rfl) (fun r2 s1 => ?_)
  refine j_lstore_n (i := 1) (L' := [(1, .long r2), (0, .ref (cw_a x 0))]) d10_lookUp_7 rfl (Nat.le_of_ble_eq_true rfl) rfl ?_
  refine j_aload_n 1 rfl d10_lookUp_8 ?_
  refine j_get fl_X10_14 (cV_g_0_0 x s1) d10_lookUp_9 ?_
  refine j_callVv (c7_clear x n 0 (Nat.le_of_ble_eq_true rfl) s1) lv_X10_118 (cV_rc_t x s1 0 (Nat.le_of_ble_eq_true rfl)) ⟨Nat.le_of_ble_eq_true rfl, Nat.le_of_ble_eq_true rfl⟩ d10_lookUp_12 rfl (Nat.le_of_ble_eq_true rfl) (fun s3 => ?_)
  refine j_aload_n 1 rfl d10_lookUp_15 ?_
  refine j_get fl_X10_55 (cV_g_0_7 x s3) d10_lookUp_16 ?_
  refine j_lload_n 0 rfl d10_lookUp_19 ?_
  refine j_iconst d10_lookUp_20 ejc_m1 ?_
  refine j_callVi (c0_find x n r2 (-1) s3) lv_X10_185 (cV_rc_4 x s3) ⟨Nat.le_of_ble_eq_true rfl, Nat.le_of_ble_eq_true rfl⟩ d10_lookUp_21 rfl (Nat.le_of_ble_eq_true rfl) (fun r5 s4 => ?_)
  exact j_ireturn hq d10_lookUp_24
theorem c10_lookUp (x : cw_T) (n : Nat)  (σ : ej_S) : ∀ r σ1, m10_lookUp n  σ = some (r, σ1) → ∀ l, ej_Con l (cV x) i10_lookUp yX10_lookUp (some .int) [.ref (cw_a x 0)] σ (some (.int r)) σ1 := fun r σ1 h l => ej_con_of (cV_ok x) pn_X10 rfl (Nat.le_of_ble_eq_true rfl) rfl h (fun F hq => j10_lookUp x n  σ hq)

noncomputable def m10_nodes (n : Nat)  (σ : ej_S) : Option (Int32 × ej_S) := ej_bi (m0_size n σ) fun r2 s1 => (some (r2, s1))
set_option maxRecDepth 20000 in
set_option maxHeartbeats 2000000 in
theorem j10_nodes (x : cw_T) (n : Nat)  (σ : ej_S) {F : ej_F} {r0 : Int32 × ej_S} (hq : ej_fin (cV x) F (some .int) (some (.int r0.1)) r0.2) : ej_J (cV x) F i10_nodes r0 σ 0 [(0, .ref (cw_a x 0))] [] (m10_nodes n  σ) := by
  unfold m10_nodes
  refine j_aload_n 0 rfl d10_nodes_0 ?_
  refine j_get fl_X10_55 (cV_g_0_7 x σ) d10_nodes_1 ?_
  refine j_callVi (c0_size x n σ) lv_X10_189 (cV_rc_4 x σ) ⟨Nat.le_of_ble_eq_true rfl, Nat.le_of_ble_eq_true rfl⟩ d10_nodes_4 rfl (Nat.le_of_ble_eq_true rfl) (fun r2 s1 => ?_)
  exact j_ireturn hq d10_nodes_7
theorem c10_nodes (x : cw_T) (n : Nat)  (σ : ej_S) : ∀ r σ1, m10_nodes n  σ = some (r, σ1) → ∀ l, ej_Con l (cV x) i10_nodes yX10_nodes (some .int) [.ref (cw_a x 0)] σ (some (.int r)) σ1 := fun r σ1 h l => ej_con_of (cV_ok x) pn_X10 rfl (Nat.le_of_ble_eq_true rfl) rfl h (fun F hq => j10_nodes x n  σ hq)

noncomputable def m10_rewrite (n : Nat)  (σ : ej_S) : Option (Int32 × ej_S) := ej_bv (m9_find n σ) fun s1 => ej_bv (m2_writeAddress n 0 s1) fun s2 => ej_bv (m7_clear n 0 s2) fun s3 => ej_bi (m7_length n 1 s3) fun r5 s4 => (some (r5, s4))
set_option maxRecDepth 20000 in
set_option maxHeartbeats 2000000 in
theorem j10_rewrite (x : cw_T) (n : Nat)  (σ : ej_S) {F : ej_F} {r0 : Int32 × ej_S} (hq : ej_fin (cV x) F (some .int) (some (.int r0.1)) r0.2) : ej_J (cV x) F i10_rewrite r0 σ 0 [(0, .ref (cw_a x 0))] [] (m10_rewrite n  σ) := by
  unfold m10_rewrite
  refine j_aload_n 0 rfl d10_rewrite_0 ?_
  refine j_get fl_X10_82 (cV_g_0_10 x σ) d10_rewrite_1 ?_
  refine j_callVv (c9_find x n σ) lv_X10_215 (cV_rc_7 x σ) ⟨Nat.le_of_ble_eq_true rfl, Nat.le_of_ble_eq_true rfl⟩ d10_rewrite_4 rfl (Nat.le_of_ble_eq_true rfl) (fun s1 => ?_)
  refine j_aload_n 0 rfl d10_rewrite_7 ?_
  refine j_get fl_X10_91 (cV_g_0_11 x s1) d10_rewrite_8 ?_
  refine j_aload_n 0 rfl d10_rewrite_11 ?_
  refine j_get fl_X10_14 (cV_g_0_0 x s1) d10_rewrite_12 ?_
  refine j_callVv (c2_writeAddress x n 0 (Nat.le_of_ble_eq_true rfl) s1) lv_X10_248 (cV_rc_8 x s1) ⟨Nat.le_of_ble_eq_true rfl, Nat.le_of_ble_eq_true rfl⟩ d10_rewrite_15 rfl (Nat.le_of_ble_eq_true rfl) (fun s2 => ?_)
  refine j_aload_n 0 rfl d10_rewrite_18 ?_
  refine j_get fl_X10_14 (cV_g_0_0 x s2) d10_rewrite_19 ?_
  refine j_callVv (c7_clear x n 0 (Nat.le_of_ble_eq_true rfl) s2) lv_X10_118 (cV_rc_t x s2 0 (Nat.le_of_ble_eq_true rfl)) ⟨Nat.le_of_ble_eq_true rfl, Nat.le_of_ble_eq_true rfl⟩ d10_rewrite_22 rfl (Nat.le_of_ble_eq_true rfl) (fun s3 => ?_)
  refine j_aload_n 0 rfl d10_rewrite_25 ?_
  refine j_get fl_X10_18 (cV_g_0_1 x s3) d10_rewrite_26 ?_
  refine j_callVi (c7_length x n 1 (Nat.le_of_ble_eq_true rfl) s3) lv_X10_102 (cV_rc_t x s3 1 (Nat.le_of_ble_eq_true rfl)) ⟨Nat.le_of_ble_eq_true rfl, Nat.le_of_ble_eq_true rfl⟩ d10_rewrite_29 rfl (Nat.le_of_ble_eq_true rfl) (fun r5 s4 => ?_)
  exact j_ireturn hq d10_rewrite_32
theorem c10_rewrite (x : cw_T) (n : Nat)  (σ : ej_S) : ∀ r σ1, m10_rewrite n  σ = some (r, σ1) → ∀ l, ej_Con l (cV x) i10_rewrite yX10_rewrite (some .int) [.ref (cw_a x 0)] σ (some (.int r)) σ1 := fun r σ1 h l => ej_con_of (cV_ok x) pn_X10 rfl (Nat.le_of_ble_eq_true rfl) rfl h (fun F hq => j10_rewrite x n  σ hq)

noncomputable def m10_word_18 (n : Nat) (k : Nat) : Int32 → Int64 → Int32 → ej_S → Option (Int64 × ej_S) := Nat.rec (motive := fun _ => Int32 → Int64 → Int32 → ej_S → Option (Int64 × ej_S)) (fun _ _ _ _ => none) (fun _ ih y1 y2 y3 σ => (if 8 ≤ y3 then (some (y2, σ)) else ej_bi (m7_byteAt n 1 ((8 * y1) + y3) σ) fun r5 s4 => (if r5 = (-1) then ej_nm (y3 + 1) fun x6 => (ih y1 y2 x6 s4) else ej_nm (y2 ||| ((r5.toInt64) <<< ((8 * y3).toInt64 &&& 63))) fun x7 => ej_nm (y3 + 1) fun x8 => (ih y1 x7 x8 s4)))) k
theorem m10_word_18_s (n : Nat) (k : Nat) (y1 : Int32) (y2 : Int64) (y3 : Int32) (σ : ej_S) : m10_word_18 n (k + 1) y1 y2 y3 σ = ((if 8 ≤ y3 then (some (y2, σ)) else ej_bi (m7_byteAt n 1 ((8 * y1) + y3) σ) fun r5 s4 => (if r5 = (-1) then ej_nm (y3 + 1) fun x6 => ((m10_word_18 n k) y1 y2 x6 s4) else ej_nm (y2 ||| ((r5.toInt64) <<< ((8 * y3).toInt64 &&& 63))) fun x7 => ej_nm (y3 + 1) fun x8 => ((m10_word_18 n k) y1 x7 x8 s4))) : Option (Int64 × ej_S)) := rfl
set_option maxRecDepth 20000 in
set_option maxHeartbeats 2000000 in
theorem j10_word_18 (x : cw_T) (n : Nat) {F : ej_F} {r0 : Int64 × ej_S} (hq : ej_fin (cV x) F (some .long) (some (.long r0.1)) r0.2) : ∀ (k : Nat) (y1 : Int32) (y2 : Int64) (y3 : Int32) (σ : ej_S), ej_J (cV x) F i10_word r0 σ 18 [(0, .ref (cw_a x 0)), (1, .int y1), (2, .long y2), (4, .int y3)] [] (m10_word_18 n k y1 y2 y3 σ) := by
  intro k
  induction k with
  | zero => intro y1 y2 y3 σ; exact j_none
  | succ k ih =>
    intro y1 y2 y3 σ
    rw [m10_word_18_s]
    refine j_iload 3 rfl d10_word_18 ?_
    refine j_bipush d10_word_20 ejb_8 ?_
    refine j_icmp_ge d10_word_22 ?_ ?_
    · refine j_lload_n 2 rfl d10_word_65 ?_
      exact j_lreturn hq d10_word_66
    · refine j_aload_n 0 rfl d10_word_25 ?_
      refine j_get fl_X10_18 (cV_g_0_1 x σ) d10_word_26 ?_
      refine j_bipush d10_word_29 ejb_8 ?_
      refine j_iload_n 1 rfl d10_word_31 ?_
      refine j_imul d10_word_32 ?_
      refine j_iload 3 rfl d10_word_33 ?_
      refine j_iadd d10_word_35 ?_
      refine j_callVi (c7_byteAt x n 1 (Nat.le_of_ble_eq_true rfl) ((8 * y1) + y3) σ) lv_X10_251 (cV_rc_t x σ 1 (Nat.le_of_ble_eq_true rfl)) ⟨Nat.le_of_ble_eq_true rfl, Nat.le_of_ble_eq_true rfl⟩ d10_word_36 rfl (Nat.le_of_ble_eq_true rfl) (fun r5 s4 => ?_)
      refine j_istore (i := 5) (L' := [(5, .int r5), (0, .ref (cw_a x 0)), (1, .int y1), (2, .long y2), (4, .int y3)]) d10_word_39 (Nat.le_of_ble_eq_true rfl) rfl ?_
      refine j_iload 0 rfl d10_word_41 ?_
      refine j_iconst d10_word_43 ejc_m1 ?_
      refine j_icmp_eq d10_word_44 ?_ ?_
      · refine j_iinc (i := 4) (v := 1) (Ly := fun x6 => [(4, .int x6), (5, .int r5), (0, .ref (cw_a x 0)), (1, .int y1), (2, .long y2)]) 4 d10_word_59 rfl ejc_1 (Nat.le_of_ble_eq_true rfl) (fun _ => rfl) (fun x6 => ?_)
        refine j_goto d10_word_62 ?_
        exact j_sub [2, 3, 4, 0] rfl (ih y1 y2 x6 s4)
      · refine j_lload_n 3 rfl d10_word_47 ?_
        refine j_iload 0 rfl d10_word_48 ?_
        refine j_i2l d10_word_50 ?_
        refine j_bipush d10_word_51 ejb_8 ?_
        refine j_iload 4 rfl d10_word_53 ?_
        refine j_imul d10_word_55 ?_
        refine j_lshl d10_word_56 ?_
        refine j_lor d10_word_57 ?_
        refine j_nml (fun x7 => ?_)
        refine j_lstore_n (i := 2) (L' := [(2, .long x7), (5, .int r5), (0, .ref (cw_a x 0)), (1, .int y1), (4, .int y3)]) d10_word_58 rfl (Nat.le_of_ble_eq_true rfl) rfl ?_
        refine j_iinc (i := 4) (v := 1) (Ly := fun x8 => [(4, .int x8), (2, .long x7), (5, .int r5), (0, .ref (cw_a x 0)), (1, .int y1)]) 4 d10_word_59 rfl ejc_1 (Nat.le_of_ble_eq_true rfl) (fun _ => rfl) (fun x8 => ?_)
        refine j_goto d10_word_62 ?_
        exact j_sub [3, 4, 1, 0] rfl (ih y1 x7 x8 s4)
noncomputable def m10_word (n : Nat) (a1 : Int32) (σ : ej_S) : Option (Int64 × ej_S) := (if a1 < 0 then (some (0, σ)) else (if a1 < 1200 then (m10_word_18 n n a1 0 0 σ) else (some (0, σ))))
set_option maxRecDepth 20000 in
set_option maxHeartbeats 2000000 in
theorem j10_word (x : cw_T) (n : Nat) (a1 : Int32) (σ : ej_S) {F : ej_F} {r0 : Int64 × ej_S} (hq : ej_fin (cV x) F (some .long) (some (.long r0.1)) r0.2) : ej_J (cV x) F i10_word r0 σ 0 [(0, .ref (cw_a x 0)), (1, .int a1)] [] (m10_word n a1 σ) := by
  unfold m10_word
  refine j_iload_n 1 rfl d10_word_0 ?_
  refine j_if_lt d10_word_1 ?_ ?_
  · refine j_lconst d10_word_11 ejl_0 ?_
    exact j_lreturn hq d10_word_12
  · refine j_iload_n 1 rfl d10_word_4 ?_
    refine j_sipush d10_word_5 ejs_1200 ?_
    refine j_icmp_lt d10_word_8 ?_ ?_
    · refine j_lconst d10_word_13 ejl_0 ?_
      refine j_lstore_n (i := 2) (L' := [(2, .long 0), (0, .ref (cw_a x 0)), (1, .int a1)]) d10_word_14 rfl (Nat.le_of_ble_eq_true rfl) rfl ?_
      refine j_iconst d10_word_15 ejc_0 ?_
      refine j_istore (i := 4) (L' := [(4, .int 0), (2, .long 0), (0, .ref (cw_a x 0)), (1, .int a1)]) d10_word_16 (Nat.le_of_ble_eq_true rfl) rfl ?_
      exact j_sub [2, 3, 1, 0] rfl (j10_word_18 x n hq n a1 0 0 σ)
    · refine j_lconst d10_word_11 ejl_0 ?_
      exact j_lreturn hq d10_word_12
theorem c10_word (x : cw_T) (n : Nat) (a1 : Int32) (σ : ej_S) : ∀ r σ1, m10_word n a1 σ = some (r, σ1) → ∀ l, ej_Con l (cV x) i10_word yX10_word (some .long) [.ref (cw_a x 0), .int a1] σ (some (.long r)) σ1 := fun r σ1 h l => ej_con_of (cV_ok x) pn_X10 rfl (Nat.le_of_ble_eq_true rfl) rfl h (fun F hq => j10_word x n a1 σ hq)

noncomputable def m10_drawMap_43 (n : Nat) (f16 : Int32 → Int32 → ej_S → Option (Int32 × ej_S)) (y12 : Int32) (y13 : Int32) (u14 : Nat) (σ : ej_S) : Option (Int32 × ej_S) := ej_bi (m4_read n u14 y13 σ) fun r16 s15 => (if r16 = 0 then (some (0, s15)) else ej_bi (m4_statements n s15) fun r18 s17 => ej_ck y13 4 (ej_nm (uA s17 10 (y13.toNatClampNeg) r18) fun s19 => ej_nm (y13 + 1) fun x20 => (f16 y12 x20 s19)))
set_option maxRecDepth 20000 in
set_option maxHeartbeats 2000000 in
theorem j10_drawMap_43 (x : cw_T) (n : Nat) {F : ej_F} {r0 : Int32 × ej_S} (hq : ej_fin (cV x) F (some .boolean) (some (.int r0.1)) r0.2) (f16 : Int32 → Int32 → ej_S → Option (Int32 × ej_S)) (H16 : ∀ (y3 : Int32) (y4 : Int32) (σ : ej_S), ej_J (cV x) F i10_drawMap r0 σ 16 [(0, .ref (cw_a x 0)), (1, .int y3), (2, .int y4)] [] (f16 y3 y4 σ)) (y12 : Int32) (y13 : Int32) (u14 : Nat) (hu14 : u14 < 7) (σ : ej_S) : ej_J (cV x) F i10_drawMap r0 σ 43 [(0, .ref (cw_a x 0)), (1, .int y12), (2, .int y13)] [.ref (cw_a x (10 + u14)), .ref (cw_a x 5)] (m10_drawMap_43 n f16 y12 y13 u14 σ) := by
  unfold m10_drawMap_43
  refine j_iload_n 2 rfl d10_drawMap_43 ?_
  refine j_callVi (c4_read x n u14 hu14 y13 σ) lv_X10_268 (cV_rc_5 x σ) ⟨Nat.le_of_ble_eq_true rfl, Nat.le_of_ble_eq_true rfl⟩ d10_drawMap_44 rfl (Nat.le_of_ble_eq_true rfl) (fun r16 s15 => ?_)
  refine j_if_ne d10_drawMap_47 ?_ ?_
  · refine j_aload_n 0 rfl d10_drawMap_52 ?_
    refine j_get fl_X10_25 (cV_g_0_3 x s15) d10_drawMap_53 ?_
    refine j_iload_n 2 rfl d10_drawMap_56 ?_
    refine j_aload_n 0 rfl d10_drawMap_57 ?_
    refine j_get fl_X10_64 (cV_g_0_8 x s15) d10_drawMap_58 ?_
    refine j_callVi (c4_statements x n s15) lv_X10_272 (cV_rc_5 x s15) ⟨Nat.le_of_ble_eq_true rfl, Nat.le_of_ble_eq_true rfl⟩ d10_drawMap_61 rfl (Nat.le_of_ble_eq_true rfl) (fun r18 s17 => ?_)
    refine j_iast (cV_s_30 x s17 (y13.toNatClampNeg) r18) d10_drawMap_64 (fun s19 => ?_)
    refine j_iinc (i := 2) (v := 1) (Ly := fun x20 => [(2, .int x20), (0, .ref (cw_a x 0)), (1, .int y12)]) 2 d10_drawMap_65 rfl ejc_1 (Nat.le_of_ble_eq_true rfl) (fun _ => rfl) (fun x20 => ?_)
    refine j_goto d10_drawMap_68 ?_
    exact j_sub [1, 2, 0] rfl (H16 y12 x20 s19)
  · refine j_iconst d10_drawMap_50 ejc_0 ?_
    exact j_zreturn0 hq d10_drawMap_51
noncomputable def m10_drawMap_16 (n : Nat) (k : Nat) : Int32 → Int32 → ej_S → Option (Int32 × ej_S) := Nat.rec (motive := fun _ => Int32 → Int32 → ej_S → Option (Int32 × ej_S)) (fun _ _ _ => none) (fun _ ih y3 y4 σ => (if 4 ≤ y4 then ej_bi (m0_isCrowded n σ) fun r6 s5 => (if r6 = 0 then (some (1, s5)) else ej_bi (m7_length n 0 s5) fun r8 s7 => ej_bi (m1_tell n 6 r8 s7) fun r10 s9 => (if r10 = 0 then (some (0, s9)) else (some (1, s9)))) else (if y4 = y3 then (m10_drawMap_43 n ih y3 y4 0 σ) else ej_ck y4 4 ((m10_drawMap_43 n ih y3 y4 (2 + y4.toNatClampNeg) σ))))) k
theorem m10_drawMap_16_s (n : Nat) (k : Nat) (y3 : Int32) (y4 : Int32) (σ : ej_S) : m10_drawMap_16 n (k + 1) y3 y4 σ = ((if 4 ≤ y4 then ej_bi (m0_isCrowded n σ) fun r6 s5 => (if r6 = 0 then (some (1, s5)) else ej_bi (m7_length n 0 s5) fun r8 s7 => ej_bi (m1_tell n 6 r8 s7) fun r10 s9 => (if r10 = 0 then (some (0, s9)) else (some (1, s9)))) else (if y4 = y3 then (m10_drawMap_43 n (m10_drawMap_16 n k) y3 y4 0 σ) else ej_ck y4 4 ((m10_drawMap_43 n (m10_drawMap_16 n k) y3 y4 (2 + y4.toNatClampNeg) σ)))) : Option (Int32 × ej_S)) := rfl
set_option maxRecDepth 20000 in
set_option maxHeartbeats 2000000 in
theorem j10_drawMap_16 (x : cw_T) (n : Nat) {F : ej_F} {r0 : Int32 × ej_S} (hq : ej_fin (cV x) F (some .boolean) (some (.int r0.1)) r0.2) : ∀ (k : Nat) (y3 : Int32) (y4 : Int32) (σ : ej_S), ej_J (cV x) F i10_drawMap r0 σ 16 [(0, .ref (cw_a x 0)), (1, .int y3), (2, .int y4)] [] (m10_drawMap_16 n k y3 y4 σ) := by
  intro k
  induction k with
  | zero => intro y3 y4 σ; exact j_none
  | succ k ih =>
    intro y3 y4 σ
    rw [m10_drawMap_16_s]
    refine j_iload_n 2 rfl d10_drawMap_16 ?_
    refine j_iconst d10_drawMap_17 ejc_4 ?_
    refine j_icmp_ge d10_drawMap_18 ?_ ?_
    · refine j_aload_n 0 rfl d10_drawMap_71 ?_
      refine j_get fl_X10_55 (cV_g_0_7 x σ) d10_drawMap_72 ?_
      refine j_callVi (c0_isCrowded x n σ) lv_X10_275 (cV_rc_4 x σ) ⟨Nat.le_of_ble_eq_true rfl, Nat.le_of_ble_eq_true rfl⟩ d10_drawMap_75 rfl (Nat.le_of_ble_eq_true rfl) (fun r6 s5 => ?_)
      refine j_if_eq d10_drawMap_78 ?_ ?_
      · refine j_iconst d10_drawMap_100 ejc_1 ?_
        refine j_goto d10_drawMap_101 ?_
        exact j_zreturn1 hq d10_drawMap_105
      · refine j_aload_n 0 rfl d10_drawMap_81 ?_
        refine j_get fl_X10_32 (cV_g_0_4 x s5) d10_drawMap_82 ?_
        refine j_bipush d10_drawMap_85 ejb_6 ?_
        refine j_aload_n 0 rfl d10_drawMap_87 ?_
        refine j_get fl_X10_14 (cV_g_0_0 x s5) d10_drawMap_88 ?_
        refine j_callVi (c7_length x n 0 (Nat.le_of_ble_eq_true rfl) s5) lv_X10_102 (cV_rc_t x s5 0 (Nat.le_of_ble_eq_true rfl)) ⟨Nat.le_of_ble_eq_true rfl, Nat.le_of_ble_eq_true rfl⟩ d10_drawMap_91 rfl (Nat.le_of_ble_eq_true rfl) (fun r8 s7 => ?_)
        refine j_callVi (c1_tell x n 6 r8 s7) lv_X10_152 (cV_rc_1 x s7) ⟨Nat.le_of_ble_eq_true rfl, Nat.le_of_ble_eq_true rfl⟩ d10_drawMap_94 rfl (Nat.le_of_ble_eq_true rfl) (fun r10 s9 => ?_)
        refine j_if_eq d10_drawMap_97 ?_ ?_
        · refine j_iconst d10_drawMap_104 ejc_0 ?_
          exact j_zreturn0 hq d10_drawMap_105
        · refine j_iconst d10_drawMap_100 ejc_1 ?_
          refine j_goto d10_drawMap_101 ?_
          exact j_zreturn1 hq d10_drawMap_105
    · refine j_aload_n 0 rfl d10_drawMap_21 ?_
      refine j_get fl_X10_64 (cV_g_0_8 x σ) d10_drawMap_22 ?_
      refine j_iload_n 2 rfl d10_drawMap_25 ?_
      refine j_iload_n 1 rfl d10_drawMap_26 ?_
      refine j_icmp_ne d10_drawMap_27 ?_ ?_
      · refine j_aload_n 0 rfl d10_drawMap_37 ?_
        refine j_get fl_X10_21 (cV_g_0_2 x σ) d10_drawMap_38 ?_
        refine j_iload_n 2 rfl d10_drawMap_41 ?_
        refine j_aaldF x d10_drawMap_42 (fun h11 => ?_)
        exact j_sub [0, 1, 2] rfl (j10_drawMap_43 x n hq (m10_drawMap_16 n k) ih y3 y4 (2 + y4.toNatClampNeg) (by omega) σ)
      · refine j_aload_n 0 rfl d10_drawMap_30 ?_
        refine j_get fl_X10_14 (cV_g_0_0 x σ) d10_drawMap_31 ?_
        refine j_goto d10_drawMap_34 ?_
        exact j_sub [0, 1, 2] rfl (j10_drawMap_43 x n hq (m10_drawMap_16 n k) ih y3 y4 0 (Nat.le_of_ble_eq_true rfl) σ)
noncomputable def m10_drawMap (n : Nat) (a1 : Int32) (σ : ej_S) : Option (Int32 × ej_S) := ej_bv (m9_forget n σ) fun s1 => ej_bv (m0_clear n s1) fun s2 => (m10_drawMap_16 n n a1 0 s2)
set_option maxRecDepth 20000 in
set_option maxHeartbeats 2000000 in
theorem j10_drawMap (x : cw_T) (n : Nat) (a1 : Int32) (σ : ej_S) {F : ej_F} {r0 : Int32 × ej_S} (hq : ej_fin (cV x) F (some .boolean) (some (.int r0.1)) r0.2) : ej_J (cV x) F i10_drawMap r0 σ 0 [(0, .ref (cw_a x 0)), (1, .int a1)] [] (m10_drawMap n a1 σ) := by
  unfold m10_drawMap
  refine j_aload_n 0 rfl d10_drawMap_0 ?_
  refine j_get fl_X10_82 (cV_g_0_10 x σ) d10_drawMap_1 ?_
  refine j_callVv (c9_forget x n σ) lv_X10_264 (cV_rc_7 x σ) ⟨Nat.le_of_ble_eq_true rfl, Nat.le_of_ble_eq_true rfl⟩ d10_drawMap_4 rfl (Nat.le_of_ble_eq_true rfl) (fun s1 => ?_)
  refine j_aload_n 0 rfl d10_drawMap_7 ?_
  refine j_get fl_X10_55 (cV_g_0_7 x s1) d10_drawMap_8 ?_
  refine j_callVv (c0_clear x n s1) lv_X10_267 (cV_rc_4 x s1) ⟨Nat.le_of_ble_eq_true rfl, Nat.le_of_ble_eq_true rfl⟩ d10_drawMap_11 rfl (Nat.le_of_ble_eq_true rfl) (fun s2 => ?_)
  refine j_iconst d10_drawMap_14 ejc_0 ?_
  refine j_istore_n (i := 2) (L' := [(2, .int 0), (0, .ref (cw_a x 0)), (1, .int a1)]) d10_drawMap_15 rfl (Nat.le_of_ble_eq_true rfl) rfl ?_
  exact j_sub [1, 2, 0] rfl (j10_drawMap_16 x n hq n a1 0 s2)
theorem c10_drawMap (x : cw_T) (n : Nat) (a1 : Int32) (σ : ej_S) : ∀ r σ1, m10_drawMap n a1 σ = some (r, σ1) → ∀ l, ej_Con l (cV x) i10_drawMap yX10_drawMap (some .boolean) [.ref (cw_a x 0), .int a1] σ (some (.int r)) σ1 := fun r σ1 h l => ej_con_of (cV_ok x) pn_X10 rfl (Nat.le_of_ble_eq_true rfl) rfl h (fun F hq => j10_drawMap x n a1 σ hq)

