noncomputable def mL_feed (n : Nat) (a1 : Int64) (a2 : Int32) (σ : lw_S) : Option (Int32 × lw_S) := ej_bw (ej_lcx (m10_feed n a1 a2 σ.1) σ) (fun r1 s2 => ej_ck 0 1 (ej_nm ((s2.1, s2.2.1, vp_updL s2.2.2 ((0 : Int32).toNatClampNeg) (r1.toInt64)) : lw_S) fun s3 => (some (0, s3)))) (fun k sk => if k = 1 then (fun s5 => (some (1, s5))) sk else if k = 2 then (fun s7 => (some (2, s7))) sk else none)
set_option maxRecDepth 20000 in
set_option maxHeartbeats 2000000 in
theorem jL_feed (x : cw_T) (n : Nat) (a1 : Int64) (a2 : Int32) (σ : lw_S) {F : ej_F} {r0 : Int32 × lw_S} (hq : ej_finW x F r0 0 0 1 6 [(0, 11, 14, 13), (0, 11, 18, 15)]) : ej_J (lV x) F iL_feed r0 σ 0 [(0, .ref (cw_a x 0)), (1, .long a1), (3, .int a2), (4, .ref (cw_a x 300))] [] (mL_feed n a1 a2 σ) := by
  unfold mL_feed
  refine j_aload 3 rfl d_feed_0 ?_
  refine j_iconst d_feed_2 ejc_0 ?_
  refine j_aload_n 0 rfl d_feed_3 ?_
  refine j_lload_n 1 rfl d_feed_4 ?_
  refine j_iload_n 2 rfl d_feed_5 ?_
  refine jw_call2 (k1 := 1) (k2 := 2) (fun z1 z2 z3 z4 => lcx_con (fun z5 z6 => c10_feed x n a1 a2 σ.1 z5 z6 z3 z4) z1 z2) lv_L_7 (lV_rc_0 x σ) ⟨Nat.le_of_ble_eq_true rfl, Nat.le_of_ble_eq_true rfl⟩ d_feed_6 rfl (Nat.le_of_ble_eq_true rfl) hq (Nat.le_of_ble_eq_true rfl) (Nat.le_of_ble_eq_true rfl) rfl rfl (by decide) wlk_13 wcd_1  rfl (by decide) wlk_15 wcd_2 (fun A U H h => h.2.2.2.2.2.2.2.2.2.2.2.1) (fun r1 s2 => ?_) (fun q4 s5 => ?_) (fun q6 s7 => ?_)
  · refine j_i2l d_feed_9 ?_
    refine j_last (lV_s_300 x s2 ((0 : Int32).toNatClampNeg) (r1.toInt64)) d_feed_10 (fun s3 => ?_)
    refine j_goto d_feed_11 ?_
    refine j_iconst d_feed_22 ejc_0 ?_
    exact jw_ireturn (ej_finWup 1 6 hq) (Nat.le_of_ble_eq_true rfl) (Nat.le_of_ble_eq_true rfl) d_feed_23
  · refine j_astore (i := 5) (L' := [(5, .ref (q4)), (0, .ref (cw_a x 0)), (1, .long a1), (3, .int a2), (4, .ref (cw_a x 300))]) d_feed_14 (Nat.le_of_ble_eq_true rfl) rfl ?_
    refine j_iconst d_feed_16 ejc_1 ?_
    exact jw_ireturn (ej_finWup 1 6 hq) (Nat.le_of_ble_eq_true rfl) (Nat.le_of_ble_eq_true rfl) d_feed_17
  · refine j_astore (i := 5) (L' := [(5, .ref (q6)), (0, .ref (cw_a x 0)), (1, .long a1), (3, .int a2), (4, .ref (cw_a x 300))]) d_feed_18 (Nat.le_of_ble_eq_true rfl) rfl ?_
    refine j_iconst d_feed_20 ejc_2 ?_
    exact jw_ireturn (ej_finWup 1 6 hq) (Nat.le_of_ble_eq_true rfl) (Nat.le_of_ble_eq_true rfl) d_feed_21
theorem kL_feed (x : cw_T) (n : Nat) (a1 : Int64) (a2 : Int32) (σ : lw_S) : ∀ z, mL_feed n a1 a2 σ = some z → ∀ l : Launch, l.stackTraces = false → ej_Cw l x iL_feed yL_feed [(0, 11, 14, 13), (0, 11, 18, 15)] [.ref (cw_a x 0), .long a1, .int a2, .ref (cw_a x 300)] σ 1 6 z := fun z h l hl => ej_conW_of hl pn_L rfl (Nat.le_of_ble_eq_true rfl) rfl h (fun F hq => jL_feed x n a1 a2 σ hq)

noncomputable def mL_load (n : Nat) (a1 : Int32) (σ : lw_S) : Option (Int32 × lw_S) := ej_bw (ej_lcx (m10_load n a1 σ.1) σ) (fun r1 s2 => ej_ck 0 1 (ej_nm ((s2.1, s2.2.1, vp_updL s2.2.2 ((0 : Int32).toNatClampNeg) (r1.toInt64)) : lw_S) fun s3 => (some (0, s3)))) (fun k sk => if k = 3 then (fun s5 => (some (1, s5))) sk else if k = 2 then (fun s7 => (some (2, s7))) sk else none)
set_option maxRecDepth 20000 in
set_option maxHeartbeats 2000000 in
theorem jL_load (x : cw_T) (n : Nat) (a1 : Int32) (σ : lw_S) {F : ej_F} {r0 : Int32 × lw_S} (hq : ej_finW x F r0 0 0 1 6 [(0, 9, 12, 21), (0, 9, 15, 15)]) : ej_J (lV x) F iL_load r0 σ 0 [(0, .ref (cw_a x 0)), (1, .int a1), (2, .ref (cw_a x 300))] [] (mL_load n a1 σ) := by
  unfold mL_load
  refine j_aload_n 2 rfl d_load_0 ?_
  refine j_iconst d_load_1 ejc_0 ?_
  refine j_aload_n 0 rfl d_load_2 ?_
  refine j_iload_n 1 rfl d_load_3 ?_
  refine jw_call2 (k1 := 3) (k2 := 2) (fun z1 z2 z3 z4 => lcx_con (fun z5 z6 => c10_load x n a1 σ.1 z5 z6 z3 z4) z1 z2) lv_L_17 (lV_rc_0 x σ) ⟨Nat.le_of_ble_eq_true rfl, Nat.le_of_ble_eq_true rfl⟩ d_load_4 rfl (Nat.le_of_ble_eq_true rfl) hq (Nat.le_of_ble_eq_true rfl) (Nat.le_of_ble_eq_true rfl) rfl rfl (by decide) wlk_21 wcd_3  rfl (by decide) wlk_15 wcd_2 (fun A U H h => h.2.2.2.2.2.2.2.2.2.2.2.2) (fun r1 s2 => ?_) (fun q4 s5 => ?_) (fun q6 s7 => ?_)
  · refine j_i2l d_load_7 ?_
    refine j_last (lV_s_300 x s2 ((0 : Int32).toNatClampNeg) (r1.toInt64)) d_load_8 (fun s3 => ?_)
    refine j_goto d_load_9 ?_
    refine j_iconst d_load_18 ejc_0 ?_
    exact jw_ireturn (ej_finWup 1 6 hq) (Nat.le_of_ble_eq_true rfl) (Nat.le_of_ble_eq_true rfl) d_load_19
  · refine j_astore_n (i := 3) (L' := [(3, .ref (q4)), (0, .ref (cw_a x 0)), (1, .int a1), (2, .ref (cw_a x 300))]) d_load_12 rfl (Nat.le_of_ble_eq_true rfl) rfl ?_
    refine j_iconst d_load_13 ejc_1 ?_
    exact jw_ireturn (ej_finWup 1 6 hq) (Nat.le_of_ble_eq_true rfl) (Nat.le_of_ble_eq_true rfl) d_load_14
  · refine j_astore_n (i := 3) (L' := [(3, .ref (q6)), (0, .ref (cw_a x 0)), (1, .int a1), (2, .ref (cw_a x 300))]) d_load_15 rfl (Nat.le_of_ble_eq_true rfl) rfl ?_
    refine j_iconst d_load_16 ejc_2 ?_
    exact jw_ireturn (ej_finWup 1 6 hq) (Nat.le_of_ble_eq_true rfl) (Nat.le_of_ble_eq_true rfl) d_load_17
theorem kL_load (x : cw_T) (n : Nat) (a1 : Int32) (σ : lw_S) : ∀ z, mL_load n a1 σ = some z → ∀ l : Launch, l.stackTraces = false → ej_Cw l x iL_load yL_load [(0, 9, 12, 21), (0, 9, 15, 15)] [.ref (cw_a x 0), .int a1, .ref (cw_a x 300)] σ 1 6 z := fun z h l hl => ej_conW_of hl pn_L rfl (Nat.le_of_ble_eq_true rfl) rfl h (fun F hq => jL_load x n a1 σ hq)

noncomputable def mL_drop (n : Nat) (a1 : Int32) (σ : lw_S) : Option (Int32 × lw_S) := ej_bw (ej_lcx (m10_drop n a1 σ.1) σ) (fun r1 s2 => ej_ck 0 1 (ej_nm ((s2.1, s2.2.1, vp_updL s2.2.2 ((0 : Int32).toNatClampNeg) (r1.toInt64)) : lw_S) fun s3 => (some (0, s3)))) (fun k sk => if k = 3 then (fun s5 => (some (1, s5))) sk else none)
set_option maxRecDepth 20000 in
set_option maxHeartbeats 2000000 in
theorem jL_drop (x : cw_T) (n : Nat) (a1 : Int32) (σ : lw_S) {F : ej_F} {r0 : Int32 × lw_S} (hq : ej_finW x F r0 0 0 1 6 [(0, 9, 12, 21)]) : ej_J (lV x) F iL_drop r0 σ 0 [(0, .ref (cw_a x 0)), (1, .int a1), (2, .ref (cw_a x 300))] [] (mL_drop n a1 σ) := by
  unfold mL_drop
  refine j_aload_n 2 rfl d_drop_0 ?_
  refine j_iconst d_drop_1 ejc_0 ?_
  refine j_aload_n 0 rfl d_drop_2 ?_
  refine j_iload_n 1 rfl d_drop_3 ?_
  refine jw_call1 (k1 := 3) (fun z1 z2 z3 z4 => lcx_con (fun z5 z6 => c10_drop x n a1 σ.1 z5 z6 z3 z4) z1 z2) lv_L_23 (lV_rc_0 x σ) ⟨Nat.le_of_ble_eq_true rfl, Nat.le_of_ble_eq_true rfl⟩ d_drop_4 rfl (Nat.le_of_ble_eq_true rfl) hq (Nat.le_of_ble_eq_true rfl) (Nat.le_of_ble_eq_true rfl) rfl rfl (by decide) wlk_21 wcd_3 (fun r1 s2 => ?_) (fun q4 s5 => ?_)
  · refine j_i2l d_drop_7 ?_
    refine j_last (lV_s_300 x s2 ((0 : Int32).toNatClampNeg) (r1.toInt64)) d_drop_8 (fun s3 => ?_)
    refine j_goto d_drop_9 ?_
    refine j_iconst d_drop_15 ejc_0 ?_
    exact jw_ireturn (ej_finWup 1 6 hq) (Nat.le_of_ble_eq_true rfl) (Nat.le_of_ble_eq_true rfl) d_drop_16
  · refine j_astore_n (i := 3) (L' := [(3, .ref (q4)), (0, .ref (cw_a x 0)), (1, .int a1), (2, .ref (cw_a x 300))]) d_drop_12 rfl (Nat.le_of_ble_eq_true rfl) rfl ?_
    refine j_iconst d_drop_13 ejc_1 ?_
    exact jw_ireturn (ej_finWup 1 6 hq) (Nat.le_of_ble_eq_true rfl) (Nat.le_of_ble_eq_true rfl) d_drop_14
theorem kL_drop (x : cw_T) (n : Nat) (a1 : Int32) (σ : lw_S) : ∀ z, mL_drop n a1 σ = some z → ∀ l : Launch, l.stackTraces = false → ej_Cw l x iL_drop yL_drop [(0, 9, 12, 21)] [.ref (cw_a x 0), .int a1, .ref (cw_a x 300)] σ 1 6 z := fun z h l hl => ej_conW_of hl pn_L rfl (Nat.le_of_ble_eq_true rfl) rfl h (fun F hq => jL_drop x n a1 σ hq)

noncomputable def mL_value (n : Nat)  (σ : lw_S) : Option (Int32 × lw_S) := ej_bw (ej_lcx (m10_value n σ.1) σ) (fun r1 s2 => ej_ck 0 1 (ej_nm ((s2.1, s2.2.1, vp_updL s2.2.2 ((0 : Int32).toNatClampNeg) (r1.toInt64)) : lw_S) fun s3 => (some (0, s3)))) (fun k sk => if k = 2 then (fun s5 => (some (1, s5))) sk else none)
set_option maxRecDepth 20000 in
set_option maxHeartbeats 2000000 in
theorem jL_value (x : cw_T) (n : Nat)  (σ : lw_S) {F : ej_F} {r0 : Int32 × lw_S} (hq : ej_finW x F r0 0 0 1 6 [(0, 8, 11, 15)]) : ej_J (lV x) F iL_value r0 σ 0 [(0, .ref (cw_a x 0)), (1, .ref (cw_a x 300))] [] (mL_value n  σ) := by
  unfold mL_value
  refine j_aload_n 1 rfl d_value_0 ?_
  refine j_iconst d_value_1 ejc_0 ?_
  refine j_aload_n 0 rfl d_value_2 ?_
  refine jw_call1 (k1 := 2) (fun z1 z2 z3 z4 => lcx_con (fun z5 z6 => c10_value x n σ.1 z5 z6 z3 z4) z1 z2) lv_L_26 (lV_rc_0 x σ) ⟨Nat.le_of_ble_eq_true rfl, Nat.le_of_ble_eq_true rfl⟩ d_value_3 rfl (Nat.le_of_ble_eq_true rfl) hq (Nat.le_of_ble_eq_true rfl) (Nat.le_of_ble_eq_true rfl) rfl rfl (by decide) wlk_15 wcd_2 (fun r1 s2 => ?_) (fun q4 s5 => ?_)
  · refine j_i2l d_value_6 ?_
    refine j_last (lV_s_300 x s2 ((0 : Int32).toNatClampNeg) (r1.toInt64)) d_value_7 (fun s3 => ?_)
    refine j_goto d_value_8 ?_
    refine j_iconst d_value_14 ejc_0 ?_
    exact jw_ireturn (ej_finWup 1 6 hq) (Nat.le_of_ble_eq_true rfl) (Nat.le_of_ble_eq_true rfl) d_value_15
  · refine j_astore_n (i := 2) (L' := [(2, .ref (q4)), (0, .ref (cw_a x 0)), (1, .ref (cw_a x 300))]) d_value_11 rfl (Nat.le_of_ble_eq_true rfl) rfl ?_
    refine j_iconst d_value_12 ejc_1 ?_
    exact jw_ireturn (ej_finWup 1 6 hq) (Nat.le_of_ble_eq_true rfl) (Nat.le_of_ble_eq_true rfl) d_value_13
theorem kL_value (x : cw_T) (n : Nat)  (σ : lw_S) : ∀ z, mL_value n  σ = some z → ∀ l : Launch, l.stackTraces = false → ej_Cw l x iL_value yL_value [(0, 8, 11, 15)] [.ref (cw_a x 0), .ref (cw_a x 300)] σ 1 6 z := fun z h l hl => ej_conW_of hl pn_L rfl (Nat.le_of_ble_eq_true rfl) rfl h (fun F hq => jL_value x n  σ hq)

noncomputable def mL_setHome (n : Nat)  (σ : lw_S) : Option (Int32 × lw_S) := ej_bw (ej_lcx (m10_setHome n σ.1) σ) (fun r1 s2 => ej_ck 0 1 (ej_nm ((s2.1, s2.2.1, vp_updL s2.2.2 ((0 : Int32).toNatClampNeg) (r1.toInt64)) : lw_S) fun s3 => (some (0, s3)))) (fun k sk => if k = 1 then (fun s5 => (some (1, s5))) sk else none)
set_option maxRecDepth 20000 in
set_option maxHeartbeats 2000000 in
theorem jL_setHome (x : cw_T) (n : Nat)  (σ : lw_S) {F : ej_F} {r0 : Int32 × lw_S} (hq : ej_finW x F r0 0 0 1 6 [(0, 8, 11, 13)]) : ej_J (lV x) F iL_setHome r0 σ 0 [(0, .ref (cw_a x 0)), (1, .ref (cw_a x 300))] [] (mL_setHome n  σ) := by
  unfold mL_setHome
  refine j_aload_n 1 rfl d_setHome_0 ?_
  refine j_iconst d_setHome_1 ejc_0 ?_
  refine j_aload_n 0 rfl d_setHome_2 ?_
  refine jw_call1 (k1 := 1) (fun z1 z2 z3 z4 => lcx_con (fun z5 z6 => c10_setHome x n σ.1 z5 z6 z3 z4) z1 z2) lv_L_30 (lV_rc_0 x σ) ⟨Nat.le_of_ble_eq_true rfl, Nat.le_of_ble_eq_true rfl⟩ d_setHome_3 rfl (Nat.le_of_ble_eq_true rfl) hq (Nat.le_of_ble_eq_true rfl) (Nat.le_of_ble_eq_true rfl) rfl rfl (by decide) wlk_13 wcd_1 (fun r1 s2 => ?_) (fun q4 s5 => ?_)
  · refine j_i2l d_setHome_6 ?_
    refine j_last (lV_s_300 x s2 ((0 : Int32).toNatClampNeg) (r1.toInt64)) d_setHome_7 (fun s3 => ?_)
    refine j_goto d_setHome_8 ?_
    refine j_iconst d_setHome_14 ejc_0 ?_
    exact jw_ireturn (ej_finWup 1 6 hq) (Nat.le_of_ble_eq_true rfl) (Nat.le_of_ble_eq_true rfl) d_setHome_15
  · refine j_astore_n (i := 2) (L' := [(2, .ref (q4)), (0, .ref (cw_a x 0)), (1, .ref (cw_a x 300))]) d_setHome_11 rfl (Nat.le_of_ble_eq_true rfl) rfl ?_
    refine j_iconst d_setHome_12 ejc_1 ?_
    exact jw_ireturn (ej_finWup 1 6 hq) (Nat.le_of_ble_eq_true rfl) (Nat.le_of_ble_eq_true rfl) d_setHome_13
theorem kL_setHome (x : cw_T) (n : Nat)  (σ : lw_S) : ∀ z, mL_setHome n  σ = some z → ∀ l : Launch, l.stackTraces = false → ej_Cw l x iL_setHome yL_setHome [(0, 8, 11, 13)] [.ref (cw_a x 0), .ref (cw_a x 300)] σ 1 6 z := fun z h l hl => ej_conW_of hl pn_L rfl (Nat.le_of_ble_eq_true rfl) rfl h (fun F hq => jL_setHome x n  σ hq)

noncomputable def mL_name (n : Nat) (a1 : Int32) (σ : lw_S) : Option (Int32 × lw_S) := ej_bw (ej_lcx (m10_name n a1 σ.1) σ) (fun r1 s2 => ej_ck 0 1 (ej_nm ((s2.1, s2.2.1, vp_updL s2.2.2 ((0 : Int32).toNatClampNeg) (r1.toInt64)) : lw_S) fun s3 => (some (0, s3)))) (fun k sk => if k = 3 then (fun s5 => (some (1, s5))) sk else none)
set_option maxRecDepth 20000 in
set_option maxHeartbeats 2000000 in
theorem jL_name (x : cw_T) (n : Nat) (a1 : Int32) (σ : lw_S) {F : ej_F} {r0 : Int32 × lw_S} (hq : ej_finW x F r0 0 0 1 6 [(0, 9, 12, 21)]) : ej_J (lV x) F iL_name r0 σ 0 [(0, .ref (cw_a x 0)), (1, .int a1), (2, .ref (cw_a x 300))] [] (mL_name n a1 σ) := by
  unfold mL_name
  refine j_aload_n 2 rfl d_name_0 ?_
  refine j_iconst d_name_1 ejc_0 ?_
  refine j_aload_n 0 rfl d_name_2 ?_
  refine j_iload_n 1 rfl d_name_3 ?_
  refine jw_call1 (k1 := 3) (fun z1 z2 z3 z4 => lcx_con (fun z5 z6 => c10_name x n a1 σ.1 z5 z6 z3 z4) z1 z2) lv_L_33 (lV_rc_0 x σ) ⟨Nat.le_of_ble_eq_true rfl, Nat.le_of_ble_eq_true rfl⟩ d_name_4 rfl (Nat.le_of_ble_eq_true rfl) hq (Nat.le_of_ble_eq_true rfl) (Nat.le_of_ble_eq_true rfl) rfl rfl (by decide) wlk_21 wcd_3 (fun r1 s2 => ?_) (fun q4 s5 => ?_)
  · refine j_i2l d_name_7 ?_
    refine j_last (lV_s_300 x s2 ((0 : Int32).toNatClampNeg) (r1.toInt64)) d_name_8 (fun s3 => ?_)
    refine j_goto d_name_9 ?_
    refine j_iconst d_name_15 ejc_0 ?_
    exact jw_ireturn (ej_finWup 1 6 hq) (Nat.le_of_ble_eq_true rfl) (Nat.le_of_ble_eq_true rfl) d_name_16
  · refine j_astore_n (i := 3) (L' := [(3, .ref (q4)), (0, .ref (cw_a x 0)), (1, .int a1), (2, .ref (cw_a x 300))]) d_name_12 rfl (Nat.le_of_ble_eq_true rfl) rfl ?_
    refine j_iconst d_name_13 ejc_1 ?_
    exact jw_ireturn (ej_finWup 1 6 hq) (Nat.le_of_ble_eq_true rfl) (Nat.le_of_ble_eq_true rfl) d_name_14
theorem kL_name (x : cw_T) (n : Nat) (a1 : Int32) (σ : lw_S) : ∀ z, mL_name n a1 σ = some z → ∀ l : Launch, l.stackTraces = false → ej_Cw l x iL_name yL_name [(0, 9, 12, 21)] [.ref (cw_a x 0), .int a1, .ref (cw_a x 300)] σ 1 6 z := fun z h l hl => ej_conW_of hl pn_L rfl (Nat.le_of_ble_eq_true rfl) rfl h (fun F hq => jL_name x n a1 σ hq)

noncomputable def mL_kind (n : Nat) (a1 : Int32) (σ : lw_S) : Option (Int32 × lw_S) := ej_bw (ej_lcx (m10_kind n a1 σ.1) σ) (fun r1 s2 => ej_ck 0 1 (ej_nm ((s2.1, s2.2.1, vp_updL s2.2.2 ((0 : Int32).toNatClampNeg) (r1.toInt64)) : lw_S) fun s3 => (some (0, s3)))) (fun k sk => if k = 3 then (fun s5 => (some (1, s5))) sk else none)
set_option maxRecDepth 20000 in
set_option maxHeartbeats 2000000 in
theorem jL_kind (x : cw_T) (n : Nat) (a1 : Int32) (σ : lw_S) {F : ej_F} {r0 : Int32 × lw_S} (hq : ej_finW x F r0 0 0 1 6 [(0, 9, 12, 21)]) : ej_J (lV x) F iL_kind r0 σ 0 [(0, .ref (cw_a x 0)), (1, .int a1), (2, .ref (cw_a x 300))] [] (mL_kind n a1 σ) := by
  unfold mL_kind
  refine j_aload_n 2 rfl d_kind_0 ?_
  refine j_iconst d_kind_1 ejc_0 ?_
  refine j_aload_n 0 rfl d_kind_2 ?_
  refine j_iload_n 1 rfl d_kind_3 ?_
  refine jw_call1 (k1 := 3) (fun z1 z2 z3 z4 => lcx_con (fun z5 z6 => c10_kind x n a1 σ.1 z5 z6 z3 z4) z1 z2) lv_L_36 (lV_rc_0 x σ) ⟨Nat.le_of_ble_eq_true rfl, Nat.le_of_ble_eq_true rfl⟩ d_kind_4 rfl (Nat.le_of_ble_eq_true rfl) hq (Nat.le_of_ble_eq_true rfl) (Nat.le_of_ble_eq_true rfl) rfl rfl (by decide) wlk_21 wcd_3 (fun r1 s2 => ?_) (fun q4 s5 => ?_)
  · refine j_i2l d_kind_7 ?_
    refine j_last (lV_s_300 x s2 ((0 : Int32).toNatClampNeg) (r1.toInt64)) d_kind_8 (fun s3 => ?_)
    refine j_goto d_kind_9 ?_
    refine j_iconst d_kind_15 ejc_0 ?_
    exact jw_ireturn (ej_finWup 1 6 hq) (Nat.le_of_ble_eq_true rfl) (Nat.le_of_ble_eq_true rfl) d_kind_16
  · refine j_astore_n (i := 3) (L' := [(3, .ref (q4)), (0, .ref (cw_a x 0)), (1, .int a1), (2, .ref (cw_a x 300))]) d_kind_12 rfl (Nat.le_of_ble_eq_true rfl) rfl ?_
    refine j_iconst d_kind_13 ejc_1 ?_
    exact jw_ireturn (ej_finWup 1 6 hq) (Nat.le_of_ble_eq_true rfl) (Nat.le_of_ble_eq_true rfl) d_kind_14
theorem kL_kind (x : cw_T) (n : Nat) (a1 : Int32) (σ : lw_S) : ∀ z, mL_kind n a1 σ = some z → ∀ l : Launch, l.stackTraces = false → ej_Cw l x iL_kind yL_kind [(0, 9, 12, 21)] [.ref (cw_a x 0), .int a1, .ref (cw_a x 300)] σ 1 6 z := fun z h l hl => ej_conW_of hl pn_L rfl (Nat.le_of_ble_eq_true rfl) rfl h (fun F hq => jL_kind x n a1 σ hq)

noncomputable def mL_isPrivate (n : Nat) (a1 : Int32) (σ : lw_S) : Option (Int32 × lw_S) := ej_bw (ej_lcx (m10_isPrivate n a1 σ.1) σ) (fun r1 s2 => (if r1 = 0 then ej_ck 0 1 (ej_nm ((s2.1, s2.2.1, vp_updL s2.2.2 ((0 : Int32).toNatClampNeg) 0) : lw_S) fun s3 => (some (0, s3))) else ej_ck 0 1 (ej_nm ((s2.1, s2.2.1, vp_updL s2.2.2 ((0 : Int32).toNatClampNeg) 1) : lw_S) fun s4 => (some (0, s4))))) (fun k sk => if k = 3 then (fun s6 => (some (1, s6))) sk else none)
set_option maxRecDepth 20000 in
set_option maxHeartbeats 2000000 in
theorem jL_isPrivate (x : cw_T) (n : Nat) (a1 : Int32) (σ : lw_S) {F : ej_F} {r0 : Int32 × lw_S} (hq : ej_finW x F r0 0 0 1 6 [(0, 16, 19, 21)]) : ej_J (lV x) F iL_isPrivate r0 σ 0 [(0, .ref (cw_a x 0)), (1, .int a1), (2, .ref (cw_a x 300))] [] (mL_isPrivate n a1 σ) := by
  unfold mL_isPrivate
  refine j_aload_n 2 rfl d_isPrivate_0 ?_
  refine j_iconst d_isPrivate_1 ejc_0 ?_
  refine j_aload_n 0 rfl d_isPrivate_2 ?_
  refine j_iload_n 1 rfl d_isPrivate_3 ?_
  refine jw_call1 (k1 := 3) (fun z1 z2 z3 z4 => lcx_con (fun z5 z6 => c10_isPrivate x n a1 σ.1 z5 z6 z3 z4) z1 z2) lv_L_39 (lV_rc_0 x σ) ⟨Nat.le_of_ble_eq_true rfl, Nat.le_of_ble_eq_true rfl⟩ d_isPrivate_4 rfl (Nat.le_of_ble_eq_true rfl) hq (Nat.le_of_ble_eq_true rfl) (Nat.le_of_ble_eq_true rfl) rfl rfl (by decide) wlk_21 wcd_3 (fun r1 s2 => ?_) (fun q5 s6 => ?_)
  · refine j_if_eq d_isPrivate_7 ?_ ?_
    · refine j_lconst d_isPrivate_14 ejl_0 ?_
      refine j_last (lV_s_300 x s2 ((0 : Int32).toNatClampNeg) 0) d_isPrivate_15 (fun s3 => ?_)
      refine j_goto d_isPrivate_16 ?_
      refine j_iconst d_isPrivate_22 ejc_0 ?_
      exact jw_ireturn (ej_finWup 1 6 hq) (Nat.le_of_ble_eq_true rfl) (Nat.le_of_ble_eq_true rfl) d_isPrivate_23
    · refine j_lconst d_isPrivate_10 ejl_1 ?_
      refine j_goto d_isPrivate_11 ?_
      refine j_last (lV_s_300 x s2 ((0 : Int32).toNatClampNeg) 1) d_isPrivate_15 (fun s4 => ?_)
      refine j_goto d_isPrivate_16 ?_
      refine j_iconst d_isPrivate_22 ejc_0 ?_
      exact jw_ireturn (ej_finWup 1 6 hq) (Nat.le_of_ble_eq_true rfl) (Nat.le_of_ble_eq_true rfl) d_isPrivate_23
  · refine j_astore_n (i := 3) (L' := [(3, .ref (q5)), (0, .ref (cw_a x 0)), (1, .int a1), (2, .ref (cw_a x 300))]) d_isPrivate_19 rfl (Nat.le_of_ble_eq_true rfl) rfl ?_
    refine j_iconst d_isPrivate_20 ejc_1 ?_
    exact jw_ireturn (ej_finWup 1 6 hq) (Nat.le_of_ble_eq_true rfl) (Nat.le_of_ble_eq_true rfl) d_isPrivate_21
theorem kL_isPrivate (x : cw_T) (n : Nat) (a1 : Int32) (σ : lw_S) : ∀ z, mL_isPrivate n a1 σ = some z → ∀ l : Launch, l.stackTraces = false → ej_Cw l x iL_isPrivate yL_isPrivate [(0, 16, 19, 21)] [.ref (cw_a x 0), .int a1, .ref (cw_a x 300)] σ 1 6 z := fun z h l hl => ej_conW_of hl pn_L rfl (Nat.le_of_ble_eq_true rfl) rfl h (fun F hq => jL_isPrivate x n a1 σ hq)

noncomputable def mL_linkCost (n : Nat) (a1 : Int32) (a2 : Int32) (σ : lw_S) : Option (Int32 × lw_S) := ej_bw (ej_lcx (m10_linkCost n a1 a2 σ.1) σ) (fun r1 s2 => ej_ck 0 1 (ej_nm ((s2.1, s2.2.1, vp_updL s2.2.2 ((0 : Int32).toNatClampNeg) (r1.toInt64)) : lw_S) fun s3 => (some (0, s3)))) (fun k sk => if k = 3 then (fun s5 => (some (1, s5))) sk else none)
set_option maxRecDepth 20000 in
set_option maxHeartbeats 2000000 in
theorem jL_linkCost (x : cw_T) (n : Nat) (a1 : Int32) (a2 : Int32) (σ : lw_S) {F : ej_F} {r0 : Int32 × lw_S} (hq : ej_finW x F r0 0 0 2 12 [(0, 10, 13, 21)]) : ej_J (lV x) F iL_linkCost r0 σ 0 [(0, .ref (cw_a x 0)), (1, .int a1), (2, .int a2), (3, .ref (cw_a x 300))] [] (mL_linkCost n a1 a2 σ) := by
  unfold mL_linkCost
  refine j_aload_n 3 rfl d_linkCost_0 ?_
  refine j_iconst d_linkCost_1 ejc_0 ?_
  refine j_aload_n 0 rfl d_linkCost_2 ?_
  refine j_iload_n 1 rfl d_linkCost_3 ?_
  refine j_iload_n 2 rfl d_linkCost_4 ?_
  refine jw_call1 (k1 := 3) (fun z1 z2 z3 z4 => lcx_con (fun z5 z6 => c10_linkCost x n a1 a2 σ.1 z5 z6 z3 z4) z1 z2) lv_L_43 (lV_rc_0 x σ) ⟨Nat.le_of_ble_eq_true rfl, Nat.le_of_ble_eq_true rfl⟩ d_linkCost_5 rfl (Nat.le_of_ble_eq_true rfl) hq (Nat.le_of_ble_eq_true rfl) (Nat.le_of_ble_eq_true rfl) rfl rfl (by decide) wlk_21 wcd_3 (fun r1 s2 => ?_) (fun q4 s5 => ?_)
  · refine j_i2l d_linkCost_8 ?_
    refine j_last (lV_s_300 x s2 ((0 : Int32).toNatClampNeg) (r1.toInt64)) d_linkCost_9 (fun s3 => ?_)
    refine j_goto d_linkCost_10 ?_
    refine j_iconst d_linkCost_17 ejc_0 ?_
    exact jw_ireturn (ej_finWup 2 12 hq) (Nat.le_of_ble_eq_true rfl) (Nat.le_of_ble_eq_true rfl) d_linkCost_18
  · refine j_astore (i := 4) (L' := [(4, .ref (q4)), (0, .ref (cw_a x 0)), (1, .int a1), (2, .int a2), (3, .ref (cw_a x 300))]) d_linkCost_13 (Nat.le_of_ble_eq_true rfl) rfl ?_
    refine j_iconst d_linkCost_15 ejc_1 ?_
    exact jw_ireturn (ej_finWup 2 12 hq) (Nat.le_of_ble_eq_true rfl) (Nat.le_of_ble_eq_true rfl) d_linkCost_16
theorem kL_linkCost (x : cw_T) (n : Nat) (a1 : Int32) (a2 : Int32) (σ : lw_S) : ∀ z, mL_linkCost n a1 a2 σ = some z → ∀ l : Launch, l.stackTraces = false → ej_Cw l x iL_linkCost yL_linkCost [(0, 10, 13, 21)] [.ref (cw_a x 0), .int a1, .int a2, .ref (cw_a x 300)] σ 2 12 z := fun z h l hl => ej_conW_of hl pn_L rfl (Nat.le_of_ble_eq_true rfl) rfl h (fun F hq => jL_linkCost x n a1 a2 σ hq)

noncomputable def mL_memberCost (n : Nat) (a1 : Int32) (a2 : Int32) (σ : lw_S) : Option (Int32 × lw_S) := ej_bw (ej_lcx (m10_memberCost n a1 a2 σ.1) σ) (fun r1 s2 => ej_ck 0 1 (ej_nm ((s2.1, s2.2.1, vp_updL s2.2.2 ((0 : Int32).toNatClampNeg) (r1.toInt64)) : lw_S) fun s3 => (some (0, s3)))) (fun k sk => if k = 3 then (fun s5 => (some (1, s5))) sk else none)
set_option maxRecDepth 20000 in
set_option maxHeartbeats 2000000 in
theorem jL_memberCost (x : cw_T) (n : Nat) (a1 : Int32) (a2 : Int32) (σ : lw_S) {F : ej_F} {r0 : Int32 × lw_S} (hq : ej_finW x F r0 0 0 2 12 [(0, 10, 13, 21)]) : ej_J (lV x) F iL_memberCost r0 σ 0 [(0, .ref (cw_a x 0)), (1, .int a1), (2, .int a2), (3, .ref (cw_a x 300))] [] (mL_memberCost n a1 a2 σ) := by
  unfold mL_memberCost
  refine j_aload_n 3 rfl d_memberCost_0 ?_
  refine j_iconst d_memberCost_1 ejc_0 ?_
  refine j_aload_n 0 rfl d_memberCost_2 ?_
  refine j_iload_n 1 rfl d_memberCost_3 ?_
  refine j_iload_n 2 rfl d_memberCost_4 ?_
  refine jw_call1 (k1 := 3) (fun z1 z2 z3 z4 => lcx_con (fun z5 z6 => c10_memberCost x n a1 a2 σ.1 z5 z6 z3 z4) z1 z2) lv_L_47 (lV_rc_0 x σ) ⟨Nat.le_of_ble_eq_true rfl, Nat.le_of_ble_eq_true rfl⟩ d_memberCost_5 rfl (Nat.le_of_ble_eq_true rfl) hq (Nat.le_of_ble_eq_true rfl) (Nat.le_of_ble_eq_true rfl) rfl rfl (by decide) wlk_21 wcd_3 (fun r1 s2 => ?_) (fun q4 s5 => ?_)
  · refine j_i2l d_memberCost_8 ?_
    refine j_last (lV_s_300 x s2 ((0 : Int32).toNatClampNeg) (r1.toInt64)) d_memberCost_9 (fun s3 => ?_)
    refine j_goto d_memberCost_10 ?_
    refine j_iconst d_memberCost_17 ejc_0 ?_
    exact jw_ireturn (ej_finWup 2 12 hq) (Nat.le_of_ble_eq_true rfl) (Nat.le_of_ble_eq_true rfl) d_memberCost_18
  · refine j_astore (i := 4) (L' := [(4, .ref (q4)), (0, .ref (cw_a x 0)), (1, .int a1), (2, .int a2), (3, .ref (cw_a x 300))]) d_memberCost_13 (Nat.le_of_ble_eq_true rfl) rfl ?_
    refine j_iconst d_memberCost_15 ejc_1 ?_
    exact jw_ireturn (ej_finWup 2 12 hq) (Nat.le_of_ble_eq_true rfl) (Nat.le_of_ble_eq_true rfl) d_memberCost_16
theorem kL_memberCost (x : cw_T) (n : Nat) (a1 : Int32) (a2 : Int32) (σ : lw_S) : ∀ z, mL_memberCost n a1 a2 σ = some z → ∀ l : Launch, l.stackTraces = false → ej_Cw l x iL_memberCost yL_memberCost [(0, 10, 13, 21)] [.ref (cw_a x 0), .int a1, .int a2, .ref (cw_a x 300)] σ 2 12 z := fun z h l hl => ej_conW_of hl pn_L rfl (Nat.le_of_ble_eq_true rfl) rfl h (fun F hq => jL_memberCost x n a1 a2 σ hq)

noncomputable def mL_cost (n : Nat) (a1 : Int32) (σ : lw_S) : Option (Int32 × lw_S) := ej_bw (ej_lcx (m10_cost n a1 σ.1) σ) (fun r1 s2 => ej_ck 0 1 (ej_nm ((s2.1, s2.2.1, vp_updL s2.2.2 ((0 : Int32).toNatClampNeg) (r1.toInt64)) : lw_S) fun s3 => (some (0, s3)))) (fun k sk => if k = 3 then (fun s5 => (some (1, s5))) sk else none)
set_option maxRecDepth 20000 in
set_option maxHeartbeats 2000000 in
theorem jL_cost (x : cw_T) (n : Nat) (a1 : Int32) (σ : lw_S) {F : ej_F} {r0 : Int32 × lw_S} (hq : ej_finW x F r0 0 0 1 6 [(0, 9, 12, 21)]) : ej_J (lV x) F iL_cost r0 σ 0 [(0, .ref (cw_a x 0)), (1, .int a1), (2, .ref (cw_a x 300))] [] (mL_cost n a1 σ) := by
  unfold mL_cost
  refine j_aload_n 2 rfl d_cost_0 ?_
  refine j_iconst d_cost_1 ejc_0 ?_
  refine j_aload_n 0 rfl d_cost_2 ?_
  refine j_iload_n 1 rfl d_cost_3 ?_
  refine jw_call1 (k1 := 3) (fun z1 z2 z3 z4 => lcx_con (fun z5 z6 => c10_cost x n a1 σ.1 z5 z6 z3 z4) z1 z2) lv_L_50 (lV_rc_0 x σ) ⟨Nat.le_of_ble_eq_true rfl, Nat.le_of_ble_eq_true rfl⟩ d_cost_4 rfl (Nat.le_of_ble_eq_true rfl) hq (Nat.le_of_ble_eq_true rfl) (Nat.le_of_ble_eq_true rfl) rfl rfl (by decide) wlk_21 wcd_3 (fun r1 s2 => ?_) (fun q4 s5 => ?_)
  · refine j_i2l d_cost_7 ?_
    refine j_last (lV_s_300 x s2 ((0 : Int32).toNatClampNeg) (r1.toInt64)) d_cost_8 (fun s3 => ?_)
    refine j_goto d_cost_9 ?_
    refine j_iconst d_cost_15 ejc_0 ?_
    exact jw_ireturn (ej_finWup 1 6 hq) (Nat.le_of_ble_eq_true rfl) (Nat.le_of_ble_eq_true rfl) d_cost_16
  · refine j_astore_n (i := 3) (L' := [(3, .ref (q4)), (0, .ref (cw_a x 0)), (1, .int a1), (2, .ref (cw_a x 300))]) d_cost_12 rfl (Nat.le_of_ble_eq_true rfl) rfl ?_
    refine j_iconst d_cost_13 ejc_1 ?_
    exact jw_ireturn (ej_finWup 1 6 hq) (Nat.le_of_ble_eq_true rfl) (Nat.le_of_ble_eq_true rfl) d_cost_14
theorem kL_cost (x : cw_T) (n : Nat) (a1 : Int32) (σ : lw_S) : ∀ z, mL_cost n a1 σ = some z → ∀ l : Launch, l.stackTraces = false → ej_Cw l x iL_cost yL_cost [(0, 9, 12, 21)] [.ref (cw_a x 0), .int a1, .ref (cw_a x 300)] σ 1 6 z := fun z h l hl => ej_conW_of hl pn_L rfl (Nat.le_of_ble_eq_true rfl) rfl h (fun F hq => jL_cost x n a1 σ hq)

noncomputable def mL_costByRounds (n : Nat) (a1 : Int32) (σ : lw_S) : Option (Int32 × lw_S) := ej_bw (ej_lcx (m10_costByRounds n a1 σ.1) σ) (fun r1 s2 => ej_ck 0 1 (ej_nm ((s2.1, s2.2.1, vp_updL s2.2.2 ((0 : Int32).toNatClampNeg) (r1.toInt64)) : lw_S) fun s3 => (some (0, s3)))) (fun k sk => if k = 3 then (fun s5 => (some (1, s5))) sk else none)
set_option maxRecDepth 20000 in
set_option maxHeartbeats 2000000 in
theorem jL_costByRounds (x : cw_T) (n : Nat) (a1 : Int32) (σ : lw_S) {F : ej_F} {r0 : Int32 × lw_S} (hq : ej_finW x F r0 0 0 1 6 [(0, 9, 12, 21)]) : ej_J (lV x) F iL_costByRounds r0 σ 0 [(0, .ref (cw_a x 0)), (1, .int a1), (2, .ref (cw_a x 300))] [] (mL_costByRounds n a1 σ) := by
  unfold mL_costByRounds
  refine j_aload_n 2 rfl d_costByRounds_0 ?_
  refine j_iconst d_costByRounds_1 ejc_0 ?_
  refine j_aload_n 0 rfl d_costByRounds_2 ?_
  refine j_iload_n 1 rfl d_costByRounds_3 ?_
  refine jw_call1 (k1 := 3) (fun z1 z2 z3 z4 => lcx_con (fun z5 z6 => c10_costByRounds x n a1 σ.1 z5 z6 z3 z4) z1 z2) lv_L_53 (lV_rc_0 x σ) ⟨Nat.le_of_ble_eq_true rfl, Nat.le_of_ble_eq_true rfl⟩ d_costByRounds_4 rfl (Nat.le_of_ble_eq_true rfl) hq (Nat.le_of_ble_eq_true rfl) (Nat.le_of_ble_eq_true rfl) rfl rfl (by decide) wlk_21 wcd_3 (fun r1 s2 => ?_) (fun q4 s5 => ?_)
  · refine j_i2l d_costByRounds_7 ?_
    refine j_last (lV_s_300 x s2 ((0 : Int32).toNatClampNeg) (r1.toInt64)) d_costByRounds_8 (fun s3 => ?_)
    refine j_goto d_costByRounds_9 ?_
    refine j_iconst d_costByRounds_15 ejc_0 ?_
    exact jw_ireturn (ej_finWup 1 6 hq) (Nat.le_of_ble_eq_true rfl) (Nat.le_of_ble_eq_true rfl) d_costByRounds_16
  · refine j_astore_n (i := 3) (L' := [(3, .ref (q4)), (0, .ref (cw_a x 0)), (1, .int a1), (2, .ref (cw_a x 300))]) d_costByRounds_12 rfl (Nat.le_of_ble_eq_true rfl) rfl ?_
    refine j_iconst d_costByRounds_13 ejc_1 ?_
    exact jw_ireturn (ej_finWup 1 6 hq) (Nat.le_of_ble_eq_true rfl) (Nat.le_of_ble_eq_true rfl) d_costByRounds_14
theorem kL_costByRounds (x : cw_T) (n : Nat) (a1 : Int32) (σ : lw_S) : ∀ z, mL_costByRounds n a1 σ = some z → ∀ l : Launch, l.stackTraces = false → ej_Cw l x iL_costByRounds yL_costByRounds [(0, 9, 12, 21)] [.ref (cw_a x 0), .int a1, .ref (cw_a x 300)] σ 1 6 z := fun z h l hl => ej_conW_of hl pn_L rfl (Nat.le_of_ble_eq_true rfl) rfl h (fun F hq => jL_costByRounds x n a1 σ hq)

noncomputable def mL_steps (n : Nat) (a1 : Int32) (σ : lw_S) : Option (Int32 × lw_S) := ej_bw (ej_lcx (m10_steps n a1 σ.1) σ) (fun r1 s2 => ej_ck 0 1 (ej_nm ((s2.1, s2.2.1, vp_updL s2.2.2 ((0 : Int32).toNatClampNeg) (r1.toInt64)) : lw_S) fun s3 => (some (0, s3)))) (fun k sk => if k = 3 then (fun s5 => (some (1, s5))) sk else none)
set_option maxRecDepth 20000 in
set_option maxHeartbeats 2000000 in
theorem jL_steps (x : cw_T) (n : Nat) (a1 : Int32) (σ : lw_S) {F : ej_F} {r0 : Int32 × lw_S} (hq : ej_finW x F r0 0 0 1 6 [(0, 9, 12, 21)]) : ej_J (lV x) F iL_steps r0 σ 0 [(0, .ref (cw_a x 0)), (1, .int a1), (2, .ref (cw_a x 300))] [] (mL_steps n a1 σ) := by
  unfold mL_steps
  refine j_aload_n 2 rfl d_steps_0 ?_
  refine j_iconst d_steps_1 ejc_0 ?_
  refine j_aload_n 0 rfl d_steps_2 ?_
  refine j_iload_n 1 rfl d_steps_3 ?_
  refine jw_call1 (k1 := 3) (fun z1 z2 z3 z4 => lcx_con (fun z5 z6 => c10_steps x n a1 σ.1 z5 z6 z3 z4) z1 z2) lv_L_56 (lV_rc_0 x σ) ⟨Nat.le_of_ble_eq_true rfl, Nat.le_of_ble_eq_true rfl⟩ d_steps_4 rfl (Nat.le_of_ble_eq_true rfl) hq (Nat.le_of_ble_eq_true rfl) (Nat.le_of_ble_eq_true rfl) rfl rfl (by decide) wlk_21 wcd_3 (fun r1 s2 => ?_) (fun q4 s5 => ?_)
  · refine j_i2l d_steps_7 ?_
    refine j_last (lV_s_300 x s2 ((0 : Int32).toNatClampNeg) (r1.toInt64)) d_steps_8 (fun s3 => ?_)
    refine j_goto d_steps_9 ?_
    refine j_iconst d_steps_15 ejc_0 ?_
    exact jw_ireturn (ej_finWup 1 6 hq) (Nat.le_of_ble_eq_true rfl) (Nat.le_of_ble_eq_true rfl) d_steps_16
  · refine j_astore_n (i := 3) (L' := [(3, .ref (q4)), (0, .ref (cw_a x 0)), (1, .int a1), (2, .ref (cw_a x 300))]) d_steps_12 rfl (Nat.le_of_ble_eq_true rfl) rfl ?_
    refine j_iconst d_steps_13 ejc_1 ?_
    exact jw_ireturn (ej_finWup 1 6 hq) (Nat.le_of_ble_eq_true rfl) (Nat.le_of_ble_eq_true rfl) d_steps_14
theorem kL_steps (x : cw_T) (n : Nat) (a1 : Int32) (σ : lw_S) : ∀ z, mL_steps n a1 σ = some z → ∀ l : Launch, l.stackTraces = false → ej_Cw l x iL_steps yL_steps [(0, 9, 12, 21)] [.ref (cw_a x 0), .int a1, .ref (cw_a x 300)] σ 1 6 z := fun z h l hl => ej_conW_of hl pn_L rfl (Nat.le_of_ble_eq_true rfl) rfl h (fun F hq => jL_steps x n a1 σ hq)

noncomputable def mL_state (n : Nat) (a1 : Int32) (σ : lw_S) : Option (Int32 × lw_S) := ej_bw (ej_lcx (m10_state n a1 σ.1) σ) (fun r1 s2 => ej_ck 0 1 (ej_nm ((s2.1, s2.2.1, vp_updL s2.2.2 ((0 : Int32).toNatClampNeg) (r1.toInt64)) : lw_S) fun s3 => (some (0, s3)))) (fun k sk => if k = 3 then (fun s5 => (some (1, s5))) sk else none)
set_option maxRecDepth 20000 in
set_option maxHeartbeats 2000000 in
theorem jL_state (x : cw_T) (n : Nat) (a1 : Int32) (σ : lw_S) {F : ej_F} {r0 : Int32 × lw_S} (hq : ej_finW x F r0 0 0 1 6 [(0, 9, 12, 21)]) : ej_J (lV x) F iL_state r0 σ 0 [(0, .ref (cw_a x 0)), (1, .int a1), (2, .ref (cw_a x 300))] [] (mL_state n a1 σ) := by
  unfold mL_state
  refine j_aload_n 2 rfl d_state_0 ?_
  refine j_iconst d_state_1 ejc_0 ?_
  refine j_aload_n 0 rfl d_state_2 ?_
  refine j_iload_n 1 rfl d_state_3 ?_
  refine jw_call1 (k1 := 3) (fun z1 z2 z3 z4 => lcx_con (fun z5 z6 => c10_state x n a1 σ.1 z5 z6 z3 z4) z1 z2) lv_L_59 (lV_rc_0 x σ) ⟨Nat.le_of_ble_eq_true rfl, Nat.le_of_ble_eq_true rfl⟩ d_state_4 rfl (Nat.le_of_ble_eq_true rfl) hq (Nat.le_of_ble_eq_true rfl) (Nat.le_of_ble_eq_true rfl) rfl rfl (by decide) wlk_21 wcd_3 (fun r1 s2 => ?_) (fun q4 s5 => ?_)
  · refine j_i2l d_state_7 ?_
    refine j_last (lV_s_300 x s2 ((0 : Int32).toNatClampNeg) (r1.toInt64)) d_state_8 (fun s3 => ?_)
    refine j_goto d_state_9 ?_
    refine j_iconst d_state_15 ejc_0 ?_
    exact jw_ireturn (ej_finWup 1 6 hq) (Nat.le_of_ble_eq_true rfl) (Nat.le_of_ble_eq_true rfl) d_state_16
  · refine j_astore_n (i := 3) (L' := [(3, .ref (q4)), (0, .ref (cw_a x 0)), (1, .int a1), (2, .ref (cw_a x 300))]) d_state_12 rfl (Nat.le_of_ble_eq_true rfl) rfl ?_
    refine j_iconst d_state_13 ejc_1 ?_
    exact jw_ireturn (ej_finWup 1 6 hq) (Nat.le_of_ble_eq_true rfl) (Nat.le_of_ble_eq_true rfl) d_state_14
theorem kL_state (x : cw_T) (n : Nat) (a1 : Int32) (σ : lw_S) : ∀ z, mL_state n a1 σ = some z → ∀ l : Launch, l.stackTraces = false → ej_Cw l x iL_state yL_state [(0, 9, 12, 21)] [.ref (cw_a x 0), .int a1, .ref (cw_a x 300)] σ 1 6 z := fun z h l hl => ej_conW_of hl pn_L rfl (Nat.le_of_ble_eq_true rfl) rfl h (fun F hq => jL_state x n a1 σ hq)

noncomputable def mL_nodeAt (n : Nat) (a1 : Int32) (a2 : Int32) (σ : lw_S) : Option (Int32 × lw_S) := ej_bw (ej_lcx (m10_nodeAt n a1 a2 σ.1) σ) (fun r1 s2 => ej_ck 0 1 (ej_nm ((s2.1, s2.2.1, vp_updL s2.2.2 ((0 : Int32).toNatClampNeg) (r1.toInt64)) : lw_S) fun s3 => (some (0, s3)))) (fun k sk => if k = 3 then (fun s5 => (some (1, s5))) sk else none)
set_option maxRecDepth 20000 in
set_option maxHeartbeats 2000000 in
theorem jL_nodeAt (x : cw_T) (n : Nat) (a1 : Int32) (a2 : Int32) (σ : lw_S) {F : ej_F} {r0 : Int32 × lw_S} (hq : ej_finW x F r0 0 0 2 12 [(0, 10, 13, 21)]) : ej_J (lV x) F iL_nodeAt r0 σ 0 [(0, .ref (cw_a x 0)), (1, .int a1), (2, .int a2), (3, .ref (cw_a x 300))] [] (mL_nodeAt n a1 a2 σ) := by
  unfold mL_nodeAt
  refine j_aload_n 3 rfl d_nodeAt_0 ?_
  refine j_iconst d_nodeAt_1 ejc_0 ?_
  refine j_aload_n 0 rfl d_nodeAt_2 ?_
  refine j_iload_n 1 rfl d_nodeAt_3 ?_
  refine j_iload_n 2 rfl d_nodeAt_4 ?_
  refine jw_call1 (k1 := 3) (fun z1 z2 z3 z4 => lcx_con (fun z5 z6 => c10_nodeAt x n a1 a2 σ.1 z5 z6 z3 z4) z1 z2) lv_L_62 (lV_rc_0 x σ) ⟨Nat.le_of_ble_eq_true rfl, Nat.le_of_ble_eq_true rfl⟩ d_nodeAt_5 rfl (Nat.le_of_ble_eq_true rfl) hq (Nat.le_of_ble_eq_true rfl) (Nat.le_of_ble_eq_true rfl) rfl rfl (by decide) wlk_21 wcd_3 (fun r1 s2 => ?_) (fun q4 s5 => ?_)
  · refine j_i2l d_nodeAt_8 ?_
    refine j_last (lV_s_300 x s2 ((0 : Int32).toNatClampNeg) (r1.toInt64)) d_nodeAt_9 (fun s3 => ?_)
    refine j_goto d_nodeAt_10 ?_
    refine j_iconst d_nodeAt_17 ejc_0 ?_
    exact jw_ireturn (ej_finWup 2 12 hq) (Nat.le_of_ble_eq_true rfl) (Nat.le_of_ble_eq_true rfl) d_nodeAt_18
  · refine j_astore (i := 4) (L' := [(4, .ref (q4)), (0, .ref (cw_a x 0)), (1, .int a1), (2, .int a2), (3, .ref (cw_a x 300))]) d_nodeAt_13 (Nat.le_of_ble_eq_true rfl) rfl ?_
    refine j_iconst d_nodeAt_15 ejc_1 ?_
    exact jw_ireturn (ej_finWup 2 12 hq) (Nat.le_of_ble_eq_true rfl) (Nat.le_of_ble_eq_true rfl) d_nodeAt_16
theorem kL_nodeAt (x : cw_T) (n : Nat) (a1 : Int32) (a2 : Int32) (σ : lw_S) : ∀ z, mL_nodeAt n a1 a2 σ = some z → ∀ l : Launch, l.stackTraces = false → ej_Cw l x iL_nodeAt yL_nodeAt [(0, 10, 13, 21)] [.ref (cw_a x 0), .int a1, .int a2, .ref (cw_a x 300)] σ 2 12 z := fun z h l hl => ej_conW_of hl pn_L rfl (Nat.le_of_ble_eq_true rfl) rfl h (fun F hq => jL_nodeAt x n a1 a2 σ hq)

noncomputable def mL_costAt (n : Nat) (a1 : Int32) (a2 : Int32) (σ : lw_S) : Option (Int32 × lw_S) := ej_bw (ej_lcx (m10_costAt n a1 a2 σ.1) σ) (fun r1 s2 => ej_ck 0 1 (ej_nm ((s2.1, s2.2.1, vp_updL s2.2.2 ((0 : Int32).toNatClampNeg) (r1.toInt64)) : lw_S) fun s3 => (some (0, s3)))) (fun k sk => if k = 3 then (fun s5 => (some (1, s5))) sk else none)
set_option maxRecDepth 20000 in
set_option maxHeartbeats 2000000 in
theorem jL_costAt (x : cw_T) (n : Nat) (a1 : Int32) (a2 : Int32) (σ : lw_S) {F : ej_F} {r0 : Int32 × lw_S} (hq : ej_finW x F r0 0 0 2 12 [(0, 10, 13, 21)]) : ej_J (lV x) F iL_costAt r0 σ 0 [(0, .ref (cw_a x 0)), (1, .int a1), (2, .int a2), (3, .ref (cw_a x 300))] [] (mL_costAt n a1 a2 σ) := by
  unfold mL_costAt
  refine j_aload_n 3 rfl d_costAt_0 ?_
  refine j_iconst d_costAt_1 ejc_0 ?_
  refine j_aload_n 0 rfl d_costAt_2 ?_
  refine j_iload_n 1 rfl d_costAt_3 ?_
  refine j_iload_n 2 rfl d_costAt_4 ?_
  refine jw_call1 (k1 := 3) (fun z1 z2 z3 z4 => lcx_con (fun z5 z6 => c10_costAt x n a1 a2 σ.1 z5 z6 z3 z4) z1 z2) lv_L_65 (lV_rc_0 x σ) ⟨Nat.le_of_ble_eq_true rfl, Nat.le_of_ble_eq_true rfl⟩ d_costAt_5 rfl (Nat.le_of_ble_eq_true rfl) hq (Nat.le_of_ble_eq_true rfl) (Nat.le_of_ble_eq_true rfl) rfl rfl (by decide) wlk_21 wcd_3 (fun r1 s2 => ?_) (fun q4 s5 => ?_)
  · refine j_i2l d_costAt_8 ?_
    refine j_last (lV_s_300 x s2 ((0 : Int32).toNatClampNeg) (r1.toInt64)) d_costAt_9 (fun s3 => ?_)
    refine j_goto d_costAt_10 ?_
    refine j_iconst d_costAt_17 ejc_0 ?_
    exact jw_ireturn (ej_finWup 2 12 hq) (Nat.le_of_ble_eq_true rfl) (Nat.le_of_ble_eq_true rfl) d_costAt_18
  · refine j_astore (i := 4) (L' := [(4, .ref (q4)), (0, .ref (cw_a x 0)), (1, .int a1), (2, .int a2), (3, .ref (cw_a x 300))]) d_costAt_13 (Nat.le_of_ble_eq_true rfl) rfl ?_
    refine j_iconst d_costAt_15 ejc_1 ?_
    exact jw_ireturn (ej_finWup 2 12 hq) (Nat.le_of_ble_eq_true rfl) (Nat.le_of_ble_eq_true rfl) d_costAt_16
theorem kL_costAt (x : cw_T) (n : Nat) (a1 : Int32) (a2 : Int32) (σ : lw_S) : ∀ z, mL_costAt n a1 a2 σ = some z → ∀ l : Launch, l.stackTraces = false → ej_Cw l x iL_costAt yL_costAt [(0, 10, 13, 21)] [.ref (cw_a x 0), .int a1, .int a2, .ref (cw_a x 300)] σ 2 12 z := fun z h l hl => ej_conW_of hl pn_L rfl (Nat.le_of_ble_eq_true rfl) rfl h (fun F hq => jL_costAt x n a1 a2 σ hq)

noncomputable def mL_stepAt (n : Nat) (a1 : Int32) (a2 : Int32) (σ : lw_S) : Option (Int32 × lw_S) := ej_bw (ej_lcx (m10_stepAt n a1 a2 σ.1) σ) (fun r1 s2 => ej_ck 0 1 (ej_nm ((s2.1, s2.2.1, vp_updL s2.2.2 ((0 : Int32).toNatClampNeg) (r1.toInt64)) : lw_S) fun s3 => (some (0, s3)))) (fun k sk => if k = 3 then (fun s5 => (some (1, s5))) sk else none)
set_option maxRecDepth 20000 in
set_option maxHeartbeats 2000000 in
theorem jL_stepAt (x : cw_T) (n : Nat) (a1 : Int32) (a2 : Int32) (σ : lw_S) {F : ej_F} {r0 : Int32 × lw_S} (hq : ej_finW x F r0 0 0 2 12 [(0, 10, 13, 21)]) : ej_J (lV x) F iL_stepAt r0 σ 0 [(0, .ref (cw_a x 0)), (1, .int a1), (2, .int a2), (3, .ref (cw_a x 300))] [] (mL_stepAt n a1 a2 σ) := by
  unfold mL_stepAt
  refine j_aload_n 3 rfl d_stepAt_0 ?_
  refine j_iconst d_stepAt_1 ejc_0 ?_
  refine j_aload_n 0 rfl d_stepAt_2 ?_
  refine j_iload_n 1 rfl d_stepAt_3 ?_
  refine j_iload_n 2 rfl d_stepAt_4 ?_
  refine jw_call1 (k1 := 3) (fun z1 z2 z3 z4 => lcx_con (fun z5 z6 => c10_stepAt x n a1 a2 σ.1 z5 z6 z3 z4) z1 z2) lv_L_68 (lV_rc_0 x σ) ⟨Nat.le_of_ble_eq_true rfl, Nat.le_of_ble_eq_true rfl⟩ d_stepAt_5 rfl (Nat.le_of_ble_eq_true rfl) hq (Nat.le_of_ble_eq_true rfl) (Nat.le_of_ble_eq_true rfl) rfl rfl (by decide) wlk_21 wcd_3 (fun r1 s2 => ?_) (fun q4 s5 => ?_)
  · refine j_i2l d_stepAt_8 ?_
    refine j_last (lV_s_300 x s2 ((0 : Int32).toNatClampNeg) (r1.toInt64)) d_stepAt_9 (fun s3 => ?_)
    refine j_goto d_stepAt_10 ?_
    refine j_iconst d_stepAt_17 ejc_0 ?_
    exact jw_ireturn (ej_finWup 2 12 hq) (Nat.le_of_ble_eq_true rfl) (Nat.le_of_ble_eq_true rfl) d_stepAt_18
  · refine j_astore (i := 4) (L' := [(4, .ref (q4)), (0, .ref (cw_a x 0)), (1, .int a1), (2, .int a2), (3, .ref (cw_a x 300))]) d_stepAt_13 (Nat.le_of_ble_eq_true rfl) rfl ?_
    refine j_iconst d_stepAt_15 ejc_1 ?_
    exact jw_ireturn (ej_finWup 2 12 hq) (Nat.le_of_ble_eq_true rfl) (Nat.le_of_ble_eq_true rfl) d_stepAt_16
theorem kL_stepAt (x : cw_T) (n : Nat) (a1 : Int32) (a2 : Int32) (σ : lw_S) : ∀ z, mL_stepAt n a1 a2 σ = some z → ∀ l : Launch, l.stackTraces = false → ej_Cw l x iL_stepAt yL_stepAt [(0, 10, 13, 21)] [.ref (cw_a x 0), .int a1, .int a2, .ref (cw_a x 300)] σ 2 12 z := fun z h l hl => ej_conW_of hl pn_L rfl (Nat.le_of_ble_eq_true rfl) rfl h (fun F hq => jL_stepAt x n a1 a2 σ hq)

noncomputable def mL_isBack (n : Nat) (a1 : Int32) (a2 : Int32) (σ : lw_S) : Option (Int32 × lw_S) := ej_bw (ej_lcx (m10_isBack n a1 a2 σ.1) σ) (fun r1 s2 => (if r1 = 0 then ej_ck 0 1 (ej_nm ((s2.1, s2.2.1, vp_updL s2.2.2 ((0 : Int32).toNatClampNeg) 0) : lw_S) fun s3 => (some (0, s3))) else ej_ck 0 1 (ej_nm ((s2.1, s2.2.1, vp_updL s2.2.2 ((0 : Int32).toNatClampNeg) 1) : lw_S) fun s4 => (some (0, s4))))) (fun k sk => if k = 3 then (fun s6 => (some (1, s6))) sk else none)
set_option maxRecDepth 20000 in
set_option maxHeartbeats 2000000 in
theorem jL_isBack (x : cw_T) (n : Nat) (a1 : Int32) (a2 : Int32) (σ : lw_S) {F : ej_F} {r0 : Int32 × lw_S} (hq : ej_finW x F r0 0 0 2 12 [(0, 17, 20, 21)]) : ej_J (lV x) F iL_isBack r0 σ 0 [(0, .ref (cw_a x 0)), (1, .int a1), (2, .int a2), (3, .ref (cw_a x 300))] [] (mL_isBack n a1 a2 σ) := by
  unfold mL_isBack
  refine j_aload_n 3 rfl d_isBack_0 ?_
  refine j_iconst d_isBack_1 ejc_0 ?_
  refine j_aload_n 0 rfl d_isBack_2 ?_
  refine j_iload_n 1 rfl d_isBack_3 ?_
  refine j_iload_n 2 rfl d_isBack_4 ?_
  refine jw_call1 (k1 := 3) (fun z1 z2 z3 z4 => lcx_con (fun z5 z6 => c10_isBack x n a1 a2 σ.1 z5 z6 z3 z4) z1 z2) lv_L_71 (lV_rc_0 x σ) ⟨Nat.le_of_ble_eq_true rfl, Nat.le_of_ble_eq_true rfl⟩ d_isBack_5 rfl (Nat.le_of_ble_eq_true rfl) hq (Nat.le_of_ble_eq_true rfl) (Nat.le_of_ble_eq_true rfl) rfl rfl (by decide) wlk_21 wcd_3 (fun r1 s2 => ?_) (fun q5 s6 => ?_)
  · refine j_if_eq d_isBack_8 ?_ ?_
    · refine j_lconst d_isBack_15 ejl_0 ?_
      refine j_last (lV_s_300 x s2 ((0 : Int32).toNatClampNeg) 0) d_isBack_16 (fun s3 => ?_)
      refine j_goto d_isBack_17 ?_
      refine j_iconst d_isBack_24 ejc_0 ?_
      exact jw_ireturn (ej_finWup 2 12 hq) (Nat.le_of_ble_eq_true rfl) (Nat.le_of_ble_eq_true rfl) d_isBack_25
    · refine j_lconst d_isBack_11 ejl_1 ?_
      refine j_goto d_isBack_12 ?_
      refine j_last (lV_s_300 x s2 ((0 : Int32).toNatClampNeg) 1) d_isBack_16 (fun s4 => ?_)
      refine j_goto d_isBack_17 ?_
      refine j_iconst d_isBack_24 ejc_0 ?_
      exact jw_ireturn (ej_finWup 2 12 hq) (Nat.le_of_ble_eq_true rfl) (Nat.le_of_ble_eq_true rfl) d_isBack_25
  · refine j_astore (i := 4) (L' := [(4, .ref (q5)), (0, .ref (cw_a x 0)), (1, .int a1), (2, .int a2), (3, .ref (cw_a x 300))]) d_isBack_20 (Nat.le_of_ble_eq_true rfl) rfl ?_
    refine j_iconst d_isBack_22 ejc_1 ?_
    exact jw_ireturn (ej_finWup 2 12 hq) (Nat.le_of_ble_eq_true rfl) (Nat.le_of_ble_eq_true rfl) d_isBack_23
theorem kL_isBack (x : cw_T) (n : Nat) (a1 : Int32) (a2 : Int32) (σ : lw_S) : ∀ z, mL_isBack n a1 a2 σ = some z → ∀ l : Launch, l.stackTraces = false → ej_Cw l x iL_isBack yL_isBack [(0, 17, 20, 21)] [.ref (cw_a x 0), .int a1, .int a2, .ref (cw_a x 300)] σ 2 12 z := fun z h l hl => ej_conW_of hl pn_L rfl (Nat.le_of_ble_eq_true rfl) rfl h (fun F hq => jL_isBack x n a1 a2 σ hq)

noncomputable def mL_print (n : Nat) (a1 : Int32) (σ : lw_S) : Option (Int32 × lw_S) := ej_bw (ej_lcx (m10_print n a1 σ.1) σ) (fun r1 s2 => ej_ck 0 1 (ej_nm ((s2.1, s2.2.1, vp_updL s2.2.2 ((0 : Int32).toNatClampNeg) (r1.toInt64)) : lw_S) fun s3 => (some (0, s3)))) (fun k sk => if k = 3 then (fun s5 => (some (1, s5))) sk else none)
set_option maxRecDepth 20000 in
set_option maxHeartbeats 2000000 in
theorem jL_print (x : cw_T) (n : Nat) (a1 : Int32) (σ : lw_S) {F : ej_F} {r0 : Int32 × lw_S} (hq : ej_finW x F r0 0 0 1 6 [(0, 9, 12, 21)]) : ej_J (lV x) F iL_print r0 σ 0 [(0, .ref (cw_a x 0)), (1, .int a1), (2, .ref (cw_a x 300))] [] (mL_print n a1 σ) := by
  unfold mL_print
  refine j_aload_n 2 rfl d_print_0 ?_
  refine j_iconst d_print_1 ejc_0 ?_
  refine j_aload_n 0 rfl d_print_2 ?_
  refine j_iload_n 1 rfl d_print_3 ?_
  refine jw_call1 (k1 := 3) (fun z1 z2 z3 z4 => lcx_con (fun z5 z6 => c10_print x n a1 σ.1 z5 z6 z3 z4) z1 z2) lv_L_75 (lV_rc_0 x σ) ⟨Nat.le_of_ble_eq_true rfl, Nat.le_of_ble_eq_true rfl⟩ d_print_4 rfl (Nat.le_of_ble_eq_true rfl) hq (Nat.le_of_ble_eq_true rfl) (Nat.le_of_ble_eq_true rfl) rfl rfl (by decide) wlk_21 wcd_3 (fun r1 s2 => ?_) (fun q4 s5 => ?_)
  · refine j_i2l d_print_7 ?_
    refine j_last (lV_s_300 x s2 ((0 : Int32).toNatClampNeg) (r1.toInt64)) d_print_8 (fun s3 => ?_)
    refine j_goto d_print_9 ?_
    refine j_iconst d_print_15 ejc_0 ?_
    exact jw_ireturn (ej_finWup 1 6 hq) (Nat.le_of_ble_eq_true rfl) (Nat.le_of_ble_eq_true rfl) d_print_16
  · refine j_astore_n (i := 3) (L' := [(3, .ref (q4)), (0, .ref (cw_a x 0)), (1, .int a1), (2, .ref (cw_a x 300))]) d_print_12 rfl (Nat.le_of_ble_eq_true rfl) rfl ?_
    refine j_iconst d_print_13 ejc_1 ?_
    exact jw_ireturn (ej_finWup 1 6 hq) (Nat.le_of_ble_eq_true rfl) (Nat.le_of_ble_eq_true rfl) d_print_14
theorem kL_print (x : cw_T) (n : Nat) (a1 : Int32) (σ : lw_S) : ∀ z, mL_print n a1 σ = some z → ∀ l : Launch, l.stackTraces = false → ej_Cw l x iL_print yL_print [(0, 9, 12, 21)] [.ref (cw_a x 0), .int a1, .ref (cw_a x 300)] σ 1 6 z := fun z h l hl => ej_conW_of hl pn_L rfl (Nat.le_of_ble_eq_true rfl) rfl h (fun F hq => jL_print x n a1 σ hq)

