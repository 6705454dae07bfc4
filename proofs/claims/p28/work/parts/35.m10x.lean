theorem sx_97 : (RX10, 97, "n is not 1 to 8", 13) ∈ cw_strs := by decide +kernel
theorem sx_108 : (RX10, 108, "the tape is full", 14) ∈ cw_strs := by decide +kernel
theorem sx_123 : (RX10, 123, "there is no such file", 15) ∈ cw_strs := by decide +kernel
theorem sx_134 : (RX10, 134, "the text has a fault", 16) ∈ cw_strs := by decide +kernel
theorem sx_165 : (RX10, 165, "the sum has a fault", 17) ∈ cw_strs := by decide +kernel
theorem sx_177 : (RX10, 177, "the tape is not a name", 18) ∈ cw_strs := by decide +kernel
theorem sx_257 : (RX10, 257, "there is no such node", 19) ∈ cw_strs := by decide +kernel
theorem sx_262 : (RX10, 262, "there is no such place", 20) ∈ cw_strs := by decide +kernel
noncomputable def m10_needNode (n : Nat) (a1 : Int32) (σ : ej_S) : Option (ej_S ⊕ (Nat × ej_S)) := ej_bi (m0_has n a1 σ) fun r2 s1 => (if r2 = 0 then (some (.inr (3, s1))) else (some (.inl s1)))
set_option maxRecDepth 20000 in
set_option maxHeartbeats 2000000 in
theorem j10_needNode (x : cw_T) (n : Nat) (a1 : Int32) (σ : ej_S) {F : ej_F} {r0 : ej_S ⊕ (Nat × ej_S)} (hq : ej_finX (cV x) F none (ej_xg ej_fv r0) 0 0 1 6) : ej_J (cV x) F i10_needNode r0 σ 0 [(0, .ref (cw_a x 0)), (1, .int a1)] [] (m10_needNode n a1 σ) := by
  unfold m10_needNode
  refine j_aload_n 0 rfl d10_needNode_0 ?_
  refine j_get fl_X10_55 (cV_g_0_7 x σ) d10_needNode_1 ?_
  refine j_iload_n 1 rfl d10_needNode_4 ?_
  refine j_callVi (c0_has x n a1 σ) lv_X10_254 (cV_rc_4 x σ) ⟨Nat.le_of_ble_eq_true rfl, Nat.le_of_ble_eq_true rfl⟩ d10_needNode_5 rfl (Nat.le_of_ble_eq_true rfl) (fun r2 s1 => ?_)
  refine j_if_ne d10_needNode_8 ?_ ?_
  · exact jx_vreturn hq (Nat.le_of_ble_eq_true rfl) (Nat.le_of_ble_eq_true rfl) d10_needNode_22
  · exact jx_throww hq (Nat.le_of_ble_eq_true rfl) (Nat.le_of_ble_eq_true rfl) rfl th_3 sx_257 (Nat.le_of_ble_eq_true rfl) (Nat.le_of_ble_eq_true rfl) (Nat.le_of_ble_eq_true rfl) d10_needNode_11.1 d10_needNode_14.1 d10_needNode_15.1 d10_needNode_18.1 d10_needNode_21
theorem c10_needNode (x : cw_T) (n : Nat) (a1 : Int32) (σ : ej_S) : ∀ z, m10_needNode n a1 σ = some z → ∀ l : Launch, l.stackTraces = false → ej_Cx l (cV x) i10_needNode yX10_needNode none [.ref (cw_a x 0), .int a1] σ 1 6 (ej_xg ej_fv z) := fun z h l hl => ej_conX_of hl pn_X10 rfl (Nat.le_of_ble_eq_true rfl) rfl h (fun F hq => j10_needNode x n a1 σ hq)

noncomputable def m10_cost (n : Nat) (a1 : Int32) (σ : ej_S) : Option ((Int32 × ej_S) ⊕ (Nat × ej_S)) := ej_bxv (m10_needNode n a1 σ) fun s1 => ej_bv (m9_find n s1) fun s2 => ej_bi (m9_routeKey n a1 s2) fun r4 s3 => ej_bi (m9_costOfKey n r4 s3) fun r6 s5 => (some (.inl (r6, s5)))
set_option maxRecDepth 20000 in
set_option maxHeartbeats 2000000 in
theorem j10_cost (x : cw_T) (n : Nat) (a1 : Int32) (σ : ej_S) {F : ej_F} {r0 : (Int32 × ej_S) ⊕ (Nat × ej_S)} (hq : ej_finX (cV x) F (some .int) (ej_xg ej_fi r0) 0 0 1 6) : ej_J (cV x) F i10_cost r0 σ 0 [(0, .ref (cw_a x 0)), (1, .int a1)] [] (m10_cost n a1 σ) := by
  unfold m10_cost
  refine j_aload_n 0 rfl d10_cost_0 ?_
  refine j_iload_n 1 rfl d10_cost_1 ?_
  refine jx_callv (c10_needNode x n a1 σ) lv_X10_192 (cV_rc_0 x σ) ⟨Nat.le_of_ble_eq_true rfl, Nat.le_of_ble_eq_true rfl⟩ d10_cost_2 rfl (Nat.le_of_ble_eq_true rfl) hq (Nat.le_of_ble_eq_true rfl) (Nat.le_of_ble_eq_true rfl) (fun s1 => ?_)
  refine j_aload_n 0 rfl d10_cost_5 ?_
  refine j_get fl_X10_82 (cV_g_0_10 x s1) d10_cost_6 ?_
  refine j_callVv (c9_find x n s1) lv_X10_215 (cV_rc_7 x s1) ⟨Nat.le_of_ble_eq_true rfl, Nat.le_of_ble_eq_true rfl⟩ d10_cost_9 rfl (Nat.le_of_ble_eq_true rfl) (fun s2 => ?_)
  refine j_aload_n 0 rfl d10_cost_12 ?_
  refine j_get fl_X10_82 (cV_g_0_10 x s2) d10_cost_13 ?_
  refine j_aload_n 0 rfl d10_cost_16 ?_
  refine j_get fl_X10_82 (cV_g_0_10 x s2) d10_cost_17 ?_
  refine j_iload_n 1 rfl d10_cost_20 ?_
  refine j_callVi (c9_routeKey x n a1 s2) lv_X10_217 (cV_rc_7 x s2) ⟨Nat.le_of_ble_eq_true rfl, Nat.le_of_ble_eq_true rfl⟩ d10_cost_21 rfl (Nat.le_of_ble_eq_true rfl) (fun r4 s3 => ?_)
  refine j_callVi (c9_costOfKey x n r4 s3) lv_X10_220 (cV_rc_7 x s3) ⟨Nat.le_of_ble_eq_true rfl, Nat.le_of_ble_eq_true rfl⟩ d10_cost_24 rfl (Nat.le_of_ble_eq_true rfl) (fun r6 s5 => ?_)
  exact jx_ireturn (ej_finup 1 6 hq) (Nat.le_of_ble_eq_true rfl) (Nat.le_of_ble_eq_true rfl) d10_cost_27
theorem c10_cost (x : cw_T) (n : Nat) (a1 : Int32) (σ : ej_S) : ∀ z, m10_cost n a1 σ = some z → ∀ l : Launch, l.stackTraces = false → ej_Cx l (cV x) i10_cost yX10_cost (some .int) [.ref (cw_a x 0), .int a1] σ 1 6 (ej_xg ej_fi z) := fun z h l hl => ej_conX_of hl pn_X10 rfl (Nat.le_of_ble_eq_true rfl) rfl h (fun F hq => j10_cost x n a1 σ hq)

noncomputable def m10_needPlace (n : Nat) (a1 : Int32) (a2 : Int32) (σ : ej_S) : Option (ej_S ⊕ (Nat × ej_S)) := ej_bxv (m10_needNode n a1 σ) fun s1 => ej_bv (m9_find n s1) fun s2 => (if a2 < 0 then (some (.inr (3, s2))) else ej_bi (m9_layOut n a1 s2) fun r4 s3 => (if a2 ≤ r4 then (some (.inl s3)) else (some (.inr (3, s3)))))
set_option maxRecDepth 20000 in
set_option maxHeartbeats 2000000 in
theorem j10_needPlace (x : cw_T) (n : Nat) (a1 : Int32) (a2 : Int32) (σ : ej_S) {F : ej_F} {r0 : ej_S ⊕ (Nat × ej_S)} (hq : ej_finX (cV x) F none (ej_xg ej_fv r0) 0 0 2 12) : ej_J (cV x) F i10_needPlace r0 σ 0 [(0, .ref (cw_a x 0)), (1, .int a1), (2, .int a2)] [] (m10_needPlace n a1 a2 σ) := by
  unfold m10_needPlace
  refine j_aload_n 0 rfl d10_needPlace_0 ?_
  refine j_iload_n 1 rfl d10_needPlace_1 ?_
  refine jx_callv (c10_needNode x n a1 σ) lv_X10_192 (cV_rc_0 x σ) ⟨Nat.le_of_ble_eq_true rfl, Nat.le_of_ble_eq_true rfl⟩ d10_needPlace_2 rfl (Nat.le_of_ble_eq_true rfl) hq (Nat.le_of_ble_eq_true rfl) (Nat.le_of_ble_eq_true rfl) (fun s1 => ?_)
  refine j_aload_n 0 rfl d10_needPlace_5 ?_
  refine j_get fl_X10_82 (cV_g_0_10 x s1) d10_needPlace_6 ?_
  refine j_callVv (c9_find x n s1) lv_X10_215 (cV_rc_7 x s1) ⟨Nat.le_of_ble_eq_true rfl, Nat.le_of_ble_eq_true rfl⟩ d10_needPlace_9 rfl (Nat.le_of_ble_eq_true rfl) (fun s2 => ?_)
  refine j_iload_n 2 rfl d10_needPlace_12 ?_
  refine j_if_lt d10_needPlace_13 ?_ ?_
  · exact jx_throww (ej_finup 1 6 hq) (Nat.le_of_ble_eq_true rfl) (Nat.le_of_ble_eq_true rfl) rfl th_3 sx_262 (Nat.le_of_ble_eq_true rfl) (Nat.le_of_ble_eq_true rfl) (Nat.le_of_ble_eq_true rfl) d10_needPlace_28.1 d10_needPlace_31.1 d10_needPlace_32.1 d10_needPlace_35.1 d10_needPlace_38
  · refine j_iload_n 2 rfl d10_needPlace_16 ?_
    refine j_aload_n 0 rfl d10_needPlace_17 ?_
    refine j_get fl_X10_82 (cV_g_0_10 x s2) d10_needPlace_18 ?_
    refine j_iload_n 1 rfl d10_needPlace_21 ?_
    refine j_callVi (c9_layOut x n a1 s2) lv_X10_259 (cV_rc_7 x s2) ⟨Nat.le_of_ble_eq_true rfl, Nat.le_of_ble_eq_true rfl⟩ d10_needPlace_22 rfl (Nat.le_of_ble_eq_true rfl) (fun r4 s3 => ?_)
    refine j_icmp_le d10_needPlace_25 ?_ ?_
    · exact jx_vreturn (ej_finup 1 6 hq) (Nat.le_of_ble_eq_true rfl) (Nat.le_of_ble_eq_true rfl) d10_needPlace_39
    · exact jx_throww (ej_finup 1 6 hq) (Nat.le_of_ble_eq_true rfl) (Nat.le_of_ble_eq_true rfl) rfl th_3 sx_262 (Nat.le_of_ble_eq_true rfl) (Nat.le_of_ble_eq_true rfl) (Nat.le_of_ble_eq_true rfl) d10_needPlace_28.1 d10_needPlace_31.1 d10_needPlace_32.1 d10_needPlace_35.1 d10_needPlace_38
theorem c10_needPlace (x : cw_T) (n : Nat) (a1 : Int32) (a2 : Int32) (σ : ej_S) : ∀ z, m10_needPlace n a1 a2 σ = some z → ∀ l : Launch, l.stackTraces = false → ej_Cx l (cV x) i10_needPlace yX10_needPlace none [.ref (cw_a x 0), .int a1, .int a2] σ 2 12 (ej_xg ej_fv z) := fun z h l hl => ej_conX_of hl pn_X10 rfl (Nat.le_of_ble_eq_true rfl) rfl h (fun F hq => j10_needPlace x n a1 a2 σ hq)

noncomputable def m10_costAt (n : Nat) (a1 : Int32) (a2 : Int32) (σ : ej_S) : Option ((Int32 × ej_S) ⊕ (Nat × ej_S)) := ej_bxv (m10_needPlace n a1 a2 σ) fun s1 => ej_bi (m9_keyOn n a2 s1) fun r3 s2 => ej_bi (m9_costOfKey n r3 s2) fun r5 s4 => (some (.inl (r5, s4)))
set_option maxRecDepth 20000 in
set_option maxHeartbeats 2000000 in
theorem j10_costAt (x : cw_T) (n : Nat) (a1 : Int32) (a2 : Int32) (σ : ej_S) {F : ej_F} {r0 : (Int32 × ej_S) ⊕ (Nat × ej_S)} (hq : ej_finX (cV x) F (some .int) (ej_xg ej_fi r0) 0 0 2 12) : ej_J (cV x) F i10_costAt r0 σ 0 [(0, .ref (cw_a x 0)), (1, .int a1), (2, .int a2)] [] (m10_costAt n a1 a2 σ) := by
  unfold m10_costAt
  refine j_aload_n 0 rfl d10_costAt_0 ?_
  refine j_iload_n 1 rfl d10_costAt_1 ?_
  refine j_iload_n 2 rfl d10_costAt_2 ?_
  refine jx_callv (c10_needPlace x n a1 a2 σ) lv_X10_232 (cV_rc_0 x σ) ⟨Nat.le_of_ble_eq_true rfl, Nat.le_of_ble_eq_true rfl⟩ d10_costAt_3 rfl (Nat.le_of_ble_eq_true rfl) hq (Nat.le_of_ble_eq_true rfl) (Nat.le_of_ble_eq_true rfl) (fun s1 => ?_)
  refine j_aload_n 0 rfl d10_costAt_6 ?_
  refine j_get fl_X10_82 (cV_g_0_10 x s1) d10_costAt_7 ?_
  refine j_aload_n 0 rfl d10_costAt_10 ?_
  refine j_get fl_X10_82 (cV_g_0_10 x s1) d10_costAt_11 ?_
  refine j_iload_n 2 rfl d10_costAt_14 ?_
  refine j_callVi (c9_keyOn x n a2 s1) lv_X10_236 (cV_rc_7 x s1) ⟨Nat.le_of_ble_eq_true rfl, Nat.le_of_ble_eq_true rfl⟩ d10_costAt_15 rfl (Nat.le_of_ble_eq_true rfl) (fun r3 s2 => ?_)
  refine j_callVi (c9_costOfKey x n r3 s2) lv_X10_220 (cV_rc_7 x s2) ⟨Nat.le_of_ble_eq_true rfl, Nat.le_of_ble_eq_true rfl⟩ d10_costAt_18 rfl (Nat.le_of_ble_eq_true rfl) (fun r5 s4 => ?_)
  exact jx_ireturn (ej_finup 2 12 hq) (Nat.le_of_ble_eq_true rfl) (Nat.le_of_ble_eq_true rfl) d10_costAt_21
theorem c10_costAt (x : cw_T) (n : Nat) (a1 : Int32) (a2 : Int32) (σ : ej_S) : ∀ z, m10_costAt n a1 a2 σ = some z → ∀ l : Launch, l.stackTraces = false → ej_Cx l (cV x) i10_costAt yX10_costAt (some .int) [.ref (cw_a x 0), .int a1, .int a2] σ 2 12 (ej_xg ej_fi z) := fun z h l hl => ej_conX_of hl pn_X10 rfl (Nat.le_of_ble_eq_true rfl) rfl h (fun F hq => j10_costAt x n a1 a2 σ hq)

noncomputable def m10_costByRounds (n : Nat) (a1 : Int32) (σ : ej_S) : Option ((Int32 × ej_S) ⊕ (Nat × ej_S)) := ej_bxv (m10_needNode n a1 σ) fun s1 => ej_bv (m9_find n s1) fun s2 => ej_bv (m9_findByRounds n s2) fun s3 => ej_bi (m9_leastByRounds n a1 s3) fun r5 s4 => (some (.inl (r5, s4)))
set_option maxRecDepth 20000 in
set_option maxHeartbeats 2000000 in
theorem j10_costByRounds (x : cw_T) (n : Nat) (a1 : Int32) (σ : ej_S) {F : ej_F} {r0 : (Int32 × ej_S) ⊕ (Nat × ej_S)} (hq : ej_finX (cV x) F (some .int) (ej_xg ej_fi r0) 0 0 1 6) : ej_J (cV x) F i10_costByRounds r0 σ 0 [(0, .ref (cw_a x 0)), (1, .int a1)] [] (m10_costByRounds n a1 σ) := by
  unfold m10_costByRounds
  refine j_aload_n 0 rfl d10_costByRounds_0 ?_
  refine j_iload_n 1 rfl d10_costByRounds_1 ?_
  refine jx_callv (c10_needNode x n a1 σ) lv_X10_192 (cV_rc_0 x σ) ⟨Nat.le_of_ble_eq_true rfl, Nat.le_of_ble_eq_true rfl⟩ d10_costByRounds_2 rfl (Nat.le_of_ble_eq_true rfl) hq (Nat.le_of_ble_eq_true rfl) (Nat.le_of_ble_eq_true rfl) (fun s1 => ?_)
  refine j_aload_n 0 rfl d10_costByRounds_5 ?_
  refine j_get fl_X10_82 (cV_g_0_10 x s1) d10_costByRounds_6 ?_
  refine j_callVv (c9_find x n s1) lv_X10_215 (cV_rc_7 x s1) ⟨Nat.le_of_ble_eq_true rfl, Nat.le_of_ble_eq_true rfl⟩ d10_costByRounds_9 rfl (Nat.le_of_ble_eq_true rfl) (fun s2 => ?_)
  refine j_aload_n 0 rfl d10_costByRounds_12 ?_
  refine j_get fl_X10_82 (cV_g_0_10 x s2) d10_costByRounds_13 ?_
  refine j_callVv (c9_findByRounds x n s2) lv_X10_223 (cV_rc_7 x s2) ⟨Nat.le_of_ble_eq_true rfl, Nat.le_of_ble_eq_true rfl⟩ d10_costByRounds_16 rfl (Nat.le_of_ble_eq_true rfl) (fun s3 => ?_)
  refine j_aload_n 0 rfl d10_costByRounds_19 ?_
  refine j_get fl_X10_82 (cV_g_0_10 x s3) d10_costByRounds_20 ?_
  refine j_iload_n 1 rfl d10_costByRounds_23 ?_
  refine j_callVi (c9_leastByRounds x n a1 s3) lv_X10_226 (cV_rc_7 x s3) ⟨Nat.le_of_ble_eq_true rfl, Nat.le_of_ble_eq_true rfl⟩ d10_costByRounds_24 rfl (Nat.le_of_ble_eq_true rfl) (fun r5 s4 => ?_)
  exact jx_ireturn (ej_finup 1 6 hq) (Nat.le_of_ble_eq_true rfl) (Nat.le_of_ble_eq_true rfl) d10_costByRounds_27
theorem c10_costByRounds (x : cw_T) (n : Nat) (a1 : Int32) (σ : ej_S) : ∀ z, m10_costByRounds n a1 σ = some z → ∀ l : Launch, l.stackTraces = false → ej_Cx l (cV x) i10_costByRounds yX10_costByRounds (some .int) [.ref (cw_a x 0), .int a1] σ 1 6 (ej_xg ej_fi z) := fun z h l hl => ej_conX_of hl pn_X10 rfl (Nat.le_of_ble_eq_true rfl) rfl h (fun F hq => j10_costByRounds x n a1 σ hq)

noncomputable def m10_drop (n : Nat) (a1 : Int32) (σ : ej_S) : Option ((Int32 × ej_S) ⊕ (Nat × ej_S)) := ej_bi (m10_isFile n a1 σ) fun r2 s1 => (if r2 = 0 then (some (.inr (3, s1))) else ej_ck a1 4 (ej_nm (gA s1 10 a1.toNatClampNeg) fun x3 => ej_ck a1 4 (ej_bv (m7_clear n (2 + a1.toNatClampNeg) s1) fun s5 => ej_bi (m10_drawMap n (-1) s5) fun r7 s6 => (some (.inl (x3, s6))))))
set_option maxRecDepth 20000 in
set_option maxHeartbeats 2000000 in
theorem j10_drop (x : cw_T) (n : Nat) (a1 : Int32) (σ : ej_S) {F : ej_F} {r0 : (Int32 × ej_S) ⊕ (Nat × ej_S)} (hq : ej_finX (cV x) F (some .int) (ej_xg ej_fi r0) 0 0 1 6) : ej_J (cV x) F i10_drop r0 σ 0 [(0, .ref (cw_a x 0)), (1, .int a1)] [] (m10_drop n a1 σ) := by
  unfold m10_drop
  refine j_iload_n 1 rfl d10_drop_0 ?_
  refine j_callSi (c10_isFile x n a1 σ) ls_X10_114 ⟨Nat.le_of_ble_eq_true rfl, Nat.le_of_ble_eq_true rfl⟩ d10_drop_1 rfl (Nat.le_of_ble_eq_true rfl) (fun r2 s1 => ?_)
  refine j_if_ne d10_drop_4 ?_ ?_
  · refine j_aload_n 0 rfl d10_drop_17 ?_
    refine j_get fl_X10_25 (cV_g_0_3 x s1) d10_drop_18 ?_
    refine j_iload_n 1 rfl d10_drop_21 ?_
    refine j_iald (cV_a_30 x s1) d10_drop_22 ?_
    refine j_nmi (fun x3 => ?_)
    refine j_istore_n (i := 2) (L' := [(2, .int x3), (0, .ref (cw_a x 0)), (1, .int a1)]) d10_drop_23 rfl (Nat.le_of_ble_eq_true rfl) rfl ?_
    refine j_aload_n 1 rfl d10_drop_24 ?_
    refine j_get fl_X10_21 (cV_g_0_2 x s1) d10_drop_25 ?_
    refine j_iload_n 2 rfl d10_drop_28 ?_
    refine j_aaldF x d10_drop_29 (fun h4 => ?_)
    refine j_callVv (c7_clear x n (2 + a1.toNatClampNeg) (by omega) s1) lv_X10_118 (cV_rc_t x s1 (2 + a1.toNatClampNeg) (by omega)) ⟨Nat.le_of_ble_eq_true rfl, Nat.le_of_ble_eq_true rfl⟩ d10_drop_30 rfl (Nat.le_of_ble_eq_true rfl) (fun s5 => ?_)
    refine j_aload_n 1 rfl d10_drop_33 ?_
    refine j_iconst d10_drop_34 ejc_m1 ?_
    refine j_callVi (c10_drawMap x n (-1) s5) lv_X10_127 (cV_rc_0 x s5) ⟨Nat.le_of_ble_eq_true rfl, Nat.le_of_ble_eq_true rfl⟩ d10_drop_35 rfl (Nat.le_of_ble_eq_true rfl) (fun r7 s6 => ?_)
    refine j_pop d10_drop_38 rfl ?_
    refine j_iload_n 0 rfl d10_drop_39 ?_
    exact jx_ireturn hq (Nat.le_of_ble_eq_true rfl) (Nat.le_of_ble_eq_true rfl) d10_drop_40
  · exact jx_throw hq (Nat.le_of_ble_eq_true rfl) (Nat.le_of_ble_eq_true rfl) rfl th_3 sx_123 (Nat.le_of_ble_eq_true rfl) (Nat.le_of_ble_eq_true rfl) (Nat.le_of_ble_eq_true rfl) d10_drop_7.1 d10_drop_10.1 d10_drop_11.1 d10_drop_13.1 d10_drop_16
theorem c10_drop (x : cw_T) (n : Nat) (a1 : Int32) (σ : ej_S) : ∀ z, m10_drop n a1 σ = some z → ∀ l : Launch, l.stackTraces = false → ej_Cx l (cV x) i10_drop yX10_drop (some .int) [.ref (cw_a x 0), .int a1] σ 1 6 (ej_xg ej_fi z) := fun z h l hl => ej_conX_of hl pn_X10 rfl (Nat.le_of_ble_eq_true rfl) rfl h (fun F hq => j10_drop x n a1 σ hq)

noncomputable def m10_feed_49 (n : Nat) (k : Nat) : Int64 → Int32 → Int32 → ej_S → Option ((Int32 × ej_S) ⊕ (Nat × ej_S)) := Nat.rec (motive := fun _ => Int64 → Int32 → Int32 → ej_S → Option ((Int32 × ej_S) ⊕ (Nat × ej_S))) (fun _ _ _ _ => none) (fun _ ih y3 y4 y5 σ => (if y4 ≤ y5 then ej_bi (m7_length n 0 σ) fun r7 s6 => (some (.inl (r7, s6))) else ej_bv (m7_append n 0 (((y3.toUInt64 >>> ((8 * y5).toInt64.toUInt64 &&& Int64.toUInt64 63)).toInt64).toInt32) σ) fun s8 => ej_nm (y5 + 1) fun x9 => (ih y3 y4 x9 s8))) k
theorem m10_feed_49_s (n : Nat) (k : Nat) (y3 : Int64) (y4 : Int32) (y5 : Int32) (σ : ej_S) : m10_feed_49 n (k + 1) y3 y4 y5 σ = ((if y4 ≤ y5 then ej_bi (m7_length n 0 σ) fun r7 s6 => (some (.inl (r7, s6))) else ej_bv (m7_append n 0 (((y3.toUInt64 >>> ((8 * y5).toInt64.toUInt64 &&& Int64.toUInt64 63)).toInt64).toInt32) σ) fun s8 => ej_nm (y5 + 1) fun x9 => ((m10_feed_49 n k) y3 y4 x9 s8)) : Option ((Int32 × ej_S) ⊕ (Nat × ej_S))) := rfl
set_option maxRecDepth 20000 in
set_option maxHeartbeats 2000000 in
theorem j10_feed_49 (x : cw_T) (n : Nat) {F : ej_F} {r0 : (Int32 × ej_S) ⊕ (Nat × ej_S)} (hq : ej_finX (cV x) F (some .int) (ej_xg ej_fi r0) 0 0 1 6) : ∀ (k : Nat) (y3 : Int64) (y4 : Int32) (y5 : Int32) (σ : ej_S), ej_J (cV x) F i10_feed r0 σ 49 [(0, .ref (cw_a x 0)), (1, .long y3), (3, .int y4), (4, .int y5)] [] (m10_feed_49 n k y3 y4 y5 σ) := by
  intro k
  induction k with
  | zero => intro y3 y4 y5 σ; exact j_none
  | succ k ih =>
    intro y3 y4 y5 σ
    rw [m10_feed_49_s]
    refine j_iload 3 rfl d10_feed_49 ?_
    refine j_iload_n 2 rfl d10_feed_51 ?_
    refine j_icmp_ge d10_feed_52 ?_ ?_
    · refine j_aload_n 0 rfl d10_feed_76 ?_
      refine j_get fl_X10_14 (cV_g_0_0 x σ) d10_feed_77 ?_
      refine j_callVi (c7_length x n 0 (Nat.le_of_ble_eq_true rfl) σ) lv_X10_102 (cV_rc_t x σ 0 (Nat.le_of_ble_eq_true rfl)) ⟨Nat.le_of_ble_eq_true rfl, Nat.le_of_ble_eq_true rfl⟩ d10_feed_80 rfl (Nat.le_of_ble_eq_true rfl) (fun r7 s6 => ?_)
      exact jx_ireturn hq (Nat.le_of_ble_eq_true rfl) (Nat.le_of_ble_eq_true rfl) d10_feed_83
    · refine j_aload_n 0 rfl d10_feed_55 ?_
      refine j_get fl_X10_14 (cV_g_0_0 x σ) d10_feed_56 ?_
      refine j_lload_n 1 rfl d10_feed_59 ?_
      refine j_bipush d10_feed_60 ejb_8 ?_
      refine j_iload 3 rfl d10_feed_62 ?_
      refine j_imul d10_feed_64 ?_
      refine j_lushr d10_feed_65 ?_
      refine j_l2i d10_feed_66 ?_
      refine j_callVv (c7_append x n 0 (Nat.le_of_ble_eq_true rfl) (((y3.toUInt64 >>> ((8 * y5).toInt64.toUInt64 &&& Int64.toUInt64 63)).toInt64).toInt32) σ) lv_X10_111 (cV_rc_t x σ 0 (Nat.le_of_ble_eq_true rfl)) ⟨Nat.le_of_ble_eq_true rfl, Nat.le_of_ble_eq_true rfl⟩ d10_feed_67 rfl (Nat.le_of_ble_eq_true rfl) (fun s8 => ?_)
      refine j_iinc (i := 4) (v := 1) (Ly := fun x9 => [(4, .int x9), (0, .ref (cw_a x 0)), (1, .long y3), (3, .int y4)]) 3 d10_feed_70 rfl ejc_1 (Nat.le_of_ble_eq_true rfl) (fun _ => rfl) (fun x9 => ?_)
      refine j_goto d10_feed_73 ?_
      exact j_sub [1, 2, 3, 0] rfl (ih y3 y4 x9 s8)
noncomputable def m10_feed (n : Nat) (a1 : Int64) (a2 : Int32) (σ : ej_S) : Option ((Int32 × ej_S) ⊕ (Nat × ej_S)) := (if a2 < 1 then (some (.inr (1, σ))) else (if a2 ≤ 8 then ej_bi (m7_length n 0 σ) fun r2 s1 => (if r2 + a2 ≤ 600 then (m10_feed_49 n n a1 a2 0 s1) else (some (.inr (2, s1)))) else (some (.inr (1, σ)))))
set_option maxRecDepth 20000 in
set_option maxHeartbeats 2000000 in
theorem j10_feed (x : cw_T) (n : Nat) (a1 : Int64) (a2 : Int32) (σ : ej_S) {F : ej_F} {r0 : (Int32 × ej_S) ⊕ (Nat × ej_S)} (hq : ej_finX (cV x) F (some .int) (ej_xg ej_fi r0) 0 0 1 6) : ej_J (cV x) F i10_feed r0 σ 0 [(0, .ref (cw_a x 0)), (1, .long a1), (3, .int a2)] [] (m10_feed n a1 a2 σ) := by
  unfold m10_feed
  refine j_iload_n 2 rfl d10_feed_0 ?_
  refine j_iconst d10_feed_1 ejc_1 ?_
  refine j_icmp_lt d10_feed_2 ?_ ?_
  · exact jx_throw hq (Nat.le_of_ble_eq_true rfl) (Nat.le_of_ble_eq_true rfl) rfl th_1 sx_97 (Nat.le_of_ble_eq_true rfl) (Nat.le_of_ble_eq_true rfl) (Nat.le_of_ble_eq_true rfl) d10_feed_11.1 d10_feed_14.1 d10_feed_15.1 d10_feed_17.1 d10_feed_20
  · refine j_iload_n 2 rfl d10_feed_5 ?_
    refine j_bipush d10_feed_6 ejb_8 ?_
    refine j_icmp_le d10_feed_8 ?_ ?_
    · refine j_aload_n 0 rfl d10_feed_21 ?_
      refine j_get fl_X10_14 (cV_g_0_0 x σ) d10_feed_22 ?_
      refine j_callVi (c7_length x n 0 (Nat.le_of_ble_eq_true rfl) σ) lv_X10_102 (cV_rc_t x σ 0 (Nat.le_of_ble_eq_true rfl)) ⟨Nat.le_of_ble_eq_true rfl, Nat.le_of_ble_eq_true rfl⟩ d10_feed_25 rfl (Nat.le_of_ble_eq_true rfl) (fun r2 s1 => ?_)
      refine j_iload_n 2 rfl d10_feed_28 ?_
      refine j_iadd d10_feed_29 ?_
      refine j_sipush d10_feed_30 ejs_600 ?_
      refine j_icmp_le d10_feed_33 ?_ ?_
      · refine j_iconst d10_feed_46 ejc_0 ?_
        refine j_istore (i := 4) (L' := [(4, .int 0), (0, .ref (cw_a x 0)), (1, .long a1), (3, .int a2)]) d10_feed_47 (Nat.le_of_ble_eq_true rfl) rfl ?_
        exact j_sub [1, 2, 3, 0] rfl (j10_feed_49 x n hq n a1 a2 0 s1)
      · exact jx_throw hq (Nat.le_of_ble_eq_true rfl) (Nat.le_of_ble_eq_true rfl) rfl th_2 sx_108 (Nat.le_of_ble_eq_true rfl) (Nat.le_of_ble_eq_true rfl) (Nat.le_of_ble_eq_true rfl) d10_feed_36.1 d10_feed_39.1 d10_feed_40.1 d10_feed_42.1 d10_feed_45
    · exact jx_throw hq (Nat.le_of_ble_eq_true rfl) (Nat.le_of_ble_eq_true rfl) rfl th_1 sx_97 (Nat.le_of_ble_eq_true rfl) (Nat.le_of_ble_eq_true rfl) (Nat.le_of_ble_eq_true rfl) d10_feed_11.1 d10_feed_14.1 d10_feed_15.1 d10_feed_17.1 d10_feed_20
theorem c10_feed (x : cw_T) (n : Nat) (a1 : Int64) (a2 : Int32) (σ : ej_S) : ∀ z, m10_feed n a1 a2 σ = some z → ∀ l : Launch, l.stackTraces = false → ej_Cx l (cV x) i10_feed yX10_feed (some .int) [.ref (cw_a x 0), .long a1, .int a2] σ 1 6 (ej_xg ej_fi z) := fun z h l hl => ej_conX_of hl pn_X10 rfl (Nat.le_of_ble_eq_true rfl) rfl h (fun F hq => j10_feed x n a1 a2 σ hq)

noncomputable def m10_isBack (n : Nat) (a1 : Int32) (a2 : Int32) (σ : ej_S) : Option ((Int32 × ej_S) ⊕ (Nat × ej_S)) := ej_bxv (m10_needNode n a1 σ) fun s1 => ej_bxv (m10_needNode n a2 s1) fun s2 => ej_bv (m9_find n s2) fun s3 => ej_bi (m5_hasBack n a1 a2 s3) fun r5 s4 => (some (.inl (ej_bz r5, s4)))
set_option maxRecDepth 20000 in
set_option maxHeartbeats 2000000 in
theorem j10_isBack (x : cw_T) (n : Nat) (a1 : Int32) (a2 : Int32) (σ : ej_S) {F : ej_F} {r0 : (Int32 × ej_S) ⊕ (Nat × ej_S)} (hq : ej_finX (cV x) F (some .boolean) (ej_xg ej_fi r0) 0 0 2 12) : ej_J (cV x) F i10_isBack r0 σ 0 [(0, .ref (cw_a x 0)), (1, .int a1), (2, .int a2)] [] (m10_isBack n a1 a2 σ) := by
  unfold m10_isBack
  refine j_aload_n 0 rfl d10_isBack_0 ?_
  refine j_iload_n 1 rfl d10_isBack_1 ?_
  refine jx_callv (c10_needNode x n a1 σ) lv_X10_192 (cV_rc_0 x σ) ⟨Nat.le_of_ble_eq_true rfl, Nat.le_of_ble_eq_true rfl⟩ d10_isBack_2 rfl (Nat.le_of_ble_eq_true rfl) hq (Nat.le_of_ble_eq_true rfl) (Nat.le_of_ble_eq_true rfl) (fun s1 => ?_)
  refine j_aload_n 0 rfl d10_isBack_5 ?_
  refine j_iload_n 2 rfl d10_isBack_6 ?_
  refine jx_callv (c10_needNode x n a2 s1) lv_X10_192 (cV_rc_0 x s1) ⟨Nat.le_of_ble_eq_true rfl, Nat.le_of_ble_eq_true rfl⟩ d10_isBack_7 rfl (Nat.le_of_ble_eq_true rfl) (ej_finup 1 6 hq) (Nat.le_of_ble_eq_true rfl) (Nat.le_of_ble_eq_true rfl) (fun s2 => ?_)
  refine j_aload_n 0 rfl d10_isBack_10 ?_
  refine j_get fl_X10_82 (cV_g_0_10 x s2) d10_isBack_11 ?_
  refine j_callVv (c9_find x n s2) lv_X10_215 (cV_rc_7 x s2) ⟨Nat.le_of_ble_eq_true rfl, Nat.le_of_ble_eq_true rfl⟩ d10_isBack_14 rfl (Nat.le_of_ble_eq_true rfl) (fun s3 => ?_)
  refine j_aload_n 0 rfl d10_isBack_17 ?_
  refine j_get fl_X10_73 (cV_g_0_9 x s3) d10_isBack_18 ?_
  refine j_iload_n 1 rfl d10_isBack_21 ?_
  refine j_iload_n 2 rfl d10_isBack_22 ?_
  refine j_callVi (c5_hasBack x n a1 a2 s3) lv_X10_242 (cV_rc_6 x s3) ⟨Nat.le_of_ble_eq_true rfl, Nat.le_of_ble_eq_true rfl⟩ d10_isBack_23 rfl (Nat.le_of_ble_eq_true rfl) (fun r5 s4 => ?_)
  exact jx_zreturn (ej_finup 1 6 (ej_finup 1 6 hq)) (Nat.le_of_ble_eq_true rfl) (Nat.le_of_ble_eq_true rfl) d10_isBack_26
theorem c10_isBack (x : cw_T) (n : Nat) (a1 : Int32) (a2 : Int32) (σ : ej_S) : ∀ z, m10_isBack n a1 a2 σ = some z → ∀ l : Launch, l.stackTraces = false → ej_Cx l (cV x) i10_isBack yX10_isBack (some .boolean) [.ref (cw_a x 0), .int a1, .int a2] σ 2 12 (ej_xg ej_fi z) := fun z h l hl => ej_conX_of hl pn_X10 rfl (Nat.le_of_ble_eq_true rfl) rfl h (fun F hq => j10_isBack x n a1 a2 σ hq)

noncomputable def m10_isPrivate (n : Nat) (a1 : Int32) (σ : ej_S) : Option ((Int32 × ej_S) ⊕ (Nat × ej_S)) := ej_bxv (m10_needNode n a1 σ) fun s1 => ej_bi (m0_isOwned n a1 s1) fun r3 s2 => (some (.inl (ej_bz r3, s2)))
set_option maxRecDepth 20000 in
set_option maxHeartbeats 2000000 in
theorem j10_isPrivate (x : cw_T) (n : Nat) (a1 : Int32) (σ : ej_S) {F : ej_F} {r0 : (Int32 × ej_S) ⊕ (Nat × ej_S)} (hq : ej_finX (cV x) F (some .boolean) (ej_xg ej_fi r0) 0 0 1 6) : ej_J (cV x) F i10_isPrivate r0 σ 0 [(0, .ref (cw_a x 0)), (1, .int a1)] [] (m10_isPrivate n a1 σ) := by
  unfold m10_isPrivate
  refine j_aload_n 0 rfl d10_isPrivate_0 ?_
  refine j_iload_n 1 rfl d10_isPrivate_1 ?_
  refine jx_callv (c10_needNode x n a1 σ) lv_X10_192 (cV_rc_0 x σ) ⟨Nat.le_of_ble_eq_true rfl, Nat.le_of_ble_eq_true rfl⟩ d10_isPrivate_2 rfl (Nat.le_of_ble_eq_true rfl) hq (Nat.le_of_ble_eq_true rfl) (Nat.le_of_ble_eq_true rfl) (fun s1 => ?_)
  refine j_aload_n 0 rfl d10_isPrivate_5 ?_
  refine j_get fl_X10_55 (cV_g_0_7 x s1) d10_isPrivate_6 ?_
  refine j_iload_n 1 rfl d10_isPrivate_9 ?_
  refine j_callVi (c0_isOwned x n a1 s1) lv_X10_205 (cV_rc_4 x s1) ⟨Nat.le_of_ble_eq_true rfl, Nat.le_of_ble_eq_true rfl⟩ d10_isPrivate_10 rfl (Nat.le_of_ble_eq_true rfl) (fun r3 s2 => ?_)
  exact jx_zreturn (ej_finup 1 6 hq) (Nat.le_of_ble_eq_true rfl) (Nat.le_of_ble_eq_true rfl) d10_isPrivate_13
theorem c10_isPrivate (x : cw_T) (n : Nat) (a1 : Int32) (σ : ej_S) : ∀ z, m10_isPrivate n a1 σ = some z → ∀ l : Launch, l.stackTraces = false → ej_Cx l (cV x) i10_isPrivate yX10_isPrivate (some .boolean) [.ref (cw_a x 0), .int a1] σ 1 6 (ej_xg ej_fi z) := fun z h l hl => ej_conX_of hl pn_X10 rfl (Nat.le_of_ble_eq_true rfl) rfl h (fun F hq => j10_isPrivate x n a1 σ hq)

noncomputable def m10_kind (n : Nat) (a1 : Int32) (σ : ej_S) : Option ((Int32 × ej_S) ⊕ (Nat × ej_S)) := ej_bxv (m10_needNode n a1 σ) fun s1 => ej_bi (m0_kindOf n a1 s1) fun r3 s2 => (some (.inl (r3, s2)))
set_option maxRecDepth 20000 in
set_option maxHeartbeats 2000000 in
theorem j10_kind (x : cw_T) (n : Nat) (a1 : Int32) (σ : ej_S) {F : ej_F} {r0 : (Int32 × ej_S) ⊕ (Nat × ej_S)} (hq : ej_finX (cV x) F (some .int) (ej_xg ej_fi r0) 0 0 1 6) : ej_J (cV x) F i10_kind r0 σ 0 [(0, .ref (cw_a x 0)), (1, .int a1)] [] (m10_kind n a1 σ) := by
  unfold m10_kind
  refine j_aload_n 0 rfl d10_kind_0 ?_
  refine j_iload_n 1 rfl d10_kind_1 ?_
  refine jx_callv (c10_needNode x n a1 σ) lv_X10_192 (cV_rc_0 x σ) ⟨Nat.le_of_ble_eq_true rfl, Nat.le_of_ble_eq_true rfl⟩ d10_kind_2 rfl (Nat.le_of_ble_eq_true rfl) hq (Nat.le_of_ble_eq_true rfl) (Nat.le_of_ble_eq_true rfl) (fun s1 => ?_)
  refine j_aload_n 0 rfl d10_kind_5 ?_
  refine j_get fl_X10_55 (cV_g_0_7 x s1) d10_kind_6 ?_
  refine j_iload_n 1 rfl d10_kind_9 ?_
  refine j_callVi (c0_kindOf x n a1 s1) lv_X10_202 (cV_rc_4 x s1) ⟨Nat.le_of_ble_eq_true rfl, Nat.le_of_ble_eq_true rfl⟩ d10_kind_10 rfl (Nat.le_of_ble_eq_true rfl) (fun r3 s2 => ?_)
  exact jx_ireturn (ej_finup 1 6 hq) (Nat.le_of_ble_eq_true rfl) (Nat.le_of_ble_eq_true rfl) d10_kind_13
theorem c10_kind (x : cw_T) (n : Nat) (a1 : Int32) (σ : ej_S) : ∀ z, m10_kind n a1 σ = some z → ∀ l : Launch, l.stackTraces = false → ej_Cx l (cV x) i10_kind yX10_kind (some .int) [.ref (cw_a x 0), .int a1] σ 1 6 (ej_xg ej_fi z) := fun z h l hl => ej_conX_of hl pn_X10 rfl (Nat.le_of_ble_eq_true rfl) rfl h (fun F hq => j10_kind x n a1 σ hq)

noncomputable def m10_linkCost (n : Nat) (a1 : Int32) (a2 : Int32) (σ : ej_S) : Option ((Int32 × ej_S) ⊕ (Nat × ej_S)) := ej_bxv (m10_needNode n a1 σ) fun s1 => ej_bxv (m10_needNode n a2 s1) fun s2 => ej_bi (m0_priceOfLink n a1 a2 s2) fun r4 s3 => (some (.inl (r4, s3)))
set_option maxRecDepth 20000 in
set_option maxHeartbeats 2000000 in
theorem j10_linkCost (x : cw_T) (n : Nat) (a1 : Int32) (a2 : Int32) (σ : ej_S) {F : ej_F} {r0 : (Int32 × ej_S) ⊕ (Nat × ej_S)} (hq : ej_finX (cV x) F (some .int) (ej_xg ej_fi r0) 0 0 2 12) : ej_J (cV x) F i10_linkCost r0 σ 0 [(0, .ref (cw_a x 0)), (1, .int a1), (2, .int a2)] [] (m10_linkCost n a1 a2 σ) := by
  unfold m10_linkCost
  refine j_aload_n 0 rfl d10_linkCost_0 ?_
  refine j_iload_n 1 rfl d10_linkCost_1 ?_
  refine jx_callv (c10_needNode x n a1 σ) lv_X10_192 (cV_rc_0 x σ) ⟨Nat.le_of_ble_eq_true rfl, Nat.le_of_ble_eq_true rfl⟩ d10_linkCost_2 rfl (Nat.le_of_ble_eq_true rfl) hq (Nat.le_of_ble_eq_true rfl) (Nat.le_of_ble_eq_true rfl) (fun s1 => ?_)
  refine j_aload_n 0 rfl d10_linkCost_5 ?_
  refine j_iload_n 2 rfl d10_linkCost_6 ?_
  refine jx_callv (c10_needNode x n a2 s1) lv_X10_192 (cV_rc_0 x s1) ⟨Nat.le_of_ble_eq_true rfl, Nat.le_of_ble_eq_true rfl⟩ d10_linkCost_7 rfl (Nat.le_of_ble_eq_true rfl) (ej_finup 1 6 hq) (Nat.le_of_ble_eq_true rfl) (Nat.le_of_ble_eq_true rfl) (fun s2 => ?_)
  refine j_aload_n 0 rfl d10_linkCost_10 ?_
  refine j_get fl_X10_55 (cV_g_0_7 x s2) d10_linkCost_11 ?_
  refine j_iload_n 1 rfl d10_linkCost_14 ?_
  refine j_iload_n 2 rfl d10_linkCost_15 ?_
  refine j_callVi (c0_priceOfLink x n a1 a2 s2) lv_X10_208 (cV_rc_4 x s2) ⟨Nat.le_of_ble_eq_true rfl, Nat.le_of_ble_eq_true rfl⟩ d10_linkCost_16 rfl (Nat.le_of_ble_eq_true rfl) (fun r4 s3 => ?_)
  exact jx_ireturn (ej_finup 1 6 (ej_finup 1 6 hq)) (Nat.le_of_ble_eq_true rfl) (Nat.le_of_ble_eq_true rfl) d10_linkCost_19
theorem c10_linkCost (x : cw_T) (n : Nat) (a1 : Int32) (a2 : Int32) (σ : ej_S) : ∀ z, m10_linkCost n a1 a2 σ = some z → ∀ l : Launch, l.stackTraces = false → ej_Cx l (cV x) i10_linkCost yX10_linkCost (some .int) [.ref (cw_a x 0), .int a1, .int a2] σ 2 12 (ej_xg ej_fi z) := fun z h l hl => ej_conX_of hl pn_X10 rfl (Nat.le_of_ble_eq_true rfl) rfl h (fun F hq => j10_linkCost x n a1 a2 σ hq)

noncomputable def m10_load_63 (n : Nat) (y8 : Int32) (y9 : Int32) (σ : ej_S) : Option ((Int32 × ej_S) ⊕ (Nat × ej_S)) := ej_bv (m7_clear n 0 σ) fun s10 => (if y9 = 0 then (some (.inr (2, s10))) else ej_ck y8 4 ((some (.inl (gA s10 10 y8.toNatClampNeg, s10)))))
set_option maxRecDepth 20000 in
set_option maxHeartbeats 2000000 in
theorem j10_load_63 (x : cw_T) (n : Nat) {F : ej_F} {r0 : (Int32 × ej_S) ⊕ (Nat × ej_S)} (hq : ej_finX (cV x) F (some .int) (ej_xg ej_fi r0) 0 0 1 6) (y8 : Int32) (y9 : Int32) (σ : ej_S) : ej_J (cV x) F i10_load r0 σ 63 [(0, .ref (cw_a x 0)), (1, .int y8), (2, .int y9)] [] (m10_load_63 n y8 y9 σ) := by
  unfold m10_load_63
  refine j_aload_n 0 rfl d10_load_63 ?_
  refine j_get fl_X10_14 (cV_g_0_0 x σ) d10_load_64 ?_
  refine j_callVv (c7_clear x n 0 (Nat.le_of_ble_eq_true rfl) σ) lv_X10_118 (cV_rc_t x σ 0 (Nat.le_of_ble_eq_true rfl)) ⟨Nat.le_of_ble_eq_true rfl, Nat.le_of_ble_eq_true rfl⟩ d10_load_67 rfl (Nat.le_of_ble_eq_true rfl) (fun s10 => ?_)
  refine j_iload_n 2 rfl d10_load_70 ?_
  refine j_if_ne d10_load_71 ?_ ?_
  · refine j_aload_n 0 rfl d10_load_84 ?_
    refine j_get fl_X10_25 (cV_g_0_3 x s10) d10_load_85 ?_
    refine j_iload_n 1 rfl d10_load_88 ?_
    refine j_iald (cV_a_30 x s10) d10_load_89 ?_
    exact jx_ireturn hq (Nat.le_of_ble_eq_true rfl) (Nat.le_of_ble_eq_true rfl) d10_load_90
  · exact jx_throw hq (Nat.le_of_ble_eq_true rfl) (Nat.le_of_ble_eq_true rfl) rfl th_2 sx_134 (Nat.le_of_ble_eq_true rfl) (Nat.le_of_ble_eq_true rfl) (Nat.le_of_ble_eq_true rfl) d10_load_74.1 d10_load_77.1 d10_load_78.1 d10_load_80.1 d10_load_83
noncomputable def m10_load (n : Nat) (a1 : Int32) (σ : ej_S) : Option ((Int32 × ej_S) ⊕ (Nat × ej_S)) := ej_bi (m10_isFile n a1 σ) fun r2 s1 => (if r2 = 0 then ej_bv (m7_clear n 0 s1) fun s13 => (some (.inr (3, s13))) else ej_bv (m1_clear n s1) fun s3 => ej_bi (m10_drawMap n a1 s3) fun r5 s4 => (if r5 = 0 then ej_bi (m10_drawMap n (-1) s4) fun r7 s6 => (m10_load_63 n a1 r5 s6) else ej_ck a1 4 (ej_bv (m7_become n (2 + a1.toNatClampNeg) 0 s4) fun s12 => (m10_load_63 n a1 r5 s12))))
set_option maxRecDepth 20000 in
set_option maxHeartbeats 2000000 in
theorem j10_load (x : cw_T) (n : Nat) (a1 : Int32) (σ : ej_S) {F : ej_F} {r0 : (Int32 × ej_S) ⊕ (Nat × ej_S)} (hq : ej_finX (cV x) F (some .int) (ej_xg ej_fi r0) 0 0 1 6) : ej_J (cV x) F i10_load r0 σ 0 [(0, .ref (cw_a x 0)), (1, .int a1)] [] (m10_load n a1 σ) := by
  unfold m10_load
  refine j_iload_n 1 rfl d10_load_0 ?_
  refine j_callSi (c10_isFile x n a1 σ) ls_X10_114 ⟨Nat.le_of_ble_eq_true rfl, Nat.le_of_ble_eq_true rfl⟩ d10_load_1 rfl (Nat.le_of_ble_eq_true rfl) (fun r2 s1 => ?_)
  refine j_if_ne d10_load_4 ?_ ?_
  · refine j_aload_n 0 rfl d10_load_24 ?_
    refine j_get fl_X10_32 (cV_g_0_4 x s1) d10_load_25 ?_
    refine j_callVv (c1_clear x n s1) lv_X10_126 (cV_rc_1 x s1) ⟨Nat.le_of_ble_eq_true rfl, Nat.le_of_ble_eq_true rfl⟩ d10_load_28 rfl (Nat.le_of_ble_eq_true rfl) (fun s3 => ?_)
    refine j_aload_n 0 rfl d10_load_31 ?_
    refine j_iload_n 1 rfl d10_load_32 ?_
    refine j_callVi (c10_drawMap x n a1 s3) lv_X10_127 (cV_rc_0 x s3) ⟨Nat.le_of_ble_eq_true rfl, Nat.le_of_ble_eq_true rfl⟩ d10_load_33 rfl (Nat.le_of_ble_eq_true rfl) (fun r5 s4 => ?_)
    refine j_istore_n (i := 2) (L' := [(2, .int r5), (0, .ref (cw_a x 0)), (1, .int a1)]) d10_load_36 rfl (Nat.le_of_ble_eq_true rfl) rfl ?_
    refine j_iload_n 0 rfl d10_load_37 ?_
    refine j_if_eq d10_load_38 ?_ ?_
    · refine j_aload_n 1 rfl d10_load_57 ?_
      refine j_iconst d10_load_58 ejc_m1 ?_
      refine j_callVi (c10_drawMap x n (-1) s4) lv_X10_127 (cV_rc_0 x s4) ⟨Nat.le_of_ble_eq_true rfl, Nat.le_of_ble_eq_true rfl⟩ d10_load_59 rfl (Nat.le_of_ble_eq_true rfl) (fun r7 s6 => ?_)
      refine j_pop d10_load_62 rfl ?_
      exact j_sub [1, 2, 0] rfl (j10_load_63 x n hq a1 r5 s6)
    · refine j_aload_n 1 rfl d10_load_41 ?_
      refine j_get fl_X10_21 (cV_g_0_2 x s4) d10_load_42 ?_
      refine j_iload_n 2 rfl d10_load_45 ?_
      refine j_aaldF x d10_load_46 (fun h11 => ?_)
      refine j_aload_n 1 rfl d10_load_47 ?_
      refine j_get fl_X10_14 (cV_g_0_0 x s4) d10_load_48 ?_
      refine j_callVv (c7_become x n (2 + a1.toNatClampNeg) (by omega) 0 (Nat.le_of_ble_eq_true rfl) s4) lv_X10_130 (cV_rc_t x s4 (2 + a1.toNatClampNeg) (by omega)) ⟨Nat.le_of_ble_eq_true rfl, Nat.le_of_ble_eq_true rfl⟩ d10_load_51 rfl (Nat.le_of_ble_eq_true rfl) (fun s12 => ?_)
      refine j_goto d10_load_54 ?_
      exact j_sub [1, 2, 0] rfl (j10_load_63 x n hq a1 r5 s12)
  · refine j_aload_n 0 rfl d10_load_7 ?_
    refine j_get fl_X10_14 (cV_g_0_0 x s1) d10_load_8 ?_
    refine j_callVv (c7_clear x n 0 (Nat.le_of_ble_eq_true rfl) s1) lv_X10_118 (cV_rc_t x s1 0 (Nat.le_of_ble_eq_true rfl)) ⟨Nat.le_of_ble_eq_true rfl, Nat.le_of_ble_eq_true rfl⟩ d10_load_11 rfl (Nat.le_of_ble_eq_true rfl) (fun s13 => ?_)
    exact jx_throw hq (Nat.le_of_ble_eq_true rfl) (Nat.le_of_ble_eq_true rfl) rfl th_3 sx_123 (Nat.le_of_ble_eq_true rfl) (Nat.le_of_ble_eq_true rfl) (Nat.le_of_ble_eq_true rfl) d10_load_14.1 d10_load_17.1 d10_load_18.1 d10_load_20.1 d10_load_23
theorem c10_load (x : cw_T) (n : Nat) (a1 : Int32) (σ : ej_S) : ∀ z, m10_load n a1 σ = some z → ∀ l : Launch, l.stackTraces = false → ej_Cx l (cV x) i10_load yX10_load (some .int) [.ref (cw_a x 0), .int a1] σ 1 6 (ej_xg ej_fi z) := fun z h l hl => ej_conX_of hl pn_X10 rfl (Nat.le_of_ble_eq_true rfl) rfl h (fun F hq => j10_load x n a1 σ hq)

noncomputable def m10_memberCost (n : Nat) (a1 : Int32) (a2 : Int32) (σ : ej_S) : Option ((Int32 × ej_S) ⊕ (Nat × ej_S)) := ej_bxv (m10_needNode n a1 σ) fun s1 => ej_bxv (m10_needNode n a2 s1) fun s2 => ej_bi (m0_priceOfMember n a1 a2 s2) fun r4 s3 => (some (.inl (r4, s3)))
set_option maxRecDepth 20000 in
set_option maxHeartbeats 2000000 in
theorem j10_memberCost (x : cw_T) (n : Nat) (a1 : Int32) (a2 : Int32) (σ : ej_S) {F : ej_F} {r0 : (Int32 × ej_S) ⊕ (Nat × ej_S)} (hq : ej_finX (cV x) F (some .int) (ej_xg ej_fi r0) 0 0 2 12) : ej_J (cV x) F i10_memberCost r0 σ 0 [(0, .ref (cw_a x 0)), (1, .int a1), (2, .int a2)] [] (m10_memberCost n a1 a2 σ) := by
  unfold m10_memberCost
  refine j_aload_n 0 rfl d10_memberCost_0 ?_
  refine j_iload_n 1 rfl d10_memberCost_1 ?_
  refine jx_callv (c10_needNode x n a1 σ) lv_X10_192 (cV_rc_0 x σ) ⟨Nat.le_of_ble_eq_true rfl, Nat.le_of_ble_eq_true rfl⟩ d10_memberCost_2 rfl (Nat.le_of_ble_eq_true rfl) hq (Nat.le_of_ble_eq_true rfl) (Nat.le_of_ble_eq_true rfl) (fun s1 => ?_)
  refine j_aload_n 0 rfl d10_memberCost_5 ?_
  refine j_iload_n 2 rfl d10_memberCost_6 ?_
  refine jx_callv (c10_needNode x n a2 s1) lv_X10_192 (cV_rc_0 x s1) ⟨Nat.le_of_ble_eq_true rfl, Nat.le_of_ble_eq_true rfl⟩ d10_memberCost_7 rfl (Nat.le_of_ble_eq_true rfl) (ej_finup 1 6 hq) (Nat.le_of_ble_eq_true rfl) (Nat.le_of_ble_eq_true rfl) (fun s2 => ?_)
  refine j_aload_n 0 rfl d10_memberCost_10 ?_
  refine j_get fl_X10_55 (cV_g_0_7 x s2) d10_memberCost_11 ?_
  refine j_iload_n 1 rfl d10_memberCost_14 ?_
  refine j_iload_n 2 rfl d10_memberCost_15 ?_
  refine j_callVi (c0_priceOfMember x n a1 a2 s2) lv_X10_212 (cV_rc_4 x s2) ⟨Nat.le_of_ble_eq_true rfl, Nat.le_of_ble_eq_true rfl⟩ d10_memberCost_16 rfl (Nat.le_of_ble_eq_true rfl) (fun r4 s3 => ?_)
  exact jx_ireturn (ej_finup 1 6 (ej_finup 1 6 hq)) (Nat.le_of_ble_eq_true rfl) (Nat.le_of_ble_eq_true rfl) d10_memberCost_19
theorem c10_memberCost (x : cw_T) (n : Nat) (a1 : Int32) (a2 : Int32) (σ : ej_S) : ∀ z, m10_memberCost n a1 a2 σ = some z → ∀ l : Launch, l.stackTraces = false → ej_Cx l (cV x) i10_memberCost yX10_memberCost (some .int) [.ref (cw_a x 0), .int a1, .int a2] σ 2 12 (ej_xg ej_fi z) := fun z h l hl => ej_conX_of hl pn_X10 rfl (Nat.le_of_ble_eq_true rfl) rfl h (fun F hq => j10_memberCost x n a1 a2 σ hq)

noncomputable def m10_name (n : Nat) (a1 : Int32) (σ : ej_S) : Option ((Int32 × ej_S) ⊕ (Nat × ej_S)) := ej_bxv (m10_needNode n a1 σ) fun s1 => ej_bv (m7_clear n 1 s1) fun s2 => ej_bl (m0_nameOf n a1 s2) fun r4 s3 => ej_bv (m7_appendName n 1 r4 s3) fun s5 => ej_bi (m7_length n 1 s5) fun r7 s6 => (some (.inl (r7, s6)))
set_option maxRecDepth 20000 in
set_option maxHeartbeats 2000000 in
theorem j10_name (x : cw_T) (n : Nat) (a1 : Int32) (σ : ej_S) {F : ej_F} {r0 : (Int32 × ej_S) ⊕ (Nat × ej_S)} (hq : ej_finX (cV x) F (some .int) (ej_xg ej_fi r0) 0 0 1 6) : ej_J (cV x) F i10_name r0 σ 0 [(0, .ref (cw_a x 0)), (1, .int a1)] [] (m10_name n a1 σ) := by
  unfold m10_name
  refine j_aload_n 0 rfl d10_name_0 ?_
  refine j_iload_n 1 rfl d10_name_1 ?_
  refine jx_callv (c10_needNode x n a1 σ) lv_X10_192 (cV_rc_0 x σ) ⟨Nat.le_of_ble_eq_true rfl, Nat.le_of_ble_eq_true rfl⟩ d10_name_2 rfl (Nat.le_of_ble_eq_true rfl) hq (Nat.le_of_ble_eq_true rfl) (Nat.le_of_ble_eq_true rfl) (fun s1 => ?_)
  refine j_aload_n 0 rfl d10_name_5 ?_
  refine j_get fl_X10_18 (cV_g_0_1 x s1) d10_name_6 ?_
  refine j_callVv (c7_clear x n 1 (Nat.le_of_ble_eq_true rfl) s1) lv_X10_118 (cV_rc_t x s1 1 (Nat.le_of_ble_eq_true rfl)) ⟨Nat.le_of_ble_eq_true rfl, Nat.le_of_ble_eq_true rfl⟩ d10_name_9 rfl (Nat.le_of_ble_eq_true rfl) (fun s2 => ?_)
  refine j_aload_n 0 rfl d10_name_12 ?_
  refine j_get fl_X10_18 (cV_g_0_1 x s2) d10_name_13 ?_
  refine j_aload_n 0 rfl d10_name_16 ?_
  refine j_get fl_X10_55 (cV_g_0_7 x s2) d10_name_17 ?_
  refine j_iload_n 1 rfl d10_name_20 ?_
  refine j_callVl (c0_nameOf x n a1 s2) lv_X10_195 (cV_rc_4 x s2) ⟨Nat.le_of_ble_eq_true rfl, Nat.le_of_ble_eq_true rfl⟩ d10_name_21 rfl (Nat.le_of_ble_eq_true rfl) (fun r4 s3 => ?_)
  refine j_callVv (c7_appendName x n 1 (Nat.le_of_ble_eq_true rfl) r4 s3) lv_X10_199 (cV_rc_t x s3 1 (Nat.le_of_ble_eq_true rfl)) ⟨Nat.le_of_ble_eq_true rfl, Nat.le_of_ble_eq_true rfl⟩ d10_name_24 rfl (Nat.le_of_ble_eq_true rfl) (fun s5 => ?_)
  refine j_aload_n 0 rfl d10_name_27 ?_
  refine j_get fl_X10_18 (cV_g_0_1 x s5) d10_name_28 ?_
  refine j_callVi (c7_length x n 1 (Nat.le_of_ble_eq_true rfl) s5) lv_X10_102 (cV_rc_t x s5 1 (Nat.le_of_ble_eq_true rfl)) ⟨Nat.le_of_ble_eq_true rfl, Nat.le_of_ble_eq_true rfl⟩ d10_name_31 rfl (Nat.le_of_ble_eq_true rfl) (fun r7 s6 => ?_)
  exact jx_ireturn (ej_finup 1 6 hq) (Nat.le_of_ble_eq_true rfl) (Nat.le_of_ble_eq_true rfl) d10_name_34
theorem c10_name (x : cw_T) (n : Nat) (a1 : Int32) (σ : ej_S) : ∀ z, m10_name n a1 σ = some z → ∀ l : Launch, l.stackTraces = false → ej_Cx l (cV x) i10_name yX10_name (some .int) [.ref (cw_a x 0), .int a1] σ 1 6 (ej_xg ej_fi z) := fun z h l hl => ej_conX_of hl pn_X10 rfl (Nat.le_of_ble_eq_true rfl) rfl h (fun F hq => j10_name x n a1 σ hq)

noncomputable def m10_nodeAt (n : Nat) (a1 : Int32) (a2 : Int32) (σ : ej_S) : Option ((Int32 × ej_S) ⊕ (Nat × ej_S)) := ej_bxv (m10_needPlace n a1 a2 σ) fun s1 => ej_bi (m9_keyOn n a2 s1) fun r3 s2 => (some (.inl (r3 / 4, s2)))
set_option maxRecDepth 20000 in
set_option maxHeartbeats 2000000 in
theorem j10_nodeAt (x : cw_T) (n : Nat) (a1 : Int32) (a2 : Int32) (σ : ej_S) {F : ej_F} {r0 : (Int32 × ej_S) ⊕ (Nat × ej_S)} (hq : ej_finX (cV x) F (some .int) (ej_xg ej_fi r0) 0 0 2 12) : ej_J (cV x) F i10_nodeAt r0 σ 0 [(0, .ref (cw_a x 0)), (1, .int a1), (2, .int a2)] [] (m10_nodeAt n a1 a2 σ) := by
  unfold m10_nodeAt
  refine j_aload_n 0 rfl d10_nodeAt_0 ?_
  refine j_iload_n 1 rfl d10_nodeAt_1 ?_
  refine j_iload_n 2 rfl d10_nodeAt_2 ?_
  refine jx_callv (c10_needPlace x n a1 a2 σ) lv_X10_232 (cV_rc_0 x σ) ⟨Nat.le_of_ble_eq_true rfl, Nat.le_of_ble_eq_true rfl⟩ d10_nodeAt_3 rfl (Nat.le_of_ble_eq_true rfl) hq (Nat.le_of_ble_eq_true rfl) (Nat.le_of_ble_eq_true rfl) (fun s1 => ?_)
  refine j_aload_n 0 rfl d10_nodeAt_6 ?_
  refine j_get fl_X10_82 (cV_g_0_10 x s1) d10_nodeAt_7 ?_
  refine j_iload_n 2 rfl d10_nodeAt_10 ?_
  refine j_callVi (c9_keyOn x n a2 s1) lv_X10_236 (cV_rc_7 x s1) ⟨Nat.le_of_ble_eq_true rfl, Nat.le_of_ble_eq_true rfl⟩ d10_nodeAt_11 rfl (Nat.le_of_ble_eq_true rfl) (fun r3 s2 => ?_)
  refine j_iconst d10_nodeAt_14 ejc_4 ?_
  refine j_idiv0 (by decide) d10_nodeAt_15 ?_
  exact jx_ireturn (ej_finup 2 12 hq) (Nat.le_of_ble_eq_true rfl) (Nat.le_of_ble_eq_true rfl) d10_nodeAt_16
theorem c10_nodeAt (x : cw_T) (n : Nat) (a1 : Int32) (a2 : Int32) (σ : ej_S) : ∀ z, m10_nodeAt n a1 a2 σ = some z → ∀ l : Launch, l.stackTraces = false → ej_Cx l (cV x) i10_nodeAt yX10_nodeAt (some .int) [.ref (cw_a x 0), .int a1, .int a2] σ 2 12 (ej_xg ej_fi z) := fun z h l hl => ej_conX_of hl pn_X10 rfl (Nat.le_of_ble_eq_true rfl) rfl h (fun F hq => j10_nodeAt x n a1 a2 σ hq)

noncomputable def m10_print (n : Nat) (a1 : Int32) (σ : ej_S) : Option ((Int32 × ej_S) ⊕ (Nat × ej_S)) := ej_bxv (m10_needNode n a1 σ) fun s1 => ej_bv (m9_find n s1) fun s2 => ej_bv (m2_writeRouteOf n a1 s2) fun s3 => ej_bi (m7_length n 1 s3) fun r5 s4 => (some (.inl (r5, s4)))
set_option maxRecDepth 20000 in
set_option maxHeartbeats 2000000 in
theorem j10_print (x : cw_T) (n : Nat) (a1 : Int32) (σ : ej_S) {F : ej_F} {r0 : (Int32 × ej_S) ⊕ (Nat × ej_S)} (hq : ej_finX (cV x) F (some .int) (ej_xg ej_fi r0) 0 0 1 6) : ej_J (cV x) F i10_print r0 σ 0 [(0, .ref (cw_a x 0)), (1, .int a1)] [] (m10_print n a1 σ) := by
  unfold m10_print
  refine j_aload_n 0 rfl d10_print_0 ?_
  refine j_iload_n 1 rfl d10_print_1 ?_
  refine jx_callv (c10_needNode x n a1 σ) lv_X10_192 (cV_rc_0 x σ) ⟨Nat.le_of_ble_eq_true rfl, Nat.le_of_ble_eq_true rfl⟩ d10_print_2 rfl (Nat.le_of_ble_eq_true rfl) hq (Nat.le_of_ble_eq_true rfl) (Nat.le_of_ble_eq_true rfl) (fun s1 => ?_)
  refine j_aload_n 0 rfl d10_print_5 ?_
  refine j_get fl_X10_82 (cV_g_0_10 x s1) d10_print_6 ?_
  refine j_callVv (c9_find x n s1) lv_X10_215 (cV_rc_7 x s1) ⟨Nat.le_of_ble_eq_true rfl, Nat.le_of_ble_eq_true rfl⟩ d10_print_9 rfl (Nat.le_of_ble_eq_true rfl) (fun s2 => ?_)
  refine j_aload_n 0 rfl d10_print_12 ?_
  refine j_get fl_X10_91 (cV_g_0_11 x s2) d10_print_13 ?_
  refine j_iload_n 1 rfl d10_print_16 ?_
  refine j_callVv (c2_writeRouteOf x n a1 s2) lv_X10_245 (cV_rc_8 x s2) ⟨Nat.le_of_ble_eq_true rfl, Nat.le_of_ble_eq_true rfl⟩ d10_print_17 rfl (Nat.le_of_ble_eq_true rfl) (fun s3 => ?_)
  refine j_aload_n 0 rfl d10_print_20 ?_
  refine j_get fl_X10_18 (cV_g_0_1 x s3) d10_print_21 ?_
  refine j_callVi (c7_length x n 1 (Nat.le_of_ble_eq_true rfl) s3) lv_X10_102 (cV_rc_t x s3 1 (Nat.le_of_ble_eq_true rfl)) ⟨Nat.le_of_ble_eq_true rfl, Nat.le_of_ble_eq_true rfl⟩ d10_print_24 rfl (Nat.le_of_ble_eq_true rfl) (fun r5 s4 => ?_)
  exact jx_ireturn (ej_finup 1 6 hq) (Nat.le_of_ble_eq_true rfl) (Nat.le_of_ble_eq_true rfl) d10_print_27
theorem c10_print (x : cw_T) (n : Nat) (a1 : Int32) (σ : ej_S) : ∀ z, m10_print n a1 σ = some z → ∀ l : Launch, l.stackTraces = false → ej_Cx l (cV x) i10_print yX10_print (some .int) [.ref (cw_a x 0), .int a1] σ 1 6 (ej_xg ej_fi z) := fun z h l hl => ej_conX_of hl pn_X10 rfl (Nat.le_of_ble_eq_true rfl) rfl h (fun F hq => j10_print x n a1 σ hq)

noncomputable def m10_setHome (n : Nat)  (σ : ej_S) : Option ((Int32 × ej_S) ⊕ (Nat × ej_S)) := ej_bl (m7_asName n 0 σ) fun r2 s1 => ej_bv (m7_clear n 0 s1) fun s3 => (if lg_cmp r2 0 = 0 then (some (.inr (1, s3))) else ej_bv (m9_beginAt n r2 s3) fun s4 => ej_bi (m9_homeNode n s4) fun r6 s5 => (some (.inl (r6, s5))))
set_option maxRecDepth 20000 in
set_option maxHeartbeats 2000000 in
theorem j10_setHome (x : cw_T) (n : Nat)  (σ : ej_S) {F : ej_F} {r0 : (Int32 × ej_S) ⊕ (Nat × ej_S)} (hq : ej_finX (cV x) F (some .int) (ej_xg ej_fi r0) 0 0 1 6) : ej_J (cV x) F i10_setHome r0 σ 0 [(0, .ref (cw_a x 0))] [] (m10_setHome n  σ) := by
  unfold m10_setHome
  refine j_aload_n 0 rfl d10_setHome_0 ?_
  refine j_get fl_X10_14 (cV_g_0_0 x σ) d10_setHome_1 ?_
  refine j_callVl (c7_asName x n 0 (Nat.le_of_ble_eq_true rfl) σ) lv_X10_173 (cV_rc_t x σ 0 (Nat.le_of_ble_eq_true rfl)) ⟨Nat.le_of_ble_eq_true rfl, Nat.le_of_ble_eq_true rfl⟩ d10_setHome_4 rfl (Nat.le_of_ble_eq_true rfl) (fun r2 s1 => ?_)
  refine j_lstore_n (i := 1) (L' := [(1, .long r2), (0, .ref (cw_a x 0))]) d10_setHome_7 rfl (Nat.le_of_ble_eq_true rfl) rfl ?_
  refine j_aload_n 1 rfl d10_setHome_8 ?_
  refine j_get fl_X10_14 (cV_g_0_0 x s1) d10_setHome_9 ?_
  refine j_callVv (c7_clear x n 0 (Nat.le_of_ble_eq_true rfl) s1) lv_X10_118 (cV_rc_t x s1 0 (Nat.le_of_ble_eq_true rfl)) ⟨Nat.le_of_ble_eq_true rfl, Nat.le_of_ble_eq_true rfl⟩ d10_setHome_12 rfl (Nat.le_of_ble_eq_true rfl) (fun s3 => ?_)
  refine j_lload_n 0 rfl d10_setHome_15 ?_
  refine j_lconst d10_setHome_16 ejl_0 ?_
  refine j_lcmp d10_setHome_17 ?_
  refine j_if_ne d10_setHome_18 ?_ ?_
  · refine j_aload_n 1 rfl d10_setHome_31 ?_
    refine j_get fl_X10_82 (cV_g_0_10 x s3) d10_setHome_32 ?_
    refine j_lload_n 0 rfl d10_setHome_35 ?_
    refine j_callVv (c9_beginAt x n r2 s3) lv_X10_179 (cV_rc_7 x s3) ⟨Nat.le_of_ble_eq_true rfl, Nat.le_of_ble_eq_true rfl⟩ d10_setHome_36 rfl (Nat.le_of_ble_eq_true rfl) (fun s4 => ?_)
    refine j_aload_n 1 rfl d10_setHome_39 ?_
    refine j_get fl_X10_82 (cV_g_0_10 x s4) d10_setHome_40 ?_
    refine j_callVi (c9_homeNode x n s4) lv_X10_182 (cV_rc_7 x s4) ⟨Nat.le_of_ble_eq_true rfl, Nat.le_of_ble_eq_true rfl⟩ d10_setHome_43 rfl (Nat.le_of_ble_eq_true rfl) (fun r6 s5 => ?_)
    exact jx_ireturn hq (Nat.le_of_ble_eq_true rfl) (Nat.le_of_ble_eq_true rfl) d10_setHome_46
  · exact jx_throw hq (Nat.le_of_ble_eq_true rfl) (Nat.le_of_ble_eq_true rfl) rfl th_1 sx_177 (Nat.le_of_ble_eq_true rfl) (Nat.le_of_ble_eq_true rfl) (Nat.le_of_ble_eq_true rfl) d10_setHome_21.1 d10_setHome_24.1 d10_setHome_25.1 d10_setHome_27.1 d10_setHome_30
theorem c10_setHome (x : cw_T) (n : Nat)  (σ : ej_S) : ∀ z, m10_setHome n  σ = some z → ∀ l : Launch, l.stackTraces = false → ej_Cx l (cV x) i10_setHome yX10_setHome (some .int) [.ref (cw_a x 0)] σ 1 6 (ej_xg ej_fi z) := fun z h l hl => ej_conX_of hl pn_X10 rfl (Nat.le_of_ble_eq_true rfl) rfl h (fun F hq => j10_setHome x n  σ hq)

noncomputable def m10_state (n : Nat) (a1 : Int32) (σ : ej_S) : Option ((Int32 × ej_S) ⊕ (Nat × ej_S)) := ej_bxv (m10_needNode n a1 σ) fun s1 => ej_bv (m9_find n s1) fun s2 => ej_bi (m9_routeKey n a1 s2) fun r4 s3 => (if r4 = (-1) then (some (.inl ((-1), s3))) else (some (.inl (r4 - r4 / 4 * 4, s3))))
set_option maxRecDepth 20000 in
set_option maxHeartbeats 2000000 in
theorem j10_state (x : cw_T) (n : Nat) (a1 : Int32) (σ : ej_S) {F : ej_F} {r0 : (Int32 × ej_S) ⊕ (Nat × ej_S)} (hq : ej_finX (cV x) F (some .int) (ej_xg ej_fi r0) 0 0 1 6) : ej_J (cV x) F i10_state r0 σ 0 [(0, .ref (cw_a x 0)), (1, .int a1)] [] (m10_state n a1 σ) := by
  unfold m10_state
  refine j_aload_n 0 rfl d10_state_0 ?_
  refine j_iload_n 1 rfl d10_state_1 ?_
  refine jx_callv (c10_needNode x n a1 σ) lv_X10_192 (cV_rc_0 x σ) ⟨Nat.le_of_ble_eq_true rfl, Nat.le_of_ble_eq_true rfl⟩ d10_state_2 rfl (Nat.le_of_ble_eq_true rfl) hq (Nat.le_of_ble_eq_true rfl) (Nat.le_of_ble_eq_true rfl) (fun s1 => ?_)
  refine j_aload_n 0 rfl d10_state_5 ?_
  refine j_get fl_X10_82 (cV_g_0_10 x s1) d10_state_6 ?_
  refine j_callVv (c9_find x n s1) lv_X10_215 (cV_rc_7 x s1) ⟨Nat.le_of_ble_eq_true rfl, Nat.le_of_ble_eq_true rfl⟩ d10_state_9 rfl (Nat.le_of_ble_eq_true rfl) (fun s2 => ?_)
  refine j_aload_n 0 rfl d10_state_12 ?_
  refine j_get fl_X10_82 (cV_g_0_10 x s2) d10_state_13 ?_
  refine j_iload_n 1 rfl d10_state_16 ?_
  refine j_callVi (c9_routeKey x n a1 s2) lv_X10_217 (cV_rc_7 x s2) ⟨Nat.le_of_ble_eq_true rfl, Nat.le_of_ble_eq_true rfl⟩ d10_state_17 rfl (Nat.le_of_ble_eq_true rfl) (fun r4 s3 => ?_)
  refine j_istore_n (i := 2) (L' := [(2, .int r4), (0, .ref (cw_a x 0)), (1, .int a1)]) d10_state_20 rfl (Nat.le_of_ble_eq_true rfl) rfl ?_
  refine j_iload_n 0 rfl d10_state_21 ?_
  refine j_iconst d10_state_22 ejc_m1 ?_
  refine j_icmp_ne d10_state_23 ?_ ?_
  · refine j_iload_n 0 rfl d10_state_30 ?_
    refine j_iconst d10_state_31 ejc_4 ?_
    refine j_irem0 (by decide) d10_state_32 ?_
    exact jx_ireturn (ej_finup 1 6 hq) (Nat.le_of_ble_eq_true rfl) (Nat.le_of_ble_eq_true rfl) d10_state_33
  · refine j_iconst d10_state_26 ejc_m1 ?_
    refine j_goto d10_state_27 ?_
    exact jx_ireturn (ej_finup 1 6 hq) (Nat.le_of_ble_eq_true rfl) (Nat.le_of_ble_eq_true rfl) d10_state_33
theorem c10_state (x : cw_T) (n : Nat) (a1 : Int32) (σ : ej_S) : ∀ z, m10_state n a1 σ = some z → ∀ l : Launch, l.stackTraces = false → ej_Cx l (cV x) i10_state yX10_state (some .int) [.ref (cw_a x 0), .int a1] σ 1 6 (ej_xg ej_fi z) := fun z h l hl => ej_conX_of hl pn_X10 rfl (Nat.le_of_ble_eq_true rfl) rfl h (fun F hq => j10_state x n a1 σ hq)

noncomputable def m10_stepAt (n : Nat) (a1 : Int32) (a2 : Int32) (σ : ej_S) : Option ((Int32 × ej_S) ⊕ (Nat × ej_S)) := ej_bxv (m10_needPlace n a1 a2 σ) fun s1 => ej_bi (m9_keyOn n a2 s1) fun r3 s2 => ej_bi (m9_kindOfKey n r3 s2) fun r5 s4 => (some (.inl (r5, s4)))
set_option maxRecDepth 20000 in
set_option maxHeartbeats 2000000 in
theorem j10_stepAt (x : cw_T) (n : Nat) (a1 : Int32) (a2 : Int32) (σ : ej_S) {F : ej_F} {r0 : (Int32 × ej_S) ⊕ (Nat × ej_S)} (hq : ej_finX (cV x) F (some .int) (ej_xg ej_fi r0) 0 0 2 12) : ej_J (cV x) F i10_stepAt r0 σ 0 [(0, .ref (cw_a x 0)), (1, .int a1), (2, .int a2)] [] (m10_stepAt n a1 a2 σ) := by
  unfold m10_stepAt
  refine j_aload_n 0 rfl d10_stepAt_0 ?_
  refine j_iload_n 1 rfl d10_stepAt_1 ?_
  refine j_iload_n 2 rfl d10_stepAt_2 ?_
  refine jx_callv (c10_needPlace x n a1 a2 σ) lv_X10_232 (cV_rc_0 x σ) ⟨Nat.le_of_ble_eq_true rfl, Nat.le_of_ble_eq_true rfl⟩ d10_stepAt_3 rfl (Nat.le_of_ble_eq_true rfl) hq (Nat.le_of_ble_eq_true rfl) (Nat.le_of_ble_eq_true rfl) (fun s1 => ?_)
  refine j_aload_n 0 rfl d10_stepAt_6 ?_
  refine j_get fl_X10_82 (cV_g_0_10 x s1) d10_stepAt_7 ?_
  refine j_aload_n 0 rfl d10_stepAt_10 ?_
  refine j_get fl_X10_82 (cV_g_0_10 x s1) d10_stepAt_11 ?_
  refine j_iload_n 2 rfl d10_stepAt_14 ?_
  refine j_callVi (c9_keyOn x n a2 s1) lv_X10_236 (cV_rc_7 x s1) ⟨Nat.le_of_ble_eq_true rfl, Nat.le_of_ble_eq_true rfl⟩ d10_stepAt_15 rfl (Nat.le_of_ble_eq_true rfl) (fun r3 s2 => ?_)
  refine j_callVi (c9_kindOfKey x n r3 s2) lv_X10_239 (cV_rc_7 x s2) ⟨Nat.le_of_ble_eq_true rfl, Nat.le_of_ble_eq_true rfl⟩ d10_stepAt_18 rfl (Nat.le_of_ble_eq_true rfl) (fun r5 s4 => ?_)
  exact jx_ireturn (ej_finup 2 12 hq) (Nat.le_of_ble_eq_true rfl) (Nat.le_of_ble_eq_true rfl) d10_stepAt_21
theorem c10_stepAt (x : cw_T) (n : Nat) (a1 : Int32) (a2 : Int32) (σ : ej_S) : ∀ z, m10_stepAt n a1 a2 σ = some z → ∀ l : Launch, l.stackTraces = false → ej_Cx l (cV x) i10_stepAt yX10_stepAt (some .int) [.ref (cw_a x 0), .int a1, .int a2] σ 2 12 (ej_xg ej_fi z) := fun z h l hl => ej_conX_of hl pn_X10 rfl (Nat.le_of_ble_eq_true rfl) rfl h (fun F hq => j10_stepAt x n a1 a2 σ hq)

noncomputable def m10_steps (n : Nat) (a1 : Int32) (σ : ej_S) : Option ((Int32 × ej_S) ⊕ (Nat × ej_S)) := ej_bxv (m10_needNode n a1 σ) fun s1 => ej_bv (m9_find n s1) fun s2 => ej_bi (m9_routeKey n a1 s2) fun r4 s3 => ej_bi (m9_lengthOfKey n r4 s3) fun r6 s5 => (some (.inl (r6, s5)))
set_option maxRecDepth 20000 in
set_option maxHeartbeats 2000000 in
theorem j10_steps (x : cw_T) (n : Nat) (a1 : Int32) (σ : ej_S) {F : ej_F} {r0 : (Int32 × ej_S) ⊕ (Nat × ej_S)} (hq : ej_finX (cV x) F (some .int) (ej_xg ej_fi r0) 0 0 1 6) : ej_J (cV x) F i10_steps r0 σ 0 [(0, .ref (cw_a x 0)), (1, .int a1)] [] (m10_steps n a1 σ) := by
  unfold m10_steps
  refine j_aload_n 0 rfl d10_steps_0 ?_
  refine j_iload_n 1 rfl d10_steps_1 ?_
  refine jx_callv (c10_needNode x n a1 σ) lv_X10_192 (cV_rc_0 x σ) ⟨Nat.le_of_ble_eq_true rfl, Nat.le_of_ble_eq_true rfl⟩ d10_steps_2 rfl (Nat.le_of_ble_eq_true rfl) hq (Nat.le_of_ble_eq_true rfl) (Nat.le_of_ble_eq_true rfl) (fun s1 => ?_)
  refine j_aload_n 0 rfl d10_steps_5 ?_
  refine j_get fl_X10_82 (cV_g_0_10 x s1) d10_steps_6 ?_
  refine j_callVv (c9_find x n s1) lv_X10_215 (cV_rc_7 x s1) ⟨Nat.le_of_ble_eq_true rfl, Nat.le_of_ble_eq_true rfl⟩ d10_steps_9 rfl (Nat.le_of_ble_eq_true rfl) (fun s2 => ?_)
  refine j_aload_n 0 rfl d10_steps_12 ?_
  refine j_get fl_X10_82 (cV_g_0_10 x s2) d10_steps_13 ?_
  refine j_aload_n 0 rfl d10_steps_16 ?_
  refine j_get fl_X10_82 (cV_g_0_10 x s2) d10_steps_17 ?_
  refine j_iload_n 1 rfl d10_steps_20 ?_
  refine j_callVi (c9_routeKey x n a1 s2) lv_X10_217 (cV_rc_7 x s2) ⟨Nat.le_of_ble_eq_true rfl, Nat.le_of_ble_eq_true rfl⟩ d10_steps_21 rfl (Nat.le_of_ble_eq_true rfl) (fun r4 s3 => ?_)
  refine j_callVi (c9_lengthOfKey x n r4 s3) lv_X10_229 (cV_rc_7 x s3) ⟨Nat.le_of_ble_eq_true rfl, Nat.le_of_ble_eq_true rfl⟩ d10_steps_24 rfl (Nat.le_of_ble_eq_true rfl) (fun r6 s5 => ?_)
  exact jx_ireturn (ej_finup 1 6 hq) (Nat.le_of_ble_eq_true rfl) (Nat.le_of_ble_eq_true rfl) d10_steps_27
theorem c10_steps (x : cw_T) (n : Nat) (a1 : Int32) (σ : ej_S) : ∀ z, m10_steps n a1 σ = some z → ∀ l : Launch, l.stackTraces = false → ej_Cx l (cV x) i10_steps yX10_steps (some .int) [.ref (cw_a x 0), .int a1] σ 1 6 (ej_xg ej_fi z) := fun z h l hl => ej_conX_of hl pn_X10 rfl (Nat.le_of_ble_eq_true rfl) rfl h (fun F hq => j10_steps x n a1 σ hq)

noncomputable def m10_value_108 (n : Nat)  (σ : ej_S) : Option ((Int32 × ej_S) ⊕ (Nat × ej_S)) := ej_bi (m1_code n σ) fun r11 s10 => (if r11 = 0 then ej_bi (m6_result n s10) fun r13 s12 => (some (.inl (r13, s12))) else (some (.inr (2, s10))))
set_option maxRecDepth 20000 in
set_option maxHeartbeats 2000000 in
theorem j10_value_108 (x : cw_T) (n : Nat) {F : ej_F} {r0 : (Int32 × ej_S) ⊕ (Nat × ej_S)} (hq : ej_finX (cV x) F (some .int) (ej_xg ej_fi r0) 0 0 1 6)  (σ : ej_S) : ej_J (cV x) F i10_value r0 σ 108 [(0, .ref (cw_a x 0))] [] (m10_value_108 n  σ) := by
  unfold m10_value_108
  refine j_aload_n 0 rfl d10_value_108 ?_
  refine j_get fl_X10_32 (cV_g_0_4 x σ) d10_value_109 ?_
  refine j_callVi (c1_code x n σ) lv_X10_162 (cV_rc_1 x σ) ⟨Nat.le_of_ble_eq_true rfl, Nat.le_of_ble_eq_true rfl⟩ d10_value_112 rfl (Nat.le_of_ble_eq_true rfl) (fun r11 s10 => ?_)
  refine j_if_eq d10_value_115 ?_ ?_
  · refine j_aload_n 0 rfl d10_value_128 ?_
    refine j_get fl_X10_48 (cV_g_0_6 x s10) d10_value_129 ?_
    refine j_callVi (c6_result x n s10) lv_X10_167 (cV_rc_3 x s10) ⟨Nat.le_of_ble_eq_true rfl, Nat.le_of_ble_eq_true rfl⟩ d10_value_132 rfl (Nat.le_of_ble_eq_true rfl) (fun r13 s12 => ?_)
    exact jx_ireturn hq (Nat.le_of_ble_eq_true rfl) (Nat.le_of_ble_eq_true rfl) d10_value_135
  · exact jx_throw hq (Nat.le_of_ble_eq_true rfl) (Nat.le_of_ble_eq_true rfl) rfl th_2 sx_165 (Nat.le_of_ble_eq_true rfl) (Nat.le_of_ble_eq_true rfl) (Nat.le_of_ble_eq_true rfl) d10_value_118.1 d10_value_121.1 d10_value_122.1 d10_value_124.1 d10_value_127
noncomputable def m10_value (n : Nat)  (σ : ej_S) : Option ((Int32 × ej_S) ⊕ (Nat × ej_S)) := ej_bv (m1_clear n σ) fun s1 => ej_bv (m8_scan n 0 s1) fun s2 => ej_bv (m7_clear n 0 s2) fun s3 => ej_bi (m6_workOut n 0 s3) fun r5 s4 => (if r5 = 0 then ej_bi (m6_faultCode n s4) fun r21 s20 => ej_bi (m6_faultToken n s20) fun r23 s22 => ej_bi (m8_beginAt n r23 s22) fun r25 s24 => ej_bi (m1_tell n r21 r25 s24) fun r27 s26 => (m10_value_108 n s26) else ej_bi (m6_next n s4) fun r7 s6 => ej_bi (m8_sortAt n r7 s6) fun r9 s8 => (if r9 = 0 then (m10_value_108 n s8) else ej_bi (m6_next n s8) fun r15 s14 => ej_bi (m8_beginAt n r15 s14) fun r17 s16 => ej_bi (m1_tell n 1 r17 s16) fun r19 s18 => (m10_value_108 n s18)))
set_option maxRecDepth 20000 in
set_option maxHeartbeats 2000000 in
theorem j10_value (x : cw_T) (n : Nat)  (σ : ej_S) {F : ej_F} {r0 : (Int32 × ej_S) ⊕ (Nat × ej_S)} (hq : ej_finX (cV x) F (some .int) (ej_xg ej_fi r0) 0 0 1 6) : ej_J (cV x) F i10_value r0 σ 0 [(0, .ref (cw_a x 0))] [] (m10_value n  σ) := by
  unfold m10_value
  refine j_aload_n 0 rfl d10_value_0 ?_
  refine j_get fl_X10_32 (cV_g_0_4 x σ) d10_value_1 ?_
  refine j_callVv (c1_clear x n σ) lv_X10_126 (cV_rc_1 x σ) ⟨Nat.le_of_ble_eq_true rfl, Nat.le_of_ble_eq_true rfl⟩ d10_value_4 rfl (Nat.le_of_ble_eq_true rfl) (fun s1 => ?_)
  refine j_aload_n 0 rfl d10_value_7 ?_
  refine j_get fl_X10_39 (cV_g_0_5 x s1) d10_value_8 ?_
  refine j_aload_n 0 rfl d10_value_11 ?_
  refine j_get fl_X10_14 (cV_g_0_0 x s1) d10_value_12 ?_
  refine j_callVv (c8_scan x n 0 (Nat.le_of_ble_eq_true rfl) s1) lv_X10_136 (cV_rc_2 x s1) ⟨Nat.le_of_ble_eq_true rfl, Nat.le_of_ble_eq_true rfl⟩ d10_value_15 rfl (Nat.le_of_ble_eq_true rfl) (fun s2 => ?_)
  refine j_aload_n 0 rfl d10_value_18 ?_
  refine j_get fl_X10_14 (cV_g_0_0 x s2) d10_value_19 ?_
  refine j_callVv (c7_clear x n 0 (Nat.le_of_ble_eq_true rfl) s2) lv_X10_118 (cV_rc_t x s2 0 (Nat.le_of_ble_eq_true rfl)) ⟨Nat.le_of_ble_eq_true rfl, Nat.le_of_ble_eq_true rfl⟩ d10_value_22 rfl (Nat.le_of_ble_eq_true rfl) (fun s3 => ?_)
  refine j_aload_n 0 rfl d10_value_25 ?_
  refine j_get fl_X10_48 (cV_g_0_6 x s3) d10_value_26 ?_
  refine j_iconst d10_value_29 ejc_0 ?_
  refine j_callVi (c6_workOut x n 0 s3) lv_X10_139 (cV_rc_3 x s3) ⟨Nat.le_of_ble_eq_true rfl, Nat.le_of_ble_eq_true rfl⟩ d10_value_30 rfl (Nat.le_of_ble_eq_true rfl) (fun r5 s4 => ?_)
  refine j_if_ne d10_value_33 ?_ ?_
  · refine j_aload_n 0 rfl d10_value_68 ?_
    refine j_get fl_X10_39 (cV_g_0_5 x s4) d10_value_69 ?_
    refine j_aload_n 0 rfl d10_value_72 ?_
    refine j_get fl_X10_48 (cV_g_0_6 x s4) d10_value_73 ?_
    refine j_callVi (c6_next x n s4) lv_X10_156 (cV_rc_3 x s4) ⟨Nat.le_of_ble_eq_true rfl, Nat.le_of_ble_eq_true rfl⟩ d10_value_76 rfl (Nat.le_of_ble_eq_true rfl) (fun r7 s6 => ?_)
    refine j_callVi (c8_sortAt x n r7 s6) lv_X10_159 (cV_rc_2 x s6) ⟨Nat.le_of_ble_eq_true rfl, Nat.le_of_ble_eq_true rfl⟩ d10_value_79 rfl (Nat.le_of_ble_eq_true rfl) (fun r9 s8 => ?_)
    refine j_if_eq d10_value_82 ?_ ?_
    · exact j_sub [0] rfl (j10_value_108 x n hq s8)
    · refine j_aload_n 0 rfl d10_value_85 ?_
      refine j_get fl_X10_32 (cV_g_0_4 x s8) d10_value_86 ?_
      refine j_iconst d10_value_89 ejc_1 ?_
      refine j_aload_n 0 rfl d10_value_90 ?_
      refine j_get fl_X10_39 (cV_g_0_5 x s8) d10_value_91 ?_
      refine j_aload_n 0 rfl d10_value_94 ?_
      refine j_get fl_X10_48 (cV_g_0_6 x s8) d10_value_95 ?_
      refine j_callVi (c6_next x n s8) lv_X10_156 (cV_rc_3 x s8) ⟨Nat.le_of_ble_eq_true rfl, Nat.le_of_ble_eq_true rfl⟩ d10_value_98 rfl (Nat.le_of_ble_eq_true rfl) (fun r15 s14 => ?_)
      refine j_callVi (c8_beginAt x n r15 s14) lv_X10_148 (cV_rc_2 x s14) ⟨Nat.le_of_ble_eq_true rfl, Nat.le_of_ble_eq_true rfl⟩ d10_value_101 rfl (Nat.le_of_ble_eq_true rfl) (fun r17 s16 => ?_)
      refine j_callVi (c1_tell x n 1 r17 s16) lv_X10_152 (cV_rc_1 x s16) ⟨Nat.le_of_ble_eq_true rfl, Nat.le_of_ble_eq_true rfl⟩ d10_value_104 rfl (Nat.le_of_ble_eq_true rfl) (fun r19 s18 => ?_)
      refine j_pop d10_value_107 rfl ?_
      exact j_sub [0] rfl (j10_value_108 x n hq s18)
  · refine j_aload_n 0 rfl d10_value_36 ?_
    refine j_get fl_X10_32 (cV_g_0_4 x s4) d10_value_37 ?_
    refine j_aload_n 0 rfl d10_value_40 ?_
    refine j_get fl_X10_48 (cV_g_0_6 x s4) d10_value_41 ?_
    refine j_callVi (c6_faultCode x n s4) lv_X10_142 (cV_rc_3 x s4) ⟨Nat.le_of_ble_eq_true rfl, Nat.le_of_ble_eq_true rfl⟩ d10_value_44 rfl (Nat.le_of_ble_eq_true rfl) (fun r21 s20 => ?_)
    refine j_aload_n 0 rfl d10_value_47 ?_
    refine j_get fl_X10_39 (cV_g_0_5 x s20) d10_value_48 ?_
    refine j_aload_n 0 rfl d10_value_51 ?_
    refine j_get fl_X10_48 (cV_g_0_6 x s20) d10_value_52 ?_
    refine j_callVi (c6_faultToken x n s20) lv_X10_145 (cV_rc_3 x s20) ⟨Nat.le_of_ble_eq_true rfl, Nat.le_of_ble_eq_true rfl⟩ d10_value_55 rfl (Nat.le_of_ble_eq_true rfl) (fun r23 s22 => ?_)
    refine j_callVi (c8_beginAt x n r23 s22) lv_X10_148 (cV_rc_2 x s22) ⟨Nat.le_of_ble_eq_true rfl, Nat.le_of_ble_eq_true rfl⟩ d10_value_58 rfl (Nat.le_of_ble_eq_true rfl) (fun r25 s24 => ?_)
    refine j_callVi (c1_tell x n r21 r25 s24) lv_X10_152 (cV_rc_1 x s24) ⟨Nat.le_of_ble_eq_true rfl, Nat.le_of_ble_eq_true rfl⟩ d10_value_61 rfl (Nat.le_of_ble_eq_true rfl) (fun r27 s26 => ?_)
    refine j_pop d10_value_64 rfl ?_
    refine j_goto d10_value_65 ?_
    exact j_sub [0] rfl (j10_value_108 x n hq s26)
theorem c10_value (x : cw_T) (n : Nat)  (σ : ej_S) : ∀ z, m10_value n  σ = some z → ∀ l : Launch, l.stackTraces = false → ej_Cx l (cV x) i10_value yX10_value (some .int) [.ref (cw_a x 0)] σ 1 6 (ej_xg ej_fi z) := fun z h l hl => ej_conX_of hl pn_X10 rfl (Nat.le_of_ble_eq_true rfl) rfl h (fun F hq => j10_value x n  σ hq)

