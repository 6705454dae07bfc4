noncomputable def mL_act (n : Nat) (a1 : Int32) (a2 : Int64) (a3 : Int32) (σ : lw_S) : Option (Int32 × lw_S) := (if a1 = 0 then ej_bw (ej_lcx (m10_feed n a2 a3 σ.1) σ) (fun r33 s34 => (some (r33, s34))) (fun k sk => if k = 3 then (fun s36 => (some ((-1181), s36))) sk else if k = 1 then (fun s38 => (some ((-1182), s38))) sk else if k = 2 then (fun s40 => (some ((-1183), s40))) sk else none) else (if a1 = 1 then ej_bw (ej_lcx (m10_load n a3 σ.1) σ) (fun r25 s26 => (some (r25, s26))) (fun k sk => if k = 3 then (fun s28 => (some ((-1181), s28))) sk else if k = 1 then (fun s30 => (some ((-1182), s30))) sk else if k = 2 then (fun s32 => (some ((-1183), s32))) sk else none) else (if a1 = 2 then ej_bw (ej_lcx (m10_drop n a3 σ.1) σ) (fun r17 s18 => (some (r17, s18))) (fun k sk => if k = 3 then (fun s20 => (some ((-1181), s20))) sk else if k = 1 then (fun s22 => (some ((-1182), s22))) sk else if k = 2 then (fun s24 => (some ((-1183), s24))) sk else none) else (if a1 = 3 then ej_bw (ej_lcx (m10_value n σ.1) σ) (fun r9 s10 => (some (r9, s10))) (fun k sk => if k = 3 then (fun s12 => (some ((-1181), s12))) sk else if k = 1 then (fun s14 => (some ((-1182), s14))) sk else if k = 2 then (fun s16 => (some ((-1183), s16))) sk else none) else ej_bw (ej_lcx (m10_setHome n σ.1) σ) (fun r1 s2 => (some (r1, s2))) (fun k sk => if k = 3 then (fun s4 => (some ((-1181), s4))) sk else if k = 1 then (fun s6 => (some ((-1182), s6))) sk else if k = 2 then (fun s8 => (some ((-1183), s8))) sk else none)))))
set_option maxRecDepth 20000 in
set_option maxHeartbeats 2000000 in
theorem jL_act (x : lw_T) (n : Nat) (a1 : Int32) (a2 : Int64) (a3 : Int32) (σ : lw_S) {F : ej_F} {r0 : Int32 × lw_S} (hq : ej_finR x F (some .int) (some (.int r0.1)) r0.2 [(0, 58, 59, 29), (0, 58, 65, 31), (0, 58, 71, 33)]) (hu : ej_bud F 1) : ej_J (lV x) F iL_act r0 σ 0 [(0, .ref (cw_a x.1 0)), (1, .int a1), (2, .long a2), (4, .int a3)] [] (mL_act n a1 a2 a3 σ) := by
  unfold mL_act
  refine j_iload_n 1 rfl dL_act_0 ?_
  refine j_if_ne dL_act_1 ?_ ?_
  · refine j_iload_n 1 rfl dL_act_14 ?_
    refine j_iconst dL_act_15 ejc_1 ?_
    refine j_icmp_ne dL_act_16 ?_ ?_
    · refine j_iload_n 1 rfl dL_act_28 ?_
      refine j_iconst dL_act_29 ejc_2 ?_
      refine j_icmp_ne dL_act_30 ?_ ?_
      · refine j_iload_n 1 rfl dL_act_42 ?_
        refine j_iconst dL_act_43 ejc_3 ?_
        refine j_icmp_ne dL_act_44 ?_ ?_
        · refine j_aload_n 0 rfl dL_act_54 ?_
          refine jb_catch3 (k1 := 3) (k2 := 1) (k3 := 2) (fun z1 z2 z3 z4 => lcx_con (fun z5 z6 => c10_setHome x.1 n σ.1 z5 z6 z3 z4) z1 z2) lv_L_26 (lV_rc_0 x σ) ⟨Nat.le_of_ble_eq_true rfl, Nat.le_of_ble_eq_true rfl⟩ dL_act_55 rfl (Nat.le_of_ble_eq_true rfl) hq hu (by omega) rfl rfl (by decide) wlk_29 wcd_3  rfl (by decide) wlk_31 wcd_1  rfl (by decide) wlk_33 wcd_2 (fun A U H h => h.2.2.2.2.2.2.2.2.2.2.2.2.2) (fun A U H h => h.2.2.2.2.2.2.2.2.2.2.2.2.1) (fun A U H h => h.2.2.2.2.2.2.2.2.2.2.2.1) (fun r1 s2 => ?_) (fun q3 s4 => ?_) (fun q5 s6 => ?_) (fun q7 s8 => ?_)
          · exact jb_ireturn (ej_finRu _ _ hq) (ej_budu 1 hu (by omega)) dL_act_58
          · refine j_astore (i := 5) (L' := [(5, .ref (q3)), (0, .ref (cw_a x.1 0)), (1, .int a1), (2, .long a2), (4, .int a3)]) dL_act_59 (Nat.le_of_ble_eq_true rfl) rfl ?_
            refine j_sipush dL_act_61 ejs_m1181 ?_
            exact jb_ireturn (ej_finRu _ _ hq) (ej_budu 1 hu (by omega)) dL_act_64
          · refine j_astore (i := 5) (L' := [(5, .ref (q5)), (0, .ref (cw_a x.1 0)), (1, .int a1), (2, .long a2), (4, .int a3)]) dL_act_65 (Nat.le_of_ble_eq_true rfl) rfl ?_
            refine j_sipush dL_act_67 ejs_m1182 ?_
            exact jb_ireturn (ej_finRu _ _ hq) (ej_budu 1 hu (by omega)) dL_act_70
          · refine j_astore (i := 5) (L' := [(5, .ref (q7)), (0, .ref (cw_a x.1 0)), (1, .int a1), (2, .long a2), (4, .int a3)]) dL_act_71 (Nat.le_of_ble_eq_true rfl) rfl ?_
            refine j_sipush dL_act_73 ejs_m1183 ?_
            exact jb_ireturn (ej_finRu _ _ hq) (ej_budu 1 hu (by omega)) dL_act_76
        · refine j_aload_n 0 rfl dL_act_47 ?_
          refine jb_catch3 (k1 := 3) (k2 := 1) (k3 := 2) (fun z1 z2 z3 z4 => lcx_con (fun z5 z6 => c10_value x.1 n σ.1 z5 z6 z3 z4) z1 z2) lv_L_22 (lV_rc_0 x σ) ⟨Nat.le_of_ble_eq_true rfl, Nat.le_of_ble_eq_true rfl⟩ dL_act_48 rfl (Nat.le_of_ble_eq_true rfl) hq hu (by omega) rfl rfl (by decide) wlk_29 wcd_3  rfl (by decide) wlk_31 wcd_1  rfl (by decide) wlk_33 wcd_2 (fun A U H h => h.2.2.2.2.2.2.2.2.2.2.2.2.2) (fun A U H h => h.2.2.2.2.2.2.2.2.2.2.2.2.1) (fun A U H h => h.2.2.2.2.2.2.2.2.2.2.2.1) (fun r9 s10 => ?_) (fun q11 s12 => ?_) (fun q13 s14 => ?_) (fun q15 s16 => ?_)
          · refine j_goto dL_act_51 ?_
            exact jb_ireturn (ej_finRu _ _ hq) (ej_budu 1 hu (by omega)) dL_act_58
          · refine j_astore (i := 5) (L' := [(5, .ref (q11)), (0, .ref (cw_a x.1 0)), (1, .int a1), (2, .long a2), (4, .int a3)]) dL_act_59 (Nat.le_of_ble_eq_true rfl) rfl ?_
            refine j_sipush dL_act_61 ejs_m1181 ?_
            exact jb_ireturn (ej_finRu _ _ hq) (ej_budu 1 hu (by omega)) dL_act_64
          · refine j_astore (i := 5) (L' := [(5, .ref (q13)), (0, .ref (cw_a x.1 0)), (1, .int a1), (2, .long a2), (4, .int a3)]) dL_act_65 (Nat.le_of_ble_eq_true rfl) rfl ?_
            refine j_sipush dL_act_67 ejs_m1182 ?_
            exact jb_ireturn (ej_finRu _ _ hq) (ej_budu 1 hu (by omega)) dL_act_70
          · refine j_astore (i := 5) (L' := [(5, .ref (q15)), (0, .ref (cw_a x.1 0)), (1, .int a1), (2, .long a2), (4, .int a3)]) dL_act_71 (Nat.le_of_ble_eq_true rfl) rfl ?_
            refine j_sipush dL_act_73 ejs_m1183 ?_
            exact jb_ireturn (ej_finRu _ _ hq) (ej_budu 1 hu (by omega)) dL_act_76
      · refine j_aload_n 0 rfl dL_act_33 ?_
        refine j_iload 3 rfl dL_act_34 ?_
        refine jb_catch3 (k1 := 3) (k2 := 1) (k3 := 2) (fun z1 z2 z3 z4 => lcx_con (fun z5 z6 => c10_drop x.1 n a3 σ.1 z5 z6 z3 z4) z1 z2) lv_L_19 (lV_rc_0 x σ) ⟨Nat.le_of_ble_eq_true rfl, Nat.le_of_ble_eq_true rfl⟩ dL_act_36 rfl (Nat.le_of_ble_eq_true rfl) hq hu (by omega) rfl rfl (by decide) wlk_29 wcd_3  rfl (by decide) wlk_31 wcd_1  rfl (by decide) wlk_33 wcd_2 (fun A U H h => h.2.2.2.2.2.2.2.2.2.2.2.2.2) (fun A U H h => h.2.2.2.2.2.2.2.2.2.2.2.2.1) (fun A U H h => h.2.2.2.2.2.2.2.2.2.2.2.1) (fun r17 s18 => ?_) (fun q19 s20 => ?_) (fun q21 s22 => ?_) (fun q23 s24 => ?_)
        · refine j_goto dL_act_39 ?_
          exact jb_ireturn (ej_finRu _ _ hq) (ej_budu 1 hu (by omega)) dL_act_58
        · refine j_astore (i := 5) (L' := [(5, .ref (q19)), (0, .ref (cw_a x.1 0)), (1, .int a1), (2, .long a2), (4, .int a3)]) dL_act_59 (Nat.le_of_ble_eq_true rfl) rfl ?_
          refine j_sipush dL_act_61 ejs_m1181 ?_
          exact jb_ireturn (ej_finRu _ _ hq) (ej_budu 1 hu (by omega)) dL_act_64
        · refine j_astore (i := 5) (L' := [(5, .ref (q21)), (0, .ref (cw_a x.1 0)), (1, .int a1), (2, .long a2), (4, .int a3)]) dL_act_65 (Nat.le_of_ble_eq_true rfl) rfl ?_
          refine j_sipush dL_act_67 ejs_m1182 ?_
          exact jb_ireturn (ej_finRu _ _ hq) (ej_budu 1 hu (by omega)) dL_act_70
        · refine j_astore (i := 5) (L' := [(5, .ref (q23)), (0, .ref (cw_a x.1 0)), (1, .int a1), (2, .long a2), (4, .int a3)]) dL_act_71 (Nat.le_of_ble_eq_true rfl) rfl ?_
          refine j_sipush dL_act_73 ejs_m1183 ?_
          exact jb_ireturn (ej_finRu _ _ hq) (ej_budu 1 hu (by omega)) dL_act_76
    · refine j_aload_n 0 rfl dL_act_19 ?_
      refine j_iload 3 rfl dL_act_20 ?_
      refine jb_catch3 (k1 := 3) (k2 := 1) (k3 := 2) (fun z1 z2 z3 z4 => lcx_con (fun z5 z6 => c10_load x.1 n a3 σ.1 z5 z6 z3 z4) z1 z2) lv_L_15 (lV_rc_0 x σ) ⟨Nat.le_of_ble_eq_true rfl, Nat.le_of_ble_eq_true rfl⟩ dL_act_22 rfl (Nat.le_of_ble_eq_true rfl) hq hu (by omega) rfl rfl (by decide) wlk_29 wcd_3  rfl (by decide) wlk_31 wcd_1  rfl (by decide) wlk_33 wcd_2 (fun A U H h => h.2.2.2.2.2.2.2.2.2.2.2.2.2) (fun A U H h => h.2.2.2.2.2.2.2.2.2.2.2.2.1) (fun A U H h => h.2.2.2.2.2.2.2.2.2.2.2.1) (fun r25 s26 => ?_) (fun q27 s28 => ?_) (fun q29 s30 => ?_) (fun q31 s32 => ?_)
      · refine j_goto dL_act_25 ?_
        exact jb_ireturn (ej_finRu _ _ hq) (ej_budu 1 hu (by omega)) dL_act_58
      · refine j_astore (i := 5) (L' := [(5, .ref (q27)), (0, .ref (cw_a x.1 0)), (1, .int a1), (2, .long a2), (4, .int a3)]) dL_act_59 (Nat.le_of_ble_eq_true rfl) rfl ?_
        refine j_sipush dL_act_61 ejs_m1181 ?_
        exact jb_ireturn (ej_finRu _ _ hq) (ej_budu 1 hu (by omega)) dL_act_64
      · refine j_astore (i := 5) (L' := [(5, .ref (q29)), (0, .ref (cw_a x.1 0)), (1, .int a1), (2, .long a2), (4, .int a3)]) dL_act_65 (Nat.le_of_ble_eq_true rfl) rfl ?_
        refine j_sipush dL_act_67 ejs_m1182 ?_
        exact jb_ireturn (ej_finRu _ _ hq) (ej_budu 1 hu (by omega)) dL_act_70
      · refine j_astore (i := 5) (L' := [(5, .ref (q31)), (0, .ref (cw_a x.1 0)), (1, .int a1), (2, .long a2), (4, .int a3)]) dL_act_71 (Nat.le_of_ble_eq_true rfl) rfl ?_
        refine j_sipush dL_act_73 ejs_m1183 ?_
        exact jb_ireturn (ej_finRu _ _ hq) (ej_budu 1 hu (by omega)) dL_act_76
  · refine j_aload_n 0 rfl dL_act_4 ?_
    refine j_lload_n 2 rfl dL_act_5 ?_
    refine j_iload 3 rfl dL_act_6 ?_
    refine jb_catch3 (k1 := 3) (k2 := 1) (k3 := 2) (fun z1 z2 z3 z4 => lcx_con (fun z5 z6 => c10_feed x.1 n a2 a3 σ.1 z5 z6 z3 z4) z1 z2) lv_L_9 (lV_rc_0 x σ) ⟨Nat.le_of_ble_eq_true rfl, Nat.le_of_ble_eq_true rfl⟩ dL_act_8 rfl (Nat.le_of_ble_eq_true rfl) hq hu (by omega) rfl rfl (by decide) wlk_29 wcd_3  rfl (by decide) wlk_31 wcd_1  rfl (by decide) wlk_33 wcd_2 (fun A U H h => h.2.2.2.2.2.2.2.2.2.2.2.2.2) (fun A U H h => h.2.2.2.2.2.2.2.2.2.2.2.2.1) (fun A U H h => h.2.2.2.2.2.2.2.2.2.2.2.1) (fun r33 s34 => ?_) (fun q35 s36 => ?_) (fun q37 s38 => ?_) (fun q39 s40 => ?_)
    · refine j_goto dL_act_11 ?_
      exact jb_ireturn (ej_finRu _ _ hq) (ej_budu 1 hu (by omega)) dL_act_58
    · refine j_astore (i := 5) (L' := [(5, .ref (q35)), (0, .ref (cw_a x.1 0)), (1, .int a1), (2, .long a2), (4, .int a3)]) dL_act_59 (Nat.le_of_ble_eq_true rfl) rfl ?_
      refine j_sipush dL_act_61 ejs_m1181 ?_
      exact jb_ireturn (ej_finRu _ _ hq) (ej_budu 1 hu (by omega)) dL_act_64
    · refine j_astore (i := 5) (L' := [(5, .ref (q37)), (0, .ref (cw_a x.1 0)), (1, .int a1), (2, .long a2), (4, .int a3)]) dL_act_65 (Nat.le_of_ble_eq_true rfl) rfl ?_
      refine j_sipush dL_act_67 ejs_m1182 ?_
      exact jb_ireturn (ej_finRu _ _ hq) (ej_budu 1 hu (by omega)) dL_act_70
    · refine j_astore (i := 5) (L' := [(5, .ref (q39)), (0, .ref (cw_a x.1 0)), (1, .int a1), (2, .long a2), (4, .int a3)]) dL_act_71 (Nat.le_of_ble_eq_true rfl) rfl ?_
      refine j_sipush dL_act_73 ejs_m1183 ?_
      exact jb_ireturn (ej_finRu _ _ hq) (ej_budu 1 hu (by omega)) dL_act_76
theorem kL_act (x : lw_T) (n : Nat) (a1 : Int32) (a2 : Int64) (a3 : Int32) (σ : lw_S) : ∀ z, mL_act n a1 a2 a3 σ = some z → ∀ l : Launch, l.stackTraces = false → ej_CbX l x iL_act yL_act (some .int) [(0, 58, 59, 29), (0, 58, 65, 31), (0, 58, 71, 33)] [.ref (cw_a x.1 0), .int a1, .long a2, .int a3] σ 1 (some (.int z.1)) z.2 := fun z h l hl => ej_conBX_of hl pn_L rfl (Nat.le_of_ble_eq_true rfl) rfl h (fun F hq hu => jL_act x n a1 a2 a3 σ hq hu)

noncomputable def mL_of (n : Nat) (a1 : Int32) (a2 : Int32) (a3 : Int32) (σ : lw_S) : Option (Int32 × lw_S) := (if a1 = 0 then ej_bw (ej_lcx (m10_name n a2 σ.1) σ) (fun r53 s54 => (some (r53, s54))) (fun k sk => if k = 3 then (fun s56 => (some ((-1181), s56))) sk else none) else (if a1 = 1 then ej_bw (ej_lcx (m10_kind n a2 σ.1) σ) (fun r49 s50 => (some (r49, s50))) (fun k sk => if k = 3 then (fun s52 => (some ((-1181), s52))) sk else none) else (if a1 = 2 then ej_bw (ej_lcx (m10_isPrivate n a2 σ.1) σ) (fun r45 s46 => (if r45 = 0 then (some (0, s46)) else (some (1, s46)))) (fun k sk => if k = 3 then (fun s48 => (some ((-1181), s48))) sk else none) else (if a1 = 3 then ej_bw (ej_lcx (m10_linkCost n a2 a3 σ.1) σ) (fun r41 s42 => (some (r41, s42))) (fun k sk => if k = 3 then (fun s44 => (some ((-1181), s44))) sk else none) else (if a1 = 4 then ej_bw (ej_lcx (m10_memberCost n a2 a3 σ.1) σ) (fun r37 s38 => (some (r37, s38))) (fun k sk => if k = 3 then (fun s40 => (some ((-1181), s40))) sk else none) else (if a1 = 5 then ej_bw (ej_lcx (m10_cost n a2 σ.1) σ) (fun r33 s34 => (some (r33, s34))) (fun k sk => if k = 3 then (fun s36 => (some ((-1181), s36))) sk else none) else (if a1 = 6 then ej_bw (ej_lcx (m10_costByRounds n a2 σ.1) σ) (fun r29 s30 => (some (r29, s30))) (fun k sk => if k = 3 then (fun s32 => (some ((-1181), s32))) sk else none) else (if a1 = 7 then ej_bw (ej_lcx (m10_steps n a2 σ.1) σ) (fun r25 s26 => (some (r25, s26))) (fun k sk => if k = 3 then (fun s28 => (some ((-1181), s28))) sk else none) else (if a1 = 8 then ej_bw (ej_lcx (m10_state n a2 σ.1) σ) (fun r21 s22 => (some (r21, s22))) (fun k sk => if k = 3 then (fun s24 => (some ((-1181), s24))) sk else none) else (if a1 = 9 then ej_bw (ej_lcx (m10_nodeAt n a2 a3 σ.1) σ) (fun r17 s18 => (some (r17, s18))) (fun k sk => if k = 3 then (fun s20 => (some ((-1181), s20))) sk else none) else (if a1 = 10 then ej_bw (ej_lcx (m10_costAt n a2 a3 σ.1) σ) (fun r13 s14 => (some (r13, s14))) (fun k sk => if k = 3 then (fun s16 => (some ((-1181), s16))) sk else none) else (if a1 = 11 then ej_bw (ej_lcx (m10_stepAt n a2 a3 σ.1) σ) (fun r9 s10 => (some (r9, s10))) (fun k sk => if k = 3 then (fun s12 => (some ((-1181), s12))) sk else none) else (if a1 = 12 then ej_bw (ej_lcx (m10_isBack n a2 a3 σ.1) σ) (fun r5 s6 => (if r5 = 0 then (some (0, s6)) else (some (1, s6)))) (fun k sk => if k = 3 then (fun s8 => (some ((-1181), s8))) sk else none) else ej_bw (ej_lcx (m10_print n a2 σ.1) σ) (fun r1 s2 => (some (r1, s2))) (fun k sk => if k = 3 then (fun s4 => (some ((-1181), s4))) sk else none))))))))))))))
set_option maxRecDepth 20000 in
set_option maxHeartbeats 2000000 in
theorem jL_of (x : lw_T) (n : Nat) (a1 : Int32) (a2 : Int32) (a3 : Int32) (σ : lw_S) {F : ej_F} {r0 : Int32 × lw_S} (hq : ej_finR x F (some .int) (some (.int r0.1)) r0.2 [(0, 202, 203, 29)]) (hu : ej_bud F 2) : ej_J (lV x) F iL_of r0 σ 0 [(0, .ref (cw_a x.1 0)), (1, .int a1), (2, .int a2), (3, .int a3)] [] (mL_of n a1 a2 a3 σ) := by
  unfold mL_of
  refine j_iload_n 1 rfl dL_of_0 ?_
  refine j_if_ne dL_of_1 ?_ ?_
  · refine j_iload_n 1 rfl dL_of_12 ?_
    refine j_iconst dL_of_13 ejc_1 ?_
    refine j_icmp_ne dL_of_14 ?_ ?_
    · refine j_iload_n 1 rfl dL_of_25 ?_
      refine j_iconst dL_of_26 ejc_2 ?_
      refine j_icmp_ne dL_of_27 ?_ ?_
      · refine j_iload_n 1 rfl dL_of_46 ?_
        refine j_iconst dL_of_47 ejc_3 ?_
        refine j_icmp_ne dL_of_48 ?_ ?_
        · refine j_iload_n 1 rfl dL_of_60 ?_
          refine j_iconst dL_of_61 ejc_4 ?_
          refine j_icmp_ne dL_of_62 ?_ ?_
          · refine j_iload_n 1 rfl dL_of_74 ?_
            refine j_iconst dL_of_75 ejc_5 ?_
            refine j_icmp_ne dL_of_76 ?_ ?_
            · refine j_iload_n 1 rfl dL_of_87 ?_
              refine j_bipush dL_of_88 ejb_6 ?_
              refine j_icmp_ne dL_of_90 ?_ ?_
              · refine j_iload_n 1 rfl dL_of_101 ?_
                refine j_bipush dL_of_102 ejb_7 ?_
                refine j_icmp_ne dL_of_104 ?_ ?_
                · refine j_iload_n 1 rfl dL_of_115 ?_
                  refine j_bipush dL_of_116 ejb_8 ?_
                  refine j_icmp_ne dL_of_118 ?_ ?_
                  · refine j_iload_n 1 rfl dL_of_129 ?_
                    refine j_bipush dL_of_130 ejb_9 ?_
                    refine j_icmp_ne dL_of_132 ?_ ?_
                    · refine j_iload_n 1 rfl dL_of_144 ?_
                      refine j_bipush dL_of_145 ejb_10 ?_
                      refine j_icmp_ne dL_of_147 ?_ ?_
                      · refine j_iload_n 1 rfl dL_of_159 ?_
                        refine j_bipush dL_of_160 ejb_11 ?_
                        refine j_icmp_ne dL_of_162 ?_ ?_
                        · refine j_iload_n 1 rfl dL_of_174 ?_
                          refine j_bipush dL_of_175 ejb_12 ?_
                          refine j_icmp_ne dL_of_177 ?_ ?_
                          · refine j_aload_n 0 rfl dL_of_197 ?_
                            refine j_iload_n 2 rfl dL_of_198 ?_
                            refine jb_catch1 (k1 := 3) (fun z1 z2 z3 z4 => lcx_con (fun z5 z6 => c10_print x.1 n a2 σ.1 z5 z6 z3 z4) z1 z2) lv_L_77 (lV_rc_0 x σ) ⟨Nat.le_of_ble_eq_true rfl, Nat.le_of_ble_eq_true rfl⟩ dL_of_199 rfl (Nat.le_of_ble_eq_true rfl) hq hu (by omega) rfl rfl (by decide) wlk_29 wcd_3 (fun r1 s2 => ?_) (fun q3 s4 => ?_)
                            · exact jb_ireturn (ej_finRu _ _ hq) (ej_budu 1 hu (by omega)) dL_of_202
                            · refine j_astore (i := 4) (L' := [(4, .ref (q3)), (0, .ref (cw_a x.1 0)), (1, .int a1), (2, .int a2), (3, .int a3)]) dL_of_203 (Nat.le_of_ble_eq_true rfl) rfl ?_
                              refine j_sipush dL_of_205 ejs_m1181 ?_
                              exact jb_ireturn (ej_finRu _ _ hq) (ej_budu 1 hu (by omega)) dL_of_208
                          · refine j_aload_n 0 rfl dL_of_180 ?_
                            refine j_iload_n 2 rfl dL_of_181 ?_
                            refine j_iload_n 3 rfl dL_of_182 ?_
                            refine jb_catch1 (k1 := 3) (fun z1 z2 z3 z4 => lcx_con (fun z5 z6 => c10_isBack x.1 n a2 a3 σ.1 z5 z6 z3 z4) z1 z2) lv_L_73 (lV_rc_0 x σ) ⟨Nat.le_of_ble_eq_true rfl, Nat.le_of_ble_eq_true rfl⟩ dL_of_183 rfl (Nat.le_of_ble_eq_true rfl) hq hu (by omega) rfl rfl (by decide) wlk_29 wcd_3 (fun r5 s6 => ?_) (fun q7 s8 => ?_)
                            · refine j_if_eq dL_of_186 ?_ ?_
                              · refine j_iconst dL_of_193 ejc_0 ?_
                                refine j_goto dL_of_194 ?_
                                exact jb_ireturn (ej_finRu _ _ hq) (ej_budu 2 hu (by omega)) dL_of_202
                              · refine j_iconst dL_of_189 ejc_1 ?_
                                refine j_goto dL_of_190 ?_
                                exact jb_ireturn (ej_finRu _ _ hq) (ej_budu 2 hu (by omega)) dL_of_202
                            · refine j_astore (i := 4) (L' := [(4, .ref (q7)), (0, .ref (cw_a x.1 0)), (1, .int a1), (2, .int a2), (3, .int a3)]) dL_of_203 (Nat.le_of_ble_eq_true rfl) rfl ?_
                              refine j_sipush dL_of_205 ejs_m1181 ?_
                              exact jb_ireturn (ej_finRu _ _ hq) (ej_budu 2 hu (by omega)) dL_of_208
                        · refine j_aload_n 0 rfl dL_of_165 ?_
                          refine j_iload_n 2 rfl dL_of_166 ?_
                          refine j_iload_n 3 rfl dL_of_167 ?_
                          refine jb_catch1 (k1 := 3) (fun z1 z2 z3 z4 => lcx_con (fun z5 z6 => c10_stepAt x.1 n a2 a3 σ.1 z5 z6 z3 z4) z1 z2) lv_L_70 (lV_rc_0 x σ) ⟨Nat.le_of_ble_eq_true rfl, Nat.le_of_ble_eq_true rfl⟩ dL_of_168 rfl (Nat.le_of_ble_eq_true rfl) hq hu (by omega) rfl rfl (by decide) wlk_29 wcd_3 (fun r9 s10 => ?_) (fun q11 s12 => ?_)
                          · refine j_goto dL_of_171 ?_
                            exact jb_ireturn (ej_finRu _ _ hq) (ej_budu 2 hu (by omega)) dL_of_202
                          · refine j_astore (i := 4) (L' := [(4, .ref (q11)), (0, .ref (cw_a x.1 0)), (1, .int a1), (2, .int a2), (3, .int a3)]) dL_of_203 (Nat.le_of_ble_eq_true rfl) rfl ?_
                            refine j_sipush dL_of_205 ejs_m1181 ?_
                            exact jb_ireturn (ej_finRu _ _ hq) (ej_budu 2 hu (by omega)) dL_of_208
                      · refine j_aload_n 0 rfl dL_of_150 ?_
                        refine j_iload_n 2 rfl dL_of_151 ?_
                        refine j_iload_n 3 rfl dL_of_152 ?_
                        refine jb_catch1 (k1 := 3) (fun z1 z2 z3 z4 => lcx_con (fun z5 z6 => c10_costAt x.1 n a2 a3 σ.1 z5 z6 z3 z4) z1 z2) lv_L_67 (lV_rc_0 x σ) ⟨Nat.le_of_ble_eq_true rfl, Nat.le_of_ble_eq_true rfl⟩ dL_of_153 rfl (Nat.le_of_ble_eq_true rfl) hq hu (by omega) rfl rfl (by decide) wlk_29 wcd_3 (fun r13 s14 => ?_) (fun q15 s16 => ?_)
                        · refine j_goto dL_of_156 ?_
                          exact jb_ireturn (ej_finRu _ _ hq) (ej_budu 2 hu (by omega)) dL_of_202
                        · refine j_astore (i := 4) (L' := [(4, .ref (q15)), (0, .ref (cw_a x.1 0)), (1, .int a1), (2, .int a2), (3, .int a3)]) dL_of_203 (Nat.le_of_ble_eq_true rfl) rfl ?_
                          refine j_sipush dL_of_205 ejs_m1181 ?_
                          exact jb_ireturn (ej_finRu _ _ hq) (ej_budu 2 hu (by omega)) dL_of_208
                    · refine j_aload_n 0 rfl dL_of_135 ?_
                      refine j_iload_n 2 rfl dL_of_136 ?_
                      refine j_iload_n 3 rfl dL_of_137 ?_
                      refine jb_catch1 (k1 := 3) (fun z1 z2 z3 z4 => lcx_con (fun z5 z6 => c10_nodeAt x.1 n a2 a3 σ.1 z5 z6 z3 z4) z1 z2) lv_L_64 (lV_rc_0 x σ) ⟨Nat.le_of_ble_eq_true rfl, Nat.le_of_ble_eq_true rfl⟩ dL_of_138 rfl (Nat.le_of_ble_eq_true rfl) hq hu (by omega) rfl rfl (by decide) wlk_29 wcd_3 (fun r17 s18 => ?_) (fun q19 s20 => ?_)
                      · refine j_goto dL_of_141 ?_
                        exact jb_ireturn (ej_finRu _ _ hq) (ej_budu 2 hu (by omega)) dL_of_202
                      · refine j_astore (i := 4) (L' := [(4, .ref (q19)), (0, .ref (cw_a x.1 0)), (1, .int a1), (2, .int a2), (3, .int a3)]) dL_of_203 (Nat.le_of_ble_eq_true rfl) rfl ?_
                        refine j_sipush dL_of_205 ejs_m1181 ?_
                        exact jb_ireturn (ej_finRu _ _ hq) (ej_budu 2 hu (by omega)) dL_of_208
                  · refine j_aload_n 0 rfl dL_of_121 ?_
                    refine j_iload_n 2 rfl dL_of_122 ?_
                    refine jb_catch1 (k1 := 3) (fun z1 z2 z3 z4 => lcx_con (fun z5 z6 => c10_state x.1 n a2 σ.1 z5 z6 z3 z4) z1 z2) lv_L_61 (lV_rc_0 x σ) ⟨Nat.le_of_ble_eq_true rfl, Nat.le_of_ble_eq_true rfl⟩ dL_of_123 rfl (Nat.le_of_ble_eq_true rfl) hq hu (by omega) rfl rfl (by decide) wlk_29 wcd_3 (fun r21 s22 => ?_) (fun q23 s24 => ?_)
                    · refine j_goto dL_of_126 ?_
                      exact jb_ireturn (ej_finRu _ _ hq) (ej_budu 1 hu (by omega)) dL_of_202
                    · refine j_astore (i := 4) (L' := [(4, .ref (q23)), (0, .ref (cw_a x.1 0)), (1, .int a1), (2, .int a2), (3, .int a3)]) dL_of_203 (Nat.le_of_ble_eq_true rfl) rfl ?_
                      refine j_sipush dL_of_205 ejs_m1181 ?_
                      exact jb_ireturn (ej_finRu _ _ hq) (ej_budu 1 hu (by omega)) dL_of_208
                · refine j_aload_n 0 rfl dL_of_107 ?_
                  refine j_iload_n 2 rfl dL_of_108 ?_
                  refine jb_catch1 (k1 := 3) (fun z1 z2 z3 z4 => lcx_con (fun z5 z6 => c10_steps x.1 n a2 σ.1 z5 z6 z3 z4) z1 z2) lv_L_58 (lV_rc_0 x σ) ⟨Nat.le_of_ble_eq_true rfl, Nat.le_of_ble_eq_true rfl⟩ dL_of_109 rfl (Nat.le_of_ble_eq_true rfl) hq hu (by omega) rfl rfl (by decide) wlk_29 wcd_3 (fun r25 s26 => ?_) (fun q27 s28 => ?_)
                  · refine j_goto dL_of_112 ?_
                    exact jb_ireturn (ej_finRu _ _ hq) (ej_budu 1 hu (by omega)) dL_of_202
                  · refine j_astore (i := 4) (L' := [(4, .ref (q27)), (0, .ref (cw_a x.1 0)), (1, .int a1), (2, .int a2), (3, .int a3)]) dL_of_203 (Nat.le_of_ble_eq_true rfl) rfl ?_
                    refine j_sipush dL_of_205 ejs_m1181 ?_
                    exact jb_ireturn (ej_finRu _ _ hq) (ej_budu 1 hu (by omega)) dL_of_208
              · refine j_aload_n 0 rfl dL_of_93 ?_
                refine j_iload_n 2 rfl dL_of_94 ?_
                refine jb_catch1 (k1 := 3) (fun z1 z2 z3 z4 => lcx_con (fun z5 z6 => c10_costByRounds x.1 n a2 σ.1 z5 z6 z3 z4) z1 z2) lv_L_55 (lV_rc_0 x σ) ⟨Nat.le_of_ble_eq_true rfl, Nat.le_of_ble_eq_true rfl⟩ dL_of_95 rfl (Nat.le_of_ble_eq_true rfl) hq hu (by omega) rfl rfl (by decide) wlk_29 wcd_3 (fun r29 s30 => ?_) (fun q31 s32 => ?_)
                · refine j_goto dL_of_98 ?_
                  exact jb_ireturn (ej_finRu _ _ hq) (ej_budu 1 hu (by omega)) dL_of_202
                · refine j_astore (i := 4) (L' := [(4, .ref (q31)), (0, .ref (cw_a x.1 0)), (1, .int a1), (2, .int a2), (3, .int a3)]) dL_of_203 (Nat.le_of_ble_eq_true rfl) rfl ?_
                  refine j_sipush dL_of_205 ejs_m1181 ?_
                  exact jb_ireturn (ej_finRu _ _ hq) (ej_budu 1 hu (by omega)) dL_of_208
            · refine j_aload_n 0 rfl dL_of_79 ?_
              refine j_iload_n 2 rfl dL_of_80 ?_
              refine jb_catch1 (k1 := 3) (fun z1 z2 z3 z4 => lcx_con (fun z5 z6 => c10_cost x.1 n a2 σ.1 z5 z6 z3 z4) z1 z2) lv_L_52 (lV_rc_0 x σ) ⟨Nat.le_of_ble_eq_true rfl, Nat.le_of_ble_eq_true rfl⟩ dL_of_81 rfl (Nat.le_of_ble_eq_true rfl) hq hu (by omega) rfl rfl (by decide) wlk_29 wcd_3 (fun r33 s34 => ?_) (fun q35 s36 => ?_)
              · refine j_goto dL_of_84 ?_
                exact jb_ireturn (ej_finRu _ _ hq) (ej_budu 1 hu (by omega)) dL_of_202
              · refine j_astore (i := 4) (L' := [(4, .ref (q35)), (0, .ref (cw_a x.1 0)), (1, .int a1), (2, .int a2), (3, .int a3)]) dL_of_203 (Nat.le_of_ble_eq_true rfl) rfl ?_
                refine j_sipush dL_of_205 ejs_m1181 ?_
                exact jb_ireturn (ej_finRu _ _ hq) (ej_budu 1 hu (by omega)) dL_of_208
          · refine j_aload_n 0 rfl dL_of_65 ?_
            refine j_iload_n 2 rfl dL_of_66 ?_
            refine j_iload_n 3 rfl dL_of_67 ?_
            refine jb_catch1 (k1 := 3) (fun z1 z2 z3 z4 => lcx_con (fun z5 z6 => c10_memberCost x.1 n a2 a3 σ.1 z5 z6 z3 z4) z1 z2) lv_L_49 (lV_rc_0 x σ) ⟨Nat.le_of_ble_eq_true rfl, Nat.le_of_ble_eq_true rfl⟩ dL_of_68 rfl (Nat.le_of_ble_eq_true rfl) hq hu (by omega) rfl rfl (by decide) wlk_29 wcd_3 (fun r37 s38 => ?_) (fun q39 s40 => ?_)
            · refine j_goto dL_of_71 ?_
              exact jb_ireturn (ej_finRu _ _ hq) (ej_budu 2 hu (by omega)) dL_of_202
            · refine j_astore (i := 4) (L' := [(4, .ref (q39)), (0, .ref (cw_a x.1 0)), (1, .int a1), (2, .int a2), (3, .int a3)]) dL_of_203 (Nat.le_of_ble_eq_true rfl) rfl ?_
              refine j_sipush dL_of_205 ejs_m1181 ?_
              exact jb_ireturn (ej_finRu _ _ hq) (ej_budu 2 hu (by omega)) dL_of_208
        · refine j_aload_n 0 rfl dL_of_51 ?_
          refine j_iload_n 2 rfl dL_of_52 ?_
          refine j_iload_n 3 rfl dL_of_53 ?_
          refine jb_catch1 (k1 := 3) (fun z1 z2 z3 z4 => lcx_con (fun z5 z6 => c10_linkCost x.1 n a2 a3 σ.1 z5 z6 z3 z4) z1 z2) lv_L_45 (lV_rc_0 x σ) ⟨Nat.le_of_ble_eq_true rfl, Nat.le_of_ble_eq_true rfl⟩ dL_of_54 rfl (Nat.le_of_ble_eq_true rfl) hq hu (by omega) rfl rfl (by decide) wlk_29 wcd_3 (fun r41 s42 => ?_) (fun q43 s44 => ?_)
          · refine j_goto dL_of_57 ?_
            exact jb_ireturn (ej_finRu _ _ hq) (ej_budu 2 hu (by omega)) dL_of_202
          · refine j_astore (i := 4) (L' := [(4, .ref (q43)), (0, .ref (cw_a x.1 0)), (1, .int a1), (2, .int a2), (3, .int a3)]) dL_of_203 (Nat.le_of_ble_eq_true rfl) rfl ?_
            refine j_sipush dL_of_205 ejs_m1181 ?_
            exact jb_ireturn (ej_finRu _ _ hq) (ej_budu 2 hu (by omega)) dL_of_208
      · refine j_aload_n 0 rfl dL_of_30 ?_
        refine j_iload_n 2 rfl dL_of_31 ?_
        refine jb_catch1 (k1 := 3) (fun z1 z2 z3 z4 => lcx_con (fun z5 z6 => c10_isPrivate x.1 n a2 σ.1 z5 z6 z3 z4) z1 z2) lv_L_41 (lV_rc_0 x σ) ⟨Nat.le_of_ble_eq_true rfl, Nat.le_of_ble_eq_true rfl⟩ dL_of_32 rfl (Nat.le_of_ble_eq_true rfl) hq hu (by omega) rfl rfl (by decide) wlk_29 wcd_3 (fun r45 s46 => ?_) (fun q47 s48 => ?_)
        · refine j_if_eq dL_of_35 ?_ ?_
          · refine j_iconst dL_of_42 ejc_0 ?_
            refine j_goto dL_of_43 ?_
            exact jb_ireturn (ej_finRu _ _ hq) (ej_budu 1 hu (by omega)) dL_of_202
          · refine j_iconst dL_of_38 ejc_1 ?_
            refine j_goto dL_of_39 ?_
            exact jb_ireturn (ej_finRu _ _ hq) (ej_budu 1 hu (by omega)) dL_of_202
        · refine j_astore (i := 4) (L' := [(4, .ref (q47)), (0, .ref (cw_a x.1 0)), (1, .int a1), (2, .int a2), (3, .int a3)]) dL_of_203 (Nat.le_of_ble_eq_true rfl) rfl ?_
          refine j_sipush dL_of_205 ejs_m1181 ?_
          exact jb_ireturn (ej_finRu _ _ hq) (ej_budu 1 hu (by omega)) dL_of_208
    · refine j_aload_n 0 rfl dL_of_17 ?_
      refine j_iload_n 2 rfl dL_of_18 ?_
      refine jb_catch1 (k1 := 3) (fun z1 z2 z3 z4 => lcx_con (fun z5 z6 => c10_kind x.1 n a2 σ.1 z5 z6 z3 z4) z1 z2) lv_L_38 (lV_rc_0 x σ) ⟨Nat.le_of_ble_eq_true rfl, Nat.le_of_ble_eq_true rfl⟩ dL_of_19 rfl (Nat.le_of_ble_eq_true rfl) hq hu (by omega) rfl rfl (by decide) wlk_29 wcd_3 (fun r49 s50 => ?_) (fun q51 s52 => ?_)
      · refine j_goto dL_of_22 ?_
        exact jb_ireturn (ej_finRu _ _ hq) (ej_budu 1 hu (by omega)) dL_of_202
      · refine j_astore (i := 4) (L' := [(4, .ref (q51)), (0, .ref (cw_a x.1 0)), (1, .int a1), (2, .int a2), (3, .int a3)]) dL_of_203 (Nat.le_of_ble_eq_true rfl) rfl ?_
        refine j_sipush dL_of_205 ejs_m1181 ?_
        exact jb_ireturn (ej_finRu _ _ hq) (ej_budu 1 hu (by omega)) dL_of_208
  · refine j_aload_n 0 rfl dL_of_4 ?_
    refine j_iload_n 2 rfl dL_of_5 ?_
    refine jb_catch1 (k1 := 3) (fun z1 z2 z3 z4 => lcx_con (fun z5 z6 => c10_name x.1 n a2 σ.1 z5 z6 z3 z4) z1 z2) lv_L_35 (lV_rc_0 x σ) ⟨Nat.le_of_ble_eq_true rfl, Nat.le_of_ble_eq_true rfl⟩ dL_of_6 rfl (Nat.le_of_ble_eq_true rfl) hq hu (by omega) rfl rfl (by decide) wlk_29 wcd_3 (fun r53 s54 => ?_) (fun q55 s56 => ?_)
    · refine j_goto dL_of_9 ?_
      exact jb_ireturn (ej_finRu _ _ hq) (ej_budu 1 hu (by omega)) dL_of_202
    · refine j_astore (i := 4) (L' := [(4, .ref (q55)), (0, .ref (cw_a x.1 0)), (1, .int a1), (2, .int a2), (3, .int a3)]) dL_of_203 (Nat.le_of_ble_eq_true rfl) rfl ?_
      refine j_sipush dL_of_205 ejs_m1181 ?_
      exact jb_ireturn (ej_finRu _ _ hq) (ej_budu 1 hu (by omega)) dL_of_208
theorem kL_of (x : lw_T) (n : Nat) (a1 : Int32) (a2 : Int32) (a3 : Int32) (σ : lw_S) : ∀ z, mL_of n a1 a2 a3 σ = some z → ∀ l : Launch, l.stackTraces = false → ej_CbX l x iL_of yL_of (some .int) [(0, 202, 203, 29)] [.ref (cw_a x.1 0), .int a1, .int a2, .int a3] σ 2 (some (.int z.1)) z.2 := fun z h l hl => ej_conBX_of hl pn_L rfl (Nat.le_of_ble_eq_true rfl) rfl h (fun F hq hu => jL_of x n a1 a2 a3 σ hq hu)

noncomputable def mL_says (n : Nat) (a1 : Int32) (σ : lw_S) : Option (lw_S) := ej_bi (mL_act n 0 (a1.toInt64) 1 σ) fun r1 s2 => (some s2)
set_option maxRecDepth 20000 in
set_option maxHeartbeats 2000000 in
theorem jL_says (x : lw_T) (n : Nat) (a1 : Int32) (σ : lw_S) {F : ej_F} {r0 : lw_S} (hq : ej_finR x F none none r0 []) (hu : ej_bud F 1) : ej_J (lV x) F iL_says r0 σ 0 [(0, .ref (cw_a x.1 0)), (1, .int a1)] [] (mL_says n a1 σ) := by
  unfold mL_says
  refine j_aload_n 0 rfl dL_says_0 ?_
  refine j_iconst dL_says_1 ejc_0 ?_
  refine j_iload_n 1 rfl dL_says_2 ?_
  refine j_i2l dL_says_3 ?_
  refine j_iconst dL_says_4 ejc_1 ?_
  refine jb_callXi (c := 1) (kL_act x n 0 (a1.toInt64) 1 σ) lx_L_80 ⟨Nat.le_of_ble_eq_true rfl, Nat.le_of_ble_eq_true rfl⟩ dL_says_5 rfl (Nat.le_of_ble_eq_true rfl) hu (by omega) (fun r1 s2 => ?_)
  refine j_pop dL_says_8 rfl ?_
  exact jb_vreturn (ej_finRu _ _ hq) (ej_budu 1 hu (by omega)) dL_says_9
theorem kL_says (x : lw_T) (n : Nat) (a1 : Int32) (σ : lw_S) : ∀ z, mL_says n a1 σ = some z → ∀ l : Launch, l.stackTraces = false → ej_Cb l x iL_says yL_says none [.ref (cw_a x.1 0), .int a1] σ 1 none z := fun z h l hl => ej_conB_of hl pn_L rfl (Nat.le_of_ble_eq_true rfl) rfl h (fun F hq hu => jL_says x n a1 σ hq hu)

noncomputable def mL_saysNumber_23 (n : Nat) (k : Nat) : Int32 → Int32 → lw_S → Option (lw_S) := Nat.rec (motive := fun _ => Int32 → Int32 → lw_S → Option (lw_S)) (fun _ _ _ => none) (fun _ ih y3 y4 σ => (if y4 ≤ 0 then (some σ) else ej_dv y4 (ej_bv (mL_says n (48 + ((y3 / y4) - (y3 / y4) / 10 * 10)) σ) fun s5 => ej_nm (y4 / 10) fun x6 => (ih y3 x6 s5)))) k
theorem mL_saysNumber_23_s (n : Nat) (k : Nat) (y3 : Int32) (y4 : Int32) (σ : lw_S) : mL_saysNumber_23 n (k + 1) y3 y4 σ = ((if y4 ≤ 0 then (some σ) else ej_dv y4 (ej_bv (mL_says n (48 + ((y3 / y4) - (y3 / y4) / 10 * 10)) σ) fun s5 => ej_nm (y4 / 10) fun x6 => ((mL_saysNumber_23 n k) y3 x6 s5))) : Option (lw_S)) := rfl
set_option maxRecDepth 20000 in
set_option maxHeartbeats 2000000 in
theorem jL_saysNumber_23 (x : lw_T) (n : Nat) {r0 : lw_S} : ∀ (k : Nat) {F : ej_F} (hq : ej_finR x F none none r0 []) (hu : ej_bud F (0 + 1 * k)) (y3 : Int32) (y4 : Int32) (σ : lw_S), ej_J (lV x) F iL_saysNumber r0 σ 23 [(0, .ref (cw_a x.1 0)), (1, .int y3), (3, .int y4)] [] (mL_saysNumber_23 n k y3 y4 σ) := by
  intro k
  induction k with
  | zero => intro F hq hu y3 y4 σ; exact j_none
  | succ k ih =>
    intro F hq hu y3 y4 σ
    rw [mL_saysNumber_23_s]
    refine j_iload_n 2 rfl dL_saysNumber_23 ?_
    refine j_if_le dL_saysNumber_24 ?_ ?_
    · exact jb_vreturn hq hu dL_saysNumber_48
    · refine j_aload_n 0 rfl dL_saysNumber_27 ?_
      refine j_bipush dL_saysNumber_28 ejb_48 ?_
      refine j_iload_n 1 rfl dL_saysNumber_30 ?_
      refine j_iload_n 2 rfl dL_saysNumber_31 ?_
      refine j_idiv dL_saysNumber_32 ?_
      refine j_bipush dL_saysNumber_33 ejb_10 ?_
      refine j_irem0 (by decide) dL_saysNumber_35 ?_
      refine j_iadd dL_saysNumber_36 ?_
      refine jb_callSv (c := 1) (kL_says x n (48 + ((y3 / y4) - (y3 / y4) / 10 * 10)) σ) ls_L_87 ⟨Nat.le_of_ble_eq_true rfl, Nat.le_of_ble_eq_true rfl⟩ dL_saysNumber_37 rfl (Nat.le_of_ble_eq_true rfl) hu (by omega) (fun s5 => ?_)
      refine j_iload_n 2 rfl dL_saysNumber_40 ?_
      refine j_bipush dL_saysNumber_41 ejb_10 ?_
      refine j_idiv0 (by decide) dL_saysNumber_43 ?_
      refine j_nmi (fun x6 => ?_)
      refine j_istore_n (i := 3) (L' := [(3, .int x6), (0, .ref (cw_a x.1 0)), (1, .int y3)]) dL_saysNumber_44 rfl (Nat.le_of_ble_eq_true rfl) rfl ?_
      refine j_goto dL_saysNumber_45 ?_
      exact j_sub [1, 2, 0] rfl (ih (ej_finRu _ _ hq) (ej_budw (ej_budu 1 hu (by omega)) (by omega)) y3 x6 s5)
noncomputable def mL_saysNumber_3 (n : Nat) (k : Nat) : Int32 → Int32 → lw_S → Option (lw_S) := Nat.rec (motive := fun _ => Int32 → Int32 → lw_S → Option (lw_S)) (fun _ _ _ => none) (fun _ ih y1 y2 σ => (if y2 ≤ 1 then (mL_saysNumber_23 n 8 y1 y2 σ) else (if y2 ≤ y1 then (mL_saysNumber_23 n 8 y1 y2 σ) else ej_nm (y2 / 10) fun x7 => (ih y1 x7 σ)))) k
theorem mL_saysNumber_3_s (n : Nat) (k : Nat) (y1 : Int32) (y2 : Int32) (σ : lw_S) : mL_saysNumber_3 n (k + 1) y1 y2 σ = ((if y2 ≤ 1 then (mL_saysNumber_23 n 8 y1 y2 σ) else (if y2 ≤ y1 then (mL_saysNumber_23 n 8 y1 y2 σ) else ej_nm (y2 / 10) fun x7 => ((mL_saysNumber_3 n k) y1 x7 σ))) : Option (lw_S)) := rfl
set_option maxRecDepth 20000 in
set_option maxHeartbeats 2000000 in
theorem jL_saysNumber_3 (x : lw_T) (n : Nat) {r0 : lw_S} : ∀ (k : Nat) {F : ej_F} (hq : ej_finR x F none none r0 []) (hu : ej_bud F (8 + 0 * k)) (y1 : Int32) (y2 : Int32) (σ : lw_S), ej_J (lV x) F iL_saysNumber r0 σ 3 [(0, .ref (cw_a x.1 0)), (1, .int y1), (2, .int y2)] [] (mL_saysNumber_3 n k y1 y2 σ) := by
  intro k
  induction k with
  | zero => intro F hq hu y1 y2 σ; exact j_none
  | succ k ih =>
    intro F hq hu y1 y2 σ
    rw [mL_saysNumber_3_s]
    refine j_iload_n 2 rfl dL_saysNumber_3 ?_
    refine j_iconst dL_saysNumber_4 ejc_1 ?_
    refine j_icmp_le dL_saysNumber_5 ?_ ?_
    · refine j_iload_n 2 rfl dL_saysNumber_21 ?_
      refine j_istore_n (i := 3) (L' := [(3, .int y2), (0, .ref (cw_a x.1 0)), (1, .int y1), (2, .int y2)]) dL_saysNumber_22 rfl (Nat.le_of_ble_eq_true rfl) rfl ?_
      exact j_sub [1, 2, 0] rfl (jL_saysNumber_23 x n 8 hq (ej_budw hu (by omega)) y1 y2 σ)
    · refine j_iload_n 1 rfl dL_saysNumber_8 ?_
      refine j_iload_n 2 rfl dL_saysNumber_9 ?_
      refine j_icmp_ge dL_saysNumber_10 ?_ ?_
      · refine j_iload_n 2 rfl dL_saysNumber_21 ?_
        refine j_istore_n (i := 3) (L' := [(3, .int y2), (0, .ref (cw_a x.1 0)), (1, .int y1), (2, .int y2)]) dL_saysNumber_22 rfl (Nat.le_of_ble_eq_true rfl) rfl ?_
        exact j_sub [1, 2, 0] rfl (jL_saysNumber_23 x n 8 hq (ej_budw hu (by omega)) y1 y2 σ)
      · refine j_iload_n 2 rfl dL_saysNumber_13 ?_
        refine j_bipush dL_saysNumber_14 ejb_10 ?_
        refine j_idiv0 (by decide) dL_saysNumber_16 ?_
        refine j_nmi (fun x7 => ?_)
        refine j_istore_n (i := 2) (L' := [(2, .int x7), (0, .ref (cw_a x.1 0)), (1, .int y1)]) dL_saysNumber_17 rfl (Nat.le_of_ble_eq_true rfl) rfl ?_
        refine j_goto dL_saysNumber_18 ?_
        exact j_sub [1, 2, 0] rfl (ih hq (ej_budw hu (by omega)) y1 x7 σ)
noncomputable def mL_saysNumber (n : Nat) (a1 : Int32) (σ : lw_S) : Option (lw_S) := (mL_saysNumber_3 n 8 a1 100000 σ)
set_option maxRecDepth 20000 in
set_option maxHeartbeats 2000000 in
theorem jL_saysNumber (x : lw_T) (n : Nat) (a1 : Int32) (σ : lw_S) {F : ej_F} {r0 : lw_S} (hq : ej_finR x F none none r0 []) (hu : ej_bud F 8) : ej_J (lV x) F iL_saysNumber r0 σ 0 [(0, .ref (cw_a x.1 0)), (1, .int a1)] [] (mL_saysNumber n a1 σ) := by
  unfold mL_saysNumber
  refine j_ldc dL_saysNumber_0 ki_L_86 ?_
  refine j_istore_n (i := 2) (L' := [(2, .int 100000), (0, .ref (cw_a x.1 0)), (1, .int a1)]) dL_saysNumber_2 rfl (Nat.le_of_ble_eq_true rfl) rfl ?_
  exact j_sub [1, 2, 0] rfl (jL_saysNumber_3 x n 8 hq (ej_budw hu (by omega)) a1 100000 σ)
theorem kL_saysNumber (x : lw_T) (n : Nat) (a1 : Int32) (σ : lw_S) : ∀ z, mL_saysNumber n a1 σ = some z → ∀ l : Launch, l.stackTraces = false → ej_Cb l x iL_saysNumber yL_saysNumber none [.ref (cw_a x.1 0), .int a1] σ 8 none z := fun z h l hl => ej_conB_of hl pn_L rfl (Nat.le_of_ble_eq_true rfl) rfl h (fun F hq hu => jL_saysNumber x n a1 σ hq hu)

noncomputable def mL_saysStatement_127 (n : Nat) (y9 : Int32) (σ : lw_S) : Option (lw_S) := ej_bv (mL_says n 40 σ) fun s10 => ej_ck (y9 + 4) 60 (ej_bv (mL_saysNumber n (gA s10.2 0 (y9 + 4).toNatClampNeg) s10) fun s11 => ej_bv (mL_says n 41 s11) fun s12 => (some s12))
set_option maxRecDepth 20000 in
set_option maxHeartbeats 2000000 in
theorem jL_saysStatement_127 (x : lw_T) (n : Nat) {r0 : lw_S} {F : ej_F} (hq : ej_finR x F none none r0 []) (hu : ej_bud F (10)) (y9 : Int32) (σ : lw_S) : ej_J (lV x) F iL_saysStatement r0 σ 127 [(0, .ref (cw_a x.1 0)), (1, .ref (cw_a x.1 210)), (2, .int y9)] [] (mL_saysStatement_127 n y9 σ) := by
  unfold mL_saysStatement_127
  refine j_aload_n 0 rfl dL_saysStatement_127 ?_
  refine j_bipush dL_saysStatement_128 ejb_40 ?_
  refine jb_callSv (c := 1) (kL_says x n 40 σ) ls_L_87 ⟨Nat.le_of_ble_eq_true rfl, Nat.le_of_ble_eq_true rfl⟩ dL_saysStatement_130 rfl (Nat.le_of_ble_eq_true rfl) hu (by omega) (fun s10 => ?_)
  refine j_aload_n 0 rfl dL_saysStatement_133 ?_
  refine j_aload_n 1 rfl dL_saysStatement_134 ?_
  refine j_iload_n 2 rfl dL_saysStatement_135 ?_
  refine j_iconst dL_saysStatement_136 ejc_4 ?_
  refine j_iadd dL_saysStatement_137 ?_
  refine j_iald (lV_a_210 x s10) dL_saysStatement_138 ?_
  refine jb_callSv (c := 8) (kL_saysNumber x n (gA s10.2 0 (y9 + 4).toNatClampNeg) s10) ls_L_93 ⟨Nat.le_of_ble_eq_true rfl, Nat.le_of_ble_eq_true rfl⟩ dL_saysStatement_139 rfl (Nat.le_of_ble_eq_true rfl) (ej_budu 1 hu (by omega)) (by omega) (fun s11 => ?_)
  refine j_aload_n 0 rfl dL_saysStatement_142 ?_
  refine j_bipush dL_saysStatement_143 ejb_41 ?_
  refine jb_callSv (c := 1) (kL_says x n 41 s11) ls_L_87 ⟨Nat.le_of_ble_eq_true rfl, Nat.le_of_ble_eq_true rfl⟩ dL_saysStatement_145 rfl (Nat.le_of_ble_eq_true rfl) (ej_budu 8 (ej_budu 1 hu (by omega)) (by omega)) (by omega) (fun s12 => ?_)
  exact jb_vreturn (ej_finRu _ _ (ej_finRu _ _ (ej_finRu _ _ hq))) (ej_budu 1 (ej_budu 8 (ej_budu 1 hu (by omega)) (by omega)) (by omega)) dL_saysStatement_148
noncomputable def mL_saysStatement_107 (n : Nat) (y7 : Int32) (y8 : Int32) (σ : lw_S) : Option (lw_S) := (if y8 ≤ 1 then (if y8 = 0 then (mL_saysStatement_127 n y7 σ) else (if y8 = 2 then (mL_saysStatement_127 n y7 σ) else (some σ))) else ej_bv (mL_says n 125 σ) fun s13 => (if y8 = 0 then (mL_saysStatement_127 n y7 s13) else (if y8 = 2 then (mL_saysStatement_127 n y7 s13) else (some s13))))
set_option maxRecDepth 20000 in
set_option maxHeartbeats 2000000 in
theorem jL_saysStatement_107 (x : lw_T) (n : Nat) {r0 : lw_S} {F : ej_F} (hq : ej_finR x F none none r0 []) (hu : ej_bud F (11)) (y7 : Int32) (y8 : Int32) (σ : lw_S) : ej_J (lV x) F iL_saysStatement r0 σ 107 [(0, .ref (cw_a x.1 0)), (1, .ref (cw_a x.1 210)), (2, .int y7), (3, .int y8)] [] (mL_saysStatement_107 n y7 y8 σ) := by
  unfold mL_saysStatement_107
  refine j_iload_n 3 rfl dL_saysStatement_107 ?_
  refine j_iconst dL_saysStatement_108 ejc_1 ?_
  refine j_icmp_le dL_saysStatement_109 ?_ ?_
  · refine j_iload_n 3 rfl dL_saysStatement_118 ?_
    refine j_if_eq dL_saysStatement_119 ?_ ?_
    · exact j_sub [0, 1, 2] rfl (jL_saysStatement_127 x n hq (ej_budw hu (by omega)) y7 σ)
    · refine j_iload_n 3 rfl dL_saysStatement_122 ?_
      refine j_iconst dL_saysStatement_123 ejc_2 ?_
      refine j_icmp_ne dL_saysStatement_124 ?_ ?_
      · exact jb_vreturn hq hu dL_saysStatement_148
      · exact j_sub [0, 1, 2] rfl (jL_saysStatement_127 x n hq (ej_budw hu (by omega)) y7 σ)
  · refine j_aload_n 0 rfl dL_saysStatement_112 ?_
    refine j_bipush dL_saysStatement_113 ejb_125 ?_
    refine jb_callSv (c := 1) (kL_says x n 125 σ) ls_L_87 ⟨Nat.le_of_ble_eq_true rfl, Nat.le_of_ble_eq_true rfl⟩ dL_saysStatement_115 rfl (Nat.le_of_ble_eq_true rfl) hu (by omega) (fun s13 => ?_)
    refine j_iload_n 3 rfl dL_saysStatement_118 ?_
    refine j_if_eq dL_saysStatement_119 ?_ ?_
    · exact j_sub [0, 1, 2] rfl (jL_saysStatement_127 x n (ej_finRu _ _ hq) (ej_budw (ej_budu 1 hu (by omega)) (by omega)) y7 s13)
    · refine j_iload_n 3 rfl dL_saysStatement_122 ?_
      refine j_iconst dL_saysStatement_123 ejc_2 ?_
      refine j_icmp_ne dL_saysStatement_124 ?_ ?_
      · exact jb_vreturn (ej_finRu _ _ hq) (ej_budu 1 hu (by omega)) dL_saysStatement_148
      · exact j_sub [0, 1, 2] rfl (jL_saysStatement_127 x n (ej_finRu _ _ hq) (ej_budw (ej_budu 1 hu (by omega)) (by omega)) y7 s13)
noncomputable def mL_saysStatement_84 (n : Nat) (y5 : Int32) (y6 : Int32) (σ : lw_S) : Option (lw_S) := (if y6 = 2 then ej_bv (mL_says n 44 σ) fun s14 => ej_ck (y5 + 3) 60 (ej_bv (mL_says n (97 + (gA s14.2 0 (y5 + 3).toNatClampNeg)) s14) fun s15 => (mL_saysStatement_107 n y5 y6 s15)) else (mL_saysStatement_107 n y5 y6 σ))
set_option maxRecDepth 20000 in
set_option maxHeartbeats 2000000 in
theorem jL_saysStatement_84 (x : lw_T) (n : Nat) {r0 : lw_S} {F : ej_F} (hq : ej_finR x F none none r0 []) (hu : ej_bud F (13)) (y5 : Int32) (y6 : Int32) (σ : lw_S) : ej_J (lV x) F iL_saysStatement r0 σ 84 [(0, .ref (cw_a x.1 0)), (1, .ref (cw_a x.1 210)), (2, .int y5), (3, .int y6)] [] (mL_saysStatement_84 n y5 y6 σ) := by
  unfold mL_saysStatement_84
  refine j_iload_n 3 rfl dL_saysStatement_84 ?_
  refine j_iconst dL_saysStatement_85 ejc_2 ?_
  refine j_icmp_ne dL_saysStatement_86 ?_ ?_
  · exact j_sub [0, 1, 2, 3] rfl (jL_saysStatement_107 x n hq (ej_budw hu (by omega)) y5 y6 σ)
  · refine j_aload_n 0 rfl dL_saysStatement_89 ?_
    refine j_bipush dL_saysStatement_90 ejb_44 ?_
    refine jb_callSv (c := 1) (kL_says x n 44 σ) ls_L_87 ⟨Nat.le_of_ble_eq_true rfl, Nat.le_of_ble_eq_true rfl⟩ dL_saysStatement_92 rfl (Nat.le_of_ble_eq_true rfl) hu (by omega) (fun s14 => ?_)
    refine j_aload_n 0 rfl dL_saysStatement_95 ?_
    refine j_bipush dL_saysStatement_96 ejb_97 ?_
    refine j_aload_n 1 rfl dL_saysStatement_98 ?_
    refine j_iload_n 2 rfl dL_saysStatement_99 ?_
    refine j_iconst dL_saysStatement_100 ejc_3 ?_
    refine j_iadd dL_saysStatement_101 ?_
    refine j_iald (lV_a_210 x s14) dL_saysStatement_102 ?_
    refine j_iadd dL_saysStatement_103 ?_
    refine jb_callSv (c := 1) (kL_says x n (97 + (gA s14.2 0 (y5 + 3).toNatClampNeg)) s14) ls_L_87 ⟨Nat.le_of_ble_eq_true rfl, Nat.le_of_ble_eq_true rfl⟩ dL_saysStatement_104 rfl (Nat.le_of_ble_eq_true rfl) (ej_budu 1 hu (by omega)) (by omega) (fun s15 => ?_)
    exact j_sub [0, 1, 2, 3] rfl (jL_saysStatement_107 x n (ej_finRu _ _ (ej_finRu _ _ hq)) (ej_budw (ej_budu 1 (ej_budu 1 hu (by omega)) (by omega)) (by omega)) y5 y6 s15)
noncomputable def mL_saysStatement_58 (n : Nat) (y16 : Int32) (y17 : Int32) (y18 : Int32) (σ : lw_S) : Option (lw_S) := ej_bv (mL_says n y18 σ) fun s19 => (if y17 = 2 then ej_bv (mL_says n 123 s19) fun s21 => ej_ck (y16 + 2) 60 (ej_bv (mL_says n (97 + (gA s21.2 0 (y16 + 2).toNatClampNeg)) s21) fun s22 => (mL_saysStatement_84 n y16 y17 s22)) else ej_ck (y16 + 2) 60 (ej_bv (mL_says n (97 + (gA s19.2 0 (y16 + 2).toNatClampNeg)) s19) fun s20 => (mL_saysStatement_84 n y16 y17 s20)))
set_option maxRecDepth 20000 in
set_option maxHeartbeats 2000000 in
theorem jL_saysStatement_58 (x : lw_T) (n : Nat) {r0 : lw_S} {F : ej_F} (hq : ej_finR x F none none r0 []) (hu : ej_bud F (16)) (y16 : Int32) (y17 : Int32) (y18 : Int32) (σ : lw_S) : ej_J (lV x) F iL_saysStatement r0 σ 58 [(0, .ref (cw_a x.1 0)), (1, .ref (cw_a x.1 210)), (2, .int y16), (3, .int y17)] [.int y18, .ref (cw_a x.1 0)] (mL_saysStatement_58 n y16 y17 y18 σ) := by
  unfold mL_saysStatement_58
  refine jb_callSv (c := 1) (kL_says x n y18 σ) ls_L_87 ⟨Nat.le_of_ble_eq_true rfl, Nat.le_of_ble_eq_true rfl⟩ dL_saysStatement_58 rfl (Nat.le_of_ble_eq_true rfl) hu (by omega) (fun s19 => ?_)
  refine j_iload_n 3 rfl dL_saysStatement_61 ?_
  refine j_iconst dL_saysStatement_62 ejc_2 ?_
  refine j_icmp_ne dL_saysStatement_63 ?_ ?_
  · refine j_aload_n 0 rfl dL_saysStatement_72 ?_
    refine j_bipush dL_saysStatement_73 ejb_97 ?_
    refine j_aload_n 1 rfl dL_saysStatement_75 ?_
    refine j_iload_n 2 rfl dL_saysStatement_76 ?_
    refine j_iconst dL_saysStatement_77 ejc_2 ?_
    refine j_iadd dL_saysStatement_78 ?_
    refine j_iald (lV_a_210 x s19) dL_saysStatement_79 ?_
    refine j_iadd dL_saysStatement_80 ?_
    refine jb_callSv (c := 1) (kL_says x n (97 + (gA s19.2 0 (y16 + 2).toNatClampNeg)) s19) ls_L_87 ⟨Nat.le_of_ble_eq_true rfl, Nat.le_of_ble_eq_true rfl⟩ dL_saysStatement_81 rfl (Nat.le_of_ble_eq_true rfl) (ej_budu 1 hu (by omega)) (by omega) (fun s20 => ?_)
    exact j_sub [0, 1, 2, 3] rfl (jL_saysStatement_84 x n (ej_finRu _ _ (ej_finRu _ _ hq)) (ej_budw (ej_budu 1 (ej_budu 1 hu (by omega)) (by omega)) (by omega)) y16 y17 s20)
  · refine j_aload_n 0 rfl dL_saysStatement_66 ?_
    refine j_bipush dL_saysStatement_67 ejb_123 ?_
    refine jb_callSv (c := 1) (kL_says x n 123 s19) ls_L_87 ⟨Nat.le_of_ble_eq_true rfl, Nat.le_of_ble_eq_true rfl⟩ dL_saysStatement_69 rfl (Nat.le_of_ble_eq_true rfl) (ej_budu 1 hu (by omega)) (by omega) (fun s21 => ?_)
    refine j_aload_n 0 rfl dL_saysStatement_72 ?_
    refine j_bipush dL_saysStatement_73 ejb_97 ?_
    refine j_aload_n 1 rfl dL_saysStatement_75 ?_
    refine j_iload_n 2 rfl dL_saysStatement_76 ?_
    refine j_iconst dL_saysStatement_77 ejc_2 ?_
    refine j_iadd dL_saysStatement_78 ?_
    refine j_iald (lV_a_210 x s21) dL_saysStatement_79 ?_
    refine j_iadd dL_saysStatement_80 ?_
    refine jb_callSv (c := 1) (kL_says x n (97 + (gA s21.2 0 (y16 + 2).toNatClampNeg)) s21) ls_L_87 ⟨Nat.le_of_ble_eq_true rfl, Nat.le_of_ble_eq_true rfl⟩ dL_saysStatement_81 rfl (Nat.le_of_ble_eq_true rfl) (ej_budu 1 (ej_budu 1 hu (by omega)) (by omega)) (by omega) (fun s22 => ?_)
    exact j_sub [0, 1, 2, 3] rfl (jL_saysStatement_84 x n (ej_finRu _ _ (ej_finRu _ _ (ej_finRu _ _ hq))) (ej_budw (ej_budu 1 (ej_budu 1 (ej_budu 1 hu (by omega)) (by omega)) (by omega)) (by omega)) y16 y17 s22)
noncomputable def mL_saysStatement_19 (n : Nat) (y2 : Int32) (y3 : Int32) (σ : lw_S) : Option (lw_S) := ej_ck (y2 + 1) 60 (ej_bv (mL_says n (97 + (gA σ.2 0 (y2 + 1).toNatClampNeg)) σ) fun s4 => (if y3 = 3 then (mL_saysStatement_84 n y2 y3 s4) else (if y3 = 0 then (mL_saysStatement_58 n y2 y3 32 s4) else (if y3 = 4 then (mL_saysStatement_58 n y2 y3 33 s4) else (mL_saysStatement_58 n y2 y3 61 s4)))))
set_option maxRecDepth 20000 in
set_option maxHeartbeats 2000000 in
theorem jL_saysStatement_19 (x : lw_T) (n : Nat) {r0 : lw_S} {F : ej_F} (hq : ej_finR x F none none r0 []) (hu : ej_bud F (17)) (y2 : Int32) (y3 : Int32) (σ : lw_S) : ej_J (lV x) F iL_saysStatement r0 σ 19 [(0, .ref (cw_a x.1 0)), (1, .ref (cw_a x.1 210)), (2, .int y2), (3, .int y3)] [] (mL_saysStatement_19 n y2 y3 σ) := by
  unfold mL_saysStatement_19
  refine j_aload_n 0 rfl dL_saysStatement_19 ?_
  refine j_bipush dL_saysStatement_20 ejb_97 ?_
  refine j_aload_n 1 rfl dL_saysStatement_22 ?_
  refine j_iload_n 2 rfl dL_saysStatement_23 ?_
  refine j_iconst dL_saysStatement_24 ejc_1 ?_
  refine j_iadd dL_saysStatement_25 ?_
  refine j_iald (lV_a_210 x σ) dL_saysStatement_26 ?_
  refine j_iadd dL_saysStatement_27 ?_
  refine jb_callSv (c := 1) (kL_says x n (97 + (gA σ.2 0 (y2 + 1).toNatClampNeg)) σ) ls_L_87 ⟨Nat.le_of_ble_eq_true rfl, Nat.le_of_ble_eq_true rfl⟩ dL_saysStatement_28 rfl (Nat.le_of_ble_eq_true rfl) hu (by omega) (fun s4 => ?_)
  refine j_iload_n 3 rfl dL_saysStatement_31 ?_
  refine j_iconst dL_saysStatement_32 ejc_3 ?_
  refine j_icmp_eq dL_saysStatement_33 ?_ ?_
  · exact j_sub [0, 1, 2, 3] rfl (jL_saysStatement_84 x n (ej_finRu _ _ hq) (ej_budw (ej_budu 1 hu (by omega)) (by omega)) y2 y3 s4)
  · refine j_aload_n 0 rfl dL_saysStatement_36 ?_
    refine j_iload_n 3 rfl dL_saysStatement_37 ?_
    refine j_if_ne dL_saysStatement_38 ?_ ?_
    · refine j_iload_n 3 rfl dL_saysStatement_46 ?_
      refine j_iconst dL_saysStatement_47 ejc_4 ?_
      refine j_icmp_ne dL_saysStatement_48 ?_ ?_
      · refine j_bipush dL_saysStatement_56 ejb_61 ?_
        exact j_sub [0, 1, 2, 3] rfl (jL_saysStatement_58 x n (ej_finRu _ _ hq) (ej_budw (ej_budu 1 hu (by omega)) (by omega)) y2 y3 61 s4)
      · refine j_bipush dL_saysStatement_51 ejb_33 ?_
        refine j_goto dL_saysStatement_53 ?_
        exact j_sub [0, 1, 2, 3] rfl (jL_saysStatement_58 x n (ej_finRu _ _ hq) (ej_budw (ej_budu 1 hu (by omega)) (by omega)) y2 y3 33 s4)
    · refine j_bipush dL_saysStatement_41 ejb_32 ?_
      refine j_goto dL_saysStatement_43 ?_
      exact j_sub [0, 1, 2, 3] rfl (jL_saysStatement_58 x n (ej_finRu _ _ hq) (ej_budw (ej_budu 1 hu (by omega)) (by omega)) y2 y3 32 s4)
noncomputable def mL_saysStatement (n : Nat) (a2 : Int32) (σ : lw_S) : Option (lw_S) := ej_ck a2 60 (ej_nm (gA σ.2 0 a2.toNatClampNeg) fun x1 => (if x1 ≤ 2 then (mL_saysStatement_19 n a2 x1 σ) else ej_bi (mL_act n 0 529965081956 5 σ) fun r23 s24 => (mL_saysStatement_19 n a2 x1 s24)))
set_option maxRecDepth 20000 in
set_option maxHeartbeats 2000000 in
theorem jL_saysStatement (x : lw_T) (n : Nat) (a2 : Int32) (σ : lw_S) {F : ej_F} {r0 : lw_S} (hq : ej_finR x F none none r0 []) (hu : ej_bud F 18) : ej_J (lV x) F iL_saysStatement r0 σ 0 [(0, .ref (cw_a x.1 0)), (1, .ref (cw_a x.1 210)), (2, .int a2)] [] (mL_saysStatement n a2 σ) := by
  unfold mL_saysStatement
  refine j_aload_n 1 rfl dL_saysStatement_0 ?_
  refine j_iload_n 2 rfl dL_saysStatement_1 ?_
  refine j_iald (lV_a_210 x σ) dL_saysStatement_2 ?_
  refine j_nmi (fun x1 => ?_)
  refine j_istore_n (i := 3) (L' := [(3, .int x1), (0, .ref (cw_a x.1 0)), (1, .ref (cw_a x.1 210)), (2, .int a2)]) dL_saysStatement_3 rfl (Nat.le_of_ble_eq_true rfl) rfl ?_
  refine j_iload_n 0 rfl dL_saysStatement_4 ?_
  refine j_iconst dL_saysStatement_5 ejc_2 ?_
  refine j_icmp_le dL_saysStatement_6 ?_ ?_
  · exact j_sub [1, 2, 3, 0] rfl (jL_saysStatement_19 x n hq (ej_budw hu (by omega)) a2 x1 σ)
  · refine j_aload_n 1 rfl dL_saysStatement_9 ?_
    refine j_iconst dL_saysStatement_10 ejc_0 ?_
    refine j_ldc2 dL_saysStatement_11 kl_L_91 ?_
    refine j_iconst dL_saysStatement_14 ejc_5 ?_
    refine jb_callXi (c := 1) (kL_act x n 0 529965081956 5 σ) lx_L_80 ⟨Nat.le_of_ble_eq_true rfl, Nat.le_of_ble_eq_true rfl⟩ dL_saysStatement_15 rfl (Nat.le_of_ble_eq_true rfl) hu (by omega) (fun r23 s24 => ?_)
    refine j_pop dL_saysStatement_18 rfl ?_
    exact j_sub [1, 2, 3, 0] rfl (jL_saysStatement_19 x n (ej_finRu _ _ hq) (ej_budw (ej_budu 1 hu (by omega)) (by omega)) a2 x1 s24)
theorem kL_saysStatement (x : lw_T) (n : Nat) (a2 : Int32) (σ : lw_S) : ∀ z, mL_saysStatement n a2 σ = some z → ∀ l : Launch, l.stackTraces = false → ej_Cb l x iL_saysStatement yL_saysStatement none [.ref (cw_a x.1 0), .ref (cw_a x.1 210), .int a2] σ 18 none z := fun z h l hl => ej_conB_of hl pn_L rfl (Nat.le_of_ble_eq_true rfl) rfl h (fun F hq hu => jL_saysStatement x n a2 σ hq hu)

