noncomputable def mL_areWays_382 (n : Nat) (f166 : Int32 → Int32 → lw_S → Option (Int32 × lw_S)) (y15 : Int32) (y16 : Int32) (y17 : Int32) (σ : lw_S) : Option (Int32 × lw_S) := (if y15 = 0 then ej_nm (y16 + 1) fun x18 => (f166 0 x18 σ) else (if y17 < 0 then ej_nm (y16 + 1) fun x19 => (f166 1 x19 σ) else ej_bi (ej_lcn (m10_nodeAt n y16 0 σ.1) σ) fun r20 s21 => ej_bi (ej_lc (m10_home n s21.1) s21) fun r22 s23 => (if r20 = r22 then ej_bi (ej_lcn (m10_costAt n y16 0 s23.1) s23) fun r25 s26 => (if r25 = 0 then ej_bi (ej_lcn (m10_stepAt n y16 0 s26.1) s26) fun r28 s29 => (if r28 = 0 then ej_bi (ej_lcn (m10_costAt n y16 y17 s29.1) s29) fun r31 s32 => ej_bi (ej_lcn (m10_cost n y16 s32.1) s32) fun r33 s34 => (if r31 = r33 then ej_bi (ej_lcn (m10_nodeAt n y16 y17 s34.1) s34) fun r36 s37 => (if r36 = y16 then ej_nm (y16 + 1) fun x39 => (f166 1 x39 s37) else ej_nm (y16 + 1) fun x38 => (f166 0 x38 s37)) else ej_nm (y16 + 1) fun x35 => (f166 0 x35 s34)) else ej_nm (y16 + 1) fun x30 => (f166 0 x30 s29)) else ej_nm (y16 + 1) fun x27 => (f166 0 x27 s26)) else ej_nm (y16 + 1) fun x24 => (f166 0 x24 s23))))
set_option maxRecDepth 20000 in
set_option maxHeartbeats 2000000 in
theorem jL_areWays_382 (x : lw_T) (n : Nat) {F : ej_F} {r0 : Int32 × lw_S} (hq : ej_fin (lV x) F (some .boolean) (some (.int r0.1)) r0.2) (f166 : Int32 → Int32 → lw_S → Option (Int32 × lw_S)) (H166 : ∀ (y3 : Int32) (y4 : Int32) (σ : lw_S), ej_J (lV x) F iL_areWays r0 σ 166 [(0, .ref (cw_a x.1 0)), (1, .ref (cw_a x.1 210)), (2, .ref (cw_a x.1 211)), (3, .ref (cw_a x.1 212)), (4, .int y3), (5, .int y4)] [] (f166 y3 y4 σ)) (y15 : Int32) (y16 : Int32) (y17 : Int32) (σ : lw_S) : ej_J (lV x) F iL_areWays r0 σ 382 [(0, .ref (cw_a x.1 0)), (1, .ref (cw_a x.1 210)), (2, .ref (cw_a x.1 211)), (3, .ref (cw_a x.1 212)), (4, .int y15), (5, .int y16), (6, .int y17)] [] (mL_areWays_382 n f166 y15 y16 y17 σ) := by
  unfold mL_areWays_382
  refine j_iload 4 rfl dL_areWays_382 ?_
  refine j_if_eq dL_areWays_384 ?_ ?_
  · refine j_iconst dL_areWays_460 ejc_0 ?_
    refine j_istore (i := 4) (L' := [(4, .int 0), (0, .ref (cw_a x.1 0)), (1, .ref (cw_a x.1 210)), (2, .ref (cw_a x.1 211)), (3, .ref (cw_a x.1 212)), (5, .int y16), (6, .int y17)]) dL_areWays_461 (Nat.le_of_ble_eq_true rfl) rfl ?_
    refine j_iinc (i := 5) (v := 1) (Ly := fun x18 => [(5, .int x18), (4, .int 0), (0, .ref (cw_a x.1 0)), (1, .ref (cw_a x.1 210)), (2, .ref (cw_a x.1 211)), (3, .ref (cw_a x.1 212)), (6, .int y17)]) 5 dL_areWays_463 rfl ejc_1 (Nat.le_of_ble_eq_true rfl) (fun _ => rfl) (fun x18 => ?_)
    refine j_goto dL_areWays_466 ?_
    exact j_sub [2, 3, 4, 5, 1, 0] rfl (H166 0 x18 σ)
  · refine j_iload 6 rfl dL_areWays_387 ?_
    refine j_if_lt dL_areWays_389 ?_ ?_
    · refine j_iconst dL_areWays_456 ejc_1 ?_
      refine j_goto dL_areWays_457 ?_
      refine j_istore (i := 4) (L' := [(4, .int 1), (0, .ref (cw_a x.1 0)), (1, .ref (cw_a x.1 210)), (2, .ref (cw_a x.1 211)), (3, .ref (cw_a x.1 212)), (5, .int y16), (6, .int y17)]) dL_areWays_461 (Nat.le_of_ble_eq_true rfl) rfl ?_
      refine j_iinc (i := 5) (v := 1) (Ly := fun x19 => [(5, .int x19), (4, .int 1), (0, .ref (cw_a x.1 0)), (1, .ref (cw_a x.1 210)), (2, .ref (cw_a x.1 211)), (3, .ref (cw_a x.1 212)), (6, .int y17)]) 5 dL_areWays_463 rfl ejc_1 (Nat.le_of_ble_eq_true rfl) (fun _ => rfl) (fun x19 => ?_)
      refine j_goto dL_areWays_466 ?_
      exact j_sub [2, 3, 4, 5, 1, 0] rfl (H166 1 x19 σ)
    · refine j_aload_n 0 rfl dL_areWays_392 ?_
      refine j_iload 5 rfl dL_areWays_393 ?_
      refine j_iconst dL_areWays_395 ejc_0 ?_
      refine j_callVi (lcn_con (n10_nodeAt x.1 n y16 0 σ.1)) lv_L_64 (lV_rc_0 x σ) ⟨Nat.le_of_ble_eq_true rfl, Nat.le_of_ble_eq_true rfl⟩ dL_areWays_396 rfl (Nat.le_of_ble_eq_true rfl) (fun r20 s21 => ?_)
      refine j_aload_n 0 rfl dL_areWays_399 ?_
      refine j_callVi (fun z1 z2 z3 z4 => lc_con (f := fun r => some (.int r)) (fun z5 z6 z7 => c10_home x.1 n s21.1 z5 z6 z7 z4) z1 z2 z3) lv_L_117 (lV_rc_0 x s21) ⟨Nat.le_of_ble_eq_true rfl, Nat.le_of_ble_eq_true rfl⟩ dL_areWays_400 rfl (Nat.le_of_ble_eq_true rfl) (fun r22 s23 => ?_)
      refine j_icmp_ne dL_areWays_403 ?_ ?_
      · refine j_iconst dL_areWays_460 ejc_0 ?_
        refine j_istore (i := 4) (L' := [(4, .int 0), (0, .ref (cw_a x.1 0)), (1, .ref (cw_a x.1 210)), (2, .ref (cw_a x.1 211)), (3, .ref (cw_a x.1 212)), (5, .int y16), (6, .int y17)]) dL_areWays_461 (Nat.le_of_ble_eq_true rfl) rfl ?_
        refine j_iinc (i := 5) (v := 1) (Ly := fun x24 => [(5, .int x24), (4, .int 0), (0, .ref (cw_a x.1 0)), (1, .ref (cw_a x.1 210)), (2, .ref (cw_a x.1 211)), (3, .ref (cw_a x.1 212)), (6, .int y17)]) 5 dL_areWays_463 rfl ejc_1 (Nat.le_of_ble_eq_true rfl) (fun _ => rfl) (fun x24 => ?_)
        refine j_goto dL_areWays_466 ?_
        exact j_sub [2, 3, 4, 5, 1, 0] rfl (H166 0 x24 s23)
      · refine j_aload_n 0 rfl dL_areWays_406 ?_
        refine j_iload 5 rfl dL_areWays_407 ?_
        refine j_iconst dL_areWays_409 ejc_0 ?_
        refine j_callVi (lcn_con (n10_costAt x.1 n y16 0 s23.1)) lv_L_67 (lV_rc_0 x s23) ⟨Nat.le_of_ble_eq_true rfl, Nat.le_of_ble_eq_true rfl⟩ dL_areWays_410 rfl (Nat.le_of_ble_eq_true rfl) (fun r25 s26 => ?_)
        refine j_if_ne dL_areWays_413 ?_ ?_
        · refine j_iconst dL_areWays_460 ejc_0 ?_
          refine j_istore (i := 4) (L' := [(4, .int 0), (0, .ref (cw_a x.1 0)), (1, .ref (cw_a x.1 210)), (2, .ref (cw_a x.1 211)), (3, .ref (cw_a x.1 212)), (5, .int y16), (6, .int y17)]) dL_areWays_461 (Nat.le_of_ble_eq_true rfl) rfl ?_
          refine j_iinc (i := 5) (v := 1) (Ly := fun x27 => [(5, .int x27), (4, .int 0), (0, .ref (cw_a x.1 0)), (1, .ref (cw_a x.1 210)), (2, .ref (cw_a x.1 211)), (3, .ref (cw_a x.1 212)), (6, .int y17)]) 5 dL_areWays_463 rfl ejc_1 (Nat.le_of_ble_eq_true rfl) (fun _ => rfl) (fun x27 => ?_)
          refine j_goto dL_areWays_466 ?_
          exact j_sub [2, 3, 4, 5, 1, 0] rfl (H166 0 x27 s26)
        · refine j_aload_n 0 rfl dL_areWays_416 ?_
          refine j_iload 5 rfl dL_areWays_417 ?_
          refine j_iconst dL_areWays_419 ejc_0 ?_
          refine j_callVi (lcn_con (n10_stepAt x.1 n y16 0 s26.1)) lv_L_70 (lV_rc_0 x s26) ⟨Nat.le_of_ble_eq_true rfl, Nat.le_of_ble_eq_true rfl⟩ dL_areWays_420 rfl (Nat.le_of_ble_eq_true rfl) (fun r28 s29 => ?_)
          refine j_if_ne dL_areWays_423 ?_ ?_
          · refine j_iconst dL_areWays_460 ejc_0 ?_
            refine j_istore (i := 4) (L' := [(4, .int 0), (0, .ref (cw_a x.1 0)), (1, .ref (cw_a x.1 210)), (2, .ref (cw_a x.1 211)), (3, .ref (cw_a x.1 212)), (5, .int y16), (6, .int y17)]) dL_areWays_461 (Nat.le_of_ble_eq_true rfl) rfl ?_
            refine j_iinc (i := 5) (v := 1) (Ly := fun x30 => [(5, .int x30), (4, .int 0), (0, .ref (cw_a x.1 0)), (1, .ref (cw_a x.1 210)), (2, .ref (cw_a x.1 211)), (3, .ref (cw_a x.1 212)), (6, .int y17)]) 5 dL_areWays_463 rfl ejc_1 (Nat.le_of_ble_eq_true rfl) (fun _ => rfl) (fun x30 => ?_)
            refine j_goto dL_areWays_466 ?_
            exact j_sub [2, 3, 4, 5, 1, 0] rfl (H166 0 x30 s29)
          · refine j_aload_n 0 rfl dL_areWays_426 ?_
            refine j_iload 5 rfl dL_areWays_427 ?_
            refine j_iload 6 rfl dL_areWays_429 ?_
            refine j_callVi (lcn_con (n10_costAt x.1 n y16 y17 s29.1)) lv_L_67 (lV_rc_0 x s29) ⟨Nat.le_of_ble_eq_true rfl, Nat.le_of_ble_eq_true rfl⟩ dL_areWays_431 rfl (Nat.le_of_ble_eq_true rfl) (fun r31 s32 => ?_)
            refine j_aload_n 0 rfl dL_areWays_434 ?_
            refine j_iload 5 rfl dL_areWays_435 ?_
            refine j_callVi (lcn_con (n10_cost x.1 n y16 s32.1)) lv_L_52 (lV_rc_0 x s32) ⟨Nat.le_of_ble_eq_true rfl, Nat.le_of_ble_eq_true rfl⟩ dL_areWays_437 rfl (Nat.le_of_ble_eq_true rfl) (fun r33 s34 => ?_)
            refine j_icmp_ne dL_areWays_440 ?_ ?_
            · refine j_iconst dL_areWays_460 ejc_0 ?_
              refine j_istore (i := 4) (L' := [(4, .int 0), (0, .ref (cw_a x.1 0)), (1, .ref (cw_a x.1 210)), (2, .ref (cw_a x.1 211)), (3, .ref (cw_a x.1 212)), (5, .int y16), (6, .int y17)]) dL_areWays_461 (Nat.le_of_ble_eq_true rfl) rfl ?_
              refine j_iinc (i := 5) (v := 1) (Ly := fun x35 => [(5, .int x35), (4, .int 0), (0, .ref (cw_a x.1 0)), (1, .ref (cw_a x.1 210)), (2, .ref (cw_a x.1 211)), (3, .ref (cw_a x.1 212)), (6, .int y17)]) 5 dL_areWays_463 rfl ejc_1 (Nat.le_of_ble_eq_true rfl) (fun _ => rfl) (fun x35 => ?_)
              refine j_goto dL_areWays_466 ?_
              exact j_sub [2, 3, 4, 5, 1, 0] rfl (H166 0 x35 s34)
            · refine j_aload_n 0 rfl dL_areWays_443 ?_
              refine j_iload 5 rfl dL_areWays_444 ?_
              refine j_iload 6 rfl dL_areWays_446 ?_
              refine j_callVi (lcn_con (n10_nodeAt x.1 n y16 y17 s34.1)) lv_L_64 (lV_rc_0 x s34) ⟨Nat.le_of_ble_eq_true rfl, Nat.le_of_ble_eq_true rfl⟩ dL_areWays_448 rfl (Nat.le_of_ble_eq_true rfl) (fun r36 s37 => ?_)
              refine j_iload 5 rfl dL_areWays_451 ?_
              refine j_icmp_ne dL_areWays_453 ?_ ?_
              · refine j_iconst dL_areWays_460 ejc_0 ?_
                refine j_istore (i := 4) (L' := [(4, .int 0), (0, .ref (cw_a x.1 0)), (1, .ref (cw_a x.1 210)), (2, .ref (cw_a x.1 211)), (3, .ref (cw_a x.1 212)), (5, .int y16), (6, .int y17)]) dL_areWays_461 (Nat.le_of_ble_eq_true rfl) rfl ?_
                refine j_iinc (i := 5) (v := 1) (Ly := fun x38 => [(5, .int x38), (4, .int 0), (0, .ref (cw_a x.1 0)), (1, .ref (cw_a x.1 210)), (2, .ref (cw_a x.1 211)), (3, .ref (cw_a x.1 212)), (6, .int y17)]) 5 dL_areWays_463 rfl ejc_1 (Nat.le_of_ble_eq_true rfl) (fun _ => rfl) (fun x38 => ?_)
                refine j_goto dL_areWays_466 ?_
                exact j_sub [2, 3, 4, 5, 1, 0] rfl (H166 0 x38 s37)
              · refine j_iconst dL_areWays_456 ejc_1 ?_
                refine j_goto dL_areWays_457 ?_
                refine j_istore (i := 4) (L' := [(4, .int 1), (0, .ref (cw_a x.1 0)), (1, .ref (cw_a x.1 210)), (2, .ref (cw_a x.1 211)), (3, .ref (cw_a x.1 212)), (5, .int y16), (6, .int y17)]) dL_areWays_461 (Nat.le_of_ble_eq_true rfl) rfl ?_
                refine j_iinc (i := 5) (v := 1) (Ly := fun x39 => [(5, .int x39), (4, .int 1), (0, .ref (cw_a x.1 0)), (1, .ref (cw_a x.1 210)), (2, .ref (cw_a x.1 211)), (3, .ref (cw_a x.1 212)), (6, .int y17)]) 5 dL_areWays_463 rfl ejc_1 (Nat.le_of_ble_eq_true rfl) (fun _ => rfl) (fun x39 => ?_)
                refine j_goto dL_areWays_466 ?_
                exact j_sub [2, 3, 4, 5, 1, 0] rfl (H166 1 x39 s37)
noncomputable def mL_areWays_259 (n : Nat) (f166 : Int32 → Int32 → lw_S → Option (Int32 × lw_S)) (k : Nat) : Int32 → Int32 → Int32 → Int32 → lw_S → Option (Int32 × lw_S) := Nat.rec (motive := fun _ => Int32 → Int32 → Int32 → Int32 → lw_S → Option (Int32 × lw_S)) (fun _ _ _ _ _ => none) (fun _ ih y11 y12 y13 y14 σ => (if y14 ≤ 0 then (mL_areWays_382 n f166 y11 y12 y13 σ) else (if y11 = 0 then (mL_areWays_382 n f166 y11 y12 y13 σ) else ej_bi (ej_lcn (m10_nodeAt n y12 y14 σ.1) σ) fun r40 s41 => ej_bi (ej_lcn (m10_nodeAt n y12 (y14 - 1) s41.1) s41) fun r42 s43 => ej_bi (ej_lcn (m10_stepAt n y12 y14 s43.1) s43) fun r44 s45 => ej_bi (mL_step n r42 r40 r44 s45) fun r46 s47 => (if r46 < 0 then ej_nm (y14 + (-1)) fun x48 => (ih 0 y12 y13 x48 s47) else ej_bi (ej_lcn (m10_costAt n y12 y14 s47.1) s47) fun r49 s50 => ej_bi (ej_lcn (m10_costAt n y12 (y14 - 1) s50.1) s50) fun r51 s52 => (if r49 = r51 + r46 then ej_bi (ej_lcn (m10_cost n r40 s52.1) s52) fun r54 s55 => ej_bi (ej_lcn (m10_costAt n y12 y14 s55.1) s55) fun r56 s57 => (if r54 = r56 then ej_bi (ej_lcn (m10_steps n r40 s57.1) s57) fun r59 s60 => (if r59 = y14 then ej_nm (y14 + (-1)) fun x62 => (ih 1 y12 y13 x62 s60) else ej_nm (y14 + (-1)) fun x61 => (ih 0 y12 y13 x61 s60)) else ej_nm (y14 + (-1)) fun x58 => (ih 0 y12 y13 x58 s57)) else ej_nm (y14 + (-1)) fun x53 => (ih 0 y12 y13 x53 s52)))))) k
theorem mL_areWays_259_s (n : Nat) (f166 : Int32 → Int32 → lw_S → Option (Int32 × lw_S)) (k : Nat) (y11 : Int32) (y12 : Int32) (y13 : Int32) (y14 : Int32) (σ : lw_S) : mL_areWays_259 n f166 (k + 1) y11 y12 y13 y14 σ = ((if y14 ≤ 0 then (mL_areWays_382 n f166 y11 y12 y13 σ) else (if y11 = 0 then (mL_areWays_382 n f166 y11 y12 y13 σ) else ej_bi (ej_lcn (m10_nodeAt n y12 y14 σ.1) σ) fun r40 s41 => ej_bi (ej_lcn (m10_nodeAt n y12 (y14 - 1) s41.1) s41) fun r42 s43 => ej_bi (ej_lcn (m10_stepAt n y12 y14 s43.1) s43) fun r44 s45 => ej_bi (mL_step n r42 r40 r44 s45) fun r46 s47 => (if r46 < 0 then ej_nm (y14 + (-1)) fun x48 => ((mL_areWays_259 n f166 k) 0 y12 y13 x48 s47) else ej_bi (ej_lcn (m10_costAt n y12 y14 s47.1) s47) fun r49 s50 => ej_bi (ej_lcn (m10_costAt n y12 (y14 - 1) s50.1) s50) fun r51 s52 => (if r49 = r51 + r46 then ej_bi (ej_lcn (m10_cost n r40 s52.1) s52) fun r54 s55 => ej_bi (ej_lcn (m10_costAt n y12 y14 s55.1) s55) fun r56 s57 => (if r54 = r56 then ej_bi (ej_lcn (m10_steps n r40 s57.1) s57) fun r59 s60 => (if r59 = y14 then ej_nm (y14 + (-1)) fun x62 => ((mL_areWays_259 n f166 k) 1 y12 y13 x62 s60) else ej_nm (y14 + (-1)) fun x61 => ((mL_areWays_259 n f166 k) 0 y12 y13 x61 s60)) else ej_nm (y14 + (-1)) fun x58 => ((mL_areWays_259 n f166 k) 0 y12 y13 x58 s57)) else ej_nm (y14 + (-1)) fun x53 => ((mL_areWays_259 n f166 k) 0 y12 y13 x53 s52))))) : Option (Int32 × lw_S)) := rfl
set_option maxRecDepth 20000 in
set_option maxHeartbeats 2000000 in
theorem jL_areWays_259 (x : lw_T) (n : Nat) {F : ej_F} {r0 : Int32 × lw_S} (hq : ej_fin (lV x) F (some .boolean) (some (.int r0.1)) r0.2) (f166 : Int32 → Int32 → lw_S → Option (Int32 × lw_S)) (H166 : ∀ (y3 : Int32) (y4 : Int32) (σ : lw_S), ej_J (lV x) F iL_areWays r0 σ 166 [(0, .ref (cw_a x.1 0)), (1, .ref (cw_a x.1 210)), (2, .ref (cw_a x.1 211)), (3, .ref (cw_a x.1 212)), (4, .int y3), (5, .int y4)] [] (f166 y3 y4 σ)) : ∀ (k : Nat) (y11 : Int32) (y12 : Int32) (y13 : Int32) (y14 : Int32) (σ : lw_S), ej_J (lV x) F iL_areWays r0 σ 259 [(0, .ref (cw_a x.1 0)), (1, .ref (cw_a x.1 210)), (2, .ref (cw_a x.1 211)), (3, .ref (cw_a x.1 212)), (4, .int y11), (5, .int y12), (6, .int y13), (7, .int y14)] [] (mL_areWays_259 n f166 k y11 y12 y13 y14 σ) := by
  intro k
  induction k with
  | zero => intro y11 y12 y13 y14 σ; exact j_none
  | succ k ih =>
    intro y11 y12 y13 y14 σ
    rw [mL_areWays_259_s]
    refine j_iload 7 rfl dL_areWays_259 ?_
    refine j_if_le dL_areWays_261 ?_ ?_
    · exact j_sub [0, 1, 2, 3, 4, 5, 6] rfl (jL_areWays_382 x n hq f166 H166 y11 y12 y13 σ)
    · refine j_iload 4 rfl dL_areWays_264 ?_
      refine j_if_eq dL_areWays_266 ?_ ?_
      · exact j_sub [0, 1, 2, 3, 4, 5, 6] rfl (jL_areWays_382 x n hq f166 H166 y11 y12 y13 σ)
      · refine j_aload_n 0 rfl dL_areWays_269 ?_
        refine j_iload 5 rfl dL_areWays_270 ?_
        refine j_iload 7 rfl dL_areWays_272 ?_
        refine j_callVi (lcn_con (n10_nodeAt x.1 n y12 y14 σ.1)) lv_L_64 (lV_rc_0 x σ) ⟨Nat.le_of_ble_eq_true rfl, Nat.le_of_ble_eq_true rfl⟩ dL_areWays_274 rfl (Nat.le_of_ble_eq_true rfl) (fun r40 s41 => ?_)
        refine j_istore (i := 8) (L' := [(8, .int r40), (0, .ref (cw_a x.1 0)), (1, .ref (cw_a x.1 210)), (2, .ref (cw_a x.1 211)), (3, .ref (cw_a x.1 212)), (4, .int y11), (5, .int y12), (6, .int y13), (7, .int y14)]) dL_areWays_277 (Nat.le_of_ble_eq_true rfl) rfl ?_
        refine j_aload_n 1 rfl dL_areWays_279 ?_
        refine j_iload 6 rfl dL_areWays_280 ?_
        refine j_iload 8 rfl dL_areWays_282 ?_
        refine j_iconst dL_areWays_284 ejc_1 ?_
        refine j_isub dL_areWays_285 ?_
        refine j_callVi (lcn_con (n10_nodeAt x.1 n y12 (y14 - 1) s41.1)) lv_L_64 (lV_rc_0 x s41) ⟨Nat.le_of_ble_eq_true rfl, Nat.le_of_ble_eq_true rfl⟩ dL_areWays_286 rfl (Nat.le_of_ble_eq_true rfl) (fun r42 s43 => ?_)
        refine j_istore (i := 9) (L' := [(9, .int r42), (8, .int r40), (0, .ref (cw_a x.1 0)), (1, .ref (cw_a x.1 210)), (2, .ref (cw_a x.1 211)), (3, .ref (cw_a x.1 212)), (4, .int y11), (5, .int y12), (6, .int y13), (7, .int y14)]) dL_areWays_289 (Nat.le_of_ble_eq_true rfl) rfl ?_
        refine j_aload_n 2 rfl dL_areWays_291 ?_
        refine j_aload_n 3 rfl dL_areWays_292 ?_
        refine j_aload_n 4 rfl dL_areWays_293 ?_
        refine j_aload_n 5 rfl dL_areWays_294 ?_
        refine j_iload 0 rfl dL_areWays_295 ?_
        refine j_iload 1 rfl dL_areWays_297 ?_
        refine j_aload_n 2 rfl dL_areWays_299 ?_
        refine j_iload 7 rfl dL_areWays_300 ?_
        refine j_iload 9 rfl dL_areWays_302 ?_
        refine j_callVi (lcn_con (n10_stepAt x.1 n y12 y14 s43.1)) lv_L_70 (lV_rc_0 x s43) ⟨Nat.le_of_ble_eq_true rfl, Nat.le_of_ble_eq_true rfl⟩ dL_areWays_304 rfl (Nat.le_of_ble_eq_true rfl) (fun r44 s45 => ?_)
        refine j_callSi (kL_step x n r42 r40 r44 s45) ls_L_136 ⟨Nat.le_of_ble_eq_true rfl, Nat.le_of_ble_eq_true rfl⟩ dL_areWays_307 rfl (Nat.le_of_ble_eq_true rfl) (fun r46 s47 => ?_)
        refine j_istore (i := 10) (L' := [(10, .int r46), (9, .int r42), (8, .int r40), (0, .ref (cw_a x.1 0)), (1, .ref (cw_a x.1 210)), (2, .ref (cw_a x.1 211)), (3, .ref (cw_a x.1 212)), (4, .int y11), (5, .int y12), (6, .int y13), (7, .int y14)]) dL_areWays_310 (Nat.le_of_ble_eq_true rfl) rfl ?_
        refine j_iload 0 rfl dL_areWays_312 ?_
        refine j_if_lt dL_areWays_314 ?_ ?_
        · refine j_iconst dL_areWays_373 ejc_0 ?_
          refine j_istore (i := 4) (L' := [(4, .int 0), (10, .int r46), (9, .int r42), (8, .int r40), (0, .ref (cw_a x.1 0)), (1, .ref (cw_a x.1 210)), (2, .ref (cw_a x.1 211)), (3, .ref (cw_a x.1 212)), (5, .int y12), (6, .int y13), (7, .int y14)]) dL_areWays_374 (Nat.le_of_ble_eq_true rfl) rfl ?_
          refine j_iinc (i := 7) (v := (-1)) (Ly := fun x48 => [(7, .int x48), (4, .int 0), (10, .int r46), (9, .int r42), (8, .int r40), (0, .ref (cw_a x.1 0)), (1, .ref (cw_a x.1 210)), (2, .ref (cw_a x.1 211)), (3, .ref (cw_a x.1 212)), (5, .int y12), (6, .int y13)]) 10 dL_areWays_376 rfl ejc_m1 (Nat.le_of_ble_eq_true rfl) (fun _ => rfl) (fun x48 => ?_)
          refine j_goto dL_areWays_379 ?_
          exact j_sub [5, 6, 7, 8, 1, 9, 10, 0] rfl (ih 0 y12 y13 x48 s47)
        · refine j_aload_n 3 rfl dL_areWays_317 ?_
          refine j_iload 8 rfl dL_areWays_318 ?_
          refine j_iload 10 rfl dL_areWays_320 ?_
          refine j_callVi (lcn_con (n10_costAt x.1 n y12 y14 s47.1)) lv_L_67 (lV_rc_0 x s47) ⟨Nat.le_of_ble_eq_true rfl, Nat.le_of_ble_eq_true rfl⟩ dL_areWays_322 rfl (Nat.le_of_ble_eq_true rfl) (fun r49 s50 => ?_)
          refine j_aload_n 3 rfl dL_areWays_325 ?_
          refine j_iload 8 rfl dL_areWays_326 ?_
          refine j_iload 10 rfl dL_areWays_328 ?_
          refine j_iconst dL_areWays_330 ejc_1 ?_
          refine j_isub dL_areWays_331 ?_
          refine j_callVi (lcn_con (n10_costAt x.1 n y12 (y14 - 1) s50.1)) lv_L_67 (lV_rc_0 x s50) ⟨Nat.le_of_ble_eq_true rfl, Nat.le_of_ble_eq_true rfl⟩ dL_areWays_332 rfl (Nat.le_of_ble_eq_true rfl) (fun r51 s52 => ?_)
          refine j_iload 0 rfl dL_areWays_335 ?_
          refine j_iadd dL_areWays_337 ?_
          refine j_icmp_ne dL_areWays_338 ?_ ?_
          · refine j_iconst dL_areWays_373 ejc_0 ?_
            refine j_istore (i := 4) (L' := [(4, .int 0), (10, .int r46), (9, .int r42), (8, .int r40), (0, .ref (cw_a x.1 0)), (1, .ref (cw_a x.1 210)), (2, .ref (cw_a x.1 211)), (3, .ref (cw_a x.1 212)), (5, .int y12), (6, .int y13), (7, .int y14)]) dL_areWays_374 (Nat.le_of_ble_eq_true rfl) rfl ?_
            refine j_iinc (i := 7) (v := (-1)) (Ly := fun x53 => [(7, .int x53), (4, .int 0), (10, .int r46), (9, .int r42), (8, .int r40), (0, .ref (cw_a x.1 0)), (1, .ref (cw_a x.1 210)), (2, .ref (cw_a x.1 211)), (3, .ref (cw_a x.1 212)), (5, .int y12), (6, .int y13)]) 10 dL_areWays_376 rfl ejc_m1 (Nat.le_of_ble_eq_true rfl) (fun _ => rfl) (fun x53 => ?_)
            refine j_goto dL_areWays_379 ?_
            exact j_sub [5, 6, 7, 8, 1, 9, 10, 0] rfl (ih 0 y12 y13 x53 s52)
          · refine j_aload_n 3 rfl dL_areWays_341 ?_
            refine j_iload 2 rfl dL_areWays_342 ?_
            refine j_callVi (lcn_con (n10_cost x.1 n r40 s52.1)) lv_L_52 (lV_rc_0 x s52) ⟨Nat.le_of_ble_eq_true rfl, Nat.le_of_ble_eq_true rfl⟩ dL_areWays_344 rfl (Nat.le_of_ble_eq_true rfl) (fun r54 s55 => ?_)
            refine j_aload_n 3 rfl dL_areWays_347 ?_
            refine j_iload 8 rfl dL_areWays_348 ?_
            refine j_iload 10 rfl dL_areWays_350 ?_
            refine j_callVi (lcn_con (n10_costAt x.1 n y12 y14 s55.1)) lv_L_67 (lV_rc_0 x s55) ⟨Nat.le_of_ble_eq_true rfl, Nat.le_of_ble_eq_true rfl⟩ dL_areWays_352 rfl (Nat.le_of_ble_eq_true rfl) (fun r56 s57 => ?_)
            refine j_icmp_ne dL_areWays_355 ?_ ?_
            · refine j_iconst dL_areWays_373 ejc_0 ?_
              refine j_istore (i := 4) (L' := [(4, .int 0), (10, .int r46), (9, .int r42), (8, .int r40), (0, .ref (cw_a x.1 0)), (1, .ref (cw_a x.1 210)), (2, .ref (cw_a x.1 211)), (3, .ref (cw_a x.1 212)), (5, .int y12), (6, .int y13), (7, .int y14)]) dL_areWays_374 (Nat.le_of_ble_eq_true rfl) rfl ?_
              refine j_iinc (i := 7) (v := (-1)) (Ly := fun x58 => [(7, .int x58), (4, .int 0), (10, .int r46), (9, .int r42), (8, .int r40), (0, .ref (cw_a x.1 0)), (1, .ref (cw_a x.1 210)), (2, .ref (cw_a x.1 211)), (3, .ref (cw_a x.1 212)), (5, .int y12), (6, .int y13)]) 10 dL_areWays_376 rfl ejc_m1 (Nat.le_of_ble_eq_true rfl) (fun _ => rfl) (fun x58 => ?_)
              refine j_goto dL_areWays_379 ?_
              exact j_sub [5, 6, 7, 8, 1, 9, 10, 0] rfl (ih 0 y12 y13 x58 s57)
            · refine j_aload_n 3 rfl dL_areWays_358 ?_
              refine j_iload 2 rfl dL_areWays_359 ?_
              refine j_callVi (lcn_con (n10_steps x.1 n r40 s57.1)) lv_L_58 (lV_rc_0 x s57) ⟨Nat.le_of_ble_eq_true rfl, Nat.le_of_ble_eq_true rfl⟩ dL_areWays_361 rfl (Nat.le_of_ble_eq_true rfl) (fun r59 s60 => ?_)
              refine j_iload 10 rfl dL_areWays_364 ?_
              refine j_icmp_ne dL_areWays_366 ?_ ?_
              · refine j_iconst dL_areWays_373 ejc_0 ?_
                refine j_istore (i := 4) (L' := [(4, .int 0), (10, .int r46), (9, .int r42), (8, .int r40), (0, .ref (cw_a x.1 0)), (1, .ref (cw_a x.1 210)), (2, .ref (cw_a x.1 211)), (3, .ref (cw_a x.1 212)), (5, .int y12), (6, .int y13), (7, .int y14)]) dL_areWays_374 (Nat.le_of_ble_eq_true rfl) rfl ?_
                refine j_iinc (i := 7) (v := (-1)) (Ly := fun x61 => [(7, .int x61), (4, .int 0), (10, .int r46), (9, .int r42), (8, .int r40), (0, .ref (cw_a x.1 0)), (1, .ref (cw_a x.1 210)), (2, .ref (cw_a x.1 211)), (3, .ref (cw_a x.1 212)), (5, .int y12), (6, .int y13)]) 10 dL_areWays_376 rfl ejc_m1 (Nat.le_of_ble_eq_true rfl) (fun _ => rfl) (fun x61 => ?_)
                refine j_goto dL_areWays_379 ?_
                exact j_sub [5, 6, 7, 8, 1, 9, 10, 0] rfl (ih 0 y12 y13 x61 s60)
              · refine j_iconst dL_areWays_369 ejc_1 ?_
                refine j_goto dL_areWays_370 ?_
                refine j_istore (i := 4) (L' := [(4, .int 1), (10, .int r46), (9, .int r42), (8, .int r40), (0, .ref (cw_a x.1 0)), (1, .ref (cw_a x.1 210)), (2, .ref (cw_a x.1 211)), (3, .ref (cw_a x.1 212)), (5, .int y12), (6, .int y13), (7, .int y14)]) dL_areWays_374 (Nat.le_of_ble_eq_true rfl) rfl ?_
                refine j_iinc (i := 7) (v := (-1)) (Ly := fun x62 => [(7, .int x62), (4, .int 1), (10, .int r46), (9, .int r42), (8, .int r40), (0, .ref (cw_a x.1 0)), (1, .ref (cw_a x.1 210)), (2, .ref (cw_a x.1 211)), (3, .ref (cw_a x.1 212)), (5, .int y12), (6, .int y13)]) 10 dL_areWays_376 rfl ejc_m1 (Nat.le_of_ble_eq_true rfl) (fun _ => rfl) (fun x62 => ?_)
                refine j_goto dL_areWays_379 ?_
                exact j_sub [5, 6, 7, 8, 1, 9, 10, 0] rfl (ih 1 y12 y13 x62 s60)
noncomputable def mL_areWays_245 (n : Nat) (f166 : Int32 → Int32 → lw_S → Option (Int32 × lw_S)) (y71 : Int32) (y72 : Int32) (y73 : Int32) (y74 : Int32) (σ : lw_S) : Option (Int32 × lw_S) := (if y74 = y73 then (mL_areWays_259 n f166 n 1 y71 y72 y72 σ) else (mL_areWays_259 n f166 n 0 y71 y72 y72 σ))
set_option maxRecDepth 20000 in
set_option maxHeartbeats 2000000 in
theorem jL_areWays_245 (x : lw_T) (n : Nat) {F : ej_F} {r0 : Int32 × lw_S} (hq : ej_fin (lV x) F (some .boolean) (some (.int r0.1)) r0.2) (f166 : Int32 → Int32 → lw_S → Option (Int32 × lw_S)) (H166 : ∀ (y3 : Int32) (y4 : Int32) (σ : lw_S), ej_J (lV x) F iL_areWays r0 σ 166 [(0, .ref (cw_a x.1 0)), (1, .ref (cw_a x.1 210)), (2, .ref (cw_a x.1 211)), (3, .ref (cw_a x.1 212)), (4, .int y3), (5, .int y4)] [] (f166 y3 y4 σ)) (y71 : Int32) (y72 : Int32) (y73 : Int32) (y74 : Int32) (σ : lw_S) : ej_J (lV x) F iL_areWays r0 σ 245 [(0, .ref (cw_a x.1 0)), (1, .ref (cw_a x.1 210)), (2, .ref (cw_a x.1 211)), (3, .ref (cw_a x.1 212)), (5, .int y71), (6, .int y72)] [.int y73, .int y74] (mL_areWays_245 n f166 y71 y72 y73 y74 σ) := by
  unfold mL_areWays_245
  refine j_icmp_ne dL_areWays_245 ?_ ?_
  · refine j_iconst dL_areWays_252 ejc_0 ?_
    refine j_istore (i := 4) (L' := [(4, .int 0), (0, .ref (cw_a x.1 0)), (1, .ref (cw_a x.1 210)), (2, .ref (cw_a x.1 211)), (3, .ref (cw_a x.1 212)), (5, .int y71), (6, .int y72)]) dL_areWays_253 (Nat.le_of_ble_eq_true rfl) rfl ?_
    refine j_iload 6 rfl dL_areWays_255 ?_
    refine j_istore (i := 7) (L' := [(7, .int y72), (4, .int 0), (0, .ref (cw_a x.1 0)), (1, .ref (cw_a x.1 210)), (2, .ref (cw_a x.1 211)), (3, .ref (cw_a x.1 212)), (5, .int y71), (6, .int y72)]) dL_areWays_257 (Nat.le_of_ble_eq_true rfl) rfl ?_
    exact j_sub [2, 3, 4, 5, 1, 6, 7, 0] rfl (jL_areWays_259 x n hq f166 H166 n 0 y71 y72 y72 σ)
  · refine j_iconst dL_areWays_248 ejc_1 ?_
    refine j_goto dL_areWays_249 ?_
    refine j_istore (i := 4) (L' := [(4, .int 1), (0, .ref (cw_a x.1 0)), (1, .ref (cw_a x.1 210)), (2, .ref (cw_a x.1 211)), (3, .ref (cw_a x.1 212)), (5, .int y71), (6, .int y72)]) dL_areWays_253 (Nat.le_of_ble_eq_true rfl) rfl ?_
    refine j_iload 6 rfl dL_areWays_255 ?_
    refine j_istore (i := 7) (L' := [(7, .int y72), (4, .int 1), (0, .ref (cw_a x.1 0)), (1, .ref (cw_a x.1 210)), (2, .ref (cw_a x.1 211)), (3, .ref (cw_a x.1 212)), (5, .int y71), (6, .int y72)]) dL_areWays_257 (Nat.le_of_ble_eq_true rfl) rfl ?_
    exact j_sub [2, 3, 4, 5, 1, 6, 7, 0] rfl (jL_areWays_259 x n hq f166 H166 n 1 y71 y72 y72 σ)
noncomputable def mL_areWays_218 (n : Nat) (f166 : Int32 → Int32 → lw_S → Option (Int32 × lw_S)) (y65 : Int32) (y66 : Int32) (y67 : Int32) (y68 : Int32) (σ : lw_S) : Option (Int32 × lw_S) := (if y68 = y67 then (if 0 ≤ y66 then ej_bi (ej_lcn (m10_cost n y65 σ.1) σ) fun r69 s70 => (if 0 ≤ r69 then (mL_areWays_245 n f166 y65 y66 0 0 s70) else (mL_areWays_245 n f166 y65 y66 1 0 s70)) else ej_bi (ej_lcn (m10_cost n y65 σ.1) σ) fun r75 s76 => (if 0 ≤ r75 then (mL_areWays_245 n f166 y65 y66 0 1 s76) else (mL_areWays_245 n f166 y65 y66 1 1 s76))) else (mL_areWays_259 n f166 n 0 y65 y66 y66 σ))
set_option maxRecDepth 20000 in
set_option maxHeartbeats 2000000 in
theorem jL_areWays_218 (x : lw_T) (n : Nat) {F : ej_F} {r0 : Int32 × lw_S} (hq : ej_fin (lV x) F (some .boolean) (some (.int r0.1)) r0.2) (f166 : Int32 → Int32 → lw_S → Option (Int32 × lw_S)) (H166 : ∀ (y3 : Int32) (y4 : Int32) (σ : lw_S), ej_J (lV x) F iL_areWays r0 σ 166 [(0, .ref (cw_a x.1 0)), (1, .ref (cw_a x.1 210)), (2, .ref (cw_a x.1 211)), (3, .ref (cw_a x.1 212)), (4, .int y3), (5, .int y4)] [] (f166 y3 y4 σ)) (y65 : Int32) (y66 : Int32) (y67 : Int32) (y68 : Int32) (σ : lw_S) : ej_J (lV x) F iL_areWays r0 σ 218 [(0, .ref (cw_a x.1 0)), (1, .ref (cw_a x.1 210)), (2, .ref (cw_a x.1 211)), (3, .ref (cw_a x.1 212)), (5, .int y65), (6, .int y66)] [.int y67, .int y68] (mL_areWays_218 n f166 y65 y66 y67 y68 σ) := by
  unfold mL_areWays_218
  refine j_icmp_ne dL_areWays_218 ?_ ?_
  · refine j_iconst dL_areWays_252 ejc_0 ?_
    refine j_istore (i := 4) (L' := [(4, .int 0), (0, .ref (cw_a x.1 0)), (1, .ref (cw_a x.1 210)), (2, .ref (cw_a x.1 211)), (3, .ref (cw_a x.1 212)), (5, .int y65), (6, .int y66)]) dL_areWays_253 (Nat.le_of_ble_eq_true rfl) rfl ?_
    refine j_iload 6 rfl dL_areWays_255 ?_
    refine j_istore (i := 7) (L' := [(7, .int y66), (4, .int 0), (0, .ref (cw_a x.1 0)), (1, .ref (cw_a x.1 210)), (2, .ref (cw_a x.1 211)), (3, .ref (cw_a x.1 212)), (5, .int y65), (6, .int y66)]) dL_areWays_257 (Nat.le_of_ble_eq_true rfl) rfl ?_
    exact j_sub [2, 3, 4, 5, 1, 6, 7, 0] rfl (jL_areWays_259 x n hq f166 H166 n 0 y65 y66 y66 σ)
  · refine j_iload 5 rfl dL_areWays_221 ?_
    refine j_if_ge dL_areWays_223 ?_ ?_
    · refine j_iconst dL_areWays_230 ejc_0 ?_
      refine j_aload_n 0 rfl dL_areWays_231 ?_
      refine j_iload 4 rfl dL_areWays_232 ?_
      refine j_callVi (lcn_con (n10_cost x.1 n y65 σ.1)) lv_L_52 (lV_rc_0 x σ) ⟨Nat.le_of_ble_eq_true rfl, Nat.le_of_ble_eq_true rfl⟩ dL_areWays_234 rfl (Nat.le_of_ble_eq_true rfl) (fun r69 s70 => ?_)
      refine j_if_ge dL_areWays_237 ?_ ?_
      · refine j_iconst dL_areWays_244 ejc_0 ?_
        exact j_sub [0, 1, 2, 3, 4, 5] rfl (jL_areWays_245 x n hq f166 H166 y65 y66 0 0 s70)
      · refine j_iconst dL_areWays_240 ejc_1 ?_
        refine j_goto dL_areWays_241 ?_
        exact j_sub [0, 1, 2, 3, 4, 5] rfl (jL_areWays_245 x n hq f166 H166 y65 y66 1 0 s70)
    · refine j_iconst dL_areWays_226 ejc_1 ?_
      refine j_goto dL_areWays_227 ?_
      refine j_aload_n 0 rfl dL_areWays_231 ?_
      refine j_iload 4 rfl dL_areWays_232 ?_
      refine j_callVi (lcn_con (n10_cost x.1 n y65 σ.1)) lv_L_52 (lV_rc_0 x σ) ⟨Nat.le_of_ble_eq_true rfl, Nat.le_of_ble_eq_true rfl⟩ dL_areWays_234 rfl (Nat.le_of_ble_eq_true rfl) (fun r75 s76 => ?_)
      refine j_if_ge dL_areWays_237 ?_ ?_
      · refine j_iconst dL_areWays_244 ejc_0 ?_
        exact j_sub [0, 1, 2, 3, 4, 5] rfl (jL_areWays_245 x n hq f166 H166 y65 y66 0 1 s76)
      · refine j_iconst dL_areWays_240 ejc_1 ?_
        refine j_goto dL_areWays_241 ?_
        exact j_sub [0, 1, 2, 3, 4, 5] rfl (jL_areWays_245 x n hq f166 H166 y65 y66 1 1 s76)
noncomputable def mL_areWays_166 (n : Nat) (k : Nat) : Int32 → Int32 → lw_S → Option (Int32 × lw_S) := Nat.rec (motive := fun _ => Int32 → Int32 → lw_S → Option (Int32 × lw_S)) (fun _ _ _ => none) (fun _ ih y3 y4 σ => ej_ck 2 4 ((if gA σ.2 2 (2 : Int32).toNatClampNeg ≤ y4 then (some (ej_bz y3, σ)) else (if y3 = 0 then (some (ej_bz y3, σ)) else ej_bi (ej_lcn (m10_steps n y4 σ.1) σ) fun r5 s6 => ej_bi (ej_lcn (m10_costByRounds n y4 s6.1) s6) fun r7 s8 => ej_bi (ej_lcn (m10_cost n y4 s8.1) s8) fun r9 s10 => (if r7 = r9 then ej_bi (ej_lcn (m10_state n y4 s10.1) s10) fun r63 s64 => (if 0 ≤ r5 then (mL_areWays_218 n ih y4 r5 0 r63 s64) else (mL_areWays_218 n ih y4 r5 (-1) r63 s64)) else (mL_areWays_259 n ih n 0 y4 r5 r5 s10)))))) k
theorem mL_areWays_166_s (n : Nat) (k : Nat) (y3 : Int32) (y4 : Int32) (σ : lw_S) : mL_areWays_166 n (k + 1) y3 y4 σ = (ej_ck 2 4 ((if gA σ.2 2 (2 : Int32).toNatClampNeg ≤ y4 then (some (ej_bz y3, σ)) else (if y3 = 0 then (some (ej_bz y3, σ)) else ej_bi (ej_lcn (m10_steps n y4 σ.1) σ) fun r5 s6 => ej_bi (ej_lcn (m10_costByRounds n y4 s6.1) s6) fun r7 s8 => ej_bi (ej_lcn (m10_cost n y4 s8.1) s8) fun r9 s10 => (if r7 = r9 then ej_bi (ej_lcn (m10_state n y4 s10.1) s10) fun r63 s64 => (if 0 ≤ r5 then (mL_areWays_218 n (mL_areWays_166 n k) y4 r5 0 r63 s64) else (mL_areWays_218 n (mL_areWays_166 n k) y4 r5 (-1) r63 s64)) else (mL_areWays_259 n (mL_areWays_166 n k) n 0 y4 r5 r5 s10))))) : Option (Int32 × lw_S)) := rfl
set_option maxRecDepth 20000 in
set_option maxHeartbeats 2000000 in
theorem jL_areWays_166 (x : lw_T) (n : Nat) {F : ej_F} {r0 : Int32 × lw_S} (hq : ej_fin (lV x) F (some .boolean) (some (.int r0.1)) r0.2) : ∀ (k : Nat) (y3 : Int32) (y4 : Int32) (σ : lw_S), ej_J (lV x) F iL_areWays r0 σ 166 [(0, .ref (cw_a x.1 0)), (1, .ref (cw_a x.1 210)), (2, .ref (cw_a x.1 211)), (3, .ref (cw_a x.1 212)), (4, .int y3), (5, .int y4)] [] (mL_areWays_166 n k y3 y4 σ) := by
  intro k
  induction k with
  | zero => intro y3 y4 σ; exact j_none
  | succ k ih =>
    intro y3 y4 σ
    rw [mL_areWays_166_s]
    refine j_iload 5 rfl dL_areWays_166 ?_
    refine j_aload_n 3 rfl dL_areWays_168 ?_
    refine j_iconst dL_areWays_169 ejc_2 ?_
    refine j_iald (lV_a_212 x σ) dL_areWays_170 ?_
    refine j_icmp_ge dL_areWays_171 ?_ ?_
    · refine j_iload 4 rfl dL_areWays_469 ?_
      exact j_zreturn hq dL_areWays_471
    · refine j_iload 4 rfl dL_areWays_174 ?_
      refine j_if_eq dL_areWays_176 ?_ ?_
      · refine j_iload 4 rfl dL_areWays_469 ?_
        exact j_zreturn hq dL_areWays_471
      · refine j_aload_n 0 rfl dL_areWays_179 ?_
        refine j_iload 5 rfl dL_areWays_180 ?_
        refine j_callVi (lcn_con (n10_steps x.1 n y4 σ.1)) lv_L_58 (lV_rc_0 x σ) ⟨Nat.le_of_ble_eq_true rfl, Nat.le_of_ble_eq_true rfl⟩ dL_areWays_182 rfl (Nat.le_of_ble_eq_true rfl) (fun r5 s6 => ?_)
        refine j_istore (i := 6) (L' := [(6, .int r5), (0, .ref (cw_a x.1 0)), (1, .ref (cw_a x.1 210)), (2, .ref (cw_a x.1 211)), (3, .ref (cw_a x.1 212)), (4, .int y3), (5, .int y4)]) dL_areWays_185 (Nat.le_of_ble_eq_true rfl) rfl ?_
        refine j_aload_n 1 rfl dL_areWays_187 ?_
        refine j_iload 6 rfl dL_areWays_188 ?_
        refine j_callVi (lcn_con (n10_costByRounds x.1 n y4 s6.1)) lv_L_55 (lV_rc_0 x s6) ⟨Nat.le_of_ble_eq_true rfl, Nat.le_of_ble_eq_true rfl⟩ dL_areWays_190 rfl (Nat.le_of_ble_eq_true rfl) (fun r7 s8 => ?_)
        refine j_aload_n 1 rfl dL_areWays_193 ?_
        refine j_iload 6 rfl dL_areWays_194 ?_
        refine j_callVi (lcn_con (n10_cost x.1 n y4 s8.1)) lv_L_52 (lV_rc_0 x s8) ⟨Nat.le_of_ble_eq_true rfl, Nat.le_of_ble_eq_true rfl⟩ dL_areWays_196 rfl (Nat.le_of_ble_eq_true rfl) (fun r9 s10 => ?_)
        refine j_icmp_ne dL_areWays_199 ?_ ?_
        · refine j_iconst dL_areWays_252 ejc_0 ?_
          refine j_istore (i := 4) (L' := [(4, .int 0), (6, .int r5), (0, .ref (cw_a x.1 0)), (1, .ref (cw_a x.1 210)), (2, .ref (cw_a x.1 211)), (3, .ref (cw_a x.1 212)), (5, .int y4)]) dL_areWays_253 (Nat.le_of_ble_eq_true rfl) rfl ?_
          refine j_iload 1 rfl dL_areWays_255 ?_
          refine j_istore (i := 7) (L' := [(7, .int r5), (4, .int 0), (6, .int r5), (0, .ref (cw_a x.1 0)), (1, .ref (cw_a x.1 210)), (2, .ref (cw_a x.1 211)), (3, .ref (cw_a x.1 212)), (5, .int y4)]) dL_areWays_257 (Nat.le_of_ble_eq_true rfl) rfl ?_
          exact j_sub [3, 4, 5, 6, 1, 7, 2, 0] rfl (jL_areWays_259 x n hq (mL_areWays_166 n k) ih n 0 y4 r5 r5 s10)
        · refine j_aload_n 1 rfl dL_areWays_202 ?_
          refine j_iload 6 rfl dL_areWays_203 ?_
          refine j_callVi (lcn_con (n10_state x.1 n y4 s10.1)) lv_L_61 (lV_rc_0 x s10) ⟨Nat.le_of_ble_eq_true rfl, Nat.le_of_ble_eq_true rfl⟩ dL_areWays_205 rfl (Nat.le_of_ble_eq_true rfl) (fun r63 s64 => ?_)
          refine j_iload 0 rfl dL_areWays_208 ?_
          refine j_if_ge dL_areWays_210 ?_ ?_
          · refine j_iconst dL_areWays_217 ejc_0 ?_
            exact j_sub [1, 2, 3, 4, 6, 0] rfl (jL_areWays_218 x n hq (mL_areWays_166 n k) ih y4 r5 0 r63 s64)
          · refine j_iconst dL_areWays_213 ejc_m1 ?_
            refine j_goto dL_areWays_214 ?_
            exact j_sub [1, 2, 3, 4, 6, 0] rfl (jL_areWays_218 x n hq (mL_areWays_166 n k) ih y4 r5 (-1) r63 s64)
noncomputable def mL_areWays_58 (n : Nat) (f6 : Int32 → Int32 → lw_S → Option (Int32 × lw_S)) (k : Nat) : Int32 → Int32 → Int32 → Int32 → Int32 → Int32 → Int32 → lw_S → Option (Int32 × lw_S) := Nat.rec (motive := fun _ => Int32 → Int32 → Int32 → Int32 → Int32 → Int32 → Int32 → lw_S → Option (Int32 × lw_S)) (fun _ _ _ _ _ _ _ _ => none) (fun _ ih y83 y84 y85 y86 y87 y88 y89 σ => (if 6 ≤ y89 then ej_nm (y84 + 1) fun x90 => (f6 y83 x90 σ) else (if y83 = 0 then ej_nm (y84 + 1) fun x91 => (f6 y83 x91 σ) else (if y87 < 0 then ej_nm (y84 + 1) fun x92 => (f6 y83 x92 σ) else (if y85 = y86 then ej_nm (y84 + 1) fun x93 => (f6 y83 x93 σ) else ej_bi (mL_step n y85 y86 y89 σ) fun r94 s95 => (if r94 < 0 then ej_nm (y89 + 1) fun x96 => (ih 1 y84 y85 y86 y87 y88 x96 s95) else (if y88 < 0 then ej_nm (y89 + 1) fun x97 => (ih 0 y84 y85 y86 y87 y88 x97 s95) else (if y88 < y87 + r94 then ej_nm (y89 + 1) fun x98 => (ih 1 y84 y85 y86 y87 y88 x98 s95) else (if y88 = y87 + r94 then ej_bi (ej_lcn (m10_steps n y86 s95.1) s95) fun r100 s101 => ej_bi (ej_lcn (m10_steps n y85 s101.1) s101) fun r102 s103 => (if r102 + 1 < r100 then ej_nm (y89 + 1) fun x104 => (ih 0 y84 y85 y86 y87 y88 x104 s103) else ej_nm (y89 + 1) fun x105 => (ih 1 y84 y85 y86 y87 y88 x105 s103)) else ej_nm (y89 + 1) fun x99 => (ih 0 y84 y85 y86 y87 y88 x99 s95)))))))))) k
theorem mL_areWays_58_s (n : Nat) (f6 : Int32 → Int32 → lw_S → Option (Int32 × lw_S)) (k : Nat) (y83 : Int32) (y84 : Int32) (y85 : Int32) (y86 : Int32) (y87 : Int32) (y88 : Int32) (y89 : Int32) (σ : lw_S) : mL_areWays_58 n f6 (k + 1) y83 y84 y85 y86 y87 y88 y89 σ = ((if 6 ≤ y89 then ej_nm (y84 + 1) fun x90 => (f6 y83 x90 σ) else (if y83 = 0 then ej_nm (y84 + 1) fun x91 => (f6 y83 x91 σ) else (if y87 < 0 then ej_nm (y84 + 1) fun x92 => (f6 y83 x92 σ) else (if y85 = y86 then ej_nm (y84 + 1) fun x93 => (f6 y83 x93 σ) else ej_bi (mL_step n y85 y86 y89 σ) fun r94 s95 => (if r94 < 0 then ej_nm (y89 + 1) fun x96 => ((mL_areWays_58 n f6 k) 1 y84 y85 y86 y87 y88 x96 s95) else (if y88 < 0 then ej_nm (y89 + 1) fun x97 => ((mL_areWays_58 n f6 k) 0 y84 y85 y86 y87 y88 x97 s95) else (if y88 < y87 + r94 then ej_nm (y89 + 1) fun x98 => ((mL_areWays_58 n f6 k) 1 y84 y85 y86 y87 y88 x98 s95) else (if y88 = y87 + r94 then ej_bi (ej_lcn (m10_steps n y86 s95.1) s95) fun r100 s101 => ej_bi (ej_lcn (m10_steps n y85 s101.1) s101) fun r102 s103 => (if r102 + 1 < r100 then ej_nm (y89 + 1) fun x104 => ((mL_areWays_58 n f6 k) 0 y84 y85 y86 y87 y88 x104 s103) else ej_nm (y89 + 1) fun x105 => ((mL_areWays_58 n f6 k) 1 y84 y85 y86 y87 y88 x105 s103)) else ej_nm (y89 + 1) fun x99 => ((mL_areWays_58 n f6 k) 0 y84 y85 y86 y87 y88 x99 s95))))))))) : Option (Int32 × lw_S)) := rfl
set_option maxRecDepth 20000 in
set_option maxHeartbeats 2000000 in
theorem jL_areWays_58 (x : lw_T) (n : Nat) {F : ej_F} {r0 : Int32 × lw_S} (hq : ej_fin (lV x) F (some .boolean) (some (.int r0.1)) r0.2) (f6 : Int32 → Int32 → lw_S → Option (Int32 × lw_S)) (H6 : ∀ (y1 : Int32) (y2 : Int32) (σ : lw_S), ej_J (lV x) F iL_areWays r0 σ 6 [(0, .ref (cw_a x.1 0)), (1, .ref (cw_a x.1 210)), (2, .ref (cw_a x.1 211)), (3, .ref (cw_a x.1 212)), (4, .int y1), (5, .int y2)] [] (f6 y1 y2 σ)) : ∀ (k : Nat) (y83 : Int32) (y84 : Int32) (y85 : Int32) (y86 : Int32) (y87 : Int32) (y88 : Int32) (y89 : Int32) (σ : lw_S), ej_J (lV x) F iL_areWays r0 σ 58 [(0, .ref (cw_a x.1 0)), (1, .ref (cw_a x.1 210)), (2, .ref (cw_a x.1 211)), (3, .ref (cw_a x.1 212)), (4, .int y83), (5, .int y84), (6, .int y85), (7, .int y86), (8, .int y87), (9, .int y88), (10, .int y89)] [] (mL_areWays_58 n f6 k y83 y84 y85 y86 y87 y88 y89 σ) := by
  intro k
  induction k with
  | zero => intro y83 y84 y85 y86 y87 y88 y89 σ; exact j_none
  | succ k ih =>
    intro y83 y84 y85 y86 y87 y88 y89 σ
    rw [mL_areWays_58_s]
    refine j_iload 10 rfl dL_areWays_58 ?_
    refine j_bipush dL_areWays_60 ejb_6 ?_
    refine j_icmp_ge dL_areWays_62 ?_ ?_
    · refine j_iinc (i := 5) (v := 1) (Ly := fun x90 => [(5, .int x90), (0, .ref (cw_a x.1 0)), (1, .ref (cw_a x.1 210)), (2, .ref (cw_a x.1 211)), (3, .ref (cw_a x.1 212)), (4, .int y83), (6, .int y85), (7, .int y86), (8, .int y87), (9, .int y88), (10, .int y89)]) 5 dL_areWays_157 rfl ejc_1 (Nat.le_of_ble_eq_true rfl) (fun _ => rfl) (fun x90 => ?_)
      refine j_goto dL_areWays_160 ?_
      exact j_sub [1, 2, 3, 4, 5, 0] rfl (H6 y83 x90 σ)
    · refine j_iload 4 rfl dL_areWays_65 ?_
      refine j_if_eq dL_areWays_67 ?_ ?_
      · refine j_iinc (i := 5) (v := 1) (Ly := fun x91 => [(5, .int x91), (0, .ref (cw_a x.1 0)), (1, .ref (cw_a x.1 210)), (2, .ref (cw_a x.1 211)), (3, .ref (cw_a x.1 212)), (4, .int y83), (6, .int y85), (7, .int y86), (8, .int y87), (9, .int y88), (10, .int y89)]) 5 dL_areWays_157 rfl ejc_1 (Nat.le_of_ble_eq_true rfl) (fun _ => rfl) (fun x91 => ?_)
        refine j_goto dL_areWays_160 ?_
        exact j_sub [1, 2, 3, 4, 5, 0] rfl (H6 y83 x91 σ)
      · refine j_iload 8 rfl dL_areWays_70 ?_
        refine j_if_lt dL_areWays_72 ?_ ?_
        · refine j_iinc (i := 5) (v := 1) (Ly := fun x92 => [(5, .int x92), (0, .ref (cw_a x.1 0)), (1, .ref (cw_a x.1 210)), (2, .ref (cw_a x.1 211)), (3, .ref (cw_a x.1 212)), (4, .int y83), (6, .int y85), (7, .int y86), (8, .int y87), (9, .int y88), (10, .int y89)]) 5 dL_areWays_157 rfl ejc_1 (Nat.le_of_ble_eq_true rfl) (fun _ => rfl) (fun x92 => ?_)
          refine j_goto dL_areWays_160 ?_
          exact j_sub [1, 2, 3, 4, 5, 0] rfl (H6 y83 x92 σ)
        · refine j_iload 6 rfl dL_areWays_75 ?_
          refine j_iload 7 rfl dL_areWays_77 ?_
          refine j_icmp_eq dL_areWays_79 ?_ ?_
          · refine j_iinc (i := 5) (v := 1) (Ly := fun x93 => [(5, .int x93), (0, .ref (cw_a x.1 0)), (1, .ref (cw_a x.1 210)), (2, .ref (cw_a x.1 211)), (3, .ref (cw_a x.1 212)), (4, .int y83), (6, .int y85), (7, .int y86), (8, .int y87), (9, .int y88), (10, .int y89)]) 5 dL_areWays_157 rfl ejc_1 (Nat.le_of_ble_eq_true rfl) (fun _ => rfl) (fun x93 => ?_)
            refine j_goto dL_areWays_160 ?_
            exact j_sub [1, 2, 3, 4, 5, 0] rfl (H6 y83 x93 σ)
          · refine j_aload_n 0 rfl dL_areWays_82 ?_
            refine j_aload_n 1 rfl dL_areWays_83 ?_
            refine j_aload_n 2 rfl dL_areWays_84 ?_
            refine j_aload_n 3 rfl dL_areWays_85 ?_
            refine j_iload 6 rfl dL_areWays_86 ?_
            refine j_iload 7 rfl dL_areWays_88 ?_
            refine j_iload 10 rfl dL_areWays_90 ?_
            refine j_callSi (kL_step x n y85 y86 y89 σ) ls_L_136 ⟨Nat.le_of_ble_eq_true rfl, Nat.le_of_ble_eq_true rfl⟩ dL_areWays_92 rfl (Nat.le_of_ble_eq_true rfl) (fun r94 s95 => ?_)
            refine j_istore (i := 11) (L' := [(11, .int r94), (0, .ref (cw_a x.1 0)), (1, .ref (cw_a x.1 210)), (2, .ref (cw_a x.1 211)), (3, .ref (cw_a x.1 212)), (4, .int y83), (5, .int y84), (6, .int y85), (7, .int y86), (8, .int y87), (9, .int y88), (10, .int y89)]) dL_areWays_95 (Nat.le_of_ble_eq_true rfl) rfl ?_
            refine j_iload 0 rfl dL_areWays_97 ?_
            refine j_if_lt dL_areWays_99 ?_ ?_
            · refine j_iconst dL_areWays_144 ejc_1 ?_
              refine j_goto dL_areWays_145 ?_
              refine j_istore (i := 4) (L' := [(4, .int 1), (11, .int r94), (0, .ref (cw_a x.1 0)), (1, .ref (cw_a x.1 210)), (2, .ref (cw_a x.1 211)), (3, .ref (cw_a x.1 212)), (5, .int y84), (6, .int y85), (7, .int y86), (8, .int y87), (9, .int y88), (10, .int y89)]) dL_areWays_149 (Nat.le_of_ble_eq_true rfl) rfl ?_
              refine j_iinc (i := 10) (v := 1) (Ly := fun x96 => [(10, .int x96), (4, .int 1), (11, .int r94), (0, .ref (cw_a x.1 0)), (1, .ref (cw_a x.1 210)), (2, .ref (cw_a x.1 211)), (3, .ref (cw_a x.1 212)), (5, .int y84), (6, .int y85), (7, .int y86), (8, .int y87), (9, .int y88)]) 11 dL_areWays_151 rfl ejc_1 (Nat.le_of_ble_eq_true rfl) (fun _ => rfl) (fun x96 => ?_)
              refine j_goto dL_areWays_154 ?_
              exact j_sub [3, 4, 5, 6, 1, 7, 8, 9, 10, 11, 0] rfl (ih 1 y84 y85 y86 y87 y88 x96 s95)
            · refine j_iload 10 rfl dL_areWays_102 ?_
              refine j_if_lt dL_areWays_104 ?_ ?_
              · refine j_iconst dL_areWays_148 ejc_0 ?_
                refine j_istore (i := 4) (L' := [(4, .int 0), (11, .int r94), (0, .ref (cw_a x.1 0)), (1, .ref (cw_a x.1 210)), (2, .ref (cw_a x.1 211)), (3, .ref (cw_a x.1 212)), (5, .int y84), (6, .int y85), (7, .int y86), (8, .int y87), (9, .int y88), (10, .int y89)]) dL_areWays_149 (Nat.le_of_ble_eq_true rfl) rfl ?_
                refine j_iinc (i := 10) (v := 1) (Ly := fun x97 => [(10, .int x97), (4, .int 0), (11, .int r94), (0, .ref (cw_a x.1 0)), (1, .ref (cw_a x.1 210)), (2, .ref (cw_a x.1 211)), (3, .ref (cw_a x.1 212)), (5, .int y84), (6, .int y85), (7, .int y86), (8, .int y87), (9, .int y88)]) 11 dL_areWays_151 rfl ejc_1 (Nat.le_of_ble_eq_true rfl) (fun _ => rfl) (fun x97 => ?_)
                refine j_goto dL_areWays_154 ?_
                exact j_sub [3, 4, 5, 6, 1, 7, 8, 9, 10, 11, 0] rfl (ih 0 y84 y85 y86 y87 y88 x97 s95)
              · refine j_iload 10 rfl dL_areWays_107 ?_
                refine j_iload 9 rfl dL_areWays_109 ?_
                refine j_iload 0 rfl dL_areWays_111 ?_
                refine j_iadd dL_areWays_113 ?_
                refine j_icmp_lt dL_areWays_114 ?_ ?_
                · refine j_iconst dL_areWays_144 ejc_1 ?_
                  refine j_goto dL_areWays_145 ?_
                  refine j_istore (i := 4) (L' := [(4, .int 1), (11, .int r94), (0, .ref (cw_a x.1 0)), (1, .ref (cw_a x.1 210)), (2, .ref (cw_a x.1 211)), (3, .ref (cw_a x.1 212)), (5, .int y84), (6, .int y85), (7, .int y86), (8, .int y87), (9, .int y88), (10, .int y89)]) dL_areWays_149 (Nat.le_of_ble_eq_true rfl) rfl ?_
                  refine j_iinc (i := 10) (v := 1) (Ly := fun x98 => [(10, .int x98), (4, .int 1), (11, .int r94), (0, .ref (cw_a x.1 0)), (1, .ref (cw_a x.1 210)), (2, .ref (cw_a x.1 211)), (3, .ref (cw_a x.1 212)), (5, .int y84), (6, .int y85), (7, .int y86), (8, .int y87), (9, .int y88)]) 11 dL_areWays_151 rfl ejc_1 (Nat.le_of_ble_eq_true rfl) (fun _ => rfl) (fun x98 => ?_)
                  refine j_goto dL_areWays_154 ?_
                  exact j_sub [3, 4, 5, 6, 1, 7, 8, 9, 10, 11, 0] rfl (ih 1 y84 y85 y86 y87 y88 x98 s95)
                · refine j_iload 10 rfl dL_areWays_117 ?_
                  refine j_iload 9 rfl dL_areWays_119 ?_
                  refine j_iload 0 rfl dL_areWays_121 ?_
                  refine j_iadd dL_areWays_123 ?_
                  refine j_icmp_ne dL_areWays_124 ?_ ?_
                  · refine j_iconst dL_areWays_148 ejc_0 ?_
                    refine j_istore (i := 4) (L' := [(4, .int 0), (11, .int r94), (0, .ref (cw_a x.1 0)), (1, .ref (cw_a x.1 210)), (2, .ref (cw_a x.1 211)), (3, .ref (cw_a x.1 212)), (5, .int y84), (6, .int y85), (7, .int y86), (8, .int y87), (9, .int y88), (10, .int y89)]) dL_areWays_149 (Nat.le_of_ble_eq_true rfl) rfl ?_
                    refine j_iinc (i := 10) (v := 1) (Ly := fun x99 => [(10, .int x99), (4, .int 0), (11, .int r94), (0, .ref (cw_a x.1 0)), (1, .ref (cw_a x.1 210)), (2, .ref (cw_a x.1 211)), (3, .ref (cw_a x.1 212)), (5, .int y84), (6, .int y85), (7, .int y86), (8, .int y87), (9, .int y88)]) 11 dL_areWays_151 rfl ejc_1 (Nat.le_of_ble_eq_true rfl) (fun _ => rfl) (fun x99 => ?_)
                    refine j_goto dL_areWays_154 ?_
                    exact j_sub [3, 4, 5, 6, 1, 7, 8, 9, 10, 11, 0] rfl (ih 0 y84 y85 y86 y87 y88 x99 s95)
                  · refine j_aload_n 1 rfl dL_areWays_127 ?_
                    refine j_iload 8 rfl dL_areWays_128 ?_
                    refine j_callVi (lcn_con (n10_steps x.1 n y86 s95.1)) lv_L_58 (lV_rc_0 x s95) ⟨Nat.le_of_ble_eq_true rfl, Nat.le_of_ble_eq_true rfl⟩ dL_areWays_130 rfl (Nat.le_of_ble_eq_true rfl) (fun r100 s101 => ?_)
                    refine j_aload_n 1 rfl dL_areWays_133 ?_
                    refine j_iload 7 rfl dL_areWays_134 ?_
                    refine j_callVi (lcn_con (n10_steps x.1 n y85 s101.1)) lv_L_58 (lV_rc_0 x s101) ⟨Nat.le_of_ble_eq_true rfl, Nat.le_of_ble_eq_true rfl⟩ dL_areWays_136 rfl (Nat.le_of_ble_eq_true rfl) (fun r102 s103 => ?_)
                    refine j_iconst dL_areWays_139 ejc_1 ?_
                    refine j_iadd dL_areWays_140 ?_
                    refine j_icmp_gt dL_areWays_141 ?_ ?_
                    · refine j_iconst dL_areWays_148 ejc_0 ?_
                      refine j_istore (i := 4) (L' := [(4, .int 0), (11, .int r94), (0, .ref (cw_a x.1 0)), (1, .ref (cw_a x.1 210)), (2, .ref (cw_a x.1 211)), (3, .ref (cw_a x.1 212)), (5, .int y84), (6, .int y85), (7, .int y86), (8, .int y87), (9, .int y88), (10, .int y89)]) dL_areWays_149 (Nat.le_of_ble_eq_true rfl) rfl ?_
                      refine j_iinc (i := 10) (v := 1) (Ly := fun x104 => [(10, .int x104), (4, .int 0), (11, .int r94), (0, .ref (cw_a x.1 0)), (1, .ref (cw_a x.1 210)), (2, .ref (cw_a x.1 211)), (3, .ref (cw_a x.1 212)), (5, .int y84), (6, .int y85), (7, .int y86), (8, .int y87), (9, .int y88)]) 11 dL_areWays_151 rfl ejc_1 (Nat.le_of_ble_eq_true rfl) (fun _ => rfl) (fun x104 => ?_)
                      refine j_goto dL_areWays_154 ?_
                      exact j_sub [3, 4, 5, 6, 1, 7, 8, 9, 10, 11, 0] rfl (ih 0 y84 y85 y86 y87 y88 x104 s103)
                    · refine j_iconst dL_areWays_144 ejc_1 ?_
                      refine j_goto dL_areWays_145 ?_
                      refine j_istore (i := 4) (L' := [(4, .int 1), (11, .int r94), (0, .ref (cw_a x.1 0)), (1, .ref (cw_a x.1 210)), (2, .ref (cw_a x.1 211)), (3, .ref (cw_a x.1 212)), (5, .int y84), (6, .int y85), (7, .int y86), (8, .int y87), (9, .int y88), (10, .int y89)]) dL_areWays_149 (Nat.le_of_ble_eq_true rfl) rfl ?_
                      refine j_iinc (i := 10) (v := 1) (Ly := fun x105 => [(10, .int x105), (4, .int 1), (11, .int r94), (0, .ref (cw_a x.1 0)), (1, .ref (cw_a x.1 210)), (2, .ref (cw_a x.1 211)), (3, .ref (cw_a x.1 212)), (5, .int y84), (6, .int y85), (7, .int y86), (8, .int y87), (9, .int y88)]) 11 dL_areWays_151 rfl ejc_1 (Nat.le_of_ble_eq_true rfl) (fun _ => rfl) (fun x105 => ?_)
                      refine j_goto dL_areWays_154 ?_
                      exact j_sub [3, 4, 5, 6, 1, 7, 8, 9, 10, 11, 0] rfl (ih 1 y84 y85 y86 y87 y88 x105 s103)
noncomputable def mL_areWays_6 (n : Nat) (k : Nat) : Int32 → Int32 → lw_S → Option (Int32 × lw_S) := Nat.rec (motive := fun _ => Int32 → Int32 → lw_S → Option (Int32 × lw_S)) (fun _ _ _ => none) (fun _ ih y1 y2 σ => ej_ck 2 4 (ej_ck 2 4 ((if (gA σ.2 2 (2 : Int32).toNatClampNeg) * (gA σ.2 2 (2 : Int32).toNatClampNeg) ≤ y2 then (mL_areWays_166 n n y1 0 σ) else (if y1 = 0 then (mL_areWays_166 n n y1 0 σ) else ej_ck 2 4 (ej_dv (gA σ.2 2 (2 : Int32).toNatClampNeg) (ej_nm (y2 / (gA σ.2 2 (2 : Int32).toNatClampNeg)) fun x77 => ej_ck 2 4 (ej_dv (gA σ.2 2 (2 : Int32).toNatClampNeg) (ej_nm (y2 - y2 / (gA σ.2 2 (2 : Int32).toNatClampNeg) * (gA σ.2 2 (2 : Int32).toNatClampNeg)) fun x78 => ej_bi (ej_lcn (m10_cost n x77 σ.1) σ) fun r79 s80 => ej_bi (ej_lcn (m10_cost n x78 s80.1) s80) fun r81 s82 => (mL_areWays_58 n ih n y1 y2 x77 x78 r79 r81 1 s82)))))))))) k
theorem mL_areWays_6_s (n : Nat) (k : Nat) (y1 : Int32) (y2 : Int32) (σ : lw_S) : mL_areWays_6 n (k + 1) y1 y2 σ = (ej_ck 2 4 (ej_ck 2 4 ((if (gA σ.2 2 (2 : Int32).toNatClampNeg) * (gA σ.2 2 (2 : Int32).toNatClampNeg) ≤ y2 then (mL_areWays_166 n n y1 0 σ) else (if y1 = 0 then (mL_areWays_166 n n y1 0 σ) else ej_ck 2 4 (ej_dv (gA σ.2 2 (2 : Int32).toNatClampNeg) (ej_nm (y2 / (gA σ.2 2 (2 : Int32).toNatClampNeg)) fun x77 => ej_ck 2 4 (ej_dv (gA σ.2 2 (2 : Int32).toNatClampNeg) (ej_nm (y2 - y2 / (gA σ.2 2 (2 : Int32).toNatClampNeg) * (gA σ.2 2 (2 : Int32).toNatClampNeg)) fun x78 => ej_bi (ej_lcn (m10_cost n x77 σ.1) σ) fun r79 s80 => ej_bi (ej_lcn (m10_cost n x78 s80.1) s80) fun r81 s82 => (mL_areWays_58 n (mL_areWays_6 n k) n y1 y2 x77 x78 r79 r81 1 s82))))))))) : Option (Int32 × lw_S)) := rfl
set_option maxRecDepth 20000 in
set_option maxHeartbeats 2000000 in
theorem jL_areWays_6 (x : lw_T) (n : Nat) {F : ej_F} {r0 : Int32 × lw_S} (hq : ej_fin (lV x) F (some .boolean) (some (.int r0.1)) r0.2) : ∀ (k : Nat) (y1 : Int32) (y2 : Int32) (σ : lw_S), ej_J (lV x) F iL_areWays r0 σ 6 [(0, .ref (cw_a x.1 0)), (1, .ref (cw_a x.1 210)), (2, .ref (cw_a x.1 211)), (3, .ref (cw_a x.1 212)), (4, .int y1), (5, .int y2)] [] (mL_areWays_6 n k y1 y2 σ) := by
  intro k
  induction k with
  | zero => intro y1 y2 σ; exact j_none
  | succ k ih =>
    intro y1 y2 σ
    rw [mL_areWays_6_s]
    refine j_iload 5 rfl dL_areWays_6 ?_
    refine j_aload_n 3 rfl dL_areWays_8 ?_
    refine j_iconst dL_areWays_9 ejc_2 ?_
    refine j_iald (lV_a_212 x σ) dL_areWays_10 ?_
    refine j_aload_n 3 rfl dL_areWays_11 ?_
    refine j_iconst dL_areWays_12 ejc_2 ?_
    refine j_iald (lV_a_212 x σ) dL_areWays_13 ?_
    refine j_imul dL_areWays_14 ?_
    refine j_icmp_ge dL_areWays_15 ?_ ?_
    · refine j_iconst dL_areWays_163 ejc_0 ?_
      refine j_istore (i := 5) (L' := [(5, .int 0), (0, .ref (cw_a x.1 0)), (1, .ref (cw_a x.1 210)), (2, .ref (cw_a x.1 211)), (3, .ref (cw_a x.1 212)), (4, .int y1)]) dL_areWays_164 (Nat.le_of_ble_eq_true rfl) rfl ?_
      exact j_sub [1, 2, 3, 4, 5, 0] rfl (jL_areWays_166 x n hq n y1 0 σ)
    · refine j_iload 4 rfl dL_areWays_18 ?_
      refine j_if_eq dL_areWays_20 ?_ ?_
      · refine j_iconst dL_areWays_163 ejc_0 ?_
        refine j_istore (i := 5) (L' := [(5, .int 0), (0, .ref (cw_a x.1 0)), (1, .ref (cw_a x.1 210)), (2, .ref (cw_a x.1 211)), (3, .ref (cw_a x.1 212)), (4, .int y1)]) dL_areWays_164 (Nat.le_of_ble_eq_true rfl) rfl ?_
        exact j_sub [1, 2, 3, 4, 5, 0] rfl (jL_areWays_166 x n hq n y1 0 σ)
      · refine j_iload 5 rfl dL_areWays_23 ?_
        refine j_aload_n 3 rfl dL_areWays_25 ?_
        refine j_iconst dL_areWays_26 ejc_2 ?_
        refine j_iald (lV_a_212 x σ) dL_areWays_27 ?_
        refine j_idiv dL_areWays_28 ?_
        refine j_nmi (fun x77 => ?_)
        refine j_istore (i := 6) (L' := [(6, .int x77), (0, .ref (cw_a x.1 0)), (1, .ref (cw_a x.1 210)), (2, .ref (cw_a x.1 211)), (3, .ref (cw_a x.1 212)), (4, .int y1), (5, .int y2)]) dL_areWays_29 (Nat.le_of_ble_eq_true rfl) rfl ?_
        refine j_iload 6 rfl dL_areWays_31 ?_
        refine j_aload_n 4 rfl dL_areWays_33 ?_
        refine j_iconst dL_areWays_34 ejc_2 ?_
        refine j_iald (lV_a_212 x σ) dL_areWays_35 ?_
        refine j_irem dL_areWays_36 ?_
        refine j_nmi (fun x78 => ?_)
        refine j_istore (i := 7) (L' := [(7, .int x78), (6, .int x77), (0, .ref (cw_a x.1 0)), (1, .ref (cw_a x.1 210)), (2, .ref (cw_a x.1 211)), (3, .ref (cw_a x.1 212)), (4, .int y1), (5, .int y2)]) dL_areWays_37 (Nat.le_of_ble_eq_true rfl) rfl ?_
        refine j_aload_n 2 rfl dL_areWays_39 ?_
        refine j_iload 1 rfl dL_areWays_40 ?_
        refine j_callVi (lcn_con (n10_cost x.1 n x77 σ.1)) lv_L_52 (lV_rc_0 x σ) ⟨Nat.le_of_ble_eq_true rfl, Nat.le_of_ble_eq_true rfl⟩ dL_areWays_42 rfl (Nat.le_of_ble_eq_true rfl) (fun r79 s80 => ?_)
        refine j_istore (i := 8) (L' := [(8, .int r79), (7, .int x78), (6, .int x77), (0, .ref (cw_a x.1 0)), (1, .ref (cw_a x.1 210)), (2, .ref (cw_a x.1 211)), (3, .ref (cw_a x.1 212)), (4, .int y1), (5, .int y2)]) dL_areWays_45 (Nat.le_of_ble_eq_true rfl) rfl ?_
        refine j_aload_n 3 rfl dL_areWays_47 ?_
        refine j_iload 1 rfl dL_areWays_48 ?_
        refine j_callVi (lcn_con (n10_cost x.1 n x78 s80.1)) lv_L_52 (lV_rc_0 x s80) ⟨Nat.le_of_ble_eq_true rfl, Nat.le_of_ble_eq_true rfl⟩ dL_areWays_50 rfl (Nat.le_of_ble_eq_true rfl) (fun r81 s82 => ?_)
        refine j_istore (i := 9) (L' := [(9, .int r81), (8, .int r79), (7, .int x78), (6, .int x77), (0, .ref (cw_a x.1 0)), (1, .ref (cw_a x.1 210)), (2, .ref (cw_a x.1 211)), (3, .ref (cw_a x.1 212)), (4, .int y1), (5, .int y2)]) dL_areWays_53 (Nat.le_of_ble_eq_true rfl) rfl ?_
        refine j_iconst dL_areWays_55 ejc_1 ?_
        refine j_istore (i := 10) (L' := [(10, .int 1), (9, .int r81), (8, .int r79), (7, .int x78), (6, .int x77), (0, .ref (cw_a x.1 0)), (1, .ref (cw_a x.1 210)), (2, .ref (cw_a x.1 211)), (3, .ref (cw_a x.1 212)), (4, .int y1), (5, .int y2)]) dL_areWays_56 (Nat.le_of_ble_eq_true rfl) rfl ?_
        exact j_sub [5, 6, 7, 8, 9, 10, 4, 3, 2, 1, 0] rfl (jL_areWays_58 x n hq (mL_areWays_6 n k) ih n y1 y2 x77 x78 r79 r81 1 s82)
noncomputable def mL_areWays (n : Nat)  (σ : lw_S) : Option (Int32 × lw_S) := (mL_areWays_6 n n 1 0 σ)
set_option maxRecDepth 20000 in
set_option maxHeartbeats 2000000 in
theorem jL_areWays (x : lw_T) (n : Nat)  (σ : lw_S) {F : ej_F} {r0 : Int32 × lw_S} (hq : ej_fin (lV x) F (some .boolean) (some (.int r0.1)) r0.2) : ej_J (lV x) F iL_areWays r0 σ 0 [(0, .ref (cw_a x.1 0)), (1, .ref (cw_a x.1 210)), (2, .ref (cw_a x.1 211)), (3, .ref (cw_a x.1 212))] [] (mL_areWays n  σ) := by
  unfold mL_areWays
  refine j_iconst dL_areWays_0 ejc_1 ?_
  refine j_istore (i := 4) (L' := [(4, .int 1), (0, .ref (cw_a x.1 0)), (1, .ref (cw_a x.1 210)), (2, .ref (cw_a x.1 211)), (3, .ref (cw_a x.1 212))]) dL_areWays_1 (Nat.le_of_ble_eq_true rfl) rfl ?_
  refine j_iconst dL_areWays_3 ejc_0 ?_
  refine j_istore (i := 5) (L' := [(5, .int 0), (4, .int 1), (0, .ref (cw_a x.1 0)), (1, .ref (cw_a x.1 210)), (2, .ref (cw_a x.1 211)), (3, .ref (cw_a x.1 212))]) dL_areWays_4 (Nat.le_of_ble_eq_true rfl) rfl ?_
  exact j_sub [2, 3, 4, 5, 1, 0] rfl (jL_areWays_6 x n hq n 1 0 σ)
theorem kL_areWays (x : lw_T) (n : Nat)  (σ : lw_S) : ∀ r σ1, mL_areWays n  σ = some (r, σ1) → ∀ l, ej_Con l (lV x) iL_areWays yL_areWays (some .boolean) [.ref (cw_a x.1 0), .ref (cw_a x.1 210), .ref (cw_a x.1 211), .ref (cw_a x.1 212)] σ (some (.int r)) σ1 := fun r σ1 h l => ej_con_of (lV_ok x) pn_L rfl (Nat.le_of_ble_eq_true rfl) rfl h (fun F hq => jL_areWays x n  σ hq)

noncomputable def mL_areBacks_472 (n : Nat) (y17 : Int32) (y18 : Int32) (σ : lw_S) : Option (Int32 × lw_S) := (if y18 = 0 then (some (0, σ)) else (if y17 = 0 then (some (1, σ)) else (some (0, σ))))
set_option maxRecDepth 20000 in
set_option maxHeartbeats 2000000 in
theorem jL_areBacks_472 (x : lw_T) (n : Nat) {F : ej_F} {r0 : Int32 × lw_S} (hq : ej_fin (lV x) F (some .boolean) (some (.int r0.1)) r0.2) (y17 : Int32) (y18 : Int32) (σ : lw_S) : ej_J (lV x) F iL_areBacks r0 σ 472 [(6, .int y17), (7, .int y18)] [] (mL_areBacks_472 n y17 y18 σ) := by
  unfold mL_areBacks_472
  refine j_iload 1 rfl dL_areBacks_472 ?_
  refine j_if_eq dL_areBacks_474 ?_ ?_
  · refine j_iconst dL_areBacks_486 ejc_0 ?_
    exact j_zreturn0 hq dL_areBacks_487
  · refine j_iload 0 rfl dL_areBacks_477 ?_
    refine j_if_ne dL_areBacks_479 ?_ ?_
    · refine j_iconst dL_areBacks_486 ejc_0 ?_
      exact j_zreturn0 hq dL_areBacks_487
    · refine j_iconst dL_areBacks_482 ejc_1 ?_
      refine j_goto dL_areBacks_483 ?_
      exact j_zreturn1 hq dL_areBacks_487
noncomputable def mL_areBacks_456 (n : Nat) (f413 : Int32 → Int32 → Int32 → Int32 → lw_S → Option (Int32 × lw_S)) (y25 : Int32) (y26 : Int32) (y27 : Int32) (y28 : Int32) (y29 : Int32) (σ : lw_S) : Option (Int32 × lw_S) := (if y29 = y28 then ej_nm (y27 + 1) fun x31 => (f413 y25 y26 1 x31 σ) else ej_nm (y27 + 1) fun x30 => (f413 y25 y26 0 x30 σ))
set_option maxRecDepth 20000 in
set_option maxHeartbeats 2000000 in
theorem jL_areBacks_456 (x : lw_T) (n : Nat) {F : ej_F} {r0 : Int32 × lw_S} (hq : ej_fin (lV x) F (some .boolean) (some (.int r0.1)) r0.2) (f413 : Int32 → Int32 → Int32 → Int32 → lw_S → Option (Int32 × lw_S)) (H413 : ∀ (y13 : Int32) (y14 : Int32) (y15 : Int32) (y16 : Int32) (σ : lw_S), ej_J (lV x) F iL_areBacks r0 σ 413 [(0, .ref (cw_a x.1 0)), (3, .ref (cw_a x.1 212)), (5, .int y13), (6, .int y14), (7, .int y15), (9, .int y16)] [] (f413 y13 y14 y15 y16 σ)) (y25 : Int32) (y26 : Int32) (y27 : Int32) (y28 : Int32) (y29 : Int32) (σ : lw_S) : ej_J (lV x) F iL_areBacks r0 σ 456 [(0, .ref (cw_a x.1 0)), (3, .ref (cw_a x.1 212)), (5, .int y25), (6, .int y26), (9, .int y27)] [.int y28, .int y29] (mL_areBacks_456 n f413 y25 y26 y27 y28 y29 σ) := by
  unfold mL_areBacks_456
  refine j_icmp_ne dL_areBacks_456 ?_ ?_
  · refine j_iconst dL_areBacks_463 ejc_0 ?_
    refine j_istore (i := 7) (L' := [(7, .int 0), (0, .ref (cw_a x.1 0)), (3, .ref (cw_a x.1 212)), (5, .int y25), (6, .int y26), (9, .int y27)]) dL_areBacks_464 (Nat.le_of_ble_eq_true rfl) rfl ?_
    refine j_iinc (i := 9) (v := 1) (Ly := fun x30 => [(9, .int x30), (7, .int 0), (0, .ref (cw_a x.1 0)), (3, .ref (cw_a x.1 212)), (5, .int y25), (6, .int y26)]) 5 dL_areBacks_466 rfl ejc_1 (Nat.le_of_ble_eq_true rfl) (fun _ => rfl) (fun x30 => ?_)
    refine j_goto dL_areBacks_469 ?_
    exact j_sub [2, 3, 4, 5, 1, 0] rfl (H413 y25 y26 0 x30 σ)
  · refine j_iconst dL_areBacks_459 ejc_1 ?_
    refine j_goto dL_areBacks_460 ?_
    refine j_istore (i := 7) (L' := [(7, .int 1), (0, .ref (cw_a x.1 0)), (3, .ref (cw_a x.1 212)), (5, .int y25), (6, .int y26), (9, .int y27)]) dL_areBacks_464 (Nat.le_of_ble_eq_true rfl) rfl ?_
    refine j_iinc (i := 9) (v := 1) (Ly := fun x31 => [(9, .int x31), (7, .int 1), (0, .ref (cw_a x.1 0)), (3, .ref (cw_a x.1 212)), (5, .int y25), (6, .int y26)]) 5 dL_areBacks_466 rfl ejc_1 (Nat.le_of_ble_eq_true rfl) (fun _ => rfl) (fun x31 => ?_)
    refine j_goto dL_areBacks_469 ?_
    exact j_sub [2, 3, 4, 5, 1, 0] rfl (H413 y25 y26 1 x31 σ)
noncomputable def mL_areBacks_440 (n : Nat) (f413 : Int32 → Int32 → Int32 → Int32 → lw_S → Option (Int32 × lw_S)) (y21 : Int32) (y22 : Int32) (y23 : Int32) (y24 : Int32) (σ : lw_S) : Option (Int32 × lw_S) := (if (y21 >>> (y23 &&& 31)) &&& 1 = 1 then (mL_areBacks_456 n f413 y21 y22 y23 1 y24 σ) else (mL_areBacks_456 n f413 y21 y22 y23 0 y24 σ))
set_option maxRecDepth 20000 in
set_option maxHeartbeats 2000000 in
theorem jL_areBacks_440 (x : lw_T) (n : Nat) {F : ej_F} {r0 : Int32 × lw_S} (hq : ej_fin (lV x) F (some .boolean) (some (.int r0.1)) r0.2) (f413 : Int32 → Int32 → Int32 → Int32 → lw_S → Option (Int32 × lw_S)) (H413 : ∀ (y13 : Int32) (y14 : Int32) (y15 : Int32) (y16 : Int32) (σ : lw_S), ej_J (lV x) F iL_areBacks r0 σ 413 [(0, .ref (cw_a x.1 0)), (3, .ref (cw_a x.1 212)), (5, .int y13), (6, .int y14), (7, .int y15), (9, .int y16)] [] (f413 y13 y14 y15 y16 σ)) (y21 : Int32) (y22 : Int32) (y23 : Int32) (y24 : Int32) (σ : lw_S) : ej_J (lV x) F iL_areBacks r0 σ 440 [(0, .ref (cw_a x.1 0)), (3, .ref (cw_a x.1 212)), (5, .int y21), (6, .int y22), (9, .int y23)] [.int y24] (mL_areBacks_440 n f413 y21 y22 y23 y24 σ) := by
  unfold mL_areBacks_440
  refine j_iload 2 rfl dL_areBacks_440 ?_
  refine j_iload 4 rfl dL_areBacks_442 ?_
  refine j_ishr dL_areBacks_444 ?_
  refine j_iconst dL_areBacks_445 ejc_1 ?_
  refine j_iand dL_areBacks_446 ?_
  refine j_iconst dL_areBacks_447 ejc_1 ?_
  refine j_icmp_ne dL_areBacks_448 ?_ ?_
  · refine j_iconst dL_areBacks_455 ejc_0 ?_
    exact j_sub [0, 1, 2, 3, 4] rfl (jL_areBacks_456 x n hq f413 H413 y21 y22 y23 0 y24 σ)
  · refine j_iconst dL_areBacks_451 ejc_1 ?_
    refine j_goto dL_areBacks_452 ?_
    exact j_sub [0, 1, 2, 3, 4] rfl (jL_areBacks_456 x n hq f413 H413 y21 y22 y23 1 y24 σ)
noncomputable def mL_areBacks_413 (n : Nat) (k : Nat) : Int32 → Int32 → Int32 → Int32 → lw_S → Option (Int32 × lw_S) := Nat.rec (motive := fun _ => Int32 → Int32 → Int32 → Int32 → lw_S → Option (Int32 × lw_S)) (fun _ _ _ _ _ => none) (fun _ ih y13 y14 y15 y16 σ => ej_ck 2 4 ((if gA σ.2 2 (2 : Int32).toNatClampNeg ≤ y16 then (mL_areBacks_472 n y14 y15 σ) else (if y15 = 0 then (mL_areBacks_472 n y14 y15 σ) else ej_bi (ej_lcn (m10_cost n y16 σ.1) σ) fun r19 s20 => (if r19 < 0 then (mL_areBacks_440 n ih y13 y14 y16 0 s20) else (mL_areBacks_440 n ih y13 y14 y16 1 s20)))))) k
theorem mL_areBacks_413_s (n : Nat) (k : Nat) (y13 : Int32) (y14 : Int32) (y15 : Int32) (y16 : Int32) (σ : lw_S) : mL_areBacks_413 n (k + 1) y13 y14 y15 y16 σ = (ej_ck 2 4 ((if gA σ.2 2 (2 : Int32).toNatClampNeg ≤ y16 then (mL_areBacks_472 n y14 y15 σ) else (if y15 = 0 then (mL_areBacks_472 n y14 y15 σ) else ej_bi (ej_lcn (m10_cost n y16 σ.1) σ) fun r19 s20 => (if r19 < 0 then (mL_areBacks_440 n (mL_areBacks_413 n k) y13 y14 y16 0 s20) else (mL_areBacks_440 n (mL_areBacks_413 n k) y13 y14 y16 1 s20))))) : Option (Int32 × lw_S)) := rfl
set_option maxRecDepth 20000 in
set_option maxHeartbeats 2000000 in
theorem jL_areBacks_413 (x : lw_T) (n : Nat) {F : ej_F} {r0 : Int32 × lw_S} (hq : ej_fin (lV x) F (some .boolean) (some (.int r0.1)) r0.2) : ∀ (k : Nat) (y13 : Int32) (y14 : Int32) (y15 : Int32) (y16 : Int32) (σ : lw_S), ej_J (lV x) F iL_areBacks r0 σ 413 [(0, .ref (cw_a x.1 0)), (3, .ref (cw_a x.1 212)), (5, .int y13), (6, .int y14), (7, .int y15), (9, .int y16)] [] (mL_areBacks_413 n k y13 y14 y15 y16 σ) := by
  intro k
  induction k with
  | zero => intro y13 y14 y15 y16 σ; exact j_none
  | succ k ih =>
    intro y13 y14 y15 y16 σ
    rw [mL_areBacks_413_s]
    refine j_iload 5 rfl dL_areBacks_413 ?_
    refine j_aload_n 1 rfl dL_areBacks_415 ?_
    refine j_iconst dL_areBacks_416 ejc_2 ?_
    refine j_iald (lV_a_212 x σ) dL_areBacks_417 ?_
    refine j_icmp_ge dL_areBacks_418 ?_ ?_
    · exact j_sub [3, 4] rfl (jL_areBacks_472 x n hq y14 y15 σ)
    · refine j_iload 4 rfl dL_areBacks_421 ?_
      refine j_if_eq dL_areBacks_423 ?_ ?_
      · exact j_sub [3, 4] rfl (jL_areBacks_472 x n hq y14 y15 σ)
      · refine j_aload_n 0 rfl dL_areBacks_426 ?_
        refine j_iload 5 rfl dL_areBacks_427 ?_
        refine j_callVi (lcn_con (n10_cost x.1 n y16 σ.1)) lv_L_52 (lV_rc_0 x σ) ⟨Nat.le_of_ble_eq_true rfl, Nat.le_of_ble_eq_true rfl⟩ dL_areBacks_429 rfl (Nat.le_of_ble_eq_true rfl) (fun r19 s20 => ?_)
        refine j_if_lt dL_areBacks_432 ?_ ?_
        · refine j_iconst dL_areBacks_439 ejc_0 ?_
          exact j_sub [0, 1, 2, 3, 5] rfl (jL_areBacks_440 x n hq (mL_areBacks_413 n k) ih y13 y14 y16 0 s20)
        · refine j_iconst dL_areBacks_435 ejc_1 ?_
          refine j_goto dL_areBacks_436 ?_
          exact j_sub [0, 1, 2, 3, 5] rfl (jL_areBacks_440 x n hq (mL_areBacks_413 n k) ih y13 y14 y16 1 s20)
noncomputable def mL_areBacks_358 (n : Nat) (k : Nat) : Int32 → Int32 → Int32 → Int32 → lw_S → Option (Int32 × lw_S) := Nat.rec (motive := fun _ => Int32 → Int32 → Int32 → Int32 → lw_S → Option (Int32 × lw_S)) (fun _ _ _ _ _ => none) (fun _ ih y9 y10 y11 y12 σ => ej_ck 2 4 (ej_ck 2 4 ((if (gA σ.2 2 (2 : Int32).toNatClampNeg) * (gA σ.2 2 (2 : Int32).toNatClampNeg) ≤ y12 then (mL_areBacks_413 n n y9 y10 y11 0 σ) else (if y11 = 0 then (mL_areBacks_413 n n y9 y10 y11 0 σ) else ej_ck 2 4 (ej_dv (gA σ.2 2 (2 : Int32).toNatClampNeg) (ej_ck 2 4 (ej_dv (gA σ.2 2 (2 : Int32).toNatClampNeg) (ej_bi (ej_lcn (m10_isBack n (y12 / (gA σ.2 2 (2 : Int32).toNatClampNeg)) (y12 - y12 / (gA σ.2 2 (2 : Int32).toNatClampNeg) * (gA σ.2 2 (2 : Int32).toNatClampNeg)) σ.1) σ) fun r32 s33 => (if r32 = 0 then ej_nm (y10 - 0) fun x34 => ej_nm (y12 + 1) fun x35 => (ih y9 x34 y11 x35 s33) else ej_nm (y10 - 1) fun x36 => ej_nm (y12 + 1) fun x37 => (ih y9 x36 y11 x37 s33))))))))))) k
theorem mL_areBacks_358_s (n : Nat) (k : Nat) (y9 : Int32) (y10 : Int32) (y11 : Int32) (y12 : Int32) (σ : lw_S) : mL_areBacks_358 n (k + 1) y9 y10 y11 y12 σ = (ej_ck 2 4 (ej_ck 2 4 ((if (gA σ.2 2 (2 : Int32).toNatClampNeg) * (gA σ.2 2 (2 : Int32).toNatClampNeg) ≤ y12 then (mL_areBacks_413 n n y9 y10 y11 0 σ) else (if y11 = 0 then (mL_areBacks_413 n n y9 y10 y11 0 σ) else ej_ck 2 4 (ej_dv (gA σ.2 2 (2 : Int32).toNatClampNeg) (ej_ck 2 4 (ej_dv (gA σ.2 2 (2 : Int32).toNatClampNeg) (ej_bi (ej_lcn (m10_isBack n (y12 / (gA σ.2 2 (2 : Int32).toNatClampNeg)) (y12 - y12 / (gA σ.2 2 (2 : Int32).toNatClampNeg) * (gA σ.2 2 (2 : Int32).toNatClampNeg)) σ.1) σ) fun r32 s33 => (if r32 = 0 then ej_nm (y10 - 0) fun x34 => ej_nm (y12 + 1) fun x35 => ((mL_areBacks_358 n k) y9 x34 y11 x35 s33) else ej_nm (y10 - 1) fun x36 => ej_nm (y12 + 1) fun x37 => ((mL_areBacks_358 n k) y9 x36 y11 x37 s33)))))))))) : Option (Int32 × lw_S)) := rfl
set_option maxRecDepth 20000 in
set_option maxHeartbeats 2000000 in
theorem jL_areBacks_358 (x : lw_T) (n : Nat) {F : ej_F} {r0 : Int32 × lw_S} (hq : ej_fin (lV x) F (some .boolean) (some (.int r0.1)) r0.2) : ∀ (k : Nat) (y9 : Int32) (y10 : Int32) (y11 : Int32) (y12 : Int32) (σ : lw_S), ej_J (lV x) F iL_areBacks r0 σ 358 [(0, .ref (cw_a x.1 0)), (3, .ref (cw_a x.1 212)), (5, .int y9), (6, .int y10), (7, .int y11), (9, .int y12)] [] (mL_areBacks_358 n k y9 y10 y11 y12 σ) := by
  intro k
  induction k with
  | zero => intro y9 y10 y11 y12 σ; exact j_none
  | succ k ih =>
    intro y9 y10 y11 y12 σ
    rw [mL_areBacks_358_s]
    refine j_iload 5 rfl dL_areBacks_358 ?_
    refine j_aload_n 1 rfl dL_areBacks_360 ?_
    refine j_iconst dL_areBacks_361 ejc_2 ?_
    refine j_iald (lV_a_212 x σ) dL_areBacks_362 ?_
    refine j_aload_n 1 rfl dL_areBacks_363 ?_
    refine j_iconst dL_areBacks_364 ejc_2 ?_
    refine j_iald (lV_a_212 x σ) dL_areBacks_365 ?_
    refine j_imul dL_areBacks_366 ?_
    refine j_icmp_ge dL_areBacks_367 ?_ ?_
    · refine j_iconst dL_areBacks_410 ejc_0 ?_
      refine j_istore (i := 9) (L' := [(9, .int 0), (0, .ref (cw_a x.1 0)), (3, .ref (cw_a x.1 212)), (5, .int y9), (6, .int y10), (7, .int y11)]) dL_areBacks_411 (Nat.le_of_ble_eq_true rfl) rfl ?_
      exact j_sub [1, 2, 3, 4, 5, 0] rfl (jL_areBacks_413 x n hq n y9 y10 y11 0 σ)
    · refine j_iload 4 rfl dL_areBacks_370 ?_
      refine j_if_eq dL_areBacks_372 ?_ ?_
      · refine j_iconst dL_areBacks_410 ejc_0 ?_
        refine j_istore (i := 9) (L' := [(9, .int 0), (0, .ref (cw_a x.1 0)), (3, .ref (cw_a x.1 212)), (5, .int y9), (6, .int y10), (7, .int y11)]) dL_areBacks_411 (Nat.le_of_ble_eq_true rfl) rfl ?_
        exact j_sub [1, 2, 3, 4, 5, 0] rfl (jL_areBacks_413 x n hq n y9 y10 y11 0 σ)
      · refine j_iload 3 rfl dL_areBacks_375 ?_
        refine j_aload_n 0 rfl dL_areBacks_377 ?_
        refine j_iload 5 rfl dL_areBacks_378 ?_
        refine j_aload_n 1 rfl dL_areBacks_380 ?_
        refine j_iconst dL_areBacks_381 ejc_2 ?_
        refine j_iald (lV_a_212 x σ) dL_areBacks_382 ?_
        refine j_idiv dL_areBacks_383 ?_
        refine j_iload 5 rfl dL_areBacks_384 ?_
        refine j_aload_n 1 rfl dL_areBacks_386 ?_
        refine j_iconst dL_areBacks_387 ejc_2 ?_
        refine j_iald (lV_a_212 x σ) dL_areBacks_388 ?_
        refine j_irem dL_areBacks_389 ?_
        refine j_callVi (lcn_con (n10_isBack x.1 n (y12 / (gA σ.2 2 (2 : Int32).toNatClampNeg)) (y12 - y12 / (gA σ.2 2 (2 : Int32).toNatClampNeg) * (gA σ.2 2 (2 : Int32).toNatClampNeg)) σ.1)) lv_L_73 (lV_rc_0 x σ) ⟨Nat.le_of_ble_eq_true rfl, Nat.le_of_ble_eq_true rfl⟩ dL_areBacks_390 rfl (Nat.le_of_ble_eq_true rfl) (fun r32 s33 => ?_)
        refine j_if_eq dL_areBacks_393 ?_ ?_
        · refine j_iconst dL_areBacks_400 ejc_0 ?_
          refine j_isub dL_areBacks_401 ?_
          refine j_nmi (fun x34 => ?_)
          refine j_istore (i := 6) (L' := [(6, .int x34), (0, .ref (cw_a x.1 0)), (3, .ref (cw_a x.1 212)), (5, .int y9), (7, .int y11), (9, .int y12)]) dL_areBacks_402 (Nat.le_of_ble_eq_true rfl) rfl ?_
          refine j_iinc (i := 9) (v := 1) (Ly := fun x35 => [(9, .int x35), (6, .int x34), (0, .ref (cw_a x.1 0)), (3, .ref (cw_a x.1 212)), (5, .int y9), (7, .int y11)]) 5 dL_areBacks_404 rfl ejc_1 (Nat.le_of_ble_eq_true rfl) (fun _ => rfl) (fun x35 => ?_)
          refine j_goto dL_areBacks_407 ?_
          exact j_sub [2, 3, 4, 1, 5, 0] rfl (ih y9 x34 y11 x35 s33)
        · refine j_iconst dL_areBacks_396 ejc_1 ?_
          refine j_goto dL_areBacks_397 ?_
          refine j_isub dL_areBacks_401 ?_
          refine j_nmi (fun x36 => ?_)
          refine j_istore (i := 6) (L' := [(6, .int x36), (0, .ref (cw_a x.1 0)), (3, .ref (cw_a x.1 212)), (5, .int y9), (7, .int y11), (9, .int y12)]) dL_areBacks_402 (Nat.le_of_ble_eq_true rfl) rfl ?_
          refine j_iinc (i := 9) (v := 1) (Ly := fun x37 => [(9, .int x37), (6, .int x36), (0, .ref (cw_a x.1 0)), (3, .ref (cw_a x.1 212)), (5, .int y9), (7, .int y11)]) 5 dL_areBacks_404 rfl ejc_1 (Nat.le_of_ble_eq_true rfl) (fun _ => rfl) (fun x37 => ?_)
          refine j_goto dL_areBacks_407 ?_
          exact j_sub [2, 3, 4, 1, 5, 0] rfl (ih y9 x36 y11 x37 s33)
noncomputable def mL_areBacks_307 (n : Nat) (f194 : Int32 → Int32 → Int32 → Int32 → Int32 → lw_S → Option (Int32 × lw_S)) (y57 : Int32) (y58 : Int32) (y59 : Int32) (y60 : Int32) (y61 : Int32) (y62 : Int32) (y63 : Int32) (y64 : Int32) (σ : lw_S) : Option (Int32 × lw_S) := ej_nm (y64 + y63) fun x65 => (if y62 = 0 then ej_nm (y59 ||| 0) fun x66 => ej_nm (y60 + 1) fun x67 => (f194 y57 x65 y58 x66 x67 σ) else ej_nm (y59 ||| (1 <<< (y61 &&& 31))) fun x68 => ej_nm (y60 + 1) fun x69 => (f194 y57 x65 y58 x68 x69 σ))
set_option maxRecDepth 20000 in
set_option maxHeartbeats 2000000 in
theorem jL_areBacks_307 (x : lw_T) (n : Nat) {F : ej_F} {r0 : Int32 × lw_S} (hq : ej_fin (lV x) F (some .boolean) (some (.int r0.1)) r0.2) (f194 : Int32 → Int32 → Int32 → Int32 → Int32 → lw_S → Option (Int32 × lw_S)) (H194 : ∀ (y42 : Int32) (y43 : Int32) (y44 : Int32) (y45 : Int32) (y46 : Int32) (σ : lw_S), ej_J (lV x) F iL_areBacks r0 σ 194 [(0, .ref (cw_a x.1 0)), (1, .ref (cw_a x.1 210)), (2, .ref (cw_a x.1 211)), (3, .ref (cw_a x.1 212)), (5, .int y42), (6, .int y43), (7, .int y44), (10, .int y45), (11, .int y46)] [] (f194 y42 y43 y44 y45 y46 σ)) (y57 : Int32) (y58 : Int32) (y59 : Int32) (y60 : Int32) (y61 : Int32) (y62 : Int32) (y63 : Int32) (y64 : Int32) (σ : lw_S) : ej_J (lV x) F iL_areBacks r0 σ 307 [(0, .ref (cw_a x.1 0)), (1, .ref (cw_a x.1 210)), (2, .ref (cw_a x.1 211)), (3, .ref (cw_a x.1 212)), (5, .int y57), (7, .int y58), (10, .int y59), (11, .int y60), (13, .int y61), (14, .int y62)] [.int y63, .int y64] (mL_areBacks_307 n f194 y57 y58 y59 y60 y61 y62 y63 y64 σ) := by
  unfold mL_areBacks_307
  refine j_iadd dL_areBacks_307 ?_
  refine j_nmi (fun x65 => ?_)
  refine j_istore (i := 6) (L' := [(6, .int x65), (0, .ref (cw_a x.1 0)), (1, .ref (cw_a x.1 210)), (2, .ref (cw_a x.1 211)), (3, .ref (cw_a x.1 212)), (5, .int y57), (7, .int y58), (10, .int y59), (11, .int y60), (13, .int y61), (14, .int y62)]) dL_areBacks_308 (Nat.le_of_ble_eq_true rfl) rfl ?_
  refine j_iload 7 rfl dL_areBacks_310 ?_
  refine j_iload 10 rfl dL_areBacks_312 ?_
  refine j_if_eq dL_areBacks_314 ?_ ?_
  · refine j_iconst dL_areBacks_324 ejc_0 ?_
    refine j_ior dL_areBacks_325 ?_
    refine j_nmi (fun x66 => ?_)
    refine j_istore (i := 10) (L' := [(10, .int x66), (6, .int x65), (0, .ref (cw_a x.1 0)), (1, .ref (cw_a x.1 210)), (2, .ref (cw_a x.1 211)), (3, .ref (cw_a x.1 212)), (5, .int y57), (7, .int y58), (11, .int y60), (13, .int y61), (14, .int y62)]) dL_areBacks_326 (Nat.le_of_ble_eq_true rfl) rfl ?_
    refine j_iinc (i := 11) (v := 1) (Ly := fun x67 => [(11, .int x67), (10, .int x66), (6, .int x65), (0, .ref (cw_a x.1 0)), (1, .ref (cw_a x.1 210)), (2, .ref (cw_a x.1 211)), (3, .ref (cw_a x.1 212)), (5, .int y57), (7, .int y58), (13, .int y61), (14, .int y62)]) 8 dL_areBacks_328 rfl ejc_1 (Nat.le_of_ble_eq_true rfl) (fun _ => rfl) (fun x67 => ?_)
    refine j_goto dL_areBacks_331 ?_
    exact j_sub [3, 4, 5, 6, 7, 2, 8, 1, 0] rfl (H194 y57 x65 y58 x66 x67 σ)
  · refine j_iconst dL_areBacks_317 ejc_1 ?_
    refine j_iload 9 rfl dL_areBacks_318 ?_
    refine j_ishl dL_areBacks_320 ?_
    refine j_goto dL_areBacks_321 ?_
    refine j_ior dL_areBacks_325 ?_
    refine j_nmi (fun x68 => ?_)
    refine j_istore (i := 10) (L' := [(10, .int x68), (6, .int x65), (0, .ref (cw_a x.1 0)), (1, .ref (cw_a x.1 210)), (2, .ref (cw_a x.1 211)), (3, .ref (cw_a x.1 212)), (5, .int y57), (7, .int y58), (11, .int y60), (13, .int y61), (14, .int y62)]) dL_areBacks_326 (Nat.le_of_ble_eq_true rfl) rfl ?_
    refine j_iinc (i := 11) (v := 1) (Ly := fun x69 => [(11, .int x69), (10, .int x68), (6, .int x65), (0, .ref (cw_a x.1 0)), (1, .ref (cw_a x.1 210)), (2, .ref (cw_a x.1 211)), (3, .ref (cw_a x.1 212)), (5, .int y57), (7, .int y58), (13, .int y61), (14, .int y62)]) 8 dL_areBacks_328 rfl ejc_1 (Nat.le_of_ble_eq_true rfl) (fun _ => rfl) (fun x69 => ?_)
    refine j_goto dL_areBacks_331 ?_
    exact j_sub [3, 4, 5, 6, 7, 2, 8, 1, 0] rfl (H194 y57 x65 y58 x68 x69 σ)
noncomputable def mL_areBacks_288 (n : Nat) (f194 : Int32 → Int32 → Int32 → Int32 → Int32 → lw_S → Option (Int32 × lw_S)) (y70 : Int32) (y71 : Int32) (y72 : Int32) (y73 : Int32) (y74 : Int32) (y75 : Int32) (σ : lw_S) : Option (Int32 × lw_S) := (if y75 = 0 then (mL_areBacks_307 n f194 y70 1 y72 y73 y74 y75 0 y71 σ) else (mL_areBacks_307 n f194 y70 1 y72 y73 y74 y75 1 y71 σ))
set_option maxRecDepth 20000 in
set_option maxHeartbeats 2000000 in
theorem jL_areBacks_288 (x : lw_T) (n : Nat) {F : ej_F} {r0 : Int32 × lw_S} (hq : ej_fin (lV x) F (some .boolean) (some (.int r0.1)) r0.2) (f194 : Int32 → Int32 → Int32 → Int32 → Int32 → lw_S → Option (Int32 × lw_S)) (H194 : ∀ (y42 : Int32) (y43 : Int32) (y44 : Int32) (y45 : Int32) (y46 : Int32) (σ : lw_S), ej_J (lV x) F iL_areBacks r0 σ 194 [(0, .ref (cw_a x.1 0)), (1, .ref (cw_a x.1 210)), (2, .ref (cw_a x.1 211)), (3, .ref (cw_a x.1 212)), (5, .int y42), (6, .int y43), (7, .int y44), (10, .int y45), (11, .int y46)] [] (f194 y42 y43 y44 y45 y46 σ)) (y70 : Int32) (y71 : Int32) (y72 : Int32) (y73 : Int32) (y74 : Int32) (y75 : Int32) (σ : lw_S) : ej_J (lV x) F iL_areBacks r0 σ 288 [(0, .ref (cw_a x.1 0)), (1, .ref (cw_a x.1 210)), (2, .ref (cw_a x.1 211)), (3, .ref (cw_a x.1 212)), (5, .int y70), (6, .int y71), (10, .int y72), (11, .int y73), (13, .int y74), (14, .int y75)] [] (mL_areBacks_288 n f194 y70 y71 y72 y73 y74 y75 σ) := by
  unfold mL_areBacks_288
  refine j_iconst dL_areBacks_288 ejc_1 ?_
  refine j_goto dL_areBacks_289 ?_
  refine j_istore (i := 7) (L' := [(7, .int 1), (0, .ref (cw_a x.1 0)), (1, .ref (cw_a x.1 210)), (2, .ref (cw_a x.1 211)), (3, .ref (cw_a x.1 212)), (5, .int y70), (6, .int y71), (10, .int y72), (11, .int y73), (13, .int y74), (14, .int y75)]) dL_areBacks_293 (Nat.le_of_ble_eq_true rfl) rfl ?_
  refine j_iload 6 rfl dL_areBacks_295 ?_
  refine j_iload 10 rfl dL_areBacks_297 ?_
  refine j_if_eq dL_areBacks_299 ?_ ?_
  · refine j_iconst dL_areBacks_306 ejc_0 ?_
    exact j_sub [1, 2, 3, 4, 5, 0, 7, 8, 9, 10] rfl (jL_areBacks_307 x n hq f194 H194 y70 1 y72 y73 y74 y75 0 y71 σ)
  · refine j_iconst dL_areBacks_302 ejc_1 ?_
    refine j_goto dL_areBacks_303 ?_
    exact j_sub [1, 2, 3, 4, 5, 0, 7, 8, 9, 10] rfl (jL_areBacks_307 x n hq f194 H194 y70 1 y72 y73 y74 y75 1 y71 σ)
noncomputable def mL_areBacks_265 (n : Nat) (f194 : Int32 → Int32 → Int32 → Int32 → Int32 → lw_S → Option (Int32 × lw_S)) (y49 : Int32) (y50 : Int32) (y51 : Int32) (y52 : Int32) (y53 : Int32) (y54 : Int32) (y55 : Int32) (y56 : Int32) (σ : lw_S) : Option (Int32 × lw_S) := (if y51 = 0 then (if y56 = 0 then (mL_areBacks_307 n f194 y49 0 y52 y53 y55 y56 0 y50 σ) else (mL_areBacks_307 n f194 y49 0 y52 y53 y55 y56 1 y50 σ)) else (if y56 = 0 then (mL_areBacks_288 n f194 y49 y50 y52 y53 y55 y56 σ) else ej_bi (ej_lcn (m10_isBack n y54 y55 σ.1) σ) fun r76 s77 => (if r76 = 0 then (if y56 = 0 then (mL_areBacks_307 n f194 y49 0 y52 y53 y55 y56 0 y50 s77) else (mL_areBacks_307 n f194 y49 0 y52 y53 y55 y56 1 y50 s77)) else (mL_areBacks_288 n f194 y49 y50 y52 y53 y55 y56 s77))))
set_option maxRecDepth 20000 in
set_option maxHeartbeats 2000000 in
theorem jL_areBacks_265 (x : lw_T) (n : Nat) {F : ej_F} {r0 : Int32 × lw_S} (hq : ej_fin (lV x) F (some .boolean) (some (.int r0.1)) r0.2) (f194 : Int32 → Int32 → Int32 → Int32 → Int32 → lw_S → Option (Int32 × lw_S)) (H194 : ∀ (y42 : Int32) (y43 : Int32) (y44 : Int32) (y45 : Int32) (y46 : Int32) (σ : lw_S), ej_J (lV x) F iL_areBacks r0 σ 194 [(0, .ref (cw_a x.1 0)), (1, .ref (cw_a x.1 210)), (2, .ref (cw_a x.1 211)), (3, .ref (cw_a x.1 212)), (5, .int y42), (6, .int y43), (7, .int y44), (10, .int y45), (11, .int y46)] [] (f194 y42 y43 y44 y45 y46 σ)) (y49 : Int32) (y50 : Int32) (y51 : Int32) (y52 : Int32) (y53 : Int32) (y54 : Int32) (y55 : Int32) (y56 : Int32) (σ : lw_S) : ej_J (lV x) F iL_areBacks r0 σ 265 [(0, .ref (cw_a x.1 0)), (1, .ref (cw_a x.1 210)), (2, .ref (cw_a x.1 211)), (3, .ref (cw_a x.1 212)), (5, .int y49), (6, .int y50), (7, .int y51), (10, .int y52), (11, .int y53), (12, .int y54), (13, .int y55)] [.int y56] (mL_areBacks_265 n f194 y49 y50 y51 y52 y53 y54 y55 y56 σ) := by
  unfold mL_areBacks_265
  refine j_istore (i := 14) (L' := [(14, .int y56), (0, .ref (cw_a x.1 0)), (1, .ref (cw_a x.1 210)), (2, .ref (cw_a x.1 211)), (3, .ref (cw_a x.1 212)), (5, .int y49), (6, .int y50), (7, .int y51), (10, .int y52), (11, .int y53), (12, .int y54), (13, .int y55)]) dL_areBacks_265 (Nat.le_of_ble_eq_true rfl) rfl ?_
  refine j_iload 7 rfl dL_areBacks_267 ?_
  refine j_if_eq dL_areBacks_269 ?_ ?_
  · refine j_iconst dL_areBacks_292 ejc_0 ?_
    refine j_istore (i := 7) (L' := [(7, .int 0), (14, .int y56), (0, .ref (cw_a x.1 0)), (1, .ref (cw_a x.1 210)), (2, .ref (cw_a x.1 211)), (3, .ref (cw_a x.1 212)), (5, .int y49), (6, .int y50), (10, .int y52), (11, .int y53), (12, .int y54), (13, .int y55)]) dL_areBacks_293 (Nat.le_of_ble_eq_true rfl) rfl ?_
    refine j_iload 7 rfl dL_areBacks_295 ?_
    refine j_iload 1 rfl dL_areBacks_297 ?_
    refine j_if_eq dL_areBacks_299 ?_ ?_
    · refine j_iconst dL_areBacks_306 ejc_0 ?_
      exact j_sub [2, 3, 4, 5, 6, 0, 8, 9, 11, 1] rfl (jL_areBacks_307 x n hq f194 H194 y49 0 y52 y53 y55 y56 0 y50 σ)
    · refine j_iconst dL_areBacks_302 ejc_1 ?_
      refine j_goto dL_areBacks_303 ?_
      exact j_sub [2, 3, 4, 5, 6, 0, 8, 9, 11, 1] rfl (jL_areBacks_307 x n hq f194 H194 y49 0 y52 y53 y55 y56 1 y50 σ)
  · refine j_iload 0 rfl dL_areBacks_272 ?_
    refine j_if_eq dL_areBacks_274 ?_ ?_
    · exact j_sub [1, 2, 3, 4, 5, 6, 8, 9, 11, 0] rfl (jL_areBacks_288 x n hq f194 H194 y49 y50 y52 y53 y55 y56 σ)
    · refine j_aload_n 1 rfl dL_areBacks_277 ?_
      refine j_iload 10 rfl dL_areBacks_278 ?_
      refine j_iload 11 rfl dL_areBacks_280 ?_
      refine j_callVi (lcn_con (n10_isBack x.1 n y54 y55 σ.1)) lv_L_73 (lV_rc_0 x σ) ⟨Nat.le_of_ble_eq_true rfl, Nat.le_of_ble_eq_true rfl⟩ dL_areBacks_282 rfl (Nat.le_of_ble_eq_true rfl) (fun r76 s77 => ?_)
      refine j_if_eq dL_areBacks_285 ?_ ?_
      · refine j_iconst dL_areBacks_292 ejc_0 ?_
        refine j_istore (i := 7) (L' := [(7, .int 0), (14, .int y56), (0, .ref (cw_a x.1 0)), (1, .ref (cw_a x.1 210)), (2, .ref (cw_a x.1 211)), (3, .ref (cw_a x.1 212)), (5, .int y49), (6, .int y50), (10, .int y52), (11, .int y53), (12, .int y54), (13, .int y55)]) dL_areBacks_293 (Nat.le_of_ble_eq_true rfl) rfl ?_
        refine j_iload 7 rfl dL_areBacks_295 ?_
        refine j_iload 1 rfl dL_areBacks_297 ?_
        refine j_if_eq dL_areBacks_299 ?_ ?_
        · refine j_iconst dL_areBacks_306 ejc_0 ?_
          exact j_sub [2, 3, 4, 5, 6, 0, 8, 9, 11, 1] rfl (jL_areBacks_307 x n hq f194 H194 y49 0 y52 y53 y55 y56 0 y50 s77)
        · refine j_iconst dL_areBacks_302 ejc_1 ?_
          refine j_goto dL_areBacks_303 ?_
          exact j_sub [2, 3, 4, 5, 6, 0, 8, 9, 11, 1] rfl (jL_areBacks_307 x n hq f194 H194 y49 0 y52 y53 y55 y56 1 y50 s77)
      · exact j_sub [1, 2, 3, 4, 5, 6, 8, 9, 11, 0] rfl (jL_areBacks_288 x n hq f194 H194 y49 y50 y52 y53 y55 y56 s77)
noncomputable def mL_areBacks_194 (n : Nat) (f43 : Int32 → Int32 → Int32 → Int32 → lw_S → Option (Int32 × lw_S)) (k : Nat) : Int32 → Int32 → Int32 → Int32 → Int32 → lw_S → Option (Int32 × lw_S) := Nat.rec (motive := fun _ => Int32 → Int32 → Int32 → Int32 → Int32 → lw_S → Option (Int32 × lw_S)) (fun _ _ _ _ _ _ => none) (fun _ ih y42 y43 y44 y45 y46 σ => ej_ck 2 4 (ej_ck 2 4 ((if (gA σ.2 2 (2 : Int32).toNatClampNeg) * (gA σ.2 2 (2 : Int32).toNatClampNeg) ≤ y46 then (if y45 = y42 then (f43 y45 y43 y44 0 σ) else (f43 y45 y43 y44 1 σ)) else ej_ck 2 4 (ej_dv (gA σ.2 2 (2 : Int32).toNatClampNeg) (ej_nm (y46 / (gA σ.2 2 (2 : Int32).toNatClampNeg)) fun x47 => ej_ck 2 4 (ej_dv (gA σ.2 2 (2 : Int32).toNatClampNeg) (ej_nm (y46 - y46 / (gA σ.2 2 (2 : Int32).toNatClampNeg) * (gA σ.2 2 (2 : Int32).toNatClampNeg)) fun x48 => (if (y42 >>> (x47 &&& 31)) &&& 1 = 1 then (if (y42 >>> (x48 &&& 31)) &&& 1 = 0 then ej_ck x48 12 (ej_ck x47 12 (ej_bi (mL_told n 0 (gA σ.2 1 x48.toNatClampNeg) (gA σ.2 1 x47.toNatClampNeg) σ) fun r78 s79 => (if r78 < 0 then (mL_areBacks_265 n ih y42 y43 y44 y45 y46 x47 x48 0 s79) else (mL_areBacks_265 n ih y42 y43 y44 y45 y46 x47 x48 1 s79)))) else (mL_areBacks_265 n ih y42 y43 y44 y45 y46 x47 x48 0 σ)) else (mL_areBacks_265 n ih y42 y43 y44 y45 y46 x47 x48 0 σ)))))))))) k
theorem mL_areBacks_194_s (n : Nat) (f43 : Int32 → Int32 → Int32 → Int32 → lw_S → Option (Int32 × lw_S)) (k : Nat) (y42 : Int32) (y43 : Int32) (y44 : Int32) (y45 : Int32) (y46 : Int32) (σ : lw_S) : mL_areBacks_194 n f43 (k + 1) y42 y43 y44 y45 y46 σ = (ej_ck 2 4 (ej_ck 2 4 ((if (gA σ.2 2 (2 : Int32).toNatClampNeg) * (gA σ.2 2 (2 : Int32).toNatClampNeg) ≤ y46 then (if y45 = y42 then (f43 y45 y43 y44 0 σ) else (f43 y45 y43 y44 1 σ)) else ej_ck 2 4 (ej_dv (gA σ.2 2 (2 : Int32).toNatClampNeg) (ej_nm (y46 / (gA σ.2 2 (2 : Int32).toNatClampNeg)) fun x47 => ej_ck 2 4 (ej_dv (gA σ.2 2 (2 : Int32).toNatClampNeg) (ej_nm (y46 - y46 / (gA σ.2 2 (2 : Int32).toNatClampNeg) * (gA σ.2 2 (2 : Int32).toNatClampNeg)) fun x48 => (if (y42 >>> (x47 &&& 31)) &&& 1 = 1 then (if (y42 >>> (x48 &&& 31)) &&& 1 = 0 then ej_ck x48 12 (ej_ck x47 12 (ej_bi (mL_told n 0 (gA σ.2 1 x48.toNatClampNeg) (gA σ.2 1 x47.toNatClampNeg) σ) fun r78 s79 => (if r78 < 0 then (mL_areBacks_265 n (mL_areBacks_194 n f43 k) y42 y43 y44 y45 y46 x47 x48 0 s79) else (mL_areBacks_265 n (mL_areBacks_194 n f43 k) y42 y43 y44 y45 y46 x47 x48 1 s79)))) else (mL_areBacks_265 n (mL_areBacks_194 n f43 k) y42 y43 y44 y45 y46 x47 x48 0 σ)) else (mL_areBacks_265 n (mL_areBacks_194 n f43 k) y42 y43 y44 y45 y46 x47 x48 0 σ))))))))) : Option (Int32 × lw_S)) := rfl
set_option maxRecDepth 20000 in
set_option maxHeartbeats 2000000 in
theorem jL_areBacks_194 (x : lw_T) (n : Nat) {F : ej_F} {r0 : Int32 × lw_S} (hq : ej_fin (lV x) F (some .boolean) (some (.int r0.1)) r0.2) (f43 : Int32 → Int32 → Int32 → Int32 → lw_S → Option (Int32 × lw_S)) (H43 : ∀ (y5 : Int32) (y6 : Int32) (y7 : Int32) (y8 : Int32) (σ : lw_S), ej_J (lV x) F iL_areBacks r0 σ 43 [(0, .ref (cw_a x.1 0)), (1, .ref (cw_a x.1 210)), (2, .ref (cw_a x.1 211)), (3, .ref (cw_a x.1 212)), (5, .int y5), (6, .int y6), (7, .int y7), (8, .int y8)] [] (f43 y5 y6 y7 y8 σ)) : ∀ (k : Nat) (y42 : Int32) (y43 : Int32) (y44 : Int32) (y45 : Int32) (y46 : Int32) (σ : lw_S), ej_J (lV x) F iL_areBacks r0 σ 194 [(0, .ref (cw_a x.1 0)), (1, .ref (cw_a x.1 210)), (2, .ref (cw_a x.1 211)), (3, .ref (cw_a x.1 212)), (5, .int y42), (6, .int y43), (7, .int y44), (10, .int y45), (11, .int y46)] [] (mL_areBacks_194 n f43 k y42 y43 y44 y45 y46 σ) := by
  intro k
  induction k with
  | zero => intro y42 y43 y44 y45 y46 σ; exact j_none
  | succ k ih =>
    intro y42 y43 y44 y45 y46 σ
    rw [mL_areBacks_194_s]
    refine j_iload 8 rfl dL_areBacks_194 ?_
    refine j_aload_n 3 rfl dL_areBacks_196 ?_
    refine j_iconst dL_areBacks_197 ejc_2 ?_
    refine j_iald (lV_a_212 x σ) dL_areBacks_198 ?_
    refine j_aload_n 3 rfl dL_areBacks_199 ?_
    refine j_iconst dL_areBacks_200 ejc_2 ?_
    refine j_iald (lV_a_212 x σ) dL_areBacks_201 ?_
    refine j_imul dL_areBacks_202 ?_
    refine j_icmp_ge dL_areBacks_203 ?_ ?_
    · refine j_iload 7 rfl dL_areBacks_334 ?_
      refine j_iload 4 rfl dL_areBacks_336 ?_
      refine j_icmp_eq dL_areBacks_338 ?_ ?_
      · refine j_iconst dL_areBacks_345 ejc_0 ?_
        refine j_istore (i := 8) (L' := [(8, .int 0), (0, .ref (cw_a x.1 0)), (1, .ref (cw_a x.1 210)), (2, .ref (cw_a x.1 211)), (3, .ref (cw_a x.1 212)), (5, .int y42), (6, .int y43), (7, .int y44), (10, .int y45), (11, .int y46)]) dL_areBacks_346 (Nat.le_of_ble_eq_true rfl) rfl ?_
        refine j_iload 8 rfl dL_areBacks_348 ?_
        refine j_istore (i := 5) (L' := [(5, .int y45), (8, .int 0), (0, .ref (cw_a x.1 0)), (1, .ref (cw_a x.1 210)), (2, .ref (cw_a x.1 211)), (3, .ref (cw_a x.1 212)), (6, .int y43), (7, .int y44), (10, .int y45), (11, .int y46)]) dL_areBacks_350 (Nat.le_of_ble_eq_true rfl) rfl ?_
        refine j_goto dL_areBacks_352 ?_
        exact j_sub [2, 3, 4, 5, 0, 6, 7, 1] rfl (H43 y45 y43 y44 0 σ)
      · refine j_iconst dL_areBacks_341 ejc_1 ?_
        refine j_goto dL_areBacks_342 ?_
        refine j_istore (i := 8) (L' := [(8, .int 1), (0, .ref (cw_a x.1 0)), (1, .ref (cw_a x.1 210)), (2, .ref (cw_a x.1 211)), (3, .ref (cw_a x.1 212)), (5, .int y42), (6, .int y43), (7, .int y44), (10, .int y45), (11, .int y46)]) dL_areBacks_346 (Nat.le_of_ble_eq_true rfl) rfl ?_
        refine j_iload 8 rfl dL_areBacks_348 ?_
        refine j_istore (i := 5) (L' := [(5, .int y45), (8, .int 1), (0, .ref (cw_a x.1 0)), (1, .ref (cw_a x.1 210)), (2, .ref (cw_a x.1 211)), (3, .ref (cw_a x.1 212)), (6, .int y43), (7, .int y44), (10, .int y45), (11, .int y46)]) dL_areBacks_350 (Nat.le_of_ble_eq_true rfl) rfl ?_
        refine j_goto dL_areBacks_352 ?_
        exact j_sub [2, 3, 4, 5, 0, 6, 7, 1] rfl (H43 y45 y43 y44 1 σ)
    · refine j_iload 8 rfl dL_areBacks_206 ?_
      refine j_aload_n 3 rfl dL_areBacks_208 ?_
      refine j_iconst dL_areBacks_209 ejc_2 ?_
      refine j_iald (lV_a_212 x σ) dL_areBacks_210 ?_
      refine j_idiv dL_areBacks_211 ?_
      refine j_nmi (fun x47 => ?_)
      refine j_istore (i := 12) (L' := [(12, .int x47), (0, .ref (cw_a x.1 0)), (1, .ref (cw_a x.1 210)), (2, .ref (cw_a x.1 211)), (3, .ref (cw_a x.1 212)), (5, .int y42), (6, .int y43), (7, .int y44), (10, .int y45), (11, .int y46)]) dL_areBacks_212 (Nat.le_of_ble_eq_true rfl) rfl ?_
      refine j_iload 9 rfl dL_areBacks_214 ?_
      refine j_aload_n 4 rfl dL_areBacks_216 ?_
      refine j_iconst dL_areBacks_217 ejc_2 ?_
      refine j_iald (lV_a_212 x σ) dL_areBacks_218 ?_
      refine j_irem dL_areBacks_219 ?_
      refine j_nmi (fun x48 => ?_)
      refine j_istore (i := 13) (L' := [(13, .int x48), (12, .int x47), (0, .ref (cw_a x.1 0)), (1, .ref (cw_a x.1 210)), (2, .ref (cw_a x.1 211)), (3, .ref (cw_a x.1 212)), (5, .int y42), (6, .int y43), (7, .int y44), (10, .int y45), (11, .int y46)]) dL_areBacks_220 (Nat.le_of_ble_eq_true rfl) rfl ?_
      refine j_iload 6 rfl dL_areBacks_222 ?_
      refine j_iload 1 rfl dL_areBacks_224 ?_
      refine j_ishr dL_areBacks_226 ?_
      refine j_iconst dL_areBacks_227 ejc_1 ?_
      refine j_iand dL_areBacks_228 ?_
      refine j_iconst dL_areBacks_229 ejc_1 ?_
      refine j_icmp_ne dL_areBacks_230 ?_ ?_
      · refine j_iconst dL_areBacks_264 ejc_0 ?_
        exact j_sub [2, 3, 4, 5, 6, 7, 8, 9, 10, 1, 0] rfl (jL_areBacks_265 x n hq (mL_areBacks_194 n f43 k) ih y42 y43 y44 y45 y46 x47 x48 0 σ)
      · refine j_iload 6 rfl dL_areBacks_233 ?_
        refine j_iload 0 rfl dL_areBacks_235 ?_
        refine j_ishr dL_areBacks_237 ?_
        refine j_iconst dL_areBacks_238 ejc_1 ?_
        refine j_iand dL_areBacks_239 ?_
        refine j_if_ne dL_areBacks_240 ?_ ?_
        · refine j_iconst dL_areBacks_264 ejc_0 ?_
          exact j_sub [2, 3, 4, 5, 6, 7, 8, 9, 10, 1, 0] rfl (jL_areBacks_265 x n hq (mL_areBacks_194 n f43 k) ih y42 y43 y44 y45 y46 x47 x48 0 σ)
        · refine j_aload_n 3 rfl dL_areBacks_243 ?_
          refine j_aload_n 5 rfl dL_areBacks_244 ?_
          refine j_iconst dL_areBacks_245 ejc_0 ?_
          refine j_aload_n 4 rfl dL_areBacks_246 ?_
          refine j_iload 0 rfl dL_areBacks_247 ?_
          refine j_iald (lV_a_211 x σ) dL_areBacks_249 ?_
          refine j_aload_n 4 rfl dL_areBacks_250 ?_
          refine j_iload 1 rfl dL_areBacks_251 ?_
          refine j_iald (lV_a_211 x σ) dL_areBacks_253 ?_
          refine j_callSi (kL_told x n 0 (gA σ.2 1 x48.toNatClampNeg) (gA σ.2 1 x47.toNatClampNeg) σ) ls_L_104 ⟨Nat.le_of_ble_eq_true rfl, Nat.le_of_ble_eq_true rfl⟩ dL_areBacks_254 rfl (Nat.le_of_ble_eq_true rfl) (fun r78 s79 => ?_)
          refine j_if_lt dL_areBacks_257 ?_ ?_
          · refine j_iconst dL_areBacks_264 ejc_0 ?_
            exact j_sub [2, 3, 4, 5, 6, 7, 8, 9, 10, 1, 0] rfl (jL_areBacks_265 x n hq (mL_areBacks_194 n f43 k) ih y42 y43 y44 y45 y46 x47 x48 0 s79)
          · refine j_iconst dL_areBacks_260 ejc_1 ?_
            refine j_goto dL_areBacks_261 ?_
            exact j_sub [2, 3, 4, 5, 6, 7, 8, 9, 10, 1, 0] rfl (jL_areBacks_265 x n hq (mL_areBacks_194 n f43 k) ih y42 y43 y44 y45 y46 x47 x48 1 s79)
noncomputable def mL_areBacks_158 (n : Nat) (f70 : Int32 → Int32 → Int32 → Int32 → Int32 → lw_S → Option (Int32 × lw_S)) (y87 : Int32) (y88 : Int32) (y89 : Int32) (y90 : Int32) (y91 : Int32) (y92 : Int32) (y93 : Int32) (σ : lw_S) : Option (Int32 × lw_S) := (if y93 = 0 then ej_nm (y87 ||| 0) fun x94 => ej_nm (y91 + 1) fun x95 => (f70 x94 y88 y89 y90 x95 σ) else ej_nm (y87 ||| (1 <<< (y92 &&& 31))) fun x96 => ej_nm (y91 + 1) fun x97 => (f70 x96 y88 y89 y90 x97 σ))
set_option maxRecDepth 20000 in
set_option maxHeartbeats 2000000 in
theorem jL_areBacks_158 (x : lw_T) (n : Nat) {F : ej_F} {r0 : Int32 × lw_S} (hq : ej_fin (lV x) F (some .boolean) (some (.int r0.1)) r0.2) (f70 : Int32 → Int32 → Int32 → Int32 → Int32 → lw_S → Option (Int32 × lw_S)) (H70 : ∀ (y80 : Int32) (y81 : Int32) (y82 : Int32) (y83 : Int32) (y84 : Int32) (σ : lw_S), ej_J (lV x) F iL_areBacks r0 σ 70 [(0, .ref (cw_a x.1 0)), (1, .ref (cw_a x.1 210)), (2, .ref (cw_a x.1 211)), (3, .ref (cw_a x.1 212)), (5, .int y80), (6, .int y81), (7, .int y82), (9, .int y83), (10, .int y84)] [] (f70 y80 y81 y82 y83 y84 σ)) (y87 : Int32) (y88 : Int32) (y89 : Int32) (y90 : Int32) (y91 : Int32) (y92 : Int32) (y93 : Int32) (σ : lw_S) : ej_J (lV x) F iL_areBacks r0 σ 158 [(0, .ref (cw_a x.1 0)), (1, .ref (cw_a x.1 210)), (2, .ref (cw_a x.1 211)), (3, .ref (cw_a x.1 212)), (5, .int y87), (6, .int y88), (7, .int y89), (9, .int y90), (10, .int y91), (12, .int y92)] [.int y93] (mL_areBacks_158 n f70 y87 y88 y89 y90 y91 y92 y93 σ) := by
  unfold mL_areBacks_158
  refine j_istore (i := 13) (L' := [(13, .int y93), (0, .ref (cw_a x.1 0)), (1, .ref (cw_a x.1 210)), (2, .ref (cw_a x.1 211)), (3, .ref (cw_a x.1 212)), (5, .int y87), (6, .int y88), (7, .int y89), (9, .int y90), (10, .int y91), (12, .int y92)]) dL_areBacks_158 (Nat.le_of_ble_eq_true rfl) rfl ?_
  refine j_iload 5 rfl dL_areBacks_160 ?_
  refine j_iload 0 rfl dL_areBacks_162 ?_
  refine j_if_eq dL_areBacks_164 ?_ ?_
  · refine j_iconst dL_areBacks_174 ejc_0 ?_
    refine j_ior dL_areBacks_175 ?_
    refine j_nmi (fun x94 => ?_)
    refine j_istore (i := 5) (L' := [(5, .int x94), (13, .int y93), (0, .ref (cw_a x.1 0)), (1, .ref (cw_a x.1 210)), (2, .ref (cw_a x.1 211)), (3, .ref (cw_a x.1 212)), (6, .int y88), (7, .int y89), (9, .int y90), (10, .int y91), (12, .int y92)]) dL_areBacks_176 (Nat.le_of_ble_eq_true rfl) rfl ?_
    refine j_iinc (i := 10) (v := 1) (Ly := fun x95 => [(10, .int x95), (5, .int x94), (13, .int y93), (0, .ref (cw_a x.1 0)), (1, .ref (cw_a x.1 210)), (2, .ref (cw_a x.1 211)), (3, .ref (cw_a x.1 212)), (6, .int y88), (7, .int y89), (9, .int y90), (12, .int y92)]) 9 dL_areBacks_178 rfl ejc_1 (Nat.le_of_ble_eq_true rfl) (fun _ => rfl) (fun x95 => ?_)
    refine j_goto dL_areBacks_181 ?_
    exact j_sub [3, 4, 5, 6, 1, 7, 8, 9, 0] rfl (H70 x94 y88 y89 y90 x95 σ)
  · refine j_iconst dL_areBacks_167 ejc_1 ?_
    refine j_iload 10 rfl dL_areBacks_168 ?_
    refine j_ishl dL_areBacks_170 ?_
    refine j_goto dL_areBacks_171 ?_
    refine j_ior dL_areBacks_175 ?_
    refine j_nmi (fun x96 => ?_)
    refine j_istore (i := 5) (L' := [(5, .int x96), (13, .int y93), (0, .ref (cw_a x.1 0)), (1, .ref (cw_a x.1 210)), (2, .ref (cw_a x.1 211)), (3, .ref (cw_a x.1 212)), (6, .int y88), (7, .int y89), (9, .int y90), (10, .int y91), (12, .int y92)]) dL_areBacks_176 (Nat.le_of_ble_eq_true rfl) rfl ?_
    refine j_iinc (i := 10) (v := 1) (Ly := fun x97 => [(10, .int x97), (5, .int x96), (13, .int y93), (0, .ref (cw_a x.1 0)), (1, .ref (cw_a x.1 210)), (2, .ref (cw_a x.1 211)), (3, .ref (cw_a x.1 212)), (6, .int y88), (7, .int y89), (9, .int y90), (12, .int y92)]) 9 dL_areBacks_178 rfl ejc_1 (Nat.le_of_ble_eq_true rfl) (fun _ => rfl) (fun x97 => ?_)
    refine j_goto dL_areBacks_181 ?_
    exact j_sub [3, 4, 5, 6, 1, 7, 8, 9, 0] rfl (H70 x96 y88 y89 y90 x97 σ)
noncomputable def mL_areBacks_70 (n : Nat) (f56 : Int32 → Int32 → Int32 → Int32 → lw_S → Option (Int32 × lw_S)) (k : Nat) : Int32 → Int32 → Int32 → Int32 → Int32 → lw_S → Option (Int32 × lw_S) := Nat.rec (motive := fun _ => Int32 → Int32 → Int32 → Int32 → Int32 → lw_S → Option (Int32 × lw_S)) (fun _ _ _ _ _ _ => none) (fun _ ih y80 y81 y82 y83 y84 σ => ej_ck 2 4 (ej_ck 2 4 ((if (5 * (gA σ.2 2 (2 : Int32).toNatClampNeg)) * (gA σ.2 2 (2 : Int32).toNatClampNeg) ≤ y84 then (f56 y80 y81 y82 y83 σ) else ej_ck 2 4 (ej_dv (gA σ.2 2 (2 : Int32).toNatClampNeg) (ej_nm ((y84 / 5) / (gA σ.2 2 (2 : Int32).toNatClampNeg)) fun x85 => ej_ck 2 4 (ej_dv (gA σ.2 2 (2 : Int32).toNatClampNeg) (ej_nm ((y84 / 5) - (y84 / 5) / (gA σ.2 2 (2 : Int32).toNatClampNeg) * (gA σ.2 2 (2 : Int32).toNatClampNeg)) fun x86 => (if (y80 >>> (x85 &&& 31)) &&& 1 = 1 then (if (y80 >>> (x86 &&& 31)) &&& 1 = 0 then (if 4 ≤ y84 - y84 / 5 * 5 then (mL_areBacks_158 n ih y80 y81 y82 y83 y84 x86 0 σ) else ej_bi (mL_step n x85 x86 (1 + (y84 - y84 / 5 * 5)) σ) fun r98 s99 => (if r98 < 0 then (mL_areBacks_158 n ih y80 y81 y82 y83 y84 x86 0 s99) else (mL_areBacks_158 n ih y80 y81 y82 y83 y84 x86 1 s99))) else (mL_areBacks_158 n ih y80 y81 y82 y83 y84 x86 0 σ)) else (mL_areBacks_158 n ih y80 y81 y82 y83 y84 x86 0 σ)))))))))) k
theorem mL_areBacks_70_s (n : Nat) (f56 : Int32 → Int32 → Int32 → Int32 → lw_S → Option (Int32 × lw_S)) (k : Nat) (y80 : Int32) (y81 : Int32) (y82 : Int32) (y83 : Int32) (y84 : Int32) (σ : lw_S) : mL_areBacks_70 n f56 (k + 1) y80 y81 y82 y83 y84 σ = (ej_ck 2 4 (ej_ck 2 4 ((if (5 * (gA σ.2 2 (2 : Int32).toNatClampNeg)) * (gA σ.2 2 (2 : Int32).toNatClampNeg) ≤ y84 then (f56 y80 y81 y82 y83 σ) else ej_ck 2 4 (ej_dv (gA σ.2 2 (2 : Int32).toNatClampNeg) (ej_nm ((y84 / 5) / (gA σ.2 2 (2 : Int32).toNatClampNeg)) fun x85 => ej_ck 2 4 (ej_dv (gA σ.2 2 (2 : Int32).toNatClampNeg) (ej_nm ((y84 / 5) - (y84 / 5) / (gA σ.2 2 (2 : Int32).toNatClampNeg) * (gA σ.2 2 (2 : Int32).toNatClampNeg)) fun x86 => (if (y80 >>> (x85 &&& 31)) &&& 1 = 1 then (if (y80 >>> (x86 &&& 31)) &&& 1 = 0 then (if 4 ≤ y84 - y84 / 5 * 5 then (mL_areBacks_158 n (mL_areBacks_70 n f56 k) y80 y81 y82 y83 y84 x86 0 σ) else ej_bi (mL_step n x85 x86 (1 + (y84 - y84 / 5 * 5)) σ) fun r98 s99 => (if r98 < 0 then (mL_areBacks_158 n (mL_areBacks_70 n f56 k) y80 y81 y82 y83 y84 x86 0 s99) else (mL_areBacks_158 n (mL_areBacks_70 n f56 k) y80 y81 y82 y83 y84 x86 1 s99))) else (mL_areBacks_158 n (mL_areBacks_70 n f56 k) y80 y81 y82 y83 y84 x86 0 σ)) else (mL_areBacks_158 n (mL_areBacks_70 n f56 k) y80 y81 y82 y83 y84 x86 0 σ))))))))) : Option (Int32 × lw_S)) := rfl
set_option maxRecDepth 20000 in
set_option maxHeartbeats 2000000 in
theorem jL_areBacks_70 (x : lw_T) (n : Nat) {F : ej_F} {r0 : Int32 × lw_S} (hq : ej_fin (lV x) F (some .boolean) (some (.int r0.1)) r0.2) (f56 : Int32 → Int32 → Int32 → Int32 → lw_S → Option (Int32 × lw_S)) (H56 : ∀ (y38 : Int32) (y39 : Int32) (y40 : Int32) (y41 : Int32) (σ : lw_S), ej_J (lV x) F iL_areBacks r0 σ 56 [(0, .ref (cw_a x.1 0)), (1, .ref (cw_a x.1 210)), (2, .ref (cw_a x.1 211)), (3, .ref (cw_a x.1 212)), (5, .int y38), (6, .int y39), (7, .int y40), (9, .int y41)] [] (f56 y38 y39 y40 y41 σ)) : ∀ (k : Nat) (y80 : Int32) (y81 : Int32) (y82 : Int32) (y83 : Int32) (y84 : Int32) (σ : lw_S), ej_J (lV x) F iL_areBacks r0 σ 70 [(0, .ref (cw_a x.1 0)), (1, .ref (cw_a x.1 210)), (2, .ref (cw_a x.1 211)), (3, .ref (cw_a x.1 212)), (5, .int y80), (6, .int y81), (7, .int y82), (9, .int y83), (10, .int y84)] [] (mL_areBacks_70 n f56 k y80 y81 y82 y83 y84 σ) := by
  intro k
  induction k with
  | zero => intro y80 y81 y82 y83 y84 σ; exact j_none
  | succ k ih =>
    intro y80 y81 y82 y83 y84 σ
    rw [mL_areBacks_70_s]
    refine j_iload 8 rfl dL_areBacks_70 ?_
    refine j_iconst dL_areBacks_72 ejc_5 ?_
    refine j_aload_n 3 rfl dL_areBacks_73 ?_
    refine j_iconst dL_areBacks_74 ejc_2 ?_
    refine j_iald (lV_a_212 x σ) dL_areBacks_75 ?_
    refine j_imul dL_areBacks_76 ?_
    refine j_aload_n 3 rfl dL_areBacks_77 ?_
    refine j_iconst dL_areBacks_78 ejc_2 ?_
    refine j_iald (lV_a_212 x σ) dL_areBacks_79 ?_
    refine j_imul dL_areBacks_80 ?_
    refine j_icmp_ge dL_areBacks_81 ?_ ?_
    · refine j_goto dL_areBacks_184 ?_
      exact j_sub [0, 1, 2, 3, 4, 5, 6, 7] rfl (H56 y80 y81 y82 y83 σ)
    · refine j_iload 8 rfl dL_areBacks_84 ?_
      refine j_iconst dL_areBacks_86 ejc_5 ?_
      refine j_idiv0 (by decide) dL_areBacks_87 ?_
      refine j_aload_n 3 rfl dL_areBacks_88 ?_
      refine j_iconst dL_areBacks_89 ejc_2 ?_
      refine j_iald (lV_a_212 x σ) dL_areBacks_90 ?_
      refine j_idiv dL_areBacks_91 ?_
      refine j_nmi (fun x85 => ?_)
      refine j_istore (i := 11) (L' := [(11, .int x85), (0, .ref (cw_a x.1 0)), (1, .ref (cw_a x.1 210)), (2, .ref (cw_a x.1 211)), (3, .ref (cw_a x.1 212)), (5, .int y80), (6, .int y81), (7, .int y82), (9, .int y83), (10, .int y84)]) dL_areBacks_92 (Nat.le_of_ble_eq_true rfl) rfl ?_
      refine j_iload 9 rfl dL_areBacks_94 ?_
      refine j_iconst dL_areBacks_96 ejc_5 ?_
      refine j_idiv0 (by decide) dL_areBacks_97 ?_
      refine j_aload_n 4 rfl dL_areBacks_98 ?_
      refine j_iconst dL_areBacks_99 ejc_2 ?_
      refine j_iald (lV_a_212 x σ) dL_areBacks_100 ?_
      refine j_irem dL_areBacks_101 ?_
      refine j_nmi (fun x86 => ?_)
      refine j_istore (i := 12) (L' := [(12, .int x86), (11, .int x85), (0, .ref (cw_a x.1 0)), (1, .ref (cw_a x.1 210)), (2, .ref (cw_a x.1 211)), (3, .ref (cw_a x.1 212)), (5, .int y80), (6, .int y81), (7, .int y82), (9, .int y83), (10, .int y84)]) dL_areBacks_102 (Nat.le_of_ble_eq_true rfl) rfl ?_
      refine j_iload 6 rfl dL_areBacks_104 ?_
      refine j_iload 1 rfl dL_areBacks_106 ?_
      refine j_ishr dL_areBacks_108 ?_
      refine j_iconst dL_areBacks_109 ejc_1 ?_
      refine j_iand dL_areBacks_110 ?_
      refine j_iconst dL_areBacks_111 ejc_1 ?_
      refine j_icmp_ne dL_areBacks_112 ?_ ?_
      · refine j_iconst dL_areBacks_157 ejc_0 ?_
        exact j_sub [2, 3, 4, 5, 6, 7, 8, 9, 10, 0] rfl (jL_areBacks_158 x n hq (mL_areBacks_70 n f56 k) ih y80 y81 y82 y83 y84 x86 0 σ)
      · refine j_iload 6 rfl dL_areBacks_115 ?_
        refine j_iload 0 rfl dL_areBacks_117 ?_
        refine j_ishr dL_areBacks_119 ?_
        refine j_iconst dL_areBacks_120 ejc_1 ?_
        refine j_iand dL_areBacks_121 ?_
        refine j_if_ne dL_areBacks_122 ?_ ?_
        · refine j_iconst dL_areBacks_157 ejc_0 ?_
          exact j_sub [2, 3, 4, 5, 6, 7, 8, 9, 10, 0] rfl (jL_areBacks_158 x n hq (mL_areBacks_70 n f56 k) ih y80 y81 y82 y83 y84 x86 0 σ)
        · refine j_iload 10 rfl dL_areBacks_125 ?_
          refine j_iconst dL_areBacks_127 ejc_5 ?_
          refine j_irem0 (by decide) dL_areBacks_128 ?_
          refine j_iconst dL_areBacks_129 ejc_4 ?_
          refine j_icmp_ge dL_areBacks_130 ?_ ?_
          · refine j_iconst dL_areBacks_157 ejc_0 ?_
            exact j_sub [2, 3, 4, 5, 6, 7, 8, 9, 10, 0] rfl (jL_areBacks_158 x n hq (mL_areBacks_70 n f56 k) ih y80 y81 y82 y83 y84 x86 0 σ)
          · refine j_aload_n 2 rfl dL_areBacks_133 ?_
            refine j_aload_n 3 rfl dL_areBacks_134 ?_
            refine j_aload_n 4 rfl dL_areBacks_135 ?_
            refine j_aload_n 5 rfl dL_areBacks_136 ?_
            refine j_iload 1 rfl dL_areBacks_137 ?_
            refine j_iload 0 rfl dL_areBacks_139 ?_
            refine j_iconst dL_areBacks_141 ejc_1 ?_
            refine j_iload 10 rfl dL_areBacks_142 ?_
            refine j_iconst dL_areBacks_144 ejc_5 ?_
            refine j_irem0 (by decide) dL_areBacks_145 ?_
            refine j_iadd dL_areBacks_146 ?_
            refine j_callSi (kL_step x n x85 x86 (1 + (y84 - y84 / 5 * 5)) σ) ls_L_136 ⟨Nat.le_of_ble_eq_true rfl, Nat.le_of_ble_eq_true rfl⟩ dL_areBacks_147 rfl (Nat.le_of_ble_eq_true rfl) (fun r98 s99 => ?_)
            refine j_if_lt dL_areBacks_150 ?_ ?_
            · refine j_iconst dL_areBacks_157 ejc_0 ?_
              exact j_sub [2, 3, 4, 5, 6, 7, 8, 9, 10, 0] rfl (jL_areBacks_158 x n hq (mL_areBacks_70 n f56 k) ih y80 y81 y82 y83 y84 x86 0 s99)
            · refine j_iconst dL_areBacks_153 ejc_1 ?_
              refine j_goto dL_areBacks_154 ?_
              exact j_sub [2, 3, 4, 5, 6, 7, 8, 9, 10, 0] rfl (jL_areBacks_158 x n hq (mL_areBacks_70 n f56 k) ih y80 y81 y82 y83 y84 x86 1 s99)
noncomputable def mL_areBacks_56 (n : Nat) (f43 : Int32 → Int32 → Int32 → Int32 → lw_S → Option (Int32 × lw_S)) (k : Nat) : Int32 → Int32 → Int32 → Int32 → lw_S → Option (Int32 × lw_S) := Nat.rec (motive := fun _ => Int32 → Int32 → Int32 → Int32 → lw_S → Option (Int32 × lw_S)) (fun _ _ _ _ _ => none) (fun _ ih y38 y39 y40 y41 σ => (if y41 = y38 then (mL_areBacks_194 n f43 n y38 y39 y40 y38 0 σ) else (mL_areBacks_70 n ih n y38 y39 y40 y38 0 σ))) k
theorem mL_areBacks_56_s (n : Nat) (f43 : Int32 → Int32 → Int32 → Int32 → lw_S → Option (Int32 × lw_S)) (k : Nat) (y38 : Int32) (y39 : Int32) (y40 : Int32) (y41 : Int32) (σ : lw_S) : mL_areBacks_56 n f43 (k + 1) y38 y39 y40 y41 σ = ((if y41 = y38 then (mL_areBacks_194 n f43 n y38 y39 y40 y38 0 σ) else (mL_areBacks_70 n (mL_areBacks_56 n f43 k) n y38 y39 y40 y38 0 σ)) : Option (Int32 × lw_S)) := rfl
set_option maxRecDepth 20000 in
set_option maxHeartbeats 2000000 in
theorem jL_areBacks_56 (x : lw_T) (n : Nat) {F : ej_F} {r0 : Int32 × lw_S} (hq : ej_fin (lV x) F (some .boolean) (some (.int r0.1)) r0.2) (f43 : Int32 → Int32 → Int32 → Int32 → lw_S → Option (Int32 × lw_S)) (H43 : ∀ (y5 : Int32) (y6 : Int32) (y7 : Int32) (y8 : Int32) (σ : lw_S), ej_J (lV x) F iL_areBacks r0 σ 43 [(0, .ref (cw_a x.1 0)), (1, .ref (cw_a x.1 210)), (2, .ref (cw_a x.1 211)), (3, .ref (cw_a x.1 212)), (5, .int y5), (6, .int y6), (7, .int y7), (8, .int y8)] [] (f43 y5 y6 y7 y8 σ)) : ∀ (k : Nat) (y38 : Int32) (y39 : Int32) (y40 : Int32) (y41 : Int32) (σ : lw_S), ej_J (lV x) F iL_areBacks r0 σ 56 [(0, .ref (cw_a x.1 0)), (1, .ref (cw_a x.1 210)), (2, .ref (cw_a x.1 211)), (3, .ref (cw_a x.1 212)), (5, .int y38), (6, .int y39), (7, .int y40), (9, .int y41)] [] (mL_areBacks_56 n f43 k y38 y39 y40 y41 σ) := by
  intro k
  induction k with
  | zero => intro y38 y39 y40 y41 σ; exact j_none
  | succ k ih =>
    intro y38 y39 y40 y41 σ
    rw [mL_areBacks_56_s]
    refine j_iload 7 rfl dL_areBacks_56 ?_
    refine j_iload 4 rfl dL_areBacks_58 ?_
    refine j_icmp_eq dL_areBacks_60 ?_ ?_
    · refine j_iload 4 rfl dL_areBacks_187 ?_
      refine j_istore (i := 10) (L' := [(10, .int y38), (0, .ref (cw_a x.1 0)), (1, .ref (cw_a x.1 210)), (2, .ref (cw_a x.1 211)), (3, .ref (cw_a x.1 212)), (5, .int y38), (6, .int y39), (7, .int y40), (9, .int y41)]) dL_areBacks_189 (Nat.le_of_ble_eq_true rfl) rfl ?_
      refine j_iconst dL_areBacks_191 ejc_0 ?_
      refine j_istore (i := 11) (L' := [(11, .int 0), (10, .int y38), (0, .ref (cw_a x.1 0)), (1, .ref (cw_a x.1 210)), (2, .ref (cw_a x.1 211)), (3, .ref (cw_a x.1 212)), (5, .int y38), (6, .int y39), (7, .int y40), (9, .int y41)]) dL_areBacks_192 (Nat.le_of_ble_eq_true rfl) rfl ?_
      exact j_sub [2, 3, 4, 5, 6, 7, 8, 1, 0] rfl (jL_areBacks_194 x n hq f43 H43 n y38 y39 y40 y38 0 σ)
    · refine j_iload 4 rfl dL_areBacks_63 ?_
      refine j_istore (i := 9) (L' := [(9, .int y38), (0, .ref (cw_a x.1 0)), (1, .ref (cw_a x.1 210)), (2, .ref (cw_a x.1 211)), (3, .ref (cw_a x.1 212)), (5, .int y38), (6, .int y39), (7, .int y40)]) dL_areBacks_65 (Nat.le_of_ble_eq_true rfl) rfl ?_
      refine j_iconst dL_areBacks_67 ejc_0 ?_
      refine j_istore (i := 10) (L' := [(10, .int 0), (9, .int y38), (0, .ref (cw_a x.1 0)), (1, .ref (cw_a x.1 210)), (2, .ref (cw_a x.1 211)), (3, .ref (cw_a x.1 212)), (5, .int y38), (6, .int y39), (7, .int y40)]) dL_areBacks_68 (Nat.le_of_ble_eq_true rfl) rfl ?_
      exact j_sub [2, 3, 4, 5, 6, 7, 8, 1, 0] rfl (jL_areBacks_70 x n hq (mL_areBacks_56 n f43 k) ih n y38 y39 y40 y38 0 σ)
noncomputable def mL_areBacks_43 (n : Nat) (k : Nat) : Int32 → Int32 → Int32 → Int32 → lw_S → Option (Int32 × lw_S) := Nat.rec (motive := fun _ => Int32 → Int32 → Int32 → Int32 → lw_S → Option (Int32 × lw_S)) (fun _ _ _ _ _ => none) (fun _ ih y5 y6 y7 y8 σ => (if y8 = 0 then (mL_areBacks_358 n n y5 y6 y7 0 σ) else (if y7 = 0 then (mL_areBacks_358 n n y5 y6 y7 0 σ) else (mL_areBacks_56 n ih n y5 y6 y7 0 σ)))) k
theorem mL_areBacks_43_s (n : Nat) (k : Nat) (y5 : Int32) (y6 : Int32) (y7 : Int32) (y8 : Int32) (σ : lw_S) : mL_areBacks_43 n (k + 1) y5 y6 y7 y8 σ = ((if y8 = 0 then (mL_areBacks_358 n n y5 y6 y7 0 σ) else (if y7 = 0 then (mL_areBacks_358 n n y5 y6 y7 0 σ) else (mL_areBacks_56 n (mL_areBacks_43 n k) n y5 y6 y7 0 σ))) : Option (Int32 × lw_S)) := rfl
set_option maxRecDepth 20000 in
set_option maxHeartbeats 2000000 in
theorem jL_areBacks_43 (x : lw_T) (n : Nat) {F : ej_F} {r0 : Int32 × lw_S} (hq : ej_fin (lV x) F (some .boolean) (some (.int r0.1)) r0.2) : ∀ (k : Nat) (y5 : Int32) (y6 : Int32) (y7 : Int32) (y8 : Int32) (σ : lw_S), ej_J (lV x) F iL_areBacks r0 σ 43 [(0, .ref (cw_a x.1 0)), (1, .ref (cw_a x.1 210)), (2, .ref (cw_a x.1 211)), (3, .ref (cw_a x.1 212)), (5, .int y5), (6, .int y6), (7, .int y7), (8, .int y8)] [] (mL_areBacks_43 n k y5 y6 y7 y8 σ) := by
  intro k
  induction k with
  | zero => intro y5 y6 y7 y8 σ; exact j_none
  | succ k ih =>
    intro y5 y6 y7 y8 σ
    rw [mL_areBacks_43_s]
    refine j_iload 7 rfl dL_areBacks_43 ?_
    refine j_if_eq dL_areBacks_45 ?_ ?_
    · refine j_iconst dL_areBacks_355 ejc_0 ?_
      refine j_istore (i := 9) (L' := [(9, .int 0), (0, .ref (cw_a x.1 0)), (1, .ref (cw_a x.1 210)), (2, .ref (cw_a x.1 211)), (3, .ref (cw_a x.1 212)), (5, .int y5), (6, .int y6), (7, .int y7), (8, .int y8)]) dL_areBacks_356 (Nat.le_of_ble_eq_true rfl) rfl ?_
      exact j_sub [1, 4, 5, 6, 7, 0] rfl (jL_areBacks_358 x n hq n y5 y6 y7 0 σ)
    · refine j_iload 6 rfl dL_areBacks_48 ?_
      refine j_if_eq dL_areBacks_50 ?_ ?_
      · refine j_iconst dL_areBacks_355 ejc_0 ?_
        refine j_istore (i := 9) (L' := [(9, .int 0), (0, .ref (cw_a x.1 0)), (1, .ref (cw_a x.1 210)), (2, .ref (cw_a x.1 211)), (3, .ref (cw_a x.1 212)), (5, .int y5), (6, .int y6), (7, .int y7), (8, .int y8)]) dL_areBacks_356 (Nat.le_of_ble_eq_true rfl) rfl ?_
        exact j_sub [1, 4, 5, 6, 7, 0] rfl (jL_areBacks_358 x n hq n y5 y6 y7 0 σ)
      · refine j_iconst dL_areBacks_53 ejc_0 ?_
        refine j_istore (i := 9) (L' := [(9, .int 0), (0, .ref (cw_a x.1 0)), (1, .ref (cw_a x.1 210)), (2, .ref (cw_a x.1 211)), (3, .ref (cw_a x.1 212)), (5, .int y5), (6, .int y6), (7, .int y7), (8, .int y8)]) dL_areBacks_54 (Nat.le_of_ble_eq_true rfl) rfl ?_
        exact j_sub [1, 2, 3, 4, 5, 6, 7, 0] rfl (jL_areBacks_56 x n hq (mL_areBacks_43 n k) ih n y5 y6 y7 0 σ)
noncomputable def mL_areBacks_23 (n : Nat) (y3 : Int32) (y4 : Int32) (σ : lw_S) : Option (Int32 × lw_S) := (if y3 < 0 then (mL_areBacks_43 n n y4 0 1 0 σ) else (mL_areBacks_43 n n y4 0 1 1 σ))
set_option maxRecDepth 20000 in
set_option maxHeartbeats 2000000 in
theorem jL_areBacks_23 (x : lw_T) (n : Nat) {F : ej_F} {r0 : Int32 × lw_S} (hq : ej_fin (lV x) F (some .boolean) (some (.int r0.1)) r0.2) (y3 : Int32) (y4 : Int32) (σ : lw_S) : ej_J (lV x) F iL_areBacks r0 σ 23 [(0, .ref (cw_a x.1 0)), (1, .ref (cw_a x.1 210)), (2, .ref (cw_a x.1 211)), (3, .ref (cw_a x.1 212)), (4, .int y3)] [.int y4] (mL_areBacks_23 n y3 y4 σ) := by
  unfold mL_areBacks_23
  refine j_istore (i := 5) (L' := [(5, .int y4), (0, .ref (cw_a x.1 0)), (1, .ref (cw_a x.1 210)), (2, .ref (cw_a x.1 211)), (3, .ref (cw_a x.1 212)), (4, .int y3)]) dL_areBacks_23 (Nat.le_of_ble_eq_true rfl) rfl ?_
  refine j_iconst dL_areBacks_25 ejc_0 ?_
  refine j_istore (i := 6) (L' := [(6, .int 0), (5, .int y4), (0, .ref (cw_a x.1 0)), (1, .ref (cw_a x.1 210)), (2, .ref (cw_a x.1 211)), (3, .ref (cw_a x.1 212)), (4, .int y3)]) dL_areBacks_26 (Nat.le_of_ble_eq_true rfl) rfl ?_
  refine j_iconst dL_areBacks_28 ejc_1 ?_
  refine j_istore (i := 7) (L' := [(7, .int 1), (6, .int 0), (5, .int y4), (0, .ref (cw_a x.1 0)), (1, .ref (cw_a x.1 210)), (2, .ref (cw_a x.1 211)), (3, .ref (cw_a x.1 212)), (4, .int y3)]) dL_areBacks_29 (Nat.le_of_ble_eq_true rfl) rfl ?_
  refine j_iload 7 rfl dL_areBacks_31 ?_
  refine j_if_lt dL_areBacks_33 ?_ ?_
  · refine j_iconst dL_areBacks_40 ejc_0 ?_
    refine j_istore (i := 8) (L' := [(8, .int 0), (7, .int 1), (6, .int 0), (5, .int y4), (0, .ref (cw_a x.1 0)), (1, .ref (cw_a x.1 210)), (2, .ref (cw_a x.1 211)), (3, .ref (cw_a x.1 212)), (4, .int y3)]) dL_areBacks_41 (Nat.le_of_ble_eq_true rfl) rfl ?_
    exact j_sub [4, 5, 6, 7, 3, 2, 1, 0] rfl (jL_areBacks_43 x n hq n y4 0 1 0 σ)
  · refine j_iconst dL_areBacks_36 ejc_1 ?_
    refine j_goto dL_areBacks_37 ?_
    refine j_istore (i := 8) (L' := [(8, .int 1), (7, .int 1), (6, .int 0), (5, .int y4), (0, .ref (cw_a x.1 0)), (1, .ref (cw_a x.1 210)), (2, .ref (cw_a x.1 211)), (3, .ref (cw_a x.1 212)), (4, .int y3)]) dL_areBacks_41 (Nat.le_of_ble_eq_true rfl) rfl ?_
    exact j_sub [4, 5, 6, 7, 3, 2, 1, 0] rfl (jL_areBacks_43 x n hq n y4 0 1 1 σ)
noncomputable def mL_areBacks (n : Nat)  (σ : lw_S) : Option (Int32 × lw_S) := ej_ck 3 4 (ej_bi (mL_node n (gA σ.2 2 (3 : Int32).toNatClampNeg) σ) fun r1 s2 => (if 0 ≤ r1 then (mL_areBacks_23 n r1 (1 <<< (r1 &&& 31)) s2) else (mL_areBacks_23 n r1 0 s2)))
set_option maxRecDepth 20000 in
set_option maxHeartbeats 2000000 in
theorem jL_areBacks (x : lw_T) (n : Nat)  (σ : lw_S) {F : ej_F} {r0 : Int32 × lw_S} (hq : ej_fin (lV x) F (some .boolean) (some (.int r0.1)) r0.2) : ej_J (lV x) F iL_areBacks r0 σ 0 [(0, .ref (cw_a x.1 0)), (1, .ref (cw_a x.1 210)), (2, .ref (cw_a x.1 211)), (3, .ref (cw_a x.1 212))] [] (mL_areBacks n  σ) := by
  unfold mL_areBacks
  refine j_aload_n 2 rfl dL_areBacks_0 ?_
  refine j_aload_n 3 rfl dL_areBacks_1 ?_
  refine j_aload_n 3 rfl dL_areBacks_2 ?_
  refine j_iconst dL_areBacks_3 ejc_3 ?_
  refine j_iald (lV_a_212 x σ) dL_areBacks_4 ?_
  refine j_callSi (kL_node x n (gA σ.2 2 (3 : Int32).toNatClampNeg) σ) ls_L_100 ⟨Nat.le_of_ble_eq_true rfl, Nat.le_of_ble_eq_true rfl⟩ dL_areBacks_5 rfl (Nat.le_of_ble_eq_true rfl) (fun r1 s2 => ?_)
  refine j_istore (i := 4) (L' := [(4, .int r1), (0, .ref (cw_a x.1 0)), (1, .ref (cw_a x.1 210)), (2, .ref (cw_a x.1 211)), (3, .ref (cw_a x.1 212))]) dL_areBacks_8 (Nat.le_of_ble_eq_true rfl) rfl ?_
  refine j_iload 0 rfl dL_areBacks_10 ?_
  refine j_if_ge dL_areBacks_12 ?_ ?_
  · refine j_iconst dL_areBacks_19 ejc_1 ?_
    refine j_iload 0 rfl dL_areBacks_20 ?_
    refine j_ishl dL_areBacks_22 ?_
    exact j_sub [1, 2, 3, 4, 0] rfl (jL_areBacks_23 x n hq r1 (1 <<< (r1 &&& 31)) s2)
  · refine j_iconst dL_areBacks_15 ejc_0 ?_
    refine j_goto dL_areBacks_16 ?_
    exact j_sub [1, 2, 3, 4, 0] rfl (jL_areBacks_23 x n hq r1 0 s2)
theorem kL_areBacks (x : lw_T) (n : Nat)  (σ : lw_S) : ∀ r σ1, mL_areBacks n  σ = some (r, σ1) → ∀ l, ej_Con l (lV x) iL_areBacks yL_areBacks (some .boolean) [.ref (cw_a x.1 0), .ref (cw_a x.1 210), .ref (cw_a x.1 211), .ref (cw_a x.1 212)] σ (some (.int r)) σ1 := fun r σ1 h l => ej_con_of (lV_ok x) pn_L rfl (Nat.le_of_ble_eq_true rfl) rfl h (fun F hq => jL_areBacks x n  σ hq)

noncomputable def mL_isPrinted_144 (n : Nat) (y10 : Int32) (y11 : Int32) (y12 : Int32) (y13 : Int32) (σ : lw_S) : Option (Int32 × lw_S) := (if y13 = 0 then (some (0, σ)) else ej_bi (ej_lcn (m10_steps n y10 σ.1) σ) fun r14 s15 => (if 0 ≤ r14 then (if y11 = y12 + 1 then ej_bi (mL_out n y12 s15) fun r16 s17 => (if r16 = 37 then ej_bi (mL_out n y11 s17) fun r18 s19 => (if r18 = 0 then (some (1, s19)) else (some (0, s19))) else (some (0, s17))) else (some (0, s15))) else (if y11 = 0 then ej_bi (mL_out n y11 s15) fun r20 s21 => (if r20 = 0 then (some (1, s21)) else (some (0, s21))) else (some (0, s15)))))
set_option maxRecDepth 20000 in
set_option maxHeartbeats 2000000 in
theorem jL_isPrinted_144 (x : lw_T) (n : Nat) {F : ej_F} {r0 : Int32 × lw_S} (hq : ej_fin (lV x) F (some .boolean) (some (.int r0.1)) r0.2) (y10 : Int32) (y11 : Int32) (y12 : Int32) (y13 : Int32) (σ : lw_S) : ej_J (lV x) F iL_isPrinted r0 σ 144 [(0, .ref (cw_a x.1 0)), (4, .int y10), (5, .int y11), (6, .int y12), (7, .int y13)] [] (mL_isPrinted_144 n y10 y11 y12 y13 σ) := by
  unfold mL_isPrinted_144
  refine j_iload 4 rfl dL_isPrinted_144 ?_
  refine j_if_eq dL_isPrinted_146 ?_ ?_
  · refine j_iconst dL_isPrinted_199 ejc_0 ?_
    exact j_zreturn0 hq dL_isPrinted_200
  · refine j_aload_n 0 rfl dL_isPrinted_149 ?_
    refine j_iload 1 rfl dL_isPrinted_150 ?_
    refine j_callVi (lcn_con (n10_steps x.1 n y10 σ.1)) lv_L_58 (lV_rc_0 x σ) ⟨Nat.le_of_ble_eq_true rfl, Nat.le_of_ble_eq_true rfl⟩ dL_isPrinted_152 rfl (Nat.le_of_ble_eq_true rfl) (fun r14 s15 => ?_)
    refine j_if_ge dL_isPrinted_155 ?_ ?_
    · refine j_iload 2 rfl dL_isPrinted_166 ?_
      refine j_iload 3 rfl dL_isPrinted_168 ?_
      refine j_iconst dL_isPrinted_170 ejc_1 ?_
      refine j_iadd dL_isPrinted_171 ?_
      refine j_icmp_ne dL_isPrinted_172 ?_ ?_
      · refine j_iconst dL_isPrinted_199 ejc_0 ?_
        exact j_zreturn0 hq dL_isPrinted_200
      · refine j_aload_n 0 rfl dL_isPrinted_175 ?_
        refine j_iload 3 rfl dL_isPrinted_176 ?_
        refine j_callSi (kL_out x n y12 s15) ls_L_140 ⟨Nat.le_of_ble_eq_true rfl, Nat.le_of_ble_eq_true rfl⟩ dL_isPrinted_178 rfl (Nat.le_of_ble_eq_true rfl) (fun r16 s17 => ?_)
        refine j_bipush dL_isPrinted_181 ejb_37 ?_
        refine j_icmp_ne dL_isPrinted_183 ?_ ?_
        · refine j_iconst dL_isPrinted_199 ejc_0 ?_
          exact j_zreturn0 hq dL_isPrinted_200
        · refine j_aload_n 0 rfl dL_isPrinted_186 ?_
          refine j_iload 2 rfl dL_isPrinted_187 ?_
          refine j_callSi (kL_out x n y11 s17) ls_L_140 ⟨Nat.le_of_ble_eq_true rfl, Nat.le_of_ble_eq_true rfl⟩ dL_isPrinted_189 rfl (Nat.le_of_ble_eq_true rfl) (fun r18 s19 => ?_)
          refine j_if_ne dL_isPrinted_192 ?_ ?_
          · refine j_iconst dL_isPrinted_199 ejc_0 ?_
            exact j_zreturn0 hq dL_isPrinted_200
          · refine j_iconst dL_isPrinted_195 ejc_1 ?_
            refine j_goto dL_isPrinted_196 ?_
            exact j_zreturn1 hq dL_isPrinted_200
    · refine j_iload 2 rfl dL_isPrinted_158 ?_
      refine j_if_ne dL_isPrinted_160 ?_ ?_
      · refine j_iconst dL_isPrinted_199 ejc_0 ?_
        exact j_zreturn0 hq dL_isPrinted_200
      · refine j_goto dL_isPrinted_163 ?_
        refine j_aload_n 0 rfl dL_isPrinted_186 ?_
        refine j_iload 2 rfl dL_isPrinted_187 ?_
        refine j_callSi (kL_out x n y11 s15) ls_L_140 ⟨Nat.le_of_ble_eq_true rfl, Nat.le_of_ble_eq_true rfl⟩ dL_isPrinted_189 rfl (Nat.le_of_ble_eq_true rfl) (fun r20 s21 => ?_)
        refine j_if_ne dL_isPrinted_192 ?_ ?_
        · refine j_iconst dL_isPrinted_199 ejc_0 ?_
          exact j_zreturn0 hq dL_isPrinted_200
        · refine j_iconst dL_isPrinted_195 ejc_1 ?_
          refine j_goto dL_isPrinted_196 ?_
          exact j_zreturn1 hq dL_isPrinted_200
noncomputable def mL_isPrinted_121 (n : Nat) (f17 : Int32 → Int32 → Int32 → Int32 → Int32 → lw_S → Option (Int32 × lw_S)) (y35 : Int32) (y36 : Int32) (y37 : Int32) (y38 : Int32) (y39 : Int32) (y40 : Int32) (σ : lw_S) : Option (Int32 × lw_S) := (if y39 = 0 then ej_nm (y37 + 0) fun x41 => ej_nm (y38 + 1) fun x42 => (f17 y35 y36 x41 y40 x42 σ) else ej_nm (y37 + 2) fun x43 => ej_nm (y38 + 1) fun x44 => (f17 y35 y36 x43 y40 x44 σ))
set_option maxRecDepth 20000 in
set_option maxHeartbeats 2000000 in
theorem jL_isPrinted_121 (x : lw_T) (n : Nat) {F : ej_F} {r0 : Int32 × lw_S} (hq : ej_fin (lV x) F (some .boolean) (some (.int r0.1)) r0.2) (f17 : Int32 → Int32 → Int32 → Int32 → Int32 → lw_S → Option (Int32 × lw_S)) (H17 : ∀ (y3 : Int32) (y4 : Int32) (y5 : Int32) (y6 : Int32) (y7 : Int32) (σ : lw_S), ej_J (lV x) F iL_isPrinted r0 σ 17 [(0, .ref (cw_a x.1 0)), (1, .ref (cw_a x.1 210)), (2, .ref (cw_a x.1 211)), (3, .ref (cw_a x.1 212)), (4, .int y3), (5, .int y4), (6, .int y5), (7, .int y6), (8, .int y7)] [] (f17 y3 y4 y5 y6 y7 σ)) (y35 : Int32) (y36 : Int32) (y37 : Int32) (y38 : Int32) (y39 : Int32) (y40 : Int32) (σ : lw_S) : ej_J (lV x) F iL_isPrinted r0 σ 121 [(0, .ref (cw_a x.1 0)), (1, .ref (cw_a x.1 210)), (2, .ref (cw_a x.1 211)), (3, .ref (cw_a x.1 212)), (4, .int y35), (5, .int y36), (6, .int y37), (8, .int y38), (11, .int y39)] [.int y40] (mL_isPrinted_121 n f17 y35 y36 y37 y38 y39 y40 σ) := by
  unfold mL_isPrinted_121
  refine j_istore (i := 7) (L' := [(7, .int y40), (0, .ref (cw_a x.1 0)), (1, .ref (cw_a x.1 210)), (2, .ref (cw_a x.1 211)), (3, .ref (cw_a x.1 212)), (4, .int y35), (5, .int y36), (6, .int y37), (8, .int y38), (11, .int y39)]) dL_isPrinted_121 (Nat.le_of_ble_eq_true rfl) rfl ?_
  refine j_iload 7 rfl dL_isPrinted_123 ?_
  refine j_iload 9 rfl dL_isPrinted_125 ?_
  refine j_if_eq dL_isPrinted_127 ?_ ?_
  · refine j_iconst dL_isPrinted_134 ejc_0 ?_
    refine j_iadd dL_isPrinted_135 ?_
    refine j_nmi (fun x41 => ?_)
    refine j_istore (i := 6) (L' := [(6, .int x41), (7, .int y40), (0, .ref (cw_a x.1 0)), (1, .ref (cw_a x.1 210)), (2, .ref (cw_a x.1 211)), (3, .ref (cw_a x.1 212)), (4, .int y35), (5, .int y36), (8, .int y38), (11, .int y39)]) dL_isPrinted_136 (Nat.le_of_ble_eq_true rfl) rfl ?_
    refine j_iinc (i := 8) (v := 1) (Ly := fun x42 => [(8, .int x42), (6, .int x41), (7, .int y40), (0, .ref (cw_a x.1 0)), (1, .ref (cw_a x.1 210)), (2, .ref (cw_a x.1 211)), (3, .ref (cw_a x.1 212)), (4, .int y35), (5, .int y36), (11, .int y39)]) 8 dL_isPrinted_138 rfl ejc_1 (Nat.le_of_ble_eq_true rfl) (fun _ => rfl) (fun x42 => ?_)
    refine j_goto dL_isPrinted_141 ?_
    exact j_sub [3, 4, 5, 6, 7, 8, 1, 2, 0] rfl (H17 y35 y36 x41 y40 x42 σ)
  · refine j_iconst dL_isPrinted_130 ejc_2 ?_
    refine j_goto dL_isPrinted_131 ?_
    refine j_iadd dL_isPrinted_135 ?_
    refine j_nmi (fun x43 => ?_)
    refine j_istore (i := 6) (L' := [(6, .int x43), (7, .int y40), (0, .ref (cw_a x.1 0)), (1, .ref (cw_a x.1 210)), (2, .ref (cw_a x.1 211)), (3, .ref (cw_a x.1 212)), (4, .int y35), (5, .int y36), (8, .int y38), (11, .int y39)]) dL_isPrinted_136 (Nat.le_of_ble_eq_true rfl) rfl ?_
    refine j_iinc (i := 8) (v := 1) (Ly := fun x44 => [(8, .int x44), (6, .int x43), (7, .int y40), (0, .ref (cw_a x.1 0)), (1, .ref (cw_a x.1 210)), (2, .ref (cw_a x.1 211)), (3, .ref (cw_a x.1 212)), (4, .int y35), (5, .int y36), (11, .int y39)]) 8 dL_isPrinted_138 rfl ejc_1 (Nat.le_of_ble_eq_true rfl) (fun _ => rfl) (fun x44 => ?_)
    refine j_goto dL_isPrinted_141 ?_
    exact j_sub [3, 4, 5, 6, 7, 8, 1, 2, 0] rfl (H17 y35 y36 x43 y40 x44 σ)
noncomputable def mL_isPrinted_82 (n : Nat) (f17 : Int32 → Int32 → Int32 → Int32 → Int32 → lw_S → Option (Int32 × lw_S)) (y29 : Int32) (y30 : Int32) (y31 : Int32) (y32 : Int32) (y33 : Int32) (y34 : Int32) (σ : lw_S) : Option (Int32 × lw_S) := (if y34 = 0 then (mL_isPrinted_121 n f17 y29 y30 y31 y32 y34 1 σ) else ej_bi (mL_out n y31 σ) fun r45 s46 => (if r45 = 97 + y33 then ej_bi (mL_out n (y31 + 1) s46) fun r47 s48 => (if r47 = 33 then (mL_isPrinted_121 n f17 y29 y30 y31 y32 y34 1 s48) else (mL_isPrinted_121 n f17 y29 y30 y31 y32 y34 0 s48)) else (mL_isPrinted_121 n f17 y29 y30 y31 y32 y34 0 s46)))
set_option maxRecDepth 20000 in
set_option maxHeartbeats 2000000 in
theorem jL_isPrinted_82 (x : lw_T) (n : Nat) {F : ej_F} {r0 : Int32 × lw_S} (hq : ej_fin (lV x) F (some .boolean) (some (.int r0.1)) r0.2) (f17 : Int32 → Int32 → Int32 → Int32 → Int32 → lw_S → Option (Int32 × lw_S)) (H17 : ∀ (y3 : Int32) (y4 : Int32) (y5 : Int32) (y6 : Int32) (y7 : Int32) (σ : lw_S), ej_J (lV x) F iL_isPrinted r0 σ 17 [(0, .ref (cw_a x.1 0)), (1, .ref (cw_a x.1 210)), (2, .ref (cw_a x.1 211)), (3, .ref (cw_a x.1 212)), (4, .int y3), (5, .int y4), (6, .int y5), (7, .int y6), (8, .int y7)] [] (f17 y3 y4 y5 y6 y7 σ)) (y29 : Int32) (y30 : Int32) (y31 : Int32) (y32 : Int32) (y33 : Int32) (y34 : Int32) (σ : lw_S) : ej_J (lV x) F iL_isPrinted r0 σ 82 [(0, .ref (cw_a x.1 0)), (1, .ref (cw_a x.1 210)), (2, .ref (cw_a x.1 211)), (3, .ref (cw_a x.1 212)), (4, .int y29), (5, .int y30), (6, .int y31), (8, .int y32), (9, .int y33)] [.int y34] (mL_isPrinted_82 n f17 y29 y30 y31 y32 y33 y34 σ) := by
  unfold mL_isPrinted_82
  refine j_istore (i := 11) (L' := [(11, .int y34), (0, .ref (cw_a x.1 0)), (1, .ref (cw_a x.1 210)), (2, .ref (cw_a x.1 211)), (3, .ref (cw_a x.1 212)), (4, .int y29), (5, .int y30), (6, .int y31), (8, .int y32), (9, .int y33)]) dL_isPrinted_82 (Nat.le_of_ble_eq_true rfl) rfl ?_
  refine j_iload 0 rfl dL_isPrinted_84 ?_
  refine j_if_eq dL_isPrinted_86 ?_ ?_
  · refine j_iconst dL_isPrinted_116 ejc_1 ?_
    refine j_goto dL_isPrinted_117 ?_
    exact j_sub [1, 2, 3, 4, 5, 6, 7, 8, 0] rfl (jL_isPrinted_121 x n hq f17 H17 y29 y30 y31 y32 y34 1 σ)
  · refine j_aload_n 1 rfl dL_isPrinted_89 ?_
    refine j_iload 7 rfl dL_isPrinted_90 ?_
    refine j_callSi (kL_out x n y31 σ) ls_L_140 ⟨Nat.le_of_ble_eq_true rfl, Nat.le_of_ble_eq_true rfl⟩ dL_isPrinted_92 rfl (Nat.le_of_ble_eq_true rfl) (fun r45 s46 => ?_)
    refine j_bipush dL_isPrinted_95 ejb_97 ?_
    refine j_iload 9 rfl dL_isPrinted_97 ?_
    refine j_iadd dL_isPrinted_99 ?_
    refine j_icmp_ne dL_isPrinted_100 ?_ ?_
    · refine j_iconst dL_isPrinted_120 ejc_0 ?_
      exact j_sub [1, 2, 3, 4, 5, 6, 7, 8, 0] rfl (jL_isPrinted_121 x n hq f17 H17 y29 y30 y31 y32 y34 0 s46)
    · refine j_aload_n 1 rfl dL_isPrinted_103 ?_
      refine j_iload 7 rfl dL_isPrinted_104 ?_
      refine j_iconst dL_isPrinted_106 ejc_1 ?_
      refine j_iadd dL_isPrinted_107 ?_
      refine j_callSi (kL_out x n (y31 + 1) s46) ls_L_140 ⟨Nat.le_of_ble_eq_true rfl, Nat.le_of_ble_eq_true rfl⟩ dL_isPrinted_108 rfl (Nat.le_of_ble_eq_true rfl) (fun r47 s48 => ?_)
      refine j_bipush dL_isPrinted_111 ejb_33 ?_
      refine j_icmp_ne dL_isPrinted_113 ?_ ?_
      · refine j_iconst dL_isPrinted_120 ejc_0 ?_
        exact j_sub [1, 2, 3, 4, 5, 6, 7, 8, 0] rfl (jL_isPrinted_121 x n hq f17 H17 y29 y30 y31 y32 y34 0 s48)
      · refine j_iconst dL_isPrinted_116 ejc_1 ?_
        refine j_goto dL_isPrinted_117 ?_
        exact j_sub [1, 2, 3, 4, 5, 6, 7, 8, 0] rfl (jL_isPrinted_121 x n hq f17 H17 y29 y30 y31 y32 y34 1 s48)
noncomputable def mL_isPrinted_17 (n : Nat) (k : Nat) : Int32 → Int32 → Int32 → Int32 → Int32 → lw_S → Option (Int32 × lw_S) := Nat.rec (motive := fun _ => Int32 → Int32 → Int32 → Int32 → Int32 → lw_S → Option (Int32 × lw_S)) (fun _ _ _ _ _ _ => none) (fun _ ih y3 y4 y5 y6 y7 σ => ej_bi (ej_lcn (m10_steps n y3 σ.1) σ) fun r8 s9 => (if r8 < y7 then (mL_isPrinted_144 n y3 y4 y5 y6 s9) else (if y6 = 0 then (mL_isPrinted_144 n y3 y4 y5 y6 s9) else ej_bi (ej_lcn (m10_nodeAt n y3 y7 s9.1) s9) fun r22 s23 => ej_ck r22 12 (ej_nm (gA s23.2 1 r22.toNatClampNeg) fun x24 => ej_bi (ej_lcn (m10_stepAt n y3 y7 s23.1) s23) fun r25 s26 => (if r25 = 2 then ej_bi (mL_isNet n x24 s26) fun r27 s28 => (if r27 = 0 then (mL_isPrinted_82 n ih y3 y4 y5 y7 x24 1 s28) else (mL_isPrinted_82 n ih y3 y4 y5 y7 x24 0 s28)) else (if r25 ≤ 3 then (mL_isPrinted_82 n ih y3 y4 y5 y7 x24 0 s26) else ej_bi (mL_isNet n x24 s26) fun r49 s50 => (if r49 = 0 then (mL_isPrinted_82 n ih y3 y4 y5 y7 x24 1 s50) else (mL_isPrinted_82 n ih y3 y4 y5 y7 x24 0 s50)))))))) k
theorem mL_isPrinted_17_s (n : Nat) (k : Nat) (y3 : Int32) (y4 : Int32) (y5 : Int32) (y6 : Int32) (y7 : Int32) (σ : lw_S) : mL_isPrinted_17 n (k + 1) y3 y4 y5 y6 y7 σ = (ej_bi (ej_lcn (m10_steps n y3 σ.1) σ) fun r8 s9 => (if r8 < y7 then (mL_isPrinted_144 n y3 y4 y5 y6 s9) else (if y6 = 0 then (mL_isPrinted_144 n y3 y4 y5 y6 s9) else ej_bi (ej_lcn (m10_nodeAt n y3 y7 s9.1) s9) fun r22 s23 => ej_ck r22 12 (ej_nm (gA s23.2 1 r22.toNatClampNeg) fun x24 => ej_bi (ej_lcn (m10_stepAt n y3 y7 s23.1) s23) fun r25 s26 => (if r25 = 2 then ej_bi (mL_isNet n x24 s26) fun r27 s28 => (if r27 = 0 then (mL_isPrinted_82 n (mL_isPrinted_17 n k) y3 y4 y5 y7 x24 1 s28) else (mL_isPrinted_82 n (mL_isPrinted_17 n k) y3 y4 y5 y7 x24 0 s28)) else (if r25 ≤ 3 then (mL_isPrinted_82 n (mL_isPrinted_17 n k) y3 y4 y5 y7 x24 0 s26) else ej_bi (mL_isNet n x24 s26) fun r49 s50 => (if r49 = 0 then (mL_isPrinted_82 n (mL_isPrinted_17 n k) y3 y4 y5 y7 x24 1 s50) else (mL_isPrinted_82 n (mL_isPrinted_17 n k) y3 y4 y5 y7 x24 0 s50))))))) : Option (Int32 × lw_S)) := rfl
set_option maxRecDepth 20000 in
set_option maxHeartbeats 2000000 in
theorem jL_isPrinted_17 (x : lw_T) (n : Nat) {F : ej_F} {r0 : Int32 × lw_S} (hq : ej_fin (lV x) F (some .boolean) (some (.int r0.1)) r0.2) : ∀ (k : Nat) (y3 : Int32) (y4 : Int32) (y5 : Int32) (y6 : Int32) (y7 : Int32) (σ : lw_S), ej_J (lV x) F iL_isPrinted r0 σ 17 [(0, .ref (cw_a x.1 0)), (1, .ref (cw_a x.1 210)), (2, .ref (cw_a x.1 211)), (3, .ref (cw_a x.1 212)), (4, .int y3), (5, .int y4), (6, .int y5), (7, .int y6), (8, .int y7)] [] (mL_isPrinted_17 n k y3 y4 y5 y6 y7 σ) := by
  intro k
  induction k with
  | zero => intro y3 y4 y5 y6 y7 σ; exact j_none
  | succ k ih =>
    intro y3 y4 y5 y6 y7 σ
    rw [mL_isPrinted_17_s]
    refine j_iload 8 rfl dL_isPrinted_17 ?_
    refine j_aload_n 0 rfl dL_isPrinted_19 ?_
    refine j_iload 4 rfl dL_isPrinted_20 ?_
    refine j_callVi (lcn_con (n10_steps x.1 n y3 σ.1)) lv_L_58 (lV_rc_0 x σ) ⟨Nat.le_of_ble_eq_true rfl, Nat.le_of_ble_eq_true rfl⟩ dL_isPrinted_22 rfl (Nat.le_of_ble_eq_true rfl) (fun r8 s9 => ?_)
    refine j_icmp_gt dL_isPrinted_25 ?_ ?_
    · exact j_sub [0, 4, 5, 6, 7] rfl (jL_isPrinted_144 x n hq y3 y4 y5 y6 s9)
    · refine j_iload 7 rfl dL_isPrinted_28 ?_
      refine j_if_eq dL_isPrinted_30 ?_ ?_
      · exact j_sub [0, 4, 5, 6, 7] rfl (jL_isPrinted_144 x n hq y3 y4 y5 y6 s9)
      · refine j_aload_n 2 rfl dL_isPrinted_33 ?_
        refine j_aload_n 0 rfl dL_isPrinted_34 ?_
        refine j_iload 4 rfl dL_isPrinted_35 ?_
        refine j_iload 8 rfl dL_isPrinted_37 ?_
        refine j_callVi (lcn_con (n10_nodeAt x.1 n y3 y7 s9.1)) lv_L_64 (lV_rc_0 x s9) ⟨Nat.le_of_ble_eq_true rfl, Nat.le_of_ble_eq_true rfl⟩ dL_isPrinted_39 rfl (Nat.le_of_ble_eq_true rfl) (fun r22 s23 => ?_)
        refine j_iald (lV_a_211 x s23) dL_isPrinted_42 ?_
        refine j_nmi (fun x24 => ?_)
        refine j_istore (i := 9) (L' := [(9, .int x24), (0, .ref (cw_a x.1 0)), (1, .ref (cw_a x.1 210)), (2, .ref (cw_a x.1 211)), (3, .ref (cw_a x.1 212)), (4, .int y3), (5, .int y4), (6, .int y5), (7, .int y6), (8, .int y7)]) dL_isPrinted_43 (Nat.le_of_ble_eq_true rfl) rfl ?_
        refine j_aload_n 1 rfl dL_isPrinted_45 ?_
        refine j_iload 5 rfl dL_isPrinted_46 ?_
        refine j_iload 9 rfl dL_isPrinted_48 ?_
        refine j_callVi (lcn_con (n10_stepAt x.1 n y3 y7 s23.1)) lv_L_70 (lV_rc_0 x s23) ⟨Nat.le_of_ble_eq_true rfl, Nat.le_of_ble_eq_true rfl⟩ dL_isPrinted_50 rfl (Nat.le_of_ble_eq_true rfl) (fun r25 s26 => ?_)
        refine j_istore (i := 10) (L' := [(10, .int r25), (9, .int x24), (0, .ref (cw_a x.1 0)), (1, .ref (cw_a x.1 210)), (2, .ref (cw_a x.1 211)), (3, .ref (cw_a x.1 212)), (4, .int y3), (5, .int y4), (6, .int y5), (7, .int y6), (8, .int y7)]) dL_isPrinted_53 (Nat.le_of_ble_eq_true rfl) rfl ?_
        refine j_iload 0 rfl dL_isPrinted_55 ?_
        refine j_iconst dL_isPrinted_57 ejc_2 ?_
        refine j_icmp_eq dL_isPrinted_58 ?_ ?_
        · refine j_aload_n 3 rfl dL_isPrinted_67 ?_
          refine j_aload_n 5 rfl dL_isPrinted_68 ?_
          refine j_iload 1 rfl dL_isPrinted_69 ?_
          refine j_callSi (kL_isNet x n x24 s26) ls_L_132 ⟨Nat.le_of_ble_eq_true rfl, Nat.le_of_ble_eq_true rfl⟩ dL_isPrinted_71 rfl (Nat.le_of_ble_eq_true rfl) (fun r27 s28 => ?_)
          refine j_if_ne dL_isPrinted_74 ?_ ?_
          · refine j_iconst dL_isPrinted_81 ejc_0 ?_
            exact j_sub [2, 3, 4, 5, 6, 7, 8, 10, 1] rfl (jL_isPrinted_82 x n hq (mL_isPrinted_17 n k) ih y3 y4 y5 y7 x24 0 s28)
          · refine j_iconst dL_isPrinted_77 ejc_1 ?_
            refine j_goto dL_isPrinted_78 ?_
            exact j_sub [2, 3, 4, 5, 6, 7, 8, 10, 1] rfl (jL_isPrinted_82 x n hq (mL_isPrinted_17 n k) ih y3 y4 y5 y7 x24 1 s28)
        · refine j_iload 0 rfl dL_isPrinted_61 ?_
          refine j_iconst dL_isPrinted_63 ejc_3 ?_
          refine j_icmp_le dL_isPrinted_64 ?_ ?_
          · refine j_iconst dL_isPrinted_81 ejc_0 ?_
            exact j_sub [2, 3, 4, 5, 6, 7, 8, 10, 1] rfl (jL_isPrinted_82 x n hq (mL_isPrinted_17 n k) ih y3 y4 y5 y7 x24 0 s26)
          · refine j_aload_n 3 rfl dL_isPrinted_67 ?_
            refine j_aload_n 5 rfl dL_isPrinted_68 ?_
            refine j_iload 1 rfl dL_isPrinted_69 ?_
            refine j_callSi (kL_isNet x n x24 s26) ls_L_132 ⟨Nat.le_of_ble_eq_true rfl, Nat.le_of_ble_eq_true rfl⟩ dL_isPrinted_71 rfl (Nat.le_of_ble_eq_true rfl) (fun r49 s50 => ?_)
            refine j_if_ne dL_isPrinted_74 ?_ ?_
            · refine j_iconst dL_isPrinted_81 ejc_0 ?_
              exact j_sub [2, 3, 4, 5, 6, 7, 8, 10, 1] rfl (jL_isPrinted_82 x n hq (mL_isPrinted_17 n k) ih y3 y4 y5 y7 x24 0 s50)
            · refine j_iconst dL_isPrinted_77 ejc_1 ?_
              refine j_goto dL_isPrinted_78 ?_
              exact j_sub [2, 3, 4, 5, 6, 7, 8, 10, 1] rfl (jL_isPrinted_82 x n hq (mL_isPrinted_17 n k) ih y3 y4 y5 y7 x24 1 s50)
noncomputable def mL_isPrinted (n : Nat) (a4 : Int32) (σ : lw_S) : Option (Int32 × lw_S) := ej_bi (ej_lcn (m10_print n a4 σ.1) σ) fun r1 s2 => (mL_isPrinted_17 n n a4 r1 0 1 1 s2)
set_option maxRecDepth 20000 in
set_option maxHeartbeats 2000000 in
theorem jL_isPrinted (x : lw_T) (n : Nat) (a4 : Int32) (σ : lw_S) {F : ej_F} {r0 : Int32 × lw_S} (hq : ej_fin (lV x) F (some .boolean) (some (.int r0.1)) r0.2) : ej_J (lV x) F iL_isPrinted r0 σ 0 [(0, .ref (cw_a x.1 0)), (1, .ref (cw_a x.1 210)), (2, .ref (cw_a x.1 211)), (3, .ref (cw_a x.1 212)), (4, .int a4)] [] (mL_isPrinted n a4 σ) := by
  unfold mL_isPrinted
  refine j_aload_n 0 rfl dL_isPrinted_0 ?_
  refine j_iload 4 rfl dL_isPrinted_1 ?_
  refine j_callVi (lcn_con (n10_print x.1 n a4 σ.1)) lv_L_77 (lV_rc_0 x σ) ⟨Nat.le_of_ble_eq_true rfl, Nat.le_of_ble_eq_true rfl⟩ dL_isPrinted_3 rfl (Nat.le_of_ble_eq_true rfl) (fun r1 s2 => ?_)
  refine j_istore (i := 5) (L' := [(5, .int r1), (0, .ref (cw_a x.1 0)), (1, .ref (cw_a x.1 210)), (2, .ref (cw_a x.1 211)), (3, .ref (cw_a x.1 212)), (4, .int a4)]) dL_isPrinted_6 (Nat.le_of_ble_eq_true rfl) rfl ?_
  refine j_iconst dL_isPrinted_8 ejc_0 ?_
  refine j_istore (i := 6) (L' := [(6, .int 0), (5, .int r1), (0, .ref (cw_a x.1 0)), (1, .ref (cw_a x.1 210)), (2, .ref (cw_a x.1 211)), (3, .ref (cw_a x.1 212)), (4, .int a4)]) dL_isPrinted_9 (Nat.le_of_ble_eq_true rfl) rfl ?_
  refine j_iconst dL_isPrinted_11 ejc_1 ?_
  refine j_istore (i := 7) (L' := [(7, .int 1), (6, .int 0), (5, .int r1), (0, .ref (cw_a x.1 0)), (1, .ref (cw_a x.1 210)), (2, .ref (cw_a x.1 211)), (3, .ref (cw_a x.1 212)), (4, .int a4)]) dL_isPrinted_12 (Nat.le_of_ble_eq_true rfl) rfl ?_
  refine j_iconst dL_isPrinted_14 ejc_1 ?_
  refine j_istore (i := 8) (L' := [(8, .int 1), (7, .int 1), (6, .int 0), (5, .int r1), (0, .ref (cw_a x.1 0)), (1, .ref (cw_a x.1 210)), (2, .ref (cw_a x.1 211)), (3, .ref (cw_a x.1 212)), (4, .int a4)]) dL_isPrinted_15 (Nat.le_of_ble_eq_true rfl) rfl ?_
  exact j_sub [4, 5, 6, 7, 8, 3, 2, 1, 0] rfl (jL_isPrinted_17 x n hq n a4 r1 0 1 1 s2)
theorem kL_isPrinted (x : lw_T) (n : Nat) (a4 : Int32) (σ : lw_S) : ∀ r σ1, mL_isPrinted n a4 σ = some (r, σ1) → ∀ l, ej_Con l (lV x) iL_isPrinted yL_isPrinted (some .boolean) [.ref (cw_a x.1 0), .ref (cw_a x.1 210), .ref (cw_a x.1 211), .ref (cw_a x.1 212), .int a4] σ (some (.int r)) σ1 := fun r σ1 h l => ej_con_of (lV_ok x) pn_L rfl (Nat.le_of_ble_eq_true rfl) rfl h (fun F hq => jL_isPrinted x n a4 σ hq)

