noncomputable def mL_law_543 (n : Nat) (N : Nat) (xs : Nat → Int32) (f65 : Int32 → Int32 → lw_S → Option (Int32)) (y25 : Int32) (y26 : Int32) (y27 : Int32) (σ : lw_S) : Option (Int32) := (if y25 = 0 then ej_nm (y26 + 1) fun x28 => (f65 0 x28 σ) else ej_bi (mL_isRewritten n ((y27 / 32) - (y27 / 32) / 10 * 10) σ) fun r29 s30 => (if r29 = 0 then ej_nm (y26 + 1) fun x31 => (f65 0 x31 s30) else (if 0 < y26 - y26 / 4 * 4 then ej_nm (y26 + 1) fun x32 => (f65 1 x32 s30) else ej_bi (mL_isRefused n (y27 / 3) s30) fun r33 s34 => (if r33 = 0 then ej_nm (y26 + 1) fun x35 => (f65 0 x35 s34) else ej_nm (y26 + 1) fun x36 => (f65 1 x36 s34)))))
set_option maxRecDepth 20000 in
set_option maxHeartbeats 2000000 in
theorem jL_law_543 (x : lw_T) (n : Nat) (f65 : Int32 → Int32 → lw_S → Option (Int32)) (b65 : Nat) (H65 : ∀ {F : ej_F} (hq : ej_finL x F) (hu : ej_bud F b65) (y4 : Int32) (y5 : Int32) (σ : lw_S), ej_J (lV x) F iL_law (1 : Int32) σ 65 [(0, .ref (x.2.1)), (1, .ref (cw_a x.1 0)), (2, .ref (cw_a x.1 210)), (3, .ref (cw_a x.1 211)), (4, .ref (cw_a x.1 212)), (5, .int y4), (6, .int y5)] [] (f65 y4 y5 σ)) {F : ej_F} (hq : ej_finL x F) (hu : ej_bud F (154 + b65)) (y25 : Int32) (y26 : Int32) (y27 : Int32) (σ : lw_S) : ej_J (lV x) F iL_law (1 : Int32) σ 543 [(0, .ref (x.2.1)), (1, .ref (cw_a x.1 0)), (2, .ref (cw_a x.1 210)), (3, .ref (cw_a x.1 211)), (4, .ref (cw_a x.1 212)), (5, .int y25), (6, .int y26), (7, .int y27)] [] (mL_law_543 n x.2.2.1 x.2.2.2 f65 y25 y26 y27 σ) := by
  unfold mL_law_543
  refine j_iload 5 rfl dL_law_543 ?_
  refine j_if_eq dL_law_545 ?_ ?_
  · refine j_iconst dL_law_590 ejc_0 ?_
    refine j_istore (i := 5) (L' := [(5, .int 0), (0, .ref (x.2.1)), (1, .ref (cw_a x.1 0)), (2, .ref (cw_a x.1 210)), (3, .ref (cw_a x.1 211)), (4, .ref (cw_a x.1 212)), (6, .int y26), (7, .int y27)]) dL_law_591 (Nat.le_of_ble_eq_true rfl) rfl ?_
    refine j_iinc (i := 6) (v := 1) (Ly := fun x28 => [(6, .int x28), (5, .int 0), (0, .ref (x.2.1)), (1, .ref (cw_a x.1 0)), (2, .ref (cw_a x.1 210)), (3, .ref (cw_a x.1 211)), (4, .ref (cw_a x.1 212)), (7, .int y27)]) 6 dL_law_593 rfl ejc_1 (Nat.le_of_ble_eq_true rfl) (fun _ => rfl) (fun x28 => ?_)
    refine j_goto dL_law_596 ?_
    exact j_sub [2, 3, 4, 5, 6, 1, 0] rfl (H65 hq (ej_budw hu (by omega)) 0 x28 σ)
  · refine j_aload_n 1 rfl dL_law_548 ?_
    refine j_aload_n 3 rfl dL_law_549 ?_
    refine j_aload 4 rfl dL_law_550 ?_
    refine j_iload 7 rfl dL_law_552 ?_
    refine j_bipush dL_law_554 ejb_32 ?_
    refine j_idiv0 (by decide) dL_law_556 ?_
    refine j_bipush dL_law_557 ejb_10 ?_
    refine j_irem0 (by decide) dL_law_559 ?_
    refine jb_callSi (c := 2) (kL_isRewritten x n ((y27 / 32) - (y27 / 32) / 10 * 10) σ) ls_L_217 ⟨Nat.le_of_ble_eq_true rfl, Nat.le_of_ble_eq_true rfl⟩ dL_law_560 rfl (Nat.le_of_ble_eq_true rfl) hu (by omega) (fun r29 s30 => ?_)
    refine j_if_eq dL_law_563 ?_ ?_
    · refine j_iconst dL_law_590 ejc_0 ?_
      refine j_istore (i := 5) (L' := [(5, .int 0), (0, .ref (x.2.1)), (1, .ref (cw_a x.1 0)), (2, .ref (cw_a x.1 210)), (3, .ref (cw_a x.1 211)), (4, .ref (cw_a x.1 212)), (6, .int y26), (7, .int y27)]) dL_law_591 (Nat.le_of_ble_eq_true rfl) rfl ?_
      refine j_iinc (i := 6) (v := 1) (Ly := fun x31 => [(6, .int x31), (5, .int 0), (0, .ref (x.2.1)), (1, .ref (cw_a x.1 0)), (2, .ref (cw_a x.1 210)), (3, .ref (cw_a x.1 211)), (4, .ref (cw_a x.1 212)), (7, .int y27)]) 6 dL_law_593 rfl ejc_1 (Nat.le_of_ble_eq_true rfl) (fun _ => rfl) (fun x31 => ?_)
      refine j_goto dL_law_596 ?_
      exact j_sub [2, 3, 4, 5, 6, 1, 0] rfl (H65 (ej_finLu _ _ hq) (ej_budw (ej_budu 2 hu (by omega)) (by omega)) 0 x31 s30)
    · refine j_iload 6 rfl dL_law_566 ?_
      refine j_iconst dL_law_568 ejc_4 ?_
      refine j_irem0 (by decide) dL_law_569 ?_
      refine j_if_gt dL_law_570 ?_ ?_
      · refine j_iconst dL_law_586 ejc_1 ?_
        refine j_goto dL_law_587 ?_
        refine j_istore (i := 5) (L' := [(5, .int 1), (0, .ref (x.2.1)), (1, .ref (cw_a x.1 0)), (2, .ref (cw_a x.1 210)), (3, .ref (cw_a x.1 211)), (4, .ref (cw_a x.1 212)), (6, .int y26), (7, .int y27)]) dL_law_591 (Nat.le_of_ble_eq_true rfl) rfl ?_
        refine j_iinc (i := 6) (v := 1) (Ly := fun x32 => [(6, .int x32), (5, .int 1), (0, .ref (x.2.1)), (1, .ref (cw_a x.1 0)), (2, .ref (cw_a x.1 210)), (3, .ref (cw_a x.1 211)), (4, .ref (cw_a x.1 212)), (7, .int y27)]) 6 dL_law_593 rfl ejc_1 (Nat.le_of_ble_eq_true rfl) (fun _ => rfl) (fun x32 => ?_)
        refine j_goto dL_law_596 ?_
        exact j_sub [2, 3, 4, 5, 6, 1, 0] rfl (H65 (ej_finLu _ _ hq) (ej_budw (ej_budu 2 hu (by omega)) (by omega)) 1 x32 s30)
      · refine j_aload_n 1 rfl dL_law_573 ?_
        refine j_aload 4 rfl dL_law_574 ?_
        refine j_iload 7 rfl dL_law_576 ?_
        refine j_iconst dL_law_578 ejc_3 ?_
        refine j_idiv0 (by decide) dL_law_579 ?_
        refine jb_callSi (c := 152) (kL_isRefused x n (y27 / 3) s30) ls_L_179 ⟨Nat.le_of_ble_eq_true rfl, Nat.le_of_ble_eq_true rfl⟩ dL_law_580 rfl (Nat.le_of_ble_eq_true rfl) (ej_budu 2 hu (by omega)) (by omega) (fun r33 s34 => ?_)
        refine j_if_eq dL_law_583 ?_ ?_
        · refine j_iconst dL_law_590 ejc_0 ?_
          refine j_istore (i := 5) (L' := [(5, .int 0), (0, .ref (x.2.1)), (1, .ref (cw_a x.1 0)), (2, .ref (cw_a x.1 210)), (3, .ref (cw_a x.1 211)), (4, .ref (cw_a x.1 212)), (6, .int y26), (7, .int y27)]) dL_law_591 (Nat.le_of_ble_eq_true rfl) rfl ?_
          refine j_iinc (i := 6) (v := 1) (Ly := fun x35 => [(6, .int x35), (5, .int 0), (0, .ref (x.2.1)), (1, .ref (cw_a x.1 0)), (2, .ref (cw_a x.1 210)), (3, .ref (cw_a x.1 211)), (4, .ref (cw_a x.1 212)), (7, .int y27)]) 6 dL_law_593 rfl ejc_1 (Nat.le_of_ble_eq_true rfl) (fun _ => rfl) (fun x35 => ?_)
          refine j_goto dL_law_596 ?_
          exact j_sub [2, 3, 4, 5, 6, 1, 0] rfl (H65 (ej_finLu _ _ (ej_finLu _ _ hq)) (ej_budw (ej_budu 152 (ej_budu 2 hu (by omega)) (by omega)) (by omega)) 0 x35 s34)
        · refine j_iconst dL_law_586 ejc_1 ?_
          refine j_goto dL_law_587 ?_
          refine j_istore (i := 5) (L' := [(5, .int 1), (0, .ref (x.2.1)), (1, .ref (cw_a x.1 0)), (2, .ref (cw_a x.1 210)), (3, .ref (cw_a x.1 211)), (4, .ref (cw_a x.1 212)), (6, .int y26), (7, .int y27)]) dL_law_591 (Nat.le_of_ble_eq_true rfl) rfl ?_
          refine j_iinc (i := 6) (v := 1) (Ly := fun x36 => [(6, .int x36), (5, .int 1), (0, .ref (x.2.1)), (1, .ref (cw_a x.1 0)), (2, .ref (cw_a x.1 210)), (3, .ref (cw_a x.1 211)), (4, .ref (cw_a x.1 212)), (7, .int y27)]) 6 dL_law_593 rfl ejc_1 (Nat.le_of_ble_eq_true rfl) (fun _ => rfl) (fun x36 => ?_)
          refine j_goto dL_law_596 ?_
          exact j_sub [2, 3, 4, 5, 6, 1, 0] rfl (H65 (ej_finLu _ _ (ej_finLu _ _ hq)) (ej_budw (ej_budu 152 (ej_budu 2 hu (by omega)) (by omega)) (by omega)) 1 x36 s34)
noncomputable def mL_law_511 (n : Nat) (N : Nat) (xs : Nat → Int32) (f65 : Int32 → Int32 → lw_S → Option (Int32)) (k : Nat) : Int32 → Int32 → Int32 → Int32 → lw_S → Option (Int32) := Nat.rec (motive := fun _ => Int32 → Int32 → Int32 → Int32 → lw_S → Option (Int32)) (fun _ _ _ _ _ => none) (fun _ ih y21 y22 y23 y24 σ => ej_ck 2 4 ((if gA σ.2 2 (2 : Int32).toNatClampNeg ≤ y24 then (mL_law_543 n N xs f65 y21 y22 y23 σ) else (if y21 = 0 then (mL_law_543 n N xs f65 y21 y22 y23 σ) else ej_bi (mL_isPrinted n y24 σ) fun r37 s38 => ej_nm (y24 + 1) fun x39 => (ih r37 y22 y23 x39 s38))))) k
theorem mL_law_511_s (n : Nat) (N : Nat) (xs : Nat → Int32) (f65 : Int32 → Int32 → lw_S → Option (Int32)) (k : Nat) (y21 : Int32) (y22 : Int32) (y23 : Int32) (y24 : Int32) (σ : lw_S) : mL_law_511 n N xs f65 (k + 1) y21 y22 y23 y24 σ = (ej_ck 2 4 ((if gA σ.2 2 (2 : Int32).toNatClampNeg ≤ y24 then (mL_law_543 n N xs f65 y21 y22 y23 σ) else (if y21 = 0 then (mL_law_543 n N xs f65 y21 y22 y23 σ) else ej_bi (mL_isPrinted n y24 σ) fun r37 s38 => ej_nm (y24 + 1) fun x39 => ((mL_law_511 n N xs f65 k) r37 y22 y23 x39 s38)))) : Option (Int32)) := rfl
set_option maxRecDepth 20000 in
set_option maxHeartbeats 2000000 in
theorem jL_law_511 (x : lw_T) (n : Nat) (f65 : Int32 → Int32 → lw_S → Option (Int32)) (b65 : Nat) (H65 : ∀ {F : ej_F} (hq : ej_finL x F) (hu : ej_bud F b65) (y4 : Int32) (y5 : Int32) (σ : lw_S), ej_J (lV x) F iL_law (1 : Int32) σ 65 [(0, .ref (x.2.1)), (1, .ref (cw_a x.1 0)), (2, .ref (cw_a x.1 210)), (3, .ref (cw_a x.1 211)), (4, .ref (cw_a x.1 212)), (5, .int y4), (6, .int y5)] [] (f65 y4 y5 σ)) : ∀ (k : Nat) {F : ej_F} (hq : ej_finL x F) (hu : ej_bud F (154 + 0 * k + b65)) (y21 : Int32) (y22 : Int32) (y23 : Int32) (y24 : Int32) (σ : lw_S), ej_J (lV x) F iL_law (1 : Int32) σ 511 [(0, .ref (x.2.1)), (1, .ref (cw_a x.1 0)), (2, .ref (cw_a x.1 210)), (3, .ref (cw_a x.1 211)), (4, .ref (cw_a x.1 212)), (5, .int y21), (6, .int y22), (7, .int y23), (9, .int y24)] [] (mL_law_511 n x.2.2.1 x.2.2.2 f65 k y21 y22 y23 y24 σ) := by
  intro k
  induction k with
  | zero => intro F hq hu y21 y22 y23 y24 σ; exact j_none
  | succ k ih =>
    intro F hq hu y21 y22 y23 y24 σ
    rw [mL_law_511_s]
    refine j_iload 8 rfl dL_law_511 ?_
    refine j_aload 4 rfl dL_law_513 ?_
    refine j_iconst dL_law_515 ejc_2 ?_
    refine j_iald (lV_a_212 x σ) dL_law_516 ?_
    refine j_icmp_ge dL_law_517 ?_ ?_
    · exact j_sub [0, 1, 2, 3, 4, 5, 6, 7] rfl (jL_law_543 x n f65 (b65) H65 hq (ej_budw hu (by omega)) y21 y22 y23 σ)
    · refine j_iload 5 rfl dL_law_520 ?_
      refine j_if_eq dL_law_522 ?_ ?_
      · exact j_sub [0, 1, 2, 3, 4, 5, 6, 7] rfl (jL_law_543 x n f65 (b65) H65 hq (ej_budw hu (by omega)) y21 y22 y23 σ)
      · refine j_aload_n 1 rfl dL_law_525 ?_
        refine j_aload_n 2 rfl dL_law_526 ?_
        refine j_aload_n 3 rfl dL_law_527 ?_
        refine j_aload 4 rfl dL_law_528 ?_
        refine j_iload 8 rfl dL_law_530 ?_
        refine j_callSi (kL_isPrinted x n y24 σ) ls_L_214 ⟨Nat.le_of_ble_eq_true rfl, Nat.le_of_ble_eq_true rfl⟩ dL_law_532 rfl (Nat.le_of_ble_eq_true rfl) (fun r37 s38 => ?_)
        refine j_istore (i := 5) (L' := [(5, .int r37), (0, .ref (x.2.1)), (1, .ref (cw_a x.1 0)), (2, .ref (cw_a x.1 210)), (3, .ref (cw_a x.1 211)), (4, .ref (cw_a x.1 212)), (6, .int y22), (7, .int y23), (9, .int y24)]) dL_law_535 (Nat.le_of_ble_eq_true rfl) rfl ?_
        refine j_iinc (i := 9) (v := 1) (Ly := fun x39 => [(9, .int x39), (5, .int r37), (0, .ref (x.2.1)), (1, .ref (cw_a x.1 0)), (2, .ref (cw_a x.1 210)), (3, .ref (cw_a x.1 211)), (4, .ref (cw_a x.1 212)), (6, .int y22), (7, .int y23)]) 8 dL_law_537 rfl ejc_1 (Nat.le_of_ble_eq_true rfl) (fun _ => rfl) (fun x39 => ?_)
        refine j_goto dL_law_540 ?_
        exact j_sub [2, 3, 4, 5, 6, 1, 7, 8, 0] rfl (ih hq (ej_budw hu (by omega)) r37 y22 y23 x39 s38)
noncomputable def mL_law_449 (n : Nat) (N : Nat) (xs : Nat → Int32) (f65 : Int32 → Int32 → lw_S → Option (Int32)) (y18 : Int32) (y19 : Int32) (y20 : Int32) (σ : lw_S) : Option (Int32) := (if y18 = 0 then (mL_law_511 n N xs f65 12 0 y19 y20 0 σ) else ej_bi (mL_areNodes n (y20 / 7) σ) fun r40 s41 => (if r40 = 0 then (mL_law_511 n N xs f65 12 0 y19 y20 0 s41) else ej_bi (mL_areWays n s41) fun r42 s43 => (if r42 = 0 then (mL_law_511 n N xs f65 12 0 y19 y20 0 s43) else ej_bi (mL_areBacks n s43) fun r44 s45 => (if r44 = 0 then (mL_law_511 n N xs f65 12 0 y19 y20 0 s45) else ej_bi (mL_isSum n y20 s45) fun r46 s47 => (if r46 = 0 then (mL_law_511 n N xs f65 12 0 y19 y20 0 s47) else (mL_law_511 n N xs f65 12 1 y19 y20 0 s47))))))
set_option maxRecDepth 20000 in
set_option maxHeartbeats 2000000 in
theorem jL_law_449 (x : lw_T) (n : Nat) (f65 : Int32 → Int32 → lw_S → Option (Int32)) (b65 : Nat) (H65 : ∀ {F : ej_F} (hq : ej_finL x F) (hu : ej_bud F b65) (y4 : Int32) (y5 : Int32) (σ : lw_S), ej_J (lV x) F iL_law (1 : Int32) σ 65 [(0, .ref (x.2.1)), (1, .ref (cw_a x.1 0)), (2, .ref (cw_a x.1 210)), (3, .ref (cw_a x.1 211)), (4, .ref (cw_a x.1 212)), (5, .int y4), (6, .int y5)] [] (f65 y4 y5 σ)) {F : ej_F} (hq : ej_finL x F) (hu : ej_bud F (208 + b65)) (y18 : Int32) (y19 : Int32) (y20 : Int32) (σ : lw_S) : ej_J (lV x) F iL_law (1 : Int32) σ 449 [(0, .ref (x.2.1)), (1, .ref (cw_a x.1 0)), (2, .ref (cw_a x.1 210)), (3, .ref (cw_a x.1 211)), (4, .ref (cw_a x.1 212)), (5, .int y18), (6, .int y19), (7, .int y20)] [] (mL_law_449 n x.2.2.1 x.2.2.2 f65 y18 y19 y20 σ) := by
  unfold mL_law_449
  refine j_iload 5 rfl dL_law_449 ?_
  refine j_if_eq dL_law_451 ?_ ?_
  · refine j_iconst dL_law_505 ejc_0 ?_
    refine j_istore (i := 5) (L' := [(5, .int 0), (0, .ref (x.2.1)), (1, .ref (cw_a x.1 0)), (2, .ref (cw_a x.1 210)), (3, .ref (cw_a x.1 211)), (4, .ref (cw_a x.1 212)), (6, .int y19), (7, .int y20)]) dL_law_506 (Nat.le_of_ble_eq_true rfl) rfl ?_
    refine j_iconst dL_law_508 ejc_0 ?_
    refine j_istore (i := 9) (L' := [(9, .int 0), (5, .int 0), (0, .ref (x.2.1)), (1, .ref (cw_a x.1 0)), (2, .ref (cw_a x.1 210)), (3, .ref (cw_a x.1 211)), (4, .ref (cw_a x.1 212)), (6, .int y19), (7, .int y20)]) dL_law_509 (Nat.le_of_ble_eq_true rfl) rfl ?_
    exact j_sub [2, 3, 4, 5, 6, 1, 7, 8, 0] rfl (jL_law_511 x n f65 (b65) H65 12 hq (ej_budw hu (by omega)) 0 y19 y20 0 σ)
  · refine j_aload_n 1 rfl dL_law_454 ?_
    refine j_aload_n 2 rfl dL_law_455 ?_
    refine j_aload_n 3 rfl dL_law_456 ?_
    refine j_aload 4 rfl dL_law_457 ?_
    refine j_iload 7 rfl dL_law_459 ?_
    refine j_bipush dL_law_461 ejb_7 ?_
    refine j_idiv0 (by decide) dL_law_463 ?_
    refine j_callSi (kL_areNodes x n (y20 / 7) σ) ls_L_199 ⟨Nat.le_of_ble_eq_true rfl, Nat.le_of_ble_eq_true rfl⟩ dL_law_464 rfl (Nat.le_of_ble_eq_true rfl) (fun r40 s41 => ?_)
    refine j_if_eq dL_law_467 ?_ ?_
    · refine j_iconst dL_law_505 ejc_0 ?_
      refine j_istore (i := 5) (L' := [(5, .int 0), (0, .ref (x.2.1)), (1, .ref (cw_a x.1 0)), (2, .ref (cw_a x.1 210)), (3, .ref (cw_a x.1 211)), (4, .ref (cw_a x.1 212)), (6, .int y19), (7, .int y20)]) dL_law_506 (Nat.le_of_ble_eq_true rfl) rfl ?_
      refine j_iconst dL_law_508 ejc_0 ?_
      refine j_istore (i := 9) (L' := [(9, .int 0), (5, .int 0), (0, .ref (x.2.1)), (1, .ref (cw_a x.1 0)), (2, .ref (cw_a x.1 210)), (3, .ref (cw_a x.1 211)), (4, .ref (cw_a x.1 212)), (6, .int y19), (7, .int y20)]) dL_law_509 (Nat.le_of_ble_eq_true rfl) rfl ?_
      exact j_sub [2, 3, 4, 5, 6, 1, 7, 8, 0] rfl (jL_law_511 x n f65 (b65) H65 12 hq (ej_budw hu (by omega)) 0 y19 y20 0 s41)
    · refine j_aload_n 1 rfl dL_law_470 ?_
      refine j_aload_n 2 rfl dL_law_471 ?_
      refine j_aload_n 3 rfl dL_law_472 ?_
      refine j_aload 4 rfl dL_law_473 ?_
      refine j_callSi (kL_areWays x n s41) ls_L_203 ⟨Nat.le_of_ble_eq_true rfl, Nat.le_of_ble_eq_true rfl⟩ dL_law_475 rfl (Nat.le_of_ble_eq_true rfl) (fun r42 s43 => ?_)
      refine j_if_eq dL_law_478 ?_ ?_
      · refine j_iconst dL_law_505 ejc_0 ?_
        refine j_istore (i := 5) (L' := [(5, .int 0), (0, .ref (x.2.1)), (1, .ref (cw_a x.1 0)), (2, .ref (cw_a x.1 210)), (3, .ref (cw_a x.1 211)), (4, .ref (cw_a x.1 212)), (6, .int y19), (7, .int y20)]) dL_law_506 (Nat.le_of_ble_eq_true rfl) rfl ?_
        refine j_iconst dL_law_508 ejc_0 ?_
        refine j_istore (i := 9) (L' := [(9, .int 0), (5, .int 0), (0, .ref (x.2.1)), (1, .ref (cw_a x.1 0)), (2, .ref (cw_a x.1 210)), (3, .ref (cw_a x.1 211)), (4, .ref (cw_a x.1 212)), (6, .int y19), (7, .int y20)]) dL_law_509 (Nat.le_of_ble_eq_true rfl) rfl ?_
        exact j_sub [2, 3, 4, 5, 6, 1, 7, 8, 0] rfl (jL_law_511 x n f65 (b65) H65 12 hq (ej_budw hu (by omega)) 0 y19 y20 0 s43)
      · refine j_aload_n 1 rfl dL_law_481 ?_
        refine j_aload_n 2 rfl dL_law_482 ?_
        refine j_aload_n 3 rfl dL_law_483 ?_
        refine j_aload 4 rfl dL_law_484 ?_
        refine j_callSi (kL_areBacks x n s43) ls_L_207 ⟨Nat.le_of_ble_eq_true rfl, Nat.le_of_ble_eq_true rfl⟩ dL_law_486 rfl (Nat.le_of_ble_eq_true rfl) (fun r44 s45 => ?_)
        refine j_if_eq dL_law_489 ?_ ?_
        · refine j_iconst dL_law_505 ejc_0 ?_
          refine j_istore (i := 5) (L' := [(5, .int 0), (0, .ref (x.2.1)), (1, .ref (cw_a x.1 0)), (2, .ref (cw_a x.1 210)), (3, .ref (cw_a x.1 211)), (4, .ref (cw_a x.1 212)), (6, .int y19), (7, .int y20)]) dL_law_506 (Nat.le_of_ble_eq_true rfl) rfl ?_
          refine j_iconst dL_law_508 ejc_0 ?_
          refine j_istore (i := 9) (L' := [(9, .int 0), (5, .int 0), (0, .ref (x.2.1)), (1, .ref (cw_a x.1 0)), (2, .ref (cw_a x.1 210)), (3, .ref (cw_a x.1 211)), (4, .ref (cw_a x.1 212)), (6, .int y19), (7, .int y20)]) dL_law_509 (Nat.le_of_ble_eq_true rfl) rfl ?_
          exact j_sub [2, 3, 4, 5, 6, 1, 7, 8, 0] rfl (jL_law_511 x n f65 (b65) H65 12 hq (ej_budw hu (by omega)) 0 y19 y20 0 s45)
        · refine j_aload_n 1 rfl dL_law_492 ?_
          refine j_iload 7 rfl dL_law_493 ?_
          refine jb_callSi (c := 54) (kL_isSum x n y20 s45) ls_L_210 ⟨Nat.le_of_ble_eq_true rfl, Nat.le_of_ble_eq_true rfl⟩ dL_law_495 rfl (Nat.le_of_ble_eq_true rfl) hu (by omega) (fun r46 s47 => ?_)
          refine j_if_eq dL_law_498 ?_ ?_
          · refine j_iconst dL_law_505 ejc_0 ?_
            refine j_istore (i := 5) (L' := [(5, .int 0), (0, .ref (x.2.1)), (1, .ref (cw_a x.1 0)), (2, .ref (cw_a x.1 210)), (3, .ref (cw_a x.1 211)), (4, .ref (cw_a x.1 212)), (6, .int y19), (7, .int y20)]) dL_law_506 (Nat.le_of_ble_eq_true rfl) rfl ?_
            refine j_iconst dL_law_508 ejc_0 ?_
            refine j_istore (i := 9) (L' := [(9, .int 0), (5, .int 0), (0, .ref (x.2.1)), (1, .ref (cw_a x.1 0)), (2, .ref (cw_a x.1 210)), (3, .ref (cw_a x.1 211)), (4, .ref (cw_a x.1 212)), (6, .int y19), (7, .int y20)]) dL_law_509 (Nat.le_of_ble_eq_true rfl) rfl ?_
            exact j_sub [2, 3, 4, 5, 6, 1, 7, 8, 0] rfl (jL_law_511 x n f65 (b65) H65 12 (ej_finLu _ _ hq) (ej_budw (ej_budu 54 hu (by omega)) (by omega)) 0 y19 y20 0 s47)
          · refine j_iconst dL_law_501 ejc_1 ?_
            refine j_goto dL_law_502 ?_
            refine j_istore (i := 5) (L' := [(5, .int 1), (0, .ref (x.2.1)), (1, .ref (cw_a x.1 0)), (2, .ref (cw_a x.1 210)), (3, .ref (cw_a x.1 211)), (4, .ref (cw_a x.1 212)), (6, .int y19), (7, .int y20)]) dL_law_506 (Nat.le_of_ble_eq_true rfl) rfl ?_
            refine j_iconst dL_law_508 ejc_0 ?_
            refine j_istore (i := 9) (L' := [(9, .int 0), (5, .int 1), (0, .ref (x.2.1)), (1, .ref (cw_a x.1 0)), (2, .ref (cw_a x.1 210)), (3, .ref (cw_a x.1 211)), (4, .ref (cw_a x.1 212)), (6, .int y19), (7, .int y20)]) dL_law_509 (Nat.le_of_ble_eq_true rfl) rfl ?_
            exact j_sub [2, 3, 4, 5, 6, 1, 7, 8, 0] rfl (jL_law_511 x n f65 (b65) H65 12 (ej_finLu _ _ hq) (ej_budw (ej_budu 54 hu (by omega)) (by omega)) 1 y19 y20 0 s47)
noncomputable def mL_law_394 (n : Nat) (N : Nat) (xs : Nat → Int32) (f65 : Int32 → Int32 → lw_S → Option (Int32)) (y13 : Int32) (y14 : Int32) (y15 : Int32) (σ : lw_S) : Option (Int32) := ej_ck 3 4 (ej_nm ((σ.1, uA σ.2 2 ((3 : Int32).toNatClampNeg) ((y15 / 16) - (y15 / 16) / 10 * 10)) : lw_S) fun s16 => ej_ck 3 4 (ej_bv (mL_says n (97 + (gA s16.2 2 (3 : Int32).toNatClampNeg)) s16) fun s17 => (if y13 = 0 then (mL_law_449 n N xs f65 0 y14 y15 s17) else ej_bi (mL_act n 4 0 0 s17) fun r48 s49 => ej_ck 3 4 (ej_bi (mL_node n (gA s49.2 2 (3 : Int32).toNatClampNeg) s49) fun r50 s51 => (if r48 = r50 then (mL_law_449 n N xs f65 1 y14 y15 s51) else (mL_law_449 n N xs f65 0 y14 y15 s51))))))
set_option maxRecDepth 20000 in
set_option maxHeartbeats 2000000 in
theorem jL_law_394 (x : lw_T) (n : Nat) (f65 : Int32 → Int32 → lw_S → Option (Int32)) (b65 : Nat) (H65 : ∀ {F : ej_F} (hq : ej_finL x F) (hu : ej_bud F b65) (y4 : Int32) (y5 : Int32) (σ : lw_S), ej_J (lV x) F iL_law (1 : Int32) σ 65 [(0, .ref (x.2.1)), (1, .ref (cw_a x.1 0)), (2, .ref (cw_a x.1 210)), (3, .ref (cw_a x.1 211)), (4, .ref (cw_a x.1 212)), (5, .int y4), (6, .int y5)] [] (f65 y4 y5 σ)) {F : ej_F} (hq : ej_finL x F) (hu : ej_bud F (210 + b65)) (y13 : Int32) (y14 : Int32) (y15 : Int32) (σ : lw_S) : ej_J (lV x) F iL_law (1 : Int32) σ 394 [(0, .ref (x.2.1)), (1, .ref (cw_a x.1 0)), (2, .ref (cw_a x.1 210)), (3, .ref (cw_a x.1 211)), (4, .ref (cw_a x.1 212)), (5, .int y13), (6, .int y14), (7, .int y15)] [] (mL_law_394 n x.2.2.1 x.2.2.2 f65 y13 y14 y15 σ) := by
  unfold mL_law_394
  refine j_aload 4 rfl dL_law_394 ?_
  refine j_iconst dL_law_396 ejc_3 ?_
  refine j_iload 7 rfl dL_law_397 ?_
  refine j_bipush dL_law_399 ejb_16 ?_
  refine j_idiv0 (by decide) dL_law_401 ?_
  refine j_bipush dL_law_402 ejb_10 ?_
  refine j_irem0 (by decide) dL_law_404 ?_
  refine j_iast (lV_s_212 x σ ((3 : Int32).toNatClampNeg) ((y15 / 16) - (y15 / 16) / 10 * 10)) dL_law_405 (fun s16 => ?_)
  refine j_aload_n 1 rfl dL_law_406 ?_
  refine j_bipush dL_law_407 ejb_97 ?_
  refine j_aload 4 rfl dL_law_409 ?_
  refine j_iconst dL_law_411 ejc_3 ?_
  refine j_iald (lV_a_212 x s16) dL_law_412 ?_
  refine j_iadd dL_law_413 ?_
  refine jb_callSv (c := 1) (kL_says x n (97 + (gA s16.2 2 (3 : Int32).toNatClampNeg)) s16) ls_L_87 ⟨Nat.le_of_ble_eq_true rfl, Nat.le_of_ble_eq_true rfl⟩ dL_law_414 rfl (Nat.le_of_ble_eq_true rfl) hu (by omega) (fun s17 => ?_)
  refine j_iload 5 rfl dL_law_417 ?_
  refine j_if_eq dL_law_419 ?_ ?_
  · refine j_iconst dL_law_446 ejc_0 ?_
    refine j_istore (i := 5) (L' := [(5, .int 0), (0, .ref (x.2.1)), (1, .ref (cw_a x.1 0)), (2, .ref (cw_a x.1 210)), (3, .ref (cw_a x.1 211)), (4, .ref (cw_a x.1 212)), (6, .int y14), (7, .int y15)]) dL_law_447 (Nat.le_of_ble_eq_true rfl) rfl ?_
    exact j_sub [1, 2, 3, 4, 5, 0, 6, 7] rfl (jL_law_449 x n f65 (b65) H65 (ej_finLu _ _ hq) (ej_budw (ej_budu 1 hu (by omega)) (by omega)) 0 y14 y15 s17)
  · refine j_aload_n 1 rfl dL_law_422 ?_
    refine j_iconst dL_law_423 ejc_4 ?_
    refine j_lconst dL_law_424 ejl_0 ?_
    refine j_iconst dL_law_425 ejc_0 ?_
    refine jb_callXi (c := 1) (kL_act x n 4 0 0 s17) lx_L_80 ⟨Nat.le_of_ble_eq_true rfl, Nat.le_of_ble_eq_true rfl⟩ dL_law_426 rfl (Nat.le_of_ble_eq_true rfl) (ej_budu 1 hu (by omega)) (by omega) (fun r48 s49 => ?_)
    refine j_aload_n 3 rfl dL_law_429 ?_
    refine j_aload 4 rfl dL_law_430 ?_
    refine j_aload 4 rfl dL_law_432 ?_
    refine j_iconst dL_law_434 ejc_3 ?_
    refine j_iald (lV_a_212 x s49) dL_law_435 ?_
    refine j_callSi (kL_node x n (gA s49.2 2 (3 : Int32).toNatClampNeg) s49) ls_L_100 ⟨Nat.le_of_ble_eq_true rfl, Nat.le_of_ble_eq_true rfl⟩ dL_law_436 rfl (Nat.le_of_ble_eq_true rfl) (fun r50 s51 => ?_)
    refine j_icmp_ne dL_law_439 ?_ ?_
    · refine j_iconst dL_law_446 ejc_0 ?_
      refine j_istore (i := 5) (L' := [(5, .int 0), (0, .ref (x.2.1)), (1, .ref (cw_a x.1 0)), (2, .ref (cw_a x.1 210)), (3, .ref (cw_a x.1 211)), (4, .ref (cw_a x.1 212)), (6, .int y14), (7, .int y15)]) dL_law_447 (Nat.le_of_ble_eq_true rfl) rfl ?_
      exact j_sub [1, 2, 3, 4, 5, 0, 6, 7] rfl (jL_law_449 x n f65 (b65) H65 (ej_finLu _ _ (ej_finLu _ _ hq)) (ej_budw (ej_budu 1 (ej_budu 1 hu (by omega)) (by omega)) (by omega)) 0 y14 y15 s51)
    · refine j_iconst dL_law_442 ejc_1 ?_
      refine j_goto dL_law_443 ?_
      refine j_istore (i := 5) (L' := [(5, .int 1), (0, .ref (x.2.1)), (1, .ref (cw_a x.1 0)), (2, .ref (cw_a x.1 210)), (3, .ref (cw_a x.1 211)), (4, .ref (cw_a x.1 212)), (6, .int y14), (7, .int y15)]) dL_law_447 (Nat.le_of_ble_eq_true rfl) rfl ?_
      exact j_sub [1, 2, 3, 4, 5, 0, 6, 7] rfl (jL_law_449 x n f65 (b65) H65 (ej_finLu _ _ (ej_finLu _ _ hq)) (ej_budw (ej_budu 1 (ej_budu 1 hu (by omega)) (by omega)) (by omega)) 1 y14 y15 s51)
noncomputable def mL_law_370 (n : Nat) (N : Nat) (xs : Nat → Int32) (f65 : Int32 → Int32 → lw_S → Option (Int32)) (y9 : Int32) (y10 : Int32) (y11 : Int32) (σ : lw_S) : Option (Int32) := ej_bv (mL_reads n σ) fun s12 => (if y11 - y11 / 8 * 8 = 7 then (mL_law_394 n N xs f65 y9 y10 y11 s12) else ej_ck 3 4 ((if 0 ≤ gA s12.2 2 (3 : Int32).toNatClampNeg then (mL_law_449 n N xs f65 y9 y10 y11 s12) else (mL_law_394 n N xs f65 y9 y10 y11 s12))))
set_option maxRecDepth 20000 in
set_option maxHeartbeats 2000000 in
theorem jL_law_370 (x : lw_T) (n : Nat) (f65 : Int32 → Int32 → lw_S → Option (Int32)) (b65 : Nat) (H65 : ∀ {F : ej_F} (hq : ej_finL x F) (hu : ej_bud F b65) (y4 : Int32) (y5 : Int32) (σ : lw_S), ej_J (lV x) F iL_law (1 : Int32) σ 65 [(0, .ref (x.2.1)), (1, .ref (cw_a x.1 0)), (2, .ref (cw_a x.1 210)), (3, .ref (cw_a x.1 211)), (4, .ref (cw_a x.1 212)), (5, .int y4), (6, .int y5)] [] (f65 y4 y5 σ)) {F : ej_F} (hq : ej_finL x F) (hu : ej_bud F (210 + b65)) (y9 : Int32) (y10 : Int32) (y11 : Int32) (σ : lw_S) : ej_J (lV x) F iL_law (1 : Int32) σ 370 [(0, .ref (x.2.1)), (1, .ref (cw_a x.1 0)), (2, .ref (cw_a x.1 210)), (3, .ref (cw_a x.1 211)), (4, .ref (cw_a x.1 212)), (5, .int y9), (6, .int y10), (7, .int y11)] [] (mL_law_370 n x.2.2.1 x.2.2.2 f65 y9 y10 y11 σ) := by
  unfold mL_law_370
  refine j_aload_n 2 rfl dL_law_370 ?_
  refine j_aload_n 3 rfl dL_law_371 ?_
  refine j_aload 4 rfl dL_law_372 ?_
  refine j_callSv (kL_reads x n σ) ls_L_195 ⟨Nat.le_of_ble_eq_true rfl, Nat.le_of_ble_eq_true rfl⟩ dL_law_374 rfl (Nat.le_of_ble_eq_true rfl) (fun s12 => ?_)
  refine j_iload 7 rfl dL_law_377 ?_
  refine j_bipush dL_law_379 ejb_8 ?_
  refine j_irem0 (by decide) dL_law_381 ?_
  refine j_bipush dL_law_382 ejb_7 ?_
  refine j_icmp_eq dL_law_384 ?_ ?_
  · exact j_sub [0, 1, 2, 3, 4, 5, 6, 7] rfl (jL_law_394 x n f65 (b65) H65 hq (ej_budw hu (by omega)) y9 y10 y11 s12)
  · refine j_aload 4 rfl dL_law_387 ?_
    refine j_iconst dL_law_389 ejc_3 ?_
    refine j_iald (lV_a_212 x s12) dL_law_390 ?_
    refine j_if_ge dL_law_391 ?_ ?_
    · exact j_sub [0, 1, 2, 3, 4, 5, 6, 7] rfl (jL_law_449 x n f65 (b65) H65 hq (ej_budw hu (by omega)) y9 y10 y11 s12)
    · exact j_sub [0, 1, 2, 3, 4, 5, 6, 7] rfl (jL_law_394 x n f65 (b65) H65 hq (ej_budw hu (by omega)) y9 y10 y11 s12)
noncomputable def mL_law_280 (n : Nat) (N : Nat) (xs : Nat → Int32) (f123 : Int32 → Int32 → Int32 → Int32 → lw_S → Option (Int32)) (y78 : Int32) (y79 : Int32) (y80 : Int32) (y81 : Int32) (y82 : Int32) (y83 : Int32) (y84 : Int32) (y85 : Int32) (σ : lw_S) : Option (Int32) := ej_dv y83 (ej_ck y85 60 (ej_nm ((σ.1, uA σ.2 0 (y85.toNatClampNeg) (y84 - y84 / y83 * y83)) : lw_S) fun s86 => ej_bv (mL_saysStatement n y82 s86) fun s87 => ej_bv (mL_says n 59 s87) fun s88 => ej_nm (y81 + 1) fun x89 => (f123 y78 y79 y80 x89 s88)))
set_option maxRecDepth 20000 in
set_option maxHeartbeats 2000000 in
theorem jL_law_280 (x : lw_T) (n : Nat) (f123 : Int32 → Int32 → Int32 → Int32 → lw_S → Option (Int32)) (b123 : Nat) (H123 : ∀ {F : ej_F} (hq : ej_finL x F) (hu : ej_bud F b123) (y57 : Int32) (y58 : Int32) (y59 : Int32) (y60 : Int32) (σ : lw_S), ej_J (lV x) F iL_law (1 : Int32) σ 123 [(0, .ref (x.2.1)), (1, .ref (cw_a x.1 0)), (2, .ref (cw_a x.1 210)), (3, .ref (cw_a x.1 211)), (4, .ref (cw_a x.1 212)), (6, .int y57), (7, .int y58), (8, .int y59), (9, .int y60)] [] (f123 y57 y58 y59 y60 σ)) {F : ej_F} (hq : ej_finL x F) (hu : ej_bud F (19 + b123)) (y78 : Int32) (y79 : Int32) (y80 : Int32) (y81 : Int32) (y82 : Int32) (y83 : Int32) (y84 : Int32) (y85 : Int32) (σ : lw_S) : ej_J (lV x) F iL_law (1 : Int32) σ 280 [(0, .ref (x.2.1)), (1, .ref (cw_a x.1 0)), (2, .ref (cw_a x.1 210)), (3, .ref (cw_a x.1 211)), (4, .ref (cw_a x.1 212)), (6, .int y78), (7, .int y79), (8, .int y80), (9, .int y81), (11, .int y82)] [.int y83, .int y84, .int y85, .ref (cw_a x.1 210)] (mL_law_280 n x.2.2.1 x.2.2.2 f123 y78 y79 y80 y81 y82 y83 y84 y85 σ) := by
  unfold mL_law_280
  refine j_irem dL_law_280 ?_
  refine j_iast (lV_s_210 x σ (y85.toNatClampNeg) (y84 - y84 / y83 * y83)) dL_law_281 (fun s86 => ?_)
  refine j_aload_n 1 rfl dL_law_282 ?_
  refine j_aload_n 2 rfl dL_law_283 ?_
  refine j_iload 9 rfl dL_law_284 ?_
  refine jb_callSv (c := 18) (kL_saysStatement x n y82 s86) ls_L_191 ⟨Nat.le_of_ble_eq_true rfl, Nat.le_of_ble_eq_true rfl⟩ dL_law_286 rfl (Nat.le_of_ble_eq_true rfl) hu (by omega) (fun s87 => ?_)
  refine j_aload_n 1 rfl dL_law_289 ?_
  refine j_bipush dL_law_290 ejb_59 ?_
  refine jb_callSv (c := 1) (kL_says x n 59 s87) ls_L_87 ⟨Nat.le_of_ble_eq_true rfl, Nat.le_of_ble_eq_true rfl⟩ dL_law_292 rfl (Nat.le_of_ble_eq_true rfl) (ej_budu 18 hu (by omega)) (by omega) (fun s88 => ?_)
  refine j_iinc (i := 9) (v := 1) (Ly := fun x89 => [(9, .int x89), (0, .ref (x.2.1)), (1, .ref (cw_a x.1 0)), (2, .ref (cw_a x.1 210)), (3, .ref (cw_a x.1 211)), (4, .ref (cw_a x.1 212)), (6, .int y78), (7, .int y79), (8, .int y80), (11, .int y82)]) 8 dL_law_295 rfl ejc_1 (Nat.le_of_ble_eq_true rfl) (fun _ => rfl) (fun x89 => ?_)
  refine j_goto dL_law_298 ?_
  exact j_sub [1, 2, 3, 4, 5, 6, 7, 8, 0] rfl (H123 (ej_finLu _ _ (ej_finLu _ _ hq)) (ej_budw (ej_budu 1 (ej_budu 18 hu (by omega)) (by omega)) (by omega)) y78 y79 y80 x89 s88)
noncomputable def mL_law_211 (n : Nat) (N : Nat) (xs : Nat → Int32) (f123 : Int32 → Int32 → Int32 → Int32 → lw_S → Option (Int32)) (y66 : Int32) (y67 : Int32) (y68 : Int32) (y69 : Int32) (y70 : Int32) (y71 : Int32) (y72 : Int32) (y73 : Int32) (σ : lw_S) : Option (Int32) := ej_ck y73 60 (ej_nm ((σ.1, uA σ.2 0 (y73.toNatClampNeg) y72) : lw_S) fun s74 => ej_ck (y71 + 1) 60 (ej_nm ((s74.1, uA s74.2 0 ((y71 + 1).toNatClampNeg) ((y70 / 8) - (y70 / 8) / 10 * 10)) : lw_S) fun s75 => ej_ck (y71 + 2) 60 (ej_nm ((s75.1, uA s75.2 0 ((y71 + 2).toNatClampNeg) ((y70 / 80) - (y70 / 80) / 10 * 10)) : lw_S) fun s76 => ej_ck (y71 + 3) 60 (ej_nm ((s76.1, uA s76.2 0 ((y71 + 3).toNatClampNeg) ((y70 / 800) - (y70 / 800) / 10 * 10)) : lw_S) fun s77 => (if y70 - y70 / 3 * 3 = 0 then (mL_law_280 n N xs f123 y66 y67 y68 y69 y71 100000 (y70 / 8000) (y71 + 4) s77) else (mL_law_280 n N xs f123 y66 y67 y68 y69 y71 30 (y70 / 8000) (y71 + 4) s77))))))
set_option maxRecDepth 20000 in
set_option maxHeartbeats 2000000 in
theorem jL_law_211 (x : lw_T) (n : Nat) (f123 : Int32 → Int32 → Int32 → Int32 → lw_S → Option (Int32)) (b123 : Nat) (H123 : ∀ {F : ej_F} (hq : ej_finL x F) (hu : ej_bud F b123) (y57 : Int32) (y58 : Int32) (y59 : Int32) (y60 : Int32) (σ : lw_S), ej_J (lV x) F iL_law (1 : Int32) σ 123 [(0, .ref (x.2.1)), (1, .ref (cw_a x.1 0)), (2, .ref (cw_a x.1 210)), (3, .ref (cw_a x.1 211)), (4, .ref (cw_a x.1 212)), (6, .int y57), (7, .int y58), (8, .int y59), (9, .int y60)] [] (f123 y57 y58 y59 y60 σ)) {F : ej_F} (hq : ej_finL x F) (hu : ej_bud F (19 + b123)) (y66 : Int32) (y67 : Int32) (y68 : Int32) (y69 : Int32) (y70 : Int32) (y71 : Int32) (y72 : Int32) (y73 : Int32) (σ : lw_S) : ej_J (lV x) F iL_law (1 : Int32) σ 211 [(0, .ref (x.2.1)), (1, .ref (cw_a x.1 0)), (2, .ref (cw_a x.1 210)), (3, .ref (cw_a x.1 211)), (4, .ref (cw_a x.1 212)), (6, .int y66), (7, .int y67), (8, .int y68), (9, .int y69), (10, .int y70), (11, .int y71)] [.int y72, .int y73, .ref (cw_a x.1 210)] (mL_law_211 n x.2.2.1 x.2.2.2 f123 y66 y67 y68 y69 y70 y71 y72 y73 σ) := by
  unfold mL_law_211
  refine j_iast (lV_s_210 x σ (y73.toNatClampNeg) y72) dL_law_211 (fun s74 => ?_)
  refine j_aload_n 2 rfl dL_law_212 ?_
  refine j_iload 10 rfl dL_law_213 ?_
  refine j_iconst dL_law_215 ejc_1 ?_
  refine j_iadd dL_law_216 ?_
  refine j_iload 9 rfl dL_law_217 ?_
  refine j_bipush dL_law_219 ejb_8 ?_
  refine j_idiv0 (by decide) dL_law_221 ?_
  refine j_bipush dL_law_222 ejb_10 ?_
  refine j_irem0 (by decide) dL_law_224 ?_
  refine j_iast (lV_s_210 x s74 ((y71 + 1).toNatClampNeg) ((y70 / 8) - (y70 / 8) / 10 * 10)) dL_law_225 (fun s75 => ?_)
  refine j_aload_n 2 rfl dL_law_226 ?_
  refine j_iload 10 rfl dL_law_227 ?_
  refine j_iconst dL_law_229 ejc_2 ?_
  refine j_iadd dL_law_230 ?_
  refine j_iload 9 rfl dL_law_231 ?_
  refine j_bipush dL_law_233 ejb_80 ?_
  refine j_idiv0 (by decide) dL_law_235 ?_
  refine j_bipush dL_law_236 ejb_10 ?_
  refine j_irem0 (by decide) dL_law_238 ?_
  refine j_iast (lV_s_210 x s75 ((y71 + 2).toNatClampNeg) ((y70 / 80) - (y70 / 80) / 10 * 10)) dL_law_239 (fun s76 => ?_)
  refine j_aload_n 2 rfl dL_law_240 ?_
  refine j_iload 10 rfl dL_law_241 ?_
  refine j_iconst dL_law_243 ejc_3 ?_
  refine j_iadd dL_law_244 ?_
  refine j_iload 9 rfl dL_law_245 ?_
  refine j_sipush dL_law_247 ejs_800 ?_
  refine j_idiv0 (by decide) dL_law_250 ?_
  refine j_bipush dL_law_251 ejb_10 ?_
  refine j_irem0 (by decide) dL_law_253 ?_
  refine j_iast (lV_s_210 x s76 ((y71 + 3).toNatClampNeg) ((y70 / 800) - (y70 / 800) / 10 * 10)) dL_law_254 (fun s77 => ?_)
  refine j_aload_n 2 rfl dL_law_255 ?_
  refine j_iload 10 rfl dL_law_256 ?_
  refine j_iconst dL_law_258 ejc_4 ?_
  refine j_iadd dL_law_259 ?_
  refine j_iload 9 rfl dL_law_260 ?_
  refine j_sipush dL_law_262 ejs_8000 ?_
  refine j_idiv0 (by decide) dL_law_265 ?_
  refine j_iload 9 rfl dL_law_266 ?_
  refine j_iconst dL_law_268 ejc_3 ?_
  refine j_irem0 (by decide) dL_law_269 ?_
  refine j_if_ne dL_law_270 ?_ ?_
  · refine j_bipush dL_law_278 ejb_30 ?_
    exact j_sub [0, 1, 2, 3, 4, 5, 6, 7, 8, 10] rfl (jL_law_280 x n f123 (b123) H123 hq (ej_budw hu (by omega)) y66 y67 y68 y69 y71 30 (y70 / 8000) (y71 + 4) s77)
  · refine j_ldc dL_law_273 ki_L_86 ?_
    refine j_goto dL_law_275 ?_
    exact j_sub [0, 1, 2, 3, 4, 5, 6, 7, 8, 10] rfl (jL_law_280 x n f123 (b123) H123 hq (ej_budw hu (by omega)) y66 y67 y68 y69 y71 100000 (y70 / 8000) (y71 + 4) s77)
noncomputable def mL_law_123 (n : Nat) (N : Nat) (xs : Nat → Int32) (f65 : Int32 → Int32 → lw_S → Option (Int32)) (k : Nat) : Int32 → Int32 → Int32 → Int32 → lw_S → Option (Int32) := Nat.rec (motive := fun _ => Int32 → Int32 → Int32 → Int32 → lw_S → Option (Int32)) (fun _ _ _ _ _ => none) (fun _ ih y57 y58 y59 y60 σ => ej_ck y59 4 ((if gA σ.2 2 y59.toNatClampNeg ≤ y60 then ej_bi (mL_act n 1 0 (2 * y59) σ) fun r61 s62 => ej_ck y59 4 ((if r61 = gA s62.2 2 y59.toNatClampNeg then (mL_law_370 n N xs f65 1 y57 y58 s62) else (mL_law_370 n N xs f65 0 y57 y58 s62))) else ej_bi (mL_dice n N xs (((9 * y57) + 1) + y60) σ) fun r63 s64 => ej_nm (5 * ((6 * y59) + y60)) fun x65 => (if 4 ≤ r63 - r63 / 8 * 8 then (if 5 ≤ r63 - r63 / 8 * 8 then (if 6 ≤ r63 - r63 / 8 * 8 then (mL_law_211 n N xs ih y57 y58 y59 y60 r63 x65 ((r63 - r63 / 8 * 8) - 3) x65 s64) else (mL_law_211 n N xs ih y57 y58 y59 y60 r63 x65 2 x65 s64)) else (mL_law_211 n N xs ih y57 y58 y59 y60 r63 x65 1 x65 s64)) else (mL_law_211 n N xs ih y57 y58 y59 y60 r63 x65 0 x65 s64))))) k
theorem mL_law_123_s (n : Nat) (N : Nat) (xs : Nat → Int32) (f65 : Int32 → Int32 → lw_S → Option (Int32)) (k : Nat) (y57 : Int32) (y58 : Int32) (y59 : Int32) (y60 : Int32) (σ : lw_S) : mL_law_123 n N xs f65 (k + 1) y57 y58 y59 y60 σ = (ej_ck y59 4 ((if gA σ.2 2 y59.toNatClampNeg ≤ y60 then ej_bi (mL_act n 1 0 (2 * y59) σ) fun r61 s62 => ej_ck y59 4 ((if r61 = gA s62.2 2 y59.toNatClampNeg then (mL_law_370 n N xs f65 1 y57 y58 s62) else (mL_law_370 n N xs f65 0 y57 y58 s62))) else ej_bi (mL_dice n N xs (((9 * y57) + 1) + y60) σ) fun r63 s64 => ej_nm (5 * ((6 * y59) + y60)) fun x65 => (if 4 ≤ r63 - r63 / 8 * 8 then (if 5 ≤ r63 - r63 / 8 * 8 then (if 6 ≤ r63 - r63 / 8 * 8 then (mL_law_211 n N xs (mL_law_123 n N xs f65 k) y57 y58 y59 y60 r63 x65 ((r63 - r63 / 8 * 8) - 3) x65 s64) else (mL_law_211 n N xs (mL_law_123 n N xs f65 k) y57 y58 y59 y60 r63 x65 2 x65 s64)) else (mL_law_211 n N xs (mL_law_123 n N xs f65 k) y57 y58 y59 y60 r63 x65 1 x65 s64)) else (mL_law_211 n N xs (mL_law_123 n N xs f65 k) y57 y58 y59 y60 r63 x65 0 x65 s64)))) : Option (Int32)) := rfl
set_option maxRecDepth 20000 in
set_option maxHeartbeats 2000000 in
theorem jL_law_123 (x : lw_T) (n : Nat) (f65 : Int32 → Int32 → lw_S → Option (Int32)) (b65 : Nat) (H65 : ∀ {F : ej_F} (hq : ej_finL x F) (hu : ej_bud F b65) (y4 : Int32) (y5 : Int32) (σ : lw_S), ej_J (lV x) F iL_law (1 : Int32) σ 65 [(0, .ref (x.2.1)), (1, .ref (cw_a x.1 0)), (2, .ref (cw_a x.1 210)), (3, .ref (cw_a x.1 211)), (4, .ref (cw_a x.1 212)), (5, .int y4), (6, .int y5)] [] (f65 y4 y5 σ)) : ∀ (k : Nat) {F : ej_F} (hq : ej_finL x F) (hu : ej_bud F (211 + 19 * k + b65)) (y57 : Int32) (y58 : Int32) (y59 : Int32) (y60 : Int32) (σ : lw_S), ej_J (lV x) F iL_law (1 : Int32) σ 123 [(0, .ref (x.2.1)), (1, .ref (cw_a x.1 0)), (2, .ref (cw_a x.1 210)), (3, .ref (cw_a x.1 211)), (4, .ref (cw_a x.1 212)), (6, .int y57), (7, .int y58), (8, .int y59), (9, .int y60)] [] (mL_law_123 n x.2.2.1 x.2.2.2 f65 k y57 y58 y59 y60 σ) := by
  intro k
  induction k with
  | zero => intro F hq hu y57 y58 y59 y60 σ; exact j_none
  | succ k ih =>
    intro F hq hu y57 y58 y59 y60 σ
    rw [mL_law_123_s]
    refine j_iload 8 rfl dL_law_123 ?_
    refine j_aload 4 rfl dL_law_125 ?_
    refine j_iload 7 rfl dL_law_127 ?_
    refine j_iald (lV_a_212 x σ) dL_law_129 ?_
    refine j_icmp_ge dL_law_130 ?_ ?_
    · refine j_aload_n 1 rfl dL_law_301 ?_
      refine j_iconst dL_law_302 ejc_1 ?_
      refine j_lconst dL_law_303 ejl_0 ?_
      refine j_iconst dL_law_304 ejc_2 ?_
      refine j_iload 7 rfl dL_law_305 ?_
      refine j_imul dL_law_307 ?_
      refine jb_callXi (c := 1) (kL_act x n 1 0 (2 * y59) σ) lx_L_80 ⟨Nat.le_of_ble_eq_true rfl, Nat.le_of_ble_eq_true rfl⟩ dL_law_308 rfl (Nat.le_of_ble_eq_true rfl) hu (by omega) (fun r61 s62 => ?_)
      refine j_aload 4 rfl dL_law_311 ?_
      refine j_iload 7 rfl dL_law_313 ?_
      refine j_iald (lV_a_212 x s62) dL_law_315 ?_
      refine j_icmp_ne dL_law_316 ?_ ?_
      · refine j_iconst dL_law_323 ejc_0 ?_
        refine j_istore (i := 5) (L' := [(5, .int 0), (0, .ref (x.2.1)), (1, .ref (cw_a x.1 0)), (2, .ref (cw_a x.1 210)), (3, .ref (cw_a x.1 211)), (4, .ref (cw_a x.1 212)), (6, .int y57), (7, .int y58), (8, .int y59), (9, .int y60)]) dL_law_324 (Nat.le_of_ble_eq_true rfl) rfl ?_
        refine j_goto dL_law_326 ?_
        exact j_sub [1, 2, 3, 4, 5, 0, 6, 7] rfl (jL_law_370 x n f65 (b65) H65 (ej_finLu _ _ hq) (ej_budw (ej_budu 1 hu (by omega)) (by omega)) 0 y57 y58 s62)
      · refine j_iconst dL_law_319 ejc_1 ?_
        refine j_goto dL_law_320 ?_
        refine j_istore (i := 5) (L' := [(5, .int 1), (0, .ref (x.2.1)), (1, .ref (cw_a x.1 0)), (2, .ref (cw_a x.1 210)), (3, .ref (cw_a x.1 211)), (4, .ref (cw_a x.1 212)), (6, .int y57), (7, .int y58), (8, .int y59), (9, .int y60)]) dL_law_324 (Nat.le_of_ble_eq_true rfl) rfl ?_
        refine j_goto dL_law_326 ?_
        exact j_sub [1, 2, 3, 4, 5, 0, 6, 7] rfl (jL_law_370 x n f65 (b65) H65 (ej_finLu _ _ hq) (ej_budw (ej_budu 1 hu (by omega)) (by omega)) 1 y57 y58 s62)
    · refine j_aload_n 0 rfl dL_law_133 ?_
      refine j_bipush dL_law_134 ejb_9 ?_
      refine j_iload 5 rfl dL_law_136 ?_
      refine j_imul dL_law_138 ?_
      refine j_iconst dL_law_139 ejc_1 ?_
      refine j_iadd dL_law_140 ?_
      refine j_iload 8 rfl dL_law_141 ?_
      refine j_iadd dL_law_143 ?_
      refine j_callSi (kL_dice x n (((9 * y57) + 1) + y60) σ) ls_L_187 ⟨Nat.le_of_ble_eq_true rfl, Nat.le_of_ble_eq_true rfl⟩ dL_law_144 rfl (Nat.le_of_ble_eq_true rfl) (fun r63 s64 => ?_)
      refine j_istore (i := 10) (L' := [(10, .int r63), (0, .ref (x.2.1)), (1, .ref (cw_a x.1 0)), (2, .ref (cw_a x.1 210)), (3, .ref (cw_a x.1 211)), (4, .ref (cw_a x.1 212)), (6, .int y57), (7, .int y58), (8, .int y59), (9, .int y60)]) dL_law_147 (Nat.le_of_ble_eq_true rfl) rfl ?_
      refine j_iconst dL_law_149 ejc_5 ?_
      refine j_bipush dL_law_150 ejb_6 ?_
      refine j_iload 8 rfl dL_law_152 ?_
      refine j_imul dL_law_154 ?_
      refine j_iload 9 rfl dL_law_155 ?_
      refine j_iadd dL_law_157 ?_
      refine j_imul dL_law_158 ?_
      refine j_nmi (fun x65 => ?_)
      refine j_istore (i := 11) (L' := [(11, .int x65), (10, .int r63), (0, .ref (x.2.1)), (1, .ref (cw_a x.1 0)), (2, .ref (cw_a x.1 210)), (3, .ref (cw_a x.1 211)), (4, .ref (cw_a x.1 212)), (6, .int y57), (7, .int y58), (8, .int y59), (9, .int y60)]) dL_law_159 (Nat.le_of_ble_eq_true rfl) rfl ?_
      refine j_aload_n 4 rfl dL_law_161 ?_
      refine j_iload 0 rfl dL_law_162 ?_
      refine j_iload 1 rfl dL_law_164 ?_
      refine j_bipush dL_law_166 ejb_8 ?_
      refine j_irem0 (by decide) dL_law_168 ?_
      refine j_iconst dL_law_169 ejc_4 ?_
      refine j_icmp_ge dL_law_170 ?_ ?_
      · refine j_iload 1 rfl dL_law_177 ?_
        refine j_bipush dL_law_179 ejb_8 ?_
        refine j_irem0 (by decide) dL_law_181 ?_
        refine j_iconst dL_law_182 ejc_5 ?_
        refine j_icmp_ge dL_law_183 ?_ ?_
        · refine j_iload 1 rfl dL_law_190 ?_
          refine j_bipush dL_law_192 ejb_8 ?_
          refine j_irem0 (by decide) dL_law_194 ?_
          refine j_bipush dL_law_195 ejb_6 ?_
          refine j_icmp_ge dL_law_197 ?_ ?_
          · refine j_iload 1 rfl dL_law_204 ?_
            refine j_bipush dL_law_206 ejb_8 ?_
            refine j_irem0 (by decide) dL_law_208 ?_
            refine j_iconst dL_law_209 ejc_3 ?_
            refine j_isub dL_law_210 ?_
            exact j_sub [2, 3, 4, 5, 6, 7, 8, 9, 10, 1, 0] rfl (jL_law_211 x n (mL_law_123 n x.2.2.1 x.2.2.2 f65 k) (211 + 19 * k + b65) ih hq (ej_budw hu (by omega)) y57 y58 y59 y60 r63 x65 ((r63 - r63 / 8 * 8) - 3) x65 s64)
          · refine j_iconst dL_law_200 ejc_2 ?_
            refine j_goto dL_law_201 ?_
            exact j_sub [2, 3, 4, 5, 6, 7, 8, 9, 10, 1, 0] rfl (jL_law_211 x n (mL_law_123 n x.2.2.1 x.2.2.2 f65 k) (211 + 19 * k + b65) ih hq (ej_budw hu (by omega)) y57 y58 y59 y60 r63 x65 2 x65 s64)
        · refine j_iconst dL_law_186 ejc_1 ?_
          refine j_goto dL_law_187 ?_
          exact j_sub [2, 3, 4, 5, 6, 7, 8, 9, 10, 1, 0] rfl (jL_law_211 x n (mL_law_123 n x.2.2.1 x.2.2.2 f65 k) (211 + 19 * k + b65) ih hq (ej_budw hu (by omega)) y57 y58 y59 y60 r63 x65 1 x65 s64)
      · refine j_iconst dL_law_173 ejc_0 ?_
        refine j_goto dL_law_174 ?_
        exact j_sub [2, 3, 4, 5, 6, 7, 8, 9, 10, 1, 0] rfl (jL_law_211 x n (mL_law_123 n x.2.2.1 x.2.2.2 f65 k) (211 + 19 * k + b65) ih hq (ej_budw hu (by omega)) y57 y58 y59 y60 r63 x65 0 x65 s64)
noncomputable def mL_law_65 (n : Nat) (N : Nat) (xs : Nat → Int32) (k : Nat) : Int32 → Int32 → lw_S → Option (Int32) := Nat.rec (motive := fun _ => Int32 → Int32 → lw_S → Option (Int32)) (fun _ _ _ => none) (fun _ ih y4 y5 σ => (if 16 ≤ y5 then (if y4 = 1 then some 1 else none) else (if y4 = 0 then (if y4 = 1 then some 1 else none) else ej_bi (mL_dice n N xs (9 * y5) σ) fun r6 s7 => ej_nm ((r6 / 8) - (r6 / 8) / 2 * 2) fun x8 => (if 6 ≤ r6 - r6 / 8 * 8 then (if r6 - r6 / 8 * 8 = 6 then ej_bi (mL_act n 2 0 (2 * x8) s7) fun r52 s53 => ej_ck x8 4 ((if r52 = gA s53.2 2 x8.toNatClampNeg then ej_ck x8 4 (ej_nm ((s53.1, uA s53.2 2 (x8.toNatClampNeg) 0) : lw_S) fun s55 => (mL_law_370 n N xs ih 1 y5 r6 s55)) else ej_ck x8 4 (ej_nm ((s53.1, uA s53.2 2 (x8.toNatClampNeg) 0) : lw_S) fun s54 => (mL_law_370 n N xs ih 0 y5 r6 s54)))) else (mL_law_370 n N xs ih y4 y5 r6 s7)) else ej_ck x8 4 (ej_nm ((s7.1, uA s7.2 2 (x8.toNatClampNeg) ((r6 / 16) - (r6 / 16) / 7 * 7)) : lw_S) fun s56 => (mL_law_123 n N xs ih 8 y5 r6 x8 0 s56)))))) k
theorem mL_law_65_s (n : Nat) (N : Nat) (xs : Nat → Int32) (k : Nat) (y4 : Int32) (y5 : Int32) (σ : lw_S) : mL_law_65 n N xs (k + 1) y4 y5 σ = ((if 16 ≤ y5 then (if y4 = 1 then some 1 else none) else (if y4 = 0 then (if y4 = 1 then some 1 else none) else ej_bi (mL_dice n N xs (9 * y5) σ) fun r6 s7 => ej_nm ((r6 / 8) - (r6 / 8) / 2 * 2) fun x8 => (if 6 ≤ r6 - r6 / 8 * 8 then (if r6 - r6 / 8 * 8 = 6 then ej_bi (mL_act n 2 0 (2 * x8) s7) fun r52 s53 => ej_ck x8 4 ((if r52 = gA s53.2 2 x8.toNatClampNeg then ej_ck x8 4 (ej_nm ((s53.1, uA s53.2 2 (x8.toNatClampNeg) 0) : lw_S) fun s55 => (mL_law_370 n N xs (mL_law_65 n N xs k) 1 y5 r6 s55)) else ej_ck x8 4 (ej_nm ((s53.1, uA s53.2 2 (x8.toNatClampNeg) 0) : lw_S) fun s54 => (mL_law_370 n N xs (mL_law_65 n N xs k) 0 y5 r6 s54)))) else (mL_law_370 n N xs (mL_law_65 n N xs k) y4 y5 r6 s7)) else ej_ck x8 4 (ej_nm ((s7.1, uA s7.2 2 (x8.toNatClampNeg) ((r6 / 16) - (r6 / 16) / 7 * 7)) : lw_S) fun s56 => (mL_law_123 n N xs (mL_law_65 n N xs k) 8 y5 r6 x8 0 s56))))) : Option (Int32)) := rfl
set_option maxRecDepth 20000 in
set_option maxHeartbeats 2000000 in
theorem jL_law_65 (x : lw_T) (n : Nat) : ∀ (k : Nat) {F : ej_F} (hq : ej_finL x F) (hu : ej_bud F (0 + 363 * k)) (y4 : Int32) (y5 : Int32) (σ : lw_S), ej_J (lV x) F iL_law (1 : Int32) σ 65 [(0, .ref (x.2.1)), (1, .ref (cw_a x.1 0)), (2, .ref (cw_a x.1 210)), (3, .ref (cw_a x.1 211)), (4, .ref (cw_a x.1 212)), (5, .int y4), (6, .int y5)] [] (mL_law_65 n x.2.2.1 x.2.2.2 k y4 y5 σ) := by
  intro k
  induction k with
  | zero => intro F hq hu y4 y5 σ; exact j_none
  | succ k ih =>
    intro F hq hu y4 y5 σ
    rw [mL_law_65_s]
    refine j_iload 6 rfl dL_law_65 ?_
    refine j_bipush dL_law_67 ejb_16 ?_
    refine j_icmp_ge dL_law_69 ?_ ?_
    · refine j_iload 5 rfl dL_law_599 ?_
      exact jl_ret hq hu rfl dL_law_601
    · refine j_iload 5 rfl dL_law_72 ?_
      refine j_if_eq dL_law_74 ?_ ?_
      · refine j_iload 5 rfl dL_law_599 ?_
        exact jl_ret hq hu rfl dL_law_601
      · refine j_aload_n 0 rfl dL_law_77 ?_
        refine j_bipush dL_law_78 ejb_9 ?_
        refine j_iload 6 rfl dL_law_80 ?_
        refine j_imul dL_law_82 ?_
        refine j_callSi (kL_dice x n (9 * y5) σ) ls_L_187 ⟨Nat.le_of_ble_eq_true rfl, Nat.le_of_ble_eq_true rfl⟩ dL_law_83 rfl (Nat.le_of_ble_eq_true rfl) (fun r6 s7 => ?_)
        refine j_istore (i := 7) (L' := [(7, .int r6), (0, .ref (x.2.1)), (1, .ref (cw_a x.1 0)), (2, .ref (cw_a x.1 210)), (3, .ref (cw_a x.1 211)), (4, .ref (cw_a x.1 212)), (5, .int y4), (6, .int y5)]) dL_law_86 (Nat.le_of_ble_eq_true rfl) rfl ?_
        refine j_iload 0 rfl dL_law_88 ?_
        refine j_bipush dL_law_90 ejb_8 ?_
        refine j_idiv0 (by decide) dL_law_92 ?_
        refine j_iconst dL_law_93 ejc_2 ?_
        refine j_irem0 (by decide) dL_law_94 ?_
        refine j_nmi (fun x8 => ?_)
        refine j_istore (i := 8) (L' := [(8, .int x8), (7, .int r6), (0, .ref (x.2.1)), (1, .ref (cw_a x.1 0)), (2, .ref (cw_a x.1 210)), (3, .ref (cw_a x.1 211)), (4, .ref (cw_a x.1 212)), (5, .int y4), (6, .int y5)]) dL_law_95 (Nat.le_of_ble_eq_true rfl) rfl ?_
        refine j_iload 1 rfl dL_law_97 ?_
        refine j_bipush dL_law_99 ejb_8 ?_
        refine j_irem0 (by decide) dL_law_101 ?_
        refine j_bipush dL_law_102 ejb_6 ?_
        refine j_icmp_ge dL_law_104 ?_ ?_
        · refine j_iload 1 rfl dL_law_329 ?_
          refine j_bipush dL_law_331 ejb_8 ?_
          refine j_irem0 (by decide) dL_law_333 ?_
          refine j_bipush dL_law_334 ejb_6 ?_
          refine j_icmp_ne dL_law_336 ?_ ?_
          · exact j_sub [2, 3, 4, 5, 6, 7, 8, 1] rfl (jL_law_370 x n (mL_law_65 n x.2.2.1 x.2.2.2 k) (0 + 363 * k) ih hq (ej_budw hu (by omega)) y4 y5 r6 s7)
          · refine j_aload_n 3 rfl dL_law_339 ?_
            refine j_iconst dL_law_340 ejc_2 ?_
            refine j_lconst dL_law_341 ejl_0 ?_
            refine j_iconst dL_law_342 ejc_2 ?_
            refine j_iload 0 rfl dL_law_343 ?_
            refine j_imul dL_law_345 ?_
            refine jb_callXi (c := 1) (kL_act x n 2 0 (2 * x8) s7) lx_L_80 ⟨Nat.le_of_ble_eq_true rfl, Nat.le_of_ble_eq_true rfl⟩ dL_law_346 rfl (Nat.le_of_ble_eq_true rfl) hu (by omega) (fun r52 s53 => ?_)
            refine j_aload 6 rfl dL_law_349 ?_
            refine j_iload 0 rfl dL_law_351 ?_
            refine j_iald (lV_a_212 x s53) dL_law_353 ?_
            refine j_icmp_ne dL_law_354 ?_ ?_
            · refine j_iconst dL_law_361 ejc_0 ?_
              refine j_istore (i := 5) (L' := [(5, .int 0), (8, .int x8), (7, .int r6), (0, .ref (x.2.1)), (1, .ref (cw_a x.1 0)), (2, .ref (cw_a x.1 210)), (3, .ref (cw_a x.1 211)), (4, .ref (cw_a x.1 212)), (6, .int y5)]) dL_law_362 (Nat.le_of_ble_eq_true rfl) rfl ?_
              refine j_aload 7 rfl dL_law_364 ?_
              refine j_iload 1 rfl dL_law_366 ?_
              refine j_iconst dL_law_368 ejc_0 ?_
              refine j_iast (lV_s_212 x s53 (x8.toNatClampNeg) 0) dL_law_369 (fun s54 => ?_)
              exact j_sub [3, 4, 5, 6, 7, 0, 8, 2] rfl (jL_law_370 x n (mL_law_65 n x.2.2.1 x.2.2.2 k) (0 + 363 * k) ih (ej_finLu _ _ hq) (ej_budw (ej_budu 1 hu (by omega)) (by omega)) 0 y5 r6 s54)
            · refine j_iconst dL_law_357 ejc_1 ?_
              refine j_goto dL_law_358 ?_
              refine j_istore (i := 5) (L' := [(5, .int 1), (8, .int x8), (7, .int r6), (0, .ref (x.2.1)), (1, .ref (cw_a x.1 0)), (2, .ref (cw_a x.1 210)), (3, .ref (cw_a x.1 211)), (4, .ref (cw_a x.1 212)), (6, .int y5)]) dL_law_362 (Nat.le_of_ble_eq_true rfl) rfl ?_
              refine j_aload 7 rfl dL_law_364 ?_
              refine j_iload 1 rfl dL_law_366 ?_
              refine j_iconst dL_law_368 ejc_0 ?_
              refine j_iast (lV_s_212 x s53 (x8.toNatClampNeg) 0) dL_law_369 (fun s55 => ?_)
              exact j_sub [3, 4, 5, 6, 7, 0, 8, 2] rfl (jL_law_370 x n (mL_law_65 n x.2.2.1 x.2.2.2 k) (0 + 363 * k) ih (ej_finLu _ _ hq) (ej_budw (ej_budu 1 hu (by omega)) (by omega)) 1 y5 r6 s55)
        · refine j_aload 6 rfl dL_law_107 ?_
          refine j_iload 0 rfl dL_law_109 ?_
          refine j_iload 1 rfl dL_law_111 ?_
          refine j_bipush dL_law_113 ejb_16 ?_
          refine j_idiv0 (by decide) dL_law_115 ?_
          refine j_bipush dL_law_116 ejb_7 ?_
          refine j_irem0 (by decide) dL_law_118 ?_
          refine j_iast (lV_s_212 x s7 (x8.toNatClampNeg) ((r6 / 16) - (r6 / 16) / 7 * 7)) dL_law_119 (fun s56 => ?_)
          refine j_iconst dL_law_120 ejc_0 ?_
          refine j_istore (i := 9) (L' := [(9, .int 0), (8, .int x8), (7, .int r6), (0, .ref (x.2.1)), (1, .ref (cw_a x.1 0)), (2, .ref (cw_a x.1 210)), (3, .ref (cw_a x.1 211)), (4, .ref (cw_a x.1 212)), (5, .int y4), (6, .int y5)]) dL_law_121 (Nat.le_of_ble_eq_true rfl) rfl ?_
          exact j_sub [3, 4, 5, 6, 7, 9, 2, 1, 0] rfl (jL_law_123 x n (mL_law_65 n x.2.2.1 x.2.2.2 k) (0 + 363 * k) ih 8 hq (ej_budw hu (by omega)) y5 r6 x8 0 s56)
noncomputable def mL_law (n : Nat) (N : Nat) (xs : Nat → Int32) (σ : lw_S) : Option Int32 := ej_ck 3 4 (ej_nm ((σ.1, uA σ.2 2 ((3 : Int32).toNatClampNeg) (-1)) : lw_S) fun s1 => ej_bi (mL_isRefused n 0 s1) fun r2 s3 => (if r2 = 0 then (mL_law_65 n N xs 18 0 0 s3) else ej_bi (mL_isRefused n 1 s3) fun r90 s91 => (if r90 = 0 then (mL_law_65 n N xs 18 0 0 s91) else ej_bi (mL_isFull n s91) fun r92 s93 => (if r92 = 0 then (mL_law_65 n N xs 18 0 0 s93) else (mL_law_65 n N xs 18 1 0 s93)))))
set_option maxRecDepth 20000 in
set_option maxHeartbeats 2000000 in
theorem jL_law (x : lw_T) (n : Nat) (σ : lw_S) {F : ej_F} (hq : ej_finL x F) (hu : ej_bud F 6918) : ej_J (lV x) F iL_law (1 : Int32) σ 23 [(0, .ref (x.2.1)), (1, .ref (cw_a x.1 0)), (2, .ref (cw_a x.1 210)), (3, .ref (cw_a x.1 211)), (4, .ref (cw_a x.1 212))] [] (mL_law n x.2.2.1 x.2.2.2 σ) := by
  unfold mL_law
  refine j_aload 4 rfl dL_law_23 ?_
  refine j_iconst dL_law_25 ejc_3 ?_
  refine j_iconst dL_law_26 ejc_m1 ?_
  refine j_iast (lV_s_212 x σ ((3 : Int32).toNatClampNeg) (-1)) dL_law_27 (fun s1 => ?_)
  refine j_aload_n 1 rfl dL_law_28 ?_
  refine j_aload 4 rfl dL_law_29 ?_
  refine j_iconst dL_law_31 ejc_0 ?_
  refine jb_callSi (c := 152) (kL_isRefused x n 0 s1) ls_L_179 ⟨Nat.le_of_ble_eq_true rfl, Nat.le_of_ble_eq_true rfl⟩ dL_law_32 rfl (Nat.le_of_ble_eq_true rfl) hu (by omega) (fun r2 s3 => ?_)
  refine j_if_eq dL_law_35 ?_ ?_
  · refine j_iconst dL_law_59 ejc_0 ?_
    refine j_istore (i := 5) (L' := [(5, .int 0), (0, .ref (x.2.1)), (1, .ref (cw_a x.1 0)), (2, .ref (cw_a x.1 210)), (3, .ref (cw_a x.1 211)), (4, .ref (cw_a x.1 212))]) dL_law_60 (Nat.le_of_ble_eq_true rfl) rfl ?_
    refine j_iconst dL_law_62 ejc_0 ?_
    refine j_istore (i := 6) (L' := [(6, .int 0), (5, .int 0), (0, .ref (x.2.1)), (1, .ref (cw_a x.1 0)), (2, .ref (cw_a x.1 210)), (3, .ref (cw_a x.1 211)), (4, .ref (cw_a x.1 212))]) dL_law_63 (Nat.le_of_ble_eq_true rfl) rfl ?_
    exact j_sub [2, 3, 4, 5, 6, 1, 0] rfl (jL_law_65 x n 18 (ej_finLu _ _ hq) (ej_budw (ej_budu 152 hu (by omega)) (by omega)) 0 0 s3)
  · refine j_aload_n 1 rfl dL_law_38 ?_
    refine j_aload 4 rfl dL_law_39 ?_
    refine j_iconst dL_law_41 ejc_1 ?_
    refine jb_callSi (c := 152) (kL_isRefused x n 1 s3) ls_L_179 ⟨Nat.le_of_ble_eq_true rfl, Nat.le_of_ble_eq_true rfl⟩ dL_law_42 rfl (Nat.le_of_ble_eq_true rfl) (ej_budu 152 hu (by omega)) (by omega) (fun r90 s91 => ?_)
    refine j_if_eq dL_law_45 ?_ ?_
    · refine j_iconst dL_law_59 ejc_0 ?_
      refine j_istore (i := 5) (L' := [(5, .int 0), (0, .ref (x.2.1)), (1, .ref (cw_a x.1 0)), (2, .ref (cw_a x.1 210)), (3, .ref (cw_a x.1 211)), (4, .ref (cw_a x.1 212))]) dL_law_60 (Nat.le_of_ble_eq_true rfl) rfl ?_
      refine j_iconst dL_law_62 ejc_0 ?_
      refine j_istore (i := 6) (L' := [(6, .int 0), (5, .int 0), (0, .ref (x.2.1)), (1, .ref (cw_a x.1 0)), (2, .ref (cw_a x.1 210)), (3, .ref (cw_a x.1 211)), (4, .ref (cw_a x.1 212))]) dL_law_63 (Nat.le_of_ble_eq_true rfl) rfl ?_
      exact j_sub [2, 3, 4, 5, 6, 1, 0] rfl (jL_law_65 x n 18 (ej_finLu _ _ (ej_finLu _ _ hq)) (ej_budw (ej_budu 152 (ej_budu 152 hu (by omega)) (by omega)) (by omega)) 0 0 s91)
    · refine j_aload_n 1 rfl dL_law_48 ?_
      refine jb_callSi (c := 80) (kL_isFull x n s91) ls_L_183 ⟨Nat.le_of_ble_eq_true rfl, Nat.le_of_ble_eq_true rfl⟩ dL_law_49 rfl (Nat.le_of_ble_eq_true rfl) (ej_budu 152 (ej_budu 152 hu (by omega)) (by omega)) (by omega) (fun r92 s93 => ?_)
      refine j_if_eq dL_law_52 ?_ ?_
      · refine j_iconst dL_law_59 ejc_0 ?_
        refine j_istore (i := 5) (L' := [(5, .int 0), (0, .ref (x.2.1)), (1, .ref (cw_a x.1 0)), (2, .ref (cw_a x.1 210)), (3, .ref (cw_a x.1 211)), (4, .ref (cw_a x.1 212))]) dL_law_60 (Nat.le_of_ble_eq_true rfl) rfl ?_
        refine j_iconst dL_law_62 ejc_0 ?_
        refine j_istore (i := 6) (L' := [(6, .int 0), (5, .int 0), (0, .ref (x.2.1)), (1, .ref (cw_a x.1 0)), (2, .ref (cw_a x.1 210)), (3, .ref (cw_a x.1 211)), (4, .ref (cw_a x.1 212))]) dL_law_63 (Nat.le_of_ble_eq_true rfl) rfl ?_
        exact j_sub [2, 3, 4, 5, 6, 1, 0] rfl (jL_law_65 x n 18 (ej_finLu _ _ (ej_finLu _ _ (ej_finLu _ _ hq))) (ej_budw (ej_budu 80 (ej_budu 152 (ej_budu 152 hu (by omega)) (by omega)) (by omega)) (by omega)) 0 0 s93)
      · refine j_iconst dL_law_55 ejc_1 ?_
        refine j_goto dL_law_56 ?_
        refine j_istore (i := 5) (L' := [(5, .int 1), (0, .ref (x.2.1)), (1, .ref (cw_a x.1 0)), (2, .ref (cw_a x.1 210)), (3, .ref (cw_a x.1 211)), (4, .ref (cw_a x.1 212))]) dL_law_60 (Nat.le_of_ble_eq_true rfl) rfl ?_
        refine j_iconst dL_law_62 ejc_0 ?_
        refine j_istore (i := 6) (L' := [(6, .int 0), (5, .int 1), (0, .ref (x.2.1)), (1, .ref (cw_a x.1 0)), (2, .ref (cw_a x.1 210)), (3, .ref (cw_a x.1 211)), (4, .ref (cw_a x.1 212))]) dL_law_63 (Nat.le_of_ble_eq_true rfl) rfl ?_
        exact j_sub [2, 3, 4, 5, 6, 1, 0] rfl (jL_law_65 x n 18 (ej_finLu _ _ (ej_finLu _ _ (ej_finLu _ _ hq))) (ej_budw (ej_budu 80 (ej_budu 152 (ej_budu 152 hu (by omega)) (by omega)) (by omega)) (by omega)) 1 0 s93)

