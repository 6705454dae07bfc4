noncomputable def m8_endOfRemark_2 (n : Nat) (k : Nat) : Int32 → ej_S → Option (Int32 × ej_S) := Nat.rec (motive := fun _ => Int32 → ej_S → Option (Int32 × ej_S)) (fun _ _ => none) (fun _ ih y1 σ => ej_bi (m7_length n 6 σ) fun r3 s2 => (if r3 ≤ y1 then (some (y1, s2)) else ej_bi (m7_byteAt n 6 y1 s2) fun r5 s4 => (if r5 = 10 then (some (y1, s4)) else ej_nm (y1 + 1) fun x6 => (ih x6 s4)))) k
theorem m8_endOfRemark_2_s (n : Nat) (k : Nat) (y1 : Int32) (σ : ej_S) : m8_endOfRemark_2 n (k + 1) y1 σ = (ej_bi (m7_length n 6 σ) fun r3 s2 => (if r3 ≤ y1 then (some (y1, s2)) else ej_bi (m7_byteAt n 6 y1 s2) fun r5 s4 => (if r5 = 10 then (some (y1, s4)) else ej_nm (y1 + 1) fun x6 => ((m8_endOfRemark_2 n k) x6 s4))) : Option (Int32 × ej_S)) := rfl
set_option maxRecDepth 20000 in
set_option maxHeartbeats 2000000 in
theorem j8_endOfRemark_2 (x : cw_T) (n : Nat) {F : ej_F} {r0 : Int32 × ej_S} (hq : ej_fin (cV x) F (some .int) (some (.int r0.1)) r0.2) : ∀ (k : Nat) (y1 : Int32) (σ : ej_S), ej_J (cV x) F i8_endOfRemark r0 σ 2 [(0, .ref (cw_a x 2)), (2, .int y1)] [] (m8_endOfRemark_2 n k y1 σ) := by
  intro k
  induction k with
  | zero => intro y1 σ; exact j_none
  | succ k ih =>
    intro y1 σ
    rw [m8_endOfRemark_2_s]
    refine j_iload_n 1 rfl d8_endOfRemark_2 ?_
    refine j_aload_n 0 rfl d8_endOfRemark_3 ?_
    refine j_get fl_X8_14 (cV_g_2_0 x σ) d8_endOfRemark_4 ?_
    refine j_callVi (c7_length x n 6 (Nat.le_of_ble_eq_true rfl) σ) lv_X8_42 (cV_rc_t x σ 6 (Nat.le_of_ble_eq_true rfl)) ⟨Nat.le_of_ble_eq_true rfl, Nat.le_of_ble_eq_true rfl⟩ d8_endOfRemark_7 rfl (Nat.le_of_ble_eq_true rfl) (fun r3 s2 => ?_)
    refine j_icmp_ge d8_endOfRemark_10 ?_ ?_
    · refine j_iload_n 1 rfl d8_endOfRemark_32 ?_
      exact j_ireturn hq d8_endOfRemark_33
    · refine j_aload_n 0 rfl d8_endOfRemark_13 ?_
      refine j_get fl_X8_14 (cV_g_2_0 x s2) d8_endOfRemark_14 ?_
      refine j_iload_n 1 rfl d8_endOfRemark_17 ?_
      refine j_callVi (c7_byteAt x n 6 (Nat.le_of_ble_eq_true rfl) y1 s2) lv_X8_46 (cV_rc_t x s2 6 (Nat.le_of_ble_eq_true rfl)) ⟨Nat.le_of_ble_eq_true rfl, Nat.le_of_ble_eq_true rfl⟩ d8_endOfRemark_18 rfl (Nat.le_of_ble_eq_true rfl) (fun r5 s4 => ?_)
      refine j_bipush d8_endOfRemark_21 ejb_10 ?_
      refine j_icmp_eq d8_endOfRemark_23 ?_ ?_
      · refine j_iload_n 1 rfl d8_endOfRemark_32 ?_
        exact j_ireturn hq d8_endOfRemark_33
      · refine j_iinc (i := 2) (v := 1) (Ly := fun x6 => [(2, .int x6), (0, .ref (cw_a x 2))]) 1 d8_endOfRemark_26 rfl ejc_1 (Nat.le_of_ble_eq_true rfl) (fun _ => rfl) (fun x6 => ?_)
        refine j_goto d8_endOfRemark_29 ?_
        exact j_sub [1, 0] rfl (ih x6 s4)
noncomputable def m8_endOfRemark (n : Nat) (a1 : Int32) (σ : ej_S) : Option (Int32 × ej_S) := (m8_endOfRemark_2 n n a1 σ)
set_option maxRecDepth 20000 in
set_option maxHeartbeats 2000000 in
theorem j8_endOfRemark (x : cw_T) (n : Nat) (a1 : Int32) (σ : ej_S) {F : ej_F} {r0 : Int32 × ej_S} (hq : ej_fin (cV x) F (some .int) (some (.int r0.1)) r0.2) : ej_J (cV x) F i8_endOfRemark r0 σ 0 [(0, .ref (cw_a x 2)), (1, .int a1)] [] (m8_endOfRemark n a1 σ) := by
  unfold m8_endOfRemark
  refine j_iload_n 1 rfl d8_endOfRemark_0 ?_
  refine j_istore_n (i := 2) (L' := [(2, .int a1), (0, .ref (cw_a x 2)), (1, .int a1)]) d8_endOfRemark_1 rfl (Nat.le_of_ble_eq_true rfl) rfl ?_
  exact j_sub [1, 0] rfl (j8_endOfRemark_2 x n hq n a1 σ)
theorem c8_endOfRemark (x : cw_T) (n : Nat) (a1 : Int32) (σ : ej_S) : ∀ r σ1, m8_endOfRemark n a1 σ = some (r, σ1) → ∀ l, ej_Con l (cV x) i8_endOfRemark yX8_endOfRemark (some .int) [.ref (cw_a x 2), .int a1] σ (some (.int r)) σ1 := fun r σ1 h l => ej_con_of (cV_ok x) pn_X8 rfl (Nat.le_of_ble_eq_true rfl) rfl h (fun F hq => j8_endOfRemark x n a1 σ hq)

noncomputable def m8_isSign (n : Nat) (a1 : Int32) (σ : ej_S) : Option (Int32 × ej_S) := (if a1 = 33 then (some (1, σ)) else (if a1 = 40 then (some (1, σ)) else (if a1 = 41 then (some (1, σ)) else (if a1 = 42 then (some (1, σ)) else (if a1 = 43 then (some (1, σ)) else (if a1 = 44 then (some (1, σ)) else (if a1 = 45 then (some (1, σ)) else (if a1 = 47 then (some (1, σ)) else (if a1 = 59 then (some (1, σ)) else (if a1 = 61 then (some (1, σ)) else (if a1 = 64 then (some (1, σ)) else (if a1 = 123 then (some (1, σ)) else (if a1 = 125 then (some (1, σ)) else (some (0, σ)))))))))))))))
set_option maxRecDepth 20000 in
set_option maxHeartbeats 2000000 in
theorem j8_isSign (x : cw_T) (n : Nat) (a1 : Int32) (σ : ej_S) {F : ej_F} {r0 : Int32 × ej_S} (hq : ej_fin (cV x) F (some .boolean) (some (.int r0.1)) r0.2) : ej_J (cV x) F i8_isSign r0 σ 0 [(0, .int a1)] [] (m8_isSign n a1 σ) := by
  unfold m8_isSign
  refine j_iload_n 0 rfl d8_isSign_0 ?_
  refine j_lk1 (v := 33) (off := 115) (t := 116) d8_isSign_1 (by decide) (by decide) (by decide) ?_ (fun hne33 => ?_)
  · refine j_iconst d8_isSign_116 ejc_1 ?_
    exact j_zreturn1 hq d8_isSign_117
  refine j_lk1 (v := 40) (off := 115) (t := 116) d8_isSign_1 (by decide) (by decide) (by decide) ?_ (fun hne40 => ?_)
  · refine j_iconst d8_isSign_116 ejc_1 ?_
    exact j_zreturn1 hq d8_isSign_117
  refine j_lk1 (v := 41) (off := 115) (t := 116) d8_isSign_1 (by decide) (by decide) (by decide) ?_ (fun hne41 => ?_)
  · refine j_iconst d8_isSign_116 ejc_1 ?_
    exact j_zreturn1 hq d8_isSign_117
  refine j_lk1 (v := 42) (off := 115) (t := 116) d8_isSign_1 (by decide) (by decide) (by decide) ?_ (fun hne42 => ?_)
  · refine j_iconst d8_isSign_116 ejc_1 ?_
    exact j_zreturn1 hq d8_isSign_117
  refine j_lk1 (v := 43) (off := 115) (t := 116) d8_isSign_1 (by decide) (by decide) (by decide) ?_ (fun hne43 => ?_)
  · refine j_iconst d8_isSign_116 ejc_1 ?_
    exact j_zreturn1 hq d8_isSign_117
  refine j_lk1 (v := 44) (off := 115) (t := 116) d8_isSign_1 (by decide) (by decide) (by decide) ?_ (fun hne44 => ?_)
  · refine j_iconst d8_isSign_116 ejc_1 ?_
    exact j_zreturn1 hq d8_isSign_117
  refine j_lk1 (v := 45) (off := 115) (t := 116) d8_isSign_1 (by decide) (by decide) (by decide) ?_ (fun hne45 => ?_)
  · refine j_iconst d8_isSign_116 ejc_1 ?_
    exact j_zreturn1 hq d8_isSign_117
  refine j_lk1 (v := 47) (off := 115) (t := 116) d8_isSign_1 (by decide) (by decide) (by decide) ?_ (fun hne47 => ?_)
  · refine j_iconst d8_isSign_116 ejc_1 ?_
    exact j_zreturn1 hq d8_isSign_117
  refine j_lk1 (v := 59) (off := 115) (t := 116) d8_isSign_1 (by decide) (by decide) (by decide) ?_ (fun hne59 => ?_)
  · refine j_iconst d8_isSign_116 ejc_1 ?_
    exact j_zreturn1 hq d8_isSign_117
  refine j_lk1 (v := 61) (off := 115) (t := 116) d8_isSign_1 (by decide) (by decide) (by decide) ?_ (fun hne61 => ?_)
  · refine j_iconst d8_isSign_116 ejc_1 ?_
    exact j_zreturn1 hq d8_isSign_117
  refine j_lk1 (v := 64) (off := 115) (t := 116) d8_isSign_1 (by decide) (by decide) (by decide) ?_ (fun hne64 => ?_)
  · refine j_iconst d8_isSign_116 ejc_1 ?_
    exact j_zreturn1 hq d8_isSign_117
  refine j_lk1 (v := 123) (off := 115) (t := 116) d8_isSign_1 (by decide) (by decide) (by decide) ?_ (fun hne123 => ?_)
  · refine j_iconst d8_isSign_116 ejc_1 ?_
    exact j_zreturn1 hq d8_isSign_117
  refine j_lk1 (v := 125) (off := 115) (t := 116) d8_isSign_1 (by decide) (by decide) (by decide) ?_ (fun hne125 => ?_)
  · refine j_iconst d8_isSign_116 ejc_1 ?_
    exact j_zreturn1 hq d8_isSign_117
  refine j_lkO (off := 117) (t := 118) d8_isSign_1 (by decide) (by show Op.lookupswitch.offset [(33, 115), (40, 115), (41, 115), (42, 115), (43, 115), (44, 115), (45, 115), (47, 115), (59, 115), (61, 115), (64, 115), (123, 115), (125, 115)] 117 _ = 117; rw [lv_osw hne33 (by decide), lv_osw hne40 (by decide), lv_osw hne41 (by decide), lv_osw hne42 (by decide), lv_osw hne43 (by decide), lv_osw hne44 (by decide), lv_osw hne45 (by decide), lv_osw hne47 (by decide), lv_osw hne59 (by decide), lv_osw hne61 (by decide), lv_osw hne64 (by decide), lv_osw hne123 (by decide), lv_osw hne125 (by decide)]; rfl) (by decide) ?_
  refine j_iconst d8_isSign_118 ejc_0 ?_
  exact j_zreturn0 hq d8_isSign_119
theorem c8_isSign (x : cw_T) (n : Nat) (a1 : Int32) (σ : ej_S) : ∀ r σ1, m8_isSign n a1 σ = some (r, σ1) → ∀ l, ej_Con l (cV x) i8_isSign yX8_isSign (some .boolean) [.int a1] σ (some (.int r)) σ1 := fun r σ1 h l => ej_con_of (cV_ok x) pn_X8 rfl (Nat.le_of_ble_eq_true rfl) rfl h (fun F hq => j8_isSign x n a1 σ hq)

noncomputable def m8_sortOf (n : Nat) (a1 : Int32) (σ : ej_S) : Option (Int32 × ej_S) := ej_bi (m10_isNameStart n a1 σ) fun r2 s1 => (if r2 = 0 then ej_bi (m10_isWordPart n a1 s1) fun r4 s3 => (if r4 = 0 then ej_bi (m10_isDigit n a1 s3) fun r6 s5 => (if r6 = 0 then (if a1 = 10 then (some (59, s5)) else ej_bi (m8_isSign n a1 s5) fun r8 s7 => (if r8 = 0 then (some (63, s7)) else (some (a1, s7)))) else (some (48, s5))) else (some (65, s3))) else (some (97, s1)))
set_option maxRecDepth 20000 in
set_option maxHeartbeats 2000000 in
theorem j8_sortOf (x : cw_T) (n : Nat) (a1 : Int32) (σ : ej_S) {F : ej_F} {r0 : Int32 × ej_S} (hq : ej_fin (cV x) F (some .int) (some (.int r0.1)) r0.2) : ej_J (cV x) F i8_sortOf r0 σ 0 [(0, .int a1)] [] (m8_sortOf n a1 σ) := by
  unfold m8_sortOf
  refine j_iload_n 0 rfl d8_sortOf_0 ?_
  refine j_callNi (c10_isNameStart x n a1 σ) (ln_X8_121 x) ⟨Nat.le_of_ble_eq_true rfl, Nat.le_of_ble_eq_true rfl⟩ d8_sortOf_1 rfl (Nat.le_of_ble_eq_true rfl) (fun r2 s1 => ?_)
  refine j_if_eq d8_sortOf_4 ?_ ?_
  · refine j_iload_n 0 rfl d8_sortOf_10 ?_
    refine j_callNi (c10_isWordPart x n a1 s1) (ln_X8_115 x) ⟨Nat.le_of_ble_eq_true rfl, Nat.le_of_ble_eq_true rfl⟩ d8_sortOf_11 rfl (Nat.le_of_ble_eq_true rfl) (fun r4 s3 => ?_)
    refine j_if_eq d8_sortOf_14 ?_ ?_
    · refine j_iload_n 0 rfl d8_sortOf_20 ?_
      refine j_callNi (c10_isDigit x n a1 s3) (ln_X8_118 x) ⟨Nat.le_of_ble_eq_true rfl, Nat.le_of_ble_eq_true rfl⟩ d8_sortOf_21 rfl (Nat.le_of_ble_eq_true rfl) (fun r6 s5 => ?_)
      refine j_if_eq d8_sortOf_24 ?_ ?_
      · refine j_iload_n 0 rfl d8_sortOf_30 ?_
        refine j_bipush d8_sortOf_31 ejb_10 ?_
        refine j_icmp_ne d8_sortOf_33 ?_ ?_
        · refine j_iload_n 0 rfl d8_sortOf_39 ?_
          refine j_callSi (c8_isSign x n a1 s5) ls_X8_124 ⟨Nat.le_of_ble_eq_true rfl, Nat.le_of_ble_eq_true rfl⟩ d8_sortOf_40 rfl (Nat.le_of_ble_eq_true rfl) (fun r8 s7 => ?_)
          refine j_if_eq d8_sortOf_43 ?_ ?_
          · refine j_bipush d8_sortOf_50 ejb_63 ?_
            exact j_ireturn hq d8_sortOf_52
          · refine j_iload_n 0 rfl d8_sortOf_46 ?_
            refine j_goto d8_sortOf_47 ?_
            exact j_ireturn hq d8_sortOf_52
        · refine j_bipush d8_sortOf_36 ejb_59 ?_
          exact j_ireturn hq d8_sortOf_38
      · refine j_bipush d8_sortOf_27 ejb_48 ?_
        exact j_ireturn hq d8_sortOf_29
    · refine j_bipush d8_sortOf_17 ejb_65 ?_
      exact j_ireturn hq d8_sortOf_19
  · refine j_bipush d8_sortOf_7 ejb_97 ?_
    exact j_ireturn hq d8_sortOf_9
theorem c8_sortOf (x : cw_T) (n : Nat) (a1 : Int32) (σ : ej_S) : ∀ r σ1, m8_sortOf n a1 σ = some (r, σ1) → ∀ l, ej_Con l (cV x) i8_sortOf yX8_sortOf (some .int) [.int a1] σ (some (.int r)) σ1 := fun r σ1 h l => ej_con_of (cV_ok x) pn_X8 rfl (Nat.le_of_ble_eq_true rfl) rfl h (fun F hq => j8_sortOf x n a1 σ hq)

noncomputable def m8_goesOn_26 (n : Nat) (y3 : Int32) (y4 : Int32) (σ : ej_S) : Option (Int32 × ej_S) := (if y3 = 48 then ej_bi (m10_isDigit n y4 σ) fun r6 s5 => (if r6 = 0 then (some (0, s5)) else (some (1, s5))) else (some (0, σ)))
set_option maxRecDepth 20000 in
set_option maxHeartbeats 2000000 in
theorem j8_goesOn_26 (x : cw_T) (n : Nat) {F : ej_F} {r0 : Int32 × ej_S} (hq : ej_fin (cV x) F (some .boolean) (some (.int r0.1)) r0.2) (y3 : Int32) (y4 : Int32) (σ : ej_S) : ej_J (cV x) F i8_goesOn r0 σ 26 [(0, .int y3), (1, .int y4)] [] (m8_goesOn_26 n y3 y4 σ) := by
  unfold m8_goesOn_26
  refine j_iload_n 0 rfl d8_goesOn_26 ?_
  refine j_bipush d8_goesOn_27 ejb_48 ?_
  refine j_icmp_ne d8_goesOn_29 ?_ ?_
  · refine j_iconst d8_goesOn_43 ejc_0 ?_
    exact j_zreturn0 hq d8_goesOn_44
  · refine j_iload_n 1 rfl d8_goesOn_32 ?_
    refine j_callNi (c10_isDigit x n y4 σ) (ln_X8_118 x) ⟨Nat.le_of_ble_eq_true rfl, Nat.le_of_ble_eq_true rfl⟩ d8_goesOn_33 rfl (Nat.le_of_ble_eq_true rfl) (fun r6 s5 => ?_)
    refine j_if_eq d8_goesOn_36 ?_ ?_
    · refine j_iconst d8_goesOn_43 ejc_0 ?_
      exact j_zreturn0 hq d8_goesOn_44
    · refine j_iconst d8_goesOn_39 ejc_1 ?_
      refine j_goto d8_goesOn_40 ?_
      exact j_zreturn1 hq d8_goesOn_44
noncomputable def m8_goesOn_13 (n : Nat) (y1 : Int32) (y2 : Int32) (σ : ej_S) : Option (Int32 × ej_S) := (if y1 = 65 then ej_bi (m10_isWordPart n y2 σ) fun r8 s7 => (if r8 = 0 then (m8_goesOn_26 n y1 y2 s7) else (some (1, s7))) else (m8_goesOn_26 n y1 y2 σ))
set_option maxRecDepth 20000 in
set_option maxHeartbeats 2000000 in
theorem j8_goesOn_13 (x : cw_T) (n : Nat) {F : ej_F} {r0 : Int32 × ej_S} (hq : ej_fin (cV x) F (some .boolean) (some (.int r0.1)) r0.2) (y1 : Int32) (y2 : Int32) (σ : ej_S) : ej_J (cV x) F i8_goesOn r0 σ 13 [(0, .int y1), (1, .int y2)] [] (m8_goesOn_13 n y1 y2 σ) := by
  unfold m8_goesOn_13
  refine j_iload_n 0 rfl d8_goesOn_13 ?_
  refine j_bipush d8_goesOn_14 ejb_65 ?_
  refine j_icmp_ne d8_goesOn_16 ?_ ?_
  · exact j_sub [0, 1] rfl (j8_goesOn_26 x n hq y1 y2 σ)
  · refine j_iload_n 1 rfl d8_goesOn_19 ?_
    refine j_callNi (c10_isWordPart x n y2 σ) (ln_X8_115 x) ⟨Nat.le_of_ble_eq_true rfl, Nat.le_of_ble_eq_true rfl⟩ d8_goesOn_20 rfl (Nat.le_of_ble_eq_true rfl) (fun r8 s7 => ?_)
    refine j_if_ne d8_goesOn_23 ?_ ?_
    · refine j_iconst d8_goesOn_39 ejc_1 ?_
      refine j_goto d8_goesOn_40 ?_
      exact j_zreturn1 hq d8_goesOn_44
    · exact j_sub [0, 1] rfl (j8_goesOn_26 x n hq y1 y2 s7)
noncomputable def m8_goesOn (n : Nat) (a1 : Int32) (a2 : Int32) (σ : ej_S) : Option (Int32 × ej_S) := (if a1 = 97 then ej_bi (m10_isNamePart n a2 σ) fun r10 s9 => (if r10 = 0 then (m8_goesOn_13 n a1 a2 s9) else (some (1, s9))) else (m8_goesOn_13 n a1 a2 σ))
set_option maxRecDepth 20000 in
set_option maxHeartbeats 2000000 in
theorem j8_goesOn (x : cw_T) (n : Nat) (a1 : Int32) (a2 : Int32) (σ : ej_S) {F : ej_F} {r0 : Int32 × ej_S} (hq : ej_fin (cV x) F (some .boolean) (some (.int r0.1)) r0.2) : ej_J (cV x) F i8_goesOn r0 σ 0 [(0, .int a1), (1, .int a2)] [] (m8_goesOn n a1 a2 σ) := by
  unfold m8_goesOn
  refine j_iload_n 0 rfl d8_goesOn_0 ?_
  refine j_bipush d8_goesOn_1 ejb_97 ?_
  refine j_icmp_ne d8_goesOn_3 ?_ ?_
  · exact j_sub [0, 1] rfl (j8_goesOn_13 x n hq a1 a2 σ)
  · refine j_iload_n 1 rfl d8_goesOn_6 ?_
    refine j_callNi (c10_isNamePart x n a2 σ) (ln_X8_111 x) ⟨Nat.le_of_ble_eq_true rfl, Nat.le_of_ble_eq_true rfl⟩ d8_goesOn_7 rfl (Nat.le_of_ble_eq_true rfl) (fun r10 s9 => ?_)
    refine j_if_ne d8_goesOn_10 ?_ ?_
    · refine j_iconst d8_goesOn_39 ejc_1 ?_
      refine j_goto d8_goesOn_40 ?_
      exact j_zreturn1 hq d8_goesOn_44
    · exact j_sub [0, 1] rfl (j8_goesOn_13 x n hq a1 a2 s9)
theorem c8_goesOn (x : cw_T) (n : Nat) (a1 : Int32) (a2 : Int32) (σ : ej_S) : ∀ r σ1, m8_goesOn n a1 a2 σ = some (r, σ1) → ∀ l, ej_Con l (cV x) i8_goesOn yX8_goesOn (some .boolean) [.int a1, .int a2] σ (some (.int r)) σ1 := fun r σ1 h l => ej_con_of (cV_ok x) pn_X8 rfl (Nat.le_of_ble_eq_true rfl) rfl h (fun F hq => j8_goesOn x n a1 a2 σ hq)

noncomputable def m8_endOfToken_4 (n : Nat) (k : Nat) : Int32 → Int32 → ej_S → Option (Int32 × ej_S) := Nat.rec (motive := fun _ => Int32 → Int32 → ej_S → Option (Int32 × ej_S)) (fun _ _ _ => none) (fun _ ih y2 y3 σ => ej_bi (m7_length n 6 σ) fun r5 s4 => (if r5 ≤ y3 then (some (y3, s4)) else ej_bi (m7_byteAt n 6 y3 s4) fun r7 s6 => ej_bi (m8_goesOn n y2 r7 s6) fun r9 s8 => (if r9 = 0 then (some (y3, s8)) else ej_nm (y3 + 1) fun x10 => (ih y2 x10 s8)))) k
theorem m8_endOfToken_4_s (n : Nat) (k : Nat) (y2 : Int32) (y3 : Int32) (σ : ej_S) : m8_endOfToken_4 n (k + 1) y2 y3 σ = (ej_bi (m7_length n 6 σ) fun r5 s4 => (if r5 ≤ y3 then (some (y3, s4)) else ej_bi (m7_byteAt n 6 y3 s4) fun r7 s6 => ej_bi (m8_goesOn n y2 r7 s6) fun r9 s8 => (if r9 = 0 then (some (y3, s8)) else ej_nm (y3 + 1) fun x10 => ((m8_endOfToken_4 n k) y2 x10 s8))) : Option (Int32 × ej_S)) := rfl
set_option maxRecDepth 20000 in
set_option maxHeartbeats 2000000 in
theorem j8_endOfToken_4 (x : cw_T) (n : Nat) {F : ej_F} {r0 : Int32 × ej_S} (hq : ej_fin (cV x) F (some .int) (some (.int r0.1)) r0.2) : ∀ (k : Nat) (y2 : Int32) (y3 : Int32) (σ : ej_S), ej_J (cV x) F i8_endOfToken r0 σ 4 [(0, .ref (cw_a x 2)), (1, .int y2), (3, .int y3)] [] (m8_endOfToken_4 n k y2 y3 σ) := by
  intro k
  induction k with
  | zero => intro y2 y3 σ; exact j_none
  | succ k ih =>
    intro y2 y3 σ
    rw [m8_endOfToken_4_s]
    refine j_iload_n 2 rfl d8_endOfToken_4 ?_
    refine j_aload_n 0 rfl d8_endOfToken_5 ?_
    refine j_get fl_X8_14 (cV_g_2_0 x σ) d8_endOfToken_6 ?_
    refine j_callVi (c7_length x n 6 (Nat.le_of_ble_eq_true rfl) σ) lv_X8_42 (cV_rc_t x σ 6 (Nat.le_of_ble_eq_true rfl)) ⟨Nat.le_of_ble_eq_true rfl, Nat.le_of_ble_eq_true rfl⟩ d8_endOfToken_9 rfl (Nat.le_of_ble_eq_true rfl) (fun r5 s4 => ?_)
    refine j_icmp_ge d8_endOfToken_12 ?_ ?_
    · refine j_iload_n 2 rfl d8_endOfToken_36 ?_
      exact j_ireturn hq d8_endOfToken_37
    · refine j_iload_n 1 rfl d8_endOfToken_15 ?_
      refine j_aload_n 0 rfl d8_endOfToken_16 ?_
      refine j_get fl_X8_14 (cV_g_2_0 x s4) d8_endOfToken_17 ?_
      refine j_iload_n 2 rfl d8_endOfToken_20 ?_
      refine j_callVi (c7_byteAt x n 6 (Nat.le_of_ble_eq_true rfl) y3 s4) lv_X8_46 (cV_rc_t x s4 6 (Nat.le_of_ble_eq_true rfl)) ⟨Nat.le_of_ble_eq_true rfl, Nat.le_of_ble_eq_true rfl⟩ d8_endOfToken_21 rfl (Nat.le_of_ble_eq_true rfl) (fun r7 s6 => ?_)
      refine j_callSi (c8_goesOn x n y2 r7 s6) ls_X8_107 ⟨Nat.le_of_ble_eq_true rfl, Nat.le_of_ble_eq_true rfl⟩ d8_endOfToken_24 rfl (Nat.le_of_ble_eq_true rfl) (fun r9 s8 => ?_)
      refine j_if_eq d8_endOfToken_27 ?_ ?_
      · refine j_iload_n 2 rfl d8_endOfToken_36 ?_
        exact j_ireturn hq d8_endOfToken_37
      · refine j_iinc (i := 3) (v := 1) (Ly := fun x10 => [(3, .int x10), (0, .ref (cw_a x 2)), (1, .int y2)]) 2 d8_endOfToken_30 rfl ejc_1 (Nat.le_of_ble_eq_true rfl) (fun _ => rfl) (fun x10 => ?_)
        refine j_goto d8_endOfToken_33 ?_
        exact j_sub [1, 2, 0] rfl (ih y2 x10 s8)
noncomputable def m8_endOfToken (n : Nat) (a1 : Int32) (a2 : Int32) (σ : ej_S) : Option (Int32 × ej_S) := ej_nm (a2 + 1) fun x1 => (m8_endOfToken_4 n n a1 x1 σ)
set_option maxRecDepth 20000 in
set_option maxHeartbeats 2000000 in
theorem j8_endOfToken (x : cw_T) (n : Nat) (a1 : Int32) (a2 : Int32) (σ : ej_S) {F : ej_F} {r0 : Int32 × ej_S} (hq : ej_fin (cV x) F (some .int) (some (.int r0.1)) r0.2) : ej_J (cV x) F i8_endOfToken r0 σ 0 [(0, .ref (cw_a x 2)), (1, .int a1), (2, .int a2)] [] (m8_endOfToken n a1 a2 σ) := by
  unfold m8_endOfToken
  refine j_iload_n 2 rfl d8_endOfToken_0 ?_
  refine j_iconst d8_endOfToken_1 ejc_1 ?_
  refine j_iadd d8_endOfToken_2 ?_
  refine j_nmi (fun x1 => ?_)
  refine j_istore_n (i := 3) (L' := [(3, .int x1), (0, .ref (cw_a x 2)), (1, .int a1), (2, .int a2)]) d8_endOfToken_3 rfl (Nat.le_of_ble_eq_true rfl) rfl ?_
  exact j_sub [1, 2, 0] rfl (j8_endOfToken_4 x n hq n a1 x1 σ)
theorem c8_endOfToken (x : cw_T) (n : Nat) (a1 : Int32) (a2 : Int32) (σ : ej_S) : ∀ r σ1, m8_endOfToken n a1 a2 σ = some (r, σ1) → ∀ l, ej_Con l (cV x) i8_endOfToken yX8_endOfToken (some .int) [.ref (cw_a x 2), .int a1, .int a2] σ (some (.int r)) σ1 := fun r σ1 h l => ej_con_of (cV_ok x) pn_X8 rfl (Nat.le_of_ble_eq_true rfl) rfl h (fun F hq => j8_endOfToken x n a1 a2 σ hq)

noncomputable def m8_numberOf_5 (n : Nat) (k : Nat) : Int32 → Int32 → Int32 → ej_S → Option (Int32 × ej_S) := Nat.rec (motive := fun _ => Int32 → Int32 → Int32 → ej_S → Option (Int32 × ej_S)) (fun _ _ _ _ => none) (fun _ ih y1 y2 y3 σ => (if y1 ≤ y3 then (some (y2, σ)) else ej_bi (m7_byteAt n 6 y3 σ) fun r5 s4 => ej_nm ((if 1000001 < ((10 * y2) + r5) - 48 then 1000001 else ((10 * y2) + r5) - 48)) fun x6 => ej_nm (y3 + 1) fun x7 => (ih y1 x6 x7 s4))) k
theorem m8_numberOf_5_s (n : Nat) (k : Nat) (y1 : Int32) (y2 : Int32) (y3 : Int32) (σ : ej_S) : m8_numberOf_5 n (k + 1) y1 y2 y3 σ = ((if y1 ≤ y3 then (some (y2, σ)) else ej_bi (m7_byteAt n 6 y3 σ) fun r5 s4 => ej_nm ((if 1000001 < ((10 * y2) + r5) - 48 then 1000001 else ((10 * y2) + r5) - 48)) fun x6 => ej_nm (y3 + 1) fun x7 => ((m8_numberOf_5 n k) y1 x6 x7 s4)) : Option (Int32 × ej_S)) := rfl
set_option maxRecDepth 20000 in
set_option maxHeartbeats 2000000 in
theorem j8_numberOf_5 (x : cw_T) (n : Nat) {F : ej_F} {r0 : Int32 × ej_S} (hq : ej_fin (cV x) F (some .int) (some (.int r0.1)) r0.2) : ∀ (k : Nat) (y1 : Int32) (y2 : Int32) (y3 : Int32) (σ : ej_S), ej_J (cV x) F i8_numberOf r0 σ 5 [(0, .ref (cw_a x 2)), (2, .int y1), (3, .int y2), (4, .int y3)] [] (m8_numberOf_5 n k y1 y2 y3 σ) := by
  intro k
  induction k with
  | zero => intro y1 y2 y3 σ; exact j_none
  | succ k ih =>
    intro y1 y2 y3 σ
    rw [m8_numberOf_5_s]
    refine j_iload 3 rfl d8_numberOf_5 ?_
    refine j_iload_n 1 rfl d8_numberOf_7 ?_
    refine j_icmp_ge d8_numberOf_8 ?_ ?_
    · refine j_iload_n 2 rfl d8_numberOf_40 ?_
      exact j_ireturn hq d8_numberOf_41
    · refine j_bipush d8_numberOf_11 ejb_10 ?_
      refine j_iload_n 2 rfl d8_numberOf_13 ?_
      refine j_imul d8_numberOf_14 ?_
      refine j_aload_n 0 rfl d8_numberOf_15 ?_
      refine j_get fl_X8_14 (cV_g_2_0 x σ) d8_numberOf_16 ?_
      refine j_iload 3 rfl d8_numberOf_19 ?_
      refine j_callVi (c7_byteAt x n 6 (Nat.le_of_ble_eq_true rfl) y3 σ) lv_X8_46 (cV_rc_t x σ 6 (Nat.le_of_ble_eq_true rfl)) ⟨Nat.le_of_ble_eq_true rfl, Nat.le_of_ble_eq_true rfl⟩ d8_numberOf_21 rfl (Nat.le_of_ble_eq_true rfl) (fun r5 s4 => ?_)
      refine j_iadd d8_numberOf_24 ?_
      refine j_bipush d8_numberOf_25 ejb_48 ?_
      refine j_isub d8_numberOf_27 ?_
      refine j_ldc d8_numberOf_28 ki_X8_68 ?_
      refine j_mmin ma_X8_89 ma_st_mmin ma_in ma_co_mmin ⟨Nat.le_of_ble_eq_true rfl, Nat.le_of_ble_eq_true rfl⟩ (Nat.le_of_ble_eq_true rfl) d8_numberOf_30 ?_
      refine j_nmi (fun x6 => ?_)
      refine j_istore_n (i := 3) (L' := [(3, .int x6), (0, .ref (cw_a x 2)), (2, .int y1), (4, .int y3)]) d8_numberOf_33 rfl (Nat.le_of_ble_eq_true rfl) rfl ?_
      refine j_iinc (i := 4) (v := 1) (Ly := fun x7 => [(4, .int x7), (3, .int x6), (0, .ref (cw_a x 2)), (2, .int y1)]) 3 d8_numberOf_34 rfl ejc_1 (Nat.le_of_ble_eq_true rfl) (fun _ => rfl) (fun x7 => ?_)
      refine j_goto d8_numberOf_37 ?_
      exact j_sub [2, 3, 1, 0] rfl (ih y1 x6 x7 s4)
noncomputable def m8_numberOf (n : Nat) (a1 : Int32) (a2 : Int32) (σ : ej_S) : Option (Int32 × ej_S) := (m8_numberOf_5 n n a2 0 a1 σ)
set_option maxRecDepth 20000 in
set_option maxHeartbeats 2000000 in
theorem j8_numberOf (x : cw_T) (n : Nat) (a1 : Int32) (a2 : Int32) (σ : ej_S) {F : ej_F} {r0 : Int32 × ej_S} (hq : ej_fin (cV x) F (some .int) (some (.int r0.1)) r0.2) : ej_J (cV x) F i8_numberOf r0 σ 0 [(0, .ref (cw_a x 2)), (1, .int a1), (2, .int a2)] [] (m8_numberOf n a1 a2 σ) := by
  unfold m8_numberOf
  refine j_iconst d8_numberOf_0 ejc_0 ?_
  refine j_istore_n (i := 3) (L' := [(3, .int 0), (0, .ref (cw_a x 2)), (1, .int a1), (2, .int a2)]) d8_numberOf_1 rfl (Nat.le_of_ble_eq_true rfl) rfl ?_
  refine j_iload_n 2 rfl d8_numberOf_2 ?_
  refine j_istore (i := 4) (L' := [(4, .int a1), (3, .int 0), (0, .ref (cw_a x 2)), (1, .int a1), (2, .int a2)]) d8_numberOf_3 (Nat.le_of_ble_eq_true rfl) rfl ?_
  exact j_sub [2, 4, 1, 0] rfl (j8_numberOf_5 x n hq n a2 0 a1 σ)
theorem c8_numberOf (x : cw_T) (n : Nat) (a1 : Int32) (a2 : Int32) (σ : ej_S) : ∀ r σ1, m8_numberOf n a1 a2 σ = some (r, σ1) → ∀ l, ej_Con l (cV x) i8_numberOf yX8_numberOf (some .int) [.ref (cw_a x 2), .int a1, .int a2] σ (some (.int r)) σ1 := fun r σ1 h l => ej_con_of (cV_ok x) pn_X8 rfl (Nat.le_of_ble_eq_true rfl) rfl h (fun F hq => j8_numberOf x n a1 a2 σ hq)

noncomputable def m8_worthOfWord_11 (n : Nat) (k : Nat) : Int32 → Int32 → Int32 → Int32 → ej_S → Option (Int32 × ej_S) := Nat.rec (motive := fun _ => Int32 → Int32 → Int32 → Int32 → ej_S → Option (Int32 × ej_S)) (fun _ _ _ _ _ => none) (fun _ ih y1 y2 y3 y4 σ => (if y3 ≤ y4 then (some (1000001, σ)) else ej_ck y4 10 (ej_bi (m7_spells n 6 (3 + y4.toNatClampNeg) y1 y2 σ) fun r7 s6 => (if r7 = 0 then ej_nm (y4 + 1) fun x8 => (ih y1 y2 y3 x8 s6) else (some (cw_worth.getD (y4.toNatClampNeg) 0, s6)))))) k
theorem m8_worthOfWord_11_s (n : Nat) (k : Nat) (y1 : Int32) (y2 : Int32) (y3 : Int32) (y4 : Int32) (σ : ej_S) : m8_worthOfWord_11 n (k + 1) y1 y2 y3 y4 σ = ((if y3 ≤ y4 then (some (1000001, σ)) else ej_ck y4 10 (ej_bi (m7_spells n 6 (3 + y4.toNatClampNeg) y1 y2 σ) fun r7 s6 => (if r7 = 0 then ej_nm (y4 + 1) fun x8 => ((m8_worthOfWord_11 n k) y1 y2 y3 x8 s6) else (some (cw_worth.getD (y4.toNatClampNeg) 0, s6))))) : Option (Int32 × ej_S)) := rfl
set_option maxRecDepth 20000 in
set_option maxHeartbeats 2000000 in
theorem j8_worthOfWord_11 (x : cw_T) (n : Nat) {F : ej_F} {r0 : Int32 × ej_S} (hq : ej_fin (cV x) F (some .int) (some (.int r0.1)) r0.2) : ∀ (k : Nat) (y1 : Int32) (y2 : Int32) (y3 : Int32) (y4 : Int32) (σ : ej_S), ej_J (cV x) F i8_worthOfWord r0 σ 11 [(0, .ref (cw_a x 2)), (1, .int y1), (2, .int y2), (3, .ref (cw_tR x)), (4, .int y3), (5, .int y4)] [] (m8_worthOfWord_11 n k y1 y2 y3 y4 σ) := by
  intro k
  induction k with
  | zero => intro y1 y2 y3 y4 σ; exact j_none
  | succ k ih =>
    intro y1 y2 y3 y4 σ
    rw [m8_worthOfWord_11_s]
    refine j_iload 5 rfl d8_worthOfWord_11 ?_
    refine j_iload 4 rfl d8_worthOfWord_13 ?_
    refine j_icmp_ge d8_worthOfWord_15 ?_ ?_
    · refine j_ldc d8_worthOfWord_53 ki_X8_68 ?_
      exact j_ireturn hq d8_worthOfWord_55
    · refine j_aload_n 3 rfl d8_worthOfWord_18 ?_
      refine j_iload 5 rfl d8_worthOfWord_19 ?_
      refine j_aaldE d8_worthOfWord_21 (fun h5 => ?_)
      refine j_astore (i := 6) (L' := [(6, .ref (cw_e x (y4.toNatClampNeg))), (0, .ref (cw_a x 2)), (1, .int y1), (2, .int y2), (3, .ref (cw_tR x)), (4, .int y3), (5, .int y4)]) d8_worthOfWord_22 (Nat.le_of_ble_eq_true rfl) rfl ?_
      refine j_aload_n 1 rfl d8_worthOfWord_24 ?_
      refine j_get fl_X8_14 (cV_g_2_0 x σ) d8_worthOfWord_25 ?_
      refine j_iload_n 2 rfl d8_worthOfWord_28 ?_
      refine j_iload_n 3 rfl d8_worthOfWord_29 ?_
      refine j_aload 0 rfl d8_worthOfWord_30 ?_
      refine j_getL h5 fe_X8_98 d8_worthOfWord_32 ?_
      refine j_callVi (c7_spells x n 6 (Nat.le_of_ble_eq_true rfl) (3 + y4.toNatClampNeg) (by omega) y1 y2 σ) lv_X8_75 (cV_rc_t x σ 6 (Nat.le_of_ble_eq_true rfl)) ⟨Nat.le_of_ble_eq_true rfl, Nat.le_of_ble_eq_true rfl⟩ d8_worthOfWord_35 rfl (Nat.le_of_ble_eq_true rfl) (fun r7 s6 => ?_)
      refine j_if_eq d8_worthOfWord_38 ?_ ?_
      · refine j_iinc (i := 5) (v := 1) (Ly := fun x8 => [(5, .int x8), (6, .ref (cw_e x (y4.toNatClampNeg))), (0, .ref (cw_a x 2)), (1, .int y1), (2, .int y2), (3, .ref (cw_tR x)), (4, .int y3)]) 6 d8_worthOfWord_47 rfl ejc_1 (Nat.le_of_ble_eq_true rfl) (fun _ => rfl) (fun x8 => ?_)
        refine j_goto d8_worthOfWord_50 ?_
        exact j_sub [2, 3, 4, 5, 6, 0] rfl (ih y1 y2 y3 x8 s6)
      · refine j_aload 0 rfl d8_worthOfWord_41 ?_
        refine j_getW h5 fe_X8_104 d8_worthOfWord_43 ?_
        exact j_ireturn hq d8_worthOfWord_46
noncomputable def m8_worthOfWord (n : Nat) (a1 : Int32) (a2 : Int32) (σ : ej_S) : Option (Int32 × ej_S) := (m8_worthOfWord_11 n n a1 a2 10 0 σ)
set_option maxRecDepth 20000 in
set_option maxHeartbeats 2000000 in
theorem j8_worthOfWord (x : cw_T) (n : Nat) (a1 : Int32) (a2 : Int32) (σ : ej_S) {F : ej_F} {r0 : Int32 × ej_S} (hq : ej_fin (cV x) F (some .int) (some (.int r0.1)) r0.2) : ej_J (cV x) F i8_worthOfWord r0 σ 0 [(0, .ref (cw_a x 2)), (1, .int a1), (2, .int a2)] [] (m8_worthOfWord n a1 a2 σ) := by
  unfold m8_worthOfWord
  refine j_gets rfl d8_worthOfWord_0 ?_
  refine j_astore_n (i := 3) (L' := [(3, .ref (cw_tR x)), (0, .ref (cw_a x 2)), (1, .int a1), (2, .int a2)]) d8_worthOfWord_3 rfl (Nat.le_of_ble_eq_true rfl) rfl ?_
  refine j_aload_n 0 rfl d8_worthOfWord_4 ?_
  refine j_alenR d8_worthOfWord_5 ?_
  refine j_istore (i := 4) (L' := [(4, .int 10), (3, .ref (cw_tR x)), (0, .ref (cw_a x 2)), (1, .int a1), (2, .int a2)]) d8_worthOfWord_6 (Nat.le_of_ble_eq_true rfl) rfl ?_
  refine j_iconst d8_worthOfWord_8 ejc_0 ?_
  refine j_istore (i := 5) (L' := [(5, .int 0), (4, .int 10), (3, .ref (cw_tR x)), (0, .ref (cw_a x 2)), (1, .int a1), (2, .int a2)]) d8_worthOfWord_9 (Nat.le_of_ble_eq_true rfl) rfl ?_
  exact j_sub [3, 4, 5, 2, 1, 0] rfl (j8_worthOfWord_11 x n hq n a1 a2 10 0 σ)
theorem c8_worthOfWord (x : cw_T) (n : Nat) (a1 : Int32) (a2 : Int32) (σ : ej_S) : ∀ r σ1, m8_worthOfWord n a1 a2 σ = some (r, σ1) → ∀ l, ej_Con l (cV x) i8_worthOfWord yX8_worthOfWord (some .int) [.ref (cw_a x 2), .int a1, .int a2] σ (some (.int r)) σ1 := fun r σ1 h l => ej_con_of (cV_ok x) pn_X8 rfl (Nat.le_of_ble_eq_true rfl) rfl h (fun F hq => j8_worthOfWord x n a1 a2 σ hq)

noncomputable def m8_meaningOf (n : Nat) (a1 : Int32) (a2 : Int32) (a3 : Int32) (σ : ej_S) : Option (Int64 × ej_S) := (if a1 = 97 then ej_bl (m7_packed n 6 a2 a3 σ) fun r6 s5 => (some (r6, s5)) else (if a1 = 48 then ej_bi (m8_numberOf n a2 a3 σ) fun r4 s3 => (some (r4.toInt64, s3)) else (if a1 = 65 then ej_bi (m8_worthOfWord n a2 a3 σ) fun r2 s1 => (some (r2.toInt64, s1)) else (some (0, σ)))))
set_option maxRecDepth 20000 in
set_option maxHeartbeats 2000000 in
theorem j8_meaningOf (x : cw_T) (n : Nat) (a1 : Int32) (a2 : Int32) (a3 : Int32) (σ : ej_S) {F : ej_F} {r0 : Int64 × ej_S} (hq : ej_fin (cV x) F (some .long) (some (.long r0.1)) r0.2) : ej_J (cV x) F i8_meaningOf r0 σ 0 [(0, .ref (cw_a x 2)), (1, .int a1), (2, .int a2), (3, .int a3)] [] (m8_meaningOf n a1 a2 a3 σ) := by
  unfold m8_meaningOf
  refine j_iload_n 1 rfl d8_meaningOf_0 ?_
  refine j_bipush d8_meaningOf_1 ejb_97 ?_
  refine j_icmp_ne d8_meaningOf_3 ?_ ?_
  · refine j_iload_n 1 rfl d8_meaningOf_16 ?_
    refine j_bipush d8_meaningOf_17 ejb_48 ?_
    refine j_icmp_ne d8_meaningOf_19 ?_ ?_
    · refine j_iload_n 1 rfl d8_meaningOf_30 ?_
      refine j_bipush d8_meaningOf_31 ejb_65 ?_
      refine j_icmp_ne d8_meaningOf_33 ?_ ?_
      · refine j_lconst d8_meaningOf_46 ejl_0 ?_
        exact j_lreturn hq d8_meaningOf_47
      · refine j_aload_n 0 rfl d8_meaningOf_36 ?_
        refine j_iload_n 2 rfl d8_meaningOf_37 ?_
        refine j_iload_n 3 rfl d8_meaningOf_38 ?_
        refine j_callVi (c8_worthOfWord x n a2 a3 σ) lv_X8_86 (cV_rc_2 x σ) ⟨Nat.le_of_ble_eq_true rfl, Nat.le_of_ble_eq_true rfl⟩ d8_meaningOf_39 rfl (Nat.le_of_ble_eq_true rfl) (fun r2 s1 => ?_)
        refine j_i2l d8_meaningOf_42 ?_
        refine j_goto d8_meaningOf_43 ?_
        exact j_lreturn hq d8_meaningOf_47
    · refine j_aload_n 0 rfl d8_meaningOf_22 ?_
      refine j_iload_n 2 rfl d8_meaningOf_23 ?_
      refine j_iload_n 3 rfl d8_meaningOf_24 ?_
      refine j_callVi (c8_numberOf x n a2 a3 σ) lv_X8_83 (cV_rc_2 x σ) ⟨Nat.le_of_ble_eq_true rfl, Nat.le_of_ble_eq_true rfl⟩ d8_meaningOf_25 rfl (Nat.le_of_ble_eq_true rfl) (fun r4 s3 => ?_)
      refine j_i2l d8_meaningOf_28 ?_
      exact j_lreturn hq d8_meaningOf_29
  · refine j_aload_n 0 rfl d8_meaningOf_6 ?_
    refine j_get fl_X8_14 (cV_g_2_0 x σ) d8_meaningOf_7 ?_
    refine j_iload_n 2 rfl d8_meaningOf_10 ?_
    refine j_iload_n 3 rfl d8_meaningOf_11 ?_
    refine j_callVl (c7_packed x n 6 (Nat.le_of_ble_eq_true rfl) a2 a3 σ) lv_X8_79 (cV_rc_t x σ 6 (Nat.le_of_ble_eq_true rfl)) ⟨Nat.le_of_ble_eq_true rfl, Nat.le_of_ble_eq_true rfl⟩ d8_meaningOf_12 rfl (Nat.le_of_ble_eq_true rfl) (fun r6 s5 => ?_)
    exact j_lreturn hq d8_meaningOf_15
theorem c8_meaningOf (x : cw_T) (n : Nat) (a1 : Int32) (a2 : Int32) (a3 : Int32) (σ : ej_S) : ∀ r σ1, m8_meaningOf n a1 a2 a3 σ = some (r, σ1) → ∀ l, ej_Con l (cV x) i8_meaningOf yX8_meaningOf (some .long) [.ref (cw_a x 2), .int a1, .int a2, .int a3] σ (some (.long r)) σ1 := fun r σ1 h l => ej_con_of (cV_ok x) pn_X8 rfl (Nat.le_of_ble_eq_true rfl) rfl h (fun F hq => j8_meaningOf x n a1 a2 a3 σ hq)

noncomputable def m8_add (n : Nat) (a1 : Int32) (a2 : Int32) (a3 : Int32) (a4 : Int64) (σ : ej_S) : Option (ej_S) := (if gI σ 12 < 0 then (some σ) else (if 601 ≤ gI σ 12 then (some σ) else (if 601 ≤ gI σ 12 then (some σ) else (if 601 ≤ gI σ 12 then (some σ) else (if 601 ≤ gI σ 12 then (some σ) else ej_ck (gI σ 12) 601 (ej_nm (uA σ 11 ((gI σ 12).toNatClampNeg) a1) fun s1 => ej_ck (gI s1 12) 601 (ej_nm (uA s1 12 ((gI s1 12).toNatClampNeg) a2) fun s2 => ej_ck (gI s2 12) 601 (ej_nm (uA s2 13 ((gI s2 12).toNatClampNeg) a3) fun s3 => ej_ck (gI s3 12) 601 (ej_nm (uB s3 0 ((gI s3 12).toNatClampNeg) a4) fun s4 => ej_nm (uI s4 12 ((gI s4 12) + 1)) fun s5 => (some s5))))))))))
set_option maxRecDepth 20000 in
set_option maxHeartbeats 2000000 in
theorem j8_add (x : cw_T) (n : Nat) (a1 : Int32) (a2 : Int32) (a3 : Int32) (a4 : Int64) (σ : ej_S) {F : ej_F} {r0 : ej_S} (hq : ej_fin (cV x) F none none r0) : ej_J (cV x) F i8_add r0 σ 0 [(0, .ref (cw_a x 2)), (1, .int a1), (2, .int a2), (3, .int a3), (4, .long a4)] [] (m8_add n a1 a2 a3 a4 σ) := by
  unfold m8_add
  refine j_aload_n 0 rfl d8_add_0 ?_
  refine j_get fl_X8_38 (cV_g_2_5 x σ) d8_add_1 ?_
  refine j_if_lt d8_add_4 ?_ ?_
  · exact j_vreturn hq d8_add_106
  · refine j_aload_n 0 rfl d8_add_7 ?_
    refine j_get fl_X8_38 (cV_g_2_5 x σ) d8_add_8 ?_
    refine j_aload_n 0 rfl d8_add_11 ?_
    refine j_get fl_X8_20 (cV_g_2_1 x σ) d8_add_12 ?_
    refine j_alen (cV_a_31 x σ) (Nat.le_of_ble_eq_true rfl) ejn_601 d8_add_15 ?_
    refine j_icmp_ge d8_add_16 ?_ ?_
    · exact j_vreturn hq d8_add_106
    · refine j_aload_n 0 rfl d8_add_19 ?_
      refine j_get fl_X8_38 (cV_g_2_5 x σ) d8_add_20 ?_
      refine j_aload_n 0 rfl d8_add_23 ?_
      refine j_get fl_X8_24 (cV_g_2_2 x σ) d8_add_24 ?_
      refine j_alen (cV_a_32 x σ) (Nat.le_of_ble_eq_true rfl) ejn_601 d8_add_27 ?_
      refine j_icmp_ge d8_add_28 ?_ ?_
      · exact j_vreturn hq d8_add_106
      · refine j_aload_n 0 rfl d8_add_31 ?_
        refine j_get fl_X8_38 (cV_g_2_5 x σ) d8_add_32 ?_
        refine j_aload_n 0 rfl d8_add_35 ?_
        refine j_get fl_X8_27 (cV_g_2_3 x σ) d8_add_36 ?_
        refine j_alen (cV_a_33 x σ) (Nat.le_of_ble_eq_true rfl) ejn_601 d8_add_39 ?_
        refine j_icmp_ge d8_add_40 ?_ ?_
        · exact j_vreturn hq d8_add_106
        · refine j_aload_n 0 rfl d8_add_43 ?_
          refine j_get fl_X8_38 (cV_g_2_5 x σ) d8_add_44 ?_
          refine j_aload_n 0 rfl d8_add_47 ?_
          refine j_get fl_X8_30 (cV_g_2_4 x σ) d8_add_48 ?_
          refine j_alen (cV_a_34 x σ) (Nat.le_of_ble_eq_true rfl) ejn_601 d8_add_51 ?_
          refine j_icmp_ge d8_add_52 ?_ ?_
          · exact j_vreturn hq d8_add_106
          · refine j_aload_n 0 rfl d8_add_55 ?_
            refine j_get fl_X8_20 (cV_g_2_1 x σ) d8_add_56 ?_
            refine j_aload_n 0 rfl d8_add_59 ?_
            refine j_get fl_X8_38 (cV_g_2_5 x σ) d8_add_60 ?_
            refine j_iload_n 1 rfl d8_add_63 ?_
            refine j_iast (cV_s_31 x σ ((gI σ 12).toNatClampNeg) a1) d8_add_64 (fun s1 => ?_)
            refine j_aload_n 0 rfl d8_add_65 ?_
            refine j_get fl_X8_24 (cV_g_2_2 x s1) d8_add_66 ?_
            refine j_aload_n 0 rfl d8_add_69 ?_
            refine j_get fl_X8_38 (cV_g_2_5 x s1) d8_add_70 ?_
            refine j_iload_n 2 rfl d8_add_73 ?_
            refine j_iast (cV_s_32 x s1 ((gI s1 12).toNatClampNeg) a2) d8_add_74 (fun s2 => ?_)
            refine j_aload_n 0 rfl d8_add_75 ?_
            refine j_get fl_X8_27 (cV_g_2_3 x s2) d8_add_76 ?_
            refine j_aload_n 0 rfl d8_add_79 ?_
            refine j_get fl_X8_38 (cV_g_2_5 x s2) d8_add_80 ?_
            refine j_iload_n 3 rfl d8_add_83 ?_
            refine j_iast (cV_s_33 x s2 ((gI s2 12).toNatClampNeg) a3) d8_add_84 (fun s3 => ?_)
            refine j_aload_n 0 rfl d8_add_85 ?_
            refine j_get fl_X8_30 (cV_g_2_4 x s3) d8_add_86 ?_
            refine j_aload_n 0 rfl d8_add_89 ?_
            refine j_get fl_X8_38 (cV_g_2_5 x s3) d8_add_90 ?_
            refine j_lload 4 rfl d8_add_93 ?_
            refine j_last (cV_s_34 x s3 ((gI s3 12).toNatClampNeg) a4) d8_add_95 (fun s4 => ?_)
            refine j_aload_n 0 rfl d8_add_96 ?_
            refine j_dup d8_add_97 rfl ?_
            refine j_get fl_X8_38 (cV_g_2_5 x s4) d8_add_98 ?_
            refine j_iconst d8_add_101 ejc_1 ?_
            refine j_iadd d8_add_102 ?_
            refine j_put fl_X8_38 (cV_p_2_5 x s4 ((gI s4 12) + 1)) rfl rfl d8_add_103 (fun s5 => ?_)
            exact j_vreturn hq d8_add_106
theorem c8_add (x : cw_T) (n : Nat) (a1 : Int32) (a2 : Int32) (a3 : Int32) (a4 : Int64) (σ : ej_S) : ∀ σ1, m8_add n a1 a2 a3 a4 σ = some σ1 → ∀ l, ej_Con l (cV x) i8_add yX8_add none [.ref (cw_a x 2), .int a1, .int a2, .int a3, .long a4] σ none σ1 := fun σ1 h l => ej_con_of (cV_ok x) pn_X8 rfl (Nat.le_of_ble_eq_true rfl) rfl h (fun F hq => j8_add x n a1 a2 a3 a4 σ hq)

noncomputable def m8_scan_124 (n : Nat) (t1 : Nat)  (σ : ej_S) : Option (ej_S) := ej_bi (m7_length n 6 σ) fun r6 s5 => ej_bi (m7_length n 6 s5) fun r8 s7 => ej_bv (m8_add n 0 r6 r8 0 s7) fun s9 => (some s9)
set_option maxRecDepth 20000 in
set_option maxHeartbeats 2000000 in
theorem j8_scan_124 (x : cw_T) (n : Nat) (t1 : Nat) (ht1 : t1 < 7) {F : ej_F} {r0 : ej_S} (hq : ej_fin (cV x) F none none r0)  (σ : ej_S) : ej_J (cV x) F i8_scan r0 σ 124 [(0, .ref (cw_a x 2))] [] (m8_scan_124 n t1  σ) := by
  unfold m8_scan_124
  refine j_aload_n 0 rfl d8_scan_124 ?_
  refine j_iconst d8_scan_125 ejc_0 ?_
  refine j_aload_n 0 rfl d8_scan_126 ?_
  refine j_get fl_X8_14 (cV_g_2_0 x σ) d8_scan_127 ?_
  refine j_callVi (c7_length x n 6 (Nat.le_of_ble_eq_true rfl) σ) lv_X8_42 (cV_rc_t x σ 6 (Nat.le_of_ble_eq_true rfl)) ⟨Nat.le_of_ble_eq_true rfl, Nat.le_of_ble_eq_true rfl⟩ d8_scan_130 rfl (Nat.le_of_ble_eq_true rfl) (fun r6 s5 => ?_)
  refine j_aload_n 0 rfl d8_scan_133 ?_
  refine j_get fl_X8_14 (cV_g_2_0 x s5) d8_scan_134 ?_
  refine j_callVi (c7_length x n 6 (Nat.le_of_ble_eq_true rfl) s5) lv_X8_42 (cV_rc_t x s5 6 (Nat.le_of_ble_eq_true rfl)) ⟨Nat.le_of_ble_eq_true rfl, Nat.le_of_ble_eq_true rfl⟩ d8_scan_137 rfl (Nat.le_of_ble_eq_true rfl) (fun r8 s7 => ?_)
  refine j_lconst d8_scan_140 ejl_0 ?_
  refine j_callVv (c8_add x n 0 r6 r8 0 s7) lv_X8_64 (cV_rc_2 x s7) ⟨Nat.le_of_ble_eq_true rfl, Nat.le_of_ble_eq_true rfl⟩ d8_scan_141 rfl (Nat.le_of_ble_eq_true rfl) (fun s9 => ?_)
  exact j_vreturn hq d8_scan_144
noncomputable def m8_scan_17 (n : Nat) (t1 : Nat) (k : Nat) : Int32 → Int32 → ej_S → Option (ej_S) := Nat.rec (motive := fun _ => Int32 → Int32 → ej_S → Option (ej_S)) (fun _ _ _ => none) (fun _ ih y3 y4 σ => (if 600 ≤ y4 then (m8_scan_124 n t1 σ) else ej_bi (m7_length n 6 σ) fun r11 s10 => (if r11 ≤ y3 then (m8_scan_124 n t1 s10) else ej_bi (m7_byteAt n 6 y3 s10) fun r13 s12 => (if r13 = 32 then ej_nm (y3 + 1) fun x14 => ej_nm (y4 + 1) fun x15 => (ih x14 x15 s12) else (if r13 = 9 then ej_nm (y3 + 1) fun x27 => ej_nm (y4 + 1) fun x28 => (ih x27 x28 s12) else (if r13 = 35 then ej_bi (m8_endOfRemark n y3 s12) fun r25 s24 => ej_nm (y4 + 1) fun x26 => (ih r25 x26 s24) else ej_bi (m8_sortOf n r13 s12) fun r17 s16 => ej_bi (m8_endOfToken n r17 y3 s16) fun r19 s18 => ej_bl (m8_meaningOf n r17 y3 r19 s18) fun r21 s20 => ej_bv (m8_add n r17 y3 r19 r21 s20) fun s22 => ej_nm (y4 + 1) fun x23 => (ih r19 x23 s22))))))) k
theorem m8_scan_17_s (n : Nat) (t1 : Nat) (k : Nat) (y3 : Int32) (y4 : Int32) (σ : ej_S) : m8_scan_17 n t1 (k + 1) y3 y4 σ = ((if 600 ≤ y4 then (m8_scan_124 n t1 σ) else ej_bi (m7_length n 6 σ) fun r11 s10 => (if r11 ≤ y3 then (m8_scan_124 n t1 s10) else ej_bi (m7_byteAt n 6 y3 s10) fun r13 s12 => (if r13 = 32 then ej_nm (y3 + 1) fun x14 => ej_nm (y4 + 1) fun x15 => ((m8_scan_17 n t1 k) x14 x15 s12) else (if r13 = 9 then ej_nm (y3 + 1) fun x27 => ej_nm (y4 + 1) fun x28 => ((m8_scan_17 n t1 k) x27 x28 s12) else (if r13 = 35 then ej_bi (m8_endOfRemark n y3 s12) fun r25 s24 => ej_nm (y4 + 1) fun x26 => ((m8_scan_17 n t1 k) r25 x26 s24) else ej_bi (m8_sortOf n r13 s12) fun r17 s16 => ej_bi (m8_endOfToken n r17 y3 s16) fun r19 s18 => ej_bl (m8_meaningOf n r17 y3 r19 s18) fun r21 s20 => ej_bv (m8_add n r17 y3 r19 r21 s20) fun s22 => ej_nm (y4 + 1) fun x23 => ((m8_scan_17 n t1 k) r19 x23 s22)))))) : Option (ej_S)) := rfl
set_option maxRecDepth 20000 in
set_option maxHeartbeats 2000000 in
theorem j8_scan_17 (x : cw_T) (n : Nat) (t1 : Nat) (ht1 : t1 < 7) {F : ej_F} {r0 : ej_S} (hq : ej_fin (cV x) F none none r0) : ∀ (k : Nat) (y3 : Int32) (y4 : Int32) (σ : ej_S), ej_J (cV x) F i8_scan r0 σ 17 [(0, .ref (cw_a x 2)), (2, .int y3), (3, .int y4)] [] (m8_scan_17 n t1 k y3 y4 σ) := by
  intro k
  induction k with
  | zero => intro y3 y4 σ; exact j_none
  | succ k ih =>
    intro y3 y4 σ
    rw [m8_scan_17_s]
    refine j_iload_n 2 rfl d8_scan_17 ?_
    refine j_sipush d8_scan_18 ejs_600 ?_
    refine j_icmp_ge d8_scan_21 ?_ ?_
    · exact j_sub [0] rfl (j8_scan_124 x n t1 ht1 hq σ)
    · refine j_iload_n 1 rfl d8_scan_24 ?_
      refine j_aload_n 0 rfl d8_scan_25 ?_
      refine j_get fl_X8_14 (cV_g_2_0 x σ) d8_scan_26 ?_
      refine j_callVi (c7_length x n 6 (Nat.le_of_ble_eq_true rfl) σ) lv_X8_42 (cV_rc_t x σ 6 (Nat.le_of_ble_eq_true rfl)) ⟨Nat.le_of_ble_eq_true rfl, Nat.le_of_ble_eq_true rfl⟩ d8_scan_29 rfl (Nat.le_of_ble_eq_true rfl) (fun r11 s10 => ?_)
      refine j_icmp_ge d8_scan_32 ?_ ?_
      · exact j_sub [0] rfl (j8_scan_124 x n t1 ht1 hq s10)
      · refine j_aload_n 0 rfl d8_scan_35 ?_
        refine j_get fl_X8_14 (cV_g_2_0 x s10) d8_scan_36 ?_
        refine j_iload_n 1 rfl d8_scan_39 ?_
        refine j_callVi (c7_byteAt x n 6 (Nat.le_of_ble_eq_true rfl) y3 s10) lv_X8_46 (cV_rc_t x s10 6 (Nat.le_of_ble_eq_true rfl)) ⟨Nat.le_of_ble_eq_true rfl, Nat.le_of_ble_eq_true rfl⟩ d8_scan_40 rfl (Nat.le_of_ble_eq_true rfl) (fun r13 s12 => ?_)
        refine j_istore (i := 4) (L' := [(4, .int r13), (0, .ref (cw_a x 2)), (2, .int y3), (3, .int y4)]) d8_scan_43 (Nat.le_of_ble_eq_true rfl) rfl ?_
        refine j_iload 0 rfl d8_scan_45 ?_
        refine j_bipush d8_scan_47 ejb_32 ?_
        refine j_icmp_eq d8_scan_49 ?_ ?_
        · refine j_iinc (i := 2) (v := 1) (Ly := fun x14 => [(2, .int x14), (4, .int r13), (0, .ref (cw_a x 2)), (3, .int y4)]) 2 d8_scan_59 rfl ejc_1 (Nat.le_of_ble_eq_true rfl) (fun _ => rfl) (fun x14 => ?_)
          refine j_goto d8_scan_62 ?_
          refine j_iinc (i := 3) (v := 1) (Ly := fun x15 => [(3, .int x15), (2, .int x14), (4, .int r13), (0, .ref (cw_a x 2))]) 3 d8_scan_118 rfl ejc_1 (Nat.le_of_ble_eq_true rfl) (fun _ => rfl) (fun x15 => ?_)
          refine j_goto d8_scan_121 ?_
          exact j_sub [3, 1, 0] rfl (ih x14 x15 s12)
        · refine j_iload 0 rfl d8_scan_52 ?_
          refine j_bipush d8_scan_54 ejb_9 ?_
          refine j_icmp_ne d8_scan_56 ?_ ?_
          · refine j_iload 0 rfl d8_scan_65 ?_
            refine j_bipush d8_scan_67 ejb_35 ?_
            refine j_icmp_ne d8_scan_69 ?_ ?_
            · refine j_iload 0 rfl d8_scan_81 ?_
              refine j_callSi (c8_sortOf x n r13 s12) ls_X8_53 ⟨Nat.le_of_ble_eq_true rfl, Nat.le_of_ble_eq_true rfl⟩ d8_scan_83 rfl (Nat.le_of_ble_eq_true rfl) (fun r17 s16 => ?_)
              refine j_istore (i := 5) (L' := [(5, .int r17), (4, .int r13), (0, .ref (cw_a x 2)), (2, .int y3), (3, .int y4)]) d8_scan_86 (Nat.le_of_ble_eq_true rfl) rfl ?_
              refine j_aload_n 2 rfl d8_scan_88 ?_
              refine j_iload 0 rfl d8_scan_89 ?_
              refine j_iload_n 3 rfl d8_scan_91 ?_
              refine j_callVi (c8_endOfToken x n r17 y3 s16) lv_X8_56 (cV_rc_2 x s16) ⟨Nat.le_of_ble_eq_true rfl, Nat.le_of_ble_eq_true rfl⟩ d8_scan_92 rfl (Nat.le_of_ble_eq_true rfl) (fun r19 s18 => ?_)
              refine j_istore (i := 6) (L' := [(6, .int r19), (5, .int r17), (4, .int r13), (0, .ref (cw_a x 2)), (2, .int y3), (3, .int y4)]) d8_scan_95 (Nat.le_of_ble_eq_true rfl) rfl ?_
              refine j_aload_n 3 rfl d8_scan_97 ?_
              refine j_iload 1 rfl d8_scan_98 ?_
              refine j_iload_n 4 rfl d8_scan_100 ?_
              refine j_iload 0 rfl d8_scan_101 ?_
              refine j_aload_n 3 rfl d8_scan_103 ?_
              refine j_iload 1 rfl d8_scan_104 ?_
              refine j_iload_n 4 rfl d8_scan_106 ?_
              refine j_iload 0 rfl d8_scan_107 ?_
              refine j_callVl (c8_meaningOf x n r17 y3 r19 s18) lv_X8_60 (cV_rc_2 x s18) ⟨Nat.le_of_ble_eq_true rfl, Nat.le_of_ble_eq_true rfl⟩ d8_scan_109 rfl (Nat.le_of_ble_eq_true rfl) (fun r21 s20 => ?_)
              refine j_callVv (c8_add x n r17 y3 r19 r21 s20) lv_X8_64 (cV_rc_2 x s20) ⟨Nat.le_of_ble_eq_true rfl, Nat.le_of_ble_eq_true rfl⟩ d8_scan_112 rfl (Nat.le_of_ble_eq_true rfl) (fun s22 => ?_)
              refine j_iload 0 rfl d8_scan_115 ?_
              refine j_istore_n (i := 2) (L' := [(2, .int r19), (6, .int r19), (5, .int r17), (4, .int r13), (0, .ref (cw_a x 2)), (3, .int y4)]) d8_scan_117 rfl (Nat.le_of_ble_eq_true rfl) rfl ?_
              refine j_iinc (i := 3) (v := 1) (Ly := fun x23 => [(3, .int x23), (2, .int r19), (6, .int r19), (5, .int r17), (4, .int r13), (0, .ref (cw_a x 2))]) 5 d8_scan_118 rfl ejc_1 (Nat.le_of_ble_eq_true rfl) (fun _ => rfl) (fun x23 => ?_)
              refine j_goto d8_scan_121 ?_
              exact j_sub [5, 1, 0] rfl (ih r19 x23 s22)
            · refine j_aload_n 1 rfl d8_scan_72 ?_
              refine j_iload_n 2 rfl d8_scan_73 ?_
              refine j_callVi (c8_endOfRemark x n y3 s12) lv_X8_50 (cV_rc_2 x s12) ⟨Nat.le_of_ble_eq_true rfl, Nat.le_of_ble_eq_true rfl⟩ d8_scan_74 rfl (Nat.le_of_ble_eq_true rfl) (fun r25 s24 => ?_)
              refine j_istore_n (i := 2) (L' := [(2, .int r25), (4, .int r13), (0, .ref (cw_a x 2)), (3, .int y4)]) d8_scan_77 rfl (Nat.le_of_ble_eq_true rfl) rfl ?_
              refine j_goto d8_scan_78 ?_
              refine j_iinc (i := 3) (v := 1) (Ly := fun x26 => [(3, .int x26), (2, .int r25), (4, .int r13), (0, .ref (cw_a x 2))]) 3 d8_scan_118 rfl ejc_1 (Nat.le_of_ble_eq_true rfl) (fun _ => rfl) (fun x26 => ?_)
              refine j_goto d8_scan_121 ?_
              exact j_sub [3, 1, 0] rfl (ih r25 x26 s24)
          · refine j_iinc (i := 2) (v := 1) (Ly := fun x27 => [(2, .int x27), (4, .int r13), (0, .ref (cw_a x 2)), (3, .int y4)]) 2 d8_scan_59 rfl ejc_1 (Nat.le_of_ble_eq_true rfl) (fun _ => rfl) (fun x27 => ?_)
            refine j_goto d8_scan_62 ?_
            refine j_iinc (i := 3) (v := 1) (Ly := fun x28 => [(3, .int x28), (2, .int x27), (4, .int r13), (0, .ref (cw_a x 2))]) 3 d8_scan_118 rfl ejc_1 (Nat.le_of_ble_eq_true rfl) (fun _ => rfl) (fun x28 => ?_)
            refine j_goto d8_scan_121 ?_
            exact j_sub [3, 1, 0] rfl (ih x27 x28 s12)
noncomputable def m8_scan (n : Nat) (t1 : Nat)  (σ : ej_S) : Option (ej_S) := ej_bv (m7_become n 6 t1 σ) fun s1 => ej_nm (uI s1 12 0) fun s2 => (m8_scan_17 n t1 n 0 0 s2)
set_option maxRecDepth 20000 in
set_option maxHeartbeats 2000000 in
theorem j8_scan (x : cw_T) (n : Nat) (t1 : Nat) (ht1 : t1 < 7)  (σ : ej_S) {F : ej_F} {r0 : ej_S} (hq : ej_fin (cV x) F none none r0) : ej_J (cV x) F i8_scan r0 σ 0 [(0, .ref (cw_a x 2)), (1, .ref (cw_a x (10 + t1)))] [] (m8_scan n t1  σ) := by
  unfold m8_scan
  refine j_aload_n 0 rfl d8_scan_0 ?_
  refine j_get fl_X8_14 (cV_g_2_0 x σ) d8_scan_1 ?_
  refine j_aload_n 1 rfl d8_scan_4 ?_
  refine j_callVv (c7_become x n 6 (Nat.le_of_ble_eq_true rfl) t1 ht1 σ) lv_X8_34 (cV_rc_t x σ 6 (Nat.le_of_ble_eq_true rfl)) ⟨Nat.le_of_ble_eq_true rfl, Nat.le_of_ble_eq_true rfl⟩ d8_scan_5 rfl (Nat.le_of_ble_eq_true rfl) (fun s1 => ?_)
  refine j_aload_n 0 rfl d8_scan_8 ?_
  refine j_iconst d8_scan_9 ejc_0 ?_
  refine j_put fl_X8_38 (cV_p_2_5 x s1 0) rfl rfl d8_scan_10 (fun s2 => ?_)
  refine j_iconst d8_scan_13 ejc_0 ?_
  refine j_istore_n (i := 2) (L' := [(2, .int 0), (0, .ref (cw_a x 2)), (1, .ref (cw_a x (10 + t1)))]) d8_scan_14 rfl (Nat.le_of_ble_eq_true rfl) rfl ?_
  refine j_iconst d8_scan_15 ejc_0 ?_
  refine j_istore_n (i := 3) (L' := [(3, .int 0), (2, .int 0), (0, .ref (cw_a x 2)), (1, .ref (cw_a x (10 + t1)))]) d8_scan_16 rfl (Nat.le_of_ble_eq_true rfl) rfl ?_
  exact j_sub [2, 1, 0] rfl (j8_scan_17 x n t1 ht1 hq n 0 0 s2)
theorem c8_scan (x : cw_T) (n : Nat) (t1 : Nat) (ht1 : t1 < 7)  (σ : ej_S) : ∀ σ1, m8_scan n t1  σ = some σ1 → ∀ l, ej_Con l (cV x) i8_scan yX8_scan none [.ref (cw_a x 2), .ref (cw_a x (10 + t1))] σ none σ1 := fun σ1 h l => ej_con_of (cV_ok x) pn_X8 rfl (Nat.le_of_ble_eq_true rfl) rfl h (fun F hq => j8_scan x n t1 ht1  σ hq)

noncomputable def m8_sortAt (n : Nat) (a1 : Int32) (σ : ej_S) : Option (Int32 × ej_S) := (if a1 < 0 then (some (0, σ)) else (if gI σ 12 ≤ a1 then (some (0, σ)) else (if 601 ≤ a1 then (some (0, σ)) else ej_ck a1 601 ((some (gA σ 11 a1.toNatClampNeg, σ))))))
set_option maxRecDepth 20000 in
set_option maxHeartbeats 2000000 in
theorem j8_sortAt (x : cw_T) (n : Nat) (a1 : Int32) (σ : ej_S) {F : ej_F} {r0 : Int32 × ej_S} (hq : ej_fin (cV x) F (some .int) (some (.int r0.1)) r0.2) : ej_J (cV x) F i8_sortAt r0 σ 0 [(0, .ref (cw_a x 2)), (1, .int a1)] [] (m8_sortAt n a1 σ) := by
  unfold m8_sortAt
  refine j_iload_n 1 rfl d8_sortAt_0 ?_
  refine j_if_lt d8_sortAt_1 ?_ ?_
  · refine j_iconst d8_sortAt_30 ejc_0 ?_
    exact j_ireturn hq d8_sortAt_31
  · refine j_iload_n 1 rfl d8_sortAt_4 ?_
    refine j_aload_n 0 rfl d8_sortAt_5 ?_
    refine j_get fl_X8_38 (cV_g_2_5 x σ) d8_sortAt_6 ?_
    refine j_icmp_ge d8_sortAt_9 ?_ ?_
    · refine j_iconst d8_sortAt_30 ejc_0 ?_
      exact j_ireturn hq d8_sortAt_31
    · refine j_iload_n 1 rfl d8_sortAt_12 ?_
      refine j_aload_n 0 rfl d8_sortAt_13 ?_
      refine j_get fl_X8_20 (cV_g_2_1 x σ) d8_sortAt_14 ?_
      refine j_alen (cV_a_31 x σ) (Nat.le_of_ble_eq_true rfl) ejn_601 d8_sortAt_17 ?_
      refine j_icmp_ge d8_sortAt_18 ?_ ?_
      · refine j_iconst d8_sortAt_30 ejc_0 ?_
        exact j_ireturn hq d8_sortAt_31
      · refine j_aload_n 0 rfl d8_sortAt_21 ?_
        refine j_get fl_X8_20 (cV_g_2_1 x σ) d8_sortAt_22 ?_
        refine j_iload_n 1 rfl d8_sortAt_25 ?_
        refine j_iald (cV_a_31 x σ) d8_sortAt_26 ?_
        refine j_goto d8_sortAt_27 ?_
        exact j_ireturn hq d8_sortAt_31
theorem c8_sortAt (x : cw_T) (n : Nat) (a1 : Int32) (σ : ej_S) : ∀ r σ1, m8_sortAt n a1 σ = some (r, σ1) → ∀ l, ej_Con l (cV x) i8_sortAt yX8_sortAt (some .int) [.ref (cw_a x 2), .int a1] σ (some (.int r)) σ1 := fun r σ1 h l => ej_con_of (cV_ok x) pn_X8 rfl (Nat.le_of_ble_eq_true rfl) rfl h (fun F hq => j8_sortAt x n a1 σ hq)

noncomputable def m8_beginAt (n : Nat) (a1 : Int32) (σ : ej_S) : Option (Int32 × ej_S) := (if a1 < 0 then ej_bi (m7_length n 6 σ) fun r2 s1 => (some (r2, s1)) else (if gI σ 12 ≤ a1 then ej_bi (m7_length n 6 σ) fun r4 s3 => (some (r4, s3)) else (if 601 ≤ a1 then ej_bi (m7_length n 6 σ) fun r6 s5 => (some (r6, s5)) else ej_ck a1 601 ((some (gA σ 12 a1.toNatClampNeg, σ))))))
set_option maxRecDepth 20000 in
set_option maxHeartbeats 2000000 in
theorem j8_beginAt (x : cw_T) (n : Nat) (a1 : Int32) (σ : ej_S) {F : ej_F} {r0 : Int32 × ej_S} (hq : ej_fin (cV x) F (some .int) (some (.int r0.1)) r0.2) : ej_J (cV x) F i8_beginAt r0 σ 0 [(0, .ref (cw_a x 2)), (1, .int a1)] [] (m8_beginAt n a1 σ) := by
  unfold m8_beginAt
  refine j_iload_n 1 rfl d8_beginAt_0 ?_
  refine j_if_lt d8_beginAt_1 ?_ ?_
  · refine j_aload_n 0 rfl d8_beginAt_30 ?_
    refine j_get fl_X8_14 (cV_g_2_0 x σ) d8_beginAt_31 ?_
    refine j_callVi (c7_length x n 6 (Nat.le_of_ble_eq_true rfl) σ) lv_X8_42 (cV_rc_t x σ 6 (Nat.le_of_ble_eq_true rfl)) ⟨Nat.le_of_ble_eq_true rfl, Nat.le_of_ble_eq_true rfl⟩ d8_beginAt_34 rfl (Nat.le_of_ble_eq_true rfl) (fun r2 s1 => ?_)
    exact j_ireturn hq d8_beginAt_37
  · refine j_iload_n 1 rfl d8_beginAt_4 ?_
    refine j_aload_n 0 rfl d8_beginAt_5 ?_
    refine j_get fl_X8_38 (cV_g_2_5 x σ) d8_beginAt_6 ?_
    refine j_icmp_ge d8_beginAt_9 ?_ ?_
    · refine j_aload_n 0 rfl d8_beginAt_30 ?_
      refine j_get fl_X8_14 (cV_g_2_0 x σ) d8_beginAt_31 ?_
      refine j_callVi (c7_length x n 6 (Nat.le_of_ble_eq_true rfl) σ) lv_X8_42 (cV_rc_t x σ 6 (Nat.le_of_ble_eq_true rfl)) ⟨Nat.le_of_ble_eq_true rfl, Nat.le_of_ble_eq_true rfl⟩ d8_beginAt_34 rfl (Nat.le_of_ble_eq_true rfl) (fun r4 s3 => ?_)
      exact j_ireturn hq d8_beginAt_37
    · refine j_iload_n 1 rfl d8_beginAt_12 ?_
      refine j_aload_n 0 rfl d8_beginAt_13 ?_
      refine j_get fl_X8_24 (cV_g_2_2 x σ) d8_beginAt_14 ?_
      refine j_alen (cV_a_32 x σ) (Nat.le_of_ble_eq_true rfl) ejn_601 d8_beginAt_17 ?_
      refine j_icmp_ge d8_beginAt_18 ?_ ?_
      · refine j_aload_n 0 rfl d8_beginAt_30 ?_
        refine j_get fl_X8_14 (cV_g_2_0 x σ) d8_beginAt_31 ?_
        refine j_callVi (c7_length x n 6 (Nat.le_of_ble_eq_true rfl) σ) lv_X8_42 (cV_rc_t x σ 6 (Nat.le_of_ble_eq_true rfl)) ⟨Nat.le_of_ble_eq_true rfl, Nat.le_of_ble_eq_true rfl⟩ d8_beginAt_34 rfl (Nat.le_of_ble_eq_true rfl) (fun r6 s5 => ?_)
        exact j_ireturn hq d8_beginAt_37
      · refine j_aload_n 0 rfl d8_beginAt_21 ?_
        refine j_get fl_X8_24 (cV_g_2_2 x σ) d8_beginAt_22 ?_
        refine j_iload_n 1 rfl d8_beginAt_25 ?_
        refine j_iald (cV_a_32 x σ) d8_beginAt_26 ?_
        refine j_goto d8_beginAt_27 ?_
        exact j_ireturn hq d8_beginAt_37
theorem c8_beginAt (x : cw_T) (n : Nat) (a1 : Int32) (σ : ej_S) : ∀ r σ1, m8_beginAt n a1 σ = some (r, σ1) → ∀ l, ej_Con l (cV x) i8_beginAt yX8_beginAt (some .int) [.ref (cw_a x 2), .int a1] σ (some (.int r)) σ1 := fun r σ1 h l => ej_con_of (cV_ok x) pn_X8 rfl (Nat.le_of_ble_eq_true rfl) rfl h (fun F hq => j8_beginAt x n a1 σ hq)

noncomputable def m8_lengthAt (n : Nat) (a1 : Int32) (σ : ej_S) : Option (Int32 × ej_S) := (if a1 < 0 then (some (0, σ)) else (if gI σ 12 ≤ a1 then (some (0, σ)) else (if 601 ≤ a1 then (some (0, σ)) else (if 601 ≤ a1 then (some (0, σ)) else ej_ck a1 601 (ej_ck a1 601 ((some ((gA σ 13 a1.toNatClampNeg) - (gA σ 12 a1.toNatClampNeg), σ))))))))
set_option maxRecDepth 20000 in
set_option maxHeartbeats 2000000 in
theorem j8_lengthAt (x : cw_T) (n : Nat) (a1 : Int32) (σ : ej_S) {F : ej_F} {r0 : Int32 × ej_S} (hq : ej_fin (cV x) F (some .int) (some (.int r0.1)) r0.2) : ej_J (cV x) F i8_lengthAt r0 σ 0 [(0, .ref (cw_a x 2)), (1, .int a1)] [] (m8_lengthAt n a1 σ) := by
  unfold m8_lengthAt
  refine j_iload_n 1 rfl d8_lengthAt_0 ?_
  refine j_if_lt d8_lengthAt_1 ?_ ?_
  · refine j_iconst d8_lengthAt_46 ejc_0 ?_
    exact j_ireturn hq d8_lengthAt_47
  · refine j_iload_n 1 rfl d8_lengthAt_4 ?_
    refine j_aload_n 0 rfl d8_lengthAt_5 ?_
    refine j_get fl_X8_38 (cV_g_2_5 x σ) d8_lengthAt_6 ?_
    refine j_icmp_ge d8_lengthAt_9 ?_ ?_
    · refine j_iconst d8_lengthAt_46 ejc_0 ?_
      exact j_ireturn hq d8_lengthAt_47
    · refine j_iload_n 1 rfl d8_lengthAt_12 ?_
      refine j_aload_n 0 rfl d8_lengthAt_13 ?_
      refine j_get fl_X8_24 (cV_g_2_2 x σ) d8_lengthAt_14 ?_
      refine j_alen (cV_a_32 x σ) (Nat.le_of_ble_eq_true rfl) ejn_601 d8_lengthAt_17 ?_
      refine j_icmp_ge d8_lengthAt_18 ?_ ?_
      · refine j_iconst d8_lengthAt_46 ejc_0 ?_
        exact j_ireturn hq d8_lengthAt_47
      · refine j_iload_n 1 rfl d8_lengthAt_21 ?_
        refine j_aload_n 0 rfl d8_lengthAt_22 ?_
        refine j_get fl_X8_27 (cV_g_2_3 x σ) d8_lengthAt_23 ?_
        refine j_alen (cV_a_33 x σ) (Nat.le_of_ble_eq_true rfl) ejn_601 d8_lengthAt_26 ?_
        refine j_icmp_ge d8_lengthAt_27 ?_ ?_
        · refine j_iconst d8_lengthAt_46 ejc_0 ?_
          exact j_ireturn hq d8_lengthAt_47
        · refine j_aload_n 0 rfl d8_lengthAt_30 ?_
          refine j_get fl_X8_27 (cV_g_2_3 x σ) d8_lengthAt_31 ?_
          refine j_iload_n 1 rfl d8_lengthAt_34 ?_
          refine j_iald (cV_a_33 x σ) d8_lengthAt_35 ?_
          refine j_aload_n 0 rfl d8_lengthAt_36 ?_
          refine j_get fl_X8_24 (cV_g_2_2 x σ) d8_lengthAt_37 ?_
          refine j_iload_n 1 rfl d8_lengthAt_40 ?_
          refine j_iald (cV_a_32 x σ) d8_lengthAt_41 ?_
          refine j_isub d8_lengthAt_42 ?_
          refine j_goto d8_lengthAt_43 ?_
          exact j_ireturn hq d8_lengthAt_47
theorem c8_lengthAt (x : cw_T) (n : Nat) (a1 : Int32) (σ : ej_S) : ∀ r σ1, m8_lengthAt n a1 σ = some (r, σ1) → ∀ l, ej_Con l (cV x) i8_lengthAt yX8_lengthAt (some .int) [.ref (cw_a x 2), .int a1] σ (some (.int r)) σ1 := fun r σ1 h l => ej_con_of (cV_ok x) pn_X8 rfl (Nat.le_of_ble_eq_true rfl) rfl h (fun F hq => j8_lengthAt x n a1 σ hq)

noncomputable def m8_isAt (n : Nat) (t2 : Nat) (a1 : Int32) (σ : ej_S) : Option (Int32 × ej_S) := ej_bi (m8_beginAt n a1 σ) fun r2 s1 => ej_bi (m8_lengthAt n a1 s1) fun r4 s3 => ej_bi (m7_spells n 6 t2 r2 (r2 + r4) s3) fun r6 s5 => (some (ej_bz r6, s5))
set_option maxRecDepth 20000 in
set_option maxHeartbeats 2000000 in
theorem j8_isAt (x : cw_T) (n : Nat) (t2 : Nat) (ht2 : t2 < 13) (a1 : Int32) (σ : ej_S) {F : ej_F} {r0 : Int32 × ej_S} (hq : ej_fin (cV x) F (some .boolean) (some (.int r0.1)) r0.2) : ej_J (cV x) F i8_isAt r0 σ 0 [(0, .ref (cw_a x 2)), (1, .int a1), (2, .ref (cw_k x t2))] [] (m8_isAt n t2 a1 σ) := by
  unfold m8_isAt
  refine j_aload_n 0 rfl d8_isAt_0 ?_
  refine j_iload_n 1 rfl d8_isAt_1 ?_
  refine j_callVi (c8_beginAt x n a1 σ) lv_X8_69 (cV_rc_2 x σ) ⟨Nat.le_of_ble_eq_true rfl, Nat.le_of_ble_eq_true rfl⟩ d8_isAt_2 rfl (Nat.le_of_ble_eq_true rfl) (fun r2 s1 => ?_)
  refine j_istore_n (i := 3) (L' := [(3, .int r2), (0, .ref (cw_a x 2)), (1, .int a1), (2, .ref (cw_k x t2))]) d8_isAt_5 rfl (Nat.le_of_ble_eq_true rfl) rfl ?_
  refine j_aload_n 1 rfl d8_isAt_6 ?_
  refine j_get fl_X8_14 (cV_g_2_0 x s1) d8_isAt_7 ?_
  refine j_iload_n 0 rfl d8_isAt_10 ?_
  refine j_iload_n 0 rfl d8_isAt_11 ?_
  refine j_aload_n 1 rfl d8_isAt_12 ?_
  refine j_iload_n 2 rfl d8_isAt_13 ?_
  refine j_callVi (c8_lengthAt x n a1 s1) lv_X8_72 (cV_rc_2 x s1) ⟨Nat.le_of_ble_eq_true rfl, Nat.le_of_ble_eq_true rfl⟩ d8_isAt_14 rfl (Nat.le_of_ble_eq_true rfl) (fun r4 s3 => ?_)
  refine j_iadd d8_isAt_17 ?_
  refine j_aload_n 3 rfl d8_isAt_18 ?_
  refine j_callVi (c7_spells x n 6 (Nat.le_of_ble_eq_true rfl) t2 ht2 r2 (r2 + r4) s3) lv_X8_75 (cV_rc_t x s3 6 (Nat.le_of_ble_eq_true rfl)) ⟨Nat.le_of_ble_eq_true rfl, Nat.le_of_ble_eq_true rfl⟩ d8_isAt_19 rfl (Nat.le_of_ble_eq_true rfl) (fun r6 s5 => ?_)
  exact j_zreturn hq d8_isAt_22
theorem c8_isAt (x : cw_T) (n : Nat) (t2 : Nat) (ht2 : t2 < 13) (a1 : Int32) (σ : ej_S) : ∀ r σ1, m8_isAt n t2 a1 σ = some (r, σ1) → ∀ l, ej_Con l (cV x) i8_isAt yX8_isAt (some .boolean) [.ref (cw_a x 2), .int a1, .ref (cw_k x t2)] σ (some (.int r)) σ1 := fun r σ1 h l => ej_con_of (cV_ok x) pn_X8 rfl (Nat.le_of_ble_eq_true rfl) rfl h (fun F hq => j8_isAt x n t2 ht2 a1 σ hq)

noncomputable def m8_nameAt (n : Nat) (a1 : Int32) (σ : ej_S) : Option (Int64 × ej_S) := (if a1 < 0 then (some (0, σ)) else (if gI σ 12 ≤ a1 then (some (0, σ)) else (if 601 ≤ a1 then (some (0, σ)) else ej_ck a1 601 ((some (gB σ 0 a1.toNatClampNeg, σ))))))
set_option maxRecDepth 20000 in
set_option maxHeartbeats 2000000 in
theorem j8_nameAt (x : cw_T) (n : Nat) (a1 : Int32) (σ : ej_S) {F : ej_F} {r0 : Int64 × ej_S} (hq : ej_fin (cV x) F (some .long) (some (.long r0.1)) r0.2) : ej_J (cV x) F i8_nameAt r0 σ 0 [(0, .ref (cw_a x 2)), (1, .int a1)] [] (m8_nameAt n a1 σ) := by
  unfold m8_nameAt
  refine j_iload_n 1 rfl d8_nameAt_0 ?_
  refine j_if_lt d8_nameAt_1 ?_ ?_
  · refine j_lconst d8_nameAt_30 ejl_0 ?_
    exact j_lreturn hq d8_nameAt_31
  · refine j_iload_n 1 rfl d8_nameAt_4 ?_
    refine j_aload_n 0 rfl d8_nameAt_5 ?_
    refine j_get fl_X8_38 (cV_g_2_5 x σ) d8_nameAt_6 ?_
    refine j_icmp_ge d8_nameAt_9 ?_ ?_
    · refine j_lconst d8_nameAt_30 ejl_0 ?_
      exact j_lreturn hq d8_nameAt_31
    · refine j_iload_n 1 rfl d8_nameAt_12 ?_
      refine j_aload_n 0 rfl d8_nameAt_13 ?_
      refine j_get fl_X8_30 (cV_g_2_4 x σ) d8_nameAt_14 ?_
      refine j_alen (cV_a_34 x σ) (Nat.le_of_ble_eq_true rfl) ejn_601 d8_nameAt_17 ?_
      refine j_icmp_ge d8_nameAt_18 ?_ ?_
      · refine j_lconst d8_nameAt_30 ejl_0 ?_
        exact j_lreturn hq d8_nameAt_31
      · refine j_aload_n 0 rfl d8_nameAt_21 ?_
        refine j_get fl_X8_30 (cV_g_2_4 x σ) d8_nameAt_22 ?_
        refine j_iload_n 1 rfl d8_nameAt_25 ?_
        refine j_lald (cV_a_34 x σ) d8_nameAt_26 ?_
        refine j_goto d8_nameAt_27 ?_
        exact j_lreturn hq d8_nameAt_31
theorem c8_nameAt (x : cw_T) (n : Nat) (a1 : Int32) (σ : ej_S) : ∀ r σ1, m8_nameAt n a1 σ = some (r, σ1) → ∀ l, ej_Con l (cV x) i8_nameAt yX8_nameAt (some .long) [.ref (cw_a x 2), .int a1] σ (some (.long r)) σ1 := fun r σ1 h l => ej_con_of (cV_ok x) pn_X8 rfl (Nat.le_of_ble_eq_true rfl) rfl h (fun F hq => j8_nameAt x n a1 σ hq)

noncomputable def m8_worthAt (n : Nat) (a1 : Int32) (σ : ej_S) : Option (Int32 × ej_S) := (if a1 < 0 then (some (1000001, σ)) else (if gI σ 12 ≤ a1 then (some (1000001, σ)) else (if 601 ≤ a1 then (some (1000001, σ)) else ej_ck a1 601 ((some ((gB σ 0 a1.toNatClampNeg).toInt32, σ))))))
set_option maxRecDepth 20000 in
set_option maxHeartbeats 2000000 in
theorem j8_worthAt (x : cw_T) (n : Nat) (a1 : Int32) (σ : ej_S) {F : ej_F} {r0 : Int32 × ej_S} (hq : ej_fin (cV x) F (some .int) (some (.int r0.1)) r0.2) : ej_J (cV x) F i8_worthAt r0 σ 0 [(0, .ref (cw_a x 2)), (1, .int a1)] [] (m8_worthAt n a1 σ) := by
  unfold m8_worthAt
  refine j_iload_n 1 rfl d8_worthAt_0 ?_
  refine j_if_lt d8_worthAt_1 ?_ ?_
  · refine j_ldc d8_worthAt_31 ki_X8_68 ?_
    exact j_ireturn hq d8_worthAt_33
  · refine j_iload_n 1 rfl d8_worthAt_4 ?_
    refine j_aload_n 0 rfl d8_worthAt_5 ?_
    refine j_get fl_X8_38 (cV_g_2_5 x σ) d8_worthAt_6 ?_
    refine j_icmp_ge d8_worthAt_9 ?_ ?_
    · refine j_ldc d8_worthAt_31 ki_X8_68 ?_
      exact j_ireturn hq d8_worthAt_33
    · refine j_iload_n 1 rfl d8_worthAt_12 ?_
      refine j_aload_n 0 rfl d8_worthAt_13 ?_
      refine j_get fl_X8_30 (cV_g_2_4 x σ) d8_worthAt_14 ?_
      refine j_alen (cV_a_34 x σ) (Nat.le_of_ble_eq_true rfl) ejn_601 d8_worthAt_17 ?_
      refine j_icmp_ge d8_worthAt_18 ?_ ?_
      · refine j_ldc d8_worthAt_31 ki_X8_68 ?_
        exact j_ireturn hq d8_worthAt_33
      · refine j_aload_n 0 rfl d8_worthAt_21 ?_
        refine j_get fl_X8_30 (cV_g_2_4 x σ) d8_worthAt_22 ?_
        refine j_iload_n 1 rfl d8_worthAt_25 ?_
        refine j_lald (cV_a_34 x σ) d8_worthAt_26 ?_
        refine j_l2i d8_worthAt_27 ?_
        refine j_goto d8_worthAt_28 ?_
        exact j_ireturn hq d8_worthAt_33
theorem c8_worthAt (x : cw_T) (n : Nat) (a1 : Int32) (σ : ej_S) : ∀ r σ1, m8_worthAt n a1 σ = some (r, σ1) → ∀ l, ej_Con l (cV x) i8_worthAt yX8_worthAt (some .int) [.ref (cw_a x 2), .int a1] σ (some (.int r)) σ1 := fun r σ1 h l => ej_con_of (cV_ok x) pn_X8 rfl (Nat.le_of_ble_eq_true rfl) rfl h (fun F hq => j8_worthAt x n a1 σ hq)

