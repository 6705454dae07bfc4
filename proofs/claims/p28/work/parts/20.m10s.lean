noncomputable def m10_nameByte (n : Nat) (a1 : Int64) (a2 : Int32) (σ : ej_S) : Option (Int32 × ej_S) := (if a2 < 0 then (some (0, σ)) else (if a2 < 8 then (some ((((a1.toUInt64 >>> ((8 * a2).toInt64.toUInt64 &&& Int64.toUInt64 63)).toInt64).toInt32) &&& 255, σ)) else (some (0, σ))))
set_option maxRecDepth 20000 in
set_option maxHeartbeats 2000000 in
theorem j10_nameByte (x : cw_T) (n : Nat) (a1 : Int64) (a2 : Int32) (σ : ej_S) {F : ej_F} {r0 : Int32 × ej_S} (hq : ej_fin (cV x) F (some .int) (some (.int r0.1)) r0.2) : ej_J (cV x) F i10_nameByte r0 σ 0 [(0, .long a1), (2, .int a2)] [] (m10_nameByte n a1 a2 σ) := by
  unfold m10_nameByte
  refine j_iload_n 1 rfl d10_nameByte_0 ?_
  refine j_if_lt d10_nameByte_1 ?_ ?_
  · refine j_iconst d10_nameByte_10 ejc_0 ?_
    refine j_goto d10_nameByte_11 ?_
    exact j_ireturn hq d10_nameByte_25
  · refine j_iload_n 1 rfl d10_nameByte_4 ?_
    refine j_bipush d10_nameByte_5 ejb_8 ?_
    refine j_icmp_lt d10_nameByte_7 ?_ ?_
    · refine j_lload_n 0 rfl d10_nameByte_14 ?_
      refine j_bipush d10_nameByte_15 ejb_8 ?_
      refine j_iload_n 1 rfl d10_nameByte_17 ?_
      refine j_imul d10_nameByte_18 ?_
      refine j_lushr d10_nameByte_19 ?_
      refine j_l2i d10_nameByte_20 ?_
      refine j_sipush d10_nameByte_21 ejs_255 ?_
      refine j_iand d10_nameByte_24 ?_
      exact j_ireturn hq d10_nameByte_25
    · refine j_iconst d10_nameByte_10 ejc_0 ?_
      refine j_goto d10_nameByte_11 ?_
      exact j_ireturn hq d10_nameByte_25
theorem c10_nameByte (x : cw_T) (n : Nat) (a1 : Int64) (a2 : Int32) (σ : ej_S) : ∀ r σ1, m10_nameByte n a1 a2 σ = some (r, σ1) → ∀ l, ej_Con l (cV x) i10_nameByte yX10_nameByte (some .int) [.long a1, .int a2] σ (some (.int r)) σ1 := fun r σ1 h l => ej_con_of (cV_ok x) pn_X10 rfl (Nat.le_of_ble_eq_true rfl) rfl h (fun F hq => j10_nameByte x n a1 a2 σ hq)

noncomputable def m10_setOf (n : Nat) (a1 : Int32) (σ : ej_S) : Option (Int32 × ej_S) := (if a1 < 0 then (some (0, σ)) else (if a1 < 24 then (some (1 <<< (a1 &&& 31), σ)) else (some (0, σ))))
set_option maxRecDepth 20000 in
set_option maxHeartbeats 2000000 in
theorem j10_setOf (x : cw_T) (n : Nat) (a1 : Int32) (σ : ej_S) {F : ej_F} {r0 : Int32 × ej_S} (hq : ej_fin (cV x) F (some .int) (some (.int r0.1)) r0.2) : ej_J (cV x) F i10_setOf r0 σ 0 [(0, .int a1)] [] (m10_setOf n a1 σ) := by
  unfold m10_setOf
  refine j_iload_n 0 rfl d10_setOf_0 ?_
  refine j_if_lt d10_setOf_1 ?_ ?_
  · refine j_iconst d10_setOf_10 ejc_0 ?_
    refine j_goto d10_setOf_11 ?_
    exact j_ireturn hq d10_setOf_17
  · refine j_iload_n 0 rfl d10_setOf_4 ?_
    refine j_bipush d10_setOf_5 ejb_24 ?_
    refine j_icmp_lt d10_setOf_7 ?_ ?_
    · refine j_iconst d10_setOf_14 ejc_1 ?_
      refine j_iload_n 0 rfl d10_setOf_15 ?_
      refine j_ishl d10_setOf_16 ?_
      exact j_ireturn hq d10_setOf_17
    · refine j_iconst d10_setOf_10 ejc_0 ?_
      refine j_goto d10_setOf_11 ?_
      exact j_ireturn hq d10_setOf_17
theorem c10_setOf (x : cw_T) (n : Nat) (a1 : Int32) (σ : ej_S) : ∀ r σ1, m10_setOf n a1 σ = some (r, σ1) → ∀ l, ej_Con l (cV x) i10_setOf yX10_setOf (some .int) [.int a1] σ (some (.int r)) σ1 := fun r σ1 h l => ej_con_of (cV_ok x) pn_X10 rfl (Nat.le_of_ble_eq_true rfl) rfl h (fun F hq => j10_setOf x n a1 σ hq)

noncomputable def m10_holds (n : Nat) (a1 : Int32) (a2 : Int32) (σ : ej_S) : Option (Int32 × ej_S) := (if a2 < 0 then (some (0, σ)) else (if 24 ≤ a2 then (some (0, σ)) else (if (a1 >>> (a2 &&& 31)) &&& 1 = 0 then (some (0, σ)) else (some (1, σ)))))
set_option maxRecDepth 20000 in
set_option maxHeartbeats 2000000 in
theorem j10_holds (x : cw_T) (n : Nat) (a1 : Int32) (a2 : Int32) (σ : ej_S) {F : ej_F} {r0 : Int32 × ej_S} (hq : ej_fin (cV x) F (some .boolean) (some (.int r0.1)) r0.2) : ej_J (cV x) F i10_holds r0 σ 0 [(0, .int a1), (1, .int a2)] [] (m10_holds n a1 a2 σ) := by
  unfold m10_holds
  refine j_iload_n 1 rfl d10_holds_0 ?_
  refine j_if_lt d10_holds_1 ?_ ?_
  · refine j_iconst d10_holds_22 ejc_0 ?_
    exact j_zreturn0 hq d10_holds_23
  · refine j_iload_n 1 rfl d10_holds_4 ?_
    refine j_bipush d10_holds_5 ejb_24 ?_
    refine j_icmp_ge d10_holds_7 ?_ ?_
    · refine j_iconst d10_holds_22 ejc_0 ?_
      exact j_zreturn0 hq d10_holds_23
    · refine j_iload_n 0 rfl d10_holds_10 ?_
      refine j_iload_n 1 rfl d10_holds_11 ?_
      refine j_ishr d10_holds_12 ?_
      refine j_iconst d10_holds_13 ejc_1 ?_
      refine j_iand d10_holds_14 ?_
      refine j_if_eq d10_holds_15 ?_ ?_
      · refine j_iconst d10_holds_22 ejc_0 ?_
        exact j_zreturn0 hq d10_holds_23
      · refine j_iconst d10_holds_18 ejc_1 ?_
        refine j_goto d10_holds_19 ?_
        exact j_zreturn1 hq d10_holds_23
theorem c10_holds (x : cw_T) (n : Nat) (a1 : Int32) (a2 : Int32) (σ : ej_S) : ∀ r σ1, m10_holds n a1 a2 σ = some (r, σ1) → ∀ l, ej_Con l (cV x) i10_holds yX10_holds (some .boolean) [.int a1, .int a2] σ (some (.int r)) σ1 := fun r σ1 h l => ej_con_of (cV_ok x) pn_X10 rfl (Nat.le_of_ble_eq_true rfl) rfl h (fun F hq => j10_holds x n a1 a2 σ hq)

noncomputable def m10_isNameStart (n : Nat) (a1 : Int32) (σ : ej_S) : Option (Int32 × ej_S) := (if a1 < 97 then (if a1 = 46 then (some (1, σ)) else (some (0, σ))) else (if a1 ≤ 122 then (some (1, σ)) else (if a1 = 46 then (some (1, σ)) else (some (0, σ)))))
set_option maxRecDepth 20000 in
set_option maxHeartbeats 2000000 in
theorem j10_isNameStart (x : cw_T) (n : Nat) (a1 : Int32) (σ : ej_S) {F : ej_F} {r0 : Int32 × ej_S} (hq : ej_fin (cV x) F (some .boolean) (some (.int r0.1)) r0.2) : ej_J (cV x) F i10_isNameStart r0 σ 0 [(0, .int a1)] [] (m10_isNameStart n a1 σ) := by
  unfold m10_isNameStart
  refine j_iload_n 0 rfl d10_isNameStart_0 ?_
  refine j_bipush d10_isNameStart_1 ejb_97 ?_
  refine j_icmp_lt d10_isNameStart_3 ?_ ?_
  · refine j_iload_n 0 rfl d10_isNameStart_12 ?_
    refine j_bipush d10_isNameStart_13 ejb_46 ?_
    refine j_icmp_ne d10_isNameStart_15 ?_ ?_
    · refine j_iconst d10_isNameStart_22 ejc_0 ?_
      exact j_zreturn0 hq d10_isNameStart_23
    · refine j_iconst d10_isNameStart_18 ejc_1 ?_
      refine j_goto d10_isNameStart_19 ?_
      exact j_zreturn1 hq d10_isNameStart_23
  · refine j_iload_n 0 rfl d10_isNameStart_6 ?_
    refine j_bipush d10_isNameStart_7 ejb_122 ?_
    refine j_icmp_le d10_isNameStart_9 ?_ ?_
    · refine j_iconst d10_isNameStart_18 ejc_1 ?_
      refine j_goto d10_isNameStart_19 ?_
      exact j_zreturn1 hq d10_isNameStart_23
    · refine j_iload_n 0 rfl d10_isNameStart_12 ?_
      refine j_bipush d10_isNameStart_13 ejb_46 ?_
      refine j_icmp_ne d10_isNameStart_15 ?_ ?_
      · refine j_iconst d10_isNameStart_22 ejc_0 ?_
        exact j_zreturn0 hq d10_isNameStart_23
      · refine j_iconst d10_isNameStart_18 ejc_1 ?_
        refine j_goto d10_isNameStart_19 ?_
        exact j_zreturn1 hq d10_isNameStart_23
theorem c10_isNameStart (x : cw_T) (n : Nat) (a1 : Int32) (σ : ej_S) : ∀ r σ1, m10_isNameStart n a1 σ = some (r, σ1) → ∀ l, ej_Con l (cV x) i10_isNameStart yX10_isNameStart (some .boolean) [.int a1] σ (some (.int r)) σ1 := fun r σ1 h l => ej_con_of (cV_ok x) pn_X10 rfl (Nat.le_of_ble_eq_true rfl) rfl h (fun F hq => j10_isNameStart x n a1 σ hq)

noncomputable def m10_isWordPart (n : Nat) (a1 : Int32) (σ : ej_S) : Option (Int32 × ej_S) := (if a1 < 65 then (some (0, σ)) else (if 90 < a1 then (some (0, σ)) else (some (1, σ))))
set_option maxRecDepth 20000 in
set_option maxHeartbeats 2000000 in
theorem j10_isWordPart (x : cw_T) (n : Nat) (a1 : Int32) (σ : ej_S) {F : ej_F} {r0 : Int32 × ej_S} (hq : ej_fin (cV x) F (some .boolean) (some (.int r0.1)) r0.2) : ej_J (cV x) F i10_isWordPart r0 σ 0 [(0, .int a1)] [] (m10_isWordPart n a1 σ) := by
  unfold m10_isWordPart
  refine j_iload_n 0 rfl d10_isWordPart_0 ?_
  refine j_bipush d10_isWordPart_1 ejb_65 ?_
  refine j_icmp_lt d10_isWordPart_3 ?_ ?_
  · refine j_iconst d10_isWordPart_16 ejc_0 ?_
    exact j_zreturn0 hq d10_isWordPart_17
  · refine j_iload_n 0 rfl d10_isWordPart_6 ?_
    refine j_bipush d10_isWordPart_7 ejb_90 ?_
    refine j_icmp_gt d10_isWordPart_9 ?_ ?_
    · refine j_iconst d10_isWordPart_16 ejc_0 ?_
      exact j_zreturn0 hq d10_isWordPart_17
    · refine j_iconst d10_isWordPart_12 ejc_1 ?_
      refine j_goto d10_isWordPart_13 ?_
      exact j_zreturn1 hq d10_isWordPart_17
theorem c10_isWordPart (x : cw_T) (n : Nat) (a1 : Int32) (σ : ej_S) : ∀ r σ1, m10_isWordPart n a1 σ = some (r, σ1) → ∀ l, ej_Con l (cV x) i10_isWordPart yX10_isWordPart (some .boolean) [.int a1] σ (some (.int r)) σ1 := fun r σ1 h l => ej_con_of (cV_ok x) pn_X10 rfl (Nat.le_of_ble_eq_true rfl) rfl h (fun F hq => j10_isWordPart x n a1 σ hq)

noncomputable def m10_isDigit (n : Nat) (a1 : Int32) (σ : ej_S) : Option (Int32 × ej_S) := (if a1 < 48 then (some (0, σ)) else (if 57 < a1 then (some (0, σ)) else (some (1, σ))))
set_option maxRecDepth 20000 in
set_option maxHeartbeats 2000000 in
theorem j10_isDigit (x : cw_T) (n : Nat) (a1 : Int32) (σ : ej_S) {F : ej_F} {r0 : Int32 × ej_S} (hq : ej_fin (cV x) F (some .boolean) (some (.int r0.1)) r0.2) : ej_J (cV x) F i10_isDigit r0 σ 0 [(0, .int a1)] [] (m10_isDigit n a1 σ) := by
  unfold m10_isDigit
  refine j_iload_n 0 rfl d10_isDigit_0 ?_
  refine j_bipush d10_isDigit_1 ejb_48 ?_
  refine j_icmp_lt d10_isDigit_3 ?_ ?_
  · refine j_iconst d10_isDigit_16 ejc_0 ?_
    exact j_zreturn0 hq d10_isDigit_17
  · refine j_iload_n 0 rfl d10_isDigit_6 ?_
    refine j_bipush d10_isDigit_7 ejb_57 ?_
    refine j_icmp_gt d10_isDigit_9 ?_ ?_
    · refine j_iconst d10_isDigit_16 ejc_0 ?_
      exact j_zreturn0 hq d10_isDigit_17
    · refine j_iconst d10_isDigit_12 ejc_1 ?_
      refine j_goto d10_isDigit_13 ?_
      exact j_zreturn1 hq d10_isDigit_17
theorem c10_isDigit (x : cw_T) (n : Nat) (a1 : Int32) (σ : ej_S) : ∀ r σ1, m10_isDigit n a1 σ = some (r, σ1) → ∀ l, ej_Con l (cV x) i10_isDigit yX10_isDigit (some .boolean) [.int a1] σ (some (.int r)) σ1 := fun r σ1 h l => ej_con_of (cV_ok x) pn_X10 rfl (Nat.le_of_ble_eq_true rfl) rfl h (fun F hq => j10_isDigit x n a1 σ hq)

noncomputable def m10_isNamePart (n : Nat) (a1 : Int32) (σ : ej_S) : Option (Int32 × ej_S) := ej_bi (m10_isNameStart n a1 σ) fun r2 s1 => (if r2 = 0 then ej_bi (m10_isDigit n a1 s1) fun r4 s3 => (if r4 = 0 then (if a1 = 45 then (some (1, s3)) else (some (0, s3))) else (some (1, s3))) else (some (1, s1)))
set_option maxRecDepth 20000 in
set_option maxHeartbeats 2000000 in
theorem j10_isNamePart (x : cw_T) (n : Nat) (a1 : Int32) (σ : ej_S) {F : ej_F} {r0 : Int32 × ej_S} (hq : ej_fin (cV x) F (some .boolean) (some (.int r0.1)) r0.2) : ej_J (cV x) F i10_isNamePart r0 σ 0 [(0, .int a1)] [] (m10_isNamePart n a1 σ) := by
  unfold m10_isNamePart
  refine j_iload_n 0 rfl d10_isNamePart_0 ?_
  refine j_callSi (c10_isNameStart x n a1 σ) ls_X10_279 ⟨Nat.le_of_ble_eq_true rfl, Nat.le_of_ble_eq_true rfl⟩ d10_isNamePart_1 rfl (Nat.le_of_ble_eq_true rfl) (fun r2 s1 => ?_)
  refine j_if_ne d10_isNamePart_4 ?_ ?_
  · refine j_iconst d10_isNamePart_20 ejc_1 ?_
    refine j_goto d10_isNamePart_21 ?_
    exact j_zreturn1 hq d10_isNamePart_25
  · refine j_iload_n 0 rfl d10_isNamePart_7 ?_
    refine j_callSi (c10_isDigit x n a1 s1) ls_X10_282 ⟨Nat.le_of_ble_eq_true rfl, Nat.le_of_ble_eq_true rfl⟩ d10_isNamePart_8 rfl (Nat.le_of_ble_eq_true rfl) (fun r4 s3 => ?_)
    refine j_if_ne d10_isNamePart_11 ?_ ?_
    · refine j_iconst d10_isNamePart_20 ejc_1 ?_
      refine j_goto d10_isNamePart_21 ?_
      exact j_zreturn1 hq d10_isNamePart_25
    · refine j_iload_n 0 rfl d10_isNamePart_14 ?_
      refine j_bipush d10_isNamePart_15 ejb_45 ?_
      refine j_icmp_ne d10_isNamePart_17 ?_ ?_
      · refine j_iconst d10_isNamePart_24 ejc_0 ?_
        exact j_zreturn0 hq d10_isNamePart_25
      · refine j_iconst d10_isNamePart_20 ejc_1 ?_
        refine j_goto d10_isNamePart_21 ?_
        exact j_zreturn1 hq d10_isNamePart_25
theorem c10_isNamePart (x : cw_T) (n : Nat) (a1 : Int32) (σ : ej_S) : ∀ r σ1, m10_isNamePart n a1 σ = some (r, σ1) → ∀ l, ej_Con l (cV x) i10_isNamePart yX10_isNamePart (some .boolean) [.int a1] σ (some (.int r)) σ1 := fun r σ1 h l => ej_con_of (cV_ok x) pn_X10 rfl (Nat.le_of_ble_eq_true rfl) rfl h (fun F hq => j10_isNamePart x n a1 σ hq)

noncomputable def m10_isFile (n : Nat) (a1 : Int32) (σ : ej_S) : Option (Int32 × ej_S) := (if a1 < 0 then (some (0, σ)) else (if 4 ≤ a1 then (some (0, σ)) else (some (1, σ))))
set_option maxRecDepth 20000 in
set_option maxHeartbeats 2000000 in
theorem j10_isFile (x : cw_T) (n : Nat) (a1 : Int32) (σ : ej_S) {F : ej_F} {r0 : Int32 × ej_S} (hq : ej_fin (cV x) F (some .boolean) (some (.int r0.1)) r0.2) : ej_J (cV x) F i10_isFile r0 σ 0 [(0, .int a1)] [] (m10_isFile n a1 σ) := by
  unfold m10_isFile
  refine j_iload_n 0 rfl d10_isFile_0 ?_
  refine j_if_lt d10_isFile_1 ?_ ?_
  · refine j_iconst d10_isFile_13 ejc_0 ?_
    exact j_zreturn0 hq d10_isFile_14
  · refine j_iload_n 0 rfl d10_isFile_4 ?_
    refine j_iconst d10_isFile_5 ejc_4 ?_
    refine j_icmp_ge d10_isFile_6 ?_ ?_
    · refine j_iconst d10_isFile_13 ejc_0 ?_
      exact j_zreturn0 hq d10_isFile_14
    · refine j_iconst d10_isFile_9 ejc_1 ?_
      refine j_goto d10_isFile_10 ?_
      exact j_zreturn1 hq d10_isFile_14
theorem c10_isFile (x : cw_T) (n : Nat) (a1 : Int32) (σ : ej_S) : ∀ r σ1, m10_isFile n a1 σ = some (r, σ1) → ∀ l, ej_Con l (cV x) i10_isFile yX10_isFile (some .boolean) [.int a1] σ (some (.int r)) σ1 := fun r σ1 h l => ej_con_of (cV_ok x) pn_X10 rfl (Nat.le_of_ble_eq_true rfl) rfl h (fun F hq => j10_isFile x n a1 σ hq)

