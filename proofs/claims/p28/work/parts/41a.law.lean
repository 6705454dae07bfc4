noncomputable def mL_dice (n : Nat) (N : Nat) (xs : Nat → Int32) (a1 : Int32) (σ : lw_S) : Option (Int32 × lw_S) := (if Int32.ofNat N ≤ a1 then (some ((((1690806771 * (a1 + 277)) + ((691 * a1) * a1)) + 179) &&& 2147483647, σ)) else ej_ck a1 N ((some ((xs a1.toNatClampNeg) &&& 2147483647, σ))))
set_option maxRecDepth 20000 in
set_option maxHeartbeats 2000000 in
theorem jL_dice (x : lw_T) (n : Nat) (a1 : Int32) (σ : lw_S) {F : ej_F} {r0 : Int32 × lw_S} (hq : ej_fin (lV x) F (some .int) (some (.int r0.1)) r0.2) : ej_J (lV x) F iL_dice r0 σ 0 [(0, .ref (x.2.1)), (1, .int a1)] [] (mL_dice n x.2.2.1 x.2.2.2 a1 σ) := by
  unfold mL_dice
  refine j_iload_n 1 rfl dL_dice_0 ?_
  refine j_aload_n 0 rfl dL_dice_1 ?_
  refine jl_slen dL_dice_2 ?_
  refine j_icmp_ge dL_dice_3 ?_ ?_
  · refine j_ldc dL_dice_12 ki_L_7 ?_
    refine j_iload_n 1 rfl dL_dice_14 ?_
    refine j_sipush dL_dice_15 ejs_277 ?_
    refine j_iadd dL_dice_18 ?_
    refine j_imul dL_dice_19 ?_
    refine j_sipush dL_dice_20 ejs_691 ?_
    refine j_iload_n 1 rfl dL_dice_23 ?_
    refine j_imul dL_dice_24 ?_
    refine j_iload_n 1 rfl dL_dice_25 ?_
    refine j_imul dL_dice_26 ?_
    refine j_iadd dL_dice_27 ?_
    refine j_sipush dL_dice_28 ejs_179 ?_
    refine j_iadd dL_dice_31 ?_
    refine j_ldc dL_dice_32 ki_L_8 ?_
    refine j_iand dL_dice_34 ?_
    exact j_ireturn hq dL_dice_35
  · refine j_aload_n 0 rfl dL_dice_6 ?_
    refine j_iload_n 1 rfl dL_dice_7 ?_
    refine jl_sld dL_dice_8 ?_
    refine j_goto dL_dice_9 ?_
    refine j_ldc dL_dice_32 ki_L_8 ?_
    refine j_iand dL_dice_34 ?_
    exact j_ireturn hq dL_dice_35
theorem kL_dice (x : lw_T) (n : Nat) (a1 : Int32) (σ : lw_S) : ∀ r σ1, mL_dice n x.2.2.1 x.2.2.2 a1 σ = some (r, σ1) → ∀ l, ej_Con l (lV x) iL_dice yL_dice (some .int) [.ref (x.2.1), .int a1] σ (some (.int r)) σ1 := fun r σ1 h l => ej_con_of (lV_ok x) pn_L rfl (Nat.le_of_ble_eq_true rfl) rfl h (fun F hq => jL_dice x n a1 σ hq)

noncomputable def mL_node_5 (n : Nat) (k : Nat) : Int32 → Int32 → Int32 → lw_S → Option (Int32 × lw_S) := Nat.rec (motive := fun _ => Int32 → Int32 → Int32 → lw_S → Option (Int32 × lw_S)) (fun _ _ _ _ => none) (fun _ ih y1 y2 y3 σ => ej_ck 2 4 ((if gA σ.2 2 (2 : Int32).toNatClampNeg ≤ y3 then (some (y2, σ)) else ej_ck y3 12 ((if gA σ.2 1 y3.toNatClampNeg = y1 then ej_nm (y3 + 1) fun x5 => (ih y1 y3 x5 σ) else ej_nm (y3 + 1) fun x4 => (ih y1 y2 x4 σ)))))) k
theorem mL_node_5_s (n : Nat) (k : Nat) (y1 : Int32) (y2 : Int32) (y3 : Int32) (σ : lw_S) : mL_node_5 n (k + 1) y1 y2 y3 σ = (ej_ck 2 4 ((if gA σ.2 2 (2 : Int32).toNatClampNeg ≤ y3 then (some (y2, σ)) else ej_ck y3 12 ((if gA σ.2 1 y3.toNatClampNeg = y1 then ej_nm (y3 + 1) fun x5 => ((mL_node_5 n k) y1 y3 x5 σ) else ej_nm (y3 + 1) fun x4 => ((mL_node_5 n k) y1 y2 x4 σ))))) : Option (Int32 × lw_S)) := rfl
set_option maxRecDepth 20000 in
set_option maxHeartbeats 2000000 in
theorem jL_node_5 (x : lw_T) (n : Nat) {F : ej_F} {r0 : Int32 × lw_S} (hq : ej_fin (lV x) F (some .int) (some (.int r0.1)) r0.2) : ∀ (k : Nat) (y1 : Int32) (y2 : Int32) (y3 : Int32) (σ : lw_S), ej_J (lV x) F iL_node r0 σ 5 [(0, .ref (cw_a x.1 211)), (1, .ref (cw_a x.1 212)), (2, .int y1), (3, .int y2), (4, .int y3)] [] (mL_node_5 n k y1 y2 y3 σ) := by
  intro k
  induction k with
  | zero => intro y1 y2 y3 σ; exact j_none
  | succ k ih =>
    intro y1 y2 y3 σ
    rw [mL_node_5_s]
    refine j_iload 4 rfl dL_node_5 ?_
    refine j_aload_n 1 rfl dL_node_7 ?_
    refine j_iconst dL_node_8 ejc_2 ?_
    refine j_iald (lV_a_212 x σ) dL_node_9 ?_
    refine j_icmp_ge dL_node_10 ?_ ?_
    · refine j_iload_n 3 rfl dL_node_34 ?_
      exact j_ireturn hq dL_node_35
    · refine j_aload_n 0 rfl dL_node_13 ?_
      refine j_iload 4 rfl dL_node_14 ?_
      refine j_iald (lV_a_211 x σ) dL_node_16 ?_
      refine j_iload_n 2 rfl dL_node_17 ?_
      refine j_icmp_ne dL_node_18 ?_ ?_
      · refine j_iload_n 3 rfl dL_node_26 ?_
        refine j_istore_n (i := 3) (L' := [(3, .int y2), (0, .ref (cw_a x.1 211)), (1, .ref (cw_a x.1 212)), (2, .int y1), (4, .int y3)]) dL_node_27 rfl (Nat.le_of_ble_eq_true rfl) rfl ?_
        refine j_iinc (i := 4) (v := 1) (Ly := fun x4 => [(4, .int x4), (3, .int y2), (0, .ref (cw_a x.1 211)), (1, .ref (cw_a x.1 212)), (2, .int y1)]) 4 dL_node_28 rfl ejc_1 (Nat.le_of_ble_eq_true rfl) (fun _ => rfl) (fun x4 => ?_)
        refine j_goto dL_node_31 ?_
        exact j_sub [2, 3, 4, 1, 0] rfl (ih y1 y2 x4 σ)
      · refine j_iload 4 rfl dL_node_21 ?_
        refine j_goto dL_node_23 ?_
        refine j_istore_n (i := 3) (L' := [(3, .int y3), (0, .ref (cw_a x.1 211)), (1, .ref (cw_a x.1 212)), (2, .int y1), (4, .int y3)]) dL_node_27 rfl (Nat.le_of_ble_eq_true rfl) rfl ?_
        refine j_iinc (i := 4) (v := 1) (Ly := fun x5 => [(4, .int x5), (3, .int y3), (0, .ref (cw_a x.1 211)), (1, .ref (cw_a x.1 212)), (2, .int y1)]) 4 dL_node_28 rfl ejc_1 (Nat.le_of_ble_eq_true rfl) (fun _ => rfl) (fun x5 => ?_)
        refine j_goto dL_node_31 ?_
        exact j_sub [2, 3, 4, 1, 0] rfl (ih y1 y3 x5 σ)
noncomputable def mL_node (n : Nat) (a2 : Int32) (σ : lw_S) : Option (Int32 × lw_S) := (mL_node_5 n n a2 (-1) 0 σ)
set_option maxRecDepth 20000 in
set_option maxHeartbeats 2000000 in
theorem jL_node (x : lw_T) (n : Nat) (a2 : Int32) (σ : lw_S) {F : ej_F} {r0 : Int32 × lw_S} (hq : ej_fin (lV x) F (some .int) (some (.int r0.1)) r0.2) : ej_J (lV x) F iL_node r0 σ 0 [(0, .ref (cw_a x.1 211)), (1, .ref (cw_a x.1 212)), (2, .int a2)] [] (mL_node n a2 σ) := by
  unfold mL_node
  refine j_iconst dL_node_0 ejc_m1 ?_
  refine j_istore_n (i := 3) (L' := [(3, .int (-1)), (0, .ref (cw_a x.1 211)), (1, .ref (cw_a x.1 212)), (2, .int a2)]) dL_node_1 rfl (Nat.le_of_ble_eq_true rfl) rfl ?_
  refine j_iconst dL_node_2 ejc_0 ?_
  refine j_istore (i := 4) (L' := [(4, .int 0), (3, .int (-1)), (0, .ref (cw_a x.1 211)), (1, .ref (cw_a x.1 212)), (2, .int a2)]) dL_node_3 (Nat.le_of_ble_eq_true rfl) rfl ?_
  exact j_sub [2, 3, 4, 1, 0] rfl (jL_node_5 x n hq n a2 (-1) 0 σ)
theorem kL_node (x : lw_T) (n : Nat) (a2 : Int32) (σ : lw_S) : ∀ r σ1, mL_node n a2 σ = some (r, σ1) → ∀ l, ej_Con l (lV x) iL_node yL_node (some .int) [.ref (cw_a x.1 211), .ref (cw_a x.1 212), .int a2] σ (some (.int r)) σ1 := fun r σ1 h l => ej_con_of (lV_ok x) pn_L rfl (Nat.le_of_ble_eq_true rfl) rfl h (fun F hq => jL_node x n a2 σ hq)

noncomputable def mL_holds (n : Nat) (a1 : Int32) (σ : lw_S) : Option (Int32 × lw_S) := ej_ck (a1 / 6) 4 ((if gA σ.2 2 (a1 / 6).toNatClampNeg ≤ a1 - a1 / 6 * 6 then (some (0, σ)) else (some (1, σ))))
set_option maxRecDepth 20000 in
set_option maxHeartbeats 2000000 in
theorem jL_holds (x : lw_T) (n : Nat) (a1 : Int32) (σ : lw_S) {F : ej_F} {r0 : Int32 × lw_S} (hq : ej_fin (lV x) F (some .boolean) (some (.int r0.1)) r0.2) : ej_J (lV x) F iL_holds r0 σ 0 [(0, .ref (cw_a x.1 212)), (1, .int a1)] [] (mL_holds n a1 σ) := by
  unfold mL_holds
  refine j_iload_n 1 rfl dL_holds_0 ?_
  refine j_bipush dL_holds_1 ejb_6 ?_
  refine j_irem0 (by decide) dL_holds_3 ?_
  refine j_aload_n 0 rfl dL_holds_4 ?_
  refine j_iload_n 1 rfl dL_holds_5 ?_
  refine j_bipush dL_holds_6 ejb_6 ?_
  refine j_idiv0 (by decide) dL_holds_8 ?_
  refine j_iald (lV_a_212 x σ) dL_holds_9 ?_
  refine j_icmp_ge dL_holds_10 ?_ ?_
  · refine j_iconst dL_holds_17 ejc_0 ?_
    exact j_zreturn0 hq dL_holds_18
  · refine j_iconst dL_holds_13 ejc_1 ?_
    refine j_goto dL_holds_14 ?_
    exact j_zreturn1 hq dL_holds_18
theorem kL_holds (x : lw_T) (n : Nat) (a1 : Int32) (σ : lw_S) : ∀ r σ1, mL_holds n a1 σ = some (r, σ1) → ∀ l, ej_Con l (lV x) iL_holds yL_holds (some .boolean) [.ref (cw_a x.1 212), .int a1] σ (some (.int r)) σ1 := fun r σ1 h l => ej_con_of (lV_ok x) pn_L rfl (Nat.le_of_ble_eq_true rfl) rfl h (fun F hq => jL_holds x n a1 σ hq)

noncomputable def mL_reads_44 (n : Nat) (f6 : Int32 → lw_S → Option (lw_S)) (k : Nat) : Int32 → Int32 → Int32 → lw_S → Option (lw_S) := Nat.rec (motive := fun _ => Int32 → Int32 → Int32 → lw_S → Option (lw_S)) (fun _ _ _ _ => none) (fun _ ih y3 y4 y5 σ => (if y4 < y5 then ej_nm (y3 + 1) fun x6 => (f6 x6 σ) else ej_bi (mL_holds n y3 σ) fun r7 s8 => (if r7 = 0 then ej_nm (y3 + 1) fun x9 => (f6 x9 s8) else ej_ck ((5 * y3) + y5) 60 (ej_bi (mL_node n (gA s8.2 0 ((5 * y3) + y5).toNatClampNeg) s8) fun r10 s11 => (if 0 ≤ r10 then ej_nm (y5 + 1) fun x12 => (ih y3 y4 x12 s11) else ej_ck 2 4 (ej_ck ((5 * y3) + y5) 60 (ej_ck (gA s11.2 2 (2 : Int32).toNatClampNeg) 12 (ej_nm ((s11.1, uA s11.2 1 ((gA s11.2 2 (2 : Int32).toNatClampNeg).toNatClampNeg) (gA s11.2 0 ((5 * y3) + y5).toNatClampNeg)) : lw_S) fun s13 => ej_ck 2 4 (ej_ck 2 4 (ej_nm ((s13.1, uA s13.2 2 ((2 : Int32).toNatClampNeg) ((gA s13.2 2 (2 : Int32).toNatClampNeg) + 1)) : lw_S) fun s14 => ej_nm (y5 + 1) fun x15 => (ih y3 y4 x15 s14))))))))))) k
theorem mL_reads_44_s (n : Nat) (f6 : Int32 → lw_S → Option (lw_S)) (k : Nat) (y3 : Int32) (y4 : Int32) (y5 : Int32) (σ : lw_S) : mL_reads_44 n f6 (k + 1) y3 y4 y5 σ = ((if y4 < y5 then ej_nm (y3 + 1) fun x6 => (f6 x6 σ) else ej_bi (mL_holds n y3 σ) fun r7 s8 => (if r7 = 0 then ej_nm (y3 + 1) fun x9 => (f6 x9 s8) else ej_ck ((5 * y3) + y5) 60 (ej_bi (mL_node n (gA s8.2 0 ((5 * y3) + y5).toNatClampNeg) s8) fun r10 s11 => (if 0 ≤ r10 then ej_nm (y5 + 1) fun x12 => ((mL_reads_44 n f6 k) y3 y4 x12 s11) else ej_ck 2 4 (ej_ck ((5 * y3) + y5) 60 (ej_ck (gA s11.2 2 (2 : Int32).toNatClampNeg) 12 (ej_nm ((s11.1, uA s11.2 1 ((gA s11.2 2 (2 : Int32).toNatClampNeg).toNatClampNeg) (gA s11.2 0 ((5 * y3) + y5).toNatClampNeg)) : lw_S) fun s13 => ej_ck 2 4 (ej_ck 2 4 (ej_nm ((s13.1, uA s13.2 2 ((2 : Int32).toNatClampNeg) ((gA s13.2 2 (2 : Int32).toNatClampNeg) + 1)) : lw_S) fun s14 => ej_nm (y5 + 1) fun x15 => ((mL_reads_44 n f6 k) y3 y4 x15 s14)))))))))) : Option (lw_S)) := rfl
set_option maxRecDepth 20000 in
set_option maxHeartbeats 2000000 in
theorem jL_reads_44 (x : lw_T) (n : Nat) {F : ej_F} {r0 : lw_S} (hq : ej_fin (lV x) F none none r0) (f6 : Int32 → lw_S → Option (lw_S)) (H6 : ∀ (y2 : Int32) (σ : lw_S), ej_J (lV x) F iL_reads r0 σ 6 [(0, .ref (cw_a x.1 210)), (1, .ref (cw_a x.1 211)), (2, .ref (cw_a x.1 212)), (3, .int y2)] [] (f6 y2 σ)) : ∀ (k : Nat) (y3 : Int32) (y4 : Int32) (y5 : Int32) (σ : lw_S), ej_J (lV x) F iL_reads r0 σ 44 [(0, .ref (cw_a x.1 210)), (1, .ref (cw_a x.1 211)), (2, .ref (cw_a x.1 212)), (3, .int y3), (4, .int y4), (5, .int y5)] [] (mL_reads_44 n f6 k y3 y4 y5 σ) := by
  intro k
  induction k with
  | zero => intro y3 y4 y5 σ; exact j_none
  | succ k ih =>
    intro y3 y4 y5 σ
    rw [mL_reads_44_s]
    refine j_iload 5 rfl dL_reads_44 ?_
    refine j_iload 4 rfl dL_reads_46 ?_
    refine j_icmp_gt dL_reads_48 ?_ ?_
    · refine j_iinc (i := 3) (v := 1) (Ly := fun x6 => [(3, .int x6), (0, .ref (cw_a x.1 210)), (1, .ref (cw_a x.1 211)), (2, .ref (cw_a x.1 212)), (4, .int y4), (5, .int y5)]) 3 dL_reads_101 rfl ejc_1 (Nat.le_of_ble_eq_true rfl) (fun _ => rfl) (fun x6 => ?_)
      refine j_goto dL_reads_104 ?_
      exact j_sub [1, 2, 3, 0] rfl (H6 x6 σ)
    · refine j_aload_n 2 rfl dL_reads_51 ?_
      refine j_iload_n 3 rfl dL_reads_52 ?_
      refine j_callSi (kL_holds x n y3 σ) ls_L_96 ⟨Nat.le_of_ble_eq_true rfl, Nat.le_of_ble_eq_true rfl⟩ dL_reads_53 rfl (Nat.le_of_ble_eq_true rfl) (fun r7 s8 => ?_)
      refine j_if_eq dL_reads_56 ?_ ?_
      · refine j_iinc (i := 3) (v := 1) (Ly := fun x9 => [(3, .int x9), (0, .ref (cw_a x.1 210)), (1, .ref (cw_a x.1 211)), (2, .ref (cw_a x.1 212)), (4, .int y4), (5, .int y5)]) 3 dL_reads_101 rfl ejc_1 (Nat.le_of_ble_eq_true rfl) (fun _ => rfl) (fun x9 => ?_)
        refine j_goto dL_reads_104 ?_
        exact j_sub [1, 2, 3, 0] rfl (H6 x9 s8)
      · refine j_aload_n 1 rfl dL_reads_59 ?_
        refine j_aload_n 2 rfl dL_reads_60 ?_
        refine j_aload_n 0 rfl dL_reads_61 ?_
        refine j_iconst dL_reads_62 ejc_5 ?_
        refine j_iload_n 3 rfl dL_reads_63 ?_
        refine j_imul dL_reads_64 ?_
        refine j_iload 5 rfl dL_reads_65 ?_
        refine j_iadd dL_reads_67 ?_
        refine j_iald (lV_a_210 x s8) dL_reads_68 ?_
        refine j_callSi (kL_node x n (gA s8.2 0 ((5 * y3) + y5).toNatClampNeg) s8) ls_L_100 ⟨Nat.le_of_ble_eq_true rfl, Nat.le_of_ble_eq_true rfl⟩ dL_reads_69 rfl (Nat.le_of_ble_eq_true rfl) (fun r10 s11 => ?_)
        refine j_if_ge dL_reads_72 ?_ ?_
        · refine j_iinc (i := 5) (v := 1) (Ly := fun x12 => [(5, .int x12), (0, .ref (cw_a x.1 210)), (1, .ref (cw_a x.1 211)), (2, .ref (cw_a x.1 212)), (3, .int y3), (4, .int y4)]) 5 dL_reads_95 rfl ejc_1 (Nat.le_of_ble_eq_true rfl) (fun _ => rfl) (fun x12 => ?_)
          refine j_goto dL_reads_98 ?_
          exact j_sub [1, 2, 3, 4, 5, 0] rfl (ih y3 y4 x12 s11)
        · refine j_aload_n 1 rfl dL_reads_75 ?_
          refine j_aload_n 2 rfl dL_reads_76 ?_
          refine j_iconst dL_reads_77 ejc_2 ?_
          refine j_iald (lV_a_212 x s11) dL_reads_78 ?_
          refine j_aload_n 0 rfl dL_reads_79 ?_
          refine j_iconst dL_reads_80 ejc_5 ?_
          refine j_iload_n 3 rfl dL_reads_81 ?_
          refine j_imul dL_reads_82 ?_
          refine j_iload 5 rfl dL_reads_83 ?_
          refine j_iadd dL_reads_85 ?_
          refine j_iald (lV_a_210 x s11) dL_reads_86 ?_
          refine j_iast (lV_s_211 x s11 ((gA s11.2 2 (2 : Int32).toNatClampNeg).toNatClampNeg) (gA s11.2 0 ((5 * y3) + y5).toNatClampNeg)) dL_reads_87 (fun s13 => ?_)
          refine j_aload_n 2 rfl dL_reads_88 ?_
          refine j_iconst dL_reads_89 ejc_2 ?_
          refine j_dup2 dL_reads_90 rfl rfl ?_
          refine j_iald (lV_a_212 x s13) dL_reads_91 ?_
          refine j_iconst dL_reads_92 ejc_1 ?_
          refine j_iadd dL_reads_93 ?_
          refine j_iast (lV_s_212 x s13 ((2 : Int32).toNatClampNeg) ((gA s13.2 2 (2 : Int32).toNatClampNeg) + 1)) dL_reads_94 (fun s14 => ?_)
          refine j_iinc (i := 5) (v := 1) (Ly := fun x15 => [(5, .int x15), (0, .ref (cw_a x.1 210)), (1, .ref (cw_a x.1 211)), (2, .ref (cw_a x.1 212)), (3, .int y3), (4, .int y4)]) 5 dL_reads_95 rfl ejc_1 (Nat.le_of_ble_eq_true rfl) (fun _ => rfl) (fun x15 => ?_)
          refine j_goto dL_reads_98 ?_
          exact j_sub [1, 2, 3, 4, 5, 0] rfl (ih y3 y4 x15 s14)
noncomputable def mL_reads_6 (n : Nat) (k : Nat) : Int32 → lw_S → Option (lw_S) := Nat.rec (motive := fun _ => Int32 → lw_S → Option (lw_S)) (fun _ _ => none) (fun _ ih y2 σ => (if 12 ≤ y2 then (some σ) else ej_ck (5 * y2) 60 ((if gA σ.2 0 (5 * y2).toNatClampNeg = 2 then (mL_reads_44 n ih n y2 3 1 σ) else ej_ck (5 * y2) 60 ((if gA σ.2 0 (5 * y2).toNatClampNeg = 3 then (mL_reads_44 n ih n y2 1 1 σ) else (mL_reads_44 n ih n y2 2 1 σ))))))) k
theorem mL_reads_6_s (n : Nat) (k : Nat) (y2 : Int32) (σ : lw_S) : mL_reads_6 n (k + 1) y2 σ = ((if 12 ≤ y2 then (some σ) else ej_ck (5 * y2) 60 ((if gA σ.2 0 (5 * y2).toNatClampNeg = 2 then (mL_reads_44 n (mL_reads_6 n k) n y2 3 1 σ) else ej_ck (5 * y2) 60 ((if gA σ.2 0 (5 * y2).toNatClampNeg = 3 then (mL_reads_44 n (mL_reads_6 n k) n y2 1 1 σ) else (mL_reads_44 n (mL_reads_6 n k) n y2 2 1 σ)))))) : Option (lw_S)) := rfl
set_option maxRecDepth 20000 in
set_option maxHeartbeats 2000000 in
theorem jL_reads_6 (x : lw_T) (n : Nat) {F : ej_F} {r0 : lw_S} (hq : ej_fin (lV x) F none none r0) : ∀ (k : Nat) (y2 : Int32) (σ : lw_S), ej_J (lV x) F iL_reads r0 σ 6 [(0, .ref (cw_a x.1 210)), (1, .ref (cw_a x.1 211)), (2, .ref (cw_a x.1 212)), (3, .int y2)] [] (mL_reads_6 n k y2 σ) := by
  intro k
  induction k with
  | zero => intro y2 σ; exact j_none
  | succ k ih =>
    intro y2 σ
    rw [mL_reads_6_s]
    refine j_iload_n 3 rfl dL_reads_6 ?_
    refine j_bipush dL_reads_7 ejb_12 ?_
    refine j_icmp_ge dL_reads_9 ?_ ?_
    · exact j_vreturn hq dL_reads_107
    · refine j_aload_n 0 rfl dL_reads_12 ?_
      refine j_iconst dL_reads_13 ejc_5 ?_
      refine j_iload_n 3 rfl dL_reads_14 ?_
      refine j_imul dL_reads_15 ?_
      refine j_iald (lV_a_210 x σ) dL_reads_16 ?_
      refine j_iconst dL_reads_17 ejc_2 ?_
      refine j_icmp_ne dL_reads_18 ?_ ?_
      · refine j_aload_n 0 rfl dL_reads_25 ?_
        refine j_iconst dL_reads_26 ejc_5 ?_
        refine j_iload_n 3 rfl dL_reads_27 ?_
        refine j_imul dL_reads_28 ?_
        refine j_iald (lV_a_210 x σ) dL_reads_29 ?_
        refine j_iconst dL_reads_30 ejc_3 ?_
        refine j_icmp_ne dL_reads_31 ?_ ?_
        · refine j_iconst dL_reads_38 ejc_2 ?_
          refine j_istore (i := 4) (L' := [(4, .int 2), (0, .ref (cw_a x.1 210)), (1, .ref (cw_a x.1 211)), (2, .ref (cw_a x.1 212)), (3, .int y2)]) dL_reads_39 (Nat.le_of_ble_eq_true rfl) rfl ?_
          refine j_iconst dL_reads_41 ejc_1 ?_
          refine j_istore (i := 5) (L' := [(5, .int 1), (4, .int 2), (0, .ref (cw_a x.1 210)), (1, .ref (cw_a x.1 211)), (2, .ref (cw_a x.1 212)), (3, .int y2)]) dL_reads_42 (Nat.le_of_ble_eq_true rfl) rfl ?_
          exact j_sub [2, 3, 4, 5, 1, 0] rfl (jL_reads_44 x n hq (mL_reads_6 n k) ih n y2 2 1 σ)
        · refine j_iconst dL_reads_34 ejc_1 ?_
          refine j_goto dL_reads_35 ?_
          refine j_istore (i := 4) (L' := [(4, .int 1), (0, .ref (cw_a x.1 210)), (1, .ref (cw_a x.1 211)), (2, .ref (cw_a x.1 212)), (3, .int y2)]) dL_reads_39 (Nat.le_of_ble_eq_true rfl) rfl ?_
          refine j_iconst dL_reads_41 ejc_1 ?_
          refine j_istore (i := 5) (L' := [(5, .int 1), (4, .int 1), (0, .ref (cw_a x.1 210)), (1, .ref (cw_a x.1 211)), (2, .ref (cw_a x.1 212)), (3, .int y2)]) dL_reads_42 (Nat.le_of_ble_eq_true rfl) rfl ?_
          exact j_sub [2, 3, 4, 5, 1, 0] rfl (jL_reads_44 x n hq (mL_reads_6 n k) ih n y2 1 1 σ)
      · refine j_iconst dL_reads_21 ejc_3 ?_
        refine j_goto dL_reads_22 ?_
        refine j_istore (i := 4) (L' := [(4, .int 3), (0, .ref (cw_a x.1 210)), (1, .ref (cw_a x.1 211)), (2, .ref (cw_a x.1 212)), (3, .int y2)]) dL_reads_39 (Nat.le_of_ble_eq_true rfl) rfl ?_
        refine j_iconst dL_reads_41 ejc_1 ?_
        refine j_istore (i := 5) (L' := [(5, .int 1), (4, .int 3), (0, .ref (cw_a x.1 210)), (1, .ref (cw_a x.1 211)), (2, .ref (cw_a x.1 212)), (3, .int y2)]) dL_reads_42 (Nat.le_of_ble_eq_true rfl) rfl ?_
        exact j_sub [2, 3, 4, 5, 1, 0] rfl (jL_reads_44 x n hq (mL_reads_6 n k) ih n y2 3 1 σ)
noncomputable def mL_reads (n : Nat)  (σ : lw_S) : Option (lw_S) := ej_ck 2 4 (ej_nm ((σ.1, uA σ.2 2 ((2 : Int32).toNatClampNeg) 0) : lw_S) fun s1 => (mL_reads_6 n n 0 s1))
set_option maxRecDepth 20000 in
set_option maxHeartbeats 2000000 in
theorem jL_reads (x : lw_T) (n : Nat)  (σ : lw_S) {F : ej_F} {r0 : lw_S} (hq : ej_fin (lV x) F none none r0) : ej_J (lV x) F iL_reads r0 σ 0 [(0, .ref (cw_a x.1 210)), (1, .ref (cw_a x.1 211)), (2, .ref (cw_a x.1 212))] [] (mL_reads n  σ) := by
  unfold mL_reads
  refine j_aload_n 2 rfl dL_reads_0 ?_
  refine j_iconst dL_reads_1 ejc_2 ?_
  refine j_iconst dL_reads_2 ejc_0 ?_
  refine j_iast (lV_s_212 x σ ((2 : Int32).toNatClampNeg) 0) dL_reads_3 (fun s1 => ?_)
  refine j_iconst dL_reads_4 ejc_0 ?_
  refine j_istore_n (i := 3) (L' := [(3, .int 0), (0, .ref (cw_a x.1 210)), (1, .ref (cw_a x.1 211)), (2, .ref (cw_a x.1 212))]) dL_reads_5 rfl (Nat.le_of_ble_eq_true rfl) rfl ?_
  exact j_sub [1, 2, 3, 0] rfl (jL_reads_6 x n hq n 0 s1)
theorem kL_reads (x : lw_T) (n : Nat)  (σ : lw_S) : ∀ σ1, mL_reads n  σ = some σ1 → ∀ l, ej_Con l (lV x) iL_reads yL_reads none [.ref (cw_a x.1 210), .ref (cw_a x.1 211), .ref (cw_a x.1 212)] σ none σ1 := fun σ1 h l => ej_con_of (lV_ok x) pn_L rfl (Nat.le_of_ble_eq_true rfl) rfl h (fun F hq => jL_reads x n  σ hq)

noncomputable def mL_told_126 (n : Nat) (f6 : Int32 → Int32 → Int32 → Int32 → Int32 → lw_S → Option (Int32 × lw_S)) (y22 : Int32) (y23 : Int32) (y24 : Int32) (y25 : Int32) (y26 : Int32) (y27 : Int32) (σ : lw_S) : Option (Int32 × lw_S) := (if y25 < 0 then ej_nm (y26 + 1) fun x28 => (f6 y22 y23 y24 y27 x28 σ) else (if y25 ≤ y27 then ej_nm (y26 + 1) fun x29 => (f6 y22 y23 y24 y25 x29 σ) else ej_nm (y26 + 1) fun x30 => (f6 y22 y23 y24 y27 x30 σ)))
set_option maxRecDepth 20000 in
set_option maxHeartbeats 2000000 in
theorem jL_told_126 (x : lw_T) (n : Nat) {F : ej_F} {r0 : Int32 × lw_S} (hq : ej_fin (lV x) F (some .int) (some (.int r0.1)) r0.2) (f6 : Int32 → Int32 → Int32 → Int32 → Int32 → lw_S → Option (Int32 × lw_S)) (H6 : ∀ (y1 : Int32) (y2 : Int32) (y3 : Int32) (y4 : Int32) (y5 : Int32) (σ : lw_S), ej_J (lV x) F iL_told r0 σ 6 [(0, .ref (cw_a x.1 210)), (1, .ref (cw_a x.1 212)), (2, .int y1), (3, .int y2), (4, .int y3), (5, .int y4), (6, .int y5)] [] (f6 y1 y2 y3 y4 y5 σ)) (y22 : Int32) (y23 : Int32) (y24 : Int32) (y25 : Int32) (y26 : Int32) (y27 : Int32) (σ : lw_S) : ej_J (lV x) F iL_told r0 σ 126 [(0, .ref (cw_a x.1 210)), (1, .ref (cw_a x.1 212)), (2, .int y22), (3, .int y23), (4, .int y24), (5, .int y25), (6, .int y26), (8, .int y27)] [] (mL_told_126 n f6 y22 y23 y24 y25 y26 y27 σ) := by
  unfold mL_told_126
  refine j_iload 5 rfl dL_told_126 ?_
  refine j_if_lt dL_told_128 ?_ ?_
  · refine j_iload 7 rfl dL_told_138 ?_
    refine j_goto dL_told_140 ?_
    refine j_istore (i := 5) (L' := [(5, .int y27), (0, .ref (cw_a x.1 210)), (1, .ref (cw_a x.1 212)), (2, .int y22), (3, .int y23), (4, .int y24), (6, .int y26), (8, .int y27)]) dL_told_145 (Nat.le_of_ble_eq_true rfl) rfl ?_
    refine j_iinc (i := 6) (v := 1) (Ly := fun x28 => [(6, .int x28), (5, .int y27), (0, .ref (cw_a x.1 210)), (1, .ref (cw_a x.1 212)), (2, .int y22), (3, .int y23), (4, .int y24), (8, .int y27)]) 6 dL_told_147 rfl ejc_1 (Nat.le_of_ble_eq_true rfl) (fun _ => rfl) (fun x28 => ?_)
    refine j_goto dL_told_150 ?_
    exact j_sub [2, 3, 4, 5, 6, 1, 0] rfl (H6 y22 y23 y24 y27 x28 σ)
  · refine j_iload 7 rfl dL_told_131 ?_
    refine j_iload 5 rfl dL_told_133 ?_
    refine j_icmp_ge dL_told_135 ?_ ?_
    · refine j_iload 5 rfl dL_told_143 ?_
      refine j_istore (i := 5) (L' := [(5, .int y25), (0, .ref (cw_a x.1 210)), (1, .ref (cw_a x.1 212)), (2, .int y22), (3, .int y23), (4, .int y24), (6, .int y26), (8, .int y27)]) dL_told_145 (Nat.le_of_ble_eq_true rfl) rfl ?_
      refine j_iinc (i := 6) (v := 1) (Ly := fun x29 => [(6, .int x29), (5, .int y25), (0, .ref (cw_a x.1 210)), (1, .ref (cw_a x.1 212)), (2, .int y22), (3, .int y23), (4, .int y24), (8, .int y27)]) 6 dL_told_147 rfl ejc_1 (Nat.le_of_ble_eq_true rfl) (fun _ => rfl) (fun x29 => ?_)
      refine j_goto dL_told_150 ?_
      exact j_sub [2, 3, 4, 5, 6, 1, 0] rfl (H6 y22 y23 y24 y25 x29 σ)
    · refine j_iload 7 rfl dL_told_138 ?_
      refine j_goto dL_told_140 ?_
      refine j_istore (i := 5) (L' := [(5, .int y27), (0, .ref (cw_a x.1 210)), (1, .ref (cw_a x.1 212)), (2, .int y22), (3, .int y23), (4, .int y24), (6, .int y26), (8, .int y27)]) dL_told_145 (Nat.le_of_ble_eq_true rfl) rfl ?_
      refine j_iinc (i := 6) (v := 1) (Ly := fun x30 => [(6, .int x30), (5, .int y27), (0, .ref (cw_a x.1 210)), (1, .ref (cw_a x.1 212)), (2, .int y22), (3, .int y23), (4, .int y24), (8, .int y27)]) 6 dL_told_147 rfl ejc_1 (Nat.le_of_ble_eq_true rfl) (fun _ => rfl) (fun x30 => ?_)
      refine j_goto dL_told_150 ?_
      exact j_sub [2, 3, 4, 5, 6, 1, 0] rfl (H6 y22 y23 y24 y27 x30 σ)
noncomputable def mL_told_108 (n : Nat) (f6 : Int32 → Int32 → Int32 → Int32 → Int32 → lw_S → Option (Int32 × lw_S)) (y14 : Int32) (y15 : Int32) (y16 : Int32) (y17 : Int32) (y18 : Int32) (y19 : Int32) (y20 : Int32) (σ : lw_S) : Option (Int32 × lw_S) := (if y19 = 0 then ej_nm (y18 + 1) fun x21 => (f6 y14 y15 y16 y17 x21 σ) else (if y14 = 3 then (mL_told_126 n f6 y14 y15 y16 y17 y18 y20 σ) else (if y15 = y16 then ej_nm (y18 + 1) fun x31 => (f6 y14 y15 y16 y17 x31 σ) else (mL_told_126 n f6 y14 y15 y16 y17 y18 y20 σ))))
set_option maxRecDepth 20000 in
set_option maxHeartbeats 2000000 in
theorem jL_told_108 (x : lw_T) (n : Nat) {F : ej_F} {r0 : Int32 × lw_S} (hq : ej_fin (lV x) F (some .int) (some (.int r0.1)) r0.2) (f6 : Int32 → Int32 → Int32 → Int32 → Int32 → lw_S → Option (Int32 × lw_S)) (H6 : ∀ (y1 : Int32) (y2 : Int32) (y3 : Int32) (y4 : Int32) (y5 : Int32) (σ : lw_S), ej_J (lV x) F iL_told r0 σ 6 [(0, .ref (cw_a x.1 210)), (1, .ref (cw_a x.1 212)), (2, .int y1), (3, .int y2), (4, .int y3), (5, .int y4), (6, .int y5)] [] (f6 y1 y2 y3 y4 y5 σ)) (y14 : Int32) (y15 : Int32) (y16 : Int32) (y17 : Int32) (y18 : Int32) (y19 : Int32) (y20 : Int32) (σ : lw_S) : ej_J (lV x) F iL_told r0 σ 108 [(0, .ref (cw_a x.1 210)), (1, .ref (cw_a x.1 212)), (2, .int y14), (3, .int y15), (4, .int y16), (5, .int y17), (6, .int y18), (7, .int y19)] [.int y20] (mL_told_108 n f6 y14 y15 y16 y17 y18 y19 y20 σ) := by
  unfold mL_told_108
  refine j_istore (i := 8) (L' := [(8, .int y20), (0, .ref (cw_a x.1 210)), (1, .ref (cw_a x.1 212)), (2, .int y14), (3, .int y15), (4, .int y16), (5, .int y17), (6, .int y18), (7, .int y19)]) dL_told_108 (Nat.le_of_ble_eq_true rfl) rfl ?_
  refine j_iload 8 rfl dL_told_110 ?_
  refine j_if_eq dL_told_112 ?_ ?_
  · refine j_iload 6 rfl dL_told_143 ?_
    refine j_istore (i := 5) (L' := [(5, .int y17), (8, .int y20), (0, .ref (cw_a x.1 210)), (1, .ref (cw_a x.1 212)), (2, .int y14), (3, .int y15), (4, .int y16), (6, .int y18), (7, .int y19)]) dL_told_145 (Nat.le_of_ble_eq_true rfl) rfl ?_
    refine j_iinc (i := 6) (v := 1) (Ly := fun x21 => [(6, .int x21), (5, .int y17), (8, .int y20), (0, .ref (cw_a x.1 210)), (1, .ref (cw_a x.1 212)), (2, .int y14), (3, .int y15), (4, .int y16), (7, .int y19)]) 7 dL_told_147 rfl ejc_1 (Nat.le_of_ble_eq_true rfl) (fun _ => rfl) (fun x21 => ?_)
    refine j_goto dL_told_150 ?_
    exact j_sub [3, 4, 5, 6, 7, 1, 0] rfl (H6 y14 y15 y16 y17 x21 σ)
  · refine j_iload_n 3 rfl dL_told_115 ?_
    refine j_iconst dL_told_116 ejc_3 ?_
    refine j_icmp_eq dL_told_117 ?_ ?_
    · exact j_sub [1, 2, 3, 4, 5, 6, 7, 0] rfl (jL_told_126 x n hq f6 H6 y14 y15 y16 y17 y18 y20 σ)
    · refine j_iload_n 4 rfl dL_told_120 ?_
      refine j_iload 5 rfl dL_told_121 ?_
      refine j_icmp_eq dL_told_123 ?_ ?_
      · refine j_iload 6 rfl dL_told_143 ?_
        refine j_istore (i := 5) (L' := [(5, .int y17), (8, .int y20), (0, .ref (cw_a x.1 210)), (1, .ref (cw_a x.1 212)), (2, .int y14), (3, .int y15), (4, .int y16), (6, .int y18), (7, .int y19)]) dL_told_145 (Nat.le_of_ble_eq_true rfl) rfl ?_
        refine j_iinc (i := 6) (v := 1) (Ly := fun x31 => [(6, .int x31), (5, .int y17), (8, .int y20), (0, .ref (cw_a x.1 210)), (1, .ref (cw_a x.1 212)), (2, .int y14), (3, .int y15), (4, .int y16), (7, .int y19)]) 7 dL_told_147 rfl ejc_1 (Nat.le_of_ble_eq_true rfl) (fun _ => rfl) (fun x31 => ?_)
        refine j_goto dL_told_150 ?_
        exact j_sub [3, 4, 5, 6, 7, 1, 0] rfl (H6 y14 y15 y16 y17 x31 σ)
      · exact j_sub [1, 2, 3, 4, 5, 6, 7, 0] rfl (jL_told_126 x n hq f6 H6 y14 y15 y16 y17 y18 y20 σ)
noncomputable def mL_told_85 (n : Nat) (f6 : Int32 → Int32 → Int32 → Int32 → Int32 → lw_S → Option (Int32 × lw_S)) (y8 : Int32) (y9 : Int32) (y10 : Int32) (y11 : Int32) (y12 : Int32) (y13 : Int32) (σ : lw_S) : Option (Int32 × lw_S) := (if y8 = 0 then ej_ck ((5 * y12) + 4) 60 ((mL_told_108 n f6 y8 y9 y10 y11 y12 y13 (gA σ.2 0 ((5 * y12) + 4).toNatClampNeg) σ)) else (if y8 = 2 then ej_ck ((5 * y12) + 4) 60 ((mL_told_108 n f6 y8 y9 y10 y11 y12 y13 (gA σ.2 0 ((5 * y12) + 4).toNatClampNeg) σ)) else (mL_told_108 n f6 y8 y9 y10 y11 y12 y13 0 σ)))
set_option maxRecDepth 20000 in
set_option maxHeartbeats 2000000 in
theorem jL_told_85 (x : lw_T) (n : Nat) {F : ej_F} {r0 : Int32 × lw_S} (hq : ej_fin (lV x) F (some .int) (some (.int r0.1)) r0.2) (f6 : Int32 → Int32 → Int32 → Int32 → Int32 → lw_S → Option (Int32 × lw_S)) (H6 : ∀ (y1 : Int32) (y2 : Int32) (y3 : Int32) (y4 : Int32) (y5 : Int32) (σ : lw_S), ej_J (lV x) F iL_told r0 σ 6 [(0, .ref (cw_a x.1 210)), (1, .ref (cw_a x.1 212)), (2, .int y1), (3, .int y2), (4, .int y3), (5, .int y4), (6, .int y5)] [] (f6 y1 y2 y3 y4 y5 σ)) (y8 : Int32) (y9 : Int32) (y10 : Int32) (y11 : Int32) (y12 : Int32) (y13 : Int32) (σ : lw_S) : ej_J (lV x) F iL_told r0 σ 85 [(0, .ref (cw_a x.1 210)), (1, .ref (cw_a x.1 212)), (2, .int y8), (3, .int y9), (4, .int y10), (5, .int y11), (6, .int y12)] [.int y13] (mL_told_85 n f6 y8 y9 y10 y11 y12 y13 σ) := by
  unfold mL_told_85
  refine j_istore (i := 7) (L' := [(7, .int y13), (0, .ref (cw_a x.1 210)), (1, .ref (cw_a x.1 212)), (2, .int y8), (3, .int y9), (4, .int y10), (5, .int y11), (6, .int y12)]) dL_told_85 (Nat.le_of_ble_eq_true rfl) rfl ?_
  refine j_iload_n 3 rfl dL_told_87 ?_
  refine j_if_eq dL_told_88 ?_ ?_
  · refine j_aload_n 1 rfl dL_told_96 ?_
    refine j_iconst dL_told_97 ejc_5 ?_
    refine j_iload 7 rfl dL_told_98 ?_
    refine j_imul dL_told_100 ?_
    refine j_iconst dL_told_101 ejc_4 ?_
    refine j_iadd dL_told_102 ?_
    refine j_iald (lV_a_210 x σ) dL_told_103 ?_
    refine j_goto dL_told_104 ?_
    exact j_sub [1, 2, 3, 4, 5, 6, 7, 0] rfl (jL_told_108 x n hq f6 H6 y8 y9 y10 y11 y12 y13 (gA σ.2 0 ((5 * y12) + 4).toNatClampNeg) σ)
  · refine j_iload_n 3 rfl dL_told_91 ?_
    refine j_iconst dL_told_92 ejc_2 ?_
    refine j_icmp_ne dL_told_93 ?_ ?_
    · refine j_iconst dL_told_107 ejc_0 ?_
      exact j_sub [1, 2, 3, 4, 5, 6, 7, 0] rfl (jL_told_108 x n hq f6 H6 y8 y9 y10 y11 y12 y13 0 σ)
    · refine j_aload_n 1 rfl dL_told_96 ?_
      refine j_iconst dL_told_97 ejc_5 ?_
      refine j_iload 7 rfl dL_told_98 ?_
      refine j_imul dL_told_100 ?_
      refine j_iconst dL_told_101 ejc_4 ?_
      refine j_iadd dL_told_102 ?_
      refine j_iald (lV_a_210 x σ) dL_told_103 ?_
      refine j_goto dL_told_104 ?_
      exact j_sub [1, 2, 3, 4, 5, 6, 7, 0] rfl (jL_told_108 x n hq f6 H6 y8 y9 y10 y11 y12 y13 (gA σ.2 0 ((5 * y12) + 4).toNatClampNeg) σ)
noncomputable def mL_told_6 (n : Nat) (k : Nat) : Int32 → Int32 → Int32 → Int32 → Int32 → lw_S → Option (Int32 × lw_S) := Nat.rec (motive := fun _ => Int32 → Int32 → Int32 → Int32 → Int32 → lw_S → Option (Int32 × lw_S)) (fun _ _ _ _ _ _ => none) (fun _ ih y1 y2 y3 y4 y5 σ => (if 12 ≤ y5 then (some (y4, σ)) else ej_bi (mL_holds n y5 σ) fun r6 s7 => (if r6 = 0 then (mL_told_85 n ih y1 y2 y3 y4 y5 0 s7) else ej_ck (5 * y5) 60 ((if gA s7.2 0 (5 * y5).toNatClampNeg = y1 then ej_ck ((5 * y5) + 1) 60 ((if gA s7.2 0 ((5 * y5) + 1).toNatClampNeg = y2 then (if y1 = 3 then (mL_told_85 n ih y1 y2 y3 y4 y5 1 s7) else ej_ck ((5 * y5) + 2) 60 ((if gA s7.2 0 ((5 * y5) + 2).toNatClampNeg = y3 then (mL_told_85 n ih y1 y2 y3 y4 y5 1 s7) else (if y1 = 2 then ej_ck ((5 * y5) + 3) 60 ((if gA s7.2 0 ((5 * y5) + 3).toNatClampNeg = y3 then (mL_told_85 n ih y1 y2 y3 y4 y5 1 s7) else (mL_told_85 n ih y1 y2 y3 y4 y5 0 s7))) else (mL_told_85 n ih y1 y2 y3 y4 y5 0 s7))))) else (mL_told_85 n ih y1 y2 y3 y4 y5 0 s7))) else (mL_told_85 n ih y1 y2 y3 y4 y5 0 s7)))))) k
theorem mL_told_6_s (n : Nat) (k : Nat) (y1 : Int32) (y2 : Int32) (y3 : Int32) (y4 : Int32) (y5 : Int32) (σ : lw_S) : mL_told_6 n (k + 1) y1 y2 y3 y4 y5 σ = ((if 12 ≤ y5 then (some (y4, σ)) else ej_bi (mL_holds n y5 σ) fun r6 s7 => (if r6 = 0 then (mL_told_85 n (mL_told_6 n k) y1 y2 y3 y4 y5 0 s7) else ej_ck (5 * y5) 60 ((if gA s7.2 0 (5 * y5).toNatClampNeg = y1 then ej_ck ((5 * y5) + 1) 60 ((if gA s7.2 0 ((5 * y5) + 1).toNatClampNeg = y2 then (if y1 = 3 then (mL_told_85 n (mL_told_6 n k) y1 y2 y3 y4 y5 1 s7) else ej_ck ((5 * y5) + 2) 60 ((if gA s7.2 0 ((5 * y5) + 2).toNatClampNeg = y3 then (mL_told_85 n (mL_told_6 n k) y1 y2 y3 y4 y5 1 s7) else (if y1 = 2 then ej_ck ((5 * y5) + 3) 60 ((if gA s7.2 0 ((5 * y5) + 3).toNatClampNeg = y3 then (mL_told_85 n (mL_told_6 n k) y1 y2 y3 y4 y5 1 s7) else (mL_told_85 n (mL_told_6 n k) y1 y2 y3 y4 y5 0 s7))) else (mL_told_85 n (mL_told_6 n k) y1 y2 y3 y4 y5 0 s7))))) else (mL_told_85 n (mL_told_6 n k) y1 y2 y3 y4 y5 0 s7))) else (mL_told_85 n (mL_told_6 n k) y1 y2 y3 y4 y5 0 s7))))) : Option (Int32 × lw_S)) := rfl
set_option maxRecDepth 20000 in
set_option maxHeartbeats 2000000 in
theorem jL_told_6 (x : lw_T) (n : Nat) {F : ej_F} {r0 : Int32 × lw_S} (hq : ej_fin (lV x) F (some .int) (some (.int r0.1)) r0.2) : ∀ (k : Nat) (y1 : Int32) (y2 : Int32) (y3 : Int32) (y4 : Int32) (y5 : Int32) (σ : lw_S), ej_J (lV x) F iL_told r0 σ 6 [(0, .ref (cw_a x.1 210)), (1, .ref (cw_a x.1 212)), (2, .int y1), (3, .int y2), (4, .int y3), (5, .int y4), (6, .int y5)] [] (mL_told_6 n k y1 y2 y3 y4 y5 σ) := by
  intro k
  induction k with
  | zero => intro y1 y2 y3 y4 y5 σ; exact j_none
  | succ k ih =>
    intro y1 y2 y3 y4 y5 σ
    rw [mL_told_6_s]
    refine j_iload 6 rfl dL_told_6 ?_
    refine j_bipush dL_told_8 ejb_12 ?_
    refine j_icmp_ge dL_told_10 ?_ ?_
    · refine j_iload 5 rfl dL_told_153 ?_
      exact j_ireturn hq dL_told_155
    · refine j_aload_n 1 rfl dL_told_13 ?_
      refine j_iload 6 rfl dL_told_14 ?_
      refine j_callSi (kL_holds x n y5 σ) ls_L_96 ⟨Nat.le_of_ble_eq_true rfl, Nat.le_of_ble_eq_true rfl⟩ dL_told_16 rfl (Nat.le_of_ble_eq_true rfl) (fun r6 s7 => ?_)
      refine j_if_eq dL_told_19 ?_ ?_
      · refine j_iconst dL_told_84 ejc_0 ?_
        exact j_sub [0, 1, 2, 3, 4, 5, 6] rfl (jL_told_85 x n hq (mL_told_6 n k) ih y1 y2 y3 y4 y5 0 s7)
      · refine j_aload_n 0 rfl dL_told_22 ?_
        refine j_iconst dL_told_23 ejc_5 ?_
        refine j_iload 6 rfl dL_told_24 ?_
        refine j_imul dL_told_26 ?_
        refine j_iald (lV_a_210 x s7) dL_told_27 ?_
        refine j_iload_n 2 rfl dL_told_28 ?_
        refine j_icmp_ne dL_told_29 ?_ ?_
        · refine j_iconst dL_told_84 ejc_0 ?_
          exact j_sub [0, 1, 2, 3, 4, 5, 6] rfl (jL_told_85 x n hq (mL_told_6 n k) ih y1 y2 y3 y4 y5 0 s7)
        · refine j_aload_n 0 rfl dL_told_32 ?_
          refine j_iconst dL_told_33 ejc_5 ?_
          refine j_iload 6 rfl dL_told_34 ?_
          refine j_imul dL_told_36 ?_
          refine j_iconst dL_told_37 ejc_1 ?_
          refine j_iadd dL_told_38 ?_
          refine j_iald (lV_a_210 x s7) dL_told_39 ?_
          refine j_iload_n 3 rfl dL_told_40 ?_
          refine j_icmp_ne dL_told_41 ?_ ?_
          · refine j_iconst dL_told_84 ejc_0 ?_
            exact j_sub [0, 1, 2, 3, 4, 5, 6] rfl (jL_told_85 x n hq (mL_told_6 n k) ih y1 y2 y3 y4 y5 0 s7)
          · refine j_iload_n 2 rfl dL_told_44 ?_
            refine j_iconst dL_told_45 ejc_3 ?_
            refine j_icmp_eq dL_told_46 ?_ ?_
            · refine j_iconst dL_told_80 ejc_1 ?_
              refine j_goto dL_told_81 ?_
              exact j_sub [0, 1, 2, 3, 4, 5, 6] rfl (jL_told_85 x n hq (mL_told_6 n k) ih y1 y2 y3 y4 y5 1 s7)
            · refine j_aload_n 0 rfl dL_told_49 ?_
              refine j_iconst dL_told_50 ejc_5 ?_
              refine j_iload 6 rfl dL_told_51 ?_
              refine j_imul dL_told_53 ?_
              refine j_iconst dL_told_54 ejc_2 ?_
              refine j_iadd dL_told_55 ?_
              refine j_iald (lV_a_210 x s7) dL_told_56 ?_
              refine j_iload 4 rfl dL_told_57 ?_
              refine j_icmp_eq dL_told_59 ?_ ?_
              · refine j_iconst dL_told_80 ejc_1 ?_
                refine j_goto dL_told_81 ?_
                exact j_sub [0, 1, 2, 3, 4, 5, 6] rfl (jL_told_85 x n hq (mL_told_6 n k) ih y1 y2 y3 y4 y5 1 s7)
              · refine j_iload_n 2 rfl dL_told_62 ?_
                refine j_iconst dL_told_63 ejc_2 ?_
                refine j_icmp_ne dL_told_64 ?_ ?_
                · refine j_iconst dL_told_84 ejc_0 ?_
                  exact j_sub [0, 1, 2, 3, 4, 5, 6] rfl (jL_told_85 x n hq (mL_told_6 n k) ih y1 y2 y3 y4 y5 0 s7)
                · refine j_aload_n 0 rfl dL_told_67 ?_
                  refine j_iconst dL_told_68 ejc_5 ?_
                  refine j_iload 6 rfl dL_told_69 ?_
                  refine j_imul dL_told_71 ?_
                  refine j_iconst dL_told_72 ejc_3 ?_
                  refine j_iadd dL_told_73 ?_
                  refine j_iald (lV_a_210 x s7) dL_told_74 ?_
                  refine j_iload 4 rfl dL_told_75 ?_
                  refine j_icmp_ne dL_told_77 ?_ ?_
                  · refine j_iconst dL_told_84 ejc_0 ?_
                    exact j_sub [0, 1, 2, 3, 4, 5, 6] rfl (jL_told_85 x n hq (mL_told_6 n k) ih y1 y2 y3 y4 y5 0 s7)
                  · refine j_iconst dL_told_80 ejc_1 ?_
                    refine j_goto dL_told_81 ?_
                    exact j_sub [0, 1, 2, 3, 4, 5, 6] rfl (jL_told_85 x n hq (mL_told_6 n k) ih y1 y2 y3 y4 y5 1 s7)
noncomputable def mL_told (n : Nat) (a2 : Int32) (a3 : Int32) (a4 : Int32) (σ : lw_S) : Option (Int32 × lw_S) := (mL_told_6 n n a2 a3 a4 (-1) 0 σ)
set_option maxRecDepth 20000 in
set_option maxHeartbeats 2000000 in
theorem jL_told (x : lw_T) (n : Nat) (a2 : Int32) (a3 : Int32) (a4 : Int32) (σ : lw_S) {F : ej_F} {r0 : Int32 × lw_S} (hq : ej_fin (lV x) F (some .int) (some (.int r0.1)) r0.2) : ej_J (lV x) F iL_told r0 σ 0 [(0, .ref (cw_a x.1 210)), (1, .ref (cw_a x.1 212)), (2, .int a2), (3, .int a3), (4, .int a4)] [] (mL_told n a2 a3 a4 σ) := by
  unfold mL_told
  refine j_iconst dL_told_0 ejc_m1 ?_
  refine j_istore (i := 5) (L' := [(5, .int (-1)), (0, .ref (cw_a x.1 210)), (1, .ref (cw_a x.1 212)), (2, .int a2), (3, .int a3), (4, .int a4)]) dL_told_1 (Nat.le_of_ble_eq_true rfl) rfl ?_
  refine j_iconst dL_told_3 ejc_0 ?_
  refine j_istore (i := 6) (L' := [(6, .int 0), (5, .int (-1)), (0, .ref (cw_a x.1 210)), (1, .ref (cw_a x.1 212)), (2, .int a2), (3, .int a3), (4, .int a4)]) dL_told_4 (Nat.le_of_ble_eq_true rfl) rfl ?_
  exact j_sub [2, 3, 4, 5, 6, 1, 0] rfl (jL_told_6 x n hq n a2 a3 a4 (-1) 0 σ)
theorem kL_told (x : lw_T) (n : Nat) (a2 : Int32) (a3 : Int32) (a4 : Int32) (σ : lw_S) : ∀ r σ1, mL_told n a2 a3 a4 σ = some (r, σ1) → ∀ l, ej_Con l (lV x) iL_told yL_told (some .int) [.ref (cw_a x.1 210), .ref (cw_a x.1 212), .int a2, .int a3, .int a4] σ (some (.int r)) σ1 := fun r σ1 h l => ej_con_of (lV_ok x) pn_L rfl (Nat.le_of_ble_eq_true rfl) rfl h (fun F hq => jL_told x n a2 a3 a4 σ hq)

noncomputable def mL_isNet_5 (n : Nat) (k : Nat) : Int32 → Int32 → Int32 → lw_S → Option (Int32 × lw_S) := Nat.rec (motive := fun _ => Int32 → Int32 → Int32 → lw_S → Option (Int32 × lw_S)) (fun _ _ _ _ => none) (fun _ ih y1 y2 y3 σ => (if 12 ≤ y3 then (some (ej_bz y2, σ)) else (if y2 = 0 then ej_bi (mL_holds n y3 σ) fun r5 s6 => (if r5 = 0 then ej_nm (y3 + 1) fun x7 => (ih y1 0 x7 s6) else ej_ck (5 * y3) 60 ((if gA s6.2 0 (5 * y3).toNatClampNeg = 2 then ej_ck ((5 * y3) + 1) 60 ((if gA s6.2 0 ((5 * y3) + 1).toNatClampNeg = y1 then ej_nm (y3 + 1) fun x10 => (ih y1 1 x10 s6) else ej_nm (y3 + 1) fun x9 => (ih y1 0 x9 s6))) else ej_nm (y3 + 1) fun x8 => (ih y1 0 x8 s6)))) else ej_nm (y3 + 1) fun x4 => (ih y1 1 x4 σ)))) k
theorem mL_isNet_5_s (n : Nat) (k : Nat) (y1 : Int32) (y2 : Int32) (y3 : Int32) (σ : lw_S) : mL_isNet_5 n (k + 1) y1 y2 y3 σ = ((if 12 ≤ y3 then (some (ej_bz y2, σ)) else (if y2 = 0 then ej_bi (mL_holds n y3 σ) fun r5 s6 => (if r5 = 0 then ej_nm (y3 + 1) fun x7 => ((mL_isNet_5 n k) y1 0 x7 s6) else ej_ck (5 * y3) 60 ((if gA s6.2 0 (5 * y3).toNatClampNeg = 2 then ej_ck ((5 * y3) + 1) 60 ((if gA s6.2 0 ((5 * y3) + 1).toNatClampNeg = y1 then ej_nm (y3 + 1) fun x10 => ((mL_isNet_5 n k) y1 1 x10 s6) else ej_nm (y3 + 1) fun x9 => ((mL_isNet_5 n k) y1 0 x9 s6))) else ej_nm (y3 + 1) fun x8 => ((mL_isNet_5 n k) y1 0 x8 s6)))) else ej_nm (y3 + 1) fun x4 => ((mL_isNet_5 n k) y1 1 x4 σ))) : Option (Int32 × lw_S)) := rfl
set_option maxRecDepth 20000 in
set_option maxHeartbeats 2000000 in
theorem jL_isNet_5 (x : lw_T) (n : Nat) {F : ej_F} {r0 : Int32 × lw_S} (hq : ej_fin (lV x) F (some .boolean) (some (.int r0.1)) r0.2) : ∀ (k : Nat) (y1 : Int32) (y2 : Int32) (y3 : Int32) (σ : lw_S), ej_J (lV x) F iL_isNet r0 σ 5 [(0, .ref (cw_a x.1 210)), (1, .ref (cw_a x.1 212)), (2, .int y1), (3, .int y2), (4, .int y3)] [] (mL_isNet_5 n k y1 y2 y3 σ) := by
  intro k
  induction k with
  | zero => intro y1 y2 y3 σ; exact j_none
  | succ k ih =>
    intro y1 y2 y3 σ
    rw [mL_isNet_5_s]
    refine j_iload 4 rfl dL_isNet_5 ?_
    refine j_bipush dL_isNet_7 ejb_12 ?_
    refine j_icmp_ge dL_isNet_9 ?_ ?_
    · refine j_iload_n 3 rfl dL_isNet_59 ?_
      exact j_zreturn hq dL_isNet_60
    · refine j_iload_n 3 rfl dL_isNet_12 ?_
      refine j_if_ne dL_isNet_13 ?_ ?_
      · refine j_iconst dL_isNet_47 ejc_1 ?_
        refine j_goto dL_isNet_48 ?_
        refine j_istore_n (i := 3) (L' := [(3, .int 1), (0, .ref (cw_a x.1 210)), (1, .ref (cw_a x.1 212)), (2, .int y1), (4, .int y3)]) dL_isNet_52 rfl (Nat.le_of_ble_eq_true rfl) rfl ?_
        refine j_iinc (i := 4) (v := 1) (Ly := fun x4 => [(4, .int x4), (3, .int 1), (0, .ref (cw_a x.1 210)), (1, .ref (cw_a x.1 212)), (2, .int y1)]) 4 dL_isNet_53 rfl ejc_1 (Nat.le_of_ble_eq_true rfl) (fun _ => rfl) (fun x4 => ?_)
        refine j_goto dL_isNet_56 ?_
        exact j_sub [2, 3, 4, 1, 0] rfl (ih y1 1 x4 σ)
      · refine j_aload_n 1 rfl dL_isNet_16 ?_
        refine j_iload 4 rfl dL_isNet_17 ?_
        refine j_callSi (kL_holds x n y3 σ) ls_L_96 ⟨Nat.le_of_ble_eq_true rfl, Nat.le_of_ble_eq_true rfl⟩ dL_isNet_19 rfl (Nat.le_of_ble_eq_true rfl) (fun r5 s6 => ?_)
        refine j_if_eq dL_isNet_22 ?_ ?_
        · refine j_iconst dL_isNet_51 ejc_0 ?_
          refine j_istore_n (i := 3) (L' := [(3, .int 0), (0, .ref (cw_a x.1 210)), (1, .ref (cw_a x.1 212)), (2, .int y1), (4, .int y3)]) dL_isNet_52 rfl (Nat.le_of_ble_eq_true rfl) rfl ?_
          refine j_iinc (i := 4) (v := 1) (Ly := fun x7 => [(4, .int x7), (3, .int 0), (0, .ref (cw_a x.1 210)), (1, .ref (cw_a x.1 212)), (2, .int y1)]) 4 dL_isNet_53 rfl ejc_1 (Nat.le_of_ble_eq_true rfl) (fun _ => rfl) (fun x7 => ?_)
          refine j_goto dL_isNet_56 ?_
          exact j_sub [2, 3, 4, 1, 0] rfl (ih y1 0 x7 s6)
        · refine j_aload_n 0 rfl dL_isNet_25 ?_
          refine j_iconst dL_isNet_26 ejc_5 ?_
          refine j_iload 4 rfl dL_isNet_27 ?_
          refine j_imul dL_isNet_29 ?_
          refine j_iald (lV_a_210 x s6) dL_isNet_30 ?_
          refine j_iconst dL_isNet_31 ejc_2 ?_
          refine j_icmp_ne dL_isNet_32 ?_ ?_
          · refine j_iconst dL_isNet_51 ejc_0 ?_
            refine j_istore_n (i := 3) (L' := [(3, .int 0), (0, .ref (cw_a x.1 210)), (1, .ref (cw_a x.1 212)), (2, .int y1), (4, .int y3)]) dL_isNet_52 rfl (Nat.le_of_ble_eq_true rfl) rfl ?_
            refine j_iinc (i := 4) (v := 1) (Ly := fun x8 => [(4, .int x8), (3, .int 0), (0, .ref (cw_a x.1 210)), (1, .ref (cw_a x.1 212)), (2, .int y1)]) 4 dL_isNet_53 rfl ejc_1 (Nat.le_of_ble_eq_true rfl) (fun _ => rfl) (fun x8 => ?_)
            refine j_goto dL_isNet_56 ?_
            exact j_sub [2, 3, 4, 1, 0] rfl (ih y1 0 x8 s6)
          · refine j_aload_n 0 rfl dL_isNet_35 ?_
            refine j_iconst dL_isNet_36 ejc_5 ?_
            refine j_iload 4 rfl dL_isNet_37 ?_
            refine j_imul dL_isNet_39 ?_
            refine j_iconst dL_isNet_40 ejc_1 ?_
            refine j_iadd dL_isNet_41 ?_
            refine j_iald (lV_a_210 x s6) dL_isNet_42 ?_
            refine j_iload_n 2 rfl dL_isNet_43 ?_
            refine j_icmp_ne dL_isNet_44 ?_ ?_
            · refine j_iconst dL_isNet_51 ejc_0 ?_
              refine j_istore_n (i := 3) (L' := [(3, .int 0), (0, .ref (cw_a x.1 210)), (1, .ref (cw_a x.1 212)), (2, .int y1), (4, .int y3)]) dL_isNet_52 rfl (Nat.le_of_ble_eq_true rfl) rfl ?_
              refine j_iinc (i := 4) (v := 1) (Ly := fun x9 => [(4, .int x9), (3, .int 0), (0, .ref (cw_a x.1 210)), (1, .ref (cw_a x.1 212)), (2, .int y1)]) 4 dL_isNet_53 rfl ejc_1 (Nat.le_of_ble_eq_true rfl) (fun _ => rfl) (fun x9 => ?_)
              refine j_goto dL_isNet_56 ?_
              exact j_sub [2, 3, 4, 1, 0] rfl (ih y1 0 x9 s6)
            · refine j_iconst dL_isNet_47 ejc_1 ?_
              refine j_goto dL_isNet_48 ?_
              refine j_istore_n (i := 3) (L' := [(3, .int 1), (0, .ref (cw_a x.1 210)), (1, .ref (cw_a x.1 212)), (2, .int y1), (4, .int y3)]) dL_isNet_52 rfl (Nat.le_of_ble_eq_true rfl) rfl ?_
              refine j_iinc (i := 4) (v := 1) (Ly := fun x10 => [(4, .int x10), (3, .int 1), (0, .ref (cw_a x.1 210)), (1, .ref (cw_a x.1 212)), (2, .int y1)]) 4 dL_isNet_53 rfl ejc_1 (Nat.le_of_ble_eq_true rfl) (fun _ => rfl) (fun x10 => ?_)
              refine j_goto dL_isNet_56 ?_
              exact j_sub [2, 3, 4, 1, 0] rfl (ih y1 1 x10 s6)
noncomputable def mL_isNet (n : Nat) (a2 : Int32) (σ : lw_S) : Option (Int32 × lw_S) := (mL_isNet_5 n n a2 0 0 σ)
set_option maxRecDepth 20000 in
set_option maxHeartbeats 2000000 in
theorem jL_isNet (x : lw_T) (n : Nat) (a2 : Int32) (σ : lw_S) {F : ej_F} {r0 : Int32 × lw_S} (hq : ej_fin (lV x) F (some .boolean) (some (.int r0.1)) r0.2) : ej_J (lV x) F iL_isNet r0 σ 0 [(0, .ref (cw_a x.1 210)), (1, .ref (cw_a x.1 212)), (2, .int a2)] [] (mL_isNet n a2 σ) := by
  unfold mL_isNet
  refine j_iconst dL_isNet_0 ejc_0 ?_
  refine j_istore_n (i := 3) (L' := [(3, .int 0), (0, .ref (cw_a x.1 210)), (1, .ref (cw_a x.1 212)), (2, .int a2)]) dL_isNet_1 rfl (Nat.le_of_ble_eq_true rfl) rfl ?_
  refine j_iconst dL_isNet_2 ejc_0 ?_
  refine j_istore (i := 4) (L' := [(4, .int 0), (3, .int 0), (0, .ref (cw_a x.1 210)), (1, .ref (cw_a x.1 212)), (2, .int a2)]) dL_isNet_3 (Nat.le_of_ble_eq_true rfl) rfl ?_
  exact j_sub [2, 3, 4, 1, 0] rfl (jL_isNet_5 x n hq n a2 0 0 σ)
theorem kL_isNet (x : lw_T) (n : Nat) (a2 : Int32) (σ : lw_S) : ∀ r σ1, mL_isNet n a2 σ = some (r, σ1) → ∀ l, ej_Con l (lV x) iL_isNet yL_isNet (some .boolean) [.ref (cw_a x.1 210), .ref (cw_a x.1 212), .int a2] σ (some (.int r)) σ1 := fun r σ1 h l => ej_con_of (lV_ok x) pn_L rfl (Nat.le_of_ble_eq_true rfl) rfl h (fun F hq => jL_isNet x n a2 σ hq)

noncomputable def mL_either (n : Nat) (a0 : Int32) (a1 : Int32) (σ : lw_S) : Option (Int32 × lw_S) := (if 0 ≤ a0 then (some (a0, σ)) else (some (a1, σ)))
set_option maxRecDepth 20000 in
set_option maxHeartbeats 2000000 in
theorem jL_either (x : lw_T) (n : Nat) (a0 : Int32) (a1 : Int32) (σ : lw_S) {F : ej_F} {r0 : Int32 × lw_S} (hq : ej_fin (lV x) F (some .int) (some (.int r0.1)) r0.2) : ej_J (lV x) F iL_either r0 σ 0 [(0, .int a0), (1, .int a1)] [] (mL_either n a0 a1 σ) := by
  unfold mL_either
  refine j_iload_n 0 rfl dL_either_0 ?_
  refine j_if_ge dL_either_1 ?_ ?_
  · refine j_iload_n 0 rfl dL_either_8 ?_
    exact j_ireturn hq dL_either_9
  · refine j_iload_n 1 rfl dL_either_4 ?_
    refine j_goto dL_either_5 ?_
    exact j_ireturn hq dL_either_9
theorem kL_either (x : lw_T) (n : Nat) (a0 : Int32) (a1 : Int32) (σ : lw_S) : ∀ r σ1, mL_either n a0 a1 σ = some (r, σ1) → ∀ l, ej_Con l (lV x) iL_either yL_either (some .int) [.int a0, .int a1] σ (some (.int r)) σ1 := fun r σ1 h l => ej_con_of (lV_ok x) pn_L rfl (Nat.le_of_ble_eq_true rfl) rfl h (fun F hq => jL_either x n a0 a1 σ hq)

