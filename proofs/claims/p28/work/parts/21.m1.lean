noncomputable def m1_clear (n : Nat)  (σ : ej_S) : Option (ej_S) := ej_nm (uI σ 10 0) fun s1 => ej_nm (uI s1 11 0) fun s2 => (some s2)
set_option maxRecDepth 20000 in
set_option maxHeartbeats 2000000 in
theorem j1_clear (x : cw_T) (n : Nat)  (σ : ej_S) {F : ej_F} {r0 : ej_S} (hq : ej_fin (cV x) F none none r0) : ej_J (cV x) F i1_clear r0 σ 0 [(0, .ref (cw_a x 1))] [] (m1_clear n  σ) := by
  unfold m1_clear
  refine j_aload_n 0 rfl d1_clear_0 ?_
  refine j_iconst d1_clear_1 ejc_0 ?_
  refine j_put fl_X1_7 (cV_p_1_0 x σ 0) rfl rfl d1_clear_2 (fun s1 => ?_)
  refine j_aload_n 0 rfl d1_clear_5 ?_
  refine j_iconst d1_clear_6 ejc_0 ?_
  refine j_put fl_X1_13 (cV_p_1_1 x s1 0) rfl rfl d1_clear_7 (fun s2 => ?_)
  exact j_vreturn hq d1_clear_10
theorem c1_clear (x : cw_T) (n : Nat)  (σ : ej_S) : ∀ σ1, m1_clear n  σ = some σ1 → ∀ l, ej_Con l (cV x) i1_clear yX1_clear none [.ref (cw_a x 1)] σ none σ1 := fun σ1 h l => ej_con_of (cV_ok x) pn_X1 rfl (Nat.le_of_ble_eq_true rfl) rfl h (fun F hq => j1_clear x n  σ hq)

noncomputable def m1_tell (n : Nat) (a1 : Int32) (a2 : Int32) (σ : ej_S) : Option (Int32 × ej_S) := ej_nm (uI σ 10 a1) fun s1 => ej_nm (uI s1 11 a2) fun s2 => (some (0, s2))
set_option maxRecDepth 20000 in
set_option maxHeartbeats 2000000 in
theorem j1_tell (x : cw_T) (n : Nat) (a1 : Int32) (a2 : Int32) (σ : ej_S) {F : ej_F} {r0 : Int32 × ej_S} (hq : ej_fin (cV x) F (some .boolean) (some (.int r0.1)) r0.2) : ej_J (cV x) F i1_tell r0 σ 0 [(0, .ref (cw_a x 1)), (1, .int a1), (2, .int a2)] [] (m1_tell n a1 a2 σ) := by
  unfold m1_tell
  refine j_aload_n 0 rfl d1_tell_0 ?_
  refine j_iload_n 1 rfl d1_tell_1 ?_
  refine j_put fl_X1_7 (cV_p_1_0 x σ a1) rfl rfl d1_tell_2 (fun s1 => ?_)
  refine j_aload_n 0 rfl d1_tell_5 ?_
  refine j_iload_n 2 rfl d1_tell_6 ?_
  refine j_put fl_X1_13 (cV_p_1_1 x s1 a2) rfl rfl d1_tell_7 (fun s2 => ?_)
  refine j_iconst d1_tell_10 ejc_0 ?_
  exact j_zreturn0 hq d1_tell_11
theorem c1_tell (x : cw_T) (n : Nat) (a1 : Int32) (a2 : Int32) (σ : ej_S) : ∀ r σ1, m1_tell n a1 a2 σ = some (r, σ1) → ∀ l, ej_Con l (cV x) i1_tell yX1_tell (some .boolean) [.ref (cw_a x 1), .int a1, .int a2] σ (some (.int r)) σ1 := fun r σ1 h l => ej_con_of (cV_ok x) pn_X1 rfl (Nat.le_of_ble_eq_true rfl) rfl h (fun F hq => j1_tell x n a1 a2 σ hq)

noncomputable def m1_code (n : Nat)  (σ : ej_S) : Option (Int32 × ej_S) := (some (gI σ 10, σ))
set_option maxRecDepth 20000 in
set_option maxHeartbeats 2000000 in
theorem j1_code (x : cw_T) (n : Nat)  (σ : ej_S) {F : ej_F} {r0 : Int32 × ej_S} (hq : ej_fin (cV x) F (some .int) (some (.int r0.1)) r0.2) : ej_J (cV x) F i1_code r0 σ 0 [(0, .ref (cw_a x 1))] [] (m1_code n  σ) := by
  unfold m1_code
  refine j_aload_n 0 rfl d1_code_0 ?_
  refine j_get fl_X1_7 (cV_g_1_0 x σ) d1_code_1 ?_
  exact j_ireturn hq d1_code_4
theorem c1_code (x : cw_T) (n : Nat)  (σ : ej_S) : ∀ r σ1, m1_code n  σ = some (r, σ1) → ∀ l, ej_Con l (cV x) i1_code yX1_code (some .int) [.ref (cw_a x 1)] σ (some (.int r)) σ1 := fun r σ1 h l => ej_con_of (cV_ok x) pn_X1 rfl (Nat.le_of_ble_eq_true rfl) rfl h (fun F hq => j1_code x n  σ hq)

noncomputable def m1_where (n : Nat)  (σ : ej_S) : Option (Int32 × ej_S) := (some (gI σ 11, σ))
set_option maxRecDepth 20000 in
set_option maxHeartbeats 2000000 in
theorem j1_where (x : cw_T) (n : Nat)  (σ : ej_S) {F : ej_F} {r0 : Int32 × ej_S} (hq : ej_fin (cV x) F (some .int) (some (.int r0.1)) r0.2) : ej_J (cV x) F i1_where r0 σ 0 [(0, .ref (cw_a x 1))] [] (m1_where n  σ) := by
  unfold m1_where
  refine j_aload_n 0 rfl d1_where_0 ?_
  refine j_get fl_X1_13 (cV_g_1_1 x σ) d1_where_1 ?_
  exact j_ireturn hq d1_where_4
theorem c1_where (x : cw_T) (n : Nat)  (σ : ej_S) : ∀ r σ1, m1_where n  σ = some (r, σ1) → ∀ l, ej_Con l (cV x) i1_where yX1_where (some .int) [.ref (cw_a x 1)] σ (some (.int r)) σ1 := fun r σ1 h l => ej_con_of (cV_ok x) pn_X1 rfl (Nat.le_of_ble_eq_true rfl) rfl h (fun F hq => j1_where x n  σ hq)

