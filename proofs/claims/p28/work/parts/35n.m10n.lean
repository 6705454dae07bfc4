section EN
variable {S α : Type} {V : ej_V S} {F : ej_F} {I : ej_I} {σ : S} {pc q t : Nat} {L L' : List (Nat × Value)} {st : List Value} {ret : Option FieldType}
def ej_fin0 (V : ej_V S) (F : ej_F) (ret : Option FieldType) (f : α → Option Value × S) (r0 : α ⊕ (Nat × S)) : Prop := ∃ a, r0 = .inl a ∧ ej_fin V F ret (f a).1 (f a).2
theorem jn_ireturn {x : Int32} {r0 : (Int32 × S) ⊕ (Nat × S)} (hq : ej_fin0 V F (some .int) ej_fi r0) (hd : decode I.1 pc = .ok (.ireturn, 1)) : ej_J V F I r0 σ pc L [.int x] (some (.inl (x, σ))) := by
  obtain ⟨a, rfl, hq⟩ := hq
  intro h
  cases h
  exact j_ireturn (r0 := (x, σ)) hq hd rfl
theorem jn_zreturn {x : Int32} {r0 : (Int32 × S) ⊕ (Nat × S)} (hq : ej_fin0 V F (some .boolean) ej_fi r0) (hd : decode I.1 pc = .ok (.ireturn, 1)) : ej_J V F I r0 σ pc L [.int x] (some (.inl (ej_bz x, σ))) := by
  obtain ⟨a, rfl, hq⟩ := hq
  intro h
  cases h
  exact j_zreturn (r0 := (ej_bz x, σ)) hq hd rfl
theorem jn_vreturn {r0 : S ⊕ (Nat × S)} (hq : ej_fin0 V F none ej_fv r0) (hd : decode I.1 pc = .ok (.return_, 1)) : ej_J V F I r0 σ pc L [] (some (.inl σ)) := by
  obtain ⟨a, rfl, hq⟩ := hq
  intro h
  cases h
  exact j_vreturn (r0 := σ) hq hd rfl
theorem jn_throw {f : α → Option Value × S} {r0 : α ⊕ (Nat × S)} {e : Nat × S} (hq : ej_fin0 V F ret f r0) : ej_J V F I r0 σ pc L st (some (.inr e)) := by
  obtain ⟨a, rfl, hq⟩ := hq
  intro h
  cases h
theorem jn_callv {f : α → Option Value × S} {r0 : α ⊕ (Nat × S)} {I' : ej_I} {y : MethodName} {idx b : Nat} {As st0 : List Value} {m1 : Option (S ⊕ (Nat × S))} {km : S → Option (α ⊕ (Nat × S))} (hq : ej_fin0 V F ret f r0) (hc : ∀ σ1, m1 = some (.inl σ1) → ∀ l, ej_Con l V I' y none (.ref b :: As) σ none σ1) (hL : ej_LV I.2.2.1 idx y I' none As.length) (hrc : ej_rc V σ b y.cls) (hR : ej_ro I' I) (hd : ej_d I pc (.invokevirtual idx) 3 q) (hst : st0 = As.reverse ++ .ref b :: st) (hcat : (st.map fun v => v.category).sum ≤ 8) (kk : ∀ σ1, ej_J V F I r0 σ1 q L st (km σ1)) : ej_J V F I r0 σ pc L st0 (ej_bxv m1 km) := by
  intro h
  cases hm : m1 with
  | none => rw [hm] at h; cases h
  | some z =>
    cases z with
    | inr e =>
      rw [hm] at h
      obtain ⟨a, rfl, hq⟩ := hq
      cases h
    | inl σ1 =>
      rw [hm] at h
      exact j_callVv (m1 := some σ1) (km := km) (fun s1 e => by cases e; exact hc _ hm) hL hrc hR hd hst hcat kk h
end EN
set_option maxRecDepth 20000 in
set_option maxHeartbeats 2000000 in
theorem jn10_needNode (x : cw_T) (n : Nat) (a1 : Int32) (σ : ej_S) {F : ej_F} {r0 : ej_S ⊕ (Nat × ej_S)} (hq : ej_fin0 (cV x) F none ej_fv r0) : ej_J (cV x) F i10_needNode r0 σ 0 [(0, .ref (cw_a x 0)), (1, .int a1)] [] (m10_needNode n a1 σ) := by
  unfold m10_needNode
  refine j_aload_n 0 rfl d10_needNode_0 ?_
  refine j_get fl_X10_55 (cV_g_0_7 x σ) d10_needNode_1 ?_
  refine j_iload_n 1 rfl d10_needNode_4 ?_
  refine j_callVi (c0_has x n a1 σ) lv_X10_254 (cV_rc_4 x σ) ⟨Nat.le_of_ble_eq_true rfl, Nat.le_of_ble_eq_true rfl⟩ d10_needNode_5 rfl (Nat.le_of_ble_eq_true rfl) (fun r2 s1 => ?_)
  refine j_if_ne d10_needNode_8 ?_ ?_
  · exact jn_vreturn hq d10_needNode_22
  · exact jn_throw hq
theorem n10_needNode (x : cw_T) (n : Nat) (a1 : Int32) (σ : ej_S) : ∀ z, m10_needNode n a1 σ = some (.inl z) → ∀ l : Launch, ej_Con l (cV x) i10_needNode yX10_needNode none [.ref (cw_a x 0), .int a1] σ (ej_fv z).1 (ej_fv z).2 := fun z h l => ej_con_of (cV_ok x) pn_X10 rfl (Nat.le_of_ble_eq_true rfl) rfl h (fun F hq => jn10_needNode x n a1 σ ⟨z, rfl, hq⟩)

set_option maxRecDepth 20000 in
set_option maxHeartbeats 2000000 in
theorem jn10_needPlace (x : cw_T) (n : Nat) (a1 : Int32) (a2 : Int32) (σ : ej_S) {F : ej_F} {r0 : ej_S ⊕ (Nat × ej_S)} (hq : ej_fin0 (cV x) F none ej_fv r0) : ej_J (cV x) F i10_needPlace r0 σ 0 [(0, .ref (cw_a x 0)), (1, .int a1), (2, .int a2)] [] (m10_needPlace n a1 a2 σ) := by
  unfold m10_needPlace
  refine j_aload_n 0 rfl d10_needPlace_0 ?_
  refine j_iload_n 1 rfl d10_needPlace_1 ?_
  refine jn_callv hq (n10_needNode x n a1 σ) lv_X10_192 (cV_rc_0 x σ) ⟨Nat.le_of_ble_eq_true rfl, Nat.le_of_ble_eq_true rfl⟩ d10_needPlace_2 rfl (Nat.le_of_ble_eq_true rfl) (fun s1 => ?_)
  refine j_aload_n 0 rfl d10_needPlace_5 ?_
  refine j_get fl_X10_82 (cV_g_0_10 x s1) d10_needPlace_6 ?_
  refine j_callVv (c9_find x n s1) lv_X10_215 (cV_rc_7 x s1) ⟨Nat.le_of_ble_eq_true rfl, Nat.le_of_ble_eq_true rfl⟩ d10_needPlace_9 rfl (Nat.le_of_ble_eq_true rfl) (fun s2 => ?_)
  refine j_iload_n 2 rfl d10_needPlace_12 ?_
  refine j_if_lt d10_needPlace_13 ?_ ?_
  · exact jn_throw hq
  · refine j_iload_n 2 rfl d10_needPlace_16 ?_
    refine j_aload_n 0 rfl d10_needPlace_17 ?_
    refine j_get fl_X10_82 (cV_g_0_10 x s2) d10_needPlace_18 ?_
    refine j_iload_n 1 rfl d10_needPlace_21 ?_
    refine j_callVi (c9_layOut x n a1 s2) lv_X10_259 (cV_rc_7 x s2) ⟨Nat.le_of_ble_eq_true rfl, Nat.le_of_ble_eq_true rfl⟩ d10_needPlace_22 rfl (Nat.le_of_ble_eq_true rfl) (fun r4 s3 => ?_)
    refine j_icmp_le d10_needPlace_25 ?_ ?_
    · exact jn_vreturn hq d10_needPlace_39
    · exact jn_throw hq
theorem n10_needPlace (x : cw_T) (n : Nat) (a1 : Int32) (a2 : Int32) (σ : ej_S) : ∀ z, m10_needPlace n a1 a2 σ = some (.inl z) → ∀ l : Launch, ej_Con l (cV x) i10_needPlace yX10_needPlace none [.ref (cw_a x 0), .int a1, .int a2] σ (ej_fv z).1 (ej_fv z).2 := fun z h l => ej_con_of (cV_ok x) pn_X10 rfl (Nat.le_of_ble_eq_true rfl) rfl h (fun F hq => jn10_needPlace x n a1 a2 σ ⟨z, rfl, hq⟩)

set_option maxRecDepth 20000 in
set_option maxHeartbeats 2000000 in
theorem jn10_cost (x : cw_T) (n : Nat) (a1 : Int32) (σ : ej_S) {F : ej_F} {r0 : (Int32 × ej_S) ⊕ (Nat × ej_S)} (hq : ej_fin0 (cV x) F (some .int) ej_fi r0) : ej_J (cV x) F i10_cost r0 σ 0 [(0, .ref (cw_a x 0)), (1, .int a1)] [] (m10_cost n a1 σ) := by
  unfold m10_cost
  refine j_aload_n 0 rfl d10_cost_0 ?_
  refine j_iload_n 1 rfl d10_cost_1 ?_
  refine jn_callv hq (n10_needNode x n a1 σ) lv_X10_192 (cV_rc_0 x σ) ⟨Nat.le_of_ble_eq_true rfl, Nat.le_of_ble_eq_true rfl⟩ d10_cost_2 rfl (Nat.le_of_ble_eq_true rfl) (fun s1 => ?_)
  refine j_aload_n 0 rfl d10_cost_5 ?_
  refine j_get fl_X10_82 (cV_g_0_10 x s1) d10_cost_6 ?_
  refine j_callVv (c9_find x n s1) lv_X10_215 (cV_rc_7 x s1) ⟨Nat.le_of_ble_eq_true rfl, Nat.le_of_ble_eq_true rfl⟩ d10_cost_9 rfl (Nat.le_of_ble_eq_true rfl) (fun s2 => ?_)
  refine j_aload_n 0 rfl d10_cost_12 ?_
  refine j_get fl_X10_82 (cV_g_0_10 x s2) d10_cost_13 ?_
  refine j_aload_n 0 rfl d10_cost_16 ?_
  refine j_get fl_X10_82 (cV_g_0_10 x s2) d10_cost_17 ?_
  refine j_iload_n 1 rfl d10_cost_20 ?_
  refine j_callVi (c9_routeKey x n a1 s2) lv_X10_217 (cV_rc_7 x s2) ⟨Nat.le_of_ble_eq_true rfl, Nat.le_of_ble_eq_true rfl⟩ d10_cost_21 rfl (Nat.le_of_ble_eq_true rfl) (fun r4 s3 => ?_)
  refine j_callVi (c9_costOfKey x n r4 s3) lv_X10_220 (cV_rc_7 x s3) ⟨Nat.le_of_ble_eq_true rfl, Nat.le_of_ble_eq_true rfl⟩ d10_cost_24 rfl (Nat.le_of_ble_eq_true rfl) (fun r6 s5 => ?_)
  exact jn_ireturn hq d10_cost_27
theorem n10_cost (x : cw_T) (n : Nat) (a1 : Int32) (σ : ej_S) : ∀ z, m10_cost n a1 σ = some (.inl z) → ∀ l : Launch, ej_Con l (cV x) i10_cost yX10_cost (some .int) [.ref (cw_a x 0), .int a1] σ (ej_fi z).1 (ej_fi z).2 := fun z h l => ej_con_of (cV_ok x) pn_X10 rfl (Nat.le_of_ble_eq_true rfl) rfl h (fun F hq => jn10_cost x n a1 σ ⟨z, rfl, hq⟩)

set_option maxRecDepth 20000 in
set_option maxHeartbeats 2000000 in
theorem jn10_steps (x : cw_T) (n : Nat) (a1 : Int32) (σ : ej_S) {F : ej_F} {r0 : (Int32 × ej_S) ⊕ (Nat × ej_S)} (hq : ej_fin0 (cV x) F (some .int) ej_fi r0) : ej_J (cV x) F i10_steps r0 σ 0 [(0, .ref (cw_a x 0)), (1, .int a1)] [] (m10_steps n a1 σ) := by
  unfold m10_steps
  refine j_aload_n 0 rfl d10_steps_0 ?_
  refine j_iload_n 1 rfl d10_steps_1 ?_
  refine jn_callv hq (n10_needNode x n a1 σ) lv_X10_192 (cV_rc_0 x σ) ⟨Nat.le_of_ble_eq_true rfl, Nat.le_of_ble_eq_true rfl⟩ d10_steps_2 rfl (Nat.le_of_ble_eq_true rfl) (fun s1 => ?_)
  refine j_aload_n 0 rfl d10_steps_5 ?_
  refine j_get fl_X10_82 (cV_g_0_10 x s1) d10_steps_6 ?_
  refine j_callVv (c9_find x n s1) lv_X10_215 (cV_rc_7 x s1) ⟨Nat.le_of_ble_eq_true rfl, Nat.le_of_ble_eq_true rfl⟩ d10_steps_9 rfl (Nat.le_of_ble_eq_true rfl) (fun s2 => ?_)
  refine j_aload_n 0 rfl d10_steps_12 ?_
  refine j_get fl_X10_82 (cV_g_0_10 x s2) d10_steps_13 ?_
  refine j_aload_n 0 rfl d10_steps_16 ?_
  refine j_get fl_X10_82 (cV_g_0_10 x s2) d10_steps_17 ?_
  refine j_iload_n 1 rfl d10_steps_20 ?_
  refine j_callVi (c9_routeKey x n a1 s2) lv_X10_217 (cV_rc_7 x s2) ⟨Nat.le_of_ble_eq_true rfl, Nat.le_of_ble_eq_true rfl⟩ d10_steps_21 rfl (Nat.le_of_ble_eq_true rfl) (fun r4 s3 => ?_)
  refine j_callVi (c9_lengthOfKey x n r4 s3) lv_X10_229 (cV_rc_7 x s3) ⟨Nat.le_of_ble_eq_true rfl, Nat.le_of_ble_eq_true rfl⟩ d10_steps_24 rfl (Nat.le_of_ble_eq_true rfl) (fun r6 s5 => ?_)
  exact jn_ireturn hq d10_steps_27
theorem n10_steps (x : cw_T) (n : Nat) (a1 : Int32) (σ : ej_S) : ∀ z, m10_steps n a1 σ = some (.inl z) → ∀ l : Launch, ej_Con l (cV x) i10_steps yX10_steps (some .int) [.ref (cw_a x 0), .int a1] σ (ej_fi z).1 (ej_fi z).2 := fun z h l => ej_con_of (cV_ok x) pn_X10 rfl (Nat.le_of_ble_eq_true rfl) rfl h (fun F hq => jn10_steps x n a1 σ ⟨z, rfl, hq⟩)

set_option maxRecDepth 20000 in
set_option maxHeartbeats 2000000 in
theorem jn10_kind (x : cw_T) (n : Nat) (a1 : Int32) (σ : ej_S) {F : ej_F} {r0 : (Int32 × ej_S) ⊕ (Nat × ej_S)} (hq : ej_fin0 (cV x) F (some .int) ej_fi r0) : ej_J (cV x) F i10_kind r0 σ 0 [(0, .ref (cw_a x 0)), (1, .int a1)] [] (m10_kind n a1 σ) := by
  unfold m10_kind
  refine j_aload_n 0 rfl d10_kind_0 ?_
  refine j_iload_n 1 rfl d10_kind_1 ?_
  refine jn_callv hq (n10_needNode x n a1 σ) lv_X10_192 (cV_rc_0 x σ) ⟨Nat.le_of_ble_eq_true rfl, Nat.le_of_ble_eq_true rfl⟩ d10_kind_2 rfl (Nat.le_of_ble_eq_true rfl) (fun s1 => ?_)
  refine j_aload_n 0 rfl d10_kind_5 ?_
  refine j_get fl_X10_55 (cV_g_0_7 x s1) d10_kind_6 ?_
  refine j_iload_n 1 rfl d10_kind_9 ?_
  refine j_callVi (c0_kindOf x n a1 s1) lv_X10_202 (cV_rc_4 x s1) ⟨Nat.le_of_ble_eq_true rfl, Nat.le_of_ble_eq_true rfl⟩ d10_kind_10 rfl (Nat.le_of_ble_eq_true rfl) (fun r3 s2 => ?_)
  exact jn_ireturn hq d10_kind_13
theorem n10_kind (x : cw_T) (n : Nat) (a1 : Int32) (σ : ej_S) : ∀ z, m10_kind n a1 σ = some (.inl z) → ∀ l : Launch, ej_Con l (cV x) i10_kind yX10_kind (some .int) [.ref (cw_a x 0), .int a1] σ (ej_fi z).1 (ej_fi z).2 := fun z h l => ej_con_of (cV_ok x) pn_X10 rfl (Nat.le_of_ble_eq_true rfl) rfl h (fun F hq => jn10_kind x n a1 σ ⟨z, rfl, hq⟩)

set_option maxRecDepth 20000 in
set_option maxHeartbeats 2000000 in
theorem jn10_linkCost (x : cw_T) (n : Nat) (a1 : Int32) (a2 : Int32) (σ : ej_S) {F : ej_F} {r0 : (Int32 × ej_S) ⊕ (Nat × ej_S)} (hq : ej_fin0 (cV x) F (some .int) ej_fi r0) : ej_J (cV x) F i10_linkCost r0 σ 0 [(0, .ref (cw_a x 0)), (1, .int a1), (2, .int a2)] [] (m10_linkCost n a1 a2 σ) := by
  unfold m10_linkCost
  refine j_aload_n 0 rfl d10_linkCost_0 ?_
  refine j_iload_n 1 rfl d10_linkCost_1 ?_
  refine jn_callv hq (n10_needNode x n a1 σ) lv_X10_192 (cV_rc_0 x σ) ⟨Nat.le_of_ble_eq_true rfl, Nat.le_of_ble_eq_true rfl⟩ d10_linkCost_2 rfl (Nat.le_of_ble_eq_true rfl) (fun s1 => ?_)
  refine j_aload_n 0 rfl d10_linkCost_5 ?_
  refine j_iload_n 2 rfl d10_linkCost_6 ?_
  refine jn_callv hq (n10_needNode x n a2 s1) lv_X10_192 (cV_rc_0 x s1) ⟨Nat.le_of_ble_eq_true rfl, Nat.le_of_ble_eq_true rfl⟩ d10_linkCost_7 rfl (Nat.le_of_ble_eq_true rfl) (fun s2 => ?_)
  refine j_aload_n 0 rfl d10_linkCost_10 ?_
  refine j_get fl_X10_55 (cV_g_0_7 x s2) d10_linkCost_11 ?_
  refine j_iload_n 1 rfl d10_linkCost_14 ?_
  refine j_iload_n 2 rfl d10_linkCost_15 ?_
  refine j_callVi (c0_priceOfLink x n a1 a2 s2) lv_X10_208 (cV_rc_4 x s2) ⟨Nat.le_of_ble_eq_true rfl, Nat.le_of_ble_eq_true rfl⟩ d10_linkCost_16 rfl (Nat.le_of_ble_eq_true rfl) (fun r4 s3 => ?_)
  exact jn_ireturn hq d10_linkCost_19
theorem n10_linkCost (x : cw_T) (n : Nat) (a1 : Int32) (a2 : Int32) (σ : ej_S) : ∀ z, m10_linkCost n a1 a2 σ = some (.inl z) → ∀ l : Launch, ej_Con l (cV x) i10_linkCost yX10_linkCost (some .int) [.ref (cw_a x 0), .int a1, .int a2] σ (ej_fi z).1 (ej_fi z).2 := fun z h l => ej_con_of (cV_ok x) pn_X10 rfl (Nat.le_of_ble_eq_true rfl) rfl h (fun F hq => jn10_linkCost x n a1 a2 σ ⟨z, rfl, hq⟩)

set_option maxRecDepth 20000 in
set_option maxHeartbeats 2000000 in
theorem jn10_name (x : cw_T) (n : Nat) (a1 : Int32) (σ : ej_S) {F : ej_F} {r0 : (Int32 × ej_S) ⊕ (Nat × ej_S)} (hq : ej_fin0 (cV x) F (some .int) ej_fi r0) : ej_J (cV x) F i10_name r0 σ 0 [(0, .ref (cw_a x 0)), (1, .int a1)] [] (m10_name n a1 σ) := by
  unfold m10_name
  refine j_aload_n 0 rfl d10_name_0 ?_
  refine j_iload_n 1 rfl d10_name_1 ?_
  refine jn_callv hq (n10_needNode x n a1 σ) lv_X10_192 (cV_rc_0 x σ) ⟨Nat.le_of_ble_eq_true rfl, Nat.le_of_ble_eq_true rfl⟩ d10_name_2 rfl (Nat.le_of_ble_eq_true rfl) (fun s1 => ?_)
  refine j_aload_n 0 rfl d10_name_5 ?_
  refine j_get fl_X10_18 (cV_g_0_1 x s1) d10_name_6 ?_
  refine j_callVv (c7_clear x n 1 (Nat.le_of_ble_eq_true rfl) s1) lv_X10_118 (cV_rc_t x s1 1 (Nat.le_of_ble_eq_true rfl)) ⟨Nat.le_of_ble_eq_true rfl, Nat.le_of_ble_eq_true rfl⟩ d10_name_9 rfl (Nat.le_of_ble_eq_true rfl) (fun s2 => ?_)
  refine j_aload_n 0 rfl d10_name_12 ?_
  refine j_get fl_X10_18 (cV_g_0_1 x s2) d10_name_13 ?_
  refine j_aload_n 0 rfl d10_name_16 ?_
  refine j_get fl_X10_55 (cV_g_0_7 x s2) d10_name_17 ?_
  refine j_iload_n 1 rfl d10_name_20 ?_
  refine j_callVl (c0_nameOf x n a1 s2) lv_X10_195 (cV_rc_4 x s2) ⟨Nat.le_of_ble_eq_true rfl, Nat.le_of_ble_eq_true rfl⟩ d10_name_21 rfl (Nat.le_of_ble_eq_true rfl) (fun r4 s3 => ?_)
  refine j_callVv (c7_appendName x n 1 (Nat.le_of_ble_eq_true rfl) r4 s3) lv_X10_199 (cV_rc_t x s3 1 (Nat.le_of_ble_eq_true rfl)) ⟨Nat.le_of_ble_eq_true rfl, Nat.le_of_ble_eq_true rfl⟩ d10_name_24 rfl (Nat.le_of_ble_eq_true rfl) (fun s5 => ?_)
  refine j_aload_n 0 rfl d10_name_27 ?_
  refine j_get fl_X10_18 (cV_g_0_1 x s5) d10_name_28 ?_
  refine j_callVi (c7_length x n 1 (Nat.le_of_ble_eq_true rfl) s5) lv_X10_102 (cV_rc_t x s5 1 (Nat.le_of_ble_eq_true rfl)) ⟨Nat.le_of_ble_eq_true rfl, Nat.le_of_ble_eq_true rfl⟩ d10_name_31 rfl (Nat.le_of_ble_eq_true rfl) (fun r7 s6 => ?_)
  exact jn_ireturn hq d10_name_34
theorem n10_name (x : cw_T) (n : Nat) (a1 : Int32) (σ : ej_S) : ∀ z, m10_name n a1 σ = some (.inl z) → ∀ l : Launch, ej_Con l (cV x) i10_name yX10_name (some .int) [.ref (cw_a x 0), .int a1] σ (ej_fi z).1 (ej_fi z).2 := fun z h l => ej_con_of (cV_ok x) pn_X10 rfl (Nat.le_of_ble_eq_true rfl) rfl h (fun F hq => jn10_name x n a1 σ ⟨z, rfl, hq⟩)

set_option maxRecDepth 20000 in
set_option maxHeartbeats 2000000 in
theorem jn10_isPrivate (x : cw_T) (n : Nat) (a1 : Int32) (σ : ej_S) {F : ej_F} {r0 : (Int32 × ej_S) ⊕ (Nat × ej_S)} (hq : ej_fin0 (cV x) F (some .boolean) ej_fi r0) : ej_J (cV x) F i10_isPrivate r0 σ 0 [(0, .ref (cw_a x 0)), (1, .int a1)] [] (m10_isPrivate n a1 σ) := by
  unfold m10_isPrivate
  refine j_aload_n 0 rfl d10_isPrivate_0 ?_
  refine j_iload_n 1 rfl d10_isPrivate_1 ?_
  refine jn_callv hq (n10_needNode x n a1 σ) lv_X10_192 (cV_rc_0 x σ) ⟨Nat.le_of_ble_eq_true rfl, Nat.le_of_ble_eq_true rfl⟩ d10_isPrivate_2 rfl (Nat.le_of_ble_eq_true rfl) (fun s1 => ?_)
  refine j_aload_n 0 rfl d10_isPrivate_5 ?_
  refine j_get fl_X10_55 (cV_g_0_7 x s1) d10_isPrivate_6 ?_
  refine j_iload_n 1 rfl d10_isPrivate_9 ?_
  refine j_callVi (c0_isOwned x n a1 s1) lv_X10_205 (cV_rc_4 x s1) ⟨Nat.le_of_ble_eq_true rfl, Nat.le_of_ble_eq_true rfl⟩ d10_isPrivate_10 rfl (Nat.le_of_ble_eq_true rfl) (fun r3 s2 => ?_)
  exact jn_zreturn hq d10_isPrivate_13
theorem n10_isPrivate (x : cw_T) (n : Nat) (a1 : Int32) (σ : ej_S) : ∀ z, m10_isPrivate n a1 σ = some (.inl z) → ∀ l : Launch, ej_Con l (cV x) i10_isPrivate yX10_isPrivate (some .boolean) [.ref (cw_a x 0), .int a1] σ (ej_fi z).1 (ej_fi z).2 := fun z h l => ej_con_of (cV_ok x) pn_X10 rfl (Nat.le_of_ble_eq_true rfl) rfl h (fun F hq => jn10_isPrivate x n a1 σ ⟨z, rfl, hq⟩)

set_option maxRecDepth 20000 in
set_option maxHeartbeats 2000000 in
theorem jn10_memberCost (x : cw_T) (n : Nat) (a1 : Int32) (a2 : Int32) (σ : ej_S) {F : ej_F} {r0 : (Int32 × ej_S) ⊕ (Nat × ej_S)} (hq : ej_fin0 (cV x) F (some .int) ej_fi r0) : ej_J (cV x) F i10_memberCost r0 σ 0 [(0, .ref (cw_a x 0)), (1, .int a1), (2, .int a2)] [] (m10_memberCost n a1 a2 σ) := by
  unfold m10_memberCost
  refine j_aload_n 0 rfl d10_memberCost_0 ?_
  refine j_iload_n 1 rfl d10_memberCost_1 ?_
  refine jn_callv hq (n10_needNode x n a1 σ) lv_X10_192 (cV_rc_0 x σ) ⟨Nat.le_of_ble_eq_true rfl, Nat.le_of_ble_eq_true rfl⟩ d10_memberCost_2 rfl (Nat.le_of_ble_eq_true rfl) (fun s1 => ?_)
  refine j_aload_n 0 rfl d10_memberCost_5 ?_
  refine j_iload_n 2 rfl d10_memberCost_6 ?_
  refine jn_callv hq (n10_needNode x n a2 s1) lv_X10_192 (cV_rc_0 x s1) ⟨Nat.le_of_ble_eq_true rfl, Nat.le_of_ble_eq_true rfl⟩ d10_memberCost_7 rfl (Nat.le_of_ble_eq_true rfl) (fun s2 => ?_)
  refine j_aload_n 0 rfl d10_memberCost_10 ?_
  refine j_get fl_X10_55 (cV_g_0_7 x s2) d10_memberCost_11 ?_
  refine j_iload_n 1 rfl d10_memberCost_14 ?_
  refine j_iload_n 2 rfl d10_memberCost_15 ?_
  refine j_callVi (c0_priceOfMember x n a1 a2 s2) lv_X10_212 (cV_rc_4 x s2) ⟨Nat.le_of_ble_eq_true rfl, Nat.le_of_ble_eq_true rfl⟩ d10_memberCost_16 rfl (Nat.le_of_ble_eq_true rfl) (fun r4 s3 => ?_)
  exact jn_ireturn hq d10_memberCost_19
theorem n10_memberCost (x : cw_T) (n : Nat) (a1 : Int32) (a2 : Int32) (σ : ej_S) : ∀ z, m10_memberCost n a1 a2 σ = some (.inl z) → ∀ l : Launch, ej_Con l (cV x) i10_memberCost yX10_memberCost (some .int) [.ref (cw_a x 0), .int a1, .int a2] σ (ej_fi z).1 (ej_fi z).2 := fun z h l => ej_con_of (cV_ok x) pn_X10 rfl (Nat.le_of_ble_eq_true rfl) rfl h (fun F hq => jn10_memberCost x n a1 a2 σ ⟨z, rfl, hq⟩)

set_option maxRecDepth 20000 in
set_option maxHeartbeats 2000000 in
theorem jn10_costByRounds (x : cw_T) (n : Nat) (a1 : Int32) (σ : ej_S) {F : ej_F} {r0 : (Int32 × ej_S) ⊕ (Nat × ej_S)} (hq : ej_fin0 (cV x) F (some .int) ej_fi r0) : ej_J (cV x) F i10_costByRounds r0 σ 0 [(0, .ref (cw_a x 0)), (1, .int a1)] [] (m10_costByRounds n a1 σ) := by
  unfold m10_costByRounds
  refine j_aload_n 0 rfl d10_costByRounds_0 ?_
  refine j_iload_n 1 rfl d10_costByRounds_1 ?_
  refine jn_callv hq (n10_needNode x n a1 σ) lv_X10_192 (cV_rc_0 x σ) ⟨Nat.le_of_ble_eq_true rfl, Nat.le_of_ble_eq_true rfl⟩ d10_costByRounds_2 rfl (Nat.le_of_ble_eq_true rfl) (fun s1 => ?_)
  refine j_aload_n 0 rfl d10_costByRounds_5 ?_
  refine j_get fl_X10_82 (cV_g_0_10 x s1) d10_costByRounds_6 ?_
  refine j_callVv (c9_find x n s1) lv_X10_215 (cV_rc_7 x s1) ⟨Nat.le_of_ble_eq_true rfl, Nat.le_of_ble_eq_true rfl⟩ d10_costByRounds_9 rfl (Nat.le_of_ble_eq_true rfl) (fun s2 => ?_)
  refine j_aload_n 0 rfl d10_costByRounds_12 ?_
  refine j_get fl_X10_82 (cV_g_0_10 x s2) d10_costByRounds_13 ?_
  refine j_callVv (c9_findByRounds x n s2) lv_X10_223 (cV_rc_7 x s2) ⟨Nat.le_of_ble_eq_true rfl, Nat.le_of_ble_eq_true rfl⟩ d10_costByRounds_16 rfl (Nat.le_of_ble_eq_true rfl) (fun s3 => ?_)
  refine j_aload_n 0 rfl d10_costByRounds_19 ?_
  refine j_get fl_X10_82 (cV_g_0_10 x s3) d10_costByRounds_20 ?_
  refine j_iload_n 1 rfl d10_costByRounds_23 ?_
  refine j_callVi (c9_leastByRounds x n a1 s3) lv_X10_226 (cV_rc_7 x s3) ⟨Nat.le_of_ble_eq_true rfl, Nat.le_of_ble_eq_true rfl⟩ d10_costByRounds_24 rfl (Nat.le_of_ble_eq_true rfl) (fun r5 s4 => ?_)
  exact jn_ireturn hq d10_costByRounds_27
theorem n10_costByRounds (x : cw_T) (n : Nat) (a1 : Int32) (σ : ej_S) : ∀ z, m10_costByRounds n a1 σ = some (.inl z) → ∀ l : Launch, ej_Con l (cV x) i10_costByRounds yX10_costByRounds (some .int) [.ref (cw_a x 0), .int a1] σ (ej_fi z).1 (ej_fi z).2 := fun z h l => ej_con_of (cV_ok x) pn_X10 rfl (Nat.le_of_ble_eq_true rfl) rfl h (fun F hq => jn10_costByRounds x n a1 σ ⟨z, rfl, hq⟩)

set_option maxRecDepth 20000 in
set_option maxHeartbeats 2000000 in
theorem jn10_state (x : cw_T) (n : Nat) (a1 : Int32) (σ : ej_S) {F : ej_F} {r0 : (Int32 × ej_S) ⊕ (Nat × ej_S)} (hq : ej_fin0 (cV x) F (some .int) ej_fi r0) : ej_J (cV x) F i10_state r0 σ 0 [(0, .ref (cw_a x 0)), (1, .int a1)] [] (m10_state n a1 σ) := by
  unfold m10_state
  refine j_aload_n 0 rfl d10_state_0 ?_
  refine j_iload_n 1 rfl d10_state_1 ?_
  refine jn_callv hq (n10_needNode x n a1 σ) lv_X10_192 (cV_rc_0 x σ) ⟨Nat.le_of_ble_eq_true rfl, Nat.le_of_ble_eq_true rfl⟩ d10_state_2 rfl (Nat.le_of_ble_eq_true rfl) (fun s1 => ?_)
  refine j_aload_n 0 rfl d10_state_5 ?_
  refine j_get fl_X10_82 (cV_g_0_10 x s1) d10_state_6 ?_
  refine j_callVv (c9_find x n s1) lv_X10_215 (cV_rc_7 x s1) ⟨Nat.le_of_ble_eq_true rfl, Nat.le_of_ble_eq_true rfl⟩ d10_state_9 rfl (Nat.le_of_ble_eq_true rfl) (fun s2 => ?_)
  refine j_aload_n 0 rfl d10_state_12 ?_
  refine j_get fl_X10_82 (cV_g_0_10 x s2) d10_state_13 ?_
  refine j_iload_n 1 rfl d10_state_16 ?_
  refine j_callVi (c9_routeKey x n a1 s2) lv_X10_217 (cV_rc_7 x s2) ⟨Nat.le_of_ble_eq_true rfl, Nat.le_of_ble_eq_true rfl⟩ d10_state_17 rfl (Nat.le_of_ble_eq_true rfl) (fun r4 s3 => ?_)
  refine j_istore_n (i := 2) (L' := [(2, .int r4), (0, .ref (cw_a x 0)), (1, .int a1)]) d10_state_20 rfl (Nat.le_of_ble_eq_true rfl) rfl ?_
  refine j_iload_n 0 rfl d10_state_21 ?_
  refine j_iconst d10_state_22 ejc_m1 ?_
  refine j_icmp_ne d10_state_23 ?_ ?_
  · refine j_iload_n 0 rfl d10_state_30 ?_
    refine j_iconst d10_state_31 ejc_4 ?_
    refine j_irem0 (by decide) d10_state_32 ?_
    exact jn_ireturn hq d10_state_33
  · refine j_iconst d10_state_26 ejc_m1 ?_
    refine j_goto d10_state_27 ?_
    exact jn_ireturn hq d10_state_33
theorem n10_state (x : cw_T) (n : Nat) (a1 : Int32) (σ : ej_S) : ∀ z, m10_state n a1 σ = some (.inl z) → ∀ l : Launch, ej_Con l (cV x) i10_state yX10_state (some .int) [.ref (cw_a x 0), .int a1] σ (ej_fi z).1 (ej_fi z).2 := fun z h l => ej_con_of (cV_ok x) pn_X10 rfl (Nat.le_of_ble_eq_true rfl) rfl h (fun F hq => jn10_state x n a1 σ ⟨z, rfl, hq⟩)

set_option maxRecDepth 20000 in
set_option maxHeartbeats 2000000 in
theorem jn10_nodeAt (x : cw_T) (n : Nat) (a1 : Int32) (a2 : Int32) (σ : ej_S) {F : ej_F} {r0 : (Int32 × ej_S) ⊕ (Nat × ej_S)} (hq : ej_fin0 (cV x) F (some .int) ej_fi r0) : ej_J (cV x) F i10_nodeAt r0 σ 0 [(0, .ref (cw_a x 0)), (1, .int a1), (2, .int a2)] [] (m10_nodeAt n a1 a2 σ) := by
  unfold m10_nodeAt
  refine j_aload_n 0 rfl d10_nodeAt_0 ?_
  refine j_iload_n 1 rfl d10_nodeAt_1 ?_
  refine j_iload_n 2 rfl d10_nodeAt_2 ?_
  refine jn_callv hq (n10_needPlace x n a1 a2 σ) lv_X10_232 (cV_rc_0 x σ) ⟨Nat.le_of_ble_eq_true rfl, Nat.le_of_ble_eq_true rfl⟩ d10_nodeAt_3 rfl (Nat.le_of_ble_eq_true rfl) (fun s1 => ?_)
  refine j_aload_n 0 rfl d10_nodeAt_6 ?_
  refine j_get fl_X10_82 (cV_g_0_10 x s1) d10_nodeAt_7 ?_
  refine j_iload_n 2 rfl d10_nodeAt_10 ?_
  refine j_callVi (c9_keyOn x n a2 s1) lv_X10_236 (cV_rc_7 x s1) ⟨Nat.le_of_ble_eq_true rfl, Nat.le_of_ble_eq_true rfl⟩ d10_nodeAt_11 rfl (Nat.le_of_ble_eq_true rfl) (fun r3 s2 => ?_)
  refine j_iconst d10_nodeAt_14 ejc_4 ?_
  refine j_idiv0 (by decide) d10_nodeAt_15 ?_
  exact jn_ireturn hq d10_nodeAt_16
theorem n10_nodeAt (x : cw_T) (n : Nat) (a1 : Int32) (a2 : Int32) (σ : ej_S) : ∀ z, m10_nodeAt n a1 a2 σ = some (.inl z) → ∀ l : Launch, ej_Con l (cV x) i10_nodeAt yX10_nodeAt (some .int) [.ref (cw_a x 0), .int a1, .int a2] σ (ej_fi z).1 (ej_fi z).2 := fun z h l => ej_con_of (cV_ok x) pn_X10 rfl (Nat.le_of_ble_eq_true rfl) rfl h (fun F hq => jn10_nodeAt x n a1 a2 σ ⟨z, rfl, hq⟩)

set_option maxRecDepth 20000 in
set_option maxHeartbeats 2000000 in
theorem jn10_costAt (x : cw_T) (n : Nat) (a1 : Int32) (a2 : Int32) (σ : ej_S) {F : ej_F} {r0 : (Int32 × ej_S) ⊕ (Nat × ej_S)} (hq : ej_fin0 (cV x) F (some .int) ej_fi r0) : ej_J (cV x) F i10_costAt r0 σ 0 [(0, .ref (cw_a x 0)), (1, .int a1), (2, .int a2)] [] (m10_costAt n a1 a2 σ) := by
  unfold m10_costAt
  refine j_aload_n 0 rfl d10_costAt_0 ?_
  refine j_iload_n 1 rfl d10_costAt_1 ?_
  refine j_iload_n 2 rfl d10_costAt_2 ?_
  refine jn_callv hq (n10_needPlace x n a1 a2 σ) lv_X10_232 (cV_rc_0 x σ) ⟨Nat.le_of_ble_eq_true rfl, Nat.le_of_ble_eq_true rfl⟩ d10_costAt_3 rfl (Nat.le_of_ble_eq_true rfl) (fun s1 => ?_)
  refine j_aload_n 0 rfl d10_costAt_6 ?_
  refine j_get fl_X10_82 (cV_g_0_10 x s1) d10_costAt_7 ?_
  refine j_aload_n 0 rfl d10_costAt_10 ?_
  refine j_get fl_X10_82 (cV_g_0_10 x s1) d10_costAt_11 ?_
  refine j_iload_n 2 rfl d10_costAt_14 ?_
  refine j_callVi (c9_keyOn x n a2 s1) lv_X10_236 (cV_rc_7 x s1) ⟨Nat.le_of_ble_eq_true rfl, Nat.le_of_ble_eq_true rfl⟩ d10_costAt_15 rfl (Nat.le_of_ble_eq_true rfl) (fun r3 s2 => ?_)
  refine j_callVi (c9_costOfKey x n r3 s2) lv_X10_220 (cV_rc_7 x s2) ⟨Nat.le_of_ble_eq_true rfl, Nat.le_of_ble_eq_true rfl⟩ d10_costAt_18 rfl (Nat.le_of_ble_eq_true rfl) (fun r5 s4 => ?_)
  exact jn_ireturn hq d10_costAt_21
theorem n10_costAt (x : cw_T) (n : Nat) (a1 : Int32) (a2 : Int32) (σ : ej_S) : ∀ z, m10_costAt n a1 a2 σ = some (.inl z) → ∀ l : Launch, ej_Con l (cV x) i10_costAt yX10_costAt (some .int) [.ref (cw_a x 0), .int a1, .int a2] σ (ej_fi z).1 (ej_fi z).2 := fun z h l => ej_con_of (cV_ok x) pn_X10 rfl (Nat.le_of_ble_eq_true rfl) rfl h (fun F hq => jn10_costAt x n a1 a2 σ ⟨z, rfl, hq⟩)

set_option maxRecDepth 20000 in
set_option maxHeartbeats 2000000 in
theorem jn10_stepAt (x : cw_T) (n : Nat) (a1 : Int32) (a2 : Int32) (σ : ej_S) {F : ej_F} {r0 : (Int32 × ej_S) ⊕ (Nat × ej_S)} (hq : ej_fin0 (cV x) F (some .int) ej_fi r0) : ej_J (cV x) F i10_stepAt r0 σ 0 [(0, .ref (cw_a x 0)), (1, .int a1), (2, .int a2)] [] (m10_stepAt n a1 a2 σ) := by
  unfold m10_stepAt
  refine j_aload_n 0 rfl d10_stepAt_0 ?_
  refine j_iload_n 1 rfl d10_stepAt_1 ?_
  refine j_iload_n 2 rfl d10_stepAt_2 ?_
  refine jn_callv hq (n10_needPlace x n a1 a2 σ) lv_X10_232 (cV_rc_0 x σ) ⟨Nat.le_of_ble_eq_true rfl, Nat.le_of_ble_eq_true rfl⟩ d10_stepAt_3 rfl (Nat.le_of_ble_eq_true rfl) (fun s1 => ?_)
  refine j_aload_n 0 rfl d10_stepAt_6 ?_
  refine j_get fl_X10_82 (cV_g_0_10 x s1) d10_stepAt_7 ?_
  refine j_aload_n 0 rfl d10_stepAt_10 ?_
  refine j_get fl_X10_82 (cV_g_0_10 x s1) d10_stepAt_11 ?_
  refine j_iload_n 2 rfl d10_stepAt_14 ?_
  refine j_callVi (c9_keyOn x n a2 s1) lv_X10_236 (cV_rc_7 x s1) ⟨Nat.le_of_ble_eq_true rfl, Nat.le_of_ble_eq_true rfl⟩ d10_stepAt_15 rfl (Nat.le_of_ble_eq_true rfl) (fun r3 s2 => ?_)
  refine j_callVi (c9_kindOfKey x n r3 s2) lv_X10_239 (cV_rc_7 x s2) ⟨Nat.le_of_ble_eq_true rfl, Nat.le_of_ble_eq_true rfl⟩ d10_stepAt_18 rfl (Nat.le_of_ble_eq_true rfl) (fun r5 s4 => ?_)
  exact jn_ireturn hq d10_stepAt_21
theorem n10_stepAt (x : cw_T) (n : Nat) (a1 : Int32) (a2 : Int32) (σ : ej_S) : ∀ z, m10_stepAt n a1 a2 σ = some (.inl z) → ∀ l : Launch, ej_Con l (cV x) i10_stepAt yX10_stepAt (some .int) [.ref (cw_a x 0), .int a1, .int a2] σ (ej_fi z).1 (ej_fi z).2 := fun z h l => ej_con_of (cV_ok x) pn_X10 rfl (Nat.le_of_ble_eq_true rfl) rfl h (fun F hq => jn10_stepAt x n a1 a2 σ ⟨z, rfl, hq⟩)

set_option maxRecDepth 20000 in
set_option maxHeartbeats 2000000 in
theorem jn10_isBack (x : cw_T) (n : Nat) (a1 : Int32) (a2 : Int32) (σ : ej_S) {F : ej_F} {r0 : (Int32 × ej_S) ⊕ (Nat × ej_S)} (hq : ej_fin0 (cV x) F (some .boolean) ej_fi r0) : ej_J (cV x) F i10_isBack r0 σ 0 [(0, .ref (cw_a x 0)), (1, .int a1), (2, .int a2)] [] (m10_isBack n a1 a2 σ) := by
  unfold m10_isBack
  refine j_aload_n 0 rfl d10_isBack_0 ?_
  refine j_iload_n 1 rfl d10_isBack_1 ?_
  refine jn_callv hq (n10_needNode x n a1 σ) lv_X10_192 (cV_rc_0 x σ) ⟨Nat.le_of_ble_eq_true rfl, Nat.le_of_ble_eq_true rfl⟩ d10_isBack_2 rfl (Nat.le_of_ble_eq_true rfl) (fun s1 => ?_)
  refine j_aload_n 0 rfl d10_isBack_5 ?_
  refine j_iload_n 2 rfl d10_isBack_6 ?_
  refine jn_callv hq (n10_needNode x n a2 s1) lv_X10_192 (cV_rc_0 x s1) ⟨Nat.le_of_ble_eq_true rfl, Nat.le_of_ble_eq_true rfl⟩ d10_isBack_7 rfl (Nat.le_of_ble_eq_true rfl) (fun s2 => ?_)
  refine j_aload_n 0 rfl d10_isBack_10 ?_
  refine j_get fl_X10_82 (cV_g_0_10 x s2) d10_isBack_11 ?_
  refine j_callVv (c9_find x n s2) lv_X10_215 (cV_rc_7 x s2) ⟨Nat.le_of_ble_eq_true rfl, Nat.le_of_ble_eq_true rfl⟩ d10_isBack_14 rfl (Nat.le_of_ble_eq_true rfl) (fun s3 => ?_)
  refine j_aload_n 0 rfl d10_isBack_17 ?_
  refine j_get fl_X10_73 (cV_g_0_9 x s3) d10_isBack_18 ?_
  refine j_iload_n 1 rfl d10_isBack_21 ?_
  refine j_iload_n 2 rfl d10_isBack_22 ?_
  refine j_callVi (c5_hasBack x n a1 a2 s3) lv_X10_242 (cV_rc_6 x s3) ⟨Nat.le_of_ble_eq_true rfl, Nat.le_of_ble_eq_true rfl⟩ d10_isBack_23 rfl (Nat.le_of_ble_eq_true rfl) (fun r5 s4 => ?_)
  exact jn_zreturn hq d10_isBack_26
theorem n10_isBack (x : cw_T) (n : Nat) (a1 : Int32) (a2 : Int32) (σ : ej_S) : ∀ z, m10_isBack n a1 a2 σ = some (.inl z) → ∀ l : Launch, ej_Con l (cV x) i10_isBack yX10_isBack (some .boolean) [.ref (cw_a x 0), .int a1, .int a2] σ (ej_fi z).1 (ej_fi z).2 := fun z h l => ej_con_of (cV_ok x) pn_X10 rfl (Nat.le_of_ble_eq_true rfl) rfl h (fun F hq => jn10_isBack x n a1 a2 σ ⟨z, rfl, hq⟩)

set_option maxRecDepth 20000 in
set_option maxHeartbeats 2000000 in
theorem jn10_print (x : cw_T) (n : Nat) (a1 : Int32) (σ : ej_S) {F : ej_F} {r0 : (Int32 × ej_S) ⊕ (Nat × ej_S)} (hq : ej_fin0 (cV x) F (some .int) ej_fi r0) : ej_J (cV x) F i10_print r0 σ 0 [(0, .ref (cw_a x 0)), (1, .int a1)] [] (m10_print n a1 σ) := by
  unfold m10_print
  refine j_aload_n 0 rfl d10_print_0 ?_
  refine j_iload_n 1 rfl d10_print_1 ?_
  refine jn_callv hq (n10_needNode x n a1 σ) lv_X10_192 (cV_rc_0 x σ) ⟨Nat.le_of_ble_eq_true rfl, Nat.le_of_ble_eq_true rfl⟩ d10_print_2 rfl (Nat.le_of_ble_eq_true rfl) (fun s1 => ?_)
  refine j_aload_n 0 rfl d10_print_5 ?_
  refine j_get fl_X10_82 (cV_g_0_10 x s1) d10_print_6 ?_
  refine j_callVv (c9_find x n s1) lv_X10_215 (cV_rc_7 x s1) ⟨Nat.le_of_ble_eq_true rfl, Nat.le_of_ble_eq_true rfl⟩ d10_print_9 rfl (Nat.le_of_ble_eq_true rfl) (fun s2 => ?_)
  refine j_aload_n 0 rfl d10_print_12 ?_
  refine j_get fl_X10_91 (cV_g_0_11 x s2) d10_print_13 ?_
  refine j_iload_n 1 rfl d10_print_16 ?_
  refine j_callVv (c2_writeRouteOf x n a1 s2) lv_X10_245 (cV_rc_8 x s2) ⟨Nat.le_of_ble_eq_true rfl, Nat.le_of_ble_eq_true rfl⟩ d10_print_17 rfl (Nat.le_of_ble_eq_true rfl) (fun s3 => ?_)
  refine j_aload_n 0 rfl d10_print_20 ?_
  refine j_get fl_X10_18 (cV_g_0_1 x s3) d10_print_21 ?_
  refine j_callVi (c7_length x n 1 (Nat.le_of_ble_eq_true rfl) s3) lv_X10_102 (cV_rc_t x s3 1 (Nat.le_of_ble_eq_true rfl)) ⟨Nat.le_of_ble_eq_true rfl, Nat.le_of_ble_eq_true rfl⟩ d10_print_24 rfl (Nat.le_of_ble_eq_true rfl) (fun r5 s4 => ?_)
  exact jn_ireturn hq d10_print_27
theorem n10_print (x : cw_T) (n : Nat) (a1 : Int32) (σ : ej_S) : ∀ z, m10_print n a1 σ = some (.inl z) → ∀ l : Launch, ej_Con l (cV x) i10_print yX10_print (some .int) [.ref (cw_a x 0), .int a1] σ (ej_fi z).1 (ej_fi z).2 := fun z h l => ej_con_of (cV_ok x) pn_X10 rfl (Nat.le_of_ble_eq_true rfl) rfl h (fun F hq => jn10_print x n a1 σ ⟨z, rfl, hq⟩)

