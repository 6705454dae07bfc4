/-! NODES AND PLACES THAT THERE ARE NOT -/
def badN (σ : ej_S) (x : Int32) : Prop := x < nI 0 ∨ ∃ k, x = nI k ∧ NN σ ≤ k ∧ k < 2 ^ 31
section P97xc
variable {n a k : Nat} {x y : Int32} {σ0 σr c τ : ej_S} {fs : Nat → List Nat} {tp ot : List Nat} {D : Nat → Nat}
theorem badN_f (hw : wfR σr) (q : QMP σ0 σr) (h : badN σ0 x) : m11_isNode n x σr = some (nI 0, σr) := isN_f hw (by
  unfold badN at h
  rw [QMP_NN q]
  exact h)
theorem askx_f1 (e : m11_isNode n x σr = some (nI 0, σr)) : m11_ask n x y σr = some (nI 0, uI σr 19 (nI 1)) := by
  unfold m11_ask
  rw [e, ej_bi_s, L_0, if_pos rfl, L_1, goes_1, ej_bi_s, bz_n0]
theorem isN_01 (hw : wfR σr) : m11_isNode n (nI 0) σr = some (nI 0, σr) ∨ m11_isNode n (nI 0) σr = some (nI 1, σr) := by
  rcases Nat.eq_zero_or_pos (NN σr) with z | z
  · exact .inl (isN_f hw (.inr ⟨0, rfl, by omega, by omega⟩))
  · exact .inr (isN_t hw z)
theorem askx_f2 (hw : wfR σr) (e : m11_isNode n y σr = some (nI 0, σr)) : m11_ask n (nI 0) y σr = some (nI 0, uI σr 19 (nI 1)) := by
  rcases isN_01 (n := n) hw with z | z
  · exact askx_f1 z
  · unfold m11_ask
    rw [z, ej_bi_s, L_0, if_neg n10, e, ej_bi_s, if_pos rfl, L_1, goes_1, ej_bi_s, bz_n0]
theorem wayAt_f (e : m11_isNode n x σr = some (nI 0, σr)) : m11_wayAt n x y σr = some (zm, uI σr 19 (nI 1)) := by
  unfold m11_wayAt m11_wayAt_17 m11_wayAt_43
  rw [e, ej_bi_s, L_0, if_pos rfl, if_pos rfl, L_1, goes_1, ej_bi_s, if_pos rfl]; rfl
/-- an answer that is thrown -/
def AX (n : Nat) (fs : Nat → List Nat) (σ0 : ej_S) (tp ot : List Nat) (X : ej_S → Option ((Int32 × ej_S) ⊕ (Nat × ej_S))) : Prop := ∀ c, IQ n fs σ0 tp ot c → ∃ c', IQ n fs σ0 tp ot c' ∧ X c = some (.inr (3, c'))
theorem AX_i {X : ej_S → Option ((Int32 × ej_S) ⊕ (Nat × ej_S))} (h : ∀ c σr, INV n c σr → QMP σ0 σr → ∃ c', X c = some (.inr (3, c')) ∧ INV n c' (uI σr 19 (nI 1))) : AX n fs σ0 tp ot X := by
  intro c ⟨σr, hI, q, hf, ht, hx⟩
  obtain ⟨c', h1, h2⟩ := h c σr hI q
  exact ⟨c', IQ_mk h2 q f19 (by decide) hf ht hx, h1⟩
theorem OFx {X : Option ((Int32 × ej_S) ⊕ (Nat × ej_S))} {K : Int32 → lw_S → Option (Int32 × lw_S)} {c' : ej_S} (h : X = some (.inr (3, c'))) : ej_bw (ej_lcx X (c, τ)) K (fun k sk => if k = 3 then (fun s56 => (some ((-1181), s56))) sk else none) = some (-1181, (c', τ)) := by rw [h]; rfl
/-- a node that there is not -/
theorem of_node (hn : 2000 < n) (hb : badN σ0 x) {what : Nat} (hw : what < 14) (y : Int32) (hc : IQ n fs σ0 tp ot c) : ∃ c', IQ n fs σ0 tp ot c' ∧ ∀ τ : ej_S, mL_of n (nI what) x y ((c, τ) : lw_S) = some (-1181, ((c', τ) : lw_S)) := by
  have isn : ∀ c σr, INV n c σr → QMP σ0 σr → m11_isNode n x σr = some (nI 0, σr) := fun c σr hI q => badN_f (INV_wf hI).1 q hb
  have h19 : ∀ σr : ej_S, gI (uI σr 19 (nI 1)) 19 = nI 1 := fun σr => s_II_s
  have z : what = 0 ∨ what = 1 ∨ what = 2 ∨ what = 3 ∨ what = 4 ∨ what = 5 ∨ what = 6 ∨ what = 7 ∨ what = 8 ∨ what = 9 ∨ what = 10 ∨ what = 11 ∨ what = 12 ∨ what = 13 := by omega
  have ct : ∀ σr, m11_isNode n x σr = some (nI 0, σr) → m11_costTo n x σr = some (nI 0, uI σr 19 (nI 1)) := fun σr e => by
    unfold m11_costTo m11_costTo_17
    rw [asks_f e, ej_bi_s, L_0, if_pos rfl, if_pos rfl, s_II_s, if_neg n10]
  have fin : ∀ (X : ej_S → Option ((Int32 × ej_S) ⊕ (Nat × ej_S))), AX n fs σ0 tp ot X → (∀ c' τ, X c = some (.inr (3, c')) → mL_of n (nI what) x y ((c, τ) : lw_S) = some (-1181, ((c', τ) : lw_S))) → ∃ c', IQ n fs σ0 tp ot c' ∧ ∀ τ : ej_S, mL_of n (nI what) x y ((c, τ) : lw_S) = some (-1181, ((c', τ) : lw_S)) := by
    intro X hX h
    obtain ⟨c', i, e⟩ := hX c hc
    exact ⟨c', i, fun τ => h c' τ e⟩
  rcases z with rfl | rfl | rfl | rfl | rfl | rfl | rfl | rfl | rfl | rfl | rfl | rfl | rfl | rfl
  · refine fin (fun c => m10_name n x c) (AX_i fun c σr hI q => ST_e3 (k_name hn hI x) (v := nI 0) (by
      unfold m11_name; rw [asks_f (isn c σr hI q), ej_bi_s, L_0, if_pos rfl]) (h19 _)) (fun c' τ e => ?_)
    unfold mL_of
    simp (disch := omega) only [↓L_m1, L_0, L_1, L_2, L_3, L_4, L_5, L_6, L_7, L_8, L_9, L_10, L_11, L_12, L_13, L_14, L_15, L_16, L_17, L_18, L_19, L_20, L_21, L_22, L_23, L_24, L_31, L_32, L_33, L_35, L_37, L_40, L_41, L_42, L_43, L_44, L_45, L_46, L_47, L_48, L_57, L_58, L_59, L_61, L_63, L_64, L_65, L_90, L_95, L_96, L_97, L_122, L_123, L_125, L_200, L_255, L_300, L_500, L_576, L_600, L_601, L_602, L_1200, L_1800, L_2400, L_3000, L_4000, L_4096, L_5000, L_30000, L_50000, L_60000, L_70000, L_100000, L_200000, L_1000000, L_1000001, ieq_f, if_true]
    exact OFx e
  · refine fin (fun c => m10_kind n x c) (AX_i fun c σr hI q => ST_e3 (k_kind hI x) (v := nI 0) (by
      unfold m11_kind; rw [asks_f (isn c σr hI q), ej_bi_s, L_0, if_pos rfl]) (h19 _)) (fun c' τ e => ?_)
    unfold mL_of
    simp (disch := omega) only [↓L_m1, L_0, L_1, L_2, L_3, L_4, L_5, L_6, L_7, L_8, L_9, L_10, L_11, L_12, L_13, L_14, L_15, L_16, L_17, L_18, L_19, L_20, L_21, L_22, L_23, L_24, L_31, L_32, L_33, L_35, L_37, L_40, L_41, L_42, L_43, L_44, L_45, L_46, L_47, L_48, L_57, L_58, L_59, L_61, L_63, L_64, L_65, L_90, L_95, L_96, L_97, L_122, L_123, L_125, L_200, L_255, L_300, L_500, L_576, L_600, L_601, L_602, L_1200, L_1800, L_2400, L_3000, L_4000, L_4096, L_5000, L_30000, L_50000, L_60000, L_70000, L_100000, L_200000, L_1000000, L_1000001, ieq_f, if_true]
    exact OFx e
  · refine fin (fun c => m10_isPrivate n x c) (AX_i fun c σr hI q => STB_e3 (k_isPrivate hI x) (v := nI 0) (by
      unfold m11_isPrivate; rw [asks_f (isn c σr hI q), ej_bi_s, L_0, if_pos rfl]) (h19 _)) (fun c' τ e => ?_)
    unfold mL_of
    simp (disch := omega) only [↓L_m1, L_0, L_1, L_2, L_3, L_4, L_5, L_6, L_7, L_8, L_9, L_10, L_11, L_12, L_13, L_14, L_15, L_16, L_17, L_18, L_19, L_20, L_21, L_22, L_23, L_24, L_31, L_32, L_33, L_35, L_37, L_40, L_41, L_42, L_43, L_44, L_45, L_46, L_47, L_48, L_57, L_58, L_59, L_61, L_63, L_64, L_65, L_90, L_95, L_96, L_97, L_122, L_123, L_125, L_200, L_255, L_300, L_500, L_576, L_600, L_601, L_602, L_1200, L_1800, L_2400, L_3000, L_4000, L_4096, L_5000, L_30000, L_50000, L_60000, L_70000, L_100000, L_200000, L_1000000, L_1000001, ieq_f, if_true]
    exact OFx e
  · refine fin (fun c => m10_linkCost n x y c) (AX_i fun c σr hI q => ST_e3 (k_linkCost hI x y) (v := nI 0) (by
      unfold m11_linkCost; rw [askx_f1 (isn c σr hI q), ej_bi_s, L_0, if_pos rfl]) (h19 _)) (fun c' τ e => ?_)
    unfold mL_of
    simp (disch := omega) only [↓L_m1, L_0, L_1, L_2, L_3, L_4, L_5, L_6, L_7, L_8, L_9, L_10, L_11, L_12, L_13, L_14, L_15, L_16, L_17, L_18, L_19, L_20, L_21, L_22, L_23, L_24, L_31, L_32, L_33, L_35, L_37, L_40, L_41, L_42, L_43, L_44, L_45, L_46, L_47, L_48, L_57, L_58, L_59, L_61, L_63, L_64, L_65, L_90, L_95, L_96, L_97, L_122, L_123, L_125, L_200, L_255, L_300, L_500, L_576, L_600, L_601, L_602, L_1200, L_1800, L_2400, L_3000, L_4000, L_4096, L_5000, L_30000, L_50000, L_60000, L_70000, L_100000, L_200000, L_1000000, L_1000001, ieq_f, if_true]
    exact OFx e
  · refine fin (fun c => m10_memberCost n x y c) (AX_i fun c σr hI q => ST_e3 (k_memberCost hI x y) (v := nI 0) (by
      unfold m11_memberCost; rw [askx_f1 (isn c σr hI q), ej_bi_s, L_0, if_pos rfl]) (h19 _)) (fun c' τ e => ?_)
    unfold mL_of
    simp (disch := omega) only [↓L_m1, L_0, L_1, L_2, L_3, L_4, L_5, L_6, L_7, L_8, L_9, L_10, L_11, L_12, L_13, L_14, L_15, L_16, L_17, L_18, L_19, L_20, L_21, L_22, L_23, L_24, L_31, L_32, L_33, L_35, L_37, L_40, L_41, L_42, L_43, L_44, L_45, L_46, L_47, L_48, L_57, L_58, L_59, L_61, L_63, L_64, L_65, L_90, L_95, L_96, L_97, L_122, L_123, L_125, L_200, L_255, L_300, L_500, L_576, L_600, L_601, L_602, L_1200, L_1800, L_2400, L_3000, L_4000, L_4096, L_5000, L_30000, L_50000, L_60000, L_70000, L_100000, L_200000, L_1000000, L_1000001, ieq_f, if_true]
    exact OFx e
  · refine fin (fun c => m10_cost n x c) (AX_i fun c σr hI q => ST_e3 (k_cost hn hI x) (v := nI 0) (by
      unfold m11_cost; rw [ct _ (isn c σr hI q), ej_bi_s]) (h19 _)) (fun c' τ e => ?_)
    unfold mL_of
    simp (disch := omega) only [↓L_m1, L_0, L_1, L_2, L_3, L_4, L_5, L_6, L_7, L_8, L_9, L_10, L_11, L_12, L_13, L_14, L_15, L_16, L_17, L_18, L_19, L_20, L_21, L_22, L_23, L_24, L_31, L_32, L_33, L_35, L_37, L_40, L_41, L_42, L_43, L_44, L_45, L_46, L_47, L_48, L_57, L_58, L_59, L_61, L_63, L_64, L_65, L_90, L_95, L_96, L_97, L_122, L_123, L_125, L_200, L_255, L_300, L_500, L_576, L_600, L_601, L_602, L_1200, L_1800, L_2400, L_3000, L_4000, L_4096, L_5000, L_30000, L_50000, L_60000, L_70000, L_100000, L_200000, L_1000000, L_1000001, ieq_f, if_true]
    exact OFx e
  · refine fin (fun c => m10_costByRounds n x c) (AX_i fun c σr hI q => ST_e3 (k_costByRounds hn hI x) (v := nI 0) (by
      unfold m11_costByRounds; rw [ct _ (isn c σr hI q), ej_bi_s]) (h19 _)) (fun c' τ e => ?_)
    unfold mL_of
    simp (disch := omega) only [↓L_m1, L_0, L_1, L_2, L_3, L_4, L_5, L_6, L_7, L_8, L_9, L_10, L_11, L_12, L_13, L_14, L_15, L_16, L_17, L_18, L_19, L_20, L_21, L_22, L_23, L_24, L_31, L_32, L_33, L_35, L_37, L_40, L_41, L_42, L_43, L_44, L_45, L_46, L_47, L_48, L_57, L_58, L_59, L_61, L_63, L_64, L_65, L_90, L_95, L_96, L_97, L_122, L_123, L_125, L_200, L_255, L_300, L_500, L_576, L_600, L_601, L_602, L_1200, L_1800, L_2400, L_3000, L_4000, L_4096, L_5000, L_30000, L_50000, L_60000, L_70000, L_100000, L_200000, L_1000000, L_1000001, ieq_f, if_true]
    exact OFx e
  · refine fin (fun c => m10_steps n x c) (AX_i fun c σr hI q => ST_e3 (k_steps hn hI x) (v := nI 0) (by
      unfold m11_steps m11_steps_17; rw [asks_f (isn c σr hI q), ej_bi_s, L_0, if_pos rfl, if_pos rfl, s_II_s, if_neg n10]) (h19 _)) (fun c' τ e => ?_)
    unfold mL_of
    simp (disch := omega) only [↓L_m1, L_0, L_1, L_2, L_3, L_4, L_5, L_6, L_7, L_8, L_9, L_10, L_11, L_12, L_13, L_14, L_15, L_16, L_17, L_18, L_19, L_20, L_21, L_22, L_23, L_24, L_31, L_32, L_33, L_35, L_37, L_40, L_41, L_42, L_43, L_44, L_45, L_46, L_47, L_48, L_57, L_58, L_59, L_61, L_63, L_64, L_65, L_90, L_95, L_96, L_97, L_122, L_123, L_125, L_200, L_255, L_300, L_500, L_576, L_600, L_601, L_602, L_1200, L_1800, L_2400, L_3000, L_4000, L_4096, L_5000, L_30000, L_50000, L_60000, L_70000, L_100000, L_200000, L_1000000, L_1000001, ieq_f, if_true]
    exact OFx e
  · refine fin (fun c => m10_state n x c) (AX_i fun c σr hI q => ST_e3 (k_state hn hI x) (v := nI 0) (by
      unfold m11_state m11_state_17; rw [asks_f (isn c σr hI q), ej_bi_s, L_0, if_pos rfl, if_pos rfl, s_II_s, if_neg n10]) (h19 _)) (fun c' τ e => ?_)
    unfold mL_of
    simp (disch := omega) only [↓L_m1, L_0, L_1, L_2, L_3, L_4, L_5, L_6, L_7, L_8, L_9, L_10, L_11, L_12, L_13, L_14, L_15, L_16, L_17, L_18, L_19, L_20, L_21, L_22, L_23, L_24, L_31, L_32, L_33, L_35, L_37, L_40, L_41, L_42, L_43, L_44, L_45, L_46, L_47, L_48, L_57, L_58, L_59, L_61, L_63, L_64, L_65, L_90, L_95, L_96, L_97, L_122, L_123, L_125, L_200, L_255, L_300, L_500, L_576, L_600, L_601, L_602, L_1200, L_1800, L_2400, L_3000, L_4000, L_4096, L_5000, L_30000, L_50000, L_60000, L_70000, L_100000, L_200000, L_1000000, L_1000001, ieq_f, if_true]
    exact OFx e
  · refine fin (fun c => m10_nodeAt n x y c) (AX_i fun c σr hI q => ST_e3 (k_nodeAt hn hI x y) (v := nI 0) (by
      unfold m11_nodeAt; rw [wayAt_f (isn c σr hI q), ej_bi_s, L_m1, if_pos rfl, L_0]) (h19 _)) (fun c' τ e => ?_)
    unfold mL_of
    simp (disch := omega) only [↓L_m1, L_0, L_1, L_2, L_3, L_4, L_5, L_6, L_7, L_8, L_9, L_10, L_11, L_12, L_13, L_14, L_15, L_16, L_17, L_18, L_19, L_20, L_21, L_22, L_23, L_24, L_31, L_32, L_33, L_35, L_37, L_40, L_41, L_42, L_43, L_44, L_45, L_46, L_47, L_48, L_57, L_58, L_59, L_61, L_63, L_64, L_65, L_90, L_95, L_96, L_97, L_122, L_123, L_125, L_200, L_255, L_300, L_500, L_576, L_600, L_601, L_602, L_1200, L_1800, L_2400, L_3000, L_4000, L_4096, L_5000, L_30000, L_50000, L_60000, L_70000, L_100000, L_200000, L_1000000, L_1000001, ieq_f, if_true]
    exact OFx e
  · refine fin (fun c => m10_costAt n x y c) (AX_i fun c σr hI q => ST_e3 (k_costAt hn hI x y) (v := nI 0) (by
      unfold m11_costAt; rw [wayAt_f (isn c σr hI q), ej_bi_s, L_m1, if_pos rfl, L_0]) (h19 _)) (fun c' τ e => ?_)
    unfold mL_of
    simp (disch := omega) only [↓L_m1, L_0, L_1, L_2, L_3, L_4, L_5, L_6, L_7, L_8, L_9, L_10, L_11, L_12, L_13, L_14, L_15, L_16, L_17, L_18, L_19, L_20, L_21, L_22, L_23, L_24, L_31, L_32, L_33, L_35, L_37, L_40, L_41, L_42, L_43, L_44, L_45, L_46, L_47, L_48, L_57, L_58, L_59, L_61, L_63, L_64, L_65, L_90, L_95, L_96, L_97, L_122, L_123, L_125, L_200, L_255, L_300, L_500, L_576, L_600, L_601, L_602, L_1200, L_1800, L_2400, L_3000, L_4000, L_4096, L_5000, L_30000, L_50000, L_60000, L_70000, L_100000, L_200000, L_1000000, L_1000001, ieq_f, if_true]
    exact OFx e
  · refine fin (fun c => m10_stepAt n x y c) (AX_i fun c σr hI q => ST_e3 (k_stepAt hn hI x y) (v := nI 0) (by
      unfold m11_stepAt; rw [wayAt_f (isn c σr hI q), ej_bi_s, L_m1, if_pos rfl, L_0]) (h19 _)) (fun c' τ e => ?_)
    unfold mL_of
    simp (disch := omega) only [↓L_m1, L_0, L_1, L_2, L_3, L_4, L_5, L_6, L_7, L_8, L_9, L_10, L_11, L_12, L_13, L_14, L_15, L_16, L_17, L_18, L_19, L_20, L_21, L_22, L_23, L_24, L_31, L_32, L_33, L_35, L_37, L_40, L_41, L_42, L_43, L_44, L_45, L_46, L_47, L_48, L_57, L_58, L_59, L_61, L_63, L_64, L_65, L_90, L_95, L_96, L_97, L_122, L_123, L_125, L_200, L_255, L_300, L_500, L_576, L_600, L_601, L_602, L_1200, L_1800, L_2400, L_3000, L_4000, L_4096, L_5000, L_30000, L_50000, L_60000, L_70000, L_100000, L_200000, L_1000000, L_1000001, ieq_f, if_true]
    exact OFx e
  · refine fin (fun c => m10_isBack n x y c) (AX_i fun c σr hI q => STB_e3 (k_isBack hn hI x y) (v := nI 0) (by
      unfold m11_isBack; rw [askx_f1 (isn c σr hI q), ej_bi_s, L_0, if_pos rfl]) (h19 _)) (fun c' τ e => ?_)
    unfold mL_of
    simp (disch := omega) only [↓L_m1, L_0, L_1, L_2, L_3, L_4, L_5, L_6, L_7, L_8, L_9, L_10, L_11, L_12, L_13, L_14, L_15, L_16, L_17, L_18, L_19, L_20, L_21, L_22, L_23, L_24, L_31, L_32, L_33, L_35, L_37, L_40, L_41, L_42, L_43, L_44, L_45, L_46, L_47, L_48, L_57, L_58, L_59, L_61, L_63, L_64, L_65, L_90, L_95, L_96, L_97, L_122, L_123, L_125, L_200, L_255, L_300, L_500, L_576, L_600, L_601, L_602, L_1200, L_1800, L_2400, L_3000, L_4000, L_4096, L_5000, L_30000, L_50000, L_60000, L_70000, L_100000, L_200000, L_1000000, L_1000001, ieq_f, if_true]
    exact OFx e
  · refine fin (fun c => m10_print n x c) (AX_i fun c σr hI q => ST_e3 (k_print hn hI x) (v := nI 0) (by
      unfold m11_print; rw [asks_f (isn c σr hI q), ej_bi_s, L_0, if_pos rfl]) (h19 _)) (fun c' τ e => ?_)
    unfold mL_of
    simp (disch := omega) only [↓L_m1, L_0, L_1, L_2, L_3, L_4, L_5, L_6, L_7, L_8, L_9, L_10, L_11, L_12, L_13, L_14, L_15, L_16, L_17, L_18, L_19, L_20, L_21, L_22, L_23, L_24, L_31, L_32, L_33, L_35, L_37, L_40, L_41, L_42, L_43, L_44, L_45, L_46, L_47, L_48, L_57, L_58, L_59, L_61, L_63, L_64, L_65, L_90, L_95, L_96, L_97, L_122, L_123, L_125, L_200, L_255, L_300, L_500, L_576, L_600, L_601, L_602, L_1200, L_1800, L_2400, L_3000, L_4000, L_4096, L_5000, L_30000, L_50000, L_60000, L_70000, L_100000, L_200000, L_1000000, L_1000001, ieq_f, if_true]
    exact OFx e
/-- another node that there is not -/
theorem of_other (hn : 2000 < n) (hb : badN σ0 y) {what : Nat} (hw : what = 3 ∨ what = 4 ∨ what = 12) (hc : IQ n fs σ0 tp ot c) : ∃ c', IQ n fs σ0 tp ot c' ∧ ∀ τ : ej_S, mL_of n (nI what) 0 y ((c, τ) : lw_S) = some (-1181, ((c', τ) : lw_S)) := by
  have isn : ∀ c σr, INV n c σr → QMP σ0 σr → m11_ask n (nI 0) y σr = some (nI 0, uI σr 19 (nI 1)) := fun c σr hI q => askx_f2 (INV_wf hI).1 (badN_f (INV_wf hI).1 q hb)
  have h19 : ∀ σr : ej_S, gI (uI σr 19 (nI 1)) 19 = nI 1 := fun σr => s_II_s
  have fin : ∀ (X : ej_S → Option ((Int32 × ej_S) ⊕ (Nat × ej_S))), AX n fs σ0 tp ot X → (∀ c' τ, X c = some (.inr (3, c')) → mL_of n (nI what) 0 y ((c, τ) : lw_S) = some (-1181, ((c', τ) : lw_S))) → ∃ c', IQ n fs σ0 tp ot c' ∧ ∀ τ : ej_S, mL_of n (nI what) 0 y ((c, τ) : lw_S) = some (-1181, ((c', τ) : lw_S)) := by
    intro X hX h
    obtain ⟨c', i, e⟩ := hX c hc
    exact ⟨c', i, fun τ => h c' τ e⟩
  rcases hw with rfl | rfl | rfl
  · refine fin (fun c => m10_linkCost n (nI 0) y c) (AX_i fun c σr hI q => ST_e3 (k_linkCost hI (nI 0) y) (v := nI 0) (by
      unfold m11_linkCost; rw [isn c σr hI q, ej_bi_s, L_0, if_pos rfl]) (h19 _)) (fun c' τ e => ?_)
    unfold mL_of
    simp (disch := omega) only [↓L_m1, L_0, L_1, L_2, L_3, L_4, L_5, L_6, L_7, L_8, L_9, L_10, L_11, L_12, L_13, L_14, L_15, L_16, L_17, L_18, L_19, L_20, L_21, L_22, L_23, L_24, L_31, L_32, L_33, L_35, L_37, L_40, L_41, L_42, L_43, L_44, L_45, L_46, L_47, L_48, L_57, L_58, L_59, L_61, L_63, L_64, L_65, L_90, L_95, L_96, L_97, L_122, L_123, L_125, L_200, L_255, L_300, L_500, L_576, L_600, L_601, L_602, L_1200, L_1800, L_2400, L_3000, L_4000, L_4096, L_5000, L_30000, L_50000, L_60000, L_70000, L_100000, L_200000, L_1000000, L_1000001, ieq_f, if_true]
    exact OFx e
  · refine fin (fun c => m10_memberCost n (nI 0) y c) (AX_i fun c σr hI q => ST_e3 (k_memberCost hI (nI 0) y) (v := nI 0) (by
      unfold m11_memberCost; rw [isn c σr hI q, ej_bi_s, L_0, if_pos rfl]) (h19 _)) (fun c' τ e => ?_)
    unfold mL_of
    simp (disch := omega) only [↓L_m1, L_0, L_1, L_2, L_3, L_4, L_5, L_6, L_7, L_8, L_9, L_10, L_11, L_12, L_13, L_14, L_15, L_16, L_17, L_18, L_19, L_20, L_21, L_22, L_23, L_24, L_31, L_32, L_33, L_35, L_37, L_40, L_41, L_42, L_43, L_44, L_45, L_46, L_47, L_48, L_57, L_58, L_59, L_61, L_63, L_64, L_65, L_90, L_95, L_96, L_97, L_122, L_123, L_125, L_200, L_255, L_300, L_500, L_576, L_600, L_601, L_602, L_1200, L_1800, L_2400, L_3000, L_4000, L_4096, L_5000, L_30000, L_50000, L_60000, L_70000, L_100000, L_200000, L_1000000, L_1000001, ieq_f, if_true]
    exact OFx e
  · refine fin (fun c => m10_isBack n (nI 0) y c) (AX_i fun c σr hI q => STB_e3 (k_isBack hn hI (nI 0) y) (v := nI 0) (by
      unfold m11_isBack; rw [isn c σr hI q, ej_bi_s, L_0, if_pos rfl]) (h19 _)) (fun c' τ e => ?_)
    unfold mL_of
    simp (disch := omega) only [↓L_m1, L_0, L_1, L_2, L_3, L_4, L_5, L_6, L_7, L_8, L_9, L_10, L_11, L_12, L_13, L_14, L_15, L_16, L_17, L_18, L_19, L_20, L_21, L_22, L_23, L_24, L_31, L_32, L_33, L_35, L_37, L_40, L_41, L_42, L_43, L_44, L_45, L_46, L_47, L_48, L_57, L_58, L_59, L_61, L_63, L_64, L_65, L_90, L_95, L_96, L_97, L_122, L_123, L_125, L_200, L_255, L_300, L_500, L_576, L_600, L_601, L_602, L_1200, L_1800, L_2400, L_3000, L_4000, L_4096, L_5000, L_30000, L_50000, L_60000, L_70000, L_100000, L_200000, L_1000000, L_1000001, ieq_f, if_true]
    exact OFx e
/-- a place that there is not -/
def badP (D : Nat → Nat) (a : Nat) (y : Int32) : Prop := y < nI 0 ∨ ∃ k, y = nI k ∧ (D (4 * a) < iF → D (4 * a) % 1024 < k) ∧ k < 2 ^ 31
theorem wayAt_p (hn : 2000 < n) (hw : wfR σr) (hS : SD σr D) (hz : Z0 D) (ha : a < NN σr) (hb : badP D a y) : m11_wayAt n (nI a) y σr = some (zm, uI σr 19 (nI 1)) := by
  have h24 := NN_le hw
  unfold m11_wayAt
  rw [isN_t hw ha, ej_bi_s, L_0, if_neg n10]
  have e43 : m11_wayAt_43 n (nI a) y 1 σr = some (zm, uI σr 19 (nI 1)) := by
    unfold m11_wayAt_43
    rw [L_1, goes_1, ej_bi_s, if_pos L_0.symm]; rfl
  rcases r_key (n := n) hn hS hz (show a < 24 by omega) with ⟨z, e⟩ | ⟨z, b1, b2, y1, y2, e⟩
  · rw [e, ej_bi_s]
    unfold m11_wayAt_17
    rw [L_m1, if_pos rfl, e43]
  · rw [e, ej_bi_s]
    unfold m11_wayAt_17
    rw [L_m1, ieq_m (by omega), ck_t (by omega) (by omega), nI_clamp (by omega), y2, v_isIn, ej_bi_s, L_0]
    have eb : (if y < nI 0 then nI 0 else if nI (D (4 * a) % 1024) < y then nI 0 else (1 : Int32)) = nI 0 := by
      rcases hb with w | ⟨k, rfl, k1, k2⟩
      · rw [if_pos w]
      · rw [ilt_f (Nat.zero_le _) k2, ilt_t (k1 z) k2]
    rw [eb, if_pos rfl, e43]
theorem of_place (hn : 2000 < n) (hS : SD σ0 D) (hz : Z0 D) (ha : a < NN σ0) (hb : badP D a y) {what : Nat} (hw : what = 9 ∨ what = 10 ∨ what = 11) (hc : IQ n fs σ0 tp ot c) : ∃ c', IQ n fs σ0 tp ot c' ∧ ∀ τ : ej_S, mL_of n (nI what) (nI a) y ((c, τ) : lw_S) = some (-1181, ((c', τ) : lw_S)) := by
  have isn : ∀ c σr, INV n c σr → QMP σ0 σr → m11_wayAt n (nI a) y σr = some (zm, uI σr 19 (nI 1)) := fun c σr hI q => wayAt_p hn (INV_wf hI).1 (SD_QMP hS q) hz (by rw [QMP_NN q]; exact ha) hb
  have h19 : ∀ σr : ej_S, gI (uI σr 19 (nI 1)) 19 = nI 1 := fun σr => s_II_s
  have fin : ∀ (X : ej_S → Option ((Int32 × ej_S) ⊕ (Nat × ej_S))), AX n fs σ0 tp ot X → (∀ c' τ, X c = some (.inr (3, c')) → mL_of n (nI what) (nI a) y ((c, τ) : lw_S) = some (-1181, ((c', τ) : lw_S))) → ∃ c', IQ n fs σ0 tp ot c' ∧ ∀ τ : ej_S, mL_of n (nI what) (nI a) y ((c, τ) : lw_S) = some (-1181, ((c', τ) : lw_S)) := by
    intro X hX h
    obtain ⟨c', i, e⟩ := hX c hc
    exact ⟨c', i, fun τ => h c' τ e⟩
  rcases hw with rfl | rfl | rfl
  · refine fin (fun c => m10_nodeAt n (nI a) y c) (AX_i fun c σr hI q => ST_e3 (k_nodeAt hn hI (nI a) y) (v := nI 0) (by
      unfold m11_nodeAt; rw [isn c σr hI q, ej_bi_s, L_m1, if_pos rfl, L_0]) (h19 _)) (fun c' τ e => ?_)
    unfold mL_of
    simp (disch := omega) only [↓L_m1, L_0, L_1, L_2, L_3, L_4, L_5, L_6, L_7, L_8, L_9, L_10, L_11, L_12, L_13, L_14, L_15, L_16, L_17, L_18, L_19, L_20, L_21, L_22, L_23, L_24, L_31, L_32, L_33, L_35, L_37, L_40, L_41, L_42, L_43, L_44, L_45, L_46, L_47, L_48, L_57, L_58, L_59, L_61, L_63, L_64, L_65, L_90, L_95, L_96, L_97, L_122, L_123, L_125, L_200, L_255, L_300, L_500, L_576, L_600, L_601, L_602, L_1200, L_1800, L_2400, L_3000, L_4000, L_4096, L_5000, L_30000, L_50000, L_60000, L_70000, L_100000, L_200000, L_1000000, L_1000001, ieq_f, if_true]
    exact OFx e
  · refine fin (fun c => m10_costAt n (nI a) y c) (AX_i fun c σr hI q => ST_e3 (k_costAt hn hI (nI a) y) (v := nI 0) (by
      unfold m11_costAt; rw [isn c σr hI q, ej_bi_s, L_m1, if_pos rfl, L_0]) (h19 _)) (fun c' τ e => ?_)
    unfold mL_of
    simp (disch := omega) only [↓L_m1, L_0, L_1, L_2, L_3, L_4, L_5, L_6, L_7, L_8, L_9, L_10, L_11, L_12, L_13, L_14, L_15, L_16, L_17, L_18, L_19, L_20, L_21, L_22, L_23, L_24, L_31, L_32, L_33, L_35, L_37, L_40, L_41, L_42, L_43, L_44, L_45, L_46, L_47, L_48, L_57, L_58, L_59, L_61, L_63, L_64, L_65, L_90, L_95, L_96, L_97, L_122, L_123, L_125, L_200, L_255, L_300, L_500, L_576, L_600, L_601, L_602, L_1200, L_1800, L_2400, L_3000, L_4000, L_4096, L_5000, L_30000, L_50000, L_60000, L_70000, L_100000, L_200000, L_1000000, L_1000001, ieq_f, if_true]
    exact OFx e
  · refine fin (fun c => m10_stepAt n (nI a) y c) (AX_i fun c σr hI q => ST_e3 (k_stepAt hn hI (nI a) y) (v := nI 0) (by
      unfold m11_stepAt; rw [isn c σr hI q, ej_bi_s, L_m1, if_pos rfl, L_0]) (h19 _)) (fun c' τ e => ?_)
    unfold mL_of
    simp (disch := omega) only [↓L_m1, L_0, L_1, L_2, L_3, L_4, L_5, L_6, L_7, L_8, L_9, L_10, L_11, L_12, L_13, L_14, L_15, L_16, L_17, L_18, L_19, L_20, L_21, L_22, L_23, L_24, L_31, L_32, L_33, L_35, L_37, L_40, L_41, L_42, L_43, L_44, L_45, L_46, L_47, L_48, L_57, L_58, L_59, L_61, L_63, L_64, L_65, L_90, L_95, L_96, L_97, L_122, L_123, L_125, L_200, L_255, L_300, L_500, L_576, L_600, L_601, L_602, L_1200, L_1800, L_2400, L_3000, L_4000, L_4096, L_5000, L_30000, L_50000, L_60000, L_70000, L_100000, L_200000, L_1000000, L_1000001, ieq_f, if_true]
    exact OFx e
/-- all that is asked for, as one number -/
theorem L_all_19 (hn : 2000 < n) (hS : SD σ0 D) (hz : Z0 D) (hw : wfR σ0) (N10 : NN σ0 ≤ 10) (h2 : gA τ 2 2 = nI (NN σ0)) : ∀ (fu a : Nat) (z : Int64), a ≤ NN σ0 → NN σ0 - a < fu → ∃ v, ∀ fs tp ot c, IQ n fs σ0 tp ot c → ∃ c', IQ n fs σ0 tp ot c' ∧ mL_all_19 n fu z (nI a) (c, τ) = some (v, (c', τ)) := by
  intro fu
  induction fu with
  | zero => intro a z _ h; omega
  | succ fu ih =>
    intro a z ha hf
    have m2 : ∀ c : ej_S, gA ((c, τ) : lw_S).2 2 2 = nI (NN σ0) := fun c => h2
    rcases Nat.eq_or_lt_of_le ha with rfl | q
    · refine ⟨z, fun fs tp ot c hc => ⟨c, hc, ?_⟩⟩
      rw [u_L_all_19, L_2, ck_t (by omega) (by omega), nI_clamp (by omega), m2, ile_t (Nat.le_refl _) (by omega)]
    · obtain ⟨v, hv⟩ := ih (a + 1) (((((1000003 * z) + ((oI (oc D a)).toInt64)) + (31 * ((oI (os D a)).toInt64))) + (1009 * ((nI (kdN σ0 a)).toInt64))) + (65537 * ((gA σ0 16 (24 * a + (a + 1) % NN σ0)).toInt64))) q (by omega)
      refine ⟨v, fun fs tp ot c hc => ?_⟩
      have hb : (a + 1) % NN σ0 < NN σ0 := Nat.mod_lt _ (by omega)
      have em : a + 1 - (a + 1) / NN σ0 * NN σ0 = (a + 1) % NN σ0 := by rw [Nat.mul_comm]; exact (Nat.mod_eq_sub_mul_div).symm
      obtain ⟨c1, i1, e1⟩ := a_cost (n := n) (fs := fs) (tp := tp) (ot := ot) hn hS hz q c hc
      obtain ⟨c2, i2, e2⟩ := a_steps (n := n) (fs := fs) (tp := tp) (ot := ot) hn hS hz q c1 i1
      obtain ⟨c3, i3, e3⟩ := a_kind (n := n) (fs := fs) (tp := tp) (ot := ot) q c2 i2
      obtain ⟨c4, i4, e4⟩ := a_linkCost (n := n) (fs := fs) (tp := tp) (ot := ot) q hb c3 i3
      obtain ⟨c5, i5, e5⟩ := hv fs tp ot c4 i4
      refine ⟨c5, i5, ?_⟩
      rw [u_L_all_19, L_2, ck_t (by omega) (by omega), nI_clamp (by omega), m2, ile_f q (by omega), e1 τ, ej_bi_s, e2 τ, ej_bi_s, e3 τ, ej_bi_s, m2, ck_t (by omega) (by omega), dv_t (by omega) (by omega), p_1, pk_div (by omega) (by omega) (by omega), pk_mul, pk_sub (Nat.div_mul_le_self _ _), em, e4 τ, ej_bi_s, ej_nm_e, ej_nm_e]
      exact e5
theorem L_all (hn : 2000 < n) (hS : SD σ0 D) (hz : Z0 D) (hw : wfR σ0) (N10 : NN σ0 ≤ 10) (h2 : gA τ 2 2 = nI (NN σ0)) {o : Option Nat} (ho : hmN σ0 o) : ∃ v, ∀ fs tp ot c, IQ n fs σ0 tp ot c → ∃ c', IQ n fs σ0 tp ot c' ∧ mL_all n (c, τ) = some (v, (c', τ)) := by
  obtain ⟨v, hv⟩ := L_all_19 (n := n) hn hS hz hw N10 h2 n 0 (((nI (NN σ0)).toInt64) + (31 * ((oI o).toInt64))) (Nat.zero_le _) (by omega)
  refine ⟨v, fun fs tp ot c hc => ?_⟩
  obtain ⟨c1, i1, e1⟩ := a_nodes (n := n) (fs := fs) (tp := tp) (ot := ot) hw c hc
  obtain ⟨c2, i2, e2⟩ := a_home (n := n) (fs := fs) (tp := tp) (ot := ot) hn hw ho c1 i1
  obtain ⟨c3, i3, e3⟩ := hv fs tp ot c2 i2
  refine ⟨c3, i3, ?_⟩
  unfold mL_all
  rw [e1 τ, ej_bi_s, e2 τ, ej_bi_s, ej_nm_e, L_0]
  exact e3
end P97xc
