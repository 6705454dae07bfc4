/-! THE STEPS OF THE CLASS, by a map of the reference -/
/-- a class's map, its links back too -/
def relG (σc σr : ej_S) : Prop := wfR σr ∧ relC σc σr ∧ rAli (gA σc 24) (gA σr 21) ∧ bkOK σr
section P74
variable {n a b k s : Nat} {σc σr : ej_S}
theorem G_has (h : relG σc σr) (ha : a < NN σr) : m0_has n (nI a) σc = some (nI 1, σc) := by
  obtain ⟨⟨N, h0, h1, -⟩, ⟨c1, -⟩, -⟩ := h
  have hN := NN_eq h1 h0
  rw [hN] at ha
  rw [x_has (by rw [c1, h1]) h0 (by omega), decide_eq_true ha]; rfl
theorem G_N (h : relG σc σr) : NN σr ≤ 24 ∧ gI σc 22 = nI (NN σr) := by
  obtain ⟨⟨N, h0, h1, -⟩, ⟨c1, -⟩, -⟩ := h
  have hN := NN_eq h1 h0
  rw [hN]
  exact ⟨h0, by rw [c1, h1]⟩
theorem G_dom (h : relG σc σr) (ha : a < NN σr) : bt (gI σc 24) a = dmB (gB σr 1 a) := by
  have h24 := (G_N h).1
  have := h.2.1.2.2.2.2.1 a (by omega)
  cases e : dmB (gB σr 1 a)
  · cases e2 : bt (gI σc 24) a
    · rfl
    · have := (dmB_iff _).mpr (this.mp e2).2
      rw [e] at this; cases this
  · exact this.mpr ⟨ha, (dmB_iff _).mp e⟩
theorem x_isDomain (h : relG σc σr) (ha : a < NN σr) : m0_isDomain n (nI a) σc = some (bI (dmB (gB σr 1 a)), σc) := by
  have h24 := (G_N h).1
  unfold m0_isDomain
  rw [x_holds (by omega), ej_bi_s, bz_b, G_dom h ha]
theorem G_bit {x : Int32} {R : Nat → Int32} (h : rBit x R) (ha : a < 24) : bt x a = decide (R a ≠ nI 0) := by
  have := h a ha
  cases e : bt x a
  · rw [eq_comm, decide_eq_false_iff_not]
    intro z; rw [this.mpr z] at e; cases e
  · rw [eq_comm, decide_eq_true_eq]; exact this.mp e
theorem x_kindOf (h : relG σc σr) (ha : a < NN σr) : m0_kindOf n (nI a) σc = some (nI (kdN σr a), σc) := by
  have h24 := (G_N h).1
  unfold m0_kindOf kdN
  rw [x_holds (by omega), ej_bi_s, G_dom h ha, x_holds (by omega), ej_bi_s, G_bit h.2.1.2.2.2.2.2.1 (by omega)]
  simp only [L_0, L_1, L_2, ibI]
  cases dmB (gB σr 1 a)
  · by_cases g : gA σr 12 a = nI 0 <;> simp [g]
  · simp
theorem G_ali {A R : Nat → Int32} (h : rAli A R) (ha : a < 24) (hb : b < 24) : bt (A a) b = decide (R (24 * a + b) ≠ nI 0) := by
  have := h a b ha hb
  cases e : bt (A a) b
  · rw [eq_comm, decide_eq_false_iff_not]
    intro z; rw [this.mpr z] at e; cases e
  · rw [eq_comm, decide_eq_true_eq]; exact this.mp e
theorem x_isAlias (h : relG σc σr) (ha : a < NN σr) (hb : b < 24) : m0_isAlias n (nI a) (nI b) σc = some (bI (decide (gA σr 19 (24 * a + b) ≠ nI 0)), σc) := by
  have h24 := (G_N h).1
  unfold m0_isAlias
  rw [G_has h ha]
  simp (disch := omega) only [ej_bi_s, ej_bl_s, ej_bv_s, ej_nm_e, L_0, ieq_f, ck_t, nI_clamp, x_holds hb, ibI, L_1]
  rw [G_ali h.2.1.2.2.2.2.2.2.2.2.2.1 (by omega) hb]
  cases decide (gA σr 19 (24 * a + b) ≠ nI 0) <;> rfl
theorem x_priceOfLink (h : relG σc σr) (ha : a < NN σr) (hb : b < NN σr) : m0_priceOfLink n (nI a) (nI b) σc = some (gA σr 16 (24 * a + b), σc) := by
  have h24 := (G_N h).1
  have hl := h.2.1.2.2.2.2.2.2.2.2.2.2.1 a b (by omega) (by omega)
  unfold m0_priceOfLink
  rw [G_has h ha]
  simp (disch := omega) only [ej_bi_s, ej_bl_s, ej_bv_s, ej_nm_e, L_0, ieq_f, G_has h hb, ck_t, nI_clamp, x_holds (show b < 24 by omega), ibI, ↓L_m1]
  by_cases g : gA σr 16 (24 * a + b) = zm
  · rw [if_neg (fun z => hl.1.mp z g), g]
  · rw [if_pos (hl.1.mpr g), (hl.2 g).1]
theorem x_priceOfMember (h : relG σc σr) (ha : a < NN σr) (hb : b < NN σr) : m0_priceOfMember n (nI a) (nI b) σc = some (gA σr 20 (24 * a + b), σc) := by
  have h24 := (G_N h).1
  have hl := h.2.1.2.2.2.2.2.2.2.2.2.2.2.2 b a (by omega) (by omega)
  unfold m0_priceOfMember
  rw [G_has h ha]
  simp (disch := omega) only [ej_bi_s, ej_bl_s, ej_bv_s, ej_nm_e, L_0, ieq_f, G_has h hb, ck_t, nI_clamp, x_holds (show a < 24 by omega), ibI, ↓L_m1]
  by_cases g : gA σr 20 (24 * a + b) = zm
  · rw [if_neg (fun z => hl.1.mp z g), g]
  · rw [if_pos (hl.1.mpr g), hl.2 g]
theorem x_isGate (h : relG σc σr) (ha : a < NN σr) : m0_isGate n (nI a) σc = some (bI (decide (gA σr 15 a ≠ nI 0) || dmB (gB σr 1 a)), σc) := by
  have h24 := (G_N h).1
  unfold m0_isGate
  rw [x_holds (by omega), ej_bi_s, G_bit h.2.1.2.2.2.2.2.2.2.1 (by omega), x_holds (by omega), ej_bi_s, G_dom h ha]
  simp only [L_0, L_1, ibI]
  cases dmB (gB σr 1 a) <;> by_cases g : gA σr 15 a = nI 0 <;> simp [g, bI]
theorem x_deathsOn (h : relG σc σr) (ha : a < NN σr) (hb : b < 24) : m0_deathsOn n (nI a) (nI b) σc = some (nI ((if gA σr 14 a = nI 0 then 0 else 1) + (if gA σr 18 (24 * a + b) = nI 0 then 0 else 1)), σc) := by
  have h24 := (G_N h).1
  have e16 : ∀ y : Nat, m0_deathsOn_16 n (nI a) (nI b) (nI y) σc = some (nI (y + (if gA σr 18 (24 * a + b) = nI 0 then 0 else 1)), σc) := by
    intro y
    unfold m0_deathsOn_16
    rw [G_has h ha]
    simp (disch := omega) only [ej_bi_s, ej_bl_s, ej_bv_s, ej_nm_e, L_0, ieq_f, ck_t, nI_clamp, x_holds hb, ibI, L_1, nI_add]
    rw [G_ali h.2.1.2.2.2.2.2.2.2.2.2.2.2.1 (by omega) hb]
    by_cases g : gA σr 18 (24 * a + b) = nI 0 <;> simp [g]
  unfold m0_deathsOn
  rw [x_holds (by omega), ej_bi_s, G_bit h.2.1.2.2.2.2.2.2.2.2.1 (by omega)]
  simp only [L_0, L_1, ibI, e16]
  by_cases g : gA σr 14 a = nI 0 <;> simp [g]
theorem x_hasBack (h : relG σc σr) (ha : a < NN σr) (hb : b < 24) : m5_hasBack n (nI a) (nI b) σc = some (bI (decide (gA σr 21 (24 * a + b) ≠ nI 0)), σc) := by
  have h24 := (G_N h).1
  unfold m5_hasBack
  rw [G_has h ha]
  simp (disch := omega) only [ej_bi_s, ej_bl_s, ej_bv_s, ej_nm_e, L_0, ieq_f, ck_t, nI_clamp, x_holds hb, ibI, L_1]
  rw [G_ali h.2.2.1 (by omega) hb]
  cases decide (gA σr 21 (24 * a + b) ≠ nI 0) <;> rfl
theorem x_plus_m (w : Int32) : m5_plus n zm w σc = some (zm, σc) := by unfold m5_plus; rw [L_m1, if_pos rfl]
theorem x_plus {v : Nat} (hv : v < 2 ^ 31) (w : Nat) : m5_plus n (nI v) (nI w) σc = some (nI (v + w), σc) := by unfold m5_plus; rw [L_m1, ieq_m hv, nI_add]
theorem sc1 (σ : ej_S) (a b : Nat) : scost σ a b 1 = if gA σ 19 (24 * a + b) = nI 0 then none else some 0 := by unfold scost; rw [if_pos rfl]
theorem sc2 (σ : ej_S) (a b : Nat) : scost σ a b 2 = if gA σ 16 (24 * a + b) = zm then none else some (vl (gA σ 16 (24 * a + b)) + (if gA σ 18 (24 * a + b) = nI 0 then 0 else 100000) + (if gA σ 14 a = nI 0 then 0 else 100000)) := by unfold scost; rw [if_neg (show ¬ 2 = 1 by omega), if_pos rfl]
theorem sc3 (σ : ej_S) (a b : Nat) : scost σ a b 3 = if gA σ 20 (24 * a + b) = zm then none else some (vl (gA σ 20 (24 * a + b)) + (if gA σ 15 b = nI 0 then (if dmB (gB σ 1 b) = true then 70000 else 0) else 70000)) := by unfold scost; rw [if_neg (show ¬ 3 = 1 by omega), if_neg (show ¬ 3 = 2 by omega), if_pos rfl]
theorem sc4 (σ : ej_S) (a b : Nat) : scost σ a b 4 = if gA σ 20 (24 * b + a) = zm then none else some 0 := by unfold scost; rw [if_neg (show ¬ 4 = 1 by omega), if_neg (show ¬ 4 = 2 by omega), if_neg (show ¬ 4 = 3 by omega), if_pos rfl]
theorem sc5 (σ : ej_S) (a b : Nat) : scost σ a b 5 = if gA σ 21 (24 * a + b) = nI 0 then none else some (vl (gA σ 16 (24 * b + a)) + 200000) := by unfold scost; rw [if_neg (show ¬ 5 = 1 by omega), if_neg (show ¬ 5 = 2 by omega), if_neg (show ¬ 5 = 3 by omega), if_neg (show ¬ 5 = 4 by omega)]
theorem x_plainCost (h : relG σc σr) (ha : a < NN σr) (hb : b < NN σr) (hk : 1 ≤ k) (hk5 : k ≤ 5) : m5_plainCost n (nI a) (nI k) (nI b) σc = some (oI (scost σr a b k), σc) := by
  have h24 := (G_N h).1
  obtain ⟨N, h0, h1, h2, w1, w2, w3, w4, w5, w6, w7, w8⟩ := h.1
  have e : k = 1 ∨ k = 2 ∨ k = 3 ∨ k = 4 ∨ k = 5 := by omega
  unfold m5_plainCost
  rcases e with rfl | rfl | rfl | rfl | rfl
  · rw [sc1]
    simp (disch := omega) only [ej_bi_s, ej_bl_s, ej_bv_s, ej_nm_e, ↓L_m1, L_0, L_1, L_2, L_3, L_4, L_5, L_6, L_7, L_8, L_9, L_10, L_11, L_12, L_13, L_14, L_15, L_16, L_17, L_18, L_19, L_20, L_21, L_22, L_23, L_24, L_31, L_32, L_33, L_35, L_37, L_40, L_41, L_42, L_43, L_44, L_45, L_46, L_47, L_48, L_57, L_58, L_59, L_61, L_63, L_64, L_65, L_90, L_95, L_96, L_97, L_122, L_123, L_125, L_200, L_255, L_300, L_500, L_576, L_600, L_601, L_602, L_1200, L_1800, L_2400, L_3000, L_4000, L_4096, L_5000, L_30000, L_50000, L_60000, L_70000, L_100000, L_200000, L_1000000, L_1000001, ieq_t, if_true, x_isAlias h ha (show b < 24 by omega), ibI]
    by_cases g : gA σr 19 (24 * a + b) = nI 0
    · rw [if_pos g]; simp [g, oI]
    · rw [if_neg g]; simp [g, oI]
  · rw [sc2]
    simp (disch := omega) only [ej_bi_s, ej_bl_s, ej_bv_s, ej_nm_e, ↓L_m1, L_0, L_1, L_2, L_3, L_4, L_5, L_6, L_7, L_8, L_9, L_10, L_11, L_12, L_13, L_14, L_15, L_16, L_17, L_18, L_19, L_20, L_21, L_22, L_23, L_24, L_31, L_32, L_33, L_35, L_37, L_40, L_41, L_42, L_43, L_44, L_45, L_46, L_47, L_48, L_57, L_58, L_59, L_61, L_63, L_64, L_65, L_90, L_95, L_96, L_97, L_122, L_123, L_125, L_200, L_255, L_300, L_500, L_576, L_600, L_601, L_602, L_1200, L_1800, L_2400, L_3000, L_4000, L_4096, L_5000, L_30000, L_50000, L_60000, L_70000, L_100000, L_200000, L_1000000, L_1000001, ieq_t, ieq_f, if_true, x_priceOfLink h ha hb, x_deathsOn h ha (show b < 24 by omega), pk_mul]
    rcases w4 (24 * a + b) (by omega) with z | ⟨p, z1, z2⟩
    · rw [z, x_plus_m, if_pos rfl]; rfl
    · rw [z2, x_plus (by omega), vl_nI (by omega), if_neg (zm_ne (by omega))]
      refine congrArg (fun z => some (nI z, σc)) ?_
      split <;> split <;> omega
  · rw [sc3]
    simp (disch := omega) only [ej_bi_s, ej_bl_s, ej_bv_s, ej_nm_e, ↓L_m1, L_0, L_1, L_2, L_3, L_4, L_5, L_6, L_7, L_8, L_9, L_10, L_11, L_12, L_13, L_14, L_15, L_16, L_17, L_18, L_19, L_20, L_21, L_22, L_23, L_24, L_31, L_32, L_33, L_35, L_37, L_40, L_41, L_42, L_43, L_44, L_45, L_46, L_47, L_48, L_57, L_58, L_59, L_61, L_63, L_64, L_65, L_90, L_95, L_96, L_97, L_122, L_123, L_125, L_200, L_255, L_300, L_500, L_576, L_600, L_601, L_602, L_1200, L_1800, L_2400, L_3000, L_4000, L_4096, L_5000, L_30000, L_50000, L_60000, L_70000, L_100000, L_200000, L_1000000, L_1000001, ieq_t, ieq_f, if_true, x_priceOfMember h ha hb, x_isGate h hb, ibI]
    rcases w5 (24 * a + b) (by omega) with z | ⟨p, z1, z2⟩
    · rw [z, x_plus_m, x_plus_m, if_pos rfl]
      simp [ej_bi_s, oI]
    · rw [z2, x_plus (by omega), x_plus (by omega), vl_nI (by omega), if_neg (zm_ne (by omega))]
      by_cases d1 : gA σr 15 b = nI 0
      · rw [decide_eq_false (fun z => z d1), Bool.false_or, if_pos d1]
        cases d2 : dmB (gB σr 1 b)
        · rw [if_neg (by decide), if_neg (by decide)]; rfl
        · rw [if_pos rfl, if_pos rfl]; rfl
      · rw [decide_eq_true d1, Bool.true_or, if_pos rfl, if_neg d1]; rfl
  · rw [sc4]
    simp (disch := omega) only [ej_bi_s, ej_bl_s, ej_bv_s, ej_nm_e, ↓L_m1, L_0, L_1, L_2, L_3, L_4, L_5, L_6, L_7, L_8, L_9, L_10, L_11, L_12, L_13, L_14, L_15, L_16, L_17, L_18, L_19, L_20, L_21, L_22, L_23, L_24, L_31, L_32, L_33, L_35, L_37, L_40, L_41, L_42, L_43, L_44, L_45, L_46, L_47, L_48, L_57, L_58, L_59, L_61, L_63, L_64, L_65, L_90, L_95, L_96, L_97, L_122, L_123, L_125, L_200, L_255, L_300, L_500, L_576, L_600, L_601, L_602, L_1200, L_1800, L_2400, L_3000, L_4000, L_4096, L_5000, L_30000, L_50000, L_60000, L_70000, L_100000, L_200000, L_1000000, L_1000001, ieq_t, ieq_f, if_true, x_priceOfMember h hb ha]
    by_cases g : gA σr 20 (24 * b + a) = zm
    · rw [if_pos g, if_pos g]; rfl
    · rw [if_neg g, if_neg g]; rfl
  · rw [sc5]
    simp (disch := omega) only [ej_bi_s, ej_bl_s, ej_bv_s, ej_nm_e, ↓L_m1, L_0, L_1, L_2, L_3, L_4, L_5, L_6, L_7, L_8, L_9, L_10, L_11, L_12, L_13, L_14, L_15, L_16, L_17, L_18, L_19, L_20, L_21, L_22, L_23, L_24, L_31, L_32, L_33, L_35, L_37, L_40, L_41, L_42, L_43, L_44, L_45, L_46, L_47, L_48, L_57, L_58, L_59, L_61, L_63, L_64, L_65, L_90, L_95, L_96, L_97, L_122, L_123, L_125, L_200, L_255, L_300, L_500, L_576, L_600, L_601, L_602, L_1200, L_1800, L_2400, L_3000, L_4000, L_4096, L_5000, L_30000, L_50000, L_60000, L_70000, L_100000, L_200000, L_1000000, L_1000001, ieq_t, ieq_f, if_true, x_hasBack h ha (show b < 24 by omega), x_priceOfLink h hb ha, ibI]
    by_cases g : gA σr 21 (24 * a + b) = nI 0
    · simp [g, oI]
    · have hne := h.2.2.2 a b (by omega) (by omega) g
      rcases w4 (24 * b + a) (by omega) with z | ⟨p, z1, z2⟩
      · exact absurd z hne
      · rw [z2, x_plus (by omega), vl_nI (by omega), decide_eq_true g, if_pos rfl, if_neg g]; rfl
theorem x_isRightNet (h : relG σc σr) (ha : a < NN σr) : m0_isRightNet n (nI a) σc = some (bI (decide (gA σr 12 a ≠ nI 0) && decide (gA σr 13 a = nI 0)), σc) := by
  have h24 := (G_N h).1
  unfold m0_isRightNet
  rw [x_holds (by omega), ej_bi_s, G_bit h.2.1.2.2.2.2.2.1 (by omega), x_holds (by omega), ej_bi_s, G_bit h.2.1.2.2.2.2.2.2.1 (by omega)]
  simp only [L_0, L_1, ibI]
  by_cases g : gA σr 12 a = nI 0 <;> by_cases g2 : gA σr 13 a = nI 0 <;> simp [g, g2, bI]
theorem x_markOf_any (h : relG σc σr) (ha : a < NN σr) (hb : b < 24) (hk : 1 ≤ k) (hk5 : k ≤ 5) : ∃ m, m ≤ 2 ∧ m5_markOf n (nI a) (nI k) (nI b) σc = some (nI m, σc) ∧ (∀ c, scost σr a b k = some c → m = mkN σr a b k) := by
  have h24 := (G_N h).1
  unfold m5_markOf mkN
  have e : k = 1 ∨ k = 2 ∨ k = 3 ∨ k = 4 ∨ k = 5 := by omega
  rcases e with rfl | rfl | rfl | rfl | rfl
  · refine ⟨0, by omega, ?_, fun c _ => by simp⟩
    simp (disch := omega) only [↓L_m1, L_0, L_1, L_2, L_3, L_4, L_5, L_6, L_7, L_8, L_9, L_10, L_11, L_12, L_13, L_14, L_15, L_16, L_17, L_18, L_19, L_20, L_21, L_22, L_23, L_24, L_31, L_32, L_33, L_35, L_37, L_40, L_41, L_42, L_43, L_44, L_45, L_46, L_47, L_48, L_57, L_58, L_59, L_61, L_63, L_64, L_65, L_90, L_95, L_96, L_97, L_122, L_123, L_125, L_200, L_255, L_300, L_500, L_576, L_600, L_601, L_602, L_1200, L_1800, L_2400, L_3000, L_4000, L_4096, L_5000, L_30000, L_50000, L_60000, L_70000, L_100000, L_200000, L_1000000, L_1000001, ieq_f]
  · have hl := h.2.1.2.2.2.2.2.2.2.2.2.2.1 a b (by omega) hb
    refine ⟨if bt (gA σc 21 a) b = true then 2 else 1, by split <;> omega, ?_, fun c hc => ?_⟩
    · unfold m0_isRightLink
      rw [G_has h ha]
      simp (disch := omega) only [ej_bi_s, ej_bl_s, ej_bv_s, ej_nm_e, ↓L_m1, L_0, L_1, L_2, L_3, L_4, L_5, L_6, L_7, L_8, L_9, L_10, L_11, L_12, L_13, L_14, L_15, L_16, L_17, L_18, L_19, L_20, L_21, L_22, L_23, L_24, L_31, L_32, L_33, L_35, L_37, L_40, L_41, L_42, L_43, L_44, L_45, L_46, L_47, L_48, L_57, L_58, L_59, L_61, L_63, L_64, L_65, L_90, L_95, L_96, L_97, L_122, L_123, L_125, L_200, L_255, L_300, L_500, L_576, L_600, L_601, L_602, L_1200, L_1800, L_2400, L_3000, L_4000, L_4096, L_5000, L_30000, L_50000, L_60000, L_70000, L_100000, L_200000, L_1000000, L_1000001, ieq_t, ieq_f, if_true, ck_t, nI_clamp, x_holds hb, ibI]
      cases bt (gA σc 21 a) b
      · simp [ej_bi_s]
      · simp (disch := omega) [ej_bi_s, ieq_f]
    · have hR : gA σr 16 (24 * a + b) ≠ zm := by
        intro z
        rw [sc2, if_pos z] at hc; cases hc
      have hq := (hl.2 hR).2
      by_cases g : gA σr 17 (24 * a + b) = nI 0
      · rw [if_neg (fun z => hq.mp z g)]; simp [g]
      · rw [if_pos (hq.mpr g)]; simp [g]
  · refine ⟨0, by omega, ?_, fun c _ => by simp⟩
    simp (disch := omega) only [↓L_m1, L_0, L_1, L_2, L_3, L_4, L_5, L_6, L_7, L_8, L_9, L_10, L_11, L_12, L_13, L_14, L_15, L_16, L_17, L_18, L_19, L_20, L_21, L_22, L_23, L_24, L_31, L_32, L_33, L_35, L_37, L_40, L_41, L_42, L_43, L_44, L_45, L_46, L_47, L_48, L_57, L_58, L_59, L_61, L_63, L_64, L_65, L_90, L_95, L_96, L_97, L_122, L_123, L_125, L_200, L_255, L_300, L_500, L_576, L_600, L_601, L_602, L_1200, L_1800, L_2400, L_3000, L_4000, L_4096, L_5000, L_30000, L_50000, L_60000, L_70000, L_100000, L_200000, L_1000000, L_1000001, ieq_f]
  · refine ⟨if (decide (gA σr 12 a ≠ nI 0) && decide (gA σr 13 a = nI 0)) = true then 2 else 1, by split <;> omega, ?_, fun c hc => ?_⟩
    · simp (disch := omega) only [ej_bi_s, ej_bl_s, ej_bv_s, ej_nm_e, ↓L_m1, L_0, L_1, L_2, L_3, L_4, L_5, L_6, L_7, L_8, L_9, L_10, L_11, L_12, L_13, L_14, L_15, L_16, L_17, L_18, L_19, L_20, L_21, L_22, L_23, L_24, L_31, L_32, L_33, L_35, L_37, L_40, L_41, L_42, L_43, L_44, L_45, L_46, L_47, L_48, L_57, L_58, L_59, L_61, L_63, L_64, L_65, L_90, L_95, L_96, L_97, L_122, L_123, L_125, L_200, L_255, L_300, L_500, L_576, L_600, L_601, L_602, L_1200, L_1800, L_2400, L_3000, L_4000, L_4096, L_5000, L_30000, L_50000, L_60000, L_70000, L_100000, L_200000, L_1000000, L_1000001, ieq_t, ieq_f, if_true, x_isRightNet h ha, ibI]
      split <;> rfl
    · have hR : gA σr 20 (24 * b + a) ≠ zm := by
        intro z
        rw [sc4, if_pos z] at hc; cases hc
      obtain ⟨N, h0, h1, h2, w1, w2, w3, w4, w5, w6, w7, w8, w9⟩ := h.1
      have := w9 a b (by omega) hb hR
      by_cases g : gA σr 13 a = nI 0 <;> simp [this, g]
  · refine ⟨1, by omega, ?_, fun c _ => by simp⟩
    simp (disch := omega) only [↓L_m1, L_0, L_1, L_2, L_3, L_4, L_5, L_6, L_7, L_8, L_9, L_10, L_11, L_12, L_13, L_14, L_15, L_16, L_17, L_18, L_19, L_20, L_21, L_22, L_23, L_24, L_31, L_32, L_33, L_35, L_37, L_40, L_41, L_42, L_43, L_44, L_45, L_46, L_47, L_48, L_57, L_58, L_59, L_61, L_63, L_64, L_65, L_90, L_95, L_96, L_97, L_122, L_123, L_125, L_200, L_255, L_300, L_500, L_576, L_600, L_601, L_602, L_1200, L_1800, L_2400, L_3000, L_4000, L_4096, L_5000, L_30000, L_50000, L_60000, L_70000, L_100000, L_200000, L_1000000, L_1000001, ieq_t, ieq_f, if_true]
theorem v_and1c : ∀ s, s < 4 → ((nI s &&& nI 1 = nI 0) ↔ s % 2 = 0) ∧ ((nI s &&& nI 2 = nI 0) ↔ s / 2 = 0) := by decide +kernel
/-- what a step costs on a way with a state -/
def ccost (σ : ej_S) (a s b k : Nat) : Option Nat := (scost σ a b k).map (fun c => c + addN σ a s b k)
theorem x_costOf (h : relG σc σr) (ha : a < NN σr) (hb : b < NN σr) (hk : 1 ≤ k) (hk5 : k ≤ 5) (hs : s < 4) : m5_costOf n (nI a) (nI s) (nI k) (nI b) σc = some (oI (ccost σr a s b k), σc) := by
  have h24 := (G_N h).1
  obtain ⟨v1, v2⟩ := v_and1c s hs
  obtain ⟨m, hm, e1, e2⟩ := x_markOf_any (n := n) h ha (show b < 24 by omega) hk hk5
  obtain ⟨N, h0, h1, h2, w1, w2, w3, w4, w5, w6, w7, w8⟩ := h.1
  have hs2 : s / 2 = 0 ∨ s / 2 = 1 := by omega
  have e37 : ∀ o : Option Nat, (∀ v, o = some v → v < 2000000) → m5_costOf_37 n (nI s) (nI k) (oI o) σc = some (oI (o.map (fun c => c + (if s / 2 = 1 ∧ dear k = true then 60000 else 0))), σc) := by
    intro o ho
    unfold m5_costOf_37 dear
    simp only [L_0, L_2, L_3, L_5, L_60000, v2, nI_eq (show k < 2 ^ 31 by omega) (show 2 < 2 ^ 31 by omega), nI_eq (show k < 2 ^ 31 by omega) (show 3 < 2 ^ 31 by omega), nI_eq (show k < 2 ^ 31 by omega) (show 5 < 2 ^ 31 by omega)]
    cases o with
    | none =>
      simp only [oI, x_plus_m, ej_bi_s, ej_bl_s, ej_bv_s, ej_nm_e, Option.map_none]
      repeat' split
      all_goals rfl
    | some v =>
      have := ho v rfl
      simp only [oI, x_plus (show v < 2 ^ 31 by omega), ej_bi_s, ej_bl_s, ej_bv_s, ej_nm_e, Option.map_some]
      rcases hs2 with g | g
      · simp [g]
      · by_cases k2 : k = 2
        · simp [g, k2]
        · by_cases k5 : k = 5
          · simp [g, k5]
          · by_cases k3 : k = 3
            · simp [g, k3]
            · simp [g, k2, k5, k3]
  unfold m5_costOf
  rw [x_plainCost h ha hb hk hk5, ej_bi_s, e1]
  simp only [ej_bi_s, ej_bl_s, ej_bv_s, ej_nm_e, L_0, L_1, L_50000, v1, nI_eq (show m < 2 ^ 31 by omega) (show 1 < 2 ^ 31 by omega)]
  unfold ccost addN
  cases hc : scost σr a b k with
  | none =>
    have e0 : ∀ X : Option (Int32 × ej_S), X = m5_costOf_37 n (nI s) (nI k) zm σc → X = some (zm, σc) := by
      intro X hX
      rw [hX]; exact e37 none (fun v hv => by cases hv)
    simp only [oI, x_plus_m, ej_bi_s, ej_bl_s, ej_bv_s, ej_nm_e, Option.map_none]
    refine e0 _ ?_
    split
    · rfl
    · split <;> rfl
  | some c =>
    have hcb := scost_bd w4 w5 (by omega) (by omega) hc
    have hme := e2 c hc
    simp only [oI, x_plus (show c < 2 ^ 31 by omega), ej_bi_s, ej_bl_s, ej_bv_s, ej_nm_e, Option.map_some]
    have q0 := e37 (some c) (fun v hv => by have := Option.some.inj hv; omega)
    have q1 := e37 (some (c + 50000)) (fun v hv => by have := Option.some.inj hv; omega)
    simp only [oI, Option.map_some] at q0 q1
    rw [q0, q1, ← hme]
    have hs1 : s % 2 = 0 ∨ s % 2 = 1 := by omega
    rcases hs1 with g | g
    · simp [g]
    · by_cases g2 : m = 1
      · simp [g, g2, Nat.add_assoc]
      · simp [g, g2]
theorem v_orc : ∀ s, s < 4 → (nI s ||| nI 1 = nI (1 + 2 * (s / 2))) ∧ (nI s ||| nI 2 = nI (s % 2 + 2 * 1)) ∧ (nI s = nI (s % 2 + 2 * (s / 2))) := by decide +kernel
theorem x_stateBehind (h : relG σc σr) (ha : a < NN σr) (hb : b < NN σr) (hk : 1 ≤ k) (hk5 : k ≤ 5) (hs : s < 4) {c : Nat} (hc : scost σr a b k = some c) : m5_stateBehind n (nI a) (nI s) (nI k) (nI b) σc = some (nI (sbN σr a s b k), σc) := by
  have h24 := (G_N h).1
  obtain ⟨m, hm, e1, e2⟩ := x_markOf_any (n := n) h ha (show b < 24 by omega) hk hk5
  have hme := e2 c hc
  obtain ⟨v1, v2, v3⟩ := v_orc s hs
  have e31 : ∀ t, t < 4 → m5_stateBehind_31 n (nI a) (nI b) (nI t) σc = some (nI (t % 2 + 2 * (if (dmB (gB σr 1 a) && !dmB (gB σr 1 b)) = true then 1 else t / 2)), σc) := by
    intro t ht
    obtain ⟨u1, u2, u3⟩ := v_orc t ht
    unfold m5_stateBehind_31
    rw [x_isDomain h ha, ej_bi_s, x_isDomain h hb, ej_bi_s]
    simp only [L_0, L_2, ibI, ej_bi_s, ej_bl_s, ej_bv_s, ej_nm_e, u2]
    cases dmB (gB σr 1 a) <;> cases dmB (gB σr 1 b) <;> simp <;> exact u3
  unfold m5_stateBehind sbN outB
  rw [e1, ej_bi_s, hme]
  simp only [L_2, L_1, L_4, ej_bi_s, ej_bl_s, ej_bv_s, ej_nm_e, v1, nI_eq (show mkN σr a b k < 2 ^ 31 by omega) (show 2 < 2 ^ 31 by omega), nI_eq (show k < 2 ^ 31 by omega) (show 2 < 2 ^ 31 by omega), nI_eq (show k < 2 ^ 31 by omega) (show 4 < 2 ^ 31 by omega)]
  rw [e31 _ (by omega), e31 s hs]
  have z1 : (1 + 2 * (s / 2)) % 2 = 1 := by omega
  have z2 : (1 + 2 * (s / 2)) / 2 = s / 2 := by omega
  rw [z1, z2]
  generalize mkN σr a b k = M at *
  by_cases g : M = 2
  · by_cases k2 : k = 2
    · simp [g, k2]
    · by_cases k4 : k = 4
      · simp [g, k4]
      · simp [g, k2, k4]
  · by_cases k2 : k = 2
    · simp [g, k2]
    · by_cases k4 : k = 4
      · simp [g, k4]
      · simp [g, k2, k4]; exact v3
theorem x_nextTo_33 (h24 : NN σr ≤ 24) (h : gI σc 22 = nI (NN σr)) (ha : a < 24) : ∀ (k j : Nat) (acc : Int32), NN σr - j < k → j ≤ NN σr → ∃ T, m0_nextTo_33 n k (nI a) acc (nI j) σc = some (T, σc) ∧ ∀ b, b < 24 → (bt T b = true ↔ bt acc b = true ∨ (j ≤ b ∧ b < NN σr ∧ bt (gA σc 23 b) a = true)) := by
  intro k
  induction k with
  | zero => intro j acc h1; omega
  | succ k ih =>
    intro j acc h1 h2
    rw [u_0_nextTo_33, h]
    rcases Nat.lt_or_ge j (NN σr) with q | q
    · simp (disch := omega) only [L_24, ile_f, ck_t, nI_clamp, x_holds ha, ej_bi_s, ej_bl_s, ej_bv_s, ej_nm_e, L_0, ibI, x_setOf (show j < 24 by omega), L_1, nI_add]
      cases hb : bt (gA σc 23 j) a
      · obtain ⟨T, e1, e2⟩ := ih (j + 1) acc (by omega) q
        refine ⟨T, by simpa using e1, fun b hb2 => ?_⟩
        rw [e2 b hb2]
        constructor
        · rintro (z | z)
          · exact .inl z
          · exact .inr ⟨by omega, z.2⟩
        · rintro (z | z)
          · exact .inl z
          · refine .inr ⟨?_, z.2⟩
            rcases Nat.eq_or_lt_of_le z.1 with w | w
            · subst w; rw [hb] at z; cases z.2.2
            · exact w
      · obtain ⟨T, e1, e2⟩ := ih (j + 1) (acc ||| stb j) (by omega) q
        refine ⟨T, by simpa using e1, fun b hb2 => ?_⟩
        rw [e2 b hb2, bt_or _ (by omega) (by omega), Bool.or_eq_true, decide_eq_true_eq]
        constructor
        · rintro ((z | z) | z)
          · exact .inl z
          · subst z; exact .inr ⟨Nat.le_refl _, q, hb⟩
          · exact .inr ⟨by omega, z.2⟩
        · rintro (z | z)
          · exact .inl (.inl z)
          · rcases Nat.eq_or_lt_of_le z.1 with w | w
            · exact .inl (.inr w.symm)
            · exact .inr ⟨w, z.2⟩
    · rw [ile_t q (by omega)]
      exact ⟨acc, rfl, fun b hb => ⟨fun z => .inl z, fun z => by rcases z with z | z; exact z; omega⟩⟩
theorem scost_lim (hw : wfR σr) (hbk : bkOK σr) (ha : a < 24) (hb : b < 24) (hk : 1 ≤ k) (hk5 : k ≤ 5) {c : Nat} (h : scost σr a b k = some c) : a < NN σr ∧ b < NN σr ∧ a ≠ b := by
  obtain ⟨N, h0, h1, h2, w1, w2, w3, w4, w5, w6, w7, w8, w9⟩ := hw
  have hN := NN_eq h1 h0
  rw [hN]
  refine Classical.byContradiction fun hno => ?_
  have l1 : N ≤ a ∨ N ≤ b ∨ a = b := by omega
  have l2 : N ≤ b ∨ N ≤ a ∨ b = a := by omega
  have z16 := w6 a b ha hb l1
  have z16' := w6 b a hb ha l2
  have z19 := w7 a b ha hb l1
  have z20 := w8 a b ha hb l1
  have z20' := w8 b a hb ha l2
  have z21 : gA σr 21 (24 * a + b) = nI 0 := Classical.byContradiction fun z => hbk a b ha hb z z16'
  unfold scost at h
  rw [z16, z19, z20, z20', z21] at h
  simp at h
theorem x_targetsOf (hn : 2000 < n) (h : relG σc σr) (ha : a < NN σr) : ∃ T, m5_targetsOf n (nI a) σc = some (T, σc) ∧ ∀ b, b < 24 → (bt T b = true ↔ ∃ k, 1 ≤ k ∧ k ≤ 5 ∧ scost σr a b k ≠ none) := by
  obtain ⟨h24, h22⟩ := G_N h
  obtain ⟨T, e1, e2⟩ := x_nextTo_33 (n := n) (a := a) h24 h22 (by omega) n 0 ((gA σc 19 a ||| gA σc 20 a) ||| gA σc 23 a) (by omega) (Nat.zero_le _)
  have e0 : m0_nextTo n (nI a) σc = some (T, σc) := by
    unfold m0_nextTo
    rw [G_has h ha]
    simp (disch := omega) only [ej_bi_s, ej_bl_s, ej_bv_s, ej_nm_e, L_0, ieq_f, ck_t, nI_clamp]
    exact e1
  refine ⟨T ||| gA σc 24 a, ?_, fun b hb => ?_⟩
  · unfold m5_targetsOf
    rw [G_has h ha]
    simp (disch := omega) only [ej_bi_s, ej_bl_s, ej_bv_s, ej_nm_e, L_0, ieq_f, ck_t, nI_clamp, e0]
  · obtain ⟨hw, hrel, hbk, hOK⟩ := id h
    have l19 := hrel.2.2.2.2.2.2.2.2.2.1 a b (by omega) hb
    have l20 := (hrel.2.2.2.2.2.2.2.2.2.2.1 a b (by omega) hb).1
    have l23 := (hrel.2.2.2.2.2.2.2.2.2.2.2.2 a b (by omega) hb).1
    have l23' := (hrel.2.2.2.2.2.2.2.2.2.2.2.2 b a hb (by omega)).1
    have l24 := hbk a b (by omega) hb
    rw [b_or, Bool.or_eq_true, e2 b hb, b_or, b_or, Bool.or_eq_true, Bool.or_eq_true, l19, l20, l23, l23', l24]
    have s1 : scost σr a b 1 ≠ none ↔ gA σr 19 (24 * a + b) ≠ nI 0 := by
      rw [sc1]; split <;> simp [*]
    have s2 : scost σr a b 2 ≠ none ↔ gA σr 16 (24 * a + b) ≠ zm := by
      rw [sc2]; split <;> simp [*]
    have s3 : scost σr a b 3 ≠ none ↔ gA σr 20 (24 * a + b) ≠ zm := by
      rw [sc3]; split <;> simp [*]
    have s4 : scost σr a b 4 ≠ none ↔ gA σr 20 (24 * b + a) ≠ zm := by
      rw [sc4]; split <;> simp [*]
    have s5 : scost σr a b 5 ≠ none ↔ gA σr 21 (24 * a + b) ≠ nI 0 := by
      rw [sc5]; split <;> simp [*]
    constructor
    · rintro (((z | z) | z) | z)
      · rcases z with z | z
        · exact ⟨1, by omega, by omega, s1.mpr z⟩
        · exact ⟨2, by omega, by omega, s2.mpr z⟩
      · exact ⟨4, by omega, by omega, s4.mpr z⟩
      · exact ⟨3, by omega, by omega, s3.mpr z.2.2⟩
      · exact ⟨5, by omega, by omega, s5.mpr z⟩
    · rintro ⟨k, hk, hk5, hc⟩
      have e : k = 1 ∨ k = 2 ∨ k = 3 ∨ k = 4 ∨ k = 5 := by omega
      rcases e with rfl | rfl | rfl | rfl | rfl
      · exact .inl (.inl (.inl (.inl (s1.mp hc))))
      · exact .inl (.inl (.inl (.inr (s2.mp hc))))
      · obtain ⟨c, hc'⟩ := Option.ne_none_iff_exists'.mp hc
        have := scost_lim hw hOK (by omega) hb hk hk5 hc'
        exact .inl (.inr ⟨Nat.zero_le _, this.2.1, s3.mp hc⟩)
      · exact .inl (.inl (.inr (s4.mp hc)))
      · exact .inr (s5.mp hc)
end P74
