/-! SUMS, IN BOTH -/
def cmb (s : Nat) (x y : Int32) : Int64 := if s = 43 then x.toInt64 + y.toInt64 else if s = 45 then x.toInt64 - y.toInt64 else if s = 42 then x.toInt64 * y.toInt64 else if y.toInt64 = 0 then 1000001 else x.toInt64 / y.toInt64
def okL (r : Int64) : Bool := decide (-1000000 ≤ r.toInt) && decide (r.toInt ≤ 1000000)
theorem okL_bd {r : Int64} (h : okL r = true) : bd r.toInt32 := by
  simp only [okL, Bool.and_eq_true, decide_eq_true_eq] at h
  unfold bd
  rw [Int64.toInt_toInt32, fb_bmod (by omega) (by omega)]
  exact h
theorem bd_okL {x : Int32} (h : bd x) : okL x.toInt64 = true := by
  unfold bd at h
  simp only [okL, Bool.and_eq_true, decide_eq_true_eq, Int32.toInt_toInt64]
  exact h
section P58a
variable {n : Nat} {σ : ej_S} {x y : Int32} {r : Int64}
theorem x_combine {s : Nat} (hs : s < 128) : m6_combine n x.toInt64 (nI s) y.toInt64 σ = some (cmb s x y, σ) := by
  unfold m6_combine cmb
  simp only [↓L_m1, L_0, L_1, L_2, L_3, L_4, L_5, L_6, L_7, L_8, L_9, L_10, L_11, L_12, L_13, L_14, L_15, L_16, L_17, L_18, L_19, L_20, L_21, L_22, L_23, L_24, L_31, L_32, L_33, L_35, L_37, L_40, L_41, L_42, L_43, L_44, L_45, L_46, L_47, L_48, L_57, L_58, L_59, L_61, L_63, L_64, L_65, L_90, L_95, L_96, L_97, L_122, L_123, L_125, L_200, L_255, L_300, L_500, L_576, L_600, L_601, L_602, L_1200, L_1800, L_2400, L_3000, L_4000, L_4096, L_5000, L_30000, L_50000, L_60000, L_70000, L_100000, L_200000, L_1000000, L_1000001, nI_eq (show s < 2 ^ 31 by omega) (show 43 < 2 ^ 31 by omega), nI_eq (show s < 2 ^ 31 by omega) (show 45 < 2 ^ 31 by omega), nI_eq (show s < 2 ^ 31 by omega) (show 42 < 2 ^ 31 by omega)]
  by_cases h1 : s = 43
  · simp only [h1, if_true]
  · by_cases h2 : s = 45
    · simp only [h1, h2, if_true, if_false]; rfl
    · by_cases h3 : s = 42
      · simp only [h1, h2, h3, if_true, if_false]; rfl
      · rw [if_neg h1, if_neg h2, if_neg h3, if_neg h1, if_neg h2, if_neg h3]
        by_cases h4 : y.toInt64 = 0
        · rw [if_pos h4, ← L_0, if_pos ((cmp_eq _ _).mpr h4)]
        · rw [if_neg h4, ← L_0, if_neg (fun z => h4 ((cmp_eq _ _).mp z))]
          unfold ej_dvl
          rw [if_neg h4]
theorem okL_iff : okL r = false ↔ (r < -1000000 ∨ 1000000 < r) := by
  rw [Int64.lt_iff_toInt_lt, Int64.lt_iff_toInt_lt, show (-1000000 : Int64).toInt = -1000000 by decide +kernel, show (1000000 : Int64).toInt = 1000000 by decide +kernel]
  cases h : okL r
  · simp only [okL, Bool.and_eq_false_iff, decide_eq_false_iff_not] at h
    exact ⟨fun _ => by omega, fun _ => rfl⟩
  · simp only [okL, Bool.and_eq_true, decide_eq_true_eq] at h
    exact ⟨fun z => (by cases z), fun z => by omega⟩
theorem x_within : m6_isWithinLimit n r σ = some (bI (okL r), σ) := by
  have h := okL_iff (r := r)
  unfold m6_isWithinLimit
  by_cases h1 : r < -1000000
  · rw [if_pos ((cmp_lt _ _).mpr h1), h.mpr (.inl h1)]; rfl
  · rw [if_neg (fun z => h1 ((cmp_lt _ _).mp z))]
    by_cases h2 : 1000000 < r
    · rw [if_pos ((cmp_gt _ _).mpr h2), h.mpr (.inr h2)]; rfl
    · rw [if_neg (fun z => h2 ((cmp_gt _ _).mp z))]
      cases e : okL r
      · rcases h.mp e with z | z
        · exact absurd z h1
        · exact absurd z h2
      · rfl
theorem x_endFactor_39 (a : Int32) : m6_endFactor_39 n a r σ = if okL r = true then some (nI 1, uI (uI σ 15 r.toInt32) 16 zm) else some (nI 0, uI (uI (uI (uI σ 15 r.toInt32) 16 zm) 20 (nI 4)) 21 a) := by
  unfold m6_endFactor_39
  simp (disch := omega) only [ej_bi_s, ej_bl_s, ej_bv_s, ej_nm_e, ↓L_m1, L_0, L_1, L_2, L_3, L_4, L_5, L_6, L_7, L_8, L_9, L_10, L_11, L_12, L_13, L_14, L_15, L_16, L_17, L_18, L_19, L_20, L_21, L_22, L_23, L_24, L_31, L_32, L_33, L_35, L_37, L_40, L_41, L_42, L_43, L_44, L_45, L_46, L_47, L_48, L_57, L_58, L_59, L_61, L_63, L_64, L_65, L_90, L_95, L_96, L_97, L_122, L_123, L_125, L_200, L_255, L_300, L_500, L_576, L_600, L_601, L_602, L_1200, L_1800, L_2400, L_3000, L_4000, L_4096, L_5000, L_30000, L_50000, L_60000, L_70000, L_100000, L_200000, L_1000000, L_1000001, x_within, ibI, x_fail, if_true, if_false, ile_t, ile_f, ilt_t, ilt_f, ieq_t, ieq_f, ieq_m, ieq_m2, ieq_mm, ilt_m, ilt_m2, ile_m, ile_m2]
theorem x_endProduct_39 (a : Int32) : m6_endProduct_39 n a r σ = if okL r = true then some (nI 1, uI (uI σ 13 r.toInt32) 14 zm) else some (nI 0, uI (uI (uI (uI σ 13 r.toInt32) 14 zm) 20 (nI 4)) 21 a) := by
  unfold m6_endProduct_39
  simp (disch := omega) only [ej_bi_s, ej_bl_s, ej_bv_s, ej_nm_e, ↓L_m1, L_0, L_1, L_2, L_3, L_4, L_5, L_6, L_7, L_8, L_9, L_10, L_11, L_12, L_13, L_14, L_15, L_16, L_17, L_18, L_19, L_20, L_21, L_22, L_23, L_24, L_31, L_32, L_33, L_35, L_37, L_40, L_41, L_42, L_43, L_44, L_45, L_46, L_47, L_48, L_57, L_58, L_59, L_61, L_63, L_64, L_65, L_90, L_95, L_96, L_97, L_122, L_123, L_125, L_200, L_255, L_300, L_500, L_576, L_600, L_601, L_602, L_1200, L_1800, L_2400, L_3000, L_4000, L_4096, L_5000, L_30000, L_50000, L_60000, L_70000, L_100000, L_200000, L_1000000, L_1000001, x_within, ibI, x_fail, if_true, if_false, ile_t, ile_f, ilt_t, ilt_f, ieq_t, ieq_f, ieq_m, ieq_m2, ieq_mm, ilt_m, ilt_m2, ile_m, ile_m2]
theorem r_isWorked_64 (a : Int32) : m11_isWorked_64 n a r σ = if okL r = true then some (nI 1, uI σ 14 r.toInt32) else some (nI 0, uI (uI (uI σ 14 r.toInt32) 9 (nI 4)) 10 a) := by
  have h := okL_iff (r := r)
  unfold m11_isWorked_64
  rw [ej_nm_e]
  by_cases h2 : 1000000 < r
  · rw [if_pos ((cmp_gt _ _).mpr h2), h.mpr (.inr h2), r_fails]
    simp (disch := omega) only [ej_bi_s, ej_bl_s, ej_bv_s, ej_nm_e, ↓L_m1, L_0, L_1, L_2, L_3, L_4, L_5, L_6, L_7, L_8, L_9, L_10, L_11, L_12, L_13, L_14, L_15, L_16, L_17, L_18, L_19, L_20, L_21, L_22, L_23, L_24, L_31, L_32, L_33, L_35, L_37, L_40, L_41, L_42, L_43, L_44, L_45, L_46, L_47, L_48, L_57, L_58, L_59, L_61, L_63, L_64, L_65, L_90, L_95, L_96, L_97, L_122, L_123, L_125, L_200, L_255, L_300, L_500, L_576, L_600, L_601, L_602, L_1200, L_1800, L_2400, L_3000, L_4000, L_4096, L_5000, L_30000, L_50000, L_60000, L_70000, L_100000, L_200000, L_1000000, L_1000001, if_true, if_false, ile_t, ile_f, ilt_t, ilt_f, ieq_t, ieq_f, ieq_m, ieq_m2, ieq_mm, ilt_m, ilt_m2, ile_m, ile_m2, Bool.false_eq_true]
  · rw [if_neg (fun z => h2 ((cmp_gt _ _).mp z))]
    by_cases h1 : r < -1000000
    · rw [if_neg (fun z => absurd ((cmp_ge _ _).mp z) (by rw [Int64.le_iff_toInt_le]; rw [Int64.lt_iff_toInt_lt] at h1; omega)), h.mpr (.inl h1), r_fails]
      simp (disch := omega) only [ej_bi_s, ej_bl_s, ej_bv_s, ej_nm_e, ↓L_m1, L_0, L_1, L_2, L_3, L_4, L_5, L_6, L_7, L_8, L_9, L_10, L_11, L_12, L_13, L_14, L_15, L_16, L_17, L_18, L_19, L_20, L_21, L_22, L_23, L_24, L_31, L_32, L_33, L_35, L_37, L_40, L_41, L_42, L_43, L_44, L_45, L_46, L_47, L_48, L_57, L_58, L_59, L_61, L_63, L_64, L_65, L_90, L_95, L_96, L_97, L_122, L_123, L_125, L_200, L_255, L_300, L_500, L_576, L_600, L_601, L_602, L_1200, L_1800, L_2400, L_3000, L_4000, L_4096, L_5000, L_30000, L_50000, L_60000, L_70000, L_100000, L_200000, L_1000000, L_1000001, if_true, if_false, ile_t, ile_f, ilt_t, ilt_f, ieq_t, ieq_f, ieq_m, ieq_m2, ieq_mm, ilt_m, ilt_m2, ile_m, ile_m2, Bool.false_eq_true]
    · rw [if_pos ((cmp_ge _ _).mpr (by rw [Int64.le_iff_toInt_le]; rw [Int64.lt_iff_toInt_lt] at h1; omega))]
      cases e : okL r
      · rcases h.mp e with z | z
        · exact absurd z h1
        · exact absurd z h2
      · rfl
theorem r_isWorked {s : Nat} (hs : s = 42 ∨ s = 47 ∨ s = 43 ∨ s = 45) (hx : bd x) (a : Int32) : ∃ σ', m11_isWorked n (nI s) x y a σ = some (bI (okL (cmb s x y)), σ') ∧ fr [9, 10, 14] [] [] [] [] σ σ' ∧ (okL (cmb s x y) = true → gI σ' 14 = (cmb s x y).toInt32) ∧ (okL (cmb s x y) = false → gI σ' 9 = nI 4 ∧ gI σ' 10 = a) := by
  have key : ∀ r : Int64, r = cmb s x y → ∃ σ', m11_isWorked_64 n a r σ = some (bI (okL (cmb s x y)), σ') ∧ fr [9, 10, 14] [] [] [] [] σ σ' ∧ (okL (cmb s x y) = true → gI σ' 14 = (cmb s x y).toInt32) ∧ (okL (cmb s x y) = false → gI σ' 9 = nI 4 ∧ gI σ' 10 = a) := by
    intro r hr
    subst hr
    rw [r_isWorked_64]
    cases e : okL (cmb s x y)
    · refine ⟨_, rfl, fr_uI (fr_uI (fr_uI fr_rf (by simp)) (by simp)) (by simp), fun z => (by cases z), fun _ => ⟨?_, ?_⟩⟩
      · simp (disch := omega) only [s_IJ, s_IA, s_IB, s_IM, s_JI, s_JA, s_JB, s_JM, s_AI, s_AJ, s_AB, s_AM, s_BI, s_BJ, s_BA, s_BM, s_MI, s_MJ, s_MA, s_MB, s_II_s, s_II_n, s_JJ_s, s_JJ_n, s_AA_s, s_AA_n, s_BB_s, s_BB_n, s_MM_s, s_MM_n, pk_us, pk_un, pk_uLs, pk_uLn]
      · simp (disch := omega) only [s_IJ, s_IA, s_IB, s_IM, s_JI, s_JA, s_JB, s_JM, s_AI, s_AJ, s_AB, s_AM, s_BI, s_BJ, s_BA, s_BM, s_MI, s_MJ, s_MA, s_MB, s_II_s, s_II_n, s_JJ_s, s_JJ_n, s_AA_s, s_AA_n, s_BB_s, s_BB_n, s_MM_s, s_MM_n, pk_us, pk_un, pk_uLs, pk_uLn]
    · exact ⟨_, rfl, fr_uI fr_rf (by simp), fun _ => s_II_s, fun z => by cases z⟩
  rcases hs with h | h | h | h
  · subst h
    unfold m11_isWorked m11_isWorked_18
    simp (disch := omega) only [↓L_m1, L_0, L_1, L_2, L_3, L_4, L_5, L_6, L_7, L_8, L_9, L_10, L_11, L_12, L_13, L_14, L_15, L_16, L_17, L_18, L_19, L_20, L_21, L_22, L_23, L_24, L_31, L_32, L_33, L_35, L_37, L_40, L_41, L_42, L_43, L_44, L_45, L_46, L_47, L_48, L_57, L_58, L_59, L_61, L_63, L_64, L_65, L_90, L_95, L_96, L_97, L_122, L_123, L_125, L_200, L_255, L_300, L_500, L_576, L_600, L_601, L_602, L_1200, L_1800, L_2400, L_3000, L_4000, L_4096, L_5000, L_30000, L_50000, L_60000, L_70000, L_100000, L_200000, L_1000000, L_1000001, if_true, if_false, ile_t, ile_f, ilt_t, ilt_f, ieq_t, ieq_f, ieq_m, ieq_m2, ieq_mm, ilt_m, ilt_m2, ile_m, ile_m2]
    exact key _ rfl
  · subst h
    unfold m11_isWorked m11_isWorked_18
    simp (disch := omega) only [↓L_m1, L_0, L_1, L_2, L_3, L_4, L_5, L_6, L_7, L_8, L_9, L_10, L_11, L_12, L_13, L_14, L_15, L_16, L_17, L_18, L_19, L_20, L_21, L_22, L_23, L_24, L_31, L_32, L_33, L_35, L_37, L_40, L_41, L_42, L_43, L_44, L_45, L_46, L_47, L_48, L_57, L_58, L_59, L_61, L_63, L_64, L_65, L_90, L_95, L_96, L_97, L_122, L_123, L_125, L_200, L_255, L_300, L_500, L_576, L_600, L_601, L_602, L_1200, L_1800, L_2400, L_3000, L_4000, L_4096, L_5000, L_30000, L_50000, L_60000, L_70000, L_100000, L_200000, L_1000000, L_1000001, if_true, if_false, ile_t, ile_f, ilt_t, ilt_f, ieq_t, ieq_f, ieq_m, ieq_m2, ieq_mm, ilt_m, ilt_m2, ile_m, ile_m2]
    by_cases hy : y = 0
    · subst hy
      have e : okL (cmb 47 x 0) = false := by unfold cmb; rfl
      rw [← L_0, if_pos rfl, r_fails, e]
      refine ⟨_, by rw [ej_bi_s, bz_n0]; rfl, fr_uI (fr_uI fr_rf (by simp)) (by simp), fun z => (by cases z), fun _ => ⟨?_, ?_⟩⟩
      · simp (disch := omega) only [s_IJ, s_IA, s_IB, s_IM, s_JI, s_JA, s_JB, s_JM, s_AI, s_AJ, s_AB, s_AM, s_BI, s_BJ, s_BA, s_BM, s_MI, s_MJ, s_MA, s_MB, s_II_s, s_II_n, s_JJ_s, s_JJ_n, s_AA_s, s_AA_n, s_BB_s, s_BB_n, s_MM_s, s_MM_n, pk_us, pk_un, pk_uLs, pk_uLn]
      · simp (disch := omega) only [s_IJ, s_IA, s_IB, s_IM, s_JI, s_JA, s_JB, s_JM, s_AI, s_AJ, s_AB, s_AM, s_BI, s_BJ, s_BA, s_BM, s_MI, s_MJ, s_MA, s_MB, s_II_s, s_II_n, s_JJ_s, s_JJ_n, s_AA_s, s_AA_n, s_BB_s, s_BB_n, s_MM_s, s_MM_n, pk_us, pk_un, pk_uLs, pk_uLn]
    · rw [← L_0, if_neg hy]
      unfold ej_dv
      rw [if_neg hy]
      refine key _ ?_
      have hy2 : ¬ y.toInt64 = 0 := fun z => hy (by have := congrArg Int64.toInt32 z; rw [to64_32] at this; exact this)
      unfold cmb
      rw [if_neg (by omega), if_neg (by omega), if_neg (by omega), if_neg hy2]
      refine Int32.toInt64_div_of_ne_left _ _ (fun z => ?_)
      unfold bd at hx
      rw [z] at hx
      exact absurd hx.1 (by decide +kernel)
  · subst h
    unfold m11_isWorked m11_isWorked_18
    simp (disch := omega) only [↓L_m1, L_0, L_1, L_2, L_3, L_4, L_5, L_6, L_7, L_8, L_9, L_10, L_11, L_12, L_13, L_14, L_15, L_16, L_17, L_18, L_19, L_20, L_21, L_22, L_23, L_24, L_31, L_32, L_33, L_35, L_37, L_40, L_41, L_42, L_43, L_44, L_45, L_46, L_47, L_48, L_57, L_58, L_59, L_61, L_63, L_64, L_65, L_90, L_95, L_96, L_97, L_122, L_123, L_125, L_200, L_255, L_300, L_500, L_576, L_600, L_601, L_602, L_1200, L_1800, L_2400, L_3000, L_4000, L_4096, L_5000, L_30000, L_50000, L_60000, L_70000, L_100000, L_200000, L_1000000, L_1000001, if_true, if_false, ile_t, ile_f, ilt_t, ilt_f, ieq_t, ieq_f, ieq_m, ieq_m2, ieq_mm, ilt_m, ilt_m2, ile_m, ile_m2]
    exact key _ rfl
  · subst h
    unfold m11_isWorked m11_isWorked_18
    simp (disch := omega) only [↓L_m1, L_0, L_1, L_2, L_3, L_4, L_5, L_6, L_7, L_8, L_9, L_10, L_11, L_12, L_13, L_14, L_15, L_16, L_17, L_18, L_19, L_20, L_21, L_22, L_23, L_24, L_31, L_32, L_33, L_35, L_37, L_40, L_41, L_42, L_43, L_44, L_45, L_46, L_47, L_48, L_57, L_58, L_59, L_61, L_63, L_64, L_65, L_90, L_95, L_96, L_97, L_122, L_123, L_125, L_200, L_255, L_300, L_500, L_576, L_600, L_601, L_602, L_1200, L_1800, L_2400, L_3000, L_4000, L_4096, L_5000, L_30000, L_50000, L_60000, L_70000, L_100000, L_200000, L_1000000, L_1000001, if_true, if_false, ile_t, ile_f, ilt_t, ilt_f, ieq_t, ieq_f, ieq_m, ieq_m2, ieq_mm, ilt_m, ilt_m2, ile_m, ile_m2]
    exact key _ rfl
end P58a
/-- an open sign: class: token, what stands left; reference: code, what stands left, place -/
def SGN (l : List Nat) (k1 k2 : Nat) (sg v ro rv ra : Int32) : Prop := (sg = zm ∧ ro = nI 0) ∨ ∃ j s, j ≤ 600 ∧ sg = nI j ∧ s = sr l (bg l j) ∧ (s = k1 ∨ s = k2) ∧ ro = nI s ∧ ra = nI (bg l j) ∧ rv = v ∧ bd v
section P58b
variable {n f c i L : Nat} {σc σr : ej_S} {l : List Nat}
theorem s_endFactor (hc : TK σc l) (hL : gI σr 13 = nI L) (hLb : L < 602) (hsg : SGN l 42 47 (gI σc 16) (gI σc 15) (gA σr 9 L) (gA σr 8 L) (gA σr 10 L)) (hv : gI σc 17 = gI σr 14) (hb : bd (gI σc 17)) : ∃ ok σc' σr', m6_endFactor n σc = some (bI ok, σc') ∧ (∀ k3, m11_closes_0 n (k3 + 1) σr = if ok = true then m11_closes_52 n (m11_closes_0 n k3) σr' else some (nI 2, σr')) ∧ fr [15, 16, 20, 21] [] [] [] [] σc σc' ∧ fr [9, 10, 14] [] [] [] [] σr σr' ∧ (ok = true → gI σc' 15 = gI σr' 14 ∧ bd (gI σc' 15) ∧ gI σc' 16 = zm) ∧ (ok = false → FS σc' σr' l) := by
  rcases hsg with ⟨h1, h2⟩ | ⟨j, s, h0, h1, h2, h3, h4, h5, h6, h7⟩
  · refine ⟨true, uI (uI σc 15 (gI σc 17)) 16 zm, σr, ?_, ?_, fr_uI (fr_uI fr_rf (by simp)) (by simp), fr_rf, fun _ => ⟨?_, ?_, s_II_s⟩, fun z => by cases z⟩
    · unfold m6_endFactor
      rw [ej_nm_e, h1, L_m1, if_pos rfl, x_endFactor_39, if_pos (bd_okL hb), to64_32]; rfl
    · intro k3
      rw [u_11_closes_0, hL]
      simp (disch := omega) only [ck_t, nI_clamp, nI_add, pk_mul, nI_m1, pk_sub, h2, ↓L_m1, L_0, L_1, L_2, L_3, L_4, L_5, L_6, L_7, L_8, L_9, L_10, L_11, L_12, L_13, L_14, L_15, L_16, L_17, L_18, L_19, L_20, L_21, L_22, L_23, L_24, L_31, L_32, L_33, L_35, L_37, L_40, L_41, L_42, L_43, L_44, L_45, L_46, L_47, L_48, L_57, L_58, L_59, L_61, L_63, L_64, L_65, L_90, L_95, L_96, L_97, L_122, L_123, L_125, L_200, L_255, L_300, L_500, L_576, L_600, L_601, L_602, L_1200, L_1800, L_2400, L_3000, L_4000, L_4096, L_5000, L_30000, L_50000, L_60000, L_70000, L_100000, L_200000, L_1000000, L_1000001, if_true, if_false, ile_t, ile_f, ilt_t, ilt_f, ieq_t, ieq_f, ieq_m, ieq_m2, ieq_mm, ilt_m, ilt_m2, ile_m, ile_m2]
    · simp (disch := omega) only [s_IJ, s_IA, s_IB, s_IM, s_JI, s_JA, s_JB, s_JM, s_AI, s_AJ, s_AB, s_AM, s_BI, s_BJ, s_BA, s_BM, s_MI, s_MJ, s_MA, s_MB, s_II_s, s_II_n, s_JJ_s, s_JJ_n, s_AA_s, s_AA_n, s_BB_s, s_BB_n, s_MM_s, s_MM_n, pk_us, pk_un, pk_uLs, pk_uLn]; exact hv
    · simp (disch := omega) only [s_IJ, s_IA, s_IB, s_IM, s_JI, s_JA, s_JB, s_JM, s_AI, s_AJ, s_AB, s_AM, s_BI, s_BJ, s_BA, s_BM, s_MI, s_MJ, s_MA, s_MB, s_II_s, s_II_n, s_JJ_s, s_JJ_n, s_AA_s, s_AA_n, s_BB_s, s_BB_n, s_MM_s, s_MM_n, pk_us, pk_un, pk_uLs, pk_uLn]; exact hb
  · have hs : s = 42 ∨ s = 47 ∨ s = 43 ∨ s = 45 := by omega
    have hs128 : s < 128 := by omega
    obtain ⟨σr', e1, f1, g1, g2⟩ := r_isWorked (n := n) (σ := σr) (x := gI σc 15) (y := gI σr 14) hs h7 (nI (bg l j))
    have e0 : m6_endFactor n σc = m6_endFactor_39 n (nI j) (cmb s (gI σc 15) (gI σr 14)) σc := by
      unfold m6_endFactor
      rw [ej_nm_e, h1, L_m1, if_neg (zm_ne (by omega)), x_sortAt hc (by omega), ej_bi_s, ← h2, hv, x_combine hs128]; rfl
    have e2 : ∀ k3, m11_closes_0 n (k3 + 1) σr = if okL (cmb s (gI σc 15) (gI σr 14)) = true then m11_closes_52 n (m11_closes_0 n k3) σr' else some (nI 2, σr') := by
      intro k3
      rw [u_11_closes_0, hL]
      simp (disch := omega) only [ck_t, nI_clamp, nI_add, pk_mul, nI_m1, pk_sub, h4, h5, h6, ↓L_m1, L_0, L_1, L_2, L_3, L_4, L_5, L_6, L_7, L_8, L_9, L_10, L_11, L_12, L_13, L_14, L_15, L_16, L_17, L_18, L_19, L_20, L_21, L_22, L_23, L_24, L_31, L_32, L_33, L_35, L_37, L_40, L_41, L_42, L_43, L_44, L_45, L_46, L_47, L_48, L_57, L_58, L_59, L_61, L_63, L_64, L_65, L_90, L_95, L_96, L_97, L_122, L_123, L_125, L_200, L_255, L_300, L_500, L_576, L_600, L_601, L_602, L_1200, L_1800, L_2400, L_3000, L_4000, L_4096, L_5000, L_30000, L_50000, L_60000, L_70000, L_100000, L_200000, L_1000000, L_1000001, if_true, if_false, ile_t, ile_f, ilt_t, ilt_f, ieq_t, ieq_f, ieq_m, ieq_m2, ieq_mm, ilt_m, ilt_m2, ile_m, ile_m2, e1, ej_bi_s, ej_bl_s, ej_bv_s, ej_nm_e, ibI]
    rw [x_endFactor_39] at e0
    generalize hr : cmb s (gI σc 15) (gI σr 14) = r at *
    cases eo : okL r
    · rw [eo] at e0 e2
      refine ⟨false, _, σr', e0, e2, fr_uI (fr_uI (fr_uI (fr_uI fr_rf (by simp)) (by simp)) (by simp)) (by simp), f1, fun z => (by cases z), fun _ => ⟨j, 4, ?_, (g2 eo).1, ?_, (g2 eo).2, by omega⟩⟩
      · simp (disch := omega) only [s_IJ, s_IA, s_IB, s_IM, s_JI, s_JA, s_JB, s_JM, s_AI, s_AJ, s_AB, s_AM, s_BI, s_BJ, s_BA, s_BM, s_MI, s_MJ, s_MA, s_MB, s_II_s, s_II_n, s_JJ_s, s_JJ_n, s_AA_s, s_AA_n, s_BB_s, s_BB_n, s_MM_s, s_MM_n, pk_us, pk_un, pk_uLs, pk_uLn]
      · simp (disch := omega) only [s_IJ, s_IA, s_IB, s_IM, s_JI, s_JA, s_JB, s_JM, s_AI, s_AJ, s_AB, s_AM, s_BI, s_BJ, s_BA, s_BM, s_MI, s_MJ, s_MA, s_MB, s_II_s, s_II_n, s_JJ_s, s_JJ_n, s_AA_s, s_AA_n, s_BB_s, s_BB_n, s_MM_s, s_MM_n, pk_us, pk_un, pk_uLs, pk_uLn]
    · rw [eo] at e0 e2
      refine ⟨true, _, σr', e0, e2, fr_uI (fr_uI fr_rf (by simp)) (by simp), f1, fun _ => ⟨?_, ?_, s_II_s⟩, fun z => by cases z⟩
      · simp (disch := omega) only [s_IJ, s_IA, s_IB, s_IM, s_JI, s_JA, s_JB, s_JM, s_AI, s_AJ, s_AB, s_AM, s_BI, s_BJ, s_BA, s_BM, s_MI, s_MJ, s_MA, s_MB, s_II_s, s_II_n, s_JJ_s, s_JJ_n, s_AA_s, s_AA_n, s_BB_s, s_BB_n, s_MM_s, s_MM_n, pk_us, pk_un, pk_uLs, pk_uLn]; exact (g1 eo).symm
      · simp (disch := omega) only [s_IJ, s_IA, s_IB, s_IM, s_JI, s_JA, s_JB, s_JM, s_AI, s_AJ, s_AB, s_AM, s_BI, s_BJ, s_BA, s_BM, s_MI, s_MJ, s_MA, s_MB, s_II_s, s_II_n, s_JJ_s, s_JJ_n, s_AA_s, s_AA_n, s_BB_s, s_BB_n, s_MM_s, s_MM_n, pk_us, pk_un, pk_uLs, pk_uLn]; exact okL_bd eo
theorem s_endProduct (hc : TK σc l) (hL : gI σr 13 = nI L) (hLb : L < 602) (hsg : SGN l 43 45 (gI σc 14) (gI σc 13) (gA σr 6 L) (gA σr 5 L) (gA σr 7 L)) (hv : gI σc 15 = gI σr 14) (hb : bd (gI σc 15)) (h42 : ¬ gI σr 2 = nI 42) (h47 : ¬ gI σr 2 = nI 47) (f0 : ej_S → Option (Int32 × ej_S)) : ∃ ok σc' σr', m6_endProduct n σc = some (bI ok, σc') ∧ (m11_closes_52 n f0 σr = if ok = true then m11_closes_167 n f0 σr' else some (nI 2, σr')) ∧ fr [13, 14, 20, 21] [] [] [] [] σc σc' ∧ fr [9, 10, 14] [] [] [] [] σr σr' ∧ (ok = true → gI σc' 13 = gI σr' 14 ∧ bd (gI σc' 13) ∧ gI σc' 14 = zm) ∧ (ok = false → FS σc' σr' l) := by
  rcases hsg with ⟨h1, h2⟩ | ⟨j, s, h0, h1, h2, h3, h4, h5, h6, h7⟩
  · refine ⟨true, uI (uI σc 13 (gI σc 15)) 14 zm, σr, ?_, ?_, fr_uI (fr_uI fr_rf (by simp)) (by simp), fr_rf, fun _ => ⟨?_, ?_, s_II_s⟩, fun z => by cases z⟩
    · unfold m6_endProduct
      rw [ej_nm_e, h1, L_m1, if_pos rfl, x_endProduct_39, if_pos (bd_okL hb), to64_32]; rfl
    · unfold m11_closes_52
      rw [L_42, L_47, if_neg h42, if_neg h47, hL]
      simp (disch := omega) only [ck_t, nI_clamp, nI_add, pk_mul, nI_m1, pk_sub, h2, ↓L_m1, L_0, L_1, L_2, L_3, L_4, L_5, L_6, L_7, L_8, L_9, L_10, L_11, L_12, L_13, L_14, L_15, L_16, L_17, L_18, L_19, L_20, L_21, L_22, L_23, L_24, L_31, L_32, L_33, L_35, L_37, L_40, L_41, L_42, L_43, L_44, L_45, L_46, L_47, L_48, L_57, L_58, L_59, L_61, L_63, L_64, L_65, L_90, L_95, L_96, L_97, L_122, L_123, L_125, L_200, L_255, L_300, L_500, L_576, L_600, L_601, L_602, L_1200, L_1800, L_2400, L_3000, L_4000, L_4096, L_5000, L_30000, L_50000, L_60000, L_70000, L_100000, L_200000, L_1000000, L_1000001, if_true, if_false, ile_t, ile_f, ilt_t, ilt_f, ieq_t, ieq_f, ieq_m, ieq_m2, ieq_mm, ilt_m, ilt_m2, ile_m, ile_m2]
    · simp (disch := omega) only [s_IJ, s_IA, s_IB, s_IM, s_JI, s_JA, s_JB, s_JM, s_AI, s_AJ, s_AB, s_AM, s_BI, s_BJ, s_BA, s_BM, s_MI, s_MJ, s_MA, s_MB, s_II_s, s_II_n, s_JJ_s, s_JJ_n, s_AA_s, s_AA_n, s_BB_s, s_BB_n, s_MM_s, s_MM_n, pk_us, pk_un, pk_uLs, pk_uLn]; exact hv
    · simp (disch := omega) only [s_IJ, s_IA, s_IB, s_IM, s_JI, s_JA, s_JB, s_JM, s_AI, s_AJ, s_AB, s_AM, s_BI, s_BJ, s_BA, s_BM, s_MI, s_MJ, s_MA, s_MB, s_II_s, s_II_n, s_JJ_s, s_JJ_n, s_AA_s, s_AA_n, s_BB_s, s_BB_n, s_MM_s, s_MM_n, pk_us, pk_un, pk_uLs, pk_uLn]; exact hb
  · have hs : s = 42 ∨ s = 47 ∨ s = 43 ∨ s = 45 := by omega
    have hs128 : s < 128 := by omega
    obtain ⟨σr', e1, f1, g1, g2⟩ := r_isWorked (n := n) (σ := σr) (x := gI σc 13) (y := gI σr 14) hs h7 (nI (bg l j))
    have e0 : m6_endProduct n σc = m6_endProduct_39 n (nI j) (cmb s (gI σc 13) (gI σr 14)) σc := by
      unfold m6_endProduct
      rw [ej_nm_e, h1, L_m1, if_neg (zm_ne (by omega)), x_sortAt hc (by omega), ej_bi_s, ← h2, hv, x_combine hs128]; rfl
    have e2 : m11_closes_52 n f0 σr = if okL (cmb s (gI σc 13) (gI σr 14)) = true then m11_closes_167 n f0 σr' else some (nI 2, σr') := by
      unfold m11_closes_52
      rw [L_42, L_47, if_neg h42, if_neg h47, hL]
      simp (disch := omega) only [ck_t, nI_clamp, nI_add, pk_mul, nI_m1, pk_sub, h4, h5, h6, ↓L_m1, L_0, L_1, L_2, L_3, L_4, L_5, L_6, L_7, L_8, L_9, L_10, L_11, L_12, L_13, L_14, L_15, L_16, L_17, L_18, L_19, L_20, L_21, L_22, L_23, L_24, L_31, L_32, L_33, L_35, L_37, L_40, L_41, L_42, L_43, L_44, L_45, L_46, L_47, L_48, L_57, L_58, L_59, L_61, L_63, L_64, L_65, L_90, L_95, L_96, L_97, L_122, L_123, L_125, L_200, L_255, L_300, L_500, L_576, L_600, L_601, L_602, L_1200, L_1800, L_2400, L_3000, L_4000, L_4096, L_5000, L_30000, L_50000, L_60000, L_70000, L_100000, L_200000, L_1000000, L_1000001, if_true, if_false, ile_t, ile_f, ilt_t, ilt_f, ieq_t, ieq_f, ieq_m, ieq_m2, ieq_mm, ilt_m, ilt_m2, ile_m, ile_m2, e1, ej_bi_s, ej_bl_s, ej_bv_s, ej_nm_e, ibI]
    rw [x_endProduct_39] at e0
    generalize hr : cmb s (gI σc 13) (gI σr 14) = r at *
    cases eo : okL r
    · rw [eo] at e0 e2
      refine ⟨false, _, σr', e0, e2, fr_uI (fr_uI (fr_uI (fr_uI fr_rf (by simp)) (by simp)) (by simp)) (by simp), f1, fun z => (by cases z), fun _ => ⟨j, 4, ?_, (g2 eo).1, ?_, (g2 eo).2, by omega⟩⟩
      · simp (disch := omega) only [s_IJ, s_IA, s_IB, s_IM, s_JI, s_JA, s_JB, s_JM, s_AI, s_AJ, s_AB, s_AM, s_BI, s_BJ, s_BA, s_BM, s_MI, s_MJ, s_MA, s_MB, s_II_s, s_II_n, s_JJ_s, s_JJ_n, s_AA_s, s_AA_n, s_BB_s, s_BB_n, s_MM_s, s_MM_n, pk_us, pk_un, pk_uLs, pk_uLn]
      · simp (disch := omega) only [s_IJ, s_IA, s_IB, s_IM, s_JI, s_JA, s_JB, s_JM, s_AI, s_AJ, s_AB, s_AM, s_BI, s_BJ, s_BA, s_BM, s_MI, s_MJ, s_MA, s_MB, s_II_s, s_II_n, s_JJ_s, s_JJ_n, s_AA_s, s_AA_n, s_BB_s, s_BB_n, s_MM_s, s_MM_n, pk_us, pk_un, pk_uLs, pk_uLn]
    · rw [eo] at e0 e2
      refine ⟨true, _, σr', e0, e2, fr_uI (fr_uI fr_rf (by simp)) (by simp), f1, fun _ => ⟨?_, ?_, s_II_s⟩, fun z => by cases z⟩
      · simp (disch := omega) only [s_IJ, s_IA, s_IB, s_IM, s_JI, s_JA, s_JB, s_JM, s_AI, s_AJ, s_AB, s_AM, s_BI, s_BJ, s_BA, s_BM, s_MI, s_MJ, s_MA, s_MB, s_II_s, s_II_n, s_JJ_s, s_JJ_n, s_AA_s, s_AA_n, s_BB_s, s_BB_n, s_MM_s, s_MM_n, pk_us, pk_un, pk_uLs, pk_uLn]; exact (g1 eo).symm
      · simp (disch := omega) only [s_IJ, s_IA, s_IB, s_IM, s_JI, s_JA, s_JB, s_JM, s_AI, s_AJ, s_AB, s_AM, s_BI, s_BJ, s_BA, s_BM, s_MI, s_MJ, s_MA, s_MB, s_II_s, s_II_n, s_JJ_s, s_JJ_n, s_AA_s, s_AA_n, s_BB_s, s_BB_n, s_MM_s, s_MM_n, pk_us, pk_un, pk_uLs, pk_uLn]; exact okL_bd eo
end P58b
