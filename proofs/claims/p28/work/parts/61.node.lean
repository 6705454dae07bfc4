/-! THE MAP, IN BOTH: nodes -/
def NN (σ : ej_S) : Nat := (gI σ 15).toNatClampNeg
def isDm (v : Int64) : Prop := v &&& 255 = 46
def rNam (N : Nat) (X Y : Nat → Int64) : Prop := ∀ a, a < N → X a = Y a
def rOwn (N : Nat) (X Y : Nat → Int32) : Prop := ∀ a, a < N → X a = Y a
def rDom (N : Nat) (d : Int32) (Y : Nat → Int64) : Prop := ∀ a, a < 24 → (bt d a = true ↔ a < N ∧ isDm (Y a))
def rBit (x : Int32) (R : Nat → Int32) : Prop := ∀ a, a < 24 → (bt x a = true ↔ R a ≠ nI 0)
def rAli (A R : Nat → Int32) : Prop := ∀ a b, a < 24 → b < 24 → (bt (A a) b = true ↔ R (24 * a + b) ≠ nI 0)
def rLnk (A T : Nat → Int32) (P : Nat → Nat → Int32) (R Q : Nat → Int32) : Prop := ∀ a b, a < 24 → b < 24 → (bt (A a) b = true ↔ R (24 * a + b) ≠ zm) ∧ (R (24 * a + b) ≠ zm → P a b = R (24 * a + b) ∧ (bt (T a) b = true ↔ Q (24 * a + b) ≠ nI 0))
def rMem (A : Nat → Int32) (P : Nat → Nat → Int32) (R : Nat → Int32) : Prop := ∀ a b, a < 24 → b < 24 → (bt (A a) b = true ↔ R (24 * b + a) ≠ zm) ∧ (R (24 * b + a) ≠ zm → P a b = R (24 * b + a))
def relC (σc σr : ej_S) : Prop := gI σc 22 = gI σr 15 ∧ gI σc 23 = nI 0 ∧ rNam (NN σr) (gB σc 1) (gB σr 1) ∧ rOwn (NN σr) (gA σc 18) (gA σr 11) ∧ rDom (NN σr) (gI σc 24) (gB σr 1) ∧ rBit (gI σc 25) (gA σr 12) ∧ rBit (gI σc 26) (gA σr 13) ∧ rBit (gI σc 27) (gA σr 15) ∧ rBit (gI σc 28) (gA σr 14) ∧ rAli (gA σc 19) (gA σr 19) ∧ rLnk (gA σc 20) (gA σc 21) (gM σc 0) (gA σr 16) (gA σr 17) ∧ rAli (gA σc 22) (gA σr 18) ∧ rMem (gA σc 23) (gM σc 1) (gA σr 20)
def wNam (N : Nat) (Y : Nat → Int64) : Prop := ∀ a, a < N → isNm (Y a)
def wOwn (N : Nat) (O : Nat → Int32) : Prop := ∀ a, a < N → O a = zm ∨ ∃ f, f < 4 ∧ O a = nI f
def wUni (N : Nat) (Y : Nat → Int64) (O : Nat → Int32) : Prop := ∀ a b, a < b → b < N → ¬ (Y a = Y b ∧ O a = O b)
def wPr (R : Nat → Int32) : Prop := ∀ x, x < 576 → R x = zm ∨ ∃ p, p ≤ 1000000 ∧ R x = nI p
def wLim (N : Nat) (R : Nat → Int32) (d : Int32) : Prop := ∀ a b, a < 24 → b < 24 → (N ≤ a ∨ N ≤ b ∨ a = b) → R (24 * a + b) = d
/-- what has members is told to have some -/
def wMN (H R : Nat → Int32) : Prop := ∀ a m, a < 24 → m < 24 → R (24 * m + a) ≠ zm → H a ≠ nI 0
def wfR (σ : ej_S) : Prop := ∃ N, N ≤ 24 ∧ gI σ 15 = nI N ∧ (gI σ 16 = nI 0 ∨ gI σ 16 = nI 1) ∧ wNam N (gB σ 1) ∧ wOwn N (gA σ 11) ∧ wUni N (gB σ 1) (gA σ 11) ∧ wPr (gA σ 16) ∧ wPr (gA σ 20) ∧ wLim N (gA σ 16) zm ∧ wLim N (gA σ 19) (nI 0) ∧ wLim N (gA σ 20) zm ∧ wMN (gA σ 12) (gA σ 20)
def MR (b : Bool) (σc σr : ej_S) : Prop := wfC σc ∧ (b = true → wfR σr ∧ (gI σr 16 = nI 0 → relC σc σr) ∧ (gI σr 16 = nI 1 → gI σc 23 = nI 1 ∧ gI σc 22 = nI 24 ∧ gI σr 15 = nI 24))
def NR (b : Bool) (x y : Int32) (σr : ej_S) : Prop := ND x ∧ ∃ a, a < 24 ∧ y = nI a ∧ (b = true → a < NN σr ∧ (gI σr 16 = nI 0 → x = y))
def mono (σ σ' : ej_S) : Prop := NN σ ≤ NN σ' ∧ (gI σ' 16 = nI 0 → gI σ 16 = nI 0)
theorem mono_rf {σ : ej_S} : mono σ σ := ⟨Nat.le_refl _, fun h => h⟩
theorem mono_tr {σ s t : ej_S} (h : mono σ s) (g : mono s t) : mono σ t := ⟨Nat.le_trans h.1 g.1, fun z => h.2 (g.2 z)⟩
theorem mono_fr {I J A B M : List Nat} {σ s : ej_S} (f : fr I J A B M σ s) (h1 : 15 ∉ I) (h2 : 16 ∉ I) : mono σ s := by
  unfold mono NN; rw [f.1 15 h1, f.1 16 h2]; exact ⟨Nat.le_refl _, fun h => h⟩
theorem NR_mono {b : Bool} {x y : Int32} {σ s : ej_S} (h : NR b x y σ) (m : mono σ s) : NR b x y s := by
  obtain ⟨h1, a, h2, h3, h4⟩ := h
  exact ⟨h1, a, h2, h3, fun z => ⟨Nat.lt_of_lt_of_le (h4 z).1 m.1, fun q => (h4 z).2 (m.2 q)⟩⟩
theorem NN_eq {σ : ej_S} {N : Nat} (h : gI σ 15 = nI N) (hN : N ≤ 24) : NN σ = N := by unfold NN; rw [h]; exact nI_clamp (by omega)
theorem NN_le {σ : ej_S} (h : wfR σ) : NN σ ≤ 24 := by
  obtain ⟨N, h1, h2, _⟩ := h
  rw [NN_eq h2 h1]; exact h1
/-- what of the class the map lies in -/
theorem MR_fr {b : Bool} {σc σr σc' σr' : ej_S} {I J A B M I' J' A' B' M' : List Nat} (h : MR b σc σr) (p : fr I J A B M σc σc') (q : fr I' J' A' B' M' σr σr') (i1 : 22 ∉ I) (i2 : 23 ∉ I) (i3 : 24 ∉ I) (i4 : 25 ∉ I) (i5 : 26 ∉ I) (i6 : 27 ∉ I) (i7 : 28 ∉ I) (a1 : 18 ∉ A) (a2 : 19 ∉ A) (a3 : 20 ∉ A) (a4 : 21 ∉ A) (a5 : 22 ∉ A) (a6 : 23 ∉ A) (b1 : 1 ∉ B) (m0 : 0 ∉ M) (m1 : 1 ∉ M) (j1 : 15 ∉ I') (j2 : 16 ∉ I') (c1 : 11 ∉ A') (c2 : 12 ∉ A') (c3 : 13 ∉ A') (c4 : 14 ∉ A') (c5 : 15 ∉ A') (c6 : 16 ∉ A') (c7 : 17 ∉ A') (c8 : 18 ∉ A') (c9 : 19 ∉ A') (c10 : 20 ∉ A') (d1 : 1 ∉ B') : MR b σc' σr' := by
  unfold MR wfC wfR relC NN at *
  rw [p.1 22 i1, p.1 23 i2, p.1 24 i3, p.1 25 i4, p.1 26 i5, p.1 27 i6, p.1 28 i7, p.2.2.1 18 a1, p.2.2.1 19 a2, p.2.2.1 20 a3, p.2.2.1 21 a4, p.2.2.1 22 a5, p.2.2.1 23 a6, p.2.2.2.1 1 b1, p.2.2.2.2 0 m0, p.2.2.2.2 1 m1, q.1 15 j1, q.1 16 j2, q.2.2.1 11 c1, q.2.2.1 12 c2, q.2.2.1 13 c3, q.2.2.1 14 c4, q.2.2.1 15 c5, q.2.2.1 16 c6, q.2.2.1 17 c7, q.2.2.1 18 c8, q.2.2.1 19 c9, q.2.2.1 20 c10, q.2.2.2.1 1 d1]
  exact h
theorem isDm_lN {x : Nat} (hx : x < 2 ^ 63) : isDm (lN x) ↔ x % 256 = 46 := by
  unfold isDm
  rw [show (255 : Int64) = lN (2 ^ 8 - 1) from rfl, wb_mask (by omega) (by omega), show (46 : Int64) = lN 46 from rfl, fb_lN_inj (by omega) (by omega)]
section P61
variable {n N f : Nat} {σ σc σr : ej_S} {v : Int64}
theorem x_nameByte0 (hv : isNm v) : ∃ c, c < 256 ∧ m10_nameByte n v 0 σ = some (nI c, σ) ∧ (c = 46 ↔ isDm v) := by
  obtain ⟨ds, rfl, h1, h2, h3⟩ := hv
  have hlt := pkL_7 ds (fun d hd => (isNP_rg (h3 d hd)).2) h2
  refine ⟨pkL ds % 256, Nat.mod_lt _ (by omega), ?_, ?_⟩
  · rw [L_0, x_nameByte (by omega) (by omega), Nat.pow_zero, Nat.div_one]
  · rw [isDm_lN hlt]
/-- a new node of the class -/
theorem x_make (hv : isNm v) (h : gI σ 22 = nI N) (hN : N < 24) (asP : Bool) (o : Int32) : ∃ σ', m0_nodeFor_32 n v o (bI asP) zm σ = some (nI N, σ') ∧ fr [22, 24] [] [18] [1] [] σ σ' ∧ gI σ' 22 = nI (N + 1) ∧ gB σ' 1 = vp_updL (gB σ 1) N v ∧ gA σ' 18 = upd (gA σ 18) N (if asP then o else zm) ∧ (∀ a, a < 24 → (bt (gI σ' 24) a = true ↔ bt (gI σ 24) a = true ∨ (a = N ∧ isDm v))) := by
  have key : ∀ w, ∃ σ', m0_nodeFor_94 n v w (nI N) (uB σ 1 N v) = some (nI N, σ') ∧ fr [22, 24] [] [18] [1] [] σ σ' ∧ gI σ' 22 = nI (N + 1) ∧ gB σ' 1 = vp_updL (gB σ 1) N v ∧ gA σ' 18 = upd (gA σ 18) N w ∧ (∀ a, a < 24 → (bt (gI σ' 24) a = true ↔ bt (gI σ 24) a = true ∨ (a = N ∧ isDm v))) := by
    intro w
    obtain ⟨c, hc, e1, e2⟩ := x_nameByte0 (n := n) (σ := uA (uB σ 1 N v) 18 N w) hv
    unfold m0_nodeFor_94 m0_nodeFor_121
    simp (disch := omega) only [ck_t, nI_clamp, ej_bi_s, ej_bl_s, ej_bv_s, ej_nm_e, e1, L_46]
    by_cases g : c = 46
    · refine ⟨uI (uI (uA (uB σ 1 N v) 18 N w) 24 (gI σ 24 ||| stb N)) 22 (nI (N + 1)), ?_, fr_uI (fr_uI (fr_uA (fr_uB fr_rf (by simp)) (by simp)) (by simp)) (by simp), ?_, ?_, ?_, ?_⟩
      · simp (disch := omega) only [ieq_t, s_IJ, s_IA, s_IB, s_IM, s_JI, s_JA, s_JB, s_JM, s_AI, s_AJ, s_AB, s_AM, s_BI, s_BJ, s_BA, s_BM, s_MI, s_MJ, s_MA, s_MB, s_II_s, s_II_n, s_JJ_s, s_JJ_n, s_AA_s, s_AA_n, s_BB_s, s_BB_n, s_MM_s, s_MM_n, pk_us, pk_un, pk_uLs, pk_uLn, h, x_setOf, ej_bi_s, ej_bl_s, ej_bv_s, ej_nm_e, L_1, nI_add, nI_m2, Nat.add_sub_cancel]
      · simp (disch := omega) only [s_IJ, s_IA, s_IB, s_IM, s_JI, s_JA, s_JB, s_JM, s_AI, s_AJ, s_AB, s_AM, s_BI, s_BJ, s_BA, s_BM, s_MI, s_MJ, s_MA, s_MB, s_II_s, s_II_n, s_JJ_s, s_JJ_n, s_AA_s, s_AA_n, s_BB_s, s_BB_n, s_MM_s, s_MM_n, pk_us, pk_un, pk_uLs, pk_uLn]
      · simp (disch := omega) only [s_IJ, s_IA, s_IB, s_IM, s_JI, s_JA, s_JB, s_JM, s_AI, s_AJ, s_AB, s_AM, s_BI, s_BJ, s_BA, s_BM, s_MI, s_MJ, s_MA, s_MB, s_II_s, s_II_n, s_JJ_s, s_JJ_n, s_AA_s, s_AA_n, s_BB_s, s_BB_n, s_MM_s, s_MM_n, pk_us, pk_un, pk_uLs, pk_uLn]
      · simp (disch := omega) only [s_IJ, s_IA, s_IB, s_IM, s_JI, s_JA, s_JB, s_JM, s_AI, s_AJ, s_AB, s_AM, s_BI, s_BJ, s_BA, s_BM, s_MI, s_MJ, s_MA, s_MB, s_II_s, s_II_n, s_JJ_s, s_JJ_n, s_AA_s, s_AA_n, s_BB_s, s_BB_n, s_MM_s, s_MM_n, pk_us, pk_un, pk_uLs, pk_uLn]
      · intro a ha
        simp (disch := omega) only [s_IJ, s_IA, s_IB, s_IM, s_JI, s_JA, s_JB, s_JM, s_AI, s_AJ, s_AB, s_AM, s_BI, s_BJ, s_BA, s_BM, s_MI, s_MJ, s_MA, s_MB, s_II_s, s_II_n, s_JJ_s, s_JJ_n, s_AA_s, s_AA_n, s_BB_s, s_BB_n, s_MM_s, s_MM_n, pk_us, pk_un, pk_uLs, pk_uLn]
        rw [bt_or _ (by omega) (by omega), Bool.or_eq_true, decide_eq_true_eq]
        have := e2.mp g
        simp [this]
    · refine ⟨uI (uA (uB σ 1 N v) 18 N w) 22 (nI (N + 1)), ?_, fr_uI (fr_uA (fr_uB fr_rf (by simp)) (by simp)) (by simp), ?_, ?_, ?_, ?_⟩
      · simp (disch := omega) only [ieq_f, s_IJ, s_IA, s_IB, s_IM, s_JI, s_JA, s_JB, s_JM, s_AI, s_AJ, s_AB, s_AM, s_BI, s_BJ, s_BA, s_BM, s_MI, s_MJ, s_MA, s_MB, s_II_s, s_II_n, s_JJ_s, s_JJ_n, s_AA_s, s_AA_n, s_BB_s, s_BB_n, s_MM_s, s_MM_n, pk_us, pk_un, pk_uLs, pk_uLn, h, ej_bi_s, ej_bl_s, ej_bv_s, ej_nm_e, L_1, nI_add, nI_m2, Nat.add_sub_cancel]
      · simp (disch := omega) only [s_IJ, s_IA, s_IB, s_IM, s_JI, s_JA, s_JB, s_JM, s_AI, s_AJ, s_AB, s_AM, s_BI, s_BJ, s_BA, s_BM, s_MI, s_MJ, s_MA, s_MB, s_II_s, s_II_n, s_JJ_s, s_JJ_n, s_AA_s, s_AA_n, s_BB_s, s_BB_n, s_MM_s, s_MM_n, pk_us, pk_un, pk_uLs, pk_uLn]
      · simp (disch := omega) only [s_IJ, s_IA, s_IB, s_IM, s_JI, s_JA, s_JB, s_JM, s_AI, s_AJ, s_AB, s_AM, s_BI, s_BJ, s_BA, s_BM, s_MI, s_MJ, s_MA, s_MB, s_II_s, s_II_n, s_JJ_s, s_JJ_n, s_AA_s, s_AA_n, s_BB_s, s_BB_n, s_MM_s, s_MM_n, pk_us, pk_un, pk_uLs, pk_uLn]
      · simp (disch := omega) only [s_IJ, s_IA, s_IB, s_IM, s_JI, s_JA, s_JB, s_JM, s_AI, s_AJ, s_AB, s_AM, s_BI, s_BJ, s_BA, s_BM, s_MI, s_MJ, s_MA, s_MB, s_II_s, s_II_n, s_JJ_s, s_JJ_n, s_AA_s, s_AA_n, s_BB_s, s_BB_n, s_MM_s, s_MM_n, pk_us, pk_un, pk_uLs, pk_uLn]
      · intro a ha
        simp (disch := omega) only [s_IJ, s_IA, s_IB, s_IM, s_JI, s_JA, s_JB, s_JM, s_AI, s_AJ, s_AB, s_AM, s_BI, s_BJ, s_BA, s_BM, s_MI, s_MJ, s_MA, s_MB, s_II_s, s_II_n, s_JJ_s, s_JJ_n, s_AA_s, s_AA_n, s_BB_s, s_BB_n, s_MM_s, s_MM_n, pk_us, pk_un, pk_uLs, pk_uLn]
        have : ¬ isDm v := fun z => g (e2.mpr z)
        simp [this]
  unfold m0_nodeFor_32
  rw [h]
  cases asP
  · obtain ⟨σ', e, r⟩ := key zm
    refine ⟨σ', ?_, r⟩
    simp (disch := omega) only [ej_bi_s, ej_bl_s, ej_bv_s, ej_nm_e, L_m1, if_true, L_0, L_24, ilt_f, ilt_t, ck_t, nI_clamp, s_IJ, s_IA, s_IB, s_IM, s_JI, s_JA, s_JB, s_JM, s_AI, s_AJ, s_AB, s_AM, s_BI, s_BJ, s_BA, s_BM, s_MI, s_MJ, s_MA, s_MB, s_II_s, s_II_n, s_JJ_s, s_JJ_n, s_AA_s, s_AA_n, s_BB_s, s_BB_n, s_MM_s, s_MM_n, pk_us, pk_un, pk_uLs, pk_uLn, h, bI_f, e]
  · obtain ⟨σ', e, r⟩ := key o
    refine ⟨σ', ?_, r⟩
    simp (disch := omega) only [ej_bi_s, ej_bl_s, ej_bv_s, ej_nm_e, L_m1, if_true, L_0, L_24, ilt_f, ilt_t, ck_t, nI_clamp, s_IJ, s_IA, s_IB, s_IM, s_JI, s_JA, s_JB, s_JM, s_AI, s_AJ, s_AB, s_AM, s_BI, s_BJ, s_BA, s_BM, s_MI, s_MJ, s_MA, s_MB, s_II_s, s_II_n, s_JJ_s, s_JJ_n, s_AA_s, s_AA_n, s_BB_s, s_BB_n, s_MM_s, s_MM_n, pk_us, pk_un, pk_uLs, pk_uLn, h, bI_t, ieq_f, e]
theorem x_make_no (h : gI σ 22 = nI 24) (p o : Int32) : m0_nodeFor_32 n v o p zm σ = some (zm, uI σ 23 (nI 1)) := by
  unfold m0_nodeFor_32
  rw [h]
  simp (disch := omega) only [ej_bi_s, ej_bl_s, ej_bv_s, ej_nm_e, ↓L_m1, L_0, L_1, L_2, L_3, L_4, L_5, L_6, L_7, L_8, L_9, L_10, L_11, L_12, L_13, L_14, L_15, L_16, L_17, L_18, L_19, L_20, L_21, L_22, L_23, L_24, L_31, L_32, L_33, L_35, L_37, L_40, L_41, L_42, L_43, L_44, L_45, L_46, L_47, L_48, L_57, L_58, L_59, L_61, L_63, L_64, L_65, L_90, L_95, L_96, L_97, L_122, L_123, L_125, L_200, L_255, L_300, L_500, L_576, L_600, L_601, L_602, L_1200, L_1800, L_2400, L_3000, L_4000, L_4096, L_5000, L_30000, L_50000, L_60000, L_70000, L_100000, L_200000, L_1000000, L_1000001, if_true, ilt_f, ieq_mm]
theorem x_make_old (p o : Int32) {i : Nat} (hi : i < 24) : m0_nodeFor_32 n v o p (nI i) σ = some (nI i, σ) := by
  unfold m0_nodeFor_32
  rw [L_m1, ieq_m (by omega)]
/-- a new node of the reference -/
theorem r_make (h : gI σ 15 = nI N) (hN : N < 24) (o : Int32) : ∃ σ', m11_made n v o σ = some (nI N, σ') ∧ fr [15] [] [11] [1] [] σ σ' ∧ gI σ' 15 = nI (N + 1) ∧ gB σ' 1 = vp_updL (gB σ 1) N v ∧ gA σ' 11 = upd (gA σ 11) N o := by
  refine ⟨uI (uA (uB σ 1 N v) 11 N o) 15 (nI (N + 1)), ?_, fr_uI (fr_uA (fr_uB fr_rf (by simp)) (by simp)) (by simp), ?_, ?_, ?_⟩
  · unfold m11_made
    rw [h]
    simp (disch := omega) only [↓L_m1, L_0, L_1, L_2, L_3, L_4, L_5, L_6, L_7, L_8, L_9, L_10, L_11, L_12, L_13, L_14, L_15, L_16, L_17, L_18, L_19, L_20, L_21, L_22, L_23, L_24, L_31, L_32, L_33, L_35, L_37, L_40, L_41, L_42, L_43, L_44, L_45, L_46, L_47, L_48, L_57, L_58, L_59, L_61, L_63, L_64, L_65, L_90, L_95, L_96, L_97, L_122, L_123, L_125, L_200, L_255, L_300, L_500, L_576, L_600, L_601, L_602, L_1200, L_1800, L_2400, L_3000, L_4000, L_4096, L_5000, L_30000, L_50000, L_60000, L_70000, L_100000, L_200000, L_1000000, L_1000001, ej_bi_s, ej_bl_s, ej_bv_s, ej_nm_e, s_IJ, s_IA, s_IB, s_IM, s_JI, s_JA, s_JB, s_JM, s_AI, s_AJ, s_AB, s_AM, s_BI, s_BJ, s_BA, s_BM, s_MI, s_MJ, s_MA, s_MB, s_II_s, s_II_n, s_JJ_s, s_JJ_n, s_AA_s, s_AA_n, s_BB_s, s_BB_n, s_MM_s, s_MM_n, pk_us, pk_un, pk_uLs, pk_uLn, if_true, if_false, ile_t, ile_f, ilt_t, ilt_f, ieq_t, ieq_f, ieq_m, ieq_m2, ieq_mm, ilt_m, ilt_m2, ile_m, ile_m2, ck_t, nI_clamp, nI_add, pk_mul, nI_m1, pk_sub, h, Nat.add_sub_cancel]
  · simp (disch := omega) only [s_IJ, s_IA, s_IB, s_IM, s_JI, s_JA, s_JB, s_JM, s_AI, s_AJ, s_AB, s_AM, s_BI, s_BJ, s_BA, s_BM, s_MI, s_MJ, s_MA, s_MB, s_II_s, s_II_n, s_JJ_s, s_JJ_n, s_AA_s, s_AA_n, s_BB_s, s_BB_n, s_MM_s, s_MM_n, pk_us, pk_un, pk_uLs, pk_uLn]
  · simp (disch := omega) only [s_IJ, s_IA, s_IB, s_IM, s_JI, s_JA, s_JB, s_JM, s_AI, s_AJ, s_AB, s_AM, s_BI, s_BJ, s_BA, s_BM, s_MI, s_MJ, s_MA, s_MB, s_II_s, s_II_n, s_JJ_s, s_JJ_n, s_AA_s, s_AA_n, s_BB_s, s_BB_n, s_MM_s, s_MM_n, pk_us, pk_un, pk_uLs, pk_uLn]
  · simp (disch := omega) only [s_IJ, s_IA, s_IB, s_IM, s_JI, s_JA, s_JB, s_JM, s_AI, s_AJ, s_AB, s_AM, s_BI, s_BJ, s_BA, s_BM, s_MI, s_MJ, s_MA, s_MB, s_II_s, s_II_n, s_JJ_s, s_JJ_n, s_AA_s, s_AA_n, s_BB_s, s_BB_n, s_MM_s, s_MM_n, pk_us, pk_un, pk_uLs, pk_uLn]
theorem r_make_no (h : gI σ 15 = nI 24) (o : Int32) : m11_made n v o σ = some (nI 0, uI σ 16 (nI 1)) := by
  unfold m11_made
  rw [h]
  simp (disch := omega) only [ej_bi_s, ej_bl_s, ej_bv_s, ej_nm_e, ↓L_m1, L_0, L_1, L_2, L_3, L_4, L_5, L_6, L_7, L_8, L_9, L_10, L_11, L_12, L_13, L_14, L_15, L_16, L_17, L_18, L_19, L_20, L_21, L_22, L_23, L_24, L_31, L_32, L_33, L_35, L_37, L_40, L_41, L_42, L_43, L_44, L_45, L_46, L_47, L_48, L_57, L_58, L_59, L_61, L_63, L_64, L_65, L_90, L_95, L_96, L_97, L_122, L_123, L_125, L_200, L_255, L_300, L_500, L_576, L_600, L_601, L_602, L_1200, L_1800, L_2400, L_3000, L_4000, L_4096, L_5000, L_30000, L_50000, L_60000, L_70000, L_100000, L_200000, L_1000000, L_1000001, if_true, ieq_t]
/-- what the class does at a name -/
theorem x_nodeFor (hn : 2000 < n) (h : gI σ 22 = nI N) (hN : N ≤ 24) (asP : Bool) (o : Int32) : (∃ i, i < N ∧ gB σ 1 i = v ∧ gA σ 18 i = o ∧ m0_nodeFor n v o (bI asP) σ = some (nI i, σ)) ∨ ((∀ i, i < N → ¬ (gB σ 1 i = v ∧ gA σ 18 i = o)) ∧ asP = false ∧ ∃ i, i < N ∧ gB σ 1 i = v ∧ gA σ 18 i = zm ∧ m0_nodeFor n v o (bI asP) σ = some (nI i, σ)) ∨ ((∀ i, i < N → ¬ (gB σ 1 i = v ∧ gA σ 18 i = o)) ∧ (asP = false → ∀ i, i < N → ¬ (gB σ 1 i = v ∧ gA σ 18 i = zm)) ∧ m0_nodeFor n v o (bI asP) σ = m0_nodeFor_32 n v o (bI asP) zm σ) := by
  unfold m0_nodeFor
  rcases x_find (n := n) (v := v) (o := o) hn h hN with ⟨e1, e2⟩ | ⟨i, e2, e3, e4, e1⟩
  · right
    cases asP
    · rcases x_find (n := n) (v := v) (o := zm) hn h hN with ⟨g1, g2⟩ | ⟨i, g2, g3, g4, g1⟩
      · right
        refine ⟨e2, fun _ => g2, ?_⟩
        rw [e1]
        simp (disch := omega) only [ej_bi_s, ej_bl_s, ej_bv_s, ej_nm_e, ↓L_m1, L_0, L_1, L_2, L_3, L_4, L_5, L_6, L_7, L_8, L_9, L_10, L_11, L_12, L_13, L_14, L_15, L_16, L_17, L_18, L_19, L_20, L_21, L_22, L_23, L_24, L_31, L_32, L_33, L_35, L_37, L_40, L_41, L_42, L_43, L_44, L_45, L_46, L_47, L_48, L_57, L_58, L_59, L_61, L_63, L_64, L_65, L_90, L_95, L_96, L_97, L_122, L_123, L_125, L_200, L_255, L_300, L_500, L_576, L_600, L_601, L_602, L_1200, L_1800, L_2400, L_3000, L_4000, L_4096, L_5000, L_30000, L_50000, L_60000, L_70000, L_100000, L_200000, L_1000000, L_1000001, if_true, ieq_mm, bI_f, g1]
      · left
        refine ⟨e2, rfl, i, g2, g3, g4, ?_⟩
        rw [e1]
        simp (disch := omega) only [ej_bi_s, ej_bl_s, ej_bv_s, ej_nm_e, ↓L_m1, L_0, L_1, L_2, L_3, L_4, L_5, L_6, L_7, L_8, L_9, L_10, L_11, L_12, L_13, L_14, L_15, L_16, L_17, L_18, L_19, L_20, L_21, L_22, L_23, L_24, L_31, L_32, L_33, L_35, L_37, L_40, L_41, L_42, L_43, L_44, L_45, L_46, L_47, L_48, L_57, L_58, L_59, L_61, L_63, L_64, L_65, L_90, L_95, L_96, L_97, L_122, L_123, L_125, L_200, L_255, L_300, L_500, L_576, L_600, L_601, L_602, L_1200, L_1800, L_2400, L_3000, L_4000, L_4096, L_5000, L_30000, L_50000, L_60000, L_70000, L_100000, L_200000, L_1000000, L_1000001, if_true, ieq_mm, bI_f, g1, x_make_old]
    · right
      refine ⟨e2, fun z => (by cases z), ?_⟩
      rw [e1]
      simp (disch := omega) only [ej_bi_s, ej_bl_s, ej_bv_s, ej_nm_e, ↓L_m1, L_0, L_1, L_2, L_3, L_4, L_5, L_6, L_7, L_8, L_9, L_10, L_11, L_12, L_13, L_14, L_15, L_16, L_17, L_18, L_19, L_20, L_21, L_22, L_23, L_24, L_31, L_32, L_33, L_35, L_37, L_40, L_41, L_42, L_43, L_44, L_45, L_46, L_47, L_48, L_57, L_58, L_59, L_61, L_63, L_64, L_65, L_90, L_95, L_96, L_97, L_122, L_123, L_125, L_200, L_255, L_300, L_500, L_576, L_600, L_601, L_602, L_1200, L_1800, L_2400, L_3000, L_4000, L_4096, L_5000, L_30000, L_50000, L_60000, L_70000, L_100000, L_200000, L_1000000, L_1000001, if_true, ieq_mm, bI_t, ieq_f]
  · left
    refine ⟨i, e2, e3, e4, ?_⟩
    rw [e1]
    simp (disch := omega) only [ej_bi_s, ej_bl_s, ej_bv_s, ej_nm_e, ↓L_m1, L_0, L_1, L_2, L_3, L_4, L_5, L_6, L_7, L_8, L_9, L_10, L_11, L_12, L_13, L_14, L_15, L_16, L_17, L_18, L_19, L_20, L_21, L_22, L_23, L_24, L_31, L_32, L_33, L_35, L_37, L_40, L_41, L_42, L_43, L_44, L_45, L_46, L_47, L_48, L_57, L_58, L_59, L_61, L_63, L_64, L_65, L_90, L_95, L_96, L_97, L_122, L_123, L_125, L_200, L_255, L_300, L_500, L_576, L_600, L_601, L_602, L_1200, L_1800, L_2400, L_3000, L_4000, L_4096, L_5000, L_30000, L_50000, L_60000, L_70000, L_100000, L_200000, L_1000000, L_1000001, ieq_m]
/-- what the reference does at a name while it builds -/
theorem r_nodeOf (hn : 2000 < n) (hb : gI σ 6 = nI 1) (hf : gI σ 7 = nI f) (h : gI σ 15 = nI N) (hN : N ≤ 24) (asP : Bool) : (∃ i, i < N ∧ gB σ 1 i = v ∧ gA σ 11 i = nI f ∧ (if asP = true then m11_privately n v σ else m11_nodeOf n v σ) = some (nI i, σ)) ∨ ((∀ i, i < N → ¬ (gB σ 1 i = v ∧ gA σ 11 i = nI f)) ∧ asP = false ∧ ∃ i, i < N ∧ gB σ 1 i = v ∧ gA σ 11 i = zm ∧ (if asP = true then m11_privately n v σ else m11_nodeOf n v σ) = some (nI i, σ)) ∨ ((∀ i, i < N → ¬ (gB σ 1 i = v ∧ gA σ 11 i = nI f)) ∧ (asP = false → ∀ i, i < N → ¬ (gB σ 1 i = v ∧ gA σ 11 i = zm)) ∧ (if asP = true then m11_privately n v σ else m11_nodeOf n v σ) = m11_made n v (if asP = true then nI f else zm) σ) := by
  have hid : ∀ m : Option (Int32 × ej_S), (ej_bi m fun r6 s5 => some (r6, s5)) = m := by intro m; cases m <;> rfl
  have hnb : ¬ nI 1 = nI 0 := by decide +kernel
  rcases r_found (n := n) (v := v) (o := nI f) hn h hN with ⟨e1, e2⟩ | ⟨i, e2, e3, e4, e1⟩
  · right
    cases asP
    · simp only [Bool.false_eq_true, if_false]
      unfold m11_nodeOf
      rw [hb, hf, L_0, if_neg hnb, e1]
      rcases r_found (n := n) (v := v) (o := zm) hn h hN with ⟨g1, g2⟩ | ⟨i, g2, g3, g4, g1⟩
      · right
        refine ⟨e2, fun _ => g2, ?_⟩
        simp only [ej_bi_s, ej_bl_s, ej_bv_s, ej_nm_e, L_m1, g1, ieq_mm, if_true, hid]
      · left
        refine ⟨e2, trivial, i, g2, g3, g4, ?_⟩
        simp (disch := omega) only [ej_bi_s, ej_bl_s, ej_bv_s, ej_nm_e, L_m1, g1, ieq_mm, if_true, ieq_m]
    · right
      simp only [if_true]
      refine ⟨e2, fun z => (by cases z), ?_⟩
      unfold m11_privately
      rw [hb, hf, L_0, if_neg hnb, e1]
      simp only [ej_bi_s, ej_bl_s, ej_bv_s, ej_nm_e, L_m1, ieq_mm, if_true, hf, hid]
  · left
    refine ⟨i, e2, e3, e4, ?_⟩
    cases asP
    · simp only [Bool.false_eq_true, if_false]
      unfold m11_nodeOf
      rw [hb, hf, L_0, if_neg hnb, e1]
      rcases r_found (n := n) (v := v) (o := zm) hn h hN with ⟨g1, g2⟩ | ⟨i', g2, g3, g4, g1⟩
      · simp (disch := omega) only [ej_bi_s, ej_bl_s, ej_bv_s, ej_nm_e, L_m1, g1, ieq_m]
      · simp (disch := omega) only [ej_bi_s, ej_bl_s, ej_bv_s, ej_nm_e, L_m1, g1, ieq_m]
    · simp only [if_true]
      unfold m11_privately
      rw [hb, hf, L_0, if_neg hnb, e1]
      simp (disch := omega) only [ej_bi_s, ej_bl_s, ej_bv_s, ej_nm_e, L_m1, ieq_m]
end P61
