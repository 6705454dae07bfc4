/-! THE SUM, TOKEN BY TOKEN, IN BOTH -/
def FRM (l : List Nat) (tot tsg prd psg : Int32) (σr : ej_S) (j : Nat) : Prop := SGN l 43 45 tsg tot (gA σr 6 j) (gA σr 5 j) (gA σr 7 j) ∧ SGN l 42 47 psg prd (gA σr 9 j) (gA σr 8 j) (gA σr 10 j)
def SVD (l : List Nat) (σc σr : ej_S) (L : Nat) : Prop := ∀ j, j < L → FRM l (gA σc 14 j) (gA σc 15 j) (gA σc 16 j) (gA σc 17 j) σr j
def SR1 (f c : Nat) (l : List Nat) (i : Nat) (σc σr : ej_S) (X Y : Option (Int32 × ej_S)) : Prop := ∃ ok σc' σr', X = some (bI ok, σc') ∧ Y = some (bI ok, σr') ∧ fr [13, 14, 15, 16, 17, 18, 19, 20, 21] [] [14, 15, 16, 17] [] [] σc σc' ∧ fr [1, 2, 3, 4, 5, 9, 10, 13, 14] [0] [5, 6, 7, 8, 9, 10] [] [] σr σr' ∧ (ok = true → ∃ i', i' ≤ c ∧ i ≤ i' ∧ gI σc' 19 = nI i' ∧ RT σr' f l i' ∧ gI σc' 13 = gI σr' 14 ∧ bd (gI σc' 13)) ∧ (ok = false → FS σc' σr' l)
theorem SVD_fr {l : List Nat} {σc σr σc' σr' : ej_S} {L : Nat} {I J A B M I' J' A' B' M' : List Nat} (h : SVD l σc σr L) (p : fr I J A B M σc σc') (q : fr I' J' A' B' M' σr σr') (a1 : 14 ∉ A) (a2 : 15 ∉ A) (a3 : 16 ∉ A) (a4 : 17 ∉ A) (b1 : 5 ∉ A') (b2 : 6 ∉ A') (b3 : 7 ∉ A') (b4 : 8 ∉ A') (b5 : 9 ∉ A') (b6 : 10 ∉ A') : SVD l σc' σr' L := by
  intro j hj
  have := h j hj
  unfold FRM at *
  rw [p.2.2.1 14 a1, p.2.2.1 15 a2, p.2.2.1 16 a3, p.2.2.1 17 a4, q.2.2.1 5 b1, q.2.2.1 6 b2, q.2.2.1 7 b3, q.2.2.1 8 b4, q.2.2.1 9 b5, q.2.2.1 10 b6]
  exact this
theorem SR1_tr {f c i i1 : Nat} {l : List Nat} {σc σr σc1 σr1 : ej_S} {X Y : Option (Int32 × ej_S)} (p : fr [13, 14, 15, 16, 17, 18, 19, 20, 21] [] [14, 15, 16, 17] [] [] σc σc1) (q : fr [1, 2, 3, 4, 5, 9, 10, 13, 14] [0] [5, 6, 7, 8, 9, 10] [] [] σr σr1) (hi : i ≤ i1) (h : SR1 f c l i1 σc1 σr1 X Y) : SR1 f c l i σc σr X Y := by
  obtain ⟨ok, σc', σr', e1, e2, f1, f2, g1, g2⟩ := h
  refine ⟨ok, σc', σr', e1, e2, fr_tr p f1, fr_tr q f2, fun z => ?_, g2⟩
  obtain ⟨i', h1, h2, h3⟩ := g1 z
  exact ⟨i', h1, by omega, h3⟩
section P59
variable {n f c : Nat} {l : List Nat}
theorem i_next (hb : ∀ b ∈ l, b < 256) (hce : bg l c = l.length) {i : Nat} (hi : i ≤ c) (hs : sr l (bg l i) ≠ 0) : i + 1 ≤ c := by
  rcases Nat.lt_or_ge i c with q | q
  · exact q
  · have e : i = c := by omega
    subst e
    exact absurd ((sr_0 hb _).mpr (by omega)) hs
theorem s_sum (hn : 2000 < n) (hce : bg l c = l.length) (hc6 : c ≤ 600) : ∀ (d turn i L : Nat) (σc σr : ej_S) (k k2 k3 : Nat), turn + d = 601 → d < k → d < k2 → d < k3 → TK σc l → RT σr f l i → RW σr → gI σc 19 = nI i → i ≤ c → turn ≤ i → L ≤ turn → gI σc 18 = nI L → gI σr 13 = nI L → SVD l σc σr L → (FRM l (gI σc 13) (gI σc 14) (gI σc 15) (gI σc 16) σr L → SR1 f c l i σc σr (m6_workOut_18 n k (nI 0) (nI turn) σc) (m11_isSum_21 n k2 (nI 0) σr)) ∧ (SGN l 43 45 (gI σc 14) (gI σc 13) (gA σr 6 L) (gA σr 5 L) (gA σr 7 L) → gI σc 16 = zm → gI σc 15 = gI σr 14 → bd (gI σc 15) → SR1 f c l i σc σr (m6_workOut_18 n k (nI 1) (nI turn) σc) (ej_bi (m11_closes_52 n (m11_closes_0 n k3) σr) fun r9 s8 => m11_isSum_21 n k2 r9 s8)) := by
  intro d
  induction d with
  | zero => intro turn i L σc σr k k2 k3 ht; omega
  | succ d ih =>
    intro turn i L σc σr k k2 k3 ht hk hk2 hk3 hc hr hw hi hic hti hLt hd1 hd2 hsv
    obtain ⟨k, rfl⟩ : ∃ k', k = k' + 1 := ⟨k - 1, by omega⟩
    obtain ⟨k2, rfl⟩ : ∃ k', k2 = k' + 1 := ⟨k2 - 1, by omega⟩
    obtain ⟨k3, rfl⟩ : ∃ k', k3 = k' + 1 := ⟨k3 - 1, by omega⟩
    have hbb : ∀ b ∈ l, b < 256 := hc.1.2.2.2
    have hs128 := sr_lt hbb (bg l i)
    have hrl := rs_lt hs128
    have hks := sr_k hbb (bg l i)
    have htok : gI σr 2 = nI (rs (sr l (bg l i))) := hr.1.2.1
    have hat : gI σr 3 = nI (bg l i) := hr.1.2.2.1
    have hnx := i_next (c := c) hbb hce hic
    have hsort : m8_sortAt n (gI σc 19) σc = some (nI (sr l (bg l i)), σc) := by rw [hi]; exact x_sortAt hc (by omega)
    have heq : ∀ K, 4 < K → K < 128 → K ≠ 97 → K ≠ 65 → K ≠ 48 → K ≠ 63 → ((gI σr 2 = nI K) ↔ sr l (bg l i) = K) := by
      intro K a b p1 p2 p3 p4
      rw [htok, nI_eq (by omega) (by omega)]
      exact rs_eq a p1 p2 p3 p4
    generalize hS : sr l (bg l i) = S at *
    constructor
    · intro hf
      by_cases h40 : S = 40
      · have hi1 := hnx (by omega)
        -- class
        have hcl : ∃ σc', m6_workOut_18 n (k + 1) (nI 0) (nI turn) σc = m6_workOut_18 n k (nI 0) (nI (turn + 1)) σc' ∧ fr [14, 16, 18, 19] [] [14, 15, 16, 17] [] [] σc σc' ∧ gI σc' 18 = nI (L + 1) ∧ gI σc' 19 = nI (i + 1) ∧ gI σc' 14 = zm ∧ gI σc' 16 = zm ∧ gA σc' 14 = upd (gA σc 14) L (gI σc 13) ∧ gA σc' 15 = upd (gA σc 15) L (gI σc 14) ∧ gA σc' 16 = upd (gA σc 16) L (gI σc 15) ∧ gA σc' 17 = upd (gA σc 17) L (gI σc 16) := by
          refine ⟨_, by
            rw [u_6_workOut_18, hsort]
            unfold m6_open m6_beginSum
            simp (disch := omega) only [↓L_m1, L_0, L_1, L_2, L_3, L_4, L_5, L_6, L_7, L_8, L_9, L_10, L_11, L_12, L_13, L_14, L_15, L_16, L_17, L_18, L_19, L_20, L_21, L_22, L_23, L_24, L_31, L_32, L_33, L_35, L_37, L_40, L_41, L_42, L_43, L_44, L_45, L_46, L_47, L_48, L_57, L_58, L_59, L_61, L_63, L_64, L_65, L_90, L_95, L_96, L_97, L_122, L_123, L_125, L_200, L_255, L_300, L_500, L_576, L_600, L_601, L_602, L_1200, L_1800, L_2400, L_3000, L_4000, L_4096, L_5000, L_30000, L_50000, L_60000, L_70000, L_100000, L_200000, L_1000000, L_1000001, ej_bi_s, ej_bl_s, ej_bv_s, ej_nm_e, s_IJ, s_IA, s_IB, s_IM, s_JI, s_JA, s_JB, s_JM, s_AI, s_AJ, s_AB, s_AM, s_BI, s_BJ, s_BA, s_BM, s_MI, s_MJ, s_MA, s_MB, s_II_s, s_II_n, s_JJ_s, s_JJ_n, s_AA_s, s_AA_n, s_BB_s, s_BB_n, s_MM_s, s_MM_n, pk_us, pk_un, pk_uLs, pk_uLn, if_true, if_false, ile_t, ile_f, ilt_t, ilt_f, ieq_t, ieq_f, ieq_m, ieq_m2, ieq_mm, ilt_m, ilt_m2, ile_m, ile_m2, ck_t, nI_clamp, nI_add, pk_mul, nI_m1, pk_sub, h40, hd1, hi]
            rfl, ?_, ?_, ?_, ?_, ?_, ?_, ?_, ?_, ?_⟩
          · exact fr_uI (fr_uI (fr_uI (fr_uI (fr_uA (fr_uA (fr_uA (fr_uA fr_rf (by simp)) (by simp)) (by simp)) (by simp)) (by simp)) (by simp)) (by simp)) (by simp)
          · simp (disch := omega) only [s_IJ, s_IA, s_IB, s_IM, s_JI, s_JA, s_JB, s_JM, s_AI, s_AJ, s_AB, s_AM, s_BI, s_BJ, s_BA, s_BM, s_MI, s_MJ, s_MA, s_MB, s_II_s, s_II_n, s_JJ_s, s_JJ_n, s_AA_s, s_AA_n, s_BB_s, s_BB_n, s_MM_s, s_MM_n, pk_us, pk_un, pk_uLs, pk_uLn]
          · simp (disch := omega) only [s_IJ, s_IA, s_IB, s_IM, s_JI, s_JA, s_JB, s_JM, s_AI, s_AJ, s_AB, s_AM, s_BI, s_BJ, s_BA, s_BM, s_MI, s_MJ, s_MA, s_MB, s_II_s, s_II_n, s_JJ_s, s_JJ_n, s_AA_s, s_AA_n, s_BB_s, s_BB_n, s_MM_s, s_MM_n, pk_us, pk_un, pk_uLs, pk_uLn]
          · simp (disch := omega) only [s_IJ, s_IA, s_IB, s_IM, s_JI, s_JA, s_JB, s_JM, s_AI, s_AJ, s_AB, s_AM, s_BI, s_BJ, s_BA, s_BM, s_MI, s_MJ, s_MA, s_MB, s_II_s, s_II_n, s_JJ_s, s_JJ_n, s_AA_s, s_AA_n, s_BB_s, s_BB_n, s_MM_s, s_MM_n, pk_us, pk_un, pk_uLs, pk_uLn]
          · simp (disch := omega) only [s_IJ, s_IA, s_IB, s_IM, s_JI, s_JA, s_JB, s_JM, s_AI, s_AJ, s_AB, s_AM, s_BI, s_BJ, s_BA, s_BM, s_MI, s_MJ, s_MA, s_MB, s_II_s, s_II_n, s_JJ_s, s_JJ_n, s_AA_s, s_AA_n, s_BB_s, s_BB_n, s_MM_s, s_MM_n, pk_us, pk_un, pk_uLs, pk_uLn]
          · simp (disch := omega) only [s_IJ, s_IA, s_IB, s_IM, s_JI, s_JA, s_JB, s_JM, s_AI, s_AJ, s_AB, s_AM, s_BI, s_BJ, s_BA, s_BM, s_MI, s_MJ, s_MA, s_MB, s_II_s, s_II_n, s_JJ_s, s_JJ_n, s_AA_s, s_AA_n, s_BB_s, s_BB_n, s_MM_s, s_MM_n, pk_us, pk_un, pk_uLs, pk_uLn]
          · simp (disch := omega) only [s_IJ, s_IA, s_IB, s_IM, s_JI, s_JA, s_JB, s_JM, s_AI, s_AJ, s_AB, s_AM, s_BI, s_BJ, s_BA, s_BM, s_MI, s_MJ, s_MA, s_MB, s_II_s, s_II_n, s_JJ_s, s_JJ_n, s_AA_s, s_AA_n, s_BB_s, s_BB_n, s_MM_s, s_MM_n, pk_us, pk_un, pk_uLs, pk_uLn]
          · simp (disch := omega) only [s_IJ, s_IA, s_IB, s_IM, s_JI, s_JA, s_JB, s_JM, s_AI, s_AJ, s_AB, s_AM, s_BI, s_BJ, s_BA, s_BM, s_MI, s_MJ, s_MA, s_MB, s_II_s, s_II_n, s_JJ_s, s_JJ_n, s_AA_s, s_AA_n, s_BB_s, s_BB_n, s_MM_s, s_MM_n, pk_us, pk_un, pk_uLs, pk_uLn]
          · simp (disch := omega) only [s_IJ, s_IA, s_IB, s_IM, s_JI, s_JA, s_JB, s_JM, s_AI, s_AJ, s_AB, s_AM, s_BI, s_BJ, s_BA, s_BM, s_MI, s_MJ, s_MA, s_MB, s_II_s, s_II_n, s_JJ_s, s_JJ_n, s_AA_s, s_AA_n, s_BB_s, s_BB_n, s_MM_s, s_MM_n, pk_us, pk_un, pk_uLs, pk_uLn]
        obtain ⟨σc', ec, fc, d1, d2, d3, d4, d5, d6, d7, d8⟩ := hcl
        -- reference
        have h0r : RT (uA (uA (uI σr 13 (nI (L + 1))) 6 (L + 1) (nI 0)) 9 (L + 1) (nI 0)) f l i := RT_fr hr (fr_uA (I := [13]) (J := []) (A := [6, 9]) (B := []) (M := []) (fr_uA (fr_uI fr_rf (by simp)) (by simp)) (by simp)) (by decide) (by decide) (by decide) (by decide) (by decide) (by decide) (by decide) (by decide) (by decide)
        obtain ⟨σr', er, hr', fr'⟩ := RT_next hn h0r
        have fr0 : fr [1, 2, 3, 4, 5, 13] [0] [6, 9] [] [] σr σr' := fr_tr (fr_uA (fr_uA (fr_uI fr_rf (by simp)) (by simp)) (by simp)) (fr_wk fr' (by simp) (by simp) (by simp) (by simp) (by simp))
        have er2 : m11_isSum_21 n (k2 + 1) (nI 0) σr = m11_isSum_21 n k2 (nI 0) σr' := by
          rw [u_11_isSum_21]
          simp (disch := omega) only [↓L_m1, L_0, L_1, L_2, L_3, L_4, L_5, L_6, L_7, L_8, L_9, L_10, L_11, L_12, L_13, L_14, L_15, L_16, L_17, L_18, L_19, L_20, L_21, L_22, L_23, L_24, L_31, L_32, L_33, L_35, L_37, L_40, L_41, L_42, L_43, L_44, L_45, L_46, L_47, L_48, L_57, L_58, L_59, L_61, L_63, L_64, L_65, L_90, L_95, L_96, L_97, L_122, L_123, L_125, L_200, L_255, L_300, L_500, L_576, L_600, L_601, L_602, L_1200, L_1800, L_2400, L_3000, L_4000, L_4096, L_5000, L_30000, L_50000, L_60000, L_70000, L_100000, L_200000, L_1000000, L_1000001, if_true, ieq_t]
          rw [if_pos ((heq 40 (by omega) (by omega) (by omega) (by omega) (by omega) (by omega)).mpr h40), hd2]
          simp (disch := omega) only [ej_bi_s, ej_bl_s, ej_bv_s, ej_nm_e, s_IJ, s_IA, s_IB, s_IM, s_JI, s_JA, s_JB, s_JM, s_AI, s_AJ, s_AB, s_AM, s_BI, s_BJ, s_BA, s_BM, s_MI, s_MJ, s_MA, s_MB, s_II_s, s_II_n, s_JJ_s, s_JJ_n, s_AA_s, s_AA_n, s_BB_s, s_BB_n, s_MM_s, s_MM_n, pk_us, pk_un, pk_uLs, pk_uLn, ck_t, nI_clamp, nI_add, pk_mul, nI_m1, pk_sub, er]
        have a6 : gA σr' 6 = upd (gA σr 6) (L + 1) (nI 0) := by rw [fr'.2.2.1 6 (by decide)]; simp (disch := omega) only [s_IJ, s_IA, s_IB, s_IM, s_JI, s_JA, s_JB, s_JM, s_AI, s_AJ, s_AB, s_AM, s_BI, s_BJ, s_BA, s_BM, s_MI, s_MJ, s_MA, s_MB, s_II_s, s_II_n, s_JJ_s, s_JJ_n, s_AA_s, s_AA_n, s_BB_s, s_BB_n, s_MM_s, s_MM_n, pk_us, pk_un, pk_uLs, pk_uLn]
        have a9 : gA σr' 9 = upd (gA σr 9) (L + 1) (nI 0) := by rw [fr'.2.2.1 9 (by decide)]; simp (disch := omega) only [s_IJ, s_IA, s_IB, s_IM, s_JI, s_JA, s_JB, s_JM, s_AI, s_AJ, s_AB, s_AM, s_BI, s_BJ, s_BA, s_BM, s_MI, s_MJ, s_MA, s_MB, s_II_s, s_II_n, s_JJ_s, s_JJ_n, s_AA_s, s_AA_n, s_BB_s, s_BB_n, s_MM_s, s_MM_n, pk_us, pk_un, pk_uLs, pk_uLn]
        have hsv' : SVD l σc' σr' (L + 1) := by
          intro j hj
          have e5 := fr0.2.2.1 5 (by decide)
          have e7 := fr0.2.2.1 7 (by decide)
          have e8 := fr0.2.2.1 8 (by decide)
          have e10 := fr0.2.2.1 10 (by decide)
          unfold FRM
          rw [d5, d6, d7, d8, e5, e7, e8, e10, a6, a9]
          rcases Nat.lt_or_ge j L with q | q
          · simp (disch := omega) only [pk_un]; exact hsv j q
          · have : j = L := by omega
            subst this
            simp (disch := omega) only [pk_un, pk_us]; exact hf
        rw [ec, er2]
        refine SR1_tr (fr_wk fc (by simp) (by simp) (by simp) (by simp) (by simp)) (fr_wk fr0 (by simp) (by simp) (by simp) (by simp) (by simp)) (Nat.le_succ i) ?_
        refine ((ih (turn + 1) (i + 1) (L + 1) σc' σr' k k2 k3 (by omega) (by omega) (by omega) (by omega) (TK_fr hc fc (by decide) (by decide) (by decide) (by decide) (by decide) (by decide) (by decide)) hr' (RW_fr hw fr0 (by decide) (by decide)) d2 hi1 (by omega) (by omega) d1 ?_ hsv').1 ⟨.inl ⟨d3, ?_⟩, .inl ⟨d4, ?_⟩⟩)
        · rw [fr'.1 13 (by decide)]; simp (disch := omega) only [s_IJ, s_IA, s_IB, s_IM, s_JI, s_JA, s_JB, s_JM, s_AI, s_AJ, s_AB, s_AM, s_BI, s_BJ, s_BA, s_BM, s_MI, s_MJ, s_MA, s_MB, s_II_s, s_II_n, s_JJ_s, s_JJ_n, s_AA_s, s_AA_n, s_BB_s, s_BB_n, s_MM_s, s_MM_n, pk_us, pk_un, pk_uLs, pk_uLn]
        · rw [a6, pk_us]
        · rw [a9, pk_us]
      · obtain ⟨ok, σc1, σr1, e1, e2, f1, f2, g1, g2⟩ := s_factor hn hc hr hw hi (by omega)
        rw [hS] at e1 g1
        have ec : m6_workOut_18 n (k + 1) (nI 0) (nI turn) σc = ej_bi (m6_readFactor n (nI S) σc) fun r30 s29 => (if r30 = 0 then (some (0, s29)) else ej_bi (m6_endFactor n s29) fun r32 s31 => (if r32 = 0 then (some (0, s31)) else ej_nm (uI s31 19 ((gI s31 19) + 1)) fun s33 => ej_nm (nI turn + 1) fun x34 => (m6_workOut_18 n k 1 x34 s33))) := by
          rw [u_6_workOut_18, hsort]
          unfold m6_workOut_58
          simp (disch := omega) only [ej_bi_s, ej_bl_s, ej_bv_s, ej_nm_e, L_600, L_0, L_40, if_true, if_false, ile_t, ile_f, ilt_t, ilt_f, ieq_t, ieq_f, ieq_m, ieq_m2, ieq_mm, ilt_m, ilt_m2, ile_m, ile_m2]
        have er : m11_isSum_21 n (k2 + 1) (nI 0) σr = ej_bi (m11_isFactor n σr) fun r6 s5 => (if r6 = 0 then (m11_isSum_21 n k2 2 s5) else ej_bv (m11_next n s5) fun s7 => ej_bi (m11_closes n s7) fun r9 s8 => (m11_isSum_21 n k2 r9 s8)) := by
          rw [u_11_isSum_21]
          simp (disch := omega) only [L_0, ieq_t, if_true]
          rw [L_40, if_neg (fun z => h40 ((heq 40 (by omega) (by omega) (by omega) (by omega) (by omega) (by omega)).mp z))]
        rw [ec, er, e1, e2]
        cases ok
        · obtain ⟨k2, rfl⟩ : ∃ k', k2 = k' + 1 := ⟨k2 - 1, by omega⟩
          refine ⟨false, σc1, σr1, ?_, ?_, fr_wk f1 (by simp) (by simp) (by simp) (by simp) (by simp), fr_wk f2 (by simp) (by simp) (by simp) (by simp) (by simp), fun z => (by cases z), fun _ => g2 rfl⟩
          · simp (disch := omega) only [ej_bi_s, ej_bl_s, ej_bv_s, ej_nm_e, L_0, bI_f, if_true, if_false, ile_t, ile_f, ilt_t, ilt_f, ieq_t, ieq_f, ieq_m, ieq_m2, ieq_mm, ilt_m, ilt_m2, ile_m, ile_m2]
          · simp (disch := omega) only [ej_bi_s, ej_bl_s, ej_bv_s, ej_nm_e, L_0, L_2, L_1, bI_f, if_true, if_false, ile_t, ile_f, ilt_t, ilt_f, ieq_t, ieq_f, ieq_m, ieq_m2, ieq_mm, ilt_m, ilt_m2, ile_m, ile_m2]
            rw [u_11_isSum_21]
            simp (disch := omega) only [L_0, L_1, if_true, if_false, ile_t, ile_f, ilt_t, ilt_f, ieq_t, ieq_f, ieq_m, ieq_m2, ieq_mm, ilt_m, ilt_m2, ile_m, ile_m2]
        · obtain ⟨q1, q2, q3⟩ := g1 rfl
          have hi1 := hnx q3
          have hc1 := TK_fr hc f1 (by decide) (by decide) (by decide) (by decide) (by decide) (by decide) (by decide)
          have hr1 := RT_fr hr f2 (by decide) (by decide) (by decide) (by decide) (by decide) (by decide) (by decide) (by decide) (by decide)
          obtain ⟨σr2, e3, hr2, f3⟩ := RT_next hn hr1
          have f23 : fr [1, 2, 3, 4, 5, 9, 10, 14] [0] [] [] [] σr σr2 := fr_tr (fr_wk f2 (by simp) (by simp) (by simp) (by simp) (by simp)) (fr_wk f3 (by simp) (by simp) (by simp) (by simp) (by simp))
          have hf2 : SGN l 42 47 (gI σc1 16) (gI σc1 15) (gA σr2 9 L) (gA σr2 8 L) (gA σr2 10 L) := by
            rw [f1.1 16 (by decide), f1.1 15 (by decide), f23.2.2.1 9 (by decide), f23.2.2.1 8 (by decide), f23.2.2.1 10 (by decide)]; exact hf.2
          obtain ⟨ok2, σc3, σr3, e4, e5, f4, f5, g3, g4⟩ := s_endFactor (n := n) (L := L) hc1 (by rw [f23.1 13 (by decide)]; exact hd2) (by omega) hf2 (by rw [f3.1 14 (by decide)]; exact q1) q2
          obtain ⟨n', hn'⟩ : ∃ n', n = n' + 1 := ⟨n - 1, by omega⟩
          have e6 : m11_closes n σr2 = if ok2 = true then m11_closes_52 n (m11_closes_0 n n') σr3 else some (nI 2, σr3) := by
            unfold m11_closes
            have := e5 n'
            rwa [← hn'] at this
          have fcc : fr [13, 14, 15, 16, 17, 18, 19, 20, 21] [] [14, 15, 16, 17] [] [] σc σc3 := fr_tr (fr_wk f1 (by simp) (by simp) (by simp) (by simp) (by simp)) (fr_wk f4 (by simp) (by simp) (by simp) (by simp) (by simp))
          have frr : fr [1, 2, 3, 4, 5, 9, 10, 13, 14] [0] [5, 6, 7, 8, 9, 10] [] [] σr σr3 := fr_tr (fr_wk f23 (by simp) (by simp) (by simp) (by simp) (by simp)) (fr_wk f5 (by simp) (by simp) (by simp) (by simp) (by simp))
          simp (disch := omega) only [ej_bi_s, ej_bl_s, ej_bv_s, ej_nm_e, L_0, bI_t, if_true, if_false, ile_t, ile_f, ilt_t, ilt_f, ieq_t, ieq_f, ieq_m, ieq_m2, ieq_mm, ilt_m, ilt_m2, ile_m, ile_m2, e3, e4, e6, ibI]
          cases ok2
          · obtain ⟨k2, rfl⟩ : ∃ k', k2 = k' + 1 := ⟨k2 - 1, by omega⟩
            refine ⟨false, σc3, σr3, ?_, ?_, fcc, frr, fun z => (by cases z), fun _ => g4 rfl⟩
            · simp only [Bool.false_eq_true, if_false]; rfl
            · simp only [Bool.false_eq_true, if_false, ej_bi_s, ej_bl_s, ej_bv_s, ej_nm_e]
              rw [u_11_isSum_21]
              simp (disch := omega) only [L_0, L_1, if_true, if_false, ile_t, ile_f, ilt_t, ilt_f, ieq_t, ieq_f, ieq_m, ieq_m2, ieq_mm, ilt_m, ilt_m2, ile_m, ile_m2]
              rfl
          · obtain ⟨p1, p2, p3⟩ := g3 rfl
            simp only [if_true, L_1, nI_add]
            have hc3 := TK_fr hc1 f4 (by decide) (by decide) (by decide) (by decide) (by decide) (by decide) (by decide)
            have hr3 := RT_fr hr2 f5 (by decide) (by decide) (by decide) (by decide) (by decide) (by decide) (by decide) (by decide) (by decide)
            have f6 : fr [19] [] [] [] [] σc3 (uI σc3 19 (gI σc3 19 + nI 1)) := fr_uI fr_rf (by simp)
            refine SR1_tr (fr_tr fcc (fr_wk f6 (by simp) (by simp) (by simp) (by simp) (by simp))) frr (Nat.le_succ i) ?_
            have fr5 : fr [1, 2, 3, 4, 5, 9, 10, 14] [0] [] [] [] σr σr3 := fr_tr f23 (fr_wk f5 (by simp) (by simp) (by simp) (by simp) (by simp))
            have fc5 : fr [15, 16, 17, 19, 20, 21] [] [] [] [] σc (uI σc3 19 (gI σc3 19 + nI 1)) := fr_tr (fr_wk f1 (by simp) (by simp) (by simp) (by simp) (by simp)) (fr_tr (fr_wk f4 (by simp) (by simp) (by simp) (by simp) (by simp)) (fr_wk f6 (by simp) (by simp) (by simp) (by simp) (by simp)))
            refine ((ih (turn + 1) (i + 1) L (uI σc3 19 (gI σc3 19 + nI 1)) σr3 k k2 n' (by omega) (by omega) (by omega) (by omega) (TK_fr hc3 f6 (by decide) (by decide) (by decide) (by decide) (by decide) (by decide) (by decide)) hr3 (RW_fr hw fr5 (by decide) (by decide)) ?_ hi1 (by omega) (by omega) ?_ ?_ ?_).2 ?_ ?_ ?_ ?_)
            · rw [s_II_s, f4.1 19 (by decide), f1.1 19 (by decide), hi, nI_add]
            · rw [fc5.1 18 (by decide)]; exact hd1
            · rw [fr5.1 13 (by decide)]; exact hd2
            · exact SVD_fr hsv fc5 fr5 (by decide) (by decide) (by decide) (by decide) (by decide) (by decide) (by decide) (by decide) (by decide) (by decide)
            · rw [fc5.1 14 (by decide), fc5.1 13 (by decide), fr5.2.2.1 6 (by decide), fr5.2.2.1 5 (by decide), fr5.2.2.1 7 (by decide)]; exact hf.1
            · rw [f6.1 16 (by decide)]; exact p3
            · rw [f6.1 15 (by decide)]; exact p1
            · rw [f6.1 15 (by decide)]; exact p2
    · intro hsg hz hP hbd
      by_cases h42 : S = 42 ∨ S = 47
      · have hi1 := hnx (by omega)
        have ec : m6_workOut_18 n (k + 1) (nI 1) (nI turn) σc = m6_workOut_18 n k (nI 0) (nI (turn + 1)) (uI (uI σc 16 (nI i)) 19 (nI (i + 1))) := by
          rw [u_6_workOut_18, hsort]
          unfold m6_workOut_58 m6_workOut_99
          rcases h42 with h | h
          · simp (disch := omega) only [↓L_m1, L_0, L_1, L_2, L_3, L_4, L_5, L_6, L_7, L_8, L_9, L_10, L_11, L_12, L_13, L_14, L_15, L_16, L_17, L_18, L_19, L_20, L_21, L_22, L_23, L_24, L_31, L_32, L_33, L_35, L_37, L_40, L_41, L_42, L_43, L_44, L_45, L_46, L_47, L_48, L_57, L_58, L_59, L_61, L_63, L_64, L_65, L_90, L_95, L_96, L_97, L_122, L_123, L_125, L_200, L_255, L_300, L_500, L_576, L_600, L_601, L_602, L_1200, L_1800, L_2400, L_3000, L_4000, L_4096, L_5000, L_30000, L_50000, L_60000, L_70000, L_100000, L_200000, L_1000000, L_1000001, ej_bi_s, ej_bl_s, ej_bv_s, ej_nm_e, s_IJ, s_IA, s_IB, s_IM, s_JI, s_JA, s_JB, s_JM, s_AI, s_AJ, s_AB, s_AM, s_BI, s_BJ, s_BA, s_BM, s_MI, s_MJ, s_MA, s_MB, s_II_s, s_II_n, s_JJ_s, s_JJ_n, s_AA_s, s_AA_n, s_BB_s, s_BB_n, s_MM_s, s_MM_n, pk_us, pk_un, pk_uLs, pk_uLn, ↓reduceIte, cle_t, cle_f, clt_t, clt_f, ceq_t, ceq_f, ceq_m, ceq_m2, clt_m, clt_m2, cle_m, cle_m2, ck_t, nI_clamp, nI_add, pk_mul, nI_m1, pk_sub, h, hi]
          · simp (disch := omega) only [↓L_m1, L_0, L_1, L_2, L_3, L_4, L_5, L_6, L_7, L_8, L_9, L_10, L_11, L_12, L_13, L_14, L_15, L_16, L_17, L_18, L_19, L_20, L_21, L_22, L_23, L_24, L_31, L_32, L_33, L_35, L_37, L_40, L_41, L_42, L_43, L_44, L_45, L_46, L_47, L_48, L_57, L_58, L_59, L_61, L_63, L_64, L_65, L_90, L_95, L_96, L_97, L_122, L_123, L_125, L_200, L_255, L_300, L_500, L_576, L_600, L_601, L_602, L_1200, L_1800, L_2400, L_3000, L_4000, L_4096, L_5000, L_30000, L_50000, L_60000, L_70000, L_100000, L_200000, L_1000000, L_1000001, ej_bi_s, ej_bl_s, ej_bv_s, ej_nm_e, s_IJ, s_IA, s_IB, s_IM, s_JI, s_JA, s_JB, s_JM, s_AI, s_AJ, s_AB, s_AM, s_BI, s_BJ, s_BA, s_BM, s_MI, s_MJ, s_MA, s_MB, s_II_s, s_II_n, s_JJ_s, s_JJ_n, s_AA_s, s_AA_n, s_BB_s, s_BB_n, s_MM_s, s_MM_n, pk_us, pk_un, pk_uLs, pk_uLn, ↓reduceIte, cle_t, cle_f, clt_t, clt_f, ceq_t, ceq_f, ceq_m, ceq_m2, clt_m, clt_m2, cle_m, cle_m2, ck_t, nI_clamp, nI_add, pk_mul, nI_m1, pk_sub, h, hi]
        have h0r : RT (uA (uA (uA σr 8 L (gI σr 14)) 9 L (nI S)) 10 L (nI (bg l i))) f l i := RT_fr hr (fr_uA (I := []) (J := []) (A := [8, 9, 10]) (B := []) (M := []) (fr_uA (fr_uA fr_rf (by simp)) (by simp)) (by simp)) (by decide) (by decide) (by decide) (by decide) (by decide) (by decide) (by decide) (by decide) (by decide)
        obtain ⟨σr', er, hr', fr'⟩ := RT_next hn h0r
        have fr0 : fr [1, 2, 3, 4, 5] [0] [8, 9, 10] [] [] σr σr' := fr_tr (fr_uA (fr_uA (fr_uA fr_rf (by simp)) (by simp)) (by simp)) (fr_wk fr' (by simp) (by simp) (by simp) (by simp) (by simp))
        have hrsS : gI σr 2 = nI S := by
          rcases h42 with h | h
          · rw [h]; exact (heq 42 (by omega) (by omega) (by omega) (by omega) (by omega) (by omega)).mpr h
          · rw [h]; exact (heq 47 (by omega) (by omega) (by omega) (by omega) (by omega) (by omega)).mpr h
        have e70 : m11_closes_70 n σr = some (nI 0, σr') := by
          unfold m11_closes_70
          rw [hd2]
          simp (disch := omega) only [ej_bi_s, ej_bl_s, ej_bv_s, ej_nm_e, s_IJ, s_IA, s_IB, s_IM, s_JI, s_JA, s_JB, s_JM, s_AI, s_AJ, s_AB, s_AM, s_BI, s_BJ, s_BA, s_BM, s_MI, s_MJ, s_MA, s_MB, s_II_s, s_II_n, s_JJ_s, s_JJ_n, s_AA_s, s_AA_n, s_BB_s, s_BB_n, s_MM_s, s_MM_n, pk_us, pk_un, pk_uLs, pk_uLn, ck_t, nI_clamp, nI_add, pk_mul, nI_m1, pk_sub, hd2, hrsS, hat, er, L_0]
        have er2 : (ej_bi (m11_closes_52 n (m11_closes_0 n (k3 + 1)) σr) fun r9 s8 => m11_isSum_21 n (k2 + 1) r9 s8) = m11_isSum_21 n (k2 + 1) (nI 0) σr' := by
          unfold m11_closes_52
          rw [hrsS]
          rcases h42 with h | h
          · simp (disch := omega) only [h, ↓L_m1, L_0, L_1, L_2, L_3, L_4, L_5, L_6, L_7, L_8, L_9, L_10, L_11, L_12, L_13, L_14, L_15, L_16, L_17, L_18, L_19, L_20, L_21, L_22, L_23, L_24, L_31, L_32, L_33, L_35, L_37, L_40, L_41, L_42, L_43, L_44, L_45, L_46, L_47, L_48, L_57, L_58, L_59, L_61, L_63, L_64, L_65, L_90, L_95, L_96, L_97, L_122, L_123, L_125, L_200, L_255, L_300, L_500, L_576, L_600, L_601, L_602, L_1200, L_1800, L_2400, L_3000, L_4000, L_4096, L_5000, L_30000, L_50000, L_60000, L_70000, L_100000, L_200000, L_1000000, L_1000001, if_true, if_false, ile_t, ile_f, ilt_t, ilt_f, ieq_t, ieq_f, ieq_m, ieq_m2, ieq_mm, ilt_m, ilt_m2, ile_m, ile_m2, e70, ej_bi_s, ej_bl_s, ej_bv_s, ej_nm_e]
          · simp (disch := omega) only [h, ↓L_m1, L_0, L_1, L_2, L_3, L_4, L_5, L_6, L_7, L_8, L_9, L_10, L_11, L_12, L_13, L_14, L_15, L_16, L_17, L_18, L_19, L_20, L_21, L_22, L_23, L_24, L_31, L_32, L_33, L_35, L_37, L_40, L_41, L_42, L_43, L_44, L_45, L_46, L_47, L_48, L_57, L_58, L_59, L_61, L_63, L_64, L_65, L_90, L_95, L_96, L_97, L_122, L_123, L_125, L_200, L_255, L_300, L_500, L_576, L_600, L_601, L_602, L_1200, L_1800, L_2400, L_3000, L_4000, L_4096, L_5000, L_30000, L_50000, L_60000, L_70000, L_100000, L_200000, L_1000000, L_1000001, if_true, if_false, ile_t, ile_f, ilt_t, ilt_f, ieq_t, ieq_f, ieq_m, ieq_m2, ieq_mm, ilt_m, ilt_m2, ile_m, ile_m2, e70, ej_bi_s, ej_bl_s, ej_bv_s, ej_nm_e]
        rw [ec, er2]
        have fc0 : fr [16, 19] [] [] [] [] σc (uI (uI σc 16 (nI i)) 19 (nI (i + 1))) := fr_uI (fr_uI fr_rf (by simp)) (by simp)
        refine SR1_tr (fr_wk fc0 (by simp) (by simp) (by simp) (by simp) (by simp)) (fr_wk fr0 (by simp) (by simp) (by simp) (by simp) (by simp)) (Nat.le_succ i) ?_
        refine ((ih (turn + 1) (i + 1) L _ σr' k (k2 + 1) k3 (by omega) (by omega) (by omega) (by omega) (TK_fr hc fc0 (by decide) (by decide) (by decide) (by decide) (by decide) (by decide) (by decide)) hr' (RW_fr hw fr0 (by decide) (by decide)) s_II_s hi1 (by omega) (by omega) (by rw [fc0.1 18 (by decide)]; exact hd1) (by rw [fr0.1 13 (by decide)]; exact hd2) ?_).1 ⟨?_, .inr ⟨i, S, by omega, ?_, by rw [hS], h42, ?_, ?_, ?_, ?_⟩⟩)
        · intro j hj
          have := hsv j hj
          unfold FRM at *
          rw [fc0.2.2.1 14 (by decide), fc0.2.2.1 15 (by decide), fc0.2.2.1 16 (by decide), fc0.2.2.1 17 (by decide), fr0.2.2.1 5 (by decide), fr0.2.2.1 6 (by decide), fr0.2.2.1 7 (by decide), fr'.2.2.1 8 (by decide), fr'.2.2.1 9 (by decide), fr'.2.2.1 10 (by decide)]
          simp (disch := omega) only [s_IJ, s_IA, s_IB, s_IM, s_JI, s_JA, s_JB, s_JM, s_AI, s_AJ, s_AB, s_AM, s_BI, s_BJ, s_BA, s_BM, s_MI, s_MJ, s_MA, s_MB, s_II_s, s_II_n, s_JJ_s, s_JJ_n, s_AA_s, s_AA_n, s_BB_s, s_BB_n, s_MM_s, s_MM_n, pk_us, pk_un, pk_uLs, pk_uLn]
          exact this
        · rw [fc0.1 14 (by decide), fc0.1 13 (by decide), fr0.2.2.1 6 (by decide), fr0.2.2.1 5 (by decide), fr0.2.2.1 7 (by decide)]; exact hsg
        · simp (disch := omega) only [s_IJ, s_IA, s_IB, s_IM, s_JI, s_JA, s_JB, s_JM, s_AI, s_AJ, s_AB, s_AM, s_BI, s_BJ, s_BA, s_BM, s_MI, s_MJ, s_MA, s_MB, s_II_s, s_II_n, s_JJ_s, s_JJ_n, s_AA_s, s_AA_n, s_BB_s, s_BB_n, s_MM_s, s_MM_n, pk_us, pk_un, pk_uLs, pk_uLn]
        · rw [fr'.2.2.1 9 (by decide)]; simp (disch := omega) only [s_IJ, s_IA, s_IB, s_IM, s_JI, s_JA, s_JB, s_JM, s_AI, s_AJ, s_AB, s_AM, s_BI, s_BJ, s_BA, s_BM, s_MI, s_MJ, s_MA, s_MB, s_II_s, s_II_n, s_JJ_s, s_JJ_n, s_AA_s, s_AA_n, s_BB_s, s_BB_n, s_MM_s, s_MM_n, pk_us, pk_un, pk_uLs, pk_uLn]
        · rw [fr'.2.2.1 10 (by decide)]; simp (disch := omega) only [s_IJ, s_IA, s_IB, s_IM, s_JI, s_JA, s_JB, s_JM, s_AI, s_AJ, s_AB, s_AM, s_BI, s_BJ, s_BA, s_BM, s_MI, s_MJ, s_MA, s_MB, s_II_s, s_II_n, s_JJ_s, s_JJ_n, s_AA_s, s_AA_n, s_BB_s, s_BB_n, s_MM_s, s_MM_n, pk_us, pk_un, pk_uLs, pk_uLn]
        · rw [fr'.2.2.1 8 (by decide), fc0.1 15 (by decide)]; simp (disch := omega) only [s_IJ, s_IA, s_IB, s_IM, s_JI, s_JA, s_JB, s_JM, s_AI, s_AJ, s_AB, s_AM, s_BI, s_BJ, s_BA, s_BM, s_MI, s_MJ, s_MA, s_MB, s_II_s, s_II_n, s_JJ_s, s_JJ_n, s_AA_s, s_AA_n, s_BB_s, s_BB_n, s_MM_s, s_MM_n, pk_us, pk_un, pk_uLs, pk_uLn]; exact hP.symm
        · rw [fc0.1 15 (by decide)]; exact hbd
      · have n42 : ¬ gI σr 2 = nI 42 := fun z => h42 (.inl ((heq 42 (by omega) (by omega) (by omega) (by omega) (by omega) (by omega)).mp z))
        have n47 : ¬ gI σr 2 = nI 47 := fun z => h42 (.inr ((heq 47 (by omega) (by omega) (by omega) (by omega) (by omega) (by omega)).mp z))
        obtain ⟨ok, σc1, σr1, e1, e2, f1, f2, g1, g2⟩ := s_endProduct (n := n) (L := L) hc hd2 (by omega) hsg hP hbd n42 n47 (m11_closes_0 n (k3 + 1))
        have ec : m6_workOut_18 n (k + 1) (nI 1) (nI turn) σc = ej_bi (m6_endProduct n σc) fun r18 s17 => (if r18 = 0 then (some (0, s17)) else (if nI S = 43 then (m6_workOut_135 n (m6_workOut_18 n k) (nI turn) s17) else (if nI S = 45 then (m6_workOut_135 n (m6_workOut_18 n k) (nI turn) s17) else (if gI s17 18 = 0 then (some (1, s17)) else ej_bi (m6_close n (nI S) s17) fun r24 s23 => (if r24 = 0 then (some (0, s23)) else ej_bi (m6_endFactor n s23) fun r26 s25 => (if r26 = 0 then (some (0, s25)) else ej_nm (uI s25 19 ((gI s25 19) + 1)) fun s27 => ej_nm (nI turn + 1) fun x28 => (m6_workOut_18 n k (nI 1) x28 s27))))))) := by
          rw [u_6_workOut_18, hsort]
          unfold m6_workOut_58
          simp (disch := omega) only [ej_bi_s, ej_bl_s, ej_bv_s, ej_nm_e, L_600, L_0, L_42, L_47, ↓reduceIte, cle_t, cle_f, clt_t, clt_f, ceq_t, ceq_f, ceq_m, ceq_m2, clt_m, clt_m2, cle_m, cle_m2]
        rw [ec, e1, e2]
        cases ok
        · refine ⟨false, σc1, σr1, ?_, ?_, fr_wk f1 (by simp) (by simp) (by simp) (by simp) (by simp), fr_wk f2 (by simp) (by simp) (by simp) (by simp) (by simp), fun z => (by cases z), fun _ => g2 rfl⟩
          · simp (disch := omega) only [ej_bi_s, ej_bl_s, ej_bv_s, ej_nm_e, L_0, bI_f, if_true, if_false, ile_t, ile_f, ilt_t, ilt_f, ieq_t, ieq_f, ieq_m, ieq_m2, ieq_mm, ilt_m, ilt_m2, ile_m, ile_m2]
          · simp (disch := omega) only [ej_bi_s, ej_bl_s, ej_bv_s, ej_nm_e, Bool.false_eq_true, if_false]
            rw [u_11_isSum_21]
            simp (disch := omega) only [L_0, L_1, if_true, if_false, ile_t, ile_f, ilt_t, ilt_f, ieq_t, ieq_f, ieq_m, ieq_m2, ieq_mm, ilt_m, ilt_m2, ile_m, ile_m2]
            rfl
        · obtain ⟨q1, q2, q3⟩ := g1 rfl
          have hc1 := TK_fr hc f1 (by decide) (by decide) (by decide) (by decide) (by decide) (by decide) (by decide)
          have hr1 := RT_fr hr f2 (by decide) (by decide) (by decide) (by decide) (by decide) (by decide) (by decide) (by decide) (by decide)
          have hw1 := RW_fr hw f2 (by decide) (by decide)
          have hi1' : gI σc1 19 = nI i := by rw [f1.1 19 (by decide)]; exact hi
          have hd11 : gI σc1 18 = nI L := by rw [f1.1 18 (by decide)]; exact hd1
          have hd21 : gI σr1 13 = nI L := by rw [f2.1 13 (by decide)]; exact hd2
          have htok1 : gI σr1 2 = gI σr 2 := f2.1 2 (by decide)
          have hat1 : gI σr1 3 = nI (bg l i) := by rw [f2.1 3 (by decide)]; exact hat
          have hsv1 : SVD l σc1 σr1 L := SVD_fr hsv f1 f2 (by decide) (by decide) (by decide) (by decide) (by decide) (by decide) (by decide) (by decide) (by decide) (by decide)
          refine SR1_tr (fr_wk f1 (by simp) (by simp) (by simp) (by simp) (by simp)) (fr_wk f2 (by simp) (by simp) (by simp) (by simp) (by simp)) (Nat.le_refl i) ?_
          simp (disch := omega) only [ej_bi_s, ej_bl_s, ej_bv_s, ej_nm_e, L_0, bI_t, if_true, if_false, ile_t, ile_f, ilt_t, ilt_f, ieq_t, ieq_f, ieq_m, ieq_m2, ieq_mm, ilt_m, ilt_m2, ile_m, ile_m2]
          by_cases h43 : S = 43 ∨ S = 45
          · have hi1 := hnx (by omega)
            have hrsS : gI σr1 2 = nI S := by
              rw [htok1]
              rcases h43 with h | h
              · rw [h]; exact (heq 43 (by omega) (by omega) (by omega) (by omega) (by omega) (by omega)).mpr h
              · rw [h]; exact (heq 45 (by omega) (by omega) (by omega) (by omega) (by omega) (by omega)).mpr h
            have ec2 : (if nI S = 43 then (m6_workOut_135 n (m6_workOut_18 n k) (nI turn) σc1) else (if nI S = 45 then (m6_workOut_135 n (m6_workOut_18 n k) (nI turn) σc1) else (if gI σc1 18 = nI 0 then (some (1, σc1)) else ej_bi (m6_close n (nI S) σc1) fun r24 s23 => (if r24 = nI 0 then (some (nI 0, s23)) else ej_bi (m6_endFactor n s23) fun r26 s25 => (if r26 = nI 0 then (some (nI 0, s25)) else (m6_workOut_18 n k (nI 1) (nI turn + 1) (uI s25 19 ((gI s25 19) + 1)))))))) = m6_workOut_18 n k (nI 0) (nI (turn + 1)) (uI (uI σc1 14 (nI i)) 19 (nI (i + 1))) := by
              unfold m6_workOut_135
              rcases h43 with h | h
              · simp (disch := omega) only [↓L_m1, L_0, L_1, L_2, L_3, L_4, L_5, L_6, L_7, L_8, L_9, L_10, L_11, L_12, L_13, L_14, L_15, L_16, L_17, L_18, L_19, L_20, L_21, L_22, L_23, L_24, L_31, L_32, L_33, L_35, L_37, L_40, L_41, L_42, L_43, L_44, L_45, L_46, L_47, L_48, L_57, L_58, L_59, L_61, L_63, L_64, L_65, L_90, L_95, L_96, L_97, L_122, L_123, L_125, L_200, L_255, L_300, L_500, L_576, L_600, L_601, L_602, L_1200, L_1800, L_2400, L_3000, L_4000, L_4096, L_5000, L_30000, L_50000, L_60000, L_70000, L_100000, L_200000, L_1000000, L_1000001, ej_bi_s, ej_bl_s, ej_bv_s, ej_nm_e, s_IJ, s_IA, s_IB, s_IM, s_JI, s_JA, s_JB, s_JM, s_AI, s_AJ, s_AB, s_AM, s_BI, s_BJ, s_BA, s_BM, s_MI, s_MJ, s_MA, s_MB, s_II_s, s_II_n, s_JJ_s, s_JJ_n, s_AA_s, s_AA_n, s_BB_s, s_BB_n, s_MM_s, s_MM_n, pk_us, pk_un, pk_uLs, pk_uLn, if_true, if_false, ile_t, ile_f, ilt_t, ilt_f, ieq_t, ieq_f, ieq_m, ieq_m2, ieq_mm, ilt_m, ilt_m2, ile_m, ile_m2, ck_t, nI_clamp, nI_add, pk_mul, nI_m1, pk_sub, h, hi1']
              · simp (disch := omega) only [↓L_m1, L_0, L_1, L_2, L_3, L_4, L_5, L_6, L_7, L_8, L_9, L_10, L_11, L_12, L_13, L_14, L_15, L_16, L_17, L_18, L_19, L_20, L_21, L_22, L_23, L_24, L_31, L_32, L_33, L_35, L_37, L_40, L_41, L_42, L_43, L_44, L_45, L_46, L_47, L_48, L_57, L_58, L_59, L_61, L_63, L_64, L_65, L_90, L_95, L_96, L_97, L_122, L_123, L_125, L_200, L_255, L_300, L_500, L_576, L_600, L_601, L_602, L_1200, L_1800, L_2400, L_3000, L_4000, L_4096, L_5000, L_30000, L_50000, L_60000, L_70000, L_100000, L_200000, L_1000000, L_1000001, ej_bi_s, ej_bl_s, ej_bv_s, ej_nm_e, s_IJ, s_IA, s_IB, s_IM, s_JI, s_JA, s_JB, s_JM, s_AI, s_AJ, s_AB, s_AM, s_BI, s_BJ, s_BA, s_BM, s_MI, s_MJ, s_MA, s_MB, s_II_s, s_II_n, s_JJ_s, s_JJ_n, s_AA_s, s_AA_n, s_BB_s, s_BB_n, s_MM_s, s_MM_n, pk_us, pk_un, pk_uLs, pk_uLn, if_true, if_false, ile_t, ile_f, ilt_t, ilt_f, ieq_t, ieq_f, ieq_m, ieq_m2, ieq_mm, ilt_m, ilt_m2, ile_m, ile_m2, ck_t, nI_clamp, nI_add, pk_mul, nI_m1, pk_sub, h, hi1']
            have h0r : RT (uA (uA (uA (uA σr1 5 L (gI σr1 14)) 6 L (nI S)) 7 L (nI (bg l i))) 9 L (nI 0)) f l i := RT_fr hr1 (fr_uA (I := []) (J := []) (A := [5, 6, 7, 9]) (B := []) (M := []) (fr_uA (fr_uA (fr_uA fr_rf (by simp)) (by simp)) (by simp)) (by simp)) (by decide) (by decide) (by decide) (by decide) (by decide) (by decide) (by decide) (by decide) (by decide)
            obtain ⟨σr', er, hr', fr'⟩ := RT_next hn h0r
            have fr0 : fr [1, 2, 3, 4, 5] [0] [5, 6, 7, 9] [] [] σr1 σr' := fr_tr (fr_uA (fr_uA (fr_uA (fr_uA fr_rf (by simp)) (by simp)) (by simp)) (by simp)) (fr_wk fr' (by simp) (by simp) (by simp) (by simp) (by simp))
            have e185 : m11_closes_185 n σr1 = some (nI 0, σr') := by
              unfold m11_closes_185
              rw [hd21]
              simp (disch := omega) only [ej_bi_s, ej_bl_s, ej_bv_s, ej_nm_e, s_IJ, s_IA, s_IB, s_IM, s_JI, s_JA, s_JB, s_JM, s_AI, s_AJ, s_AB, s_AM, s_BI, s_BJ, s_BA, s_BM, s_MI, s_MJ, s_MA, s_MB, s_II_s, s_II_n, s_JJ_s, s_JJ_n, s_AA_s, s_AA_n, s_BB_s, s_BB_n, s_MM_s, s_MM_n, pk_us, pk_un, pk_uLs, pk_uLn, ck_t, nI_clamp, nI_add, pk_mul, nI_m1, pk_sub, hd21, hrsS, hat1, er, L_0]
            have er2 : (ej_bi (m11_closes_167 n (m11_closes_0 n (k3 + 1)) σr1) fun r9 s8 => m11_isSum_21 n (k2 + 1) r9 s8) = m11_isSum_21 n (k2 + 1) (nI 0) σr' := by
              unfold m11_closes_167
              rw [hrsS]
              rcases h43 with h | h
              · simp (disch := omega) only [h, ↓L_m1, L_0, L_1, L_2, L_3, L_4, L_5, L_6, L_7, L_8, L_9, L_10, L_11, L_12, L_13, L_14, L_15, L_16, L_17, L_18, L_19, L_20, L_21, L_22, L_23, L_24, L_31, L_32, L_33, L_35, L_37, L_40, L_41, L_42, L_43, L_44, L_45, L_46, L_47, L_48, L_57, L_58, L_59, L_61, L_63, L_64, L_65, L_90, L_95, L_96, L_97, L_122, L_123, L_125, L_200, L_255, L_300, L_500, L_576, L_600, L_601, L_602, L_1200, L_1800, L_2400, L_3000, L_4000, L_4096, L_5000, L_30000, L_50000, L_60000, L_70000, L_100000, L_200000, L_1000000, L_1000001, if_true, if_false, ile_t, ile_f, ilt_t, ilt_f, ieq_t, ieq_f, ieq_m, ieq_m2, ieq_mm, ilt_m, ilt_m2, ile_m, ile_m2, e185, ej_bi_s, ej_bl_s, ej_bv_s, ej_nm_e]
              · simp (disch := omega) only [h, ↓L_m1, L_0, L_1, L_2, L_3, L_4, L_5, L_6, L_7, L_8, L_9, L_10, L_11, L_12, L_13, L_14, L_15, L_16, L_17, L_18, L_19, L_20, L_21, L_22, L_23, L_24, L_31, L_32, L_33, L_35, L_37, L_40, L_41, L_42, L_43, L_44, L_45, L_46, L_47, L_48, L_57, L_58, L_59, L_61, L_63, L_64, L_65, L_90, L_95, L_96, L_97, L_122, L_123, L_125, L_200, L_255, L_300, L_500, L_576, L_600, L_601, L_602, L_1200, L_1800, L_2400, L_3000, L_4000, L_4096, L_5000, L_30000, L_50000, L_60000, L_70000, L_100000, L_200000, L_1000000, L_1000001, if_true, if_false, ile_t, ile_f, ilt_t, ilt_f, ieq_t, ieq_f, ieq_m, ieq_m2, ieq_mm, ilt_m, ilt_m2, ile_m, ile_m2, e185, ej_bi_s, ej_bl_s, ej_bv_s, ej_nm_e]
            rw [ec2, er2]
            have fc0 : fr [14, 19] [] [] [] [] σc1 (uI (uI σc1 14 (nI i)) 19 (nI (i + 1))) := fr_uI (fr_uI fr_rf (by simp)) (by simp)
            refine SR1_tr (fr_wk fc0 (by simp) (by simp) (by simp) (by simp) (by simp)) (fr_wk fr0 (by simp) (by simp) (by simp) (by simp) (by simp)) (Nat.le_succ i) ?_
            refine ((ih (turn + 1) (i + 1) L _ σr' k (k2 + 1) k3 (by omega) (by omega) (by omega) (by omega) (TK_fr hc1 fc0 (by decide) (by decide) (by decide) (by decide) (by decide) (by decide) (by decide)) hr' (RW_fr hw1 fr0 (by decide) (by decide)) s_II_s hi1 (by omega) (by omega) (by rw [fc0.1 18 (by decide)]; exact hd11) (by rw [fr0.1 13 (by decide)]; exact hd21) ?_).1 ⟨.inr ⟨i, S, by omega, ?_, by rw [hS], h43, ?_, ?_, ?_, ?_⟩, .inl ⟨?_, ?_⟩⟩)
            · intro j hj
              have := hsv1 j hj
              unfold FRM at *
              rw [fc0.2.2.1 14 (by decide), fc0.2.2.1 15 (by decide), fc0.2.2.1 16 (by decide), fc0.2.2.1 17 (by decide), fr0.2.2.1 8 (by decide), fr0.2.2.1 10 (by decide), fr'.2.2.1 5 (by decide), fr'.2.2.1 6 (by decide), fr'.2.2.1 7 (by decide), fr'.2.2.1 9 (by decide)]
              simp (disch := omega) only [s_IJ, s_IA, s_IB, s_IM, s_JI, s_JA, s_JB, s_JM, s_AI, s_AJ, s_AB, s_AM, s_BI, s_BJ, s_BA, s_BM, s_MI, s_MJ, s_MA, s_MB, s_II_s, s_II_n, s_JJ_s, s_JJ_n, s_AA_s, s_AA_n, s_BB_s, s_BB_n, s_MM_s, s_MM_n, pk_us, pk_un, pk_uLs, pk_uLn]
              exact this
            · simp (disch := omega) only [s_IJ, s_IA, s_IB, s_IM, s_JI, s_JA, s_JB, s_JM, s_AI, s_AJ, s_AB, s_AM, s_BI, s_BJ, s_BA, s_BM, s_MI, s_MJ, s_MA, s_MB, s_II_s, s_II_n, s_JJ_s, s_JJ_n, s_AA_s, s_AA_n, s_BB_s, s_BB_n, s_MM_s, s_MM_n, pk_us, pk_un, pk_uLs, pk_uLn]
            · rw [fr'.2.2.1 6 (by decide)]; simp (disch := omega) only [s_IJ, s_IA, s_IB, s_IM, s_JI, s_JA, s_JB, s_JM, s_AI, s_AJ, s_AB, s_AM, s_BI, s_BJ, s_BA, s_BM, s_MI, s_MJ, s_MA, s_MB, s_II_s, s_II_n, s_JJ_s, s_JJ_n, s_AA_s, s_AA_n, s_BB_s, s_BB_n, s_MM_s, s_MM_n, pk_us, pk_un, pk_uLs, pk_uLn]
            · rw [fr'.2.2.1 7 (by decide)]; simp (disch := omega) only [s_IJ, s_IA, s_IB, s_IM, s_JI, s_JA, s_JB, s_JM, s_AI, s_AJ, s_AB, s_AM, s_BI, s_BJ, s_BA, s_BM, s_MI, s_MJ, s_MA, s_MB, s_II_s, s_II_n, s_JJ_s, s_JJ_n, s_AA_s, s_AA_n, s_BB_s, s_BB_n, s_MM_s, s_MM_n, pk_us, pk_un, pk_uLs, pk_uLn]
            · rw [fr'.2.2.1 5 (by decide), fc0.1 13 (by decide)]; simp (disch := omega) only [s_IJ, s_IA, s_IB, s_IM, s_JI, s_JA, s_JB, s_JM, s_AI, s_AJ, s_AB, s_AM, s_BI, s_BJ, s_BA, s_BM, s_MI, s_MJ, s_MA, s_MB, s_II_s, s_II_n, s_JJ_s, s_JJ_n, s_AA_s, s_AA_n, s_BB_s, s_BB_n, s_MM_s, s_MM_n, pk_us, pk_un, pk_uLs, pk_uLn]; exact q1.symm
            · rw [fc0.1 13 (by decide)]; exact q2
            · rw [fc0.1 16 (by decide), f1.1 16 (by decide)]; exact hz
            · rw [fr'.2.2.1 9 (by decide)]; simp (disch := omega) only [s_IJ, s_IA, s_IB, s_IM, s_JI, s_JA, s_JB, s_JM, s_AI, s_AJ, s_AB, s_AM, s_BI, s_BJ, s_BA, s_BM, s_MI, s_MJ, s_MA, s_MB, s_II_s, s_II_n, s_JJ_s, s_JJ_n, s_AA_s, s_AA_n, s_BB_s, s_BB_n, s_MM_s, s_MM_n, pk_us, pk_un, pk_uLs, pk_uLn]
          · have m43 : ¬ nI S = nI 43 := fun z => h43 (.inl ((nI_eq (by omega) (by omega)).mp z))
            have m45 : ¬ nI S = nI 45 := fun z => h43 (.inr ((nI_eq (by omega) (by omega)).mp z))
            have n43 : ¬ gI σr1 2 = nI 43 := fun z => h43 (.inl ((heq 43 (by omega) (by omega) (by omega) (by omega) (by omega) (by omega)).mp (by rw [← htok1]; exact z)))
            have n45 : ¬ gI σr1 2 = nI 45 := fun z => h43 (.inr ((heq 45 (by omega) (by omega) (by omega) (by omega) (by omega) (by omega)).mp (by rw [← htok1]; exact z)))
            unfold m11_closes_167
            rw [L_43, L_45, if_neg m43, if_neg m45, if_neg n43, if_neg n45, hd11, hd21]
            by_cases hL0 : L = 0
            · subst hL0
              refine ⟨true, σc1, σr1, ?_, ?_, fr_rf, fr_rf, fun _ => ⟨i, hic, Nat.le_refl i, hi1', hr1, q1, q2⟩, fun z => by cases z⟩
              · simp (disch := omega) only [if_true, if_false, ile_t, ile_f, ilt_t, ilt_f, ieq_t, ieq_f, ieq_m, ieq_m2, ieq_mm, ilt_m, ilt_m2, ile_m, ile_m2]; rfl
              · simp (disch := omega) only [L_0, if_true, if_false, ile_t, ile_f, ilt_t, ilt_f, ieq_t, ieq_f, ieq_m, ieq_m2, ieq_mm, ilt_m, ilt_m2, ile_m, ile_m2, ej_bi_s, ej_bl_s, ej_bv_s, ej_nm_e, L_1]
                rw [u_11_isSum_21]
                simp (disch := omega) only [L_0, L_1, if_true, if_false, ile_t, ile_f, ilt_t, ilt_f, ieq_t, ieq_f, ieq_m, ieq_m2, ieq_mm, ilt_m, ilt_m2, ile_m, ile_m2]
                rfl
            · simp (disch := omega) only [L_0, if_true, if_false, ile_t, ile_f, ilt_t, ilt_f, ieq_t, ieq_f, ieq_m, ieq_m2, ieq_mm, ilt_m, ilt_m2, ile_m, ile_m2]
              by_cases h41 : S = 41
              · have hi1 := hnx (by omega)
                obtain ⟨L, rfl⟩ : ∃ L', L = L' + 1 := ⟨L - 1, by omega⟩
                have hcl : ∃ σc', m6_close n (nI S) σc1 = some (nI 1, σc') ∧ fr [13, 14, 15, 16, 17, 18] [] [] [] [] σc1 σc' ∧ gI σc' 18 = nI L ∧ gI σc' 13 = gA σc1 14 L ∧ gI σc' 14 = gA σc1 15 L ∧ gI σc' 15 = gA σc1 16 L ∧ gI σc' 16 = gA σc1 17 L ∧ gI σc' 17 = gI σc1 13 := by
                  refine ⟨_, by
                    unfold m6_close
                    simp (disch := omega) only [↓L_m1, L_0, L_1, L_2, L_3, L_4, L_5, L_6, L_7, L_8, L_9, L_10, L_11, L_12, L_13, L_14, L_15, L_16, L_17, L_18, L_19, L_20, L_21, L_22, L_23, L_24, L_31, L_32, L_33, L_35, L_37, L_40, L_41, L_42, L_43, L_44, L_45, L_46, L_47, L_48, L_57, L_58, L_59, L_61, L_63, L_64, L_65, L_90, L_95, L_96, L_97, L_122, L_123, L_125, L_200, L_255, L_300, L_500, L_576, L_600, L_601, L_602, L_1200, L_1800, L_2400, L_3000, L_4000, L_4096, L_5000, L_30000, L_50000, L_60000, L_70000, L_100000, L_200000, L_1000000, L_1000001, ej_bi_s, ej_bl_s, ej_bv_s, ej_nm_e, s_IJ, s_IA, s_IB, s_IM, s_JI, s_JA, s_JB, s_JM, s_AI, s_AJ, s_AB, s_AM, s_BI, s_BJ, s_BA, s_BM, s_MI, s_MJ, s_MA, s_MB, s_II_s, s_II_n, s_JJ_s, s_JJ_n, s_AA_s, s_AA_n, s_BB_s, s_BB_n, s_MM_s, s_MM_n, pk_us, pk_un, pk_uLs, pk_uLn, if_true, if_false, ile_t, ile_f, ilt_t, ilt_f, ieq_t, ieq_f, ieq_m, ieq_m2, ieq_mm, ilt_m, ilt_m2, ile_m, ile_m2, ck_t, nI_clamp, nI_add, pk_mul, nI_m1, pk_sub, h41, hd11, Nat.add_sub_cancel]
                    rfl, ?_, ?_, ?_, ?_, ?_, ?_, ?_⟩
                  · exact fr_uI (fr_uI (fr_uI (fr_uI (fr_uI (fr_uI fr_rf (by simp)) (by simp)) (by simp)) (by simp)) (by simp)) (by simp)
                  · simp (disch := omega) only [s_IJ, s_IA, s_IB, s_IM, s_JI, s_JA, s_JB, s_JM, s_AI, s_AJ, s_AB, s_AM, s_BI, s_BJ, s_BA, s_BM, s_MI, s_MJ, s_MA, s_MB, s_II_s, s_II_n, s_JJ_s, s_JJ_n, s_AA_s, s_AA_n, s_BB_s, s_BB_n, s_MM_s, s_MM_n, pk_us, pk_un, pk_uLs, pk_uLn]
                  · simp (disch := omega) only [s_IJ, s_IA, s_IB, s_IM, s_JI, s_JA, s_JB, s_JM, s_AI, s_AJ, s_AB, s_AM, s_BI, s_BJ, s_BA, s_BM, s_MI, s_MJ, s_MA, s_MB, s_II_s, s_II_n, s_JJ_s, s_JJ_n, s_AA_s, s_AA_n, s_BB_s, s_BB_n, s_MM_s, s_MM_n, pk_us, pk_un, pk_uLs, pk_uLn]
                  · simp (disch := omega) only [s_IJ, s_IA, s_IB, s_IM, s_JI, s_JA, s_JB, s_JM, s_AI, s_AJ, s_AB, s_AM, s_BI, s_BJ, s_BA, s_BM, s_MI, s_MJ, s_MA, s_MB, s_II_s, s_II_n, s_JJ_s, s_JJ_n, s_AA_s, s_AA_n, s_BB_s, s_BB_n, s_MM_s, s_MM_n, pk_us, pk_un, pk_uLs, pk_uLn]
                  · simp (disch := omega) only [s_IJ, s_IA, s_IB, s_IM, s_JI, s_JA, s_JB, s_JM, s_AI, s_AJ, s_AB, s_AM, s_BI, s_BJ, s_BA, s_BM, s_MI, s_MJ, s_MA, s_MB, s_II_s, s_II_n, s_JJ_s, s_JJ_n, s_AA_s, s_AA_n, s_BB_s, s_BB_n, s_MM_s, s_MM_n, pk_us, pk_un, pk_uLs, pk_uLn]
                  · simp (disch := omega) only [s_IJ, s_IA, s_IB, s_IM, s_JI, s_JA, s_JB, s_JM, s_AI, s_AJ, s_AB, s_AM, s_BI, s_BJ, s_BA, s_BM, s_MI, s_MJ, s_MA, s_MB, s_II_s, s_II_n, s_JJ_s, s_JJ_n, s_AA_s, s_AA_n, s_BB_s, s_BB_n, s_MM_s, s_MM_n, pk_us, pk_un, pk_uLs, pk_uLn]
                  · simp (disch := omega) only [s_IJ, s_IA, s_IB, s_IM, s_JI, s_JA, s_JB, s_JM, s_AI, s_AJ, s_AB, s_AM, s_BI, s_BJ, s_BA, s_BM, s_MI, s_MJ, s_MA, s_MB, s_II_s, s_II_n, s_JJ_s, s_JJ_n, s_AA_s, s_AA_n, s_BB_s, s_BB_n, s_MM_s, s_MM_n, pk_us, pk_un, pk_uLs, pk_uLn]
                obtain ⟨σc2, e3, f3, d1, d2, d3, d4, d5, d6⟩ := hcl
                obtain ⟨σr2, e4, hr2, f4⟩ := RT_next hn hr1
                have h2r : fr [13] [] [] [] [] σr2 (uI σr2 13 (nI L)) := fr_uI fr_rf (by simp)
                have hr3 := RT_fr hr2 h2r (by decide) (by decide) (by decide) (by decide) (by decide) (by decide) (by decide) (by decide) (by decide)
                have f42 : fr [1, 2, 3, 4, 5, 13] [0] [] [] [] σr1 (uI σr2 13 (nI L)) := fr_tr (fr_wk f4 (by simp) (by simp) (by simp) (by simp) (by simp)) (fr_wk h2r (by simp) (by simp) (by simp) (by simp) (by simp))
                have hc2 := TK_fr hc1 f3 (by decide) (by decide) (by decide) (by decide) (by decide) (by decide) (by decide)
                have hfr := hsv1 L (Nat.lt_succ_self L)
                obtain ⟨ok2, σc3, σr3, e5, e6, f5, f6, g3, g4⟩ := s_endFactor (n := n) (L := L) (σr := uI σr2 13 (nI L)) hc2 s_II_s (by omega) (by
                  rw [d5, d4, f42.2.2.1 9 (by decide), f42.2.2.1 8 (by decide), f42.2.2.1 10 (by decide)]; exact hfr.2) (by rw [d6, f42.1 14 (by decide)]; exact q1) (by rw [d6]; exact q2)
                have er2 : (if gI σr1 2 = nI 41 then ej_bv (m11_next n σr1) fun s10 => ej_nm (uI s10 13 ((gI s10 13) - 1)) fun s11 => ((m11_closes_0 n (k3 + 1)) s11) else ej_bi (m11_failsHere n 1 σr1) fun r13 s12 => (some (2, s12))) = if ok2 = true then m11_closes_52 n (m11_closes_0 n k3) σr3 else some (nI 2, σr3) := by
                  rw [if_pos (by rw [htok1]; exact (heq 41 (by omega) (by omega) (by omega) (by omega) (by omega) (by omega)).mpr h41), e4, ej_bv_s, ej_nm_e, f4.1 13 (by decide), hd21, L_1, pk_sub (by omega), Nat.add_sub_cancel]
                  exact e6 k3
                rw [L_41, er2, e3]
                simp (disch := omega) only [ej_bi_s, ej_bl_s, ej_bv_s, ej_nm_e, if_true, if_false, ile_t, ile_f, ilt_t, ilt_f, ieq_t, ieq_f, ieq_m, ieq_m2, ieq_mm, ilt_m, ilt_m2, ile_m, ile_m2, e5, ibI]
                have fcc : fr [13, 14, 15, 16, 17, 18, 19, 20, 21] [] [14, 15, 16, 17] [] [] σc1 σc3 := fr_tr (fr_wk f3 (by simp) (by simp) (by simp) (by simp) (by simp)) (fr_wk f5 (by simp) (by simp) (by simp) (by simp) (by simp))
                have frr : fr [1, 2, 3, 4, 5, 9, 10, 13, 14] [0] [5, 6, 7, 8, 9, 10] [] [] σr1 σr3 := fr_tr (fr_wk f42 (by simp) (by simp) (by simp) (by simp) (by simp)) (fr_wk f6 (by simp) (by simp) (by simp) (by simp) (by simp))
                cases ok2
                · refine ⟨false, σc3, σr3, ?_, ?_, fcc, frr, fun z => (by cases z), fun _ => g4 rfl⟩
                  · simp only [Bool.false_eq_true, if_false]; rfl
                  · simp only [Bool.false_eq_true, if_false, ej_bi_s, ej_bl_s, ej_bv_s, ej_nm_e]
                    rw [u_11_isSum_21]
                    simp (disch := omega) only [L_0, L_1, if_true, if_false, ile_t, ile_f, ilt_t, ilt_f, ieq_t, ieq_f, ieq_m, ieq_m2, ieq_mm, ilt_m, ilt_m2, ile_m, ile_m2]
                    rfl
                · obtain ⟨p1, p2, p3⟩ := g3 rfl
                  simp only [if_true, L_1, nI_add]
                  have hc3 := TK_fr hc2 f5 (by decide) (by decide) (by decide) (by decide) (by decide) (by decide) (by decide)
                  have hr4 := RT_fr hr3 f6 (by decide) (by decide) (by decide) (by decide) (by decide) (by decide) (by decide) (by decide) (by decide)
                  have f7 : fr [19] [] [] [] [] σc3 (uI σc3 19 (gI σc3 19 + nI 1)) := fr_uI fr_rf (by simp)
                  refine SR1_tr (fr_tr fcc (fr_wk f7 (by simp) (by simp) (by simp) (by simp) (by simp))) frr (Nat.le_succ i) ?_
                  have fr5 : fr [1, 2, 3, 4, 5, 9, 10, 13, 14] [0] [] [] [] σr1 σr3 := fr_tr (fr_wk f42 (by simp) (by simp) (by simp) (by simp) (by simp)) (fr_wk f6 (by simp) (by simp) (by simp) (by simp) (by simp))
                  have fc5 : fr [13, 14, 15, 16, 17, 18, 19, 20, 21] [] [] [] [] σc1 (uI σc3 19 (gI σc3 19 + nI 1)) := fr_tr (fr_wk f3 (by simp) (by simp) (by simp) (by simp) (by simp)) (fr_tr (fr_wk f5 (by simp) (by simp) (by simp) (by simp) (by simp)) (fr_wk f7 (by simp) (by simp) (by simp) (by simp) (by simp)))
                  refine ((ih (turn + 1) (i + 1) L (uI σc3 19 (gI σc3 19 + nI 1)) σr3 k (k2 + 1) k3 (by omega) (by omega) (by omega) (by omega) (TK_fr hc3 f7 (by decide) (by decide) (by decide) (by decide) (by decide) (by decide) (by decide)) hr4 (RW_fr hw1 fr5 (by decide) (by decide)) ?_ hi1 (by omega) (by omega) ?_ ?_ ?_).2 ?_ ?_ ?_ ?_)
                  · rw [s_II_s, f5.1 19 (by decide), f3.1 19 (by decide), hi1', nI_add]
                  · rw [f7.1 18 (by decide), f5.1 18 (by decide)]; exact d1
                  · rw [f6.1 13 (by decide)]; exact s_II_s
                  · have := SVD_fr hsv1 fc5 fr5 (by decide) (by decide) (by decide) (by decide) (by decide) (by decide) (by decide) (by decide) (by decide) (by decide)
                    exact fun j hj => this j (by omega)
                  · rw [f7.1 14 (by decide), f7.1 13 (by decide), f5.1 14 (by decide), f5.1 13 (by decide), d3, d2, fr5.2.2.1 6 (by decide), fr5.2.2.1 5 (by decide), fr5.2.2.1 7 (by decide)]; exact hfr.1
                  · rw [f7.1 16 (by decide)]; exact p3
                  · rw [f7.1 15 (by decide)]; exact p1
                  · rw [f7.1 15 (by decide)]; exact p2
              · refine ⟨false, uI (uI σc1 20 (nI 1)) 21 (nI i), uI (uI σr1 9 (nI 1)) 10 (nI (bg l i)), ?_, ?_, fr_uI (fr_uI fr_rf (by simp)) (by simp), fr_uI (fr_uI fr_rf (by simp)) (by simp), fun z => (by cases z), fun _ => ⟨i, 1, ?_, ?_, ?_, ?_, by omega⟩⟩
                · unfold m6_close
                  simp (disch := omega) only [ej_bi_s, ej_bl_s, ej_bv_s, ej_nm_e, ↓L_m1, L_0, L_1, L_2, L_3, L_4, L_5, L_6, L_7, L_8, L_9, L_10, L_11, L_12, L_13, L_14, L_15, L_16, L_17, L_18, L_19, L_20, L_21, L_22, L_23, L_24, L_31, L_32, L_33, L_35, L_37, L_40, L_41, L_42, L_43, L_44, L_45, L_46, L_47, L_48, L_57, L_58, L_59, L_61, L_63, L_64, L_65, L_90, L_95, L_96, L_97, L_122, L_123, L_125, L_200, L_255, L_300, L_500, L_576, L_600, L_601, L_602, L_1200, L_1800, L_2400, L_3000, L_4000, L_4096, L_5000, L_30000, L_50000, L_60000, L_70000, L_100000, L_200000, L_1000000, L_1000001, if_true, if_false, ile_t, ile_f, ilt_t, ilt_f, ieq_t, ieq_f, ieq_m, ieq_m2, ieq_mm, ilt_m, ilt_m2, ile_m, ile_m2, x_fail, hi1', bz_n0]
                  rfl
                · rw [L_41, if_neg (fun z => h41 ((heq 41 (by omega) (by omega) (by omega) (by omega) (by omega) (by omega)).mp (by rw [← htok1]; exact z))), r_failsHere, hat1]
                  simp only [ej_bi_s, ej_bl_s, ej_bv_s, ej_nm_e, ↓L_m1, L_0, L_1, L_2, L_3, L_4, L_5, L_6, L_7, L_8, L_9, L_10, L_11, L_12, L_13, L_14, L_15, L_16, L_17, L_18, L_19, L_20, L_21, L_22, L_23, L_24, L_31, L_32, L_33, L_35, L_37, L_40, L_41, L_42, L_43, L_44, L_45, L_46, L_47, L_48, L_57, L_58, L_59, L_61, L_63, L_64, L_65, L_90, L_95, L_96, L_97, L_122, L_123, L_125, L_200, L_255, L_300, L_500, L_576, L_600, L_601, L_602, L_1200, L_1800, L_2400, L_3000, L_4000, L_4096, L_5000, L_30000, L_50000, L_60000, L_70000, L_100000, L_200000, L_1000000, L_1000001]
                  rw [u_11_isSum_21]
                  simp (disch := omega) only [↓L_m1, L_0, L_1, L_2, L_3, L_4, L_5, L_6, L_7, L_8, L_9, L_10, L_11, L_12, L_13, L_14, L_15, L_16, L_17, L_18, L_19, L_20, L_21, L_22, L_23, L_24, L_31, L_32, L_33, L_35, L_37, L_40, L_41, L_42, L_43, L_44, L_45, L_46, L_47, L_48, L_57, L_58, L_59, L_61, L_63, L_64, L_65, L_90, L_95, L_96, L_97, L_122, L_123, L_125, L_200, L_255, L_300, L_500, L_576, L_600, L_601, L_602, L_1200, L_1800, L_2400, L_3000, L_4000, L_4096, L_5000, L_30000, L_50000, L_60000, L_70000, L_100000, L_200000, L_1000000, L_1000001, if_true, if_false, ile_t, ile_f, ilt_t, ilt_f, ieq_t, ieq_f, ieq_m, ieq_m2, ieq_mm, ilt_m, ilt_m2, ile_m, ile_m2]
                  rfl
                · simp (disch := omega) only [s_IJ, s_IA, s_IB, s_IM, s_JI, s_JA, s_JB, s_JM, s_AI, s_AJ, s_AB, s_AM, s_BI, s_BJ, s_BA, s_BM, s_MI, s_MJ, s_MA, s_MB, s_II_s, s_II_n, s_JJ_s, s_JJ_n, s_AA_s, s_AA_n, s_BB_s, s_BB_n, s_MM_s, s_MM_n, pk_us, pk_un, pk_uLs, pk_uLn]
                · simp (disch := omega) only [s_IJ, s_IA, s_IB, s_IM, s_JI, s_JA, s_JB, s_JM, s_AI, s_AJ, s_AB, s_AM, s_BI, s_BJ, s_BA, s_BM, s_MI, s_MJ, s_MA, s_MB, s_II_s, s_II_n, s_JJ_s, s_JJ_n, s_AA_s, s_AA_n, s_BB_s, s_BB_n, s_MM_s, s_MM_n, pk_us, pk_un, pk_uLs, pk_uLn]
                · simp (disch := omega) only [s_IJ, s_IA, s_IB, s_IM, s_JI, s_JA, s_JB, s_JM, s_AI, s_AJ, s_AB, s_AM, s_BI, s_BJ, s_BA, s_BM, s_MI, s_MJ, s_MA, s_MB, s_II_s, s_II_n, s_JJ_s, s_JJ_n, s_AA_s, s_AA_n, s_BB_s, s_BB_n, s_MM_s, s_MM_n, pk_us, pk_un, pk_uLs, pk_uLn]
                · simp (disch := omega) only [s_IJ, s_IA, s_IB, s_IM, s_JI, s_JA, s_JB, s_JM, s_AI, s_AJ, s_AB, s_AM, s_BI, s_BJ, s_BA, s_BM, s_MI, s_MJ, s_MA, s_MB, s_II_s, s_II_n, s_JJ_s, s_JJ_n, s_AA_s, s_AA_n, s_BB_s, s_BB_n, s_MM_s, s_MM_n, pk_us, pk_un, pk_uLs, pk_uLn]
end P59
