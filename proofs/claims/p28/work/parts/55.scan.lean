/-! THE SCAN OF THE CLASS -/
def SK (σ : ej_S) (l : List Nat) (c : Nat) : Prop := gI σ 12 = nI c ∧ ∀ i, i < c → gA σ 11 i = nI (sr l (bg l i)) ∧ gA σ 12 i = nI (bg l i) ∧ gA σ 13 i = nI (en l (bg l i)) ∧ gB σ 0 i = mn l (bg l i)
def TK (σ : ej_S) (l : List Nat) : Prop := TX σ 6 l ∧ ∃ c, c ≤ 600 ∧ bg l c = l.length ∧ (∀ i, i < c → bg l i < l.length) ∧ SK σ l (c + 1)
section P55
variable {n c : Nat} {σ : ej_S} {l : List Nat}
theorem x_add (h : SK σ l c) (hc : c < 601) : ∃ σ', m8_add n (nI (sr l (bg l c))) (nI (bg l c)) (nI (en l (bg l c))) (mn l (bg l c)) σ = some σ' ∧ SK σ' l (c + 1) ∧ fr [12] [] [11, 12, 13] [0] [] σ σ' := by
  obtain ⟨h1, h2⟩ := h
  refine ⟨_, by unfold m8_add; rw [h1]; simp (disch := omega) only [↓L_m1, L_0, L_1, L_2, L_3, L_4, L_5, L_6, L_7, L_8, L_9, L_10, L_11, L_12, L_13, L_14, L_15, L_16, L_17, L_18, L_19, L_20, L_21, L_22, L_23, L_24, L_31, L_32, L_33, L_35, L_37, L_40, L_41, L_42, L_43, L_44, L_45, L_46, L_47, L_48, L_57, L_58, L_59, L_61, L_63, L_64, L_65, L_90, L_95, L_96, L_97, L_122, L_123, L_125, L_200, L_255, L_300, L_500, L_576, L_600, L_601, L_602, L_1200, L_1800, L_2400, L_3000, L_4000, L_4096, L_5000, L_30000, L_50000, L_60000, L_70000, L_100000, L_200000, L_1000000, L_1000001, ej_bi_s, ej_bl_s, ej_bv_s, ej_nm_e, s_IJ, s_IA, s_IB, s_IM, s_JI, s_JA, s_JB, s_JM, s_AI, s_AJ, s_AB, s_AM, s_BI, s_BJ, s_BA, s_BM, s_MI, s_MJ, s_MA, s_MB, s_II_s, s_II_n, s_JJ_s, s_JJ_n, s_AA_s, s_AA_n, s_BB_s, s_BB_n, s_MM_s, s_MM_n, pk_us, pk_un, pk_uLs, pk_uLn, if_true, if_false, ile_t, ile_f, ilt_t, ilt_f, ieq_t, ieq_f, ieq_m, ieq_m2, ieq_mm, ilt_m, ilt_m2, ile_m, ile_m2, ck_t, nI_clamp, nI_add, pk_mul, nI_m1, pk_sub, h1]; rfl, ⟨s_II_s, ?_⟩, fr_uI (fr_uB (fr_uA (fr_uA (fr_uA fr_rf (by simp)) (by simp)) (by simp)) (by simp)) (by simp)⟩
  intro i hi
  rcases Nat.lt_or_ge i c with q | q
  · have := h2 i q
    simp (disch := omega) only [s_IJ, s_IA, s_IB, s_IM, s_JI, s_JA, s_JB, s_JM, s_AI, s_AJ, s_AB, s_AM, s_BI, s_BJ, s_BA, s_BM, s_MI, s_MJ, s_MA, s_MB, s_II_s, s_II_n, s_JJ_s, s_JJ_n, s_AA_s, s_AA_n, s_BB_s, s_BB_n, s_MM_s, s_MM_n, pk_us, pk_un, pk_uLs, pk_uLn]
    exact this
  · have e : i = c := by omega
    subst e
    simp (disch := omega) only [s_IJ, s_IA, s_IB, s_IM, s_JI, s_JA, s_JB, s_JM, s_AI, s_AJ, s_AB, s_AM, s_BI, s_BJ, s_BA, s_BM, s_MI, s_MJ, s_MA, s_MB, s_II_s, s_II_n, s_JJ_s, s_JJ_n, s_AA_s, s_AA_n, s_BB_s, s_BB_n, s_MM_s, s_MM_n, pk_us, pk_un, pk_uLs, pk_uLn, and_self]
theorem srtc_dg {b : Nat} (hb : b < 256) (h : srtc b = 48) : isDg b = true := (by decide +kernel : ∀ b, b < 256 → srtc b = 48 → isDg b = true) b hb h
theorem srtc_up {b : Nat} (hb : b < 256) (h : srtc b = 65) : isUp b = true := (by decide +kernel : ∀ b, b < 256 → srtc b = 65 → isUp b = true) b hb h
theorem srtc_ns {b : Nat} (hb : b < 256) (h : srtc b = 97) : isNS b = true := (by decide +kernel : ∀ b, b < 256 → srtc b = 97 → isNS b = true) b hb h
theorem en_cons {p : Nat} (h : p < l.length) : en l p = p + 1 + spn (gon (sr l p)) (l.drop (p + 1)) := by
  unfold en sr
  rw [cd_drop h]
  simp only [enL, srL]
  omega
theorem tk_cons {p : Nat} (h : p < l.length) : tk l p = cd l p :: (l.drop (p + 1)).take (spn (gon (sr l p)) (l.drop (p + 1))) := by
  unfold tk sr
  rw [cd_drop h]
  simp only [enL, srL]
  rw [Nat.add_comm 1, List.take_succ_cons]
theorem tk_dg (hb : ∀ b ∈ l, b < 256) {p : Nat} (h : p < l.length) (hs : sr l p = 48) : ∀ b ∈ tk l p, isDg b = true := by
  intro b hm
  rw [tk_cons h] at hm
  rcases List.mem_cons.mp hm with e | e
  · subst e
    unfold sr at hs; rw [cd_drop h] at hs
    exact srtc_dg (cd_b hb h) hs
  · have := spn_all _ _ _ e
    rw [hs] at this
    simpa [gon] using this
theorem tk_len {p : Nat} (h : p ≤ l.length) : (tk l p).length = enL (l.drop p) := by
  have := enL_le (l.drop p)
  unfold tk; rw [List.length_take]; omega
theorem en_sub (p : Nat) : en l p - p = enL (l.drop p) := by unfold en; omega
theorem x_meaningOf (hn : 2000 < n) (h : TX σ 6 l) {p : Nat} (hp : p < l.length) : m8_meaningOf n (nI (sr l p)) (nI p) (nI (en l p)) σ = some (mn l p, σ) := by
  have hl := TX_len h
  have hs := sr_lt h.2.2.2 p
  have he := en_le (l := l) (p := p) (by omega)
  have hg := en_ge l p
  by_cases h1 : sr l p = 97
  · have hm : mn l p = lN (pkL ((tk l p).take 8)) := by unfold mn; rw [if_pos h1]
    unfold m8_meaningOf
    rw [hm, h1]
    simp (disch := omega) only [↓L_m1, L_0, L_1, L_2, L_3, L_4, L_5, L_6, L_7, L_8, L_9, L_10, L_11, L_12, L_13, L_14, L_15, L_16, L_17, L_18, L_19, L_20, L_21, L_22, L_23, L_24, L_31, L_32, L_33, L_35, L_37, L_40, L_41, L_42, L_43, L_44, L_45, L_46, L_47, L_48, L_57, L_58, L_59, L_61, L_63, L_64, L_65, L_90, L_95, L_96, L_97, L_122, L_123, L_125, L_200, L_255, L_300, L_500, L_576, L_600, L_601, L_602, L_1200, L_1800, L_2400, L_3000, L_4000, L_4096, L_5000, L_30000, L_50000, L_60000, L_70000, L_100000, L_200000, L_1000000, L_1000001, if_true, if_false, ile_t, ile_f, ilt_t, ilt_f, ieq_t, ieq_f, ieq_m, ieq_m2, ieq_mm, ilt_m, ilt_m2, ile_m, ile_m2]
    rw [x_packed hn h he hg]
    simp only [ej_bi_s, ej_bl_s, ej_bv_s, ej_nm_e]
    rw [en_sub, tk, List.take_take]
  · by_cases h2 : sr l p = 48
    · have hm : mn l p = (nI (nmC 0 (tk l p))).toInt64 := by unfold mn; rw [if_neg h1, if_pos h2]
      have hd := tk_dg h.2.2.2 hp h2
      unfold m8_meaningOf m8_numberOf
      rw [hm, h2]
      simp (disch := omega) only [↓L_m1, L_0, L_1, L_2, L_3, L_4, L_5, L_6, L_7, L_8, L_9, L_10, L_11, L_12, L_13, L_14, L_15, L_16, L_17, L_18, L_19, L_20, L_21, L_22, L_23, L_24, L_31, L_32, L_33, L_35, L_37, L_40, L_41, L_42, L_43, L_44, L_45, L_46, L_47, L_48, L_57, L_58, L_59, L_61, L_63, L_64, L_65, L_90, L_95, L_96, L_97, L_122, L_123, L_125, L_200, L_255, L_300, L_500, L_576, L_600, L_601, L_602, L_1200, L_1800, L_2400, L_3000, L_4000, L_4096, L_5000, L_30000, L_50000, L_60000, L_70000, L_100000, L_200000, L_1000000, L_1000001, if_true, if_false, ile_t, ile_f, ilt_t, ilt_f, ieq_t, ieq_f, ieq_m, ieq_m2, ieq_mm, ilt_m, ilt_m2, ile_m, ile_m2]
      rw [x_numberOf_5 h he n p 0 (by omega) hg (by omega) (by rw [en_sub]; exact hd)]
      simp only [ej_bi_s, ej_bl_s, ej_bv_s, ej_nm_e]
      rw [en_sub]; rfl
    · by_cases h3 : sr l p = 65
      · have hm : mn l p = (wv (tk l p) WT).toInt64 := by unfold mn; rw [if_neg h1, if_neg h2, if_pos h3]
        unfold m8_meaningOf m8_worthOfWord
        rw [hm, h3]
        simp (disch := omega) only [↓L_m1, L_0, L_1, L_2, L_3, L_4, L_5, L_6, L_7, L_8, L_9, L_10, L_11, L_12, L_13, L_14, L_15, L_16, L_17, L_18, L_19, L_20, L_21, L_22, L_23, L_24, L_31, L_32, L_33, L_35, L_37, L_40, L_41, L_42, L_43, L_44, L_45, L_46, L_47, L_48, L_57, L_58, L_59, L_61, L_63, L_64, L_65, L_90, L_95, L_96, L_97, L_122, L_123, L_125, L_200, L_255, L_300, L_500, L_576, L_600, L_601, L_602, L_1200, L_1800, L_2400, L_3000, L_4000, L_4096, L_5000, L_30000, L_50000, L_60000, L_70000, L_100000, L_200000, L_1000000, L_1000001, if_true, if_false, ile_t, ile_f, ilt_t, ilt_f, ieq_t, ieq_f, ieq_m, ieq_m2, ieq_mm, ilt_m, ilt_m2, ile_m, ile_m2]
        rw [x_worthOfWord_11 hn h hg he n 0 (by omega) (by omega)]
        simp only [ej_bi_s, ej_bl_s, ej_bv_s, ej_nm_e]
        rw [en_sub]; rfl
      · have hm : mn l p = 0 := by unfold mn; rw [if_neg h1, if_neg h2, if_neg h3]
        unfold m8_meaningOf
        rw [hm]
        simp (disch := omega) only [↓L_m1, L_0, L_1, L_2, L_3, L_4, L_5, L_6, L_7, L_8, L_9, L_10, L_11, L_12, L_13, L_14, L_15, L_16, L_17, L_18, L_19, L_20, L_21, L_22, L_23, L_24, L_31, L_32, L_33, L_35, L_37, L_40, L_41, L_42, L_43, L_44, L_45, L_46, L_47, L_48, L_57, L_58, L_59, L_61, L_63, L_64, L_65, L_90, L_95, L_96, L_97, L_122, L_123, L_125, L_200, L_255, L_300, L_500, L_576, L_600, L_601, L_602, L_1200, L_1800, L_2400, L_3000, L_4000, L_4096, L_5000, L_30000, L_50000, L_60000, L_70000, L_100000, L_200000, L_1000000, L_1000001, if_true, if_false, ile_t, ile_f, ilt_t, ilt_f, ieq_t, ieq_f, ieq_m, ieq_m2, ieq_mm, ilt_m, ilt_m2, ile_m, ile_m2]
theorem x_scan_124 (t1 : Nat) (h : TX σ 6 l) (hk : SK σ l c) (hc : c ≤ 600) (hb : bg l c = l.length) (hlt : ∀ i, i < c → bg l i < l.length) : ∃ σ', m8_scan_124 n t1 σ = some σ' ∧ TK σ' l ∧ fr [12] [] [11, 12, 13] [0] [] σ σ' := by
  obtain ⟨σ', e1, h1, f1⟩ := x_add (n := n) hk (by omega)
  have e2 : sr l l.length = 0 := (sr_0 h.2.2.2 _).mpr (Nat.le_refl _)
  have e3 : en l l.length = l.length := by unfold en; rw [List.drop_length]; rfl
  have e4 : mn l l.length = 0 := by unfold mn; rw [e2]; rfl
  rw [hb, e2, e3, e4] at e1
  refine ⟨σ', ?_, ⟨TX_fr h f1 (by decide) (by decide), c, hc, hb, hlt, h1⟩, f1⟩
  unfold m8_scan_124
  rw [x_length h]
  simp only [ej_bi_s, ej_bl_s, ej_bv_s, ej_nm_e]
  rw [x_length h]
  simp only [ej_bi_s, ej_bl_s, ej_bv_s, ej_nm_e, ↓L_m1, L_0, L_1, L_2, L_3, L_4, L_5, L_6, L_7, L_8, L_9, L_10, L_11, L_12, L_13, L_14, L_15, L_16, L_17, L_18, L_19, L_20, L_21, L_22, L_23, L_24, L_31, L_32, L_33, L_35, L_37, L_40, L_41, L_42, L_43, L_44, L_45, L_46, L_47, L_48, L_57, L_58, L_59, L_61, L_63, L_64, L_65, L_90, L_95, L_96, L_97, L_122, L_123, L_125, L_200, L_255, L_300, L_500, L_576, L_600, L_601, L_602, L_1200, L_1800, L_2400, L_3000, L_4000, L_4096, L_5000, L_30000, L_50000, L_60000, L_70000, L_100000, L_200000, L_1000000, L_1000001]
  rw [e1]; rfl
theorem x_scan_17 (hn : 2000 < n) (t1 : Nat) : ∀ (k at' turn c : Nat) (σ : ej_S), TX σ 6 l → l.length ≤ 600 → SK σ l c → at' ≤ l.length → sx l at' = bg l c → turn ≤ at' → c ≤ turn → (∀ i, i < c → bg l i < l.length) → l.length - at' < k → ∃ σ', m8_scan_17 n t1 k (nI at') (nI turn) σ = some σ' ∧ TK σ' l ∧ fr [12] [] [11, 12, 13] [0] [] σ σ' := by
  intro k
  induction k with
  | zero => intro a t c σ _ _ _ _ _ _ _ _ h; omega
  | succ k ih =>
    intro a t c σ h h6 hk ha hst hta hct hlt hm
    rw [u_8_scan_17]
    rcases Nat.lt_or_ge a l.length with q | q
    · have hc := cd_b h.2.2.2 q
      have hc7 := cd_7 h.2.2.2 a
      rw [L_600, ile_f (by omega) (by omega), x_length h]
      simp (disch := omega) only [ej_bi_s, ej_bl_s, ej_bv_s, ej_nm_e, if_true, if_false, ile_t, ile_f, ilt_t, ilt_f, ieq_t, ieq_f, ieq_m, ieq_m2, ieq_mm, ilt_m, ilt_m2, ile_m, ile_m2, x_byteAt h]
      simp only [↓L_m1, L_0, L_1, L_2, L_3, L_4, L_5, L_6, L_7, L_8, L_9, L_10, L_11, L_12, L_13, L_14, L_15, L_16, L_17, L_18, L_19, L_20, L_21, L_22, L_23, L_24, L_31, L_32, L_33, L_35, L_37, L_40, L_41, L_42, L_43, L_44, L_45, L_46, L_47, L_48, L_57, L_58, L_59, L_61, L_63, L_64, L_65, L_90, L_95, L_96, L_97, L_122, L_123, L_125, L_200, L_255, L_300, L_500, L_576, L_600, L_601, L_602, L_1200, L_1800, L_2400, L_3000, L_4000, L_4096, L_5000, L_30000, L_50000, L_60000, L_70000, L_100000, L_200000, L_1000000, L_1000001, cI_eq hc7 (show 32 < 256 by omega), cI_eq hc7 (show 9 < 256 by omega), cI_eq hc7 (show 35 < 256 by omega), nI_add]
      by_cases h32 : cd l a = 32
      · rw [if_pos h32]
        refine ih (a + 1) (t + 1) c σ h h6 hk q ?_ (by omega) (by omega) hlt (by omega)
        rw [← hst]; unfold sx; rw [cd_drop q]; simp only [skp, h32, true_or, if_true]; omega
      · rw [if_neg h32]
        by_cases h9 : cd l a = 9
        · rw [if_pos h9]
          refine ih (a + 1) (t + 1) c σ h h6 hk q ?_ (by omega) (by omega) hlt (by omega)
          rw [← hst]; unfold sx; rw [cd_drop q]; simp only [skp, h9, or_true, if_true]; omega
        · rw [if_neg h9]
          by_cases h35 : cd l a = 35
          · rw [if_pos h35]
            unfold m8_endOfRemark
            rw [x_endOfRemark_2 h n a (by omega) (by omega)]
            simp only [ej_bi_s, ej_bl_s, ej_bv_s, ej_nm_e, nI_add]
            have hs : skp true (l.drop a) = skp true (l.drop (a + 1)) + 1 := by rw [cd_drop q]; simp only [skp]; rw [if_neg (by omega)]
            have hle := skp_le true (l.drop a)
            rw [List.length_drop] at hle
            refine ih (a + skp true (l.drop a)) (t + 1) c σ h h6 hk (by omega) ?_ (by omega) (by omega) hlt (by omega)
            rw [← hst]
            unfold sx
            rw [← List.drop_drop, skp_end]
            conv => rhs; rw [cd_drop q]
            simp only [skp, h35]
            rw [if_neg (by omega), if_true]
            omega
          · rw [if_neg h35]
            have hsa : sx l a = a := by unfold sx; rw [cd_drop q]; simp only [skp]; rw [if_neg (by omega), if_neg h35]; rfl
            have hba : bg l c = a := by rw [← hst, hsa]
            have hsr : sr l a = srtc (cd l a) := by unfold sr; rw [cd_drop q]; rfl
            have hs128 := sr_lt h.2.2.2 a
            have hen : a + 1 + spn (gon (sr l a)) (l.drop (a + 1)) = en l a := (en_cons q).symm
            have hene := en_le (l := l) (p := a) (by omega)
            have heng := en_gt q
            obtain ⟨σ1, e1, k1, f1⟩ := x_add (n := n) hk (by omega)
            rw [hba] at e1
            rw [x_sortOf hc, ← hsr]
            simp only [ej_bi_s, ej_bl_s, ej_bv_s, ej_nm_e]
            unfold m8_endOfToken
            simp only [ej_bi_s, ej_bl_s, ej_bv_s, ej_nm_e, ↓L_m1, L_0, L_1, L_2, L_3, L_4, L_5, L_6, L_7, L_8, L_9, L_10, L_11, L_12, L_13, L_14, L_15, L_16, L_17, L_18, L_19, L_20, L_21, L_22, L_23, L_24, L_31, L_32, L_33, L_35, L_37, L_40, L_41, L_42, L_43, L_44, L_45, L_46, L_47, L_48, L_57, L_58, L_59, L_61, L_63, L_64, L_65, L_90, L_95, L_96, L_97, L_122, L_123, L_125, L_200, L_255, L_300, L_500, L_576, L_600, L_601, L_602, L_1200, L_1800, L_2400, L_3000, L_4000, L_4096, L_5000, L_30000, L_50000, L_60000, L_70000, L_100000, L_200000, L_1000000, L_1000001, nI_add]
            rw [x_endOfToken_4 h (by omega) n (a + 1) (by omega) q, hen]
            simp only [ej_bi_s, ej_bl_s, ej_bv_s, ej_nm_e]
            rw [x_meaningOf hn h q]
            simp only [ej_bi_s, ej_bl_s, ej_bv_s, ej_nm_e]
            rw [e1]
            simp only [ej_bi_s, ej_bl_s, ej_bv_s, ej_nm_e]
            have h1 := TX_fr h f1 (by decide) (by decide)
            obtain ⟨σ2, e2, k2, f2⟩ := ih (en l a) (t + 1) (c + 1) σ1 h1 h6 k1 hene (by show _ = sx l (en l (bg l c)); rw [hba]) (by omega) (by omega) (by
              intro i hi
              rcases Nat.lt_or_ge i c with z | z
              · exact hlt i z
              · have : i = c := by omega
                rw [this, hba]; exact q) (by omega)
            exact ⟨σ2, e2, k2, fr_tr f1 f2⟩
    · have hal : a = l.length := by omega
      have hbc : bg l c = l.length := by
        rw [← hst, hal]; unfold sx; rw [List.drop_length]; rfl
      obtain ⟨σ', e1, k1, f1⟩ := x_scan_124 (n := n) t1 h hk (by omega) hbc hlt
      refine ⟨σ', ?_, k1, f1⟩
      rw [e1]
      rcases Nat.lt_or_ge t 600 with z | z
      · rw [L_600, ile_f z (by omega), x_length h]
        simp (disch := omega) only [ej_bi_s, ej_bl_s, ej_bv_s, ej_nm_e, if_true, if_false, ile_t, ile_f, ilt_t, ilt_f, ieq_t, ieq_f, ieq_m, ieq_m2, ieq_mm, ilt_m, ilt_m2, ile_m, ile_m2]
        exact e1
      · rw [L_600, ile_t z (by omega)]
theorem x_scan (hn : 2000 < n) {t1 : Nat} (ht : t1 < 6) (ht1 : t1 ≠ 1) (h : TX σ t1 l) : ∃ σ', m8_scan n t1 σ = some σ' ∧ TK σ' l ∧ fr [6, 12] [] [6, 11, 12, 13] [0] [] σ σ' := by
  have h6 : l.length ≤ 600 := by have := h.2.1; unfold cw_tl at this; rw [if_neg ht1] at this; exact this
  obtain ⟨σ1, e1, h1, f1⟩ := x_become (n := n) (t := 6) (t1 := t1) (by omega) hn h (by exact h6)
  obtain ⟨σ2, e2, h2, f2⟩ := x_scan_17 (n := n) (l := l) hn t1 n 0 0 0 (uI σ1 12 0) (TX_cg h1 rfl rfl) h6 ⟨s_II_s, fun i hi => absurd hi (Nat.not_lt_zero i)⟩ (Nat.zero_le _) rfl (Nat.le_refl _) (Nat.le_refl _) (fun i hi => absurd hi (Nat.not_lt_zero i)) (by omega)
  refine ⟨σ2, ?_, h2, ?_⟩
  · unfold m8_scan
    rw [e1]
    simp only [ej_bi_s, ej_bl_s, ej_bv_s, ej_nm_e]
    exact e2
  · exact fr_tr (fr_uI (fr_wk f1 (by simp) (by simp) (by simp) (by simp) (by simp)) (by simp)) (fr_wk f2 (by simp) (by simp) (by simp) (by simp) (by simp))
/-- what the scanned tokens tell -/
theorem TK_at (h : TK σ l) (i : Nat) : (i < 601 ∧ gA σ 11 i = nI (sr l (bg l i)) ∧ gA σ 12 i = nI (bg l i) ∧ gA σ 13 i = nI (en l (bg l i)) ∧ gB σ 0 i = mn l (bg l i) ∧ ∃ c, gI σ 12 = nI c ∧ i < c ∧ c ≤ 601) ∨ (bg l i = l.length ∧ sr l (bg l i) = 0 ∧ en l (bg l i) = l.length ∧ ∃ c, gI σ 12 = nI c ∧ c ≤ i ∧ c ≤ 601) := by
  obtain ⟨h0, c, h1, h2, h3, h4, h5⟩ := h
  rcases Nat.lt_or_ge i (c + 1) with q | q
  · obtain ⟨a1, a2, a3, a4⟩ := h5 i q
    exact .inl ⟨by omega, a1, a2, a3, a4, c + 1, h4, q, by omega⟩
  · have e : bg l i = l.length := by
      have := bg_end h2 (i - c)
      rwa [show c + (i - c) = i by omega] at this
    refine .inr ⟨e, ?_, ?_, c + 1, h4, q, by omega⟩
    · rw [e]; exact (sr_0 h0.2.2.2 _).mpr (Nat.le_refl _)
    · rw [e]; unfold en; rw [List.drop_length]; rfl
theorem TK_le (h : TK σ l) : l.length ≤ 600 := by
  have := h.1.2.1
  unfold cw_tl at this; exact this
theorem x_sortAt (h : TK σ l) {i : Nat} (hi : i < 2 ^ 31) : m8_sortAt n (nI i) σ = some (nI (sr l (bg l i)), σ) := by
  unfold m8_sortAt
  rcases TK_at h i with ⟨h0, h1, h2, h3, h4, c, h5, h6, h7⟩ | ⟨h1, h2, h3, c, h5, h6, h7⟩
  · rw [h5]
    simp (disch := omega) only [↓L_m1, L_0, L_1, L_2, L_3, L_4, L_5, L_6, L_7, L_8, L_9, L_10, L_11, L_12, L_13, L_14, L_15, L_16, L_17, L_18, L_19, L_20, L_21, L_22, L_23, L_24, L_31, L_32, L_33, L_35, L_37, L_40, L_41, L_42, L_43, L_44, L_45, L_46, L_47, L_48, L_57, L_58, L_59, L_61, L_63, L_64, L_65, L_90, L_95, L_96, L_97, L_122, L_123, L_125, L_200, L_255, L_300, L_500, L_576, L_600, L_601, L_602, L_1200, L_1800, L_2400, L_3000, L_4000, L_4096, L_5000, L_30000, L_50000, L_60000, L_70000, L_100000, L_200000, L_1000000, L_1000001, if_true, if_false, ile_t, ile_f, ilt_t, ilt_f, ieq_t, ieq_f, ieq_m, ieq_m2, ieq_mm, ilt_m, ilt_m2, ile_m, ile_m2, ck_t, nI_clamp, nI_add, pk_mul, nI_m1, pk_sub]
    rw [h1]
  · rw [h5]
    simp (disch := omega) only [↓L_m1, L_0, L_1, L_2, L_3, L_4, L_5, L_6, L_7, L_8, L_9, L_10, L_11, L_12, L_13, L_14, L_15, L_16, L_17, L_18, L_19, L_20, L_21, L_22, L_23, L_24, L_31, L_32, L_33, L_35, L_37, L_40, L_41, L_42, L_43, L_44, L_45, L_46, L_47, L_48, L_57, L_58, L_59, L_61, L_63, L_64, L_65, L_90, L_95, L_96, L_97, L_122, L_123, L_125, L_200, L_255, L_300, L_500, L_576, L_600, L_601, L_602, L_1200, L_1800, L_2400, L_3000, L_4000, L_4096, L_5000, L_30000, L_50000, L_60000, L_70000, L_100000, L_200000, L_1000000, L_1000001, if_true, if_false, ile_t, ile_f, ilt_t, ilt_f, ieq_t, ieq_f, ieq_m, ieq_m2, ieq_mm, ilt_m, ilt_m2, ile_m, ile_m2, ck_t, nI_clamp, nI_add, pk_mul, nI_m1, pk_sub]
    rw [h2]
theorem x_beginAt (h : TK σ l) {i : Nat} (hi : i < 2 ^ 31) : m8_beginAt n (nI i) σ = some (nI (bg l i), σ) := by
  unfold m8_beginAt
  rcases TK_at h i with ⟨h0, h1, h2, h3, h4, c, h5, h6, h7⟩ | ⟨h1, h2, h3, c, h5, h6, h7⟩
  · rw [h5]
    simp (disch := omega) only [↓L_m1, L_0, L_1, L_2, L_3, L_4, L_5, L_6, L_7, L_8, L_9, L_10, L_11, L_12, L_13, L_14, L_15, L_16, L_17, L_18, L_19, L_20, L_21, L_22, L_23, L_24, L_31, L_32, L_33, L_35, L_37, L_40, L_41, L_42, L_43, L_44, L_45, L_46, L_47, L_48, L_57, L_58, L_59, L_61, L_63, L_64, L_65, L_90, L_95, L_96, L_97, L_122, L_123, L_125, L_200, L_255, L_300, L_500, L_576, L_600, L_601, L_602, L_1200, L_1800, L_2400, L_3000, L_4000, L_4096, L_5000, L_30000, L_50000, L_60000, L_70000, L_100000, L_200000, L_1000000, L_1000001, if_true, if_false, ile_t, ile_f, ilt_t, ilt_f, ieq_t, ieq_f, ieq_m, ieq_m2, ieq_mm, ilt_m, ilt_m2, ile_m, ile_m2, ck_t, nI_clamp, nI_add, pk_mul, nI_m1, pk_sub]
    rw [h2]
  · rw [h5]
    simp (disch := omega) only [↓L_m1, L_0, L_1, L_2, L_3, L_4, L_5, L_6, L_7, L_8, L_9, L_10, L_11, L_12, L_13, L_14, L_15, L_16, L_17, L_18, L_19, L_20, L_21, L_22, L_23, L_24, L_31, L_32, L_33, L_35, L_37, L_40, L_41, L_42, L_43, L_44, L_45, L_46, L_47, L_48, L_57, L_58, L_59, L_61, L_63, L_64, L_65, L_90, L_95, L_96, L_97, L_122, L_123, L_125, L_200, L_255, L_300, L_500, L_576, L_600, L_601, L_602, L_1200, L_1800, L_2400, L_3000, L_4000, L_4096, L_5000, L_30000, L_50000, L_60000, L_70000, L_100000, L_200000, L_1000000, L_1000001, if_true, if_false, ile_t, ile_f, ilt_t, ilt_f, ieq_t, ieq_f, ieq_m, ieq_m2, ieq_mm, ilt_m, ilt_m2, ile_m, ile_m2, ck_t, nI_clamp, nI_add, pk_mul, nI_m1, pk_sub, ej_bi_s, ej_bl_s, ej_bv_s, ej_nm_e, x_length h.1]
    rw [h1]
theorem x_lengthAt (h : TK σ l) {i : Nat} (hi : i < 2 ^ 31) : m8_lengthAt n (nI i) σ = some (nI (en l (bg l i) - bg l i), σ) := by
  have hg := en_ge l (bg l i)
  unfold m8_lengthAt
  rcases TK_at h i with ⟨h0, h1, h2, h3, h4, c, h5, h6, h7⟩ | ⟨h1, h2, h3, c, h5, h6, h7⟩
  · rw [h5]
    simp (disch := omega) only [↓L_m1, L_0, L_1, L_2, L_3, L_4, L_5, L_6, L_7, L_8, L_9, L_10, L_11, L_12, L_13, L_14, L_15, L_16, L_17, L_18, L_19, L_20, L_21, L_22, L_23, L_24, L_31, L_32, L_33, L_35, L_37, L_40, L_41, L_42, L_43, L_44, L_45, L_46, L_47, L_48, L_57, L_58, L_59, L_61, L_63, L_64, L_65, L_90, L_95, L_96, L_97, L_122, L_123, L_125, L_200, L_255, L_300, L_500, L_576, L_600, L_601, L_602, L_1200, L_1800, L_2400, L_3000, L_4000, L_4096, L_5000, L_30000, L_50000, L_60000, L_70000, L_100000, L_200000, L_1000000, L_1000001, if_true, if_false, ile_t, ile_f, ilt_t, ilt_f, ieq_t, ieq_f, ieq_m, ieq_m2, ieq_mm, ilt_m, ilt_m2, ile_m, ile_m2, ck_t, nI_clamp, nI_add, pk_mul, nI_m1, pk_sub]
    rw [h2, h3, nI_m2 hg]
  · rw [h5]
    simp (disch := omega) only [↓L_m1, L_0, L_1, L_2, L_3, L_4, L_5, L_6, L_7, L_8, L_9, L_10, L_11, L_12, L_13, L_14, L_15, L_16, L_17, L_18, L_19, L_20, L_21, L_22, L_23, L_24, L_31, L_32, L_33, L_35, L_37, L_40, L_41, L_42, L_43, L_44, L_45, L_46, L_47, L_48, L_57, L_58, L_59, L_61, L_63, L_64, L_65, L_90, L_95, L_96, L_97, L_122, L_123, L_125, L_200, L_255, L_300, L_500, L_576, L_600, L_601, L_602, L_1200, L_1800, L_2400, L_3000, L_4000, L_4096, L_5000, L_30000, L_50000, L_60000, L_70000, L_100000, L_200000, L_1000000, L_1000001, if_true, if_false, ile_t, ile_f, ilt_t, ilt_f, ieq_t, ieq_f, ieq_m, ieq_m2, ieq_mm, ilt_m, ilt_m2, ile_m, ile_m2, ck_t, nI_clamp, nI_add, pk_mul, nI_m1, pk_sub]
    rw [h3, h1, Nat.sub_self]
theorem x_nameAt (h : TK σ l) {i : Nat} (hi : sr l (bg l i) ≠ 0) : m8_nameAt n (nI i) σ = some (mn l (bg l i), σ) := by
  unfold m8_nameAt
  rcases TK_at h i with ⟨h0, h1, h2, h3, h4, c, h5, h6, h7⟩ | ⟨h1, h2, h3, c, h5, h6, h7⟩
  · rw [h5]
    simp (disch := omega) only [↓L_m1, L_0, L_1, L_2, L_3, L_4, L_5, L_6, L_7, L_8, L_9, L_10, L_11, L_12, L_13, L_14, L_15, L_16, L_17, L_18, L_19, L_20, L_21, L_22, L_23, L_24, L_31, L_32, L_33, L_35, L_37, L_40, L_41, L_42, L_43, L_44, L_45, L_46, L_47, L_48, L_57, L_58, L_59, L_61, L_63, L_64, L_65, L_90, L_95, L_96, L_97, L_122, L_123, L_125, L_200, L_255, L_300, L_500, L_576, L_600, L_601, L_602, L_1200, L_1800, L_2400, L_3000, L_4000, L_4096, L_5000, L_30000, L_50000, L_60000, L_70000, L_100000, L_200000, L_1000000, L_1000001, if_true, if_false, ile_t, ile_f, ilt_t, ilt_f, ieq_t, ieq_f, ieq_m, ieq_m2, ieq_mm, ilt_m, ilt_m2, ile_m, ile_m2, ck_t, nI_clamp, nI_add, pk_mul, nI_m1, pk_sub]
    rw [h4]
  · exact absurd h2 hi
theorem x_worthAt (h : TK σ l) {i : Nat} (hi : sr l (bg l i) ≠ 0) : m8_worthAt n (nI i) σ = some ((mn l (bg l i)).toInt32, σ) := by
  unfold m8_worthAt
  rcases TK_at h i with ⟨h0, h1, h2, h3, h4, c, h5, h6, h7⟩ | ⟨h1, h2, h3, c, h5, h6, h7⟩
  · rw [h5]
    simp (disch := omega) only [↓L_m1, L_0, L_1, L_2, L_3, L_4, L_5, L_6, L_7, L_8, L_9, L_10, L_11, L_12, L_13, L_14, L_15, L_16, L_17, L_18, L_19, L_20, L_21, L_22, L_23, L_24, L_31, L_32, L_33, L_35, L_37, L_40, L_41, L_42, L_43, L_44, L_45, L_46, L_47, L_48, L_57, L_58, L_59, L_61, L_63, L_64, L_65, L_90, L_95, L_96, L_97, L_122, L_123, L_125, L_200, L_255, L_300, L_500, L_576, L_600, L_601, L_602, L_1200, L_1800, L_2400, L_3000, L_4000, L_4096, L_5000, L_30000, L_50000, L_60000, L_70000, L_100000, L_200000, L_1000000, L_1000001, if_true, if_false, ile_t, ile_f, ilt_t, ilt_f, ieq_t, ieq_f, ieq_m, ieq_m2, ieq_mm, ilt_m, ilt_m2, ile_m, ile_m2, ck_t, nI_clamp, nI_add, pk_mul, nI_m1, pk_sub]
    rw [h4]
  · exact absurd h2 hi
theorem x_isAt (hn : 2000 < n) (h : TK σ l) {t i : Nat} {W : List Nat} (hW : SPW t W) (hi : i < 2 ^ 31) : m8_isAt n t (nI i) σ = some (bI (decide (tk l (bg l i) = W)), σ) := by
  have h6 := TK_le h
  have hg := en_ge l (bg l i)
  have hb := bg_le l i
  have he := en_le hb
  unfold m8_isAt
  rw [x_beginAt h hi]
  simp only [ej_bi_s, ej_bl_s, ej_bv_s, ej_nm_e]
  rw [x_lengthAt h hi]
  simp only [ej_bi_s, ej_bl_s, ej_bv_s, ej_nm_e, nI_add]
  rw [show bg l i + (en l (bg l i) - bg l i) = en l (bg l i) by omega, x_spells hn h.1 hW hg he]
  simp only [ej_bi_s, ej_bl_s, ej_bv_s, ej_nm_e, bz_b]
  rw [en_sub]; rfl
theorem TK_fr {I J A B M : List Nat} {σ' : ej_S} (h : TK σ l) (f : fr I J A B M σ σ') (h1 : 6 ∉ I) (h2 : 12 ∉ I) (h3 : 6 ∉ A) (h4 : 11 ∉ A) (h5 : 12 ∉ A) (h6 : 13 ∉ A) (h7 : 0 ∉ B) : TK σ' l := by
  obtain ⟨a, c, b1, b2, b3, b4, b5⟩ := h
  refine ⟨TX_fr a f h1 h3, c, b1, b2, b3, ?_, ?_⟩
  · rw [f.1 12 h2]; exact b4
  · rw [f.2.2.1 11 h4, f.2.2.1 12 h5, f.2.2.1 13 h6, f.2.2.2.1 0 h7]; exact b5
end P55
