/-! A WHOLE TEXT IS READ ALIKE -/
def RRES (b : Bool) (σc σr : ej_S) (X Y : Option (Int32 × ej_S)) : Prop := ∃ ok σc' σr', X = some (bI ok, σc') ∧ Y = some (bI ok, σr') ∧ FC2 σc σc' ∧ FR2 σr σr' ∧ mono σr σr' ∧ (b = false → ms σr σr') ∧ (ok = true → MR b σc' σr' ∧ ∃ cnt, cnt ≤ 40 ∧ gI σc' 31 = nI cnt ∧ gI σr' 8 = nI cnt) ∧ (ok = false → FT σc' σr')
theorem RRES_tr {b : Bool} {σc σr σc1 σr1 : ej_S} {X Y : Option (Int32 × ej_S)} (p : FC2 σc σc1) (q : FR2 σr σr1) (m : mono σr σr1) (s : b = false → ms σr σr1) (h : RRES b σc1 σr1 X Y) : RRES b σc σr X Y := by
  obtain ⟨ok, σc', σr', e1, e2, f1, f2, m1, s1, g⟩ := h
  exact ⟨ok, σc', σr', e1, e2, fr_tr p f1, fr_tr q f2, mono_tr m m1, fun z => ms_tr (s z) (s1 z), g⟩
section P72
variable {n f fl c i : Nat} {b : Bool} {σ σc σr : ej_S} {l : List Nat}
theorem s_read_25 (hx : PX n f c l) (t1 : Nat) : ∀ (d turn i cnt : Nat) (σc σr : ej_S) (k k2 : Nat), turn + d = 601 → d < k → d < k2 → PS b f fl c l i σc σr → turn ≤ i → gI σc 31 = nI cnt → gI σr 8 = nI cnt → cnt ≤ 40 → RRES b σc σr (m4_read_25 n t1 k (nI turn) σc) (m11_isRead_31 n k2 (nI 1) σr) := by
  intro d
  induction d with
  | zero => intro turn i cnt σc σr k k2 h1 _ _ h; have := h.2.2.2.2.1; have := hx.2.2.2.1; omega
  | succ d ih =>
    intro turn i cnt σc σr k k2 h1 h2 h3 h hti hc hr hcnt
    have hc6 := hx.2.2.2.1
    have hic := h.2.2.2.2.1
    have hb6 := hx.2.2.2.2.1
    have hs := sr_lt hb6 (bg l i)
    have hks := sr_k hb6 (bg l i)
    obtain ⟨k, rfl⟩ : ∃ k', k = k' + 1 := ⟨k - 1, by omega⟩
    obtain ⟨k2, rfl⟩ : ∃ k', k2 = k' + 1 := ⟨k2 - 1, by omega⟩
    have h0 := (PX_tok1 hx h.2.1).2
    have h59 := PX_tok hx h.2.1 (K := 59) (by omega) (by omega) (by omega) (by omega) (by omega) (by omega)
    rw [u_4_read_25, L_600, ilt_f (by omega) (by omega), PS_sort hx h, ej_bi_s, u_11_isRead_31, if_neg (show ¬ nI 1 = 0 from n10), L_0, L_59]
    by_cases hS0 : sr l (bg l i) = 0
    · rw [hS0, if_pos rfl, if_pos (h0.mpr hS0), bz_n1]
      exact ⟨true, σc, σr, rfl, rfl, fr_rf, fr_rf, mono_rf, fun _ => ms_rf, fun _ => ⟨h.2.2.2.2.2.1, cnt, hcnt, hc, hr⟩, fun z => by cases z⟩
    · rw [ieq_f hS0 (by omega) (by omega), if_neg (fun z => hS0 (h0.mp z))]
      rw [x_take hx h (by omega)]
      by_cases hS59 : sr l (bg l i) = 59
      · rw [if_pos hS59, if_pos (h59.mpr hS59), ej_bi_s, if_neg n10]
        obtain ⟨σr1, e1, h1', f1, f2, f3⟩ := PS_step hx h hS0
        rw [e1, ej_bv_s, ej_nm_e, L_1, nI_add]
        refine RRES_tr (FC_2 f1) (FR_2 f2) (mono_next f3) (fun _ => ms_next f3) ?_
        exact ih (turn + 1) (i + 1) cnt _ σr1 k k2 (by omega) (by omega) (by omega) h1' (by omega) (by rw [s_II_n (by omega)]; exact hc) (by rw [f3.1 8 (by decide)]; exact hr) hcnt
      · rw [if_neg hS59, if_neg (fun z => hS59 (h59.mp z)), ej_bi_s, if_pos rfl, hc, hr, L_40]
        by_cases h40 : cnt = 40
        · rw [h40, ilt_f (Nat.le_refl _) (by omega), if_pos rfl, h.2.2.2.1, x_beginAt h.1 (by omega), ej_bi_s, L_5, r_here h, ej_bi_s]
          unfold m1_tell
          rw [ej_nm_e, ej_nm_e, ej_bi_s, L_0, bz_n0]
          obtain ⟨k2, rfl⟩ : ∃ k', k2 = k' + 1 := ⟨k2 - 1, by omega⟩
          rw [u_11_isRead_31, L_0, if_pos rfl, bz_n0]
          exact ⟨false, _, _, rfl, rfl, FC_2 FC_tell, FR_2 FR_tell, mono_rf, fun _ => ms_rf, fun z => (by cases z), fun _ => FT_mk hx ⟨by omega, by omega⟩ (bg_le l i)⟩
        · rw [ilt_t (by omega) (by omega), ieq_f h40 (by omega) (by omega)]
          -- the statement
          have eb : (ej_bi (m4_listAhead n σc) fun r11 s10 => (if r11 = nI 0 then ej_bi (m4_takeName n (nI 0) s10) fun r13 s12 => (if r13 = nI 0 then (m4_read_182 n t1 (m4_read_25 n t1 k) (nI turn) (nI 0) s12) else ej_bi (m4_take n 61 s12) fun r15 s14 => (if r15 = nI 0 then ej_bi (m4_readLinks n (gI s14 32) s14) fun r34 s33 => (m4_read_182 n t1 (m4_read_25 n t1 k) (nI turn) r34 s33) else ej_bi (m8_sortAt n (gI s14 30) s14) fun r17 s16 => (if r17 = 97 then ej_bi (m4_readAliases n (gI s16 32) s16) fun r32 s31 => (m4_read_182 n t1 (m4_read_25 n t1 k) (nI turn) r32 s31) else ej_bi (m4_readMembers n (gI s16 32) s16) fun r19 s18 => (m4_read_182 n t1 (m4_read_25 n t1 k) (nI turn) r19 s18)))) else ej_bi (m4_readList n r11 s10) fun r36 s35 => (m4_read_182 n t1 (m4_read_25 n t1 k) (nI turn) r36 s35))) = ej_bi (stC n σc) fun r s => m4_read_182 n t1 (m4_read_25 n t1 k) (nI turn) r s := by
            unfold stC
            simp only [bi_assoc, bi_ite, ej_bi_s, L_0]
          rw [eb]
          obtain ⟨ok, σc2, σr2, e1, e2, f1, f2, m1, s1, g1, g2⟩ := s_statement hx h
          rw [e1, e2, ej_bi_s, ej_bi_s]
          unfold m4_read_182
          have hc2 : gI σc2 31 = nI cnt := by rw [f1.1 31 (by decide)]; exact hc
          have hr2 : gI σr2 8 = nI cnt := by rw [f2.1 8 (by decide)]; exact hr
          have fcnt : FC2 σc2 (uI σc2 31 (nI (cnt + 1))) := fr_uI fr_rf (by simp)
          have frnt : FR2 σr2 (uI σr2 8 (nI (cnt + 1))) := fr_uI fr_rf (by simp)
          cases ok
          · rw [bI_f, L_0, if_pos rfl, if_pos rfl, ej_nm_e]
            obtain ⟨k2, rfl⟩ : ∃ k', k2 = k' + 1 := ⟨k2 - 1, by omega⟩
            rw [u_11_isRead_31, L_0, if_pos rfl, bz_n0, hr2, L_1, nI_add]
            refine ⟨false, σc2, _, rfl, rfl, FC_2 f1, fr_tr (FR_2 f2) frnt, mono_tr m1 mono_rf, fun z => ms_tr (s1 z) ms_rf, fun z => (by cases z), fun _ => ?_⟩
            obtain ⟨a1, a2, a3, a4, a5, a6, a7, a8, a9⟩ := g2 rfl
            exact ⟨a1, a2, a3, by rw [s_II_n (by omega)]; exact a4, a5, by rw [s_II_n (by omega)]; exact a6, a7, a8, a9⟩
          · obtain ⟨i3, hi3, h3'⟩ := g1 rfl
            have hS3 := sr_lt hb6 (bg l i3)
            have hic3 := h3'.2.2.2.2.1
            rw [bI_t, L_0, if_neg n10, if_neg n10, ej_nm_e, hc2, L_1, nI_add]
            have hP : PS b f fl c l i3 (uI σc2 31 (nI (cnt + 1))) σr2 := PS_frc h3' (fr_uI (I := [31]) (J := []) (A := []) (B := []) (M := []) fr_rf (by simp)) (by decide) (by decide) rfl rfl
            have hP2 : PS b f fl c l i3 (uI σc2 31 (nI (cnt + 1))) (uI σr2 8 (nI (cnt + 1))) := PS_frr hP (fr_uI (I := [8]) (J := []) (A := []) (B := []) (M := []) fr_rf (by simp)) (by decide) (by decide) rfl rfl
            have g0 := (PX_tok1 hx h3'.2.1).2
            have g59 := PX_tok hx h3'.2.1 (K := 59) (by omega) (by omega) (by omega) (by omega) (by omega) (by omega)
            rw [PS_sort hx hP, ej_bi_s, PS_sort hx hP, ej_bi_s, L_59]
            have hih := ih (turn + 1) i3 (cnt + 1) _ _ k k2 (by omega) (by omega) (by omega) hP2 (by omega) s_II_s s_II_s (by omega)
            have hgo : RRES b σc σr (m4_read_25 n t1 k (nI (turn + 1)) (uI σc2 31 (nI (cnt + 1)))) (m11_isRead_31 n k2 (nI 1) (uI σr2 8 (nI (cnt + 1)))) := RRES_tr (fr_tr (FC_2 f1) fcnt) (fr_tr (FR_2 f2) frnt) (mono_tr m1 mono_rf) (fun z => ms_tr (s1 z) ms_rf) hih
            have e107 : m11_isRead_107 n (m11_isRead_31 n k2) σr2 = m11_isRead_31 n k2 (nI 1) (uI σr2 8 (nI (cnt + 1))) := by
              unfold m11_isRead_107
              rw [ej_nm_e, hr2, L_1, nI_add]
            by_cases z59 : sr l (bg l i3) = 59
            · rw [z59, if_pos rfl, if_pos (g59.mpr z59), ej_nm_e, nI_add, e107]
              exact hgo
            · rw [ieq_f z59 (by omega) (by omega), if_neg (fun z => z59 (g59.mp z))]
              by_cases z0 : sr l (bg l i3) = 0
              · rw [z0, if_pos rfl, if_pos (g0.mpr z0), ej_nm_e, nI_add, e107]
                exact hgo
              · rw [ieq_f z0 (by omega) (by omega), if_neg (fun z => z0 (g0.mp z)), x_misplaced hx hP, ej_bi_s, bz_n0, r_here h3', ej_bi_s, if_pos rfl, ej_nm_e]
                obtain ⟨k2, rfl⟩ : ∃ k', k2 = k' + 1 := ⟨k2 - 1, by omega⟩
                rw [u_11_isRead_31, L_0, if_pos rfl, bz_n0]
                refine ⟨false, _, _, rfl, rfl, fr_tr (fr_tr (FC_2 f1) fcnt) (FC_2 FC_tell), fr_uI (fr_tr (FR_2 f2) (FR_2 FR_tell)) (by simp), mono_tr m1 mono_rf, fun z => ms_tr (s1 z) ms_rf, fun z => (by cases z), fun _ => ?_⟩
                have := bg_le l i3
                have := hx.2.2.2.2.2
                refine ⟨1, bg l i3, ?_, ?_, ?_, ?_, by omega, by omega, by omega⟩
                · simp (disch := omega) only [s_IJ, s_IA, s_IB, s_IM, s_JI, s_JA, s_JB, s_JM, s_AI, s_AJ, s_AB, s_AM, s_BI, s_BJ, s_BA, s_BM, s_MI, s_MJ, s_MA, s_MB, s_II_s, s_II_n, s_JJ_s, s_JJ_n, s_AA_s, s_AA_n, s_BB_s, s_BB_n, s_MM_s, s_MM_n, pk_us, pk_un, pk_uLs, pk_uLn]
                · simp (disch := omega) only [s_IJ, s_IA, s_IB, s_IM, s_JI, s_JA, s_JB, s_JM, s_AI, s_AJ, s_AB, s_AM, s_BI, s_BJ, s_BA, s_BM, s_MI, s_MJ, s_MA, s_MB, s_II_s, s_II_n, s_JJ_s, s_JJ_n, s_AA_s, s_AA_n, s_BB_s, s_BB_n, s_MM_s, s_MM_n, pk_us, pk_un, pk_uLs, pk_uLn]
                · simp (disch := omega) only [s_IJ, s_IA, s_IB, s_IM, s_JI, s_JA, s_JB, s_JM, s_AI, s_AJ, s_AB, s_AM, s_BI, s_BJ, s_BA, s_BM, s_MI, s_MJ, s_MA, s_MB, s_II_s, s_II_n, s_JJ_s, s_JJ_n, s_AA_s, s_AA_n, s_BB_s, s_BB_n, s_MM_s, s_MM_n, pk_us, pk_un, pk_uLs, pk_uLn]
                · simp (disch := omega) only [s_IJ, s_IA, s_IB, s_IM, s_JI, s_JA, s_JB, s_JM, s_AI, s_AJ, s_AB, s_AM, s_BI, s_BJ, s_BA, s_BM, s_MI, s_MJ, s_MA, s_MB, s_II_s, s_II_n, s_JJ_s, s_JJ_n, s_AA_s, s_AA_n, s_BB_s, s_BB_n, s_MM_s, s_MM_n, pk_us, pk_un, pk_uLs, pk_uLn]
/-- the reading of a text -/
theorem s_read (hn : 2000 < n) (hf : f < 4) {t1 : Nat} (ht : t1 < 6) (ht1 : t1 ≠ 1) (hT : TX σc t1 l) (hR : RTX σr fl l) (hfl : fl < 5) (hw : RW σr) (hm : MR b σc σr) (hb : gI σr 6 = bI b) (h7 : b = true → gI σr 7 = nI f) : ∃ ok σc' σr', m4_read n t1 (nI f) σc = some (bI ok, σc') ∧ m11_isRead n (nI fl) σr = some (bI ok, σr') ∧ fr [6, 10, 11, 12, 13, 14, 15, 16, 17, 18, 19, 20, 21, 22, 23, 24, 25, 26, 27, 28, 29, 30, 31, 32, 33] [] [6, 11, 12, 13, 14, 15, 16, 17, 18, 19, 20, 21, 22, 23] [0, 1] [0, 1] σc σc' ∧ fr [0, 1, 2, 3, 4, 5, 8, 9, 10, 13, 14, 15, 16] [0] [5, 6, 7, 8, 9, 10, 11, 12, 13, 14, 15, 16, 17, 18, 19, 20] [1] [] σr σr' ∧ mono σr σr' ∧ (b = false → ms σr σr') ∧ (ok = true → MR b σc' σr' ∧ ∃ cnt, cnt ≤ 40 ∧ gI σc' 31 = nI cnt ∧ gI σr' 8 = nI cnt) ∧ (ok = false → FT σc' σr') := by
  obtain ⟨σ1, e1, hk, f1⟩ := x_scan (n := n) hn ht ht1 hT
  obtain ⟨hX6, c, hc6, hce, hclt, hSK⟩ := id hk
  have h600 := hR.2.1
  have hx : PX n f c l := ⟨hn, hf, hce, hc6, hR.2.2.2, h600⟩
  have f2 : fr [29, 30, 31] [] [] [] [] σ1 (uI (uI (uI σ1 29 (nI f)) 30 (nI 0)) 31 (nI 0)) := fr_uI (fr_uI (fr_uI fr_rf (by simp)) (by simp)) (by simp)
  have g2 : fr [0, 1, 8, 9, 10] [] [] [] [] σr (uI (uI (uI (uI (uI σr 0 (nI fl)) 1 (nI 0)) 8 (nI 0)) 9 (nI 0)) 10 (nI 0)) := fr_uI (fr_uI (fr_uI (fr_uI (fr_uI fr_rf (by simp)) (by simp)) (by simp)) (by simp)) (by simp)
  have hRS : RS (uI (uI (uI (uI (uI σr 0 (nI fl)) 1 (nI 0)) 8 (nI 0)) 9 (nI 0)) 10 (nI 0)) fl l := ⟨by simp (disch := omega) only [s_IJ, s_IA, s_IB, s_IM, s_JI, s_JA, s_JB, s_JM, s_AI, s_AJ, s_AB, s_AM, s_BI, s_BJ, s_BA, s_BM, s_MI, s_MJ, s_MA, s_MB, s_II_s, s_II_n, s_JJ_s, s_JJ_n, s_AA_s, s_AA_n, s_BB_s, s_BB_n, s_MM_s, s_MM_n, pk_us, pk_un, pk_uLs, pk_uLn], hfl, hR⟩
  obtain ⟨σr2, e2, r2, g3⟩ := r_next hn hRS (p := 0) (by simp (disch := omega) only [s_IJ, s_IA, s_IB, s_IM, s_JI, s_JA, s_JB, s_JM, s_AI, s_AJ, s_AB, s_AM, s_BI, s_BJ, s_BA, s_BM, s_MI, s_MJ, s_MA, s_MB, s_II_s, s_II_n, s_JJ_s, s_JJ_n, s_AA_s, s_AA_n, s_BB_s, s_BB_n, s_MM_s, s_MM_n, pk_us, pk_un, pk_uLs, pk_uLn]) (Nat.zero_le _)
  have g23 : fr [0, 1, 2, 3, 4, 5, 8, 9, 10] [0] [] [] [] σr σr2 := fr_tr (fr_wk g2 (by simp) (by simp) (by simp) (by simp) (by simp)) (fr_wk g3 (by simp) (by simp) (by simp) (by simp) (by simp))
  have hPS : PS b f fl c l 0 (uI (uI (uI σ1 29 (nI f)) 30 (nI 0)) 31 (nI 0)) σr2 := by
    refine ⟨TK_fr hk f2 (by decide) (by decide) (by decide) (by decide) (by decide) (by decide) (by decide), ⟨r2, RS_fr hRS g3 (by decide) (by decide) (by decide)⟩, RW_fr hw g23 (by decide) (by decide), ?_, Nat.zero_le _, ?_, ?_, ?_, ?_⟩
    · simp (disch := omega) only [s_IJ, s_IA, s_IB, s_IM, s_JI, s_JA, s_JB, s_JM, s_AI, s_AJ, s_AB, s_AM, s_BI, s_BJ, s_BA, s_BM, s_MI, s_MJ, s_MA, s_MB, s_II_s, s_II_n, s_JJ_s, s_JJ_n, s_AA_s, s_AA_n, s_BB_s, s_BB_n, s_MM_s, s_MM_n, pk_us, pk_un, pk_uLs, pk_uLn]
    · exact MR_fr hm (fr_tr (fr_wk f1 (I' := [6, 12, 29, 30, 31]) (J' := []) (A' := [6, 11, 12, 13]) (B' := [0]) (M' := []) (by simp) (by simp) (by simp) (by simp) (by simp)) (fr_wk f2 (by simp) (by simp) (by simp) (by simp) (by simp))) g23 (by decide) (by decide) (by decide) (by decide) (by decide) (by decide) (by decide) (by decide) (by decide) (by decide) (by decide) (by decide) (by decide) (by decide) (by decide) (by decide) (by decide) (by decide) (by decide) (by decide) (by decide) (by decide) (by decide) (by decide) (by decide) (by decide) (by decide) (by decide) (by decide)
    · rw [g23.1 6 (by decide)]; exact hb
    · rw [g23.1 7 (by decide)]; exact h7
    · simp (disch := omega) only [s_IJ, s_IA, s_IB, s_IM, s_JI, s_JA, s_JB, s_JM, s_AI, s_AJ, s_AB, s_AM, s_BI, s_BJ, s_BA, s_BM, s_MI, s_MJ, s_MA, s_MB, s_II_s, s_II_n, s_JJ_s, s_JJ_n, s_AA_s, s_AA_n, s_BB_s, s_BB_n, s_MM_s, s_MM_n, pk_us, pk_un, pk_uLs, pk_uLn]
  obtain ⟨ok, σc', σr', e3, e4, f3, g4, m4, s4, p1, p2⟩ := s_read_25 hx t1 601 0 0 0 _ σr2 n n (by omega) (by omega) (by omega) hPS (Nat.zero_le _) s_II_s (by rw [g3.1 8 (by decide)]; simp (disch := omega) only [s_IJ, s_IA, s_IB, s_IM, s_JI, s_JA, s_JB, s_JM, s_AI, s_AJ, s_AB, s_AM, s_BI, s_BJ, s_BA, s_BM, s_MI, s_MJ, s_MA, s_MB, s_II_s, s_II_n, s_JJ_s, s_JJ_n, s_AA_s, s_AA_n, s_BB_s, s_BB_n, s_MM_s, s_MM_n, pk_us, pk_un, pk_uLs, pk_uLn]) (by omega)
  refine ⟨ok, σc', σr', ?_, ?_, ?_, ?_, mono_tr (mono_fr g23 (by decide) (by decide)) m4, fun z => ms_tr (ms_fr g23 (by decide) (by decide) (by decide) (by decide) (by decide) (by decide) (by decide) (by decide) (by decide) (by decide) (by decide) (by decide) (by decide)) (s4 z), p1, p2⟩
  · unfold m4_read
    rw [e1]
    simp only [ej_bi_s, ej_bl_s, ej_bv_s, ej_nm_e, L_0]
    exact e3
  · unfold m11_isRead
    simp only [ej_bi_s, ej_bl_s, ej_bv_s, ej_nm_e, L_0, L_1]
    rw [e2, ej_bv_s]
    exact e4
  · exact fr_tr (fr_tr (fr_wk f1 (by simp) (by simp) (by simp) (by simp) (by simp)) (fr_wk f2 (by simp) (by simp) (by simp) (by simp) (by simp))) (fr_wk f3 (by simp) (by simp) (by simp) (by simp) (by simp))
  · exact fr_tr (fr_wk g23 (by simp) (by simp) (by simp) (by simp) (by simp)) (fr_wk g4 (by simp) (by simp) (by simp) (by simp) (by simp))
end P72
