/-! 68.price once more, for fewer texts (made by mkweak.py) -/
section P68aw
variable {κ : ej_S} {W : Prop} {n f fl c i : Nat} {b : Bool} {σ σc σr σc' σr' : ej_S} {l : List Nat} {I J A B M : List Nat}
theorem PS_frcw (h : PSw κ W b f fl c l i σc σr) (p : fr I J A B M σc σc') (hI : I.all (fun k => !XIw.contains k) = true) (hA : A.all (fun k => !XA.contains k) = true) (hB : B = []) (hM : M = []) : PSw κ W b f fl c l i σc' σr := by
  subst hB hM
  obtain ⟨h1, h2, h3, h4, h5, h6, h7, h8, h9⟩ := h
  have gI' : ∀ k, k ∈ XIw → k ∉ I := fun k hk => nin hI hk
  have gA' : ∀ k, k ∈ XA → k ∉ A := fun k hk => nin hA hk
  refine ⟨TK_fr h1 p (gI' 6 (by decide)) (gI' 12 (by decide)) (gA' 6 (by decide)) (gA' 11 (by decide)) (gA' 12 (by decide)) (gA' 13 (by decide)) (by simp), h2, h3, by rw [p.1 30 (gI' 30 (by decide))]; exact h4, h5, ?_, h7, h8, by rw [p.1 29 (gI' 29 (by decide))]; exact h9⟩
  exact MR_frw h6 p (fr_rf (I := []) (J := []) (A := []) (B := []) (M := [])) (gI' 22 (by decide)) (gI' 23 (by decide)) (gI' 24 (by decide)) (gI' 25 (by decide)) (gI' 26 (by decide)) (gI' 27 (by decide)) (gI' 28 (by decide)) (gA' 18 (by decide)) (gA' 19 (by decide)) (gA' 20 (by decide)) (gA' 21 (by decide)) (gA' 22 (by decide)) (gA' 23 (by decide)) (by simp) (by simp) (by simp) (by simp) (by simp) (by simp) (by simp) (by simp) (by simp) (by simp) (by simp) (by simp) (by simp) (by simp) (by simp) (by simp) (gI' 10 (by decide)) (gI' 11 (by decide))
theorem PS_frrw (h : PSw κ W b f fl c l i σc σr) (p : fr I J A B M σr σr') (hI : I.all (fun k => !YI.contains k) = true) (hA : A.all (fun k => !YA.contains k) = true) (hJ : J = []) (hB : B = []) : PSw κ W b f fl c l i σc σr' := by
  subst hB hJ
  obtain ⟨h1, h2, h3, h4, h5, h6, h7, h8, h9⟩ := h
  have gI' : ∀ k, k ∈ YI → k ∉ I := fun k hk => nin hI hk
  have gA' : ∀ k, k ∈ YA → k ∉ A := fun k hk => nin hA hk
  refine ⟨h1, RT_fr h2 p (gI' 0 (by decide)) (gI' 1 (by decide)) (gI' 2 (by decide)) (gI' 3 (by decide)) (gI' 4 (by decide)) (gI' 5 (by decide)) (by simp) (gA' 1 (by decide)) (gA' 0 (by decide)), RW_fr h3 p (by simp) (gA' 4 (by decide)), h4, h5, ?_, by rw [p.1 6 (gI' 6 (by decide))]; exact h7, by rw [p.1 7 (gI' 7 (by decide))]; exact h8, h9⟩
  exact MR_frw h6 (fr_rf (I := []) (J := []) (A := []) (B := []) (M := [])) p (by simp) (by simp) (by simp) (by simp) (by simp) (by simp) (by simp) (by simp) (by simp) (by simp) (by simp) (by simp) (by simp) (by simp) (by simp) (by simp) (gI' 15 (by decide)) (gI' 16 (by decide)) (gA' 11 (by decide)) (gA' 12 (by decide)) (gA' 13 (by decide)) (gA' 14 (by decide)) (gA' 15 (by decide)) (gA' 16 (by decide)) (gA' 17 (by decide)) (gA' 18 (by decide)) (gA' 19 (by decide)) (gA' 20 (by decide)) (by simp)
theorem PS_tow (h : PSw κ W b f fl c l i σc σr) {i' : Nat} (hr : RT σr' fl l i') (hw : RW σr') (q : fr I J A B M σr σr') (hI : I.all (fun k => ![6, 7, 15, 16].contains k) = true) (hA : A.all (fun k => !YA.contains k) = true) (hB : B = []) (hc : i' ≤ c) : PSw κ W b f fl c l i' (uI σc 30 (nI i')) σr' := by
  subst hB
  obtain ⟨h1, h2, h3, h4, h5, h6, h7, h8, h9⟩ := h
  have gI' : ∀ k, k ∈ [6, 7, 15, 16] → k ∉ I := fun k hk => nin hI hk
  have gA' : ∀ k, k ∈ YA → k ∉ A := fun k hk => nin hA hk
  have f0 : fr [30] [] [] [] [] σc (uI σc 30 (nI i')) := fr_uI fr_rf (by simp)
  refine ⟨TK_fr h1 f0 (by decide) (by decide) (by decide) (by decide) (by decide) (by decide) (by decide), hr, hw, s_II_s, hc, ?_, by rw [q.1 6 (gI' 6 (by decide))]; exact h7, by rw [q.1 7 (gI' 7 (by decide))]; exact h8, by rw [f0.1 29 (by decide)]; exact h9⟩
  exact MR_frw h6 f0 q (by decide) (by decide) (by decide) (by decide) (by decide) (by decide) (by decide) (by decide) (by decide) (by decide) (by decide) (by decide) (by decide) (by decide) (by decide) (by decide) (gI' 15 (by decide)) (gI' 16 (by decide)) (gA' 11 (by decide)) (gA' 12 (by decide)) (gA' 13 (by decide)) (gA' 14 (by decide)) (gA' 15 (by decide)) (gA' 16 (by decide)) (gA' 17 (by decide)) (gA' 18 (by decide)) (gA' 19 (by decide)) (gA' 20 (by decide)) (by simp)
end P68aw
section P68w
variable {κ : ej_S} {W : Prop} {n f fl c i : Nat} {b : Bool} {σ σc σr : ej_S} {l : List Nat}
theorem s_pricew (hx : PX n f c l) (h : PSw κ W b f fl c l i σc σr) : ∃ ok σc' σr', m4_takePrice n σc = some (bI ok, σc') ∧ m11_isCost n σr = some (bI ok, σr') ∧ fr [10, 11, 13, 14, 15, 16, 17, 18, 19, 20, 21, 30, 33] [] [14, 15, 16, 17] [] [] σc σc' ∧ fr [1, 2, 3, 4, 5, 9, 10, 13, 14] [0] [5, 6, 7, 8, 9, 10] [] [] σr σr' ∧ (ok = true → ∃ i' q, i ≤ i' ∧ PSw κ W b f fl c l i' σc' σr' ∧ q ≤ 1000000 ∧ gI σc' 33 = nI q ∧ gI σr' 14 = nI q) ∧ (ok = false → FT σc' σr') := by
  have h600 := hx.2.2.2.2.2
  have hc6 := hx.2.2.2.1
  have fc1 : fr [33] [] [] [] [] σc (uI σc 33 (nI 4000)) := fr_uI fr_rf (by simp)
  have fr1 : fr [14] [] [] [] [] σr (uI σr 14 (nI 4000)) := fr_uI fr_rf (by simp)
  have h1 := PS_frrw (PS_frcw h fc1 (by decide) (by decide) rfl rfl) fr1 (by decide) (by decide) rfl rfl
  have htk := x_takew hx h1 (show 40 < 128 by omega)
  by_cases h40 : sr l (bg l i) = 40
  · rw [if_pos h40] at htk
    obtain ⟨σr2, e2, h2, fcs, frs, f2⟩ := PS_stepw hx h1 (by omega)
    obtain ⟨ok, σc3, σr3, e3, e4, f3, f4, g1, g2⟩ := s_workOut hx h2.1 h2.2.1 h2.2.2.1 h2.2.2.2.2.1
    have e31 : m6_workOut n (gI (uI (uI σc 33 (nI 4000)) 30 (nI (i + 1))) 30) (uI (uI σc 33 (nI 4000)) 30 (nI (i + 1))) = some (bI ok, σc3) := by rw [s_II_s]; exact e3
    have ec0 : m4_takePrice n σc = (if bI ok = 0 then ej_bi (m6_faultCode n σc3) fun r17 s16 => ej_bi (m6_faultToken n s16) fun r19 s18 => ej_bi (m8_beginAt n r19 s18) fun r21 s20 => ej_bi (m1_tell n r17 r21 s20) fun r23 s22 => (some (ej_bz r23, s22)) else ej_bi (m6_next n σc3) fun r7 s6 => ej_nm (uI s6 30 r7) fun s8 => ej_bi (m6_result n s8) fun r10 s9 => ej_nm (uI s9 33 (if r10 < 0 then 0 else r10)) fun s11 => ej_bi (m4_take n 41 s11) fun r13 s12 => (if r13 = 0 then ej_bi (m4_misplaced n s12) fun r15 s14 => (if r15 = 0 then (some (0, s14)) else (some (1, s14))) else (some (1, s12)))) := by
      unfold m4_takePrice
      rw [L_4000, ej_nm_e, L_40, htk, ej_bi_s, if_neg (show ¬ nI 1 = 0 from n10), e31, ej_bi_s]
    have er0 : m11_isCost n σr = (if bI ok = 0 then (some (0, σr3)) else (if gI σr3 2 = 41 then ej_bv (m11_next n σr3) fun s5 => (if 0 ≤ gI s5 14 then ej_nm (uI s5 14 (gI s5 14)) fun s6 => (some (1, s6)) else ej_nm (uI s5 14 0) fun s7 => (some (1, s7))) else ej_bi (m11_failsHere n 1 σr3) fun r9 s8 => (some (ej_bz r9, s8)))) := by
      unfold m11_isCost
      rw [L_4000, ej_nm_e, L_40, if_pos ((PX_tok hx h1.2.1 (by omega) (by omega) (by omega) (by omega) (by omega) (by omega)).mpr h40), e2, ej_bv_s, e4, ej_bi_s]
    rw [ec0, er0]
    have fcc : fr [10, 11, 13, 14, 15, 16, 17, 18, 19, 20, 21, 30, 33] [] [14, 15, 16, 17] [] [] σc σc3 := fr_tr (fr_wk fc1 (by simp) (by simp) (by simp) (by simp) (by simp)) (fr_tr (fr_uI fr_rf (by simp)) (fr_wk f3 (by simp) (by simp) (by simp) (by simp) (by simp)))
    have frr : fr [1, 2, 3, 4, 5, 9, 10, 13, 14] [0] [5, 6, 7, 8, 9, 10] [] [] σr σr3 := fr_tr (fr_wk fr1 (by simp) (by simp) (by simp) (by simp) (by simp)) (fr_tr (fr_wk f2 (by simp) (by simp) (by simp) (by simp) (by simp)) (fr_wk f4 (by simp) (by simp) (by simp) (by simp) (by simp)))
    cases ok
    · obtain ⟨t, k, p1, p2, p3, p4, p5, p6, p7⟩ := g2 rfl
      have hc3 := TK_fr h2.1 f3 (by decide) (by decide) (by decide) (by decide) (by decide) (by decide) (by decide)
      refine ⟨false, uI (uI σc3 10 (nI k)) 11 (nI (bg l t)), σr3, ?_, ?_, fr_uI (fr_uI fcc (by simp)) (by simp), frr, fun z => (by cases z), fun _ => ⟨k, bg l t, ?_, p2, ?_, p4, p6, p7, ?_⟩⟩
      · unfold m6_faultCode m6_faultToken m1_tell
        rw [bI_f, if_pos (show nI 0 = 0 from rfl)]
        simp only [ej_bi_s, ej_bl_s, ej_bv_s, ej_nm_e]
        rw [p3, x_beginAt hc3 p5, p1]
        simp only [ej_bi_s, ej_bl_s, ej_bv_s, ej_nm_e, L_0, bz_n0]
      · rw [bI_f, if_pos (show nI 0 = 0 from rfl)]; rfl
      · simp (disch := omega) only [s_IJ, s_IA, s_IB, s_IM, s_JI, s_JA, s_JB, s_JM, s_AI, s_AJ, s_AB, s_AM, s_BI, s_BJ, s_BA, s_BM, s_MI, s_MJ, s_MA, s_MB, s_II_s, s_II_n, s_JJ_s, s_JJ_n, s_AA_s, s_AA_n, s_BB_s, s_BB_n, s_MM_s, s_MM_n, pk_us, pk_un, pk_uLs, pk_uLn]
      · simp (disch := omega) only [s_IJ, s_IA, s_IB, s_IM, s_JI, s_JA, s_JB, s_JM, s_AI, s_AJ, s_AB, s_AM, s_BI, s_BJ, s_BA, s_BM, s_MI, s_MJ, s_MA, s_MB, s_II_s, s_II_n, s_JJ_s, s_JJ_n, s_AA_s, s_AA_n, s_BB_s, s_BB_n, s_MM_s, s_MM_n, pk_us, pk_un, pk_uLs, pk_uLn]
      · have := bg_le l t; omega
    · obtain ⟨i', q1, q2, q3, q4, q5, q6⟩ := g1 rfl
      obtain ⟨q, c1, c2, c3, c4⟩ := clampq q6
      rw [bI_t, if_neg (show ¬ nI 1 = 0 from n10), if_neg (show ¬ nI 1 = 0 from n10)]
      have h2' : PSw κ W b f fl c l (i + 1) σc3 σr2 ∨ True := .inr trivial
      have hq3 : TK σc3 l := TK_fr h2.1 f3 (by decide) (by decide) (by decide) (by decide) (by decide) (by decide) (by decide)
      have hw3 : RW σr3 := RW_fr h2.2.2.1 f4 (by decide) (by decide)
      -- where it goes on
      have hPS3 : PSw κ W b f fl c l i' (uI (uI σc3 30 (nI i')) 33 (nI q)) σr3 := by
        have a1 : PSw κ W b f fl c l (i + 1) σc3 σr2 := PS_frcw h2 f3 (by decide) (by decide) rfl rfl
        have a2 := PS_tow a1 q4 hw3 f4 (by decide) (by decide) rfl q1
        exact PS_frcw a2 (fr_uI (I := [33]) (J := []) (A := []) (B := []) (M := []) fr_rf (by simp)) (by decide) (by decide) rfl rfl
      have ec1 : (ej_bi (m6_next n σc3) fun r7 s6 => ej_nm (uI s6 30 r7) fun s8 => ej_bi (m6_result n s8) fun r10 s9 => ej_nm (uI s9 33 (if r10 < 0 then 0 else r10)) fun s11 => ej_bi (m4_take n 41 s11) fun r13 s12 => (if r13 = 0 then ej_bi (m4_misplaced n s12) fun r15 s14 => (if r15 = 0 then (some (0, s14)) else (some (1, s14))) else (some (1, s12)))) = ej_bi (m4_take n (nI 41) (uI (uI σc3 30 (nI i')) 33 (nI q))) fun r13 s12 => (if r13 = nI 0 then ej_bi (m4_misplaced n s12) fun r15 s14 => (if r15 = nI 0 then (some (nI 0, s14)) else (some (nI 1, s14))) else (some (nI 1, s12))) := by
        unfold m6_next m6_result
        rw [q3]
        simp only [ej_bi_s, ej_bl_s, ej_bv_s, ej_nm_e]
        rw [s_II_n (by omega), L_0, c2, L_41, L_1]
      rw [ec1, x_takew hx hPS3 (show 41 < 128 by omega)]
      have h41 := PX_tok hx hPS3.2.1 (K := 41) (by omega) (by omega) (by omega) (by omega) (by omega) (by omega)
      have fcc3 : fr [10, 11, 13, 14, 15, 16, 17, 18, 19, 20, 21, 30, 33] [] [14, 15, 16, 17] [] [] σc (uI (uI σc3 30 (nI i')) 33 (nI q)) := fr_uI (fr_uI fcc (by simp)) (by simp)
      by_cases g : sr l (bg l i') = 41
      · rw [if_pos g, L_41, if_pos (h41.mpr g)]
        obtain ⟨σr4, e5, h4, fcs4, frs4, f5⟩ := PS_stepw hx hPS3 (by omega)
        rw [e5]
        have f14 : gI σr4 14 = gI σr3 14 := f5.1 14 (by decide)
        have fr4 : fr [14] [] [] [] [] σr4 (uI σr4 14 (nI q)) := fr_uI fr_rf (by simp)
        refine ⟨true, _, uI σr4 14 (nI q), ?_, ?_, fr_tr fcc3 (fr_uI fr_rf (by simp)), fr_tr frr (fr_tr (fr_wk f5 (by simp) (by simp) (by simp) (by simp) (by simp)) (fr_wk fr4 (by simp) (by simp) (by simp) (by simp) (by simp))), fun _ => ⟨i' + 1, q, by omega, PS_frrw h4 fr4 (by decide) (by decide) rfl rfl, c1, ?_, s_II_s⟩, fun z => by cases z⟩
        · simp (disch := omega) only [ej_bi_s, ej_bl_s, ej_bv_s, ej_nm_e, ieq_f]; rfl
        · simp only [ej_bi_s, ej_bl_s, ej_bv_s, ej_nm_e]
          rw [f14, ← q5, L_0]
          by_cases z : nI 0 ≤ gI σc3 13
          · rw [if_pos z, ← c3 z]; rfl
          · rw [if_neg z, c4 z]; rfl
        · simp (disch := omega) only [s_IJ, s_IA, s_IB, s_IM, s_JI, s_JA, s_JB, s_JM, s_AI, s_AJ, s_AB, s_AM, s_BI, s_BJ, s_BA, s_BM, s_MI, s_MJ, s_MA, s_MB, s_II_s, s_II_n, s_JJ_s, s_JJ_n, s_AA_s, s_AA_n, s_BB_s, s_BB_n, s_MM_s, s_MM_n, pk_us, pk_un, pk_uLs, pk_uLn]
      · rw [if_neg g, L_41, if_neg (fun z => g (h41.mp z)), L_1, r_herew hPS3]
        refine ⟨false, uI (uI (uI (uI σc3 30 (nI i')) 33 (nI q)) 10 (nI 1)) 11 (nI (bg l i')), _, ?_, by rw [ej_bi_s, bz_n0]; rfl, fr_uI (fr_uI fcc3 (by simp)) (by simp), fr_uI (fr_uI frr (by simp)) (by simp), fun z => (by cases z), fun _ => FT_mk hx (by omega) (bg_le l i')⟩
        simp (disch := omega) only [ej_bi_s, ej_bl_s, ej_bv_s, ej_nm_e, ieq_t, if_true]
        rw [x_misplacedw hx hPS3]
        simp (disch := omega) only [ej_bi_s, ej_bl_s, ej_bv_s, ej_nm_e, ieq_t, if_true]; rfl
  · rw [if_neg h40] at htk
    refine ⟨true, uI σc 33 (nI 4000), uI σr 14 (nI 4000), ?_, ?_, fr_uI fr_rf (by simp), fr_uI fr_rf (by simp), fun _ => ⟨i, 4000, Nat.le_refl i, h1, by omega, s_II_s, s_II_s⟩, fun z => by cases z⟩
    · unfold m4_takePrice
      rw [L_4000, ej_nm_e, L_40, htk, ej_bi_s, if_pos (show nI 0 = 0 from rfl)]; rfl
    · unfold m11_isCost
      rw [L_4000, ej_nm_e, L_40, if_neg (fun z => h40 ((PX_tok hx h1.2.1 (by omega) (by omega) (by omega) (by omega) (by omega) (by omega)).mp z))]; rfl
end P68w
