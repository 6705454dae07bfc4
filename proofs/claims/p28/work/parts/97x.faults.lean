/-! A FULL TAPE, AND FAULTS -/
def rep (k : Nat) : List Nat := List.replicate k 32
theorem rep_skp : ∀ k, skp false (rep k) = k
  | 0 => rfl
  | k + 1 => by
    show skp false (32 :: rep k) = k + 1
    rw [sld_32, rep_skp k]
theorem rep_txt (k : Nat) : txt (rep k) [] := ⟨by rw [rep_skp]; unfold rep; rw [List.drop_eq_nil_of_le (by rw [List.length_replicate]; exact Nat.le_refl _)]; rfl, fun s h => (by cases h), Nat.zero_le _⟩
theorem rep_app (a b : Nat) : rep a ++ rep b = rep (a + b) := by unfold rep; rw [List.replicate_append_replicate]
section P97x
variable {n f q k x : Nat} {σ σ0 σr c τ : ej_S} {fs : Nat → List Nat} {LL : Nat → List St} {tp ot l r : List Nat} {a b : Int32}
theorem L_isFull_43 (hn : 200000000000000 < n) (hF : MF fs LL σ0) (hc : IQ n fs σ0 (rep 600) ot c) : ∃ c' σ1, IQ n (fsu fs 1 (rep 600)) σ1 [] ot c' ∧ MF (fsu fs 1 (rep 600)) (lsu LL 1 []) σ1 ∧ gJ σ1 1 = gJ σ0 1 ∧ mL_isFull_43 n 1 (c, τ) = some (nI 1, (c', τ)) := by
  have hl : (rep 600).length = 600 := List.length_replicate
  obtain ⟨c1, i1, e1⟩ := a_full (n := n) (m := 1) (show 2000 < n by omega) (by omega) (by omega) (show 600 < (rep 600).length + 1 by omega) 32 c hc
  obtain ⟨c2, σ1, i2, e2, hF2, hJ⟩ := a_load (n := n) (f := 1) hn (by omega) hF (rep_txt 600) c1 i1
  obtain ⟨c3, i3, e3⟩ := a_feed (n := n) (W := 32) (m := 1) (show 2000 < n by omega) (by omega) (by omega) (show ([] : List Nat).length + 1 ≤ 600 by decide) c2 i2
  obtain ⟨c4, i4, e4⟩ := a_look0 (n := n) (show 2000 < n by omega) c3 (by rw [show ([] : List Nat) ++ fbs 32 1 0 = [32] by decide +kernel] at i3; exact i3)
  refine ⟨c4, σ1, i4, hF2, hJ, ?_⟩
  unfold mL_isFull_43
  rw [if_neg (by decide), show mL_act n 0 32 1 (c, τ) = mL_act n 0 32 (nI 1) (c, τ) by rw [← L_1], e1 τ, ej_bi_s, if_pos rfl, show mL_act n 1 0 1 (c1, τ) = mL_act n 1 0 (nI 1) (c1, τ) by rw [← L_1], e2 τ, ej_bi_s, if_pos (show nI ([] : List St).length = (0 : Int32) from L_0.symm), show mL_act n 0 32 1 (c2, τ) = mL_act n 0 (lN 32) (nI 1) (c2, τ) by rw [← L_1, show (32 : Int64) = lN 32 by decide +kernel], e3 τ, ej_bi_s, if_pos (show nI (([] : List Nat).length + 1) = (1 : Int32) from L_1.symm), e4 τ, ej_bi_s, if_pos (show zm = (-1 : Int32) from rfl), L_1]
theorem L_isFull_4 (hn : 200000000000000 < n) (hF : MF fs LL σ0) : ∀ (fu k : Nat) (c : ej_S), IQ n fs σ0 (rep (8 * k)) ot c → k ≤ 75 → 75 - k < fu → ∃ c' σ1, IQ n (fsu fs 1 (rep 600)) σ1 [] ot c' ∧ MF (fsu fs 1 (rep 600)) (lsu LL 1 []) σ1 ∧ gJ σ1 1 = gJ σ0 1 ∧ mL_isFull_4 n fu 1 (nI (k + 1)) (c, τ) = some (nI 1, (c', τ)) := by
  intro fu
  induction fu with
  | zero => intro k c _ _ z; omega
  | succ fu ih =>
    intro k c hc hk hf
    rw [u_L_isFull_4]
    rcases Nat.eq_or_lt_of_le hk with z | z
    · subst z
      obtain ⟨c1, σ1, i1, h1, h2, e1⟩ := L_isFull_43 (n := n) (τ := τ) hn hF hc
      refine ⟨c1, σ1, i1, h1, h2, ?_⟩
      rw [show (75 : Int32) = nI 75 from congrArg nI (Eq.refl 75), ilt_t (by omega) (by omega), e1]
    · have hl : (rep (8 * k)).length = 8 * k := List.length_replicate
      obtain ⟨c1, i1, e1⟩ := a_feed (n := n) (W := 2314885530818453536) (m := 8) (show 2000 < n by omega) (by omega) (by omega) (show (rep (8 * k)).length + 8 ≤ 600 by omega) c hc
      rw [show fbs 2314885530818453536 8 0 = rep 8 by decide +kernel, rep_app, show 8 * k + 8 = 8 * (k + 1) by omega] at i1
      obtain ⟨c2, σ1, i2, h1, h2, e2⟩ := ih (k + 1) c1 i1 z (by omega)
      refine ⟨c2, σ1, i2, h1, h2, ?_⟩
      rw [show (75 : Int32) = nI 75 from congrArg nI (Eq.refl 75), ilt_f (by omega) (by omega), if_neg (by decide), show (2314885530818453536 : Int64) = lN 2314885530818453536 by decide +kernel, show mL_act n 0 (lN 2314885530818453536) 8 (c, τ) = mL_act n 0 (lN 2314885530818453536) (nI 8) (c, τ) by rw [← L_8], e1 τ, ej_bi_s, hl, show (8 : Int32) * nI (k + 1) = nI (8 * (k + 1)) by rw [L_8, pk_mul], if_pos (show nI (8 * k + 8) = nI (8 * (k + 1)) by congr 1), p_1, ej_nm_e, e2]
theorem L_isFull (hn : 200000000000000 < n) (hF : MF fs LL σ0) (hc : IQ n fs σ0 [] ot c) : ∃ c' σ1, IQ n (fsu fs 1 (rep 600)) σ1 [] ot c' ∧ MF (fsu fs 1 (rep 600)) (lsu LL 1 []) σ1 ∧ gJ σ1 1 = gJ σ0 1 ∧ mL_isFull n (c, τ) = some (nI 1, (c', τ)) := by
  obtain ⟨c', σ1, i1, h1, h2, e1⟩ := L_isFull_4 (n := n) (τ := τ) hn hF 77 0 c hc (by omega) (by omega)
  exact ⟨c', σ1, i1, h1, h2, by unfold mL_isFull; rw [← e1, L_1]⟩
/-! faults -/
theorem RD_3 (h : RD σ l r) : gI σ 3 = nI (l.length - r.length) := by
  obtain ⟨b, b1, b2, b3⟩ := h
  rw [← b2, List.length_drop, show l.length - (l.length - b) = b by omega]
  exact b3.2.2.1
/-- what a fault in a sum leaves -/
theorem a_valueF {u v : Nat} (hn : 2000 < n) (hs : sld tp) (H : ∀ s : ej_S, RS s 4 tp → RD s tp tp → RW s → ∃ t, m11_isSum n s = some (nI 0, t) ∧ gI t 9 = nI u ∧ gI t 10 = nI v ∧ FRV s t) : ∀ c, IQ n fs σ0 tp ot c → ∃ c', IQF n fs σ0 [] ot (nI u) (nI v) c' ∧ ∀ τ : ej_S, mL_act n 3 0 0 ((c, τ) : lw_S) = some (-1183, ((c', τ) : lw_S)) := by
  intro c ⟨σr, hI, q, hR, hT, hx⟩
  obtain ⟨_, _, _, hM, _⟩ := id hI
  obtain ⟨s5, _, rs, rd, F5, e5⟩ := V_begin (n := n) hn hT hs
  obtain ⟨s6, e6, g9, g10, F6⟩ := H s5 rs rd (RW_fr hM.2.2.2.1 F5 (by simp) (by simp))
  have Q6 : fr [0, 1, 2, 3, 4, 5, 9, 10, 13, 14] [0] [5, 6, 7, 8, 9, 10] [] [] σr s6 := fr_tr (fr_wk F5 (by simp) (by simp) (by simp) (by simp) (by simp)) (fr_wk F6 (by simp) (by simp) (by simp) (by simp) (by simp))
  obtain ⟨r4, r5⟩ := RTX_0 (σ := uI (uI s6 11 (gI s6 9)) 12 (gI s6 10)) (fs := fs) (fun f hf => RTX_fr (RTX_fr (hR f hf) Q6 (by simp) (by simp)) (show fr [11, 12] [] [] [] [] s6 (uI (uI s6 11 (gI s6 9)) 12 (gI s6 10)) from fr_uI (fr_uI fr_rf (by simp)) (by simp)) (by simp) (by simp))
  have F9 : fr [11, 12, 19] [] [1] [] [] s6 (uI (uA (uI (uI s6 11 (gI s6 9)) 12 (gI s6 10)) 1 4 (nI 0)) 19 (nI 1)) := fr_uI (fr_uA (fr_uI (fr_uI fr_rf (by simp)) (by simp)) (by simp)) (by simp)
  have Q9 : fr [0, 1, 2, 3, 4, 5, 9, 10, 11, 12, 13, 14, 19] [0] [1, 5, 6, 7, 8, 9, 10] [] [] σr (uI (uA (uI (uI s6 11 (gI s6 9)) 12 (gI s6 10)) 1 4 (nI 0)) 19 (nI 1)) := fr_tr (fr_wk Q6 (by simp) (by simp) (by simp) (by simp) (by simp)) (fr_wk F9 (by simp) (by simp) (by simp) (by simp) (by simp))
  have eY : m11_value n σr = some (nI 0, uI (uA (uI (uI s6 11 (gI s6 9)) 12 (gI s6 10)) 1 4 (nI 0)) 19 (nI 1)) := by
    unfold m11_value m11_value_51
    rw [L_4, L_0, ej_nm_e, ej_nm_e, ej_nm_e, ej_nm_e, e5, ej_bv_s, e6, ej_bi_s, if_pos rfl, tells_f, ej_bv_s, if_pos rfl, L_1, goes_1, ej_bi_s, if_pos rfl]
  obtain ⟨c', x1, x2⟩ := (G_one (k_value hn hI) eY).2 s_II_s
  refine ⟨c', ⟨_, x2, QMP_tr q (QMP_fr Q9 (by decide) (by decide) (by decide) (by decide)), fun f hf => RTX_fr (r5 f hf) f19 (by simp) (by simp), RTX_fr r4 f19 (by simp) (by simp), RX_fr hx Q9 (by simp) (by simp), by rw [← g9]; simp (disch := omega) only [s_IJ, s_IA, s_IB, s_IM, s_JI, s_JA, s_JB, s_JM, s_AI, s_AJ, s_AB, s_AM, s_BI, s_BJ, s_BA, s_BM, s_MI, s_MJ, s_MA, s_MB, s_II_s, s_II_n, s_JJ_s, s_JJ_n, s_AA_s, s_AA_n, s_BB_s, s_BB_n, s_MM_s, s_MM_n, pk_us, pk_un, pk_uLs, pk_uLn], by rw [← g10]; simp (disch := omega) only [s_IJ, s_IA, s_IB, s_IM, s_JI, s_JA, s_JB, s_JM, s_AI, s_AJ, s_AB, s_AM, s_BI, s_BJ, s_BA, s_BM, s_MI, s_MJ, s_MA, s_MB, s_II_s, s_II_n, s_JJ_s, s_JJ_n, s_AA_s, s_AA_n, s_BB_s, s_BB_n, s_MM_s, s_MM_n, pk_us, pk_un, pk_uLs, pk_uLn]⟩, fun τ => ?_⟩
  unfold mL_act
  rw [if_neg (by decide), if_neg (by decide), if_neg (by decide), if_pos rfl]
  show ej_bw (ej_lcx (m10_value n c) (c, τ)) _ _ = _
  rw [x1]; rfl
/-- a word that is no cost -/
theorem V_word (hn : 2000 < n) (rs : RS σ 4 [55, 43, 77, 88]) (rd : RD σ [55, 43, 77, 88] [55, 43, 77, 88]) (hw : RW σ) : ∃ t, m11_isSum n σ = some (nI 0, t) ∧ gI t 9 = nI 3 ∧ gI t 10 = nI 2 ∧ FRV σ t := by
  obtain ⟨m, hm⟩ : ∃ m, n = m + 1 := ⟨n - 1, by omega⟩
  obtain ⟨m2, hm2⟩ : ∃ m2, m = m2 + 1 := ⟨m - 1, by omega⟩
  obtain ⟨m3, hm3⟩ : ∃ m3, m2 = m3 + 1 := ⟨m2 - 1, by omega⟩
  have d7 : dgs 7 = [55] := by decide +kernel
  have Fa : fr [13] [] [6, 9] [] [] σ (uA (uA (uI σ 13 (nI 0)) 6 0 (nI 0)) 9 0 (nI 0)) := fr_uA (fr_uA (fr_uI fr_rf (by simp)) (by simp)) (by simp)
  have Fa' : FRV σ (uA (uA (uI σ 13 (nI 0)) 6 0 (nI 0)) 9 0 (nI 0)) := fr_wk Fa (by simp) (by simp) (by simp) (by simp) (by simp)
  have rs1 := RS_V rs Fa'
  have rd1 : RD (uA (uA (uI σ 13 (nI 0)) 6 0 (nI 0)) 9 0 (nI 0)) [55, 43, 77, 88] (dgs 7 ++ [43, 77, 88]) := by rw [d7]; exact RD_fr rd Fa (by simp) (by simp) (by simp) (by simp) (by simp) (by simp)
  have hd1 : ∀ c r', ([43, 77, 88] : List Nat) = c :: r' → isDg c = false := fun c r' e => by cases e; rfl
  have hd2 : sld [43, 77, 88] := rfl
  obtain ⟨n2, n5, _⟩ := nx_D (n := n) hn rs1 (show 7 < 1000000 by omega) hd1 hd2 rd1
  have F4 : fr [14] [] [] [] [] (uA (uA (uI σ 13 (nI 0)) 6 0 (nI 0)) 9 0 (nI 0)) (uI (uA (uA (uI σ 13 (nI 0)) 6 0 (nI 0)) 9 0 (nI 0)) 14 (nI 7)) := fr_uI fr_rf (by simp)
  have F4' : FRV (uA (uA (uI σ 13 (nI 0)) 6 0 (nI 0)) 9 0 (nI 0)) (uI (uA (uA (uI σ 13 (nI 0)) 6 0 (nI 0)) 9 0 (nI 0)) 14 (nI 7)) := fr_wk F4 (by simp) (by simp) (by simp) (by simp) (by simp)
  obtain ⟨_, _, t, e, d, F5⟩ := nx_D (n := n) hn (RS_V rs1 F4') (show 7 < 1000000 by omega) hd1 hd2 (RD_fr rd1 F4 (by simp) (by simp) (by simp) (by simp) (by simp) (by simp))
  have rt := RS_V (RS_V rs1 F4') (FV_n F5)
  have t13 : gI t 13 = nI 0 := by rw [F5.1 13 (by simp), s_II_n (by omega), s_IA, s_IA, s_II_s]
  have a6 : gA t 6 0 = nI 0 := by rw [F5.2.2.1 6 (by simp), s_AI, s_AA_n (by omega), s_AA_s, pk_us]
  have a9 : gA t 9 0 = nI 0 := by rw [F5.2.2.1 9 (by simp), s_AI, s_AA_s, pk_us]
  have t2 : gI t 2 = nI 43 := RD_2 d
  obtain ⟨G, eG⟩ := r_closes (n := n) hn a9 t13
  have F6 : fr [] [] [5, 6, 7, 9] [] [] t (uA (uA (uA (uA t 5 0 (gI t 14)) 6 0 (nI 43)) 7 0 (gI t 3)) 9 0 (nI 0)) := fr_uA (fr_uA (fr_uA (fr_uA fr_rf (by simp)) (by simp)) (by simp)) (by simp)
  have F6' : FRV t (uA (uA (uA (uA t 5 0 (gI t 14)) 6 0 (nI 43)) 7 0 (gI t 3)) 9 0 (nI 0)) := fr_wk F6 (by simp) (by simp) (by simp) (by simp) (by simp)
  obtain ⟨s1, e1, d1, f1⟩ := nx_sg (n := n) (c := 43) hn (RS_V rt F6') (by decide) (by omega) (by omega) (by omega) (show sld [77, 88] from rfl) (RD_fr d F6 (by simp) (by simp) (by simp) (by simp) (by simp) (by simp))
  have g2 : gI s1 2 = nI 2 := RD_2 d1
  have g3 : gI s1 3 = nI 2 := RD_3 d1
  have QA : fr [1, 2, 3, 4, 5, 13, 14] [0] [5, 6, 7, 9] [] [] σ s1 := fr_tr (fr_wk Fa (by simp) (by simp) (by simp) (by simp) (by simp)) (fr_tr (fr_wk F4 (by simp) (by simp) (by simp) (by simp) (by simp)) (fr_tr (fr_wk F5 (by simp) (by simp) (by simp) (by simp) (by simp)) (fr_tr (fr_wk F6 (by simp) (by simp) (by simp) (by simp) (by simp)) (fr_wk f1 (by simp) (by simp) (by simp) (by simp) (by simp)))))
  have hw1 : RW s1 := RW_fr hw QA (by simp) (by simp)
  obtain ⟨b, b1, b2, ra⟩ := id d1
  obtain ⟨k4, kJ⟩ := ra.2.2.2.2.1 (by unfold sr; rw [b2]; rfl)
  unfold tk at kJ
  rw [b2] at k4 kJ
  have k4' : gI s1 4 = nI ([77, 88] : List Nat).length := k4
  have kJ' : gJ s1 0 = lN (encL (([77, 88] : List Nat).take 10)) := kJ
  rcases r_isFactor_57 (n := n) (ws := [77, 88]) hw1 k4' (by decide) kJ' (by decide) n 0 zm (by omega) (by omega) (.inl ⟨rfl, fun i hi => by omega⟩) with ⟨_, e57⟩ | ⟨i, hi, w, _⟩
  · refine ⟨uI (uI (uI s1 14 (nI 0)) 9 (nI 3)) 10 (nI 2), ?_, by simp (disch := omega) only [s_IJ, s_IA, s_IB, s_IM, s_JI, s_JA, s_JB, s_JM, s_AI, s_AJ, s_AB, s_AM, s_BI, s_BJ, s_BA, s_BM, s_MI, s_MJ, s_MA, s_MB, s_II_s, s_II_n, s_JJ_s, s_JJ_n, s_AA_s, s_AA_n, s_BB_s, s_BB_n, s_MM_s, s_MM_n, pk_us, pk_un, pk_uLs, pk_uLn], by simp (disch := omega) only [s_IJ, s_IA, s_IB, s_IM, s_JI, s_JA, s_JB, s_JM, s_AI, s_AJ, s_AB, s_AM, s_BI, s_BJ, s_BA, s_BM, s_MI, s_MJ, s_MA, s_MB, s_II_s, s_II_n, s_JJ_s, s_JJ_n, s_AA_s, s_AA_n, s_BB_s, s_BB_n, s_MM_s, s_MM_n, pk_us, pk_un, pk_uLs, pk_uLn], fr_uI (fr_uI (fr_uI (fr_wk QA (by simp) (by simp) (by simp) (by simp) (by simp)) (by simp)) (by simp)) (by simp)⟩
    unfold m11_isSum
    rw [L_0, ej_nm_e, ck_t (by omega) (by omega), nI_clamp (by omega), ej_nm_e, ck_t (by omega) (by omega), ej_nm_e]
    rw [show ∀ z, m11_isSum_21 n n (nI 0) z = m11_isSum_21 n (m3 + 1 + 1 + 1) (nI 0) z by intro z; rw [← hm3, ← hm2, ← hm], u_11_isSum_21, L_0, if_pos rfl, n2, L_40, ieq_f (by omega) (by omega) (by omega), r_factor (by omega) n2 n5, ej_bi_s, if_neg n10, e, ej_bv_s, eG]
    have c185 : m11_closes_185 n t = some (0, s1) := by
      unfold m11_closes_185
      rw [t13, ck_t (by omega) (by omega), nI_clamp (by omega), ej_nm_e, s_IA, t13, ck_t (by omega) (by omega), nI_clamp (by omega), ej_nm_e, s_IA, s_IA, t13, ck_t (by omega) (by omega), nI_clamp (by omega), ej_nm_e, s_IA, s_IA, s_IA, t13, ck_t (by omega) (by omega), nI_clamp (by omega), ej_nm_e]
      simp only [s_IA, t2]
      rw [L_0, e1, ej_bv_s]
    unfold m11_closes_52 m11_closes_167
    rw [t2, L_42, L_47, ieq_f (by omega) (by omega) (by omega), ieq_f (by omega) (by omega) (by omega), t13, ck_t (by omega) (by omega), nI_clamp (by omega), a6, if_pos L_0.symm, L_43, if_pos rfl, c185, ej_bi_s, L_0, u_11_isSum_21, if_pos L_0.symm, g2, L_40, ieq_f (by omega) (by omega) (by omega)]
    have eF : m11_isFactor n s1 = some (nI 0, uI (uI (uI s1 14 (nI 0)) 9 (nI 3)) 10 (nI 2)) := by
      unfold m11_isFactor
      rw [g2, L_3, L_2, ieq_f (by omega) (by omega) (by omega), if_pos rfl, L_m1, L_0, e57]
      unfold m11_isFactor_114
      rw [ej_nm_e, L_m1, if_pos rfl, L_3, r_failsHere, ej_bi_s, L_0, if_pos rfl, s_II_n (by omega), g3]
    rw [eF, ej_bi_s, if_pos L_0.symm, u_11_isSum_21, if_neg (by decide), if_neg (by decide), L_0]
  · exact absurd w ((by decide +kernel : ∀ i, i < 10 → ¬ (wt i).1 = [77, 88]) i hi)
end P97x
