/-! MORE FAULTS: a division by 0, a text that is refused -/
section P97y
variable {n f q k x v : Nat} {σ σ0 σr c τ : ej_S} {fs : Nat → List Nat} {LL : Nat → List St} {tp ot l r X : List Nat} {L : List St} {m : Bool}
theorem V_div0 (hn : 2000 < n) (rs : RS σ 4 [40, 53, 47, 48]) (rd : RD σ [40, 53, 47, 48] [40, 53, 47, 48]) : ∃ t, m11_isSum n σ = some (nI 0, t) ∧ gI t 9 = nI 4 ∧ gI t 10 = nI 2 ∧ FRV σ t := by
  obtain ⟨m, hm⟩ : ∃ m, n = m + 1 := ⟨n - 1, by omega⟩
  obtain ⟨m2, hm2⟩ : ∃ m2, m = m2 + 1 := ⟨m - 1, by omega⟩
  obtain ⟨m3, hm3⟩ : ∃ m3, m2 = m3 + 1 := ⟨m2 - 1, by omega⟩
  obtain ⟨m4, hm4⟩ : ∃ m4, m3 = m4 + 1 := ⟨m3 - 1, by omega⟩
  have d5 : dgs 5 = [53] := by decide +kernel
  have d0 : dgs 0 = [48] := by decide +kernel
  have g0 : gI σ 2 = nI 40 := RD_2 rd
  -- the bracket
  have Fa : fr [13] [] [6, 9] [] [] σ (uA (uA (uI (uA (uA (uI σ 13 (nI 0)) 6 0 (nI 0)) 9 0 (nI 0)) 13 (nI 1)) 6 1 (nI 0)) 9 1 (nI 0)) := fr_uA (fr_uA (fr_uI (fr_uA (fr_uA (fr_uI fr_rf (by simp)) (by simp)) (by simp)) (by simp)) (by simp)) (by simp)
  have Fa' : FRV σ (uA (uA (uI (uA (uA (uI σ 13 (nI 0)) 6 0 (nI 0)) 9 0 (nI 0)) 13 (nI 1)) 6 1 (nI 0)) 9 1 (nI 0)) := fr_wk Fa (by simp) (by simp) (by simp) (by simp) (by simp)
  obtain ⟨s1, e1, r1, f1⟩ := nx_sg (n := n) (c := 40) hn (RS_V rs Fa') (by decide) (by omega) (by omega) (by omega) (show sld [53, 47, 48] from rfl) (RD_fr rd Fa (by simp) (by simp) (by simp) (by simp) (by simp) (by simp))
  have rs1 := RS_V (RS_V rs Fa') (FV_n f1)
  have r1' : RD s1 [40, 53, 47, 48] (dgs 5 ++ [47, 48]) := by rw [d5]; exact r1
  have hd1 : ∀ c r', ([47, 48] : List Nat) = c :: r' → isDg c = false := fun c r' e => by cases e; rfl
  obtain ⟨n2, n5, _⟩ := nx_D (n := n) hn rs1 (show 5 < 1000000 by omega) hd1 (show sld [47, 48] from rfl) r1'
  -- the number
  have F4 : fr [14] [] [] [] [] s1 (uI s1 14 (nI 5)) := fr_uI fr_rf (by simp)
  have F4' : FRV s1 (uI s1 14 (nI 5)) := fr_wk F4 (by simp) (by simp) (by simp) (by simp) (by simp)
  obtain ⟨_, _, t, e, d, F5⟩ := nx_D (n := n) hn (RS_V rs1 F4') (show 5 < 1000000 by omega) hd1 (show sld [47, 48] from rfl) (RD_fr r1' F4 (by simp) (by simp) (by simp) (by simp) (by simp) (by simp))
  have rt := RS_V (RS_V rs1 F4') (FV_n F5)
  have t13 : gI t 13 = nI 1 := by rw [F5.1 13 (by simp), s_II_n (by omega), f1.1 13 (by simp), s_IA, s_IA, s_II_s]
  have t14 : gI t 14 = nI 5 := by rw [F5.1 14 (by simp), s_II_s]
  have a9 : gA t 9 1 = nI 0 := by rw [F5.2.2.1 9 (by simp), s_AI, f1.2.2.1 9 (by simp), s_AA_s, pk_us]
  have t2 : gI t 2 = nI 47 := RD_2 d
  have t3 : gI t 3 = nI 2 := RD_3 d
  -- the sign
  have F6 : fr [] [] [8, 9, 10] [] [] t (uA (uA (uA t 8 1 (gI t 14)) 9 1 (nI 47)) 10 1 (gI t 3)) := fr_uA (fr_uA (fr_uA fr_rf (by simp)) (by simp)) (by simp)
  have F6' : FRV t (uA (uA (uA t 8 1 (gI t 14)) 9 1 (nI 47)) 10 1 (gI t 3)) := fr_wk F6 (by simp) (by simp) (by simp) (by simp) (by simp)
  obtain ⟨s3, e3, r3, f3⟩ := nx_sg (n := n) (c := 47) hn (RS_V rt F6') (by decide) (by omega) (by omega) (by omega) (show sld [48] from rfl) (RD_fr d F6 (by simp) (by simp) (by simp) (by simp) (by simp) (by simp))
  have rs3 := RS_V (RS_V rt F6') (FV_n f3)
  have r3' : RD s3 [40, 53, 47, 48] (dgs 0 ++ []) := by rw [d0]; exact r3
  have hd0 : ∀ c r', ([] : List Nat) = c :: r' → isDg c = false := fun c r' e => by cases e
  obtain ⟨k2, k5, _⟩ := nx_D (n := n) hn rs3 (show 0 < 1000000 by omega) hd0 sld_nil r3'
  have F7 : fr [14] [] [] [] [] s3 (uI s3 14 (nI 0)) := fr_uI fr_rf (by simp)
  have F7' : FRV s3 (uI s3 14 (nI 0)) := fr_wk F7 (by simp) (by simp) (by simp) (by simp) (by simp)
  obtain ⟨_, _, u, e4, d4, F8⟩ := nx_D (n := n) hn (RS_V rs3 F7') (show 0 < 1000000 by omega) hd0 sld_nil (RD_fr r3' F7 (by simp) (by simp) (by simp) (by simp) (by simp) (by simp))
  have u13 : gI u 13 = nI 1 := by rw [F8.1 13 (by simp), s_II_n (by omega), f3.1 13 (by simp), F6.1 13 (by simp)]; exact t13
  have u14 : gI u 14 = nI 0 := by rw [F8.1 14 (by simp), s_II_s]
  have u9 : gA u 9 1 = nI 47 := by rw [F8.2.2.1 9 (by simp), s_AI, f3.2.2.1 9 (by simp), s_AA_n (by omega), s_AA_s, pk_us]
  have u8 : gA u 8 1 = nI 5 := by rw [F8.2.2.1 8 (by simp), s_AI, f3.2.2.1 8 (by simp), s_AA_n (by omega), s_AA_n (by omega), s_AA_s, pk_us]; exact t14
  have u10 : gA u 10 1 = nI 2 := by rw [F8.2.2.1 10 (by simp), s_AI, f3.2.2.1 10 (by simp), s_AA_s, pk_us]; exact t3
  have QA : FRV σ u := fr_tr Fa' (fr_tr (FV_n f1) (fr_tr F4' (fr_tr (FV_n F5) (fr_tr F6' (fr_tr (FV_n f3) (fr_tr F7' (FV_n F8)))))))
  refine ⟨uI (uI u 9 (nI 4)) 10 (nI 2), ?_, by simp (disch := omega) only [s_IJ, s_IA, s_IB, s_IM, s_JI, s_JA, s_JB, s_JM, s_AI, s_AJ, s_AB, s_AM, s_BI, s_BJ, s_BA, s_BM, s_MI, s_MJ, s_MA, s_MB, s_II_s, s_II_n, s_JJ_s, s_JJ_n, s_AA_s, s_AA_n, s_BB_s, s_BB_n, s_MM_s, s_MM_n, pk_us, pk_un, pk_uLs, pk_uLn], by simp (disch := omega) only [s_IJ, s_IA, s_IB, s_IM, s_JI, s_JA, s_JB, s_JM, s_AI, s_AJ, s_AB, s_AM, s_BI, s_BJ, s_BA, s_BM, s_MI, s_MJ, s_MA, s_MB, s_II_s, s_II_n, s_JJ_s, s_JJ_n, s_AA_s, s_AA_n, s_BB_s, s_BB_n, s_MM_s, s_MM_n, pk_us, pk_un, pk_uLs, pk_uLn], fr_uI (fr_uI QA (by simp)) (by simp)⟩
  unfold m11_isSum
  rw [L_0, ej_nm_e, ck_t (by omega) (by omega), nI_clamp (by omega), ej_nm_e, ck_t (by omega) (by omega), ej_nm_e]
  rw [show ∀ z, m11_isSum_21 n n (nI 0) z = m11_isSum_21 n (m4 + 1 + 1 + 1 + 1) (nI 0) z by intro z; rw [← hm4, ← hm3, ← hm2, ← hm], u_11_isSum_21, if_pos L_0.symm]
  have z2 : gI (uA (uA (uI σ 13 (nI 0)) 6 0 (nI 0)) 9 0 (nI 0)) 2 = nI 40 := by simp (disch := omega) only [s_IJ, s_IA, s_IB, s_IM, s_JI, s_JA, s_JB, s_JM, s_AI, s_AJ, s_AB, s_AM, s_BI, s_BJ, s_BA, s_BM, s_MI, s_MJ, s_MA, s_MB, s_II_s, s_II_n, s_JJ_s, s_JJ_n, s_AA_s, s_AA_n, s_BB_s, s_BB_n, s_MM_s, s_MM_n, pk_us, pk_un, pk_uLs, pk_uLn]; exact g0
  have z13 : gI (uA (uA (uI σ 13 (nI 0)) 6 0 (nI 0)) 9 0 (nI 0)) 13 = nI 0 := by simp (disch := omega) only [s_IJ, s_IA, s_IB, s_IM, s_JI, s_JA, s_JB, s_JM, s_AI, s_AJ, s_AB, s_AM, s_BI, s_BJ, s_BA, s_BM, s_MI, s_MJ, s_MA, s_MB, s_II_s, s_II_n, s_JJ_s, s_JJ_n, s_AA_s, s_AA_n, s_BB_s, s_BB_n, s_MM_s, s_MM_n, pk_us, pk_un, pk_uLs, pk_uLn]
  rw [z2, L_40, if_pos rfl, z13, L_1, nI_add, Nat.zero_add, ej_nm_e, s_II_s, ck_t (by omega) (by omega), nI_clamp (by omega), ej_nm_e, s_IA, s_II_s, ck_t (by omega) (by omega), nI_clamp (by omega), ej_nm_e, L_0, e1, ej_bv_s]
  rw [u_11_isSum_21, if_pos L_0.symm, n2, L_40, ieq_f (by omega) (by omega) (by omega), r_factor (by omega) n2 n5, ej_bi_s, if_neg (show ¬ (nI 1 = (0 : Int32)) by decide +kernel), e, ej_bv_s]
  have ec1 : m11_closes n t = some (0, s3) := by
    unfold m11_closes
    rw [show m11_closes_0 n n t = m11_closes_0 n (m + 1) t by rw [← hm], u_11_closes_0, t13, ck_t (by omega) (by omega), nI_clamp (by omega), a9, if_pos L_0.symm]
    unfold m11_closes_52
    rw [t2, L_42, L_47, ieq_f (by omega) (by omega) (by omega), if_pos rfl]
    unfold m11_closes_70
    rw [t13, ck_t (by omega) (by omega), nI_clamp (by omega), ej_nm_e, s_IA, t13, ck_t (by omega) (by omega), nI_clamp (by omega), ej_nm_e, s_IA, s_IA, t13, ck_t (by omega) (by omega), nI_clamp (by omega), ej_nm_e]
    simp only [s_IA, t2]
    rw [e3, ej_bv_s]
  rw [ec1, ej_bi_s, u_11_isSum_21, if_pos rfl, k2, L_40, ieq_f (by omega) (by omega) (by omega), r_factor (by omega) k2 k5, ej_bi_s, if_neg (show ¬ (nI 1 = (0 : Int32)) by decide +kernel), e4, ej_bv_s]
  have ec2 : m11_closes n u = some (2, uI (uI u 9 (nI 4)) 10 (nI 2)) := by
    unfold m11_closes
    rw [show m11_closes_0 n n u = m11_closes_0 n (m + 1) u by rw [← hm], u_11_closes_0, u13, ck_t (by omega) (by omega), nI_clamp (by omega), u9, L_0, ieq_f (by omega) (by omega) (by omega), ck_t (by omega) (by omega), ck_t (by omega) (by omega), ck_t (by omega) (by omega), u8, u10, u14]
    unfold m11_isWorked
    rw [L_47, if_pos rfl, L_0, if_pos rfl, L_4, r_fails, ej_bi_s, bz_n0, ej_bi_s, if_pos rfl]
  rw [ec2, ej_bi_s, u_11_isSum_21, if_neg (by decide), if_neg (by decide), L_0]
/-! a text with a fault -/
def tf (c : Nat) : Nat → List Nat
  | 0 => [c]
  | k + 1 => 97 :: 32 :: 98 :: 59 :: tf c k
theorem tf_len (c : Nat) : ∀ k, (tf c k).length = 4 * k + 1
  | 0 => rfl
  | k + 1 => by show (tf c k).length + 4 = _; rw [tf_len c k]; omega
def bc (c : Nat) : Prop := c = 36 ∨ c = 125 ∨ c = 53
theorem tf_sld {c : Nat} (hc : bc c) : ∀ k, sld (tf c k)
  | 0 => by rcases hc with z | z | z <;> rw [z] <;> rfl
  | k + 1 => rfl
/-- a link of the usual cost -/
theorem R_link0 {g : Nat} (hn : 2000 < n) (h : AT σ0 f g l m X L σ (97 :: 32 :: 98 :: 59 :: r)) : ∃ s, m11_isStatement n σ = some (nI 1, s) ∧ AT σ0 f g l m (e_add (e_add X 0) 1) (L ++ [(0, 0, 1, 0, 4000)]) s (59 :: r) ∧ FST σ s := by
  obtain ⟨m1, hm1⟩ : ∃ m1, n = m1 + 1 := ⟨n - 1, by omega⟩
  obtain ⟨m2, hm2⟩ : ∃ m2, m1 = m2 + 1 := ⟨m1 - 1, by omega⟩
  have h' : AT σ0 f g l m X L σ ((97 + 0) :: 32 :: (97 + 1) :: 59 :: r) := h
  obtain ⟨n2, n4, n0⟩ := RD_name (c := 32) (a := 0) (by omega) (by decide) h'.2.2
  obtain ⟨s1, e1, d1, F1⟩ := AT_name32 (n := n) (va := 0) hn (by omega) (sld_c (by omega)) h'
  obtain ⟨k2, k4, k0⟩ := RD_name (c := 59) (a := 1) (by omega) (by decide) d1.2.2
  obtain ⟨i, s2, e2, d2, t2, F2, g2⟩ := AT_node (n := n) (va := 0) hn (by omega) d1
  obtain ⟨j2, j4, j0⟩ := RD_name (c := 59) (a := 1) (by omega) (by decide) d2.2.2
  obtain ⟨j, s3, e3, d3, t3, F3, g3⟩ := AT_node (n := n) (va := 1) hn (by omega) d2
  obtain ⟨s4, e4, d4, F4⟩ := AT_name (n := n) (va := 1) (c := 59) hn (by omega) (by decide) (sld_c (by omega)) d3
  have g4 := AT_2 (c := 59) (by decide) (by omega) d4
  have F5 : fr [14] [] [] [] [] s4 (uI s4 14 (nI 4000)) := fr_uI fr_rf (by simp)
  have d5 : AT σ0 f g l m (e_add (e_add X 0) 1) L (uI s4 14 (nI 4000)) (59 :: r) := ⟨BM_fr d4.1 F5 (by decide) (by decide), RS_fr d4.2.1 F5 (by simp) (by simp) (by simp), RD_fr d4.2.2 F5 (by simp) (by simp) (by simp) (by simp) (by simp) (by simp)⟩
  have e5 : m11_isCost n s4 = some (nI 1, uI s4 14 (nI 4000)) := by
    unfold m11_isCost
    rw [L_4000, ej_nm_e, s_II_n (by omega), g4, L_40, ieq_f (by omega) (by omega) (by omega), L_1]
  obtain ⟨s6, e6, d6, F6⟩ := q_link (n := n) (vc := 0) (q := 4000) d5.1 (AtN_add t2) t3 (by omega)
  have D6 : AT σ0 f g l m (e_add (e_add X 0) 1) (L ++ [(0, 0, 1, 0, 4000)]) s6 (59 :: r) := ⟨d6, RS_fr d5.2.1 F6 (by simp) (by simp) (by simp), RD_fr d5.2.2 F6 (by simp) (by simp) (by simp) (by simp) (by simp) (by simp)⟩
  have g6 := AT_2 (c := 59) (by decide) (by omega) D6
  refine ⟨s6, ?_, D6, fr_tr F1 (fr_tr F2 (fr_tr F3 (fr_tr F4 (fr_tr (fr_wk F5 (by simp) (by simp) (by simp) (by simp) (by simp)) (fr_wk F6 (by simp) (by simp) (by simp) (by simp) (by simp))))))⟩
  unfold m11_isStatement m11_isStatement_57 m11_areTargets
  rw [r_isName n2 n4, ej_bi_s, L_0, if_neg n10, n0, ej_nm_e, e1, ej_bv_s, k2, L_123, ieq_f (by omega) (by omega) (by omega), e2, ej_bi_s, g2, k2, L_61, ieq_f (by omega) (by omega) (by omega)]
  rw [show m11_areTargets_2 n n (nI i) 1 s2 = m11_areTargets_2 n (m2 + 1 + 1) (nI i) 1 s2 by rw [← hm2, ← hm1], u_11_areTargets_2, if_neg (by decide), g2, k2, L_64, ieq_f (by omega) (by omega) (by omega), if_pos rfl]
  unfold m11_areTargets_29
  rw [r_isName j2 j4, ej_bi_s, L_0, if_neg n10, j0, e3, ej_bi_s, e4, ej_bv_s, e5, ej_bi_s, if_neg n10, s_II_s, ← L_0, e6, ej_bv_s, r_more_no g6 (by omega) (by omega), ej_bi_s, u_11_areTargets_2, L_0, if_pos rfl, L_1, ej_bi_s, bz_n1]
/-- the fault itself -/
theorem R_fault (hc : c = c) {b : Nat} (hb : bc b) {l : List Nat} (h : RD σ l [b]) : ∃ s, m11_isStatement n σ = some (nI 0, s) ∧ gI s 9 = nI 1 ∧ gI s 10 = nI (l.length - 1) ∧ gI s 8 = gI σ 8 ∧ fr [9, 10] [] [] [] [] σ s := by
  have g3 := RD_3 h
  have g2 := RD_2 h
  have e : gI σ 2 ≠ nI 1 := by
    rw [g2]
    rcases hb with z | z | z <;> rw [z] <;> decide +kernel
  refine ⟨uI (uI σ 9 (nI 1)) 10 (gI σ 3), ?_, by simp (disch := omega) only [s_IJ, s_IA, s_IB, s_IM, s_JI, s_JA, s_JB, s_JM, s_AI, s_AJ, s_AB, s_AM, s_BI, s_BJ, s_BA, s_BM, s_MI, s_MJ, s_MA, s_MB, s_II_s, s_II_n, s_JJ_s, s_JJ_n, s_AA_s, s_AA_n, s_BB_s, s_BB_n, s_MM_s, s_MM_n, pk_us, pk_un, pk_uLs, pk_uLn], by rw [s_II_s, g3]; rfl, by simp (disch := omega) only [s_IJ, s_IA, s_IB, s_IM, s_JI, s_JA, s_JB, s_JM, s_AI, s_AJ, s_AB, s_AM, s_BI, s_BJ, s_BA, s_BM, s_MI, s_MJ, s_MA, s_MB, s_II_s, s_II_n, s_JJ_s, s_JJ_n, s_AA_s, s_AA_n, s_BB_s, s_BB_n, s_MM_s, s_MM_n, pk_us, pk_un, pk_uLs, pk_uLn], fr_uI (fr_uI fr_rf (by simp)) (by simp)⟩
  unfold m11_isStatement m11_isName
  rw [L_1, if_neg e, r_failsHere, ej_bi_s, bz_n0, ej_bi_s, if_pos L_0.symm, L_0]
theorem R_loopF {b g : Nat} (hn : 2000 < n) (hb : bc b) : ∀ (j k c : Nat) (X : List Nat) (L : List St) (σ : ej_S), c + j ≤ 30 → 2 * j + 2 < k → AT σ0 f g l m X L σ (tf b j) → gI σ 8 = nI c → ∃ t X' L', m11_isRead_31 n k 1 σ = some (nI 0, t) ∧ BM σ0 f m X' L' t ∧ gI t 9 = nI 1 ∧ gI t 10 = nI (l.length - 1) ∧ FRF σ t := by
  intro j
  induction j with
  | zero =>
    intro k c X L σ hc hk h h8
    obtain ⟨k, rfl⟩ : ∃ k', k = k' + 1 := ⟨k - 1, by omega⟩
    obtain ⟨k, rfl⟩ : ∃ k', k = k' + 1 := ⟨k - 1, by omega⟩
    have hD : RD σ l [b] := h.2.2
    obtain ⟨s, e1, g9, g10, s8, F⟩ := R_fault (n := n) (c := σ) rfl hb hD
    have g2 := RD_2 hD
    have z0 : gI σ 2 ≠ nI 0 ∧ gI σ 2 ≠ nI 59 := by
      rw [g2]
      rcases hb with z | z | z <;> rw [z] <;> decide +kernel
    have F2 : fr [8, 9, 10] [] [] [] [] σ (uI s 8 (nI (c + 1))) := fr_uI (fr_wk F (by simp) (by simp) (by simp) (by simp) (by simp)) (by simp)
    refine ⟨uI s 8 (nI (c + 1)), X, L, ?_, BM_fr h.1 F2 (by decide) (by decide), by rw [s_II_n (by omega)]; exact g9, by rw [s_II_n (by omega)]; exact g10, fr_wk F2 (by simp) (by simp) (by simp) (by simp) (by simp)⟩
    rw [u_11_isRead_31, if_neg (by decide), L_0, if_neg z0.1, L_59, if_neg z0.2, h8, L_40, ieq_f (by omega) (by omega) (by omega), e1, ej_bi_s, if_pos rfl, s8, h8, L_1, nI_add, ej_nm_e, u_11_isRead_31, if_pos L_0.symm, bz_n0]
  | succ j ih =>
    intro k c X L σ hc hk h h8
    obtain ⟨k, rfl⟩ : ∃ k', k = k' + 1 := ⟨k - 1, by omega⟩
    obtain ⟨k, rfl⟩ : ∃ k', k = k' + 1 := ⟨k - 1, by omega⟩
    have h' : AT σ0 f g l m X L σ (97 :: 32 :: 98 :: 59 :: tf b j) := h
    have e2 : gI σ 2 = nI 1 := RD_2 h'.2.2
    obtain ⟨s1, e1, d1, F1⟩ := R_link0 (n := n) (r := tf b j) hn h'
    have g1 := AT_2 (c := 59) (by decide) (by omega) d1
    have b8 : gI s1 8 = nI c := by rw [F1.1 8 (by simp)]; exact h8
    have F8 : fr [8] [] [] [] [] s1 (uI s1 8 (nI (c + 1))) := fr_uI fr_rf (by simp)
    have d2 : AT σ0 f g l m (e_add (e_add X 0) 1) (L ++ [(0, 0, 1, 0, 4000)]) (uI s1 8 (nI (c + 1))) (59 :: tf b j) := ⟨BM_fr d1.1 F8 (by decide) (by decide), RS_fr d1.2.1 F8 (by simp) (by simp) (by simp), RD_fr d1.2.2 F8 (by simp) (by simp) (by simp) (by simp) (by simp) (by simp)⟩
    have g2 : gI (uI s1 8 (nI (c + 1))) 2 = nI 59 := by rw [s_II_n (by omega)]; exact g1
    obtain ⟨s3, e3, d3, F3⟩ := AT_sg (n := n) (c := 59) hn (by decide) (tf_sld hb j) d2
    obtain ⟨t, X', L', e4, d4, e9, e10, F4⟩ := ih k (c + 1) _ _ s3 (by omega) (by omega) d3 (by rw [F3.1 8 (by simp), s_II_s])
    refine ⟨t, X', L', ?_, d4, e9, e10, fr_tr (fr_wk F1 (by simp) (by simp) (by simp) (by simp) (by simp)) (fr_tr (fr_wk F8 (by simp) (by simp) (by simp) (by simp) (by simp)) (fr_tr (fr_wk F3 (by simp) (by simp) (by simp) (by simp) (by simp)) F4))⟩
    rw [u_11_isRead_31, if_neg (by decide), L_0, e2, ieq_f (by omega) (by omega) (by omega), L_59, ieq_f (by omega) (by omega) (by omega), h8, L_40, ieq_f (by omega) (by omega) (by omega), e1, ej_bi_s, if_neg n10, g1, if_pos rfl]
    unfold m11_isRead_107
    rw [b8, L_1, nI_add, ej_nm_e, u_11_isRead_31, L_0, if_neg n10, g2, ieq_f (by omega) (by omega) (by omega), L_59, if_pos rfl, e3, ej_bv_s, ← L_1]
    exact e4
/-- a load that is refused -/
theorem a_loadF {b j : Nat} (hn : 200000000000000 < n) (hf : f < 4) (hb : bc b) (hj : j ≤ 3) : ∀ c, IQ n fs σ0 (tf b j) ot c → ∃ c', IQF n fs σ0 [] ot (nI 1) (nI (4 * j)) c' ∧ ∀ τ : ej_S, mL_act n 1 0 (nI f) ((c, τ) : lw_S) = some (-1183, ((c', τ) : lw_S)) := by
  intro c ⟨σr, hI, q, hR, hT, hx⟩
  obtain ⟨_, _, _, hM, _⟩ := id hI
  have h6 : gI σr 6 = nI 0 := hM.2.2.2.2.1
  have hl := tf_len b j
  have F0 : fr [0, 1, 8, 9, 10, 19] [] [] [] [] σr (uI (uI (uI (uI (uI (uI σr 19 (nI 0)) 0 (nI 4)) 1 (nI 0)) 8 (nI 0)) 9 (nI 0)) 10 (nI 0)) := fr_uI (fr_uI (fr_uI (fr_uI (fr_uI (fr_uI fr_rf (by simp)) (by simp)) (by simp)) (by simp)) (by simp)) (by simp)
  have hS : RS (uI (uI (uI (uI (uI (uI σr 19 (nI 0)) 0 (nI 4)) 1 (nI 0)) 8 (nI 0)) 9 (nI 0)) 10 (nI 0)) 4 (tf b j) := ⟨by simp (disch := omega) only [s_IJ, s_IA, s_IB, s_IM, s_JI, s_JA, s_JB, s_JM, s_AI, s_AJ, s_AB, s_AM, s_BI, s_BJ, s_BA, s_BM, s_MI, s_MJ, s_MA, s_MB, s_II_s, s_II_n, s_JJ_s, s_JJ_n, s_AA_s, s_AA_n, s_BB_s, s_BB_n, s_MM_s, s_MM_n, pk_us, pk_un, pk_uLs, pk_uLn], by omega, RTX_fr hT F0 (by simp) (by simp)⟩
  obtain ⟨s1, e1, d1, F1⟩ := r_nx0 (n := n) (show 2000 < n by omega) hS (by simp (disch := omega) only [s_IJ, s_IA, s_IB, s_IM, s_JI, s_JA, s_JB, s_JM, s_AI, s_AJ, s_AB, s_AM, s_BI, s_BJ, s_BA, s_BM, s_MI, s_MJ, s_MA, s_MB, s_II_s, s_II_n, s_JJ_s, s_JJ_n, s_AA_s, s_AA_n, s_BB_s, s_BB_n, s_MM_s, s_MM_n, pk_us, pk_un, pk_uLs, pk_uLn]) (tf_sld hb j)
  have h8 : gI s1 8 = nI 0 := by rw [F1.1 8 (by simp)]; simp (disch := omega) only [s_IJ, s_IA, s_IB, s_IM, s_JI, s_JA, s_JB, s_JM, s_AI, s_AJ, s_AB, s_AM, s_BI, s_BJ, s_BA, s_BM, s_MI, s_MJ, s_MA, s_MB, s_II_s, s_II_n, s_JJ_s, s_JJ_n, s_AA_s, s_AA_n, s_BB_s, s_BB_n, s_MM_s, s_MM_n, pk_us, pk_un, pk_uLs, pk_uLn]
  have F01 : fr [0, 1, 2, 3, 4, 5, 8, 9, 10, 19] [0] [] [] [] σr s1 := fr_tr (fr_wk F0 (by simp) (by simp) (by simp) (by simp) (by simp)) (fr_wk F1 (by simp) (by simp) (by simp) (by simp) (by simp))
  obtain ⟨s7, X', L', e2, b7, g9, g10, F7⟩ := R_loopF (n := n) (f := 0) (g := 4) (m := false) (σ0 := σr) (l := tf b j) (show 2000 < n by omega) hb j n 0 [] [] s1 (by omega) (by omega) ⟨⟨by rw [F01.1 6 (by simp)]; exact h6, ms_f3 F01 (by decide)⟩, RS_fr hS F1 (by simp) (by simp) (by simp), d1⟩ h8
  have e7 : m11_isRead n (nI 4) (uI σr 19 (nI 0)) = some (nI 0, s7) := by
    unfold m11_isRead
    rw [ej_nm_e, ej_nm_e, ej_nm_e, ej_nm_e, ej_nm_e, L_0, e1, ej_bv_s, e2]
  have Q7 : fr [0, 1, 2, 3, 4, 5, 8, 9, 10, 13, 14, 15, 16, 19] [0] [5, 6, 7, 8, 9, 10, 11, 12, 13, 14, 15, 16, 17, 18, 19, 20] [1] [] σr s7 := fr_tr (fr_wk F01 (by simp) (by simp) (by simp) (by simp) (by simp)) (fr_wk F7 (by simp) (by simp) (by simp) (by simp) (by simp))
  have q7 : QMP σr s7 := ⟨b7.2, Q7.2.1 1 (by simp), Q7.1 6 (by simp), fun k hk => Q7.2.2.1 k (by
    simp only [List.mem_cons, List.not_mem_nil, or_false] at hk ⊢
    omega)⟩
  obtain ⟨r4, r5⟩ := RTX_0 (σ := uI (uI s7 11 (gI s7 9)) 12 (gI s7 10)) (fs := fs) (fun f hf => RTX_fr (RTX_fr (hR f hf) Q7 (by simp) (by simp)) (show fr [11, 12] [] [] [] [] s7 (uI (uI s7 11 (gI s7 9)) 12 (gI s7 10)) from fr_uI (fr_uI fr_rf (by simp)) (by simp)) (by simp) (by simp))
  have F9 : fr [11, 12, 19] [] [1] [] [] s7 (uI (uA (uI (uI s7 11 (gI s7 9)) 12 (gI s7 10)) 1 4 (nI 0)) 19 (nI 2)) := fr_uI (fr_uA (fr_uI (fr_uI fr_rf (by simp)) (by simp)) (by simp)) (by simp)
  have eY : m11_load n (nI f) σr = some (nI 0, uI (uA (uI (uI s7 11 (gI s7 9)) 12 (gI s7 10)) 1 4 (nI 0)) 19 (nI 2)) := by
    unfold m11_load m11_load_13
    have eF : m11_isFile n (nI f) σr = some (nI 1, σr) := by
      unfold m11_isFile
      rw [v_isIn, L_0, L_3, L_1, ej_bi_s, ilt_f (Nat.zero_le _) (by omega), ilt_f (by omega) (by omega), bz_n1]
    rw [eF, ej_bi_s, L_0, if_neg n10, goes_0, ej_bi_s, if_neg n10, L_4, e7, ej_bi_s, if_pos rfl]
    unfold m11_load_44
    rw [tells_f, ej_bv_s, L_0, if_pos rfl, L_2, goes_2, ej_bi_s, if_pos rfl]
  obtain ⟨c', x1, x2⟩ := (G_load (k_load hn hI (nI f)) eY).2.2 s_II_s
  refine ⟨c', ⟨_, x2, QMP_tr q (QMP_tr q7 (QMP_fr F9 (by decide) (by decide) (by decide) (by decide))), fun f hf => RTX_fr (r5 f hf) f19 (by simp) (by simp), RTX_fr r4 f19 (by simp) (by simp), RX_fr (RX_fr hx Q7 (by simp) (by simp)) F9 (by simp) (by simp), by rw [← g9]; simp (disch := omega) only [s_IJ, s_IA, s_IB, s_IM, s_JI, s_JA, s_JB, s_JM, s_AI, s_AJ, s_AB, s_AM, s_BI, s_BJ, s_BA, s_BM, s_MI, s_MJ, s_MA, s_MB, s_II_s, s_II_n, s_JJ_s, s_JJ_n, s_AA_s, s_AA_n, s_BB_s, s_BB_n, s_MM_s, s_MM_n, pk_us, pk_un, pk_uLs, pk_uLn], ?_⟩, fun τ => ?_⟩
  · rw [show 4 * j = (tf b j).length - 1 by omega, ← g10]; simp (disch := omega) only [s_IJ, s_IA, s_IB, s_IM, s_JI, s_JA, s_JB, s_JM, s_AI, s_AJ, s_AB, s_AM, s_BI, s_BJ, s_BA, s_BM, s_MI, s_MJ, s_MA, s_MB, s_II_s, s_II_n, s_JJ_s, s_JJ_n, s_AA_s, s_AA_n, s_BB_s, s_BB_n, s_MM_s, s_MM_n, pk_us, pk_un, pk_uLs, pk_uLn]
  · unfold mL_act
    rw [if_neg (by decide), if_pos rfl]
    show ej_bw (ej_lcx (m10_load n (nI f) c) (c, τ)) _ _ = _
    rw [x1]; rfl
end P97y
