/-! THE CALLS, one by one: what uses the tape up -/
section P96e
variable {n a : Nat} {σ σc σr σc' σr' : ej_S} {fs : Nat → List Nat} {tp ot : List Nat} {g : Nat → Int64}
theorem INV_tape {s t : ej_S} {x y v : Int32} (hM : MAPI n fs s t) (h0 : TX s 0 []) (h1 : TX s 1 ot) (hX : RX t ot) (f1 : gI s 10 = x) (f2 : gI s 11 = y) : INV n s (uI (uA (uI (uI t 11 x) 12 y) 1 4 (nI 0)) 19 v) := by
  have q1 : fr [11, 12] [] [] [] [] t (uI (uI t 11 x) 12 y) := fr_uI (fr_uI fr_rf (by simp)) (by simp)
  have hR : ∀ f, f < 4 → RTX (uI (uI t 11 x) 12 y) f (fs f) := fun f hf => RTX_fr (hM.2.1 f hf) q1 (by simp) (by simp)
  obtain ⟨r1, r2⟩ := RTX_0 hR
  have q2 : fr [11, 12, 19] [] [1] [] [] t (uI (uA (uI (uI t 11 x) 12 y) 1 4 (nI 0)) 19 v) := fr_uI (fr_uA (fr_wk q1 (by simp) (by simp) (by simp) (by simp) (by simp)) (by simp)) (by simp)
  refine ⟨fs, [], ot, MAPI_r hM (fr_wk q2 (by simp) (by simp) (by simp) (by simp) (by simp)) (fun f hf => RTX_fr (r2 f hf) f19 (by simp) (by simp)), h0, RTX_fr r1 f19 (by simp) (by simp), h1, RX_fr hX q2 (by simp) (by simp), ?_, ?_⟩
  · rw [f1]; simp (disch := omega) only [s_IJ, s_IA, s_IB, s_IM, s_JI, s_JA, s_JB, s_JM, s_AI, s_AJ, s_AB, s_AM, s_BI, s_BJ, s_BA, s_BM, s_MI, s_MJ, s_MA, s_MB, s_II_s, s_II_n, s_JJ_s, s_JJ_n, s_AA_s, s_AA_n, s_BB_s, s_BB_n, s_MM_s, s_MM_n, pk_us, pk_un, pk_uLs, pk_uLn]
  · rw [f2]; simp (disch := omega) only [s_IJ, s_IA, s_IB, s_IM, s_JI, s_JA, s_JB, s_JM, s_AI, s_AJ, s_AB, s_AM, s_BI, s_BJ, s_BA, s_BM, s_MI, s_MJ, s_MA, s_MB, s_II_s, s_II_n, s_JJ_s, s_JJ_n, s_AA_s, s_AA_n, s_BB_s, s_BB_n, s_MM_s, s_MM_n, pk_us, pk_un, pk_uLs, pk_uLn]
theorem tells_f : m11_tells n (nI 0) σ = some (uA (uI (uI σ 11 (gI σ 9)) 12 (gI σ 10)) 1 4 (nI 0)) := by
  unfold m11_tells m11_tells_13
  rw [L_0, if_pos rfl, ej_nm_e, if_pos rfl, ej_nm_e, L_4, ck_t (by omega) (by omega), nI_clamp (by omega), ej_nm_e, s_II_n (by omega)]
theorem tells_t : m11_tells n (nI 1) σ = some (uA (uI (uI σ 11 (nI 0)) 12 (nI 0)) 1 4 (nI 0)) := by
  unfold m11_tells m11_tells_13
  rw [L_0, if_neg n10, ej_nm_e, if_neg n10, ej_nm_e, L_4, ck_t (by omega) (by omega), nI_clamp (by omega), ej_nm_e]
theorem s_file (x : Int32) : (∃ f, f < 4 ∧ x = nI f ∧ m10_isFile n x σc = some (nI 1, σc) ∧ m11_isFile n x σr = some (nI 1, σr)) ∨ (m10_isFile n x σc = some (nI 0, σc) ∧ m11_isFile n x σr = some (nI 0, σr)) := by
  unfold m10_isFile m11_isFile
  rw [v_isIn, L_0, L_3, L_4, L_1, ej_bi_s]
  by_cases g : x < nI 0
  · rw [if_pos g, if_pos g, bz_n0]
    exact .inr ⟨rfl, rfl⟩
  · rw [if_neg g, if_neg g]
    have g' : 0 ≤ x.toInt := by
      rw [Int32.lt_iff_toInt_lt, nI_toInt (by omega)] at g
      simpa using g
    obtain ⟨k, hk, rfl⟩ := nn_of g'
    rcases Nat.lt_or_ge k 4 with q | q
    · rw [ile_f q (by omega), ilt_f (by omega) (by omega), bz_n1]
      exact .inl ⟨k, q, rfl, rfl, rfl⟩
    · rw [ile_t q hk, ilt_t (by omega) hk, bz_n0]
      exact .inr ⟨rfl, rfl⟩
theorem c_feed (hn : 2000 < n) (h : INV n σc σr) (w : Int64) (x : Int32) : STEP n σr (mW_feed n w x (σc, σr, g)) (m11_feed n w x σr) := by
  obtain ⟨fs, tp, ot, hM, hO⟩ := h
  unfold mW_feed m11_feed m10_feed
  rw [v_isIn, ej_bi_s, L_0, L_1, L_2, L_8, goes_1, goes_2, goes_0]
  have bad1 : ∀ (X : Option ((Int32 × ej_S) ⊕ (Nat × ej_S))) (Y : Option (Int32 × ej_S)) (K : Int32 → xw_S → Option (Int32 × xw_S)), X = some (.inr (1, σc)) → Y = some (nI 0, uI σr 19 (nI 1)) → STEP n σr (ej_bw (xw_lcx X (σc, σr, g)) K (fun k sk => if k = 1 then (fun s5 => (some (nI 1, s5))) sk else if k = 2 then (fun s7 => (some (nI 2, s7))) sk else none)) Y := by
    intro X Y K hX hY
    exact ST_ex (k := 1) (c := 1) hX (fun _ => rfl) hY s_II_s (by omega) (INV_19 hM hO)
  by_cases g1 : x < nI 1
  · refine bad1 _ _ _ (by rw [if_pos g1]) ?_
    rw [if_pos g1, if_pos rfl, ej_bi_s, if_pos rfl]
  · by_cases g2 : x ≤ nI 8
    · have g1' : 0 ≤ x.toInt := by
        rw [Int32.lt_iff_toInt_lt, nI_toInt (by omega)] at g1
        omega
      obtain ⟨m, hm, rfl⟩ := nn_of g1'
      have hm1 : 1 ≤ m := by
        rcases Nat.lt_or_ge m 1 with z | z
        · exact absurd (nI_lt z (by omega)) g1
        · exact z
      have hm8 : m ≤ 8 := by
        rcases Nat.lt_or_ge 8 m with z | z
        · exact absurd g2 (nI_ge z hm)
        · exact z
      have hT := hO.1
      have hR := hO.2.1
      have h6 := hR.2.1
      have e1 : gA σr 1 4 = nI tp.length := hR.1
      rw [if_neg g1, if_neg g1, if_pos g2, ilt_f hm8 (by omega), if_neg n10]
      unfold m7_length
      rw [hT.1, ej_bi_s, L_4, ck_t (show 4 < 5 by omega) (by omega), nI_clamp (show 4 < 2 ^ 31 by omega), e1, nI_add, L_600]
      rcases Nat.lt_or_ge 600 (tp.length + m) with q | q
      · rw [ile_f q (by omega), ile_f q (by omega), ej_bi_s, if_pos rfl]
        exact ST_ex (k := 2) (c := 2) rfl (fun _ => rfl) rfl s_II_s (by omega) (INV_19 hM hO)
      · rw [ile_t q (by omega), ile_t q (by omega), ej_bi_s, if_neg n10]
        obtain ⟨wn, hwn, rfl⟩ := wb_of w
        have f19' : fr [19] [] [] [] [] σr (uI σr 19 (nI 0)) := f19
        obtain ⟨l', c2, r2, a1, a2, a3, a4, a5, a6, a7⟩ := s_feed (n := n) (fs := fs) hwn hm8 n 0 tp σc (uI σr 19 (nI 0)) (by omega) (by omega) hT (RTX_fr hR f19' (by simp) (by simp)) (by omega) (fun f hf => RTX_fr (hM.2.1 f hf) f19' (by simp) (by simp))
        have Q : fr [19] [] [0, 1] [] [] σr r2 := fr_tr (fr_wk f19' (by simp) (by simp) (by simp) (by simp) (by simp)) (fr_wk a6 (by simp) (by simp) (by simp) (by simp) (by simp))
        refine ST_ok a1 a2 (by rw [a6.1 19 (by simp), s_II_s]) ⟨fs, l', ot, MAPI_r (MAPI_c hM (fr_wk a5 (by simp) (by simp) (by simp) (by simp) (by simp))) (fr_wk Q (by simp) (by simp) (by simp) (by simp) (by simp)) a7, a3, a4, TX_fr hO.2.2.1 a5 (by simp) (by simp), RX_fr hO.2.2.2.1 Q (by simp) (by simp), ?_, ?_⟩
        · rw [a5.1 10 (by simp), Q.1 11 (by simp)]; exact hO.2.2.2.2.1
        · rw [a5.1 11 (by simp), Q.1 12 (by simp)]; exact hO.2.2.2.2.2
    · refine bad1 _ _ _ (by rw [if_neg g1, if_neg g2]) ?_
      have g3 : nI 8 < x := fa_of_nle g2
      rw [if_neg g1, if_pos g3, if_pos rfl, ej_bi_s, if_pos rfl]
/-- the node of a name -/
theorem s_seek (hn : 2000 < n) (hW : relW σc σr) (v : Int64) : ∃ r, m0_find n v zm σc = some (r, σc) ∧ m11_found n v zm σr = some (r, σr) ∧ (v = 0 → r = zm) := by
  obtain ⟨N, h0, h15, _, w1, _, w3, _⟩ := id hW.1
  have hN := NN_eq h15 h0
  have c22 : gI σc 22 = nI N := by rw [hW.2.1]; exact h15
  have c3 := hW.2.2.2.1
  have c4 := hW.2.2.2.2.1
  rw [hN] at c3 c4
  rcases x_find (n := n) (v := v) (o := zm) hn c22 h0 with ⟨a1, a2⟩ | ⟨i, a1, a2, a3, a4⟩
  · rcases r_found (n := n) (v := v) (o := zm) hn h15 h0 with ⟨b1, b2⟩ | ⟨j, b1, b2, b3, b4⟩
    · exact ⟨zm, a1, b1, fun _ => rfl⟩
    · exact absurd ⟨(c3 j b1).trans b2, (c4 j b1).trans b3⟩ (a2 j b1)
  · rcases r_found (n := n) (v := v) (o := zm) hn h15 h0 with ⟨b1, b2⟩ | ⟨j, b1, b2, b3, b4⟩
    · exact absurd ⟨(c3 i a1).symm.trans a2, (c4 i a1).symm.trans a3⟩ (b2 i a1)
    · have e : i = j := uni_eq w3 a1 b1 ⟨(c3 i a1).symm.trans a2, (c4 i a1).symm.trans a3⟩ ⟨b2, b3⟩
      subst e
      exact ⟨nI i, a4, b4, fun z => absurd (b2.trans z) (isNm_n0 (w1 i b1))⟩
theorem c_lookUp (hn : 2000 < n) (h : INV n σc σr) : STEP2 n (m10_lookUp n σc) (m11_lookUp n σr) := by
  obtain ⟨fs, tp, ot, hM, hO⟩ := h
  unfold m10_lookUp m11_lookUp
  obtain ⟨c1, d1, d2, d3⟩ := x_clear (n := n) (t := 0) (σ := σc)
  have q1 : fr [0, 19] [] [] [] [] σr (uI (uI σr 19 (nI 0)) 0 (nI 4)) := fr_uI (fr_uI fr_rf (by simp)) (by simp)
  obtain ⟨r4, r5⟩ := RTX_0 (σ := uI (uI σr 19 (nI 0)) 0 (nI 4)) (fs := fs) (fun f hf => RTX_fr (hM.2.1 f hf) q1 (by simp) (by simp))
  have q2 : fr [0, 19] [] [1] [] [] σr (uA (uI (uI σr 19 (nI 0)) 0 (nI 4)) 1 4 (nI 0)) := fr_uA (fr_wk q1 (by simp) (by simp) (by simp) (by simp) (by simp)) (by simp)
  have M2 : MAPI n fs c1 (uA (uI (uI σr 19 (nI 0)) 0 (nI 4)) 1 4 (nI 0)) := MAPI_r (MAPI_c hM (fr_wk d3 (by simp) (by simp) (by simp) (by simp) (by simp))) (fr_wk q2 (by simp) (by simp) (by simp) (by simp) (by simp)) r5
  obtain ⟨r, e1, e2, e3⟩ := s_seek hn (MAPI_W M2) (lN (asN tp))
  obtain ⟨o1, o2, o3, o4, o5, o6⟩ := hO
  refine ⟨r, c1, uA (uI (uI σr 19 (nI 0)) 0 (nI 4)) 1 4 (nI 0), ?_, ?_, fs, [], ot, M2, d2, r4, TX_fr o3 d3 (by simp) (by simp), RX_fr o4 q2 (by simp) (by simp), ?_, ?_⟩
  · rw [x_asName hn o1, ej_bl_s, d1, ej_bv_s, L_m1, e1, ej_bi_s]
  · rw [ej_nm_e, L_0, r_taped hn (RTX_fr o2 f19 (by simp) (by simp)), ej_bl_s, L_4, ck_t (by omega) (by omega), nI_clamp (by omega), ej_nm_e, L_m1]
    by_cases z : lg_cmp (lN (asN tp)) 0 = nI 0
    · rw [if_pos z, e3 ((cmp_eq _ _).mp z)]
    · rw [if_neg z, e2, ej_bi_s]
  · rw [d3.1 10 (by simp), q2.1 11 (by simp)]; exact o5
  · rw [d3.1 11 (by simp), q2.1 12 (by simp)]; exact o6
theorem c_setHome (hn : 200000000000000 < n) (h : INV n σc σr) : STEP n σr (mW_setHome n (σc, σr, g)) (m11_setHome n σr) := by
  obtain ⟨fs, tp, ot, hM, hO⟩ := h
  unfold mW_setHome m11_setHome m10_setHome m11_setHome_24
  obtain ⟨c1, d1, d2, d3⟩ := x_clear (n := n) (t := 0) (σ := σc)
  have q1 : fr [0] [] [] [] [] σr (uI σr 0 (nI 4)) := fr_uI fr_rf (by simp)
  obtain ⟨r4, r5⟩ := RTX_0 (σ := uI σr 0 (nI 4)) (fs := fs) (fun f hf => RTX_fr (hM.2.1 f hf) q1 (by simp) (by simp))
  have q2 : fr [0] [] [1] [] [] σr (uA (uI σr 0 (nI 4)) 1 4 (nI 0)) := fr_uA (fr_wk q1 (by simp) (by simp) (by simp) (by simp) (by simp)) (by simp)
  have M2 : MAPI n fs c1 (uA (uI σr 0 (nI 4)) 1 4 (nI 0)) := MAPI_r (MAPI_c hM (fr_wk d3 (by simp) (by simp) (by simp) (by simp) (by simp))) (fr_wk q2 (by simp) (by simp) (by simp) (by simp) (by simp)) r5
  obtain ⟨o1, o2, o3, o4, o5, o6⟩ := hO
  have O2 : IOS [] ot c1 (uA (uI σr 0 (nI 4)) 1 4 (nI 0)) := ⟨d2, r4, TX_fr o3 d3 (by simp) (by simp), RX_fr o4 q2 (by simp) (by simp), by rw [d3.1 10 (by simp), q2.1 11 (by simp)]; exact o5, by rw [d3.1 11 (by simp), q2.1 12 (by simp)]; exact o6⟩
  rw [x_asName (by omega) o1, ej_bl_s, d1, ej_bv_s, r_taped (by omega) o2, ej_bl_s, L_0, L_1, L_4, ck_t (show 4 < 5 by omega) (by omega), nI_clamp (show 4 < 2 ^ 31 by omega), ej_nm_e]
  by_cases z : lg_cmp (lN (asN tp)) 0 = nI 0
  · refine ST_ex (k := 1) (c := 1) (σc' := c1) (v := nI 0) (by rw [if_pos z]) (fun _ => rfl) (by rw [if_pos z, goes_1, ej_bi_s, if_pos rfl]) s_II_s (by omega) (INV_19 M2 O2)
  · have pJ : fr [34, 35] [0] [] [] [] c1 (uI (uI (uJ c1 0 (lN (asN tp))) 34 (nI 0)) 35 (nI 0)) := fr_uI (fr_uI (fr_uJ fr_rf (by simp)) (by simp)) (by simp)
    have qJ : fr [19] [1] [] [] [] (uA (uI σr 0 (nI 4)) 1 4 (nI 0)) (uJ (uI (uA (uI σr 0 (nI 4)) 1 4 (nI 0)) 19 (nI 0)) 1 (lN (asN tp))) := fr_uJ (fr_uI fr_rf (by simp)) (by simp)
    have hW2 := MAPI_W M2
    have w3 : wfR (uJ (uI (uA (uI σr 0 (nI 4)) 1 4 (nI 0)) 19 (nI 0)) 1 (lN (asN tp))) := wfR_fr hW2.1 qJ (by simp) (by simp) (by simp) (by simp) (by simp) (by simp) (by simp) (by simp)
    obtain ⟨t, a1, a2, a3⟩ := r_solves hn w3
    have Q : fr [19] [1] [21, 22, 23, 24, 25, 26] [] [] (uA (uI σr 0 (nI 4)) 1 4 (nI 0)) t := fr_tr (fr_wk qJ (by simp) (by simp) (by simp) (by simp) (by simp)) (fr_wk a2 (by simp) (by simp) (by simp) (by simp) (by simp))
    have hJt : gJ t 1 = lN (asN tp) := by rw [a2.2.1 1 (by simp), s_JJ_s]
    have c3 : relC (uI (uI (uJ c1 0 (lN (asN tp))) 34 (nI 0)) 35 (nI 0)) t := relC_frr (relC_fr hW2.2 pJ (by simp) (by simp) (by simp) (by simp) (by simp) (by simp) (by simp) (by simp) (by simp) (by simp) (by simp) (by simp) (by simp) (by simp) (by simp) (by simp)) Q (by simp) (by simp) (by simp) (by simp) (by simp) (by simp) (by simp) (by simp) (by simp) (by simp) (by simp) (by simp)
    obtain ⟨m1, m2, m3, m4, m5, m6, m7, m8, m9, m10, m11, m12⟩ := id M2
    have M3 : MAPI n fs (uI (uI (uJ c1 0 (lN (asN tp))) 34 (nI 0)) 35 (nI 0)) t := by
      refine ⟨fun f hf => TX_fr (m1 f hf) pJ (by simp; omega) (by simp), fun f hf => RTX_fr (m2 f hf) Q (by simp) (by simp), m3, RW_fr m4 Q (by simp) (by simp), by rw [Q.1 6 (by simp)]; exact m5, by rw [Q.1 16 (by simp)]; exact m6, ?_, fun f hf => ?_, ⟨wfR_fr w3 a2 (by simp) (by simp) (by simp) (by simp) (by simp) (by simp) (by simp) (by simp), c3⟩, a3, ⟨.inl ?_, .inl s_II_s⟩, fun σ hσ => ?_⟩
      · rw [hJt]; exact s_JJ_s
      · rw [pJ.2.2.1 10 (by simp), Q.2.2.1 2 (by simp)]; exact m8 f hf
      · rw [s_II_n (by omega), s_II_s]
      · obtain ⟨σ', b1, b2, b3, b4, b5, b6, b7⟩ := m12 σ hσ
        exact ⟨σ', b1, b2, b3, fun f hf => by rw [Q.2.2.1 2 (by simp)]; exact b4 f hf, b5, relC_frr b6 Q (by simp) (by simp) (by simp) (by simp) (by simp) (by simp) (by simp) (by simp) (by simp) (by simp) (by simp) (by simp), b7⟩
    obtain ⟨r, e1, e2⟩ := s_homeNode (by omega) M3
    refine ST_ok (v := r) (σc' := uI (uI (uJ c1 0 (lN (asN tp))) 34 (nI 0)) 35 (nI 0)) (σr' := t) ?_ ?_ (by rw [a2.1 19 (by simp)]; simp (disch := omega) only [s_IJ, s_IA, s_IB, s_IM, s_JI, s_JA, s_JB, s_JM, s_AI, s_AJ, s_AB, s_AM, s_BI, s_BJ, s_BA, s_BM, s_MI, s_MJ, s_MA, s_MB, s_II_s, s_II_n, s_JJ_s, s_JJ_n, s_AA_s, s_AA_n, s_BB_s, s_BB_n, s_MM_s, s_MM_n, pk_us, pk_un, pk_uLs, pk_uLn]) ⟨fs, [], ot, M3, IOS_r (IOS_c O2 pJ (by simp) (by simp) (by simp) (by simp) (by simp) (by simp)) Q (by simp) (by simp) (by simp) (by simp) (by simp) (by simp)⟩
    · unfold m9_beginAt m9_forget
      rw [if_neg z, ej_nm_e, ej_nm_e, ej_nm_e, L_0, ej_bv_s, ej_bv_s, e1, ej_bi_s]
    · rw [if_neg z, goes_0, ej_bi_s, if_neg n10, ej_nm_e, a1, ej_bv_s, e2, ej_bi_s]
theorem c_value (hn : 2000 < n) (h : INV n σc σr) : STEP n σr (mW_value n (σc, σr, g)) (m11_value n σr) := by
  obtain ⟨fs, tp, ot, hM, hO⟩ := h
  obtain ⟨o1, o2, o3, o4, o5, o6⟩ := id hO
  have h600 := o2.2.1
  -- the class
  have p1 : fr [10, 11] [] [] [] [] σc (uI (uI σc 10 (nI 0)) 11 (nI 0)) := fr_uI (fr_uI fr_rf (by simp)) (by simp)
  obtain ⟨c1, a1, hk, p2⟩ := x_scan (n := n) hn (t1 := 0) (by omega) (by omega) (TX_fr o1 p1 (by simp) (by simp))
  obtain ⟨c2, b1, b2, p3⟩ := x_clear (n := n) (t := 0) (σ := c1)
  have hk2 : TK c2 tp := TK_fr hk p3 (by simp) (by simp) (by simp) (by simp) (by simp) (by simp) (by simp)
  obtain ⟨hX6, c, hc6, hce, hclt, hSK⟩ := id hk
  have hx : PX n 0 c tp := ⟨hn, by omega, hce, hc6, o2.2.2.2, h600⟩
  have P2 : fr [0, 6, 10, 11, 12] [] [6, 11, 12, 13] [0] [] σc c2 := fr_tr (fr_tr (fr_wk p1 (by simp) (by simp) (by simp) (by simp) (by simp)) (fr_wk p2 (by simp) (by simp) (by simp) (by simp) (by simp))) (fr_wk p3 (by simp) (by simp) (by simp) (by simp) (by simp))
  -- the reference
  have q1 : fr [0, 1, 9, 10] [] [] [] [] σr (uI (uI (uI (uI σr 0 (nI 4)) 1 (nI 0)) 9 (nI 0)) 10 (nI 0)) := fr_uI (fr_uI (fr_uI (fr_uI fr_rf (by simp)) (by simp)) (by simp)) (by simp)
  have hRS : RS (uI (uI (uI (uI σr 0 (nI 4)) 1 (nI 0)) 9 (nI 0)) 10 (nI 0)) 4 tp := ⟨by simp (disch := omega) only [s_IJ, s_IA, s_IB, s_IM, s_JI, s_JA, s_JB, s_JM, s_AI, s_AJ, s_AB, s_AM, s_BI, s_BJ, s_BA, s_BM, s_MI, s_MJ, s_MA, s_MB, s_II_s, s_II_n, s_JJ_s, s_JJ_n, s_AA_s, s_AA_n, s_BB_s, s_BB_n, s_MM_s, s_MM_n, pk_us, pk_un, pk_uLs, pk_uLn], by omega, RTX_fr o2 q1 (by simp) (by simp)⟩
  obtain ⟨r1, d1, d2, q2⟩ := r_next hn hRS (p := 0) (by simp (disch := omega) only [s_IJ, s_IA, s_IB, s_IM, s_JI, s_JA, s_JB, s_JM, s_AI, s_AJ, s_AB, s_AM, s_BI, s_BJ, s_BA, s_BM, s_MI, s_MJ, s_MA, s_MB, s_II_s, s_II_n, s_JJ_s, s_JJ_n, s_AA_s, s_AA_n, s_BB_s, s_BB_n, s_MM_s, s_MM_n, pk_us, pk_un, pk_uLs, pk_uLn]) (Nat.zero_le _)
  have Q1 : fr [0, 1, 2, 3, 4, 5, 9, 10] [0] [] [] [] σr r1 := fr_tr (fr_wk q1 (by simp) (by simp) (by simp) (by simp) (by simp)) (fr_wk q2 (by simp) (by simp) (by simp) (by simp) (by simp))
  have hRT : RT r1 4 tp 0 := ⟨d2, RS_fr hRS q2 (by simp) (by simp) (by simp)⟩
  obtain ⟨ok, c3, r3, e1, e2, p4, q4, g1, g2⟩ := s_workOut hx hk2 hRT (RW_fr hM.2.2.2.1 Q1 (by simp) (by simp)) (Nat.zero_le c)
  have hk3 : TK c3 tp := TK_fr hk2 p4 (by simp) (by simp) (by simp) (by simp) (by simp) (by simp) (by simp)
  have P4 : FQc σc c3 := fr_tr (fr_wk P2 (by simp) (by simp) (by simp) (by simp) (by simp)) (fr_wk p4 (by simp) (by simp) (by simp) (by simp) (by simp))
  have Q4 : fr [0, 1, 2, 3, 4, 5, 9, 10, 13, 14] [0] [5, 6, 7, 8, 9, 10] [] [] σr r3 := fr_tr (fr_wk Q1 (by simp) (by simp) (by simp) (by simp) (by simp)) (fr_wk q4 (by simp) (by simp) (by simp) (by simp) (by simp))
  have M3 : MAPI n fs c3 r3 := MAPI_r0 (MAPI_c hM P4) Q4 (by simp) (by simp) (by simp) (by simp)
  have T0 : TX c3 0 [] := TX_fr b2 p4 (by simp) (by simp)
  have T1 : TX c3 1 ot := TX_fr (TX_fr o3 P2 (by simp) (by simp)) p4 (by simp) (by simp)
  have X1 : RX r3 ot := RX_fr o4 Q4 (by simp) (by simp)
  have t10 : gI c3 10 = nI 0 := by rw [p4.1 10 (by simp), p3.1 10 (by simp), p2.1 10 (by simp), s_II_n (by omega), s_II_s]
  have t11 : gI c3 11 = nI 0 := by rw [p4.1 11 (by simp), p3.1 11 (by simp), p2.1 11 (by simp), s_II_s]
  have eC : m10_value n σc = ej_bi (some (bI ok, c3)) fun r5 s4 => (if r5 = nI 0 then ej_bi (m6_faultCode n s4) fun r21 s20 => ej_bi (m6_faultToken n s20) fun r23 s22 => ej_bi (m8_beginAt n r23 s22) fun r25 s24 => ej_bi (m1_tell n r21 r25 s24) fun r27 s26 => (m10_value_108 n s26) else ej_bi (m6_next n s4) fun r7 s6 => ej_bi (m8_sortAt n r7 s6) fun r9 s8 => (if r9 = nI 0 then (m10_value_108 n s8) else ej_bi (m6_next n s8) fun r15 s14 => ej_bi (m8_beginAt n r15 s14) fun r17 s16 => ej_bi (m1_tell n (nI 1) r17 s16) fun r19 s18 => (m10_value_108 n s18))) := by
    unfold m10_value m1_clear
    rw [ej_nm_e, ej_nm_e, ej_bv_s, L_0, L_1, a1, ej_bv_s, b1, ej_bv_s, e1]
  have eR : m11_value n σr = ej_bi (some (bI ok, r3)) fun r7 s6 => (if r7 = nI 0 then (m11_value_51 n (nI 0) s6) else (if gI s6 2 = nI 0 then (m11_value_51 n (nI 1) s6) else ej_bi (m11_failsHere n (nI 1) s6) fun r15 s14 => (if r15 = nI 0 then (m11_value_51 n (nI 0) s14) else (m11_value_51 n (nI 1) s14)))) := by
    unfold m11_value
    rw [ej_nm_e, ej_nm_e, ej_nm_e, ej_nm_e, L_0, L_1, L_4, d1, ej_bv_s, e2]
  have bad : ∀ s, m11_value_51 n (nI 0) s = some (nI 0, uI (uA (uI (uI s 11 (gI s 9)) 12 (gI s 10)) 1 4 (nI 0)) 19 (nI 1)) := by
    intro s
    unfold m11_value_51
    rw [tells_f, ej_bv_s, L_0, if_pos rfl, L_1, goes_1, ej_bi_s, if_pos rfl]
  have bc : ∀ (k p : Nat), 0 < k → k < 7 → m10_value_108 n (uI (uI c3 10 (nI k)) 11 (nI p)) = some (.inr (2, uI (uI c3 10 (nI k)) 11 (nI p))) := by
    intro k p h1 h2
    unfold m10_value_108 m1_code
    rw [ej_bi_s, s_II_n (by omega), s_II_s, L_0, ieq_f (by omega) (by omega) (by omega)]
  have ft : ∀ x y, fr [10, 11] [] [] [] [] c3 (uI (uI c3 10 x) 11 y) := fun x y => fr_uI (fr_uI fr_rf (by simp)) (by simp)
  unfold mW_value
  cases ok
  · obtain ⟨t, k, k1, k2, k3, k4, k5, k6, k7⟩ := g2 rfl
    have fin : INV n (uI (uI c3 10 (nI k)) 11 (nI (bg tp t))) (uI (uA (uI (uI r3 11 (gI r3 9)) 12 (gI r3 10)) 1 4 (nI 0)) 19 (nI 1)) :=
      INV_tape (MAPI_c M3 (fr_wk (ft _ _) (by simp) (by simp) (by simp) (by simp) (by simp))) (TX_fr T0 (ft _ _) (by simp) (by simp)) (TX_fr T1 (ft _ _) (by simp) (by simp)) X1 (by rw [s_II_n (by omega), s_II_s, k2]) (by rw [s_II_s, k4])
    refine ST_ex (k := 2) (c := 1) (v := nI 0) (σc' := uI (uI c3 10 (nI k)) 11 (nI (bg tp t))) ?_ (fun _ => rfl) (by rw [eR, ej_bi_s, bI_f, if_pos rfl]; exact bad r3) s_II_s (by omega) fin
    show m10_value n σc = _
    rw [eC, ej_bi_s, bI_f, if_pos rfl]
    unfold m6_faultCode m6_faultToken
    rw [ej_bi_s, ej_bi_s, k3, x_beginAt hk3 k5, ej_bi_s]
    unfold m1_tell
    rw [ej_nm_e, ej_nm_e, ej_bi_s, k1]
    exact bc k (bg tp t) k6 k7
  · obtain ⟨i', h1, h2, h3, h4, h5, h6⟩ := g1 rfl
    have h0 := (PX_tok1 hx h4).2
    have hs : m8_sortAt n (gI c3 19) c3 = some (nI (sr tp (bg tp i')), c3) := by rw [h3]; exact x_sortAt hk3 (by omega)
    have hsl := sr_lt hx.2.2.2.2.1 (bg tp i')
    by_cases z : sr tp (bg tp i') = 0
    · have fin : INV n c3 (uI (uA (uI (uI r3 11 (nI 0)) 12 (nI 0)) 1 4 (nI 0)) 19 (nI 0)) := INV_tape M3 T0 T1 X1 t10 t11
      refine ST_ok (v := gI r3 14) (σc' := c3) ?_ ?_ s_II_s fin
      · show m10_value n σc = _
        rw [eC, ej_bi_s, bI_t, if_neg n10]
        unfold m6_next
        rw [ej_bi_s, hs, ej_bi_s, z, if_pos rfl]
        unfold m10_value_108 m1_code m6_result
        rw [ej_bi_s, t10, L_0, if_pos rfl, ej_bi_s, h5]
      · rw [eR, ej_bi_s, bI_t, if_neg n10, if_pos (h0.mpr z)]
        unfold m11_value_51
        rw [tells_t, ej_bv_s, L_0, if_neg n10, goes_0, ej_bi_s, if_neg n10]
        simp (disch := omega) only [s_IJ, s_IA, s_IB, s_IM, s_JI, s_JA, s_JB, s_JM, s_AI, s_AJ, s_AB, s_AM, s_BI, s_BJ, s_BA, s_BM, s_MI, s_MJ, s_MA, s_MB, s_II_s, s_II_n, s_JJ_s, s_JJ_n, s_AA_s, s_AA_n, s_BB_s, s_BB_n, s_MM_s, s_MM_n, pk_us, pk_un, pk_uLs, pk_uLn]
    · have fin : INV n (uI (uI c3 10 (nI 1)) 11 (nI (bg tp i'))) (uI (uA (uI (uI (uI (uI r3 9 (nI 1)) 10 (gI r3 3)) 11 (gI (uI (uI r3 9 (nI 1)) 10 (gI r3 3)) 9)) 12 (gI (uI (uI r3 9 (nI 1)) 10 (gI r3 3)) 10)) 1 4 (nI 0)) 19 (nI 1)) := by
        have f9 : fr [9, 10] [] [] [] [] r3 (uI (uI r3 9 (nI 1)) 10 (gI r3 3)) := fr_uI (fr_uI fr_rf (by simp)) (by simp)
        refine INV_tape (MAPI_r0 (MAPI_c M3 (fr_wk (ft _ _) (by simp) (by simp) (by simp) (by simp) (by simp))) f9 (by simp) (by simp) (by simp) (by simp)) (TX_fr T0 (ft _ _) (by simp) (by simp)) (TX_fr T1 (ft _ _) (by simp) (by simp)) (RX_fr X1 f9 (by simp) (by simp)) ?_ ?_
        · simp (disch := omega) only [s_IJ, s_IA, s_IB, s_IM, s_JI, s_JA, s_JB, s_JM, s_AI, s_AJ, s_AB, s_AM, s_BI, s_BJ, s_BA, s_BM, s_MI, s_MJ, s_MA, s_MB, s_II_s, s_II_n, s_JJ_s, s_JJ_n, s_AA_s, s_AA_n, s_BB_s, s_BB_n, s_MM_s, s_MM_n, pk_us, pk_un, pk_uLs, pk_uLn]
        · simp (disch := omega) only [s_IJ, s_IA, s_IB, s_IM, s_JI, s_JA, s_JB, s_JM, s_AI, s_AJ, s_AB, s_AM, s_BI, s_BJ, s_BA, s_BM, s_MI, s_MJ, s_MA, s_MB, s_II_s, s_II_n, s_JJ_s, s_JJ_n, s_AA_s, s_AA_n, s_BB_s, s_BB_n, s_MM_s, s_MM_n, pk_us, pk_un, pk_uLs, pk_uLn]
          exact h4.1.2.2.1.symm
      refine ST_ex (k := 2) (c := 1) (v := nI 0) (σc' := uI (uI c3 10 (nI 1)) 11 (nI (bg tp i'))) ?_ (fun _ => rfl) ?_ s_II_s (by omega) fin
      · show m10_value n σc = _
        rw [eC, ej_bi_s, bI_t, if_neg n10]
        unfold m6_next
        rw [ej_bi_s, hs, ej_bi_s, ieq_f z (by omega) (by omega), ej_bi_s, h3, x_beginAt hk3 (by omega), ej_bi_s]
        unfold m1_tell
        rw [ej_nm_e, ej_nm_e, ej_bi_s]
        exact bc 1 (bg tp i') (by omega) (by omega)
      · rw [eR, ej_bi_s, bI_t, if_neg n10, if_neg (fun w => z (h0.mp w)), r_failsHere, ej_bi_s, if_pos rfl]
        exact bad _
end P96e
