/-! FEWER TEXTS HAVE NO MORE NODES -/
def WK (k : Nat) (σc σr : ej_S) : Prop := wfC σc ∧ (∃ N, N ≤ 24 ∧ gI σr 15 = nI N) ∧ (gI σc 23 = nI 1 ∨ (gI σr 16 = nI 0 ∧ ∃ Nc Nr, Nc ≤ 24 ∧ Nr ≤ 24 ∧ gI σc 22 = nI Nc ∧ gI σr 15 = nI Nr ∧ wUni Nr (gB σr 1) (gA σr 11) ∧ (∀ a, a < Nr → ∃ c, c < Nc ∧ gB σc 1 c = gB σr 1 a ∧ gA σc 18 c = gA σr 11 a) ∧ (∀ c, c < Nc → gA σc 18 c = zm ∨ ∃ h, h < k ∧ gA σc 18 c = nI h)))
section P95c2
variable {n k : Nat} {σ σc σr σr' : ej_S} {l l' : List Nat} {fs fs' : Nat → List Nat}
theorem WK_to (h : WK k σc σr) (hk : k < 4) (b : Bool) : MRw σc True k b σc σr := by
  obtain ⟨h1, h2, h3⟩ := h
  refine ⟨h1, h2, Kp_rf, fun _ => ?_⟩
  rcases h3 with z | ⟨z, Nc, Nr, g1, g2, g3, g4, g5, g6, g7⟩
  · exact .inl z
  · refine .inr ⟨z, Nc, Nr, g1, g2, g3, g4, g5, g6, fun c hc => ?_, fun _ c hc w => ?_⟩
    · rcases g7 c hc with y | ⟨h, y1, y2⟩
      · exact .inl y
      · exact .inr ⟨h, by omega, y2⟩
    · rcases g7 c hc with y | ⟨h, y1, y2⟩
      · exact absurd (w.symm.trans y) (zm_ne (by omega))
      · have := (nI_eq (by omega) (by omega)).mp (w.symm.trans y2)
        omega
theorem WK_of {κ : ej_S} {b : Bool} (h : MRw κ True k b σc σr) : WK (k + 1) σc σr := by
  obtain ⟨h1, h2, _, h3⟩ := h
  refine ⟨h1, h2, ?_⟩
  rcases h3 trivial with z | ⟨z, Nc, Nr, g1, g2, g3, g4, g5, g6, g7, _⟩
  · exact .inl z
  · refine .inr ⟨z, Nc, Nr, g1, g2, g3, g4, g5, g6, fun c hc => ?_⟩
    rcases g7 c hc with y | ⟨h, y1, y2⟩
    · exact .inl y
    · exact .inr ⟨h, by omega, y2⟩
theorem WK_eq {s t : ej_S} (h : WK k σc σr) (e1 : gI s 22 = gI σc 22) (e2 : gI s 23 = gI σc 23) (e3 : gI t 15 = gI σr 15) (e4 : gI t 16 = gI σr 16) (e5 : gB s 1 = gB σc 1) (e6 : gA s 18 = gA σc 18) (e7 : gB t 1 = gB σr 1) (e8 : gA t 11 = gA σr 11) : WK k s t := by
  unfold WK wfC at *
  rw [e1, e2, e3, e4, e5, e6, e7, e8]
  exact h
theorem r_read_nil {f : Nat} (hn : 2000 < n) (hf : f < 5) (hR : RTX σ f []) : ∃ σ', m11_isRead n (nI f) σ = some (nI 1, σ') ∧ fr [0, 1, 2, 3, 4, 5, 8, 9, 10] [0] [] [] [] σ σ' ∧ gI σ' 8 = nI 0 := by
  have q1 : fr [0, 1, 8, 9, 10] [] [] [] [] σ (uI (uI (uI (uI (uI σ 0 (nI f)) 1 (nI 0)) 8 (nI 0)) 9 (nI 0)) 10 (nI 0)) := fr_uI (fr_uI (fr_uI (fr_uI (fr_uI fr_rf (by simp)) (by simp)) (by simp)) (by simp)) (by simp)
  have hRS : RS (uI (uI (uI (uI (uI σ 0 (nI f)) 1 (nI 0)) 8 (nI 0)) 9 (nI 0)) 10 (nI 0)) f [] := ⟨by simp (disch := omega) only [s_IJ, s_IA, s_IB, s_IM, s_JI, s_JA, s_JB, s_JM, s_AI, s_AJ, s_AB, s_AM, s_BI, s_BJ, s_BA, s_BM, s_MI, s_MJ, s_MA, s_MB, s_II_s, s_II_n, s_JJ_s, s_JJ_n, s_AA_s, s_AA_n, s_BB_s, s_BB_n, s_MM_s, s_MM_n, pk_us, pk_un, pk_uLs, pk_uLn], hf, RTX_fr hR q1 (by simp) (by simp)⟩
  obtain ⟨r1, d1, d2, q2⟩ := r_next hn hRS (p := 0) (by simp (disch := omega) only [s_IJ, s_IA, s_IB, s_IM, s_JI, s_JA, s_JB, s_JM, s_AI, s_AJ, s_AB, s_AM, s_BI, s_BJ, s_BA, s_BM, s_MI, s_MJ, s_MA, s_MB, s_II_s, s_II_n, s_JJ_s, s_JJ_n, s_AA_s, s_AA_n, s_BB_s, s_BB_n, s_MM_s, s_MM_n, pk_us, pk_un, pk_uLs, pk_uLn]) (Nat.zero_le _)
  obtain ⟨m, hm⟩ : ∃ m, n = m + 1 := ⟨n - 1, by omega⟩
  have h2 : gI r1 2 = nI 0 := by
    rw [d2.2.1]; rfl
  refine ⟨r1, ?_, fr_tr (fr_wk q1 (by simp) (by simp) (by simp) (by simp) (by simp)) (fr_wk q2 (by simp) (by simp) (by simp) (by simp) (by simp)), ?_⟩
  · unfold m11_isRead
    rw [ej_nm_e, ej_nm_e, ej_nm_e, ej_nm_e, ej_nm_e, L_0, L_1, d1, ej_bv_s]
    conv => lhs; arg 2; rw [hm]
    rw [u_11_isRead_31, L_0, if_neg n10, if_pos h2, bz_n1]
  · rw [q2.1 8 (by simp)]
    simp (disch := omega) only [s_IJ, s_IA, s_IB, s_IM, s_JI, s_JA, s_JB, s_JM, s_AI, s_AJ, s_AB, s_AM, s_BI, s_BJ, s_BA, s_BM, s_MI, s_MJ, s_MA, s_MB, s_II_s, s_II_n, s_JJ_s, s_JJ_n, s_AA_s, s_AA_n, s_BB_s, s_BB_n, s_MM_s, s_MM_n, pk_us, pk_un, pk_uLs, pk_uLn]
theorem draw_step (hk : k < 4) {σ1 : ej_S} {cnt : Nat} (e1 : m4_read n (2 + k) (nI k) σc = some (nI 1, σ1)) (g3 : gI σ1 31 = nI cnt) (j : Nat) : m10_drawMap_16 n (j + 1) zm (nI k) σc = m10_drawMap_16 n j zm (nI (k + 1)) (uA σ1 10 k (nI cnt)) := by
  have key : ∀ F, m10_drawMap_43 n F zm (nI k) (2 + k) σc = F zm (nI (k + 1)) (uA σ1 10 k (nI cnt)) := by
    intro F
    unfold m10_drawMap_43 m4_statements
    rw [e1, ej_bi_s, L_0, if_neg n10, ej_bi_s, ck_t hk (by omega), ej_nm_e, nI_clamp (by omega), g3, L_1, nI_add, ej_nm_e]
  rw [u_10_drawMap_16, L_4, ile_f hk (by omega), if_neg (zm_ne (by omega)), ck_t hk (by omega), nI_clamp (by omega)]
  exact key _
theorem s_wdraw1 (hn : 2000 < n) (hk : k < 4) (hs : snd n l) (hT : TX σc (2 + k) l) (hR : RTX σr k l') (hl : l' = l ∨ l' = []) (hw : RW σr) (h6 : gI σr 6 = nI 1) (hm : WK k σc σr) (j j2 : Nat) : ∃ σc' σr', m10_drawMap_16 n (j + 1) zm (nI k) σc = m10_drawMap_16 n j zm (nI (k + 1)) σc' ∧ m11_rebuilds_109 n (j2 + 1) (nI k) σr = m11_rebuilds_109 n j2 (nI (k + 1)) σr' ∧ WK (k + 1) σc' σr' ∧ DF σc σc' ∧ EF σr σr' ∧ RST n k σr σr' := by
  have f7 : fr [7] [] [] [] [] σr (uI σr 7 (nI k)) := fr_uI fr_rf (by simp)
  obtain ⟨σz, ez⟩ := snd_c hn hs hk (show 2 + k < 6 by omega) (show 2 + k ≠ 1 by omega) hT hm.1
  have P : ∀ (s : ej_S) (v : Int32), fr [] [] [10] [] [] s (uA s 10 k v) := fun s v => fr_uA fr_rf (by simp)
  rcases hl with rfl | rfl
  · have hm1 : MRw σc True k true σc (uI σr 7 (nI k)) := MR_mkw (WK_to hm hk true) rfl rfl (f7.1 15 (by simp)) (f7.1 16 (by simp)) rfl rfl (f7.2.2.2.1 1 (by simp)) (f7.2.2.1 11 (by simp)) rfl rfl
    obtain ⟨ok, σ1, s1, e1, e2, p1, q1, _, _, g1, _⟩ := s_readw (b := true) hn hk (show 2 + k < 6 by omega) (show 2 + k ≠ 1 by omega) hT (RTX_fr hR f7 (by simp) (by simp)) (show k < 5 by omega) (RW_fr hw f7 (by simp) (by simp)) hm1 (by rw [s_II_n (by omega)]; exact h6) (fun _ => s_II_s)
    have hok : ok = true := by
      rw [e1] at ez
      cases ok
      · exact absurd (congrArg Prod.fst (Option.some.inj ez)) n01
      · rfl
    subst hok
    obtain ⟨g2, cnt, hcnt, g3, g4⟩ := g1 rfl
    refine ⟨uA σ1 10 k (nI cnt), uA s1 2 k (nI cnt), draw_step hk e1 g3 j, ?_, ?_, fr_uA (fr_wk p1 (by simp) (by simp) (by simp) (by simp) (by simp)) (by simp), fr_uA (fr_tr (fr_wk f7 (by simp) (by simp) (by simp) (by simp) (by simp)) (fr_wk q1 (by simp) (by simp) (by simp) (by simp) (by simp))) (by simp), s1, e2, by rw [g4]⟩
    · rw [u_11_rebuilds_109, L_4, ile_f hk (by omega), ej_nm_e, e2, ej_bi_s, ck_t hk (by omega), nI_clamp (by omega), ej_nm_e, ej_nm_e, g4, L_1, nI_add]
    · exact WK_eq (WK_of g2) rfl rfl rfl rfl rfl (s_AA_n (by omega)) rfl (s_AA_n (by omega))
  · -- the reference reads nothing here
    obtain ⟨s2, a1, a2, a3⟩ := r_read_nil (n := n) hn (show k < 5 by omega) (RTX_fr hR f7 (by simp) (by simp))
    obtain ⟨σ0, s', fl, h1, h2, h3, h4, _⟩ := hs
    -- a reference with the same nodes that builds nothing
    have fo : fr [15, 16] [] [11] [1] [] σ0 (va_up (va_up σ0.1 15 (gI σr 15)) 16 (gI σr 16), σ0.2.1, va_up σ0.2.2.1 11 (gA σr 11), va_up σ0.2.2.2.1 1 (gB σr 1), σ0.2.2.2.2) := by
      refine ⟨fun i hi => ?_, fun _ _ => rfl, fun i hi => ?_, fun i hi => ?_, fun _ _ => rfl⟩
      · simp at hi
        exact (if_neg hi.2).trans (if_neg hi.1)
      · simp at hi
        exact if_neg hi
      · simp at hi
        exact if_neg hi
    generalize ho : ((va_up (va_up σ0.1 15 (gI σr 15)) 16 (gI σr 16), σ0.2.1, va_up σ0.2.2.1 11 (gA σr 11), va_up σ0.2.2.2.1 1 (gB σr 1), σ0.2.2.2.2) : ej_S) = so at fo
    have o15 : gI so 15 = gI σr 15 := by rw [← ho]; rfl
    have o16 : gI so 16 = gI σr 16 := by rw [← ho]; rfl
    have o11 : gA so 11 = gA σr 11 := by rw [← ho]; rfl
    have o1 : gB so 1 = gB σr 1 := by rw [← ho]; rfl
    have hm1 : MRw σc True k false σc so := MR_mkw (WK_to hm hk false) rfl rfl o15 o16 rfl rfl o1 o11 rfl rfl
    obtain ⟨ok, σ1, s1, e1, e2, p1, q1, _, hms, g1, _⟩ := s_readw (b := false) hn hk (show 2 + k < 6 by omega) (show 2 + k ≠ 1 by omega) hT (RTX_fr h2 fo (by simp) (by simp)) h1 (RW_fr h3 fo (by simp) (by simp)) hm1 (by rw [fo.1 6 (by simp)]; exact h4) (fun z => by cases z)
    have hok : ok = true := by
      rw [e1] at ez
      cases ok
      · exact absurd (congrArg Prod.fst (Option.some.inj ez)) n01
      · rfl
    subst hok
    obtain ⟨g2, cnt, hcnt, g3, g4⟩ := g1 rfl
    obtain ⟨m15, m16, mB, m11, _⟩ := hms rfl
    refine ⟨uA σ1 10 k (nI cnt), uA s2 2 k (nI 0), draw_step hk e1 g3 j, ?_, ?_, fr_uA (fr_wk p1 (by simp) (by simp) (by simp) (by simp) (by simp)) (by simp), fr_uA (fr_tr (fr_wk f7 (by simp) (by simp) (by simp) (by simp) (by simp)) (fr_wk a2 (by simp) (by simp) (by simp) (by simp) (by simp))) (by simp), s2, a1, by rw [a3]⟩
    · rw [u_11_rebuilds_109, L_4, ile_f hk (by omega), ej_nm_e, a1, ej_bi_s, ck_t hk (by omega), nI_clamp (by omega), ej_nm_e, ej_nm_e, a3, L_1, nI_add]
    · refine WK_eq (WK_of g2) rfl rfl ?_ ?_ rfl (s_AA_n (by omega)) ?_ ?_
      · rw [s_IA, a2.1 15 (by simp), f7.1 15 (by simp), m15, o15]
      · rw [s_IA, a2.1 16 (by simp), f7.1 16 (by simp), m16, o16]
      · rw [s_BA, a2.2.2.2.1 1 (by simp), f7.2.2.2.1 1 (by simp), mB, o1]
      · rw [s_AA_n (by omega), a2.2.2.1 11 (by simp), f7.2.2.1 11 (by simp), m11, o11]
/-- fewer texts have no more nodes -/
theorem drop_ok {σA σA' σB : ej_S} (hn : 200000000000000 < n) (hs : ∀ f, f < 4 → snd n (fs f)) (hs' : ∀ f, f < 4 → snd n (fs' f)) (hA : ∀ f, f < 4 → TX σA (2 + f) (fs f)) (hB : ∀ f, f < 4 → TX σB (2 + f) (fs' f)) (eA : m10_drawMap n zm σA = some (nI 1, σA')) (hR : ∀ f, f < 4 → RTX σr f (fs' f)) (hw : RW σr) (eB : m11_rebuilds n σr = some σr') (hf : ∀ f, f < 4 → fs' f = fs f ∨ fs' f = []) : gI σr' 16 = nI 0 := by
  have st : ∀ σ : ej_S, ∃ c0, (∀ r, m10_drawMap n r σ = m10_drawMap_16 n n r (nI 0) c0) ∧ DF2 σ c0 ∧ (gI c0 22 = nI 0 ∧ gI c0 23 = nI 0 ∧ gI c0 24 = nI 0 ∧ gI c0 25 = nI 0 ∧ gI c0 26 = nI 0 ∧ gI c0 27 = nI 0 ∧ gI c0 28 = nI 0) ∧ ∀ x, x < 24 → clr c0 x := by
    intro σ
    have f34 : fr [34, 35] [] [] [] [] σ (uI (uI σ 34 (nI 0)) 35 (nI 0)) := fr_uI (fr_uI fr_rf (by simp)) (by simp)
    obtain ⟨c0, e1, f1, g1, g2⟩ := x_clearM (n := n) (σ := uI (uI σ 34 (nI 0)) 35 (nI 0)) (by omega)
    refine ⟨c0, fun r => ?_, fr_tr (fr_wk f34 (by simp) (by simp) (by simp) (by simp) (by simp)) (fr_wk f1 (by simp) (by simp) (by simp) (by simp) (by simp)), g1, g2⟩
    unfold m10_drawMap m9_forget
    simp only [ej_nm_e, ej_bv_s, L_0]
    rw [e1, ej_bv_s]
  obtain ⟨c0, e1, F1, g1, _⟩ := st σA
  obtain ⟨d0, _, G1, i1, i2⟩ := st σB
  obtain ⟨r0, e2, f2, q2, q3, q4, q5, q6⟩ := r_reb0 (n := n) (σ := σr) (by omega)
  have T0 : ∀ f, f < 4 → TX c0 (2 + f) (fs f) := fun f hf => TX_fr (hA f hf) F1 (by simp; omega) (by simp; omega)
  have U0 : ∀ f, f < 4 → TX d0 (tn zm f) (fs' f) := fun f hf => by
    have e : tn zm f = 2 + f := if_neg (zm_ne (by omega))
    rw [e]; exact TX_fr (hB f hf) G1 (by simp; omega) (by simp; omega)
  have R0 : ∀ f, f < 4 → RTX r0 f (fs' f) := fun f hf => RTX_fr (hR f hf) f2 (by simp) (by simp)
  have W0 : RW r0 := RW_fr hw f2 (by simp) (by simp)
  have K0 : WK 0 c0 r0 := ⟨⟨0, by omega, g1.1⟩, ⟨0, by omega, q2⟩, .inr ⟨q3, 0, 0, by omega, by omega, g1.1, q2, fun a b _ h => absurd h (Nat.not_lt_zero b), fun a h => absurd h (Nat.not_lt_zero a), fun c h => absurd h (Nat.not_lt_zero c)⟩⟩
  have M0 : MR true d0 r0 := MR_ini i1 i2 q2 q3 q5 q6
  obtain ⟨m, hm⟩ : ∃ m, n = m + 1 + 4 := ⟨n - 5, by omega⟩
  -- one file
  have one : ∀ (k : Nat) (c d r : ej_S), k < 4 → (∀ f, f < 4 → TX c (2 + f) (fs f)) → (∀ f, f < 4 → TX d (tn zm f) (fs' f)) → (∀ f, f < 4 → RTX r f (fs' f)) → RW r → gI r 6 = nI 1 → WK k c r → MR true d r → ∀ j, ∃ c' d' r', m10_drawMap_16 n (j + 1) zm (nI k) c = m10_drawMap_16 n j zm (nI (k + 1)) c' ∧ m11_rebuilds_109 n (j + 1) (nI k) r = m11_rebuilds_109 n j (nI (k + 1)) r' ∧ (∀ f, f < 4 → TX c' (2 + f) (fs f)) ∧ (∀ f, f < 4 → TX d' (tn zm f) (fs' f)) ∧ (∀ f, f < 4 → RTX r' f (fs' f)) ∧ RW r' ∧ gI r' 6 = nI 1 ∧ WK (k + 1) c' r' ∧ MR true d' r' := by
    intro k c d r hk hT hU hR hw h6 hK hM j
    obtain ⟨c1, r1, a1, b1, k1, p1, s1, t1⟩ := s_wdraw1 (n := n) (k := k) (by omega) hk (hs k hk) (hT k hk) (hR k hk) (hf k hk) hw h6 hK j j
    obtain ⟨d1, r2, _, _, m1, p2, s2, _, _, _, t2⟩ := s_draw1 (r := zm) (n := n) (f := k) (by omega) hk (hs' k hk) (hU k hk) (hR k hk) hw hM h6 j j
    have er := RST_one t2 t1
    subst er
    exact ⟨c1, d1, r2, a1, b1, fun f hf => TX_fr (hT f hf) p1 (by simp; omega) (by simp; omega), fun f hf => tn_DF hf (hU f hf) (DF_2 p2), fun f hf => RTX_fr (hR f hf) s2 (by simp) (by simp), RW_fr hw s2 (by simp) (by simp), by rw [s2.1 6 (by simp)]; exact h6, k1, m1⟩
  obtain ⟨c1, d1, r1, a1, b1, T1, U1, R1, W1, h61, K1, M1⟩ := one 0 c0 d0 r0 (by omega) T0 U0 R0 W0 q4 K0 M0 (m + 4)
  obtain ⟨c2, d2, r2, a2, b2, T2, U2, R2, W2, h62, K2, M2⟩ := one 1 c1 d1 r1 (by omega) T1 U1 R1 W1 h61 K1 M1 (m + 3)
  obtain ⟨c3, d3, r3, a3, b3, T3, U3, R3, W3, h63, K3, M3⟩ := one 2 c2 d2 r2 (by omega) T2 U2 R2 W2 h62 K2 M2 (m + 2)
  obtain ⟨c4, d4, r4, a4, b4, T4, U4, R4, W4, h64, K4, M4⟩ := one 3 c3 d3 r3 (by omega) T3 U3 R3 W3 h63 K3 M3 (m + 1)
  have eC : m10_drawMap n zm σA = (if ej_bz (gI c4 23) = nI 0 then some (nI 1, c4) else some (nI 0, uI (uI c4 10 (nI 6)) 11 (gI c4 0))) := by
    have z : m10_drawMap n zm σA = m10_drawMap_16 n (m + 1) zm (nI 4) c4 := by
      rw [← a4, ← a3, ← a2, ← a1, e1]
      congr 1
    rw [z, u_10_drawMap_16, L_4, ile_t (Nat.le_refl _) (by omega)]
    unfold m0_isCrowded m7_length m1_tell
    simp only [ej_bi_s, ej_nm_e, L_0, L_1, L_6, if_true]
  have eR : m11_rebuilds n σr = (ej_bv (m11_solves n (uI r4 6 (nI 0))) fun s8 => some s8) := by
    have z : m11_rebuilds_109 n n (nI 0) r0 = m11_rebuilds_109 n (m + 1) (nI 4) r4 := by
      rw [← b4, ← b3, ← b2, ← b1]
      congr 1
    rw [e2, z, u_11_rebuilds_109, L_4, ile_t (Nat.le_refl _) (by omega), L_0, ej_nm_e]
  have h23 : ¬ gI c4 23 = nI 1 := by
    intro z
    rw [eC, z, bz_n1, if_neg n10] at eA
    exact absurd (congrArg Prod.fst (Option.some.inj eA)) n01
  have h16 : gI r4 16 = nI 0 := by
    rcases K4.2.2 with z | ⟨z, _⟩
    · exact absurd z h23
    · exact z
  have f6 : fr [6] [] [] [] [] r4 (uI r4 6 (nI 0)) := fr_uI fr_rf (by simp)
  obtain ⟨t, x1, x2, _⟩ := r_solves hn (wfR_fr (M4.2 rfl).1 f6 (by simp) (by simp) (by simp) (by simp) (by simp) (by simp) (by simp) (by simp))
  rw [eR, x1, ej_bv_s] at eB
  have et : t = σr' := Option.some.inj eB
  rw [← et, x2.1 16 (by simp), f6.1 16 (by simp)]
  exact h16
end P95c2
