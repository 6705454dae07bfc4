/-! THE CALLS, one by one: texts that come and go -/
section P96f
variable {n a : Nat} {σ σc σr σc' σr' : ej_S} {fs : Nat → List Nat} {tp ot : List Nat} {g : Nat → Int64}
theorem snd_nil (hn : 2000 < n) (hw : RW σr) (hb : gI σr 6 = nI 0) : snd n [] := by
  have q0 : fr [] [] [1] [] [] σr (uA σr 1 4 (nI 0)) := fr_uA fr_rf (by simp)
  have hR : RTX (uA σr 1 4 (nI 0)) 4 [] := ⟨by rw [s_AA_s, pk_us]; rfl, Nat.zero_le _, fun i hi => absurd hi (Nat.not_lt_zero i), fun b hb => by cases hb⟩
  have hRS : RS (uI (uI (uI (uI (uI (uA σr 1 4 (nI 0)) 0 (nI 4)) 1 (nI 0)) 8 (nI 0)) 9 (nI 0)) 10 (nI 0)) 4 [] := ⟨by simp (disch := omega) only [s_IJ, s_IA, s_IB, s_IM, s_JI, s_JA, s_JB, s_JM, s_AI, s_AJ, s_AB, s_AM, s_BI, s_BJ, s_BA, s_BM, s_MI, s_MJ, s_MA, s_MB, s_II_s, s_II_n, s_JJ_s, s_JJ_n, s_AA_s, s_AA_n, s_BB_s, s_BB_n, s_MM_s, s_MM_n, pk_us, pk_un, pk_uLs, pk_uLn], by omega, RTX_fr hR (I := [0, 1, 8, 9, 10]) (J := []) (A := []) (B := []) (M := []) (fr_uI (fr_uI (fr_uI (fr_uI (fr_uI fr_rf (by simp)) (by simp)) (by simp)) (by simp)) (by simp)) (by simp) (by simp)⟩
  obtain ⟨r1, d1, d2, q2⟩ := r_next hn hRS (p := 0) (by simp (disch := omega) only [s_IJ, s_IA, s_IB, s_IM, s_JI, s_JA, s_JB, s_JM, s_AI, s_AJ, s_AB, s_AM, s_BI, s_BJ, s_BA, s_BM, s_MI, s_MJ, s_MA, s_MB, s_II_s, s_II_n, s_JJ_s, s_JJ_n, s_AA_s, s_AA_n, s_BB_s, s_BB_n, s_MM_s, s_MM_n, pk_us, pk_un, pk_uLs, pk_uLn]) (Nat.zero_le _)
  obtain ⟨m, hm⟩ : ∃ m, n = m + 1 := ⟨n - 1, by omega⟩
  have h2 : gI r1 2 = nI 0 := by
    rw [d2.2.1]; rfl
  refine ⟨uA σr 1 4 (nI 0), r1, 4, by omega, hR, RW_fr hw q0 (by simp) (by simp), by rw [q0.1 6 (by simp)]; exact hb, ?_⟩
  unfold m11_isRead
  rw [ej_nm_e, ej_nm_e, ej_nm_e, ej_nm_e, ej_nm_e, L_0, L_1, d1, ej_bv_s]
  conv => lhs; arg 2; rw [hm]
  rw [u_11_isRead_31, L_0, if_neg n10, if_pos h2, bz_n1]
theorem t_9 {f L : Nat} (hf : f < 4) (hL : L ≤ 600) : ∀ (k j : Nat) (σ : ej_S), j ≤ L → L - j < k → ∃ σ', m11_isTaken_9 n k (nI f) (nI L) (nI j) σ = m11_isTaken_40 n n (nI f) (nI L) (nI 0) σ' ∧ fr [] [] [3] [] [] σ σ' ∧ (∀ i, j ≤ i → i < L → gA σ' 3 i = gA σ 0 (600 * f + i)) ∧ ∀ i, i < j → gA σ' 3 i = gA σ 3 i := by
  intro k
  induction k with
  | zero => intro j σ _ h; omega
  | succ k ih =>
    intro j σ hj hk
    rw [u_11_isTaken_9]
    rcases Nat.lt_or_ge j L with q | q
    · rw [ile_f q (by omega)]
      simp (disch := omega) only [↓L_m1, L_0, L_1, L_2, L_3, L_4, L_5, L_6, L_7, L_8, L_9, L_10, L_11, L_12, L_13, L_14, L_15, L_16, L_17, L_18, L_19, L_20, L_21, L_22, L_23, L_24, L_31, L_32, L_33, L_35, L_37, L_40, L_41, L_42, L_43, L_44, L_45, L_46, L_47, L_48, L_57, L_58, L_59, L_61, L_63, L_64, L_65, L_90, L_95, L_96, L_97, L_122, L_123, L_125, L_200, L_255, L_300, L_500, L_576, L_600, L_601, L_602, L_1200, L_1800, L_2400, L_3000, L_4000, L_4096, L_5000, L_30000, L_50000, L_60000, L_70000, L_100000, L_200000, L_1000000, L_1000001, ck_t, nI_clamp, pk_mul, nI_add, ej_nm_e]
      obtain ⟨σ', e1, f1, p1, p2⟩ := ih (j + 1) (uA σ 3 j (gA σ 0 (600 * f + j))) q (by omega)
      refine ⟨σ', e1, fr_tr (fr_uA fr_rf (by simp)) f1, fun i h1 h2 => ?_, fun i h1 => ?_⟩
      · rcases Nat.eq_or_lt_of_le h1 with z | z
        · subst z; rw [p2 j (by omega), s_AA_s, pk_us]
        · rw [p1 i z h2, s_AA_n (by omega)]
      · rw [p2 i (by omega), s_AA_s, pk_un (by omega)]
    · rw [ile_t q (by omega), L_0]
      exact ⟨σ, rfl, fr_rf, fun i h1 h2 => by omega, fun i _ => rfl⟩
theorem t_40 {f L T : Nat} (hf : f < 4) (hT : T ≤ 600) : ∀ (k j : Nat) (σ : ej_S), j ≤ T → T - j < k → gA σ 1 4 = nI T → ∃ σ', m11_isTaken_40 n k (nI f) (nI L) (nI j) σ = (ej_bv (m11_rebuilds n (uA σ' 1 f (nI T))) fun s9 => (if gI s9 16 = nI 0 then (some (nI 1, s9)) else (m11_isTaken_105 n n (nI f) (nI L) (nI 0) s9))) ∧ fr [] [] [0] [] [] σ σ' ∧ (∀ i, j ≤ i → i < T → gA σ' 0 (600 * f + i) = gA σ 0 (2400 + i)) ∧ ∀ x, (x < 600 * f + j ∨ 600 * f + T ≤ x) → gA σ' 0 x = gA σ 0 x := by
  intro k
  induction k with
  | zero => intro j σ _ h; omega
  | succ k ih =>
    intro j σ hj hk h14
    rw [u_11_isTaken_40, L_4, ck_t (by omega) (by omega), nI_clamp (by omega), h14]
    rcases Nat.lt_or_ge j T with q | q
    · rw [ile_f q (by omega)]
      simp (disch := omega) only [↓L_m1, L_0, L_1, L_2, L_3, L_4, L_5, L_6, L_7, L_8, L_9, L_10, L_11, L_12, L_13, L_14, L_15, L_16, L_17, L_18, L_19, L_20, L_21, L_22, L_23, L_24, L_31, L_32, L_33, L_35, L_37, L_40, L_41, L_42, L_43, L_44, L_45, L_46, L_47, L_48, L_57, L_58, L_59, L_61, L_63, L_64, L_65, L_90, L_95, L_96, L_97, L_122, L_123, L_125, L_200, L_255, L_300, L_500, L_576, L_600, L_601, L_602, L_1200, L_1800, L_2400, L_3000, L_4000, L_4096, L_5000, L_30000, L_50000, L_60000, L_70000, L_100000, L_200000, L_1000000, L_1000001, ck_t, nI_clamp, pk_mul, nI_add, ej_nm_e]
      obtain ⟨σ', e1, f1, p1, p2⟩ := ih (j + 1) (uA σ 0 (600 * f + j) (gA σ 0 (2400 + j))) q (by omega) (by rw [s_AA_n (by omega)]; exact h14)
      refine ⟨σ', e1, fr_tr (fr_uA fr_rf (by simp)) f1, fun i h1 h2 => ?_, fun x h1 => ?_⟩
      · rcases Nat.eq_or_lt_of_le h1 with z | z
        · subst z; rw [p2 _ (by omega), s_AA_s, pk_us]
        · rw [p1 i z h2, s_AA_s, pk_un (by omega)]
      · rw [p2 x (by omega), s_AA_s, pk_un (by omega)]
    · rw [ile_t q (by omega), ck_t (by omega) (by omega), ck_t (show f < 5 by omega) (by omega), nI_clamp (by omega), ej_nm_e, L_0, L_1]
      exact ⟨σ, rfl, fr_rf, fun i h1 h2 => by omega, fun x _ => rfl⟩
theorem t_105 {f L : Nat} (hf : f < 4) (hL : L ≤ 600) : ∀ (k j : Nat) (σ : ej_S), j ≤ L → L - j < k → ∃ σ', m11_isTaken_105 n k (nI f) (nI L) (nI j) σ = (ej_bv (m11_rebuilds n (uA σ' 1 f (nI L))) fun s14 => some (nI 0, uI (uI s14 9 (nI 6)) 10 (gA s14 1 4))) ∧ fr [] [] [0] [] [] σ σ' ∧ (∀ i, j ≤ i → i < L → gA σ' 0 (600 * f + i) = gA σ 3 i) ∧ ∀ x, (x < 600 * f + j ∨ 600 * f + L ≤ x) → gA σ' 0 x = gA σ 0 x := by
  intro k
  induction k with
  | zero => intro j σ _ h; omega
  | succ k ih =>
    intro j σ hj hk
    rw [u_11_isTaken_105]
    rcases Nat.lt_or_ge j L with q | q
    · rw [ile_f q (by omega)]
      simp (disch := omega) only [↓L_m1, L_0, L_1, L_2, L_3, L_4, L_5, L_6, L_7, L_8, L_9, L_10, L_11, L_12, L_13, L_14, L_15, L_16, L_17, L_18, L_19, L_20, L_21, L_22, L_23, L_24, L_31, L_32, L_33, L_35, L_37, L_40, L_41, L_42, L_43, L_44, L_45, L_46, L_47, L_48, L_57, L_58, L_59, L_61, L_63, L_64, L_65, L_90, L_95, L_96, L_97, L_122, L_123, L_125, L_200, L_255, L_300, L_500, L_576, L_600, L_601, L_602, L_1200, L_1800, L_2400, L_3000, L_4000, L_4096, L_5000, L_30000, L_50000, L_60000, L_70000, L_100000, L_200000, L_1000000, L_1000001, ck_t, nI_clamp, pk_mul, nI_add, ej_nm_e]
      obtain ⟨σ', e1, f1, p1, p2⟩ := ih (j + 1) (uA σ 0 (600 * f + j) (gA σ 3 j)) q (by omega)
      refine ⟨σ', e1, fr_tr (fr_uA fr_rf (by simp)) f1, fun i h1 h2 => ?_, fun x h1 => ?_⟩
      · rcases Nat.eq_or_lt_of_le h1 with z | z
        · subst z; rw [p2 _ (by omega), s_AA_s, pk_us]
        · rw [p1 i z h2, s_AA_n (by omega)]
      · rw [p2 x (by omega), s_AA_s, pk_un (by omega)]
    · rw [ile_t q (by omega), ck_t (show f < 5 by omega) (by omega), nI_clamp (by omega), ej_nm_e]
      refine ⟨σ, ?_, fr_rf, fun i h1 h2 => by omega, fun x _ => rfl⟩
      have e : ∀ s14 : ej_S, (ej_ck (4 : Int32) 5 (ej_bi (m11_fails n 6 (gA s14 1 (4 : Int32).toNatClampNeg) s14) fun r16 s15 => (some (ej_bz r16, s15)))) = some (nI 0, uI (uI s14 9 (nI 6)) 10 (gA s14 1 4)) := by
        intro s14
        unfold m11_fails
        rw [L_4, ck_t (by omega) (by omega), nI_clamp (by omega), ej_nm_e, ej_nm_e, ej_bi_s, L_0, L_6, bz_n0]
      simp only [e]
/-- a text put into a file of the reference -/
theorem RTX_set {T : List Nat} {f : Nat} (hf : f < 4) (s : ej_S) (hT : T.length ≤ 600) (hb : ∀ b ∈ T, b < 256) (h1 : ∀ i, i < T.length → gA s 0 (600 * f + i) = nI (cd T i)) : RTX (uA s 1 f (nI T.length)) f T :=
  ⟨by rw [s_AA_s, pk_us], hT, fun i hi => by rw [s_AA_n (by omega)]; exact h1 i hi, hb⟩
theorem RTX_oth {f h : Nat} {l : List Nat} {v : Int32} {s : ej_S} (hR : RTX σ h l) (hne : h ≠ f) (h0 : ∀ i, i < 600 → gA s 0 (600 * h + i) = gA σ 0 (600 * h + i)) (h1 : gA s 1 h = gA σ 1 h) : RTX (uA s 1 f v) h l := by
  obtain ⟨a1, a2, a3, a4⟩ := hR
  exact ⟨by rw [s_AA_s, pk_un hne, h1]; exact a1, a2, fun i hi => by rw [s_AA_n (by omega), h0 i (by omega)]; exact a3 i hi, a4⟩
def fsu (fs : Nat → List Nat) (f : Nat) (l : List Nat) : Nat → List Nat := fun g => if g = f then l else fs g
theorem fsu_s {f : Nat} {l : List Nat} : fsu fs f l f = l := if_pos rfl
theorem fsu_n {f h : Nat} {l : List Nat} (hne : h ≠ f) : fsu fs f l h = fs h := if_neg hne
theorem tn_zm {f : Nat} (hf : f < 4) : tn zm f = 2 + f := if_neg (zm_ne (by omega))
theorem tn_s {f : Nat} : tn (nI f) f = 0 := if_pos rfl
theorem tn_n {f h : Nat} (hf : f < 4) (hh : h < 4) (hne : h ≠ f) : tn (nI f) h = 2 + h := if_neg (fun z => hne ((nI_eq (by omega) (by omega)).mp z))
/-- what a rebuilt map gives when it is not crowded -/
theorem MAPI_new {c c' t : ej_S} (hT : ∀ f, f < 4 → TX c' (2 + f) (fs f)) (hR : ∀ f, f < 4 → RTX t f (fs f)) (hs : ∀ f, f < 4 → snd n (fs f)) (hw : RW t) (h6 : gI t 6 = nI 0) (h16 : gI t 16 = nI 0) (hJ : gJ c' 0 = gJ t 1) (hwf : wfR t) (hS : SOL t) (h34 : gI c' 34 = nI 0) (h35 : gI c' 35 = nI 0) (hcn : ∀ f, f < 4 → gA c' 10 f = gA t 2 f) (hrel : relC c' t) (hD : ∀ r σ, (∀ f, f < 4 → TX σ (tn r f) (fs f)) → ∃ σ', DRN n r σ σ' t) : MAPI n fs c' t := by
  refine ⟨hT, hR, hs, hw, h6, h16, hJ, hcn, ⟨hwf, hrel⟩, hS, ⟨.inl h34, .inl h35⟩, fun σ hσ => ?_⟩
  obtain ⟨σ', a1, a2, a3, a4, a5⟩ := hD zm σ (fun f hf => by rw [tn_zm hf]; exact hσ f hf)
  rcases a5 with ⟨_, b1, b2, b3⟩ | ⟨b0, _⟩
  · exact ⟨σ', a1, a2, a3, a4, b1, b2, b3⟩
  · rw [h16] at b0; exact absurd b0 n01
theorem c_drop (hn : 200000000000000 < n) (h : INV n σc σr) (x : Int32) : STEP n σr (mW_drop n x (σc, σr, g)) (m11_drop n x σr) := by
  obtain ⟨fs, tp, ot, hM, hO⟩ := h
  unfold mW_drop m11_drop m10_drop
  rcases s_file (n := n) (σc := σc) (σr := σr) x with ⟨f, hf, rfl, e1, e2⟩ | ⟨e1, e2⟩
  · obtain ⟨m1, m2, m3, m4, m5, m6, m7, m8, m9, m10, m11, m12⟩ := id hM
    obtain ⟨c1, d1, d2, d3⟩ := x_clear (n := n) (t := 2 + f) (σ := σc)
    have q0 : fr [19] [] [] [] [] σr (uI σr 19 (nI 0)) := f19
    have q1 : fr [19] [] [1] [] [] σr (uA (uI σr 19 (nI 0)) 1 f (nI 0)) := fr_uA (fr_wk q0 (by simp) (by simp) (by simp) (by simp) (by simp)) (by simp)
    have hT1 : ∀ h, h < 4 → TX c1 (2 + h) (fsu fs f [] h) := by
      intro h hh
      by_cases z : h = f
      · subst z; rw [fsu_s]; exact d2
      · rw [fsu_n z]; exact TX_fr (m1 h hh) d3 (by simp; omega) (by simp)
    have hR1 : ∀ h, h < 4 → RTX (uA (uI σr 19 (nI 0)) 1 f (nI 0)) h (fsu fs f [] h) := by
      intro h hh
      by_cases z : h = f
      · subst z; rw [fsu_s]
        exact ⟨by rw [s_AA_s, pk_us]; rfl, Nat.zero_le _, fun i hi => absurd hi (Nat.not_lt_zero i), fun b hb => by cases hb⟩
      · rw [fsu_n z]
        exact RTX_oth (m2 h hh) z (fun i hi => by rw [s_AI]) (by rw [s_AI])
    have hR4 : RTX (uA (uI σr 19 (nI 0)) 1 f (nI 0)) 4 tp := RTX_oth hO.2.1 (by omega) (fun i hi => by rw [s_AI]) (by rw [s_AI])
    have hs1 : ∀ h, h < 4 → snd n (fsu fs f [] h) := by
      intro h hh
      by_cases z : h = f
      · subst z; rw [fsu_s]; exact snd_nil (by omega) m4 m5
      · rw [fsu_n z]; exact m3 h hh
    have hw1 : RW (uA (uI σr 19 (nI 0)) 1 f (nI 0)) := RW_fr m4 q1 (by simp) (by simp)
    obtain ⟨t, b1, b2, b3, b4, b5, b6⟩ := s_rebuild (n := n) (r0 := zm) (σc := c1) (fs := fsu fs f []) hn hs1 (fun h hh => by rw [tn_zm hh]; exact hT1 h hh) hR1 hw1
    obtain ⟨σA', _, _, _, _, eA, _⟩ := m12 σc m1
    have h16 : gI t 16 = nI 0 := drop_ok hn m3 hs1 m1 hT1 eA hR1 hw1 b1 (fun h hh => by
      by_cases z : h = f
      · subst z; exact .inr fsu_s
      · exact .inl (fsu_n z))
    obtain ⟨c2, a1, a2, a3, a4, a5⟩ := b6 zm c1 (fun h hh => by rw [tn_zm hh]; exact hT1 h hh)
    rcases a5 with ⟨_, k1, k2, k3⟩ | ⟨k0, _⟩
    · have Q : fr [0, 1, 2, 3, 4, 5, 6, 7, 8, 9, 10, 13, 14, 15, 16, 19] [0] [1, 2, 5, 6, 7, 8, 9, 10, 11, 12, 13, 14, 15, 16, 17, 18, 19, 20, 21, 22, 23, 24, 25, 26] [1] [] σr t := fr_tr (fr_wk q1 (by simp) (by simp) (by simp) (by simp) (by simp)) (fr_wk b2 (by simp) (by simp) (by simp) (by simp) (by simp))
      have hM' : MAPI n (fsu fs f []) c2 t := MAPI_new (c := c1) (fun h hh => TX_fr (hT1 h hh) a1 (by simp; omega) (by simp; omega)) (fun h hh => RTX_EF (hR1 h hh) b2) hs1 (RW_fr hw1 b2 (by simp) (by simp)) b3 h16 (by rw [a1.2.1 0 (by simp), d3.2.1 0 (by simp), Q.2.1 1 (by simp)]; exact m7) b4 b5 a2 a3 a4 k2 b6
      refine ST_ok (v := gA σr 2 f) (σc' := c2) (σr' := t) ?_ ?_ (by rw [b2.1 19 (by simp), s_IA, s_II_s]) ⟨fsu fs f [], tp, ot, hM', ?_⟩
      · rw [e1, ej_bi_s, L_0, if_neg n10, ck_t hf (by omega), nI_clamp (by omega), ej_nm_e, ck_t hf (by omega), d1, ej_bv_s, L_m1, k1, ej_bi_s, m8 f hf]
      · unfold m11_drop_13
        rw [e2, ej_bi_s, L_0, if_neg n10, goes_0, ej_bi_s, if_neg n10, ck_t hf (by omega), nI_clamp (by omega), ej_nm_e, ck_t (show f < 5 by omega) (by omega), ej_nm_e, b1, ej_bv_s, s_AI]
      · obtain ⟨o1, o2, o3, o4, o5, o6⟩ := hO
        have hc : 2 + f ≠ 0 ∧ 2 + f ≠ 1 ∧ 2 + f ≠ 10 ∧ 2 + f ≠ 11 := by omega
        refine ⟨TX_fr (TX_fr o1 d3 (by simp; omega) (by simp)) a1 (by simp) (by simp), RTX_EF hR4 b2, TX_fr (TX_fr o3 d3 (by simp; omega) (by simp)) a1 (by simp) (by simp), RX_fr o4 Q (by simp) (by simp), ?_, ?_⟩
        · rw [k3.1, d3.1 10 (by simp; omega), Q.1 11 (by simp)]; exact o5
        · rw [k3.2, d3.1 11 (by simp; omega), Q.1 12 (by simp)]; exact o6
    · rw [h16] at k0; exact absurd k0 n01
  · refine ST_ex (k := 3) (c := 1) (σc' := σc) (σr' := uI σr 19 (nI 1)) (v := nI 0) (by rw [e1, ej_bi_s, L_0, if_pos rfl]) (fun _ => rfl) ?_ s_II_s (by omega) (INV_19 hM hO)
    unfold m11_drop_13
    rw [e2, ej_bi_s, L_0, if_pos rfl, L_1, goes_1, ej_bi_s, if_pos rfl]
end P96f
