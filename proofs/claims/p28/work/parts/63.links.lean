/-! LINKS AND ALIASES, IN BOTH -/
section P63
variable {n N a c : Nat} {σ : ej_S} {x y p : Int32}
theorem bt_upd {R : Nat → Int32} {w : Int32} {a c a' c' : Nat} (h : ¬ (a' = a ∧ c' = c)) (hc : c' < 24) (hc2 : c < 24) (hw : ∀ i, i < 24 → i ≠ c → bt w i = bt (R a) i) : bt (upd R a w a') c' = bt (R a') c' := by
  by_cases e : a' = a
  · subst e
    rw [pk_us]; exact hw c' hc (fun z => h ⟨rfl, z⟩)
  · rw [pk_un e]
theorem va_upd {P : Nat → Nat → Int32} {w : Int32} {a c a' c' : Nat} (h : ¬ (a' = a ∧ c' = c)) : va_up P a (upd (P a) c w) a' c' = P a' c' := by
  unfold va_up
  split
  · rename_i e
    subst e
    rw [pk_un (fun z => h ⟨rfl, z⟩)]
  · rfl
theorem va_us {P : Nat → Nat → Int32} {w : Int32} {a c : Nat} : va_up P a (upd (P a) c w) a c = w := by
  unfold va_up; rw [if_pos rfl, pk_us]
theorem x_addLink_104 (ha : a < 24) (hc : c < 24) (right : Bool) : ∃ σ', m0_addLink_104 n (nI a) (nI c) (bI right) σ = some σ' ∧ fr [] [] [21] [] [] σ σ' ∧ (∀ a' c', a' < 24 → c' < 24 → ¬ (a' = a ∧ c' = c) → bt (gA σ' 21 a') c' = bt (gA σ 21 a') c') ∧ bt (gA σ' 21 a) c = (bt (gA σ 21 a) c && right) := by
  cases right
  · refine ⟨uA σ 21 a (gA σ 21 a &&& (stb c ^^^ zm)), ?_, fr_uA fr_rf (by simp), ?_, ?_⟩
    · unfold m0_addLink_104
      simp (disch := omega) only [ej_bi_s, ej_bl_s, ej_bv_s, ej_nm_e, L_0, bI_f, ieq_t, if_true, ck_t, x_setOf hc, nI_clamp, L_m1]
    · intro a' c' h1 h2 h3
      rw [s_AA_s]
      exact bt_upd h3 h2 hc (fun i hi hic => by rw [bt_andn _ (by omega) (by omega)]; simp [hic])
    · rw [s_AA_s, pk_us, bt_andn _ (by omega) (by omega)]; simp
  · refine ⟨σ, ?_, fr_rf, fun _ _ _ _ _ => rfl, by simp⟩
    unfold m0_addLink_104
    simp (disch := omega) only [L_0, bI_t, ieq_f]
theorem x_addLink_69 (ha : a < 24) (hc : c < 24) (right : Bool) : ∃ σ', m0_addLink_69 n (nI a) (nI c) p (bI right) σ = some σ' ∧ fr [] [] [20, 21] [] [0] σ σ' ∧ (∀ a' c', a' < 24 → c' < 24 → ¬ (a' = a ∧ c' = c) → bt (gA σ' 20 a') c' = bt (gA σ 20 a') c' ∧ bt (gA σ' 21 a') c' = bt (gA σ 21 a') c' ∧ gM σ' 0 a' c' = gM σ 0 a' c') ∧ bt (gA σ' 20 a) c = true ∧ gM σ' 0 a c = p ∧ bt (gA σ' 21 a) c = right := by
  obtain ⟨σ', e1, f1, g1, g2⟩ := x_addLink_104 (n := n) (σ := uA (uM (uA σ 20 a (gA σ 20 a ||| stb c)) 0 a c p) 21 a (gA σ 21 a ||| stb c)) ha hc right
  refine ⟨σ', ?_, ?_, ?_, ?_, ?_, ?_⟩
  · unfold m0_addLink_69
    simp (disch := omega) only [ej_bi_s, ej_bl_s, ej_bv_s, ej_nm_e, ck_t, x_setOf hc, nI_clamp, s_IJ, s_IA, s_IB, s_IM, s_JI, s_JA, s_JB, s_JM, s_AI, s_AJ, s_AB, s_AM, s_BI, s_BJ, s_BA, s_BM, s_MI, s_MJ, s_MA, s_MB, s_II_s, s_II_n, s_JJ_s, s_JJ_n, s_AA_s, s_AA_n, s_BB_s, s_BB_n, s_MM_s, s_MM_n, pk_us, pk_un, pk_uLs, pk_uLn]
    exact e1
  · exact fr_tr (fr_uA (fr_uM (fr_uA fr_rf (by simp)) (by simp)) (by simp)) (fr_wk f1 (by simp) (by simp) (by simp) (by simp) (by simp))
  · intro a' c' h1 h2 h3
    refine ⟨?_, ?_, ?_⟩
    · rw [f1.2.2.1 20 (by decide)]
      simp (disch := omega) only [s_IJ, s_IA, s_IB, s_IM, s_JI, s_JA, s_JB, s_JM, s_AI, s_AJ, s_AB, s_AM, s_BI, s_BJ, s_BA, s_BM, s_MI, s_MJ, s_MA, s_MB, s_II_s, s_II_n, s_JJ_s, s_JJ_n, s_AA_s, s_AA_n, s_BB_s, s_BB_n, s_MM_s, s_MM_n, pk_us, pk_un, pk_uLs, pk_uLn]
      exact bt_upd h3 h2 hc (fun i hi hic => by rw [bt_or _ (by omega) (by omega)]; simp [hic])
    · rw [g1 a' c' h1 h2 h3]
      simp (disch := omega) only [s_IJ, s_IA, s_IB, s_IM, s_JI, s_JA, s_JB, s_JM, s_AI, s_AJ, s_AB, s_AM, s_BI, s_BJ, s_BA, s_BM, s_MI, s_MJ, s_MA, s_MB, s_II_s, s_II_n, s_JJ_s, s_JJ_n, s_AA_s, s_AA_n, s_BB_s, s_BB_n, s_MM_s, s_MM_n, pk_us, pk_un, pk_uLs, pk_uLn]
      exact bt_upd h3 h2 hc (fun i hi hic => by rw [bt_or _ (by omega) (by omega)]; simp [hic])
    · rw [f1.2.2.2.2 0 (by decide)]
      simp (disch := omega) only [s_IJ, s_IA, s_IB, s_IM, s_JI, s_JA, s_JB, s_JM, s_AI, s_AJ, s_AB, s_AM, s_BI, s_BJ, s_BA, s_BM, s_MI, s_MJ, s_MA, s_MB, s_II_s, s_II_n, s_JJ_s, s_JJ_n, s_AA_s, s_AA_n, s_BB_s, s_BB_n, s_MM_s, s_MM_n, pk_us, pk_un, pk_uLs, pk_uLn]
      exact va_upd h3
  · rw [f1.2.2.1 20 (by decide)]
    simp (disch := omega) only [s_IJ, s_IA, s_IB, s_IM, s_JI, s_JA, s_JB, s_JM, s_AI, s_AJ, s_AB, s_AM, s_BI, s_BJ, s_BA, s_BM, s_MI, s_MJ, s_MA, s_MB, s_II_s, s_II_n, s_JJ_s, s_JJ_n, s_AA_s, s_AA_n, s_BB_s, s_BB_n, s_MM_s, s_MM_n, pk_us, pk_un, pk_uLs, pk_uLn]
    rw [bt_or _ (by omega) (by omega)]; simp
  · rw [f1.2.2.2.2 0 (by decide)]
    simp (disch := omega) only [s_IJ, s_IA, s_IB, s_IM, s_JI, s_JA, s_JB, s_JM, s_AI, s_AJ, s_AB, s_AM, s_BI, s_BJ, s_BA, s_BM, s_MI, s_MJ, s_MA, s_MB, s_II_s, s_II_n, s_JJ_s, s_JJ_n, s_AA_s, s_AA_n, s_BB_s, s_BB_n, s_MM_s, s_MM_n, pk_us, pk_un, pk_uLs, pk_uLn]
    exact va_us
  · rw [g2]
    simp (disch := omega) only [s_IJ, s_IA, s_IB, s_IM, s_JI, s_JA, s_JB, s_JM, s_AI, s_AJ, s_AB, s_AM, s_BI, s_BJ, s_BA, s_BM, s_MI, s_MJ, s_MA, s_MB, s_II_s, s_II_n, s_JJ_s, s_JJ_n, s_AA_s, s_AA_n, s_BB_s, s_BB_n, s_MM_s, s_MM_n, pk_us, pk_un, pk_uLs, pk_uLn]
    rw [bt_or _ (by omega) (by omega)]; simp
theorem x_addLink (h : gI σ 22 = nI N) (hN : N ≤ 24) (ha : a < N) (hc : c < N) (hne : a ≠ c) (right : Bool) : ∃ σ', m0_addLink n (nI a) (nI c) p (bI right) σ = some σ' ∧ fr [] [] [20, 21] [] [0] σ σ' ∧ (∀ a' c', a' < 24 → c' < 24 → ¬ (a' = a ∧ c' = c) → bt (gA σ' 20 a') c' = bt (gA σ 20 a') c' ∧ bt (gA σ' 21 a') c' = bt (gA σ 21 a') c' ∧ gM σ' 0 a' c' = gM σ 0 a' c') ∧ ((bt (gA σ 20 a) c = true ∧ ¬ p ≤ gM σ 0 a c ∧ σ' = σ) ∨ ((bt (gA σ 20 a) c = false ∨ ¬ gM σ 0 a c ≤ p) ∧ bt (gA σ' 20 a) c = true ∧ gM σ' 0 a c = p ∧ bt (gA σ' 21 a) c = right) ∨ (bt (gA σ 20 a) c = true ∧ p ≤ gM σ 0 a c ∧ gM σ 0 a c ≤ p ∧ bt (gA σ' 20 a) c = true ∧ gM σ' 0 a c = gM σ 0 a c ∧ bt (gA σ' 21 a) c = (bt (gA σ 21 a) c && right))) := by
  have hac : ¬ nI a = nI c := fun z => hne ((nI_eq (by omega) (by omega)).mp z)
  have h1 := x_has (n := n) h hN (show a < 2 ^ 31 by omega)
  have h2 := x_has (n := n) h hN (show c < 2 ^ 31 by omega)
  rw [decide_eq_true ha] at h1
  rw [decide_eq_true hc] at h2
  have e0 : m0_addLink n (nI a) (nI c) p (bI right) σ = if bt (gA σ 20 a) c = true then (if p ≤ gM σ 0 a c then (m0_addLink_52 n (nI a) (nI c) p (bI right) (nI 1) σ) else some σ) else m0_addLink_52 n (nI a) (nI c) p (bI right) (nI 0) σ := by
    unfold m0_addLink
    rw [h1]
    simp (disch := omega) only [ej_bi_s, ej_bl_s, ej_bv_s, ej_nm_e, L_0, bI_t, ieq_f]
    rw [h2]
    simp (disch := omega) only [ej_bi_s, ej_bl_s, ej_bv_s, ej_nm_e, L_0, bI_t, ieq_f, ck_t, x_holds (show c < 24 by omega), nI_clamp, ibI]
    cases e : bt (gA σ 20 a) c <;> simp [bI]
  rw [e0]
  unfold m0_addLink_52
  cases hk : bt (gA σ 20 a) c
  · obtain ⟨σ', e1, f1, g1, g2, g3, g4⟩ := x_addLink_69 (n := n) (σ := σ) (p := p) (show a < 24 by omega) (show c < 24 by omega) right
    refine ⟨σ', ?_, f1, g1, .inr (.inl ⟨.inl rfl, g2, g3, g4⟩)⟩
    simp (disch := omega) only [Bool.false_eq_true, if_false, L_0, ieq_t, if_true]
    exact e1
  · simp (disch := omega) only [if_true, L_0, ieq_f, ck_t, nI_clamp]
    by_cases q1 : p ≤ gM σ 0 a c
    · rw [if_pos q1]
      by_cases q2 : gM σ 0 a c ≤ p
      · obtain ⟨σ', e1, f1, g1, g2⟩ := x_addLink_104 (n := n) (σ := σ) (show a < 24 by omega) (show c < 24 by omega) right
        rw [if_pos q2]
        refine ⟨σ', e1, fr_wk f1 (by simp) (by simp) (by simp) (by simp) (by simp), fun a' c' z1 z2 z3 => ⟨by rw [f1.2.2.1 20 (by decide)], g1 a' c' z1 z2 z3, by rw [f1.2.2.2.2 0 (by decide)]⟩, .inr (.inr ⟨trivial, q1, q2, by rw [f1.2.2.1 20 (by decide)]; exact hk, by rw [f1.2.2.2.2 0 (by decide)], g2⟩)⟩
      · obtain ⟨σ', e1, f1, g1, g2, g3, g4⟩ := x_addLink_69 (n := n) (σ := σ) (p := p) (show a < 24 by omega) (show c < 24 by omega) right
        rw [if_neg q2]
        exact ⟨σ', e1, f1, g1, .inr (.inl ⟨.inr q2, g2, g3, g4⟩)⟩
    · rw [if_neg q1]
      exact ⟨σ, rfl, fr_rf, fun _ _ _ _ _ => ⟨rfl, rfl, rfl⟩, .inl ⟨trivial, q1, rfl⟩⟩
/-- at all events -/
theorem x_addLink_any (h : wfC σ) (hx : ND x) (hy : ND y) (right : Bool) : ∃ σ', m0_addLink n x y p (bI right) σ = some σ' ∧ fr [] [] [20, 21] [] [0] σ σ' := by
  obtain ⟨N, hN, h⟩ := h
  have no : ∀ σ', (m0_addLink n x y p (bI right) σ = some σ' → σ' = σ → ∃ σ', m0_addLink n x y p (bI right) σ = some σ' ∧ fr [] [] [20, 21] [] [0] σ σ') := fun σ' e z => ⟨σ', e, by rw [z]; exact fr_rf⟩
  rcases hx with rfl | ⟨a, ha, rfl⟩
  · refine no σ ?_ rfl
    unfold m0_addLink
    rw [x_has_m]
    simp (disch := omega) only [ej_bi_s, ej_bl_s, ej_bv_s, ej_nm_e, L_0, bI_f, ieq_t, if_true]
  · have h1 := x_has (n := n) h hN (show a < 2 ^ 31 by omega)
    rcases Nat.lt_or_ge a N with q | q
    · rw [decide_eq_true q] at h1
      rcases hy with rfl | ⟨c, hc, rfl⟩
      · refine no σ ?_ rfl
        unfold m0_addLink
        rw [h1]
        simp (disch := omega) only [ej_bi_s, ej_bl_s, ej_bv_s, ej_nm_e, L_0, bI_t, ieq_f]
        rw [x_has_m]
        simp (disch := omega) only [ej_bi_s, ej_bl_s, ej_bv_s, ej_nm_e, L_0, bI_f, ieq_t, if_true]
      · have h2 := x_has (n := n) h hN (show c < 2 ^ 31 by omega)
        rcases Nat.lt_or_ge c N with q2 | q2
        · by_cases e : a = c
          · subst e
            refine no σ ?_ rfl
            rw [decide_eq_true q2] at h2
            unfold m0_addLink
            rw [h1]
            simp (disch := omega) only [ej_bi_s, ej_bl_s, ej_bv_s, ej_nm_e, L_0, bI_t, ieq_f]
            rw [h2]
            simp (disch := omega) only [ej_bi_s, ej_bl_s, ej_bv_s, ej_nm_e, L_0, bI_t, ieq_f, ieq_t, if_true]
          · obtain ⟨σ', e1, f1, _⟩ := x_addLink (n := n) (p := p) h hN q q2 e right
            exact ⟨σ', e1, f1⟩
        · rw [decide_eq_false (by omega)] at h2
          refine no σ ?_ rfl
          unfold m0_addLink
          rw [h1]
          simp (disch := omega) only [ej_bi_s, ej_bl_s, ej_bv_s, ej_nm_e, L_0, bI_t, ieq_f]
          rw [h2]
          simp (disch := omega) only [ej_bi_s, ej_bl_s, ej_bv_s, ej_nm_e, L_0, bI_f, ieq_t, if_true]
    · rw [decide_eq_false (by omega)] at h1
      refine no σ ?_ rfl
      unfold m0_addLink
      rw [h1]
      simp (disch := omega) only [ej_bi_s, ej_bl_s, ej_bv_s, ej_nm_e, L_0, bI_f, ieq_t, if_true]
/-- whether the reference takes a link -/
def lkb (σ : ej_S) (i : Nat) (p : Int32) (right : Bool) : Prop := gA σ 16 i = zm ∨ p < gA σ 16 i ∨ (p = gA σ 16 i ∧ gA σ 17 i ≠ nI 0 ∧ right = false)
theorem r_links (ha : a < 24) (hc : c < 24) (right : Bool) (b : Bool) (hb : gI σ 6 = bI b) : ∃ σ', m11_links n (nI a) (nI c) p (bI right) σ = some σ' ∧ ((b = true ∧ a ≠ c ∧ lkb σ (24 * a + c) p right ∧ σ' = uA (uA σ 16 (24 * a + c) p) 17 (24 * a + c) (bI right)) ∨ (¬ (b = true ∧ a ≠ c ∧ lkb σ (24 * a + c) p right) ∧ σ' = σ)) := by
  have hi : 24 * a + c < 576 := by omega
  have e61 : ∀ (t : Bool), m11_links_61 n (nI a) (nI c) p (bI right) (nI (24 * a + c)) (bI t) σ = some (if b = true ∧ a ≠ c ∧ t = true then uA (uA σ 16 (24 * a + c) p) 17 (24 * a + c) (bI right) else σ) := by
    intro t
    unfold m11_links_61
    rw [hb]
    cases b
    · simp (disch := omega) only [L_0, bI_f, ieq_t, if_true, Bool.false_eq_true, false_and, if_false]
    · by_cases e : a = c
      · subst e
        simp (disch := omega) only [L_0, bI_t, ieq_f, ieq_t, if_true]
        simp
      · cases t
        · simp (disch := omega) only [L_0, bI_t, bI_f, ieq_f, ieq_t, if_true]
          simp
        · simp (disch := omega) only [L_0, bI_t, bI_f, ieq_f, ck_t, nI_clamp, ej_bi_s, ej_bl_s, ej_bv_s, ej_nm_e, bz_b]
          simp [e]
  have hT : bI true = 1 := rfl
  have hF : bI false = 0 := rfl
  have e0 : ∃ t : Bool, (t = true ↔ lkb σ (24 * a + c) p right) ∧ m11_links n (nI a) (nI c) p (bI right) σ = m11_links_61 n (nI a) (nI c) p (bI right) (nI (24 * a + c)) (bI t) σ := by
    unfold m11_links lkb
    simp (disch := omega) only [ej_bi_s, ej_bl_s, ej_bv_s, ej_nm_e, L_24, pk_mul, nI_add, ck_t, nI_clamp, L_m1]
    by_cases q1 : gA σ 16 (24 * a + c) = zm
    · exact ⟨true, by simp [q1], by rw [if_pos q1, hT]⟩
    · by_cases q2 : p < gA σ 16 (24 * a + c)
      · exact ⟨true, by simp [q2], by rw [if_neg q1, if_pos q2, hT]⟩
      · by_cases q3 : p = gA σ 16 (24 * a + c)
        · by_cases q4 : gA σ 17 (24 * a + c) = nI 0
          · refine ⟨false, ⟨fun z => (by cases z), fun z => ?_⟩, by rw [if_neg q1, if_neg q2, if_pos q3, L_0, if_pos q4]; rfl⟩
            rcases z with z | z | z
            · exact absurd z q1
            · exact absurd z q2
            · exact absurd q4 z.2.1
          · cases right
            · exact ⟨true, by simp [q3, q4], by rw [if_neg q1, if_neg q2, if_pos q3, L_0, if_neg q4, bI_f, if_pos rfl]; rfl⟩
            · refine ⟨false, ⟨fun z => (by cases z), fun z => ?_⟩, by rw [if_neg q1, if_neg q2, if_pos q3, L_0, if_neg q4, bI_t, if_neg (by decide +kernel)]; rfl⟩
              rcases z with z | z | z
              · exact absurd z q1
              · exact absurd z q2
              · cases z.2.2
        · refine ⟨false, ⟨fun z => (by cases z), fun z => ?_⟩, by rw [if_neg q1, if_neg q2, if_neg q3]; rfl⟩
          rcases z with z | z | z
          · exact absurd z q1
          · exact absurd z q2
          · exact absurd z.1 q3
  obtain ⟨t, ht, e0⟩ := e0
  rw [e0, e61]
  by_cases g : b = true ∧ a ≠ c ∧ t = true
  · rw [if_pos g]; exact ⟨_, rfl, .inl ⟨g.1, g.2.1, ht.mp g.2.2, rfl⟩⟩
  · rw [if_neg g]; exact ⟨_, rfl, .inr ⟨fun z => g ⟨z.1, z.2.1, ht.mpr z.2.2⟩, rfl⟩⟩
end P63
