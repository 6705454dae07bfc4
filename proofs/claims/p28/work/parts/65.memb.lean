/-! MEMBERS, GATES, THE DEAD, IN BOTH -/
section P65
variable {n N q a c : Nat} {σ σc σr : ej_S} {x x1 x2 p set : Int32}
theorem x_addMembers_43 (hN : N ≤ 24) {net : Nat} (hnet : net < 24) : ∀ (k j : Nat) (σ : ej_S), gI σ 22 = nI N → N - j < k → j ≤ N → ∃ σ', m0_addMembers_43 n k (nI net) set p (nI j) σ = some σ' ∧ fr [] [] [23] [] [1] σ σ' ∧ (∀ a m, a < 24 → m < 24 → ¬ (a = net ∧ j ≤ m ∧ m < N ∧ m ≠ net ∧ bt set m = true) → bt (gA σ' 23 a) m = bt (gA σ 23 a) m ∧ gM σ' 1 a m = gM σ 1 a m) ∧ (∀ m, j ≤ m → m < N → m ≠ net → bt set m = true → bt (gA σ' 23 net) m = true ∧ gM σ' 1 net m = (if bt (gA σ 23 net) m = true then (if p < gM σ 1 net m then p else gM σ 1 net m) else p)) := by
  intro k
  induction k with
  | zero => intro j σ _ h1; omega
  | succ k ih =>
    intro j σ h h1 h2
    rw [u_0_addMembers_43, h]
    rcases Nat.lt_or_ge j N with q1 | q1
    · -- a turn that changes nothing
      have skip : ¬ (j ≠ net ∧ bt set j = true) → ∃ σ', m0_addMembers_43 n k (nI net) set p (nI (j + 1)) σ = some σ' ∧ fr [] [] [23] [] [1] σ σ' ∧ (∀ a m, a < 24 → m < 24 → ¬ (a = net ∧ j ≤ m ∧ m < N ∧ m ≠ net ∧ bt set m = true) → bt (gA σ' 23 a) m = bt (gA σ 23 a) m ∧ gM σ' 1 a m = gM σ 1 a m) ∧ (∀ m, j ≤ m → m < N → m ≠ net → bt set m = true → bt (gA σ' 23 net) m = true ∧ gM σ' 1 net m = (if bt (gA σ 23 net) m = true then (if p < gM σ 1 net m then p else gM σ 1 net m) else p)) := by
        intro hno
        obtain ⟨σ', e1, f1, g1, g2⟩ := ih (j + 1) σ h (by omega) q1
        refine ⟨σ', e1, f1, fun a m ha hm hn => g1 a m ha hm (fun z => hn ⟨z.1, by omega, z.2.2⟩), fun m z1 z2 z3 z4 => g2 m ?_ z2 z3 z4⟩
        rcases Nat.eq_or_lt_of_le z1 with e | e
        · subst e; exact absurd ⟨z3, z4⟩ hno
        · exact e
      simp (disch := omega) only [L_24, L_1, ile_f, ej_bi_s, ej_bl_s, ej_bv_s, ej_nm_e, nI_add]
      by_cases e : j = net
      · subst e
        simp (disch := omega) only [ieq_t, if_true]
        exact skip (fun z => z.1 rfl)
      · rw [ieq_f e (by omega) (by omega), x_holds (show j < 24 by omega)]
        simp (disch := omega) only [ej_bi_s, ej_bl_s, ej_bv_s, ej_nm_e, L_0, ibI]
        cases hb : bt set j
        · simp only [Bool.false_eq_true, if_false]
          exact skip (fun z => by rw [hb] at z; cases z.2)
        · simp (disch := omega) only [if_true, ck_t, nI_clamp, x_holds (show j < 24 by omega), ej_bi_s, ej_bl_s, ej_bv_s, ej_nm_e, ibI]
          -- the state behind the turn
          have go : ∀ w, w = (if bt (gA σ 23 net) j = true then (if p < gM σ 1 net j then p else gM σ 1 net j) else p) → ∃ σ', m0_addMembers_117 n (m0_addMembers_43 n k) (nI net) set p (nI j) w (nI j) net σ = some σ' ∧ fr [] [] [23] [] [1] σ σ' ∧ (∀ a m, a < 24 → m < 24 → ¬ (a = net ∧ j ≤ m ∧ m < N ∧ m ≠ net ∧ bt set m = true) → bt (gA σ' 23 a) m = bt (gA σ 23 a) m ∧ gM σ' 1 a m = gM σ 1 a m) ∧ (∀ m, j ≤ m → m < N → m ≠ net → bt set m = true → bt (gA σ' 23 net) m = true ∧ gM σ' 1 net m = (if bt (gA σ 23 net) m = true then (if p < gM σ 1 net m then p else gM σ 1 net m) else p)) := by
            intro w hw
            have f0 : fr [] [] [23] [] [1] σ (uA (uM σ 1 net j w) 23 net (gA σ 23 net ||| stb j)) := fr_uA (fr_uM fr_rf (by simp)) (by simp)
            obtain ⟨σ', e1, f1, g1, g2⟩ := ih (j + 1) (uA (uM σ 1 net j w) 23 net (gA σ 23 net ||| stb j)) (by rw [f0.1 22 (by simp)]; exact h) (by omega) q1
            have s1 : ∀ a m, a < 24 → m < 24 → ¬ (a = net ∧ m = j) → bt (gA (uA (uM σ 1 net j w) 23 net (gA σ 23 net ||| stb j)) 23 a) m = bt (gA σ 23 a) m ∧ gM (uA (uM σ 1 net j w) 23 net (gA σ 23 net ||| stb j)) 1 a m = gM σ 1 a m := by
              intro a m ha hm hn
              simp (disch := omega) only [s_IJ, s_IA, s_IB, s_IM, s_JI, s_JA, s_JB, s_JM, s_AI, s_AJ, s_AB, s_AM, s_BI, s_BJ, s_BA, s_BM, s_MI, s_MJ, s_MA, s_MB, s_II_s, s_II_n, s_JJ_s, s_JJ_n, s_AA_s, s_AA_n, s_BB_s, s_BB_n, s_MM_s, s_MM_n, pk_us, pk_un, pk_uLs, pk_uLn]
              exact ⟨bt_upd hn hm (by omega) (fun i hi hij => by rw [bt_or _ (by omega) (by omega)]; simp [hij]), va_upd hn⟩
            refine ⟨σ', ?_, fr_tr f0 f1, ?_, ?_⟩
            · unfold m0_addMembers_117
              simp (disch := omega) only [ck_t, nI_clamp, ej_bi_s, ej_bl_s, ej_bv_s, ej_nm_e, x_setOf (show j < 24 by omega), s_IJ, s_IA, s_IB, s_IM, s_JI, s_JA, s_JB, s_JM, s_AI, s_AJ, s_AB, s_AM, s_BI, s_BJ, s_BA, s_BM, s_MI, s_MJ, s_MA, s_MB, s_II_s, s_II_n, s_JJ_s, s_JJ_n, s_AA_s, s_AA_n, s_BB_s, s_BB_n, s_MM_s, s_MM_n, pk_us, pk_un, pk_uLs, pk_uLn, L_1, nI_add]
              exact e1
            · intro a m ha hm hn
              obtain ⟨z1, z2⟩ := g1 a m ha hm (fun z => hn ⟨z.1, by omega, z.2.2⟩)
              obtain ⟨z3, z4⟩ := s1 a m ha hm (fun z => hn ⟨z.1, by omega, by omega, by omega, by rw [z.2]; exact hb⟩)
              exact ⟨z1.trans z3, z2.trans z4⟩
            · intro m z1 z2 z3 z4
              rcases Nat.eq_or_lt_of_le z1 with e2 | e2
              · subst e2
                obtain ⟨y1, y2⟩ := g1 net j hnet (by omega) (fun z => by omega)
                rw [y1, y2]
                simp (disch := omega) only [s_IJ, s_IA, s_IB, s_IM, s_JI, s_JA, s_JB, s_JM, s_AI, s_AJ, s_AB, s_AM, s_BI, s_BJ, s_BA, s_BM, s_MI, s_MJ, s_MA, s_MB, s_II_s, s_II_n, s_JJ_s, s_JJ_n, s_AA_s, s_AA_n, s_BB_s, s_BB_n, s_MM_s, s_MM_n, pk_us, pk_un, pk_uLs, pk_uLn]
                refine ⟨by rw [bt_or _ (by omega) (by omega)]; simp, ?_⟩
                rw [← hw]; exact va_us
              · obtain ⟨y1, y2⟩ := g2 m e2 z2 z3 z4
                obtain ⟨y3, y4⟩ := s1 net m hnet (by omega) (fun z => by omega)
                rw [y3, y4] at y2
                exact ⟨y1, y2⟩
          cases hk : bt (gA σ 23 net) j
          · simp only [Bool.false_eq_true, if_false]
            exact go p (by rw [hk]; rfl)
          · simp (disch := omega) only [if_true]
            exact go _ (by rw [hk]; rfl)
    · rw [ile_t q1 (by omega)]
      exact ⟨σ, rfl, fr_rf, fun _ _ _ _ _ => ⟨rfl, rfl⟩, fun m z1 z2 => by omega⟩
theorem x_addMembers (hn : 2000 < n) (h : wfC σ) (hx : ND x) (right : Bool) : ∃ σ', m0_addMembers n x set p (bI right) σ = some σ' ∧ fr [25, 26] [] [23] [] [1] σ σ' ∧ (∀ net N, x = nI net → gI σ 22 = nI N → N ≤ 24 → net < N → gI σ' 25 = (gI σ 25 ||| stb net) ∧ gI σ' 26 = (if right = true then gI σ 26 else (gI σ 26 ||| stb net)) ∧ (∀ a m, a < 24 → m < 24 → ¬ (a = net ∧ m < N ∧ m ≠ net ∧ bt set m = true) → bt (gA σ' 23 a) m = bt (gA σ 23 a) m ∧ gM σ' 1 a m = gM σ 1 a m) ∧ (∀ m, m < N → m ≠ net → bt set m = true → bt (gA σ' 23 net) m = true ∧ gM σ' 1 net m = (if bt (gA σ 23 net) m = true then (if p < gM σ 1 net m then p else gM σ 1 net m) else p))) := by
  obtain ⟨N, hN, h⟩ := h
  unfold m0_addMembers
  rcases hx with rfl | ⟨a, ha, rfl⟩
  · rw [x_has_m]
    simp (disch := omega) only [ej_bi_s, ej_bl_s, ej_bv_s, ej_nm_e, L_0, bI_f, ieq_t, if_true]
    exact ⟨σ, rfl, fr_rf, fun a N h1 h2 h3 h4 => absurd h1.symm (zm_ne (by omega))⟩
  · have h1 := x_has (n := n) h hN (show a < 2 ^ 31 by omega)
    rw [h1]
    rcases Nat.lt_or_ge a N with q | q
    · rw [decide_eq_true q]
      simp (disch := omega) only [ej_bi_s, ej_bl_s, ej_bv_s, ej_nm_e, L_0, bI_t, ieq_f, x_setOf ha, ibI, s_IJ, s_IA, s_IB, s_IM, s_JI, s_JA, s_JB, s_JM, s_AI, s_AJ, s_AB, s_AM, s_BI, s_BJ, s_BA, s_BM, s_MI, s_MJ, s_MA, s_MB, s_II_s, s_II_n, s_JJ_s, s_JJ_n, s_AA_s, s_AA_n, s_BB_s, s_BB_n, s_MM_s, s_MM_n, pk_us, pk_un, pk_uLs, pk_uLn]
      cases right
      · obtain ⟨σ', e1, f1, g1, g2⟩ := x_addMembers_43 (n := n) (set := set) (p := p) hN ha n 0 (uI (uI σ 25 (gI σ 25 ||| stb a)) 26 (gI σ 26 ||| stb a)) (by simp (disch := omega) only [s_IJ, s_IA, s_IB, s_IM, s_JI, s_JA, s_JB, s_JM, s_AI, s_AJ, s_AB, s_AM, s_BI, s_BJ, s_BA, s_BM, s_MI, s_MJ, s_MA, s_MB, s_II_s, s_II_n, s_JJ_s, s_JJ_n, s_AA_s, s_AA_n, s_BB_s, s_BB_n, s_MM_s, s_MM_n, pk_us, pk_un, pk_uLs, pk_uLn]; exact h) (by omega) (Nat.zero_le _)
        refine ⟨σ', ?_, fr_tr (fr_uI (fr_uI fr_rf (by simp)) (by simp)) (fr_wk f1 (by simp) (by simp) (by simp) (by simp) (by simp)), ?_⟩
        · simp only [Bool.false_eq_true, if_false]; exact e1
        · intro net N' z1 z2 z3 z4
          have ea := (nI_eq (show a < 2 ^ 31 by omega) (show net < 2 ^ 31 by omega)).mp z1
          have en : N = N' := (nI_eq (by omega) (by omega)).mp (h.symm.trans z2)
          subst ea en
          rw [f1.1 25 (by simp), f1.1 26 (by simp)]
          simp (disch := omega) only [s_IJ, s_IA, s_IB, s_IM, s_JI, s_JA, s_JB, s_JM, s_AI, s_AJ, s_AB, s_AM, s_BI, s_BJ, s_BA, s_BM, s_MI, s_MJ, s_MA, s_MB, s_II_s, s_II_n, s_JJ_s, s_JJ_n, s_AA_s, s_AA_n, s_BB_s, s_BB_n, s_MM_s, s_MM_n, pk_us, pk_un, pk_uLs, pk_uLn] at g1 g2 ⊢
          exact ⟨trivial, by simp, fun a m y1 y2 y3 => g1 a m y1 y2 (fun z => y3 ⟨z.1, z.2.2⟩), fun m y1 y2 y3 => g2 m (Nat.zero_le _) y1 y2 y3⟩
      · obtain ⟨σ', e1, f1, g1, g2⟩ := x_addMembers_43 (n := n) (set := set) (p := p) hN ha n 0 (uI σ 25 (gI σ 25 ||| stb a)) (by simp (disch := omega) only [s_IJ, s_IA, s_IB, s_IM, s_JI, s_JA, s_JB, s_JM, s_AI, s_AJ, s_AB, s_AM, s_BI, s_BJ, s_BA, s_BM, s_MI, s_MJ, s_MA, s_MB, s_II_s, s_II_n, s_JJ_s, s_JJ_n, s_AA_s, s_AA_n, s_BB_s, s_BB_n, s_MM_s, s_MM_n, pk_us, pk_un, pk_uLs, pk_uLn]; exact h) (by omega) (Nat.zero_le _)
        refine ⟨σ', ?_, fr_tr (fr_uI fr_rf (by simp)) (fr_wk f1 (by simp) (by simp) (by simp) (by simp) (by simp)), ?_⟩
        · simp only [if_true]; exact e1
        · intro net N' z1 z2 z3 z4
          have ea := (nI_eq (show a < 2 ^ 31 by omega) (show net < 2 ^ 31 by omega)).mp z1
          have en : N = N' := (nI_eq (by omega) (by omega)).mp (h.symm.trans z2)
          subst ea en
          rw [f1.1 25 (by simp), f1.1 26 (by simp)]
          simp (disch := omega) only [s_IJ, s_IA, s_IB, s_IM, s_JI, s_JA, s_JB, s_JM, s_AI, s_AJ, s_AB, s_AM, s_BI, s_BJ, s_BA, s_BM, s_MI, s_MJ, s_MA, s_MB, s_II_s, s_II_n, s_JJ_s, s_JJ_n, s_AA_s, s_AA_n, s_BB_s, s_BB_n, s_MM_s, s_MM_n, pk_us, pk_un, pk_uLs, pk_uLn] at g1 g2 ⊢
          exact ⟨trivial, by simp, fun a m y1 y2 y3 => g1 a m y1 y2 (fun z => y3 ⟨z.1, z.2.2⟩), fun m y1 y2 y3 => g2 m (Nat.zero_le _) y1 y2 y3⟩
    · rw [decide_eq_false (by omega)]
      simp (disch := omega) only [ej_bi_s, ej_bl_s, ej_bv_s, ej_nm_e, L_0, bI_f, ieq_t, if_true]
      refine ⟨σ, rfl, fr_rf, fun net N' z1 z2 z3 z4 => ?_⟩
      have ea := (nI_eq (show a < 2 ^ 31 by omega) (show net < 2 ^ 31 by omega)).mp z1
      have en : N = N' := (nI_eq (by omega) (by omega)).mp (h.symm.trans z2)
      omega
theorem r_holds_43 (hN : N ≤ 24) {net : Nat} (hnet : net < 24) : ∀ (k j : Nat) (σ : ej_S), gI σ 15 = nI N → N - j < k → j ≤ N → ∃ σ', m11_holds_43 n k (nI net) set p (nI j) σ = some σ' ∧ fr [] [] [20] [] [] σ σ' ∧ (∀ m, j ≤ m → m < N → m ≠ net → bt set m = true → (gA σ 20 (24 * m + net) = zm ∨ ¬ gA σ 20 (24 * m + net) ≤ p) → gA σ' 20 (24 * m + net) = p) ∧ (∀ i, ¬ (∃ m, j ≤ m ∧ m < N ∧ i = 24 * m + net ∧ m ≠ net ∧ bt set m = true ∧ (gA σ 20 (24 * m + net) = zm ∨ ¬ gA σ 20 (24 * m + net) ≤ p)) → gA σ' 20 i = gA σ 20 i) := by
  intro k
  induction k with
  | zero => intro j σ _ h1; omega
  | succ k ih =>
    intro j σ h h1 h2
    rw [u_11_holds_43, h]
    rcases Nat.lt_or_ge j N with q1 | q1
    · have skip : ¬ (j ≠ net ∧ bt set j = true ∧ (gA σ 20 (24 * j + net) = zm ∨ ¬ gA σ 20 (24 * j + net) ≤ p)) → ∃ σ', m11_holds_104 n (m11_holds_43 n k) (nI net) set p (nI j) (nI (24 * j + net)) (nI 0) σ = some σ' ∧ fr [] [] [20] [] [] σ σ' ∧ (∀ m, j ≤ m → m < N → m ≠ net → bt set m = true → (gA σ 20 (24 * m + net) = zm ∨ ¬ gA σ 20 (24 * m + net) ≤ p) → gA σ' 20 (24 * m + net) = p) ∧ (∀ i, ¬ (∃ m, j ≤ m ∧ m < N ∧ i = 24 * m + net ∧ m ≠ net ∧ bt set m = true ∧ (gA σ 20 (24 * m + net) = zm ∨ ¬ gA σ 20 (24 * m + net) ≤ p)) → gA σ' 20 i = gA σ 20 i) := by
        intro hno
        have f0 : fr [] [] [20] [] [] σ (uA σ 20 (24 * j + net) (gA σ 20 (24 * j + net))) := fr_uA fr_rf (by simp)
        have e20 : gA (uA σ 20 (24 * j + net) (gA σ 20 (24 * j + net))) 20 = gA σ 20 := by rw [s_AA_s]; exact fa_upd_same rfl
        obtain ⟨σ', e1, f1, g1, g2⟩ := ih (j + 1) (uA σ 20 (24 * j + net) (gA σ 20 (24 * j + net))) (by rw [f0.1 15 (by simp)]; exact h) (by omega) q1
        rw [e20] at g1 g2
        refine ⟨σ', ?_, fr_tr f0 f1, fun m z1 z2 z3 z4 z5 => g1 m ?_ z2 z3 z4 z5, fun i hi => g2 i (fun z => ?_)⟩
        · unfold m11_holds_104
          simp (disch := omega) only [L_0, ieq_t, if_true, ck_t, nI_clamp, ej_bi_s, ej_bl_s, ej_bv_s, ej_nm_e, L_1, nI_add]
          exact e1
        · rcases Nat.eq_or_lt_of_le z1 with e | e
          · subst e; exact absurd ⟨z3, z4, z5⟩ hno
          · exact e
        · obtain ⟨m, y1, y2⟩ := z
          exact hi ⟨m, by omega, y2⟩
      have sb : (set >>> (nI j &&& 31)) &&& 1 = 1 ↔ bt set j = true := by rw [and_1', sh_bt set (show j < 24 by omega)]
      simp (disch := omega) only [ile_f, L_24, pk_mul, nI_add, ej_bi_s, ej_bl_s, ej_bv_s, ej_nm_e, L_m1]
      by_cases hb : bt set j = true
      · rw [if_pos (sb.mpr hb)]
        by_cases e : j = net
        · subst e
          simp (disch := omega) only [ieq_t, if_true, L_0]
          exact skip (fun z => z.1 rfl)
        · rw [ieq_f e (by omega) (by omega)]
          simp (disch := omega) only [ck_t, nI_clamp]
          have take : (gA σ 20 (24 * j + net) = zm ∨ ¬ gA σ 20 (24 * j + net) ≤ p) → ∃ σ', m11_holds_104 n (m11_holds_43 n k) (nI net) set p (nI j) (nI (24 * j + net)) (nI 1) σ = some σ' ∧ fr [] [] [20] [] [] σ σ' ∧ (∀ m, j ≤ m → m < N → m ≠ net → bt set m = true → (gA σ 20 (24 * m + net) = zm ∨ ¬ gA σ 20 (24 * m + net) ≤ p) → gA σ' 20 (24 * m + net) = p) ∧ (∀ i, ¬ (∃ m, j ≤ m ∧ m < N ∧ i = 24 * m + net ∧ m ≠ net ∧ bt set m = true ∧ (gA σ 20 (24 * m + net) = zm ∨ ¬ gA σ 20 (24 * m + net) ≤ p)) → gA σ' 20 i = gA σ 20 i) := by
            intro hc
            have f0 : fr [] [] [20] [] [] σ (uA σ 20 (24 * j + net) p) := fr_uA fr_rf (by simp)
            have e20 : gA (uA σ 20 (24 * j + net) p) 20 = upd (gA σ 20) (24 * j + net) p := s_AA_s
            obtain ⟨σ', e1, f1, g1, g2⟩ := ih (j + 1) (uA σ 20 (24 * j + net) p) (by rw [f0.1 15 (by simp)]; exact h) (by omega) q1
            rw [e20] at g1 g2
            refine ⟨σ', ?_, fr_tr f0 f1, ?_, ?_⟩
            · unfold m11_holds_104
              simp (disch := omega) only [L_0, ieq_f, ck_t, nI_clamp, ej_bi_s, ej_bl_s, ej_bv_s, ej_nm_e, L_1, nI_add]
              exact e1
            · intro m z1 z2 z3 z4 z5
              rcases Nat.eq_or_lt_of_le z1 with e | e
              · subst e
                rw [g2 _ (fun z => by obtain ⟨m, y1, y2, y3, _⟩ := z; omega), pk_us]
              · exact g1 m e z2 z3 z4 (by rw [pk_un (show 24 * m + net ≠ 24 * j + net by omega)]; exact z5)
            · intro i hi
              have hij : i ≠ 24 * j + net := fun z => hi ⟨j, Nat.le_refl j, q1, z, e, hb, hc⟩
              rw [g2 i (fun z => by
                obtain ⟨m, y1, y2, y3, y4, y5, y6⟩ := z
                rw [pk_un (show 24 * m + net ≠ 24 * j + net by omega)] at y6
                exact hi ⟨m, by omega, y2, y3, y4, y5, y6⟩), pk_un hij]
          by_cases c1 : gA σ 20 (24 * j + net) = zm
          · rw [if_pos c1]; exact take (.inl c1)
          · rw [if_neg c1]
            by_cases c2 : gA σ 20 (24 * j + net) ≤ p
            · rw [if_pos c2]; exact skip (fun z => by rcases z.2.2 with w | w; exact c1 w; exact w c2)
            · rw [if_neg c2]; exact take (.inr c2)
      · rw [if_neg (fun z => hb (sb.mp z))]
        exact skip (fun z => hb z.2.1)
    · rw [ile_t q1 (by omega)]
      exact ⟨σ, rfl, fr_rf, fun m z1 z2 => by omega, fun _ _ => rfl⟩
theorem r_holds (hn : 2000 < n) (hw : gI σ 15 = nI N) (hN : N ≤ 24) {net : Nat} (hnet : net < 24) (hb : gI σ 6 = nI 1) (right : Bool) : ∃ σ', m11_holds n (nI net) set p (bI right) σ = some σ' ∧ fr [] [] [12, 13, 20] [] [] σ σ' ∧ gA σ' 12 = upd (gA σ 12) net (nI 1) ∧ gA σ' 13 = upd (gA σ 13) net (if gA σ 13 net = nI 0 then bI (!right) else nI 1) ∧ (∀ m, m < N → m ≠ net → bt set m = true → (gA σ 20 (24 * m + net) = zm ∨ ¬ gA σ 20 (24 * m + net) ≤ p) → gA σ' 20 (24 * m + net) = p) ∧ (∀ i, ¬ (∃ m, m < N ∧ i = 24 * m + net ∧ m ≠ net ∧ bt set m = true ∧ (gA σ 20 (24 * m + net) = zm ∨ ¬ gA σ 20 (24 * m + net) ≤ p)) → gA σ' 20 i = gA σ 20 i) := by
  have key : ∀ w, ∃ σ', m11_holds_43 n n (nI net) set p (nI 0) (uA (uA σ 12 net (nI 1)) 13 net w) = some σ' ∧ fr [] [] [12, 13, 20] [] [] σ σ' ∧ gA σ' 12 = upd (gA σ 12) net (nI 1) ∧ gA σ' 13 = upd (gA σ 13) net w ∧ (∀ m, m < N → m ≠ net → bt set m = true → (gA σ 20 (24 * m + net) = zm ∨ ¬ gA σ 20 (24 * m + net) ≤ p) → gA σ' 20 (24 * m + net) = p) ∧ (∀ i, ¬ (∃ m, m < N ∧ i = 24 * m + net ∧ m ≠ net ∧ bt set m = true ∧ (gA σ 20 (24 * m + net) = zm ∨ ¬ gA σ 20 (24 * m + net) ≤ p)) → gA σ' 20 i = gA σ 20 i) := by
    intro w
    have f0 : fr [] [] [12, 13] [] [] σ (uA (uA σ 12 net (nI 1)) 13 net w) := fr_uA (fr_uA fr_rf (by simp)) (by simp)
    obtain ⟨σ', e1, f1, g1, g2⟩ := r_holds_43 (n := n) (set := set) (p := p) hN hnet n 0 (uA (uA σ 12 net (nI 1)) 13 net w) (by rw [f0.1 15 (by simp)]; exact hw) (by omega) (Nat.zero_le _)
    rw [f0.2.2.1 20 (by simp)] at g1 g2
    refine ⟨σ', e1, fr_tr (fr_wk f0 (by simp) (by simp) (by simp) (by simp) (by simp)) (fr_wk f1 (by simp) (by simp) (by simp) (by simp) (by simp)), ?_, ?_, fun m z1 => g1 m (Nat.zero_le _) z1, fun i hi => g2 i (fun z => ?_)⟩
    · rw [f1.2.2.1 12 (by simp)]; simp (disch := omega) only [s_IJ, s_IA, s_IB, s_IM, s_JI, s_JA, s_JB, s_JM, s_AI, s_AJ, s_AB, s_AM, s_BI, s_BJ, s_BA, s_BM, s_MI, s_MJ, s_MA, s_MB, s_II_s, s_II_n, s_JJ_s, s_JJ_n, s_AA_s, s_AA_n, s_BB_s, s_BB_n, s_MM_s, s_MM_n, pk_us, pk_un, pk_uLs, pk_uLn]
    · rw [f1.2.2.1 13 (by simp)]; simp (disch := omega) only [s_IJ, s_IA, s_IB, s_IM, s_JI, s_JA, s_JB, s_JM, s_AI, s_AJ, s_AB, s_AM, s_BI, s_BJ, s_BA, s_BM, s_MI, s_MJ, s_MA, s_MB, s_II_s, s_II_n, s_JJ_s, s_JJ_n, s_AA_s, s_AA_n, s_BB_s, s_BB_n, s_MM_s, s_MM_n, pk_us, pk_un, pk_uLs, pk_uLn]
    · obtain ⟨m, y1, y2⟩ := z; exact hi ⟨m, y2⟩
  unfold m11_holds
  rw [hb]
  simp (disch := omega) only [L_0, ieq_f, ck_t, nI_clamp, ej_bi_s, ej_bl_s, ej_bv_s, ej_nm_e, L_1, bz_n1, bz_n0, s_IJ, s_IA, s_IB, s_IM, s_JI, s_JA, s_JB, s_JM, s_AI, s_AJ, s_AB, s_AM, s_BI, s_BJ, s_BA, s_BM, s_MI, s_MJ, s_MA, s_MB, s_II_s, s_II_n, s_JJ_s, s_JJ_n, s_AA_s, s_AA_n, s_BB_s, s_BB_n, s_MM_s, s_MM_n, pk_us, pk_un, pk_uLs, pk_uLn]
  by_cases e : gA σ 13 net = nI 0
  · rw [if_pos e, if_pos e]
    cases right
    · rw [bI_f, if_pos rfl]; exact key _
    · rw [bI_t, if_neg n10]; exact key _
  · rw [if_neg e, if_neg e]; exact key _
theorem r_holds0 {y : Int32} (hb : gI σ 6 = bI false) (right : Bool) : m11_holds n y set p (bI right) σ = some σ := by
  unfold m11_holds; rw [hb, L_0, bI_f, if_pos rfl]
end P65
