/-! MEMBERS, GATES, THE DEAD ARE TAKEN ALIKE -/
section P66
variable {n N q a c : Nat} {σ σc σr : ej_S} {x x1 x2 p set set' : Int32}
theorem rBit_or {x : Int32} {R : Nat → Int32} {w : Int32} {a : Nat} (h : rBit x R) (ha : a < 24) (hw : w ≠ nI 0) : rBit (x ||| stb a) (upd R a w) := by
  intro i hi
  rw [bt_or _ (by omega) (by omega), Bool.or_eq_true, decide_eq_true_eq]
  by_cases e : i = a
  · subst e; rw [pk_us]; exact ⟨fun _ => hw, fun _ => .inr rfl⟩
  · rw [pk_un e, h i hi]
    exact ⟨fun z => by rcases z with z | z; exact z; exact absurd z e, fun z => .inl z⟩
theorem rBit_same {x : Int32} {R : Nat → Int32} {w : Int32} {a : Nat} (h : rBit x R) (hw : w ≠ nI 0 ↔ R a ≠ nI 0) : rBit x (upd R a w) := by
  intro i hi
  by_cases e : i = a
  · subst e; rw [pk_us, hw]; exact h i hi
  · rw [pk_un e]; exact h i hi
theorem s_members (hn : 2000 < n) {b : Bool} (hm : MR b σc σr) (hb : gI σr 6 = bI b) (h1 : NR b x (nI a) σr) (ha : a < 24) (hs : b = true → gI σr 16 = nI 0 → set = set') (hq : q ≤ 1000000) (right : Bool) : ∃ σc' σr', m0_addMembers n x set (nI q) (bI right) σc = some σc' ∧ m11_holds n (nI a) set' (nI q) (bI right) σr = some σr' ∧ MR b σc' σr' ∧ fr [25, 26] [] [23] [] [1] σc σc' ∧ fr [] [] [12, 13, 20] [] [] σr σr' ∧ mono σr σr' := by
  obtain ⟨d1, a0, ha0, e1, g1⟩ := h1
  have := (nI_eq (show a < 2 ^ 31 by omega) (show a0 < 2 ^ 31 by omega)).mp e1
  subst this
  obtain ⟨σc', ec, fc, k1⟩ := x_addMembers (n := n) (set := set) (p := nI q) hn hm.1 d1 right
  cases b
  · exact ⟨σc', σr, ec, r_holds0 hb right, MR_mk hm (fc.1 22 (by simp)) (fc.1 23 (by simp)) rfl rfl (fun _ h => h) (fun z => by cases z), fc, fr_rf, mono_rf⟩
  · obtain ⟨hw, -, -⟩ := hm.2 rfl
    obtain ⟨N, h0, h1, h2, w1, w2, w3, w4, w5, w6, w7, w8⟩ := id hw
    have hN := NN_eq h1 h0
    have ga := g1 rfl
    rw [hN] at ga
    obtain ⟨σr', er, fr', p1, p2, p3, p4⟩ := r_holds (n := n) (set := set') (p := nI q) hn h1 h0 ha hb right
    have e15 := fr'.1 15 (by simp)
    have e16 := fr'.1 16 (by simp)
    refine ⟨σc', σr', ec, er, MR_mk hm (fc.1 22 (by simp)) (fc.1 23 (by simp)) e15 e16 (fun _ _ => ?_) (fun _ hf hr0 => ?_), fc, fr', mono_eq e15 e16⟩
    · refine ⟨N, h0, by rw [e15]; exact h1, by rw [e16]; exact h2, by rw [fr'.2.2.2.1 1 (by simp)]; exact w1, by rw [fr'.2.2.1 11 (by simp)]; exact w2, by rw [fr'.2.2.2.1 1 (by simp), fr'.2.2.1 11 (by simp)]; exact w3, by rw [fr'.2.2.1 16 (by simp)]; exact w4, ?_, by rw [fr'.2.2.1 16 (by simp)]; exact w6, by rw [fr'.2.2.1 19 (by simp)]; exact w7, ?_⟩
      · intro i hi
        by_cases e : ∃ m, m < N ∧ i = 24 * m + a ∧ m ≠ a ∧ bt set' m = true ∧ (gA σr 20 (24 * m + a) = zm ∨ ¬ gA σr 20 (24 * m + a) ≤ nI q)
        · obtain ⟨m, y1, y2, y3, y4, y5⟩ := e
          rw [y2, p3 m y1 y3 y4 y5]; exact .inr ⟨q, hq, rfl⟩
        · rw [p4 i e]; exact w5 i hi
      · refine ⟨fun a' c' z1 z2 z3 => ?_, fun a' m z1 z2 z3 => ?_⟩
        · rw [p4 _ (fun e => by
            obtain ⟨m, y1, y2, y3, y4, y5⟩ := e
            have := (idx z2 ha).mp y2
            omega)]
          exact w8.1 a' c' z1 z2 z3
        · rw [p1]
          by_cases e : a' = a
          · subst e; rw [pk_us]; exact n10
          · rw [pk_un e]
            refine w8.2 a' m z1 z2 ?_
            rw [← p4 (24 * m + a') (fun w => by
              obtain ⟨m', y1, y2, y3, y4, y5⟩ := w
              have := (idx z1 ha).mp y2
              omega)]
            exact z3
    · obtain ⟨c1, c2, c3, c4, c5, c6, c7, c8, c9, c10, c11, c12, c13⟩ := hr0
      obtain ⟨t1, t2, t3, t4⟩ := k1 a N (ga.2 hf) (by rw [c1, h1]) h0 ga.1
      have hss := hs rfl hf
      subst hss
      unfold relC NN
      rw [e15, fc.1 22 (by simp), fc.1 23 (by simp), fc.2.2.2.1 1 (by simp), fc.2.2.1 18 (by simp), fc.1 24 (by simp), t1, t2, fc.1 27 (by simp), fc.1 28 (by simp), fc.2.2.1 19 (by simp), fc.2.2.1 20 (by simp), fc.2.2.1 21 (by simp), fc.2.2.1 22 (by simp), fc.2.2.2.2 0 (by simp), fr'.2.2.2.1 1 (by simp), fr'.2.2.1 11 (by simp), p1, p2, fr'.2.2.1 14 (by simp), fr'.2.2.1 15 (by simp), fr'.2.2.1 16 (by simp), fr'.2.2.1 17 (by simp), fr'.2.2.1 18 (by simp), fr'.2.2.1 19 (by simp)]
      refine ⟨c1, c2, c3, c4, c5, rBit_or c6 ha n10, ?_, c8, c9, c10, c11, c12, ?_⟩
      · cases right
        · simp only [Bool.false_eq_true, if_false]
          refine rBit_or c7 ha ?_
          split
          · exact n10
          · exact n10
        · simp only [if_true]
          refine rBit_same c7 ?_
          by_cases e : gA σr 13 a = nI 0
          · rw [if_pos e, e]; exact Iff.rfl
          · rw [if_neg e]; exact ⟨fun _ => e, fun _ => n10⟩
      · intro a' c' z1 z2
        have hR := c13 a' c' z1 z2
        by_cases e : a' = a ∧ c' < N ∧ c' ≠ a ∧ bt set c' = true
        · obtain ⟨rfl, y1, y2, y3⟩ := e
          obtain ⟨s1, s2⟩ := t4 c' y1 y2 y3
          by_cases e2 : gA σr 20 (24 * c' + a') = zm ∨ ¬ gA σr 20 (24 * c' + a') ≤ nI q
          · rw [p3 c' y1 y2 y3 e2]
            refine ⟨⟨fun _ => zm_ne (by omega), fun _ => s1⟩, fun _ => ?_⟩
            rw [s2]
            by_cases k : bt (gA σc 23 a') c' = true
            · have r1 := hR.1.mp k
              rw [if_pos k, hR.2 r1]
              rcases e2 with w | w
              · exact absurd w r1
              · rw [if_pos (by rw [Int32.lt_iff_toInt_lt]; rw [Int32.le_iff_toInt_le] at w; omega)]
            · rw [if_neg k]
          · have hR0 : gA σr 20 (24 * c' + a') ≠ zm := fun w => e2 (.inl w)
            have hle : gA σr 20 (24 * c' + a') ≤ nI q := Classical.byContradiction fun w => e2 (.inr w)
            rw [p4 _ (fun w => by
              obtain ⟨m, v1, v2, v3, v4, v5⟩ := w
              have := (idx (a := c') (c := a') (a' := m) (c' := a') ha ha).mp v2
              rw [← this.1] at v5
              exact e2 v5)]
            refine ⟨⟨fun _ => hR0, fun _ => s1⟩, fun _ => ?_⟩
            rw [s2, if_pos (hR.1.mpr hR0), hR.2 hR0, if_neg (by rw [Int32.lt_iff_toInt_lt]; rw [Int32.le_iff_toInt_le] at hle; omega)]
        · obtain ⟨s1, s2⟩ := t3 a' c' z1 z2 e
          rw [s1, s2, p4 _ (fun w => by
            obtain ⟨m, v1, v2, v3, v4, v5⟩ := w
            have := (idx (a := c') (c := a') (a' := m) (c' := a) z1 ha).mp v2
            exact e ⟨this.2, by omega, by omega, by rw [this.1]; exact v4⟩)]
          exact hR
/-! items of lists -/
theorem r_item (w : Int64) (ha : a < 24) {b : Bool} (hb : gI σ 6 = bI b) : m11_isItem_58 n w (nI a) σ = some (nI 1, uA (uA σ 14 a (bI (decide (gA σ 14 a ≠ nI 0) || (b && decide (w = 1684104548))))) 15 a (bI (decide (gA σ 15 a ≠ nI 0) || (b && decide (w = 431198855527))))) := by
  have e92 : ∀ d : Bool, m11_isItem_92 n w (nI a) (bI d) (nI a) σ = some (nI 1, uA (uA σ 14 a (bI d)) 15 a (bI (decide (gA σ 15 a ≠ nI 0) || (b && decide (w = 431198855527))))) := by
    intro d
    unfold m11_isItem_92
    simp (disch := omega) only [ck_t, nI_clamp, ej_bi_s, ej_bl_s, ej_bv_s, ej_nm_e, s_IJ, s_IA, s_IB, s_IM, s_JI, s_JA, s_JB, s_JM, s_AI, s_AJ, s_AB, s_AM, s_BI, s_BJ, s_BA, s_BM, s_MI, s_MJ, s_MA, s_MB, s_II_s, s_II_n, s_JJ_s, s_JJ_n, s_AA_s, s_AA_n, s_BB_s, s_BB_n, s_MM_s, s_MM_n, pk_us, pk_un, pk_uLs, pk_uLn, L_0, L_1, bz_b, bz_n0, bz_n1, hb]
    by_cases e : gA σ 15 a = nI 0
    · cases b
      · simp [e, bI]
      · by_cases g : w = 431198855527
        · subst g
          have : lg_cmp 431198855527 431198855527 = nI 0 := (cmp_eq _ _).mpr rfl
          simp [e, this, bI, n10]
        · have : ¬ lg_cmp w 431198855527 = nI 0 := fun z => g ((cmp_eq _ _).mp z)
          simp [e, this, g, bI, n10]
    · simp [e, bI]
  unfold m11_isItem_58
  simp (disch := omega) only [ck_t, nI_clamp, L_0, L_1, hb]
  by_cases e : gA σ 14 a = nI 0
  · cases b
    · have := e92 false
      rw [bI_f] at this
      simp [e, bI_f, this]
    · by_cases g : w = 1684104548
      · subst g
        have h1 : lg_cmp 1684104548 1684104548 = nI 0 := (cmp_eq _ _).mpr rfl
        have := e92 true
        rw [bI_t] at this
        simp [e, bI_t, n10, h1, this]
      · have h1 : ¬ lg_cmp w 1684104548 = nI 0 := fun z => g ((cmp_eq _ _).mp z)
        have := e92 false
        rw [bI_f] at this
        simp [e, bI_t, bI_f, n10, h1, this, g]
  · have := e92 true
    rw [bI_t] at this
    simp [e, bI_t, this]
theorem x_gate (hx : ND x) : ∃ σ', m0_gate n x σ = some σ' ∧ fr [27] [] [] [] [] σ σ' ∧ (∀ a, x = nI a → a < 24 → gI σ' 27 = (gI σ 27 ||| stb a)) := by
  unfold m0_gate
  rcases hx with rfl | ⟨a, ha, rfl⟩
  · rw [x_setOf_m]
    exact ⟨_, rfl, fr_uI fr_rf (by simp), fun a h1 h2 => absurd h1.symm (zm_ne (by omega))⟩
  · rw [x_setOf ha]
    refine ⟨_, rfl, fr_uI fr_rf (by simp), fun a' h1 h2 => ?_⟩
    have := (nI_eq (show a < 2 ^ 31 by omega) (show a' < 2 ^ 31 by omega)).mp h1
    rw [this]; exact s_II_s
theorem x_kill (hx : ND x) : ∃ σ', m0_kill n x σ = some σ' ∧ fr [28] [] [] [] [] σ σ' ∧ (∀ a, x = nI a → a < 24 → gI σ' 28 = (gI σ 28 ||| stb a)) := by
  unfold m0_kill
  rcases hx with rfl | ⟨a, ha, rfl⟩
  · rw [x_setOf_m]
    exact ⟨_, rfl, fr_uI fr_rf (by simp), fun a h1 h2 => absurd h1.symm (zm_ne (by omega))⟩
  · rw [x_setOf ha]
    refine ⟨_, rfl, fr_uI fr_rf (by simp), fun a' h1 h2 => ?_⟩
    have := (nI_eq (show a < 2 ^ 31 by omega) (show a' < 2 ^ 31 by omega)).mp h1
    rw [this]; exact s_II_s
theorem x_killLink (h : wfC σ) (hx : ND x1) (hy : ND x2) : ∃ σ', m0_killLink n x1 x2 σ = some σ' ∧ fr [] [] [22] [] [] σ σ' ∧ (∀ a c N, x1 = nI a → x2 = nI c → gI σ 22 = nI N → N ≤ 24 → a < N → c < 24 → ∀ a' c', a' < 24 → c' < 24 → (bt (gA σ' 22 a') c' = true ↔ bt (gA σ 22 a') c' = true ∨ (a' = a ∧ c' = c))) := by
  obtain ⟨N, hN, h⟩ := h
  unfold m0_killLink
  rcases hx with rfl | ⟨a, ha, rfl⟩
  · rw [x_has_m]
    simp (disch := omega) only [ej_bi_s, ej_bl_s, ej_bv_s, ej_nm_e, L_0, bI_f, ieq_t, if_true]
    exact ⟨σ, rfl, fr_rf, fun a c N h1 h2 h3 h4 h5 => absurd h1.symm (zm_ne (by omega))⟩
  · rw [x_has (n := n) h hN (show a < 2 ^ 31 by omega)]
    rcases Nat.lt_or_ge a N with q | q
    · rw [decide_eq_true q]
      simp (disch := omega) only [ej_bi_s, ej_bl_s, ej_bv_s, ej_nm_e, L_0, bI_t, ieq_f, ck_t, nI_clamp]
      rcases hy with rfl | ⟨c, hc, rfl⟩
      · rw [x_setOf_m]
        exact ⟨_, rfl, fr_uA fr_rf (by simp), fun a' c' N' h1 h2 h3 h4 h5 h6 => absurd h2.symm (zm_ne (by omega))⟩
      · rw [x_setOf hc]
        refine ⟨_, rfl, fr_uA fr_rf (by simp), fun a0 c0 N0 h1 h2 h3 h4 h5 h6 a' c' z1 z2 => ?_⟩
        have ea := (nI_eq (show a < 2 ^ 31 by omega) (show a0 < 2 ^ 31 by omega)).mp h1
        have eq := (nI_eq (show c < 2 ^ 31 by omega) (show c0 < 2 ^ 31 by omega)).mp h2
        subst ea eq
        rw [s_AA_s]
        by_cases e : a' = a
        · subst e
          rw [pk_us, bt_or _ (by omega) (by omega), Bool.or_eq_true, decide_eq_true_eq]
          constructor
          · rintro (w | w)
            · exact .inl w
            · exact .inr ⟨rfl, w⟩
          · rintro (w | w)
            · exact .inl w
            · exact .inr w.2
        · rw [pk_un e]
          constructor
          · exact fun w => .inl w
          · rintro (w | w)
            · exact w
            · exact absurd w.1 e
    · rw [decide_eq_false (by omega)]
      simp (disch := omega) only [ej_bi_s, ej_bl_s, ej_bv_s, ej_nm_e, L_0, bI_f, ieq_t, if_true]
      refine ⟨σ, rfl, fr_rf, fun a0 c0 N0 h1 h2 h3 h4 h5 => ?_⟩
      have ea := (nI_eq (show a < 2 ^ 31 by omega) (show a0 < 2 ^ 31 by omega)).mp h1
      have en : N = N0 := (nI_eq (by omega) (by omega)).mp (h.symm.trans h3)
      omega
/-- an item: 2 private, 3 gated, 1 dead -/
theorem s_item58 {b : Bool} {w : Int64} (hm : MR b σc σr) (hb : gI σr 6 = bI b) (h1 : NR b x (nI a) σr) (ha : a < 24) (k : Nat) (hk : (k = 1 ∧ w = 1684104548) ∨ (k = 3 ∧ w = 431198855527) ∨ (k = 2 ∧ w = 28556934595048048)) : ∃ σc' σr', (if k = 1 then m0_kill n x σc else if k = 3 then m0_gate n x σc else some σc) = some σc' ∧ m11_isItem_58 n w (nI a) σr = some (nI 1, σr') ∧ MR b σc' σr' ∧ fr [27, 28] [] [] [] [] σc σc' ∧ fr [] [] [14, 15] [] [] σr σr' ∧ mono σr σr' := by
  obtain ⟨d1, a0, ha0, e1, g1⟩ := h1
  have := (nI_eq (show a < 2 ^ 31 by omega) (show a0 < 2 ^ 31 by omega)).mp e1
  subst this
  have er := r_item (n := n) (σ := σr) w ha hb
  generalize hd : (decide (gA σr 14 a ≠ nI 0) || (b && decide (w = 1684104548))) = d at er
  generalize hg : (decide (gA σr 15 a ≠ nI 0) || (b && decide (w = 431198855527))) = g at er
  have fr' : fr [] [] [14, 15] [] [] σr (uA (uA σr 14 a (bI d)) 15 a (bI g)) := fr_uA (fr_uA fr_rf (by simp)) (by simp)
  have e14 : gA (uA (uA σr 14 a (bI d)) 15 a (bI g)) 14 = upd (gA σr 14) a (bI d) := by simp (disch := omega) only [s_IJ, s_IA, s_IB, s_IM, s_JI, s_JA, s_JB, s_JM, s_AI, s_AJ, s_AB, s_AM, s_BI, s_BJ, s_BA, s_BM, s_MI, s_MJ, s_MA, s_MB, s_II_s, s_II_n, s_JJ_s, s_JJ_n, s_AA_s, s_AA_n, s_BB_s, s_BB_n, s_MM_s, s_MM_n, pk_us, pk_un, pk_uLs, pk_uLn]
  have e15' : gA (uA (uA σr 14 a (bI d)) 15 a (bI g)) 15 = upd (gA σr 15) a (bI g) := by simp (disch := omega) only [s_IJ, s_IA, s_IB, s_IM, s_JI, s_JA, s_JB, s_JM, s_AI, s_AJ, s_AB, s_AM, s_BI, s_BJ, s_BA, s_BM, s_MI, s_MJ, s_MA, s_MB, s_II_s, s_II_n, s_JJ_s, s_JJ_n, s_AA_s, s_AA_n, s_BB_s, s_BB_n, s_MM_s, s_MM_n, pk_us, pk_un, pk_uLs, pk_uLn]
  have hwf : b = true → wfR σr → wfR (uA (uA σr 14 a (bI d)) 15 a (bI g)) := fun _ h => h
  have fin : ∀ σc', (if k = 1 then m0_kill n x σc else if k = 3 then m0_gate n x σc else some σc) = some σc' → fr [27, 28] [] [] [] [] σc σc' → (b = true → gI σr 16 = nI 0 → x = nI a → rBit (gI σc 27) (gA σr 15) → rBit (gI σc 28) (gA σr 14) → rBit (gI σc' 27) (upd (gA σr 15) a (bI g)) ∧ rBit (gI σc' 28) (upd (gA σr 14) a (bI d))) → ∃ σc' σr', (if k = 1 then m0_kill n x σc else if k = 3 then m0_gate n x σc else some σc) = some σc' ∧ m11_isItem_58 n w (nI a) σr = some (nI 1, σr') ∧ MR b σc' σr' ∧ fr [27, 28] [] [] [] [] σc σc' ∧ fr [] [] [14, 15] [] [] σr σr' ∧ mono σr σr' := by
    intro σc' ec fc hr
    refine ⟨σc', _, ec, er, MR_mk hm (fc.1 22 (by simp)) (fc.1 23 (by simp)) rfl rfl hwf (fun z hf hr0 => ?_), fc, fr', mono_rf⟩
    obtain ⟨c1, c2, c3, c4, c5, c6, c7, c8, c9, c10, c11, c12, c13⟩ := hr0
    obtain ⟨r1, r2⟩ := hr z hf ((g1 z).2 hf) c8 c9
    unfold relC NN
    rw [fc.1 22 (by simp), fc.1 23 (by simp), fc.2.2.2.1 1 (by simp), fc.2.2.1 18 (by simp), fc.1 24 (by simp), fc.1 25 (by simp), fc.1 26 (by simp), fc.2.2.1 19 (by simp), fc.2.2.1 20 (by simp), fc.2.2.1 21 (by simp), fc.2.2.1 22 (by simp), fc.2.2.1 23 (by simp), fc.2.2.2.2 0 (by simp), fc.2.2.2.2 1 (by simp), e14, e15', fr'.1 15 (by simp), fr'.2.2.2.1 1 (by simp), fr'.2.2.1 11 (by simp), fr'.2.2.1 12 (by simp), fr'.2.2.1 13 (by simp), fr'.2.2.1 16 (by simp), fr'.2.2.1 17 (by simp), fr'.2.2.1 18 (by simp), fr'.2.2.1 19 (by simp), fr'.2.2.1 20 (by simp)]
    exact ⟨c1, c2, c3, c4, c5, c6, c7, r1, r2, c10, c11, c12, c13⟩
  have w1 : (1684104548 : Int64) ≠ 431198855527 := by decide
  have w2 : (28556934595048048 : Int64) ≠ 431198855527 := by decide
  have w3 : (28556934595048048 : Int64) ≠ 1684104548 := by decide
  have keepd : decide (w = 1684104548) = false → ∀ y, rBit y (gA σr 14) → rBit y (upd (gA σr 14) a (bI d)) := by
    intro z y h
    refine rBit_same h ?_
    rw [← hd, z, Bool.and_false, Bool.or_false, bI_ne, decide_eq_true_eq]
  have keepg : decide (w = 431198855527) = false → ∀ y, rBit y (gA σr 15) → rBit y (upd (gA σr 15) a (bI g)) := by
    intro z y h
    refine rBit_same h ?_
    rw [← hg, z, Bool.and_false, Bool.or_false, bI_ne, decide_eq_true_eq]
  rcases hk with ⟨rfl, rfl⟩ | ⟨rfl, rfl⟩ | ⟨rfl, rfl⟩
  · obtain ⟨σc', ec, fc, k1⟩ := x_kill (n := n) (σ := σc) d1
    refine fin σc' ec (fr_wk fc (by simp) (by simp) (by simp) (by simp) (by simp)) (fun z hf hx h27 h28 => ⟨?_, ?_⟩)
    · rw [fc.1 27 (by simp)]; exact keepg (decide_eq_false w1) _ h27
    · rw [k1 a hx ha]
      refine rBit_or h28 ha ?_
      rw [← hd, z, bI_ne]; simp
  · obtain ⟨σc', ec, fc, k1⟩ := x_gate (n := n) (σ := σc) d1
    refine fin σc' ec (fr_wk fc (by simp) (by simp) (by simp) (by simp) (by simp)) (fun z hf hx h27 h28 => ⟨?_, ?_⟩)
    · rw [k1 a hx ha]
      refine rBit_or h27 ha ?_
      rw [← hg, z, bI_ne]; simp
    · rw [fc.1 28 (by simp)]; exact keepd (decide_eq_false (Ne.symm w1)) _ h28
  · exact fin σc rfl fr_rf (fun z hf hx h27 h28 => ⟨keepg (decide_eq_false w2) _ h27, keepd (decide_eq_false w3) _ h28⟩)
/-- a dead link -/
def rDl (b : Bool) (i : Nat) (σ : ej_S) : ej_S := uA σ 18 i (bI (decide (gA σ 18 i ≠ nI 0) || b))
theorem s_killLink {b : Bool} (hm : MR b σc σr) (h1 : NR b x1 (nI a) σr) (h2 : NR b x2 (nI c) σr) (ha : a < 24) (hc : c < 24) : ∃ σc', m0_killLink n x1 x2 σc = some σc' ∧ MR b σc' (rDl b (24 * a + c) σr) ∧ fr [] [] [22] [] [] σc σc' ∧ fr [] [] [18] [] [] σr (rDl b (24 * a + c) σr) ∧ mono σr (rDl b (24 * a + c) σr) := by
  obtain ⟨d1, a0, ha0, e1, g1⟩ := h1
  obtain ⟨d2, c0, hc0, e2, g2⟩ := h2
  have := (nI_eq (show a < 2 ^ 31 by omega) (show a0 < 2 ^ 31 by omega)).mp e1
  subst this
  have := (nI_eq (show c < 2 ^ 31 by omega) (show c0 < 2 ^ 31 by omega)).mp e2
  subst this
  obtain ⟨σc', ec, fc, k1⟩ := x_killLink (n := n) hm.1 d1 d2
  have fr' : fr [] [] [18] [] [] σr (rDl b (24 * a + c) σr) := fr_uA fr_rf (by simp)
  refine ⟨σc', ec, MR_mk hm (fc.1 22 (by simp)) (fc.1 23 (by simp)) rfl rfl (fun _ h => h) (fun z hf hr0 => ?_), fc, fr', mono_rf⟩
  have ga := g1 z
  have gc := g2 z
  obtain ⟨N, h0, h1, -⟩ := (hm.2 z).1
  have hN := NN_eq h1 h0
  rw [hN] at ga gc
  obtain ⟨c1, c2, c3, c4, c5, c6, c7, c8, c9, c10, c11, c12, c13⟩ := hr0
  unfold relC NN
  rw [fc.1 22 (by simp), fc.1 23 (by simp), fc.2.2.2.1 1 (by simp), fc.2.2.1 18 (by simp), fc.1 24 (by simp), fc.1 25 (by simp), fc.1 26 (by simp), fc.1 27 (by simp), fc.1 28 (by simp), fc.2.2.1 19 (by simp), fc.2.2.1 20 (by simp), fc.2.2.1 21 (by simp), fc.2.2.1 23 (by simp), fc.2.2.2.2 0 (by simp), fc.2.2.2.2 1 (by simp), fr'.1 15 (by simp), fr'.2.2.2.1 1 (by simp), fr'.2.2.1 11 (by simp), fr'.2.2.1 12 (by simp), fr'.2.2.1 13 (by simp), fr'.2.2.1 14 (by simp), fr'.2.2.1 15 (by simp), fr'.2.2.1 16 (by simp), fr'.2.2.1 17 (by simp), fr'.2.2.1 19 (by simp), fr'.2.2.1 20 (by simp)]
  refine ⟨c1, c2, c3, c4, c5, c6, c7, c8, c9, c10, c11, ?_, c13⟩
  have e18 : gA (rDl b (24 * a + c) σr) 18 = upd (gA σr 18) (24 * a + c) (bI (decide (gA σr 18 (24 * a + c) ≠ nI 0) || b)) := s_AA_s
  rw [e18]
  intro a' c' z1 z2
  rw [k1 a c N (ga.2 hf) (gc.2 hf) (by rw [c1, h1]) h0 ga.1 hc a' c' z1 z2, c12 a' c' z1 z2]
  have i1 := idx (a := a') (c := c') (a' := a) (c' := c) z2 hc
  by_cases e : 24 * a' + c' = 24 * a + c
  · rw [e, pk_us, z]
    refine ⟨fun _ => by rw [bI_ne]; simp, fun _ => .inr (i1.mp e)⟩
  · rw [pk_un e]
    exact ⟨fun w => by rcases w with w | w; exact w; exact absurd (i1.mpr w) e, fun w => .inl w⟩
end P66
