/-! LINKS AND ALIASES ARE TAKEN ALIKE -/
theorem n01 : ¬ nI 0 = nI 1 := by decide +kernel
theorem n10 : ¬ nI 1 = nI 0 := by decide +kernel
theorem bI_ne {b : Bool} : bI b ≠ nI 0 ↔ b = true := by cases b <;> decide +kernel
theorem idx {a c a' c' : Nat} (h1 : c < 24) (h2 : c' < 24) : 24 * a + c = 24 * a' + c' ↔ a = a' ∧ c = c' := by omega
theorem wfR_fl {σ : ej_S} (h : wfR σ) : gI σ 16 = nI 0 ∨ gI σ 16 = nI 1 := by obtain ⟨_, _, _, h, _⟩ := h; exact h
theorem MR_fl1 {b : Bool} {σc σr : ej_S} (h : MR b σc σr) (hb : b = true) (h1 : gI σr 16 = nI 1) : gI σc 23 = nI 1 ∧ gI σc 22 = nI 24 ∧ gI σr 15 = nI 24 := (h.2 hb).2.2 h1
/-- a map whose sizes and flags stay -/
theorem MR_mk {b : Bool} {σc σr σc' σr' : ej_S} (h : MR b σc σr) (e1 : gI σc' 22 = gI σc 22) (e2 : gI σc' 23 = gI σc 23) (e3 : gI σr' 15 = gI σr 15) (e4 : gI σr' 16 = gI σr 16) (hw : b = true → wfR σr → wfR σr') (hr : b = true → gI σr 16 = nI 0 → relC σc σr → relC σc' σr') : MR b σc' σr' := by
  obtain ⟨⟨N, h1, h2⟩, h3⟩ := h
  refine ⟨⟨N, h1, by rw [e1]; exact h2⟩, fun z => ?_⟩
  obtain ⟨a1, a2, a3⟩ := h3 z
  refine ⟨hw z a1, fun g => ?_, fun g => ?_⟩
  · rw [e4] at g; exact hr z g (a2 g)
  · rw [e4] at g
    rw [e1, e2, e3]; exact a3 g
theorem mono_eq {σ s : ej_S} (e3 : gI s 15 = gI σ 15) (e4 : gI s 16 = gI σ 16) : mono σ s := by
  unfold mono NN; rw [e3, e4]; exact ⟨Nat.le_refl _, fun h => h⟩
theorem wPr_upd {R : Nat → Int32} (h : wPr R) {i q : Nat} (hq : q ≤ 1000000) : wPr (upd R i (nI q)) := by
  intro x hx
  by_cases g : x = i
  · subst g; rw [pk_us]; exact .inr ⟨q, hq, rfl⟩
  · rw [pk_un g]; exact h x hx
theorem wLim_upd {N : Nat} {R : Nat → Int32} {d w : Int32} (h : wLim N R d) {a c : Nat} (ha : a < N) (hc : c < N) (hN : N ≤ 24) (hne : a ≠ c) : wLim N (upd R (24 * a + c) w) d := by
  intro a' c' h1 h2 h3
  rw [pk_un (fun z => by have := (idx h2 (by omega)).mp z; omega)]
  exact h a' c' h1 h2 h3
section P64
variable {n q : Nat} {σ σc σr : ej_S} {x1 x2 y1 y2 p : Int32}
theorem x_addLink_eq {a : Nat} (h : wfC σ) (ha : a < 24) (right : Bool) : m0_addLink n (nI a) (nI a) p (bI right) σ = some σ := by
  obtain ⟨N, hN, h⟩ := h
  have h1 := x_has (n := n) h hN (show a < 2 ^ 31 by omega)
  unfold m0_addLink
  rw [h1]
  simp (disch := omega) only [ej_bi_s, ej_bl_s, ej_bv_s, ej_nm_e, L_0, ibI, h1]
  cases decide (a < N) <;> simp
theorem s_link {b : Bool} (hm : MR b σc σr) (hb : gI σr 6 = bI b) (h1 : NR b x1 y1 σr) (h2 : NR b x2 y2 σr) (hq : q ≤ 1000000) (right : Bool) : ∃ σc' σr', m0_addLink n x1 x2 (nI q) (bI right) σc = some σc' ∧ m11_links n y1 y2 (nI q) (bI right) σr = some σr' ∧ MR b σc' σr' ∧ fr [] [] [20, 21] [] [0] σc σc' ∧ fr [] [] [16, 17] [] [] σr σr' ∧ mono σr σr' := by
  obtain ⟨d1, a, ha, rfl, g1⟩ := h1
  obtain ⟨d2, c, hc, rfl, g2⟩ := h2
  obtain ⟨σr', er, hr⟩ := r_links (n := n) (σ := σr) (p := nI q) ha hc right b hb
  have fr' : fr [] [] [16, 17] [] [] σr σr' := by
    rcases hr with ⟨_, _, _, e⟩ | ⟨_, e⟩
    · rw [e]; exact fr_uA (fr_uA fr_rf (by simp)) (by simp)
    · rw [e]; exact fr_rf
  have e15 := fr'.1 15 (by simp)
  have e16 := fr'.1 16 (by simp)
  have hw' : b = true → wfR σr → wfR σr' := by
    intro z hw
    rcases hr with ⟨_, hne, _, e⟩ | ⟨_, e⟩
    · obtain ⟨N, h0, h1, h2, w1, w2, w3, w4, w5, w6, w7, w8⟩ := hw
      have hN := NN_eq h1 h0
      have ga := (g1 z).1
      have gc := (g2 z).1
      rw [hN] at ga gc
      have e16' : gA σr' 16 = upd (gA σr 16) (24 * a + c) (nI q) := by rw [e]; simp (disch := omega) only [s_IJ, s_IA, s_IB, s_IM, s_JI, s_JA, s_JB, s_JM, s_AI, s_AJ, s_AB, s_AM, s_BI, s_BJ, s_BA, s_BM, s_MI, s_MJ, s_MA, s_MB, s_II_s, s_II_n, s_JJ_s, s_JJ_n, s_AA_s, s_AA_n, s_BB_s, s_BB_n, s_MM_s, s_MM_n, pk_us, pk_un, pk_uLs, pk_uLn]
      refine ⟨N, h0, by rw [e15]; exact h1, by rw [e16]; exact h2, by rw [fr'.2.2.2.1 1 (by simp)]; exact w1, by rw [fr'.2.2.1 11 (by simp)]; exact w2, by rw [fr'.2.2.2.1 1 (by simp), fr'.2.2.1 11 (by simp)]; exact w3, ?_, by rw [fr'.2.2.1 20 (by simp)]; exact w5, ?_, by rw [fr'.2.2.1 19 (by simp)]; exact w7, by rw [fr'.2.2.1 12 (by simp), fr'.2.2.1 20 (by simp)]; exact w8⟩
      · rw [e16']; exact wPr_upd w4 hq
      · rw [e16']; exact wLim_upd w6 ga gc h0 hne
    · rw [e]; exact hw
  have other : (b = true → ¬ gI σr 16 = nI 0) → ∃ σc' σr', m0_addLink n x1 x2 (nI q) (bI right) σc = some σc' ∧ m11_links n (nI a) (nI c) (nI q) (bI right) σr = some σr' ∧ MR b σc' σr' ∧ fr [] [] [20, 21] [] [0] σc σc' ∧ fr [] [] [16, 17] [] [] σr σr' ∧ mono σr σr' := by
    intro hno
    obtain ⟨σc', ec, fc⟩ := x_addLink_any (n := n) (p := nI q) hm.1 d1 d2 right
    exact ⟨σc', σr', ec, er, MR_mk hm (fc.1 22 (by simp)) (fc.1 23 (by simp)) e15 e16 hw' (fun z g _ => absurd g (hno z)), fc, fr', mono_eq e15 e16⟩
  by_cases hbt : b = true
  · by_cases hf : gI σr 16 = nI 0
    · subst hbt
      have ga := g1 rfl
      have gc := g2 rfl
      rw [ga.2 hf, gc.2 hf]
      obtain ⟨hw, hrel, -⟩ := hm.2 rfl
      have hrel := hrel hf
      obtain ⟨N, h0, h1, -⟩ := id hw
      have hN := NN_eq h1 h0
      rw [hN] at ga gc
      have hc22 : gI σc 22 = nI N := by rw [hrel.1, h1]
      have hLk := hrel.2.2.2.2.2.2.2.2.2.2.1
      have hac := hLk a c ha hc
      -- what the relation of the links becomes
      have done : ∀ σc', m0_addLink n (nI a) (nI c) (nI q) (bI right) σc = some σc' → fr [] [] [20, 21] [] [0] σc σc' → rLnk (gA σc' 20) (gA σc' 21) (gM σc' 0) (gA σr' 16) (gA σr' 17) → ∃ σc' σr', m0_addLink n (nI a) (nI c) (nI q) (bI right) σc = some σc' ∧ m11_links n (nI a) (nI c) (nI q) (bI right) σr = some σr' ∧ MR true σc' σr' ∧ fr [] [] [20, 21] [] [0] σc σc' ∧ fr [] [] [16, 17] [] [] σr σr' ∧ mono σr σr' := by
        intro σc' ec fc hl
        refine ⟨σc', σr', ec, er, MR_mk hm (fc.1 22 (by simp)) (fc.1 23 (by simp)) e15 e16 hw' (fun _ _ hr0 => ?_), fc, fr', mono_eq e15 e16⟩
        obtain ⟨c1, c2, c3, c4, c5, c6, c7, c8, c9, c10, c11, c12, c13⟩ := hr0
        unfold relC NN
        rw [e15, fc.1 22 (by simp), fc.1 23 (by simp), fc.2.2.2.1 1 (by simp), fc.2.2.1 18 (by simp), fc.1 24 (by simp), fc.1 25 (by simp), fc.1 26 (by simp), fc.1 27 (by simp), fc.1 28 (by simp), fc.2.2.1 19 (by simp), fc.2.2.1 22 (by simp), fc.2.2.1 23 (by simp), fc.2.2.2.2 1 (by simp), fr'.2.2.2.1 1 (by simp), fr'.2.2.1 11 (by simp), fr'.2.2.1 12 (by simp), fr'.2.2.1 13 (by simp), fr'.2.2.1 14 (by simp), fr'.2.2.1 15 (by simp), fr'.2.2.1 18 (by simp), fr'.2.2.1 19 (by simp), fr'.2.2.1 20 (by simp)]
        exact ⟨c1, c2, c3, c4, c5, c6, c7, c8, c9, c10, hl, c12, c13⟩
      by_cases hne : a = c
      · subst hne
        have e : σr' = σr := by
          rcases hr with ⟨_, z, _⟩ | ⟨_, e⟩
          · exact absurd rfl z
          · exact e
        refine done σc (x_addLink_eq hm.1 ha right) fr_rf ?_
        rw [e]; exact hLk
      · obtain ⟨σc', ec, fc, k1, k2⟩ := x_addLink (n := n) (p := nI q) hc22 h0 ga.1 gc.1 hne right
        refine done σc' ec fc ?_
        -- elsewhere
        have els : (∀ i, i ≠ 24 * a + c → gA σr' 16 i = gA σr 16 i ∧ gA σr' 17 i = gA σr 17 i) := by
          intro i hi
          rcases hr with ⟨_, _, _, e⟩ | ⟨_, e⟩
          · rw [e]
            simp (disch := omega) only [s_IJ, s_IA, s_IB, s_IM, s_JI, s_JA, s_JB, s_JM, s_AI, s_AJ, s_AB, s_AM, s_BI, s_BJ, s_BA, s_BM, s_MI, s_MJ, s_MA, s_MB, s_II_s, s_II_n, s_JJ_s, s_JJ_n, s_AA_s, s_AA_n, s_BB_s, s_BB_n, s_MM_s, s_MM_n, pk_us, pk_un, pk_uLs, pk_uLn]
            exact ⟨trivial, trivial⟩
          · rw [e]; exact ⟨rfl, rfl⟩
        intro a' c' h1' h2'
        by_cases e : a' = a ∧ c' = c
        · obtain ⟨rfl, rfl⟩ := e
          rcases k2 with ⟨p1, p2, p3⟩ | ⟨p1, p2, p3, p4⟩ | ⟨p1, p2, p3, p4, p5, p6⟩
          · have hR := hac.1.mp p1
            have hP := (hac.2 hR).1
            have hnl : ¬ lkb σr (24 * a' + c') (nI q) right := by
              rintro (z | z | z)
              · exact hR z
              · rw [hP] at p2; exact p2 (by rw [Int32.le_iff_toInt_le]; rw [Int32.lt_iff_toInt_lt] at z; omega)
              · rw [hP] at p2; exact p2 (by rw [z.1, Int32.le_iff_toInt_le]; omega)
            have e : σr' = σr := by
              rcases hr with ⟨_, _, z, _⟩ | ⟨_, e⟩
              · exact absurd z hnl
              · exact e
            rw [p3, e]; exact hac
          · have hl : lkb σr (24 * a' + c') (nI q) right := by
              by_cases z : gA σr 16 (24 * a' + c') = zm
              · exact .inl z
              · rcases p1 with g | g
                · exact absurd (hac.1.mpr z) (by rw [g]; decide)
                · rw [(hac.2 z).1] at g
                  exact .inr (.inl (by rw [Int32.lt_iff_toInt_lt]; rw [Int32.le_iff_toInt_le] at g; omega))
            have e : σr' = uA (uA σr 16 (24 * a' + c') (nI q)) 17 (24 * a' + c') (bI right) := by
              rcases hr with ⟨_, _, _, e⟩ | ⟨z, _⟩
              · exact e
              · exact absurd ⟨rfl, hne, hl⟩ z
            rw [e]
            simp (disch := omega) only [s_IJ, s_IA, s_IB, s_IM, s_JI, s_JA, s_JB, s_JM, s_AI, s_AJ, s_AB, s_AM, s_BI, s_BJ, s_BA, s_BM, s_MI, s_MJ, s_MA, s_MB, s_II_s, s_II_n, s_JJ_s, s_JJ_n, s_AA_s, s_AA_n, s_BB_s, s_BB_n, s_MM_s, s_MM_n, pk_us, pk_un, pk_uLs, pk_uLn]
            exact ⟨⟨fun _ => zm_ne (by omega), fun _ => p2⟩, fun _ => ⟨p3, by rw [p4, bI_ne]⟩⟩
          · have hR := hac.1.mp p1
            obtain ⟨hP, hB⟩ := hac.2 hR
            have hpq : nI q = gA σr 16 (24 * a' + c') := by
              rw [hP] at p2 p3
              exact Int32.toInt_inj.mp (by rw [Int32.le_iff_toInt_le] at p2 p3; omega)
            rcases hr with ⟨_, _, z, e⟩ | ⟨z, e⟩
            · have hz : gA σr 17 (24 * a' + c') ≠ nI 0 ∧ right = false := by
                rcases z with z | z | z
                · exact absurd z hR
                · rw [← hpq, Int32.lt_iff_toInt_lt] at z; omega
                · exact z.2
              rw [e]
              simp (disch := omega) only [s_IJ, s_IA, s_IB, s_IM, s_JI, s_JA, s_JB, s_JM, s_AI, s_AJ, s_AB, s_AM, s_BI, s_BJ, s_BA, s_BM, s_MI, s_MJ, s_MA, s_MB, s_II_s, s_II_n, s_JJ_s, s_JJ_n, s_AA_s, s_AA_n, s_BB_s, s_BB_n, s_MM_s, s_MM_n, pk_us, pk_un, pk_uLs, pk_uLn]
              refine ⟨⟨fun _ => zm_ne (by omega), fun _ => p4⟩, fun _ => ⟨by rw [p5, hP, ← hpq], ?_⟩⟩
              rw [p6, hz.2, Bool.and_false]; exact ⟨fun w => (by cases w), fun w => absurd rfl w⟩
            · rw [e]
              refine ⟨⟨fun _ => hR, fun _ => p4⟩, fun _ => ⟨by rw [p5, hP], ?_⟩⟩
              rw [p6, Bool.and_eq_true, hB]
              constructor
              · exact fun w => w.1
              · intro w
                refine ⟨w, ?_⟩
                cases right
                · exact absurd ⟨rfl, hne, .inr (.inr ⟨hpq, w, rfl⟩)⟩ z
                · rfl
        · obtain ⟨p1, p2, p3⟩ := k1 a' c' h1' h2' e
          obtain ⟨q1, q2⟩ := els (24 * a' + c') (fun z => e ((idx h2' hc).mp z))
          rw [p1, p2, p3, q1, q2]
          exact hLk a' c' h1' h2'
    · exact other (fun _ => hf)
  · exact other (fun z => absurd z hbt)
/-! aliases -/
theorem x_addAlias_any (h : wfC σ) (hx : ND x1) (hy : ND x2) : ∃ σ', m0_addAlias n x1 x2 σ = some σ' ∧ fr [] [] [19] [] [] σ σ' ∧ (∀ a c N, x1 = nI a → x2 = nI c → gI σ 22 = nI N → N ≤ 24 → a < N → c < N → a ≠ c → ∀ a' c', a' < 24 → c' < 24 → (bt (gA σ' 19 a') c' = true ↔ bt (gA σ 19 a') c' = true ∨ (a' = a ∧ c' = c) ∨ (a' = c ∧ c' = a))) ∧ (x1 = x2 → σ' = σ) := by
  obtain ⟨N, hN, h⟩ := h
  unfold m0_addAlias
  rcases hx with rfl | ⟨a, ha, rfl⟩
  · rw [x_has_m]
    simp (disch := omega) only [ej_bi_s, ej_bl_s, ej_bv_s, ej_nm_e, L_0, bI_f, ieq_t, if_true]
    exact ⟨σ, rfl, fr_rf, fun a c N h1 h2 h3 h4 h5 => absurd h1.symm (zm_ne (by omega)), fun _ => rfl⟩
  · have h1 := x_has (n := n) h hN (show a < 2 ^ 31 by omega)
    rw [h1]
    rcases hy with rfl | ⟨c, hc, rfl⟩
    · refine ⟨σ, ?_, fr_rf, fun a' c N h1 h2 h3 h4 h5 h6 => absurd h2.symm (zm_ne (by omega)), fun _ => rfl⟩
      simp (disch := omega) only [ej_bi_s, ej_bl_s, ej_bv_s, ej_nm_e, L_0, ibI, x_has_m, bI_f, ieq_t, if_true]
      cases decide (a < N) <;> simp
    · have h2 := x_has (n := n) h hN (show c < 2 ^ 31 by omega)
      by_cases g : a < N ∧ c < N ∧ a ≠ c
      · obtain ⟨g1, g2, g3⟩ := g
        refine ⟨uA (uA σ 19 a (gA σ 19 a ||| stb c)) 19 c (upd (gA σ 19) a (gA σ 19 a ||| stb c) c ||| stb a), ?_, fr_uA (fr_uA fr_rf (by simp)) (by simp), ?_, fun z => absurd ((nI_eq (by omega) (by omega)).mp z) g3⟩
        · rw [decide_eq_true g1]
          simp (disch := omega) only [ej_bi_s, ej_bl_s, ej_bv_s, ej_nm_e, L_0, bI_t, ieq_f]
          rw [h2, decide_eq_true g2]
          simp (disch := omega) only [ej_bi_s, ej_bl_s, ej_bv_s, ej_nm_e, L_0, bI_t, ieq_f, ck_t, nI_clamp, x_setOf, s_IJ, s_IA, s_IB, s_IM, s_JI, s_JA, s_JB, s_JM, s_AI, s_AJ, s_AB, s_AM, s_BI, s_BJ, s_BA, s_BM, s_MI, s_MJ, s_MA, s_MB, s_II_s, s_II_n, s_JJ_s, s_JJ_n, s_AA_s, s_AA_n, s_BB_s, s_BB_n, s_MM_s, s_MM_n, pk_us, pk_un, pk_uLs, pk_uLn]
        · intro a0 c0 N0 e1 e2 e3 e4 e5 e6 e7 a' c' z1 z2
          have ea := (nI_eq (show a < 2 ^ 31 by omega) (show a0 < 2 ^ 31 by omega)).mp e1
          have ec := (nI_eq (show c < 2 ^ 31 by omega) (show c0 < 2 ^ 31 by omega)).mp e2
          subst ea ec
          simp (disch := omega) only [s_IJ, s_IA, s_IB, s_IM, s_JI, s_JA, s_JB, s_JM, s_AI, s_AJ, s_AB, s_AM, s_BI, s_BJ, s_BA, s_BM, s_MI, s_MJ, s_MA, s_MB, s_II_s, s_II_n, s_JJ_s, s_JJ_n, s_AA_s, s_AA_n, s_BB_s, s_BB_n, s_MM_s, s_MM_n, pk_us, pk_un, pk_uLs, pk_uLn]
          by_cases q1 : a' = c
          · subst q1
            simp (disch := omega) only [pk_us, pk_un]
            rw [bt_or _ (by omega) (by omega), Bool.or_eq_true, decide_eq_true_eq]
            constructor
            · rintro (z | z)
              · exact .inl z
              · exact .inr (.inr ⟨trivial, z⟩)
            · rintro (z | z | z)
              · exact .inl z
              · exact absurd z.1.symm e7
              · exact .inr z.2
          · by_cases q2 : a' = a
            · subst q2
              simp (disch := omega) only [pk_us, pk_un]
              rw [bt_or _ (by omega) (by omega), Bool.or_eq_true, decide_eq_true_eq]
              constructor
              · rintro (z | z)
                · exact .inl z
                · exact .inr (.inl ⟨trivial, z⟩)
              · rintro (z | z | z)
                · exact .inl z
                · exact .inr z.2
                · exact absurd z.1 q1
            · simp (disch := omega) only [pk_un]
              constructor
              · exact fun z => .inl z
              · rintro (z | z | z)
                · exact z
                · exact absurd z.1 q2
                · exact absurd z.1 q1
      · refine ⟨σ, ?_, fr_rf, fun a0 c0 N0 e1 e2 e3 e4 e5 e6 e7 => ?_, fun _ => rfl⟩
        · simp (disch := omega) only [ej_bi_s, ej_bl_s, ej_bv_s, ej_nm_e, L_0, ibI, h2, nI_eq (show a < 2 ^ 31 by omega) (show c < 2 ^ 31 by omega)]
          by_cases g1 : a < N
          · by_cases g2 : c < N
            · have : a = c := Classical.byContradiction fun z => g ⟨g1, g2, z⟩
              simp [g1, g2, this]
            · simp [g1, g2]
          · simp [g1]
        · have ea := (nI_eq (show a < 2 ^ 31 by omega) (show a0 < 2 ^ 31 by omega)).mp e1
          have ec := (nI_eq (show c < 2 ^ 31 by omega) (show c0 < 2 ^ 31 by omega)).mp e2
          have en : N = N0 := (nI_eq (by omega) (by omega)).mp (h.symm.trans e3)
          subst ea ec en
          exact absurd ⟨e5, e6, e7⟩ g
/-- what the reference does with an alias -/
def rAl (b : Bool) (a c : Nat) (σ : ej_S) : ej_S := if b = true ∧ a ≠ c then uA (uA σ 19 (24 * a + c) (nI 1)) 19 (24 * c + a) (nI 1) else σ
theorem s_alias {b : Bool} {a c : Nat} (hm : MR b σc σr) (h1 : NR b x1 (nI a) σr) (h2 : NR b x2 (nI c) σr) (ha : a < 24) (hc : c < 24) : ∃ σc', m0_addAlias n x1 x2 σc = some σc' ∧ MR b σc' (rAl b a c σr) ∧ fr [] [] [19] [] [] σc σc' ∧ fr [] [] [19] [] [] σr (rAl b a c σr) ∧ mono σr (rAl b a c σr) := by
  obtain ⟨d1, a0, ha0, e1, g1⟩ := h1
  obtain ⟨d2, c0, hc0, e2, g2⟩ := h2
  have := (nI_eq (show a < 2 ^ 31 by omega) (show a0 < 2 ^ 31 by omega)).mp e1
  subst this
  have := (nI_eq (show c < 2 ^ 31 by omega) (show c0 < 2 ^ 31 by omega)).mp e2
  subst this
  have fr' : fr [] [] [19] [] [] σr (rAl b a c σr) := by
    unfold rAl; split
    · exact fr_uA (fr_uA fr_rf (by simp)) (by simp)
    · exact fr_rf
  have e15 := fr'.1 15 (by simp)
  have e16 := fr'.1 16 (by simp)
  obtain ⟨σc', ec, fc, k1, k2⟩ := x_addAlias_any (n := n) hm.1 d1 d2
  have hal : ∀ i, gA (rAl b a c σr) 19 i = if b = true ∧ a ≠ c ∧ (i = 24 * a + c ∨ i = 24 * c + a) then nI 1 else gA σr 19 i := by
    intro i
    unfold rAl
    by_cases g : b = true ∧ a ≠ c
    · rw [if_pos g]
      simp (disch := omega) only [s_IJ, s_IA, s_IB, s_IM, s_JI, s_JA, s_JB, s_JM, s_AI, s_AJ, s_AB, s_AM, s_BI, s_BJ, s_BA, s_BM, s_MI, s_MJ, s_MA, s_MB, s_II_s, s_II_n, s_JJ_s, s_JJ_n, s_AA_s, s_AA_n, s_BB_s, s_BB_n, s_MM_s, s_MM_n, pk_us, pk_un, pk_uLs, pk_uLn]
      by_cases q1 : i = 24 * c + a
      · subst q1; rw [pk_us, if_pos ⟨g.1, g.2, .inr rfl⟩]
      · rw [pk_un q1]
        by_cases q2 : i = 24 * a + c
        · subst q2; rw [pk_us, if_pos ⟨g.1, g.2, .inl rfl⟩]
        · rw [pk_un q2, if_neg (fun z => by rcases z.2.2 with w | w; exact q2 w; exact q1 w)]
    · rw [if_neg g, if_neg (fun z => g ⟨z.1, z.2.1⟩)]
  refine ⟨σc', ec, MR_mk hm (fc.1 22 (by simp)) (fc.1 23 (by simp)) e15 e16 ?_ ?_, fc, fr', mono_eq e15 e16⟩
  · rintro z ⟨N, h0, h1, h2, w1, w2, w3, w4, w5, w6, w7, w8⟩
    have hN := NN_eq h1 h0
    have ga := (g1 z).1
    have gc := (g2 z).1
    rw [hN] at ga gc
    refine ⟨N, h0, by rw [e15]; exact h1, by rw [e16]; exact h2, by rw [fr'.2.2.2.1 1 (by simp)]; exact w1, by rw [fr'.2.2.1 11 (by simp)]; exact w2, by rw [fr'.2.2.2.1 1 (by simp), fr'.2.2.1 11 (by simp)]; exact w3, by rw [fr'.2.2.1 16 (by simp)]; exact w4, by rw [fr'.2.2.1 20 (by simp)]; exact w5, by rw [fr'.2.2.1 16 (by simp)]; exact w6, ?_, by rw [fr'.2.2.1 12 (by simp), fr'.2.2.1 20 (by simp)]; exact w8⟩
    intro a' c' z1 z2 z3
    rw [hal, if_neg (fun w => by
      obtain ⟨_, w2, w3⟩ := w
      rcases w3 with w3 | w3
      · have := (idx z2 hc).mp w3; omega
      · have := (idx z2 ha).mp w3; omega)]
    exact w7 a' c' z1 z2 z3
  · intro z hf hr0
    have ga := g1 z
    have gc := g2 z
    obtain ⟨N, h0, h1, -⟩ := (hm.2 z).1
    have hN := NN_eq h1 h0
    rw [hN] at ga gc
    obtain ⟨c1, c2, c3, c4, c5, c6, c7, c8, c9, c10, c11, c12, c13⟩ := hr0
    unfold relC NN
    rw [e15, fc.1 22 (by simp), fc.1 23 (by simp), fc.2.2.2.1 1 (by simp), fc.2.2.1 18 (by simp), fc.1 24 (by simp), fc.1 25 (by simp), fc.1 26 (by simp), fc.1 27 (by simp), fc.1 28 (by simp), fc.2.2.1 20 (by simp), fc.2.2.1 21 (by simp), fc.2.2.1 22 (by simp), fc.2.2.1 23 (by simp), fc.2.2.2.2 0 (by simp), fc.2.2.2.2 1 (by simp), fr'.2.2.2.1 1 (by simp), fr'.2.2.1 11 (by simp), fr'.2.2.1 12 (by simp), fr'.2.2.1 13 (by simp), fr'.2.2.1 14 (by simp), fr'.2.2.1 15 (by simp), fr'.2.2.1 16 (by simp), fr'.2.2.1 17 (by simp), fr'.2.2.1 18 (by simp), fr'.2.2.1 20 (by simp)]
    refine ⟨c1, c2, c3, c4, c5, c6, c7, c8, c9, ?_, c11, c12, c13⟩
    intro a' c' z1 z2
    rw [hal]
    by_cases e : a = c
    · subst e
      have : x1 = x2 := by rw [ga.2 hf, gc.2 hf]
      rw [k2 this, if_neg (fun w => w.2.1 rfl)]
      exact c10 a' c' z1 z2
    · rw [k1 a c N (ga.2 hf) (gc.2 hf) (by rw [c1, h1]) h0 ga.1 gc.1 e a' c' z1 z2, c10 a' c' z1 z2]
      have i1 := idx (a := a') (c := c') (a' := a) (c' := c) z2 hc
      have i2 := idx (a := a') (c := c') (a' := c) (c' := a) z2 ha
      by_cases w : 24 * a' + c' = 24 * a + c ∨ 24 * a' + c' = 24 * c + a
      · rw [if_pos ⟨z, e, w⟩]
        refine ⟨fun _ => n10, fun _ => .inr ?_⟩
        rcases w with w | w
        · exact .inl (i1.mp w)
        · exact .inr (i2.mp w)
      · rw [if_neg (fun v => w v.2.2)]
        constructor
        · rintro (v | v | v)
          · exact v
          · exact absurd (.inl (i1.mpr v)) w
          · exact absurd (.inr (i2.mpr v)) w
        · exact fun v => .inl v
end P64
