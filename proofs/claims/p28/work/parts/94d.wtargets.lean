/-! 69.targets once more, for fewer texts (made by mkweak.py) -/
section P69w
variable {κ : ej_S} {W : Prop} {n f fl c i : Nat} {b : Bool} {σ σc σr σc' σr' : ej_S} {l : List Nat} {I J A B M I' J' A' B' M' : List Nat}
theorem PS_mrw (h : PSw κ W b f fl c l i σc σr) (p : fr I J A B M σc σc') (q : fr I' J' A' B' M' σr σr') (m : MRw κ W f b σc' σr') (hI : I.all (fun k => ![6, 12, 29, 30].contains k) = true) (hA : A.all (fun k => ![6, 11, 12, 13].contains k) = true) (hB : B.all (fun k => ![0].contains k) = true) (hI' : I'.all (fun k => ![0, 1, 2, 3, 4, 5, 6, 7].contains k) = true) (hJ' : J' = []) (hA' : A'.all (fun k => ![0, 1, 4].contains k) = true) (hB' : B'.all (fun k => ![0].contains k) = true) : PSw κ W b f fl c l i σc' σr' := by
  subst hJ'
  obtain ⟨h1, h2, h3, h4, h5, h6, h7, h8, h9⟩ := h
  refine ⟨TK_fr h1 p (nin hI (by decide)) (nin hI (by decide)) (nin hA (by decide)) (nin hA (by decide)) (nin hA (by decide)) (nin hA (by decide)) (nin hB (by decide)), RT_fr h2 q (nin hI' (by decide)) (nin hI' (by decide)) (nin hI' (by decide)) (nin hI' (by decide)) (nin hI' (by decide)) (nin hI' (by decide)) (by simp) (nin hA' (by decide)) (nin hA' (by decide)), RW_fr h3 q (nin hB' (by decide)) (nin hA' (by decide)), ?_, h5, m, ?_, ?_, ?_⟩
  · rw [p.1 30 (nin hI (by decide))]; exact h4
  · rw [q.1 6 (nin hI' (by decide))]; exact h7
  · rw [q.1 7 (nin hI' (by decide))]; exact h8
  · rw [p.1 29 (nin hI (by decide))]; exact h9
theorem s_nameNw (hx : PX n f c l) (h : PSw κ W b f fl c l i σc σr) (asP : Bool) : (∃ k, 0 < k ∧ k < 7 ∧ m4_takeName n (bI asP) σc = some (nI 0, uI (uI σc 10 (nI k)) 11 (nI (bg l i))) ∧ m11_isName n σr = some (nI 0, uI (uI σr 9 (nI k)) 10 (nI (bg l i)))) ∨ (m11_isName n σr = some (nI 1, σr) ∧ ∃ x y σc' s' σr', m4_takeName n (bI asP) σc = some (nI 1, σc') ∧ (if asP = true then m11_privately n (gJ σr 0) σr else m11_nodeOf n (gJ σr 0) σr) = some (y, s') ∧ m11_next n s' = some σr' ∧ PSw κ W b f fl c l (i + 1) σc' σr' ∧ NRw b x y σr' ∧ gI σc' 32 = x ∧ FC σc σc' ∧ FR σr σr' ∧ mono σr σr' ∧ (b = false → ms σr σr')) := by
  rcases s_namew hx h asP with hf | ⟨h1, h2, h3, h4, h5, h6⟩
  · exact .inl hf
  · right
    obtain ⟨p1, p2, p3, p4, p5, p6, p7, p8, p9⟩ := id h
    obtain ⟨x, y, σc', s', e1, e2, e3, e4, e5, e6, f1, f2, m1, m2⟩ := h6 σr p6 p7 p8
    have hr' : RT s' fl l i := RT_fr p2 f2 (by decide) (by decide) (by decide) (by decide) (by decide) (by decide) (by decide) (by decide) (by decide)
    obtain ⟨σr', e7, r7, f3⟩ := RT_next hx.1 hr'
    have hi1 := PX_next hx p5 (by omega : sr l (bg l i) ≠ 0)
    refine ⟨h5, x, y, σc', s', σr', e1, e2, e7, ⟨?_, r7, ?_, e6, hi1, ?_, ?_, ?_, ?_⟩, NR_monow e4 (mono_next f3), e5, ?_, ?_, mono_tr m1 (mono_next f3), fun z => ms_tr (m2 z) (ms_next f3)⟩
    · exact TK_fr p1 f1 (by decide) (by decide) (by decide) (by decide) (by decide) (by decide) (by decide)
    · exact RW_fr (RW_fr p3 f2 (by decide) (by decide)) f3 (by decide) (by decide)
    · exact MR_frw e3 (fr_rf (I := []) (J := []) (A := []) (B := []) (M := [])) f3 (by decide) (by decide) (by decide) (by decide) (by decide) (by decide) (by decide) (by decide) (by decide) (by decide) (by decide) (by decide) (by decide) (by decide) (by decide) (by decide) (by decide) (by decide) (by decide) (by decide) (by decide) (by decide) (by decide) (by decide) (by decide) (by decide) (by decide) (by decide) (by decide)
    · rw [f3.1 6 (by decide), f2.1 6 (by decide)]; exact p7
    · rw [f3.1 7 (by decide), f2.1 7 (by decide)]; exact p8
    · rw [f1.1 29 (by decide)]; exact p9
    · exact fr_wk f1 (by simp) (by simp) (by simp) (by simp) (by simp)
    · exact fr_tr (fr_wk f2 (by simp) (by simp) (by simp) (by simp) (by simp)) (fr_wk f3 (by simp) (by simp) (by simp) (by simp) (by simp))
theorem s_optw (hx : PX n f c l) (h : PSw κ W b f fl c l i σc σr) {K : Nat} (a : 4 < K) (h7 : K < 128) (p1 : K ≠ 97) (p2 : K ≠ 65) (p3 : K ≠ 48) (p4 : K ≠ 63) : ∃ t i1 σc1 σr1, m4_take n (nI K) σc = some (bI t, σc1) ∧ i ≤ i1 ∧ PSw κ W b f fl c l i1 σc1 σr1 ∧ FC σc σc1 ∧ FR σr σr1 ∧ mono σr σr1 ∧ (b = false → ms σr σr1) ∧ ((t = true ∧ i1 = i + 1 ∧ gI σr 2 = nI K ∧ m11_next n σr = some σr1) ∨ (t = false ∧ i1 = i ∧ ¬ gI σr 2 = nI K ∧ σr1 = σr ∧ σc1 = σc)) := by
  have ht := x_takew hx h h7
  have hk := PX_tok hx h.2.1 a h7 p1 p2 p3 p4
  by_cases g : sr l (bg l i) = K
  · rw [if_pos g] at ht
    obtain ⟨σr1, e1, h1, f1, f2, f3⟩ := PS_stepw hx h (by omega)
    exact ⟨true, i + 1, _, σr1, ht, by omega, h1, f1, f2, mono_next f3, fun _ => ms_next f3, .inl ⟨rfl, rfl, hk.mpr g, e1⟩⟩
  · rw [if_neg g] at ht
    exact ⟨false, i, σc, σr, ht, Nat.le_refl i, h, fr_rf, fr_rf, mono_rf, fun _ => ms_rf, .inr ⟨rfl, rfl, fun z => g (hk.mp z), rfl, rfl⟩⟩
theorem s_links_2w (hx : PX n f c l) {x1 y1 : Int32} : ∀ (d turn i : Nat) (σc σr : ej_S) (k k2 : Nat), turn + d = 601 → d < k → d < k2 → PSw κ W b f fl c l i σc σr → NRw b x1 y1 σr → turn ≤ i → PRESw κ W b f fl c l i σc σr (m4_readLinks_2 n k x1 (nI turn) σc) (m11_areTargets_2 n k2 y1 (nI 1) σr) := by
  intro d
  induction d with
  | zero => intro turn i σc σr k k2 h1 _ _ h; have := h.2.2.2.2.1; have := hx.2.2.2.1; omega
  | succ d ih =>
    intro turn i σc σr k k2 h1 h2 h3 h hnr hti
    have hc6 := hx.2.2.2.1
    have hic := h.2.2.2.2.1
    obtain ⟨k, rfl⟩ : ∃ k', k = k' + 1 := ⟨k - 1, by omega⟩
    obtain ⟨k2, rfl⟩ : ∃ k', k2 = k' + 1 := ⟨k2 - 1, by omega⟩
    obtain ⟨t, i1, σc1, σr1, e1, hi1, h1', f1, g1, m1, s1, hopt⟩ := s_optw (K := 64) hx h (by omega) (by omega) (by omega) (by omega) (by omega) (by omega)
    have ec : m4_readLinks_2 n (k + 1) x1 (nI turn) σc = ej_bi (m4_takeName n (bI false) σc1) fun r8 s7 => (if r8 = 0 then (some (0, s7)) else ej_nm (gI s7 32) fun x9 => ej_bi (m4_takePrice n s7) fun r11 s10 => (if r11 = 0 then (some (0, s10)) else ej_bv (m0_addLink n x1 x9 (gI s10 33) (bI t) s10) fun s12 => ej_bi (m4_take n (nI 44) s12) fun r14 s13 => (if r14 = 0 then (some (1, s13)) else ej_nm (nI turn + 1) fun x15 => ((m4_readLinks_2 n k) x1 x15 s13)))) := by
      rw [u_4_readLinks_2, L_600, ilt_f (by omega) (by omega), L_64, e1, ej_bi_s]; rfl
    have er : m11_areTargets_2 n (k2 + 1) y1 (nI 1) σr = m11_areTargets_29 n (m11_areTargets_2 n k2) y1 (bI t) σr1 := by
      rw [u_11_areTargets_2, if_neg (show ¬ nI 1 = 0 from n10), L_64]
      rcases hopt with ⟨q1, q2, q3, q4⟩ | ⟨q1, q2, q3, q4, q5⟩
      · rw [if_pos q3, if_neg (by decide), q4, q1]; rfl
      · rw [if_neg q3, if_pos rfl, q4, q1]; rfl
    rw [ec, er]
    refine PRES_trw f1 g1 m1 s1 hi1 ?_
    have hnr1 := NR_monow hnr m1
    clear e1 ec er
    unfold m11_areTargets_29
    rcases s_nameNw hx h1' false with ⟨kk, k1, k2', e2, e3⟩ | ⟨e2, x, y, σc2, s2, σr2, e3, e4, e5, h2', hnr2, e6, f2, g2, m2, s2'⟩
    · rw [e2, e3]
      have := PRES_herew hx h1' (k := kk) ⟨k1, k2'⟩
      simp (disch := omega) only [ej_bi_s, ej_bl_s, ej_bv_s, ej_nm_e, L_0, ieq_t, if_true]
      exact this
    · simp only [Bool.false_eq_true, if_false] at e4
      rw [e2, e3]
      simp (disch := omega) only [ej_bi_s, ej_bl_s, ej_bv_s, ej_nm_e, L_0, ieq_f]
      rw [e4]
      simp only [ej_bi_s, ej_bl_s, ej_bv_s, ej_nm_e]
      rw [e5, e6]
      simp only [ej_bi_s, ej_bl_s, ej_bv_s, ej_nm_e]
      refine PRES_trw f2 g2 m2 s2' (Nat.le_succ i1) ?_
      have hnr1' := NR_monow hnr1 m2
      obtain ⟨ok, σc3, σr3, e7, e8, f3, g3, p1, p2⟩ := s_pricew hx h2'
      have m3 : mono σr2 σr3 := mono_fr g3 (by decide) (by decide)
      have s3 : b = false → ms σr2 σr3 := fun _ => ms_fr g3 (by decide) (by decide) (by decide) (by decide) (by decide) (by decide) (by decide) (by decide) (by decide) (by decide) (by decide) (by decide) (by decide)
      have f3' : FC σc2 σc3 := fr_wk f3 (by simp) (by simp) (by simp) (by simp) (by simp)
      have g3' : FR σr2 σr3 := fr_wk g3 (by simp) (by simp) (by simp) (by simp) (by simp)
      rw [e7, e8]
      cases ok
      · simp (disch := omega) only [ej_bi_s, ej_bl_s, ej_bv_s, ej_nm_e, bI_f, ieq_t, if_true]
        exact ⟨false, σc3, σr3, rfl, rfl, f3', g3', m3, s3, fun z => (by cases z), fun _ => p2 rfl⟩
      · obtain ⟨i3, q, q1, h3', q2, q3, q4⟩ := p1 rfl
        simp (disch := omega) only [ej_bi_s, ej_bl_s, ej_bv_s, ej_nm_e, bI_t, ieq_f]
        obtain ⟨σc4, σr4, e9, e10, h4, f4, g4, m4⟩ := s_linkw (n := n) h3'.2.2.2.2.2.1 h3'.2.2.2.2.2.2.1 (NR_monow hnr1' m3) (NR_monow hnr2 m3) q2 t
        have f4' : FC σc3 σc4 := fr_wk f4 (by simp) (by simp) (by simp) (by simp) (by simp)
        have g4' : FR σr3 σr4 := fr_wk g4 (by simp) (by simp) (by simp) (by simp) (by simp)
        have h4' : PSw κ W b f fl c l i3 σc4 σr4 := PS_mrw h3' f4 g4 h4 (by decide) (by decide) (by decide) (by decide) rfl (by decide) (by decide)
        have s4 : b = false → ms σr3 σr4 := by
          intro z
          subst z
          obtain ⟨_, a, ha, ea, _⟩ := hnr1'
          obtain ⟨_, a2, ha2, ea2, _⟩ := hnr2
          obtain ⟨s, es, hs⟩ := r_links (n := n) (σ := σr3) (p := nI q) ha ha2 t false h3'.2.2.2.2.2.2.1
          rw [ea, ea2, es] at e10
          rcases hs with ⟨w, _⟩ | ⟨_, w⟩
          · cases w
          · rw [← (Option.some.inj e10), w]; exact ms_rf
        rw [q3, e9, q4, e10]
        simp only [ej_bi_s, ej_bl_s, ej_bv_s, ej_nm_e]
        refine PRES_trw (fr_tr f3' f4') (fr_tr g3' g4') (mono_tr m3 m4) (fun z => ms_tr (s3 z) (s4 z)) q1 ?_
        obtain ⟨t5, i5, σc5, σr5, e11, hi5, h5, f5, g5, m5, s5, hopt5⟩ := s_optw (K := 44) hx h4' (by omega) (by omega) (by omega) (by omega) (by omega) (by omega)
        rw [e11]
        refine PRES_trw f5 g5 m5 s5 hi5 ?_
        have er5 : (ej_bi (m11_isMore n σr4) fun r14 s13 => (m11_areTargets_2 n k2) y1 r14 s13) = m11_areTargets_2 n k2 y1 (bI t5) σr5 := by
          unfold m11_isMore
          rw [L_44]
          rcases hopt5 with ⟨q1, q2, q3, q4⟩ | ⟨q1, q2, q3, q4, q5⟩
          · rw [if_pos q3, q4, q1]; rfl
          · rw [if_neg q3, q4, q1]; rfl
        rw [er5]
        rcases hopt5 with ⟨w1, w2, _, _⟩ | ⟨w1, w2, _, _, _⟩
        · subst w1
          simp (disch := omega) only [ej_bi_s, ej_bl_s, ej_bv_s, ej_nm_e, bI_t, ieq_f, L_1, nI_add]
          exact ih (turn + 1) i5 σc5 σr5 k k2 (by omega) (by omega) (by omega) h5 (NR_monow (NR_monow (NR_monow hnr1' m3) m4) m5) (by omega)
        · subst w1
          obtain ⟨k2, rfl⟩ : ∃ k', k2 = k' + 1 := ⟨k2 - 1, by omega⟩
          rw [u_11_areTargets_2]
          simp (disch := omega) only [ej_bi_s, ej_bl_s, ej_bv_s, ej_nm_e, bI_f, L_0, ieq_t, if_true]
          exact ⟨true, σc5, σr5, rfl, rfl, fr_rf, fr_rf, mono_rf, fun _ => ms_rf, fun _ => ⟨i5, Nat.le_refl _, h5⟩, fun z => by cases z⟩
theorem s_aliases_2w (hx : PX n f c l) {x1 y1 : Int32} : ∀ (d turn i : Nat) (σc σr : ej_S) (k k2 : Nat), turn + d = 601 → d < k → d < k2 → PSw κ W b f fl c l i σc σr → NRw b x1 y1 σr → turn ≤ i → PRESw κ W b f fl c l i σc σr (m4_readAliases_2 n k x1 (nI turn) σc) (m11_areOthers_2 n k2 y1 (nI 1) σr) := by
  intro d
  induction d with
  | zero => intro turn i σc σr k k2 h1 _ _ h; have := h.2.2.2.2.1; have := hx.2.2.2.1; omega
  | succ d ih =>
    intro turn i σc σr k k2 h1 h2 h3 h hnr hti
    have hc6 := hx.2.2.2.1
    have hic := h.2.2.2.2.1
    obtain ⟨k, rfl⟩ : ∃ k', k = k' + 1 := ⟨k - 1, by omega⟩
    obtain ⟨k2, rfl⟩ : ∃ k', k2 = k' + 1 := ⟨k2 - 1, by omega⟩
    rw [u_4_readAliases_2, L_600, ilt_f (by omega) (by omega), u_11_areOthers_2, if_neg (show ¬ nI 1 = 0 from n10)]
    rcases s_nameNw hx h false with ⟨kk, k1, k2', e2, e3⟩ | ⟨e2, x, y, σc2, s2, σr2, e3, e4, e5, h2', hnr2, e6, f2, g2, m2, s2'⟩
    · rw [L_0, ← bI_f, e2, e3]
      have := PRES_herew hx h (k := kk) ⟨k1, k2'⟩
      simp (disch := omega) only [ej_bi_s, ej_bl_s, ej_bv_s, ej_nm_e, bI_f, ieq_t, if_true]
      exact this
    · simp only [Bool.false_eq_true, if_false] at e4
      rw [L_0, ← bI_f, e2, e3]
      simp (disch := omega) only [ej_bi_s, ej_bl_s, ej_bv_s, ej_nm_e, bI_f, ieq_f]
      rw [e4]
      simp only [ej_bi_s, ej_bl_s, ej_bv_s, ej_nm_e]
      rw [e5, e6]
      simp only [ej_bi_s, ej_bl_s, ej_bv_s, ej_nm_e]
      refine PRES_trw f2 g2 m2 s2' (Nat.le_succ i) ?_
      have hnr1' := NR_monow hnr m2
      obtain ⟨_, a, ha, ea, _⟩ := id hnr1'
      obtain ⟨_, a2, ha2, ea2, _⟩ := id hnr2
      subst ea ea2
      obtain ⟨σc4, e9, h4, f4, g4, m4⟩ := s_aliasw (n := n) h2'.2.2.2.2.2.1 hnr1' hnr2 ha ha2
      have f4' : FC σc2 σc4 := fr_wk f4 (by simp) (by simp) (by simp) (by simp) (by simp)
      have g4' : FR σr2 (rAl b a a2 σr2) := fr_wk g4 (by simp) (by simp) (by simp) (by simp) (by simp)
      have h4' : PSw κ W b f fl c l (i + 1) σc4 (rAl b a a2 σr2) := PS_mrw h2' f4 g4 h4 (by decide) (by decide) (by decide) (by decide) rfl (by decide) (by decide)
      have s4 : b = false → ms σr2 (rAl b a a2 σr2) := by
        intro z
        unfold rAl
        rw [if_neg (fun w => by rw [z] at w; cases w.1)]; exact ms_rf
      have er : (if gI σr2 6 = nI 0 then ej_bi (m11_isMore n σr2) fun r9 s8 => ((m11_areOthers_2 n k2) (nI a) r9 s8) else (if nI a = nI a2 then ej_bi (m11_isMore n σr2) fun r11 s10 => ((m11_areOthers_2 n k2) (nI a) r11 s10) else ej_ck ((24 * nI a) + nI a2) 576 (ej_ck ((24 * nI a2) + nI a) 576 (ej_bi (m11_isMore n (uA (uA σr2 19 (((24 * nI a) + nI a2).toNatClampNeg) (ej_bz 1)) 19 (((24 * nI a2) + nI a).toNatClampNeg) (ej_bz 1))) fun r15 s14 => ((m11_areOthers_2 n k2) (nI a) r15 s14))))) = ej_bi (m11_isMore n (rAl b a a2 σr2)) fun r15 s14 => ((m11_areOthers_2 n k2) (nI a) r15 s14) := by
        rw [h2'.2.2.2.2.2.2.1]
        unfold rAl
        cases b
        · rw [bI_f, if_pos rfl, if_neg (fun w => by cases w.1)]
        · rw [bI_t, if_neg n10]
          by_cases z : a = a2
          · subst z
            rw [if_pos rfl, if_neg (fun w => w.2 rfl)]
          · rw [ieq_f z (by omega) (by omega), if_pos ⟨rfl, z⟩]
            simp (disch := omega) only [L_24, pk_mul, nI_add, ck_t, nI_clamp, ej_bi_s, ej_bl_s, ej_bv_s, ej_nm_e, L_1, bz_n1]
      rw [e9, er]
      simp only [ej_bi_s, ej_bl_s, ej_bv_s, ej_nm_e]
      refine PRES_trw f4' g4' m4 s4 (Nat.le_refl _) ?_
      obtain ⟨t5, i5, σc5, σr5, e11, hi5, h5, f5, g5, m5, s5, hopt5⟩ := s_optw (K := 44) hx h4' (by omega) (by omega) (by omega) (by omega) (by omega) (by omega)
      rw [L_44, e11]
      refine PRES_trw f5 g5 m5 s5 hi5 ?_
      have er5 : (ej_bi (m11_isMore n (rAl b a a2 σr2)) fun r14 s13 => (m11_areOthers_2 n k2) (nI a) r14 s13) = m11_areOthers_2 n k2 (nI a) (bI t5) σr5 := by
        unfold m11_isMore
        rw [L_44]
        rcases hopt5 with ⟨q1, q2, q3, q4⟩ | ⟨q1, q2, q3, q4, q5⟩
        · rw [if_pos q3, q4, q1]; rfl
        · rw [if_neg q3, q4, q1]; rfl
      rw [er5]
      rcases hopt5 with ⟨w1, w2, _, _⟩ | ⟨w1, w2, _, _, _⟩
      · subst w1
        simp (disch := omega) only [ej_bi_s, ej_bl_s, ej_bv_s, ej_nm_e, bI_t, ieq_f, L_1, nI_add]
        exact ih (turn + 1) i5 σc5 σr5 k k2 (by omega) (by omega) (by omega) h5 (NR_monow (NR_monow hnr1' m4) m5) (by omega)
      · subst w1
        obtain ⟨k2, rfl⟩ : ∃ k', k2 = k' + 1 := ⟨k2 - 1, by omega⟩
        rw [u_11_areOthers_2]
        simp (disch := omega) only [ej_bi_s, ej_bl_s, ej_bv_s, ej_nm_e, bI_f, L_0, ieq_t, if_true]
        exact ⟨true, σc5, σr5, rfl, rfl, fr_rf, fr_rf, mono_rf, fun _ => ms_rf, fun _ => ⟨i5, Nat.le_refl _, h5⟩, fun z => by cases z⟩
end P69w
