/-! 70.lists once more, for fewer texts (made by mkweak.py) -/
section P70w
variable {κ : ej_S} {W : Prop} {n f fl c i : Nat} {b : Bool} {σ σc σr σc' σr' : ej_S} {l : List Nat}
theorem s_needw (hx : PX n f c l) (h : PSw κ W b f fl c l i σc σr) {K : Nat} (a : 4 < K) (h7 : K < 128) (p1 : K ≠ 97) (p2 : K ≠ 65) (p3 : K ≠ 48) (p4 : K ≠ 63) : (sr l (bg l i) = K ∧ gI σr 2 = nI K ∧ ∃ σr1, m4_take n (nI K) σc = some (nI 1, uI σc 30 (nI (i + 1))) ∧ m11_next n σr = some σr1 ∧ PSw κ W b f fl c l (i + 1) (uI σc 30 (nI (i + 1))) σr1 ∧ FC σc (uI σc 30 (nI (i + 1))) ∧ FR σr σr1 ∧ mono σr σr1 ∧ (b = false → ms σr σr1)) ∨ (¬ gI σr 2 = nI K ∧ m4_take n (nI K) σc = some (nI 0, σc)) := by
  have ht := x_takew hx h h7
  have hk := PX_tok hx h.2.1 a h7 p1 p2 p3 p4
  by_cases g : sr l (bg l i) = K
  · rw [if_pos g] at ht
    obtain ⟨σr1, e1, h1, f1, f2, f3⟩ := PS_stepw hx h (by omega)
    exact .inl ⟨g, hk.mpr g, σr1, ht, e1, h1, f1, f2, mono_next f3, fun _ => ms_next f3⟩
  · rw [if_neg g] at ht
    exact .inr ⟨fun z => g (hk.mp z), ht⟩
theorem s_membw (hx : PX n f c l) {x1 y1 : Int32} (t : Bool) : ∀ (d turn i : Nat) (set set' : Int32) (σc σr : ej_S) (k k2 : Nat), turn + d = 601 → d ≤ k → d ≤ k2 → PSw κ W b f fl c l i σc σr → NRw b x1 y1 σr → turn ≤ i → (b = true → False → set = set') → PRESw κ W b f fl c l i σc σr (m4_readMembers_48 n (m4_readMembers_26 n k) x1 (bI t) set (nI turn) σc) (m11_areMembers_47 n (k2 + 1) y1 (bI t) set' (nI 1) σr) := by
  intro d
  induction d with
  | zero => intro turn i set set' σc σr k k2 h1 _ _ h; have := h.2.2.2.2.1; have := hx.2.2.2.1; omega
  | succ d ih =>
    intro turn i set set' σc σr k k2 h1 h2 h3 h hnr hti hset
    have hc6 := hx.2.2.2.1
    have hic := h.2.2.2.2.1
    obtain ⟨k, rfl⟩ : ∃ k', k = k' + 1 := ⟨k - 1, by omega⟩
    obtain ⟨k2, rfl⟩ : ∃ k', k2 = k' + 1 := ⟨k2 - 1, by omega⟩
    have ec0 : m4_readMembers_48 n (m4_readMembers_26 n (k + 1)) x1 (bI t) set (nI turn) σc = ej_bi (m4_takeName n (bI false) σc) fun r24 s23 => (if r24 = nI 0 then (some (nI 0, s23)) else ej_bi (m10_setOf n (gI s23 32) s23) fun r26 s25 => (m4_readMembers_26 n (k + 1) x1 (bI t) (set ||| r26) (nI (turn + 1)) s25)) := by
      unfold m4_readMembers_48
      simp only [ej_bi_s, ej_bl_s, ej_bv_s, ej_nm_e, L_0, L_1, nI_add]; rfl
    rw [ec0, u_11_areMembers_47, if_neg (show ¬ nI 1 = 0 from n10)]
    rcases s_nameNw hx h false with ⟨kk, k1, k2', e2, e3⟩ | ⟨e2, x, y, σc2, s2, σr2, e3, e4, e5, h2', hnr2, e6, f2, g2, m2, s2'⟩
    · rw [e2, e3]
      have := PRES_herew hx h (k := kk) ⟨k1, k2'⟩
      simp (disch := omega) only [ej_bi_s, ej_bl_s, ej_bv_s, ej_nm_e, L_0, ieq_t, if_true]
      exact this
    · simp only [Bool.false_eq_true, if_false] at e4
      rw [e2, e3]
      simp (disch := omega) only [ej_bi_s, ej_bl_s, ej_bv_s, ej_nm_e, L_0, ieq_f]
      rw [e4]
      simp only [ej_bi_s, ej_bl_s, ej_bv_s, ej_nm_e]
      rw [e5, e6]
      simp only [ej_bi_s, ej_bl_s, ej_bv_s, ej_nm_e]
      obtain ⟨hnd, a, ha, ea, hxa⟩ := id hnr2
      obtain ⟨w, e7, hw⟩ := x_setOf_any (n := n) (σ := σc2) hnd
      rw [e7]
      simp only [ej_bi_s, ej_bl_s, ej_bv_s, ej_nm_e]
      refine PRES_trw f2 g2 m2 s2' (Nat.le_succ i) ?_
      have hnr1' := NR_monow hnr m2
      -- the sets stay alike
      have hset2 : b = true → False → (set ||| w) = (set' ||| (1 <<< (y &&& 31))) := by
        exact fun z1 z2 => z2.elim
      -- behind the name: a comma or the end
      rw [u_4_readMembers_26, L_600]
      have htt : ∀ X Y : Option (Int32 × ej_S), (if nI (turn + 1) = 0 then X else Y) = Y := fun X Y => if_neg (nI_ne0 (by omega) (by omega))
      have hend : ∀ i5 σc5 σr5 (S' : Int32), PSw κ W b f fl c l i5 σc5 σr5 → NRw b x1 y1 σr5 → (b = true → False → (set ||| w) = S') → PRESw κ W b f fl c l i5 σc5 σr5 (m4_readMembers_74 n x1 (bI t) (set ||| w) σc5) (ej_bi (m11_isClosed n σr5) fun r9 s8 => (if r9 = 0 then (some (0, s8)) else ej_bi (m11_isCost n s8) fun r11 s10 => (if r11 = 0 then (some (0, s10)) else ej_bv (m11_holds n y1 S' (gI s10 14) (bI t) s10) fun s12 => (some (1, s12))))) := by
        intro i5 σc5 σr5 S' h5 hn5 hs5
        unfold m4_readMembers_74 m11_isClosed
        rw [L_125]
        rcases s_needw (K := 125) hx h5 (by omega) (by omega) (by omega) (by omega) (by omega) (by omega) with ⟨q1, q2, σr6, e8, e9, h6, f6, g6, m6, s6⟩ | ⟨q1, e8⟩
        · rw [e8, if_pos q2, e9]
          simp (disch := omega) only [ej_bi_s, ej_bl_s, ej_bv_s, ej_nm_e, L_0, L_1, ieq_f]
          refine PRES_trw f6 g6 m6 s6 (Nat.le_succ i5) ?_
          have hn6 := NR_monow hn5 m6
          obtain ⟨ok, σc7, σr7, e10, e11, f7, g7, p1, p2⟩ := s_pricew hx h6
          have m7 : mono σr6 σr7 := mono_fr g7 (by decide) (by decide)
          have s7 : b = false → ms σr6 σr7 := fun _ => ms_fr g7 (by decide) (by decide) (by decide) (by decide) (by decide) (by decide) (by decide) (by decide) (by decide) (by decide) (by decide) (by decide) (by decide)
          have f7' : FC (uI σc5 30 (nI (i5 + 1))) σc7 := fr_wk f7 (by simp) (by simp) (by simp) (by simp) (by simp)
          have g7' : FR σr6 σr7 := fr_wk g7 (by simp) (by simp) (by simp) (by simp) (by simp)
          rw [e10, e11]
          cases ok
          · simp (disch := omega) only [ej_bi_s, ej_bl_s, ej_bv_s, ej_nm_e, bI_f, ieq_t, if_true]
            exact ⟨false, σc7, σr7, rfl, rfl, f7', g7', m7, s7, fun z => (by cases z), fun _ => p2 rfl⟩
          · obtain ⟨i8, q, q3, h8, q4, q5, q6⟩ := p1 rfl
            simp (disch := omega) only [ej_bi_s, ej_bl_s, ej_bv_s, ej_nm_e, bI_t, ieq_f]
            have hn7 := NR_monow hn6 m7
            obtain ⟨_, a1, ha1, ea1, _⟩ := id hn7
            subst ea1
            obtain ⟨σc9, σr9, e12, e13, h9, f9, g9, m9⟩ := s_membersw (n := n) (set := set ||| w) (set' := S') hx.1 h8.2.2.2.2.2.1 h8.2.2.2.2.2.2.1 hn7 ha1 (fun z1 z2 => z2.elim) q4 t
            have f9' : FC σc7 σc9 := fr_wk f9 (by simp) (by simp) (by simp) (by simp) (by simp)
            have g9' : FR σr7 σr9 := fr_wk g9 (by simp) (by simp) (by simp) (by simp) (by simp)
            have h9' : PSw κ W b f fl c l i8 σc9 σr9 := PS_mrw h8 f9 g9 h9 (by decide) (by decide) (by decide) (by decide) rfl (by decide) (by decide)
            have s9 : b = false → ms σr7 σr9 := by
              intro z
              subst z
              rw [r_holds0 h8.2.2.2.2.2.2.1 t] at e13
              rw [← Option.some.inj e13]; exact ms_rf
            rw [q5, e12, q6, e13]
            exact ⟨true, σc9, σr9, rfl, rfl, fr_tr f7' f9', fr_tr g7' g9', mono_tr m7 m9, fun z => ms_tr (s7 z) (s9 z), fun _ => ⟨i8, by omega, h9'⟩, fun z => by cases z⟩
        · rw [e8, if_neg q1, L_1, r_herew h5]
          simp (disch := omega) only [ej_bi_s, ej_bl_s, ej_bv_s, ej_nm_e, L_0, ieq_t, if_true, bz_n0]
          rw [x_misplacedw hx h5]
          simp only [ej_bi_s, ej_bl_s, ej_bv_s, ej_nm_e, bz_n0]
          exact PRES_herew hx h5 (k := 1) ⟨by omega, by omega⟩
      obtain ⟨t5, i5, σc5, σr5, e11, hi5, h5, f5, g5, m5, s5, hopt5⟩ := s_optw (K := 44) hx h2' (by omega) (by omega) (by omega) (by omega) (by omega) (by omega)
      have er5 : ∀ F : Int32 → ej_S → Option (Int32 × ej_S), (ej_bi (m11_isMore n σr2) fun r14 s13 => F r14 s13) = F (bI t5) σr5 := by
        intro F
        unfold m11_isMore
        rw [L_44]
        rcases hopt5 with ⟨q1, q2, q3, q4⟩ | ⟨q1, q2, q3, q4, q5⟩
        · rw [if_pos q3, q4, q1]; rfl
        · rw [if_neg q3, q4, q1]; rfl
      rw [er5]
      have hset5 : b = true → False → (set ||| w) = (set' ||| (1 <<< (y &&& 31))) := fun z1 z2 => z2.elim
      rcases hopt5 with ⟨w1, w2, _, _⟩ | ⟨w1, w2, _, _, w5⟩
      · subst w1
        -- one more
        have hi6 := h5.2.2.2.2.1
        rw [ilt_f (by omega) (by omega), htt, L_44, e11]
        simp (disch := omega) only [ej_bi_s, ej_bl_s, ej_bv_s, ej_nm_e, L_0, bI_t, ieq_f]
        refine PRES_trw f5 g5 m5 s5 hi5 ?_
        have := ih (turn + 1) i5 (set ||| w) (set' ||| (1 <<< (y &&& 31))) σc5 σr5 k k2 (by omega) (by omega) (by omega) h5 (NR_monow hnr1' m5) (by omega) hset5
        exact this
      · subst w1
        -- the end
        rw [u_11_areMembers_47, bI_f, if_pos (show nI 0 = 0 from rfl)]
        refine PRES_trw f5 g5 m5 s5 hi5 ?_
        subst w5
        have hE := hend i5 σc5 σr5 _ h5 (NR_monow hnr1' m5) hset5
        rcases Nat.lt_or_ge 600 (turn + 1) with q | q
        · rw [ilt_t q (by omega)]; exact hE
        · rw [ilt_f q (by omega), htt, L_44, e11]
          simp (disch := omega) only [ej_bi_s, ej_bl_s, ej_bv_s, ej_nm_e, L_0, bI_f, ieq_t, if_true]
          rw [← L_0]; exact hE
theorem s_readMembersw (hx : PX n f c l) {x1 y1 : Int32} (h : PSw κ W b f fl c l i σc σr) (hnr : NRw b x1 y1 σr) : PRESw κ W b f fl c l i σc σr (m4_readMembers n x1 σc) (m11_areMembers n y1 σr) := by
  have hn := hx.1
  obtain ⟨t, i1, σc1, σr1, e1, hi1, h1', f1, g1, m1, s1, hopt⟩ := s_optw (K := 64) hx h (by omega) (by omega) (by omega) (by omega) (by omega) (by omega)
  have er : m11_areMembers n y1 σr = m11_areMembers_23 n y1 (bI t) σr1 := by
    unfold m11_areMembers
    rw [L_64]
    rcases hopt with ⟨q1, q2, q3, q4⟩ | ⟨q1, q2, q3, q4, q5⟩
    · rw [if_pos q3, if_neg (by decide), q4, q1]; rfl
    · rw [if_neg q3, if_pos rfl, q4, q1]; rfl
  rw [er]
  unfold m4_readMembers m11_areMembers_23
  rw [L_64, e1, L_123]
  simp only [ej_bi_s, ej_bl_s, ej_bv_s, ej_nm_e]
  refine PRES_trw f1 g1 m1 s1 hi1 ?_
  rcases s_needw (K := 123) hx h1' (by omega) (by omega) (by omega) (by omega) (by omega) (by omega) with ⟨q1, q2, σr6, e8, e9, h6, f6, g6, m6, s6⟩ | ⟨q1, e8⟩
  · rw [e8, if_pos q2, e9]
    simp (disch := omega) only [ej_bi_s, ej_bl_s, ej_bv_s, ej_nm_e, L_0, L_1, ieq_f]
    refine PRES_trw f6 g6 m6 s6 (Nat.le_succ i1) ?_
    obtain ⟨n', hn'⟩ : ∃ n', n = n' + 1 := ⟨n - 1, by omega⟩
    have e26 : m4_readMembers_26 n n x1 (bI t) (nI 0) (nI 0) (uI σc1 30 (nI (i1 + 1))) = m4_readMembers_48 n (m4_readMembers_26 n n') x1 (bI t) (nI 0) (nI 0) (uI σc1 30 (nI (i1 + 1))) := by
      have : m4_readMembers_26 n n = m4_readMembers_26 n (n' + 1) := by rw [← hn']
      rw [this, u_4_readMembers_26]
      simp (disch := omega) only [L_600, L_0, ilt_f, ieq_t, if_true]
    have e47 : m11_areMembers_47 n n = m11_areMembers_47 n (n' + 1) := by rw [← hn']
    rw [e26, e47]
    exact s_membw hx t 601 0 (i1 + 1) (nI 0) (nI 0) _ σr6 n' n' (by omega) (by omega) (by omega) h6 (NR_monow (NR_monow hnr m1) m6) (Nat.zero_le _) (fun _ _ => rfl)
  · rw [e8, if_neg q1, L_1, r_herew h1']
    simp (disch := omega) only [ej_bi_s, ej_bl_s, ej_bv_s, ej_nm_e, L_0, ieq_t, if_true, bz_n0]
    rw [x_misplacedw hx h1']
    simp only [ej_bi_s, ej_bl_s, ej_bv_s, ej_nm_e, bz_n0]
    exact PRES_herew hx h1' (k := 1) ⟨by omega, by omega⟩
theorem s_listw (hx : PX n f c l) {kd : Nat} (hkd : kd = 1 ∨ kd = 2 ∨ kd = 3) : ∀ (d turn i : Nat) (σc σr : ej_S) (k k2 : Nat), turn + d = 601 → d ≤ k → d ≤ k2 → PSw κ W b f fl c l i σc σr → turn ≤ i → PRESw κ W b f fl c l i σc σr (m4_readList_43 n (m4_readList_12 n k) (nI kd) (nI turn) (bI (decide (kd = 2))) σc) (m11_isList_6 n (k2 + 1) (lw kd) (nI 1) σr) := by
  intro d
  induction d with
  | zero => intro turn i σc σr k k2 h1 _ _ h; have := h.2.2.2.2.1; have := hx.2.2.2.1; omega
  | succ d ih =>
    intro turn i σc σr k k2 h1 h2 h3 h hti
    have hc6 := hx.2.2.2.1
    have hic := h.2.2.2.2.1
    obtain ⟨k, rfl⟩ : ∃ k', k = k' + 1 := ⟨k - 1, by omega⟩
    obtain ⟨k2, rfl⟩ : ∃ k', k2 = k' + 1 := ⟨k2 - 1, by omega⟩
    -- behind an item
    have tail : ∀ i4 σc4 σr4, i < i4 → PSw κ W b f fl c l i4 σc4 σr4 → PRESw κ W b f fl c l i4 σc4 σr4 (m4_readList_12 n (k + 1) (nI kd) (nI (turn + 1)) σc4) (ej_bi (m11_isMore n σr4) fun r9 s8 => m11_isList_6 n (k2 + 1) (lw kd) r9 s8) := by
      intro i4 σc4 σr4 hi4 h4
      obtain ⟨t5, i5, σc5, σr5, e11, hi5, h5, f5, g5, m5, s5, hopt5⟩ := s_optw (K := 44) hx h4 (by omega) (by omega) (by omega) (by omega) (by omega) (by omega)
      have er5 : (ej_bi (m11_isMore n σr4) fun r14 s13 => m11_isList_6 n (k2 + 1) (lw kd) r14 s13) = m11_isList_6 n (k2 + 1) (lw kd) (bI t5) σr5 := by
        unfold m11_isMore
        rw [L_44]
        rcases hopt5 with ⟨q1, q2, q3, q4⟩ | ⟨q1, q2, q3, q4, q5⟩
        · rw [if_pos q3, q4, q1]; rfl
        · rw [if_neg q3, q4, q1]; rfl
      rw [er5, u_4_readList_12, L_600]
      have htt : ∀ X Y : Option (Int32 × ej_S), (if nI (turn + 1) = 0 then X else Y) = Y := fun X Y => if_neg (nI_ne0 (by omega) (by omega))
      refine PRES_trw f5 g5 m5 s5 hi5 ?_
      rcases hopt5 with ⟨w1, w2, _, _⟩ | ⟨w1, w2, _, _, w5⟩
      · subst w1
        have hi6 := h5.2.2.2.2.1
        rw [ilt_f (by omega) (by omega), htt, L_44, e11]
        simp (disch := omega) only [ej_bi_s, ej_bl_s, ej_bv_s, ej_nm_e, L_0, bI_t, ieq_f]
        have := ih (turn + 1) i5 σc5 σr5 k k2 (by omega) (by omega) (by omega) h5 (by omega)
        rcases hkd with rfl | rfl | rfl
        · simp (disch := omega) only [L_2, L_1, ieq_f]; exact this
        · simp (disch := omega) only [L_2, L_1, ieq_t, if_true]; exact this
        · simp (disch := omega) only [L_2, L_1, ieq_f]; exact this
      · subst w1 w5
        rw [u_11_isList_6, bI_f, if_pos (show nI 0 = 0 from rfl)]
        have hE : PRESw κ W b f fl c l i5 σc5 σr5 (m4_readList_130 n σc5) (ej_bi (m11_isClosed n σr5) fun r5 s4 => some (ej_bz r5, s4)) := by
          unfold m4_readList_130 m11_isClosed
          rw [L_125]
          rcases s_needw (K := 125) hx h5 (by omega) (by omega) (by omega) (by omega) (by omega) (by omega) with ⟨q1, q2, σr6, e8, e9, h6, f6, g6, m6, s6⟩ | ⟨q1, e8⟩
          · rw [e8, if_pos q2, e9]
            simp (disch := omega) only [ej_bi_s, ej_bl_s, ej_bv_s, ej_nm_e, L_0, L_1, ieq_f, bz_n1]
            exact ⟨true, _, σr6, rfl, rfl, f6, g6, m6, s6, fun _ => ⟨i5 + 1, by omega, h6⟩, fun z => by cases z⟩
          · rw [e8, if_neg q1, L_1, r_herew h5]
            simp (disch := omega) only [ej_bi_s, ej_bl_s, ej_bv_s, ej_nm_e, L_0, ieq_t, if_true, bz_n0]
            rw [x_misplacedw hx h5]
            simp (disch := omega) only [ej_bi_s, ej_bl_s, ej_bv_s, ej_nm_e, ieq_t, if_true, bz_n0]
            exact PRES_herew hx h5 (k := 1) ⟨by omega, by omega⟩
        rcases Nat.lt_or_ge 600 (turn + 1) with q | q
        · rw [ilt_t q (by omega)]; exact hE
        · rw [ilt_f q (by omega), htt, L_44, e11]
          simp (disch := omega) only [ej_bi_s, ej_bl_s, ej_bv_s, ej_nm_e, L_0, bI_f, ieq_t, if_true]
          exact hE
    -- an item's name
    have ew : (if lg_cmp (lw kd) 28556934595048048 = 0 then ej_bi (m11_privately n (gJ σr 0) σr) fun r29 s28 => (m11_isItem_36 n (lw kd) r29 s28) else ej_bi (m11_nodeOf n (gJ σr 0) σr) fun r4 s3 => (m11_isItem_36 n (lw kd) r4 s3)) = ej_bi (if decide (kd = 2) = true then m11_privately n (gJ σr 0) σr else m11_nodeOf n (gJ σr 0) σr) fun r4 s3 => (m11_isItem_36 n (lw kd) r4 s3) := by
      rcases hkd with rfl | rfl | rfl
      · rw [if_neg (fun z => lw_12 ((cmp_eq _ _).mp z)), if_neg (show ¬ decide (1 = 2) = true by decide)]
      · rw [if_pos ((cmp_eq _ _).mpr lw_22), if_pos (show decide (2 = 2) = true by decide)]
      · rw [if_neg (fun z => lw_32 ((cmp_eq _ _).mp z)), if_neg (show ¬ decide (3 = 2) = true by decide)]
    rw [u_11_isList_6, if_neg (show ¬ nI 1 = 0 from n10)]
    unfold m4_readList_43 m11_isItem
    rcases s_nameNw hx h (decide (kd = 2)) with ⟨kk, k1, k2', e2, e3⟩ | ⟨e2, x, y, σc2, s2, σr2, e3, e4, e5, h2', hnr2, e6, f2, g2, m2, s2'⟩
    · rw [e2, e3]
      have := PRES_herew hx h (k := kk) ⟨k1, k2'⟩
      simp (disch := omega) only [ej_bi_s, ej_bl_s, ej_bv_s, ej_nm_e, L_0, ieq_t, if_true]
      exact this
    · rw [e2, e3, ej_bi_s, ej_bi_s, if_neg (show ¬ nI 1 = 0 from n10), if_neg (show ¬ nI 1 = 0 from n10), ew, e4, ej_bi_s, e6]
      refine PRES_trw f2 g2 m2 s2' (Nat.le_succ i) ?_
      obtain ⟨_, a, ha, ea, _⟩ := id hnr2
      subst ea
      -- an item that is a name alone
      have one : ∀ σcX, (if kd = 1 then m0_kill n x σc2 else if kd = 3 then m0_gate n x σc2 else some σc2) = some σcX → PRESw κ W b f fl c l (i + 1) σc2 σr2 (m4_readList_12 n (k + 1) (nI kd) (nI (turn + 1)) σcX) (ej_bi (m11_isItem_58 n (lw kd) (nI a) σr2) fun r7 s6 => (if r7 = 0 then (some (0, s6)) else ej_bi (m11_isMore n s6) fun r9 s8 => m11_isList_6 n (k2 + 1) (lw kd) r9 s8)) := by
        intro σcX eX
        obtain ⟨σc3, σr3, e7, e8, h3', f3, g3, m3⟩ := s_item58w (n := n) (w := lw kd) h2'.2.2.2.2.2.1 h2'.2.2.2.2.2.2.1 hnr2 ha kd (by rcases hkd with rfl | rfl | rfl; exact .inl ⟨rfl, lw_11⟩; exact .inr (.inr ⟨rfl, lw_22⟩); exact .inr (.inl ⟨rfl, lw_3⟩))
        rw [eX] at e7
        have := Option.some.inj e7
        subst this
        have f3' : FC σc2 σcX := fr_wk f3 (by simp) (by simp) (by simp) (by simp) (by simp)
        have g3' : FR σr2 σr3 := fr_wk g3 (by simp) (by simp) (by simp) (by simp) (by simp)
        have h3'' : PSw κ W b f fl c l (i + 1) σcX σr3 := PS_mrw h2' f3 g3 h3' (by decide) (by decide) (by decide) (by decide) rfl (by decide) (by decide)
        have s3 : b = false → ms σr2 σr3 := by
          intro z
          subst z
          have er := r_item (n := n) (σ := σr2) (lw kd) ha h2'.2.2.2.2.2.2.1
          rw [er] at e8
          have := (Prod.mk.inj (Option.some.inj e8)).2
          subst this
          have e0 : ∀ X : Nat → Int32, ∀ z : Bool, ∀ j, upd X a (bI (decide (X a ≠ nI 0) || (false && z))) j = nI 0 ↔ X j = nI 0 := by
            intro X z j
            rw [Bool.false_and, Bool.or_false]
            by_cases e : j = a
            · subst e; rw [pk_us, bI_0, decide_eq_false_iff_not]; simp
            · rw [pk_un e]
          refine ⟨rfl, rfl, rfl, rfl, rfl, rfl, rfl, rfl, rfl, rfl, fun j => ?_, fun j => ?_, fun j => Iff.rfl⟩
          · simp (disch := omega) only [s_IJ, s_IA, s_IB, s_IM, s_JI, s_JA, s_JB, s_JM, s_AI, s_AJ, s_AB, s_AM, s_BI, s_BJ, s_BA, s_BM, s_MI, s_MJ, s_MA, s_MB, s_II_s, s_II_n, s_JJ_s, s_JJ_n, s_AA_s, s_AA_n, s_BB_s, s_BB_n, s_MM_s, s_MM_n, pk_us, pk_un, pk_uLs, pk_uLn]; exact e0 _ _ j
          · simp (disch := omega) only [s_IJ, s_IA, s_IB, s_IM, s_JI, s_JA, s_JB, s_JM, s_AI, s_AJ, s_AB, s_AM, s_BI, s_BJ, s_BA, s_BM, s_MI, s_MJ, s_MA, s_MB, s_II_s, s_II_n, s_JJ_s, s_JJ_n, s_AA_s, s_AA_n, s_BB_s, s_BB_n, s_MM_s, s_MM_n, pk_us, pk_un, pk_uLs, pk_uLn]; exact e0 _ _ j
        rw [e8]
        simp (disch := omega) only [ej_bi_s, ej_bl_s, ej_bv_s, ej_nm_e, L_0, ieq_f]
        exact PRES_trw f3' g3' m3 s3 (Nat.le_refl _) (tail (i + 1) σcX σr3 (by omega) h3'')
      rcases hkd with rfl | rfl | rfl
      · -- dead
        have e36 : m11_isItem_36 n (lw 1) (nI a) s2 = (if gI σr2 2 = nI 33 then ej_bv (m11_next n σr2) fun s19 => ej_bi (m11_isName n s19) fun r21 s20 => (if r21 = 0 then (some (0, s20)) else ej_bi (m11_nodeOf n (gJ s20 0) s20) fun r23 s22 => ej_bv (m11_next n s22) fun s24 => ej_ck ((24 * nI a) + r23) 576 ((if gA s24 18 ((24 * nI a) + r23).toNatClampNeg = 0 then (if gI s24 6 = 0 then ej_ck ((24 * nI a) + r23) 576 (ej_nm (uA s24 18 (((24 * nI a) + r23).toNatClampNeg) (ej_bz 0)) fun s26 => (some (1, s26))) else ej_ck ((24 * nI a) + r23) 576 (ej_nm (uA s24 18 (((24 * nI a) + r23).toNatClampNeg) (ej_bz 1)) fun s27 => (some (1, s27)))) else ej_ck ((24 * nI a) + r23) 576 (ej_nm (uA s24 18 (((24 * nI a) + r23).toNatClampNeg) (ej_bz 1)) fun s25 => (some (1, s25)))))) else m11_isItem_58 n (lw 1) (nI a) σr2) := by
          unfold m11_isItem_36
          rw [e5, ej_bv_s, if_pos ((cmp_eq _ _).mpr lw_11), L_33]
        rw [e36]
        simp (disch := omega) only [ej_bi_s, ej_bl_s, ej_bv_s, ej_nm_e, L_3, ieq_f, L_1, ieq_t, if_true, nI_add]
        rcases s_needw (K := 33) hx h2' (by omega) (by omega) (by omega) (by omega) (by omega) (by omega) with ⟨q1, q2, σr6, e8, e9, h6, f6, g6, m6, s6⟩ | ⟨q1, e8⟩
        · rw [L_33, e8, if_pos q2, e9]
          simp (disch := omega) only [ej_bi_s, ej_bl_s, ej_bv_s, ej_nm_e, L_0, ieq_f]
          unfold m4_readList_97
          simp (disch := omega) only [ej_bi_s, ej_bl_s, ej_bv_s, ej_nm_e, L_1, ieq_t, if_true, nI_add]
          refine PRES_trw f6 g6 m6 s6 (Nat.le_succ _) ?_
          rcases s_nameNw hx h6 false with ⟨kk, k1, k2', e10, e11⟩ | ⟨e10, x2, y2, σc7, s7, σr7, e11, e12, e13, h7', hnr7, e14, f7, g7, m7, s7'⟩
          · rw [bI_f] at e10
            rw [L_0, e10, e11]
            have := PRES_herew hx h6 (k := kk) ⟨k1, k2'⟩
            simp (disch := omega) only [ej_bi_s, ej_bl_s, ej_bv_s, ej_nm_e, L_0, ieq_t, if_true]
            exact this
          · simp only [Bool.false_eq_true, if_false] at e12
            rw [bI_f] at e11
            rw [L_0, e10, e11]
            simp (disch := omega) only [ej_bi_s, ej_bl_s, ej_bv_s, ej_nm_e, L_0, ieq_f]
            rw [e12]
            simp only [ej_bi_s, ej_bl_s, ej_bv_s, ej_nm_e]
            rw [e13, e14]
            simp only [ej_bi_s, ej_bl_s, ej_bv_s, ej_nm_e]
            refine PRES_trw f7 g7 m7 s7' (Nat.le_succ _) ?_
            obtain ⟨_, a2, ha2, ea2, _⟩ := id hnr7
            subst ea2
            obtain ⟨σc8, e15, h8, f8, g8, m8⟩ := s_killLinkw (n := n) h7'.2.2.2.2.2.1 (NR_monow (NR_monow hnr2 m6) m7) hnr7 ha ha2
            have f8' : FC σc7 σc8 := fr_wk f8 (by simp) (by simp) (by simp) (by simp) (by simp)
            have g8' : FR σr7 (rDl b (24 * a + a2) σr7) := fr_wk g8 (by simp) (by simp) (by simp) (by simp) (by simp)
            have h8' : PSw κ W b f fl c l (i + 1 + 1 + 1) σc8 (rDl b (24 * a + a2) σr7) := PS_mrw h7' f8 g8 h8 (by decide) (by decide) (by decide) (by decide) rfl (by decide) (by decide)
            have s8 : b = false → ms σr7 (rDl b (24 * a + a2) σr7) := by
              intro z
              subst z
              refine ⟨rfl, rfl, rfl, rfl, rfl, rfl, rfl, rfl, rfl, rfl, fun j => Iff.rfl, fun j => Iff.rfl, fun j => ?_⟩
              unfold rDl
              rw [s_AA_s, Bool.or_false]
              by_cases e : j = 24 * a + a2
              · subst e; rw [pk_us, bI_0, decide_eq_false_iff_not]; simp
              · rw [pk_un e]
            have er8 : (ej_ck ((24 * nI a) + nI a2) 576 ((if gA σr7 18 ((24 * nI a) + nI a2).toNatClampNeg = nI 0 then (if gI σr7 6 = nI 0 then ej_ck ((24 * nI a) + nI a2) 576 (some (1, (uA σr7 18 (((24 * nI a) + nI a2).toNatClampNeg) (ej_bz 0)))) else ej_ck ((24 * nI a) + nI a2) 576 (some (1, (uA σr7 18 (((24 * nI a) + nI a2).toNatClampNeg) (ej_bz 1))))) else ej_ck ((24 * nI a) + nI a2) 576 (some (1, (uA σr7 18 (((24 * nI a) + nI a2).toNatClampNeg) (ej_bz 1))))))) = some (nI 1, rDl b (24 * a + a2) σr7) := by
              unfold rDl
              rw [h7'.2.2.2.2.2.2.1]
              simp (disch := omega) only [L_24, pk_mul, nI_add, ck_t, nI_clamp, L_0, L_1, bz_n0, bz_n1]
              by_cases e : gA σr7 18 (24 * a + a2) = nI 0
              · cases b
                · simp [e, bI_f]
                · simp [e, bI_t, n10]
              · simp [e, bI_t]
            rw [e15]
            simp only [ej_bi_s, ej_bl_s, ej_bv_s, ej_nm_e, L_0, L_1] at er8 ⊢
            rw [er8]
            simp (disch := omega) only [ej_bi_s, ej_bl_s, ej_bv_s, ej_nm_e, ieq_f]
            exact PRES_trw f8' g8' m8 s8 (Nat.le_refl _) (tail _ σc8 _ (by omega) h8')
        · rw [L_33, e8, if_neg q1]
          simp (disch := omega) only [ej_bi_s, ej_bl_s, ej_bv_s, ej_nm_e, L_0, ieq_t, if_true]
          obtain ⟨σcX, eX, _, _⟩ := x_kill (n := n) (σ := σc2) hnr2.1
          rw [eX]
          have := one σcX (by simpa using eX)
          simpa only [ej_bi_s, ej_bl_s, ej_bv_s, ej_nm_e, L_0] using this
      · -- private
        have e36 : m11_isItem_36 n (lw 2) (nI a) s2 = m11_isItem_58 n (lw 2) (nI a) σr2 := by
          unfold m11_isItem_36
          rw [e5, ej_bv_s, if_neg (fun z => lw_21 ((cmp_eq _ _).mp z))]
        rw [e36]
        rw [x_l2]
        have := one σc2 (by simp)
        simpa only [ej_bi_s, ej_bl_s, ej_bv_s, ej_nm_e, L_0] using this
      · -- gated
        have e36 : m11_isItem_36 n (lw 3) (nI a) s2 = m11_isItem_58 n (lw 3) (nI a) σr2 := by
          unfold m11_isItem_36
          rw [e5, ej_bv_s, if_neg (fun z => lw_31 ((cmp_eq _ _).mp z))]
        rw [e36]
        simp (disch := omega) only [ej_bi_s, ej_bl_s, ej_bv_s, ej_nm_e, L_3, ieq_t, if_true, L_1, nI_add]
        obtain ⟨σcX, eX, _, _⟩ := x_gate (n := n) (σ := σc2) hnr2.1
        rw [eX]
        have := one σcX (by simpa using eX)
        simpa only [ej_bi_s, ej_bl_s, ej_bv_s, ej_nm_e, L_0] using this
end P70w
