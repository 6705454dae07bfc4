/-! 71.read once more, for fewer texts (made by mkweak.py) -/
section P71w
variable {κ : ej_S} {W : Prop} {n f fl c i : Nat} {b : Bool} {σ σc σr : ej_S} {l : List Nat}
theorem x_listAheadw (hx : PX n f c l) (h : PSw κ W b f fl c l i σc σr) : (∃ k, (k = 1 ∨ k = 2 ∨ k = 3) ∧ sr l (bg l (i + 1)) = 123 ∧ tk l (bg l i) = kwd k ∧ m4_listAhead n σc = some (nI k, σc)) ∨ ((∀ k, (k = 1 ∨ k = 2 ∨ k = 3) → ¬ (sr l (bg l (i + 1)) = 123 ∧ tk l (bg l i) = kwd k)) ∧ m4_listAhead n σc = some (nI 0, σc)) := by
  have hc6 := hx.2.2.2.1
  have hn := hx.1
  obtain ⟨h1, h2, h3, h4, h5, h6, h7, h8, h9⟩ := h
  have hs := sr_lt hx.2.2.2.2.1 (bg l (i + 1))
  have e0 : m4_listAhead n σc = (if sr l (bg l (i + 1)) = 123 then ej_bi (m8_isAt n 0 (nI i) σc) fun r4 s3 => (if r4 = nI 0 then ej_bi (m8_isAt n 1 (gI s3 30) s3) fun r6 s5 => (if r6 = nI 0 then ej_bi (m8_isAt n 2 (gI s5 30) s5) fun r8 s7 => (if r8 = nI 0 then (some (nI 0, s7)) else (some (nI 3, s7))) else (some (nI 2, s5))) else (some (nI 1, s3))) else (some (nI 0, σc))) := by
    unfold m4_listAhead
    rw [h4, L_1, nI_add, x_sortAt h1 (by omega), ej_bi_s, L_123]
    rw [h4]
    simp only [nI_eq (show sr l (bg l (i + 1)) < 2 ^ 31 by omega) (show 123 < 2 ^ 31 by omega), L_0, L_3, L_2]
  rw [e0]
  by_cases g : sr l (bg l (i + 1)) = 123
  · rw [if_pos g]
    have a0 : m8_isAt n 0 (nI i) σc = some (bI (decide (tk l (bg l i) = kwd 1)), σc) := x_isAt hn h1 SPW_0 (by omega)
    have a1 : m8_isAt n 1 (nI i) σc = some (bI (decide (tk l (bg l i) = kwd 2)), σc) := x_isAt hn h1 SPW_1 (by omega)
    have a2 : m8_isAt n 2 (nI i) σc = some (bI (decide (tk l (bg l i) = kwd 3)), σc) := x_isAt hn h1 SPW_2 (by omega)
    rw [a0, ej_bi_s, ibI, h4, a1, ej_bi_s, ibI, h4, a2, ej_bi_s, ibI]
    simp only [decide_eq_true_eq]
    by_cases g1 : tk l (bg l i) = kwd 1
    · rw [if_pos g1]; exact .inl ⟨1, .inl rfl, g, g1, rfl⟩
    · rw [if_neg g1]
      by_cases g2 : tk l (bg l i) = kwd 2
      · rw [if_pos g2]; exact .inl ⟨2, .inr (.inl rfl), g, g2, rfl⟩
      · rw [if_neg g2]
        by_cases g3 : tk l (bg l i) = kwd 3
        · rw [if_pos g3]; exact .inl ⟨3, .inr (.inr rfl), g, g3, rfl⟩
        · rw [if_neg g3]
          refine .inr ⟨fun k hk z => ?_, rfl⟩
          rcases hk with rfl | rfl | rfl
          · exact g1 z.2
          · exact g2 z.2
          · exact g3 z.2
  · rw [if_neg g]; exact .inr ⟨fun k hk z => g z.1, rfl⟩
theorem PRES_bzw {X Y : Option (Int32 × ej_S)} (h : PRESw κ W b f fl c l i σc σr X Y) : PRESw κ W b f fl c l i σc σr X (ej_bi Y fun r s => some (ej_bz r, s)) := by
  obtain ⟨ok, σc', σr', e1, e2, r⟩ := h
  exact ⟨ok, σc', σr', e1, by rw [e2, ej_bi_s, bz_b], r⟩
theorem PRES_upw {j : Nat} {s t : ej_S} (h : PRESw κ W b f fl c l i σc σr (some (nI 0, s)) (some (nI 0, t))) : PRESw κ W b f fl c l j σc σr (some (nI 0, s)) (some (nI 0, t)) := by
  obtain ⟨ok, σc', σr', e1, e2, f1, f2, m1, s1, g1, g2⟩ := h
  cases ok
  · exact ⟨false, σc', σr', e1, e2, f1, f2, m1, s1, fun z => (by cases z), g2⟩
  · exact absurd (Prod.mk.inj (Option.some.inj e1)).1 n01
theorem s_statementw (hx : PX n f c l) (h : PSw κ W b f fl c l i σc σr) : PRESw κ W b f fl c l (i + 1) σc σr (stC n σc) (m11_isStatement n σr) := by
  have hn := hx.1
  have hc6 := hx.2.2.2.1
  have hic := h.2.2.2.2.1
  have hb6 := hx.2.2.2.2.1
  obtain ⟨n', hn'⟩ : ∃ n', n = n' + 1 := ⟨n - 1, by omega⟩
  unfold stC
  rcases x_listAheadw hx h with ⟨kd, hkd, g1, g2, e0⟩ | ⟨g0, e0⟩
  · -- a list
    obtain ⟨w1, w2, w3, w4, d, r, w5, w6⟩ := kwd_lw kd hkd
    have hp : bg l i < l.length := by
      rcases Nat.lt_or_ge (bg l i) l.length with z | z
      · exact z
      · have : tk l (bg l i) = [] := by unfold tk; rw [List.drop_eq_nil_of_le z]; rfl
        rw [this, w5] at g2; cases g2
    have hsr : sr l (bg l i) = 97 := by
      have := tk_cons hp
      rw [g2, w5] at this
      have e : d = cd l (bg l i) := (List.cons.inj this).1
      unfold sr; rw [cd_drop hp]; show srtc (cd l (bg l i)) = 97; rw [← e]; exact w6
    have hkd0 : ¬ nI kd = 0 := nI_ne0 (by omega) (by omega)
    rw [e0, ej_bi_s, if_neg hkd0]
    have hname : m11_isName n σr = some (nI 1, σr) ∧ gJ σr 0 = lw kd := by
      rcases s_namew hx h false with ⟨kk, k1, k2, e1, e2⟩ | ⟨q1, q2, q3, q4, q5, _⟩
      · exfalso
        -- the name is short
        have hlen := tk_len (l := l) (p := bg l i) (by omega)
        rw [g2] at hlen
        unfold m11_isName at e2
        rw [L_1, if_pos ((PX_tok1 hx h.2.1).1.mpr hsr), (h.2.1.1.2.2.2.1 hsr).1, L_8, ile_t (by omega) (by omega)] at e2
        exact n10 (Prod.mk.inj (Option.some.inj e2)).1
      · exact ⟨q5, by rw [q3, g2, ← w1]⟩
    obtain ⟨σr1, e1, h1, f1, f1', f1''⟩ := PS_stepw hx h (by omega)
    obtain ⟨σr2, e2, h2, f2, f2', f2''⟩ := PS_stepw hx h1 (by omega)
    have ht123 : gI σr1 2 = nI 123 := (PX_tok hx h1.2.1 (by omega) (by omega) (by omega) (by omega) (by omega) (by omega)).mpr g1
    have er : m11_isStatement n σr = ej_bi (m11_isList n (lw kd) σr1) fun r18 s17 => (some (ej_bz r18, s17)) := by
      unfold m11_isStatement
      rw [hname.1, ej_bi_s, if_neg (show ¬ nI 1 = 0 from n10), ej_nm_e, e1, ej_bv_s, L_123, if_pos ht123, hname.2]
      rcases hkd with rfl | rfl | rfl
      · rw [if_pos ((cmp_eq _ _).mpr lw_11)]
      · rw [if_neg (fun z => lw_21 ((cmp_eq _ _).mp z)), if_pos ((cmp_eq _ _).mpr lw_22)]
      · rw [if_neg (fun z => lw_31 ((cmp_eq _ _).mp z)), if_neg (fun z => lw_32 ((cmp_eq _ _).mp z)), if_pos ((cmp_eq _ _).mpr lw_3)]
    rw [er]
    refine PRES_bzw ?_
    unfold m11_isList
    rw [e2, ej_bv_s]
    have ec : m4_readList n (nI kd) σc = m4_readList_43 n (m4_readList_12 n n') (nI kd) (nI 0) (bI (decide (kd = 2))) (uI (uI σc 30 (nI (i + 1))) 30 (nI (i + 1 + 1))) := by
      unfold m4_readList
      have e12 : m4_readList_12 n n = m4_readList_12 n (n' + 1) := by rw [← hn']
      have eu : uI σc 30 (gI σc 30 + 2) = uI (uI σc 30 (nI (i + 1))) 30 (nI (i + 1 + 1)) := by
        rw [h.2.2.2.1, L_2, nI_add]
        unfold uI
        refine Prod.ext ?_ rfl
        funext j
        unfold va_up
        by_cases z : j = 30 <;> simp [z]
      rw [ej_nm_e, e12, u_4_readList_12, L_600, L_0, ilt_f (by omega) (by omega), if_pos rfl, eu]
      rcases hkd with rfl | rfl | rfl
      · rw [L_2, if_neg (by decide +kernel)]; rfl
      · rw [L_2, if_pos rfl]; rfl
      · rw [L_2, if_neg (by decide +kernel)]; rfl
    have e6 : m11_isList_6 n n = m11_isList_6 n (n' + 1) := by rw [← hn']
    rw [ec, e6]
    refine PRES_trw (fr_tr f1 f2) (fr_tr f1' f2') (mono_tr (mono_next f1'') (mono_next f2'')) (fun _ => ms_tr (ms_next f1'') (ms_next f2'')) (show i + 1 ≤ i + 1 + 1 by omega) ?_
    exact s_listw hx hkd 601 0 (i + 1 + 1) _ σr2 n' n' (by omega) (by omega) (by omega) h2 (Nat.zero_le _)
  · -- no list
    rw [e0, ej_bi_s, if_pos (show nI 0 = 0 from rfl)]
    unfold m11_isStatement
    rcases s_namew hx h false with ⟨kk, k1, k2, e1, e2⟩ | ⟨q1, q2, q3, q4, q5, q6⟩
    · rw [bI_f] at e1
      rw [L_0, e1, e2]
      have := PRES_upw (j := i + 1) (PRES_herew hx h (k := kk) ⟨k1, k2⟩)
      simp (disch := omega) only [ej_bi_s, ej_bl_s, ej_bv_s, ej_nm_e, L_0, ieq_t, if_true]
      exact this
    · -- the reference reads on, then takes the name
      obtain ⟨p1, p2, p3, p4, p5, p6, p7, p8, p9⟩ := id h
      obtain ⟨σr1, e3, r1, f1⟩ := RT_next hn p2
      have hm1 : MRw κ W f b σc σr1 := MR_frw p6 (fr_rf (I := []) (J := []) (A := []) (B := []) (M := [])) f1 (by decide) (by decide) (by decide) (by decide) (by decide) (by decide) (by decide) (by decide) (by decide) (by decide) (by decide) (by decide) (by decide) (by decide) (by decide) (by decide) (by decide) (by decide) (by decide) (by decide) (by decide) (by decide) (by decide) (by decide) (by decide) (by decide) (by decide) (by decide) (by decide)
      obtain ⟨x, y, σc2, σr2, e4, e5, m2, nr2, e6, e7, f2, f2', mo2, ms2⟩ := q6 σr1 hm1 (by rw [f1.1 6 (by decide)]; exact p7) (fun z => by rw [f1.1 7 (by decide)]; exact p8 z)
      simp only [Bool.false_eq_true, if_false] at e5
      have hi1 := PX_next hx p5 (by omega : sr l (bg l i) ≠ 0)
      have h2 : PSw κ W b f fl c l (i + 1) σc2 σr2 := by
        refine ⟨TK_fr p1 f2 (by decide) (by decide) (by decide) (by decide) (by decide) (by decide) (by decide), RT_fr r1 f2' (by decide) (by decide) (by decide) (by decide) (by decide) (by decide) (by decide) (by decide) (by decide), RW_fr (RW_fr p3 f1 (by decide) (by decide)) f2' (by decide) (by decide), e7, hi1, m2, ?_, ?_, ?_⟩
        · rw [f2'.1 6 (by decide), f1.1 6 (by decide)]; exact p7
        · rw [f2'.1 7 (by decide), f1.1 7 (by decide)]; exact p8
        · rw [f2.1 29 (by decide)]; exact p9
      have hk123 : gI σr1 2 = nI 123 ↔ sr l (bg l (i + 1)) = 123 := PX_tok hx r1 (by omega) (by omega) (by omega) (by omega) (by omega) (by omega)
      have hnl : ∀ k, (k = 1 ∨ k = 2 ∨ k = 3) → gI σr1 2 = nI 123 → ¬ gJ σr 0 = lw k := by
        intro k hk z1 z2
        obtain ⟨w1, w2, w3, w4, _⟩ := kwd_lw k hk
        rw [q3, w1] at z2
        have hp : bg l i < l.length := by
          rcases Nat.lt_or_ge (bg l i) l.length with z | z
          · exact z
          · have := (sr_0 hb6 (bg l i)).mpr z; omega
        have htkb : ∀ d ∈ tk l (bg l i), isNP d = true := by
          intro d hd
          rw [tk_cons hp] at hd
          rcases List.mem_cons.mp hd with e | e
          · subst e
            have : srtc (cd l (bg l i)) = 97 := by have := q1; unfold sr at this; rw [cd_drop hp] at this; exact this
            have := srtc_ns (cd_b hb6 hp) this
            simp [isNP, this]
          · have := spn_all _ _ _ e
            rw [q1, gon_97] at this; exact this
        have hlt := pkL_7 (tk l (bg l i)) (fun d hd => (isNP_rg (htkb d hd)).2) (by rw [tk_len (by omega)]; exact q2)
        have := (fb_lN_inj hlt w4).mp z2
        have := pkL_inj _ _ (fun d hd => by have := isNP_rg (htkb d hd); omega) w3 this
        exact g0 k hk ⟨hk123.mp z1, this⟩
      have er : (if gI σr1 2 = nI 123 then (if lg_cmp (gJ σr 0) 1684104548 = 0 then ej_bi (m11_isList n (gJ σr 0) σr1) fun r18 s17 => (some (ej_bz r18, s17)) else (if lg_cmp (gJ σr 0) 28556934595048048 = 0 then ej_bi (m11_isList n (gJ σr 0) σr1) fun r20 s19 => (some (ej_bz r20, s19)) else (if lg_cmp (gJ σr 0) 431198855527 = 0 then ej_bi (m11_isList n (gJ σr 0) σr1) fun r22 s21 => (some (ej_bz r22, s21)) else (m11_isStatement_57 n (gJ σr 0) σr1)))) else (m11_isStatement_57 n (gJ σr 0) σr1)) = m11_isStatement_57 n (gJ σr 0) σr1 := by
        by_cases z : gI σr1 2 = nI 123
        · rw [if_pos z, if_neg (fun w => hnl 1 (.inl rfl) z (((cmp_eq _ _).mp w).trans lw_11.symm)), if_neg (fun w => hnl 2 (.inr (.inl rfl)) z (((cmp_eq _ _).mp w).trans lw_22.symm)), if_neg (fun w => hnl 3 (.inr (.inr rfl)) z (((cmp_eq _ _).mp w).trans lw_3.symm))]
        · rw [if_neg z]
      rw [q5, ej_bi_s, if_neg (show ¬ nI 1 = 0 from n10), ej_nm_e, e3, ej_bv_s, L_123, er]
      unfold m11_isStatement_57
      rw [e5, ej_bi_s]
      have e4' : m4_takeName n 0 σc = some (nI 1, σc2) := e4
      rw [e4', ej_bi_s, if_neg (show ¬ nI 1 = 0 from n10)]
      have hf : FC σc σc2 := fr_wk f2 (by simp) (by simp) (by simp) (by simp) (by simp)
      have hg : FR σr σr2 := fr_tr (fr_wk f1 (by simp) (by simp) (by simp) (by simp) (by simp)) (fr_wk f2' (by simp) (by simp) (by simp) (by simp) (by simp))
      refine PRES_trw hf hg (mono_tr (mono_next f1) mo2) (fun z => ms_tr (ms_next f1) (ms2 z)) (Nat.le_refl (i + 1)) ?_
      rw [L_61]
      rcases s_needw (K := 61) hx h2 (by omega) (by omega) (by omega) (by omega) (by omega) (by omega) with ⟨t1, t2, σr3, e8, e9, h3, f3, g3, m3, s3⟩ | ⟨t1, e8⟩
      · -- with =
        have h32 : gI (uI σc2 30 (nI (i + 1 + 1))) 32 = x := by rw [s_II_n (by omega)]; exact e6
        rw [e8, ej_bi_s, if_neg (show ¬ nI 1 = 0 from n10), if_pos t2, e9, ej_bv_s, PS_sortw hx h3, ej_bi_s, h32]
        refine PRES_trw f3 g3 m3 s3 (Nat.le_succ _) ?_
        have nr3 := NR_monow nr2 m3
        have hs3 := sr_lt hb6 (bg l (i + 1 + 1))
        have k64 := PX_tok hx h3.2.1 (K := 64) (by omega) (by omega) (by omega) (by omega) (by omega) (by omega)
        have k123 := PX_tok hx h3.2.1 (K := 123) (by omega) (by omega) (by omega) (by omega) (by omega) (by omega)
        rw [L_97, L_64, L_123]
        by_cases z97 : sr l (bg l (i + 1 + 1)) = 97
        · rw [if_pos (by rw [z97]), if_neg (fun z => by have := k64.mp z; omega), if_neg (fun z => by have := k123.mp z; omega)]
          refine PRES_bzw ?_
          exact s_aliases_2w hx 601 0 (i + 1 + 1) _ σr3 n n (by omega) (by omega) (by omega) h3 nr3 (Nat.zero_le _)
        · rw [if_neg (fun z => z97 ((nI_eq (by omega) (by omega)).mp z))]
          by_cases z64 : sr l (bg l (i + 1 + 1)) = 64
          · rw [if_pos (k64.mpr z64)]
            exact PRES_bzw (s_readMembersw hx h3 nr3)
          · rw [if_neg (fun z => z64 (k64.mp z))]
            by_cases z123 : sr l (bg l (i + 1 + 1)) = 123
            · rw [if_pos (k123.mpr z123)]
              exact PRES_bzw (s_readMembersw hx h3 nr3)
            · rw [if_neg (fun z => z123 (k123.mp z))]
              refine PRES_bzw ?_
              -- neither: told alike
              have ec : m4_readMembers n x (uI σc2 30 (nI (i + 1 + 1))) = some (nI 0, uI (uI (uI σc2 30 (nI (i + 1 + 1))) 10 (nI 1)) 11 (nI (bg l (i + 1 + 1)))) := by
                unfold m4_readMembers
                rw [L_64, x_takew hx h3 (by omega), if_neg z64, ej_bi_s, L_123, x_takew hx h3 (by omega), if_neg z123, ej_bi_s, if_pos (show nI 0 = 0 from rfl), x_misplacedw hx h3, ej_bi_s, bz_n0]
              have er : m11_areOthers n y σr3 = some (nI 0, uI (uI σr3 9 (nI 1)) 10 (nI (bg l (i + 1 + 1)))) := by
                have eo : m11_areOthers_2 n n = m11_areOthers_2 n (n' + 1) := by rw [← hn']
                have en : m11_isName n σr3 = some (nI 0, uI (uI σr3 9 (nI 1)) 10 (nI (bg l (i + 1 + 1)))) := by
                  unfold m11_isName
                  rw [L_1, if_neg (fun z => z97 ((PX_tok1 hx h3.2.1).1.mp z)), r_herew h3, ej_bi_s, bz_n0]
                unfold m11_areOthers
                rw [eo, u_11_areOthers_2, if_neg (by decide), en, ej_bi_s, if_pos (show nI 0 = 0 from rfl)]; rfl
              rw [ec, er]
              exact PRES_herew hx h3 (k := 1) ⟨by omega, by omega⟩
      · -- links
        rw [e8, ej_bi_s, if_pos (show nI 0 = 0 from rfl), if_neg t1, e6]
        refine PRES_bzw ?_
        exact s_links_2w hx 601 0 (i + 1) σc2 σr2 n n (by omega) (by omega) (by omega) h2 nr2 (Nat.zero_le _)
end P71w
