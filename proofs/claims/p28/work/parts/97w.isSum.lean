/-! SUMS, by the law -/
theorem L_30 : (30 : Int32) = nI 30 := congrArg nI (Eq.refl 30)
def IQF (n : Nat) (fs : Nat → List Nat) (σ0 : ej_S) (tp ot : List Nat) (a b : Int32) (c : ej_S) : Prop := ∃ σr, INV n c σr ∧ QMP σ0 σr ∧ (∀ f, f < 4 → RTX σr f (fs f)) ∧ RTX σr 4 tp ∧ RX σr ot ∧ gI σr 11 = a ∧ gI σr 12 = b
theorem opT_snoc (ps : List (Nat × Nat)) (p : Nat × Nat) : opT (ps ++ [p]) = opT ps ++ ([p.1] ++ dgs p.2) := by
  induction ps with
  | nil => show p.1 :: (dgs p.2 ++ []) = _; rw [List.append_nil]; rfl
  | cons a r ih => show a.1 :: (dgs a.2 ++ opT (r ++ [p])) = a.1 :: (dgs a.2 ++ opT r) ++ _; rw [ih]; simp
theorem svF_snoc (v : SV) (ps : List (Nat × Nat)) (p : Nat × Nat) : svF v (ps ++ [p]) = svS (svF v ps) p := by unfold svF; rw [List.foldl_append]; rfl
theorem opT_len : ∀ (ps : List (Nat × Nat)), (opT ps).length ≤ 7 * ps.length
  | [] => Nat.le_refl _
  | p :: ps => by
    have h1 := opT_len ps
    have h2 := (dgs_len p.2).1
    show (dgs p.2 ++ opT ps).length + 1 ≤ 7 * (ps.length + 1)
    rw [List.length_append]; omega
section P97w
variable {n f q k x : Nat} {σ σ0 σr c τ : ej_S} {fs : Nat → List Nat} {tp ot : List Nat} {a b : Int32}
theorem IQ_F (h : IQF n fs σ0 tp ot a b c) : IQ n fs σ0 tp ot c := by
  obtain ⟨σr, h1, h2, h3, h4, h5, _⟩ := h
  exact ⟨σr, h1, h2, h3, h4, h5⟩
theorem a_fault0 (h : IQF n fs σ0 tp ot a b c) : ∃ c', IQF n fs σ0 tp ot a b c' ∧ ∀ τ : ej_S, ej_lc (m10_fault n 0 c) ((c, τ) : lw_S) = some (a, ((c', τ) : lw_S)) := by
  obtain ⟨σr, h1, h2, h3, h4, h5, h6, h7⟩ := h
  obtain ⟨c', x1, x2⟩ := ST2_get (c_fault h1 0) (show m11_fault n 0 σr = some (gI (uI σr 19 (nI 0)) 11, uI σr 19 (nI 0)) by
    unfold m11_fault
    rw [ej_nm_e, if_pos rfl, L_0])
  rw [s_II_n (by omega), h6] at x1
  refine ⟨c', ⟨_, x2, QMP_tr h2 (QMP_fr f19 (by decide) (by decide) (by decide) (by decide)), fun f hf => RTX_fr (h3 f hf) f19 (by simp) (by simp), RTX_fr h4 f19 (by simp) (by simp), RX_fr h5 f19 (by simp) (by simp), by rw [s_II_n (by omega)]; exact h6, by rw [s_II_n (by omega)]; exact h7⟩, fun τ => by rw [x1]; rfl⟩
theorem a_fault1 (h : IQF n fs σ0 tp ot a b c) : ∃ c', IQF n fs σ0 tp ot a b c' ∧ ∀ τ : ej_S, ej_lc (m10_fault n 1 c) ((c, τ) : lw_S) = some (b, ((c', τ) : lw_S)) := by
  obtain ⟨σr, h1, h2, h3, h4, h5, h6, h7⟩ := h
  obtain ⟨c', x1, x2⟩ := ST2_get (c_fault h1 1) (show m11_fault n 1 σr = some (gI (uI σr 19 (nI 0)) 12, uI σr 19 (nI 0)) by
    unfold m11_fault
    rw [ej_nm_e, if_neg (by decide), L_0])
  rw [s_II_n (by omega), h7] at x1
  refine ⟨c', ⟨_, x2, QMP_tr h2 (QMP_fr f19 (by decide) (by decide) (by decide) (by decide)), fun f hf => RTX_fr (h3 f hf) f19 (by simp) (by simp), RTX_fr h4 f19 (by simp) (by simp), RX_fr h5 f19 (by simp) (by simp), by rw [s_II_n (by omega)]; exact h6, by rw [s_II_n (by omega)]; exact h7⟩, fun τ => by rw [x1]; rfl⟩
/-- the way into a sum -/
theorem V_begin (hn : 2000 < n) (hT : RTX σr 4 tp) (hs : sld tp) : ∃ s, ej_nm (uI σr 0 4) (fun s1 => ej_nm (uI s1 1 0) fun s2 => ej_nm (uI s2 9 0) fun s3 => ej_nm (uI s3 10 0) fun s4 => m11_next n s4) = some s ∧ RS s 4 tp ∧ RD s tp tp ∧ fr [0, 1, 2, 3, 4, 5, 9, 10] [0] [] [] [] σr s ∧ m11_next n (uI (uI (uI (uI σr 0 (nI 4)) 1 (nI 0)) 9 (nI 0)) 10 (nI 0)) = some s := by
  have q1 : fr [0, 1, 9, 10] [] [] [] [] σr (uI (uI (uI (uI σr 0 (nI 4)) 1 (nI 0)) 9 (nI 0)) 10 (nI 0)) := fr_uI (fr_uI (fr_uI (fr_uI fr_rf (by simp)) (by simp)) (by simp)) (by simp)
  have hRS : RS (uI (uI (uI (uI σr 0 (nI 4)) 1 (nI 0)) 9 (nI 0)) 10 (nI 0)) 4 tp := ⟨by simp (disch := omega) only [s_IJ, s_IA, s_IB, s_IM, s_JI, s_JA, s_JB, s_JM, s_AI, s_AJ, s_AB, s_AM, s_BI, s_BJ, s_BA, s_BM, s_MI, s_MJ, s_MA, s_MB, s_II_s, s_II_n, s_JJ_s, s_JJ_n, s_AA_s, s_AA_n, s_BB_s, s_BB_n, s_MM_s, s_MM_n, pk_us, pk_un, pk_uLs, pk_uLn], by omega, RTX_fr hT q1 (by simp) (by simp)⟩
  obtain ⟨s, e, d, F⟩ := r_nx0 (n := n) hn hRS (by simp (disch := omega) only [s_IJ, s_IA, s_IB, s_IM, s_JI, s_JA, s_JB, s_JM, s_AI, s_AJ, s_AB, s_AM, s_BI, s_BJ, s_BA, s_BM, s_MI, s_MJ, s_MA, s_MB, s_II_s, s_II_n, s_JJ_s, s_JJ_n, s_AA_s, s_AA_n, s_BB_s, s_BB_n, s_MM_s, s_MM_n, pk_us, pk_un, pk_uLs, pk_uLn]) hs
  refine ⟨s, ?_, RS_fr hRS F (by simp) (by simp) (by simp), d, fr_tr (fr_wk q1 (by simp) (by simp) (by simp) (by simp) (by simp)) (fr_wk F (by simp) (by simp) (by simp) (by simp) (by simp)), e⟩
  rw [ej_nm_e, ej_nm_e, ej_nm_e, ej_nm_e, L_4, L_0, e]
theorem a_value {q0 : Nat} {ps : List (Nat × Nat)} (hn : 2000 < n) (h1 : 1 ≤ q0) (h30 : q0 ≤ 30) (hp : ∀ p ∈ ps, okOp p) (h3 : ps.length ≤ 3) : ∀ c, IQ n fs σ0 (dgs q0 ++ opT ps) ot c → ∃ c' v, IQF n fs σ0 [] ot (nI 0) (nI 0) c' ∧ v.toInt = svT (svF (0, 1, q0) ps) ∧ ∀ τ : ej_S, mL_act n 3 0 0 ((c, τ) : lw_S) = some (v, ((c', τ) : lw_S)) := by
  intro c ⟨σr, hI, q, hR, hT, hx⟩
  obtain ⟨s5, _, rs, rd, F5, e5⟩ := V_begin (n := n) hn hT dgs_sld
  obtain ⟨s6, e6, v6, d6, F6⟩ := V_sum (n := n) hn rs rd h1 h30 hp h3
  have g2 : gI s6 2 = nI 0 := RD_2 d6
  have Q6 : fr [0, 1, 2, 3, 4, 5, 9, 10, 13, 14] [0] [5, 6, 7, 8, 9, 10] [] [] σr s6 := fr_tr (fr_wk F5 (by simp) (by simp) (by simp) (by simp) (by simp)) (fr_wk F6 (by simp) (by simp) (by simp) (by simp) (by simp))
  obtain ⟨r4, r5⟩ := RTX_0 (σ := uI (uI s6 11 (nI 0)) 12 (nI 0)) (fs := fs) (fun f hf => RTX_fr (RTX_fr (hR f hf) Q6 (by simp) (by simp)) (show fr [11, 12] [] [] [] [] s6 (uI (uI s6 11 (nI 0)) 12 (nI 0)) from fr_uI (fr_uI fr_rf (by simp)) (by simp)) (by simp) (by simp))
  have F9 : fr [11, 12, 19] [] [1] [] [] s6 (uI (uA (uI (uI s6 11 (nI 0)) 12 (nI 0)) 1 4 (nI 0)) 19 (nI 0)) := fr_uI (fr_uA (fr_uI (fr_uI fr_rf (by simp)) (by simp)) (by simp)) (by simp)
  have Q9 : fr [0, 1, 2, 3, 4, 5, 9, 10, 11, 12, 13, 14, 19] [0] [1, 5, 6, 7, 8, 9, 10] [] [] σr (uI (uA (uI (uI s6 11 (nI 0)) 12 (nI 0)) 1 4 (nI 0)) 19 (nI 0)) := fr_tr (fr_wk Q6 (by simp) (by simp) (by simp) (by simp) (by simp)) (fr_wk F9 (by simp) (by simp) (by simp) (by simp) (by simp))
  have eY : m11_value n σr = some (gI s6 14, uI (uA (uI (uI s6 11 (nI 0)) 12 (nI 0)) 1 4 (nI 0)) 19 (nI 0)) := by
    unfold m11_value m11_value_51
    rw [L_4, L_0, ej_nm_e, ej_nm_e, ej_nm_e, ej_nm_e, e5, ej_bv_s, e6, ej_bi_s, if_neg n10, g2, if_pos rfl, L_1, tells_t, ej_bv_s, if_neg n10, goes_0, ej_bi_s, if_neg n10]
    rw [F9.1 14 (by simp)]
  obtain ⟨c', x1, x2⟩ := (G_one (k_value hn hI) eY).1 s_II_s
  refine ⟨c', gI s6 14, ⟨_, x2, QMP_tr q (QMP_fr Q9 (by decide) (by decide) (by decide) (by decide)), fun f hf => RTX_fr (r5 f hf) f19 (by simp) (by simp), RTX_fr r4 f19 (by simp) (by simp), RX_fr hx Q9 (by simp) (by simp), by simp (disch := omega) only [s_IJ, s_IA, s_IB, s_IM, s_JI, s_JA, s_JB, s_JM, s_AI, s_AJ, s_AB, s_AM, s_BI, s_BJ, s_BA, s_BM, s_MI, s_MJ, s_MA, s_MB, s_II_s, s_II_n, s_JJ_s, s_JJ_n, s_AA_s, s_AA_n, s_BB_s, s_BB_n, s_MM_s, s_MM_n, pk_us, pk_un, pk_uLs, pk_uLn], by simp (disch := omega) only [s_IJ, s_IA, s_IB, s_IM, s_JI, s_JA, s_JB, s_JM, s_AI, s_AJ, s_AB, s_AM, s_BI, s_BJ, s_BA, s_BM, s_MI, s_MJ, s_MA, s_MB, s_II_s, s_II_n, s_JJ_s, s_JJ_n, s_AA_s, s_AA_n, s_BB_s, s_BB_n, s_MM_s, s_MM_n, pk_us, pk_un, pk_uLs, pk_uLn]⟩, v6, fun τ => ?_⟩
  unfold mL_act
  rw [if_neg (by decide), if_neg (by decide), if_neg (by decide), if_pos rfl]
  show ej_bw (ej_lcx (m10_value n c) (c, τ)) _ _ = _
  rw [x1]; rfl
/-- the next number of the law's sum -/
theorem L_isSum_97 {o what num : Nat} {S g : Int32} {v : SV} {B : Nat} (hn : 2000 < n) (F : Int32 → Int32 → Int32 → Int32 → Int32 → Int32 → lw_S → Option (Int32 × lw_S)) (hw : (o = 43 ∧ what = 0) ∨ (o = 45 ∧ what = 1) ∨ (o = 42 ∧ what = 2) ∨ (o = 47 ∧ what = 3)) (h1 : 1 ≤ num) (h30 : num ≤ 30) (hS : S.toInt = v.1) (hg : g.toInt = v.2.1) (hB : svB v B) (hb : 30 * B ≤ 1000000) (hl : tp.length + 7 ≤ 600) (hc : IQ n fs σ0 tp ot c) (y18 y19 : Int32) : ∃ c' S' g', IQ n fs σ0 (tp ++ ([o] ++ dgs num)) ot c' ∧ S'.toInt = (svS v (o, num)).1 ∧ g'.toInt = (svS v (o, num)).2.1 ∧ mL_isSum_97 n F y18 y19 S g (nI v.2.2) (nI k) (nI num) (nI what) (nI o) (c, τ) = F y18 y19 S' g' (nI (svS v (o, num)).2.2) (nI (k + 1)) (c', τ) := by
  have hd := (dgs_len num).1
  have o256 : o < 256 := by omega
  obtain ⟨c1, i1, e1⟩ := Y_says (n := n) (fs := fs) (σ0 := σ0) (ot := ot) (τ := τ) hn o256 tp c hc (by show tp.length + 1 ≤ 600; omega)
  obtain ⟨c2, i2, e2⟩ := Y_num (n := n) (fs := fs) (σ0 := σ0) (ot := ot) (τ := τ) hn (show num < 1000000 by omega) (tp ++ [o]) c1 i1 (by rw [List.length_append]; show tp.length + 1 + _ ≤ 600; omega)
  rw [List.append_assoc] at i2
  have ht := svT_b hB
  obtain ⟨hgg, hSB, hB30⟩ := id hB
  have hP : v.2.2 ≤ 1000000 := by omega
  have eP : (nI v.2.2).toInt = (v.2.2 : Int) := nI_toInt (by omega)
  have em : (g * nI v.2.2).toInt = v.2.1 * (v.2.2 : Int) := by
    rw [fb_mulI (by rw [hg, eP]; rcases hgg with z | z <;> rw [z] <;> omega) (by rw [hg, eP]; rcases hgg with z | z <;> rw [z] <;> omega), hg, eP]
  have ea : (S + g * nI v.2.2).toInt = svT v := by
    rw [fb_addI (by rw [hS, em]; rcases hgg with z | z <;> rw [z] <;> omega) (by rw [hS, em]; rcases hgg with z | z <;> rw [z] <;> omega), hS, em]; rfl
  have e0 : S + 0 = S := add_0 S
  unfold mL_isSum_97 mL_isSum_122 mL_isSum_145
  rw [e1, ej_bv_s, e2, ej_bv_s]
  rcases hw with ⟨rfl, rfl⟩ | ⟨rfl, rfl⟩ | ⟨rfl, rfl⟩ | ⟨rfl, rfl⟩
  · refine ⟨c2, S + g * nI v.2.2, 1, i2, by rw [ea]; rfl, (show (1 : Int32).toInt = 1 by decide +kernel), ?_⟩
    rw [show (2 : Int32) = nI 2 from L_2, ile_f (by omega) (by omega), ej_nm_e, if_pos (show nI 0 = (0 : Int32) from L_0.symm), ile_f (by omega) (by omega), p_1, ej_nm_e]; rfl
  · refine ⟨c2, S + g * nI v.2.2, -1, i2, by rw [ea]; rfl, (show (-1 : Int32).toInt = -1 by decide +kernel), ?_⟩
    rw [show (2 : Int32) = nI 2 from L_2, ile_f (by omega) (by omega), ej_nm_e, if_neg (show ¬ nI 1 = (0 : Int32) by decide +kernel), if_pos (show nI 1 = (1 : Int32) from L_1.symm), ile_f (by omega) (by omega), p_1, ej_nm_e]; rfl
  · refine ⟨c2, S, g, i2, hS, hg, ?_⟩
    rw [show (2 : Int32) = nI 2 from L_2, ile_t (by omega) (by omega), ej_nm_e, if_neg (show ¬ nI 2 = (0 : Int32) by decide +kernel), if_neg (show ¬ nI 2 = (1 : Int32) by decide +kernel), ile_t (by omega) (by omega), if_pos rfl, pk_mul, p_1, ej_nm_e, ej_nm_e, e0]; rfl
  · refine ⟨c2, S, g, i2, hS, hg, ?_⟩
    rw [show (2 : Int32) = nI 2 from L_2, ile_t (by omega) (by omega), ej_nm_e, if_neg (show ¬ nI 3 = (0 : Int32) by decide +kernel), if_neg (show ¬ nI 3 = (1 : Int32) by decide +kernel), ile_t (by omega) (by omega), ieq_f (by omega) (by omega) (by omega), dv_t (by omega) (by omega), pk_div (by omega) (by omega) (by omega), p_1, ej_nm_e, ej_nm_e, e0]; rfl
theorem L_isSum_30 {q0 many : Nat} (hn : 2000 < n) (h1 : 1 ≤ q0) (h30 : q0 ≤ 30) (hx : x < 2 ^ 31) (hm : many ≤ 4) : ∀ (fu : Nat) (ps : List (Nat × Nat)) (S g : Int32) (c : ej_S), IQ n fs σ0 (dgs q0 ++ opT ps) ot c → (∀ p ∈ ps, okOp p) → ps.length + 1 ≤ many → many - (ps.length + 1) < fu → S.toInt = (svF (0, 1, q0) ps).1 → g.toInt = (svF (0, 1, q0) ps).2.1 → ∃ c', IQ n fs σ0 [] ot c' ∧ mL_isSum_30 n fu (nI x) (nI many) S g (nI (svF (0, 1, q0) ps).2.2) (nI (ps.length + 1)) (c, τ) = some (nI 1, (c', τ)) := by
  intro fu
  induction fu with
  | zero => intro ps S g c _ _ _ z; omega
  | succ fu ih =>
    intro ps S g c hc hp hk hf hS hg
    have hB0 : svB ((0, 1, q0) : SV) 30 := ⟨.inl rfl, by show (0 : Int).natAbs + q0 ≤ 30; omega, by omega⟩
    have hB := svF_B ps (0, 1, q0) 30 hB0 hp
    have hb : 30 ^ ps.length * 30 ≤ 810000 := by
      have : ps.length = 0 ∨ ps.length = 1 ∨ ps.length = 2 ∨ ps.length = 3 := by omega
      rcases this with z | z | z | z <;> rw [z] <;> decide
    have ht := svT_b hB
    obtain ⟨hgg, hSB, hB30⟩ := id hB
    rw [u_L_isSum_30]
    rcases Nat.eq_or_lt_of_le hk with z | z
    · obtain ⟨c1, v, i1, v1, e1⟩ := a_value (n := n) (fs := fs) (σ0 := σ0) (ot := ot) hn h1 h30 hp (by omega) c hc
      obtain ⟨c2, i2, e2⟩ := a_fault0 i1
      obtain ⟨c3, i3, e3⟩ := a_fault1 i2
      refine ⟨c3, IQ_F i3, ?_⟩
      have eP : (nI (svF (0, 1, q0) ps).2.2).toInt = ((svF (0, 1, q0) ps).2.2 : Int) := nI_toInt (by omega)
      have em : (g * nI (svF (0, 1, q0) ps).2.2).toInt = (svF (0, 1, q0) ps).2.1 * ((svF (0, 1, q0) ps).2.2 : Int) := by
        rw [fb_mulI (by rw [hg, eP]; rcases hgg with z | z <;> rw [z] <;> omega) (by rw [hg, eP]; rcases hgg with z | z <;> rw [z] <;> omega), hg, eP]
      have ea : (S + g * nI (svF (0, 1, q0) ps).2.2).toInt = svT (svF (0, 1, q0) ps) := by
        rw [fb_addI (by rw [hS, em]; rcases hgg with z | z <;> rw [z] <;> omega) (by rw [hS, em]; rcases hgg with z | z <;> rw [z] <;> omega), hS, em]; rfl
      have ev : v = S + g * nI (svF (0, 1, q0) ps).2.2 := Int32.toInt_inj.mp (by rw [v1, ea])
      rw [z, ile_t (Nat.le_refl _) (by omega), e1 τ, ej_bi_s, if_pos ev, e2 τ, ej_bi_s, if_pos L_0.symm, e3 τ, ej_bi_s, if_pos L_0.symm, L_1]
    · have hl : (dgs q0 ++ opT ps).length + 7 ≤ 600 := by
        have := (dgs_len q0).1
        have := opT_len ps
        rw [List.length_append]; omega
      have hm30 : x / (4 + 3 * (ps.length + 1)) % 30 < 30 := Nat.mod_lt _ (by omega)
      have hm4 : x / (40 + (ps.length + 1)) % 4 < 4 := Nat.mod_lt _ (by omega)
      have d1 : x / (4 + 3 * (ps.length + 1)) ≤ x := Nat.div_le_self _ _
      have d2 : x / (40 + (ps.length + 1)) ≤ x := Nat.div_le_self _ _
      have go : ∀ o, ((o = 43 ∧ x / (40 + (ps.length + 1)) % 4 = 0) ∨ (o = 45 ∧ x / (40 + (ps.length + 1)) % 4 = 1) ∨ (o = 42 ∧ x / (40 + (ps.length + 1)) % 4 = 2) ∨ (o = 47 ∧ x / (40 + (ps.length + 1)) % 4 = 3)) → ∃ c', IQ n fs σ0 [] ot c' ∧ mL_isSum_97 n (mL_isSum_30 n fu) (nI x) (nI many) S g (nI (svF (0, 1, q0) ps).2.2) (nI (ps.length + 1)) (nI (1 + x / (4 + 3 * (ps.length + 1)) % 30)) (nI (x / (40 + (ps.length + 1)) % 4)) (nI o) (c, τ) = some (nI 1, (c', τ)) := by
        intro o ho
        have hok : okOp (o, 1 + x / (4 + 3 * (ps.length + 1)) % 30) := ⟨by show o = 42 ∨ o = 47 ∨ o = 43 ∨ o = 45; omega, by show 1 ≤ 1 + _; omega, by show 1 + _ ≤ 30; omega⟩
        have hb' : 30 * (30 ^ ps.length * 30) ≤ 1000000 := by
          have : ps.length = 0 ∨ ps.length = 1 ∨ ps.length = 2 := by omega
          rcases this with z | z | z <;> rw [z] <;> decide
        obtain ⟨c1, S1, g1, i1, a1, a2, e1⟩ := L_isSum_97 (n := n) (k := ps.length + 1) (τ := τ) (S := S) (g := g) hn (mL_isSum_30 n fu) ho (show 1 ≤ 1 + x / (4 + 3 * (ps.length + 1)) % 30 by omega) (by omega) hS hg hB hb' hl hc (nI x) (nI many)
        rw [List.append_assoc, ← opT_snoc ps (o, 1 + x / (4 + 3 * (ps.length + 1)) % 30)] at i1
        rw [← svF_snoc] at a1 a2 e1
        obtain ⟨c2, i2, e2⟩ := ih (ps ++ [(o, 1 + x / (4 + 3 * (ps.length + 1)) % 30)]) S1 g1 c1 i1 (fun p hp' => by
          rcases List.mem_append.mp hp' with y | y
          · exact hp p y
          · rw [List.mem_singleton.mp y]; exact hok) (by rw [List.length_append]; show ps.length + 1 + 1 ≤ many; omega) (by rw [List.length_append]; show many - (ps.length + 1 + 1) < fu; omega) a1 a2
        rw [List.length_append] at e2
        exact ⟨c2, i2, by rw [e1]; exact e2⟩
      rw [ile_f z (by omega), L_1, L_3, L_4, L_30, L_40, pk_mul, nI_add, dv_t (by omega) (by omega), pk_div (by omega) (by omega) (by omega), pk_div (by omega) (by omega) (by omega), pk_mul, pk_sub (Nat.div_mul_le_self _ _), nI_add, ej_nm_e, nI_add, dv_t (by omega) (by omega), pk_div (by omega) (by omega) (by omega), pk_div (by omega) (by omega) (by omega), pk_mul, pk_sub (Nat.div_mul_le_self _ _), ej_nm_e, show x / (4 + 3 * (ps.length + 1)) - x / (4 + 3 * (ps.length + 1)) / 30 * 30 = x / (4 + 3 * (ps.length + 1)) % 30 by omega, show x / (40 + (ps.length + 1)) - x / (40 + (ps.length + 1)) / 4 * 4 = x / (40 + (ps.length + 1)) % 4 by omega]
      rw [L_0, L_2, show (43 : Int32) = nI 43 from L_43, show (45 : Int32) = nI 45 from L_45, show (42 : Int32) = nI 42 from L_42, show (47 : Int32) = nI 47 from L_47]
      by_cases w0 : x / (40 + (ps.length + 1)) % 4 = 0
      · rw [ieq_t w0]; exact go 43 (.inl ⟨rfl, w0⟩)
      · rw [ieq_f w0 (by omega) (by omega)]
        by_cases w1 : x / (40 + (ps.length + 1)) % 4 = 1
        · rw [ieq_t w1]; exact go 45 (.inr (.inl ⟨rfl, w1⟩))
        · rw [ieq_f w1 (by omega) (by omega)]
          by_cases w2 : x / (40 + (ps.length + 1)) % 4 = 2
          · rw [ieq_t w2]; exact go 42 (.inr (.inr (.inl ⟨rfl, w2⟩)))
          · rw [ieq_f w2 (by omega) (by omega)]; exact go 47 (.inr (.inr (.inr ⟨rfl, by omega⟩)))
theorem L_isSum (hn : 2000 < n) (hx : x < 2 ^ 31) (hc : IQ n fs σ0 [] ot c) : ∃ c', IQ n fs σ0 [] ot c' ∧ mL_isSum n (nI x) (c, τ) = some (nI 1, (c', τ)) := by
  have hd : x / 4 ≤ x := Nat.div_le_self _ _
  have hm : x / 4 % 30 < 30 := Nat.mod_lt _ (by omega)
  have hm4 : x % 4 < 4 := Nat.mod_lt _ (by omega)
  have hdl := (dgs_len (1 + x / 4 % 30)).1
  obtain ⟨c1, i1, e1⟩ := Y_num (n := n) (fs := fs) (σ0 := σ0) (ot := ot) (τ := τ) (q := 1 + x / 4 % 30) hn (by omega) [] c hc (by show 0 + _ ≤ 600; omega)
  obtain ⟨c2, i2, e2⟩ := L_isSum_30 (n := n) (q0 := 1 + x / 4 % 30) (x := x) (many := 1 + x % 4) (τ := τ) (fs := fs) (σ0 := σ0) (ot := ot) hn (by omega) (by omega) hx (by omega) 5 [] 0 1 c1 (by show IQ n fs σ0 (dgs (1 + x / 4 % 30) ++ []) ot c1; rw [List.append_nil]; exact i1) (fun p hp => by cases hp) (by show 0 + 1 ≤ _; omega) (by show 1 + x % 4 - (0 + 1) < 5; omega) (show (0 : Int32).toInt = 0 by decide +kernel) (show (1 : Int32).toInt = 1 by decide +kernel)
  refine ⟨c2, i2, ?_⟩
  unfold mL_isSum
  rw [show (4 : Int32) = nI 4 from L_4, show (30 : Int32) = nI 30 from L_30, pk_div (by omega) (by omega) (by omega), pk_mul, pk_sub (Nat.div_mul_le_self _ _), pk_div (by omega) (by omega) (by omega), pk_mul, pk_sub (Nat.div_mul_le_self _ _), show x - x / 4 * 4 = x % 4 by omega, show x / 4 - x / 4 / 30 * 30 = x / 4 % 30 by omega, show (1 : Int32) + nI (x % 4) = nI (1 + x % 4) by rw [L_1, nI_add], show (1 : Int32) + nI (x / 4 % 30) = nI (1 + x / 4 % 30) by rw [L_1, nI_add], ej_nm_e, ej_nm_e, e1, ej_bv_s]
  exact e2
end P97w
