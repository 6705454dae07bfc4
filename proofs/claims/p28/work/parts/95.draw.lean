/-! THE MAP DRAWN, BY BOTH -/
abbrev DF (σ σ' : ej_S) : Prop := fr [6, 10, 11, 12, 13, 14, 15, 16, 17, 18, 19, 20, 21, 22, 23, 24, 25, 26, 27, 28, 29, 30, 31, 32, 33] [] [6, 10, 11, 12, 13, 14, 15, 16, 17, 18, 19, 20, 21, 22, 23] [0, 1] [0, 1] σ σ'
abbrev DF2 (σ σ' : ej_S) : Prop := fr [6, 10, 11, 12, 13, 14, 15, 16, 17, 18, 19, 20, 21, 22, 23, 24, 25, 26, 27, 28, 29, 30, 31, 32, 33, 34, 35] [] [6, 10, 11, 12, 13, 14, 15, 16, 17, 18, 19, 20, 21, 22, 23] [0, 1] [0, 1] σ σ'
abbrev EF (σ σ' : ej_S) : Prop := fr [0, 1, 2, 3, 4, 5, 7, 8, 9, 10, 13, 14, 15, 16] [0] [2, 5, 6, 7, 8, 9, 10, 11, 12, 13, 14, 15, 16, 17, 18, 19, 20] [1] [] σ σ'
abbrev EF2 (σ σ' : ej_S) : Prop := fr [0, 1, 2, 3, 4, 5, 6, 7, 8, 9, 10, 13, 14, 15, 16] [0] [2, 5, 6, 7, 8, 9, 10, 11, 12, 13, 14, 15, 16, 17, 18, 19, 20, 21, 22, 23, 24, 25, 26] [1] [] σ σ'
def clr (σ : ej_S) (x : Nat) : Prop := gA σ 19 x = nI 0 ∧ gA σ 20 x = nI 0 ∧ gA σ 21 x = nI 0 ∧ gA σ 22 x = nI 0 ∧ gA σ 23 x = nI 0
def ri (σ : ej_S) (x : Nat) : Prop := gA σ 16 x = zm ∧ gA σ 17 x = nI 0 ∧ gA σ 18 x = nI 0 ∧ gA σ 19 x = nI 0 ∧ gA σ 20 x = zm
def rj (σ : ej_S) (x : Nat) : Prop := gA σ 12 x = nI 0 ∧ gA σ 13 x = nI 0 ∧ gA σ 14 x = nI 0 ∧ gA σ 15 x = nI 0
/-- a text without a fault -/
def snd (n : Nat) (l : List Nat) : Prop := ∃ (σ σ' : ej_S) (fl : Nat), fl < 5 ∧ RTX σ fl l ∧ RW σ ∧ gI σ 6 = nI 0 ∧ m11_isRead n (nI fl) σ = some (nI 1, σ')
/-- which text of the class is read for a file -/
def tn (r : Int32) (f : Nat) : Nat := if nI f = r then 0 else 2 + f
theorem tn_lt {r : Int32} {f : Nat} (hf : f < 4) : tn r f < 6 ∧ tn r f ≠ 1 := by
  unfold tn
  split <;> omega
section P95
variable {n f : Nat} {σ σc σr : ej_S} {l : List Nat}
theorem x_clear_37 : ∀ (k j : Nat) (σ : ej_S), j ≤ 24 → 24 - j < k → ∃ σ', m0_clear_37 n k (nI j) σ = some σ' ∧ fr [] [] [19, 20, 21, 22, 23] [] [] σ σ' ∧ (∀ x, j ≤ x → x < 24 → clr σ' x) ∧ ∀ x, x < j → (clr σ x → clr σ' x) := by
  intro k
  induction k with
  | zero => intro j σ _ h; omega
  | succ k ih =>
    intro j σ hj hk
    rw [u_0_clear_37]
    rcases Nat.lt_or_ge j 24 with q | q
    · rw [L_24, ile_f q (by omega)]
      simp (disch := omega) only [ck_t, nI_clamp, ej_bi_s, ej_bl_s, ej_bv_s, ej_nm_e, L_0, L_1, nI_add]
      have f0 : fr [] [] [19, 20, 21, 22, 23] [] [] σ (uA (uA (uA (uA (uA σ 19 j (nI 0)) 20 j (nI 0)) 21 j (nI 0)) 22 j (nI 0)) 23 j (nI 0)) := fr_uA (fr_uA (fr_uA (fr_uA (fr_uA fr_rf (by simp)) (by simp)) (by simp)) (by simp)) (by simp)
      have i0 : clr (uA (uA (uA (uA (uA σ 19 j (nI 0)) 20 j (nI 0)) 21 j (nI 0)) 22 j (nI 0)) 23 j (nI 0)) j := by
        unfold clr
        simp (disch := omega) only [s_IJ, s_IA, s_IB, s_IM, s_JI, s_JA, s_JB, s_JM, s_AI, s_AJ, s_AB, s_AM, s_BI, s_BJ, s_BA, s_BM, s_MI, s_MJ, s_MA, s_MB, s_II_s, s_II_n, s_JJ_s, s_JJ_n, s_AA_s, s_AA_n, s_BB_s, s_BB_n, s_MM_s, s_MM_n, pk_us, pk_un, pk_uLs, pk_uLn]
        simp only [and_self]
      have i1 : ∀ x, x ≠ j → clr σ x → clr (uA (uA (uA (uA (uA σ 19 j (nI 0)) 20 j (nI 0)) 21 j (nI 0)) 22 j (nI 0)) 23 j (nI 0)) x := by
        intro x hx h
        unfold clr at *
        simp (disch := omega) only [s_IJ, s_IA, s_IB, s_IM, s_JI, s_JA, s_JB, s_JM, s_AI, s_AJ, s_AB, s_AM, s_BI, s_BJ, s_BA, s_BM, s_MI, s_MJ, s_MA, s_MB, s_II_s, s_II_n, s_JJ_s, s_JJ_n, s_AA_s, s_AA_n, s_BB_s, s_BB_n, s_MM_s, s_MM_n, pk_us, pk_un, pk_uLs, pk_uLn]
        exact h
      obtain ⟨σ', e1, f1, p1, p2⟩ := ih (j + 1) _ q (by omega)
      refine ⟨σ', e1, fr_tr f0 f1, fun x h1 h2 => ?_, fun x h1 h => p2 x (by omega) (i1 x (by omega) h)⟩
      rcases Nat.eq_or_lt_of_le h1 with z | z
      · subst z; exact p2 j (by omega) i0
      · exact p1 x z h2
    · rw [L_24, ile_t q (by omega)]
      exact ⟨σ, rfl, fr_rf, fun x h1 h2 => by omega, fun x _ h => h⟩
theorem x_clearM (hn : 2000 < n) : ∃ σ', m0_clear n σ = some σ' ∧ fr [22, 23, 24, 25, 26, 27, 28] [] [19, 20, 21, 22, 23] [] [] σ σ' ∧ (gI σ' 22 = nI 0 ∧ gI σ' 23 = nI 0 ∧ gI σ' 24 = nI 0 ∧ gI σ' 25 = nI 0 ∧ gI σ' 26 = nI 0 ∧ gI σ' 27 = nI 0 ∧ gI σ' 28 = nI 0) ∧ ∀ x, x < 24 → clr σ' x := by
  obtain ⟨σ', e, f, p, _⟩ := x_clear_37 (n := n) n 0 (uI (uI (uI (uI (uI (uI (uI σ 22 (nI 0)) 23 (nI 0)) 24 (nI 0)) 25 (nI 0)) 26 (nI 0)) 27 (nI 0)) 28 (nI 0)) (by omega) (by omega)
  have f0 : fr [22, 23, 24, 25, 26, 27, 28] [] [19, 20, 21, 22, 23] [] [] σ (uI (uI (uI (uI (uI (uI (uI σ 22 (nI 0)) 23 (nI 0)) 24 (nI 0)) 25 (nI 0)) 26 (nI 0)) 27 (nI 0)) 28 (nI 0)) := fr_uI (fr_uI (fr_uI (fr_uI (fr_uI (fr_uI (fr_uI fr_rf (by simp)) (by simp)) (by simp)) (by simp)) (by simp)) (by simp)) (by simp)
  refine ⟨σ', ?_, fr_tr f0 (fr_wk f (by simp) (by simp) (by simp) (by simp) (by simp)), ?_, fun x hx => p x (Nat.zero_le _) hx⟩
  · unfold m0_clear
    simp only [ej_nm_e, L_0]
    exact e
  · rw [f.1 22 (by simp), f.1 23 (by simp), f.1 24 (by simp), f.1 25 (by simp), f.1 26 (by simp), f.1 27 (by simp), f.1 28 (by simp)]
    simp (disch := omega) only [s_IJ, s_IA, s_IB, s_IM, s_JI, s_JA, s_JB, s_JM, s_AI, s_AJ, s_AB, s_AM, s_BI, s_BJ, s_BA, s_BM, s_MI, s_MJ, s_MA, s_MB, s_II_s, s_II_n, s_JJ_s, s_JJ_n, s_AA_s, s_AA_n, s_BB_s, s_BB_n, s_MM_s, s_MM_n, pk_us, pk_un, pk_uLs, pk_uLn]
    simp only [and_self]
theorem r_reb_62 : ∀ (k j : Nat) (σ : ej_S), j ≤ 24 → 24 - j < k → ∃ σ', m11_rebuilds_62 n k (nI j) σ = m11_rebuilds_109 n n (nI 0) (uI σ' 6 (nI 1)) ∧ fr [] [] [12, 13, 14, 15] [] [] σ σ' ∧ (∀ x, j ≤ x → x < 24 → rj σ' x) ∧ ∀ x, x < j → (rj σ x → rj σ' x) := by
  intro k
  induction k with
  | zero => intro j σ _ h; omega
  | succ k ih =>
    intro j σ hj hk
    rw [u_11_rebuilds_62]
    rcases Nat.lt_or_ge j 24 with q | q
    · rw [L_24, ile_f q (by omega)]
      simp (disch := omega) only [ck_t, nI_clamp, ej_bi_s, ej_bl_s, ej_bv_s, ej_nm_e, L_0, L_1, nI_add, bz_n0]
      have f0 : fr [] [] [12, 13, 14, 15] [] [] σ (uA (uA (uA (uA σ 12 j (nI 0)) 13 j (nI 0)) 14 j (nI 0)) 15 j (nI 0)) := fr_uA (fr_uA (fr_uA (fr_uA fr_rf (by simp)) (by simp)) (by simp)) (by simp)
      have i0 : rj (uA (uA (uA (uA σ 12 j (nI 0)) 13 j (nI 0)) 14 j (nI 0)) 15 j (nI 0)) j := by
        unfold rj
        simp (disch := omega) only [s_IJ, s_IA, s_IB, s_IM, s_JI, s_JA, s_JB, s_JM, s_AI, s_AJ, s_AB, s_AM, s_BI, s_BJ, s_BA, s_BM, s_MI, s_MJ, s_MA, s_MB, s_II_s, s_II_n, s_JJ_s, s_JJ_n, s_AA_s, s_AA_n, s_BB_s, s_BB_n, s_MM_s, s_MM_n, pk_us, pk_un, pk_uLs, pk_uLn]
        simp only [and_self]
      have i1 : ∀ x, x ≠ j → rj σ x → rj (uA (uA (uA (uA σ 12 j (nI 0)) 13 j (nI 0)) 14 j (nI 0)) 15 j (nI 0)) x := by
        intro x hx h
        unfold rj at *
        simp (disch := omega) only [s_IJ, s_IA, s_IB, s_IM, s_JI, s_JA, s_JB, s_JM, s_AI, s_AJ, s_AB, s_AM, s_BI, s_BJ, s_BA, s_BM, s_MI, s_MJ, s_MA, s_MB, s_II_s, s_II_n, s_JJ_s, s_JJ_n, s_AA_s, s_AA_n, s_BB_s, s_BB_n, s_MM_s, s_MM_n, pk_us, pk_un, pk_uLs, pk_uLn]
        exact h
      obtain ⟨σ', e1, f1, p1, p2⟩ := ih (j + 1) _ q (by omega)
      refine ⟨σ', e1, fr_tr f0 f1, fun x h1 h2 => ?_, fun x h1 h => p2 x (by omega) (i1 x (by omega) h)⟩
      rcases Nat.eq_or_lt_of_le h1 with z | z
      · subst z; exact p2 j (by omega) i0
      · exact p1 x z h2
    · rw [L_24, ile_t q (by omega), L_1, L_0]
      exact ⟨σ, rfl, fr_rf, fun x h1 h2 => by omega, fun x _ h => h⟩
theorem r_reb_12 : ∀ (k j : Nat) (σ : ej_S), j ≤ 576 → 576 - j < k → ∃ σ', m11_rebuilds_12 n k (nI j) σ = m11_rebuilds_62 n n (nI 0) σ' ∧ fr [] [] [16, 17, 18, 19, 20] [] [] σ σ' ∧ (∀ x, j ≤ x → x < 576 → ri σ' x) ∧ ∀ x, x < j → (ri σ x → ri σ' x) := by
  intro k
  induction k with
  | zero => intro j σ _ h; omega
  | succ k ih =>
    intro j σ hj hk
    rw [u_11_rebuilds_12]
    rcases Nat.lt_or_ge j 576 with q | q
    · rw [L_576, ile_f q (by omega)]
      simp (disch := omega) only [ck_t, nI_clamp, ej_bi_s, ej_bl_s, ej_bv_s, ej_nm_e, ↓L_m1, L_0, L_1, nI_add, bz_n0]
      have f0 : fr [] [] [16, 17, 18, 19, 20] [] [] σ (uA (uA (uA (uA (uA σ 16 j zm) 17 j (nI 0)) 18 j (nI 0)) 19 j (nI 0)) 20 j zm) := fr_uA (fr_uA (fr_uA (fr_uA (fr_uA fr_rf (by simp)) (by simp)) (by simp)) (by simp)) (by simp)
      have i0 : ri (uA (uA (uA (uA (uA σ 16 j zm) 17 j (nI 0)) 18 j (nI 0)) 19 j (nI 0)) 20 j zm) j := by
        unfold ri
        simp (disch := omega) only [s_IJ, s_IA, s_IB, s_IM, s_JI, s_JA, s_JB, s_JM, s_AI, s_AJ, s_AB, s_AM, s_BI, s_BJ, s_BA, s_BM, s_MI, s_MJ, s_MA, s_MB, s_II_s, s_II_n, s_JJ_s, s_JJ_n, s_AA_s, s_AA_n, s_BB_s, s_BB_n, s_MM_s, s_MM_n, pk_us, pk_un, pk_uLs, pk_uLn]
        simp only [and_self]
      have i1 : ∀ x, x ≠ j → ri σ x → ri (uA (uA (uA (uA (uA σ 16 j zm) 17 j (nI 0)) 18 j (nI 0)) 19 j (nI 0)) 20 j zm) x := by
        intro x hx h
        unfold ri at *
        simp (disch := omega) only [s_IJ, s_IA, s_IB, s_IM, s_JI, s_JA, s_JB, s_JM, s_AI, s_AJ, s_AB, s_AM, s_BI, s_BJ, s_BA, s_BM, s_MI, s_MJ, s_MA, s_MB, s_II_s, s_II_n, s_JJ_s, s_JJ_n, s_AA_s, s_AA_n, s_BB_s, s_BB_n, s_MM_s, s_MM_n, pk_us, pk_un, pk_uLs, pk_uLn]
        exact h
      obtain ⟨σ', e1, f1, p1, p2⟩ := ih (j + 1) _ q (by omega)
      refine ⟨σ', e1, fr_tr f0 f1, fun x h1 h2 => ?_, fun x h1 h => p2 x (by omega) (i1 x (by omega) h)⟩
      rcases Nat.eq_or_lt_of_le h1 with z | z
      · subst z; exact p2 j (by omega) i0
      · exact p1 x z h2
    · rw [L_576, ile_t q (by omega), L_0]
      exact ⟨σ, rfl, fr_rf, fun x h1 h2 => by omega, fun x _ h => h⟩
theorem r_reb0 (hn : 2000 < n) : ∃ σ', m11_rebuilds n σ = m11_rebuilds_109 n n (nI 0) σ' ∧ fr [6, 15, 16] [] [12, 13, 14, 15, 16, 17, 18, 19, 20] [] [] σ σ' ∧ gI σ' 15 = nI 0 ∧ gI σ' 16 = nI 0 ∧ gI σ' 6 = nI 1 ∧ (∀ x, x < 576 → ri σ' x) ∧ ∀ x, x < 24 → rj σ' x := by
  obtain ⟨σ1, e1, f1, p1, _⟩ := r_reb_12 (n := n) n 0 (uI (uI σ 15 (nI 0)) 16 (nI 0)) (by omega) (by omega)
  obtain ⟨σ2, e2, f2, p2, _⟩ := r_reb_62 (n := n) n 0 σ1 (by omega) (by omega)
  have f0 : fr [6, 15, 16] [] [12, 13, 14, 15, 16, 17, 18, 19, 20] [] [] σ (uI (uI σ 15 (nI 0)) 16 (nI 0)) := fr_uI (fr_uI fr_rf (by simp)) (by simp)
  refine ⟨uI σ2 6 (nI 1), ?_, fr_uI (fr_tr (fr_tr f0 (fr_wk f1 (by simp) (by simp) (by simp) (by simp) (by simp))) (fr_wk f2 (by simp) (by simp) (by simp) (by simp) (by simp))) (by simp), ?_, ?_, s_II_s, fun x hx => ?_, fun x hx => ?_⟩
  · unfold m11_rebuilds
    simp only [ej_nm_e, L_0]
    rw [e1, e2]
  · rw [s_II_n (by omega), f2.1 15 (by simp), f1.1 15 (by simp), s_II_n (by omega), s_II_s]
  · rw [s_II_n (by omega), f2.1 16 (by simp), f1.1 16 (by simp), s_II_s]
  · have := p1 x (Nat.zero_le _) hx
    unfold ri at *
    rw [s_AI, s_AI, s_AI, s_AI, s_AI, f2.2.2.1 16 (by simp), f2.2.2.1 17 (by simp), f2.2.2.1 18 (by simp), f2.2.2.1 19 (by simp), f2.2.2.1 20 (by simp)]
    exact this
  · exact p2 x (Nat.zero_le _) hx
theorem bt0 {x : Int32} (h : x = nI 0) (a : Nat) : ¬ bt x a = true := by
  rw [h, show bt (nI 0) a = false from b_0 a]
  exact fun z => by cases z
theorem MR_ini (c : gI σc 22 = nI 0 ∧ gI σc 23 = nI 0 ∧ gI σc 24 = nI 0 ∧ gI σc 25 = nI 0 ∧ gI σc 26 = nI 0 ∧ gI σc 27 = nI 0 ∧ gI σc 28 = nI 0) (cc : ∀ x, x < 24 → clr σc x) (r15 : gI σr 15 = nI 0) (r16 : gI σr 16 = nI 0) (r1 : ∀ x, x < 576 → ri σr x) (r2 : ∀ x, x < 24 → rj σr x) : MR true σc σr := by
  obtain ⟨c22, c23, c24, c25, c26, c27, c28⟩ := c
  have hNN : NN σr = 0 := NN_eq r15 (by omega)
  refine ⟨⟨0, by omega, c22⟩, fun _ => ⟨⟨0, by omega, r15, .inl r16, fun a h => absurd h (Nat.not_lt_zero a), fun a h => absurd h (Nat.not_lt_zero a), fun a b _ h => absurd h (Nat.not_lt_zero b), fun x hx => .inl (r1 x hx).1, fun x hx => .inl (r1 x hx).2.2.2.2, fun a b ha hb _ => (r1 _ (by omega)).1, fun a b ha hb _ => (r1 _ (by omega)).2.2.2.1, fun a b ha hb _ => (r1 _ (by omega)).2.2.2.2, fun a m ha hm z => absurd (r1 _ (by omega)).2.2.2.2 z⟩, fun _ => ?_, fun z => absurd (r16.symm.trans z) n01⟩⟩
  refine ⟨c22.trans r15.symm, c23, ?_, ?_, ?_, ?_, ?_, ?_, ?_, ?_, ?_, ?_, ?_⟩
  · rw [hNN]; exact fun a h => absurd h (Nat.not_lt_zero a)
  · rw [hNN]; exact fun a h => absurd h (Nat.not_lt_zero a)
  · rw [hNN]; exact fun a _ => ⟨fun z => absurd z (bt0 c24 a), fun z => absurd z.1 (Nat.not_lt_zero a)⟩
  · exact fun a ha => ⟨fun z => absurd z (bt0 c25 a), fun z => absurd (r2 a ha).1 z⟩
  · exact fun a ha => ⟨fun z => absurd z (bt0 c26 a), fun z => absurd (r2 a ha).2.1 z⟩
  · exact fun a ha => ⟨fun z => absurd z (bt0 c27 a), fun z => absurd (r2 a ha).2.2.2 z⟩
  · exact fun a ha => ⟨fun z => absurd z (bt0 c28 a), fun z => absurd (r2 a ha).2.2.1 z⟩
  · exact fun a b ha hb => ⟨fun z => absurd z (bt0 (cc a ha).1 b), fun z => absurd (r1 _ (by omega)).2.2.2.1 z⟩
  · exact fun a b ha hb => ⟨⟨fun z => absurd z (bt0 (cc a ha).2.1 b), fun z => absurd (r1 _ (by omega)).1 z⟩, fun z => absurd (r1 _ (by omega)).1 z⟩
  · exact fun a b ha hb => ⟨fun z => absurd z (bt0 (cc a ha).2.2.2.1 b), fun z => absurd (r1 _ (by omega)).2.2.1 z⟩
  · exact fun a b ha hb => ⟨⟨fun z => absurd z (bt0 (cc a ha).2.2.2.2 b), fun z => absurd (r1 _ (by omega)).2.2.2.2 z⟩, fun z => absurd (r1 _ (by omega)).2.2.2.2 z⟩
/-- a text without a fault is read without one -/
theorem snd_c (hn : 2000 < n) (hs : snd n l) (hf : f < 4) {t1 : Nat} (ht : t1 < 6) (ht1 : t1 ≠ 1) (hT : TX σc t1 l) (hw : wfC σc) : ∃ σ', m4_read n t1 (nI f) σc = some (nI 1, σ') := by
  obtain ⟨σ, s', fl, h1, h2, h3, h4, h5⟩ := hs
  obtain ⟨ok, σc', σr', e1, e2, _⟩ := s_read (b := false) hn hf ht ht1 hT h2 h1 h3 ⟨hw, fun z => by cases z⟩ h4 (fun z => by cases z)
  rw [e2] at h5
  cases ok
  · exact absurd (congrArg Prod.fst (Option.some.inj h5)) n01
  · exact ⟨_, e1⟩
theorem read_Kp (hn : 2000 < n) (hf : f < 4) (hs : snd n l) {t1 : Nat} (ht : t1 < 6) (ht1 : t1 ≠ 1) (hT : TX σc t1 l) (hw : wfC σc) {σ' : ej_S} (e : m4_read n t1 (nI f) σc = some (nI 1, σ')) : Kp σc σ' := by
  obtain ⟨σ, s', fl, h1, h2, h3, h4, h5⟩ := hs
  have q : fr [15] [] [] [] [] σ (uI σ 15 (nI 0)) := fr_uI fr_rf (by simp)
  obtain ⟨ok, σ1, r1, e1, _, _, _, _, _, g1, _⟩ := s_readw (κ := σc) (W := False) (b := false) hn hf ht ht1 hT (RTX_fr h2 q (by simp) (by simp)) h1 (RW_fr h3 q (by simp) (by simp)) ⟨hw, ⟨0, by omega, s_II_s⟩, Kp_rf, fun z => z.elim⟩ (by rw [q.1 6 (by simp)]; exact h4) (fun z => by cases z)
  rw [e] at e1
  cases ok
  · exact absurd (congrArg Prod.fst (Option.some.inj e1)) n10
  · have e2 : σ' = σ1 := congrArg Prod.snd (Option.some.inj e1)
    rw [e2]
    exact (g1 rfl).1.2.2.1
/-- a file read by the reference that rebuilds -/
def RST (n k : Nat) (σ σ' : ej_S) : Prop := ∃ s1, m11_isRead n (nI k) (uI σ 7 (nI k)) = some (nI 1, s1) ∧ σ' = uA s1 2 k (gI s1 8)
theorem RST_one {k : Nat} {s t : ej_S} (h : RST n k σ s) (h' : RST n k σ t) : s = t := by
  obtain ⟨a, a1, a2⟩ := h
  obtain ⟨b, b1, b2⟩ := h'
  rw [a1] at b1
  cases b1
  rw [a2, b2]
theorem s_draw1 (hn : 2000 < n) (hf : f < 4) {r : Int32} (hs : snd n l) (hT : TX σc (tn r f) l) (hR : RTX σr f l) (hw : RW σr) (hm : MR true σc σr) (hb : gI σr 6 = nI 1) (k k2 : Nat) : ∃ σc' σr', m10_drawMap_16 n (k + 1) r (nI f) σc = m10_drawMap_16 n k r (nI (f + 1)) σc' ∧ m11_rebuilds_109 n (k2 + 1) (nI f) σr = m11_rebuilds_109 n k2 (nI (f + 1)) σr' ∧ MR true σc' σr' ∧ DF σc σc' ∧ EF σr σr' ∧ gA σc' 10 f = gA σr' 2 f ∧ (∀ g, g ≠ f → gA σc' 10 g = gA σc 10 g ∧ gA σr' 2 g = gA σr 2 g) ∧ Kp σc σc' ∧ RST n f σr σr' := by
  obtain ⟨t1, t2⟩ := tn_lt (r := r) hf
  have f7 : fr [7] [] [] [] [] σr (uI σr 7 (nI f)) := fr_uI fr_rf (by simp)
  have hm1 : MR true σc (uI σr 7 (nI f)) := MR_fr hm (fr_rf (I := []) (J := []) (A := []) (B := []) (M := [])) f7 (by decide) (by decide) (by decide) (by decide) (by decide) (by decide) (by decide) (by decide) (by decide) (by decide) (by decide) (by decide) (by decide) (by decide) (by decide) (by decide) (by decide) (by decide) (by decide) (by decide) (by decide) (by decide) (by decide) (by decide) (by decide) (by decide) (by decide) (by decide) (by decide)
  obtain ⟨ok, σ1, s1, e1, e2, p1, q1, _, _, g1, _⟩ := s_read (b := true) hn hf t1 t2 hT (RTX_fr hR f7 (by simp) (by simp)) (show f < 5 by omega) (RW_fr hw f7 (by simp) (by simp)) hm1 (by rw [s_II_n (by omega)]; exact hb) (fun _ => s_II_s)
  obtain ⟨σ2, e3⟩ := snd_c hn hs hf t1 t2 hT hm.1
  rw [e1] at e3
  have hok : ok = true := by
    cases ok
    · exact absurd (congrArg Prod.fst (Option.some.inj e3)) n01
    · rfl
  subst hok
  obtain ⟨g2, cnt, hcnt, g3, g4⟩ := g1 rfl
  have kp := read_Kp hn hf hs t1 t2 hT hm.1 e1
  have P : fr [] [] [10] [] [] σ1 (uA σ1 10 f (nI cnt)) := fr_uA fr_rf (by simp)
  have Q : fr [] [] [2] [] [] s1 (uA s1 2 f (nI cnt)) := fr_uA fr_rf (by simp)
  refine ⟨uA σ1 10 f (nI cnt), uA s1 2 f (nI cnt), ?_, ?_, ?_, fr_uA (fr_wk p1 (by simp) (by simp) (by simp) (by simp) (by simp)) (by simp), fr_uA (fr_tr (fr_wk f7 (by simp) (by simp) (by simp) (by simp) (by simp)) (fr_wk q1 (by simp) (by simp) (by simp) (by simp) (by simp))) (by simp), ?_, ?_, Kp_uA kp, s1, e2, by rw [g4]⟩
  · have key : ∀ F, m10_drawMap_43 n F r (nI f) (tn r f) σc = F r (nI (f + 1)) (uA σ1 10 f (nI cnt)) := by
      intro F
      unfold m10_drawMap_43 m4_statements
      rw [e1, ej_bi_s, L_0, bI_t, if_neg n10, ej_bi_s, ck_t hf (by omega), ej_nm_e, nI_clamp (by omega), g3, L_1, nI_add, ej_nm_e]
    rw [u_10_drawMap_16, L_4, ile_f hf (by omega)]
    by_cases h : nI f = r
    · rw [if_pos h]
      have h0 : tn r f = 0 := if_pos h
      rw [h0] at key
      exact key _
    · rw [if_neg h, ck_t hf (by omega), nI_clamp (by omega)]
      have h0 : tn r f = 2 + f := if_neg h
      rw [h0] at key
      exact key _
  · rw [u_11_rebuilds_109, L_4, ile_f hf (by omega), ej_nm_e, e2, ej_bi_s, ck_t hf (by omega), nI_clamp (by omega), ej_nm_e, ej_nm_e, g4, L_1, nI_add]
  · exact MR_fr g2 P Q (by decide) (by decide) (by decide) (by decide) (by decide) (by decide) (by decide) (by decide) (by decide) (by decide) (by decide) (by decide) (by decide) (by decide) (by decide) (by decide) (by decide) (by decide) (by decide) (by decide) (by decide) (by decide) (by decide) (by decide) (by decide) (by decide) (by decide) (by decide) (by decide)
  · rw [s_AA_s, s_AA_s, pk_us, pk_us]
  · intro g hg
    rw [s_AA_s, s_AA_s, pk_un hg, pk_un hg, p1.2.2.1 10 (by simp), q1.2.2.1 2 (by simp), s_AI]
    exact ⟨rfl, rfl⟩
end P95
