/-! THE REFERENCE, SOLVED -/
def homeless (σ : ej_S) : Prop := ∀ i, i < NN σ → ¬ (gB σ 1 i = gJ σ 1 ∧ gA σ 11 i = zm)
def homeAt (σ : ej_S) (h : Nat) : Prop := h < NN σ ∧ gB σ 1 h = gJ σ 1 ∧ gA σ 11 h = zm
def SOL (σ : ej_S) : Prop := (homeless σ ∧ (∀ a b, a < 24 → b < 24 → gA σ 21 (24 * a + b) = nI 0) ∧ ∀ v, v < 96 → gA σ 23 v = zm) ∨ ∃ h T D, homeAt σ h ∧ nn σ h T ∧ (∀ a b, a < 24 → b < 24 → gA σ 21 (24 * a + b) = Xs σ h T (24 * a + b)) ∧ wayR (Ed σ) (4 * h) (gA σ 23) (gA σ 24) (gA σ 25) (gA σ 26) D
theorem mq_fr {I J A B M : List Nat} {σ s : ej_S} (f : fr I J A B M σ s) (h14 : 14 ∉ A) (h15 : 15 ∉ A) (h16 : 16 ∉ A) (h18 : 18 ∉ A) (h19 : 19 ∉ A) (h20 : 20 ∉ A) (hB : 1 ∉ B) : mq σ s := by
  unfold mq
  rw [f.2.2.1 14 h14, f.2.2.1 15 h15, f.2.2.1 16 h16, f.2.2.1 18 h18, f.2.2.1 19 h19, f.2.2.1 20 h20, f.2.2.2.1 1 hB]
  exact ⟨rfl, rfl, rfl, rfl, fun _ => Iff.rfl, fun _ => Iff.rfl, fun _ => Iff.rfl⟩
/-- the home alone -/
def D0 (s : Nat) : Nat → Nat := fun v => if v = s then 0 else iF
theorem D0_s {s : Nat} : D0 s s = 0 := if_pos rfl
theorem D0_n {s v : Nat} (h : v ≠ s) : D0 s v = iF := if_neg h
theorem D0_i {s : Nat} (v : Nat) : D0 s v ≤ iF := by
  by_cases z : v = s
  · rw [z, D0_s]; exact Nat.zero_le _
  · rw [D0_n z]; exact Nat.le_refl _
theorem D0_ok {s : Nat} : OKD (D0 s) := by
  intro v hv hf
  by_cases z : v = s
  · rw [z, D0_s]; exact ⟨Nat.zero_le _, Nat.zero_le _⟩
  · rw [D0_n z] at hf; omega
theorem D0_wk {E : Nat → Nat → Nat → Nat → Prop} {s : Nat} (v : Nat) (_ : v < 96) (hf : D0 s v < iF) : wk E s (D0 s v) v := by
  by_cases z : v = s
  · rw [z, D0_s]; exact wk_z
  · rw [D0_n z] at hf; omega
section P83
variable {n : Nat} {σ : ej_S}
theorem home_fr {I J A B M : List Nat} {s : ej_S} (f : fr I J A B M σ s) (hI : 15 ∉ I) (hJ : 1 ∉ J) (hA : 11 ∉ A) (hB : 1 ∉ B) : (homeless s ↔ homeless σ) ∧ ∀ h, homeAt s h ↔ homeAt σ h := by
  unfold homeless homeAt NN
  rw [f.1 15 hI, f.2.1 1 hJ, f.2.2.1 11 hA, f.2.2.2.1 1 hB]
  exact ⟨Iff.rfl, fun _ => Iff.rfl⟩
theorem r_homeNode (hn : 2000 < n) (hw : wfR σ) : (homeless σ ∧ m11_homeNode n σ = some (zm, σ)) ∨ ∃ h, homeAt σ h ∧ m11_homeNode n σ = some (nI h, σ) := by
  obtain ⟨N, h0, h1, h2, w1, w2⟩ := hw
  have hN := NN_eq h1 h0
  unfold m11_homeNode homeless homeAt
  rw [hN, L_m1]
  by_cases g : gJ σ 1 = 0
  · rw [if_pos ((cmp_eq _ _).mpr g)]
    refine .inl ⟨fun i hi z => ?_, rfl⟩
    rw [g] at z
    exact isNm_n0 (w1 i hi) z.1
  · rw [if_neg (fun z => g ((cmp_eq _ _).mp z))]
    rcases r_found (n := n) (v := gJ σ 1) (o := zm) hn h1 h0 with ⟨e1, e2⟩ | ⟨i, e1, e2, e3, e4⟩
    · rw [e1]; exact .inl ⟨e2, rfl⟩
    · rw [e4]; exact .inr ⟨i, ⟨e1, e2, e3⟩, rfl⟩
theorem r_solves_2 : ∀ (k j : Nat) (σ : ej_S), j ≤ 576 → 576 - j < k → ∃ σ', m11_solves_2 n k (nI j) σ = m11_solves_24 n n (nI 0) σ' ∧ fr [] [] [21] [] [] σ σ' ∧ (∀ x, j ≤ x → x < 576 → gA σ' 21 x = nI 0) ∧ ∀ x, x < j → gA σ' 21 x = gA σ 21 x := by
  intro k
  induction k with
  | zero => intro j σ _ h; omega
  | succ k ih =>
    intro j σ hj hk
    rw [u_11_solves_2]
    rcases Nat.lt_or_ge j 576 with q | q
    · rw [L_576, ile_f q (by omega)]
      simp (disch := omega) only [ck_t, nI_clamp, ej_bi_s, ej_bl_s, ej_bv_s, ej_nm_e, L_0, L_1, nI_add, bz_n0]
      obtain ⟨σ', e1, f1, p1, p2⟩ := ih (j + 1) (uA σ 21 j (nI 0)) q (by omega)
      refine ⟨σ', e1, fr_tr (fr_uA fr_rf (by simp)) f1, fun x h1 h2 => ?_, fun x h1 => ?_⟩
      · rcases Nat.eq_or_lt_of_le h1 with z | z
        · subst z; rw [p2 j (by omega), s_AA_s, pk_us]
        · exact p1 x z h2
      · rw [p2 x (by omega), s_AA_s, pk_un (by omega)]
    · rw [L_576, ile_t q (by omega), L_0]
      exact ⟨σ, rfl, fr_rf, fun x h1 h2 => by omega, fun x _ => rfl⟩
/-- what stands before -/
def ini4 (σ : ej_S) (x : Nat) : Prop := gA σ 23 x = zm ∧ gA σ 24 x = nI 0 ∧ gA σ 25 x = zm ∧ gA σ 26 x = nI 0
theorem r_solves_24 : ∀ (k j : Nat) (σ : ej_S), j ≤ 96 → 96 - j < k → ∃ σ', m11_solves_24 n k (nI j) σ = (ej_bi (m11_homeNode n σ') fun r4 s3 => (if r4 = zm then (some s3) else ej_bv (m11_reaches n r4 s3) fun s5 => (m11_solves_80 n n r4 s5))) ∧ fr [] [] [23, 24, 25, 26] [] [] σ σ' ∧ (∀ x, j ≤ x → x < 96 → ini4 σ' x) ∧ ∀ x, x < j → (ini4 σ x → ini4 σ' x) := by
  intro k
  induction k with
  | zero => intro j σ _ h; omega
  | succ k ih =>
    intro j σ hj hk
    rw [u_11_solves_24]
    rcases Nat.lt_or_ge j 96 with q | q
    · rw [L_96, ile_f q (by omega)]
      simp (disch := omega) only [ck_t, nI_clamp, ej_bi_s, ej_bl_s, ej_bv_s, ej_nm_e, ↓L_m1, L_0, L_1, nI_add]
      have f0 : fr [] [] [23, 24, 25, 26] [] [] σ (uA (uA (uA (uA σ 23 j zm) 24 j (nI 0)) 25 j zm) 26 j (nI 0)) := fr_uA (fr_uA (fr_uA (fr_uA fr_rf (by simp)) (by simp)) (by simp)) (by simp)
      have i0 : ini4 (uA (uA (uA (uA σ 23 j zm) 24 j (nI 0)) 25 j zm) 26 j (nI 0)) j := by
        unfold ini4
        simp (disch := omega) only [s_IJ, s_IA, s_IB, s_IM, s_JI, s_JA, s_JB, s_JM, s_AI, s_AJ, s_AB, s_AM, s_BI, s_BJ, s_BA, s_BM, s_MI, s_MJ, s_MA, s_MB, s_II_s, s_II_n, s_JJ_s, s_JJ_n, s_AA_s, s_AA_n, s_BB_s, s_BB_n, s_MM_s, s_MM_n, pk_us, pk_un, pk_uLs, pk_uLn]
        simp only [and_self]
      have i1 : ∀ x, x ≠ j → ini4 σ x → ini4 (uA (uA (uA (uA σ 23 j zm) 24 j (nI 0)) 25 j zm) 26 j (nI 0)) x := by
        intro x hx h
        unfold ini4 at *
        simp (disch := omega) only [s_IJ, s_IA, s_IB, s_IM, s_JI, s_JA, s_JB, s_JM, s_AI, s_AJ, s_AB, s_AM, s_BI, s_BJ, s_BA, s_BM, s_MI, s_MJ, s_MA, s_MB, s_II_s, s_II_n, s_JJ_s, s_JJ_n, s_AA_s, s_AA_n, s_BB_s, s_BB_n, s_MM_s, s_MM_n, pk_us, pk_un, pk_uLs, pk_uLn]
        exact h
      obtain ⟨σ', e1, f1, p1, p2⟩ := ih (j + 1) _ q (by omega)
      refine ⟨σ', e1, fr_tr f0 f1, fun x h1 h2 => ?_, fun x h1 h => p2 x (by omega) (i1 x (by omega) h)⟩
      rcases Nat.eq_or_lt_of_le h1 with z | z
      · subst z; exact p2 j (by omega) i0
      · exact p1 x z h2
    · rw [L_96, ile_t q (by omega), L_m1]
      exact ⟨σ, rfl, fr_rf, fun x h1 h2 => by omega, fun x _ h => h⟩
theorem r_solves (hn : 200000000000000 < n) (hw : wfR σ) : ∃ σ', m11_solves n σ = some σ' ∧ fr [] [] [21, 22, 23, 24, 25, 26] [] [] σ σ' ∧ SOL σ' := by
  obtain ⟨N, h0, h1, hrest⟩ := id hw
  have hN := NN_eq h1 h0
  obtain ⟨σ1, e1, f1, p1, _⟩ := r_solves_2 (n := n) n 0 σ (by omega) (by omega)
  obtain ⟨σ2, e2, f2, p2, _⟩ := r_solves_24 (n := n) n 0 σ1 (by omega) (by omega)
  have f12 : fr [] [] [21, 22, 23, 24, 25, 26] [] [] σ σ2 := fr_tr (fr_wk f1 (by simp) (by simp) (by simp) (by simp) (by simp)) (fr_wk f2 (by simp) (by simp) (by simp) (by simp) (by simp))
  have w2 : wfR σ2 := wfR_fr hw f12 (by simp) (by simp) (by simp) (by simp) (by simp) (by simp) (by simp) (by simp)
  have r21 : ∀ x, x < 576 → gA σ2 21 x = nI 0 := by
    intro x hx
    rw [f2.2.2.1 21 (by simp)]; exact p1 x (Nat.zero_le _) hx
  have e0 : m11_solves n σ = ej_bi (m11_homeNode n σ2) fun r4 s3 => (if r4 = zm then (some s3) else ej_bv (m11_reaches n r4 s3) fun s5 => (m11_solves_80 n n r4 s5)) := by
    unfold m11_solves
    rw [L_0, e1]; exact e2
  rw [e0]
  rcases r_homeNode (n := n) (by omega) w2 with ⟨g1, g2⟩ | ⟨h, g1, g2⟩
  · rw [g2, ej_bi_s, if_pos rfl]
    exact ⟨σ2, rfl, f12, .inl ⟨g1, fun a b ha hb => r21 _ (by omega), fun v hv => (p2 v (Nat.zero_le _) hv).1⟩⟩
  · have hN2 : NN σ2 = N := by unfold NN; rw [f12.1 15 (by simp)]; exact hN
    have hh : h < N := by have := g1.1; omega
    have c15 : gI σ2 15 = nI N := by rw [f12.1 15 (by simp)]; exact h1
    rw [g2, ej_bi_s, if_neg (zm_ne (by omega))]
    have bk2 : bkOK σ2 := fun a b ha hb z => absurd (r21 _ (by omega)) z
    have C2 : CR σ2 N := ⟨w2, c15, h0, bk2⟩
    have L2 : LB σ2 σ2 h 0 := ⟨fr_rf, fun a b ha hb => r21 _ (by omega)⟩
    obtain ⟨σ3, e3, f3, q3⟩ := r_reaches (n := n) (by omega) C2 hh
    rw [e3, ej_bv_s]
    have L3 : LB σ2 σ3 h 0 := ⟨fr_wk f3 (by simp) (by simp) (by simp) (by simp) (by simp), fun a b ha hb => by rw [f3.2.2.1 21 (by simp)]; exact r21 _ (by omega)⟩
    obtain ⟨T, σ4, z1, z2, z3⟩ := r_80 (n := n) (by omega) w2 c15 h0 hh n 0 σ3 L3 (fun x hx => (q3 x hx).trans (LB_cl L2)) (by omega)
    rw [z3]
    have C4 := LB_CR z2 w2 c15 h0
    have f5 : fr [] [] [23, 24] [] [] σ4 (uA σ4 23 (4 * h) (nI 0)) := fr_uA fr_rf (by simp)
    have b5 : BF N (4 * h) (uA σ4 23 (4 * h) (nI 0)) (D0 (4 * h)) := by
      refine ⟨⟨wfR_fr C4.1 f5 (by simp) (by simp) (by simp) (by simp) (by simp) (by simp) (by simp) (by simp), C4.2.1, C4.2.2.1, C4.2.2.2⟩, ?_, D0_ok, D0_i, D0_s, D0_wk⟩
      intro v hv
      rw [s_AA_s, s_AA_n (by omega)]
      have i := p2 v (Nat.zero_le _) hv
      unfold ini4 at i
      by_cases z : v = 4 * h
      · subst z
        rw [pk_us, D0_s, LB_A z2 (by omega) (by omega), i.2.1]
        exact .inr ⟨by decide, rfl, rfl⟩
      · rw [pk_un z, D0_n z, LB_A z2 (by omega) (by omega), i.1]
        exact .inl ⟨rfl, rfl⟩
    have hsm : sm (D0 (4 * h)) 96 + 1 < n := by
      have := sm_le (D := D0 (4 * h)) (B := iF) D0_i 96
      have := iF_e
      omega
    obtain ⟨D, σ6, e6, f6, b6, s6⟩ := r_106 (n := n) (N := N) (s := 4 * h) (by omega) h0 n _ _ b5 hsm
    have f46 : fr [] [] [23, 24] [] [] σ4 σ6 := fr_tr f5 f6
    have ini : ∀ x, 0 ≤ x → x < 96 → gA σ6 25 x = zm ∧ gA σ6 26 x = nI 0 := by
      intro x _ hx
      have i := p2 x (Nat.zero_le _) hx
      rw [f46.2.2.1 25 (by simp), f46.2.2.1 26 (by simp), LB_A z2 (by omega) (by omega), LB_A z2 (by omega) (by omega)]
      exact i.2.2
    obtain ⟨σ7, e7, f7, _, r7, t7⟩ := r_215 (n := n) (by omega) h0 (by omega) s6 n 0 σ6 b6 rfl (Nat.zero_le _) (by omega) ini
    obtain ⟨b7, eE⟩ := BF_fr b6 f7
    have f27 : fr [] [] [21, 22, 23, 24, 25, 26] [] [] σ2 σ7 := fr_tr (fr_wk z2.1 (by simp) (by simp) (by simp) (by simp) (by simp)) (fr_tr (fr_wk f46 (by simp) (by simp) (by simp) (by simp) (by simp)) (fr_wk f7 (by simp) (by simp) (by simp) (by simp) (by simp)))
    have m27 := mq_fr f27 (by simp) (by simp) (by simp) (by simp) (by simp) (by simp) (by simp)
    rw [e6, e7]
    refine ⟨σ7, rfl, fr_tr f12 f27, .inr ⟨h, T, D, ((home_fr f27 (by simp) (by simp) (by simp) (by simp)).2 h).mpr g1, (nn_mq m27).mpr z1, fun a b ha hb => ?_, ?_⟩⟩
    · rw [Xs_mq m27, f7.2.2.1 21 (by simp), f46.2.2.1 21 (by simp)]; exact z2.2 a b ha hb
    · rw [eE]
      exact ⟨s6, b7.2.2.1, b7.2.1, t7 (Nat.zero_le _) (by omega), fun v hv hs hf => r7 v (Nat.zero_le _) hv hs hf⟩
end P83
