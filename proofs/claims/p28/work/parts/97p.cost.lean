/-! A COST OF ONE NUMBER, read by the plain reading -/
abbrev FRD (σ s : ej_S) : Prop := fr [1, 2, 3, 4, 5, 13, 14] [0] [5, 6, 7, 8, 9, 10] [] [] σ s
section P97p
variable {n f q : Nat} {σ : ej_S} {l r : List Nat}
theorem FRD_n {s : ej_S} (h : fr [1, 2, 3, 4, 5] [0] [] [] [] σ s) : FRD σ s := fr_wk h (by simp) (by simp) (by simp) (by simp) (by simp)
theorem RS_D {s : ej_S} (h : RS σ f l) (p : FRD σ s) : RS s f l := RS_fr h p (by simp) (by simp) (by simp)
theorem r_factor (hq : q < 1000000) (h2 : gI σ 2 = nI 3) (h5 : gI σ 5 = nI q) : m11_isFactor n σ = some (nI 1, uI σ 14 (nI q)) := by
  unfold m11_isFactor
  rw [L_3, h2, if_pos rfl, ej_nm_e, s_II_n (by omega), h5, L_1000000, ile_t (by omega) (by omega), L_1]
/-- a sum of one number and what closes it -/
theorem r_sum1 {c : Nat} (hn : 2000 < n) (hs : RS σ f l) (hq : q < 1000000) (hc : c = 41 ∨ c = 59) (h : RD σ l (dgs q ++ c :: r)) : ∃ s, m11_isSum n σ = some (nI 1, s) ∧ RD s l (c :: r) ∧ gI s 14 = nI q ∧ FRD σ s := by
  have hdc : isDg c = false := by rcases hc with rfl | rfl <;> rfl
  have hsd : sld (c :: r) := sld_c (by omega)
  have hsc : srtc c = c ∧ c ≠ 97 ∧ c ≠ 65 ∧ c ≠ 48 ∧ c ≠ 63 := by rcases hc with rfl | rfl <;> decide
  obtain ⟨m, hm⟩ : ∃ m, n = m + 1 := ⟨n - 1, by omega⟩
  obtain ⟨m2, hm2⟩ : ∃ m2, m = m2 + 1 := ⟨m - 1, by omega⟩
  obtain ⟨g2, g5⟩ := RD_dgs hq hdc h
  have F1 : FRD σ (uI (uA (uA (uI σ 13 (nI 0)) 6 0 (nI 0)) 9 0 (nI 0)) 14 (nI q)) := fr_uI (fr_uA (fr_uA (fr_uI fr_rf (by simp)) (by simp)) (by simp)) (by simp)
  have F0 : fr [13, 14] [] [6, 9] [] [] σ (uI (uA (uA (uI σ 13 (nI 0)) 6 0 (nI 0)) 9 0 (nI 0)) 14 (nI q)) := fr_uI (fr_uA (fr_uA (fr_uI fr_rf (by simp)) (by simp)) (by simp)) (by simp)
  have Fa : fr [13, 14] [] [6, 9] [] [] σ (uA (uA (uI σ 13 (nI 0)) 6 0 (nI 0)) 9 0 (nI 0)) := fr_uA (fr_uA (fr_uI fr_rf (by simp)) (by simp)) (by simp)
  obtain ⟨s2, e2, d2, f2⟩ := nx_dgs (n := n) hn (RS_D hs F1) hdc hsd (RD_fr h F0 (by simp) (by simp) (by simp) (by simp) (by simp) (by simp))
  have g22 := RD_sg hsc.1 hsc.2.1 hsc.2.2.1 hsc.2.2.2.1 hsc.2.2.2.2 d2
  have a13 : gI s2 13 = nI 0 := by rw [f2.1 13 (by simp), s_II_n (by omega)]; exact (by rw [s_IA, s_IA, s_II_s])
  have a6 : gA s2 6 0 = nI 0 := by rw [f2.2.2.1 6 (by simp), s_AI, s_AA_n (by omega), s_AA_s, pk_us]
  have a9 : gA s2 9 0 = nI 0 := by rw [f2.2.2.1 9 (by simp), s_AI, s_AA_s, pk_us]
  have a14 : gI s2 14 = nI q := by rw [f2.1 14 (by simp), s_II_s]
  have ecl : m11_closes n s2 = some (nI 1, s2) := by
    unfold m11_closes
    rw [show m11_closes_0 n n s2 = m11_closes_0 n (m + 1) s2 by rw [← hm], u_11_closes_0, a13, ck_t (by omega) (by omega), nI_clamp (by omega), a9, L_0, if_pos rfl]
    unfold m11_closes_52
    rw [g22, L_42, L_47, ieq_f (by omega) (by omega) (by omega), ieq_f (by omega) (by omega) (by omega), a13, ck_t (by omega) (by omega), nI_clamp (by omega), a6, L_0, if_pos rfl]
    unfold m11_closes_167
    rw [g22, L_43, L_45, ieq_f (by omega) (by omega) (by omega), ieq_f (by omega) (by omega) (by omega), a13, L_0, if_pos rfl, L_1]
  refine ⟨s2, ?_, d2, a14, fr_tr F1 (FRD_n f2)⟩
  unfold m11_isSum
  rw [L_0, ej_nm_e, ck_t (by omega) (by omega), nI_clamp (by omega), ej_nm_e, ck_t (by omega) (by omega), ej_nm_e]
  rw [show ∀ z, m11_isSum_21 n n (nI 0) z = m11_isSum_21 n (m2 + 1 + 1) (nI 0) z by intro z; rw [← hm2, ← hm], u_11_isSum_21, L_0, if_pos rfl, Fa.1 2 (by simp), g2, L_40, ieq_f (by omega) (by omega) (by omega), r_factor hq (by rw [Fa.1 2 (by simp), g2]) (by rw [Fa.1 5 (by simp), g5]), ej_bi_s, if_neg n10, e2, ej_bv_s, ecl, ej_bi_s, u_11_isSum_21, L_0, if_neg n10, L_1, if_pos rfl]
theorem r_cost (hn : 2000 < n) (hs : RS σ f l) (hq : q < 1000000) (hr : sld r) (h : RD σ l (40 :: (dgs q ++ 41 :: r))) : ∃ s, m11_isCost n σ = some (nI 1, s) ∧ RD s l r ∧ gI s 14 = nI q ∧ FRD σ s := by
  have hsd : sld (dgs q ++ 41 :: r) := by
    have hl := (dgs_len q).2
    have hd : ∀ b ∈ dgs q, isDg b = true := dg_is
    generalize dgs q = w at *
    cases w with
    | nil => exact absurd hl (by decide)
    | cons b w =>
      have := isDg_gt (hd b List.mem_cons_self)
      exact sld_c (by omega)
  have g2 := RD_sg (c := 40) (by decide) (by omega) (by omega) (by omega) (by omega) h
  have F0 : FRD σ (uI σ 14 (nI 4000)) := fr_uI fr_rf (by simp)
  obtain ⟨s1, e1, d1, f1⟩ := nx_sg (n := n) (c := 40) hn (RS_D hs F0) (by decide) (by omega) (by omega) (by omega) hsd (RD_fr h (show fr [14] [] [] [] [] σ (uI σ 14 (nI 4000)) from fr_uI fr_rf (by simp)) (by simp) (by simp) (by simp) (by simp) (by simp) (by simp))
  have F1 := fr_tr F0 (FRD_n f1)
  obtain ⟨s2, e2, d2, b2, f2⟩ := r_sum1 (n := n) hn (RS_D hs F1) hq (.inl rfl) d1
  have F2 := fr_tr F1 f2
  have g22 := RD_sg (c := 41) (by decide) (by omega) (by omega) (by omega) (by omega) d2
  obtain ⟨s3, e3, d3, f3⟩ := nx_sg (n := n) (c := 41) hn (RS_D hs F2) (by decide) (by omega) (by omega) (by omega) hr d2
  have b3 : gI s3 14 = nI q := by rw [f3.1 14 (by simp)]; exact b2
  have F3 := fr_tr F2 (FRD_n f3)
  have F4 : fr [14] [] [] [] [] s3 (uI s3 14 (nI q)) := fr_uI fr_rf (by simp)
  refine ⟨uI s3 14 (nI q), ?_, RD_fr d3 F4 (by simp) (by simp) (by simp) (by simp) (by simp) (by simp), s_II_s, fr_tr F3 (fr_wk F4 (by simp) (by simp) (by simp) (by simp) (by simp))⟩
  unfold m11_isCost
  rw [L_4000, ej_nm_e, s_II_n (by omega), g2, L_40, if_pos rfl, e1, ej_bv_s, e2, ej_bi_s, L_0, if_neg n10, g22, L_41, if_pos rfl, e3, ej_bv_s, b3, ile_t (Nat.zero_le _) (by omega), ej_nm_e, L_1]
end P97p
