/-! STATEMENTS, read by the plain reading -/
abbrev FST (σ s : ej_S) : Prop := fr [1, 2, 3, 4, 5, 13, 14, 15] [0] [5, 6, 7, 8, 9, 10, 11, 12, 13, 14, 15, 16, 17, 18, 19, 20] [1] [] σ s
/-- the reader stands before r -/
def AT (σ0 : ej_S) (f g : Nat) (l : List Nat) (m : Bool) (X : List Nat) (L : List St) (σ : ej_S) (r : List Nat) : Prop := BM σ0 f m X L σ ∧ RS σ g l ∧ RD σ l r
section P97s
variable {n f g a b c q va vb vc : Nat} {σ σ0 : ej_S} {l r X : List Nat} {L : List St} {m : Bool}
theorem FS_n {s : ej_S} (h : fr [1, 2, 3, 4, 5] [0] [] [] [] σ s) : FST σ s := fr_wk h (by simp) (by simp) (by simp) (by simp) (by simp)
theorem FS_D {s : ej_S} (h : FRD σ s) : FST σ s := fr_wk h (by simp) (by simp) (by simp) (by simp) (by simp)
theorem FS_N {s : ej_S} (h : fr [15] [] [11] [1] [] σ s) : FST σ s := fr_wk h (by simp) (by simp) (by simp) (by simp) (by simp)
theorem AT_n {s : ej_S} (h : AT σ0 f g l m X L σ r) (F : fr [1, 2, 3, 4, 5] [0] [] [] [] σ s) {r' : List Nat} (d : RD s l r') : AT σ0 f g l m X L s r' := ⟨BM_D h.1 (FRD_n F), RS_D h.2.1 (FRD_n F), d⟩
theorem AT_name32 (hn : 2000 < n) (ha : va < 10) (hd : sld r) (h : AT σ0 f g l m X L σ ((97 + va) :: 32 :: r)) : ∃ s, m11_next n σ = some s ∧ AT σ0 f g l m X L s r ∧ FST σ s := by
  obtain ⟨s, e, d, F⟩ := nx_name32 (n := n) hn h.2.1 ha hd h.2.2
  exact ⟨s, e, AT_n h F d, FS_n F⟩
theorem AT_name {c : Nat} (hn : 2000 < n) (ha : va < 10) (hc : isNP c = false) (hd : sld (c :: r)) (h : AT σ0 f g l m X L σ ((97 + va) :: c :: r)) : ∃ s, m11_next n σ = some s ∧ AT σ0 f g l m X L s (c :: r) ∧ FST σ s := by
  obtain ⟨s, e, d, F⟩ := nx_name (n := n) hn h.2.1 ha hc hd h.2.2
  exact ⟨s, e, AT_n h F d, FS_n F⟩
theorem AT_sg {c : Nat} (hn : 2000 < n) (hc : srtc c = c ∧ c ≠ 97 ∧ c ≠ 65 ∧ c ≠ 48) (hd : sld r) (h : AT σ0 f g l m X L σ (c :: r)) : ∃ s, m11_next n σ = some s ∧ AT σ0 f g l m X L s r ∧ FST σ s := by
  obtain ⟨s, e, d, F⟩ := nx_sg (n := n) hn h.2.1 hc.1 hc.2.1 hc.2.2.1 hc.2.2.2 hd h.2.2
  exact ⟨s, e, AT_n h F d, FS_n F⟩
theorem AT_2 {c : Nat} (hc : srtc c = c ∧ c ≠ 97 ∧ c ≠ 65 ∧ c ≠ 48) (h4 : c ≠ 63) (h : AT σ0 f g l m X L σ (c :: r)) : gI σ 2 = nI c := RD_sg hc.1 hc.2.1 hc.2.2.1 hc.2.2.2 h4 h.2.2
theorem AT_node (hn : 2000 < n) (hv : va < 10) (h : AT σ0 f g l m X L σ r) : ∃ i s, m11_nodeOf n (lN (97 + va)) σ = some (nI i, s) ∧ AT σ0 f g l m (e_add X va) L s r ∧ AtN m (e_add X va) i va ∧ FST σ s ∧ gI s 2 = gI σ 2 := by
  obtain ⟨i, s, e, b, t, F⟩ := q_node (n := n) hn h.1 hv
  exact ⟨i, s, e, ⟨b, RS_fr h.2.1 F (by simp) (by simp) (by simp), RD_fr h.2.2 F (by simp) (by simp) (by simp) (by simp) (by simp) (by simp)⟩, t, FS_N F, F.1 2 (by simp)⟩
theorem AT_cost (hn : 2000 < n) (hq : q < 1000000) (hr : sld r) (h : AT σ0 f g l m X L σ (40 :: (dgs q ++ 41 :: r))) : ∃ s, m11_isCost n σ = some (nI 1, s) ∧ AT σ0 f g l m X L s r ∧ gI s 14 = nI q ∧ FST σ s := by
  obtain ⟨s, e, d, e14, F⟩ := r_cost (n := n) hn h.2.1 hq hr h.2.2
  exact ⟨s, e, ⟨BM_D h.1 F, RS_D h.2.1 F, d⟩, e14, FS_D F⟩
theorem r_isName (h2 : gI σ 2 = nI 1) (h4 : gI σ 4 = nI 1) : m11_isName n σ = some (nI 1, σ) := by
  unfold m11_isName
  rw [h2, h4, L_1, if_pos rfl, L_8, ile_t (by omega) (by omega)]
theorem r_more_no {c : Nat} (h : gI σ 2 = nI c) (hc : c ≠ 44) (h31 : c < 2 ^ 31) : m11_isMore n σ = some (nI 0, σ) := by
  unfold m11_isMore
  rw [h, L_44, ieq_f hc h31 (by omega), L_0]
/-- a link -/
theorem R_link (hn : 2000 < n) (ha : va < 10) (hb : vb < 10) (hq : q < 1000000) (h : AT σ0 f g l m X L σ ((97 + va) :: 32 :: (97 + vb) :: 40 :: (dgs q ++ 41 :: 59 :: r))) : ∃ s, m11_isStatement n σ = some (nI 1, s) ∧ AT σ0 f g l m (e_add (e_add X va) vb) (L ++ [(0, va, vb, vc, q)]) s (59 :: r) ∧ FST σ s := by
  obtain ⟨m1, hm1⟩ : ∃ m1, n = m1 + 1 := ⟨n - 1, by omega⟩
  obtain ⟨m2, hm2⟩ : ∃ m2, m1 = m2 + 1 := ⟨m1 - 1, by omega⟩
  obtain ⟨n2, n4, n0⟩ := RD_name (c := 32) ha (by decide) h.2.2
  obtain ⟨s1, e1, d1, F1⟩ := AT_name32 (n := n) hn ha (sld_c (by omega)) h
  obtain ⟨k2, k4, k0⟩ := RD_name (c := 40) hb (by decide) d1.2.2
  obtain ⟨i, s2, e2, d2, t2, F2, g2⟩ := AT_node (n := n) hn ha d1
  obtain ⟨j2, j4, j0⟩ := RD_name (c := 40) hb (by decide) d2.2.2
  obtain ⟨j, s3, e3, d3, t3, F3, g3⟩ := AT_node (n := n) hn hb d2
  obtain ⟨s4, e4, d4, F4⟩ := AT_name (n := n) (c := 40) hn hb (by decide) (sld_c (by omega)) d3
  obtain ⟨s5, e5, d5, b5, F5⟩ := AT_cost (n := n) hn hq (sld_c (by omega)) d4
  obtain ⟨s6, e6, d6, F6⟩ := q_link (n := n) (vc := vc) (q := q) d5.1 (AtN_add t2) t3 (by omega)
  have D6 : AT σ0 f g l m (e_add (e_add X va) vb) (L ++ [(0, va, vb, vc, q)]) s6 (59 :: r) := ⟨d6, RS_fr d5.2.1 F6 (by simp) (by simp) (by simp), RD_fr d5.2.2 F6 (by simp) (by simp) (by simp) (by simp) (by simp) (by simp)⟩
  have g6 := AT_2 (c := 59) (by decide) (by omega) D6
  refine ⟨s6, ?_, D6, fr_tr F1 (fr_tr F2 (fr_tr F3 (fr_tr F4 (fr_tr F5 (fr_wk F6 (by simp) (by simp) (by simp) (by simp) (by simp))))))⟩
  unfold m11_isStatement m11_isStatement_57 m11_areTargets
  rw [r_isName n2 n4, ej_bi_s, L_0, if_neg n10, n0, ej_nm_e, e1, ej_bv_s, k2, L_123, ieq_f (by omega) (by omega) (by omega), e2, ej_bi_s, g2, k2, L_61, ieq_f (by omega) (by omega) (by omega)]
  rw [show m11_areTargets_2 n n (nI i) 1 s2 = m11_areTargets_2 n (m2 + 1 + 1) (nI i) 1 s2 by rw [← hm2, ← hm1], u_11_areTargets_2, if_neg (by decide), g2, k2, L_64, ieq_f (by omega) (by omega) (by omega), if_pos rfl]
  unfold m11_areTargets_29
  rw [r_isName j2 j4, ej_bi_s, L_0, if_neg n10, j0, e3, ej_bi_s, e4, ej_bv_s, e5, ej_bi_s, if_neg n10, b5, ← L_0, e6, ej_bv_s, r_more_no g6 (by omega) (by omega), ej_bi_s, u_11_areTargets_2, L_0, if_pos rfl, L_1, ej_bi_s, bz_n1]
/-- two names of one host -/
theorem q_alias {i j : Nat} (h : AT σ0 f g l m X L σ r) (hA : AtN m X i va) (hB : AtN m X j vb) (hq : q < 2 ^ 30) (h2 : gI σ 2 = nI 59) (F : Int32 → Int32 → ej_S → Option (Int32 × ej_S)) : ∃ s, (if gI σ 6 = 0 then ej_bi (m11_isMore n σ) fun r9 s8 => (F (nI i) r9 s8) else (if nI i = nI j then ej_bi (m11_isMore n σ) fun r11 s10 => (F (nI i) r11 s10) else ej_ck ((24 * nI i) + nI j) 576 (ej_nm (uA σ 19 (((24 * nI i) + nI j).toNatClampNeg) (ej_bz 1)) fun s12 => ej_ck ((24 * nI j) + nI i) 576 (ej_nm (uA s12 19 (((24 * nI j) + nI i).toNatClampNeg) (ej_bz 1)) fun s13 => ej_bi (m11_isMore n s13) fun r15 s14 => (F (nI i) r15 s14))))) = F (nI i) (nI 0) s ∧ AT σ0 f g l m X (L ++ [(1, va, vb, vc, q)]) s r ∧ FST σ s := by
  have hi := hA.1
  have hj := hB.1
  have h6 := BM_6 h.1
  cases m
  · refine ⟨σ, ?_, ⟨h.1, h.2⟩, fr_rf⟩
    rw [h6, bI_f, L_0, if_pos rfl, r_more_no h2 (by omega) (by omega), ej_bi_s]
  · rw [h6, bI_t, L_0, if_neg n10, L_24, pk_mul, pk_mul, nI_add, nI_add, ck_t (by omega) (by omega), nI_clamp (by omega), nI_clamp (by omega)]
    obtain ⟨b6, b7, bf, bM⟩ := h.1
    by_cases z : i = j
    · refine ⟨σ, ?_, ⟨⟨b6, b7, bf, MPB_alias (vc := vc) bM hA hB hq _ rfl (by rw [if_pos z])⟩, h.2⟩, fr_rf⟩
      rw [ieq_t z, r_more_no h2 (by omega) (by omega), ej_bi_s]
    · have F1 : fr [] [] [19] [] [] σ (uA (uA σ 19 (24 * i + j) (nI 1)) 19 (24 * j + i) (nI 1)) := fr_uA (fr_uA fr_rf (by simp)) (by simp)
      refine ⟨uA (uA σ 19 (24 * i + j) (nI 1)) 19 (24 * j + i) (nI 1), ?_, ⟨⟨by rw [F1.1 6 (by simp)]; exact b6, by rw [F1.1 7 (by simp)]; exact b7, bf, MPB_alias (vc := vc) bM hA hB hq _ rfl (by rw [if_neg z])⟩, RS_fr h.2.1 F1 (by simp) (by simp) (by simp), RD_fr h.2.2 F1 (by simp) (by simp) (by simp) (by simp) (by simp) (by simp)⟩, fr_wk F1 (by simp) (by simp) (by simp) (by simp) (by simp)⟩
      rw [ieq_f z (by omega) (by omega), L_1, bz_n1, ej_nm_e, ck_t (by omega) (by omega), ej_nm_e, r_more_no (c := 59) (by rw [F1.1 2 (by simp)]; exact h2) (by omega) (by omega), ej_bi_s]
theorem R_alias (hn : 2000 < n) (ha : va < 10) (hb : vb < 10) (hq : q < 1000000) (h : AT σ0 f g l m X L σ ((97 + va) :: 61 :: (97 + vb) :: 59 :: r)) : ∃ s, m11_isStatement n σ = some (nI 1, s) ∧ AT σ0 f g l m (e_add (e_add X va) vb) (L ++ [(1, va, vb, vc, q)]) s (59 :: r) ∧ FST σ s := by
  obtain ⟨m1, hm1⟩ : ∃ m1, n = m1 + 1 := ⟨n - 1, by omega⟩
  obtain ⟨m2, hm2⟩ : ∃ m2, m1 = m2 + 1 := ⟨m1 - 1, by omega⟩
  obtain ⟨n2, n4, n0⟩ := RD_name (c := 61) ha (by decide) h.2.2
  obtain ⟨s1, e1, d1, F1⟩ := AT_name (n := n) (c := 61) hn ha (by decide) (sld_c (by omega)) h
  have k2 := AT_2 (c := 61) (by decide) (by omega) d1
  obtain ⟨i, s2, e2, d2, t2, F2, g2⟩ := AT_node (n := n) hn ha d1
  obtain ⟨s3, e3, d3, F3⟩ := AT_sg (n := n) (c := 61) hn (by decide) (sld_c (by omega)) d2
  obtain ⟨j2, j4, j0⟩ := RD_name (c := 59) hb (by decide) d3.2.2
  obtain ⟨j, s4, e4, d4, t4, F4, g4⟩ := AT_node (n := n) hn hb d3
  obtain ⟨s5, e5, d5, F5⟩ := AT_name (n := n) (c := 59) hn hb (by decide) (sld_c (by omega)) d4
  have g5 := AT_2 (c := 59) (by decide) (by omega) d5
  obtain ⟨s6, e6, d6, F6⟩ := q_alias (n := n) (vc := vc) (q := q) d5 (AtN_add t2) t4 (by omega) g5 (m11_areOthers_2 n (m2 + 1))
  refine ⟨s6, ?_, d6, fr_tr F1 (fr_tr F2 (fr_tr F3 (fr_tr F4 (fr_tr F5 F6))))⟩
  unfold m11_isStatement m11_isStatement_57 m11_areOthers
  rw [r_isName n2 n4, ej_bi_s, L_0, if_neg n10, n0, ej_nm_e, e1, ej_bv_s, k2, L_123, ieq_f (by omega) (by omega) (by omega), e2, ej_bi_s, g2, k2, L_61, if_pos rfl, e3, ej_bv_s, j2, L_64, ieq_f (by omega) (by omega) (by omega), ieq_f (by omega) (by omega) (by omega)]
  rw [show m11_areOthers_2 n n (nI i) 1 s3 = m11_areOthers_2 n (m2 + 1 + 1) (nI i) 1 s3 by rw [← hm2, ← hm1], u_11_areOthers_2, if_neg (by decide), r_isName j2 j4, ej_bi_s, if_neg (show ¬ (nI 1 = (0 : Int32)) by rw [L_0]; exact n10), j0, e4, ej_bi_s, e5, ej_bv_s, e6, u_11_areOthers_2, L_0, if_pos rfl, L_1, ej_bi_s, bz_n1]
/-- a net -/
theorem q_net {i j k : Nat} {S : Int32} (hn : 2000 < n) (h : AT σ0 f g l m X L σ r) (hA : AtN m X i va) (hB : AtN m X j vb) (hC : AtN m X k vc) (hq : q < 2 ^ 30) (hS : ∀ i, i < 24 → (bt S i = true ↔ i = j ∨ i = k)) : ∃ s, m11_holds n (nI i) S (nI q) 0 σ = some s ∧ AT σ0 f g l m X (L ++ [(2, va, vb, vc, q)]) s r ∧ FST σ s := by
  have h6 := BM_6 h.1
  have hi := hA.1
  rw [L_0, ← bI_f]
  cases m
  · exact ⟨σ, r_holds0 h6 false, ⟨h.1, h.2⟩, fr_rf⟩
  · obtain ⟨b6, b7, bf, bM⟩ := h.1
    have l10 := MPB_10 bM
    obtain ⟨s, e1, F, e12, e13, p1, p2⟩ := r_holds (n := n) (set := S) (p := nI q) hn bM.1 (show X.length ≤ 24 by omega) hi b6 false
    have e13' : gA s 13 = upd (gA σ 13) i (nI 1) := by
      rw [e13]
      by_cases z : gA σ 13 i = nI 0
      · rw [if_pos z]; rfl
      · rw [if_neg z]
    exact ⟨s, e1, ⟨⟨by rw [F.1 6 (by simp)]; exact b6, by rw [F.1 7 (by simp)]; exact b7, bf, MPB_net bM hA hB hC hq _ rfl hS F e12 e13' p1 p2⟩, RS_fr h.2.1 F (by simp) (by simp) (by simp), RD_fr h.2.2 F (by simp) (by simp) (by simp) (by simp) (by simp) (by simp)⟩, fr_wk F (by simp) (by simp) (by simp) (by simp) (by simp)⟩
theorem r_closed_yes (h2 : gI σ 2 = nI 125) {s : ej_S} (e : m11_next n σ = some s) : m11_isClosed n σ = some (nI 1, s) := by
  unfold m11_isClosed
  rw [h2, L_125, if_pos rfl, e, ej_bv_s, L_1]
theorem R_net (hn : 2000 < n) (ha : va < 10) (hb : vb < 10) (hc : vc < 10) (hq : q < 1000000) (h : AT σ0 f g l m X L σ ((97 + va) :: 61 :: 123 :: (97 + vb) :: 44 :: (97 + vc) :: 125 :: 40 :: (dgs q ++ 41 :: 59 :: r))) : ∃ s, m11_isStatement n σ = some (nI 1, s) ∧ AT σ0 f g l m (e_add (e_add (e_add X va) vb) vc) (L ++ [(2, va, vb, vc, q)]) s (59 :: r) ∧ FST σ s := by
  obtain ⟨m1, hm1⟩ : ∃ m1, n = m1 + 1 := ⟨n - 1, by omega⟩
  obtain ⟨m2, hm2⟩ : ∃ m2, m1 = m2 + 1 := ⟨m1 - 1, by omega⟩
  obtain ⟨m3, hm3⟩ : ∃ m3, m2 = m3 + 1 := ⟨m2 - 1, by omega⟩
  obtain ⟨n2, n4, n0⟩ := RD_name (c := 61) ha (by decide) h.2.2
  obtain ⟨s1, e1, d1, F1⟩ := AT_name (n := n) (c := 61) hn ha (by decide) (sld_c (by omega)) h
  have k2 := AT_2 (c := 61) (by decide) (by omega) d1
  obtain ⟨i, s2, e2, d2, t2, F2, g2⟩ := AT_node (n := n) hn ha d1
  obtain ⟨s3, e3, d3, F3⟩ := AT_sg (n := n) (c := 61) hn (by decide) (sld_c (by omega)) d2
  have g3 := AT_2 (c := 123) (by decide) (by omega) d3
  obtain ⟨s4, e4, d4, F4⟩ := AT_sg (n := n) (c := 123) hn (by decide) (sld_c (by omega)) d3
  obtain ⟨j2, j4, j0⟩ := RD_name (c := 44) hb (by decide) d4.2.2
  obtain ⟨j, s5, e5, d5, t5, F5, g5⟩ := AT_node (n := n) hn hb d4
  obtain ⟨s6, e6, d6, F6⟩ := AT_name (n := n) (c := 44) hn hb (by decide) (sld_c (by omega)) d5
  have g6 := AT_2 (c := 44) (by decide) (by omega) d6
  obtain ⟨s7, e7, d7, F7⟩ := AT_sg (n := n) (c := 44) hn (by decide) (sld_c (by omega)) d6
  obtain ⟨i2, i4, i0⟩ := RD_name (c := 125) hc (by decide) d7.2.2
  obtain ⟨k, s8, e8, d8, t8, F8, g8⟩ := AT_node (n := n) hn hc d7
  obtain ⟨s9, e9, d9, F9⟩ := AT_name (n := n) (c := 125) hn hc (by decide) (sld_c (by omega)) d8
  have g9 := AT_2 (c := 125) (by decide) (by omega) d9
  obtain ⟨sA, eA, dA, FA⟩ := AT_sg (n := n) (c := 125) hn (by decide) (sld_c (by omega)) d9
  obtain ⟨sB, eB, dB, bB, FB⟩ := AT_cost (n := n) hn hq (sld_c (by omega)) dA
  have hj := t5.1
  have hk := t8.1
  have hS : ∀ x, x < 24 → (bt ((0 ||| stb j) ||| stb k) x = true ↔ x = j ∨ x = k) := by
    intro x hx
    rw [bt_or _ (by omega) (by omega), bt_or _ (by omega) (by omega), show bt 0 x = false from b_0 x, Bool.false_or, Bool.or_eq_true, decide_eq_true_eq, decide_eq_true_eq]
  obtain ⟨sC, eC, dC, FC⟩ := q_net (n := n) (q := q) (S := (0 ||| stb j) ||| stb k) hn dB (AtN_add (AtN_add t2)) (AtN_add t5) t8 (by omega) hS
  refine ⟨sC, ?_, dC, fr_tr F1 (fr_tr F2 (fr_tr F3 (fr_tr F4 (fr_tr F5 (fr_tr F6 (fr_tr F7 (fr_tr F8 (fr_tr F9 (fr_tr FA (fr_tr FB FC))))))))))⟩
  have nz : ¬ (nI 1 = (0 : Int32)) := by rw [L_0]; exact n10
  unfold m11_isStatement m11_isStatement_57 m11_areMembers m11_areMembers_23
  rw [r_isName n2 n4, ej_bi_s, if_neg nz, n0, ej_nm_e, e1, ej_bv_s, k2, L_123, ieq_f (by omega) (by omega) (by omega), e2, ej_bi_s, g2, k2, L_61, if_pos rfl, e3, ej_bv_s, g3, L_64, ieq_f (by omega) (by omega) (by omega), if_pos rfl, ieq_f (by omega) (by omega) (by omega), if_pos rfl, if_pos rfl, e4, ej_bv_s]
  rw [show m11_areMembers_47 n n (nI i) 0 0 1 s4 = m11_areMembers_47 n (m3 + 1 + 1 + 1) (nI i) 0 0 1 s4 by rw [← hm3, ← hm2, ← hm1], u_11_areMembers_47, if_neg (by decide), r_isName j2 j4, ej_bi_s, if_neg nz, j0, e5, ej_bi_s, ej_nm_e, e6, ej_bv_s, show m11_isMore n s6 = some (nI 1, s7) by
    unfold m11_isMore
    rw [g6, L_44, if_pos rfl, e7, ej_bv_s, L_1], ej_bi_s, u_11_areMembers_47, if_neg nz, r_isName i2 i4, ej_bi_s, if_neg nz, i0, e8, ej_bi_s, ej_nm_e, e9, ej_bv_s, r_more_no g9 (by omega) (by omega), ej_bi_s, u_11_areMembers_47, if_pos (show (nI 0 = (0 : Int32)) from L_0.symm), r_closed_yes g9 eA, ej_bi_s, if_neg nz, eB, ej_bi_s, if_neg nz, bB]
  show ej_bi (ej_bv (m11_holds n (nI i) ((0 ||| stb j) ||| stb k) (nI q) 0 sB) _) _ = _
  rw [eC, ej_bv_s, ej_bi_s, L_1, bz_n1]
/-- the word 'dead' and what it tells of -/
theorem tk_dead {r : List Nat} : srL (100 :: 101 :: 97 :: 100 :: 123 :: r) = 97 ∧ enL (100 :: 101 :: 97 :: 100 :: 123 :: r) = 4 ∧ nxt (100 :: 101 :: 97 :: 100 :: 123 :: r) = 123 :: r := ⟨rfl, rfl, rfl⟩
theorem AT_dead (hn : 2000 < n) (h : AT σ0 f g l m X L σ (100 :: 101 :: 97 :: 100 :: 123 :: r)) : gI σ 2 = nI 1 ∧ gI σ 4 = nI 4 ∧ gJ σ 0 = lN 1684104548 ∧ ∃ s, m11_next n σ = some s ∧ AT σ0 f g l m X L s (123 :: r) ∧ FST σ s := by
  obtain ⟨t1, t2, t3⟩ := tk_dead (r := r)
  have e2 := RD_2 h.2.2
  obtain ⟨e4, e0⟩ := RD_nm h.2.2 t1
  rw [t1] at e2
  rw [t2] at e4 e0
  rw [show ((100 :: 101 :: 97 :: 100 :: 123 :: r).take 4).take 8 = [100, 101, 97, 100] from rfl, show pkL [100, 101, 97, 100] = 1684104548 by decide +kernel] at e0
  obtain ⟨s, e, d, F⟩ := r_nx (n := n) hn h.2.1 h.2.2
  rw [t3] at d
  exact ⟨e2, e4, e0, s, e, AT_n h F d, FS_n F⟩
theorem lgd : lg_cmp (lN 1684104548) 1684104548 = 0 := by decide +kernel
theorem lgp : ¬ lg_cmp (lN 1684104548) 28556934595048048 = 0 := by decide +kernel
theorem q_dead {i : Nat} (h : AT σ0 f g l m X L σ r) (hA : AtN m X i va) (hq : q < 2 ^ 30) : ∃ s, m11_isItem_58 n (lN 1684104548) (nI i) σ = some (nI 1, s) ∧ AT σ0 f g l m X (L ++ [(3, va, vb, vc, q)]) s r ∧ FST σ s ∧ gI s 2 = gI σ 2 := by
  have h6 := BM_6 h.1
  have hi := hA.1
  have F : ∀ x y, fr [] [] [14, 15] [] [] σ (uA (uA σ 14 i x) 15 i y) := fun x y => fr_uA (fr_uA fr_rf (by simp)) (by simp)
  refine ⟨_, r_item (lN 1684104548) hi h6, ⟨?_, RS_fr h.2.1 (F _ _) (by simp) (by simp) (by simp), RD_fr h.2.2 (F _ _) (by simp) (by simp) (by simp) (by simp) (by simp) (by simp)⟩, fr_wk (F _ _) (by simp) (by simp) (by simp) (by simp) (by simp), (F _ _).1 2 (by simp)⟩
  rw [show decide (lN 1684104548 = 1684104548) = true by decide +kernel, show decide (lN 1684104548 = 431198855527) = false by decide +kernel, Bool.and_true, Bool.and_false, Bool.or_false]
  cases m
  · obtain ⟨b6, b2⟩ := h.1
    refine ⟨by rw [(F _ _).1 6 (by simp)]; exact b6, ms_tr b2 ?_⟩
    rw [Bool.or_false]
    have up : ∀ (R : Nat → Int32) x, upd R i (bI (decide (R i ≠ nI 0))) x = nI 0 ↔ R x = nI 0 := by
      intro R x
      by_cases z : x = i
      · rw [z, pk_us]
        by_cases y : R i = nI 0
        · rw [decide_eq_false (fun w => w y)]; exact ⟨fun _ => y, fun _ => rfl⟩
        · rw [decide_eq_true y]; exact ⟨fun w => absurd w n10, fun w => absurd w y⟩
      · rw [pk_un z]
    refine ⟨(F _ _).1 15 (by simp), (F _ _).1 16 (by simp), (F _ _).2.2.2.1 1 (by simp), (F _ _).2.2.1 11 (by simp), (F _ _).2.2.1 12 (by simp), (F _ _).2.2.1 13 (by simp), (F _ _).2.2.1 16 (by simp), (F _ _).2.2.1 17 (by simp), (F _ _).2.2.1 19 (by simp), (F _ _).2.2.1 20 (by simp), fun x => ?_, fun x => ?_, fun x => by rw [(F _ _).2.2.1 18 (by simp)]⟩
    · rw [s_AA_n (by omega), s_AA_s]; exact up _ x
    · rw [s_AA_s, s_AA_n (by omega)]; exact up _ x
  · obtain ⟨b6, b7, bf, bM⟩ := h.1
    have z15 : gA σ 15 i = nI 0 := (bM.2.2.2.2.2.2.2.1 i hi).2.2.2
    refine ⟨by rw [(F _ _).1 6 (by simp)]; exact b6, by rw [(F _ _).1 7 (by simp)]; exact b7, bf, MPB_dead (vb := vb) (vc := vc) bM hA hq _ rfl ?_⟩
    rw [Bool.or_true, decide_eq_false (fun w => w z15)]; rfl
theorem R_dead (hn : 2000 < n) (ha : va < 10) (hq : q < 1000000) (h : AT σ0 f g l m X L σ (100 :: 101 :: 97 :: 100 :: 123 :: (97 + va) :: 125 :: 59 :: r)) : ∃ s, m11_isStatement n σ = some (nI 1, s) ∧ AT σ0 f g l m (e_add X va) (L ++ [(3, va, vb, vc, q)]) s (59 :: r) ∧ FST σ s := by
  obtain ⟨m1, hm1⟩ : ∃ m1, n = m1 + 1 := ⟨n - 1, by omega⟩
  obtain ⟨m2, hm2⟩ : ∃ m2, m1 = m2 + 1 := ⟨m1 - 1, by omega⟩
  obtain ⟨n2, n4, n0, s1, e1, d1, F1⟩ := AT_dead (n := n) hn h
  have g1 := AT_2 (c := 123) (by decide) (by omega) d1
  obtain ⟨s2, e2, d2, F2⟩ := AT_sg (n := n) (c := 123) hn (by decide) (sld_c (by omega)) d1
  obtain ⟨j2, j4, j0⟩ := RD_name (c := 125) ha (by decide) d2.2.2
  obtain ⟨i, s3, e3, d3, t3, F3, g3⟩ := AT_node (n := n) hn ha d2
  obtain ⟨s4, e4, d4, F4⟩ := AT_name (n := n) (c := 125) hn ha (by decide) (sld_c (by omega)) d3
  have g4 := AT_2 (c := 125) (by decide) (by omega) d4
  obtain ⟨s5, e5, d5, F5, g5⟩ := q_dead (n := n) (vb := vb) (vc := vc) (q := q) d4 t3 (by omega)
  have g5' := AT_2 (c := 125) (by decide) (by omega) d5
  obtain ⟨s6, e6, d6, F6⟩ := AT_sg (n := n) (c := 125) hn (by decide) (sld_c (by omega)) d5
  refine ⟨s6, ?_, d6, fr_tr F1 (fr_tr F2 (fr_tr F3 (fr_tr F4 (fr_tr F5 F6))))⟩
  have nz : ¬ (nI 1 = (0 : Int32)) := by rw [L_0]; exact n10
  unfold m11_isStatement m11_isList
  have n4' : m11_isName n σ = some (nI 1, σ) := by
    unfold m11_isName
    rw [n2, n4, L_1, if_pos rfl, L_8, ile_t (by omega) (by omega)]
  rw [n4', ej_bi_s, if_neg nz, n0, ej_nm_e, e1, ej_bv_s, g1, L_123, if_pos rfl, if_pos lgd, e2, ej_bv_s]
  rw [show m11_isList_6 n n (lN 1684104548) 1 s2 = m11_isList_6 n (m2 + 1 + 1) (lN 1684104548) 1 s2 by rw [← hm2, ← hm1], u_11_isList_6, if_neg (by decide)]
  have item : m11_isItem n (lN 1684104548) s2 = some (nI 1, s5) := by
    unfold m11_isItem m11_isItem_36
    rw [r_isName j2 j4, ej_bi_s, if_neg nz, if_neg lgp, j0, e3, ej_bi_s, e4, ej_bv_s, if_pos lgd, g4, L_33, ieq_f (by omega) (by omega) (by omega), e5]
  rw [item, ej_bi_s, if_neg nz, r_more_no g5' (by omega) (by omega), ej_bi_s, u_11_isList_6, if_pos (show (nI 0 = (0 : Int32)) from L_0.symm), r_closed_yes g5' e6, ej_bi_s, bz_n1, ej_bi_s, bz_n1]
/-- a dead link -/
theorem q_dlink {i j : Nat} (h : AT σ0 f g l m X L σ r) (hA : AtN m X i va) (hB : AtN m X j vb) (hq : q < 2 ^ 30) : ∃ s, ej_ck ((24 * nI i) + nI j) 576 ((if gA σ 18 ((24 * nI i) + nI j).toNatClampNeg = 0 then (if gI σ 6 = 0 then ej_ck ((24 * nI i) + nI j) 576 (ej_nm (uA σ 18 (((24 * nI i) + nI j).toNatClampNeg) (ej_bz 0)) fun s26 => (some ((1 : Int32), s26))) else ej_ck ((24 * nI i) + nI j) 576 (ej_nm (uA σ 18 (((24 * nI i) + nI j).toNatClampNeg) (ej_bz 1)) fun s27 => (some (1, s27)))) else ej_ck ((24 * nI i) + nI j) 576 (ej_nm (uA σ 18 (((24 * nI i) + nI j).toNatClampNeg) (ej_bz 1)) fun s25 => (some (1, s25))))) = some (nI 1, s) ∧ AT σ0 f g l m X (L ++ [(4, va, vb, vc, q)]) s r ∧ FST σ s := by
  have h6 := BM_6 h.1
  have hi := hA.1
  have hj := hB.1
  have F : ∀ x, fr [] [] [18] [] [] σ (uA σ 18 (24 * i + j) x) := fun x => fr_uA fr_rf (by simp)
  have fin : ∀ x, BM σ0 f m X (L ++ [(4, va, vb, vc, q)]) (uA σ 18 (24 * i + j) x) → AT σ0 f g l m X (L ++ [(4, va, vb, vc, q)]) (uA σ 18 (24 * i + j) x) r ∧ FST σ (uA σ 18 (24 * i + j) x) := fun x hb => ⟨⟨hb, RS_fr h.2.1 (F _) (by simp) (by simp) (by simp), RD_fr h.2.2 (F _) (by simp) (by simp) (by simp) (by simp) (by simp) (by simp)⟩, fr_wk (F _) (by simp) (by simp) (by simp) (by simp) (by simp)⟩
  rw [L_24, pk_mul, nI_add, ck_t (by omega) (by omega), ck_t (by omega) (by omega), nI_clamp (by omega), h6, L_1, L_0, bz_n1, bz_n0, ej_nm_e, ej_nm_e]
  cases m
  · obtain ⟨b6, b2⟩ := h.1
    have msx : ∀ x, (x = nI 0 ↔ gA σ 18 (24 * i + j) = nI 0) → BM σ0 f false X (L ++ [(4, va, vb, vc, q)]) (uA σ 18 (24 * i + j) x) := by
      intro x hx
      refine ⟨by rw [(F _).1 6 (by simp)]; exact b6, ms_tr b2 ⟨(F _).1 15 (by simp), (F _).1 16 (by simp), (F _).2.2.2.1 1 (by simp), (F _).2.2.1 11 (by simp), (F _).2.2.1 12 (by simp), (F _).2.2.1 13 (by simp), (F _).2.2.1 16 (by simp), (F _).2.2.1 17 (by simp), (F _).2.2.1 19 (by simp), (F _).2.2.1 20 (by simp), fun y => by rw [(F _).2.2.1 14 (by simp)], fun y => by rw [(F _).2.2.1 15 (by simp)], fun y => ?_⟩⟩
      rw [s_AA_s]
      by_cases z : y = 24 * i + j
      · rw [z, pk_us]; exact hx
      · rw [pk_un z]
    by_cases z : gA σ 18 (24 * i + j) = nI 0
    · rw [if_pos z, bI_f, if_pos rfl]
      exact ⟨_, rfl, fin _ (msx _ ⟨fun _ => z, fun _ => rfl⟩)⟩
    · rw [if_neg z, ck_t (by omega) (by omega)]
      exact ⟨_, rfl, fin _ (msx _ ⟨fun w => absurd w n10, fun w => absurd w z⟩)⟩
  · obtain ⟨b6, b7, bf, bM⟩ := h.1
    have key := fin (nI 1) ⟨by rw [(F _).1 6 (by simp)]; exact b6, by rw [(F _).1 7 (by simp)]; exact b7, bf, MPB_dlink (vc := vc) bM hA hB hq _ rfl rfl⟩
    rw [bI_t, if_neg n10]
    by_cases z : gA σ 18 (24 * i + j) = nI 0
    · rw [if_pos z, ck_t (by omega) (by omega)]
      exact ⟨_, rfl, key⟩
    · rw [if_neg z, ck_t (by omega) (by omega)]
      exact ⟨_, rfl, key⟩
theorem R_dlink (hn : 2000 < n) (ha : va < 10) (hb : vb < 10) (hq : q < 1000000) (h : AT σ0 f g l m X L σ (100 :: 101 :: 97 :: 100 :: 123 :: (97 + va) :: 33 :: (97 + vb) :: 125 :: 59 :: r)) : ∃ s, m11_isStatement n σ = some (nI 1, s) ∧ AT σ0 f g l m (e_add (e_add X va) vb) (L ++ [(4, va, vb, vc, q)]) s (59 :: r) ∧ FST σ s := by
  obtain ⟨m1, hm1⟩ : ∃ m1, n = m1 + 1 := ⟨n - 1, by omega⟩
  obtain ⟨m2, hm2⟩ : ∃ m2, m1 = m2 + 1 := ⟨m1 - 1, by omega⟩
  obtain ⟨n2, n4, n0, s1, e1, d1, F1⟩ := AT_dead (n := n) hn h
  have g1 := AT_2 (c := 123) (by decide) (by omega) d1
  obtain ⟨s2, e2, d2, F2⟩ := AT_sg (n := n) (c := 123) hn (by decide) (sld_c (by omega)) d1
  obtain ⟨j2, j4, j0⟩ := RD_name (c := 33) ha (by decide) d2.2.2
  obtain ⟨i, s3, e3, d3, t3, F3, g3⟩ := AT_node (n := n) hn ha d2
  obtain ⟨s4, e4, d4, F4⟩ := AT_name (n := n) (c := 33) hn ha (by decide) (sld_c (by omega)) d3
  have g4 := AT_2 (c := 33) (by decide) (by omega) d4
  obtain ⟨s5, e5, d5, F5⟩ := AT_sg (n := n) (c := 33) hn (by decide) (sld_c (by omega)) d4
  obtain ⟨i2, i4, i0⟩ := RD_name (c := 125) hb (by decide) d5.2.2
  obtain ⟨j, s6, e6, d6, t6, F6, g6⟩ := AT_node (n := n) hn hb d5
  obtain ⟨s7, e7, d7, F7⟩ := AT_name (n := n) (c := 125) hn hb (by decide) (sld_c (by omega)) d6
  obtain ⟨s8, e8, d8, F8⟩ := q_dlink (vc := vc) (q := q) d7 (AtN_add t3) t6 (by omega)
  have g8 := AT_2 (c := 125) (by decide) (by omega) d8
  obtain ⟨s9, e9, d9, F9⟩ := AT_sg (n := n) (c := 125) hn (by decide) (sld_c (by omega)) d8
  refine ⟨s9, ?_, d9, fr_tr F1 (fr_tr F2 (fr_tr F3 (fr_tr F4 (fr_tr F5 (fr_tr F6 (fr_tr F7 (fr_tr F8 F9)))))))⟩
  have nz : ¬ (nI 1 = (0 : Int32)) := by rw [L_0]; exact n10
  unfold m11_isStatement m11_isList
  have n4' : m11_isName n σ = some (nI 1, σ) := by
    unfold m11_isName
    rw [n2, n4, L_1, if_pos rfl, L_8, ile_t (by omega) (by omega)]
  rw [n4', ej_bi_s, if_neg nz, n0, ej_nm_e, e1, ej_bv_s, g1, L_123, if_pos rfl, if_pos lgd, e2, ej_bv_s]
  rw [show m11_isList_6 n n (lN 1684104548) 1 s2 = m11_isList_6 n (m2 + 1 + 1) (lN 1684104548) 1 s2 by rw [← hm2, ← hm1], u_11_isList_6, if_neg (by decide)]
  have item : m11_isItem n (lN 1684104548) s2 = some (nI 1, s8) := by
    unfold m11_isItem m11_isItem_36
    rw [r_isName j2 j4, ej_bi_s, if_neg nz, if_neg lgp, j0, e3, ej_bi_s, e4, ej_bv_s, if_pos lgd, g4, L_33, if_pos rfl, e5, ej_bv_s, r_isName i2 i4, ej_bi_s, if_neg nz, i0, e6, ej_bi_s, e7, ej_bv_s, e8]
  rw [item, ej_bi_s, if_neg nz, r_more_no g8 (by omega) (by omega), ej_bi_s, u_11_isList_6, if_pos (show (nI 0 = (0 : Int32)) from L_0.symm), r_closed_yes g8 e9, ej_bi_s, bz_n1, ej_bi_s, bz_n1]
end P97s
