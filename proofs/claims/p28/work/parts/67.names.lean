/-! THE READER, IN BOTH: names, signs, costs -/
abbrev FC (σ σ' : ej_S) : Prop := fr [10, 11, 13, 14, 15, 16, 17, 18, 19, 20, 21, 22, 23, 24, 25, 26, 27, 28, 30, 32, 33] [] [14, 15, 16, 17, 18, 19, 20, 21, 22, 23] [1] [0, 1] σ σ'
abbrev FR (σ σ' : ej_S) : Prop := fr [1, 2, 3, 4, 5, 9, 10, 13, 14, 15, 16] [0] [5, 6, 7, 8, 9, 10, 11, 12, 13, 14, 15, 16, 17, 18, 19, 20] [1] [] σ σ'
/-- the map of the reference stays -/
def ms (σ s : ej_S) : Prop := gI s 15 = gI σ 15 ∧ gI s 16 = gI σ 16 ∧ gB s 1 = gB σ 1 ∧ gA s 11 = gA σ 11 ∧ gA s 12 = gA σ 12 ∧ gA s 13 = gA σ 13 ∧ gA s 16 = gA σ 16 ∧ gA s 17 = gA σ 17 ∧ gA s 19 = gA σ 19 ∧ gA s 20 = gA σ 20 ∧ (∀ i, gA s 14 i = nI 0 ↔ gA σ 14 i = nI 0) ∧ (∀ i, gA s 15 i = nI 0 ↔ gA σ 15 i = nI 0) ∧ (∀ i, gA s 18 i = nI 0 ↔ gA σ 18 i = nI 0)
theorem ms_rf {σ : ej_S} : ms σ σ := ⟨rfl, rfl, rfl, rfl, rfl, rfl, rfl, rfl, rfl, rfl, fun _ => Iff.rfl, fun _ => Iff.rfl, fun _ => Iff.rfl⟩
theorem ms_tr {σ s t : ej_S} (h : ms σ s) (g : ms s t) : ms σ t := by
  obtain ⟨a1, a2, a3, a4, a5, a6, a7, a8, a9, a10, a11, a12, a13⟩ := h
  obtain ⟨b1, b2, b3, b4, b5, b6, b7, b8, b9, b10, b11, b12, b13⟩ := g
  exact ⟨b1.trans a1, b2.trans a2, b3.trans a3, b4.trans a4, b5.trans a5, b6.trans a6, b7.trans a7, b8.trans a8, b9.trans a9, b10.trans a10, fun i => (b11 i).trans (a11 i), fun i => (b12 i).trans (a12 i), fun i => (b13 i).trans (a13 i)⟩
theorem ms_fr {σ s : ej_S} {I J A B M : List Nat} (f : fr I J A B M σ s) (h1 : 15 ∉ I) (h2 : 16 ∉ I) (h3 : 1 ∉ B) (a1 : 11 ∉ A) (a2 : 12 ∉ A) (a3 : 13 ∉ A) (a4 : 14 ∉ A) (a5 : 15 ∉ A) (a6 : 16 ∉ A) (a7 : 17 ∉ A) (a8 : 18 ∉ A) (a9 : 19 ∉ A) (a10 : 20 ∉ A) : ms σ s := by
  unfold ms
  rw [f.1 15 h1, f.1 16 h2, f.2.2.2.1 1 h3, f.2.2.1 11 a1, f.2.2.1 12 a2, f.2.2.1 13 a3, f.2.2.1 14 a4, f.2.2.1 15 a5, f.2.2.1 16 a6, f.2.2.1 17 a7, f.2.2.1 18 a8, f.2.2.1 19 a9, f.2.2.1 20 a10]
  exact ⟨rfl, rfl, rfl, rfl, rfl, rfl, rfl, rfl, rfl, rfl, fun _ => Iff.rfl, fun _ => Iff.rfl, fun _ => Iff.rfl⟩
/-- a fault told alike -/
def FT (σc σr : ej_S) : Prop := ∃ k p, gI σc 10 = nI k ∧ gI σr 9 = nI k ∧ gI σc 11 = nI p ∧ gI σr 10 = nI p ∧ 0 < k ∧ k < 7 ∧ p ≤ 600
/-- class and reference stand at token i of a text -/
def PS (b : Bool) (f fl c : Nat) (l : List Nat) (i : Nat) (σc σr : ej_S) : Prop := TK σc l ∧ RT σr fl l i ∧ RW σr ∧ gI σc 30 = nI i ∧ i ≤ c ∧ MR b σc σr ∧ gI σr 6 = bI b ∧ (b = true → gI σr 7 = nI f) ∧ gI σc 29 = nI f
/-- fixed things of a reading -/
def PX (n f c : Nat) (l : List Nat) : Prop := 2000 < n ∧ f < 4 ∧ bg l c = l.length ∧ c ≤ 600 ∧ (∀ x ∈ l, x < 256) ∧ l.length ≤ 600
def PRES (b : Bool) (f fl c : Nat) (l : List Nat) (i : Nat) (σc σr : ej_S) (X Y : Option (Int32 × ej_S)) : Prop := ∃ ok σc' σr', X = some (bI ok, σc') ∧ Y = some (bI ok, σr') ∧ FC σc σc' ∧ FR σr σr' ∧ mono σr σr' ∧ (b = false → ms σr σr') ∧ (ok = true → ∃ i', i ≤ i' ∧ PS b f fl c l i' σc' σr') ∧ (ok = false → FT σc' σr')
theorem PRES_tr {b : Bool} {f fl c i i1 : Nat} {l : List Nat} {σc σr σc1 σr1 : ej_S} {X Y : Option (Int32 × ej_S)} (p : FC σc σc1) (q : FR σr σr1) (m : mono σr σr1) (s : b = false → ms σr σr1) (hi : i ≤ i1) (h : PRES b f fl c l i1 σc1 σr1 X Y) : PRES b f fl c l i σc σr X Y := by
  obtain ⟨ok, σc', σr', e1, e2, f1, f2, m1, s1, g1, g2⟩ := h
  refine ⟨ok, σc', σr', e1, e2, fr_tr p f1, fr_tr q f2, mono_tr m m1, fun z => ms_tr (s z) (s1 z), fun z => ?_, g2⟩
  obtain ⟨i', h1, h2⟩ := g1 z
  exact ⟨i', by omega, h2⟩
section P67
variable {n f fl c i : Nat} {b : Bool} {σ σc σr : ej_S} {l : List Nat}
theorem PX_next (hx : PX n f c l) {i : Nat} (hi : i ≤ c) (hs : sr l (bg l i) ≠ 0) : i + 1 ≤ c := i_next hx.2.2.2.2.1 hx.2.2.1 hi hs
theorem PX_tok (hx : PX n f c l) (hr : RT σr fl l i) {K : Nat} (a : 4 < K) (h7 : K < 128) (p1 : K ≠ 97) (p2 : K ≠ 65) (p3 : K ≠ 48) (p4 : K ≠ 63) : (gI σr 2 = nI K) ↔ sr l (bg l i) = K := by
  have h1 := sr_lt hx.2.2.2.2.1 (bg l i)
  have h2 := rs_lt h1
  rw [hr.1.2.1, nI_eq (by omega) (by omega)]
  exact rs_eq a p1 p2 p3 p4
theorem PX_tok1 (hx : PX n f c l) (hr : RT σr fl l i) : ((gI σr 2 = nI 1) ↔ sr l (bg l i) = 97) ∧ ((gI σr 2 = nI 0) ↔ sr l (bg l i) = 0) := by
  have h1 := sr_lt hx.2.2.2.2.1 (bg l i)
  have h2 := rs_lt h1
  obtain ⟨r1, r2, r3, r4⟩ := rs_1 h1 (sr_k hx.2.2.2.2.1 (bg l i))
  rw [hr.1.2.1, nI_eq (by omega) (by omega), nI_eq (by omega) (by omega)]
  exact ⟨r1, r4⟩
theorem PS_sort (hx : PX n f c l) (h : PS b f fl c l i σc σr) : m8_sortAt n (gI σc 30) σc = some (nI (sr l (bg l i)), σc) := by
  obtain ⟨h1, h2, h3, h4, h5, _⟩ := h
  have := hx.2.2.2.1
  rw [h4]; exact x_sortAt h1 (by omega)
/-- a sign is taken -/
theorem x_take (hx : PX n f c l) (h : PS b f fl c l i σc σr) {K : Nat} (hK : K < 128) : m4_take n (nI K) σc = some (if sr l (bg l i) = K then (nI 1, uI σc 30 (nI (i + 1))) else (nI 0, σc)) := by
  have h1 := sr_lt hx.2.2.2.2.1 (bg l i)
  unfold m4_take
  rw [PS_sort hx h]
  simp only [ej_bi_s, ej_bl_s, ej_bv_s, ej_nm_e, L_1, L_0, nI_eq (show sr l (bg l i) < 2 ^ 31 by omega) (show K < 2 ^ 31 by omega)]
  split
  · rw [h.2.2.2.1, nI_add]
  · rfl
theorem PS_step (hx : PX n f c l) (h : PS b f fl c l i σc σr) (hs : sr l (bg l i) ≠ 0) : ∃ σr', m11_next n σr = some σr' ∧ PS b f fl c l (i + 1) (uI σc 30 (nI (i + 1))) σr' ∧ FC σc (uI σc 30 (nI (i + 1))) ∧ FR σr σr' ∧ fr [1, 2, 3, 4, 5] [0] [] [] [] σr σr' := by
  obtain ⟨h1, h2, h3, h4, h5, h6, h7, h8, h9⟩ := h
  obtain ⟨σr', e, r, f1⟩ := RT_next hx.1 h2
  have f0 : fr [30] [] [] [] [] σc (uI σc 30 (nI (i + 1))) := fr_uI fr_rf (by simp)
  refine ⟨σr', e, ⟨TK_fr h1 f0 (by decide) (by decide) (by decide) (by decide) (by decide) (by decide) (by decide), r, RW_fr h3 f1 (by decide) (by decide), s_II_s, PX_next hx h5 hs, ?_, ?_, ?_, ?_⟩, fr_wk f0 (by simp) (by simp) (by simp) (by simp) (by simp), fr_wk f1 (by simp) (by simp) (by simp) (by simp) (by simp), f1⟩
  · exact MR_fr h6 f0 f1 (by decide) (by decide) (by decide) (by decide) (by decide) (by decide) (by decide) (by decide) (by decide) (by decide) (by decide) (by decide) (by decide) (by decide) (by decide) (by decide) (by decide) (by decide) (by decide) (by decide) (by decide) (by decide) (by decide) (by decide) (by decide) (by decide) (by decide) (by decide) (by decide)
  · rw [f1.1 6 (by decide)]; exact h7
  · rw [f1.1 7 (by decide)]; exact h8
  · rw [f0.1 29 (by decide)]; exact h9
theorem ms_next {s : ej_S} (f1 : fr [1, 2, 3, 4, 5] [0] [] [] [] σr s) : ms σr s := ms_fr f1 (by decide) (by decide) (by decide) (by decide) (by decide) (by decide) (by decide) (by decide) (by decide) (by decide) (by decide) (by decide) (by decide)
theorem mono_next {s : ej_S} (f1 : fr [1, 2, 3, 4, 5] [0] [] [] [] σr s) : mono σr s := mono_fr f1 (by decide) (by decide)
/-- here nothing of this can stand -/
theorem x_misplaced (hx : PX n f c l) (h : PS b f fl c l i σc σr) : m4_misplaced n σc = some (nI 0, uI (uI σc 10 (nI 1)) 11 (nI (bg l i))) := by
  have := hx.2.2.2.1
  obtain ⟨h1, h2, h3, h4, h5, _⟩ := h
  unfold m4_misplaced m1_tell
  rw [h4, x_beginAt h1 (by omega)]
  simp only [ej_bi_s, ej_bl_s, ej_bv_s, ej_nm_e, ↓L_m1, L_0, L_1, L_2, L_3, L_4, L_5, L_6, L_7, L_8, L_9, L_10, L_11, L_12, L_13, L_14, L_15, L_16, L_17, L_18, L_19, L_20, L_21, L_22, L_23, L_24, L_31, L_32, L_33, L_35, L_37, L_40, L_41, L_42, L_43, L_44, L_45, L_46, L_47, L_48, L_57, L_58, L_59, L_61, L_63, L_64, L_65, L_90, L_95, L_96, L_97, L_122, L_123, L_125, L_200, L_255, L_300, L_500, L_576, L_600, L_601, L_602, L_1200, L_1800, L_2400, L_3000, L_4000, L_4096, L_5000, L_30000, L_50000, L_60000, L_70000, L_100000, L_200000, L_1000000, L_1000001, bz_n0]
theorem r_here (h : PS b f fl c l i σc σr) (k : Nat) : m11_failsHere n (nI k) σr = some (nI 0, uI (uI σr 9 (nI k)) 10 (nI (bg l i))) := by rw [r_failsHere, h.2.1.1.2.2.1]
theorem FT_mk (hx : PX n f c l) {s t : ej_S} {k p : Nat} (hk : 0 < k ∧ k < 7) (hp : p ≤ l.length) : FT (uI (uI s 10 (nI k)) 11 (nI p)) (uI (uI t 9 (nI k)) 10 (nI p)) := by
  have := hx.2.2.2.2.2
  exact ⟨k, p, by simp (disch := omega) only [s_IJ, s_IA, s_IB, s_IM, s_JI, s_JA, s_JB, s_JM, s_AI, s_AJ, s_AB, s_AM, s_BI, s_BJ, s_BA, s_BM, s_MI, s_MJ, s_MA, s_MB, s_II_s, s_II_n, s_JJ_s, s_JJ_n, s_AA_s, s_AA_n, s_BB_s, s_BB_n, s_MM_s, s_MM_n, pk_us, pk_un, pk_uLs, pk_uLn], by simp (disch := omega) only [s_IJ, s_IA, s_IB, s_IM, s_JI, s_JA, s_JB, s_JM, s_AI, s_AJ, s_AB, s_AM, s_BI, s_BJ, s_BA, s_BM, s_MI, s_MJ, s_MA, s_MB, s_II_s, s_II_n, s_JJ_s, s_JJ_n, s_AA_s, s_AA_n, s_BB_s, s_BB_n, s_MM_s, s_MM_n, pk_us, pk_un, pk_uLs, pk_uLn], by simp (disch := omega) only [s_IJ, s_IA, s_IB, s_IM, s_JI, s_JA, s_JB, s_JM, s_AI, s_AJ, s_AB, s_AM, s_BI, s_BJ, s_BA, s_BM, s_MI, s_MJ, s_MA, s_MB, s_II_s, s_II_n, s_JJ_s, s_JJ_n, s_AA_s, s_AA_n, s_BB_s, s_BB_n, s_MM_s, s_MM_n, pk_us, pk_un, pk_uLs, pk_uLn], by simp (disch := omega) only [s_IJ, s_IA, s_IB, s_IM, s_JI, s_JA, s_JB, s_JM, s_AI, s_AJ, s_AB, s_AM, s_BI, s_BJ, s_BA, s_BM, s_MI, s_MJ, s_MA, s_MB, s_II_s, s_II_n, s_JJ_s, s_JJ_n, s_AA_s, s_AA_n, s_BB_s, s_BB_n, s_MM_s, s_MM_n, pk_us, pk_un, pk_uLs, pk_uLn], hk.1, hk.2, by omega⟩
theorem FC_tell {s : ej_S} {v w : Int32} : FC s (uI (uI s 10 v) 11 w) := fr_uI (fr_uI fr_rf (by simp)) (by simp)
theorem FR_tell {s : ej_S} {v w : Int32} : FR s (uI (uI s 9 v) 10 w) := fr_uI (fr_uI fr_rf (by simp)) (by simp)
theorem PRES_here (hx : PX n f c l) (h : PS b f fl c l i σc σr) {k : Nat} (hk : 0 < k ∧ k < 7) : PRES b f fl c l i σc σr (some (nI 0, uI (uI σc 10 (nI k)) 11 (nI (bg l i)))) (some (nI 0, uI (uI σr 9 (nI k)) 10 (nI (bg l i)))) :=
  ⟨false, _, _, rfl, rfl, FC_tell, FR_tell, mono_rf, fun _ => ms_rf, fun z => (by cases z), fun _ => FT_mk hx hk (bg_le l i)⟩
/-- a name: told as a fault alike, or there, and taken alike from any state of the reference behind it -/
theorem s_name (hx : PX n f c l) (h : PS b f fl c l i σc σr) (asP : Bool) : (∃ k, 0 < k ∧ k < 7 ∧ m4_takeName n (bI asP) σc = some (nI 0, uI (uI σc 10 (nI k)) 11 (nI (bg l i))) ∧ m11_isName n σr = some (nI 0, uI (uI σr 9 (nI k)) 10 (nI (bg l i)))) ∨ (sr l (bg l i) = 97 ∧ enL (l.drop (bg l i)) ≤ 8 ∧ gJ σr 0 = lN (pkL (tk l (bg l i))) ∧ isNm (gJ σr 0) ∧ m11_isName n σr = some (nI 1, σr) ∧ ∀ s, MR b σc s → gI s 6 = bI b → (b = true → gI s 7 = nI f) → ∃ x y σc' s', m4_takeName n (bI asP) σc = some (nI 1, σc') ∧ (if asP = true then m11_privately n (gJ σr 0) s else m11_nodeOf n (gJ σr 0) s) = some (y, s') ∧ MR b σc' s' ∧ NR b x y s' ∧ gI σc' 32 = x ∧ gI σc' 30 = nI (i + 1) ∧ fr [22, 23, 24, 30, 32] [] [18] [1] [] σc σc' ∧ fr [15, 16] [] [11] [1] [] s s' ∧ mono s s' ∧ (b = false → ms s s')) := by
  have hb6 := hx.2.2.2.2.1
  have h6 := hx.2.2.2.1
  have hPS := h
  obtain ⟨h1, h2, h3, h4, h5, h7, h8, h9, h10⟩ := h
  have hs128 := sr_lt hb6 (bg l i)
  have hbl := bg_le l i
  have hel := enL_le (l.drop (bg l i))
  rw [List.length_drop] at hel
  have h600 := hx.2.2.2.2.2
  by_cases hS : sr l (bg l i) = 97
  · have hp : bg l i < l.length := by
      rcases Nat.lt_or_ge (bg l i) l.length with z | z
      · exact z
      · have := (sr_0 hb6 (bg l i)).mpr z; omega
    have hlen := tk_len (l := l) (p := bg l i) hbl
    have h97 := h2.1.2.2.2.1 hS
    rcases Nat.lt_or_ge 8 (enL (l.drop (bg l i))) with q | q
    · left
      refine ⟨2, by omega, by omega, ?_, ?_⟩
      · unfold m4_takeName m1_tell
        rw [PS_sort hx hPS, hS, ej_bi_s, if_pos (show nI 97 = 97 from rfl), h4, x_lengthAt h1 (by omega), en_sub, ej_bi_s, L_8, ile_f q (by omega), h4, x_beginAt h1 (by omega)]
        simp (disch := omega) only [ej_bi_s, ej_bl_s, ej_bv_s, ej_nm_e, ↓L_m1, L_0, L_1, L_2, L_3, L_4, L_5, L_6, L_7, L_8, L_9, L_10, L_11, L_12, L_13, L_14, L_15, L_16, L_17, L_18, L_19, L_20, L_21, L_22, L_23, L_24, L_31, L_32, L_33, L_35, L_37, L_40, L_41, L_42, L_43, L_44, L_45, L_46, L_47, L_48, L_57, L_58, L_59, L_61, L_63, L_64, L_65, L_90, L_95, L_96, L_97, L_122, L_123, L_125, L_200, L_255, L_300, L_500, L_576, L_600, L_601, L_602, L_1200, L_1800, L_2400, L_3000, L_4000, L_4096, L_5000, L_30000, L_50000, L_60000, L_70000, L_100000, L_200000, L_1000000, L_1000001, bz_n0]
      · unfold m11_isName
        rw [L_1, if_pos ((PX_tok1 hx h2).1.mpr hS), h97.1]
        simp (disch := omega) only [↓L_m1, L_0, L_1, L_2, L_3, L_4, L_5, L_6, L_7, L_8, L_9, L_10, L_11, L_12, L_13, L_14, L_15, L_16, L_17, L_18, L_19, L_20, L_21, L_22, L_23, L_24, L_31, L_32, L_33, L_35, L_37, L_40, L_41, L_42, L_43, L_44, L_45, L_46, L_47, L_48, L_57, L_58, L_59, L_61, L_63, L_64, L_65, L_90, L_95, L_96, L_97, L_122, L_123, L_125, L_200, L_255, L_300, L_500, L_576, L_600, L_601, L_602, L_1200, L_1800, L_2400, L_3000, L_4000, L_4096, L_5000, L_30000, L_50000, L_60000, L_70000, L_100000, L_200000, L_1000000, L_1000001, if_true, if_false, ile_t, ile_f, ilt_t, ilt_f, ieq_t, ieq_f, ieq_m, ieq_m2, ieq_mm, ilt_m, ilt_m2, ile_m, ile_m2, r_here hPS, ej_bi_s, ej_bl_s, ej_bv_s, ej_nm_e]
    · right
      have e8 : (tk l (bg l i)).take 8 = tk l (bg l i) := List.take_of_length_le (by omega)
      have hJ : gJ σr 0 = lN (pkL (tk l (bg l i))) := by rw [h97.2, e8]
      have hmn : mn l (bg l i) = gJ σr 0 := by unfold mn; rw [if_pos hS, h97.2]
      have hNm : isNm (gJ σr 0) := by
        refine ⟨tk l (bg l i), hJ, ?_, by omega, ?_⟩
        · rw [tk_cons hp]; exact List.cons_ne_nil _ _
        · intro d hd
          rw [tk_cons hp] at hd
          rcases List.mem_cons.mp hd with e | e
          · subst e
            have : srtc (cd l (bg l i)) = 97 := by have := hS; unfold sr at this; rw [cd_drop hp] at this; exact this
            have := srtc_ns (cd_b hb6 hp) this
            simp [isNP, this]
          · have := spn_all _ _ _ e
            rw [hS, gon_97] at this; exact this
      refine ⟨hS, q, hJ, hNm, ?_, ?_⟩
      · unfold m11_isName
        rw [L_1, if_pos ((PX_tok1 hx h2).1.mpr hS), h97.1]
        simp (disch := omega) only [↓L_m1, L_0, L_1, L_2, L_3, L_4, L_5, L_6, L_7, L_8, L_9, L_10, L_11, L_12, L_13, L_14, L_15, L_16, L_17, L_18, L_19, L_20, L_21, L_22, L_23, L_24, L_31, L_32, L_33, L_35, L_37, L_40, L_41, L_42, L_43, L_44, L_45, L_46, L_47, L_48, L_57, L_58, L_59, L_61, L_63, L_64, L_65, L_90, L_95, L_96, L_97, L_122, L_123, L_125, L_200, L_255, L_300, L_500, L_576, L_600, L_601, L_602, L_1200, L_1800, L_2400, L_3000, L_4000, L_4096, L_5000, L_30000, L_50000, L_60000, L_70000, L_100000, L_200000, L_1000000, L_1000001, if_true, if_false, ile_t, ile_f, ilt_t, ilt_f, ieq_t, ieq_f, ieq_m, ieq_m2, ieq_mm, ilt_m, ilt_m2, ile_m, ile_m2]
      · intro s m1 m2 m3
        obtain ⟨x, y, σc', s', e1, e2, e3, e4, f1, f2, e5⟩ := s_node hx.1 hx.2.1 m1 m2 m3 hNm asP
        have fz : fr [30, 32] [] [] [] [] σc' (uI (uI σc' 32 x) 30 (nI (i + 1))) := fr_uI (fr_uI fr_rf (by simp)) (by simp)
        refine ⟨x, y, uI (uI σc' 32 x) 30 (nI (i + 1)), s', ?_, e2, ?_, e4, ?_, ?_, ?_, f2, e5, ?_⟩
        · unfold m4_takeName
          rw [PS_sort hx hPS, hS, ej_bi_s, if_pos (show nI 97 = 97 from rfl), h4, x_lengthAt h1 (by omega), en_sub, ej_bi_s, L_8, ile_t q (by omega), h4, x_nameAt h1 (by omega), hmn, ej_bl_s, h10, e1]
          simp (disch := omega) only [ej_bi_s, ej_bl_s, ej_bv_s, ej_nm_e, ↓L_m1, L_0, L_1, L_2, L_3, L_4, L_5, L_6, L_7, L_8, L_9, L_10, L_11, L_12, L_13, L_14, L_15, L_16, L_17, L_18, L_19, L_20, L_21, L_22, L_23, L_24, L_31, L_32, L_33, L_35, L_37, L_40, L_41, L_42, L_43, L_44, L_45, L_46, L_47, L_48, L_57, L_58, L_59, L_61, L_63, L_64, L_65, L_90, L_95, L_96, L_97, L_122, L_123, L_125, L_200, L_255, L_300, L_500, L_576, L_600, L_601, L_602, L_1200, L_1800, L_2400, L_3000, L_4000, L_4096, L_5000, L_30000, L_50000, L_60000, L_70000, L_100000, L_200000, L_1000000, L_1000001, s_IJ, s_IA, s_IB, s_IM, s_JI, s_JA, s_JB, s_JM, s_AI, s_AJ, s_AB, s_AM, s_BI, s_BJ, s_BA, s_BM, s_MI, s_MJ, s_MA, s_MB, s_II_s, s_II_n, s_JJ_s, s_JJ_n, s_AA_s, s_AA_n, s_BB_s, s_BB_n, s_MM_s, s_MM_n, pk_us, pk_un, pk_uLs, pk_uLn, f1.1 30 (show 30 ∉ [22, 23, 24] by decide), h4, nI_add]
        · exact MR_fr e3 fz (fr_rf (I := []) (J := []) (A := []) (B := []) (M := [])) (by decide) (by decide) (by decide) (by decide) (by decide) (by decide) (by decide) (by decide) (by decide) (by decide) (by decide) (by decide) (by decide) (by decide) (by decide) (by decide) (by decide) (by decide) (by decide) (by decide) (by decide) (by decide) (by decide) (by decide) (by decide) (by decide) (by decide) (by decide) (by decide)
        · simp (disch := omega) only [s_IJ, s_IA, s_IB, s_IM, s_JI, s_JA, s_JB, s_JM, s_AI, s_AJ, s_AB, s_AM, s_BI, s_BJ, s_BA, s_BM, s_MI, s_MJ, s_MA, s_MB, s_II_s, s_II_n, s_JJ_s, s_JJ_n, s_AA_s, s_AA_n, s_BB_s, s_BB_n, s_MM_s, s_MM_n, pk_us, pk_un, pk_uLs, pk_uLn]
        · simp (disch := omega) only [s_IJ, s_IA, s_IB, s_IM, s_JI, s_JA, s_JB, s_JM, s_AI, s_AJ, s_AB, s_AM, s_BI, s_BJ, s_BA, s_BM, s_MI, s_MJ, s_MA, s_MB, s_II_s, s_II_n, s_JJ_s, s_JJ_n, s_AA_s, s_AA_n, s_BB_s, s_BB_n, s_MM_s, s_MM_n, pk_us, pk_un, pk_uLs, pk_uLn]
        · exact fr_uI (fr_uI (fr_wk f1 (by simp) (by simp) (by simp) (by simp) (by simp)) (by simp)) (by simp)
        · intro z
          subst z
          -- nothing is built
          have : s' = s := by
            cases asP
            · simp only [Bool.false_eq_true, if_false] at e2
              unfold m11_nodeOf at e2
              rw [m2, L_0, bI_f, if_pos rfl] at e2
              exact (Prod.mk.inj (Option.some.inj e2)).2.symm
            · simp only [if_true] at e2
              unfold m11_privately at e2
              rw [m2, L_0, bI_f, if_pos rfl] at e2
              exact (Prod.mk.inj (Option.some.inj e2)).2.symm
          rw [this]; exact ms_rf
  · left
    refine ⟨1, by omega, by omega, ?_, ?_⟩
    · unfold m4_takeName
      rw [PS_sort hx hPS]
      simp (disch := omega) only [ej_bi_s, ej_bl_s, ej_bv_s, ej_nm_e, ↓L_m1, L_0, L_1, L_2, L_3, L_4, L_5, L_6, L_7, L_8, L_9, L_10, L_11, L_12, L_13, L_14, L_15, L_16, L_17, L_18, L_19, L_20, L_21, L_22, L_23, L_24, L_31, L_32, L_33, L_35, L_37, L_40, L_41, L_42, L_43, L_44, L_45, L_46, L_47, L_48, L_57, L_58, L_59, L_61, L_63, L_64, L_65, L_90, L_95, L_96, L_97, L_122, L_123, L_125, L_200, L_255, L_300, L_500, L_576, L_600, L_601, L_602, L_1200, L_1800, L_2400, L_3000, L_4000, L_4096, L_5000, L_30000, L_50000, L_60000, L_70000, L_100000, L_200000, L_1000000, L_1000001, if_true, if_false, ile_t, ile_f, ilt_t, ilt_f, ieq_t, ieq_f, ieq_m, ieq_m2, ieq_mm, ilt_m, ilt_m2, ile_m, ile_m2, x_misplaced hx hPS, bz_n0]
    · unfold m11_isName
      rw [L_1, if_neg (fun z => hS ((PX_tok1 hx h2).1.mp z)), r_here hPS]
      simp only [ej_bi_s, ej_bl_s, ej_bv_s, ej_nm_e, bz_n0]
end P67
