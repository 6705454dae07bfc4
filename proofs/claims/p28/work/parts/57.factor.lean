/-! FACTORS AND SIGNS, IN BOTH -/
theorem rs_eq {s k : Nat} (h1 : 4 < k) (h2 : k ≠ 97) (h3 : k ≠ 65) (h4 : k ≠ 48) (h5 : k ≠ 63) : rs s = k ↔ s = k := by
  unfold rs
  split
  · omega
  · split
    · omega
    · split
      · omega
      · split <;> omega
theorem rs_1 {s : Nat} (hs : s < 128) (h : s = 0 ∨ 4 < s) : (rs s = 1 ↔ s = 97) ∧ (rs s = 2 ↔ s = 65) ∧ (rs s = 3 ↔ s = 48) ∧ (rs s = 0 ↔ s = 0) := by
  unfold rs
  split
  · omega
  · split
    · omega
    · split
      · omega
      · split <;> omega
theorem rs_lt {s : Nat} (hs : s < 128) : rs s < 128 := by
  unfold rs
  split
  · omega
  · split
    · omega
    · split
      · omega
      · split <;> omega
theorem sr_k {l : List Nat} (hb : ∀ b ∈ l, b < 256) (p : Nat) : sr l p = 0 ∨ 4 < sr l p := by
  unfold sr
  rcases Nat.lt_or_ge p l.length with h | h
  · rw [cd_drop h]
    exact .inr ((by decide +kernel : ∀ c, c < 256 → 4 < srtc c) _ (cd_b hb h))
  · rw [List.drop_eq_nil_of_le h]; exact .inl rfl
/-- the reference stands at token i -/
def RT (σ : ej_S) (f : Nat) (l : List Nat) (i : Nat) : Prop := RA σ l (bg l i) ∧ RS σ f l
theorem RT_fr {I J A B M : List Nat} {σ σ' : ej_S} {f : Nat} {l : List Nat} {i : Nat} (h : RT σ f l i) (q : fr I J A B M σ σ') (h0 : 0 ∉ I) (h1 : 1 ∉ I) (h2 : 2 ∉ I) (h3 : 3 ∉ I) (h4 : 4 ∉ I) (h5 : 5 ∉ I) (g0 : 0 ∉ J) (a1 : 1 ∉ A) (a0 : 0 ∉ A) : RT σ' f l i := by
  obtain ⟨⟨b1, b2, b3, b4, b5, b6⟩, c⟩ := h
  refine ⟨⟨?_, ?_, ?_, ?_, ?_, ?_⟩, RS_fr c q h0 a1 a0⟩
  · rw [q.1 1 h1]; exact b1
  · rw [q.1 2 h2]; exact b2
  · rw [q.1 3 h3]; exact b3
  · rw [q.1 4 h4, q.2.1 0 g0]; exact b4
  · rw [q.1 4 h4, q.2.1 0 g0]; exact b5
  · rw [q.1 5 h5]; exact b6
theorem RT_next {n f i : Nat} {σ : ej_S} {l : List Nat} (hn : 2000 < n) (h : RT σ f l i) : ∃ σ', m11_next n σ = some σ' ∧ RT σ' f l (i + 1) ∧ fr [1, 2, 3, 4, 5] [0] [] [] [] σ σ' := by
  obtain ⟨⟨b1, b2⟩, c⟩ := h
  obtain ⟨σ', e1, a1, f1⟩ := r_next hn c b1 (en_le (bg_le l i))
  exact ⟨σ', e1, ⟨a1, RS_fr c f1 (by decide) (by decide) (by decide)⟩, f1⟩
/-- the table of words of the reference -/
def RW (σ : ej_S) : Prop := ∀ k, k < 10 → gB σ 0 k = lN (encL (wt k).1) ∧ gA σ 4 k = (wt k).2
theorem RW_fr {I J A B M : List Nat} {σ σ' : ej_S} (h : RW σ) (q : fr I J A B M σ σ') (h0 : 0 ∉ B) (h1 : 4 ∉ A) : RW σ' := by
  intro k hk; rw [q.2.2.2.1 0 h0, q.2.2.1 4 h1]; exact h k hk
def encR (l : List Nat) : Nat := l.foldr (fun c a => 32 * a + (c - 64)) 0
theorem encL_R (l : List Nat) : encL l = encR l.reverse := by unfold encL encR; rw [List.foldl_eq_foldr_reverse]
theorem encR_inj : ∀ (l m : List Nat), (∀ c ∈ l, 64 < c ∧ c < 91) → (∀ c ∈ m, 64 < c ∧ c < 91) → encR l = encR m → l = m
  | [], [], _, _, _ => rfl
  | [], b :: r, _, h, e => by have := h b List.mem_cons_self; simp [encR] at e; omega
  | b :: r, [], h, _, e => by have := h b List.mem_cons_self; simp [encR] at e; omega
  | b :: r, c :: q, h, h', e => by
    have h1 := h b List.mem_cons_self
    have h2 := h' c List.mem_cons_self
    have e' : 32 * encR r + (b - 64) = 32 * encR q + (c - 64) := e
    have e1 : b = c := by omega
    have e2 : encR r = encR q := by omega
    rw [e1, encR_inj r q (fun z hz => h z (List.mem_cons_of_mem _ hz)) (fun z hz => h' z (List.mem_cons_of_mem _ hz)) e2]
theorem encL_inj {l m : List Nat} (h : ∀ c ∈ l, 64 < c ∧ c < 91) (h' : ∀ c ∈ m, 64 < c ∧ c < 91) (e : encL l = encL m) : l = m := by
  rw [encL_R, encL_R] at e
  have := encR_inj _ _ (fun c hc => h c (List.mem_reverse.mp hc)) (fun c hc => h' c (List.mem_reverse.mp hc)) e
  exact List.reverse_inj.mp this
theorem encR_lt : ∀ (l : List Nat), (∀ c ∈ l, 64 < c ∧ c < 91) → encR l < 32 ^ l.length
  | [], _ => by simp [encR]
  | b :: r, h => by
    have h1 := h b List.mem_cons_self
    have h2 := encR_lt r (fun z hz => h z (List.mem_cons_of_mem _ hz))
    have e : encR (b :: r) = 32 * encR r + (b - 64) := rfl
    rw [e, List.length_cons, Nat.pow_succ]; omega
theorem encL_lt {l : List Nat} (h : ∀ c ∈ l, 64 < c ∧ c < 91) (hl : l.length ≤ 10) : encL l < 2 ^ 63 := by
  rw [encL_R]
  have h1 := encR_lt l.reverse (fun c hc => h c (List.mem_reverse.mp hc))
  rw [List.length_reverse] at h1
  have h2 : (32 : Nat) ^ l.length ≤ 32 ^ 10 := Nat.pow_le_pow_right (by omega) hl
  have h3 : (32 : Nat) ^ 10 < 2 ^ 63 := by decide
  omega
theorem wt_up {k : Nat} (hk : k < 10) : (∀ c ∈ (wt k).1, 64 < c ∧ c < 91) ∧ (wt k).1.length < 10 := ⟨(by decide +kernel : ∀ k, k < 10 → ∀ c ∈ (wt k).1, 64 < c ∧ c < 91) k hk, (by decide +kernel : ∀ k, k < 10 → (wt k).1.length < 10) k hk⟩
theorem wv_hit {k : Nat} (hk : k < 10) : wv (wt k).1 WT = (wt k).2 := (by decide +kernel : ∀ k, k < 10 → wv (wt k).1 WT = (wt k).2) k hk
theorem wv_miss {ws : List Nat} (h : ∀ k, k < 10 → (wt k).1 ≠ ws) : wv ws WT = nI 1000001 := by
  have g : ∀ k, k < 10 → ¬ ws = (wt k).1 := fun k hk e => h k hk e.symm
  rw [show WT = [wt 0, wt 1, wt 2, wt 3, wt 4, wt 5, wt 6, wt 7, wt 8, wt 9] from rfl]
  rw [wv_cons, if_neg (g 0 (by omega)), wv_cons, if_neg (g 1 (by omega)), wv_cons, if_neg (g 2 (by omega)), wv_cons, if_neg (g 3 (by omega)), wv_cons, if_neg (g 4 (by omega)), wv_cons, if_neg (g 5 (by omega)), wv_cons, if_neg (g 6 (by omega)), wv_cons, if_neg (g 7 (by omega)), wv_cons, if_neg (g 8 (by omega)), wv_cons, if_neg (g 9 (by omega))]
  rfl
theorem wt_val {k : Nat} (hk : k < 10) : (wt k).2 ≠ nI 1000001 ∧ -1000000 ≤ (wt k).2.toInt ∧ (wt k).2.toInt ≤ 1000000 := ⟨(by decide +kernel : ∀ k, k < 10 → (wt k).2 ≠ nI 1000001) k hk, (by decide +kernel : ∀ k, k < 10 → -1000000 ≤ (wt k).2.toInt) k hk, (by decide +kernel : ∀ k, k < 10 → (wt k).2.toInt ≤ 1000000) k hk⟩
theorem to64_32 (x : Int32) : x.toInt64.toInt32 = x := by simp
theorem nm_rel : ∀ (ds : List Nat) (a c : Nat), (∀ d ∈ ds, isDg d = true) → ((a ≤ 1000000 ∧ c = a) ∨ (1000000 < a ∧ c = 1000001)) → ((nmR a ds ≤ 1000000 ∧ nmC c ds = nmR a ds) ∨ (1000000 < nmR a ds ∧ nmC c ds = 1000001))
  | [], a, c, _, h => h
  | d :: r, a, c, hd, h => by
    have h1 := isDg_gt (hd d List.mem_cons_self)
    refine nm_rel r _ _ (fun z hz => hd z (List.mem_cons_of_mem _ hz)) ?_
    rcases h with ⟨h2, rfl⟩ | ⟨h2, rfl⟩
    · rw [if_pos h2]; omega
    · rw [if_neg (by omega)]; omega
theorem nmR_lt : ∀ (ds : List Nat) (a : Nat), (∀ d ∈ ds, isDg d = true) → a < 20000000 → nmR a ds < 20000000
  | [], a, _, h => h
  | d :: r, a, hd, h => by
    have h1 := isDg_gt (hd d List.mem_cons_self)
    refine nmR_lt r _ (fun z hz => hd z (List.mem_cons_of_mem _ hz)) ?_
    split <;> omega
def bd (x : Int32) : Prop := -1000000 ≤ x.toInt ∧ x.toInt ≤ 1000000
/-- a fault of a sum, told alike -/
def FS (σc σr : ej_S) (l : List Nat) : Prop := ∃ t c, gI σc 20 = nI c ∧ gI σr 9 = nI c ∧ gI σc 21 = nI t ∧ gI σr 10 = nI (bg l t) ∧ t < 2 ^ 31 ∧ 0 < c ∧ c < 7
section P57
variable {n f i : Nat} {σ σc σr : ej_S} {l : List Nat}
theorem x_fail (a b : Int32) : m6_fail n a b σ = some (0, uI (uI σ 20 a) 21 b) := rfl
theorem r_fails (a b : Int32) : m11_fails n a b σ = some (nI 0, uI (uI σ 9 a) 10 b) := rfl
theorem r_failsHere (a : Int32) : m11_failsHere n a σ = some (nI 0, uI (uI σ 9 a) 10 (gI σ 3)) := by
  unfold m11_failsHere; rw [r_fails, ej_bi_s, bz_n0]
theorem tk_up (hb : ∀ b ∈ l, b < 256) {p : Nat} (h : p < l.length) (hs : sr l p = 65) : ∀ b ∈ tk l p, isUp b = true := by
  intro b hm
  rw [tk_cons h] at hm
  rcases List.mem_cons.mp hm with e | e
  · subst e
    unfold sr at hs; rw [cd_drop h] at hs
    exact srtc_up (cd_b hb h) hs
  · have := spn_all _ _ _ e
    rw [hs] at this
    rw [gon_65] at this; exact this
theorem r_isFactor_57 {ws : List Nat} (hw : RW σ) (h4 : gI σ 4 = nI ws.length) (hl : ws.length < 2 ^ 31) (hJ : gJ σ 0 = lN (encL (ws.take 10))) (hu : ∀ b ∈ ws, isUp b = true) : ∀ (k j : Nat) (y : Int32), 10 - j < k → j ≤ 10 → ((y = zm ∧ ∀ i, i < j → (wt i).1 ≠ ws) ∨ (∃ i, i < j ∧ y = nI i ∧ (wt i).1 = ws)) → ((∀ i, i < 10 → (wt i).1 ≠ ws) ∧ m11_isFactor_57 n k y (nI j) σ = m11_isFactor_114 n zm (nI 0) σ) ∨ (∃ i, i < 10 ∧ (wt i).1 = ws ∧ m11_isFactor_57 n k y (nI j) σ = m11_isFactor_114 n (nI i) ((wt i).2) σ) := by
  intro k
  induction k with
  | zero => intro j y h; omega
  | succ k ih =>
    intro j y hk hj hy
    rw [u_11_isFactor_57]
    rcases Nat.lt_or_ge j 10 with q | q
    · have hup := wt_up q
      simp (disch := omega) only [↓L_m1, L_0, L_1, L_2, L_3, L_4, L_5, L_6, L_7, L_8, L_9, L_10, L_11, L_12, L_13, L_14, L_15, L_16, L_17, L_18, L_19, L_20, L_21, L_22, L_23, L_24, L_31, L_32, L_33, L_35, L_37, L_40, L_41, L_42, L_43, L_44, L_45, L_46, L_47, L_48, L_57, L_58, L_59, L_61, L_63, L_64, L_65, L_90, L_95, L_96, L_97, L_122, L_123, L_125, L_200, L_255, L_300, L_500, L_576, L_600, L_601, L_602, L_1200, L_1800, L_2400, L_3000, L_4000, L_4096, L_5000, L_30000, L_50000, L_60000, L_70000, L_100000, L_200000, L_1000000, L_1000001, if_true, if_false, ile_t, ile_f, ilt_t, ilt_f, ieq_t, ieq_f, ieq_m, ieq_m2, ieq_mm, ilt_m, ilt_m2, ile_m, ile_m2, ck_t, nI_clamp, nI_add, pk_mul, nI_m1, pk_sub]
      rw [(hw j q).1, hJ, ← L_0]
      by_cases g : (wt j).1 = ws
      · have e1 : ws.take 10 = ws := List.take_of_length_le (by rw [← g]; omega)
        rw [e1, g, if_pos ((cmp_eq _ _).mpr rfl), h4]
        rw [ile_f (by rw [← g]; omega) (by omega)]
        simp only [ej_bi_s, ej_bl_s, ej_bv_s, ej_nm_e, nI_add]
        exact ih (j + 1) (nI j) (by omega) q (.inr ⟨j, by omega, rfl, g⟩)
      · have hy' : (y = zm ∧ ∀ i, i < j + 1 → (wt i).1 ≠ ws) ∨ (∃ i, i < j + 1 ∧ y = nI i ∧ (wt i).1 = ws) := by
          rcases hy with ⟨h1, h2⟩ | ⟨i, h1, h2⟩
          · refine .inl ⟨h1, fun i hi => ?_⟩
            rcases Nat.lt_or_ge i j with z | z
            · exact h2 i z
            · have : i = j := by omega
              rw [this]; exact g
          · exact .inr ⟨i, by omega, h2⟩
        have hih := ih (j + 1) y (by omega) q hy'
        by_cases g2 : lN (encL (wt j).1) = lN (encL (ws.take 10))
        · have hlen : 10 ≤ ws.length := by
            rcases Nat.lt_or_ge ws.length 10 with z | z
            · exfalso
              have e1 : ws.take 10 = ws := List.take_of_length_le (by omega)
              have hws : ∀ c ∈ ws, 64 < c ∧ c < 91 := fun c hc => isUp_gt (hu c hc)
              rw [e1] at g2
              have := (fb_lN_inj (encL_lt hup.1 (by omega)) (encL_lt hws (by omega))).mp g2
              exact g (encL_inj hup.1 hws this)
            · exact z
          rw [if_pos ((cmp_eq _ _).mpr g2), h4, ile_t hlen (by omega)]
          simp only [ej_bi_s, ej_bl_s, ej_bv_s, ej_nm_e, nI_add]; exact hih
        · rw [if_neg (fun z => g2 ((cmp_eq _ _).mp z))]
          simp only [ej_bi_s, ej_bl_s, ej_bv_s, ej_nm_e, nI_add]; exact hih
    · have e0 : j = 10 := by omega
      subst e0
      rcases hy with ⟨h1, h2⟩ | ⟨i, h1, h2, h3⟩
      · refine .inl ⟨h2, ?_⟩
        rw [h1]
        simp (disch := omega) only [↓L_m1, L_0, L_1, L_2, L_3, L_4, L_5, L_6, L_7, L_8, L_9, L_10, L_11, L_12, L_13, L_14, L_15, L_16, L_17, L_18, L_19, L_20, L_21, L_22, L_23, L_24, L_31, L_32, L_33, L_35, L_37, L_40, L_41, L_42, L_43, L_44, L_45, L_46, L_47, L_48, L_57, L_58, L_59, L_61, L_63, L_64, L_65, L_90, L_95, L_96, L_97, L_122, L_123, L_125, L_200, L_255, L_300, L_500, L_576, L_600, L_601, L_602, L_1200, L_1800, L_2400, L_3000, L_4000, L_4096, L_5000, L_30000, L_50000, L_60000, L_70000, L_100000, L_200000, L_1000000, L_1000001, if_true, if_false, ile_t, ile_f, ilt_t, ilt_f, ieq_t, ieq_f, ieq_m, ieq_m2, ieq_mm, ilt_m, ilt_m2, ile_m, ile_m2]
      · refine .inr ⟨i, h1, h3, ?_⟩
        rw [h2]
        simp (disch := omega) only [↓L_m1, L_0, L_1, L_2, L_3, L_4, L_5, L_6, L_7, L_8, L_9, L_10, L_11, L_12, L_13, L_14, L_15, L_16, L_17, L_18, L_19, L_20, L_21, L_22, L_23, L_24, L_31, L_32, L_33, L_35, L_37, L_40, L_41, L_42, L_43, L_44, L_45, L_46, L_47, L_48, L_57, L_58, L_59, L_61, L_63, L_64, L_65, L_90, L_95, L_96, L_97, L_122, L_123, L_125, L_200, L_255, L_300, L_500, L_576, L_600, L_601, L_602, L_1200, L_1800, L_2400, L_3000, L_4000, L_4096, L_5000, L_30000, L_50000, L_60000, L_70000, L_100000, L_200000, L_1000000, L_1000001, if_true, if_false, ile_t, ile_f, ilt_t, ilt_f, ieq_t, ieq_f, ieq_m, ieq_m2, ieq_mm, ilt_m, ilt_m2, ile_m, ile_m2, ck_t, nI_clamp, nI_add, pk_mul, nI_m1, pk_sub]
        rw [(hw i h1).2]
/-- a factor is read alike -/
theorem s_factor (hn : 2000 < n) (hc : TK σc l) (hr : RT σr f l i) (hw : RW σr) (hi : gI σc 19 = nI i) (hi2 : i < 2 ^ 31) : ∃ ok σc' σr', m6_readFactor n (nI (sr l (bg l i))) σc = some (bI ok, σc') ∧ m11_isFactor n σr = some (bI ok, σr') ∧ fr [17, 20, 21] [] [] [] [] σc σc' ∧ fr [9, 10, 14] [] [] [] [] σr σr' ∧ (ok = true → gI σc' 17 = gI σr' 14 ∧ bd (gI σc' 17) ∧ sr l (bg l i) ≠ 0) ∧ (ok = false → FS σc' σr' l) := by
  obtain ⟨⟨a1, a2, a3, a4, a5, a6⟩, b0, bf, bt1, bl, bt3, bb⟩ := hr
  have hs128 := sr_lt bb (bg l i)
  have hk := sr_k bb (bg l i)
  obtain ⟨r1, r2, r3, r4⟩ := rs_1 hs128 hk
  have hrl := rs_lt hs128
  generalize hS : sr l (bg l i) = S at *
  by_cases h48 : S = 48
  · have hp : bg l i < l.length := by
      rcases Nat.lt_or_ge (bg l i) l.length with z | z
      · exact z
      · have := (sr_0 bb (bg l i)).mpr z; omega
    have hd := tk_dg bb hp (by omega)
    have hmn : mn l (bg l i) = (nI (nmC 0 (tk l (bg l i)))).toInt64 := by unfold mn; rw [hS, if_neg (by omega), if_pos h48]
    have hlt := nmR_lt (tk l (bg l i)) 0 hd (by omega)
    have e1 : m6_readFactor n (nI S) σc = m6_readFactor_22 n (nI S) σc := by
      unfold m6_readFactor; rw [h48]; exact if_pos rfl
    have e2 : m8_worthAt n (gI σc 19) σc = some (nI (nmC 0 (tk l (bg l i))), σc) := by
      rw [hi, x_worthAt hc (by omega), hmn, to64_32]
    have e5 := a6 h48
    rcases nm_rel (tk l (bg l i)) 0 0 hd (.inl ⟨by omega, rfl⟩) with ⟨q1, q2⟩ | ⟨q1, q2⟩
    · refine ⟨true, uI σc 17 (nI (nmC 0 (tk l (bg l i)))), uI σr 14 (nI (nmR 0 (tk l (bg l i)))), ?_, ?_, fr_uI fr_rf (by simp), fr_uI fr_rf (by simp), fun _ => ⟨?_, ?_, by omega⟩, fun z => by cases z⟩
      · rw [e1]; unfold m6_readFactor_22
        rw [e2]
        simp (disch := omega) only [ej_bi_s, ej_bl_s, ej_bv_s, ej_nm_e, s_IJ, s_IA, s_IB, s_IM, s_JI, s_JA, s_JB, s_JM, s_AI, s_AJ, s_AB, s_AM, s_BI, s_BJ, s_BA, s_BM, s_MI, s_MJ, s_MA, s_MB, s_II_s, s_II_n, s_JJ_s, s_JJ_n, s_AA_s, s_AA_n, s_BB_s, s_BB_n, s_MM_s, s_MM_n, pk_us, pk_un, pk_uLs, pk_uLn, ↓L_m1, L_0, L_1, L_2, L_3, L_4, L_5, L_6, L_7, L_8, L_9, L_10, L_11, L_12, L_13, L_14, L_15, L_16, L_17, L_18, L_19, L_20, L_21, L_22, L_23, L_24, L_31, L_32, L_33, L_35, L_37, L_40, L_41, L_42, L_43, L_44, L_45, L_46, L_47, L_48, L_57, L_58, L_59, L_61, L_63, L_64, L_65, L_90, L_95, L_96, L_97, L_122, L_123, L_125, L_200, L_255, L_300, L_500, L_576, L_600, L_601, L_602, L_1200, L_1800, L_2400, L_3000, L_4000, L_4096, L_5000, L_30000, L_50000, L_60000, L_70000, L_100000, L_200000, L_1000000, L_1000001, if_true, if_false, ile_t, ile_f, ilt_t, ilt_f, ieq_t, ieq_f, ieq_m, ieq_m2, ieq_mm, ilt_m, ilt_m2, ile_m, ile_m2]
        rfl
      · unfold m11_isFactor
        rw [a2, r3.mpr h48, e5]
        simp (disch := omega) only [ej_bi_s, ej_bl_s, ej_bv_s, ej_nm_e, s_IJ, s_IA, s_IB, s_IM, s_JI, s_JA, s_JB, s_JM, s_AI, s_AJ, s_AB, s_AM, s_BI, s_BJ, s_BA, s_BM, s_MI, s_MJ, s_MA, s_MB, s_II_s, s_II_n, s_JJ_s, s_JJ_n, s_AA_s, s_AA_n, s_BB_s, s_BB_n, s_MM_s, s_MM_n, pk_us, pk_un, pk_uLs, pk_uLn, ↓L_m1, L_0, L_1, L_2, L_3, L_4, L_5, L_6, L_7, L_8, L_9, L_10, L_11, L_12, L_13, L_14, L_15, L_16, L_17, L_18, L_19, L_20, L_21, L_22, L_23, L_24, L_31, L_32, L_33, L_35, L_37, L_40, L_41, L_42, L_43, L_44, L_45, L_46, L_47, L_48, L_57, L_58, L_59, L_61, L_63, L_64, L_65, L_90, L_95, L_96, L_97, L_122, L_123, L_125, L_200, L_255, L_300, L_500, L_576, L_600, L_601, L_602, L_1200, L_1800, L_2400, L_3000, L_4000, L_4096, L_5000, L_30000, L_50000, L_60000, L_70000, L_100000, L_200000, L_1000000, L_1000001, if_true, if_false, ile_t, ile_f, ilt_t, ilt_f, ieq_t, ieq_f, ieq_m, ieq_m2, ieq_mm, ilt_m, ilt_m2, ile_m, ile_m2, e5]
        rfl
      · simp (disch := omega) only [s_IJ, s_IA, s_IB, s_IM, s_JI, s_JA, s_JB, s_JM, s_AI, s_AJ, s_AB, s_AM, s_BI, s_BJ, s_BA, s_BM, s_MI, s_MJ, s_MA, s_MB, s_II_s, s_II_n, s_JJ_s, s_JJ_n, s_AA_s, s_AA_n, s_BB_s, s_BB_n, s_MM_s, s_MM_n, pk_us, pk_un, pk_uLs, pk_uLn]
        rw [q2]
      · simp (disch := omega) only [s_IJ, s_IA, s_IB, s_IM, s_JI, s_JA, s_JB, s_JM, s_AI, s_AJ, s_AB, s_AM, s_BI, s_BJ, s_BA, s_BM, s_MI, s_MJ, s_MA, s_MB, s_II_s, s_II_n, s_JJ_s, s_JJ_n, s_AA_s, s_AA_n, s_BB_s, s_BB_n, s_MM_s, s_MM_n, pk_us, pk_un, pk_uLs, pk_uLn]
        unfold bd; rw [q2, nI_toInt (by omega)]; omega
    · refine ⟨false, uI (uI (uI σc 17 (nI 1000001)) 20 (nI 4)) 21 (nI i), uI (uI (uI σr 14 (nI (nmR 0 (tk l (bg l i))))) 9 (nI 4)) 10 (nI (bg l i)), ?_, ?_, fr_uI (fr_uI (fr_uI fr_rf (by simp)) (by simp)) (by simp), fr_uI (fr_uI (fr_uI fr_rf (by simp)) (by simp)) (by simp), fun z => (by cases z), fun _ => ⟨i, 4, ?_, ?_, ?_, ?_, by omega⟩⟩
      · rw [e1]; unfold m6_readFactor_22
        rw [e2, q2]
        simp (disch := omega) only [ej_bi_s, ej_bl_s, ej_bv_s, ej_nm_e, s_IJ, s_IA, s_IB, s_IM, s_JI, s_JA, s_JB, s_JM, s_AI, s_AJ, s_AB, s_AM, s_BI, s_BJ, s_BA, s_BM, s_MI, s_MJ, s_MA, s_MB, s_II_s, s_II_n, s_JJ_s, s_JJ_n, s_AA_s, s_AA_n, s_BB_s, s_BB_n, s_MM_s, s_MM_n, pk_us, pk_un, pk_uLs, pk_uLn, ↓L_m1, L_0, L_1, L_2, L_3, L_4, L_5, L_6, L_7, L_8, L_9, L_10, L_11, L_12, L_13, L_14, L_15, L_16, L_17, L_18, L_19, L_20, L_21, L_22, L_23, L_24, L_31, L_32, L_33, L_35, L_37, L_40, L_41, L_42, L_43, L_44, L_45, L_46, L_47, L_48, L_57, L_58, L_59, L_61, L_63, L_64, L_65, L_90, L_95, L_96, L_97, L_122, L_123, L_125, L_200, L_255, L_300, L_500, L_576, L_600, L_601, L_602, L_1200, L_1800, L_2400, L_3000, L_4000, L_4096, L_5000, L_30000, L_50000, L_60000, L_70000, L_100000, L_200000, L_1000000, L_1000001, if_true, if_false, ile_t, ile_f, ilt_t, ilt_f, ieq_t, ieq_f, ieq_m, ieq_m2, ieq_mm, ilt_m, ilt_m2, ile_m, ile_m2, x_fail, hi, h48]
        rfl
      · unfold m11_isFactor
        rw [a2, r3.mpr h48, e5]
        simp (disch := omega) only [ej_bi_s, ej_bl_s, ej_bv_s, ej_nm_e, s_IJ, s_IA, s_IB, s_IM, s_JI, s_JA, s_JB, s_JM, s_AI, s_AJ, s_AB, s_AM, s_BI, s_BJ, s_BA, s_BM, s_MI, s_MJ, s_MA, s_MB, s_II_s, s_II_n, s_JJ_s, s_JJ_n, s_AA_s, s_AA_n, s_BB_s, s_BB_n, s_MM_s, s_MM_n, pk_us, pk_un, pk_uLs, pk_uLn, ↓L_m1, L_0, L_1, L_2, L_3, L_4, L_5, L_6, L_7, L_8, L_9, L_10, L_11, L_12, L_13, L_14, L_15, L_16, L_17, L_18, L_19, L_20, L_21, L_22, L_23, L_24, L_31, L_32, L_33, L_35, L_37, L_40, L_41, L_42, L_43, L_44, L_45, L_46, L_47, L_48, L_57, L_58, L_59, L_61, L_63, L_64, L_65, L_90, L_95, L_96, L_97, L_122, L_123, L_125, L_200, L_255, L_300, L_500, L_576, L_600, L_601, L_602, L_1200, L_1800, L_2400, L_3000, L_4000, L_4096, L_5000, L_30000, L_50000, L_60000, L_70000, L_100000, L_200000, L_1000000, L_1000001, if_true, if_false, ile_t, ile_f, ilt_t, ilt_f, ieq_t, ieq_f, ieq_m, ieq_m2, ieq_mm, ilt_m, ilt_m2, ile_m, ile_m2, e5, r_failsHere, a3]
        rfl
      · simp (disch := omega) only [s_IJ, s_IA, s_IB, s_IM, s_JI, s_JA, s_JB, s_JM, s_AI, s_AJ, s_AB, s_AM, s_BI, s_BJ, s_BA, s_BM, s_MI, s_MJ, s_MA, s_MB, s_II_s, s_II_n, s_JJ_s, s_JJ_n, s_AA_s, s_AA_n, s_BB_s, s_BB_n, s_MM_s, s_MM_n, pk_us, pk_un, pk_uLs, pk_uLn]
      · simp (disch := omega) only [s_IJ, s_IA, s_IB, s_IM, s_JI, s_JA, s_JB, s_JM, s_AI, s_AJ, s_AB, s_AM, s_BI, s_BJ, s_BA, s_BM, s_MI, s_MJ, s_MA, s_MB, s_II_s, s_II_n, s_JJ_s, s_JJ_n, s_AA_s, s_AA_n, s_BB_s, s_BB_n, s_MM_s, s_MM_n, pk_us, pk_un, pk_uLs, pk_uLn]
      · simp (disch := omega) only [s_IJ, s_IA, s_IB, s_IM, s_JI, s_JA, s_JB, s_JM, s_AI, s_AJ, s_AB, s_AM, s_BI, s_BJ, s_BA, s_BM, s_MI, s_MJ, s_MA, s_MB, s_II_s, s_II_n, s_JJ_s, s_JJ_n, s_AA_s, s_AA_n, s_BB_s, s_BB_n, s_MM_s, s_MM_n, pk_us, pk_un, pk_uLs, pk_uLn]
      · simp (disch := omega) only [s_IJ, s_IA, s_IB, s_IM, s_JI, s_JA, s_JB, s_JM, s_AI, s_AJ, s_AB, s_AM, s_BI, s_BJ, s_BA, s_BM, s_MI, s_MJ, s_MA, s_MB, s_II_s, s_II_n, s_JJ_s, s_JJ_n, s_AA_s, s_AA_n, s_BB_s, s_BB_n, s_MM_s, s_MM_n, pk_us, pk_un, pk_uLs, pk_uLn]
  · by_cases h65 : S = 65
    · have hp : bg l i < l.length := by
        rcases Nat.lt_or_ge (bg l i) l.length with z | z
        · exact z
        · have := (sr_0 bb (bg l i)).mpr z; omega
      have hu := tk_up bb hp (by omega)
      have hlen := tk_len (l := l) (p := bg l i) (by omega)
      have hle := enL_le (l.drop (bg l i))
      rw [List.length_drop] at hle
      have hmn : mn l (bg l i) = (wv (tk l (bg l i)) WT).toInt64 := by unfold mn; rw [hS, if_neg (by omega), if_neg (by omega), if_pos h65]
      have e1 : m6_readFactor n (nI S) σc = m6_readFactor_22 n (nI S) σc := by
        unfold m6_readFactor; rw [h65]; simp (disch := omega) only [↓L_m1, L_0, L_1, L_2, L_3, L_4, L_5, L_6, L_7, L_8, L_9, L_10, L_11, L_12, L_13, L_14, L_15, L_16, L_17, L_18, L_19, L_20, L_21, L_22, L_23, L_24, L_31, L_32, L_33, L_35, L_37, L_40, L_41, L_42, L_43, L_44, L_45, L_46, L_47, L_48, L_57, L_58, L_59, L_61, L_63, L_64, L_65, L_90, L_95, L_96, L_97, L_122, L_123, L_125, L_200, L_255, L_300, L_500, L_576, L_600, L_601, L_602, L_1200, L_1800, L_2400, L_3000, L_4000, L_4096, L_5000, L_30000, L_50000, L_60000, L_70000, L_100000, L_200000, L_1000000, L_1000001, if_true, if_false, ile_t, ile_f, ilt_t, ilt_f, ieq_t, ieq_f, ieq_m, ieq_m2, ieq_mm, ilt_m, ilt_m2, ile_m, ile_m2]
      have e2 : m8_worthAt n (gI σc 19) σc = some (wv (tk l (bg l i)) WT, σc) := by
        rw [hi, x_worthAt hc (by omega), hmn, to64_32]
      have e5 := a5 h65
      have e6 : m11_isFactor n σr = m11_isFactor_57 n n zm (nI 0) σr := by
        unfold m11_isFactor
        rw [a2, r2.mpr h65]
        simp (disch := omega) only [↓L_m1, L_0, L_1, L_2, L_3, L_4, L_5, L_6, L_7, L_8, L_9, L_10, L_11, L_12, L_13, L_14, L_15, L_16, L_17, L_18, L_19, L_20, L_21, L_22, L_23, L_24, L_31, L_32, L_33, L_35, L_37, L_40, L_41, L_42, L_43, L_44, L_45, L_46, L_47, L_48, L_57, L_58, L_59, L_61, L_63, L_64, L_65, L_90, L_95, L_96, L_97, L_122, L_123, L_125, L_200, L_255, L_300, L_500, L_576, L_600, L_601, L_602, L_1200, L_1800, L_2400, L_3000, L_4000, L_4096, L_5000, L_30000, L_50000, L_60000, L_70000, L_100000, L_200000, L_1000000, L_1000001, if_true, if_false, ile_t, ile_f, ilt_t, ilt_f, ieq_t, ieq_f, ieq_m, ieq_m2, ieq_mm, ilt_m, ilt_m2, ile_m, ile_m2]
      rcases r_isFactor_57 (n := n) (ws := tk l (bg l i)) hw (by rw [hlen]; exact e5.1) (by omega) e5.2 hu n 0 zm (by omega) (by omega) (.inl ⟨rfl, fun i hi => absurd hi (Nat.not_lt_zero i)⟩) with ⟨q1, q2⟩ | ⟨k, q1, q2, q3⟩
      · have hv := wv_miss q1
        refine ⟨false, uI (uI (uI σc 17 (nI 1000001)) 20 (nI 3)) 21 (nI i), uI (uI (uI σr 14 (nI 0)) 9 (nI 3)) 10 (nI (bg l i)), ?_, ?_, fr_uI (fr_uI (fr_uI fr_rf (by simp)) (by simp)) (by simp), fr_uI (fr_uI (fr_uI fr_rf (by simp)) (by simp)) (by simp), fun z => (by cases z), fun _ => ⟨i, 3, ?_, ?_, ?_, ?_, by omega⟩⟩
        · rw [e1]; unfold m6_readFactor_22
          rw [e2, hv]
          simp (disch := omega) only [ej_bi_s, ej_bl_s, ej_bv_s, ej_nm_e, s_IJ, s_IA, s_IB, s_IM, s_JI, s_JA, s_JB, s_JM, s_AI, s_AJ, s_AB, s_AM, s_BI, s_BJ, s_BA, s_BM, s_MI, s_MJ, s_MA, s_MB, s_II_s, s_II_n, s_JJ_s, s_JJ_n, s_AA_s, s_AA_n, s_BB_s, s_BB_n, s_MM_s, s_MM_n, pk_us, pk_un, pk_uLs, pk_uLn, ↓L_m1, L_0, L_1, L_2, L_3, L_4, L_5, L_6, L_7, L_8, L_9, L_10, L_11, L_12, L_13, L_14, L_15, L_16, L_17, L_18, L_19, L_20, L_21, L_22, L_23, L_24, L_31, L_32, L_33, L_35, L_37, L_40, L_41, L_42, L_43, L_44, L_45, L_46, L_47, L_48, L_57, L_58, L_59, L_61, L_63, L_64, L_65, L_90, L_95, L_96, L_97, L_122, L_123, L_125, L_200, L_255, L_300, L_500, L_576, L_600, L_601, L_602, L_1200, L_1800, L_2400, L_3000, L_4000, L_4096, L_5000, L_30000, L_50000, L_60000, L_70000, L_100000, L_200000, L_1000000, L_1000001, if_true, if_false, ile_t, ile_f, ilt_t, ilt_f, ieq_t, ieq_f, ieq_m, ieq_m2, ieq_mm, ilt_m, ilt_m2, ile_m, ile_m2, x_fail, hi, h65]
          rfl
        · rw [e6, q2]; unfold m11_isFactor_114
          simp (disch := omega) only [ej_bi_s, ej_bl_s, ej_bv_s, ej_nm_e, s_IJ, s_IA, s_IB, s_IM, s_JI, s_JA, s_JB, s_JM, s_AI, s_AJ, s_AB, s_AM, s_BI, s_BJ, s_BA, s_BM, s_MI, s_MJ, s_MA, s_MB, s_II_s, s_II_n, s_JJ_s, s_JJ_n, s_AA_s, s_AA_n, s_BB_s, s_BB_n, s_MM_s, s_MM_n, pk_us, pk_un, pk_uLs, pk_uLn, ↓L_m1, L_0, L_1, L_2, L_3, L_4, L_5, L_6, L_7, L_8, L_9, L_10, L_11, L_12, L_13, L_14, L_15, L_16, L_17, L_18, L_19, L_20, L_21, L_22, L_23, L_24, L_31, L_32, L_33, L_35, L_37, L_40, L_41, L_42, L_43, L_44, L_45, L_46, L_47, L_48, L_57, L_58, L_59, L_61, L_63, L_64, L_65, L_90, L_95, L_96, L_97, L_122, L_123, L_125, L_200, L_255, L_300, L_500, L_576, L_600, L_601, L_602, L_1200, L_1800, L_2400, L_3000, L_4000, L_4096, L_5000, L_30000, L_50000, L_60000, L_70000, L_100000, L_200000, L_1000000, L_1000001, if_true, if_false, ile_t, ile_f, ilt_t, ilt_f, ieq_t, ieq_f, ieq_m, ieq_m2, ieq_mm, ilt_m, ilt_m2, ile_m, ile_m2, r_failsHere, a3]
          rfl
        · simp (disch := omega) only [s_IJ, s_IA, s_IB, s_IM, s_JI, s_JA, s_JB, s_JM, s_AI, s_AJ, s_AB, s_AM, s_BI, s_BJ, s_BA, s_BM, s_MI, s_MJ, s_MA, s_MB, s_II_s, s_II_n, s_JJ_s, s_JJ_n, s_AA_s, s_AA_n, s_BB_s, s_BB_n, s_MM_s, s_MM_n, pk_us, pk_un, pk_uLs, pk_uLn]
        · simp (disch := omega) only [s_IJ, s_IA, s_IB, s_IM, s_JI, s_JA, s_JB, s_JM, s_AI, s_AJ, s_AB, s_AM, s_BI, s_BJ, s_BA, s_BM, s_MI, s_MJ, s_MA, s_MB, s_II_s, s_II_n, s_JJ_s, s_JJ_n, s_AA_s, s_AA_n, s_BB_s, s_BB_n, s_MM_s, s_MM_n, pk_us, pk_un, pk_uLs, pk_uLn]
        · simp (disch := omega) only [s_IJ, s_IA, s_IB, s_IM, s_JI, s_JA, s_JB, s_JM, s_AI, s_AJ, s_AB, s_AM, s_BI, s_BJ, s_BA, s_BM, s_MI, s_MJ, s_MA, s_MB, s_II_s, s_II_n, s_JJ_s, s_JJ_n, s_AA_s, s_AA_n, s_BB_s, s_BB_n, s_MM_s, s_MM_n, pk_us, pk_un, pk_uLs, pk_uLn]
        · simp (disch := omega) only [s_IJ, s_IA, s_IB, s_IM, s_JI, s_JA, s_JB, s_JM, s_AI, s_AJ, s_AB, s_AM, s_BI, s_BJ, s_BA, s_BM, s_MI, s_MJ, s_MA, s_MB, s_II_s, s_II_n, s_JJ_s, s_JJ_n, s_AA_s, s_AA_n, s_BB_s, s_BB_n, s_MM_s, s_MM_n, pk_us, pk_un, pk_uLs, pk_uLn]
      · have hv : wv (tk l (bg l i)) WT = (wt k).2 := by rw [← q2]; exact wv_hit q1
        have hval := wt_val q1
        refine ⟨true, uI σc 17 ((wt k).2), uI σr 14 ((wt k).2), ?_, ?_, fr_uI fr_rf (by simp), fr_uI fr_rf (by simp), fun _ => ⟨?_, ?_, by omega⟩, fun z => by cases z⟩
        · rw [e1]; unfold m6_readFactor_22
          rw [e2, hv]
          simp (disch := omega) only [ej_bi_s, ej_bl_s, ej_bv_s, ej_nm_e, s_IJ, s_IA, s_IB, s_IM, s_JI, s_JA, s_JB, s_JM, s_AI, s_AJ, s_AB, s_AM, s_BI, s_BJ, s_BA, s_BM, s_MI, s_MJ, s_MA, s_MB, s_II_s, s_II_n, s_JJ_s, s_JJ_n, s_AA_s, s_AA_n, s_BB_s, s_BB_n, s_MM_s, s_MM_n, pk_us, pk_un, pk_uLs, pk_uLn, ↓L_m1, L_0, L_1, L_2, L_3, L_4, L_5, L_6, L_7, L_8, L_9, L_10, L_11, L_12, L_13, L_14, L_15, L_16, L_17, L_18, L_19, L_20, L_21, L_22, L_23, L_24, L_31, L_32, L_33, L_35, L_37, L_40, L_41, L_42, L_43, L_44, L_45, L_46, L_47, L_48, L_57, L_58, L_59, L_61, L_63, L_64, L_65, L_90, L_95, L_96, L_97, L_122, L_123, L_125, L_200, L_255, L_300, L_500, L_576, L_600, L_601, L_602, L_1200, L_1800, L_2400, L_3000, L_4000, L_4096, L_5000, L_30000, L_50000, L_60000, L_70000, L_100000, L_200000, L_1000000, L_1000001]
          rw [if_neg hval.1]; rfl
        · rw [e6, q3]; unfold m11_isFactor_114
          simp (disch := omega) only [ej_bi_s, ej_bl_s, ej_bv_s, ej_nm_e, s_IJ, s_IA, s_IB, s_IM, s_JI, s_JA, s_JB, s_JM, s_AI, s_AJ, s_AB, s_AM, s_BI, s_BJ, s_BA, s_BM, s_MI, s_MJ, s_MA, s_MB, s_II_s, s_II_n, s_JJ_s, s_JJ_n, s_AA_s, s_AA_n, s_BB_s, s_BB_n, s_MM_s, s_MM_n, pk_us, pk_un, pk_uLs, pk_uLn, ↓L_m1, L_0, L_1, L_2, L_3, L_4, L_5, L_6, L_7, L_8, L_9, L_10, L_11, L_12, L_13, L_14, L_15, L_16, L_17, L_18, L_19, L_20, L_21, L_22, L_23, L_24, L_31, L_32, L_33, L_35, L_37, L_40, L_41, L_42, L_43, L_44, L_45, L_46, L_47, L_48, L_57, L_58, L_59, L_61, L_63, L_64, L_65, L_90, L_95, L_96, L_97, L_122, L_123, L_125, L_200, L_255, L_300, L_500, L_576, L_600, L_601, L_602, L_1200, L_1800, L_2400, L_3000, L_4000, L_4096, L_5000, L_30000, L_50000, L_60000, L_70000, L_100000, L_200000, L_1000000, L_1000001, if_true, if_false, ile_t, ile_f, ilt_t, ilt_f, ieq_t, ieq_f, ieq_m, ieq_m2, ieq_mm, ilt_m, ilt_m2, ile_m, ile_m2]
          rfl
        · simp (disch := omega) only [s_IJ, s_IA, s_IB, s_IM, s_JI, s_JA, s_JB, s_JM, s_AI, s_AJ, s_AB, s_AM, s_BI, s_BJ, s_BA, s_BM, s_MI, s_MJ, s_MA, s_MB, s_II_s, s_II_n, s_JJ_s, s_JJ_n, s_AA_s, s_AA_n, s_BB_s, s_BB_n, s_MM_s, s_MM_n, pk_us, pk_un, pk_uLs, pk_uLn]
        · simp (disch := omega) only [s_IJ, s_IA, s_IB, s_IM, s_JI, s_JA, s_JB, s_JM, s_AI, s_AJ, s_AB, s_AM, s_BI, s_BJ, s_BA, s_BM, s_MI, s_MJ, s_MA, s_MB, s_II_s, s_II_n, s_JJ_s, s_JJ_n, s_AA_s, s_AA_n, s_BB_s, s_BB_n, s_MM_s, s_MM_n, pk_us, pk_un, pk_uLs, pk_uLn]
          exact hval.2
    · refine ⟨false, uI (uI σc 20 (nI 1)) 21 (nI i), uI (uI σr 9 (nI 1)) 10 (nI (bg l i)), ?_, ?_, fr_uI (fr_uI fr_rf (by simp)) (by simp), fr_uI (fr_uI fr_rf (by simp)) (by simp), fun z => (by cases z), fun _ => ⟨i, 1, ?_, ?_, ?_, ?_, by omega⟩⟩
      · unfold m6_readFactor
        simp (disch := omega) only [ej_bi_s, ej_bl_s, ej_bv_s, ej_nm_e, ↓L_m1, L_0, L_1, L_2, L_3, L_4, L_5, L_6, L_7, L_8, L_9, L_10, L_11, L_12, L_13, L_14, L_15, L_16, L_17, L_18, L_19, L_20, L_21, L_22, L_23, L_24, L_31, L_32, L_33, L_35, L_37, L_40, L_41, L_42, L_43, L_44, L_45, L_46, L_47, L_48, L_57, L_58, L_59, L_61, L_63, L_64, L_65, L_90, L_95, L_96, L_97, L_122, L_123, L_125, L_200, L_255, L_300, L_500, L_576, L_600, L_601, L_602, L_1200, L_1800, L_2400, L_3000, L_4000, L_4096, L_5000, L_30000, L_50000, L_60000, L_70000, L_100000, L_200000, L_1000000, L_1000001, if_true, if_false, ile_t, ile_f, ilt_t, ilt_f, ieq_t, ieq_f, ieq_m, ieq_m2, ieq_mm, ilt_m, ilt_m2, ile_m, ile_m2, x_fail, hi, bz_n0]
        rfl
      · unfold m11_isFactor
        rw [a2]
        simp (disch := omega) only [ej_bi_s, ej_bl_s, ej_bv_s, ej_nm_e, ↓L_m1, L_0, L_1, L_2, L_3, L_4, L_5, L_6, L_7, L_8, L_9, L_10, L_11, L_12, L_13, L_14, L_15, L_16, L_17, L_18, L_19, L_20, L_21, L_22, L_23, L_24, L_31, L_32, L_33, L_35, L_37, L_40, L_41, L_42, L_43, L_44, L_45, L_46, L_47, L_48, L_57, L_58, L_59, L_61, L_63, L_64, L_65, L_90, L_95, L_96, L_97, L_122, L_123, L_125, L_200, L_255, L_300, L_500, L_576, L_600, L_601, L_602, L_1200, L_1800, L_2400, L_3000, L_4000, L_4096, L_5000, L_30000, L_50000, L_60000, L_70000, L_100000, L_200000, L_1000000, L_1000001, if_true, if_false, ile_t, ile_f, ilt_t, ilt_f, ieq_t, ieq_f, ieq_m, ieq_m2, ieq_mm, ilt_m, ilt_m2, ile_m, ile_m2, r_failsHere, a3, bz_n0]
        rfl
      · simp (disch := omega) only [s_IJ, s_IA, s_IB, s_IM, s_JI, s_JA, s_JB, s_JM, s_AI, s_AJ, s_AB, s_AM, s_BI, s_BJ, s_BA, s_BM, s_MI, s_MJ, s_MA, s_MB, s_II_s, s_II_n, s_JJ_s, s_JJ_n, s_AA_s, s_AA_n, s_BB_s, s_BB_n, s_MM_s, s_MM_n, pk_us, pk_un, pk_uLs, pk_uLn]
      · simp (disch := omega) only [s_IJ, s_IA, s_IB, s_IM, s_JI, s_JA, s_JB, s_JM, s_AI, s_AJ, s_AB, s_AM, s_BI, s_BJ, s_BA, s_BM, s_MI, s_MJ, s_MA, s_MB, s_II_s, s_II_n, s_JJ_s, s_JJ_n, s_AA_s, s_AA_n, s_BB_s, s_BB_n, s_MM_s, s_MM_n, pk_us, pk_un, pk_uLs, pk_uLn]
      · simp (disch := omega) only [s_IJ, s_IA, s_IB, s_IM, s_JI, s_JA, s_JB, s_JM, s_AI, s_AJ, s_AB, s_AM, s_BI, s_BJ, s_BA, s_BM, s_MI, s_MJ, s_MA, s_MB, s_II_s, s_II_n, s_JJ_s, s_JJ_n, s_AA_s, s_AA_n, s_BB_s, s_BB_n, s_MM_s, s_MM_n, pk_us, pk_un, pk_uLs, pk_uLn]
      · simp (disch := omega) only [s_IJ, s_IA, s_IB, s_IM, s_JI, s_JA, s_JB, s_JM, s_AI, s_AJ, s_AB, s_AM, s_BI, s_BJ, s_BA, s_BM, s_MI, s_MJ, s_MA, s_MB, s_II_s, s_II_n, s_JJ_s, s_JJ_n, s_AA_s, s_AA_n, s_BB_s, s_BB_n, s_MM_s, s_MM_n, pk_us, pk_un, pk_uLs, pk_uLn]
end P57
