/-! TEXTS AND TOKENS OF THE REFERENCE -/
def RTX (σ : ej_S) (f : Nat) (l : List Nat) : Prop := gA σ 1 f = nI l.length ∧ l.length ≤ 600 ∧ (∀ i, i < l.length → gA σ 0 (600 * f + i) = nI (cd l i)) ∧ ∀ b ∈ l, b < 256
/-- the text that is read -/
def RS (σ : ej_S) (f : Nat) (l : List Nat) : Prop := gI σ 0 = nI f ∧ f < 5 ∧ RTX σ f l
theorem RTX_fr {I J A B M : List Nat} {σ σ' : ej_S} {f : Nat} {l : List Nat} (h : RTX σ f l) (q : fr I J A B M σ σ') (h1 : 1 ∉ A) (h2 : 0 ∉ A) : RTX σ' f l := by
  unfold RTX; rw [q.2.2.1 1 h1, q.2.2.1 0 h2]; exact h
theorem RS_fr {I J A B M : List Nat} {σ σ' : ej_S} {f : Nat} {l : List Nat} (h : RS σ f l) (q : fr I J A B M σ σ') (h0 : 0 ∉ I) (h1 : 1 ∉ A) (h2 : 0 ∉ A) : RS σ' f l := ⟨by rw [q.1 0 h0]; exact h.1, h.2.1, RTX_fr h.2.2 q h1 h2⟩
def isSm (c : Nat) : Bool := decide (97 ≤ c) && decide (c ≤ 122)
theorem isNS_sm (c : Nat) : isNS c = (isSm c || decide (c = 46)) := rfl
section P56
variable {n c f : Nat} {σ : ej_S} {l : List Nat}
theorem r_code (h : RS σ f l) {p : Nat} (hp : p < 2 ^ 30) : m11_code n (nI p) σ = some (cI (cd l p), σ) := by
  obtain ⟨h0, hf, h1, h2, h3, h4⟩ := h
  unfold m11_code
  rw [h0]
  simp (disch := omega) only [ck_t, nI_clamp]
  rw [h1]
  rcases Nat.lt_or_ge p l.length with q | q
  · simp (disch := omega) only [↓L_m1, L_0, L_1, L_2, L_3, L_4, L_5, L_6, L_7, L_8, L_9, L_10, L_11, L_12, L_13, L_14, L_15, L_16, L_17, L_18, L_19, L_20, L_21, L_22, L_23, L_24, L_31, L_32, L_33, L_35, L_37, L_40, L_41, L_42, L_43, L_44, L_45, L_46, L_47, L_48, L_57, L_58, L_59, L_61, L_63, L_64, L_65, L_90, L_95, L_96, L_97, L_122, L_123, L_125, L_200, L_255, L_300, L_500, L_576, L_600, L_601, L_602, L_1200, L_1800, L_2400, L_3000, L_4000, L_4096, L_5000, L_30000, L_50000, L_60000, L_70000, L_100000, L_200000, L_1000000, L_1000001, if_true, if_false, ile_t, ile_f, ilt_t, ilt_f, ieq_t, ieq_f, ieq_m, ieq_m2, ieq_mm, ilt_m, ilt_m2, ile_m, ile_m2, ck_t, nI_clamp, nI_add, pk_mul, nI_m1, pk_sub]
    rw [h3 p q, cI_lt (cd_b h4 q)]
  · simp (disch := omega) only [↓L_m1, L_0, L_1, L_2, L_3, L_4, L_5, L_6, L_7, L_8, L_9, L_10, L_11, L_12, L_13, L_14, L_15, L_16, L_17, L_18, L_19, L_20, L_21, L_22, L_23, L_24, L_31, L_32, L_33, L_35, L_37, L_40, L_41, L_42, L_43, L_44, L_45, L_46, L_47, L_48, L_57, L_58, L_59, L_61, L_63, L_64, L_65, L_90, L_95, L_96, L_97, L_122, L_123, L_125, L_200, L_255, L_300, L_500, L_576, L_600, L_601, L_602, L_1200, L_1800, L_2400, L_3000, L_4000, L_4096, L_5000, L_30000, L_50000, L_60000, L_70000, L_100000, L_200000, L_1000000, L_1000001, if_true, if_false, ile_t, ile_f, ilt_t, ilt_f, ieq_t, ieq_f, ieq_m, ieq_m2, ieq_mm, ilt_m, ilt_m2, ile_m, ile_m2]
    rw [cd_ge q]; rfl
theorem v_isIn (a lo hi : Int32) : m11_isIn n a lo hi σ = some ((if a < lo then 0 else if hi < a then 0 else 1), σ) := by
  unfold m11_isIn
  by_cases h1 : a < lo <;> by_cases h2 : hi < a <;> simp only [h1, h2, if_true, if_false]
theorem r_isSmall (h : c < 257) : m11_isSmall n (cI c) σ = some (bI (isSm c), σ) := by
  unfold m11_isSmall
  rw [v_isIn]
  simp only [ej_bi_s, ej_bl_s, ej_bv_s, ej_nm_e]
  rw [(by decide +kernel : ∀ c, c < 257 → ej_bz (if cI c < 97 then 0 else if 122 < cI c then 0 else 1) = bI (isSm c)) c h]
theorem r_isGreat (h : c < 257) : m11_isGreat n (cI c) σ = some (bI (isUp c), σ) := by
  unfold m11_isGreat
  rw [v_isIn]
  simp only [ej_bi_s, ej_bl_s, ej_bv_s, ej_nm_e]
  rw [(by decide +kernel : ∀ c, c < 257 → ej_bz (if cI c < 65 then 0 else if 90 < cI c then 0 else 1) = bI (isUp c)) c h]
theorem r_isFigure (h : c < 257) : m11_isFigure n (cI c) σ = some (bI (isDg c), σ) := by
  unfold m11_isFigure
  rw [v_isIn]
  simp only [ej_bi_s, ej_bl_s, ej_bv_s, ej_nm_e]
  rw [(by decide +kernel : ∀ c, c < 257 → ej_bz (if cI c < 48 then 0 else if 57 < cI c then 0 else 1) = bI (isDg c)) c h]
theorem r_goesOn (h : c < 257) : m11_goesOn n (cI c) σ = some (bI (isNP c), σ) := by
  unfold m11_goesOn isNP
  rw [isNS_sm]
  simp only [r_isSmall h, r_isFigure h, ej_bi_s, ↓L_m1, L_0, L_1, L_2, L_3, L_4, L_5, L_6, L_7, L_8, L_9, L_10, L_11, L_12, L_13, L_14, L_15, L_16, L_17, L_18, L_19, L_20, L_21, L_22, L_23, L_24, L_31, L_32, L_33, L_35, L_37, L_40, L_41, L_42, L_43, L_44, L_45, L_46, L_47, L_48, L_57, L_58, L_59, L_61, L_63, L_64, L_65, L_90, L_95, L_96, L_97, L_122, L_123, L_125, L_200, L_255, L_300, L_500, L_576, L_600, L_601, L_602, L_1200, L_1800, L_2400, L_3000, L_4000, L_4096, L_5000, L_30000, L_50000, L_60000, L_70000, L_100000, L_200000, L_1000000, L_1000001, ibI, cI_eq h (show 45 < 256 by omega), cI_eq h (show 46 < 256 by omega)]
  cases isSm c <;> cases isDg c <;> by_cases h1 : c = 45 <;> by_cases h2 : c = 46 <;> simp [h1, h2, bI]
theorem r_isSign_47 (y : Int32) (a : Int32) : m11_isSign_47 n a y σ = some ((if y = 0 then (if a = 33 then (1 : Int32) else if a = 43 then 1 else if a = 45 then 1 else if a = 42 then 1 else if a = 47 then 1 else if a = 59 then 1 else 0) else 1), σ) := by
  unfold m11_isSign_47
  repeat' (split <;> first | rfl | skip)
theorem r_isSign (h : c < 257) : m11_isSign n (cI c) σ = some (bI (isSg c), σ) := by
  unfold m11_isSign
  simp only [r_isSign_47, isome]
  refine congrArg (fun z => some (z, σ)) ?_
  revert h; revert c
  decide +kernel
theorem r_passesBlanks_2 : ∀ (k p : Nat) (b : Bool) (σ : ej_S), RS σ f l → gI σ 1 = nI p → p ≤ l.length → l.length - p < k → ∃ σ', m11_passesBlanks_2 n k (bI b) σ = some σ' ∧ gI σ' 1 = nI (p + skp b (l.drop p)) ∧ fr [1] [] [] [] [] σ σ' := by
  intro k
  induction k with
  | zero => intro p b σ _ _ _ h; omega
  | succ k ih =>
    intro p b σ hs hp hpl hm
    have h6 := hs.2.2.2.1
    have hc7 := cd_7 hs.2.2.2.2.2 p
    have hs1 : RS (uI σ 1 (nI (p + 1))) f l := RS_fr hs (fr_uI (I := [1]) (J := []) (A := []) (B := []) (M := []) fr_rf (by simp)) (by decide) (by decide) (by decide)
    have go : ∀ b', p < l.length → skp b (l.drop p) = skp b' (l.drop (p + 1)) + 1 → ∃ σ', m11_passesBlanks_2 n k (bI b') (uI σ 1 (nI (p + 1))) = some σ' ∧ gI σ' 1 = nI (p + skp b (l.drop p)) ∧ fr [1] [] [] [] [] σ σ' := by
      intro b' q e
      obtain ⟨σ', e1, e2, f1⟩ := ih (p + 1) b' _ hs1 s_II_s q (by omega)
      exact ⟨σ', e1, by rw [e2, e, Nat.add_right_comm, Nat.add_assoc], fr_tr (fr_uI fr_rf (by simp)) f1⟩
    rw [u_11_passesBlanks_2, hp]
    simp only [r_code hs (show p < 2 ^ 30 by omega), ej_bi_s, ej_bl_s, ej_bv_s, ej_nm_e, ↓L_m1, L_0, L_1, L_2, L_3, L_4, L_5, L_6, L_7, L_8, L_9, L_10, L_11, L_12, L_13, L_14, L_15, L_16, L_17, L_18, L_19, L_20, L_21, L_22, L_23, L_24, L_31, L_32, L_33, L_35, L_37, L_40, L_41, L_42, L_43, L_44, L_45, L_46, L_47, L_48, L_57, L_58, L_59, L_61, L_63, L_64, L_65, L_90, L_95, L_96, L_97, L_122, L_123, L_125, L_200, L_255, L_300, L_500, L_576, L_600, L_601, L_602, L_1200, L_1800, L_2400, L_3000, L_4000, L_4096, L_5000, L_30000, L_50000, L_60000, L_70000, L_100000, L_200000, L_1000000, L_1000001, cI_eq hc7 (show 32 < 256 by omega), cI_eq hc7 (show 9 < 256 by omega), cI_eq hc7 (show 35 < 256 by omega), cI_eq hc7 (show 10 < 256 by omega), cI_m hc7, m11_passesBlanks_70, m11_passesBlanks_87, ibI, hp, nI_add]
    rcases Nat.lt_or_ge p l.length with q | q
    · have hc := cd_b hs.2.2.2.2.2 q
      have hd := cd_drop q
      cases b with
      | true =>
        simp only [if_true]
        by_cases h10 : cd l p = 10
        · rw [if_neg (by omega), if_neg (by omega), if_neg (by omega), if_neg (by omega), if_pos h10]
          exact ⟨σ, rfl, by rw [hd]; simp only [skp, if_pos h10]; exact hp, fr_rf⟩
        · have hg := go true q (by rw [hd]; simp only [skp, if_neg h10])
          rw [if_neg (show ¬ cd l p = 256 by omega), if_neg h10]
          by_cases h9 : cd l p = 9 <;> by_cases h32 : cd l p = 32 <;> by_cases h35 : cd l p = 35 <;> simp only [h9, h32, h35, if_true, if_false] <;> exact hg
      | false =>
        simp only [Bool.false_eq_true, if_false]
        by_cases h9 : cd l p = 9
        · rw [if_pos h9, if_neg (by omega)]
          exact go false q (by rw [hd]; simp only [skp]; rw [if_pos (.inr h9)])
        · by_cases h32 : cd l p = 32
          · rw [if_neg h9, if_pos h32, if_neg (by omega)]
            exact go false q (by rw [hd]; simp only [skp]; rw [if_pos (.inl h32)])
          · by_cases h35 : cd l p = 35
            · rw [if_neg h9, if_neg h32, if_pos h35, if_pos h35]
              exact go true q (by rw [hd]; simp only [skp]; rw [if_neg (by omega), if_pos h35])
            · rw [if_neg h9, if_neg h32, if_neg h35]
              exact ⟨σ, rfl, by rw [hd]; simp only [skp]; rw [if_neg (by omega), if_neg h35]; exact hp, fr_rf⟩
    · rw [cd_ge q]
      rw [if_neg (by omega), if_neg (by omega), if_neg (by omega), if_pos rfl]
      refine ⟨σ, ?_, by rw [List.drop_eq_nil_of_le q]; cases b <;> exact hp, fr_rf⟩
      cases b <;> rfl
/-- letters of a word, five bits each -/
def encL (l : List Nat) : Nat := l.foldl (fun a c => 32 * a + (c - 64)) 0
def nmR : Nat → List Nat → Nat
  | a, [] => a
  | a, b :: r => nmR (if a ≤ 1000000 then 10 * a + b - 48 else a) r
def rs (s : Nat) : Nat := if s = 97 then 1 else if s = 65 then 2 else if s = 48 then 3 else if s = 63 then 4 else s
/-- the token that begins at b has been read -/
def RA (σ : ej_S) (l : List Nat) (b : Nat) : Prop := gI σ 1 = nI (en l b) ∧ gI σ 2 = nI (rs (sr l b)) ∧ gI σ 3 = nI b ∧ (sr l b = 97 → gI σ 4 = nI (enL (l.drop b)) ∧ gJ σ 0 = lN (pkL ((tk l b).take 8))) ∧ (sr l b = 65 → gI σ 4 = nI (enL (l.drop b)) ∧ gJ σ 0 = lN (encL ((tk l b).take 10))) ∧ (sr l b = 48 → gI σ 5 = nI (nmR 0 (tk l b)))
theorem take_app (W : List Nat) (x m : Nat) (h : W.length < m) : (W ++ [x]).take m = W.take m ++ [x] := by
  rw [List.take_of_length_le (by simp; omega), List.take_of_length_le (by omega)]
theorem take_app2 (W : List Nat) (x m : Nat) (h : m ≤ W.length) : (W ++ [x]).take m = W.take m := by rw [List.take_append_of_le_length h]
theorem spn_cons {p : Nat → Bool} {q : Nat} (h : q < l.length) (g : p (cd l q) = true) : spn p (l.drop q) = spn p (l.drop (q + 1)) + 1 := by rw [cd_drop h]; simp only [spn, if_pos g]
theorem spn_nil {p : Nat → Bool} {q : Nat} (h : q < l.length) (g : ¬ p (cd l q) = true) : spn p (l.drop q) = 0 := by rw [cd_drop h]; simp only [spn, if_neg g]
theorem spn_tk {p : Nat → Bool} {q : Nat} (h : q < l.length) (g : p (cd l q) = true) : (l.drop q).take (spn p (l.drop q)) = cd l q :: (l.drop (q + 1)).take (spn p (l.drop (q + 1))) := by rw [spn_cons h g, cd_drop h, List.take_succ_cons]
theorem name_or {W : List Nat} {x : Nat} (hW : ∀ b ∈ W, b < 256) (hx : x < 256) (h8 : W.length < 8) : lN (pkL W) ||| ((nI x).toInt64 <<< ((nI (8 * W.length)).toInt64 &&& 63)) = lN (pkL (W ++ [x])) := by
  have e2 := pkL_lt W hW
  have e4 : (2 : Nat) ^ (8 * W.length) = 256 ^ W.length := by rw [Nat.pow_mul]
  have e5 : (256 : Nat) ^ W.length * 256 ≤ 2 ^ 64 := by
    rw [← Nat.pow_succ, show (2 : Nat) ^ 64 = 256 ^ 8 by decide]
    exact Nat.pow_le_pow_right (by omega) h8
  have e6 : pkL W + x * 256 ^ W.length < 2 ^ 64 := by
    have : x * 256 ^ W.length ≤ 255 * 256 ^ W.length := Nat.mul_le_mul_right _ (by omega)
    omega
  rw [nI_l (n := x) (by omega), wb_shl _ (show 8 * W.length < 64 by omega), e4, g_or' e4 e2 e6, pkL_app]
theorem r_next_54 : ∀ (k p : Nat) (W : List Nat) (σ : ej_S), RS σ f l → gI σ 1 = nI p → gI σ 4 = nI W.length → W.length ≤ p → gJ σ 0 = lN (pkL (W.take 8)) → (∀ b ∈ W, b < 256) → p ≤ l.length → l.length - p < k → ∃ σ', m11_next_54 n k σ = some σ' ∧ gI σ' 1 = nI (p + spn isNP (l.drop p)) ∧ gI σ' 4 = nI (W.length + spn isNP (l.drop p)) ∧ gJ σ' 0 = lN (pkL ((W ++ (l.drop p).take (spn isNP (l.drop p))).take 8)) ∧ fr [1, 4] [0] [] [] [] σ σ' := by
  intro k
  induction k with
  | zero => intro p W σ _ _ _ _ _ _ _ h; omega
  | succ k ih =>
    intro p W σ hs hp h4 hWp hJ hW hpl hm
    have h6 := hs.2.2.2.1
    have hc7 := cd_7 hs.2.2.2.2.2 p
    rw [u_11_next_54, hp]
    simp only [r_code hs (show p < 2 ^ 30 by omega), ej_bi_s, ej_bl_s, ej_bv_s, ej_nm_e, ↓L_m1, L_0, L_1, L_2, L_3, L_4, L_5, L_6, L_7, L_8, L_9, L_10, L_11, L_12, L_13, L_14, L_15, L_16, L_17, L_18, L_19, L_20, L_21, L_22, L_23, L_24, L_31, L_32, L_33, L_35, L_37, L_40, L_41, L_42, L_43, L_44, L_45, L_46, L_47, L_48, L_57, L_58, L_59, L_61, L_63, L_64, L_65, L_90, L_95, L_96, L_97, L_122, L_123, L_125, L_200, L_255, L_300, L_500, L_576, L_600, L_601, L_602, L_1200, L_1800, L_2400, L_3000, L_4000, L_4096, L_5000, L_30000, L_50000, L_60000, L_70000, L_100000, L_200000, L_1000000, L_1000001, r_goesOn hc7, ibI, hp, h4, hJ, m11_next_103, nI_add]
    rcases Nat.lt_or_ge p l.length with q | q
    · have hc := cd_b hs.2.2.2.2.2 q
      by_cases g : isNP (cd l p) = true
      · rw [if_pos g]
        have hs1 : ∀ w, RS (uI (uI (uJ σ 0 w) 4 (nI (W.length + 1))) 1 (nI (p + 1))) f l := fun w => RS_fr hs (fr_uI (I := [1, 4]) (J := [0]) (A := []) (B := []) (M := []) (fr_uI (fr_uJ fr_rf (by simp)) (by simp)) (by simp)) (by decide) (by decide) (by decide)
        have hW1 : ∀ b ∈ W ++ [cd l p], b < 256 := by
          intro b hb
          rcases List.mem_append.mp hb with z | z
          · exact hW b z
          · rw [List.mem_singleton.mp z]; exact hc
        have go : ∀ w, w = lN (pkL ((W ++ [cd l p]).take 8)) → ∃ σ', m11_next_54 n k (uI (uI (uJ σ 0 w) 4 (nI (W.length + 1))) 1 (nI (p + 1))) = some σ' ∧ gI σ' 1 = nI (p + spn isNP (l.drop p)) ∧ gI σ' 4 = nI (W.length + spn isNP (l.drop p)) ∧ gJ σ' 0 = lN (pkL ((W ++ (l.drop p).take (spn isNP (l.drop p))).take 8)) ∧ fr [1, 4] [0] [] [] [] σ σ' := by
          intro w hw
          obtain ⟨σ', e1, e2, e3, e4, f1⟩ := ih (p + 1) (W ++ [cd l p]) _ (hs1 w) s_II_s (by rw [List.length_append]; rfl) (by rw [List.length_append]; simp; omega) (by show w = _; exact hw) hW1 q (by omega)
          refine ⟨σ', e1, ?_, ?_, ?_, fr_tr (fr_uI (fr_uI (fr_uJ fr_rf (by simp)) (by simp)) (by simp)) f1⟩
          · rw [e2, spn_cons q g, Nat.add_right_comm, Nat.add_assoc]
          · rw [e3, spn_cons q g, List.length_append]; simp only [List.length_singleton]; rw [Nat.add_assoc, Nat.add_comm 1]
          · rw [e4, spn_tk q g, List.append_assoc]; rfl
        rcases Nat.lt_or_ge W.length 8 with z | z
        · rw [ile_f z (by omega)]
          simp (disch := omega) only [s_IJ, s_IA, s_IB, s_IM, s_JI, s_JA, s_JB, s_JM, s_AI, s_AJ, s_AB, s_AM, s_BI, s_BJ, s_BA, s_BM, s_MI, s_MJ, s_MA, s_MB, s_II_s, s_II_n, s_JJ_s, s_JJ_n, s_AA_s, s_AA_n, s_BB_s, s_BB_n, s_MM_s, s_MM_n, pk_us, pk_un, pk_uLs, pk_uLn, h4, hp, hJ, nI_add, pk_mul, ej_bi_s, ej_bl_s, ej_bv_s, ej_nm_e, r_code hs (show p < 2 ^ 30 by omega)]
          refine go _ ?_
          rw [cI_lt hc, List.take_of_length_le (by omega), name_or hW hc z, List.take_of_length_le (by simp; omega)]
        · rw [ile_t z (by omega)]
          simp (disch := omega) only [s_IJ, s_IA, s_IB, s_IM, s_JI, s_JA, s_JB, s_JM, s_AI, s_AJ, s_AB, s_AM, s_BI, s_BJ, s_BA, s_BM, s_MI, s_MJ, s_MA, s_MB, s_II_s, s_II_n, s_JJ_s, s_JJ_n, s_AA_s, s_AA_n, s_BB_s, s_BB_n, s_MM_s, s_MM_n, pk_us, pk_un, pk_uLs, pk_uLn, h4, hp, nI_add]
          refine go _ ?_
          rw [take_app2 _ _ _ z]
          exact Int64.or_zero
      · rw [if_neg g]
        refine ⟨σ, rfl, ?_, ?_, ?_, fr_rf⟩
        · rw [spn_nil q g]; exact hp
        · rw [spn_nil q g]; exact h4
        · rw [spn_nil q g]; simpa using hJ
    · rw [cd_ge q, if_neg (by decide)]
      have e0 : l.drop p = [] := List.drop_eq_nil_of_le q
      refine ⟨σ, rfl, ?_, ?_, ?_, fr_rf⟩
      · rw [e0]; exact hp
      · rw [e0]; exact h4
      · rw [e0]; simpa using hJ
theorem r_letter {a : Nat} (ha : 64 < c) (hc : c < 256) : m11_letter n (lN a) (nI c) σ = some (lN (32 * a + (c - 64)), σ) := by
  unfold m11_letter
  rw [L_0, ieq_f (by omega) (by omega) (by omega)]
  have e : ((32 * lN a + (nI c).toInt64) - 65) + 1 = lN (32 * a + (c - 64)) := by
    rw [nI_l (by omega), show (32 : Int64) = lN 32 from rfl, show (65 : Int64) = lN 65 from rfl, lN_mul, lN_add, lN_sub (by omega), lN_1]
    congr 1; omega
  rw [e]
theorem encL_app (W : List Nat) (x : Nat) : encL (W ++ [x]) = 32 * encL W + (x - 64) := by unfold encL; rw [List.foldl_append]; rfl
theorem isUp_gt {x : Nat} (h : isUp x = true) : 64 < x ∧ x < 91 := by simp only [isUp, Bool.and_eq_true, decide_eq_true_eq] at h; omega
theorem isDg_gt {x : Nat} (h : isDg x = true) : 48 ≤ x ∧ x < 58 := by simp only [isDg, Bool.and_eq_true, decide_eq_true_eq] at h; omega
theorem r_next_142 : ∀ (k p : Nat) (W : List Nat) (σ : ej_S), RS σ f l → gI σ 1 = nI p → gI σ 4 = nI W.length → W.length ≤ p → gJ σ 0 = lN (encL (W.take 10)) → p ≤ l.length → l.length - p < k → ∃ σ', m11_next_142 n k σ = some σ' ∧ gI σ' 1 = nI (p + spn isUp (l.drop p)) ∧ gI σ' 4 = nI (W.length + spn isUp (l.drop p)) ∧ gJ σ' 0 = lN (encL ((W ++ (l.drop p).take (spn isUp (l.drop p))).take 10)) ∧ fr [1, 4] [0] [] [] [] σ σ' := by
  intro k
  induction k with
  | zero => intro p W σ _ _ _ _ _ _ h; omega
  | succ k ih =>
    intro p W σ hs hp h4 hWp hJ hpl hm
    have h6 := hs.2.2.2.1
    have hc7 := cd_7 hs.2.2.2.2.2 p
    rw [u_11_next_142, hp]
    simp only [r_code hs (show p < 2 ^ 30 by omega), ej_bi_s, ej_bl_s, ej_bv_s, ej_nm_e, ↓L_m1, L_0, L_1, L_2, L_3, L_4, L_5, L_6, L_7, L_8, L_9, L_10, L_11, L_12, L_13, L_14, L_15, L_16, L_17, L_18, L_19, L_20, L_21, L_22, L_23, L_24, L_31, L_32, L_33, L_35, L_37, L_40, L_41, L_42, L_43, L_44, L_45, L_46, L_47, L_48, L_57, L_58, L_59, L_61, L_63, L_64, L_65, L_90, L_95, L_96, L_97, L_122, L_123, L_125, L_200, L_255, L_300, L_500, L_576, L_600, L_601, L_602, L_1200, L_1800, L_2400, L_3000, L_4000, L_4096, L_5000, L_30000, L_50000, L_60000, L_70000, L_100000, L_200000, L_1000000, L_1000001, r_isGreat hc7, ibI, hp, h4, hJ, m11_next_188, nI_add]
    rcases Nat.lt_or_ge p l.length with q | q
    · have hc := cd_b hs.2.2.2.2.2 q
      by_cases g : isUp (cd l p) = true
      · rw [if_pos g]
        have hs1 : ∀ w, RS (uI (uI (uJ σ 0 w) 4 (nI (W.length + 1))) 1 (nI (p + 1))) f l := fun w => RS_fr hs (fr_uI (I := [1, 4]) (J := [0]) (A := []) (B := []) (M := []) (fr_uI (fr_uJ fr_rf (by simp)) (by simp)) (by simp)) (by decide) (by decide) (by decide)
        have go : ∀ w, w = lN (encL ((W ++ [cd l p]).take 10)) → ∃ σ', m11_next_142 n k (uI (uI (uJ σ 0 w) 4 (nI (W.length + 1))) 1 (nI (p + 1))) = some σ' ∧ gI σ' 1 = nI (p + spn isUp (l.drop p)) ∧ gI σ' 4 = nI (W.length + spn isUp (l.drop p)) ∧ gJ σ' 0 = lN (encL ((W ++ (l.drop p).take (spn isUp (l.drop p))).take 10)) ∧ fr [1, 4] [0] [] [] [] σ σ' := by
          intro w hw
          obtain ⟨σ', e1, e2, e3, e4, f1⟩ := ih (p + 1) (W ++ [cd l p]) _ (hs1 w) s_II_s (by rw [List.length_append]; rfl) (by rw [List.length_append]; simp; omega) (by show w = _; exact hw) q (by omega)
          refine ⟨σ', e1, ?_, ?_, ?_, fr_tr (fr_uI (fr_uI (fr_uJ fr_rf (by simp)) (by simp)) (by simp)) f1⟩
          · rw [e2, spn_cons q g, Nat.add_right_comm, Nat.add_assoc]
          · rw [e3, spn_cons q g, List.length_append]; simp only [List.length_singleton]; rw [Nat.add_assoc, Nat.add_comm 1]
          · rw [e4, spn_tk q g, List.append_assoc]; rfl
        rcases Nat.lt_or_ge W.length 10 with z | z
        · rw [ile_f z (by omega)]
          simp (disch := omega) only [s_IJ, s_IA, s_IB, s_IM, s_JI, s_JA, s_JB, s_JM, s_AI, s_AJ, s_AB, s_AM, s_BI, s_BJ, s_BA, s_BM, s_MI, s_MJ, s_MA, s_MB, s_II_s, s_II_n, s_JJ_s, s_JJ_n, s_AA_s, s_AA_n, s_BB_s, s_BB_n, s_MM_s, s_MM_n, pk_us, pk_un, pk_uLs, pk_uLn, h4, hp, hJ, nI_add, ej_bi_s, ej_bl_s, ej_bv_s, ej_nm_e, r_code hs (show p < 2 ^ 30 by omega), cI_lt hc, r_letter (isUp_gt g).1 hc]
          refine go _ ?_
          rw [take_app _ _ _ z, encL_app]
        · rw [ile_t z (by omega)]
          simp (disch := omega) only [s_IJ, s_IA, s_IB, s_IM, s_JI, s_JA, s_JB, s_JM, s_AI, s_AJ, s_AB, s_AM, s_BI, s_BJ, s_BA, s_BM, s_MI, s_MJ, s_MA, s_MB, s_II_s, s_II_n, s_JJ_s, s_JJ_n, s_AA_s, s_AA_n, s_BB_s, s_BB_n, s_MM_s, s_MM_n, pk_us, pk_un, pk_uLs, pk_uLn, h4, hp, nI_add]
          refine go _ ?_
          rw [take_app2 _ _ _ z]
      · rw [if_neg g]
        refine ⟨σ, rfl, ?_, ?_, ?_, fr_rf⟩
        · rw [spn_nil q g]; exact hp
        · rw [spn_nil q g]; exact h4
        · rw [spn_nil q g]; simpa using hJ
    · rw [cd_ge q, if_neg (by decide)]
      have e0 : l.drop p = [] := List.drop_eq_nil_of_le q
      refine ⟨σ, rfl, ?_, ?_, ?_, fr_rf⟩
      · rw [e0]; exact hp
      · rw [e0]; exact h4
      · rw [e0]; simpa using hJ
theorem r_next_226 : ∀ (k p a : Nat) (σ : ej_S), RS σ f l → gI σ 1 = nI p → gI σ 5 = nI a → a < 20000000 → p ≤ l.length → l.length - p < k → ∃ σ', m11_next_226 n k σ = some σ' ∧ gI σ' 1 = nI (p + spn isDg (l.drop p)) ∧ gI σ' 5 = nI (nmR a ((l.drop p).take (spn isDg (l.drop p)))) ∧ fr [1, 5] [] [] [] [] σ σ' := by
  intro k
  induction k with
  | zero => intro p a σ _ _ _ _ _ h; omega
  | succ k ih =>
    intro p a σ hs hp h5 ha hpl hm
    have h6 := hs.2.2.2.1
    have hc7 := cd_7 hs.2.2.2.2.2 p
    rw [u_11_next_226, hp]
    simp only [r_code hs (show p < 2 ^ 30 by omega), ej_bi_s, ej_bl_s, ej_bv_s, ej_nm_e, ↓L_m1, L_0, L_1, L_2, L_3, L_4, L_5, L_6, L_7, L_8, L_9, L_10, L_11, L_12, L_13, L_14, L_15, L_16, L_17, L_18, L_19, L_20, L_21, L_22, L_23, L_24, L_31, L_32, L_33, L_35, L_37, L_40, L_41, L_42, L_43, L_44, L_45, L_46, L_47, L_48, L_57, L_58, L_59, L_61, L_63, L_64, L_65, L_90, L_95, L_96, L_97, L_122, L_123, L_125, L_200, L_255, L_300, L_500, L_576, L_600, L_601, L_602, L_1200, L_1800, L_2400, L_3000, L_4000, L_4096, L_5000, L_30000, L_50000, L_60000, L_70000, L_100000, L_200000, L_1000000, L_1000001, r_isFigure hc7, ibI, hp, h5, nI_add]
    rcases Nat.lt_or_ge p l.length with q | q
    · have hc := cd_b hs.2.2.2.2.2 q
      by_cases g : isDg (cd l p) = true
      · have hd := isDg_gt g
        rw [if_pos g]
        have hs1 : ∀ w, RS (uI (uI σ 5 w) 1 (nI (p + 1))) f l := fun w => RS_fr hs (fr_uI (I := [1, 5]) (J := []) (A := []) (B := []) (M := []) (fr_uI fr_rf (by simp)) (by simp)) (by decide) (by decide) (by decide)
        have go : ∀ w, w < 20000000 → w = (if a ≤ 1000000 then 10 * a + cd l p - 48 else a) → ∃ σ', m11_next_226 n k (uI (uI σ 5 (nI w)) 1 (nI (p + 1))) = some σ' ∧ gI σ' 1 = nI (p + spn isDg (l.drop p)) ∧ gI σ' 5 = nI (nmR a ((l.drop p).take (spn isDg (l.drop p)))) ∧ fr [1, 5] [] [] [] [] σ σ' := by
          intro w hw0 hw
          obtain ⟨σ', e1, e2, e3, f1⟩ := ih (p + 1) w _ (hs1 (nI w)) s_II_s (by simp (disch := omega) only [s_IJ, s_IA, s_IB, s_IM, s_JI, s_JA, s_JB, s_JM, s_AI, s_AJ, s_AB, s_AM, s_BI, s_BJ, s_BA, s_BM, s_MI, s_MJ, s_MA, s_MB, s_II_s, s_II_n, s_JJ_s, s_JJ_n, s_AA_s, s_AA_n, s_BB_s, s_BB_n, s_MM_s, s_MM_n, pk_us, pk_un, pk_uLs, pk_uLn]) hw0 q (by omega)
          refine ⟨σ', e1, ?_, ?_, fr_tr (fr_uI (fr_uI fr_rf (by simp)) (by simp)) f1⟩
          · rw [e2, spn_cons q g, Nat.add_right_comm, Nat.add_assoc]
          · rw [e3, spn_tk q g, hw]; rfl
        rcases Nat.lt_or_ge 1000000 a with z | z
        · rw [ile_f z (by omega)]
          simp (disch := omega) only [s_IJ, s_IA, s_IB, s_IM, s_JI, s_JA, s_JB, s_JM, s_AI, s_AJ, s_AB, s_AM, s_BI, s_BJ, s_BA, s_BM, s_MI, s_MJ, s_MA, s_MB, s_II_s, s_II_n, s_JJ_s, s_JJ_n, s_AA_s, s_AA_n, s_BB_s, s_BB_n, s_MM_s, s_MM_n, pk_us, pk_un, pk_uLs, pk_uLn, h5, hp, nI_add]
          exact go a ha (by rw [if_neg (by omega)])
        · rw [ile_t z (by omega)]
          simp (disch := omega) only [s_IJ, s_IA, s_IB, s_IM, s_JI, s_JA, s_JB, s_JM, s_AI, s_AJ, s_AB, s_AM, s_BI, s_BJ, s_BA, s_BM, s_MI, s_MJ, s_MA, s_MB, s_II_s, s_II_n, s_JJ_s, s_JJ_n, s_AA_s, s_AA_n, s_BB_s, s_BB_n, s_MM_s, s_MM_n, pk_us, pk_un, pk_uLs, pk_uLn, h5, hp, cI_lt hc, nI_add, pk_mul, nI_m2]
          exact go _ (by omega) (by rw [if_pos z])
      · rw [if_neg g]
        refine ⟨σ, rfl, ?_, ?_, fr_rf⟩
        · rw [spn_nil q g]; exact hp
        · rw [spn_nil q g]; simpa [nmR] using h5
    · rw [cd_ge q, if_neg (by decide)]
      have e0 : l.drop p = [] := List.drop_eq_nil_of_le q
      refine ⟨σ, rfl, ?_, ?_, fr_rf⟩
      · rw [e0]; exact hp
      · rw [e0]; simpa [nmR] using h5
theorem spn_cg {p q : Nat → Bool} : ∀ (l : List Nat), (∀ b, p b = q b) → spn p l = spn q l
  | [], _ => rfl
  | b :: r, h => by simp only [spn, h b, spn_cg r h]
theorem spn_no {p : Nat → Bool} (h : ∀ b, p b = false) : ∀ (l : List Nat), spn p l = 0
  | [] => rfl
  | b :: r => by simp [spn, h b]
theorem gon_97 (b : Nat) : gon 97 b = isNP b := by simp [gon]
theorem gon_65 (b : Nat) : gon 65 b = isUp b := by simp [gon]
theorem gon_48 (b : Nat) : gon 48 b = isDg b := by simp [gon]
theorem gon_no {s : Nat} (h1 : s ≠ 97) (h2 : s ≠ 65) (h3 : s ≠ 48) (b : Nat) : gon s b = false := by simp [gon, h1, h2, h3]
theorem r_325a {t : Int32} (h : c < 256) : m11_next_325 n (cI c) t σ = some (uI (uI σ 2 t) 1 (gI (uI σ 2 t) 1 + 1)) := by
  unfold m11_next_325; rw [cI_lt h]; exact if_neg (fun z => zm_ne (by omega) z)
theorem r_325b {t : Int32} : m11_next_325 n (cI 256) t σ = some (uI (uI σ 2 t) 1 (gI (uI σ 2 t) 1 + 0)) := by unfold m11_next_325; rw [ej_nm_e, if_pos (show cI 256 = -1 from rfl)]; rfl
theorem r_next (hn : 2000 < n) (hs : RS σ f l) {p : Nat} (hp : gI σ 1 = nI p) (hpl : p ≤ l.length) : ∃ σ', m11_next n σ = some σ' ∧ RA σ' l (sx l p) ∧ fr [1, 2, 3, 4, 5] [0] [] [] [] σ σ' := by
  have h6 := hs.2.2.2.1
  have hb6 := hs.2.2.2.2.2
  obtain ⟨σ1, e1, p1, f1⟩ := r_passesBlanks_2 (n := n) (f := f) (l := l) n p false σ hs hp hpl (by omega)
  have hs1 := RS_fr hs f1 (by decide) (by decide) (by decide)
  have hbl := sx_le hpl
  have e1' : m11_passesBlanks n σ = some σ1 := e1
  have hpb : gI σ1 1 = nI (sx l p) := p1
  generalize hb : sx l p = b at *
  have hc7 := cd_7 hb6 b
  have hsy : RS (uI σ1 3 (nI b)) f l := RS_fr hs1 (fr_uI (I := [3]) (J := []) (A := []) (B := []) (M := []) fr_rf (by simp)) (by decide) (by decide) (by decide)
  unfold m11_next
  rw [e1', ej_bv_s, ej_nm_e, hpb, s_II_n (by omega), hpb, r_code hsy (by omega), ej_bi_s, ej_nm_e, ej_nm_e, ej_nm_e, r_isSmall hc7, ej_bi_s]
  obtain ⟨s0, hs0, g1, g3, g4, g5, g0, f0⟩ : ∃ s0, uI (uJ (uI (uI σ1 3 (nI b)) 4 0) 0 0) 5 0 = s0 ∧ gI s0 1 = nI b ∧ gI s0 3 = nI b ∧ gI s0 4 = nI 0 ∧ gI s0 5 = nI 0 ∧ gJ s0 0 = 0 ∧ fr [1, 2, 3, 4, 5] [0] [] [] [] σ s0 := by
    refine ⟨_, rfl, ?_, ?_, ?_, ?_, ?_, ?_⟩
    · simp (disch := omega) only [s_IJ, s_IA, s_IB, s_IM, s_JI, s_JA, s_JB, s_JM, s_AI, s_AJ, s_AB, s_AM, s_BI, s_BJ, s_BA, s_BM, s_MI, s_MJ, s_MA, s_MB, s_II_s, s_II_n, s_JJ_s, s_JJ_n, s_AA_s, s_AA_n, s_BB_s, s_BB_n, s_MM_s, s_MM_n, pk_us, pk_un, pk_uLs, pk_uLn, hpb]
    · simp (disch := omega) only [s_IJ, s_IA, s_IB, s_IM, s_JI, s_JA, s_JB, s_JM, s_AI, s_AJ, s_AB, s_AM, s_BI, s_BJ, s_BA, s_BM, s_MI, s_MJ, s_MA, s_MB, s_II_s, s_II_n, s_JJ_s, s_JJ_n, s_AA_s, s_AA_n, s_BB_s, s_BB_n, s_MM_s, s_MM_n, pk_us, pk_un, pk_uLs, pk_uLn]
    · simp (disch := omega) only [s_IJ, s_IA, s_IB, s_IM, s_JI, s_JA, s_JB, s_JM, s_AI, s_AJ, s_AB, s_AM, s_BI, s_BJ, s_BA, s_BM, s_MI, s_MJ, s_MA, s_MB, s_II_s, s_II_n, s_JJ_s, s_JJ_n, s_AA_s, s_AA_n, s_BB_s, s_BB_n, s_MM_s, s_MM_n, pk_us, pk_un, pk_uLs, pk_uLn, L_0]
    · simp (disch := omega) only [s_IJ, s_IA, s_IB, s_IM, s_JI, s_JA, s_JB, s_JM, s_AI, s_AJ, s_AB, s_AM, s_BI, s_BJ, s_BA, s_BM, s_MI, s_MJ, s_MA, s_MB, s_II_s, s_II_n, s_JJ_s, s_JJ_n, s_AA_s, s_AA_n, s_BB_s, s_BB_n, s_MM_s, s_MM_n, pk_us, pk_un, pk_uLs, pk_uLn, L_0]
    · simp (disch := omega) only [s_IJ, s_IA, s_IB, s_IM, s_JI, s_JA, s_JB, s_JM, s_AI, s_AJ, s_AB, s_AM, s_BI, s_BJ, s_BA, s_BM, s_MI, s_MJ, s_MA, s_MB, s_II_s, s_II_n, s_JJ_s, s_JJ_n, s_AA_s, s_AA_n, s_BB_s, s_BB_n, s_MM_s, s_MM_n, pk_us, pk_un, pk_uLs, pk_uLn]
    · exact fr_uI (fr_uJ (fr_uI (fr_uI (fr_wk f1 (by simp) (by simp) (by simp) (by simp) (by simp)) (by simp)) (by simp)) (by simp)) (by simp)
  rw [hs0]
  have fz : ∀ v, fr [1, 2, 3, 4, 5] [0] [] [] [] σ (uI s0 2 v) := fun v => fr_uI f0 (by simp)
  have hsz : ∀ v, RS (uI s0 2 v) f l := fun v => RS_fr hs (fz v) (by decide) (by decide) (by decide)
  simp only [ej_bi_s, ej_bl_s, ej_bv_s, ej_nm_e, ↓L_m1, L_0, L_1, L_2, L_3, L_4, L_5, L_6, L_7, L_8, L_9, L_10, L_11, L_12, L_13, L_14, L_15, L_16, L_17, L_18, L_19, L_20, L_21, L_22, L_23, L_24, L_31, L_32, L_33, L_35, L_37, L_40, L_41, L_42, L_43, L_44, L_45, L_46, L_47, L_48, L_57, L_58, L_59, L_61, L_63, L_64, L_65, L_90, L_95, L_96, L_97, L_122, L_123, L_125, L_200, L_255, L_300, L_500, L_576, L_600, L_601, L_602, L_1200, L_1800, L_2400, L_3000, L_4000, L_4096, L_5000, L_30000, L_50000, L_60000, L_70000, L_100000, L_200000, L_1000000, L_1000001, r_isGreat hc7, r_isFigure hc7, r_isSign hc7, ibI, cI_eq hc7 (show 46 < 256 by omega), cI_eq hc7 (show 10 < 256 by omega), cI_m hc7]
  rcases Nat.lt_or_ge b l.length with q | q
  · have hc := cd_b hb6 q
    have hsr : sr l b = srtc (cd l b) := by unfold sr; rw [cd_drop q]; rfl
    have henL : enL (l.drop b) = 1 + spn (gon (srtc (cd l b))) (l.drop (b + 1)) := by rw [cd_drop q]; rfl
    by_cases gn : isNS (cd l b) = true
    · have h97 : srtc (cd l b) = 97 := by unfold srtc; rw [if_pos gn]
      have gp : isNP (cd l b) = true := by simp [isNP, gn]
      have hsp : spn isNP (l.drop b) = enL (l.drop b) := by rw [spn_cons q gp, henL, h97, spn_cg _ gon_97]; omega
      obtain ⟨σ2, e2, p2, p3, p4, f2⟩ := r_next_54 (n := n) (f := f) (l := l) n b [] _ (hsz (nI 1)) (by simp (disch := omega) only [s_IJ, s_IA, s_IB, s_IM, s_JI, s_JA, s_JB, s_JM, s_AI, s_AJ, s_AB, s_AM, s_BI, s_BJ, s_BA, s_BM, s_MI, s_MJ, s_MA, s_MB, s_II_s, s_II_n, s_JJ_s, s_JJ_n, s_AA_s, s_AA_n, s_BB_s, s_BB_n, s_MM_s, s_MM_n, pk_us, pk_un, pk_uLs, pk_uLn, g1]) (by simp (disch := omega) only [s_IJ, s_IA, s_IB, s_IM, s_JI, s_JA, s_JB, s_JM, s_AI, s_AJ, s_AB, s_AM, s_BI, s_BJ, s_BA, s_BM, s_MI, s_MJ, s_MA, s_MB, s_II_s, s_II_n, s_JJ_s, s_JJ_n, s_AA_s, s_AA_n, s_BB_s, s_BB_n, s_MM_s, s_MM_n, pk_us, pk_un, pk_uLs, pk_uLn, g4]; rfl) (Nat.zero_le _) (by simp (disch := omega) only [s_IJ, s_IA, s_IB, s_IM, s_JI, s_JA, s_JB, s_JM, s_AI, s_AJ, s_AB, s_AM, s_BI, s_BJ, s_BA, s_BM, s_MI, s_MJ, s_MA, s_MB, s_II_s, s_II_n, s_JJ_s, s_JJ_n, s_AA_s, s_AA_n, s_BB_s, s_BB_n, s_MM_s, s_MM_n, pk_us, pk_un, pk_uLs, pk_uLn, g0]; rfl) (by simp) hbl (by omega)
      have e2' : (if isSm (cd l b) = true then m11_next_54 n n (uI s0 2 (nI 1)) else if cd l b = 46 then m11_next_54 n n (uI s0 2 (nI 1)) else none) = some σ2 := by
        by_cases z : isSm (cd l b) = true
        · rw [if_pos z]; exact e2
        · have : cd l b = 46 := by rw [isNS_sm] at gn; simpa [z] using gn
          rw [if_neg z, if_pos this]; exact e2
      refine ⟨σ2, ?_, ⟨?_, ?_, ?_, ?_, ?_, ?_⟩, fr_tr (fz _) (fr_wk f2 (by simp) (by simp) (by simp) (by simp) (by simp))⟩
      · by_cases z : isSm (cd l b) = true
        · rw [if_pos z] at e2' ⊢; exact e2'
        · have z2 : cd l b = 46 := by rw [isNS_sm] at gn; simpa [z] using gn
          rw [if_neg z, if_pos z2] at e2' ⊢; exact e2'
      · rw [p2, hsp]; rfl
      · rw [f2.1 2 (by decide), hsr, h97]; exact s_II_s
      · rw [f2.1 3 (by decide)]; simp (disch := omega) only [s_IJ, s_IA, s_IB, s_IM, s_JI, s_JA, s_JB, s_JM, s_AI, s_AJ, s_AB, s_AM, s_BI, s_BJ, s_BA, s_BM, s_MI, s_MJ, s_MA, s_MB, s_II_s, s_II_n, s_JJ_s, s_JJ_n, s_AA_s, s_AA_n, s_BB_s, s_BB_n, s_MM_s, s_MM_n, pk_us, pk_un, pk_uLs, pk_uLn, g3]
      · intro _
        exact ⟨by rw [p3, hsp]; simp, by rw [p4, hsp]; rfl⟩
      · intro z; rw [hsr, h97] at z; omega
      · intro z; rw [hsr, h97] at z; omega
    · have gs : ¬ isSm (cd l b) = true := fun z => gn (by rw [isNS_sm, z]; rfl)
      have g46 : ¬ cd l b = 46 := fun z => gn (by rw [isNS_sm, z]; rfl)
      rw [if_neg gs, if_neg g46]
      by_cases gu : isUp (cd l b) = true
      · have h65 : srtc (cd l b) = 65 := by unfold srtc; rw [if_neg gn, if_pos gu]
        have hsp : spn isUp (l.drop b) = enL (l.drop b) := by rw [spn_cons q gu, henL, h65, spn_cg _ gon_65]; omega
        obtain ⟨σ2, e2, p2, p3, p4, f2⟩ := r_next_142 (n := n) (f := f) (l := l) n b [] _ (hsz (nI 2)) (by simp (disch := omega) only [s_IJ, s_IA, s_IB, s_IM, s_JI, s_JA, s_JB, s_JM, s_AI, s_AJ, s_AB, s_AM, s_BI, s_BJ, s_BA, s_BM, s_MI, s_MJ, s_MA, s_MB, s_II_s, s_II_n, s_JJ_s, s_JJ_n, s_AA_s, s_AA_n, s_BB_s, s_BB_n, s_MM_s, s_MM_n, pk_us, pk_un, pk_uLs, pk_uLn, g1]) (by simp (disch := omega) only [s_IJ, s_IA, s_IB, s_IM, s_JI, s_JA, s_JB, s_JM, s_AI, s_AJ, s_AB, s_AM, s_BI, s_BJ, s_BA, s_BM, s_MI, s_MJ, s_MA, s_MB, s_II_s, s_II_n, s_JJ_s, s_JJ_n, s_AA_s, s_AA_n, s_BB_s, s_BB_n, s_MM_s, s_MM_n, pk_us, pk_un, pk_uLs, pk_uLn, g4]; rfl) (Nat.zero_le _) (by simp (disch := omega) only [s_IJ, s_IA, s_IB, s_IM, s_JI, s_JA, s_JB, s_JM, s_AI, s_AJ, s_AB, s_AM, s_BI, s_BJ, s_BA, s_BM, s_MI, s_MJ, s_MA, s_MB, s_II_s, s_II_n, s_JJ_s, s_JJ_n, s_AA_s, s_AA_n, s_BB_s, s_BB_n, s_MM_s, s_MM_n, pk_us, pk_un, pk_uLs, pk_uLn, g0]; rfl) hbl (by omega)
        rw [if_pos gu]
        refine ⟨σ2, e2, ⟨?_, ?_, ?_, ?_, ?_, ?_⟩, fr_tr (fz _) (fr_wk f2 (by simp) (by simp) (by simp) (by simp) (by simp))⟩
        · rw [p2, hsp]; rfl
        · rw [f2.1 2 (by decide), hsr, h65]; exact s_II_s
        · rw [f2.1 3 (by decide)]; simp (disch := omega) only [s_IJ, s_IA, s_IB, s_IM, s_JI, s_JA, s_JB, s_JM, s_AI, s_AJ, s_AB, s_AM, s_BI, s_BJ, s_BA, s_BM, s_MI, s_MJ, s_MA, s_MB, s_II_s, s_II_n, s_JJ_s, s_JJ_n, s_AA_s, s_AA_n, s_BB_s, s_BB_n, s_MM_s, s_MM_n, pk_us, pk_un, pk_uLs, pk_uLn, g3]
        · intro z; rw [hsr, h65] at z; omega
        · intro _
          exact ⟨by rw [p3, hsp]; simp, by rw [p4, hsp]; rfl⟩
        · intro z; rw [hsr, h65] at z; omega
      · rw [if_neg gu]
        by_cases gd : isDg (cd l b) = true
        · have h48 : srtc (cd l b) = 48 := by unfold srtc; rw [if_neg gn, if_neg gu, if_pos gd]
          have hsp : spn isDg (l.drop b) = enL (l.drop b) := by rw [spn_cons q gd, henL, h48, spn_cg _ gon_48]; omega
          obtain ⟨σ2, e2, p2, p3, f2⟩ := r_next_226 (n := n) (f := f) (l := l) n b 0 _ (hsz (nI 3)) (by simp (disch := omega) only [s_IJ, s_IA, s_IB, s_IM, s_JI, s_JA, s_JB, s_JM, s_AI, s_AJ, s_AB, s_AM, s_BI, s_BJ, s_BA, s_BM, s_MI, s_MJ, s_MA, s_MB, s_II_s, s_II_n, s_JJ_s, s_JJ_n, s_AA_s, s_AA_n, s_BB_s, s_BB_n, s_MM_s, s_MM_n, pk_us, pk_un, pk_uLs, pk_uLn, g1]) (by simp (disch := omega) only [s_IJ, s_IA, s_IB, s_IM, s_JI, s_JA, s_JB, s_JM, s_AI, s_AJ, s_AB, s_AM, s_BI, s_BJ, s_BA, s_BM, s_MI, s_MJ, s_MA, s_MB, s_II_s, s_II_n, s_JJ_s, s_JJ_n, s_AA_s, s_AA_n, s_BB_s, s_BB_n, s_MM_s, s_MM_n, pk_us, pk_un, pk_uLs, pk_uLn, g5]) (by omega) hbl (by omega)
          rw [if_pos gd]
          refine ⟨σ2, e2, ⟨?_, ?_, ?_, ?_, ?_, ?_⟩, fr_tr (fz _) (fr_wk f2 (by simp) (by simp) (by simp) (by simp) (by simp))⟩
          · rw [p2, hsp]; rfl
          · rw [f2.1 2 (by decide), hsr, h48]; exact s_II_s
          · rw [f2.1 3 (by decide)]; simp (disch := omega) only [s_IJ, s_IA, s_IB, s_IM, s_JI, s_JA, s_JB, s_JM, s_AI, s_AJ, s_AB, s_AM, s_BI, s_BJ, s_BA, s_BM, s_MI, s_MJ, s_MA, s_MB, s_II_s, s_II_n, s_JJ_s, s_JJ_n, s_AA_s, s_AA_n, s_BB_s, s_BB_n, s_MM_s, s_MM_n, pk_us, pk_un, pk_uLs, pk_uLn, g3]
          · intro z; rw [hsr, h48] at z; omega
          · intro z; rw [hsr, h48] at z; omega
          · intro _; rw [p3, hsp]; rfl
        · rw [if_neg gd, if_neg (show ¬ cd l b = 256 by omega)]
          have hns : srtc (cd l b) ≠ 97 ∧ srtc (cd l b) ≠ 65 ∧ srtc (cd l b) ≠ 48 := by
            have := (by decide +kernel : ∀ c, c < 256 → (isNS c || isUp c || isDg c || (decide (srtc c ≠ 97) && decide (srtc c ≠ 65) && decide (srtc c ≠ 48))) = true) _ hc
            rw [Bool.eq_false_iff.mpr gn, Bool.eq_false_iff.mpr gu, Bool.eq_false_iff.mpr gd] at this
            simpa [and_assoc] using this
          have hrs : rs (srtc (cd l b)) = (if cd l b = 10 then 59 else if isSg (cd l b) = true then cd l b else 4) := (by decide +kernel : ∀ c, c < 256 → ¬ isNS c = true → ¬ isUp c = true → ¬ isDg c = true → rs (srtc c) = (if c = 10 then 59 else if isSg c = true then c else 4)) _ hc gn gu gd
          have hen : en l b = b + 1 := by unfold en; rw [henL, spn_no (gon_no hns.1 hns.2.1 hns.2.2)]
          have go : ∀ t, t = rs (srtc (cd l b)) → ∃ σ', m11_next_325 n (cI (cd l b)) (nI t) s0 = some σ' ∧ RA σ' l b ∧ fr [1, 2, 3, 4, 5] [0] [] [] [] σ σ' := by
            intro t ht
            refine ⟨_, r_325a hc, ⟨?_, ?_, ?_, ?_, ?_, ?_⟩, fr_uI (fz _) (by simp)⟩
            · rw [s_II_s]; simp (disch := omega) only [s_IJ, s_IA, s_IB, s_IM, s_JI, s_JA, s_JB, s_JM, s_AI, s_AJ, s_AB, s_AM, s_BI, s_BJ, s_BA, s_BM, s_MI, s_MJ, s_MA, s_MB, s_II_s, s_II_n, s_JJ_s, s_JJ_n, s_AA_s, s_AA_n, s_BB_s, s_BB_n, s_MM_s, s_MM_n, pk_us, pk_un, pk_uLs, pk_uLn, g1, ↓L_m1, L_0, L_1, L_2, L_3, L_4, L_5, L_6, L_7, L_8, L_9, L_10, L_11, L_12, L_13, L_14, L_15, L_16, L_17, L_18, L_19, L_20, L_21, L_22, L_23, L_24, L_31, L_32, L_33, L_35, L_37, L_40, L_41, L_42, L_43, L_44, L_45, L_46, L_47, L_48, L_57, L_58, L_59, L_61, L_63, L_64, L_65, L_90, L_95, L_96, L_97, L_122, L_123, L_125, L_200, L_255, L_300, L_500, L_576, L_600, L_601, L_602, L_1200, L_1800, L_2400, L_3000, L_4000, L_4096, L_5000, L_30000, L_50000, L_60000, L_70000, L_100000, L_200000, L_1000000, L_1000001, nI_add, hen]
            · simp (disch := omega) only [s_IJ, s_IA, s_IB, s_IM, s_JI, s_JA, s_JB, s_JM, s_AI, s_AJ, s_AB, s_AM, s_BI, s_BJ, s_BA, s_BM, s_MI, s_MJ, s_MA, s_MB, s_II_s, s_II_n, s_JJ_s, s_JJ_n, s_AA_s, s_AA_n, s_BB_s, s_BB_n, s_MM_s, s_MM_n, pk_us, pk_un, pk_uLs, pk_uLn, hsr, ht]
            · simp (disch := omega) only [s_IJ, s_IA, s_IB, s_IM, s_JI, s_JA, s_JB, s_JM, s_AI, s_AJ, s_AB, s_AM, s_BI, s_BJ, s_BA, s_BM, s_MI, s_MJ, s_MA, s_MB, s_II_s, s_II_n, s_JJ_s, s_JJ_n, s_AA_s, s_AA_n, s_BB_s, s_BB_n, s_MM_s, s_MM_n, pk_us, pk_un, pk_uLs, pk_uLn, g3]
            · intro z; rw [hsr] at z; exact absurd z hns.1
            · intro z; rw [hsr] at z; exact absurd z hns.2.1
            · intro z; rw [hsr] at z; exact absurd z hns.2.2
          by_cases g10 : cd l b = 10
          · rw [if_pos g10] at hrs ⊢; exact go 59 hrs.symm
          · rw [if_neg g10] at hrs ⊢
            by_cases gs : isSg (cd l b) = true
            · rw [if_pos gs] at hrs ⊢
              rw [cI_lt hc] at go ⊢; exact go _ hrs.symm
            · rw [if_neg gs] at hrs ⊢; exact go 4 hrs.symm
  · have hbl2 : b = l.length := by omega
    have hcd : cd l b = 256 := cd_ge q
    have hsr : sr l b = 0 := (sr_0 hb6 b).mpr q
    have hen : en l b = b := by unfold en; rw [List.drop_eq_nil_of_le q]; rfl
    rw [hcd, if_neg (by decide), if_neg (by decide), if_neg (by decide), if_neg (by decide), if_pos rfl]
    refine ⟨_, r_325b, ⟨?_, ?_, ?_, ?_, ?_, ?_⟩, fr_uI (fz (nI 0)) (by simp)⟩
    · rw [s_II_s]; simp (disch := omega) only [s_IJ, s_IA, s_IB, s_IM, s_JI, s_JA, s_JB, s_JM, s_AI, s_AJ, s_AB, s_AM, s_BI, s_BJ, s_BA, s_BM, s_MI, s_MJ, s_MA, s_MB, s_II_s, s_II_n, s_JJ_s, s_JJ_n, s_AA_s, s_AA_n, s_BB_s, s_BB_n, s_MM_s, s_MM_n, pk_us, pk_un, pk_uLs, pk_uLn, g1, ↓L_m1, L_0, L_1, L_2, L_3, L_4, L_5, L_6, L_7, L_8, L_9, L_10, L_11, L_12, L_13, L_14, L_15, L_16, L_17, L_18, L_19, L_20, L_21, L_22, L_23, L_24, L_31, L_32, L_33, L_35, L_37, L_40, L_41, L_42, L_43, L_44, L_45, L_46, L_47, L_48, L_57, L_58, L_59, L_61, L_63, L_64, L_65, L_90, L_95, L_96, L_97, L_122, L_123, L_125, L_200, L_255, L_300, L_500, L_576, L_600, L_601, L_602, L_1200, L_1800, L_2400, L_3000, L_4000, L_4096, L_5000, L_30000, L_50000, L_60000, L_70000, L_100000, L_200000, L_1000000, L_1000001, nI_add, hen, Nat.add_zero]
    · simp (disch := omega) only [s_IJ, s_IA, s_IB, s_IM, s_JI, s_JA, s_JB, s_JM, s_AI, s_AJ, s_AB, s_AM, s_BI, s_BJ, s_BA, s_BM, s_MI, s_MJ, s_MA, s_MB, s_II_s, s_II_n, s_JJ_s, s_JJ_n, s_AA_s, s_AA_n, s_BB_s, s_BB_n, s_MM_s, s_MM_n, pk_us, pk_un, pk_uLs, pk_uLn, hsr]; rfl
    · simp (disch := omega) only [s_IJ, s_IA, s_IB, s_IM, s_JI, s_JA, s_JB, s_JM, s_AI, s_AJ, s_AB, s_AM, s_BI, s_BJ, s_BA, s_BM, s_MI, s_MJ, s_MA, s_MB, s_II_s, s_II_n, s_JJ_s, s_JJ_n, s_AA_s, s_AA_n, s_BB_s, s_BB_n, s_MM_s, s_MM_n, pk_us, pk_un, pk_uLs, pk_uLn, g3]
    · intro z; omega
    · intro z; omega
    · intro z; omega
end P56
