/-! THE TAPE: what is fed, a name on it, words of the out -/
theorem sshr_b {w j : Nat} (hj : j < 8) : ((lN w >>> ((nI (8 * j)).toInt64 &&& 63)) &&& 255).toInt32 = nI (w / 2 ^ (8 * j) % 256) := by
  have e : (lN w >>> ((nI (8 * j)).toInt64 &&& 63)) &&& 255 = lN (w / 2 ^ (8 * j) % 2 ^ 8) := by
    apply wb_inj
    apply BitVec.eq_of_getLsbD_eq
    intro i hi
    have e1 : (lN w >>> ((nI (8 * j)).toInt64 &&& 63)).toBitVec = (BitVec.ofNat 64 w).sshiftRight (8 * j) := by
      rw [Int64.toBitVec_shiftRight]
      show (BitVec.ofNat 64 w).sshiftRight (((nI (8 * j)).toInt64 &&& 63).toBitVec.smod 64).toNat = _
      rw [shc8 j hj]
    rw [Int64.toBitVec_and, e1, BitVec.getLsbD_and, BitVec.getLsbD_sshiftRight, show (255 : Int64).toBitVec = 255#64 from rfl, (by decide +kernel : ∀ i, i < 64 → (255#64 : BitVec 64).getLsbD i = decide (i < 8)) i hi, wb_tb, BitVec.getLsbD_ofNat, BitVec.getLsbD_ofNat, Nat.testBit_mod_two_pow, Nat.testBit_div_two_pow]
    by_cases q : i < 8
    · simp [q, hi, show ¬ 64 ≤ i by omega, show i + 8 * j < 64 by omega, Nat.add_comm]
    · simp [q]
  rw [e, lN_i]
theorem lx_le {a b : Nat} (ha : a < 2 ^ 63) (hb : b < 2 ^ 63) : lN a ≤ lN b ↔ a ≤ b := by
  rw [Int64.le_iff_toInt_le, pf_lI ha, pf_lI hb]; omega
theorem lx_lt {a b : Nat} (ha : a < 2 ^ 63) (hb : b < 2 ^ 63) : lN a < lN b ↔ a < b := by
  rw [Int64.lt_iff_toInt_lt, pf_lI ha, pf_lI hb]; omega
theorem nn_of {a : Int32} (h : 0 ≤ a.toInt) : ∃ k, k < 2 ^ 31 ∧ a = nI k := by
  have := Int32.toInt_lt a
  refine ⟨a.toInt.toNat, by omega, Int32.toInt_inj.mp ?_⟩
  rw [nI_toInt (by omega)]; omega
section P96a
variable {n : Nat} {σ σc σr : ej_S} {l : List Nat} {fs : Nat → List Nat}
theorem RTX_put {b : Nat} (h : RTX σ 4 l) (hl : l.length < 600) (hb : b < 256) (hf : ∀ f, f < 4 → RTX σ f (fs f)) : RTX (uA (uA σ 0 (2400 + l.length) (nI b)) 1 4 (nI (l.length + 1))) 4 (l ++ [b]) ∧ fr [] [] [0, 1] [] [] σ (uA (uA σ 0 (2400 + l.length) (nI b)) 1 4 (nI (l.length + 1))) ∧ ∀ f, f < 4 → RTX (uA (uA σ 0 (2400 + l.length) (nI b)) 1 4 (nI (l.length + 1))) f (fs f) := by
  refine ⟨⟨?_, ?_, ?_, ?_⟩, fr_uA (fr_uA fr_rf (by simp)) (by simp), ?_⟩
  · rw [s_AA_s, pk_us, List.length_append]; rfl
  · rw [List.length_append]; exact hl
  · intro i hi
    rw [List.length_append] at hi
    rw [s_AA_n (by omega), s_AA_s, cd_app]
    split
    · rename_i q
      rw [pk_un (by omega)]; exact h.2.2.1 i q
    · have e : i = l.length := by simp at hi; omega
      subst e
      rw [pk_us, if_pos rfl]
  · intro z hz
    rcases List.mem_append.mp hz with q | q
    · exact h.2.2.2 z q
    · rw [List.mem_singleton.mp q]; exact hb
  · intro f hf4
    obtain ⟨h1, h2, h3, h4⟩ := hf f hf4
    refine ⟨?_, h2, ?_, h4⟩
    · rw [s_AA_s, pk_un (by omega), s_AA_n (by omega)]; exact h1
    · intro i hi
      rw [s_AA_n (by omega), s_AA_s, pk_un (by omega)]; exact h3 i hi
theorem s_feed {w m : Nat} (hw : w < 2 ^ 64) (hm : m ≤ 8) : ∀ (k j : Nat) (l : List Nat) (σc σr : ej_S), j ≤ m → m - j < k → TX σc 0 l → RTX σr 4 l → l.length + (m - j) ≤ 600 → (∀ f, f < 4 → RTX σr f (fs f)) → ∃ l' σc' σr', m10_feed_49 n k (lN w) (nI m) (nI j) σc = some (.inl (nI l'.length, σc')) ∧ m11_feed_45 n k (lN w) (nI m) (nI j) σr = some (nI l'.length, σr') ∧ TX σc' 0 l' ∧ RTX σr' 4 l' ∧ fr [0] [] [0] [] [] σc σc' ∧ fr [] [] [0, 1] [] [] σr σr' ∧ ∀ f, f < 4 → RTX σr' f (fs f) := by
  intro k
  induction k with
  | zero => intro j l σc σr _ h; omega
  | succ k ih =>
    intro j l σc σr hj hk hT hR hl hf
    rw [u_10_feed_49, u_11_feed_45]
    rcases Nat.lt_or_ge j m with q | q
    · rw [ile_f q (by omega), ile_f q (by omega)]
      have hb : w / 2 ^ (8 * j) % 256 < 256 := Nat.mod_lt _ (by omega)
      obtain ⟨c1, e1, t1, f1⟩ := x_append (n := n) (t := 0) (v := nI (w / 2 ^ (8 * j))) hT (show l.length < cw_tl 0 by show l.length < 600; omega) hb (by rw [show (255 : Nat) = 2 ^ 8 - 1 from rfl, fa_mask])
      obtain ⟨t2, f2, t3⟩ := RTX_put hR (show l.length < 600 by omega) hb hf
      obtain ⟨l', c2, r2, a1, a2, a3, a4, a5, a6, a7⟩ := ih (j + 1) (l ++ [w / 2 ^ (8 * j) % 256]) c1 _ q (by omega) t1 t2 (by rw [List.length_append]; simp; omega) t3
      refine ⟨l', c2, r2, ?_, ?_, a3, a4, fr_tr f1 a5, fr_tr f2 a6, a7⟩
      · rw [L_8, pk_mul, wb_shr hw (by omega), lN_i, e1, ej_bv_s, ej_nm_e, L_1, nI_add]
        exact a1
      · have h14 : gA σr 1 4 = nI l.length := hR.1
        simp (disch := omega) only [↓L_m1, L_0, L_1, L_2, L_3, L_4, L_5, L_6, L_7, L_8, L_9, L_10, L_11, L_12, L_13, L_14, L_15, L_16, L_17, L_18, L_19, L_20, L_21, L_22, L_23, L_24, L_31, L_32, L_33, L_35, L_37, L_40, L_41, L_42, L_43, L_44, L_45, L_46, L_47, L_48, L_57, L_58, L_59, L_61, L_63, L_64, L_65, L_90, L_95, L_96, L_97, L_122, L_123, L_125, L_200, L_255, L_300, L_500, L_576, L_600, L_601, L_602, L_1200, L_1800, L_2400, L_3000, L_4000, L_4096, L_5000, L_30000, L_50000, L_60000, L_70000, L_100000, L_200000, L_1000000, L_1000001, ck_t, nI_clamp, h14, nI_add, pk_mul, ej_nm_e, s_AA_n, sshr_b]
        exact a2
    · have e : j = m := by omega
      subst e
      rw [ile_t (Nat.le_refl _) (by omega), ile_t (Nat.le_refl _) (by omega)]
      have h14 : gA σr 1 4 = nI l.length := hR.1
      refine ⟨l, σc, σr, ?_, ?_, hT, hR, fr_rf, fr_rf, hf⟩
      · unfold m7_length
        rw [ej_bi_s, hT.1]
      · simp (disch := omega) only [↓L_m1, L_0, L_1, L_2, L_3, L_4, L_5, L_6, L_7, L_8, L_9, L_10, L_11, L_12, L_13, L_14, L_15, L_16, L_17, L_18, L_19, L_20, L_21, L_22, L_23, L_24, L_31, L_32, L_33, L_35, L_37, L_40, L_41, L_42, L_43, L_44, L_45, L_46, L_47, L_48, L_57, L_58, L_59, L_61, L_63, L_64, L_65, L_90, L_95, L_96, L_97, L_122, L_123, L_125, L_200, L_255, L_300, L_500, L_576, L_600, L_601, L_602, L_1200, L_1800, L_2400, L_3000, L_4000, L_4096, L_5000, L_30000, L_50000, L_60000, L_70000, L_100000, L_200000, L_1000000, L_1000001, ck_t, nI_clamp, h14]
/-- the tape as a name, by the reference -/
theorem r_tp0 (k : Nat) (y5 y8 : Int32) (y6 : Int64) : m11_taped_55 n (k + 1) y5 y6 (nI 0) y8 σ = some (0, σ) := by
  rw [u_11_taped_55, L_0, if_pos rfl, if_pos rfl, ite_self]
theorem r_taped_55 (h : RS σ 4 l) (h8 : l.length ≤ 8) : ∀ (k j : Nat), j ≤ l.length → l.length - j < k → m11_taped_55 n k (nI l.length) (lN (pkL (l.take j))) (nI 1) (nI j) σ = some (lN (if (l.drop j).all isNP = true then pkL l else 0), σ) := by
  intro k
  induction k with
  | zero => intro j _ h; omega
  | succ k ih =>
    intro j hj hk
    rw [u_11_taped_55]
    rcases Nat.lt_or_ge j l.length with q | q
    · have hb := h.2.2.2.2.2
      have hc := cd_b hb q
      rw [ile_f q (by omega), L_0, if_neg n10, r_code h (by omega), ej_bi_s, r_goesOn (cd_7 hb j), ej_bi_s, r_code h (by omega), ej_bi_s, ej_nm_e, L_8, pk_mul, cI_lt hc]
      have hW : ∀ b ∈ l.take j, b < 256 := fun b z => hb b (List.mem_of_mem_take z)
      have hlen : (l.take j).length = j := by rw [List.length_take]; omega
      have e := name_or hW hc (by omega : (l.take j).length < 8)
      rw [hlen] at e
      have e2 : l.take j ++ [cd l j] = l.take (j + 1) := by
        have := pkL_take (l := l) (b := 0) (j := j) (by omega)
        rw [List.drop_zero, Nat.zero_add] at this
        exact this.symm
      rw [e, e2, ej_nm_e, L_1, nI_add, cd_drop q, List.all_cons]
      by_cases g : isNP (cd l j) = true
      · rw [g, bI_t, Bool.true_and]
        exact ih (j + 1) q (by omega)
      · have g' : isNP (cd l j) = false := by cases h : isNP (cd l j) <;> simp_all
        rw [g', bI_f, Bool.false_and, if_neg (by decide)]
        obtain ⟨k', rfl⟩ : ∃ k', k = k' + 1 := ⟨k - 1, by omega⟩
        exact r_tp0 _ _ _ _
    · rw [ile_t q (by omega), L_0, if_neg n10, List.drop_eq_nil_of_le q, List.take_of_length_le q]
      rfl
theorem r_taped (hn : 2000 < n) (hR : RTX σ 4 l) : m11_taped n σ = some (lN (asN l), uI σ 0 (nI 4)) := by
  have f0 : fr [0] [] [] [] [] σ (uI σ 0 (nI 4)) := fr_uI fr_rf (by simp)
  have h : RS (uI σ 0 (nI 4)) 4 l := ⟨s_II_s, by omega, RTX_fr hR f0 (by simp) (by simp)⟩
  have h600 := hR.2.1
  have hb := hR.2.2.2
  obtain ⟨m, hm⟩ : ∃ m, n = m + 1 := ⟨n - 1, by omega⟩
  unfold m11_taped
  simp (disch := omega) only [↓L_m1, L_0, L_1, L_2, L_3, L_4, L_5, L_6, L_7, L_8, L_9, L_10, L_11, L_12, L_13, L_14, L_15, L_16, L_17, L_18, L_19, L_20, L_21, L_22, L_23, L_24, L_31, L_32, L_33, L_35, L_37, L_40, L_41, L_42, L_43, L_44, L_45, L_46, L_47, L_48, L_57, L_58, L_59, L_61, L_63, L_64, L_65, L_90, L_95, L_96, L_97, L_122, L_123, L_125, L_200, L_255, L_300, L_500, L_576, L_600, L_601, L_602, L_1200, L_1800, L_2400, L_3000, L_4000, L_4096, L_5000, L_30000, L_50000, L_60000, L_70000, L_100000, L_200000, L_1000000, L_1000001, ej_nm_e, ck_t, nI_clamp, h.2.2.1, v_isIn, ej_bi_s]
  have z0 : ∀ y5 y8 y6, m11_taped_55 n n y5 y6 (nI 0) y8 (uI σ 0 (nI 4)) = some (0, uI σ 0 (nI 4)) := by
    intro y5 y8 y6
    conv => lhs; arg 2; rw [hm]
    exact r_tp0 _ _ _ _
  rcases Nat.eq_zero_or_pos l.length with q | q
  · have e : asN l = 0 := by
      unfold asN
      rw [if_neg]
      rintro ⟨_, z, _⟩
      rw [cd_ge (by omega)] at z
      exact absurd z (by decide)
    rw [q, ilt_t (by omega) (by omega), if_pos rfl, e]
    exact z0 _ _ _
  · rw [ilt_f q (by omega)]
    rcases Nat.lt_or_ge 8 l.length with q2 | q2
    · have e : asN l = 0 := by
        unfold asN
        rw [if_neg (fun z => by omega)]
      rw [ilt_t q2 (by omega), if_pos rfl, e]
      exact z0 _ _ _
    · rw [ilt_f q2 (by omega), if_neg n10]
      have hc7 := cd_7 hb 0
      rw [r_code h (by omega), ej_bi_s, r_isSmall hc7, ej_bi_s, ibI, r_code h (by omega), ej_bi_s]
      have go := r_taped_55 (n := n) h q2 n 0 (Nat.zero_le _) (by omega)
      have p0 : lN (pkL (l.take 0)) = 0 := rfl
      rw [p0, List.drop_zero] at go
      have eas : asN l = if isNS (cd l 0) = true then (if l.all isNP = true then pkL l else 0) else 0 := by
        unfold asN
        by_cases a1 : isNS (cd l 0) = true <;> by_cases a2 : l.all isNP = true <;> simp [a1, a2, q2]
      rw [eas, isNS_sm]
      by_cases g : isSm (cd l 0) = true
      · rw [if_pos g, g, Bool.true_or, if_pos rfl]
        exact go
      · have g' : isSm (cd l 0) = false := by cases h : isSm (cd l 0) <;> simp_all
        rw [if_neg g, g', Bool.false_or]
        by_cases g2 : cd l 0 = 46
        · rw [if_pos ((cI_eq hc7 (by omega)).mpr g2), if_pos (by rw [g2]; rfl)]
          exact go
        · rw [if_neg (fun z => g2 ((cI_eq hc7 (by omega)).mp z)), if_neg (by simp [g2])]
          exact z0 _ _ _
/-- words of the out -/
theorem s_word_18 {a : Nat} (ha : a < 1200) (hT : TX σc 1 l) (hR : RX σr l) : ∀ (k j : Nat) (v : Int64), j ≤ 8 → 8 - j < k → ∃ w, m10_word_18 n k (nI a) v (nI j) σc = some (w, σc) ∧ m11_word_10 n k (nI a) v (nI j) σr = some (w, σr) := by
  have hl : l.length ≤ 1200 := hT.2.1
  intro k
  induction k with
  | zero => intro j v _ h; omega
  | succ k ih =>
    intro j v hj hk
    rw [u_10_word_18, u_11_word_10]
    rcases Nat.lt_or_ge j 8 with q | q
    · have x5 : (8 : Int64) * (nI a).toInt64 + (nI j).toInt64 = lN (8 * a + j) := by
        rw [nI_l (by omega), nI_l (by omega), show (8 : Int64) = lN 8 from rfl, lN_mul, lN_add]
      have hneg : ¬ lg_cmp (lN (8 * a + j)) 0 < 0 := by
        rw [cmp_lt, show (0 : Int64) = lN 0 from rfl, lx_lt (by omega) (by omega)]; omega
      rw [x5, ej_nm_e, if_neg hneg, hR.1, nI_l (show l.length < 2 ^ 31 by omega), L_8, ile_f q (by omega), ile_f q (by omega), pk_mul, nI_add, x_byteAt hT (by omega), ej_bi_s, L_m1]
      rcases Nat.lt_or_ge (8 * a + j) l.length with q2 | q2
      · have hc := cd_b hT.2.2.2 q2
        have h2 : ¬ 0 ≤ lg_cmp (lN (8 * a + j)) (lN l.length) := by
          rw [cmp_ge, lx_le (by omega) (by omega)]; omega
        obtain ⟨w, a1, a2⟩ := ih (j + 1) (v ||| ((nI (cd l (8 * a + j))).toInt64 <<< ((nI 8 * nI j).toInt64 &&& 63))) q (by omega)
        refine ⟨w, ?_, ?_⟩
        · rw [cI_lt hc, ieq_m (by omega), ej_nm_e, ej_nm_e, L_1, nI_add]
          exact a1
        · rw [if_neg h2, lN_i, ck_t (show 8 * a + j < 4096 by omega) (by omega), nI_clamp (by omega), hR.2.2.1 _ q2, ej_nm_e, ej_nm_e, L_1, nI_add]
          exact a2
      · have h2 : 0 ≤ lg_cmp (lN (8 * a + j)) (lN l.length) := by
          rw [cmp_ge, lx_le (by omega) (by omega)]; exact q2
        obtain ⟨w, a1, a2⟩ := ih (j + 1) v q (by omega)
        refine ⟨w, ?_, ?_⟩
        · rw [cd_ge q2, cI_256, if_pos rfl, ej_nm_e, L_1, nI_add]
          exact a1
        · rw [if_pos h2, ej_nm_e, ej_nm_e, L_1, nI_add, Int64.or_zero]
          exact a2
    · rw [L_8, ile_t q (by omega), ile_t q (by omega)]
      exact ⟨v, rfl, rfl⟩
theorem r_word_skip {y : Int32} (h : ∀ j, j < 8 → lg_cmp ((8 : Int64) * y.toInt64 + (nI j).toInt64) 0 < 0 ∨ 0 ≤ lg_cmp ((8 : Int64) * y.toInt64 + (nI j).toInt64) ((gI σ 18).toInt64)) : ∀ (k j : Nat) (v : Int64), j ≤ 8 → 8 - j < k → m11_word_10 n k y v (nI j) σ = some (v, σ) := by
  intro k
  induction k with
  | zero => intro j v _ h; omega
  | succ k ih =>
    intro j v hj hk
    rw [u_11_word_10]
    rcases Nat.lt_or_ge j 8 with q | q
    · have go := ih (j + 1) v q (by omega)
      rw [ej_nm_e]
      by_cases g : lg_cmp ((8 : Int64) * y.toInt64 + (nI j).toInt64) 0 < 0
      · rw [if_pos g, L_8, ile_f q (by omega), ej_nm_e, ej_nm_e, L_1, nI_add, Int64.or_zero]
        exact go
      · rcases h j q with z | z
        · exact absurd z g
        · rw [if_neg g, if_pos z, L_8, ile_f q (by omega), ej_nm_e, ej_nm_e, L_1, nI_add, Int64.or_zero]
          exact go
    · rw [L_8, ile_t q (by omega)]
theorem s_word (hn : 2000 < n) (i : Int32) (hT : TX σc 1 l) (hR : RX σr l) : ∃ w, m10_word n i σc = some (w, σc) ∧ m11_word n i σr = some (w, uI σr 19 (nI 0)) := by
  have hl : l.length ≤ 1200 := hT.2.1
  have f0 : fr [19] [] [] [] [] σr (uI σr 19 (nI 0)) := fr_uI fr_rf (by simp)
  have hR' : RX (uI σr 19 (nI 0)) l := RX_fr hR f0 (by simp) (by simp)
  have h64 : i.toInt64.toInt = i.toInt := Int32.toInt_toInt64 i
  have hlt := Int32.toInt_lt i
  have hge := Int32.le_toInt i
  unfold m10_word m11_word
  rw [ej_nm_e, L_0]
  have mul : ∀ j, j < 8 → ((8 : Int64) * i.toInt64 + (nI j).toInt64).toInt = 8 * i.toInt + j := by
    intro j hj
    rw [Int64.toInt_add, Int64.toInt_mul, h64, Int32.toInt_toInt64, nI_toInt (by omega), show (8 : Int64).toInt = 8 from rfl, Int.bmod_eq_of_le (n := 8 * i.toInt) (by omega) (by omega), Int.bmod_eq_of_le (by omega) (by omega)]
  by_cases g : i < nI 0
  · rw [if_pos g]
    have g' : i.toInt < 0 := by
      rw [Int32.lt_iff_toInt_lt, nI_toInt (by omega)] at g; exact g
    refine ⟨0, rfl, r_word_skip (fun j hj => .inl ?_) n 0 0 (by omega) (by omega)⟩
    rw [cmp_lt, Int64.lt_iff_toInt_lt, mul j hj]
    show _ < (0 : Int)
    omega
  · rw [if_neg g]
    have g' : 0 ≤ i.toInt := by
      rw [Int32.lt_iff_toInt_lt, nI_toInt (by omega)] at g
      simpa using g
    obtain ⟨a, ha, rfl⟩ := nn_of g'
    rcases Nat.lt_or_ge a 1200 with q | q
    · rw [L_1200, ilt_t q (by omega)]
      exact s_word_18 q hT hR' n 0 0 (by omega) (by omega)
    · rw [L_1200, ilt_f q (by omega)]
      refine ⟨0, rfl, r_word_skip (fun j hj => .inr ?_) n 0 0 (by omega) (by omega)⟩
      rw [cmp_ge, s_II_n (by omega), hR.1, Int64.le_iff_toInt_le, mul j hj, Int32.toInt_toInt64, nI_toInt (by omega), nI_toInt (by omega)]
      omega
end P96a
