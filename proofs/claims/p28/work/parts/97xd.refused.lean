/-! WHAT IS REFUSED LEAVES ALL -/
def tfp : Nat → List Nat
  | 0 => []
  | k + 1 => 97 :: 32 :: 98 :: 59 :: tfp k
theorem tfp_snoc : ∀ k, tfp k ++ [97, 32, 98, 59] = tfp (k + 1)
  | 0 => rfl
  | k + 1 => by show 97 :: 32 :: 98 :: 59 :: (tfp k ++ [97, 32, 98, 59]) = _; rw [tfp_snoc k]; rfl
theorem tfp_tf (b : Nat) : ∀ k, tfp k ++ [b] = tf b k
  | 0 => rfl
  | k + 1 => by show 97 :: 32 :: 98 :: 59 :: (tfp k ++ [b]) = _; rw [tfp_tf b k]; rfl
theorem tfp_len : ∀ k, (tfp k).length = 4 * k
  | 0 => rfl
  | k + 1 => by show (tfp k).length + 4 = _; rw [tfp_len k]; omega
section P97xd
variable {n a k x j : Nat} {y no fl : Int32} {σ0 c τ : ej_S} {fs : Nat → List Nat} {tp ot : List Nat} {D : Nat → Nat} {was : Int64}
/-- what the law needs to know for it -/
def RFH (n : Nat) (σ0 τ : ej_S) (D : Nat → Nat) (was : Int64) : Prop := 200000000000000 < n ∧ SD σ0 D ∧ Z0 D ∧ wfR σ0 ∧ NN σ0 ≤ 10 ∧ gA τ 2 2 = nI (NN σ0) ∧ ∀ fs tp ot c, IQ n fs σ0 tp ot c → ∃ c', IQ n fs σ0 tp ot c' ∧ mL_all n (c, τ) = some (was, (c', τ))
theorem RFH.hn (h : RFH n σ0 τ D was) : 200000000000000 < n := h.1
theorem RFH.hS (h : RFH n σ0 τ D was) : SD σ0 D := h.2.1
theorem RFH.hz (h : RFH n σ0 τ D was) : Z0 D := h.2.2.1
theorem RFH.hw (h : RFH n σ0 τ D was) : wfR σ0 := h.2.2.2.1
theorem RFH.N10 (h : RFH n σ0 τ D was) : NN σ0 ≤ 10 := h.2.2.2.2.1
theorem RFH.h2 (h : RFH n σ0 τ D was) : gA τ 2 2 = nI (NN σ0) := h.2.2.2.2.2.1
theorem RFH.hall (h : RFH n σ0 τ D was) : ∀ fs tp ot c, IQ n fs σ0 tp ot c → ∃ c', IQ n fs σ0 tp ot c' ∧ mL_all n (c, τ) = some (was, (c', τ)) := h.2.2.2.2.2.2
theorem n2k (h : RFH n σ0 τ D was) : 2000 < n := by have := h.hn; omega
theorem F552 (h : RFH n σ0 τ D was) (hc : IQ n fs σ0 tp ot c) : ∃ c', IQ n fs σ0 tp ot c' ∧ mL_isRefused_552 n was 1 (c, τ) = some (nI 1, (c', τ)) := by
  obtain ⟨c1, i1, e1⟩ := h.hall fs tp ot c hc
  refine ⟨c1, i1, ?_⟩
  unfold mL_isRefused_552
  rw [if_neg (by decide), e1, ej_bl_s, if_pos ((cmp_eq _ _).mpr rfl), L_1]
theorem neg_lt {k : Nat} (hk : k < 1000) : (-1 : Int32) - nI k < nI 0 := by
  rw [Int32.lt_iff_toInt_lt, nI_toInt (by omega)]
  have e : ((-1 : Int32) - nI k).toInt = -1 - (k : Int) := by
    rw [fb_subI (by rw [nI_toInt (by omega), show (-1 : Int32).toInt = -1 by decide +kernel]; omega) (by rw [nI_toInt (by omega), show (-1 : Int32).toInt = -1 by decide +kernel]; omega), nI_toInt (by omega), show (-1 : Int32).toInt = -1 by decide +kernel]
  rw [e]; omega
theorem F457 (h : RFH n σ0 τ D was) (hx : x < 2 ^ 31) : ∀ (fu a : Nat) (c : ej_S), IQ n fs σ0 tp ot c → a ≤ NN σ0 → NN σ0 - a < fu → ∃ c', IQ n fs σ0 tp ot c' ∧ mL_isRefused_457 n fu (nI x) was 1 (nI a) (c, τ) = some (nI 1, (c', τ)) := by
  intro fu
  induction fu with
  | zero => intro a c _ _ z; omega
  | succ fu ih =>
    intro a c hc ha hf
    have N10 := h.N10
    have m2 : ∀ c : ej_S, gA ((c, τ) : lw_S).2 2 2 = nI (NN σ0) := fun c => h.h2
    rw [u_L_isRefused_457, L_2, ck_t (by omega) (by omega), nI_clamp (by omega), m2]
    rcases Nat.eq_or_lt_of_le ha with rfl | q
    · obtain ⟨c1, i1, e1⟩ := F552 (fs := fs) (tp := tp) (ot := ot) h hc
      exact ⟨c1, i1, by rw [ile_t (Nat.le_refl _) (by omega), e1]⟩
    · have hm : x % 30 < 30 := Nat.mod_lt _ (by omega)
      have bd : D (4 * a) < iF → D (4 * a) % 1024 ≤ 95 := fun z => (OKD_bd h.hS.2.1 (show 4 * a < 96 by omega) z).2
      have so : ∀ z, os D a = z → oI z + 1 = nI (if D (4 * a) < iF then D (4 * a) % 1024 + 1 else 0) := by
        intro z ez
        subst ez
        by_cases fa : D (4 * a) < iF
        · rw [show os D a = some (D (4 * a) % 1024) from if_pos fa, if_pos fa]
          exact p_1 _
        · rw [show os D a = none from if_neg fa, if_neg fa]
          decide +kernel
      obtain ⟨c1, i1, e1⟩ := of_place (n := n) (fs := fs) (tp := tp) (ot := ot) (what := 9) (y := (-1) - nI (x % 30)) (n2k h) h.hS h.hz q (.inl (neg_lt (by omega))) (by omega) hc
      obtain ⟨c2, i2, e2⟩ := a_steps (n := n) (fs := fs) (tp := tp) (ot := ot) (n2k h) h.hS h.hz q c1 i1
      obtain ⟨c3, i3, e3⟩ := of_place (n := n) (fs := fs) (tp := tp) (ot := ot) (what := 10) (y := nI (if D (4 * a) < iF then D (4 * a) % 1024 + 1 else 0)) (n2k h) h.hS h.hz q (.inr ⟨_, rfl, fun z => (by rw [if_pos z]; omega), by split <;> omega⟩) (by omega) i2
      obtain ⟨c4, i4, e4⟩ := a_steps (n := n) (fs := fs) (tp := tp) (ot := ot) (n2k h) h.hS h.hz q c3 i3
      obtain ⟨c5, i5, e5⟩ := of_place (n := n) (fs := fs) (tp := tp) (ot := ot) (what := 11) (y := nI ((if D (4 * a) < iF then D (4 * a) % 1024 + 1 else 0) + x % 30)) (n2k h) h.hS h.hz q (.inr ⟨_, rfl, fun z => (by rw [if_pos z]; omega), by split <;> omega⟩) (by omega) i4
      obtain ⟨c6, i6, e6⟩ := ih (a + 1) c5 i5 q (by omega)
      refine ⟨c6, i6, ?_⟩
      rw [ile_f q (by omega), if_neg (by decide), L_30, pk_div (by omega) (by omega) (by omega), pk_mul, pk_sub (Nat.div_mul_le_self _ _), show x - x / 30 * 30 = x % 30 by omega, show (9 : Int32) = nI 9 from L_9, e1 τ, ej_bi_s, if_pos rfl, e2 τ, ej_bi_s, so _ rfl, show (10 : Int32) = nI 10 from L_10, e3 τ, ej_bi_s, if_pos rfl, e4 τ, ej_bi_s, so _ rfl, nI_add, show (11 : Int32) = nI 11 from L_11, e5 τ, ej_bi_s, if_pos rfl, p_1, ej_nm_e, e6]
theorem F380 (h : RFH n σ0 τ D was) (hx : x < 2 ^ 31) (hb : badN σ0 no) : ∀ (fu w : Nat) (c : ej_S), IQ n fs σ0 tp ot c → w ≤ 14 → 14 - w < fu → ∃ c', IQ n fs σ0 tp ot c' ∧ mL_isRefused_380 n fu (nI x) no was 1 (nI w) (c, τ) = some (nI 1, (c', τ)) := by
  intro fu
  induction fu with
  | zero => intro w c _ _ z; omega
  | succ fu ih =>
    intro w c hc hw hf
    have L14 : (14 : Int32) = nI 14 := L_14
    rw [u_L_isRefused_380]
    rcases Nat.eq_or_lt_of_le hw with rfl | q
    · have N10 := h.N10
      obtain ⟨c1, i1, e1⟩ := F457 (fs := fs) (tp := tp) (ot := ot) h hx 12 0 c hc (Nat.zero_le _) (by omega)
      exact ⟨c1, i1, by rw [L_14, ile_t (Nat.le_refl _) (by omega), L_0, e1]⟩
    · obtain ⟨c1, i1, e1⟩ := of_node (n := n) (fs := fs) (tp := tp) (ot := ot) (n2k h) hb q 0 hc
      rw [L14, ile_f q (by omega), if_neg (by decide), e1 τ, ej_bi_s, if_pos rfl]
      have two : (w = 3 ∨ w = 4 ∨ w = 12) → ∃ c', IQ n fs σ0 tp ot c' ∧ mL_isRefused_426 n (mL_isRefused_380 n fu) (nI x) no was (nI w) (c1, τ) = some (nI 1, (c', τ)) := by
        intro z
        obtain ⟨c2, i2, e2⟩ := of_other (n := n) (fs := fs) (tp := tp) (ot := ot) (n2k h) hb z i1
        obtain ⟨c3, i3, e3⟩ := ih (w + 1) c2 i2 q (by omega)
        refine ⟨c3, i3, ?_⟩
        unfold mL_isRefused_426
        rw [e2 τ, ej_bi_s, if_pos rfl, p_1, ej_nm_e, e3]
      rw [show (3 : Int32) = nI 3 from L_3, show (4 : Int32) = nI 4 from L_4, show (12 : Int32) = nI 12 from L_12]
      by_cases z3 : w = 3
      · rw [ieq_t z3]; exact two (.inl z3)
      · rw [ieq_f z3 (by omega) (by omega)]
        by_cases z4 : w = 4
        · rw [ieq_t z4]; exact two (.inr (.inl z4))
        · rw [ieq_f z4 (by omega) (by omega)]
          by_cases z12 : w = 12
          · rw [ieq_t z12]; exact two (.inr (.inr z12))
          · obtain ⟨c3, i3, e3⟩ := ih (w + 1) c1 i1 q (by omega)
            exact ⟨c3, i3, by rw [ieq_f z12 (by omega) (by omega), p_1, ej_nm_e, e3]⟩
theorem F322 (h : RFH n σ0 τ D was) (hx : x < 2 ^ 31) (hb : badN σ0 no) (hc : IQ n fs σ0 [] ot c) : ∃ c', IQ n fs σ0 [] ot c' ∧ mL_isRefused_322 n (nI x) no was 1 (c, τ) = some (nI 1, (c', τ)) := by
  obtain ⟨c1, i1, e1⟩ := a_feed (n := n) (W := 1481452343) (m := 4) (n2k h) (by omega) (by omega) (show ([] : List Nat).length + 4 ≤ 600 by decide) c hc
  rw [show ([] : List Nat) ++ fbs 1481452343 4 0 = [55, 43, 77, 88] by decide +kernel] at i1
  obtain ⟨c2, i2, e2⟩ := a_valueF (n := n) (u := 3) (v := 2) (n2k h) (show sld [55, 43, 77, 88] from rfl) (fun s rs rd hw => V_word (n2k h) rs rd hw) c1 i1
  obtain ⟨c3, i3, e3⟩ := a_fault0 i2
  obtain ⟨c4, i4, e4⟩ := a_fault1 i3
  obtain ⟨c5, i5, e5⟩ := F380 (fs := fs) (ot := ot) h hx hb 16 0 c4 (IQ_F i4) (Nat.zero_le _) (by omega)
  refine ⟨c5, i5, ?_⟩
  unfold mL_isRefused_322
  rw [show (1481452343 : Int64) = lN 1481452343 by decide +kernel, show mL_act n 0 (lN 1481452343) 4 (c, τ) = mL_act n 0 (lN 1481452343) (nI 4) (c, τ) by rw [← L_4], e1 τ, ej_bi_s, if_neg (by decide), e2 τ, ej_bi_s, if_pos rfl, e3 τ, ej_bi_s, if_pos L_3.symm, e4 τ, ej_bi_s, if_pos L_2.symm, L_0, e5]
theorem F269 (h : RFH n σ0 τ D was) (hx : x < 2 ^ 31) (hb : badN σ0 no) (hc : IQ n fs σ0 [] ot c) : ∃ c', IQ n fs σ0 [] ot c' ∧ mL_isRefused_269 n (nI x) no was 1 (c, τ) = some (nI 1, (c', τ)) := by
  obtain ⟨c1, i1, e1⟩ := a_feed (n := n) (W := 808400168) (m := 4) (n2k h) (by omega) (by omega) (show ([] : List Nat).length + 4 ≤ 600 by decide) c hc
  rw [show ([] : List Nat) ++ fbs 808400168 4 0 = [40, 53, 47, 48] by decide +kernel] at i1
  obtain ⟨c2, i2, e2⟩ := a_valueF (n := n) (u := 4) (v := 2) (n2k h) (show sld [40, 53, 47, 48] from rfl) (fun s rs rd hw => V_div0 (n2k h) rs rd) c1 i1
  obtain ⟨c3, i3, e3⟩ := a_fault0 i2
  obtain ⟨c4, i4, e4⟩ := a_fault1 i3
  obtain ⟨c5, i5, e5⟩ := F322 (fs := fs) (ot := ot) h hx hb (IQ_F i4)
  refine ⟨c5, i5, ?_⟩
  unfold mL_isRefused_269
  rw [show (808400168 : Int64) = lN 808400168 by decide +kernel, show mL_act n 0 (lN 808400168) 4 (c, τ) = mL_act n 0 (lN 808400168) (nI 4) (c, τ) by rw [← L_4], e1 τ, ej_bi_s, if_neg (by decide), e2 τ, ej_bi_s, if_pos rfl, e3 τ, ej_bi_s, if_pos L_4.symm, e4 τ, ej_bi_s, if_pos L_2.symm, e5]
theorem F218 {b : Nat} (h : RFH n σ0 τ D was) (hx : x < 2 ^ 31) (hb : badN σ0 no) (hbc : bc b) (hj : j ≤ 3) (hc : IQ n fs σ0 (tfp j) ot c) : ∃ c', IQ n fs σ0 [] ot c' ∧ mL_isRefused_218 n (nI x) no (nI j) was 1 (nI b) (c, τ) = some (nI 1, (c', τ)) := by
  have hb256 : b < 256 := by rcases hbc with z | z | z <;> omega
  have hm : x / 2 % 4 < 4 := Nat.mod_lt _ (by omega)
  have hl := tfp_len j
  obtain ⟨c1, i1, e1⟩ := Y_says (n := n) (fs := fs) (σ0 := σ0) (ot := ot) (τ := τ) (n2k h) hb256 (tfp j) c hc (by show (tfp j).length + 1 ≤ 600; omega)
  rw [tfp_tf] at i1
  obtain ⟨c2, i2, e2⟩ := a_loadF (n := n) (f := x / 2 % 4) h.hn hm hbc hj c1 i1
  obtain ⟨c3, i3, e3⟩ := a_fault0 i2
  obtain ⟨c4, i4, e4⟩ := a_fault1 i3
  obtain ⟨c5, i5, e5⟩ := F269 (fs := fs) (ot := ot) h hx hb (IQ_F i4)
  refine ⟨c5, i5, ?_⟩
  unfold mL_isRefused_218
  rw [e1, ej_bv_s, if_neg (by decide), show (2 : Int32) = nI 2 from L_2, show (4 : Int32) = nI 4 from L_4, pk_div (by omega) (by omega) (by omega), pk_div (by omega) (by omega) (by omega), pk_mul, pk_sub (Nat.div_mul_le_self _ _), show x / 2 - x / 2 / 4 * 4 = x / 2 % 4 by omega, e2 τ, ej_bi_s, if_pos rfl, e3 τ, ej_bi_s, if_pos L_1.symm, e4 τ, ej_bi_s, pk_mul, if_pos rfl, e5]
theorem F169 (h : RFH n σ0 τ D was) (hx : x < 2 ^ 31) (hb : badN σ0 no) {gd : Nat} (hg : gd ≤ 3) : ∀ (fu j : Nat) (c : ej_S), IQ n fs σ0 (tfp j) ot c → j ≤ gd → gd - j < fu → ∃ c', IQ n fs σ0 [] ot c' ∧ mL_isRefused_169 n fu (nI x) no (nI gd) was 1 (nI j) (c, τ) = some (nI 1, (c', τ)) := by
  intro fu
  induction fu with
  | zero => intro j c _ _ z; omega
  | succ fu ih =>
    intro j c hc hj hf
    rw [u_L_isRefused_169]
    rcases Nat.eq_or_lt_of_le hj with rfl | q
    · have k36 := F218 (b := 36) (fs := fs) (ot := ot) (τ := τ) h hx hb (.inl rfl) hg hc
      have k125 := F218 (b := 125) (fs := fs) (ot := ot) (τ := τ) h hx hb (.inr (.inl rfl)) hg hc
      have k53 := F218 (b := 53) (fs := fs) (ot := ot) (τ := τ) h hx hb (.inr (.inr rfl)) hg hc
      rw [ile_t (Nat.le_refl _) (by omega), show (36 : Int32) = nI 36 from congrArg nI (Eq.refl 36), show (125 : Int32) = nI 125 from L_125, show (53 : Int32) = nI 53 from congrArg nI (Eq.refl 53)]
      split
      · exact k36
      · split
        · exact k125
        · exact k53
    · have hl := tfp_len j
      obtain ⟨c1, i1, e1⟩ := a_feed (n := n) (W := 996286561) (m := 4) (n2k h) (by omega) (by omega) (show (tfp j).length + 4 ≤ 600 by omega) c hc
      rw [show fbs 996286561 4 0 = [97, 32, 98, 59] by decide +kernel, tfp_snoc] at i1
      obtain ⟨c2, i2, e2⟩ := ih (j + 1) c1 i1 q (by omega)
      refine ⟨c2, i2, ?_⟩
      rw [ile_f q (by omega), show (996286561 : Int64) = lN 996286561 by decide +kernel, show mL_act n 0 (lN 996286561) 4 (c, τ) = mL_act n 0 (lN 996286561) (nI 4) (c, τ) by rw [← L_4], e1 τ, ej_bi_s, p_1, ej_nm_e, e2]
theorem F119 (h : RFH n σ0 τ D was) (hx : x < 2 ^ 31) (hb : badN σ0 no) (hfl : fl < nI 0 ∨ nI 3 < fl) {gd : Nat} (hg : gd ≤ 3) (hc : IQ n fs σ0 [] ot c) : ∃ c', IQ n fs σ0 [] ot c' ∧ mL_isRefused_119 n (nI x) no fl (nI gd) was 1 (c, τ) = some (nI 1, (c', τ)) := by
  obtain ⟨c1, i1, e1⟩ := Y_says (n := n) (fs := fs) (σ0 := σ0) (ot := ot) (τ := τ) (b := 97) (n2k h) (by omega) [] c hc (by decide)
  obtain ⟨c2, i2, e2⟩ := a_loadNo (n := n) h.hn hfl c1 i1
  obtain ⟨c3, i3, e3⟩ := a_noHome (n := n) h.hn c2 i2
  obtain ⟨c4, i4, e4⟩ := F169 (fs := fs) (ot := ot) (τ := τ) h hx hb hg 5 0 c3 i3 (Nat.zero_le _) (by omega)
  refine ⟨c4, i4, ?_⟩
  unfold mL_isRefused_119
  rw [show (97 : Int32) = nI 97 from L_97, e1, ej_bv_s, if_neg (by decide), e2 τ, ej_bi_s, if_pos rfl, e3 τ, ej_bi_s, if_pos rfl, L_0, e4]
theorem F91 {m0 : Int32} (h : RFH n σ0 τ D was) (hx : x < 2 ^ 31) (hb : badN σ0 no) (hfl : fl < nI 0 ∨ nI 3 < fl) (hm0 : m0 < nI 1 ∨ nI 8 < m0) {gd : Nat} (hg : gd ≤ 3) (hc : IQ n fs σ0 [] ot c) : ∃ c', IQ n fs σ0 [] ot c' ∧ mL_isRefused_91 n (nI x) no fl (nI gd) was m0 5 0 (c, τ) = some (nI 1, (c', τ)) := by
  obtain ⟨c1, i1, e1⟩ := a_bad (n := n) (n2k h) hm0 5 c hc
  obtain ⟨c2, i2, e2⟩ := a_dropNo (n := n) h.hn hfl c1 i1
  obtain ⟨c3, i3, e3⟩ := F119 (fs := fs) (ot := ot) h hx hb hfl hg i2
  refine ⟨c3, i3, ?_⟩
  unfold mL_isRefused_91
  rw [e1 τ, ej_bi_s, if_pos rfl, e2 τ, ej_bi_s, if_pos rfl, e3]
theorem L_isRefused (h : RFH n σ0 τ D was) (hx : x < 2 ^ 31) (hc : IQ n fs σ0 [] ot c) : ∃ c', IQ n fs σ0 [] ot c' ∧ mL_isRefused n (nI x) (c, τ) = some (nI 1, (c', τ)) := by
  have N10 := h.N10
  have hm : x % 30 < 30 := Nat.mod_lt _ (by omega)
  have hg : x / 8 % 4 < 4 := Nat.mod_lt _ (by omega)
  obtain ⟨c1, i1, e1⟩ := h.hall fs [] ot c hc
  have m2 : gA ((c, τ) : lw_S).2 2 2 = nI (NN σ0) := h.h2
  have e30 : nI x - nI x / 30 * 30 = nI (x % 30) := by rw [L_30, pk_div (by omega) (by omega) (by omega), pk_mul, pk_sub (Nat.div_mul_le_self _ _)]; congr 1; omega
  have e8 : nI x / 8 - nI x / 8 / 4 * 4 = nI (x / 8 % 4) := by rw [L_8, L_4, pk_div (by omega) (by omega) (by omega), pk_div (by omega) (by omega) (by omega), pk_mul, pk_sub (Nat.div_mul_le_self _ _)]; congr 1; omega
  have e2 : nI x - nI x / 2 * 2 = nI (x % 2) := by rw [L_2, pk_div (by omega) (by omega) (by omega), pk_mul, pk_sub (Nat.div_mul_le_self _ _)]; congr 1; omega
  unfold mL_isRefused mL_isRefused_11 mL_isRefused_33 mL_isRefused_54
  rw [e2, e30, e8]
  have nn : (-1 : Int32) - nI (x % 30) < nI 0 := neg_lt (by omega)
  by_cases z : x % 2 = 0
  · have n0 : (0 : Int32) - nI (x % 30) < nI 1 := by
      rw [Int32.lt_iff_toInt_lt, nI_toInt (by omega)]
      have e : ((0 : Int32) - nI (x % 30)).toInt = -((x % 30 : Nat) : Int) := by
        rw [fb_subI (by rw [nI_toInt (by omega), show (0 : Int32).toInt = 0 by decide +kernel]; omega) (by rw [nI_toInt (by omega), show (0 : Int32).toInt = 0 by decide +kernel]; omega), nI_toInt (by omega), show (0 : Int32).toInt = 0 by decide +kernel]; omega
      rw [e]; omega
    obtain ⟨c2, i2, e3⟩ := F91 (fs := fs) (ot := ot) (fl := (-1) - nI (x % 30)) (no := (-1) - nI (x % 30)) (m0 := 0 - nI (x % 30)) h hx (.inl nn) (.inl nn) (.inl n0) (show x / 8 % 4 ≤ 3 by omega) i1
    refine ⟨c2, i2, ?_⟩
    rw [z, if_pos L_0.symm, if_neg (by decide), if_neg (by decide), ej_nm_e, e1, ej_bl_s, if_neg (by decide), e3]
  · have b1 : badN σ0 (nI (NN σ0) + nI (x % 30)) := .inr ⟨NN σ0 + x % 30, nI_add _ _, by omega, by omega⟩
    have b2 : nI 3 < (4 : Int32) + nI (x % 30) := by rw [L_4, nI_add]; exact nI_lt (by omega) (by omega)
    obtain ⟨c2, i2, e3⟩ := F91 (fs := fs) (ot := ot) (fl := 4 + nI (x % 30)) (no := nI (NN σ0) + nI (x % 30)) (m0 := 9) h hx b1 (.inr b2) (.inr (by decide +kernel)) (show x / 8 % 4 ≤ 3 by omega) i1
    refine ⟨c2, i2, ?_⟩
    rw [show x % 2 = 1 by omega, if_neg (show ¬ nI 1 = (0 : Int32) by decide +kernel), if_pos rfl, L_2, ck_t (by omega) (by omega), nI_clamp (by omega), m2, if_pos rfl, ej_nm_e, e1, ej_bl_s, if_pos rfl, e3]
end P97xd
