/-! THE LAW'S LOOP -/
theorem i_of (x : Int32) : ∃ m, x = nI m := ⟨x.toBitVec.toNat, by
  apply Int32.toBitVec_inj.mp
  show x.toBitVec = BitVec.ofNat 32 x.toBitVec.toNat
  rw [BitVec.ofNat_toNat, BitVec.setWidth_eq]⟩
theorem and_pos (x : Int32) : ∃ v, v < 2 ^ 31 ∧ x &&& 2147483647 = nI v := by
  obtain ⟨m, rfl⟩ := i_of x
  exact ⟨m % 2 ^ 31, Nat.mod_lt _ (by decide), by rw [show (2147483647 : Int32) = nI (2 ^ 31 - 1) by decide +kernel, fa_mask]⟩
def rwL (T : Nat → Nat) (b : Nat) : Nat → List St
  | 0 => []
  | k + 1 => rwL T b k ++ [e_s T (b + k)]
theorem e_L_1 {T : Nat → Nat} {h0 h1 : Nat} (h6 : h0 ≤ 6) : ∀ j, j ≤ 6 → e_L T h0 h1 j = rwL T 0 (min j h0) := by
  intro j
  induction j with
  | zero => intro _; rw [Nat.zero_min]; rfl
  | succ j ih =>
    intro hj
    have e := ih (by omega)
    rcases Nat.lt_or_ge j h0 with z | z
    · have hd : e_hd h0 h1 j = true := by unfold e_hd; rw [if_pos (by omega), decide_eq_true (by omega)]
      rw [e_L_t hd, e, Nat.min_eq_left (by omega), Nat.min_eq_left (by omega)]
      show _ = rwL T 0 j ++ [e_s T (0 + j)]
      rw [Nat.zero_add]
    · have hd : e_hd h0 h1 j = false := by unfold e_hd; rw [if_pos (by omega), decide_eq_false (by omega)]
      rw [e_L_f hd, e, Nat.min_eq_right (by omega), Nat.min_eq_right (by omega)]
theorem e_L_2 {T : Nat → Nat} {h0 h1 : Nat} (h6 : h0 ≤ 6) (h61 : h1 ≤ 6) : ∀ j, j ≤ 6 → e_L T h0 h1 (6 + j) = rwL T 0 h0 ++ rwL T 6 (min j h1) := by
  intro j
  induction j with
  | zero => intro _; rw [Nat.zero_min, e_L_1 h6 6 (by omega), Nat.min_eq_right h6]; exact (List.append_nil _).symm
  | succ j ih =>
    intro hj
    have e := ih (by omega)
    show e_L T h0 h1 ((6 + j) + 1) = _
    rcases Nat.lt_or_ge j h1 with z | z
    · have hd : e_hd h0 h1 (6 + j) = true := by unfold e_hd; rw [if_neg (by omega), decide_eq_true (by omega)]
      rw [e_L_t hd, e, Nat.min_eq_left (by omega), Nat.min_eq_left (by omega), List.append_assoc]; rfl
    · have hd : e_hd h0 h1 (6 + j) = false := by unfold e_hd; rw [if_neg (by omega), decide_eq_false (by omega)]
      rw [e_L_f hd, e, Nat.min_eq_right (by omega), Nat.min_eq_right (by omega)]
section P97y
variable {n N v x h0 h1 : Nat} {xs : Nat → Int32} {σ0 c τ : ej_S} {fs : Nat → List Nat} {LL : Nat → List St} {ot : List Nat} {T : Nat → Nat} {D : Nat → Nat}
theorem dice_ok (hN : N ≤ 260) (hx : x < 2 ^ 31) (s : lw_S) : ∃ v, v < 2 ^ 31 ∧ mL_dice n N xs (nI x) s = some (nI v, s) := by
  unfold mL_dice
  rw [show Int32.ofNat N = nI N from rfl]
  rcases Nat.lt_or_ge x N with z | z
  · obtain ⟨v, v1, v2⟩ := and_pos (xs x)
    exact ⟨v, v1, by rw [ile_f z (by omega), ck_t z (by omega), nI_clamp hx, v2]⟩
  · obtain ⟨v, v1, v2⟩ := and_pos (((1690806771 * (nI x + 277)) + ((691 * nI x) * nI x)) + 179)
    exact ⟨v, v1, by rw [ile_t z hx, v2]⟩
/-- what stands from turn to turn -/
def LSt (n : Nat) (s : lw_S) : Prop := ∃ (fs : Nat → List Nat) (LL : Nat → List St) (σ0 : ej_S) (T : Nat → Nat) (h0 h1 : Nat) (ot : List Nat), IQ n fs σ0 [] ot s.1 ∧ MF fs LL σ0 ∧ LT s.2 T h0 h1 ∧ LL 0 = rwL T 0 h0 ∧ LL 1 = [] ∧ LL 2 = rwL T 6 h1 ∧ LL 3 = [] ∧ (gA s.2 2 3 = zm ∨ ∃ hm, hm < 10 ∧ gA s.2 2 3 = nI hm ∧ gJ σ0 1 = lN (97 + hm))
theorem LA_L (l0 : LL 0 = rwL T 0 h0) (l1 : LL 1 = []) (l2 : LL 2 = rwL T 6 h1) (l3 : LL 3 = []) (h6 : h0 ≤ 6) (h61 : h1 ≤ 6) : LA LL = e_L T h0 h1 12 := by
  have := e_L_2 (T := T) h6 h61 6 (Nat.le_refl _)
  rw [Nat.min_eq_right h61] at this
  rw [show (12 : Nat) = 6 + 6 from rfl, this]
  unfold LA
  rw [l0, l1, l2, l3, List.append_nil, List.append_nil]
theorem RFH_of {hm : Nat} (hn : 200000000000000 < n) (h : CX σ0 τ T h0 h1) (hX : WXX σ0 D) (hw : wfR σ0) {o : Option Nat} (ho : hmN σ0 o) : ∃ was, RFH n σ0 τ D was := by
  obtain ⟨v, hv⟩ := L_all (n := n) (show 2000 < n by omega) hX.1 hX.2.1 hw (CX_N10 h) (CX_m2 h) ho
  exact ⟨v, hn, hX.1, hX.2.1, hw, CX_N10 h, CX_m2 h, hv⟩
theorem L543 {hm t : Nat} {f65 : Int32 → Int32 → lw_S → Option Int32} (hn : 200000000000000 < n) (h : CX σ0 τ T h0 h1) (hX : WXX σ0 D) (hm10 : hm < 10) (hJ : gJ σ0 1 = lN (97 + hm)) (hv : v < 2 ^ 31) (ht : t < 16) (hc : IQ n fs σ0 [] ot c) : ∃ c' ot', IQ n fs σ0 [] ot' c' ∧ mL_law_543 n N xs f65 1 (nI t) (nI v) (c, τ) = f65 1 (nI (t + 1)) (c', τ) := by
  have hm32 : v / 32 % 10 < 10 := Nat.mod_lt _ (by omega)
  have hw := (IQ_0 hc).1
  have nz : ¬ nI 1 = (0 : Int32) := by decide +kernel
  obtain ⟨c1, ot1, i1, e1⟩ := L_isRewritten (n := n) (fs := fs) (τ := τ) (show 2000 < n by omega) h hX hm32 hc
  unfold mL_law_543
  rw [if_neg (by decide), show nI v / 32 - nI v / 32 / 10 * 10 = nI (v / 32 % 10) by rw [L_32, L_10, pk_div (by omega) (by omega) (by omega), pk_div (by omega) (by omega) (by omega), pk_mul, pk_sub (Nat.div_mul_le_self _ _)]; congr 1; omega, e1, ej_bi_s, if_neg nz, show nI t - nI t / 4 * 4 = nI (t % 4) by rw [L_4, pk_div (by omega) (by omega) (by omega), pk_mul, pk_sub (Nat.div_mul_le_self _ _)]; congr 1; omega, p_1, L_0]
  rcases Nat.eq_zero_or_pos (t % 4) with z | z
  · obtain ⟨was, hR⟩ := RFH_of (hm := hm) hn h hX hw (hm_of h hm10 hJ)
    obtain ⟨c2, i2, e2⟩ := L_isRefused (fs := fs) (ot := ot1) (x := v / 3) hR (by omega) i1
    refine ⟨c2, ot1, i2, ?_⟩
    rw [ilt_f (show t % 4 ≤ 0 by omega) (by omega), L_3, pk_div (by omega) (by omega) (by omega), e2, ej_bi_s, if_neg n10, ej_nm_e]
  · refine ⟨c1, ot1, i1, ?_⟩
    rw [ilt_t z (by omega), ej_nm_e]
theorem L511 {hm t : Nat} {f65 : Int32 → Int32 → lw_S → Option Int32} (hn : 200000000000000 < n) (h : CX σ0 τ T h0 h1) (hX : WXX σ0 D) (hm10 : hm < 10) (hJ : gJ σ0 1 = lN (97 + hm)) (hv : v < 2 ^ 31) (ht : t < 16) : ∀ (fu a : Nat) (c : ej_S) (ot : List Nat), IQ n fs σ0 [] ot c → a ≤ NN σ0 → NN σ0 - a < fu → ∃ c' ot', IQ n fs σ0 [] ot' c' ∧ mL_law_511 n N xs f65 fu 1 (nI t) (nI v) (nI a) (c, τ) = f65 1 (nI (t + 1)) (c', τ) := by
  intro fu
  induction fu with
  | zero => intro a c ot _ _ z; omega
  | succ fu ih =>
    intro a c ot hc ha hf
    have N10 := CX_N10 h
    have m2 : ∀ c : ej_S, gA ((c, τ) : lw_S).2 2 2 = nI (NN σ0) := fun c => CX_m2 h
    rw [u_L_law_511, L_2, ck_t (by omega) (by omega), nI_clamp (by omega), m2]
    rcases Nat.eq_or_lt_of_le ha with rfl | q
    · obtain ⟨c1, ot1, i1, e1⟩ := L543 (n := n) (N := N) (xs := xs) (f65 := f65) (τ := τ) hn h hX hm10 hJ hv ht hc
      exact ⟨c1, ot1, i1, by rw [ile_t (Nat.le_refl _) (by omega), e1]⟩
    · obtain ⟨c1, ot1, i1, e1⟩ := L_isPrinted (n := n) (fs := fs) (τ := τ) (show 2000 < n by omega) h hX q hc
      obtain ⟨c2, ot2, i2, e2⟩ := ih (a + 1) c1 ot1 i1 q (by omega)
      refine ⟨c2, ot2, i2, ?_⟩
      rw [ile_f q (by omega), if_neg (by decide), e1, ej_bi_s, p_1, ej_nm_e, ← L_1]
      exact e2
theorem L449 {hm t : Nat} {f65 : Int32 → Int32 → lw_S → Option Int32} (hn : 200000000000000 < n) (h : CX σ0 τ T h0 h1) (hm10 : hm < 10) (h3 : gA τ 2 3 = nI hm) (hJ : gJ σ0 1 = lN (97 + hm)) (hv : v < 2 ^ 31) (ht : t < 16) (hc : IQ n fs σ0 [] ot c) : ∃ c' ot', IQ n fs σ0 [] ot' c' ∧ mL_law_449 n N xs f65 1 (nI t) (nI v) (c, τ) = f65 1 (nI (t + 1)) (c', τ) := by
  have hn2 : 2000 < n := by omega
  have nz : ¬ nI 1 = (0 : Int32) := by decide +kernel
  obtain ⟨D, hX⟩ := WXX_ex h (IQ_0 hc).1 (IQ_0 hc).2
  obtain ⟨c1, ot1, i1, e1⟩ := L_areNodes (n := n) (fs := fs) (v := v / 7) hn2 h (by omega) hm10 h3 hJ hc
  obtain ⟨c2, i2, e2⟩ := L_areWays (n := n) (fs := fs) hn2 h hX i1
  obtain ⟨c3, i3, e3⟩ := L_areBacks (n := n) (fs := fs) hn2 h hX hm10 h3 hJ i2
  obtain ⟨c4, i4, e4⟩ := L_isSum (n := n) (fs := fs) (τ := τ) hn2 hv i3
  have N10 := CX_N10 h
  obtain ⟨c5, ot5, i5, e5⟩ := L511 (n := n) (N := N) (xs := xs) (f65 := f65) (τ := τ) hn h hX hm10 hJ hv ht 12 0 c4 ot1 i4 (Nat.zero_le _) (by omega)
  refine ⟨c5, ot5, i5, ?_⟩
  unfold mL_law_449
  rw [if_neg (by decide), L_7, pk_div (by omega) (by omega) (by omega), e1, ej_bi_s, if_neg nz, e2, ej_bi_s, if_neg nz, e3, ej_bi_s, if_neg nz, e4, ej_bi_s, if_neg nz, L_0]
  exact e5
theorem LT_23 {z : Int32} (h : LT τ T h0 h1) : LT (uA τ 2 3 z) T h0 h1 := by
  obtain ⟨a1, a2, a3, a4, a5, a6⟩ := h
  exact ⟨fun i hi => by rw [s_AA_n (by omega)]; exact a1 i hi, a2, by rw [s_AA_s, pk_un (by omega)]; exact a3, by rw [s_AA_s, pk_un (by omega)]; exact a4, a5, a6⟩
theorem LX_23 {z : Int32} {X : List Nat} (h : LX τ X) : LX (uA τ 2 3 z) X := by
  obtain ⟨a1, a2, a3, a4⟩ := h
  exact ⟨by rw [s_AA_s, pk_un (by omega)]; exact a1, a2, fun i hi => by rw [s_AA_n (by omega)]; exact a3 i hi, a4⟩
/-- what stands, piece by piece -/
def LS0 (n : Nat) (fs : Nat → List Nat) (LL : Nat → List St) (σ0 : ej_S) (T : Nat → Nat) (h0 h1 : Nat) (ot : List Nat) (s : lw_S) : Prop := IQ n fs σ0 [] ot s.1 ∧ MF fs LL σ0 ∧ LT s.2 T h0 h1 ∧ LL 0 = rwL T 0 h0 ∧ LL 1 = [] ∧ LL 2 = rwL T 6 h1 ∧ LL 3 = [] ∧ (gA s.2 2 3 = zm ∨ ∃ hm, hm < 10 ∧ gA s.2 2 3 = nI hm ∧ gJ σ0 1 = lN (97 + hm))
theorem LS_of (h : LS0 n fs LL σ0 T h0 h1 ot (c, τ)) : LSt n (c, τ) := ⟨fs, LL, σ0, T, h0, h1, ot, h⟩
theorem L394 {t : Nat} {f65 : Int32 → Int32 → lw_S → Option Int32} (hn : 200000000000000 < n) (hLX : LX τ (e_ns (e_L T h0 h1 12))) (hL : LS0 n fs LL σ0 T h0 h1 ot (c, τ)) (hv : v < 2 ^ 31) (ht : t < 16) : ∃ s, LSt n s ∧ mL_law_394 n N xs f65 1 (nI t) (nI v) (c, τ) = f65 1 (nI (t + 1)) s := by
  obtain ⟨hc, hF, hT, l0, l1, l2, l3, _⟩ := hL
  have hn2 : 2000 < n := by omega
  have hm10 : v / 16 % 10 < 10 := Nat.mod_lt _ (by omega)
  have eLA := LA_L l0 l1 l2 l3 hT.2.2.2.2.1 hT.2.2.2.2.2
  have e16 : nI v / 16 - nI v / 16 / 10 * 10 = nI (v / 16 % 10) := by
    rw [L_16, L_10, pk_div (by omega) (by omega) (by omega), pk_div (by omega) (by omega) (by omega), pk_mul, pk_sub (Nat.div_mul_le_self _ _)]; congr 1; omega
  obtain ⟨c1, i1, e1⟩ := Y_says (n := n) (fs := fs) (σ0 := σ0) (ot := ot) (τ := uA τ 2 3 (nI (v / 16 % 10))) (b := 97 + v / 16 % 10) hn2 (by omega) [] c hc (by show 0 + 1 ≤ 600; omega)
  obtain ⟨c2, σ1, i2, e2, hF2, hJ⟩ := a_home2 (n := n) hn hF hm10 c1 i1
  have hT2 := LT_23 (z := nI (v / 16 % 10)) hT
  have hX2 := LX_23 (z := nI (v / 16 % 10)) hLX
  have hC : CX σ1 (uA τ 2 3 (nI (v / 16 % 10))) T h0 h1 := ⟨hT2, hX2, by rw [← eLA]; exact hF2.1⟩
  have g3 : gA (uA τ 2 3 (nI (v / 16 % 10))) 2 3 = nI (v / 16 % 10) := by rw [s_AA_s, pk_us]
  obtain ⟨c3, ot3, i3, e3⟩ := L449 (n := n) (N := N) (xs := xs) (f65 := f65) hn hC hm10 g3 hJ hv ht i2
  refine ⟨(c3, uA τ 2 3 (nI (v / 16 % 10))), LS_of ⟨i3, hF2, hT2, l0, l1, l2, l3, .inr ⟨_, hm10, g3, hJ⟩⟩, ?_⟩
  have g3s : ∀ c : ej_S, gA ((c, uA τ 2 3 (nI (v / 16 % 10))) : lw_S).2 2 3 = nI (v / 16 % 10) := fun c => g3
  have nd := L_node (n := n) (c := c2) hn2 hX2 (show v / 16 % 10 < 2 ^ 31 by omega)
  unfold mL_law_394
  rw [L_3, ck_t (by omega) (by omega), nI_clamp (by omega), e16, ej_nm_e]
  show ej_ck (nI 3) 4 (ej_bv (mL_says n (97 + gA ((c, uA τ 2 3 (nI (v / 16 % 10))) : lw_S).2 2 3) (c, uA τ 2 3 (nI (v / 16 % 10)))) _) = _
  rw [ck_t (by omega) (by omega), g3s, L_97, nI_add, e1, ej_bv_s, if_neg (by decide), e2, ej_bi_s, ck_t (by omega) (by omega), g3s, nd, ej_bi_s, eLA, if_pos rfl, e3]
theorem L370 {t : Nat} {f65 : Int32 → Int32 → lw_S → Option Int32} (hn : 200000000000000 < n) (hL : LS0 n fs LL σ0 T h0 h1 ot (c, τ)) (hv : v < 2 ^ 31) (ht : t < 16) : ∃ s, LSt n s ∧ mL_law_370 n N xs f65 1 (nI t) (nI v) (c, τ) = f65 1 (nI (t + 1)) s := by
  obtain ⟨hc, hF, hT, l0, l1, l2, l3, hH⟩ := hL
  have hn2 : 2000 < n := by omega
  have eLA := LA_L l0 l1 l2 l3 hT.2.2.2.2.1 hT.2.2.2.2.2
  obtain ⟨τ', e1, hT', hX', h3⟩ := L_reads (n := n) (c := c) hn2 hT
  have hL' : LS0 n fs LL σ0 T h0 h1 ot (c, τ') := ⟨hc, hF, hT', l0, l1, l2, l3, by show gA τ' 2 3 = zm ∨ _; rw [h3]; exact hH⟩
  obtain ⟨s1, k1, k2⟩ := L394 (n := n) (N := N) (xs := xs) (f65 := f65) hn hX' hL' hv ht
  unfold mL_law_370
  rw [e1, ej_bv_s]
  have e8 : nI v - nI v / 8 * 8 = nI (v % 8) := by
    rw [L_8, pk_div (by omega) (by omega) (by omega), pk_mul, pk_sub (Nat.div_mul_le_self _ _)]; congr 1; omega
  rw [e8, L_7]
  by_cases z : v % 8 = 7
  · exact ⟨s1, k1, by rw [ieq_t z, k2]⟩
  · rw [ieq_f z (by omega) (by omega), L_3, ck_t (by omega) (by omega), nI_clamp (by omega), L_0]
    show ∃ s, LSt n s ∧ (if nI 0 ≤ gA τ' 2 3 then _ else _) = _
    rw [h3]
    have hH' : gA τ 2 3 = zm ∨ ∃ hm, hm < 10 ∧ gA τ 2 3 = nI hm ∧ gJ σ0 1 = lN (97 + hm) := hH
    rcases hH' with w | ⟨hm, w1, w2, w3⟩
    · exact ⟨s1, k1, by rw [w, if_neg (zm_nle (by omega)), k2]⟩
    · have hC : CX σ0 τ' T h0 h1 := ⟨hT', hX', by rw [← eLA]; exact hF.1⟩
      obtain ⟨c3, ot3, i3, e3⟩ := L449 (n := n) (N := N) (xs := xs) (f65 := f65) hn hC w1 (by rw [h3]; exact w2) w3 hv ht hc
      refine ⟨(c3, τ'), LS_of ⟨i3, hF, hT', l0, l1, l2, l3, .inr ⟨hm, w1, by show gA τ' 2 3 = _; rw [h3]; exact w2, w3⟩⟩, ?_⟩
      rw [w2, if_pos (nI_le (Nat.zero_le _) (by omega)), e3]
theorem rwL_len (T : Nat → Nat) (b : Nat) : ∀ k, (rwL T b k).length = k
  | 0 => rfl
  | k + 1 => by show (rwL T b k ++ [e_s T (b + k)]).length = k + 1; rw [List.length_append, rwL_len T b k]; rfl
theorem rwL_cg {T T' : Nat → Nat} {b : Nat} : ∀ k, (∀ j, b ≤ j → j < b + k → e_s T j = e_s T' j) → rwL T b k = rwL T' b k
  | 0, _ => rfl
  | k + 1, h => by
    show rwL T b k ++ [e_s T (b + k)] = rwL T' b k ++ [e_s T' (b + k)]
    rw [rwL_cg k (fun j h1 h2 => h j h1 (by omega)), h (b + k) (by omega) (by omega)]
theorem rwL_g (ok : e_ok T) {b : Nat} : ∀ k, b + k ≤ 12 → ∀ s ∈ rwL T b k, gst s
  | 0, _, s, hs => by cases hs
  | k + 1, h, s, hs => by
    rcases List.mem_append.mp hs with z | z
    · exact rwL_g ok k (by omega) s z
    · rw [List.mem_singleton.mp z]; exact ok (b + k) (by omega)
theorem tx_snoc (L : List St) (s : St) : tx (L ++ [s]) = tx L ++ (sb s ++ [59]) := by
  induction L with
  | nil => show sb s ++ 59 :: [] = _; rfl
  | cons a r ih => show sb a ++ 59 :: tx (r ++ [s]) = sb a ++ 59 :: tx r ++ _; rw [ih]; simp
theorem tx_len : ∀ (L : List St), (tx L).length ≤ 16 * L.length
  | [] => Nat.le_refl _
  | s :: r => by
    have h1 := tx_len r
    have h2 := sb_len s
    show (sb s ++ 59 :: tx r).length ≤ 16 * (r.length + 1)
    rw [List.length_append, List.length_cons]; omega
/-- a turn that drops a half, or keeps both -/
theorem L_drop {t hf : Nat} {f65 : Int32 → Int32 → lw_S → Option Int32} (hn : 200000000000000 < n) (hL : LS0 n fs LL σ0 T h0 h1 ot (c, τ)) (hv : v < 2 ^ 31) (ht : t < 16) (hh : hf < 2) : ∃ s, LSt n s ∧ (ej_bi (mL_act n 2 0 (2 * nI hf) (c, τ)) fun r52 s53 => ej_ck (nI hf) 4 ((if r52 = gA s53.2 2 (nI hf).toNatClampNeg then ej_ck (nI hf) 4 (ej_nm ((s53.1, uA s53.2 2 ((nI hf).toNatClampNeg) 0) : lw_S) fun s55 => (mL_law_370 n N xs f65 1 (nI t) (nI v) s55)) else ej_ck (nI hf) 4 (ej_nm ((s53.1, uA s53.2 2 ((nI hf).toNatClampNeg) 0) : lw_S) fun s54 => (mL_law_370 n N xs f65 0 (nI t) (nI v) s54))))) = f65 1 (nI (t + 1)) s := by
  obtain ⟨hc, hF, hT, l0, l1, l2, l3, hH⟩ := hL
  obtain ⟨c1, σ1, i1, e1, hF1, hJ⟩ := a_drop (n := n) (f := 2 * hf) hn (by omega) hF c hc
  obtain ⟨g0, ok, gh0, gh1, b0, b1⟩ := id hT
  have hlen : ∀ c : ej_S, nI (LL (2 * hf)).length = gA ((c, τ) : lw_S).2 2 hf := by
    intro c
    rcases (show hf = 0 ∨ hf = 1 by omega) with z | z
    · subst z; show _ = gA τ 2 0; rw [gh0, show LL (2 * 0) = rwL T 0 h0 from l0, rwL_len]
    · subst z; show _ = gA τ 2 1; rw [gh1, show LL (2 * 1) = rwL T 6 h1 from l2, rwL_len]
  have hH1 : gA (uA τ 2 hf (nI 0)) 2 3 = zm ∨ ∃ hm, hm < 10 ∧ gA (uA τ 2 hf (nI 0)) 2 3 = nI hm ∧ gJ σ1 1 = lN (97 + hm) := by
    rw [s_AA_s, pk_un (by omega), hJ]; exact hH
  have hL1 : ∃ h0' h1', LS0 n (fsu fs (2 * hf) []) (lsu LL (2 * hf) []) σ1 T h0' h1' ot (c1, uA τ 2 hf (nI 0)) := by
    rcases (show hf = 0 ∨ hf = 1 by omega) with z | z
    · subst z
      exact ⟨0, h1, i1, hF1, ⟨fun i hi => by rw [s_AA_n (by omega)]; exact g0 i hi, ok, by rw [s_AA_s, pk_us], by rw [s_AA_s, pk_un (by omega)]; exact gh1, by omega, b1⟩, rfl, l1, l2, l3, hH1⟩
    · subst z
      exact ⟨h0, 0, i1, hF1, ⟨fun i hi => by rw [s_AA_n (by omega)]; exact g0 i hi, ok, by rw [s_AA_s, pk_un (by omega)]; exact gh0, by rw [s_AA_s, pk_us], b0, by omega⟩, l0, l1, rfl, l3, hH1⟩
  obtain ⟨h0', h1', hL1⟩ := hL1
  obtain ⟨s, k1, k2⟩ := L370 (n := n) (N := N) (xs := xs) (f65 := f65) hn hL1 hv ht
  refine ⟨s, k1, ?_⟩
  rw [L_2, pk_mul, ← L_2, e1, ej_bi_s, ck_t (by omega) (by omega), nI_clamp (by omega), if_pos (hlen c1), ck_t (by omega) (by omega), ej_nm_e, L_0]
  exact k2
end P97y
