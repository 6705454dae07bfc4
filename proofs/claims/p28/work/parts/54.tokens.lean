/-! TOKENS OF THE CLASS -/
def spn (p : Nat → Bool) : List Nat → Nat
  | [] => 0
  | b :: r => if p b then spn p r + 1 else 0
/-- how many bytes lie ahead of the next token; true: within a remark -/
def skp : Bool → List Nat → Nat
  | _, [] => 0
  | true, b :: r => if b = 10 then 0 else skp true r + 1
  | false, b :: r => if b = 32 ∨ b = 9 then skp false r + 1 else if b = 35 then skp true r + 1 else 0
def srL : List Nat → Nat
  | [] => 0
  | b :: _ => srtc b
def enL : List Nat → Nat
  | [] => 0
  | b :: r => 1 + spn (gon (srtc b)) r
def sr (l : List Nat) (p : Nat) : Nat := srL (l.drop p)
def en (l : List Nat) (p : Nat) : Nat := p + enL (l.drop p)
def sx (l : List Nat) (p : Nat) : Nat := p + skp false (l.drop p)
def bg (l : List Nat) : Nat → Nat
  | 0 => sx l 0
  | i + 1 => sx l (en l (bg l i))
def nmC : Nat → List Nat → Nat
  | a, [] => a
  | a, b :: r => nmC (min (10 * a + b - 48) 1000001) r
def WT : List (List Nat × Int32) := [([76, 79, 67, 65, 76], 25), ([68, 69, 68, 73, 67, 65, 84, 69, 68], 95), ([68, 73, 82, 69, 67, 84], 200), ([68, 69, 77, 65, 78, 68], 300), ([72, 79, 85, 82, 76, 89], 500), ([69, 86, 69, 78, 73, 78, 71], 1800), ([68, 65, 73, 76, 89], 5000), ([87, 69, 69, 75, 76, 89], 30000), ([72, 73, 71, 72], -5), ([76, 79, 87], 5)]
def wt (j : Nat) : List Nat × Int32 := WT.getD j ([], 0)
def wv (ws : List Nat) : List (List Nat × Int32) → Int32
  | [] => nI 1000001
  | (w, v) :: r => if ws = w then v else wv ws r
def tk (l : List Nat) (p : Nat) : List Nat := (l.drop p).take (enL (l.drop p))
def mn (l : List Nat) (p : Nat) : Int64 := if sr l p = 97 then lN (pkL ((tk l p).take 8)) else if sr l p = 48 then (nI (nmC 0 (tk l p))).toInt64 else if sr l p = 65 then (wv (tk l p) WT).toInt64 else 0
theorem wv_cons (ws : List Nat) (p : List Nat × Int32) (r : List (List Nat × Int32)) : wv ws (p :: r) = if ws = p.1 then p.2 else wv ws r := by cases p; rfl
theorem spn_le (p : Nat → Bool) : ∀ l, spn p l ≤ l.length
  | [] => Nat.le_refl 0
  | b :: r => by
    have := spn_le p r
    simp only [spn, List.length_cons]
    split <;> omega
theorem spn_all (p : Nat → Bool) : ∀ (l : List Nat) (x : Nat), x ∈ l.take (spn p l) → p x = true
  | [], x, h => by simp [spn] at h
  | b :: r, x, h => by
    simp only [spn] at h
    split at h
    · rename_i q
      rw [List.take_succ_cons] at h
      rcases List.mem_cons.mp h with e | e
      · rw [e]; exact q
      · exact spn_all p r x e
    · simp at h
theorem skp_le : ∀ (b : Bool) (l : List Nat), skp b l ≤ l.length
  | _, [] => by simp [skp]
  | true, b :: r => by
    have := skp_le true r
    simp only [skp, List.length_cons]
    split <;> omega
  | false, b :: r => by
    have h1 := skp_le true r
    have h2 := skp_le false r
    simp only [skp, List.length_cons]
    split
    · omega
    · split <;> omega
theorem skp_end : ∀ (l : List Nat), skp false (l.drop (skp true l)) = 0
  | [] => by simp [skp]
  | b :: r => by
    simp only [skp]
    split
    · rename_i h; subst h; simp [skp]
    · rw [List.drop_succ_cons]; exact skp_end r
theorem skp_idem : ∀ (l : List Nat), skp false (l.drop (skp false l)) = 0
  | [] => by simp [skp]
  | b :: r => by
    simp only [skp]
    split
    · rw [List.drop_succ_cons]; exact skp_idem r
    · split
      · rw [List.drop_succ_cons]; exact skp_end r
      · rename_i h1 h2
        simp only [List.drop_zero, skp, if_neg h1, if_neg h2]
theorem enL_le (l : List Nat) : enL l ≤ l.length := by
  cases l with
  | nil => simp [enL]
  | cons b r => have := spn_le (gon (srtc b)) r; simp only [enL, List.length_cons]; omega
theorem en_le {l : List Nat} {p : Nat} (h : p ≤ l.length) : en l p ≤ l.length := by
  have := enL_le (l.drop p)
  rw [List.length_drop] at this
  unfold en; omega
theorem en_ge (l : List Nat) (p : Nat) : p ≤ en l p := by unfold en; omega
theorem en_gt {l : List Nat} {p : Nat} (h : p < l.length) : p < en l p := by
  unfold en; rw [cd_drop h]; simp only [enL]; omega
theorem sx_le {l : List Nat} {p : Nat} (h : p ≤ l.length) : sx l p ≤ l.length := by
  have := skp_le false (l.drop p)
  rw [List.length_drop] at this
  unfold sx; omega
theorem sx_ge (l : List Nat) (p : Nat) : p ≤ sx l p := by unfold sx; omega
theorem bg_le (l : List Nat) : ∀ i, bg l i ≤ l.length
  | 0 => sx_le (Nat.zero_le _)
  | i + 1 => sx_le (en_le (bg_le l i))
theorem bg_sx (l : List Nat) (p : Nat) : skp false (l.drop (sx l p)) = 0 := by
  unfold sx
  rw [← List.drop_drop]; exact skp_idem _
theorem bg_sk (l : List Nat) : ∀ i, skp false (l.drop (bg l i)) = 0
  | 0 => bg_sx l 0
  | i + 1 => bg_sx l _
theorem bg_end {l : List Nat} {i : Nat} (h : bg l i = l.length) : ∀ j, bg l (i + j) = l.length
  | 0 => h
  | j + 1 => by
    have h1 := bg_end h j
    show sx l (en l (bg l (i + j))) = _
    rw [h1]
    have h2 : en l l.length = l.length := by unfold en; rw [List.drop_length]; rfl
    rw [h2]; unfold sx; rw [List.drop_length]; rfl
theorem bg_mono (l : List Nat) (i : Nat) : bg l i ≤ bg l (i + 1) := Nat.le_trans (en_ge l _) (sx_ge l _)
theorem bg_lt {l : List Nat} {i : Nat} (h : bg l i < l.length) : bg l i < bg l (i + 1) := Nat.lt_of_lt_of_le (en_gt h) (sx_ge l _)
theorem srtc_pos {c : Nat} (h : c < 256) : srtc c ≠ 0 := by
  have : ∀ c, c < 256 → srtc c ≠ 0 := by decide +kernel
  exact this c h
theorem srtc_lt {c : Nat} (h : c < 256) : srtc c < 128 := by
  have : ∀ c, c < 256 → srtc c < 128 := by decide +kernel
  exact this c h
theorem sr_lt {l : List Nat} (hb : ∀ b ∈ l, b < 256) (p : Nat) : sr l p < 128 := by
  unfold sr
  rcases Nat.lt_or_ge p l.length with h | h
  · rw [cd_drop h]; exact srtc_lt (cd_b hb h)
  · rw [List.drop_eq_nil_of_le h]; decide
theorem sr_0 {l : List Nat} (hb : ∀ b ∈ l, b < 256) (p : Nat) : sr l p = 0 ↔ l.length ≤ p := by
  unfold sr
  rcases Nat.lt_or_ge p l.length with h | h
  · rw [cd_drop h]; exact ⟨fun e => absurd e (srtc_pos (cd_b hb h)), fun e => by omega⟩
  · rw [List.drop_eq_nil_of_le h]; exact ⟨fun _ => h, fun _ => rfl⟩
section P54a
variable {n : Nat} {σ : ej_S} {l : List Nat}
theorem x_length {t : Nat} (h : TX σ t l) : m7_length n t σ = some (nI l.length, σ) := by unfold m7_length; rw [h.1]
theorem x_endOfRemark_2 (h : TX σ 6 l) : ∀ (k e : Nat), l.length - e < k → e ≤ l.length → m8_endOfRemark_2 n k (nI e) σ = some (nI (e + skp true (l.drop e)), σ) := by
  have hl := TX_len h
  intro k
  induction k with
  | zero => intro e h1; omega
  | succ k ih =>
    intro e h1 h2
    rw [u_8_endOfRemark_2, x_length h]
    rcases Nat.lt_or_ge e l.length with q | q
    · simp (disch := omega) only [ej_bi_s, ej_bl_s, ej_bv_s, ej_nm_e, ↓L_m1, L_0, L_1, L_2, L_3, L_4, L_5, L_6, L_7, L_8, L_9, L_10, L_11, L_12, L_13, L_14, L_15, L_16, L_17, L_18, L_19, L_20, L_21, L_22, L_23, L_24, L_31, L_32, L_33, L_35, L_37, L_40, L_41, L_42, L_43, L_44, L_45, L_46, L_47, L_48, L_57, L_58, L_59, L_61, L_63, L_64, L_65, L_90, L_95, L_96, L_97, L_122, L_123, L_125, L_200, L_255, L_300, L_500, L_576, L_600, L_601, L_602, L_1200, L_1800, L_2400, L_3000, L_4000, L_4096, L_5000, L_30000, L_50000, L_60000, L_70000, L_100000, L_200000, L_1000000, L_1000001, if_true, if_false, ile_t, ile_f, ilt_t, ilt_f, ieq_t, ieq_f, ieq_m, ieq_m2, ieq_mm, ilt_m, ilt_m2, ile_m, ile_m2, x_byteAt h]
      rw [cd_drop q]
      by_cases e10 : cd l e = 10
      · rw [if_pos (by rw [e10]; rfl)]
        simp only [skp, if_pos e10, Nat.add_zero]
      · rw [if_neg (fun z => e10 ((cI_eq (cd_7 h.2.2.2 e) (by omega)).mp z))]
        rw [nI_add, ih (e + 1) (by omega) q]
        simp only [skp, if_neg e10]
        rw [Nat.add_right_comm, Nat.add_assoc]
    · simp (disch := omega) only [ej_bi_s, ej_bl_s, ej_bv_s, ej_nm_e, if_true, if_false, ile_t, ile_f, ilt_t, ilt_f, ieq_t, ieq_f, ieq_m, ieq_m2, ieq_mm, ilt_m, ilt_m2, ile_m, ile_m2]
      rw [List.drop_eq_nil_of_le q]; rfl
theorem x_endOfToken_4 (h : TX σ 6 l) {s : Nat} (hs : s < 2 ^ 31) : ∀ (k e : Nat), l.length - e < k → e ≤ l.length → m8_endOfToken_4 n k (nI s) (nI e) σ = some (nI (e + spn (gon s) (l.drop e)), σ) := by
  have hl := TX_len h
  intro k
  induction k with
  | zero => intro e h1; omega
  | succ k ih =>
    intro e h1 h2
    rw [u_8_endOfToken_4, x_length h]
    rcases Nat.lt_or_ge e l.length with q | q
    · simp (disch := omega) only [ej_bi_s, ej_bl_s, ej_bv_s, ej_nm_e, ↓L_m1, L_0, L_1, L_2, L_3, L_4, L_5, L_6, L_7, L_8, L_9, L_10, L_11, L_12, L_13, L_14, L_15, L_16, L_17, L_18, L_19, L_20, L_21, L_22, L_23, L_24, L_31, L_32, L_33, L_35, L_37, L_40, L_41, L_42, L_43, L_44, L_45, L_46, L_47, L_48, L_57, L_58, L_59, L_61, L_63, L_64, L_65, L_90, L_95, L_96, L_97, L_122, L_123, L_125, L_200, L_255, L_300, L_500, L_576, L_600, L_601, L_602, L_1200, L_1800, L_2400, L_3000, L_4000, L_4096, L_5000, L_30000, L_50000, L_60000, L_70000, L_100000, L_200000, L_1000000, L_1000001, if_true, if_false, ile_t, ile_f, ilt_t, ilt_f, ieq_t, ieq_f, ieq_m, ieq_m2, ieq_mm, ilt_m, ilt_m2, ile_m, ile_m2, x_byteAt h, x_goesOn (cd_7 h.2.2.2 e) hs, ibI]
      rw [cd_drop q]
      by_cases g : gon s (cd l e) = true
      · rw [if_pos g, nI_add, ih (e + 1) (by omega) q]
        simp only [spn, if_pos g]
        rw [Nat.add_right_comm, Nat.add_assoc]
      · rw [if_neg g]
        simp only [spn, if_neg g, Nat.add_zero]
    · simp (disch := omega) only [ej_bi_s, ej_bl_s, ej_bv_s, ej_nm_e, if_true, if_false, ile_t, ile_f, ilt_t, ilt_f, ieq_t, ieq_f, ieq_m, ieq_m2, ieq_mm, ilt_m, ilt_m2, ile_m, ile_m2]
      rw [List.drop_eq_nil_of_le q]; rfl
theorem min_ite (x : Nat) (h : x < 2 ^ 31) : (if nI 1000001 < nI x then nI 1000001 else nI x) = nI (min x 1000001) := by
  rcases Nat.lt_or_ge 1000001 x with q | q
  · rw [if_pos (nI_lt q h), Nat.min_eq_right (by omega)]
  · rw [if_neg (nI_nlt q (by omega)), Nat.min_eq_left q]
theorem x_numberOf_5 (h : TX σ 6 l) {e : Nat} (he : e ≤ l.length) : ∀ (k p a : Nat), e - p < k → p ≤ e → a ≤ 1000001 → (∀ b ∈ (l.drop p).take (e - p), isDg b = true) → m8_numberOf_5 n k (nI e) (nI a) (nI p) σ = some (nI (nmC a ((l.drop p).take (e - p))), σ) := by
  have hl := TX_len h
  intro k
  induction k with
  | zero => intro p a h1; omega
  | succ k ih =>
    intro p a h1 h2 h3 h4
    rw [u_8_numberOf_5]
    rcases Nat.lt_or_ge p e with q | q
    · have e1 : (l.drop p).take (e - p) = cd l p :: (l.drop (p + 1)).take (e - (p + 1)) := by
        rw [cd_drop (by omega), show e - p = (e - (p + 1)) + 1 by omega, List.take_succ_cons]
      rw [e1] at h4 ⊢
      have hd := h4 _ List.mem_cons_self
      simp only [isDg, Bool.and_eq_true, decide_eq_true_eq] at hd
      have hc := cd_b h.2.2.2 (show p < l.length by omega)
      simp (disch := omega) only [ej_bi_s, ej_bl_s, ej_bv_s, ej_nm_e, ↓L_m1, L_0, L_1, L_2, L_3, L_4, L_5, L_6, L_7, L_8, L_9, L_10, L_11, L_12, L_13, L_14, L_15, L_16, L_17, L_18, L_19, L_20, L_21, L_22, L_23, L_24, L_31, L_32, L_33, L_35, L_37, L_40, L_41, L_42, L_43, L_44, L_45, L_46, L_47, L_48, L_57, L_58, L_59, L_61, L_63, L_64, L_65, L_90, L_95, L_96, L_97, L_122, L_123, L_125, L_200, L_255, L_300, L_500, L_576, L_600, L_601, L_602, L_1200, L_1800, L_2400, L_3000, L_4000, L_4096, L_5000, L_30000, L_50000, L_60000, L_70000, L_100000, L_200000, L_1000000, L_1000001, if_true, if_false, ile_t, ile_f, ilt_t, ilt_f, ieq_t, ieq_f, ieq_m, ieq_m2, ieq_mm, ilt_m, ilt_m2, ile_m, ile_m2, x_byteAt h, cI_lt hc, ck_t, nI_clamp, nI_add, pk_mul, nI_m1, pk_sub, nI_m2, min_ite]
      rw [ih (p + 1) _ (by omega) (by omega) (by omega) (fun b hb => h4 b (List.mem_cons_of_mem _ hb))]
      rfl
    · have e0 : e - p = 0 := by omega
      simp (disch := omega) only [if_true, if_false, ile_t, ile_f, ilt_t, ilt_f, ieq_t, ieq_f, ieq_m, ieq_m2, ieq_mm, ilt_m, ilt_m2, ile_m, ile_m2]
      rw [e0]; rfl
/-- a text that is given -/
def SPW (t : Nat) (W : List Nat) : Prop := cw_len.getD t 0 = W.length ∧ (∀ i, i < W.length → ((cw_byt.getD t []).getD i 0) &&& 255 = nI (cd W i)) ∧ (∀ b ∈ W, b < 256) ∧ W.length < 100
theorem x_charAt {t i : Nat} {W : List Nat} (h : SPW t W) (hi : i < W.length) : mJ0_charAt n t (nI i) σ = some (nI (cd W i), σ) := by
  obtain ⟨h1, h2, h3, h4⟩ := h
  unfold mJ0_charAt mJ1_charAt mJ0_checkIndex mJ3_checkIndex
  rw [h1]
  rw [if_neg (nI_pos (by omega)), if_pos (nI_lt hi (by omega))]
  simp (disch := omega) only [ej_bi_s, ej_bl_s, ej_bv_s, ej_nm_e, ck_t, nI_clamp]
  rw [h2 i hi]
theorem x_spells_15 {t b : Nat} {W : List Nat} (h : TX σ 6 l) (hW : SPW t W) (hb : b + W.length ≤ l.length) : ∀ (k i : Nat), W.length - i < k → i ≤ W.length → m7_spells_15 n 6 t k (nI b) (nI i) σ = some (bI (decide ((l.drop (b + i)).take (W.length - i) = W.drop i)), σ) := by
  have hl := TX_len h
  have hW4 := hW.2.2.2
  intro k
  induction k with
  | zero => intro i h1; omega
  | succ k ih =>
    intro i h1 h2
    rw [u_7_spells_15]
    unfold mJ0_length
    rw [hW.1]
    rcases Nat.lt_or_ge i W.length with q | q
    · have hc := cd_b h.2.2.2 (show b + i < l.length by omega)
      simp (disch := omega) only [ej_bi_s, ej_bl_s, ej_bv_s, ej_nm_e, ↓L_m1, L_0, L_1, L_2, L_3, L_4, L_5, L_6, L_7, L_8, L_9, L_10, L_11, L_12, L_13, L_14, L_15, L_16, L_17, L_18, L_19, L_20, L_21, L_22, L_23, L_24, L_31, L_32, L_33, L_35, L_37, L_40, L_41, L_42, L_43, L_44, L_45, L_46, L_47, L_48, L_57, L_58, L_59, L_61, L_63, L_64, L_65, L_90, L_95, L_96, L_97, L_122, L_123, L_125, L_200, L_255, L_300, L_500, L_576, L_600, L_601, L_602, L_1200, L_1800, L_2400, L_3000, L_4000, L_4096, L_5000, L_30000, L_50000, L_60000, L_70000, L_100000, L_200000, L_1000000, L_1000001, if_true, if_false, ile_t, ile_f, ilt_t, ilt_f, ieq_t, ieq_f, ieq_m, ieq_m2, ieq_mm, ilt_m, ilt_m2, ile_m, ile_m2, ck_t, nI_clamp, nI_add, pk_mul, nI_m1, pk_sub, x_byteAt h, x_charAt hW q]
      have e1 : (l.drop (b + i)).take (W.length - i) = cd l (b + i) :: (l.drop (b + (i + 1))).take (W.length - (i + 1)) := by
        rw [cd_drop (by omega), show W.length - i = (W.length - (i + 1)) + 1 by omega, List.take_succ_cons]; rfl
      rw [e1, cd_drop q, cI_lt hc]
      by_cases e : cd l (b + i) = cd W i
      · rw [if_pos (by rw [e]), ih (i + 1) (by omega) q]
        simp [e]
      · rw [if_neg (fun z => e ((nI_eq (by omega) (by have := cd_b hW.2.2.1 q; omega)).mp z))]
        simp [e, bI]
    · have e0 : W.length - i = 0 := by omega
      simp (disch := omega) only [ej_bi_s, ej_bl_s, ej_bv_s, ej_nm_e, ↓L_m1, L_0, L_1, L_2, L_3, L_4, L_5, L_6, L_7, L_8, L_9, L_10, L_11, L_12, L_13, L_14, L_15, L_16, L_17, L_18, L_19, L_20, L_21, L_22, L_23, L_24, L_31, L_32, L_33, L_35, L_37, L_40, L_41, L_42, L_43, L_44, L_45, L_46, L_47, L_48, L_57, L_58, L_59, L_61, L_63, L_64, L_65, L_90, L_95, L_96, L_97, L_122, L_123, L_125, L_200, L_255, L_300, L_500, L_576, L_600, L_601, L_602, L_1200, L_1800, L_2400, L_3000, L_4000, L_4096, L_5000, L_30000, L_50000, L_60000, L_70000, L_100000, L_200000, L_1000000, L_1000001, if_true, if_false, ile_t, ile_f, ilt_t, ilt_f, ieq_t, ieq_f, ieq_m, ieq_m2, ieq_mm, ilt_m, ilt_m2, ile_m, ile_m2]
      rw [e0, List.drop_eq_nil_of_le q]; simp [bI]
theorem x_spells {t b e : Nat} {W : List Nat} (hn : 2000 < n) (h : TX σ 6 l) (hW : SPW t W) (hb : b ≤ e) (he : e ≤ l.length) : m7_spells n 6 t (nI b) (nI e) σ = some (bI (decide ((l.drop b).take (e - b) = W)), σ) := by
  have hl := TX_len h
  have hW4 := hW.2.2.2
  unfold m7_spells mJ0_length
  rw [hW.1]
  simp only [ej_bi_s, ej_bl_s, ej_bv_s, ej_nm_e, ↓L_m1, L_0, L_1, L_2, L_3, L_4, L_5, L_6, L_7, L_8, L_9, L_10, L_11, L_12, L_13, L_14, L_15, L_16, L_17, L_18, L_19, L_20, L_21, L_22, L_23, L_24, L_31, L_32, L_33, L_35, L_37, L_40, L_41, L_42, L_43, L_44, L_45, L_46, L_47, L_48, L_57, L_58, L_59, L_61, L_63, L_64, L_65, L_90, L_95, L_96, L_97, L_122, L_123, L_125, L_200, L_255, L_300, L_500, L_576, L_600, L_601, L_602, L_1200, L_1800, L_2400, L_3000, L_4000, L_4096, L_5000, L_30000, L_50000, L_60000, L_70000, L_100000, L_200000, L_1000000, L_1000001, nI_m2 hb]
  by_cases q : e - b = W.length
  · rw [q]
    rw [ieq_t rfl, x_spells_15 h hW (by omega) n 0 (by omega) (Nat.zero_le _)]
    simp
  · rw [ieq_f q (by omega) (by omega)]
    have : ¬ (l.drop b).take (e - b) = W := fun z => q (by rw [← z, List.length_take, List.length_drop]; omega)
    simp [this, bI]
theorem SPW_3 : ∀ j, j < 10 → SPW (3 + j) ((wt j).1) := by
  intro j hj
  refine ⟨?_, ?_, ?_, ?_⟩
  · exact (by decide +kernel : ∀ j, j < 10 → cw_len.getD (3 + j) 0 = ((wt j).1).length) j hj
  · exact (by decide +kernel : ∀ j, j < 10 → ∀ i, i < ((wt j).1).length → ((cw_byt.getD (3 + j) []).getD i 0) &&& 255 = nI (cd ((wt j).1) i)) j hj
  · exact (by decide +kernel : ∀ j, j < 10 → ∀ b ∈ ((wt j).1), b < 256) j hj
  · exact (by decide +kernel : ∀ j, j < 10 → ((wt j).1).length < 100) j hj
theorem SPW_0 : SPW 0 [100, 101, 97, 100] := ⟨rfl, by decide +kernel, by decide, by decide⟩
theorem SPW_1 : SPW 1 [112, 114, 105, 118, 97, 116, 101] := ⟨rfl, by decide +kernel, by decide, by decide⟩
theorem SPW_2 : SPW 2 [103, 97, 116, 101, 100] := ⟨rfl, by decide +kernel, by decide, by decide⟩
theorem x_worthOfWord_11 (hn : 2000 < n) (h : TX σ 6 l) {b e : Nat} (hb : b ≤ e) (he : e ≤ l.length) : ∀ (k j : Nat), 10 - j < k → j ≤ 10 → m8_worthOfWord_11 n k (nI b) (nI e) (nI 10) (nI j) σ = some (wv ((l.drop b).take (e - b)) (WT.drop j), σ) := by
  intro k
  induction k with
  | zero => intro j h1; omega
  | succ k ih =>
    intro j h1 h2
    rw [u_8_worthOfWord_11]
    rcases Nat.lt_or_ge j 10 with q | q
    · have e1 : WT.drop j = wt j :: WT.drop (j + 1) := by
        unfold wt
        rw [List.getD_eq_getElem?_getD, List.getElem?_eq_getElem (by exact q)]
        exact List.drop_eq_getElem_cons q
      have e2 : cw_worth.getD j (nI 0) = (wt j).2 := (by decide +kernel : ∀ j, j < 10 → cw_worth.getD j (nI 0) = (wt j).2) j q
      simp (disch := omega) only [ej_bi_s, ej_bl_s, ej_bv_s, ej_nm_e, ↓L_m1, L_0, L_1, L_2, L_3, L_4, L_5, L_6, L_7, L_8, L_9, L_10, L_11, L_12, L_13, L_14, L_15, L_16, L_17, L_18, L_19, L_20, L_21, L_22, L_23, L_24, L_31, L_32, L_33, L_35, L_37, L_40, L_41, L_42, L_43, L_44, L_45, L_46, L_47, L_48, L_57, L_58, L_59, L_61, L_63, L_64, L_65, L_90, L_95, L_96, L_97, L_122, L_123, L_125, L_200, L_255, L_300, L_500, L_576, L_600, L_601, L_602, L_1200, L_1800, L_2400, L_3000, L_4000, L_4096, L_5000, L_30000, L_50000, L_60000, L_70000, L_100000, L_200000, L_1000000, L_1000001, if_true, if_false, ile_t, ile_f, ilt_t, ilt_f, ieq_t, ieq_f, ieq_m, ieq_m2, ieq_mm, ilt_m, ilt_m2, ile_m, ile_m2, ck_t, nI_clamp, nI_add, pk_mul, nI_m1, pk_sub, x_spells hn h (SPW_3 j q) hb he, ibI]
      rw [e1]
      by_cases g : (l.drop b).take (e - b) = (wt j).1
      · rw [if_pos (decide_eq_true g)]
        rw [wv_cons, if_pos g]
        exact congrArg (fun z => some (z, σ)) e2
      · rw [if_neg (by simp [g]), ih (j + 1) (by omega) q]
        rw [wv_cons, if_neg g]
    · have e0 : j = 10 := by omega
      subst e0
      simp (disch := omega) only [ej_bi_s, ej_bl_s, ej_bv_s, ej_nm_e, ↓L_m1, L_0, L_1, L_2, L_3, L_4, L_5, L_6, L_7, L_8, L_9, L_10, L_11, L_12, L_13, L_14, L_15, L_16, L_17, L_18, L_19, L_20, L_21, L_22, L_23, L_24, L_31, L_32, L_33, L_35, L_37, L_40, L_41, L_42, L_43, L_44, L_45, L_46, L_47, L_48, L_57, L_58, L_59, L_61, L_63, L_64, L_65, L_90, L_95, L_96, L_97, L_122, L_123, L_125, L_200, L_255, L_300, L_500, L_576, L_600, L_601, L_602, L_1200, L_1800, L_2400, L_3000, L_4000, L_4096, L_5000, L_30000, L_50000, L_60000, L_70000, L_100000, L_200000, L_1000000, L_1000001, if_true, if_false, ile_t, ile_f, ilt_t, ilt_f, ieq_t, ieq_f, ieq_m, ieq_m2, ieq_mm, ilt_m, ilt_m2, ile_m, ile_m2]
      rfl
theorem pkL_take {l : List Nat} {b j : Nat} (h : b + j < l.length) : (l.drop b).take (j + 1) = (l.drop b).take j ++ [cd l (b + j)] := by
  rw [cd_lt h, List.take_add_one, List.getElem?_drop, List.getElem?_eq_getElem h]; rfl
theorem x_packed_5 {t b e : Nat} (h : TX σ t l) (he : e ≤ l.length) (hbe : b ≤ e) : ∀ (k j : Nat), 8 - j < k → j ≤ 8 → j ≤ e - b → m7_packed_5 n t k (nI b) (nI e) (lN (pkL ((l.drop b).take j))) (nI j) σ = some (lN (pkL ((l.drop b).take (min 8 (e - b)))), σ) := by
  have hl := TX_len h
  intro k
  induction k with
  | zero => intro j h1; omega
  | succ k ih =>
    intro j h1 h2 h3
    rw [u_7_packed_5]
    rcases Nat.lt_or_ge j 8 with q | q
    · rcases Nat.lt_or_ge (b + j) e with q2 | q2
      · have hc := cd_b h.2.2.2 (show b + j < l.length by omega)
        simp (disch := omega) only [ej_bi_s, ej_bl_s, ej_bv_s, ej_nm_e, ↓L_m1, L_0, L_1, L_2, L_3, L_4, L_5, L_6, L_7, L_8, L_9, L_10, L_11, L_12, L_13, L_14, L_15, L_16, L_17, L_18, L_19, L_20, L_21, L_22, L_23, L_24, L_31, L_32, L_33, L_35, L_37, L_40, L_41, L_42, L_43, L_44, L_45, L_46, L_47, L_48, L_57, L_58, L_59, L_61, L_63, L_64, L_65, L_90, L_95, L_96, L_97, L_122, L_123, L_125, L_200, L_255, L_300, L_500, L_576, L_600, L_601, L_602, L_1200, L_1800, L_2400, L_3000, L_4000, L_4096, L_5000, L_30000, L_50000, L_60000, L_70000, L_100000, L_200000, L_1000000, L_1000001, if_true, if_false, ile_t, ile_f, ilt_t, ilt_f, ieq_t, ieq_f, ieq_m, ieq_m2, ieq_mm, ilt_m, ilt_m2, ile_m, ile_m2, ck_t, nI_clamp, nI_add, pk_mul, nI_m1, pk_sub, x_byteAt h, cI_lt hc]
        have e1 : lN (cd l (b + j)) &&& 255 = lN (cd l (b + j)) := by
          rw [show (255 : Int64) = lN (2 ^ 8 - 1) from rfl, wb_mask (by omega) (by omega), Nat.mod_eq_of_lt hc]
        have e2 : pkL ((l.drop b).take j) < 256 ^ j := by
          have := pkL_lt ((l.drop b).take j) (fun z hz => h.2.2.2 z (List.mem_of_mem_drop (List.mem_of_mem_take hz)))
          rwa [List.length_take, List.length_drop, Nat.min_eq_left (by omega)] at this
        have e4 : (2 : Nat) ^ (8 * j) = 256 ^ j := by rw [Nat.pow_mul]
        have e5 : (256 : Nat) ^ j * 256 ≤ 2 ^ 64 := by
          rw [← Nat.pow_succ, show (2 : Nat) ^ 64 = 256 ^ 8 by decide]
          exact Nat.pow_le_pow_right (by omega) q
        have e6 : pkL ((l.drop b).take j) + cd l (b + j) * 256 ^ j < 2 ^ 64 := by
          have : cd l (b + j) * 256 ^ j ≤ 255 * 256 ^ j := Nat.mul_le_mul_right _ (by omega)
          omega
        rw [nI_l (n := cd l (b + j)) (by omega), e1, wb_shl _ (show 8 * j < 64 by omega), e4, g_or' e4 e2 e6]
        have e7 : pkL ((l.drop b).take j) + cd l (b + j) * 256 ^ j = pkL ((l.drop b).take (j + 1)) := by
          rw [pkL_take (by omega), pkL_app, List.length_take, List.length_drop, Nat.min_eq_left (by omega)]
        rw [e7]
        exact ih (j + 1) (by omega) q (by omega)
      · simp (disch := omega) only [ej_bi_s, ej_bl_s, ej_bv_s, ej_nm_e, ↓L_m1, L_0, L_1, L_2, L_3, L_4, L_5, L_6, L_7, L_8, L_9, L_10, L_11, L_12, L_13, L_14, L_15, L_16, L_17, L_18, L_19, L_20, L_21, L_22, L_23, L_24, L_31, L_32, L_33, L_35, L_37, L_40, L_41, L_42, L_43, L_44, L_45, L_46, L_47, L_48, L_57, L_58, L_59, L_61, L_63, L_64, L_65, L_90, L_95, L_96, L_97, L_122, L_123, L_125, L_200, L_255, L_300, L_500, L_576, L_600, L_601, L_602, L_1200, L_1800, L_2400, L_3000, L_4000, L_4096, L_5000, L_30000, L_50000, L_60000, L_70000, L_100000, L_200000, L_1000000, L_1000001, if_true, if_false, ile_t, ile_f, ilt_t, ilt_f, ieq_t, ieq_f, ieq_m, ieq_m2, ieq_mm, ilt_m, ilt_m2, ile_m, ile_m2, ck_t, nI_clamp, nI_add, pk_mul, nI_m1, pk_sub]
        rw [show min 8 (e - b) = j by omega]
    · simp (disch := omega) only [ej_bi_s, ej_bl_s, ej_bv_s, ej_nm_e, ↓L_m1, L_0, L_1, L_2, L_3, L_4, L_5, L_6, L_7, L_8, L_9, L_10, L_11, L_12, L_13, L_14, L_15, L_16, L_17, L_18, L_19, L_20, L_21, L_22, L_23, L_24, L_31, L_32, L_33, L_35, L_37, L_40, L_41, L_42, L_43, L_44, L_45, L_46, L_47, L_48, L_57, L_58, L_59, L_61, L_63, L_64, L_65, L_90, L_95, L_96, L_97, L_122, L_123, L_125, L_200, L_255, L_300, L_500, L_576, L_600, L_601, L_602, L_1200, L_1800, L_2400, L_3000, L_4000, L_4096, L_5000, L_30000, L_50000, L_60000, L_70000, L_100000, L_200000, L_1000000, L_1000001, if_true, if_false, ile_t, ile_f, ilt_t, ilt_f, ieq_t, ieq_f, ieq_m, ieq_m2, ieq_mm, ilt_m, ilt_m2, ile_m, ile_m2]
      rw [show min 8 (e - b) = j by omega]
theorem x_packed {t b e : Nat} (hn : 2000 < n) (h : TX σ t l) (he : e ≤ l.length) (hbe : b ≤ e) : m7_packed n t (nI b) (nI e) σ = some (lN (pkL ((l.drop b).take (min 8 (e - b)))), σ) := by
  unfold m7_packed
  exact x_packed_5 h he hbe n 0 (by omega) (by omega) (by omega)
/-- a text as a name; 0 if it is none -/
def asN (l : List Nat) : Nat := if l.length ≤ 8 ∧ isNS (cd l 0) = true ∧ l.all isNP = true then pkL l else 0
theorem x_asName_24 {t : Nat} (hn : 2000 < n) (h : TX σ t l) (h8 : l.length ≤ 8) : ∀ (k i : Nat), l.length - i < k → i ≤ l.length → m7_asName_24 n t k (nI i) σ = some (lN (if (l.drop i).all isNP = true then pkL l else 0), σ) := by
  intro k
  induction k with
  | zero => intro i h1; omega
  | succ k ih =>
    intro i h1 h2
    rw [u_7_asName_24, h.1]
    rcases Nat.lt_or_ge i l.length with q | q
    · simp (disch := omega) only [ej_bi_s, ej_bl_s, ej_bv_s, ej_nm_e, ↓L_m1, L_0, L_1, L_2, L_3, L_4, L_5, L_6, L_7, L_8, L_9, L_10, L_11, L_12, L_13, L_14, L_15, L_16, L_17, L_18, L_19, L_20, L_21, L_22, L_23, L_24, L_31, L_32, L_33, L_35, L_37, L_40, L_41, L_42, L_43, L_44, L_45, L_46, L_47, L_48, L_57, L_58, L_59, L_61, L_63, L_64, L_65, L_90, L_95, L_96, L_97, L_122, L_123, L_125, L_200, L_255, L_300, L_500, L_576, L_600, L_601, L_602, L_1200, L_1800, L_2400, L_3000, L_4000, L_4096, L_5000, L_30000, L_50000, L_60000, L_70000, L_100000, L_200000, L_1000000, L_1000001, if_true, if_false, ile_t, ile_f, ilt_t, ilt_f, ieq_t, ieq_f, ieq_m, ieq_m2, ieq_mm, ilt_m, ilt_m2, ile_m, ile_m2, x_byteAt h, x_isNamePart (cd_7 h.2.2.2 i), ibI]
      rw [cd_drop q, List.all_cons]
      by_cases g : isNP (cd l i) = true
      · rw [if_pos g, g, Bool.true_and, nI_add]; exact ih (i + 1) (by omega) q
      · rw [if_neg g, if_neg (by simp [g])]; rfl
    · simp (disch := omega) only [ej_bi_s, ej_bl_s, ej_bv_s, ej_nm_e, ↓L_m1, L_0, L_1, L_2, L_3, L_4, L_5, L_6, L_7, L_8, L_9, L_10, L_11, L_12, L_13, L_14, L_15, L_16, L_17, L_18, L_19, L_20, L_21, L_22, L_23, L_24, L_31, L_32, L_33, L_35, L_37, L_40, L_41, L_42, L_43, L_44, L_45, L_46, L_47, L_48, L_57, L_58, L_59, L_61, L_63, L_64, L_65, L_90, L_95, L_96, L_97, L_122, L_123, L_125, L_200, L_255, L_300, L_500, L_576, L_600, L_601, L_602, L_1200, L_1800, L_2400, L_3000, L_4000, L_4096, L_5000, L_30000, L_50000, L_60000, L_70000, L_100000, L_200000, L_1000000, L_1000001, if_true, if_false, ile_t, ile_f, ilt_t, ilt_f, ieq_t, ieq_f, ieq_m, ieq_m2, ieq_mm, ilt_m, ilt_m2, ile_m, ile_m2]
      have := x_packed (n := n) (b := 0) (e := l.length) hn h (Nat.le_refl _) (Nat.zero_le _)
      rw [this]
      simp only [ej_bi_s, ej_bl_s, ej_bv_s, ej_nm_e]
      rw [List.drop_eq_nil_of_le q, if_pos (by rfl), List.drop_zero, Nat.sub_zero, Nat.min_eq_right h8, List.take_of_length_le (Nat.le_refl _)]
theorem x_asName {t : Nat} (hn : 2000 < n) (h : TX σ t l) : m7_asName n t σ = some (lN (asN l), σ) := by
  have hl := TX_len h
  unfold m7_asName asN
  rw [h.1]
  rcases Nat.lt_or_ge 8 l.length with q | q
  · simp (disch := omega) only [↓L_m1, L_0, L_1, L_2, L_3, L_4, L_5, L_6, L_7, L_8, L_9, L_10, L_11, L_12, L_13, L_14, L_15, L_16, L_17, L_18, L_19, L_20, L_21, L_22, L_23, L_24, L_31, L_32, L_33, L_35, L_37, L_40, L_41, L_42, L_43, L_44, L_45, L_46, L_47, L_48, L_57, L_58, L_59, L_61, L_63, L_64, L_65, L_90, L_95, L_96, L_97, L_122, L_123, L_125, L_200, L_255, L_300, L_500, L_576, L_600, L_601, L_602, L_1200, L_1800, L_2400, L_3000, L_4000, L_4096, L_5000, L_30000, L_50000, L_60000, L_70000, L_100000, L_200000, L_1000000, L_1000001, if_true, if_false, ile_t, ile_f, ilt_t, ilt_f, ieq_t, ieq_f, ieq_m, ieq_m2, ieq_mm, ilt_m, ilt_m2, ile_m, ile_m2]
    rw [if_neg (by omega)]; rfl
  · simp (disch := omega) only [ej_bi_s, ej_bl_s, ej_bv_s, ej_nm_e, ↓L_m1, L_0, L_1, L_2, L_3, L_4, L_5, L_6, L_7, L_8, L_9, L_10, L_11, L_12, L_13, L_14, L_15, L_16, L_17, L_18, L_19, L_20, L_21, L_22, L_23, L_24, L_31, L_32, L_33, L_35, L_37, L_40, L_41, L_42, L_43, L_44, L_45, L_46, L_47, L_48, L_57, L_58, L_59, L_61, L_63, L_64, L_65, L_90, L_95, L_96, L_97, L_122, L_123, L_125, L_200, L_255, L_300, L_500, L_576, L_600, L_601, L_602, L_1200, L_1800, L_2400, L_3000, L_4000, L_4096, L_5000, L_30000, L_50000, L_60000, L_70000, L_100000, L_200000, L_1000000, L_1000001, if_true, if_false, ile_t, ile_f, ilt_t, ilt_f, ieq_t, ieq_f, ieq_m, ieq_m2, ieq_mm, ilt_m, ilt_m2, ile_m, ile_m2, x_byteAt h, x_isNameStart (cd_7 h.2.2.2 0), ibI]
    by_cases g : isNS (cd l 0) = true
    · have hp : 0 < l.length := by
        rcases Nat.lt_or_ge 0 l.length with z | z
        · exact z
        · rw [cd_ge z] at g; exact absurd g (by decide)
      rw [if_pos g, x_asName_24 hn h q n 1 (by omega) (by omega)]
      have e1 : l.all isNP = (l.drop 1).all isNP := by
        conv => lhs; rw [← List.drop_zero (l := l), cd_drop hp, List.all_cons]
        simp [isNP, g]
      rw [e1]
      by_cases g2 : (l.drop 1).all isNP = true
      · rw [if_pos g2, if_pos ⟨q, g, g2⟩]
      · rw [if_neg g2, if_neg (fun z => g2 z.2.2)]
    · rw [if_neg g, if_neg (fun z => g z.2.1)]; rfl
end P54a
