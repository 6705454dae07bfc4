/-! TEXTS OF THE CLASS: bytes, their kinds, names as numbers -/
/-- the code at a place of a text, 256 where there is none -/
def cd (l : List Nat) (i : Nat) : Nat := l.getD i 256
def cI (c : Nat) : Int32 := if c = 256 then zm else nI c
theorem cI_lt {c : Nat} (h : c < 256) : cI c = nI c := if_neg (by omega)
theorem cI_256 : cI 256 = zm := rfl
theorem cI_eq {c k : Nat} (hc : c < 257) (hk : k < 256) : (cI c = nI k) ↔ c = k := by
  unfold cI
  split
  · rename_i h; subst h
    exact ⟨fun e => absurd e.symm (zm_ne (by omega)), fun e => by omega⟩
  · exact nI_eq (by omega) (by omega)
theorem cI_m {c : Nat} (hc : c < 257) : (cI c = zm) ↔ c = 256 := by
  unfold cI
  split
  · rename_i h; exact ⟨fun _ => h, fun _ => rfl⟩
  · rename_i h; exact ⟨fun e => absurd e (zm_ne (by omega)), fun e => absurd e h⟩
theorem cd_ge {l : List Nat} {i : Nat} (h : l.length ≤ i) : cd l i = 256 := by
  unfold cd; rw [List.getD_eq_getElem?_getD, List.getElem?_eq_none h]; rfl
theorem cd_lt {l : List Nat} {i : Nat} (h : i < l.length) : cd l i = l[i] := by
  unfold cd; rw [List.getD_eq_getElem?_getD, List.getElem?_eq_getElem h]; rfl
theorem cd_b {l : List Nat} (hb : ∀ b ∈ l, b < 256) {i : Nat} (h : i < l.length) : cd l i < 256 := by rw [cd_lt h]; exact hb _ (List.getElem_mem h)
theorem cd_7 {l : List Nat} (hb : ∀ b ∈ l, b < 256) (i : Nat) : cd l i < 257 := by
  rcases Nat.lt_or_ge i l.length with h | h
  · have := cd_b hb h; omega
  · rw [cd_ge h]; omega
theorem cd_drop {l : List Nat} {i : Nat} (h : i < l.length) : l.drop i = cd l i :: l.drop (i + 1) := by rw [cd_lt h]; exact List.drop_eq_getElem_cons h
theorem cd_app {l : List Nat} {x i : Nat} : cd (l ++ [x]) i = if i < l.length then cd l i else if i = l.length then x else 256 := by
  split
  · rename_i h
    rw [cd_lt h, cd_lt (by rw [List.length_append]; omega), List.getElem_append_left h]
  · split
    · rename_i h; subst h
      rw [cd_lt (by simp), List.getElem_append_right (Nat.le_refl _)]; simp
    · rw [cd_ge (by simp; omega)]
def isNS (c : Nat) : Bool := (decide (97 ≤ c) && decide (c ≤ 122)) || decide (c = 46)
def isDg (c : Nat) : Bool := decide (48 ≤ c) && decide (c ≤ 57)
def isNP (c : Nat) : Bool := isNS c || isDg c || decide (c = 45)
def isUp (c : Nat) : Bool := decide (65 ≤ c) && decide (c ≤ 90)
def isSg (c : Nat) : Bool := decide (c ∈ [33, 40, 41, 42, 43, 44, 45, 47, 59, 61, 64, 123, 125])
def srtc (c : Nat) : Nat := if isNS c then 97 else if isUp c then 65 else if isDg c then 48 else if c = 10 then 59 else if isSg c then c else 63
def gon (s c : Nat) : Bool := (decide (s = 97) && isNP c) || (decide (s = 65) && isUp c) || (decide (s = 48) && isDg c)
theorem isome {c : Prop} [Decidable c] {a b : Int32} {σ : ej_S} : (if c then some (a, σ) else some (b, σ)) = some ((if c then a else b), σ) := by split <;> rfl
section P53a
variable {n c s : Nat} {σ : ej_S}
theorem v_isNameStart : ∀ c, c < 257 → (if cI c < 97 then (if cI c = 46 then (1 : Int32) else 0) else if cI c ≤ 122 then 1 else if cI c = 46 then 1 else 0) = bI (isNS c) := by decide +kernel
theorem x_isNameStart (h : c < 257) : m10_isNameStart n (cI c) σ = some (bI (isNS c), σ) := by
  unfold m10_isNameStart; simp only [isome, v_isNameStart c h]
theorem v_isWordPart : ∀ c, c < 257 → (if cI c < 65 then (0 : Int32) else if 90 < cI c then 0 else 1) = bI (isUp c) := by decide +kernel
theorem x_isWordPart (h : c < 257) : m10_isWordPart n (cI c) σ = some (bI (isUp c), σ) := by
  unfold m10_isWordPart; simp only [isome, v_isWordPart c h]
theorem v_isDigit : ∀ c, c < 257 → (if cI c < 48 then (0 : Int32) else if 57 < cI c then 0 else 1) = bI (isDg c) := by decide +kernel
theorem x_isDigit (h : c < 257) : m10_isDigit n (cI c) σ = some (bI (isDg c), σ) := by
  unfold m10_isDigit; simp only [isome, v_isDigit c h]
theorem x_isNamePart (h : c < 257) : m10_isNamePart n (cI c) σ = some (bI (isNP c), σ) := by
  unfold m10_isNamePart
  simp only [x_isNameStart h, x_isDigit h, ej_bi_s, ↓L_m1, L_0, L_1, L_2, L_3, L_4, L_5, L_6, L_7, L_8, L_9, L_10, L_11, L_12, L_13, L_14, L_15, L_16, L_17, L_18, L_19, L_20, L_21, L_22, L_23, L_24, L_31, L_32, L_33, L_35, L_37, L_40, L_41, L_42, L_43, L_44, L_45, L_46, L_47, L_48, L_57, L_58, L_59, L_61, L_63, L_64, L_65, L_90, L_95, L_96, L_97, L_122, L_123, L_125, L_200, L_255, L_300, L_500, L_576, L_600, L_601, L_602, L_1200, L_1800, L_2400, L_3000, L_4000, L_4096, L_5000, L_30000, L_50000, L_60000, L_70000, L_100000, L_200000, L_1000000, L_1000001, ibI, cI_eq h (show 45 < 256 by omega), isNP]
  cases isNS c <;> cases isDg c <;> by_cases h1 : c = 45 <;> simp [h1, bI]
theorem v_isSign : ∀ c, c < 257 → (if cI c = 33 then (1 : Int32) else (if cI c = 40 then 1 else (if cI c = 41 then 1 else (if cI c = 42 then 1 else (if cI c = 43 then 1 else (if cI c = 44 then 1 else (if cI c = 45 then 1 else (if cI c = 47 then 1 else (if cI c = 59 then 1 else (if cI c = 61 then 1 else (if cI c = 64 then 1 else (if cI c = 123 then 1 else (if cI c = 125 then 1 else 0))))))))))))) = bI (isSg c) := by decide +kernel
theorem x_isSign (h : c < 257) : m8_isSign n (cI c) σ = some (bI (isSg c), σ) := by
  unfold m8_isSign; simp only [isome, v_isSign c h]
theorem x_sortOf (h : c < 256) : m8_sortOf n (cI c) σ = some (nI (srtc c), σ) := by
  have h' : c < 257 := by omega
  unfold m8_sortOf srtc
  simp only [x_isNameStart h', x_isDigit h', x_isWordPart h', x_isSign h', ej_bi_s, ↓L_m1, L_0, L_1, L_2, L_3, L_4, L_5, L_6, L_7, L_8, L_9, L_10, L_11, L_12, L_13, L_14, L_15, L_16, L_17, L_18, L_19, L_20, L_21, L_22, L_23, L_24, L_31, L_32, L_33, L_35, L_37, L_40, L_41, L_42, L_43, L_44, L_45, L_46, L_47, L_48, L_57, L_58, L_59, L_61, L_63, L_64, L_65, L_90, L_95, L_96, L_97, L_122, L_123, L_125, L_200, L_255, L_300, L_500, L_576, L_600, L_601, L_602, L_1200, L_1800, L_2400, L_3000, L_4000, L_4096, L_5000, L_30000, L_50000, L_60000, L_70000, L_100000, L_200000, L_1000000, L_1000001, ibI, cI_eq h' (show 10 < 256 by omega)]
  rw [cI_lt h]
  cases isNS c <;> cases isDg c <;> cases isUp c <;> cases isSg c <;> by_cases h1 : c = 10 <;> simp [h1]
theorem x_goesOn (h : c < 257) (hs : s < 2 ^ 31) : m8_goesOn n (nI s) (cI c) σ = some (bI (gon s c), σ) := by
  unfold m8_goesOn m8_goesOn_13 m8_goesOn_26 gon
  simp only [x_isNamePart h, x_isWordPart h, x_isDigit h, ej_bi_s, ↓L_m1, L_0, L_1, L_2, L_3, L_4, L_5, L_6, L_7, L_8, L_9, L_10, L_11, L_12, L_13, L_14, L_15, L_16, L_17, L_18, L_19, L_20, L_21, L_22, L_23, L_24, L_31, L_32, L_33, L_35, L_37, L_40, L_41, L_42, L_43, L_44, L_45, L_46, L_47, L_48, L_57, L_58, L_59, L_61, L_63, L_64, L_65, L_90, L_95, L_96, L_97, L_122, L_123, L_125, L_200, L_255, L_300, L_500, L_576, L_600, L_601, L_602, L_1200, L_1800, L_2400, L_3000, L_4000, L_4096, L_5000, L_30000, L_50000, L_60000, L_70000, L_100000, L_200000, L_1000000, L_1000001, ibI, nI_eq hs (show 97 < 2 ^ 31 by omega), nI_eq hs (show 65 < 2 ^ 31 by omega), nI_eq hs (show 48 < 2 ^ 31 by omega)]
  by_cases h1 : s = 97
  · subst h1; cases isNP c <;> simp [bI]
  · by_cases h2 : s = 65
    · subst h2; cases isUp c <;> simp [bI]
    · by_cases h3 : s = 48
      · subst h3; cases isDg c <;> simp [bI]
      · simp [h1, h2, h3, bI]
end P53a
/-- a text of the class -/
def TX (σ : ej_S) (t : Nat) (l : List Nat) : Prop := gI σ t = nI l.length ∧ l.length ≤ cw_tl t ∧ (∀ i, i < l.length → gA σ t i &&& nI 255 = nI (cd l i)) ∧ ∀ b ∈ l, b < 256
theorem tl_le (t : Nat) : cw_tl t ≤ 1200 := by unfold cw_tl; split <;> omega
theorem TX_cg {σ σ' : ej_S} {t : Nat} {l : List Nat} (h : TX σ t l) (h1 : gI σ' t = gI σ t) (h2 : gA σ' t = gA σ t) : TX σ' t l := by unfold TX; rw [h1, h2]; exact h
theorem TX_fr {I J A B M : List Nat} {σ σ' : ej_S} {t : Nat} {l : List Nat} (h : TX σ t l) (f : fr I J A B M σ σ') (h1 : t ∉ I) (h2 : t ∉ A) : TX σ' t l := TX_cg h (f.1 t h1) (f.2.2.1 t h2)
theorem TX_len {σ : ej_S} {t : Nat} {l : List Nat} (h : TX σ t l) : l.length ≤ 1200 := Nat.le_trans h.2.1 (tl_le t)
section P53b
variable {n t t1 i b x : Nat} {σ : ej_S} {l s : List Nat} {v : Int32}
theorem x_byteAt (h : TX σ t l) (hi : i < 2 ^ 31) : m7_byteAt n t (nI i) σ = some (cI (cd l i), σ) := by
  obtain ⟨h1, h2, h3, h4⟩ := h
  have ht := tl_le t
  unfold m7_byteAt
  rw [h1]
  rcases Nat.lt_or_ge i l.length with hl | hl
  · simp (disch := omega) only [↓L_m1, L_0, L_1, L_2, L_3, L_4, L_5, L_6, L_7, L_8, L_9, L_10, L_11, L_12, L_13, L_14, L_15, L_16, L_17, L_18, L_19, L_20, L_21, L_22, L_23, L_24, L_31, L_32, L_33, L_35, L_37, L_40, L_41, L_42, L_43, L_44, L_45, L_46, L_47, L_48, L_57, L_58, L_59, L_61, L_63, L_64, L_65, L_90, L_95, L_96, L_97, L_122, L_123, L_125, L_200, L_255, L_300, L_500, L_576, L_600, L_601, L_602, L_1200, L_1800, L_2400, L_3000, L_4000, L_4096, L_5000, L_30000, L_50000, L_60000, L_70000, L_100000, L_200000, L_1000000, L_1000001, o_nI, if_true, if_false, ile_t, ile_f, ilt_t, ilt_f, ieq_t, ieq_f, ieq_m, ieq_m2, ieq_mm, ilt_m, ilt_m2, ile_m, ile_m2, ck_t, nI_clamp, nI_add, pk_mul, nI_m1, pk_sub]
    rw [h3 i hl, cI_lt (cd_b h4 hl)]
  · simp (disch := omega) only [↓L_m1, L_0, L_1, L_2, L_3, L_4, L_5, L_6, L_7, L_8, L_9, L_10, L_11, L_12, L_13, L_14, L_15, L_16, L_17, L_18, L_19, L_20, L_21, L_22, L_23, L_24, L_31, L_32, L_33, L_35, L_37, L_40, L_41, L_42, L_43, L_44, L_45, L_46, L_47, L_48, L_57, L_58, L_59, L_61, L_63, L_64, L_65, L_90, L_95, L_96, L_97, L_122, L_123, L_125, L_200, L_255, L_300, L_500, L_576, L_600, L_601, L_602, L_1200, L_1800, L_2400, L_3000, L_4000, L_4096, L_5000, L_30000, L_50000, L_60000, L_70000, L_100000, L_200000, L_1000000, L_1000001, o_nI, if_true, if_false, ile_t, ile_f, ilt_t, ilt_f, ieq_t, ieq_f, ieq_m, ieq_m2, ieq_mm, ilt_m, ilt_m2, ile_m, ile_m2, ck_t, nI_clamp, nI_add, pk_mul, nI_m1, pk_sub]
    rw [cd_ge hl]; rfl
theorem x_append (h : TX σ t l) (hl : l.length < cw_tl t) (hb : b < 256) (hv : v &&& nI 255 = nI b) : ∃ σ', m7_append n t v σ = some σ' ∧ TX σ' t (l ++ [b]) ∧ fr [t] [] [t] [] [] σ σ' := by
  obtain ⟨h1, h2, h3, h4⟩ := h
  have ht := tl_le t
  refine ⟨_, by unfold m7_append; rw [h1]; simp (disch := omega) only [↓L_m1, L_0, L_1, L_2, L_3, L_4, L_5, L_6, L_7, L_8, L_9, L_10, L_11, L_12, L_13, L_14, L_15, L_16, L_17, L_18, L_19, L_20, L_21, L_22, L_23, L_24, L_31, L_32, L_33, L_35, L_37, L_40, L_41, L_42, L_43, L_44, L_45, L_46, L_47, L_48, L_57, L_58, L_59, L_61, L_63, L_64, L_65, L_90, L_95, L_96, L_97, L_122, L_123, L_125, L_200, L_255, L_300, L_500, L_576, L_600, L_601, L_602, L_1200, L_1800, L_2400, L_3000, L_4000, L_4096, L_5000, L_30000, L_50000, L_60000, L_70000, L_100000, L_200000, L_1000000, L_1000001, o_nI, if_true, if_false, ile_t, ile_f, ilt_t, ilt_f, ieq_t, ieq_f, ieq_m, ieq_m2, ieq_mm, ilt_m, ilt_m2, ile_m, ile_m2, ck_t, nI_clamp, nI_add, pk_mul, nI_m1, pk_sub, ej_bi_s, ej_bl_s, ej_bv_s, ej_nm_e, s_IA, h1]; rfl, ⟨?_, ?_, ?_, ?_⟩, fr_uI (fr_uA fr_rf (by simp)) (by simp)⟩
  · rw [s_II_s, List.length_append]; rfl
  · rw [List.length_append]; exact hl
  · intro i hi
    rw [List.length_append] at hi
    rw [s_AI, s_AA_s, cd_app]
    split
    · rename_i q
      rw [pk_un (by omega)]; exact h3 i q
    · have e : i = l.length := by simp at hi; omega
      subst e
      rw [pk_us, if_pos rfl, pk_vb]
      exact (bp_b v).trans hv
  · intro z hz
    rcases List.mem_append.mp hz with q | q
    · exact h4 z q
    · rw [List.mem_singleton.mp q]; exact hb
theorem x_clear : ∃ σ', m7_clear n t σ = some σ' ∧ TX σ' t [] ∧ fr [t] [] [] [] [] σ σ' := ⟨_, rfl, ⟨s_II_s, Nat.zero_le _, fun i hi => absurd hi (Nat.not_lt_zero i), fun b hb => by cases hb⟩, fr_uI fr_rf (by simp)⟩
theorem and255 (hb : b < 256) : nI b &&& nI 255 = nI b := by rw [fa_and, show (255 : Nat) = 2 ^ 8 - 1 from rfl, Nat.and_two_pow_sub_one_eq_mod, Nat.mod_eq_of_lt hb]
theorem x_appendPart_7 (e : Nat) (htt : t ≠ t1) : ∀ (k i : Nat) (l : List Nat) (σ : ej_S), TX σ t l → TX σ t1 s → e ≤ s.length → i ≤ e → e - i < k → l.length + (e - i) ≤ cw_tl t → ∃ σ', m7_appendPart_7 n t t1 k (nI e) (nI i) σ = some σ' ∧ TX σ' t (l ++ (s.take e).drop i) ∧ fr [t] [] [t] [] [] σ σ' := by
  intro k
  induction k with
  | zero => intro i l σ _ _ _ _ h; omega
  | succ k ih =>
    intro i l σ h hs he hi hk hr
    have hs2 := TX_len hs
    rw [u_7_appendPart_7]
    rcases Nat.lt_or_ge i e with q | q
    · obtain ⟨σ1, e1, t1', f1⟩ := x_append (n := n) (b := cd s i) (v := nI (cd s i)) h (by omega) (cd_b hs.2.2.2 (by omega)) (by rw [and255 (cd_b hs.2.2.2 (by omega))])
      obtain ⟨σ2, e2, t2', f2⟩ := ih (i + 1) (l ++ [cd s i]) σ1 t1' (TX_fr hs f1 (by simpa using htt.symm) (by simpa using htt.symm)) he q (by omega) (by rw [List.length_append]; simp; omega)
      refine ⟨σ2, ?_, ?_, fr_tr f1 f2⟩
      · rw [hs.1]
        simp (disch := omega) only [↓L_m1, L_0, L_1, L_2, L_3, L_4, L_5, L_6, L_7, L_8, L_9, L_10, L_11, L_12, L_13, L_14, L_15, L_16, L_17, L_18, L_19, L_20, L_21, L_22, L_23, L_24, L_31, L_32, L_33, L_35, L_37, L_40, L_41, L_42, L_43, L_44, L_45, L_46, L_47, L_48, L_57, L_58, L_59, L_61, L_63, L_64, L_65, L_90, L_95, L_96, L_97, L_122, L_123, L_125, L_200, L_255, L_300, L_500, L_576, L_600, L_601, L_602, L_1200, L_1800, L_2400, L_3000, L_4000, L_4096, L_5000, L_30000, L_50000, L_60000, L_70000, L_100000, L_200000, L_1000000, L_1000001, if_true, if_false, ile_t, ile_f, ilt_t, ilt_f, ieq_t, ieq_f, ieq_m, ieq_m2, ieq_mm, ilt_m, ilt_m2, ile_m, ile_m2, ck_t, nI_clamp, nI_add, pk_mul, nI_m1, pk_sub, ej_bi_s, ej_bl_s, ej_bv_s, ej_nm_e, x_byteAt hs, cI_lt (cd_b hs.2.2.2 (show i < s.length by omega)), e1, e2]
      · have e3 : (s.take e).drop i = cd s i :: (s.take e).drop (i + 1) := by
          rw [cd_lt (by omega)]
          rw [List.drop_eq_getElem_cons (by rw [List.length_take]; omega), List.getElem_take]
        rw [e3]
        rw [List.append_assoc] at t2'
        exact t2'
    · have e0 : i = e := by omega
      subst e0
      refine ⟨σ, ?_, ?_, fr_rf⟩
      · simp (disch := omega) only [if_true, if_false, ile_t, ile_f, ilt_t, ilt_f, ieq_t, ieq_f, ieq_m, ieq_m2, ieq_mm, ilt_m, ilt_m2, ile_m, ile_m2]
      · rw [List.drop_eq_nil_of_le (by rw [List.length_take]; omega), List.append_nil]; exact h
theorem x_appendPart (htt : t ≠ t1) {e i : Nat} (hn : 2000 < n) (h : TX σ t l) (hs : TX σ t1 s) (he : e ≤ s.length) (hi : i ≤ e) (hr : l.length + (e - i) ≤ cw_tl t) : ∃ σ', m7_appendPart n t t1 (nI i) (nI e) σ = some σ' ∧ TX σ' t (l ++ (s.take e).drop i) ∧ fr [t] [] [t] [] [] σ σ' := by
  have hs2 := TX_len hs
  obtain ⟨σ', e1, h1, f1⟩ := x_appendPart_7 (n := n) e htt n i l σ h hs he hi (by omega) hr
  refine ⟨σ', ?_, h1, f1⟩
  unfold m7_appendPart
  simp (disch := omega) only [↓L_m1, L_0, L_1, L_2, L_3, L_4, L_5, L_6, L_7, L_8, L_9, L_10, L_11, L_12, L_13, L_14, L_15, L_16, L_17, L_18, L_19, L_20, L_21, L_22, L_23, L_24, L_31, L_32, L_33, L_35, L_37, L_40, L_41, L_42, L_43, L_44, L_45, L_46, L_47, L_48, L_57, L_58, L_59, L_61, L_63, L_64, L_65, L_90, L_95, L_96, L_97, L_122, L_123, L_125, L_200, L_255, L_300, L_500, L_576, L_600, L_601, L_602, L_1200, L_1800, L_2400, L_3000, L_4000, L_4096, L_5000, L_30000, L_50000, L_60000, L_70000, L_100000, L_200000, L_1000000, L_1000001, if_true, if_false, ile_t, ile_f, ilt_t, ilt_f, ieq_t, ieq_f, ieq_m, ieq_m2, ieq_mm, ilt_m, ilt_m2, ile_m, ile_m2, ej_bi_s, ej_bl_s, ej_bv_s, ej_nm_e, e1]
theorem x_become (htt : t ≠ t1) (hn : 2000 < n) (hs : TX σ t1 s) (hr : s.length ≤ cw_tl t) : ∃ σ', m7_become n t t1 σ = some σ' ∧ TX σ' t s ∧ fr [t] [] [t] [] [] σ σ' := by
  obtain ⟨σ1, e1, h1, f1⟩ := x_clear (n := n) (t := t) (σ := σ)
  have hs1 : TX σ1 t1 s := TX_fr hs f1 (by simpa using htt.symm) (by simp)
  obtain ⟨σ2, e2, h2, f2⟩ := x_appendPart (n := n) (e := s.length) (i := 0) htt hn h1 hs1 (Nat.le_refl _) (Nat.zero_le _) (by simpa using hr)
  refine ⟨σ2, ?_, ?_, fr_tr (fr_wk f1 (by simp) (by simp) (by simp) (by simp) (by simp)) f2⟩
  · unfold m7_become
    rw [e1]
    simp only [ej_bi_s, ej_bl_s, ej_bv_s, ej_nm_e, ↓L_m1, L_0, L_1, L_2, L_3, L_4, L_5, L_6, L_7, L_8, L_9, L_10, L_11, L_12, L_13, L_14, L_15, L_16, L_17, L_18, L_19, L_20, L_21, L_22, L_23, L_24, L_31, L_32, L_33, L_35, L_37, L_40, L_41, L_42, L_43, L_44, L_45, L_46, L_47, L_48, L_57, L_58, L_59, L_61, L_63, L_64, L_65, L_90, L_95, L_96, L_97, L_122, L_123, L_125, L_200, L_255, L_300, L_500, L_576, L_600, L_601, L_602, L_1200, L_1800, L_2400, L_3000, L_4000, L_4096, L_5000, L_30000, L_50000, L_60000, L_70000, L_100000, L_200000, L_1000000, L_1000001]
    rw [hs1.1, e2]; rfl
  · simpa using h2
end P53b
/-- bytes as a number, the first one lowest -/
def pkL : List Nat → Nat
  | [] => 0
  | b :: r => b + 256 * pkL r
theorem pkL_lt : ∀ (l : List Nat), (∀ b ∈ l, b < 256) → pkL l < 256 ^ l.length
  | [], _ => by simp [pkL]
  | b :: r, h => by
    have h1 := pkL_lt r (fun z hz => h z (List.mem_cons_of_mem _ hz))
    have h2 := h b List.mem_cons_self
    simp only [pkL, List.length_cons, Nat.pow_succ]
    omega
theorem pkL_app : ∀ (l : List Nat) (x : Nat), pkL (l ++ [x]) = pkL l + x * 256 ^ l.length
  | [], x => by simp [pkL]
  | b :: r, x => by
    have h1 := pkL_app r x
    simp only [List.cons_append, pkL, h1, List.length_cons, Nat.pow_succ, Nat.mul_add]
    rw [Nat.mul_comm (256 ^ r.length) 256, ← Nat.mul_assoc, ← Nat.mul_assoc, Nat.mul_comm x 256]
    omega
theorem pkL_at : ∀ (l : List Nat) (i : Nat), (∀ b ∈ l, b < 256) → pkL l / 256 ^ i % 256 = l.getD i 0
  | [], i, _ => by simp [pkL]
  | b :: r, 0, h => by
    have h2 := h b List.mem_cons_self
    simp [pkL]; omega
  | b :: r, i + 1, h => by
    have h2 := h b List.mem_cons_self
    have h3 := pkL_at r i (fun z hz => h z (List.mem_cons_of_mem _ hz))
    rw [Nat.pow_succ, Nat.mul_comm, ← Nat.div_div_eq_div_mul]
    have e : pkL (b :: r) / 256 = pkL r := by simp only [pkL]; omega
    rw [e, h3]; simp
theorem pkL_7 : ∀ (l : List Nat), (∀ b ∈ l, b < 128) → l.length ≤ 8 → pkL l < 2 ^ 63
  | l, h, hl => by
    have : ∀ (m : Nat) (r : List Nat), (∀ b ∈ r, b < 128) → r.length ≤ m + 1 → pkL r < 128 * 256 ^ m := by
      intro m
      induction m with
      | zero =>
        intro r hr hm
        match r, hr, hm with
        | [], _, _ => simp [pkL]
        | [b], hr, _ => have := hr b List.mem_cons_self; simp [pkL]; omega
      | succ m ih =>
        intro r hr hm
        match r, hr, hm with
        | [], _, _ => simp [pkL]; exact Nat.pos_of_ne_zero (by simp)
        | b :: r, hr, hm =>
          have h1 := ih r (fun z hz => hr z (List.mem_cons_of_mem _ hz)) (by simpa using hm)
          have h2 := hr b List.mem_cons_self
          simp only [pkL, Nat.pow_succ]
          omega
    exact this 7 l h hl
theorem pkL_inj : ∀ (l m : List Nat), (∀ b ∈ l, b < 256 ∧ 0 < b) → (∀ b ∈ m, b < 256 ∧ 0 < b) → pkL l = pkL m → l = m
  | [], [], _, _, _ => rfl
  | [], b :: r, _, h, e => by have := h b List.mem_cons_self; simp [pkL] at e; omega
  | b :: r, [], h, _, e => by have := h b List.mem_cons_self; simp [pkL] at e; omega
  | b :: r, c :: q, h, h', e => by
    have h1 := h b List.mem_cons_self
    have h2 := h' c List.mem_cons_self
    simp only [pkL] at e
    have e1 : b = c := by omega
    have e2 : pkL r = pkL q := by omega
    rw [e1, pkL_inj r q (fun z hz => h z (List.mem_cons_of_mem _ hz)) (fun z hz => h' z (List.mem_cons_of_mem _ hz)) e2]
/-- the byte of a long name -/
theorem x_nameByte {n v i : Nat} {σ : ej_S} (hv : v < 2 ^ 64) (hi : i < 8) : m10_nameByte n (lN v) (nI i) σ = some (nI (v / 256 ^ i % 256), σ) := by
  unfold m10_nameByte
  simp (disch := omega) only [↓L_m1, L_0, L_1, L_2, L_3, L_4, L_5, L_6, L_7, L_8, L_9, L_10, L_11, L_12, L_13, L_14, L_15, L_16, L_17, L_18, L_19, L_20, L_21, L_22, L_23, L_24, L_31, L_32, L_33, L_35, L_37, L_40, L_41, L_42, L_43, L_44, L_45, L_46, L_47, L_48, L_57, L_58, L_59, L_61, L_63, L_64, L_65, L_90, L_95, L_96, L_97, L_122, L_123, L_125, L_200, L_255, L_300, L_500, L_576, L_600, L_601, L_602, L_1200, L_1800, L_2400, L_3000, L_4000, L_4096, L_5000, L_30000, L_50000, L_60000, L_70000, L_100000, L_200000, L_1000000, L_1000001, if_true, if_false, ile_t, ile_f, ilt_t, ilt_f, ieq_t, ieq_f, ieq_m, ieq_m2, ieq_mm, ilt_m, ilt_m2, ile_m, ile_m2, ck_t, nI_clamp, nI_add, pk_mul, nI_m1, pk_sub]
  rw [wb_shr hv (by omega), lN_i, show (255 : Nat) = 2 ^ 8 - 1 from rfl, fa_mask, show (2 : Nat) ^ (8 * i) = 256 ^ i by rw [Nat.pow_mul]]
