/-! SETS OF NODES AS BITS, NODES AND NAMES -/
def stb (a : Nat) : Int32 := (1 : Int32) <<< (nI a &&& 31)
theorem bt_1 : ∀ i, i < 32 → bt 1 i = decide (i = 0) := by decide +kernel
theorem bt_stb {a i : Nat} (ha : a < 32) (hi : i < 32) : bt (stb a) i = decide (i = a) := by
  unfold stb
  rw [b_shl a ha 1 hi]
  rcases Nat.lt_or_ge i a with h | h
  · rw [decide_eq_false (by omega), decide_eq_false (by omega)]; rfl
  · rw [decide_eq_true h, bt_1 _ (by omega), Bool.true_and]
    by_cases e : i = a
    · rw [decide_eq_true e, decide_eq_true (by omega)]
    · rw [decide_eq_false e, decide_eq_false (by omega)]
theorem bt_or (x : Int32) {a i : Nat} (ha : a < 32) (hi : i < 32) : bt (x ||| stb a) i = (bt x i || decide (i = a)) := by rw [b_or, bt_stb ha hi]
theorem bt_andn (x : Int32) {a i : Nat} (ha : a < 32) (hi : i < 32) : bt (x &&& (stb a ^^^ zm)) i = (bt x i && !decide (i = a)) := by
  rw [b_and, b_xor, bt_stb ha hi, show bt zm i = true from b_m1 i hi, Bool.xor_true]
theorem and_1 (x : Int32) : x &&& 1 = 0 ↔ bt x 0 = false := by
  constructor
  · intro h
    have : bt (x &&& 1) 0 = false := by rw [h]; exact b_0 0
    rw [b_and, bt_1 0 (by omega)] at this
    simpa using this
  · intro h
    apply b_ext
    intro i hi
    rw [b_and, bt_1 i hi, b_0]
    by_cases e : i = 0
    · subst e; rw [h]; rfl
    · rw [decide_eq_false e, Bool.and_false]
theorem and_1' (x : Int32) : x &&& 1 = 1 ↔ bt x 0 = true := by
  constructor
  · intro h
    cases e : bt x 0
    · rw [(and_1 x).mpr e] at h; exact absurd h (by decide)
    · rfl
  · intro h
    apply b_ext
    intro i hi
    rw [b_and, bt_1 i hi]
    by_cases e : i = 0
    · subst e; rw [h]; rfl
    · rw [decide_eq_false e, Bool.and_false]
theorem sh_bt (x : Int32) {a : Nat} (ha : a < 24) : bt (x >>> (nI a &&& 31)) 0 = bt x a := by
  rw [b_sshr a (by omega) x (by omega), if_pos (by omega), Nat.add_zero]
section P60a
variable {n a N : Nat} {σ : ej_S} {x : Int32}
theorem x_holds (ha : a < 24) : m10_holds n x (nI a) σ = some (bI (bt x a), σ) := by
  unfold m10_holds
  rw [L_24, L_0, ilt_f (Nat.zero_le a) (by omega), ile_f ha (by omega), ← L_0]
  have h := and_1 (x >>> (nI a &&& 31))
  rw [sh_bt x ha] at h
  cases e : bt x a
  · rw [if_pos (h.mpr e)]; rfl
  · rw [if_neg (fun z => by rw [h.mp z] at e; cases e)]; rfl
theorem x_holds_m : m10_holds n x zm σ = some (bI false, σ) := by
  unfold m10_holds; rw [if_pos (show zm < 0 by decide)]; rfl
theorem x_setOf (ha : a < 24) : m10_setOf n (nI a) σ = some (stb a, σ) := by
  unfold m10_setOf
  rw [L_24, L_0, ilt_f (Nat.zero_le a) (by omega), ilt_t ha (by omega)]; rfl
theorem x_setOf_m : m10_setOf n zm σ = some (nI 0, σ) := by
  unfold m10_setOf; rw [if_pos (show zm < 0 by decide)]; rfl
/-- how many nodes the class has -/
def wfC (σ : ej_S) : Prop := ∃ N, N ≤ 24 ∧ gI σ 22 = nI N
theorem x_has (h : gI σ 22 = nI N) (hN : N ≤ 24) (ha : a < 2 ^ 31) : m0_has n (nI a) σ = some (bI (decide (a < N)), σ) := by
  unfold m0_has
  rw [h]
  rcases Nat.lt_or_ge a N with q | q
  · simp (disch := omega) only [↓L_m1, L_0, L_1, L_2, L_3, L_4, L_5, L_6, L_7, L_8, L_9, L_10, L_11, L_12, L_13, L_14, L_15, L_16, L_17, L_18, L_19, L_20, L_21, L_22, L_23, L_24, L_31, L_32, L_33, L_35, L_37, L_40, L_41, L_42, L_43, L_44, L_45, L_46, L_47, L_48, L_57, L_58, L_59, L_61, L_63, L_64, L_65, L_90, L_95, L_96, L_97, L_122, L_123, L_125, L_200, L_255, L_300, L_500, L_576, L_600, L_601, L_602, L_1200, L_1800, L_2400, L_3000, L_4000, L_4096, L_5000, L_30000, L_50000, L_60000, L_70000, L_100000, L_200000, L_1000000, L_1000001, if_true, if_false, ile_t, ile_f, ilt_t, ilt_f, ieq_t, ieq_f, ieq_m, ieq_m2, ieq_mm, ilt_m, ilt_m2, ile_m, ile_m2]; rw [decide_eq_true q]; rfl
  · simp (disch := omega) only [↓L_m1, L_0, L_1, L_2, L_3, L_4, L_5, L_6, L_7, L_8, L_9, L_10, L_11, L_12, L_13, L_14, L_15, L_16, L_17, L_18, L_19, L_20, L_21, L_22, L_23, L_24, L_31, L_32, L_33, L_35, L_37, L_40, L_41, L_42, L_43, L_44, L_45, L_46, L_47, L_48, L_57, L_58, L_59, L_61, L_63, L_64, L_65, L_90, L_95, L_96, L_97, L_122, L_123, L_125, L_200, L_255, L_300, L_500, L_576, L_600, L_601, L_602, L_1200, L_1800, L_2400, L_3000, L_4000, L_4096, L_5000, L_30000, L_50000, L_60000, L_70000, L_100000, L_200000, L_1000000, L_1000001, if_true, if_false, ile_t, ile_f, ilt_t, ilt_f, ieq_t, ieq_f, ieq_m, ieq_m2, ieq_mm, ilt_m, ilt_m2, ile_m, ile_m2]; rw [decide_eq_false (by omega)]; rfl
theorem x_has_m : m0_has n zm σ = some (bI false, σ) := by
  unfold m0_has; rw [if_pos (show zm < 0 by decide)]; rfl
/-- a node as the class has it: there, or none -/
def ND (x : Int32) : Prop := x = zm ∨ ∃ a, a < 24 ∧ x = nI a
theorem x_find_3 {v : Int64} {o : Int32} (h : gI σ 22 = nI N) (hN : N ≤ 24) : ∀ (k j : Nat), N - j < k → j ≤ N → (m0_find_3 n k v o (nI j) σ = some (zm, σ) ∧ ∀ i, j ≤ i → i < N → ¬ (gB σ 1 i = v ∧ gA σ 18 i = o)) ∨ (∃ i, j ≤ i ∧ i < N ∧ gB σ 1 i = v ∧ gA σ 18 i = o ∧ m0_find_3 n k v o (nI j) σ = some (nI i, σ)) := by
  intro k
  induction k with
  | zero => intro j h1; omega
  | succ k ih =>
    intro j h1 h2
    rw [u_0_find_3, h]
    rcases Nat.lt_or_ge j N with q | q
    · have hs : ∀ r, (∀ i, j + 1 ≤ i → i < N → ¬ (gB σ 1 i = v ∧ gA σ 18 i = o)) → ¬ (gB σ 1 j = v ∧ gA σ 18 j = o) → r = zm → (∀ i, j ≤ i → i < N → ¬ (gB σ 1 i = v ∧ gA σ 18 i = o)) := by
        intro r a1 a2 _ i b1 b2
        rcases Nat.eq_or_lt_of_le b1 with e | e
        · rw [← e]; exact a2
        · exact a1 i e b2
      simp (disch := omega) only [L_24, L_1, ile_f, ck_t, nI_clamp, ej_bi_s, ej_bl_s, ej_bv_s, ej_nm_e, nI_add]
      by_cases g : gB σ 1 j = v
      · rw [if_pos ((cmp_eq _ _).mpr g)]
        by_cases g2 : gA σ 18 j = o
        · rw [if_pos g2]; exact .inr ⟨j, Nat.le_refl j, q, g, g2, rfl⟩
        · rw [if_neg g2]
          rcases ih (j + 1) (by omega) q with ⟨e1, e2⟩ | ⟨i, e1, e2, e3⟩
          · exact .inl ⟨e1, hs zm e2 (fun z => g2 z.2) rfl⟩
          · exact .inr ⟨i, by omega, e2, e3⟩
      · rw [if_neg (fun z => g ((cmp_eq _ _).mp z))]
        rcases ih (j + 1) (by omega) q with ⟨e1, e2⟩ | ⟨i, e1, e2, e3⟩
        · exact .inl ⟨e1, hs zm e2 (fun z => g z.1) rfl⟩
        · exact .inr ⟨i, by omega, e2, e3⟩
    · rw [ile_t q (by omega)]
      exact .inl ⟨rfl, fun i b1 b2 => by omega⟩
theorem x_find {v : Int64} {o : Int32} (hn : 2000 < n) (h : gI σ 22 = nI N) (hN : N ≤ 24) : (m0_find n v o σ = some (zm, σ) ∧ ∀ i, i < N → ¬ (gB σ 1 i = v ∧ gA σ 18 i = o)) ∨ (∃ i, i < N ∧ gB σ 1 i = v ∧ gA σ 18 i = o ∧ m0_find n v o σ = some (nI i, σ)) := by
  rcases x_find_3 (n := n) (v := v) (o := o) h hN n 0 (by omega) (Nat.zero_le _) with ⟨e1, e2⟩ | ⟨i, _, e2, e3, e4, e5⟩
  · exact .inl ⟨e1, fun i hi => e2 i (Nat.zero_le _) hi⟩
  · exact .inr ⟨i, e2, e3, e4, e5⟩
theorem r_found_6 {v : Int64} {o : Int32} (h : gI σ 15 = nI N) (hN : N ≤ 24) : ∀ (k j : Nat) (y : Int32), N - j < k → j ≤ N → ((y = zm ∧ ∀ i, i < j → ¬ (gB σ 1 i = v ∧ gA σ 11 i = o)) ∨ (∃ i, i < j ∧ gB σ 1 i = v ∧ gA σ 11 i = o ∧ y = nI i)) → (m11_found_6 n k v o y (nI j) σ = some (zm, σ) ∧ ∀ i, i < N → ¬ (gB σ 1 i = v ∧ gA σ 11 i = o)) ∨ (∃ i, i < N ∧ gB σ 1 i = v ∧ gA σ 11 i = o ∧ m11_found_6 n k v o y (nI j) σ = some (nI i, σ)) := by
  intro k
  induction k with
  | zero => intro j y h1; omega
  | succ k ih =>
    intro j y h1 h2 hy
    rw [u_11_found_6, h]
    rcases Nat.lt_or_ge j N with q | q
    · simp (disch := omega) only [L_1, ile_f, ck_t, nI_clamp, ej_bi_s, ej_bl_s, ej_bv_s, ej_nm_e, nI_add]
      have hs : ¬ (gB σ 1 j = v ∧ gA σ 11 j = o) → ((y = zm ∧ ∀ i, i < j + 1 → ¬ (gB σ 1 i = v ∧ gA σ 11 i = o)) ∨ (∃ i, i < j + 1 ∧ gB σ 1 i = v ∧ gA σ 11 i = o ∧ y = nI i)) := by
        intro hno
        rcases hy with ⟨a1, a2⟩ | ⟨i, a1, a2⟩
        · refine .inl ⟨a1, fun i hi => ?_⟩
          rcases Nat.lt_or_ge i j with z | z
          · exact a2 i z
          · have : i = j := by omega
            rw [this]; exact hno
        · exact .inr ⟨i, by omega, a2⟩
      by_cases g : gB σ 1 j = v
      · rw [if_pos ((cmp_eq _ _).mpr g)]
        by_cases g2 : gA σ 11 j = o
        · rw [if_pos g2]
          exact ih (j + 1) (nI j) (by omega) q (.inr ⟨j, by omega, g, g2, rfl⟩)
        · rw [if_neg g2]
          exact ih (j + 1) y (by omega) q (hs (fun z => g2 z.2))
      · rw [if_neg (fun z => g ((cmp_eq _ _).mp z))]
        exact ih (j + 1) y (by omega) q (hs (fun z => g z.1))
    · have e0 : j = N := by omega
      subst e0
      rw [ile_t (Nat.le_refl _) (by omega)]
      rcases hy with ⟨a1, a2⟩ | ⟨i, a1, a2, a3, a4⟩
      · rw [a1]; exact .inl ⟨rfl, a2⟩
      · rw [a4]; exact .inr ⟨i, a1, a2, a3, rfl⟩
theorem r_found {v : Int64} {o : Int32} (hn : 2000 < n) (h : gI σ 15 = nI N) (hN : N ≤ 24) : (m11_found n v o σ = some (zm, σ) ∧ ∀ i, i < N → ¬ (gB σ 1 i = v ∧ gA σ 11 i = o)) ∨ (∃ i, i < N ∧ gB σ 1 i = v ∧ gA σ 11 i = o ∧ m11_found n v o σ = some (nI i, σ)) :=
  r_found_6 (n := n) h hN n 0 zm (by omega) (Nat.zero_le _) (.inl ⟨rfl, fun i hi => absurd hi (Nat.not_lt_zero i)⟩)
end P60a
/-- a name in a long -/
def isNm (v : Int64) : Prop := ∃ ds : List Nat, v = lN (pkL ds) ∧ ds ≠ [] ∧ ds.length ≤ 8 ∧ ∀ d ∈ ds, isNP d = true
theorem isNP_rg {d : Nat} (h : isNP d = true) : 0 < d ∧ d < 128 := by
  simp only [isNP, isNS, isDg, Bool.or_eq_true, Bool.and_eq_true, decide_eq_true_eq] at h
  omega
theorem isNm_n0 {v : Int64} (h : isNm v) : v ≠ 0 := by
  obtain ⟨ds, rfl, h1, h2, h3⟩ := h
  intro e
  have hlt := pkL_7 ds (fun d hd => (isNP_rg (h3 d hd)).2) h2
  have := (fb_lN_inj hlt (by omega : (0 : Nat) < 2 ^ 63)).mp e
  match ds, h1, h3 with
  | d :: r, _, h3 => have := (isNP_rg (h3 d List.mem_cons_self)).1; simp [pkL] at *; omega
