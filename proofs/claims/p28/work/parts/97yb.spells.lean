/-! A HALF, spelt and loaded -/
def TU (T : Nat → Nat) (p kd a b d q : Nat) (i : Nat) : Nat := if i = p then kd else if i = p + 1 then a else if i = p + 2 then b else if i = p + 3 then d else if i = p + 4 then q else T i
theorem TU_s {T : Nat → Nat} {j kd a b d q : Nat} : e_s (TU T (5 * j) kd a b d q) j = (kd, a, b, d, q) := by
  unfold e_s TU
  rw [if_pos rfl, if_neg (by omega), if_pos rfl, if_neg (by omega), if_neg (by omega), if_pos rfl, if_neg (by omega), if_neg (by omega), if_neg (by omega), if_pos rfl, if_neg (by omega), if_neg (by omega), if_neg (by omega), if_neg (by omega), if_pos rfl]
theorem TU_n {T : Nat → Nat} {j i kd a b d q : Nat} (h : i ≠ j) : e_s (TU T (5 * j) kd a b d q) i = e_s T i := by
  have key : ∀ x, x < 5 → TU T (5 * j) kd a b d q (5 * i + x) = T (5 * i + x) := by
    intro x hx
    unfold TU
    rw [if_neg (by omega), if_neg (by omega), if_neg (by omega), if_neg (by omega), if_neg (by omega)]
  unfold e_s
  rw [show TU T (5 * j) kd a b d q (5 * i) = T (5 * i) from key 0 (by omega), key 1 (by omega), key 2 (by omega), key 3 (by omega), key 4 (by omega)]
theorem TU_ok {T : Nat → Nat} {j kd a b d q : Nat} (ok : e_ok T) (h1 : kd ≤ 4) (h2 : a < 10) (h3 : b < 10) (h4 : d < 10) (h5 : q < 100000) : e_ok (TU T (5 * j) kd a b d q) := by
  intro i hi
  by_cases z : i = j
  · subst z
    have e := TU_s (T := T) (j := i) (kd := kd) (a := a) (b := b) (d := d) (q := q)
    unfold e_s at e
    simp only [Prod.mk.injEq] at e
    obtain ⟨e1, e2, e3, e4, e5⟩ := e
    rw [e1, e2, e3, e4, e5]
    exact ⟨h1, h2, h3, h4, h5⟩
  · have e := TU_n (T := T) (j := j) (kd := kd) (a := a) (b := b) (d := d) (q := q) z
    unfold e_s at e
    simp only [Prod.mk.injEq] at e
    obtain ⟨e1, e2, e3, e4, e5⟩ := e
    rw [e1, e2, e3, e4, e5]
    exact ok i hi
section P97yb
variable {n N v x w t hf k j : Nat} {xs : Nat → Int32} {σ0 c τ : ej_S} {fs : Nat → List Nat} {LL : Nat → List St} {tp ot : List Nat} {T : Nat → Nat}
/-- a row written -/
theorem TU_g {kd a b d q : Nat} (hj : j < 12) (g : ∀ i, i < 60 → gA τ 0 i = nI (T i)) : (∀ i, i < 60 → gA (uA (uA (uA (uA (uA τ 0 (5 * j) (nI kd)) 0 (5 * j + 1) (nI a)) 0 (5 * j + 2) (nI b)) 0 (5 * j + 3) (nI d)) 0 (5 * j + 4) (nI q)) 0 i = nI (TU T (5 * j) kd a b d q i)) ∧ fr [] [] [0] [] [] τ (uA (uA (uA (uA (uA τ 0 (5 * j) (nI kd)) 0 (5 * j + 1) (nI a)) 0 (5 * j + 2) (nI b)) 0 (5 * j + 3) (nI d)) 0 (5 * j + 4) (nI q)) := by
  refine ⟨fun i hi => ?_, fr_uA (fr_uA (fr_uA (fr_uA (fr_uA fr_rf (by simp)) (by simp)) (by simp)) (by simp)) (by simp)⟩
  rw [s_AA_s, s_AA_s, s_AA_s, s_AA_s, s_AA_s]
  unfold TU
  by_cases z4 : i = 5 * j + 4
  · rw [z4, pk_us, if_neg (by omega), if_neg (by omega), if_neg (by omega), if_neg (by omega), if_pos rfl]
  · rw [pk_un z4]
    by_cases z3 : i = 5 * j + 3
    · rw [z3, pk_us, if_neg (by omega), if_neg (by omega), if_neg (by omega), if_pos rfl]
    · rw [pk_un z3]
      by_cases z2 : i = 5 * j + 2
      · rw [z2, pk_us, if_neg (by omega), if_neg (by omega), if_pos rfl]
      · rw [pk_un z2]
        by_cases z1 : i = 5 * j + 1
        · rw [z1, pk_us, if_neg (by omega), if_pos rfl]
        · rw [pk_un z1]
          by_cases z0 : i = 5 * j
          · rw [z0, pk_us, if_pos rfl]
          · rw [pk_un z0, if_neg z0, if_neg z1, if_neg z2, if_neg z3, if_neg z4]; exact g i hi
theorem L211 {kd : Nat} {F : Int32 → Int32 → Int32 → Int32 → lw_S → Option Int32} (hn : 2000 < n) (hj : j < 12) (g : ∀ i, i < 60 → gA τ 0 i = nI (T i)) (ok : e_ok T) (hk : kd ≤ 4) (hw : w < 2 ^ 31) (hl : tp.length + 16 ≤ 600) (hc : IQ n fs σ0 tp ot c) (y1 y2 y3 : Int32) : ∃ c' τ' T', IQ n fs σ0 (tp ++ (sb (e_s T' j) ++ [59])) ot c' ∧ (∀ i, i < 60 → gA τ' 0 i = nI (T' i)) ∧ e_ok T' ∧ (∀ i, i ≠ j → e_s T' i = e_s T i) ∧ fr [] [] [0] [] [] τ τ' ∧ mL_law_211 n N xs F y1 y2 y3 (nI k) (nI w) (nI (5 * j)) (nI kd) (nI (5 * j)) (c, τ) = F y1 y2 y3 (nI (k + 1)) (c', τ') := by
  have ma : w / 8 % 10 < 10 := Nat.mod_lt _ (by omega)
  have mb : w / 80 % 10 < 10 := Nat.mod_lt _ (by omega)
  have md : w / 800 % 10 < 10 := Nat.mod_lt _ (by omega)
  have dv : ∀ p, 0 < p → p < 2 ^ 31 → nI w / nI p - nI w / nI p / nI 10 * nI 10 = nI (w / p % 10) := by
    intro p hp hp2
    have := Nat.div_le_self w p
    rw [pk_div hw hp hp2, pk_div (by omega) (by omega) (by omega), pk_mul, pk_sub (Nat.div_mul_le_self _ _)]; congr 1; omega
  have fin : ∀ r : Nat, (r = 100000 ∨ r = 30) → ∃ c' τ' T', IQ n fs σ0 (tp ++ (sb (e_s T' j) ++ [59])) ot c' ∧ (∀ i, i < 60 → gA τ' 0 i = nI (T' i)) ∧ e_ok T' ∧ (∀ i, i ≠ j → e_s T' i = e_s T i) ∧ fr [] [] [0] [] [] τ τ' ∧ mL_law_280 n N xs F y1 y2 y3 (nI k) (nI (5 * j)) (nI r) (nI w / 8000) (nI (5 * j) + 4) (c, uA (uA (uA (uA τ 0 (5 * j) (nI kd)) 0 (5 * j + 1) (nI (w / 8 % 10))) 0 (5 * j + 2) (nI (w / 80 % 10))) 0 (5 * j + 3) (nI (w / 800 % 10))) = F y1 y2 y3 (nI (k + 1)) (c', τ') := by
    intro r hr
    have hq : w / 8000 % r < 100000 := by
      have : w / 8000 % r < r := Nat.mod_lt _ (by omega)
      omega
    obtain ⟨g', Fr⟩ := TU_g (τ := τ) (kd := kd) (a := w / 8 % 10) (b := w / 80 % 10) (d := w / 800 % 10) (q := w / 8000 % r) hj g
    have ok' := TU_ok (j := j) ok hk ma mb md hq
    have h1 := SY_bv (Y_statement (n := n) (fs := fs) (σ0 := σ0) (ot := ot) hn g' ok' hj) (Y_says (n := n) (b := 59) hn (by omega))
    have hsl := sb_len (e_s (TU T (5 * j) kd (w / 8 % 10) (w / 80 % 10) (w / 800 % 10) (w / 8000 % r)) j)
    obtain ⟨c', i1, e1⟩ := h1 tp c hc (by rw [List.length_append]; show _ + (_ + 1) ≤ 600; omega)
    refine ⟨c', _, _, i1, g', ok', fun i hi => TU_n hi, Fr, ?_⟩
    have hd := Nat.div_le_self w 8000
    unfold mL_law_280
    rw [show (8000 : Int32) = nI 8000 from congrArg nI (Eq.refl 8000), pk_div hw (by omega) (by omega), dv_t (by omega) (by omega), pk_div (by omega) (by omega) (by omega), pk_mul, pk_sub (Nat.div_mul_le_self _ _), show w / 8000 - w / 8000 / r * r = w / 8000 % r by rw [Nat.mul_comm]; exact (Nat.mod_eq_sub_mul_div).symm, L_4, nI_add, ck_t (by omega) (by omega), nI_clamp (by omega), ej_nm_e]
    have e1' : ej_bv (mL_saysStatement n (nI (5 * j)) (c, _)) (mL_says n (nI 59)) = some (c', _) := e1
    cases hX : mL_saysStatement n (nI (5 * j)) (c, uA (uA (uA (uA (uA τ 0 (5 * j) (nI kd)) 0 (5 * j + 1) (nI (w / 8 % 10))) 0 (5 * j + 2) (nI (w / 80 % 10))) 0 (5 * j + 3) (nI (w / 800 % 10))) 0 (5 * j + 4) (nI (w / 8000 % r))) with
    | none => rw [hX] at e1'; cases e1'
    | some s2 =>
      rw [hX, ej_bv_s] at e1'
      rw [ej_bv_s, L_59, e1', ej_bv_s, p_1, ej_nm_e]
  unfold mL_law_211
  rw [L_1, L_2, L_3, L_8, L_10, show (80 : Int32) = nI 80 from congrArg nI (Eq.refl 80), show (800 : Int32) = nI 800 from congrArg nI (Eq.refl 800), nI_add, nI_add, nI_add, ck_t (by omega) (by omega), nI_clamp (by omega), ej_nm_e, ck_t (by omega) (by omega), nI_clamp (by omega), ej_nm_e, ck_t (by omega) (by omega), nI_clamp (by omega), ej_nm_e, ck_t (by omega) (by omega), nI_clamp (by omega), ej_nm_e, dv 8 (by omega) (by omega), dv 80 (by omega) (by omega), dv 800 (by omega) (by omega)]
  split
  · exact fin 100000 (.inl rfl)
  · exact fin 30 (.inr rfl)
end P97yb
