/-! A HALF, spelt and loaded -/
def TU (T : Nat → Nat) (p kd a b d q : Nat) (i : Nat) : Nat := if i = p then kd else if i = p + 1 then a else if i = p + 2 then b else if i = p + 3 then d else if i = p + 4 then q else T i
theorem TU_s {T : Nat → Nat} {j kd a b d q : Nat} : e_s (TU T (5 * j) kd a b d q) j = (kd, a, b, d, q) := by
  unfold e_s TU
  rw [if_pos rfl, if_neg (by omega), if_pos rfl, if_neg (by omega), if_neg (by omega), if_pos rfl, if_neg (by omega), if_neg (by omega), if_neg (by omega), if_pos rfl, if_neg (by omega), if_neg (by omega), if_neg (by omega), if_neg (by omega), if_pos rfl]
theorem TU_n {T : Nat → Nat} {j i kd a b d q : Nat} (h : i ≠ j) : e_s (TU T (5 * j) kd a b d q) i = e_s T i := by
  have key : ∀ x, x < 5 → TU T (5 * j) kd a b d q (5 * i + x) = T (5 * i + x) := by
    intro x hx
    unfold TU
    rw [if_neg (by omega), if_neg (by omega), if_neg (by omega), if_neg (by omega), if_neg (by omega)]
  unfold e_s
  rw [show TU T (5 * j) kd a b d q (5 * i) = T (5 * i) from key 0 (by omega), key 1 (by omega), key 2 (by omega), key 3 (by omega), key 4 (by omega)]
theorem TU_ok {T : Nat → Nat} {j kd a b d q : Nat} (ok : e_ok T) (h1 : kd ≤ 4) (h2 : a < 10) (h3 : b < 10) (h4 : d < 10) (h5 : q < 100000) : e_ok (TU T (5 * j) kd a b d q) := by
  intro i hi
  by_cases z : i = j
  · subst z
    have e := TU_s (T := T) (j := i) (kd := kd) (a := a) (b := b) (d := d) (q := q)
    unfold e_s at e
    simp only [Prod.mk.injEq] at e
    obtain ⟨e1, e2, e3, e4, e5⟩ := e
    rw [e1, e2, e3, e4, e5]
    exact ⟨h1, h2, h3, h4, h5⟩
  · have e := TU_n (T := T) (j := j) (kd := kd) (a := a) (b := b) (d := d) (q := q) z
    unfold e_s at e
    simp only [Prod.mk.injEq] at e
    obtain ⟨e1, e2, e3, e4, e5⟩ := e
    rw [e1, e2, e3, e4, e5]
    exact ok i hi
