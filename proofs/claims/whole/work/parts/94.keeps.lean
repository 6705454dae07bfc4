/-! WHAT READING KEEPS: a fault told before (stub, for the time being) -/
def Kp (σ0 s : ej_S) : Prop := gI s 10 = gI σ0 10 ∧ gI s 11 = gI σ0 11
def KO (σ0 : ej_S) (X : Option (Int32 × ej_S)) : Prop := ∀ r s, X = some (r, s) → r = 0 ∨ Kp σ0 s
theorem Kp_uI {σ0 s : ej_S} {k : Nat} {v : Int32} (h : Kp σ0 s) (h1 : 10 ≠ k) (h2 : 11 ≠ k) : Kp σ0 (uI s k v) := ⟨by rw [s_II_n h1]; exact h.1, by rw [s_II_n h2]; exact h.2⟩
theorem Kp_uA {σ0 s : ej_S} {k i : Nat} {v : Int32} (h : Kp σ0 s) : Kp σ0 (uA s k i v) := h
theorem k_m4_read_25 {σ0 s : ej_S} {n : Nat} {t1 : Nat} {k : Nat} {y5 : Int32} (h : Kp σ0 s) : KO σ0 (m4_read_25 n t1 k y5 s) := by
  sorry
