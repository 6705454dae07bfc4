/-! THE REFERENCE: until no way becomes better -/
section P81
variable {n N s : Nat}
theorem r_181 (F : Int32 → Int32 → Int32 → ej_S → Option ej_S) (g r : Bool) (y : Int32) (j : Nat) (σ : ej_S) : m11_solves_181 n F (bI g) y (nI j) (bI r) σ = F (bI (g || r)) y (nI (j + 1)) σ := by
  unfold m11_solves_181
  rw [L_0, L_1, nI_add, ej_nm_e]
  cases g <;> cases r
  · rw [bI_f, if_pos rfl, if_pos rfl]; rfl
  · rw [bI_f, bI_t, if_pos rfl, if_neg n10]; rfl
  · rw [bI_t, if_neg n10]; rfl
  · rw [bI_t, if_neg n10]; rfl
theorem noi_self {σ : ej_S} {D : Nat → Nat} {u b j : Nat} (hc : CR σ N) (h : u / 4 = b) : noi σ D u b j := by
  intro v w e hv _
  have := (Ed_lim hc e).2.2.1
  omega
theorem r_132 {y : Nat} (F : Int32 → Int32 → ej_S → Option ej_S) (hN : N ≤ 24) (hy : y < 4 * N * N) : ∀ (k kind : Nat) (D : Nat → Nat) (σ : ej_S) (g : Bool), BF N s σ D → 1 ≤ kind → kind ≤ 6 → 6 - kind < k → ∃ D' σ' g', m11_solves_132 n F k (bI g) (nI y) (nI kind) σ = F (bI g') (nI (y + 1)) σ' ∧ fr [] [] [23, 24] [] [] σ σ' ∧ BF N s σ' D' ∧ (g' = false → g = false ∧ D' = D ∧ ∀ j, kind ≤ j → j ≤ 5 → noi σ D (y / N) (y % N) j) ∧ (g' = true → g = true ∨ sm D' 96 < sm D 96) ∧ sm D' 96 ≤ sm D 96 := by
  intro k
  induction k with
  | zero => intro kind D σ g _ _ _ h; omega
  | succ k ih =>
    intro kind D σ g hb h1 h2 hk
    have hc := hb.1
    have hN0 : 0 < N := Nat.pos_of_ne_zero (fun z => by subst z; simp at hy)
    have hNN : N * N ≤ 576 := Nat.mul_le_mul hN hN
    have hyb : y < 2304 := by rw [Nat.mul_assoc] at hy; omega
    have hd : y / N < 4 * N := Nat.div_lt_of_lt_mul (by rw [Nat.mul_comm]; exact hy)
    have hm : y % N < N := Nat.mod_lt _ hN0
    rw [u_11_solves_132, hc.2.1]
    rcases Nat.lt_or_ge 5 kind with q | q
    · rw [L_5, ilt_t q (by omega), L_1, nI_add, ej_nm_e]
      exact ⟨D, σ, g, rfl, fr_rf, hb, fun z => ⟨z, rfl, fun j j1 j2 => by omega⟩, fun z => .inl z, Nat.le_refl _⟩
    · rw [L_5, ilt_f q (by omega), dv_t hN0 (by omega), dv_t hN0 (by omega), L_4, pk_rem (by omega) hN0 (by omega), pk_div (by omega) hN0 (by omega), pk_div (by omega) (by omega) (by omega)]
      have sk : m11_solves_181 n (m11_solves_132 n F k) (bI g) (nI y) (nI kind) 0 σ = m11_solves_132 n F k (bI g) (nI y) (nI (kind + 1)) σ := by
        have := r_181 (n := n) (m11_solves_132 n F k) g false (nI y) kind σ
        rw [Bool.or_false] at this
        exact this
      have skip : noi σ D (y / N) (y % N) kind → ∃ D' σ' g', m11_solves_181 n (m11_solves_132 n F k) (bI g) (nI y) (nI kind) 0 σ = F (bI g') (nI (y + 1)) σ' ∧ fr [] [] [23, 24] [] [] σ σ' ∧ BF N s σ' D' ∧ (g' = false → g = false ∧ D' = D ∧ ∀ j, kind ≤ j → j ≤ 5 → noi σ D (y / N) (y % N) j) ∧ (g' = true → g = true ∨ sm D' 96 < sm D 96) ∧ sm D' 96 ≤ sm D 96 := by
        intro hno
        rw [sk]
        obtain ⟨D', σ', g', e1, f1, p1, p2, p3, p4⟩ := ih (kind + 1) D σ g hb (by omega) (by omega) (by omega)
        refine ⟨D', σ', g', e1, f1, p1, fun z => ?_, p3, p4⟩
        obtain ⟨z1, z2, z3⟩ := p2 z
        refine ⟨z1, z2, fun j j1 j2 => ?_⟩
        rcases Nat.eq_or_lt_of_le j1 with w | w
        · subst w; exact hno
        · exact z3 j w j2
      by_cases e : y / N / 4 = y % N
      · rw [ieq_t e]
        exact skip (noi_self hc e)
      · rw [ieq_f e (by omega) (by omega), dv_t hN0 (by omega), dv_t hN0 (by omega)]
        rcases r_isBetter (n := n) (k := kind) hb (show y / N < 96 by omega) (show y % N < 24 by omega) h1 q with ⟨v, w, x, e1, e2, e3, e4, e5, e6⟩ | ⟨e1, e2⟩
        · rw [e6, ej_bi_s, L_0, if_neg n10]
          have := r_181 (n := n) (m11_solves_132 n F k) g true (nI y) kind (uA (uA σ 23 v (nI (x / 1024))) 24 v (nI (x % 1024)))
          rw [Bool.or_true] at this
          have this : m11_solves_181 n (m11_solves_132 n F k) (bI g) (nI y) (nI kind) 1 (uA (uA σ 23 v (nI (x / 1024))) 24 v (nI (x % 1024))) = m11_solves_132 n F k (bI true) (nI y) (nI (kind + 1)) (uA (uA σ 23 v (nI (x / 1024))) 24 v (nI (x % 1024))) := this
          rw [this]
          obtain ⟨b1, f1⟩ := BF_up hb e1 e3 e4 e5
          have lt := sm_up e5 96 e1.2.1
          obtain ⟨D', σ', g', r1, r2, r3, r4, r5, r6⟩ := ih (kind + 1) (dU D v x) _ true b1 (by omega) (by omega) (by omega)
          exact ⟨D', σ', g', r1, fr_tr f1 r2, r3, fun z => absurd (r4 z).1 (by decide), fun _ => .inr (by omega), by omega⟩
        · rw [e2, ej_bi_s, L_0, if_pos rfl]
          exact skip e1
theorem r_114 (F : Int32 → ej_S → Option ej_S) (hn : 3000 < n) (hN : N ≤ 24) : ∀ (k y : Nat) (D : Nat → Nat) (σ : ej_S) (g : Bool), BF N s σ D → y ≤ 4 * N * N → 4 * N * N - y < k → ∃ D' σ' g', m11_solves_114 n F k (bI g) (nI y) σ = F (bI g') σ' ∧ fr [] [] [23, 24] [] [] σ σ' ∧ BF N s σ' D' ∧ (g' = false → g = false ∧ D' = D ∧ ∀ y' j, y ≤ y' → y' < 4 * N * N → 1 ≤ j → j ≤ 5 → noi σ D (y' / N) (y' % N) j) ∧ (g' = true → g = true ∨ sm D' 96 < sm D 96) ∧ sm D' 96 ≤ sm D 96 := by
  intro k
  induction k with
  | zero => intro y D σ g _ _ h; omega
  | succ k ih =>
    intro y D σ g hb hy hk
    have hNN : 4 * N * N ≤ 2304 := Nat.mul_le_mul (show 4 * N ≤ 96 by omega) hN
    rw [u_11_solves_114, hb.1.2.1, L_4, pk_mul, pk_mul]
    rcases Nat.lt_or_ge y (4 * N * N) with q | q
    · rw [ile_f q (by omega), L_1]
      obtain ⟨D1, σ1, g1, e1, f1, b1, p1, p2, p3⟩ := r_132 (n := n) (m11_solves_114 n F k) hN q n 1 D σ g hb (by omega) (by omega) (by omega)
      rw [e1]
      obtain ⟨D', σ', g', e2, f2, b2, q1, q2, q3⟩ := ih (y + 1) D1 σ1 g1 b1 q (by omega)
      refine ⟨D', σ', g', e2, fr_tr f1 f2, b2, fun z => ?_, fun z => ?_, by omega⟩
      · obtain ⟨z1, z2, z3⟩ := q1 z
        obtain ⟨w1, w2, w3⟩ := p1 z1
        subst w2
        refine ⟨w1, z2, fun y' j h1 h2 h3 h4 => ?_⟩
        rcases Nat.eq_or_lt_of_le h1 with v | v
        · subst v; exact w3 j h3 h4
        · have := z3 y' j v h2 h3 h4
          have m := map_eq (σ := σ) (s := σ1) (fun j h1 h2 => f1.2.2.1 j (by simp; omega)) (f1.2.2.2.1 1 (by simp))
          unfold noi at *
          rw [m.2.2.2.2] at this; exact this
      · rcases q2 z with w | w
        · rcases p2 w with v | v
          · exact .inl v
          · exact .inr (by omega)
        · exact .inr (by omega)
    · rw [ile_t q (by omega)]
      exact ⟨D, σ, g, rfl, fr_rf, hb, fun z => ⟨z, rfl, fun y' j h1 h2 => by omega⟩, fun z => .inl z, Nat.le_refl _⟩
theorem r_106 (hn : 3000 < n) (hN : N ≤ 24) : ∀ (k : Nat) (D : Nat → Nat) (σ : ej_S), BF N s σ D → sm D 96 + 1 < k → ∃ D' σ', m11_solves_106 n k (nI 1) σ = m11_solves_215 n n (nI 0) σ' ∧ fr [] [] [23, 24] [] [] σ σ' ∧ BF N s σ' D' ∧ sol (Ed σ') s D' := by
  intro k
  induction k with
  | zero => intro D σ _ h; omega
  | succ k ih =>
    intro D σ hb hk
    rw [u_11_solves_106, L_0, if_neg n10]
    have h2304 : 4 * N * N ≤ 2304 := Nat.mul_le_mul (show 4 * N ≤ 96 by omega) hN
    obtain ⟨D1, σ1, g1, e1, f1, b1, p1, p2, p3⟩ := r_114 (n := n) (m11_solves_106 n k) hn hN n 0 D σ false hb (Nat.zero_le _) (by omega)
    have e1' : m11_solves_114 n (m11_solves_106 n k) n (nI 0) (nI 0) σ = m11_solves_106 n k (bI g1) σ1 := e1
    rw [e1']
    cases g1
    · obtain ⟨_, z2, z3⟩ := p1 rfl
      subst z2
      obtain ⟨k, rfl⟩ : ∃ k', k = k' + 1 := ⟨k - 1, by omega⟩
      rw [u_11_solves_106, bI_f, L_0, if_pos rfl]
      refine ⟨D1, σ1, rfl, f1, b1, b1.2.2.2.2.1, b1.2.2.2.1, b1.2.2.2.2.2, fun u j v w e hu => ?_⟩
      have m := map_eq (σ := σ) (s := σ1) (fun j h1 h2 => f1.2.2.1 j (by simp; omega)) (f1.2.2.2.1 1 (by simp))
      rw [m.2.2.2.2] at e
      obtain ⟨l1, l2, l3, _⟩ := Ed_lim hb.1 e
      have hN0 : 0 < N := by omega
      have y1 : (u * N + v / 4) / N = u := by rw [Nat.mul_comm, Nat.mul_add_div hN0, Nat.div_eq_of_lt l2]; omega
      have y2 : (u * N + v / 4) % N = v / 4 := by rw [Nat.mul_comm, Nat.mul_add_mod, Nat.mod_eq_of_lt l2]
      have y3 : u * N + v / 4 < 4 * N * N := by
        have : u * N + N ≤ 4 * N * N := by rw [← Nat.succ_mul]; exact Nat.mul_le_mul_right N (by omega)
        omega
      have := z3 (u * N + v / 4) j (Nat.zero_le _) y3 e.2.2.1 e.2.2.2.1
      rw [y1, y2] at this
      exact this v w e rfl hu
    · rcases p2 rfl with z | z
      · cases z
      · obtain ⟨D2, σ2, e2, f2, b2, s2⟩ := ih D1 σ1 b1 (by omega)
        exact ⟨D2, σ2, e2, fr_tr f1 f2, b2, s2⟩
end P81
