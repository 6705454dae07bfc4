/-! THE REFERENCE: ways made better -/
/-- the steps of a map, between keys -/
def Ed (σ : ej_S) (u k v w : Nat) : Prop := u < 96 ∧ v < 96 ∧ 1 ≤ k ∧ k ≤ 5 ∧ ∃ c, scost σ (u / 4) (v / 4) k = some c ∧ v % 4 = sbN σ (u / 4) (u % 4) (v / 4) k ∧ w = 1024 * (c + addN σ (u / 4) (u % 4) (v / 4) k) + 1
theorem map_eq {σ s : ej_S} (hA : ∀ j, 12 ≤ j → j ≤ 21 → gA s j = gA σ j) (hB : gB s 1 = gB σ 1) : (∀ a b k, scost s a b k = scost σ a b k) ∧ (∀ a b k, mkN s a b k = mkN σ a b k) ∧ (∀ a t b k, sbN s a t b k = sbN σ a t b k) ∧ (∀ a t b k, addN s a t b k = addN σ a t b k) ∧ Ed s = Ed σ := by
  have e1 : ∀ a b k, scost s a b k = scost σ a b k := by
    intro a b k
    unfold scost
    rw [hA 14 (by omega) (by omega), hA 15 (by omega) (by omega), hA 16 (by omega) (by omega), hA 18 (by omega) (by omega), hA 19 (by omega) (by omega), hA 20 (by omega) (by omega), hA 21 (by omega) (by omega), hB]
  have e2 : ∀ a b k, mkN s a b k = mkN σ a b k := by
    intro a b k
    unfold mkN
    rw [hA 17 (by omega) (by omega), hA 13 (by omega) (by omega)]
  have e3 : ∀ a t b k, sbN s a t b k = sbN σ a t b k := by
    intro a t b k
    unfold sbN outB
    rw [e2, hB]
  have e4 : ∀ a t b k, addN s a t b k = addN σ a t b k := by
    intro a t b k
    unfold addN
    rw [e2]
  refine ⟨e1, e2, e3, e4, ?_⟩
  funext u k v w
  unfold Ed
  rw [e1, e3, e4]
theorem kC_up {R T : Nat → Int32} {D : Nat → Nat} (h : kC R T D) {v x : Nat} (hx : x < iF) : kC (upd R v (nI (x / 1024))) (upd T v (nI (x % 1024))) (dU D v x) := by
  intro y hy
  by_cases e : y = v
  · subst e
    rw [dU_s, pk_us, pk_us]; exact .inr ⟨hx, rfl, rfl⟩
  · rw [dU_n _ e, pk_un e, pk_un e]; exact h y hy
def noi (σ : ej_S) (D : Nat → Nat) (u b j : Nat) : Prop := ∀ v w, Ed σ u j v w → v / 4 = b → D u < iF → D v ≤ D u + w
def BF (N s : Nat) (σ : ej_S) (D : Nat → Nat) : Prop := CR σ N ∧ kC (gA σ 23) (gA σ 24) D ∧ OKD D ∧ (∀ v, D v ≤ iF) ∧ D s = 0 ∧ ∀ v, v < 96 → D v < iF → wk (Ed σ) s (D v) v
theorem Ed_lim {σ : ej_S} {N : Nat} (hc : CR σ N) {u k v w : Nat} (e : Ed σ u k v w) : u / 4 < N ∧ v / 4 < N ∧ u / 4 ≠ v / 4 ∧ ∃ c, c ≤ 1310000 ∧ w = 1024 * c + 1 := by
  obtain ⟨h1, h2, h3, h4, c, h5, h6, h7⟩ := e
  obtain ⟨w1, w2⟩ := CR_w hc
  have l := scost_lim hc.1 hc.2.2.2 (show u / 4 < 24 by omega) (show v / 4 < 24 by omega) h3 h4 h5
  rw [NN_eq hc.2.1 hc.2.2.1] at l
  have b := scost_bd w1 w2 (show u / 4 < 24 by omega) (show v / 4 < 24 by omega) h5
  have b2 := addN_le (σ := σ) (a := u / 4) (s := u % 4) (b := v / 4) (k := k)
  exact ⟨l.1, l.2.1, l.2.2, _, by omega, h7⟩
section P80
variable {n N s : Nat} {σ : ej_S} {D : Nat → Nat}
theorem r_isBetter {u b k : Nat} (hb : BF N s σ D) (hu : u < 96) (hbb : b < 24) (hk : 1 ≤ k) (hk5 : k ≤ 5) : (∃ v w x, Ed σ u k v w ∧ v / 4 = b ∧ D u < iF ∧ x = D u + w ∧ x < D v ∧ m11_isBetter n (nI u) (nI b) (nI k) σ = some (nI 1, uA (uA σ 23 v (nI (x / 1024))) 24 v (nI (x % 1024)))) ∨ (noi σ D u b k ∧ m11_isBetter n (nI u) (nI b) (nI k) σ = some (nI 0, σ)) := by
  obtain ⟨hc, hkc, ho, hi, hs, hw⟩ := hb
  obtain ⟨w1, w2⟩ := CR_w hc
  have hu4 : u / 4 < 24 := by omega
  unfold m11_isBetter m11_isBetter_127
  rw [L_4, pk_rem (by omega) (by omega) (by omega), pk_div (by omega) (by omega) (by omega), ej_nm_e, ej_nm_e, ck_t hu (by omega), nI_clamp (by omega), L_m1, L_0]
  rcases hkc u hu with ⟨a1, a2⟩ | ⟨a1, a2, a3⟩
  · rw [if_pos a2]
    exact .inr ⟨fun v w _ _ z => by omega, rfl⟩
  · have bu := OKD_bd ho hu a1
    rw [a2, ieq_m (by omega), r_stepCost w1 w2 hc.2.2.2 hu4 hbb hk hk5, ej_bi_s]
    cases hsc : scost σ (u / 4) b k with
    | none =>
      rw [show oI none = zm from rfl, if_pos rfl]
      refine .inr ⟨fun v w e hv _ => ?_, rfl⟩
      obtain ⟨_, _, _, _, c, h5, _⟩ := e
      rw [hv, hsc] at h5; cases h5
    | some c =>
      have bc := scost_bd w1 w2 hu4 hbb hsc
      have ba := addN_le (σ := σ) (a := u / 4) (s := u % 4) (b := b) (k := k)
      have bs := sbN_lt (σ := σ) (a := u / 4) (s := u % 4) (b := b) (k := k) (by omega)
      rw [show oI (some c) = nI c from rfl, ieq_m (by omega), r_stateBehind hu4 hbb hk hk5 (by omega), ej_bi_s, ej_nm_e, ck_t hu (by omega), r_costIn w1 w2 hc.2.2.2 hu4 hbb hk hk5 (by omega) hsc, ej_bi_s]
      generalize hS : sbN σ (u / 4) (u % 4) b k = S at *
      generalize hA : addN σ (u / 4) (u % 4) b k = A at *
      have hv96 : 4 * b + S < 96 := by omega
      have e0 : Ed σ u k (4 * b + S) (1024 * (c + A) + 1) := ⟨hu, hv96, hk, hk5, c, by rw [show (4 * b + S) / 4 = b by omega]; exact hsc, by rw [show (4 * b + S) / 4 = b by omega, hS]; omega, by rw [show (4 * b + S) / 4 = b by omega, hA]⟩
      have only : ∀ v w, Ed σ u k v w → v / 4 = b → v = 4 * b + S ∧ w = 1024 * (c + A) + 1 := by
        intro v w e hv
        obtain ⟨_, _, _, _, c', h5, h6, h7⟩ := e
        rw [hv] at h5 h6 h7
        rw [hsc] at h5
        have := Option.some.inj h5
        subst this
        rw [hS] at h6
        rw [hA] at h7
        exact ⟨by omega, h7⟩
      have yes : D u + (1024 * (c + A) + 1) < D (4 * b + S) → ∀ X, X = some (nI 1, uA (uA σ 23 (4 * b + S) (nI ((D u + (1024 * (c + A) + 1)) / 1024))) 24 (4 * b + S) (nI ((D u + (1024 * (c + A) + 1)) % 1024))) → (∃ v w x, Ed σ u k v w ∧ v / 4 = b ∧ D u < iF ∧ x = D u + w ∧ x < D v ∧ X = some (nI 1, uA (uA σ 23 v (nI (x / 1024))) 24 v (nI (x % 1024)))) ∨ (noi σ D u b k ∧ X = some (nI 0, σ)) := by
        intro h X hX
        exact .inl ⟨_, _, _, e0, by omega, a1, rfl, h, hX⟩
      have no : D (4 * b + S) ≤ D u + (1024 * (c + A) + 1) → ∀ X, X = some (nI 0, σ) → (∃ v w x, Ed σ u k v w ∧ v / 4 = b ∧ D u < iF ∧ x = D u + w ∧ x < D v ∧ X = some (nI 1, uA (uA σ 23 v (nI (x / 1024))) 24 v (nI (x % 1024)))) ∨ (noi σ D u b k ∧ X = some (nI 0, σ)) := by
        intro h X hX
        refine .inr ⟨fun v w e hv _ => ?_, hX⟩
        obtain ⟨z1, z2⟩ := only v w e hv
        rw [z1, z2]; exact h
      have hm : (D u + (1024 * (c + A) + 1)) % 1024 = D u % 1024 + 1 := by omega
      have hq : (D u + (1024 * (c + A) + 1)) / 1024 = D u / 1024 + (c + A) := by omega
      have huv : u ≠ 4 * b + S := by
        intro z
        have l := (Ed_lim hc e0).2.2.1
        omega
      rw [hm, hq] at yes
      simp (disch := omega) only [pk_mul, nI_add, ej_nm_e, ck_t, nI_clamp, L_1, s_AA_s, s_AA_n, bz_n1, bz_n0, n10, eq_self, if_false, if_true, a2, a3]
      rcases hkc (4 * b + S) hv96 with ⟨b1, b2⟩ | ⟨b1, b2, b3⟩
      · rw [if_pos b2]
        exact yes (by rw [b1]; have := iF_e; omega) _ rfl
      · have bv := OKD_bd ho hv96 b1
        rw [b2, b3, ieq_m (by omega)]
        rcases Nat.lt_or_ge (D u / 1024 + (c + A)) (D (4 * b + S) / 1024) with q | q
        · rw [ilt_t q (by omega)]
          exact yes (by omega) _ rfl
        · rw [ilt_f q (by omega)]
          by_cases q2 : D u / 1024 + (c + A) = D (4 * b + S) / 1024
          · rw [ieq_t q2]
            rcases Nat.lt_or_ge (D u % 1024 + 1) (D (4 * b + S) % 1024) with q3 | q3
            · rw [ile_f q3 (by omega)]
              exact yes (by omega) _ rfl
            · rw [ile_t q3 (by omega)]
              exact no (by omega) _ rfl
          · rw [ieq_f q2 (by omega) (by omega)]
            exact no (by omega) _ rfl
theorem BF_up {u k v w x : Nat} (hb : BF N s σ D) (e : Ed σ u k v w) (hu : D u < iF) (hx : x = D u + w) (hlt : x < D v) : BF N s (uA (uA σ 23 v (nI (x / 1024))) 24 v (nI (x % 1024))) (dU D v x) ∧ fr [] [] [23, 24] [] [] σ (uA (uA σ 23 v (nI (x / 1024))) 24 v (nI (x % 1024))) := by
  have f : fr [] [] [23, 24] [] [] σ (uA (uA σ 23 v (nI (x / 1024))) 24 v (nI (x % 1024))) := fr_uA (fr_uA fr_rf (by simp)) (by simp)
  refine ⟨?_, f⟩
  obtain ⟨hc, hkc, ho, hi, hs, hw⟩ := hb
  have m := map_eq (σ := σ) (s := uA (uA σ 23 v (nI (x / 1024))) 24 v (nI (x % 1024))) (fun j h1 h2 => f.2.2.1 j (by simp; omega)) (f.2.2.2.1 1 (by simp))
  obtain ⟨l1, l2, l3, c, l4, l5⟩ := Ed_lim hc e
  have hxi : x < iF := by have := hi v; omega
  refine ⟨⟨wfR_fr hc.1 f (by simp) (by simp) (by simp) (by simp) (by simp) (by simp) (by simp) (by simp), hc.2.1, hc.2.2.1, hc.2.2.2⟩, ?_, ?_, ?_, ?_, ?_⟩
  · rw [s_AA_s, s_AA_n (by omega), s_AA_s, s_AA_n (by omega)]
    exact kC_up hkc hxi
  · rw [hx]; exact OKD_up ho hi e.1 hu l4 l5 (by omega)
  · intro y
    by_cases z : y = v
    · subst z; rw [dU_s]; omega
    · rw [dU_n _ z]; exact hi y
  · rw [dU_n _ (fun z => by subst z; omega)]; exact hs
  · rw [m.2.2.2.2]
    intro y hy hyf
    by_cases z : y = v
    · subst z; rw [dU_s, hx]; exact wk_st (hw u e.1 hu) e
    · rw [dU_n _ z] at *; exact hw y hy hyf
end P80
