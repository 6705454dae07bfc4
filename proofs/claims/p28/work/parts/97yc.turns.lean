/-! THE TURNS OF THE LAW -/
section P97yc
variable {n N v t : Nat} {xs : Nat → Int32}
theorem L65 (hN : N ≤ 260) (hn : 200000000000000 < n) : ∀ (fu t : Nat) (s : lw_S), LSt n s → t ≤ 16 → 16 - t < fu → mL_law_65 n N xs fu 1 (nI t) s = some 1 := by
  intro fu
  induction fu with
  | zero => intro t s _ _ z; omega
  | succ fu ih =>
    intro t s hs ht hf
    rw [u_L_law_65, show (16 : Int32) = nI 16 from L_16]
    rcases Nat.eq_or_lt_of_le ht with rfl | q
    · rw [ile_t (Nat.le_refl _) (by omega), if_pos rfl]
    · obtain ⟨c, τ⟩ := s
      obtain ⟨fs, LL, σ0, T, h0, h1, ot, hL⟩ := hs
      obtain ⟨v, v1, v2⟩ := dice_ok (n := n) (N := N) (xs := xs) (x := 9 * t) hN (by omega) (c, τ)
      have fin : ∀ X, (∃ s, LSt n s ∧ X = mL_law_65 n N xs fu 1 (nI (t + 1)) s) → X = some 1 := by
        rintro X ⟨s, k1, rfl⟩
        exact ih (t + 1) s k1 q (by omega)
      have hh : v / 8 % 2 < 2 := Nat.mod_lt _ (by omega)
      have hm7 : v / 16 % 7 < 7 := Nat.mod_lt _ (by omega)
      have e8 : nI v - nI v / 8 * 8 = nI (v % 8) := by
        rw [L_8, pk_div (by omega) (by omega) (by omega), pk_mul, pk_sub (Nat.div_mul_le_self _ _)]; congr 1; omega
      have eh : nI v / 8 - nI v / 8 / 2 * 2 = nI (v / 8 % 2) := by
        rw [L_8, L_2, pk_div (by omega) (by omega) (by omega), pk_div (by omega) (by omega) (by omega), pk_mul, pk_sub (Nat.div_mul_le_self _ _)]; congr 1; omega
      have e7 : nI v / 16 - nI v / 16 / 7 * 7 = nI (v / 16 % 7) := by
        rw [L_16, L_7, pk_div (by omega) (by omega) (by omega), pk_div (by omega) (by omega) (by omega), pk_mul, pk_sub (Nat.div_mul_le_self _ _)]; congr 1; omega
      rw [ile_f q (by omega), if_neg (by decide), show (9 : Int32) * nI t = nI (9 * t) by rw [L_9, pk_mul], v2, ej_bi_s, eh, ej_nm_e, e8]
      rcases Nat.lt_or_ge (v % 8) 6 with z | z
      · rw [show (6 : Int32) = nI 6 from L_6, ile_f z (by omega), ck_t (by omega) (by omega), ← L_16, e7, ej_nm_e, nI_clamp (by omega)]
        refine fin _ ?_
        obtain ⟨hc, hF, hT, l0, l1, l2, l3, hH⟩ := hL
        obtain ⟨g0, ok, gh0, gh1, b0, b1⟩ := id hT
        have hc' : IQ n fs σ0 (tx (rwL T (6 * (v / 8 % 2)) 0)) ot c := hc
        have hH1 : gA (uA τ 2 (v / 8 % 2) (nI (v / 16 % 7))) 2 3 = zm ∨ ∃ hm, hm < 10 ∧ gA (uA τ 2 (v / 8 % 2) (nI (v / 16 % 7))) 2 3 = nI hm ∧ gJ σ0 1 = lN (97 + hm) := by
          rw [s_AA_s, pk_un (by omega)]; exact hH
        have key : ∃ ho, ho ≤ 6 ∧ gA τ 2 (1 - v / 8 % 2) = nI ho ∧ LL (2 * (1 - v / 8 % 2)) = rwL T (6 * (1 - v / 8 % 2)) ho := by
          rcases (show v / 8 % 2 = 0 ∨ v / 8 % 2 = 1 by omega) with y | y
          · rw [y]; exact ⟨h1, b1, gh1, l2⟩
          · rw [y]; exact ⟨h0, b0, gh0, l0⟩
        obtain ⟨ho, o1, o2, o3⟩ := key
        obtain ⟨s, k1, k2⟩ := L123 (n := n) (N := N) (xs := xs) (ot := ot) (f65 := mL_law_65 n N xs fu) hN hn hh (show v / 16 % 7 ≤ 6 by omega) o1 v1 q hF l1 l3 8 0 T (uA τ 2 (v / 8 % 2) (nI (v / 16 % 7))) c hc' (fun i hi => by rw [s_AA_n (by omega)]; exact g0 i hi) ok (by rw [s_AA_s, pk_us]) (by rw [s_AA_s, pk_un (by omega)]; exact o2) o3 hH1 (Nat.zero_le _) (by omega)
        exact ⟨s, k1, by rw [← k2, L_0]⟩
      · rw [show (6 : Int32) = nI 6 from L_6, ile_t z (by omega)]
        by_cases z6 : v % 8 = 6
        · rw [ieq_t z6]
          exact fin _ (L_drop (n := n) (N := N) (xs := xs) (f65 := mL_law_65 n N xs fu) hn hL v1 q hh)
        · rw [ieq_f z6 (by omega) (by omega)]
          exact fin _ (L370 (n := n) (N := N) (xs := xs) (f65 := mL_law_65 n N xs fu) hn hL v1 q)
end P97yc
