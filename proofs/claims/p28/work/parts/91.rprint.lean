/-! ROUTES printed by the reference -/
theorem nmA_fr {I J A B M : List Nat} {σ s : ej_S} (f : fr I J A B M σ s) (hB : 1 ∉ B) (h12 : 12 ∉ A) (h13 : 13 ∉ A) (h17 : 17 ∉ A) (rt kd : Nat → Nat) : (∀ i, nmA s rt i = nmA σ rt i) ∧ (∀ i, chn s rt kd i = chn σ rt kd i) ∧ (∀ i, nmW s rt kd i = nmW σ rt kd i) ∧ (∀ i, mkA s rt kd i = mkA σ rt kd i) ∧ (∀ i, cfd s rt kd i = cfd σ rt kd i) := by
  have e1 : ∀ i, nmA s rt i = nmA σ rt i := by intro i; unfold nmA; rw [f.2.2.2.1 1 hB]
  have e5 : ∀ i, cfd s rt kd i = cfd σ rt kd i := by intro i; unfold cfd dmA; rw [f.2.2.2.1 1 hB]
  have e2 : ∀ i, chn s rt kd i = chn σ rt kd i := by
    intro i
    induction i with
    | zero => rfl
    | succ i ih =>
      show (if cfd s rt kd i = true then nmA s rt i ++ chn s rt kd i else []) = (if cfd σ rt kd i = true then nmA σ rt i ++ chn σ rt kd i else [])
      rw [e5, e1, ih]
  have e3 : ∀ i, nmW s rt kd i = nmW σ rt kd i := by intro i; unfold nmW; rw [e1, e2]
  have e4 : ∀ i, mkA s rt kd i = mkA σ rt kd i := by
    intro i
    unfold mkA kdN mkN
    rw [f.2.2.2.1 1 hB, f.2.2.1 12 h12, f.2.2.1 13 h13, f.2.2.1 17 h17]
  exact ⟨e1, e2, e3, e4, e5⟩
def hNm (σ : ej_S) : Prop := NN σ ≤ 24 ∧ ∀ a, a < NN σ → isNm (gB σ 1 a)
theorem hNm_fr {I J A B M : List Nat} {σ s : ej_S} (h : hNm σ) (f : fr I J A B M σ s) (h15 : 15 ∉ I) (hB : 1 ∉ B) : hNm s := by
  unfold hNm NN at *
  rw [f.1 15 h15, f.2.2.2.1 1 hB]; exact h
section P91
variable {n L : Nat} {σ : ej_S} {rt kd : Nat → Nat}
theorem kdN_2 {a : Nat} : kdN σ a = 2 ↔ dmB (gB σ 1 a) = true := by
  unfold kdN
  by_cases g : dmB (gB σ 1 a) = true
  · rw [if_pos g]; exact ⟨fun _ => g, fun _ => rfl⟩
  · rw [if_neg g]
    split
    · exact ⟨fun z => absurd z (by omega), fun z => absurd z g⟩
    · exact ⟨fun z => absurd z (by omega), fun z => absurd z g⟩
theorem r_markAt_0 (hR : RCr σ rt kd L) : m11_markAt n (nI 0) σ = some (nI 0, σ) := by
  have h0 := (hR.2.2.1 0 (Nat.zero_le _)).2.2
  unfold m11_markAt m11_markAt_28 m11_markAt_57
  rw [ck_t (by omega) (by omega), ej_nm_e, L_0, if_pos rfl, L_2, L_4, L_5, ieq_f (by omega) (by omega) (by omega), ieq_f (by omega) (by omega) (by omega), ieq_f (by omega) (by omega) (by omega), if_pos rfl]
theorem r_markAt {i : Nat} (hR : RCr σ rt kd L) (hN : NN σ ≤ 24) (hi : i < L) : m11_markAt n (nI (i + 1)) σ = some (nI (mkA σ rt kd i), σ) := by
  have hL := hR.1
  obtain ⟨a1, a2, a3⟩ := hR.2.2.1 i (by omega)
  obtain ⟨b1, b2, b3⟩ := hR.2.2.1 (i + 1) hi
  obtain ⟨c1, c2, c3⟩ := hR.2.2.2 i hi
  have hk := kdN_le (σ := σ) (a := rt (i + 1) / 4)
  have m57 : ∀ w : Bool, m11_markAt_57 n (nI (i + 1)) (nI (rt (i + 1) / 4)) (nI (kd (i + 1))) (bI w) σ = some (nI (if w = true then mkN σ (rt i / 4) (rt (i + 1) / 4) (kd (i + 1)) else 0), σ) := by
    intro w
    unfold m11_markAt_57
    cases w
    · rw [bI_f, L_0, if_pos rfl]; rfl
    · rw [bI_t, L_0, if_neg n10, L_1, nI_m2 (by omega), Nat.add_sub_cancel, ck_t (by omega) (by omega), nI_clamp (by omega), a3, L_4, pk_div (by omega) (by omega) (by omega), r_mark (by omega) (by omega) c1 c2, ej_bi_s]; rfl
  have kk : ∀ X : Option (Int32 × ej_S), X = (ej_bi (m11_kindOf n (nI (rt (i + 1) / 4)) σ) fun r6 s5 => (if r6 = 0 then (m11_markAt_57 n (nI (i + 1)) (nI (rt (i + 1) / 4)) (nI (kd (i + 1))) 1 s5) else (m11_markAt_57 n (nI (i + 1)) (nI (rt (i + 1) / 4)) (nI (kd (i + 1))) 0 s5))) → X = some (nI (mkA σ rt kd i), σ) := by
    intro X hX
    rw [hX, r_kindOf (by omega), ej_bi_s, L_0]
    have q0 := m57 false
    have q1 := m57 true
    rw [bI_f] at q0
    rw [bI_t] at q1
    rw [L_1, q0, q1]
    unfold mkA
    by_cases g : kdN σ (rt (i + 1) / 4) = 0
    · rw [ieq_t g, if_pos g]; rfl
    · rw [ieq_f g (by omega) (by omega), if_neg g]; rfl
  unfold m11_markAt
  rw [ck_t (by omega) (by omega), nI_clamp (by omega), b3, L_4, pk_div (by omega) (by omega) (by omega), ej_nm_e, L_0, ieq_f (by omega) (by omega) (by omega), ck_t (by omega) (by omega), ck_t b1 (by omega), nI_clamp (by omega), c3]
  unfold m11_markAt_28
  rw [L_2, L_4, L_5]
  by_cases k2 : kd (i + 1) = 2
  · rw [ieq_t k2]; exact kk _ rfl
  · rw [ieq_f k2 (by omega) (by omega)]
    by_cases k5 : kd (i + 1) = 5
    · rw [ieq_t k5]; exact kk _ rfl
    · rw [ieq_f k5 (by omega) (by omega)]
      by_cases k4 : kd (i + 1) = 4
      · rw [ieq_t k4]; exact kk _ rfl
      · rw [ieq_f k4 (by omega) (by omega)]
        have q0 := m57 false
        rw [bI_f] at q0
        rw [L_0, q0]
        unfold mkA mkN
        rw [if_neg k2, if_neg k4, if_neg k5, ite_self, ite_self]
theorem r_pna_14 (hn : 2000 < n) : ∀ (i k : Nat) (σ : ej_S) (l : List Nat), RCr σ rt kd L → hNm σ → i ≤ L → RX σ l → l.length + (chn σ rt kd i).length ≤ 4096 → i < k → ∃ σ', m11_putsNameAt_14 n k (nI i) σ = some σ' ∧ RX σ' (l ++ chn σ rt kd i) ∧ fr [18] [] [28] [] [] σ σ' := by
  intro i
  induction i with
  | zero =>
    intro k σ l hR hN hi hT hl hk
    obtain ⟨k, rfl⟩ : ∃ k', k = k' + 1 := ⟨k - 1, by omega⟩
    rw [u_11_putsNameAt_14, L_0, ile_t (by omega) (by omega)]
    refine ⟨σ, rfl, ?_, fr_rf⟩
    show RX σ (l ++ [])
    rw [List.append_nil]; exact hT
  | succ i ih =>
    intro k σ l hR hN hi hT hl hk
    obtain ⟨k, rfl⟩ : ∃ k', k = k' + 1 := ⟨k - 1, by omega⟩
    have hL := hR.1
    have hN24 := hN.1
    obtain ⟨a1, a2, a3⟩ := hR.2.2.1 i (by omega)
    obtain ⟨b1, b2, b3⟩ := hR.2.2.1 (i + 1) hi
    obtain ⟨c1, c2, c3⟩ := hR.2.2.2 i (by omega)
    have hkd := kdN_le (σ := σ) (a := rt i / 4)
    have ech : chn σ rt kd (i + 1) = if cfd σ rt kd i = true then nmA σ rt i ++ chn σ rt kd i else [] := rfl
    rw [u_11_putsNameAt_14, L_m1, L_0, ile_f (by omega) (by omega), ck_t (by omega) (by omega), nI_clamp (by omega), b3, ck_t b1 (by omega), nI_clamp (by omega), c3, L_1, L_3, L_2, L_4]
    have stop : cfd σ rt kd i = false → ∀ X, X = some σ → ∃ σ', X = some σ' ∧ RX σ' (l ++ chn σ rt kd (i + 1)) ∧ fr [18] [] [28] [] [] σ σ' := by
      intro g X hX
      refine ⟨σ, hX, ?_, fr_rf⟩
      rw [ech, g, if_neg (by decide), List.append_nil]; exact hT
    by_cases k1 : kd (i + 1) = 1
    · rw [ieq_t k1]
      exact stop (by unfold cfd onw; rw [k1]; rfl) _ rfl
    · rw [ieq_f k1 (by omega) (by omega), ck_t (by omega) (by omega), ck_t b1 (by omega)]
      by_cases k3 : kd (i + 1) = 3
      · rw [ieq_t k3]
        exact stop (by unfold cfd onw; rw [k3]; rfl) _ rfl
      · rw [ieq_f k3 (by omega) (by omega), nI_m2 (by omega), Nat.add_sub_cancel, ck_t (by omega) (by omega), nI_clamp (by omega), a3, pk_div (by omega) (by omega) (by omega), r_kindOf (by omega), ej_bi_s]
        have hon : onw (kd (i + 1)) = true := by
          unfold onw
          have : kd (i + 1) = 2 ∨ kd (i + 1) = 4 ∨ kd (i + 1) = 5 := by omega
          rcases this with z | z | z <;> rw [z] <;> rfl
        by_cases g : kdN σ (rt i / 4) = 2
        · have hcf : cfd σ rt kd i = true := by
            unfold cfd dmA
            rw [hon, kdN_2.mp g]; rfl
          rw [ech, hcf, if_pos rfl] at hl ⊢
          rw [List.length_append] at hl
          obtain ⟨σ1, e1, t1, f1⟩ := r_puts (n := n) hn hT (show rt i / 4 < 24 by omega) (hN.2 _ a2) (show l.length + (nmA σ rt i).length ≤ 4096 by omega)
          rw [ieq_t g, nI_m1 (by omega), Nat.add_sub_cancel, ej_nm_e, ck_t (by omega) (by omega), nI_clamp (by omega), a3, pk_div (by omega) (by omega) (by omega), e1, ej_bv_s]
          obtain ⟨n1, n2, n3, n4, n5⟩ := nmA_fr f1 (by simp) (by simp) (by simp) (by simp) rt kd
          obtain ⟨σ', r1, r2, r3⟩ := ih k σ1 (l ++ nmA σ rt i) (RCr_fr hR f1 (by simp) (by simp) (by simp) (by simp)) (hNm_fr hN f1 (by simp) (by simp)) (by omega) t1 (by rw [n2, List.length_append]; omega) (by omega)
          rw [n2] at r2
          exact ⟨σ', r1, by rw [← List.append_assoc]; exact r2, fr_tr f1 r3⟩
        · rw [ieq_f g (by omega) (by omega)]
          refine stop ?_ _ rfl
          unfold cfd dmA
          cases e : dmB (gB σ 1 (rt i / 4))
          · rw [Bool.and_false]
          · exact absurd (kdN_2.mpr e) g
theorem r_putsNameAt {i : Nat} {l : List Nat} (hn : 2000 < n) (hR : RCr σ rt kd L) (hN : hNm σ) (hi : i ≤ L) (hT : RX σ l) (hl : l.length + (nmW σ rt kd i).length ≤ 4096) : ∃ σ', m11_putsNameAt n (nI i) σ = some σ' ∧ RX σ' (l ++ nmW σ rt kd i) ∧ fr [18] [] [28] [] [] σ σ' := by
  have hL := hR.1
  have hN24 := hN.1
  obtain ⟨a1, a2, a3⟩ := hR.2.2.1 i hi
  unfold nmW at *
  rw [List.length_append] at hl
  obtain ⟨σ1, e1, t1, f1⟩ := r_puts (n := n) hn hT (show rt i / 4 < 24 by omega) (hN.2 _ a2) (show l.length + (nmA σ rt i).length ≤ 4096 by omega)
  unfold m11_putsNameAt
  rw [ck_t (by omega) (by omega), nI_clamp (by omega), a3, L_4, pk_div (by omega) (by omega) (by omega), e1, ej_bv_s]
  obtain ⟨n1, n2, n3, n4, n5⟩ := nmA_fr f1 (by simp) (by simp) (by simp) (by simp) rt kd
  obtain ⟨σ', r1, r2, r3⟩ := r_pna_14 (n := n) hn i n σ1 (l ++ nmA σ rt i) (RCr_fr hR f1 (by simp) (by simp) (by simp) (by simp)) (hNm_fr hN f1 (by simp) (by simp)) hi t1 (by rw [n2, List.length_append]; omega) (by omega)
  rw [n2] at r2
  exact ⟨σ', r1, by rw [← List.append_assoc]; exact r2, fr_tr f1 r3⟩
theorem lr_fr {I J A B M : List Nat} {s : ej_S} (f : fr I J A B M σ s) (hB : 1 ∉ B) (h12 : 12 ∉ A) (h13 : 13 ∉ A) (h17 : 17 ∉ A) : (∀ i, lft s rt kd i = lft σ rt kd i) ∧ ∀ i, rgt s rt kd i = rgt σ rt kd i := by
  obtain ⟨n1, n2, n3, n4, n5⟩ := nmA_fr f hB h12 h13 h17 rt kd
  constructor
  · intro i
    induction i with
    | zero => rfl
    | succ i ih =>
      show lft s rt kd i ++ (if mkA s rt kd i = 1 then nmW s rt kd (i + 1) ++ [33] else []) = lft σ rt kd i ++ (if mkA σ rt kd i = 1 then nmW σ rt kd (i + 1) ++ [33] else [])
      rw [ih, n3, n4]
  · intro i
    induction i with
    | zero => rfl
    | succ i ih =>
      show (if mkA s rt kd i = 2 then 64 :: nmW s rt kd (i + 1) else []) ++ rgt s rt kd i = (if mkA σ rt kd i = 2 then 64 :: nmW σ rt kd (i + 1) else []) ++ rgt σ rt kd i
      rw [ih, n3, n4]
theorem mkA_le {i : Nat} : mkA σ rt kd i ≤ 2 := by
  unfold mkA mkN
  repeat' split
  all_goals omega
theorem r_putsLeft_2 (hn : 2000 < n) : ∀ (k i : Nat) (σ : ej_S) (l : List Nat), RCr σ rt kd L → hNm σ → i ≤ L → RX σ (l ++ lft σ rt kd i) → l.length + (lft σ rt kd L).length ≤ 4000 → L - i < k → ∃ σ', m11_putsLeft_2 n k (nI (i + 1)) σ = some σ' ∧ RX σ' (l ++ lft σ rt kd L) ∧ fr [18] [] [28] [] [] σ σ' := by
  intro k
  induction k with
  | zero => intro i σ l _ _ _ _ _ h; omega
  | succ k ih =>
    intro i σ l hR hN hi hT hl hk
    have hL := hR.1
    rw [u_11_putsLeft_2, hR.2.1]
    rcases Nat.lt_or_ge i L with q | q
    · have el : lft σ rt kd (i + 1) = lft σ rt kd i ++ (if mkA σ rt kd i = 1 then nmW σ rt kd (i + 1) ++ [33] else []) := rfl
      have hm := lft_mono (σr := σ) (rt := rt) (kd := kd) (i + 1) L q
      have m2 := mkA_le (σ := σ) (rt := rt) (kd := kd) (i := i)
      rw [ilt_f (by omega) (by omega), r_markAt hR hN.1 q, ej_bi_s, L_1]
      by_cases g : mkA σ rt kd i = 1
      · rw [if_pos g] at el
        rw [ieq_t g]
        rw [el] at hm
        simp only [List.length_append] at hm
        obtain ⟨σ1, e1, t1, f1⟩ := r_putsNameAt (n := n) (i := i + 1) hn hR hN q hT (by rw [List.length_append]; omega)
        obtain ⟨σ2, e2, t2, f2⟩ := r_putsCode (n := n) (c := 33) t1 (by rw [List.length_append, List.length_append]; omega) (by omega)
        rw [e1, ej_bv_s, L_33, e2, ej_bv_s, nI_add, ej_nm_e]
        rw [List.append_assoc, List.append_assoc, ← el] at t2
        have f12 := fr_tr f1 f2
        have lf := (lr_fr (rt := rt) (kd := kd) f12 (by simp) (by simp) (by simp) (by simp)).1
        obtain ⟨σ', r1, r2, r3⟩ := ih (i + 1) σ2 l (RCr_fr hR f12 (by simp) (by simp) (by simp) (by simp)) (hNm_fr hN f12 (by simp) (by simp)) q (by rw [lf]; exact t2) (by rw [lf]; exact hl) (by omega)
        rw [lf] at r2
        exact ⟨σ', r1, r2, fr_tr f12 r3⟩
      · rw [if_neg g, List.append_nil] at el
        rw [ieq_f g (by omega) (by omega), nI_add, ej_nm_e]
        exact ih (i + 1) σ l hR hN q (by rw [el]; exact hT) hl (by omega)
    · have e : i = L := by omega
      subst e
      rw [ilt_t (by omega) (by omega)]
      exact ⟨σ, rfl, hT, fr_rf⟩
theorem r_putsLeft {l : List Nat} (hn : 2000 < n) (hR : RCr σ rt kd L) (hN : hNm σ) (hT : RX σ l) (hl : l.length + (lft σ rt kd L).length ≤ 4000) : ∃ σ', m11_putsLeft n σ = some σ' ∧ RX σ' (l ++ lft σ rt kd L) ∧ fr [18] [] [28] [] [] σ σ' := by
  have hL := hR.1
  unfold m11_putsLeft
  obtain ⟨m, hm⟩ : ∃ m, n = m + 1 := ⟨n - 1, by omega⟩
  have e0 : m11_putsLeft_2 n n 0 σ = m11_putsLeft_2 n m (nI (0 + 1)) σ := by
    rw [show m11_putsLeft_2 n n 0 σ = m11_putsLeft_2 n (m + 1) 0 σ by rw [← hm], u_11_putsLeft_2, hR.2.1, L_0, ilt_f (Nat.zero_le _) (by omega), r_markAt_0 hR, ej_bi_s, L_1, ieq_f (by omega) (by omega) (by omega), nI_add, ej_nm_e]
  rw [e0]
  exact r_putsLeft_2 hn m 0 σ l hR hN (Nat.zero_le _) (by show RX σ (l ++ []); rw [List.append_nil]; exact hT) hl (by omega)
theorem r_putsRight_5 (hn : 2000 < n) : ∀ (i k : Nat) (σ : ej_S) (l : List Nat), RCr σ rt kd L → hNm σ → i ≤ L → RX σ l → l.length + (rgt σ rt kd i).length ≤ 4000 → i + 1 < k → ∃ σ', m11_putsRight_5 n k (nI i) σ = some σ' ∧ RX σ' (l ++ rgt σ rt kd i) ∧ fr [18] [] [28] [] [] σ σ' := by
  intro i
  induction i with
  | zero =>
    intro k σ l hR hN hi hT hl hk
    obtain ⟨k, rfl⟩ : ∃ k', k = k' + 1 := ⟨k - 1, by omega⟩
    obtain ⟨k, rfl⟩ : ∃ k', k = k' + 1 := ⟨k - 1, by omega⟩
    rw [u_11_putsRight_5, L_0, ilt_f (Nat.zero_le _) (by omega), r_markAt_0 hR, ej_bi_s, L_2, ieq_f (by omega) (by omega) (by omega), L_m1, dn_s (by omega), ej_nm_e, u_11_putsRight_5, L_0, show dn 0 = zm from rfl, if_pos (zm_lt (by omega))]
    refine ⟨σ, rfl, ?_, fr_rf⟩
    show RX σ (l ++ [])
    rw [List.append_nil]; exact hT
  | succ i ih =>
    intro k σ l hR hN hi hT hl hk
    obtain ⟨k, rfl⟩ : ∃ k', k = k' + 1 := ⟨k - 1, by omega⟩
    have hL := hR.1
    have el : rgt σ rt kd (i + 1) = (if mkA σ rt kd i = 2 then 64 :: nmW σ rt kd (i + 1) else []) ++ rgt σ rt kd i := rfl
    have m2 := mkA_le (σ := σ) (rt := rt) (kd := kd) (i := i)
    rw [u_11_putsRight_5, L_0, ilt_f (by omega) (by omega), r_markAt hR hN.1 (by omega), ej_bi_s, L_2, L_m1]
    by_cases g : mkA σ rt kd i = 2
    · rw [if_pos g] at el
      rw [el, List.length_append, List.length_cons] at hl
      obtain ⟨σ1, e1, t1, f1⟩ := r_putsCode (n := n) (c := 64) hT (by omega) (by omega)
      have n3 := (nmA_fr f1 (by simp) (by simp) (by simp) (by simp) rt kd).2.2.1
      obtain ⟨σ2, e2, t2, f2⟩ := r_putsNameAt (n := n) (i := i + 1) hn (RCr_fr hR f1 (by simp) (by simp) (by simp) (by simp)) (hNm_fr hN f1 (by simp) (by simp)) hi t1 (by rw [n3]; simp only [List.length_append, List.length_cons, List.length_nil]; omega)
      have f12 := fr_tr f1 f2
      have lf := (lr_fr (rt := rt) (kd := kd) f12 (by simp) (by simp) (by simp) (by simp)).2
      rw [ieq_t g, L_64, e1, ej_bv_s, e2, ej_bv_s, nI_m1 (by omega), Nat.add_sub_cancel, ej_nm_e]
      rw [n3, List.append_assoc] at t2
      obtain ⟨σ', r1, r2, r3⟩ := ih k σ2 _ (RCr_fr hR f12 (by simp) (by simp) (by simp) (by simp)) (hNm_fr hN f12 (by simp) (by simp)) (by omega) t2 (by rw [lf]; simp only [List.length_append, List.length_cons, List.length_nil]; omega) (by omega)
      refine ⟨σ', r1, ?_, fr_tr f12 r3⟩
      rw [lf] at r2
      rw [el, ← List.append_assoc]; exact r2
    · rw [if_neg g, List.nil_append] at el
      rw [ieq_f g (by omega) (by omega), nI_m1 (by omega), Nat.add_sub_cancel, ej_nm_e]
      rw [el] at hl ⊢
      exact ih k σ l hR hN (by omega) hT hl (by omega)
theorem r_putsRight {l : List Nat} (hn : 2000 < n) (hR : RCr σ rt kd L) (hN : hNm σ) (hT : RX σ l) (hl : l.length + (rgt σ rt kd L).length ≤ 4000) : ∃ σ', m11_putsRight n σ = some σ' ∧ RX σ' (l ++ rgt σ rt kd L) ∧ fr [18] [] [28] [] [] σ σ' := by
  have hL := hR.1
  unfold m11_putsRight
  rw [hR.2.1, ej_nm_e]
  exact r_putsRight_5 hn L n σ l hR hN (Nat.le_refl _) hT hl (by omega)
end P91
