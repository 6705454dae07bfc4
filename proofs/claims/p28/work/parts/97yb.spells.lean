/-! A HALF, spelt and loaded -/
def TU (T : Nat → Nat) (p kd a b d q : Nat) (i : Nat) : Nat := if i = p then kd else if i = p + 1 then a else if i = p + 2 then b else if i = p + 3 then d else if i = p + 4 then q else T i
theorem TU_s {T : Nat → Nat} {j kd a b d q : Nat} : e_s (TU T (5 * j) kd a b d q) j = (kd, a, b, d, q) := by
  unfold e_s TU
  rw [if_pos rfl, if_neg (by omega), if_pos rfl, if_neg (by omega), if_neg (by omega), if_pos rfl, if_neg (by omega), if_neg (by omega), if_neg (by omega), if_pos rfl, if_neg (by omega), if_neg (by omega), if_neg (by omega), if_neg (by omega), if_pos rfl]
theorem TU_n {T : Nat → Nat} {j i kd a b d q : Nat} (h : i ≠ j) : e_s (TU T (5 * j) kd a b d q) i = e_s T i := by
  have key : ∀ x, x < 5 → TU T (5 * j) kd a b d q (5 * i + x) = T (5 * i + x) := by
    intro x hx
    unfold TU
    rw [if_neg (by omega), if_neg (by omega), if_neg (by omega), if_neg (by omega), if_neg (by omega)]
  unfold e_s
  rw [show TU T (5 * j) kd a b d q (5 * i) = T (5 * i) from key 0 (by omega), key 1 (by omega), key 2 (by omega), key 3 (by omega), key 4 (by omega)]
theorem TU_ok {T : Nat → Nat} {j kd a b d q : Nat} (ok : e_ok T) (h1 : kd ≤ 4) (h2 : a < 10) (h3 : b < 10) (h4 : d < 10) (h5 : q < 100000) : e_ok (TU T (5 * j) kd a b d q) := by
  intro i hi
  by_cases z : i = j
  · subst z
    have e := TU_s (T := T) (j := i) (kd := kd) (a := a) (b := b) (d := d) (q := q)
    unfold e_s at e
    simp only [Prod.mk.injEq] at e
    obtain ⟨e1, e2, e3, e4, e5⟩ := e
    rw [e1, e2, e3, e4, e5]
    exact ⟨h1, h2, h3, h4, h5⟩
  · have e := TU_n (T := T) (j := j) (kd := kd) (a := a) (b := b) (d := d) (q := q) z
    unfold e_s at e
    simp only [Prod.mk.injEq] at e
    obtain ⟨e1, e2, e3, e4, e5⟩ := e
    rw [e1, e2, e3, e4, e5]
    exact ok i hi
section P97yb
variable {n N v x w t hf k j : Nat} {xs : Nat → Int32} {σ0 c τ : ej_S} {fs : Nat → List Nat} {LL : Nat → List St} {tp ot : List Nat} {T : Nat → Nat}
/-- a row written -/
theorem TU_g {kd a b d q : Nat} (hj : j < 12) (g : ∀ i, i < 60 → gA τ 0 i = nI (T i)) : (∀ i, i < 60 → gA (uA (uA (uA (uA (uA τ 0 (5 * j) (nI kd)) 0 (5 * j + 1) (nI a)) 0 (5 * j + 2) (nI b)) 0 (5 * j + 3) (nI d)) 0 (5 * j + 4) (nI q)) 0 i = nI (TU T (5 * j) kd a b d q i)) ∧ fr [] [] [0] [] [] τ (uA (uA (uA (uA (uA τ 0 (5 * j) (nI kd)) 0 (5 * j + 1) (nI a)) 0 (5 * j + 2) (nI b)) 0 (5 * j + 3) (nI d)) 0 (5 * j + 4) (nI q)) := by
  refine ⟨fun i hi => ?_, fr_uA (fr_uA (fr_uA (fr_uA (fr_uA fr_rf (by simp)) (by simp)) (by simp)) (by simp)) (by simp)⟩
  rw [s_AA_s, s_AA_s, s_AA_s, s_AA_s, s_AA_s]
  unfold TU
  by_cases z4 : i = 5 * j + 4
  · rw [z4, pk_us, if_neg (by omega), if_neg (by omega), if_neg (by omega), if_neg (by omega), if_pos rfl]
  · rw [pk_un z4]
    by_cases z3 : i = 5 * j + 3
    · rw [z3, pk_us, if_neg (by omega), if_neg (by omega), if_neg (by omega), if_pos rfl]
    · rw [pk_un z3]
      by_cases z2 : i = 5 * j + 2
      · rw [z2, pk_us, if_neg (by omega), if_neg (by omega), if_pos rfl]
      · rw [pk_un z2]
        by_cases z1 : i = 5 * j + 1
        · rw [z1, pk_us, if_neg (by omega), if_pos rfl]
        · rw [pk_un z1]
          by_cases z0 : i = 5 * j
          · rw [z0, pk_us, if_pos rfl]
          · rw [pk_un z0, if_neg z0, if_neg z1, if_neg z2, if_neg z3, if_neg z4]; exact g i hi
theorem L211 {kd : Nat} {F : Int32 → Int32 → Int32 → Int32 → lw_S → Option Int32} (hn : 2000 < n) (hj : j < 12) (g : ∀ i, i < 60 → gA τ 0 i = nI (T i)) (ok : e_ok T) (hk : kd ≤ 4) (hw : w < 2 ^ 31) (hl : tp.length + 16 ≤ 600) (hc : IQ n fs σ0 tp ot c) (y1 y2 y3 : Int32) : ∃ c' τ' T', IQ n fs σ0 (tp ++ (sb (e_s T' j) ++ [59])) ot c' ∧ (∀ i, i < 60 → gA τ' 0 i = nI (T' i)) ∧ e_ok T' ∧ (∀ i, i ≠ j → e_s T' i = e_s T i) ∧ fr [] [] [0] [] [] τ τ' ∧ mL_law_211 n N xs F y1 y2 y3 (nI k) (nI w) (nI (5 * j)) (nI kd) (nI (5 * j)) (c, τ) = F y1 y2 y3 (nI (k + 1)) (c', τ') := by
  have ma : w / 8 % 10 < 10 := Nat.mod_lt _ (by omega)
  have mb : w / 80 % 10 < 10 := Nat.mod_lt _ (by omega)
  have md : w / 800 % 10 < 10 := Nat.mod_lt _ (by omega)
  have dv : ∀ p, 0 < p → p < 2 ^ 31 → nI w / nI p - nI w / nI p / nI 10 * nI 10 = nI (w / p % 10) := by
    intro p hp hp2
    have := Nat.div_le_self w p
    rw [pk_div hw hp hp2, pk_div (by omega) (by omega) (by omega), pk_mul, pk_sub (Nat.div_mul_le_self _ _)]; congr 1; omega
  have fin : ∀ r : Nat, (r = 100000 ∨ r = 30) → ∃ c' τ' T', IQ n fs σ0 (tp ++ (sb (e_s T' j) ++ [59])) ot c' ∧ (∀ i, i < 60 → gA τ' 0 i = nI (T' i)) ∧ e_ok T' ∧ (∀ i, i ≠ j → e_s T' i = e_s T i) ∧ fr [] [] [0] [] [] τ τ' ∧ mL_law_280 n N xs F y1 y2 y3 (nI k) (nI (5 * j)) (nI r) (nI w / 8000) (nI (5 * j) + 4) (c, uA (uA (uA (uA τ 0 (5 * j) (nI kd)) 0 (5 * j + 1) (nI (w / 8 % 10))) 0 (5 * j + 2) (nI (w / 80 % 10))) 0 (5 * j + 3) (nI (w / 800 % 10))) = F y1 y2 y3 (nI (k + 1)) (c', τ') := by
    intro r hr
    have hq : w / 8000 % r < 100000 := by
      have : w / 8000 % r < r := Nat.mod_lt _ (by omega)
      omega
    obtain ⟨g', Fr⟩ := TU_g (τ := τ) (kd := kd) (a := w / 8 % 10) (b := w / 80 % 10) (d := w / 800 % 10) (q := w / 8000 % r) hj g
    have ok' := TU_ok (j := j) ok hk ma mb md hq
    have h1 := SY_bv (Y_statement (n := n) (fs := fs) (σ0 := σ0) (ot := ot) hn g' ok' hj) (Y_says (n := n) (b := 59) hn (by omega))
    have hsl := sb_len (e_s (TU T (5 * j) kd (w / 8 % 10) (w / 80 % 10) (w / 800 % 10) (w / 8000 % r)) j)
    obtain ⟨c', i1, e1⟩ := h1 tp c hc (by rw [List.length_append]; show _ + (_ + 1) ≤ 600; omega)
    refine ⟨c', _, _, i1, g', ok', fun i hi => TU_n hi, Fr, ?_⟩
    have hd := Nat.div_le_self w 8000
    unfold mL_law_280
    rw [show (8000 : Int32) = nI 8000 from congrArg nI (Eq.refl 8000), pk_div hw (by omega) (by omega), dv_t (by omega) (by omega), pk_div (by omega) (by omega) (by omega), pk_mul, pk_sub (Nat.div_mul_le_self _ _), show w / 8000 - w / 8000 / r * r = w / 8000 % r by rw [Nat.mul_comm]; exact (Nat.mod_eq_sub_mul_div).symm, L_4, nI_add, ck_t (by omega) (by omega), nI_clamp (by omega), ej_nm_e]
    have e1' : ej_bv (mL_saysStatement n (nI (5 * j)) (c, _)) (mL_says n (nI 59)) = some (c', _) := e1
    cases hX : mL_saysStatement n (nI (5 * j)) (c, uA (uA (uA (uA (uA τ 0 (5 * j) (nI kd)) 0 (5 * j + 1) (nI (w / 8 % 10))) 0 (5 * j + 2) (nI (w / 80 % 10))) 0 (5 * j + 3) (nI (w / 800 % 10))) 0 (5 * j + 4) (nI (w / 8000 % r))) with
    | none => rw [hX] at e1'; cases e1'
    | some s2 =>
      rw [hX, ej_bv_s] at e1'
      rw [ej_bv_s, L_59, e1', ej_bv_s, p_1, ej_nm_e]
  unfold mL_law_211
  rw [L_1, L_2, L_3, L_8, L_10, show (80 : Int32) = nI 80 from congrArg nI (Eq.refl 80), show (800 : Int32) = nI 800 from congrArg nI (Eq.refl 800), nI_add, nI_add, nI_add, ck_t (by omega) (by omega), nI_clamp (by omega), ej_nm_e, ck_t (by omega) (by omega), nI_clamp (by omega), ej_nm_e, ck_t (by omega) (by omega), nI_clamp (by omega), ej_nm_e, ck_t (by omega) (by omega), nI_clamp (by omega), ej_nm_e, dv 8 (by omega) (by omega), dv 80 (by omega) (by omega), dv 800 (by omega) (by omega)]
  split
  · exact fin 100000 (.inl rfl)
  · exact fin 30 (.inr rfl)
theorem L123 {mm ho : Nat} {f65 : Int32 → Int32 → lw_S → Option Int32} (hN : N ≤ 260) (hn : 200000000000000 < n) (hh : hf < 2) (hmm : mm ≤ 6) (hho : ho ≤ 6) (hv : v < 2 ^ 31) (ht : t < 16) (hF : MF fs LL σ0) (l1 : LL 1 = []) (l3 : LL 3 = []) : ∀ (fu k : Nat) (T : Nat → Nat) (τ c : ej_S), IQ n fs σ0 (tx (rwL T (6 * hf) k)) ot c → (∀ i, i < 60 → gA τ 0 i = nI (T i)) → e_ok T → gA τ 2 hf = nI mm → gA τ 2 (1 - hf) = nI ho → LL (2 * (1 - hf)) = rwL T (6 * (1 - hf)) ho → (gA τ 2 3 = zm ∨ ∃ hm, hm < 10 ∧ gA τ 2 3 = nI hm ∧ gJ σ0 1 = lN (97 + hm)) → k ≤ mm → mm - k < fu → ∃ s, LSt n s ∧ mL_law_123 n N xs f65 fu (nI t) (nI v) (nI hf) (nI k) (c, τ) = f65 1 (nI (t + 1)) s := by
  intro fu
  induction fu with
  | zero => intro k T τ c _ _ _ _ _ _ _ _ z; omega
  | succ fu ih =>
    intro k T τ c hc g ok gh go lo hH hk hf'
    have gs : ∀ c : ej_S, gA ((c, τ) : lw_S).2 2 hf = nI mm := fun c => gh
    have hl : (tx (rwL T (6 * hf) k)).length ≤ 16 * k := by
      have := tx_len (rwL T (6 * hf) k)
      rw [rwL_len] at this; exact this
    rw [u_L_law_123, ck_t (by omega) (by omega), nI_clamp (by omega), gs]
    rcases Nat.eq_or_lt_of_le hk with z | z
    · subst z
      have hg := rwL_g ok (b := 6 * hf) k (by omega)
      have htx := txt_tx hg (by rw [rwL_len]; exact hmm)
      obtain ⟨c1, σ1, i1, e1, hF1, hJ⟩ := a_load (n := n) (f := 2 * hf) hn (by omega) hF htx c hc
      rw [rwL_len] at e1
      have hH1 : gA τ 2 3 = zm ∨ ∃ hm, hm < 10 ∧ gA τ 2 3 = nI hm ∧ gJ σ1 1 = lN (97 + hm) := by rw [hJ]; exact hH
      have hL1 : ∃ h0 h1, LS0 n (fsu fs (2 * hf) (tx (rwL T (6 * hf) k))) (lsu LL (2 * hf) (rwL T (6 * hf) k)) σ1 T h0 h1 ot (c1, τ) := by
        rcases (show hf = 0 ∨ hf = 1 by omega) with y | y
        · subst y
          exact ⟨k, ho, i1, hF1, ⟨g, ok, gh, go, hmm, hho⟩, rfl, l1, lo, l3, hH1⟩
        · subst y
          exact ⟨ho, k, i1, hF1, ⟨g, ok, go, gh, hho, hmm⟩, lo, l1, rfl, l3, hH1⟩
      obtain ⟨h0, h1, hL1⟩ := hL1
      obtain ⟨s, k1, k2⟩ := L370 (n := n) (N := N) (xs := xs) (f65 := f65) hn hL1 hv ht
      refine ⟨s, k1, ?_⟩
      rw [ile_t (Nat.le_refl _) (by omega), L_2, pk_mul, e1, ej_bi_s, ck_t (by omega) (by omega), gs, if_pos rfl]
      exact k2
    · obtain ⟨w, w1, w2⟩ := dice_ok (n := n) (N := N) (xs := xs) (x := 9 * t + 1 + k) hN (by omega) (c, τ)
      have go' : ∀ kd, kd ≤ 4 → ∃ s, LSt n s ∧ mL_law_211 n N xs (mL_law_123 n N xs f65 fu) (nI t) (nI v) (nI hf) (nI k) (nI w) (nI (5 * (6 * hf + k))) (nI kd) (nI (5 * (6 * hf + k))) (c, τ) = f65 1 (nI (t + 1)) s := by
        intro kd hkd
        obtain ⟨c1, τ1, T1, i1, g1, ok1, en, F1, e1⟩ := L211 (n := n) (N := N) (k := k) (j := 6 * hf + k) (xs := xs) (F := mL_law_123 n N xs f65 fu) (show 2000 < n by omega) (by omega) g ok hkd w1 (by omega) hc (nI t) (nI v) (nI hf)
        have er : rwL T (6 * hf) k = rwL T1 (6 * hf) k := rwL_cg k (fun i a1 a2 => (en i (by omega)).symm)
        have er2 : rwL T (6 * (1 - hf)) ho = rwL T1 (6 * (1 - hf)) ho := rwL_cg ho (fun i a1 a2 => (en i (by omega)).symm)
        rw [er, ← tx_snoc] at i1
        obtain ⟨s, k1, k2⟩ := ih (k + 1) T1 τ1 c1 i1 g1 ok1 (by rw [F1.2.2.1 2 (by simp)]; exact gh) (by rw [F1.2.2.1 2 (by simp)]; exact go) (by rw [← er2]; exact lo) (by rw [F1.2.2.1 2 (by simp)]; exact hH) z (by omega)
        exact ⟨s, k1, by rw [e1, k2]⟩
      have e8 : nI w - nI w / 8 * 8 = nI (w % 8) := by
        rw [L_8, pk_div (by omega) (by omega) (by omega), pk_mul, pk_sub (Nat.div_mul_le_self _ _)]; congr 1; omega
      rw [ile_f z (by omega), show ((9 : Int32) * nI t + 1) + nI k = nI (9 * t + 1 + k) by rw [L_9, L_1, pk_mul, nI_add, nI_add], w2, ej_bi_s, show (5 : Int32) * (6 * nI hf + nI k) = nI (5 * (6 * hf + k)) by rw [L_5, L_6, pk_mul, nI_add, pk_mul], ej_nm_e, e8, show (4 : Int32) = nI 4 from L_4, show (5 : Int32) = nI 5 from L_5, show (6 : Int32) = nI 6 from L_6]
      rcases Nat.lt_or_ge (w % 8) 4 with y | y
      · rw [ile_f y (by omega), L_0]; exact go' 0 (by omega)
      · rw [ile_t y (by omega)]
        rcases Nat.lt_or_ge (w % 8) 5 with y5 | y5
        · rw [ile_f y5 (by omega), L_1]; exact go' 1 (by omega)
        · rw [ile_t y5 (by omega)]
          rcases Nat.lt_or_ge (w % 8) 6 with y6 | y6
          · rw [ile_f y6 (by omega), L_2]; exact go' 2 (by omega)
          · rw [ile_t y6 (by omega), L_3, pk_sub (by omega)]; exact go' (w % 8 - 3) (by omega)
end P97yb
