/-! THE REFERENCE: links back, to the end -/
/-- after t turns -/
def LB (σ0 σ : ej_S) (h t : Nat) : Prop := fr [] [] [21, 22] [] [] σ0 σ ∧ ∀ a b, a < 24 → b < 24 → gA σ 21 (24 * a + b) = Xs σ0 h t (24 * a + b)
section P77
variable {n N h t : Nat} {σ0 σ : ej_S}
theorem LB_A (g : LB σ0 σ h t) {j : Nat} (h1 : j ≠ 21) (h2 : j ≠ 22) : gA σ j = gA σ0 j := g.1.2.2.1 j (by simp [h1, h2])
theorem LB_stp (g : LB σ0 σ h t) {a b : Nat} (ha : a < 24) (hb : b < 24) : stp σ a b ↔ stp (sB σ0 (Xs σ0 h t)) a b := by
  refine stp_cg (fun k _ _ => ?_)
  refine scost_cg ?_ ?_ ?_ ?_ ?_ ?_ ?_ ?_
  · rw [sB_A _ _ (by omega), LB_A g (by omega) (by omega)]
  · rw [sB_A _ _ (by omega), LB_A g (by omega) (by omega)]
  · rw [sB_A _ _ (by omega), LB_A g (by omega) (by omega)]
  · rw [sB_A _ _ (by omega), LB_A g (by omega) (by omega)]
  · rw [sB_A _ _ (by omega), LB_A g (by omega) (by omega)]
  · rw [sB_A _ _ (by omega), LB_A g (by omega) (by omega)]
  · rw [sB_B, g.1.2.2.2.1 1 (by simp)]
  · rw [sB_21, g.2 a b ha hb]
theorem LB_cl (g : LB σ0 σ h t) {x : Nat} : cl σ h x ↔ cl (sB σ0 (Xs σ0 h t)) h x := cl_cg (fun _ _ ha hb => LB_stp g ha hb) h x
theorem LB_bk (g : LB σ0 σ h t) : bkOK σ := by
  intro a b ha hb z
  have := bkOK_Xs σ0 h t a b ha hb (by rw [sB_21, ← g.2 a b ha hb]; exact z)
  rw [sB_A _ _ (by omega)] at this
  rw [LB_A g (by omega) (by omega)]; exact this
theorem LB_CR (g : LB σ0 σ h t) (hw : wfR σ0) (hN : gI σ0 15 = nI N) (hN24 : N ≤ 24) : CR σ N := ⟨wfR_fr hw g.1 (by simp) (by simp) (by simp) (by simp) (by simp) (by simp) (by simp) (by simp), by rw [g.1.1 15 (by simp)]; exact hN, hN24, LB_bk g⟩
theorem nw_lim (hw : wfR σ0) (hN : gI σ0 15 = nI N) (hN24 : N ≤ 24) {X : Nat → Int32} {a b : Nat} (q : nw (sB σ0 X) h a b) : a < N ∧ b < N := by
  obtain ⟨q1, q2, q3, q4, q5⟩ := q
  obtain ⟨N', h0, h1, h2, w1, w2, w3, w4, w5, w6, w7, w8, w9⟩ := hw
  have e : N = N' := by rw [← NN_eq hN hN24, NN_eq h1 h0]
  subst e
  rw [sB_A _ _ (by omega)] at q5
  refine Classical.byContradiction fun hno => q5 (w6 b a q2 q1 (by omega))
theorem gvc_nw (g : LB σ0 σ h t) (hr : ∀ x, x < N → (gA σ 22 x ≠ nI 0 ↔ cl (sB σ0 (Xs σ0 h t)) h x)) (hN24 : N ≤ 24) {y : Nat} (hd : y / N < N) (hm : y % N < N) : gvc σ N y ↔ nw (sB σ0 (Xs σ0 h t)) h (y % N) (y / N) := by
  have e1 := hr _ hd
  have e2 := hr _ hm
  unfold gvc nw
  rw [sB_A _ _ (by omega), ← LB_A g (j := 16) (by omega) (by omega), ← e1, ← e2]
  constructor
  · rintro ⟨a1, a2, a3⟩; exact ⟨by omega, by omega, fun z => z a1, a2, a3⟩
  · rintro ⟨_, _, a1, a2, a3⟩; exact ⟨Classical.byContradiction a1, a2, a3⟩
theorem r_80 (hn : 2000 < n) (hw : wfR σ0) (hN : gI σ0 15 = nI N) (hN24 : N ≤ 24) (hh : h < N) : ∀ (k t : Nat) (σ : ej_S), LB σ0 σ h t → (∀ x, x < N → (gA σ 22 x ≠ nI 0 ↔ cl (sB σ0 (Xs σ0 h t)) h x)) → 24 - t < k → ∃ T σ', nn σ0 h T ∧ LB σ0 σ' h T ∧ m11_solves_80 n k (nI h) σ = m11_solves_106 n n (nI 1) (uA σ' 23 (4 * h) (nI 0)) := by
  intro k
  induction k with
  | zero => intro t σ _ _ h; omega
  | succ k ih =>
    intro t σ g hr hk
    have hNN : N * N ≤ 576 := Nat.mul_le_mul hN24 hN24
    have hN0 : 0 < N := by omega
    have hlim : ∀ y, y < N * N → y / N < N ∧ y % N < N := fun y hy => ⟨Nat.div_lt_of_lt_mul hy, Nat.mod_lt _ hN0⟩
    obtain ⟨σ1, g', e1, f1, p1, p2, p3⟩ := r_givesBack_4 (n := n) (N := N) n 0 σ false (by rw [g.1.1 15 (by simp)]; exact hN) hN24 (Nat.zero_le _) (by omega)
    have e1' : m11_givesBack n σ = some (bI g', σ1) := by
      unfold m11_givesBack
      rw [L_0]; exact e1
    rw [u_11_solves_80, e1', ej_bi_s]
    have fr1 : fr [] [] [21, 22] [] [] σ0 σ1 := fr_tr g.1 (fr_wk f1 (by simp) (by simp) (by simp) (by simp) (by simp))
    have row : ∀ a b, a < 24 → b < 24 → gA σ1 21 (24 * a + b) = Xs σ0 h (t + 1) (24 * a + b) := by
      intro a b ha hb
      by_cases q : nw (sB σ0 (Xs σ0 h t)) h a b
      · obtain ⟨l1, l2⟩ := nw_lim hw hN hN24 q
        have y1 : (b * N + a) / N = b := by rw [Nat.mul_comm, Nat.mul_add_div hN0, Nat.div_eq_of_lt l1]; omega
        have y2 : (b * N + a) % N = a := by rw [Nat.mul_comm, Nat.mul_add_mod, Nat.mod_eq_of_lt l1]
        have y3 : b * N + a < N * N := by
          have : b * N + N ≤ N * N := by rw [← Nat.succ_mul]; exact Nat.mul_le_mul_right N l2
          omega
        have := p1 (b * N + a) (Nat.zero_le _) y3 ((gvc_nw g hr hN24 (by rw [y1]; exact l2) (by rw [y2]; exact l1)).mpr (by rw [y1, y2]; exact q))
        rw [y1, y2] at this
        rw [this]
        exact (nx_new q).symm
      · have := p2 (24 * a + b) (fun ⟨y', z1, z2, z3, z4⟩ => by
          obtain ⟨l1, l2⟩ := hlim y' z2
          have i := (idx hb (show y' / N < 24 by omega)).mp z4
          have := (gvc_nw g hr hN24 l1 l2).mp z3
          rw [← i.1, ← i.2] at this
          exact q this)
        rw [this, g.2 a b ha hb]
        exact (nx_ab ha hb q).symm
    have g1 : LB σ0 σ1 h (t + 1) := ⟨fr1, row⟩
    cases g'
    · have hnn : nn σ0 h t := by
        intro a b q
        obtain ⟨l1, l2⟩ := nw_lim hw hN hN24 q
        have y1 : (b * N + a) / N = b := by rw [Nat.mul_comm, Nat.mul_add_div hN0, Nat.div_eq_of_lt l1]; omega
        have y2 : (b * N + a) % N = a := by rw [Nat.mul_comm, Nat.mul_add_mod, Nat.mod_eq_of_lt l1]
        have y3 : b * N + a < N * N := by
          have : b * N + N ≤ N * N := by rw [← Nat.succ_mul]; exact Nat.mul_le_mul_right N l2
          omega
        have := p3.mpr (.inr ⟨b * N + a, Nat.zero_le _, y3, (gvc_nw g hr hN24 (by rw [y1]; exact l2) (by rw [y2]; exact l1)).mpr (by rw [y1, y2]; exact q)⟩)
        cases this
      have hnn1 : nn σ0 h (t + 1) := by
        have := Xs_stop hnn
        unfold nn at *
        rw [this]; exact hnn
      refine ⟨t + 1, σ1, hnn1, g1, ?_⟩
      rw [bI_f, L_0, if_pos rfl, L_4, pk_mul]
      simp (disch := omega) only [ck_t, nI_clamp, ej_bi_s, ej_bl_s, ej_bv_s, ej_nm_e, L_1]
    · rw [bI_t, L_0, if_neg n10]
      have hno : ¬ nn σ0 h t := by
        intro hnn
        rcases p3.mp rfl with z | ⟨y', z1, z2, z3⟩
        · cases z
        · obtain ⟨l1, l2⟩ := hlim y' z2
          exact hnn _ _ ((gvc_nw g hr hN24 l1 l2).mp z3)
      have ht : t < 24 := by
        obtain ⟨t0, t1, t2⟩ := nn_ex σ0 h
        refine Classical.byContradiction fun z => hno ?_
        have e := Xs_stay t2 (t - t0)
        rw [show t0 + (t - t0) = t by omega] at e
        unfold nn at *
        rw [e]; exact t2
      obtain ⟨σ2, e2, f2, r2⟩ := r_reaches hn (LB_CR g1 hw hN hN24) hh
      rw [e2, ej_bv_s]
      have g2 : LB σ0 σ2 h (t + 1) := ⟨fr_tr fr1 (fr_wk f2 (by simp) (by simp) (by simp) (by simp) (by simp)), fun a b ha hb => by rw [f2.2.2.1 21 (by simp)]; exact row a b ha hb⟩
      exact ih (t + 1) σ2 g2 (fun x hx => (r2 x hx).trans (LB_cl g1)) (by omega)
end P77
