/-! THE CALLS, one by one: routes -/
def LR (D : Nat → Nat) (a j : Nat) (y : Int32) : Prop := (y = zm ∧ ∀ q, 4 * a ≤ q → q < j → D q = iF) ∨ ∃ q, 4 * a ≤ q ∧ q < j ∧ D q < iF ∧ y = nI (D q / 1024) ∧ ∀ q', 4 * a ≤ q' → q' < j → D q / 1024 ≤ D q' / 1024
section P96d
variable {n a : Nat} {σ σc σr σc' σr' : ej_S} {fs : Nat → List Nat} {tp ot : List Nat} {g : Nat → Int64} {D : Nat → Nat}
theorem x_least_18 (hk : ∀ v, v < 96 → (D v = iF ∧ gA σ 30 v = zm) ∨ (D v < iF ∧ gA σ 30 v = nI (D v / 1024))) (ho : OKD D) (hi : ∀ v, D v ≤ iF) (ha : a < 24) : ∀ (k j : Nat) (y : Int32), LR D a j y → 4 * a ≤ j → j ≤ 4 * a + 4 → 4 * a + 4 - j < k → ∃ y', m9_leastByRounds_18 n k (nI a) y (nI j) σ = some (y', σ) ∧ LR D a (4 * a + 4) y' := by
  intro k
  induction k with
  | zero => intro j y _ _ _ h; omega
  | succ k ih =>
    intro j y hL h1 h2 hk'
    rw [u_9_leastByRounds_18, L_m1, L_1, L_4, nI_add, pk_mul]
    rcases Nat.lt_or_ge j (4 * a + 4) with q | q
    · rw [ile_f (show j < (a + 1) * 4 by omega) (by omega)]
      simp (disch := omega) only [ck_t, nI_clamp, nI_add, ej_nm_e]
      rcases hk j (by omega) with ⟨a1, a2⟩ | ⟨a1, a2⟩
      · rw [if_pos a2]
        refine ih (j + 1) y ?_ (by omega) q (by omega)
        rcases hL with ⟨g1, g2⟩ | ⟨p, g1, g2, g3, g4, g5⟩
        · refine .inl ⟨g1, fun q' z1 z2 => ?_⟩
          rcases Nat.eq_or_lt_of_le (Nat.le_of_lt_succ z2) with w | w
          · rw [w]; exact a1
          · exact g2 q' z1 w
        · refine .inr ⟨p, g1, by omega, g3, g4, fun q' z1 z2 => ?_⟩
          rcases Nat.eq_or_lt_of_le (Nat.le_of_lt_succ z2) with w | w
          · rw [w, a1]; exact Nat.div_le_div_right (hi p)
          · exact g5 q' z1 w
      · have bj := OKD_bd ho (show j < 96 by omega) a1
        rw [a2, ieq_m (by omega)]
        rcases hL with ⟨g1, g2⟩ | ⟨p, g1, g2, g3, g4, g5⟩
        · rw [g1, if_pos rfl]
          refine ih (j + 1) _ (.inr ⟨j, h1, by omega, a1, rfl, fun q' z1 z2 => ?_⟩) (by omega) q (by omega)
          rcases Nat.eq_or_lt_of_le (Nat.le_of_lt_succ z2) with w | w
          · rw [w]; exact Nat.le_refl _
          · rw [g2 q' z1 w]; exact Nat.div_le_div_right (hi j)
        · have bp := OKD_bd ho (show p < 96 by omega) g3
          rw [g4, ieq_m (by omega)]
          rcases Nat.lt_or_ge (D j / 1024) (D p / 1024) with w | w
          · rw [ile_f w (by omega)]
            refine ih (j + 1) _ (.inr ⟨j, h1, by omega, a1, rfl, fun q' z1 z2 => ?_⟩) (by omega) q (by omega)
            rcases Nat.eq_or_lt_of_le (Nat.le_of_lt_succ z2) with w' | w'
            · rw [w']; exact Nat.le_refl _
            · have := g5 q' z1 w'; omega
          · rw [ile_t w (by omega)]
            refine ih (j + 1) _ (.inr ⟨p, g1, by omega, g3, rfl, fun q' z1 z2 => ?_⟩) (by omega) q (by omega)
            rcases Nat.eq_or_lt_of_le (Nat.le_of_lt_succ z2) with w' | w'
            · rw [w']; exact w
            · exact g5 q' z1 w'
    · have e : j = 4 * a + 4 := by omega
      subst e
      rw [ile_t (show (a + 1) * 4 ≤ 4 * a + 4 by omega) (by omega)]
      exact ⟨y, rfl, hL⟩
theorem s_least (hn : 2000 < n) (h : WR σc σr) (ha : a < NN σr) (hr : ∀ v, v < 96 → gA σc 30 v = gA σr 23 v) {r : Int32} (hw : m11_wayOf n (nI a) σr = some (r, σr)) : ∃ y, m9_leastByRounds n (nI a) σc = some (y, σc) ∧ ((r = zm ∧ y = zm) ∨ ∃ q, r = nI q ∧ q < 96 ∧ y = gA σr 23 q) := by
  have h24 := NN_le h.1
  obtain ⟨D, k1, k2, k3, k4, k5⟩ := SOL_D h.1 h.2.2.1
  obtain ⟨r', e1, e2⟩ := r_wayOf (n := n) hn k1 k2 k3 (show a < 24 by omega)
  rw [hw] at e1
  cases e1
  have hk : ∀ v, v < 96 → (D v = iF ∧ gA σc 30 v = zm) ∨ (D v < iF ∧ gA σc 30 v = nI (D v / 1024)) := by
    intro v hv
    rw [hr v hv]
    rcases k1 v hv with ⟨z1, z2⟩ | ⟨z1, z2, _⟩
    · exact .inl ⟨z1, z2⟩
    · exact .inr ⟨z1, z2⟩
  obtain ⟨y, d1, d2⟩ := x_least_18 (n := n) hk k2 k3 (show a < 24 by omega) n (4 * a) zm (.inl ⟨rfl, fun q z1 z2 => by omega⟩) (Nat.le_refl _) (by omega) (by omega)
  refine ⟨y, ?_, ?_⟩
  · unfold m9_leastByRounds
    rw [L_0, L_24, ilt_f (by omega) (by omega), ilt_t (by omega) (by omega), ej_nm_e, L_4, pk_mul, L_m1, Nat.mul_comm a 4]
    exact d1
  · rcases e2 with ⟨z, w⟩ | ⟨q, q1, q2, q3, q4, q5, _⟩
    · rcases d2 with ⟨x, _⟩ | ⟨p, p1, p2, p3, _⟩
      · exact .inl ⟨z, x⟩
      · rw [w p p1 p2] at p3; exact absurd p3 (Nat.lt_irrefl _)
    · have c := k1 q (by omega)
      rcases c with ⟨c1, _⟩ | ⟨_, c2, _⟩
      · omega
      · refine .inr ⟨q, q3, by omega, ?_⟩
        rcases d2 with ⟨_, x⟩ | ⟨p, p1, p2, p3, p4, p5⟩
        · have := x q q1 q2; omega
        · have u1 := p5 q q1 q2
          have u2 : D q / 1024 ≤ D p / 1024 := Nat.div_le_div_right (q5 p p1 p2)
          rw [p4, c2, show D p / 1024 = D q / 1024 by omega]
/-- the route of a node, asked of both -/
theorem s_way (hn : 2000 < n) (hM : MAPI n fs σc σr) {i : Nat} (hi : i < NN σr) : ∃ s r, m9_find n σc = some s ∧ fr [34] [] [24, 25, 26, 27, 28, 29] [] [] σc s ∧ MAPI n fs s (uI σr 19 (nI 0)) ∧ WR s (uI σr 19 (nI 0)) ∧ gI s 34 = nI 1 ∧ RTE n i s σr r ∧ RTE n i s (uI σr 19 (nI 0)) r := by
  obtain ⟨s, e1, f1, m1, w1, z1⟩ := s_find hn hM
  have w2 : WR s (uI σr 19 (nI 0)) := WR_frr w1 (fr_wk f19 (by simp) (by simp) (by simp) (by simp) (by simp))
  have hi2 : i < NN (uI σr 19 (nI 0)) := by unfold NN; rw [s_II_n (by omega)]; exact hi
  obtain ⟨r, t1⟩ := s_route hn w1 hi
  obtain ⟨r', t2⟩ := s_route hn w2 hi2
  have e : r = r' := by
    have := t1.1.symm.trans t2.1
    exact congrArg Prod.fst (Option.some.inj this)
  subst e
  exact ⟨s, r, e1, f1, MAPI_r0 m1 f19 (by simp) (by simp) (by simp) (by simp), w2, z1, t1, t2⟩
theorem IOS_f {s : ej_S} {v : Int32} (hO : IOS tp ot σc σr) (f1 : fr [34] [] [24, 25, 26, 27, 28, 29] [] [] σc s) : IOS tp ot s (uI σr 19 v) := IOS_r (IOS_c hO f1 (by simp) (by simp) (by simp) (by simp) (by simp) (by simp)) f19 (by simp) (by simp) (by simp) (by simp) (by simp) (by simp)
theorem c_cost (hn : 2000 < n) (h : INV n σc σr) (x : Int32) : STEP n σr (mW_cost n x (σc, σr, g)) (m11_cost n x σr) := by
  obtain ⟨fs, tp, ot, hM, hO⟩ := h
  unfold mW_cost m11_cost m10_cost m11_costTo m11_costTo_17
  rcases s_node_ask (n := n) (MAPI_W hM) x with ⟨i, h1, h2, rfl, e1, e2⟩ | ⟨e1, e2⟩
  · obtain ⟨s, r, a1, a2, a3, a4, a5, a6, a7⟩ := s_way hn hM h1
    rcases a7.2.2 with ⟨z, _⟩ | ⟨q, L, c, rt, kd, z, q96, _, _, hc, k1, k2, _⟩
    · refine ST_ok (v := zm) (σc' := s) (σr' := uI σr 19 (nI 0)) ?_ ?_ s_II_s ⟨fs, tp, ot, a3, IOS_f hO a2⟩
      · unfold m9_costOfKey
        rw [need_t e1, ej_bxv_s, a1, ej_bv_s, a7.1, ej_bi_s, z, L_0, if_pos (zm_lt (by omega)), L_m1, ej_bi_s]
      · rw [asks_t e2, ej_bi_s, L_0, if_neg n10, a7.2.1, ej_bi_s, L_m1, if_pos z, s_II_s, if_pos rfl, ej_bi_s]
    · refine ST_ok (v := nI c) (σc' := s) (σr' := uI σr 19 (nI 0)) ?_ ?_ s_II_s ⟨fs, tp, ot, a3, IOS_f hO a2⟩
      · unfold m9_costOfKey
        rw [need_t e1, ej_bxv_s, a1, ej_bv_s, a7.1, ej_bi_s, z, L_0, ilt_f (by omega) (by omega), L_96, ile_f q96 (by omega), ck_t q96 (by omega), nI_clamp (by omega), k2, ej_bi_s]
      · rw [asks_t e2, ej_bi_s, L_0, if_neg n10, a7.2.1, ej_bi_s, L_m1, z, ieq_m (by omega), ck_t q96 (by omega), nI_clamp (by omega), k1, ej_bi_s]
  · exact ST_ex (c := 1) (congrArg (fun z => ej_bxv z _) (need_f e1)) (fun _ => rfl) (by rw [asks_f e2, ej_bi_s, L_0, if_pos rfl, L_m1, if_pos rfl, s_II_s, if_neg n10, ej_bi_s]) s_II_s (by omega) (INV_19 hM hO)
theorem c_costByRounds (hn : 2000 < n) (h : INV n σc σr) (x : Int32) : STEP n σr (mW_costByRounds n x (σc, σr, g)) (m11_costByRounds n x σr) := by
  obtain ⟨fs, tp, ot, hM, hO⟩ := h
  unfold mW_costByRounds m11_costByRounds m10_costByRounds m11_costTo m11_costTo_17
  rcases s_node_ask (n := n) (MAPI_W hM) x with ⟨i, h1, h2, rfl, e1, e2⟩ | ⟨e1, e2⟩
  · obtain ⟨s, r, a1, a2, a3, a4, a5, a6, a7⟩ := s_way hn hM h1
    obtain ⟨s', b1, b2, b3, b4⟩ := s_rounds hn a3 a4 a5
    have hi2 : i < NN (uI σr 19 (nI 0)) := by unfold NN; rw [s_II_n (by omega)]; exact h1
    have w' : WR s' (uI σr 19 (nI 0)) := by
      refine ⟨a4.1, (MAPI_W b3).2, a4.2.2.1, ?_⟩
      have := a4.2.2.2
      unfold wayRel at *
      rw [b2.2.2.1 24 (by simp), b2.2.2.1 25 (by simp), b2.2.2.1 26 (by simp), b2.2.2.1 27 (by simp), b2.2.2.1 28 (by simp)]
      exact this
    obtain ⟨y, d1, d2⟩ := s_least hn w' hi2 b4 a7.2.1
    have O' : IOS tp ot s' (uI σr 19 (nI 0)) := IOS_c (IOS_f hO a2) b2 (by simp) (by simp) (by simp) (by simp) (by simp) (by simp)
    refine ST_ok (v := y) (σc' := s') (σr' := uI σr 19 (nI 0)) ?_ ?_ s_II_s ⟨fs, tp, ot, b3, O'⟩
    · rw [need_t e1, ej_bxv_s, a1, ej_bv_s, b1, ej_bv_s, d1, ej_bi_s]
    · rw [asks_t e2, ej_bi_s, L_0, if_neg n10, a7.2.1, ej_bi_s, L_m1]
      rcases d2 with ⟨z1, z2⟩ | ⟨q, z1, z2, z3⟩
      · rw [if_pos z1, s_II_s, if_pos rfl, ej_bi_s, z2]
      · rw [z1, ieq_m (by omega), ck_t z2 (by omega), nI_clamp (by omega), ej_bi_s, z3]
  · exact ST_ex (c := 1) (congrArg (fun z => ej_bxv z _) (need_f e1)) (fun _ => rfl) (by rw [asks_f e2, ej_bi_s, L_0, if_pos rfl, L_m1, if_pos rfl, s_II_s, if_neg n10, ej_bi_s]) s_II_s (by omega) (INV_19 hM hO)
theorem c_steps (hn : 2000 < n) (h : INV n σc σr) (x : Int32) : STEP n σr (mW_steps n x (σc, σr, g)) (m11_steps n x σr) := by
  obtain ⟨fs, tp, ot, hM, hO⟩ := h
  unfold mW_steps m11_steps m10_steps m11_steps_17
  rcases s_node_ask (n := n) (MAPI_W hM) x with ⟨i, h1, h2, rfl, e1, e2⟩ | ⟨e1, e2⟩
  · obtain ⟨s, r, a1, a2, a3, a4, a5, a6, a7⟩ := s_way hn hM h1
    rcases a7.2.2 with ⟨z, _⟩ | ⟨q, L, c, rt, kd, z, q96, _, _, hc, _, _, k1, k2, _⟩
    · refine ST_ok (v := zm) (σc' := s) (σr' := uI σr 19 (nI 0)) ?_ ?_ s_II_s ⟨fs, tp, ot, a3, IOS_f hO a2⟩
      · unfold m9_lengthOfKey
        rw [need_t e1, ej_bxv_s, a1, ej_bv_s, a7.1, ej_bi_s, z, L_0, if_pos (zm_lt (by omega)), L_m1, ej_bi_s]
      · rw [asks_t e2, ej_bi_s, L_0, if_neg n10, a7.2.1, ej_bi_s, L_m1, if_pos z, s_II_s, if_pos rfl]
    · refine ST_ok (v := nI L) (σc' := s) (σr' := uI σr 19 (nI 0)) ?_ ?_ s_II_s ⟨fs, tp, ot, a3, IOS_f hO a2⟩
      · unfold m9_lengthOfKey
        rw [need_t e1, ej_bxv_s, a1, ej_bv_s, a7.1, ej_bi_s, z, L_0, ilt_f (by omega) (by omega), L_96, ile_f q96 (by omega), ck_t q96 (by omega), nI_clamp (by omega), k2, ej_bi_s]
      · rw [asks_t e2, ej_bi_s, L_0, if_neg n10, a7.2.1, ej_bi_s, L_m1, z, ieq_m (by omega), ck_t q96 (by omega), nI_clamp (by omega), k1]
  · exact ST_ex (c := 1) (congrArg (fun z => ej_bxv z _) (need_f e1)) (fun _ => rfl) (by rw [asks_f e2, ej_bi_s, L_0, if_pos rfl, L_m1, if_pos rfl, s_II_s, if_neg n10]) s_II_s (by omega) (INV_19 hM hO)
theorem c_state (hn : 2000 < n) (h : INV n σc σr) (x : Int32) : STEP n σr (mW_state n x (σc, σr, g)) (m11_state n x σr) := by
  obtain ⟨fs, tp, ot, hM, hO⟩ := h
  unfold mW_state m11_state m10_state m11_state_17
  rcases s_node_ask (n := n) (MAPI_W hM) x with ⟨i, h1, h2, rfl, e1, e2⟩ | ⟨e1, e2⟩
  · obtain ⟨s, r, a1, a2, a3, a4, a5, a6, a7⟩ := s_way hn hM h1
    by_cases z : r = zm
    · refine ST_ok (v := zm) (σc' := s) (σr' := uI σr 19 (nI 0)) ?_ ?_ s_II_s ⟨fs, tp, ot, a3, IOS_f hO a2⟩
      · rw [need_t e1, ej_bxv_s, a1, ej_bv_s, a7.1, ej_bi_s, L_m1, if_pos z]
      · rw [asks_t e2, ej_bi_s, L_0, if_neg n10, a7.2.1, ej_bi_s, L_m1, if_pos z, s_II_s, if_pos rfl]
    · refine ST_ok (v := r - r / 4 * 4) (σc' := s) (σr' := uI σr 19 (nI 0)) ?_ ?_ s_II_s ⟨fs, tp, ot, a3, IOS_f hO a2⟩
      · rw [need_t e1, ej_bxv_s, a1, ej_bv_s, a7.1, ej_bi_s, L_m1, if_neg z]
      · rw [asks_t e2, ej_bi_s, L_0, if_neg n10, a7.2.1, ej_bi_s, L_m1, if_neg z]
  · exact ST_ex (c := 1) (congrArg (fun z => ej_bxv z _) (need_f e1)) (fun _ => rfl) (by rw [asks_f e2, ej_bi_s, L_0, if_pos rfl, L_m1, if_pos rfl, s_II_s, if_neg n10]) s_II_s (by omega) (INV_19 hM hO)
theorem INV_2 {s t s' t' : ej_S} (hM : MAPI n fs s t) (hO : IOS tp ot s t) (p : fr [] [] [31] [] [] s s') (q : fr [17, 19] [] [27] [] [] t t') : INV n s' t' :=
  ⟨fs, tp, ot, MAPI_r0 (MAPI_c hM (fr_wk p (by simp) (by simp) (by simp) (by simp) (by simp))) q (by simp) (by simp) (by simp) (by simp), IOS_r (IOS_c hO p (by simp) (by simp) (by simp) (by simp) (by simp) (by simp)) q (by simp) (by simp) (by simp) (by simp) (by simp) (by simp)⟩
theorem r43_1 {x y : Int32} : m11_wayAt_43 n x y (nI 1) σr = some (zm, uI σr 19 (nI 1)) := by
  unfold m11_wayAt_43
  rw [goes_1, ej_bi_s, L_0, if_pos rfl, L_m1]
theorem r43_0 {x y : Int32} : m11_wayAt_43 n x y (nI 0) σr = ej_bv (m11_lays n x (uI σr 19 (nI 0))) fun s11 => ej_ck y 97 ((some (gA s11 27 y.toNatClampNeg, s11))) := by
  unfold m11_wayAt_43
  rw [goes_0, ej_bi_s, L_0, if_neg n10]
/-- a place of a route -/
theorem s_wayAt (hn : 2000 < n) (h : INV n σc σr) (x y : Int32) : (∃ s t, m10_needPlace n x y σc = some (.inr (3, s)) ∧ m11_wayAt n x y σr = some (zm, t) ∧ gI t 19 = nI 1 ∧ INV n s t) ∨ ∃ s t k L rt kd, y = nI k ∧ k ≤ L ∧ L ≤ 23 ∧ m10_needPlace n x y σc = some (.inl s) ∧ m11_wayAt n x y σr = some (nI (rt k), t) ∧ gI t 19 = nI 0 ∧ INV n s t ∧ RCc s (uI σr 19 (nI 0)) rt kd L ∧ RCr t rt kd L ∧ (∀ i, i ≤ L → gA s 25 (rt i) = gA t 23 (rt i)) ∧ gA s 28 (rt 0) = gA t 26 (rt 0) := by
  obtain ⟨fs, tp, ot, hM, hO⟩ := h
  rcases s_node_ask (n := n) (MAPI_W hM) x with ⟨i, h1, h2, rfl, e1, e2⟩ | ⟨e1, e2⟩
  · obtain ⟨s, r, a1, a2, a3, a4, a5, a6, a7⟩ := s_way hn hM h1
    have O1 := IOS_f (v := nI 0) hO a2
    have eC : m10_needPlace n (nI i) y σc = (if y < nI 0 then (some (.inr (3, s))) else ej_bi (m9_layOut n (nI i) s) fun r4 s3 => (if y ≤ r4 then (some (.inl s3)) else (some (.inr (3, s3))))) := by
      unfold m10_needPlace
      rw [need_t e1, ej_bxv_s, a1, ej_bv_s, L_0]
    have eR : m11_wayAt n (nI i) y σr = m11_wayAt_17 n (nI i) y r σr := by
      unfold m11_wayAt
      rw [e2, ej_bi_s, L_0, if_neg n10, a6.2.1, ej_bi_s]
    have I1 : INV n s (uI σr 19 (nI 1)) := by
      have f : fr [19] [] [] [] [] (uI σr 19 (nI 0)) (uI (uI σr 19 (nI 0)) 19 (nI 1)) := f19
      have e : uI (uI σr 19 (nI 0)) 19 (nI 1) = uI σr 19 (nI 1) := by
        unfold uI
        congr 1
        funext k
        unfold va_up
        split
        · rfl
        · rename_i z; exact if_neg z
      rw [e] at f
      exact INV_2 a3 O1 (fr_rf) (fr_wk f (by simp) (by simp) (by simp) (by simp) (by simp))
    by_cases g : y < nI 0
    · refine .inl ⟨s, uI σr 19 (nI 1), by rw [eC, if_pos g], ?_, s_II_s, I1⟩
      rw [eR]
      unfold m11_wayAt_17
      rcases a6.2.2 with ⟨z, _⟩ | ⟨q, L, c, rt, kd, z, q96, _, hL, hc, _, _, k1, k2, _⟩
      · rw [L_m1, if_pos z, L_1, r43_1]
      · rw [L_m1, z, ieq_m (by omega), ck_t q96 (by omega), nI_clamp (by omega), v_isIn, L_0, if_pos g, ej_bi_s, if_pos rfl, L_1, r43_1]
    · have g' : 0 ≤ y.toInt := by
        rw [Int32.lt_iff_toInt_lt, nI_toInt (by omega)] at g
        simpa using g
      obtain ⟨k, hk, rfl⟩ := nn_of g'
      rw [if_neg g] at eC
      rcases a7.2.2 with ⟨z, l0⟩ | ⟨q, L, c, rt, kd, z, q96, _, hL, hc, _, _, k1, k2, k3, k4, ⟨s', l1, l2, l3⟩, ⟨t', l4, l5, l6⟩⟩
      · refine .inl ⟨s, uI σr 19 (nI 1), by rw [eC, l0, ej_bi_s, if_neg (zm_nle hk)], ?_, s_II_s, I1⟩
        rw [eR]
        unfold m11_wayAt_17
        rw [L_m1, if_pos z, L_1, r43_1]
      · rw [s_AI] at k1
        rw [l1, ej_bi_s] at eC
        have eR' : m11_wayAt n (nI i) (nI k) σr = (if nI L < nI k then m11_wayAt_43 n (nI i) (nI k) (nI 1) σr else m11_wayAt_43 n (nI i) (nI k) (nI 0) σr) := by
          rw [eR]
          unfold m11_wayAt_17
          rw [L_m1, z, ieq_m (by omega), ck_t q96 (by omega), nI_clamp (by omega), v_isIn, k1, L_0, if_neg g, ej_bi_s, L_1]
          by_cases w : nI L < nI k
          · rw [if_pos w, if_pos w, if_pos rfl]
          · rw [if_neg w, if_neg w, if_neg n10]
        rcases Nat.lt_or_ge L k with w | w
        · rw [ile_f w (by omega)] at eC
          rw [ilt_t w (by omega), r43_1] at eR'
          refine .inl ⟨s', uI σr 19 (nI 1), eC, eR', s_II_s, ?_⟩
          obtain ⟨fs', tp', ot', m', o'⟩ := I1
          exact INV_2 m' o' l2 fr_rf
        · rw [ile_t w (by omega)] at eC
          rw [ilt_f w (by omega), r43_0, l4, ej_bv_s, ck_t (show k < 97 by omega) (by omega), nI_clamp (by omega), (l6.2.2.1 k w).2.2] at eR'
          refine .inr ⟨s', t', k, L, rt, kd, rfl, w, hL, eC, eR', by rw [l5.1 19 (by simp), s_II_s], INV_2 a3 O1 l2 (fr_wk l5 (by simp) (by simp) (by simp) (by simp) (by simp)), l3, l6, fun j hj => ?_, ?_⟩
          · rw [l2.2.2.1 25 (by simp), l5.2.2.1 23 (by simp)]; exact k3 j hj
          · rw [l2.2.2.1 28 (by simp), l5.2.2.1 26 (by simp)]; exact k4
  · refine .inl ⟨σc, uI σr 19 (nI 1), ?_, ?_, s_II_s, INV_19 hM hO⟩
    · unfold m10_needPlace
      exact congrArg (fun z => ej_bxv z _) (need_f e1)
    · unfold m11_wayAt m11_wayAt_17
      rw [e2, ej_bi_s, L_0, if_pos rfl, L_m1, if_pos rfl, L_1, r43_1]
theorem c_nodeAt (hn : 2000 < n) (h : INV n σc σr) (x y : Int32) : STEP n σr (mW_nodeAt n x y (σc, σr, g)) (m11_nodeAt n x y σr) := by
  unfold mW_nodeAt m11_nodeAt m10_nodeAt
  rcases s_wayAt hn h x y with ⟨s, t, e1, e2, h19, hI⟩ | ⟨s, t, k, L, rt, kd, rfl, hk, hL, e1, e2, h19, hI, hc, hr, k3, k4⟩
  · exact ST_ex (c := 1) (congrArg (fun z => ej_bxv z _) e1) (fun _ => rfl) (by rw [e2, ej_bi_s, L_m1, if_pos rfl]) h19 (by omega) hI
  · have hq := hr.2.2.1 k hk
    refine ST_ok (v := nI (rt k) / 4) (σc' := s) (σr' := t) ?_ ?_ h19 hI
    · unfold m9_keyOn
      rw [e1, ej_bxv_s, L_0, ilt_f (by omega) (by omega), L_96, ile_f (by omega) (by omega), ck_t (by omega) (by omega), nI_clamp (by omega), (hc.2.1 k hk).2.2, ej_bi_s]
    · rw [e2, ej_bi_s, L_m1, ieq_m (by omega)]
theorem c_costAt (hn : 2000 < n) (h : INV n σc σr) (x y : Int32) : STEP n σr (mW_costAt n x y (σc, σr, g)) (m11_costAt n x y σr) := by
  unfold mW_costAt m11_costAt m10_costAt
  rcases s_wayAt hn h x y with ⟨s, t, e1, e2, h19, hI⟩ | ⟨s, t, k, L, rt, kd, rfl, hk, hL, e1, e2, h19, hI, hc, hr, k3, k4⟩
  · exact ST_ex (c := 1) (congrArg (fun z => ej_bxv z _) e1) (fun _ => rfl) (by rw [e2, ej_bi_s, L_m1, if_pos rfl]) h19 (by omega) hI
  · have hq := hr.2.2.1 k hk
    refine ST_ok (v := gA t 23 (rt k)) (σc' := s) (σr' := t) ?_ ?_ h19 hI
    · unfold m9_keyOn m9_costOfKey
      rw [e1, ej_bxv_s, L_0, ilt_f (show 0 ≤ k by omega) (by omega), L_96, ile_f (show k < 96 by omega) (by omega), ck_t (show k < 96 by omega) (by omega), nI_clamp (show k < 2 ^ 31 by omega), (hc.2.1 k hk).2.2, ej_bi_s, ilt_f (show 0 ≤ rt k by omega) (by omega), ile_f hq.1 (by omega), ck_t hq.1 (by omega), nI_clamp (by omega), k3 k hk, ej_bi_s]
    · rw [e2, ej_bi_s, L_m1, ieq_m (by omega), ck_t hq.1 (by omega), nI_clamp (by omega)]
theorem c_stepAt (hn : 2000 < n) (h : INV n σc σr) (x y : Int32) : STEP n σr (mW_stepAt n x y (σc, σr, g)) (m11_stepAt n x y σr) := by
  unfold mW_stepAt m11_stepAt m10_stepAt
  rcases s_wayAt hn h x y with ⟨s, t, e1, e2, h19, hI⟩ | ⟨s, t, k, L, rt, kd, rfl, hk, hL, e1, e2, h19, hI, hc, hr, k3, k4⟩
  · exact ST_ex (c := 1) (congrArg (fun z => ej_bxv z _) e1) (fun _ => rfl) (by rw [e2, ej_bi_s, L_m1, if_pos rfl]) h19 (by omega) hI
  · have hq := hr.2.2.1 k hk
    have hE : gA s 28 (rt k) = gA t 26 (rt k) := by
      rcases Nat.eq_zero_or_pos k with z | z
      · subst z; exact k4
      · obtain ⟨j, rfl⟩ : ∃ j, k = j + 1 := ⟨k - 1, by omega⟩
        rw [(hc.2.2 j (by omega)).2.2.1, (hr.2.2.2 j (by omega)).2.2]
    refine ST_ok (v := gA t 26 (rt k)) (σc' := s) (σr' := t) ?_ ?_ h19 hI
    · unfold m9_keyOn m9_kindOfKey
      rw [e1, ej_bxv_s, L_0, ilt_f (show 0 ≤ k by omega) (by omega), L_96, ile_f (show k < 96 by omega) (by omega), ck_t (show k < 96 by omega) (by omega), nI_clamp (show k < 2 ^ 31 by omega), (hc.2.1 k hk).2.2, ej_bi_s, ilt_f (show 0 ≤ rt k by omega) (by omega), ile_f hq.1 (by omega), ck_t hq.1 (by omega), nI_clamp (by omega), hE, ej_bi_s]
    · rw [e2, ej_bi_s, L_m1, ieq_m (by omega), ck_t hq.1 (by omega), nI_clamp (by omega)]
theorem c_isBack (hn : 2000 < n) (h : INV n σc σr) (x y : Int32) : STEPB n σr (mW_isBack n x y (σc, σr, g)) (m11_isBack n x y σr) := by
  obtain ⟨fs, tp, ot, hM, hO⟩ := h
  unfold mW_isBack m11_isBack m10_isBack
  have hW := MAPI_W hM
  rcases s_node_ask (n := n) hW x with ⟨i, h1, h2, rfl, e1, e2⟩ | ⟨e1, e2⟩
  · rcases s_node_ask (n := n) hW y with ⟨j, k1, k2, rfl, d1, d2⟩ | ⟨d1, d2⟩
    · obtain ⟨s, b1, b2, b3, b4, b5⟩ := s_find hn hM
      refine STB_ok (b := decide (gA σr 21 (24 * i + j) ≠ nI 0)) (σc' := s) ?_ ?_ s_II_s ⟨fs, tp, ot, MAPI_r0 b3 f19 (by simp) (by simp) (by simp) (by simp), IOS_f hO b2⟩
      · rw [need_t e1, ej_bxv_s, need_t d1, ej_bxv_s, b1, ej_bv_s, x_hasBack (WR_G b4) h1 k2, ej_bi_s, bz_b]
      · rw [ask_t e2 d2, ej_bi_s, L_0, if_neg n10, L_24, pk_mul, nI_add, ck_t (by omega) (by omega), nI_clamp (by omega), s_AI, L_1]
        by_cases z : gA σr 21 (24 * i + j) = nI 0
        · rw [if_pos z, decide_eq_false (fun w => w z)]; rfl
        · rw [if_neg z, decide_eq_true z]; rfl
    · exact STB_ex (c := 1) (by rw [need_t e1, ej_bxv_s]; exact congrArg (fun z => ej_bxv z _) (need_f d1)) (fun _ => rfl) (by rw [ask_f2 e2 d2, ej_bi_s, L_0, if_pos rfl]) s_II_s (by omega) (INV_19 hM hO)
  · exact STB_ex (c := 1) (congrArg (fun z => ej_bxv z _) (need_f e1)) (fun _ => rfl) (by rw [ask_f1 e2, ej_bi_s, L_0, if_pos rfl]) s_II_s (by omega) (INV_19 hM hO)
theorem IOS_out {s t : ej_S} {l : List Nat} (hO : IOS tp ot σc σr) (h1 : TX s 1 l) (h2 : RX t l) (p : fr [1] [] [1, 31] [] [] σc s) (q : fr [17, 18] [] [27, 28] [] [] σr t) : IOS tp l s t := by
  obtain ⟨o1, o2, o3, o4, o5, o6⟩ := hO
  exact ⟨TX_fr o1 p (by simp) (by simp), RTX_fr o2 q (by simp) (by simp), h1, h2, by rw [p.1 10 (by simp), q.1 11 (by simp)]; exact o5, by rw [p.1 11 (by simp), q.1 12 (by simp)]; exact o6⟩
theorem c_print (hn : 2000 < n) (h : INV n σc σr) (x : Int32) : STEP n σr (mW_print n x (σc, σr, g)) (m11_print n x σr) := by
  obtain ⟨fs, tp, ot, hM, hO⟩ := h
  unfold mW_print m11_print m10_print
  rcases s_node_ask (n := n) (MAPI_W hM) x with ⟨i, h1, h2, rfl, e1, e2⟩ | ⟨e1, e2⟩
  · obtain ⟨s, r, a1, a2, a3, a4, a5, a6, a7⟩ := s_way hn hM h1
    have O1 := IOS_f (v := nI 0) hO a2
    have hi2 : i < NN (uI σr 19 (nI 0)) := by unfold NN; rw [s_II_n (by omega)]; exact h1
    obtain ⟨l, s2, t2, b1, b2, b3, b4, b5, b6⟩ := s_print hn a4 hi2
    refine ST_ok (v := nI l.length) (σc' := s2) (σr' := t2) ?_ ?_ (by rw [b6.1 19 (by simp), s_II_s]) ⟨fs, tp, l, MAPI_r0 (MAPI_c a3 (fr_wk b3 (by simp) (by simp) (by simp) (by simp) (by simp))) b6 (by simp) (by simp) (by simp) (by simp), IOS_out O1 b2 b5 b3 b6⟩
    · unfold m7_length
      rw [need_t e1, ej_bxv_s, a1, ej_bv_s, b1, ej_bv_s, ej_bi_s, b2.1]
    · rw [asks_t e2, ej_bi_s, L_0, if_neg n10, ej_nm_e, L_m1, L_37]
      exact b4
  · exact ST_ex (c := 1) (congrArg (fun z => ej_bxv z _) (need_f e1)) (fun _ => rfl) (by rw [asks_f e2, ej_bi_s, L_0, if_pos rfl]) s_II_s (by omega) (INV_19 hM hO)
/-- the tape is used up -/
theorem RTX_0 (hf : ∀ f, f < 4 → RTX σ f (fs f)) : RTX (uA σ 1 4 (nI 0)) 4 [] ∧ ∀ f, f < 4 → RTX (uA σ 1 4 (nI 0)) f (fs f) := by
  refine ⟨⟨by rw [s_AA_s, pk_us]; rfl, Nat.zero_le _, fun i hi => absurd hi (Nat.not_lt_zero i), fun b hb => by cases hb⟩, fun f hf4 => ?_⟩
  obtain ⟨h1, h2, h3, h4⟩ := hf f hf4
  exact ⟨by rw [s_AA_s, pk_un (by omega)]; exact h1, h2, fun i hi => by rw [s_AA_n (by omega)]; exact h3 i hi, h4⟩
theorem c_rewrite (hn : 2000 < n) (h : INV n σc σr) : STEP2 n (m10_rewrite n σc) (m11_rewrite n σr) := by
  obtain ⟨fs, tp, ot, hM, hO⟩ := h
  unfold m10_rewrite m11_rewrite
  obtain ⟨s, a1, a2, a3, a4, a5⟩ := s_find hn hM
  have w2 : WR s (uI σr 19 (nI 0)) := WR_frr a4 (fr_wk f19 (by simp) (by simp) (by simp) (by simp) (by simp))
  have m2 : MAPI n fs s (uI σr 19 (nI 0)) := MAPI_r0 a3 f19 (by simp) (by simp) (by simp) (by simp)
  have O1 := IOS_f (v := nI 0) hO a2
  obtain ⟨l, s2, t2, b1, b2, b3, b4, b5, b6⟩ := s_rewrite hn w2 O1.1 O1.2.1
  have m3 : MAPI n fs s2 t2 := MAPI_r0 (MAPI_c m2 (fr_wk b3 (by simp) (by simp) (by simp) (by simp) (by simp))) b6 (by simp) (by simp) (by simp) (by simp)
  have O3 := IOS_out O1 b2 b5 b3 b6
  obtain ⟨c1, d1, d2, d3⟩ := x_clear (n := n) (t := 0) (σ := s2)
  obtain ⟨r4, r5⟩ := RTX_0 (σ := t2) (fs := fs) m3.2.1
  have q4 : fr [] [] [1] [] [] t2 (uA t2 1 4 (nI 0)) := fr_uA fr_rf (by simp)
  refine ⟨nI l.length, c1, uA t2 1 4 (nI 0), ?_, ?_, fs, [], l, MAPI_r (MAPI_c m3 (fr_wk d3 (by simp) (by simp) (by simp) (by simp) (by simp))) (fr_wk q4 (by simp) (by simp) (by simp) (by simp) (by simp)) r5, ?_⟩
  · unfold m7_length
    rw [a1, ej_bv_s, b1, ej_bv_s, d1, ej_bv_s, ej_bi_s, d3.1 1 (by simp), b2.1]
  · rw [ej_nm_e, L_0, L_4, ck_t (by omega) (by omega), ej_nm_e, nI_clamp (by omega), L_m1, O1.2.1.1]
    exact b4
  · obtain ⟨o1, o2, o3, o4, o5, o6⟩ := O3
    exact ⟨d2, r4, TX_fr o3 d3 (by simp) (by simp), RX_fr o4 q4 (by simp) (by simp), by rw [d3.1 10 (by simp), q4.1 11 (by simp)]; exact o5, by rw [d3.1 11 (by simp), q4.1 12 (by simp)]; exact o6⟩
end P96d
