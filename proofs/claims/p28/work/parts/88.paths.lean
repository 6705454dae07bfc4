/-! ROUTES: their keys -/
def WYj (D : Nat → Nat) (a j : Nat) (r : Int32) : Prop := (r = zm ∧ ∀ q, 4 * a ≤ q → q < j → D q = iF) ∨ ∃ q, 4 * a ≤ q ∧ q < j ∧ r = nI q ∧ D q < iF ∧ (∀ q', 4 * a ≤ q' → q' < j → D q ≤ D q') ∧ ∀ q', 4 * a ≤ q' → q' < q → D q < D q'
def WY (D : Nat → Nat) (a : Nat) (r : Int32) : Prop := WYj D a (4 * a + 4) r
section P88
variable {n a : Nat} {σ : ej_S} {D : Nat → Nat}
theorem WY_one {r r' : Int32} (h : WY D a r) (h' : WY D a r') : r = r' := by
  rcases h with ⟨h1, h2⟩ | ⟨q, h1, h2, h3, h4, h5, h6⟩
  · rcases h' with ⟨g1, g2⟩ | ⟨q', g1, g2, g3, g4, g5, g6⟩
    · rw [h1, g1]
    · have := h2 q' g1 g2; omega
  · rcases h' with ⟨g1, g2⟩ | ⟨q', g1, g2, g3, g4, g5, g6⟩
    · have := g2 q h1 h2; omega
    · have e : q = q' := by
        rcases Nat.lt_trichotomy q q' with z | z | z
        · have := g6 q h1 z; have := h5 q' g1 g2; omega
        · exact z
        · have := h6 q' g1 z; have := g5 q h1 h2; omega
      rw [h3, g3, e]
/-- one more -/
theorem WYj_i {j : Nat} {r : Int32} (hi : ∀ v, D v ≤ iF) (h : WYj D a j r) (z : D j = iF) : WYj D a (j + 1) r := by
  rcases h with ⟨h1, h2⟩ | ⟨q, h1, h2, h3, h4, h5, h6⟩
  · refine .inl ⟨h1, fun q q1 q2 => ?_⟩
    rcases Nat.eq_or_lt_of_le (show q ≤ j by omega) with w | w
    · rw [w]; exact z
    · exact h2 q q1 w
  · refine .inr ⟨q, h1, by omega, h3, h4, fun q' q1 q2 => ?_, h6⟩
    rcases Nat.eq_or_lt_of_le (show q' ≤ j by omega) with w | w
    · rw [w, z]; omega
    · exact h5 q' q1 w
theorem WYj_0 {j : Nat} (hj : 4 * a ≤ j) (h : ∀ q, 4 * a ≤ q → q < j → D q = iF) (z : D j < iF) : WYj D a (j + 1) (nI j) := by
  refine .inr ⟨j, hj, by omega, rfl, z, fun q' q1 q2 => ?_, fun q' q1 q2 => ?_⟩
  · rcases Nat.eq_or_lt_of_le (show q' ≤ j by omega) with w | w
    · rw [w]; exact Nat.le_refl _
    · rw [h q' q1 w]; omega
  · rw [h q' q1 q2]; exact z
theorem WYj_l {j q : Nat} (hj : 4 * a ≤ j) (h5 : ∀ q', 4 * a ≤ q' → q' < j → D q ≤ D q') (z : D j < iF) (w : D j < D q) : WYj D a (j + 1) (nI j) := by
  refine .inr ⟨j, hj, by omega, rfl, z, fun q' q1 q2 => ?_, fun q' q1 q2 => ?_⟩
  · rcases Nat.eq_or_lt_of_le (show q' ≤ j by omega) with w' | w'
    · rw [w']; exact Nat.le_refl _
    · have := h5 q' q1 w'; omega
  · have := h5 q' q1 q2; omega
theorem WYj_g {j q : Nat} (h1 : 4 * a ≤ q) (h2 : q < j) (h4 : D q < iF) (h5 : ∀ q', 4 * a ≤ q' → q' < j → D q ≤ D q') (h6 : ∀ q', 4 * a ≤ q' → q' < q → D q < D q') (w : D q ≤ D j) : WYj D a (j + 1) (nI q) := by
  refine .inr ⟨q, h1, by omega, rfl, h4, fun q' q1 q2 => ?_, h6⟩
  rcases Nat.eq_or_lt_of_le (show q' ≤ j by omega) with w' | w'
  · rw [w']; exact w
  · exact h5 q' q1 w'
theorem x_routeKey_18 (hk : kC (gA σ 25) (gA σ 26) D) (ho : OKD D) (hi : ∀ v, D v ≤ iF) (ha : a < 24) : ∀ (k j : Nat) (r : Int32), WYj D a j r → 4 * a ≤ j → j ≤ 4 * a + 4 → 4 * a + 4 - j < k → ∃ r', m9_routeKey_18 n k (nI a) r (nI j) σ = some (r', σ) ∧ WY D a r' := by
  intro k
  induction k with
  | zero => intro j r _ _ _ h; omega
  | succ k ih =>
    intro j r hW h1 h2 hk'
    rw [u_9_routeKey_18, L_m1, L_1, L_4, nI_add, pk_mul]
    rcases Nat.lt_or_ge j (4 * a + 4) with q | q
    · rw [ile_f (show j < (a + 1) * 4 by omega) (by omega), ck_t (show j < 96 by omega) (by omega), nI_clamp (by omega)]
      simp only [nI_add, ej_nm_e]
      rcases hk j (by omega) with ⟨a1, a2⟩ | ⟨a1, a2, a3⟩
      · rw [if_pos a2]
        exact ih (j + 1) r (WYj_i hi hW a1) (by omega) q (by omega)
      · have bj := OKD_bd ho (show j < 96 by omega) a1
        rw [a2, ieq_m (by omega)]
        rcases hW with ⟨g1, g2⟩ | ⟨p, g1, g2, g3, g4, g5, g6⟩
        · rw [g1, if_pos rfl]
          exact ih (j + 1) (nI j) (WYj_0 h1 g2 a1) (by omega) q (by omega)
        · rw [g3, ieq_m (by omega), x_isShorter hk ho (show j < 96 by omega) (show p < 96 by omega) a1 g4, ej_bi_s, L_0]
          rcases Nat.lt_or_ge (D j) (D p) with w | w
          · rw [decide_eq_true w, bI_t, if_neg n10]
            exact ih (j + 1) (nI j) (WYj_l h1 g5 a1 w) (by omega) q (by omega)
          · rw [decide_eq_false (by omega), bI_f, if_pos rfl]
            exact ih (j + 1) (nI p) (WYj_g g1 g2 g4 g5 g6 w) (by omega) q (by omega)
    · have e : j = 4 * a + 4 := by omega
      subst e
      rw [ile_t (show (a + 1) * 4 ≤ 4 * a + 4 by omega) (by omega)]
      exact ⟨r, rfl, hW⟩
theorem x_routeKey (hn : 2000 < n) (hk : kC (gA σ 25) (gA σ 26) D) (ho : OKD D) (hi : ∀ v, D v ≤ iF) (ha : a < 24) : ∃ r, m9_routeKey n (nI a) σ = some (r, σ) ∧ WY D a r := by
  unfold m9_routeKey
  rw [L_0, ilt_f (Nat.zero_le _) (by omega), L_24, ilt_t ha (by omega), L_4, pk_mul, ej_nm_e, L_m1, Nat.mul_comm a 4]
  exact x_routeKey_18 hk ho hi ha n (4 * a) zm (.inl ⟨rfl, fun q q1 q2 => by omega⟩) (Nat.le_refl _) (by omega) (by omega)
theorem r_wayOf_6 (hk : kC (gA σ 23) (gA σ 24) D) (ho : OKD D) (hi : ∀ v, D v ≤ iF) (ha : a < 24) : ∀ (k j : Nat) (r : Int32), WYj D a j r → 4 * a ≤ j → j ≤ 4 * a + 4 → 4 * a + 4 - j < k → ∃ r', m11_wayOf_6 n k (nI a) r (nI j) σ = some (r', σ) ∧ WY D a r' := by
  intro k
  induction k with
  | zero => intro j r _ _ _ h; omega
  | succ k ih =>
    intro j r hW h1 h2 hk'
    have w0 : ∀ y, m11_wayOf_80 n (m11_wayOf_6 n k) (nI a) y (nI j) 0 σ = m11_wayOf_6 n k (nI a) y (nI (j + 1)) σ := by
      intro y
      unfold m11_wayOf_80
      rw [if_pos rfl, L_1, nI_add, ej_nm_e]
    have w1 : ∀ y, m11_wayOf_80 n (m11_wayOf_6 n k) (nI a) y (nI j) 1 σ = m11_wayOf_6 n k (nI a) (nI j) (nI (j + 1)) σ := by
      intro y
      unfold m11_wayOf_80
      rw [if_neg (by decide), L_1, nI_add, ej_nm_e]
    rw [u_11_wayOf_6]
    simp only [w0, w1]
    rw [L_4, pk_mul, nI_add]
    rcases Nat.lt_or_ge j (4 * a + 4) with q | q
    · rw [ile_f (show j < 4 * a + 4 by omega) (by omega)]
      have k1 : ∀ X : Option (Int32 × ej_S), ej_ck (nI j) 96 X = X := fun X => ck_t (by omega) (by omega)
      have k3 : (nI j).toNatClampNeg = j := nI_clamp (by omega)
      simp only [k1, k3, ↓L_m1]
      rcases hk j (by omega) with ⟨a1, a2⟩ | ⟨a1, a2, a3⟩
      · rw [if_pos a2]
        exact ih (j + 1) r (WYj_i hi hW a1) (by omega) q (by omega)
      · have bj := OKD_bd ho (show j < 96 by omega) a1
        rw [a2, ieq_m (by omega)]
        rcases hW with ⟨g1, g2⟩ | ⟨p, g1, g2, g3, g4, g5, g6⟩
        · rw [g1, if_pos rfl]
          exact ih (j + 1) (nI j) (WYj_0 h1 g2 a1) (by omega) q (by omega)
        · have k2 : ∀ X : Option (Int32 × ej_S), ej_ck (nI p) 96 X = X := fun X => ck_t (by omega) (by omega)
          have k4 : (nI p).toNatClampNeg = p := nI_clamp (by omega)
          rw [g3, ieq_m (by omega)]
          simp only [k2, k4]
          have bp := OKD_bd ho (show p < 96 by omega) g4
          rcases hk p (by omega) with ⟨c1, _⟩ | ⟨_, c2, c3⟩
          · omega
          rw [c2, c3, a3]
          have yes : D j < D p → ∀ X, X = m11_wayOf_6 n k (nI a) (nI j) (nI (j + 1)) σ → ∃ r', X = some (r', σ) ∧ WY D a r' := by
            intro w X hX
            rw [hX]; exact ih (j + 1) (nI j) (WYj_l h1 g5 a1 w) (by omega) q (by omega)
          have no : D p ≤ D j → ∀ X, X = m11_wayOf_6 n k (nI a) (nI p) (nI (j + 1)) σ → ∃ r', X = some (r', σ) ∧ WY D a r' := by
            intro w X hX
            rw [hX]; exact ih (j + 1) (nI p) (WYj_g g1 g2 g4 g5 g6 w) (by omega) q (by omega)
          rcases Nat.lt_or_ge (D j / 1024) (D p / 1024) with w | w
          · rw [ilt_t w (by omega)]
            exact yes (by omega) _ rfl
          · rw [ilt_f w (by omega)]
            by_cases w2 : D j / 1024 = D p / 1024
            · rw [ieq_t w2]
              rcases Nat.lt_or_ge (D j % 1024) (D p % 1024) with w3 | w3
              · rw [ile_f w3 (by omega)]
                exact yes (by omega) _ rfl
              · rw [ile_t w3 (by omega)]
                exact no (by omega) _ rfl
            · rw [ieq_f w2 (by omega) (by omega)]
              exact no (by omega) _ rfl
    · have e : j = 4 * a + 4 := by omega
      subst e
      rw [ile_t (Nat.le_refl _) (by omega)]
      exact ⟨r, rfl, hW⟩
theorem r_wayOf (hn : 2000 < n) (hk : kC (gA σ 23) (gA σ 24) D) (ho : OKD D) (hi : ∀ v, D v ≤ iF) (ha : a < 24) : ∃ r, m11_wayOf n (nI a) σ = some (r, σ) ∧ WY D a r := by
  unfold m11_wayOf
  rw [L_4, pk_mul, ej_nm_e, L_m1]
  exact r_wayOf_6 hk ho hi ha n (4 * a) zm (.inl ⟨rfl, fun q q1 q2 => by omega⟩) (Nat.le_refl _) (by omega) (by omega)
end P88
/-- a route, key by key -/
def PT (σ : ej_S) (D : Nat → Nat) (rt : Nat → Nat) (L : Nat) : Prop := (∀ i, i ≤ L → rt i < 96 ∧ D (rt i) < iF ∧ D (rt i) % 1024 = i) ∧ ∀ i, i < L → ∃ kd w, Ed σ (rt i) kd (rt (i + 1)) w ∧ D (rt i) + w = D (rt (i + 1)) ∧ gA σ 25 (rt (i + 1)) = nI (rt i) ∧ gA σ 26 (rt (i + 1)) = nI kd
theorem PT_ex {σ : ej_S} {D : Nat → Nat} {s : Nat} (hc : CR σ (NN σ)) (hw : wayR (Ed σ) s (gA σ 23) (gA σ 24) (gA σ 25) (gA σ 26) D) : ∀ (L q : Nat), q < 96 → D q < iF → D q % 1024 = L → ∃ rt, rt L = q ∧ PT σ D rt L := by
  obtain ⟨h1, h2, h3, h4, h5⟩ := hw
  intro L
  induction L with
  | zero => intro q hq hf hL; exact ⟨fun _ => q, rfl, fun i hi => ⟨hq, hf, hL.trans (Nat.le_zero.mp hi).symm⟩, fun i hi => absurd hi (Nat.not_lt_zero _)⟩
  | succ L ih =>
    intro q hq hf hL
    have hqs : q ≠ s := fun z => by rw [z, h1.1] at hL; omega
    obtain ⟨u, k, u1, u2, ⟨⟨w, e, hd⟩, _⟩, u3, u4⟩ := h5 q hq hqs hf
    obtain ⟨_, _, _, c, l5, l6⟩ := Ed_lim hc e
    have bu := OKD_bd h2 u1 (by omega)
    obtain ⟨rt, r1, r2, r3⟩ := ih u u1 (by omega) (by omega)
    refine ⟨fun i => if i = L + 1 then q else rt i, if_pos rfl, fun i hi => ?_, fun i hi => ?_⟩
    · by_cases z : i = L + 1
      · subst z
        simp only [if_true]
        exact ⟨hq, hf, hL⟩
      · simp only [if_neg z]
        exact r2 i (by omega)
    · simp only [if_neg (show ¬ i = L + 1 by omega)]
      by_cases z : i = L
      · subst z
        simp only [if_true, r1]
        exact ⟨k, w, e, hd, u3, u4⟩
      · simp only [if_neg (show ¬ i + 1 = L + 1 by omega)]
        exact r3 i (by omega)
/-- in no state is there less to pay than in less of it -/
theorem addN_mono {σ : ej_S} {a s s' b k : Nat} (h1 : s' % 2 ≤ s % 2) (h2 : s' / 2 ≤ s / 2) (hs : s < 4) : addN σ a s' b k ≤ addN σ a s b k := by
  unfold addN
  have e1 : (if s' % 2 = 1 ∧ mkN σ a b k = 1 then 50000 else 0) ≤ (if s % 2 = 1 ∧ mkN σ a b k = 1 then 50000 else 0) := by
    by_cases q : s' % 2 = 1 ∧ mkN σ a b k = 1
    · rw [if_pos q, if_pos ⟨by omega, q.2⟩]; exact Nat.le_refl _
    · rw [if_neg q]; exact Nat.zero_le _
  have e2 : (if s' / 2 = 1 ∧ dear k = true then 60000 else 0) ≤ (if s / 2 = 1 ∧ dear k = true then 60000 else 0) := by
    by_cases q : s' / 2 = 1 ∧ dear k = true
    · rw [if_pos q, if_pos ⟨by omega, q.2⟩]; exact Nat.le_refl _
    · rw [if_neg q]; exact Nat.zero_le _
  omega
theorem sbN_mono {σ : ej_S} {a s s' b k : Nat} (h1 : s' % 2 ≤ s % 2) (h2 : s' / 2 ≤ s / 2) (hs : s < 4) : sbN σ a s' b k % 2 ≤ sbN σ a s b k % 2 ∧ sbN σ a s' b k / 2 ≤ sbN σ a s b k / 2 := by
  unfold sbN
  by_cases g : mkN σ a b k = 2 <;> cases g2 : outB σ a b k <;> simp only [g, Bool.false_eq_true, if_true, if_false] <;> omega
theorem sbN_ge {σ : ej_S} {a s b k : Nat} (hs : s < 4) : s % 2 ≤ sbN σ a s b k % 2 ∧ s / 2 ≤ sbN σ a s b k / 2 := by
  unfold sbN
  by_cases g : mkN σ a b k = 2 <;> cases g2 : outB σ a b k <;> simp only [g, Bool.false_eq_true, if_true, if_false] <;> omega
/-- a route comes to no node twice -/
theorem PT_dist {σ : ej_S} {D : Nat → Nat} {rt : Nat → Nat} {s L : Nat} (hsol : sol (Ed σ) s D) (hp : PT σ D rt L) (hmin : ∀ q', q' < 96 → q' / 4 = rt L / 4 → D (rt L) ≤ D q') {i j : Nat} (hij : i < j) (hj : j ≤ L) : rt i / 4 ≠ rt j / 4 := by
  intro hno
  obtain ⟨p1, p2⟩ := hp
  have mon : ∀ m, i + m ≤ L → rt i % 4 % 2 ≤ rt (i + m) % 4 % 2 ∧ rt i % 4 / 2 ≤ rt (i + m) % 4 / 2 := by
    intro m
    induction m with
    | zero => intro _; exact ⟨Nat.le_refl _, Nat.le_refl _⟩
    | succ m ih =>
      intro hm
      obtain ⟨kd, w, e, _⟩ := p2 (i + m) (by omega)
      obtain ⟨_, _, _, _, c, _, e2, _⟩ := e
      have g := sbN_ge (σ := σ) (a := rt (i + m) / 4) (s := rt (i + m) % 4) (b := rt (i + m + 1) / 4) (k := kd) (by omega)
      have := ih (by omega)
      rw [show i + (m + 1) = i + m + 1 by omega, e2]
      omega
  have D_lt : ∀ m, i + m < L → D (rt i) < D (rt (i + m + 1)) := by
    intro m
    induction m with
    | zero =>
      intro hm
      obtain ⟨kd, w, e, hd, _⟩ := p2 i (by omega)
      obtain ⟨_, _, _, _, c, _, _, e3⟩ := e
      show D (rt i) < D (rt (i + 1))
      omega
    | succ m ih =>
      intro hm
      obtain ⟨kd, w, e, hd, _⟩ := p2 (i + (m + 1)) (by omega)
      have := ih (by omega)
      rw [show i + (m + 1) = i + m + 1 by omega] at hd
      show D (rt i) < D (rt (i + (m + 1) + 1))
      rw [show i + (m + 1) + 1 = i + m + 1 + 1 by omega]
      omega
  have hlt : D (rt i) < D (rt j) := by
    have := D_lt (j - i - 1) (by omega)
    rw [show i + (j - i - 1) + 1 = j by omega] at this
    exact this
  have walk : ∀ m, j + m ≤ L → ∃ q d, q < 96 ∧ q / 4 = rt (j + m) / 4 ∧ q % 4 % 2 ≤ rt (j + m) % 4 % 2 ∧ q % 4 / 2 ≤ rt (j + m) % 4 / 2 ∧ wk (Ed σ) s d q ∧ d + D (rt j) ≤ D (rt i) + D (rt (j + m)) := by
    intro m
    induction m with
    | zero =>
      intro _
      have := mon (j - i) (by omega)
      rw [show i + (j - i) = j by omega] at this
      exact ⟨rt i, D (rt i), (p1 i (by omega)).1, hno, this.1, this.2, hsol.2.2.1 _ (p1 i (by omega)).1 (p1 i (by omega)).2.1, Nat.le_refl _⟩
    | succ m ih =>
      intro hm
      obtain ⟨q, d, q1, q2, q3, q4, q5, q6⟩ := ih (by omega)
      obtain ⟨kd, w, e, hd, _⟩ := p2 (j + m) (by omega)
      obtain ⟨e1, e2, e3, e4, c, e5, e6, e7⟩ := e
      have sl := sbN_lt (σ := σ) (a := q / 4) (s := q % 4) (b := rt (j + m + 1) / 4) (k := kd) (by omega)
      have sm := sbN_mono (σ := σ) (a := rt (j + m) / 4) (b := rt (j + m + 1) / 4) (k := kd) q3 q4 (by omega)
      have am := addN_mono (σ := σ) (a := rt (j + m) / 4) (b := rt (j + m + 1) / 4) (k := kd) q3 q4 (by omega)
      rw [← q2] at sm am e5 e6 e7
      have v4 : (4 * (rt (j + m + 1) / 4) + sbN σ (q / 4) (q % 4) (rt (j + m + 1) / 4) kd) / 4 = rt (j + m + 1) / 4 := by omega
      have v5 : (4 * (rt (j + m + 1) / 4) + sbN σ (q / 4) (q % 4) (rt (j + m + 1) / 4) kd) % 4 = sbN σ (q / 4) (q % 4) (rt (j + m + 1) / 4) kd := by omega
      have e0 : Ed σ q kd (4 * (rt (j + m + 1) / 4) + sbN σ (q / 4) (q % 4) (rt (j + m + 1) / 4) kd) (1024 * (c + addN σ (q / 4) (q % 4) (rt (j + m + 1) / 4) kd) + 1) := ⟨q1, by omega, e3, e4, c, by rw [v4]; exact e5, by rw [v4, v5], by rw [v4]⟩
      refine ⟨_, _, e0.2.1, v4, by rw [v5]; show _ ≤ rt (j + m + 1) % 4 % 2; rw [e6]; exact sm.1, by rw [v5]; show _ ≤ rt (j + m + 1) % 4 / 2; rw [e6]; exact sm.2, wk_st q5 e0, ?_⟩
      show _ ≤ D (rt i) + D (rt (j + m + 1))
      omega
  obtain ⟨q, d, q1, q2, _, _, q5, q6⟩ := walk (L - j) (by omega)
  rw [show j + (L - j) = L by omega] at q2 q6
  have := hmin q q1 q2
  have := sol_le hsol q5
  omega
theorem PT_23 {σ : ej_S} {D : Nat → Nat} {rt : Nat → Nat} {s L : Nat} (hsol : sol (Ed σ) s D) (hp : PT σ D rt L) (hmin : ∀ q', q' < 96 → q' / 4 = rt L / 4 → D (rt L) ≤ D q') : L ≤ 23 := by
  have h1 : ((List.range (L + 1)).map (fun i => rt i / 4)).Nodup := by
    rw [List.nodup_iff_pairwise_ne, List.pairwise_map]
    refine List.Pairwise.imp_of_mem ?_ List.pairwise_lt_range
    intro i j hi hj hlt
    rw [List.mem_range] at hi hj
    exact PT_dist hsol hp hmin hlt (by omega)
  have h2 : ((List.range (L + 1)).map (fun i => rt i / 4)) ⊆ List.range 24 := by
    intro x hx
    rw [List.mem_map] at hx
    obtain ⟨i, hi, rfl⟩ := hx
    rw [List.mem_range] at *
    have := (hp.1 i (by omega)).1
    omega
  have := List.Nodup.length_le_of_subset h1 h2
  rw [List.length_map, List.length_range, List.length_range] at this
  omega
