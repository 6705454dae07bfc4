/-! THE MAP THAT IS TOLD: what a step costs, by the law -/
/-- the map of statements -/
def MP (σ : ej_S) (L : List St) : Prop := gI σ 15 = nI (e_ns L).length ∧ gI σ 16 = nI 0 ∧ (∀ a, a < (e_ns L).length → gB σ 1 a = lN (97 + (e_ns L).getD a 0) ∧ gA σ 11 a = zm ∧ (gA σ 12 a ≠ nI 0 ↔ e_net L ((e_ns L).getD a 0) = true) ∧ (gA σ 13 a ≠ nI 0 ↔ e_net L ((e_ns L).getD a 0) = true) ∧ (gA σ 14 a ≠ nI 0 ↔ e_td L 3 ((e_ns L).getD a 0) 0 ≠ none) ∧ gA σ 15 a = nI 0) ∧ ∀ a b, a < (e_ns L).length → b < (e_ns L).length → gA σ 16 (24 * a + b) = oI (e_td L 0 ((e_ns L).getD a 0) ((e_ns L).getD b 0)) ∧ gA σ 17 (24 * a + b) = nI 0 ∧ (a ≠ b → (gA σ 18 (24 * a + b) ≠ nI 0 ↔ e_td L 4 ((e_ns L).getD a 0) ((e_ns L).getD b 0) ≠ none)) ∧ (gA σ 19 (24 * a + b) ≠ nI 0 ↔ e_td L 1 ((e_ns L).getD a 0) ((e_ns L).getD b 0) ≠ none ∨ e_td L 1 ((e_ns L).getD b 0) ((e_ns L).getD a 0) ≠ none) ∧ gA σ 20 (24 * a + b) = oI (e_td L 2 ((e_ns L).getD b 0) ((e_ns L).getD a 0))
/-- the law's rows and the map tell of the same -/
def CX (σ0 τ : ej_S) (T : Nat → Nat) (h0 h1 : Nat) : Prop := LT τ T h0 h1 ∧ LX τ (e_ns (e_L T h0 h1 12)) ∧ MP σ0 (e_L T h0 h1 12)
theorem e_td_z {kd : Nat} (hk : ¬ (kd = 0 ∨ kd = 2)) (one other : Nat) (L : List St) : e_td L kd one other = none ∨ e_td L kd one other = some 0 := by
  unfold e_td
  have key : ∀ (L : List St) (o : Option Nat), (o = none ∨ o = some 0) → (L.foldl (e_t1 kd one other) o = none ∨ L.foldl (e_t1 kd one other) o = some 0) := by
    intro L
    induction L with
    | nil => intro o h; exact h
    | cons s r ih =>
      intro o h
      rw [List.foldl_cons]
      refine ih _ ?_
      unfold e_t1 e_ct
      rw [if_neg hk]
      split
      · rcases h with rfl | rfl
        · exact .inr rfl
        · exact .inr rfl
      · exact h
  exact key L none (.inl rfl)
theorem e_td_3 (one other other' : Nat) (L : List St) : e_td L 3 one other = e_td L 3 one other' := by
  have e : e_t1 3 one other = e_t1 3 one other' := by
    funext o s
    unfold e_t1 e_is
    simp
  unfold e_td
  rw [e]
theorem oI_0 (o : Option Nat) (h : o = none ∨ o = some 0) : oI o = if o = none then zm else nI 0 := by
  rcases h with rfl | rfl
  · rfl
  · rfl
theorem oI_ge {o : Option Nat} (h : oB o) : (nI 0 ≤ oI o) ↔ o ≠ none := by
  cases o with
  | none => exact ⟨fun z => absurd z (zm_nle (by omega)), fun z => absurd rfl z⟩
  | some v => exact ⟨fun _ => by simp, fun _ => by have := h v rfl; show nI 0 ≤ nI v; rw [cle_t (Nat.zero_le _) (by omega)]; trivial⟩
theorem oI_lt {o : Option Nat} (h : oB o) : (oI o < nI 0) ↔ o = none := by
  cases o with
  | none => exact ⟨fun _ => rfl, fun _ => zm_lt (by omega)⟩
  | some v => exact ⟨fun z => by have := h v rfl; rw [show oI (some v) = nI v from rfl, clt_f (Nat.zero_le _) (by omega)] at z; exact z.elim, fun z => by cases z⟩
theorem dm_let {x : Nat} (hx : x < 10) : dmB (lN (97 + x)) = false := by
  have : x = 0 ∨ x = 1 ∨ x = 2 ∨ x = 3 ∨ x = 4 ∨ x = 5 ∨ x = 6 ∨ x = 7 ∨ x = 8 ∨ x = 9 := by omega
  rcases this with rfl | rfl | rfl | rfl | rfl | rfl | rfl | rfl | rfl | rfl <;> decide +kernel
theorem e_mn_lt {o : Option Nat} {q B : Nat} (h : ∀ v, o = some v → v < B) (hq : q < B) : ∀ v, e_mn o q = some v → v < B := by
  intro v e
  cases o with
  | none => cases e; exact hq
  | some d =>
    by_cases z : q < d
    · rw [show e_mn (some d) q = some q from if_pos z] at e
      cases e; exact hq
    · rw [show e_mn (some d) q = some d from if_neg z] at e
      exact h _ e
theorem e_td_lt {T : Nat → Nat} {h0 h1 kd one other q : Nat} (ok : e_ok T) (h : e_td (e_L T h0 h1 12) kd one other = some q) : q < 100000 := by
  have key : ∀ j, j ≤ 12 → ∀ v, e_td (e_L T h0 h1 j) kd one other = some v → v < 100000 := by
    intro j
    induction j with
    | zero => intro _ v e; cases e
    | succ j ih =>
      intro hj v e
      cases hh : e_hd h0 h1 j
      · rw [e_L_f hh] at e; exact ih (by omega) v e
      · rw [e_L_t hh, e_td_snoc] at e
        unfold e_t1 at e
        split at e
        · refine e_mn_lt (ih (by omega)) ?_ v e
          show (if kd = 0 ∨ kd = 2 then T (5 * j + 4) else 0) < _
          have := (ok j (by omega)).2.2.2.2
          split <;> omega
        · exact ih (by omega) v e
  exact key 12 (Nat.le_refl _) q h
section P97f
variable {n a b k h0 h1 : Nat} {fs : Nat → List Nat} {σ σ0 c τ : ej_S} {tp ot : List Nat} {T : Nat → Nat} {L : List St}
theorem MP_NN (h : MP σ L) (h10 : (e_ns L).length ≤ 10) : NN σ = (e_ns L).length := NN_eq h.1 (by omega)
theorem CX_10 (h : CX σ0 τ T h0 h1) : (e_ns (e_L T h0 h1 12)).length ≤ 10 := LX_10 h.2.1
theorem CX_NN (h : CX σ0 τ T h0 h1) : NN σ0 = (e_ns (e_L T h0 h1 12)).length := MP_NN h.2.2 (CX_10 h)
theorem CX_m2 (h : CX σ0 τ T h0 h1) : gA τ 2 2 = nI (NN σ0) := by rw [CX_NN h]; exact h.2.1.1
theorem CX_x (h : CX σ0 τ T h0 h1) (ha : a < NN σ0) : gA τ 1 a = nI ((e_ns (e_L T h0 h1 12)).getD a 0) := h.2.1.2.2.1 a (by rw [← CX_NN h]; exact ha)
theorem CX_b (h : CX σ0 τ T h0 h1) (ha : a < NN σ0) : (e_ns (e_L T h0 h1 12)).getD a 0 < 10 := h.2.1.2.2.2 _ (gD_mem (by rw [← CX_NN h]; exact ha))
theorem CX_dm (h : CX σ0 τ T h0 h1) (ha : a < NN σ0) : dmB (gB σ0 1 a) = false := by
  rw [(h.2.2.2.2.1 a (by rw [← CX_NN h]; exact ha)).1]
  exact dm_let (CX_b h ha)
theorem CX_kd (h : CX σ0 τ T h0 h1) (ha : a < NN σ0) : kdN σ0 a = if e_net (e_L T h0 h1 12) ((e_ns (e_L T h0 h1 12)).getD a 0) = true then 1 else 0 := by
  have q := (h.2.2.2.2.1 a (by rw [← CX_NN h]; exact ha)).2.2.1
  unfold kdN
  rw [CX_dm h ha, if_neg (by decide)]
  by_cases z : gA σ0 12 a = nI 0
  · rw [if_pos z, if_neg (fun y => q.mpr y z)]
  · rw [if_neg z, if_pos (q.mp z)]
/-- what the rest of a step adds -/
theorem L_step_183 {q d : Nat} (hk : k < 6) (s : lw_S) : mL_step_183 n (nI k) (nI q) (nI d) s = some (nI (if k = 4 then 0 else q + d + (if k = 5 then 200000 else 0)), s) := by
  unfold mL_step_183
  rw [L_0, L_4, L_5, L_200000]
  by_cases z : k = 4
  · rw [ieq_t z, if_pos z]
  · rw [ieq_f z (by omega) (by omega), if_neg z]
    by_cases y : k = 5
    · rw [ieq_t y, if_pos y, nI_add, nI_add]
    · rw [ieq_f y (by omega) (by omega), if_neg y, nI_add, nI_add]
theorem L_step_126 (hn : 2000 < n) (hT : LT τ T h0 h1) {x y : Nat} {o : Option Nat} (ho : oB o) (hk : k < 6) (hx : x < 2 ^ 31) (hy : y < 2 ^ 31) : mL_step_126 n (nI k) (nI x) (nI y) (oI o) (c, τ) = some (oI (o.map (fun q => if k = 4 then 0 else q + (if k = 2 then (if e_td (e_L T h0 h1 12) 4 x y = none then 0 else 100000) + (if e_td (e_L T h0 h1 12) 3 x 0 = none then 0 else 100000) else 0) + (if k = 5 then 200000 else 0))), (c, τ)) := by
  unfold mL_step_126
  rw [L_0, L_m1]
  cases o with
  | none => rw [if_neg (fun z => (oI_ge ho).mp z rfl)]; rfl
  | some q =>
    rw [if_pos ((oI_ge ho).mpr (by simp)), L_2, L_4, show oI (some q) = nI q from rfl]
    by_cases z : k = 2
    · obtain ⟨e4, b4⟩ := L_told (n := n) (c := c) hn hT (show 4 < 5 by omega) hx hy
      rw [ieq_t z, e4, ej_bi_s]
      have key : ∀ d : Nat, mL_step_164 n (nI k) (nI x) (nI q) (nI d) (c, τ) = some (nI (q + (d + (if e_td (e_L T h0 h1 12) 3 x 0 = none then 0 else 100000))), (c, τ)) := by
        intro d
        obtain ⟨e3, b3⟩ := L_told (n := n) (c := c) (other := 0) hn hT (show 3 < 5 by omega) hx (by omega)
        unfold mL_step_164
        rw [L_0, L_3, e3, ej_bi_s, L_100000, nI_add, nI_add, L_step_183 hk, L_step_183 hk, if_neg (show ¬ k = 4 by omega), if_neg (show ¬ k = 4 by omega), if_neg (show ¬ k = 5 by omega)]
        by_cases w : e_td (e_L T h0 h1 12) 3 x 0 = none
        · rw [if_neg (fun y => (oI_ge b3).mp y w), if_pos w]; rfl
        · rw [if_pos ((oI_ge b3).mpr w), if_neg w]; rfl
      rw [L_100000, key, key]
      show _ = some (nI (if k = 4 then 0 else q + (if k = 2 then (if e_td (e_L T h0 h1 12) 4 x y = none then 0 else 100000) + (if e_td (e_L T h0 h1 12) 3 x 0 = none then 0 else 100000) else 0) + (if k = 5 then 200000 else 0)), (c, τ))
      rw [if_neg (show ¬ k = 4 by omega), if_pos z, if_neg (show ¬ k = 5 by omega), Nat.add_zero]
      by_cases w : e_td (e_L T h0 h1 12) 4 x y = none
      · rw [if_neg (fun y => (oI_ge b4).mp y w), if_pos w]
      · rw [if_pos ((oI_ge b4).mpr w), if_neg w]
    · rw [ieq_f z (by omega) (by omega), L_step_183 hk]
      show _ = some (nI (if k = 4 then 0 else q + (if k = 2 then _ else 0) + (if k = 5 then 200000 else 0)), (c, τ))
      rw [if_neg z]
theorem vl_oI {o : Option Nat} {q : Nat} (h : o = some q) (hb : oB o) : vl (oI o) = q := by
  rw [h]
  exact vl_nI (by have := hb q h; omega)
/-- a step, by the law -/
theorem L_step (hn : 2000 < n) (h : CX σ0 τ T h0 h1) (ha : a < NN σ0) (hb : b < NN σ0) (hab : a ≠ b) (hk1 : 1 ≤ k) (hk5 : k ≤ 5) (hc : IQ n fs σ0 tp ot c) : ∃ c', IQ n fs σ0 tp ot c' ∧ mL_step n (nI a) (nI b) (nI k) (c, τ) = some (oI (scost σ0 a b k), (c', τ)) ∧ oB (scost σ0 a b k) := by
  have h10 := CX_10 h
  have hN := CX_NN h
  have hT := h.1
  obtain ⟨p16, p17, p18, p19, p20⟩ := h.2.2.2.2.2 a b (by omega) (by omega)
  obtain ⟨r16, r17, r18, r19, r20⟩ := h.2.2.2.2.2 b a (by omega) (by omega)
  obtain ⟨q1, q11, q12, q13, q14, q15⟩ := h.2.2.2.2.1 a (by omega)
  obtain ⟨z1, _, _, _, _, z15⟩ := h.2.2.2.2.1 b (by omega)
  have dmb := CX_dm h hb
  have ex : ∀ c : ej_S, gA ((c, τ) : lw_S).2 1 a = nI ((e_ns (e_L T h0 h1 12)).getD a 0) := fun c => CX_x h ha
  have ey : ∀ c : ej_S, gA ((c, τ) : lw_S).2 1 b = nI ((e_ns (e_L T h0 h1 12)).getD b 0) := fun c => CX_x h hb
  have bx := CX_b h ha
  have byy := CX_b h hb
  unfold mL_step
  rw [ck_t (show a < 12 by omega) (by omega), ej_nm_e, ck_t (show b < 12 by omega) (by omega), ej_nm_e, nI_clamp (show a < 2 ^ 31 by omega), nI_clamp (show b < 2 ^ 31 by omega), ex, ey]
  have HL : ∃ L, L = e_L T h0 h1 12 := ⟨_, rfl⟩
  obtain ⟨L, eL⟩ := HL
  have told : ∀ (c : ej_S) (kd x y : Nat), kd < 5 → x < 10 → y < 10 → mL_told n (nI kd) (nI x) (nI y) (c, τ) = some (oI (e_td L kd x y), (c, τ)) ∧ oB (e_td L kd x y) := fun c kd x y h1 h2 h3 => by rw [eL]; exact L_told hn hT h1 (by omega) (by omega)
  have s126 : ∀ (c : ej_S) (o : Option Nat) (x y : Nat), oB o → x < 10 → y < 10 → mL_step_126 n (nI k) (nI x) (nI y) (oI o) (c, τ) = some (oI (o.map (fun q => if k = 4 then 0 else q + (if k = 2 then (if e_td L 4 x y = none then 0 else 100000) + (if e_td L 3 x 0 = none then 0 else 100000) else 0) + (if k = 5 then 200000 else 0))), (c, τ)) := fun c o x y h1 h2 h3 => by rw [eL]; exact L_step_126 hn hT h1 (by omega) (by omega) (by omega)
  rw [← eL] at p16 p18 p19 p20 r16 r18 r19 r20 q14 bx byy ⊢
  generalize (e_ns L).getD a 0 = x at *
  generalize (e_ns L).getD b 0 = y at *
  have c1 : k = 1 ∨ k = 2 ∨ k = 3 ∨ k = 4 ∨ k = 5 := by omega
  rw [L_m1, L_1, L_2, L_3, L_4, L_0]
  rcases c1 with rfl | rfl | rfl | rfl | rfl
  · -- aliases
    obtain ⟨e1, b1⟩ := told c 1 x y (by omega) bx byy
    obtain ⟨e2, b2⟩ := told c 1 y x (by omega) byy bx
    refine ⟨c, hc, ?_⟩
    rw [if_pos rfl, e1, ej_bi_s, e2, ej_bi_s]
    unfold mL_either
    rw [L_0, sc1]
    have z1 := e_td_z (kd := 1) (by omega) x y L
    have z2 := e_td_z (kd := 1) (by omega) y x L
    by_cases w : e_td L 1 x y = none
    · rw [if_neg (fun t => (oI_ge b1).mp t w), ej_bi_s, s126 c _ x y b2 bx byy]
      rcases z2 with u | u
      · have : gA σ0 19 (24 * a + b) = nI 0 := Classical.byContradiction fun t => (p19.mp t).elim (fun s => s w) (fun s => s u)
        rw [u, if_pos this]
        exact ⟨rfl, fun v e => by cases e⟩
      · have : gA σ0 19 (24 * a + b) ≠ nI 0 := p19.mpr (.inr (by rw [u]; simp))
        rw [u, if_neg this]
        exact ⟨rfl, fun v e => by cases e; omega⟩
    · have u := z1.resolve_left w
      have : gA σ0 19 (24 * a + b) ≠ nI 0 := p19.mpr (.inl w)
      rw [if_pos ((oI_ge b1).mpr w), ej_bi_s, s126 c _ x y b1 bx byy, u, if_neg this]
      exact ⟨rfl, fun v e => by cases e; omega⟩
  · -- links
    obtain ⟨e1, b1⟩ := told c 0 x y (by omega) bx byy
    refine ⟨c, hc, ?_⟩
    rw [ieq_f (by omega) (by omega) (by omega), if_pos rfl, e1, ej_bi_s, s126 c _ x y b1 bx byy, sc2]
    have d3 : (if gA σ0 14 a = nI 0 then 0 else 100000) = (if e_td L 3 x 0 = none then 0 else 100000) := by
      by_cases w : e_td L 3 x 0 = none
      · rw [if_pos w, if_pos (Classical.byContradiction fun t => q14.mp t w)]
      · rw [if_neg w, if_neg (q14.mpr w)]
    have d4 : (if gA σ0 18 (24 * a + b) = nI 0 then 0 else 100000) = (if e_td L 4 x y = none then 0 else 100000) := by
      by_cases w : e_td L 4 x y = none
      · rw [if_pos w, if_pos (Classical.byContradiction fun t => (p18 hab).mp t w)]
      · rw [if_neg w, if_neg ((p18 hab).mpr w)]
    rw [d3, d4, p16]
    cases hq : e_td L 0 x y with
    | none =>
      rw [show oI none = zm from rfl, if_pos rfl]
      exact ⟨rfl, fun v e => by cases e⟩
    | some q =>
      have hb2 := b1 q hq
      rw [if_neg (show ¬ oI (some q) = zm from zm_ne (by omega)), show vl (oI (some q)) = q from vl_nI (by omega)]
      refine ⟨?_, fun v e => ?_⟩
      · show some (nI (q + (_ + _) + 0), (c, τ)) = some (nI (q + _ + _), (c, τ))
        rw [Nat.add_zero, Nat.add_assoc]
      · have hq2 : q < 100000 := e_td_lt hT.2.1 (by rw [← eL]; exact hq)
        cases e
        split <;> split <;> omega
  · -- into a net
    obtain ⟨e1, b1⟩ := told c 2 y x (by omega) byy bx
    refine ⟨c, hc, ?_⟩
    rw [ieq_f (by omega) (by omega) (by omega), ieq_f (by omega) (by omega) (by omega), if_pos rfl, e1, ej_bi_s, s126 c _ x y b1 bx byy, sc3, p20, z15, if_pos rfl, dmb, if_neg (show ¬ (false = true) by decide)]
    cases hq : e_td L 2 y x with
    | none =>
      rw [show oI none = zm from rfl, if_pos rfl]
      exact ⟨rfl, fun v e => by cases e⟩
    | some q =>
      have hb2 := b1 q hq
      rw [if_neg (show ¬ oI (some q) = zm from zm_ne (by omega)), show vl (oI (some q)) = q from vl_nI (by omega)]
      exact ⟨rfl, fun v e => by cases e; omega⟩
  · -- out of a net
    obtain ⟨e1, b1⟩ := told c 2 x y (by omega) bx byy
    refine ⟨c, hc, ?_⟩
    rw [ieq_f (by omega) (by omega) (by omega), ieq_f (by omega) (by omega) (by omega), ieq_f (by omega) (by omega) (by omega), if_pos rfl, e1, ej_bi_s, s126 c _ x y b1 bx byy, sc4, r20]
    cases hq : e_td L 2 x y with
    | none =>
      rw [show oI none = zm from rfl, if_pos rfl]
      exact ⟨rfl, fun v e => by cases e⟩
    | some q =>
      have hb2 := b1 q hq
      rw [if_neg (show ¬ oI (some q) = zm from zm_ne (by omega))]
      exact ⟨rfl, fun v e => by cases e; omega⟩
  · -- back
    obtain ⟨z, c', g1, g2, g3⟩ := a_isBack (n := n) (fs := fs) (tp := tp) (ot := ot) hn ha hb c hc
    obtain ⟨e1, b1⟩ := told c' 0 y x (by omega) byy bx
    refine ⟨c', g1, ?_⟩
    rw [ieq_f (by omega) (by omega) (by omega), ieq_f (by omega) (by omega) (by omega), ieq_f (by omega) (by omega) (by omega), ieq_f (by omega) (by omega) (by omega), g3 τ, ej_bi_s, sc5]
    by_cases w : gA σ0 21 (24 * a + b) = nI 0
    · rw [if_pos (g2.mpr w), show zm = oI none from rfl, s126 c' none x y (fun v e => by cases e) bx byy, if_pos w]
      exact ⟨rfl, fun v e => by cases e⟩
    · have hbk : gA σ0 16 (24 * b + a) ≠ zm := by
        have h24 := NN_le (IQ_0 hc).1
        exact SOL_bk (IQ_0 hc).2 a b (by omega) (by omega) w
      rw [if_neg (fun t => w (g2.mp t)), e1, ej_bi_s, s126 c' _ x y b1 bx byy, if_neg w, r16]
      rw [r16] at hbk
      cases hq : e_td L 0 y x with
      | none => rw [hq] at hbk; exact absurd rfl hbk
      | some q =>
        have hb2 := b1 q hq
        have hq2 : q < 100000 := e_td_lt hT.2.1 (by rw [← eL]; exact hq)
        rw [show vl (oI (some q)) = q from vl_nI (by omega)]
        exact ⟨rfl, fun v e => by cases e; omega⟩
end P97f
