/-! THE CLASS: links back -/
theorem relC_fr {I J A B M : List Nat} {σc σc' σr : ej_S} (h : relC σc σr) (p : fr I J A B M σc σc') (i1 : 22 ∉ I) (i2 : 23 ∉ I) (i3 : 24 ∉ I) (i4 : 25 ∉ I) (i5 : 26 ∉ I) (i6 : 27 ∉ I) (i7 : 28 ∉ I) (a1 : 18 ∉ A) (a2 : 19 ∉ A) (a3 : 20 ∉ A) (a4 : 21 ∉ A) (a5 : 22 ∉ A) (a6 : 23 ∉ A) (b1 : 1 ∉ B) (m0 : 0 ∉ M) (m1 : 1 ∉ M) : relC σc' σr := by
  unfold relC at *
  rw [p.1 22 i1, p.1 23 i2, p.1 24 i3, p.1 25 i4, p.1 26 i5, p.1 27 i6, p.1 28 i7, p.2.2.1 18 a1, p.2.2.1 19 a2, p.2.2.1 20 a3, p.2.2.1 21 a4, p.2.2.1 22 a5, p.2.2.1 23 a6, p.2.2.2.1 1 b1, p.2.2.2.2 0 m0, p.2.2.2.2 1 m1]
  exact h
theorem relC_24 {σc σc' σr : ej_S} (h : relC σc σr) (p : fr [] [] [24] [] [] σc σc') : relC σc' σr := relC_fr h p (by simp) (by simp) (by simp) (by simp) (by simp) (by simp) (by simp) (by simp) (by simp) (by simp) (by simp) (by simp) (by simp) (by simp) (by simp) (by simp)
theorem relC_sB {σc σr : ej_S} (h : relC σc σr) (X : Nat → Int32) : relC σc (sB σr X) := by
  unfold relC NN at *
  simp (disch := omega) only [sB_I, sB_A, sB_B]
  exact h
theorem wfR_sB {σ : ej_S} (h : wfR σ) (X : Nat → Int32) : wfR (sB σ X) := by
  unfold wfR at *
  simp (disch := omega) only [sB_I, sB_A, sB_B]
  exact h
theorem NN_sB (σ : ej_S) (X : Nat → Int32) : NN (sB σ X) = NN σ := by unfold NN; rw [sB_I]
theorem relG_X {σc σr : ej_S} (hw : wfR σr) (h : relC σc σr) {hm t : Nat} (hb : rAli (gA σc 24) (Xs σr hm t)) : relG σc (sB σr (Xs σr hm t)) := ⟨wfR_sB hw _, relC_sB h _, by rw [sB_21]; exact hb, bkOK_Xs σr hm t⟩
def bS (x : Int32) (b : Nat) : Prop := b < 24 ∧ bt x b = true
section P78
variable {n : Nat} {σc σr : ej_S}
theorem clo_NN (hw : wfR σr) (hbk : bkOK σr) : clo σr (fun x => x < NN σr) := by
  intro a b ha hb _ ⟨k, h1, h2, h3⟩
  obtain ⟨c, hc⟩ := Option.ne_none_iff_exists'.mp h3
  exact (scost_lim hw hbk ha hb h1 h2 hc).2.1
theorem x_spread_16 (hn : 2000 < n) (g : relG σc σr) (f : Int32 → Int32 → ej_S → Option (Int32 × ej_S)) (be : Int32) (t : Nat) : ∀ (k j : Nat) (all : Int32), 24 - j < k → j ≤ 24 → (∀ b, bS all b → b < NN σr) → ∃ al, m5_spread_16 n f k all (nI t) be (nI j) σc = (if al = be then some (al, σc) else f al (nI (t + 1)) σc) ∧ (∀ b, bS all b → bS al b) ∧ (∀ S : Nat → Prop, clo σr S → (∀ b, bS all b → S b) → ∀ b, bS al b → S b) ∧ (∀ a b, j ≤ a → a < 24 → b < 24 → bS all a → stp σr a b → bS al b) := by
  intro k
  induction k with
  | zero => intro j all h; omega
  | succ k ih =>
    intro j all hk hj hlim
    rw [u_5_spread_16]
    rcases Nat.lt_or_ge j 24 with q | q
    · rw [L_24, ile_f q (by omega), x_holds q, ej_bi_s, L_0, ibI]
      cases hb : bt all j
      · rw [if_neg (by decide), L_1, nI_add, ej_nm_e]
        obtain ⟨al, e1, p1, p2, p3⟩ := ih (j + 1) all (by omega) q hlim
        refine ⟨al, e1, p1, p2, fun a b h1 h2 h3 h4 => ?_⟩
        rcases Nat.eq_or_lt_of_le h1 with z | z
        · subst z; rw [h4.2] at hb; cases hb
        · exact p3 a b z h2 h3 h4
      · have hjN := hlim j ⟨q, hb⟩
        obtain ⟨T, e0, hT⟩ := x_targetsOf (n := n) hn g hjN
        rw [if_pos rfl, e0, ej_bi_s]
        simp only [L_1, nI_add, ej_nm_e]
        have up : ∀ b, bS (all ||| T) b ↔ bS all b ∨ (b < 24 ∧ stp σr j b) := by
          intro b
          unfold bS
          rw [b_or, Bool.or_eq_true]
          constructor
          · rintro ⟨h1, h2 | h2⟩
            · exact .inl ⟨h1, h2⟩
            · exact .inr ⟨h1, (hT b h1).mp h2⟩
          · rintro (⟨h1, h2⟩ | ⟨h1, h2⟩)
            · exact ⟨h1, .inl h2⟩
            · exact ⟨h1, .inr ((hT b h1).mpr h2)⟩
        have hlim' : ∀ b, bS (all ||| T) b → b < NN σr := by
          intro b h
          rcases (up b).mp h with z | ⟨z1, z2⟩
          · exact hlim b z
          · exact clo_NN g.1 g.2.2.2 j b q z1 hjN z2
        obtain ⟨al, e1, p1, p2, p3⟩ := ih (j + 1) (all ||| T) (by omega) q hlim'
        refine ⟨al, e1, fun b h => p1 b ((up b).mpr (.inl h)), fun S hS hA => p2 S hS (fun b h => ?_), fun a b h1 h2 h3 h4 h5 => ?_⟩
        · rcases (up b).mp h with z | ⟨z1, z2⟩
          · exact hA b z
          · exact hS j b q z1 (hA j ⟨q, hb⟩) z2
        · rcases Nat.eq_or_lt_of_le h1 with z | z
          · subst z; exact p1 b ((up b).mpr (.inr ⟨h3, h5⟩))
          · exact p3 a b z h2 h3 ((up a).mpr (.inl h4)) h5
    · rw [L_24, ile_t q (by omega)]
      refine ⟨all, ?_, fun b h => h, fun S _ h => h, fun a b h1 h2 => by omega⟩
      simp only [L_1, nI_add, ej_nm_e]
theorem x_spread_4 (hn : 2000 < n) (g : relG σc σr) : ∀ (k t : Nat) (all : Int32), 25 - t < k → t ≤ 25 → (∀ b, bS all b → b < NN σr) → (t ≤ ctP (bS all) ∨ clo σr (bS all)) → ∃ al, m5_spread_4 n k all (nI t) σc = some (al, σc) ∧ (∀ b, bS all b → bS al b) ∧ (∀ S : Nat → Prop, clo σr S → (∀ b, bS all b → S b) → ∀ b, bS al b → S b) ∧ clo σr (bS al) := by
  intro k
  induction k with
  | zero => intro t all h; omega
  | succ k ih =>
    intro t all hk ht hlim hinv
    rw [u_5_spread_4]
    rcases Nat.lt_or_ge 24 t with q | q
    · rw [L_24, ilt_t q (by omega)]
      refine ⟨all, rfl, fun b h => h, fun S _ h => h, ?_⟩
      rcases hinv with z | z
      · have := ctP_le (bS all); omega
      · exact z
    · rw [L_24, ilt_f q (by omega), L_0]
      obtain ⟨al, e1, p1, p2, p3⟩ := x_spread_16 hn g (m5_spread_4 n k) all t n 0 all (by omega) (by omega) hlim
      rw [e1]
      by_cases e : al = all
      · subst e
        rw [if_pos rfl]
        exact ⟨al, rfl, fun b h => h, fun S _ h => h, fun a b h1 h2 h3 h4 => p3 a b (Nat.zero_le _) h1 h2 h3 h4⟩
      · rw [if_neg e]
        have hinv' : t + 1 ≤ ctP (bS al) ∨ clo σr (bS al) := by
          by_cases w : ∃ i, i < 24 ∧ ¬ bS all i ∧ bS al i
          · obtain ⟨i, w1, w2, w3⟩ := w
            rcases hinv with z | z
            · have := ctP_lt w1 (fun k _ => p1 k) w2 w3
              exact .inl (by omega)
            · exact absurd (p2 (bS all) z (fun b h => h) i w3) w2
          · have same : ∀ i, bS al i → bS all i := fun i h => Classical.byContradiction fun z => w ⟨i, h.1, z, h⟩
            exact .inr (fun a b h1 h2 h3 h4 => p3 a b (Nat.zero_le _) h1 h2 (same a h3) h4)
        obtain ⟨al2, e2, r1, r2, r3⟩ := ih (t + 1) al (by omega) (by omega) (p2 _ (clo_NN g.1 g.2.2.2) hlim) hinv'
        exact ⟨al2, e2, fun b h => r1 b (p1 b h), fun S hS h => r2 S hS (p2 S hS h), r3⟩
/-- what is reached -/
theorem x_spread {h : Nat} {all : Int32} (hn : 2000 < n) (g : relG σc σr) (hh : h < NN σr) (h0 : bS all h) (h1 : ∀ b, bS all b → cl σr h b) : ∃ al, m5_spread n all σc = some (al, σc) ∧ ∀ b, b < 24 → (bt al b = true ↔ cl σr h b) := by
  obtain ⟨al, e, p1, p2, p3⟩ := x_spread_4 (n := n) hn g n 0 all (by omega) (by omega) (fun b hb => h1 b hb _ hh (clo_NN g.1 g.2.2.2)) (.inl (Nat.zero_le _))
  refine ⟨al, by unfold m5_spread; rw [L_0]; exact e, fun b hb => ⟨fun z => ?_, fun z => ?_⟩⟩
  · exact p2 (cl σr h) (cl_clo σr h) h1 b ⟨hb, z⟩
  · exact (z (bS al) (p1 h h0) p3).2
theorem x_turnLinks_14 {a : Nat} {T : Int32} (ha : a < 24) : ∀ (k j : Nat) (σ : ej_S), 24 - j < k → j ≤ 24 → ∃ σ', m5_turnLinks_14 n k (nI a) T (nI j) σ = some (if T = nI 0 then nI 0 else nI 1, σ') ∧ fr [] [] [24] [] [] σ σ' ∧ ∀ x y, x < 24 → y < 24 → (bt (gA σ' 24 x) y = true ↔ bt (gA σ 24 x) y = true ∨ (j ≤ x ∧ bt T x = true ∧ y = a)) := by
  intro k
  induction k with
  | zero => intro j σ h; omega
  | succ k ih =>
    intro j σ hk hj
    rw [u_5_turnLinks_14]
    rcases Nat.lt_or_ge j 24 with q | q
    · rw [L_24, ile_f q (by omega), x_holds q, ej_bi_s, L_0, ibI]
      cases hb : bt T j
      · rw [if_neg (by decide), L_1, nI_add, ej_nm_e]
        obtain ⟨σ', e1, f1, p1⟩ := ih (j + 1) σ (by omega) q
        refine ⟨σ', e1, f1, fun x y hx hy => ?_⟩
        rw [p1 x y hx hy]
        constructor
        · rintro (z | ⟨z1, z2⟩)
          · exact .inl z
          · exact .inr ⟨by omega, z2⟩
        · rintro (z | ⟨z1, z2, z3⟩)
          · exact .inl z
          · refine .inr ⟨?_, z2, z3⟩
            rcases Nat.eq_or_lt_of_le z1 with w | w
            · subst w; rw [z2] at hb; cases hb
            · exact w
      · rw [if_pos rfl]
        simp (disch := omega) only [ck_t, nI_clamp, x_setOf ha, ej_bi_s, ej_bl_s, ej_bv_s, ej_nm_e, L_1, nI_add]
        obtain ⟨σ', e1, f1, p1⟩ := ih (j + 1) (uA σ 24 j (gA σ 24 j ||| stb a)) (by omega) q
        refine ⟨σ', e1, fr_tr (fr_uA fr_rf (by simp)) f1, fun x y hx hy => ?_⟩
        rw [p1 x y hx hy, s_AA_s]
        by_cases w : x = j
        · subst w
          rw [pk_us, bt_or _ (by omega) (by omega), Bool.or_eq_true, decide_eq_true_eq]
          constructor
          · rintro ((z | z) | ⟨z1, z2⟩)
            · exact .inl z
            · exact .inr ⟨Nat.le_refl _, hb, z⟩
            · omega
          · rintro (z | ⟨z1, z2, z3⟩)
            · exact .inl (.inl z)
            · exact .inl (.inr z3)
        · rw [pk_un w]
          constructor
          · rintro (z | ⟨z1, z2⟩)
            · exact .inl z
            · exact .inr ⟨by omega, z2⟩
          · rintro (z | ⟨z1, z2⟩)
            · exact .inl z
            · exact .inr ⟨by omega, z2⟩
    · rw [L_24, ile_t q (by omega)]
      refine ⟨σ, ?_, fr_rf, fun x y hx hy => ⟨.inl, fun z => by rcases z with z | z; exact z; omega⟩⟩
      rw [L_0, L_1]
      split <;> rfl
theorem x_linksOf {a : Nat} (hw : wfR σr) (h : relC σc σr) (ha : a < 24) : ∃ T, m0_linksOf n (nI a) σc = some (T, σc) ∧ ∀ b, b < 24 → (bt T b = true ↔ gA σr 16 (24 * a + b) ≠ zm) := by
  obtain ⟨N, h0, h1, h2, w1, w2, w3, w4, w5, w6, w7, w8, w9⟩ := hw
  unfold m0_linksOf
  rw [x_has (by rw [h.1, h1]) h0 (by omega), ej_bi_s]
  by_cases q : a < N
  · rw [decide_eq_true q, bI_t, L_0, if_neg n10]
    simp (disch := omega) only [ck_t, nI_clamp]
    exact ⟨_, rfl, fun b hb => (h.2.2.2.2.2.2.2.2.2.2.1 a b ha hb).1⟩
  · rw [decide_eq_false q, bI_f, L_0, if_pos rfl]
    refine ⟨nI 0, rfl, fun b hb => ?_⟩
    rw [w6 a b ha hb (by omega)]
    exact ⟨fun z => (by rw [show bt (nI 0) b = false from b_0 b] at z; cases z), fun z => absurd rfl z⟩
theorem x_turnLinks {a : Nat} {R : Int32} (hn : 2000 < n) (hw : wfR σr) (h : relC σc σr) (ha : a < 24) : ∃ g σ', m5_turnLinks n (nI a) R σc = some (bI g, σ') ∧ fr [] [] [24] [] [] σc σ' ∧ (∀ x y, x < 24 → y < 24 → (bt (gA σ' 24 x) y = true ↔ bt (gA σc 24 x) y = true ∨ (bt R x = true ∧ y = a ∧ gA σr 16 (24 * a + x) ≠ zm))) ∧ (g = false → ∀ x, x < 24 → bt R x = true → gA σr 16 (24 * a + x) = zm) := by
  obtain ⟨T, e1, hT⟩ := x_linksOf (n := n) hw h ha
  obtain ⟨σ', e2, f2, p2⟩ := x_turnLinks_14 (n := n) (T := T &&& R) ha n 0 σc (by omega) (by omega)
  have hTR : ∀ x, x < 24 → (bt (T &&& R) x = true ↔ gA σr 16 (24 * a + x) ≠ zm ∧ bt R x = true) := by
    intro x hx
    rw [b_and, Bool.and_eq_true, hT x hx]
  unfold m5_turnLinks
  rw [e1, ej_bi_s, ej_nm_e, L_0, e2]
  have row : ∀ x y, x < 24 → y < 24 → (bt (gA σ' 24 x) y = true ↔ bt (gA σc 24 x) y = true ∨ (bt R x = true ∧ y = a ∧ gA σr 16 (24 * a + x) ≠ zm)) := by
    intro x y hx hy
    rw [p2 x y hx hy, hTR x hx]
    constructor
    · rintro (z | ⟨_, ⟨z1, z2⟩, z3⟩)
      · exact .inl z
      · exact .inr ⟨z2, z3, z1⟩
    · rintro (z | ⟨z1, z2, z3⟩)
      · exact .inl z
      · exact .inr ⟨Nat.zero_le _, ⟨z3, z1⟩, z2⟩
  by_cases e : T &&& R = nI 0
  · rw [if_pos e]
    refine ⟨false, σ', rfl, f2, row, fun _ x hx hR => Classical.byContradiction fun z => ?_⟩
    have := (hTR x hx).mpr ⟨z, hR⟩
    rw [e, show bt (nI 0) x = false from b_0 x] at this; cases this
  · rw [if_neg e]
    exact ⟨true, σ', rfl, f2, row, fun z => by cases z⟩
/-- one turn -/
theorem x_flb_46 {R : Int32} {y : Nat} (hn : 2000 < n) (hw : wfR σr) (f : Int32 → Int32 → ej_S → Option ej_S) : ∀ (k j : Nat) (g : Bool) (σc : ej_S), relC σc σr → 24 - j < k → j ≤ 24 → ∃ g' σ', m5_findLinksBack_46 n f k R (nI y) (bI g) (nI j) σc = (if g' = false then some σ' else f R (nI (y + 1)) σ') ∧ fr [] [] [24] [] [] σc σ' ∧ (∀ a b, a < 24 → b < 24 → (bt (gA σ' 24 a) b = true ↔ bt (gA σc 24 a) b = true ∨ (j ≤ b ∧ bt R b = false ∧ bt R a = true ∧ gA σr 16 (24 * b + a) ≠ zm))) ∧ (g' = false → g = false ∧ ∀ a b, j ≤ b → a < 24 → b < 24 → bt R b = false → bt R a = true → gA σr 16 (24 * b + a) = zm) := by
  intro k
  induction k with
  | zero => intro j g σc _ h; omega
  | succ k ih =>
    intro j g σc hc hk hj
    rw [u_5_findLinksBack_46]
    rcases Nat.lt_or_ge j 24 with q | q
    · rw [L_24, ile_f q (by omega), x_holds q, ej_bi_s, L_0, ibI]
      cases hb : bt R j
      · rw [if_neg (by decide)]
        obtain ⟨g1, σ1, e1, f1, p1, p2⟩ := x_turnLinks (R := R) hn hw hc q
        rw [e1, ej_bi_s]
        have eo : bI g ||| bI g1 = bI (g || g1) := by cases g <;> cases g1 <;> rfl
        obtain ⟨g', σ', e2, f2, r1, r2⟩ := ih (j + 1) (g || g1) σ1 (relC_24 hc f1) (by omega) q
        rw [eo, ej_nm_e, L_1, nI_add, ej_nm_e]
        refine ⟨g', σ', e2, fr_tr f1 f2, fun a b ha hb' => ?_, fun z => ?_⟩
        · rw [r1 a b ha hb', p1 a b ha hb']
          constructor
          · rintro ((z | ⟨z1, z2, z3⟩) | ⟨z1, z2⟩)
            · exact .inl z
            · subst z2; exact .inr ⟨Nat.le_refl _, hb, z1, z3⟩
            · exact .inr ⟨by omega, z2⟩
          · rintro (z | ⟨z1, z2, z3, z4⟩)
            · exact .inl (.inl z)
            · rcases Nat.eq_or_lt_of_le z1 with w | w
              · subst w; exact .inl (.inr ⟨z3, rfl, z4⟩)
              · exact .inr ⟨w, z2, z3, z4⟩
        · obtain ⟨z1, z2⟩ := r2 z
          rw [Bool.or_eq_false_iff] at z1
          refine ⟨z1.1, fun a b h1 h2 h3 h4 h5 => ?_⟩
          rcases Nat.eq_or_lt_of_le h1 with w | w
          · subst w; exact p2 z1.2 a h2 h5
          · exact z2 a b w h2 h3 h4 h5
      · rw [if_pos rfl, L_1, nI_add, ej_nm_e]
        obtain ⟨g', σ', e2, f2, r1, r2⟩ := ih (j + 1) g σc hc (by omega) q
        refine ⟨g', σ', e2, f2, fun a b ha hb' => ?_, fun z => ?_⟩
        · rw [r1 a b ha hb']
          constructor
          · rintro (z | ⟨z1, z2⟩)
            · exact .inl z
            · exact .inr ⟨by omega, z2⟩
          · rintro (z | ⟨z1, z2, z3⟩)
            · exact .inl z
            · refine .inr ⟨?_, z2, z3⟩
              rcases Nat.eq_or_lt_of_le z1 with w | w
              · subst w; rw [z2] at hb; cases hb
              · exact w
        · obtain ⟨z1, z2⟩ := r2 z
          refine ⟨z1, fun a b h1 h2 h3 h4 h5 => ?_⟩
          rcases Nat.eq_or_lt_of_le h1 with w | w
          · subst w; rw [h4] at hb; cases hb
          · exact z2 a b w h2 h3 h4 h5
    · rw [L_24, ile_t q (by omega)]
      refine ⟨g, σc, ?_, fr_rf, fun a b ha hb => ⟨.inl, fun z => by rcases z with z | z; exact z; omega⟩, fun z => ⟨z, fun a b h1 h2 h3 => by omega⟩⟩
      rw [L_0, L_1, nI_add, ej_nm_e]
      cases g
      · rw [bI_f, if_pos rfl, if_pos rfl]
      · rw [bI_t, if_neg n10, if_neg (by decide)]
theorem x_flb_28 {h : Nat} (hn : 2000 < n) (hw : wfR σr) (hh : h < NN σr) : ∀ (k t : Nat) (all : Int32) (σc : ej_S), relC σc σr → rAli (gA σc 24) (Xs σr h t) → bS all h → (∀ b, bS all b → cl (sB σr (Xs σr h t)) h b) → 25 - t < k → t ≤ 25 → ∃ T σ', nn σr h T ∧ m5_findLinksBack_28 n k all (nI t) σc = some σ' ∧ fr [] [] [24] [] [] σc σ' ∧ rAli (gA σ' 24) (Xs σr h T) := by
  intro k
  induction k with
  | zero => intro t all σc _ _ _ _ h; omega
  | succ k ih =>
    intro t all σc hc hX h0 h1 hk ht
    rw [u_5_findLinksBack_28]
    rcases Nat.lt_or_ge 24 t with q | q
    · rw [L_24, ilt_t q (by omega)]
      refine ⟨t, σc, ?_, rfl, fr_rf, hX⟩
      obtain ⟨t0, t1, t2⟩ := nn_ex σr h
      have e := Xs_stay t2 (t - t0)
      rw [show t0 + (t - t0) = t by omega] at e
      unfold nn at *
      rw [e]; exact t2
    · rw [L_24, ilt_f q (by omega)]
      have g := relG_X hw hc hX
      obtain ⟨al, e1, p1⟩ := x_spread (n := n) hn g (by rw [NN_sB]; exact hh) h0 h1
      rw [e1, ej_bi_s]
      obtain ⟨g', σ', e2, f2, r1, r2⟩ := x_flb_46 (R := al) (y := t) (σr := σr) hn hw (m5_findLinksBack_28 n k) n 0 false σc hc (by omega) (by omega)
      have e2' : m5_findLinksBack_46 n (m5_findLinksBack_28 n k) n al (nI t) 0 0 σc = (if g' = false then some σ' else m5_findLinksBack_28 n k al (nI (t + 1)) σ') := e2
      rw [e2']
      have hf : ∀ b, b < 24 → (bt al b = false ↔ ¬ cl (sB σr (Xs σr h t)) h b) := by
        intro b hb
        rw [← p1 b hb]; cases bt al b <;> simp
      have hX' : rAli (gA σ' 24) (Xs σr h (t + 1)) := by
        intro a b ha hb
        rw [r1 a b ha hb, hX a b ha hb, hf b hb, p1 a ha]
        by_cases w : nw (sB σr (Xs σr h t)) h a b
        · have : Xs σr h (t + 1) (24 * a + b) = nI 1 := nx_new w
          rw [this]
          refine ⟨fun _ => n10, fun _ => .inr ⟨Nat.zero_le _, w.2.2.1, w.2.2.2.1, ?_⟩⟩
          have := w.2.2.2.2
          rwa [sB_A _ _ (by omega)] at this
        · have : Xs σr h (t + 1) (24 * a + b) = Xs σr h t (24 * a + b) := nx_ab ha hb w
          rw [this]
          refine ⟨fun z => ?_, .inl⟩
          rcases z with z | ⟨_, z1, z2, z3⟩
          · exact z
          · exact absurd ⟨ha, hb, z1, z2, by rw [sB_A _ _ (by omega)]; exact z3⟩ w
      cases g'
      · rw [if_pos rfl]
        have hnn : nn σr h t := by
          intro a b w
          have := (r2 rfl).2 a b (Nat.zero_le _) w.1 w.2.1 ((hf b w.2.1).mpr w.2.2.1) ((p1 a w.1).mpr w.2.2.2.1)
          have w5 := w.2.2.2.2
          rw [sB_A _ _ (by omega)] at w5
          exact w5 this
        refine ⟨t, σ', hnn, rfl, f2, ?_⟩
        rw [← Xs_stop hnn]; exact hX'
      · rw [if_neg (by decide)]
        have hgr : ∀ b, cl (sB σr (Xs σr h t)) h b → cl (sB σr (Xs σr h (t + 1))) h b := fun b => cl_grow (fun i => Xs_grow t)
        obtain ⟨T, σ2, z1, z2, z3, z4⟩ := ih (t + 1) al σ' (relC_24 hc f2) hX' ⟨h0.1, (p1 h h0.1).mpr (cl_h _ _)⟩ (fun b hb => hgr b ((p1 b hb.1).mp hb.2)) (by omega) (by omega)
        exact ⟨T, σ2, z1, z2, fr_tr f2 z3, z4⟩
theorem x_flb_2 {v : Int32} : ∀ (k j : Nat) (σ : ej_S), 24 - j < k → j ≤ 24 → ∃ σ', m5_findLinksBack_2 n k v (nI j) σ = ej_bi (m10_setOf n v σ') (fun r s => m5_findLinksBack_28 n n r (nI 0) s) ∧ fr [] [] [24] [] [] σ σ' ∧ (∀ x, j ≤ x → x < 24 → gA σ' 24 x = nI 0) ∧ (∀ x, x < j → gA σ' 24 x = gA σ 24 x) := by
  intro k
  induction k with
  | zero => intro j σ h; omega
  | succ k ih =>
    intro j σ hk hj
    rw [u_5_findLinksBack_2]
    rcases Nat.lt_or_ge j 24 with q | q
    · rw [L_24, ile_f q (by omega)]
      simp (disch := omega) only [ck_t, nI_clamp, ej_bi_s, ej_bl_s, ej_bv_s, ej_nm_e, L_0, L_1, nI_add]
      obtain ⟨σ', e1, f1, p1, p2⟩ := ih (j + 1) (uA σ 24 j (nI 0)) (by omega) q
      refine ⟨σ', e1, fr_tr (fr_uA fr_rf (by simp)) f1, fun x h1 h2 => ?_, fun x h1 => ?_⟩
      · rcases Nat.eq_or_lt_of_le h1 with z | z
        · subst z; rw [p2 j (by omega), s_AA_s, pk_us]
        · exact p1 x z h2
      · rw [p2 x (by omega), s_AA_s, pk_un (by omega)]
    · rw [L_24, ile_t q (by omega), L_0]
      exact ⟨σ, rfl, fr_rf, fun x h1 h2 => by omega, fun x _ => rfl⟩
/-- all links back of a home -/
theorem x_findLinksBack {h : Nat} (hn : 2000 < n) (hw : wfR σr) (hc : relC σc σr) (hh : h < NN σr) : ∃ T σ', nn σr h T ∧ m5_findLinksBack n (nI h) σc = some σ' ∧ fr [] [] [24] [] [] σc σ' ∧ rAli (gA σ' 24) (Xs σr h T) := by
  have h24 := NN_le hw
  obtain ⟨σ1, e1, f1, p1, _⟩ := x_flb_2 (n := n) (v := nI h) n 0 σc (by omega) (by omega)
  unfold m5_findLinksBack
  rw [L_0, e1, x_setOf (by omega), ej_bi_s]
  have hX : rAli (gA σ1 24) (Xs σr h 0) := by
    intro a b ha hb
    rw [p1 a (Nat.zero_le _) ha, show bt (nI 0) b = false from b_0 b]
    exact ⟨fun z => (by cases z), fun z => absurd rfl z⟩
  have hb : ∀ b, bS (stb h) b ↔ b = h := by
    intro b
    unfold bS
    constructor
    · rintro ⟨z1, z2⟩
      rw [bt_stb (by omega) (by omega), decide_eq_true_eq] at z2; exact z2
    · intro z; subst z
      exact ⟨by omega, by rw [bt_stb (by omega) (by omega)]; simp⟩
  obtain ⟨T, σ', z1, z2, z3, z4⟩ := x_flb_28 (n := n) (h := h) hn hw hh n 0 (stb h) σ1 (relC_24 hc f1) hX ((hb h).mpr rfl) (fun b z => by rw [(hb b).mp z]; exact cl_h _ _) (by omega) (by omega)
  exact ⟨T, σ', z1, z2, fr_tr f1 z3, z4⟩
theorem x_flb_28m (hn : 2000 < n) (hw : wfR σr) : ∀ (k t : Nat) (all : Int32) (σc : ej_S), relC σc σr → rAli (gA σc 24) (fun _ => nI 0) → (∀ b, ¬ bS all b) → 25 - t < k → t ≤ 25 → ∃ σ', m5_findLinksBack_28 n k all (nI t) σc = some σ' ∧ fr [] [] [24] [] [] σc σ' ∧ rAli (gA σ' 24) (fun _ => nI 0) := by
  intro k
  induction k with
  | zero => intro t all σc _ _ _ h; omega
  | succ k ih =>
    intro t all σc hc hX h0 hk ht
    rw [u_5_findLinksBack_28]
    rcases Nat.lt_or_ge 24 t with q | q
    · rw [L_24, ilt_t q (by omega)]
      exact ⟨σc, rfl, fr_rf, hX⟩
    · rw [L_24, ilt_f q (by omega)]
      have g : relG σc (sB σr (Xs σr 0 0)) := relG_X hw hc hX
      obtain ⟨al, e1, p1, p2, p3⟩ := x_spread_4 (n := n) hn g n 0 all (by omega) (by omega) (fun b hb => absurd hb (h0 b)) (.inl (Nat.zero_le _))
      have no : ∀ b, ¬ bS al b := p2 (fun _ => False) (fun _ _ _ _ h _ => h) h0
      have e1' : m5_spread n all σc = some (al, σc) := by unfold m5_spread; rw [L_0]; exact e1
      rw [e1', ej_bi_s]
      obtain ⟨g', σ', e2, f2, r1, r2⟩ := x_flb_46 (R := al) (y := t) (σr := σr) hn hw (m5_findLinksBack_28 n k) n 0 false σc hc (by omega) (by omega)
      have e2' : m5_findLinksBack_46 n (m5_findLinksBack_28 n k) n al (nI t) 0 0 σc = (if g' = false then some σ' else m5_findLinksBack_28 n k al (nI (t + 1)) σ') := e2
      rw [e2']
      have hX' : rAli (gA σ' 24) (fun _ => nI 0) := by
        intro a b ha hb
        rw [r1 a b ha hb, hX a b ha hb]
        exact ⟨fun z => (by rcases z with z | ⟨_, _, z, _⟩; exact z; exact absurd ⟨ha, z⟩ (no a)), .inl⟩
      cases g'
      · rw [if_pos rfl]; exact ⟨σ', rfl, f2, hX'⟩
      · rw [if_neg (by decide)]
        obtain ⟨σ2, z2, z3, z4⟩ := ih (t + 1) al σ' (relC_24 hc f2) hX' no (by omega) (by omega)
        exact ⟨σ2, z2, fr_tr f2 z3, z4⟩
/-- without a home -/
theorem x_findLinksBack_m (hn : 2000 < n) (hw : wfR σr) (hc : relC σc σr) : ∃ σ', m5_findLinksBack n zm σc = some σ' ∧ fr [] [] [24] [] [] σc σ' ∧ rAli (gA σ' 24) (fun _ => nI 0) := by
  obtain ⟨σ1, e1, f1, p1, _⟩ := x_flb_2 (n := n) (v := zm) n 0 σc (by omega) (by omega)
  unfold m5_findLinksBack
  rw [L_0, e1, x_setOf_m, ej_bi_s]
  have hz : ∀ b, bt (nI 0) b = false := fun b => b_0 b
  have hX : rAli (gA σ1 24) (fun _ => nI 0) := by
    intro a b ha hb
    rw [p1 a (Nat.zero_le _) ha, hz b]
    exact ⟨fun z => (by cases z), fun z => absurd rfl z⟩
  obtain ⟨σ', z2, z3, z4⟩ := x_flb_28m (n := n) hn hw n 0 (nI 0) σ1 (relC_24 hc f1) hX (fun b z => by have := z.2; rw [hz b] at this; cases this) (by omega) (by omega)
  exact ⟨σ', z2, fr_tr f1 z3, z4⟩
end P78
