/-! THE CLASS: the ways found -/
def ctS (σ : ej_S) : Nat := fb_ct (fun v => decide (gA σ 29 v ≠ nI 0)) 96
/-- the nearest of the first j -/
def NB (σ : ej_S) (D : Nat → Nat) (x : Int32) (j : Nat) : Prop := (x = zm ∧ ∀ v, v < j → sd σ v ∨ D v = iF) ∨ ∃ u, u < j ∧ x = nI u ∧ ¬ sd σ u ∧ D u < iF ∧ ∀ v, v < j → ¬ sd σ v → D u ≤ D v
section P86
variable {n s : Nat} {σ σr : ej_S} {D : Nat → Nat}
theorem x_isShorter {a b : Nat} (hk : kC (gA σ 25) (gA σ 26) D) (ho : OKD D) (ha : a < 96) (hb : b < 96) (fa : D a < iF) (fb : D b < iF) : m9_isShorter n (nI a) (nI b) σ = some (bI (decide (D a < D b)), σ) := by
  have b1 := OKD_bd ho ha fa
  have b2 := OKD_bd ho hb fb
  unfold m9_isShorter
  rcases hk a ha with ⟨z, _⟩ | ⟨_, a2, a3⟩
  · omega
  rcases hk b hb with ⟨z, _⟩ | ⟨_, c2, c3⟩
  · omega
  have k1 : ∀ X : Option (Int32 × ej_S), ej_ck (nI a) 96 X = X := fun X => ck_t ha (by omega)
  have k2 : ∀ X : Option (Int32 × ej_S), ej_ck (nI b) 96 X = X := fun X => ck_t hb (by omega)
  have k3 : (nI a).toNatClampNeg = a := nI_clamp (by omega)
  have k4 : (nI b).toNatClampNeg = b := nI_clamp (by omega)
  simp only [k1, k2, k3, k4, a2, a3, c2, c3, L_0, L_1]
  by_cases q : D a / 1024 = D b / 1024
  · rw [ieq_t q]
    rcases Nat.lt_or_ge (D a % 1024) (D b % 1024) with z | z
    · rw [ile_f z (by omega), decide_eq_true (by omega)]; rfl
    · rw [ile_t z (by omega), decide_eq_false (by omega)]; rfl
  · rw [ieq_f q (by omega) (by omega)]
    rcases Nat.lt_or_ge (D a / 1024) (D b / 1024) with z | z
    · rw [ile_f z (by omega), decide_eq_true (by omega)]; rfl
    · rw [ile_t z (by omega), decide_eq_false (by omega)]; rfl
theorem x_nearest_4 (hk : kC (gA σ 25) (gA σ 26) D) (ho : OKD D) (hi : ∀ v, D v ≤ iF) : ∀ (k j : Nat) (x : Int32), NB σ D x j → j ≤ 96 → 96 - j < k → ∃ y, m9_nearestUnsettled_4 n k x (nI j) σ = some (y, σ) ∧ NB σ D y 96 := by
  intro k
  induction k with
  | zero => intro j x _ _ h; omega
  | succ k ih =>
    intro j x hN hj hlt
    rw [u_9_nearestUnsettled_4]
    rcases Nat.lt_or_ge j 96 with q | q
    · have k1 : ∀ X : Option (Int32 × ej_S), ej_ck (nI j) 96 X = X := fun X => ck_t q (by omega)
      have k3 : (nI j).toNatClampNeg = j := nI_clamp (by omega)
      rw [L_96, ile_f q (by omega)]
      simp only [k1, k3, L_0, ↓L_m1, L_1, nI_add, ej_nm_e]
      have keep : (sd σ j ∨ D j = iF) → NB σ D x (j + 1) := by
        intro z
        rcases hN with ⟨z1, z2⟩ | ⟨u, z1, z2, z3, z4, z5⟩
        · refine .inl ⟨z1, fun v hv => ?_⟩
          rcases Nat.eq_or_lt_of_le (show v ≤ j by omega) with w | w
          · rw [w]; exact z
          · exact z2 v w
        · refine .inr ⟨u, by omega, z2, z3, z4, fun v hv hs => ?_⟩
          rcases Nat.eq_or_lt_of_le (show v ≤ j by omega) with w | w
          · subst w
            rcases z with z | z
            · exact absurd z hs
            · rw [z]; omega
          · exact z5 v w hs
      by_cases g : gA σ 29 j = nI 0
      · have hs : ¬ sd σ j := fun z => z g
        rw [if_pos g]
        rcases hk j q with ⟨a1, a2⟩ | ⟨a1, a2, a3⟩
        · rw [if_pos a2]
          exact ih (j + 1) x (keep (.inr a1)) q (by omega)
        · have bj := OKD_bd ho q a1
          rw [a2, ieq_m (by omega)]
          rcases hN with ⟨z1, z2⟩ | ⟨u, z1, z2, z3, z4, z5⟩
          · rw [z1, if_pos rfl]
            refine ih (j + 1) (nI j) (.inr ⟨j, by omega, rfl, hs, a1, fun v hv hs' => ?_⟩) q (by omega)
            rcases Nat.eq_or_lt_of_le (show v ≤ j by omega) with w | w
            · rw [w]; exact Nat.le_refl _
            · rcases z2 v w with z | z
              · exact absurd z hs'
              · rw [z]; omega
          · rw [z2, ieq_m (by omega), x_isShorter hk ho q (by omega) a1 z4, ej_bi_s]
            rcases Nat.lt_or_ge (D j) (D u) with w | w
            · rw [decide_eq_true w, bI_t, if_neg n10]
              refine ih (j + 1) (nI j) (.inr ⟨j, by omega, rfl, hs, a1, fun v hv hs' => ?_⟩) q (by omega)
              rcases Nat.eq_or_lt_of_le (show v ≤ j by omega) with w' | w'
              · rw [w']; exact Nat.le_refl _
              · have := z5 v w' hs'; omega
            · rw [decide_eq_false (by omega), bI_f, if_pos rfl]
              refine ih (j + 1) (nI u) (.inr ⟨u, by omega, rfl, z3, z4, fun v hv hs' => ?_⟩) q (by omega)
              rcases Nat.eq_or_lt_of_le (show v ≤ j by omega) with w' | w'
              · rw [w']; exact w
              · exact z5 v w' hs'
      · rw [if_neg g]
        exact ih (j + 1) x (keep (.inl g)) q (by omega)
    · have e : j = 96 := by omega
      subst e
      rw [L_96, ile_t q (by omega)]
      exact ⟨x, rfl, hN⟩
theorem DI_end {E : Nat → Nat → Nat → Nat → Prop} (hE : eOK E) (h : DI E s σ D (fun u' _ _ => sd σ u')) (hall : ∀ v, v < 96 → sd σ v ∨ D v = iF) : wayR E s (gA σ 25) (gA σ 26) (gA σ 27) (gA σ 28) D := by
  obtain ⟨a1, a2, a3, a4, a5, a6, a7, a8, a9, a10⟩ := h
  have set : ∀ v, v < 96 → D v < iF → sd σ v := by
    intro v hv hf
    rcases hall v hv with z | z
    · exact z
    · omega
  refine ⟨⟨a4, a3, a5, fun u k v w e hu => (a6 u k v w e (set u (hE.1 u k v w e).1 hu)).2⟩, a2, a1, a9, fun v h1 h2 h3 => ?_⟩
  obtain ⟨u, k, b1, b2, b3, b4, b5, b6, b7⟩ := a10 v h1 h2 h3
  refine ⟨u, k, b1, b2, ⟨b4, fun u' k' w' e hw => b7 u' k' (set u' (hE.1 _ _ _ _ e).1 (by omega)) ⟨w', e, hw⟩⟩, b5, b6⟩
theorem x_find_106 (hn : 2000 < n) (hs4 : s / 4 < NN σr) : ∀ (kf t : Nat) (σ : ej_S) (D : Nat → Nat), relG σ σr → DI (Ed σr) s σ D (fun u' _ _ => sd σ u') → t ≤ ctS σ → t ≤ 96 → 96 - t < kf → ∃ σ' D', m9_find_106 n kf (nI t) σ = some σ' ∧ fr [] [] [25, 26, 27, 28, 29] [] [] σ σ' ∧ wayR (Ed σr) s (gA σ' 25) (gA σ' 26) (gA σ' 27) (gA σ' 28) D' := by
  intro kf
  induction kf with
  | zero => intro t σ D _ _ _ _ h; omega
  | succ kf ih =>
    intro t σ D hG hD hct ht hk
    have hE := eOK_Ed hG.1 hG.2.2.2
    rw [u_9_find_106]
    rcases Nat.lt_or_ge t 96 with q | q
    · rw [L_96, ile_f q (by omega)]
      obtain ⟨x, e1, hx⟩ := x_nearest_4 (n := n) hD.1 hD.2.1 hD.2.2.1 n 0 zm (.inl ⟨rfl, fun v hv => by omega⟩) (by omega) (by omega)
      have e1' : m9_nearestUnsettled n σ = some (x, σ) := by
        unfold m9_nearestUnsettled
        rw [L_m1, L_0]; exact e1
      rw [e1', ej_bi_s]
      rcases hx with ⟨z1, z2⟩ | ⟨u, z1, z2, z3, z4, z5⟩
      · rw [z1, L_0, if_pos (zm_lt (by omega))]
        exact ⟨σ, D, rfl, fr_rf, DI_end hE hD z2⟩
      · rw [z2, L_0, ilt_f (Nat.zero_le _) (by omega), ilt_t z1 (by omega), ck_t z1 (by omega), nI_clamp (by omega), L_1, bz_n1, ej_nm_e]
        obtain ⟨a1, a2, a3, a4, a5, a6, a7, a8, a9, a10⟩ := hD
        have hsd : ∀ y, sd (uA σ 29 u (nI 1)) y ↔ sd σ y ∨ y = u := by
          intro y
          unfold sd
          rw [s_AA_s]
          by_cases g : y = u
          · rw [g, pk_us]; exact ⟨fun _ => .inr rfl, fun _ => n10⟩
          · rw [pk_un g]
            exact ⟨.inl, fun z => by rcases z with z | z; exact z; exact absurd z g⟩
        have huN : u / 4 < NN σr := by
          rcases wk_last (a5 u z1 z4) with ⟨_, w⟩ | ⟨d', u0, k0, w0, _, e0, _⟩
          · rw [w]; exact hs4
          · exact (Ed_lim (CR_of hG.1 hG.2.2.2) e0).2.1
        have f1 : fr [] [] [25, 26, 27, 28, 29] [] [] σ (uA σ 29 u (nI 1)) := fr_uA fr_rf (by simp)
        have d1 : DI (Ed σr) s (uA σ 29 u (nI 1)) D (fun u' _ _ => sd (uA σ 29 u (nI 1)) u' ∧ u' ≠ u) := by
          have cv : ∀ u', sd (uA σ 29 u (nI 1)) u' ∧ u' ≠ u ↔ sd σ u' := by
            intro u'
            rw [hsd]
            constructor
            · rintro ⟨w | w, w2⟩
              · exact w
              · exact absurd w w2
            · intro w; exact ⟨.inl w, fun w2 => by subst w2; exact z3 w⟩
          refine ⟨by rw [s_AA_n (by omega), s_AA_n (by omega)]; exact a1, a2, a3, a4, a5, fun u' k' v' w' e' q' => ?_, fun u' v' h1 h2 h3 h4 => ?_, fun u' h1 h2 => ?_, by rw [s_AA_n (by omega), s_AA_n (by omega)]; exact a9, fun v' h1 h2 h3 => ?_⟩
          · exact ⟨q'.1, (a6 u' k' v' w' e' ((cv u').mp q')).2⟩
          · have h4' : ¬ sd σ v' := fun w => h4 ((hsd v').mpr (.inl w))
            rcases (hsd u').mp h3 with w | w
            · exact a7 u' v' h1 h2 w h4'
            · rw [w]; exact z5 v' h2 h4'
          · rcases (hsd u').mp h2 with w | w
            · exact a8 u' h1 w
            · rw [w]; exact z4
          · obtain ⟨u1, k1, b1, b2, b3, b4, b5, b6, b7⟩ := a10 v' h1 h2 h3
            rw [s_AA_n (by omega), s_AA_n (by omega)]
            exact ⟨u1, k1, b1, b2, (cv u1).mpr b3, b4, b5, b6, fun u' k' q' t' => b7 u' k' ((cv u').mp q') t'⟩
        have hmax : ∀ y, y < 96 → sd (uA σ 29 u (nI 1)) y → D y ≤ D u := by
          intro y hy hs
          rcases (hsd y).mp hs with w | w
          · exact a7 y u hy z1 w z3
          · rw [w]; exact Nat.le_refl _
        obtain ⟨σ2, D2, e2, f2, d2, m2⟩ := x_goOnFrom (n := n) (S := sd (uA σ 29 u (nI 1))) hn z1 huN ((hsd u).mpr (.inr rfl)) (relG_29 hG f1) rfl d1 hmax
        rw [e2, ej_bv_s, nI_add, ej_nm_e]
        have s2 := sd_28 f2
        have f2' : fr [] [] [25, 26, 27, 28, 29] [] [] (uA σ 29 u (nI 1)) σ2 := fr_wk f2 (by simp) (by simp) (by simp) (by simp) (by simp)
        have hct2 : t + 1 ≤ ctS σ2 := by
          have : ctS σ < ctS σ2 := by
            unfold ctS
            refine ct_lt z1 (fun y _ w => ?_) ?_ ?_
            · rw [decide_eq_true_eq] at *
              have : sd σ2 y := by rw [s2]; exact (hsd y).mpr (.inl w)
              exact this
            · rw [decide_eq_false_iff_not]; exact z3
            · rw [decide_eq_true_eq]
              have : sd σ2 u := by rw [s2]; exact (hsd u).mpr (.inr rfl)
              exact this
          omega
        obtain ⟨σ', D', r1, r2, r3⟩ := ih (t + 1) σ2 D2 (relG_29 hG (fr_tr f1 f2')) (by rw [s2]; exact d2) hct2 q (by omega)
        exact ⟨σ', D', r1, fr_tr f1 (fr_tr f2' r2), r3⟩
    · have e : t = 96 := by omega
      subst e
      rw [L_96, ile_t q (by omega)]
      refine ⟨σ, D, rfl, fr_rf, DI_end hE hD (fun v hv => .inl ?_)⟩
      have h96 : fb_ct (fun v => decide (gA σ 29 v ≠ nI 0)) 96 = 96 := Nat.le_antisymm (fb_ct_le _ _) hct
      have := fb_ct_all.mp h96 v hv
      rw [decide_eq_true_eq] at this; exact this
theorem x_homeNode {σc : ej_S} (hn : 2000 < n) (hw : wfR σr) (hc : relC σc σr) (hJ : gJ σc 0 = gJ σr 1) : (homeless σr ∧ m9_homeNode n σc = some (zm, σc)) ∨ ∃ h, homeAt σr h ∧ m9_homeNode n σc = some (nI h, σc) := by
  obtain ⟨N, h0, h1, h2⟩ := hw
  have hN := NN_eq h1 h0
  obtain ⟨c1, c2, c3, c4, _⟩ := hc
  unfold m9_homeNode homeless homeAt
  rw [hN] at *
  rw [L_m1]
  rcases x_find (n := n) (v := gJ σc 0) (o := zm) hn (by rw [c1, h1]) h0 with ⟨e1, e2⟩ | ⟨i, e1, e2, e3, e4⟩
  · rw [e1]
    exact .inl ⟨fun i hi z => e2 i hi ⟨by rw [c3 i hi, hJ]; exact z.1, by rw [c4 i hi]; exact z.2⟩, rfl⟩
  · rw [e4]
    exact .inr ⟨i, ⟨e1, by rw [← c3 i e1, ← hJ]; exact e2, by rw [← c4 i e1]; exact e3⟩, rfl⟩
/-- the ways of both -/
def wayRel (σc σr : ej_S) : Prop := rAli (gA σc 24) (gA σr 21) ∧ ∀ v, v < 96 → gA σc 25 v = gA σr 23 v ∧ (gA σr 23 v ≠ zm → gA σc 26 v = gA σr 24 v ∧ gA σc 27 v = gA σr 25 v ∧ gA σc 28 v = gA σr 26 v)
theorem SOL_bk (h : SOL σr) : bkOK σr := by
  rcases h with ⟨_, z, _⟩ | ⟨h, T, D, _, _, z, _⟩
  · intro a b ha hb g; exact absurd (z a b ha hb) g
  · intro a b ha hb g
    have := bkOK_Xs σr h T a b ha hb (by rw [sB_21, ← z a b ha hb]; exact g)
    rwa [sB_A _ _ (by omega)] at this
def cini (σ : ej_S) (x : Nat) : Prop := gA σ 25 x = zm ∧ gA σ 26 x = zm ∧ gA σ 29 x = nI 0
theorem x_find_15 : ∀ (k j : Nat) (σ : ej_S), j ≤ 96 → 96 - j < k → ∃ σ', m9_find_15 n k (nI j) σ = m9_find_15 n (k - (96 - j)) (nI 96) σ' ∧ 0 < k - (96 - j) ∧ fr [] [] [25, 26, 29] [] [] σ σ' ∧ (∀ x, j ≤ x → x < 96 → cini σ' x) ∧ ∀ x, x < j → (cini σ x → cini σ' x) := by
  intro k
  induction k with
  | zero => intro j σ _ h; omega
  | succ k ih =>
    intro j σ hj hk
    rcases Nat.lt_or_ge j 96 with q | q
    · rw [u_9_find_15, L_96, ile_f q (by omega)]
      simp (disch := omega) only [ck_t, nI_clamp, ej_bi_s, ej_bl_s, ej_bv_s, ej_nm_e, ↓L_m1, L_0, L_1, nI_add, bz_n0]
      have f0 : fr [] [] [25, 26, 29] [] [] σ (uA (uA (uA σ 25 j zm) 26 j zm) 29 j (nI 0)) := fr_uA (fr_uA (fr_uA fr_rf (by simp)) (by simp)) (by simp)
      have i0 : cini (uA (uA (uA σ 25 j zm) 26 j zm) 29 j (nI 0)) j := by
        unfold cini
        simp (disch := omega) only [s_IJ, s_IA, s_IB, s_IM, s_JI, s_JA, s_JB, s_JM, s_AI, s_AJ, s_AB, s_AM, s_BI, s_BJ, s_BA, s_BM, s_MI, s_MJ, s_MA, s_MB, s_II_s, s_II_n, s_JJ_s, s_JJ_n, s_AA_s, s_AA_n, s_BB_s, s_BB_n, s_MM_s, s_MM_n, pk_us, pk_un, pk_uLs, pk_uLn]
        simp only [and_self]
      have i1 : ∀ x, x ≠ j → cini σ x → cini (uA (uA (uA σ 25 j zm) 26 j zm) 29 j (nI 0)) x := by
        intro x hx h
        unfold cini at *
        simp (disch := omega) only [s_IJ, s_IA, s_IB, s_IM, s_JI, s_JA, s_JB, s_JM, s_AI, s_AJ, s_AB, s_AM, s_BI, s_BJ, s_BA, s_BM, s_MI, s_MJ, s_MA, s_MB, s_II_s, s_II_n, s_JJ_s, s_JJ_n, s_AA_s, s_AA_n, s_BB_s, s_BB_n, s_MM_s, s_MM_n, pk_us, pk_un, pk_uLs, pk_uLn]
        exact h
      obtain ⟨σ', e1, e2, f1, p1, p2⟩ := ih (j + 1) _ q (by omega)
      refine ⟨σ', ?_, by omega, fr_tr f0 f1, fun x h1 h2 => ?_, fun x h1 h => p2 x (by omega) (i1 x (by omega) h)⟩
      · rw [e1, show k - (96 - (j + 1)) = k + 1 - (96 - j) by omega]
      · rcases Nat.eq_or_lt_of_le h1 with z | z
        · subst z; exact p2 j (by omega) i0
        · exact p1 x z h2
    · have e : j = 96 := by omega
      subst e
      exact ⟨σ, rfl, by omega, fr_rf, fun x h1 h2 => by omega, fun x _ h => h⟩
theorem x_find0 {σc : ej_S} (hn : 2000 < n) (hw : wfR σr) (hc : relC σc σr) (hJ : gJ σc 0 = gJ σr 1) (hS : SOL σr) : ∃ σ', m9_find_15 n n (nI 0) σc = some σ' ∧ fr [] [] [24, 25, 26, 27, 28, 29] [] [] σc σ' ∧ wayRel σ' σr := by
  obtain ⟨σ1, e1, e1', f1, p1, _⟩ := x_find_15 (n := n) n 0 σc (by omega) (by omega)
  have c1 : relC σ1 σr := relC_fr hc f1 (by simp) (by simp) (by simp) (by simp) (by simp) (by simp) (by simp) (by simp) (by simp) (by simp) (by simp) (by simp) (by simp) (by simp) (by simp) (by simp)
  have hJ1 : gJ σ1 0 = gJ σr 1 := by rw [f1.2.1 0 (by simp)]; exact hJ
  have F1 : fr [] [] [24, 25, 26, 27, 28, 29] [] [] σc σ1 := fr_wk f1 (by simp) (by simp) (by simp) (by simp) (by simp)
  rw [e1]
  obtain ⟨m, hm⟩ : ∃ m, n - (96 - 0) = m + 1 := ⟨n - 97, by omega⟩
  rw [hm, u_9_find_15, L_96, ile_t (Nat.le_refl _) (by omega)]
  rcases x_homeNode (n := n) hn hw c1 hJ1 with ⟨g1, g2⟩ | ⟨h, g1, g2⟩
  · obtain ⟨σ2, e2, f2, r2⟩ := x_findLinksBack_m (n := n) hn hw c1
    rw [g2, ej_bi_s, e2, ej_bv_s, L_0, if_pos (zm_lt (by omega))]
    refine ⟨σ2, rfl, fr_tr F1 (fr_wk f2 (by simp) (by simp) (by simp) (by simp) (by simp)), ?_, fun v hv => ?_⟩
    · rcases hS with ⟨_, z, _⟩ | ⟨h, T, D, z, _⟩
      · intro a b ha hb
        rw [r2 a b ha hb, z a b ha hb]
      · exact absurd ⟨z.2.1, z.2.2⟩ (g1 h z.1)
    · rcases hS with ⟨_, _, z⟩ | ⟨h, T, D, z, _⟩
      · rw [f2.2.2.1 25 (by simp), (p1 v (Nat.zero_le _) hv).1, z v hv]
        exact ⟨rfl, fun w => absurd rfl w⟩
      · exact absurd ⟨z.2.1, z.2.2⟩ (g1 h z.1)
  · have h24 := NN_le hw
    have hh := g1.1
    rcases hS with ⟨z, _⟩ | ⟨h', T, D, z1, z2, z3, z4⟩
    · exact absurd ⟨g1.2.1, g1.2.2⟩ (z h g1.1)
    · have ehh : h' = h := by
        obtain ⟨N, h0, h1, h2, w1, w2, w3, _⟩ := hw
        have hN := NN_eq h1 h0
        have a1 := z1.1
        rw [hN] at a1 hh
        rcases Nat.lt_trichotomy h' h with q | q | q
        · exact absurd ⟨z1.2.1.trans g1.2.1.symm, z1.2.2.trans g1.2.2.symm⟩ (w3 h' h q hh)
        · exact q
        · exact absurd ⟨g1.2.1.trans z1.2.1.symm, g1.2.2.trans z1.2.2.symm⟩ (w3 h h' q a1)
      subst ehh
      obtain ⟨T2, σ2, y1, y2, f2, y3⟩ := x_findLinksBack (n := n) hn hw c1 hh
      rw [g2, ej_bi_s, y2, ej_bv_s, L_0, ilt_f (Nat.zero_le _) (by omega), L_24, ilt_t (show h' < 24 by omega) (by omega), L_4, pk_mul, ej_nm_e]
      have bk : bkOK σr := SOL_bk (.inr ⟨h', T, D, z1, z2, z3, z4⟩)
      have ali : rAli (gA σ2 24) (gA σr 21) := by
        intro a b ha hb
        rw [y3 a b ha hb, z3 a b ha hb, Xs_one y1 z2]
      have G2 : relG σ2 σr := ⟨hw, relC_24 c1 f2, ali, bk⟩
      have k1 : ∀ X : Option ej_S, ej_ck (nI (h' * 4)) 96 X = X := fun X => ck_t (by omega) (by omega)
      have k3 : (nI (h' * 4)).toNatClampNeg = h' * 4 := nI_clamp (by omega)
      simp only [k1, k3, ej_nm_e, L_m1]
      rw [Nat.mul_comm h' 4]
      have hi : ∀ v, v < 96 → cini σ2 v := by
        intro v hv
        have := p1 v (Nat.zero_le _) hv
        unfold cini at *
        rw [f2.2.2.1 25 (by simp), f2.2.2.1 26 (by simp), f2.2.2.1 29 (by simp)]; exact this
      have f3 : fr [] [] [25, 26, 27, 28, 29] [] [] σ2 (uA (uA (uA (uA σ2 25 (4 * h') (nI 0)) 26 (4 * h') (nI 0)) 27 (4 * h') zm) 28 (4 * h') (nI 0)) := fr_uA (fr_uA (fr_uA (fr_uA fr_rf (by simp)) (by simp)) (by simp)) (by simp)
      have nosd : ∀ v, v < 96 → ¬ sd (uA (uA (uA (uA σ2 25 (4 * h') (nI 0)) 26 (4 * h') (nI 0)) 27 (4 * h') zm) 28 (4 * h') (nI 0)) v := by
        intro v hv z
        unfold sd at z
        simp (disch := omega) only [s_AA_n] at z
        exact z (hi v hv).2.2
      have d3 : DI (Ed σr) (4 * h') (uA (uA (uA (uA σ2 25 (4 * h') (nI 0)) 26 (4 * h') (nI 0)) 27 (4 * h') zm) 28 (4 * h') (nI 0)) (D0 (4 * h')) (fun u' _ _ => sd (uA (uA (uA (uA σ2 25 (4 * h') (nI 0)) 26 (4 * h') (nI 0)) 27 (4 * h') zm) 28 (4 * h') (nI 0)) u') := by
        refine ⟨fun v hv => ?_, D0_ok, D0_i, D0_s, D0_wk, fun u k v w e q => absurd q (nosd u e.1), fun u v hu _ q => absurd q (nosd u hu), fun u hu q => absurd q (nosd u hu), ?_, fun v hv hs hf => ?_⟩
        · simp (disch := omega) only [s_AA_s, s_AA_n]
          by_cases q : v = 4 * h'
          · rw [q, pk_us, pk_us, D0_s]
            exact .inr ⟨by decide, rfl, rfl⟩
          · rw [pk_un q, D0_n q]
            exact .inl ⟨rfl, (hi v hv).1⟩
        · simp (disch := omega) only [s_AA_s, s_AA_n]
          exact ⟨pk_us, pk_us⟩
        · rw [D0_n hs] at hf; omega
      obtain ⟨σ4, D4, e4, f4, w4⟩ := x_find_106 (n := n) (s := 4 * h') hn (by rw [Nat.mul_div_cancel_left _ (by omega)]; exact hh) n 0 _ _ (relG_29 G2 f3) d3 (Nat.zero_le _) (by omega) (by omega)
      have f34 := fr_tr f3 f4
      refine ⟨σ4, e4, fr_tr F1 (fr_tr (fr_wk f2 (by simp) (by simp) (by simp) (by simp) (by simp)) (fr_wk f34 (by simp) (by simp) (by simp) (by simp) (by simp))), by rw [f34.2.2.1 24 (by simp)]; exact ali, fun v hv => ?_⟩
      obtain ⟨q1, q2⟩ := wayR_eq w4 z4 hv
      exact ⟨q1, fun w => q2 (by rw [q1]; exact w)⟩
end P86
