/-! LINKS BACK, BY THE LAW: sets of nodes, turn by turn -/
def clo4 (σ : ej_S) (S : Nat → Prop) : Prop := ∀ a b k, a < 24 → b < 24 → 1 ≤ k → k ≤ 4 → S a → scost σ a b k ≠ none → S b
/-- what is come to in turn t -/
def Ct (σ : ej_S) (h t : Nat) : Nat → Prop := cl (sB σ (Xs σ h t)) h
theorem sc_sB {σ : ej_S} {X : Nat → Int32} {a b k : Nat} (hk1 : 1 ≤ k) (hk4 : k ≤ 4) : scost (sB σ X) a b k = scost σ a b k := by
  unfold scost
  rw [sB_A σ X (show 19 ≠ 21 by omega), sB_A σ X (show 16 ≠ 21 by omega), sB_A σ X (show 18 ≠ 21 by omega), sB_A σ X (show 14 ≠ 21 by omega), sB_A σ X (show 20 ≠ 21 by omega), sB_A σ X (show 15 ≠ 21 by omega), sB_B]
  by_cases k1 : k = 1
  · rw [if_pos k1, if_pos k1]
  · rw [if_neg k1, if_neg k1]
    by_cases k2 : k = 2
    · rw [if_pos k2, if_pos k2]
    · rw [if_neg k2, if_neg k2]
      by_cases k3 : k = 3
      · rw [if_pos k3, if_pos k3]
      · rw [if_neg k3, if_neg k3, if_pos (show k = 4 by omega), if_pos (show k = 4 by omega)]
theorem sc5_sB {σ : ej_S} {X : Nat → Int32} {a b : Nat} : scost (sB σ X) a b 5 ≠ none ↔ X (24 * a + b) ≠ nI 0 := by
  rw [sc5, sB_21]
  by_cases z : X (24 * a + b) = nI 0
  · rw [if_pos z]; exact ⟨fun w => absurd rfl w, fun w => absurd z w⟩
  · rw [if_neg z]; exact ⟨fun _ => z, fun _ => by simp⟩
section P97j
variable {σ : ej_S} {h t a b k : Nat}
theorem Ct_h : Ct σ h t h := cl_h _ _
theorem Ct_clo4 : clo4 σ (Ct σ h t) := fun a b k ha hb k1 k4 hS hs => cl_st ha hb hS ⟨k, k1, by omega, by rw [sc_sB k1 k4]; exact hs⟩
/-- what has a link back is come to -/
theorem Xs_in : ∀ (t a b : Nat), a < 24 → b < 24 → Xs σ h t (24 * a + b) ≠ nI 0 → Ct σ h t b := by
  intro t
  induction t with
  | zero => intro a b _ _ z; exact absurd rfl z
  | succ t ih =>
    intro a b ha hb z
    have gr : ∀ x, Ct σ h t x → Ct σ h (t + 1) x := fun x q => cl_grow (fun i => Xs_grow t) q
    by_cases w : nw (sB σ (Xs σ h t)) h a b
    · refine cl_st ha hb (gr a w.2.2.2.1) ⟨5, by omega, by omega, sc5_sB.mpr z⟩
    · refine gr b (ih a b ha hb ?_)
      have e : Xs σ h (t + 1) (24 * a + b) = Xs σ h t (24 * a + b) := nx_ab ha hb w
      rw [← e]; exact z
theorem nw_iff (ha : a < 24) (hb : b < 24) : nw (sB σ (Xs σ h t)) h a b ↔ Ct σ h t a ∧ ¬ Ct σ h t b ∧ gA σ 16 (24 * b + a) ≠ zm := by
  unfold nw Ct
  rw [sB_A σ _ (show 16 ≠ 21 by omega)]
  exact ⟨fun z => ⟨z.2.2.2.1, z.2.2.1, z.2.2.2.2⟩, fun z => ⟨ha, hb, z.2.1, z.1, z.2.2⟩⟩
/-- the set of the next turn is the least that the law's set leads to -/
theorem Ct_next {Y : Nat → Prop} (hY : clo4 σ Y) (h1 : ∀ x, Ct σ h t x → Y x) (h2 : ∀ a b, a < 24 → b < 24 → nw (sB σ (Xs σ h t)) h a b → Y b) : ∀ x, Ct σ h (t + 1) x → Y x := by
  intro x hx
  refine hx Y (h1 h Ct_h) (fun a b ha hb hS hs => ?_)
  obtain ⟨k, k1, k5, hs⟩ := hs
  rcases Nat.lt_or_ge k 5 with q | q
  · rw [sc_sB k1 (by omega)] at hs
    exact hY a b k ha hb k1 (by omega) hS hs
  · have k5' : k = 5 := by omega
    subst k5'
    have z := sc5_sB.mp hs
    by_cases w : nw (sB σ (Xs σ h t)) h a b
    · exact h2 a b ha hb w
    · have e : Xs σ h (t + 1) (24 * a + b) = Xs σ h t (24 * a + b) := nx_ab ha hb w
      rw [e] at z
      exact h1 b (Xs_in t a b ha hb z)
theorem Ct_0 {Y : Nat → Prop} (hY : clo4 σ Y) (h1 : Y h) : ∀ x, Ct σ h 0 x → Y x := by
  intro x hx
  refine hx Y h1 (fun a b ha hb hS hs => ?_)
  obtain ⟨k, k1, k5, hs⟩ := hs
  rcases Nat.lt_or_ge k 5 with q | q
  · rw [sc_sB k1 (by omega)] at hs
    exact hY a b k ha hb k1 (by omega) hS hs
  · have k5' : k = 5 := by omega
    subst k5'
    exact absurd rfl (sc5_sB.mp hs)
theorem Ct_grow : ∀ x, Ct σ h t x → Ct σ h (t + 1) x := fun x q => cl_grow (fun i => Xs_grow t) q
theorem Ct_tgt (ha : a < 24) (hb : b < 24) (w : nw (sB σ (Xs σ h t)) h a b) : Ct σ h (t + 1) b := by
  refine cl_st ha hb (Ct_grow a w.2.2.2.1) ⟨5, by omega, by omega, sc5_sB.mpr ?_⟩
  show nx σ h (Xs σ h t) (24 * a + b) ≠ nI 0
  rw [nx_new w]
  exact n10
theorem Ct_lim (hw : wfR σ) (hh : h < NN σ) : ∀ x, Ct σ h t x → x < NN σ := by
  intro x hx
  have hbk := bkOK_Xs σ h t
  have := hx (fun x => x < NN (sB σ (Xs σ h t))) (by rw [NN_sB]; exact hh) (clo_NN (wfR_sB hw _) hbk)
  rw [NN_sB] at this
  exact this
/-- how many links back there are -/
def xb (X : Nat → Int32) (M y : Nat) : Bool := decide (X (24 * (y / M) + y % M) ≠ nI 0)
noncomputable def nb (σ : ej_S) (h t M y : Nat) : Bool := @decide (nw (sB σ (Xs σ h t)) h (y / M) (y % M)) (Classical.propDecidable _)
theorem nb_iff {M y : Nat} : nb σ h t M y = true ↔ nw (sB σ (Xs σ h t)) h (y / M) (y % M) := by unfold nb; exact @decide_eq_true_iff _ (Classical.propDecidable _)
theorem xb_next {M y : Nat} (hM : M ≤ 24) (hy : y < M * M) : xb (Xs σ h (t + 1)) M y = (xb (Xs σ h t) M y || nb σ h t M y) := by
  have h1 : y / M < M := Nat.div_lt_of_lt_mul hy
  have h2 : y % M < M := Nat.mod_lt _ (by rcases Nat.eq_zero_or_pos M with z | z
                                          · rw [z] at hy; omega
                                          · exact z)
  unfold xb
  show decide (nx σ h (Xs σ h t) _ ≠ nI 0) = _
  by_cases w : nw (sB σ (Xs σ h t)) h (y / M) (y % M)
  · rw [nx_new w, nb_iff.mpr w, Bool.or_true, decide_eq_true n10]
  · have : nb σ h t M y = false := by
      cases e : nb σ h t M y
      · rfl
      · exact absurd (nb_iff.mp e) w
    rw [nx_ab (show y / M < 24 by omega) (show y % M < 24 by omega) w, this, Bool.or_false]
theorem xb_count {M : Nat} (hM : M ≤ 24) : fb_ct (xb (Xs σ h (t + 1)) M) (M * M) = fb_ct (xb (Xs σ h t) M) (M * M) + fb_ct (nb σ h t M) (M * M) := by
  rw [fb_ct_cong (fun y hy => xb_next hM hy)]
  refine fb_ct_or (fun y hy z => ?_)
  have h1 : y / M < M := Nat.div_lt_of_lt_mul hy
  have h2 : y % M < M := Nat.mod_lt _ (by rcases Nat.eq_zero_or_pos M with z | z
                                          · rw [z] at hy; omega
                                          · exact z)
  have w := (nw_iff (show y / M < 24 by omega) (show y % M < 24 by omega)).mp (nb_iff.mp z.2)
  have q := of_decide_eq_true z.1
  exact w.2.1 (Xs_in t _ _ (by omega) (by omega) q)
theorem xb_zero {M : Nat} : ∀ n, fb_ct (xb (Xs σ h 0) M) n = 0 := fun n => fb_ct_zero.mpr fun y _ => decide_eq_false fun z => z rfl
/-- turns to the last one -/
theorem nn_up {T : Nat} (hT : nn σ h T) : ∀ j, nn σ h (T + j) := by
  intro j a b
  have e := Xs_stay hT j
  rw [e]
  exact hT a b
theorem Xs_keep {s T : Nat} (hst : s ≤ T) {i : Nat} (z : Xs σ h s i ≠ nI 0) : Xs σ h T i ≠ nI 0 := by
  obtain ⟨j, rfl⟩ : ∃ j, T = s + j := ⟨T - s, by omega⟩
  induction j with
  | zero => exact z
  | succ j ih => exact Xs_grow (s + j) (ih (by omega))
/-- what is reached at the end is what has a cost -/
theorem D_cl {D : Nat → Nat} {τ : ej_S} {T : Nat → Nat} {h0 h1 T0 : Nat} (hC : CX σ τ T h0 h1) (hw : wfR σ) (hs : SOL σ) (hX : WXX σ D) (hh : homeAt σ h) (h21 : ∀ a b, a < 24 → b < 24 → gA σ 21 (24 * a + b) = Xs σ h T0 (24 * a + b)) (hsol : sol (Ed σ) (4 * h) D) (ha : a < NN σ) : D (4 * a) < iF ↔ Ct σ h T0 a := by
  have h24 := NN_le hw
  have hbk := SOL_bk hs
  have hcr := CR_of hw hbk
  have eq5 : ∀ x y k, x < 24 → y < 24 → 1 ≤ k → k ≤ 5 → (scost (sB σ (Xs σ h T0)) x y k ≠ none ↔ scost σ x y k ≠ none) := by
    intro x y k hx hy k1 k5
    rcases Nat.lt_or_ge k 5 with q | q
    · rw [sc_sB k1 (by omega)]
    · have k5' : k = 5 := by omega
      subst k5'
      rw [sc5_sB, sc5, h21 x y hx hy]
      by_cases z : Xs σ h T0 (24 * x + y) = nI 0
      · rw [if_pos z]; exact ⟨fun w => absurd z w, fun w => absurd rfl w⟩
      · rw [if_neg z]; exact ⟨fun _ => by simp, fun _ => z⟩
  constructor
  · intro hf
    have := hsol.2.2.1 (4 * a) (by omega) hf (fun _ v => Ct σ h T0 (v / 4)) (by rw [show 4 * h / 4 = h by omega]; exact Ct_h) (fun d u k v w hu e => by
      obtain ⟨l1, l2, _⟩ := Ed_lim hcr e
      obtain ⟨_, _, k1, k5, q, e1, _⟩ := e
      exact cl_st (by omega) (by omega) hu ⟨k, k1, k5, (eq5 _ _ k (by omega) (by omega) k1 k5).mpr (by rw [e1]; simp)⟩)
    rw [show 4 * a / 4 = a by omega] at this
    exact this
  · intro hc
    have := hc (fun x => x < NN σ ∧ D (4 * x) < iF) ⟨hh.1, by rw [hsol.1]; rw [iF_e]; omega⟩ (fun x y hx hy hS hst => by
      obtain ⟨k, k1, k5, hs'⟩ := hst
      have hs2 := (eq5 x y k hx hy k1 k5).mp hs'
      cases hq : scost σ x y k with
      | none => exact absurd hq hs2
      | some q =>
        have lim := scost_lim hw hbk hx hy k1 k5 hq
        have rx := WXX_rx hC hX lim.1 lim.2.1 h24 k1 k5 hq hS.2
        have b1 := OKD_bd hX.1.2.1 (show 4 * x < 96 by omega) hS.2
        have b2 := scost_bd (CR_w hcr).1 (CR_w hcr).2 hx hy hq
        have := iF_e
        exact ⟨lim.2.1, by omega⟩)
    exact this.2
end P97j
