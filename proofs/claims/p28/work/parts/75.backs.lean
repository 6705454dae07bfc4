/-! LINKS BACK, of a map alone -/
def sB (σ : ej_S) (X : Nat → Int32) : ej_S := (σ.1, σ.2.1, va_up σ.2.2.1 21 X, σ.2.2.2)
theorem sB_21 (σ : ej_S) (X : Nat → Int32) : gA (sB σ X) 21 = X := by
  show va_up σ.2.2.1 21 X 21 = X
  exact if_pos rfl
theorem sB_A (σ : ej_S) (X : Nat → Int32) {j : Nat} (h : j ≠ 21) : gA (sB σ X) j = gA σ j := if_neg h
theorem sB_B (σ : ej_S) (X : Nat → Int32) (j : Nat) : gB (sB σ X) j = gB σ j := congrFun (Eq.refl σ.2.2.2.1) j
theorem sB_I (σ : ej_S) (X : Nat → Int32) (j : Nat) : gI (sB σ X) j = gI σ j := congrFun (Eq.refl σ.1) j
def stp (σ : ej_S) (a b : Nat) : Prop := ∃ k, 1 ≤ k ∧ k ≤ 5 ∧ scost σ a b k ≠ none
def clo (σ : ej_S) (S : Nat → Prop) : Prop := ∀ a b, a < 24 → b < 24 → S a → stp σ a b → S b
def cl (σ : ej_S) (h x : Nat) : Prop := ∀ S : Nat → Prop, S h → clo σ S → S x
/-- what gets a link back, from a to b -/
def nw (σ : ej_S) (h a b : Nat) : Prop := a < 24 ∧ b < 24 ∧ ¬ cl σ h b ∧ cl σ h a ∧ gA σ 16 (24 * b + a) ≠ zm
noncomputable def nx (σ : ej_S) (h : Nat) (X : Nat → Int32) : Nat → Int32 := fun i => @ite _ (∃ a b, i = 24 * a + b ∧ nw (sB σ X) h a b) (Classical.propDecidable _) (nI 1) (X i)
noncomputable def Xs (σ : ej_S) (h : Nat) : Nat → Nat → Int32
  | 0 => fun _ => nI 0
  | t + 1 => nx σ h (Xs σ h t)
def nn (σ : ej_S) (h t : Nat) : Prop := ∀ a b, ¬ nw (sB σ (Xs σ h t)) h a b
theorem cl_h (σ : ej_S) (h : Nat) : cl σ h h := fun _ hS _ => hS
theorem cl_st {σ : ej_S} {h a b : Nat} (ha : a < 24) (hb : b < 24) (hc : cl σ h a) (s : stp σ a b) : cl σ h b := fun S hS hC => hC a b ha hb (hc S hS hC) s
theorem cl_clo (σ : ej_S) (h : Nat) : clo σ (cl σ h) := fun _ _ ha hb hc s => cl_st ha hb hc s
/-- steps depend on the map alone -/
theorem scost_cg {σ s : ej_S} {a b k : Nat} (h19 : gA s 19 (24 * a + b) = nI 0 ↔ gA σ 19 (24 * a + b) = nI 0) (h16 : gA s 16 = gA σ 16) (h18 : gA s 18 (24 * a + b) = nI 0 ↔ gA σ 18 (24 * a + b) = nI 0) (h14 : gA s 14 a = nI 0 ↔ gA σ 14 a = nI 0) (h20 : gA s 20 = gA σ 20) (h15 : gA s 15 b = nI 0 ↔ gA σ 15 b = nI 0) (hB : gB s 1 b = gB σ 1 b) (h21 : gA s 21 (24 * a + b) = nI 0 ↔ gA σ 21 (24 * a + b) = nI 0) : scost s a b k = scost σ a b k := by
  unfold scost
  rw [h16, h20, hB]
  simp only [h19, h18, h14, h15, h21]
theorem stp_cg {σ s : ej_S} {a b : Nat} (h : ∀ k, 1 ≤ k → k ≤ 5 → scost s a b k = scost σ a b k) : stp s a b ↔ stp σ a b := by
  unfold stp
  constructor
  · rintro ⟨k, h1, h2, h3⟩; exact ⟨k, h1, h2, by rw [← h k h1 h2]; exact h3⟩
  · rintro ⟨k, h1, h2, h3⟩; exact ⟨k, h1, h2, by rw [h k h1 h2]; exact h3⟩
theorem clo_cg {σ s : ej_S} (h : ∀ a b, a < 24 → b < 24 → (stp s a b ↔ stp σ a b)) (S : Nat → Prop) : clo s S ↔ clo σ S := by
  unfold clo
  constructor
  · intro g a b ha hb h1 h2; exact g a b ha hb h1 ((h a b ha hb).mpr h2)
  · intro g a b ha hb h1 h2; exact g a b ha hb h1 ((h a b ha hb).mp h2)
theorem cl_cg {σ s : ej_S} (g : ∀ a b, a < 24 → b < 24 → (stp s a b ↔ stp σ a b)) (h x : Nat) : cl s h x ↔ cl σ h x := by
  unfold cl
  constructor
  · intro q S h1 h2; exact q S h1 ((clo_cg g S).mpr h2)
  · intro q S h1 h2; exact q S h1 ((clo_cg g S).mp h2)
/-- two states with one map; the links back apart -/
def mq (σ s : ej_S) : Prop := gA s 16 = gA σ 16 ∧ gA s 19 = gA σ 19 ∧ gA s 20 = gA σ 20 ∧ gB s 1 = gB σ 1 ∧ (∀ i, gA s 14 i = nI 0 ↔ gA σ 14 i = nI 0) ∧ (∀ i, gA s 15 i = nI 0 ↔ gA σ 15 i = nI 0) ∧ (∀ i, gA s 18 i = nI 0 ↔ gA σ 18 i = nI 0)
theorem mq_ms {σ s : ej_S} (h : ms σ s) : mq σ s := by
  obtain ⟨a1, a2, a3, a4, a5, a6, a7, a8, a9, a10, a11, a12, a13⟩ := h
  exact ⟨a7, a9, a10, a3, a11, a12, a13⟩
theorem scost_mq {σ s : ej_S} (h : mq σ s) {a b k : Nat} (h21 : gA s 21 (24 * a + b) = nI 0 ↔ gA σ 21 (24 * a + b) = nI 0) : scost s a b k = scost σ a b k := by
  obtain ⟨a1, a2, a3, a4, a5, a6, a7⟩ := h
  exact scost_cg (by rw [a2]) a1 (a7 _) (a5 _) a3 (a6 _) (by rw [a4]) h21
theorem mq_sB {σ s : ej_S} (h : mq σ s) (X Y : Nat → Int32) : mq (sB σ X) (sB s Y) := by
  obtain ⟨a1, a2, a3, a4, a5, a6, a7⟩ := h
  unfold mq
  simp (disch := omega) only [sB_A, sB_B]
  exact ⟨a1, a2, a3, a4, a5, a6, a7⟩
theorem nx_mq {σ s : ej_S} (hm : mq σ s) (h : Nat) (X : Nat → Int32) : nx s h X = nx σ h X := by
  have e : ∀ a b, nw (sB s X) h a b ↔ nw (sB σ X) h a b := by
    intro a b
    have g : ∀ a b, a < 24 → b < 24 → (stp (sB s X) a b ↔ stp (sB σ X) a b) := fun a b _ _ => stp_cg (fun k _ _ => scost_mq (mq_sB hm X X) (by rw [sB_21, sB_21]))
    unfold nw
    rw [cl_cg g, cl_cg g, sB_A _ _ (by omega), sB_A _ _ (by omega), hm.1]
  funext i
  unfold nx
  have e2 : (∃ a b, i = 24 * a + b ∧ nw (sB s X) h a b) = (∃ a b, i = 24 * a + b ∧ nw (sB σ X) h a b) := propext ⟨fun ⟨a, b, h1, h2⟩ => ⟨a, b, h1, (e a b).mp h2⟩, fun ⟨a, b, h1, h2⟩ => ⟨a, b, h1, (e a b).mpr h2⟩⟩
  rw [e2]
theorem Xs_mq {σ s : ej_S} (hm : mq σ s) (h : Nat) : ∀ t, Xs s h t = Xs σ h t
  | 0 => rfl
  | t + 1 => by
    show nx s h (Xs s h t) = nx σ h (Xs σ h t)
    rw [Xs_mq hm h t, nx_mq hm]
theorem nn_mq {σ s : ej_S} (hm : mq σ s) {h t : Nat} : nn s h t ↔ nn σ h t := by
  unfold nn
  rw [Xs_mq hm]
  have e : ∀ a b, nw (sB s (Xs σ h t)) h a b ↔ nw (sB σ (Xs σ h t)) h a b := by
    intro a b
    have g : ∀ a b, a < 24 → b < 24 → (stp (sB s (Xs σ h t)) a b ↔ stp (sB σ (Xs σ h t)) a b) := fun a b _ _ => stp_cg (fun k _ _ => scost_mq (mq_sB hm _ _) (by rw [sB_21, sB_21]))
    unfold nw
    rw [cl_cg g, cl_cg g, sB_A _ _ (by omega), sB_A _ _ (by omega), hm.1]
  constructor
  · intro q a b z; exact q a b ((e a b).mpr z)
  · intro q a b z; exact q a b ((e a b).mp z)
theorem nx_new {σ : ej_S} {h : Nat} {X : Nat → Int32} {a b : Nat} (q : nw (sB σ X) h a b) : nx σ h X (24 * a + b) = nI 1 := by
  unfold nx; exact if_pos ⟨a, b, rfl, q⟩
theorem nx_old {σ : ej_S} {h : Nat} {X : Nat → Int32} {i : Nat} (q : ¬ ∃ a b, i = 24 * a + b ∧ nw (sB σ X) h a b) : nx σ h X i = X i := by
  unfold nx; exact if_neg q
theorem nx_ab {σ : ej_S} {h : Nat} {X : Nat → Int32} {a b : Nat} (ha : a < 24) (hb : b < 24) (q : ¬ nw (sB σ X) h a b) : nx σ h X (24 * a + b) = X (24 * a + b) := by
  refine nx_old ?_
  rintro ⟨a', b', h1, h2⟩
  have := (idx hb h2.2.1).mp h1
  rw [this.1, this.2] at q; exact q h2
theorem Xs_stop {σ : ej_S} {h t : Nat} (q : nn σ h t) : Xs σ h (t + 1) = Xs σ h t := by
  funext i
  exact nx_old (fun ⟨a, b, _, h2⟩ => q a b h2)
theorem Xs_stay {σ : ej_S} {h t : Nat} (q : nn σ h t) : ∀ j, Xs σ h (t + j) = Xs σ h t
  | 0 => rfl
  | j + 1 => by
    have e := Xs_stay q j
    have q2 : nn σ h (t + j) := by unfold nn at *; rw [e]; exact q
    have := Xs_stop q2
    exact this.trans e
theorem Xs_one {σ : ej_S} {h s t : Nat} (q : nn σ h s) (q' : nn σ h t) : Xs σ h s = Xs σ h t := by
  rcases Nat.le_total s t with z | z
  · have := Xs_stay q (t - s)
    rw [show s + (t - s) = t by omega] at this
    exact this.symm
  · have := Xs_stay q' (s - t)
    rw [show t + (s - t) = s by omega] at this
    exact this
theorem Xs_grow {σ : ej_S} {h : Nat} (t : Nat) {i : Nat} (q : Xs σ h t i ≠ nI 0) : Xs σ h (t + 1) i ≠ nI 0 := by
  show nx σ h (Xs σ h t) i ≠ nI 0
  by_cases e : ∃ a b, i = 24 * a + b ∧ nw (sB σ (Xs σ h t)) h a b
  · obtain ⟨a, b, h1, h2⟩ := e
    rw [h1, nx_new h2]; exact n10
  · rw [nx_old e]; exact q
theorem stp_grow {σ : ej_S} {X Y : Nat → Int32} (g : ∀ i, X i ≠ nI 0 → Y i ≠ nI 0) {a b : Nat} (s : stp (sB σ X) a b) : stp (sB σ Y) a b := by
  obtain ⟨k, h1, h2, h3⟩ := s
  refine ⟨k, h1, h2, ?_⟩
  by_cases k5 : k = 5
  · subst k5
    rw [sc5] at *
    rw [sB_21] at *
    intro z
    by_cases q : X (24 * a + b) = nI 0
    · rw [if_pos q] at h3; exact h3 rfl
    · rw [if_neg (g _ q)] at z; cases z
  · have e : scost (sB σ Y) a b k = scost (sB σ X) a b k := by
      have hk : k = 1 ∨ k = 2 ∨ k = 3 ∨ k = 4 := by omega
      rcases hk with rfl | rfl | rfl | rfl
      · rw [sc1, sc1]; simp (disch := omega) only [sB_A]
      · rw [sc2, sc2]; simp (disch := omega) only [sB_A]
      · rw [sc3, sc3]; simp (disch := omega) only [sB_A, sB_B]
      · rw [sc4, sc4]; simp (disch := omega) only [sB_A]
    rw [e]; exact h3
theorem cl_grow {σ : ej_S} {X Y : Nat → Int32} (g : ∀ i, X i ≠ nI 0 → Y i ≠ nI 0) {h x : Nat} (q : cl (sB σ X) h x) : cl (sB σ Y) h x := by
  intro S hS hC
  exact q S hS (fun a b ha hb h1 h2 => hC a b ha hb h1 (stp_grow g h2))
/-- a count that grows -/
theorem ct_lt {p q : Nat → Bool} : ∀ {n : Nat} {i : Nat}, i < n → (∀ k, k < n → p k = true → q k = true) → p i = false → q i = true → fb_ct p n < fb_ct q n
  | 0, i, h, _, _, _ => absurd h (Nat.not_lt_zero i)
  | n + 1, i, h, hs, h1, h2 => by
    rw [fb_ct_succ, fb_ct_succ]
    rcases Nat.lt_or_ge i n with z | z
    · have := ct_lt z (fun k hk => hs k (by omega)) h1 h2
      have g := hs n (by omega)
      cases e : p n
      · cases q n <;> simp <;> omega
      · rw [g e]; simp; omega
    · have e : i = n := by omega
      subst e
      have := fb_ct_sub (n := i) (p := p) (q := q) (fun k hk => hs k (by omega))
      rw [h1, h2]; simp; omega
noncomputable def ctP (P : Nat → Prop) : Nat := fb_ct (fun i => @decide (P i) (Classical.propDecidable _)) 24
theorem ctP_lt {P Q : Nat → Prop} {i : Nat} (hi : i < 24) (hs : ∀ k, k < 24 → P k → Q k) (h1 : ¬ P i) (h2 : Q i) : ctP P < ctP Q := by
  unfold ctP
  refine ct_lt hi (fun k hk h => ?_) (by simp [h1]) (by simp [h2])
  simp only [decide_eq_true_eq] at *
  exact hs k hk h
theorem ctP_le (P : Nat → Prop) : ctP P ≤ 24 := fb_ct_le _ _
theorem nn_ex (σ : ej_S) (h : Nat) : ∃ t, t ≤ 24 ∧ nn σ h t := by
  refine Classical.byContradiction fun hno => ?_
  have key : ∀ t, t ≤ 25 → t ≤ ctP (cl (sB σ (Xs σ h t)) h) := by
    intro t
    induction t with
    | zero => intro _; exact Nat.zero_le _
    | succ t ih =>
      intro ht
      have h1 := ih (by omega)
      have h2 : ¬ nn σ h t := fun z => hno ⟨t, by omega, z⟩
      have h3 : ∃ a b, nw (sB σ (Xs σ h t)) h a b := Classical.byContradiction fun z => h2 (fun a b w => z ⟨a, b, w⟩)
      obtain ⟨a, b, q⟩ := h3
      have g : ∀ i, Xs σ h t i ≠ nI 0 → Xs σ h (t + 1) i ≠ nI 0 := fun i => Xs_grow t
      have hb : cl (sB σ (Xs σ h (t + 1))) h b := by
        refine cl_st q.1 q.2.1 (cl_grow g q.2.2.2.1) ⟨5, by omega, by omega, ?_⟩
        rw [sc5, sB_21]
        have : Xs σ h (t + 1) (24 * a + b) = nI 1 := nx_new q
        rw [this, if_neg n10]; simp
      have := ctP_lt (P := cl (sB σ (Xs σ h t)) h) (Q := cl (sB σ (Xs σ h (t + 1))) h) q.2.1 (fun k _ z => cl_grow g z) q.2.2.1 hb
      omega
  have := key 25 (Nat.le_refl _)
  have := ctP_le (cl (sB σ (Xs σ h 25)) h)
  omega
theorem bkOK_Xs (σ : ej_S) (h : Nat) : ∀ t, bkOK (sB σ (Xs σ h t))
  | 0 => fun a b _ _ z => absurd (by rw [sB_21]; rfl) z
  | t + 1 => by
    intro a b ha hb z
    rw [sB_21] at z
    rw [sB_A _ _ (by omega)]
    by_cases e : nw (sB σ (Xs σ h t)) h a b
    · have := e.2.2.2.2
      rwa [sB_A _ _ (by omega)] at this
    · have : Xs σ h (t + 1) (24 * a + b) = Xs σ h t (24 * a + b) := nx_ab ha hb e
      rw [this] at z
      have := bkOK_Xs σ h t a b ha hb (by rw [sB_21]; exact z)
      rwa [sB_A _ _ (by omega)] at this
