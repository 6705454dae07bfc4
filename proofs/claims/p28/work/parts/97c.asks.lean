/-! CALLS THAT ASK: their answers, read off a map that stays -/
section P97c0
variable {n : Nat} {σ σc σr σr' : ej_S} {g : Nat → Int64} {v : Int32}
theorem toI64_inj {a b : Int32} (h : a.toInt64 = b.toInt64) : a = b := by rw [← to64_32 a, h, to64_32]
theorem KI_x {w : Int32} {q : xw_S} : KI w q = some (nI 0, (q.1, q.2.1, vp_updL q.2.2 0 w.toInt64)) := by
  obtain ⟨a, b, c⟩ := q
  exact KI_e
/-- the class answers as the plain reading does -/
theorem ST_get {X : Option ((Int32 × ej_S) ⊕ (Nat × ej_S))} {Y : Option (Int32 × ej_S)} {H : Nat → xw_S → Option (Int32 × xw_S)} (h : STEP n σr (ej_bw (xw_lcx X (σc, σr, g)) KI H) Y) (hY : Y = some (v, σr')) (h19 : gI σr' 19 = nI 0) (hH : ∀ k s r q, H k s = some (r, q) → r ≠ nI 0) : ∃ σc', X = some (.inl (v, σc')) ∧ INV n σc' σr' := by
  obtain ⟨r2, σc', g', r4, s', e1, e2, e3, e4, e5⟩ := h
  rw [hY] at e2
  cases e2
  rw [h19] at e3
  subst e3
  cases X with
  | none => cases e1
  | some w =>
    cases w with
    | inl q =>
      obtain ⟨q1, q2⟩ := q
      have e6 : some (nI 0, (q2, σr, vp_updL g 0 q1.toInt64)) = some (nI 0, (σc', σr, g')) := e1
      cases e6
      have e7 : q1 = v := toI64_inj (by rw [← e4 rfl]; exact pk_uLs.symm)
      rw [e7]
      exact ⟨_, rfl, e5⟩
    | inr q => exact absurd rfl (hH _ _ _ _ e1)
theorem ST_exc {X : Option ((Int32 × ej_S) ⊕ (Nat × ej_S))} {Y : Option (Int32 × ej_S)} {H : Nat → xw_S → Option (Int32 × xw_S)} {c kk : Nat} (h : STEP n σr (ej_bw (xw_lcx X (σc, σr, g)) KI H) Y) (hY : Y = some (v, σr')) (h19 : gI σr' 19 = nI c) (hc : nI c ≠ nI 0) (hH : ∀ k s r q, H k s = some (r, q) → r = nI c → k = kk ∧ q = s) : ∃ σc', X = some (.inr (kk, σc')) ∧ INV n σc' σr' := by
  obtain ⟨r2, σc', g', r4, s', e1, e2, e3, e4, e5⟩ := h
  rw [hY] at e2
  cases e2
  rw [h19] at e3
  subst e3
  cases X with
  | none => cases e1
  | some w =>
    cases w with
    | inl q =>
      obtain ⟨q1, q2⟩ := q
      have e6 : some (nI 0, (q2, σr, vp_updL g 0 q1.toInt64)) = some (nI c, (σc', σr, g')) := e1
      exact absurd (congrArg (fun z : Option (Int32 × xw_S) => z.map Prod.fst) e6) (fun z => hc (Option.some.inj z).symm)
    | inr q =>
      obtain ⟨q1, q2⟩ := q
      obtain ⟨a, b⟩ := hH _ _ _ _ e1 rfl
      have a' : q1 = kk := a
      cases b
      exact ⟨q2, by rw [a'], e5⟩
theorem STB_get {X : Option ((Int32 × ej_S) ⊕ (Nat × ej_S))} {Y : Option (Int32 × ej_S)} {H : Nat → xw_S → Option (Int32 × xw_S)} (h : STEPB n σr (ej_bw (xw_lcx X (σc, σr, g)) KB H) Y) (hY : Y = some (v, σr')) (h19 : gI σr' 19 = nI 0) (hH : ∀ k s r q, H k s = some (r, q) → r ≠ nI 0) : ∃ w σc', X = some (.inl (w, σc')) ∧ INV n σc' σr' ∧ (w = nI 0 ↔ v = nI 0) := by
  obtain ⟨r2, σc', g', r4, s', e1, e2, e3, e4, e5⟩ := h
  rw [hY] at e2
  cases e2
  rw [h19] at e3
  subst e3
  cases X with
  | none => cases e1
  | some w =>
    cases w with
    | inl q =>
      obtain ⟨q1, q2⟩ := q
      by_cases z : q1 = nI 0
      · have e6 : KB q1 (q2, σr, g) = some (nI 0, (σc', σr, g')) := e1
        rw [z, ← bI_f, KB_e] at e6
        cases e6
        refine ⟨_, _, rfl, e5, fun _ => ?_, fun _ => z⟩
        have := e4 rfl
        rw [pk_uLs, if_neg (by decide)] at this
        by_cases y : v = nI 0
        · exact y
        · rw [if_neg y] at this
          exact absurd this (by decide +kernel)
      · have e6 : KB q1 (q2, σr, g) = some (nI 0, (σc', σr, g')) := e1
        unfold KB at e6
        rw [L_0, if_neg z, ck_t (by omega) (by omega), ej_nm_e, nI_clamp (by omega)] at e6
        cases e6
        refine ⟨_, _, rfl, e5, fun y => absurd y z, fun y => ?_⟩
        have := e4 rfl
        rw [pk_uLs, if_pos y] at this
        exact absurd this (by decide +kernel)
    | inr q => exact absurd rfl (hH _ _ _ _ e1)
theorem STB_exc {X : Option ((Int32 × ej_S) ⊕ (Nat × ej_S))} {Y : Option (Int32 × ej_S)} {H : Nat → xw_S → Option (Int32 × xw_S)} {c kk : Nat} (h : STEPB n σr (ej_bw (xw_lcx X (σc, σr, g)) KB H) Y) (hY : Y = some (v, σr')) (h19 : gI σr' 19 = nI c) (hc : nI c ≠ nI 0) (hH : ∀ k s r q, H k s = some (r, q) → r = nI c → k = kk ∧ q = s) : ∃ σc', X = some (.inr (kk, σc')) ∧ INV n σc' σr' := by
  obtain ⟨r2, σc', g', r4, s', e1, e2, e3, e4, e5⟩ := h
  rw [hY] at e2
  cases e2
  rw [h19] at e3
  subst e3
  cases X with
  | none => cases e1
  | some w =>
    cases w with
    | inl q =>
      obtain ⟨q1, q2⟩ := q
      have e6 : KB q1 (q2, σr, g) = some (nI c, (σc', σr, g')) := e1
      unfold KB at e6
      rw [L_0, ck_t (by omega) (by omega), ck_t (by omega) (by omega), ej_nm_e, ej_nm_e, nI_clamp (by omega)] at e6
      split at e6
      · exact absurd (congrArg (fun z : Option (Int32 × xw_S) => z.map Prod.fst) e6) (fun z => hc (Option.some.inj z).symm)
      · exact absurd (congrArg (fun z : Option (Int32 × xw_S) => z.map Prod.fst) e6) (fun z => hc (Option.some.inj z).symm)
    | inr q =>
      obtain ⟨q1, q2⟩ := q
      obtain ⟨a, b⟩ := hH _ _ _ _ e1 rfl
      have a' : q1 = kk := a
      cases b
      exact ⟨q2, by rw [a'], e5⟩
/-- what the callers make of an exception's number -/
theorem H1_n {k k1 c1 : Nat} {s q : xw_S} {r : Int32} (hc : nI c1 ≠ nI 0) (h : (if k = k1 then (fun s5 => (some (nI c1, s5))) s else none) = some (r, q)) : r ≠ nI 0 := by
  split at h
  · cases h; exact hc
  · cases h
theorem H1_e {k k1 c1 c : Nat} {s q : xw_S} {r : Int32} (h : (if k = k1 then (fun s5 => (some (nI c1, s5))) s else none) = some (r, q)) (_ : r = nI c) : k = k1 ∧ q = s := by
  split at h
  · cases h; exact ⟨by assumption, rfl⟩
  · cases h
theorem H2_n {k k1 k2 c1 c2 : Nat} {s q : xw_S} {r : Int32} (hc : nI c1 ≠ nI 0) (hc2 : nI c2 ≠ nI 0) (h : (if k = k1 then (fun s5 => (some (nI c1, s5))) s else if k = k2 then (fun s7 => (some (nI c2, s7))) s else none) = some (r, q)) : r ≠ nI 0 := by
  split at h
  · cases h; exact hc
  · split at h
    · cases h; exact hc2
    · cases h
theorem H2_1 {k k1 k2 c1 c2 : Nat} {s q : xw_S} {r : Int32} (hne : nI c2 ≠ nI c1) (h : (if k = k1 then (fun s5 => (some (nI c1, s5))) s else if k = k2 then (fun s7 => (some (nI c2, s7))) s else none) = some (r, q)) (e : r = nI c1) : k = k1 ∧ q = s := by
  split at h
  · cases h; exact ⟨by assumption, rfl⟩
  · split at h
    · cases h; exact absurd e hne
    · cases h
theorem H2_2 {k k1 k2 c1 c2 : Nat} {s q : xw_S} {r : Int32} (hne : nI c1 ≠ nI c2) (h : (if k = k1 then (fun s5 => (some (nI c1, s5))) s else if k = k2 then (fun s7 => (some (nI c2, s7))) s else none) = some (r, q)) (e : r = nI c2) : k = k2 ∧ q = s := by
  split at h
  · cases h; exact absurd e hne
  · split at h
    · cases h; exact ⟨by assumption, rfl⟩
    · cases h
abbrev H3 : Nat → xw_S → Option (Int32 × xw_S) := fun k sk => if k = 3 then (fun s5 => (some (1, s5))) sk else none
theorem ST_g3 {X : Option ((Int32 × ej_S) ⊕ (Nat × ej_S))} {Y : Option (Int32 × ej_S)} (h : STEP n σr (ej_bw (xw_lcx X (σc, σr, g)) KI H3) Y) (hY : Y = some (v, σr')) (h19 : gI σr' 19 = nI 0) : ∃ σc', X = some (.inl (v, σc')) ∧ INV n σc' σr' := ST_get h hY h19 (fun k s r q h => H1_n (k1 := 3) (c1 := 1) n10 h)
theorem STB_g3 {X : Option ((Int32 × ej_S) ⊕ (Nat × ej_S))} {Y : Option (Int32 × ej_S)} (h : STEPB n σr (ej_bw (xw_lcx X (σc, σr, g)) KB H3) Y) (hY : Y = some (v, σr')) (h19 : gI σr' 19 = nI 0) : ∃ w σc', X = some (.inl (w, σc')) ∧ INV n σc' σr' ∧ (w = nI 0 ↔ v = nI 0) := STB_get h hY h19 (fun k s r q h => H1_n (k1 := 3) (c1 := 1) n10 h)
theorem ST_e3 {X : Option ((Int32 × ej_S) ⊕ (Nat × ej_S))} {Y : Option (Int32 × ej_S)} (h : STEP n σr (ej_bw (xw_lcx X (σc, σr, g)) KI H3) Y) (hY : Y = some (v, σr')) (h19 : gI σr' 19 = nI 1) : ∃ σc', X = some (.inr (3, σc')) ∧ INV n σc' σr' := ST_exc h hY h19 n10 (fun k s r q h e => H1_e (k1 := 3) (c1 := 1) h e)
theorem STB_e3 {X : Option ((Int32 × ej_S) ⊕ (Nat × ej_S))} {Y : Option (Int32 × ej_S)} (h : STEPB n σr (ej_bw (xw_lcx X (σc, σr, g)) KB H3) Y) (hY : Y = some (v, σr')) (h19 : gI σr' 19 = nI 1) : ∃ σc', X = some (.inr (3, σc')) ∧ INV n σc' σr' := STB_exc h hY h19 n10 (fun k s r q h e => H1_e (k1 := 3) (c1 := 1) h e)
theorem k_kind (h : INV n σc σr) (x : Int32) : STEP n σr (ej_bw (xw_lcx (m10_kind n x σc) (σc, σr, fun _ => 0)) KI H3) (m11_kind n x σr) := c_kind (g := fun _ => 0) h x
theorem k_isPrivate (h : INV n σc σr) (x : Int32) : STEPB n σr (ej_bw (xw_lcx (m10_isPrivate n x σc) (σc, σr, fun _ => 0)) KB H3) (m11_isPrivate n x σr) := c_isPrivate (g := fun _ => 0) h x
theorem k_linkCost (h : INV n σc σr) (x y : Int32) : STEP n σr (ej_bw (xw_lcx (m10_linkCost n x y σc) (σc, σr, fun _ => 0)) KI H3) (m11_linkCost n x y σr) := c_linkCost (g := fun _ => 0) h x y
theorem k_memberCost (h : INV n σc σr) (x y : Int32) : STEP n σr (ej_bw (xw_lcx (m10_memberCost n x y σc) (σc, σr, fun _ => 0)) KI H3) (m11_memberCost n x y σr) := c_memberCost (g := fun _ => 0) h x y
theorem k_name (hn : 2000 < n) (h : INV n σc σr) (x : Int32) : STEP n σr (ej_bw (xw_lcx (m10_name n x σc) (σc, σr, fun _ => 0)) KI H3) (m11_name n x σr) := c_name (g := fun _ => 0) hn h x
theorem k_cost (hn : 2000 < n) (h : INV n σc σr) (x : Int32) : STEP n σr (ej_bw (xw_lcx (m10_cost n x σc) (σc, σr, fun _ => 0)) KI H3) (m11_cost n x σr) := c_cost (g := fun _ => 0) hn h x
theorem k_costByRounds (hn : 2000 < n) (h : INV n σc σr) (x : Int32) : STEP n σr (ej_bw (xw_lcx (m10_costByRounds n x σc) (σc, σr, fun _ => 0)) KI H3) (m11_costByRounds n x σr) := c_costByRounds (g := fun _ => 0) hn h x
theorem k_steps (hn : 2000 < n) (h : INV n σc σr) (x : Int32) : STEP n σr (ej_bw (xw_lcx (m10_steps n x σc) (σc, σr, fun _ => 0)) KI H3) (m11_steps n x σr) := c_steps (g := fun _ => 0) hn h x
theorem k_state (hn : 2000 < n) (h : INV n σc σr) (x : Int32) : STEP n σr (ej_bw (xw_lcx (m10_state n x σc) (σc, σr, fun _ => 0)) KI H3) (m11_state n x σr) := c_state (g := fun _ => 0) hn h x
theorem k_nodeAt (hn : 2000 < n) (h : INV n σc σr) (x y : Int32) : STEP n σr (ej_bw (xw_lcx (m10_nodeAt n x y σc) (σc, σr, fun _ => 0)) KI H3) (m11_nodeAt n x y σr) := c_nodeAt (g := fun _ => 0) hn h x y
theorem k_costAt (hn : 2000 < n) (h : INV n σc σr) (x y : Int32) : STEP n σr (ej_bw (xw_lcx (m10_costAt n x y σc) (σc, σr, fun _ => 0)) KI H3) (m11_costAt n x y σr) := c_costAt (g := fun _ => 0) hn h x y
theorem k_stepAt (hn : 2000 < n) (h : INV n σc σr) (x y : Int32) : STEP n σr (ej_bw (xw_lcx (m10_stepAt n x y σc) (σc, σr, fun _ => 0)) KI H3) (m11_stepAt n x y σr) := c_stepAt (g := fun _ => 0) hn h x y
theorem k_isBack (hn : 2000 < n) (h : INV n σc σr) (x y : Int32) : STEPB n σr (ej_bw (xw_lcx (m10_isBack n x y σc) (σc, σr, fun _ => 0)) KB H3) (m11_isBack n x y σr) := c_isBack (g := fun _ => 0) hn h x y
theorem k_print (hn : 2000 < n) (h : INV n σc σr) (x : Int32) : STEP n σr (ej_bw (xw_lcx (m10_print n x σc) (σc, σr, fun _ => 0)) KI H3) (m11_print n x σr) := c_print (g := fun _ => 0) hn h x
end P97c0
/-- the map and its ways stay -/
def QMP (σ s : ej_S) : Prop := ms σ s ∧ gJ s 1 = gJ σ 1 ∧ gI s 6 = gI σ 6 ∧ ∀ k, k ∈ [2, 21, 23, 24, 25, 26] → gA s k = gA σ k
theorem ms_sy {σ s : ej_S} (h : ms σ s) : ms s σ := by
  obtain ⟨h1, h2, h3, h4, h5, h6, h7, h8, h9, h10, h11, h12, h13⟩ := h
  exact ⟨h1.symm, h2.symm, h3.symm, h4.symm, h5.symm, h6.symm, h7.symm, h8.symm, h9.symm, h10.symm, fun i => (h11 i).symm, fun i => (h12 i).symm, fun i => (h13 i).symm⟩
theorem QMP_rf {σ : ej_S} : QMP σ σ := ⟨ms_rf, rfl, rfl, fun _ _ => rfl⟩
theorem QMP_sy {σ s : ej_S} (h : QMP σ s) : QMP s σ := ⟨ms_sy h.1, h.2.1.symm, h.2.2.1.symm, fun k hk => (h.2.2.2 k hk).symm⟩
theorem QMP_tr {σ s t : ej_S} (h : QMP σ s) (g : QMP s t) : QMP σ t := ⟨ms_tr h.1 g.1, g.2.1.trans h.2.1, g.2.2.1.trans h.2.2.1, fun k hk => (g.2.2.2 k hk).trans (h.2.2.2 k hk)⟩
theorem QMP_fr {σ s : ej_S} {I J A B M : List Nat} (f : fr I J A B M σ s) (hI : I.all (fun k => ![6, 15, 16].contains k) = true) (hJ : J.all (fun k => ![1].contains k) = true) (hA : A.all (fun k => ![2, 11, 12, 13, 14, 15, 16, 17, 18, 19, 20, 21, 23, 24, 25, 26].contains k) = true) (hB : B.all (fun k => ![1].contains k) = true) : QMP σ s := by
  have nA : ∀ k, k ∈ [2, 11, 12, 13, 14, 15, 16, 17, 18, 19, 20, 21, 23, 24, 25, 26] → k ∉ A := fun k hk => nin hA hk
  refine ⟨ms_fr f (nin hI (by simp)) (nin hI (by simp)) (nin hB (by simp)) (nA _ (by simp)) (nA _ (by simp)) (nA _ (by simp)) (nA _ (by simp)) (nA _ (by simp)) (nA _ (by simp)) (nA _ (by simp)) (nA _ (by simp)) (nA _ (by simp)) (nA _ (by simp)), f.2.1 1 (nin hJ (by simp)), f.1 6 (nin hI (by simp)), fun k hk => f.2.2.1 k (nA k ?_)⟩
  revert hk
  simp only [List.mem_cons, List.not_mem_nil, or_false]
  omega
theorem QMP_NN {σ s : ej_S} (h : QMP σ s) : NN s = NN σ := by unfold NN; rw [h.1.1]
/-- the class stands where the plain reading of these files does; the tape holds tp, the out ot -/
def IQ (n : Nat) (fs : Nat → List Nat) (σ0 : ej_S) (tp ot : List Nat) (c : ej_S) : Prop := ∃ σr, INV n c σr ∧ QMP σ0 σr ∧ (∀ f, f < 4 → RTX σr f (fs f)) ∧ RTX σr 4 tp ∧ RX σr ot
/-- no state but 0 is come to -/
def Z0 (D : Nat → Nat) : Prop := ∀ v, v < 96 → D v < iF → v % 4 = 0
def oc (D : Nat → Nat) (a : Nat) : Option Nat := if D (4 * a) < iF then some (D (4 * a) / 1024) else none
def os (D : Nat → Nat) (a : Nat) : Option Nat := if D (4 * a) < iF then some (D (4 * a) % 1024) else none
def ot0 (D : Nat → Nat) (a : Nat) : Option Nat := if D (4 * a) < iF then some 0 else none
section P97c
variable {n a b : Nat} {fs : Nat → List Nat} {σ σ0 σr σr' c c' τ : ej_S} {tp tp' ot : List Nat} {D : Nat → Nat} {v : Int32}
theorem IQ_mk {I J A B M : List Nat} (hI : INV n c' σr') (q : QMP σ0 σr) (f : fr I J A B M σr σr') (h : (I.all (fun k => ![6, 15, 16, 18].contains k) && J.all (fun k => ![1].contains k) && A.all (fun k => ![0, 1, 2, 11, 12, 13, 14, 15, 16, 17, 18, 19, 20, 21, 23, 24, 25, 26, 28].contains k) && B.all (fun k => ![1].contains k)) = true) (hf : ∀ f, f < 4 → RTX σr f (fs f)) (ht : RTX σr 4 tp) (hx : RX σr ot) : IQ n fs σ0 tp ot c' := by
  simp only [Bool.and_eq_true] at h
  obtain ⟨⟨⟨h1, h2⟩, h3⟩, h4⟩ := h
  have h30 : 0 ∉ A := nin h3 (by simp)
  have h31 : 1 ∉ A := nin h3 (by simp)
  have h28 : 28 ∉ A := nin h3 (by simp)
  have h18 : 18 ∉ I := nin h1 (by simp)
  have all_sub : ∀ {L X Y : List Nat}, (∀ y, y ∈ Y → y ∈ X) → L.all (fun k => !X.contains k) = true → L.all (fun k => !Y.contains k) = true := by
    intro L X Y hXY hL
    rw [List.all_eq_true] at hL ⊢
    intro x hx
    have := hL x hx
    simp only [Bool.not_eq_true', List.contains_eq_mem, decide_eq_false_iff_not] at this ⊢
    exact fun z => this (hXY x z)
  refine ⟨σr', hI, QMP_tr q (QMP_fr f (all_sub (by simp) h1) h2 (all_sub ?_ h3) h4), fun g hg => RTX_fr (hf g hg) f h31 h30, RTX_fr ht f h31 h30, RX_fr hx f h18 h28⟩
  intro y hy
  simp only [List.mem_cons, List.not_mem_nil, or_false] at hy ⊢
  omega
theorem INV_wf (h : INV n c σr) : wfR σr ∧ SOL σr ∧ relC c σr := by
  obtain ⟨fs, tp, ot, hM, hO⟩ := h
  exact ⟨(MAPI_W hM).1, hM.2.2.2.2.2.2.2.2.2.1, (MAPI_W hM).2⟩
theorem SOL_QMP (h : SOL σ) (q : QMP σ σr) : SOL σr := SOL_ms h q.1 q.2.1 (q.2.2.2 21 (by simp)) (q.2.2.2 23 (by simp)) (q.2.2.2 24 (by simp)) (q.2.2.2 25 (by simp)) (q.2.2.2 26 (by simp))
theorem wfR_QMP (h : wfR σ) (q : QMP σ σr) : wfR σr := wfR_ms h q.1
theorem Ed_QMP (q : QMP σ σr) : Ed σr = Ed σ := Ed_ms q.1 (q.2.2.2 21 (by simp))
theorem IQ_0 (h : IQ n fs σ0 tp ot c) : wfR σ0 ∧ SOL σ0 := by
  obtain ⟨σr, hI, q, _⟩ := h
  obtain ⟨h1, h2, _⟩ := INV_wf hI
  exact ⟨wfR_QMP h1 (QMP_sy q), SOL_QMP h2 (QMP_sy q)⟩
theorem SD_QMP (h : SD σ D) (q : QMP σ σr) : SD σr D := by
  have e23 := q.2.2.2 23 (by simp)
  have e24 := q.2.2.2 24 (by simp)
  have e25 := q.2.2.2 25 (by simp)
  have e26 := q.2.2.2 26 (by simp)
  unfold SD PT at *
  rw [e23, e24, e25, e26, Ed_QMP q, QMP_NN q]
  exact h
/-- a node of the map -/
theorem isN_t (hw : wfR σr) (ha : a < NN σr) : m11_isNode n (nI a) σr = some (nI 1, σr) := by
  obtain ⟨N, h0, h1, -⟩ := hw
  have hN := NN_eq h1 h0
  rw [hN] at ha
  unfold m11_isNode
  rw [v_isIn, h1, L_0, L_1, pk_sub (by omega), ej_bi_s, ilt_f (Nat.zero_le _) (by omega), ilt_f (by omega) (by omega), bz_n1]
theorem isN_f (hw : wfR σr) {x : Int32} (hx : x < nI 0 ∨ ∃ k, x = nI k ∧ NN σr ≤ k ∧ k < 2 ^ 31) : m11_isNode n x σr = some (nI 0, σr) := by
  obtain ⟨N, h0, h1, -⟩ := hw
  have hN := NN_eq h1 h0
  rw [hN] at hx
  unfold m11_isNode
  rw [v_isIn, h1, L_0, L_1, ej_bi_s]
  rcases hx with hx | ⟨k, rfl, k1, k2⟩
  · rw [if_pos hx, bz_n0]
  · rw [ilt_f (Nat.zero_le _) k2]
    rcases Nat.eq_zero_or_pos N with z | z
    · have e : nI N - nI 1 = zm := by rw [z]; decide +kernel
      rw [e, if_pos (zm_lt k2), bz_n0]
    · rw [pk_sub z, ilt_t (by omega) k2, bz_n0]
/-- a node's key -/
theorem WY0 (hz : Z0 D) (hi : ∀ v, D v ≤ iF) (ha : a < 24) {r : Int32} (h : WY D a r) : (D (4 * a) = iF ∧ r = zm) ∨ (D (4 * a) < iF ∧ r = nI (4 * a)) := by
  rcases h with ⟨h1, h2⟩ | ⟨q, h1, h2, h3, h4, _⟩
  · exact .inl ⟨h2 _ (Nat.le_refl _) (by omega), h1⟩
  · have := hz q (by omega) h4
    have e : q = 4 * a := by omega
    rw [e] at h3 h4
    exact .inr ⟨h4, h3⟩
theorem r_key (hn : 2000 < n) (hS : SD σr D) (hz : Z0 D) (ha : a < 24) : (D (4 * a) = iF ∧ m11_wayOf n (nI a) σr = some (zm, σr)) ∨ (D (4 * a) < iF ∧ D (4 * a) / 1024 < 2 ^ 30 ∧ D (4 * a) % 1024 ≤ 95 ∧ gA σr 23 (4 * a) = nI (D (4 * a) / 1024) ∧ gA σr 24 (4 * a) = nI (D (4 * a) % 1024) ∧ m11_wayOf n (nI a) σr = some (nI (4 * a), σr)) := by
  obtain ⟨r, e, w⟩ := r_wayOf (n := n) hn hS.1 hS.2.1 hS.2.2.1 ha
  rcases WY0 hz hS.2.2.1 ha w with ⟨z, rfl⟩ | ⟨z, rfl⟩
  · exact .inl ⟨z, e⟩
  · have b := OKD_bd hS.2.1 (show 4 * a < 96 by omega) z
    rcases hS.1 (4 * a) (by omega) with ⟨y, _⟩ | ⟨_, y1, y2⟩
    · omega
    · exact .inr ⟨z, by omega, b.2, y1, y2, e⟩
theorem SD_19 (h : SD σr D) : SD (uI σr 19 v) D := SD_QMP h (QMP_fr f19 (by decide) (by decide) (by decide) (by decide))
theorem q_ask (hw : wfR σr) (ha : a < NN σr) (hb : b < NN σr) : m11_ask n (nI a) (nI b) σr = some (nI 1, uI σr 19 (nI 0)) := by
  unfold m11_ask
  rw [isN_t hw ha, ej_bi_s, L_0, if_neg n10, isN_t hw hb, ej_bi_s, if_neg n10, goes_0, ej_bi_s, bz_n1]
/-- an answer of the class, as the law asks for it -/
def AN (n : Nat) (fs : Nat → List Nat) (σ0 : ej_S) (tp ot : List Nat) (X : ej_S → Option ((Int32 × ej_S) ⊕ (Nat × ej_S))) (v : Int32) : Prop := ∀ c, IQ n fs σ0 tp ot c → ∃ c', IQ n fs σ0 tp ot c' ∧ ∀ τ : ej_S, ej_lcn (X c) ((c, τ) : lw_S) = some (v, ((c', τ) : lw_S))
def AL (n : Nat) (fs : Nat → List Nat) (σ0 : ej_S) (tp ot : List Nat) (X : ej_S → Option (Int32 × ej_S)) (v : Int32) : Prop := ∀ c, IQ n fs σ0 tp ot c → ∃ c', IQ n fs σ0 tp ot c' ∧ ∀ τ : ej_S, ej_lc (X c) ((c, τ) : lw_S) = some (v, ((c', τ) : lw_S))
theorem AN_19 {X : ej_S → Option ((Int32 × ej_S) ⊕ (Nat × ej_S))} (h : ∀ c σr, INV n c σr → QMP σ0 σr → ∃ c', X c = some (.inl (v, c')) ∧ INV n c' (uI σr 19 (nI 0))) : AN n fs σ0 tp ot X v := by
  intro c ⟨σr, hI, q, hf, ht, hx⟩
  obtain ⟨c', h1, h2⟩ := h c σr hI q
  exact ⟨c', IQ_mk h2 q f19 (by decide) hf ht hx, fun τ => by rw [h1]; rfl⟩
theorem AL_19 {X : ej_S → Option (Int32 × ej_S)} (h : ∀ c σr, INV n c σr → QMP σ0 σr → ∃ c', X c = some (v, c') ∧ INV n c' (uI σr 19 (nI 0))) : AL n fs σ0 tp ot X v := by
  intro c ⟨σr, hI, q, hf, ht, hx⟩
  obtain ⟨c', h1, h2⟩ := h c σr hI q
  exact ⟨c', IQ_mk h2 q f19 (by decide) hf ht hx, fun τ => by rw [h1]; rfl⟩
theorem ST2_get {α : Type} {X Y : Option (α × ej_S)} {w : α} (h : STEP2 n X Y) (hY : Y = some (w, σr')) : ∃ c', X = some (w, c') ∧ INV n c' σr' := by
  obtain ⟨r, c', s', e1, e2, e3⟩ := h
  rw [hY] at e2
  cases e2
  exact ⟨c', e1, e3⟩
theorem a_nodes (h0 : wfR σ0) : AL n fs σ0 tp ot (fun c => m10_nodes n c) (nI (NN σ0)) := AL_19 fun c σr hI q => by
  refine ST2_get (c_nodes hI) ?_
  unfold m11_nodes
  obtain ⟨N, b0, b1, -⟩ := INV_wf hI |>.1
  rw [ej_nm_e, L_0, s_II_n (by omega), b1, ← QMP_NN q, NN_eq b1 b0]
theorem a_kind (ha : a < NN σ0) : AN n fs σ0 tp ot (fun c => m10_kind n (nI a) c) (nI (kdN σ0 a)) := AN_19 fun c σr hI q => by
  obtain ⟨w, _, _⟩ := INV_wf hI
  have ha' : a < NN σr := by rw [QMP_NN q]; exact ha
  have h24 := NN_le w
  refine ST_g3 (v := nI (kdN σ0 a)) (k_kind hI (nI a) ) ?_ s_II_s
  unfold m11_kind
  rw [asks_t (isN_t w ha'), ej_bi_s, L_0, if_neg n10, r_kindOf (show a < 24 by omega), ej_bi_s]
  have e : kdN (uI σr 19 (nI 0)) a = kdN σ0 a := by
    unfold kdN
    rw [s_BI, s_AI, q.1.2.2.1, q.1.2.2.2.2.1]
  rw [e]
theorem a_isPrivate (h11 : gA σ0 11 a = zm) (ha : a < NN σ0) : ∀ c, IQ n fs σ0 tp ot c → ∃ c', IQ n fs σ0 tp ot c' ∧ ∀ τ : ej_S, ej_lcn (m10_isPrivate n (nI a) c) ((c, τ) : lw_S) = some (nI 0, ((c', τ) : lw_S)) := by
  intro c ⟨σr, hI, q, hf, ht, hx⟩
  obtain ⟨w, _, _⟩ := INV_wf hI
  have ha' : a < NN σr := by rw [QMP_NN q]; exact ha
  have h24 := NN_le w
  obtain ⟨z, c', e1, e2, e3⟩ := STB_g3 (v := nI 0) (σr' := uI σr 19 (nI 0)) (k_isPrivate hI (nI a) ) (by
    unfold m11_isPrivate
    rw [asks_t (isN_t w ha'), ej_bi_s, L_0, if_neg n10, ck_t (by omega) (by omega), nI_clamp (by omega), s_AI, q.1.2.2.2.1, h11, L_m1, if_pos rfl]) s_II_s
  exact ⟨c', IQ_mk e2 q f19 (by decide) hf ht hx, fun τ => by rw [e1, e3.mpr rfl]; rfl⟩
theorem a_isBack (hn : 2000 < n) (ha : a < NN σ0) (hb : b < NN σ0) : ∀ c, IQ n fs σ0 tp ot c → ∃ z c', IQ n fs σ0 tp ot c' ∧ (z = nI 0 ↔ gA σ0 21 (24 * a + b) = nI 0) ∧ ∀ τ : ej_S, ej_lcn (m10_isBack n (nI a) (nI b) c) ((c, τ) : lw_S) = some (z, ((c', τ) : lw_S)) := by
  intro c ⟨σr, hI, q, hf, ht, hx⟩
  obtain ⟨w, _, _⟩ := INV_wf hI
  have ha' : a < NN σr := by rw [QMP_NN q]; exact ha
  have hb' : b < NN σr := by rw [QMP_NN q]; exact hb
  have h24 := NN_le w
  have e21 := q.2.2.2 21 (by simp)
  have Y : m11_isBack n (nI a) (nI b) σr = some (if gA σ0 21 (24 * a + b) = nI 0 then nI 0 else nI 1, uI σr 19 (nI 0)) := by
    unfold m11_isBack
    rw [q_ask w ha' hb', ej_bi_s, L_0, if_neg n10, L_24, pk_mul, nI_add, ck_t (by omega) (by omega), nI_clamp (by omega), s_AI, e21, L_1]
    split <;> rfl
  obtain ⟨z, c', e1, e2, e3⟩ := STB_g3 (k_isBack hn hI (nI a) (nI b) ) Y s_II_s
  refine ⟨z, c', IQ_mk e2 q f19 (by decide) hf ht hx, e3.trans ?_, fun τ => by rw [e1]; rfl⟩
  by_cases y : gA σ0 21 (24 * a + b) = nI 0
  · rw [if_pos y]; exact ⟨fun _ => y, fun _ => rfl⟩
  · rw [if_neg y]; exact ⟨fun w => absurd w n10, fun w => absurd w y⟩
theorem a_linkCost (ha : a < NN σ0) (hb : b < NN σ0) : AN n fs σ0 tp ot (fun c => m10_linkCost n (nI a) (nI b) c) (gA σ0 16 (24 * a + b)) := AN_19 fun c σr hI q => by
  obtain ⟨w, _, _⟩ := INV_wf hI
  have ha' : a < NN σr := by rw [QMP_NN q]; exact ha
  have hb' : b < NN σr := by rw [QMP_NN q]; exact hb
  have h24 := NN_le w
  refine ST_g3 (k_linkCost hI (nI a) (nI b) ) ?_ s_II_s
  unfold m11_linkCost
  rw [q_ask w ha' hb', ej_bi_s, L_0, if_neg n10, L_24, pk_mul, nI_add, ck_t (by omega) (by omega), nI_clamp (by omega), s_AI, q.1.2.2.2.2.2.2.1]
theorem a_memberCost (ha : a < NN σ0) (hb : b < NN σ0) : AN n fs σ0 tp ot (fun c => m10_memberCost n (nI a) (nI b) c) (gA σ0 20 (24 * a + b)) := AN_19 fun c σr hI q => by
  obtain ⟨w, _, _⟩ := INV_wf hI
  have ha' : a < NN σr := by rw [QMP_NN q]; exact ha
  have hb' : b < NN σr := by rw [QMP_NN q]; exact hb
  have h24 := NN_le w
  refine ST_g3 (k_memberCost hI (nI a) (nI b) ) ?_ s_II_s
  unfold m11_memberCost
  rw [q_ask w ha' hb', ej_bi_s, L_0, if_neg n10, L_24, pk_mul, nI_add, ck_t (by omega) (by omega), nI_clamp (by omega), s_AI, q.1.2.2.2.2.2.2.2.2.2.1]
theorem r_costTo (hn : 2000 < n) (hw : wfR σr) (hS : SD σr D) (hz : Z0 D) (ha : a < NN σr) : m11_costTo n (nI a) σr = some (oI (oc D a), uI σr 19 (nI 0)) := by
  have h24 := NN_le hw
  unfold m11_costTo m11_costTo_17 oc
  rw [asks_t (isN_t hw ha), ej_bi_s, L_0, if_neg n10]
  rcases r_key (n := n) hn (SD_19 (v := nI 0) hS) hz (show a < 24 by omega) with ⟨z, e⟩ | ⟨z, b1, b2, g1, g2, e⟩
  · rw [e, ej_bi_s, L_m1, if_pos rfl, s_II_s, if_pos rfl, if_neg (by omega)]; rfl
  · rw [e, ej_bi_s, L_m1, ieq_m (by omega), ck_t (by omega) (by omega), nI_clamp (by omega), g1, if_pos z]; rfl
theorem a_cost (hn : 2000 < n) (hS : SD σ0 D) (hz : Z0 D) (ha : a < NN σ0) : AN n fs σ0 tp ot (fun c => m10_cost n (nI a) c) (oI (oc D a)) := AN_19 fun c σr hI q => by
  obtain ⟨w, _, _⟩ := INV_wf hI
  refine ST_g3 (k_cost hn hI (nI a) ) ?_ s_II_s
  unfold m11_cost
  rw [r_costTo hn w (SD_QMP hS q) hz (by rw [QMP_NN q]; exact ha), ej_bi_s]
theorem a_costByRounds (hn : 2000 < n) (hS : SD σ0 D) (hz : Z0 D) (ha : a < NN σ0) : AN n fs σ0 tp ot (fun c => m10_costByRounds n (nI a) c) (oI (oc D a)) := AN_19 fun c σr hI q => by
  obtain ⟨w, _, _⟩ := INV_wf hI
  refine ST_g3 (k_costByRounds hn hI (nI a) ) ?_ s_II_s
  unfold m11_costByRounds
  rw [r_costTo hn w (SD_QMP hS q) hz (by rw [QMP_NN q]; exact ha), ej_bi_s]
theorem a_steps (hn : 2000 < n) (hS : SD σ0 D) (hz : Z0 D) (ha : a < NN σ0) : AN n fs σ0 tp ot (fun c => m10_steps n (nI a) c) (oI (os D a)) := AN_19 fun c σr hI q => by
  obtain ⟨w, _, _⟩ := INV_wf hI
  have ha' : a < NN σr := by rw [QMP_NN q]; exact ha
  have h24 := NN_le w
  refine ST_g3 (k_steps hn hI (nI a) ) ?_ s_II_s
  unfold m11_steps m11_steps_17 os
  rw [asks_t (isN_t w ha'), ej_bi_s, L_0, if_neg n10]
  rcases r_key (n := n) hn (SD_19 (v := nI 0) (SD_QMP hS q)) hz (show a < 24 by omega) with ⟨z, e⟩ | ⟨z, b1, b2, g1, g2, e⟩
  · rw [e, ej_bi_s, L_m1, if_pos rfl, s_II_s, if_pos rfl, if_neg (by omega)]; rfl
  · rw [e, ej_bi_s, L_m1, ieq_m (by omega), ck_t (by omega) (by omega), nI_clamp (by omega), g2, if_pos z]; rfl
theorem a_state (hn : 2000 < n) (hS : SD σ0 D) (hz : Z0 D) (ha : a < NN σ0) : AN n fs σ0 tp ot (fun c => m10_state n (nI a) c) (oI (ot0 D a)) := AN_19 fun c σr hI q => by
  obtain ⟨w, _, _⟩ := INV_wf hI
  have ha' : a < NN σr := by rw [QMP_NN q]; exact ha
  have h24 := NN_le w
  refine ST_g3 (k_state hn hI (nI a) ) ?_ s_II_s
  unfold m11_state m11_state_17 ot0
  rw [asks_t (isN_t w ha'), ej_bi_s, L_0, if_neg n10]
  rcases r_key (n := n) hn (SD_19 (v := nI 0) (SD_QMP hS q)) hz (show a < 24 by omega) with ⟨z, e⟩ | ⟨z, b1, b2, g1, g2, e⟩
  · rw [e, ej_bi_s, L_m1, if_pos rfl, s_II_s, if_pos rfl, if_neg (by omega)]; rfl
  · rw [e, ej_bi_s, L_m1, ieq_m (by omega), L_4, pk_div (by omega) (by omega) (by omega), pk_mul, pk_sub (by omega), show 4 * a - 4 * a / 4 * 4 = 0 by omega, if_pos z]; rfl
/-- the home's node -/
def hmN (σ : ej_S) (o : Option Nat) : Prop := match o with
  | none => homeless σ
  | some h => homeAt σ h
theorem a_home (hn : 2000 < n) (hw : wfR σ0) {o : Option Nat} (ho : hmN σ0 o) : AL n fs σ0 tp ot (fun c => m10_home n c) (oI o) := AL_19 fun c σr hI q => by
  obtain ⟨w, _, _⟩ := INV_wf hI
  refine ST2_get (c_home hn hI) ?_
  unfold m11_home
  have w9 : wfR (uI σr 19 (nI 0)) := wfR_QMP w (QMP_fr f19 (by decide) (by decide) (by decide) (by decide))
  have e1 : NN (uI σr 19 (nI 0)) = NN σ0 := by rw [← QMP_NN q]; unfold NN; rw [s_II_n (by omega)]
  have e2 : gB (uI σr 19 (nI 0)) 1 = gB σ0 1 := by rw [s_BI, q.1.2.2.1]
  have e3 : gA (uI σr 19 (nI 0)) 11 = gA σ0 11 := by rw [s_AI, q.1.2.2.2.1]
  have e4 : gJ (uI σr 19 (nI 0)) 1 = gJ σ0 1 := by rw [s_JI, q.2.1]
  rw [ej_nm_e, L_0]
  rcases r_homeNode (n := n) hn w9 with ⟨b1, b2⟩ | ⟨h, b1, b2⟩
  · rw [b2, ej_bi_s]
    unfold homeless at b1
    rw [e1, e2, e3, e4] at b1
    cases o with
    | none => rfl
    | some k => exact absurd ⟨ho.2.1, ho.2.2⟩ (b1 k ho.1)
  · rw [b2, ej_bi_s]
    unfold homeAt at b1
    rw [e1, e2, e3, e4] at b1
    cases o with
    | none => exact absurd ⟨b1.2.1, b1.2.2⟩ (ho h b1.1)
    | some k =>
      obtain ⟨N, h0, h15, _, _, _, w3, _⟩ := id hw
      have hN := NN_eq h15 h0
      have e : h = k := uni_eq w3 (by rw [← hN]; exact b1.1) (by rw [← hN]; exact ho.1) ⟨b1.2.1, b1.2.2⟩ ⟨ho.2.1, ho.2.2⟩
      rw [e]; rfl
end P97c
