/-! the law's world: the class, the law's own three rows of ints; the script is only read -/
abbrev lw_S : Type := ej_S × ej_S
/-- the class's things, the script's address, its length, its ints -/
abbrev lw_T : Type := cw_T × Nat × Nat × (Nat → Int32)
def lw_W (x : lw_T) (σ : lw_S) : va_W := cw_W x.1.2.1 (cw_a x.1) σ.1 ++ rw_W x.1.2.1 (cw_a x.1) σ.2
def lw_RO (x : lw_T) : ej_RO := fun A U H => cw_RO x.1 A U H ∧ (va_X x.2.1 x.2.2.1 x.2.2.2 U H ∧ x.2.1 < H.size ∧ ¬ A x.2.1)
def lV (x : lw_T) : ej_V lw_S := (x.1.1, x.1.2.1, lw_W x, lw_RO x)
theorem ej_fst {S : Type} {W : S → va_W} (h : ∀ (σ σ' : S) (k : Nat), ((W σ)[k]?).map Prod.fst = ((W σ')[k]?).map Prod.fst) (σ σ' : S) : (W σ).map Prod.fst = (W σ').map Prod.fst := List.ext_getElem? fun k => by rw [List.getElem?_map, List.getElem?_map]; exact h σ σ' k
theorem lV_ok (x : lw_T) : ej_Vok (lV x) := by
  refine ⟨⟨fun A B U H h hAB => ⟨(cV_ok x.1).1.1 _ _ _ _ h.1 hAB, h.2.1, h.2.2.1, fun z => h.2.2.2 (hAB _ z)⟩, fun A u U H hW h => ⟨(cV_ok x.1).1.2.1 _ _ _ _ hW h.1, h.2.1.moved hW.alike, h.2.2⟩, fun A U H H1 h hq => ?_⟩, fun σ σ' k => ?_⟩
  · have e := hq _ h.2.2.1 h.2.2.2
    refine ⟨(cV_ok x.1).1.2.2 _ _ _ _ h.1 hq, h.2.1.kept e, ?_, h.2.2.2⟩
    obtain ⟨c9, hc9, -⟩ := h.2.1
    rw [hc9] at e
    exact (Array.getElem?_eq_some_iff.mp e).1
  · have h1 := ej_fst (W := cw_W x.1.2.1 (cw_a x.1)) (cV_ok x.1).2 σ.1 σ'.1
    show ((lw_W x σ)[k]?).map Prod.fst = ((lw_W x σ')[k]?).map Prod.fst
    rw [← List.getElem?_map, ← List.getElem?_map]
    simp only [lw_W, List.map_append, h1]
    rfl
theorem ej_sh {B W C : va_W} {k : Nat} {q : Nat × va_E} (h : W[k]? = some q) : (B ++ (W ++ C))[B.length + k]? = some q := by
  rw [List.getElem?_append_right (by omega), show B.length + k - B.length = k by omega, List.getElem?_append_left (List.getElem?_eq_some_iff.mp h).1]
  exact h
theorem ej_shA {B W C : va_W} {sz q : Nat} (h : va_A W sz q) : va_A (B ++ (W ++ C)) sz q := by
  rcases h with ⟨k, e, h⟩ | h
  · exact Or.inl ⟨_, e, ej_sh h⟩
  · exact Or.inr h
theorem ej_shD {B W C : va_W} {A A' : Nat → Prop} (h : va_D A (B ++ (W ++ C))) (hA : ∀ q, A' q) : va_D A' W := ⟨fun i j p q hp hq e => by have := h.1 _ _ _ _ (ej_sh hp) (ej_sh hq) e; omega, fun k q _ => hA q.1⟩
theorem ej_shP {D : va_G} {cl : List vw_C} {H : Heap} {B W C : va_W} (h : va_P D cl (B ++ (W ++ C)) H) : va_P D cl W H := fun k q hk => h _ q (ej_sh hk)
/-- what lies beside W is neither in W nor new -/
theorem ej_apart {D : va_G} {cl : List vw_C} {H : Heap} {A : Nat → Prop} {B W C : va_W} (hP : va_P D cl (B ++ (W ++ C)) H) (hD : va_D A (B ++ (W ++ C))) {i : Nat} {q : Nat × va_E} (hq : (B ++ (W ++ C))[i]? = some q) (hi : i < B.length ∨ B.length + W.length ≤ i) : ¬ va_A W H.size q.1 := by
  rintro (⟨k, e, h⟩ | h)
  · have h2 := hD.1 i _ _ _ hq (ej_sh h) rfl
    have h3 := (List.getElem?_eq_some_iff.mp h).1
    omega
  · have := (hP i q hq).lt
    omega
theorem ej_back {D : va_G} {cl : List vw_C} {H H1 : Heap} {A : Nat → Prop} {B W W' C : va_W} (hlen : W'.length = W.length) (hP : va_P D cl (B ++ (W ++ C)) H) (hD : va_D A (B ++ (W ++ C))) (hP1 : va_P D cl W' H1) (hk : ∀ q : Nat, q < H.size → ¬ va_A W H.size q → H1[q]? = H[q]?) : va_P D cl (B ++ (W' ++ C)) H1 := by
  intro i q hq
  by_cases h1 : i < B.length
  · rw [List.getElem?_append_left h1] at hq
    have hq2 : (B ++ (W ++ C))[i]? = some q := by rw [List.getElem?_append_left h1]; exact hq
    exact (hP i q hq2).kept (hk _ (hP i q hq2).lt (ej_apart hP hD hq2 (Or.inl h1)))
  · rw [List.getElem?_append_right (by omega)] at hq
    by_cases h2 : i - B.length < W'.length
    · rw [List.getElem?_append_left h2] at hq
      exact hP1 _ q hq
    · rw [List.getElem?_append_right (by omega)] at hq
      have hq2 : (B ++ (W ++ C))[i]? = some q := by rw [List.getElem?_append_right (by omega), List.getElem?_append_right (by omega), ← hlen]; exact hq
      exact (hP i q hq2).kept (hk _ (hP i q hq2).lt (ej_apart hP hD hq2 (Or.inr (by omega))))
section LIFT
variable {S1 S2 : Type} {D : va_G} {aC : Nat → ClassId} {W1 : S1 → va_W} {W2 : S2 → va_W} {R1 R2 : ej_RO} {l : Launch} {I : ej_I} {y : MethodName} {ret : Option FieldType} {As : List Value} {s s' : S1} {σ σ' : S2} {rv : Option Value}
theorem ej_liftpre {sz : Nat} {U : State} (B C : va_W) (hW : W2 σ = B ++ (W1 s ++ C)) (hRO : ∀ A U H, R2 A U H → R1 A U H) (hRk : ej_ROk R1) (h : ej_pre ((D, aC, W2, R2) : ej_V S2) σ sz U) : ej_pre ((D, aC, W1, R1) : ej_V S1) s sz U := by
  obtain ⟨h1, h2, h3, h4, h5⟩ := h
  change va_P D vwCl (W2 σ) U.heap at h2
  change va_D _ (W2 σ) at h4
  change R2 (va_A (W2 σ) sz) U U.heap at h5
  rw [hW] at h2 h4 h5
  exact ⟨h1, ej_shP h2, h3, ej_shD h4 (fun _ => trivial), hRk.1 _ _ U _ (hRO _ _ _ h5) (fun q => ej_shA)⟩
theorem ej_liftQ {sz : Nat} {U t : State} {oc : Outcome} {av : Array Value} (B C : va_W) (hlen : (W1 s').length = (W1 s).length) (hW : W2 σ = B ++ (W1 s ++ C)) (hW' : W2 σ' = B ++ (W1 s' ++ C)) (h : ej_pre ((D, aC, W2, R2) : ej_V S2) σ sz U) (hq : ej_Qc ((D, aC, W1, R1) : ej_V S1) (va_A (W1 s) sz) rv s' av U oc t) : ej_Qc ((D, aC, W2, R2) : ej_V S2) (va_A (W2 σ) sz) rv σ' av U oc t := by
  obtain ⟨h1, h2, h3, h4, h5⟩ := h
  obtain ⟨⟨q1, q2⟩, q3, q4⟩ := hq
  change va_P D vwCl (W2 σ) U.heap at h2
  change va_D _ (W2 σ) at h4
  change va_P D vwCl (W1 s') t.heap at q2
  rw [hW] at h2 h4
  subst h1
  refine ⟨⟨q1, ?_⟩, q3, fun q hq1 hq2 => q4 q hq1 (fun z => hq2 (by rw [hW]; exact ej_shA z))⟩
  show va_P D vwCl (W2 σ') t.heap
  rw [hW']
  exact ej_back hlen h2 h4 q2 q4
theorem ej_lift (B C : va_W) (hlen : (W1 s').length = (W1 s).length) (hW : W2 σ = B ++ (W1 s ++ C)) (hW' : W2 σ' = B ++ (W1 s' ++ C)) (hRO : ∀ A U H, R2 A U H → R1 A U H) (hRk : ej_ROk R1) (h : ej_Con l ((D, aC, W1, R1) : ej_V S1) I y ret As s rv s') : ej_Con l ((D, aC, W2, R2) : ej_V S2) I y ret As σ rv σ' := by
  intro sz p e ha hc hk S m args below hf happ hP hK0
  obtain ⟨hargs, hpre⟩ := hP
  obtain ⟨n, oc, q1, q2, q3, hQ, L, hL1, hL2⟩ := h sz p e ha hc hk S m args below hf happ ⟨hargs, ej_liftpre B C hW hRO hRk hpre⟩ trivial
  exact ⟨n, oc, q1, q2, q3, ej_liftQ B C hlen hW hW' hpre hQ, L, hL1, fun q hq => by
    show va_A (W2 σ) sz q.base
    rw [hW]; exact ej_shA (hL2 q hq)⟩
end LIFT
def ej_mapX {S1 S2 : Type} (g : S1 → S2) (X : ej_X S1) : ej_X S2 := match X with | .inl q => .inl (q.1, g q.2) | .inr q => .inr (q.1, g q.2)
theorem ej_liftX {S1 S2 : Type} {D : va_G} {aC : Nat → ClassId} {W1 : S1 → va_W} {W2 : S2 → va_W} {R1 R2 : ej_RO} {l : Launch} {I : ej_I} {y : MethodName} {ret : Option FieldType} {As : List Value} {s : S1} {σ : S2} {mc ms : Nat} {X : ej_X S1} (g : S1 → S2) (B C : va_W) (hlen : ∀ s', (W1 s').length = (W1 s).length) (hW : W2 σ = B ++ (W1 s ++ C)) (hW' : ∀ s', W2 (g s') = B ++ (W1 s' ++ C)) (hRO : ∀ A U H, R2 A U H → R1 A U H) (hRk : ej_ROk R1) (h : ej_Cx l ((D, aC, W1, R1) : ej_V S1) I y ret As s mc ms X) : ej_Cx l ((D, aC, W2, R2) : ej_V S2) I y ret As σ mc ms (ej_mapX g X) := by
  intro sz p e ha hc hk S m args below hf happ hP hK0
  obtain ⟨hargs, hpre⟩ := hP
  obtain ⟨n, oc, q1, q2, q3, hQ⟩ := h sz p e ha hc hk S m args below hf happ ⟨hargs, ej_liftpre B C hW hRO hRk hpre⟩ trivial
  refine ⟨n, oc, q1, q2, q3, ?_⟩
  rcases hQ with ⟨⟨rv, s', rfl, hQ⟩, L, hL1, hL2⟩ | ⟨q9, ho, E, ce, L, ⟨k, s', rfl, hE, hp, hF⟩, t1, t2, t3, t4, t5, hL2⟩
  · exact Or.inl ⟨⟨rv, g s', rfl, ej_liftQ B C (hlen s') hW (hW' s') hpre hQ⟩, L, hL1, fun q hq => by
      show va_A (W2 σ) sz q.base
      rw [hW]; exact ej_shA (hL2 q hq)⟩
  · have hQ := ej_liftQ (R2 := R2) (R1 := R1) (rv := none) (oc := .returned none) (av := args) B C (hlen s') hW (hW' s') hpre ⟨⟨rfl, hp⟩, hF⟩
    exact Or.inr ⟨q9, ho, E, ce, L, ⟨k, g s', rfl, hE, hQ.1.2, hQ.2⟩, t1, t2, t3, t4, t5, fun q hq => by
      show va_A (W2 σ) sz q.base
      rw [hW]; exact ej_shA (hL2 q hq)⟩
/-- models of the class over the law's world -/
def ej_lc {α : Type} (m : Option (α × ej_S)) (σ : lw_S) : Option (α × lw_S) := match m with | none => none | some q => some (q.1, (q.2, σ.2))
def ej_lcx (m : Option ((Int32 × ej_S) ⊕ (Nat × ej_S))) (σ : lw_S) : Option ((Int32 × lw_S) ⊕ (Nat × lw_S)) := match m with | none => none | some (.inl q) => some (.inl (q.1, (q.2, σ.2))) | some (.inr q) => some (.inr (q.1, (q.2, σ.2)))
/-- a call that has to come back -/
def ej_lcn (m : Option ((Int32 × ej_S) ⊕ (Nat × ej_S))) (σ : lw_S) : Option (Int32 × lw_S) := match m with | some (.inl q) => some (q.1, (q.2, σ.2)) | _ => none
theorem cw_len_eq (aC : Nat → ClassId) (ad : Nat → Nat) (s s' : ej_S) : (cw_W aC ad s').length = (cw_W aC ad s).length := by simp [cw_W]
theorem lc_con {l : Launch} {x : lw_T} {I : ej_I} {y : MethodName} {ret : Option FieldType} {As : List Value} {σ : lw_S} {α : Type} {f : α → Option Value} {m : Option (α × ej_S)} (h : ∀ r s1, m = some (r, s1) → ej_Con l (cV x.1) I y ret As σ.1 (f r) s1) : ∀ r σ1, ej_lc m σ = some (r, σ1) → ej_Con l (lV x) I y ret As σ (f r) σ1 := by
  intro r σ1 e
  cases m with
  | none => cases e
  | some q =>
    cases e
    exact ej_lift (S1 := ej_S) (S2 := lw_S) (W2 := lw_W x) (R2 := lw_RO x) [] (rw_W x.1.2.1 (cw_a x.1) σ.2) (cw_len_eq _ _ _ _) rfl rfl (fun _ _ _ z => z.1) (cV_ok x.1).1 (h _ _ rfl)
theorem lcn_con {x : lw_T} {I : ej_I} {y : MethodName} {ret : Option FieldType} {As : List Value} {σ : lw_S} {m : Option ((Int32 × ej_S) ⊕ (Nat × ej_S))} (h : ∀ z, m = some (.inl z) → ∀ l : Launch, ej_Con l (cV x.1) I y ret As σ.1 (ej_fi z).1 (ej_fi z).2) : ∀ r σ1, ej_lcn m σ = some (r, σ1) → ∀ l : Launch, ej_Con l (lV x) I y ret As σ (some (.int r)) σ1 := by
  intro r σ1 e l
  cases m with
  | none => cases e
  | some w =>
    cases w with
    | inr q => cases e
    | inl q =>
      cases e
      exact ej_lift (S1 := ej_S) (S2 := lw_S) (W2 := lw_W x) (R2 := lw_RO x) [] (rw_W x.1.2.1 (cw_a x.1) σ.2) (cw_len_eq _ _ _ _) rfl rfl (fun _ _ _ z => z.1) (cV_ok x.1).1 (h _ rfl l)
theorem lcx_con {l : Launch} {x : lw_T} {I : ej_I} {y : MethodName} {ret : Option FieldType} {As : List Value} {σ : lw_S} {mc ms : Nat} {m : Option ((Int32 × ej_S) ⊕ (Nat × ej_S))} (h : ∀ z, m = some z → ej_Cx l (cV x.1) I y ret As σ.1 mc ms (ej_xg ej_fi z)) : ∀ z, ej_lcx m σ = some z → ej_Cx l (lV x) I y ret As σ mc ms (ej_xg ej_fi z) := by
  intro z e
  cases m with
  | none => cases e
  | some w =>
    have key := ej_liftX (S1 := ej_S) (S2 := lw_S) (W1 := cw_W x.1.2.1 (cw_a x.1)) (W2 := lw_W x) (R2 := lw_RO x) (σ := σ) (fun s' => (s', σ.2)) [] (rw_W x.1.2.1 (cw_a x.1) σ.2) (fun s' => cw_len_eq _ _ _ _) rfl (fun _ => rfl) (fun _ _ _ z => z.1) (cV_ok x.1).1 (h _ rfl)
    cases w with
    | inl q => cases e; exact key
    | inr q => cases e; exact key
theorem lV_rc_0 (x : lw_T) (σ : lw_S) : ej_rc (lV x) σ (cw_a x.1 0) RX10 := ⟨0, 9, TX10, 12, _, rfl, rfl⟩
theorem lV_a_210 (x : lw_T) (σ : lw_S) : ej_ga (lV x) (cw_a x.1 210) 1 (60, .inl (gA σ.2 0)) σ := by
  refine ⟨(cw_W x.1.2.1 (cw_a x.1) σ.1).length + 0, ?_⟩
  show (cw_W x.1.2.1 (cw_a x.1) σ.1 ++ rw_W x.1.2.1 (cw_a x.1) σ.2)[_]? = _
  rw [List.getElem?_append_right (Nat.le_add_right _ _), Nat.add_sub_cancel_left]
  rfl
theorem lV_s_210 (x : lw_T) (σ : lw_S) (i : Nat) (v : Int32) : ej_sa (lV x) (cw_a x.1 210) 1 (60, .inl (gA σ.2 0)) (60, .inl (upd (gA σ.2 0) i v)) σ (σ.1, uA σ.2 0 i v) := by
  refine ⟨(cw_W x.1.2.1 (cw_a x.1) σ.1).length + 0, ?_, ?_⟩
  · show (cw_W x.1.2.1 (cw_a x.1) σ.1 ++ rw_W x.1.2.1 (cw_a x.1) σ.2)[_]? = _
    rw [List.getElem?_append_right (Nat.le_add_right _ _), Nat.add_sub_cancel_left]
    rfl
  · show (cw_W x.1.2.1 (cw_a x.1) σ.1 ++ rw_W x.1.2.1 (cw_a x.1) σ.2).set _ _ = cw_W x.1.2.1 (cw_a x.1) σ.1 ++ rw_W x.1.2.1 (cw_a x.1) (uA σ.2 0 i v)
    rw [List.set_append_right _ _ (Nat.le_add_right _ _), Nat.add_sub_cancel_left]
    rfl
theorem lV_a_211 (x : lw_T) (σ : lw_S) : ej_ga (lV x) (cw_a x.1 211) 1 (12, .inl (gA σ.2 1)) σ := by
  refine ⟨(cw_W x.1.2.1 (cw_a x.1) σ.1).length + 1, ?_⟩
  show (cw_W x.1.2.1 (cw_a x.1) σ.1 ++ rw_W x.1.2.1 (cw_a x.1) σ.2)[_]? = _
  rw [List.getElem?_append_right (Nat.le_add_right _ _), Nat.add_sub_cancel_left]
  rfl
theorem lV_s_211 (x : lw_T) (σ : lw_S) (i : Nat) (v : Int32) : ej_sa (lV x) (cw_a x.1 211) 1 (12, .inl (gA σ.2 1)) (12, .inl (upd (gA σ.2 1) i v)) σ (σ.1, uA σ.2 1 i v) := by
  refine ⟨(cw_W x.1.2.1 (cw_a x.1) σ.1).length + 1, ?_, ?_⟩
  · show (cw_W x.1.2.1 (cw_a x.1) σ.1 ++ rw_W x.1.2.1 (cw_a x.1) σ.2)[_]? = _
    rw [List.getElem?_append_right (Nat.le_add_right _ _), Nat.add_sub_cancel_left]
    rfl
  · show (cw_W x.1.2.1 (cw_a x.1) σ.1 ++ rw_W x.1.2.1 (cw_a x.1) σ.2).set _ _ = cw_W x.1.2.1 (cw_a x.1) σ.1 ++ rw_W x.1.2.1 (cw_a x.1) (uA σ.2 1 i v)
    rw [List.set_append_right _ _ (Nat.le_add_right _ _), Nat.add_sub_cancel_left]
    rfl
theorem lV_a_212 (x : lw_T) (σ : lw_S) : ej_ga (lV x) (cw_a x.1 212) 1 (4, .inl (gA σ.2 2)) σ := by
  refine ⟨(cw_W x.1.2.1 (cw_a x.1) σ.1).length + 2, ?_⟩
  show (cw_W x.1.2.1 (cw_a x.1) σ.1 ++ rw_W x.1.2.1 (cw_a x.1) σ.2)[_]? = _
  rw [List.getElem?_append_right (Nat.le_add_right _ _), Nat.add_sub_cancel_left]
  rfl
theorem lV_s_212 (x : lw_T) (σ : lw_S) (i : Nat) (v : Int32) : ej_sa (lV x) (cw_a x.1 212) 1 (4, .inl (gA σ.2 2)) (4, .inl (upd (gA σ.2 2) i v)) σ (σ.1, uA σ.2 2 i v) := by
  refine ⟨(cw_W x.1.2.1 (cw_a x.1) σ.1).length + 2, ?_, ?_⟩
  · show (cw_W x.1.2.1 (cw_a x.1) σ.1 ++ rw_W x.1.2.1 (cw_a x.1) σ.2)[_]? = _
    rw [List.getElem?_append_right (Nat.le_add_right _ _), Nat.add_sub_cancel_left]
    rfl
  · show (cw_W x.1.2.1 (cw_a x.1) σ.1 ++ rw_W x.1.2.1 (cw_a x.1) σ.2).set _ _ = cw_W x.1.2.1 (cw_a x.1) σ.1 ++ rw_W x.1.2.1 (cw_a x.1) (uA σ.2 2 i v)
    rw [List.set_append_right _ _ (Nat.le_add_right _ _), Nat.add_sub_cancel_left]
    rfl
