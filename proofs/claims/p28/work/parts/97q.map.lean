/-! THE MAP GROWS, statement by statement -/
def nx' (X : List Nat) (a : Nat) : Nat := X.getD a (10 + a)
theorem nx_at {X : List Nat} {a : Nat} (h : a < X.length) : nx' X a = X.getD a 0 := by
  unfold nx'
  rw [List.getD_eq_getElem?_getD, List.getD_eq_getElem?_getD, List.getElem?_eq_getElem h]; rfl
theorem nx_ge {X : List Nat} {a : Nat} (h : X.length ≤ a) : nx' X a = 10 + a := gD_ge h
theorem nm_a (s : St) : e_a s ∈ e_nm s := by
  unfold e_nm e_my
  split
  · exact List.mem_cons_self
  · split <;> exact List.mem_cons_self
theorem nm_b {s : St} (h : e_k s ≠ 3) : e_b s ∈ e_nm s := by
  unfold e_nm e_my
  split
  · exact List.mem_cons_of_mem _ List.mem_cons_self
  · first | exact List.mem_cons_of_mem _ List.mem_cons_self | (rw [if_neg h]; exact List.mem_cons_of_mem _ List.mem_cons_self)
theorem nm_c {s : St} (h : e_k s = 2) : e_c s ∈ e_nm s := by
  unfold e_nm e_my
  rw [if_pos h]
  exact List.mem_cons_of_mem _ (List.mem_cons_of_mem _ List.mem_cons_self)
theorem td_none {L : List St} {kd x y : Nat} (h : ∀ s ∈ L, e_is kd x y s = false) : e_td L kd x y = none := by
  have key : ∀ (L : List St) (o : Option Nat), (∀ s ∈ L, e_is kd x y s = false) → L.foldl (e_t1 kd x y) o = o := by
    intro L
    induction L with
    | nil => intro o _; rfl
    | cons s r ih =>
      intro o h
      rw [List.foldl_cons, show e_t1 kd x y o s = o by unfold e_t1; rw [h s List.mem_cons_self, if_neg (by decide)]]
      exact ih o (fun s hs => h s (List.mem_cons_of_mem _ hs))
  exact key L none h
theorem td_x {L : List St} {X : List Nat} {kd x y : Nat} (hL : ∀ s ∈ L, ∀ v ∈ e_nm s, v ∈ X) (hx : x ∉ X) : e_td L kd x y = none := td_none fun s hs => by
  unfold e_is
  refine decide_eq_false (fun z => hx ?_)
  rw [← z.2.1]
  exact hL s hs _ (nm_a s)
theorem td_y {L : List St} {X : List Nat} {kd x y : Nat} (hL : ∀ s ∈ L, ∀ v ∈ e_nm s, v ∈ X) (hk : kd ≠ 3) (hy : y ∉ X) : e_td L kd x y = none := td_none fun s hs => by
  unfold e_is
  refine decide_eq_false (fun z => hy ?_)
  rcases z.2.2.1 with w | w | w
  · exact absurd w hk
  · rw [← w]; exact hL s hs _ (nm_b (by rw [z.1]; exact hk))
  · rw [← w.2]; exact hL s hs _ (nm_c (by rw [z.1]; exact w.1))
theorem net_x {L : List St} {X : List Nat} {x : Nat} (hL : ∀ s ∈ L, ∀ v ∈ e_nm s, v ∈ X) (hx : x ∉ X) : e_net L x = false := by
  cases e : e_net L x
  · rfl
  · obtain ⟨s, s1, s2⟩ := List.any_eq_true.mp e
    have z := of_decide_eq_true s2
    exact absurd (by rw [← z.2]; exact hL s s1 _ (nm_a s)) hx
theorem td_B {L : List St} {kd x y : Nat} (h : ∀ s ∈ L, e_q s < 2 ^ 30) : oB (e_td L kd x y) := by
  have key : ∀ (L : List St) (o : Option Nat), (∀ s ∈ L, e_q s < 2 ^ 30) → oB o → oB (L.foldl (e_t1 kd x y) o) := by
    intro L
    induction L with
    | nil => intro o _ h; exact h
    | cons s r ih =>
      intro o h ho
      rw [List.foldl_cons]
      refine ih _ (fun s hs => h s (List.mem_cons_of_mem _ hs)) ?_
      unfold e_t1
      split
      · refine oB_mn ho ?_
        have := h s List.mem_cons_self
        unfold e_ct
        split <;> omega
      · exact ho
  exact key L none h (fun v e => by cases e)
/-- the map of names and statements, while it grows -/
def MPB (σ : ej_S) (X : List Nat) (L : List St) : Prop := gI σ 15 = nI X.length ∧ gI σ 16 = nI 0 ∧ X.Nodup ∧ (∀ v ∈ X, v < 10) ∧ (∀ s ∈ L, ∀ v ∈ e_nm s, v ∈ X) ∧ (∀ s ∈ L, e_q s < 2 ^ 30) ∧ (∀ a, a < X.length → gB σ 1 a = lN (97 + X.getD a 0) ∧ gA σ 11 a = zm) ∧ (∀ a, a < 24 → (gA σ 12 a ≠ nI 0 ↔ e_net L (nx' X a) = true) ∧ (gA σ 13 a ≠ nI 0 ↔ e_net L (nx' X a) = true) ∧ (gA σ 14 a ≠ nI 0 ↔ e_td L 3 (nx' X a) 0 ≠ none) ∧ gA σ 15 a = nI 0) ∧ ∀ a b, a < 24 → b < 24 → gA σ 16 (24 * a + b) = oI (e_td L 0 (nx' X a) (nx' X b)) ∧ gA σ 17 (24 * a + b) = nI 0 ∧ (a ≠ b → (gA σ 18 (24 * a + b) ≠ nI 0 ↔ e_td L 4 (nx' X a) (nx' X b) ≠ none)) ∧ (gA σ 19 (24 * a + b) ≠ nI 0 ↔ e_td L 1 (nx' X a) (nx' X b) ≠ none ∨ e_td L 1 (nx' X b) (nx' X a) ≠ none) ∧ gA σ 20 (24 * a + b) = oI (e_td L 2 (nx' X b) (nx' X a))
section P97q
variable {n f a b v q : Nat} {σ σ' σ0 : ej_S} {X : List Nat} {L : List St}
theorem MPB_10 (h : MPB σ X L) : X.length ≤ 10 := nd_len 10 X h.2.2.1 h.2.2.2.1
/-- nothing is told as yet -/
theorem MPB_0 (h15 : gI σ 15 = nI 0) (h16 : gI σ 16 = nI 0) (r1 : ∀ x, x < 576 → ri σ x) (r2 : ∀ x, x < 24 → rj σ x) : MPB σ [] [] := by
  refine ⟨h15, h16, List.nodup_nil, fun v h => (by cases h), fun s h => (by cases h), fun s h => (by cases h), fun a h => absurd h (Nat.not_lt_zero a), fun a ha => ?_, fun a b ha hb => ?_⟩
  · obtain ⟨e1, e2, e3, e4⟩ := r2 a ha
    exact ⟨⟨fun z => absurd e1 z, fun z => by cases z⟩, ⟨fun z => absurd e2 z, fun z => by cases z⟩, ⟨fun z => absurd e3 z, fun z => absurd rfl z⟩, e4⟩
  · obtain ⟨e1, e2, e3, e4, e5⟩ := r1 (24 * a + b) (by omega)
    exact ⟨e1, e2, fun _ => ⟨fun z => absurd e3 z, fun z => absurd rfl z⟩, ⟨fun z => absurd e4 z, fun z => z.elim (fun y => absurd rfl y) (fun y => absurd rfl y)⟩, e5⟩
theorem nx_snoc {a : Nat} (h : a ≠ X.length) : nx' (X ++ [v]) a = nx' X a := by
  unfold nx'
  rcases Nat.lt_or_ge a X.length with q | q
  · rw [List.getD_eq_getElem?_getD, List.getD_eq_getElem?_getD, List.getElem?_append_left q]
  · rw [gD_ge q, gD_ge (by rw [List.length_append]; show X.length + 1 ≤ a; omega)]
theorem nx_last : nx' (X ++ [v]) X.length = v := gD_app
/-- a name more -/
theorem MPB_add (h : MPB σ X L) (hv : v < 10) (hX : v ∉ X) (h15 : gI σ' 15 = nI (X.length + 1)) (hB : gB σ' 1 = vp_updL (gB σ 1) X.length (lN (97 + v))) (h11 : gA σ' 11 = upd (gA σ 11) X.length zm) (F : fr [15] [] [11] [1] [] σ σ') : MPB σ' (X ++ [v]) L := by
  obtain ⟨g15, g16, gn, g10, gL, gq, g1, g2, g3⟩ := h
  have l10 := nd_len 10 X gn g10
  have sw : ∀ a kd y, e_td L kd (nx' (X ++ [v]) a) y = e_td L kd (nx' X a) y := by
    intro a kd y
    by_cases z : a = X.length
    · rw [z, nx_last, nx_ge (Nat.le_refl _), td_x gL hX, td_x gL (fun w => by have := g10 _ w; omega)]
    · rw [nx_snoc z]
  have sy : ∀ a kd y, kd ≠ 3 → e_td L kd y (nx' (X ++ [v]) a) = e_td L kd y (nx' X a) := by
    intro a kd y hk
    by_cases z : a = X.length
    · rw [z, nx_last, nx_ge (Nat.le_refl _), td_y gL hk hX, td_y gL hk (fun w => by have := g10 _ w; omega)]
    · rw [nx_snoc z]
  have sn : ∀ a, e_net L (nx' (X ++ [v]) a) = e_net L (nx' X a) := by
    intro a
    by_cases z : a = X.length
    · rw [z, nx_last, nx_ge (Nat.le_refl _), net_x gL hX, net_x gL (fun w => by have := g10 _ w; omega)]
    · rw [nx_snoc z]
  refine ⟨by rw [h15, List.length_append]; rfl, by rw [F.1 16 (by simp)]; exact g16, ?_, ?_, fun s hs w hw => List.mem_append_left _ (gL s hs w hw), gq, ?_, fun a ha => ?_, fun a b ha hb => ?_⟩
  · rw [List.nodup_append]
    exact ⟨gn, by simp, fun x hx y hy => by rw [List.mem_singleton.mp hy]; exact fun e => hX (e ▸ hx)⟩
  · intro w hw
    rcases List.mem_append.mp hw with z | z
    · exact g10 w z
    · rw [List.mem_singleton.mp z]; exact hv
  · intro a ha
    rw [List.length_append] at ha
    have ha' : a < X.length + 1 := ha
    rw [hB, h11]
    by_cases z : a = X.length
    · rw [z]
      exact ⟨by rw [pk_uLs]; rw [← nx_at (by rw [List.length_append]; show X.length < X.length + 1; omega), nx_last], pk_us⟩
    · obtain ⟨q1, q2⟩ := g1 a (by omega)
      rw [pk_uLn z, pk_un z, ← nx_at (by rw [List.length_append]; exact ha), nx_snoc z, nx_at (by omega)]
      exact ⟨q1, q2⟩
  · rw [F.2.2.1 12 (by simp), F.2.2.1 13 (by simp), F.2.2.1 14 (by simp), F.2.2.1 15 (by simp), sn, sw]
    exact g2 a ha
  · rw [F.2.2.1 16 (by simp), F.2.2.1 17 (by simp), F.2.2.1 18 (by simp), F.2.2.1 19 (by simp), F.2.2.1 20 (by simp), sw, sw, sw, sw, sw, sy _ 0 _ (by omega), sy _ 4 _ (by omega), sy _ 1 _ (by omega), sy _ 1 _ (by omega), sy _ 2 _ (by omega)]
    exact g3 a b ha hb
/-- both ways of reading: building, or only looking -/
def BM (σ0 : ej_S) (f : Nat) : Bool → List Nat → List St → ej_S → Prop
  | true, X, L, σ => gI σ 6 = nI 1 ∧ gI σ 7 = nI f ∧ f < 4 ∧ MPB σ X L
  | false, _, _, σ => gI σ 6 = nI 0 ∧ ms σ0 σ
theorem BM_6 {m : Bool} (h : BM σ0 f m X L σ) : gI σ 6 = bI m := by
  cases m
  · exact h.1
  · exact h.1
theorem ms_f3 {I J A B M : List Nat} (F : fr I J A B M σ σ') (h : (I.all (fun k => ![15, 16].contains k) && A.all (fun k => ![11, 12, 13, 14, 15, 16, 17, 18, 19, 20].contains k) && B.all (fun k => ![1].contains k)) = true) : ms σ σ' := by
  simp only [Bool.and_eq_true] at h
  obtain ⟨⟨h1, h2⟩, h3⟩ := h
  have a : ∀ k, k ∈ [11, 12, 13, 14, 15, 16, 17, 18, 19, 20] → gA σ' k = gA σ k := fun k hk => F.2.2.1 k (nin h2 hk)
  refine ⟨F.1 15 (nin h1 (by simp)), F.1 16 (nin h1 (by simp)), F.2.2.2.1 1 (nin h3 (by simp)), a 11 (by simp), a 12 (by simp), a 13 (by simp), a 16 (by simp), a 17 (by simp), a 19 (by simp), a 20 (by simp), ?_, ?_, ?_⟩
  · intro i; rw [a 14 (by simp)]
  · intro i; rw [a 15 (by simp)]
  · intro i; rw [a 18 (by simp)]
theorem MPB_fr {I J A B M : List Nat} (h : MPB σ X L) (F : fr I J A B M σ σ') (hh : (I.all (fun k => ![15, 16].contains k) && A.all (fun k => ![11, 12, 13, 14, 15, 16, 17, 18, 19, 20].contains k) && B.all (fun k => ![1].contains k)) = true) : MPB σ' X L := by
  simp only [Bool.and_eq_true] at hh
  obtain ⟨⟨h1, h2⟩, h3⟩ := hh
  have a : ∀ k, k ∈ [11, 12, 13, 14, 15, 16, 17, 18, 19, 20] → gA σ' k = gA σ k := fun k hk => F.2.2.1 k (nin h2 hk)
  unfold MPB at *
  rw [F.1 15 (nin h1 (by simp)), F.1 16 (nin h1 (by simp)), F.2.2.2.1 1 (nin h3 (by simp)), a 11 (by simp), a 12 (by simp), a 13 (by simp), a 14 (by simp), a 15 (by simp), a 16 (by simp), a 17 (by simp), a 18 (by simp), a 19 (by simp), a 20 (by simp)]
  exact h
theorem BM_fr {m : Bool} {I J A B M : List Nat} (h : BM σ0 f m X L σ) (F : fr I J A B M σ σ') (h67 : (I.all (fun k => ![6, 7].contains k)) = true) (hh : (I.all (fun k => ![15, 16].contains k) && A.all (fun k => ![11, 12, 13, 14, 15, 16, 17, 18, 19, 20].contains k) && B.all (fun k => ![1].contains k)) = true) : BM σ0 f m X L σ' := by
  cases m
  · exact ⟨by rw [F.1 6 (nin h67 (by simp))]; exact h.1, ms_tr h.2 (ms_f3 F hh)⟩
  · exact ⟨by rw [F.1 6 (nin h67 (by simp))]; exact h.1, by rw [F.1 7 (nin h67 (by simp))]; exact h.2.1, h.2.2.1, MPB_fr h.2.2.2 F hh⟩
theorem BM_D {m : Bool} (h : BM σ0 f m X L σ) (F : FRD σ σ') : BM σ0 f m X L σ' := BM_fr h F (by decide) (by decide)
/-- a name has that node -/
def AtN (m : Bool) (X : List Nat) (r v : Nat) : Prop := r < 24 ∧ (m = true → r < X.length ∧ X.getD r 0 = v)
theorem add_pre {X : List Nat} {w i : Nat} (h : i < X.length) : i < (e_add X w).length ∧ (e_add X w).getD i 0 = X.getD i 0 := by
  unfold e_add
  split
  · exact ⟨h, rfl⟩
  · exact ⟨by rw [List.length_append]; omega, by rw [List.getD_eq_getElem?_getD, List.getD_eq_getElem?_getD, List.getElem?_append_left h]⟩
theorem AtN_add {m : Bool} {r w : Nat} (h : AtN m X r v) : AtN m (e_add X w) r v := ⟨h.1, fun hm => by
  obtain ⟨h1, h2⟩ := h.2 hm
  obtain ⟨h3, h4⟩ := add_pre (w := w) h1
  exact ⟨h3, h4.trans h2⟩⟩
/-- the node of a name -/
theorem q_node {m : Bool} (hn : 2000 < n) (h : BM σ0 f m X L σ) (hv : v < 10) : ∃ r σ', m11_nodeOf n (lN (97 + v)) σ = some (nI r, σ') ∧ BM σ0 f m (e_add X v) L σ' ∧ AtN m (e_add X v) r v ∧ fr [15] [] [11] [1] [] σ σ' := by
  cases m
  · refine ⟨0, σ, ?_, h, ⟨by omega, fun z => by cases z⟩, fr_rf⟩
    unfold m11_nodeOf
    rw [h.1, L_0, if_pos rfl]
  · obtain ⟨h6, h7, hf, hM⟩ := h
    have l10 := MPB_10 hM
    obtain ⟨g15, g16, gn, g10, gL, gq, g1, g2, g3⟩ := id hM
    have nof : ∀ i, i < X.length → gA σ 11 i ≠ nI f := fun i hi z => zm_ne (by omega) (z.symm.trans (g1 i hi).2)
    rcases r_nodeOf (n := n) (v := lN (97 + v)) hn h6 h7 g15 (by omega) false with ⟨i, i1, i2, i3, i4⟩ | ⟨q1, q2, i, i1, i2, i3, i4⟩ | ⟨q1, q2, q3⟩
    · exact absurd i3 (nof i i1)
    · rw [if_neg (by decide)] at i4
      have ev : X.getD i 0 = v := let_inj (g10 _ (gD_mem i1)) hv ((g1 i i1).1.symm.trans i2)
      have e : e_add X v = X := by unfold e_add; rw [if_pos (by rw [← ev]; exact gD_mem i1)]
      rw [e]
      exact ⟨i, σ, i4, ⟨h6, h7, hf, hM⟩, ⟨by omega, fun _ => ⟨i1, ev⟩⟩, fr_rf⟩
    · rw [if_neg (by decide), if_neg (by decide)] at q3
      have hX : v ∉ X := fun z => by
        obtain ⟨i, i1, i2⟩ := gD_ex z
        exact q2 rfl i i1 ⟨by rw [(g1 i i1).1, i2], (g1 i i1).2⟩
      obtain ⟨σ', e1, F, e15, eB, e11⟩ := r_make (n := n) (v := lN (97 + v)) g15 (by omega) zm
      have e : e_add X v = X ++ [v] := by unfold e_add; rw [if_neg hX]
      rw [e]
      refine ⟨X.length, σ', by rw [q3, e1], ⟨by rw [F.1 6 (by simp)]; exact h6, by rw [F.1 7 (by simp)]; exact h7, hf, MPB_add hM hv hX e15 eB e11 F⟩, ⟨by omega, fun _ => ⟨by rw [List.length_append]; show X.length < X.length + 1; omega, ?_⟩⟩, F⟩
      rw [← nx_at (by rw [List.length_append]; show X.length < X.length + 1; omega)]
      exact nx_last
end P97q
