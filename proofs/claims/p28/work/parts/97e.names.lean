/-! THE LAW'S NAMES: read anew -/
theorem nd_len : ∀ (N : Nat) (X : List Nat), X.Nodup → (∀ v ∈ X, v < N) → X.length ≤ N := by
  intro N
  induction N with
  | zero =>
    intro X _ h
    cases X with
    | nil => exact Nat.le_refl _
    | cons a r => exact absurd (h a List.mem_cons_self) (Nat.not_lt_zero _)
  | succ N ih =>
    intro X hX h
    by_cases hm : N ∈ X
    · have h1 := ih (X.erase N) (hX.erase N) (fun v hv => by
        have := (hX.mem_erase_iff).mp hv
        have := h v this.2
        omega)
      rw [List.length_erase_of_mem hm] at h1
      omega
    · exact Nat.le_succ_of_le (ih X hX (fun v hv => by
        have h1 := h v hv
        have : v ≠ N := fun e => hm (e ▸ hv)
        omega))
/-- the last place of a name among the first j -/
def e_ixj (X : List Nat) (v : Nat) : Nat → Option Nat
  | 0 => none
  | j + 1 => if X.getD j 0 = v then some j else e_ixj X v j
def e_ix (X : List Nat) (v : Nat) : Option Nat := e_ixj X v X.length
theorem e_ixj_none {X : List Nat} {v : Nat} : ∀ {j : Nat}, e_ixj X v j = none → ∀ i, i < j → X.getD i 0 ≠ v := by
  intro j
  induction j with
  | zero => intro _ i h; omega
  | succ j ih =>
    intro h i hi
    unfold e_ixj at h
    split at h
    · cases h
    · rename_i z
      rcases Nat.lt_or_ge i j with w | w
      · exact ih h i w
      · rw [show i = j by omega]; exact z
theorem e_ixj_some {X : List Nat} {v : Nat} : ∀ {j i : Nat}, e_ixj X v j = some i → i < j ∧ X.getD i 0 = v := by
  intro j
  induction j with
  | zero => intro i h; cases h
  | succ j ih =>
    intro i h
    unfold e_ixj at h
    split at h
    · rename_i z; cases h; exact ⟨by omega, z⟩
    · have := ih h; exact ⟨by omega, this.2⟩
theorem gD_mem {X : List Nat} {i : Nat} (h : i < X.length) : X.getD i 0 ∈ X := by
  rw [List.getD_eq_getElem?_getD, List.getElem?_eq_getElem h]
  exact List.getElem_mem h
theorem gD_ex {X : List Nat} {v : Nat} (h : v ∈ X) : ∃ i, i < X.length ∧ X.getD i 0 = v := by
  obtain ⟨i, h1, h2⟩ := List.getElem_of_mem h
  exact ⟨i, h1, by rw [List.getD_eq_getElem?_getD, List.getElem?_eq_getElem h1]; exact h2⟩
theorem gD_inj {X : List Nat} (hX : X.Nodup) {i j : Nat} (hi : i < X.length) (hj : j < X.length) (h : X.getD i 0 = X.getD j 0) : i = j := by
  rw [List.getD_eq_getElem?_getD, List.getD_eq_getElem?_getD, List.getElem?_eq_getElem hi, List.getElem?_eq_getElem hj] at h
  exact (List.getElem_inj hX).mp h
theorem e_ix_none {X : List Nat} {v : Nat} (h : e_ix X v = none) : v ∉ X := fun hv => by
  obtain ⟨i, h1, h2⟩ := gD_ex hv
  exact e_ixj_none h i h1 h2
theorem e_ix_some {X : List Nat} {v i : Nat} (h : e_ix X v = some i) : i < X.length ∧ X.getD i 0 = v := e_ixj_some h
theorem e_ix_mem {X : List Nat} {v i : Nat} (h : e_ix X v = some i) : v ∈ X := by
  have := e_ix_some h
  rw [← this.2]; exact gD_mem this.1
theorem e_ix_at {X : List Nat} (hX : X.Nodup) {i : Nat} (hi : i < X.length) : e_ix X (X.getD i 0) = some i := by
  cases h : e_ix X (X.getD i 0) with
  | none => exact absurd (gD_mem hi) (e_ix_none h)
  | some k =>
    have := e_ix_some h
    rw [gD_inj hX this.1 hi this.2]
theorem LX_10 {τ : ej_S} {X : List Nat} (h : LX τ X) : X.length ≤ 10 := nd_len 10 X h.2.1 h.2.2.2
theorem add_nd {X : List Nat} {v : Nat} (h : X.Nodup) (hv : v ∉ X) : (X ++ [v]).Nodup := by
  rw [List.nodup_append]
  exact ⟨h, by simp, fun a ha b hb e => by rw [List.mem_singleton.mp hb] at e; exact hv (e ▸ ha)⟩
theorem e_nm_drop {T : Nat → Nat} {j p : Nat} (h1 : 1 ≤ p) (h2 : p ≤ e_my (e_s T j)) : (e_nm (e_s T j)).drop (p - 1) = T (5 * j + p) :: (e_nm (e_s T j)).drop p := by
  have h3 : e_my (e_s T j) = 3 ∨ e_my (e_s T j) = 1 ∨ e_my (e_s T j) = 2 := by
    unfold e_my
    split
    · exact .inl rfl
    · split
      · exact .inr (.inl rfl)
      · exact .inr (.inr rfl)
  unfold e_nm
  rcases h3 with h | h | h
  · rw [h] at h2 ⊢
    have : p = 1 ∨ p = 2 ∨ p = 3 := by omega
    rcases this with rfl | rfl | rfl <;> rfl
  · rw [h] at h2 ⊢
    have : p = 1 := by omega
    subst this; rfl
  · rw [h] at h2 ⊢
    have : p = 1 ∨ p = 2 := by omega
    rcases this with rfl | rfl <;> rfl
theorem e_nm_end {T : Nat → Nat} {j p : Nat} (h : e_my (e_s T j) < p) : (e_nm (e_s T j)).drop (p - 1) = [] := by
  apply List.drop_eq_nil_of_le
  unfold e_nm
  rw [List.length_take]
  omega
section P97e
variable {n j h0 h1 v : Nat} {c τ : ej_S} {T : Nat → Nat} {X : List Nat}
theorem L_node_5 (hX : LX τ X) (hv : v < 2 ^ 31) : ∀ (fu j : Nat), j ≤ X.length → X.length - j < fu → mL_node_5 n fu (nI v) (oI (e_ixj X v j)) (nI j) (c, τ) = some (oI (e_ix X v), (c, τ)) := by
  have h10 := LX_10 hX
  obtain ⟨g2, _, g1, gb⟩ := hX
  intro fu
  induction fu with
  | zero => intro j _ h; omega
  | succ fu ih =>
    intro j hj hf
    have e2 : gA (c, τ).2 2 2 = nI X.length := g2
    rw [u_L_node_5, L_2, ck_t (by omega) (by omega), nI_clamp (by omega), e2]
    rcases Nat.eq_or_lt_of_le hj with rfl | q
    · rw [ile_t (Nat.le_refl _) (by omega)]; rfl
    · have e1 : gA (c, τ).2 1 j = nI (X.getD j 0) := g1 j q
      have hb := gb _ (gD_mem q)
      rw [ile_f q (by omega), ck_t (by omega) (by omega), nI_clamp (by omega), e1, L_1, nI_add, ej_nm_e, ej_nm_e]
      have key := ih (j + 1) q (by omega)
      unfold e_ixj at key
      by_cases z : X.getD j 0 = v
      · rw [if_pos z] at key; rw [ieq_t z]; exact key
      · rw [if_neg z] at key; rw [ieq_f z (by omega) hv]; exact key
theorem L_node (hn : 2000 < n) (hX : LX τ X) (hv : v < 2 ^ 31) : mL_node n (nI v) (c, τ) = some (oI (e_ix X v), (c, τ)) := by
  have h10 := LX_10 hX
  unfold mL_node
  rw [L_m1, L_0]
  exact L_node_5 hX hv n 0 (Nat.zero_le _) (by omega)
/-- a name more, or not -/
theorem L_reads_44 (hn : 2000 < n) (f6 : Int32 → lw_S → Option lw_S) (hj : j < 12) : ∀ (fu p : Nat) (τ : ej_S) (X : List Nat), LT τ T h0 h1 → LX τ X → 1 ≤ p → p ≤ e_my (e_s T j) + 1 → e_my (e_s T j) + 1 - p < fu → ∃ τ', mL_reads_44 n f6 fu (nI j) (nI (e_my (e_s T j))) (nI p) (c, τ) = f6 (nI (j + 1)) (c, τ') ∧ LT τ' T h0 h1 ∧ LX τ' (if e_hd h0 h1 j = true then ((e_nm (e_s T j)).drop (p - 1)).foldl e_add X else X) ∧ gA τ' 2 3 = gA τ 2 3 := by
  have hm : e_my (e_s T j) ≤ 3 := by
    unfold e_my
    split
    · omega
    · split <;> omega
  intro fu
  induction fu with
  | zero => intro p τ X _ _ _ _ h; omega
  | succ fu ih =>
    intro p τ X hT hX hp1 hp2 hf
    have h10 := LX_10 hX
    rw [u_L_reads_44]
    rcases Nat.lt_or_ge (e_my (e_s T j)) p with q | q
    · rw [ilt_t q (by omega), L_1, nI_add, ej_nm_e]
      refine ⟨τ, rfl, hT, ?_, rfl⟩
      rw [e_nm_end q]
      split
      · exact hX
      · exact hX
    · rw [ilt_f q (by omega), L_holds hT hj, ej_bi_s, L_0, ibI]
      cases hh : e_hd h0 h1 j
      · rw [if_neg (by decide), L_1, nI_add, ej_nm_e, if_neg (by decide)]
        exact ⟨τ, rfl, hT, hX, rfl⟩
      · rw [if_pos rfl, if_pos rfl, e_nm_drop hp1 q]
        have hb : T (5 * j + p) < 10 := by
          have := hT.2.1 j hj
          have : p = 1 ∨ p = 2 ∨ p = 3 := by omega
          rcases this with rfl | rfl | rfl <;> omega
        have e0 : gA (c, τ).2 0 (5 * j + p) = nI (T (5 * j + p)) := hT.1 _ (by omega)
        rw [L_5, pk_mul, nI_add, ck_t (by omega) (by omega), nI_clamp (show 5 * j + p < 2 ^ 31 by omega), e0, L_node hn hX (by omega), ej_bi_s]
        rw [List.foldl_cons]
        cases hx : e_ix X (T (5 * j + p)) with
        | some i =>
          have hi := e_ix_some hx
          have ha : e_add X (T (5 * j + p)) = X := if_pos (e_ix_mem hx)
          rw [show oI (some i) = nI i from rfl, ile_t (Nat.zero_le _) (by omega), L_1, nI_add, ej_nm_e, ha]
          have key := ih (p + 1) τ X hT hX (by omega) (by omega) (by omega)
          rw [hh, if_pos rfl, Nat.add_sub_cancel] at key
          exact key
        | none =>
          have hne := e_ix_none hx
          have ha : e_add X (T (5 * j + p)) = X ++ [T (5 * j + p)] := if_neg hne
          obtain ⟨x2, xn, x1, xb⟩ := id hX
          have e2 : gA (c, τ).2 2 2 = nI X.length := x2
          rw [show oI none = zm from rfl, if_neg (show ¬ nI 0 ≤ zm from zm_nle (by omega)), L_2, ck_t (by omega) (by omega), nI_clamp (show 2 < 2 ^ 31 by omega), e2, ck_t (by omega) (by omega), ck_t (by omega) (by omega), ej_nm_e, nI_clamp (by omega), ck_t (by omega) (by omega), ck_t (by omega) (by omega), ej_nm_e, L_1, nI_add, ej_nm_e, e0]
          have t2 : gA (uA τ 1 X.length (nI (T (5 * j + p)))) 2 2 = nI X.length := by rw [s_AA_n (by omega)]; exact x2
          show ∃ τ', mL_reads_44 n f6 fu (nI j) (nI (e_my (e_s T j))) (nI (p + 1)) (c, uA (uA τ 1 X.length (nI (T (5 * j + p)))) 2 2 (gA (uA τ 1 X.length (nI (T (5 * j + p)))) 2 2 + nI 1)) = _ ∧ _
          rw [t2, nI_add]
          have HT : LT (uA (uA τ 1 X.length (nI (T (5 * j + p)))) 2 2 (nI (X.length + 1))) T h0 h1 := by
            obtain ⟨a1, a2, a3, a4, a5⟩ := hT
            refine ⟨fun i hi => by rw [s_AA_n (by omega), s_AA_n (by omega)]; exact a1 i hi, a2, ?_, ?_, a5⟩
            · rw [s_AA_s, pk_un (by omega), s_AA_n (by omega)]; exact a3
            · rw [s_AA_s, pk_un (by omega), s_AA_n (by omega)]; exact a4
          have HX : LX (uA (uA τ 1 X.length (nI (T (5 * j + p)))) 2 2 (nI (X.length + 1))) (X ++ [T (5 * j + p)]) := by
            refine ⟨by rw [s_AA_s, pk_us, List.length_append]; rfl, add_nd xn hne, fun i hi => ?_, fun w hw => ?_⟩
            · rw [List.length_append, List.length_singleton] at hi
              rw [s_AA_n (by omega), s_AA_s]
              rcases Nat.eq_or_lt_of_le (show i ≤ X.length by omega) with rfl | w
              · rw [pk_us, List.getD_eq_getElem?_getD, List.getElem?_append_right (Nat.le_refl _), Nat.sub_self]; rfl
              · rw [pk_un (by omega), x1 i w, List.getD_eq_getElem?_getD, List.getD_eq_getElem?_getD, List.getElem?_append_left w]
            · rcases List.mem_append.mp hw with w1 | w1
              · exact xb w w1
              · rw [List.mem_singleton.mp w1]; exact hb
          obtain ⟨τ', k1, k2, k3, k4⟩ := ih (p + 1) _ _ HT HX (by omega) (by omega) (by omega)
          rw [hh, if_pos rfl, Nat.add_sub_cancel] at k3
          refine ⟨τ', k1, k2, by rw [ha]; exact k3, k4.trans ?_⟩
          rw [s_AA_s, pk_un (by omega), s_AA_n (by omega)]
theorem e_ns_step (T : Nat → Nat) (h0 h1 j : Nat) : e_ns (e_L T h0 h1 (j + 1)) = if e_hd h0 h1 j = true then (e_nm (e_s T j)).foldl e_add (e_ns (e_L T h0 h1 j)) else e_ns (e_L T h0 h1 j) := by
  cases hh : e_hd h0 h1 j
  · rw [if_neg (by decide), e_L_f hh]
  · rw [if_pos rfl, e_L_t hh, e_ns_snoc]
theorem L_reads_6 (hn : 2000 < n) : ∀ (fu j : Nat) (τ : ej_S), LT τ T h0 h1 → LX τ (e_ns (e_L T h0 h1 j)) → j ≤ 12 → 12 - j < fu → ∃ τ', mL_reads_6 n fu (nI j) (c, τ) = some (c, τ') ∧ LT τ' T h0 h1 ∧ LX τ' (e_ns (e_L T h0 h1 12)) ∧ gA τ' 2 3 = gA τ 2 3 := by
  intro fu
  induction fu with
  | zero => intro j _ _ _ _ h; omega
  | succ fu ih =>
    intro j τ hT hX hj hf
    rw [u_L_reads_6, L_12]
    rcases Nat.eq_or_lt_of_le hj with rfl | q
    · rw [ile_t (Nat.le_refl _) (by omega)]
      exact ⟨τ, rfl, hT, hX, rfl⟩
    · have e0 : gA (c, τ).2 0 (5 * j) = nI (T (5 * j)) := hT.1 _ (by omega)
      have b0 := (hT.2.1 j q).1
      rw [ile_f q (by omega), L_5, pk_mul, ck_t (by omega) (by omega), nI_clamp (by omega), e0, L_1, L_2, L_3]
      have go : ∀ m, m = e_my (e_s T j) → ∃ τ', mL_reads_44 n (mL_reads_6 n fu) n (nI j) (nI m) (nI 1) (c, τ) = some (c, τ') ∧ LT τ' T h0 h1 ∧ LX τ' (e_ns (e_L T h0 h1 12)) ∧ gA τ' 2 3 = gA τ 2 3 := by
        intro m hm
        have hm3 : e_my (e_s T j) ≤ 3 := by
          unfold e_my
          split
          · omega
          · split <;> omega
        obtain ⟨τ1, k1, k2, k3, k4⟩ := L_reads_44 (n := n) (c := c) hn (mL_reads_6 n fu) q n 1 τ _ hT hX (Nat.le_refl _) (by omega) (by omega)
        rw [Nat.sub_self, List.drop_zero, ← e_ns_step] at k3
        obtain ⟨τ2, g1, g2, g3, g4⟩ := ih (j + 1) τ1 k2 k3 q (by omega)
        exact ⟨τ2, by rw [hm, k1, g1], g2, g3, g4.trans k4⟩
      have ek : e_k (e_s T j) = T (5 * j) := rfl
      by_cases c2 : T (5 * j) = 2
      · rw [ieq_t c2]
        exact go 3 (by unfold e_my; rw [ek, if_pos c2])
      · rw [ieq_f c2 (by omega) (by omega), ck_t (by omega) (by omega)]
        by_cases c3 : T (5 * j) = 3
        · rw [ieq_t c3]
          exact go 1 (by unfold e_my; rw [ek, if_neg c2, if_pos c3])
        · rw [ieq_f c3 (by omega) (by omega)]
          exact go 2 (by unfold e_my; rw [ek, if_neg c2, if_neg c3])
theorem L_reads (hn : 2000 < n) (hT : LT τ T h0 h1) : ∃ τ', mL_reads n (c, τ) = some (c, τ') ∧ LT τ' T h0 h1 ∧ LX τ' (e_ns (e_L T h0 h1 12)) ∧ gA τ' 2 3 = gA τ 2 3 := by
  unfold mL_reads
  rw [L_2, ck_t (by omega) (by omega), ej_nm_e, nI_clamp (by omega), L_0]
  have HT : LT (uA τ 2 2 (nI 0)) T h0 h1 := by
    obtain ⟨a1, a2, a3, a4, a5⟩ := hT
    refine ⟨fun i hi => by rw [s_AA_n (by omega)]; exact a1 i hi, a2, ?_, ?_, a5⟩
    · rw [s_AA_s, pk_un (by omega)]; exact a3
    · rw [s_AA_s, pk_un (by omega)]; exact a4
  have HX : LX (uA τ 2 2 (nI 0)) (e_ns (e_L T h0 h1 0)) := ⟨by rw [s_AA_s, pk_us]; rfl, List.nodup_nil, fun i hi => absurd hi (Nat.not_lt_zero i), fun w hw => by cases hw⟩
  obtain ⟨τ', k1, k2, k3, k4⟩ := L_reads_6 (n := n) (c := c) hn n 0 _ HT HX (Nat.zero_le _) (by omega)
  exact ⟨τ', k1, k2, k3, k4.trans (by rw [s_AA_s, pk_un (by omega)])⟩
end P97e
