/-! ROUTES printed -/
/-- both have the same route laid out -/
def RCc (σ σr : ej_S) (rt kd : Nat → Nat) (L : Nat) : Prop := L ≤ 23 ∧ (∀ i, i ≤ L → rt i < 96 ∧ rt i / 4 < NN σr ∧ gA σ 31 i = nI (rt i)) ∧ ∀ i, i < L → 1 ≤ kd (i + 1) ∧ kd (i + 1) ≤ 5 ∧ gA σ 28 (rt (i + 1)) = nI (kd (i + 1)) ∧ ∃ c, scost σr (rt i / 4) (rt (i + 1) / 4) (kd (i + 1)) = some c
def RCr (σ : ej_S) (rt kd : Nat → Nat) (L : Nat) : Prop := L ≤ 23 ∧ gI σ 17 = nI L ∧ (∀ i, i ≤ L → rt i < 96 ∧ rt i / 4 < NN σ ∧ gA σ 27 i = nI (rt i)) ∧ ∀ i, i < L → 1 ≤ kd (i + 1) ∧ kd (i + 1) ≤ 5 ∧ gA σ 26 (rt (i + 1)) = nI (kd (i + 1))
noncomputable def nmA (σ : ej_S) (rt : Nat → Nat) (i : Nat) : List Nat := nL (gB σ 1 (rt i / 4))
def dmA (σ : ej_S) (rt : Nat → Nat) (i : Nat) : Bool := dmB (gB σ 1 (rt i / 4))
def mkA (σ : ej_S) (rt kd : Nat → Nat) (i : Nat) : Nat := if kdN σ (rt (i + 1) / 4) = 0 then mkN σ (rt i / 4) (rt (i + 1) / 4) (kd (i + 1)) else 0
def onw (k : Nat) : Bool := decide (k = 2) || decide (k = 5) || decide (k = 4)
def cfd (σ : ej_S) (rt kd : Nat → Nat) (i : Nat) : Bool := onw (kd (i + 1)) && dmA σ rt i
noncomputable def chn (σ : ej_S) (rt kd : Nat → Nat) : Nat → List Nat
  | 0 => []
  | i + 1 => if cfd σ rt kd i = true then nmA σ rt i ++ chn σ rt kd i else []
noncomputable def nmW (σ : ej_S) (rt kd : Nat → Nat) (i : Nat) : List Nat := nmA σ rt i ++ chn σ rt kd i
noncomputable def lft (σ : ej_S) (rt kd : Nat → Nat) : Nat → List Nat
  | 0 => []
  | i + 1 => lft σ rt kd i ++ (if mkA σ rt kd i = 1 then nmW σ rt kd (i + 1) ++ [33] else [])
noncomputable def rgt (σ : ej_S) (rt kd : Nat → Nat) : Nat → List Nat
  | 0 => []
  | i + 1 => (if mkA σ rt kd i = 2 then 64 :: nmW σ rt kd (i + 1) else []) ++ rgt σ rt kd i
theorem nmA_8 {σ : ej_S} {rt : Nat → Nat} {i : Nat} (hv : isNm (gB σ 1 (rt i / 4))) : (nmA σ rt i).length ≤ 8 := (nL_sp hv).2.2.1
/-- what is printed is short -/
theorem lr_len {σ : ej_S} {rt kd : Nat → Nat} : ∀ (i : Nat), (∀ j, j ≤ i → isNm (gB σ 1 (rt j / 4))) → (lft σ rt kd i).length + (rgt σ rt kd i).length ≤ 9 * (i + 1) ∧ (dmA σ rt i = true → (lft σ rt kd i).length + (rgt σ rt kd i).length + (nmW σ rt kd i).length ≤ 9 * (i + 1))
  | 0, h => by
    have := nmA_8 (h 0 (Nat.le_refl _))
    have e : (nmW σ rt kd 0).length = (nmA σ rt 0).length := by unfold nmW chn; rw [List.append_nil]
    have e1 : (lft σ rt kd 0).length = 0 := rfl
    have e2 : (rgt σ rt kd 0).length = 0 := rfl
    have e3 : (chn σ rt kd 0).length = 0 := rfl
    exact ⟨by omega, fun _ => by omega⟩
  | i + 1, h => by
    obtain ⟨h1, h2⟩ := lr_len (kd := kd) i (fun j hj => h j (by omega))
    have n8 := nmA_8 (h (i + 1) (Nat.le_refl _))
    have ew : (nmW σ rt kd (i + 1)).length = (nmA σ rt (i + 1)).length + (chn σ rt kd (i + 1)).length := by unfold nmW; rw [List.length_append]
    have ew0 : (nmW σ rt kd i).length = (nmA σ rt i).length + (chn σ rt kd i).length := by unfold nmW; rw [List.length_append]
    have ec : (lft σ rt kd i).length + (rgt σ rt kd i).length + (chn σ rt kd (i + 1)).length ≤ 9 * (i + 1) := by
      show _ + (if cfd σ rt kd i = true then nmA σ rt i ++ chn σ rt kd i else []).length ≤ _
      by_cases q : cfd σ rt kd i = true
      · rw [if_pos q, List.length_append]
        have : dmA σ rt i = true := by
          unfold cfd at q
          rw [Bool.and_eq_true] at q; exact q.2
        have := h2 this
        omega
      · rw [if_neg q]
        show _ + 0 ≤ _
        omega
    have el : (lft σ rt kd (i + 1)).length = (lft σ rt kd i).length + (if mkA σ rt kd i = 1 then (nmW σ rt kd (i + 1)).length + 1 else 0) := by
      show (lft σ rt kd i ++ _).length = _
      rw [List.length_append]
      by_cases q : mkA σ rt kd i = 1
      · rw [if_pos q, if_pos q, List.length_append]; rfl
      · rw [if_neg q, if_neg q]; rfl
    have er : (rgt σ rt kd (i + 1)).length = (if mkA σ rt kd i = 2 then (nmW σ rt kd (i + 1)).length + 1 else 0) + (rgt σ rt kd i).length := by
      show (_ ++ rgt σ rt kd i).length = _
      rw [List.length_append]
      by_cases q : mkA σ rt kd i = 2
      · rw [if_pos q, if_pos q, List.length_cons]
      · rw [if_neg q, if_neg q]; rfl
    by_cases q0 : mkA σ rt kd i = 0
    · rw [if_neg (by omega)] at el er
      exact ⟨by omega, fun _ => by omega⟩
    · have nd : dmA σ rt (i + 1) = false := by
        have : kdN σ (rt (i + 1) / 4) = 0 := Classical.byContradiction fun z => q0 (if_neg z)
        unfold kdN at this
        unfold dmA
        cases e : dmB (gB σ 1 (rt (i + 1) / 4))
        · rfl
        · rw [if_pos e] at this; omega
      have tot : (lft σ rt kd (i + 1)).length + (rgt σ rt kd (i + 1)).length ≤ (lft σ rt kd i).length + (rgt σ rt kd i).length + (nmW σ rt kd (i + 1)).length + 1 := by
        rw [el, er]
        by_cases q1 : mkA σ rt kd i = 1
        · rw [if_pos q1, if_neg (by omega)]; omega
        · rw [if_neg q1]
          split <;> omega
      exact ⟨by omega, fun z => (by rw [nd] at z; cases z)⟩
theorem kdN_le {σ : ej_S} {a : Nat} : kdN σ a ≤ 2 := by
  unfold kdN
  split
  · omega
  · split <;> omega
section P90
variable {n L : Nat} {σ σr : ej_S} {rt kd : Nat → Nat}
theorem RCc_fr {I J A B M : List Nat} {s : ej_S} (h : RCc σ σr rt kd L) (f : fr I J A B M σ s) (h1 : 31 ∉ A) (h2 : 28 ∉ A) : RCc s σr rt kd L := by
  unfold RCc at *
  rw [f.2.2.1 31 h1, f.2.2.1 28 h2]; exact h
theorem RCr_fr {I J A B M : List Nat} {s : ej_S} (h : RCr σ rt kd L) (f : fr I J A B M σ s) (h0 : 17 ∉ I) (h00 : 15 ∉ I) (h1 : 27 ∉ A) (h2 : 26 ∉ A) : RCr s rt kd L := by
  unfold RCr NN at *
  rw [f.1 17 h0, f.1 15 h00, f.2.2.1 27 h1, f.2.2.1 26 h2]; exact h
theorem relG_1 {s : ej_S} (h : relG σ σr) (p : fr [1] [] [1] [] [] σ s) : relG s σr := relG_fr h p (by simp) (by simp) (by simp) (by simp) (by simp) (by simp) (by simp) (by simp) (by simp) (by simp) (by simp) (by simp) (by simp) (by simp) (by simp) (by simp) (by simp)
theorem x_keyOn {i : Nat} (h : RCc σ σr rt kd L) (hi : i ≤ L) : m9_keyOn n (nI i) σ = some (nI (rt i), σ) := by
  have := h.1
  unfold m9_keyOn
  rw [L_0, L_96, ilt_f (Nat.zero_le _) (by omega), ile_f (by omega) (by omega), ck_t (by omega) (by omega), nI_clamp (by omega), (h.2.1 i hi).2.2]
theorem x_nodeOn {i : Nat} (h : RCc σ σr rt kd L) (hi : i ≤ L) : m2_nodeOn n (nI i) σ = some (nI (rt i / 4), σ) := by
  have := (h.2.1 i hi).1
  unfold m2_nodeOn
  rw [x_keyOn h hi, ej_bi_s, L_4, pk_div (by omega) (by omega) (by omega)]
theorem x_kindOn {i : Nat} (h : RCc σ σr rt kd L) (hi : i < L) : m9_kindOfKey n (nI (rt (i + 1))) σ = some (nI (kd (i + 1)), σ) := by
  have := (h.2.1 (i + 1) hi).1
  unfold m9_kindOfKey
  rw [L_0, L_96, ilt_f (Nat.zero_le _) (by omega), ile_f this (by omega), ck_t this (by omega), nI_clamp (by omega), (h.2.2 i hi).2.2.1]
theorem x_printedMark {i : Nat} (hG : relG σ σr) (h : RCc σ σr rt kd L) (hi : i < L) : m2_printedMark n (nI (i + 1)) σ = some (nI (mkA σr rt kd i), σ) := by
  have hL := h.1
  obtain ⟨a1, a2, a3⟩ := h.2.1 i (by omega)
  obtain ⟨b1, b2, b3⟩ := h.2.1 (i + 1) hi
  obtain ⟨c1, c2, c3, c, c4⟩ := h.2.2 i hi
  obtain ⟨m, m1, m2, m3⟩ := x_markOf_any (n := n) hG a2 (show rt (i + 1) / 4 < 24 by omega) c1 c2
  have hk := kdN_le (σ := σr) (a := rt (i + 1) / 4)
  unfold m2_printedMark mkA
  rw [x_nodeOn h hi, ej_bi_s, x_keyOn h hi, ej_bi_s, x_kindOn h hi, ej_bi_s, x_kindOf hG b2, ej_bi_s, L_1, nI_m2 (by omega), Nat.add_sub_cancel, L_0]
  by_cases g : kdN σr (rt (i + 1) / 4) = 0
  · rw [if_pos g, ieq_t g, x_nodeOn h (by omega), ej_bi_s, m2, ej_bi_s, m3 c c4]
  · rw [if_neg g, ieq_f g (by omega) (by omega)]
theorem x_cfd {i : Nat} (hG : relG σ σr) (h : RCc σ σr rt kd L) (hi : i < L) : m2_comesFromDomain n (nI (i + 1)) σ = some (bI (cfd σr rt kd i), σ) := by
  have hL := h.1
  obtain ⟨a1, a2, a3⟩ := h.2.1 i (by omega)
  obtain ⟨c1, c2, c3, c, c4⟩ := h.2.2 i hi
  have e31 : m2_comesFromDomain_31 n (nI (i + 1)) σ = some (bI (dmA σr rt i), σ) := by
    unfold m2_comesFromDomain_31 dmA
    rw [L_1, nI_m2 (by omega), Nat.add_sub_cancel, x_nodeOn h (by omega), ej_bi_s, x_isDomain hG a2, ej_bi_s, L_0]
    cases dmB (gB σr 1 (rt i / 4))
    · rw [bI_f, if_pos rfl]
    · rw [bI_t, if_neg n10]
  unfold m2_comesFromDomain cfd onw
  rw [x_keyOn h hi, ej_bi_s, x_kindOn h hi, ej_bi_s, e31, L_0, L_2, L_4, L_5]
  by_cases k2 : kd (i + 1) = 2
  · rw [ieq_t k2, decide_eq_true k2, Bool.true_or, Bool.true_or, Bool.true_and]
  · rw [ieq_f k2 (by omega) (by omega), decide_eq_false k2, Bool.false_or]
    by_cases k5 : kd (i + 1) = 5
    · rw [ieq_t k5, decide_eq_true k5, Bool.true_or, Bool.true_and]
    · rw [ieq_f k5 (by omega) (by omega), decide_eq_false k5, Bool.false_or]
      by_cases k4 : kd (i + 1) = 4
      · rw [ieq_t k4, decide_eq_true k4, Bool.true_and]
      · rw [ieq_f k4 (by omega) (by omega), decide_eq_false k4, Bool.false_and]; rfl
theorem x_nameOf {a : Nat} (hG : relG σ σr) (ha : a < NN σr) : m0_nameOf n (nI a) σ = some (gB σr 1 a, σ) := by
  have h24 := (G_N hG).1
  unfold m0_nameOf
  rw [G_has hG ha, ej_bi_s, L_0, if_neg n10, ck_t (by omega) (by omega), nI_clamp (by omega), hG.2.1.2.2.1 a ha]
theorem G_nm {a : Nat} (hG : relG σ σr) (ha : a < NN σr) : isNm (gB σr 1 a) := by
  obtain ⟨N, h0, h1, h2, w1, _⟩ := hG.1
  exact w1 a (by rw [NN_eq h1 h0] at ha; exact ha)
theorem x_wnw_21 (hn : 2000 < n) : ∀ (i k : Nat) (σ : ej_S) (l : List Nat), relG σ σr → RCc σ σr rt kd L → i ≤ L → TX σ 1 l → l.length + (chn σr rt kd i).length ≤ 1200 → i < k → ∃ σ', m2_writeNameOnWay_21 n k (nI i) σ = some σ' ∧ TX σ' 1 (l ++ chn σr rt kd i) ∧ fr [1] [] [1] [] [] σ σ' := by
  intro i
  induction i with
  | zero =>
    intro k σ l hG hR hi hT hl hk
    obtain ⟨k, rfl⟩ : ∃ k', k = k' + 1 := ⟨k - 1, by omega⟩
    rw [u_2_writeNameOnWay_21, L_1, ilt_t (by omega) (by omega)]
    refine ⟨σ, rfl, ?_, fr_rf⟩
    show TX σ 1 (l ++ [])
    rw [List.append_nil]; exact hT
  | succ i ih =>
    intro k σ l hG hR hi hT hl hk
    obtain ⟨k, rfl⟩ : ∃ k', k = k' + 1 := ⟨k - 1, by omega⟩
    have hL := hR.1
    rw [u_2_writeNameOnWay_21, L_m1, L_1, ilt_f (by omega) (by omega), x_cfd hG hR (by omega), ej_bi_s, L_0]
    have ech : chn σr rt kd (i + 1) = if cfd σr rt kd i = true then nmA σr rt i ++ chn σr rt kd i else [] := rfl
    cases g : cfd σr rt kd i
    · rw [bI_f, if_pos rfl]
      refine ⟨σ, rfl, ?_, fr_rf⟩
      rw [ech, g, if_neg (by decide), List.append_nil]; exact hT
    · obtain ⟨a1, a2, a3⟩ := hR.2.1 i (by omega)
      rw [ech, g, if_pos rfl] at hl ⊢
      rw [List.length_append] at hl
      have hnm := G_nm hG a2
      obtain ⟨σ1, e1, t1, f1⟩ := x_appendName (n := n) hn hnm hT (show l.length + (nmA σr rt i).length ≤ 1200 by omega)
      rw [bI_t, if_neg n10, nI_m2 (by omega), Nat.add_sub_cancel, x_nodeOn hR (by omega), ej_bi_s, x_nameOf hG a2, ej_bl_s, e1, ej_bv_s, nI_m1 (by omega), Nat.add_sub_cancel, ej_nm_e]
      obtain ⟨σ', r1, r2, r3⟩ := ih k σ1 (l ++ nmA σr rt i) (relG_1 hG f1) (RCc_fr hR f1 (by simp) (by simp)) (by omega) t1 (by rw [List.length_append]; omega) (by omega)
      exact ⟨σ', r1, by rw [← List.append_assoc]; exact r2, fr_tr f1 r3⟩
theorem x_wnw {i : Nat} {l : List Nat} (hn : 2000 < n) (hG : relG σ σr) (hR : RCc σ σr rt kd L) (hi : i ≤ L) (hT : TX σ 1 l) (hl : l.length + (nmW σr rt kd i).length ≤ 1200) : ∃ σ', m2_writeNameOnWay n (nI i) σ = some σ' ∧ TX σ' 1 (l ++ nmW σr rt kd i) ∧ fr [1] [] [1] [] [] σ σ' := by
  have hL := hR.1
  obtain ⟨a1, a2, a3⟩ := hR.2.1 i hi
  unfold nmW at *
  rw [List.length_append] at hl
  obtain ⟨σ1, e1, t1, f1⟩ := x_appendName (n := n) hn (G_nm hG a2) hT (show l.length + (nmA σr rt i).length ≤ 1200 by omega)
  unfold m2_writeNameOnWay
  rw [x_nodeOn hR hi, ej_bi_s, x_nameOf hG a2, ej_bl_s, e1, ej_bv_s]
  obtain ⟨σ', r1, r2, r3⟩ := x_wnw_21 (n := n) hn i n σ1 (l ++ nmA σr rt i) (relG_1 hG f1) (RCc_fr hR f1 (by simp) (by simp)) hi t1 (by rw [List.length_append]; omega) (by omega)
  exact ⟨σ', r1, by rw [← List.append_assoc]; exact r2, fr_tr f1 r3⟩
/-- from i on, to the left -/
theorem x_writeLeft_2 (hn : 2000 < n) : ∀ (k i : Nat) (σ : ej_S) (l : List Nat), relG σ σr → RCc σ σr rt kd L → i ≤ L → TX σ 1 (l ++ lft σr rt kd i) → l.length + (lft σr rt kd L).length ≤ 1200 → (∀ j, j ≤ L → (lft σr rt kd j).length ≤ (lft σr rt kd L).length) → L - i < k → ∃ σ', m2_writeLeft_2 n k (nI L) (nI (i + 1)) σ = some σ' ∧ TX σ' 1 (l ++ lft σr rt kd L) ∧ fr [1] [] [1] [] [] σ σ' := by
  intro k
  induction k with
  | zero => intro i σ l _ _ _ _ _ _ h; omega
  | succ k ih =>
    intro i σ l hG hR hi hT hl hmon hk
    have hL := hR.1
    rw [u_2_writeLeft_2]
    rcases Nat.lt_or_ge i L with q | q
    · have el : lft σr rt kd (i + 1) = lft σr rt kd i ++ (if mkA σr rt kd i = 1 then nmW σr rt kd (i + 1) ++ [33] else []) := rfl
      have hm := hmon (i + 1) q
      have m2 : mkA σr rt kd i ≤ 2 := by
        unfold mkA mkN
        repeat' split
        all_goals omega
      rw [ilt_f (by omega) (by omega), x_printedMark hG hR q, ej_bi_s, L_1]
      by_cases g : mkA σr rt kd i = 1
      · rw [if_pos g] at el
        rw [ieq_t g]
        rw [el] at hm
        simp only [List.length_append] at hm
        have h1 : (List.cons 33 [] : List Nat).length = 1 := rfl
        obtain ⟨σ1, e1, t1, f1⟩ := x_wnw (n := n) (i := i + 1) hn hG hR q hT (by rw [List.length_append]; omega)
        obtain ⟨σ2, e2, t2, f2⟩ := x_append (n := n) (b := 33) (v := nI 33) t1 (by rw [List.length_append, List.length_append]; show _ < 1200; omega) (by omega) (and255 (by omega))
        rw [e1, ej_bv_s, L_33, e2, ej_bv_s, nI_add, ej_nm_e]
        rw [List.append_assoc, List.append_assoc, ← el] at t2
        have f12 := fr_tr f1 f2
        obtain ⟨σ', r1, r2, r3⟩ := ih (i + 1) σ2 l (relG_1 hG f12) (RCc_fr hR f12 (by simp) (by simp)) q t2 hl hmon (by omega)
        exact ⟨σ', r1, r2, fr_tr f12 r3⟩
      · rw [if_neg g, List.append_nil] at el
        rw [ieq_f g (by omega) (by omega), nI_add, ej_nm_e]
        exact ih (i + 1) σ l hG hR q (by rw [el]; exact hT) hl hmon (by omega)
    · have e : i = L := by omega
      subst e
      rw [ilt_t (by omega) (by omega)]
      exact ⟨σ, rfl, hT, fr_rf⟩
theorem lft_mono : ∀ (i j : Nat), i ≤ j → (lft σr rt kd i).length ≤ (lft σr rt kd j).length := by
  intro i j hij
  induction j with
  | zero =>
    have : i = 0 := by omega
    rw [this]; exact Nat.le_refl _
  | succ j ih =>
    rcases Nat.eq_or_lt_of_le hij with z | z
    · rw [z]; exact Nat.le_refl _
    · refine Nat.le_trans (ih (by omega)) ?_
      show _ ≤ (lft σr rt kd j ++ _).length
      rw [List.length_append]; omega
theorem x_writeLeft {l : List Nat} (hn : 2000 < n) (hG : relG σ σr) (hR : RCc σ σr rt kd L) (hT : TX σ 1 l) (hl : l.length + (lft σr rt kd L).length ≤ 1200) : ∃ σ', m2_writeLeft n (nI L) σ = some σ' ∧ TX σ' 1 (l ++ lft σr rt kd L) ∧ fr [1] [] [1] [] [] σ σ' := by
  have hL := hR.1
  unfold m2_writeLeft
  rw [L_1]
  exact x_writeLeft_2 hn n 0 σ l hG hR (Nat.zero_le _) (by show TX σ 1 (l ++ []); rw [List.append_nil]; exact hT) hl (fun j hj => lft_mono j L hj) (by omega)
theorem x_writeRight_2 (hn : 2000 < n) : ∀ (i k : Nat) (σ : ej_S) (l : List Nat), relG σ σr → RCc σ σr rt kd L → i ≤ L → TX σ 1 l → l.length + (rgt σr rt kd i).length ≤ 1200 → i < k → ∃ σ', m2_writeRight_2 n k (nI i) σ = some σ' ∧ TX σ' 1 (l ++ rgt σr rt kd i) ∧ fr [1] [] [1] [] [] σ σ' := by
  intro i
  induction i with
  | zero =>
    intro k σ l hG hR hi hT hl hk
    obtain ⟨k, rfl⟩ : ∃ k', k = k' + 1 := ⟨k - 1, by omega⟩
    rw [u_2_writeRight_2, L_1, ilt_t (by omega) (by omega)]
    refine ⟨σ, rfl, ?_, fr_rf⟩
    show TX σ 1 (l ++ [])
    rw [List.append_nil]; exact hT
  | succ i ih =>
    intro k σ l hG hR hi hT hl hk
    obtain ⟨k, rfl⟩ : ∃ k', k = k' + 1 := ⟨k - 1, by omega⟩
    have hL := hR.1
    have el : rgt σr rt kd (i + 1) = (if mkA σr rt kd i = 2 then 64 :: nmW σr rt kd (i + 1) else []) ++ rgt σr rt kd i := rfl
    have m2 : mkA σr rt kd i ≤ 2 := by
      unfold mkA mkN
      repeat' split
      all_goals omega
    rw [u_2_writeRight_2, L_m1, L_1, ilt_f (by omega) (by omega), x_printedMark hG hR (by omega), ej_bi_s, L_2]
    by_cases g : mkA σr rt kd i = 2
    · rw [if_pos g] at el
      rw [el, List.length_append, List.length_cons] at hl
      obtain ⟨σ1, e1, t1, f1⟩ := x_append (n := n) (b := 64) (v := nI 64) hT (by show _ < 1200; omega) (by omega) (and255 (by omega))
      obtain ⟨σ2, e2, t2, f2⟩ := x_wnw (n := n) hn (relG_1 hG f1) (RCc_fr hR f1 (by simp) (by simp)) hi t1 (by rw [List.length_append]; show l.length + 1 + _ ≤ 1200; omega)
      have f12 := fr_tr f1 f2
      rw [ieq_t g, L_64, e1, ej_bv_s, e2, ej_bv_s, nI_m1 (by omega), Nat.add_sub_cancel, ej_nm_e]
      rw [List.append_assoc] at t2
      obtain ⟨σ', r1, r2, r3⟩ := ih k σ2 _ (relG_1 hG f12) (RCc_fr hR f12 (by simp) (by simp)) (by omega) t2 (by simp only [List.length_append, List.length_cons, List.length_nil]; omega) (by omega)
      refine ⟨σ', r1, ?_, fr_tr f12 r3⟩
      rw [el, ← List.append_assoc]; exact r2
    · rw [if_neg g, List.nil_append] at el
      rw [ieq_f g (by omega) (by omega), nI_m1 (by omega), Nat.add_sub_cancel, ej_nm_e]
      rw [el] at hl ⊢
      exact ih k σ l hG hR (by omega) hT hl (by omega)
theorem x_writeRight {l : List Nat} (hn : 2000 < n) (hG : relG σ σr) (hR : RCc σ σr rt kd L) (hT : TX σ 1 l) (hl : l.length + (rgt σr rt kd L).length ≤ 1200) : ∃ σ', m2_writeRight n (nI L) σ = some σ' ∧ TX σ' 1 (l ++ rgt σr rt kd L) ∧ fr [1] [] [1] [] [] σ σ' := by
  have hL := hR.1
  unfold m2_writeRight
  exact x_writeRight_2 hn L n σ l hG hR (Nat.le_refl _) hT hl (by omega)
end P90
