/-! THE STEPS: what they cost, read off a map of the reference -/
def vl (x : Int32) : Nat := x.toNatClampNeg
def dmB (v : Int64) : Bool := decide (v &&& 255 = 46)
theorem dmB_iff (v : Int64) : dmB v = true ↔ isDm v := by unfold dmB isDm; rw [decide_eq_true_eq]
def oI : Option Nat → Int32
  | none => zm
  | some v => nI v
/-- a step's own cost -/
def scost (σ : ej_S) (a b k : Nat) : Option Nat :=
  if k = 1 then (if gA σ 19 (24 * a + b) = nI 0 then none else some 0)
  else if k = 2 then (if gA σ 16 (24 * a + b) = zm then none else some (vl (gA σ 16 (24 * a + b)) + (if gA σ 18 (24 * a + b) = nI 0 then 0 else 100000) + (if gA σ 14 a = nI 0 then 0 else 100000)))
  else if k = 3 then (if gA σ 20 (24 * a + b) = zm then none else some (vl (gA σ 20 (24 * a + b)) + (if gA σ 15 b = nI 0 then (if dmB (gB σ 1 b) = true then 70000 else 0) else 70000)))
  else if k = 4 then (if gA σ 20 (24 * b + a) = zm then none else some 0)
  else (if gA σ 21 (24 * a + b) = nI 0 then none else some (vl (gA σ 16 (24 * b + a)) + 200000))
def bkOK (σ : ej_S) : Prop := ∀ a b, a < 24 → b < 24 → gA σ 21 (24 * a + b) ≠ nI 0 → gA σ 16 (24 * b + a) ≠ zm
def kdN (σ : ej_S) (a : Nat) : Nat := if dmB (gB σ 1 a) = true then 2 else if gA σ 12 a = nI 0 then 0 else 1
def mkN (σ : ej_S) (a b k : Nat) : Nat := if k = 2 then (if gA σ 17 (24 * a + b) = nI 0 then 1 else 2) else if k = 4 then (if gA σ 13 a = nI 0 then 2 else 1) else if k = 5 then 1 else 0
def outB (σ : ej_S) (a b k : Nat) : Bool := (decide (k = 2) || decide (k = 4)) && (dmB (gB σ 1 a) && !dmB (gB σ 1 b))
def sbN (σ : ej_S) (a s b k : Nat) : Nat := (if mkN σ a b k = 2 then 1 else s % 2) + 2 * (if outB σ a b k = true then 1 else s / 2)
def dear (k : Nat) : Bool := decide (k = 2) || decide (k = 5) || decide (k = 3)
/-- what a state adds -/
def addN (σ : ej_S) (a s b k : Nat) : Nat := (if s % 2 = 1 ∧ mkN σ a b k = 1 then 50000 else 0) + (if s / 2 = 1 ∧ dear k = true then 60000 else 0)
theorem vl_nI {p : Nat} (h : p < 2 ^ 31) : vl (nI p) = p := nI_clamp h
theorem oI_m (o : Option Nat) (h : ∀ v, o = some v → v < 2 ^ 31) : oI o = zm ↔ o = none := by
  cases o with
  | none => exact ⟨fun _ => rfl, fun _ => rfl⟩
  | some v => exact ⟨fun e => absurd e (zm_ne (h v rfl)), fun e => by cases e⟩
theorem sbN_lt {σ : ej_S} {a s b k : Nat} (hs : s < 4) : sbN σ a s b k < 4 := by
  unfold sbN
  split <;> split <;> omega
theorem addN_le {σ : ej_S} {a s b k : Nat} : addN σ a s b k ≤ 110000 := by
  unfold addN
  split <;> split <;> omega
theorem vl_le {R : Nat → Int32} (h : wPr R) {x : Nat} (hx : x < 576) : vl (R x) ≤ 1000000 := by
  rcases h x hx with z | ⟨p, z1, z2⟩
  · rw [z]; have : vl zm = 0 := by decide +kernel
    omega
  · rw [z2, vl_nI (by omega)]; exact z1
theorem scost_bd {σ : ej_S} (w1 : wPr (gA σ 16)) (w2 : wPr (gA σ 20)) {a b k : Nat} (ha : a < 24) (hb : b < 24) {c : Nat} (h : scost σ a b k = some c) : c ≤ 1200000 := by
  have v1 := vl_le w1 (x := 24 * a + b) (by omega)
  have v2 := vl_le w1 (x := 24 * b + a) (by omega)
  have v3 := vl_le w2 (x := 24 * a + b) (by omega)
  unfold scost at h
  repeat' (first | (split at h) | (cases h; done))
  all_goals first
    | (cases h; done)
    | (have := Option.some.inj h
       repeat' split at this
       all_goals omega)
section P73
variable {n a b k s : Nat} {σ : ej_S}
theorem r_kindOf (ha : a < 24) : m11_kindOf n (nI a) σ = some (nI (kdN σ a), σ) := by
  unfold m11_kindOf kdN dmB
  simp (disch := omega) only [ck_t, nI_clamp, decide_eq_true_eq]
  by_cases g : gB σ 1 a &&& 255 = 46
  · rw [if_pos g, if_pos ((cmp_eq _ _).mpr g)]; rfl
  · rw [if_neg g, if_neg (fun z => g ((cmp_eq _ _).mp z))]
    simp only [L_0, L_1]
    split <;> rfl
theorem r_stepCost (w1 : wPr (gA σ 16)) (w2 : wPr (gA σ 20)) (hbk : bkOK σ) (ha : a < 24) (hb : b < 24) (hk : 1 ≤ k) (hk5 : k ≤ 5) : m11_stepCost n (nI a) (nI b) (nI k) σ = some (oI (scost σ a b k), σ) := by
  unfold m11_stepCost scost
  simp (disch := omega) only [ej_bi_s, ej_bl_s, ej_bv_s, ej_nm_e, L_24, pk_mul, nI_add, ck_t, nI_clamp, ↓L_m1, L_0, L_1, L_2, L_3, L_4, L_70000, L_100000, L_200000, nI_eq (show k < 2 ^ 31 by omega) (show 1 < 2 ^ 31 by omega), nI_eq (show k < 2 ^ 31 by omega) (show 2 < 2 ^ 31 by omega), nI_eq (show k < 2 ^ 31 by omega) (show 3 < 2 ^ 31 by omega), nI_eq (show k < 2 ^ 31 by omega) (show 4 < 2 ^ 31 by omega)]
  by_cases k1 : k = 1
  · rw [if_pos k1, if_pos k1]
    split <;> rfl
  · rw [if_neg k1, if_neg k1]
    by_cases k2 : k = 2
    · rw [if_pos k2, if_pos k2]
      by_cases g : gA σ 16 (24 * a + b) = zm
      · rw [if_pos g, if_pos g]; rfl
      · rw [if_neg g, if_neg g]
        rcases w1 (24 * a + b) (by omega) with z | ⟨p, z1, z2⟩
        · exact absurd z g
        · unfold m11_stepCost_81
          rw [z2, vl_nI (by omega)]
          simp (disch := omega) only [ck_t, nI_clamp, nI_add, L_0, L_100000]
          by_cases d1 : gA σ 18 (24 * a + b) = nI 0 <;> by_cases d2 : gA σ 14 a = nI 0 <;> simp only [d1, d2, if_true, if_false] <;> rfl
    · rw [if_neg k2, if_neg k2]
      by_cases k3 : k = 3
      · rw [if_pos k3, if_pos k3]
        by_cases g : gA σ 20 (24 * a + b) = zm
        · rw [if_pos g, if_pos g]; rfl
        · rw [if_neg g, if_neg g, r_kindOf hb]
          rcases w2 (24 * a + b) (by omega) with z | ⟨p, z1, z2⟩
          · exact absurd z g
          · rw [z2, vl_nI (by omega)]
            simp only [ej_bi_s, ej_bl_s, ej_bv_s, ej_nm_e, nI_add]
            unfold kdN
            by_cases d1 : gA σ 15 b = nI 0
            · rw [if_pos d1, if_pos d1]
              by_cases d2 : dmB (gB σ 1 b) = true
              · rw [if_pos d2, if_pos d2, if_pos rfl]; rfl
              · rw [if_neg d2, if_neg d2]
                split
                · rw [if_neg (by decide +kernel)]; rfl
                · rw [if_neg (by decide +kernel)]; rfl
            · rw [if_neg d1, if_neg d1]; rfl
      · rw [if_neg k3, if_neg k3]
        by_cases k4 : k = 4
        · rw [if_pos k4, if_pos k4]
          split <;> rfl
        · rw [if_neg k4, if_neg k4]
          by_cases g : gA σ 21 (24 * a + b) = nI 0
          · rw [if_pos g, if_pos g]; rfl
          · rw [if_neg g, if_neg g]
            rcases w1 (24 * b + a) (by omega) with z | ⟨p, z1, z2⟩
            · exact absurd z (hbk a b ha hb g)
            · rw [z2, vl_nI (by omega), nI_add]; rfl
theorem r_mark_38 (y : Int32) (hk5 : k ≤ 5) : m11_mark_38 n (nI k) y σ = some (nI (if k = 1 then 0 else if k = 3 then 0 else if y = nI 0 then 1 else 2), σ) := by
  unfold m11_mark_38
  simp only [L_0, L_1, L_2, L_3, nI_eq (show k < 2 ^ 31 by omega) (show 1 < 2 ^ 31 by omega), nI_eq (show k < 2 ^ 31 by omega) (show 3 < 2 ^ 31 by omega)]
  split
  · rfl
  · split
    · rfl
    · split <;> rfl
theorem r_mark (ha : a < 24) (hb : b < 24) (hk : 1 ≤ k) (hk5 : k ≤ 5) : m11_mark n (nI a) (nI b) (nI k) σ = some (nI (mkN σ a b k), σ) := by
  unfold m11_mark mkN
  simp (disch := omega) only [L_24, pk_mul, nI_add, ck_t, nI_clamp, L_0, L_1, L_2, L_4, r_mark_38, nI_eq (show k < 2 ^ 31 by omega) (show 2 < 2 ^ 31 by omega), nI_eq (show k < 2 ^ 31 by omega) (show 4 < 2 ^ 31 by omega)]
  have e : k = 1 ∨ k = 2 ∨ k = 3 ∨ k = 4 ∨ k = 5 := by omega
  rcases e with rfl | rfl | rfl | rfl | rfl
  · simp
  · simp
  · simp
  · by_cases g : gA σ 13 a = nI 0 <;> simp [g, n10]
  · simp
theorem v_or : ∀ s, s < 4 → ((nI s ||| 1) ||| 0 = nI (1 + 2 * (s / 2))) ∧ ((nI s ||| 1) ||| 2 = nI (1 + 2 * 1)) ∧ ((nI s ||| 0) ||| 0 = nI (s % 2 + 2 * (s / 2))) ∧ ((nI s ||| 0) ||| 2 = nI (s % 2 + 2 * 1)) := by decide +kernel
theorem r_stateBehind (ha : a < 24) (hb : b < 24) (hk : 1 ≤ k) (hk5 : k ≤ 5) (hs : s < 4) : m11_stateBehind n (nI a) (nI s) (nI b) (nI k) σ = some (nI (sbN σ a s b k), σ) := by
  obtain ⟨v1, v2, v3, v4⟩ := v_or s hs
  have e35 : ∀ o : Bool, m11_stateBehind_35 n (nI a) (nI s) (nI b) (nI k) (bI o) σ = some (nI ((if mkN σ a b k = 2 then 1 else s % 2) + 2 * (if o = true then 1 else s / 2)), σ) := by
    intro o
    have hm : mkN σ a b k ≤ 2 := by unfold mkN; repeat' split
                                    all_goals omega
    unfold m11_stateBehind_35
    rw [r_mark ha hb hk hk5, ej_bi_s, v1, v2, v3, v4]
    simp only [L_0, L_2, ibI, nI_eq (show mkN σ a b k < 2 ^ 31 by omega) (show 2 < 2 ^ 31 by omega)]
    by_cases g : mkN σ a b k = 2 <;> cases o <;> simp [g]
  have e12 : m11_stateBehind_12 n (nI a) (nI s) (nI b) (nI k) σ = some (nI ((if mkN σ a b k = 2 then 1 else s % 2) + 2 * (if (dmB (gB σ 1 a) && !dmB (gB σ 1 b)) = true then 1 else s / 2)), σ) := by
    have hk2 : ∀ x, (nI (kdN σ x) = nI 2) ↔ dmB (gB σ 1 x) = true := by
      intro x
      unfold kdN
      by_cases g : dmB (gB σ 1 x) = true
      · rw [if_pos g]; exact ⟨fun _ => g, fun _ => rfl⟩
      · rw [if_neg g]
        split
        · exact ⟨fun z => absurd z (by decide +kernel), fun z => absurd z g⟩
        · exact ⟨fun z => absurd z (by decide +kernel), fun z => absurd z g⟩
    unfold m11_stateBehind_12
    rw [r_kindOf ha, ej_bi_s, r_kindOf hb, ej_bi_s]
    have q0 := e35 false
    have q1 := e35 true
    rw [bI_f] at q0
    rw [bI_t] at q1
    simp only [L_0, L_1, L_2, q0, q1, hk2]
    cases dmB (gB σ 1 a) <;> cases dmB (gB σ 1 b) <;> simp
  unfold m11_stateBehind sbN outB
  have q0 := e35 false
  rw [bI_f] at q0
  simp only [L_0, L_2, L_4, q0, e12, nI_eq (show k < 2 ^ 31 by omega) (show 2 < 2 ^ 31 by omega), nI_eq (show k < 2 ^ 31 by omega) (show 4 < 2 ^ 31 by omega)]
  by_cases k2 : k = 2
  · simp [k2]
  · by_cases k4 : k = 4
    · simp [k4]
    · simp [k2, k4]
theorem v_and1 : ∀ s, s < 4 → ((nI s &&& 1 = 1) ↔ s % 2 = 1) ∧ ((nI s ≤ 1) ↔ s / 2 = 0) := by decide +kernel
theorem r_costIn (w1 : wPr (gA σ 16)) (w2 : wPr (gA σ 20)) (hbk : bkOK σ) (ha : a < 24) (hb : b < 24) (hk : 1 ≤ k) (hk5 : k ≤ 5) (hs : s < 4) {c : Nat} (hc : scost σ a b k = some c) : m11_costIn n (nI a) (nI s) (nI b) (nI k) σ = some (nI (c + addN σ a s b k), σ) := by
  obtain ⟨v1, v2⟩ := v_and1 s hs
  have hst := r_stepCost (n := n) w1 w2 hbk ha hb hk hk5
  rw [hc] at hst
  have hst : m11_stepCost n (nI a) (nI b) (nI k) σ = some (nI c, σ) := hst
  have hs2 : s / 2 = 0 ∨ s / 2 = 1 := by omega
  have e51 : ∀ (d : Bool) (m : Nat), m11_costIn_51 n (nI a) (nI s) (nI b) (nI k) (bI d) (nI m) σ = some (nI (c + (m + (if s / 2 = 1 ∧ d = true then 60000 else 0))), σ) := by
    intro d m
    unfold m11_costIn_51
    rw [hst, ej_bi_s]
    have v2' : (nI s ≤ nI 1) ↔ s / 2 = 0 := v2
    simp only [L_1, v2', L_0, L_60000, nI_add, ibI, Nat.add_zero]
    rcases hs2 with g | g
    · simp [g]
    · cases d <;> simp [g, Nat.add_assoc]
  have hm : mkN σ a b k ≤ 2 := by unfold mkN; repeat' split
                                  all_goals omega
  have e23 : ∀ d : Bool, m11_costIn_23 n (nI a) (nI s) (nI b) (nI k) (bI d) σ = some (nI (c + ((if s % 2 = 1 ∧ mkN σ a b k = 1 then 50000 else 0) + (if s / 2 = 1 ∧ d = true then 60000 else 0))), σ) := by
    intro d
    unfold m11_costIn_23
    rw [r_mark ha hb hk hk5, ej_bi_s]
    have v1' : (nI s &&& nI 1 = nI 1) ↔ s % 2 = 1 := v1
    simp only [L_0, L_50000, L_1, v1', nI_eq (show mkN σ a b k < 2 ^ 31 by omega) (show 1 < 2 ^ 31 by omega), e51]
    by_cases g : s % 2 = 1
    · by_cases g2 : mkN σ a b k = 1
      · simp [g, g2]
      · simp [g, g2]
    · simp [g]
  unfold m11_costIn addN dear
  have q0 := e23 false
  have q1 := e23 true
  rw [bI_f] at q0
  rw [bI_t] at q1
  simp only [L_0, L_1, L_2, L_3, L_5, q0, q1, nI_eq (show k < 2 ^ 31 by omega) (show 2 < 2 ^ 31 by omega), nI_eq (show k < 2 ^ 31 by omega) (show 3 < 2 ^ 31 by omega), nI_eq (show k < 2 ^ 31 by omega) (show 5 < 2 ^ 31 by omega)]
  by_cases k2 : k = 2
  · simp [k2]
  · by_cases k5 : k = 5
    · simp [k5]
    · by_cases k3 : k = 3
      · simp [k3]
      · simp [k2, k3, k5]
end P73
