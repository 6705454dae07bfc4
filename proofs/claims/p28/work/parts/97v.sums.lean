/-! SUMS, worked out by the plain reading -/
def opT : List (Nat × Nat) → List Nat
  | [] => []
  | p :: r => p.1 :: (dgs p.2 ++ opT r)
def okOp (p : Nat × Nat) : Prop := (p.1 = 42 ∨ p.1 = 47 ∨ p.1 = 43 ∨ p.1 = 45) ∧ 1 ≤ p.2 ∧ p.2 ≤ 30
/-- what stands left, its sign, the product at hand -/
abbrev SV : Type := Int × Int × Nat
def svT (v : SV) : Int := v.1 + v.2.1 * (v.2.2 : Int)
def svS (v : SV) (p : Nat × Nat) : SV := if p.1 = 43 then (svT v, 1, p.2) else if p.1 = 45 then (svT v, -1, p.2) else if p.1 = 42 then (v.1, v.2.1, v.2.2 * p.2) else (v.1, v.2.1, v.2.2 / p.2)
def svF (v : SV) (ps : List (Nat × Nat)) : SV := ps.foldl svS v
/-- how great they may be -/
def svB (v : SV) (B : Nat) : Prop := (v.2.1 = 1 ∨ v.2.1 = -1) ∧ v.1.natAbs + v.2.2 ≤ B ∧ 30 ≤ B
theorem svT_b {v : SV} {B : Nat} (h : svB v B) : (svT v).natAbs ≤ v.1.natAbs + v.2.2 := by
  obtain ⟨h1, _, _⟩ := h
  unfold svT
  rcases h1 with z | z
  · rw [z]; omega
  · rw [z]; omega
theorem svS_B {v : SV} {p : Nat × Nat} {B : Nat} (h : svB v B) (hp : okOp p) : svB (svS v p) (30 * B) := by
  obtain ⟨p1, p2, p3⟩ := hp
  have ht := svT_b h
  obtain ⟨h1, h2, h3⟩ := h
  unfold svS
  by_cases k43 : p.1 = 43
  · rw [if_pos k43]
    exact ⟨.inl rfl, by show (svT v).natAbs + p.2 ≤ 30 * B; omega, by omega⟩
  · rw [if_neg k43]
    by_cases k45 : p.1 = 45
    · rw [if_pos k45]
      exact ⟨.inr rfl, by show (svT v).natAbs + p.2 ≤ 30 * B; omega, by omega⟩
    · rw [if_neg k45]
      by_cases k42 : p.1 = 42
      · rw [if_pos k42]
        refine ⟨h1, ?_, by omega⟩
        show v.1.natAbs + v.2.2 * p.2 ≤ 30 * B
        have : v.2.2 * p.2 ≤ v.2.2 * 30 := Nat.mul_le_mul_left _ p3
        omega
      · rw [if_neg k42]
        refine ⟨h1, ?_, by omega⟩
        show v.1.natAbs + v.2.2 / p.2 ≤ 30 * B
        have : v.2.2 / p.2 ≤ v.2.2 := Nat.div_le_self _ _
        omega
theorem svF_B : ∀ (ps : List (Nat × Nat)) (v : SV) (B : Nat), svB v B → (∀ p ∈ ps, okOp p) → svB (svF v ps) (30 ^ ps.length * B)
  | [], v, B, h, _ => by rw [show 30 ^ ([] : List (Nat × Nat)).length * B = B by simp]; exact h
  | p :: ps, v, B, h, hp => by
    have := svF_B ps (svS v p) (30 * B) (svS_B h (hp p List.mem_cons_self)) (fun x hx => hp x (List.mem_cons_of_mem _ hx))
    rw [show 30 ^ (p :: ps).length * B = 30 ^ ps.length * (30 * B) by rw [List.length_cons, Nat.pow_succ, Nat.mul_assoc]]
    exact this
/-- numbers behind which no figure stands -/
theorem tkD {q : Nat} {r : List Nat} (hr : ∀ c r', r = c :: r' → isDg c = false) (hs : sld r) : srL (dgs q ++ r) = 48 ∧ enL (dgs q ++ r) = (dgs q).length ∧ nxt (dgs q ++ r) = r := by
  cases r with
  | cons c r' =>
    obtain ⟨h1, h2, h3⟩ := tk_dg' (q := q) (r := r') (hr c r' rfl)
    rw [hs] at h3
    exact ⟨h1, h2, h3⟩
  | nil =>
    have hd : ∀ b ∈ dgs q, isDg b = true := dg_is
    have hl := (dgs_len q).2
    rw [List.append_nil]
    have key : ∀ w : List Nat, (∀ b ∈ w, isDg b = true) → spn isDg w = w.length := by
      intro w
      induction w with
      | nil => intro _; rfl
      | cons b w ih =>
        intro h
        show (if isDg b then spn isDg w + 1 else 0) = _
        rw [if_pos (h b List.mem_cons_self), ih (fun x hx => h x (List.mem_cons_of_mem _ hx))]; rfl
    generalize dgs q = w at *
    cases w with
    | nil => exact absurd hl (by decide)
    | cons b w =>
      have e1 := dg_sr (hd b List.mem_cons_self)
      have e2 : enL (b :: w) = (b :: w).length := by
        show 1 + spn (gon (srtc b)) w = _
        rw [e1, spn_cg _ gon_48, key w (fun x hx => hd x (List.mem_cons_of_mem _ hx))]
        show _ = w.length + 1
        omega
      refine ⟨e1, e2, ?_⟩
      unfold nxt
      rw [e2, List.drop_length]; rfl
theorem opT_hd {ps : List (Nat × Nat)} (h : ∀ p ∈ ps, okOp p) : (∀ c r', opT ps = c :: r' → isDg c = false) ∧ sld (opT ps) := by
  cases ps with
  | nil => exact ⟨fun c r' e => (by cases e), sld_nil⟩
  | cons p ps =>
    have hp := (h p List.mem_cons_self).1
    refine ⟨fun c r' e => ?_, sld_c (by omega)⟩
    have : p.1 = c := (List.cons.inj e).1
    rw [← this]
    rcases hp with z | z | z | z <;> rw [z] <;> rfl
theorem op_sg {c : Nat} (h : c = 42 ∨ c = 47 ∨ c = 43 ∨ c = 45) : (srtc c = c ∧ c ≠ 97 ∧ c ≠ 65 ∧ c ≠ 48) ∧ c ≠ 63 := by
  rcases h with z | z | z | z <;> rw [z] <;> decide
theorem dgs_sld {q : Nat} {r : List Nat} : sld (dgs q ++ r) := by
  have hl := (dgs_len q).2
  have hd : ∀ b ∈ dgs q, isDg b = true := dg_is
  generalize dgs q = w at *
  cases w with
  | nil => exact absurd hl (by decide)
  | cons b w =>
    have := isDg_gt (hd b List.mem_cons_self)
    exact sld_c (by omega)
section P97v
variable {n f q : Nat} {σ : ej_S} {l r : List Nat}
theorem nx_D (hn : 2000 < n) (hs : RS σ f l) (hq : q < 1000000) (hr : ∀ c r', r = c :: r' → isDg c = false) (hd : sld r) (h : RD σ l (dgs q ++ r)) : gI σ 2 = nI 3 ∧ gI σ 5 = nI q ∧ ∃ σ', m11_next n σ = some σ' ∧ RD σ' l r ∧ fr [1, 2, 3, 4, 5] [0] [] [] [] σ σ' := by
  obtain ⟨t1, t2, t3⟩ := tkD (q := q) hr hd
  have e2 := RD_2 h
  have e5 := RD_dg h t1
  rw [t1] at e2
  rw [t2, List.take_left, nmR_dgs hq] at e5
  obtain ⟨σ', e, d, F⟩ := r_nx (n := n) hn hs h
  rw [t3] at d
  exact ⟨e2, e5, σ', e, d, F⟩
/-- what a sign makes of two -/
theorem wk_to {x y : Int32} {s : Nat} {z : Int} (hs : s = 42 ∨ s = 47 ∨ s = 43 ∨ s = 45) (hx : bd x) (hz : (cmb s x y).toInt = z) (hb : z.natAbs ≤ 1000000) (a : Int32) : ∃ σ', m11_isWorked n (nI s) x y a σ = some (nI 1, σ') ∧ fr [9, 10, 14] [] [] [] [] σ σ' ∧ (gI σ' 14).toInt = z := by
  obtain ⟨σ', e1, F, e2, _⟩ := r_isWorked (n := n) (σ := σ) (y := y) hs hx a
  have ok : okL (cmb s x y) = true := by
    unfold okL
    rw [hz, decide_eq_true (show -1000000 ≤ z by omega), decide_eq_true (show z ≤ 1000000 by omega)]; rfl
  rw [ok] at e1
  refine ⟨σ', e1, F, ?_⟩
  rw [e2 ok, Int64.toInt_toInt32, fb_bmod (by rw [hz]; omega) (by rw [hz]; omega), hz]
theorem cmb_43 {x y : Int32} (hx : x.toInt.natAbs ≤ 1000000) (hy : y.toInt.natAbs ≤ 1000000) : (cmb 43 x y).toInt = x.toInt + y.toInt := by
  unfold cmb
  rw [if_pos rfl, fb_addL (by rw [Int32.toInt_toInt64, Int32.toInt_toInt64]; omega) (by rw [Int32.toInt_toInt64, Int32.toInt_toInt64]; omega), Int32.toInt_toInt64, Int32.toInt_toInt64]
theorem cmb_45 {x y : Int32} (hx : x.toInt.natAbs ≤ 1000000) (hy : y.toInt.natAbs ≤ 1000000) : (cmb 45 x y).toInt = x.toInt - y.toInt := by
  unfold cmb
  rw [if_neg (by omega), if_pos rfl, fb_subL (by rw [Int32.toInt_toInt64, Int32.toInt_toInt64]; omega) (by rw [Int32.toInt_toInt64, Int32.toInt_toInt64]; omega), Int32.toInt_toInt64, Int32.toInt_toInt64]
theorem cmb_42 {x : Int32} {P q : Nat} (hx : x.toInt = P) (hP : P ≤ 1000000) (hq : q ≤ 30) : (cmb 42 x (nI q)).toInt = ((P * q : Nat) : Int) := by
  have hy : (nI q).toInt = q := nI_toInt (by omega)
  have hm : P * q ≤ 1000000 * 30 := Nat.mul_le_mul hP hq
  have e : (P : Int) * (q : Int) = ((P * q : Nat) : Int) := (Int.natCast_mul P q).symm
  unfold cmb
  rw [if_neg (by omega), if_neg (by omega), if_pos rfl, fb_mulL (by rw [Int32.toInt_toInt64, Int32.toInt_toInt64, hx, hy, e]; omega) (by rw [Int32.toInt_toInt64, Int32.toInt_toInt64, hx, hy, e]; omega), Int32.toInt_toInt64, Int32.toInt_toInt64, hx, hy, e]
theorem cmb_47 {x : Int32} {P q : Nat} (hx : x.toInt = P) (hP : P ≤ 1000000) (hq1 : 1 ≤ q) (hq : q ≤ 30) : (cmb 47 x (nI q)).toInt = ((P / q : Nat) : Int) := by
  have hy : (nI q).toInt = q := nI_toInt (by omega)
  have ex : x = nI P := Int32.toInt_inj.mp (by rw [hx, nI_toInt (by omega)])
  unfold cmb
  rw [if_neg (by omega), if_neg (by omega), if_neg (by omega), if_neg (fun z => by
    have := congrArg Int64.toInt z
    rw [Int32.toInt_toInt64, hy] at this
    have h0 : (0 : Int64).toInt = 0 := rfl
    omega), ex, tI64 (by omega), tI64 (by omega)]
  rw [Int64.toInt_div_of_ne_left _ _ (by
    intro z
    have := congrArg Int64.toInt z
    rw [← tI64 (show P < 2 ^ 31 by omega), Int32.toInt_toInt64, nI_toInt (by omega)] at this
    have h0 : (Int64.minValue).toInt = -9223372036854775808 := by decide +kernel
    omega)]
  rw [← tI64 (show P < 2 ^ 31 by omega), ← tI64 (show q < 2 ^ 31 by omega), Int32.toInt_toInt64, Int32.toInt_toInt64, nI_toInt (by omega), nI_toInt (by omega)]
  rw [Int.ofNat_tdiv]
/-- a sum, half read -/
def AS (σ : ej_S) (v : SV) : Prop := gI σ 13 = nI 0 ∧ (gI σ 14).toInt = (v.2.2 : Int) ∧ ((gA σ 6 0 = nI 0 ∧ v.1 = 0 ∧ v.2.1 = 1) ∨ (gA σ 6 0 = nI 43 ∧ (gA σ 5 0).toInt = v.1 ∧ v.2.1 = 1) ∨ (gA σ 6 0 = nI 45 ∧ (gA σ 5 0).toInt = v.1 ∧ v.2.1 = -1))
abbrev FRV (σ s : ej_S) : Prop := fr [1, 2, 3, 4, 5, 9, 10, 13, 14] [0] [5, 6, 7, 8, 9, 10] [] [] σ s
theorem bd_of {x : Int32} {z : Int} (h : x.toInt = z) (hb : z.natAbs ≤ 1000000) : bd x := by
  unfold bd
  rw [h]; omega
theorem AS_fold {v : SV} {B : Nat} (h : AS σ v) (hB : svB v B) (hb : B ≤ 1000000) (F : ej_S → Option (Int32 × ej_S)) : ∃ s, ej_ck (gI σ 13) 602 ((if gA σ 6 (gI σ 13).toNatClampNeg = 0 then (m11_closes_167 n F σ) else ej_ck (gI σ 13) 602 (ej_ck (gI σ 13) 602 (ej_ck (gI σ 13) 602 (ej_bi (m11_isWorked n (gA σ 6 (gI σ 13).toNatClampNeg) (gA σ 5 (gI σ 13).toNatClampNeg) (gI σ 14) (gA σ 7 (gI σ 13).toNatClampNeg) σ) fun r15 s14 => (if r15 = 0 then (some (2, s14)) else (m11_closes_167 n F s14))))))) = m11_closes_167 n F s ∧ (gI s 14).toInt = svT v ∧ fr [9, 10, 14] [] [] [] [] σ s := by
  obtain ⟨h13, h14, h6⟩ := h
  have ht := svT_b hB
  obtain ⟨hg, hs, _⟩ := hB
  rw [h13, ck_t (by omega) (by omega), nI_clamp (by omega)]
  rcases h6 with ⟨a1, a2, a3⟩ | ⟨a1, a2, a3⟩ | ⟨a1, a2, a3⟩
  · refine ⟨σ, ?_, ?_, fr_rf⟩
    · rw [a1, L_0, if_pos rfl]
    · rw [h14]; unfold svT; rw [a2, a3]; omega
  · have hz : svT v = v.1 + (v.2.2 : Int) := by unfold svT; rw [a3]; omega
    obtain ⟨s, e1, F1, e2⟩ := wk_to (n := n) (σ := σ) (x := gA σ 5 0) (y := gI σ 14) (s := 43) (z := svT v) (by omega) (bd_of a2 (by omega)) (by rw [cmb_43 (by rw [a2]; omega) (by rw [h14]; omega), a2, h14, hz]) (by omega) (gA σ 7 0)
    refine ⟨s, ?_, e2, F1⟩
    rw [a1, L_0, ieq_f (by omega) (by omega) (by omega), ck_t (by omega) (by omega), ck_t (by omega) (by omega), ck_t (by omega) (by omega), e1, ej_bi_s, if_neg n10]
  · have hz : svT v = v.1 - (v.2.2 : Int) := by unfold svT; rw [a3]; omega
    obtain ⟨s, e1, F1, e2⟩ := wk_to (n := n) (σ := σ) (x := gA σ 5 0) (y := gI σ 14) (s := 45) (z := svT v) (by omega) (bd_of a2 (by omega)) (by rw [cmb_45 (by rw [a2]; omega) (by rw [h14]; omega), a2, h14, hz]) (by omega) (gA σ 7 0)
    refine ⟨s, ?_, e2, F1⟩
    rw [a1, L_0, ieq_f (by omega) (by omega) (by omega), ck_t (by omega) (by omega), ck_t (by omega) (by omega), ck_t (by omega) (by omega), e1, ej_bi_s, if_neg n10]
theorem RS_V {s : ej_S} (h : RS σ f l) (p : FRV σ s) : RS s f l := RS_fr h p (by simp) (by simp) (by simp)
theorem FV_n {s : ej_S} (h : fr [1, 2, 3, 4, 5] [0] [] [] [] σ s) : FRV σ s := fr_wk h (by simp) (by simp) (by simp) (by simp) (by simp)
theorem r_closes (hn : 2000 < n) (h9 : gA σ 9 0 = nI 0) (h13 : gI σ 13 = nI 0) : ∃ F, m11_closes n σ = m11_closes_52 n F σ := by
  obtain ⟨m, hm⟩ : ∃ m, n = m + 1 := ⟨n - 1, by omega⟩
  refine ⟨m11_closes_0 n m, ?_⟩
  unfold m11_closes
  rw [show m11_closes_0 n n σ = m11_closes_0 n (m + 1) σ by rw [← hm], u_11_closes_0, h13, ck_t (by omega) (by omega), nI_clamp (by omega), h9, L_0, if_pos rfl]
theorem r_closes2 {o : Nat} (hn : 2000 < n) (ho : o = 42 ∨ o = 47) (h9 : gA σ 9 0 = nI o) (h13 : gI σ 13 = nI 0) {s : ej_S} (e : m11_isWorked n (nI o) (gA σ 8 0) (gI σ 14) (gA σ 10 0) σ = some (nI 1, s)) : ∃ F, m11_closes n σ = m11_closes_52 n F s := by
  obtain ⟨m, hm⟩ : ∃ m, n = m + 1 := ⟨n - 1, by omega⟩
  refine ⟨m11_closes_0 n m, ?_⟩
  unfold m11_closes
  rw [show m11_closes_0 n n σ = m11_closes_0 n (m + 1) σ by rw [← hm], u_11_closes_0, h13, ck_t (by omega) (by omega), nI_clamp (by omega), h9, L_0, ieq_f (by omega) (by omega) (by omega), ck_t (by omega) (by omega), ck_t (by omega) (by omega), ck_t (by omega) (by omega), e, ej_bi_s, if_neg n10]
theorem V52 (hn : 2000 < n) : ∀ (ps : List (Nat × Nat)) (v : SV) (B : Nat) (σ : ej_S) (k : Nat) (F : ej_S → Option (Int32 × ej_S)), RS σ f l → RD σ l (opT ps) → AS σ v → svB v B → 30 ^ ps.length * B ≤ 1000000 → (∀ p ∈ ps, okOp p) → ps.length < k → ∃ s, (ej_bi (m11_closes_52 n F σ) fun r9 s8 => m11_isSum_21 n k r9 s8) = some (nI 1, s) ∧ (gI s 14).toInt = svT (svF v ps) ∧ RD s l [] ∧ FRV σ s := by
  intro ps
  induction ps with
  | nil =>
    intro v B σ k F hS hD hA hB hb _ hk
    obtain ⟨k, rfl⟩ : ∃ k', k = k' + 1 := ⟨k - 1, by omega⟩
    have e2 : gI σ 2 = nI 0 := RD_2 hD
    obtain ⟨s, e1, v1, F1⟩ := AS_fold (n := n) hA hB (by simpa using hb) F
    have s13 : gI s 13 = nI 0 := by rw [F1.1 13 (by simp)]; exact hA.1
    have s2 : gI s 2 = nI 0 := by rw [F1.1 2 (by simp)]; exact e2
    refine ⟨s, ?_, v1, RD_fr hD F1 (by simp) (by simp) (by simp) (by simp) (by simp) (by simp), fr_wk F1 (by simp) (by simp) (by simp) (by simp) (by simp)⟩
    unfold m11_closes_52
    rw [e2, L_42, L_47, ieq_f (by omega) (by omega) (by omega), ieq_f (by omega) (by omega) (by omega), e1]
    unfold m11_closes_167
    rw [s2, L_43, L_45, ieq_f (by omega) (by omega) (by omega), ieq_f (by omega) (by omega) (by omega), s13, if_pos L_0.symm, ej_bi_s, u_11_isSum_21, if_neg (by decide), if_pos rfl, L_1]
  | cons p ps ih =>
    intro v B σ k F hS hD hA hB hb hp hk
    have hk' : ps.length + 1 < k := hk
    obtain ⟨k, rfl⟩ : ∃ k', k = k' + 1 := ⟨k - 1, by omega⟩
    have hpo := hp p List.mem_cons_self
    obtain ⟨po, q1, q30⟩ := id hpo
    have hps : ∀ x ∈ ps, okOp x := fun x hx => hp x (List.mem_cons_of_mem _ hx)
    obtain ⟨hd1, hd2⟩ := opT_hd hps
    obtain ⟨og, o63⟩ := op_sg po
    have hb2 : 30 ^ ps.length * (30 * B) ≤ 1000000 := by
      rw [List.length_cons, Nat.pow_succ, Nat.mul_assoc] at hb
      exact hb
    have hB2 := svS_B hB hpo
    have pp : 0 < 30 ^ ps.length := Nat.pow_pos (by omega)
    have hBK : 30 * B ≤ 1000000 := Nat.le_trans (Nat.le_mul_of_pos_left _ pp) hb2
    have g2 := RD_sg og.1 og.2.1 og.2.2.1 og.2.2.2 o63 hD
    obtain ⟨h13, h14, h6⟩ := id hA
    have hP : v.2.2 ≤ 1000000 := by have := hB.2.1; omega
    -- the number behind a sign
    have num : ∀ s : ej_S, RS s f l → RD s l (dgs p.2 ++ opT ps) → gI s 13 = nI 0 → ∃ t, m11_isSum_21 n (k + 1) 0 s = (ej_bi (m11_closes n t) fun r9 s8 => m11_isSum_21 n k r9 s8) ∧ RS t f l ∧ RD t l (opT ps) ∧ gI t 13 = nI 0 ∧ gI t 14 = nI p.2 ∧ (∀ i, gA t i = gA s i) ∧ FRV s t := by
      intro s rs rd s13
      obtain ⟨n2, n5, _⟩ := nx_D (n := n) hn rs (show p.2 < 1000000 by omega) hd1 hd2 rd
      have F4 : fr [14] [] [] [] [] s (uI s 14 (nI p.2)) := fr_uI fr_rf (by simp)
      have F4' : FRV s (uI s 14 (nI p.2)) := fr_wk F4 (by simp) (by simp) (by simp) (by simp) (by simp)
      obtain ⟨_, _, t, e, d, F5⟩ := nx_D (n := n) hn (RS_V rs F4') (show p.2 < 1000000 by omega) hd1 hd2 (RD_fr rd F4 (by simp) (by simp) (by simp) (by simp) (by simp) (by simp))
      refine ⟨t, ?_, RS_V (RS_V rs F4') (FV_n F5), d, by rw [F5.1 13 (by simp), s_II_n (by omega)]; exact s13, by rw [F5.1 14 (by simp), s_II_s], fun i => by rw [F5.2.2.1 i (by simp), s_AI], fr_tr F4' (FV_n F5)⟩
      rw [u_11_isSum_21, if_pos rfl, n2, L_40, ieq_f (by omega) (by omega) (by omega), r_factor (by omega) n2 n5, ej_bi_s, L_0, if_neg n10, e, ej_bv_s]
    rcases (show (p.1 = 42 ∨ p.1 = 47) ∨ (p.1 = 43 ∨ p.1 = 45) by omega) with pm | pa
    · -- a product goes on
      have F1 : fr [] [] [8, 9, 10] [] [] σ (uA (uA (uA σ 8 0 (gI σ 14)) 9 0 (nI p.1)) 10 0 (gI σ 3)) := fr_uA (fr_uA (fr_uA fr_rf (by simp)) (by simp)) (by simp)
      have F1' : FRV σ (uA (uA (uA σ 8 0 (gI σ 14)) 9 0 (nI p.1)) 10 0 (gI σ 3)) := fr_wk F1 (by simp) (by simp) (by simp) (by simp) (by simp)
      obtain ⟨s1, e1, d1, f1⟩ := nx_sg (n := n) hn (RS_V hS F1') og.1 og.2.1 og.2.2.1 og.2.2.2 dgs_sld (RD_fr hD F1 (by simp) (by simp) (by simp) (by simp) (by simp) (by simp))
      have F2 := fr_tr F1' (FV_n f1)
      have s13 : gI s1 13 = nI 0 := by rw [f1.1 13 (by simp), F1.1 13 (by simp)]; exact h13
      obtain ⟨t, et, rt, dt, t13, t14, tA, Ft⟩ := num s1 (RS_V hS F2) d1 s13
      have a8 : gA t 8 0 = gI σ 14 := by rw [tA, f1.2.2.1 8 (by simp), s_AA_n (by omega), s_AA_n (by omega), s_AA_s, pk_us]
      have a9 : gA t 9 0 = nI p.1 := by rw [tA, f1.2.2.1 9 (by simp), s_AA_n (by omega), s_AA_s, pk_us]
      have a6 : gA t 6 0 = gA σ 6 0 := by rw [tA, f1.2.2.1 6 (by simp), F1.2.2.1 6 (by simp)]
      have a5 : gA t 5 0 = gA σ 5 0 := by rw [tA, f1.2.2.1 5 (by simp), F1.2.2.1 5 (by simp)]
      have wk : ∃ t2, m11_isWorked n (nI p.1) (gA t 8 0) (gI t 14) (gA t 10 0) t = some (nI 1, t2) ∧ fr [9, 10, 14] [] [] [] [] t t2 ∧ (gI t2 14).toInt = ((svS v p).2.2 : Int) := by
        rw [a8, t14]
        rcases pm with z | z
        · refine wk_to (by omega) (bd_of h14 (by omega)) ?_ (by have := hB2.2.1; omega) _
          rw [z, cmb_42 h14 hP q30]
          unfold svS
          rw [if_neg (by omega), if_neg (by omega), if_pos z]
        · refine wk_to (by omega) (bd_of h14 (by omega)) ?_ (by have := hB2.2.1; omega) _
          rw [z, cmb_47 h14 hP q1 q30]
          unfold svS
          rw [if_neg (by omega), if_neg (by omega), if_neg (by omega)]
      obtain ⟨t2, e2, Ft2, v2⟩ := wk
      obtain ⟨G, eG⟩ := r_closes2 (n := n) hn pm a9 t13 e2
      have AS2 : AS t2 (svS v p) := by
        have e12 : (svS v p).1 = v.1 ∧ (svS v p).2.1 = v.2.1 := by
          unfold svS
          rw [if_neg (by omega), if_neg (by omega)]
          split <;> exact ⟨rfl, rfl⟩
        refine ⟨by rw [Ft2.1 13 (by simp)]; exact t13, v2, ?_⟩
        rw [e12.1, e12.2, Ft2.2.2.1 6 (by simp), Ft2.2.2.1 5 (by simp), a6, a5]
        exact h6
      have Ft2' : FRV t t2 := fr_wk Ft2 (by simp) (by simp) (by simp) (by simp) (by simp)
      obtain ⟨s, es, vs, ds, Fs⟩ := ih (svS v p) (30 * B) t2 k G (RS_V rt Ft2') (RD_fr dt Ft2 (by simp) (by simp) (by simp) (by simp) (by simp) (by simp)) AS2 hB2 hb2 hps (by omega)
      refine ⟨s, ?_, vs, ds, fr_tr F2 (fr_tr Ft (fr_tr Ft2' Fs))⟩
      have e70 : m11_closes_52 n F σ = some (0, s1) := by
        have c70 : m11_closes_70 n σ = some (0, s1) := by
          unfold m11_closes_70
          rw [h13, ck_t (by omega) (by omega), nI_clamp (by omega), ej_nm_e, s_IA, h13, ck_t (by omega) (by omega), nI_clamp (by omega), ej_nm_e, s_IA, s_IA, h13, ck_t (by omega) (by omega), nI_clamp (by omega), ej_nm_e, s_IA, s_IA, s_IA, g2, e1, ej_bv_s]
        unfold m11_closes_52
        rw [g2, L_42, L_47]
        rcases pm with z | z
        · rw [ieq_t z, c70]
        · rw [ieq_f (by omega) (by omega) (by omega), ieq_t z, c70]
      rw [e70, ej_bi_s, et, eG]
      exact es
    · -- the sum goes on
      obtain ⟨s0, e0, v0, F0⟩ := AS_fold (n := n) hA hB (by omega) F
      have F0' : FRV σ s0 := fr_wk F0 (by simp) (by simp) (by simp) (by simp) (by simp)
      have b13 : gI s0 13 = nI 0 := by rw [F0.1 13 (by simp)]; exact h13
      have b2 : gI s0 2 = nI p.1 := by rw [F0.1 2 (by simp)]; exact g2
      have F1 : fr [] [] [5, 6, 7, 9] [] [] s0 (uA (uA (uA (uA s0 5 0 (gI s0 14)) 6 0 (nI p.1)) 7 0 (gI s0 3)) 9 0 (nI 0)) := fr_uA (fr_uA (fr_uA (fr_uA fr_rf (by simp)) (by simp)) (by simp)) (by simp)
      have F1' : FRV s0 (uA (uA (uA (uA s0 5 0 (gI s0 14)) 6 0 (nI p.1)) 7 0 (gI s0 3)) 9 0 (nI 0)) := fr_wk F1 (by simp) (by simp) (by simp) (by simp) (by simp)
      obtain ⟨s1, e1, d1, f1⟩ := nx_sg (n := n) hn (RS_V (RS_V hS F0') F1') og.1 og.2.1 og.2.2.1 og.2.2.2 dgs_sld (RD_fr (RD_fr hD F0 (by simp) (by simp) (by simp) (by simp) (by simp) (by simp)) F1 (by simp) (by simp) (by simp) (by simp) (by simp) (by simp))
      have F2 := fr_tr F0' (fr_tr F1' (FV_n f1))
      have s13 : gI s1 13 = nI 0 := by rw [f1.1 13 (by simp), F1.1 13 (by simp)]; exact b13
      obtain ⟨t, et, rt, dt, t13, t14, tA, Ft⟩ := num s1 (RS_V hS F2) d1 s13
      have a5 : gA t 5 0 = gI s0 14 := by rw [tA, f1.2.2.1 5 (by simp), s_AA_n (by omega), s_AA_n (by omega), s_AA_n (by omega), s_AA_s, pk_us]
      have a6 : gA t 6 0 = nI p.1 := by rw [tA, f1.2.2.1 6 (by simp), s_AA_n (by omega), s_AA_n (by omega), s_AA_s, pk_us]
      have a9 : gA t 9 0 = nI 0 := by rw [tA, f1.2.2.1 9 (by simp), s_AA_s, pk_us]
      obtain ⟨G, eG⟩ := r_closes (n := n) hn a9 t13
      have AS2 : AS t (svS v p) := by
        refine ⟨t13, ?_, ?_⟩
        · rw [t14, nI_toInt (by omega)]
          unfold svS
          rcases pa with z | z
          · rw [if_pos z]
          · rw [if_neg (by omega), if_pos z]
        · unfold svS
          rcases pa with z | z
          · rw [if_pos z]
            exact .inr (.inl ⟨by rw [a6, z], by rw [a5, v0], rfl⟩)
          · rw [if_neg (by omega), if_pos z]
            exact .inr (.inr ⟨by rw [a6, z], by rw [a5, v0], rfl⟩)
      obtain ⟨s, es, vs, ds, Fs⟩ := ih (svS v p) (30 * B) t k G rt dt AS2 hB2 hb2 hps (by omega)
      refine ⟨s, ?_, vs, ds, fr_tr F2 (fr_tr Ft Fs)⟩
      have e185 : m11_closes_52 n F σ = some (0, s1) := by
        unfold m11_closes_52
        rw [g2, L_42, L_47, ieq_f (by omega) (by omega) (by omega), ieq_f (by omega) (by omega) (by omega), e0]
        have c185 : m11_closes_185 n s0 = some (0, s1) := by
          unfold m11_closes_185
          rw [b13, ck_t (by omega) (by omega), nI_clamp (by omega), ej_nm_e, s_IA, b13, ck_t (by omega) (by omega), nI_clamp (by omega), ej_nm_e, s_IA, s_IA, b13, ck_t (by omega) (by omega), nI_clamp (by omega), ej_nm_e, s_IA, s_IA, s_IA, b13, ck_t (by omega) (by omega), nI_clamp (by omega), ej_nm_e]
          simp only [s_IA, b2]
          rw [L_0, e1, ej_bv_s]
        unfold m11_closes_167
        rw [b2, L_43, L_45]
        rcases pa with z | z
        · rw [ieq_t z, c185]
        · rw [ieq_f (by omega) (by omega) (by omega), ieq_t z, c185]
      rw [e185, ej_bi_s, et, eG]
      exact es
/-- a whole sum -/
theorem V_sum {q0 : Nat} {ps : List (Nat × Nat)} (hn : 2000 < n) (hS : RS σ f l) (hD : RD σ l (dgs q0 ++ opT ps)) (h1 : 1 ≤ q0) (h30 : q0 ≤ 30) (hp : ∀ p ∈ ps, okOp p) (h3 : ps.length ≤ 3) : ∃ s, m11_isSum n σ = some (nI 1, s) ∧ (gI s 14).toInt = svT (svF (0, 1, q0) ps) ∧ RD s l [] ∧ FRV σ s := by
  obtain ⟨m, hm⟩ : ∃ m, n = m + 1 := ⟨n - 1, by omega⟩
  obtain ⟨hd1, hd2⟩ := opT_hd hp
  have Fa : fr [13] [] [6, 9] [] [] σ (uA (uA (uI σ 13 (nI 0)) 6 0 (nI 0)) 9 0 (nI 0)) := fr_uA (fr_uA (fr_uI fr_rf (by simp)) (by simp)) (by simp)
  have Fa' : FRV σ (uA (uA (uI σ 13 (nI 0)) 6 0 (nI 0)) 9 0 (nI 0)) := fr_wk Fa (by simp) (by simp) (by simp) (by simp) (by simp)
  have rs1 := RS_V hS Fa'
  have rd1 := RD_fr hD Fa (by simp) (by simp) (by simp) (by simp) (by simp) (by simp)
  obtain ⟨n2, n5, _⟩ := nx_D (n := n) hn rs1 (show q0 < 1000000 by omega) hd1 hd2 rd1
  have F4 : fr [14] [] [] [] [] (uA (uA (uI σ 13 (nI 0)) 6 0 (nI 0)) 9 0 (nI 0)) (uI (uA (uA (uI σ 13 (nI 0)) 6 0 (nI 0)) 9 0 (nI 0)) 14 (nI q0)) := fr_uI fr_rf (by simp)
  have F4' : FRV (uA (uA (uI σ 13 (nI 0)) 6 0 (nI 0)) 9 0 (nI 0)) (uI (uA (uA (uI σ 13 (nI 0)) 6 0 (nI 0)) 9 0 (nI 0)) 14 (nI q0)) := fr_wk F4 (by simp) (by simp) (by simp) (by simp) (by simp)
  obtain ⟨_, _, t, e, d, F5⟩ := nx_D (n := n) hn (RS_V rs1 F4') (show q0 < 1000000 by omega) hd1 hd2 (RD_fr rd1 F4 (by simp) (by simp) (by simp) (by simp) (by simp) (by simp))
  have t13 : gI t 13 = nI 0 := by rw [F5.1 13 (by simp), s_II_n (by omega), s_IA, s_IA, s_II_s]
  have t14 : gI t 14 = nI q0 := by rw [F5.1 14 (by simp), s_II_s]
  have a6 : gA t 6 0 = nI 0 := by rw [F5.2.2.1 6 (by simp), s_AI, s_AA_n (by omega), s_AA_s, pk_us]
  have a9 : gA t 9 0 = nI 0 := by rw [F5.2.2.1 9 (by simp), s_AI, s_AA_s, pk_us]
  obtain ⟨G, eG⟩ := r_closes (n := n) hn a9 t13
  have hB : svB ((0, 1, q0) : SV) 30 := ⟨.inl rfl, by show (0 : Int).natAbs + q0 ≤ 30; omega, by omega⟩
  have hb : 30 ^ ps.length * 30 ≤ 1000000 := by
    have : ps.length = 0 ∨ ps.length = 1 ∨ ps.length = 2 ∨ ps.length = 3 := by omega
    rcases this with z | z | z | z <;> rw [z] <;> decide
  obtain ⟨s, es, vs, ds, Fs⟩ := V52 (n := n) hn ps (0, 1, q0) 30 t m G (RS_V (RS_V rs1 F4') (FV_n F5)) d ⟨t13, by rw [t14, nI_toInt (by omega)], .inl ⟨a6, rfl, rfl⟩⟩ hB hb hp (by omega)
  refine ⟨s, ?_, vs, ds, fr_tr Fa' (fr_tr F4' (fr_tr (FV_n F5) Fs))⟩
  unfold m11_isSum
  rw [L_0, ej_nm_e, ck_t (by omega) (by omega), nI_clamp (by omega), ej_nm_e, ck_t (by omega) (by omega), ej_nm_e]
  rw [show ∀ z, m11_isSum_21 n n (nI 0) z = m11_isSum_21 n (m + 1) (nI 0) z by intro z; rw [← hm], u_11_isSum_21, L_0, if_pos rfl, n2, L_40, ieq_f (by omega) (by omega) (by omega), r_factor (by omega) n2 n5, ej_bi_s, if_neg n10, e, ej_bv_s, eG]
  exact es
end P97v
