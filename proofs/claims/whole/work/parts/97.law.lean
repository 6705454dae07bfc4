/-! THE LAW OF BOTH: the loop, and how it begins -/
section P97
variable {n N : Nat} {σc σr : ej_S} {g : Nat → Int64} {y : Int32} {F : Int32 → lw_S → Option Int32}
theorem cmp_z (v : Int64) : lg_cmp v v = nI 0 := (cmp_eq v v).mpr rfl
theorem lr_s {α : Type} {a : α} {r c s : ej_S} : ej_lr (some (a, r)) ((c, s, g) : lw_S) = some (a, ((c, r, g) : lw_S)) := rfl
theorem lc_s {α : Type} {a : α} {r c s : ej_S} : ej_lc (some (a, r)) ((c, s, g) : lw_S) = some (a, ((r, s, g) : lw_S)) := rfl
theorem nm_all {α : Type} {v : α} {k : α → Option Int32} (h : ∀ x, k x = some 1) : ej_nm v k = some 1 := h v
theorem law_step {X : Option (Int32 × lw_S)} {Y : ej_S → Option (Int32 × ej_S)} (hS : STEP n σr X (Y σr)) (hF : ∀ c r g, INV n c r → F (y + 4) (c, r, g) = some 1) : (ej_bi X fun r2 s3 => ej_bi (ej_lr (Y s3.2.1) s3) fun r4 s5 => ej_bi (ej_lr (m11_thrown n s5.2.1) s5) fun r6 s7 => (if r6 = r2 then (if r2 = 0 then ej_ck 0 1 ((if lg_cmp (s7.2.2 ((0 : Int32).toNatClampNeg)) (r4.toInt64) = 0 then ej_nm (y + 4) fun x9 => (F x9 s7) else (some 0))) else ej_nm (y + 4) fun x8 => (F x8 s7)) else (some 0))) = some 1 := by
  obtain ⟨r2, c, g', r4, r, e1, e2, e3, e4, e5⟩ := hS
  rw [e1, ej_bi_s]
  show (ej_bi (ej_lr (Y σr) (c, σr, g')) _) = some 1
  rw [e2]
  rw [lr_s, ej_bi_s]
  show (ej_bi (ej_lr (some (gI r 19, r)) (c, r, g')) _) = some 1
  rw [lr_s, ej_bi_s, if_pos e3]
  by_cases z : r2 = 0
  · rw [if_pos z, L_0, ck_t (by omega) (by omega), nI_clamp (by omega)]
    show (if lg_cmp (g' 0) (r4.toInt64) = nI 0 then _ else _) = some 1
    rw [e4 z, if_pos (cmp_z _)]
    exact hF _ _ _ e5
  · rw [if_neg z]
    exact hF _ _ _ e5
theorem law_stepB {X : Option (Int32 × lw_S)} {Y : ej_S → Option (Int32 × ej_S)} (hS : STEPB n σr X (Y σr)) (hF : ∀ c r g, INV n c r → F (y + 4) (c, r, g) = some 1) : (ej_bi X fun r2 s3 => ej_bi (ej_lr (Y s3.2.1) s3) fun r4 s5 => ej_bi (ej_lr (m11_thrown n s5.2.1) s5) fun r6 s7 => (if r6 = r2 then (if r2 = 0 then ej_ck 0 1 ((if r4 = 0 then (if lg_cmp (s7.2.2 ((0 : Int32).toNatClampNeg)) 0 = 0 then ej_nm (y + 4) fun x9 => (F x9 s7) else (some 0)) else (if lg_cmp (s7.2.2 ((0 : Int32).toNatClampNeg)) 1 = 0 then ej_nm (y + 4) fun x9 => (F x9 s7) else (some 0)))) else ej_nm (y + 4) fun x8 => (F x8 s7)) else (some 0))) = some 1 := by
  obtain ⟨r2, c, g', r4, r, e1, e2, e3, e4, e5⟩ := hS
  rw [e1, ej_bi_s]
  show (ej_bi (ej_lr (Y σr) (c, σr, g')) _) = some 1
  rw [e2]
  rw [lr_s, ej_bi_s]
  show (ej_bi (ej_lr (some (gI r 19, r)) (c, r, g')) _) = some 1
  rw [lr_s, ej_bi_s, if_pos e3]
  by_cases z : r2 = 0
  · rw [if_pos z, L_0, ck_t (by omega) (by omega), nI_clamp (by omega)]
    have e4' := e4 z
    show (if r4 = nI 0 then (if lg_cmp (g' 0) 0 = nI 0 then _ else _) else (if lg_cmp (g' 0) 1 = nI 0 then _ else _)) = some 1
    by_cases w : r4 = nI 0
    · rw [if_pos w] at e4'
      rw [if_pos w, e4', if_pos (cmp_z _)]
      exact hF _ _ _ e5
    · rw [if_neg w] at e4'
      rw [if_neg w, e4', if_pos (cmp_z _)]
      exact hF _ _ _ e5
  · rw [if_neg z]
    exact hF _ _ _ e5
theorem law_step2 {X Y : ej_S → Option (Int32 × ej_S)} (hS : STEP2 n (X σc) (Y σr)) (hF : ∀ c r g, INV n c r → F (y + 4) (c, r, g) = some 1) : (ej_bi (ej_lc (X σc) ((σc, σr, g) : lw_S)) fun r58 s59 => ej_bi (ej_lr (Y s59.2.1) s59) fun r60 s61 => (if r58 = r60 then ej_nm (y + 4) fun x62 => (F x62 s61) else (some 0))) = some 1 := by
  obtain ⟨v, c, r, e1, e2, e5⟩ := hS
  rw [e1, lc_s, ej_bi_s]
  show (ej_bi (ej_lr (Y σr) (c, σr, g)) _) = some 1
  rw [e2, lr_s, ej_bi_s, if_pos rfl]
  exact hF _ _ _ e5
theorem law_stepW {X Y : ej_S → Option (Int64 × ej_S)} (hS : STEP2 n (X σc) (Y σr)) (hF : ∀ c r g, INV n c r → F (y + 4) (c, r, g) = some 1) : (ej_bl (ej_lc (X σc) ((σc, σr, g) : lw_S)) fun r58 s59 => ej_bl (ej_lr (Y s59.2.1) s59) fun r60 s61 => (if lg_cmp r58 r60 = 0 then ej_nm (y + 4) fun x62 => (F x62 s61) else (some 0))) = some 1 := by
  obtain ⟨v, c, r, e1, e2, e5⟩ := hS
  rw [e1, lc_s, ej_bl_s]
  show (ej_bl (ej_lr (Y σr) (c, σr, g)) _) = some 1
  rw [e2, lr_s, ej_bl_s, L_0, if_pos (cmp_z _)]
  exact hF _ _ _ e5
set_option maxRecDepth 20000 in
theorem law_ok (hn : 200000000000000 < n) (hN : N ≤ 2048) (xs : Nat → Int32) : ∀ (k j : Nat) (σc σr : ej_S) (g : Nat → Int64), k + j = 600 → (4 * j ≤ N ∨ j = 0) → INV n σc σr → mL_law n N xs k (nI (4 * j)) (σc, σr, g) = some 1 := by
  intro k
  induction k with
  | zero => intro j _ _ _ h1 h2; omega
  | succ k ih =>
    intro j σc σr g h1 h2 hI
    rw [u_L_law]
    by_cases q : 4 * j + 4 ≤ N
    · have e0 : ¬ (Int32.ofNat N) - 4 < nI (4 * j) := by
        rw [o_nI, L_4, nI_m2 (by omega)]
        exact nI_nlt (by omega) (by omega)
      have k0 : ∀ k : Option Int32, ej_ck (nI (4 * j)) N k = k := fun k => ck_t (by omega) (by omega)
      have k1 : ∀ k : Option Int32, ej_ck (nI (4 * j) + 1) N k = k := fun k => by rw [L_1, nI_add]; exact ck_t (by omega) (by omega)
      have k2 : ∀ k : Option Int32, ej_ck (nI (4 * j) + 2) N k = k := fun k => by rw [L_2, nI_add]; exact ck_t (by omega) (by omega)
      have k3 : ∀ k : Option Int32, ej_ck (nI (4 * j) + 3) N k = k := fun k => by rw [L_3, nI_add]; exact ck_t (by omega) (by omega)
      have hF : ∀ c r g, INV n c r → mL_law n N xs k (nI (4 * j) + 4) (c, r, g) = some 1 := by
        intro c r g hi
        rw [L_4, nI_add]
        exact ih (j + 1) c r g (by omega) (.inl (by omega)) hi
      refine (if_neg e0).trans ?_
      refine (k0 _).trans ?_
      refine nm_all fun x1 => ?_
      by_cases h0 : x1 = 0
      · refine (if_pos h0).trans ?_
        try simp only [k1, k2, k3]
        exact law_step (Y := m11_feed n _ _) (c_feed (by omega) hI _ _) hF
      refine (if_neg h0).trans ?_
      by_cases h1 : x1 = 1
      · refine (if_pos h1).trans ?_
        try simp only [k1, k2, k3]
        exact law_step (Y := m11_load n _) (c_load hn hI _) hF
      refine (if_neg h1).trans ?_
      by_cases h2 : x1 = 2
      · refine (if_pos h2).trans ?_
        try simp only [k1, k2, k3]
        exact law_step (Y := m11_drop n _) (c_drop hn hI _) hF
      refine (if_neg h2).trans ?_
      by_cases h3 : x1 = 3
      · refine (if_pos h3).trans ?_
        try simp only [k1, k2, k3]
        exact law_step (Y := m11_value n) (c_value (by omega) hI) hF
      refine (if_neg h3).trans ?_
      by_cases h4 : x1 = 4
      · refine (if_pos h4).trans ?_
        try simp only [k1, k2, k3]
        by_cases z : xs (nI (4 * j) + 1).toNatClampNeg = 0
        · simp only [if_pos z]
          exact law_step2 (X := m10_fault n 0) (Y := m11_fault n 0) (c_fault hI 0) hF
        · simp only [if_neg z]
          exact law_step2 (X := m10_fault n 1) (Y := m11_fault n 1) (c_fault hI 1) hF
      refine (if_neg h4).trans ?_
      by_cases h5 : x1 = 5
      · refine (if_pos h5).trans ?_
        try simp only [k1, k2, k3]
        exact law_step (Y := m11_setHome n) (c_setHome hn hI) hF
      refine (if_neg h5).trans ?_
      by_cases h6 : x1 = 6
      · refine (if_pos h6).trans ?_
        try simp only [k1, k2, k3]
        exact law_step2 (X := m10_home n) (Y := m11_home n) (c_home (by omega) hI) hF
      refine (if_neg h6).trans ?_
      by_cases h7 : x1 = 7
      · refine (if_pos h7).trans ?_
        try simp only [k1, k2, k3]
        exact law_step2 (X := m10_lookUp n) (Y := m11_lookUp n) (c_lookUp (by omega) hI) hF
      refine (if_neg h7).trans ?_
      by_cases h8 : x1 = 8
      · refine (if_pos h8).trans ?_
        try simp only [k1, k2, k3]
        exact law_step2 (X := m10_nodes n) (Y := m11_nodes n) (c_nodes hI) hF
      refine (if_neg h8).trans ?_
      by_cases h9 : x1 = 9
      · refine (if_pos h9).trans ?_
        try simp only [k1, k2, k3]
        exact law_step (Y := m11_name n _) (c_name (by omega) hI _) hF
      refine (if_neg h9).trans ?_
      by_cases h10 : x1 = 10
      · refine (if_pos h10).trans ?_
        try simp only [k1, k2, k3]
        exact law_step (Y := m11_kind n _) (c_kind hI _) hF
      refine (if_neg h10).trans ?_
      by_cases h11 : x1 = 11
      · refine (if_pos h11).trans ?_
        try simp only [k1, k2, k3]
        exact law_stepB (Y := m11_isPrivate n _) (c_isPrivate hI _) hF
      refine (if_neg h11).trans ?_
      by_cases h12 : x1 = 12
      · refine (if_pos h12).trans ?_
        try simp only [k1, k2, k3]
        exact law_step (Y := m11_linkCost n _ _) (c_linkCost hI _ _) hF
      refine (if_neg h12).trans ?_
      by_cases h13 : x1 = 13
      · refine (if_pos h13).trans ?_
        try simp only [k1, k2, k3]
        exact law_step (Y := m11_memberCost n _ _) (c_memberCost hI _ _) hF
      refine (if_neg h13).trans ?_
      by_cases h14 : x1 = 14
      · refine (if_pos h14).trans ?_
        try simp only [k1, k2, k3]
        exact law_step (Y := m11_cost n _) (c_cost (by omega) hI _) hF
      refine (if_neg h14).trans ?_
      by_cases h15 : x1 = 15
      · refine (if_pos h15).trans ?_
        try simp only [k1, k2, k3]
        exact law_step (Y := m11_costByRounds n _) (c_costByRounds (by omega) hI _) hF
      refine (if_neg h15).trans ?_
      by_cases h16 : x1 = 16
      · refine (if_pos h16).trans ?_
        try simp only [k1, k2, k3]
        exact law_step (Y := m11_steps n _) (c_steps (by omega) hI _) hF
      refine (if_neg h16).trans ?_
      by_cases h17 : x1 = 17
      · refine (if_pos h17).trans ?_
        try simp only [k1, k2, k3]
        exact law_step (Y := m11_state n _) (c_state (by omega) hI _) hF
      refine (if_neg h17).trans ?_
      by_cases h18 : x1 = 18
      · refine (if_pos h18).trans ?_
        try simp only [k1, k2, k3]
        exact law_step (Y := m11_nodeAt n _ _) (c_nodeAt (by omega) hI _ _) hF
      refine (if_neg h18).trans ?_
      by_cases h19 : x1 = 19
      · refine (if_pos h19).trans ?_
        try simp only [k1, k2, k3]
        exact law_step (Y := m11_costAt n _ _) (c_costAt (by omega) hI _ _) hF
      refine (if_neg h19).trans ?_
      by_cases h20 : x1 = 20
      · refine (if_pos h20).trans ?_
        try simp only [k1, k2, k3]
        exact law_step (Y := m11_stepAt n _ _) (c_stepAt (by omega) hI _ _) hF
      refine (if_neg h20).trans ?_
      by_cases h21 : x1 = 21
      · refine (if_pos h21).trans ?_
        try simp only [k1, k2, k3]
        exact law_stepB (Y := m11_isBack n _ _) (c_isBack (by omega) hI _ _) hF
      refine (if_neg h21).trans ?_
      by_cases h22 : x1 = 22
      · refine (if_pos h22).trans ?_
        try simp only [k1, k2, k3]
        exact law_step (Y := m11_print n _) (c_print (by omega) hI _) hF
      refine (if_neg h22).trans ?_
      by_cases h23 : x1 = 23
      · refine (if_pos h23).trans ?_
        try simp only [k1, k2, k3]
        exact law_step2 (X := m10_rewrite n) (Y := m11_rewrite n) (c_rewrite (by omega) hI) hF
      refine (if_neg h23).trans ?_
      by_cases h24 : x1 = 24
      · refine (if_pos h24).trans ?_
        try simp only [k1, k2, k3]
        exact law_stepW (X := m10_word n _) (Y := m11_word n _) (c_word (by omega) hI _) hF
      refine (if_neg h24).trans ?_
      exact hF σc σr g hI
    · have e0 : (Int32.ofNat N) - 4 < nI (4 * j) := by
        rcases Nat.lt_or_ge N 4 with w | w
        · have hj : j = 0 := by omega
          subst hj
          rcases (show N = 0 ∨ N = 1 ∨ N = 2 ∨ N = 3 by omega) with z | z | z | z <;> subst z <;> decide +kernel
        · rw [o_nI, L_4, nI_m2 w]
          exact nI_lt (by omega) (by omega)
      exact if_pos e0
end P97
