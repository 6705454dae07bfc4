/-! THE NODE OR DOMAIN BY WHICH A PART IS KNOWN -/
/-- it may be known by it -/
def cnN (n : Nat) (σ : ej_S) (tp : List Nat) (b e j : Nat) : Prop := gA σ 11 j = zm ∧ (∃ q, q < 96 ∧ m11_wayOf n (nI j) σ = some (nI q, σ)) ∧ EW tp b e (nL (gB σ 1 j))
noncomputable def nmN (σ : ej_S) (j : Nat) : Nat := (nL (gB σ 1 j)).length
/-- the best so far -/
noncomputable def bst (σ : ej_S) (y : Int32) (j : Nat) : Int32 := if dmB (gB σ 1 j) = true then (if y = zm then nI j else if nmN σ j ≤ nmN σ y.toNatClampNeg then y else nI j) else y
def vld (n : Nat) (σ : ej_S) (tp : List Nat) (b e : Nat) (x : Int32) : Prop := x = zm ∨ ∃ a, a < NN σ ∧ x = nI a ∧ cnN n σ tp b e a
section P93b
variable {n b e : Nat} {σc σr : ej_S} {tp : List Nat}
theorem nmN_8 (hN : hNm σr) {j : Nat} (hj : j < NN σr) : nmN σr j ≤ 8 := (nL_sp (hN.2 j hj)).2.2.1
theorem x_isRouted {a : Nat} (hn : 2000 < n) (h : WR σc σr) (ha : a < NN σr) : ∃ g, m2_isRouted n (nI a) σc = some (bI g, σc) ∧ (g = true ↔ gA σr 11 a = zm ∧ ∃ q, q < 96 ∧ m11_wayOf n (nI a) σr = some (nI q, σr)) := by
  have hG := WR_G h
  have h24 := (G_N hG).1
  obtain ⟨r, e1, e2, e3⟩ := s_route (n := n) hn h ha
  unfold m2_isRouted m0_isOwned
  rw [G_has hG ha, ej_bi_s, L_0, if_neg n10, ck_t (by omega) (by omega), nI_clamp (by omega), hG.2.1.2.2.2.1 a ha, L_m1]
  by_cases g : gA σr 11 a = zm
  · rw [if_pos g, ej_bi_s, if_pos rfl, e1, ej_bi_s, e2]
    rcases e3 with ⟨z, _⟩ | ⟨q, L, c, rt, kd, q1, q2, _⟩
    · rw [z, if_pos rfl]
      exact ⟨false, rfl, ⟨fun w => (by cases w), fun ⟨_, q, q1, q2⟩ => by
        have := congrArg Prod.fst (Option.some.inj q2)
        exact absurd this.symm (zm_ne (by omega))⟩⟩
    · rw [q1, if_neg (zm_ne (by omega))]
      exact ⟨true, rfl, ⟨fun _ => ⟨g, q, q2, rfl⟩, fun _ => rfl⟩⟩
  · rw [if_neg g, ej_bi_s, L_1, if_neg n10]
    exact ⟨false, rfl, ⟨fun w => (by cases w), fun w => absurd w.1 g⟩⟩
theorem x_size (hG : relG σc σr) : m0_size n σc = some (nI (NN σr), σc) := by
  unfold m0_size
  rw [(G_N hG).2]
theorem x_nop_step {j k : Nat} {y : Int32} (hn : 2000 < n) (h : WR σc σr) (hN : hNm σr) (hT : TX σc 0 tp) (hb : b ≤ e) (he : e ≤ tp.length) (hj : j < NN σr) (hy : vld n σr tp b e y) : (¬ cnN n σr tp b e j → m2_nodeOfPart_6 n 0 (k + 1) (nI b) (nI e) y (nI j) σc = m2_nodeOfPart_6 n 0 k (nI b) (nI e) y (nI (j + 1)) σc) ∧ (cnN n σr tp b e j → nmN σr j = e - b → m2_nodeOfPart_6 n 0 (k + 1) (nI b) (nI e) y (nI j) σc = some (nI j, σc)) ∧ (cnN n σr tp b e j → nmN σr j ≠ e - b → m2_nodeOfPart_6 n 0 (k + 1) (nI b) (nI e) y (nI j) σc = m2_nodeOfPart_6 n 0 k (nI b) (nI e) (bst σr y j) (nI (j + 1)) σc) := by
  have hG := WR_G h
  have h24 := hN.1
  have ht := TX_len hT
  obtain ⟨g1, e1, i1⟩ := x_endsWith (n := n) hn hG hj hT he hb
  obtain ⟨g2, e2, i2⟩ := x_isRouted (n := n) hn h hj
  have h8 := nmN_8 hN hj
  have hcn : cnN n σr tp b e j ↔ g1 = true ∧ g2 = true := by
    unfold cnN
    rw [i1, i2]
    exact ⟨fun ⟨a1, a2, a3⟩ => ⟨a3, a1, a2⟩, fun ⟨a3, a1, a2⟩ => ⟨a1, a2, a3⟩⟩
  rw [hcn, u_2_nodeOfPart_6, x_size hG, ej_bi_s, ile_f hj (by omega), e1, ej_bi_s, L_0]
  cases g1
  · rw [bI_f, if_pos rfl, L_1, nI_add, ej_nm_e]
    exact ⟨fun _ => rfl, fun w => (by cases w.1), fun w => (by cases w.1)⟩
  · rw [bI_t, if_neg n10, e2, ej_bi_s]
    cases g2
    · rw [bI_f, if_pos rfl, L_1, nI_add, ej_nm_e]
      exact ⟨fun _ => rfl, fun w => (by cases w.2), fun w => (by cases w.2)⟩
    · rw [bI_t, if_neg n10, x_lengthOfName hn hG hj, ej_bi_s, nI_m2 hb]
      refine ⟨fun w => absurd ⟨rfl, rfl⟩ w, fun _ w => ?_, fun _ w => ?_⟩
      · rw [ieq_t (show (nL (gB σr 1 j)).length = e - b from w)]
      · rw [ieq_f (show (nL (gB σr 1 j)).length ≠ e - b from w) (by unfold nmN at h8; omega) (by omega), x_isDomain hG hj, ej_bi_s]
        unfold bst
        cases hd : dmB (gB σr 1 j)
        · rw [bI_f, if_pos rfl, L_1, nI_add, ej_nm_e, if_neg (by decide)]
        · rw [bI_t, if_neg n10, L_m1, if_pos rfl]
          rcases hy with z | ⟨a, a1, a2, _⟩
          · rw [if_pos z, if_pos z, L_1, nI_add, ej_nm_e]
          · have ha8 := nmN_8 hN a1
            rw [a2, ieq_m (by omega), ieq_m (by omega), x_lengthOfName hn hG a1, ej_bi_s, nI_clamp (by omega)]
            rcases Nat.lt_or_ge (nmN σr a) (nmN σr j) with q | q
            · rw [ile_f (show (nL (gB σr 1 a)).length < (nL (gB σr 1 j)).length from q) (by unfold nmN at h8; omega), if_neg (by omega), L_1, nI_add, ej_nm_e]
            · rw [ile_t (show (nL (gB σr 1 j)).length ≤ (nL (gB σr 1 a)).length from q) (by unfold nmN at ha8; omega), if_pos q, L_1, nI_add, ej_nm_e]
theorem r_kn_142 (F : Int32 → Int32 → Int32 → Int32 → Int32 → ej_S → Option (Int32 × ej_S)) (w its : Bool) (x1 x2 y : Int32) (j : Nat) (σ : ej_S) : m11_known_142 n F x1 x2 (bI w) (nI j) (bI its) y σ = F x1 x2 y (bI (w || its)) (nI (j + 1)) σ := by
  unfold m11_known_142
  rw [L_0, L_1, nI_add]
  cases w <;> cases its <;> simp only [bI_f, bI_t, if_neg n10, if_true, eq_self, ej_nm_e] <;> rfl
theorem r_kn_119 (F : Int32 → Int32 → Int32 → Int32 → Int32 → ej_S → Option (Int32 × ej_S)) (w its lg : Bool) (x1 x2 y : Int32) (j : Nat) (σ : ej_S) : m11_known_119 n F x1 x2 y (bI w) (nI j) (bI its) (bI lg) σ = F x1 x2 (if (its || (!w && lg)) = true then nI j else y) (bI (w || its)) (nI (j + 1)) σ := by
  unfold m11_known_119
  simp only [r_kn_142]
  rw [L_0]
  cases w <;> cases its <;> cases lg <;> simp only [bI_f, bI_t, if_neg n10, if_true, eq_self, Bool.or_true, Bool.or_false, Bool.true_or, Bool.false_or, Bool.not_true, Bool.not_false, Bool.true_and, Bool.false_and, Bool.false_eq_true, if_false] <;> rfl
theorem r_kn_step {j k : Nat} {y : Int32} {w : Bool} (hn : 2000 < n) (h : WR σc σr) (hN : hNm σr) (hT : RTX σr 4 tp) (hb : b ≤ e) (he : e ≤ tp.length) (hj : j < NN σr) (hy : vld n σr tp b e y) : (¬ cnN n σr tp b e j → m11_known_8 n (k + 1) (nI b) (nI e) y (bI w) (nI j) σr = m11_known_8 n k (nI b) (nI e) y (bI w) (nI (j + 1)) σr) ∧ (cnN n σr tp b e j → nmN σr j = e - b → m11_known_8 n (k + 1) (nI b) (nI e) y (bI w) (nI j) σr = m11_known_8 n k (nI b) (nI e) (nI j) (bI true) (nI (j + 1)) σr) ∧ (cnN n σr tp b e j → nmN σr j ≠ e - b → m11_known_8 n (k + 1) (nI b) (nI e) y (bI w) (nI j) σr = m11_known_8 n k (nI b) (nI e) (if w = true then y else bst σr y j) (bI w) (nI (j + 1)) σr) := by
  have h24 := hN.1
  have ht := hT.2.1
  obtain ⟨g1, e1, i1⟩ := r_endsWith (n := n) hn hN hj hT he hb
  obtain ⟨r, _, e2, e3⟩ := s_route (n := n) hn h hj
  have h8 := nmN_8 hN hj
  obtain ⟨N, h0, h1, _⟩ := id h.1
  have hNN := NN_eq h1 h0
  have no54 : m11_known_54 n (m11_known_8 n k) (nI b) (nI e) y (bI w) (nI j) 0 σr = m11_known_8 n k (nI b) (nI e) y (bI w) (nI (j + 1)) σr := by
    unfold m11_known_54 m11_known_78
    rw [if_pos rfl, if_pos rfl]
    have := r_kn_119 (n := n) (m11_known_8 n k) w false false (nI b) (nI e) y j σr
    rw [Bool.or_false, Bool.and_false, Bool.or_false, if_neg (by decide)] at this
    exact this
  rw [u_11_known_8, h1, ile_f (show j < N by omega) (by omega), ck_t (by omega) (by omega), nI_clamp (by omega), L_m1]
  by_cases ho : gA σr 11 j = zm
  · rw [if_pos ho, e2, ej_bi_s]
    rcases e3 with ⟨z, _⟩ | ⟨q, L, c, rt, kd, q1, q2, _⟩
    · rw [z] at e2
      rw [z, if_pos rfl]
      have hno : ¬ cnN n σr tp b e j := by
        rintro ⟨_, ⟨q, q1, q2⟩, _⟩
        rw [e2] at q2
        have := congrArg Prod.fst (Option.some.inj q2)
        exact absurd this.symm (zm_ne (by omega))
      exact ⟨fun _ => no54, fun w => absurd w hno, fun w => absurd w hno⟩
    · rw [q1] at e2
      rw [q1, if_neg (zm_ne (by omega)), e1, ej_bi_s, L_0]
      have hcn : cnN n σr tp b e j ↔ g1 = true := by
        unfold cnN
        rw [i1]
        exact ⟨fun ⟨_, _, a3⟩ => a3, fun a3 => ⟨ho, ⟨q, q2, e2⟩, a3⟩⟩
      rw [hcn]
      cases g1
      · rw [bI_f, if_pos rfl]
        exact ⟨fun _ => no54, fun w => (by cases w), fun w => (by cases w)⟩
      · rw [bI_t, if_neg n10]
        refine ⟨fun w => absurd rfl w, fun _ hl => ?_, fun _ hl => ?_⟩
        · have e54 : ∀ lg : Bool, m11_known_119 n (m11_known_8 n k) (nI b) (nI e) y (bI w) (nI j) 1 (bI lg) σr = m11_known_8 n k (nI b) (nI e) (nI j) (bI true) (nI (j + 1)) σr := by
            intro lg
            have := r_kn_119 (n := n) (m11_known_8 n k) w true lg (nI b) (nI e) y j σr
            rw [Bool.true_or, if_pos rfl, Bool.or_true] at this
            exact this
          have l0 := e54 false
          have l1 := e54 true
          rw [bI_f] at l0
          rw [bI_t] at l1
          unfold m11_known_54 m11_known_78
          rw [L_1] at *
          rw [L_0, if_neg n10, r_nameLength hn hN hj, ej_bi_s, nI_m2 hb, ieq_t (show (nL (gB σr 1 j)).length = e - b from hl), if_neg n10, r_kindOf (by omega), ej_bi_s, l0, l1]
          split
          · split
            · rfl
            · rcases hy with z | ⟨a, a1, a2, _⟩
              · rename_i w1 w2; exact absurd z w2
              · rw [a2] at l0 l1 ⊢
                rw [r_nameLength hn hN hj, ej_bi_s, r_nameLength hn hN a1, ej_bi_s]
                split
                · exact l0
                · exact l1
          · rfl
        · have e54 : ∀ lg : Bool, m11_known_119 n (m11_known_8 n k) (nI b) (nI e) y (bI w) (nI j) 0 (bI lg) σr = m11_known_8 n k (nI b) (nI e) (if (!w && lg) = true then nI j else y) (bI w) (nI (j + 1)) σr := by
            intro lg
            have := r_kn_119 (n := n) (m11_known_8 n k) w false lg (nI b) (nI e) y j σr
            rw [Bool.false_or, Bool.or_false] at this
            exact this
          have l0 := e54 false
          have l1 := e54 true
          rw [bI_f, Bool.and_false, if_neg (by decide)] at l0
          rw [bI_t, Bool.and_true] at l1
          have hbn : (if w = true then y else y) = y := ite_self _
          unfold m11_known_54 m11_known_78
          rw [L_m1]
          rw [L_1] at *
          rw [L_0] at *
          rw [if_neg n10, r_nameLength hn hN hj, ej_bi_s, nI_m2 hb, ieq_f (show (nL (gB σr 1 j)).length ≠ e - b from hl) (by unfold nmN at h8; omega) (by omega), if_neg n10, r_kindOf (by omega), ej_bi_s, l0, l1, L_2]
          unfold bst
          by_cases hd : kdN σr j = 2
          · rw [ieq_t hd, if_pos (kdN_2.mp hd)]
            rcases hy with z | ⟨a, a1, a2, _⟩
            · rw [if_pos z, if_pos z]
              cases w <;> rfl
            · have ha8 := nmN_8 hN a1
              rw [a2, ieq_m (by omega), ieq_m (by omega), r_nameLength hn hN hj, ej_bi_s, r_nameLength hn hN a1, ej_bi_s, nI_clamp (by omega)]
              rw [a2] at l0 l1
              rcases Nat.lt_or_ge (nmN σr a) (nmN σr j) with q | q
              · rw [ile_f (show (nL (gB σr 1 a)).length < (nL (gB σr 1 j)).length from q) (by unfold nmN at h8; omega), l1]
                cases w
                · rw [if_neg (show ¬ nmN σr j ≤ nmN σr a by omega)]; rfl
                · rfl
              · rw [ile_t (show (nL (gB σr 1 j)).length ≤ (nL (gB σr 1 a)).length from q) (by unfold nmN at ha8; omega), l0, if_pos q]
                cases w <;> rfl
          · have hkl := kdN_le (σ := σr) (a := j)
            rw [ieq_f hd (by omega) (by omega), if_neg (fun z => hd (kdN_2.mpr z))]
            cases w <;> rfl
  · rw [if_neg ho]
    have hno : ¬ cnN n σr tp b e j := fun z => ho z.1
    exact ⟨fun _ => no54, fun w => absurd w hno, fun w => absurd w hno⟩
end P93b
