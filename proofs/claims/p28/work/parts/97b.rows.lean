/-! THE LAW'S OWN ROWS: statements, names, what they tell -/
/-- a statement: its kind, three names, a cost -/
abbrev St : Type := Nat × Nat × Nat × Nat × Nat
def e_k (s : St) : Nat := s.1
def e_a (s : St) : Nat := s.2.1
def e_b (s : St) : Nat := s.2.2.1
def e_c (s : St) : Nat := s.2.2.2.1
def e_q (s : St) : Nat := s.2.2.2.2
def e_is (kd one other : Nat) (s : St) : Bool := decide (e_k s = kd ∧ e_a s = one ∧ (kd = 3 ∨ e_b s = other ∨ (kd = 2 ∧ e_c s = other)) ∧ (kd = 3 ∨ one ≠ other))
def e_ct (kd : Nat) (s : St) : Nat := if kd = 0 ∨ kd = 2 then e_q s else 0
def e_mn (o : Option Nat) (c : Nat) : Option Nat := match o with
  | none => some c
  | some d => if c < d then some c else some d
def e_t1 (kd one other : Nat) (o : Option Nat) (s : St) : Option Nat := if e_is kd one other s = true then e_mn o (e_ct kd s) else o
/-- the least cost that is told -/
def e_td (L : List St) (kd one other : Nat) : Option Nat := L.foldl (e_t1 kd one other) none
def e_my (s : St) : Nat := if e_k s = 2 then 3 else if e_k s = 3 then 1 else 2
def e_nm (s : St) : List Nat := [e_a s, e_b s, e_c s].take (e_my s)
def e_add (X : List Nat) (v : Nat) : List Nat := if v ∈ X then X else X ++ [v]
/-- the names, as they come -/
def e_ns (L : List St) : List Nat := L.foldl (fun X s => (e_nm s).foldl e_add X) []
def e_nt (v : Nat) (s : St) : Bool := decide (e_k s = 2 ∧ e_a s = v)
def e_net (L : List St) (v : Nat) : Bool := L.any (e_nt v)
theorem e_td_snoc (L : List St) (s : St) (kd one other : Nat) : e_td (L ++ [s]) kd one other = e_t1 kd one other (e_td L kd one other) s := by
  unfold e_td; rw [List.foldl_append]; rfl
theorem e_ns_snoc (L : List St) (s : St) : e_ns (L ++ [s]) = (e_nm s).foldl e_add (e_ns L) := by
  unfold e_ns; rw [List.foldl_append]; rfl
theorem e_net_snoc (L : List St) (s : St) (v : Nat) : e_net (L ++ [s]) v = (e_net L v || e_nt v s) := by
  unfold e_net; rw [List.any_append]; simp
/-- statement j of the rows -/
def e_s (T : Nat → Nat) (j : Nat) : St := (T (5 * j), T (5 * j + 1), T (5 * j + 2), T (5 * j + 3), T (5 * j + 4))
def e_hd (h0 h1 j : Nat) : Bool := decide (j % 6 < if j < 6 then h0 else h1)
def e_L (T : Nat → Nat) (h0 h1 : Nat) : Nat → List St
  | 0 => []
  | j + 1 => if e_hd h0 h1 j = true then e_L T h0 h1 j ++ [e_s T j] else e_L T h0 h1 j
theorem e_L_t {T : Nat → Nat} {h0 h1 j : Nat} (h : e_hd h0 h1 j = true) : e_L T h0 h1 (j + 1) = e_L T h0 h1 j ++ [e_s T j] := by
  show (if _ then _ else _) = _
  rw [if_pos h]
theorem e_L_f {T : Nat → Nat} {h0 h1 j : Nat} (h : e_hd h0 h1 j = false) : e_L T h0 h1 (j + 1) = e_L T h0 h1 j := by
  show (if _ then _ else _) = _
  rw [if_neg (by rw [h]; decide)]
/-- a right row of statements -/
def e_ok (T : Nat → Nat) : Prop := ∀ j, j < 12 → T (5 * j) ≤ 4 ∧ T (5 * j + 1) < 10 ∧ T (5 * j + 2) < 10 ∧ T (5 * j + 3) < 10 ∧ T (5 * j + 4) < 100000
/-- statements, and how many of each half -/
def LT (τ : ej_S) (T : Nat → Nat) (h0 h1 : Nat) : Prop := (∀ i, i < 60 → gA τ 0 i = nI (T i)) ∧ e_ok T ∧ gA τ 2 0 = nI h0 ∧ gA τ 2 1 = nI h1 ∧ h0 ≤ 6 ∧ h1 ≤ 6
/-- names -/
def LX (τ : ej_S) (X : List Nat) : Prop := gA τ 2 2 = nI X.length ∧ X.Nodup ∧ (∀ i, i < X.length → gA τ 1 i = nI (X.getD i 0)) ∧ ∀ v ∈ X, v < 10
theorem e_ok_at {T : Nat → Nat} (h : e_ok T) {i : Nat} (hi : i < 60) : T i < 100000 := by
  have e : i = 5 * (i / 5) + i % 5 := by omega
  obtain ⟨h0, h1, h2, h3, h4⟩ := h (i / 5) (by omega)
  have hm : i % 5 < 5 := Nat.mod_lt _ (by omega)
  rw [e]
  generalize i % 5 = r at *
  match r, hm with
  | 0, _ => show T (5 * (i / 5)) < _; omega
  | 1, _ => omega
  | 2, _ => omega
  | 3, _ => omega
  | 4, _ => omega
  | r + 5, h => omega
section P97b
variable {n fu j kd one other h0 h1 : Nat} {c τ : ej_S} {T : Nat → Nat} {X : List Nat}
theorem L_holds (h : LT τ T h0 h1) (hj : j < 12) : mL_holds n (nI j) (c, τ) = some (bI (e_hd h0 h1 j), (c, τ)) := by
  obtain ⟨-, -, g0, g1, b0, b1⟩ := h
  unfold mL_holds e_hd
  rw [L_6, pk_div (by omega) (by omega) (by omega), pk_mul, pk_sub (by omega), ck_t (by omega) (by omega), nI_clamp (by omega), show j - j / 6 * 6 = j % 6 by omega]
  show (if gA τ 2 (j / 6) ≤ _ then _ else _) = _
  rcases Nat.lt_or_ge j 6 with q | q
  · rw [show j / 6 = 0 by omega, g0, if_pos q]
    rcases Nat.lt_or_ge (j % 6) h0 with w | w
    · rw [ile_f w (by omega), decide_eq_true w]; rfl
    · rw [ile_t w (by omega), decide_eq_false (by omega)]; rfl
  · rw [show j / 6 = 1 by omega, g1, if_neg (show ¬ j < 6 by omega)]
    rcases Nat.lt_or_ge (j % 6) h1 with w | w
    · rw [ile_f w (by omega), decide_eq_true w]; rfl
    · rw [ile_t w (by omega), decide_eq_false (by omega)]; rfl
/-- a cost that may be missing, not too great -/
def oB (o : Option Nat) : Prop := ∀ v, o = some v → v < 2 ^ 30
theorem oB_mn {o : Option Nat} {q : Nat} (h : oB o) (hq : q < 2 ^ 30) : oB (e_mn o q) := by
  intro v e
  cases o with
  | none => cases e; exact hq
  | some d =>
    by_cases z : q < d
    · rw [show e_mn (some d) q = some q from if_pos z] at e
      cases e; exact hq
    · rw [show e_mn (some d) q = some d from if_neg z] at e
      exact h _ e
theorem L_told_126 (f : Int32 → Int32 → Int32 → Int32 → Int32 → lw_S → Option (Int32 × lw_S)) {o : Option Nat} {q : Nat} (ho : oB o) (hq : q < 2 ^ 30) (x y z : Int32) (s : lw_S) : mL_told_126 n f x y z (oI o) (nI j) (nI q) s = f x y z (oI (e_mn o q)) (nI (j + 1)) s := by
  unfold mL_told_126
  rw [L_0, L_1]
  cases o with
  | none =>
    show (if zm < nI 0 then _ else _) = _
    rw [ilt_m (by omega), ej_nm_e, nI_add]; rfl
  | some v =>
    have hv := ho v rfl
    show (if nI v < nI 0 then _ else (if nI v ≤ nI q then _ else _)) = _
    rw [ilt_f (Nat.zero_le _) (by omega)]
    rcases Nat.lt_or_ge q v with w | w
    · rw [ile_f w (by omega), ej_nm_e, nI_add, show e_mn (some v) q = some q from if_pos w]; rfl
    · rw [ile_t w (by omega), ej_nm_e, nI_add, show e_mn (some v) q = some v from if_neg (by omega)]
theorem L_told_108 (f : Int32 → Int32 → Int32 → Int32 → Int32 → lw_S → Option (Int32 × lw_S)) {o : Option Nat} {q : Nat} (is : Bool) (ho : oB o) (hq : q < 2 ^ 30) (hk : kd < 2 ^ 31) (h1' : one < 2 ^ 31) (h2' : other < 2 ^ 31) (s : lw_S) : mL_told_108 n f (nI kd) (nI one) (nI other) (oI o) (nI j) (bI is) (nI q) s = f (nI kd) (nI one) (nI other) (oI (if is = true ∧ (kd = 3 ∨ one ≠ other) then e_mn o q else o)) (nI (j + 1)) s := by
  unfold mL_told_108
  rw [L_0, L_3, L_1]
  cases is
  · rw [bI_f, if_pos rfl, ej_nm_e, nI_add, if_neg (fun z => by cases z.1)]
  · rw [bI_t, if_neg n10]
    by_cases g : kd = 3
    · rw [ieq_t g, L_told_126 f ho hq, if_pos ⟨rfl, .inl g⟩]
    · rw [ieq_f g hk (by omega)]
      by_cases w : one = other
      · rw [ieq_t w, ej_nm_e, nI_add, if_neg (fun z => z.2.elim g (fun y => y w))]
      · rw [ieq_f w h1' h2', L_told_126 f ho hq, if_pos ⟨rfl, .inr w⟩]
theorem L_told_85 (f : Int32 → Int32 → Int32 → Int32 → Int32 → lw_S → Option (Int32 × lw_S)) (h : LT τ T h0 h1) (hj : j < 12) {o : Option Nat} (is : Bool) (ho : oB o) (hk : kd < 2 ^ 31) (h1' : one < 2 ^ 31) (h2' : other < 2 ^ 31) : mL_told_85 n f (nI kd) (nI one) (nI other) (oI o) (nI j) (bI is) (c, τ) = f (nI kd) (nI one) (nI other) (oI (if is = true ∧ (kd = 3 ∨ one ≠ other) then e_mn o (e_ct kd (e_s T j)) else o)) (nI (j + 1)) (c, τ) := by
  obtain ⟨g, ok, -⟩ := h
  have hq : T (5 * j + 4) < 100000 := e_ok_at ok (by omega)
  unfold mL_told_85
  rw [L_0, L_2, L_4, L_5, pk_mul, nI_add, ck_t (by omega) (by omega), nI_clamp (by omega)]
  show (if nI kd = nI 0 then mL_told_108 n f (nI kd) (nI one) (nI other) (oI o) (nI j) (bI is) (gA τ 0 (5 * j + 4)) (c, τ) else (if nI kd = nI 2 then mL_told_108 n f (nI kd) (nI one) (nI other) (oI o) (nI j) (bI is) (gA τ 0 (5 * j + 4)) (c, τ) else _)) = _
  rw [g _ (by omega), L_told_108 f is ho (by omega) hk h1' h2', L_told_108 f is ho (show (0 : Nat) < 2 ^ 30 by omega) hk h1' h2']
  by_cases k0 : kd = 0
  · rw [ieq_t k0, show e_ct kd (e_s T j) = T (5 * j + 4) from if_pos (.inl k0)]
  · rw [ieq_f k0 hk (by omega)]
    by_cases k2 : kd = 2
    · rw [ieq_t k2, show e_ct kd (e_s T j) = T (5 * j + 4) from if_pos (.inr k2)]
    · rw [ieq_f k2 hk (by omega), show e_ct kd (e_s T j) = 0 from if_neg (by omega)]
theorem e_t1_is (o : Option Nat) (is : Bool) (hi : (is = true ∧ (kd = 3 ∨ one ≠ other)) ↔ e_is kd one other (e_s T j) = true) : (if is = true ∧ (kd = 3 ∨ one ≠ other) then e_mn o (e_ct kd (e_s T j)) else o) = e_t1 kd one other o (e_s T j) := by
  unfold e_t1
  by_cases z : is = true ∧ (kd = 3 ∨ one ≠ other)
  · rw [if_pos z, if_pos (hi.mp z)]
  · rw [if_neg z, if_neg (fun y => z (hi.mpr y))]
theorem L_told_6 (h : LT τ T h0 h1) (hk : kd < 5) (h1' : one < 2 ^ 31) (h2' : other < 2 ^ 31) : ∀ (fu j : Nat), j ≤ 12 → 12 - j < fu → oB (e_td (e_L T h0 h1 j) kd one other) → mL_told_6 n fu (nI kd) (nI one) (nI other) (oI (e_td (e_L T h0 h1 j) kd one other)) (nI j) (c, τ) = some (oI (e_td (e_L T h0 h1 12) kd one other), (c, τ)) ∧ oB (e_td (e_L T h0 h1 12) kd one other) := by
  intro fu
  induction fu with
  | zero => intro j _ h; omega
  | succ fu ih =>
    intro j hj hf ho
    rw [u_L_told_6, L_12]
    rcases Nat.eq_or_lt_of_le hj with rfl | q
    · rw [ile_t (Nat.le_refl _) (by omega)]
      exact ⟨rfl, ho⟩
    · rw [ile_f q (by omega), L_holds h q, ej_bi_s, L_0, ibI]
      have g := h.1
      have ok := h.2.1
      have b0 : T (5 * j) < 100000 := e_ok_at ok (by omega)
      have b1 : T (5 * j + 1) < 100000 := e_ok_at ok (by omega)
      have b2 : T (5 * j + 2) < 100000 := e_ok_at ok (by omega)
      have b3 : T (5 * j + 3) < 100000 := e_ok_at ok (by omega)
      have b4 : T (5 * j + 4) < 100000 := e_ok_at ok (by omega)
      have go : ∀ is : Bool, e_hd h0 h1 j = true → ((is = true ∧ (kd = 3 ∨ one ≠ other)) ↔ e_is kd one other (e_s T j) = true) → mL_told_85 n (mL_told_6 n fu) (nI kd) (nI one) (nI other) (oI (e_td (e_L T h0 h1 j) kd one other)) (nI j) (bI is) (c, τ) = some (oI (e_td (e_L T h0 h1 12) kd one other), (c, τ)) ∧ oB (e_td (e_L T h0 h1 12) kd one other) := by
        intro is hh hi
        have e : e_t1 kd one other (e_td (e_L T h0 h1 j) kd one other) (e_s T j) = e_td (e_L T h0 h1 (j + 1)) kd one other := by rw [e_L_t hh, e_td_snoc]
        rw [L_told_85 _ h q is ho (by omega) h1' h2', e_t1_is _ is hi, e]
        refine ih (j + 1) q (by omega) ?_
        rw [← e]
        unfold e_t1
        split
        · refine oB_mn ho ?_
          show (if kd = 0 ∨ kd = 2 then T (5 * j + 4) else 0) < _
          split <;> omega
        · exact ho
      cases hh : e_hd h0 h1 j
      · rw [if_neg (by decide), ← bI_f, L_told_85 _ h q false ho (by omega) h1' h2', if_neg (fun z => by cases z.1)]
        have e : e_L T h0 h1 (j + 1) = e_L T h0 h1 j := e_L_f hh
        rw [← e]
        exact ih (j + 1) q (by omega) (by rw [e]; exact ho)
      · rw [if_pos rfl]
        have gs : ∀ i, i < 60 → gA (c, τ).2 0 i = nI (T i) := g
        rw [L_1, L_2, L_3, L_5, pk_mul, nI_add, nI_add, nI_add, ck_t (show 5 * j < 60 by omega) (by omega), ck_t (show 5 * j + 1 < 60 by omega) (by omega), ck_t (show 5 * j + 2 < 60 by omega) (by omega), ck_t (show 5 * j + 3 < 60 by omega) (by omega), nI_clamp (show 5 * j < 2 ^ 31 by omega), nI_clamp (show 5 * j + 1 < 2 ^ 31 by omega), nI_clamp (show 5 * j + 2 < 2 ^ 31 by omega), nI_clamp (show 5 * j + 3 < 2 ^ 31 by omega), gs _ (by omega), gs _ (by omega), gs _ (by omega), gs _ (by omega)]
        have no : ¬ e_is kd one other (e_s T j) = true → mL_told_85 n (mL_told_6 n fu) (nI kd) (nI one) (nI other) (oI (e_td (e_L T h0 h1 j) kd one other)) (nI j) (nI 0) (c, τ) = some (oI (e_td (e_L T h0 h1 12) kd one other), (c, τ)) ∧ oB (e_td (e_L T h0 h1 12) kd one other) := fun z => go false hh ⟨fun y => (by cases y.1), fun y => absurd y z⟩
        have yes : ((kd = 3 ∨ one ≠ other) ↔ e_is kd one other (e_s T j) = true) → mL_told_85 n (mL_told_6 n fu) (nI kd) (nI one) (nI other) (oI (e_td (e_L T h0 h1 j) kd one other)) (nI j) (nI 1) (c, τ) = some (oI (e_td (e_L T h0 h1 12) kd one other), (c, τ)) ∧ oB (e_td (e_L T h0 h1 12) kd one other) := fun z => go true hh ⟨fun y => z.mp y.2, fun y => ⟨rfl, z.mpr y⟩⟩
        unfold e_is at no yes
        simp only [decide_eq_true_eq] at no yes
        have f0 : e_k (e_s T j) = T (5 * j) := rfl
        have f1 : e_a (e_s T j) = T (5 * j + 1) := rfl
        have f2 : e_b (e_s T j) = T (5 * j + 2) := rfl
        have f3 : e_c (e_s T j) = T (5 * j + 3) := rfl
        rw [f0, f1, f2, f3] at no yes
        by_cases c0 : T (5 * j) = kd
        · rw [ieq_t c0]
          by_cases c1 : T (5 * j + 1) = one
          · rw [ieq_t c1]
            by_cases c3 : kd = 3
            · rw [ieq_t c3]
              exact yes ⟨fun z => ⟨c0, c1, .inl c3, z⟩, fun z => z.2.2.2⟩
            · rw [ieq_f c3 (by omega) (by omega)]
              by_cases c2 : T (5 * j + 2) = other
              · rw [ieq_t c2]
                exact yes ⟨fun z => ⟨c0, c1, .inr (.inl c2), z⟩, fun z => z.2.2.2⟩
              · rw [ieq_f c2 (by omega) h2']
                by_cases k2 : kd = 2
                · rw [ieq_t k2]
                  by_cases c4 : T (5 * j + 3) = other
                  · rw [ieq_t c4]
                    exact yes ⟨fun z => ⟨c0, c1, .inr (.inr ⟨k2, c4⟩), z⟩, fun z => z.2.2.2⟩
                  · rw [ieq_f c4 (by omega) h2']
                    exact no (fun z => z.2.2.1.elim c3 (fun y => y.elim c2 (fun w => c4 w.2)))
                · rw [ieq_f k2 (by omega) (by omega)]
                  exact no (fun z => z.2.2.1.elim c3 (fun y => y.elim c2 (fun w => k2 w.1)))
          · rw [ieq_f c1 (by omega) h1']
            exact no (fun z => c1 z.2.1)
        · rw [ieq_f c0 (by omega) (by omega)]
          exact no (fun z => c0 z.1)
theorem L_told (hn : 2000 < n) (h : LT τ T h0 h1) (hk : kd < 5) (h1' : one < 2 ^ 31) (h2' : other < 2 ^ 31) : mL_told n (nI kd) (nI one) (nI other) (c, τ) = some (oI (e_td (e_L T h0 h1 12) kd one other), (c, τ)) ∧ oB (e_td (e_L T h0 h1 12) kd one other) := by
  unfold mL_told
  rw [L_m1, L_0]
  exact L_told_6 h hk h1' h2' n 0 (Nat.zero_le _) (by omega) (fun v e => by cases e)
theorem L_isNet_5 (h : LT τ T h0 h1) (h1' : one < 2 ^ 31) : ∀ (fu j : Nat), j ≤ 12 → 12 - j < fu → mL_isNet_5 n fu (nI one) (bI (e_net (e_L T h0 h1 j) one)) (nI j) (c, τ) = some (bI (e_net (e_L T h0 h1 12) one), (c, τ)) := by
  intro fu
  induction fu with
  | zero => intro j _ h; omega
  | succ fu ih =>
    intro j hj hf
    rw [u_L_isNet_5, L_12]
    rcases Nat.eq_or_lt_of_le hj with rfl | q
    · rw [ile_t (Nat.le_refl _) (by omega), bz_b]
    · have g : ∀ i, i < 60 → gA (c, τ).2 0 i = nI (T i) := h.1
      have b0 : T (5 * j) < 100000 := e_ok_at h.2.1 (by omega)
      have b1 : T (5 * j + 1) < 100000 := e_ok_at h.2.1 (by omega)
      have key := ih (j + 1) q (by omega)
      rw [ile_f q (by omega), L_0, L_1, ibI, L_holds h q, ej_bi_s, ibI, L_2, L_5, pk_mul, nI_add, nI_add, ck_t (show 5 * j < 60 by omega) (by omega), ck_t (show 5 * j + 1 < 60 by omega) (by omega), nI_clamp (show 5 * j < 2 ^ 31 by omega), nI_clamp (show 5 * j + 1 < 2 ^ 31 by omega), g _ (by omega), g _ (by omega)]
      simp only [ej_nm_e]
      have en : e_nt one (e_s T j) = decide (T (5 * j) = 2 ∧ T (5 * j + 1) = one) := rfl
      cases hh : e_hd h0 h1 j
      · rw [e_L_f hh] at key
        cases hb : e_net (e_L T h0 h1 j) one
        · rw [hb, bI_f] at key
          rw [if_neg (by decide), if_neg (by decide)]; exact key
        · rw [hb, bI_t] at key
          rw [if_pos rfl]; exact key
      · rw [e_L_t hh, e_net_snoc, en] at key
        cases hb : e_net (e_L T h0 h1 j) one
        · rw [hb, Bool.false_or] at key
          rw [if_neg (by decide), if_pos rfl]
          by_cases c0 : T (5 * j) = 2
          · rw [ieq_t c0]
            by_cases c1 : T (5 * j + 1) = one
            · rw [ieq_t c1]; rw [decide_eq_true ⟨c0, c1⟩, bI_t] at key; exact key
            · rw [ieq_f c1 (by omega) h1']; rw [decide_eq_false (fun z => c1 z.2), bI_f] at key; exact key
          · rw [ieq_f c0 (by omega) (by omega)]; rw [decide_eq_false (fun z => c0 z.1), bI_f] at key; exact key
        · rw [hb, Bool.true_or, bI_t] at key
          rw [if_pos rfl]; exact key
theorem L_isNet (hn : 2000 < n) (h : LT τ T h0 h1) (h1' : one < 2 ^ 31) : mL_isNet n (nI one) (c, τ) = some (bI (e_net (e_L T h0 h1 12) one), (c, τ)) := by
  unfold mL_isNet
  rw [L_0]
  exact L_isNet_5 h h1' n 0 (Nat.zero_le _) (by omega)
end P97b
