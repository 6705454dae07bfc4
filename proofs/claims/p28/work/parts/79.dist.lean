/-! LEAST WAYS, of any steps -/
def iF : Nat := 1099511627776
theorem iF_e : iF = 1099511627776 := rfl
def wk (E : Nat → Nat → Nat → Nat → Prop) (s d v : Nat) : Prop := ∀ W : Nat → Nat → Prop, W 0 s → (∀ d u k v w, W d u → E u k v w → W (d + w) v) → W d v
theorem wk_z {E : Nat → Nat → Nat → Nat → Prop} {s : Nat} : wk E s 0 s := fun _ h _ => h
theorem wk_st {E : Nat → Nat → Nat → Nat → Prop} {s d u k v w : Nat} (h : wk E s d u) (e : E u k v w) : wk E s (d + w) v := fun W h0 h1 => h1 d u k v w (h W h0 h1) e
def cnt (D : Nat → Nat) (x : Nat) : Nat := fb_ct (fun y => decide (D y < x)) 96
def dU (D : Nat → Nat) (v x : Nat) : Nat → Nat := fun y => if y = v then x else D y
theorem dU_s (D : Nat → Nat) (v x : Nat) : dU D v x v = x := if_pos rfl
theorem dU_n (D : Nat → Nat) {v x y : Nat} (h : y ≠ v) : dU D v x y = D y := if_neg h
def OKD (D : Nat → Nat) : Prop := ∀ v, v < 96 → D v < iF → D v ≤ 1341440001 * cnt D (D v) ∧ D v % 1024 ≤ cnt D (D v)
theorem cnt_95 {D : Nat → Nat} {v : Nat} (hv : v < 96) : cnt D (D v) ≤ 95 := by
  have h1 := ct_lt (p := fun y => decide (D y < D v)) (q := fun _ => true) (n := 96) hv (fun _ _ _ => rfl) (decide_eq_false (Nat.lt_irrefl _)) rfl
  have h2 := fb_ct_le (fun _ => true) 96
  unfold cnt; omega
theorem OKD_bd {D : Nat → Nat} (h : OKD D) {v : Nat} (hv : v < 96) (hf : D v < iF) : D v ≤ 127436800095 ∧ D v % 1024 ≤ 95 := by
  obtain ⟨h1, h2⟩ := h v hv hf
  have := cnt_95 (D := D) hv
  omega
theorem OKD_up {D : Nat → Nat} (h : OKD D) (hi : ∀ v, D v ≤ iF) {u v c w : Nat} (hu : u < 96) (hf : D u < iF) (hc : c ≤ 1310000) (hw : w = 1024 * c + 1) (hlt : D u + w < D v) : OKD (dU D v (D u + w)) := by
  have huv : u ≠ v := fun z => by subst z; omega
  have b := OKD_bd h hu hf
  obtain ⟨b1, b2⟩ := h u hu hf
  intro y hy hyf
  by_cases e : y = v
  · subst e
    rw [dU_s] at *
    have key : cnt D (D u) < cnt (dU D y (D u + w)) (D u + w) := by
      unfold cnt
      refine ct_lt hu (fun k hk hkd => ?_) (decide_eq_false (Nat.lt_irrefl _)) ?_
      · simp only [decide_eq_true_eq] at *
        rw [dU_n _ (fun z => by subst z; omega)]; omega
      · simp only [decide_eq_true_eq]
        rw [dU_n _ huv]; omega
    have := cnt_95 (D := D) hu
    omega
  · rw [dU_n _ e] at *
    have key : cnt D (D y) ≤ cnt (dU D v (D u + w)) (D y) := by
      unfold cnt
      refine fb_ct_sub (fun k hk hkd => ?_)
      simp only [decide_eq_true_eq] at *
      by_cases e2 : k = v
      · subst e2; rw [dU_s]; omega
      · rw [dU_n _ e2]; exact hkd
    obtain ⟨c1, c2⟩ := h y hy hyf
    exact ⟨Nat.le_trans c1 (Nat.mul_le_mul_left _ key), Nat.le_trans c2 key⟩
/-- no more than the steps let -/
def sol (E : Nat → Nat → Nat → Nat → Prop) (s : Nat) (D : Nat → Nat) : Prop := D s = 0 ∧ (∀ v, D v ≤ iF) ∧ (∀ v, v < 96 → D v < iF → wk E s (D v) v) ∧ ∀ u k v w, E u k v w → D u < iF → D v ≤ D u + w
section P79
variable {E : Nat → Nat → Nat → Nat → Prop} {s : Nat} {D D' : Nat → Nat}
theorem sol_le (h : sol E s D) : ∀ {d v : Nat}, wk E s d v → D v ≤ d := by
  intro d v q
  refine q (fun d v => D v ≤ d) (by rw [h.1]; exact Nat.le_refl _) (fun d u k v w ih e => ?_)
  rcases Nat.lt_or_ge (D u) iF with z | z
  · have := h.2.2.2 u k v w e z; omega
  · have := h.2.1 v; omega
theorem sol_eq (h : sol E s D) (h' : sol E s D') {v : Nat} (hv : v < 96) : D v = D' v := by
  have one : ∀ {D D' : Nat → Nat}, sol E s D → sol E s D' → D' v ≤ D v := by
    intro D D' h h'
    rcases Nat.lt_or_ge (D v) iF with z | z
    · exact sol_le h' (h.2.2.1 v hv z)
    · exact Nat.le_trans (h'.2.1 v) z
  exact Nat.le_antisymm (one h' h) (one h h')
/-- how two rows tell of it -/
def kC (R T : Nat → Int32) (D : Nat → Nat) : Prop := ∀ v, v < 96 → (D v = iF ∧ R v = zm) ∨ (D v < iF ∧ R v = nI (D v / 1024) ∧ T v = nI (D v % 1024))
/-- the least of all last steps -/
def lst (E : Nat → Nat → Nat → Nat → Prop) (D : Nat → Nat) (v u k : Nat) : Prop := (∃ w, E u k v w ∧ D u + w = D v) ∧ ∀ u' k' w', E u' k' v w' → D u' + w' = D v → u < u' ∨ (u = u' ∧ k ≤ k')
def wayR (E : Nat → Nat → Nat → Nat → Prop) (s : Nat) (R T P K : Nat → Int32) (D : Nat → Nat) : Prop := sol E s D ∧ OKD D ∧ kC R T D ∧ (P s = zm ∧ K s = nI 0) ∧ ∀ v, v < 96 → v ≠ s → D v < iF → ∃ u k, u < 96 ∧ k ≤ 5 ∧ lst E D v u k ∧ P v = nI u ∧ K v = nI k
theorem kC_v {R T : Nat → Int32} (h : kC R T D) (ho : OKD D) {v : Nat} (hv : v < 96) : (R v = zm ↔ D v = iF) := by
  rcases h v hv with ⟨a, b⟩ | ⟨a, b, c⟩
  · exact ⟨fun _ => a, fun _ => b⟩
  · have := (OKD_bd ho hv a).1
    rw [b]
    exact ⟨fun z => absurd z (zm_ne (by omega)), fun z => by omega⟩
theorem wayR_eq {R T P K R' T' P' K' : Nat → Int32} (h : wayR E s R T P K D) (h' : wayR E s R' T' P' K' D') {v : Nat} (hv : v < 96) : R v = R' v ∧ (R v ≠ zm → T v = T' v ∧ P v = P' v ∧ K v = K' v) := by
  have e : ∀ {v : Nat}, v < 96 → D v = D' v := fun hv => sol_eq h.1 h'.1 hv
  obtain ⟨h1, h2, h3, h4, h5⟩ := h
  obtain ⟨g1, g2, g3, g4, g5⟩ := h'
  have ev := e hv
  rcases h3 v hv with ⟨a1, a2⟩ | ⟨a1, a2, a3⟩
  · rcases g3 v hv with ⟨b1, b2⟩ | ⟨b1, b2, b3⟩
    · exact ⟨by rw [a2, b2], fun z => absurd a2 z⟩
    · omega
  · rcases g3 v hv with ⟨b1, b2⟩ | ⟨b1, b2, b3⟩
    · omega
    · refine ⟨by rw [a2, b2, ev], fun _ => ⟨by rw [a3, b3, ev], ?_⟩⟩
      by_cases q : v = s
      · subst q; exact ⟨by rw [h4.1, g4.1], by rw [h4.2, g4.2]⟩
      · obtain ⟨u, k, c1, c1', ⟨⟨w, c2, c3⟩, c4⟩, c5, c6⟩ := h5 v hv q a1
        obtain ⟨u', k', d1, d1', ⟨⟨w', d2, d3⟩, d4⟩, d5, d6⟩ := g5 v hv q b1
        have x1 := c4 u' k' w' d2 (by rw [e d1, ev]; exact d3)
        have x2 := d4 u k w c2 (by rw [← e c1, ← ev]; exact c3)
        have : u = u' ∧ k = k' := by omega
        rw [c5, d5, c6, d6, this.1, this.2]; exact ⟨rfl, rfl⟩
end P79
/-- a sum that falls -/
def sm (D : Nat → Nat) : Nat → Nat
  | 0 => 0
  | n + 1 => sm D n + D n
theorem sm_le {D : Nat → Nat} {B : Nat} (h : ∀ v, D v ≤ B) : ∀ n, sm D n ≤ n * B
  | 0 => Nat.zero_le _
  | n + 1 => by
    show sm D n + D n ≤ (n + 1) * B
    have := sm_le h n
    have := h n
    rw [Nat.succ_mul]; omega
theorem sm_dU {D : Nat → Nat} {v x : Nat} : ∀ n, n ≤ v → sm (dU D v x) n = sm D n
  | 0, _ => rfl
  | n + 1, h => by
    show sm (dU D v x) n + dU D v x n = sm D n + D n
    rw [sm_dU n (by omega), dU_n _ (by omega)]
theorem sm_up {D : Nat → Nat} {v x : Nat} (hx : x < D v) : ∀ n, v < n → sm (dU D v x) n < sm D n
  | 0, h => absurd h (Nat.not_lt_zero _)
  | n + 1, h => by
    show sm (dU D v x) n + dU D v x n < sm D n + D n
    by_cases e : n = v
    · subst e; rw [sm_dU n (Nat.le_refl _), dU_s]; omega
    · rw [dU_n _ e]
      have := sm_up hx n (by omega)
      omega
