/-! THE REFERENCE: what is reached, links back -/
theorem uA_same {σ : ej_S} {k i : Nat} {v : Int32} (h : gA σ k i = v) : uA σ k i v = σ := by
  unfold uA
  have e : va_up σ.2.2.1 k (upd (σ.2.2.1 k) i v) = σ.2.2.1 := by
    funext j
    unfold va_up
    split
    · rename_i z; subst z; exact fa_upd_same h
    · rfl
  rw [e]
theorem wfR_fr {σ s : ej_S} {I J A B M : List Nat} (h : wfR σ) (f : fr I J A B M σ s) (i1 : 15 ∉ I) (i2 : 16 ∉ I) (b1 : 1 ∉ B) (a1 : 11 ∉ A) (a2 : 12 ∉ A) (a3 : 16 ∉ A) (a4 : 19 ∉ A) (a5 : 20 ∉ A) : wfR s := by
  unfold wfR at *
  rw [f.1 15 i1, f.1 16 i2, f.2.2.2.1 1 b1, f.2.2.1 11 a1, f.2.2.1 12 a2, f.2.2.1 16 a3, f.2.2.1 19 a4, f.2.2.1 20 a5]
  exact h
def CR (σ : ej_S) (N : Nat) : Prop := wfR σ ∧ gI σ 15 = nI N ∧ N ≤ 24 ∧ bkOK σ
theorem CR_w {σ : ej_S} {N : Nat} (h : CR σ N) : wPr (gA σ 16) ∧ wPr (gA σ 20) := by
  obtain ⟨⟨N', h0, h1, h2, w1, w2, w3, w4, w5, w⟩, _⟩ := h
  exact ⟨w4, w5⟩
theorem CR_22 {σ s : ej_S} {N : Nat} (h : CR σ N) (f : fr [] [] [22] [] [] σ s) : CR s N := by
  obtain ⟨h1, h2, h3, h4⟩ := h
  refine ⟨wfR_fr h1 f (by simp) (by simp) (by simp) (by simp) (by simp) (by simp) (by simp) (by simp), by rw [f.1 15 (by simp)]; exact h2, h3, ?_⟩
  unfold bkOK at *
  rw [f.2.2.1 21 (by simp), f.2.2.1 16 (by simp)]; exact h4
theorem scost_22 {σ s : ej_S} (f : fr [] [] [22] [] [] σ s) (a b k : Nat) : scost s a b k = scost σ a b k := by
  unfold scost
  rw [f.2.2.1 19 (by simp), f.2.2.1 16 (by simp), f.2.2.1 18 (by simp), f.2.2.1 14 (by simp), f.2.2.1 20 (by simp), f.2.2.1 15 (by simp), f.2.2.2.1 1 (by simp), f.2.2.1 21 (by simp)]
theorem stp_22 {σ s : ej_S} (f : fr [] [] [22] [] [] σ s) (a b : Nat) : stp s a b ↔ stp σ a b := stp_cg (fun k _ _ => scost_22 f a b k)
def Rr (N : Nat) (σ : ej_S) (x : Nat) : Prop := x < N ∧ gA σ 22 x ≠ nI 0
section P76
variable {n N a b y : Nat} {σ : ej_S}
theorem r_74 (F : Int32 → Int32 → ej_S → Option ej_S) (hc : CR σ N) (ha : a < 24) (hb : b < 24) (g : Bool) : ∀ (k kind : Nat), 1 ≤ kind → kind ≤ 6 → 6 - kind < k → (gA σ 22 a ≠ nI 0 ∧ gA σ 22 b = nI 0 ∧ (∃ j, kind ≤ j ∧ j ≤ 5 ∧ scost σ a b j ≠ none) ∧ m11_reaches_74 n F k (bI g) (nI y) (nI a) (nI b) (nI kind) σ = F (nI 1) (nI (y + 1)) (uA σ 22 b (nI 1))) ∨ (¬ (gA σ 22 a ≠ nI 0 ∧ gA σ 22 b = nI 0 ∧ (∃ j, kind ≤ j ∧ j ≤ 5 ∧ scost σ a b j ≠ none)) ∧ m11_reaches_74 n F k (bI g) (nI y) (nI a) (nI b) (nI kind) σ = F (bI g) (nI (y + 1)) σ) := by
  obtain ⟨w1, w2⟩ := CR_w hc
  intro k
  induction k with
  | zero => intro kind h1 h2 h3; omega
  | succ k ih =>
    intro kind h1 h2 h3
    rw [u_11_reaches_74]
    rcases Nat.lt_or_ge 5 kind with q | q
    · right
      refine ⟨fun z => ?_, ?_⟩
      · obtain ⟨_, _, j, j1, j2, _⟩ := z; omega
      · rw [L_5, ilt_t q (by omega)]
        simp only [ej_bi_s, ej_bl_s, ej_bv_s, ej_nm_e, L_1, nI_add]
    · rw [L_5, ilt_f q (by omega)]
      simp (disch := omega) only [ck_t, nI_clamp, ej_bi_s, ej_bl_s, ej_bv_s, ej_nm_e, ↓L_m1, L_1, L_0, nI_add]
      by_cases ra : gA σ 22 a = nI 0
      · rw [if_pos ra]; exact .inr ⟨fun z => z.1 ra, rfl⟩
      · rw [if_neg ra]
        by_cases rb : gA σ 22 b = nI 0
        · rw [if_pos rb, r_stepCost w1 w2 hc.2.2.2 ha hb h1 q, ej_bi_s]
          cases hs : scost σ a b kind with
          | none =>
            rw [show oI none = zm from rfl, if_pos rfl]
            have e125 : m11_reaches_125 n (m11_reaches_74 n F k) (bI g) (nI y) (nI a) (nI b) (nI kind) (nI 0) (nI b) σ = m11_reaches_74 n F k (bI g) (nI y) (nI a) (nI b) (nI (kind + 1)) σ := by
              unfold m11_reaches_125
              simp (disch := omega) only [ck_t, nI_clamp, ej_bi_s, ej_bl_s, ej_bv_s, ej_nm_e, bz_n0, uA_same rb, L_0, L_1, nI_add]
              cases g
              · rw [bI_f, if_pos rfl, if_pos rb]
              · rw [bI_t, if_neg n10]
            rw [e125]
            rcases ih (kind + 1) (by omega) (by omega) (by omega) with ⟨_, _, ⟨j, j1, j2, j3⟩, e⟩ | ⟨hno, e⟩
            · exact .inl ⟨ra, rb, ⟨j, by omega, j2, j3⟩, e⟩
            · refine .inr ⟨fun z => ?_, e⟩
              obtain ⟨_, _, j, j1, j2, j3⟩ := z
              rcases Nat.eq_or_lt_of_le j1 with w | w
              · subst w; exact j3 hs
              · exact hno ⟨ra, rb, j, w, j2, j3⟩
          | some c =>
            have hcb := scost_bd w1 w2 ha hb hs
            rw [show oI (some c) = nI c from rfl, ieq_m (by omega)]
            refine .inl ⟨ra, rb, ⟨kind, Nat.le_refl _, q, by rw [hs]; simp⟩, ?_⟩
            have f22 : fr [] [] [22] [] [] σ (uA σ 22 b (nI 1)) := fr_uA fr_rf (by simp)
            have hrb' : gA (uA σ 22 b (nI 1)) 22 b = nI 1 := by rw [s_AA_s, pk_us]
            have e125 : m11_reaches_125 n (m11_reaches_74 n F k) (bI g) (nI y) (nI a) (nI b) (nI kind) (nI 1) (nI b) σ = m11_reaches_74 n F k (nI 1) (nI y) (nI a) (nI b) (nI (kind + 1)) (uA σ 22 b (nI 1)) := by
              unfold m11_reaches_125
              simp (disch := omega) only [ck_t, nI_clamp, ej_bi_s, ej_bl_s, ej_bv_s, ej_nm_e, bz_n1, L_0, L_1, nI_add, hrb']
              cases g
              · rw [bI_f, if_pos rfl, if_neg n10]
              · rw [bI_t, if_neg n10]
            rw [e125]
            obtain ⟨k, rfl⟩ : ∃ k', k = k' + 1 := ⟨k - 1, by omega⟩
            rw [u_11_reaches_74]
            rcases Nat.lt_or_ge 5 (kind + 1) with q2 | q2
            · rw [L_5, ilt_t q2 (by omega)]
              simp only [ej_bi_s, ej_bl_s, ej_bv_s, ej_nm_e, L_1, nI_add]
            · rw [L_5, ilt_f q2 (by omega)]
              simp (disch := omega) only [ck_t, nI_clamp, ej_bi_s, ej_bl_s, ej_bv_s, ej_nm_e, L_1, L_0, nI_add, hrb']
              by_cases ra2 : gA (uA σ 22 b (nI 1)) 22 a = nI 0
              · rw [if_pos ra2]
              · rw [if_neg ra2, if_neg n10]
        · rw [if_neg rb]; exact .inr ⟨fun z => rb z.2.1, rfl⟩
theorem dv_t {α : Type} {k : Option α} (h : 0 < N) (hN : N < 2 ^ 31) : ej_dv (nI N) k = k := ej_dv_t h hN
theorem r_42 (F : Int32 → ej_S → Option ej_S) : ∀ (k y : Nat) (σ : ej_S) (g : Bool), CR σ N → y ≤ N * N → N * N - y < k → n > 2000 → ∃ σ' g', m11_reaches_42 n F k (bI g) (nI y) σ = F (bI g') σ' ∧ fr [] [] [22] [] [] σ σ' ∧ (∀ x, Rr N σ x → Rr N σ' x) ∧ (∀ S : Nat → Prop, clo σ S → (∀ x, Rr N σ x → S x) → ∀ x, Rr N σ' x → S x) ∧ (g' = false → g = false ∧ σ' = σ ∧ ∀ y', y ≤ y' → y' < N * N → Rr N σ (y' / N) → stp σ (y' / N) (y' % N) → Rr N σ (y' % N)) ∧ (g' = true → g = true ∨ ctP (Rr N σ) < ctP (Rr N σ')) := by
  intro k
  induction k with
  | zero => intro y σ g _ _ h; omega
  | succ k ih =>
    intro y σ g hc hy hk hn
    have hN : N * N ≤ 576 := by have := hc.2.2.1; exact Nat.mul_le_mul this this
    rw [u_11_reaches_42, hc.2.1, pk_mul]
    rcases Nat.lt_or_ge y (N * N) with q | q
    · have hN0 : 0 < N := Nat.pos_of_ne_zero (fun z => by subst z; simp at q)
      have hN24 := hc.2.2.1
      have hd : y / N < N := Nat.div_lt_of_lt_mul q
      have hm : y % N < N := Nat.mod_lt _ hN0
      rw [ile_f q (by omega), dv_t hN0 (by omega), ej_nm_e, dv_t hN0 (by omega), ej_nm_e, pk_rem (by omega) hN0 (by omega), pk_div (by omega) hN0 (by omega)]
      simp only [ej_bi_s, ej_bl_s, ej_bv_s, ej_nm_e, L_1]
      rcases r_74 (n := n) (y := y) (m11_reaches_42 n F k) hc (show y / N < 24 by omega) (show y % N < 24 by omega) g n 1 (by omega) (by omega) (by omega) with ⟨r1, r2, ⟨j, j1, j2, j3⟩, e⟩ | ⟨hno, e⟩
      · have f22 : fr [] [] [22] [] [] σ (uA σ 22 (y % N) (nI 1)) := fr_uA fr_rf (by simp)
        obtain ⟨σ', g', e1, f1, p1, p2, p3, p4⟩ := ih (y + 1) (uA σ 22 (y % N) (nI 1)) true (CR_22 hc f22) q (by omega) hn
        have up : ∀ x, Rr N σ x → Rr N (uA σ 22 (y % N) (nI 1)) x := by
          rintro x ⟨x1, x2⟩
          refine ⟨x1, ?_⟩
          rw [s_AA_s]
          by_cases z : x = y % N
          · rw [z, pk_us]; exact n10
          · rw [pk_un z]; exact x2
        have hst : stp σ (y / N) (y % N) := ⟨j, j1, j2, j3⟩
        refine ⟨σ', g', by rw [e]; exact e1, fr_tr f22 f1, fun x z => p1 x (up x z), ?_, ?_, ?_⟩
        · intro S hS hR x hx
          refine p2 S ((clo_cg (fun a b _ _ => stp_22 f22 a b) S).mpr hS) (fun x z => ?_) x hx
          obtain ⟨z1, z2⟩ := z
          rw [s_AA_s] at z2
          by_cases w : x = y % N
          · rw [w]; exact hS (y / N) (y % N) (by omega) (by omega) (hR _ ⟨hd, r1⟩) hst
          · rw [pk_un w] at z2; exact hR x ⟨z1, z2⟩
        · intro z
          exact absurd (p3 z).1 (by decide)
        · intro z
          refine .inr ?_
          refine ctP_lt (i := y % N) (by omega) (fun x _ w => p1 x (up x w)) (fun w => w.2 r2) (p1 _ ⟨hm, by rw [s_AA_s, pk_us]; exact n10⟩)
      · obtain ⟨σ', g', e1, f1, p1, p2, p3, p4⟩ := ih (y + 1) σ g hc q (by omega) hn
        refine ⟨σ', g', by rw [e]; exact e1, f1, p1, p2, fun z => ?_, p4⟩
        obtain ⟨z1, z2, z3⟩ := p3 z
        refine ⟨z1, z2, fun y' y1 y2 y3 y4 => ?_⟩
        rcases Nat.eq_or_lt_of_le y1 with w | w
        · subst w
          refine ⟨hm, fun v => hno ⟨y3.2, v, ?_⟩⟩
          obtain ⟨j, j1, j2, j3⟩ := y4
          exact ⟨j, j1, j2, j3⟩
        · exact z3 y' w y2 y3 y4
    · rw [ile_t q (by omega)]
      exact ⟨σ, g, rfl, fr_rf, fun x z => z, fun S _ h => h, fun z => ⟨z, rfl, fun y' y1 y2 => by omega⟩, fun z => .inl z⟩
theorem r_34 (hn : 2000 < n) : ∀ (d k : Nat) (σ : ej_S), CR σ N → 24 - ctP (Rr N σ) ≤ d → d + 1 < k → ∃ σ', m11_reaches_34 n k (nI 1) σ = some σ' ∧ fr [] [] [22] [] [] σ σ' ∧ (∀ x, Rr N σ x → Rr N σ' x) ∧ (∀ S : Nat → Prop, clo σ S → (∀ x, Rr N σ x → S x) → ∀ x, Rr N σ' x → S x) ∧ (∀ a b, a < N → b < N → Rr N σ' a → stp σ a b → Rr N σ' b) := by
  intro d
  induction d with
  | zero =>
    intro k σ hc hd hk
    obtain ⟨k, rfl⟩ : ∃ k', k = k' + 1 := ⟨k - 1, by omega⟩
    rw [u_11_reaches_34, L_0, if_neg n10]
    obtain ⟨σ', g', e1, f1, p1, p2, p3, p4⟩ := r_42 (n := n) (N := N) (m11_reaches_34 n k) n 0 σ false hc (Nat.zero_le _) (by have := hc.2.2.1; have : N * N ≤ 576 := Nat.mul_le_mul this this; omega) hn
    have e1' : m11_reaches_42 n (m11_reaches_34 n k) n (nI 0) (nI 0) σ = m11_reaches_34 n k (bI g') σ' := e1
    rw [e1']
    cases g'
    · obtain ⟨_, z2, z3⟩ := p3 rfl
      subst z2
      obtain ⟨k, rfl⟩ : ∃ k', k = k' + 1 := ⟨k - 1, by omega⟩
      rw [u_11_reaches_34, bI_f, L_0, if_pos rfl]
      refine ⟨σ', rfl, fr_rf, fun x z => z, fun S _ h => h, fun a b ha hb h1 h2 => ?_⟩
      have hN0 : 0 < N := by omega
      have q1 : (a * N + b) / N = a := by rw [Nat.mul_comm, Nat.mul_add_div hN0, Nat.div_eq_of_lt hb]; omega
      have q2 : (a * N + b) % N = b := by rw [Nat.mul_comm, Nat.mul_add_mod, Nat.mod_eq_of_lt hb]
      have q3 : a * N + b < N * N := by
        have : a * N + N ≤ N * N := by rw [← Nat.succ_mul]; exact Nat.mul_le_mul_right N ha
        omega
      have := z3 (a * N + b) (Nat.zero_le _) q3
      rw [q1, q2] at this
      exact this h1 h2
    · rcases p4 rfl with z | z
      · cases z
      · have := ctP_le (Rr N σ'); omega
  | succ d ih =>
    intro k σ hc hd hk
    obtain ⟨k, rfl⟩ : ∃ k', k = k' + 1 := ⟨k - 1, by omega⟩
    rw [u_11_reaches_34, L_0, if_neg n10]
    obtain ⟨σ', g', e1, f1, p1, p2, p3, p4⟩ := r_42 (n := n) (N := N) (m11_reaches_34 n k) n 0 σ false hc (Nat.zero_le _) (by have := hc.2.2.1; have : N * N ≤ 576 := Nat.mul_le_mul this this; omega) hn
    have e1' : m11_reaches_42 n (m11_reaches_34 n k) n (nI 0) (nI 0) σ = m11_reaches_34 n k (bI g') σ' := e1
    rw [e1']
    cases g'
    · obtain ⟨_, z2, z3⟩ := p3 rfl
      subst z2
      obtain ⟨k, rfl⟩ : ∃ k', k = k' + 1 := ⟨k - 1, by omega⟩
      rw [u_11_reaches_34, bI_f, L_0, if_pos rfl]
      refine ⟨σ', rfl, fr_rf, fun x z => z, fun S _ h => h, fun a b ha hb h1 h2 => ?_⟩
      have hN0 : 0 < N := by omega
      have q1 : (a * N + b) / N = a := by rw [Nat.mul_comm, Nat.mul_add_div hN0, Nat.div_eq_of_lt hb]; omega
      have q2 : (a * N + b) % N = b := by rw [Nat.mul_comm, Nat.mul_add_mod, Nat.mod_eq_of_lt hb]
      have q3 : a * N + b < N * N := by
        have : a * N + N ≤ N * N := by rw [← Nat.succ_mul]; exact Nat.mul_le_mul_right N ha
        omega
      have := z3 (a * N + b) (Nat.zero_le _) q3
      rw [q1, q2] at this
      exact this h1 h2
    · rcases p4 rfl with z | z
      · cases z
      · obtain ⟨σ2, e2, f2, r1, r2, r3⟩ := ih k σ' (CR_22 hc f1) (by omega) (by omega)
        rw [bI_t]
        refine ⟨σ2, e2, fr_tr f1 f2, fun x w => r1 x (p1 x w), fun S hS hR => r2 S ((clo_cg (fun a b _ _ => stp_22 f1 a b) S).mpr hS) (p2 S hS hR), fun a b ha hb h1 h2 => r3 a b ha hb h1 ((stp_22 f1 a b).mpr h2)⟩
theorem r_reaches_2 {h : Nat} : ∀ (k j : Nat) (σ : ej_S), gI σ 15 = nI N → N ≤ 24 → h < 24 → j ≤ N → N - j < k → ∃ σ', m11_reaches_2 n k (nI h) (nI j) σ = m11_reaches_34 n n (nI 1) σ' ∧ fr [] [] [22] [] [] σ σ' ∧ (∀ x, j ≤ x → x < N → (gA σ' 22 x ≠ nI 0 ↔ x = h)) ∧ (∀ x, x < j → gA σ' 22 x = gA σ 22 x) := by
  intro k
  induction k with
  | zero => intro j σ _ _ _ _ h; omega
  | succ k ih =>
    intro j σ hc hN hh hj hk
    rw [u_11_reaches_2, hc]
    rcases Nat.lt_or_ge j N with q | q
    · rw [ile_f q (by omega)]
      have go : ∀ w : Bool, w = decide (j = h) → ∃ σ', m11_reaches_2 n k (nI h) (nI (j + 1)) (uA σ 22 j (bI w)) = m11_reaches_34 n n (nI 1) σ' ∧ fr [] [] [22] [] [] σ σ' ∧ (∀ x, j ≤ x → x < N → (gA σ' 22 x ≠ nI 0 ↔ x = h)) ∧ (∀ x, x < j → gA σ' 22 x = gA σ 22 x) := by
        intro w hw
        obtain ⟨σ', e1, f1, p1, p2⟩ := ih (j + 1) (uA σ 22 j (bI w)) hc hN hh q (by omega)
        refine ⟨σ', e1, fr_tr (fr_uA fr_rf (by simp)) f1, fun x x1 x2 => ?_, fun x x1 => ?_⟩
        · rcases Nat.eq_or_lt_of_le x1 with z | z
          · subst z
            rw [p2 j (by omega), s_AA_s, pk_us, bI_ne, hw, decide_eq_true_eq]
          · exact p1 x z x2
        · rw [p2 x (by omega), s_AA_s, pk_un (by omega)]
      by_cases e : j = h
      · have := go true (by simp [e])
        rw [bI_t] at this
        simp (disch := omega) only [ieq_t, if_true, ck_t, nI_clamp, ej_bi_s, ej_bl_s, ej_bv_s, ej_nm_e, L_1, bz_n1, nI_add]
        exact this
      · have := go false (by simp [e])
        rw [bI_f] at this
        rw [ieq_f e (by omega) (by omega)]
        simp (disch := omega) only [ck_t, nI_clamp, ej_bi_s, ej_bl_s, ej_bv_s, ej_nm_e, L_1, L_0, bz_n0, nI_add]
        exact this
    · rw [ile_t q (by omega), L_1]
      exact ⟨σ, rfl, fr_rf, fun x x1 x2 => by omega, fun x _ => rfl⟩
theorem r_reaches {h : Nat} (hn : 2000 < n) (hc : CR σ N) (hh : h < N) : ∃ σ', m11_reaches n (nI h) σ = some σ' ∧ fr [] [] [22] [] [] σ σ' ∧ ∀ x, x < N → (gA σ' 22 x ≠ nI 0 ↔ cl σ h x) := by
  have hN := hc.2.2.1
  obtain ⟨σ1, e1, f1, p1, _⟩ := r_reaches_2 (n := n) (N := N) (h := h) n 0 σ hc.2.1 hN (by omega) (Nat.zero_le _) (by omega)
  obtain ⟨σ2, e2, f2, q1, q2, q3⟩ := r_34 (n := n) (N := N) hn 24 n σ1 (CR_22 hc f1) (by omega) (by omega)
  refine ⟨σ2, ?_, fr_tr f1 f2, fun x hx => ⟨fun z => ?_, fun z => ?_⟩⟩
  · unfold m11_reaches
    rw [L_0, e1]; exact e2
  · refine q2 (cl σ h) ((clo_cg (fun a b _ _ => stp_22 f1 a b) _).mpr (cl_clo σ h)) (fun x w => ?_) x ⟨hx, z⟩
    have := (p1 x (Nat.zero_le _) w.1).mp w.2
    rw [this]; exact cl_h σ h
  · have := z (Rr N σ2) (q1 h ⟨hh, (p1 h (Nat.zero_le _) hh).mpr rfl⟩) (fun a b ha hb h1 h2 => ?_)
    · exact this.2
    · obtain ⟨k, k1, k2, k3⟩ := id h2
      obtain ⟨c, hcc⟩ := Option.ne_none_iff_exists'.mp k3
      have hl := scost_lim hc.1 hc.2.2.2 ha hb k1 k2 hcc
      rw [NN_eq hc.2.1 hN] at hl
      exact q3 a b hl.1 hl.2.1 h1 ((stp_22 f1 a b).mpr h2)
def gvc (σ : ej_S) (N y : Nat) : Prop := gA σ 22 (y / N) = nI 0 ∧ gA σ 22 (y % N) ≠ nI 0 ∧ gA σ 16 (24 * (y / N) + y % N) ≠ zm
theorem r_givesBack_4 : ∀ (k y : Nat) (σ : ej_S) (g : Bool), gI σ 15 = nI N → N ≤ 24 → y ≤ N * N → N * N - y < k → ∃ σ' g', m11_givesBack_4 n k (bI g) (nI y) σ = some (bI g', σ') ∧ fr [] [] [21] [] [] σ σ' ∧ (∀ y', y ≤ y' → y' < N * N → gvc σ N y' → gA σ' 21 (24 * (y' % N) + y' / N) = nI 1) ∧ (∀ i, ¬ (∃ y', y ≤ y' ∧ y' < N * N ∧ gvc σ N y' ∧ i = 24 * (y' % N) + y' / N) → gA σ' 21 i = gA σ 21 i) ∧ (g' = true ↔ g = true ∨ ∃ y', y ≤ y' ∧ y' < N * N ∧ gvc σ N y') := by
  intro k
  induction k with
  | zero => intro y σ g _ _ _ h; omega
  | succ k ih =>
    intro y σ g hc hN24 hy hk
    have hN : N * N ≤ 576 := Nat.mul_le_mul hN24 hN24
    rw [u_11_givesBack_4, hc, pk_mul]
    rcases Nat.lt_or_ge y (N * N) with q | q
    · have hN0 : 0 < N := Nat.pos_of_ne_zero (fun z => by subst z; simp at q)
      have hd : y / N < N := Nat.div_lt_of_lt_mul q
      have hm : y % N < N := Nat.mod_lt _ hN0
      have skip : ¬ gvc σ N y → ∃ σ' g', m11_givesBack_4 n k (bI g) (nI (y + 1)) σ = some (bI g', σ') ∧ fr [] [] [21] [] [] σ σ' ∧ (∀ y', y ≤ y' → y' < N * N → gvc σ N y' → gA σ' 21 (24 * (y' % N) + y' / N) = nI 1) ∧ (∀ i, ¬ (∃ y', y ≤ y' ∧ y' < N * N ∧ gvc σ N y' ∧ i = 24 * (y' % N) + y' / N) → gA σ' 21 i = gA σ 21 i) ∧ (g' = true ↔ g = true ∨ ∃ y', y ≤ y' ∧ y' < N * N ∧ gvc σ N y') := by
        intro hno
        obtain ⟨σ', g', e1, f1, p1, p2, p3⟩ := ih (y + 1) σ g hc hN24 q (by omega)
        have hlt : ∀ y', y ≤ y' → gvc σ N y' → y + 1 ≤ y' := by
          intro y' h1 h2
          rcases Nat.eq_or_lt_of_le h1 with z | z
          · subst z; exact absurd h2 hno
          · exact z
        refine ⟨σ', g', e1, f1, fun y' h1 h2 h3 => p1 y' (hlt y' h1 h3) h2 h3, fun i hi => p2 i (fun z => ?_), ?_⟩
        · obtain ⟨y', z1, z2⟩ := z; exact hi ⟨y', by omega, z2⟩
        · rw [p3]
          constructor
          · rintro (z | ⟨y', z1, z2⟩)
            · exact .inl z
            · exact .inr ⟨y', by omega, z2⟩
          · rintro (z | ⟨y', z1, z2, z3⟩)
            · exact .inl z
            · exact .inr ⟨y', hlt y' z1 z3, z2, z3⟩
      rw [ile_f q (by omega), dv_t hN0 (by omega), ej_nm_e, dv_t hN0 (by omega), ej_nm_e, pk_rem (by omega) hN0 (by omega), pk_div (by omega) hN0 (by omega)]
      simp (disch := omega) only [ej_bi_s, ej_bl_s, ej_bv_s, ej_nm_e, L_1, L_0, L_24, ck_t, nI_clamp, pk_mul, nI_add, ↓L_m1, bz_n1]
      by_cases r1 : gA σ 22 (y / N) = nI 0
      · rw [if_pos r1]
        by_cases r2 : gA σ 22 (y % N) = nI 0
        · rw [if_pos r2]; exact skip (fun z => z.2.1 r2)
        · rw [if_neg r2]
          by_cases r3 : gA σ 16 (24 * (y / N) + y % N) = zm
          · rw [if_pos r3]; exact skip (fun z => z.2.2 r3)
          · rw [if_neg r3]
            have f0 : fr [] [] [21] [] [] σ (uA σ 21 (24 * (y % N) + y / N) (nI 1)) := fr_uA fr_rf (by simp)
            obtain ⟨σ', g', e1, f1, p1, p2, p3⟩ := ih (y + 1) (uA σ 21 (24 * (y % N) + y / N) (nI 1)) true hc hN24 q (by omega)
            have hg : ∀ y', gvc (uA σ 21 (24 * (y % N) + y / N) (nI 1)) N y' ↔ gvc σ N y' := fun y' => Iff.rfl
            have hgy : gvc σ N y := ⟨r1, r2, r3⟩
            have hT : gA (uA σ 21 (24 * (y % N) + y / N) (nI 1)) 21 (24 * (y % N) + y / N) = nI 1 := by rw [s_AA_s, pk_us]
            refine ⟨σ', g', e1, fr_tr f0 f1, fun y' h1 h2 h3 => ?_, fun i hi => ?_, ?_⟩
            · rcases Nat.eq_or_lt_of_le h1 with z | z
              · subst z
                by_cases w : ∃ y', y + 1 ≤ y' ∧ y' < N * N ∧ gvc (uA σ 21 (24 * (y % N) + y / N) (nI 1)) N y' ∧ 24 * (y % N) + y / N = 24 * (y' % N) + y' / N
                · obtain ⟨y', w1, w2, w3, w4⟩ := w
                  rw [w4]; exact p1 y' w1 w2 w3
                · rw [p2 _ w]; exact hT
              · exact p1 y' z h2 h3
            · rw [p2 i (fun z => by obtain ⟨y', z1, z2, z3, z4⟩ := z; exact hi ⟨y', by omega, z2, z3, z4⟩), s_AA_s, pk_un (fun z => hi ⟨y, Nat.le_refl _, q, hgy, z⟩)]
            · rw [p3]
              exact ⟨fun _ => .inr ⟨y, Nat.le_refl _, q, hgy⟩, fun _ => .inl rfl⟩
      · rw [if_neg r1]; exact skip (fun z => r1 z.1)
    · rw [ile_t q (by omega), bz_b]
      exact ⟨σ, g, rfl, fr_rf, fun y' h1 h2 => by omega, fun _ _ => rfl, ⟨fun z => .inl z, fun z => by rcases z with z | ⟨y', z1, z2, _⟩; exact z; omega⟩⟩
end P76
