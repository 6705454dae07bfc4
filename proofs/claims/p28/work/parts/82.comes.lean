/-! THE REFERENCE: where the ways come from -/
theorem wk_last {E : Nat → Nat → Nat → Nat → Prop} {s d v : Nat} (h : wk E s d v) : (d = 0 ∧ v = s) ∨ ∃ d' u k w, wk E s d' u ∧ E u k v w ∧ d = d' + w := by
  have := h (fun d v => wk E s d v ∧ ((d = 0 ∧ v = s) ∨ ∃ d' u k w, wk E s d' u ∧ E u k v w ∧ d = d' + w)) ⟨wk_z, .inl ⟨rfl, rfl⟩⟩ (fun d u k v w q e => ⟨wk_st q.1 e, .inr ⟨d, u, k, w, q.1, e, rfl⟩⟩)
  exact this.2
theorem sol_prev {E : Nat → Nat → Nat → Nat → Prop} {s v : Nat} {D : Nat → Nat} (h : sol E s D) (hv : v < 96) (hf : D v < iF) (hs : v ≠ s) : ∃ u k w, E u k v w ∧ D u + w = D v := by
  rcases wk_last (h.2.2.1 v hv hf) with ⟨_, z⟩ | ⟨d', u, k, w, q, e, hd⟩
  · exact absurd z hs
  · have := sol_le h q
    have := h.2.2.2 u k v w e (by omega)
    exact ⟨u, k, w, e, by omega⟩
/-- a last step of a best way -/
def tgt (E : Nat → Nat → Nat → Nat → Prop) (D : Nat → Nat) (v u k : Nat) : Prop := ∃ w, E u k v w ∧ D u + w = D v
def Lst (E : Nat → Nat → Nat → Nat → Prop) (D : Nat → Nat) (v u k : Nat) (P K : Int32) : Prop := (∀ u' k', tgt E D v u' k' → (u < u' ∨ (u = u' ∧ k ≤ k')) → False) ∨ ∃ u0 k0, u0 < 96 ∧ k0 ≤ 5 ∧ tgt E D v u0 k0 ∧ P = nI u0 ∧ K = nI k0 ∧ ∀ u' k', tgt E D v u' k' → (u < u' ∨ (u = u' ∧ k ≤ k')) → u0 < u' ∨ (u0 = u' ∧ k0 ≤ k')
def dn : Nat → Int32
  | 0 => zm
  | q + 1 => nI q
theorem dn_s {q : Nat} (h : q < 2 ^ 31) : nI q + zm = dn q := by
  cases q with
  | zero => decide +kernel
  | succ q => rw [nI_m1 (by omega)]; rfl
theorem BF_fr {N s : Nat} {σ σ' : ej_S} {D : Nat → Nat} (h : BF N s σ D) (f : fr [] [] [25, 26] [] [] σ σ') : BF N s σ' D ∧ Ed σ' = Ed σ := by
  obtain ⟨hc, hkc, ho, hi, hs, hw⟩ := h
  have m := map_eq (σ := σ) (s := σ') (fun j h1 h2 => f.2.2.1 j (by simp; omega)) (f.2.2.2.1 1 (by simp))
  refine ⟨⟨⟨wfR_fr hc.1 f (by simp) (by simp) (by simp) (by simp) (by simp) (by simp) (by simp) (by simp), by rw [f.1 15 (by simp)]; exact hc.2.1, hc.2.2.1, ?_⟩, by rw [f.2.2.1 23 (by simp), f.2.2.1 24 (by simp)]; exact hkc, ho, hi, hs, by rw [m.2.2.2.2]; exact hw⟩, m.2.2.2.2⟩
  unfold bkOK
  rw [f.2.2.1 21 (by simp), f.2.2.1 16 (by simp)]; exact hc.2.2.2
section P82
variable {n N s : Nat} {D : Nat → Nat}
theorem r_comes {σ : ej_S} {u v k : Nat} (hb : BF N s σ D) (hu : u < 96) (hv : v < 96) (hk : 1 ≤ k) (hk5 : k ≤ 5) (hf : D v < iF) : ∃ g, m11_comes n (nI u) (nI v) (nI k) σ = some (bI g, σ) ∧ (g = true ↔ tgt (Ed σ) D v u k) := by
  obtain ⟨hc, hkc, ho, hi, hs, hw⟩ := hb
  obtain ⟨w1, w2⟩ := CR_w hc
  have hu4 : u / 4 < 24 := by omega
  have hv4 : v / 4 < 24 := by omega
  have no : ∀ X : Option (Int32 × ej_S), X = some (nI 0, σ) → ¬ tgt (Ed σ) D v u k → ∃ g, X = some (bI g, σ) ∧ (g = true ↔ tgt (Ed σ) D v u k) := fun X hX hno => ⟨false, hX, ⟨fun z => (by cases z), fun z => absurd z hno⟩⟩
  unfold m11_comes m11_comes_69
  rw [L_4, pk_rem (by omega) (by omega) (by omega), pk_rem (by omega) (by omega) (by omega), pk_div (by omega) (by omega) (by omega), pk_div (by omega) (by omega) (by omega), ej_nm_e, ej_nm_e, ej_nm_e, ck_t hu (by omega), nI_clamp (by omega), L_m1, L_0]
  rcases hkc u hu with ⟨a1, a2⟩ | ⟨a1, a2, a3⟩
  · rw [if_pos a2]
    exact no _ rfl (fun ⟨w, _, z⟩ => by omega)
  · have bu := OKD_bd ho hu a1
    rw [if_neg (by rw [a2]; exact zm_ne (by omega))]
    by_cases q : u / 4 = v / 4
    · rw [ieq_t q]
      exact no _ rfl (fun ⟨w, e, _⟩ => (Ed_lim hc e).2.2.1 q)
    · rw [ieq_f q (by omega) (by omega), r_stepCost w1 w2 hc.2.2.2 hu4 hv4 hk hk5, ej_bi_s]
      cases hsc : scost σ (u / 4) (v / 4) k with
      | none =>
        rw [show oI none = zm from rfl, if_pos rfl]
        exact no _ rfl (fun ⟨w, e, _⟩ => by
          obtain ⟨_, _, _, _, c, h5, _⟩ := e
          rw [hsc] at h5; cases h5)
      | some c =>
        have bc := scost_bd w1 w2 hu4 hv4 hsc
        have ba := addN_le (σ := σ) (a := u / 4) (s := u % 4) (b := v / 4) (k := k)
        have bs := sbN_lt (σ := σ) (a := u / 4) (s := u % 4) (b := v / 4) (k := k) (by omega)
        rw [show oI (some c) = nI c from rfl, if_neg (zm_ne (by omega)), r_stateBehind hu4 hv4 hk hk5 (by omega), ej_bi_s]
        by_cases q2 : sbN σ (u / 4) (u % 4) (v / 4) k = v % 4
        · rw [ieq_t q2, L_1, if_neg n10, ck_t hu (by omega), r_costIn w1 w2 hc.2.2.2 hu4 hv4 hk hk5 (by omega) hsc, ej_bi_s]
          rcases hkc v hv with ⟨b1, b2⟩ | ⟨b1, b2, b3⟩
          · omega
          · have bv := OKD_bd ho hv b1
            rw [ck_t hv (by omega), ck_t hu (by omega), ck_t hv (by omega), nI_clamp (by omega), a2, a3, b2, b3, nI_add, nI_add]
            have e0 : Ed σ u k v (1024 * (c + addN σ (u / 4) (u % 4) (v / 4) k) + 1) := ⟨hu, hv, hk, hk5, c, hsc, q2.symm, rfl⟩
            have only : tgt (Ed σ) D v u k → D u + (1024 * (c + addN σ (u / 4) (u % 4) (v / 4) k) + 1) = D v := by
              rintro ⟨w, e, z⟩
              obtain ⟨_, _, _, _, c', h5, h6, h7⟩ := e
              rw [hsc] at h5
              have := Option.some.inj h5
              subst this
              rw [h7] at z; exact z
            by_cases q3 : D u / 1024 + (c + addN σ (u / 4) (u % 4) (v / 4) k) = D v / 1024
            · rw [ieq_t q3]
              by_cases q4 : D u % 1024 + 1 = D v % 1024
              · rw [ieq_t q4]
                exact ⟨true, rfl, ⟨fun _ => ⟨_, e0, by omega⟩, fun _ => rfl⟩⟩
              · rw [ieq_f q4 (by omega) (by omega)]
                exact no _ rfl (fun z => by have := only z; omega)
            · rw [ieq_f q3 (by omega) (by omega)]
              exact no _ rfl (fun z => by have := only z; omega)
        · rw [ieq_f q2 (by omega) (by omega), if_pos rfl]
          exact no _ rfl (fun ⟨w, e, _⟩ => by
            obtain ⟨_, _, _, _, c', h5, h6, h7⟩ := e
            exact q2 h6.symm)
theorem r_262 (f : Int32 → Int32 → ej_S → Option ej_S) {u v : Nat} (hu : u < 96) (hv : v < 96) (hf : D v < iF) : ∀ (k kind : Nat) (σ : ej_S), BF N s σ D → kind ≤ 5 → kind < k → Lst (Ed σ) D v u (kind + 1) (gA σ 25 v) (gA σ 26 v) → ∃ σ', m11_solves_262 n f k (nI v) (nI u) (nI kind) σ = f (nI v) (dn u) σ' ∧ fr [] [] [25, 26] [] [] σ σ' ∧ (∀ x, x ≠ v → gA σ' 25 x = gA σ 25 x ∧ gA σ' 26 x = gA σ 26 x) ∧ Lst (Ed σ) D v u 1 (gA σ' 25 v) (gA σ' 26 v) := by
  intro k
  induction k with
  | zero => intro kind σ _ _ h; omega
  | succ k ih =>
    intro kind σ hb h1 hk hL
    rw [u_11_solves_262, L_m1, L_1]
    rcases Nat.lt_or_ge kind 1 with q | q
    · have e : kind = 0 := by omega
      subst e
      rw [ilt_t (by omega) (by omega), dn_s (by omega), ej_nm_e]
      exact ⟨σ, rfl, fr_rf, fun x _ => ⟨rfl, rfl⟩, hL⟩
    · rw [ilt_f q (by omega)]
      obtain ⟨g, e1, e2⟩ := r_comes (n := n) hb hu hv q h1 hf
      rw [e1, ej_bi_s, L_0]
      obtain ⟨j, rfl⟩ : ∃ j, kind = j + 1 := ⟨kind - 1, by omega⟩
      have hm1 : nI (j + 1) + -1 = nI j := by rw [L_m1, nI_m1 (by omega)]; rfl
      cases g
      · rw [bI_f, if_pos rfl, ck_t hv (by omega)]
        unfold m11_solves_300
        rw [ck_t hv (by omega), nI_clamp (by omega), uA_same rfl, ej_nm_e, L_0, if_pos rfl, ck_t hv (by omega), ck_t hv (by omega), uA_same rfl, ej_nm_e, hm1, ej_nm_e]
        refine ih j σ hb (by omega) (by omega) ?_
        have hno : ¬ tgt (Ed σ) D v u (j + 1) := fun z => by have := e2.mpr z; cases this
        have up : ∀ u' k', tgt (Ed σ) D v u' k' → (u < u' ∨ (u = u' ∧ j + 1 ≤ k')) → (u < u' ∨ (u = u' ∧ j + 1 + 1 ≤ k')) := by
          intro u' k' t z
          rcases z with z | ⟨z1, z2⟩
          · exact .inl z
          · refine .inr ⟨z1, ?_⟩
            rcases Nat.eq_or_lt_of_le z2 with w | w
            · subst w; subst z1; exact absurd t hno
            · exact w
        rcases hL with z | ⟨u0, k0, z1, z2, z3, z4, z5, z6⟩
        · exact .inl (fun u' k' t w => z u' k' t (up u' k' t w))
        · exact .inr ⟨u0, k0, z1, z2, z3, z4, z5, fun u' k' t w => z6 u' k' t (up u' k' t w)⟩
      · have ht := e2.mp rfl
        rw [bI_t, if_neg n10]
        unfold m11_solves_300
        rw [ck_t hv (by omega), nI_clamp (by omega), ej_nm_e, L_0, if_neg n10, ck_t hv (by omega), ej_nm_e, hm1, ej_nm_e]
        have f1 : fr [] [] [25, 26] [] [] σ (uA (uA σ 25 v (nI u)) 26 v (nI (j + 1))) := fr_uA (fr_uA fr_rf (by simp)) (by simp)
        obtain ⟨b1, eE⟩ := BF_fr hb f1
        have r25 : gA (uA (uA σ 25 v (nI u)) 26 v (nI (j + 1))) 25 = upd (gA σ 25) v (nI u) := by rw [s_AA_n (by omega), s_AA_s]
        have r26 : gA (uA (uA σ 25 v (nI u)) 26 v (nI (j + 1))) 26 = upd (gA σ 26) v (nI (j + 1)) := by rw [s_AA_s, s_AA_n (by omega)]
        have hL1 : Lst (Ed (uA (uA σ 25 v (nI u)) 26 v (nI (j + 1)))) D v u (j + 1) (gA (uA (uA σ 25 v (nI u)) 26 v (nI (j + 1))) 25 v) (gA (uA (uA σ 25 v (nI u)) 26 v (nI (j + 1))) 26 v) := by
          rw [eE, r25, r26, pk_us, pk_us]
          refine .inr ⟨u, j + 1, hu, h1, ht, rfl, rfl, fun u' k' _ z => z⟩
        obtain ⟨σ', p1, p2, p3, p4⟩ := ih j _ b1 (by omega) (by omega) hL1
        refine ⟨σ', p1, fr_tr f1 p2, fun x hx => ?_, by rw [← eE]; exact p4⟩
        rw [(p3 x hx).1, (p3 x hx).2, r25, r26, pk_un hx, pk_un hx]
        exact ⟨rfl, rfl⟩
theorem Lst_dn {E : Nat → Nat → Nat → Nat → Prop} {v u : Nat} {P K : Int32} (h5 : ∀ u k v w, E u k v w → 1 ≤ k ∧ k ≤ 5) (h : Lst E D v (u + 1) 1 P K) : Lst E D v u 6 P K := by
  have up : ∀ u' k', tgt E D v u' k' → (u < u' ∨ (u = u' ∧ 6 ≤ k')) → (u + 1 < u' ∨ (u + 1 = u' ∧ 1 ≤ k')) := by
    intro u' k' ⟨w, e, _⟩ z
    have := h5 _ _ _ _ e
    omega
  rcases h with z | ⟨u0, k0, z1, z2, z3, z4, z5, z6⟩
  · exact .inl (fun u' k' t w => z u' k' t (up u' k' t w))
  · exact .inr ⟨u0, k0, z1, z2, z3, z4, z5, fun u' k' t w => z6 u' k' t (up u' k' t w)⟩
theorem Ed_k {σ : ej_S} : ∀ u k v w, Ed σ u k v w → 1 ≤ k ∧ k ≤ 5 := fun _ _ _ _ e => ⟨e.2.2.1, e.2.2.2.1⟩
theorem r_235 (f : Int32 → ej_S → Option ej_S) {v : Nat} (hn : 3000 < n) (hv : v < 96) (hf : D v < iF) (hm : 0 < D v % 1024) : ∀ (k q : Nat) (σ : ej_S), BF N s σ D → q ≤ 96 → q < k → Lst (Ed σ) D v q 1 (gA σ 25 v) (gA σ 26 v) → ∃ σ', m11_solves_235 n f k (nI v) (dn q) σ = f (nI (v + 1)) σ' ∧ fr [] [] [25, 26] [] [] σ σ' ∧ (∀ x, x ≠ v → gA σ' 25 x = gA σ 25 x ∧ gA σ' 26 x = gA σ 26 x) ∧ Lst (Ed σ) D v 0 1 (gA σ' 25 v) (gA σ' 26 v) := by
  intro k
  induction k with
  | zero => intro q σ _ _ h; omega
  | succ k ih =>
    intro q σ hb hq hk hL
    rw [u_11_solves_235]
    cases q with
    | zero =>
      rw [show dn 0 = zm from rfl, L_0, if_pos (zm_lt (by omega)), L_1, nI_add, ej_nm_e]
      exact ⟨σ, rfl, fr_rf, fun x _ => ⟨rfl, rfl⟩, hL⟩
    | succ q =>
      rw [show dn (q + 1) = nI q from rfl, L_0, ilt_f (Nat.zero_le _) (by omega), ck_t hv (by omega), ck_t hv (by omega), nI_clamp (by omega)]
      rcases hb.2.1 v hv with ⟨b1, b2⟩ | ⟨b1, b2, b3⟩
      · omega
      · have bv := OKD_bd hb.2.2.1 hv b1
        rw [b2, b3, L_m1, ieq_m (by omega), ile_f hm (by omega), L_5]
        obtain ⟨σ1, e1, f1, p1, p2⟩ := r_262 (n := n) (m11_solves_235 n f k) (show q < 96 by omega) hv hf n 5 σ hb (by omega) (by omega) (Lst_dn Ed_k hL)
        rw [e1]
        obtain ⟨b1', eE⟩ := BF_fr hb f1
        obtain ⟨σ', r1, r2, r3, r4⟩ := ih q σ1 b1' (by omega) (by omega) (by rw [eE]; exact p2)
        refine ⟨σ', r1, fr_tr f1 r2, fun x hx => ?_, by rw [← eE]; exact r4⟩
        rw [(r3 x hx).1, (r3 x hx).2]; exact p1 x hx
theorem r_235s (f : Int32 → ej_S → Option ej_S) {v k q : Nat} {σ : ej_S} (hv : v < 96) (hb : BF N s σ D) (hs : D v = iF ∨ D v % 1024 = 0) (hq : q < 2 ^ 31) : m11_solves_235 n f (k + 1) (nI v) (dn q) σ = f (nI (v + 1)) σ := by
  rw [u_11_solves_235]
  cases q with
  | zero => rw [show dn 0 = zm from rfl, L_0, if_pos (zm_lt (by omega)), L_1, nI_add, ej_nm_e]
  | succ q =>
    rw [show dn (q + 1) = nI q from rfl, L_0, ilt_f (Nat.zero_le _) (by omega), ck_t hv (by omega), ck_t hv (by omega), nI_clamp (by omega), L_m1, L_1, nI_add, ej_nm_e]
    rcases hb.2.1 v hv with ⟨b1, b2⟩ | ⟨b1, b2, b3⟩
    · rw [if_pos b2]
    · have bv := OKD_bd hb.2.2.1 hv b1
      rw [b2, b3, ieq_m (by omega), ile_t (by rcases hs with z | z <;> omega) (by omega)]
theorem r_215 (hn : 3000 < n) (hN : N ≤ 24) (hN0 : 0 < N) {E : Nat → Nat → Nat → Nat → Prop} (hso : sol E s D) : ∀ (k t : Nat) (σ : ej_S), BF N s σ D → Ed σ = E → t ≤ 4 * N → 4 * N - t < k → (∀ x, t ≤ x → x < 96 → gA σ 25 x = zm ∧ gA σ 26 x = nI 0) → ∃ σ', m11_solves_215 n k (nI t) σ = some σ' ∧ fr [] [] [25, 26] [] [] σ σ' ∧ (∀ x, x < t → gA σ' 25 x = gA σ 25 x ∧ gA σ' 26 x = gA σ 26 x) ∧ (∀ x, t ≤ x → x < 96 → x ≠ s → D x < iF → ∃ u k, u < 96 ∧ k ≤ 5 ∧ lst (Ed σ) D x u k ∧ gA σ' 25 x = nI u ∧ gA σ' 26 x = nI k) ∧ (t ≤ s → s < 96 → gA σ' 25 s = zm ∧ gA σ' 26 s = nI 0) := by
  intro k
  induction k with
  | zero => intro t σ _ _ _ h; omega
  | succ k ih =>
    intro t σ hb hE ht hk hini
    have hso1 : sol (Ed σ) s D := by rw [hE]; exact hso
    rw [u_11_solves_215, hb.1.2.1, L_4, pk_mul]
    rcases Nat.lt_or_ge t (4 * N) with q | q
    · rw [ile_f q (by omega), L_1, nI_m2 (by omega), ej_nm_e]
      have edn : nI (4 * N - 1) = dn (4 * N) := by
        obtain ⟨j, hj⟩ : ∃ j, 4 * N = j + 1 := ⟨4 * N - 1, by omega⟩
        rw [hj]; rfl
      rw [edn]
      by_cases hg : t ≠ s ∧ D t < iF
      · obtain ⟨u0, k0, w0, e0, h0⟩ := sol_prev hso1 (show t < 96 by omega) hg.2 hg.1
        have hm : 0 < D t % 1024 := by
          obtain ⟨_, _, _, c, _, hw⟩ := Ed_lim hb.1 e0
          have := OKD_bd hb.2.2.1 e0.1 (by omega)
          omega
        have hL : Lst (Ed σ) D t (4 * N) 1 (gA σ 25 t) (gA σ 26 t) := by
          refine .inl (fun u' k' ⟨w, e, _⟩ z => ?_)
          have := (Ed_lim hb.1 e).1
          omega
        obtain ⟨σ1, e1, f1, p1, p2⟩ := r_235 (n := n) (m11_solves_215 n k) hn (show t < 96 by omega) hg.2 hm n (4 * N) σ hb (by omega) (by omega) hL
        rw [e1]
        obtain ⟨b1, eE⟩ := BF_fr hb f1
        obtain ⟨σ', r1, r2, r3, r4, r5⟩ := ih (t + 1) σ1 b1 (eE.trans hE) q (by omega) (fun x h1 h2 => by rw [(p1 x (by omega)).1, (p1 x (by omega)).2]; exact hini x (by omega) h2)
        refine ⟨σ', r1, fr_tr f1 r2, fun x hx => ?_, fun x h1 h2 h3 h4 => ?_, fun h1 h2 => r5 (by omega) h2⟩
        · rw [(r3 x (by omega)).1, (r3 x (by omega)).2]; exact p1 x (by omega)
        · rcases Nat.eq_or_lt_of_le h1 with z | z
          · subst z
            rw [(r3 t (by omega)).1, (r3 t (by omega)).2]
            rcases p2 with z | ⟨u, k, z1, z2, z3, z4, z5, z6⟩
            · exact absurd (z u0 k0 ⟨w0, e0, h0⟩ (by have := e0.2.2.1; omega)) id
            · refine ⟨u, k, z1, z2, ⟨z3, fun u' k' w' e hd => z6 u' k' ⟨w', e, hd⟩ ?_⟩, z4, z5⟩
              have := e.2.2.1; omega
          · rw [← eE]; exact r4 x z h2 h3 h4
      · obtain ⟨m, hm⟩ : ∃ m, n = m + 1 := ⟨n - 1, by omega⟩
        have e1 : m11_solves_235 n (m11_solves_215 n k) n (nI t) (dn (4 * N)) σ = m11_solves_215 n k (nI (t + 1)) σ := by
          have := r_235s (n := n) (k := m) (m11_solves_215 n k) (show t < 96 by omega) hb (q := 4 * N) (by
            by_cases z : t = s
            · subst z; right; rw [hb.2.2.2.2.1]
            · left; have := hb.2.2.2.1 t; omega) (by omega)
          rw [← hm] at this; exact this
        rw [e1]
        obtain ⟨σ', r1, r2, r3, r4, r5⟩ := ih (t + 1) σ hb hE q (by omega) (fun x h1 h2 => hini x (by omega) h2)
        refine ⟨σ', r1, r2, fun x hx => r3 x (by omega), fun x h1 h2 h3 h4 => ?_, fun h1 h2 => ?_⟩
        · rcases Nat.eq_or_lt_of_le h1 with z | z
          · subst z; exact absurd ⟨h3, h4⟩ hg
          · exact r4 x z h2 h3 h4
        · rcases Nat.eq_or_lt_of_le h1 with z | z
          · subst z
            rw [(r3 t (by omega)).1, (r3 t (by omega)).2]; exact hini t (Nat.le_refl _) h2
          · exact r5 z h2
    · rw [ile_t q (by omega)]
      refine ⟨σ, rfl, fr_rf, fun x _ => ⟨rfl, rfl⟩, fun x h1 h2 h3 h4 => ?_, fun h1 h2 => hini s h1 h2⟩
      obtain ⟨u0, k0, w0, e0, h0⟩ := sol_prev hso1 h2 h4 h3
      have := (Ed_lim hb.1 e0).2.1
      omega
end P82
