/-! WHAT IS PUT ON THE OUT, by both -/
theorem SOL_fr {I J A B M : List Nat} {σ s : ej_S} (h : SOL σ) (f : fr I J A B M σ s) (i15 : 15 ∉ I) (j1 : 1 ∉ J) (a11 : 11 ∉ A) (a12 : 12 ∉ A) (a13 : 13 ∉ A) (a14 : 14 ∉ A) (a15 : 15 ∉ A) (a16 : 16 ∉ A) (a17 : 17 ∉ A) (a18 : 18 ∉ A) (a19 : 19 ∉ A) (a20 : 20 ∉ A) (a21 : 21 ∉ A) (a23 : 23 ∉ A) (a24 : 24 ∉ A) (a25 : 25 ∉ A) (a26 : 26 ∉ A) (b1 : 1 ∉ B) : SOL s := by
  have hh := home_fr f i15 j1 a11 b1
  have hm := mq_fr f a14 a15 a16 a18 a19 a20 b1
  have me := map_eq (σ := σ) (s := s) (fun j h1 h2 => by
    have : j = 12 ∨ j = 13 ∨ j = 14 ∨ j = 15 ∨ j = 16 ∨ j = 17 ∨ j = 18 ∨ j = 19 ∨ j = 20 ∨ j = 21 := by omega
    rcases this with z | z | z | z | z | z | z | z | z | z <;> (subst z; exact f.2.2.1 _ (by assumption))) (f.2.2.2.1 1 b1)
  unfold SOL
  rw [f.2.2.1 21 a21, f.2.2.1 23 a23, f.2.2.1 24 a24, f.2.2.1 25 a25, f.2.2.1 26 a26, me.2.2.2.2]
  rcases h with ⟨h1, h2, h3⟩ | ⟨h', T, D, h1, h2, h3, h4⟩
  · exact .inl ⟨hh.1.mpr h1, h2, h3⟩
  · exact .inr ⟨h', T, D, (hh.2 h').mpr h1, (nn_mq hm).mpr h2, fun a b ha hb => by rw [Xs_mq hm]; exact h3 a b ha hb, h4⟩
theorem relC_frr {I J A B M : List Nat} {σc σr s : ej_S} (h : relC σc σr) (q : fr I J A B M σr s) (j1 : 15 ∉ I) (c1 : 11 ∉ A) (c2 : 12 ∉ A) (c3 : 13 ∉ A) (c4 : 14 ∉ A) (c5 : 15 ∉ A) (c6 : 16 ∉ A) (c7 : 17 ∉ A) (c8 : 18 ∉ A) (c9 : 19 ∉ A) (c10 : 20 ∉ A) (d1 : 1 ∉ B) : relC σc s := by
  unfold relC NN at *
  rw [q.1 15 j1, q.2.2.1 11 c1, q.2.2.1 12 c2, q.2.2.1 13 c3, q.2.2.1 14 c4, q.2.2.1 15 c5, q.2.2.1 16 c6, q.2.2.1 17 c7, q.2.2.1 18 c8, q.2.2.1 19 c9, q.2.2.1 20 c10, q.2.2.2.1 1 d1]
  exact h
/-- the reference puts something on its out, or takes the tape -/
theorem WR_frr {σc σr s : ej_S} (h : WR σc σr) (f : fr [0, 17, 18, 19] [] [0, 1, 27, 28] [] [] σr s) : WR σc s := by
  obtain ⟨h1, h2, h3, h4⟩ := h
  refine ⟨wfR_fr h1 f (by simp) (by simp) (by simp) (by simp) (by simp) (by simp) (by simp) (by simp), relC_frr h2 f (by simp) (by simp) (by simp) (by simp) (by simp) (by simp) (by simp) (by simp) (by simp) (by simp) (by simp) (by simp), SOL_fr h3 f (by simp) (by simp) (by simp) (by simp) (by simp) (by simp) (by simp) (by simp) (by simp) (by simp) (by simp) (by simp) (by simp) (by simp) (by simp) (by simp) (by simp) (by simp), ?_⟩
  unfold wayRel at *
  rw [f.2.2.1 21 (by simp), f.2.2.1 23 (by simp), f.2.2.1 24 (by simp), f.2.2.1 25 (by simp), f.2.2.1 26 (by simp)]
  exact h4
theorem WR_frc {σc σr s : ej_S} (h : WR σc σr) (f : fr [0, 1] [] [0, 1, 31] [] [] σc s) : WR s σr := by
  obtain ⟨h1, h2, h3, h4⟩ := h
  refine ⟨h1, relC_fr h2 f (by simp) (by simp) (by simp) (by simp) (by simp) (by simp) (by simp) (by simp) (by simp) (by simp) (by simp) (by simp) (by simp) (by simp) (by simp) (by simp), h3, ?_⟩
  unfold wayRel at *
  rw [f.2.2.1 24 (by simp), f.2.2.1 25 (by simp), f.2.2.1 26 (by simp), f.2.2.1 27 (by simp), f.2.2.1 28 (by simp)]
  exact h4
theorem hNm_of {σ : ej_S} (h : wfR σ) : hNm σ := by
  obtain ⟨N, h0, h1, h2, w1, _⟩ := h
  have hN := NN_eq h1 h0
  unfold hNm
  rw [hN]
  exact ⟨h0, fun a ha => w1 a ha⟩
theorem RX_0 {σ : ej_S} : RX (uI σ 18 (nI 0)) [] := ⟨s_II_s, Nat.zero_le _, fun i hi => absurd hi (Nat.not_lt_zero i), fun b hb => by cases hb⟩
theorem xw_s (n len : Nat) (σ : ej_S) (x : Int32) (b e : Nat) : xw n len σ (some (x, b, e)) = ej_bv (m2_writeAlong n 0 x (nI b) (nI e) σ) fun s => some s := rfl
theorem xr_s (n len : Nat) (σ : ej_S) (x : Int32) (b e : Nat) : xr n len σ (some (x, b, e)) = ej_bv (m11_lays n x (uI σ 18 (nI 0))) fun s10 => ej_bv (m11_putsLeft n s10) fun s11 => ej_bi (m11_nameLength n x s11) fun r13 s12 => (if nI e - nI b ≤ r13 then (m11_rewrite_164 n (nI len) (nI e) s12) else ej_bv (m11_putsTape n (nI b) (nI e) s12) fun s19 => ej_bv (m11_putsCode n 33 s19) fun s20 => (m11_rewrite_164 n (nI len) (nI e) s20)) := rfl
section P93e
variable {n a : Nat} {σc σr : ej_S} {tp : List Nat}
theorem RC_len {rt kd : Nat → Nat} {L : Nat} (hw : wfR σr) (h : RCc σc σr rt kd L) : (lft σr rt kd L).length + (rgt σr rt kd L).length ≤ 216 := by
  have hN := hNm_of hw
  have := (lr_len (σ := σr) (rt := rt) (kd := kd) L (fun j hj => hN.2 _ (h.2.1 j hj).2.1)).1
  have := h.1
  omega
/-- printing -/
theorem s_print (hn : 2000 < n) (h : WR σc σr) (ha : a < NN σr) : ∃ l σc' σr', m2_writeRouteOf n (nI a) σc = some σc' ∧ TX σc' 1 l ∧ fr [1] [] [1, 31] [] [] σc σc' ∧ (ej_bi (m11_wayOf n (nI a) (uI σr 18 (nI 0))) fun r5 s4 => (if r5 = zm then (some (gI s4 18, s4)) else ej_bv (m11_lays n (nI a) s4) fun s6 => ej_bv (m11_putsLeft n s6) fun s7 => ej_bv (m11_putsCode n (nI 37) s7) fun s8 => ej_bv (m11_putsRight n s8) fun s9 => (some (gI s9 18, s9)))) = some (nI l.length, σr') ∧ RX σr' l ∧ fr [17, 18] [] [27, 28] [] [] σr σr' := by
  obtain ⟨σc1, e1, t1, f1⟩ := x_clear (n := n) (t := 1) (σ := σc)
  have g1 : fr [18] [] [] [] [] σr (uI σr 18 (nI 0)) := fr_uI fr_rf (by simp)
  have h1 : WR σc1 (uI σr 18 (nI 0)) := WR_frr (WR_frc h (fr_wk f1 (by simp) (by simp) (by simp) (by simp) (by simp))) (fr_wk g1 (by simp) (by simp) (by simp) (by simp) (by simp))
  have ha1 : a < NN (uI σr 18 (nI 0)) := by unfold NN at *; rw [g1.1 15 (by simp)]; exact ha
  obtain ⟨r, r1, r2, r3⟩ := s_route (n := n) hn h1 ha1
  unfold m2_writeRouteOf
  rw [e1, ej_bv_s, r2, ej_bi_s, L_m1]
  rcases r3 with ⟨z1, z2⟩ | ⟨q, L, c, rt, kd, q1, q2, q3, q4, q5, q6, q7, q8, q9, q10, q11, ⟨σc2, y1, y2, y3⟩, σr2, w1, w2, w3⟩
  · rw [z2, ej_bi_s, if_pos rfl, z1, if_pos rfl, s_II_s]
    exact ⟨[], σc1, _, rfl, t1, fr_wk f1 (by simp) (by simp) (by simp) (by simp) (by simp), rfl, RX_0, fr_wk g1 (by simp) (by simp) (by simp) (by simp) (by simp)⟩
  · have hw1 := h1.1
    have len := RC_len hw1 y3
    have hG1 := WR_G h1
    have hG2 : relG σc2 (uI σr 18 (nI 0)) := relG_fr hG1 y2 (by simp) (by simp) (by simp) (by simp) (by simp) (by simp) (by simp) (by simp) (by simp) (by simp) (by simp) (by simp) (by simp) (by simp) (by simp) (by simp) (by simp)
    have e0 : ∀ x : List Nat, ([] : List Nat) ++ x = x := fun x => List.nil_append x
    obtain ⟨σc3, a1, a2, a3⟩ := x_writeLeft (n := n) hn hG2 y3 (TX_fr t1 y2 (by simp) (by simp)) (by show 0 + _ ≤ 1200; omega)
    rw [e0] at a2
    have hG3 := relG_1 hG2 a3
    obtain ⟨σc4, b1, b2, b3⟩ := x_append (n := n) (b := 37) (v := nI 37) a2 (by show _ < 1200; omega) (by omega) (and255 (by omega))
    have a34 := fr_tr a3 b3
    obtain ⟨σc5, c1, c2, c3⟩ := x_writeRight (n := n) hn (relG_1 hG2 a34) (RCc_fr y3 a34 (by simp) (by simp)) b2 (by rw [List.length_append]; show _ + 1 + _ ≤ 1200; omega)
    rw [y1, ej_bi_s, ieq_m (by omega), a1, ej_bv_s, L_37, b1, ej_bv_s, c1, ej_bv_s, q1, ieq_m (by omega), w1, ej_bv_s]
    -- the reference
    have hN2 : hNm σr2 := hNm_fr (hNm_of hw1) w2 (by simp) (by simp)
    have l2 := lr_fr (rt := rt) (kd := kd) w2 (by simp) (by simp) (by simp) (by simp)
    obtain ⟨σr3, d1, d2, d3⟩ := r_putsLeft (n := n) hn w3 hN2 (RX_fr RX_0 w2 (by simp) (by simp)) (by rw [l2.1]; show 0 + _ ≤ 4000; omega)
    rw [e0, l2.1] at d2
    obtain ⟨σr4, e2, e3, e4⟩ := r_putsCode (n := n) (c := 37) d2 (by omega) (by omega)
    have d34 := fr_tr d3 e4
    have l4 := lr_fr (rt := rt) (kd := kd) d34 (by simp) (by simp) (by simp) (by simp)
    obtain ⟨σr5, k1, k2, k3⟩ := r_putsRight (n := n) hn (RCr_fr w3 d34 (by simp) (by simp) (by simp) (by simp)) (hNm_fr hN2 d34 (by simp) (by simp)) e3 (by rw [l4.2, l2.2, List.length_append]; show _ + 1 + _ ≤ 4000; omega)
    rw [l4.2, l2.2] at k2
    rw [d1, ej_bv_s, e2, ej_bv_s, k1, ej_bv_s, k2.1]
    refine ⟨_, σc5, σr5, rfl, c2, ?_, rfl, k2, ?_⟩
    · exact fr_tr (fr_wk f1 (by simp) (by simp) (by simp) (by simp) (by simp)) (fr_tr (fr_wk y2 (by simp) (by simp) (by simp) (by simp) (by simp)) (fr_wk (fr_tr a34 c3) (by simp) (by simp) (by simp) (by simp) (by simp)))
    · exact fr_tr (fr_wk g1 (by simp) (by simp) (by simp) (by simp) (by simp)) (fr_tr (fr_wk w2 (by simp) (by simp) (by simp) (by simp) (by simp)) (fr_wk (fr_tr d34 k3) (by simp) (by simp) (by simp) (by simp) (by simp)))
/-- rewriting -/
theorem s_rewrite (hn : 2000 < n) (h : WR σc σr) (hTc : TX σc 0 tp) (hTr : RTX σr 4 tp) : ∃ l σc' σr', m2_writeAddress n 0 σc = some σc' ∧ TX σc' 1 l ∧ fr [1] [] [1, 31] [] [] σc σc' ∧ m11_rewrite_25 n n (nI tp.length) (nI 0) zm (nI 0) (nI 0) (nI 0) σr = some (nI l.length, uA σr' 1 4 (nI 0)) ∧ RX σr' l ∧ fr [17, 18] [] [27, 28] [] [] σr σr' := by
  have ht := TX_len hTc
  have ht6 := hTr.2.1
  obtain ⟨σc1, e1, t1, f1⟩ := x_clear (n := n) (t := 1) (σ := σc)
  have h0 : WR σc1 σr := WR_frc h (fr_wk f1 (by simp) (by simp) (by simp) (by simp) (by simp))
  have hT1 : TX σc1 0 tp := TX_fr hTc f1 (by simp) (by simp)
  have hN0 := hNm_of h.1
  unfold m2_writeAddress m7_length
  rw [e1, ej_bv_s, ej_bi_s, hT1.1, L_1]
  have edn : nI tp.length - nI 1 = dn tp.length := by
    cases tp.length with
    | zero => decide +kernel
    | succ q => rw [nI_m2 (by omega)]; rfl
  rw [edn, ej_nm_e, x_wa_14 hn h0 hN0 hT1 hTr tp.length n (Nat.le_refl _) (by omega)]
  have er := r_rw_25 hn h0 hN0 hT1 hTr n 0 (Nat.zero_le _) (by omega)
  have er' : m11_rewrite_25 n n (nI tp.length) (nI 0) zm (nI 0) (nI 0) (nI 0) σr = xr n tp.length σr (lk n σr tp tp.length) := er
  rw [er']
  have g1 : fr [18] [] [] [] [] σr (uI σr 18 (nI 0)) := fr_uI fr_rf (by simp)
  have hT2 : RTX (uI σr 18 (nI 0)) 4 tp := RTX_fr hTr g1 (by simp) (by simp)
  have e0 : ∀ x : List Nat, ([] : List Nat) ++ x = x := fun x => List.nil_append x
  have hls := lk_sp (n := n) (σ := σr) (tp := tp) (k := tp.length) (fun b e hb he => (kx_sp hn h0 hN0 hT1 hTr hb he).2.2) (Nat.le_refl _)
  cases hl : lk n σr tp tp.length with
  | none =>
    unfold xw xr
    obtain ⟨σc2, a1, a2, a3⟩ := x_appendPart (n := n) (t := 1) (t1 := 0) (by omega) hn t1 hT1 (e := tp.length) (i := 0) (Nat.le_refl _) (Nat.zero_le _) (by show 0 + _ ≤ 1200; omega)
    obtain ⟨σr2, b1, b2, b3⟩ := r_putsTape (n := n) hn RX_0 hT2 (e := tp.length) (i := 0) (Nat.le_refl _) (Nat.zero_le _) (by show 0 + _ ≤ 4000; omega)
    rw [a1, ej_bv_s, b1, ej_bv_s]
    refine ⟨_, σc2, σr2, rfl, a2, fr_tr (fr_wk f1 (by simp) (by simp) (by simp) (by simp) (by simp)) (fr_wk a3 (by simp) (by simp) (by simp) (by simp) (by simp)), ?_, b2, fr_tr (fr_wk g1 (by simp) (by simp) (by simp) (by simp) (by simp)) (fr_wk b3 (by simp) (by simp) (by simp) (by simp) (by simp))⟩
    rw [← b2.1]
    rfl
  | some o =>
    obtain ⟨x, b, e⟩ := o
    obtain ⟨p1, p2, a, p3, p4, p5⟩ := hls x b e hl
    have h1 : WR σc1 (uI σr 18 (nI 0)) := WR_frr h0 (fr_wk g1 (by simp) (by simp) (by simp) (by simp) (by simp))
    have ha1 : a < NN (uI σr 18 (nI 0)) := by unfold NN at *; rw [g1.1 15 (by simp)]; exact p3
    have hG1 := WR_G h1
    have hw1 := h1.1
    have h8 := nmN_8 (hNm_of hw1) ha1
    unfold nmN at h8
    obtain ⟨r, r1, r2, r3⟩ := s_route (n := n) hn h1 ha1
    have hr : r ≠ zm := by
      intro z
      obtain ⟨q, q1, q2⟩ := p5.2.1
      obtain ⟨r', _, s2, s3⟩ := s_route (n := n) hn h0 p3
      rw [q2] at s2
      have s2 := congrArg Prod.fst (Option.some.inj s2)
      -- the same way, whatever lies on the out
      obtain ⟨D, d1, d2, d3, _⟩ := SOL_D h0.1 h0.2.2.1
      have h24 := NN_le h.1
      obtain ⟨x1, u1, u2⟩ := r_wayOf (n := n) (σ := σr) (a := a) hn d1 d2 d3 (by omega)
      obtain ⟨x2, v1, v2⟩ := r_wayOf (n := n) (σ := uI σr 18 (nI 0)) (a := a) hn d1 d2 d3 (by omega)
      have := WY_one u2 v2
      rw [q2] at u1
      rw [r2] at v1
      have u1 := congrArg Prod.fst (Option.some.inj u1)
      have v1 := congrArg Prod.fst (Option.some.inj v1)
      simp only at u1 v1
      rw [← u1, ← v1, z] at this
      exact zm_ne (by omega) this
    rcases r3 with ⟨z1, _⟩ | ⟨q, L, c, rt, kd, q1, q2, q3, q4, q5, q6, q7, q8, q9, q10, q11, ⟨σc2, y1, y2, y3⟩, σr2, w1, w2, w3⟩
    · exact absurd z1 hr
    · have len := RC_len hw1 y3
      have hG2 : relG σc2 (uI σr 18 (nI 0)) := relG_fr hG1 y2 (by simp) (by simp) (by simp) (by simp) (by simp) (by simp) (by simp) (by simp) (by simp) (by simp) (by simp) (by simp) (by simp) (by simp) (by simp) (by simp) (by simp)
      have hl3 : a < NN σr := p3
      rw [xw_s, xr_s]
      unfold m2_writeAlong m2_writeAlong_17
      rw [p4, x_lengthOfName hn hG1 ha1, ej_bi_s, nI_m2 p1]
      simp only [y1, ej_bi_s]
      obtain ⟨σc3, a1, a2, a3⟩ := x_writeLeft (n := n) hn hG2 y3 (TX_fr t1 y2 (by simp) (by simp)) (by show 0 + _ ≤ 1200; omega)
      rw [e0] at a2
      simp only [a1, ej_bv_s, w1]
      have hT3 : TX σc3 0 tp := TX_fr (TX_fr hT1 y2 (by simp) (by simp)) a3 (by simp) (by simp)
      have hN2 : hNm σr2 := hNm_fr (hNm_of hw1) w2 (by simp) (by simp)
      have l2 := lr_fr (rt := rt) (kd := kd) w2 (by simp) (by simp) (by simp) (by simp)
      obtain ⟨σr3, d1, d2, d3⟩ := r_putsLeft (n := n) hn w3 hN2 (RX_fr RX_0 w2 (by simp) (by simp)) (by rw [l2.1]; show 0 + _ ≤ 4000; omega)
      rw [e0, l2.1] at d2
      have hN3 : hNm σr3 := hNm_fr hN2 d3 (by simp) (by simp)
      have ha3 : a < NN σr3 := by
        unfold NN at *
        rw [d3.1 15 (by simp), w2.1 15 (by simp)]; exact ha1
      have eB : gB σr3 1 = gB (uI σr 18 (nI 0)) 1 := by rw [d3.2.2.2.1 1 (by simp), w2.2.2.2.1 1 (by simp)]
      have hT5 : RTX σr3 4 tp := RTX_fr (RTX_fr hT2 w2 (by simp) (by simp)) d3 (by simp) (by simp)
      rw [d1, ej_bv_s, r_nameLength hn hN3 ha3, ej_bi_s, eB]
      -- the end of both
      have tail : ∀ (l : List Nat) (σc4 σr4 : ej_S), TX σc4 1 l → fr [1] [] [1] [] [] σc3 σc4 → RX σr4 l → fr [18] [] [28] [] [] σr3 σr4 → l.length + (tp.length - (e + 1)) + (rgt (uI σr 18 (nI 0)) rt kd L).length ≤ 1200 → ∃ l' σc' σr', m2_writeAlong_60 n 0 (nI e) (nI L) σc4 = some σc' ∧ TX σc' 1 l' ∧ fr [1] [] [1] [] [] σc4 σc' ∧ m11_rewrite_164 n (nI tp.length) (nI e) σr4 = some (nI l'.length, uA σr' 1 4 (nI 0)) ∧ RX σr' l' ∧ fr [18] [] [28] [] [] σr4 σr' := by
        intro l σc4 σr4 tx4 fc4 rx4 fr4 hlen
        have hT4 : TX σc4 0 tp := TX_fr hT3 fc4 (by simp) (by simp)
        obtain ⟨σc5, i1, i2, i3⟩ := x_appendPart (n := n) (t := 1) (t1 := 0) (by omega) hn tx4 hT4 (e := tp.length) (i := e + 1) (Nat.le_refl _) (by omega) (by show _ ≤ 1200; omega)
        have a5 := fr_tr (fr_tr a3 fc4) i3
        have tl : ((tp.take tp.length).drop (e + 1)).length = tp.length - (e + 1) := by rw [List.length_drop, List.length_take, Nat.min_self]
        obtain ⟨σc6, j1, j2, j3⟩ := x_writeRight (n := n) hn (relG_1 hG2 a5) (RCc_fr y3 a5 (by simp) (by simp)) i2 (by rw [List.length_append, tl]; omega)
        unfold m2_writeAlong_60 m7_length m11_rewrite_164
        rw [hT4.1, ej_bi_s, L_1, nI_add, i1, ej_bv_s, j1, ej_bv_s]
        have hT6 : RTX σr4 4 tp := RTX_fr hT5 fr4 (by simp) (by simp)
        obtain ⟨σr5, k1, k2, k3⟩ := r_putsTape (n := n) hn rx4 hT6 (e := tp.length) (i := e + 1) (Nat.le_refl _) (by omega) (by omega)
        have d5 := fr_tr (fr_tr d3 fr4) k3
        have l5 := lr_fr (rt := rt) (kd := kd) d5 (by simp) (by simp) (by simp) (by simp)
        obtain ⟨σr6, m1, m2, m3⟩ := r_putsRight (n := n) hn (RCr_fr w3 d5 (by simp) (by simp) (by simp) (by simp)) (hNm_fr hN2 d5 (by simp) (by simp)) k2 (by rw [l5.2, l2.2, List.length_append, tl]; omega)
        rw [l5.2, l2.2] at m2
        rw [k1, ej_bv_s, m1, ej_bv_s]
        refine ⟨_, σc6, σr6, rfl, j2, fr_tr i3 j3, ?_, m2, fr_tr k3 m3⟩
        rw [← m2.1, L_0]
        rfl
      have fc : ∀ {s : ej_S}, fr [1] [] [1] [] [] σc3 s → fr [1] [] [1, 31] [] [] σc s := fun f => fr_tr (fr_wk f1 (by simp) (by simp) (by simp) (by simp) (by simp)) (fr_tr (fr_wk y2 (by simp) (by simp) (by simp) (by simp) (by simp)) (fr_wk (fr_tr a3 f) (by simp) (by simp) (by simp) (by simp) (by simp)))
      have fq : ∀ {s : ej_S}, fr [18] [] [28] [] [] σr3 s → fr [17, 18] [] [27, 28] [] [] σr s := fun f => fr_tr (fr_wk g1 (by simp) (by simp) (by simp) (by simp) (by simp)) (fr_tr (fr_wk w2 (by simp) (by simp) (by simp) (by simp) (by simp)) (fr_wk (fr_tr d3 f) (by simp) (by simp) (by simp) (by simp) (by simp)))
      rcases Nat.lt_or_ge (nL (gB (uI σr 18 (nI 0)) 1 a)).length (e - b) with z | z
      · rw [ile_f z (by omega), ile_f z (by omega), L_1, L_0, if_neg n10]
        obtain ⟨σc4, i1, i2, i3⟩ := x_appendPart (n := n) (t := 1) (t1 := 0) (by omega) hn a2 hT3 (e := e) (i := b) (by omega) p1 (by show _ ≤ 1200; omega)
        have tl : ((tp.take e).drop b).length = e - b := by rw [List.length_drop, List.length_take, Nat.min_eq_left (by omega)]
        obtain ⟨σc5, j1, j2, j3⟩ := x_append (n := n) (b := 33) (v := nI 33) i2 (by rw [List.length_append, tl]; show _ < 1200; omega) (by omega) (and255 (by omega))
        obtain ⟨σr4, k1, k2, k3⟩ := r_putsTape (n := n) hn d2 hT5 (e := e) (i := b) (by omega) p1 (by omega)
        obtain ⟨σr5, m1, m2, m3⟩ := r_putsCode (n := n) (c := 33) k2 (by rw [List.length_append, tl]; omega) (by omega)
        obtain ⟨l', σc', σr', o1, o2, o3, o4, o5, o6⟩ := tail _ σc5 σr5 j2 (fr_tr i3 j3) m2 (fr_tr k3 m3) (by simp only [List.length_append, tl, List.length_cons, List.length_nil]; omega)
        rw [i1, ej_bv_s, L_33, j1, ej_bv_s, o1, ej_bv_s, k1, ej_bv_s, m1, ej_bv_s, o4]
        exact ⟨l', σc', σr', rfl, o2, fc (fr_tr (fr_tr i3 j3) o3), rfl, o5, fq (fr_tr (fr_tr k3 m3) o6)⟩
      · rw [ile_t z (by omega), ile_t z (by omega), if_true]
        obtain ⟨l', σc', σr', o1, o2, o3, o4, o5, o6⟩ := tail _ σc3 σr3 a2 fr_rf d2 fr_rf (by omega)
        rw [o1, ej_bv_s, o4]
        exact ⟨l', σc', σr', rfl, o2, fc o3, rfl, o5, fq o6⟩
end P93e
