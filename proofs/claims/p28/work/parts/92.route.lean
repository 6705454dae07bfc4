/-! ROUTES of both -/
/-- the map and the ways of both -/
def WR (σc σr : ej_S) : Prop := wfR σr ∧ relC σc σr ∧ SOL σr ∧ wayRel σc σr
theorem WR_G {σc σr : ej_S} (h : WR σc σr) : relG σc σr := ⟨h.1, h.2.1, h.2.2.2.1, SOL_bk h.2.2.1⟩
/-- what stands in the solution -/
def SD (σ : ej_S) (D : Nat → Nat) : Prop := kC (gA σ 23) (gA σ 24) D ∧ OKD D ∧ (∀ v, D v ≤ iF) ∧ (∀ v, v < 96 → D v < iF → v / 4 < NN σ) ∧ ∀ a r, a < 24 → WY D a r → r = zm ∨ ∃ q rt, r = nI q ∧ q < 96 ∧ q / 4 = a ∧ D q < iF ∧ rt (D q % 1024) = q ∧ PT σ D rt (D q % 1024) ∧ D q % 1024 ≤ 23
theorem SOL_D {σ : ej_S} (hw : wfR σ) (hs : SOL σ) : ∃ D, SD σ D := by
  have hiF := iF_e
  have hbk := SOL_bk hs
  rcases hs with ⟨_, _, z⟩ | ⟨h, T, D, z1, z2, z3, z4⟩
  · refine ⟨fun _ => iF, fun v hv => .inl ⟨rfl, z v hv⟩, fun v _ hf => absurd hf (Nat.lt_irrefl _), fun _ => Nat.le_refl _, fun v _ hf => absurd hf (Nat.lt_irrefl _), fun a r ha hW => ?_⟩
    rcases hW with ⟨w, _⟩ | ⟨q, _, _, _, w, _⟩
    · exact .inl w
    · exact absurd w (Nat.lt_irrefl _)
  · have hc := CR_of hw hbk
    have h24 := NN_le hw
    refine ⟨D, z4.2.2.1, z4.2.1, z4.1.2.1, fun v hv hf => ?_, fun a r ha hW => ?_⟩
    · rcases wk_last (z4.1.2.2.1 v hv hf) with ⟨_, w⟩ | ⟨d', u0, k0, w0, _, e0, _⟩
      · have := z1.1; rw [w]; omega
      · exact (Ed_lim hc e0).2.1
    · rcases hW with ⟨w, _⟩ | ⟨q, q1, q2, q3, q4, q5, q6⟩
      · exact .inl w
      · obtain ⟨rt, r1, r2⟩ := PT_ex hc z4 (D q % 1024) q (by omega) q4 rfl
        refine .inr ⟨q, rt, q3, by omega, by omega, q4, r1, r2, PT_23 z4.1 r2 (fun q' h1 h2 => ?_)⟩
        rw [r1] at h2 ⊢
        exact q5 q' (by omega) (by omega)
theorem wayRel_kC {σc σr : ej_S} {D : Nat → Nat} (h : wayRel σc σr) (hk : kC (gA σr 23) (gA σr 24) D) (ho : OKD D) : kC (gA σc 25) (gA σc 26) D := by
  intro v hv
  obtain ⟨a1, a2⟩ := h.2 v hv
  rw [a1]
  rcases hk v hv with ⟨b1, b2⟩ | ⟨b1, b2, b3⟩
  · exact .inl ⟨b1, b2⟩
  · have := OKD_bd ho hv b1
    refine .inr ⟨b1, b2, ?_⟩
    rw [(a2 (by rw [b2]; exact zm_ne (by omega))).1]; exact b3
section P92
variable {n a : Nat} {σc σr : ej_S}
/-- what a node's route is -/
def RTE (n a : Nat) (σc σr : ej_S) (r : Int32) : Prop := m9_routeKey n (nI a) σc = some (r, σc) ∧ m11_wayOf n (nI a) σr = some (r, σr) ∧ ((r = zm ∧ m9_layOut n (nI a) σc = some (zm, σc)) ∨ ∃ q L c rt kd, r = nI q ∧ q < 96 ∧ q / 4 = a ∧ L ≤ 23 ∧ c < 2 ^ 30 ∧ gA σr 23 q = nI c ∧ gA σc 25 q = nI c ∧ gA σr 24 q = nI L ∧ gA σc 26 q = nI L ∧ (∀ i, i ≤ L → gA σc 25 (rt i) = gA σr 23 (rt i)) ∧ (gA σc 28 (rt 0) = gA σr 26 (rt 0)) ∧ (∃ σc', m9_layOut n (nI a) σc = some (nI L, σc') ∧ fr [] [] [31] [] [] σc σc' ∧ RCc σc' σr rt kd L) ∧ ∃ σr', m11_lays n (nI a) σr = some σr' ∧ fr [17] [] [27] [] [] σr σr' ∧ RCr σr' rt kd L)
theorem s_route (hn : 2000 < n) (h : WR σc σr) (ha : a < NN σr) : ∃ r, RTE n a σc σr r := by
  obtain ⟨hw, hc, hs, hy⟩ := h
  have h24 := NN_le hw
  obtain ⟨D, d1, d2, d3, d4, d5⟩ := SOL_D hw hs
  have dc := wayRel_kC hy d1 d2
  obtain ⟨r, e1, w1⟩ := r_wayOf (n := n) hn d1 d2 d3 (show a < 24 by omega)
  obtain ⟨r', e2, w2⟩ := x_routeKey (n := n) hn dc d2 d3 (show a < 24 by omega)
  have er := WY_one w2 w1
  subst er
  refine ⟨r', e2, e1, ?_⟩
  rcases d5 a r' (by omega) w1 with z | ⟨q, rt, q1, q2, q3, q4, q5, q6, q7⟩
  · refine .inl ⟨z, ?_⟩
    obtain ⟨m, hm⟩ : ∃ m, n = m + 1 := ⟨n - 1, by omega⟩
    unfold m9_layOut
    rw [e2, ej_bi_s, z]
    unfold m9_lengthOfKey
    rw [L_0, if_pos (zm_lt (by omega)), ej_bi_s, L_m1]
    rw [show m9_layOut_15 n n zm zm zm σc = m9_layOut_15 n (m + 1) zm zm zm σc by rw [← hm], u_9_layOut_15, L_0, if_pos (zm_lt (by omega))]
  · have bq := OKD_bd d2 q2 q4
    rcases d1 q q2 with ⟨y1, _⟩ | ⟨_, y2, y3⟩
    · omega
    rcases dc q q2 with ⟨y1, _⟩ | ⟨_, y5, y6⟩
    · omega
    generalize hL : D q % 1024 = L at *
    have hset : ∀ i, i ≤ L → gA σr 23 (rt i) ≠ zm := by
      intro i hi
      obtain ⟨p1, p2, p3⟩ := q6.1 i hi
      have := OKD_bd d2 p1 p2
      rcases d1 (rt i) p1 with ⟨z1, _⟩ | ⟨_, z2, _⟩
      · omega
      · rw [z2]; exact zm_ne (by omega)
    have hkd : ∀ i, i < L → ∃ k, 1 ≤ k ∧ k ≤ 5 ∧ gA σr 26 (rt (i + 1)) = nI k ∧ gA σr 25 (rt (i + 1)) = nI (rt i) ∧ ∃ c, scost σr (rt i / 4) (rt (i + 1) / 4) k = some c := by
      intro i hi
      obtain ⟨k, w, e, _, p1, p2⟩ := q6.2 i hi
      obtain ⟨_, _, e1, e2, c, e3, _⟩ := e
      exact ⟨k, e1, e2, p2, p1, c, e3⟩
    have kdv : ∀ i, i < L → ∀ k, k ≤ 5 → gA σr 26 (rt (i + 1)) = nI k → (gA σr 26 (rt (i + 1))).toNatClampNeg = k := by
      intro i _ k hk e
      rw [e, nI_clamp (by omega)]
    refine .inr ⟨q, L, D q / 1024, rt, fun i => (gA σr 26 (rt i)).toNatClampNeg, q1, q2, q3, q7, by omega, y2, y5, y3, y6, fun i hi => (hy.2 (rt i) (q6.1 i hi).1).1, ((hy.2 (rt 0) (q6.1 0 (Nat.zero_le _)).1).2 (hset 0 (Nat.zero_le _))).2.2, ?_, ?_⟩
    · obtain ⟨σ', e3, f3, p1, _⟩ := x_layOut_15 (n := n) (rt := rt) (L := L) L n σc (fun i hi => by
        obtain ⟨k, k1, k2, k3, k4, _⟩ := hkd i hi
        rw [((hy.2 _ (q6.1 (i + 1) hi).1).2 (hset (i + 1) hi)).2.1, k4]) (fun i hi => (q6.1 i hi).1) (by omega) (by omega)
      refine ⟨σ', ?_, f3, q7, fun i hi => ⟨(q6.1 i hi).1, d4 _ (q6.1 i hi).1 (q6.1 i hi).2.1, p1 i hi⟩, fun i hi => ?_⟩
      · unfold m9_layOut
        rw [e2, ej_bi_s, q1]
        unfold m9_lengthOfKey
        rw [L_0, L_96, ilt_f (Nat.zero_le _) (by omega), ile_f q2 (by omega), ck_t q2 (by omega), nI_clamp (by omega), y6, ej_bi_s]
        rw [q5] at e3; exact e3
      · obtain ⟨k, k1, k2, k3, k4, c, k5⟩ := hkd i hi
        have e := kdv i hi k k2 k3
        show 1 ≤ (gA σr 26 (rt (i + 1))).toNatClampNeg ∧ (gA σr 26 (rt (i + 1))).toNatClampNeg ≤ 5 ∧ gA σ' 28 (rt (i + 1)) = nI (gA σr 26 (rt (i + 1))).toNatClampNeg ∧ ∃ c, scost σr (rt i / 4) (rt (i + 1) / 4) (gA σr 26 (rt (i + 1))).toNatClampNeg = some c
        rw [e]
        exact ⟨k1, k2, by rw [f3.2.2.1 28 (by simp), ((hy.2 _ (q6.1 (i + 1) hi).1).2 (hset (i + 1) hi)).2.2, k3], c, k5⟩
    · have f0 : fr [17] [] [] [] [] σr (uI σr 17 (nI L)) := fr_uI fr_rf (by simp)
      obtain ⟨σ', e3, f3, p1, _⟩ := r_lays_21 (n := n) (rt := rt) (R := rt) L n (uI σr 17 (nI L)) (fun i hi => by
        obtain ⟨k, k1, k2, k3, k4, _⟩ := hkd i hi
        exact k4) (fun i hi => (q6.1 i hi).1) (by omega) (by omega)
      have f03 : fr [17] [] [27] [] [] σr σ' := fr_tr (fr_wk f0 (by simp) (by simp) (by simp) (by simp) (by simp)) (fr_wk f3 (by simp) (by simp) (by simp) (by simp) (by simp))
      refine ⟨σ', ?_, f03, q7, by rw [f3.1 17 (by simp), s_II_s], fun i hi => ⟨(q6.1 i hi).1, ?_, p1 i hi⟩, fun i hi => ?_⟩
      · unfold m11_lays
        rw [e1, ej_bi_s, q1, ck_t q2 (by omega), nI_clamp (by omega), y3, ej_nm_e, s_II_s, ej_nm_e]
        rw [q5] at e3; exact e3
      · have := d4 _ (q6.1 i hi).1 (q6.1 i hi).2.1
        unfold NN at *
        rw [f03.1 15 (by simp)]; exact this
      · obtain ⟨k, k1, k2, k3, k4, c, k5⟩ := hkd i hi
        have e := kdv i hi k k2 k3
        show 1 ≤ (gA σr 26 (rt (i + 1))).toNatClampNeg ∧ (gA σr 26 (rt (i + 1))).toNatClampNeg ≤ 5 ∧ gA σ' 26 (rt (i + 1)) = nI (gA σr 26 (rt (i + 1))).toNatClampNeg
        rw [e]
        exact ⟨k1, k2, by rw [f03.2.2.1 26 (by simp), k3]⟩
end P92
