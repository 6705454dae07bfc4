/-! BOTH IN STEP: what is kept from call to call -/
def relW (σc σr : ej_S) : Prop := wfR σr ∧ relC σc σr
abbrev FQc (σ σ' : ej_S) : Prop := fr [0, 1, 6, 10, 11, 12, 13, 14, 15, 16, 17, 18, 19, 20, 21, 29, 30, 31, 32, 33] [] [0, 1, 6, 11, 12, 13, 14, 15, 16, 17, 31] [0] [] σ σ'
abbrev FQr (σ σ' : ej_S) : Prop := fr [0, 1, 2, 3, 4, 5, 7, 8, 9, 10, 11, 12, 13, 14, 17, 18, 19] [0] [0, 1, 3, 5, 6, 7, 8, 9, 10, 22, 27, 28] [] [] σ σ'
def DRAW (n : Nat) (fs : Nat → List Nat) (σr : ej_S) : Prop := ∀ σ, (∀ f, f < 4 → TX σ (2 + f) (fs f)) → ∃ σ', DF2 σ σ' ∧ gI σ' 34 = nI 0 ∧ gI σ' 35 = nI 0 ∧ (∀ f, f < 4 → gA σ' 10 f = gA σr 2 f) ∧ m10_drawMap n zm σ = some (nI 1, σ') ∧ relC σ' σr ∧ Kp σ σ'
def WYS (σc σr : ej_S) : Prop := (gI σc 34 = nI 0 ∨ (gI σc 34 = nI 1 ∧ wayRel σc σr)) ∧ (gI σc 35 = nI 0 ∨ (gI σc 35 = nI 1 ∧ gI σc 34 = nI 1 ∧ ∀ v, v < 96 → gA σc 30 v = gA σr 23 v))
def MAPI (n : Nat) (fs : Nat → List Nat) (σc σr : ej_S) : Prop := (∀ f, f < 4 → TX σc (2 + f) (fs f)) ∧ (∀ f, f < 4 → RTX σr f (fs f)) ∧ (∀ f, f < 4 → snd n (fs f)) ∧ RW σr ∧ gI σr 6 = nI 0 ∧ gI σr 16 = nI 0 ∧ gJ σc 0 = gJ σr 1 ∧ (∀ f, f < 4 → gA σc 10 f = gA σr 2 f) ∧ relW σc σr ∧ SOL σr ∧ WYS σc σr ∧ DRAW n fs σr
def IOS (tp ot : List Nat) (σc σr : ej_S) : Prop := TX σc 0 tp ∧ RTX σr 4 tp ∧ TX σc 1 ot ∧ RX σr ot ∧ gI σc 10 = gI σr 11 ∧ gI σc 11 = gI σr 12
def INV (n : Nat) (σc σr : ej_S) : Prop := ∃ fs tp ot, MAPI n fs σc σr ∧ IOS tp ot σc σr
section P96b
variable {n a b f : Nat} {σ σc σr : ej_S} {fs : Nat → List Nat} {tp ot : List Nat}
theorem W_has (h : relW σc σr) (ha : a < NN σr) : m0_has n (nI a) σc = some (nI 1, σc) := by
  obtain ⟨⟨N, h0, h1, -⟩, ⟨c1, -⟩⟩ := h
  have hN := NN_eq h1 h0
  rw [hN] at ha
  rw [x_has (by rw [c1, h1]) h0 (by omega), decide_eq_true ha]; rfl
theorem W_N (h : relW σc σr) : NN σr ≤ 24 ∧ gI σc 22 = nI (NN σr) := by
  obtain ⟨⟨N, h0, h1, -⟩, ⟨c1, -⟩⟩ := h
  have hN := NN_eq h1 h0
  rw [hN]
  exact ⟨h0, by rw [c1, h1]⟩
theorem W_dom (h : relW σc σr) (ha : a < NN σr) : bt (gI σc 24) a = dmB (gB σr 1 a) := by
  have h24 := (W_N h).1
  have := h.2.2.2.2.2.1 a (by omega)
  cases e : dmB (gB σr 1 a)
  · cases e2 : bt (gI σc 24) a
    · rfl
    · have := (dmB_iff _).mpr (this.mp e2).2
      rw [e] at this; cases this
  · exact this.mpr ⟨ha, (dmB_iff _).mp e⟩
theorem w_kindOf (h : relW σc σr) (ha : a < NN σr) : m0_kindOf n (nI a) σc = some (nI (kdN σr a), σc) := by
  have h24 := (W_N h).1
  unfold m0_kindOf kdN
  rw [x_holds (by omega), ej_bi_s, W_dom h ha, x_holds (by omega), ej_bi_s, G_bit h.2.2.2.2.2.2.1 (by omega)]
  simp only [L_0, L_1, L_2, ibI]
  cases dmB (gB σr 1 a)
  · by_cases g : gA σr 12 a = nI 0 <;> simp [g]
  · simp
theorem w_priceOfLink (h : relW σc σr) (ha : a < NN σr) (hb : b < NN σr) : m0_priceOfLink n (nI a) (nI b) σc = some (gA σr 16 (24 * a + b), σc) := by
  have h24 := (W_N h).1
  have hl := h.2.2.2.2.2.2.2.2.2.2.2.1 a b (by omega) (by omega)
  unfold m0_priceOfLink
  rw [W_has h ha]
  simp (disch := omega) only [ej_bi_s, ej_bl_s, ej_bv_s, ej_nm_e, L_0, ieq_f, W_has h hb, ck_t, nI_clamp, x_holds (show b < 24 by omega), ibI, ↓L_m1]
  by_cases g : gA σr 16 (24 * a + b) = zm
  · rw [if_neg (fun z => hl.1.mp z g), g]
  · rw [if_pos (hl.1.mpr g), (hl.2 g).1]
theorem w_priceOfMember (h : relW σc σr) (ha : a < NN σr) (hb : b < NN σr) : m0_priceOfMember n (nI a) (nI b) σc = some (gA σr 20 (24 * a + b), σc) := by
  have h24 := (W_N h).1
  have hl := h.2.2.2.2.2.2.2.2.2.2.2.2.2 b a (by omega) (by omega)
  unfold m0_priceOfMember
  rw [W_has h ha]
  simp (disch := omega) only [ej_bi_s, ej_bl_s, ej_bv_s, ej_nm_e, L_0, ieq_f, W_has h hb, ck_t, nI_clamp, x_holds (show a < 24 by omega), ibI, ↓L_m1]
  by_cases g : gA σr 20 (24 * a + b) = zm
  · rw [if_neg (fun z => hl.1.mp z g), g]
  · rw [if_pos (hl.1.mpr g), hl.2 g]
theorem w_nameOf (h : relW σc σr) (ha : a < NN σr) : m0_nameOf n (nI a) σc = some (gB σr 1 a, σc) := by
  have h24 := (W_N h).1
  unfold m0_nameOf
  rw [W_has h ha, ej_bi_s, L_0, if_neg n10, ck_t (by omega) (by omega), nI_clamp (by omega), h.2.2.2.1 a ha]
theorem w_nm (h : relW σc σr) (ha : a < NN σr) : isNm (gB σr 1 a) := (hNm_of h.1).2 a ha
theorem relW_c {s : ej_S} (h : relW σc σr) (p : FQc σc s) : relW s σr := ⟨h.1, relC_fr h.2 p (by simp) (by simp) (by simp) (by simp) (by simp) (by simp) (by simp) (by simp) (by simp) (by simp) (by simp) (by simp) (by simp) (by simp) (by simp) (by simp)⟩
theorem relW_r {s : ej_S} (h : relW σc σr) (q : FQr σr s) : relW σc s := ⟨wfR_fr h.1 q (by simp) (by simp) (by simp) (by simp) (by simp) (by simp) (by simp) (by simp), relC_frr h.2 q (by simp) (by simp) (by simp) (by simp) (by simp) (by simp) (by simp) (by simp) (by simp) (by simp) (by simp) (by simp)⟩
theorem DRAW_r {s : ej_S} (h : DRAW n fs σr) (q : FQr σr s) : DRAW n fs s := by
  intro σ hT
  obtain ⟨σ', a1, a2, a3, a4, a5, a6, a7⟩ := h σ hT
  exact ⟨σ', a1, a2, a3, fun f hf => by rw [q.2.2.1 2 (by simp)]; exact a4 f hf, a5, relC_frr a6 q (by simp) (by simp) (by simp) (by simp) (by simp) (by simp) (by simp) (by simp) (by simp) (by simp) (by simp) (by simp), a7⟩
theorem WYS_c {s : ej_S} (h : WYS σc σr) (p : FQc σc s) : WYS s σr := by
  unfold WYS wayRel at *
  rw [p.1 34 (by simp), p.1 35 (by simp), p.2.2.1 24 (by simp), p.2.2.1 25 (by simp), p.2.2.1 26 (by simp), p.2.2.1 27 (by simp), p.2.2.1 28 (by simp), p.2.2.1 30 (by simp)]
  exact h
theorem WYS_r {s : ej_S} (h : WYS σc σr) (q : FQr σr s) : WYS σc s := by
  unfold WYS wayRel at *
  rw [q.2.2.1 21 (by simp), q.2.2.1 23 (by simp), q.2.2.1 24 (by simp), q.2.2.1 25 (by simp), q.2.2.1 26 (by simp)]
  exact h
theorem MAPI_c {s : ej_S} (h : MAPI n fs σc σr) (p : FQc σc s) : MAPI n fs s σr := by
  obtain ⟨h1, h2, h3, h4, h5, h6, h7, h8, h9, h10, h11, h12⟩ := h
  exact ⟨fun f hf => TX_fr (h1 f hf) p (by simp; omega) (by simp; omega), h2, h3, h4, h5, h6, by rw [p.2.1 0 (by simp)]; exact h7, fun f hf => by rw [p.2.2.1 10 (by simp)]; exact h8 f hf, relW_c h9 p, h10, WYS_c h11 p, h12⟩
theorem MAPI_r {s : ej_S} (h : MAPI n fs σc σr) (q : FQr σr s) (hR : ∀ f, f < 4 → RTX s f (fs f)) : MAPI n fs σc s := by
  obtain ⟨h1, h2, h3, h4, h5, h6, h7, h8, h9, h10, h11, h12⟩ := h
  exact ⟨h1, hR, h3, RW_fr h4 q (by simp) (by simp), by rw [q.1 6 (by simp)]; exact h5, by rw [q.1 16 (by simp)]; exact h6, by rw [q.2.1 1 (by simp)]; exact h7, fun f hf => by rw [q.2.2.1 2 (by simp)]; exact h8 f hf, relW_r h9 q, SOL_fr h10 q (by simp) (by simp) (by simp) (by simp) (by simp) (by simp) (by simp) (by simp) (by simp) (by simp) (by simp) (by simp) (by simp) (by simp) (by simp) (by simp) (by simp) (by simp), WYS_r h11 q, DRAW_r h12 q⟩
/-- when the texts of the reference are not touched -/
theorem MAPI_r0 {s : ej_S} {I J A B : List Nat} (h : MAPI n fs σc σr) (q : fr I J A B [] σr s) (q1 : I ⊆ [0, 1, 2, 3, 4, 5, 7, 8, 9, 10, 11, 12, 13, 14, 17, 18, 19]) (q2 : J ⊆ [0]) (q3 : A ⊆ [3, 5, 6, 7, 8, 9, 10, 22, 27, 28]) (q4 : B ⊆ []) : MAPI n fs σc s :=
  MAPI_r h (fr_wk q q1 q2 (List.Subset.trans q3 (by simp)) q4 (by simp)) (fun f hf => RTX_fr (h.2.1 f hf) q (fun z => by have := q3 z; simp at this) (fun z => by have := q3 z; simp at this))
/-- the ways are found -/
theorem s_find (hn : 2000 < n) (h : MAPI n fs σc σr) : ∃ s, m9_find n σc = some s ∧ fr [34] [] [24, 25, 26, 27, 28, 29] [] [] σc s ∧ MAPI n fs s σr ∧ WR s σr ∧ gI s 34 = nI 1 := by
  obtain ⟨h1, h2, h3, h4, h5, h6, h7, h8, h9, h10, h11, h12⟩ := id h
  unfold m9_find
  rw [L_0, L_1]
  rcases h11.1 with z | ⟨z, zw⟩
  · rw [z, if_pos rfl, ej_nm_e]
    have f0 : fr [34] [] [] [] [] σc (uI σc 34 (nI 1)) := fr_uI fr_rf (by simp)
    have c0 : relC (uI σc 34 (nI 1)) σr := relC_fr h9.2 f0 (by simp) (by simp) (by simp) (by simp) (by simp) (by simp) (by simp) (by simp) (by simp) (by simp) (by simp) (by simp) (by simp) (by simp) (by simp) (by simp)
    obtain ⟨s, e1, f1, w1⟩ := x_find0 (n := n) hn h9.1 c0 h7 h10
    have F : fr [34] [] [24, 25, 26, 27, 28, 29] [] [] σc s := fr_tr (fr_wk f0 (by simp) (by simp) (by simp) (by simp) (by simp)) (fr_wk f1 (by simp) (by simp) (by simp) (by simp) (by simp))
    have c1 : relC s σr := relC_fr h9.2 F (by simp) (by simp) (by simp) (by simp) (by simp) (by simp) (by simp) (by simp) (by simp) (by simp) (by simp) (by simp) (by simp) (by simp) (by simp) (by simp)
    have s34 : gI s 34 = nI 1 := by rw [f1.1 34 (by simp), s_II_s]
    refine ⟨s, e1, F, ⟨fun f hf => TX_fr (h1 f hf) F (by simp; omega) (by simp; omega), h2, h3, h4, h5, h6, by rw [F.2.1 0 (by simp)]; exact h7, fun f hf => by rw [F.2.2.1 10 (by simp)]; exact h8 f hf, ⟨h9.1, c1⟩, h10, ⟨.inr ⟨s34, w1⟩, .inl ?_⟩, h12⟩, ⟨h9.1, c1, h10, w1⟩, s34⟩
    rw [F.1 35 (by simp)]
    rcases h11.2 with y | ⟨_, y, _⟩
    · exact y
    · rw [z] at y; exact absurd y n01
  · rw [z, if_neg n10]
    exact ⟨σc, rfl, fr_rf, h, ⟨h9.1, h9.2, h10, zw⟩, z⟩
theorem s_rounds (hn : 2000 < n) (h : MAPI n fs σc σr) (hw : WR σc σr) (h34 : gI σc 34 = nI 1) : ∃ s, m9_findByRounds n σc = some s ∧ fr [35] [] [30] [] [] σc s ∧ MAPI n fs s σr ∧ ∀ v, v < 96 → gA s 30 v = gA σr 23 v := by
  obtain ⟨h1, h2, h3, h4, h5, h6, h7, h8, h9, h10, h11, h12⟩ := id h
  unfold m9_findByRounds
  rw [L_0, L_1]
  rcases h11.2 with z | ⟨z, _, zw⟩
  · rw [z, if_pos rfl, ej_nm_e]
    have f0 : fr [35] [] [] [] [] σc (uI σc 35 (nI 1)) := fr_uI fr_rf (by simp)
    have G0 : relG (uI σc 35 (nI 1)) σr := relG_fr (WR_G hw) f0 (by simp) (by simp) (by simp) (by simp) (by simp) (by simp) (by simp) (by simp) (by simp) (by simp) (by simp) (by simp) (by simp) (by simp) (by simp) (by simp) (by simp)
    obtain ⟨s, e1, f1, w1⟩ := x_rounds0 (n := n) hn G0 h7 h10
    have F : fr [35] [] [30] [] [] σc s := fr_tr (fr_wk f0 (by simp) (by simp) (by simp) (by simp) (by simp)) (fr_wk f1 (by simp) (by simp) (by simp) (by simp) (by simp))
    have c1 : relC s σr := relC_fr h9.2 F (by simp) (by simp) (by simp) (by simp) (by simp) (by simp) (by simp) (by simp) (by simp) (by simp) (by simp) (by simp) (by simp) (by simp) (by simp) (by simp)
    have s35 : gI s 35 = nI 1 := by rw [f1.1 35 (by simp), s_II_s]
    have s34 : gI s 34 = nI 1 := by rw [F.1 34 (by simp)]; exact h34
    refine ⟨s, e1, F, ⟨fun f hf => TX_fr (h1 f hf) F (by simp; omega) (by simp; omega), h2, h3, h4, h5, h6, by rw [F.2.1 0 (by simp)]; exact h7, fun f hf => by rw [F.2.2.1 10 (by simp)]; exact h8 f hf, ⟨h9.1, c1⟩, h10, ⟨.inr ⟨s34, ?_⟩, .inr ⟨s35, s34, w1⟩⟩, h12⟩, w1⟩
    have := hw.2.2.2
    unfold wayRel at *
    rw [F.2.2.1 24 (by simp), F.2.2.1 25 (by simp), F.2.2.1 26 (by simp), F.2.2.1 27 (by simp), F.2.2.1 28 (by simp)]
    exact this
  · rw [z, if_neg n10]
    exact ⟨σc, rfl, fr_rf, h, zw⟩
/-- a node, or none -/
theorem s_node_ask (h : relW σc σr) (x : Int32) : (∃ i, i < NN σr ∧ i < 24 ∧ x = nI i ∧ m0_has n x σc = some (nI 1, σc) ∧ m11_isNode n x σr = some (nI 1, σr)) ∨ (m0_has n x σc = some (nI 0, σc) ∧ m11_isNode n x σr = some (nI 0, σr)) := by
  obtain ⟨h24, c22⟩ := W_N h
  have r15 : gI σr 15 = nI (NN σr) := by rw [← h.2.1]; exact c22
  unfold m0_has m11_isNode
  rw [v_isIn, c22, r15, L_0, L_1, L_24, ej_bi_s]
  by_cases g : x < nI 0
  · rw [if_pos g, if_pos g, bz_n0]
    exact .inr ⟨rfl, rfl⟩
  · rw [if_neg g, if_neg g]
    have g' : 0 ≤ x.toInt := by
      rw [Int32.lt_iff_toInt_lt, nI_toInt (by omega)] at g
      simpa using g
    obtain ⟨k, hk, rfl⟩ := nn_of g'
    rcases Nat.lt_or_ge k (NN σr) with q | q
    · rw [ile_f q (by omega), ile_f (show k < 24 by omega) (by omega), nI_m2 (by omega), ilt_f (by omega) (by omega), bz_n1]
      exact .inl ⟨k, q, by omega, rfl, rfl, rfl⟩
    · rw [ile_t q (by omega)]
      right
      refine ⟨rfl, ?_⟩
      rcases Nat.eq_zero_or_pos (NN σr) with z | z
      · have e : nI (NN σr) - nI 1 = zm := by rw [z]; decide +kernel
        rw [e, if_pos (zm_lt hk), bz_n0]
      · rw [nI_m2 z, ilt_t (by omega) hk, bz_n0]
end P96b
