/-! THE MAP REBUILT -/
section P95b
variable {n : Nat} {σ σc σr : ej_S} {fs : Nat → List Nat}
theorem tn_no {r : Int32} {f : Nat} (hf : f < 4) : tn r f ∉ [6, 10, 11, 12, 13, 14, 15, 16, 17, 18, 19, 20, 21, 22, 23, 24, 25, 26, 27, 28, 29, 30, 31, 32, 33, 34, 35] := by
  have := (tn_lt (r := r) hf).1
  simp
  omega
theorem DF_2 {s : ej_S} (h : DF σ s) : DF2 σ s := fr_wk h (by simp) (by simp) (by simp) (by simp) (by simp)
theorem EF_2 {s : ej_S} (h : EF σ s) : EF2 σ s := fr_wk h (by simp) (by simp) (by simp) (by simp) (by simp)
theorem tn_DF {s : ej_S} {r : Int32} {f : Nat} {l : List Nat} (hf : f < 4) (h : TX σ (tn r f) l) (p : DF2 σ s) : TX s (tn r f) l := by
  have := (tn_lt (r := r) hf).1
  exact TX_fr h p (tn_no hf) (by simp; omega)
theorem RTX_EF {s : ej_S} {f : Nat} {l : List Nat} (h : RTX σ f l) (p : EF2 σ s) : RTX s f l := RTX_fr h p (by simp) (by simp)
theorem Kp_tr {a b c : ej_S} (h : Kp a b) (g : Kp b c) : Kp a c := ⟨g.1.trans h.1, g.2.trans h.2⟩
theorem s_draw {r : Int32} (hn : 2000 < n) (hs : ∀ f, f < 4 → snd n (fs f)) (hT : ∀ f, f < 4 → TX σc (tn r f) (fs f)) (hR : ∀ f, f < 4 → RTX σr f (fs f)) (hw : RW σr) (hm : MR true σc σr) (hb : gI σr 6 = nI 1) (k k2 : Nat) : ∃ σc' σr', m10_drawMap_16 n (k + 4) r (nI 0) σc = m10_drawMap_16 n k r (nI 4) σc' ∧ m11_rebuilds_109 n (k2 + 4) (nI 0) σr = m11_rebuilds_109 n k2 (nI 4) σr' ∧ MR true σc' σr' ∧ DF σc σc' ∧ EF σr σr' ∧ (∀ f, f < 4 → gA σc' 10 f = gA σr' 2 f) ∧ Kp σc σc' := by
  obtain ⟨c1, r1, a1, b1, m1, p1, q1, x1, y1, k1, _⟩ := s_draw1 (r := r) hn (f := 0) (by omega) (hs 0 (by omega)) (hT 0 (by omega)) (hR 0 (by omega)) hw hm hb (k + 3) (k2 + 3)
  have w1 : RW r1 := RW_fr hw q1 (by simp) (by simp)
  have h1 : gI r1 6 = nI 1 := by rw [q1.1 6 (by simp)]; exact hb
  obtain ⟨c2, r2, a2, b2, m2, p2, q2, x2, y2, k2', _⟩ := s_draw1 (r := r) hn (f := 1) (by omega) (hs 1 (by omega)) (tn_DF (by omega) (hT 1 (by omega)) (DF_2 p1)) (RTX_EF (hR 1 (by omega)) (EF_2 q1)) w1 m1 h1 (k + 2) (k2 + 2)
  have p12 : DF σc c2 := fr_tr p1 p2
  have q12 : EF σr r2 := fr_tr q1 q2
  have w2 : RW r2 := RW_fr hw q12 (by simp) (by simp)
  have h2 : gI r2 6 = nI 1 := by rw [q12.1 6 (by simp)]; exact hb
  obtain ⟨c3, r3, a3, b3, m3, p3, q3, x3, y3, k3, _⟩ := s_draw1 (r := r) hn (f := 2) (by omega) (hs 2 (by omega)) (tn_DF (by omega) (hT 2 (by omega)) (DF_2 p12)) (RTX_EF (hR 2 (by omega)) (EF_2 q12)) w2 m2 h2 (k + 1) (k2 + 1)
  have p13 : DF σc c3 := fr_tr p12 p3
  have q13 : EF σr r3 := fr_tr q12 q3
  have w3 : RW r3 := RW_fr hw q13 (by simp) (by simp)
  have h3 : gI r3 6 = nI 1 := by rw [q13.1 6 (by simp)]; exact hb
  obtain ⟨c4, r4, a4, b4, m4, p4, q4, x4, y4, k4, _⟩ := s_draw1 (r := r) hn (f := 3) (by omega) (hs 3 (by omega)) (tn_DF (by omega) (hT 3 (by omega)) (DF_2 p13)) (RTX_EF (hR 3 (by omega)) (EF_2 q13)) w3 m3 h3 k k2
  refine ⟨c4, r4, (a1.trans a2).trans (a3.trans a4), (b1.trans b2).trans (b3.trans b4), m4, fr_tr p13 p4, fr_tr q13 q4, ?_, Kp_tr (Kp_tr k1 k2') (Kp_tr k3 k4)⟩
  intro f hf
  rcases (show f = 0 ∨ f = 1 ∨ f = 2 ∨ f = 3 by omega) with z | z | z | z
  · subst z; rw [(y4 0 (by omega)).1, (y3 0 (by omega)).1, (y2 0 (by omega)).1, (y4 0 (by omega)).2, (y3 0 (by omega)).2, (y2 0 (by omega)).2]; exact x1
  · subst z; rw [(y4 1 (by omega)).1, (y3 1 (by omega)).1, (y4 1 (by omega)).2, (y3 1 (by omega)).2]; exact x2
  · subst z; rw [(y4 2 (by omega)).1, (y4 2 (by omega)).2]; exact x3
  · subst z; exact x4
/-- how a map that is drawn stands to one that is rebuilt -/
def DRN (n : Nat) (r : Int32) (σc σc' σr' : ej_S) : Prop := DF2 σc σc' ∧ gI σc' 34 = nI 0 ∧ gI σc' 35 = nI 0 ∧ (∀ f, f < 4 → gA σc' 10 f = gA σr' 2 f) ∧ ((gI σr' 16 = nI 0 ∧ m10_drawMap n r σc = some (nI 1, σc') ∧ relC σc' σr' ∧ Kp σc σc') ∨ (gI σr' 16 = nI 1 ∧ m10_drawMap n r σc = some (nI 0, σc') ∧ gI σc' 10 = nI 6 ∧ gI σc' 11 = gI σc 0))
theorem s_rebuild1 {r : Int32} (hn : 200000000000000 < n) (hs : ∀ f, f < 4 → snd n (fs f)) (hT : ∀ f, f < 4 → TX σc (tn r f) (fs f)) (hR : ∀ f, f < 4 → RTX σr f (fs f)) (hw : RW σr) : ∃ σc' σr', m11_rebuilds n σr = some σr' ∧ EF2 σr σr' ∧ gI σr' 6 = nI 0 ∧ wfR σr' ∧ SOL σr' ∧ DRN n r σc σc' σr' := by
  have f34 : fr [34, 35] [] [] [] [] σc (uI (uI σc 34 (nI 0)) 35 (nI 0)) := fr_uI (fr_uI fr_rf (by simp)) (by simp)
  obtain ⟨c1, e1, f1, g1, h1⟩ := x_clearM (n := n) (σ := uI (uI σc 34 (nI 0)) 35 (nI 0)) (by omega)
  have F1 : DF2 σc c1 := fr_tr (fr_wk f34 (by simp) (by simp) (by simp) (by simp) (by simp)) (fr_wk f1 (by simp) (by simp) (by simp) (by simp) (by simp))
  have K1 : Kp σc c1 := ⟨by rw [f1.1 10 (by simp), f34.1 10 (by simp)], by rw [f1.1 11 (by simp), f34.1 11 (by simp)]⟩
  obtain ⟨r1, e2, f2, g2, g3, g4, g5, g6⟩ := r_reb0 (n := n) (σ := σr) (by omega)
  have F2 : EF2 σr r1 := fr_wk f2 (by simp) (by simp) (by simp) (by simp) (by simp)
  have M1 : MR true c1 r1 := MR_ini g1 h1 g2 g3 g5 g6
  obtain ⟨m, hm⟩ : ∃ m, n = m + 1 + 4 := ⟨n - 5, by omega⟩
  obtain ⟨c2, r2, a1, b1, m1, p1, q1, x1, k1⟩ := s_draw (n := n) (r := r) (fs := fs) (by omega) hs (fun f hf => tn_DF hf (hT f hf) F1) (fun f hf => RTX_EF (hR f hf) F2) (RW_fr hw F2 (by simp) (by simp)) M1 g4 (m + 1) (m + 1)
  have K2 : Kp σc c2 := Kp_tr K1 k1
  have P2 : DF2 σc c2 := fr_tr F1 (DF_2 p1)
  have Q2 : EF2 σr r2 := fr_tr F2 (EF_2 q1)
  rw [← hm] at a1 b1
  have hcM : m10_drawMap n r σc = m10_drawMap_16 n (m + 1) r (nI 4) c2 := by
    unfold m10_drawMap m9_forget
    simp only [ej_nm_e, ej_bv_s, L_0]
    rw [e1, ej_bv_s]
    exact a1
  have hrM : m11_rebuilds n σr = m11_rebuilds_109 n (m + 1) (nI 4) r2 := e2.trans b1
  have f6 : fr [6] [] [] [] [] r2 (uI r2 6 (nI 0)) := fr_uI fr_rf (by simp)
  obtain ⟨_, hm2⟩ := m1
  obtain ⟨w2, rel2, cr2⟩ := hm2 rfl
  have w3 : wfR (uI r2 6 (nI 0)) := wfR_fr w2 f6 (by simp) (by simp) (by simp) (by simp) (by simp) (by simp) (by simp) (by simp)
  obtain ⟨r4, e4, f4, s4⟩ := r_solves hn w3
  have w4 : wfR r4 := wfR_fr w3 f4 (by simp) (by simp) (by simp) (by simp) (by simp) (by simp) (by simp) (by simp)
  have F64 : fr [6] [] [21, 22, 23, 24, 25, 26] [] [] r2 r4 := fr_tr (fr_wk f6 (by simp) (by simp) (by simp) (by simp) (by simp)) (fr_wk f4 (by simp) (by simp) (by simp) (by simp) (by simp))
  have hrE : m11_rebuilds n σr = some r4 := by
    rw [hrM, u_11_rebuilds_109, L_4, ile_t (Nat.le_refl _) (by omega), L_0, ej_nm_e, e4, ej_bv_s]
  have E4 : EF2 σr r4 := fr_tr Q2 (fr_wk F64 (by simp) (by simp) (by simp) (by simp) (by simp))
  have c34 : gI c2 34 = nI 0 := by rw [p1.1 34 (by simp), f1.1 34 (by simp), s_II_n (by omega), s_II_s]
  have c35 : gI c2 35 = nI 0 := by rw [p1.1 35 (by simp), f1.1 35 (by simp), s_II_s]
  have c0 : gI c2 0 = gI σc 0 := P2.1 0 (by simp)
  have hcE : m10_drawMap n r σc = (if ej_bz (gI c2 23) = nI 0 then some (nI 1, c2) else some (nI 0, uI (uI c2 10 (nI 6)) 11 (gI c2 0))) := by
    rw [hcM, u_10_drawMap_16, L_4, ile_t (Nat.le_refl _) (by omega)]
    unfold m0_isCrowded m7_length m1_tell
    simp only [ej_bi_s, ej_nm_e, L_0, L_1, L_6, if_true]
  have f16 : gI r4 16 = gI r2 16 := F64.1 16 (by simp)
  rcases wfR_fl w2 with z | z
  · have hrel := rel2 z
    refine ⟨c2, r4, hrE, E4, by rw [f4.1 6 (by simp), s_II_s], w4, s4, P2, c34, c35, fun f hf => by rw [F64.2.2.1 2 (by simp)]; exact x1 f hf, .inl ⟨f16.trans z, ?_, ?_, K2⟩⟩
    · rw [hcE, hrel.2.1, bz_n0, if_pos rfl]
    · exact relC_frr hrel F64 (by simp) (by simp) (by simp) (by simp) (by simp) (by simp) (by simp) (by simp) (by simp) (by simp) (by simp) (by simp)
  · have hcr := cr2 z
    have ft : fr [10, 11] [] [] [] [] c2 (uI (uI c2 10 (nI 6)) 11 (gI c2 0)) := fr_uI (fr_uI fr_rf (by simp)) (by simp)
    refine ⟨uI (uI c2 10 (nI 6)) 11 (gI c2 0), r4, hrE, E4, by rw [f4.1 6 (by simp), s_II_s], w4, s4, fr_tr P2 (fr_wk ft (by simp) (by simp) (by simp) (by simp) (by simp)), by rw [ft.1 34 (by simp)]; exact c34, by rw [ft.1 35 (by simp)]; exact c35, fun f hf => by rw [F64.2.2.1 2 (by simp), ft.2.2.1 10 (by simp)]; exact x1 f hf, .inr ⟨f16.trans z, ?_, ?_, ?_⟩⟩
    · rw [hcE, hcr.1, bz_n1, if_neg n10]
    · rw [s_II_n (by omega), s_II_s]
    · rw [s_II_s]; exact c0
theorem s_rebuild {r0 : Int32} (hn : 200000000000000 < n) (hs : ∀ f, f < 4 → snd n (fs f)) (hT : ∀ f, f < 4 → TX σc (tn r0 f) (fs f)) (hR : ∀ f, f < 4 → RTX σr f (fs f)) (hw : RW σr) : ∃ σr', m11_rebuilds n σr = some σr' ∧ EF2 σr σr' ∧ gI σr' 6 = nI 0 ∧ wfR σr' ∧ SOL σr' ∧ ∀ r σ, (∀ f, f < 4 → TX σ (tn r f) (fs f)) → ∃ σ', DRN n r σ σ' σr' := by
  obtain ⟨_, σr', e1, e2, e3, e4, e5, _⟩ := s_rebuild1 hn hs hT hR hw
  refine ⟨σr', e1, e2, e3, e4, e5, fun r σ h => ?_⟩
  obtain ⟨σ', s', g1, _, _, _, _, g2⟩ := s_rebuild1 (r := r) hn hs h hR hw
  rw [e1] at g1
  cases g1
  exact ⟨σ', g2⟩
end P95b
