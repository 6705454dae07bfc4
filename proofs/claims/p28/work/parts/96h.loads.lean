/-! THE CALLS, one by one: load -/
section P96h
variable {n a f : Nat} {σ σc σr σc' σr' s : ej_S} {fs : Nat → List Nat} {tp ot : List Nat} {g : Nat → Int64}
theorem Ed_ms (m : ms σ s) (h21 : gA s 21 = gA σ 21) : Ed s = Ed σ := by
  obtain ⟨g1, g2, g3, g4, g5, g6, g7, g8, g9, g10, g11, g12, g13⟩ := id m
  have e1 : ∀ a b k, scost s a b k = scost σ a b k := fun a b k => scost_mq (mq_ms m) (by rw [h21])
  have e2 : ∀ a b k, mkN s a b k = mkN σ a b k := by
    intro a b k
    unfold mkN
    rw [g8, g6]
  have e3 : ∀ a b k, outB s a b k = outB σ a b k := by
    intro a b k
    unfold outB
    rw [g3]
  have e4 : ∀ a t b k, sbN s a t b k = sbN σ a t b k := by
    intro a t b k
    unfold sbN
    rw [e2, e3]
  have e5 : ∀ a t b k, addN s a t b k = addN σ a t b k := by
    intro a t b k
    unfold addN
    rw [e2]
  funext u k v w
  unfold Ed
  simp only [e1, e4, e5]
theorem SOL_ms (h : SOL σ) (m : ms σ s) (hJ : gJ s 1 = gJ σ 1) (h21 : gA s 21 = gA σ 21) (h23 : gA s 23 = gA σ 23) (h24 : gA s 24 = gA σ 24) (h25 : gA s 25 = gA σ 25) (h26 : gA s 26 = gA σ 26) : SOL s := by
  obtain ⟨g1, g2, g3, g4, g5, g6, g7, g8, g9, g10, g11, g12, g13⟩ := id m
  have hN : NN s = NN σ := by unfold NN; rw [g1]
  unfold SOL at *
  rw [h21, h23, h24, h25, h26, Ed_ms m h21]
  rcases h with ⟨z1, z2, z3⟩ | ⟨h, T, D, z1, z2, z3, z4⟩
  · refine .inl ⟨?_, z2, z3⟩
    unfold homeless at *
    rw [hN, g3, g4, hJ]; exact z1
  · refine .inr ⟨h, T, D, ?_, (nn_mq (mq_ms m)).mpr z2, fun a b ha hb => by rw [Xs_mq (mq_ms m)]; exact z3 a b ha hb, z4⟩
    unfold homeAt at *
    rw [hN, g3, g4, hJ]; exact z1
theorem relC_ms (h : relC σc σ) (m : ms σ s) : relC σc s := by
  obtain ⟨g1, g2, g3, g4, g5, g6, g7, g8, g9, g10, g11, g12, g13⟩ := m
  have hN : NN s = NN σ := by unfold NN; rw [g1]
  unfold relC at *
  rw [hN, g1, g3, g4, g5, g6, g7, g8, g9, g10]
  obtain ⟨h1, h2, h3, h4, h5, h6, h7, h8, h9, h10, h11, h12, h13⟩ := h
  refine ⟨h1, h2, h3, h4, h5, h6, h7, fun a ha => ?_, fun a ha => ?_, h10, h11, fun a b ha hb => ?_, h13⟩
  · rw [h8 a ha]; exact not_congr (g12 a).symm
  · rw [h9 a ha]; exact not_congr (g11 a).symm
  · rw [h12 a b ha hb]; exact not_congr (g13 _).symm
theorem wfR_ms (h : wfR σ) (m : ms σ s) : wfR s := by
  obtain ⟨g1, g2, g3, g4, g5, g6, g7, g8, g9, g10, g11, g12, g13⟩ := m
  unfold wfR at *
  rw [g1, g2, g3, g4, g5, g7, g9, g10]
  exact h
theorem MAPI_ms (h : MAPI n fs σc σr) (m : ms σr s) (q : fr [0, 1, 2, 3, 4, 5, 8, 9, 10, 13, 14, 15, 16] [0] [5, 6, 7, 8, 9, 10, 11, 12, 13, 14, 15, 16, 17, 18, 19, 20] [1] [] σr s) : MAPI n fs σc s := by
  obtain ⟨h1, h2, h3, h4, h5, h6, h7, h8, h9, h10, h11, h12⟩ := h
  refine ⟨h1, fun f hf => RTX_fr (h2 f hf) q (by simp) (by simp), h3, RW_fr h4 q (by simp) (by simp), by rw [q.1 6 (by simp)]; exact h5, by rw [m.2.1]; exact h6, by rw [q.2.1 1 (by simp)]; exact h7, fun f hf => by rw [q.2.2.1 2 (by simp)]; exact h8 f hf, ⟨wfR_ms h9.1 m, relC_ms h9.2 m⟩, SOL_ms h10 m (q.2.1 1 (by simp)) (q.2.2.1 21 (by simp)) (q.2.2.1 23 (by simp)) (q.2.2.1 24 (by simp)) (q.2.2.1 25 (by simp)) (q.2.2.1 26 (by simp)), ?_, fun σ hσ => ?_⟩
  · unfold WYS wayRel at *
    rw [q.2.2.1 21 (by simp), q.2.2.1 23 (by simp), q.2.2.1 24 (by simp), q.2.2.1 25 (by simp), q.2.2.1 26 (by simp)]
    exact h11
  · obtain ⟨σ', a1, a2, a3, a4, a5, a6, a7⟩ := h12 σ hσ
    exact ⟨σ', a1, a2, a3, fun f hf => by rw [q.2.2.1 2 (by simp)]; exact a4 f hf, a5, relC_ms a6 m, a7⟩
theorem x_draw0 (hn : 2000 < n) (r : Int32) : ∃ c1, m10_drawMap n r σc = m10_drawMap_16 n n r (nI 0) c1 ∧ DF2 σc c1 ∧ wfC c1 := by
  have f34 : fr [34, 35] [] [] [] [] σc (uI (uI σc 34 (nI 0)) 35 (nI 0)) := fr_uI (fr_uI fr_rf (by simp)) (by simp)
  obtain ⟨c1, e1, f1, g1, h1⟩ := x_clearM (n := n) (σ := uI (uI σc 34 (nI 0)) 35 (nI 0)) (by omega)
  refine ⟨c1, ?_, fr_tr (fr_wk f34 (by simp) (by simp) (by simp) (by simp) (by simp)) (fr_wk f1 (by simp) (by simp) (by simp) (by simp) (by simp)), ⟨0, by omega, g1.1⟩⟩
  unfold m10_drawMap m9_forget
  simp only [ej_nm_e, ej_bv_s, L_0]
  rw [e1, ej_bv_s]
theorem x_draw1 (hn : 2000 < n) (hf : f < 4) {r : Int32} {l : List Nat} (hs : snd n l) (hT : TX σc (tn r f) l) (hw : wfC σc) (k : Nat) : ∃ σc', m10_drawMap_16 n (k + 1) r (nI f) σc = m10_drawMap_16 n k r (nI (f + 1)) σc' ∧ DF σc σc' ∧ wfC σc' := by
  obtain ⟨t1, t2⟩ := tn_lt (r := r) hf
  obtain ⟨σ, s', fl, h1, h2, h3, h4, h5⟩ := hs
  obtain ⟨ok, σ1, σr', e1, e2, p1, _, _, _, g1, _⟩ := s_read (b := false) hn hf t1 t2 hT h2 h1 h3 ⟨hw, fun z => by cases z⟩ h4 (fun z => by cases z)
  rw [e2] at h5
  have hok : ok = true := by
    cases ok
    · exact absurd (congrArg Prod.fst (Option.some.inj h5)) n01
    · rfl
  subst hok
  obtain ⟨g2, cnt, hcnt, g3, g4⟩ := g1 rfl
  have P : fr [] [] [10] [] [] σ1 (uA σ1 10 f (nI cnt)) := fr_uA fr_rf (by simp)
  refine ⟨uA σ1 10 f (nI cnt), ?_, fr_uA (fr_wk p1 (by simp) (by simp) (by simp) (by simp) (by simp)) (by simp), ?_⟩
  · have key : ∀ F, m10_drawMap_43 n F r (nI f) (tn r f) σc = F r (nI (f + 1)) (uA σ1 10 f (nI cnt)) := by
      intro F
      unfold m10_drawMap_43 m4_statements
      rw [e1, ej_bi_s, L_0, bI_t, if_neg n10, ej_bi_s, ck_t hf (by omega), ej_nm_e, nI_clamp (by omega), g3, L_1, nI_add, ej_nm_e]
    rw [u_10_drawMap_16, L_4, ile_f hf (by omega)]
    by_cases h : nI f = r
    · rw [if_pos h]
      have h0 : tn r f = 0 := if_pos h
      rw [h0] at key
      exact key _
    · rw [if_neg h, ck_t hf (by omega), nI_clamp (by omega)]
      have h0 : tn r f = 2 + f := if_neg h
      rw [h0] at key
      exact key _
  · obtain ⟨N, hN, h22⟩ := g2.1
    exact ⟨N, hN, by rw [P.1 22 (by simp)]; exact h22⟩
theorem x_draws {r : Int32} (hn : 2000 < n) : ∀ (j : Nat), j ≤ 4 → (∀ h, h < j → snd n (fs h)) → (∀ h, h < j → TX σc (tn r h) (fs h)) → wfC σc → ∀ k, ∃ σc', m10_drawMap_16 n (k + j) r (nI 0) σc = m10_drawMap_16 n k r (nI j) σc' ∧ DF σc σc' ∧ wfC σc' := by
  intro j
  induction j with
  | zero => intro _ _ _ hw k; exact ⟨σc, rfl, fr_rf, hw⟩
  | succ j ih =>
    intro hj hs hT hw k
    obtain ⟨c1, e1, f1, w1⟩ := ih (by omega) (fun h hh => hs h (by omega)) (fun h hh => hT h (by omega)) hw (k + 1)
    obtain ⟨c2, e2, f2, w2⟩ := x_draw1 (r := r) hn (show j < 4 by omega) (hs j (by omega)) (tn_DF (by omega) (hT j (by omega)) (DF_2 f1)) w1 k
    refine ⟨c2, ?_, fr_tr f1 f2, w2⟩
    rw [← e2, ← e1]
    congr 1
    omega
/-- a text with a fault is found by both -/
theorem x_drawF (hn : 2000 < n) (hf : f < 4) (hs : ∀ h, h < 4 → snd n (fs h)) (hT : ∀ h, h < 4 → TX σc (2 + h) (fs h)) (hT0 : TX σc 0 tp) (hR : RTX σr 4 tp) (hw : RW σr) (h6 : gI σr 6 = nI 0) {s7 : ej_S} (e7 : m11_isRead n (nI 4) σr = some (nI 0, s7)) : ∃ c2, m10_drawMap n (nI f) σc = some (nI 0, c2) ∧ DF2 σc c2 ∧ gI c2 10 = gI s7 9 ∧ gI c2 11 = gI s7 10 := by
  obtain ⟨c1, e1, f1, w1⟩ := x_draw0 (σc := σc) hn (nI f)
  obtain ⟨m, hm⟩ : ∃ m, n = m + 1 + f := ⟨n - 1 - f, by omega⟩
  obtain ⟨c2, e2, f2, w2⟩ := x_draws (r := nI f) (fs := fs) (σc := c1) hn f (by omega) (fun h hh => hs h (by omega)) (fun h hh => by rw [tn_n hf (by omega) (by omega)]; exact TX_fr (hT h (by omega)) f1 (by simp; omega) (by simp; omega)) w1 (m + 1)
  rw [← hm] at e2
  have T2 : TX c2 0 tp := TX_fr (TX_fr hT0 f1 (by simp) (by simp)) f2 (by simp) (by simp)
  obtain ⟨ok, c3, s3, a1, a2, a3, _, _, _, _, a4⟩ := s_read (b := false) hn hf (t1 := 0) (by omega) (by omega) T2 hR (show 4 < 5 by omega) hw ⟨w2, fun z => by cases z⟩ h6 (fun z => by cases z)
  rw [e7] at a2
  have hok : ok = false := by
    cases ok
    · rfl
    · exact absurd (congrArg Prod.fst (Option.some.inj a2)) n01
  subst hok
  cases a2
  obtain ⟨k, p, k1, k2, k3, k4, _⟩ := a4 rfl
  refine ⟨c3, ?_, fr_tr (fr_tr f1 (DF_2 f2)) (fr_wk a3 (by simp) (by simp) (by simp) (by simp) (by simp)), k1.trans k2.symm, k3.trans k4.symm⟩
  rw [e1, e2, u_10_drawMap_16, L_4, ile_f hf (by omega), if_pos rfl]
  unfold m10_drawMap_43
  rw [a1, ej_bi_s, L_0, bI_f, if_pos rfl]
theorem c_load (hn : 200000000000000 < n) (h : INV n σc σr) (x : Int32) : STEP n σr (mW_load n x (σc, σr, g)) (m11_load n x σr) := by
  obtain ⟨fs, tp, ot, hM, hO⟩ := h
  unfold mW_load m11_load m10_load
  obtain ⟨m1, m2, m3, m4, m5, m6, m7, m8, m9, m10, m11, m12⟩ := id hM
  obtain ⟨o1, o2, o3, o4, o5, o6⟩ := id hO
  have h600 := o2.2.1
  have q19 : ∀ v, fr [19] [] [] [] [] σr (uI σr 19 v) := fun v => f19
  rcases s_file (n := n) (σc := σc) (σr := σr) x with ⟨f, hf, rfl, e1, e2⟩ | ⟨e1, e2⟩
  · have pA : fr [10, 11] [] [] [] [] σc (uI (uI σc 10 (nI 0)) 11 (nI 0)) := fr_uI (fr_uI fr_rf (by simp)) (by simp)
    have TA0 : TX (uI (uI σc 10 (nI 0)) 11 (nI 0)) 0 tp := TX_fr o1 pA (by simp) (by simp)
    have TA : ∀ h, h < 4 → TX (uI (uI σc 10 (nI 0)) 11 (nI 0)) (2 + h) (fs h) := fun h hh => TX_fr (m1 h hh) pA (by simp; omega) (by simp)
    have wA : wfC (uI (uI σc 10 (nI 0)) 11 (nI 0)) := ⟨NN σr, (W_N m9).1, by rw [pA.1 22 (by simp)]; exact (W_N m9).2⟩
    have R5 : RTX (uI σr 19 (nI 0)) 4 tp := RTX_fr o2 (q19 _) (by simp) (by simp)
    have W5 : RW (uI σr 19 (nI 0)) := RW_fr m4 (q19 _) (by simp) (by simp)
    have h56 : gI (uI σr 19 (nI 0)) 6 = nI 0 := by rw [s_II_n (by omega)]; exact m5
    obtain ⟨ok, c0, s7, a1, a2, a3, a4, _, a5, _, _⟩ := s_read (b := false) (n := n) (by omega) hf (t1 := 0) (by omega) (by omega) TA0 R5 (show 4 < 5 by omega) W5 ⟨wA, fun z => by cases z⟩ h56 (fun z => by cases z)
    have hms := a5 rfl
    have M5 : MAPI n fs σc (uI σr 19 (nI 0)) := MAPI_r0 hM f19 (by simp) (by simp) (by simp) (by simp)
    have Q7 : fr [0, 1, 2, 3, 4, 5, 8, 9, 10, 13, 14, 15, 16, 19] [0] [5, 6, 7, 8, 9, 10, 11, 12, 13, 14, 15, 16, 17, 18, 19, 20] [1] [] σr s7 := fr_tr (fr_wk (q19 _) (by simp) (by simp) (by simp) (by simp) (by simp)) (fr_wk a4 (by simp) (by simp) (by simp) (by simp) (by simp))
    have X7 : RX s7 ot := RX_fr o4 Q7 (by simp) (by simp)
    have eC : ∀ F : Int32 → ej_S → Option ((Int32 × ej_S) ⊕ (Nat × ej_S)), (ej_bi (m10_isFile n (nI f) σc) fun r2 s1 => (if r2 = 0 then ej_bv (m7_clear n 0 s1) fun s13 => (some (.inr (3, s13))) else ej_bv (m1_clear n s1) fun s3 => ej_bi (m10_drawMap n (nI f) s3) F)) = ej_bi (m10_drawMap n (nI f) (uI (uI σc 10 (nI 0)) 11 (nI 0))) F := by
      intro F
      unfold m1_clear
      rw [e1, ej_bi_s, L_0, if_neg n10, ej_nm_e, ej_nm_e, ej_bv_s]
    have eR : (ej_bi (m11_isFile n (nI f) σr) fun r2 s1 => (if r2 = 0 then (m11_load_13 n (nI f) 1 s1) else (m11_load_13 n (nI f) 0 s1))) = (if bI ok = nI 0 then (m11_load_44 n (nI f) (bI ok) s7) else ej_bi (m11_isTaken n (nI f) s7) fun r17 s16 => (m11_load_44 n (nI f) r17 s16)) := by
      unfold m11_load_13
      rw [e2, ej_bi_s, L_0, if_neg n10, goes_0, ej_bi_s, if_neg n10, L_4, a2, ej_bi_s]
    have bad44 : ∀ s, m11_load_44 n (nI f) (nI 0) s = some (nI 0, uI (uA (uI (uI s 11 (gI s 9)) 12 (gI s 10)) 1 4 (nI 0)) 19 (nI 2)) := by
      intro s
      unfold m11_load_44
      rw [tells_f, ej_bv_s, L_0, if_pos rfl, L_2, goes_2, ej_bi_s, if_pos rfl]
    -- the old map again
    have again : ∀ c2, DF2 (uI (uI σc 10 (nI 0)) 11 (nI 0)) c2 → ∃ c3, m10_drawMap n zm c2 = some (nI 1, c3) ∧ Kp c2 c3 ∧ DF2 c2 c3 ∧ MAPI n fs c3 σr ∧ TX c3 1 ot := by
      intro c2 hd
      have T2 : ∀ h, h < 4 → TX c2 (2 + h) (fs h) := fun h hh => TX_fr (TA h hh) hd (by simp; omega) (by simp; omega)
      obtain ⟨c3, b1, b2, b3, b4, b5, b6, b7⟩ := m12 c2 T2
      refine ⟨c3, b5, b7, b1, ⟨fun h hh => TX_fr (T2 h hh) b1 (by simp; omega) (by simp; omega), m2, m3, m4, m5, m6, by rw [b1.2.1 0 (by simp), hd.2.1 0 (by simp), pA.2.1 0 (by simp)]; exact m7, b4, ⟨m9.1, b6⟩, m10, ⟨.inl b2, .inl b3⟩, m12⟩, TX_fr (TX_fr (TX_fr o3 pA (by simp) (by simp)) hd (by simp) (by simp)) b1 (by simp) (by simp)⟩
    cases ok
    · -- a fault in the tape
      rw [bI_f] at a2
      obtain ⟨c2, b1, b2, b3, b4⟩ := x_drawF (n := n) (by omega) hf m3 TA TA0 R5 W5 h56 a2
      obtain ⟨c3, d1, d2, d3, d4, d5⟩ := again c2 b2
      obtain ⟨c4, k1, k2, k3⟩ := x_clear (n := n) (t := 0) (σ := c3)
      have M7 : MAPI n fs c4 s7 := MAPI_ms (MAPI_r0 (MAPI_c d4 (fr_wk k3 (by simp) (by simp) (by simp) (by simp) (by simp))) (q19 (nI 0)) (by simp) (by simp) (by simp) (by simp)) hms a4
      refine ST_ex (k := 2) (c := 2) (σc' := c4) (v := nI 0) ?_ (fun _ => rfl) (by rw [eR, bI_f, if_pos rfl]; exact bad44 s7) s_II_s (by omega) (INV_tape M7 k2 (TX_fr d5 k3 (by simp) (by simp)) X7 ?_ ?_)
      · show (ej_bi (m10_isFile n (nI f) σc) _) = _
        rw [eC, b1, ej_bi_s, L_0, if_pos rfl, L_m1, d1, ej_bi_s]
        unfold m10_load_63
        rw [k1, ej_bv_s, L_0, if_pos rfl]
      · rw [k3.1 10 (by simp), d2.1, b3]
      · rw [k3.1 11 (by simp), d2.2, b4]
    · -- a sound tape
      have hsT : snd n tp := ⟨_, s7, 4, by omega, R5, W5, h56, a2⟩
      have R7 : ∀ h, h < 4 → RTX s7 h (fs h) := fun h hh => RTX_fr (m2 h hh) Q7 (by simp) (by simp)
      have R74 : RTX s7 4 tp := RTX_fr o2 Q7 (by simp) (by simp)
      have hLf := (R7 f hf).2.1
      have h1f : gA s7 1 f = nI (fs f).length := (R7 f hf).1
      obtain ⟨s8, t1, t2, t3, _⟩ := t_9 (n := n) (f := f) (L := (fs f).length) hf hLf n 0 s7 (Nat.zero_le _) (by omega)
      have h814 : gA s8 1 4 = nI tp.length := by rw [t2.2.2.1 1 (by simp)]; exact R74.1
      obtain ⟨s9, u1, u2, u3, u4⟩ := t_40 (n := n) (f := f) (L := (fs f).length) (T := tp.length) hf h600 n 0 s8 (Nat.zero_le _) (by omega) h814
      have e0 : ∀ i, i < 3000 → gA s8 0 i = gA s7 0 i := fun i _ => by rw [t2.2.2.1 0 (by simp)]
      have hRB : ∀ h, h < 4 → RTX (uA s9 1 f (nI tp.length)) h (fsu fs f tp h) := by
        intro h hh
        by_cases z : h = f
        · subst z; rw [fsu_s]
          exact RTX_set hh s9 h600 o2.2.2.2 (fun i hi => by rw [u3 i (Nat.zero_le _) hi, e0 _ (by omega)]; exact R74.2.2.1 i hi)
        · rw [fsu_n z]
          exact RTX_oth (R7 h hh) z (fun i hi => by rw [u4 _ (by omega), e0 _ (by omega)]) (by rw [u2.2.2.1 1 (by simp), t2.2.2.1 1 (by simp)])
      have hRB4 : RTX (uA s9 1 f (nI tp.length)) 4 tp := RTX_oth R74 (by omega) (fun i hi => by rw [u4 _ (by omega), e0 _ (by omega)]) (by rw [u2.2.2.1 1 (by simp), t2.2.2.1 1 (by simp)])
      have QB : fr [0, 1, 2, 3, 4, 5, 8, 9, 10, 13, 14, 15, 16, 19] [0] [0, 1, 3, 5, 6, 7, 8, 9, 10, 11, 12, 13, 14, 15, 16, 17, 18, 19, 20] [1] [] σr (uA s9 1 f (nI tp.length)) := fr_uA (fr_tr (fr_tr (fr_wk Q7 (by simp) (by simp) (by simp) (by simp) (by simp)) (fr_wk t2 (by simp) (by simp) (by simp) (by simp) (by simp))) (fr_wk u2 (by simp) (by simp) (by simp) (by simp) (by simp))) (by simp)
      have WB : RW (uA s9 1 f (nI tp.length)) := RW_fr m4 QB (by simp) (by simp)
      have hsB : ∀ h, h < 4 → snd n (fsu fs f tp h) := by
        intro h hh
        by_cases z : h = f
        · subst z; rw [fsu_s]; exact hsT
        · rw [fsu_n z]; exact m3 h hh
      have TB : ∀ h, h < 4 → TX (uI (uI σc 10 (nI 0)) 11 (nI 0)) (tn (nI f) h) (fsu fs f tp h) := by
        intro h hh
        by_cases z : h = f
        · subst z; rw [fsu_s, tn_s]; exact TA0
        · rw [fsu_n z, tn_n hf hh z]; exact TA h hh
      obtain ⟨t, b1, b2, b3, b4, b5, b6⟩ := s_rebuild (n := n) hn hsB TB hRB WB
      have eT : m11_isTaken n (nI f) s7 = (if gI t 16 = nI 0 then (some (nI 1, t)) else (m11_isTaken_105 n n (nI f) (nI (fs f).length) (nI 0) t)) := by
        unfold m11_isTaken
        rw [ck_t (show f < 5 by omega) (by omega), nI_clamp (by omega), ej_nm_e, h1f, L_0, t1, u1, b1, ej_bv_s]
      have QT : fr [0, 1, 2, 3, 4, 5, 6, 7, 8, 9, 10, 13, 14, 15, 16, 19] [0] [0, 1, 2, 3, 5, 6, 7, 8, 9, 10, 11, 12, 13, 14, 15, 16, 17, 18, 19, 20, 21, 22, 23, 24, 25, 26] [1] [] σr t := fr_tr (fr_wk QB (by simp) (by simp) (by simp) (by simp) (by simp)) (fr_wk b2 (by simp) (by simp) (by simp) (by simp) (by simp))
      obtain ⟨c2, d1, d2, d3, d4, d5⟩ := b6 (nI f) _ TB
      rcases d5 with ⟨z, k1, k2, k3⟩ | ⟨z, k1, k2, k3⟩
      · -- it becomes a file
        obtain ⟨c3, v1, v2, v3⟩ := x_become (n := n) (t := 2 + f) (t1 := 0) (by omega) (by omega) (TX_fr TA0 d1 (by simp) (by simp)) (show tp.length ≤ cw_tl (2 + f) by unfold cw_tl; split <;> omega)
        obtain ⟨c4, w1, w2, w3⟩ := x_clear (n := n) (t := 0) (σ := c3)
        have P2 : DF2 σc c2 := fr_tr (fr_wk pA (by simp) (by simp) (by simp) (by simp) (by simp)) d1
        have T4 : ∀ h, h < 4 → TX c4 (2 + h) (fsu fs f tp h) := by
          intro h hh
          by_cases y : h = f
          · subst y; rw [fsu_s]; exact TX_fr v2 w3 (by simp) (by simp)
          · rw [fsu_n y]
            exact TX_fr (TX_fr (TX_fr (m1 h hh) P2 (by simp; omega) (by simp; omega)) v3 (by simp; omega) (by simp; omega)) w3 (by simp) (by simp)
        have rel4 : relC c4 t := relC_fr (relC_fr k2 v3 (by simp; omega) (by simp; omega) (by simp; omega) (by simp; omega) (by simp; omega) (by simp; omega) (by simp; omega) (by simp; omega) (by simp; omega) (by simp; omega) (by simp; omega) (by simp; omega) (by simp; omega) (by simp) (by simp) (by simp)) w3 (by simp) (by simp) (by simp) (by simp) (by simp) (by simp) (by simp) (by simp) (by simp) (by simp) (by simp) (by simp) (by simp) (by simp) (by simp) (by simp)
        have M4 : MAPI n (fsu fs f tp) c4 t := MAPI_new (c := c2) T4 (fun h hh => RTX_EF (hRB h hh) b2) hsB (RW_fr WB b2 (by simp) (by simp)) b3 z (by rw [w3.2.1 0 (by simp), v3.2.1 0 (by simp), P2.2.1 0 (by simp), QT.2.1 1 (by simp)]; exact m7) b4 b5 (by rw [w3.1 34 (by simp), v3.1 34 (by simp; omega)]; exact d2) (by rw [w3.1 35 (by simp), v3.1 35 (by simp; omega)]; exact d3) (fun h hh => by rw [w3.2.2.1 10 (by simp), v3.2.2.1 10 (by simp; omega)]; exact d4 h hh) rel4 b6
        have T41 : TX c4 1 ot := TX_fr (TX_fr (TX_fr o3 P2 (by simp) (by simp)) v3 (by simp; omega) (by simp; omega)) w3 (by simp) (by simp)
        have y10 : gI c4 10 = nI 0 := by rw [w3.1 10 (by simp), v3.1 10 (by simp; omega), k3.1, s_II_n (by omega), s_II_s]
        have y11 : gI c4 11 = nI 0 := by rw [w3.1 11 (by simp), v3.1 11 (by simp; omega), k3.2, s_II_s]
        refine ST_ok (v := gA t 2 f) (σc' := c4) ?_ ?_ s_II_s (INV_tape M4 w2 T41 (RX_fr o4 QT (by simp) (by simp)) y10 y11)
        · show (ej_bi (m10_isFile n (nI f) σc) _) = _
          rw [eC, k1, ej_bi_s, L_0, if_neg n10, ck_t hf (by omega), nI_clamp (by omega), v1, ej_bv_s]
          unfold m10_load_63
          rw [w1, ej_bv_s, L_0, if_neg n10, ck_t hf (by omega), nI_clamp (by omega), w3.2.2.1 10 (by simp), v3.2.2.1 10 (by simp; omega), d4 f hf]
        · rw [eR, bI_t, if_neg n10, eT, if_pos z, ej_bi_s]
          unfold m11_load_44
          rw [tells_t, ej_bv_s, L_0, if_neg n10, goes_0, ej_bi_s, if_neg n10, ck_t hf (by omega), nI_clamp (by omega)]
          simp (disch := omega) only [s_IJ, s_IA, s_IB, s_IM, s_JI, s_JA, s_JB, s_JM, s_AI, s_AJ, s_AB, s_AM, s_BI, s_BJ, s_BA, s_BM, s_MI, s_MJ, s_MA, s_MB, s_II_s, s_II_n, s_JJ_s, s_JJ_n, s_AA_s, s_AA_n, s_BB_s, s_BB_n, s_MM_s, s_MM_n, pk_us, pk_un, pk_uLs, pk_uLn]
      · -- too many nodes
        have hz : ¬ gI t 16 = nI 0 := by rw [z]; exact n10
        obtain ⟨s10, v1, v2, v3, v4⟩ := t_105 (n := n) (f := f) (L := (fs f).length) hf hLf n 0 t (Nat.zero_le _) (by omega)
        have ht0 : ∀ i, gA t 0 i = gA s9 0 i := fun i => by rw [b2.2.2.1 0 (by simp), s_AA_n (by omega)]
        have ht3 : ∀ i, i < (fs f).length → gA t 3 i = gA s7 0 (600 * f + i) := fun i hi => by rw [b2.2.2.1 3 (by simp), s_AA_n (by omega), u2.2.2.1 3 (by simp), t3 i (Nat.zero_le _) hi]
        have ht1 : ∀ h, h ≠ f → gA t 1 h = gA s7 1 h := fun h hne => by rw [b2.2.2.1 1 (by simp), s_AA_s, pk_un hne, u2.2.2.1 1 (by simp), t2.2.2.1 1 (by simp)]
        have hRD : ∀ h, h < 4 → RTX (uA s10 1 f (nI (fs f).length)) h (fs h) := by
          intro h hh
          by_cases y : h = f
          · subst y
            exact RTX_set hh s10 hLf (R7 h hh).2.2.2 (fun i hi => by rw [v3 i (Nat.zero_le _) hi, ht3 i hi]; exact (R7 h hh).2.2.1 i hi)
          · exact RTX_oth (R7 h hh) y (fun i hi => by rw [v4 _ (by omega), ht0, u4 _ (by omega), e0 _ (by omega)]) (by rw [v2.2.2.1 1 (by simp), ht1 h y])
        have hRD4 : RTX (uA s10 1 f (nI (fs f).length)) 4 tp := RTX_oth R74 (by omega) (fun i hi => by rw [v4 _ (by omega), ht0, u4 _ (by omega), e0 _ (by omega)]) (by rw [v2.2.2.1 1 (by simp), ht1 4 (by omega)])
        have QD : fr [0, 1, 2, 3, 4, 5, 6, 7, 8, 9, 10, 13, 14, 15, 16, 19] [0] [0, 1, 2, 3, 5, 6, 7, 8, 9, 10, 11, 12, 13, 14, 15, 16, 17, 18, 19, 20, 21, 22, 23, 24, 25, 26] [1] [] σr (uA s10 1 f (nI (fs f).length)) := fr_uA (fr_tr QT (fr_wk v2 (by simp) (by simp) (by simp) (by simp) (by simp))) (by simp)
        have WD : RW (uA s10 1 f (nI (fs f).length)) := RW_fr m4 QD (by simp) (by simp)
        have T2 : ∀ h, h < 4 → TX c2 (tn zm h) (fs h) := fun h hh => by rw [tn_zm hh]; exact TX_fr (TA h hh) d1 (by simp; omega) (by simp; omega)
        obtain ⟨t', g1, g2, g3, g4, g5, g6⟩ := s_rebuild (n := n) (r0 := zm) hn m3 T2 hRD WD
        obtain ⟨c3, j1, j2, j3, j4, j5⟩ := again c2 d1
        obtain ⟨c3', i1, i2, i3, i4, i5⟩ := g6 zm c2 T2
        rcases i5 with ⟨y, y1, y2, y3⟩ | ⟨_, y1, _⟩
        · have ec : c3' = c3 := by
            rw [j1] at y1
            exact (congrArg Prod.snd (Option.some.inj y1)).symm
          subst ec
          have QT' : fr [0, 1, 2, 3, 4, 5, 6, 7, 8, 9, 10, 13, 14, 15, 16, 19] [0] [0, 1, 2, 3, 5, 6, 7, 8, 9, 10, 11, 12, 13, 14, 15, 16, 17, 18, 19, 20, 21, 22, 23, 24, 25, 26] [1] [] σr t' := fr_tr QD (fr_wk g2 (by simp) (by simp) (by simp) (by simp) (by simp))
          obtain ⟨c4, w1, w2, w3⟩ := x_clear (n := n) (t := 0) (σ := c3')
          have M3' : MAPI n fs c3' t' := MAPI_new (c := c2) j4.1 (fun h hh => RTX_EF (hRD h hh) g2) m3 (RW_fr WD g2 (by simp) (by simp)) g3 y (by rw [QT'.2.1 1 (by simp)]; exact j4.2.2.2.2.2.2.1) g4 g5 i2 i3 i4 y2 g6
          have f9 : fr [9, 10] [] [] [] [] t' (uI (uI t' 9 (nI 6)) 10 (gA t' 1 4)) := fr_uI (fr_uI fr_rf (by simp)) (by simp)
          have M4 : MAPI n fs c4 (uI (uI t' 9 (nI 6)) 10 (gA t' 1 4)) := MAPI_r0 (MAPI_c M3' (fr_wk w3 (by simp) (by simp) (by simp) (by simp) (by simp))) f9 (by simp) (by simp) (by simp) (by simp)
          have h14 : gA t' 1 4 = nI tp.length := by rw [g2.2.2.1 1 (by simp)]; exact hRD4.1
          refine ST_ex (k := 2) (c := 2) (σc' := c4) (v := nI 0) ?_ (fun _ => rfl) ?_ s_II_s (by omega) (INV_tape M4 w2 (TX_fr j5 w3 (by simp) (by simp)) (RX_fr (RX_fr o4 QT' (by simp) (by simp)) f9 (by simp) (by simp)) (x := gI (uI (uI t' 9 (nI 6)) 10 (gA t' 1 4)) 9) (y := gI (uI (uI t' 9 (nI 6)) 10 (gA t' 1 4)) 10) ?_ ?_)
          · show (ej_bi (m10_isFile n (nI f) σc) _) = _
            rw [eC, k1, ej_bi_s, L_0, if_pos rfl, L_m1, j1, ej_bi_s]
            unfold m10_load_63
            rw [w1, ej_bv_s, L_0, if_pos rfl]
          · rw [eR, bI_t, if_neg n10, eT, if_neg hz, v1, g1, ej_bv_s, ej_bi_s]
            exact bad44 _
          · rw [w3.1 10 (by simp), y3.1, k2, s_II_n (by omega), s_II_s]
          · rw [w3.1 11 (by simp), y3.2, k3, s_II_s, h14]
            exact TA0.1
        · rw [j1] at y1
          exact absurd (congrArg Prod.fst (Option.some.inj y1)) n10
  · obtain ⟨c4, k1, k2, k3⟩ := x_clear (n := n) (t := 0) (σ := σc)
    obtain ⟨r4, r5⟩ := RTX_0 (σ := uI σr 19 (nI 1)) (fs := fs) (fun f hf => RTX_fr (m2 f hf) f19 (by simp) (by simp))
    have q2 : fr [19] [] [1] [] [] σr (uA (uI σr 19 (nI 1)) 1 4 (nI 0)) := fr_uA (fr_wk (q19 _) (by simp) (by simp) (by simp) (by simp) (by simp)) (by simp)
    have M4 : MAPI n fs c4 (uA (uI σr 19 (nI 1)) 1 4 (nI 0)) := MAPI_r (MAPI_c hM (fr_wk k3 (by simp) (by simp) (by simp) (by simp) (by simp))) (fr_wk q2 (by simp) (by simp) (by simp) (by simp) (by simp)) r5
    refine ST_ex (k := 3) (c := 1) (σc' := c4) (σr' := uA (uI σr 19 (nI 1)) 1 4 (nI 0)) (v := nI 0) ?_ (fun _ => rfl) ?_ (by rw [s_IA, s_II_s]) (by omega) ⟨fs, [], ot, M4, k2, r4, TX_fr o3 k3 (by simp) (by simp), RX_fr o4 q2 (by simp) (by simp), by rw [k3.1 10 (by simp), q2.1 11 (by simp)]; exact o5, by rw [k3.1 11 (by simp), q2.1 12 (by simp)]; exact o6⟩
    · show (ej_bi (m10_isFile n x σc) _) = _
      rw [e1, ej_bi_s, L_0, if_pos rfl, k1, ej_bv_s]
    · unfold m11_load_13
      rw [e2, ej_bi_s, L_0, if_pos rfl, L_1, goes_1, ej_bi_s, if_pos rfl, L_4, ck_t (by omega) (by omega), nI_clamp (by omega), ej_nm_e]
end P96h
