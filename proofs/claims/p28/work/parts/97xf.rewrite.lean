/-! AN ADDRESS REWRITTEN -/
section P97xf
variable {n v h0 h1 : Nat} {σ0 σr c τ : ej_S} {fs : Nat → List Nat} {ot : List Nat} {T : Nat → Nat} {D rt : Nat → Nat}
/-- the out then -/
noncomputable def ro (σ : ej_S) (L : List St) (D rt : Nat → Nat) (v : Nat) : List Nat := match rtN L D v with
  | none => ad v
  | some i => plw (pg σ (e_ns L) rt) (D (4 * i) % 1024) ++ [45, 57, 33, 37]
theorem CX_nd (h : CX σ0 τ T h0 h1) : (e_ns (e_L T h0 h1 12)).Nodup ∧ ∀ v ∈ e_ns (e_L T h0 h1 12), v < 10 := ⟨h.2.1.2.1, h.2.1.2.2.2⟩
theorem a_rewrite (hn : 2000 < n) (h : CX σ0 τ T h0 h1) (hX : WXX σ0 D) (hv : v < 10) (hp : ∀ i, rtN (e_L T h0 h1 12) D v = some i → RT0 σ0 D i rt) : ∀ c, IQ n fs σ0 (ad v) ot c → ∃ c', IQ n fs σ0 [] (ro σ0 (e_L T h0 h1 12) D rt v) c' ∧ ∀ τ' : ej_S, ej_lc (m10_rewrite n c) ((c, τ') : lw_S) = some (nI (ro σ0 (e_L T h0 h1 12) D rt v).length, ((c', τ') : lw_S)) := by
  intro c hc
  have hw := (IQ_0 hc).1
  have hs := (IQ_0 hc).2
  obtain ⟨σr, hI, q, hR, hT, hx⟩ := hc
  obtain ⟨fs', tp', ot', hM, hO⟩ := id hI
  have htp : tp' = ad v := RTX_one hO.2.1 hT
  subst htp
  obtain ⟨s, a1, a2, a3, a4, a5⟩ := s_find hn hM
  have w2 : WR s (uI σr 19 (nI 0)) := WR_frr a4 (fr_wk f19 (by simp) (by simp) (by simp) (by simp) (by simp))
  have O1 := IOS_f (v := nI 0) hO a2
  have q1 : QMP σ0 (uI σr 19 (nI 0)) := QMP_tr q (QMP_fr f19 (by decide) (by decide) (by decide) (by decide))
  have hM1 := MP_ms h.2.2 q1.1
  have hnd := CX_nd h
  have S1 := SD_QMP hX.1 q1
  have hN0 := hNm_of w2.1
  have er := r_rw_25 hn w2 hN0 O1.1 O1.2.1 n 0 (Nat.zero_le _) (show 6 - 0 < n by omega)
  have er' : m11_rewrite_25 n n (nI 6) (nI 0) zm (nI 0) (nI 0) (nI 0) (uI σr 19 (nI 0)) = xr n 6 (uI σr 19 (nI 0)) (lk n (uI σr 19 (nI 0)) (ad v) 6) := er
  have lk6 := lk_ad (n := n) hn w2 O1.1 O1.2.1 hM1 hnd S1 hX.2.1 hv
  have g14 : gA (uI σr 19 (nI 0)) 1 4 = nI 6 := O1.2.1.1
  have eY0 : m11_rewrite n σr = xr n 6 (uI σr 19 (nI 0)) ((rtN (e_L T h0 h1 12) D v).map (fun i => (nI i, 0, 1))) := by
    unfold m11_rewrite
    rw [ej_nm_e, L_0, L_4, ck_t (by omega) (by omega), ej_nm_e, nI_clamp (by omega), L_m1, g14, er', lk6]
  have e0 : ∀ x : List Nat, ([] : List Nat) ++ x = x := fun x => List.nil_append x
  have fin : ∀ (l : List Nat) (t : ej_S), m11_rewrite n σr = some (nI l.length, uA t 1 4 (nI 0)) → fr [17, 18, 19] [] [27, 28] [] [] σr t → RX t l → ∃ c', IQ n fs σ0 [] l c' ∧ ∀ τ' : ej_S, ej_lc (m10_rewrite n c) ((c, τ') : lw_S) = some (nI l.length, ((c', τ') : lw_S)) := by
    intro l t e F r
    obtain ⟨c', x1, x2⟩ := ST2_get (c_rewrite hn hI) e
    obtain ⟨r4, r5⟩ := RTX_0 (σ := t) (fs := fs) (fun f hf => RTX_fr (hR f hf) F (by simp) (by simp))
    have F2 : fr [] [] [1] [] [] t (uA t 1 4 (nI 0)) := fr_uA fr_rf (by simp)
    exact ⟨c', ⟨_, x2, QMP_tr q (QMP_tr (QMP_fr F (by decide) (by decide) (by decide) (by decide)) (QMP_fr F2 (by decide) (by decide) (by decide) (by decide))), r5, r4, RX_fr r F2 (by simp) (by simp)⟩, fun τ' => by rw [x1]; rfl⟩
  have f3 : fr [18, 19] [] [] [] [] σr (uI (uI σr 19 (nI 0)) 18 (nI 0)) := fr_uI (fr_uI fr_rf (by simp)) (by simp)
  have f18 : fr [18] [] [] [] [] (uI σr 19 (nI 0)) (uI (uI σr 19 (nI 0)) 18 (nI 0)) := fr_uI fr_rf (by simp)
  have hT2 : RTX (uI (uI σr 19 (nI 0)) 18 (nI 0)) 4 (ad v) := RTX_fr hT f3 (by simp) (by simp)
  unfold ro
  cases eR : rtN (e_L T h0 h1 12) D v with
  | none =>
    obtain ⟨t, b1, b2, b3⟩ := r_putsTape (n := n) hn RX_0 hT2 (e := 6) (i := 0) (show 6 ≤ 6 by omega) (Nat.zero_le _) (by show 0 + (6 - 0) ≤ 4000; omega)
    have b2' : RX t (ad v) := b2
    refine fin (ad v) t ?_ (fr_tr (fr_wk f3 (by simp) (by simp) (by simp) (by simp) (by simp)) (fr_wk b3 (by simp) (by simp) (by simp) (by simp) (by simp))) b2'
    rw [eY0, eR]
    show ej_bv (m11_putsTape n (nI 0) (nI 6) (uI (uI σr 19 (nI 0)) 18 (nI 0))) _ = _
    rw [b1, ej_bv_s, L_4, ck_t (by omega) (by omega), ej_nm_e, s_IA, b2'.1]
  | some i =>
    have hpi := hp i eR
    obtain ⟨ei, fa⟩ := rtN_some eR
    have hi : i < NN σ0 := by rw [CX_NN h]; exact (e_ix_some ei).1
    have h24 := NN_le hw
    have q3 : QMP σ0 (uI (uI σr 19 (nI 0)) 18 (nI 0)) := QMP_tr q (QMP_fr f3 (by decide) (by decide) (by decide) (by decide))
    have S3 := SD_QMP hX.1 q3
    obtain ⟨s1, l1, f1, u1, u2⟩ := r_lays (n := n) hn S3 hX.2.1 (show i < 24 by omega) (RT0_QMP hpi q3)
    have q1' : QMP σ0 s1 := QMP_tr q3 (QMP_fr f1 (by decide) (by decide) (by decide) (by decide))
    have R1 := RCr_of hX hpi (RT_kd h hX hw hs hpi) u1 u2 (QMP_NN q1') (q1'.2.2.2 26 (by simp))
    have w1 : wfR s1 := wfR_QMP hw q1'
    obtain ⟨ll, rr⟩ := lft_lw h hX hw hs hpi (D (4 * i) % 1024) (Nat.le_refl _)
    have l23 := hpi.2.2.2
    have len := plw_len (g := pg σ0 (e_ns (e_L T h0 h1 12)) rt) (D (4 * i) % 1024)
    have r0 : RX s1 [] := RX_fr RX_0 f1 (by simp) (by simp)
    obtain ⟨s2, k1, k2, k3⟩ := r_putsLeft (n := n) hn R1 (hNm_of w1) r0 (by rw [(lft_QMP q1' rt _).1, ll]; show 0 + _ ≤ 4000; omega)
    rw [e0, (lft_QMP q1' rt _).1, ll] at k2
    have q2 : QMP σ0 s2 := QMP_tr q1' (QMP_fr k3 (by decide) (by decide) (by decide) (by decide))
    have w2' : wfR s2 := wfR_QMP hw q2
    have nl := r_nameLength (n := n) (σ := s2) (a := i) hn (hNm_of w2') (by rw [QMP_NN q2]; exact hi)
    have eB : gB s2 1 i = lN (97 + v) := by
      rw [q2.1.2.2.1, (h.2.2.2.2.1 i (e_ix_some ei).1).1, (e_ix_some ei).2]
    rw [eB, (nL_let hv).2] at nl
    have hT3 : RTX s2 4 (ad v) := RTX_fr (RTX_fr hT2 f1 (by simp) (by simp)) k3 (by simp) (by simp)
    obtain ⟨s3, m1, m2, m3⟩ := r_putsTape (n := n) hn k2 hT3 (e := 6) (i := 2) (show 6 ≤ 6 by omega) (by omega) (by omega)
    have m2' : RX s3 (plw (pg σ0 (e_ns (e_L T h0 h1 12)) rt) (D (4 * i) % 1024) ++ [45, 57, 33, 37]) := m2
    have f23 := fr_tr k3 m3
    have q4 : QMP σ0 s3 := QMP_tr q1' (QMP_fr f23 (by decide) (by decide) (by decide) (by decide))
    obtain ⟨s4, d1, d2, d3⟩ := r_putsRight (n := n) hn (RCr_fr R1 f23 (by simp) (by simp) (by simp) (by simp)) (hNm_of (wfR_QMP hw q4)) m2' (by rw [(lft_QMP q4 rt _).2, rr, List.length_append]; show _ + 4 + 0 ≤ 4000; omega)
    rw [(lft_QMP q4 rt _).2, rr, List.append_nil] at d2
    have F : fr [17, 18, 19] [] [27, 28] [] [] σr s4 := fr_tr (fr_wk f3 (by simp) (by simp) (by simp) (by simp) (by simp)) (fr_tr (fr_wk f1 (by simp) (by simp) (by simp) (by simp) (by simp)) (fr_wk (fr_tr f23 d3) (by simp) (by simp) (by simp) (by simp) (by simp)))
    refine fin _ s4 ?_ F d2
    rw [eY0, eR]
    show ej_bv (m11_lays n (nI i) (uI (uI σr 19 (nI 0)) 18 (nI 0))) _ = _
    rw [l1, ej_bv_s, k1, ej_bv_s, nl, ej_bi_s, pk_sub (Nat.zero_le _), ile_t (show 1 - 0 ≤ ([97 + v] : List Nat).length from Nat.le_refl _) (show ([97 + v] : List Nat).length < 2 ^ 31 by show 1 < _; omega)]
    unfold m11_rewrite_164
    rw [L_1, nI_add, m1, ej_bv_s, d1, ej_bv_s, L_4, ck_t (by omega) (by omega), L_0, nI_clamp (by omega), ej_nm_e, s_IA, d2.1]
end P97xf
