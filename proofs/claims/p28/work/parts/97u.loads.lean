/-! FILES LOADED AND DROPPED, a home set -/
section P97u
variable {n f v : Nat} {σ σ0 c τ : ej_S} {fs : Nat → List Nat} {LL : Nat → List St} {tp ot : List Nat} {L Ls : List St}
/-- what is known of the map while the law runs -/
def MF (fs : Nat → List Nat) (LL : Nat → List St) (σ0 : ej_S) : Prop := MP σ0 (LA LL) ∧ (∀ f, f < 4 → gA σ0 2 f = nI (LL f).length) ∧ ∀ f, f < 4 → txt (fs f) (LL f)
def lsu (LL : Nat → List St) (f : Nat) (Ls : List St) : Nat → List St := fun g => if g = f then Ls else LL g
theorem txt_u (h : ∀ f, f < 4 → txt (fs f) (LL f)) {l : List Nat} (hl : txt l Ls) : ∀ h, h < 4 → txt (fsu fs f l h) (lsu LL f Ls h) := by
  intro g hg
  unfold fsu lsu
  by_cases z : g = f
  · rw [if_pos z, if_pos z]; exact hl
  · rw [if_neg z, if_neg z]; exact h g hg
theorem a_load (hn : 200000000000000 < n) (hf : f < 4) (hF : MF fs LL σ0) (ht : txt tp Ls) : ∀ c, IQ n fs σ0 tp ot c → ∃ c' σ1, IQ n (fsu fs f tp) σ1 [] ot c' ∧ (∀ τ : ej_S, mL_act n 1 0 (nI f) ((c, τ) : lw_S) = some (nI Ls.length, ((c', τ) : lw_S))) ∧ MF (fsu fs f tp) (lsu LL f Ls) σ1 ∧ gJ σ1 1 = gJ σ0 1 := by
  intro c ⟨σr, hI, q, hR, hT, hx⟩
  obtain ⟨_, _, _, hM, _⟩ := id hI
  have h6 : gI σr 6 = nI 0 := hM.2.2.2.2.1
  have hT19 : RTX (uI σr 19 (nI 0)) 4 tp := RTX_fr hT f19 (by simp) (by simp)
  obtain ⟨s7, e7, b7, e8, F7⟩ := R_read (n := n) (g := 4) (f := 0) (m := false) (σ0 := uI σr 19 (nI 0)) (X := []) (L := []) (by omega) (by omega) hT19 ht ⟨by rw [s_II_n (by omega)]; exact h6, ms_rf⟩
  have Q7 : fr [0, 1, 2, 3, 4, 5, 8, 9, 10, 13, 14, 15, 16, 19] [0] [5, 6, 7, 8, 9, 10, 11, 12, 13, 14, 15, 16, 17, 18, 19, 20] [1] [] σr s7 := fr_tr (fr_wk (f19 (v := nI 0)) (by simp) (by simp) (by simp) (by simp) (by simp)) (fr_wk F7 (by simp) (by simp) (by simp) (by simp) (by simp))
  have R7 : ∀ h, h < 4 → RTX s7 h (fs h) := fun h hh => RTX_fr (hR h hh) Q7 (by simp) (by simp)
  have R74 : RTX s7 4 tp := RTX_fr hT Q7 (by simp) (by simp)
  have hLf := (R7 f hf).2.1
  have h600 := hT.2.1
  have h1f : gA s7 1 f = nI (fs f).length := (R7 f hf).1
  obtain ⟨s8, t1, t2, t3, _⟩ := t_9 (n := n) (f := f) (L := (fs f).length) hf hLf n 0 s7 (Nat.zero_le _) (by omega)
  have h814 : gA s8 1 4 = nI tp.length := by rw [t2.2.2.1 1 (by simp)]; exact R74.1
  obtain ⟨s9, u1, u2, u3, u4⟩ := t_40 (n := n) (f := f) (L := (fs f).length) (T := tp.length) hf h600 n 0 s8 (Nat.zero_le _) (by omega) h814
  have e0 : ∀ i, i < 3000 → gA s8 0 i = gA s7 0 i := fun i _ => by rw [t2.2.2.1 0 (by simp)]
  have hRB : ∀ h, h < 4 → RTX (uA s9 1 f (nI tp.length)) h (fsu fs f tp h) := by
    intro h hh
    by_cases z : h = f
    · subst z; rw [fsu_s]
      exact RTX_set hh s9 h600 hT.2.2.2 (fun i hi => by rw [u3 i (Nat.zero_le _) hi, e0 _ (by omega)]; exact R74.2.2.1 i hi)
    · rw [fsu_n z]
      exact RTX_oth (R7 h hh) z (fun i hi => by rw [u4 _ (by omega), e0 _ (by omega)]) (by rw [u2.2.2.1 1 (by simp), t2.2.2.1 1 (by simp)])
  have hTF := txt_u (f := f) hF.2.2 ht
  obtain ⟨t, m1, m2, m3, m4⟩ := R_map (n := n) hn hRB hTF
  have h16 : gI t 16 = nI 0 := m2.2.1
  have QT : fr [0, 1, 2, 3, 4, 5, 6, 7, 8, 9, 10, 13, 14, 15, 16, 19] [0] [0, 1, 2, 3, 5, 6, 7, 8, 9, 10, 11, 12, 13, 14, 15, 16, 17, 18, 19, 20, 21, 22, 23, 24, 25, 26] [1] [] σr t := fr_tr (fr_uA (fr_tr (fr_tr (fr_wk Q7 (by simp) (by simp) (by simp) (by simp) (by simp)) (fr_wk t2 (by simp) (by simp) (by simp) (by simp) (by simp))) (fr_wk u2 (by simp) (by simp) (by simp) (by simp) (by simp))) (by simp)) (fr_wk m4 (by simp) (by simp) (by simp) (by simp) (by simp))
  have RTt : ∀ h, h < 4 → RTX (uI (uI t 11 (nI 0)) 12 (nI 0)) h (fsu fs f tp h) := fun h hh => RTX_fr (RTX_EF (hRB h hh) m4) (show fr [11, 12] [] [] [] [] t (uI (uI t 11 (nI 0)) 12 (nI 0)) from fr_uI (fr_uI fr_rf (by simp)) (by simp)) (by simp) (by simp)
  obtain ⟨r4, r5⟩ := RTX_0 RTt
  have F9 : fr [11, 12, 19] [] [1] [] [] t (uI (uA (uI (uI t 11 (nI 0)) 12 (nI 0)) 1 4 (nI 0)) 19 (nI 0)) := fr_uI (fr_uA (fr_uI (fr_uI fr_rf (by simp)) (by simp)) (by simp)) (by simp)
  have qt : QMP t (uI (uA (uI (uI t 11 (nI 0)) 12 (nI 0)) 1 4 (nI 0)) 19 (nI 0)) := QMP_fr F9 (by decide) (by decide) (by decide) (by decide)
  have eY : m11_load n (nI f) σr = some (nI Ls.length, uI (uA (uI (uI t 11 (nI 0)) 12 (nI 0)) 1 4 (nI 0)) 19 (nI 0)) := by
    unfold m11_load m11_load_13
    have eF : m11_isFile n (nI f) σr = some (nI 1, σr) := by
      unfold m11_isFile
      rw [v_isIn, L_0, L_3, L_1, ej_bi_s, ilt_f (Nat.zero_le _) (by omega), ilt_f (by omega) (by omega), bz_n1]
    rw [eF, ej_bi_s, L_0, if_neg n10, goes_0, ej_bi_s, if_neg n10, L_4, e7, ej_bi_s, if_neg n10]
    have eT : m11_isTaken n (nI f) s7 = some (nI 1, t) := by
      unfold m11_isTaken
      rw [ck_t (show f < 5 by omega) (by omega), nI_clamp (by omega), ej_nm_e, h1f, L_0, t1, u1, m1, ej_bv_s, if_pos h16]
    rw [eT, ej_bi_s]
    unfold m11_load_44
    rw [tells_t, ej_bv_s, L_0, if_neg n10, goes_0, ej_bi_s, if_neg n10, ck_t hf (by omega), nI_clamp (by omega)]
    have e2 : gA (uI (uA (uI (uI t 11 (nI 0)) 12 (nI 0)) 1 4 (nI 0)) 19 (nI 0)) 2 = gA t 2 := F9.2.2.1 2 (by simp)
    rw [e2, m3 f hf]
    unfold lsu
    rw [if_pos rfl]
  obtain ⟨c', x1, x2⟩ := (G_load (k_load hn hI (nI f)) eY).1 s_II_s
  refine ⟨c', t, ⟨_, x2, qt, fun h hh => RTX_fr (r5 h hh) f19 (by simp) (by simp), RTX_fr r4 f19 (by simp) (by simp), RX_fr hx (fr_tr (fr_wk QT (by simp) (by simp) (by simp) (by simp) (by simp)) (fr_wk F9 (I' := [0, 1, 2, 3, 4, 5, 6, 7, 8, 9, 10, 11, 12, 13, 14, 15, 16, 19]) (J' := [0]) (A' := [0, 1, 2, 3, 5, 6, 7, 8, 9, 10, 11, 12, 13, 14, 15, 16, 17, 18, 19, 20, 21, 22, 23, 24, 25, 26]) (B' := [1]) (M' := []) (by simp) (by simp) (by simp) (by simp) (by simp))) (by simp) (by simp)⟩, fun τ => ?_, ⟨m2, m3, hTF⟩, by rw [QT.2.1 1 (by simp)]; exact q.2.1⟩
  unfold mL_act
  rw [if_neg (by decide), if_pos rfl]
  show ej_bw (ej_lcx (m10_load n (nI f) c) (c, τ)) _ _ = _
  rw [x1]; rfl
theorem add_nd10 {X : List Nat} {w : Nat} (h : X.Nodup ∧ ∀ v ∈ X, v < 10) (hw : w < 10) : (e_add X w).Nodup ∧ ∀ v ∈ e_add X w, v < 10 := by
  unfold e_add
  split
  · exact h
  · rename_i z
    refine ⟨?_, fun v hv => ?_⟩
    · rw [List.nodup_append]
      exact ⟨h.1, by simp, fun x hx y hy => by rw [List.mem_singleton.mp hy]; exact fun e => z (e ▸ hx)⟩
    · rcases List.mem_append.mp hv with y | y
      · exact h.2 v y
      · rw [List.mem_singleton.mp y]; exact hw
theorem adds_nd : ∀ (W X : List Nat), (X.Nodup ∧ ∀ v ∈ X, v < 10) → (∀ w ∈ W, w < 10) → (W.foldl e_add X).Nodup ∧ ∀ v ∈ W.foldl e_add X, v < 10
  | [], _, h, _ => h
  | w :: W, X, h, hw => adds_nd W (e_add X w) (add_nd10 h (hw w List.mem_cons_self)) (fun x hx => hw x (List.mem_cons_of_mem _ hx))
theorem ns_nd : ∀ (Ls : List St) (X : List Nat), (X.Nodup ∧ ∀ v ∈ X, v < 10) → (∀ s ∈ Ls, gst s) → (nmf X Ls).Nodup ∧ ∀ v ∈ nmf X Ls, v < 10
  | [], _, h, _ => h
  | s :: Ls, X, h, hg => ns_nd Ls _ (adds_nd _ X h (fun w hw => by
      obtain ⟨_, ha, hb, hc, _⟩ := hg s List.mem_cons_self
      have hw2 : w ∈ [e_a s, e_b s, e_c s] := List.mem_of_mem_take hw
      simp only [List.mem_cons, List.not_mem_nil, or_false] at hw2
      rcases hw2 with z | z | z <;> omega)) (fun t ht => hg t (List.mem_cons_of_mem _ ht))
theorem LA_g (h : ∀ f, f < 4 → txt (fs f) (LL f)) : ∀ s ∈ LA LL, gst s := by
  intro s hs
  have key : ∀ f, f < 4 → s ∈ LL f → gst s := fun f hf z => (h f hf).2.1 s z
  unfold LA at hs
  rcases List.mem_append.mp hs with z | z
  · rcases List.mem_append.mp z with z | z
    · rcases List.mem_append.mp z with z | z
      · exact key 0 (by omega) z
      · exact key 1 (by omega) z
    · exact key 2 (by omega) z
  · exact key 3 (by omega) z
theorem MF_nd (hF : MF fs LL σ0) : (e_ns (LA LL)).Nodup ∧ ∀ v ∈ e_ns (LA LL), v < 10 := ns_nd (LA LL) [] ⟨List.nodup_nil, fun v hv => by cases hv⟩ (LA_g hF.2.2)
theorem hm_mp (h : MP σ L) (hnd : (e_ns L).Nodup ∧ ∀ v ∈ e_ns L, v < 10) (hv : v < 10) (hJ : gJ σ 1 = lN (97 + v)) : hmN σ (e_ix (e_ns L) v) := by
  have h10 := nd_len 10 _ hnd.1 hnd.2
  have hN := MP_NN h h10
  cases hx : e_ix (e_ns L) v with
  | none =>
    intro i hi ⟨q1, _⟩
    rw [(h.2.2.1 i (by omega)).1, hJ] at q1
    have := let_inj (hnd.2 _ (gD_mem (by omega))) hv q1
    exact e_ix_none hx (this ▸ gD_mem (by omega))
  | some i =>
    obtain ⟨i1, i2⟩ := e_ix_some hx
    have q := h.2.2.1 i i1
    exact ⟨by omega, by rw [q.1, i2, hJ], q.2.1⟩
theorem MF_QMP (hF : MF fs LL σ0) {s : ej_S} (F : fr [0, 1, 2, 3, 4, 5, 6, 7, 8, 9, 10, 11, 12, 13, 14, 17, 18, 19] [0, 1] [0, 1, 3, 4, 5, 6, 7, 8, 9, 10, 21, 22, 23, 24, 25, 26, 27, 28] [0] [] σ0 s) : MF fs LL s := by
  obtain ⟨h1, h2, h3⟩ := hF
  refine ⟨?_, fun f hf => by rw [F.2.2.1 2 (by simp)]; exact h2 f hf, h3⟩
  unfold MP at *
  rw [F.1 15 (by simp), F.1 16 (by simp), F.2.2.2.1 1 (by simp), F.2.2.1 11 (by simp), F.2.2.1 12 (by simp), F.2.2.1 13 (by simp), F.2.2.1 14 (by simp), F.2.2.1 15 (by simp), F.2.2.1 16 (by simp), F.2.2.1 17 (by simp), F.2.2.1 18 (by simp), F.2.2.1 19 (by simp), F.2.2.1 20 (by simp)]
  exact h1
theorem MP_ms (h : MP σ L) {s : ej_S} (m : ms σ s) : MP s L := by
  obtain ⟨g1, g2, g3, g4, g5, g6, g7, g8, g9, g10, g11, g12, g13⟩ := m
  unfold MP at *
  rw [g1, g2, g3, g4, g5, g6, g7, g8, g9, g10]
  obtain ⟨h1, h2, h3, h4⟩ := h
  refine ⟨h1, h2, fun a ha => ?_, fun a b ha hb => ?_⟩
  · obtain ⟨k1, k2, k3, k4, k5, k6⟩ := h3 a ha
    exact ⟨k1, k2, k3, k4, by rw [← k5]; exact not_congr (g11 a), (g12 a).mpr k6⟩
  · obtain ⟨k1, k2, k3, k4⟩ := h4 a b ha hb
    exact ⟨k1, k2, fun ab => by rw [← k3 ab]; exact not_congr (g13 _), k4⟩
theorem MF_q (hF : MF fs LL σ0) {s : ej_S} (q : QMP σ0 s) : MF fs LL s := ⟨MP_ms hF.1 q.1, fun f hf => by rw [q.2.2.2 2 (by simp)]; exact hF.2.1 f hf, hF.2.2⟩
theorem a_drop (hn : 200000000000000 < n) (hf : f < 4) (hF : MF fs LL σ0) : ∀ c, IQ n fs σ0 tp ot c → ∃ c' σ1, IQ n (fsu fs f []) σ1 tp ot c' ∧ (∀ τ : ej_S, mL_act n 2 0 (nI f) ((c, τ) : lw_S) = some (nI (LL f).length, ((c', τ) : lw_S))) ∧ MF (fsu fs f []) (lsu LL f []) σ1 ∧ gJ σ1 1 = gJ σ0 1 := by
  intro c ⟨σr, hI, q, hR, hT, hx⟩
  have q0 : fr [19] [] [] [] [] σr (uI σr 19 (nI 0)) := f19
  have q1 : fr [19] [] [1] [] [] σr (uA (uI σr 19 (nI 0)) 1 f (nI 0)) := fr_uA (fr_wk q0 (by simp) (by simp) (by simp) (by simp) (by simp)) (by simp)
  have hR1 : ∀ h, h < 4 → RTX (uA (uI σr 19 (nI 0)) 1 f (nI 0)) h (fsu fs f [] h) := by
    intro h hh
    by_cases z : h = f
    · subst z; rw [fsu_s]
      exact ⟨by rw [s_AA_s, pk_us]; rfl, Nat.zero_le _, fun i hi => absurd hi (Nat.not_lt_zero i), fun b hb => by cases hb⟩
    · rw [fsu_n z]
      exact RTX_oth (hR h hh) z (fun i hi => by rw [s_AI]) (by rw [s_AI])
  have hR4 : RTX (uA (uI σr 19 (nI 0)) 1 f (nI 0)) 4 tp := RTX_oth hT (by omega) (fun i hi => by rw [s_AI]) (by rw [s_AI])
  have hTF := txt_u (f := f) hF.2.2 (show txt [] [] from ⟨rfl, fun s h => (by cases h), Nat.zero_le _⟩)
  obtain ⟨t, m1, m2, m3, m4⟩ := R_map (n := n) hn hR1 hTF
  have Q : fr [0, 1, 2, 3, 4, 5, 6, 7, 8, 9, 10, 13, 14, 15, 16, 19] [0] [1, 2, 5, 6, 7, 8, 9, 10, 11, 12, 13, 14, 15, 16, 17, 18, 19, 20, 21, 22, 23, 24, 25, 26] [1] [] σr t := fr_tr (fr_wk q1 (by simp) (by simp) (by simp) (by simp) (by simp)) (fr_wk m4 (by simp) (by simp) (by simp) (by simp) (by simp))
  have eY : m11_drop n (nI f) σr = some (nI (LL f).length, t) := by
    unfold m11_drop m11_drop_13
    have eF : m11_isFile n (nI f) σr = some (nI 1, σr) := by
      unfold m11_isFile
      rw [v_isIn, L_0, L_3, L_1, ej_bi_s, ilt_f (Nat.zero_le _) (by omega), ilt_f (by omega) (by omega), bz_n1]
    rw [eF, ej_bi_s, L_0, if_neg n10, goes_0, ej_bi_s, if_neg n10, ck_t hf (by omega), nI_clamp (by omega), ej_nm_e, ck_t (show f < 5 by omega) (by omega), ej_nm_e, m1, ej_bv_s, s_AI, q.2.2.2 2 (by simp), hF.2.1 f hf]
  obtain ⟨c', x1, x2⟩ := (G_one (k_drop hn hI (nI f)) eY).1 (by rw [m4.1 19 (by simp), s_IA, s_II_s])
  refine ⟨c', t, ⟨t, x2, QMP_rf, fun h hh => RTX_EF (hR1 h hh) m4, RTX_EF hR4 m4, RX_fr hx Q (by simp) (by simp)⟩, fun τ => ?_, ⟨m2, m3, hTF⟩, by rw [Q.2.1 1 (by simp)]; exact q.2.1⟩
  unfold mL_act
  rw [if_neg (by decide), if_neg (by decide), if_pos rfl]
  show ej_bw (ej_lcx (m10_drop n (nI f) c) (c, τ)) _ _ = _
  rw [x1]; rfl
/-- a letter on the tape -/
theorem asN_let (hv : v < 10) : asN [97 + v] = 97 + v := by
  have e := nm_np hv
  have e2 : isNS (97 + v) = true := by
    unfold isNS
    rw [decide_eq_true (show 97 ≤ 97 + v by omega), decide_eq_true (show 97 + v ≤ 122 by omega)]; rfl
  unfold asN
  rw [if_pos ⟨by simp, e2, by rw [List.all_cons, e.1]; rfl⟩, pk1]
theorem a_home2 (hn : 200000000000000 < n) (hF : MF fs LL σ0) (hv : v < 10) : ∀ c, IQ n fs σ0 [97 + v] ot c → ∃ c' σ1, IQ n fs σ1 [] ot c' ∧ (∀ τ : ej_S, mL_act n 4 0 0 ((c, τ) : lw_S) = some (oI (e_ix (e_ns (LA LL)) v), ((c', τ) : lw_S))) ∧ MF fs LL σ1 ∧ gJ σ1 1 = lN (97 + v) := by
  intro c ⟨σr, hI, q, hR, hT, hx⟩
  obtain ⟨w, _, _⟩ := INV_wf hI
  have f0 : fr [0] [] [] [] [] σr (uI σr 0 (nI 4)) := fr_uI fr_rf (by simp)
  obtain ⟨r4, r5⟩ := RTX_0 (σ := uI σr 0 (nI 4)) (fs := fs) (fun f hf => RTX_fr (hR f hf) f0 (by simp) (by simp))
  have F1 : fr [0, 19] [1] [1] [] [] σr (uJ (uI (uA (uI σr 0 (nI 4)) 1 4 (nI 0)) 19 (nI 0)) 1 (lN (97 + v))) := fr_uJ (fr_uI (fr_uA (fr_uI fr_rf (by simp)) (by simp)) (by simp)) (by simp)
  have f8 : fr [19] [1] [] [] [] (uA (uI σr 0 (nI 4)) 1 4 (nI 0)) (uJ (uI (uA (uI σr 0 (nI 4)) 1 4 (nI 0)) 19 (nI 0)) 1 (lN (97 + v))) := fr_uJ (fr_uI fr_rf (by simp)) (by simp)
  have w1 := wfR_ms w (ms_f3 F1 (by decide))
  obtain ⟨t, e1, F2, _⟩ := r_solves (n := n) hn w1
  have F12 : fr [0, 19] [1] [1, 21, 22, 23, 24, 25, 26] [] [] σr t := fr_tr (fr_wk F1 (by simp) (by simp) (by simp) (by simp) (by simp)) (fr_wk F2 (by simp) (by simp) (by simp) (by simp) (by simp))
  have w2 := wfR_ms w1 (ms_f3 F2 (by decide))
  have eJ : gJ t 1 = lN (97 + v) := by rw [F2.2.1 1 (by simp), s_JJ_s]
  have hFr := MF_q hF q
  have hFt : MF fs LL t := MF_QMP hFr (fr_wk F12 (by simp) (by simp) (by simp) (by simp) (by simp))
  have ho := hm_mp hFt.1 (MF_nd hF) hv eJ
  have eH : m11_homeNode n t = some (oI (e_ix (e_ns (LA LL)) v), t) := by
    rcases r_homeNode (n := n) (show 2000 < n by omega) w2 with ⟨b1, b2⟩ | ⟨h, b1, b2⟩
    · rw [b2]
      cases ex : e_ix (e_ns (LA LL)) v with
      | none => rfl
      | some k => rw [ex] at ho; exact absurd ⟨ho.2.1, ho.2.2⟩ (b1 k ho.1)
    · rw [b2]
      cases ex : e_ix (e_ns (LA LL)) v with
      | none => rw [ex] at ho; exact absurd ⟨b1.2.1, b1.2.2⟩ (ho h b1.1)
      | some k =>
        rw [ex] at ho
        obtain ⟨N, h0, h15, _, _, _, w3, _⟩ := id w2
        have hN := NN_eq h15 h0
        have e : h = k := uni_eq w3 (by rw [← hN]; exact b1.1) (by rw [← hN]; exact ho.1) ⟨b1.2.1, b1.2.2⟩ ⟨ho.2.1, ho.2.2⟩
        rw [e]; rfl
  have eY : m11_setHome n σr = some (oI (e_ix (e_ns (LA LL)) v), t) := by
    unfold m11_setHome m11_setHome_24
    rw [r_taped (by omega) hT, ej_bl_s, L_4, ck_t (by omega) (by omega), nI_clamp (by omega), ej_nm_e, asN_let hv, if_neg (fun z => by
      have := (cmp_eq _ _).mp z
      have z0 : lN (97 + v) = lN 0 := this
      have := (fb_lN_inj (show 97 + v < 2 ^ 63 by omega) (by omega)).mp z0
      omega), L_0, goes_0, ej_bi_s, if_neg n10, ej_nm_e, e1, ej_bv_s, eH, ej_bi_s]
  obtain ⟨c', x1, x2⟩ := (G_one (k_setHome hn hI) eY).1 (by rw [F2.1 19 (by simp), s_IJ, s_II_s])
  have RF : ∀ g l, RTX (uA (uI σr 0 (nI 4)) 1 4 (nI 0)) g l → RTX t g l := fun g l h => RTX_fr (RTX_fr h f8 (by simp) (by simp)) F2 (by simp) (by simp)
  refine ⟨c', t, ⟨t, x2, QMP_rf, fun h hh => RF h _ (r5 h hh), RF 4 _ r4, RX_fr hx F12 (by simp) (by simp)⟩, fun τ => ?_, hFt, eJ⟩
  unfold mL_act
  rw [if_neg (by decide), if_neg (by decide), if_neg (by decide), if_neg (by decide)]
  show ej_bw (ej_lcx (m10_setHome n c) (c, τ)) _ _ = _
  rw [x1]; rfl
/-- no name on the tape -/
theorem a_noHome (hn : 200000000000000 < n) : ∀ c, IQ n fs σ0 [] ot c → ∃ c', IQ n fs σ0 [] ot c' ∧ ∀ τ : ej_S, mL_act n 4 0 0 ((c, τ) : lw_S) = some (-1182, ((c', τ) : lw_S)) := by
  intro c ⟨σr, hI, q, hR, hT, hx⟩
  have f0 : fr [0] [] [] [] [] σr (uI σr 0 (nI 4)) := fr_uI fr_rf (by simp)
  obtain ⟨r4, r5⟩ := RTX_0 (σ := uI σr 0 (nI 4)) (fs := fs) (fun f hf => RTX_fr (hR f hf) f0 (by simp) (by simp))
  have F1 : fr [0, 19] [] [1] [] [] σr (uI (uA (uI σr 0 (nI 4)) 1 4 (nI 0)) 19 (nI 1)) := fr_uI (fr_uA (fr_uI fr_rf (by simp)) (by simp)) (by simp)
  have eY : m11_setHome n σr = some (nI 0, uI (uA (uI σr 0 (nI 4)) 1 4 (nI 0)) 19 (nI 1)) := by
    unfold m11_setHome m11_setHome_24
    rw [r_taped (by omega) hT, ej_bl_s, L_4, ck_t (by omega) (by omega), nI_clamp (by omega), ej_nm_e, if_pos (show lg_cmp (lN (asN [])) 0 = 0 by decide +kernel), L_1, L_0, goes_1, ej_bi_s, if_pos rfl]
  obtain ⟨c', x1, x2⟩ := (G_one (k_setHome hn hI) eY).2 s_II_s
  refine ⟨c', ⟨_, x2, QMP_tr q (QMP_fr F1 (by decide) (by decide) (by decide) (by decide)), fun h hh => RTX_fr (r5 h hh) f19 (by simp) (by simp), RTX_fr r4 f19 (by simp) (by simp), RX_fr hx F1 (by simp) (by simp)⟩, fun τ => ?_⟩
  unfold mL_act
  rw [if_neg (by decide), if_neg (by decide), if_neg (by decide), if_neg (by decide)]
  show ej_bw (ej_lcx (m10_setHome n c) (c, τ)) _ _ = _
  rw [x1]; rfl
theorem a_look0 (hn : 2000 < n) : ∀ c, IQ n fs σ0 [32] ot c → ∃ c', IQ n fs σ0 [] ot c' ∧ ∀ τ : ej_S, ej_lc (m10_lookUp n c) ((c, τ) : lw_S) = some (zm, ((c', τ) : lw_S)) := by
  intro c ⟨σr, hI, q, hR, hT, hx⟩
  have f0 : fr [0, 19] [] [] [] [] σr (uI (uI σr 19 (nI 0)) 0 (nI 4)) := fr_uI (fr_uI fr_rf (by simp)) (by simp)
  obtain ⟨r4, r5⟩ := RTX_0 (σ := uI (uI σr 19 (nI 0)) 0 (nI 4)) (fs := fs) (fun f hf => RTX_fr (hR f hf) f0 (by simp) (by simp))
  have F1 : fr [0, 19] [] [1] [] [] σr (uA (uI (uI σr 19 (nI 0)) 0 (nI 4)) 1 4 (nI 0)) := fr_uA (fr_uI (fr_uI fr_rf (by simp)) (by simp)) (by simp)
  obtain ⟨c', x1, x2⟩ := ST2_get (c_lookUp hn hI) (show m11_lookUp n σr = some (zm, uA (uI (uI σr 19 (nI 0)) 0 (nI 4)) 1 4 (nI 0)) by
    unfold m11_lookUp
    rw [L_0, ej_nm_e, r_taped hn (RTX_fr hT f19 (by simp) (by simp)), ej_bl_s, L_4, ck_t (by omega) (by omega), nI_clamp (by omega), ej_nm_e, ← L_0, if_pos (show lg_cmp (lN (asN [32])) 0 = 0 by decide +kernel)]
    rfl)
  exact ⟨c', ⟨_, x2, QMP_tr q (QMP_fr F1 (by decide) (by decide) (by decide) (by decide)), r5, r4, RX_fr hx F1 (by simp) (by simp)⟩, fun τ => by rw [x1]; rfl⟩
/-- a file that there is not -/
theorem a_loadNo {x : Int32} (hn : 200000000000000 < n) (hx' : x < nI 0 ∨ nI 3 < x) : ∀ c, IQ n fs σ0 tp ot c → ∃ c', IQ n fs σ0 [] ot c' ∧ ∀ τ : ej_S, mL_act n 1 0 x ((c, τ) : lw_S) = some (-1181, ((c', τ) : lw_S)) := by
  intro c ⟨σr, hI, q, hR, hT, hx⟩
  obtain ⟨r4, r5⟩ := RTX_0 (σ := uI σr 19 (nI 1)) (fs := fs) (fun f hf => RTX_fr (hR f hf) f19 (by simp) (by simp))
  have F1 : fr [19] [] [1] [] [] σr (uA (uI σr 19 (nI 1)) 1 4 (nI 0)) := fr_uA (fr_uI fr_rf (by simp)) (by simp)
  have eF : m11_isFile n x σr = some (nI 0, σr) := by
    unfold m11_isFile
    rw [v_isIn, L_0, L_3, L_1, ej_bi_s]
    rcases hx' with z | z
    · rw [if_pos z, bz_n0]
    · by_cases y : x < nI 0
      · rw [if_pos y, bz_n0]
      · rw [if_neg y, if_pos z, bz_n0]
  have eY : m11_load n x σr = some (nI 0, uA (uI σr 19 (nI 1)) 1 4 (nI 0)) := by
    unfold m11_load m11_load_13
    rw [eF, ej_bi_s, L_0, if_pos rfl, L_1, goes_1, ej_bi_s, if_pos rfl, L_4, ck_t (by omega) (by omega), nI_clamp (by omega), ej_nm_e]
  obtain ⟨c', x1, x2⟩ := (G_load (k_load hn hI x) eY).2.1 (by rw [s_IA, s_II_s])
  refine ⟨c', ⟨_, x2, QMP_tr q (QMP_fr F1 (by decide) (by decide) (by decide) (by decide)), r5, r4, RX_fr hx F1 (by simp) (by simp)⟩, fun τ => ?_⟩
  unfold mL_act
  rw [if_neg (by decide), if_pos rfl]
  show ej_bw (ej_lcx (m10_load n x c) (c, τ)) _ _ = _
  rw [x1]; rfl
theorem a_dropNo {x : Int32} (hn : 200000000000000 < n) (hx' : x < nI 0 ∨ nI 3 < x) : ∀ c, IQ n fs σ0 tp ot c → ∃ c', IQ n fs σ0 tp ot c' ∧ ∀ τ : ej_S, mL_act n 2 0 x ((c, τ) : lw_S) = some (-1181, ((c', τ) : lw_S)) := by
  intro c ⟨σr, hI, q, hR, hT, hx⟩
  have eF : m11_isFile n x σr = some (nI 0, σr) := by
    unfold m11_isFile
    rw [v_isIn, L_0, L_3, L_1, ej_bi_s]
    rcases hx' with z | z
    · rw [if_pos z, bz_n0]
    · by_cases y : x < nI 0
      · rw [if_pos y, bz_n0]
      · rw [if_neg y, if_pos z, bz_n0]
  have eY : m11_drop n x σr = some (nI 0, uI σr 19 (nI 1)) := by
    unfold m11_drop m11_drop_13
    rw [eF, ej_bi_s, L_0, if_pos rfl, L_1, goes_1, ej_bi_s, if_pos rfl]
  obtain ⟨c', x1, x2⟩ := (G_one (k_drop hn hI x) eY).2 s_II_s
  refine ⟨c', IQ_mk x2 q f19 (by decide) hR hT hx, fun τ => ?_⟩
  unfold mL_act
  rw [if_neg (by decide), if_neg (by decide), if_pos rfl]
  show ej_bw (ej_lcx (m10_drop n x c) (c, τ)) _ _ = _
  rw [x1]; rfl
end P97u
