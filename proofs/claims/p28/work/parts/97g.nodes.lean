/-! THE LAW'S LOOK AT THE NODES -/
theorem let_inj {a b : Nat} (ha : a < 10) (hb : b < 10) (h : lN (97 + a) = lN (97 + b)) : a = b := by
  have := (lN_eq (show 97 + a < 2 ^ 31 by omega) (show 97 + b < 2 ^ 31 by omega)).mp h
  omega
section P97g
variable {n a b k h0 h1 v hn' : Nat} {fs : Nat → List Nat} {σ σ0 c τ : ej_S} {tp ot : List Nat} {T : Nat → Nat} {D : Nat → Nat}
/-- the home, by its name -/
theorem hm_of (h : CX σ0 τ T h0 h1) (hv : v < 10) (hJ : gJ σ0 1 = lN (97 + v)) : hmN σ0 (e_ix (e_ns (e_L T h0 h1 12)) v) := by
  have hN := CX_NN h
  cases hx : e_ix (e_ns (e_L T h0 h1 12)) v with
  | none =>
    intro i hi ⟨q1, _⟩
    rw [(h.2.2.2.2.1 i (by omega)).1, hJ] at q1
    have := let_inj (CX_b h hi) hv q1
    exact e_ix_none hx (this ▸ gD_mem (by omega))
  | some i =>
    obtain ⟨i1, i2⟩ := e_ix_some hx
    have q := h.2.2.2.2.1 i i1
    exact ⟨by omega, by rw [q.1, i2, hJ], q.2.1⟩
theorem ix_oB (X : List Nat) (h : X.length ≤ 10) (v : Nat) : oB (e_ix X v) := fun i hi => by
  have := (e_ix_some hi).1
  omega
theorem pk1 (x : Nat) : pkL [x] = x := by unfold pkL pkL; omega
theorem L_areNodes_109 (hn : 2000 < n) (f : Int32 → Int32 → Int32 → lw_S → Option (Int32 × lw_S)) (h : CX σ0 τ T h0 h1) (ha : a < NN σ0) (hb : b < NN σ0) (y x : Int32) (hc : IQ n fs σ0 tp ot c) : ∃ c', IQ n fs σ0 tp ot c' ∧ mL_areNodes_109 n f y (nI a) (nI b) x x (c, τ) = f y (nI 1) (nI (a + 1)) (c', τ) := by
  have hN := CX_NN h
  have h10 := CX_10 h
  obtain ⟨q1, q11, _⟩ := h.2.2.2.2.1 a (by omega)
  obtain ⟨p16, _, _, _, p20⟩ := h.2.2.2.2.2 a b (by omega) (by omega)
  have ex : ∀ c : ej_S, gA ((c, τ) : lw_S).2 1 a = nI ((e_ns (e_L T h0 h1 12)).getD a 0) := fun c => CX_x h ha
  have ey : ∀ c : ej_S, gA ((c, τ) : lw_S).2 1 b = nI ((e_ns (e_L T h0 h1 12)).getD b 0) := fun c => CX_x h hb
  have bx := CX_b h ha
  have byy := CX_b h hb
  obtain ⟨c1, i1, e1⟩ := a_isPrivate (n := n) (fs := fs) (tp := tp) (ot := ot) q11 ha c hc
  obtain ⟨c2, i2, e2⟩ := a_linkCost (n := n) (fs := fs) (tp := tp) (ot := ot) ha hb c1 i1
  obtain ⟨c3, i3, e3⟩ := a_memberCost (n := n) (fs := fs) (tp := tp) (ot := ot) ha hb c2 i2
  have t0 := (L_told (n := n) (c := c2) hn h.1 (show 0 < 5 by omega) (show (e_ns (e_L T h0 h1 12)).getD a 0 < 2 ^ 31 by omega) (show (e_ns (e_L T h0 h1 12)).getD b 0 < 2 ^ 31 by omega)).1
  have t2 := (L_told (n := n) (c := c3) hn h.1 (show 2 < 5 by omega) (show (e_ns (e_L T h0 h1 12)).getD b 0 < 2 ^ 31 by omega) (show (e_ns (e_L T h0 h1 12)).getD a 0 < 2 ^ 31 by omega)).1
  refine ⟨c3, i3, ?_⟩
  unfold mL_areNodes_109
  rw [if_pos rfl, e1 τ, ej_bi_s, L_0, L_1, if_pos rfl, e2 τ, ej_bi_s, ck_t (by omega) (by omega), ck_t (by omega) (by omega), nI_clamp (by omega), nI_clamp (by omega), ex, ey, t0, ej_bi_s, if_pos p16, e3 τ, ej_bi_s, ck_t (by omega) (by omega), ck_t (by omega) (by omega), ex, ey, L_2, t2, ej_bi_s, if_pos p20, nI_add, ej_nm_e]
theorem L_areNodes_35 (hn : 2000 < n) (h : CX σ0 τ T h0 h1) (hv : v < 2 ^ 30) : ∀ (fu a : Nat) (c : ej_S) (ot : List Nat), IQ n fs σ0 tp ot c → a ≤ NN σ0 → NN σ0 - a < fu → ∃ c' ot', IQ n fs σ0 tp ot' c' ∧ mL_areNodes_35 n fu (nI v) (nI 1) (nI a) (c, τ) = some (nI 1, (c', τ)) := by
  have hN := CX_NN h
  have h10 := CX_10 h
  intro fu
  induction fu with
  | zero => intro a c ot _ _ z; omega
  | succ fu ih =>
    intro a c ot hc ha hf
    have m2 : ∀ c : ej_S, gA ((c, τ) : lw_S).2 2 2 = nI (NN σ0) := fun c => CX_m2 h
    rw [u_L_areNodes_35, L_2, ck_t (by omega) (by omega), nI_clamp (by omega), m2]
    rcases Nat.eq_or_lt_of_le ha with rfl | q
    · rw [ile_t (Nat.le_refl _) (by omega), bz_n1]
      exact ⟨c, ot, hc, rfl⟩
    · have hw := (IQ_0 hc).1
      have bx := CX_b h q
      have q1 := (h.2.2.2.2.1 a (by omega)).1
      have enl : nL (gB σ0 1 a) = [97 + (e_ns (e_L T h0 h1 12)).getD a 0] := by rw [q1]; exact (nL_let bx).2
      obtain ⟨c1, i1, e1⟩ := a_name (n := n) (fs := fs) (tp := tp) (ot := ot) hn hw q c hc
      rw [enl] at i1 e1
      obtain ⟨c2, i2, e2⟩ := a_word (n := n) (fs := fs) (σ0 := σ0) (tp := tp) (w := 0) hn (by omega) c1 i1
      obtain ⟨c3, i3, e3⟩ := a_kind (n := n) (fs := fs) (tp := tp) q c2 i2
      have ex : ∀ c : ej_S, gA ((c, τ) : lw_S).2 1 a = nI ((e_ns (e_L T h0 h1 12)).getD a 0) := fun c => CX_x h q
      have en := L_isNet (n := n) (c := c3) hn h.1 (show (e_ns (e_L T h0 h1 12)).getD a 0 < 2 ^ 31 by omega)
      have hbm : (a + v) % NN σ0 < NN σ0 := Nat.mod_lt _ (by omega)
      have key : ∃ c' ot', IQ n fs σ0 tp ot' c' ∧ ∀ x : Int32, mL_areNodes_109 n (mL_areNodes_35 n fu) (nI v) (nI a) (nI ((a + v) % NN σ0)) x x (c3, τ) = some (nI 1, (c', τ)) := by
        obtain ⟨c4, i4, e4⟩ := L_areNodes_109 (n := n) (fs := fs) (tp := tp) hn (mL_areNodes_35 n fu) h q hbm (nI v) (nI 0) i3
        obtain ⟨c5, ot5, i5, e5⟩ := ih (a + 1) c4 _ i4 q (by omega)
        refine ⟨c5, ot5, i5, fun x => ?_⟩
        have : ∀ x : Int32, mL_areNodes_109 n (mL_areNodes_35 n fu) (nI v) (nI a) (nI ((a + v) % NN σ0)) x x (c3, τ) = mL_areNodes_109 n (mL_areNodes_35 n fu) (nI v) (nI a) (nI ((a + v) % NN σ0)) (nI 0) (nI 0) (c3, τ) := fun x => by
          unfold mL_areNodes_109
          rw [if_pos rfl, if_pos rfl]
        rw [this x, e4, e5]
      obtain ⟨c', ot', i', k'⟩ := key
      refine ⟨c', ot', i', ?_⟩
      have ew : lg_cmp (lN (pkL (([97 + (e_ns (e_L T h0 h1 12)).getD a 0].drop (8 * 0)).take 8))) ((nI 97 + nI ((e_ns (e_L T h0 h1 12)).getD a 0)).toInt64) = nI 0 := by
        rw [nI_add, nI_l (by omega)]
        refine (cmp_eq _ _).mpr ?_
        show lN (pkL [_]) = _
        rw [pk1]
      have ed : (nI a + nI v) - (nI a + nI v) / nI (NN σ0) * nI (NN σ0) = nI ((a + v) % NN σ0) := by
        rw [nI_add, pk_rem (by omega) (by omega) (by omega)]
      rw [ile_f q (by omega), L_0, L_1, if_neg n10, ck_t (by omega) (by omega), dv_t (by omega) (by omega), ed, ej_nm_e, e1 τ, ej_bi_s, show nI [97 + (e_ns (e_L T h0 h1 12)).getD a 0].length = nI 1 from rfl, if_pos rfl, e2 τ, ej_bl_s, ck_t (by omega) (by omega), nI_clamp (by omega), ex, L_97, if_pos ew, e3 τ, ej_bi_s, ck_t (by omega) (by omega), ex, en, ej_bi_s, CX_kd h q]
      cases hnn : e_net (e_L T h0 h1 12) ((e_ns (e_L T h0 h1 12)).getD a 0)
      · rw [bI_f, if_pos rfl, if_neg (by decide)]; exact k' _
      · rw [bI_t, if_neg n10, if_pos rfl]; exact k' _
theorem L_areNodes (hn : 2000 < n) (h : CX σ0 τ T h0 h1) (hv : v < 2 ^ 30) {hm : Nat} (hm10 : hm < 10) (h3 : gA τ 2 3 = nI hm) (hJ : gJ σ0 1 = lN (97 + hm)) (hc : IQ n fs σ0 tp ot c) : ∃ c' ot', IQ n fs σ0 tp ot' c' ∧ mL_areNodes n (nI v) (c, τ) = some (nI 1, (c', τ)) := by
  have hN := CX_NN h
  have h10 := CX_10 h
  have hw := (IQ_0 hc).1
  obtain ⟨c1, i1, e1⟩ := a_nodes (n := n) (fs := fs) (tp := tp) (ot := ot) hw c hc
  obtain ⟨c2, i2, e2⟩ := a_home (n := n) (fs := fs) (tp := tp) (ot := ot) hn hw (hm_of h hm10 hJ) c1 i1
  obtain ⟨c', ot', i3, e3⟩ := L_areNodes_35 (n := n) (fs := fs) (tp := tp) hn h hv n 0 c2 ot i2 (Nat.zero_le _) (by omega)
  refine ⟨c', ot', i3, ?_⟩
  have m2 : ∀ c : ej_S, gA ((c, τ) : lw_S).2 2 2 = nI (NN σ0) := fun c => CX_m2 h
  have m3 : ∀ c : ej_S, gA ((c, τ) : lw_S).2 2 3 = nI hm := fun c => h3
  unfold mL_areNodes
  rw [e1 τ, ej_bi_s, L_2, ck_t (by omega) (by omega), nI_clamp (by omega), m2, if_pos rfl, e2 τ, ej_bi_s, L_3, ck_t (by omega) (by omega), nI_clamp (by omega), m3, L_node hn h.2.1 (by omega), ej_bi_s, if_pos rfl, L_1, L_0, e3]
end P97g
