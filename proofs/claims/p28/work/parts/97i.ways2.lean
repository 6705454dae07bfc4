/-! THE LAW'S LOOK AT THE ROUTES -/
section P97i
variable {n a b k h0 h1 v : Nat} {fs : Nat → List Nat} {σ σ0 c τ : ej_S} {tp ot : List Nat} {T : Nat → Nat} {D rt : Nat → Nat}
/-- where a route begins -/
theorem RT_beg (h : CX σ0 τ T h0 h1) (hX : WXX σ0 D) (hp : RT0 σ0 D a rt) (ha : a < 24) : ∃ hm, homeAt σ0 hm ∧ rt 0 = 4 * hm ∧ D (rt 0) = 0 ∧ gA σ0 26 (rt 0) = nI 0 := by
  obtain ⟨p0, p1, p2, p3⟩ := hp
  obtain ⟨r1, r2, r3⟩ := p1.1 0 (Nat.zero_le _)
  rcases hX.2.2 with ⟨_, z, _⟩ | ⟨hm, t, z1, z2, z3, z4, z5⟩
  · have := z (4 * a) (by omega); omega
  · refine ⟨hm, z1, ?_⟩
    have e : rt 0 = 4 * hm := by
      by_cases w : rt 0 = 4 * hm
      · exact w
      · obtain ⟨u, kk, w0, e0, e1⟩ := sol_prev z4 r1 r2 w
        obtain ⟨u96, _, _, _, q, _, _, ew⟩ := e0
        have hu : D u < iF := by omega
        have := OKD_bd hX.1.2.1 u96 hu
        omega
    rw [e]
    exact ⟨rfl, z4.1, z5⟩
/-- a place of a route is a node -/
theorem RT_at (hX : WXX σ0 D) (hp : RT0 σ0 D a rt) (hk : k ≤ D (4 * a) % 1024) : ∃ b, rt k = 4 * b ∧ b < NN σ0 ∧ D (4 * b) < iF ∧ D (4 * b) % 1024 = k := by
  obtain ⟨p0, p1, p2, p3⟩ := hp
  obtain ⟨r1, r2, r3⟩ := p1.1 k hk
  have z := hX.2.1 _ r1 r2
  have e : rt k = 4 * (rt k / 4) := by omega
  refine ⟨rt k / 4, e, hX.1.2.2.2.1 _ r1 r2, ?_, ?_⟩
  · rw [← e]; exact r2
  · rw [← e]; exact r3
/-- a step of a route -/
theorem RT_step (h : CX σ0 τ T h0 h1) (hX : WXX σ0 D) (hw : wfR σ0) (hs : SOL σ0) (hp : RT0 σ0 D a rt) (hk : k < D (4 * a) % 1024) : ∃ x y kd q, rt k = 4 * x ∧ rt (k + 1) = 4 * y ∧ x < NN σ0 ∧ y < NN σ0 ∧ x ≠ y ∧ 1 ≤ kd ∧ kd ≤ 5 ∧ scost σ0 x y kd = some q ∧ gA σ0 26 (rt (k + 1)) = nI kd ∧ D (4 * x) + (1024 * q + 1) = D (4 * y) := by
  obtain ⟨x, x1, x2, x3, x4⟩ := RT_at hX hp (show k ≤ D (4 * a) % 1024 by omega)
  obtain ⟨y, y1, y2, y3, y4⟩ := RT_at hX hp (show k + 1 ≤ D (4 * a) % 1024 by omega)
  obtain ⟨kd, w, e, e1, _, e2⟩ := hp.2.1.2 k hk
  have hc := CR_of hw (SOL_bk hs)
  obtain ⟨_, _, l3, _⟩ := Ed_lim hc e
  obtain ⟨_, _, k1, k5, q, g1, g2, g3⟩ := e
  rw [x1, y1, show 4 * x / 4 = x by omega, show 4 * y / 4 = y by omega] at *
  rw [show 4 * x % 4 = 0 by omega, ad0] at g3
  exact ⟨x, y, kd, q, rfl, rfl, x2, y2, l3, k1, k5, g1, e2, by rw [← e1, g3]; rfl⟩
theorem L_areWays_382 (hn : 2000 < n) (f : Int32 → Int32 → lw_S → Option (Int32 × lw_S)) (h : CX σ0 τ T h0 h1) (hX : WXX σ0 D) (ha : a < NN σ0) (hc : IQ n fs σ0 tp ot c) : ∃ c', IQ n fs σ0 tp ot c' ∧ mL_areWays_382 n f (nI 1) (nI a) (oI (os D a)) (c, τ) = f (nI 1) (nI (a + 1)) (c', τ) := by
  have hw := (IQ_0 hc).1
  have h24 := NN_le hw
  unfold mL_areWays_382
  rw [L_0, L_1, if_neg n10]
  by_cases fa : D (4 * a) < iF
  · have oa : os D a = some (D (4 * a) % 1024) := if_pos fa
    have oca : oc D a = some (D (4 * a) / 1024) := if_pos fa
    have ba := OKD_bd hX.1.2.1 (show 4 * a < 96 by omega) fa
    obtain ⟨rt, hp⟩ := RT0_ex hX.1 hX.2.1 (show a < 24 by omega) fa
    obtain ⟨hm, b1, b2, b3, b4⟩ := RT_beg h hX hp (by omega)
    have eL : rt (D (4 * a) % 1024) = 4 * a := hp.2.2.1
    obtain ⟨c1, i1, e1⟩ := a_nodeAt (n := n) (fs := fs) (tp := tp) (ot := ot) (k := 0) hn hX.1 hX.2.1 ha hp (Nat.zero_le _) c hc
    obtain ⟨c2, i2, e2⟩ := a_home (n := n) (fs := fs) (tp := tp) (ot := ot) (o := some hm) hn hw b1 c1 i1
    obtain ⟨c3, i3, e3⟩ := a_costAt (n := n) (fs := fs) (tp := tp) (ot := ot) (k := 0) hn hX.1 hX.2.1 ha hp (Nat.zero_le _) c2 i2
    obtain ⟨c4, i4, e4⟩ := a_stepAt (n := n) (fs := fs) (tp := tp) (ot := ot) (k := 0) hn hX.1 hX.2.1 ha hp (Nat.zero_le _) c3 i3
    obtain ⟨c5, i5, e5⟩ := a_costAt (n := n) (fs := fs) (tp := tp) (ot := ot) hn hX.1 hX.2.1 ha hp (Nat.le_refl _) c4 i4
    obtain ⟨c6, i6, e6⟩ := a_cost (n := n) (fs := fs) (tp := tp) (ot := ot) hn hX.1 hX.2.1 ha c5 i5
    obtain ⟨c7, i7, e7⟩ := a_nodeAt (n := n) (fs := fs) (tp := tp) (ot := ot) hn hX.1 hX.2.1 ha hp (Nat.le_refl _) c6 i6
    refine ⟨c7, i7, ?_⟩
    rw [b2, show 4 * hm / 4 = hm by omega] at e1
    rw [b3] at e3
    rw [b4] at e4
    rw [eL] at e5
    rw [eL, show 4 * a / 4 = a by omega] at e7
    rw [oca] at e6
    rw [oa, show oI (some (D (4 * a) % 1024)) = nI (D (4 * a) % 1024) from rfl, ilt_f (Nat.zero_le _) (by omega), e1 τ, ej_bi_s, e2 τ, ej_bi_s, if_pos (show nI hm = oI (some hm) from rfl), e3 τ, ej_bi_s, if_pos rfl, e4 τ, ej_bi_s, if_pos rfl, e5 τ, ej_bi_s, e6 τ, ej_bi_s, if_pos (show nI (D (4 * a) / 1024) = oI (some (D (4 * a) / 1024)) from rfl), e7 τ, ej_bi_s, if_pos rfl, nI_add, ej_nm_e]
  · have oa : os D a = none := if_neg fa
    rw [oa, if_pos (show oI none < nI 0 from zm_lt (by omega)), nI_add, ej_nm_e]
    exact ⟨c, hc, rfl⟩
theorem L_areWays_259 (hn : 2000 < n) (f : Int32 → Int32 → lw_S → Option (Int32 × lw_S)) (h : CX σ0 τ T h0 h1) (hX : WXX σ0 D) (ha : a < NN σ0) (fa : D (4 * a) < iF) (hp : RT0 σ0 D a rt) : ∀ (fu p : Nat) (c : ej_S), IQ n fs σ0 tp ot c → p ≤ D (4 * a) % 1024 → p < fu → ∃ c', IQ n fs σ0 tp ot c' ∧ mL_areWays_259 n f fu (nI 1) (nI a) (nI (D (4 * a) % 1024)) (nI p) (c, τ) = f (nI 1) (nI (a + 1)) (c', τ) := by
  intro fu
  induction fu with
  | zero => intro p c _ _ z; omega
  | succ fu ih =>
    intro p c hc hpL hf
    have hw := (IQ_0 hc).1
    have hs := (IQ_0 hc).2
    have h24 := NN_le hw
    have ba := OKD_bd hX.1.2.1 (show 4 * a < 96 by omega) fa
    have oa : os D a = some (D (4 * a) % 1024) := if_pos fa
    rw [u_L_areWays_259, L_0]
    rcases Nat.eq_zero_or_pos p with rfl | q
    · obtain ⟨c1, i1, e1⟩ := L_areWays_382 (n := n) hn f h hX ha hc
      rw [oa] at e1
      refine ⟨c1, i1, ?_⟩
      rw [ile_t (Nat.le_refl _) (by omega)]
      exact e1
    · obtain ⟨p, rfl⟩ : ∃ r, p = r + 1 := ⟨p - 1, by omega⟩
      obtain ⟨x, y, kd, q1, x1, y1, x2, y2, xy, k1, k5, g1, g2, g3⟩ := RT_step h hX hw hs hp (show p < D (4 * a) % 1024 by omega)
      have hx := (hp.2.1.1 p (by omega))
      have hy := (hp.2.1.1 (p + 1) hpL)
      rw [x1] at hx
      rw [y1] at hy
      have bx := OKD_bd hX.1.2.1 hx.1 hx.2.1
      have bY := OKD_bd hX.1.2.1 hy.1 hy.2.1
      obtain ⟨c1, i1, e1⟩ := a_nodeAt (n := n) (fs := fs) (tp := tp) (ot := ot) hn hX.1 hX.2.1 ha hp hpL c hc
      obtain ⟨c2, i2, e2⟩ := a_nodeAt (n := n) (fs := fs) (tp := tp) (ot := ot) (k := p) hn hX.1 hX.2.1 ha hp (by omega) c1 i1
      obtain ⟨c3, i3, e3⟩ := a_stepAt (n := n) (fs := fs) (tp := tp) (ot := ot) hn hX.1 hX.2.1 ha hp hpL c2 i2
      obtain ⟨c4, i4, e4, b4⟩ := L_step (n := n) hn h x2 y2 xy k1 k5 i3
      obtain ⟨c5, i5, e5⟩ := a_costAt (n := n) (fs := fs) (tp := tp) (ot := ot) hn hX.1 hX.2.1 ha hp hpL c4 i4
      obtain ⟨c6, i6, e6⟩ := a_costAt (n := n) (fs := fs) (tp := tp) (ot := ot) (k := p) hn hX.1 hX.2.1 ha hp (by omega) c5 i5
      obtain ⟨c7, i7, e7⟩ := a_cost (n := n) (fs := fs) (tp := tp) (ot := ot) hn hX.1 hX.2.1 y2 c6 i6
      obtain ⟨c8, i8, e8⟩ := a_costAt (n := n) (fs := fs) (tp := tp) (ot := ot) hn hX.1 hX.2.1 ha hp hpL c7 i7
      obtain ⟨c9, i9, e9⟩ := a_steps (n := n) (fs := fs) (tp := tp) (ot := ot) hn hX.1 hX.2.1 y2 c8 i8
      obtain ⟨cA, iA, eA⟩ := ih p c9 i9 (by omega) (by omega)
      refine ⟨cA, iA, ?_⟩
      rw [y1, show 4 * y / 4 = y by omega] at e1
      rw [x1, show 4 * x / 4 = x by omega] at e2
      rw [g2] at e3
      rw [g1] at e4 b4
      have hq1 := b4 q1 rfl
      rw [y1] at e5 e8
      rw [x1] at e6
      rw [show oc D y = some (D (4 * y) / 1024) from if_pos hy.2.1] at e7
      rw [show os D y = some (D (4 * y) % 1024) from if_pos hy.2.1, hy.2.2] at e9
      rw [ile_f (by omega) (by omega), L_1, if_neg n10, e1 τ, ej_bi_s, pk_sub (by omega), Nat.add_sub_cancel, e2 τ, ej_bi_s, e3 τ, ej_bi_s, e4, ej_bi_s, show oI (some q1) = nI q1 from rfl, ilt_f (Nat.zero_le _) (by omega), e5 τ, ej_bi_s, e6 τ, ej_bi_s, nI_add, ieq_t (show D (4 * y) / 1024 = D (4 * x) / 1024 + q1 by have := hx.2.2; have := hy.2.2; omega), e7 τ, ej_bi_s, e8 τ, ej_bi_s, if_pos (show oI (some (D (4 * y) / 1024)) = nI (D (4 * y) / 1024) from rfl), e9 τ, ej_bi_s, if_pos (show oI (some (p + 1)) = nI (p + 1) from rfl)]
      rw [show (-nI 1 : Int32) = zm from rfl, nI_m1 (by omega), Nat.add_sub_cancel, ej_nm_e]
      exact eA
theorem L_areWays_166 (hn : 2000 < n) (h : CX σ0 τ T h0 h1) (hX : WXX σ0 D) : ∀ (fu a : Nat) (c : ej_S), IQ n fs σ0 tp ot c → a ≤ NN σ0 → NN σ0 - a < fu → ∃ c', IQ n fs σ0 tp ot c' ∧ mL_areWays_166 n fu (nI 1) (nI a) (c, τ) = some (nI 1, (c', τ)) := by
  intro fu
  induction fu with
  | zero => intro a c _ _ z; omega
  | succ fu ih =>
    intro a c hc ha hf
    have hw := (IQ_0 hc).1
    have h24 := NN_le hw
    have m2 : ∀ c : ej_S, gA ((c, τ) : lw_S).2 2 2 = nI (NN σ0) := fun c => CX_m2 h
    rw [u_L_areWays_166, L_2, ck_t (by omega) (by omega), nI_clamp (by omega), m2]
    rcases Nat.eq_or_lt_of_le ha with rfl | q
    · rw [ile_t (Nat.le_refl _) (by omega), bz_n1]
      exact ⟨c, hc, rfl⟩
    · obtain ⟨c1, i1, e1⟩ := a_steps (n := n) (fs := fs) (tp := tp) (ot := ot) hn hX.1 hX.2.1 q c hc
      obtain ⟨c2, i2, e2⟩ := a_costByRounds (n := n) (fs := fs) (tp := tp) (ot := ot) hn hX.1 hX.2.1 q c1 i1
      obtain ⟨c3, i3, e3⟩ := a_cost (n := n) (fs := fs) (tp := tp) (ot := ot) hn hX.1 hX.2.1 q c2 i2
      obtain ⟨c4, i4, e4⟩ := a_state (n := n) (fs := fs) (tp := tp) (ot := ot) hn hX.1 hX.2.1 q c3 i3
      obtain ⟨c5, i5, e5⟩ := a_cost (n := n) (fs := fs) (tp := tp) (ot := ot) hn hX.1 hX.2.1 q c4 i4
      rw [ile_f q (by omega), L_0, L_1, if_neg n10, e1 τ, ej_bi_s, e2 τ, ej_bi_s, e3 τ, ej_bi_s, if_pos rfl, e4 τ, ej_bi_s]
      by_cases fa : D (4 * a) < iF
      · have oa : os D a = some (D (4 * a) % 1024) := if_pos fa
        have oca : oc D a = some (D (4 * a) / 1024) := if_pos fa
        have ba := OKD_bd hX.1.2.1 (show 4 * a < 96 by omega) fa
        obtain ⟨rt, hp⟩ := RT0_ex hX.1 hX.2.1 (show a < 24 by omega) fa
        obtain ⟨c6, i6, e6⟩ := L_areWays_259 (n := n) (fs := fs) (tp := tp) (ot := ot) hn (mL_areWays_166 n fu) h hX q fa hp n _ c5 i5 (Nat.le_refl _) (by omega)
        obtain ⟨c7, i7, e7⟩ := ih (a + 1) c6 i6 q (by omega)
        refine ⟨c7, i7, ?_⟩
        rw [oca] at e5
        rw [oa, show ot0 D a = some 0 from if_pos fa, show oI (some (D (4 * a) % 1024)) = nI (D (4 * a) % 1024) from rfl, ile_t (Nat.zero_le _) (by omega)]
        unfold mL_areWays_218
        rw [if_pos (show oI (some 0) = nI 0 from rfl), L_0, ile_t (Nat.zero_le _) (by omega), e5 τ, ej_bi_s, show oI (some (D (4 * a) / 1024)) = nI (D (4 * a) / 1024) from rfl, ile_t (Nat.zero_le _) (by omega)]
        unfold mL_areWays_245
        rw [if_pos rfl, L_1, e6, e7]
      · have oa : os D a = none := if_neg fa
        have oca : oc D a = none := if_neg fa
        obtain ⟨c6, i6, e6⟩ := L_areWays_382 (n := n) hn (mL_areWays_166 n fu) h hX q i5
        obtain ⟨c7, i7, e7⟩ := ih (a + 1) c6 i6 q (by omega)
        refine ⟨c7, i7, ?_⟩
        rw [oca] at e5
        rw [oa] at e6
        rw [oa, show ot0 D a = none from if_neg fa, if_neg (show ¬ nI 0 ≤ oI none from zm_nle (by omega))]
        unfold mL_areWays_218
        rw [if_pos (show oI none = -nI 1 from rfl), L_0, if_neg (show ¬ nI 0 ≤ oI none from zm_nle (by omega)), e5 τ, ej_bi_s, if_neg (show ¬ nI 0 ≤ oI none from zm_nle (by omega))]
        unfold mL_areWays_245
        obtain ⟨m, hm⟩ : ∃ m, n = m + 1 := ⟨n - 1, by omega⟩
        rw [if_pos rfl, L_1]
        rw [show mL_areWays_259 n (mL_areWays_166 n fu) n (nI 1) (nI a) (oI none) (oI none) (c5, τ) = mL_areWays_259 n (mL_areWays_166 n fu) (m + 1) (nI 1) (nI a) (oI none) (oI none) (c5, τ) by rw [← hm], u_L_areWays_259, L_0, if_pos (show oI none ≤ nI 0 from zm_le (by omega)), e6, e7]
theorem L_areWays_6 (hn : 2000 < n) (h : CX σ0 τ T h0 h1) (hX : WXX σ0 D) : ∀ (fu y : Nat) (c : ej_S), IQ n fs σ0 tp ot c → y ≤ NN σ0 * NN σ0 → NN σ0 * NN σ0 - y < fu → ∃ c', IQ n fs σ0 tp ot c' ∧ mL_areWays_6 n fu (nI 1) (nI y) (c, τ) = some (nI 1, (c', τ)) := by
  intro fu
  induction fu with
  | zero => intro y c _ _ z; omega
  | succ fu ih =>
    intro y c hc hy hf
    have hw := (IQ_0 hc).1
    have h24 := NN_le hw
    have hN2 : NN σ0 * NN σ0 ≤ 24 * 24 := Nat.mul_le_mul h24 h24
    have m2 : ∀ c : ej_S, gA ((c, τ) : lw_S).2 2 2 = nI (NN σ0) := fun c => CX_m2 h
    rw [u_L_areWays_6, L_2, ck_t (by omega) (by omega), ck_t (by omega) (by omega), nI_clamp (by omega), m2, pk_mul]
    rcases Nat.eq_or_lt_of_le hy with rfl | q
    · obtain ⟨c1, i1, e1⟩ := L_areWays_166 (n := n) (fs := fs) (tp := tp) (ot := ot) hn h hX n 0 c hc (Nat.zero_le _) (by omega)
      refine ⟨c1, i1, ?_⟩
      rw [ile_t (Nat.le_refl _) (by omega), L_0]
      exact e1
    · have hN0 : 0 < NN σ0 := by
        rcases Nat.eq_zero_or_pos (NN σ0) with z | z
        · rw [z] at q; omega
        · exact z
      have ha : y / NN σ0 < NN σ0 := Nat.div_lt_of_lt_mul q
      have hb : y % NN σ0 < NN σ0 := Nat.mod_lt _ hN0
      obtain ⟨c1, i1, e1⟩ := a_cost (n := n) (fs := fs) (tp := tp) (ot := ot) hn hX.1 hX.2.1 ha c hc
      obtain ⟨c2, i2, e2⟩ := a_cost (n := n) (fs := fs) (tp := tp) (ot := ot) hn hX.1 hX.2.1 hb c1 i1
      obtain ⟨c3, i3, e3⟩ := L_areWays_58 (n := n) (fs := fs) (tp := tp) (ot := ot) hn (mL_areWays_6 n fu) h hX ha hb h24 y n 1 c2 i2 (Nat.le_refl _) (by omega) (by omega)
      obtain ⟨c4, i4, e4⟩ := ih (y + 1) c3 i3 q (by omega)
      refine ⟨c4, i4, ?_⟩
      rw [ile_f q (by omega), L_0, L_1, if_neg n10, ck_t (by omega) (by omega), dv_t hN0 (by omega), pk_div (by omega) hN0 (by omega), ej_nm_e, ck_t (by omega) (by omega), dv_t hN0 (by omega), pk_mul, pk_sub (Nat.div_mul_le_self _ _), ej_nm_e]
      have em : y - y / NN σ0 * NN σ0 = y % NN σ0 := by rw [Nat.mul_comm]; exact (Nat.mod_eq_sub_mul_div).symm
      rw [em, e1 τ, ej_bi_s, e2 τ, ej_bi_s, e3, e4]
theorem L_areWays (hn : 2000 < n) (h : CX σ0 τ T h0 h1) (hX : WXX σ0 D) (hc : IQ n fs σ0 tp ot c) : ∃ c', IQ n fs σ0 tp ot c' ∧ mL_areWays n (c, τ) = some (nI 1, (c', τ)) := by
  have hw := (IQ_0 hc).1
  have h24 := NN_le hw
  have hN2 : NN σ0 * NN σ0 ≤ 24 * 24 := Nat.mul_le_mul h24 h24
  unfold mL_areWays
  rw [L_1, L_0]
  exact L_areWays_6 hn h hX n 0 c hc (Nat.zero_le _) (by omega)
end P97i
