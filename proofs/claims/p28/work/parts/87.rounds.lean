/-! THE CLASS: by rounds -/
def cs (R : Nat → Nat) : Nat := fb_ct (fun v => decide (R v < iF)) 96
def kR (T : Nat → Int32) (R : Nat → Nat) : Prop := ∀ v, v < 96 → (R v = iF ∧ T v = zm) ∨ (R v < iF ∧ T v = nI (R v))
def RB (s : Nat) (R D : Nat → Nat) : Prop := (∀ v, R v ≤ iF) ∧ (∀ v, v < 96 → R v < iF → D v < iF ∧ D v / 1024 ≤ R v ∧ R v + 1310000 ≤ 1310000 * cs R) ∧ R s = 0
theorem cs_le {R : Nat → Nat} : cs R ≤ 96 := fb_ct_le _ _
theorem cs_up {R : Nat → Nat} {v x : Nat} (hx : x < iF) : cs R ≤ cs (dU R v x) := by
  unfold cs
  refine fb_ct_sub (fun k hk h => ?_)
  rw [decide_eq_true_eq] at *
  by_cases q : k = v
  · rw [q, dU_s]; exact hx
  · rw [dU_n _ q]; exact h
theorem cs_new {R : Nat → Nat} {v x : Nat} (hx : x < iF) (hv : v < 96) (h : R v = iF) : cs R < cs (dU R v x) := by
  unfold cs
  refine ct_lt hv (fun k hk h => ?_) (decide_eq_false (by omega)) (by rw [decide_eq_true_eq, dU_s]; exact hx)
  rw [decide_eq_true_eq] at *
  by_cases q : k = v
  · rw [q, dU_s]; exact hx
  · rw [dU_n _ q]; exact h
section P87
variable {n s : Nat} {σr : ej_S} {D : Nat → Nat}
theorem x_lessen {R : Nat → Nat} {σ : ej_S} {v x : Nat} (hk : kR (gA σ 30) R) (hv : v < 96) (hx : x < 2 ^ 31) (hb : R v < iF → R v < 2 ^ 31) : m9_lessen n (nI v) (nI x) σ = some (bI (decide (x < R v)), if x < R v then uA σ 30 v (nI x) else σ) := by
  have hiF := iF_e
  unfold m9_lessen
  rw [L_0, L_96, ilt_f (Nat.zero_le _) (by omega), ile_f hv (by omega)]
  have k1 : ∀ X : Option (Int32 × ej_S), ej_ck (nI v) 96 X = X := fun X => ck_t hv (by omega)
  have k3 : (nI v).toNatClampNeg = v := nI_clamp (by omega)
  simp only [k1, k3, ej_nm_e, L_1, ↓L_m1]
  rcases hk v hv with ⟨a1, a2⟩ | ⟨a1, a2⟩
  · rw [if_pos a2, if_pos (by omega), decide_eq_true (by omega)]; rfl
  · have := hb a1
    rw [a2, ieq_m this]
    rcases Nat.lt_or_ge x (R v) with q | q
    · rw [ilt_t q this, if_pos q, decide_eq_true q]; rfl
    · rw [ilt_f q (by omega), if_neg (by omega), decide_eq_false (by omega)]; rfl
theorem RB_up {R : Nat → Nat} {u k v w c X : Nat} (hsol : sol (Ed σr) s D) (hok : OKD D) (hw : wfR σr) (hbk : bkOK σr) (h : RB s R D) (e : Ed σr u k v w) (he : w = 1024 * c + 1) (hu : D u < iF) (hX : D u / 1024 ≤ X) (hX2 : X + 1310000 ≤ 1310000 * cs R) (hlt : X + c < R v) : RB s (dU R v (X + c)) D ∧ cs R ≤ cs (dU R v (X + c)) := by
  have hiF := iF_e
  obtain ⟨h1, h2, h3⟩ := h
  obtain ⟨l1, l2, _, _, c', l5, l6⟩ := (eOK_Ed hw hbk).1 u k v w e
  have bu := OKD_bd hok l1 hu
  have hcs := cs_le (R := R)
  have hxi : X + c < iF := by omega
  have up := cs_up (R := R) (v := v) hxi
  have hle := hsol.2.2.2 u k v w e hu
  refine ⟨⟨fun y => ?_, fun y hy hf => ?_, ?_⟩, up⟩
  · by_cases q : y = v
    · rw [q, dU_s]; omega
    · rw [dU_n _ q]; exact h1 y
  · by_cases q : y = v
    · subst q
      rw [dU_s]
      refine ⟨by omega, by omega, ?_⟩
      rcases Nat.lt_or_ge (R y) iF with z | z
      · have := (h2 y hy z).2.2
        have := Nat.mul_le_mul_left 1310000 up
        omega
      · have z' : R y = iF := Nat.le_antisymm (h1 y) z
        have := cs_new (R := R) (v := y) hxi hy z'
        have := Nat.mul_le_mul_left 1310000 (show cs R + 1 ≤ cs (dU R y (X + c)) from this)
        omega
    · rw [dU_n _ q] at *
      obtain ⟨a1, a2, a3⟩ := h2 y hy hf
      have := Nat.mul_le_mul_left 1310000 up
      exact ⟨a1, a2, by omega⟩
  · by_cases q : s = v
    · subst q; omega
    · rw [dU_n _ q]; exact h3
theorem x_less_35 {u b X : Nat} {T : Int32} (F : Int32 → Int32 → Int32 → Int32 → Int32 → Int32 → ej_S → Option (Int32 × ej_S)) (hsol : sol (Ed σr) s D) (hok : OKD D) (hu : u < 96) (huN : u / 4 < NN σr) (hb : b < 24) (hDu : D u < iF) (hX : D u / 1024 ≤ X) (hT : bt T b = true ↔ ∃ k, 1 ≤ k ∧ k ≤ 5 ∧ scost σr (u / 4) b k ≠ none) : ∀ (kf kind : Nat) (σ : ej_S) (R : Nat → Nat) (g : Bool), relG σ σr → kR (gA σ 30) R → RB s R D → X + 1310000 ≤ 1310000 * cs R → 1 ≤ kind → kind ≤ 6 → 6 - kind < kf → ∃ σ' R' g', m9_lessenFrom_35 n F kf (nI X) (nI (u / 4)) (nI (u % 4)) T (bI g) (nI b) (nI kind) σ = F (nI X) (nI (u / 4)) (nI (u % 4)) T (bI g') (nI (b + 1)) σ' ∧ fr [] [] [30] [] [] σ σ' ∧ kR (gA σ' 30) R' ∧ RB s R' D ∧ cs R ≤ cs R' ∧ (∀ v, R' v ≤ R v) ∧ (∀ j v w c, kind ≤ j → Ed σr u j v w → v / 4 = b → w = 1024 * c + 1 → R' v ≤ X + c) ∧ (g' = false → g = false ∧ R' = R) := by
  have hiF := iF_e
  intro kf
  induction kf with
  | zero => intro kind σ R g _ _ _ _ _ _ h; omega
  | succ kf ih =>
    intro kind σ R g hG hk hB hX2 h1 h6 hkf
    rw [u_9_lessenFrom_35]
    rcases Nat.lt_or_ge 5 kind with q | q
    · rw [L_5, ilt_t q (by omega), L_1, nI_add, ej_nm_e]
      exact ⟨σ, R, g, rfl, fr_rf, hk, hB, Nat.le_refl _, fun _ => Nat.le_refl _, fun j v w c j1 e _ _ => by have := e.2.2.2.1; omega, fun z => ⟨z, rfl⟩⟩
    · rw [L_5, ilt_f q (by omega), x_holds hb, ej_bi_s, L_0, ibI]
      cases hTb : bt T b
      · rw [if_neg (by decide), L_1, nI_add, ej_nm_e]
        refine ⟨σ, R, g, rfl, fr_rf, hk, hB, Nat.le_refl _, fun _ => Nat.le_refl _, fun j v w c j1 e hv _ => ?_, fun z => ⟨z, rfl⟩⟩
        obtain ⟨_, _, p1, p2, c', p3, _⟩ := e
        rw [hv] at p3
        have := hT.mpr ⟨j, p1, p2, by rw [p3]; simp⟩
        rw [hTb] at this; cases this
      · have hbN : b < NN σr := by
          obtain ⟨k0, p1, p2, p3⟩ := hT.mp hTb
          obtain ⟨c0, hc0⟩ := Option.ne_none_iff_exists'.mp p3
          exact (scost_lim hG.1 hG.2.2.2 (show u / 4 < 24 by omega) hb p1 p2 hc0).2.1
        rw [if_pos rfl, x_costOf hG huN hbN h1 q (by omega), ej_bi_s]
        cases hsc : scost σr (u / 4) b kind with
        | none =>
          rw [show ccost σr (u / 4) (u % 4) b kind = none by unfold ccost; rw [hsc]; rfl, show oI none = zm from rfl, L_m1, if_pos rfl, L_1, nI_add, ej_nm_e]
          obtain ⟨σ', R', g', r1, r2, r3, r4, r5, r6, r7, r8⟩ := ih (kind + 1) σ R g hG hk hB hX2 (by omega) (by omega) (by omega)
          refine ⟨σ', R', g', r1, r2, r3, r4, r5, r6, fun j v w c j1 e hv hw => ?_, r8⟩
          rcases Nat.eq_or_lt_of_le j1 with z | z
          · subst z
            obtain ⟨_, _, p1, p2, c', p3, _⟩ := e
            rw [hv, hsc] at p3; cases p3
          · exact r7 j v w c z e hv hw
        | some c =>
          obtain ⟨N', hw⟩ := id hG.1
          have bc := scost_bd hw.2.2.2.2.2.2.1 hw.2.2.2.2.2.2.2.1 (show u / 4 < 24 by omega) hb hsc
          have ba := addN_le (σ := σr) (a := u / 4) (s := u % 4) (b := b) (k := kind)
          have bs := sbN_lt (σ := σr) (a := u / 4) (s := u % 4) (b := b) (k := kind) (by omega)
          rw [show ccost σr (u / 4) (u % 4) b kind = some (c + addN σr (u / 4) (u % 4) b kind) by unfold ccost; rw [hsc]; rfl, show oI (some (c + addN σr (u / 4) (u % 4) b kind)) = nI (c + addN σr (u / 4) (u % 4) b kind) from rfl, L_m1, ieq_m (by omega), x_stateBehind hG huN hbN h1 q (by omega) hsc, ej_bi_s, L_4, pk_mul, nI_add, nI_add]
          have hv4 : (b * 4 + sbN σr (u / 4) (u % 4) b kind) / 4 = b := by omega
          have hvm : (b * 4 + sbN σr (u / 4) (u % 4) b kind) % 4 = sbN σr (u / 4) (u % 4) b kind := by omega
          have e0 : Ed σr u kind (b * 4 + sbN σr (u / 4) (u % 4) b kind) (1024 * (c + addN σr (u / 4) (u % 4) b kind) + 1) := ⟨hu, by omega, h1, q, c, by rw [hv4]; exact hsc, by rw [hv4, hvm], by rw [hv4]⟩
          generalize hV : b * 4 + sbN σr (u / 4) (u % 4) b kind = V at *
          generalize hC : c + addN σr (u / 4) (u % 4) b kind = C at *
          have only : ∀ v w c', Ed σr u kind v w → v / 4 = b → w = 1024 * c' + 1 → v = V ∧ c' = C := by
            intro v w c' e hv hw'
            obtain ⟨_, _, _, _, c'', p3, p4, p5⟩ := e
            rw [hv] at p3 p4 p5
            rw [hsc] at p3
            have := Option.some.inj p3
            subst this
            exact ⟨by omega, by omega⟩
          have hcs := cs_le (R := R)
          have hRb : R V < iF → R V < 2 ^ 31 := fun z => by
            have := (hB.2.1 V (by omega) z).2.2
            omega
          rw [x_lessen hk (show V < 96 by omega) (show X + C < 2 ^ 31 by omega) hRb, ej_bi_s]
          have eo : ∀ g1, bI g ||| bI g1 = bI (g || g1) := by intro g1; cases g <;> cases g1 <;> rfl
          rw [eo, ej_nm_e, L_1, nI_add, ej_nm_e]
          rcases Nat.lt_or_ge (X + C) (R V) with w | w
          · rw [if_pos w, decide_eq_true w, Bool.or_true]
            have f1 : fr [] [] [30] [] [] σ (uA σ 30 V (nI (X + C))) := fr_uA fr_rf (by simp)
            obtain ⟨b1, b2⟩ := RB_up hsol hok hG.1 hG.2.2.2 hB e0 rfl hDu hX hX2 w
            have hk1 : kR (gA (uA σ 30 V (nI (X + C))) 30) (dU R V (X + C)) := by
              intro y hy
              rw [s_AA_s]
              by_cases z : y = V
              · rw [z, dU_s, pk_us]; exact .inr ⟨by omega, rfl⟩
              · rw [dU_n _ z, pk_un z]; exact hk y hy
            have hG1 : relG (uA σ 30 V (nI (X + C))) σr := relG_fr hG f1 (by simp) (by simp) (by simp) (by simp) (by simp) (by simp) (by simp) (by simp) (by simp) (by simp) (by simp) (by simp) (by simp) (by simp) (by simp) (by simp) (by simp)
            have hX2' : X + 1310000 ≤ 1310000 * cs (dU R V (X + C)) := by
              have := Nat.mul_le_mul_left 1310000 b2
              omega
            obtain ⟨σ', R', g', r1, r2, r3, r4, r5, r6, r7, r8⟩ := ih (kind + 1) _ _ true hG1 hk1 b1 hX2' (by omega) (by omega) (by omega)
            refine ⟨σ', R', g', r1, fr_tr f1 r2, r3, r4, Nat.le_trans b2 r5, fun v => ?_, fun j v w' c' j1 e hv hw' => ?_, fun z => absurd (r8 z).1 (by decide)⟩
            · refine Nat.le_trans (r6 v) ?_
              by_cases z : v = V
              · rw [z, dU_s]; omega
              · rw [dU_n _ z]; exact Nat.le_refl _
            · rcases Nat.eq_or_lt_of_le j1 with z | z
              · subst z
                obtain ⟨o1, o2⟩ := only v w' c' e hv hw'
                have := r6 v
                rw [o1, dU_s] at this
                rw [o1, o2]; exact this
              · exact r7 j v w' c' z e hv hw'
          · rw [if_neg (by omega), decide_eq_false (by omega), Bool.or_false]
            obtain ⟨σ', R', g', r1, r2, r3, r4, r5, r6, r7, r8⟩ := ih (kind + 1) σ R g hG hk hB hX2 (by omega) (by omega) (by omega)
            refine ⟨σ', R', g', r1, r2, r3, r4, r5, r6, fun j v w' c' j1 e hv hw' => ?_, r8⟩
            rcases Nat.eq_or_lt_of_le j1 with z | z
            · subst z
              obtain ⟨o1, o2⟩ := only v w' c' e hv hw'
              have := r6 v
              rw [o1] at this ⊢
              omega
            · exact r7 j v w' c' z e hv hw'
theorem x_less_25 {u X : Nat} {T : Int32} (hn : 2000 < n) (hsol : sol (Ed σr) s D) (hok : OKD D) (hu : u < 96) (huN : u / 4 < NN σr) (hDu : D u < iF) (hX : D u / 1024 ≤ X) (hT : ∀ b, b < 24 → (bt T b = true ↔ ∃ k, 1 ≤ k ∧ k ≤ 5 ∧ scost σr (u / 4) b k ≠ none)) : ∀ (kf b : Nat) (σ : ej_S) (R : Nat → Nat) (g : Bool), relG σ σr → kR (gA σ 30) R → RB s R D → X + 1310000 ≤ 1310000 * cs R → b ≤ 24 → 24 - b < kf → ∃ σ' R' g', m9_lessenFrom_25 n kf (nI X) (nI (u / 4)) (nI (u % 4)) T (bI g) (nI b) σ = some (bI g', σ') ∧ fr [] [] [30] [] [] σ σ' ∧ kR (gA σ' 30) R' ∧ RB s R' D ∧ cs R ≤ cs R' ∧ (∀ v, R' v ≤ R v) ∧ (∀ j v w c, Ed σr u j v w → b ≤ v / 4 → w = 1024 * c + 1 → R' v ≤ X + c) ∧ (g' = false → g = false ∧ R' = R) := by
  intro kf
  induction kf with
  | zero => intro b σ R g _ _ _ _ _ h; omega
  | succ kf ih =>
    intro b σ R g hG hk hB hX2 hb hkf
    rw [u_9_lessenFrom_25]
    rcases Nat.lt_or_ge b 24 with q | q
    · rw [L_24, ile_f q (by omega), L_1]
      obtain ⟨σ1, R1, g1, r1, r2, r3, r4, r5, r6, r7, r8⟩ := x_less_35 (n := n) (m9_lessenFrom_25 n kf) hsol hok hu huN q hDu hX (hT b q) n 1 σ R g hG hk hB hX2 (by omega) (by omega) (by omega)
      rw [r1]
      have hG1 : relG σ1 σr := relG_fr hG r2 (by simp) (by simp) (by simp) (by simp) (by simp) (by simp) (by simp) (by simp) (by simp) (by simp) (by simp) (by simp) (by simp) (by simp) (by simp) (by simp) (by simp)
      obtain ⟨σ', R', g', p1, p2, p3, p4, p5, p6, p7, p8⟩ := ih (b + 1) σ1 R1 g1 hG1 r3 r4 (by have := Nat.mul_le_mul_left 1310000 r5; omega) q (by omega)
      refine ⟨σ', R', g', p1, fr_tr r2 p2, p3, p4, Nat.le_trans r5 p5, fun v => Nat.le_trans (p6 v) (r6 v), fun j v w c e hv hw => ?_, fun z => ?_⟩
      · rcases Nat.eq_or_lt_of_le hv with y | y
        · exact Nat.le_trans (p6 v) (r7 j v w c e.2.2.1 e y.symm hw)
        · exact p7 j v w c e y hw
      · obtain ⟨z1, z2⟩ := p8 z
        obtain ⟨y1, y2⟩ := r8 z1
        exact ⟨y1, z2.trans y2⟩
    · rw [L_24, ile_t q (by omega), bz_b]
      exact ⟨σ, R, g, rfl, fr_rf, hk, hB, Nat.le_refl _, fun _ => Nat.le_refl _, fun j v w c e hv _ => by have := e.2.1; omega, fun z => ⟨z, rfl⟩⟩
theorem x_lessenFrom {u : Nat} {σ : ej_S} {R : Nat → Nat} (hn : 2000 < n) (hsol : sol (Ed σr) s D) (hok : OKD D) (hs4 : s / 4 < NN σr) (hu : u < 96) (hf : R u < iF) (hG : relG σ σr) (hk : kR (gA σ 30) R) (hB : RB s R D) : ∃ σ' R' g', m9_lessenFrom n (nI u) (nI (R u)) σ = some (bI g', σ') ∧ fr [] [] [30] [] [] σ σ' ∧ kR (gA σ' 30) R' ∧ RB s R' D ∧ cs R ≤ cs R' ∧ (∀ v, R' v ≤ R v) ∧ (∀ j v w c, Ed σr u j v w → w = 1024 * c + 1 → R' v ≤ R u + c) ∧ (g' = false → R' = R) := by
  obtain ⟨d1, d2, d3⟩ := hB.2.1 u hu hf
  have huN : u / 4 < NN σr := by
    rcases wk_last (hsol.2.2.1 u hu d1) with ⟨_, w⟩ | ⟨d', u0, k0, w0, _, e0, _⟩
    · rw [w]; exact hs4
    · exact (Ed_lim (CR_of hG.1 hG.2.2.2) e0).2.1
  obtain ⟨T, e1, hT⟩ := x_targetsOf (n := n) hn hG huN
  unfold m9_lessenFrom
  rw [L_4, pk_rem (by omega) (by omega) (by omega), pk_div (by omega) (by omega) (by omega), ej_nm_e, ej_nm_e, e1, ej_bi_s, L_0]
  obtain ⟨σ', R', g', p1, p2, p3, p4, p5, p6, p7, p8⟩ := x_less_25 (n := n) hn hsol hok hu huN d1 d2 hT n 0 σ R false hG hk hB d3 (by omega) (by omega)
  exact ⟨σ', R', g', p1, p2, p3, p4, p5, p6, fun j v w c e hw => p7 j v w c e (Nat.zero_le _) hw, fun z => (p8 z).2⟩
/-- one round -/
theorem x_round {t : Nat} (F : Int32 → Int32 → ej_S → Option ej_S) (hn : 2000 < n) (hsol : sol (Ed σr) s D) (hok : OKD D) (hs4 : s / 4 < NN σr) : ∀ (kf j : Nat) (σ : ej_S) (R : Nat → Nat) (g : Bool), relG σ σr → kR (gA σ 30) R → RB s R D → j ≤ 96 → 96 - j < kf → ∃ σ' R' g', m9_findByRounds_78 n F kf (bI g) (nI t) (nI j) σ = F (bI g') (nI (t + 1)) σ' ∧ fr [] [] [30] [] [] σ σ' ∧ kR (gA σ' 30) R' ∧ RB s R' D ∧ (∀ v, R' v ≤ R v) ∧ (∀ u k v w c, j ≤ u → Ed σr u k v w → w = 1024 * c + 1 → R u < iF → R' v ≤ R u + c) ∧ (g' = false → g = false ∧ R' = R) := by
  intro kf
  induction kf with
  | zero => intro j σ R g _ _ _ _ h; omega
  | succ kf ih =>
    intro j σ R g hG hk hB hj hkf
    rw [u_9_findByRounds_78]
    rcases Nat.lt_or_ge j 96 with q | q
    · have k1 : ∀ X : Option ej_S, ej_ck (nI j) 96 X = X := fun X => ck_t q (by omega)
      have k3 : (nI j).toNatClampNeg = j := nI_clamp (by omega)
      rw [L_96, ile_f q (by omega)]
      simp only [k1, k3, ↓L_m1, L_1, nI_add, ej_nm_e]
      rcases hk j q with ⟨a1, a2⟩ | ⟨a1, a2⟩
      · rw [if_pos a2]
        obtain ⟨σ', R', g', p1, p2, p3, p4, p6, p7, p8⟩ := ih (j + 1) σ R g hG hk hB q (by omega)
        refine ⟨σ', R', g', p1, p2, p3, p4, p6, fun u k v w c h1 e hw hf => ?_, p8⟩
        rcases Nat.eq_or_lt_of_le h1 with z | z
        · subst z; omega
        · exact p7 u k v w c z e hw hf
      · have b3 := (hB.2.1 j q a1).2.2
        have hcs := cs_le (R := R)
        rw [a2, ieq_m (by omega)]
        obtain ⟨σ1, R1, g1, r1, r2, r3, r4, r5, r6, r7, r8⟩ := x_lessenFrom (n := n) hn hsol hok hs4 q a1 hG hk hB
        have eo : bI g ||| bI g1 = bI (g || g1) := by cases g <;> cases g1 <;> rfl
        rw [r1, ej_bi_s, eo]
        have hG1 : relG σ1 σr := relG_fr hG r2 (by simp) (by simp) (by simp) (by simp) (by simp) (by simp) (by simp) (by simp) (by simp) (by simp) (by simp) (by simp) (by simp) (by simp) (by simp) (by simp) (by simp)
        obtain ⟨σ', R', g', p1, p2, p3, p4, p6, p7, p8⟩ := ih (j + 1) σ1 R1 (g || g1) hG1 r3 r4 q (by omega)
        refine ⟨σ', R', g', p1, fr_tr r2 p2, p3, p4, fun v => Nat.le_trans (p6 v) (r6 v), fun u k v w c h1 e hw hf => ?_, fun z => ?_⟩
        · rcases Nat.eq_or_lt_of_le h1 with z | z
          · subst z
            exact Nat.le_trans (p6 v) (r7 k v w c e hw)
          · have := r6 u
            have := p7 u k v w c z e hw (by omega)
            omega
        · obtain ⟨z1, z2⟩ := p8 z
          rw [Bool.or_eq_false_iff] at z1
          exact ⟨z1.1, z2.trans (r8 z1.2)⟩
    · rw [L_96, ile_t q (by omega), L_1, nI_add, ej_nm_e]
      exact ⟨σ, R, g, rfl, fr_rf, hk, hB, fun _ => Nat.le_refl _, fun u k v w c h1 e => by have := e.1; omega, fun z => ⟨z, rfl⟩⟩
/-- what r rounds bring -/
def Rdl (R D : Nat → Nat) (r : Nat) : Prop := ∀ v, v < 96 → D v < iF → D v % 1024 ≤ r → R v ≤ D v / 1024
theorem RL_0 {R : Nat → Nat} (hw : wfR σr) (hbk : bkOK σr) (hsol : sol (Ed σr) s D) (hok : OKD D) (h : R s = 0) : Rdl R D 0 := by
  intro v hv hf hm
  by_cases q : v = s
  · rw [q, h]; exact Nat.zero_le _
  · obtain ⟨u, k, w, e, he⟩ := sol_prev hsol hv hf q
    obtain ⟨l1, _, _, _, c, l5, l6⟩ := (eOK_Ed hw hbk).1 u k v w e
    have := OKD_bd hok l1 (by omega)
    omega
theorem RL_s {R R' : Nat → Nat} {r : Nat} (hw : wfR σr) (hbk : bkOK σr) (hsol : sol (Ed σr) s D) (hok : OKD D) (h : Rdl R D r) (h1 : ∀ v, R' v ≤ R v) (h2 : ∀ u k v w c, Ed σr u k v w → w = 1024 * c + 1 → R u < iF → R' v ≤ R u + c) (h0 : R s = 0) : Rdl R' D (r + 1) := by
  have hiF := iF_e
  intro v hv hf hm
  by_cases q : v = s
  · have := h1 v
    rw [q] at this ⊢
    omega
  · obtain ⟨u, k, w, e, he⟩ := sol_prev hsol hv hf q
    obtain ⟨l1, _, _, _, c, l5, l6⟩ := (eOK_Ed hw hbk).1 u k v w e
    have bu := OKD_bd hok l1 (by omega)
    have := h u l1 (by omega) (by omega)
    have := h2 u k v w c e l6 (by omega)
    omega
theorem RL_all {R : Nat → Nat} (hw : wfR σr) (hbk : bkOK σr) (hsol : sol (Ed σr) s D) (hok : OKD D) (h0 : R s = 0) (h2 : ∀ u k v w c, Ed σr u k v w → w = 1024 * c + 1 → R u < iF → R v ≤ R u + c) : ∀ r, Rdl R D r
  | 0 => RL_0 hw hbk hsol hok h0
  | r + 1 => RL_s hw hbk hsol hok (RL_all hw hbk hsol hok h0 h2 r) (fun _ => Nat.le_refl _) h2 h0
theorem x_rounds_63 (hn : 2000 < n) (hsol : sol (Ed σr) s D) (hok : OKD D) (hs4 : s / 4 < NN σr) : ∀ (kf t : Nat) (σ : ej_S) (R : Nat → Nat) (g : Bool), relG σ σr → kR (gA σ 30) R → RB s R D → Rdl R D t → (g = false → Rdl R D 97) → t ≤ 97 → 97 - t < kf → ∃ σ' R', m9_findByRounds_63 n kf (bI g) (nI t) σ = some σ' ∧ fr [] [] [30] [] [] σ σ' ∧ kR (gA σ' 30) R' ∧ RB s R' D ∧ Rdl R' D 97 := by
  intro kf
  induction kf with
  | zero => intro t σ R g _ _ _ _ _ _ h; omega
  | succ kf ih =>
    intro t σ R g hG hk hB hL hg ht hkf
    rw [u_9_findByRounds_63]
    rcases Nat.lt_or_ge 96 t with q | q
    · have e : t = 97 := by omega
      subst e
      rw [L_96, ilt_t q (by omega)]
      exact ⟨σ, R, rfl, fr_rf, hk, hB, hL⟩
    · rw [L_96, ilt_f q (by omega)]
      cases g
      · rw [bI_f, L_0, if_pos rfl]
        exact ⟨σ, R, rfl, fr_rf, hk, hB, hg rfl⟩
      · rw [bI_t, L_0, if_neg n10]
        obtain ⟨σ1, R1, g1, r1, r2, r3, r4, r6, r7, r8⟩ := x_round (n := n) (t := t) (m9_findByRounds_63 n kf) hn hsol hok hs4 n 0 σ R false hG hk hB (by omega) (by omega)
        have r1' : m9_findByRounds_78 n (m9_findByRounds_63 n kf) n (nI 0) (nI t) (nI 0) σ = m9_findByRounds_63 n kf (bI g1) (nI (t + 1)) σ1 := r1
        rw [r1']
        have hG1 : relG σ1 σr := relG_fr hG r2 (by simp) (by simp) (by simp) (by simp) (by simp) (by simp) (by simp) (by simp) (by simp) (by simp) (by simp) (by simp) (by simp) (by simp) (by simp) (by simp) (by simp)
        obtain ⟨σ', R', p1, p2, p3, p4, p5⟩ := ih (t + 1) σ1 R1 g1 hG1 r3 r4 (RL_s hG.1 hG.2.2.2 hsol hok hL r6 (fun u k v w c e => r7 u k v w c (Nat.zero_le _) e) hB.2.2) (fun z => by
          have e := (r8 z).2
          rw [e] at r7 ⊢
          exact RL_all hG.1 hG.2.2.2 hsol hok hB.2.2 (fun u k v w c e => r7 u k v w c (Nat.zero_le _) e) 97) (by omega) (by omega)
        exact ⟨σ', R', p1, fr_tr r2 p2, p3, p4, p5⟩
theorem x_rounds_15 : ∀ (k j : Nat) (σ : ej_S), j ≤ 96 → 96 - j < k → ∃ σ', m9_findByRounds_15 n k (nI j) σ = m9_findByRounds_15 n (k - (96 - j)) (nI 96) σ' ∧ 0 < k - (96 - j) ∧ fr [] [] [30] [] [] σ σ' ∧ (∀ x, j ≤ x → x < 96 → gA σ' 30 x = zm) ∧ ∀ x, x < j → gA σ' 30 x = gA σ 30 x := by
  intro k
  induction k with
  | zero => intro j σ _ h; omega
  | succ k ih =>
    intro j σ hj hk
    rcases Nat.lt_or_ge j 96 with q | q
    · rw [u_9_findByRounds_15, L_96, ile_f q (by omega)]
      simp (disch := omega) only [ck_t, nI_clamp, ej_bi_s, ej_bl_s, ej_bv_s, ej_nm_e, ↓L_m1, L_0, L_1, nI_add]
      obtain ⟨σ', e1, e2, f1, p1, p2⟩ := ih (j + 1) (uA σ 30 j zm) q (by omega)
      refine ⟨σ', ?_, by omega, fr_tr (fr_uA fr_rf (by simp)) f1, fun x h1 h2 => ?_, fun x h1 => ?_⟩
      · rw [e1, show k - (96 - (j + 1)) = k + 1 - (96 - j) by omega]
      · rcases Nat.eq_or_lt_of_le h1 with z | z
        · subst z; rw [p2 j (by omega), s_AA_s, pk_us]
        · exact p1 x z h2
      · rw [p2 x (by omega), s_AA_s, pk_un (by omega)]
    · have e : j = 96 := by omega
      subst e
      exact ⟨σ, rfl, by omega, fr_rf, fun x h1 h2 => by omega, fun x _ => rfl⟩
/-- the costs by rounds are the costs -/
theorem x_rounds0 {σc : ej_S} (hn : 2000 < n) (hG : relG σc σr) (hJ : gJ σc 0 = gJ σr 1) (hS : SOL σr) : ∃ σ', m9_findByRounds_15 n n (nI 0) σc = some σ' ∧ fr [] [] [30] [] [] σc σ' ∧ ∀ v, v < 96 → gA σ' 30 v = gA σr 23 v := by
  have hiF := iF_e
  obtain ⟨hw, hc, hali, hbk⟩ := id hG
  obtain ⟨σ1, e1, e1', f1, p1, _⟩ := x_rounds_15 (n := n) n 0 σc (by omega) (by omega)
  have c1 : relG σ1 σr := relG_fr hG f1 (by simp) (by simp) (by simp) (by simp) (by simp) (by simp) (by simp) (by simp) (by simp) (by simp) (by simp) (by simp) (by simp) (by simp) (by simp) (by simp) (by simp)
  have hJ1 : gJ σ1 0 = gJ σr 1 := by rw [f1.2.1 0 (by simp)]; exact hJ
  rw [e1]
  obtain ⟨m, hm⟩ : ∃ m, n - (96 - 0) = m + 1 := ⟨n - 97, by omega⟩
  rw [hm, u_9_findByRounds_15, L_96, ile_t (Nat.le_refl _) (by omega)]
  rcases x_homeNode (n := n) hn hw c1.2.1 hJ1 with ⟨g1, g2⟩ | ⟨h, g1, g2⟩
  · rw [g2, ej_bi_s, L_0, if_pos (zm_lt (by omega))]
    refine ⟨σ1, rfl, f1, fun v hv => ?_⟩
    rcases hS with ⟨_, _, z⟩ | ⟨h, T, D, z, _⟩
    · rw [p1 v (Nat.zero_le _) hv, z v hv]
    · exact absurd ⟨z.2.1, z.2.2⟩ (g1 h z.1)
  · have h24 := NN_le hw
    have hh := g1.1
    rcases hS with ⟨z, _⟩ | ⟨h', T, D, z1, z2, z3, z4⟩
    · exact absurd ⟨g1.2.1, g1.2.2⟩ (z h g1.1)
    · have ehh : h' = h := by
        obtain ⟨N, h0, h1, h2, w1, w2, w3, _⟩ := hw
        have hN := NN_eq h1 h0
        have a1 := z1.1
        rw [hN] at a1 hh
        rcases Nat.lt_trichotomy h' h with q | q | q
        · exact absurd ⟨z1.2.1.trans g1.2.1.symm, z1.2.2.trans g1.2.2.symm⟩ (w3 h' h q hh)
        · exact q
        · exact absurd ⟨g1.2.1.trans z1.2.1.symm, g1.2.2.trans z1.2.2.symm⟩ (w3 h h' q a1)
      subst ehh
      obtain ⟨y1, y2, y3, y4, y5⟩ := z4
      rw [g2, ej_bi_s, L_0, ilt_f (Nat.zero_le _) (by omega), L_24, ilt_t (show h' < 24 by omega) (by omega), L_4, pk_mul]
      have k1 : ∀ X : Option ej_S, ej_ck (nI (h' * 4)) 96 X = X := fun X => ck_t (by omega) (by omega)
      have k3 : (nI (h' * 4)).toNatClampNeg = h' * 4 := nI_clamp (by omega)
      rw [k1, k3, ej_nm_e, Nat.mul_comm h' 4]
      have f2 : fr [] [] [30] [] [] σ1 (uA σ1 30 (4 * h') (nI 0)) := fr_uA fr_rf (by simp)
      have G2 : relG (uA σ1 30 (4 * h') (nI 0)) σr := relG_fr c1 f2 (by simp) (by simp) (by simp) (by simp) (by simp) (by simp) (by simp) (by simp) (by simp) (by simp) (by simp) (by simp) (by simp) (by simp) (by simp) (by simp) (by simp)
      have hk2 : kR (gA (uA σ1 30 (4 * h') (nI 0)) 30) (D0 (4 * h')) := by
        intro y hy
        rw [s_AA_s]
        by_cases z : y = 4 * h'
        · rw [z, D0_s, pk_us]; exact .inr ⟨by omega, rfl⟩
        · rw [D0_n z, pk_un z]; exact .inl ⟨rfl, p1 y (Nat.zero_le _) hy⟩
      have hB2 : RB (4 * h') (D0 (4 * h')) D := by
        refine ⟨D0_i, fun v hv hf => ?_, D0_s⟩
        by_cases z : v = 4 * h'
        · subst z
          have c0 : 0 < cs (D0 (4 * h')) := fb_ct_pos.mpr ⟨4 * h', hv, by rw [decide_eq_true_eq, D0_s]; omega⟩
          rw [D0_s, y1.1]
          have := Nat.mul_le_mul_left 1310000 (show 1 ≤ cs (D0 (4 * h')) from c0)
          exact ⟨by omega, by omega, by omega⟩
        · rw [D0_n z] at hf; omega
      obtain ⟨σ3, R3, e3, f3, k3', b3, l3⟩ := x_rounds_63 (n := n) (s := 4 * h') hn y1 y2 (by rw [Nat.mul_div_cancel_left _ (by omega)]; exact hh) n 0 _ _ true G2 hk2 hB2 (RL_0 hw hbk y1 y2 D0_s) (fun z => by cases z) (by omega) (by omega)
      refine ⟨σ3, e3, fr_tr f1 (fr_tr f2 f3), fun v hv => ?_⟩
      rcases y3 v hv with ⟨a1, a2⟩ | ⟨a1, a2, a3⟩
      · rcases k3' v hv with ⟨c1, c2⟩ | ⟨c1, c2⟩
        · rw [c2, a2]
        · have := (b3.2.1 v hv c1).1; omega
      · have bv := OKD_bd y2 hv a1
        have lv := l3 v hv a1 (by omega)
        rcases k3' v hv with ⟨c1, c2⟩ | ⟨c1, c2⟩
        · omega
        · have := (b3.2.1 v hv c1).2.1
          rw [c2, a2, show R3 v = D v / 1024 by omega]
end P87
