/-! THE LAW'S LOOK AT THE LINKS BACK -/
/-- a set that leads to what is come to in turn t -/
def GN (σ : ej_S) (h t : Nat) (S : Int32) : Prop := bS S h ∧ (∀ i, NN σ ≤ i → i < 32 → bt S i = false) ∧ (∀ i, bS S i → Ct σ h t i) ∧ ∀ Y : Nat → Prop, clo4 σ Y → (∀ i, bS S i → Y i) → ∀ x, Ct σ h t x → Y x
def nst (σ : ej_S) (M : Nat) (S : Int32) (y : Nat) : Prop := bt S (y / 5 / M) = true → bt S (y / 5 % M) = false → y % 5 < 4 → scost σ (y / 5 / M) (y / 5 % M) (y % 5 + 1) = none
def cS (S : Int32) : Nat := fb_ct (bt S) 24
section P97k
variable {n a b k h0 h1 v hm t l y : Nat} {fs : Nat → List Nat} {σ σ0 c τ : ej_S} {tp ot : List Nat} {T : Nat → Nat} {D : Nat → Nat} {S N : Int32}
theorem GN_add (h24 : NN σ ≤ 24) (hg : GN σ hm t S) (hb : b < NN σ) (hc : Ct σ hm t b) : GN σ hm t (S ||| stb b) := by
  obtain ⟨g1, g2, g3, g4⟩ := hg
  have up : ∀ i, bS S i → bS (S ||| stb b) i := fun i hi => ⟨hi.1, by rw [bt_or S (by omega) (by have := hi.1; omega), hi.2]; rfl⟩
  refine ⟨up _ g1, fun i i1 i2 => ?_, fun i hi => ?_, fun Y hY hs => g4 Y hY (fun i hi => hs i (up i hi))⟩
  · rw [bt_or S (by omega) i2, g2 i i1 i2, decide_eq_false (by omega)]; rfl
  · obtain ⟨i1, i2⟩ := hi
    rw [bt_or S (by omega) (by omega)] at i2
    by_cases z : i = b
    · rw [z]; exact hc
    · rw [decide_eq_false z, Bool.or_false] at i2
      exact g3 i ⟨i1, i2⟩
theorem or_0 (x : Int32) : x ||| 0 = x := Int32.or_zero
theorem add_0 (x : Int32) : x + 0 = x := Int32.add_zero x
theorem p_1 (y : Nat) : (nI y + 1 : Int32) = nI (y + 1) := by rw [L_1, nI_add]
theorem B158_0 (f : Int32 → Int32 → Int32 → Int32 → Int32 → lw_S → Option (Int32 × lw_S)) (S x i bf : Int32) (s : lw_S) : mL_areBacks_158 n f S x i bf (nI y) (nI b) 0 s = f S x i bf (nI (y + 1)) s := by
  unfold mL_areBacks_158
  rw [if_pos rfl, ej_nm_e, ej_nm_e, or_0, p_1]
theorem B158_1 (f : Int32 → Int32 → Int32 → Int32 → Int32 → lw_S → Option (Int32 × lw_S)) (S x i bf : Int32) (s : lw_S) : mL_areBacks_158 n f S x i bf (nI y) (nI b) 1 s = f (S ||| stb b) x i bf (nI (y + 1)) s := by
  unfold mL_areBacks_158
  rw [if_neg (by decide), ej_nm_e, ej_nm_e, p_1]; rfl
theorem bit_1 (S : Int32) (ha : a < 24) : ((S >>> (nI a &&& 31)) &&& 1 = 1) ↔ bt S a = true := by rw [and_1', sh_bt S ha]
theorem bit_0 (S : Int32) (ha : a < 24) : ((S >>> (nI a &&& 31)) &&& 1 = 0) ↔ bt S a = false := by rw [and_1, sh_bt S ha]
theorem oI_lt0 {o : Option Nat} (h : oB o) : (oI o < 0) ↔ o = none := by rw [L_0]; exact oI_lt h
theorem CX_N10 (h : CX σ0 τ T h0 h1) : NN σ0 ≤ 10 := by rw [CX_NN h]; exact CX_10 h
theorem GN_clo (hw : wfR σ) (hg : GN σ hm t S) (hz : ∀ y, y < 5 * (NN σ * NN σ) → nst σ (NN σ) S y) (hbk : bkOK σ) : clo4 σ (bS S) := by
  have h24 := NN_le hw
  intro a b k ha hb k1 k4 hS hs
  have lim : a < NN σ ∧ b < NN σ ∧ a ≠ b := by
    cases e : scost σ a b k with
    | none => exact absurd e hs
    | some q => exact scost_lim hw hbk ha hb k1 (by omega) e
  refine ⟨hb, ?_⟩
  cases e : bt S b
  · have hM : 0 < NN σ := by omega
    have q1 : (a * NN σ + b) / NN σ = a := by rw [Nat.mul_comm, Nat.mul_add_div hM, Nat.div_eq_of_lt lim.2.1, Nat.add_zero]
    have q2 : (a * NN σ + b) % NN σ = b := by rw [Nat.mul_comm, Nat.mul_add_mod, Nat.mod_eq_of_lt lim.2.1]
    have q3 : a * NN σ + b < NN σ * NN σ := by
      have : (a + 1) * NN σ ≤ NN σ * NN σ := Nat.mul_le_mul_right _ lim.1
      rw [Nat.succ_mul] at this
      omega
    have z := hz (5 * (a * NN σ + b) + (k - 1)) (by omega)
    unfold nst at z
    rw [show (5 * (a * NN σ + b) + (k - 1)) / 5 = a * NN σ + b by omega, q1, q2, show (5 * (a * NN σ + b) + (k - 1)) % 5 = k - 1 by omega, show k - 1 + 1 = k by omega] at z
    exact absurd (z hS.2 e (by omega)) hs
  · rfl
/-- what is come to at no cost of a link back -/
theorem L_areBacks_70 (hn : 2000 < n) (f : Int32 → Int32 → Int32 → Int32 → lw_S → Option (Int32 × lw_S)) (h : CX σ0 τ T h0 h1) (x i bf : Int32) : ∀ (fu y : Nat) (S : Int32) (c : ej_S), IQ n fs σ0 tp ot c → y ≤ 5 * (NN σ0 * NN σ0) → 5 * (NN σ0 * NN σ0) - y < fu → GN σ0 hm t S → ∃ S' c', IQ n fs σ0 tp ot c' ∧ mL_areBacks_70 n f fu S x i bf (nI y) (c, τ) = f S' x i bf (c', τ) ∧ GN σ0 hm t S' ∧ (∀ i, bS S i → bS S' i) ∧ (S' = S ∨ ∃ i, bS S' i ∧ ¬ bS S i) ∧ (S' = S → ∀ y', y ≤ y' → y' < 5 * (NN σ0 * NN σ0) → nst σ0 (NN σ0) S y') := by
  intro fu
  induction fu with
  | zero => intro y S c _ _ z; omega
  | succ fu ih =>
    intro y S c hc hy hf hg
    have hw := (IQ_0 hc).1
    have hbk := SOL_bk (IQ_0 hc).2
    have h24 := NN_le hw
    have h10 := CX_10 h
    have hN := CX_NN h
    have N10 := CX_N10 h
    have hN2 : NN σ0 * NN σ0 ≤ 10 * 10 := Nat.mul_le_mul N10 N10
    have m2 : ∀ c : ej_S, gA ((c, τ) : lw_S).2 2 2 = nI (NN σ0) := fun c => CX_m2 h
    rw [u_L_areBacks_70, L_2, ck_t (by omega) (by omega), ck_t (by omega) (by omega), nI_clamp (by omega), m2, L_5, pk_mul, pk_mul, Nat.mul_assoc]
    rcases Nat.eq_or_lt_of_le hy with rfl | q
    · rw [ile_t (Nat.le_refl _) (by omega)]
      exact ⟨S, c, hc, rfl, hg, fun _ z => z, .inl rfl, fun _ y' a1 a2 => by omega⟩
    · have hN0 : 0 < NN σ0 := by
        rcases Nat.eq_zero_or_pos (NN σ0) with z | z
        · rw [z] at q; omega
        · exact z
      have hq : y / 5 < NN σ0 * NN σ0 := by omega
      have ha : y / 5 / NN σ0 < NN σ0 := Nat.div_lt_of_lt_mul hq
      have hb : y / 5 % NN σ0 < NN σ0 := Nat.mod_lt _ hN0
      have em : y / 5 - y / 5 / NN σ0 * NN σ0 = y / 5 % NN σ0 := by rw [Nat.mul_comm]; exact (Nat.mod_eq_sub_mul_div).symm
      have ek : y - y / 5 * 5 = y % 5 := by omega
      have hk5 : y % 5 < 5 := Nat.mod_lt _ (by omega)
      rw [ile_f q (by omega), ck_t (by omega) (by omega), dv_t hN0 (by omega), pk_div (by omega) (by omega) (by omega), pk_div (by omega) hN0 (by omega), ej_nm_e, ck_t (by omega) (by omega), dv_t hN0 (by omega), pk_mul, pk_sub (Nat.div_mul_le_self _ _), em, pk_mul, pk_sub (Nat.div_mul_le_self _ _), ek, ej_nm_e]
      generalize ea : y / 5 / NN σ0 = a at *
      generalize eb : y / 5 % NN σ0 = b at *
      -- no step here
      have no : ∀ (c : ej_S), IQ n fs σ0 tp ot c → nst σ0 (NN σ0) S y → ∃ S' c', IQ n fs σ0 tp ot c' ∧ mL_areBacks_158 n (mL_areBacks_70 n f fu) S x i bf (nI y) (nI b) 0 (c, τ) = f S' x i bf (c', τ) ∧ GN σ0 hm t S' ∧ (∀ i, bS S i → bS S' i) ∧ (S' = S ∨ ∃ i, bS S' i ∧ ¬ bS S i) ∧ (S' = S → ∀ y', y ≤ y' → y' < 5 * (NN σ0 * NN σ0) → nst σ0 (NN σ0) S y') := by
        intro c hc hno
        obtain ⟨S', c', i1, e1, g1, g2, g3, g4⟩ := ih (y + 1) S c hc q (by omega) hg
        refine ⟨S', c', i1, by rw [B158_0, e1], g1, g2, g3, fun z y' z1 z2 => ?_⟩
        rcases Nat.eq_or_lt_of_le z1 with w | w
        · rw [← w]; exact hno
        · exact g4 z y' w z2
      by_cases ba : bt S a = true
      · rw [if_pos ((bit_1 S (by omega)).mpr ba)]
        by_cases bb : bt S b = false
        · rw [if_pos ((bit_0 S (by omega)).mpr bb)]
          rcases Nat.lt_or_ge (y % 5) 4 with w | w
          · have hab : a ≠ b := fun z => by rw [z, bb] at ba; cases ba
            obtain ⟨c1, i1, e1, b1⟩ := L_step (n := n) (fs := fs) (tp := tp) (ot := ot) hn h ha hb hab (show 1 ≤ 1 + y % 5 by omega) (by omega) hc
            rw [L_4, ile_f w (by omega), L_1, nI_add, e1, ej_bi_s]
            cases es : scost σ0 a b (1 + y % 5) with
            | none =>
              rw [if_pos ((oI_lt0 (by intro v e; cases e)).mpr rfl)]
              refine no c1 i1 (fun _ _ _ => ?_)
              rw [ea, eb, Nat.add_comm, es]
            | some q1 =>
              rw [es] at b1
              have cb : Ct σ0 hm t b := Ct_clo4 a b (1 + y % 5) (by omega) (by omega) (by omega) (by omega) (hg.2.2.1 a ⟨by omega, ba⟩) (by rw [es]; simp)
              obtain ⟨S', c', i2, e2, g1, g2, g3, g4⟩ := ih (y + 1) (S ||| stb b) c1 i1 q (by omega) (GN_add h24 hg hb cb)
              have up : ∀ i, bS S i → bS (S ||| stb b) i := fun i hi => ⟨hi.1, by rw [bt_or S (by omega) (by have := hi.1; omega), hi.2]; rfl⟩
              have inb : bS (S ||| stb b) b := ⟨by omega, by rw [bt_or S (by omega) (by omega), decide_eq_true rfl, Bool.or_true]⟩
              have new : ∃ i, bS S' i ∧ ¬ bS S i := ⟨b, g2 b inb, fun z => by have := z.2; rw [bb] at this; cases this⟩
              refine ⟨S', c', i2, ?_, g1, fun i hi => g2 i (up i hi), .inr new, fun z => ?_⟩
              · rw [if_neg (fun z => by cases (oI_lt0 b1).mp z), ← L_1, B158_1, e2]
              · obtain ⟨i, i1, i2⟩ := new
                rw [z] at i1; exact absurd i1 i2
          · rw [L_4, ile_t w (by omega)]
            exact no c hc (fun _ _ z => by omega)
        · rw [if_neg (fun z => bb ((bit_0 S (by omega)).mp z))]
          exact no c hc (fun _ z _ => by rw [eb] at z; exact absurd z bb)
      · rw [if_neg (fun z => ba ((bit_1 S (by omega)).mp z))]
        exact no c hc (fun z _ _ => by rw [ea] at z; exact absurd z ba)
theorem cS_lt {S' : Int32} (h1 : ∀ i, bS S i → bS S' i) (h2 : ∃ i, bS S' i ∧ ¬ bS S i) : cS S < cS S' := by
  obtain ⟨i, i1, i2⟩ := h2
  have e0 : bt S i = false := by
    cases e : bt S i
    · rfl
    · exact absurd ⟨i1.1, e⟩ i2
  exact ct_lt i1.1 (fun k hk z => (h1 k ⟨hk, z⟩).2) e0 i1.2
theorem L_areBacks_56 (hn : 2000 < n) (f : Int32 → Int32 → Int32 → Int32 → lw_S → Option (Int32 × lw_S)) (h : CX σ0 τ T h0 h1) (x i : Int32) : ∀ (fu : Nat) (S bf : Int32) (c : ej_S), IQ n fs σ0 tp ot c → ((bf = S ∧ 1 ≤ fu) ∨ 26 - cS S ≤ fu) → GN σ0 hm t S → (bf = S → clo4 σ0 (bS S)) → ∃ S' c', IQ n fs σ0 tp ot c' ∧ mL_areBacks_56 n f fu S x i bf (c, τ) = mL_areBacks_194 n f n S' x i S' 0 (c', τ) ∧ GN σ0 hm t S' ∧ clo4 σ0 (bS S') := by
  intro fu
  induction fu with
  | zero =>
    intro S bf c hc hf hg hcl
    have : cS S ≤ 24 := fb_ct_le _ _
    omega
  | succ fu ih =>
    intro S bf c hc hf hg hcl
    have hw := (IQ_0 hc).1
    have hbk := SOL_bk (IQ_0 hc).2
    have h24 := NN_le hw
    have N10 := CX_N10 h
    have hN2 : NN σ0 * NN σ0 ≤ 10 * 10 := Nat.mul_le_mul N10 N10
    have hS24 : cS S ≤ 24 := fb_ct_le _ _
    rw [u_L_areBacks_56]
    by_cases z : bf = S
    · rw [if_pos z]
      exact ⟨S, c, hc, rfl, hg, hcl z⟩
    · rw [if_neg z]
      obtain ⟨S', c', i1, e1, g1, g2, g3, g4⟩ := L_areBacks_70 (n := n) hn (mL_areBacks_56 n f fu) h x i S n 0 S c hc (Nat.zero_le _) (by omega) hg
      have hf2 : 26 - cS S ≤ fu + 1 := hf.elim (fun w => absurd w.1 z) id
      have hf3 : (S = S' ∧ 1 ≤ fu) ∨ 26 - cS S' ≤ fu := by
        rcases g3 with w | w
        · exact .inl ⟨w.symm, by omega⟩
        · have := cS_lt g2 w
          exact .inr (by omega)
      obtain ⟨S2, c2, i2, e2, g5, g6⟩ := ih S' S c' i1 hf3 g1 (fun w => by
        rw [← w] at g1 ⊢
        exact GN_clo hw g1 (fun y hy => g4 w.symm y (Nat.zero_le _) hy) hbk)
      refine ⟨S2, c2, i2, ?_, g5, g6⟩
      rw [L_0, e1, e2, L_0]
theorem B307_0 (f : Int32 → Int32 → Int32 → Int32 → Int32 → lw_S → Option (Int32 × lw_S)) (S N : Int32) (s : lw_S) : mL_areBacks_307 n f S 1 N (nI y) (nI b) 0 0 (nI l) s = f S (nI l) 1 N (nI (y + 1)) s := by
  unfold mL_areBacks_307
  rw [ej_nm_e, if_pos rfl, ej_nm_e, ej_nm_e, or_0, p_1, add_0]
theorem B307_1 (f : Int32 → Int32 → Int32 → Int32 → Int32 → lw_S → Option (Int32 × lw_S)) (S N : Int32) (s : lw_S) : mL_areBacks_307 n f S 1 N (nI y) (nI b) 1 1 (nI l) s = f S (nI (l + 1)) 1 (N ||| stb b) (nI (y + 1)) s := by
  unfold mL_areBacks_307
  rw [ej_nm_e, if_neg (by decide), ej_nm_e, ej_nm_e, p_1, p_1]; rfl
theorem B265_0 (f : Int32 → Int32 → Int32 → Int32 → Int32 → lw_S → Option (Int32 × lw_S)) (S N x : Int32) (s : lw_S) : mL_areBacks_265 n f S (nI l) 1 N (nI y) x (nI b) 0 s = f S (nI l) 1 N (nI (y + 1)) s := by
  unfold mL_areBacks_265 mL_areBacks_288
  rw [if_neg (by decide), if_pos rfl, if_pos rfl, B307_0]
theorem B265_1 (f : Int32 → Int32 → Int32 → Int32 → Int32 → lw_S → Option (Int32 × lw_S)) (S N x : Int32) {z : Int32} {c' : ej_S} (e : ej_lcn (m10_isBack n x (nI b) c) ((c, τ) : lw_S) = some (z, ((c', τ) : lw_S))) (hz : z ≠ 0) : mL_areBacks_265 n f S (nI l) 1 N (nI y) x (nI b) 1 (c, τ) = f S (nI (l + 1)) 1 (N ||| stb b) (nI (y + 1)) (c', τ) := by
  unfold mL_areBacks_265 mL_areBacks_288
  rw [if_neg (by decide), if_neg (by decide), e, ej_bi_s, if_neg hz, if_neg (by decide), B307_1]
/-- the pairs that get a link back in turn t -/
def NBq (σ : ej_S) (h t : Nat) (S : Int32) (y : Nat) (N : Int32) : Prop := (∀ i, NN σ ≤ i → i < 32 → bt N i = false) ∧ ∀ i, i < 24 → (bt N i = true ↔ bt S i = true ∨ ∃ y', y' < y ∧ y' < NN σ * NN σ ∧ nb σ h t (NN σ) y' = true ∧ y' % NN σ = i)
theorem L_areBacks_194 (hn : 2000 < n) (f : Int32 → Int32 → Int32 → Int32 → lw_S → Option (Int32 × lw_S)) (h : CX σ0 τ T h0 h1) (hS : ∀ i, bS S i ↔ Ct σ0 hm t i) (h21 : ∀ a b, a < NN σ0 → b < NN σ0 → nw (sB σ0 (Xs σ0 hm t)) hm a b → gA σ0 21 (24 * a + b) ≠ nI 0) : ∀ (fu y l : Nat) (N : Int32) (c : ej_S), IQ n fs σ0 tp ot c → y ≤ NN σ0 * NN σ0 → NN σ0 * NN σ0 - y < fu → NBq σ0 hm t S y N → ∃ N' c', IQ n fs σ0 tp ot c' ∧ mL_areBacks_194 n f fu S (nI l) 1 N (nI y) (c, τ) = (if N' = S then f N' (nI (l + (fb_ct (nb σ0 hm t (NN σ0)) (NN σ0 * NN σ0) - fb_ct (nb σ0 hm t (NN σ0)) y))) 1 0 (c', τ) else f N' (nI (l + (fb_ct (nb σ0 hm t (NN σ0)) (NN σ0 * NN σ0) - fb_ct (nb σ0 hm t (NN σ0)) y))) 1 1 (c', τ)) ∧ NBq σ0 hm t S (NN σ0 * NN σ0) N' := by
  intro fu
  induction fu with
  | zero => intro y l N c _ _ z; omega
  | succ fu ih =>
    intro y l N c hc hy hf hN'
    have hw := (IQ_0 hc).1
    have h24 := NN_le hw
    have h10 := CX_10 h
    have hNN := CX_NN h
    have N10 := CX_N10 h
    have hN2 : NN σ0 * NN σ0 ≤ 10 * 10 := Nat.mul_le_mul N10 N10
    have m2 : ∀ c : ej_S, gA ((c, τ) : lw_S).2 2 2 = nI (NN σ0) := fun c => CX_m2 h
    rw [u_L_areBacks_194, L_2, ck_t (by omega) (by omega), ck_t (by omega) (by omega), nI_clamp (by omega), m2, pk_mul]
    rcases Nat.eq_or_lt_of_le hy with rfl | q
    · rw [ile_t (Nat.le_refl _) (by omega), Nat.sub_self, Nat.add_zero]
      exact ⟨N, c, hc, rfl, hN'⟩
    · have hN0 : 0 < NN σ0 := by
        rcases Nat.eq_zero_or_pos (NN σ0) with z | z
        · rw [z] at q; omega
        · exact z
      have ha : y / NN σ0 < NN σ0 := Nat.div_lt_of_lt_mul q
      have hb : y % NN σ0 < NN σ0 := Nat.mod_lt _ hN0
      have em : y - y / NN σ0 * NN σ0 = y % NN σ0 := by rw [Nat.mul_comm]; exact (Nat.mod_eq_sub_mul_div).symm
      have hct := fb_ct_succ (nb σ0 hm t (NN σ0)) y
      have hmo := fb_ct_mono (nb σ0 hm t (NN σ0)) (show y + 1 ≤ NN σ0 * NN σ0 from q)
      rw [ile_f q (by omega), ck_t (by omega) (by omega), dv_t hN0 (by omega), pk_div (by omega) hN0 (by omega), ej_nm_e, ck_t (by omega) (by omega), dv_t hN0 (by omega), pk_mul, pk_sub (Nat.div_mul_le_self _ _), em, ej_nm_e]
      have no : ∀ (c : ej_S), IQ n fs σ0 tp ot c → nb σ0 hm t (NN σ0) y = false → ∃ N' c', IQ n fs σ0 tp ot c' ∧ mL_areBacks_265 n (mL_areBacks_194 n f fu) S (nI l) 1 N (nI y) (nI (y / NN σ0)) (nI (y % NN σ0)) 0 (c, τ) = (if N' = S then f N' (nI (l + (fb_ct (nb σ0 hm t (NN σ0)) (NN σ0 * NN σ0) - fb_ct (nb σ0 hm t (NN σ0)) y))) 1 0 (c', τ) else f N' (nI (l + (fb_ct (nb σ0 hm t (NN σ0)) (NN σ0 * NN σ0) - fb_ct (nb σ0 hm t (NN σ0)) y))) 1 1 (c', τ)) ∧ NBq σ0 hm t S (NN σ0 * NN σ0) N' := by
        intro c hc hno
        rw [hno] at hct
        obtain ⟨N', c', i1, e1, g1⟩ := ih (y + 1) l N c hc q (by omega) ⟨hN'.1, fun i hi => (hN'.2 i hi).trans ⟨fun z => z.imp id (fun ⟨y', a1, a2⟩ => ⟨y', by omega, a2⟩), fun z => z.imp id (fun ⟨y', a1, a2, a3, a4⟩ => ⟨y', by
          rcases Nat.eq_or_lt_of_le (Nat.le_of_lt_succ a1) with w | w
          · rw [w, hno] at a3; cases a3
          · exact w, a2, a3, a4⟩)⟩⟩
        refine ⟨N', c', i1, ?_, g1⟩
        rw [B265_0, e1, hct]; rfl
      have key : nb σ0 hm t (NN σ0) y = true ↔ bS S (y / NN σ0) ∧ ¬ bS S (y % NN σ0) ∧ gA σ0 16 (24 * (y % NN σ0) + y / NN σ0) ≠ zm := by
        rw [nb_iff, nw_iff (by omega) (by omega), hS, hS]
      have nof : ¬ (bS S (y / NN σ0) ∧ ¬ bS S (y % NN σ0) ∧ gA σ0 16 (24 * (y % NN σ0) + y / NN σ0) ≠ zm) → nb σ0 hm t (NN σ0) y = false := fun z => by
        cases e : nb σ0 hm t (NN σ0) y
        · rfl
        · exact absurd (key.mp e) z
      by_cases ba : bt S (y / NN σ0) = true
      · rw [if_pos ((bit_1 S (by omega)).mpr ba)]
        by_cases bb : bt S (y % NN σ0) = false
        · obtain ⟨p16, _⟩ := h.2.2.2.2.2 (y % NN σ0) (y / NN σ0) (by omega) (by omega)
          have ex : ∀ c : ej_S, gA ((c, τ) : lw_S).2 1 (y / NN σ0) = nI ((e_ns (e_L T h0 h1 12)).getD (y / NN σ0) 0) := fun c => CX_x h ha
          have ey : ∀ c : ej_S, gA ((c, τ) : lw_S).2 1 (y % NN σ0) = nI ((e_ns (e_L T h0 h1 12)).getD (y % NN σ0) 0) := fun c => CX_x h hb
          have bx := CX_b h ha
          have byy := CX_b h hb
          obtain ⟨e0, b0⟩ := L_told (n := n) (c := c) hn h.1 (show 0 < 5 by omega) (show (e_ns (e_L T h0 h1 12)).getD (y % NN σ0) 0 < 2 ^ 31 by omega) (show (e_ns (e_L T h0 h1 12)).getD (y / NN σ0) 0 < 2 ^ 31 by omega)
          rw [if_pos ((bit_0 S (by omega)).mpr bb), ck_t (by omega) (by omega), ck_t (by omega) (by omega), nI_clamp (by omega), nI_clamp (by omega), ex, ey]
          rw [show mL_told n 0 (nI ((e_ns (e_L T h0 h1 12)).getD (y % NN σ0) 0)) (nI ((e_ns (e_L T h0 h1 12)).getD (y / NN σ0) 0)) (c, τ) = mL_told n (nI 0) (nI ((e_ns (e_L T h0 h1 12)).getD (y % NN σ0) 0)) (nI ((e_ns (e_L T h0 h1 12)).getD (y / NN σ0) 0)) (c, τ) by rw [← L_0], e0, ej_bi_s]
          have tz : oI (e_td (e_L T h0 h1 12) 0 ((e_ns (e_L T h0 h1 12)).getD (y % NN σ0) 0) ((e_ns (e_L T h0 h1 12)).getD (y / NN σ0) 0)) < 0 ↔ gA σ0 16 (24 * (y % NN σ0) + y / NN σ0) = zm := by
            rw [oI_lt0 b0, p16]
            exact ⟨fun z => by rw [z]; rfl, fun z => by
              cases e : e_td (e_L T h0 h1 12) 0 ((e_ns (e_L T h0 h1 12)).getD (y % NN σ0) 0) ((e_ns (e_L T h0 h1 12)).getD (y / NN σ0) 0) with
              | none => rfl
              | some q =>
                rw [e] at z
                have := b0 q e
                exact absurd z (zm_ne (by omega))⟩
          by_cases w : gA σ0 16 (24 * (y % NN σ0) + y / NN σ0) = zm
          · rw [if_pos (tz.mpr w)]
            exact no c hc (nof (fun z => z.2.2 w))
          · have on : nb σ0 hm t (NN σ0) y = true := key.mpr ⟨⟨by omega, ba⟩, fun z => (by have := z.2; rw [bb] at this; cases this), w⟩
            rw [on] at hct
            obtain ⟨z, c1, i1, zz, e1⟩ := a_isBack (n := n) (fs := fs) (tp := tp) (ot := ot) hn ha hb c hc
            have hz : z ≠ 0 := fun y => h21 _ _ ha hb (nb_iff.mp on) (zz.mp y)
            obtain ⟨N', c', i2, e2, g1⟩ := ih (y + 1) (l + 1) (N ||| stb (y % NN σ0)) c1 i1 q (by omega) ⟨fun i a1 a2 => by rw [bt_or N (by omega) a2, hN'.1 i a1 a2, decide_eq_false (by omega)]; rfl, fun i hi => by
              rw [bt_or N (by omega) (by omega), Bool.or_eq_true, decide_eq_true_eq, hN'.2 i hi]
              constructor
              · rintro ((z | ⟨y', a1, a2⟩) | z)
                · exact .inl z
                · exact .inr ⟨y', by omega, a2⟩
                · exact .inr ⟨y, by omega, q, on, z.symm⟩
              · rintro (z | ⟨y', a1, a2, a3, a4⟩)
                · exact .inl (.inl z)
                · rcases Nat.eq_or_lt_of_le (Nat.le_of_lt_succ a1) with w | w
                  · exact .inr (by rw [← a4, w])
                  · exact .inl (.inr ⟨y', w, a2, a3, a4⟩)⟩
            refine ⟨N', c', i2, ?_, g1⟩
            rw [if_neg (fun y => w (tz.mp y)), B265_1 _ _ _ _ (e1 τ) hz, e2, hct]
            have ee : l + 1 + (fb_ct (nb σ0 hm t (NN σ0)) (NN σ0 * NN σ0) - (fb_ct (nb σ0 hm t (NN σ0)) y + if true = true then 1 else 0)) = l + (fb_ct (nb σ0 hm t (NN σ0)) (NN σ0 * NN σ0) - fb_ct (nb σ0 hm t (NN σ0)) y) := by
              rw [if_pos rfl] at hct ⊢; omega
            rw [ee]
        · rw [if_neg (fun z => bb ((bit_0 S (by omega)).mp z))]
          exact no c hc (nof (fun z => z.2.1 ⟨by omega, by cases e : bt S (y % NN σ0) <;> simp_all⟩))
      · rw [if_neg (fun z => ba ((bit_1 S (by omega)).mp z))]
        exact no c hc (nof (fun z => ba z.1.2))
theorem B456 (f : Int32 → Int32 → Int32 → Int32 → lw_S → Option (Int32 × lw_S)) (S x z : Int32) (s : lw_S) : mL_areBacks_456 n f S x (nI a) z z s = f S x 1 (nI (a + 1)) s := by
  unfold mL_areBacks_456
  rw [if_pos rfl, ej_nm_e, p_1]
theorem L_areBacks_413 (hn : 2000 < n) (h : CX σ0 τ T h0 h1) (hX : WXX σ0 D) (hS : ∀ a, a < NN σ0 → (bt S a = true ↔ D (4 * a) < iF)) : ∀ (fu a : Nat) (c : ej_S), IQ n fs σ0 tp ot c → a ≤ NN σ0 → NN σ0 - a < fu → ∃ c', IQ n fs σ0 tp ot c' ∧ mL_areBacks_413 n fu S (nI 0) 1 (nI a) (c, τ) = some (nI 1, (c', τ)) := by
  intro fu
  induction fu with
  | zero => intro a c _ _ z; omega
  | succ fu ih =>
    intro a c hc ha hf
    have hw := (IQ_0 hc).1
    have h24 := NN_le hw
    have m2 : ∀ c : ej_S, gA ((c, τ) : lw_S).2 2 2 = nI (NN σ0) := fun c => CX_m2 h
    rw [u_L_areBacks_413, L_2, ck_t (by omega) (by omega), nI_clamp (by omega), m2]
    rcases Nat.eq_or_lt_of_le ha with rfl | q
    · rw [ile_t (Nat.le_refl _) (by omega)]
      unfold mL_areBacks_472
      rw [if_neg (by decide), L_0, if_pos rfl, L_1]
      exact ⟨c, hc, rfl⟩
    · obtain ⟨c1, i1, e1⟩ := a_cost (n := n) (fs := fs) (tp := tp) (ot := ot) hn hX.1 hX.2.1 q c hc
      obtain ⟨c2, i2, e2⟩ := ih (a + 1) c1 i1 q (by omega)
      refine ⟨c2, i2, ?_⟩
      rw [ile_f q (by omega), if_neg (by decide), e1 τ, ej_bi_s]
      unfold mL_areBacks_440
      by_cases fa : D (4 * a) < iF
      · rw [show oc D a = some (D (4 * a) / 1024) from if_pos fa, if_neg (fun z => by cases (oI_lt0 (show oB (some (D (4 * a) / 1024)) by rw [← show oc D a = some (D (4 * a) / 1024) from if_pos fa]; exact oc_B hX (by omega))).mp z), if_pos ((bit_1 S (by omega)).mpr ((hS a q).mpr fa)), B456, e2]
      · rw [show oc D a = none from if_neg fa, if_pos ((oI_lt0 (by intro v e; cases e)).mpr rfl), if_neg (fun z => fa ((hS a q).mp ((bit_1 S (by omega)).mp z))), B456, e2]
/-- no link back more or less -/
theorem L_areBacks_358 (hn : 2000 < n) (h : CX σ0 τ T h0 h1) (hX : WXX σ0 D) (hS : ∀ a, a < NN σ0 → (bt S a = true ↔ D (4 * a) < iF)) : ∀ (fu y : Nat) (c : ej_S), IQ n fs σ0 tp ot c → y ≤ NN σ0 * NN σ0 → NN σ0 * NN σ0 - y < fu → ∃ c', IQ n fs σ0 tp ot c' ∧ mL_areBacks_358 n fu S (nI (fb_ct (xb (gA σ0 21) (NN σ0)) (NN σ0 * NN σ0) - fb_ct (xb (gA σ0 21) (NN σ0)) y)) 1 (nI y) (c, τ) = some (nI 1, (c', τ)) := by
  intro fu
  induction fu with
  | zero => intro y c _ _ z; omega
  | succ fu ih =>
    intro y c hc hy hf
    have hw := (IQ_0 hc).1
    have h24 := NN_le hw
    have N10 := CX_N10 h
    have hN2 : NN σ0 * NN σ0 ≤ 10 * 10 := Nat.mul_le_mul N10 N10
    have m2 : ∀ c : ej_S, gA ((c, τ) : lw_S).2 2 2 = nI (NN σ0) := fun c => CX_m2 h
    rw [u_L_areBacks_358, L_2, ck_t (by omega) (by omega), ck_t (by omega) (by omega), nI_clamp (by omega), m2, pk_mul]
    rcases Nat.eq_or_lt_of_le hy with rfl | q
    · obtain ⟨c1, i1, e1⟩ := L_areBacks_413 (n := n) (fs := fs) (tp := tp) (ot := ot) hn h hX hS n 0 c hc (Nat.zero_le _) (by omega)
      refine ⟨c1, i1, ?_⟩
      rw [ile_t (Nat.le_refl _) (by omega), Nat.sub_self, L_0]
      exact e1
    · have hN0 : 0 < NN σ0 := by
        rcases Nat.eq_zero_or_pos (NN σ0) with z | z
        · rw [z] at q; omega
        · exact z
      have ha : y / NN σ0 < NN σ0 := Nat.div_lt_of_lt_mul q
      have hb : y % NN σ0 < NN σ0 := Nat.mod_lt _ hN0
      have em : y - y / NN σ0 * NN σ0 = y % NN σ0 := by rw [Nat.mul_comm]; exact (Nat.mod_eq_sub_mul_div).symm
      obtain ⟨z, c1, i1, zz, e1⟩ := a_isBack (n := n) (fs := fs) (tp := tp) (ot := ot) hn ha hb c hc
      obtain ⟨c2, i2, e2⟩ := ih (y + 1) c1 i1 q (by omega)
      have hct := fb_ct_succ (xb (gA σ0 21) (NN σ0)) y
      have hmo := fb_ct_mono (xb (gA σ0 21) (NN σ0)) (show y + 1 ≤ NN σ0 * NN σ0 from q)
      refine ⟨c2, i2, ?_⟩
      rw [ile_f q (by omega), if_neg (by decide), ck_t (by omega) (by omega), dv_t hN0 (by omega), ck_t (by omega) (by omega), dv_t hN0 (by omega), pk_div (by omega) hN0 (by omega), pk_mul, pk_sub (Nat.div_mul_le_self _ _), em, e1 τ, ej_bi_s]
      by_cases w : gA σ0 21 (24 * (y / NN σ0) + y % NN σ0) = nI 0
      · have xf : xb (gA σ0 21) (NN σ0) y = false := decide_eq_false (fun z => z w)
        rw [xf] at hct
        rw [L_0, if_pos (zz.mpr w), ej_nm_e, ej_nm_e, p_1, show nI (fb_ct (xb (gA σ0 21) (NN σ0)) (NN σ0 * NN σ0) - fb_ct (xb (gA σ0 21) (NN σ0)) y) - nI 0 = nI (fb_ct (xb (gA σ0 21) (NN σ0)) (NN σ0 * NN σ0) - fb_ct (xb (gA σ0 21) (NN σ0)) (y + 1)) by rw [pk_sub (Nat.zero_le _), hct]; rfl]
        exact e2
      · have xt : xb (gA σ0 21) (NN σ0) y = true := decide_eq_true w
        rw [xt, if_pos rfl] at hct
        rw [L_0, if_neg (fun y => w (zz.mp y)), ej_nm_e, ej_nm_e, p_1, show nI (fb_ct (xb (gA σ0 21) (NN σ0)) (NN σ0 * NN σ0) - fb_ct (xb (gA σ0 21) (NN σ0)) y) - 1 = nI (fb_ct (xb (gA σ0 21) (NN σ0)) (NN σ0 * NN σ0) - fb_ct (xb (gA σ0 21) (NN σ0)) (y + 1)) by rw [L_1, pk_sub (by omega)]; congr 1; omega]
        exact e2
/-- turn by turn -/
theorem L_areBacks_43 {T0 : Nat} (hn : 2000 < n) (h : CX σ0 τ T h0 h1) (hX : WXX σ0 D) (hh : homeAt σ0 hm) (hT : nn σ0 hm T0) (h21 : ∀ a b, a < 24 → b < 24 → gA σ0 21 (24 * a + b) = Xs σ0 hm T0 (24 * a + b)) (hsol : sol (Ed σ0) (4 * hm) D) : ∀ (fu t : Nat) (S : Int32) (c : ej_S), IQ n fs σ0 tp ot c → t ≤ T0 → T0 - t < fu → GN σ0 hm t S → ∃ c', IQ n fs σ0 tp ot c' ∧ mL_areBacks_43 n (fu + 1) S (nI (fb_ct (xb (Xs σ0 hm t) (NN σ0)) (NN σ0 * NN σ0))) 1 1 (c, τ) = some (nI 1, (c', τ)) := by
  intro fu
  induction fu with
  | zero => intro t S c _ _ z; omega
  | succ fu ih =>
    intro t S c hc ht hf hg
    have hw := (IQ_0 hc).1
    have hs := (IQ_0 hc).2
    have h24 := NN_le hw
    have N10 := CX_N10 h
    have hN2 : NN σ0 * NN σ0 ≤ 10 * 10 := Nat.mul_le_mul N10 N10
    rw [u_L_areBacks_43, if_neg (by decide), if_neg (by decide)]
    have hS24 : cS S ≤ 24 := fb_ct_le _ _
    have hS0 : (0 : Int32) ≠ S := fun z => by
      have := hg.1.2
      rw [← z] at this
      rw [show bt 0 hm = false from b_0 hm] at this
      cases this
    obtain ⟨S1, c1, i1, e1, g1, g2⟩ := L_areBacks_56 (n := n) hn (mL_areBacks_43 n (fu + 1)) h (nI (fb_ct (xb (Xs σ0 hm t) (NN σ0)) (NN σ0 * NN σ0))) 1 n S 0 c hc (.inr (by omega)) hg (fun z => absurd z hS0)
    have hS : ∀ i, bS S1 i ↔ Ct σ0 hm t i := fun i => ⟨g1.2.2.1 i, g1.2.2.2 _ g2 (fun _ z => z) i⟩
    have hlt : ∀ a b, nw (sB σ0 (Xs σ0 hm t)) hm a b → t < T0 := fun a b w => by
      rcases Nat.eq_or_lt_of_le ht with z | z
      · rw [z] at w; exact absurd w (hT a b)
      · exact z
    obtain ⟨N', c2, i2, e2, q1, q2⟩ := L_areBacks_194 (n := n) hn (mL_areBacks_43 n (fu + 1)) h hS (fun a b ha hb w => by
      rw [h21 a b (by omega) (by omega)]
      refine Xs_keep (hlt a b w) ?_
      show nx σ0 hm (Xs σ0 hm t) _ ≠ nI 0
      rw [nx_new w]; exact n10) n 0 (fb_ct (xb (Xs σ0 hm t) (NN σ0)) (NN σ0 * NN σ0)) S1 c1 i1 (Nat.zero_le _) (by omega) ⟨g1.2.1, fun i hi => ⟨fun z => .inl z, fun z => z.elim id (fun ⟨y', a1, _⟩ => by omega)⟩⟩
    rw [show fb_ct (nb σ0 hm t (NN σ0)) 0 = 0 from rfl, Nat.sub_zero, ← xb_count (by omega)] at e2
    rw [e1, L_0, e2]
    have bN : ∀ i, bS N' i ↔ bS S1 i ∨ ∃ y', y' < NN σ0 * NN σ0 ∧ nb σ0 hm t (NN σ0) y' = true ∧ y' % NN σ0 = i := fun i => ⟨fun z => ((q2 i z.1).mp z.2).imp (fun y => ⟨z.1, y⟩) (fun ⟨y', _, a⟩ => ⟨y', a⟩), fun z => z.elim (fun y => ⟨y.1, (q2 i y.1).mpr (.inl y.2)⟩) (fun ⟨y', a1, a2, a3⟩ => by
      have hN0 : 0 < NN σ0 := by
        rcases Nat.eq_zero_or_pos (NN σ0) with z | z
        · rw [z] at a1; omega
        · exact z
      have hb : y' % NN σ0 < NN σ0 := Nat.mod_lt _ hN0
      have hi : i < 24 := by omega
      exact ⟨hi, (q2 i hi).mpr (.inr ⟨y', a1, a1, a2, a3⟩)⟩)⟩
    have hbk := bkOK_Xs σ0 hm t
    have tg : ∀ a b, nw (sB σ0 (Xs σ0 hm t)) hm a b → bS N' b := fun a b w => by
      have w2 := (nw_iff w.1 w.2.1).mp w
      have la : a < NN σ0 := Ct_lim hw hh.1 a w2.1
      have lb : b < NN σ0 := by
        have := Ct_lim (t := t + 1) hw hh.1 b (Ct_tgt w.1 w.2.1 w)
        exact this
      have hM : 0 < NN σ0 := by omega
      have q1' : (a * NN σ0 + b) / NN σ0 = a := by rw [Nat.mul_comm, Nat.mul_add_div hM, Nat.div_eq_of_lt lb, Nat.add_zero]
      have q2' : (a * NN σ0 + b) % NN σ0 = b := by rw [Nat.mul_comm, Nat.mul_add_mod, Nat.mod_eq_of_lt lb]
      have q3 : a * NN σ0 + b < NN σ0 * NN σ0 := by
        have : (a + 1) * NN σ0 ≤ NN σ0 * NN σ0 := Nat.mul_le_mul_right _ la
        rw [Nat.succ_mul] at this
        omega
      exact (bN b).mpr (.inr ⟨a * NN σ0 + b, q3, by rw [nb_iff, q1', q2']; exact w, q2'⟩)
    by_cases z : N' = S1
    · have hnn : nn σ0 hm t := fun a b w => by
        have := tg a b w
        rw [z, hS] at this
        exact w.2.2.1 this
      have eX : Xs σ0 hm t = Xs σ0 hm T0 := Xs_one hnn hT
      have e1' : Xs σ0 hm (t + 1) = Xs σ0 hm T0 := by rw [Xs_stop hnn, eX]
      have cg : fb_ct (xb (gA σ0 21) (NN σ0)) (NN σ0 * NN σ0) = fb_ct (xb (Xs σ0 hm (t + 1)) (NN σ0)) (NN σ0 * NN σ0) := fb_ct_cong (fun y hy => by
        have hN0 : 0 < NN σ0 := by
          rcases Nat.eq_zero_or_pos (NN σ0) with z | z
          · rw [z] at hy; omega
          · exact z
        have ha : y / NN σ0 < NN σ0 := Nat.div_lt_of_lt_mul hy
        have hb : y % NN σ0 < NN σ0 := Nat.mod_lt _ hN0
        unfold xb
        rw [e1', h21 _ _ (by omega) (by omega)])
      obtain ⟨c3, i3, e3⟩ := L_areBacks_358 (n := n) (fs := fs) (tp := tp) (ot := ot) (S := S1) hn h hX (fun a ha => by
        rw [D_cl h hw hs hX hh h21 hsol ha, show Ct σ0 hm T0 a ↔ Ct σ0 hm t a by unfold Ct; rw [eX], ← hS]
        exact ⟨fun z => ⟨by omega, z⟩, fun z => z.2⟩) n 0 c2 i2 (Nat.zero_le _) (by omega)
      refine ⟨c3, i3, ?_⟩
      rw [if_pos z, u_L_areBacks_43, if_pos rfl, ← cg, z, L_0]
      exact e3
    · have hex : ∃ y', y' < NN σ0 * NN σ0 ∧ nb σ0 hm t (NN σ0) y' = true := by
        refine Classical.byContradiction fun no => z ?_
        refine b_ext fun i hi => ?_
        rcases Nat.lt_or_ge i 24 with w | w
        · have q := q2 i w
          cases e : bt S1 i
          · rw [e] at q
            cases e2 : bt N' i
            · rfl
            · rcases q.mp e2 with y | ⟨y', a1, a2, a3, _⟩
              · cases y
              · exact absurd ⟨y', a2, a3⟩ no
          · exact q.mpr (.inl e)
        · rw [q1 i (by omega) hi]; exact (g1.2.1 i (by omega) hi).symm
      obtain ⟨y', y1, y2⟩ := hex
      have hTt := hlt _ _ (nb_iff.mp y2)
      have g' : GN σ0 hm (t + 1) N' := ⟨(bN hm).mpr (.inl g1.1), q1, fun i hi => (by
        rcases (bN i).mp hi with w | ⟨y', a1, a2, a3⟩
        · exact Ct_grow i ((hS i).mp w)
        · have w := nb_iff.mp a2
          rw [← a3]
          exact Ct_tgt w.1 w.2.1 w), fun Y hY hs x hx => Ct_next hY (fun x hx => hs x ((bN x).mpr (.inl ((hS x).mpr hx)))) (fun a b ha hb w => hs b (tg a b w)) x hx⟩
      obtain ⟨c3, i3, e3⟩ := ih (t + 1) N' c2 i2 hTt (by omega) g'
      refine ⟨c3, i3, ?_⟩
      rw [if_neg z]
      exact e3
theorem L_areBacks (hn : 2000 < n) (h : CX σ0 τ T h0 h1) (hX : WXX σ0 D) {hm : Nat} (hm10 : hm < 10) (h3 : gA τ 2 3 = nI hm) (hJ : gJ σ0 1 = lN (97 + hm)) (hc : IQ n fs σ0 tp ot c) : ∃ c', IQ n fs σ0 tp ot c' ∧ mL_areBacks n (c, τ) = some (nI 1, (c', τ)) := by
  have hw := (IQ_0 hc).1
  have hs := (IQ_0 hc).2
  have h24 := NN_le hw
  have N10 := CX_N10 h
  have hN2 : NN σ0 * NN σ0 ≤ 10 * 10 := Nat.mul_le_mul N10 N10
  have m3 : ∀ c : ej_S, gA ((c, τ) : lw_S).2 2 3 = nI hm := fun c => h3
  have ho := hm_of h hm10 hJ
  have hB : oB (e_ix (e_ns (e_L T h0 h1 12)) hm) := ix_oB _ (CX_10 h) _
  unfold mL_areBacks
  rw [L_3, ck_t (by omega) (by omega), nI_clamp (by omega), m3, L_node hn h.2.1 (by omega), ej_bi_s, L_0]
  unfold mL_areBacks_23
  cases e : e_ix (e_ns (e_L T h0 h1 12)) hm with
  | none =>
    rw [e] at ho hB
    rcases hX.2.2 with ⟨z1, z2, z3⟩ | ⟨hh, t, z1, z2, z3, z4, z5⟩
    · obtain ⟨c3, i3, e3⟩ := L_areBacks_358 (n := n) (fs := fs) (tp := tp) (ot := ot) (S := 0) hn h hX (fun a ha => by
        rw [z2 (4 * a) (by omega), show bt 0 a = false from b_0 a]
        exact ⟨fun z => (by cases z), fun z => absurd z (Nat.lt_irrefl _)⟩) n 0 c hc (Nat.zero_le _) (by omega)
      refine ⟨c3, i3, ?_⟩
      have zc : fb_ct (xb (gA σ0 21) (NN σ0)) (NN σ0 * NN σ0) = 0 := fb_ct_zero.mpr (fun y hy => by
        have hN0 : 0 < NN σ0 := by
          rcases Nat.eq_zero_or_pos (NN σ0) with z | z
          · rw [z] at hy; omega
          · exact z
        have ha : y / NN σ0 < NN σ0 := Nat.div_lt_of_lt_mul hy
        have hb : y % NN σ0 < NN σ0 := Nat.mod_lt _ hN0
        exact decide_eq_false (fun z => z (z3 _ _ (by omega) (by omega))))
      obtain ⟨m, hm'⟩ : ∃ m, n = m + 1 := ⟨n - 1, by omega⟩
      rw [zc, Nat.zero_sub] at e3
      rw [if_neg (fun z => (oI_ge hB).mp z rfl), if_pos ((oI_lt0 hB).mpr rfl), ← L_0]
      rw [← L_0] at e3
      rw [hm'] at e3 ⊢
      rw [u_L_areBacks_43, if_pos rfl]
      exact e3
    · exact absurd ⟨z1.2.1, z1.2.2⟩ (ho hh z1.1)
  | some hh =>
    rw [e] at ho hB
    have h20 := (e_ix_some e).1
    rw [← CX_NN h] at h20
    rcases hX.2.2 with ⟨z1, z2, z3⟩ | ⟨h', t, z1, z2, z3, z4, z5⟩
    · exact absurd ⟨ho.2.1, ho.2.2⟩ (z1 hh ho.1)
    · have eh : h' = hh := by
        obtain ⟨N, h0', h15, _, _, _, w3, _⟩ := id hw
        have hN := NN_eq h15 h0'
        exact uni_eq w3 (by rw [← hN]; exact z1.1) (by rw [← hN]; exact ho.1) ⟨z1.2.1, z1.2.2⟩ ⟨ho.2.1, ho.2.2⟩
      rw [eh] at z1 z2 z3 z4
      obtain ⟨T1, t1, t2⟩ := nn_ex σ0 hh
      have eX : Xs σ0 hh T1 = Xs σ0 hh t := Xs_one t2 z2
      have b1 : ∀ i, i < 24 → (bt (stb hh) i = true ↔ i = hh) := fun i hi => by rw [bt_stb (by omega) (by omega), decide_eq_true_eq]
      have g0 : GN σ0 hh 0 (stb hh) := ⟨⟨by omega, (b1 hh (by omega)).mpr rfl⟩, fun i i1 i2 => by rw [bt_stb (by omega) i2, decide_eq_false (by omega)], fun i hi => by rw [(b1 i hi.1).mp hi.2]; exact Ct_h, fun Y hY hs x hx => Ct_0 hY (hs hh ⟨by omega, (b1 hh (by omega)).mpr rfl⟩) x hx⟩
      obtain ⟨m, hm'⟩ : ∃ m, n = m + 1 := ⟨n - 1, by omega⟩
      obtain ⟨c3, i3, e3⟩ := L_areBacks_43 (n := n) (fs := fs) (tp := tp) (ot := ot) hn h hX z1 t2 (fun a b ha hb => by rw [z3 a b ha hb, eX]) z4 m 0 (stb hh) c hc (Nat.zero_le _) (by omega) g0
      refine ⟨c3, i3, ?_⟩
      rw [xb_zero] at e3
      rw [if_pos ((oI_ge hB).mpr (by simp)), if_neg (fun z => by cases (oI_lt0 hB).mp z)]
      rw [hm'] at e3 ⊢
      exact e3
end P97k
