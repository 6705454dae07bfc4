/-! WHAT IS PRINTED, BY THE LAW -/
def plw (g : Nat → Option Nat) : Nat → List Nat
  | 0 => []
  | i + 1 => plw g i ++ (match g i with | none => [] | some x => [97 + x, 33])
theorem plw_n {g : Nat → Option Nat} {i : Nat} (h : g i = none) : plw g (i + 1) = plw g i := by
  show plw g i ++ (match g i with | none => [] | some x => [97 + x, 33]) = _
  rw [h]; exact List.append_nil _
theorem plw_s {g : Nat → Option Nat} {i x : Nat} (h : g i = some x) : plw g (i + 1) = plw g i ++ [97 + x, 33] := by
  show plw g i ++ (match g i with | none => [] | some x => [97 + x, 33]) = _
  rw [h]
theorem plw_pre {g : Nat → Option Nat} {i : Nat} : ∀ (j : Nat), i ≤ j → ∃ r, plw g j = plw g i ++ r := by
  intro j
  induction j with
  | zero => intro h; rw [Nat.le_zero.mp h]; exact ⟨[], (List.append_nil _).symm⟩
  | succ j ih =>
    intro h
    rcases Nat.eq_or_lt_of_le h with rfl | q
    · exact ⟨[], (List.append_nil _).symm⟩
    · obtain ⟨r, e⟩ := ih (by omega)
      exact ⟨r ++ (match g j with | none => [] | some x => [97 + x, 33]), by
        show plw g j ++ _ = _
        rw [e, List.append_assoc]⟩
theorem plw_len {g : Nat → Option Nat} : ∀ (j : Nat), (plw g j).length ≤ 2 * j := by
  intro j
  induction j with
  | zero => exact Nat.le_refl _
  | succ j ih =>
    cases e : g j with
    | none => rw [plw_n e]; omega
    | some x => rw [plw_s e, List.length_append]; show _ + 2 ≤ _; omega
theorem gD_app {l r : List Nat} {x d : Nat} : (l ++ x :: r).getD l.length d = x := by
  rw [List.getD_eq_getElem?_getD, List.getElem?_append_right (Nat.le_refl _), Nat.sub_self]; rfl
theorem gD_ge {l : List Nat} {i d : Nat} (h : l.length ≤ i) : l.getD i d = d := by
  rw [List.getD_eq_getElem?_getD, List.getElem?_eq_none h]; rfl
/-- what is told of members makes a net -/
theorem td_net (L : List St) (x y : Nat) (h : e_td L 2 x y ≠ none) : e_net L x = true := by
  have key : ∀ (L : List St) (o : Option Nat), L.foldl (e_t1 2 x y) o ≠ none → o ≠ none ∨ L.any (e_nt x) = true := by
    intro L
    induction L with
    | nil => intro o h; exact .inl h
    | cons s r ih =>
      intro o h
      rcases ih _ h with q | q
      · unfold e_t1 at q
        by_cases z : e_is 2 x y s = true
        · refine .inr ?_
          unfold e_is at z
          simp only [decide_eq_true_eq] at z
          rw [List.any_cons]
          unfold e_nt
          rw [decide_eq_true ⟨z.1, z.2.1⟩]; rfl
        · rw [if_neg z] at q; exact .inl q
      · exact .inr (by rw [List.any_cons, q, Bool.or_true])
  rcases key L none h with q | q
  · exact absurd rfl q
  · exact q
section P97l
variable {n a b k h0 h1 v p : Nat} {fs : Nat → List Nat} {σ σ0 σr c τ : ej_S} {tp ot : List Nat} {T : Nat → Nat} {D rt : Nat → Nat}
/-- a byte of the out -/
theorem L_out (hn : 2000 < n) (hp : p < 9600) (hc : IQ n fs σ0 tp ot c) : ∃ c', IQ n fs σ0 tp ot c' ∧ ∀ τ : ej_S, mL_out n (nI p) ((c, τ) : lw_S) = some (nI (ot.getD p 0), ((c', τ) : lw_S)) := by
  obtain ⟨c', i1, e1⟩ := a_word (n := n) (fs := fs) (tp := tp) (ot := ot) (w := p / 8) (σ0 := σ0) hn (by omega) c hc
  refine ⟨c', i1, fun τ => ?_⟩
  obtain ⟨σr, _, _, _, _, hx⟩ := hc
  have hb : ∀ b ∈ (ot.drop (8 * (p / 8))).take 8, b < 256 := fun b hb => hx.2.2.2 b (List.mem_of_mem_drop (List.mem_of_mem_take hb))
  unfold mL_out
  rw [L_8, pk_div (by omega) (by omega) (by omega)]
  show ej_bl (ej_lc (m10_word n (nI (p / 8)) c) (c, τ)) _ = _
  rw [e1 τ, ej_bl_s, pk_mul, pk_sub (by omega), pk_mul, show p - p / 8 * 8 = p % 8 by omega, sshr_b (Nat.mod_lt _ (by omega)), Nat.pow_mul, show 2 ^ 8 = 256 from rfl, pkL_at _ _ hb]
  have e : ((ot.drop (8 * (p / 8))).take 8).getD (p % 8) 0 = ot.getD p 0 := by
    rw [List.getD_eq_getElem?_getD, List.getElem?_take, if_pos (Nat.mod_lt _ (by omega)), List.getElem?_drop, show 8 * (p / 8) + p % 8 = p by omega, ← List.getD_eq_getElem?_getD]
  rw [e]
/-- what is printed for a step -/
noncomputable def pg (σ : ej_S) (X : List Nat) (rt : Nat → Nat) (i : Nat) : Option Nat := if (vl (gA σ 26 (rt (i + 1))) = 2 ∨ 4 ≤ vl (gA σ 26 (rt (i + 1)))) ∧ kdN σ (rt (i + 1) / 4) = 0 then some (X.getD (rt (i + 1) / 4) 0) else none
theorem lft_lw (h : CX σ0 τ T h0 h1) (hX : WXX σ0 D) (hw : wfR σ0) (hs : SOL σ0) (hp : RT0 σ0 D a rt) : ∀ i, i ≤ D (4 * a) % 1024 → lft σ0 rt (fun j => vl (gA σ0 26 (rt j))) i = plw (pg σ0 (e_ns (e_L T h0 h1 12)) rt) i ∧ rgt σ0 rt (fun j => vl (gA σ0 26 (rt j))) i = [] := by
  intro i
  induction i with
  | zero => intro _; exact ⟨rfl, rfl⟩
  | succ i ih =>
    intro hi
    obtain ⟨i1, i2⟩ := ih (by omega)
    obtain ⟨x, y, kd, q, x1, y1, x2, y2, xy, k1, k5, g1, g2, g3⟩ := RT_step h hX hw hs hp (show i < D (4 * a) % 1024 by omega)
    have sb := CX_sb h x2 y2 k1 k5 (by rw [g1]; simp)
    have m2 : mkN σ0 x y kd ≠ 2 := fun z => by
      unfold sbN at sb
      rw [if_pos z] at sb
      omega
    have ev : vl (gA σ0 26 (rt (i + 1))) = kd := by rw [g2]; exact vl_nI (by omega)
    have ek : mkA σ0 rt (fun j => vl (gA σ0 26 (rt j))) i = if kdN σ0 y = 0 then mkN σ0 x y kd else 0 := by
      unfold mkA
      rw [x1, y1, show 4 * x / 4 = x by omega, show 4 * y / 4 = y by omega]
      show (if kdN σ0 y = 0 then mkN σ0 x y (vl (gA σ0 26 (rt (i + 1)))) else 0) = _
      rw [ev]
    have eg : pg σ0 (e_ns (e_L T h0 h1 12)) rt i = if (kd = 2 ∨ 4 ≤ kd) ∧ kdN σ0 y = 0 then some ((e_ns (e_L T h0 h1 12)).getD y 0) else none := by
      unfold pg
      rw [ev, y1, show 4 * y / 4 = y by omega]
    have em : mkN σ0 x y kd = if kd = 2 ∨ 4 ≤ kd then 1 else 0 := by
      by_cases z : kd = 2 ∨ 4 ≤ kd
      · rw [if_pos z]
        unfold mkN at m2 ⊢
        by_cases k2 : kd = 2
        · rw [if_pos k2] at m2 ⊢
          by_cases w : gA σ0 17 (24 * x + y) = nI 0
          · rw [if_pos w]
          · rw [if_neg w] at m2; exact absurd rfl m2
        · rw [if_neg k2] at m2 ⊢
          by_cases k4 : kd = 4
          · rw [if_pos k4] at m2 ⊢
            by_cases w : gA σ0 13 x = nI 0
            · rw [if_pos w] at m2; exact absurd rfl m2
            · rw [if_neg w]
          · rw [if_neg k4, if_pos (show kd = 5 by omega)]
      · rw [if_neg z]
        unfold mkN
        rw [if_neg (show ¬ kd = 2 by omega), if_neg (show ¬ kd = 4 by omega), if_neg (show ¬ kd = 5 by omega)]
    have enm : nmW σ0 rt (fun j => vl (gA σ0 26 (rt j))) (i + 1) = [97 + (e_ns (e_L T h0 h1 12)).getD y 0] := by
      have ed : dmA σ0 rt i = false := by unfold dmA; rw [x1, show 4 * x / 4 = x by omega]; exact CX_dm h x2
      unfold nmW nmA
      rw [show chn σ0 rt (fun j => vl (gA σ0 26 (rt j))) (i + 1) = [] from if_neg (by unfold cfd; rw [ed, Bool.and_false]; decide), List.append_nil, y1, show 4 * y / 4 = y by omega, (h.2.2.2.2.1 y (by rw [← CX_NN h]; exact y2)).1]
      exact (nL_let (CX_b h y2)).2
    show lft σ0 rt _ i ++ (if mkA σ0 rt (fun j => vl (gA σ0 26 (rt j))) i = 1 then nmW σ0 rt (fun j => vl (gA σ0 26 (rt j))) (i + 1) ++ [33] else []) = _ ∧ (if mkA σ0 rt (fun j => vl (gA σ0 26 (rt j))) i = 2 then _ else []) ++ rgt σ0 rt _ i = []
    rw [ek, i1, i2, enm]
    by_cases z : kdN σ0 y = 0
    · rw [if_pos z, em]
      by_cases w : kd = 2 ∨ 4 ≤ kd
      · rw [if_pos w, if_pos rfl, if_neg (by omega), plw_s (by rw [eg, if_pos ⟨w, z⟩])]
        exact ⟨rfl, rfl⟩
      · rw [if_neg w, if_neg (by omega), if_neg (by omega), plw_n (by rw [eg, if_neg (fun u => w u.1)]), List.append_nil]
        exact ⟨rfl, rfl⟩
    · rw [if_neg z, if_neg (by omega), if_neg (by omega), plw_n (by rw [eg, if_neg (fun u => z u.2)]), List.append_nil]
      exact ⟨rfl, rfl⟩
/-- the out after print -/
noncomputable def po (σ : ej_S) (X : List Nat) (D rt : Nat → Nat) (a : Nat) : List Nat := if D (4 * a) < iF then plw (pg σ X rt) (D (4 * a) % 1024) ++ [37] else []
theorem RCr_of (hX : WXX σ0 D) (hp : RT0 σ0 D a rt) (hs : ∀ i, i < D (4 * a) % 1024 → 1 ≤ vl (gA σ0 26 (rt (i + 1))) ∧ vl (gA σ0 26 (rt (i + 1))) ≤ 5 ∧ gA σ0 26 (rt (i + 1)) = nI (vl (gA σ0 26 (rt (i + 1))))) {s : ej_S} (h17 : gI s 17 = nI (D (4 * a) % 1024)) (h27 : ∀ i, i ≤ D (4 * a) % 1024 → gA s 27 i = nI (rt i)) (hN : NN s = NN σ0) (h26 : gA s 26 = gA σ0 26) : RCr s rt (fun j => vl (gA σ0 26 (rt j))) (D (4 * a) % 1024) := by
  refine ⟨hp.2.2.2, h17, fun i hi => ?_, fun i hi => ?_⟩
  · obtain ⟨b, b1, b2, b3, b4⟩ := RT_at hX hp hi
    exact ⟨(hp.2.1.1 i hi).1, by rw [hN, b1, show 4 * b / 4 = b by omega]; exact b2, h27 i hi⟩
  · obtain ⟨s1, s2, s3⟩ := hs i hi
    exact ⟨s1, s2, by rw [h26]; exact s3⟩
theorem RT_kd (h : CX σ0 τ T h0 h1) (hX : WXX σ0 D) (hw : wfR σ0) (hs : SOL σ0) (hp : RT0 σ0 D a rt) : ∀ i, i < D (4 * a) % 1024 → 1 ≤ vl (gA σ0 26 (rt (i + 1))) ∧ vl (gA σ0 26 (rt (i + 1))) ≤ 5 ∧ gA σ0 26 (rt (i + 1)) = nI (vl (gA σ0 26 (rt (i + 1)))) := by
  intro i hi
  obtain ⟨x, y, kd, q, x1, y1, x2, y2, xy, k1, k5, g1, g2, g3⟩ := RT_step h hX hw hs hp hi
  rw [g2, vl_nI (by omega)]
  exact ⟨k1, k5, rfl⟩
theorem lft_QMP (q : QMP σ0 σr) (rt kd : Nat → Nat) : (∀ i, lft σr rt kd i = lft σ0 rt kd i) ∧ ∀ i, rgt σr rt kd i = rgt σ0 rt kd i := by
  have eB := q.1.2.2.1
  have e12 := q.1.2.2.2.2.1
  have e13 := q.1.2.2.2.2.2.1
  have e17 := q.1.2.2.2.2.2.2.2.1
  have e1 : ∀ i, nmA σr rt i = nmA σ0 rt i := by intro i; unfold nmA; rw [eB]
  have e5 : ∀ i, cfd σr rt kd i = cfd σ0 rt kd i := by intro i; unfold cfd dmA; rw [eB]
  have e2 : ∀ i, chn σr rt kd i = chn σ0 rt kd i := by
    intro i
    induction i with
    | zero => rfl
    | succ i ih =>
      show (if cfd σr rt kd i = true then nmA σr rt i ++ chn σr rt kd i else []) = (if cfd σ0 rt kd i = true then nmA σ0 rt i ++ chn σ0 rt kd i else [])
      rw [e5, e1, ih]
  have e3 : ∀ i, nmW σr rt kd i = nmW σ0 rt kd i := by intro i; unfold nmW; rw [e1, e2]
  have e4 : ∀ i, mkA σr rt kd i = mkA σ0 rt kd i := by
    intro i
    unfold mkA kdN mkN
    rw [eB, e12, e13, e17]
  constructor
  · intro i
    induction i with
    | zero => rfl
    | succ i ih =>
      show lft σr rt kd i ++ (if mkA σr rt kd i = 1 then nmW σr rt kd (i + 1) ++ [33] else []) = lft σ0 rt kd i ++ (if mkA σ0 rt kd i = 1 then nmW σ0 rt kd (i + 1) ++ [33] else [])
      rw [ih, e3, e4]
  · intro i
    induction i with
    | zero => rfl
    | succ i ih =>
      show (if mkA σr rt kd i = 2 then 64 :: nmW σr rt kd (i + 1) else []) ++ rgt σr rt kd i = (if mkA σ0 rt kd i = 2 then 64 :: nmW σ0 rt kd (i + 1) else []) ++ rgt σ0 rt kd i
      rw [ih, e3, e4]
theorem a_printR (hn : 2000 < n) (h : CX σ0 τ T h0 h1) (hX : WXX σ0 D) (ha : a < NN σ0) (hpr : D (4 * a) < iF → RT0 σ0 D a rt) : ∀ c, IQ n fs σ0 tp ot c → ∃ c', IQ n fs σ0 tp (po σ0 (e_ns (e_L T h0 h1 12)) D rt a) c' ∧ ∀ τ' : ej_S, ej_lcn (m10_print n (nI a) c) ((c, τ') : lw_S) = some (nI (po σ0 (e_ns (e_L T h0 h1 12)) D rt a).length, ((c', τ') : lw_S)) := by
  intro c hc
  have hw := (IQ_0 hc).1
  have hs := (IQ_0 hc).2
  obtain ⟨σr, hI, q, hf, ht, hx⟩ := hc
  obtain ⟨w, _, _⟩ := INV_wf hI
  have ha' : a < NN σr := by rw [QMP_NN q]; exact ha
  have h24 := NN_le w
  have f3 : fr [18, 19] [] [] [] [] σr (uI (uI σr 19 (nI 0)) 18 (nI 0)) := fr_uI (fr_uI fr_rf (by simp)) (by simp)
  have q3 : QMP σ0 (uI (uI σr 19 (nI 0)) 18 (nI 0)) := QMP_tr q (QMP_fr f3 (by decide) (by decide) (by decide) (by decide))
  have S3 := SD_QMP hX.1 q3
  have e0 : ∀ x : List Nat, ([] : List Nat) ++ x = x := fun x => List.nil_append x
  have fin : ∀ (l : List Nat) (s : ej_S), m11_print n (nI a) σr = some (nI l.length, s) → fr [17, 18, 19] [] [27, 28] [] [] σr s → gI s 19 = nI 0 → RX s l → ∃ c', IQ n fs σ0 tp l c' ∧ ∀ τ' : ej_S, ej_lcn (m10_print n (nI a) c) ((c, τ') : lw_S) = some (nI l.length, ((c', τ') : lw_S)) := by
    intro l s e f g r
    obtain ⟨c', x1, x2⟩ := ST_g3 (k_print hn hI (nI a)) e g
    exact ⟨c', ⟨s, x2, QMP_tr q (QMP_fr f (by decide) (by decide) (by decide) (by decide)), fun g hg => RTX_fr (hf g hg) f (by simp) (by simp), RTX_fr ht f (by simp) (by simp), r⟩, fun τ' => by rw [x1]; rfl⟩
  rcases r_key (n := n) hn S3 hX.2.1 (show a < 24 by omega) with ⟨z, e⟩ | ⟨z, b1, b2, g1, g2, e⟩
  · obtain ⟨c', i1, e1⟩ := fin [] _ (by
      unfold m11_print
      rw [asks_t (isN_t w ha'), ej_bi_s, L_0, if_neg n10, ej_nm_e, e, ej_bi_s, L_m1, if_pos rfl, s_II_s]; rfl) (fr_wk f3 (by simp) (by simp) (by simp) (by simp) (by simp)) (by rw [s_II_n (by omega), s_II_s]) RX_0
    have ep : po σ0 (e_ns (e_L T h0 h1 12)) D rt a = [] := if_neg (by omega)
    exact ⟨c', by rw [ep]; exact i1, fun τ' => by rw [ep]; exact e1 τ'⟩
  · have hp := hpr z
    have ep : po σ0 (e_ns (e_L T h0 h1 12)) D rt a = plw (pg σ0 (e_ns (e_L T h0 h1 12)) rt) (D (4 * a) % 1024) ++ [37] := if_pos z
    obtain ⟨s1, l1, f1, u1, u2⟩ := r_lays (n := n) hn S3 hX.2.1 (show a < 24 by omega) (RT0_QMP hp q3)
    have q1 : QMP σ0 s1 := QMP_tr q3 (QMP_fr f1 (by decide) (by decide) (by decide) (by decide))
    have R1 := RCr_of hX hp (RT_kd h hX hw hs hp) u1 u2 (QMP_NN q1) (q1.2.2.2 26 (by simp))
    have w1 : wfR s1 := wfR_QMP hw q1
    obtain ⟨ll, rr⟩ := lft_lw h hX hw hs hp (D (4 * a) % 1024) (Nat.le_refl _)
    have l23 := hp.2.2.2
    have len := plw_len (g := pg σ0 (e_ns (e_L T h0 h1 12)) rt) (D (4 * a) % 1024)
    have r0 : RX s1 [] := RX_fr RX_0 f1 (by simp) (by simp)
    obtain ⟨s2, a1, a2, a3⟩ := r_putsLeft (n := n) hn R1 (hNm_of w1) r0 (by rw [(lft_QMP q1 rt _).1, ll]; show 0 + _ ≤ 4000; omega)
    rw [e0, (lft_QMP q1 rt _).1, ll] at a2
    obtain ⟨s3, c1, c2, c3⟩ := r_putsCode (n := n) (c := 37) a2 (by omega) (by omega)
    have f23 := fr_tr a3 c3
    have q2 : QMP σ0 s3 := QMP_tr q1 (QMP_fr f23 (by decide) (by decide) (by decide) (by decide))
    obtain ⟨s4, d1, d2, d3⟩ := r_putsRight (n := n) hn (RCr_fr R1 f23 (by simp) (by simp) (by simp) (by simp)) (hNm_of (wfR_QMP hw q2)) c2 (by rw [(lft_QMP q2 rt _).2, rr, List.length_append]; show _ + 1 + 0 ≤ 4000; omega)
    rw [(lft_QMP q2 rt _).2, rr, List.append_nil] at d2
    have F : fr [17, 18, 19] [] [27, 28] [] [] σr s4 := fr_tr (fr_wk f3 (by simp) (by simp) (by simp) (by simp) (by simp)) (fr_tr (fr_wk f1 (by simp) (by simp) (by simp) (by simp) (by simp)) (fr_wk (fr_tr f23 d3) (by simp) (by simp) (by simp) (by simp) (by simp)))
    have F2 := fr_tr (fr_wk f1 (I' := [17, 18]) (J' := []) (A' := [27, 28]) (B' := []) (M' := []) (by simp) (by simp) (by simp) (by simp) (by simp)) (fr_wk (fr_tr f23 d3) (by simp) (by simp) (by simp) (by simp) (by simp))
    obtain ⟨c', i1, e1⟩ := fin _ s4 (by
      unfold m11_print
      rw [asks_t (isN_t w ha'), ej_bi_s, L_0, if_neg n10, ej_nm_e, e, ej_bi_s, L_m1, ieq_m (by omega), l1, ej_bv_s, a1, ej_bv_s, L_37, c1, ej_bv_s, d1, ej_bv_s, d2.1]) F (by rw [F2.1 19 (by simp), s_II_n (by omega), s_II_s]) d2
    exact ⟨c', by rw [ep]; exact i1, fun τ' => by rw [ep]; exact e1 τ'⟩
theorem a_print (hn : 2000 < n) (h : CX σ0 τ T h0 h1) (hX : WXX σ0 D) (ha : a < NN σ0) (h24 : NN σ0 ≤ 24) : ∀ c, IQ n fs σ0 tp ot c → ∃ rt c', (D (4 * a) < iF → RT0 σ0 D a rt) ∧ IQ n fs σ0 tp (po σ0 (e_ns (e_L T h0 h1 12)) D rt a) c' ∧ ∀ τ' : ej_S, ej_lcn (m10_print n (nI a) c) ((c, τ') : lw_S) = some (nI (po σ0 (e_ns (e_L T h0 h1 12)) D rt a).length, ((c', τ') : lw_S)) := by
  intro c hc
  have hr : ∃ rt, D (4 * a) < iF → RT0 σ0 D a rt := by
    by_cases z : D (4 * a) < iF
    · obtain ⟨rt, hp⟩ := RT0_ex hX.1 hX.2.1 (show a < 24 by omega) z
      exact ⟨rt, fun _ => hp⟩
    · exact ⟨fun _ => 0, fun y => absurd y z⟩
  obtain ⟨rt, hp⟩ := hr
  obtain ⟨c', i, e⟩ := a_printR (n := n) (fs := fs) (tp := tp) (ot := ot) hn h hX ha hp c hc
  exact ⟨rt, c', hp, i, e⟩
theorem P121 (f : Int32 → Int32 → Int32 → Int32 → Int32 → lw_S → Option (Int32 × lw_S)) (x y : Int32) (s : lw_S) (pr : Bool) : mL_isPrinted_121 n f x y (nI p) (nI k) (bI pr) 1 s = f x y (nI (p + if pr = true then 2 else 0)) 1 (nI (k + 1)) s := by
  unfold mL_isPrinted_121
  rw [L_0, L_1, L_2]
  cases pr
  · rw [bI_f, if_pos rfl, ej_nm_e, ej_nm_e, nI_add, nI_add]; rfl
  · rw [bI_t, if_neg n10, ej_nm_e, ej_nm_e, nI_add, nI_add]; rfl
theorem L_isPrinted_144 (hn : 2000 < n) (hX : WXX σ0 D) (ha : a < NN σ0) (h24 : NN σ0 ≤ 24) {X : List Nat} (hp : D (4 * a) < iF → RT0 σ0 D a rt) (hc : IQ n fs σ0 tp (po σ0 X D rt a) c) : ∃ c', IQ n fs σ0 tp (po σ0 X D rt a) c' ∧ mL_isPrinted_144 n (nI a) (nI (po σ0 X D rt a).length) (nI (if D (4 * a) < iF then (plw (pg σ0 X rt) (D (4 * a) % 1024)).length else 0)) 1 (c, τ) = some (nI 1, (c', τ)) := by
  obtain ⟨c1, i1, e1⟩ := a_steps (n := n) (fs := fs) (tp := tp) (ot := po σ0 X D rt a) hn hX.1 hX.2.1 ha c hc
  unfold mL_isPrinted_144
  rw [if_neg (by decide), e1 τ, ej_bi_s, L_0, L_1]
  have len := plw_len (g := pg σ0 X rt) (D (4 * a) % 1024)
  by_cases fa : D (4 * a) < iF
  · have l23 := (hp fa).2.2.2
    have ep : po σ0 X D rt a = plw (pg σ0 X rt) (D (4 * a) % 1024) ++ [37] := if_pos fa
    have el : (po σ0 X D rt a).length = (plw (pg σ0 X rt) (D (4 * a) % 1024)).length + 1 := by rw [ep, List.length_append]; rfl
    obtain ⟨c2, i2, e2⟩ := L_out (n := n) (p := (plw (pg σ0 X rt) (D (4 * a) % 1024)).length) hn (by omega) i1
    obtain ⟨c3, i3, e3⟩ := L_out (n := n) (p := (po σ0 X D rt a).length) hn (by omega) i2
    rw [gD_ge (Nat.le_refl _)] at e3
    rw [show (po σ0 X D rt a).getD (plw (pg σ0 X rt) (D (4 * a) % 1024)).length 0 = 37 by rw [ep]; exact gD_app] at e2
    refine ⟨c3, i3, ?_⟩
    rw [if_pos fa, show os D a = some (D (4 * a) % 1024) from if_pos fa, if_pos (show nI 0 ≤ oI (some (D (4 * a) % 1024)) from nI_le (Nat.zero_le _) (by omega)), nI_add, el, if_pos rfl, e2, ej_bi_s, L_37, if_pos rfl, ← el, e3, ej_bi_s, if_pos rfl]
  · have ep : po σ0 X D rt a = [] := if_neg fa
    obtain ⟨c2, i2, e2⟩ := L_out (n := n) (p := 0) hn (by omega) i1
    refine ⟨c2, i2, ?_⟩
    rw [show (po σ0 X D rt a).getD 0 0 = 0 by rw [ep]; rfl] at e2
    rw [if_neg fa, show os D a = none from if_neg fa, if_neg (show ¬ nI 0 ≤ oI none from zm_nle (by omega)), show (po σ0 X D rt a).length = 0 by rw [ep]; rfl, if_pos rfl, e2, ej_bi_s, if_pos rfl]
theorem L_isPrinted_17 (hn : 2000 < n) (h : CX σ0 τ T h0 h1) (hX : WXX σ0 D) (ha : a < NN σ0) (hp : D (4 * a) < iF → RT0 σ0 D a rt) : ∀ (fu k : Nat) (c : ej_S), IQ n fs σ0 tp (po σ0 (e_ns (e_L T h0 h1 12)) D rt a) c → (D (4 * a) < iF → k ≤ D (4 * a) % 1024) → (¬ D (4 * a) < iF → k = 0) → 24 - k < fu → ∃ c', IQ n fs σ0 tp (po σ0 (e_ns (e_L T h0 h1 12)) D rt a) c' ∧ mL_isPrinted_17 n fu (nI a) (nI (po σ0 (e_ns (e_L T h0 h1 12)) D rt a).length) (nI (if D (4 * a) < iF then (plw (pg σ0 (e_ns (e_L T h0 h1 12)) rt) k).length else 0)) 1 (nI (k + 1)) (c, τ) = some (nI 1, (c', τ)) := by
  intro fu
  induction fu with
  | zero => intro k c _ _ _ z; omega
  | succ fu ih =>
    intro k c hc hk hk0 hf
    have hw := (IQ_0 hc).1
    have hs := (IQ_0 hc).2
    have h24 := NN_le hw
    have N10 := CX_N10 h
    obtain ⟨c1, i1, e1⟩ := a_steps (n := n) (fs := fs) (tp := tp) (ot := po σ0 (e_ns (e_L T h0 h1 12)) D rt a) hn hX.1 hX.2.1 ha c hc
    rw [u_L_isPrinted_17, e1 τ, ej_bi_s]
    by_cases fa : D (4 * a) < iF
    · have hp' := hp fa
      have l23 := hp'.2.2.2
      have k1 := hk fa
      have len := plw_len (g := pg σ0 (e_ns (e_L T h0 h1 12)) rt) k
      rw [show os D a = some (D (4 * a) % 1024) from if_pos fa, show oI (some (D (4 * a) % 1024)) = nI (D (4 * a) % 1024) from rfl]
      rcases Nat.eq_or_lt_of_le k1 with z | z
      · obtain ⟨c2, i2, e2⟩ := L_isPrinted_144 (n := n) (τ := τ) hn hX ha h24 hp i1
        refine ⟨c2, i2, ?_⟩
        rw [ilt_t (by omega) (by omega), z]
        exact e2
      · obtain ⟨x, y, kd, q, x1, y1, x2, y2, xy, q1, q5, g1, g2, g3⟩ := RT_step h hX hw hs hp' z
        obtain ⟨c2, i2, e2⟩ := a_nodeAt (n := n) (fs := fs) (tp := tp) (ot := po σ0 (e_ns (e_L T h0 h1 12)) D rt a) (k := k + 1) hn hX.1 hX.2.1 ha hp' (by omega) c1 i1
        obtain ⟨c3, i3, e3⟩ := a_stepAt (n := n) (fs := fs) (tp := tp) (ot := po σ0 (e_ns (e_L T h0 h1 12)) D rt a) (k := k + 1) hn hX.1 hX.2.1 ha hp' (by omega) c2 i2
        rw [y1, show 4 * y / 4 = y by omega] at e2
        rw [g2] at e3
        have ey : ∀ c : ej_S, gA ((c, τ) : lw_S).2 1 y = nI ((e_ns (e_L T h0 h1 12)).getD y 0) := fun c => CX_x h y2
        have byy := CX_b h y2
        have ev : vl (gA σ0 26 (rt (k + 1))) = kd := by rw [g2]; exact vl_nI (by omega)
        have eg : pg σ0 (e_ns (e_L T h0 h1 12)) rt k = if (kd = 2 ∨ 4 ≤ kd) ∧ kdN σ0 y = 0 then some ((e_ns (e_L T h0 h1 12)).getD y 0) else none := by
          unfold pg
          rw [ev, y1, show 4 * y / 4 = y by omega]
        have ekd := CX_kd h y2
        have ef : (if D (4 * a) < iF then (plw (pg σ0 (e_ns (e_L T h0 h1 12)) rt) k).length else 0) = (plw (pg σ0 (e_ns (e_L T h0 h1 12)) rt) k).length := if_pos fa
        have ef2 : (if D (4 * a) < iF then (plw (pg σ0 (e_ns (e_L T h0 h1 12)) rt) (k + 1)).length else 0) = (plw (pg σ0 (e_ns (e_L T h0 h1 12)) rt) (k + 1)).length := if_pos fa
        have key : ∀ pr : Bool, (pr = true ↔ (kd = 2 ∨ 4 ≤ kd) ∧ kdN σ0 y = 0) → ∃ c', IQ n fs σ0 tp (po σ0 (e_ns (e_L T h0 h1 12)) D rt a) c' ∧ mL_isPrinted_82 n (mL_isPrinted_17 n fu) (nI a) (nI (po σ0 (e_ns (e_L T h0 h1 12)) D rt a).length) (nI (plw (pg σ0 (e_ns (e_L T h0 h1 12)) rt) k).length) (nI (k + 1)) (nI ((e_ns (e_L T h0 h1 12)).getD y 0)) (bI pr) (c3, τ) = some (nI 1, (c', τ)) := by
          intro pr hpr
          unfold mL_isPrinted_82
          cases pr
          · have en : pg σ0 (e_ns (e_L T h0 h1 12)) rt k = none := by rw [eg, if_neg (fun z => by cases hpr.mpr z)]
            obtain ⟨c4, i4, e4⟩ := ih (k + 1) c3 i3 (fun _ => z) (fun z => absurd fa z) (by omega)
            rw [ef2, plw_n en] at e4
            refine ⟨c4, i4, ?_⟩
            rw [bI_f, L_0, if_pos rfl, ← bI_f, P121]
            exact e4
          · have en : pg σ0 (e_ns (e_L T h0 h1 12)) rt k = some ((e_ns (e_L T h0 h1 12)).getD y 0) := by rw [eg, if_pos (hpr.mp rfl)]
            obtain ⟨r, er⟩ := plw_pre (g := pg σ0 (e_ns (e_L T h0 h1 12)) rt) (i := k + 1) (D (4 * a) % 1024) z
            have ep : po σ0 (e_ns (e_L T h0 h1 12)) D rt a = plw (pg σ0 (e_ns (e_L T h0 h1 12)) rt) k ++ (97 + (e_ns (e_L T h0 h1 12)).getD y 0) :: (33 :: (r ++ [37])) := by
              rw [show po σ0 (e_ns (e_L T h0 h1 12)) D rt a = plw (pg σ0 (e_ns (e_L T h0 h1 12)) rt) (D (4 * a) % 1024) ++ [37] from if_pos fa, er, plw_s en]
              simp
            have p0 : (po σ0 (e_ns (e_L T h0 h1 12)) D rt a).getD (plw (pg σ0 (e_ns (e_L T h0 h1 12)) rt) k).length 0 = 97 + (e_ns (e_L T h0 h1 12)).getD y 0 := by rw [ep]; exact gD_app
            have p1 : (po σ0 (e_ns (e_L T h0 h1 12)) D rt a).getD ((plw (pg σ0 (e_ns (e_L T h0 h1 12)) rt) k).length + 1) 0 = 33 := by
              rw [ep, show plw (pg σ0 (e_ns (e_L T h0 h1 12)) rt) k ++ (97 + (e_ns (e_L T h0 h1 12)).getD y 0) :: (33 :: (r ++ [37])) = (plw (pg σ0 (e_ns (e_L T h0 h1 12)) rt) k ++ [97 + (e_ns (e_L T h0 h1 12)).getD y 0]) ++ 33 :: (r ++ [37]) by simp]
              have := gD_app (l := plw (pg σ0 (e_ns (e_L T h0 h1 12)) rt) k ++ [97 + (e_ns (e_L T h0 h1 12)).getD y 0]) (r := r ++ [37]) (x := 33) (d := 0)
              rw [List.length_append] at this
              exact this
            obtain ⟨c4, i4, e4⟩ := L_out (n := n) (p := (plw (pg σ0 (e_ns (e_L T h0 h1 12)) rt) k).length) hn (by omega) i3
            obtain ⟨c5, i5, e5⟩ := L_out (n := n) (p := (plw (pg σ0 (e_ns (e_L T h0 h1 12)) rt) k).length + 1) hn (by omega) i4
            obtain ⟨c6, i6, e6⟩ := ih (k + 1) c5 i5 (fun _ => z) (fun z => absurd fa z) (by omega)
            rw [ef2, plw_s en, List.length_append] at e6
            rw [p0] at e4
            rw [p1] at e5
            refine ⟨c6, i6, ?_⟩
            rw [bI_t, L_0, if_neg n10, e4, ej_bi_s, L_97, nI_add, if_pos rfl, L_1, nI_add, e5, ej_bi_s, L_33, if_pos rfl]
            have e7 := P121 (n := n) (p := (plw (pg σ0 (e_ns (e_L T h0 h1 12)) rt) k).length) (k := k + 1) (mL_isPrinted_17 n fu) (nI a) (nI (po σ0 (e_ns (e_L T h0 h1 12)) D rt a).length) (c5, τ) true
            rw [bI_t, L_1] at e7
            rw [L_1] at e6
            rw [e7]
            exact e6
        have net : ∀ c : ej_S, mL_isNet n (nI ((e_ns (e_L T h0 h1 12)).getD y 0)) (c, τ) = some (bI (e_net (e_L T h0 h1 12) ((e_ns (e_L T h0 h1 12)).getD y 0)), (c, τ)) := fun c => L_isNet hn h.1 (by omega)
        have two : (kd = 2 ∨ 4 ≤ kd) → ∃ c', IQ n fs σ0 tp (po σ0 (e_ns (e_L T h0 h1 12)) D rt a) c' ∧ (ej_bi (mL_isNet n (nI ((e_ns (e_L T h0 h1 12)).getD y 0)) (c3, τ)) fun r27 s28 => (if r27 = 0 then (mL_isPrinted_82 n (mL_isPrinted_17 n fu) (nI a) (nI (po σ0 (e_ns (e_L T h0 h1 12)) D rt a).length) (nI (plw (pg σ0 (e_ns (e_L T h0 h1 12)) rt) k).length) (nI (k + 1)) (nI ((e_ns (e_L T h0 h1 12)).getD y 0)) 1 s28) else (mL_isPrinted_82 n (mL_isPrinted_17 n fu) (nI a) (nI (po σ0 (e_ns (e_L T h0 h1 12)) D rt a).length) (nI (plw (pg σ0 (e_ns (e_L T h0 h1 12)) rt) k).length) (nI (k + 1)) (nI ((e_ns (e_L T h0 h1 12)).getD y 0)) 0 s28))) = some (nI 1, (c', τ)) := by
          intro hk2
          rw [net, ej_bi_s, L_0, L_1]
          cases en : e_net (e_L T h0 h1 12) ((e_ns (e_L T h0 h1 12)).getD y 0)
          · rw [en, if_neg (by decide)] at ekd
            obtain ⟨c4, i4, e4⟩ := key true ⟨fun _ => ⟨hk2, ekd⟩, fun _ => rfl⟩
            refine ⟨c4, i4, ?_⟩
            rw [bI_f, if_pos rfl, ← bI_t]; exact e4
          · rw [en, if_pos rfl] at ekd
            obtain ⟨c4, i4, e4⟩ := key false ⟨fun z => (by cases z), fun z => (by omega)⟩
            refine ⟨c4, i4, ?_⟩
            rw [bI_t, if_neg n10, ← bI_f]; exact e4
        rw [ilt_f (by omega) (by omega), if_neg (by decide), e2 τ, ej_bi_s, ck_t (by omega) (by omega), nI_clamp (by omega), ey, ej_nm_e, e3 τ, ej_bi_s, ef, L_2, L_3]
        by_cases k2 : kd = 2
        · rw [ieq_t k2]; exact two (.inl k2)
        · rw [ieq_f k2 (by omega) (by omega)]
          rcases Nat.lt_or_ge 3 kd with k4 | k4
          · rw [ile_f k4 (by omega)]; exact two (.inr k4)
          · rw [ile_t k4 (by omega), L_0, ← bI_f]
            exact key false ⟨fun z => (by cases z), fun z => (by omega)⟩
    · obtain ⟨c2, i2, e2⟩ := L_isPrinted_144 (n := n) (τ := τ) hn hX ha h24 hp i1
      refine ⟨c2, i2, ?_⟩
      rw [hk0 fa, show os D a = none from if_neg fa, if_pos (show oI none < nI (0 + 1) from zm_lt (by omega))]
      rw [if_neg fa] at e2 ⊢
      exact e2
theorem L_isPrinted (hn : 2000 < n) (h : CX σ0 τ T h0 h1) (hX : WXX σ0 D) (ha : a < NN σ0) (hc : IQ n fs σ0 tp ot c) : ∃ c' ot', IQ n fs σ0 tp ot' c' ∧ mL_isPrinted n (nI a) (c, τ) = some (nI 1, (c', τ)) := by
  obtain ⟨rt, c1, hp, i1, e1⟩ := a_print (n := n) (fs := fs) (tp := tp) (ot := ot) hn h hX ha (NN_le (IQ_0 hc).1) c hc
  obtain ⟨c2, i2, e2⟩ := L_isPrinted_17 (n := n) (fs := fs) (tp := tp) hn h hX ha hp n 0 c1 i1 (fun _ => Nat.zero_le _) (fun _ => rfl) (by omega)
  refine ⟨c2, _, i2, ?_⟩
  unfold mL_isPrinted
  rw [e1 τ, ej_bi_s]
  rw [show (if D (4 * a) < iF then (plw (pg σ0 (e_ns (e_L T h0 h1 12)) rt) 0).length else 0) = 0 by split <;> rfl] at e2
  rw [← L_0, show nI (0 + 1) = (1 : Int32) from L_1.symm] at e2
  exact e2
end P97l
