/-! AN ADDRESS REWRITTEN, by the law -/
theorem and_hi {W k t : Nat} (h : W < 2 ^ k) : W &&& (2 ^ k * t) = 0 := by
  apply Nat.eq_of_testBit_eq
  intro i
  rw [Nat.testBit_and, Nat.zero_testBit, Nat.testBit_two_pow_mul]
  rcases Nat.lt_or_ge i k with z | z
  · rw [decide_eq_false (by omega), Bool.false_and, Bool.and_false]
  · rw [Nat.testBit_lt_two_pow (Nat.lt_of_lt_of_le h (Nat.pow_le_pow_right (by omega) z)), Bool.false_and]
theorem mk_1 : ∀ m, m < 8 → ((255 : Int64) <<< ((nI (8 * m)).toInt64 &&& 63)) ^^^ (-1) = lN ((2 ^ (8 * m + 8) * (2 ^ (56 - 8 * m) - 1)) ||| (2 ^ (8 * m) - 1)) := by decide +kernel
theorem mk_2 : ∀ m, m < 8 → ((1 : Int64) <<< ((nI (8 * m)).toInt64 &&& 63)) - 1 = lN (2 ^ (8 * m) - 1) := by decide +kernel
theorem pow8 (m : Nat) : 2 ^ (8 * m) = 256 ^ m := by rw [Nat.pow_mul]
theorem pk_mod {P r : List Nat} (hP : ∀ b ∈ P, b < 256) : pkL (P ++ r) % 256 ^ P.length = pkL P := by
  induction P with
  | nil => show _ % 1 = 0; rw [Nat.mod_one]
  | cons b P ih =>
    have hb := hP b List.mem_cons_self
    have hi := ih (fun x hx => hP x (List.mem_cons_of_mem _ hx))
    show (b + 256 * pkL (P ++ r)) % 256 ^ (P.length + 1) = b + 256 * pkL P
    rw [Nat.pow_succ, Nat.mul_comm (256 ^ P.length) 256, Nat.mod_mul, Nat.add_mul_mod_self_left, Nat.mod_eq_of_lt hb, show (b + 256 * pkL (P ++ r)) / 256 = pkL (P ++ r) by omega, hi]
theorem mask1 {P : List Nat} {x : Nat} (hP : ∀ b ∈ P, b < 256) (hx : x < 256) (h8 : P.length < 8) : lN (pkL (P ++ [x])) &&& (((255 : Int64) <<< ((nI (8 * P.length)).toInt64 &&& 63)) ^^^ (-1)) = lN (pkL P) := by
  rw [mk_1 _ h8, fb_andL, Nat.and_or_distrib_left]
  have hlt : pkL (P ++ [x]) < 2 ^ (8 * P.length + 8) := by
    have := pkL_lt (P ++ [x]) (fun b hb => by
      rcases List.mem_append.mp hb with z | z
      · exact hP b z
      · rw [List.mem_singleton.mp z]; exact hx)
    rw [List.length_append] at this
    rw [show 8 * P.length + 8 = 8 * (P.length + 1) by omega, pow8]
    exact this
  rw [and_hi hlt, Nat.zero_or, Nat.and_two_pow_sub_one_eq_mod, pow8, pk_mod hP]
theorem mask2 {P r : List Nat} (hP : ∀ b ∈ P, b < 256) (h8 : P.length < 8) : lN (pkL (P ++ r)) &&& (((1 : Int64) <<< ((nI (8 * P.length)).toInt64 &&& 63)) - 1) = lN (pkL P) := by
  rw [mk_2 _ h8, fb_maskL, pow8, pk_mod hP]
section P97xg
variable {n v h0 h1 : Nat} {σ0 c τ : ej_S} {fs : Nat → List Nat} {ot : List Nat} {T : Nat → Nat} {D rt : Nat → Nat}
theorem Y_addr (hn : 2000 < n) (hv : v < 10) (hc : IQ n fs σ0 [] ot c) : ∃ c1 c2, mL_says n (97 + nI v) (c, τ) = some (c1, τ) ∧ IQ n fs σ0 (ad v) ot c2 ∧ ∀ τ' : ej_S, mL_act n 0 159471185185 5 ((c1, τ') : lw_S) = some (nI 6, ((c2, τ') : lw_S)) := by
  obtain ⟨c1, i1, e1⟩ := Y_says (n := n) (fs := fs) (σ0 := σ0) (ot := ot) (τ := τ) (b := 97 + v) hn (by omega) [] c hc (by show 0 + 1 ≤ 600; omega)
  obtain ⟨c2, i2, e2⟩ := a_feed (n := n) (W := 159471185185) (m := 5) hn (by omega) (by omega) (show ([97 + v] : List Nat).length + 5 ≤ 600 by show 1 + 5 ≤ 600; omega) c1 i1
  rw [show ([97 + v] : List Nat) ++ fbs 159471185185 5 0 = ad v by rw [show fbs 159471185185 5 0 = [33, 45, 57, 33, 37] by decide +kernel]; rfl] at i2
  refine ⟨c1, c2, by rw [L_97, nI_add]; exact e1, i2, fun τ' => ?_⟩
  rw [show (159471185185 : Int64) = lN 159471185185 by decide +kernel, show mL_act n 0 (lN 159471185185) 5 (c1, τ') = mL_act n 0 (lN 159471185185) (nI 5) (c1, τ') by rw [← L_5], e2 τ']; rfl
/-- not known -/
theorem RW_no (hn : 2000 < n) (h : CX σ0 τ T h0 h1) (hX : WXX σ0 D) (hv : v < 10) (hR : rtN (e_L T h0 h1 12) D v = none) (hc : IQ n fs σ0 [] ot c) : ∃ c' ot', IQ n fs σ0 [] ot' c' ∧ mL_isRewritten_83 n (nI v) 0 0 0 (c, τ) = some (nI 1, (c', τ)) := by
  obtain ⟨c1, c2, e1, i2, e2⟩ := Y_addr (n := n) (fs := fs) (σ0 := σ0) (ot := ot) (τ := τ) hn hv hc
  obtain ⟨c3, i3, e3⟩ := a_rewrite (n := n) (rt := fun _ => 0) hn h hX hv (fun i e => by rw [hR] at e; cases e) c2 i2
  have er : ro σ0 (e_L T h0 h1 12) D (fun _ => 0) v = ad v := by unfold ro; rw [hR]
  rw [er] at i3 e3
  obtain ⟨c4, i4, e4⟩ := L_out (n := n) (p := 0) hn (by omega) i3
  obtain ⟨c5, i5, e5⟩ := L_out (n := n) (p := 1) hn (by omega) i4
  obtain ⟨c6, i6, e6⟩ := L_out (n := n) (p := 5) hn (by omega) i5
  refine ⟨c6, _, i6, ?_⟩
  unfold mL_isRewritten_83
  rw [e1, ej_bv_s, e2, ej_bi_s, e3, ej_bi_s, if_pos rfl, if_pos (show nI (ad v).length = (6 : Int32) from L_6.symm), show mL_out n 0 (c3, τ) = mL_out n (nI 0) (c3, τ) by rw [← L_0], e4, ej_bi_s, if_pos (show nI ((ad v).getD 0 0) = 97 + nI v by rw [L_97, nI_add]; rfl), show mL_out n 1 (c4, τ) = mL_out n (nI 1) (c4, τ) by rw [← L_1], e5, ej_bi_s, if_pos (show nI ((ad v).getD 1 0) = (33 : Int32) from L_33.symm), show mL_out n 5 (c5, τ) = mL_out n (nI 5) (c5, τ) by rw [← L_5], e6, ej_bi_s, if_pos (show nI ((ad v).getD 5 0) = (37 : Int32) from L_37.symm), L_1]
theorem gD_off {P : List Nat} {r : List Nat} (i : Nat) : (P ++ r).getD (P.length + i) 0 = r.getD i 0 := by
  rw [List.getD_eq_getElem?_getD, List.getElem?_append_right (by omega), List.getD_eq_getElem?_getD]
  congr 2
  omega
theorem RW_210 {P : List Nat} (hn : 2000 < n) (hP : P.length ≤ 46) (hc : IQ n fs σ0 [] (P ++ [45, 57, 33, 37]) c) : ∃ c', IQ n fs σ0 [] (P ++ [45, 57, 33, 37]) c' ∧ mL_isRewritten_210 n (nI P.length) (c, τ) = some (nI 1, (c', τ)) := by
  obtain ⟨c1, i1, e1⟩ := L_out (n := n) (p := P.length + 0) hn (by omega) hc
  obtain ⟨c2, i2, e2⟩ := L_out (n := n) (p := P.length + 1) hn (by omega) i1
  obtain ⟨c3, i3, e3⟩ := L_out (n := n) (p := P.length + 2) hn (by omega) i2
  obtain ⟨c4, i4, e4⟩ := L_out (n := n) (p := P.length + 3) hn (by omega) i3
  obtain ⟨c5, i5, e5⟩ := L_out (n := n) (p := P.length + 4) hn (by omega) i4
  rw [gD_off] at e1 e2 e3 e4 e5
  refine ⟨c5, i5, ?_⟩
  unfold mL_isRewritten_210
  rw [show mL_out n (nI P.length) (c, τ) = some (nI 45, (c1, τ)) from e1 τ, ej_bi_s, if_pos (show nI 45 = (45 : Int32) from L_45.symm), show nI P.length + 1 = nI (P.length + 1) from p_1 _, show mL_out n (nI (P.length + 1)) (c1, τ) = some (nI 57, (c2, τ)) from e2 τ, ej_bi_s, if_pos (show nI 57 = (57 : Int32) from L_57.symm), show nI P.length + 2 = nI (P.length + 2) by rw [L_2, nI_add], show mL_out n (nI (P.length + 2)) (c2, τ) = some (nI 33, (c3, τ)) from e3 τ, ej_bi_s, if_pos (show nI 33 = (33 : Int32) from L_33.symm), show nI P.length + 3 = nI (P.length + 3) by rw [L_3, nI_add], show mL_out n (nI (P.length + 3)) (c3, τ) = some (nI 37, (c4, τ)) from e4 τ, ej_bi_s, if_pos (show nI 37 = (37 : Int32) from L_37.symm), show nI P.length + 4 = nI (P.length + 4) by rw [L_4, nI_add], show mL_out n (nI (P.length + 4)) (c4, τ) = some (nI 0, (c5, τ)) from e5 τ, ej_bi_s, if_pos (show nI 0 = (0 : Int32) from L_0.symm), L_1]
/-- known -/
theorem RW_yes {i : Nat} {P : List Nat} {y11 : Int64} (hn : 2000 < n) (h : CX σ0 τ T h0 h1) (hX : WXX σ0 D) (hv : v < 10) (hR : rtN (e_L T h0 h1 12) D v = some i) (hp : RT0 σ0 D i rt) (eP : P = plw (pg σ0 (e_ns (e_L T h0 h1 12)) rt) (D (4 * i) % 1024)) (hPb : ∀ b ∈ P, b < 256) (hP46 : P.length ≤ 46) (hy : P.length < 8 → 1 ≤ P.length → y11 = lN (pkL P)) (hc : IQ n fs σ0 [] ot c) : ∃ c' ot', IQ n fs σ0 [] ot' c' ∧ mL_isRewritten_83 n (nI v) 1 (nI (P.length + 1)) y11 (c, τ) = some (nI 1, (c', τ)) := by
  obtain ⟨c1, c2, e1, i2, e2⟩ := Y_addr (n := n) (fs := fs) (σ0 := σ0) (ot := ot) (τ := τ) hn hv hc
  obtain ⟨c3, i3, e3⟩ := a_rewrite (n := n) (rt := rt) hn h hX hv (fun j e => by rw [hR] at e; cases e; exact hp) c2 i2
  have er : ro σ0 (e_L T h0 h1 12) D rt v = P ++ [45, 57, 33, 37] := by unfold ro; rw [hR, eP]
  rw [er] at i3 e3
  have el : (P ++ [45, 57, 33, 37]).length = P.length + 4 := by rw [List.length_append]; rfl
  unfold mL_isRewritten_83
  rw [e1, ej_bv_s, e2, ej_bi_s, e3, ej_bi_s, if_neg (by decide), L_1, pk_sub (by omega), Nat.add_sub_cancel, ej_nm_e, L_4, nI_add, el, if_pos rfl, L_8]
  rcases Nat.lt_or_ge 8 (P.length + 1) with z | z
  · obtain ⟨c4, i4, e4⟩ := RW_210 (n := n) (τ := τ) hn hP46 i3
    exact ⟨c4, _, i4, by rw [ilt_t z (by omega), e4]⟩
  · rw [ilt_f z (by omega)]
    by_cases z1 : P.length = 0
    · obtain ⟨c4, i4, e4⟩ := RW_210 (n := n) (τ := τ) hn hP46 i3
      exact ⟨c4, _, i4, by rw [ieq_t (show P.length + 1 = 1 by omega), e4]⟩
    · obtain ⟨c4, i4, e4⟩ := a_word (n := n) (w := 0) hn (by omega) c3 i3
      obtain ⟨c5, i5, e5⟩ := RW_210 (n := n) (τ := τ) hn hP46 i4
      refine ⟨c5, _, i5, ?_⟩
      have et : ((P ++ [45, 57, 33, 37]).drop (8 * 0)).take 8 = P ++ ([45, 57, 33, 37] : List Nat).take (8 - P.length) := by
        rw [Nat.mul_zero, List.drop_zero, List.take_append, List.take_of_length_le (by omega)]
      rw [ieq_f (show P.length + 1 ≠ 1 by omega) (by omega) (by omega), show m10_word n (0 : Int32) c3 = m10_word n (nI 0) c3 by rw [← L_0], e4 τ, ej_bl_s, et, pk_mul, ← L_1]
      have hm := mask2 (P := P) (r := ([45, 57, 33, 37] : List Nat).take (8 - P.length)) hPb (by omega)
      rw [hm, hy (by omega) (by omega), if_pos ((cmp_eq _ _).mpr rfl), e5, L_1]
theorem plw_b {g : Nat → Option Nat} (hg : ∀ i x, g i = some x → x < 10) : ∀ j, ∀ b ∈ plw g j, b < 256 := by
  intro j
  induction j with
  | zero => intro b hb; cases hb
  | succ j ih =>
    intro b hb
    cases e : g j with
    | none => rw [plw_n e] at hb; exact ih b hb
    | some x =>
      rw [plw_s e] at hb
      have := hg j x e
      rcases List.mem_append.mp hb with z | z
      · exact ih b z
      · simp only [List.mem_cons, List.not_mem_nil, or_false] at z
        omega
theorem L_isRewritten (hn : 2000 < n) (h : CX σ0 τ T h0 h1) (hX : WXX σ0 D) (hv : v < 10) (hc : IQ n fs σ0 [] ot c) : ∃ c' ot', IQ n fs σ0 [] ot' c' ∧ mL_isRewritten n (nI v) (c, τ) = some (nI 1, (c', τ)) := by
  have hw := (IQ_0 hc).1
  have h24 := NN_le hw
  have hB : oB (e_ix (e_ns (e_L T h0 h1 12)) v) := ix_oB _ (CX_10 h) _
  have no26 : ∀ (c : ej_S) (ot : List Nat) (y : Int32), IQ n fs σ0 [] ot c → rtN (e_L T h0 h1 12) D v = none → ∃ c' ot', IQ n fs σ0 [] ot' c' ∧ mL_isRewritten_26 n (nI v) y (c, τ) = some (nI 1, (c', τ)) := by
    intro c ot y hc hR
    obtain ⟨c1, ot1, i1, e1⟩ := RW_no (n := n) (fs := fs) (τ := τ) hn h hX hv hR hc
    refine ⟨c1, ot1, i1, ?_⟩
    unfold mL_isRewritten_26 mL_isRewritten_44
    rw [if_pos rfl, if_neg (by decide), if_pos rfl, e1]
  unfold mL_isRewritten
  rw [L_node hn h.2.1 (by omega), ej_bi_s]
  cases e : e_ix (e_ns (e_L T h0 h1 12)) v with
  | none =>
    rw [e] at hB
    obtain ⟨c1, ot1, i1, e1⟩ := no26 c ot (oI none) hc (by unfold rtN; rw [e])
    exact ⟨c1, ot1, i1, by rw [if_pos ((oI_lt0 hB).mpr rfl), e1]⟩
  | some i =>
    rw [e] at hB
    have hi : i < NN σ0 := by rw [CX_NN h]; exact (e_ix_some e).1
    obtain ⟨c1, i1, e1⟩ := a_cost (n := n) (fs := fs) (tp := []) (ot := ot) hn hX.1 hX.2.1 hi c hc
    rw [if_neg (fun z => by cases (oI_lt0 hB).mp z), show oI (some i) = nI i from rfl, e1 τ, ej_bi_s]
    by_cases fa : D (4 * i) < iF
    · have hR : rtN (e_L T h0 h1 12) D v = some i := by
        unfold rtN
        rw [e]
        show (if D (4 * i) < iF then some i else none) = some i
        rw [if_pos fa]
      obtain ⟨rt, hp⟩ := RT0_ex hX.1 hX.2.1 (show i < 24 by omega) fa
      obtain ⟨c2, i2, e2⟩ := a_printR (n := n) (fs := fs) (tp := []) (ot := ot) hn h hX hi (fun _ => hp) c1 i1
      have ep : po σ0 (e_ns (e_L T h0 h1 12)) D rt i = plw (pg σ0 (e_ns (e_L T h0 h1 12)) rt) (D (4 * i) % 1024) ++ [37] := if_pos fa
      have l23 := hp.2.2.2
      have len := plw_len (g := pg σ0 (e_ns (e_L T h0 h1 12)) rt) (D (4 * i) % 1024)
      have hPb : ∀ b ∈ plw (pg σ0 (e_ns (e_L T h0 h1 12)) rt) (D (4 * i) % 1024), b < 256 := by
        -- the routes' nodes are nodes
        obtain ⟨σr, _, _, _, _, hx⟩ := i2
        intro b hb
        refine hx.2.2.2 b ?_
        rw [ep]; exact List.mem_append_left _ hb
      have noc : ¬ oI (oc D i) < 0 := fun z => by
        have z2 := (oI_lt0 (oc_B hX (show i < 24 by omega))).mp z
        rw [show oc D i = some (D (4 * i) / 1024) from if_pos fa] at z2
        cases z2
      rw [if_neg noc, if_neg (by decide), e2 τ, ej_bi_s]
      rw [ep] at i2 ⊢
      rw [List.length_append, show ([37] : List Nat).length = 1 from rfl]
      generalize eP : plw (pg σ0 (e_ns (e_L T h0 h1 12)) rt) (D (4 * i) % 1024) = P at *
      have hP46 : P.length ≤ 46 := by omega
      unfold mL_isRewritten_44
      rw [show (8 : Int32) = nI 8 from L_8]
      rcases Nat.lt_or_ge 8 (P.length + 1) with z | z
      · obtain ⟨c3, ot3, i3, e3⟩ := RW_yes (n := n) (τ := τ) (y11 := 0) hn h hX hv hR hp eP.symm hPb hP46 (fun a _ => by omega) i2
        exact ⟨c3, ot3, i3, by rw [ilt_t z (by omega), e3]⟩
      · obtain ⟨c3, i3, e3⟩ := a_word (n := n) (w := 0) hn (by omega) c2 i2
        have et : ((P ++ [37]).drop (8 * 0)).take 8 = P ++ [37] := by
          rw [Nat.mul_zero, List.drop_zero, List.take_of_length_le (by rw [List.length_append]; exact z)]
        rw [et] at e3
        obtain ⟨c4, ot4, i4, e4⟩ := RW_yes (n := n) (τ := τ) (y11 := lN (pkL P)) hn h hX hv hR hp eP.symm hPb hP46 (fun _ _ => rfl) i3
        refine ⟨c4, ot4, i4, ?_⟩
        have hm := mask1 (P := P) (x := 37) hPb (by omega) (by omega)
        rw [ilt_f z (by omega), if_neg (fun y => by
          have y' : nI (P.length + 1) = nI 0 := y.trans L_0
          have := (nI_eq (by omega) (by omega)).mp y'
          omega), show m10_word n (0 : Int32) c2 = m10_word n (nI 0) c2 by rw [← L_0], e3 τ, ej_bl_s, show nI 8 * (nI (P.length + 1) - 1) = nI (8 * P.length) by rw [L_1, pk_sub (by omega), Nat.add_sub_cancel, pk_mul], hm, e4]
    · obtain ⟨c2, ot2, i2, e2⟩ := no26 c1 ot (nI i) i1 (by
        unfold rtN
        rw [e]
        show (if D (4 * i) < iF then some i else none) = none
        rw [if_neg fa])
      exact ⟨c2, ot2, i2, by rw [show oc D i = none from if_neg fa, if_pos ((oI_lt0 (by intro v e; cases e)).mpr rfl), e2]⟩
end P97xg
