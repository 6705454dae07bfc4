/-! ADDRESSES -/
section P93c
variable {n b e : Nat} {σc σr : ej_S} {tp : List Nat}
theorem cn_one (hN : hNm σr) (hw : wfR σr) (he : e ≤ tp.length) (hb : b ≤ e) {i j : Nat} (hi : i < NN σr) (hj : j < NN σr) (ci : cnN n σr tp b e i) (cj : cnN n σr tp b e j) (li : nmN σr i = e - b) (lj : nmN σr j = e - b) : i = j := by
  have vi := hN.2 i hi
  have vj := hN.2 j hj
  unfold nmN at li lj
  have el : nL (gB σr 1 i) = nL (gB σr 1 j) := by
    apply List.ext_getElem (by omega)
    intro q h1 h2
    have a1 := ci.2.2.2 q h1
    have a2 := cj.2.2.2 q h2
    rw [li] at a1
    rw [lj] at a2
    rw [a1] at a2
    rw [List.getD_eq_getElem?_getD, List.getD_eq_getElem?_getD, List.getElem?_eq_getElem h1, List.getElem?_eq_getElem h2] at a2
    exact a2
  have en : gB σr 1 i = gB σr 1 j := by rw [(nL_sp vi).1, (nL_sp vj).1, el]
  obtain ⟨N, h0, h1, h2, w1, w2, w3, _⟩ := hw
  rw [NN_eq h1 h0] at hi hj
  rcases Nat.lt_trichotomy i j with q | q | q
  · exact absurd ⟨en, ci.1.trans cj.1.symm⟩ (w3 i j q hj)
  · exact q
  · exact absurd ⟨en.symm, cj.1.trans ci.1.symm⟩ (w3 j i q hi)
theorem r_kn_rest (hn : 2000 < n) (h : WR σc σr) (hN : hNm σr) (hT : RTX σr 4 tp) (hb : b ≤ e) (he : e ≤ tp.length) {y : Int32} (hy : vld n σr tp b e y) : ∀ (k j : Nat), j ≤ NN σr → NN σr - j < k → (∀ i, j ≤ i → i < NN σr → ¬ (cnN n σr tp b e i ∧ nmN σr i = e - b)) → m11_known_8 n k (nI b) (nI e) y (bI true) (nI j) σr = some (y, σr) := by
  have h24 := hN.1
  intro k
  induction k with
  | zero => intro j _ h; omega
  | succ k ih =>
    intro j hj hk hno
    rcases Nat.lt_or_ge j (NN σr) with q | q
    · obtain ⟨s1, s2, s3⟩ := r_kn_step (n := n) (k := k) (w := true) hn h hN hT hb he q hy
      have nx : m11_known_8 n k (nI b) (nI e) y (bI true) (nI (j + 1)) σr = some (y, σr) := ih (j + 1) q (by omega) (fun i h1 h2 => hno i (by omega) h2)
      by_cases c : cnN n σr tp b e j
      · rw [s3 c (fun z => hno j (Nat.le_refl _) q ⟨c, z⟩), if_pos rfl]; exact nx
      · rw [s1 c]; exact nx
    · obtain ⟨N, h0, h1, _⟩ := id h.1
      have hNN := NN_eq h1 h0
      rw [u_11_known_8, h1, ile_t (show N ≤ j by omega) (by omega)]
theorem s_known_8 (hn : 2000 < n) (h : WR σc σr) (hN : hNm σr) (hTc : TX σc 0 tp) (hT : RTX σr 4 tp) (hb : b ≤ e) (he : e ≤ tp.length) : ∀ (k j : Nat) (y : Int32), vld n σr tp b e y → j ≤ NN σr → NN σr - j < k → ∃ x, m2_nodeOfPart_6 n 0 k (nI b) (nI e) y (nI j) σc = some (x, σc) ∧ m11_known_8 n k (nI b) (nI e) y (bI false) (nI j) σr = some (x, σr) ∧ vld n σr tp b e x := by
  have h24 := hN.1
  intro k
  induction k with
  | zero => intro j y _ _ h; omega
  | succ k ih =>
    intro j y hy hj hk
    rcases Nat.lt_or_ge j (NN σr) with q | q
    · obtain ⟨s1, s2, s3⟩ := r_kn_step (n := n) (k := k) (w := false) hn h hN hT hb he q hy
      obtain ⟨t1, t2, t3⟩ := x_nop_step (n := n) (k := k) hn h hN hTc hb he q hy
      by_cases c : cnN n σr tp b e j
      · by_cases l : nmN σr j = e - b
        · have hv : vld n σr tp b e (nI j) := .inr ⟨j, q, rfl, c⟩
          rw [t2 c l, s2 c l]
          refine ⟨nI j, rfl, ?_, hv⟩
          rcases Nat.lt_or_ge (NN σr - (j + 1)) k with w | w
          · exact r_kn_rest hn h hN hT hb he hv k (j + 1) q w (fun i h1 h2 hno => by
              have := cn_one hN h.1 he hb q h2 c hno.1 l hno.2
              omega)
          · omega
        · rw [t3 c l, s3 c l, if_neg (by decide)]
          refine ih (j + 1) (bst σr y j) ?_ q (by omega)
          unfold bst
          split
          · split
            · exact .inr ⟨j, q, rfl, c⟩
            · split
              · exact hy
              · exact .inr ⟨j, q, rfl, c⟩
          · exact hy
      · rw [t1 c, s1 c]
        exact ih (j + 1) y hy q (by omega)
    · obtain ⟨N, h0, h1, _⟩ := id h.1
      have hNN := NN_eq h1 h0
      rw [u_2_nodeOfPart_6, x_size (WR_G h), ej_bi_s, ile_t q (by omega), u_11_known_8, h1, ile_t (show N ≤ j by omega) (by omega)]
      exact ⟨y, rfl, rfl, hy⟩
theorem s_known (hn : 2000 < n) (h : WR σc σr) (hN : hNm σr) (hTc : TX σc 0 tp) (hT : RTX σr 4 tp) (hb : b ≤ e) (he : e ≤ tp.length) : ∃ x, m2_nodeOfPart n 0 (nI b) (nI e) σc = some (x, σc) ∧ m11_known n (nI b) (nI e) σr = some (x, σr) ∧ vld n σr tp b e x := by
  have h24 := hN.1
  unfold m2_nodeOfPart m11_known
  rw [L_m1, L_0]
  exact s_known_8 hn h hN hTc hT hb he n 0 zm (.inl rfl) (Nat.zero_le _) (by omega)
end P93c
/-- where the part before k begins -/
def fs (tp : List Nat) : Nat → Nat
  | 0 => 0
  | k + 1 => if cd tp k = 33 then k + 1 else fs tp k
theorem fs_le (tp : List Nat) : ∀ k, fs tp k ≤ k
  | 0 => Nat.le_refl _
  | k + 1 => by
    show (if cd tp k = 33 then k + 1 else fs tp k) ≤ k + 1
    have := fs_le tp k
    split <;> omega
noncomputable def kx (n : Nat) (σ : ej_S) (b e : Nat) : Int32 := match m11_known n (nI b) (nI e) σ with
  | some (x, _) => x
  | none => zm
/-- the last part before k that is known -/
noncomputable def lk (n : Nat) (σ : ej_S) (tp : List Nat) : Nat → Option (Int32 × Nat × Nat)
  | 0 => none
  | k + 1 => @ite _ (cd tp k = 33 ∧ kx n σ (fs tp k) k ≠ zm) (Classical.propDecidable _) (some (kx n σ (fs tp k) k, fs tp k, k)) (lk n σ tp k)
section P93d
variable {n : Nat} {σ σc σr : ej_S} {tp : List Nat}
theorem kx_sp (hn : 2000 < n) (h : WR σc σr) (hN : hNm σr) (hTc : TX σc 0 tp) (hT : RTX σr 4 tp) {b e : Nat} (hb : b ≤ e) (he : e ≤ tp.length) : m2_nodeOfPart n 0 (nI b) (nI e) σc = some (kx n σr b e, σc) ∧ m11_known n (nI b) (nI e) σr = some (kx n σr b e, σr) ∧ vld n σr tp b e (kx n σr b e) := by
  obtain ⟨x, e1, e2, e3⟩ := s_known (n := n) hn h hN hTc hT hb he
  have : kx n σr b e = x := by unfold kx; rw [e2]
  rw [this]; exact ⟨e1, e2, e3⟩
theorem lk_sp {k : Nat} (hv : ∀ b e, b ≤ e → e ≤ tp.length → vld n σ tp b e (kx n σ b e)) : k ≤ tp.length → ∀ x b e, lk n σ tp k = some (x, b, e) → b ≤ e ∧ e < tp.length ∧ ∃ a, a < NN σ ∧ x = nI a ∧ cnN n σ tp b e a := by
  induction k with
  | zero => intro _ x b e h; cases h
  | succ k ih =>
    intro hk x b e h
    unfold lk at h
    by_cases g : cd tp k = 33 ∧ kx n σ (fs tp k) k ≠ zm
    · rw [if_pos g] at h
      have h := Option.some.inj h
      have h1 := congrArg Prod.fst h
      have h2 := congrArg (fun z => z.2.1) h
      have h3 := congrArg (fun z => z.2.2) h
      simp only at h1 h2 h3
      subst h1; subst h2; subst h3
      have hf := fs_le tp k
      refine ⟨hf, by omega, ?_⟩
      rcases hv (fs tp k) k hf (by omega) with z | z
      · exact absurd z g.2
      · exact z
    · rw [if_neg g] at h
      exact ih (by omega) x b e h
theorem x_beginOfPart_2 (hT : TX σ 0 tp) : ∀ (q k : Nat), q ≤ tp.length → q < k → m2_beginOfPart_2 n 0 k (nI q) σ = some (nI (fs tp q), σ) := by
  have ht := TX_len hT
  intro q
  induction q with
  | zero =>
    intro k _ hk
    obtain ⟨k, rfl⟩ : ∃ k', k = k' + 1 := ⟨k - 1, by omega⟩
    rw [u_2_beginOfPart_2, L_0, ile_t (Nat.le_refl _) (by omega)]; rfl
  | succ q ih =>
    intro k hq hk
    obtain ⟨k, rfl⟩ : ∃ k', k = k' + 1 := ⟨k - 1, by omega⟩
    have hc := cd_b hT.2.2.2 (i := q) (by omega)
    have ef : fs tp (q + 1) = if cd tp q = 33 then q + 1 else fs tp q := rfl
    rw [u_2_beginOfPart_2, L_m1, L_0, ile_f (by omega) (by omega), L_1, nI_m2 (by omega), Nat.add_sub_cancel, x_byteAt hT (by omega), ej_bi_s, cI_lt hc, L_33, ef]
    by_cases g : cd tp q = 33
    · rw [ieq_t g, if_pos g]
    · rw [ieq_f g (by omega) (by omega), if_neg g, nI_m1 (by omega), Nat.add_sub_cancel, ej_nm_e]
      exact ih k (by omega) (by omega)
/-- what the class does then -/
noncomputable def xw (n len : Nat) (σ : ej_S) : Option (Int32 × Nat × Nat) → Option ej_S
  | none => ej_bv (m7_appendPart n 1 0 (nI 0) (nI len) σ) fun s => some s
  | some (x, b, e) => ej_bv (m2_writeAlong n 0 x (nI b) (nI e) σ) fun s => some s
theorem x_wa_14 (hn : 2000 < n) (h : WR σc σr) (hN : hNm σr) (hTc : TX σc 0 tp) (hT : RTX σr 4 tp) : ∀ (q k : Nat), q ≤ tp.length → q < k → m2_writeAddress_14 n 0 k (dn q) σc = xw n tp.length σc (lk n σr tp q) := by
  have ht := TX_len hTc
  intro q
  induction q with
  | zero =>
    intro k _ hk
    obtain ⟨k, rfl⟩ : ∃ k', k = k' + 1 := ⟨k - 1, by omega⟩
    rw [u_2_writeAddress_14, L_0, show dn 0 = zm from rfl, if_pos (zm_lt (by omega))]
    unfold m7_length
    rw [hTc.1, ej_bi_s]
    show _ = ej_bv (m7_appendPart n 1 0 (nI 0) (nI tp.length) σc) fun s => some s
    rfl
  | succ q ih =>
    intro k hq hk
    obtain ⟨k, rfl⟩ : ∃ k', k = k' + 1 := ⟨k - 1, by omega⟩
    have hc := cd_b hTc.2.2.2 (i := q) (by omega)
    rw [u_2_writeAddress_14, L_m1, L_0, show dn (q + 1) = nI q from rfl, ilt_f (Nat.zero_le _) (by omega), x_byteAt hTc (by omega), ej_bi_s, cI_lt hc, L_33]
    have el : lk n σr tp (q + 1) = @ite _ (cd tp q = 33 ∧ kx n σr (fs tp q) q ≠ zm) (Classical.propDecidable _) (some (kx n σr (fs tp q) q, fs tp q, q)) (lk n σr tp q) := rfl
    by_cases g : cd tp q = 33
    · have hf := fs_le tp q
      have e0 : m2_beginOfPart n 0 (nI q) σc = some (nI (fs tp q), σc) := by
        unfold m2_beginOfPart
        exact x_beginOfPart_2 hTc q n (by omega) (by omega)
      rw [ieq_t g, e0, ej_bi_s, (kx_sp hn h hN hTc hT hf (show q ≤ tp.length by omega)).1, ej_bi_s, el]
      by_cases g2 : kx n σr (fs tp q) q = zm
      · rw [if_pos g2, if_neg (fun z => z.2 g2), dn_s (by omega), ej_nm_e]
        exact ih k (by omega) (by omega)
      · rw [if_neg g2, if_pos ⟨g, g2⟩]; rfl
    · rw [ieq_f g (by omega) (by omega), el, if_neg (fun z => g z.1), dn_s (by omega), ej_nm_e]
      exact ih k (by omega) (by omega)
/-- what the reference does then -/
noncomputable def xr (n len : Nat) (σ : ej_S) : Option (Int32 × Nat × Nat) → Option (Int32 × ej_S)
  | none => ej_bv (m11_putsTape n (nI 0) (nI len) (uI σ 18 (nI 0))) fun s21 => ej_ck 4 5 (ej_nm (uA s21 1 4 (nI 0)) fun s22 => (some (gI s22 18, s22)))
  | some (x, b, e) => ej_bv (m11_lays n x (uI σ 18 (nI 0))) fun s10 => ej_bv (m11_putsLeft n s10) fun s11 => ej_bi (m11_nameLength n x s11) fun r13 s12 => (if nI e - nI b ≤ r13 then (m11_rewrite_164 n (nI len) (nI e) s12) else ej_bv (m11_putsTape n (nI b) (nI e) s12) fun s19 => ej_bv (m11_putsCode n 33 s19) fun s20 => (m11_rewrite_164 n (nI len) (nI e) s20))
noncomputable def kn1 (o : Option (Int32 × Nat × Nat)) : Int32 := match o with | none => zm | some (x, _, _) => x
noncomputable def kn2 (o : Option (Int32 × Nat × Nat)) : Int32 := match o with | none => nI 0 | some (_, b, _) => nI b
noncomputable def kn3 (o : Option (Int32 × Nat × Nat)) : Int32 := match o with | none => nI 0 | some (_, _, e) => nI e
theorem r_rw_25 (hn : 2000 < n) (h : WR σc σr) (hN : hNm σr) (hTc : TX σc 0 tp) (hT : RTX σr 4 tp) : ∀ (k j : Nat), j ≤ tp.length → tp.length - j < k → m11_rewrite_25 n k (nI tp.length) (nI (fs tp j)) (kn1 (lk n σr tp j)) (kn2 (lk n σr tp j)) (kn3 (lk n σr tp j)) (nI j) σr = xr n tp.length σr (lk n σr tp tp.length) := by
  have ht := hT.2.1
  intro k
  induction k with
  | zero => intro j _ h; omega
  | succ k ih =>
    intro j hj hk
    rw [u_11_rewrite_25]
    rcases Nat.eq_or_lt_of_le hj with z | z
    · rw [z, ile_t (Nat.le_refl _) (by omega), ej_nm_e]
      have hls := lk_sp (n := n) (σ := σr) (tp := tp) (k := tp.length) (fun b e hb he => (kx_sp hn h hN hTc hT hb he).2.2) (Nat.le_refl _)
      cases hl : lk n σr tp tp.length with
      | none =>
        show (if zm = -1 then _ else _) = _
        rw [L_m1, if_pos rfl, L_0]
        show _ = ej_bv (m11_putsTape n (nI 0) (nI tp.length) (uI σr 18 (nI 0))) fun s21 => ej_ck 4 5 (ej_nm (uA s21 1 4 (nI 0)) fun s22 => (some (gI s22 18, s22)))
        rw [show ((4 : Int32).toNatClampNeg) = 4 from by decide]
      | some o =>
        obtain ⟨x, b, e⟩ := o
        obtain ⟨b1, b2, a, a1, a2, _⟩ := hls x b e hl
        have h24 := hN.1
        show (if x = -1 then _ else _) = _
        rw [L_m1, a2, ieq_m (by omega), L_0]
        rfl
    · have hc := cd_b hT.2.2.2 (i := j) z
      have hf := fs_le tp j
      rw [ile_f z (by omega), L_2400, nI_add, ck_t (by omega) (by omega), nI_clamp (by omega), show 2400 + j = 600 * 4 + j by omega, hT.2.2.1 j z, L_33]
      have el : lk n σr tp (j + 1) = @ite _ (cd tp j = 33 ∧ kx n σr (fs tp j) j ≠ zm) (Classical.propDecidable _) (some (kx n σr (fs tp j) j, fs tp j, j)) (lk n σr tp j) := rfl
      have ef : fs tp (j + 1) = if cd tp j = 33 then j + 1 else fs tp j := rfl
      have hi := ih (j + 1) z (by omega)
      by_cases g : cd tp j = 33
      · rw [ef, if_pos g] at hi
        rw [ieq_t g, (kx_sp hn h hN hTc hT hf (show j ≤ tp.length by omega)).2.1, ej_bi_s, L_m1]
        unfold m11_rewrite_81
        rw [L_m1, L_1, nI_add]
        by_cases g2 : kx n σr (fs tp j) j = zm
        · rw [el, if_neg (fun z => z.2 g2)] at hi
          rw [if_pos g2, if_pos g2, if_pos g2, ej_nm_e, ej_nm_e]
          exact hi
        · rw [el, if_pos ⟨g, g2⟩] at hi
          rw [if_neg g2, if_neg g2, if_neg g2, ej_nm_e, ej_nm_e]
          exact hi
      · rw [ef, if_neg g, el, if_neg (fun z => g z.1)] at hi
        rw [ieq_f g (by omega) (by omega), L_1, nI_add, ej_nm_e]
        exact hi
theorem r_putsTape_2 {e : Nat} (he : e ≤ tp.length) : ∀ (k i : Nat) (l : List Nat) (σ : ej_S), RX σ l → RTX σ 4 tp → i ≤ e → e - i < k → l.length + (e - i) ≤ 4000 → ∃ σ', m11_putsTape_2 n k (nI e) (nI i) σ = some σ' ∧ RX σ' (l ++ (tp.take e).drop i) ∧ fr [18] [] [28] [] [] σ σ' := by
  intro k
  induction k with
  | zero => intro i l σ _ _ _ h; omega
  | succ k ih =>
    intro i l σ hX hT hi hk hl
    have ht := hT.2.1
    rw [u_11_putsTape_2]
    rcases Nat.eq_or_lt_of_le hi with z | z
    · rw [z, ile_t (Nat.le_refl _) (by omega)]
      refine ⟨σ, rfl, ?_, fr_rf⟩
      rw [List.drop_eq_nil_of_le (by rw [List.length_take]; omega), List.append_nil]; exact hX
    · have hc := cd_b hT.2.2.2 (i := i) (by omega)
      rw [ile_f z (by omega), L_2400, nI_add, ck_t (by omega) (by omega), nI_clamp (by omega), show 2400 + i = 600 * 4 + i by omega, hT.2.2.1 i (by omega)]
      obtain ⟨σ1, e1, x1, f1⟩ := r_putsCode (n := n) hX (by omega) hc
      rw [e1, ej_bv_s, L_1, nI_add, ej_nm_e]
      obtain ⟨σ', r1, r2, r3⟩ := ih (i + 1) (l ++ [cd tp i]) σ1 x1 (RTX_fr hT f1 (by simp) (by simp)) z (by omega) (by rw [List.length_append]; show l.length + 1 + _ ≤ 4000; omega)
      refine ⟨σ', r1, ?_, fr_tr f1 r3⟩
      have ed : (tp.take e).drop i = cd tp i :: (tp.take e).drop (i + 1) := by
        rw [List.drop_eq_getElem_cons (by rw [List.length_take]; omega), List.getElem_take, ← cd_lt (by omega)]
      rw [ed]
      rw [List.append_assoc] at r2
      exact r2
theorem r_putsTape {e i : Nat} {l : List Nat} (hn : 2000 < n) (hX : RX σ l) (hT : RTX σ 4 tp) (he : e ≤ tp.length) (hi : i ≤ e) (hl : l.length + (e - i) ≤ 4000) : ∃ σ', m11_putsTape n (nI i) (nI e) σ = some σ' ∧ RX σ' (l ++ (tp.take e).drop i) ∧ fr [18] [] [28] [] [] σ σ' := by
  have ht := hT.2.1
  unfold m11_putsTape
  exact r_putsTape_2 he n i l σ hX hT hi (by omega) hl
end P93d
