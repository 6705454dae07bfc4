/-! THE LAW'S LOOK AT THE WAYS -/
theorem e_td_net {L : List St} {x y : Nat} (h : e_td L 2 x y ≠ none) : e_net L x = true := by
  have key : ∀ (L : List St) (o : Option Nat), L.foldl (e_t1 2 x y) o ≠ none → o ≠ none ∨ e_net L x = true := by
    intro L
    induction L with
    | nil => intro o h; exact .inl h
    | cons s r ih =>
      intro o h
      rw [List.foldl_cons] at h
      have en : e_net (s :: r) x = (e_nt x s || e_net r x) := by unfold e_net; rw [List.any_cons]
      rcases ih _ h with g | g
      · unfold e_t1 at g
        split at g
        · rename_i z
          right
          rw [en]
          have : e_nt x s = true := by
            unfold e_is at z
            unfold e_nt
            simp only [decide_eq_true_eq] at z ⊢
            exact ⟨z.1, z.2.1⟩
          rw [this]; rfl
        · exact .inl g
      · right; rw [en, g]; simp
  rcases key L none h with g | g
  · exact absurd rfl g
  · exact g
section P97h
variable {n a b k h0 h1 v : Nat} {fs : Nat → List Nat} {σ σ0 c τ : ej_S} {tp ot : List Nat} {T : Nat → Nat} {D rt : Nat → Nat}
/-- in a map of the law no step changes a state -/
theorem CX_sb (h : CX σ0 τ T h0 h1) (ha : a < NN σ0) (hb : b < NN σ0) (hk1 : 1 ≤ k) (hk5 : k ≤ 5) (hs : scost σ0 a b k ≠ none) : sbN σ0 a 0 b k = 0 := by
  have hN := CX_NN h
  obtain ⟨p16, p17, p18, p19, p20⟩ := h.2.2.2.2.2 a b (by omega) (by omega)
  obtain ⟨r16, r17, r18, r19, r20⟩ := h.2.2.2.2.2 b a (by omega) (by omega)
  obtain ⟨q1, q11, q12, q13, q14, q15⟩ := h.2.2.2.2.1 a (by omega)
  have ho : outB σ0 a b k = false := by
    unfold outB
    rw [CX_dm h ha]; simp
  have hm : mkN σ0 a b k ≠ 2 := by
    unfold mkN
    by_cases k2 : k = 2
    · rw [if_pos k2, if_pos p17]; omega
    · rw [if_neg k2]
      by_cases k4 : k = 4
      · rw [if_pos k4]
        subst k4
        rw [sc4, r20] at hs
        have : e_td (e_L T h0 h1 12) 2 ((e_ns (e_L T h0 h1 12)).getD a 0) ((e_ns (e_L T h0 h1 12)).getD b 0) ≠ none := fun z => by
          rw [z, if_pos (show oI none = zm from rfl)] at hs
          exact hs rfl
        rw [if_neg (q13.mpr (e_td_net this))]; omega
      · rw [if_neg k4]
        split <;> omega
  unfold sbN
  rw [if_neg hm, ho, if_neg (by decide)]
theorem ad0 : addN σ a 0 b k = 0 := by
  unfold addN
  rw [if_neg (fun z => absurd z.1 (by decide)), if_neg (fun z => absurd z.1 (by decide))]
/-- steps between the keys of state 0 -/
theorem Ed0 (h : CX σ0 τ T h0 h1) (ha : a < NN σ0) (hb : b < NN σ0) (h24 : NN σ0 ≤ 24) (hk1 : 1 ≤ k) (hk5 : k ≤ 5) {q : Nat} (hs : scost σ0 a b k = some q) : Ed σ0 (4 * a) k (4 * b) (1024 * q + 1) := by
  have e := CX_sb h ha hb hk1 hk5 (by rw [hs]; simp)
  refine ⟨by omega, by omega, hk1, hk5, q, ?_, ?_, ?_⟩
  · rw [show 4 * a / 4 = a by omega, show 4 * b / 4 = b by omega]; exact hs
  · rw [show 4 * a / 4 = a by omega, show 4 * b / 4 = b by omega, show 4 * a % 4 = 0 by omega, e]; omega
  · rw [show 4 * a / 4 = a by omega, show 4 * b / 4 = b by omega, show 4 * a % 4 = 0 by omega, ad0]; rfl
/-- all that the ways of a map are -/
def WXX (σ : ej_S) (D : Nat → Nat) : Prop := SD σ D ∧ Z0 D ∧ ((homeless σ ∧ (∀ v, v < 96 → D v = iF) ∧ ∀ a b, a < 24 → b < 24 → gA σ 21 (24 * a + b) = nI 0) ∨ ∃ h t, homeAt σ h ∧ nn σ h t ∧ (∀ a b, a < 24 → b < 24 → gA σ 21 (24 * a + b) = Xs σ h t (24 * a + b)) ∧ sol (Ed σ) (4 * h) D ∧ gA σ 26 (4 * h) = nI 0)
theorem WXX_ex (h : CX σ0 τ T h0 h1) (hw : wfR σ0) (hs : SOL σ0) : ∃ D, WXX σ0 D := by
  have hiF := iF_e
  have hbk := SOL_bk hs
  have h24 := NN_le hw
  rcases hs with ⟨z0, z00, z⟩ | ⟨hm, t, D, z1, z2, z3, z4⟩
  · refine ⟨fun _ => iF, ⟨fun v hv => .inl ⟨rfl, z v hv⟩, fun v _ hf => absurd hf (Nat.lt_irrefl _), fun _ => Nat.le_refl _, fun v _ hf => absurd hf (Nat.lt_irrefl _), fun a r ha hW => ?_⟩, fun v _ hf => absurd hf (Nat.lt_irrefl _), .inl ⟨z0, fun _ _ => rfl, z00⟩⟩
    rcases hW with ⟨w, _⟩ | ⟨q, _, _, _, w, _⟩
    · exact .inl w
    · exact absurd w (Nat.lt_irrefl _)
  · have hc := CR_of hw hbk
    refine ⟨D, ⟨z4.2.2.1, z4.2.1, z4.1.2.1, fun v hv hf => ?_, fun a r ha hW => ?_⟩, fun v hv hf => ?_, .inr ⟨hm, t, z1, z2, z3, z4.1, z4.2.2.2.1.2⟩⟩
    · rcases wk_last (z4.1.2.2.1 v hv hf) with ⟨_, w⟩ | ⟨d', u0, k0, w0, _, e0, _⟩
      · have := z1.1; rw [w]; omega
      · exact (Ed_lim hc e0).2.1
    · rcases hW with ⟨w, _⟩ | ⟨q, q1, q2, q3, q4, q5, q6⟩
      · exact .inl w
      · obtain ⟨rt, r1, r2⟩ := PT_ex hc z4 (D q % 1024) q (by omega) q4 rfl
        refine .inr ⟨q, rt, q3, by omega, by omega, q4, r1, r2, PT_23 z4.1 r2 (fun q' h1 h2 => ?_)⟩
        rw [r1] at h2 ⊢
        exact q5 q' (by omega) (by omega)
    · refine z4.1.2.2.1 v hv hf (fun _ v => v % 4 = 0) (by omega) (fun d u k v w hu e => ?_)
      obtain ⟨l1, l2, _⟩ := Ed_lim hc e
      obtain ⟨_, _, k1, k5, q, e1, e2, _⟩ := e
      rw [hu, CX_sb h l1 l2 k1 k5 (by rw [e1]; simp)] at e2
      exact e2
theorem WXX_rx (h : CX σ0 τ T h0 h1) (hX : WXX σ0 D) (ha : a < NN σ0) (hb : b < NN σ0) (h24 : NN σ0 ≤ 24) (hk1 : 1 ≤ k) (hk5 : k ≤ 5) {q : Nat} (hs : scost σ0 a b k = some q) (hf : D (4 * a) < iF) : D (4 * b) ≤ D (4 * a) + (1024 * q + 1) := by
  have e := Ed0 h ha hb h24 hk1 hk5 hs
  rcases hX.2.2 with ⟨_, z, _⟩ | ⟨hm, t, _, _, _, z, _⟩
  · have := z (4 * a) (by omega); omega
  · exact z.2.2.2 _ _ _ _ e hf
theorem oc_B (hX : WXX σ0 D) (ha : a < 24) : oB (oc D a) := by
  intro v e
  unfold oc at e
  split at e
  · rename_i z
    have := OKD_bd hX.1.2.1 (show 4 * a < 96 by omega) z
    cases e; omega
  · cases e
theorem os_B (hX : WXX σ0 D) (ha : a < 24) : oB (os D a) := by
  intro v e
  unfold os at e
  split at e
  · rename_i z
    have := OKD_bd hX.1.2.1 (show 4 * a < 96 by omega) z
    cases e; omega
  · cases e
/-- no step makes a way better -/
theorem L_areWays_58 (hn : 2000 < n) (f6 : Int32 → Int32 → lw_S → Option (Int32 × lw_S)) (h : CX σ0 τ T h0 h1) (hX : WXX σ0 D) (ha : a < NN σ0) (hb : b < NN σ0) (h24 : NN σ0 ≤ 24) (y : Nat) : ∀ (fu k : Nat) (c : ej_S), IQ n fs σ0 tp ot c → 1 ≤ k → k ≤ 6 → 6 - k < fu → ∃ c', IQ n fs σ0 tp ot c' ∧ mL_areWays_58 n f6 fu (nI 1) (nI y) (nI a) (nI b) (oI (oc D a)) (oI (oc D b)) (nI k) (c, τ) = f6 (nI 1) (nI (y + 1)) (c', τ) := by
  intro fu
  induction fu with
  | zero => intro k c _ _ _ z; omega
  | succ fu ih =>
    intro k c hc hk1 hk6 hf
    rw [u_L_areWays_58, L_6]
    rcases Nat.eq_or_lt_of_le hk6 with rfl | q
    · rw [ile_t (Nat.le_refl _) (by omega), L_1, nI_add, ej_nm_e]
      exact ⟨c, hc, rfl⟩
    · rw [ile_f q (by omega), L_0, L_1, if_neg n10]
      by_cases fa : D (4 * a) < iF
      · have oa : oc D a = some (D (4 * a) / 1024) := if_pos fa
        have ba := OKD_bd hX.1.2.1 (show 4 * a < 96 by omega) fa
        rw [if_neg (fun z => by have := (oI_lt (oc_B hX (by omega))).mp z; rw [oa] at this; cases this)]
        by_cases hab : a = b
        · rw [ieq_t hab, nI_add, ej_nm_e]
          exact ⟨c, hc, rfl⟩
        · obtain ⟨c1, i1, e1, b1⟩ := L_step (n := n) hn h ha hb hab hk1 (show k ≤ 5 by omega) hc
          rw [ieq_f hab (by omega) (by omega), e1, ej_bi_s]
          cases hs : scost σ0 a b k with
          | none =>
            obtain ⟨c2, i2, e2⟩ := ih (k + 1) c1 i1 (by omega) q (by omega)
            refine ⟨c2, i2, ?_⟩
            rw [if_pos (show oI none < nI 0 from zm_lt (by omega)), nI_add, ej_nm_e]
            exact e2
          | some q1 =>
            have hq1 := b1 q1 hs
            have rx := WXX_rx h hX ha hb h24 hk1 (show k ≤ 5 by omega) hs fa
            obtain ⟨c2, i2, e2⟩ := ih (k + 1) c1 i1 (by omega) q (by omega)
            have iF_big := iF_e
            have hlim : q1 ≤ 1200000 := scost_bd (CR_w (CR_of (IQ_0 hc).1 (SOL_bk (IQ_0 hc).2))).1 (CR_w (CR_of (IQ_0 hc).1 (SOL_bk (IQ_0 hc).2))).2 (by omega) (by omega) hs
            have fb : D (4 * b) < iF := by omega
            have ob : oc D b = some (D (4 * b) / 1024) := if_pos fb
            have bb := OKD_bd hX.1.2.1 (show 4 * b < 96 by omega) fb
            rw [if_neg (show ¬ oI (some q1) < nI 0 from fun z => by rw [show oI (some q1) = nI q1 from rfl, clt_f (Nat.zero_le _) (by omega)] at z; exact z), if_neg (fun z => by have := (oI_lt (oc_B hX (by omega))).mp z; rw [ob] at this; cases this)]
            rw [oa, ob] at e2 ⊢
            rw [show oI (some q1) = nI q1 from rfl, show oI (some (D (4 * a) / 1024)) = nI (D (4 * a) / 1024) from rfl, show oI (some (D (4 * b) / 1024)) = nI (D (4 * b) / 1024) from rfl] at *
            rw [nI_add, nI_add]
            rcases Nat.lt_or_ge (D (4 * b) / 1024) (D (4 * a) / 1024 + q1) with w | w
            · rw [ilt_t w (by omega), ej_nm_e]
              exact ⟨c2, i2, e2⟩
            · have we : D (4 * b) / 1024 = D (4 * a) / 1024 + q1 := by omega
              rw [ilt_f w (by omega), ieq_t we]
              obtain ⟨c3, i3, e3⟩ := a_steps (n := n) (fs := fs) (tp := tp) (ot := ot) hn hX.1 hX.2.1 hb c1 i1
              obtain ⟨c4, i4, e4⟩ := a_steps (n := n) (fs := fs) (tp := tp) (ot := ot) hn hX.1 hX.2.1 ha c3 i3
              obtain ⟨c5, i5, e5⟩ := ih (k + 1) c4 i4 (by omega) q (by omega)
              rw [oa, ob] at e5
              refine ⟨c5, i5, ?_⟩
              rw [e3 τ, ej_bi_s, e4 τ, ej_bi_s, show os D a = some (D (4 * a) % 1024) from if_pos fa, show os D b = some (D (4 * b) % 1024) from if_pos fb, show oI (some (D (4 * a) % 1024)) = nI (D (4 * a) % 1024) from rfl, show oI (some (D (4 * b) % 1024)) = nI (D (4 * b) % 1024) from rfl, nI_add, ilt_f (by omega) (by omega), ej_nm_e]
              exact e5
      · have oa : oc D a = none := if_neg fa
        rw [oa, if_pos (show oI none < nI 0 from zm_lt (by omega)), nI_add, ej_nm_e]
        exact ⟨c, hc, rfl⟩
end P97h
