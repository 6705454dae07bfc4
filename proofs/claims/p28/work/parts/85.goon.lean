/-! THE CLASS: going on from the nearest -/
theorem CR_of {σ : ej_S} (hw : wfR σ) (hb : bkOK σ) : CR σ (NN σ) := by
  obtain ⟨N, h0, h1, _⟩ := id hw
  have := NN_eq h1 h0
  exact ⟨hw, by rw [this]; exact h1, by omega, hb⟩
theorem eOK_Ed {σ : ej_S} (hw : wfR σ) (hb : bkOK σ) : eOK (Ed σ) := by
  refine ⟨fun u k v w e => ?_, fun u k v w w' e e' => ?_⟩
  · obtain ⟨_, _, _, l⟩ := Ed_lim (CR_of hw hb) e
    exact ⟨e.1, e.2.1, e.2.2.1, e.2.2.2.1, l⟩
  · obtain ⟨_, _, _, _, c, h1, _, h2⟩ := e
    obtain ⟨_, _, _, _, c', h1', _, h2'⟩ := e'
    rw [h1] at h1'
    have := Option.some.inj h1'
    subst this
    rw [h2, h2']
theorem relG_fr {I J A B M : List Nat} {σc σc' σr : ej_S} (h : relG σc σr) (p : fr I J A B M σc σc') (i1 : 22 ∉ I) (i2 : 23 ∉ I) (i3 : 24 ∉ I) (i4 : 25 ∉ I) (i5 : 26 ∉ I) (i6 : 27 ∉ I) (i7 : 28 ∉ I) (a1 : 18 ∉ A) (a2 : 19 ∉ A) (a3 : 20 ∉ A) (a4 : 21 ∉ A) (a5 : 22 ∉ A) (a6 : 23 ∉ A) (a7 : 24 ∉ A) (b1 : 1 ∉ B) (m0 : 0 ∉ M) (m1 : 1 ∉ M) : relG σc' σr := ⟨h.1, relC_fr h.2.1 p i1 i2 i3 i4 i5 i6 i7 a1 a2 a3 a4 a5 a6 b1 m0 m1, by rw [p.2.2.1 24 a7]; exact h.2.2.1, h.2.2.2⟩
theorem relG_28 {σc σc' σr : ej_S} (h : relG σc σr) (p : fr [] [] [25, 26, 27, 28] [] [] σc σc') : relG σc' σr := relG_fr h p (by simp) (by simp) (by simp) (by simp) (by simp) (by simp) (by simp) (by simp) (by simp) (by simp) (by simp) (by simp) (by simp) (by simp) (by simp) (by simp) (by simp)
theorem relG_29 {σc σc' σr : ej_S} (h : relG σc σr) (p : fr [] [] [25, 26, 27, 28, 29] [] [] σc σc') : relG σc' σr := relG_fr h p (by simp) (by simp) (by simp) (by simp) (by simp) (by simp) (by simp) (by simp) (by simp) (by simp) (by simp) (by simp) (by simp) (by simp) (by simp) (by simp) (by simp)
theorem sd_28 {σ σ' : ej_S} (p : fr [] [] [25, 26, 27, 28] [] [] σ σ') : sd σ' = sd σ := by
  funext y
  unfold sd
  rw [p.2.2.1 29 (by simp)]
/-- from u, till b and j -/
def QQ (S : Nat → Prop) (u b j : Nat) : Nat → Nat → Nat → Prop := fun u' k' v' => S u' ∧ (u' ≠ u ∨ v' / 4 < b ∨ (v' / 4 = b ∧ k' < j))
section P85
variable {n s : Nat} {σr : ej_S} {S : Nat → Prop}
theorem x_goOn_31 {u b : Nat} {T : Int32} (F : Int32 → Int32 → Int32 → Int32 → Int32 → ej_S → Option ej_S) (hu : u < 96) (huN : u / 4 < NN σr) (hb : b < 24) (hSu : S u) (hT : bt T b = true ↔ ∃ k, 1 ≤ k ∧ k ≤ 5 ∧ scost σr (u / 4) b k ≠ none) : ∀ (kf kind : Nat) (σ : ej_S) (D : Nat → Nat), relG σ σr → sd σ = S → DI (Ed σr) s σ D (QQ S u b kind) → (∀ y, y < 96 → S y → D y ≤ D u) → 1 ≤ kind → kind ≤ 6 → 6 - kind < kf → ∃ σ' D', m9_goOnFrom_31 n F kf (nI u) (nI (u / 4)) (nI (u % 4)) T (nI b) (nI kind) σ = F (nI u) (nI (u / 4)) (nI (u % 4)) T (nI (b + 1)) σ' ∧ fr [] [] [25, 26, 27, 28] [] [] σ σ' ∧ DI (Ed σr) s σ' D' (QQ S u b 6) ∧ ∀ y, S y → D' y = D y := by
  intro kf
  induction kf with
  | zero => intro kind σ D _ _ _ _ _ _ h; omega
  | succ kf ih =>
    intro kind σ D hG hS hD hmax h1 h6 hk
    rw [u_9_goOnFrom_31]
    rcases Nat.lt_or_ge 5 kind with q | q
    · have e : kind = 6 := by omega
      subst e
      rw [L_5, ilt_t q (by omega), L_1, nI_add, ej_nm_e]
      exact ⟨σ, D, rfl, fr_rf, hD, fun _ _ => rfl⟩
    · rw [L_5, ilt_f q (by omega), x_holds hb, ej_bi_s, L_0, ibI]
      cases hTb : bt T b
      · rw [if_neg (by decide), L_1, nI_add, ej_nm_e]
        refine ⟨σ, D, rfl, fr_rf, DI_Q hD (fun u' k' v' w e => ?_), fun _ _ => rfl⟩
        unfold QQ
        have hno : ¬ (u' = u ∧ v' / 4 = b) := by
          rintro ⟨z1, z2⟩
          obtain ⟨_, _, p1, p2, c, p3, _⟩ := e
          rw [z1, z2] at p3
          have := hT.mpr ⟨k', p1, p2, by rw [p3]; simp⟩
          rw [hTb] at this; cases this
        constructor
        · rintro ⟨z, z1 | z1 | ⟨z1, z2⟩⟩
          · exact ⟨z, .inl z1⟩
          · exact ⟨z, .inr (.inl z1)⟩
          · exact ⟨z, .inr (.inr ⟨z1, by omega⟩)⟩
        · rintro ⟨z, z1 | z1 | ⟨z1, z2⟩⟩
          · exact ⟨z, .inl z1⟩
          · exact ⟨z, .inr (.inl z1)⟩
          · by_cases z3 : u' = u
            · exact absurd ⟨z3, z1⟩ hno
            · exact ⟨z, .inl z3⟩
      · have hbN : b < NN σr := by
          obtain ⟨k0, p1, p2, p3⟩ := hT.mp hTb
          obtain ⟨c0, hc0⟩ := Option.ne_none_iff_exists'.mp p3
          exact (scost_lim hG.1 hG.2.2.2 (show u / 4 < 24 by omega) hb p1 p2 hc0).2.1
        rw [if_pos rfl, x_costOf hG huN hbN h1 q (by omega), ej_bi_s]
        cases hsc : scost σr (u / 4) b kind with
        | none =>
          rw [show ccost σr (u / 4) (u % 4) b kind = none by unfold ccost; rw [hsc]; rfl, show oI none = zm from rfl, L_m1, if_pos rfl, L_1, nI_add, ej_nm_e]
          refine ih (kind + 1) σ D hG hS (DI_Q hD (fun u' k' v' w e => ?_)) hmax (by omega) (by omega) (by omega)
          unfold QQ
          have hno : ¬ (u' = u ∧ v' / 4 = b ∧ k' = kind) := by
            rintro ⟨z1, z2, z3⟩
            obtain ⟨_, _, p1, p2, c, p3, _⟩ := e
            rw [z1, z2, z3, hsc] at p3; cases p3
          constructor
          · rintro ⟨z, z1 | z1 | ⟨z1, z2⟩⟩
            · exact ⟨z, .inl z1⟩
            · exact ⟨z, .inr (.inl z1)⟩
            · exact ⟨z, .inr (.inr ⟨z1, by omega⟩)⟩
          · rintro ⟨z, z1 | z1 | ⟨z1, z2⟩⟩
            · exact ⟨z, .inl z1⟩
            · exact ⟨z, .inr (.inl z1)⟩
            · by_cases z3 : u' = u
              · exact ⟨z, .inr (.inr ⟨z1, by omega⟩)⟩
              · exact ⟨z, .inl z3⟩
        | some c =>
          obtain ⟨N', hw⟩ := id hG.1
          have bc := scost_bd hw.2.2.2.2.2.2.1 hw.2.2.2.2.2.2.2.1 (show u / 4 < 24 by omega) hb hsc
          have ba := addN_le (σ := σr) (a := u / 4) (s := u % 4) (b := b) (k := kind)
          have bs := sbN_lt (σ := σr) (a := u / 4) (s := u % 4) (b := b) (k := kind) (by omega)
          rw [show ccost σr (u / 4) (u % 4) b kind = some (c + addN σr (u / 4) (u % 4) b kind) by unfold ccost; rw [hsc]; rfl, show oI (some (c + addN σr (u / 4) (u % 4) b kind)) = nI (c + addN σr (u / 4) (u % 4) b kind) from rfl, L_m1, ieq_m (by omega), x_stateBehind hG huN hbN h1 q (by omega) hsc, ej_bi_s, L_4, pk_mul, nI_add]
          have hv4 : (b * 4 + sbN σr (u / 4) (u % 4) b kind) / 4 = b := by omega
          have hvm : (b * 4 + sbN σr (u / 4) (u % 4) b kind) % 4 = sbN σr (u / 4) (u % 4) b kind := by omega
          have e0 : Ed σr u kind (b * 4 + sbN σr (u / 4) (u % 4) b kind) (1024 * (c + addN σr (u / 4) (u % 4) b kind) + 1) := ⟨hu, by omega, h1, q, c, by rw [hv4]; exact hsc, by rw [hv4, hvm], by rw [hv4]⟩
          obtain ⟨σ1, D1, e1, f1, d1, m1⟩ := x_offer (n := n) hD (eOK_Ed hG.1 hG.2.2.2) e0 rfl (by rw [hS]; exact hSu) (by rw [hS]; exact hmax)
          rw [e1, ej_bv_s, L_1, nI_add, ej_nm_e]
          rw [hS] at m1
          have d1' : DI (Ed σr) s σ1 D1 (QQ S u b (kind + 1)) := by
            refine DI_Q d1 (fun u' k' v' w e => ?_)
            unfold Qa QQ
            constructor
            · rintro (⟨z, z1 | z1 | ⟨z1, z2⟩⟩ | ⟨z1, z2, z3⟩)
              · exact ⟨z, .inl z1⟩
              · exact ⟨z, .inr (.inl z1)⟩
              · exact ⟨z, .inr (.inr ⟨z1, by omega⟩)⟩
              · refine ⟨by rw [z1]; exact hSu, .inr (.inr ⟨by rw [z3]; exact hv4, by omega⟩)⟩
            · rintro ⟨z, z1 | z1 | ⟨z1, z2⟩⟩
              · exact .inl ⟨z, .inl z1⟩
              · exact .inl ⟨z, .inr (.inl z1)⟩
              · by_cases z3 : u' = u
                · by_cases z4 : k' = kind
                  · refine .inr ⟨z3, z4, ?_⟩
                    obtain ⟨_, _, _, _, c', p3, p4, _⟩ := e
                    rw [z3, z1, z4] at p4
                    omega
                  · exact .inl ⟨z, .inr (.inr ⟨z1, by omega⟩)⟩
                · exact .inl ⟨z, .inl z3⟩
          obtain ⟨σ', D', r1, r2, r3, r4⟩ := ih (kind + 1) σ1 D1 (relG_28 hG f1) ((sd_28 f1).trans hS) d1' (fun y h h' => by rw [m1 y h', m1 u hSu]; exact hmax y h h') (by omega) (by omega) (by omega)
          exact ⟨σ', D', r1, fr_tr f1 r2, r3, fun y hy => (r4 y hy).trans (m1 y hy)⟩
theorem x_goOn_21 {u : Nat} {T : Int32} (hn : 2000 < n) (hu : u < 96) (huN : u / 4 < NN σr) (hSu : S u) (hT : ∀ b, b < 24 → (bt T b = true ↔ ∃ k, 1 ≤ k ∧ k ≤ 5 ∧ scost σr (u / 4) b k ≠ none)) : ∀ (kf b : Nat) (σ : ej_S) (D : Nat → Nat), relG σ σr → sd σ = S → DI (Ed σr) s σ D (QQ S u b 1) → (∀ y, y < 96 → S y → D y ≤ D u) → b ≤ 24 → 24 - b < kf → ∃ σ' D', m9_goOnFrom_21 n kf (nI u) (nI (u / 4)) (nI (u % 4)) T (nI b) σ = some σ' ∧ fr [] [] [25, 26, 27, 28] [] [] σ σ' ∧ DI (Ed σr) s σ' D' (QQ S u 24 1) ∧ ∀ y, S y → D' y = D y := by
  intro kf
  induction kf with
  | zero => intro b σ D _ _ _ _ _ h; omega
  | succ kf ih =>
    intro b σ D hG hS hD hmax hb hk
    rw [u_9_goOnFrom_21]
    rcases Nat.lt_or_ge b 24 with q | q
    · rw [L_24, ile_f q (by omega), L_1]
      obtain ⟨σ1, D1, e1, f1, d1, m1⟩ := x_goOn_31 (n := n) (m9_goOnFrom_21 n kf) hu huN q hSu (hT b q) n 1 σ D hG hS hD hmax (by omega) (by omega) (by omega)
      rw [e1]
      have d1' : DI (Ed σr) s σ1 D1 (QQ S u (b + 1) 1) := by
        refine DI_Q d1 (fun u' k' v' w e => ?_)
        have := e.2.2.1
        have := e.2.2.2.1
        unfold QQ
        constructor
        · rintro ⟨z, z1 | z1 | ⟨z1, z2⟩⟩
          · exact ⟨z, .inl z1⟩
          · exact ⟨z, .inr (.inl (by omega))⟩
          · exact ⟨z, .inr (.inl (by omega))⟩
        · rintro ⟨z, z1 | z1 | ⟨z1, z2⟩⟩
          · exact ⟨z, .inl z1⟩
          · rcases Nat.eq_or_lt_of_le (show v' / 4 ≤ b by omega) with w | w
            · exact ⟨z, .inr (.inr ⟨w, by omega⟩)⟩
            · exact ⟨z, .inr (.inl w)⟩
          · omega
      obtain ⟨σ', D', r1, r2, r3, r4⟩ := ih (b + 1) σ1 D1 (relG_28 hG f1) ((sd_28 f1).trans hS) d1' (fun y h h' => by rw [m1 y h', m1 u hSu]; exact hmax y h h') q (by omega)
      exact ⟨σ', D', r1, fr_tr f1 r2, r3, fun y hy => (r4 y hy).trans (m1 y hy)⟩
    · have e : b = 24 := by omega
      subst e
      rw [L_24, ile_t q (by omega)]
      exact ⟨σ, D, rfl, fr_rf, hD, fun _ _ => rfl⟩
theorem x_goOnFrom {u : Nat} {σ : ej_S} {D : Nat → Nat} (hn : 2000 < n) (hu : u < 96) (huN : u / 4 < NN σr) (hSu : S u) (hG : relG σ σr) (hS : sd σ = S) (hD : DI (Ed σr) s σ D (fun u' _ _ => S u' ∧ u' ≠ u)) (hmax : ∀ y, y < 96 → S y → D y ≤ D u) : ∃ σ' D', m9_goOnFrom n (nI u) σ = some σ' ∧ fr [] [] [25, 26, 27, 28] [] [] σ σ' ∧ DI (Ed σr) s σ' D' (fun u' _ _ => S u') ∧ ∀ y, S y → D' y = D y := by
  obtain ⟨T, e1, hT⟩ := x_targetsOf (n := n) hn hG huN
  unfold m9_goOnFrom
  rw [L_4, pk_rem (by omega) (by omega) (by omega), pk_div (by omega) (by omega) (by omega), ej_nm_e, ej_nm_e, e1, ej_bi_s, L_0]
  have hD' : DI (Ed σr) s σ D (QQ S u 0 1) := by
    refine DI_Q hD (fun u' k' v' w e => ?_)
    have := e.2.2.1
    unfold QQ
    constructor
    · rintro ⟨z, z1⟩; exact ⟨z, .inl z1⟩
    · rintro ⟨z, z1 | z1 | ⟨z1, z2⟩⟩
      · exact ⟨z, z1⟩
      · omega
      · omega
  obtain ⟨σ', D', r1, r2, r3, r4⟩ := x_goOn_21 (n := n) hn hu huN hSu hT n 0 σ D hG hS hD' hmax (by omega) (by omega)
  refine ⟨σ', D', r1, r2, DI_Q r3 (fun u' k' v' w e => ?_), r4⟩
  have := e.2.1
  unfold QQ
  constructor
  · rintro ⟨z, _⟩; exact z
  · intro z; exact ⟨z, .inr (.inl (by omega))⟩
end P85
