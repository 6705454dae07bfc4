/-! THE CLASS: a way offered -/
def eOK (E : Nat → Nat → Nat → Nat → Prop) : Prop := (∀ u k v w, E u k v w → u < 96 ∧ v < 96 ∧ 1 ≤ k ∧ k ≤ 5 ∧ ∃ c, c ≤ 1310000 ∧ w = 1024 * c + 1) ∧ ∀ u k v w w', E u k v w → E u k v w' → w = w'
def sd (σ : ej_S) (v : Nat) : Prop := gA σ 29 v ≠ nI 0
def DI (E : Nat → Nat → Nat → Nat → Prop) (s : Nat) (σ : ej_S) (D : Nat → Nat) (Q : Nat → Nat → Nat → Prop) : Prop := kC (gA σ 25) (gA σ 26) D ∧ OKD D ∧ (∀ v, D v ≤ iF) ∧ D s = 0 ∧ (∀ v, v < 96 → D v < iF → wk E s (D v) v) ∧ (∀ u k v w, E u k v w → Q u k v → sd σ u ∧ D v ≤ D u + w) ∧ (∀ u v, u < 96 → v < 96 → sd σ u → ¬ sd σ v → D u ≤ D v) ∧ (∀ u, u < 96 → sd σ u → D u < iF) ∧ (gA σ 27 s = zm ∧ gA σ 28 s = nI 0) ∧ ∀ v, v < 96 → v ≠ s → D v < iF → ∃ u k, u < 96 ∧ k ≤ 5 ∧ Q u k v ∧ tgt E D v u k ∧ gA σ 27 v = nI u ∧ gA σ 28 v = nI k ∧ ∀ u' k', Q u' k' v → tgt E D v u' k' → u < u' ∨ (u = u' ∧ k ≤ k')
theorem DI_Q {E : Nat → Nat → Nat → Nat → Prop} {s : Nat} {σ : ej_S} {D : Nat → Nat} {Q Q' : Nat → Nat → Nat → Prop} (h : DI E s σ D Q) (hQ : ∀ u k v w, E u k v w → (Q u k v ↔ Q' u k v)) : DI E s σ D Q' := by
  obtain ⟨a1, a2, a3, a4, a5, a6, a7, a8, a9, a10⟩ := h
  refine ⟨a1, a2, a3, a4, a5, fun u k v w e q => a6 u k v w e ((hQ u k v w e).mpr q), a7, a8, a9, fun v h1 h2 h3 => ?_⟩
  obtain ⟨u, k, b1, b2, b3, b4, b5, b6, b7⟩ := a10 v h1 h2 h3
  obtain ⟨w, e, hw⟩ := id b4
  refine ⟨u, k, b1, b2, (hQ u k v w e).mp b3, b4, b5, b6, fun u' k' q t => ?_⟩
  obtain ⟨w', e', hw'⟩ := id t
  exact b7 u' k' ((hQ u' k' v w' e').mpr q) t
def Qa (Q : Nat → Nat → Nat → Prop) (u k v : Nat) : Nat → Nat → Nat → Prop := fun u' k' v' => Q u' k' v' ∨ (u' = u ∧ k' = k ∧ v' = v)
section P84
variable {n s : Nat} {σ : ej_S} {D : Nat → Nat} {Q : Nat → Nat → Nat → Prop} {E : Nat → Nat → Nat → Nat → Prop}
/-- it is not taken -/
theorem DI_no {u k v w : Nat} (h : DI E s σ D Q) (hE : eOK E) (e : E u k v w) (hu : sd σ u) (hle : D v ≤ D u + w) (hm : D u + w = D v → v ≠ s → ∃ u0 k0, gA σ 27 v = nI u0 ∧ gA σ 28 v = nI k0 ∧ u0 < 96 ∧ k0 ≤ 5 ∧ (u0 < u ∨ (u0 = u ∧ k0 ≤ k))) : DI E s σ D (Qa Q u k v) := by
  obtain ⟨a1, a2, a3, a4, a5, a6, a7, a8, a9, a10⟩ := h
  refine ⟨a1, a2, a3, a4, a5, fun u' k' v' w' e' q => ?_, a7, a8, a9, fun v' h1 h2 h3 => ?_⟩
  · rcases q with q | ⟨q1, q2, q3⟩
    · exact a6 u' k' v' w' e' q
    · subst q1; subst q2; subst q3
      rw [← hE.2 _ _ _ _ _ e e']; exact ⟨hu, hle⟩
  · obtain ⟨u1, k1, b1, b2, b3, b4, b5, b6, b7⟩ := a10 v' h1 h2 h3
    refine ⟨u1, k1, b1, b2, .inl b3, b4, b5, b6, fun u' k' q t => ?_⟩
    rcases q with q | ⟨q1, q2, q3⟩
    · exact b7 u' k' q t
    · subst q1; subst q2; subst q3
      obtain ⟨w', e', hw'⟩ := t
      rw [← hE.2 _ _ _ _ _ e e'] at hw'
      obtain ⟨u0, k0, c1, c2, c3, c4, c5⟩ := hm hw' h2
      have i1 : u0 = u1 := by rw [c1] at b5; exact (nI_eq (by omega) (by omega)).mp b5
      have i2 : k0 = k1 := by rw [c2] at b6; exact (nI_eq (by omega) (by omega)).mp b6
      omega
/-- it is taken -/
theorem DI_yes {u k v w x : Nat} (h : DI E s σ D Q) (hE : eOK E) (e : E u k v w) (hu : sd σ u) (hv : ¬ sd σ v) (hx : x = D u + w) (hlt : x < D v ∨ (x = D v ∧ ∃ u0 k0, gA σ 27 v = nI u0 ∧ gA σ 28 v = nI k0 ∧ u0 < 96 ∧ k0 ≤ 5 ∧ (u < u0 ∨ (u = u0 ∧ k < k0)))) (hmax : ∀ y, y < 96 → sd σ y → D y ≤ D u) : DI E s (uA (uA (uA (uA σ 25 v (nI (x / 1024))) 26 v (nI (x % 1024))) 27 v (nI u)) 28 v (nI k)) (dU D v x) (Qa Q u k v) := by
  obtain ⟨a1, a2, a3, a4, a5, a6, a7, a8, a9, a10⟩ := h
  obtain ⟨l1, l2, l3, l4, c, l5, l6⟩ := hE.1 u k v w e
  have hux := a8 u l1 hu
  have hvs : v ≠ s := by
    intro z
    subst z
    rw [a4] at hlt; omega
  have hxi : x < iF := by
    have := (OKD_bd a2 l1 hux).1
    have := iF_e
    omega
  have hxv : x ≤ D v := by
    rcases hlt with z | ⟨z, _⟩ <;> omega
  have r25 : gA (uA (uA (uA (uA σ 25 v (nI (x / 1024))) 26 v (nI (x % 1024))) 27 v (nI u)) 28 v (nI k)) 25 = upd (gA σ 25) v (nI (x / 1024)) := by simp (disch := omega) only [s_AA_s, s_AA_n]
  have r26 : gA (uA (uA (uA (uA σ 25 v (nI (x / 1024))) 26 v (nI (x % 1024))) 27 v (nI u)) 28 v (nI k)) 26 = upd (gA σ 26) v (nI (x % 1024)) := by simp (disch := omega) only [s_AA_s, s_AA_n]
  have r27 : gA (uA (uA (uA (uA σ 25 v (nI (x / 1024))) 26 v (nI (x % 1024))) 27 v (nI u)) 28 v (nI k)) 27 = upd (gA σ 27) v (nI u) := by simp (disch := omega) only [s_AA_s, s_AA_n]
  have r28 : gA (uA (uA (uA (uA σ 25 v (nI (x / 1024))) 26 v (nI (x % 1024))) 27 v (nI u)) 28 v (nI k)) 28 = upd (gA σ 28) v (nI k) := by simp (disch := omega) only [s_AA_s, s_AA_n]
  have hsd : ∀ y, sd (uA (uA (uA (uA σ 25 v (nI (x / 1024))) 26 v (nI (x % 1024))) 27 v (nI u)) 28 v (nI k)) y ↔ sd σ y := by
    intro y
    unfold sd
    simp (disch := omega) only [s_AA_n]
  have dset : ∀ y, sd σ y → dU D v x y = D y := fun y hy => dU_n _ (fun z => by subst z; exact hv hy)
  have okd : OKD (dU D v x) := by
    rcases hlt with z | ⟨z, _⟩
    · rw [hx] at z ⊢
      exact OKD_up a2 a3 l1 hux l5 l6 z
    · have : dU D v x = D := by
        funext y
        by_cases q : y = v
        · rw [q, dU_s, z]
        · rw [dU_n _ q]
      rw [this]; exact a2
  refine ⟨by rw [r25, r26]; exact kC_up a1 hxi, okd, fun y => ?_, ?_, fun y hy hf => ?_, fun u' k' v' w' e' q => ?_, fun u' v' h1 h2 h3 h4 => ?_, fun y hy h3 => ?_, ?_, fun v' h1 h2 h3 => ?_⟩
  · by_cases q : y = v
    · rw [q, dU_s]; omega
    · rw [dU_n _ q]; exact a3 y
  · rw [dU_n _ hvs.symm]; exact a4
  · by_cases q : y = v
    · subst q; rw [dU_s, hx]; exact wk_st (a5 u l1 hux) e
    · rw [dU_n _ q] at *; exact a5 y hy hf
  · rw [hsd]
    rcases q with q | ⟨q1, q2, q3⟩
    · obtain ⟨z1, z2⟩ := a6 u' k' v' w' e' q
      refine ⟨z1, ?_⟩
      rw [dset u' z1]
      by_cases q : v' = v
      · rw [q, dU_s]; rw [q] at z2; omega
      · rw [dU_n _ q]; exact z2
    · subst q1; subst q2; subst q3
      rw [dU_s, dset u' hu, ← hE.2 _ _ _ _ _ e e']
      exact ⟨hu, by omega⟩
  · rw [hsd] at h3 h4
    rw [dset u' h3]
    by_cases q : v' = v
    · rw [q, dU_s]
      have := hmax u' h1 h3
      omega
    · rw [dU_n _ q]; exact a7 u' v' h1 h2 h3 h4
  · rw [hsd] at h3
    rw [dset y h3]; exact a8 y hy h3
  · rw [r27, r28, pk_un hvs.symm, pk_un hvs.symm]; exact a9
  · rw [r27, r28]
    have tg : ∀ u' k' v', Q u' k' v' → tgt E (dU D v x) v' u' k' → dU D v x v' = D v' → tgt E D v' u' k' := by
      rintro u' k' v' q ⟨w', e', hw'⟩ hd
      rw [dset u' (a6 u' k' v' w' e' q).1, hd] at hw'
      exact ⟨w', e', hw'⟩
    by_cases q : v' = v
    · subst q
      refine ⟨u, k, l1, l4, .inr ⟨rfl, rfl, rfl⟩, ⟨w, e, by rw [dU_s, dset u hu]; omega⟩, pk_us, pk_us, fun u' k' q t => ?_⟩
      rcases q with q | ⟨q1, q2, q3⟩
      · obtain ⟨w', e', hw'⟩ := id t
        obtain ⟨z1, z2⟩ := a6 u' k' v' w' e' q
        rw [dset u' z1, dU_s] at hw'
        rcases hlt with z | ⟨z, u0, k0, c1, c2, c3, c4, c5⟩
        · omega
        · obtain ⟨u1, k1, b1, b2, b3, b4, b5, b6, b7⟩ := a10 v' h1 h2 (by omega)
          have i1 : u0 = u1 := by rw [c1] at b5; exact (nI_eq (by omega) (by omega)).mp b5
          have i2 : k0 = k1 := by rw [c2] at b6; exact (nI_eq (by omega) (by omega)).mp b6
          have := b7 u' k' q (tg u' k' v' q t (by rw [dU_s, z]))
          omega
      · exact .inr ⟨q1.symm, by omega⟩
    · rw [dU_n _ q] at h3
      obtain ⟨u1, k1, b1, b2, b3, b4, b5, b6, b7⟩ := a10 v' h1 h2 h3
      obtain ⟨w1, e1, hw1⟩ := id b4
      refine ⟨u1, k1, b1, b2, .inl b3, ⟨w1, e1, by rw [dset u1 (a6 u1 k1 v' w1 e1 b3).1, dU_n _ q]; exact hw1⟩, by rw [pk_un q]; exact b5, by rw [pk_un q]; exact b6, fun u' k' q' t => ?_⟩
      rcases q' with q' | ⟨q1, q2, q3⟩
      · exact b7 u' k' q' (tg u' k' v' q' t (dU_n _ q))
      · exact absurd q3 q
theorem x_offer {u k v w c : Nat} (h : DI E s σ D Q) (hE : eOK E) (e : E u k v w) (hw : w = 1024 * c + 1) (hu : sd σ u) (hmax : ∀ y, y < 96 → sd σ y → D y ≤ D u) : ∃ σ' D', m9_offer n (nI v) (nI c) (nI u) (nI k) σ = some σ' ∧ fr [] [] [25, 26, 27, 28] [] [] σ σ' ∧ DI E s σ' D' (Qa Q u k v) ∧ (∀ y, sd σ y → D' y = D y) := by
  obtain ⟨a1, a2, a3, a4, a5, a6, a7, a8, a9, a10⟩ := id h
  obtain ⟨l1, l2, l3, l4, c', l5, l6⟩ := hE.1 u k v w e
  have ec : c' = c := by omega
  subst ec
  have hux := a8 u l1 hu
  have bu := OKD_bd a2 l1 hux
  unfold m9_offer m9_offer_178
  rw [L_0, L_96, ilt_f (Nat.zero_le _) (by omega), ile_f l2 (by omega), ilt_f (Nat.zero_le _) (by omega), ile_f l1 (by omega)]
  have k1 : ∀ X : Option ej_S, ej_ck (nI v) 96 X = X := fun X => ck_t l2 (by omega)
  have k2 : ∀ X : Option ej_S, ej_ck (nI u) 96 X = X := fun X => ck_t l1 (by omega)
  have k3 : (nI v).toNatClampNeg = v := nI_clamp (by omega)
  have k4 : (nI u).toNatClampNeg = u := nI_clamp (by omega)
  simp only [k1, k2, k3, k4]
  by_cases hs : gA σ 29 v = nI 0
  · rw [if_pos hs]
    have hv : ¬ sd σ v := fun z => z hs
    rcases a1 u l1 with ⟨b1, b2⟩ | ⟨b1, b2, b3⟩
    · omega
    · have hm : (D u + w) % 1024 = D u % 1024 + 1 := by omega
      have hq : (D u + w) / 1024 = D u / 1024 + c' := by omega
      have yes : ∀ X, X = some (uA (uA (uA (uA σ 25 v (nI (D u / 1024 + c'))) 26 v (nI (D u % 1024 + 1))) 27 v (nI u)) 28 v (nI k)) → (D u + w < D v ∨ (D u + w = D v ∧ ∃ u0 k0, gA σ 27 v = nI u0 ∧ gA σ 28 v = nI k0 ∧ u0 < 96 ∧ k0 ≤ 5 ∧ (u < u0 ∨ (u = u0 ∧ k < k0)))) → ∃ σ' D', X = some σ' ∧ fr [] [] [25, 26, 27, 28] [] [] σ σ' ∧ DI E s σ' D' (Qa Q u k v) ∧ (∀ y, sd σ y → D' y = D y) := by
        intro X hX hlt
        have := DI_yes h hE e hu hv rfl hlt hmax
        rw [hm, hq] at this
        exact ⟨_, _, hX, fr_uA (fr_uA (fr_uA (fr_uA fr_rf (by simp)) (by simp)) (by simp)) (by simp), this, fun y hy => dU_n _ (fun z => by subst z; exact hv hy)⟩
      have no : ∀ X, X = some σ → D v ≤ D u + w → (D u + w = D v → v ≠ s → ∃ u0 k0, gA σ 27 v = nI u0 ∧ gA σ 28 v = nI k0 ∧ u0 < 96 ∧ k0 ≤ 5 ∧ (u0 < u ∨ (u0 = u ∧ k0 ≤ k))) → ∃ σ' D', X = some σ' ∧ fr [] [] [25, 26, 27, 28] [] [] σ σ' ∧ DI E s σ' D' (Qa Q u k v) ∧ (∀ y, sd σ y → D' y = D y) := by
        intro X hX hle hm
        exact ⟨σ, D, hX, fr_rf, DI_no h hE e hu hle hm, fun _ _ => rfl⟩
      rw [b2, b3, nI_add, ej_nm_e, L_m1, L_1, nI_add, ej_nm_e]
      simp only [ej_nm_e, L_0, n10, eq_self, if_false, if_true]
      rcases a1 v l2 with ⟨c1, c2⟩ | ⟨c1, c2, c3⟩
      · rw [if_pos c2]
        exact yes _ rfl (.inl (by rw [c1]; have := iF_e; omega))
      · have bv := OKD_bd a2 l2 c1
        rw [c2, c3, ieq_m (by omega)]
        by_cases q1 : D u / 1024 + c' = D v / 1024
        · rw [ieq_t q1]
          by_cases q2 : D u % 1024 + 1 = D v % 1024
          · have hvs : v ≠ s := fun z => by subst z; omega
            obtain ⟨u0, k0, d1, d2, d3, d4, d5, d6, d7⟩ := a10 v l2 hvs c1
            rw [ieq_t q2, d5, d6]
            by_cases q3 : u = u0
            · rw [ieq_t q3]
              rcases Nat.lt_or_ge k k0 with q4 | q4
              · rw [ile_f q4 (by omega)]
                exact yes _ rfl (.inr ⟨by omega, u0, k0, d5, d6, d1, d2, .inr ⟨q3, q4⟩⟩)
              · rw [ile_t q4 (by omega)]
                exact no _ rfl (by omega) (fun _ _ => ⟨u0, k0, d5, d6, d1, d2, .inr ⟨q3.symm, q4⟩⟩)
            · rw [ieq_f q3 (by omega) (by omega)]
              rcases Nat.lt_or_ge u u0 with q4 | q4
              · rw [ile_f q4 (by omega)]
                exact yes _ rfl (.inr ⟨by omega, u0, k0, d5, d6, d1, d2, .inl q4⟩)
              · rw [ile_t q4 (by omega)]
                exact no _ rfl (by omega) (fun _ _ => ⟨u0, k0, d5, d6, d1, d2, .inl (by omega)⟩)
          · rw [ieq_f q2 (by omega) (by omega)]
            rcases Nat.lt_or_ge (D u % 1024 + 1) (D v % 1024) with q4 | q4
            · rw [ile_f q4 (by omega)]
              exact yes _ rfl (.inl (by omega))
            · rw [ile_t q4 (by omega)]
              exact no _ rfl (by omega) (fun z _ => by omega)
        · rw [ieq_f q1 (by omega) (by omega)]
          rcases Nat.lt_or_ge (D u / 1024 + c') (D v / 1024) with q4 | q4
          · rw [ile_f q4 (by omega)]
            exact yes _ rfl (.inl (by omega))
          · rw [ile_t q4 (by omega)]
            exact no _ rfl (by omega) (fun z _ => by omega)
  · rw [if_neg hs]
    have := hmax v l2 hs
    exact ⟨σ, D, rfl, fr_rf, DI_no h hE e hu (by omega) (fun z _ => by omega), fun _ _ => rfl⟩
end P84
