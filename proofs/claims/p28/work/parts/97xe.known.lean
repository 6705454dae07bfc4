/-! AN ADDRESS OF TWO PARTS -/
def pbeg (tp : List Nat) (k : Nat) : Nat := fs tp k
def ad (v : Nat) : List Nat := [97 + v, 33, 45, 57, 33, 37]
section P97xe
variable {n v j k : Nat} {σ σ0 σr σc c τ : ej_S} {L : List St} {tp ot : List Nat} {D : Nat → Nat} {y : Int32} {w : Bool}
/-- the node of v, if it has a route -/
def rtN (L : List St) (D : Nat → Nat) (v : Nat) : Option Nat := match e_ix (e_ns L) v with
  | none => none
  | some i => if D (4 * i) < iF then some i else none
theorem rtN_some {i : Nat} (h : rtN L D v = some i) : e_ix (e_ns L) v = some i ∧ D (4 * i) < iF := by
  unfold rtN at h
  cases e : e_ix (e_ns L) v with
  | none => rw [e] at h; cases h
  | some a =>
    rw [e] at h
    have h' : (if D (4 * a) < iF then some a else none) = some i := h
    by_cases z : D (4 * a) < iF
    · rw [if_pos z] at h'; cases h'; exact ⟨rfl, z⟩
    · rw [if_neg z] at h'; cases h'
theorem ad_len : (ad v).length = 6 := rfl
/-- by which node the first part is known -/
theorem cn_1 (hn : 2000 < n) (hM : MP σ L) (hnd : (e_ns L).Nodup ∧ ∀ v ∈ e_ns L, v < 10) (hS : SD σ D) (hz : Z0 D) (hv : v < 10) (hj : j < (e_ns L).length) : cnN n σ (ad v) 0 1 j ↔ rtN L D v = some j := by
  have l10 := nd_len 10 _ hnd.1 hnd.2
  obtain ⟨q1, q11, _⟩ := hM.2.2.1 j hj
  have hx := hnd.2 _ (gD_mem hj)
  have en : nL (gB σ 1 j) = [97 + (e_ns L).getD j 0] := by rw [q1]; exact (nL_let hx).2
  have hew : EW (ad v) 0 1 (nL (gB σ 1 j)) ↔ (e_ns L).getD j 0 = v := by
    rw [en]
    unfold EW
    constructor
    · intro h
      have := h.2 0 (show 0 < 1 by omega)
      have : 97 + v = 97 + (e_ns L).getD j 0 := this
      omega
    · intro h
      refine ⟨by show 1 ≤ 1 - 0; omega, fun i hi => ?_⟩
      have : i = 0 := by have : i < 1 := hi; omega
      subst this
      show 97 + v = 97 + (e_ns L).getD j 0
      rw [h]
  have hr : (∃ q, q < 96 ∧ m11_wayOf n (nI j) σ = some (nI q, σ)) ↔ D (4 * j) < iF := by
    rcases r_key (n := n) hn hS hz (show j < 24 by omega) with ⟨z, e⟩ | ⟨z, _, _, _, _, e⟩
    · constructor
      · rintro ⟨q, q1, q2⟩
        rw [e] at q2
        have := congrArg Prod.fst (Option.some.inj q2)
        exact absurd this.symm (zm_ne (by omega))
      · intro w; omega
    · exact ⟨fun _ => z, fun _ => ⟨4 * j, by omega, e⟩⟩
  unfold cnN
  rw [hew, hr]
  constructor
  · rintro ⟨_, h1, h2⟩
    unfold rtN
    cases e : e_ix (e_ns L) v with
    | none => exact absurd (h2 ▸ gD_mem hj) (e_ix_none e)
    | some i =>
      obtain ⟨i1, i2⟩ := e_ix_some e
      have : i = j := gD_inj hnd.1 i1 hj (i2.trans h2.symm)
      subst this
      show (if D (4 * i) < iF then some i else none) = some i
      rw [if_pos h1]
  · intro h
    obtain ⟨h1, h2⟩ := rtN_some h
    exact ⟨q11, h2, (e_ix_some h1).2⟩
/-- the second part is known by none -/
theorem cn_2 (hM : MP σ L) (hnd : (e_ns L).Nodup ∧ ∀ v ∈ e_ns L, v < 10) (hj : j < (e_ns L).length) : ¬ cnN n σ (ad v) 2 4 j := by
  obtain ⟨q1, _⟩ := hM.2.2.1 j hj
  have hx := hnd.2 _ (gD_mem hj)
  have en : nL (gB σ 1 j) = [97 + (e_ns L).getD j 0] := by rw [q1]; exact (nL_let hx).2
  rintro ⟨_, _, h⟩
  rw [en] at h
  have := h.2 0 (by show 0 < 1; omega)
  have : 57 = 97 + (e_ns L).getD j 0 := this
  omega
theorem kn_loop (hn : 2000 < n) (hW : WR σc σ) (hT : RTX σ 4 (ad v)) (hM : MP σ L) (hnd : (e_ns L).Nodup ∧ ∀ v ∈ e_ns L, v < 10) (hS : SD σ D) (hz : Z0 D) (hv : v < 10) : ∀ (k j : Nat) (y : Int32) (w : Bool), j ≤ (e_ns L).length → (e_ns L).length - j < k → y = oI (match rtN L D v with | some i => if i < j then some i else none | none => none) → m11_known_8 n k (nI 0) (nI 1) y (bI w) (nI j) σ = some (oI (rtN L D v), σ) := by
  have l10 := nd_len 10 _ hnd.1 hnd.2
  have hN := MP_NN hM l10
  have hNm := hNm_of hW.1
  intro k
  induction k with
  | zero => intro j y w _ h; omega
  | succ k ih =>
    intro j y w hj hk hy
    rcases Nat.eq_or_lt_of_le hj with z | q
    · rw [u_11_known_8, hM.1, z, ile_t (Nat.le_refl _) (by omega), hy]
      cases e : rtN L D v with
      | none => rfl
      | some i =>
        have := (e_ix_some (rtN_some e).1).1
        show some (oI (if i < j then some i else none), σ) = _
        rw [if_pos (by omega)]
    · have hvl : vld n σ (ad v) 0 1 y := by
        rw [hy]
        cases e : rtN L D v with
        | none => exact .inl rfl
        | some i =>
          by_cases z : i < j
          · refine .inr ⟨i, by have := (e_ix_some (rtN_some e).1).1; omega, by show oI (if i < j then some i else none) = _; rw [if_pos z]; rfl, (cn_1 hn hM hnd hS hz hv (by omega)).mpr e⟩
          · exact .inl (by show oI (if i < j then some i else none) = _; rw [if_neg z]; rfl)
      obtain ⟨s1, s2, _⟩ := r_kn_step (k := k) (w := w) hn hW hNm hT (show 0 ≤ 1 by omega) (show 1 ≤ 6 by omega) (show j < NN σ by omega) hvl
      by_cases hc : cnN n σ (ad v) 0 1 j
      · have e := (cn_1 hn hM hnd hS hz hv q).mp hc
        obtain ⟨q1, _⟩ := hM.2.2.1 j q
        have n1 : nmN σ j = 1 - 0 := by
          unfold nmN
          rw [q1, (nL_let (hnd.2 _ (gD_mem q))).2]; rfl
        rw [s2 hc n1]
        refine ih (j + 1) (nI j) true q (by omega) ?_
        rw [e]
        show nI j = oI (if j < j + 1 then some j else none)
        rw [if_pos (by omega)]; rfl
      · rw [s1 hc]
        refine ih (j + 1) y w q (by omega) ?_
        rw [hy]
        cases e : rtN L D v with
        | none => rfl
        | some i =>
          have : i ≠ j := fun z => hc ((cn_1 hn hM hnd hS hz hv q).mpr (z ▸ e))
          show oI (if i < j then some i else none) = oI (if i < j + 1 then some i else none)
          by_cases z : i < j
          · rw [if_pos z, if_pos (by omega)]
          · rw [if_neg z, if_neg (by omega)]
theorem kx_1 (hn : 2000 < n) (hW : WR σc σ) (hT : RTX σ 4 (ad v)) (hM : MP σ L) (hnd : (e_ns L).Nodup ∧ ∀ v ∈ e_ns L, v < 10) (hS : SD σ D) (hz : Z0 D) (hv : v < 10) : kx n σ 0 1 = oI (rtN L D v) := by
  have l10 := nd_len 10 _ hnd.1 hnd.2
  have e := kn_loop (n := n) hn hW hT hM hnd hS hz hv n 0 zm false (Nat.zero_le _) (by omega) (by
    cases rtN L D v with
    | none => rfl
    | some i => show zm = oI (if i < 0 then some i else none); rw [if_neg (by omega)]; rfl)
  unfold kx
  have e2 : m11_known n (nI 0) (nI 1) σ = some (oI (rtN L D v), σ) := by
    unfold m11_known
    rw [L_m1, L_0]
    rw [bI_f] at e
    exact e
  rw [e2]
theorem kx_2 (hn : 2000 < n) (hW : WR σc σ) (hTc : TX σc 0 (ad v)) (hT : RTX σ 4 (ad v)) (hM : MP σ L) (hnd : (e_ns L).Nodup ∧ ∀ v ∈ e_ns L, v < 10) : kx n σ 2 4 = zm := by
  have l10 := nd_len 10 _ hnd.1 hnd.2
  have hN := MP_NN hM l10
  obtain ⟨_, _, h⟩ := kx_sp (n := n) hn hW (hNm_of hW.1) hTc hT (b := 2) (e := 4) (by omega) (show 4 ≤ 6 by omega)
  rcases h with z | ⟨a, a1, a2, a3⟩
  · exact z
  · exact absurd a3 (cn_2 hM hnd (by omega))
theorem lk_ad (hn : 2000 < n) (hW : WR σc σ) (hTc : TX σc 0 (ad v)) (hT : RTX σ 4 (ad v)) (hM : MP σ L) (hnd : (e_ns L).Nodup ∧ ∀ v ∈ e_ns L, v < 10) (hS : SD σ D) (hz : Z0 D) (hv : v < 10) : lk n σ (ad v) 6 = (rtN L D v).map (fun i => (nI i, 0, 1)) := by
  have k1 := kx_1 (n := n) hn hW hT hM hnd hS hz hv
  have k2 := kx_2 (n := n) hn hW hTc hT hM hnd
  have step : ∀ k, lk n σ (ad v) (k + 1) = @ite _ (cd (ad v) k = 33 ∧ kx n σ (pbeg (ad v) k) k ≠ zm) (Classical.propDecidable _) (some (kx n σ (pbeg (ad v) k) k, pbeg (ad v) k, k)) (lk n σ (ad v) k) := fun k => rfl
  have c0 : cd (ad v) 0 ≠ 33 := by show 97 + v ≠ 33; omega
  have p1 : pbeg (ad v) 1 = 0 := by
    show (if cd (ad v) 0 = 33 then 1 else 0) = 0
    rw [if_neg c0]
  have p4 : pbeg (ad v) 4 = 2 := rfl
  rw [step 5, if_neg (fun z => by have : (37 : Nat) = 33 := z.1; omega), step 4, p4, if_neg (fun z => z.2 k2), step 3, if_neg (fun z => by have : (57 : Nat) = 33 := z.1; omega), step 2, if_neg (fun z => by have : (45 : Nat) = 33 := z.1; omega), step 1, p1, k1]
  cases e : rtN L D v with
  | none =>
    rw [if_neg (fun z => z.2 rfl), step 0, if_neg (fun z => c0 z.1)]; rfl
  | some i =>
    have l10 := nd_len 10 _ hnd.1 hnd.2
    have := (e_ix_some (rtN_some e).1).1
    rw [if_pos ⟨rfl, zm_ne (show i < 2 ^ 31 by omega)⟩]; rfl
end P97xe
