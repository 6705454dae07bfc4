/-! THE LAW BEGINS -/
section P97yd
variable {n N : Nat} {xs : Nat → Int32}
theorem e_L00 (T : Nat → Nat) : e_L T 0 0 12 = [] := e_L_2 (T := T) (h0 := 0) (h1 := 0) (by omega) (by omega) 6 (Nat.le_refl _)
theorem law_all (hN : N ≤ 260) (hn : 200000000000000 < n) : mL_law n N xs (ej_Z, ej_Z) = some 1 := by
  obtain ⟨S, s1, s2, s3, s4, s5⟩ := ini_ex
  obtain ⟨σr, e1, hI⟩ := init_ok (n := n) hn
  have RS0 : ∀ f, RTX S f [] := fun f => ⟨by rw [s5]; rfl, Nat.zero_le _, fun i hi => absurd hi (Nat.not_lt_zero i), fun b hb => by cases hb⟩
  have htx : ∀ f, f < 4 → txt ((fun _ => []) f : List Nat) ((fun _ => []) f : List St) := fun f _ => ⟨rfl, fun s h => (by cases h), Nat.zero_le _⟩
  obtain ⟨t, m1, m2, m3, m4⟩ := R_map (n := n) (σ := S) (fs := fun _ => []) (LL := fun _ => []) hn (fun f _ => RS0 f) htx
  rw [s1, m1, ej_bv_s] at e1
  have et : σr = t := (Option.some.inj e1).symm
  subst et
  obtain ⟨fs', tp', ot, hM, hO⟩ := id hI
  have hIQ : IQ n (fun _ => []) σr [] ot ej_Z := ⟨σr, hI, QMP_rf, fun f _ => RTX_EF (RS0 f) m4, RTX_EF (RS0 4) m4, hO.2.2.2.1⟩
  have hF : MF (fun _ => []) (fun _ => []) σr := ⟨m2, m3, htx⟩
  have gz : ∀ k i, (k ≠ 2 ∨ i ≠ 3) → gA (uA ej_Z 2 3 zm) k i = nI 0 := by
    intro k i h
    by_cases z : k = 2
    · subst z; rw [s_AA_s, pk_un (by omega)]; rfl
    · rw [s_AA_n z]; rfl
  have hT : LT (uA ej_Z 2 3 zm) (fun _ => 0) 0 0 := ⟨fun i _ => gz 0 i (by omega), fun j _ => ⟨Nat.zero_le 4, show (0 : Nat) < 10 by omega, show (0 : Nat) < 10 by omega, show (0 : Nat) < 10 by omega, show (0 : Nat) < 100000 by omega⟩, gz 2 0 (by omega), gz 2 1 (by omega), by omega, by omega⟩
  have hMP : MP σr [] := m2
  have hC : CX σr (uA ej_Z 2 3 zm) (fun _ => 0) 0 0 := by
    refine ⟨hT, ?_, ?_⟩
    · rw [e_L00]; exact ⟨gz 2 2 (by omega), List.nodup_nil, fun i hi => absurd hi (Nat.not_lt_zero i), fun v hv => by cases hv⟩
    · rw [e_L00]; exact hMP
  have hw := (IQ_0 hIQ).1
  obtain ⟨D, hX⟩ := WXX_ex hC hw (IQ_0 hIQ).2
  have hN0 : NN σr = 0 := MP_NN hMP (Nat.zero_le _)
  obtain ⟨was, hR⟩ := RFH_of (hm := 0) (o := none) hn hC hX hw (fun i hi => by omega)
  obtain ⟨c1, i1, a1⟩ := L_isRefused (x := 0) hR (by omega) hIQ
  obtain ⟨c2, i2, a2⟩ := L_isRefused (x := 1) hR (by omega) i1
  obtain ⟨c3, σ1, i3, hF3, hJ, a3⟩ := L_isFull (n := n) (τ := uA ej_Z 2 3 zm) hn hF i2
  have hL : LSt n (c3, uA ej_Z 2 3 zm) := ⟨_, _, σ1, fun _ => 0, 0, 0, ot, i3, hF3, hT, rfl, rfl, rfl, rfl, .inl (by show gA (uA ej_Z 2 3 zm) 2 3 = zm; rw [s_AA_s, pk_us])⟩
  have k := L65 (n := n) (N := N) (xs := xs) hN hn 18 0 _ hL (Nat.zero_le _) (by omega)
  have nz : ¬ nI 1 = (0 : Int32) := by decide +kernel
  unfold mL_law
  rw [show (3 : Int32) = nI 3 from L_3, ck_t (by omega) (by omega), ej_nm_e, nI_clamp (by omega)]
  show ej_bi (mL_isRefused n 0 (ej_Z, uA ej_Z 2 3 zm)) _ = _
  rw [show (0 : Int32) = nI 0 from L_0, a1, ej_bi_s, ← L_0, if_neg nz, show (1 : Int32) = nI 1 from L_1, a2, ej_bi_s, if_neg nz, a3, ej_bi_s, if_neg nz, ← L_1, show (0 : Int32) = nI 0 from L_0, k]
end P97yd
theorem st_pure0 : st_PURE := ⟨200000000000001, fun N xs hN => law_all hN (by omega)⟩
