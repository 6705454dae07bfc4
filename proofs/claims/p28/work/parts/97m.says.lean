/-! THE TAPE GROWS: what the law says -/
def fbs (W : Nat) : Nat → Nat → List Nat
  | 0, _ => []
  | k + 1, j => (W / 2 ^ (8 * j) % 256) :: fbs W k (j + 1)
theorem fbs_len (W : Nat) : ∀ k j, (fbs W k j).length = k := by
  intro k
  induction k with
  | zero => intro j; rfl
  | succ k ih => intro j; show (fbs W k (j + 1)).length + 1 = _; rw [ih]
section P97m
variable {n a b m W : Nat} {fs : Nat → List Nat} {σ σ0 σc σr σr' c τ : ej_S} {tp ot l : List Nat} {v : Int32}
abbrev HFe : Nat → xw_S → Option (Int32 × xw_S) := fun k sk => if k = 1 then (fun s5 => (some (1, s5))) sk else if k = 2 then (fun s7 => (some (2, s7))) sk else none
abbrev HLo : Nat → xw_S → Option (Int32 × xw_S) := fun k sk => if k = 3 then (fun s5 => (some (1, s5))) sk else if k = 2 then (fun s7 => (some (2, s7))) sk else none
abbrev HVa : Nat → xw_S → Option (Int32 × xw_S) := fun k sk => if k = 2 then (fun s5 => (some (1, s5))) sk else none
abbrev HHo : Nat → xw_S → Option (Int32 × xw_S) := fun k sk => if k = 1 then (fun s5 => (some (1, s5))) sk else none
theorem k_feed (hn : 2000 < n) (h : INV n σc σr) (w : Int64) (x : Int32) : STEP n σr (ej_bw (xw_lcx (m10_feed n w x σc) (σc, σr, fun _ => 0)) KI HFe) (m11_feed n w x σr) := c_feed (g := fun _ => 0) hn h w x
theorem k_load (hn : 200000000000000 < n) (h : INV n σc σr) (x : Int32) : STEP n σr (ej_bw (xw_lcx (m10_load n x σc) (σc, σr, fun _ => 0)) KI HLo) (m11_load n x σr) := c_load (g := fun _ => 0) hn h x
theorem k_drop (hn : 200000000000000 < n) (h : INV n σc σr) (x : Int32) : STEP n σr (ej_bw (xw_lcx (m10_drop n x σc) (σc, σr, fun _ => 0)) KI H3) (m11_drop n x σr) := c_drop (g := fun _ => 0) hn h x
theorem k_value (hn : 2000 < n) (h : INV n σc σr) : STEP n σr (ej_bw (xw_lcx (m10_value n σc) (σc, σr, fun _ => 0)) KI HVa) (m11_value n σr) := c_value (g := fun _ => 0) hn h
theorem k_setHome (hn : 200000000000000 < n) (h : INV n σc σr) : STEP n σr (ej_bw (xw_lcx (m10_setHome n σc) (σc, σr, fun _ => 0)) KI HHo) (m11_setHome n σr) := c_setHome (g := fun _ => 0) hn h
theorem n20 : nI 2 ≠ nI 0 := by decide +kernel
theorem n12 : nI 1 ≠ nI 2 := by decide +kernel
theorem n21 : nI 2 ≠ nI 1 := by decide +kernel
/-- what each caller learns of the class -/
theorem G_feed {X : Option ((Int32 × ej_S) ⊕ (Nat × ej_S))} {Y : Option (Int32 × ej_S)} {g : Nat → Int64} (h : STEP n σr (ej_bw (xw_lcx X (σc, σr, g)) KI HFe) Y) (hY : Y = some (v, σr')) : (gI σr' 19 = nI 0 → ∃ σc', X = some (.inl (v, σc')) ∧ INV n σc' σr') ∧ (gI σr' 19 = nI 1 → ∃ σc', X = some (.inr (1, σc')) ∧ INV n σc' σr') ∧ (gI σr' 19 = nI 2 → ∃ σc', X = some (.inr (2, σc')) ∧ INV n σc' σr') :=
  ⟨fun q => ST_get h hY q (fun k s r q h => H2_n (k1 := 1) (k2 := 2) (c1 := 1) (c2 := 2) n10 n20 h), fun q => ST_exc h hY q n10 (fun k s r q h e => H2_1 (k1 := 1) (k2 := 2) (c1 := 1) (c2 := 2) n21 h e), fun q => ST_exc h hY q n20 (fun k s r q h e => H2_2 (k1 := 1) (k2 := 2) (c1 := 1) (c2 := 2) n12 h e)⟩
theorem G_load {X : Option ((Int32 × ej_S) ⊕ (Nat × ej_S))} {Y : Option (Int32 × ej_S)} {g : Nat → Int64} (h : STEP n σr (ej_bw (xw_lcx X (σc, σr, g)) KI HLo) Y) (hY : Y = some (v, σr')) : (gI σr' 19 = nI 0 → ∃ σc', X = some (.inl (v, σc')) ∧ INV n σc' σr') ∧ (gI σr' 19 = nI 1 → ∃ σc', X = some (.inr (3, σc')) ∧ INV n σc' σr') ∧ (gI σr' 19 = nI 2 → ∃ σc', X = some (.inr (2, σc')) ∧ INV n σc' σr') :=
  ⟨fun q => ST_get h hY q (fun k s r q h => H2_n (k1 := 3) (k2 := 2) (c1 := 1) (c2 := 2) n10 n20 h), fun q => ST_exc h hY q n10 (fun k s r q h e => H2_1 (k1 := 3) (k2 := 2) (c1 := 1) (c2 := 2) n21 h e), fun q => ST_exc h hY q n20 (fun k s r q h e => H2_2 (k1 := 3) (k2 := 2) (c1 := 1) (c2 := 2) n12 h e)⟩
theorem G_one {X : Option ((Int32 × ej_S) ⊕ (Nat × ej_S))} {Y : Option (Int32 × ej_S)} {g : Nat → Int64} {k1 : Nat} (h : STEP n σr (ej_bw (xw_lcx X (σc, σr, g)) KI (fun k sk => if k = k1 then (fun s5 => (some (1, s5))) sk else none)) Y) (hY : Y = some (v, σr')) : (gI σr' 19 = nI 0 → ∃ σc', X = some (.inl (v, σc')) ∧ INV n σc' σr') ∧ (gI σr' 19 = nI 1 → ∃ σc', X = some (.inr (k1, σc')) ∧ INV n σc' σr') :=
  ⟨fun q => ST_get h hY q (fun k s r q h => H1_n (k1 := k1) (c1 := 1) n10 h), fun q => ST_exc h hY q n10 (fun k s r q h e => H1_e (k1 := k1) (c1 := 1) h e)⟩
theorem r_feed_45 {W : Nat} : ∀ (k j : Nat) (l : List Nat) (σr : ej_S), j ≤ m → m ≤ 8 → m - j < k → RTX σr 4 l → l.length + (m - j) ≤ 600 → (∀ f, f < 4 → RTX σr f (fs f)) → ∃ σr', m11_feed_45 n k (lN W) (nI m) (nI j) σr = some (nI (l.length + (m - j)), σr') ∧ RTX σr' 4 (l ++ fbs W (m - j) j) ∧ fr [] [] [0, 1] [] [] σr σr' ∧ ∀ f, f < 4 → RTX σr' f (fs f) := by
  intro k
  induction k with
  | zero => intro j l σr _ _ h; omega
  | succ k ih =>
    intro j l σr hj hm hk hR hl hf
    have h14 : gA σr 1 4 = nI l.length := hR.1
    rw [u_11_feed_45]
    rcases Nat.lt_or_ge j m with q | q
    · have hb : W / 2 ^ (8 * j) % 256 < 256 := Nat.mod_lt _ (by omega)
      obtain ⟨t2, f2, t3⟩ := RTX_put hR (show l.length < 600 by omega) hb hf
      obtain ⟨r2, a2, a4, a6, a7⟩ := ih (j + 1) (l ++ [W / 2 ^ (8 * j) % 256]) _ q hm (by omega) t2 (by rw [List.length_append]; simp; omega) t3
      refine ⟨r2, ?_, ?_, fr_tr f2 a6, a7⟩
      · rw [List.length_append] at a2
        rw [ile_f q (by omega), show l.length + (m - j) = l.length + [W / 2 ^ (8 * j) % 256].length + (m - (j + 1)) by simp; omega]
        simp (disch := omega) only [↓L_m1, L_0, L_1, L_2, L_3, L_4, L_5, L_6, L_7, L_8, L_9, L_10, L_11, L_12, L_13, L_14, L_15, L_16, L_17, L_18, L_19, L_20, L_21, L_22, L_23, L_24, L_31, L_32, L_33, L_35, L_37, L_40, L_41, L_42, L_43, L_44, L_45, L_46, L_47, L_48, L_57, L_58, L_59, L_61, L_63, L_64, L_65, L_90, L_95, L_96, L_97, L_122, L_123, L_125, L_200, L_255, L_300, L_500, L_576, L_600, L_601, L_602, L_1200, L_1800, L_2400, L_3000, L_4000, L_4096, L_5000, L_30000, L_50000, L_60000, L_70000, L_100000, L_200000, L_1000000, L_1000001, ck_t, nI_clamp, h14, nI_add, pk_mul, ej_nm_e, s_AA_n, sshr_b]
        exact a2
      · rw [show m - j = (m - (j + 1)) + 1 by omega]
        show RTX r2 4 (l ++ (W / 2 ^ (8 * j) % 256) :: fbs W (m - (j + 1)) (j + 1))
        rw [List.append_assoc] at a4
        exact a4
    · have e : j = m := by omega
      subst e
      refine ⟨σr, ?_, ?_, fr_rf, hf⟩
      · rw [ile_t (Nat.le_refl _) (by omega), Nat.sub_self, Nat.add_zero]
        simp (disch := omega) only [↓L_m1, L_0, L_1, L_2, L_3, L_4, L_5, L_6, L_7, L_8, L_9, L_10, L_11, L_12, L_13, L_14, L_15, L_16, L_17, L_18, L_19, L_20, L_21, L_22, L_23, L_24, L_31, L_32, L_33, L_35, L_37, L_40, L_41, L_42, L_43, L_44, L_45, L_46, L_47, L_48, L_57, L_58, L_59, L_61, L_63, L_64, L_65, L_90, L_95, L_96, L_97, L_122, L_123, L_125, L_200, L_255, L_300, L_500, L_576, L_600, L_601, L_602, L_1200, L_1800, L_2400, L_3000, L_4000, L_4096, L_5000, L_30000, L_50000, L_60000, L_70000, L_100000, L_200000, L_1000000, L_1000001, ck_t, nI_clamp, h14]
      · rw [Nat.sub_self]
        show RTX σr 4 (l ++ [])
        rw [List.append_nil]; exact hR
theorem FL_19 (hf : ∀ f, f < 4 → RTX σ f (fs f)) : ∀ f, f < 4 → RTX (uI σ 19 v) f (fs f) := fun f h => RTX_fr (hf f h) f19 (by simp) (by simp)
/-- feeding -/
theorem a_feed (hn : 2000 < n) (hm1 : 1 ≤ m) (hm8 : m ≤ 8) (hl : tp.length + m ≤ 600) : ∀ c, IQ n fs σ0 tp ot c → ∃ c', IQ n fs σ0 (tp ++ fbs W m 0) ot c' ∧ ∀ τ : ej_S, mL_act n 0 (lN W) (nI m) ((c, τ) : lw_S) = some (nI (tp.length + m), ((c', τ) : lw_S)) := by
  intro c ⟨σr, hI, q, hf, ht, hx⟩
  obtain ⟨r2, a2, a4, a6, a7⟩ := r_feed_45 (n := n) (W := W) (m := m) n 0 tp (uI σr 19 (nI 0)) (by omega) hm8 (by omega) (RTX_fr ht f19 (by simp) (by simp)) (by omega) (FL_19 hf)
  have F : fr [19] [] [0, 1] [] [] σr r2 := fr_tr (fr_wk f19 (by simp) (by simp) (by simp) (by simp) (by simp)) (fr_wk a6 (by simp) (by simp) (by simp) (by simp) (by simp))
  have e1 : gA σr 1 4 = nI tp.length := ht.1
  obtain ⟨c', x1, x2⟩ := (G_feed (k_feed hn hI (lN W) (nI m)) (v := nI (tp.length + m)) (σr' := r2) (by
    unfold m11_feed
    rw [v_isIn, ej_bi_s, L_0, L_1, L_8, ilt_f hm1 (by omega), ilt_f hm8 (by omega), if_neg n10, L_4, ck_t (by omega) (by omega), nI_clamp (by omega), e1, nI_add, L_600, ile_t hl (by omega), goes_0, ej_bi_s, if_neg n10, a2, Nat.sub_zero])).1 (by rw [a6.1 19 (by simp), s_II_s])
  refine ⟨c', ⟨r2, x2, QMP_tr q (QMP_fr F (by decide) (by decide) (by decide) (by decide)), a7, a4, RX_fr hx F (by simp) (by simp)⟩, fun τ => ?_⟩
  unfold mL_act
  rw [if_pos rfl]
  show ej_bw (ej_lcx (m10_feed n (lN W) (nI m) c) (c, τ)) _ _ = _
  rw [x1]; rfl
/-- the tape is full -/
theorem a_full (hn : 2000 < n) (hm1 : 1 ≤ m) (hm8 : m ≤ 8) (hl : 600 < tp.length + m) (w : Int64) : ∀ c, IQ n fs σ0 tp ot c → ∃ c', IQ n fs σ0 tp ot c' ∧ ∀ τ : ej_S, mL_act n 0 w (nI m) ((c, τ) : lw_S) = some (-1183, ((c', τ) : lw_S)) := by
  intro c ⟨σr, hI, q, hf, ht, hx⟩
  have e1 : gA σr 1 4 = nI tp.length := ht.1
  have h6 := ht.2.1
  obtain ⟨c', x1, x2⟩ := (G_feed (k_feed hn hI w (nI m)) (v := nI 0) (σr' := uI σr 19 (nI 2)) (by
    unfold m11_feed
    rw [v_isIn, ej_bi_s, L_0, L_1, L_8, ilt_f hm1 (by omega), ilt_f hm8 (by omega), if_neg n10, L_4, ck_t (by omega) (by omega), nI_clamp (by omega), e1, nI_add, L_600, ile_f hl (by omega), L_2, goes_2, ej_bi_s, if_pos rfl])).2.2 s_II_s
  refine ⟨c', IQ_mk x2 q f19 (by decide) hf ht hx, fun τ => ?_⟩
  unfold mL_act
  rw [if_pos rfl]
  show ej_bw (ej_lcx (m10_feed n w (nI m) c) (c, τ)) _ _ = _
  rw [x1]; rfl
/-- not so many bytes -/
theorem a_bad {x : Int32} (hn : 2000 < n) (hx' : x < nI 1 ∨ nI 8 < x) (w : Int64) : ∀ c, IQ n fs σ0 tp ot c → ∃ c', IQ n fs σ0 tp ot c' ∧ ∀ τ : ej_S, mL_act n 0 w x ((c, τ) : lw_S) = some (-1182, ((c', τ) : lw_S)) := by
  intro c ⟨σr, hI, q, hf, ht, hx⟩
  obtain ⟨c', x1, x2⟩ := (G_feed (k_feed hn hI w x) (v := nI 0) (σr' := uI σr 19 (nI 1)) (by
    unfold m11_feed
    rw [v_isIn, ej_bi_s, L_0, L_1, L_8]
    have e : (if x < nI 1 then nI 0 else if nI 8 < x then nI 0 else nI 1) = nI 0 := by
      rcases hx' with z | z
      · rw [if_pos z]
      · by_cases y : x < nI 1
        · rw [if_pos y]
        · rw [if_neg y, if_pos z]
    rw [e, if_pos rfl, goes_1, ej_bi_s, if_pos rfl])).2.1 s_II_s
  refine ⟨c', IQ_mk x2 q f19 (by decide) hf ht hx, fun τ => ?_⟩
  unfold mL_act
  rw [if_pos rfl]
  show ej_bw (ej_lcx (m10_feed n w x c) (c, τ)) _ _ = _
  rw [x1]; rfl
end P97m
