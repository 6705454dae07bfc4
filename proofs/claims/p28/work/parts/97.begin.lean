/-! HOW BOTH BEGIN -/
def lt5 (a : Int64) (c : Int32) : Int64 := if c = 0 then a else ((32 * a + c.toInt64) - 65) + 1
def ini_S : ej_S := uA (uA (uA (uA (uA (uA (uA (uA (uA (uA (uB (uB (uB (uB (uB (uB (uB (uB (uB (uB (ej_Z) 0 ((0 : Int32).toNatClampNeg) (lt5 (lt5 (lt5 (lt5 (lt5 (0) 76) 79) 67) 65) 76)) 0 ((1 : Int32).toNatClampNeg) (lt5 (lt5 (lt5 (lt5 (lt5 (lt5 (lt5 (lt5 (lt5 (lt5 (0) 68) 69) 68) 73) 67) 65) 84) 69) 68) 0)) 0 ((2 : Int32).toNatClampNeg) (lt5 (lt5 (lt5 (lt5 (lt5 (lt5 (lt5 (lt5 (lt5 (lt5 (0) 68) 73) 82) 69) 67) 84) 0) 0) 0) 0)) 0 ((3 : Int32).toNatClampNeg) (lt5 (lt5 (lt5 (lt5 (lt5 (lt5 (lt5 (lt5 (lt5 (lt5 (0) 68) 69) 77) 65) 78) 68) 0) 0) 0) 0)) 0 ((4 : Int32).toNatClampNeg) (lt5 (lt5 (lt5 (lt5 (lt5 (lt5 (lt5 (lt5 (lt5 (lt5 (0) 72) 79) 85) 82) 76) 89) 0) 0) 0) 0)) 0 ((5 : Int32).toNatClampNeg) (lt5 (lt5 (lt5 (lt5 (lt5 (lt5 (lt5 (lt5 (lt5 (lt5 (0) 69) 86) 69) 78) 73) 78) 71) 0) 0) 0)) 0 ((6 : Int32).toNatClampNeg) (lt5 (lt5 (lt5 (lt5 (lt5 (0) 68) 65) 73) 76) 89)) 0 ((7 : Int32).toNatClampNeg) (lt5 (lt5 (lt5 (lt5 (lt5 (lt5 (lt5 (lt5 (lt5 (lt5 (0) 87) 69) 69) 75) 76) 89) 0) 0) 0) 0)) 0 ((8 : Int32).toNatClampNeg) (lt5 (lt5 (lt5 (lt5 (lt5 (0) 72) 73) 71) 72) 0)) 0 ((9 : Int32).toNatClampNeg) (lt5 (lt5 (lt5 (lt5 (lt5 (0) 76) 79) 87) 0) 0)) 4 ((0 : Int32).toNatClampNeg) (25)) 4 ((1 : Int32).toNatClampNeg) (95)) 4 ((2 : Int32).toNatClampNeg) (200)) 4 ((3 : Int32).toNatClampNeg) (300)) 4 ((4 : Int32).toNatClampNeg) (500)) 4 ((5 : Int32).toNatClampNeg) (1800)) 4 ((6 : Int32).toNatClampNeg) (5000)) 4 ((7 : Int32).toNatClampNeg) (30000)) 4 ((8 : Int32).toNatClampNeg) (-5)) 4 ((9 : Int32).toNatClampNeg) (5)
section P97b
variable {n f : Nat} {σ σr : ej_S} {g : Nat → Int64}
theorem reb_nil1 (hn : 2000 < n) (hf : f < 4) (hR : RTX σ f []) (k : Nat) : ∃ σ', m11_rebuilds_109 n (k + 1) (nI f) σ = m11_rebuilds_109 n k (nI (f + 1)) σ' ∧ fr [0, 1, 2, 3, 4, 5, 7, 8, 9, 10] [0] [2] [] [] σ σ' ∧ gA σ' 2 f = nI 0 ∧ ∀ h, h ≠ f → gA σ' 2 h = gA σ 2 h := by
  have f7 : fr [7] [] [] [] [] σ (uI σ 7 (nI f)) := fr_uI fr_rf (by simp)
  obtain ⟨s, e1, e2, e3⟩ := r_read_nil (n := n) hn (show f < 5 by omega) (RTX_fr hR f7 (by simp) (by simp))
  refine ⟨uA s 2 f (nI 0), ?_, fr_uA (fr_tr (fr_wk f7 (by simp) (by simp) (by simp) (by simp) (by simp)) (fr_wk e2 (by simp) (by simp) (by simp) (by simp) (by simp))) (by simp), by rw [s_AA_s, pk_us], fun h hh => by rw [s_AA_s, pk_un hh, e2.2.2.1 2 (by simp), s_AI]⟩
  rw [u_11_rebuilds_109, L_4, ile_f hf (by omega), ej_nm_e, e1, ej_bi_s, ck_t hf (by omega), nI_clamp (by omega), ej_nm_e, ej_nm_e, e3, L_1, nI_add]
theorem reb_nil (hn : 2000 < n) (hR : ∀ f, f < 4 → RTX σ f []) : ∃ s, m11_rebuilds n σ = (ej_bv (m11_solves n (uI s 6 (nI 0))) fun s8 => some s8) ∧ gI s 15 = nI 0 ∧ gI s 16 = nI 0 ∧ (∀ x, x < 576 → ri s x) ∧ (∀ x, x < 24 → rj s x) ∧ ∀ f, f < 4 → gA s 2 f = nI 0 := by
  obtain ⟨r0, e0, f0, g2, g3, g4, g5, g6⟩ := r_reb0 (n := n) (σ := σ) (by omega)
  have R0 : ∀ f, f < 4 → RTX r0 f [] := fun f hf => RTX_fr (hR f hf) f0 (by simp) (by simp)
  obtain ⟨m, hm⟩ : ∃ m, n = m + 1 + 4 := ⟨n - 5, by omega⟩
  obtain ⟨r1, a1, b1, c1, d1⟩ := reb_nil1 (n := n) (f := 0) hn (by omega) (R0 0 (by omega)) (m + 4)
  obtain ⟨r2, a2, b2, c2, d2⟩ := reb_nil1 (n := n) (f := 1) hn (by omega) (RTX_fr (R0 1 (by omega)) b1 (by simp) (by simp)) (m + 3)
  have b12 := fr_tr b1 b2
  obtain ⟨r3, a3, b3, c3, d3⟩ := reb_nil1 (n := n) (f := 2) hn (by omega) (RTX_fr (R0 2 (by omega)) b12 (by simp) (by simp)) (m + 2)
  have b13 := fr_tr b12 b3
  obtain ⟨r4, a4, b4, c4, d4⟩ := reb_nil1 (n := n) (f := 3) hn (by omega) (RTX_fr (R0 3 (by omega)) b13 (by simp) (by simp)) (m + 1)
  have b14 := fr_tr b13 b4
  refine ⟨r4, ?_, by rw [b14.1 15 (by simp)]; exact g2, by rw [b14.1 16 (by simp)]; exact g3, fun x hx => ?_, fun x hx => ?_, fun f hf => ?_⟩
  · rw [e0]
    have e : m11_rebuilds_109 n n (nI 0) r0 = m11_rebuilds_109 n (m + 1) (nI 4) r4 := by
      rw [← a4, ← a3, ← a2, ← a1]
      congr 1
    rw [e, u_11_rebuilds_109, L_4, ile_t (Nat.le_refl _) (by omega), L_0, ej_nm_e]
  · have := g5 x hx
    unfold ri at *
    rw [b14.2.2.1 16 (by simp), b14.2.2.1 17 (by simp), b14.2.2.1 18 (by simp), b14.2.2.1 19 (by simp), b14.2.2.1 20 (by simp)]
    exact this
  · have := g6 x hx
    unfold rj at *
    rw [b14.2.2.1 12 (by simp), b14.2.2.1 13 (by simp), b14.2.2.1 14 (by simp), b14.2.2.1 15 (by simp)]
    exact this
  · rcases (show f = 0 ∨ f = 1 ∨ f = 2 ∨ f = 3 by omega) with z | z | z | z
    · subst z; rw [d4 0 (by omega), d3 0 (by omega), d2 0 (by omega)]; exact c1
    · subst z; rw [d4 1 (by omega), d3 1 (by omega)]; exact c2
    · subst z; rw [d4 2 (by omega)]; exact c3
    · subst z; exact c4
theorem r_lets (a : Int64) (c1 c2 c3 c4 c5 : Int32) : m11_letters n a c1 c2 c3 c4 c5 σ = some (lt5 (lt5 (lt5 (lt5 (lt5 a c1) c2) c3) c4) c5, σ) := by
  have h : ∀ (a : Int64) (c : Int32), m11_letter n a c σ = some (lt5 a c, σ) := by
    intro a c
    unfold m11_letter lt5
    split <;> rfl
  unfold m11_letters
  rw [h, ej_bl_s, h, ej_bl_s, h, ej_bl_s, h, ej_bl_s, h, ej_bl_s]
theorem ini_ex : ∃ S : ej_S, (∀ n, m11_init n ej_Z = ej_bv (m11_rebuilds n S) fun s => some s) ∧ RW S ∧ (∀ k, gI S k = nI 0) ∧ (∀ k, gJ S k = 0) ∧ ∀ f, gA S 1 f = nI 0 := by
  have c0 : ∀ k : Option ej_S, ej_ck (0 : Int32) 10 k = k := fun k => if_neg (by decide)
  have c1 : ∀ k : Option ej_S, ej_ck (1 : Int32) 10 k = k := fun k => if_neg (by decide)
  have c2 : ∀ k : Option ej_S, ej_ck (2 : Int32) 10 k = k := fun k => if_neg (by decide)
  have c3 : ∀ k : Option ej_S, ej_ck (3 : Int32) 10 k = k := fun k => if_neg (by decide)
  have c4 : ∀ k : Option ej_S, ej_ck (4 : Int32) 10 k = k := fun k => if_neg (by decide)
  have c5 : ∀ k : Option ej_S, ej_ck (5 : Int32) 10 k = k := fun k => if_neg (by decide)
  have c6 : ∀ k : Option ej_S, ej_ck (6 : Int32) 10 k = k := fun k => if_neg (by decide)
  have c7 : ∀ k : Option ej_S, ej_ck (7 : Int32) 10 k = k := fun k => if_neg (by decide)
  have c8 : ∀ k : Option ej_S, ej_ck (8 : Int32) 10 k = k := fun k => if_neg (by decide)
  have c9 : ∀ k : Option ej_S, ej_ck (9 : Int32) 10 k = k := fun k => if_neg (by decide)
  refine ⟨ini_S, fun n => ?_, ?_, fun k => rfl, fun k => rfl, fun f => rfl⟩
  · unfold m11_init
    simp only [r_lets, ej_bl_s, ej_nm_e, c0, c1, c2, c3, c4, c5, c6, c7, c8, c9]
    rfl
  · unfold RW
    intro k hk
    rcases (show k = 0 ∨ k = 1 ∨ k = 2 ∨ k = 3 ∨ k = 4 ∨ k = 5 ∨ k = 6 ∨ k = 7 ∨ k = 8 ∨ k = 9 by omega) with z | z | z | z | z | z | z | z | z | z <;> subst z <;> exact ⟨by decide +kernel, by decide +kernel⟩
theorem init_ok (hn : 200000000000000 < n) : ∃ σr, m11_init n ej_Z = some σr ∧ INV n ej_Z σr := by
  obtain ⟨S, e0, hw, hI, hJ, h1⟩ := ini_ex
  have hR : ∀ f, RTX S f [] := fun f => ⟨h1 f, Nat.zero_le _, fun i hi => absurd hi (Nat.not_lt_zero i), fun b hb => by cases hb⟩
  have hT : ∀ t, TX ej_Z t [] := fun t => ⟨rfl, Nat.zero_le _, fun i hi => absurd hi (Nat.not_lt_zero i), fun b hb => by cases hb⟩
  have hs : ∀ f, f < 4 → snd n ((fun _ => []) f) := fun f _ => snd_nil (by omega) hw (hI 6)
  obtain ⟨t, e1, e2, e3, e4, e5, e6⟩ := s_rebuild (n := n) (r0 := zm) (σc := ej_Z) (fs := fun _ => []) hn hs (fun f _ => hT _) (fun f _ => hR f) hw
  obtain ⟨s, a1, a2, a3, a4, a5, a6⟩ := reb_nil (n := n) (σ := S) (by omega) (fun f _ => hR f)
  have m1 : MR true ej_Z s := MR_ini ⟨rfl, rfl, rfl, rfl, rfl, rfl, rfl⟩ (fun x _ => ⟨rfl, rfl, rfl, rfl, rfl⟩) a2 a3 a4 a5
  have hw6 : wfR (uI s 6 (nI 0)) := wfR_fr (m1.2 rfl).1 (fr_uI (I := [6]) (J := []) (A := []) (B := []) (M := []) fr_rf (by simp)) (by simp) (by simp) (by simp) (by simp) (by simp) (by simp) (by simp) (by simp)
  obtain ⟨t', b1, b2, b3⟩ := r_solves hn hw6
  have F : fr [6] [] [21, 22, 23, 24, 25, 26] [] [] s t' := fr_tr (fr_wk (fr_uI (I := [6]) (J := []) (A := []) (B := []) (M := []) fr_rf (by simp)) (by simp) (by simp) (by simp) (by simp) (by simp)) (fr_wk b2 (by simp) (by simp) (by simp) (by simp) (by simp))
  have et : t' = t := by
    rw [a1, b1, ej_bv_s] at e1
    exact Option.some.inj e1
  subst et
  have hrel : relC ej_Z t' := relC_frr ((m1.2 rfl).2.1 a3) F (by simp) (by simp) (by simp) (by simp) (by simp) (by simp) (by simp) (by simp) (by simp) (by simp) (by simp) (by simp)
  have hM : MAPI n (fun _ => []) ej_Z t' := MAPI_new (c := ej_Z) (fun f _ => hT _) (fun f _ => RTX_EF (hR f) e2) hs (RW_fr hw e2 (by simp) (by simp)) e3 (by rw [F.1 16 (by simp)]; exact a3) (by rw [e2.2.1 1 (by simp), hJ 1]; rfl) e4 e5 rfl rfl (fun f hf => by rw [F.2.2.1 2 (by simp), a6 f hf]; rfl) hrel e6
  refine ⟨t', by rw [e0, e1, ej_bv_s], fun _ => [], [], [], hM, hT 0, RTX_EF (hR 4) e2, hT 1, ⟨?_, Nat.zero_le _, fun i hi => absurd hi (Nat.not_lt_zero i), fun b hb => by cases hb⟩, ?_, ?_⟩
  · rw [e2.1 18 (by simp), hI 18]; rfl
  · rw [e2.1 11 (by simp), hI 11]; rfl
  · rw [e2.1 12 (by simp), hI 12]; rfl
end P97b
