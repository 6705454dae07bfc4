/-! WHAT EACH STATEMENT TELLS -/
theorem t1_no {kd x y : Nat} {o : Option Nat} {s : St} (h : e_is kd x y s = false) : e_t1 kd x y o s = o := by
  unfold e_t1; rw [h, if_neg (by decide)]
theorem is_kd {kd x y : Nat} {s : St} (h : e_k s ≠ kd) : e_is kd x y s = false := decide_eq_false (fun z => h z.1)
theorem t1_z {kd x y : Nat} {o : Option Nat} {s : St} (hk : ¬ (kd = 0 ∨ kd = 2)) : e_t1 kd x y o s ≠ none ↔ o ≠ none ∨ e_is kd x y s = true := by
  unfold e_t1
  by_cases z : e_is kd x y s = true
  · rw [if_pos z]
    refine ⟨fun _ => .inr z, fun _ => ?_⟩
    unfold e_mn
    cases o with
    | none => simp
    | some d => simp only; split <;> simp
  · rw [if_neg z]
    exact ⟨fun w => .inl w, fun w => w.elim id (fun y => absurd y z)⟩
section P97r
variable {n f a b v q va vb vc : Nat} {σ σ' σ0 : ej_S} {X : List Nat} {L : List St}
theorem nx_inj (hn : X.Nodup) (h10 : ∀ v ∈ X, v < 10) {i : Nat} (ha : a < X.length) (hva : X.getD a 0 = va) : nx' X i = va ↔ i = a := by
  constructor
  · intro h
    rcases Nat.lt_or_ge i X.length with z | z
    · rw [nx_at z, ← hva] at h
      exact gD_inj hn z ha h
    · rw [nx_ge z] at h
      have := h10 _ (gD_mem ha)
      omega
  · intro h
    rw [h, nx_at ha, hva]
/-- a statement's names are there -/
theorem gL_snoc {s : St} (h : ∀ s ∈ L, ∀ v ∈ e_nm s, v ∈ X) (hs : ∀ v ∈ e_nm s, v ∈ X) : ∀ t ∈ L ++ [s], ∀ v ∈ e_nm t, v ∈ X := by
  intro t ht
  rcases List.mem_append.mp ht with z | z
  · exact h t z
  · rw [List.mem_singleton.mp z]; exact hs
theorem gq_snoc {s : St} (h : ∀ s ∈ L, e_q s < 2 ^ 30) (hs : e_q s < 2 ^ 30) : ∀ t ∈ L ++ [s], e_q t < 2 ^ 30 := by
  intro t ht
  rcases List.mem_append.mp ht with z | z
  · exact h t z
  · rw [List.mem_singleton.mp z]; exact hs
theorem At_mem {m : Bool} {r : Nat} (h : AtN m X r v) (hm : m = true) : v ∈ X := by
  obtain ⟨h1, h2⟩ := h.2 hm
  rw [← h2]; exact gD_mem h1
/-- a link -/
theorem MPB_link (h : MPB σ X L) (hA : AtN true X a va) (hB : AtN true X b vb) (hq : q < 2 ^ 30) (s : St) (hs : s = (0, va, vb, vc, q)) (hlk : (a ≠ b ∧ lkb σ (24 * a + b) (nI q) false ∧ σ' = uA (uA σ 16 (24 * a + b) (nI q)) 17 (24 * a + b) (nI 0)) ∨ (¬ (a ≠ b ∧ lkb σ (24 * a + b) (nI q) false) ∧ σ' = σ)) : MPB σ' X (L ++ [s]) := by
  obtain ⟨g15, g16, gn, g10, gL, gq, g1, g2, g3⟩ := id h
  obtain ⟨a1, a2⟩ := hA.2 rfl
  obtain ⟨b1, b2⟩ := hB.2 rfl
  have l10 := MPB_10 h
  have ia : ∀ i, nx' X i = va ↔ i = a := fun i => nx_inj gn g10 a1 a2
  have ib : ∀ i, nx' X i = vb ↔ i = b := fun i => nx_inj gn g10 b1 b2
  have sk : e_k s = 0 := by rw [hs]; rfl
  have sa : e_a s = va := by rw [hs]; rfl
  have sbb : e_b s = vb := by rw [hs]; rfl
  have sq : e_q s = q := by rw [hs]; rfl
  have hnm : ∀ v ∈ e_nm s, v ∈ X := by
    intro w hw
    rw [show e_nm s = [va, vb] by rw [hs]; rfl] at hw
    rcases List.mem_cons.mp hw with z | z
    · rw [z]; exact At_mem hA rfl
    · rw [List.mem_singleton.mp z]; exact At_mem hB rfl
  have eN : ∀ x, e_net (L ++ [s]) x = e_net L x := fun x => by
    rw [e_net_snoc, show e_nt x s = false from decide_eq_false (fun z => by rw [sk] at z; omega), Bool.or_false]
  have eT : ∀ kd x y, kd ≠ 0 → e_td (L ++ [s]) kd x y = e_td L kd x y := fun kd x y hk => by rw [e_td_snoc, t1_no (is_kd (by rw [sk]; exact fun z => hk z.symm))]
  have is0 : ∀ i j, e_is 0 (nx' X i) (nx' X j) s = true ↔ i = a ∧ j = b ∧ a ≠ b := by
    intro i j
    unfold e_is
    rw [decide_eq_true_eq, sk, sa, sbb]
    constructor
    · rintro ⟨_, z1, z2, z3⟩
      have i1 := (ia i).mp z1.symm
      have j1 : j = b := by
        rcases z2 with y | y | y
        · omega
        · exact (ib j).mp y.symm
        · omega
      refine ⟨i1, j1, fun z => ?_⟩
      rcases z3 with y | y
      · omega
      · exact y (by rw [i1, j1, z])
    · rintro ⟨z1, z2, z3⟩
      refine ⟨rfl, ((ia i).mpr z1).symm, .inr (.inl ((ib j).mpr z2).symm), .inr (fun z => ?_)⟩
      have := (ib i).mp (z.trans ((ib j).mpr z2))
      omega
  have ct : e_ct 0 s = q := by unfold e_ct; rw [if_pos (.inl rfl), sq]
  have old := td_B (kd := 0) (x := nx' X a) (y := nx' X b) gq
  have g16 : gA σ 16 (24 * a + b) = oI (e_td L 0 (nx' X a) (nx' X b)) := (g3 a b hA.1 hB.1).1
  have g17 : gA σ 17 (24 * a + b) = nI 0 := (g3 a b hA.1 hB.1).2.1
  -- what stands there then
  have key : ∀ i j, i < 24 → j < 24 → gA σ' 16 (24 * i + j) = oI (e_td (L ++ [s]) 0 (nx' X i) (nx' X j)) ∧ gA σ' 17 (24 * i + j) = nI 0 := by
    intro i j hi hj
    rw [e_td_snoc]
    have F1 := g3 i j hi hj
    by_cases z : i = a ∧ j = b ∧ a ≠ b
    · obtain ⟨z1, z2, z3⟩ := z
      subst z1; subst z2
      rw [show e_t1 0 (nx' X i) (nx' X j) (e_td L 0 (nx' X i) (nx' X j)) s = e_mn (e_td L 0 (nx' X i) (nx' X j)) q by unfold e_t1; rw [if_pos ((is0 i j).mpr ⟨rfl, rfl, z3⟩), ct]]
      unfold lkb at hlk
      rw [g16, g17] at hlk
      cases eo : e_td L 0 (nx' X i) (nx' X j) with
      | none =>
        rw [eo] at hlk
        rcases hlk with ⟨_, _, y⟩ | ⟨y, _⟩
        · rw [y, s_AA_n (by omega), s_AA_s, s_AA_s, pk_us, pk_us]; exact ⟨rfl, rfl⟩
        · exact absurd ⟨z3, .inl rfl⟩ y
      | some d =>
        have hd := old d eo
        rw [eo] at hlk
        by_cases w : q < d
        · rw [show e_mn (some d) q = some q from if_pos w]
          rcases hlk with ⟨_, _, y⟩ | ⟨y, _⟩
          · rw [y, s_AA_n (by omega), s_AA_s, s_AA_s, pk_us, pk_us]; exact ⟨rfl, rfl⟩
          · exact absurd ⟨z3, .inr (.inl (nI_lt w (by omega)))⟩ y
        · rw [show e_mn (some d) q = some d from if_neg w]
          rcases hlk with ⟨_, y, _⟩ | ⟨_, y⟩
          · exfalso
            rcases y with y | y | y
            · exact zm_ne (show d < 2 ^ 31 by omega) y
            · exact nI_nlt (show d ≤ q by omega) (by omega) y
            · exact y.2.1 rfl
          · rw [y, F1.1, eo]; exact ⟨rfl, F1.2.1⟩
    · have is : e_is 0 (nx' X i) (nx' X j) s = false := by
        cases e : e_is 0 (nx' X i) (nx' X j) s
        · rfl
        · exact absurd ((is0 i j).mp e) z
      rw [t1_no is]
      rcases hlk with ⟨y0, _, y⟩ | ⟨_, y⟩
      · have ne : 24 * i + j ≠ 24 * a + b := fun w => z ⟨by have := hB.1; omega, by have := hB.1; omega, y0⟩
        rw [y, s_AA_n (by omega), s_AA_s, s_AA_s, s_AA_n (by omega), pk_un ne, pk_un ne]
        exact ⟨F1.1, F1.2.1⟩
      · rw [y]; exact ⟨F1.1, F1.2.1⟩
  have F : fr [] [] [16, 17] [] [] σ σ' := by
    rcases hlk with ⟨_, _, y⟩ | ⟨_, y⟩
    · rw [y]; exact fr_uA (fr_uA fr_rf (by simp)) (by simp)
    · rw [y]; exact fr_rf
  refine ⟨by rw [F.1 15 (by simp)]; exact g15, by rw [F.1 16 (by simp)]; exact h.2.1, gn, g10, gL_snoc gL hnm, gq_snoc gq (by rw [sq]; exact hq), by rw [F.2.2.2.1 1 (by simp), F.2.2.1 11 (by simp)]; exact g1, fun i hi => ?_, fun i j hi hj => ?_⟩
  · rw [F.2.2.1 12 (by simp), F.2.2.1 13 (by simp), F.2.2.1 14 (by simp), F.2.2.1 15 (by simp), eN, eT 3 _ _ (by omega)]
    exact g2 i hi
  · rw [F.2.2.1 18 (by simp), F.2.2.1 19 (by simp), F.2.2.1 20 (by simp), eT 4 _ _ (by omega), eT 1 _ _ (by omega), eT 1 _ _ (by omega), eT 2 _ _ (by omega)]
    obtain ⟨k1, k2⟩ := key i j hi hj
    exact ⟨k1, k2, (g3 i j hi hj).2.2⟩
theorem q_link {m : Bool} (h : BM σ0 f m X L σ) (hA : AtN m X a va) (hB : AtN m X b vb) (hq : q < 2 ^ 30) : ∃ σ', m11_links n (nI a) (nI b) (nI q) 0 σ = some σ' ∧ BM σ0 f m X (L ++ [(0, va, vb, vc, q)]) σ' ∧ fr [] [] [16, 17] [] [] σ σ' := by
  obtain ⟨σ', e1, e2⟩ := r_links (n := n) (p := nI q) hA.1 hB.1 false m (BM_6 h)
  rw [bI_f] at e1 e2
  have F : fr [] [] [16, 17] [] [] σ σ' := by
    rcases e2 with ⟨_, _, _, y⟩ | ⟨_, y⟩
    · rw [y]; exact fr_uA (fr_uA fr_rf (by simp)) (by simp)
    · rw [y]; exact fr_rf
  refine ⟨σ', by rw [L_0]; exact e1, ?_, F⟩
  cases m
  · rcases e2 with ⟨y, _⟩ | ⟨_, y⟩
    · cases y
    · rw [y]; exact h
  · obtain ⟨h6, h7, hf, hM⟩ := h
    refine ⟨by rw [F.1 6 (by simp)]; exact h6, by rw [F.1 7 (by simp)]; exact h7, hf, MPB_link hM hA hB hq _ rfl ?_⟩
    rcases e2 with ⟨_, y⟩ | ⟨y, z⟩
    · exact .inl y
    · exact .inr ⟨fun w => y ⟨rfl, w⟩, z⟩
end P97r
