/-! WHAT EACH STATEMENT TELLS -/
theorem t1_no {kd x y : Nat} {o : Option Nat} {s : St} (h : e_is kd x y s = false) : e_t1 kd x y o s = o := by
  unfold e_t1; rw [h, if_neg (by decide)]
theorem is_kd {kd x y : Nat} {s : St} (h : e_k s ≠ kd) : e_is kd x y s = false := decide_eq_false (fun z => h z.1)
theorem t1_z {kd x y : Nat} {o : Option Nat} {s : St} (hk : ¬ (kd = 0 ∨ kd = 2)) : e_t1 kd x y o s ≠ none ↔ o ≠ none ∨ e_is kd x y s = true := by
  unfold e_t1
  by_cases z : e_is kd x y s = true
  · rw [if_pos z]
    refine ⟨fun _ => .inr z, fun _ => ?_⟩
    unfold e_mn
    cases o with
    | none => simp
    | some d => simp only; split <;> simp
  · rw [if_neg z]
    exact ⟨fun w => .inl w, fun w => w.elim id (fun y => absurd y z)⟩
section P97r
variable {n f a b v q va vb vc : Nat} {σ σ' σ0 : ej_S} {X : List Nat} {L : List St}
theorem nx_inj (hn : X.Nodup) (h10 : ∀ v ∈ X, v < 10) {i : Nat} (ha : a < X.length) (hva : X.getD a 0 = va) : nx' X i = va ↔ i = a := by
  constructor
  · intro h
    rcases Nat.lt_or_ge i X.length with z | z
    · rw [nx_at z, ← hva] at h
      exact gD_inj hn z ha h
    · rw [nx_ge z] at h
      have := h10 _ (gD_mem ha)
      omega
  · intro h
    rw [h, nx_at ha, hva]
/-- a statement's names are there -/
theorem gL_snoc {s : St} (h : ∀ s ∈ L, ∀ v ∈ e_nm s, v ∈ X) (hs : ∀ v ∈ e_nm s, v ∈ X) : ∀ t ∈ L ++ [s], ∀ v ∈ e_nm t, v ∈ X := by
  intro t ht
  rcases List.mem_append.mp ht with z | z
  · exact h t z
  · rw [List.mem_singleton.mp z]; exact hs
theorem gq_snoc {s : St} (h : ∀ s ∈ L, e_q s < 2 ^ 30) (hs : e_q s < 2 ^ 30) : ∀ t ∈ L ++ [s], e_q t < 2 ^ 30 := by
  intro t ht
  rcases List.mem_append.mp ht with z | z
  · exact h t z
  · rw [List.mem_singleton.mp z]; exact hs
theorem At_mem {m : Bool} {r : Nat} (h : AtN m X r v) (hm : m = true) : v ∈ X := by
  obtain ⟨h1, h2⟩ := h.2 hm
  rw [← h2]; exact gD_mem h1
/-- a link -/
theorem MPB_link (h : MPB σ X L) (hA : AtN true X a va) (hB : AtN true X b vb) (hq : q < 2 ^ 30) (s : St) (hs : s = (0, va, vb, vc, q)) (hlk : (a ≠ b ∧ lkb σ (24 * a + b) (nI q) false ∧ σ' = uA (uA σ 16 (24 * a + b) (nI q)) 17 (24 * a + b) (nI 0)) ∨ (¬ (a ≠ b ∧ lkb σ (24 * a + b) (nI q) false) ∧ σ' = σ)) : MPB σ' X (L ++ [s]) := by
  obtain ⟨g15, g16, gn, g10, gL, gq, g1, g2, g3⟩ := id h
  obtain ⟨a1, a2⟩ := hA.2 rfl
  obtain ⟨b1, b2⟩ := hB.2 rfl
  have l10 := MPB_10 h
  have ia : ∀ i, nx' X i = va ↔ i = a := fun i => nx_inj gn g10 a1 a2
  have ib : ∀ i, nx' X i = vb ↔ i = b := fun i => nx_inj gn g10 b1 b2
  have sk : e_k s = 0 := by rw [hs]; rfl
  have sa : e_a s = va := by rw [hs]; rfl
  have sbb : e_b s = vb := by rw [hs]; rfl
  have sq : e_q s = q := by rw [hs]; rfl
  have hnm : ∀ v ∈ e_nm s, v ∈ X := by
    intro w hw
    rw [show e_nm s = [va, vb] by rw [hs]; rfl] at hw
    rcases List.mem_cons.mp hw with z | z
    · rw [z]; exact At_mem hA rfl
    · rw [List.mem_singleton.mp z]; exact At_mem hB rfl
  have eN : ∀ x, e_net (L ++ [s]) x = e_net L x := fun x => by
    rw [e_net_snoc, show e_nt x s = false from decide_eq_false (fun z => by rw [sk] at z; omega), Bool.or_false]
  have eT : ∀ kd x y, kd ≠ 0 → e_td (L ++ [s]) kd x y = e_td L kd x y := fun kd x y hk => by rw [e_td_snoc, t1_no (is_kd (by rw [sk]; exact fun z => hk z.symm))]
  have is0 : ∀ i j, e_is 0 (nx' X i) (nx' X j) s = true ↔ i = a ∧ j = b ∧ a ≠ b := by
    intro i j
    unfold e_is
    rw [decide_eq_true_eq, sk, sa, sbb]
    constructor
    · rintro ⟨_, z1, z2, z3⟩
      have i1 := (ia i).mp z1.symm
      have j1 : j = b := by
        rcases z2 with y | y | y
        · omega
        · exact (ib j).mp y.symm
        · omega
      refine ⟨i1, j1, fun z => ?_⟩
      rcases z3 with y | y
      · omega
      · exact y (by rw [i1, j1, z])
    · rintro ⟨z1, z2, z3⟩
      refine ⟨rfl, ((ia i).mpr z1).symm, .inr (.inl ((ib j).mpr z2).symm), .inr (fun z => ?_)⟩
      have := (ib i).mp (z.trans ((ib j).mpr z2))
      omega
  have ct : e_ct 0 s = q := by unfold e_ct; rw [if_pos (.inl rfl), sq]
  have old := td_B (kd := 0) (x := nx' X a) (y := nx' X b) gq
  have g16 : gA σ 16 (24 * a + b) = oI (e_td L 0 (nx' X a) (nx' X b)) := (g3 a b hA.1 hB.1).1
  have g17 : gA σ 17 (24 * a + b) = nI 0 := (g3 a b hA.1 hB.1).2.1
  -- what stands there then
  have key : ∀ i j, i < 24 → j < 24 → gA σ' 16 (24 * i + j) = oI (e_td (L ++ [s]) 0 (nx' X i) (nx' X j)) ∧ gA σ' 17 (24 * i + j) = nI 0 := by
    intro i j hi hj
    rw [e_td_snoc]
    have F1 := g3 i j hi hj
    by_cases z : i = a ∧ j = b ∧ a ≠ b
    · obtain ⟨z1, z2, z3⟩ := z
      subst z1; subst z2
      rw [show e_t1 0 (nx' X i) (nx' X j) (e_td L 0 (nx' X i) (nx' X j)) s = e_mn (e_td L 0 (nx' X i) (nx' X j)) q by unfold e_t1; rw [if_pos ((is0 i j).mpr ⟨rfl, rfl, z3⟩), ct]]
      unfold lkb at hlk
      rw [g16, g17] at hlk
      cases eo : e_td L 0 (nx' X i) (nx' X j) with
      | none =>
        rw [eo] at hlk
        rcases hlk with ⟨_, _, y⟩ | ⟨y, _⟩
        · rw [y, s_AA_n (by omega), s_AA_s, s_AA_s, pk_us, pk_us]; exact ⟨rfl, rfl⟩
        · exact absurd ⟨z3, .inl rfl⟩ y
      | some d =>
        have hd := old d eo
        rw [eo] at hlk
        by_cases w : q < d
        · rw [show e_mn (some d) q = some q from if_pos w]
          rcases hlk with ⟨_, _, y⟩ | ⟨y, _⟩
          · rw [y, s_AA_n (by omega), s_AA_s, s_AA_s, pk_us, pk_us]; exact ⟨rfl, rfl⟩
          · exact absurd ⟨z3, .inr (.inl (nI_lt w (by omega)))⟩ y
        · rw [show e_mn (some d) q = some d from if_neg w]
          rcases hlk with ⟨_, y, _⟩ | ⟨_, y⟩
          · exfalso
            rcases y with y | y | y
            · exact zm_ne (show d < 2 ^ 31 by omega) y
            · exact nI_nlt (show d ≤ q by omega) (by omega) y
            · exact y.2.1 rfl
          · rw [y, F1.1, eo]; exact ⟨rfl, F1.2.1⟩
    · have is : e_is 0 (nx' X i) (nx' X j) s = false := by
        cases e : e_is 0 (nx' X i) (nx' X j) s
        · rfl
        · exact absurd ((is0 i j).mp e) z
      rw [t1_no is]
      rcases hlk with ⟨y0, _, y⟩ | ⟨_, y⟩
      · have ne : 24 * i + j ≠ 24 * a + b := fun w => z ⟨by have := hB.1; omega, by have := hB.1; omega, y0⟩
        rw [y, s_AA_n (by omega), s_AA_s, s_AA_s, s_AA_n (by omega), pk_un ne, pk_un ne]
        exact ⟨F1.1, F1.2.1⟩
      · rw [y]; exact ⟨F1.1, F1.2.1⟩
  have F : fr [] [] [16, 17] [] [] σ σ' := by
    rcases hlk with ⟨_, _, y⟩ | ⟨_, y⟩
    · rw [y]; exact fr_uA (fr_uA fr_rf (by simp)) (by simp)
    · rw [y]; exact fr_rf
  refine ⟨by rw [F.1 15 (by simp)]; exact g15, by rw [F.1 16 (by simp)]; exact h.2.1, gn, g10, gL_snoc gL hnm, gq_snoc gq (by rw [sq]; exact hq), by rw [F.2.2.2.1 1 (by simp), F.2.2.1 11 (by simp)]; exact g1, fun i hi => ?_, fun i j hi hj => ?_⟩
  · rw [F.2.2.1 12 (by simp), F.2.2.1 13 (by simp), F.2.2.1 14 (by simp), F.2.2.1 15 (by simp), eN, eT 3 _ _ (by omega)]
    exact g2 i hi
  · rw [F.2.2.1 18 (by simp), F.2.2.1 19 (by simp), F.2.2.1 20 (by simp), eT 4 _ _ (by omega), eT 1 _ _ (by omega), eT 1 _ _ (by omega), eT 2 _ _ (by omega)]
    obtain ⟨k1, k2⟩ := key i j hi hj
    exact ⟨k1, k2, (g3 i j hi hj).2.2⟩
theorem q_link {m : Bool} (h : BM σ0 f m X L σ) (hA : AtN m X a va) (hB : AtN m X b vb) (hq : q < 2 ^ 30) : ∃ σ', m11_links n (nI a) (nI b) (nI q) 0 σ = some σ' ∧ BM σ0 f m X (L ++ [(0, va, vb, vc, q)]) σ' ∧ fr [] [] [16, 17] [] [] σ σ' := by
  obtain ⟨σ', e1, e2⟩ := r_links (n := n) (p := nI q) hA.1 hB.1 false m (BM_6 h)
  rw [bI_f] at e1 e2
  have F : fr [] [] [16, 17] [] [] σ σ' := by
    rcases e2 with ⟨_, _, _, y⟩ | ⟨_, y⟩
    · rw [y]; exact fr_uA (fr_uA fr_rf (by simp)) (by simp)
    · rw [y]; exact fr_rf
  refine ⟨σ', by rw [L_0]; exact e1, ?_, F⟩
  cases m
  · rcases e2 with ⟨y, _⟩ | ⟨_, y⟩
    · cases y
    · rw [y]; exact h
  · obtain ⟨h6, h7, hf, hM⟩ := h
    refine ⟨by rw [F.1 6 (by simp)]; exact h6, by rw [F.1 7 (by simp)]; exact h7, hf, MPB_link hM hA hB hq _ rfl ?_⟩
    rcases e2 with ⟨_, y⟩ | ⟨y, z⟩
    · exact .inl y
    · exact .inr ⟨fun w => y ⟨rfl, w⟩, z⟩
theorem is_ab {s : St} (gn : X.Nodup) (g10 : ∀ v ∈ X, v < 10) (hA : AtN true X a va) (hB : AtN true X b vb) {kd : Nat} (hk : kd ≠ 2 ∧ kd ≠ 3) (sk : e_k s = kd) (sa : e_a s = va) (sb' : e_b s = vb) (i j : Nat) : e_is kd (nx' X i) (nx' X j) s = true ↔ i = a ∧ j = b ∧ a ≠ b := by
  obtain ⟨a1, a2⟩ := hA.2 rfl
  obtain ⟨b1, b2⟩ := hB.2 rfl
  have ia : ∀ i, nx' X i = va ↔ i = a := fun i => nx_inj gn g10 a1 a2
  have ib : ∀ i, nx' X i = vb ↔ i = b := fun i => nx_inj gn g10 b1 b2
  unfold e_is
  rw [decide_eq_true_eq, sk, sa, sb']
  constructor
  · rintro ⟨_, z1, z2, z3⟩
    have i1 := (ia i).mp z1.symm
    have j1 : j = b := by
      rcases z2 with y | y | y
      · exact absurd y hk.2
      · exact (ib j).mp y.symm
      · exact absurd y.1 hk.1
    refine ⟨i1, j1, fun z => ?_⟩
    rcases z3 with y | y
    · exact absurd y hk.2
    · exact y (by rw [i1, j1, z])
  · rintro ⟨z1, z2, z3⟩
    refine ⟨rfl, ((ia i).mpr z1).symm, .inr (.inl ((ib j).mpr z2).symm), .inr (fun z => ?_)⟩
    have := (ib i).mp (z.trans ((ib j).mpr z2))
    omega
theorem hnm2 {s : St} (hA : AtN true X a va) (hB : AtN true X b vb) (h2 : e_nm s = [va, vb]) : ∀ v ∈ e_nm s, v ∈ X := by
  intro w hw
  rw [h2] at hw
  rcases List.mem_cons.mp hw with z | z
  · rw [z]; exact At_mem hA rfl
  · rw [List.mem_singleton.mp z]; exact At_mem hB rfl
theorem eN_of {s : St} (sk : e_k s ≠ 2) (x : Nat) : e_net (L ++ [s]) x = e_net L x := by
  rw [e_net_snoc, show e_nt x s = false from decide_eq_false (fun z => sk z.1), Bool.or_false]
theorem eT_of {s : St} {kd x y : Nat} (hk : e_k s ≠ kd) : e_td (L ++ [s]) kd x y = e_td L kd x y := by rw [e_td_snoc, t1_no (is_kd hk)]
/-- two names of one host -/
theorem MPB_alias (h : MPB σ X L) (hA : AtN true X a va) (hB : AtN true X b vb) (hq : q < 2 ^ 30) (s : St) (hs : s = (1, va, vb, vc, q)) (hσ : σ' = if a = b then σ else uA (uA σ 19 (24 * a + b) (nI 1)) 19 (24 * b + a) (nI 1)) : MPB σ' X (L ++ [s]) := by
  obtain ⟨g15, g16, gn, g10, gL, gq, g1, g2, g3⟩ := id h
  have sk : e_k s = 1 := by rw [hs]; rfl
  have is1 := is_ab (kd := 1) gn g10 hA hB (by omega) sk (by rw [hs]; rfl) (by rw [hs]; rfl)
  have F : fr [] [] [19] [] [] σ σ' := by
    rw [hσ]; split
    · exact fr_rf
    · exact fr_uA (fr_uA fr_rf (by simp)) (by simp)
  have eT : ∀ kd x y, kd ≠ 1 → e_td (L ++ [s]) kd x y = e_td L kd x y := fun kd x y hk => eT_of (by rw [sk]; exact fun z => hk z.symm)
  refine ⟨by rw [F.1 15 (by simp)]; exact g15, by rw [F.1 16 (by simp)]; exact g16, gn, g10, gL_snoc gL (hnm2 hA hB (by rw [hs]; rfl)), gq_snoc gq (by rw [hs]; exact hq), by rw [F.2.2.2.1 1 (by simp), F.2.2.1 11 (by simp)]; exact g1, fun i hi => ?_, fun i j hi hj => ?_⟩
  · rw [F.2.2.1 12 (by simp), F.2.2.1 13 (by simp), F.2.2.1 14 (by simp), F.2.2.1 15 (by simp), eN_of (by omega), eT 3 _ _ (by omega)]
    exact g2 i hi
  · obtain ⟨k1, k2, k3, k4, k5⟩ := g3 i j hi hj
    rw [F.2.2.1 16 (by simp), F.2.2.1 17 (by simp), F.2.2.1 18 (by simp), F.2.2.1 20 (by simp), eT 0 _ _ (by omega), eT 4 _ _ (by omega), eT 2 _ _ (by omega)]
    refine ⟨k1, k2, k3, ?_, k5⟩
    have ha := hA.1
    have hb := hB.1
    rw [e_td_snoc, e_td_snoc, t1_z (show ¬ (1 = 0 ∨ 1 = 2) by omega), t1_z (show ¬ (1 = 0 ∨ 1 = 2) by omega), is1, is1]
    by_cases e : a = b
    · rw [hσ, if_pos e, k4]
      constructor
      · rintro (z | z)
        · exact .inl (.inl z)
        · exact .inr (.inl z)
      · rintro ((z | z) | (z | z))
        · exact .inl z
        · exact absurd e z.2.2
        · exact .inr z
        · exact absurd e z.2.2
    · rw [hσ, if_neg e, s_AA_s, s_AA_s]
      by_cases z1 : i = a ∧ j = b
      · rw [z1.1, z1.2]
        have : upd (upd (gA σ 19) (24 * a + b) (nI 1)) (24 * b + a) (nI 1) (24 * a + b) = nI 1 := by
          by_cases y : 24 * a + b = 24 * b + a
          · rw [y]; exact pk_us
          · rw [pk_un y]; exact pk_us
        rw [this]
        exact ⟨fun _ => .inl (.inr ⟨rfl, rfl, e⟩), fun _ => n10⟩
      · by_cases z2 : i = b ∧ j = a
        · rw [z2.1, z2.2, pk_us]
          exact ⟨fun _ => .inr (.inr ⟨rfl, rfl, e⟩), fun _ => n10⟩
        · rw [pk_un (show 24 * i + j ≠ 24 * b + a by omega), pk_un (show 24 * i + j ≠ 24 * a + b by omega), k4]
          constructor
          · rintro (z | z)
            · exact .inl (.inl z)
            · exact .inr (.inl z)
          · rintro ((z | z) | (z | z))
            · exact .inl z
            · exact absurd ⟨z.1, z.2.1⟩ z1
            · exact .inr z
            · exact absurd ⟨z.2.1, z.1⟩ z2
/-- a dead link -/
theorem MPB_dlink (h : MPB σ X L) (hA : AtN true X a va) (hB : AtN true X b vb) (hq : q < 2 ^ 30) (s : St) (hs : s = (4, va, vb, vc, q)) (hσ : σ' = uA σ 18 (24 * a + b) (nI 1)) : MPB σ' X (L ++ [s]) := by
  obtain ⟨g15, g16, gn, g10, gL, gq, g1, g2, g3⟩ := id h
  have sk : e_k s = 4 := by rw [hs]; rfl
  have is1 := is_ab (kd := 4) gn g10 hA hB (by omega) sk (by rw [hs]; rfl) (by rw [hs]; rfl)
  have F : fr [] [] [18] [] [] σ σ' := by
    rw [hσ]; exact fr_uA fr_rf (by simp)
  have eT : ∀ kd x y, kd ≠ 4 → e_td (L ++ [s]) kd x y = e_td L kd x y := fun kd x y hk => eT_of (by rw [sk]; exact fun z => hk z.symm)
  refine ⟨by rw [F.1 15 (by simp)]; exact g15, by rw [F.1 16 (by simp)]; exact g16, gn, g10, gL_snoc gL (hnm2 hA hB (by rw [hs]; rfl)), gq_snoc gq (by rw [hs]; exact hq), by rw [F.2.2.2.1 1 (by simp), F.2.2.1 11 (by simp)]; exact g1, fun i hi => ?_, fun i j hi hj => ?_⟩
  · rw [F.2.2.1 12 (by simp), F.2.2.1 13 (by simp), F.2.2.1 14 (by simp), F.2.2.1 15 (by simp), eN_of (by omega), eT 3 _ _ (by omega)]
    exact g2 i hi
  · obtain ⟨k1, k2, k3, k4, k5⟩ := g3 i j hi hj
    rw [F.2.2.1 16 (by simp), F.2.2.1 17 (by simp), F.2.2.1 19 (by simp), F.2.2.1 20 (by simp), eT 0 _ _ (by omega), eT 1 _ _ (by omega), eT 1 _ _ (by omega), eT 2 _ _ (by omega)]
    refine ⟨k1, k2, fun ij => ?_, k4, k5⟩
    have ha := hA.1
    have hb := hB.1
    rw [e_td_snoc, t1_z (show ¬ (4 = 0 ∨ 4 = 2) by omega), is1, hσ, s_AA_s]
    by_cases z1 : i = a ∧ j = b
    · rw [z1.1, z1.2, pk_us]
      exact ⟨fun _ => .inr ⟨rfl, rfl, fun z => ij (by rw [z1.1, z1.2, z])⟩, fun _ => n10⟩
    · rw [pk_un (show 24 * i + j ≠ 24 * a + b by omega), k3 ij]
      exact ⟨fun z => .inl z, fun z => z.elim id (fun y => absurd ⟨y.1, y.2.1⟩ z1)⟩
/-- a dead host -/
theorem MPB_dead (h : MPB σ X L) (hA : AtN true X a va) (hq : q < 2 ^ 30) (s : St) (hs : s = (3, va, vb, vc, q)) (hσ : σ' = uA (uA σ 14 a (nI 1)) 15 a (nI 0)) : MPB σ' X (L ++ [s]) := by
  obtain ⟨g15, g16, gn, g10, gL, gq, g1, g2, g3⟩ := id h
  obtain ⟨a1, a2⟩ := hA.2 rfl
  have ia : ∀ i, nx' X i = va ↔ i = a := fun i => nx_inj gn g10 a1 a2
  have sk : e_k s = 3 := by rw [hs]; rfl
  have sa : e_a s = va := by rw [hs]; rfl
  have F : fr [] [] [14, 15] [] [] σ σ' := by
    rw [hσ]; exact fr_uA (fr_uA fr_rf (by simp)) (by simp)
  have eT : ∀ kd x y, kd ≠ 3 → e_td (L ++ [s]) kd x y = e_td L kd x y := fun kd x y hk => eT_of (by rw [sk]; exact fun z => hk z.symm)
  refine ⟨by rw [F.1 15 (by simp)]; exact g15, by rw [F.1 16 (by simp)]; exact g16, gn, g10, gL_snoc gL ?_, gq_snoc gq (by rw [hs]; exact hq), by rw [F.2.2.2.1 1 (by simp), F.2.2.1 11 (by simp)]; exact g1, fun i hi => ?_, fun i j hi hj => ?_⟩
  · intro w hw
    rw [show e_nm s = [va] by rw [hs]; rfl] at hw
    rw [List.mem_singleton.mp hw]; exact At_mem hA rfl
  · obtain ⟨k1, k2, k3, k4⟩ := g2 i hi
    rw [F.2.2.1 12 (by simp), F.2.2.1 13 (by simp), eN_of (by omega), e_td_snoc, t1_z (show ¬ (3 = 0 ∨ 3 = 2) by omega), hσ, s_AA_n (by omega), s_AA_s, s_AA_s, s_AA_n (by omega)]
    have is3 : e_is 3 (nx' X i) 0 s = true ↔ i = a := by
      unfold e_is
      rw [decide_eq_true_eq, sk, sa]
      exact ⟨fun z => (ia i).mp z.2.1.symm, fun z => ⟨rfl, ((ia i).mpr z).symm, .inl rfl, .inl rfl⟩⟩
    rw [is3]
    refine ⟨k1, k2, ?_, ?_⟩
    · by_cases z : i = a
      · rw [z, pk_us]; exact ⟨fun _ => .inr rfl, fun _ => n10⟩
      · rw [pk_un z, k3]; exact ⟨fun y => .inl y, fun y => y.elim id (fun w => absurd w z)⟩
    · by_cases z : i = a
      · rw [z, pk_us]
      · rw [pk_un z]; exact k4
  · rw [F.2.2.1 16 (by simp), F.2.2.1 17 (by simp), F.2.2.1 18 (by simp), F.2.2.1 19 (by simp), F.2.2.1 20 (by simp), eT 0 _ _ (by omega), eT 4 _ _ (by omega), eT 1 _ _ (by omega), eT 1 _ _ (by omega), eT 2 _ _ (by omega)]
    exact g3 i j hi hj
/-- a net -/
theorem MPB_net {b c : Nat} {S : Int32} (h : MPB σ X L) (hA : AtN true X a va) (hB : AtN true X b vb) (hC : AtN true X c vc) (hq : q < 2 ^ 30) (s : St) (hs : s = (2, va, vb, vc, q)) (hS : ∀ i, i < 24 → (bt S i = true ↔ i = b ∨ i = c)) (F : fr [] [] [12, 13, 20] [] [] σ σ') (e12 : gA σ' 12 = upd (gA σ 12) a (nI 1)) (e13 : gA σ' 13 = upd (gA σ 13) a (nI 1)) (p1 : ∀ m, m < X.length → m ≠ a → bt S m = true → (gA σ 20 (24 * m + a) = zm ∨ ¬ gA σ 20 (24 * m + a) ≤ nI q) → gA σ' 20 (24 * m + a) = nI q) (p2 : ∀ i, ¬ (∃ m, m < X.length ∧ i = 24 * m + a ∧ m ≠ a ∧ bt S m = true ∧ (gA σ 20 (24 * m + a) = zm ∨ ¬ gA σ 20 (24 * m + a) ≤ nI q)) → gA σ' 20 i = gA σ 20 i) : MPB σ' X (L ++ [s]) := by
  obtain ⟨g15, g16, gn, g10, gL, gq, g1, g2, g3⟩ := id h
  have l10 := MPB_10 h
  obtain ⟨a1, a2⟩ := hA.2 rfl
  obtain ⟨b1, b2⟩ := hB.2 rfl
  obtain ⟨c1, c2⟩ := hC.2 rfl
  have ia : ∀ i, nx' X i = va ↔ i = a := fun i => nx_inj gn g10 a1 a2
  have ib : ∀ i, nx' X i = vb ↔ i = b := fun i => nx_inj gn g10 b1 b2
  have ic : ∀ i, nx' X i = vc ↔ i = c := fun i => nx_inj gn g10 c1 c2
  have sk : e_k s = 2 := by rw [hs]; rfl
  have sa : e_a s = va := by rw [hs]; rfl
  have sb' : e_b s = vb := by rw [hs]; rfl
  have sc : e_c s = vc := by rw [hs]; rfl
  have eT : ∀ kd x y, kd ≠ 2 → e_td (L ++ [s]) kd x y = e_td L kd x y := fun kd x y hk => eT_of (by rw [sk]; exact fun z => hk z.symm)
  have eN : ∀ i, e_net (L ++ [s]) (nx' X i) = true ↔ e_net L (nx' X i) = true ∨ i = a := by
    intro i
    rw [e_net_snoc, Bool.or_eq_true]
    unfold e_nt
    rw [decide_eq_true_eq, sk, sa]
    exact or_congr Iff.rfl ⟨fun z => (ia i).mp z.2.symm, fun z => ⟨rfl, ((ia i).mpr z).symm⟩⟩
  have up1 : ∀ (R : Nat → Int32) i P, (R i ≠ nI 0 ↔ P) → (upd R a (nI 1) i ≠ nI 0 ↔ P ∨ i = a) := by
    intro R i P hP
    by_cases z : i = a
    · rw [z, pk_us]; exact ⟨fun _ => .inr rfl, fun _ => n10⟩
    · rw [pk_un z, hP]; exact ⟨fun y => .inl y, fun y => y.elim id (fun w => absurd w z)⟩
  refine ⟨by rw [F.1 15 (by simp)]; exact g15, by rw [F.1 16 (by simp)]; exact g16, gn, g10, gL_snoc gL ?_, gq_snoc gq (by rw [hs]; exact hq), by rw [F.2.2.2.1 1 (by simp), F.2.2.1 11 (by simp)]; exact g1, fun i hi => ?_, fun i j hi hj => ?_⟩
  · intro w hw
    rw [show e_nm s = [va, vb, vc] by rw [hs]; rfl] at hw
    rcases List.mem_cons.mp hw with z | z
    · rw [z]; exact At_mem hA rfl
    · rcases List.mem_cons.mp z with y | y
      · rw [y]; exact At_mem hB rfl
      · rw [List.mem_singleton.mp y]; exact At_mem hC rfl
  · obtain ⟨k1, k2, k3, k4⟩ := g2 i hi
    rw [e12, e13, F.2.2.1 14 (by simp), F.2.2.1 15 (by simp), eN, eT 3 _ _ (by omega)]
    exact ⟨up1 _ _ _ k1, up1 _ _ _ k2, k3, k4⟩
  · obtain ⟨k1, k2, k3, k4, k5⟩ := g3 i j hi hj
    rw [F.2.2.1 16 (by simp), F.2.2.1 17 (by simp), F.2.2.1 18 (by simp), F.2.2.1 19 (by simp), eT 0 _ _ (by omega), eT 4 _ _ (by omega), eT 1 _ _ (by omega), eT 1 _ _ (by omega)]
    refine ⟨k1, k2, k3, k4, ?_⟩
    have is2 : e_is 2 (nx' X j) (nx' X i) s = true ↔ j = a ∧ (i = b ∨ i = c) ∧ i ≠ a := by
      unfold e_is
      rw [decide_eq_true_eq, sk, sa, sb', sc]
      constructor
      · rintro ⟨_, z1, z2, z3⟩
        have j1 := (ia j).mp z1.symm
        refine ⟨j1, ?_, fun z => ?_⟩
        · rcases z2 with y | y | y
          · omega
          · exact .inl ((ib i).mp y.symm)
          · exact .inr ((ic i).mp y.2.symm)
        · rcases z3 with y | y
          · omega
          · exact y (by rw [← j1] at z; rw [z])
      · rintro ⟨z1, z2, z3⟩
        refine ⟨rfl, ((ia j).mpr z1).symm, ?_, .inr (fun z => ?_)⟩
        · rcases z2 with y | y
          · exact .inr (.inl ((ib i).mpr y).symm)
          · exact .inr (.inr ⟨rfl, ((ic i).mpr y).symm⟩)
        · exact z3 ((ia i).mp (z.symm.trans ((ia j).mpr z1)))
    have ct : e_ct 2 s = q := by unfold e_ct; rw [if_pos (.inr rfl), hs]; rfl
    rw [e_td_snoc]
    by_cases z : j = a ∧ (i = b ∨ i = c) ∧ i ≠ a
    · obtain ⟨z1, z2, z3⟩ := z
      rw [show e_t1 2 (nx' X j) (nx' X i) (e_td L 2 (nx' X j) (nx' X i)) s = e_mn (e_td L 2 (nx' X j) (nx' X i)) q by unfold e_t1; rw [if_pos (is2.mpr ⟨z1, z2, z3⟩), ct]]
      subst z1
      have il : i < X.length := by rcases z2 with y | y <;> omega
      have hbt := (hS i hi).mpr z2
      have old := td_B (kd := 2) (x := nx' X j) (y := nx' X i) gq
      cases eo : e_td L 2 (nx' X j) (nx' X i) with
      | none =>
        rw [eo] at k5
        rw [p1 i il z3 hbt (.inl k5)]; rfl
      | some d =>
        have hd := old d eo
        rw [eo] at k5
        have k5' : gA σ 20 (24 * i + j) = nI d := k5
        by_cases w : q < d
        · rw [show e_mn (some d) q = some q from if_pos w, p1 i il z3 hbt (.inr (by rw [k5']; exact nI_ge w (by omega)))]; rfl
        · rw [show e_mn (some d) q = some d from if_neg w, p2 _ ?_, k5]
          rintro ⟨m, m1, m2, m3, m4, m5⟩
          have : m = i := by omega
          subst this
          rcases m5 with y | y
          · exact zm_ne (show d < 2 ^ 31 by omega) (k5'.symm.trans y)
          · rw [k5', cle_t (show d ≤ q by omega) (by omega)] at y; exact y trivial
    · have is : e_is 2 (nx' X j) (nx' X i) s = false := by
        cases e : e_is 2 (nx' X j) (nx' X i) s
        · rfl
        · exact absurd (is2.mp e) z
      rw [t1_no is, p2 _ ?_, k5]
      rintro ⟨m, m1, m2, m3, m4, m5⟩
      have ha := hA.1
      have e1 : m = i := by omega
      have e2 : j = a := by omega
      subst e1
      exact z ⟨e2, (hS m hi).mp m4, m3⟩
end P97r
