/-! THE NODE BY WHICH A PART IS KNOWN -/
theorem shc8 : ∀ i, i < 8 → (((nI (8 * i)).toInt64 &&& 63).toBitVec.smod 64).toNat = 8 * i := by decide +kernel
theorem nm_at {v : Int64} (hv : isNm v) {i : Nat} (hi : i < 8) : ((v >>> ((nI (8 * i)).toInt64 &&& 63)) &&& 255).toInt32 = nI ((nL v).getD i 0) := by
  obtain ⟨s1, s2, s3, s4⟩ := nL_sp hv
  have hb := nL_b hv
  have hlt := pkL_7 (nL v) (fun d hd => (hb d hd).2) s3
  have hd := Nat.div_le_self (pkL (nL v)) (2 ^ (8 * i))
  have e : v >>> ((nI (8 * i)).toInt64 &&& 63) = lN (pkL (nL v) / 2 ^ (8 * i)) := by
    have := shr63 (a := pkL (nL v)) (shc8 i hi) hlt
    rw [← s1] at this; exact this
  rw [e, show (255 : Int64) = lN (2 ^ 8 - 1) from rfl, wb_mask (by omega) (by omega), lN_i, show (2 : Nat) ^ (8 * i) = 256 ^ i by rw [Nat.pow_mul], ← pkL_at _ i (fun d hd => by have := hb d hd; omega)]
/-- a part of a text ends with a name -/
def EW (tp : List Nat) (b e : Nat) (ds : List Nat) : Prop := ds.length ≤ e - b ∧ ∀ i, i < ds.length → cd tp (e - ds.length + i) = ds.getD i 0
section P93
variable {n b e : Nat} {σ σc σr : ej_S} {tp : List Nat}
theorem x_lengthOfName_2 {a : Nat} (hG : relG σ σr) (ha : a < NN σr) : ∀ (k i : Nat), i ≤ (nL (gB σr 1 a)).length → (nL (gB σr 1 a)).length - i < k → m2_lengthOfName_2 n k (nI a) (nI i) σ = some (nI (nL (gB σr 1 a)).length, σ) := by
  have hv := G_nm hG ha
  obtain ⟨s1, s2, s3, s4⟩ := nL_sp hv
  have hb := nL_b hv
  have hlt := pkL_7 _ (fun d hd => (hb d hd).2) s3
  intro k
  induction k with
  | zero => intro i _ h; omega
  | succ k ih =>
    intro i hi hk
    rw [u_2_lengthOfName_2, L_8]
    rcases Nat.lt_or_ge i 8 with q | q
    · have nb : m10_nameByte n (gB σr 1 a) (nI i) σ = some (nI ((nL (gB σr 1 a)).getD i 0), σ) := by
        have := x_nameByte (n := n) (σ := σ) (v := pkL (nL (gB σr 1 a))) (i := i) (by omega) q
        rw [← s1, pkL_at _ _ (fun d hd => by have := hb d hd; omega)] at this
        exact this
      rw [ile_f q (by omega), x_nameOf hG ha, ej_bl_s, nb, ej_bi_s, L_0]
      rcases Nat.eq_or_lt_of_le hi with z | z
      · have e0 : (nL (gB σr 1 a)).getD i 0 = 0 := by rw [z]; simp
        rw [e0, if_pos rfl, z]
      · have e0 : (nL (gB σr 1 a)).getD i 0 = (nL (gB σr 1 a))[i] := by rw [List.getD_eq_getElem?_getD, List.getElem?_eq_getElem z]; rfl
        have hm := hb _ (List.getElem_mem z)
        rw [e0, ieq_f (by omega) (by omega) (by omega), L_1, nI_add, ej_nm_e]
        exact ih (i + 1) z (by omega)
    · rw [ile_t q (by omega), show i = (nL (gB σr 1 a)).length by omega]
theorem x_lengthOfName {a : Nat} (hn : 2000 < n) (hG : relG σ σr) (ha : a < NN σr) : m2_lengthOfName n (nI a) σ = some (nI (nL (gB σr 1 a)).length, σ) := by
  have := (nL_sp (G_nm hG ha)).2.2.1
  unfold m2_lengthOfName
  rw [L_0]
  exact x_lengthOfName_2 hG ha n 0 (Nat.zero_le _) (by omega)
theorem r_nameLength_9 : ∀ (ds : List Nat) (k i : Nat), (∀ d ∈ ds, 0 < d ∧ d < 128) → ds.length ≤ 8 → ds.length < k → m11_nameLength_9 n k (nI i) (lN (pkL ds)) σ = some (nI (i + ds.length), σ) := by
  intro ds
  induction ds with
  | nil =>
    intro k i _ _ hk
    obtain ⟨k, rfl⟩ : ∃ k', k = k' + 1 := ⟨k - 1, by have : ([] : List Nat).length = 0 := rfl; omega⟩
    rw [u_11_nameLength_9, if_pos ((cmp_eq (lN (pkL [])) 0).mpr rfl)]; rfl
  | cons d ds ih =>
    intro k i hd h8 hk
    rw [List.length_cons] at h8 hk
    obtain ⟨k, rfl⟩ : ∃ k', k = k' + 1 := ⟨k - 1, by omega⟩
    have hlt := pkL_7 (d :: ds) (fun x hx => (hd x hx).2) (by rw [List.length_cons]; exact h8)
    have d0 := hd d List.mem_cons_self
    have e1 : pkL (d :: ds) = d + 256 * pkL ds := rfl
    have hne : ¬ lg_cmp (lN (pkL (d :: ds))) 0 = 0 := by
      intro z
      have := (cmp_eq _ _).mp z
      have := (fb_lN_inj hlt (show 0 < 2 ^ 63 by omega)).mp this
      omega
    have es : lN (pkL (d :: ds)) >>> ((8 : Int32).toInt64 &&& 63) = lN (pkL ds) := by
      rw [shr63 (d := 8) (by decide) hlt, show pkL (d :: ds) / 2 ^ 8 = pkL ds by omega]
    rw [u_11_nameLength_9, if_neg hne, L_1, nI_add, ej_nm_e, es, ej_nm_e, ih k (i + 1) (fun x hx => hd x (List.mem_cons_of_mem _ hx)) (by omega) (by omega), List.length_cons, show i + 1 + ds.length = i + (ds.length + 1) by omega]
theorem r_nameLength {a : Nat} (hn : 2000 < n) (hN : hNm σ) (ha : a < NN σ) : m11_nameLength n (nI a) σ = some (nI (nL (gB σ 1 a)).length, σ) := by
  have h24 := hN.1
  have hv := hN.2 a ha
  obtain ⟨s1, s2, s3, s4⟩ := nL_sp hv
  unfold m11_nameLength
  rw [ck_t (by omega) (by omega), nI_clamp (by omega), ej_nm_e, L_0]
  have := r_nameLength_9 (n := n) (σ := σ) (nL (gB σ 1 a)) n 0 (nL_b hv) s3 (by omega)
  rw [← s1, Nat.zero_add] at this; exact this
theorem x_endsWith_21 {a : Nat} (hG : relG σ σr) (ha : a < NN σr) (hT : TX σ 0 tp) (he : e ≤ tp.length) (hl : (nL (gB σr 1 a)).length ≤ e) : ∀ (k i : Nat), i ≤ (nL (gB σr 1 a)).length → (nL (gB σr 1 a)).length - i < k → ∃ g, m2_endsWithName_21 n 0 k (nI e) (nI a) (nI (nL (gB σr 1 a)).length) (nI i) σ = some (bI g, σ) ∧ (g = true ↔ ∀ j, i ≤ j → j < (nL (gB σr 1 a)).length → cd tp (e - (nL (gB σr 1 a)).length + j) = (nL (gB σr 1 a)).getD j 0) := by
  have hv := G_nm hG ha
  obtain ⟨s1, s2, s3, s4⟩ := nL_sp hv
  have hb := nL_b hv
  have hlt := pkL_7 _ (fun d hd => (hb d hd).2) s3
  have ht := TX_len hT
  intro k
  induction k with
  | zero => intro i _ h; omega
  | succ k ih =>
    intro i hi hk
    rw [u_2_endsWithName_21]
    rcases Nat.eq_or_lt_of_le hi with z | z
    · rw [z, ile_t (Nat.le_refl _) (by omega)]
      exact ⟨true, rfl, ⟨fun _ j h1 h2 => by omega, fun _ => rfl⟩⟩
    · have nb : m10_nameByte n (gB σr 1 a) (nI i) σ = some (nI ((nL (gB σr 1 a)).getD i 0), σ) := by
        have := x_nameByte (n := n) (σ := σ) (v := pkL (nL (gB σr 1 a))) (i := i) (by omega) (by omega)
        rw [← s1, pkL_at _ _ (fun d hd => by have := hb d hd; omega)] at this
        exact this
      have e0 : (nL (gB σr 1 a)).getD i 0 = (nL (gB σr 1 a))[i] := by rw [List.getD_eq_getElem?_getD, List.getElem?_eq_getElem z]; rfl
      have hm := hb _ (List.getElem_mem z)
      have hc := cd_b hT.2.2.2 (i := e - (nL (gB σr 1 a)).length + i) (by omega)
      rw [ile_f z (by omega), nI_m2 hl, nI_add, x_byteAt hT (by omega), ej_bi_s, x_nameOf hG ha, ej_bl_s, nb, ej_bi_s, cI_lt hc]
      by_cases g : cd tp (e - (nL (gB σr 1 a)).length + i) = (nL (gB σr 1 a)).getD i 0
      · rw [ieq_t g, L_1, nI_add, ej_nm_e]
        obtain ⟨g', e1, e2⟩ := ih (i + 1) z (by omega)
        refine ⟨g', e1, e2.trans ⟨fun w j h1 h2 => ?_, fun w j h1 h2 => w j (by omega) h2⟩⟩
        rcases Nat.eq_or_lt_of_le h1 with y | y
        · subst y; exact g
        · exact w j y h2
      · rw [ieq_f g (by omega) (by omega)]
        exact ⟨false, rfl, ⟨fun w => (by cases w), fun w => absurd (w i (Nat.le_refl _) z) g⟩⟩
theorem x_endsWith {a : Nat} (hn : 2000 < n) (hG : relG σ σr) (ha : a < NN σr) (hT : TX σ 0 tp) (he : e ≤ tp.length) (hbe : b ≤ e) : ∃ g, m2_endsWithName n 0 (nI b) (nI e) (nI a) σ = some (bI g, σ) ∧ (g = true ↔ EW tp b e (nL (gB σr 1 a))) := by
  have h8 := (nL_sp (G_nm hG ha)).2.2.1
  have ht := TX_len hT
  unfold m2_endsWithName EW
  rw [x_lengthOfName hn hG ha, ej_bi_s, nI_m2 hbe]
  rcases Nat.lt_or_ge (e - b) (nL (gB σr 1 a)).length with q | q
  · rw [ile_f q (by omega)]
    exact ⟨false, rfl, ⟨fun w => (by cases w), fun w => by omega⟩⟩
  · rw [ile_t q (by omega), L_0]
    obtain ⟨g, e1, e2⟩ := x_endsWith_21 (n := n) hG ha hT he (by omega) n 0 (Nat.zero_le _) (by omega)
    exact ⟨g, e1, e2.trans ⟨fun w => ⟨q, fun i hi => w i (Nat.zero_le _) hi⟩, fun w j _ hj => w.2 j hj⟩⟩
theorem r_endsWith_25 {a : Nat} (hN : hNm σ) (ha : a < NN σ) (hT : RTX σ 4 tp) (he : e ≤ tp.length) (hl : (nL (gB σ 1 a)).length ≤ e) : ∀ (k i : Nat) (g : Bool), i ≤ (nL (gB σ 1 a)).length → (nL (gB σ 1 a)).length - i < k → ∃ g', m11_endsWith_25 n k (nI e) (nI a) (nI (nL (gB σ 1 a)).length) (bI g) (nI i) σ = some (bI g', σ) ∧ (g' = true ↔ g = true ∧ ∀ j, i ≤ j → j < (nL (gB σ 1 a)).length → cd tp (e - (nL (gB σ 1 a)).length + j) = (nL (gB σ 1 a)).getD j 0) := by
  have h24 := hN.1
  have hv := hN.2 a ha
  obtain ⟨s1, s2, s3, s4⟩ := nL_sp hv
  have hb := nL_b hv
  have ht := hT.2.1
  intro k
  induction k with
  | zero => intro i g _ h; omega
  | succ k ih =>
    intro i g hi hk
    rw [u_11_endsWith_25]
    rcases Nat.eq_or_lt_of_le hi with z | z
    · rw [z, ile_t (Nat.le_refl _) (by omega), bz_b]
      exact ⟨g, rfl, ⟨fun w => ⟨w, fun j h1 h2 => by omega⟩, fun w => w.1⟩⟩
    · rw [ile_f z (by omega)]
      cases g
      · rw [bI_f, L_0, if_pos rfl, bz_n0]
        exact ⟨false, rfl, ⟨fun w => (by cases w), fun w => (by cases w.1)⟩⟩
      · have e0 : (nL (gB σ 1 a)).getD i 0 = (nL (gB σ 1 a))[i] := by rw [List.getD_eq_getElem?_getD, List.getElem?_eq_getElem z]; rfl
        have hm := hb _ (List.getElem_mem z)
        have hc := cd_b hT.2.2.2 (i := e - (nL (gB σ 1 a)).length + i) (by omega)
        rw [bI_t, L_0, if_neg n10, L_2400, nI_add, nI_m2 (show (nL (gB σ 1 a)).length ≤ 2400 + e by omega), nI_add, ck_t (by omega) (by omega), nI_clamp (by omega), ck_t (by omega) (by omega), nI_clamp (by omega), show 2400 + e - (nL (gB σ 1 a)).length + i = 600 * 4 + (e - (nL (gB σ 1 a)).length + i) by omega, hT.2.2.1 _ (by omega), L_8, pk_mul, nm_at hv (by omega)]
        by_cases g : cd tp (e - (nL (gB σ 1 a)).length + i) = (nL (gB σ 1 a)).getD i 0
        · rw [ieq_t g, L_1, nI_add, ej_nm_e]
          obtain ⟨g', e1, e2⟩ := ih (i + 1) true z (by omega)
          refine ⟨g', e1, e2.trans ⟨fun w => ⟨rfl, fun j h1 h2 => ?_⟩, fun w => ⟨rfl, fun j h1 h2 => w.2 j (by omega) h2⟩⟩⟩
          rcases Nat.eq_or_lt_of_le h1 with y | y
          · subst y; exact g
          · exact w.2 j y h2
        · rw [ieq_f g (by omega) (by omega), L_1, nI_add, ej_nm_e]
          obtain ⟨g', e1, e2⟩ := ih (i + 1) false z (by omega)
          refine ⟨g', e1, e2.trans ⟨fun w => (by cases w.1), fun w => absurd (w.2 i (Nat.le_refl _) z) g⟩⟩
theorem r_endsWith {a : Nat} (hn : 2000 < n) (hN : hNm σ) (ha : a < NN σ) (hT : RTX σ 4 tp) (he : e ≤ tp.length) (hbe : b ≤ e) : ∃ g, m11_endsWith n (nI b) (nI e) (nI a) σ = some (bI g, σ) ∧ (g = true ↔ EW tp b e (nL (gB σ 1 a))) := by
  have h8 := (nL_sp (hN.2 a ha)).2.2.1
  have ht := hT.2.1
  unfold m11_endsWith EW
  rw [r_nameLength hn hN ha, ej_bi_s, nI_m2 hbe]
  rcases Nat.lt_or_ge (e - b) (nL (gB σ 1 a)).length with q | q
  · rw [ilt_t q (by omega)]
    -- nothing is looked at
    have st : ∀ (k : Nat) (i : Nat), 0 < k → m11_endsWith_25 n k (nI e) (nI a) (nI (nL (gB σ 1 a)).length) 0 (nI i) σ = some (nI 0, σ) := by
      intro k i hk
      obtain ⟨k, rfl⟩ : ∃ k', k = k' + 1 := ⟨k - 1, by omega⟩
      rw [u_11_endsWith_25, L_0, if_pos rfl, bz_n0, ite_self]
    exact ⟨false, st n 0 (by omega), ⟨fun w => (by cases w), fun w => by omega⟩⟩
  · rw [ilt_f q (by omega)]
    obtain ⟨g, e1, e2⟩ := r_endsWith_25 (n := n) hN ha hT he (by omega) n 0 true (Nat.zero_le _) (by omega)
    exact ⟨g, e1, e2.trans ⟨fun w => ⟨q, fun i hi => w.2 i (Nat.zero_le _) hi⟩, fun w => ⟨rfl, fun j _ hj => w.2 j hj⟩⟩⟩
end P93
