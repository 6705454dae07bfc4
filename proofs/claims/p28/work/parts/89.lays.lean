/-! ROUTES laid out; names put on the out -/
section P89
variable {n : Nat} {σ : ej_S}
theorem r_lays_21 {rt R : Nat → Nat} : ∀ (j k : Nat) (σ : ej_S), (∀ i, i < j → gA σ 25 (rt (i + 1)) = nI (rt i)) → (∀ i, i ≤ j → rt i < 96) → j ≤ 95 → j + 1 < k → ∃ σ', m11_lays_21 n k (nI (rt j)) (nI j) σ = some σ' ∧ fr [] [] [27] [] [] σ σ' ∧ (∀ i, i ≤ j → gA σ' 27 i = nI (rt i)) ∧ ∀ i, j < i → gA σ' 27 i = gA σ 27 i := by
  intro j
  induction j with
  | zero =>
    intro k σ _ h2 _ hk
    obtain ⟨k, rfl⟩ : ∃ k', k = k' + 1 := ⟨k - 1, by omega⟩
    obtain ⟨k, rfl⟩ : ∃ k', k = k' + 1 := ⟨k - 1, by omega⟩
    have hq := h2 0 (Nat.le_refl _)
    rw [u_11_lays_21, L_0, ilt_f (Nat.zero_le _) (by omega), ck_t (by omega) (by omega), nI_clamp (by omega), ej_nm_e, ck_t hq (by omega), ej_nm_e, L_m1, dn_s (by omega), ej_nm_e, u_11_lays_21, L_0, show dn 0 = zm from rfl, if_pos (zm_lt (by omega))]
    refine ⟨_, rfl, fr_uA fr_rf (by simp), fun i hi => ?_, fun i hi => ?_⟩
    · have : i = 0 := by omega
      rw [this, s_AA_s, pk_us]
    · rw [s_AA_s, pk_un (by omega)]
  | succ j ih =>
    intro k σ h1 h2 h3 hk
    obtain ⟨k, rfl⟩ : ∃ k', k = k' + 1 := ⟨k - 1, by omega⟩
    have hq := h2 (j + 1) (Nat.le_refl _)
    rw [u_11_lays_21, L_0, ilt_f (Nat.zero_le _) (by omega), ck_t (by omega) (by omega), nI_clamp (by omega), ej_nm_e, ck_t hq (by omega), nI_clamp (by omega), ej_nm_e, L_m1, dn_s (by omega), ej_nm_e, s_AA_n (by omega), h1 j (by omega)]
    obtain ⟨σ', e1, f1, p1, p2⟩ := ih k (uA σ 27 (j + 1) (nI (rt (j + 1)))) (fun i hi => by rw [s_AA_n (by omega)]; exact h1 i (by omega)) (fun i hi => h2 i (by omega)) (by omega) (by omega)
    refine ⟨σ', e1, fr_tr (fr_uA fr_rf (by simp)) f1, fun i hi => ?_, fun i hi => ?_⟩
    · rcases Nat.eq_or_lt_of_le hi with z | z
      · rw [z, p2 (j + 1) (by omega), s_AA_s, pk_us]
      · exact p1 i (by omega)
    · rw [p2 i (by omega), s_AA_s, pk_un (by omega)]
theorem x_layOut_15 {rt : Nat → Nat} {L : Nat} : ∀ (j k : Nat) (σ : ej_S), (∀ i, i < j → gA σ 27 (rt (i + 1)) = nI (rt i)) → (∀ i, i ≤ j → rt i < 96) → j ≤ 95 → j + 1 < k → ∃ σ', m9_layOut_15 n k (nI (rt j)) (nI L) (nI j) σ = some (nI L, σ') ∧ fr [] [] [31] [] [] σ σ' ∧ (∀ i, i ≤ j → gA σ' 31 i = nI (rt i)) ∧ ∀ i, j < i → gA σ' 31 i = gA σ 31 i := by
  intro j
  induction j with
  | zero =>
    intro k σ _ h2 _ hk
    obtain ⟨k, rfl⟩ : ∃ k', k = k' + 1 := ⟨k - 1, by omega⟩
    obtain ⟨k, rfl⟩ : ∃ k', k = k' + 1 := ⟨k - 1, by omega⟩
    have hq := h2 0 (Nat.le_refl _)
    rw [u_9_layOut_15, L_0, L_96, ilt_f (Nat.zero_le _) (by omega), ile_f (by omega) (by omega), ilt_f (Nat.zero_le _) (by omega), ile_f hq (by omega), ck_t (by omega) (by omega), nI_clamp (by omega), ej_nm_e, ck_t hq (by omega), ej_nm_e, L_m1, dn_s (by omega), ej_nm_e, u_9_layOut_15, L_0, show dn 0 = zm from rfl, if_pos (zm_lt (by omega))]
    refine ⟨_, rfl, fr_uA fr_rf (by simp), fun i hi => ?_, fun i hi => ?_⟩
    · have : i = 0 := by omega
      rw [this, s_AA_s, pk_us]
    · rw [s_AA_s, pk_un (by omega)]
  | succ j ih =>
    intro k σ h1 h2 h3 hk
    obtain ⟨k, rfl⟩ : ∃ k', k = k' + 1 := ⟨k - 1, by omega⟩
    have hq := h2 (j + 1) (Nat.le_refl _)
    rw [u_9_layOut_15, L_0, L_96, ilt_f (Nat.zero_le _) (by omega), ile_f (by omega) (by omega), ilt_f (Nat.zero_le _) (by omega), ile_f hq (by omega), ck_t (by omega) (by omega), nI_clamp (by omega), ej_nm_e, ck_t hq (by omega), nI_clamp (by omega), ej_nm_e, L_m1, dn_s (by omega), ej_nm_e, s_AA_n (by omega), h1 j (by omega)]
    obtain ⟨σ', e1, f1, p1, p2⟩ := ih k (uA σ 31 (j + 1) (nI (rt (j + 1)))) (fun i hi => by rw [s_AA_n (by omega)]; exact h1 i (by omega)) (fun i hi => h2 i (by omega)) (by omega) (by omega)
    refine ⟨σ', e1, fr_tr (fr_uA fr_rf (by simp)) f1, fun i hi => ?_, fun i hi => ?_⟩
    · rcases Nat.eq_or_lt_of_le hi with z | z
      · rw [z, p2 (j + 1) (by omega), s_AA_s, pk_us]
      · exact p1 i (by omega)
    · rw [p2 i (by omega), s_AA_s, pk_un (by omega)]
/-- the letters of a name -/
noncomputable def nL (v : Int64) : List Nat := @dite _ (isNm v) (Classical.propDecidable _) (fun h => Classical.choose h) (fun _ => [])
theorem nL_sp {v : Int64} (h : isNm v) : v = lN (pkL (nL v)) ∧ nL v ≠ [] ∧ (nL v).length ≤ 8 ∧ ∀ d ∈ nL v, isNP d = true := by
  unfold nL
  rw [dif_pos h]
  exact Classical.choose_spec h
theorem nL_b {v : Int64} (h : isNm v) : ∀ d ∈ nL v, 0 < d ∧ d < 128 := fun d hd => isNP_rg ((nL_sp h).2.2.2 d hd)
theorem shr63 {a d : Nat} {D : Int64} (hD : (D.toBitVec.smod 64).toNat = d) (h : a < 2 ^ 63) : lN a >>> D = lN (a / 2 ^ d) := by
  have hd : a / 2 ^ d ≤ a := Nat.div_le_self _ _
  apply Int64.toInt_inj.mp
  have e : (lN a >>> D).toInt = (lN a).toInt >>> d := by
    rw [← hD]
    exact BitVec.toInt_sshiftRight ..
  rw [e, Int.shiftRight_eq_div_pow, pf_lI (by omega), pf_lI (by omega)]
  rfl
/-- what the reference has on its out -/
def RX (σ : ej_S) (l : List Nat) : Prop := gI σ 18 = nI l.length ∧ l.length ≤ 4096 ∧ (∀ i, i < l.length → gA σ 28 i = nI (cd l i)) ∧ ∀ b ∈ l, b < 256
theorem RX_fr {I J A B M : List Nat} {s : ej_S} {l : List Nat} (h : RX σ l) (f : fr I J A B M σ s) (h1 : 18 ∉ I) (h2 : 28 ∉ A) : RX s l := by
  unfold RX at *
  rw [f.1 18 h1, f.2.2.1 28 h2]; exact h
theorem RX_put {l : List Nat} {c : Nat} (h : RX σ l) (hl : l.length < 4096) (hc : c < 256) : RX (uI (uA σ 28 l.length (nI c)) 18 (nI (l.length + 1))) (l ++ [c]) ∧ fr [18] [] [28] [] [] σ (uI (uA σ 28 l.length (nI c)) 18 (nI (l.length + 1))) := by
  obtain ⟨h1, h2, h3, h4⟩ := h
  refine ⟨⟨by rw [s_II_s, List.length_append]; rfl, by rw [List.length_append]; show l.length + 1 ≤ 4096; omega, fun i hi => ?_, fun b hb => ?_⟩, fr_uI (fr_uA fr_rf (by simp)) (by simp)⟩
  · rw [List.length_append] at hi
    have hi : i < l.length + 1 := hi
    rw [s_AI, s_AA_s, cd_app]
    rcases Nat.eq_or_lt_of_le (show i ≤ l.length by omega) with z | z
    · rw [z, pk_us, if_neg (Nat.lt_irrefl _), if_pos rfl]
    · rw [pk_un (by omega), if_pos z]; exact h3 i z
  · rcases List.mem_append.mp hb with z | z
    · exact h4 b z
    · rw [List.mem_singleton] at z; rw [z]; exact hc
theorem r_putsCode {l : List Nat} {c : Nat} (h : RX σ l) (hl : l.length < 4096) (hc : c < 256) : ∃ σ', m11_putsCode n (nI c) σ = some σ' ∧ RX σ' (l ++ [c]) ∧ fr [18] [] [28] [] [] σ σ' := by
  obtain ⟨p1, p2⟩ := RX_put h hl hc
  refine ⟨_, ?_, p1, p2⟩
  unfold m11_putsCode
  rw [h.1, ck_t hl (by omega), nI_clamp (by omega), ej_nm_e, s_IA, h.1, L_1, nI_add, ej_nm_e]
theorem r_puts_7 : ∀ (ds : List Nat) (k : Nat) (l : List Nat) (σ : ej_S), RX σ l → (∀ d ∈ ds, 0 < d ∧ d < 128) → ds.length ≤ 8 → l.length + ds.length ≤ 4096 → ds.length < k → ∃ σ', m11_puts_7 n k (lN (pkL ds)) σ = some σ' ∧ RX σ' (l ++ ds) ∧ fr [18] [] [28] [] [] σ σ' := by
  intro ds
  induction ds with
  | nil =>
    intro k l σ h _ _ _ hk
    obtain ⟨k, rfl⟩ : ∃ k', k = k' + 1 := ⟨k - 1, by have : ([] : List Nat).length = 0 := rfl; omega⟩
    rw [u_11_puts_7, if_pos ((cmp_eq (lN (pkL [])) 0).mpr rfl), List.append_nil]
    exact ⟨σ, rfl, h, fr_rf⟩
  | cons d ds ih =>
    intro k l σ h hd h8 hl hk
    rw [List.length_cons] at h8 hl hk
    obtain ⟨k, rfl⟩ : ∃ k', k = k' + 1 := ⟨k - 1, by omega⟩
    have hlt := pkL_7 (d :: ds) (fun x hx => (hd x hx).2) (by rw [List.length_cons]; exact h8)
    have d0 := hd d List.mem_cons_self
    have e1 : pkL (d :: ds) = d + 256 * pkL ds := rfl
    have hne : ¬ lg_cmp (lN (pkL (d :: ds))) 0 = 0 := by
      intro z
      have := (cmp_eq _ _).mp z
      have := (fb_lN_inj hlt (show 0 < 2 ^ 63 by omega)).mp this
      omega
    have eb : (lN (pkL (d :: ds)) &&& 255).toInt32 = nI d := by
      rw [show (255 : Int64) = lN (2 ^ 8 - 1) from rfl, wb_mask (by omega) (by omega), lN_i, show pkL (d :: ds) % 2 ^ 8 = d by omega]
    have es : lN (pkL (d :: ds)) >>> ((8 : Int32).toInt64 &&& 63) = lN (pkL ds) := by
      rw [shr63 (d := 8) (by decide) hlt, show pkL (d :: ds) / 2 ^ 8 = pkL ds by omega]
    rw [u_11_puts_7, if_neg hne, h.1, ck_t (by omega) (by omega), nI_clamp (by omega), ej_nm_e, eb, s_IA, h.1, L_1, nI_add, ej_nm_e, es, ej_nm_e]
    obtain ⟨p1, p2⟩ := RX_put h (by omega) (show d < 256 by omega)
    obtain ⟨σ', r1, r2, r3⟩ := ih k (l ++ [d]) _ p1 (fun x hx => hd x (List.mem_cons_of_mem _ hx)) (by omega) (by rw [List.length_append]; show l.length + 1 + ds.length ≤ 4096; omega) (by omega)
    refine ⟨σ', r1, ?_, fr_tr p2 r3⟩
    rw [List.append_assoc] at r2
    exact r2
theorem r_puts {a : Nat} {l : List Nat} (hn : 2000 < n) (h : RX σ l) (ha : a < 24) (hv : isNm (gB σ 1 a)) (hl : l.length + (nL (gB σ 1 a)).length ≤ 4096) : ∃ σ', m11_puts n (nI a) σ = some σ' ∧ RX σ' (l ++ nL (gB σ 1 a)) ∧ fr [18] [] [28] [] [] σ σ' := by
  obtain ⟨s1, s2, s3, s4⟩ := nL_sp hv
  unfold m11_puts
  rw [ck_t ha (by omega), nI_clamp (by omega), ej_nm_e]
  have := r_puts_7 (n := n) (nL (gB σ 1 a)) n l σ h (nL_b hv) s3 hl (by omega)
  rw [← s1] at this; exact this
theorem x_appendName_2 {v : Int64} (hv : isNm v) : ∀ (k i : Nat) (l : List Nat) (σ : ej_S), TX σ 1 (l ++ (nL v).take i) → i ≤ (nL v).length → (nL v).length - i < k → l.length + (nL v).length ≤ 1200 → ∃ σ', m7_appendName_2 n 1 k v (nI i) σ = some σ' ∧ TX σ' 1 (l ++ nL v) ∧ fr [1] [] [1] [] [] σ σ' := by
  obtain ⟨s1, s2, s3, s4⟩ := nL_sp hv
  have hb := nL_b hv
  have hlt := pkL_7 (nL v) (fun d hd => (hb d hd).2) s3
  intro k
  induction k with
  | zero => intro i l σ _ _ h; omega
  | succ k ih =>
    intro i l σ hT hi hk hl
    rw [u_7_appendName_2]
    have stop : i = (nL v).length → l ++ (nL v).take i = l ++ nL v := fun z => by rw [z, List.take_length]
    rcases Nat.lt_or_ge i 8 with q | q
    · rw [L_8, ile_f q (by omega)]
      have nb : m10_nameByte n v (nI i) σ = some (nI ((nL v).getD i 0), σ) := by
        have := x_nameByte (n := n) (σ := σ) (v := pkL (nL v)) (i := i) (by omega) q
        rw [← s1, pkL_at _ _ (fun d hd => by have := hb d hd; omega)] at this
        exact this
      rw [nb, ej_bi_s, L_0]
      rcases Nat.eq_or_lt_of_le hi with z | z
      · have e0 : (nL v).getD i 0 = 0 := by rw [z]; simp
        rw [e0, if_pos rfl]
        rw [stop z] at hT
        exact ⟨σ, rfl, hT, fr_rf⟩
      · have e0 : (nL v).getD i 0 = (nL v)[i] := by rw [List.getD_eq_getElem?_getD, List.getElem?_eq_getElem z]; rfl
        have hm := hb _ (List.getElem_mem z)
        rw [e0, ieq_f (by omega) (by omega) (by omega), nb, ej_bi_s, e0]
        have tl : (l ++ (nL v).take i).length = l.length + i := by rw [List.length_append, List.length_take, Nat.min_eq_left (by omega)]
        obtain ⟨σ1, r1, r2, r3⟩ := x_append (n := n) hT (by rw [tl]; show l.length + i < 1200; omega) (b := (nL v)[i]) (v := nI (nL v)[i]) (by omega) (and255 (by omega))
        rw [r1, ej_bv_s, L_1, nI_add, ej_nm_e]
        rw [List.append_assoc, show (nL v).take i ++ [(nL v)[i]] = (nL v).take (i + 1) by rw [List.take_succ, List.getElem?_eq_getElem z]; rfl] at r2
        obtain ⟨σ', p1, p2, p3⟩ := ih (i + 1) l σ1 r2 z (by omega) hl
        exact ⟨σ', p1, p2, fr_tr r3 p3⟩
    · rw [L_8, ile_t q (by omega)]
      rw [stop (by omega)] at hT
      exact ⟨σ, rfl, hT, fr_rf⟩
theorem x_appendName {v : Int64} {l : List Nat} (hn : 2000 < n) (hv : isNm v) (h : TX σ 1 l) (hl : l.length + (nL v).length ≤ 1200) : ∃ σ', m7_appendName n 1 v σ = some σ' ∧ TX σ' 1 (l ++ nL v) ∧ fr [1] [] [1] [] [] σ σ' := by
  unfold m7_appendName
  rw [L_0]
  have := (nL_sp hv).2.2.1
  exact x_appendName_2 hv n 0 l σ (by rw [List.take_zero, List.append_nil]; exact h) (Nat.zero_le _) (by omega) hl
end P89
