/-! ROUTES, names, words: what the class answers -/
/-- a route, node by node -/
def RT0 (σ : ej_S) (D : Nat → Nat) (a : Nat) (rt : Nat → Nat) : Prop := D (4 * a) < iF ∧ PT σ D rt (D (4 * a) % 1024) ∧ rt (D (4 * a) % 1024) = 4 * a ∧ D (4 * a) % 1024 ≤ 23
section P97d
variable {n a b k : Nat} {fs : Nat → List Nat} {σ σ0 σr σr' c c' τ : ej_S} {tp tp' ot l : List Nat} {D rt : Nat → Nat} {v : Int32}
theorem RT0_ex (hS : SD σ D) (hz : Z0 D) (ha : a < 24) (h : D (4 * a) < iF) : ∃ rt, RT0 σ D a rt := by
  have hi := hS.2.2.1
  have w : WY D a (nI (4 * a)) := by
    refine .inr ⟨4 * a, Nat.le_refl _, by omega, rfl, h, fun q' h1 h2 => ?_, fun q' h1 h2 => by omega⟩
    rcases Nat.eq_or_lt_of_le h1 with z | z
    · rw [← z]; exact Nat.le_refl _
    · rcases Nat.lt_or_ge (D q') iF with y | y
      · have := hz q' (by omega) y; omega
      · omega
  rcases hS.2.2.2.2 a _ ha w with z | ⟨q, rt, q1, q2, q3, q4, q5, q6, q7⟩
  · exact absurd z (zm_ne (by omega))
  · have e : 4 * a = q := (nI_eq (by omega) (by omega)).mp q1
    subst e
    exact ⟨rt, h, q6, q5, q7⟩
theorem RT0_QMP (h : RT0 σ D a rt) (q : QMP σ σr) : RT0 σr D a rt := by
  have e25 := q.2.2.2 25 (by simp)
  have e26 := q.2.2.2 26 (by simp)
  unfold RT0 PT at *
  rw [e25, e26, Ed_QMP q]
  exact h
theorem r_lays (hn : 2000 < n) (hS : SD σr D) (hz : Z0 D) (ha : a < 24) (hp : RT0 σr D a rt) : ∃ s, m11_lays n (nI a) σr = some s ∧ fr [17] [] [27] [] [] σr s ∧ gI s 17 = nI (D (4 * a) % 1024) ∧ ∀ i, i ≤ D (4 * a) % 1024 → gA s 27 i = nI (rt i) := by
  obtain ⟨p0, p1, p2, p3⟩ := hp
  rcases r_key (n := n) hn hS hz ha with ⟨z, _⟩ | ⟨z, b1, b2, g1, g2, e⟩
  · omega
  · have f0 : fr [17] [] [] [] [] σr (uI σr 17 (nI (D (4 * a) % 1024))) := fr_uI fr_rf (by simp)
    obtain ⟨s, e3, f3, p4, _⟩ := r_lays_21 (n := n) (rt := rt) (R := rt) (D (4 * a) % 1024) n (uI σr 17 (nI (D (4 * a) % 1024))) (fun i hi => by
      obtain ⟨k, w, _, _, h1, _⟩ := p1.2 i hi
      exact h1) (fun i hi => (p1.1 i hi).1) (by omega) (by omega)
    refine ⟨s, ?_, fr_tr (fr_wk f0 (by simp) (by simp) (by simp) (by simp) (by simp)) (fr_wk f3 (by simp) (by simp) (by simp) (by simp) (by simp)), by rw [f3.1 17 (by simp), s_II_s], p4⟩
    unfold m11_lays
    rw [e, ej_bi_s, ck_t (by omega) (by omega), nI_clamp (by omega), g2, ej_nm_e, s_II_s, ej_nm_e]
    rw [p2] at e3; exact e3
theorem r_wayAt (hn : 2000 < n) (hw : wfR σr) (hS : SD σr D) (hz : Z0 D) (ha : a < NN σr) (hp : RT0 σr D a rt) (hk : k ≤ D (4 * a) % 1024) : ∃ s, m11_wayAt n (nI a) (nI k) σr = some (nI (rt k), s) ∧ fr [17, 19] [] [27] [] [] σr s ∧ gI s 19 = nI 0 := by
  have h24 := NN_le hw
  have q9 : QMP σr (uI σr 19 (nI 0)) := QMP_fr f19 (by decide) (by decide) (by decide) (by decide)
  obtain ⟨s, e1, f1, g1, g2⟩ := r_lays (n := n) hn (SD_QMP hS q9) hz (show a < 24 by omega) (RT0_QMP hp q9)
  have f2 : fr [17, 19] [] [27] [] [] σr s := fr_tr (fr_wk f19 (by simp) (by simp) (by simp) (by simp) (by simp)) (fr_wk f1 (by simp) (by simp) (by simp) (by simp) (by simp))
  refine ⟨s, ?_, f2, by rw [f1.1 19 (by simp), s_II_s]⟩
  obtain ⟨p0, p1, p2, p3⟩ := hp
  unfold m11_wayAt
  rw [isN_t hw ha, ej_bi_s, L_0, if_neg n10]
  rcases r_key (n := n) hn hS hz (show a < 24 by omega) with ⟨z, _⟩ | ⟨z, b1, b2, y1, y2, e⟩
  · omega
  · rw [e, ej_bi_s]
    unfold m11_wayAt_17
    rw [L_m1, ieq_m (by omega), ck_t (by omega) (by omega), nI_clamp (by omega), y2, v_isIn, ej_bi_s, L_0, ilt_f (Nat.zero_le _) (by omega), ilt_f hk (by omega), L_1, if_neg n10, r43_0, e1, ej_bv_s, ck_t (by omega) (by omega), nI_clamp (by omega), g2 k hk]
theorem AN_17 {X : ej_S → Option ((Int32 × ej_S) ⊕ (Nat × ej_S))} (h : ∀ c σr, INV n c σr → QMP σ0 σr → ∃ c' s, X c = some (.inl (v, c')) ∧ INV n c' s ∧ fr [17, 19] [] [27] [] [] σr s) : AN n fs σ0 tp ot X v := by
  intro c ⟨σr, hI, q, hf, ht, hx⟩
  obtain ⟨c', s, h1, h2, h3⟩ := h c σr hI q
  exact ⟨c', IQ_mk h2 q h3 (by decide) hf ht hx, fun τ => by rw [h1]; rfl⟩
theorem PT_lt (hp : PT σ D rt b) (hk : k ≤ b) : rt k < 96 ∧ D (rt k) < iF ∧ D (rt k) % 1024 = k := hp.1 k hk
theorem a_nodeAt (hn : 2000 < n) (hS : SD σ0 D) (hz : Z0 D) (ha : a < NN σ0) (hp : RT0 σ0 D a rt) (hk : k ≤ D (4 * a) % 1024) : AN n fs σ0 tp ot (fun c => m10_nodeAt n (nI a) (nI k) c) (nI (rt k / 4)) := AN_17 fun c σr hI q => by
  obtain ⟨w, _, _⟩ := INV_wf hI
  obtain ⟨s, e1, f1, g1⟩ := r_wayAt (n := n) hn w (SD_QMP hS q) hz (by rw [QMP_NN q]; exact ha) (RT0_QMP hp q) hk
  have r96 := (PT_lt hp.2.1 hk).1
  obtain ⟨c', x1, x2⟩ := ST_g3 (v := nI (rt k / 4)) (σr' := s) (k_nodeAt hn hI (nI a) (nI k) ) (by
    unfold m11_nodeAt
    rw [e1, ej_bi_s, L_m1, ieq_m (by omega), L_4, pk_div (by omega) (by omega) (by omega)]) g1
  exact ⟨c', s, x1, x2, f1⟩
theorem a_costAt (hn : 2000 < n) (hS : SD σ0 D) (hz : Z0 D) (ha : a < NN σ0) (hp : RT0 σ0 D a rt) (hk : k ≤ D (4 * a) % 1024) : AN n fs σ0 tp ot (fun c => m10_costAt n (nI a) (nI k) c) (nI (D (rt k) / 1024)) := AN_17 fun c σr hI q => by
  obtain ⟨w, _, _⟩ := INV_wf hI
  have S1 := SD_QMP hS q
  obtain ⟨s, e1, f1, g1⟩ := r_wayAt (n := n) hn w S1 hz (by rw [QMP_NN q]; exact ha) (RT0_QMP hp q) hk
  obtain ⟨r96, rF, _⟩ := PT_lt hp.2.1 hk
  obtain ⟨c', x1, x2⟩ := ST_g3 (v := nI (D (rt k) / 1024)) (σr' := s) (k_costAt hn hI (nI a) (nI k) ) (by
    unfold m11_costAt
    rw [e1, ej_bi_s, L_m1, ieq_m (by omega), ck_t (by omega) (by omega), nI_clamp (by omega), f1.2.2.1 23 (by simp)]
    rcases S1.1 (rt k) r96 with ⟨y, _⟩ | ⟨_, y1, y2⟩
    · omega
    · rw [y1]) g1
  exact ⟨c', s, x1, x2, f1⟩
theorem a_stepAt (hn : 2000 < n) (hS : SD σ0 D) (hz : Z0 D) (ha : a < NN σ0) (hp : RT0 σ0 D a rt) (hk : k ≤ D (4 * a) % 1024) : AN n fs σ0 tp ot (fun c => m10_stepAt n (nI a) (nI k) c) (gA σ0 26 (rt k)) := AN_17 fun c σr hI q => by
  obtain ⟨w, _, _⟩ := INV_wf hI
  have S1 := SD_QMP hS q
  obtain ⟨s, e1, f1, g1⟩ := r_wayAt (n := n) hn w S1 hz (by rw [QMP_NN q]; exact ha) (RT0_QMP hp q) hk
  obtain ⟨r96, rF, _⟩ := PT_lt hp.2.1 hk
  obtain ⟨c', x1, x2⟩ := ST_g3 (v := gA σ0 26 (rt k)) (σr' := s) (k_stepAt hn hI (nI a) (nI k) ) (by
    unfold m11_stepAt
    rw [e1, ej_bi_s, L_m1, ieq_m (by omega), ck_t (by omega) (by omega), nI_clamp (by omega), f1.2.2.1 26 (by simp), q.2.2.2 26 (by simp)]) g1
  exact ⟨c', s, x1, x2, f1⟩
/-! names and words -/
theorem cd_ext {l l' : List Nat} (h : l.length = l'.length) (g : ∀ i, i < l.length → cd l i = cd l' i) : l = l' := by
  refine List.ext_getElem h (fun i h1 h2 => ?_)
  have := g i h1
  rw [cd_lt h1, cd_lt h2] at this
  exact this
theorem RX_one {l' : List Nat} (h : RX σ l) (h' : RX σ l') : l = l' := by
  have e : l.length = l'.length := (nI_eq (by have := h.2.1; omega) (by have := h'.2.1; omega)).mp (h.1.symm.trans h'.1)
  refine cd_ext e (fun i hi => ?_)
  have a1 := h.2.2.1 i hi
  have a2 := h'.2.2.1 i (by omega)
  have b1 := cd_b h.2.2.2 hi
  have b2 := cd_b h'.2.2.2 (show i < l'.length by omega)
  exact (nI_eq (by omega) (by omega)).mp (a1.symm.trans a2)
theorem RTX_one {l' : List Nat} {f : Nat} (h : RTX σ f l) (h' : RTX σ f l') : l = l' := by
  have e : l.length = l'.length := (nI_eq (by have := h.2.1; omega) (by have := h'.2.1; omega)).mp (h.1.symm.trans h'.1)
  refine cd_ext e (fun i hi => ?_)
  have a1 := h.2.2.1 i hi
  have a2 := h'.2.2.1 i (by omega)
  have b1 := cd_b h.2.2.2 hi
  have b2 := cd_b h'.2.2.2 (show i < l'.length by omega)
  exact (nI_eq (by omega) (by omega)).mp (a1.symm.trans a2)
theorem x_word_18 {w : Nat} (hw : w < 1200) (hT : TX σ 1 l) : ∀ (k j : Nat), j ≤ 8 → 8 - j < k → m10_word_18 n k (nI w) (lN (pkL ((l.drop (8 * w)).take j))) (nI j) σ = some (lN (pkL ((l.drop (8 * w)).take 8)), σ) := by
  have hl : l.length ≤ 1200 := hT.2.1
  intro k
  induction k with
  | zero => intro j _ h; omega
  | succ k ih =>
    intro j hj hk
    rw [u_10_word_18]
    rcases Nat.eq_or_lt_of_le hj with rfl | q
    · rw [L_8, ile_t (Nat.le_refl _) (by omega)]
    · rw [L_8, ile_f q (by omega), pk_mul, nI_add, x_byteAt hT (by omega), ej_bi_s, L_m1]
      rcases Nat.lt_or_ge (8 * w + j) l.length with q2 | q2
      · have hc := cd_b hT.2.2.2 q2
        have hlen : ((l.drop (8 * w)).take j).length = j := by rw [List.length_take, List.length_drop]; omega
        rw [cI_lt hc, ieq_m (by omega), ej_nm_e, ej_nm_e, L_1, nI_add, pk_mul]
        have e := name_or (W := (l.drop (8 * w)).take j) (x := cd l (8 * w + j)) (fun b hb => hT.2.2.2 b (List.mem_of_mem_drop (List.mem_of_mem_take hb))) hc (by omega)
        rw [hlen] at e
        rw [e, ← pkL_take q2]
        exact ih (j + 1) q (by omega)
      · have e : (l.drop (8 * w)).take (j + 1) = (l.drop (8 * w)).take j := by
          rw [List.take_of_length_le (by rw [List.length_drop]; omega), List.take_of_length_le (by rw [List.length_drop]; omega)]
        rw [cd_ge q2, cI_256, if_pos rfl, ej_nm_e, L_1, nI_add, ← e]
        exact ih (j + 1) q (by omega)
theorem x_word {w : Nat} (hn : 2000 < n) (hw : w < 1200) (hT : TX σ 1 l) : m10_word n (nI w) σ = some (lN (pkL ((l.drop (8 * w)).take 8)), σ) := by
  unfold m10_word
  rw [L_0, L_1200, ilt_f (Nat.zero_le _) (by omega), ilt_t hw (by omega)]
  exact x_word_18 hw hT n 0 (Nat.zero_le _) (by omega)
/-- an answer that is a long -/
theorem a_word {w : Nat} (hn : 2000 < n) (hw : w < 1200) : ∀ c, IQ n fs σ0 tp ot c → ∃ c', IQ n fs σ0 tp ot c' ∧ ∀ τ : ej_S, ej_lc (m10_word n (nI w) c) ((c, τ) : lw_S) = some (lN (pkL ((ot.drop (8 * w)).take 8)), ((c', τ) : lw_S)) := by
  intro c h
  obtain ⟨σr, hI, q, hf, ht, hx⟩ := id h
  obtain ⟨fs', tp', ot', hM, hO⟩ := hI
  have e := RX_one hO.2.2.2.1 hx
  have hT := hO.2.2.1
  rw [e] at hT
  exact ⟨c, h, fun τ => by rw [x_word hn hw hT]; rfl⟩
/-- a letter as a name -/
theorem nL_let {x : Nat} (hx : x < 10) : isNm (lN (97 + x)) ∧ nL (lN (97 + x)) = [97 + x] := by
  have h : isNm (lN (97 + x)) := ⟨[97 + x], by unfold pkL pkL; rw [Nat.mul_zero, Nat.add_zero], by simp, by simp, fun d hd => by
    rw [List.mem_singleton.mp hd]
    unfold isNP isNS
    rw [decide_eq_true (show 97 ≤ 97 + x by omega), decide_eq_true (show 97 + x ≤ 122 by omega)]; rfl⟩
  refine ⟨h, ?_⟩
  obtain ⟨h1, h2, h3, h4⟩ := nL_sp h
  have hb : ∀ d ∈ nL (lN (97 + x)), d < 256 := fun d hd => by have := nL_b h d hd; omega
  have hlt := pkL_lt _ hb
  have h63 : pkL (nL (lN (97 + x))) < 2 ^ 63 := pkL_7 _ (fun d hd => (nL_b h d hd).2) h3
  have e : 97 + x = pkL (nL (lN (97 + x))) := by
    have a1 := (lx_le (show 97 + x < 2 ^ 63 by omega) h63).mp (by rw [← h1]; exact Int64.le_refl _)
    have a2 := (lx_le h63 (show 97 + x < 2 ^ 63 by omega)).mp (by rw [← h1]; exact Int64.le_refl _)
    omega
  generalize nL (lN (97 + x)) = ds at *
  cases ds with
  | nil => exact absurd rfl h2
  | cons d r =>
    have hd := h4 d (List.mem_cons_self)
    cases r with
    | nil =>
      unfold pkL pkL at e
      rw [show d = 97 + x by omega]
    | cons d2 r =>
      have hd2 := isNP_rg (h4 d2 (List.mem_cons_of_mem _ List.mem_cons_self))
      unfold pkL pkL at e
      omega
theorem a_name (hn : 2000 < n) (hw : wfR σ0) (ha : a < NN σ0) : ∀ c, IQ n fs σ0 tp ot c → ∃ c', IQ n fs σ0 tp (nL (gB σ0 1 a)) c' ∧ ∀ τ : ej_S, ej_lcn (m10_name n (nI a) c) ((c, τ) : lw_S) = some (nI (nL (gB σ0 1 a)).length, ((c', τ) : lw_S)) := by
  intro c ⟨σr, hI, q, hf, ht, hx⟩
  obtain ⟨w, _, _⟩ := INV_wf hI
  have ha' : a < NN σr := by rw [QMP_NN q]; exact ha
  have h24 := NN_le w
  have eB := q.1.2.2.1
  have hv : isNm (gB σr 1 a) := (hNm_of w).2 a ha'
  have h8 := (nL_sp hv).2.2.1
  have f3 : fr [18, 19] [] [] [] [] σr (uI (uI σr 19 (nI 0)) 18 (nI 0)) := fr_uI (fr_uI fr_rf (by simp)) (by simp)
  obtain ⟨s2, b2, t3, f4⟩ := r_puts (n := n) (a := a) (l := []) (σ := uI (uI σr 19 (nI 0)) 18 (nI 0)) hn RX_0 (by omega) hv (by show 0 + (nL (gB σr 1 a)).length ≤ 4096; omega)
  have G : fr [18, 19] [] [28] [] [] σr s2 := fr_tr (fr_wk f3 (by simp) (by simp) (by simp) (by simp) (by simp)) (fr_wk f4 (by simp) (by simp) (by simp) (by simp) (by simp))
  obtain ⟨c', x1, x2⟩ := ST_g3 (v := nI (nL (gB σr 1 a)).length) (σr' := s2) (k_name hn hI (nI a) ) (by
    unfold m11_name
    rw [asks_t (isN_t w ha'), ej_bi_s, L_0, if_neg n10, ej_nm_e, b2, ej_bv_s, t3.1]; rfl) (by rw [f4.1 19 (by simp), s_II_n (by omega), s_II_s])
  refine ⟨c', ⟨s2, x2, QMP_tr q (QMP_fr G (by decide) (by decide) (by decide) (by decide)), fun g hg => RTX_fr (hf g hg) G (by simp) (by simp), RTX_fr ht G (by simp) (by simp), ?_⟩, fun τ => by rw [x1, ← eB]; rfl⟩
  rw [← eB]; exact t3
end P97d
