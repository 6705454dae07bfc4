/-! THE CALLS, one by one: what asks -/
def STEP (n : Nat) (σr : ej_S) (X : Option (Int32 × xw_S)) (Y : Option (Int32 × ej_S)) : Prop := ∃ r2 σc' g' r4 σr', X = some (r2, (σc', σr, g')) ∧ Y = some (r4, σr') ∧ gI σr' 19 = r2 ∧ (r2 = nI 0 → g' 0 = r4.toInt64) ∧ INV n σc' σr'
def STEPB (n : Nat) (σr : ej_S) (X : Option (Int32 × xw_S)) (Y : Option (Int32 × ej_S)) : Prop := ∃ r2 σc' g' r4 σr', X = some (r2, (σc', σr, g')) ∧ Y = some (r4, σr') ∧ gI σr' 19 = r2 ∧ (r2 = nI 0 → g' 0 = if r4 = nI 0 then 0 else 1) ∧ INV n σc' σr'
def STEP2 {α : Type} (n : Nat) (X Y : Option (α × ej_S)) : Prop := ∃ r σc' σr', X = some (r, σc') ∧ Y = some (r, σr') ∧ INV n σc' σr'
abbrev KI : Int32 → xw_S → Option (Int32 × xw_S) := fun r1 s2 => ej_ck 0 1 (ej_nm ((s2.1, s2.2.1, vp_updL s2.2.2 ((0 : Int32).toNatClampNeg) (r1.toInt64)) : xw_S) fun s3 => (some (0, s3)))
abbrev KB : Int32 → xw_S → Option (Int32 × xw_S) := fun r1 s2 => (if r1 = 0 then ej_ck 0 1 (ej_nm ((s2.1, s2.2.1, vp_updL s2.2.2 ((0 : Int32).toNatClampNeg) 0) : xw_S) fun s3 => (some (0, s3))) else ej_ck 0 1 (ej_nm ((s2.1, s2.2.1, vp_updL s2.2.2 ((0 : Int32).toNatClampNeg) 1) : xw_S) fun s4 => (some (0, s4))))
section P96c
variable {n : Nat} {σ σc σr σc' σr' : ej_S} {fs : Nat → List Nat} {tp ot : List Nat} {g : Nat → Int64}
theorem KI_e {v : Int32} : KI v (σc, σr, g) = some (nI 0, (σc, σr, vp_updL g 0 v.toInt64)) := by
  unfold KI
  rw [L_0, ck_t (by omega) (by omega), ej_nm_e, nI_clamp (by omega)]
theorem KB_e {b : Bool} : KB (bI b) (σc, σr, g) = some (nI 0, (σc, σr, vp_updL g 0 (if b = true then 1 else 0))) := by
  unfold KB
  rw [L_0, ibI, ck_t (by omega) (by omega), ck_t (by omega) (by omega), ej_nm_e, ej_nm_e, nI_clamp (by omega)]
  cases b <;> rfl
theorem ST_ok {X : Option ((Int32 × ej_S) ⊕ (Nat × ej_S))} {Y : Option (Int32 × ej_S)} {H : Nat → xw_S → Option (Int32 × xw_S)} {v : Int32} (e : X = some (.inl (v, σc'))) (eY : Y = some (v, σr')) (h19 : gI σr' 19 = nI 0) (hI : INV n σc' σr') : STEP n σr (ej_bw (xw_lcx X (σc, σr, g)) KI H) Y := by
  refine ⟨nI 0, σc', vp_updL g 0 v.toInt64, v, σr', ?_, eY, h19, fun _ => pk_uLs, hI⟩
  rw [e]
  exact KI_e
theorem ST_ex {X : Option ((Int32 × ej_S) ⊕ (Nat × ej_S))} {Y : Option (Int32 × ej_S)} {K : Int32 → xw_S → Option (Int32 × xw_S)} {H : Nat → xw_S → Option (Int32 × xw_S)} {v : Int32} {k c : Nat} (e : X = some (.inr (k, σc'))) (hH : ∀ s, H k s = some (nI c, s)) (eY : Y = some (v, σr')) (h19 : gI σr' 19 = nI c) (hc : 0 < c ∧ c < 4) (hI : INV n σc' σr') : STEP n σr (ej_bw (xw_lcx X (σc, σr, g)) K H) Y := by
  refine ⟨nI c, σc', g, v, σr', ?_, eY, h19, fun z => absurd ((nI_eq (by omega) (by omega)).mp z) (by omega), hI⟩
  rw [e]
  exact hH _
theorem STB_ok {X : Option ((Int32 × ej_S) ⊕ (Nat × ej_S))} {Y : Option (Int32 × ej_S)} {H : Nat → xw_S → Option (Int32 × xw_S)} {b : Bool} (e : X = some (.inl (bI b, σc'))) (eY : Y = some (bI b, σr')) (h19 : gI σr' 19 = nI 0) (hI : INV n σc' σr') : STEPB n σr (ej_bw (xw_lcx X (σc, σr, g)) KB H) Y := by
  refine ⟨nI 0, σc', vp_updL g 0 (if b = true then 1 else 0), bI b, σr', ?_, eY, h19, fun _ => pk_uLs.trans ?_, hI⟩
  · rw [e]
    exact KB_e
  · cases b
    · rw [bI_f]; rfl
    · rw [bI_t, if_neg n10]; rfl
theorem STB_ex {X : Option ((Int32 × ej_S) ⊕ (Nat × ej_S))} {Y : Option (Int32 × ej_S)} {K : Int32 → xw_S → Option (Int32 × xw_S)} {H : Nat → xw_S → Option (Int32 × xw_S)} {v : Int32} {k c : Nat} (e : X = some (.inr (k, σc'))) (hH : ∀ s, H k s = some (nI c, s)) (eY : Y = some (v, σr')) (h19 : gI σr' 19 = nI c) (hc : 0 < c ∧ c < 4) (hI : INV n σc' σr') : STEPB n σr (ej_bw (xw_lcx X (σc, σr, g)) K H) Y := by
  refine ⟨nI c, σc', g, v, σr', ?_, eY, h19, fun z => absurd ((nI_eq (by omega) (by omega)).mp z) (by omega), hI⟩
  rw [e]
  exact hH _
theorem IOS_c {I J A B M : List Nat} {s : ej_S} (h : IOS tp ot σc σr) (p : fr I J A B M σc s) (i0 : 0 ∉ I) (i1 : 1 ∉ I) (i2 : 10 ∉ I) (i3 : 11 ∉ I) (a0 : 0 ∉ A) (a1 : 1 ∉ A) : IOS tp ot s σr := by
  obtain ⟨h1, h2, h3, h4, h5, h6⟩ := h
  exact ⟨TX_fr h1 p i0 a0, h2, TX_fr h3 p i1 a1, h4, by rw [p.1 10 i2]; exact h5, by rw [p.1 11 i3]; exact h6⟩
theorem IOS_r {I J A B M : List Nat} {s : ej_S} (h : IOS tp ot σc σr) (q : fr I J A B M σr s) (i0 : 18 ∉ I) (i1 : 11 ∉ I) (i2 : 12 ∉ I) (a0 : 0 ∉ A) (a1 : 1 ∉ A) (a2 : 28 ∉ A) : IOS tp ot σc s := by
  obtain ⟨h1, h2, h3, h4, h5, h6⟩ := h
  exact ⟨h1, RTX_fr h2 q a1 a0, h3, RX_fr h4 q i0 a2, by rw [q.1 11 i1]; exact h5, by rw [q.1 12 i2]; exact h6⟩
theorem f19 {v : Int32} : fr [19] [] [] [] [] σr (uI σr 19 v) := fr_uI fr_rf (by simp)
theorem INV_19 {v : Int32} (hM : MAPI n fs σc σr) (hO : IOS tp ot σc σr) : INV n σc (uI σr 19 v) := ⟨fs, tp, ot, MAPI_r0 hM f19 (by simp) (by simp) (by simp) (by simp), IOS_r hO f19 (by simp) (by simp) (by simp) (by simp) (by simp) (by simp)⟩
theorem need_t {x : Int32} (e : m0_has n x σc = some (nI 1, σc)) : m10_needNode n x σc = some (.inl σc) := by
  unfold m10_needNode
  rw [e, ej_bi_s, L_0, if_neg n10]
theorem need_f {x : Int32} (e : m0_has n x σc = some (nI 0, σc)) : m10_needNode n x σc = some (.inr (3, σc)) := by
  unfold m10_needNode
  rw [e, ej_bi_s, L_0, if_pos rfl]
theorem goes_0 : m11_goes n (nI 0) σr = some (nI 1, uI σr 19 (nI 0)) := by
  unfold m11_goes
  rw [ej_nm_e, L_0, if_pos rfl, L_1]
theorem goes_1 : m11_goes n (nI 1) σr = some (nI 0, uI σr 19 (nI 1)) := by
  unfold m11_goes
  rw [ej_nm_e, L_0, if_neg n10]
theorem goes_2 : m11_goes n (nI 2) σr = some (nI 0, uI σr 19 (nI 2)) := by
  unfold m11_goes
  rw [ej_nm_e, L_0, if_neg (by decide +kernel)]
theorem asks_t {x : Int32} (e : m11_isNode n x σr = some (nI 1, σr)) : m11_asks n x σr = some (nI 1, uI σr 19 (nI 0)) := by
  unfold m11_asks
  rw [e, ej_bi_s, L_0, if_neg n10, goes_0, ej_bi_s, bz_n1]
theorem asks_f {x : Int32} (e : m11_isNode n x σr = some (nI 0, σr)) : m11_asks n x σr = some (nI 0, uI σr 19 (nI 1)) := by
  unfold m11_asks
  rw [e, ej_bi_s, L_0, if_pos rfl, L_1, goes_1, ej_bi_s, bz_n0]
theorem ask_t {x y : Int32} (e : m11_isNode n x σr = some (nI 1, σr)) (e' : m11_isNode n y σr = some (nI 1, σr)) : m11_ask n x y σr = some (nI 1, uI σr 19 (nI 0)) := by
  unfold m11_ask
  rw [e, ej_bi_s, L_0, if_neg n10, e', ej_bi_s, if_neg n10, goes_0, ej_bi_s, bz_n1]
theorem ask_f1 {x y : Int32} (e : m11_isNode n x σr = some (nI 0, σr)) : m11_ask n x y σr = some (nI 0, uI σr 19 (nI 1)) := by
  unfold m11_ask
  rw [e, ej_bi_s, L_0, if_pos rfl, L_1, goes_1, ej_bi_s, bz_n0]
theorem ask_f2 {x y : Int32} (e : m11_isNode n x σr = some (nI 1, σr)) (e' : m11_isNode n y σr = some (nI 0, σr)) : m11_ask n x y σr = some (nI 0, uI σr 19 (nI 1)) := by
  unfold m11_ask
  rw [e, ej_bi_s, L_0, if_neg n10, e', ej_bi_s, if_pos rfl, L_1, goes_1, ej_bi_s, bz_n0]
theorem MAPI_W (h : MAPI n fs σc σr) : relW σc σr := h.2.2.2.2.2.2.2.2.1
theorem c_kind (h : INV n σc σr) (x : Int32) : STEP n σr (mW_kind n x (σc, σr, g)) (m11_kind n x σr) := by
  obtain ⟨fs, tp, ot, hM, hO⟩ := h
  unfold mW_kind m11_kind m10_kind
  rcases s_node_ask (n := n) (MAPI_W hM) x with ⟨i, h1, h2, rfl, e1, e2⟩ | ⟨e1, e2⟩
  · refine ST_ok (v := nI (kdN σr i)) ?_ ?_ s_II_s (INV_19 hM hO)
    · rw [need_t e1, ej_bxv_s, w_kindOf (MAPI_W hM) h1, ej_bi_s]
    · rw [asks_t e2, ej_bi_s, L_0, if_neg n10, r_kindOf h2, ej_bi_s]
      unfold kdN
      rw [s_BI, s_AI]
  · exact ST_ex (c := 1) (congrArg (fun z => ej_bxv z _) (need_f e1)) (fun _ => rfl) (by rw [asks_f e2, ej_bi_s, L_0, if_pos rfl]) s_II_s (by omega) (INV_19 hM hO)
theorem c_isPrivate (h : INV n σc σr) (x : Int32) : STEPB n σr (mW_isPrivate n x (σc, σr, g)) (m11_isPrivate n x σr) := by
  obtain ⟨fs, tp, ot, hM, hO⟩ := h
  unfold mW_isPrivate m11_isPrivate m10_isPrivate
  have hW := MAPI_W hM
  rcases s_node_ask (n := n) hW x with ⟨i, h1, h2, rfl, e1, e2⟩ | ⟨e1, e2⟩
  · refine STB_ok (b := !decide (gA σr 11 i = zm)) ?_ ?_ s_II_s (INV_19 hM hO)
    · unfold m0_isOwned
      have o := hW.2.2.2.2.1 i h1
      rw [need_t e1, ej_bxv_s, e1, ej_bi_s, L_0, if_neg n10, ck_t h2 (by omega), nI_clamp (by omega), L_m1, o, L_1]
      by_cases z : gA σr 11 i = zm
      · rw [if_pos z, ej_bi_s, bz_n0, z]; rfl
      · rw [if_neg z, ej_bi_s, bz_n1, decide_eq_false z]; rfl
    · rw [asks_t e2, ej_bi_s, L_0, if_neg n10, ck_t h2 (by omega), nI_clamp (by omega), L_m1, s_AI, L_1]
      by_cases z : gA σr 11 i = zm
      · rw [if_pos z, z]; rfl
      · rw [if_neg z, decide_eq_false z]; rfl
  · exact STB_ex (c := 1) (congrArg (fun z => ej_bxv z _) (need_f e1)) (fun _ => rfl) (by rw [asks_f e2, ej_bi_s, L_0, if_pos rfl]) s_II_s (by omega) (INV_19 hM hO)
theorem c_linkCost (h : INV n σc σr) (x y : Int32) : STEP n σr (mW_linkCost n x y (σc, σr, g)) (m11_linkCost n x y σr) := by
  obtain ⟨fs, tp, ot, hM, hO⟩ := h
  unfold mW_linkCost m11_linkCost m10_linkCost
  have hW := MAPI_W hM
  rcases s_node_ask (n := n) hW x with ⟨i, h1, h2, rfl, e1, e2⟩ | ⟨e1, e2⟩
  · rcases s_node_ask (n := n) hW y with ⟨j, k1, k2, rfl, d1, d2⟩ | ⟨d1, d2⟩
    · refine ST_ok (v := gA σr 16 (24 * i + j)) ?_ ?_ s_II_s (INV_19 hM hO)
      · rw [need_t e1, ej_bxv_s, need_t d1, ej_bxv_s, w_priceOfLink hW h1 k1, ej_bi_s]
      · rw [ask_t e2 d2, ej_bi_s, L_0, if_neg n10, L_24, pk_mul, nI_add, ck_t (by omega) (by omega), nI_clamp (by omega), s_AI]
    · exact ST_ex (c := 1) (by rw [need_t e1, ej_bxv_s]; exact congrArg (fun z => ej_bxv z _) (need_f d1)) (fun _ => rfl) (by rw [ask_f2 e2 d2, ej_bi_s, L_0, if_pos rfl]) s_II_s (by omega) (INV_19 hM hO)
  · exact ST_ex (c := 1) (congrArg (fun z => ej_bxv z _) (need_f e1)) (fun _ => rfl) (by rw [ask_f1 e2, ej_bi_s, L_0, if_pos rfl]) s_II_s (by omega) (INV_19 hM hO)
theorem c_memberCost (h : INV n σc σr) (x y : Int32) : STEP n σr (mW_memberCost n x y (σc, σr, g)) (m11_memberCost n x y σr) := by
  obtain ⟨fs, tp, ot, hM, hO⟩ := h
  unfold mW_memberCost m11_memberCost m10_memberCost
  have hW := MAPI_W hM
  rcases s_node_ask (n := n) hW x with ⟨i, h1, h2, rfl, e1, e2⟩ | ⟨e1, e2⟩
  · rcases s_node_ask (n := n) hW y with ⟨j, k1, k2, rfl, d1, d2⟩ | ⟨d1, d2⟩
    · refine ST_ok (v := gA σr 20 (24 * i + j)) ?_ ?_ s_II_s (INV_19 hM hO)
      · rw [need_t e1, ej_bxv_s, need_t d1, ej_bxv_s, w_priceOfMember hW h1 k1, ej_bi_s]
      · rw [ask_t e2 d2, ej_bi_s, L_0, if_neg n10, L_24, pk_mul, nI_add, ck_t (by omega) (by omega), nI_clamp (by omega), s_AI]
    · exact ST_ex (c := 1) (by rw [need_t e1, ej_bxv_s]; exact congrArg (fun z => ej_bxv z _) (need_f d1)) (fun _ => rfl) (by rw [ask_f2 e2 d2, ej_bi_s, L_0, if_pos rfl]) s_II_s (by omega) (INV_19 hM hO)
  · exact ST_ex (c := 1) (congrArg (fun z => ej_bxv z _) (need_f e1)) (fun _ => rfl) (by rw [ask_f1 e2, ej_bi_s, L_0, if_pos rfl]) s_II_s (by omega) (INV_19 hM hO)
theorem fO_c {s : ej_S} (p : fr [1] [] [1] [] [] σc s) : FQc σc s := fr_wk p (by simp) (by simp) (by simp) (by simp) (by simp)
theorem c_name (hn : 2000 < n) (h : INV n σc σr) (x : Int32) : STEP n σr (mW_name n x (σc, σr, g)) (m11_name n x σr) := by
  obtain ⟨fs, tp, ot, hM, hO⟩ := h
  unfold mW_name m11_name m10_name
  have hW := MAPI_W hM
  rcases s_node_ask (n := n) hW x with ⟨i, h1, h2, rfl, e1, e2⟩ | ⟨e1, e2⟩
  · have hv := w_nm hW h1
    have h8 := (nL_sp hv).2.2.1
    obtain ⟨c1, a1, t1, f1⟩ := x_clear (n := n) (t := 1) (σ := σc)
    obtain ⟨c2, a2, t2, f2⟩ := x_appendName (n := n) (l := []) hn hv t1 (by show 0 + _ ≤ 1200; omega)
    have f3 : fr [18, 19] [] [] [] [] σr (uI (uI σr 19 (nI 0)) 18 (nI 0)) := fr_uI (fr_uI fr_rf (by simp)) (by simp)
    obtain ⟨s2, b2, t3, f4⟩ := r_puts (n := n) (a := i) (l := []) (σ := uI (uI σr 19 (nI 0)) 18 (nI 0)) hn RX_0 h2 hv (by show 0 + (nL (gB σr 1 i)).length ≤ 4096; omega)
    have F : fr [1] [] [1] [] [] σc c2 := fr_tr (fr_wk f1 (by simp) (by simp) (by simp) (by simp) (by simp)) f2
    have G : fr [18, 19] [] [28] [] [] σr s2 := fr_tr (fr_wk f3 (by simp) (by simp) (by simp) (by simp) (by simp)) (fr_wk f4 (by simp) (by simp) (by simp) (by simp) (by simp))
    refine ST_ok (v := nI (nL (gB σr 1 i)).length) (σc' := c2) (σr' := s2) ?_ ?_ (by rw [f4.1 19 (by simp), s_II_n (by omega), s_II_s]) ⟨fs, tp, nL (gB σr 1 i), MAPI_r0 (MAPI_c hM (fO_c F)) G (by simp) (by simp) (by simp) (by simp), ?_⟩
    · unfold m7_length
      rw [need_t e1, ej_bxv_s, a1, ej_bv_s]
      have hW1 : relW c1 σr := relW_c hW (fr_wk f1 (by simp) (by simp) (by simp) (by simp) (by simp))
      rw [w_nameOf hW1 h1, ej_bl_s, a2, ej_bv_s, ej_bi_s, t2.1]; rfl
    · rw [asks_t e2, ej_bi_s, L_0, if_neg n10, ej_nm_e, b2, ej_bv_s, t3.1]; rfl
    · obtain ⟨o1, o2, o3, o4, o5, o6⟩ := hO
      exact ⟨TX_fr o1 F (by simp) (by simp), RTX_fr o2 G (by simp) (by simp), t2, t3, by rw [F.1 10 (by simp), G.1 11 (by simp)]; exact o5, by rw [F.1 11 (by simp), G.1 12 (by simp)]; exact o6⟩
  · exact ST_ex (c := 1) (congrArg (fun z => ej_bxv z _) (need_f e1)) (fun _ => rfl) (by rw [asks_f e2, ej_bi_s, L_0, if_pos rfl]) s_II_s (by omega) (INV_19 hM hO)
theorem c_nodes (h : INV n σc σr) : STEP2 n (m10_nodes n σc) (m11_nodes n σr) := by
  obtain ⟨fs, tp, ot, hM, hO⟩ := h
  unfold m10_nodes m11_nodes m0_size
  refine ⟨gI σc 22, σc, uI σr 19 (nI 0), rfl, ?_, INV_19 hM hO⟩
  rw [ej_nm_e, L_0, s_II_n (by omega), (MAPI_W hM).2.1]
theorem c_fault (h : INV n σc σr) (x : Int32) : STEP2 n (m10_fault n x σc) (m11_fault n x σr) := by
  obtain ⟨fs, tp, ot, hM, hO⟩ := h
  unfold m10_fault m11_fault m1_code m1_where
  obtain ⟨o1, o2, o3, o4, o5, o6⟩ := id hO
  rw [ej_nm_e, L_0, s_II_n (by omega), s_II_n (by omega), ej_bi_s, ej_bi_s, o5, o6]
  by_cases z : x = nI 0
  · rw [if_pos z, if_pos z]
    exact ⟨_, σc, _, rfl, rfl, INV_19 hM hO⟩
  · rw [if_neg z, if_neg z]
    exact ⟨_, σc, _, rfl, rfl, INV_19 hM hO⟩
theorem s_homeNode (hn : 2000 < n) (h : MAPI n fs σc σr) : ∃ r, m9_homeNode n σc = some (r, σc) ∧ m11_homeNode n σr = some (r, σr) := by
  have hW := MAPI_W h
  have hJ := h.2.2.2.2.2.2.1
  rcases x_homeNode (n := n) hn hW.1 hW.2 hJ with ⟨a1, a2⟩ | ⟨i, a1, a2⟩
  · rcases r_homeNode (n := n) hn hW.1 with ⟨b1, b2⟩ | ⟨j, b1, b2⟩
    · exact ⟨_, a2, b2⟩
    · exact absurd ⟨b1.2.1, b1.2.2⟩ (a1 j b1.1)
  · rcases r_homeNode (n := n) hn hW.1 with ⟨b1, b2⟩ | ⟨j, b1, b2⟩
    · exact absurd ⟨a1.2.1, a1.2.2⟩ (b1 i a1.1)
    · obtain ⟨N, h0, h15, _, _, _, w3, _⟩ := id hW.1
      have hN := NN_eq h15 h0
      have e : i = j := uni_eq w3 (by rw [← hN]; exact a1.1) (by rw [← hN]; exact b1.1) ⟨a1.2.1, a1.2.2⟩ ⟨b1.2.1, b1.2.2⟩
      subst e
      exact ⟨_, a2, b2⟩
theorem c_home (hn : 2000 < n) (h : INV n σc σr) : STEP2 n (m10_home n σc) (m11_home n σr) := by
  obtain ⟨fs, tp, ot, hM, hO⟩ := h
  unfold m10_home m11_home
  have hM' : MAPI n fs σc (uI σr 19 (nI 0)) := MAPI_r0 hM f19 (by simp) (by simp) (by simp) (by simp)
  obtain ⟨r, a1, a2⟩ := s_homeNode hn hM'
  refine ⟨r, σc, uI σr 19 (nI 0), by rw [a1, ej_bi_s], ?_, INV_19 hM hO⟩
  rw [ej_nm_e, L_0, a2, ej_bi_s]
theorem c_word (hn : 2000 < n) (h : INV n σc σr) (x : Int32) : STEP2 n (m10_word n x σc) (m11_word n x σr) := by
  obtain ⟨fs, tp, ot, hM, hO⟩ := h
  obtain ⟨w, a1, a2⟩ := s_word hn x hO.2.2.1 hO.2.2.2.1
  exact ⟨w, σc, _, a1, a2, INV_19 hM hO⟩
end P96c
