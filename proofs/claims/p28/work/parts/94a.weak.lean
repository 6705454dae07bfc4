/-! FEWER TEXTS: the nodes of the reference are among those of the class -/
def Kp (σ0 s : ej_S) : Prop := gI s 10 = gI σ0 10 ∧ gI s 11 = gI σ0 11
theorem Kp_rf {σ : ej_S} : Kp σ σ := ⟨rfl, rfl⟩
theorem Kp_uI {σ0 s : ej_S} {k : Nat} {v : Int32} (h : Kp σ0 s) (h1 : 10 ≠ k) (h2 : 11 ≠ k) : Kp σ0 (uI s k v) := ⟨by rw [s_II_n h1]; exact h.1, by rw [s_II_n h2]; exact h.2⟩
theorem Kp_uA {σ0 s : ej_S} {k i : Nat} {v : Int32} (h : Kp σ0 s) : Kp σ0 (uA s k i v) := h
theorem Kp_fr {I J A B M : List Nat} {σ0 s t : ej_S} (h : Kp σ0 s) (p : fr I J A B M s t) (h1 : 10 ∉ I) (h2 : 11 ∉ I) : Kp σ0 t := ⟨(p.1 10 h1).trans h.1, (p.1 11 h2).trans h.2⟩
def WKr (f : Nat) (b : Bool) (σc σr : ej_S) : Prop := gI σc 23 = nI 1 ∨ (gI σr 16 = nI 0 ∧ ∃ Nc Nr, Nc ≤ 24 ∧ Nr ≤ 24 ∧ gI σc 22 = nI Nc ∧ gI σr 15 = nI Nr ∧ wUni Nr (gB σr 1) (gA σr 11) ∧ (∀ a, a < Nr → ∃ c, c < Nc ∧ gB σc 1 c = gB σr 1 a ∧ gA σc 18 c = gA σr 11 a) ∧ (∀ c, c < Nc → gA σc 18 c = zm ∨ ∃ h, h ≤ f ∧ gA σc 18 c = nI h) ∧ (b = true → ∀ c, c < Nc → gA σc 18 c = nI f → ∃ a, a < Nr ∧ gB σr 1 a = gB σc 1 c ∧ gA σr 11 a = nI f))
/-- κ: whose fault stays; W: whether the nodes are told of too -/
def MRw (κ : ej_S) (W : Prop) (f : Nat) (b : Bool) (σc σr : ej_S) : Prop := wfC σc ∧ (∃ N, N ≤ 24 ∧ gI σr 15 = nI N) ∧ Kp κ σc ∧ (W → WKr f b σc σr)
def XIw : List Nat := [6, 10, 11, 12, 22, 23, 24, 25, 26, 27, 28, 29, 30]
def NRw (b : Bool) (x y : Int32) (_ : ej_S) : Prop := ND x ∧ ∃ a, a < 24 ∧ y = nI a ∧ (b = true → False → x = y)
theorem NR_monow {b : Bool} {x y : Int32} {σ s : ej_S} (h : NRw b x y σ) (_ : mono σ s) : NRw b x y s := h
theorem MR_frw {κ : ej_S} {W : Prop} {f : Nat} {b : Bool} {σc σr σc' σr' : ej_S} {I J A B M I' J' A' B' M' : List Nat} (h : MRw κ W f b σc σr) (p : fr I J A B M σc σc') (q : fr I' J' A' B' M' σr σr') (i1 : 22 ∉ I) (i2 : 23 ∉ I) (_ : 24 ∉ I) (_ : 25 ∉ I) (_ : 26 ∉ I) (_ : 27 ∉ I) (_ : 28 ∉ I) (a1 : 18 ∉ A) (_ : 19 ∉ A) (_ : 20 ∉ A) (_ : 21 ∉ A) (_ : 22 ∉ A) (_ : 23 ∉ A) (b1 : 1 ∉ B) (_ : 0 ∉ M) (_ : 1 ∉ M) (j1 : 15 ∉ I') (j2 : 16 ∉ I') (c1 : 11 ∉ A') (_ : 12 ∉ A') (_ : 13 ∉ A') (_ : 14 ∉ A') (_ : 15 ∉ A') (_ : 16 ∉ A') (_ : 17 ∉ A') (_ : 18 ∉ A') (_ : 19 ∉ A') (_ : 20 ∉ A') (d1 : 1 ∉ B') (k1 : 10 ∉ I := by simp) (k2 : 11 ∉ I := by simp) : MRw κ W f b σc' σr' := by
  unfold MRw wfC WKr Kp at *
  rw [p.1 22 i1, p.1 23 i2, p.1 10 k1, p.1 11 k2, p.2.2.1 18 a1, p.2.2.2.1 1 b1, q.1 15 j1, q.1 16 j2, q.2.2.1 11 c1, q.2.2.2.1 1 d1]
  exact h
theorem MR_mkw {κ : ej_S} {W : Prop} {f : Nat} {b : Bool} {σc σr σc' σr' : ej_S} (h : MRw κ W f b σc σr) (e1 : gI σc' 22 = gI σc 22) (e2 : gI σc' 23 = gI σc 23) (e3 : gI σr' 15 = gI σr 15) (e4 : gI σr' 16 = gI σr 16) (e5 : gB σc' 1 = gB σc 1) (e6 : gA σc' 18 = gA σc 18) (e7 : gB σr' 1 = gB σr 1) (e8 : gA σr' 11 = gA σr 11) (e9 : gI σc' 10 = gI σc 10) (e10 : gI σc' 11 = gI σc 11) : MRw κ W f b σc' σr' := by
  unfold MRw wfC WKr Kp at *
  rw [e1, e2, e3, e4, e5, e6, e7, e8, e9, e10]
  exact h
/-- as many at least -/
theorem pig {Nr Nc : Nat} {Y X : Nat → Int64} {O P : Nat → Int32} (hU : wUni Nr Y O) (h : ∀ a, a < Nr → ∃ c, c < Nc ∧ X c = Y a ∧ P c = O a) : Nr ≤ Nc := by
  have hc : ∀ a, ∃ c, a < Nr → c < Nc ∧ X c = Y a ∧ P c = O a := by
    intro a
    rcases Nat.lt_or_ge a Nr with z | z
    · obtain ⟨c, w⟩ := h a z
      exact ⟨c, fun _ => w⟩
    · exact ⟨0, fun y => by omega⟩
  refine fb_holes Nc Nr (fun a => Classical.choose (hc a)) (fun i hi => (Classical.choose_spec (hc i) hi).1) (fun i j hij hj e => ?_)
  have s1 := Classical.choose_spec (hc i) (by omega)
  have s2 := Classical.choose_spec (hc j) hj
  have e' : Classical.choose (hc i) = Classical.choose (hc j) := e
  rw [e'] at s1
  exact hU i j hij hj ⟨s1.2.1.symm.trans s2.2.1, s1.2.2.symm.trans s2.2.2⟩
theorem uni_mk {N : Nat} {Y : Nat → Int64} {O : Nat → Int32} {v : Int64} {o : Int32} (h : wUni N Y O) (hno : ∀ i, i < N → ¬ (Y i = v ∧ O i = o)) : wUni (N + 1) (vp_updL Y N v) (upd O N o) := by
  intro a b hab hb
  by_cases e : b = N
  · subst e
    rw [pk_uLs, pk_us, pk_uLn (by omega), pk_un (by omega)]
    exact hno a hab
  · rw [pk_uLn e, pk_un e, pk_uLn (by omega), pk_un (by omega)]
    exact h a b hab (by omega)
section P95c
variable {κ : ej_S} {W : Prop} {n f N q a c : Nat} {σ σc σr : ej_S} {x x1 x2 y1 y2 p set set' : Int32} {v : Int64}
theorem s_linkw {b : Bool} (hm : MRw κ W f b σc σr) (hb : gI σr 6 = bI b) (h1 : NRw b x1 y1 σr) (h2 : NRw b x2 y2 σr) (_ : q ≤ 1000000) (right : Bool) : ∃ σc' σr', m0_addLink n x1 x2 (nI q) (bI right) σc = some σc' ∧ m11_links n y1 y2 (nI q) (bI right) σr = some σr' ∧ MRw κ W f b σc' σr' ∧ fr [] [] [20, 21] [] [0] σc σc' ∧ fr [] [] [16, 17] [] [] σr σr' ∧ mono σr σr' := by
  obtain ⟨d1, a, ha, rfl, -⟩ := h1
  obtain ⟨d2, c, hc, rfl, -⟩ := h2
  obtain ⟨σr', er, hr⟩ := r_links (n := n) (σ := σr) (p := nI q) ha hc right b hb
  have fr' : fr [] [] [16, 17] [] [] σr σr' := by
    rcases hr with ⟨_, _, _, e⟩ | ⟨_, e⟩
    · rw [e]; exact fr_uA (fr_uA fr_rf (by simp)) (by simp)
    · rw [e]; exact fr_rf
  obtain ⟨σc', ec, fc⟩ := x_addLink_any (n := n) (p := nI q) hm.1 d1 d2 right
  exact ⟨σc', σr', ec, er, MR_mkw hm (fc.1 22 (by simp)) (fc.1 23 (by simp)) (fr'.1 15 (by simp)) (fr'.1 16 (by simp)) (fc.2.2.2.1 1 (by simp)) (fc.2.2.1 18 (by simp)) (fr'.2.2.2.1 1 (by simp)) (fr'.2.2.1 11 (by simp)) (fc.1 10 (by simp)) (fc.1 11 (by simp)), fc, fr', mono_eq (fr'.1 15 (by simp)) (fr'.1 16 (by simp))⟩
theorem s_aliasw {b : Bool} {a c : Nat} (hm : MRw κ W f b σc σr) (h1 : NRw b x1 (nI a) σr) (h2 : NRw b x2 (nI c) σr) (ha : a < 24) (hc : c < 24) : ∃ σc', m0_addAlias n x1 x2 σc = some σc' ∧ MRw κ W f b σc' (rAl b a c σr) ∧ fr [] [] [19] [] [] σc σc' ∧ fr [] [] [19] [] [] σr (rAl b a c σr) ∧ mono σr (rAl b a c σr) := by
  obtain ⟨d1, _⟩ := h1
  obtain ⟨d2, _⟩ := h2
  have fr' : fr [] [] [19] [] [] σr (rAl b a c σr) := by
    unfold rAl; split
    · exact fr_uA (fr_uA fr_rf (by simp)) (by simp)
    · exact fr_rf
  obtain ⟨σc', ec, fc, _, _⟩ := x_addAlias_any (n := n) hm.1 d1 d2
  exact ⟨σc', ec, MR_mkw hm (fc.1 22 (by simp)) (fc.1 23 (by simp)) (fr'.1 15 (by simp)) (fr'.1 16 (by simp)) (fc.2.2.2.1 1 (by simp)) (fc.2.2.1 18 (by simp)) (fr'.2.2.2.1 1 (by simp)) (fr'.2.2.1 11 (by simp)) (fc.1 10 (by simp)) (fc.1 11 (by simp)), fc, fr', mono_eq (fr'.1 15 (by simp)) (fr'.1 16 (by simp))⟩
theorem s_membersw (hn : 2000 < n) {b : Bool} (hm : MRw κ W f b σc σr) (hb : gI σr 6 = bI b) (h1 : NRw b x (nI a) σr) (ha : a < 24) (_ : b = true → False → set = set') (_ : q ≤ 1000000) (right : Bool) : ∃ σc' σr', m0_addMembers n x set (nI q) (bI right) σc = some σc' ∧ m11_holds n (nI a) set' (nI q) (bI right) σr = some σr' ∧ MRw κ W f b σc' σr' ∧ fr [25, 26] [] [23] [] [1] σc σc' ∧ fr [] [] [12, 13, 20] [] [] σr σr' ∧ mono σr σr' := by
  obtain ⟨d1, _⟩ := h1
  obtain ⟨σc', ec, fc, _⟩ := x_addMembers (n := n) (set := set) (p := nI q) hn hm.1 d1 right
  cases b
  · exact ⟨σc', σr, ec, r_holds0 hb right, MR_mkw hm (fc.1 22 (by simp)) (fc.1 23 (by simp)) rfl rfl (fc.2.2.2.1 1 (by simp)) (fc.2.2.1 18 (by simp)) rfl rfl (fc.1 10 (by simp)) (fc.1 11 (by simp)), fc, fr_rf, mono_rf⟩
  · obtain ⟨N, h0, h15⟩ := hm.2.1
    obtain ⟨σr', er, fr', _⟩ := r_holds (n := n) (set := set') (p := nI q) hn h15 h0 ha hb right
    exact ⟨σc', σr', ec, er, MR_mkw hm (fc.1 22 (by simp)) (fc.1 23 (by simp)) (fr'.1 15 (by simp)) (fr'.1 16 (by simp)) (fc.2.2.2.1 1 (by simp)) (fc.2.2.1 18 (by simp)) (fr'.2.2.2.1 1 (by simp)) (fr'.2.2.1 11 (by simp)) (fc.1 10 (by simp)) (fc.1 11 (by simp)), fc, fr', mono_eq (fr'.1 15 (by simp)) (fr'.1 16 (by simp))⟩
theorem s_item58w {b : Bool} {w : Int64} (hm : MRw κ W f b σc σr) (hb : gI σr 6 = bI b) (h1 : NRw b x (nI a) σr) (ha : a < 24) (k : Nat) (_ : (k = 1 ∧ w = 1684104548) ∨ (k = 3 ∧ w = 431198855527) ∨ (k = 2 ∧ w = 28556934595048048)) : ∃ σc' σr', (if k = 1 then m0_kill n x σc else if k = 3 then m0_gate n x σc else some σc) = some σc' ∧ m11_isItem_58 n w (nI a) σr = some (nI 1, σr') ∧ MRw κ W f b σc' σr' ∧ fr [27, 28] [] [] [] [] σc σc' ∧ fr [] [] [14, 15] [] [] σr σr' ∧ mono σr σr' := by
  obtain ⟨d1, _⟩ := h1
  have er := r_item (n := n) (σ := σr) w ha hb
  have fin : ∀ σc', (if k = 1 then m0_kill n x σc else if k = 3 then m0_gate n x σc else some σc) = some σc' → fr [27, 28] [] [] [] [] σc σc' → ∃ σc' σr', (if k = 1 then m0_kill n x σc else if k = 3 then m0_gate n x σc else some σc) = some σc' ∧ m11_isItem_58 n w (nI a) σr = some (nI 1, σr') ∧ MRw κ W f b σc' σr' ∧ fr [27, 28] [] [] [] [] σc σc' ∧ fr [] [] [14, 15] [] [] σr σr' ∧ mono σr σr' := by
    intro σc' ec fc
    exact ⟨σc', _, ec, er, MR_mkw hm (fc.1 22 (by simp)) (fc.1 23 (by simp)) rfl rfl (fc.2.2.2.1 1 (by simp)) (fc.2.2.1 18 (by simp)) rfl rfl (fc.1 10 (by simp)) (fc.1 11 (by simp)), fc, fr_uA (fr_uA fr_rf (by simp)) (by simp), mono_rf⟩
  by_cases k1 : k = 1
  · obtain ⟨σc', ec, fc, _⟩ := x_kill (n := n) (σ := σc) d1
    exact fin σc' (by rw [if_pos k1]; exact ec) (fr_wk fc (by simp) (by simp) (by simp) (by simp) (by simp))
  · by_cases k3 : k = 3
    · obtain ⟨σc', ec, fc, _⟩ := x_gate (n := n) (σ := σc) d1
      exact fin σc' (by rw [if_neg k1, if_pos k3]; exact ec) (fr_wk fc (by simp) (by simp) (by simp) (by simp) (by simp))
    · exact fin σc (by rw [if_neg k1, if_neg k3]) fr_rf
theorem s_killLinkw {b : Bool} (hm : MRw κ W f b σc σr) (h1 : NRw b x1 (nI a) σr) (h2 : NRw b x2 (nI c) σr) (_ : a < 24) (_ : c < 24) : ∃ σc', m0_killLink n x1 x2 σc = some σc' ∧ MRw κ W f b σc' (rDl b (24 * a + c) σr) ∧ fr [] [] [22] [] [] σc σc' ∧ fr [] [] [18] [] [] σr (rDl b (24 * a + c) σr) ∧ mono σr (rDl b (24 * a + c) σr) := by
  obtain ⟨d1, _⟩ := h1
  obtain ⟨d2, _⟩ := h2
  obtain ⟨σc', ec, fc, _⟩ := x_killLink (n := n) hm.1 d1 d2
  exact ⟨σc', ec, MR_mkw hm (fc.1 22 (by simp)) (fc.1 23 (by simp)) rfl rfl (fc.2.2.2.1 1 (by simp)) (fc.2.2.1 18 (by simp)) rfl rfl (fc.1 10 (by simp)) (fc.1 11 (by simp)), fc, fr_uA fr_rf (by simp), mono_rf⟩
/-- what the class makes of a name -/
theorem c_nodew (hn : 2000 < n) (hf4 : f < 4) (h : wfC σc) (hv : isNm v) (asP : Bool) : ∃ x σc', m0_nodeFor n v (nI f) (bI asP) σc = some (x, σc') ∧ ND x ∧ wfC σc' ∧ fr [22, 23, 24] [] [18] [1] [] σc σc' ∧ (gI σc 23 = nI 1 → gI σc' 23 = nI 1) ∧ (gI σc' 23 = nI 1 ∨ ∀ Nc, Nc ≤ 24 → gI σc 22 = nI Nc → (σc' = σc ∧ ∃ i, i < Nc ∧ gB σc 1 i = v ∧ gA σc 18 i = nI f) ∨ ((∀ i, i < Nc → ¬ (gB σc 1 i = v ∧ gA σc 18 i = nI f)) ∧ asP = false ∧ σc' = σc ∧ ∃ i, i < Nc ∧ gB σc 1 i = v ∧ gA σc 18 i = zm) ∨ ((∀ i, i < Nc → ¬ (gB σc 1 i = v ∧ gA σc 18 i = nI f)) ∧ (asP = false → ∀ i, i < Nc → ¬ (gB σc 1 i = v ∧ gA σc 18 i = zm)) ∧ Nc < 24 ∧ gI σc' 22 = nI (Nc + 1) ∧ gB σc' 1 = vp_updL (gB σc 1) Nc v ∧ gA σc' 18 = upd (gA σc 18) Nc (if asP = true then nI f else zm))) := by
  obtain ⟨N, hN, hc⟩ := h
  have one : ∀ Nc, Nc ≤ 24 → gI σc 22 = nI Nc → Nc = N := fun Nc h1 h2 => (nI_eq (by omega) (by omega)).mp (h2.symm.trans hc)
  rcases x_nodeFor (n := n) (v := v) hn hc hN asP (nI f) with ⟨i, h1, h2, h3, h4⟩ | ⟨h0, h1, i, h2, h3, h4, h5⟩ | ⟨h0, h1, h2⟩
  · exact ⟨nI i, σc, h4, .inr ⟨i, by omega, rfl⟩, ⟨N, hN, hc⟩, fr_rf, fun z => z, .inr (fun Nc a1 a2 => by rw [one Nc a1 a2]; exact .inl ⟨rfl, i, h1, h2, h3⟩)⟩
  · exact ⟨nI i, σc, h5, .inr ⟨i, by omega, rfl⟩, ⟨N, hN, hc⟩, fr_rf, fun z => z, .inr (fun Nc a1 a2 => by rw [one Nc a1 a2]; exact .inr (.inl ⟨h0, h1, rfl, i, h2, h3, h4⟩))⟩
  · rcases Nat.lt_or_ge N 24 with q | q
    · obtain ⟨σc', e1, f1, p1, p2, p3, _⟩ := x_make (n := n) hv hc q asP (nI f)
      refine ⟨nI N, σc', h2.trans e1, .inr ⟨N, q, rfl⟩, ⟨N + 1, q, p1⟩, fr_wk f1 (by simp) (by simp) (by simp) (by simp) (by simp), fun z => by rw [f1.1 23 (by simp)]; exact z, .inr (fun Nc a1 a2 => ?_)⟩
      rw [one Nc a1 a2]
      exact .inr (.inr ⟨h0, h1, q, p1, p2, p3⟩)
    · have e24 : N = 24 := by omega
      subst e24
      exact ⟨zm, _, h2.trans (x_make_no hc _ _), .inl rfl, ⟨24, by omega, by rw [s_II_n (by omega)]; exact hc⟩, fr_uI fr_rf (by simp), fun _ => s_II_s, .inl s_II_s⟩
theorem s_nodew (hn : 2000 < n) (hf4 : f < 4) {b : Bool} (hm : MRw κ W f b σc σr) (hb : gI σr 6 = bI b) (hf : b = true → gI σr 7 = nI f) (hv : isNm v) (asP : Bool) : ∃ x y σc' σr', m0_nodeFor n v (nI f) (bI asP) σc = some (x, σc') ∧ (if asP = true then m11_privately n v σr else m11_nodeOf n v σr) = some (y, σr') ∧ MRw κ W f b σc' σr' ∧ NRw b x y σr' ∧ fr [22, 23, 24] [] [18] [1] [] σc σc' ∧ fr [15, 16] [] [11] [1] [] σr σr' ∧ mono σr σr' := by
  obtain ⟨x, σc', e1, d1, w1, f1, k1, k2⟩ := c_nodew (n := n) hn hf4 hm.1 hv asP
  have hK : Kp κ σc' := Kp_fr hm.2.2.1 f1 (by simp) (by simp)
  cases b
  · -- nothing is built
    have hr : (if asP = true then m11_privately n v σr else m11_nodeOf n v σr) = some (nI 0, σr) := by
      cases asP
      · simp only [Bool.false_eq_true, if_false]; unfold m11_nodeOf; rw [hb, L_0, bI_f, if_pos rfl]
      · simp only [if_true]; unfold m11_privately; rw [hb, L_0, bI_f, if_pos rfl]
    refine ⟨x, nI 0, σc', σr, e1, hr, ⟨w1, hm.2.1, hK, fun hW => ?_⟩, ⟨d1, 0, by omega, rfl, fun z => by cases z⟩, f1, fr_rf, mono_rf⟩
    rcases k2 with k2 | k2
    · exact .inl k2
    · rcases hm.2.2.2 hW with g | ⟨g16, Nc, Nr, g1, g2, g3, g4, g5, g6, g7, g8⟩
      · exact .inl (k1 g)
      · rcases k2 Nc g1 g3 with ⟨rfl, _⟩ | ⟨_, _, rfl, _⟩ | ⟨j1, j2, j3, j4, j5, j6⟩
        · exact .inr ⟨g16, Nc, Nr, g1, g2, g3, g4, g5, g6, g7, g8⟩
        · exact .inr ⟨g16, Nc, Nr, g1, g2, g3, g4, g5, g6, g7, g8⟩
        · refine .inr ⟨g16, Nc + 1, Nr, j3, g2, j4, g4, g5, fun a ha => ?_, fun c hc => ?_, fun z => by cases z⟩
          · obtain ⟨c, c1, c2, c3⟩ := g6 a ha
            exact ⟨c, by omega, by rw [j5, pk_uLn (by omega)]; exact c2, by rw [j6, pk_un (by omega)]; exact c3⟩
          · rw [j6]
            by_cases e : c = Nc
            · subst e; rw [pk_us]
              cases asP
              · exact .inl rfl
              · exact .inr ⟨f, Nat.le_refl f, rfl⟩
            · rw [pk_un e]; exact g7 c (by omega)
  · -- the reference builds
    have hb' : gI σr 6 = nI 1 := hb
    have hf' := hf rfl
    obtain ⟨N, hN, hr⟩ := hm.2.1
    have hNN := NN_eq hr hN
    -- what the reference makes of it, where nothing is to be told
    have any : ∃ y σr', (if asP = true then m11_privately n v σr else m11_nodeOf n v σr) = some (y, σr') ∧ (∃ a, a < 24 ∧ y = nI a) ∧ fr [15, 16] [] [11] [1] [] σr σr' ∧ mono σr σr' ∧ (∃ N, N ≤ 24 ∧ gI σr' 15 = nI N) := by
      rcases r_nodeOf (n := n) (v := v) hn hb' hf' hr hN asP with ⟨j, g1, g2, g3, g4⟩ | ⟨g0, g1, j, g2, g3, g4, g5⟩ | ⟨g0, g1, g2⟩
      · exact ⟨_, _, g4, ⟨j, by omega, rfl⟩, fr_rf, mono_rf, N, hN, hr⟩
      · exact ⟨_, _, g5, ⟨j, by omega, rfl⟩, fr_rf, mono_rf, N, hN, hr⟩
      · rcases Nat.lt_or_ge N 24 with q | q
        · obtain ⟨σr', e2, f2, q1, q2, q3⟩ := r_make (n := n) (v := v) hr q (if asP = true then nI f else zm)
          have hNN' := NN_eq q1 q
          exact ⟨_, σr', g2.trans e2, ⟨N, q, rfl⟩, fr_wk f2 (by simp) (by simp) (by simp) (by simp) (by simp), ⟨by rw [hNN, hNN']; omega, fun z => by rw [f2.1 16 (by decide)] at z; exact z⟩, N + 1, q, q1⟩
        · have e24 : N = 24 := by omega
          subst e24
          have hN' : NN (uI σr 16 (nI 1)) = 24 := NN_eq (by rw [s_II_n (by omega)]; exact hr) (by omega)
          exact ⟨_, _, g2.trans (r_make_no hr _), ⟨0, by omega, rfl⟩, fr_uI fr_rf (by simp), ⟨by rw [hN', hNN]; omega, fun z => by rw [s_II_s] at z; exact absurd z.symm n01⟩, 24, by omega, by rw [s_II_n (by omega)]; exact hr⟩
    have left : (W → gI σc' 23 = nI 1) → ∃ x y σc' σr', m0_nodeFor n v (nI f) (bI asP) σc = some (x, σc') ∧ (if asP = true then m11_privately n v σr else m11_nodeOf n v σr) = some (y, σr') ∧ MRw κ W f true σc' σr' ∧ NRw true x y σr' ∧ fr [22, 23, 24] [] [18] [1] [] σc σc' ∧ fr [15, 16] [] [11] [1] [] σr σr' ∧ mono σr σr' := by
      intro z
      obtain ⟨y, σr', a1, ⟨a, a2, a3⟩, a4, a5, a6⟩ := any
      exact ⟨x, y, σc', σr', e1, a1, ⟨w1, a6, hK, fun hW => .inl (z hW)⟩, ⟨d1, a, a2, a3, fun _ w => w.elim⟩, f1, a4, a5⟩
    by_cases hW : W
    rotate_left
    · exact left (fun z => absurd z hW)
    rcases k2 with k2 | k2
    · exact left (fun _ => k2)
    rcases hm.2.2.2 hW with g | ⟨g16, Nc, Nr, g1, g2, g3, g4, g5, g6, g7, g8⟩
    · exact left (fun _ => k1 g)
    have eN : Nr = N := (nI_eq (by omega) (by omega)).mp (g4.symm.trans hr)
    subst eN
    have g8' := g8 rfl
    have hle := pig g5 g6
    rcases k2 Nc g1 g3 with ⟨rfl, i, i1, i2, i3⟩ | ⟨j0, jP, rfl, i, i1, i2, i3⟩ | ⟨j1, j2, j3, j4, j5, j6⟩
    · rcases r_nodeOf (n := n) (v := v) hn hb' hf' hr hN asP with ⟨j, h1, h2, h3, h4⟩ | ⟨h0, h1, j, h2, h3, h4, h5⟩ | ⟨h0, h1, h2⟩
      · exact ⟨x, nI j, σc', σr, e1, h4, hm, ⟨d1, j, by omega, rfl, fun _ w => w.elim⟩, f1, fr_rf, mono_rf⟩
      · obtain ⟨a, a1, a2, a3⟩ := g8' i i1 i3
        exact absurd ⟨a2.trans i2, a3⟩ (h0 a a1)
      · obtain ⟨a, a1, a2, a3⟩ := g8' i i1 i3
        exact absurd ⟨a2.trans i2, a3⟩ (h0 a a1)
    · rcases r_nodeOf (n := n) (v := v) hn hb' hf' hr hN asP with ⟨j, h1, h2, h3, h4⟩ | ⟨h0, h1, j, h2, h3, h4, h5⟩ | ⟨h0, h1, h2⟩
      · obtain ⟨c, c1, c2, c3⟩ := g6 j h1
        exact absurd ⟨c2.trans h2, c3.trans h3⟩ (j0 c c1)
      · exact ⟨x, nI j, σc', σr, e1, h5, hm, ⟨d1, j, by omega, rfl, fun _ w => w.elim⟩, f1, fr_rf, mono_rf⟩
      · have hU := uni_mk g5 (fun i hi z => h1 jP i hi z)
        have h6 : ∀ a, a < Nr + 1 → ∃ c, c < Nc ∧ gB σc' 1 c = vp_updL (gB σr 1) Nr v a ∧ gA σc' 18 c = upd (gA σr 11) Nr zm a := by
          intro a ha
          by_cases e : a = Nr
          · subst e; exact ⟨i, i1, by rw [pk_uLs]; exact i2, by rw [pk_us]; exact i3⟩
          · obtain ⟨c, c1, c2, c3⟩ := g6 a (by omega)
            exact ⟨c, c1, by rw [pk_uLn e]; exact c2, by rw [pk_un e]; exact c3⟩
        have hle2 := pig hU h6
        obtain ⟨σr', e2, f2, q1, q2, q3⟩ := r_make (n := n) (v := v) hr (show Nr < 24 by omega) (if asP = true then nI f else zm)
        have eo : (if asP = true then nI f else zm) = zm := by rw [jP]; rfl
        rw [eo] at q3
        have hNN' := NN_eq q1 (by omega)
        refine ⟨x, nI Nr, σc', σr', e1, h2.trans e2, ⟨hm.1, ⟨Nr + 1, by omega, q1⟩, hK, fun _ => .inr ⟨by rw [f2.1 16 (by simp)]; exact g16, Nc, Nr + 1, g1, by omega, g3, q1, by rw [q2, q3]; exact hU, fun a ha => by rw [q2, q3]; exact h6 a ha, g7, fun _ c hc z => ?_⟩⟩, ⟨d1, Nr, by omega, rfl, fun _ w => w.elim⟩, f1, fr_wk f2 (by simp) (by simp) (by simp) (by simp) (by simp), ⟨by rw [hNN, hNN']; omega, fun z => by rw [f2.1 16 (by decide)] at z; exact z⟩⟩
        obtain ⟨a, a1, a2, a3⟩ := g8' c hc z
        exact ⟨a, by omega, by rw [q2, pk_uLn (by omega)]; exact a2, by rw [q3, pk_un (by omega)]; exact a3⟩
    · rcases r_nodeOf (n := n) (v := v) hn hb' hf' hr hN asP with ⟨j, h1, h2, h3, h4⟩ | ⟨h0, h1, j, h2, h3, h4, h5⟩ | ⟨h0, h1, h2⟩
      · obtain ⟨c, c1, c2, c3⟩ := g6 j h1
        exact absurd ⟨c2.trans h2, c3.trans h3⟩ (j1 c c1)
      · obtain ⟨c, c1, c2, c3⟩ := g6 j h2
        exact absurd ⟨c2.trans h3, c3.trans h4⟩ (j2 h1 c c1)
      · obtain ⟨σr', e2, f2, q1, q2, q3⟩ := r_make (n := n) (v := v) hr (show Nr < 24 by omega) (if asP = true then nI f else zm)
        have hNN' := NN_eq q1 (by omega)
        have hU : wUni (Nr + 1) (gB σr' 1) (gA σr' 11) := by
          rw [q2, q3]
          refine uni_mk g5 (fun i hi z => ?_)
          cases asP
          · exact h1 rfl i hi z
          · exact h0 i hi z
        refine ⟨x, nI Nr, σc', σr', e1, h2.trans e2, ⟨w1, ⟨Nr + 1, by omega, q1⟩, hK, fun _ => .inr ⟨by rw [f2.1 16 (by simp)]; exact g16, Nc + 1, Nr + 1, j3, by omega, j4, q1, hU, fun a ha => ?_, fun c hc => ?_, fun _ c hc z => ?_⟩⟩, ⟨d1, Nr, by omega, rfl, fun _ w => w.elim⟩, f1, fr_wk f2 (by simp) (by simp) (by simp) (by simp) (by simp), ⟨by rw [hNN, hNN']; omega, fun z => by rw [f2.1 16 (by decide)] at z; exact z⟩⟩
        · rw [q2, q3, j5, j6]
          by_cases e : a = Nr
          · subst e; exact ⟨Nc, by omega, by rw [pk_uLs, pk_uLs], by rw [pk_us, pk_us]⟩
          · obtain ⟨c, c1, c2, c3⟩ := g6 a (by omega)
            exact ⟨c, by omega, by rw [pk_uLn (by omega), pk_uLn e]; exact c2, by rw [pk_un (by omega), pk_un e]; exact c3⟩
        · rw [j6]
          by_cases e : c = Nc
          · subst e; rw [pk_us]
            cases asP
            · exact .inl rfl
            · exact .inr ⟨f, Nat.le_refl f, rfl⟩
          · rw [pk_un e]; exact g7 c (by omega)
        · rw [q2, q3, j5]
          rw [j6] at z
          by_cases e : c = Nc
          · subst e
            rw [pk_us] at z
            exact ⟨Nr, by omega, by rw [pk_uLs, pk_uLs], by rw [pk_us]; exact z⟩
          · rw [pk_un e] at z
            obtain ⟨a, a1, a2, a3⟩ := g8' c (by omega) z
            exact ⟨a, by omega, by rw [pk_uLn (by omega), pk_uLn e]; exact a2, by rw [pk_un (by omega)]; exact a3⟩
end P95c
