/-! A NAME IS FOUND OR MADE ALIKE -/
theorem own_in {N : Nat} {O : Nat → Int32} (h : wOwn N O) {a : Nat} (ha : a < N) (f : Nat) : O a = zm ∨ ∃ f, f < 4 ∧ O a = nI f := h a ha
section P62
variable {n f : Nat} {σc σr : ej_S} {v : Int64}
/-- two finds of one node -/
theorem uni_eq {N : Nat} {Y : Nat → Int64} {O : Nat → Int32} (h : wUni N Y O) {v : Int64} {o : Int32} {i j : Nat} (hi : i < N) (hj : j < N) (h1 : Y i = v ∧ O i = o) (h2 : Y j = v ∧ O j = o) : i = j := by
  rcases Nat.lt_trichotomy i j with q | q | q
  · exact absurd ⟨h1.1.trans h2.1.symm, h1.2.trans h2.2.symm⟩ (h i j q hj)
  · exact q
  · exact absurd ⟨h2.1.trans h1.1.symm, h2.2.trans h1.2.symm⟩ (h j i q hi)
theorem s_node0 (hn : 2000 < n) (hf4 : f < 4) (hm : MR false σc σr) (hb : gI σr 6 = bI false) (hv : isNm v) (asP : Bool) : ∃ x y σc' σr', m0_nodeFor n v (nI f) (bI asP) σc = some (x, σc') ∧ (if asP = true then m11_privately n v σr else m11_nodeOf n v σr) = some (y, σr') ∧ MR false σc' σr' ∧ NR false x y σr' ∧ fr [22, 23, 24] [] [18] [1] [] σc σc' ∧ fr [15, 16] [] [11] [1] [] σr σr' ∧ mono σr σr' := by
  obtain ⟨⟨N, hN, hc⟩, -⟩ := hm
  have hr : (if asP = true then m11_privately n v σr else m11_nodeOf n v σr) = some (nI 0, σr) := by
    cases asP
    · simp only [Bool.false_eq_true, if_false]; unfold m11_nodeOf; rw [hb, L_0, bI_f, if_pos rfl]
    · simp only [if_true]; unfold m11_privately; rw [hb, L_0, bI_f, if_pos rfl]
  have fin : ∀ x σc', m0_nodeFor n v (nI f) (bI asP) σc = some (x, σc') → wfC σc' → ND x → fr [22, 23, 24] [] [18] [1] [] σc σc' → ∃ x y σc' σr', m0_nodeFor n v (nI f) (bI asP) σc = some (x, σc') ∧ (if asP = true then m11_privately n v σr else m11_nodeOf n v σr) = some (y, σr') ∧ MR false σc' σr' ∧ NR false x y σr' ∧ fr [22, 23, 24] [] [18] [1] [] σc σc' ∧ fr [15, 16] [] [11] [1] [] σr σr' ∧ mono σr σr' :=
    fun x σc' e w d p => ⟨x, nI 0, σc', σr, e, hr, ⟨w, fun z => by cases z⟩, ⟨d, 0, by omega, rfl, fun z => by cases z⟩, p, fr_rf, mono_rf⟩
  rcases x_nodeFor (n := n) (v := v) hn hc hN asP (nI f) with ⟨i, h1, h2, h3, h4⟩ | ⟨h0, h1, i, h2, h3, h4, h5⟩ | ⟨h0, h1, h2⟩
  · exact fin _ _ h4 ⟨N, hN, hc⟩ (.inr ⟨i, by omega, rfl⟩) fr_rf
  · exact fin _ _ h5 ⟨N, hN, hc⟩ (.inr ⟨i, by omega, rfl⟩) fr_rf
  · rcases Nat.lt_or_ge N 24 with q | q
    · obtain ⟨σc', e1, f1, g1, g2⟩ := x_make (n := n) hv hc q asP (nI f)
      exact fin _ _ (h2.trans e1) ⟨N + 1, q, g1⟩ (.inr ⟨N, q, rfl⟩) (fr_wk f1 (by simp) (by simp) (by simp) (by simp) (by simp))
    · have e24 : N = 24 := by omega
      subst e24
      exact fin _ _ (h2.trans (x_make_no hc _ _)) ⟨24, by omega, by rw [s_II_n (by omega)]; exact hc⟩ (.inl rfl) (fr_uI fr_rf (by simp))
theorem s_node1 (hn : 2000 < n) (hf4 : f < 4) (hm : MR true σc σr) (hb : gI σr 6 = bI true) (hf : gI σr 7 = nI f) (hv : isNm v) (asP : Bool) : ∃ x y σc' σr', m0_nodeFor n v (nI f) (bI asP) σc = some (x, σc') ∧ (if asP = true then m11_privately n v σr else m11_nodeOf n v σr) = some (y, σr') ∧ MR true σc' σr' ∧ NR true x y σr' ∧ fr [22, 23, 24] [] [18] [1] [] σc σc' ∧ fr [15, 16] [] [11] [1] [] σr σr' ∧ mono σr σr' := by
  obtain ⟨⟨N0, hN0, hc0⟩, hm2⟩ := hm
  obtain ⟨hw, hrel, hcr⟩ := hm2 rfl
  obtain ⟨N, hN, hr, hfl, w1, w2, w3, w4, w5, w6, w7, w8⟩ := id hw
  have hNN := NN_eq hr hN
  have hb' : gI σr 6 = nI 1 := hb
  have h01 : ¬ nI 0 = nI 1 := by decide +kernel
  rcases hfl with hfl | hfl
  · -- not crowded
    obtain ⟨c1, c2, c3, c4, c5, c6, c7, c8, c9, c10, c11, c12, c13⟩ := id (hrel hfl)
    have hc : gI σc 22 = nI N := by rw [c1, hr]
    rw [hNN] at c3 c4 c5
    -- the same node in both
    have same : ∀ i y, i < N → y = nI i → (∀ a, a < 24 → True) → NR true (nI i) y σr := fun i y hi hy _ => ⟨.inr ⟨i, by omega, rfl⟩, i, by omega, hy, fun _ => ⟨by rw [hNN]; exact hi, fun _ => hy.symm⟩⟩
    have mr0 : MR true σc σr := ⟨⟨N0, hN0, hc0⟩, hm2⟩
    rcases x_nodeFor (n := n) (v := v) hn hc hN asP (nI f) with ⟨i, h1, h2, h3, h4⟩ | ⟨h0, h1, i, h2, h3, h4, h5⟩ | ⟨h0, h1, h2⟩
    · rcases r_nodeOf (n := n) (v := v) hn hb' hf hr hN asP with ⟨j, g1, g2, g3, g4⟩ | ⟨g0, g1, j, g2, g3, g4, g5⟩ | ⟨g0, g1, g2⟩
      · have e : i = j := uni_eq w3 h1 g1 ⟨by rw [← c3 i h1]; exact h2, by rw [← c4 i h1]; exact h3⟩ ⟨g2, g3⟩
        subst e
        exact ⟨_, _, _, _, h4, g4, mr0, same i _ h1 rfl (fun _ _ => trivial), fr_rf, fr_rf, mono_rf⟩
      · exact absurd ⟨by rw [← c3 i h1]; exact h2, by rw [← c4 i h1]; exact h3⟩ (g0 i h1)
      · exact absurd ⟨by rw [← c3 i h1]; exact h2, by rw [← c4 i h1]; exact h3⟩ (g0 i h1)
    · rcases r_nodeOf (n := n) (v := v) hn hb' hf hr hN asP with ⟨j, g1, g2, g3, g4⟩ | ⟨g0, g1, j, g2, g3, g4, g5⟩ | ⟨g0, g1, g2⟩
      · exact absurd ⟨by rw [c3 j g1]; exact g2, by rw [c4 j g1]; exact g3⟩ (h0 j g1)
      · have e : i = j := uni_eq w3 h2 g2 ⟨by rw [← c3 i h2]; exact h3, by rw [← c4 i h2]; exact h4⟩ ⟨g3, g4⟩
        subst e
        exact ⟨_, _, _, _, h5, g5, mr0, same i _ h2 rfl (fun _ _ => trivial), fr_rf, fr_rf, mono_rf⟩
      · exact absurd ⟨by rw [← c3 i h2]; exact h3, by rw [← c4 i h2]; exact h4⟩ (g1 h1 i h2)
    · rcases r_nodeOf (n := n) (v := v) hn hb' hf hr hN asP with ⟨j, g1, g2, g3, g4⟩ | ⟨g0, g1, j, g2, g3, g4, g5⟩ | ⟨g0, g1, g2⟩
      · exact absurd ⟨by rw [c3 j g1]; exact g2, by rw [c4 j g1]; exact g3⟩ (h0 j g1)
      · exact absurd ⟨by rw [c3 j g2]; exact g3, by rw [c4 j g2]; exact g4⟩ (h1 g1 j g2)
      · -- a new one
        rcases Nat.lt_or_ge N 24 with q | q
        · obtain ⟨σc', e1, f1, p1, p2, p3, p4⟩ := x_make (n := n) hv hc q asP (nI f)
          obtain ⟨σr', e2, f2, q1, q2, q3⟩ := r_make (n := n) (v := v) hr q (if asP = true then nI f else zm)
          have hNN' := NN_eq q1 q
          have m0 : mono σr σr' := ⟨by rw [hNN, hNN']; omega, fun z => by rw [f2.1 16 (by decide)] at z; exact z⟩
          refine ⟨_, _, σc', σr', h2.trans e1, g2.trans e2, ⟨⟨N + 1, q, p1⟩, fun _ => ⟨?_, fun _ => ?_, fun z => ?_⟩⟩, ⟨.inr ⟨N, q, rfl⟩, N, q, rfl, fun _ => ⟨by rw [hNN']; omega, fun _ => rfl⟩⟩, fr_wk f1 (by simp) (by simp) (by simp) (by simp) (by simp), fr_wk f2 (by simp) (by simp) (by simp) (by simp) (by simp), m0⟩
          · refine ⟨N + 1, q, q1, .inl (by rw [f2.1 16 (by decide)]; exact hfl), ?_, ?_, ?_, ?_, ?_, ?_, ?_, ?_, ?_⟩
            · intro a ha
              rw [q2]
              by_cases e : a = N
              · subst e; rw [pk_uLs]; exact hv
              · rw [pk_uLn e]; exact w1 a (by omega)
            · intro a ha
              rw [q3]
              by_cases e : a = N
              · subst e; rw [pk_us]
                cases asP
                · exact .inl rfl
                · exact .inr ⟨f, hf4, rfl⟩
              · rw [pk_un e]; exact w2 a (by omega)
            · intro a b hab hb2
              rw [q2, q3]
              by_cases e : b = N
              · subst e
                rw [pk_uLs, pk_us, pk_uLn (by omega), pk_un (by omega)]
                intro z
                cases asP
                · exact g1 rfl a hab z
                · exact g0 a hab z
              · rw [pk_uLn e, pk_un e, pk_uLn (by omega), pk_un (by omega)]
                exact w3 a b hab (by omega)
            · rw [f2.2.2.1 16 (by decide)]; exact w4
            · rw [f2.2.2.1 20 (by decide)]; exact w5
            · rw [f2.2.2.1 16 (by decide)]; exact fun a b ha hb3 z => w6 a b ha hb3 (by omega)
            · rw [f2.2.2.1 19 (by decide)]; exact fun a b ha hb3 z => w7 a b ha hb3 (by omega)
            · rw [f2.2.2.1 20 (by decide)]; exact fun a b ha hb3 z => w8.1 a b ha hb3 (by omega)
            · rw [f2.2.2.1 12 (by decide), f2.2.2.1 20 (by decide)]; exact w8.2
          · unfold relC
            rw [hNN', p1, q1, f1.1 23 (by decide), p2, q2, p3, q3, f1.1 25 (by decide), f1.1 26 (by decide), f1.1 27 (by decide), f1.1 28 (by decide), f1.2.2.1 19 (by decide), f1.2.2.1 20 (by decide), f1.2.2.1 21 (by decide), f1.2.2.1 22 (by decide), f1.2.2.1 23 (by decide), f1.2.2.2.2 0 (by decide), f1.2.2.2.2 1 (by decide), f2.2.2.1 12 (by decide), f2.2.2.1 13 (by decide), f2.2.2.1 14 (by decide), f2.2.2.1 15 (by decide), f2.2.2.1 16 (by decide), f2.2.2.1 17 (by decide), f2.2.2.1 18 (by decide), f2.2.2.1 19 (by decide), f2.2.2.1 20 (by decide)]
            refine ⟨rfl, c2, ?_, ?_, ?_, c6, c7, c8, c9, c10, c11, c12, c13⟩
            · intro a ha
              by_cases e : a = N
              · subst e; rw [pk_uLs, pk_uLs]
              · rw [pk_uLn e, pk_uLn e]; exact c3 a (by omega)
            · intro a ha
              by_cases e : a = N
              · subst e; rw [pk_us, pk_us]
              · rw [pk_un e, pk_un e]; exact c4 a (by omega)
            · intro a ha
              rw [p4 a ha, c5 a ha]
              by_cases e : a = N
              · subst e; rw [pk_uLs]
                constructor
                · rintro (z | z)
                  · omega
                  · exact ⟨by omega, z.2⟩
                · exact fun z => .inr ⟨rfl, z.2⟩
              · rw [pk_uLn e]
                constructor
                · rintro (z | z)
                  · exact ⟨by omega, z.2⟩
                  · exact absurd z.1 e
                · exact fun z => .inl ⟨by omega, z.2⟩
          · rw [f2.1 16 (by decide), hfl] at z; exact absurd z h01
        · have e24 : N = 24 := by omega
          subst e24
          have hN' : NN (uI σr 16 (nI 1)) = 24 := NN_eq (by rw [s_II_n (by omega)]; exact hr) (by omega)
          refine ⟨_, _, _, _, h2.trans (x_make_no hc _ _), g2.trans (r_make_no hr _), ⟨⟨24, by omega, by rw [s_II_n (by omega)]; exact hc⟩, fun _ => ⟨⟨24, by omega, by rw [s_II_n (by omega)]; exact hr, .inr s_II_s, w1, w2, w3, w4, w5, w6, w7, w8⟩, fun z => ?_, fun _ => ⟨s_II_s, by rw [s_II_n (by omega)]; exact hc, by rw [s_II_n (by omega)]; exact hr⟩⟩⟩, ⟨.inl rfl, 0, by omega, rfl, fun _ => ⟨?_, fun z => ?_⟩⟩, fr_uI fr_rf (by simp), fr_uI fr_rf (by simp), ⟨?_, fun z => ?_⟩⟩
          · rw [s_II_s] at z; exact absurd z.symm h01
          · rw [hN']; omega
          · rw [s_II_s] at z; exact absurd z.symm h01
          · rw [hN', hNN]; omega
          · rw [s_II_s] at z; exact absurd z.symm h01
  · -- crowded
    obtain ⟨k1, k2, k3⟩ := hcr hfl
    have e24 : N = 24 := by
      rw [hr] at k3; exact (nI_eq (by omega) (by omega)).mp k3
    subst e24
    have nr : ∀ x i, ND x → i < 24 → NR true x (nI i) σr := fun x i d hi => ⟨d, i, hi, rfl, fun _ => ⟨by rw [hNN]; exact hi, fun z => by rw [hfl] at z; exact absurd z.symm h01⟩⟩
    -- the class
    have hcl : ∃ x σc', m0_nodeFor n v (nI f) (bI asP) σc = some (x, σc') ∧ ND x ∧ gI σc' 22 = nI 24 ∧ gI σc' 23 = nI 1 ∧ fr [22, 23, 24] [] [18] [1] [] σc σc' := by
      rcases x_nodeFor (n := n) (v := v) hn k2 (by omega) asP (nI f) with ⟨i, h1, h2, h3, h4⟩ | ⟨h0, h1, i, h2, h3, h4, h5⟩ | ⟨h0, h1, h2⟩
      · exact ⟨_, _, h4, .inr ⟨i, by omega, rfl⟩, k2, k1, fr_rf⟩
      · exact ⟨_, _, h5, .inr ⟨i, by omega, rfl⟩, k2, k1, fr_rf⟩
      · exact ⟨_, _, h2.trans (x_make_no k2 _ _), .inl rfl, by rw [s_II_n (by omega)]; exact k2, s_II_s, fr_uI fr_rf (by simp)⟩
    obtain ⟨x, σc', e1, d1, d2, d3, f1⟩ := hcl
    have mr : ∀ σr', gI σr' 15 = nI 24 → gI σr' 16 = nI 1 → wfR σr' → MR true σc' σr' := fun σr' a1 a2 a3 => ⟨⟨24, by omega, d2⟩, fun _ => ⟨a3, fun z => by rw [a2] at z; exact absurd z.symm h01, fun _ => ⟨d3, d2, a1⟩⟩⟩
    rcases r_nodeOf (n := n) (v := v) hn hb' hf hr hN asP with ⟨j, g1, g2, g3, g4⟩ | ⟨g0, g1, j, g2, g3, g4, g5⟩ | ⟨g0, g1, g2⟩
    · exact ⟨_, _, _, _, e1, g4, mr σr hr hfl hw, nr x j d1 g1, f1, fr_rf, mono_rf⟩
    · exact ⟨_, _, _, _, e1, g5, mr σr hr hfl hw, nr x j d1 g2, f1, fr_rf, mono_rf⟩
    · have hw' : wfR (uI σr 16 (nI 1)) := ⟨24, by omega, by rw [s_II_n (by omega)]; exact hr, .inr s_II_s, w1, w2, w3, w4, w5, w6, w7, w8⟩
      have hN' : NN (uI σr 16 (nI 1)) = 24 := NN_eq (by rw [s_II_n (by omega)]; exact hr) (by omega)
      refine ⟨_, _, _, _, e1, g2.trans (r_make_no hr _), mr _ (by rw [s_II_n (by omega)]; exact hr) s_II_s hw', ⟨d1, 0, by omega, rfl, fun _ => ⟨by rw [hN']; omega, fun z => ?_⟩⟩, f1, fr_uI fr_rf (by simp), ⟨by rw [hN', hNN]; omega, fun z => ?_⟩⟩
      · rw [s_II_s] at z; exact absurd z.symm h01
      · rw [s_II_s] at z; exact absurd z.symm h01
theorem s_node (hn : 2000 < n) (hf4 : f < 4) {b : Bool} (hm : MR b σc σr) (hb : gI σr 6 = bI b) (hf : b = true → gI σr 7 = nI f) (hv : isNm v) (asP : Bool) : ∃ x y σc' σr', m0_nodeFor n v (nI f) (bI asP) σc = some (x, σc') ∧ (if asP = true then m11_privately n v σr else m11_nodeOf n v σr) = some (y, σr') ∧ MR b σc' σr' ∧ NR b x y σr' ∧ fr [22, 23, 24] [] [18] [1] [] σc σc' ∧ fr [15, 16] [] [11] [1] [] σr σr' ∧ mono σr σr' := by
  cases b
  · exact s_node0 hn hf4 hm hb hv asP
  · exact s_node1 hn hf4 hm hb (hf rfl) hv asP
end P62
