/-! TOKENS of what the law says -/
/-- what lies ahead behind a token -/
def nxt (r : List Nat) : List Nat := (r.drop (enL r)).drop (skp false (r.drop (enL r)))
def RD (σ : ej_S) (l r : List Nat) : Prop := ∃ b, b ≤ l.length ∧ l.drop b = r ∧ RA σ l b
def sld (r : List Nat) : Prop := skp false r = 0
theorem sld_nil : sld [] := rfl
theorem sld_c {c : Nat} {r : List Nat} (h : c ≠ 32 ∧ c ≠ 9 ∧ c ≠ 35) : sld (c :: r) := by
  show (if c = 32 ∨ c = 9 then _ else if c = 35 then _ else 0) = 0
  rw [if_neg (by omega), if_neg h.2.2]
theorem sld_32 {r : List Nat} : skp false (32 :: r) = skp false r + 1 := rfl
theorem nm_np {a : Nat} (ha : a < 10) : isNP (97 + a) = true ∧ srtc (97 + a) = 97 := by
  have e : isNS (97 + a) = true := by
    unfold isNS
    rw [decide_eq_true (show 97 ≤ 97 + a by omega), decide_eq_true (show 97 + a ≤ 122 by omega)]; rfl
  refine ⟨?_, ?_⟩
  · unfold isNP; rw [e]; rfl
  · unfold srtc; rw [if_pos e]
/-- a one-letter name -/
theorem tk_nm {a c : Nat} {r : List Nat} (ha : a < 10) (hc : isNP c = false) : srL ((97 + a) :: c :: r) = 97 ∧ enL ((97 + a) :: c :: r) = 1 ∧ nxt ((97 + a) :: c :: r) = (c :: r).drop (skp false (c :: r)) := by
  have e1 := (nm_np ha).2
  have e2 : enL ((97 + a) :: c :: r) = 1 := by
    show 1 + spn (gon (srtc (97 + a))) (c :: r) = 1
    rw [e1]
    show 1 + (if gon 97 c then _ else 0) = 1
    rw [gon_97, hc]; rfl
  refine ⟨e1, e2, ?_⟩
  unfold nxt
  rw [e2]; rfl
/-- a sign -/
theorem tk_sg {c : Nat} {r : List Nat} (hc : srtc c = c) (h1 : c ≠ 97) (h2 : c ≠ 65) (h3 : c ≠ 48) : srL (c :: r) = c ∧ enL (c :: r) = 1 ∧ nxt (c :: r) = r.drop (skp false r) := by
  have e2 : enL (c :: r) = 1 := by
    show 1 + spn (gon (srtc c)) r = 1
    rw [hc, spn_no (gon_no h1 h2 h3)]
  refine ⟨hc, e2, ?_⟩
  unfold nxt
  rw [e2]; rfl
theorem dg_is {q e : Nat} : ∀ b ∈ dgF q e, isDg b = true := by
  induction e with
  | zero => intro b h; cases h
  | succ e ih =>
    intro b h
    rcases List.mem_cons.mp h with rfl | h
    · have : q / 10 ^ e % 10 < 10 := Nat.mod_lt _ (by omega)
      unfold isDg
      rw [decide_eq_true (show 48 ≤ 48 + q / 10 ^ e % 10 by omega), decide_eq_true (show 48 + q / 10 ^ e % 10 ≤ 57 by omega)]; rfl
    · exact ih b h
theorem spn_app {p : Nat → Bool} {c : Nat} {r : List Nat} (hc : p c = false) : ∀ (w : List Nat), (∀ b ∈ w, p b = true) → spn p (w ++ c :: r) = w.length := by
  intro w
  induction w with
  | nil => intro _; show (if p c then _ else 0) = 0; rw [hc]; rfl
  | cons b w ih =>
    intro h
    show (if p b then spn p (w ++ c :: r) + 1 else 0) = _
    rw [if_pos (h b List.mem_cons_self), ih (fun x hx => h x (List.mem_cons_of_mem _ hx))]; rfl
theorem dg_sr {b : Nat} (h : isDg b = true) : srtc b = 48 := by
  have := isDg_gt h
  unfold srtc
  rw [if_neg (by unfold isNS; rw [decide_eq_false (by omega), decide_eq_false (show ¬ b = 46 by omega)]; simp), if_neg (by unfold isUp; rw [decide_eq_false (by omega)]; simp), if_pos h]
theorem tk_dg' {q c : Nat} {r : List Nat} (hc : isDg c = false) : srL (dgs q ++ c :: r) = 48 ∧ enL (dgs q ++ c :: r) = (dgs q).length ∧ nxt (dgs q ++ c :: r) = (c :: r).drop (skp false (c :: r)) := by
  have hd : ∀ b ∈ dgs q, isDg b = true := dg_is
  have hl := (dgs_len q).2
  have key : ∀ w : List Nat, (∀ b ∈ w, isDg b = true) → 1 ≤ w.length → srL (w ++ c :: r) = 48 ∧ enL (w ++ c :: r) = w.length := by
    intro w hw hl
    cases w with
    | nil => exact absurd hl (by decide)
    | cons b w =>
      have e1 := dg_sr (hw b List.mem_cons_self)
      refine ⟨e1, ?_⟩
      show 1 + spn (gon (srtc b)) (w ++ c :: r) = _
      rw [e1, spn_cg _ gon_48, spn_app hc w (fun x hx => hw x (List.mem_cons_of_mem _ hx))]
      show _ = w.length + 1
      omega
  obtain ⟨k1, k2⟩ := key _ hd hl
  refine ⟨k1, k2, ?_⟩
  unfold nxt
  rw [k2, List.drop_left]
theorem nmR_dg {q : Nat} (hq : q ≤ 1000000) : ∀ (e a : Nat), a * 10 ^ e + q % 10 ^ e ≤ 1000000 → nmR a (dgF q e) = a * 10 ^ e + q % 10 ^ e := by
  intro e
  induction e with
  | zero => intro a _; show a = a * 10 ^ 0 + q % 10 ^ 0; rw [Nat.pow_zero, Nat.mod_one]; omega
  | succ e ih =>
    intro a h
    show nmR (if a ≤ 1000000 then 10 * a + (48 + q / 10 ^ e % 10) - 48 else a) (dgF q e) = _
    have hp : 0 < 10 ^ e := Nat.pow_pos (by omega)
    have e1 : q % 10 ^ (e + 1) = (q / 10 ^ e % 10) * 10 ^ e + q % 10 ^ e := by
      rw [Nat.pow_succ, Nat.mod_mul]
      rw [Nat.add_comm, Nat.mul_comm]
    have e2 : a * 10 ^ (e + 1) + q % 10 ^ (e + 1) = (10 * a + q / 10 ^ e % 10) * 10 ^ e + q % 10 ^ e := by
      rw [e1, Nat.pow_succ, Nat.add_mul, show a * (10 ^ e * 10) = 10 * a * 10 ^ e by rw [Nat.mul_comm (10 ^ e) 10, ← Nat.mul_assoc, Nat.mul_comm a 10]]
      omega
    have ha : a ≤ 1000000 := by
      have : a ≤ a * 10 ^ (e + 1) := Nat.le_mul_of_pos_right _ (Nat.pow_pos (by omega))
      omega
    rw [if_pos ha, show 10 * a + (48 + q / 10 ^ e % 10) - 48 = 10 * a + q / 10 ^ e % 10 by omega, e2]
    exact ih _ (by rw [← e2]; exact h)
theorem nmR_dgs {q : Nat} (hq : q < 1000000) : nmR 0 (dgs q) = q := by
  have h10 : q < 10 ^ ndg q := by
    unfold ndg
    repeat' split
    all_goals first | exact Nat.lt_of_lt_of_le (by assumption) (by decide) | exact hq
  unfold dgs
  rw [nmR_dg (by omega) _ _ (by rw [Nat.mod_eq_of_lt h10]; omega), Nat.mod_eq_of_lt h10]
  omega
section P97o
variable {n f q : Nat} {σ : ej_S} {l r : List Nat}
theorem RD_fr {I J A B M : List Nat} {s : ej_S} (h : RD σ l r) (p : fr I J A B M σ s) (h1 : 1 ∉ I) (h2 : 2 ∉ I) (h3 : 3 ∉ I) (h4 : 4 ∉ I) (h5 : 5 ∉ I) (hJ : 0 ∉ J) : RD s l r := by
  obtain ⟨b, b1, b2, b3⟩ := h
  refine ⟨b, b1, b2, ?_⟩
  unfold RA at *
  rw [p.1 1 h1, p.1 2 h2, p.1 3 h3, p.1 4 h4, p.1 5 h5, p.2.1 0 hJ]
  exact b3
theorem RD_2 (h : RD σ l r) : gI σ 2 = nI (rs (srL r)) := by
  obtain ⟨b, b1, b2, b3⟩ := h
  rw [← b2]; exact b3.2.1
theorem RD_nm (h : RD σ l r) (hs : srL r = 97) : gI σ 4 = nI (enL r) ∧ gJ σ 0 = lN (pkL ((r.take (enL r)).take 8)) := by
  obtain ⟨b, b1, b2, b3⟩ := h
  subst b2
  exact b3.2.2.2.1 hs
theorem RD_dg (h : RD σ l r) (hs : srL r = 48) : gI σ 5 = nI (nmR 0 (r.take (enL r))) := by
  obtain ⟨b, b1, b2, b3⟩ := h
  subst b2
  exact b3.2.2.2.2.2 hs
theorem r_nx (hn : 2000 < n) (hs : RS σ f l) (h : RD σ l r) : ∃ σ', m11_next n σ = some σ' ∧ RD σ' l (nxt r) ∧ fr [1, 2, 3, 4, 5] [0] [] [] [] σ σ' := by
  obtain ⟨b, b1, b2, b3⟩ := h
  obtain ⟨σ', e1, e2, e3⟩ := r_next (n := n) hn hs b3.1 (en_le b1)
  refine ⟨σ', e1, ⟨sx l (en l b), sx_le (en_le b1), ?_, e2⟩, e3⟩
  subst b2
  unfold nxt sx en
  rw [← List.drop_drop, ← List.drop_drop]
/-- from the beginning -/
theorem r_nx0 (hn : 2000 < n) (hs : RS σ f l) (h : gI σ 1 = nI 0) (hl : sld l) : ∃ σ', m11_next n σ = some σ' ∧ RD σ' l l ∧ fr [1, 2, 3, 4, 5] [0] [] [] [] σ σ' := by
  obtain ⟨σ', e1, e2, e3⟩ := r_next (n := n) hn hs h (Nat.zero_le _)
  refine ⟨σ', e1, ⟨sx l 0, sx_le (Nat.zero_le _), ?_, e2⟩, e3⟩
  unfold sx
  rw [List.drop_zero, hl]; rfl
/-- a name, read -/
theorem RD_name {a c : Nat} (ha : a < 10) (hc : isNP c = false) (h : RD σ l ((97 + a) :: c :: r)) : gI σ 2 = nI 1 ∧ gI σ 4 = nI 1 ∧ gJ σ 0 = lN (97 + a) := by
  obtain ⟨t1, t2, t3⟩ := tk_nm (r := r) ha hc
  have e2 := RD_2 h
  obtain ⟨e4, e0⟩ := RD_nm h t1
  rw [t1] at e2
  rw [t2] at e4 e0
  refine ⟨e2, e4, ?_⟩
  rw [e0]
  show lN (pkL [97 + a]) = _
  rw [pk1]
theorem nx_name {a c : Nat} (hn : 2000 < n) (hs : RS σ f l) (ha : a < 10) (hc : isNP c = false) (hd : sld (c :: r)) (h : RD σ l ((97 + a) :: c :: r)) : ∃ σ', m11_next n σ = some σ' ∧ RD σ' l (c :: r) ∧ fr [1, 2, 3, 4, 5] [0] [] [] [] σ σ' := by
  obtain ⟨σ', e1, e2, e3⟩ := r_nx (n := n) hn hs h
  obtain ⟨t1, t2, t3⟩ := tk_nm (r := r) ha hc
  rw [t3, hd] at e2
  exact ⟨σ', e1, e2, e3⟩
theorem nx_name32 {a : Nat} (hn : 2000 < n) (hs : RS σ f l) (ha : a < 10) (hd : sld r) (h : RD σ l ((97 + a) :: 32 :: r)) : ∃ σ', m11_next n σ = some σ' ∧ RD σ' l r ∧ fr [1, 2, 3, 4, 5] [0] [] [] [] σ σ' := by
  obtain ⟨σ', e1, e2, e3⟩ := r_nx (n := n) hn hs h
  obtain ⟨t1, t2, t3⟩ := tk_nm (c := 32) (r := r) ha (by decide)
  rw [t3, sld_32, hd] at e2
  exact ⟨σ', e1, e2, e3⟩
theorem nx_sg {c : Nat} (hn : 2000 < n) (hs : RS σ f l) (hc : srtc c = c) (h1 : c ≠ 97) (h2 : c ≠ 65) (h3 : c ≠ 48) (hd : sld r) (h : RD σ l (c :: r)) : ∃ σ', m11_next n σ = some σ' ∧ RD σ' l r ∧ fr [1, 2, 3, 4, 5] [0] [] [] [] σ σ' := by
  obtain ⟨σ', e1, e2, e3⟩ := r_nx (n := n) hn hs h
  obtain ⟨t1, t2, t3⟩ := tk_sg (r := r) hc h1 h2 h3
  rw [t3, hd] at e2
  exact ⟨σ', e1, e2, e3⟩
theorem RD_sg {c : Nat} (hc : srtc c = c) (h1 : c ≠ 97) (h2 : c ≠ 65) (h3 : c ≠ 48) (h4 : c ≠ 63) (h : RD σ l (c :: r)) : gI σ 2 = nI c := by
  have e2 := RD_2 h
  rw [(tk_sg (r := r) hc h1 h2 h3).1] at e2
  rw [e2]
  unfold rs
  rw [if_neg h1, if_neg h2, if_neg h3, if_neg h4]
theorem RD_dgs {c : Nat} (hq : q < 1000000) (hc : isDg c = false) (h : RD σ l (dgs q ++ c :: r)) : gI σ 2 = nI 3 ∧ gI σ 5 = nI q := by
  obtain ⟨t1, t2, t3⟩ := tk_dg' (q := q) (r := r) hc
  have e2 := RD_2 h
  have e5 := RD_dg h t1
  rw [t1] at e2
  rw [t2, List.take_left, nmR_dgs hq] at e5
  exact ⟨e2, e5⟩
theorem nx_dgs {c : Nat} (hn : 2000 < n) (hs : RS σ f l) (hc : isDg c = false) (hd : sld (c :: r)) (h : RD σ l (dgs q ++ c :: r)) : ∃ σ', m11_next n σ = some σ' ∧ RD σ' l (c :: r) ∧ fr [1, 2, 3, 4, 5] [0] [] [] [] σ σ' := by
  obtain ⟨σ', e1, e2, e3⟩ := r_nx (n := n) hn hs h
  obtain ⟨t1, t2, t3⟩ := tk_dg' (q := q) (r := r) hc
  rw [t3, hd] at e2
  exact ⟨σ', e1, e2, e3⟩
end P97o
