/-! TEXTS OF STATEMENTS, and the map that they make -/
def gst (s : St) : Prop := e_k s ≤ 4 ∧ e_a s < 10 ∧ e_b s < 10 ∧ e_c s < 10 ∧ e_q s < 100000
def tx : List St → List Nat
  | [] => []
  | s :: r => sb s ++ 59 :: tx r
theorem st_eta (s : St) : s = (e_k s, e_a s, e_b s, e_c s, e_q s) := rfl
section P97t
variable {n f g : Nat} {σ σ' σ0 : ej_S} {l r X : List Nat} {L : List St} {m : Bool} {s : St} {fs : Nat → List Nat} {LL : Nat → List St}
theorem sb_sr (hs : gst s) : srL (sb s ++ 59 :: r) = 97 ∧ sld (sb s ++ 59 :: r) := by
  have ha := hs.2.1
  have h1 : ∀ r, srL ((97 + e_a s) :: r) = 97 := fun r => (nm_np ha).2
  have h2 : ∀ r, sld ((97 + e_a s) :: r) := fun r => sld_c (by omega)
  unfold sb
  split
  · exact ⟨h1 _, h2 _⟩
  · split
    · exact ⟨h1 _, h2 _⟩
    · split
      · exact ⟨h1 _, h2 _⟩
      · split
        · exact ⟨rfl, rfl⟩
        · exact ⟨rfl, rfl⟩
theorem sb_2 (hs : gst s) (h : RD σ l (sb s ++ 59 :: r)) : gI σ 2 = nI 1 := by
  have e2 := RD_2 h
  rw [(sb_sr hs).1] at e2
  exact e2
/-- a statement, whatever its kind -/
theorem R_statement (hn : 2000 < n) (hs : gst s) (h : AT σ0 f g l m X L σ (sb s ++ 59 :: r)) : ∃ t, m11_isStatement n σ = some (nI 1, t) ∧ AT σ0 f g l m ((e_nm s).foldl e_add X) (L ++ [s]) t (59 :: r) ∧ FST σ t := by
  obtain ⟨hk, ha, hb, hc, hq⟩ := hs
  have c5 : e_k s = 0 ∨ e_k s = 1 ∨ e_k s = 2 ∨ e_k s = 3 ∨ e_k s = 4 := by omega
  rcases c5 with k | k | k | k | k
  · have e1 : sb s ++ 59 :: r = (97 + e_a s) :: 32 :: (97 + e_b s) :: 40 :: (dgs (e_q s) ++ 41 :: 59 :: r) := by
      unfold sb; rw [if_pos k]; simp
    have e2 : e_nm s = [e_a s, e_b s] := by unfold e_nm e_my; rw [if_neg (by omega), if_neg (by omega)]; rfl
    rw [e1] at h
    have key := R_link (n := n) (vc := e_c s) hn ha hb (show e_q s < 1000000 by omega) h
    rw [show ((0, e_a s, e_b s, e_c s, e_q s) : St) = s by rw [← k]; rfl] at key
    rw [e2]; exact key
  · have e1 : sb s ++ 59 :: r = (97 + e_a s) :: 61 :: (97 + e_b s) :: 59 :: r := by
      unfold sb; rw [if_neg (by omega), if_pos k]; simp
    have e2 : e_nm s = [e_a s, e_b s] := by unfold e_nm e_my; rw [if_neg (by omega), if_neg (by omega)]; rfl
    rw [e1] at h
    have key := R_alias (n := n) (vc := e_c s) (q := e_q s) hn ha hb (by omega) h
    rw [show ((1, e_a s, e_b s, e_c s, e_q s) : St) = s by rw [← k]; rfl] at key
    rw [e2]; exact key
  · have e1 : sb s ++ 59 :: r = (97 + e_a s) :: 61 :: 123 :: (97 + e_b s) :: 44 :: (97 + e_c s) :: 125 :: 40 :: (dgs (e_q s) ++ 41 :: 59 :: r) := by
      unfold sb; rw [if_neg (by omega), if_neg (by omega), if_pos k]; simp
    have e2 : e_nm s = [e_a s, e_b s, e_c s] := by unfold e_nm e_my; rw [if_pos k]; rfl
    rw [e1] at h
    have key := R_net (n := n) hn ha hb hc (show e_q s < 1000000 by omega) h
    rw [show ((2, e_a s, e_b s, e_c s, e_q s) : St) = s by rw [← k]; rfl] at key
    rw [e2]; exact key
  · have e1 : sb s ++ 59 :: r = 100 :: 101 :: 97 :: 100 :: 123 :: (97 + e_a s) :: 125 :: 59 :: r := by
      unfold sb; rw [if_neg (by omega), if_neg (by omega), if_neg (by omega), if_pos k]; simp
    have e2 : e_nm s = [e_a s] := by unfold e_nm e_my; rw [if_neg (by omega), if_pos k]; rfl
    rw [e1] at h
    have key := R_dead (n := n) (vb := e_b s) (vc := e_c s) (q := e_q s) hn ha (by omega) h
    rw [show ((3, e_a s, e_b s, e_c s, e_q s) : St) = s by rw [← k]; rfl] at key
    rw [e2]; exact key
  · have e1 : sb s ++ 59 :: r = 100 :: 101 :: 97 :: 100 :: 123 :: (97 + e_a s) :: 33 :: (97 + e_b s) :: 125 :: 59 :: r := by
      unfold sb; rw [if_neg (by omega), if_neg (by omega), if_neg (by omega), if_neg (by omega)]; simp
    have e2 : e_nm s = [e_a s, e_b s] := by unfold e_nm e_my; rw [if_neg (by omega), if_neg (by omega)]; rfl
    rw [e1] at h
    have key := R_dlink (n := n) (vc := e_c s) (q := e_q s) hn ha hb (by omega) h
    rw [show ((4, e_a s, e_b s, e_c s, e_q s) : St) = s by rw [← k]; rfl] at key
    rw [e2]; exact key
theorem tx_sld : ∀ {Ls : List St}, (∀ s ∈ Ls, gst s) → sld (tx Ls)
  | [], _ => sld_nil
  | s :: r, h => (sb_sr (r := tx r) (h s List.mem_cons_self)).2
abbrev FRE (σ s : ej_S) : Prop := fr [1, 2, 3, 4, 5, 8, 13, 14, 15] [0] [5, 6, 7, 8, 9, 10, 11, 12, 13, 14, 15, 16, 17, 18, 19, 20] [1] [] σ s
/-- names that come along -/
def nmf (X : List Nat) (Ls : List St) : List Nat := Ls.foldl (fun X s => (e_nm s).foldl e_add X) X
theorem R_loop (hn : 2000 < n) : ∀ (Ls : List St) (k c : Nat) (X : List Nat) (L : List St) (σ : ej_S), (∀ s ∈ Ls, gst s) → c + Ls.length ≤ 39 → 2 * Ls.length < k → AT σ0 f g l m X L σ (tx Ls) → gI σ 8 = nI c → ∃ t, m11_isRead_31 n k 1 σ = some (nI 1, t) ∧ AT σ0 f g l m (nmf X Ls) (L ++ Ls) t [] ∧ gI t 8 = nI (c + Ls.length) ∧ FRE σ t := by
  intro Ls
  induction Ls with
  | nil =>
    intro k c X L σ _ hc hk h h8
    obtain ⟨k, rfl⟩ : ∃ k', k = k' + 1 := ⟨k - 1, by omega⟩
    have e2 : gI σ 2 = nI 0 := RD_2 h.2.2
    refine ⟨σ, ?_, by rw [List.append_nil]; exact h, by rw [h8]; rfl, fr_rf⟩
    rw [u_11_isRead_31, if_neg (by decide), L_0, if_pos e2, L_1, bz_n1]
  | cons s Ls ih =>
    intro k c X L σ hg hc hk h h8
    have hk' : 2 * (Ls.length + 1) < k := hk
    have hc' : c + (Ls.length + 1) ≤ 39 := hc
    obtain ⟨k, rfl⟩ : ∃ k', k = k' + 1 := ⟨k - 1, by omega⟩
    obtain ⟨k, rfl⟩ : ∃ k', k = k' + 1 := ⟨k - 1, by omega⟩
    have hs := hg s List.mem_cons_self
    have hg' : ∀ t ∈ Ls, gst t := fun t ht => hg t (List.mem_cons_of_mem _ ht)
    have e2 := sb_2 (r := tx Ls) hs h.2.2
    obtain ⟨s1, e1, d1, F1⟩ := R_statement (n := n) (r := tx Ls) hn hs h
    have g1 := AT_2 (c := 59) (by decide) (by omega) d1
    have b8 : gI s1 8 = nI c := by rw [F1.1 8 (by simp)]; exact h8
    have F8 : fr [8] [] [] [] [] s1 (uI s1 8 (nI (c + 1))) := fr_uI fr_rf (by simp)
    have d2 : AT σ0 f g l m ((e_nm s).foldl e_add X) (L ++ [s]) (uI s1 8 (nI (c + 1))) (59 :: tx Ls) := ⟨BM_fr d1.1 F8 (by decide) (by decide), RS_fr d1.2.1 F8 (by simp) (by simp) (by simp), RD_fr d1.2.2 F8 (by simp) (by simp) (by simp) (by simp) (by simp) (by simp)⟩
    have g2 : gI (uI s1 8 (nI (c + 1))) 2 = nI 59 := by rw [s_II_n (by omega)]; exact g1
    obtain ⟨s3, e3, d3, F3⟩ := AT_sg (n := n) (c := 59) hn (by decide) (tx_sld hg') d2
    obtain ⟨t, e4, d4, e8, F4⟩ := ih k (c + 1) _ _ s3 hg' (by omega) (by omega) d3 (by rw [F3.1 8 (by simp), s_II_s])
    refine ⟨t, ?_, ?_, by rw [e8]; congr 1; show c + 1 + Ls.length = c + (Ls.length + 1); omega, fr_tr (fr_wk F1 (by simp) (by simp) (by simp) (by simp) (by simp)) (fr_tr (fr_wk F8 (by simp) (by simp) (by simp) (by simp) (by simp)) (fr_tr (fr_wk F3 (by simp) (by simp) (by simp) (by simp) (by simp)) F4))⟩
    · rw [u_11_isRead_31, if_neg (by decide), L_0, e2, ieq_f (by omega) (by omega) (by omega), L_59, ieq_f (by omega) (by omega) (by omega), h8, L_40, ieq_f (by omega) (by omega) (by omega), e1, ej_bi_s, if_neg n10, g1, if_pos rfl]
      unfold m11_isRead_107
      rw [b8, L_1, nI_add, ej_nm_e, u_11_isRead_31, L_0, if_neg n10, g2, ieq_f (by omega) (by omega) (by omega), L_59, if_pos rfl, e3, ej_bv_s, ← L_1]
      exact e4
    · rw [List.append_assoc] at d4
      exact d4
/-- what a file says -/
def txt (l : List Nat) (Ls : List St) : Prop := l.drop (skp false l) = tx Ls ∧ (∀ s ∈ Ls, gst s) ∧ Ls.length ≤ 6
theorem txt_tx {Ls : List St} (h : ∀ s ∈ Ls, gst s) (h6 : Ls.length ≤ 6) : txt (tx Ls) Ls := ⟨by rw [tx_sld h]; rfl, h, h6⟩
abbrev FRF (σ s : ej_S) : Prop := fr [0, 1, 2, 3, 4, 5, 8, 9, 10, 13, 14, 15] [0] [5, 6, 7, 8, 9, 10, 11, 12, 13, 14, 15, 16, 17, 18, 19, 20] [1] [] σ s
theorem R_read {Ls : List St} (hn : 2000 < n) (hg : g < 5) (hR : RTX σ g l) (ht : txt l Ls) (hb : BM σ0 f m X L σ) : ∃ t, m11_isRead n (nI g) σ = some (nI 1, t) ∧ BM σ0 f m (nmf X Ls) (L ++ Ls) t ∧ gI t 8 = nI Ls.length ∧ FRF σ t := by
  obtain ⟨t1, t2, t3⟩ := ht
  have F0 : fr [0, 1, 8, 9, 10] [] [] [] [] σ (uI (uI (uI (uI (uI σ 0 (nI g)) 1 (nI 0)) 8 (nI 0)) 9 (nI 0)) 10 (nI 0)) := fr_uI (fr_uI (fr_uI (fr_uI (fr_uI fr_rf (by simp)) (by simp)) (by simp)) (by simp)) (by simp)
  have hS : RS (uI (uI (uI (uI (uI σ 0 (nI g)) 1 (nI 0)) 8 (nI 0)) 9 (nI 0)) 10 (nI 0)) g l := ⟨by simp (disch := omega) only [s_IJ, s_IA, s_IB, s_IM, s_JI, s_JA, s_JB, s_JM, s_AI, s_AJ, s_AB, s_AM, s_BI, s_BJ, s_BA, s_BM, s_MI, s_MJ, s_MA, s_MB, s_II_s, s_II_n, s_JJ_s, s_JJ_n, s_AA_s, s_AA_n, s_BB_s, s_BB_n, s_MM_s, s_MM_n, pk_us, pk_un, pk_uLs, pk_uLn], hg, RTX_fr hR F0 (by simp) (by simp)⟩
  obtain ⟨s1, e1, ra, F1⟩ := r_next (n := n) hn hS (p := 0) (by simp (disch := omega) only [s_IJ, s_IA, s_IB, s_IM, s_JI, s_JA, s_JB, s_JM, s_AI, s_AJ, s_AB, s_AM, s_BI, s_BJ, s_BA, s_BM, s_MI, s_MJ, s_MA, s_MB, s_II_s, s_II_n, s_JJ_s, s_JJ_n, s_AA_s, s_AA_n, s_BB_s, s_BB_n, s_MM_s, s_MM_n, pk_us, pk_un, pk_uLs, pk_uLn]) (Nat.zero_le _)
  have d1 : RD s1 l (tx Ls) := ⟨sx l 0, sx_le (Nat.zero_le _), by unfold sx; rw [List.drop_zero, Nat.zero_add]; exact t1, ra⟩
  have h8 : gI s1 8 = nI 0 := by rw [F1.1 8 (by simp)]; simp (disch := omega) only [s_IJ, s_IA, s_IB, s_IM, s_JI, s_JA, s_JB, s_JM, s_AI, s_AJ, s_AB, s_AM, s_BI, s_BJ, s_BA, s_BM, s_MI, s_MJ, s_MA, s_MB, s_II_s, s_II_n, s_JJ_s, s_JJ_n, s_AA_s, s_AA_n, s_BB_s, s_BB_n, s_MM_s, s_MM_n, pk_us, pk_un, pk_uLs, pk_uLn]
  obtain ⟨t, e2, d2, e8, F2⟩ := R_loop (n := n) (f := f) (g := g) (l := l) (m := m) (σ0 := σ0) hn Ls n 0 X L s1 t2 (by omega) (by omega) ⟨BM_fr (BM_fr hb F0 (by decide) (by decide)) F1 (by decide) (by decide), RS_fr hS F1 (by simp) (by simp) (by simp), d1⟩ h8
  refine ⟨t, ?_, d2.1, by rw [e8, Nat.zero_add], fr_tr (fr_wk F0 (by simp) (by simp) (by simp) (by simp) (by simp)) (fr_tr (fr_wk F1 (by simp) (by simp) (by simp) (by simp) (by simp)) (fr_wk F2 (by simp) (by simp) (by simp) (by simp) (by simp)))⟩
  unfold m11_isRead
  rw [ej_nm_e, ej_nm_e, ej_nm_e, ej_nm_e, ej_nm_e, L_0, e1, ej_bv_s, e2]
/-- a file, drawn -/
theorem R_file {Ls : List St} (hn : 2000 < n) (hf : f < 4) (hR : ∀ f, f < 4 → RTX σ f (fs f)) (ht : txt (fs f) Ls) (h6 : gI σ 6 = nI 1) (hM : MPB σ X L) (k : Nat) : ∃ t, m11_rebuilds_109 n (k + 1) (nI f) σ = m11_rebuilds_109 n k (nI (f + 1)) t ∧ (∀ f, f < 4 → RTX t f (fs f)) ∧ gI t 6 = nI 1 ∧ MPB t (nmf X Ls) (L ++ Ls) ∧ gA t 2 f = nI Ls.length ∧ (∀ h, h ≠ f → gA t 2 h = gA σ 2 h) ∧ EF2 σ t := by
  have f7 : fr [7] [] [] [] [] σ (uI σ 7 (nI f)) := fr_uI fr_rf (by simp)
  have hb : BM σ f true X L (uI σ 7 (nI f)) := ⟨by rw [s_II_n (by omega)]; exact h6, s_II_s, hf, MPB_fr hM f7 (by decide)⟩
  obtain ⟨t, e1, b1, e8, F⟩ := R_read (n := n) (g := f) hn (by omega) (RTX_fr (hR f hf) f7 (by simp) (by simp)) ht hb
  have F2 : fr [] [] [2] [] [] t (uA t 2 f (nI Ls.length)) := fr_uA fr_rf (by simp)
  have G : fr [0, 1, 2, 3, 4, 5, 7, 8, 9, 10, 13, 14, 15] [0] [2, 5, 6, 7, 8, 9, 10, 11, 12, 13, 14, 15, 16, 17, 18, 19, 20] [1] [] σ (uA t 2 f (nI Ls.length)) := fr_tr (fr_wk f7 (by simp) (by simp) (by simp) (by simp) (by simp)) (fr_tr (fr_wk F (by simp) (by simp) (by simp) (by simp) (by simp)) (fr_wk F2 (by simp) (by simp) (by simp) (by simp) (by simp)))
  refine ⟨uA t 2 f (nI Ls.length), ?_, fun h hh => RTX_fr (hR h hh) G (by simp) (by simp), by rw [F2.1 6 (by simp)]; exact b1.1, MPB_fr b1.2.2.2 F2 (by decide), by rw [s_AA_s, pk_us], fun h hh => by rw [s_AA_s, pk_un hh, F.2.2.1 2 (by simp), s_AI], fr_wk G (by simp) (by simp) (by simp) (by simp) (by simp)⟩
  rw [u_11_rebuilds_109, L_4, ile_f hf (by omega), ej_nm_e, e1, ej_bi_s, ck_t hf (by omega), nI_clamp (by omega), ej_nm_e, ej_nm_e, e8, L_1, nI_add]
theorem td_le {L : List St} {K kd x y : Nat} (h : ∀ s ∈ L, e_q s ≤ K) : ∀ v, e_td L kd x y = some v → v ≤ K := by
  have key : ∀ (L : List St) (o : Option Nat), (∀ s ∈ L, e_q s ≤ K) → (∀ v, o = some v → v ≤ K) → ∀ v, L.foldl (e_t1 kd x y) o = some v → v ≤ K := by
    intro L
    induction L with
    | nil => intro o _ h; exact h
    | cons s r ih =>
      intro o h ho
      rw [List.foldl_cons]
      refine ih _ (fun s hs => h s (List.mem_cons_of_mem _ hs)) (fun v e => ?_)
      unfold e_t1 at e
      split at e
      · have hq : e_ct kd s ≤ K := by
          have := h s List.mem_cons_self
          unfold e_ct
          split <;> omega
        cases o with
        | none => cases e; exact hq
        | some d =>
          have e' : (if e_ct kd s < d then some (e_ct kd s) else some d) = some v := e
          by_cases z : e_ct kd s < d
          · rw [if_pos z] at e'; cases e'; exact hq
          · rw [if_neg z] at e'; exact ho v e'
      · exact ho v e
  exact key L none h (fun v e => by cases e)
theorem td_same {L : List St} {kd x : Nat} (hk : kd ≠ 3) : e_td L kd x x = none := td_none fun s _ => decide_eq_false (fun z => z.2.2.2.elim hk (fun y => y rfl))
theorem MPB_wf (h : MPB σ X L) (hq : ∀ s ∈ L, e_q s ≤ 1000000) : wfR σ := by
  obtain ⟨g15, g16, gn, g10, gL, gq, g1, g2, g3⟩ := id h
  have l10 := MPB_10 h
  have nx10 : ∀ a, X.length ≤ a → nx' X a ∉ X := fun a ha z => by
    rw [nx_ge ha] at z
    have := g10 _ z
    omega
  have pr : ∀ o : Option Nat, (∀ v, o = some v → v ≤ 1000000) → oI o = zm ∨ ∃ p, p ≤ 1000000 ∧ oI o = nI p := by
    intro o ho
    cases o with
    | none => exact .inl rfl
    | some v => exact .inr ⟨v, ho v rfl, rfl⟩
  refine ⟨X.length, by omega, g15, .inl g16, fun a ha => ?_, fun a ha => .inl (g1 a ha).2, fun a b ab hb z => ?_, fun x hx => ?_, fun x hx => ?_, fun a b ha hb hl => ?_, fun a b ha hb hl => ?_, fun a b ha hb hl => ?_, fun a m ha hm z => ?_⟩
  · rw [(g1 a ha).1]; exact (nL_let (g10 _ (gD_mem ha))).1
  · rw [(g1 a (by omega)).1, (g1 b hb).1] at z
    have := gD_inj gn (by omega) hb (let_inj (g10 _ (gD_mem (by omega))) (g10 _ (gD_mem hb)) z.1)
    omega
  · have := (g3 (x / 24) (x % 24) (by omega) (by omega)).1
    rw [show 24 * (x / 24) + x % 24 = x by omega] at this
    rw [this]; exact pr _ (td_le hq)
  · have := (g3 (x / 24) (x % 24) (by omega) (by omega)).2.2.2.2
    rw [show 24 * (x / 24) + x % 24 = x by omega] at this
    rw [this]; exact pr _ (td_le hq)
  · rw [(g3 a b ha hb).1]
    rcases hl with z | z | z
    · rw [td_x gL (nx10 a z)]; rfl
    · rw [td_y gL (by omega) (nx10 b z)]; rfl
    · rw [z, td_same (by omega)]; rfl
  · have k := (g3 a b ha hb).2.2.2.1
    refine Classical.byContradiction fun w => ?_
    rcases k.mp w with y | y
    · rcases hl with z | z | z
      · exact y (td_x gL (nx10 a z))
      · exact y (td_y gL (by omega) (nx10 b z))
      · exact y (by rw [z]; exact td_same (by omega))
    · rcases hl with z | z | z
      · exact y (td_y gL (by omega) (nx10 a z))
      · exact y (td_x gL (nx10 b z))
      · exact y (by rw [z]; exact td_same (by omega))
  · rw [(g3 a b ha hb).2.2.2.2]
    rcases hl with z | z | z
    · rw [td_y gL (by omega) (nx10 a z)]; rfl
    · rw [td_x gL (nx10 b z)]; rfl
    · rw [z, td_same (by omega)]; rfl
  · rw [(g3 m a hm ha).2.2.2.2] at z
    exact (g2 a ha).1.mpr (td_net L _ _ (fun y => z (by rw [y]; rfl)))
theorem MPB_MP (h : MPB σ (e_ns L) L) : MP σ L := by
  obtain ⟨g15, g16, gn, g10, gL, gq, g1, g2, g3⟩ := id h
  have l10 := MPB_10 h
  refine ⟨g15, g16, fun a ha => ?_, fun a b ha hb => ?_⟩
  · obtain ⟨k1, k2⟩ := g1 a ha
    have k := g2 a (by omega)
    rw [nx_at ha] at k
    exact ⟨k1, k2, k⟩
  · have k := g3 a b (by omega) (by omega)
    rw [nx_at ha, nx_at hb] at k
    exact k
/-- all that the files say -/
def LA (LL : Nat → List St) : List St := LL 0 ++ LL 1 ++ LL 2 ++ LL 3
theorem nmf_app (X : List Nat) (L M : List St) : nmf X (L ++ M) = nmf (nmf X L) M := by unfold nmf; rw [List.foldl_append]
theorem R_draw (hn : 2000 < n) (hR : ∀ f, f < 4 → RTX σ f (fs f)) (ht : ∀ f, f < 4 → txt (fs f) (LL f)) : ∃ s, m11_rebuilds n σ = (ej_bv (m11_solves n (uI s 6 (nI 0))) fun s8 => some s8) ∧ MPB s (e_ns (LA LL)) (LA LL) ∧ (∀ f, f < 4 → gA s 2 f = nI (LL f).length) ∧ EF2 σ s := by
  obtain ⟨r0, e0, f0, g2, g3, g4, g5, g6⟩ := r_reb0 (n := n) (σ := σ) (by omega)
  have R0 : ∀ f, f < 4 → RTX r0 f (fs f) := fun f hf => RTX_fr (hR f hf) f0 (by simp) (by simp)
  obtain ⟨m, hm⟩ : ∃ m, n = m + 1 + 4 := ⟨n - 5, by omega⟩
  obtain ⟨r1, a1, b1, c1, d1, x1, y1, z1⟩ := R_file (n := n) (f := 0) hn (by omega) R0 (ht 0 (by omega)) g4 (MPB_0 g2 g3 g5 g6) (m + 4)
  obtain ⟨r2, a2, b2, c2, d2, x2, y2, z2⟩ := R_file (n := n) (f := 1) hn (by omega) b1 (ht 1 (by omega)) c1 d1 (m + 3)
  obtain ⟨r3, a3, b3, c3, d3, x3, y3, z3⟩ := R_file (n := n) (f := 2) hn (by omega) b2 (ht 2 (by omega)) c2 d2 (m + 2)
  obtain ⟨r4, a4, b4, c4, d4, x4, y4, z4⟩ := R_file (n := n) (f := 3) hn (by omega) b3 (ht 3 (by omega)) c3 d3 (m + 1)
  rw [← nmf_app, ← nmf_app, ← nmf_app, List.nil_append, ← List.append_assoc, ← List.append_assoc] at d4
  refine ⟨r4, ?_, d4, fun f hf => ?_, fr_tr (fr_wk f0 (by simp) (by simp) (by simp) (by simp) (by simp)) (fr_tr z1 (fr_tr z2 (fr_tr z3 z4)))⟩
  · rw [e0]
    have e : m11_rebuilds_109 n n (nI 0) r0 = m11_rebuilds_109 n (m + 1) (nI 4) r4 := by
      rw [← a4, ← a3, ← a2, ← a1]
      congr 1
    rw [e, u_11_rebuilds_109, L_4, ile_t (Nat.le_refl _) (by omega), L_0, ej_nm_e]
  · rcases (show f = 0 ∨ f = 1 ∨ f = 2 ∨ f = 3 by omega) with z | z | z | z
    · subst z; rw [y4 0 (by omega), y3 0 (by omega), y2 0 (by omega)]; exact x1
    · subst z; rw [y4 1 (by omega), y3 1 (by omega)]; exact x2
    · subst z; rw [y4 2 (by omega)]; exact x3
    · subst z; exact x4
/-- the map that files make -/
theorem R_map (hn : 200000000000000 < n) (hR : ∀ f, f < 4 → RTX σ f (fs f)) (ht : ∀ f, f < 4 → txt (fs f) (LL f)) : ∃ t, m11_rebuilds n σ = some t ∧ MP t (LA LL) ∧ (∀ f, f < 4 → gA t 2 f = nI (LL f).length) ∧ EF2 σ t := by
  obtain ⟨s, e1, hM, h2, hJ⟩ := R_draw (n := n) (by omega) hR ht
  have F6 : fr [6] [] [] [] [] s (uI s 6 (nI 0)) := fr_uI fr_rf (by simp)
  have hM' := MPB_fr hM F6 (by decide)
  have hq : ∀ s ∈ LA LL, e_q s ≤ 1000000 := by
    intro s hs
    have key : ∀ f, f < 4 → s ∈ LL f → e_q s ≤ 1000000 := fun f hf h => by have := ((ht f hf).2.1 s h).2.2.2.2; omega
    unfold LA at hs
    rcases List.mem_append.mp hs with z | z
    · rcases List.mem_append.mp z with z | z
      · rcases List.mem_append.mp z with z | z
        · exact key 0 (by omega) z
        · exact key 1 (by omega) z
      · exact key 2 (by omega) z
    · exact key 3 (by omega) z
  obtain ⟨t, e2, F, _⟩ := r_solves (n := n) hn (MPB_wf hM' hq)
  refine ⟨t, by rw [e1, e2, ej_bv_s], MPB_MP (MPB_fr hM' F (by decide)), fun f hf => by rw [F.2.2.1 2 (by simp), s_AI]; exact h2 f hf, fr_tr hJ (fr_tr (fr_wk F6 (by simp) (by simp) (by simp) (by simp) (by simp)) (fr_wk F (by simp) (by simp) (by simp) (by simp) (by simp)))⟩
end P97t
