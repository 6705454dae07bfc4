/-! the law's own methods: callers that catch, and the law -/
def ej_bw {S β : Type} (m : Option ((Int32 × S) ⊕ (Nat × S))) (k : Int32 → S → Option β) (h : Nat → S → Option β) : Option β := match m with | none => none | some (.inl q) => k q.1 q.2 | some (.inr e) => h e.1 e.2
def ej_finW (x : cw_T) (F : ej_F) (r0 : Int32 × lw_S) (c0 s0 mc ms : Nat) (hh : List (Nat × Nat × Nat × Nat)) : Prop := match F with
  | (_, l, _, R, s, _, args, below, meth, c, Q, A, cells, slots) => Q = vx_MQ below (ej_Qc (lV x) A (some (.int r0.1)) r0.2) (fun _ _ _ => False) args s mc ms A ∧ meth.sig.returnType = some .int ∧ cells = c0 ∧ slots = s0 ∧ c.exceptionTable.toList = tableOf hh ∧ l.stackTraces = false ∧ R.cells = mc ∧ R.slots = ms
theorem ej_finWup {x : cw_T} {F : ej_F} {r0 : Int32 × lw_S} {c0 s0 mc ms : Nat} {hh : List (Nat × Nat × Nat × Nat)} (k n : Nat) (h : ej_finW x F r0 c0 s0 mc ms hh) : ej_finW x (ej_up F k n) r0 (c0 + k) (s0 + n) mc ms hh := by
  obtain ⟨p, l, e, R, s, m, args, below, meth, c, Q, A, cells, slots⟩ := F
  obtain ⟨h1, h2, h3, h4, h5⟩ := h
  exact ⟨h1, h2, by rw [h3], by rw [h4], h5⟩
theorem ej_okW {x : cw_T} {F : ej_F} {I : ej_I} {r0 : Int32 × lw_S} {c0 s0 mc ms k n : Nat} {hh : List (Nat × Nat × Nat × Nat)} (h : ej_finW x F r0 c0 s0 mc ms hh) (hc : c0 + k ≤ mc) (hs : s0 + n ≤ ms) (ok : ej_ok (lV x) F I) : ej_ok (lV x) (ej_up F k n) I := by
  obtain ⟨p, l, e, R, s, m, args, below, meth, c, Q, A, cells, slots⟩ := F
  obtain ⟨h1, h2, h3, h4, h5, h6, h7, h8⟩ := h
  obtain ⟨hx, hb, hml, hown, hts, hK, hA, hlk, hfr, hlo, hce, hsl, hro, hV⟩ := id ok
  exact ⟨hx, hb, hml, hown, hts, hK, hA, hlk, hfr, hlo, by rw [h3, h7]; exact hc, by rw [h4, h8]; exact hs, hro, hV⟩
section EW
variable {x : cw_T} {F : ej_F} {I : ej_I} {σ : lw_S} {pc q t c0 s0 mc ms : Nat} {L L' : List (Nat × Value)} {st : List Value} {hh : List (Nat × Nat × Nat × Nat)} {r0 : Int32 × lw_S}
theorem jw_ireturn {y : Int32} (hq : ej_finW x F r0 c0 s0 mc ms hh) (hc : c0 ≤ mc) (hs : s0 ≤ ms) (hd : decode I.1 pc = .ok (.ireturn, 1)) : ej_J (lV x) F I r0 σ pc L [.int y] (some (y, σ)) := by
  intro h ok
  obtain ⟨p, l, e, R, s, m, args, below, meth, c, Q, A, cells, slots⟩ := F
  obtain ⟨hx, hb, hml, hown, hts, hK, hA, hlk, hfr, hlo, hce, hsl, hro, hV⟩ := id ok
  intro H locs ls hP hD hS hl
  cases h
  obtain ⟨rfl, hr, rfl, rfl, h5, h6, h7, h8⟩ := hq
  exact vx_ret (W.widen hc hs (W.iret hx hb hr (fun t ht _ => ⟨⟨rfl, by rw [ht]; exact hP⟩, hS.F ht⟩) hS.2.2 hd hlk))
theorem jw_call1 {I' : ej_I} {y : MethodName} {idx b mc' ms' : Nat} {ret : Option FieldType} {As st0 : List Value} {m1 : Option ((Int32 × lw_S) ⊕ (Nat × lw_S))} {km : Int32 → lw_S → Option (Int32 × lw_S)} {a1 b1 h1 i1 k1 : Nat}  {kh1 : lw_S → Option (Int32 × lw_S)}(hc : ∀ z, m1 = some z → ∀ l : Launch, l.stackTraces = false → ej_Cx l (lV x) I' y ret (.ref b :: As) σ mc' ms' (ej_xg ej_fi z)) (hL : ej_LV I.2.2.1 idx y I' ret As.length) (hrc : ej_rc (lV x) σ b y.cls) (hR : ej_ro I' I) (hd : ej_d I pc (.invokevirtual idx) 3 q) (hst : st0 = As.reverse ++ .ref b :: st) (hcat : (st.map fun v => v.category).sum ≤ 8) (hq : ej_finW x F r0 c0 s0 mc ms hh) (hmc : c0 + mc' ≤ mc) (hms : s0 + ms' ≤ ms) (hh1 : hh = [(a1, b1, h1, i1)]) (cv1 : covers ⟨a1, b1, h1, i1⟩ pc = true) (ci1 : i1 ≠ 0) (cl1 : Cond.classLink I.2.2.1 i1 (ej_en k1) ∈ ej_WS) (cd1 : Cond.castable (ej_en k1) (ej_en k1) ∈ cw_cd) (kk : ∀ r σ1, ej_J (lV x) (ej_up F mc' ms') I r0 σ1 q L (.int r :: st) (km r σ1)) (kx1 : ∀ q9 σ1, ej_J (lV x) (ej_up F mc' ms') I r0 σ1 h1 L [.ref q9] (kh1 σ1)) : ej_J (lV x) F I r0 σ pc L st0 (ej_bw m1 km (fun k s1 => if k = k1 then kh1 s1 else none)) := by
  intro h ok
  have ok2 := ej_okW (k := mc') (n := ms') hq hmc hms ok
  obtain ⟨p, l, e, R, s, m, args, below, meth, c, Q, A, cells, slots⟩ := F
  obtain ⟨hx, hb, hml, hown, hts, hK, hA, hlk, hfr, hlo, hce, hsl, hro, hV⟩ := id ok
  intro H locs ls hP hD hS hl
  obtain ⟨k1', k2', k3, k4, k5, k6, k7, k8⟩ := hL
  obtain ⟨q0, ci, T, N, fs, hq0, hc2⟩ := hrc
  obtain ⟨hdg, rfl⟩ := hd
  obtain ⟨rfl, hr, rfl, rfl, h5, h6, h7, h8⟩ := hq
  obtain ⟨ro1, ro2, ro3, ro4, ro5, ro6, ro7, ro8, ro9, ro10, ro11, ro12, ro13⟩ := id hro
  subst hh1
  cases hm : m1 with
  | none => rw [hm] at h; cases h
  | some z =>
    rw [hm] at h
    have hrun := vx_runV (e := e) (below := below) (meth := meth) (As := As) (rest := st) (cells := cells) (slots := slots) (locs := locs) (g := F0 m pc ls st0) ⟨hx, hb, hml, hown, hts⟩ (hc _ hm l h6 H.size) ⟨callB_of As.length hts (ej_GI' k5) rfl rfl rfl (hts _ k4) (hts _ k1') ⟨k6, k7, k8⟩ ⟨Nat.le_trans hR.1 hfr, Nat.le_trans hR.2 hlo⟩, hts _ k2', hts _ k3⟩ ⟨ej_blind hV, va_recv hK hP (ci := ci) (q0 := q0) hc2 hq0, fun U hU hW => ⟨rfl, ej_preU hV hP hD hS hA hK hro hU hW⟩⟩ rfl rfl hl.1 hst (lv_room hcat) hdg ⟨by rw [h7]; exact hmc, by rw [h8]; exact hms⟩
    have hAA := ej_sub hD hS hA
    intro T hT X
    rcases hrun T hT X with ⟨v, st₀, t, T', L1, h0, X', hL1, e1, e2, ⟨rv, σ', hz, ⟨hv, hp⟩, hF⟩, stp⟩ | ⟨q9, st₀, t, T', L1, E, ce, h0, X', hL1, e1, e2, ⟨k, σ', hz, hE, hp, hF⟩, hce9, hcv, hcl, stp⟩
    · cases hv
      obtain ⟨j1, j2, j3⟩ := vx_keep h0 e1 hS (fun q _ => hAA q) hAA hL1 hF
      rw [← e1] at hp
      cases z with
      | inr e9 => cases hz
      | inl w1 =>
        obtain ⟨r1, σ1⟩ := w1
        cases hz
        obtain ⟨t2, a1, b1⟩ := kk _ _ h ok2 T'.heap (locs ++ L1) ls hp (ej_Dmove hV hD) j3 hl T' rfl X'
        exact ⟨t2, stp t2 a1, b1⟩
    · obtain ⟨j1, j2, j3⟩ := vx_keep h0 e1 hS (fun q _ => hAA q) hAA hL1 hF
      cases z with
      | inl σ1 => cases hz
      | inr e9 =>
        cases hz
        subst hE
        rw [← e1] at hp hce9
        change (if k = k1 then kh1 σ' else none) = some r0 at h
        by_cases hk : k = k1
        · subst hk
          rw [if_pos rfl] at h
          obtain ⟨t2, a1, b1⟩ := vx_catch (pc := pc) (ls := ls) (rest := st) hown [] ⟨a1, b1, h1, i1⟩ [] h5 (fun z hz => nomatch hz) cv1 ci1 (hts _ cl1) (va_Nw.use rfl (ro11 _ cd1)) hce9 hcv hcl (kx1 q9 _ h ok2 T'.heap (locs ++ L1) ls hp (ej_Dmove hV hD) j3 hl) T' rfl X'
          exact ⟨t2, stp.trans a1, b1⟩
        · rw [if_neg hk] at h; cases h
theorem jw_call2 {I' : ej_I} {y : MethodName} {idx b mc' ms' : Nat} {ret : Option FieldType} {As st0 : List Value} {m1 : Option ((Int32 × lw_S) ⊕ (Nat × lw_S))} {km : Int32 → lw_S → Option (Int32 × lw_S)} {a1 b1 h1 i1 k1 : Nat} {a2 b2 h2 i2 k2 : Nat}  {kh1 kh2 : lw_S → Option (Int32 × lw_S)}(hc : ∀ z, m1 = some z → ∀ l : Launch, l.stackTraces = false → ej_Cx l (lV x) I' y ret (.ref b :: As) σ mc' ms' (ej_xg ej_fi z)) (hL : ej_LV I.2.2.1 idx y I' ret As.length) (hrc : ej_rc (lV x) σ b y.cls) (hR : ej_ro I' I) (hd : ej_d I pc (.invokevirtual idx) 3 q) (hst : st0 = As.reverse ++ .ref b :: st) (hcat : (st.map fun v => v.category).sum ≤ 8) (hq : ej_finW x F r0 c0 s0 mc ms hh) (hmc : c0 + mc' ≤ mc) (hms : s0 + ms' ≤ ms) (hh1 : hh = [(a1, b1, h1, i1), (a2, b2, h2, i2)]) (cv1 : covers ⟨a1, b1, h1, i1⟩ pc = true) (ci1 : i1 ≠ 0) (cl1 : Cond.classLink I.2.2.1 i1 (ej_en k1) ∈ ej_WS) (cd1 : Cond.castable (ej_en k1) (ej_en k1) ∈ cw_cd) (cv2 : covers ⟨a2, b2, h2, i2⟩ pc = true) (ci2 : i2 ≠ 0) (cl2 : Cond.classLink I.2.2.1 i2 (ej_en k2) ∈ ej_WS) (cd2 : Cond.castable (ej_en k2) (ej_en k2) ∈ cw_cd) (nc : ∀ A U H, cw_RO x A U H → va_Nc (ej_en k2) (ej_en k1) U) (kk : ∀ r σ1, ej_J (lV x) (ej_up F mc' ms') I r0 σ1 q L (.int r :: st) (km r σ1)) (kx1 : ∀ q9 σ1, ej_J (lV x) (ej_up F mc' ms') I r0 σ1 h1 L [.ref q9] (kh1 σ1)) (kx2 : ∀ q9 σ1, ej_J (lV x) (ej_up F mc' ms') I r0 σ1 h2 L [.ref q9] (kh2 σ1)) : ej_J (lV x) F I r0 σ pc L st0 (ej_bw m1 km (fun k s1 => if k = k1 then kh1 s1 else if k = k2 then kh2 s1 else none)) := by
  intro h ok
  have ok2 := ej_okW (k := mc') (n := ms') hq hmc hms ok
  obtain ⟨p, l, e, R, s, m, args, below, meth, c, Q, A, cells, slots⟩ := F
  obtain ⟨hx, hb, hml, hown, hts, hK, hA, hlk, hfr, hlo, hce, hsl, hro, hV⟩ := id ok
  intro H locs ls hP hD hS hl
  obtain ⟨k1', k2', k3, k4, k5, k6, k7, k8⟩ := hL
  obtain ⟨q0, ci, T, N, fs, hq0, hc2⟩ := hrc
  obtain ⟨hdg, rfl⟩ := hd
  obtain ⟨rfl, hr, rfl, rfl, h5, h6, h7, h8⟩ := hq
  obtain ⟨ro1, ro2, ro3, ro4, ro5, ro6, ro7, ro8, ro9, ro10, ro11, ro12, ro13⟩ := id hro
  subst hh1
  cases hm : m1 with
  | none => rw [hm] at h; cases h
  | some z =>
    rw [hm] at h
    have hrun := vx_runV (e := e) (below := below) (meth := meth) (As := As) (rest := st) (cells := cells) (slots := slots) (locs := locs) (g := F0 m pc ls st0) ⟨hx, hb, hml, hown, hts⟩ (hc _ hm l h6 H.size) ⟨callB_of As.length hts (ej_GI' k5) rfl rfl rfl (hts _ k4) (hts _ k1') ⟨k6, k7, k8⟩ ⟨Nat.le_trans hR.1 hfr, Nat.le_trans hR.2 hlo⟩, hts _ k2', hts _ k3⟩ ⟨ej_blind hV, va_recv hK hP (ci := ci) (q0 := q0) hc2 hq0, fun U hU hW => ⟨rfl, ej_preU hV hP hD hS hA hK hro hU hW⟩⟩ rfl rfl hl.1 hst (lv_room hcat) hdg ⟨by rw [h7]; exact hmc, by rw [h8]; exact hms⟩
    have hAA := ej_sub hD hS hA
    intro T hT X
    rcases hrun T hT X with ⟨v, st₀, t, T', L1, h0, X', hL1, e1, e2, ⟨rv, σ', hz, ⟨hv, hp⟩, hF⟩, stp⟩ | ⟨q9, st₀, t, T', L1, E, ce, h0, X', hL1, e1, e2, ⟨k, σ', hz, hE, hp, hF⟩, hce9, hcv, hcl, stp⟩
    · cases hv
      obtain ⟨j1, j2, j3⟩ := vx_keep h0 e1 hS (fun q _ => hAA q) hAA hL1 hF
      rw [← e1] at hp
      cases z with
      | inr e9 => cases hz
      | inl w1 =>
        obtain ⟨r1, σ1⟩ := w1
        cases hz
        obtain ⟨t2, a1, b1⟩ := kk _ _ h ok2 T'.heap (locs ++ L1) ls hp (ej_Dmove hV hD) j3 hl T' rfl X'
        exact ⟨t2, stp t2 a1, b1⟩
    · obtain ⟨j1, j2, j3⟩ := vx_keep h0 e1 hS (fun q _ => hAA q) hAA hL1 hF
      cases z with
      | inl σ1 => cases hz
      | inr e9 =>
        cases hz
        subst hE
        rw [← e1] at hp hce9
        change (if k = k1 then kh1 σ' else if k = k2 then kh2 σ' else none) = some r0 at h
        by_cases hk : k = k1
        · subst hk
          rw [if_pos rfl] at h
          obtain ⟨t2, a1, b1⟩ := vx_catch (pc := pc) (ls := ls) (rest := st) hown [] ⟨a1, b1, h1, i1⟩ [⟨a2, b2, h2, i2⟩] h5 (fun z hz => nomatch hz) cv1 ci1 (hts _ cl1) (va_Nw.use rfl (ro11 _ cd1)) hce9 hcv hcl (kx1 q9 _ h ok2 T'.heap (locs ++ L1) ls hp (ej_Dmove hV hD) j3 hl) T' rfl X'
          exact ⟨t2, stp.trans a1, b1⟩
        · rw [if_neg hk] at h
          by_cases hk2 : k = k2
          · subst hk2
            rw [if_pos rfl] at h
            obtain ⟨t2, a1, b1⟩ := vx_catch (pc := pc) (ls := ls) (rest := st) hown [⟨a1, b1, h1, i1⟩] ⟨a2, b2, h2, i2⟩ [] h5 (fun z hz => by rw [List.mem_singleton.mp hz]; exact Or.inr ⟨ci1, _, hts _ cl1, nc _ _ _ hro⟩) cv2 ci2 (hts _ cl2) (va_Nw.use rfl (ro11 _ cd2)) hce9 hcv hcl (kx2 q9 _ h ok2 T'.heap (locs ++ L1) ls hp (ej_Dmove hV hD) j3 hl) T' rfl X'
            exact ⟨t2, stp.trans a1, b1⟩
          · rw [if_neg hk2] at h; cases h
def ej_Cw (l : Launch) (x : cw_T) (I : ej_I) (y : MethodName) (hh : List (Nat × Nat × Nat × Nat)) (As : List Value) (σ : lw_S) (mc ms : Nat) (r0 : Int32 × lw_S) : Prop := ∀ sz : Nat, vx_Met l y (.codeWith y I.1 I.2.1 (some .int) hh :: ej_WS) (ej_rm I mc ms) (va_Pc As (ej_pre (lV x) σ sz)) (ej_Qc (lV x) (va_A (ej_Wd (lV x) σ) sz) (some (.int r0.1)) r0.2) (fun _ _ _ => False) mc ms (va_A (ej_Wd (lV x) σ) sz)
theorem ej_conW_of {l : Launch} {y : MethodName} {As : List Value} {M : Option (Int32 × lw_S)} (hlt : l.stackTraces = false) (hy : plainName y.cls = true) (hyo : y.cls = I.2.2.1) (hnL : (lg_sl As).length ≤ I.2.1) (hL : lv_args 0 As = L) (hM : M = some r0) (body : ∀ F : ej_F, ej_finW x F r0 0 0 mc ms hh → ej_J (lV x) F I r0 σ 0 L [] M) : ej_Cw l x I y hh As σ mc ms r0 := by
  intro sz
  refine vx_ofWH (cc := I.1) (maxL := I.2.1) (ret := some .int) (hh := hh) hy rfl ?_
  intro p e s m args below meth c s₁ B hml hv
  obtain ⟨rfl, hsz, hP, hK, hD0, hro⟩ := hv
  have hts := atoms_spec (ws := .codeWith y I.1 I.2.1 (some .int) hh :: ej_WS) B.pre
  have hown : s.vm.findClass y.cls = some m.cls := findClass_of_methodNamed B.named
  have htab := vx_table (x := y) (y := y) B (hts _ List.mem_cons_self)
  subst hsz
  rw [lg_entry_eq]
  have hl1 := lv_entry As (n := I.2.1) hnL
  rw [hL] at hl1
  exact body (p, l, e, ej_rm I mc ms, s, m, As.toArray, below, meth, c, vx_MQ below (ej_Qc (lV x) (va_A (ej_Wd (lV x) σ) s.heap.size) (some (.int r0.1)) r0.2) (fun _ _ _ => False) As.toArray s mc ms (va_A (ej_Wd (lV x) σ) s.heap.size), va_A (ej_Wd (lV x) σ) s.heap.size, 0, 0) ⟨rfl, B.returns, rfl, rfl, htab, hlt, rfl, rfl⟩ hM ⟨B.exec, B.bytes, hml, by rw [← hyo]; exact hown, fun w h => hts w (List.mem_cons_of_mem _ h), hK, fun q h => Or.inr h, B.notSynchronized, Nat.le_refl _, Nat.le_refl _, Nat.zero_le _, Nat.zero_le _, hro, lV_ok x⟩ s.heap [] _ hP hD0.self va_S.rf hl1
end EW
/-- the law's own frame; kc, ks: what may still be made -/
def ej_finL (b N : Nat) (xs : Nat → Int32) (F : ej_F) (kc ks : Nat) : Prop := match F with
  | (_, l, _, R, s, _, args, below, meth, _, Q, A, cells, slots) => args = #[Value.ref b] ∧ Q = lw_Z below #[Value.ref b] s ∧ R = room_1 ∧ cells + kc ≤ room_1.cells ∧ slots + ks ≤ room_1.slots ∧ l.stackTraces = false ∧ meth.sig.returnType = ret ∧ va_X b N xs s s.heap ∧ b < s.heap.size ∧ A = (fun q : Nat => s.heap.size ≤ q)
theorem ej_finLw {b N : Nat} {xs : Nat → Int32} {F : ej_F} {kc ks kc' ks' : Nat} (h : ej_finL b N xs F kc ks) (h1 : kc' ≤ kc) (h2 : ks' ≤ ks) : ej_finL b N xs F kc' ks' := by
  obtain ⟨p, l, e, R, s, m, args, below, meth, c, Q, A, cells, slots⟩ := F
  obtain ⟨g1, g2, g3, g4, g5, g6⟩ := h
  exact ⟨g1, g2, g3, Nat.le_trans (Nat.add_le_add_left h1 _) g4, Nat.le_trans (Nat.add_le_add_left h2 _) g5, g6⟩
theorem ej_finLu {b N : Nat} {xs : Nat → Int32} {F : ej_F} {kc ks kc' ks' mc ms : Nat} (h : ej_finL b N xs F kc ks) (h1 : mc + kc' ≤ kc) (h2 : ms + ks' ≤ ks) : ej_finL b N xs (ej_up F mc ms) kc' ks' := by
  obtain ⟨p, l, e, R, s, m, args, below, meth, c, Q, A, cells, slots⟩ := F
  obtain ⟨g1, g2, g3, g4, g5, g6⟩ := h
  exact ⟨g1, g2, g3, by omega, by omega, g6⟩
theorem ej_okL {x : cw_T} {b N : Nat} {xs : Nat → Int32} {F : ej_F} {I : ej_I} {kc ks mc ms : Nat} (h : ej_finL b N xs F kc ks) (h1 : mc ≤ kc) (h2 : ms ≤ ks) (ok : ej_ok (lV x) F I) : ej_ok (lV x) (ej_up F mc ms) I := by
  obtain ⟨p, l, e, R, s, m, args, below, meth, c, Q, A, cells, slots⟩ := F
  obtain ⟨g1, g2, g3, g4, g5, g6⟩ := h
  subst g3
  obtain ⟨hx, hb, hml, hown, hts, hK, hA, hlk, hfr, hlo, hce, hsl, hro, hV⟩ := id ok
  exact ⟨hx, hb, hml, hown, hts, hK, hA, hlk, hfr, hlo, by show cells + mc ≤ room_1.cells; omega, by show slots + ms ≤ room_1.slots; omega, hro, hV⟩
def ej_LW (own : String) (idx : Nat) (y : MethodName) (I' : ej_I) (hh : List (Nat × Nat × Nat × Nat)) (n : Nat) : Prop := Cond.methodLink own idx y ∈ ej_WS ∧ Cond.static y ∈ ej_WS ∧ Cond.initialized y.cls ∈ ej_WS ∧ Cond.codeWith y I'.1 I'.2.1 (some .int) hh ∈ ej_WS ∧ y.cls ≠ "java/lang/invoke/MethodHandle" ∧ y.cls ≠ "java/lang/invoke/VarHandle" ∧ (parseMethodDescriptor y.desc).map (fun d => d.parameters.length) = some n
section EL
variable {x : cw_T} {F : ej_F} {I : ej_I} {σ : lw_S} {pc q t kc ks b N : Nat} {xs : Nat → Int32} {L L' : List (Nat × Value)} {st : List Value} {M : Option Int32} {r0 : Int32}
theorem jl_ret0 : ej_J (lV x) F I (1 : Int32) σ pc L [.int 0] (some 0) := fun h => by cases h
theorem jl_ret1 (hq : ej_finL b N xs F kc ks) (hI : I.1 = code) (hd : decode I.1 pc = .ok (.ireturn, 1)) : ej_J (lV x) F I (1 : Int32) σ pc L [.int 1] (some 1) := by
  intro h ok
  obtain ⟨p, l, e, R, s, m, args, below, meth, c, Q, A, cells, slots⟩ := F
  obtain ⟨hx, hb, hml, hown, hts, hK, hA, hlk, hfr, hlo, hce, hsl, hro, hV⟩ := id ok
  intro H locs ls hP hD hS hl
  obtain ⟨rfl, rfl, rfl, g4, g5, g6, g7, g8, g9, rfl⟩ := hq
  refine va_forget (fun q hq => hS.2.2 q hq) ?_
  refine W.widen (k := room_1.cells) (n := room_1.slots) (by omega) (by omega) ?_
  rw [hI] at hb hd
  exact lw_ret hx hb g7 hlk hd
theorem jl_slen (hq : ej_finL b N xs F kc ks) (hd : ej_d I pc .arraylength 1 q) (k : ej_J (lV x) F I r0 σ q L (.int (Int32.ofNat N) :: st) M) : ej_J (lV x) F I r0 σ pc L (.ref b :: st) M := by
  intro h ok
  obtain ⟨p, l, e, R, s, m, args, below, meth, c, Q, A, cells, slots⟩ := F
  obtain ⟨hx, hb, hml, hown, hts, hK, hA, hlk, hfr, hlo, hce, hsl, hro, hV⟩ := id ok
  intro H locs ls hP hD hS hl
  obtain ⟨rfl, rfl, rfl, g4, g5, g6, g7, g8, g9, rfl⟩ := id hq
  obtain ⟨hdg, rfl⟩ := hd
  exact va_slen hx hb g8 g9 (Nat.not_le.mpr g9) hS hdg (k h ok H locs ls hP hD hS hl)
theorem jl_sld {i : Int32} (hq : ej_finL b N xs F kc ks) (hd : ej_d I pc .iaload 1 q) (k : ej_J (lV x) F I r0 σ q L (.int (xs i.toNatClampNeg) :: st) M) : ej_J (lV x) F I r0 σ pc L (.int i :: .ref b :: st) (ej_ck i N M) := by
  intro h ok
  obtain ⟨p, l, e, R, s, m, args, below, meth, c, Q, A, cells, slots⟩ := F
  obtain ⟨hx, hb, hml, hown, hts, hK, hA, hlk, hfr, hlo, hce, hsl, hro, hV⟩ := id ok
  intro H locs ls hP hD hS hl
  obtain ⟨rfl, rfl, rfl, g4, g5, g6, g7, g8, g9, rfl⟩ := id hq
  obtain ⟨hdg, rfl⟩ := hd
  obtain ⟨hin, h⟩ := ej_ckn h
  exact va_sld hx hb g8 g9 (Nat.not_le.mpr g9) hS hin hdg (k h ok H locs ls hP hD hS hl)
/-- a call of one of the law's own methods -/
theorem jl_call {I' : ej_I} {y : MethodName} {idx mc ms : Nat} {hh : List (Nat × Nat × Nat × Nat)} {As st0 : List Value} {m1 : Option (Int32 × lw_S)} {km : Int32 → lw_S → Option Int32} (hc : ∀ z, m1 = some z → ∀ l : Launch, l.stackTraces = false → ej_Cw l x I' y hh As σ mc ms z) (hL : ej_LW I.2.2.1 idx y I' hh As.length) (hR : ej_ro I' I) (hd : ej_d I pc (.invokestatic idx) 3 q) (hst : st0 = As.reverse ++ st) (hcat : (st.map fun v => v.category).sum ≤ 8) (hq : ej_finL b N xs F kc ks) (hmc : mc ≤ kc) (hms : ms ≤ ks) (kk : ∀ r σ1, ej_J (lV x) (ej_up F mc ms) I r0 σ1 q L (.int r :: st) (km r σ1)) : ej_J (lV x) F I r0 σ pc L st0 (ej_bi m1 km) := by
  intro h ok
  have ok2 := ej_okL (x := x) hq hmc hms ok
  obtain ⟨p, l, e, R, s, m, args, below, meth, c, Q, A, cells, slots⟩ := F
  obtain ⟨hx, hb, hml, hown, hts, hK, hA, hlk, hfr, hlo, hce, hsl, hro, hV⟩ := id ok
  intro H locs ls hP hD hS hl
  obtain ⟨k1, k2, k4, k5, k6, k7, k8⟩ := hL
  obtain ⟨hdg, rfl⟩ := hd
  obtain ⟨rfl, rfl, rfl, g4, g5, g6, g7, g8, g9, rfl⟩ := hq
  cases hm : m1 with
  | none => rw [hm] at h; cases h
  | some z =>
    obtain ⟨r1, σ1⟩ := z
    rw [hm] at h
    have hrun := vx_runSX (e := e) (below := below) (meth := meth) (As := As) (rest := st) (cells := cells) (slots := slots) (locs := locs) (g := F0 m pc ls st0) (n := As.length) (mc := mc) (ms := ms) (ws := .codeWith y I'.1 I'.2.1 (some .int) hh :: ej_WS) (rm := ej_rm I' mc ms) (R := room_1) ⟨hx, hb, hml, hown, hts⟩ (hc _ hm l g6 H.size) ⟨⟨rfl, rfl, Nat.le_trans hR.1 hfr, Nat.le_trans hR.2 hlo, pay_in hts (ej_GI' k5), List.mem_cons_self⟩, hts _ k5, hts _ k4, ⟨k6, k7⟩, fun sig hsig => by rw [hsig] at k8; exact (Option.some.inj k8).symm, hts _ k1, hts _ k2⟩ ⟨ej_blind hV, fun U hU hW => ⟨rfl, ej_preU hV hP hD hS hA hK hro hU hW⟩⟩ rfl rfl hl.1 hst (lv_room hcat) hdg ⟨by show cells + mc ≤ room_1.cells; omega, by show slots + ms ≤ room_1.slots; omega⟩
    have hAA := ej_sub hD hS hA
    intro T hT X
    rcases hrun T hT X with ⟨v, st₀, t, T', L1, h0, X', hL1, e1, e2, ⟨⟨hv, hp⟩, hF⟩, stp⟩ | ⟨q9, st₀, t, T', L1, E, ce, h0, X', hL1, e1, e2, hno, hce9, hcv, hcl, stp⟩
    · cases hv
      obtain ⟨j1, j2, j3⟩ := vx_keep h0 e1 hS (fun q _ => hAA q) hAA hL1 hF
      rw [← e1] at hp
      obtain ⟨t2, a1, b1⟩ := kk _ _ h ok2 T'.heap (locs ++ L1) ls hp (ej_Dmove hV hD) j3 hl T' rfl X'
      exact ⟨t2, stp t2 a1, b1⟩
    · exact hno.elim
end EL
