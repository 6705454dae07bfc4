/-! the law's own methods: what may still be made is counted -/
/-- a call that may throw, where it is caught -/
def ej_bw {S β : Type} (m : Option ((Int32 × S) ⊕ (Nat × S))) (k : Int32 → S → Option β) (h : Nat → S → Option β) : Option β := match m with | none => none | some (.inl q) => k q.1 q.2 | some (.inr e) => h e.1 e.2
/-- E cells may still be made, and six slots for each -/
def ej_bud (F : ej_F) (E : Nat) : Prop := match F with
  | (_, l, _, R, _, _, _, _, _, _, _, _, cells, slots) => l.stackTraces = false ∧ cells + E ≤ R.cells ∧ slots + 6 * E ≤ R.slots
theorem ej_budw {F : ej_F} {E E' : Nat} (h : ej_bud F E) (h1 : E' ≤ E) : ej_bud F E' := by
  obtain ⟨p, l, e, R, s, m, args, below, meth, c, Q, A, cells, slots⟩ := F
  obtain ⟨g1, g2, g3⟩ := h
  exact ⟨g1, by omega, by omega⟩
theorem ej_budu {F : ej_F} {E : Nat} (c : Nat) (h : ej_bud F E) (h1 : c ≤ E) : ej_bud (ej_up F c (6 * c)) (E - c) := by
  obtain ⟨p, l, e, R, s, m, args, below, meth, c9, Q, A, cells, slots⟩ := F
  obtain ⟨g1, g2, g3⟩ := h
  exact ⟨g1, by omega, by omega⟩
theorem ej_okB {S : Type} {V : ej_V S} {F : ej_F} {I : ej_I} {E : Nat} (c : Nat) (h : ej_bud F E) (h1 : c ≤ E) (ok : ej_ok V F I) : ej_ok V (ej_up F c (6 * c)) I := by
  obtain ⟨p, l, e, R, s, m, args, below, meth, c9, Q, A, cells, slots⟩ := F
  obtain ⟨g1, g2, g3⟩ := h
  obtain ⟨hx, hb, hml, hown, hts, hK, hA, hlk, hfr, hlo, hce, hsl, hro, hV⟩ := id ok
  exact ⟨hx, hb, hml, hown, hts, hK, hA, hlk, hfr, hlo, by omega, by omega, hro, hV⟩
/-- how one of the law's methods ends -/
def ej_finR (x : lw_T) (F : ej_F) (ret : Option FieldType) (rv : Option Value) (σ' : lw_S) (hh : List (Nat × Nat × Nat × Nat)) : Prop := match F with
  | (_, _, _, R, s, _, args, below, meth, c, Q, A, _, _) => Q = vx_MQ below (ej_Qc (lV x) A rv σ') (fun _ _ _ => False) args s R.cells R.slots A ∧ meth.sig.returnType = ret ∧ c.exceptionTable.toList = tableOf hh
theorem ej_finRu {x : lw_T} {F : ej_F} {ret : Option FieldType} {rv : Option Value} {σ' : lw_S} {hh : List (Nat × Nat × Nat × Nat)} (k n : Nat) (h : ej_finR x F ret rv σ' hh) : ej_finR x (ej_up F k n) ret rv σ' hh := by
  obtain ⟨p, l, e, R, s, m, args, below, meth, c, Q, A, cells, slots⟩ := F
  exact h
/-- the law's own frame -/
def ej_finL (x : lw_T) (F : ej_F) : Prop := match F with
  | (_, _, _, R, s, _, args, below, meth, _, Q, A, _, _) => args = #[Value.ref x.2.1] ∧ Q = lw_Z below #[Value.ref x.2.1] s ∧ R = room_1 ∧ meth.sig.returnType = ret ∧ A = (fun q : Nat => s.heap.size ≤ q)
theorem ej_finLu {x : lw_T} {F : ej_F} (k n : Nat) (h : ej_finL x F) : ej_finL x (ej_up F k n) := by
  obtain ⟨p, l, e, R, s, m, args, below, meth, c, Q, A, cells, slots⟩ := F
  exact h
def ej_Cb (l : Launch) (x : lw_T) (I : ej_I) (y : MethodName) (ret : Option FieldType) (As : List Value) (σ : lw_S) (c : Nat) (rv : Option Value) (σ' : lw_S) : Prop := ∀ sz : Nat, vx_Met l y (.code y I.1 I.2.1 ret :: ej_WS) (ej_rm I c (6 * c)) (va_Pc As (ej_pre (lV x) σ sz)) (ej_Qc (lV x) (va_A (ej_Wd (lV x) σ) sz) rv σ') (fun _ _ _ => False) c (6 * c) (va_A (ej_Wd (lV x) σ) sz)
def ej_CbX (l : Launch) (x : lw_T) (I : ej_I) (y : MethodName) (ret : Option FieldType) (hh : List (Nat × Nat × Nat × Nat)) (As : List Value) (σ : lw_S) (c : Nat) (rv : Option Value) (σ' : lw_S) : Prop := ∀ sz : Nat, vx_Met l y (.codeWith y I.1 I.2.1 ret hh :: ej_WS) (ej_rm I c (6 * c)) (va_Pc As (ej_pre (lV x) σ sz)) (ej_Qc (lV x) (va_A (ej_Wd (lV x) σ) sz) rv σ') (fun _ _ _ => False) c (6 * c) (va_A (ej_Wd (lV x) σ) sz)
def ej_LX (own : String) (idx : Nat) (y : MethodName) (I' : ej_I) (ret : Option FieldType) (hh : List (Nat × Nat × Nat × Nat)) (n : Nat) : Prop := Cond.methodLink own idx y ∈ ej_WS ∧ Cond.static y ∈ ej_WS ∧ Cond.initialized y.cls ∈ ej_WS ∧ Cond.codeWith y I'.1 I'.2.1 ret hh ∈ ej_WS ∧ y.cls ≠ "java/lang/invoke/MethodHandle" ∧ y.cls ≠ "java/lang/invoke/VarHandle" ∧ (parseMethodDescriptor y.desc).map (fun d => d.parameters.length) = some n
section EB
variable {ρ : Type} {x : lw_T} {F : ej_F} {I : ej_I} {σ : lw_S} {pc q t E : Nat} {L L' : List (Nat × Value)} {st : List Value} {hh : List (Nat × Nat × Nat × Nat)} {M : Option ρ} {r0 : ρ}

theorem jb_ireturn {y : Int32} {r0 : Int32 × lw_S} (hq : ej_finR x F (some .int) (some (.int r0.1)) r0.2 hh) (hu : ej_bud F E) (hd : decode I.1 pc = .ok (.ireturn, 1)) : ej_J (lV x) F I r0 σ pc L [.int y] (some (y, σ)) := by
  intro h ok
  obtain ⟨p, l, e, R, s, m, args, below, meth, c, Q, A, cells, slots⟩ := F
  obtain ⟨hx, hb, hml, hown, hts, hK, hA, hlk, hfr, hlo, hce, hsl, hro, hV⟩ := id ok
  intro H locs ls hP hD hS hl
  cases h
  obtain ⟨rfl, hr, h5⟩ := hq
  obtain ⟨g1, g2, g3⟩ := hu
  exact vx_ret (W.widen (by omega) (by omega) (W.iret hx hb hr (fun t ht _ => ⟨⟨rfl, by rw [ht]; exact hP⟩, hS.F ht⟩) hS.2.2 hd hlk))
theorem jb_zreturn {y : Int32} {r0 : Int32 × lw_S} (hq : ej_finR x F (some .boolean) (some (.int r0.1)) r0.2 hh) (hu : ej_bud F E) (hd : decode I.1 pc = .ok (.ireturn, 1)) : ej_J (lV x) F I r0 σ pc L [.int y] (some (ej_bz y, σ)) := by
  intro h ok
  obtain ⟨p, l, e, R, s, m, args, below, meth, c, Q, A, cells, slots⟩ := F
  obtain ⟨hx, hb, hml, hown, hts, hK, hA, hlk, hfr, hlo, hce, hsl, hro, hV⟩ := id ok
  intro H locs ls hP hD hS hl
  cases h
  obtain ⟨rfl, hr, h5⟩ := hq
  obtain ⟨g1, g2, g3⟩ := hu
  exact vx_ret (W.widen (by omega) (by omega) (ej_zret hx hb hr (ej_bz_n y) (fun t ht _ => ⟨⟨rfl, by rw [ht]; exact hP⟩, hS.F ht⟩) hS.2.2 hd hlk))
theorem jb_vreturn {r0 : lw_S} (hq : ej_finR x F none none r0 hh) (hu : ej_bud F E) (hd : decode I.1 pc = .ok (.return_, 1)) : ej_J (lV x) F I r0 σ pc L [] (some σ) := by
  intro h ok
  obtain ⟨p, l, e, R, s, m, args, below, meth, c, Q, A, cells, slots⟩ := F
  obtain ⟨hx, hb, hml, hown, hts, hK, hA, hlk, hfr, hlo, hce, hsl, hro, hV⟩ := id ok
  intro H locs ls hP hD hS hl
  cases h
  obtain ⟨rfl, hr, h5⟩ := hq
  obtain ⟨g1, g2, g3⟩ := hu
  exact vx_ret (W.widen (by omega) (by omega) (W.vret hx hb hr (fun t ht _ => ⟨⟨rfl, by rw [ht]; exact hP⟩, hS.F ht⟩) hS.2.2 hd hlk))
theorem jb_zreturn0 {r0 : Int32 × lw_S} (hq : ej_finR x F (some .boolean) (some (.int r0.1)) r0.2 hh) (hu : ej_bud F E) (hd : decode I.1 pc = .ok (.ireturn, 1)) : ej_J (lV x) F I r0 σ pc L [.int 0] (some (0, σ)) := jb_zreturn hq hu hd
theorem jb_zreturn1 {r0 : Int32 × lw_S} (hq : ej_finR x F (some .boolean) (some (.int r0.1)) r0.2 hh) (hu : ej_bud F E) (hd : decode I.1 pc = .ok (.ireturn, 1)) : ej_J (lV x) F I r0 σ pc L [.int 1] (some (1, σ)) := jb_zreturn hq hu hd
theorem jl_slen (hd : ej_d I pc .arraylength 1 q) (k : ej_J (lV x) F I r0 σ q L (.int (Int32.ofNat x.2.2.1) :: st) M) : ej_J (lV x) F I r0 σ pc L (.ref x.2.1 :: st) M := by
  intro h ok
  obtain ⟨p, l, e, R, s, m, args, below, meth, c, Q, A, cells, slots⟩ := F
  obtain ⟨hx, hb, hml, hown, hts, hK, hA, hlk, hfr, hlo, hce, hsl, hro, hV⟩ := id ok
  intro H locs ls hP hD hS hl
  have hr : lw_RO x A s s.heap := hro
  obtain ⟨hdg, rfl⟩ := hd
  exact va_slen hx hb hr.2.1 hr.2.2.1 hr.2.2.2 hS hdg (k h ok H locs ls hP hD hS hl)
theorem jl_sld {i : Int32} (hd : ej_d I pc .iaload 1 q) (k : ej_J (lV x) F I r0 σ q L (.int (x.2.2.2 i.toNatClampNeg) :: st) M) : ej_J (lV x) F I r0 σ pc L (.int i :: .ref x.2.1 :: st) (ej_ck i x.2.2.1 M) := by
  intro h ok
  obtain ⟨p, l, e, R, s, m, args, below, meth, c, Q, A, cells, slots⟩ := F
  obtain ⟨hx, hb, hml, hown, hts, hK, hA, hlk, hfr, hlo, hce, hsl, hro, hV⟩ := id ok
  intro H locs ls hP hD hS hl
  have hr : lw_RO x A s s.heap := hro
  obtain ⟨hdg, rfl⟩ := hd
  obtain ⟨hin, h⟩ := ej_ckn h
  exact va_sld hx hb hr.2.1 hr.2.2.1 hr.2.2.2 hS hin hdg (k h ok H locs ls hP hD hS hl)
theorem jl_ret {y : Int32} (hq : ej_finL x F) (hu : ej_bud F E) (hI : I.1 = code) (hd : decode I.1 pc = .ok (.ireturn, 1)) : ej_J (lV x) F I (1 : Int32) σ pc L [.int y] (if y = 1 then some 1 else none) := by
  intro h ok
  obtain ⟨p, l, e, R, s, m, args, below, meth, c, Q, A, cells, slots⟩ := F
  obtain ⟨hx, hb, hml, hown, hts, hK, hA, hlk, hfr, hlo, hce, hsl, hro, hV⟩ := id ok
  intro H locs ls hP hD hS hl
  by_cases hy : y = 1
  · subst hy
    obtain ⟨rfl, rfl, rfl, g7, rfl⟩ := hq
    obtain ⟨g1, g2, g3⟩ := hu
    refine va_forget (fun q hq => hS.2.2 q hq) ?_
    refine W.widen (k := room_1.cells) (n := room_1.slots) (Nat.le_trans (Nat.le_add_right _ _) g2) (Nat.le_trans (Nat.le_add_right _ _) g3) ?_
    rw [hI] at hb hd
    exact lw_ret hx hb g7 hlk hd
  · rw [if_neg hy] at h; cases h
theorem j_lxor {y1 y2 : Int64} (hd : ej_d I pc .lxor 1 q) (k : ej_J (lV x) F I r0 σ q L (.long (y1 ^^^ y2) :: st) M) : ej_J (lV x) F I r0 σ pc L (.long y2 :: .long y1 :: st) M := by
  intro h ok
  obtain ⟨p, l, e, R, s, m, args, below, meth, c, Q, A, cells, slots⟩ := F
  obtain ⟨hx, hb, hml, hown, hts, hK, hA, hlk, hfr, hlo, hce, hsl, hro, hV⟩ := id ok
  intro H locs ls hP hD hS hl
  obtain ⟨hdg, rfl⟩ := hd
  exact lv_lxor hx hb hdg (k h ok H locs ls hP hD hS hl)
theorem jb_callSi {I' : ej_I} {y : MethodName} {idx c : Nat} {ret : Option FieldType} {As st0 : List Value} {m1 : Option (Int32 × lw_S)} {km : Int32 → lw_S → Option ρ} (hc : ∀ z, m1 = some z → ∀ l : Launch, l.stackTraces = false → ej_Cb l x I' y ret As σ c (some (.int z.1)) z.2) (hL : ej_LS I.2.2.1 idx y I' ret As.length) (hR : ej_ro I' I) (hd : ej_d I pc (.invokestatic idx) 3 q) (hst : st0 = As.reverse ++ st) (hcat : (st.map fun v => v.category).sum ≤ 8) (hu : ej_bud F E) (hcE : c ≤ E) (kk : ∀ r σ1, ej_J (lV x) (ej_up F c (6 * c)) I r0 σ1 q L (.int r :: st) (km r σ1)) : ej_J (lV x) F I r0 σ pc L st0 (ej_bi m1 km) := by
  intro h ok
  have ok2 := ej_okB c hu hcE ok
  obtain ⟨p, l, e, R, s, m, args, below, meth, c9, Q, A, cells, slots⟩ := F
  obtain ⟨hx, hb, hml, hown, hts, hK, hA, hlk, hfr, hlo, hce, hsl, hro, hV⟩ := id ok
  intro H locs ls hP hD hS hl
  obtain ⟨k1, k2, k4, k5, k6, k7, k8⟩ := hL
  obtain ⟨hdg, rfl⟩ := hd
  obtain ⟨g1, g2, g3⟩ := hu
  cases hm : m1 with
  | none => rw [hm] at h; cases h
  | some z =>
    rw [hm] at h
    have hrun := vx_runS (e := e) (below := below) (meth := meth) (As := As) (rest := st) (cells := cells) (slots := slots) (locs := locs) (g := F0 m pc ls st0) (mc := c) (ms := 6 * c) (R := R) ⟨hx, hb, hml, hown, hts⟩ (hc _ hm l g1 H.size) ⟨callB_of As.length hts (ej_GI' k5) rfl rfl rfl (hts _ k4) (hts _ k1) ⟨k6, k7, k8⟩ ⟨Nat.le_trans hR.1 hfr, Nat.le_trans hR.2 hlo⟩, hts _ k2⟩ ⟨ej_blind hV, fun U hU hW => ⟨rfl, ej_preU hV hP hD hS hA hK hro hU hW⟩⟩ rfl rfl hl.1 hst (lv_room hcat) hdg ⟨by omega, by omega⟩
    have hAA := ej_sub hD hS hA
    intro T hT X
    rcases hrun T hT X with ⟨v, st₀, t, T', L1, h0, X', hL1, e1, e2, ⟨⟨hv, hp⟩, hF⟩, stp⟩ | ⟨q9, st₀, t, T', L1, E9, ce, h0, X', hL1, e1, e2, hno, hce9, hcv, hcl, stp⟩
    · cases hv
      obtain ⟨j1, j2, j3⟩ := vx_keep h0 e1 hS (fun q _ => hAA q) hAA hL1 hF
      rw [← e1] at hp
      obtain ⟨t2, a1, b1⟩ := kk _ _ h ok2 T'.heap (locs ++ L1) ls hp (ej_Dmove hV hD) j3 hl T' rfl X'
      exact ⟨t2, stp t2 a1, b1⟩
    · exact hno.elim
theorem jb_callSv {I' : ej_I} {y : MethodName} {idx c : Nat} {ret : Option FieldType} {As st0 : List Value} {m1 : Option lw_S} {km : lw_S → Option ρ} (hc : ∀ z, m1 = some z → ∀ l : Launch, l.stackTraces = false → ej_Cb l x I' y ret As σ c none z) (hL : ej_LS I.2.2.1 idx y I' ret As.length) (hR : ej_ro I' I) (hd : ej_d I pc (.invokestatic idx) 3 q) (hst : st0 = As.reverse ++ st) (hcat : (st.map fun v => v.category).sum ≤ 8) (hu : ej_bud F E) (hcE : c ≤ E) (kk : ∀ σ1, ej_J (lV x) (ej_up F c (6 * c)) I r0 σ1 q L st (km σ1)) : ej_J (lV x) F I r0 σ pc L st0 (ej_bv m1 km) := by
  intro h ok
  have ok2 := ej_okB c hu hcE ok
  obtain ⟨p, l, e, R, s, m, args, below, meth, c9, Q, A, cells, slots⟩ := F
  obtain ⟨hx, hb, hml, hown, hts, hK, hA, hlk, hfr, hlo, hce, hsl, hro, hV⟩ := id ok
  intro H locs ls hP hD hS hl
  obtain ⟨k1, k2, k4, k5, k6, k7, k8⟩ := hL
  obtain ⟨hdg, rfl⟩ := hd
  obtain ⟨g1, g2, g3⟩ := hu
  cases hm : m1 with
  | none => rw [hm] at h; cases h
  | some z =>
    rw [hm] at h
    have hrun := vx_runS (e := e) (below := below) (meth := meth) (As := As) (rest := st) (cells := cells) (slots := slots) (locs := locs) (g := F0 m pc ls st0) (mc := c) (ms := 6 * c) (R := R) ⟨hx, hb, hml, hown, hts⟩ (hc _ hm l g1 H.size) ⟨callB_of As.length hts (ej_GI' k5) rfl rfl rfl (hts _ k4) (hts _ k1) ⟨k6, k7, k8⟩ ⟨Nat.le_trans hR.1 hfr, Nat.le_trans hR.2 hlo⟩, hts _ k2⟩ ⟨ej_blind hV, fun U hU hW => ⟨rfl, ej_preU hV hP hD hS hA hK hro hU hW⟩⟩ rfl rfl hl.1 hst (lv_room hcat) hdg ⟨by omega, by omega⟩
    have hAA := ej_sub hD hS hA
    intro T hT X
    rcases hrun T hT X with ⟨v, st₀, t, T', L1, h0, X', hL1, e1, e2, ⟨⟨hv, hp⟩, hF⟩, stp⟩ | ⟨q9, st₀, t, T', L1, E9, ce, h0, X', hL1, e1, e2, hno, hce9, hcv, hcl, stp⟩
    · cases hv
      obtain ⟨j1, j2, j3⟩ := vx_keep h0 e1 hS (fun q _ => hAA q) hAA hL1 hF
      rw [← e1] at hp
      obtain ⟨t2, a1, b1⟩ := kk _ h ok2 T'.heap (locs ++ L1) ls hp (ej_Dmove hV hD) j3 hl T' rfl X'
      exact ⟨t2, stp t2 a1, b1⟩
    · exact hno.elim
theorem jb_callXi {I' : ej_I} {y : MethodName} {idx c : Nat} {hh1 : List (Nat × Nat × Nat × Nat)} {ret : Option FieldType} {As st0 : List Value} {m1 : Option (Int32 × lw_S)} {km : Int32 → lw_S → Option ρ} (hc : ∀ z, m1 = some z → ∀ l : Launch, l.stackTraces = false → ej_CbX l x I' y ret hh1 As σ c (some (.int z.1)) z.2) (hL : ej_LX I.2.2.1 idx y I' ret hh1 As.length) (hR : ej_ro I' I) (hd : ej_d I pc (.invokestatic idx) 3 q) (hst : st0 = As.reverse ++ st) (hcat : (st.map fun v => v.category).sum ≤ 8) (hu : ej_bud F E) (hcE : c ≤ E) (kk : ∀ r σ1, ej_J (lV x) (ej_up F c (6 * c)) I r0 σ1 q L (.int r :: st) (km r σ1)) : ej_J (lV x) F I r0 σ pc L st0 (ej_bi m1 km) := by
  intro h ok
  have ok2 := ej_okB c hu hcE ok
  obtain ⟨p, l, e, R, s, m, args, below, meth, c9, Q, A, cells, slots⟩ := F
  obtain ⟨hx, hb, hml, hown, hts, hK, hA, hlk, hfr, hlo, hce, hsl, hro, hV⟩ := id ok
  intro H locs ls hP hD hS hl
  obtain ⟨k1, k2, k4, k5, k6, k7, k8⟩ := hL
  obtain ⟨hdg, rfl⟩ := hd
  obtain ⟨g1, g2, g3⟩ := hu
  cases hm : m1 with
  | none => rw [hm] at h; cases h
  | some z =>
    rw [hm] at h
    have hrun := vx_runSX (e := e) (below := below) (meth := meth) (As := As) (rest := st) (cells := cells) (slots := slots) (locs := locs) (g := F0 m pc ls st0) (n := As.length) (mc := c) (ms := 6 * c) (ws := .codeWith y I'.1 I'.2.1 ret hh1 :: ej_WS) (rm := ej_rm I' c (6 * c)) (R := R) ⟨hx, hb, hml, hown, hts⟩ (hc _ hm l g1 H.size) ⟨⟨rfl, rfl, Nat.le_trans hR.1 hfr, Nat.le_trans hR.2 hlo, pay_in hts (ej_GI' k5), List.mem_cons_self⟩, hts _ k5, hts _ k4, ⟨k6, k7⟩, fun sig hsig => by rw [hsig] at k8; exact (Option.some.inj k8).symm, hts _ k1, hts _ k2⟩ ⟨ej_blind hV, fun U hU hW => ⟨rfl, ej_preU hV hP hD hS hA hK hro hU hW⟩⟩ rfl rfl hl.1 hst (lv_room hcat) hdg ⟨by omega, by omega⟩
    have hAA := ej_sub hD hS hA
    intro T hT X
    rcases hrun T hT X with ⟨v, st₀, t, T', L1, h0, X', hL1, e1, e2, ⟨⟨hv, hp⟩, hF⟩, stp⟩ | ⟨q9, st₀, t, T', L1, E9, ce, h0, X', hL1, e1, e2, hno, hce9, hcv, hcl, stp⟩
    · cases hv
      obtain ⟨j1, j2, j3⟩ := vx_keep h0 e1 hS (fun q _ => hAA q) hAA hL1 hF
      rw [← e1] at hp
      obtain ⟨t2, a1, b1⟩ := kk _ _ h ok2 T'.heap (locs ++ L1) ls hp (ej_Dmove hV hD) j3 hl T' rfl X'
      exact ⟨t2, stp t2 a1, b1⟩
    · exact hno.elim
end EB
section EW
variable {x : lw_T} {F : ej_F} {I : ej_I} {σ : lw_S} {pc q t E : Nat} {L L' : List (Nat × Value)} {st : List Value} {hh : List (Nat × Nat × Nat × Nat)} {r0 : Int32 × lw_S} {rt : Option FieldType} {rv : Option Value} {σ' : lw_S}
theorem jb_catch1 {I' : ej_I} {y : MethodName} {idx b c : Nat} {ret : Option FieldType} {As st0 : List Value} {m1 : Option ((Int32 × lw_S) ⊕ (Nat × lw_S))} {km : Int32 → lw_S → Option (Int32 × lw_S)} {a1 b1 h1 i1 k1 : Nat} {kh1 : lw_S → Option (Int32 × lw_S)} (hc : ∀ z, m1 = some z → ∀ l : Launch, l.stackTraces = false → ej_Cx l (lV x) I' y ret (.ref b :: As) σ c (6 * c) (ej_xg ej_fi z)) (hL : ej_LV I.2.2.1 idx y I' ret As.length) (hrc : ej_rc (lV x) σ b y.cls) (hR : ej_ro I' I) (hd : ej_d I pc (.invokevirtual idx) 3 q) (hst : st0 = As.reverse ++ .ref b :: st) (hcat : (st.map fun v => v.category).sum ≤ 8) (hq : ej_finR x F rt rv σ' hh) (hu : ej_bud F E) (hcE : c ≤ E) (hh1 : hh = [(a1, b1, h1, i1)]) (cv1 : covers ⟨a1, b1, h1, i1⟩ pc = true) (ci1 : i1 ≠ 0) (cl1 : Cond.classLink I.2.2.1 i1 (ej_en k1) ∈ ej_WS) (cd1 : Cond.castable (ej_en k1) (ej_en k1) ∈ cw_cd)  (kk : ∀ r σ1, ej_J (lV x) (ej_up F c (6 * c)) I r0 σ1 q L (.int r :: st) (km r σ1)) (kx1 : ∀ q9 σ1, ej_J (lV x) (ej_up F c (6 * c)) I r0 σ1 h1 L [.ref q9] (kh1 σ1)) : ej_J (lV x) F I r0 σ pc L st0 (ej_bw m1 km (fun k s1 => if k = k1 then kh1 s1 else none)) := by
  intro h ok
  have ok2 := ej_okB c hu hcE ok
  obtain ⟨p, l, e, R, s, m, args, below, meth, c9, Q, A, cells, slots⟩ := F
  obtain ⟨hx, hb, hml, hown, hts, hK, hA, hlk, hfr, hlo, hce, hsl, hro, hV⟩ := id ok
  intro H locs ls hP hD hS hl
  obtain ⟨k1', k2', k3', k4, k5, k6, k7, k8⟩ := hL
  obtain ⟨q0, ci, T, N, fs, hq0, hc2⟩ := hrc
  obtain ⟨hdg, rfl⟩ := hd
  obtain ⟨-, hr, h5⟩ := hq
  obtain ⟨g1, g2, g3⟩ := hu
  have hr9 : lw_RO x A s s.heap := hro
  obtain ⟨ro1, ro2, ro3, ro4, ro5, ro6, ro7, ro8, ro9, ro10, ro11, ro12, ro13⟩ := id hr9.1
  subst hh1
  cases hm : m1 with
  | none => rw [hm] at h; cases h
  | some z =>
    rw [hm] at h
    have hrun := vx_runV (e := e) (below := below) (meth := meth) (As := As) (rest := st) (cells := cells) (slots := slots) (locs := locs) (g := F0 m pc ls st0) ⟨hx, hb, hml, hown, hts⟩ (hc _ hm l g1 H.size) ⟨callB_of As.length hts (ej_GI' k5) rfl rfl rfl (hts _ k4) (hts _ k1') ⟨k6, k7, k8⟩ ⟨Nat.le_trans hR.1 hfr, Nat.le_trans hR.2 hlo⟩, hts _ k2', hts _ k3'⟩ ⟨ej_blind hV, va_recv hK hP (ci := ci) (q0 := q0) hc2 hq0, fun U hU hW => ⟨rfl, ej_preU hV hP hD hS hA hK hro hU hW⟩⟩ rfl rfl hl.1 hst (lv_room hcat) hdg ⟨by omega, by omega⟩
    have hAA := ej_sub hD hS hA
    intro T hT X
    rcases hrun T hT X with ⟨v, st₀, t, T', L1, h0, X', hL1, e1, e2, ⟨rv, σ', hz, ⟨hv, hp⟩, hF⟩, stp⟩ | ⟨q9, st₀, t, T', L1, E9, ce, h0, X', hL1, e1, e2, ⟨k, σ', hz, hE, hp, hF⟩, hce9, hcv, hcl, stp⟩
    · cases hv
      obtain ⟨j1, j2, j3⟩ := vx_keep h0 e1 hS (fun q _ => hAA q) hAA hL1 hF
      rw [← e1] at hp
      cases z with
      | inr e9 => cases hz
      | inl w1 =>
        obtain ⟨r1, σ1⟩ := w1
        cases hz
        obtain ⟨t2, a1, b1⟩ := kk _ _ h ok2 T'.heap (locs ++ L1) ls hp (ej_Dmove hV hD) j3 hl T' rfl X'
        exact ⟨t2, stp t2 a1, b1⟩
    · obtain ⟨j1, j2, j3⟩ := vx_keep h0 e1 hS (fun q _ => hAA q) hAA hL1 hF
      cases z with
      | inl σ1 => cases hz
      | inr e9 =>
        cases hz
        subst hE
        rw [← e1] at hp hce9
        change (if k = k1 then kh1 σ' else none) = some r0 at h
        by_cases hk1 : k = k1
        · subst hk1
          rw [if_pos rfl] at h
          obtain ⟨t2, a1, b1⟩ := vx_catch (pc := pc) (ls := ls) (rest := st) hown [] ⟨a1, b1, h1, i1⟩ [] h5 (fun z hz => nomatch hz) cv1 ci1 (hts _ cl1) (va_Nw.use rfl (ro11 _ cd1)) hce9 hcv hcl (kx1 q9 _ h ok2 T'.heap (locs ++ L1) ls hp (ej_Dmove hV hD) j3 hl) T' rfl X'
          exact ⟨t2, stp.trans a1, b1⟩
        · rw [if_neg hk1] at h; cases h
theorem jb_catch3 {I' : ej_I} {y : MethodName} {idx b c : Nat} {ret : Option FieldType} {As st0 : List Value} {m1 : Option ((Int32 × lw_S) ⊕ (Nat × lw_S))} {km : Int32 → lw_S → Option (Int32 × lw_S)} {a1 b1 h1 i1 k1 : Nat} {a2 b2 h2 i2 k2 : Nat} {a3 b3 h3 i3 k3 : Nat} {kh1 kh2 kh3 : lw_S → Option (Int32 × lw_S)} (hc : ∀ z, m1 = some z → ∀ l : Launch, l.stackTraces = false → ej_Cx l (lV x) I' y ret (.ref b :: As) σ c (6 * c) (ej_xg ej_fi z)) (hL : ej_LV I.2.2.1 idx y I' ret As.length) (hrc : ej_rc (lV x) σ b y.cls) (hR : ej_ro I' I) (hd : ej_d I pc (.invokevirtual idx) 3 q) (hst : st0 = As.reverse ++ .ref b :: st) (hcat : (st.map fun v => v.category).sum ≤ 8) (hq : ej_finR x F rt rv σ' hh) (hu : ej_bud F E) (hcE : c ≤ E) (hh1 : hh = [(a1, b1, h1, i1), (a2, b2, h2, i2), (a3, b3, h3, i3)]) (cv1 : covers ⟨a1, b1, h1, i1⟩ pc = true) (ci1 : i1 ≠ 0) (cl1 : Cond.classLink I.2.2.1 i1 (ej_en k1) ∈ ej_WS) (cd1 : Cond.castable (ej_en k1) (ej_en k1) ∈ cw_cd) (cv2 : covers ⟨a2, b2, h2, i2⟩ pc = true) (ci2 : i2 ≠ 0) (cl2 : Cond.classLink I.2.2.1 i2 (ej_en k2) ∈ ej_WS) (cd2 : Cond.castable (ej_en k2) (ej_en k2) ∈ cw_cd) (cv3 : covers ⟨a3, b3, h3, i3⟩ pc = true) (ci3 : i3 ≠ 0) (cl3 : Cond.classLink I.2.2.1 i3 (ej_en k3) ∈ ej_WS) (cd3 : Cond.castable (ej_en k3) (ej_en k3) ∈ cw_cd) (nc21 : ∀ A U H, cw_RO x.1 A U H → va_Nc (ej_en k2) (ej_en k1) U) (nc31 : ∀ A U H, cw_RO x.1 A U H → va_Nc (ej_en k3) (ej_en k1) U) (nc32 : ∀ A U H, cw_RO x.1 A U H → va_Nc (ej_en k3) (ej_en k2) U) (kk : ∀ r σ1, ej_J (lV x) (ej_up F c (6 * c)) I r0 σ1 q L (.int r :: st) (km r σ1)) (kx1 : ∀ q9 σ1, ej_J (lV x) (ej_up F c (6 * c)) I r0 σ1 h1 L [.ref q9] (kh1 σ1)) (kx2 : ∀ q9 σ1, ej_J (lV x) (ej_up F c (6 * c)) I r0 σ1 h2 L [.ref q9] (kh2 σ1)) (kx3 : ∀ q9 σ1, ej_J (lV x) (ej_up F c (6 * c)) I r0 σ1 h3 L [.ref q9] (kh3 σ1)) : ej_J (lV x) F I r0 σ pc L st0 (ej_bw m1 km (fun k s1 => if k = k1 then kh1 s1 else if k = k2 then kh2 s1 else if k = k3 then kh3 s1 else none)) := by
  intro h ok
  have ok2 := ej_okB c hu hcE ok
  obtain ⟨p, l, e, R, s, m, args, below, meth, c9, Q, A, cells, slots⟩ := F
  obtain ⟨hx, hb, hml, hown, hts, hK, hA, hlk, hfr, hlo, hce, hsl, hro, hV⟩ := id ok
  intro H locs ls hP hD hS hl
  obtain ⟨k1', k2', k3', k4, k5, k6, k7, k8⟩ := hL
  obtain ⟨q0, ci, T, N, fs, hq0, hc2⟩ := hrc
  obtain ⟨hdg, rfl⟩ := hd
  obtain ⟨-, hr, h5⟩ := hq
  obtain ⟨g1, g2, g3⟩ := hu
  have hr9 : lw_RO x A s s.heap := hro
  obtain ⟨ro1, ro2, ro3, ro4, ro5, ro6, ro7, ro8, ro9, ro10, ro11, ro12, ro13⟩ := id hr9.1
  subst hh1
  cases hm : m1 with
  | none => rw [hm] at h; cases h
  | some z =>
    rw [hm] at h
    have hrun := vx_runV (e := e) (below := below) (meth := meth) (As := As) (rest := st) (cells := cells) (slots := slots) (locs := locs) (g := F0 m pc ls st0) ⟨hx, hb, hml, hown, hts⟩ (hc _ hm l g1 H.size) ⟨callB_of As.length hts (ej_GI' k5) rfl rfl rfl (hts _ k4) (hts _ k1') ⟨k6, k7, k8⟩ ⟨Nat.le_trans hR.1 hfr, Nat.le_trans hR.2 hlo⟩, hts _ k2', hts _ k3'⟩ ⟨ej_blind hV, va_recv hK hP (ci := ci) (q0 := q0) hc2 hq0, fun U hU hW => ⟨rfl, ej_preU hV hP hD hS hA hK hro hU hW⟩⟩ rfl rfl hl.1 hst (lv_room hcat) hdg ⟨by omega, by omega⟩
    have hAA := ej_sub hD hS hA
    intro T hT X
    rcases hrun T hT X with ⟨v, st₀, t, T', L1, h0, X', hL1, e1, e2, ⟨rv, σ', hz, ⟨hv, hp⟩, hF⟩, stp⟩ | ⟨q9, st₀, t, T', L1, E9, ce, h0, X', hL1, e1, e2, ⟨k, σ', hz, hE, hp, hF⟩, hce9, hcv, hcl, stp⟩
    · cases hv
      obtain ⟨j1, j2, j3⟩ := vx_keep h0 e1 hS (fun q _ => hAA q) hAA hL1 hF
      rw [← e1] at hp
      cases z with
      | inr e9 => cases hz
      | inl w1 =>
        obtain ⟨r1, σ1⟩ := w1
        cases hz
        obtain ⟨t2, a1, b1⟩ := kk _ _ h ok2 T'.heap (locs ++ L1) ls hp (ej_Dmove hV hD) j3 hl T' rfl X'
        exact ⟨t2, stp t2 a1, b1⟩
    · obtain ⟨j1, j2, j3⟩ := vx_keep h0 e1 hS (fun q _ => hAA q) hAA hL1 hF
      cases z with
      | inl σ1 => cases hz
      | inr e9 =>
        cases hz
        subst hE
        rw [← e1] at hp hce9
        change (if k = k1 then kh1 σ' else if k = k2 then kh2 σ' else if k = k3 then kh3 σ' else none) = some r0 at h
        by_cases hk1 : k = k1
        · subst hk1
          rw [if_pos rfl] at h
          obtain ⟨t2, a1, b1⟩ := vx_catch (pc := pc) (ls := ls) (rest := st) hown [] ⟨a1, b1, h1, i1⟩ [⟨a2, b2, h2, i2⟩, ⟨a3, b3, h3, i3⟩] h5 (fun z hz => nomatch hz) cv1 ci1 (hts _ cl1) (va_Nw.use rfl (ro11 _ cd1)) hce9 hcv hcl (kx1 q9 _ h ok2 T'.heap (locs ++ L1) ls hp (ej_Dmove hV hD) j3 hl) T' rfl X'
          exact ⟨t2, stp.trans a1, b1⟩
        · rw [if_neg hk1] at h
          by_cases hk2 : k = k2
          · subst hk2
            rw [if_pos rfl] at h
            obtain ⟨t2, a1, b1⟩ := vx_catch (pc := pc) (ls := ls) (rest := st) hown [⟨a1, b1, h1, i1⟩] ⟨a2, b2, h2, i2⟩ [⟨a3, b3, h3, i3⟩] h5 (fun z hz => by rw [List.mem_singleton.mp hz]; exact Or.inr ⟨ci1, _, hts _ cl1, nc21 _ _ _ hr9.1⟩) cv2 ci2 (hts _ cl2) (va_Nw.use rfl (ro11 _ cd2)) hce9 hcv hcl (kx2 q9 _ h ok2 T'.heap (locs ++ L1) ls hp (ej_Dmove hV hD) j3 hl) T' rfl X'
            exact ⟨t2, stp.trans a1, b1⟩
          · rw [if_neg hk2] at h
            by_cases hk3 : k = k3
            · subst hk3
              rw [if_pos rfl] at h
              obtain ⟨t2, a1, b1⟩ := vx_catch (pc := pc) (ls := ls) (rest := st) hown [⟨a1, b1, h1, i1⟩, ⟨a2, b2, h2, i2⟩] ⟨a3, b3, h3, i3⟩ [] h5 (fun z hz => by
                rcases List.mem_cons.mp hz with hz | hz
                · rw [hz]; exact Or.inr ⟨ci1, _, hts _ cl1, nc31 _ _ _ hr9.1⟩
                · rw [List.mem_singleton.mp hz]; exact Or.inr ⟨ci2, _, hts _ cl2, nc32 _ _ _ hr9.1⟩) cv3 ci3 (hts _ cl3) (va_Nw.use rfl (ro11 _ cd3)) hce9 hcv hcl (kx3 q9 _ h ok2 T'.heap (locs ++ L1) ls hp (ej_Dmove hV hD) j3 hl) T' rfl X'
              exact ⟨t2, stp.trans a1, b1⟩
            · rw [if_neg hk3] at h; cases h
end EW
theorem ej_conB_of {x : lw_T} {I : ej_I} {σ : lw_S} {ρ : Type} {r0 : ρ} {rv : Option Value} {σ' : lw_S} {c : Nat} {L : List (Nat × Value)} {l : Launch} {y : MethodName} {ret : Option FieldType} {As : List Value} {M : Option ρ} (hlt : l.stackTraces = false) (hy : plainName y.cls = true) (hyo : y.cls = I.2.2.1) (hnL : (lg_sl As).length ≤ I.2.1) (hL : lv_args 0 As = L) (hM : M = some r0) (body : ∀ F : ej_F, ej_finR x F ret rv σ' [] → ej_bud F c → ej_J (lV x) F I r0 σ 0 L [] M) : ej_Cb l x I y ret As σ c rv σ' := by
  intro sz
  refine vx_ofW (cc := I.1) (maxL := I.2.1) (ret := ret) hy rfl ?_
  intro p e s m args below meth c9 s₁ B hml htb hv
  obtain ⟨rfl, hsz, hP, hK, hD0, hro⟩ := hv
  have hts := atoms_spec (ws := .code y I.1 I.2.1 ret :: ej_WS) B.pre
  have hown : s.vm.findClass y.cls = some m.cls := findClass_of_methodNamed B.named
  subst hsz
  rw [lg_entry_eq]
  have hl1 := lv_entry As (n := I.2.1) hnL
  rw [hL] at hl1
  exact body (p, l, e, ej_rm I c (6 * c), s, m, As.toArray, below, meth, c9, vx_MQ below (ej_Qc (lV x) (va_A (ej_Wd (lV x) σ) s.heap.size) rv σ') (fun _ _ _ => False) As.toArray s c (6 * c) (va_A (ej_Wd (lV x) σ) s.heap.size), va_A (ej_Wd (lV x) σ) s.heap.size, 0, 0) ⟨rfl, B.returns, List.eq_nil_iff_forall_not_mem.mpr htb⟩ ⟨hlt, by show 0 + c ≤ c; omega, by show 0 + 6 * c ≤ 6 * c; omega⟩ hM ⟨B.exec, B.bytes, hml, by rw [← hyo]; exact hown, fun w h => hts w (List.mem_cons_of_mem _ h), hK, fun q h => Or.inr h, B.notSynchronized, Nat.le_refl _, Nat.le_refl _, Nat.zero_le _, Nat.zero_le _, hro, lV_ok x⟩ s.heap [] _ hP hD0.self va_S.rf hl1
theorem ej_conBX_of {x : lw_T} {I : ej_I} {σ : lw_S} {ρ : Type} {r0 : ρ} {rv : Option Value} {σ' : lw_S} {c : Nat} {hh : List (Nat × Nat × Nat × Nat)} {L : List (Nat × Value)} {l : Launch} {y : MethodName} {ret : Option FieldType} {As : List Value} {M : Option ρ} (hlt : l.stackTraces = false) (hy : plainName y.cls = true) (hyo : y.cls = I.2.2.1) (hnL : (lg_sl As).length ≤ I.2.1) (hL : lv_args 0 As = L) (hM : M = some r0) (body : ∀ F : ej_F, ej_finR x F ret rv σ' hh → ej_bud F c → ej_J (lV x) F I r0 σ 0 L [] M) : ej_CbX l x I y ret hh As σ c rv σ' := by
  intro sz
  refine vx_ofWH (cc := I.1) (maxL := I.2.1) (ret := ret) (hh := hh) hy rfl ?_
  intro p e s m args below meth c9 s₁ B hml hv
  obtain ⟨rfl, hsz, hP, hK, hD0, hro⟩ := hv
  have hts := atoms_spec (ws := .codeWith y I.1 I.2.1 ret hh :: ej_WS) B.pre
  have hown : s.vm.findClass y.cls = some m.cls := findClass_of_methodNamed B.named
  have htab := vx_table (x := y) (y := y) B (hts _ List.mem_cons_self)
  subst hsz
  rw [lg_entry_eq]
  have hl1 := lv_entry As (n := I.2.1) hnL
  rw [hL] at hl1
  exact body (p, l, e, ej_rm I c (6 * c), s, m, As.toArray, below, meth, c9, vx_MQ below (ej_Qc (lV x) (va_A (ej_Wd (lV x) σ) s.heap.size) rv σ') (fun _ _ _ => False) As.toArray s c (6 * c) (va_A (ej_Wd (lV x) σ) s.heap.size), va_A (ej_Wd (lV x) σ) s.heap.size, 0, 0) ⟨rfl, B.returns, htab⟩ ⟨hlt, by show 0 + c ≤ c; omega, by show 0 + 6 * c ≤ 6 * c; omega⟩ hM ⟨B.exec, B.bytes, hml, by rw [← hyo]; exact hown, fun w h => hts w (List.mem_cons_of_mem _ h), hK, fun q h => Or.inr h, B.notSynchronized, Nat.le_refl _, Nat.le_refl _, Nat.zero_le _, Nat.zero_le _, hro, lV_ok x⟩ s.heap [] _ hP hD0.self va_S.rf hl1
