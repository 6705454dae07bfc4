/-! methods that throw: an answer or an exception's number -/
def ej_en (k : Nat) : String := if k = 1 then "java/lang/IllegalArgumentException" else if k = 2 then "java/lang/IllegalStateException" else "java/lang/IndexOutOfBoundsException"
abbrev ej_X (S : Type) : Type := (Option Value × S) ⊕ (Nat × S)
def ej_xg {α S : Type} (f : α → Option Value × S) (r : α ⊕ (Nat × S)) : ej_X S := match r with | .inl a => .inl (f a) | .inr e => .inr e
def ej_fi {S : Type} (q : Int32 × S) : Option Value × S := (some (.int q.1), q.2)
def ej_fv {S : Type} (q : S) : Option Value × S := (none, q)
def ej_QX {S : Type} (V : ej_V S) (A : Nat → Prop) (X : ej_X S) : Array Value → State → Outcome → State → Prop := fun a st oc t => ∃ (rv : Option Value) (σ' : S), X = .inl (rv, σ') ∧ ej_Qc V A rv σ' a st oc t
def ej_XX {S : Type} (V : ej_V S) (A : Nat → Prop) (X : ej_X S) : String → State → State → Prop := fun E st t => ∃ (k : Nat) (σ' : S), X = .inr (k, σ') ∧ E = ej_en k ∧ va_P V.1 vwCl (ej_Wd V σ') t.heap ∧ va_F A st t
def ej_Cx {S : Type} (l : Launch) (V : ej_V S) (I : ej_I) (y : MethodName) (ret : Option FieldType) (As : List Value) (σ : S) (mc ms : Nat) (X : ej_X S) : Prop := ∀ sz : Nat, vx_Met l y (.code y I.1 I.2.1 ret :: ej_WS) (ej_rm I mc ms) (va_Pc As (ej_pre V σ sz)) (ej_QX V (va_A (ej_Wd V σ) sz) X) (ej_XX V (va_A (ej_Wd V σ) sz) X) mc ms (va_A (ej_Wd V σ) sz)
def ej_finX {S : Type} (V : ej_V S) (F : ej_F) (ret : Option FieldType) (X : ej_X S) (c0 s0 mc ms : Nat) : Prop := match F with
  | (_, l, _, R, s, _, args, below, meth, c, Q, A, cells, slots) => Q = vx_MQ below (ej_QX V A X) (ej_XX V A X) args s mc ms A ∧ meth.sig.returnType = ret ∧ cells = c0 ∧ slots = s0 ∧ (∀ x ∈ c.exceptionTable.toList, False) ∧ l.stackTraces = false ∧ R.cells = mc ∧ R.slots = ms
def ej_up (F : ej_F) (k n : Nat) : ej_F := match F with
  | (p, l, e, R, s, m, args, below, meth, c, Q, A, cells, slots) => (p, l, e, R, s, m, args, below, meth, c, Q, A, cells + k, slots + n)
def ej_bxv {S α : Type} (m : Option (S ⊕ (Nat × S))) (k : S → Option (α ⊕ (Nat × S))) : Option (α ⊕ (Nat × S)) := match m with | none => none | some (.inl q) => k q | some (.inr e) => some (.inr e)
theorem ej_finup {S : Type} {V : ej_V S} {F : ej_F} {ret : Option FieldType} {X : ej_X S} {c0 s0 mc ms : Nat} (k n : Nat) (h : ej_finX V F ret X c0 s0 mc ms) : ej_finX V (ej_up F k n) ret X (c0 + k) (s0 + n) mc ms := by
  obtain ⟨p, l, e, R, s, m, args, below, meth, c, Q, A, cells, slots⟩ := F
  obtain ⟨h1, h2, h3, h4, h5⟩ := h
  exact ⟨h1, h2, by rw [h3], by rw [h4], h5⟩
theorem ej_okup {S : Type} {V : ej_V S} {F : ej_F} {I : ej_I} {ret : Option FieldType} {X : ej_X S} {c0 s0 mc ms k n : Nat} (h : ej_finX V F ret X c0 s0 mc ms) (hc : c0 + k ≤ mc) (hs : s0 + n ≤ ms) (ok : ej_ok V F I) : ej_ok V (ej_up F k n) I := by
  obtain ⟨p, l, e, R, s, m, args, below, meth, c, Q, A, cells, slots⟩ := F
  obtain ⟨h1, h2, h3, h4, h5, h6, h7, h8⟩ := h
  obtain ⟨hx, hb, hml, hown, hts, hK, hA, hlk, hfr, hlo, hce, hsl, hro, hV⟩ := id ok
  exact ⟨hx, hb, hml, hown, hts, hK, hA, hlk, hfr, hlo, by rw [h3, h7]; exact hc, by rw [h4, h8]; exact hs, hro, hV⟩
section EX
variable {S α : Type} {V : ej_V S} {F : ej_F} {I : ej_I} {σ : S} {pc q t c0 s0 mc ms : Nat} {L L' : List (Nat × Value)} {st : List Value} {ret : Option FieldType}

theorem jx_ireturn {x : Int32} {r0 : (Int32 × S) ⊕ (Nat × S)} (hq : ej_finX V F (some .int) (ej_xg ej_fi r0) c0 s0 mc ms) (hc : c0 ≤ mc) (hs : s0 ≤ ms) (hd : decode I.1 pc = .ok (.ireturn, 1)) : ej_J V F I r0 σ pc L [.int x] (some (.inl (x, σ))) := by
  intro h ok
  obtain ⟨p, l, e, R, s, m, args, below, meth, c, Q, A, cells, slots⟩ := F
  obtain ⟨hx, hb, hml, hown, hts, hK, hA, hlk, hfr, hlo, hce, hsl, hro, hV⟩ := id ok
  intro H locs ls hP hD hS hl
  cases h
  obtain ⟨rfl, hr, rfl, rfl, h5, h6, h7, h8⟩ := hq
  exact vx_ret (W.widen hc hs (W.iret hx hb hr (fun t ht _ => ⟨_, _, rfl, ⟨rfl, by rw [ht]; exact hP⟩, hS.F ht⟩) hS.2.2 hd hlk))
theorem jx_zreturn {x : Int32} {r0 : (Int32 × S) ⊕ (Nat × S)} (hq : ej_finX V F (some .boolean) (ej_xg ej_fi r0) c0 s0 mc ms) (hc : c0 ≤ mc) (hs : s0 ≤ ms) (hd : decode I.1 pc = .ok (.ireturn, 1)) : ej_J V F I r0 σ pc L [.int x] (some (.inl (ej_bz x, σ))) := by
  intro h ok
  obtain ⟨p, l, e, R, s, m, args, below, meth, c, Q, A, cells, slots⟩ := F
  obtain ⟨hx, hb, hml, hown, hts, hK, hA, hlk, hfr, hlo, hce, hsl, hro, hV⟩ := id ok
  intro H locs ls hP hD hS hl
  cases h
  obtain ⟨rfl, hr, rfl, rfl, h5, h6, h7, h8⟩ := hq
  exact vx_ret (W.widen hc hs (ej_zret hx hb hr (ej_bz_n x) (fun t ht _ => ⟨_, _, rfl, ⟨rfl, by rw [ht]; exact hP⟩, hS.F ht⟩) hS.2.2 hd hlk))
theorem jx_vreturn {r0 : S ⊕ (Nat × S)} (hq : ej_finX V F none (ej_xg ej_fv r0) c0 s0 mc ms) (hc : c0 ≤ mc) (hs : s0 ≤ ms) (hd : decode I.1 pc = .ok (.return_, 1)) : ej_J V F I r0 σ pc L [] (some (.inl σ)) := by
  intro h ok
  obtain ⟨p, l, e, R, s, m, args, below, meth, c, Q, A, cells, slots⟩ := F
  obtain ⟨hx, hb, hml, hown, hts, hK, hA, hlk, hfr, hlo, hce, hsl, hro, hV⟩ := id ok
  intro H locs ls hP hD hS hl
  cases h
  obtain ⟨rfl, hr, rfl, rfl, h5, h6, h7, h8⟩ := hq
  exact vx_ret (W.widen hc hs (W.vret hx hb hr (fun t ht _ => ⟨_, _, rfl, ⟨rfl, by rw [ht]; exact hP⟩, hS.F ht⟩) hS.2.2 hd hlk))
end EX
section EX2
variable {α : Type} {x : cw_T} {F : ej_F} {I : ej_I} {σ : ej_S} {pc q t c0 s0 mc ms : Nat} {L L' : List (Nat × Value)} {st : List Value} {ret : Option FieldType}
/-- the words of a throw -/
def ej_TH (ik ic k : Nat) : Prop := Cond.classLink RX10 ik (ej_en k) ∈ ej_WS ∧ Cond.initialized (ej_en k) ∈ ej_WS ∧ (∀ w ∈ vx_atS RX10 ic (ej_en k) ["java/lang/RuntimeException", "java/lang/Exception"], w ∈ lw_tbl) ∧ (∀ w ∈ vx_atS RX10 ic (ej_en k) ["java/lang/RuntimeException", "java/lang/Exception"], goodWord w = true ∨ cw_iscd w = true) ∧ Bundle.fit (ej_en k) = true ∧ (∀ n ∈ ["java/lang/RuntimeException", "java/lang/Exception"], Bundle.fit n = true) ∧ (∀ w ∈ Cond.classLink RX10 ik (ej_en k) :: Cond.initialized (ej_en k) :: vx_atS RX10 ic (ej_en k) ["java/lang/RuntimeException", "java/lang/Exception"], vx_ot w = true)
theorem ej_hat {ik ic k : Nat} {A : Nat → Prop} {s : State} {args : Array Value} (hk : ej_TH ik ic k) (hts : ∀ w ∈ ej_WS, w.before args s = true) (hro : cw_RO x A s s.heap) : ∀ w ∈ vx_atS RX10 ic (ej_en k) ["java/lang/RuntimeException", "java/lang/Exception"], w.before args s = true := by
  obtain ⟨k1, k2, k3, k4, k5, k6, k7⟩ := hk
  obtain ⟨ro1, ro2, ro3, ro4, ro5, ro6, ro7, ro8, ro9, ro10, ro11, ro12, ro13⟩ := hro
  intro w hw
  rcases k4 w hw with hg | hg
  · exact hts w (ej_ws (k3 w hw) hg)
  · have h := ro11 w (List.mem_filter.mpr ⟨k3 w hw, hg⟩)
    cases w <;> first | exact va_Nw.use rfl h | cases hg

theorem jx_throw {f : α → Option Value × ej_S} {r0 : α ⊕ (Nat × ej_S)} {k ik is ic sa : Nat} {text : String} (hq : ej_finX (cV x) F ret (ej_xg f r0) c0 s0 mc ms) (hc : c0 + 1 ≤ mc) (hs : s0 + 6 ≤ ms) (ho : I.2.2.1 = RX10) (hk : ej_TH ik ic k) (hst : (RX10, is, text, sa) ∈ cw_strs) (hfr6 : 6 ≤ I.2.2.2.1) (hlo90 : 90 ≤ I.2.2.2.2) (hcat : (st.map fun v => v.category).sum ≤ 8) (d0 : decode I.1 pc = .ok (.new ik, 3)) (d3 : decode I.1 (pc + 3) = .ok (.dup, 1)) (d4 : decode I.1 (pc + 4) = .ok (.ldc is, 2)) (d6 : decode I.1 (pc + 6) = .ok (.invokespecial ic, 3)) (d9 : decode I.1 (pc + 9) = .ok (.athrow, 1)) : ej_J (cV x) F I r0 σ pc L st (some (.inr (k, σ))) := by
  intro h ok
  obtain ⟨p, l, e, R, s, m, args, below, meth, c, Q, A, cells, slots⟩ := F
  obtain ⟨hx, hb, hml, hown, hts, hK, hA, hlk, hfr, hlo, hce, hsl, hro, hV⟩ := id ok
  intro H locs ls hP hD hS hl
  cases h
  obtain ⟨rfl, hr, rfl, rfl, h5, h6, h7, h8⟩ := hq
  rw [ho] at hown
  have hat := ej_hat hk hts hro
  obtain ⟨k1, k2, k3, k4, k5, k6, k7⟩ := hk
  obtain ⟨ro1, ro2, ro3, ro4, ro5, ro6, ro7, ro8, ro9, ro10, ro11, ro12, ro13⟩ := id hro
  exact vx_throwS hx hb h6 hown k5 k6 (hts _ k1) (hts _ k2) (ro3 _ hst) hat k7 ro9 ro10 hS (hl.1.trans hml.symm) d0 d3 d4 d6 d9 (fun z hz => (h5 z hz).elim) (Nat.lt_of_lt_of_le (Nat.lt_of_lt_of_le (Nat.lt_succ_self 5) hfr6) hfr) (Nat.le_trans (Nat.add_le_add_right hcat 82) (Nat.le_trans hlo90 hlo)) (by rw [h7]; exact hc) (by rw [h8]; exact hs) hlk (fun t hal hz hq => ⟨_, _, rfl, rfl, fun i w hw => (hP i w hw).kept (hq _ (hP i w hw).lt), Nat.le_trans hS.1 hz, fun q h1 h2 => by rw [hq q (Nat.lt_of_lt_of_le h1 hS.1)]; exact hS.2.1 q h1 h2⟩) hS.2.2 hc hs
theorem jx_throww {f : α → Option Value × ej_S} {r0 : α ⊕ (Nat × ej_S)} {k ik is ic sa : Nat} {text : String} (hq : ej_finX (cV x) F ret (ej_xg f r0) c0 s0 mc ms) (hc : c0 + 1 ≤ mc) (hs : s0 + 6 ≤ ms) (ho : I.2.2.1 = RX10) (hk : ej_TH ik ic k) (hst : (RX10, is, text, sa) ∈ cw_strs) (hfr6 : 6 ≤ I.2.2.2.1) (hlo90 : 90 ≤ I.2.2.2.2) (hcat : (st.map fun v => v.category).sum ≤ 8) (d0 : decode I.1 pc = .ok (.new ik, 3)) (d3 : decode I.1 (pc + 3) = .ok (.dup, 1)) (d4 : decode I.1 (pc + 4) = .ok (.ldc_w is, 3)) (d7 : decode I.1 (pc + 7) = .ok (.invokespecial ic, 3)) (d10 : decode I.1 (pc + 10) = .ok (.athrow, 1)) : ej_J (cV x) F I r0 σ pc L st (some (.inr (k, σ))) := by
  intro h ok
  obtain ⟨p, l, e, R, s, m, args, below, meth, c, Q, A, cells, slots⟩ := F
  obtain ⟨hx, hb, hml, hown, hts, hK, hA, hlk, hfr, hlo, hce, hsl, hro, hV⟩ := id ok
  intro H locs ls hP hD hS hl
  cases h
  obtain ⟨rfl, hr, rfl, rfl, h5, h6, h7, h8⟩ := hq
  rw [ho] at hown
  have hat := ej_hat hk hts hro
  obtain ⟨k1, k2, k3, k4, k5, k6, k7⟩ := hk
  obtain ⟨ro1, ro2, ro3, ro4, ro5, ro6, ro7, ro8, ro9, ro10, ro11, ro12, ro13⟩ := id hro
  exact vx_throwSW hx hb h6 hown k5 k6 (hts _ k1) (hts _ k2) (ro3 _ hst) hat k7 ro9 ro10 hS (hl.1.trans hml.symm) d0 d3 d4 d7 d10 (fun z hz => (h5 z hz).elim) (Nat.lt_of_lt_of_le (Nat.lt_of_lt_of_le (Nat.lt_succ_self 5) hfr6) hfr) (Nat.le_trans (Nat.add_le_add_right hcat 82) (Nat.le_trans hlo90 hlo)) (by rw [h7]; exact hc) (by rw [h8]; exact hs) hlk (fun t hal hz hq => ⟨_, _, rfl, rfl, fun i w hw => (hP i w hw).kept (hq _ (hP i w hw).lt), Nat.le_trans hS.1 hz, fun q h1 h2 => by rw [hq q (Nat.lt_of_lt_of_le h1 hS.1)]; exact hS.2.1 q h1 h2⟩) hS.2.2 hc hs
/-- a call of a method that may throw; what it throws isn't caught here -/
theorem jx_callv {f : α → Option Value × ej_S} {r0 : α ⊕ (Nat × ej_S)} {I' : ej_I} {y : MethodName} {idx b mc' ms' : Nat} {As st0 : List Value} {m1 : Option (ej_S ⊕ (Nat × ej_S))} {km : ej_S → Option (α ⊕ (Nat × ej_S))} (hc : ∀ z, m1 = some z → ∀ l : Launch, l.stackTraces = false → ej_Cx l (cV x) I' y none (.ref b :: As) σ mc' ms' (ej_xg ej_fv z)) (hL : ej_LV I.2.2.1 idx y I' none As.length) (hrc : ej_rc (cV x) σ b y.cls) (hR : ej_ro I' I) (hd : ej_d I pc (.invokevirtual idx) 3 q) (hst : st0 = As.reverse ++ .ref b :: st) (hcat : (st.map fun v => v.category).sum ≤ 8) (hq : ej_finX (cV x) F ret (ej_xg f r0) c0 s0 mc ms) (hmc : c0 + mc' ≤ mc) (hms : s0 + ms' ≤ ms) (kk : ∀ σ1, ej_J (cV x) (ej_up F mc' ms') I r0 σ1 q L st (km σ1)) : ej_J (cV x) F I r0 σ pc L st0 (ej_bxv m1 km) := by
  intro h ok
  have ok2 := ej_okup (k := mc') (n := ms') hq hmc hms ok
  obtain ⟨p, l, e, R, s, m, args, below, meth, c, Q, A, cells, slots⟩ := F
  obtain ⟨hx, hb, hml, hown, hts, hK, hA, hlk, hfr, hlo, hce, hsl, hro, hV⟩ := id ok
  intro H locs ls hP hD hS hl
  obtain ⟨k1, k2, k3, k4, k5, k6, k7, k8⟩ := hL
  obtain ⟨q0, ci, T, N, fs, hq0, hc2⟩ := hrc
  obtain ⟨hdg, rfl⟩ := hd
  obtain ⟨rfl, hr, rfl, rfl, h5, h6, h7, h8⟩ := hq
  cases hm : m1 with
  | none => rw [hm] at h; cases h
  | some z =>
    rw [hm] at h
    have hrun := vx_runV (e := e) (below := below) (meth := meth) (As := As) (rest := st) (cells := cells) (slots := slots) (locs := locs) (g := F0 m pc ls st0) ⟨hx, hb, hml, hown, hts⟩ (hc _ hm l h6 H.size) ⟨callB_of As.length hts (ej_GI' k5) rfl rfl rfl (hts _ k4) (hts _ k1) ⟨k6, k7, k8⟩ ⟨Nat.le_trans hR.1 hfr, Nat.le_trans hR.2 hlo⟩, hts _ k2, hts _ k3⟩ ⟨ej_blind hV, va_recv hK hP (ci := ci) (q0 := q0) hc2 hq0, fun U hU hW => ⟨rfl, ej_preU hV hP hD hS hA hK hro hU hW⟩⟩ rfl rfl hl.1 hst (lv_room hcat) hdg ⟨by rw [h7]; exact hmc, by rw [h8]; exact hms⟩
    have hAA := ej_sub hD hS hA
    intro T hT X
    rcases hrun T hT X with ⟨v, st₀, t, T', L1, h0, X', hL1, e1, e2, ⟨rv, σ', hz, ⟨hv, hp⟩, hF⟩, stp⟩ | ⟨q9, st₀, t, T', L1, E, ce, h0, X', hL1, e1, e2, ⟨k, σ', hz, hE, hp, hF⟩, hce9, hcv, hcl, stp⟩
    · cases hv
      obtain ⟨j1, j2, j3⟩ := vx_keep h0 e1 hS (fun q _ => hAA q) hAA hL1 hF
      rw [← e1] at hp
      cases z with
      | inr e9 => cases hz
      | inl σ1 =>
        cases hz
        obtain ⟨t2, a1, b1⟩ := kk _ h ok2 T'.heap (locs ++ L1) ls hp (ej_Dmove hV hD) j3 hl T' rfl X'
        exact ⟨t2, stp t2 a1, b1⟩
    · obtain ⟨j1, j2, j3⟩ := vx_keep h0 e1 hS (fun q _ => hAA q) hAA hL1 hF
      cases z with
      | inl σ1 => cases hz
      | inr e9 =>
        cases hz
        cases h
        subst hE
        obtain ⟨t2, a1, b1⟩ := vx_out (p := p) (l := l) (e := e) (R := R) (Qc := ej_QX (cV x) A (ej_xg f (Sum.inr (k, σ')))) (XC := ej_XX (cV x) A (ej_xg f (Sum.inr (k, σ')))) (free := A) (pc := pc) (ls := ls) (rest := st) (H := T'.heap) (locs := locs ++ L1) (cells := cells + mc') (slots := slots + ms') (fun z hz => (h5 z hz).elim) hlk (by rw [e1]; exact hce9) hcv hcl (fun t9 ht9 _ => ⟨k, σ', rfl, rfl, by rw [ht9, e1]; exact hp, j3.F ht9⟩) j3.2.2 hmc hms T' rfl X'
        exact ⟨t2, stp.trans a1, b1⟩
theorem ej_conX_of {l : Launch} {y : MethodName} {As : List Value} {f : α → Option Value × ej_S} {r0 : α ⊕ (Nat × ej_S)} {M : Option (α ⊕ (Nat × ej_S))} (hl : l.stackTraces = false) (hy : plainName y.cls = true) (hyo : y.cls = I.2.2.1) (hnL : (lg_sl As).length ≤ I.2.1) (hL : lv_args 0 As = L) (hM : M = some r0) (body : ∀ F : ej_F, ej_finX (cV x) F ret (ej_xg f r0) 0 0 mc ms → ej_J (cV x) F I r0 σ 0 L [] M) : ej_Cx l (cV x) I y ret As σ mc ms (ej_xg f r0) := by
  intro sz
  refine vx_ofW (cc := I.1) (maxL := I.2.1) (ret := ret) hy rfl ?_
  intro p e s m args below meth c s₁ B hml htb hv
  obtain ⟨rfl, hsz, hP, hK, hD0, hro⟩ := hv
  have hts := atoms_spec (ws := .code y I.1 I.2.1 ret :: ej_WS) B.pre
  have hown : s.vm.findClass y.cls = some m.cls := findClass_of_methodNamed B.named
  subst hsz
  rw [lg_entry_eq]
  have hl1 := lv_entry As (n := I.2.1) hnL
  rw [hL] at hl1
  exact body (p, l, e, ej_rm I mc ms, s, m, As.toArray, below, meth, c, vx_MQ below (ej_QX (cV x) (va_A (ej_Wd (cV x) σ) s.heap.size) (ej_xg f r0)) (ej_XX (cV x) (va_A (ej_Wd (cV x) σ) s.heap.size) (ej_xg f r0)) As.toArray s mc ms (va_A (ej_Wd (cV x) σ) s.heap.size), va_A (ej_Wd (cV x) σ) s.heap.size, 0, 0) ⟨rfl, B.returns, rfl, rfl, htb, hl, rfl, rfl⟩ hM ⟨B.exec, B.bytes, hml, by rw [← hyo]; exact hown, fun w h => hts w (List.mem_cons_of_mem _ h), hK, fun q h => Or.inr h, B.notSynchronized, Nat.le_refl _, Nat.le_refl _, Nat.zero_le _, Nat.zero_le _, hro, cV_ok x⟩ s.heap [] _ hP hD0.self va_S.rf hl1
end EX2
