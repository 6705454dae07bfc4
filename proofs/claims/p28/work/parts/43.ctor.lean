/-! constructors: the world is a written list that grows -/
theorem va_AOA.moved {ty : FieldType} {u U : State} (hvm : u.vm.Alike U.vm) (h : va_AOA ty u) : va_AOA ty U := by
  have h1 : (Cond.arrayOver (.array ty)).before #[] (u.setVm U.vm) = true := by rw [Cond.arrayOver_setVmC hvm]; exact h
  have h2 : (Cond.arrayOver (.array ty)).before #[] (u.setVm U.vm) = (Cond.arrayOver (.array ty)).before #[] U := rfl
  rw [h2] at h1
  exact h1
def cj_RO : ej_RO := fun _ U _ => (∀ w ∈ cw_nestM, va_Nw (.methodLinkNest w.1 w.2.1 w.2.2.1 w.2.2.2) U) ∧ va_AO "MailRouter$Text" U ∧ va_AOA .int U
theorem cj_ROk : ej_ROk cj_RO := ⟨fun _ _ _ _ h _ => h, fun _ _ _ _ hW h => ⟨fun w hw => va_Nw.warmM hW (h.1 w hw), va_AO.moved hW.alike h.2.1, va_AOA.moved hW.alike h.2.2⟩, fun _ _ _ _ h _ => h⟩
def cjV (D : va_G) (aC : Nat → ClassId) (ws : va_W) : ej_V Unit := (D, aC, fun _ => ws, cj_RO)
theorem cjV_ok (D : va_G) (aC : Nat → ClassId) (ws : va_W) : ej_Vok (cjV D aC ws) := ⟨cj_ROk, fun _ _ _ => rfl⟩
def cj_P (D : va_G) (post : va_W → Prop) (A : Nat → Prop) : Array Value → State → Outcome → State → Prop := fun _ st oc t => (oc = .returned none ∧ ∃ ws' : va_W, post ws' ∧ va_P D vwCl ws' t.heap ∧ va_D A ws') ∧ va_F A st t
def cj_fin (D : va_G) (F : ej_F) (post : va_W → Prop) (c0 s0 mc ms : Nat) : Prop := match F with
  | (_, _, _, R, s, _, args, below, meth, _, Q, A, cells, slots) => Q = MQ below (cj_P D post A) args s mc ms A ∧ meth.sig.returnType = none ∧ cells = c0 ∧ slots = s0 ∧ R.cells = mc ∧ R.slots = ms ∧ meth.name = "<init>"
theorem cj_finup {D : va_G} {F : ej_F} {post : va_W → Prop} {c0 s0 mc ms : Nat} (k n : Nat) (h : cj_fin D F post c0 s0 mc ms) : cj_fin D (ej_up F k n) post (c0 + k) (s0 + n) mc ms := by
  obtain ⟨p, l, e, R, s, m, args, below, meth, c, Q, A, cells, slots⟩ := F
  obtain ⟨h1, h2, h3, h4, h5⟩ := h
  exact ⟨h1, h2, by rw [h3], by rw [h4], h5⟩
theorem cj_ok {D : va_G} {aC : Nat → ClassId} {F : ej_F} {I : ej_I} {ws ws' : va_W} {post : va_W → Prop} {c0 s0 mc ms k n : Nat} (h : cj_fin D F post c0 s0 mc ms) (hc : c0 + k ≤ mc) (hs : s0 + n ≤ ms) (ok : ej_ok (cjV D aC ws) F I) : ej_ok (cjV D aC ws') (ej_up F k n) I := by
  obtain ⟨p, l, e, R, s, m, args, below, meth, c, Q, A, cells, slots⟩ := F
  obtain ⟨h1, h2, h3, h4, h5, h6, h7⟩ := h
  obtain ⟨hx, hb, hml, hown, hts, hK, hA, hlk, hfr, hlo, hce, hsl, hro, hV⟩ := id ok
  exact ⟨hx, hb, hml, hown, hts, hK, hA, hlk, hfr, hlo, by rw [h3, h5]; exact hc, by rw [h4, h6]; exact hs, hro, cjV_ok D aC ws'⟩
theorem cj_ok0 {D : va_G} {aC : Nat → ClassId} {F : ej_F} {I : ej_I} {ws ws' : va_W} (ok : ej_ok (cjV D aC ws) F I) : ej_ok (cjV D aC ws') F I := by
  obtain ⟨p, l, e, R, s, m, args, below, meth, c, Q, A, cells, slots⟩ := F
  obtain ⟨hx, hb, hml, hown, hts, hK, hA, hlk, hfr, hlo, hce, hsl, hro, hV⟩ := id ok
  exact ⟨hx, hb, hml, hown, hts, hK, hA, hlk, hfr, hlo, hce, hsl, hro, cjV_ok D aC ws'⟩
/-- a class that can be made -/
def cj_CL (own : String) (idx ci N : Nat) (fs : List Value) : Prop := ∃ (C : String) (T : u_T) (ty : Nat → FieldType), vwCl[ci]? = some (C, T, N) ∧ (∀ w ∈ u_ws C T N, w ∈ ej_WS) ∧ Cond.classLink own idx C ∈ ej_WS ∧ Cond.instantiable C N ∈ ej_WS ∧ Cond.initialized C ∈ ej_WS ∧ (∀ k, k < N → parseFieldDescriptor (T k).2.2.1 = some (ty k)) ∧ (∀ j, j < N → defaultValue (ty j) = vp_V fs j)
theorem arrV_congr {c : ClassId} {N : Nat} {f g : Nat → Value} (h : ∀ j, j < N → f j = g j) : arrV c N f = arrV c N g := by
  unfold arrV
  congr 1
  exact congrArg Array.ofFn (funext fun j => h j.val j.isLt)
section CJ
variable {D : va_G} {aC : Nat → ClassId} {F : ej_F} {I : ej_I} {ws ws' : va_W} {pc q t c0 s0 mc ms : Nat} {L L' : List (Nat × Value)} {st : List Value} {post : va_W → Prop}
theorem cj_new {idx ci N : Nat} {fs : List Value} (hq : cj_fin D F post c0 s0 mc ms) (hC : cj_CL I.2.2.1 idx ci N fs) (hc : c0 + 1 ≤ mc) (hs : s0 + N ≤ ms) (hd : ej_d I pc (.new idx) 3 q) (kk : ∀ a, ej_J (cjV D aC (ws ++ [(a, .inr (ci, fs))])) (ej_up F 1 N) I () () q L (.ref a :: st) (some ())) : ej_J (cjV D aC ws) F I () () pc L st (some ()) := by
  intro _ ok
  have ok2 := fun w => cj_ok (ws' := w) hq hc hs ok
  obtain ⟨p, l, e, R, s, m, args, below, meth, c, Q, A, cells, slots⟩ := F
  obtain ⟨hx, hb, hml, hown, hts, hK, hA, hlk, hfr, hlo, hce, hsl, hro, hV⟩ := id ok
  intro H locs ls hP hD hS hl
  obtain ⟨h1, h2, rfl, rfl, h5, h6, h7⟩ := hq
  obtain ⟨hdg, rfl⟩ := hd
  obtain ⟨C, T, ty, f1, f2, f3, f4, f5, f6, f7⟩ := hC
  exact va_new hx hb hts f2 ty f6 hown (hts _ f3) (hts _ f4) (hts _ f5) hK hP hD hS hA f1 f7 (by rw [h5]; exact hc) (by rw [h6]; exact hs) hdg (fun a H1 hP1 hD1 hS1 => kk a rfl (ok2 _) H1 locs ls hP1 hD1 hS1 hl)
theorem cj_putF {idx ci k a0 q0 : Nat} {ty : FieldType} {v : Value} {fs : List Value} (hq : cj_fin D F post c0 s0 mc ms) (hF : ej_FL I.2.2.1 idx ci k ty true) (he : ws[q0]? = some (a0, .inr (ci, fs))) (hl9 : k < fs.length) (hw : ws.set q0 (a0, .inr (ci, fs.set k v)) = ws') (hn : narrow ty v = v) (hfit : fits ty v = true) (hdecl : ∀ (C : String) (T : u_T) (N : Nat), vwCl[ci]? = some (C, T, N) → (T k).1 = I.2.2.1) (hd : ej_d I pc (.putfield idx) 3 q) (kk : ej_J (cjV D aC ws') F I () () q L st (some ())) : ej_J (cjV D aC ws) F I () () pc L (v :: .ref a0 :: st) (some ()) := by
  intro _ ok
  obtain ⟨p, l, e, R, s, m, args, below, meth, c, Q, A, cells, slots⟩ := F
  obtain ⟨hx, hb, hml, hown, hts, hK, hA, hlk, hfr, hlo, hce, hsl, hro, hV⟩ := id ok
  intro H locs ls hP hD hS hl
  obtain ⟨hdg, rfl⟩ := hd
  obtain ⟨h1, h2, h3, h4, h5, h6, h7⟩ := hq
  obtain ⟨C, T, N, ty0, f1, f2, f3, f4, f5, f6, f7, f8⟩ := hF
  refine va_putF hx hb hts f3 ty0 f7 f8 hown hK hP hD hS q0 he f1 k f2 (hts _ f4) (fun x hx => hx) f5 h7 (hdecl C T N f1) f6 hn hfit hl9 hdg (fun H1 locs1 hP1 hD1 hS1 => ?_)
  subst hw
  exact kk rfl (cj_ok0 ok) H1 locs1 ls hP1 hD1 hS1 hl
theorem cj_newa {atype : ArrayType} {t0 N : Nat} {n : Int32} {ty : FieldType} {z : vp_A} (hq : cj_fin D F post c0 s0 mc ms) (hw : Cond.arrayClass (newarray.typeOf atype) ∈ ej_WS) (hty : newarray.typeOf atype = ty) (ht : (ej_tys aC)[t0]? = some (aC t0, ty)) (hra : ∀ (U : State) (c : ClassId), va_RA U c ty = (U.vm.findClass ("[" ++ ty.toString) = some c)) (hz : ∀ cA : ClassId, vp_cell cA z = arrV cA N (fun _ => defaultValue ty)) (hn : ¬ n < 0) (hN : n.toNatClampNeg = N) (hby : N * componentBytes ty ≤ 536870912) (hc : c0 + 1 ≤ mc) (hs : s0 + N ≤ ms) (hd : ej_d I pc (.newarray atype) 2 q) (kk : ∀ a, ej_J (cjV D aC (ws ++ [(a, .inl (aC t0, z))])) (ej_up F 1 N) I () () q L (.ref a :: st) (some ())) : ej_J (cjV D aC ws) F I () () pc L (.int n :: st) (some ()) := by
  intro _ ok
  have ok2 := fun w => cj_ok (ws' := w) hq hc hs ok
  obtain ⟨p, l, e, R, s, m, args, below, meth, c, Q, A, cells, slots⟩ := F
  obtain ⟨hx, hb, hml, hown, hts, hK, hA, hlk, hfr, hlo, hce, hsl, hro, hV⟩ := id ok
  intro H locs ls hP hD hS hl
  obtain ⟨h1, h2, rfl, rfl, h5, h6, h7⟩ := hq
  obtain ⟨hdg, rfl⟩ := hd
  refine va_newa hx hb (hts _ hw) hty hK hP hD hS hA hz hn hN hby (by rw [h5]; exact hc) (by rw [h6]; exact hs) hdg (fun a cA H1 hK1 hP1 hD1 hS1 => ?_)
  have e1 := (hK1.2 (ej_tys aC).length (cA, ty) (by rw [show ej_aC (cjV D aC ws) = aC from rfl, List.getElem?_append_right (Nat.le_refl _), Nat.sub_self]; rfl)).2
  have e2 := (hK.2 t0 _ ht).2
  rw [hra] at e1 e2
  have e3 : cA = aC t0 := Option.some.inj (e1.symm.trans e2)
  subst e3
  exact kk a rfl (ok2 _) H1 locs ls hP1 hD1 hS1 hl
theorem cj_newq {idx N : Nat} {n : Int32} (hq : cj_fin D F post c0 s0 mc ms) (hw1 : Cond.classLink I.2.2.1 idx "MailRouter$Text" ∈ ej_WS) (hn : ¬ n < 0) (hN : n.toNatClampNeg = N) (hby : N * 4 ≤ 536870912) (hc : c0 + 1 ≤ mc) (hs : s0 + N ≤ ms) (hd : ej_d I pc (.anewarray idx) 3 q) (kk : ∀ a, ej_J (cjV D aC (ws ++ [(a, .inl (aC 4, N, .inr (.inr (.inr (.inr (fun _ => none))))))])) (ej_up F 1 N) I () () q L (.ref a :: st) (some ())) : ej_J (cjV D aC ws) F I () () pc L (.int n :: st) (some ()) := by
  intro _ ok
  have ok2 := fun w => cj_ok (ws' := w) hq hc hs ok
  obtain ⟨p, l, e, R, s, m, args, below, meth, c, Q, A, cells, slots⟩ := F
  obtain ⟨hx, hb, hml, hown, hts, hK, hA, hlk, hfr, hlo, hce, hsl, hro, hV⟩ := id ok
  intro H locs ls hP hD hS hl
  obtain ⟨h1, h2, rfl, rfl, h5, h6, h7⟩ := hq
  obtain ⟨hdg, rfl⟩ := hd
  refine va_newq hx hb hown (hts _ hw1) hro.2.1 hK hP hD hS hA hn hN hby (by rw [h5]; exact hc) (by rw [h6]; exact hs) hdg (fun a cA H1 hK1 hP1 hD1 hS1 => ?_)
  obtain ⟨kA, comp, g1, g2, g3, e1⟩ := (hK1.2 (ej_tys aC).length (cA, .object "MailRouter$Text") (by rw [show ej_aC (cjV D aC ws) = aC from rfl, List.getElem?_append_right (Nat.le_refl _), Nat.sub_self]; rfl)).2
  obtain ⟨kA2, comp2, g12, g22, g32, e2⟩ := (hK.2 4 _ rfl).2
  have e3 : cA = aC 4 := Option.some.inj (e1.symm.trans e2)
  subst e3
  exact kk a rfl (ok2 _) H1 locs ls hP1 hD1 hS1 hl
theorem cj_aast {a0 v q0 qk n : Nat} {vs : List Value} {f : Nat → Option Nat} {i : Int32} (ha : ws[q0]? = some (a0, .inl (aC 4, n, .inr (.inr (.inr (.inr f)))))) (hv : ws[qk]? = some (v, .inr (6, vs))) (hin : vp_in i n) (hw : ws.set q0 (a0, .inl (aC 4, n, .inr (.inr (.inr (.inr (va_up f i.toNatClampNeg (some v))))))) = ws') (hd : ej_d I pc .aastore 1 q) (kk : ej_J (cjV D aC ws') F I () () q L st (some ())) : ej_J (cjV D aC ws) F I () () pc L (.ref v :: .int i :: .ref a0 :: st) (some ()) := by
  intro _ ok
  obtain ⟨p, l, e, R, s, m, args, below, meth, c, Q, A, cells, slots⟩ := F
  obtain ⟨hx, hb, hml, hown, hts, hK, hA, hlk, hfr, hlo, hce, hsl, hro, hV⟩ := id ok
  intro H locs ls hP hD hS hl
  obtain ⟨hdg, rfl⟩ := hd
  refine va_astq hx hb hK hP hD hS q0 4 qk 6 (r := (RX7, TX7, 2)) ha rfl hv rfl hin hdg (fun H1 locs1 hP1 hD1 hS1 => ?_)
  subst hw
  exact kk rfl (cj_ok0 ok) H1 locs1 ls hP1 hD1 hS1 hl
theorem cj_obj {a0 idx : Nat} (hw : Cond.methodLink I.2.2.1 idx Lib.objectInit ∈ ej_WS) (hw2 : Cond.instanceMethod Lib.objectInit ∈ ej_WS) (hw3 : Cond.code Lib.objectInit ⟨#[0xb1]⟩ 1 none ∈ ej_WS) (hf1 : 1 ≤ I.2.2.2.1) (hf2 : 20 ≤ I.2.2.2.2) (hcat : (st.map fun v => v.category).sum ≤ 8) (hd : ej_d I pc (.invokespecial idx) 3 q) (kk : ej_J (cjV D aC ws) F I () () q L st (some ())) : ej_J (cjV D aC ws) F I () () pc L (.ref a0 :: st) (some ()) := by
  intro _ ok
  obtain ⟨p, l, e, R, s, m, args, below, meth, c, Q, A, cells, slots⟩ := F
  obtain ⟨hx, hb, hml, hown, hts, hK, hA, hlk, hfr, hlo, hce, hsl, hro, hV⟩ := id ok
  intro H locs ls hP hD hS hl
  obtain ⟨hdg, rfl⟩ := hd
  exact W.objInit hx hb hown (hts _ hw) (hts _ hw2) (hts _ hw3) (g := F0 m pc ls (.ref a0 :: st)) rfl (hl.1.trans hml.symm) rfl hdg (Nat.le_trans hf1 hfr) (by have := lv_room (m := m) (pc := pc) (ls := ls) (rest := .ref a0 :: st) hcat; omega) (kk rfl ok H locs ls hP hD hS hl)
theorem cj_ge_no {x y : Int32} {off : Int} (hc : ¬ y ≤ x) (hd : ej_b I pc (.if_icmp .ge off) off q t) (kk : ej_J (cjV D aC ws) F I () () q L st (some ())) : ej_J (cjV D aC ws) F I () () pc L (.int y :: .int x :: st) (some ()) := by
  intro _ ok
  obtain ⟨p, l, e, R, s, m, args, below, meth, c, Q, A, cells, slots⟩ := F
  obtain ⟨hx, hb, hml, hown, hts, hK, hA, hlk, hfr, hlo, hce, hsl, hro, hV⟩ := id ok
  intro H locs ls hP hD hS hl
  obtain ⟨hdg, rfl, ht⟩ := hd
  exact lv_icmp_ge hx hb hdg ht (fun h => absurd h hc) (fun _ => kk rfl ok H locs ls hP hD hS hl)
theorem cj_ge_yes {x y : Int32} {off : Int} (hc : y ≤ x) (hd : ej_b I pc (.if_icmp .ge off) off q t) (kk : ej_J (cjV D aC ws) F I () () t L st (some ())) : ej_J (cjV D aC ws) F I () () pc L (.int y :: .int x :: st) (some ()) := by
  intro _ ok
  obtain ⟨p, l, e, R, s, m, args, below, meth, c, Q, A, cells, slots⟩ := F
  obtain ⟨hx, hb, hml, hown, hts, hK, hA, hlk, hfr, hlo, hce, hsl, hro, hV⟩ := id ok
  intro H locs ls hP hD hS hl
  obtain ⟨hdg, rfl, ht⟩ := hd
  exact lv_icmp_ge hx hb hdg ht (fun _ => kk rfl ok H locs ls hP hD hS hl) (fun h => absurd hc h)
theorem cj_iinc {i : Nat} {n : Int} {x v : Int32} (kx : Nat) (hd : ej_d I pc (.iinc i n) 3 q) (hk : L[kx]? = some (i, .int x)) (hv : x + Int32.ofInt n = v) (hn : i < I.2.1) (hL : (i, Value.int v) :: L.filter (fun q => !(q.1 == i) && !(q.1 + 1 == i && q.2.category == 2)) = L') (kk : ej_J (cjV D aC ws) F I () () q L' st (some ())) : ej_J (cjV D aC ws) F I () () pc L st (some ()) := by
  intro _ ok
  obtain ⟨p, l, e, R, s, m, args, below, meth, c, Q, A, cells, slots⟩ := F
  obtain ⟨hx, hb, hml, hown, hts, hK, hA, hlk, hfr, hlo, hce, hsl, hro, hV⟩ := id ok
  intro H locs ls hP hD hS hl
  obtain ⟨hdg, rfl⟩ := hd
  exact lv_iinc hx hb hdg hl hk hv hn hL (fun ls2 hl2 => kk rfl ok H locs ls2 hP hD hS hl2)
theorem cj_vret (hq : cj_fin D F post c0 s0 mc ms) (hp : post ws) (hc : c0 ≤ mc) (hs : s0 ≤ ms) (hd : decode I.1 pc = .ok (.return_, 1)) : ej_J (cjV D aC ws) F I () () pc L [] (some ()) := by
  intro _ ok
  obtain ⟨p, l, e, R, s, m, args, below, meth, c, Q, A, cells, slots⟩ := F
  obtain ⟨hx, hb, hml, hown, hts, hK, hA, hlk, hfr, hlo, hce, hsl, hro, hV⟩ := id ok
  intro H locs ls hP hD hS hl
  obtain ⟨rfl, h2, rfl, rfl, h5, h6, h7⟩ := hq
  exact W.widen hc hs (W.vret hx hb h2 (fun t ht _ => ⟨⟨rfl, ws, hp, by rw [ht]; exact hP, hD⟩, hS.F ht⟩) hS.2.2 hd hlk)
def cj_Con (l : Launch) (D : va_G) (aC : Nat → ClassId) (I : ej_I) (y : MethodName) (As : List Value) (a0 : Nat) (e0 : va_E) (mc ms : Nat) (post : va_W → Prop) : Prop := ∀ sz : Nat, Met l y (.code y I.1 I.2.1 none :: ej_WS) (ej_rm I mc ms) (va_Pc (.ref a0 :: As) (ej_pre (cjV D aC [(a0, e0)]) () sz)) (cj_P D post (va_A [(a0, e0)] sz)) mc ms (va_A [(a0, e0)] sz)
theorem cj_con_of {l : Launch} {y : MethodName} {As : List Value} {a0 : Nat} {e0 : va_E} (hy : plainName y.cls = true) (hyo : y.cls = I.2.2.1) (hyi : y.name = "<init>") (hnL : (lg_sl (.ref a0 :: As)).length ≤ I.2.1) (hL : lv_args 0 (.ref a0 :: As) = L) (body : ∀ F : ej_F, cj_fin D F post 0 0 mc ms → ej_J (cjV D aC [(a0, e0)]) F I () () 0 L [] (some ())) : cj_Con l D aC I y As a0 e0 mc ms post := by
  intro sz
  refine Met.ofW (cc := I.1) (maxL := I.2.1) (ret := none) hy rfl ?_
  intro p e s m args below meth c s₁ B hml hv
  obtain ⟨rfl, hsz, hP, hK, hD0, hro⟩ := hv
  have hts := atoms_spec (ws := .code y I.1 I.2.1 none :: ej_WS) B.pre
  have hown : s.vm.findClass y.cls = some m.cls := findClass_of_methodNamed B.named
  have hin : meth.name = y.name := (name_of_methodNamed B.named B.method).1
  subst hsz
  rw [lg_entry_eq]
  have hl1 := lv_entry (.ref a0 :: As) (n := I.2.1) hnL
  rw [hL] at hl1
  exact body (p, l, e, ej_rm I mc ms, s, m, (.ref a0 :: As : List Value).toArray, below, meth, c, MQ below (cj_P D post (va_A [(a0, e0)] s.heap.size)) (.ref a0 :: As : List Value).toArray s mc ms (va_A [(a0, e0)] s.heap.size), va_A [(a0, e0)] s.heap.size, 0, 0) ⟨rfl, B.returns, rfl, rfl, rfl, rfl, by rw [hin, hyi]⟩ rfl ⟨B.exec, B.bytes, hml, by rw [← hyo]; exact hown, fun w h => hts w (List.mem_cons_of_mem _ h), hK, fun q h => Or.inr h, B.notSynchronized, Nat.le_refl _, Nat.le_refl _, Nat.zero_le _, Nat.zero_le _, hro, cjV_ok D aC _⟩ s.heap [] _ hP hD0.self va_S.rf hl1
theorem cj_join {cl : List vw_C} {H H1 : Heap} {A : Nat → Prop} {B w1 : va_W} {x : Nat × va_E} (hP : va_P D cl (B ++ [x]) H) (hD : va_D A (B ++ [x])) (hP1 : va_P D cl w1 H1) (hD1 : va_D (va_A [x] H.size) w1) (hk : ∀ q : Nat, q < H.size → ¬ va_A [x] H.size q → H1[q]? = H[q]?) (hAA : ∀ q, va_A [x] H.size q → A q) : va_P D cl (B ++ w1) H1 ∧ va_D A (B ++ w1) := by
  have hP' : va_P D cl (B ++ ([x] ++ [])) H := hP
  have hD' : va_D A (B ++ ([x] ++ [])) := hD
  have inB : ∀ {i : Nat} {q : Nat × va_E}, i < B.length → (B ++ w1)[i]? = some q → (B ++ ([x] ++ []))[i]? = some q := fun hi hq => by
    rw [List.getElem?_append_left hi] at hq ⊢
    exact hq
  have far : ∀ {i : Nat} {q : Nat × va_E}, i < B.length → (B ++ w1)[i]? = some q → ¬ va_A [x] H.size q.1 := fun hi hq => ej_apart hP' hD' (inB hi hq) (Or.inl hi)
  refine ⟨fun i q hq => ?_, fun i j q r hq hr e => ?_, fun i q hq => ?_⟩
  · by_cases h1 : i < B.length
    · exact (hP' i q (inB h1 hq)).kept (hk _ (hP' i q (inB h1 hq)).lt (far h1 hq))
    · rw [List.getElem?_append_right (by omega)] at hq
      exact hP1 _ q hq
  · by_cases h1 : i < B.length
    · by_cases h2 : j < B.length
      · exact hD'.1 i j q r (inB h1 hq) (inB h2 hr) e
      · rw [List.getElem?_append_right (by omega)] at hr
        exact absurd (by rw [e]; exact hD1.2 _ r hr) (far h1 hq)
    · by_cases h2 : j < B.length
      · rw [List.getElem?_append_right (by omega)] at hq
        exact absurd (by rw [← e]; exact hD1.2 _ q hq) (far h2 hr)
      · rw [List.getElem?_append_right (by omega)] at hq hr
        have := hD1.1 _ _ q r hq hr e
        omega
  · by_cases h1 : i < B.length
    · exact hD'.2 i q (inB h1 hq)
    · rw [List.getElem?_append_right (by omega)] at hq
      exact hAA _ (hD1.2 _ q hq)

theorem cj_call {I' : ej_I} {y : MethodName} {idx a0 mc' ms' : Nat} {e0 : va_E} {As st0 : List Value} {B : va_W} {post' : va_W → Prop} (hc : ∀ l, cj_Con l D aC I' y As a0 e0 mc' ms' post') (hl1 : Cond.methodLink I.2.2.1 idx y ∈ ej_WS) (k2 : Cond.instanceMethod y ∈ ej_WS) (k4 : Cond.initialized y.cls ∈ ej_WS) (k5 : Cond.code y I'.1 I'.2.1 none ∈ ej_WS) (k678 : y.cls ≠ "java/lang/invoke/MethodHandle" ∧ y.cls ≠ "java/lang/invoke/VarHandle" ∧ (parseMethodDescriptor y.desc).map (fun d => d.parameters.length) = some As.length) (hyi : y.name = "<init>") (hR : ej_ro I' I) (hd : ej_d I pc (.invokespecial idx) 3 q) (hst : st0 = As.reverse ++ .ref a0 :: st) (hcat : (st.map fun v => v.category).sum ≤ 8) (hq : cj_fin D F post c0 s0 mc ms) (hmc : c0 + mc' ≤ mc) (hms : s0 + ms' ≤ ms) (hws : ws = B ++ [(a0, e0)]) (kk : ∀ w1, post' w1 → ej_J (cjV D aC (B ++ w1)) (ej_up F mc' ms') I () () q L st (some ())) : ej_J (cjV D aC ws) F I () () pc L st0 (some ()) := by
  intro _ ok
  have ok2 := fun w => cj_ok (ws' := w) hq hmc hms ok
  obtain ⟨p, l, e, R, s, m, args, below, meth, c, Q, A, cells, slots⟩ := F
  obtain ⟨hx, hb, hml, hown, hts, hK, hA, hlk, hfr, hlo, hce, hsl, hro, hV⟩ := id ok
  intro H locs ls hP hD hS hl
  obtain ⟨hdg, rfl⟩ := hd
  obtain ⟨h1, h2, rfl, rfl, h5, h6, h7⟩ := hq
  obtain ⟨k6, k7, k8⟩ := k678
  subst hws
  have hP0 : va_P D vwCl (B ++ [(a0, e0)]) H := hP
  have hD0 : va_D A (B ++ [(a0, e0)]) := hD
  have hPx : va_P D vwCl [(a0, e0)] H := fun k q hk => hP0 (B.length + k) q (by rw [List.getElem?_append_right (by omega), show B.length + k - B.length = k by omega]; exact hk)
  have hDx : va_D A [(a0, e0)] := ⟨fun i j x y hx hy _ => by have h1 := (List.getElem?_eq_some_iff.mp hx).1; have h2 := (List.getElem?_eq_some_iff.mp hy).1; simp at h1 h2; omega, fun k x hx => hD0.2 (B.length + k) x (by rw [List.getElem?_append_right (by omega), show B.length + k - B.length = k by omega]; exact hx)⟩
  have hrun := va_runI (As := As) (rest := st) ⟨hx, hb, hml, hown, hts⟩ (hc l H.size) ⟨callB_of As.length hts (ej_GI' k5) rfl rfl rfl (hts _ k4) (hts _ hl1) ⟨k6, k7, k8⟩ ⟨Nat.le_trans hR.1 hfr, Nat.le_trans hR.2 hlo⟩, hyi, hts _ k2⟩ ⟨ej_blind (V := cjV D aC [(a0, e0)]) (cjV_ok _ _ _), fun U hU hW => ⟨rfl, ej_preU (V := cjV D aC [(a0, e0)]) (cjV_ok _ _ _) hPx hDx hS hA hK hro hU hW⟩⟩ (e := e) (below := below) (meth := meth) (cells := cells) (slots := slots) (locs := locs) (g := F0 m pc ls st0) rfl rfl hl.1 hst (lv_room hcat) hdg ⟨by rw [h5]; exact hmc, by rw [h6]; exact hms⟩
  have hAA : ∀ q, va_A [(a0, e0)] H.size q → A q := ej_sub hDx hS hA
  intro T hT X
  obtain ⟨v, st₀, t, T', L1, h0, X', hL1, e1, e2, ⟨⟨hv, w1, hp1, hP1, hD1⟩, hF⟩, stp⟩ := hrun T hT X
  cases hv
  obtain ⟨j1, j2, j3⟩ := vx_keep h0 e1 hS (fun q _ => hAA q) hAA hL1 hF
  rw [← e1] at hP1
  obtain ⟨g1, g2⟩ := cj_join hP0 hD0 hP1 hD1 j2 hAA
  obtain ⟨t2, a1, b1⟩ := kk w1 hp1 rfl (ok2 _) T'.heap (locs ++ L1) ls g1 g2 j3 hl T' rfl X'
  exact ⟨t2, stp t2 a1, b1⟩
theorem cj_callN {I' : ej_I} {y : MethodName} {idx a0 mc' ms' : Nat} {e0 : va_E} {As st0 : List Value} {B : va_W} {post' : va_W → Prop} (hc : ∀ l, cj_Con l D aC I' y As a0 e0 mc' ms' post') (hl1 : ∃ host : String, (I.2.2.1, idx, y, host) ∈ cw_nestM) (k2 : Cond.instanceMethod y ∈ ej_WS) (k4 : Cond.initialized y.cls ∈ ej_WS) (k5 : Cond.code y I'.1 I'.2.1 none ∈ ej_WS) (k678 : y.cls ≠ "java/lang/invoke/MethodHandle" ∧ y.cls ≠ "java/lang/invoke/VarHandle" ∧ (parseMethodDescriptor y.desc).map (fun d => d.parameters.length) = some As.length) (hyi : y.name = "<init>") (hR : ej_ro I' I) (hd : ej_d I pc (.invokespecial idx) 3 q) (hst : st0 = As.reverse ++ .ref a0 :: st) (hcat : (st.map fun v => v.category).sum ≤ 8) (hq : cj_fin D F post c0 s0 mc ms) (hmc : c0 + mc' ≤ mc) (hms : s0 + ms' ≤ ms) (hws : ws = B ++ [(a0, e0)]) (kk : ∀ w1, post' w1 → ej_J (cjV D aC (B ++ w1)) (ej_up F mc' ms') I () () q L st (some ())) : ej_J (cjV D aC ws) F I () () pc L st0 (some ()) := by
  intro _ ok
  have ok2 := fun w => cj_ok (ws' := w) hq hmc hms ok
  obtain ⟨p, l, e, R, s, m, args, below, meth, c, Q, A, cells, slots⟩ := F
  obtain ⟨hx, hb, hml, hown, hts, hK, hA, hlk, hfr, hlo, hce, hsl, hro, hV⟩ := id ok
  intro H locs ls hP hD hS hl
  obtain ⟨hdg, rfl⟩ := hd
  obtain ⟨h1, h2, rfl, rfl, h5, h6, h7⟩ := hq
  obtain ⟨k6, k7, k8⟩ := k678
  subst hws
  obtain ⟨host, hl1⟩ := hl1
  have hP0 : va_P D vwCl (B ++ [(a0, e0)]) H := hP
  have hD0 : va_D A (B ++ [(a0, e0)]) := hD
  have hPx : va_P D vwCl [(a0, e0)] H := fun k q hk => hP0 (B.length + k) q (by rw [List.getElem?_append_right (by omega), show B.length + k - B.length = k by omega]; exact hk)
  have hDx : va_D A [(a0, e0)] := ⟨fun i j x y hx hy _ => by have h1 := (List.getElem?_eq_some_iff.mp hx).1; have h2 := (List.getElem?_eq_some_iff.mp hy).1; simp at h1 h2; omega, fun k x hx => hD0.2 (B.length + k) x (by rw [List.getElem?_append_right (by omega), show B.length + k - B.length = k by omega]; exact hx)⟩
  have hrun := va_runIN (host := host) (As := As) (rest := st) ⟨hx, hb, hml, hown, hts⟩ (hc l H.size) ⟨va_cnB (host := host) As.length hts (ej_GI' k5) rfl rfl rfl (hro.1 _ hl1) (hts _ k4) ⟨k6, k7, k8⟩ ⟨Nat.le_trans hR.1 hfr, Nat.le_trans hR.2 hlo⟩, hyi, hts _ k2⟩ ⟨ej_blind (V := cjV D aC [(a0, e0)]) (cjV_ok _ _ _), fun U hU hW => ⟨rfl, ej_preU (V := cjV D aC [(a0, e0)]) (cjV_ok _ _ _) hPx hDx hS hA hK hro hU hW⟩⟩ (e := e) (below := below) (meth := meth) (cells := cells) (slots := slots) (locs := locs) (g := F0 m pc ls st0) rfl rfl hl.1 hst (lv_room hcat) hdg ⟨by rw [h5]; exact hmc, by rw [h6]; exact hms⟩
  have hAA : ∀ q, va_A [(a0, e0)] H.size q → A q := ej_sub hDx hS hA
  intro T hT X
  obtain ⟨v, st₀, t, T', L1, h0, X', hL1, e1, e2, ⟨⟨hv, w1, hp1, hP1, hD1⟩, hF⟩, stp⟩ := hrun T hT X
  cases hv
  obtain ⟨j1, j2, j3⟩ := vx_keep h0 e1 hS (fun q _ => hAA q) hAA hL1 hF
  rw [← e1] at hP1
  obtain ⟨g1, g2⟩ := cj_join hP0 hD0 hP1 hD1 j2 hAA
  obtain ⟨t2, a1, b1⟩ := kk w1 hp1 rfl (ok2 _) T'.heap (locs ++ L1) ls g1 g2 j3 hl T' rfl X'
  exact ⟨t2, stp t2 a1, b1⟩
theorem cj_pl {X : va_W} {q : Nat × va_E} {r : Nat → Nat} {N : Nat} {e : va_E} : (X ++ [q]) ++ va_pl ([] ++ (List.range N).map r) (vr_up (fun _ => e) ((List.range N).map r) e) = X ++ (q :: (List.range N).map (fun i => (r i, e))) := by
  rw [List.append_assoc]
  congr 1
  show q :: va_pl _ _ = _
  congr 1
  unfold va_pl
  rw [List.nil_append, List.map_map]
  apply List.map_congr_left
  intro i hi
  show (r i, vr_up _ _ e (r i)) = _
  rw [vr_up_in (List.mem_map_of_mem hi)]
theorem cj_inner (c : ClassId) : Jvm.Free.Multi.innerC c 24 (defaultValue .int) = vp_cell c (24, .inl (fun _ => 0)) := arrV_new c 24 (.int 0)
theorem cj_mna {idx : Nat} (hq : cj_fin D F post c0 s0 mc ms) (hw1 : Cond.classLink I.2.2.1 idx "[[I" ∈ ej_WS) (hw2 : Cond.arrayClass .int ∈ ej_WS) (hc : c0 + 25 ≤ mc) (hs : s0 + 600 ≤ ms) (hd : ej_d I pc (.multianewarray idx 2) 4 q) (kk : ∀ (a : Nat) (r : Nat → Nat), ej_J (cjV D aC (ws ++ ((a, .inl (aC 5, 24, .inr (.inr (.inr (.inr (fun i => if i < 24 then some (r i) else none)))))) :: (List.range 24).map (fun i => (r i, .inl (aC 1, 24, .inl (fun _ => 0))))))) (ej_up F 25 600) I () () q L (.ref a :: st) (some ())) : ej_J (cjV D aC ws) F I () () pc L (.int 24 :: .int 24 :: st) (some ()) := by
  intro _ ok
  have ok2 := fun w => cj_ok (ws' := w) hq hc hs ok
  obtain ⟨p, l, e, R, s, m, args, below, meth, c, Q, A, cells, slots⟩ := F
  obtain ⟨hx, hb, hml, hown, hts, hK, hA, hlk, hfr, hlo, hce, hsl, hro, hV⟩ := id ok
  intro H locs ls hP hD hS hl
  obtain ⟨h1, h2, rfl, rfl, h5, h6, h7⟩ := hq
  obtain ⟨hdg, rfl⟩ := hd
  have hP' : va_P D vwCl (ws ++ va_pl [] (fun _ => .inl (aC 1, 24, .inl (fun _ => 0)))) H := by rw [show va_pl [] _ = [] from rfl, List.append_nil]; exact hP
  have hD' : va_D A (ws ++ va_pl [] (fun _ => .inl (aC 1, 24, .inl (fun _ => 0)))) := by rw [show va_pl [] _ = [] from rfl, List.append_nil]; exact hD
  refine va_mna (ty := .int) (cy := aC 1) (N' := 24) (K' := 24) (z := (24, .inl (fun _ => 0))) hx hb hown (hts _ hw1) hro.2.2 (hts _ hw2) (hK.2 1 _ rfl).2 hK hP' hD' hS hA (by decide) (by decide) (by decide) (by decide) (by decide) (by decide) (by decide) rfl rfl (by rw [h5]; exact hc) (by rw [h6]; exact hs) cj_inner hdg (fun a r cA H1 _ _ hK1 hP1 hD1 hS1 => ?_)
  have e1 := (hK1.2 (ej_tys aC).length (cA, .array .int) (by rw [show ej_aC (cjV D aC ws) = aC from rfl, List.getElem?_append_right (Nat.le_refl _), Nat.sub_self]; rfl)).2
  have e2 := (hK.2 5 _ rfl).2
  have e3 : cA = aC 5 := Option.some.inj (e1.symm.trans e2)
  subst e3
  rw [cj_pl] at hP1 hD1
  exact kk a r rfl (ok2 _) H1 locs ls hP1 hD1 hS1 hl
end CJ
