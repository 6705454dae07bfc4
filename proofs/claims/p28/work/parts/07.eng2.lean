/-! fields, arrays, calls over a pure state -/
def ej_FL (own : String) (idx ci k : Nat) (ty : FieldType) (fin : Bool) : Prop := ∃ (C : String) (T : u_T) (N : Nat) (ty0 : Nat → FieldType), vwCl[ci]? = some (C, T, N) ∧ k < N ∧ (∀ w ∈ u_ws C T N, w ∈ ej_WS) ∧ Cond.fieldLink own idx (T k).1 (T k).2.1 (T k).2.2.1 ∈ ej_WS ∧ (T k).2.2.2 = fin ∧ parseFieldDescriptor (T k).2.2.1 = some ty ∧ (∀ k, k < N → parseFieldDescriptor (T k).2.2.1 = some (ty0 k)) ∧ (∀ a, a < N → ∀ b, b < N → a ≠ b → (T a).2.1 ≠ (T b).2.1)
def ej_gf {S : Type} (V : ej_V S) (a ci k : Nat) (σ : S) (v : Value) : Prop := ∃ (q0 : Nat) (fs : List Value), (ej_Wd V σ)[q0]? = some (a, .inr (ci, fs)) ∧ fs[k]? = some v
def ej_pf {S : Type} (V : ej_V S) (a ci k : Nat) (σ : S) (v : Value) (σ' : S) : Prop := ∃ (q0 : Nat) (fs : List Value), (ej_Wd V σ)[q0]? = some (a, .inr (ci, fs)) ∧ k < fs.length ∧ (ej_Wd V σ).set q0 (a, .inr (ci, fs.set k v)) = ej_Wd V σ'
def ej_ga {S : Type} (V : ej_V S) (a t : Nat) (z : vp_A) (σ : S) : Prop := ∃ q0 : Nat, (ej_Wd V σ)[q0]? = some (a, .inl (ej_aC V t, z))
def ej_sa {S : Type} (V : ej_V S) (a t : Nat) (z z' : vp_A) (σ σ' : S) : Prop := ∃ q0 : Nat, (ej_Wd V σ)[q0]? = some (a, .inl (ej_aC V t, z)) ∧ (ej_Wd V σ).set q0 (a, .inl (ej_aC V t, z')) = ej_Wd V σ'
theorem ej_ws {w : Cond} (h : w ∈ lw_tbl) (g : goodWord w = true) : w ∈ ej_WS := List.mem_filter.mpr ⟨h, g⟩
theorem ej_good : ∀ w ∈ ej_WS, goodWord w = true := fun w h => (List.mem_filter.mp h).2
theorem ej_GI {c c' : Cond} (h : c' ∈ ej_WS) : GoodIn (c :: ej_WS) (c' :: ej_WS) := fun w hw => by
  rcases List.mem_cons.mp hw with rfl | hw
  · exact ⟨List.mem_cons_of_mem _ h, good_of_word (ej_good _ h)⟩
  · exact ⟨List.mem_cons_of_mem _ hw, good_of_word (ej_good _ hw)⟩
theorem ej_GI' {c' : Cond} (h : c' ∈ ej_WS) : GoodIn ej_WS (c' :: ej_WS) := fun w hw => by
  rcases List.mem_cons.mp hw with rfl | hw
  · exact ⟨h, good_of_word (ej_good _ h)⟩
  · exact ⟨hw, good_of_word (ej_good _ hw)⟩
section EJ2
variable {S ρ : Type} {V : ej_V S} {F : ej_F} {I : ej_I} {r0 : ρ} {σ : S} {pc q t : Nat} {L L' : List (Nat × Value)} {st : List Value} {M M1 M2 : Option ρ}

theorem j_get {idx ci k a : Nat} {ty : FieldType} {fin : Bool} {v : Value} (hF : ej_FL I.2.2.1 idx ci k ty fin) (hg : ej_gf V a ci k σ v) (hd : ej_d I pc (.getfield idx) 3 q) (kk : ej_J V F I r0 σ q L (v :: st) M) : ej_J V F I r0 σ pc L (.ref a :: st) M := by
  intro h ok
  obtain ⟨p, l, e, R, s, m, args, below, meth, c, Q, A, cells, slots⟩ := F
  obtain ⟨hx, hb, hml, hown, hts, hK, hA, hlk, hfr, hlo, hce, hsl, hro, hV⟩ := id ok
  intro H locs ls hP hD hS hl
  obtain ⟨hdg, rfl⟩ := hd
  obtain ⟨C, T, N, ty0, f1, f2, f3, f4, f5, f6, f7, f8⟩ := hF
  obtain ⟨q0, fs, g1, g2⟩ := hg
  exact va_get hx hb hts f3 hown hK hP q0 g1 f1 k f2 (hts _ f4) (fun x hx => hx) g2 hdg (kk h ok H locs ls hP hD hS hl)
theorem j_put {idx ci k a : Nat} {ty : FieldType} {v : Value} {σ' : S} {km : S → Option ρ} (hF : ej_FL I.2.2.1 idx ci k ty false) (hg : ej_pf V a ci k σ v σ') (hn : narrow ty v = v) (hfit : fits ty v = true) (hd : ej_d I pc (.putfield idx) 3 q) (kk : ∀ σ1, ej_J V F I r0 σ1 q L st (km σ1)) : ej_J V F I r0 σ pc L (v :: .ref a :: st) (ej_nm σ' km) := by
  intro h ok
  obtain ⟨p, l, e, R, s, m, args, below, meth, c, Q, A, cells, slots⟩ := F
  obtain ⟨hx, hb, hml, hown, hts, hK, hA, hlk, hfr, hlo, hce, hsl, hro, hV⟩ := id ok
  intro H locs ls hP hD hS hl
  obtain ⟨hdg, rfl⟩ := hd
  obtain ⟨C, T, N, ty0, f1, f2, f3, f4, f5, f6, f7, f8⟩ := hF
  obtain ⟨q0, fs, g1, g2, g3⟩ := hg
  refine va_put hx hb hts f3 ty0 f7 f8 hown hK hP hD hS q0 g1 f1 k f2 (hts _ f4) (fun x hx => hx) f5 f6 hn hfit g2 hdg (fun H1 locs1 hP1 hD1 hS1 => ?_)
  rw [g3] at hP1 hD1
  exact kk σ' h ok H1 locs1 ls hP1 hD1 hS1 hl
theorem ej_ckn {i : Int32} {n : Nat} (h : ej_ck i n M = some r0) : vp_in i n ∧ M = some r0 := by
  unfold ej_ck at h
  split at h
  · cases h
  · rename_i hc
    exact ⟨hc, h⟩
theorem j_iald {a n : Nat} {f : Nat → Int32} {i : Int32} (ha : ej_ga V a 1 (n, .inl f) σ) (hd : ej_d I pc .iaload 1 q) (kk : ej_J V F I r0 σ q L (.int (f i.toNatClampNeg) :: st) M) : ej_J V F I r0 σ pc L (.int i :: .ref a :: st) (ej_ck i n M) := by
  intro h ok
  obtain ⟨p, l, e, R, s, m, args, below, meth, c, Q, A, cells, slots⟩ := F
  obtain ⟨hx, hb, hml, hown, hts, hK, hA, hlk, hfr, hlo, hce, hsl, hro, hV⟩ := id ok
  intro H locs ls hP hD hS hl
  obtain ⟨hdg, rfl⟩ := hd
  obtain ⟨q0, g1⟩ := ha
  obtain ⟨hin, h⟩ := ej_ckn h
  exact va_iald hx hb hK hP q0 1 g1 rfl hin hdg (kk h ok H locs ls hP hD hS hl)
theorem j_bald {a n : Nat} {f : Nat → Int32} {i : Int32} (ha : ej_ga V a 0 (n, .inl f) σ) (hd : ej_d I pc .baload 1 q) (kk : ej_J V F I r0 σ q L (.int (f i.toNatClampNeg) :: st) M) : ej_J V F I r0 σ pc L (.int i :: .ref a :: st) (ej_ck i n M) := by
  intro h ok
  obtain ⟨p, l, e, R, s, m, args, below, meth, c, Q, A, cells, slots⟩ := F
  obtain ⟨hx, hb, hml, hown, hts, hK, hA, hlk, hfr, hlo, hce, hsl, hro, hV⟩ := id ok
  intro H locs ls hP hD hS hl
  obtain ⟨hdg, rfl⟩ := hd
  obtain ⟨q0, g1⟩ := ha
  obtain ⟨hin, h⟩ := ej_ckn h
  exact va_bald hx hb hK hP q0 0 g1 rfl hin hdg (kk h ok H locs ls hP hD hS hl)
theorem j_zald {a n : Nat} {f : Nat → Int32} {i : Int32} (ha : ej_ga V a 3 (n, .inl f) σ) (hd : ej_d I pc .baload 1 q) (kk : ej_J V F I r0 σ q L (.int (f i.toNatClampNeg) :: st) M) : ej_J V F I r0 σ pc L (.int i :: .ref a :: st) (ej_ck i n M) := by
  intro h ok
  obtain ⟨p, l, e, R, s, m, args, below, meth, c, Q, A, cells, slots⟩ := F
  obtain ⟨hx, hb, hml, hown, hts, hK, hA, hlk, hfr, hlo, hce, hsl, hro, hV⟩ := id ok
  intro H locs ls hP hD hS hl
  obtain ⟨hdg, rfl⟩ := hd
  obtain ⟨q0, g1⟩ := ha
  obtain ⟨hin, h⟩ := ej_ckn h
  exact va_zald hx hb hK hP q0 3 g1 rfl hin hdg (kk h ok H locs ls hP hD hS hl)
theorem j_lald {a n : Nat} {f : Nat → Int64} {i : Int32} (ha : ej_ga V a 2 (n, .inr (.inl f)) σ) (hd : ej_d I pc .laload 1 q) (kk : ej_J V F I r0 σ q L (.long (f i.toNatClampNeg) :: st) M) : ej_J V F I r0 σ pc L (.int i :: .ref a :: st) (ej_ck i n M) := by
  intro h ok
  obtain ⟨p, l, e, R, s, m, args, below, meth, c, Q, A, cells, slots⟩ := F
  obtain ⟨hx, hb, hml, hown, hts, hK, hA, hlk, hfr, hlo, hce, hsl, hro, hV⟩ := id ok
  intro H locs ls hP hD hS hl
  obtain ⟨hdg, rfl⟩ := hd
  obtain ⟨q0, g1⟩ := ha
  obtain ⟨hin, h⟩ := ej_ckn h
  exact va_lald hx hb hK hP q0 2 g1 rfl hin hdg (kk h ok H locs ls hP hD hS hl)
theorem j_iast {a n : Nat} {f : Nat → Int32} {i : Int32} {x : Int32} {σ' : S} {km : S → Option ρ} (ha : ej_sa V a 1 (n, .inl f) (n, .inl (upd f i.toNatClampNeg x)) σ σ') (hd : ej_d I pc .iastore 1 q) (kk : ∀ σ1, ej_J V F I r0 σ1 q L st (km σ1)) : ej_J V F I r0 σ pc L (.int x :: .int i :: .ref a :: st) (ej_ck i n (ej_nm σ' km)) := by
  intro h ok
  obtain ⟨p, l, e, R, s, m, args, below, meth, c, Q, A, cells, slots⟩ := F
  obtain ⟨hx, hb, hml, hown, hts, hK, hA, hlk, hfr, hlo, hce, hsl, hro, hV⟩ := id ok
  intro H locs ls hP hD hS hl
  obtain ⟨hdg, rfl⟩ := hd
  obtain ⟨q0, g1, g2⟩ := ha
  obtain ⟨hin, h⟩ := ej_ckn h
  refine va_iast hx hb hK hP hD hS q0 1 g1 rfl hin hdg (fun H1 locs1 hP1 hD1 hS1 => ?_)
  have hP2 := g2 ▸ hP1
  have hD2 := g2 ▸ hD1
  exact kk σ' h ok H1 locs1 ls hP2 hD2 hS1 hl
theorem j_bast {a n : Nat} {f : Nat → Int32} {i : Int32} {x : Int32} {σ' : S} {km : S → Option ρ} (ha : ej_sa V a 0 (n, .inl f) (n, .inl (upd f i.toNatClampNeg (vp_nar .byte x))) σ σ') (hd : ej_d I pc .bastore 1 q) (kk : ∀ σ1, ej_J V F I r0 σ1 q L st (km σ1)) : ej_J V F I r0 σ pc L (.int x :: .int i :: .ref a :: st) (ej_ck i n (ej_nm σ' km)) := by
  intro h ok
  obtain ⟨p, l, e, R, s, m, args, below, meth, c, Q, A, cells, slots⟩ := F
  obtain ⟨hx, hb, hml, hown, hts, hK, hA, hlk, hfr, hlo, hce, hsl, hro, hV⟩ := id ok
  intro H locs ls hP hD hS hl
  obtain ⟨hdg, rfl⟩ := hd
  obtain ⟨q0, g1, g2⟩ := ha
  obtain ⟨hin, h⟩ := ej_ckn h
  refine va_bast hx hb hK hP hD hS q0 0 g1 rfl hin hdg (fun H1 locs1 hP1 hD1 hS1 => ?_)
  have hP2 := g2 ▸ hP1
  have hD2 := g2 ▸ hD1
  exact kk σ' h ok H1 locs1 ls hP2 hD2 hS1 hl
theorem j_zast {a n : Nat} {f : Nat → Int32} {i : Int32} {x : Int32} {σ' : S} {km : S → Option ρ} (ha : ej_sa V a 3 (n, .inl f) (n, .inl (upd f i.toNatClampNeg (ej_bz x))) σ σ') (hd : ej_d I pc .bastore 1 q) (kk : ∀ σ1, ej_J V F I r0 σ1 q L st (km σ1)) : ej_J V F I r0 σ pc L (.int x :: .int i :: .ref a :: st) (ej_ck i n (ej_nm σ' km)) := by
  intro h ok
  obtain ⟨p, l, e, R, s, m, args, below, meth, c, Q, A, cells, slots⟩ := F
  obtain ⟨hx, hb, hml, hown, hts, hK, hA, hlk, hfr, hlo, hce, hsl, hro, hV⟩ := id ok
  intro H locs ls hP hD hS hl
  obtain ⟨hdg, rfl⟩ := hd
  obtain ⟨q0, g1, g2⟩ := ha
  obtain ⟨hin, h⟩ := ej_ckn h
  refine va_zast hx hb hK hP hD hS q0 3 g1 rfl hin hdg (fun H1 locs1 hP1 hD1 hS1 => ?_)
  have hP2 := g2 ▸ hP1
  have hD2 := g2 ▸ hD1
  exact kk σ' h ok H1 locs1 ls hP2 hD2 hS1 hl
theorem j_last {a n : Nat} {f : Nat → Int64} {i : Int32} {x : Int64} {σ' : S} {km : S → Option ρ} (ha : ej_sa V a 2 (n, .inr (.inl f)) (n, .inr (.inl (vp_updL f i.toNatClampNeg x))) σ σ') (hd : ej_d I pc .lastore 1 q) (kk : ∀ σ1, ej_J V F I r0 σ1 q L st (km σ1)) : ej_J V F I r0 σ pc L (.long x :: .int i :: .ref a :: st) (ej_ck i n (ej_nm σ' km)) := by
  intro h ok
  obtain ⟨p, l, e, R, s, m, args, below, meth, c, Q, A, cells, slots⟩ := F
  obtain ⟨hx, hb, hml, hown, hts, hK, hA, hlk, hfr, hlo, hce, hsl, hro, hV⟩ := id ok
  intro H locs ls hP hD hS hl
  obtain ⟨hdg, rfl⟩ := hd
  obtain ⟨q0, g1, g2⟩ := ha
  obtain ⟨hin, h⟩ := ej_ckn h
  refine va_last hx hb hK hP hD hS q0 2 g1 rfl hin hdg (fun H1 locs1 hP1 hD1 hS1 => ?_)
  have hP2 := g2 ▸ hP1
  have hD2 := g2 ▸ hD1
  exact kk σ' h ok H1 locs1 ls hP2 hD2 hS1 hl
theorem j_alen {a t0 : Nat} {z : vp_A} {v : Int32} (ha : ej_ga V a t0 z σ) (ht : t0 < 6) (hv : Int32.ofNat z.1 = v) (hd : ej_d I pc .arraylength 1 q) (kk : ej_J V F I r0 σ q L (.int v :: st) M) : ej_J V F I r0 σ pc L (.ref a :: st) M := by
  intro h ok
  obtain ⟨p, l, e, R, s, m, args, below, meth, c, Q, A, cells, slots⟩ := F
  obtain ⟨hx, hb, hml, hown, hts, hK, hA, hlk, hfr, hlo, hce, hsl, hro, hV⟩ := id ok
  intro H locs ls hP hD hS hl
  obtain ⟨hdg, rfl⟩ := hd
  obtain ⟨q0, g1⟩ := ha
  obtain ⟨ty, hty⟩ : ∃ ty, (ej_tys (ej_aC V))[t0]? = some (ej_aC V t0, ty) := by
    match t0, ht with
    | 0, _ => exact ⟨_, rfl⟩
    | 1, _ => exact ⟨_, rfl⟩
    | 2, _ => exact ⟨_, rfl⟩
    | 3, _ => exact ⟨_, rfl⟩
    | 4, _ => exact ⟨_, rfl⟩
    | 5, _ => exact ⟨_, rfl⟩
  exact va_alen hx hb hK hP q0 t0 g1 hty hv hdg (kk h ok H locs ls hP hD hS hl)
theorem j_aaldT {a n : Nat} {f : Nat → Option Nat} {i : Int32} (ha : ej_ga V a 4 (n, .inr (.inr (.inr (.inr f)))) σ) (hd : ej_d I pc .aaload 1 q) (kk : ¬ (i < 0 ∨ n ≤ i.toNatClampNeg) → ej_J V F I r0 σ q L (va_rf (f i.toNatClampNeg) :: st) M) : ej_J V F I r0 σ pc L (.int i :: .ref a :: st) (ej_ck i n M) := by
  intro h ok
  obtain ⟨p, l, e, R, s, m, args, below, meth, c, Q, A, cells, slots⟩ := F
  obtain ⟨hx, hb, hml, hown, hts, hK, hA, hlk, hfr, hlo, hce, hsl, hro, hV⟩ := id ok
  intro H locs ls hP hD hS hl
  obtain ⟨hdg, rfl⟩ := hd
  obtain ⟨q0, g1⟩ := ha
  obtain ⟨hin, h⟩ := ej_ckn h
  exact va_aldq hx hb hK hP q0 4 g1 rfl hin hdg (kk hin h ok H locs ls hP hD hS hl)
theorem j_aaldI {a n : Nat} {f : Nat → Option Nat} {i : Int32} (ha : ej_ga V a 5 (n, .inr (.inr (.inr (.inr f)))) σ) (hd : ej_d I pc .aaload 1 q) (kk : ¬ (i < 0 ∨ n ≤ i.toNatClampNeg) → ej_J V F I r0 σ q L (va_rf (f i.toNatClampNeg) :: st) M) : ej_J V F I r0 σ pc L (.int i :: .ref a :: st) (ej_ck i n M) := by
  intro h ok
  obtain ⟨p, l, e, R, s, m, args, below, meth, c, Q, A, cells, slots⟩ := F
  obtain ⟨hx, hb, hml, hown, hts, hK, hA, hlk, hfr, hlo, hce, hsl, hro, hV⟩ := id ok
  intro H locs ls hP hD hS hl
  obtain ⟨hdg, rfl⟩ := hd
  obtain ⟨q0, g1⟩ := ha
  obtain ⟨hin, h⟩ := ej_ckn h
  have hlt : i.toNatClampNeg < n := Nat.not_le.mp fun q => hin (Or.inr q)
  exact W.aald (v := va_rf (f i.toNatClampNeg)) (ty := .array .int) hx hb (hP q0 _ g1) ((hK.2 5 _ rfl).1 n (fun j => va_rf (f j))) rfl (fun q => by cases q) (by show ¬ (i < 0 ∨ (arrV _ _ _).slots.size ≤ _); rw [arrV_size]; exact hin) (by show (arrV _ _ _).slots[_]? = _; rw [arrV_read _ _ hlt]) rfl rfl hdg (kk hin h ok H locs ls hP hD hS hl)
/-- what a method does: from σ it answers rv, the world is σ' -/
def ej_pre {S : Type} (V : ej_V S) (σ : S) (sz : Nat) (U : State) : Prop := U.heap.size = sz ∧ va_P V.1 vwCl (ej_Wd V σ) U.heap ∧ va_K V.1 vwCl (ej_tys (ej_aC V)) U ∧ va_D (fun _ => True) (ej_Wd V σ) ∧ ej_Ro V (va_A (ej_Wd V σ) sz) U U.heap
abbrev ej_rm (I : ej_I) (mc ms : Nat) : Room := { frames := I.2.2.2.1, cells := mc, slots := ms, locals := I.2.2.2.2 }
def ej_Con {S : Type} (l : Launch) (V : ej_V S) (I : ej_I) (y : MethodName) (ret : Option FieldType) (As : List Value) (σ : S) (rv : Option Value) (σ' : S) : Prop := ∀ sz : Nat, Met l y (.code y I.1 I.2.1 ret :: ej_WS) (ej_rm I 0 0) (va_Pc As (ej_pre V σ sz)) (ej_Qc V (va_A (ej_Wd V σ) sz) rv σ') 0 0 (va_A (ej_Wd V σ) sz)
theorem ej_blind {As : List Value} {sz : Nat} (hV : ej_Vok V) : FrameBlind (va_Pc As (ej_pre V σ sz)) := fun a U g mk q => by
  obtain ⟨q0, q1, qP, qK, qD, qR⟩ := q
  exact ⟨q0, q1, qP, va_K.moved (u := U) (U := U.calling g mk a) (Vm.Alike.refl U.vm) qK, qD, hV.1.2.1 _ U (U.calling g mk a) _ (State.WarmedH.refl U) qR⟩
theorem ej_sub {A : Nat → Prop} {ws : va_W} {H0 H : Heap} {locs : List Loc} (hD : va_D A ws) (hS : va_S A H0 H locs) (hA : ∀ q, H0.size ≤ q → A q) : ∀ q, va_A ws H.size q → A q := by
  intro q h
  rcases h with ⟨k, e, h⟩ | h
  · exact hD.2 k (q, e) h
  · exact hA q (Nat.le_trans hS.1 h)
theorem ej_preU {A : Nat → Prop} {s U : State} {H : Heap} {locs : List Loc} (hV : ej_Vok V) (hP : va_P V.1 vwCl (ej_Wd V σ) H) (hD : va_D A (ej_Wd V σ)) (hS : va_S A s.heap H locs) (hA : ∀ q, s.heap.size ≤ q → A q) (hK : va_K V.1 vwCl (ej_tys (ej_aC V)) s) (hro : ej_Ro V A s s.heap) (hU : U.heap = H) (hW : s.WarmedH U.vm) : ej_pre V σ H.size U := by
  refine ⟨by rw [hU], by rw [hU]; exact hP, va_K.moved hW.alike hK, hD.weaken (fun _ _ _ _ => trivial), ?_⟩
  rw [hU]
  exact hV.1.1 A _ U H (hV.1.2.1 A s U H hW (hV.1.2.2 A s s.heap H hro hS.2.1)) (ej_sub hD hS hA)
/-- the addresses stay, so what is said of them stays -/
theorem ej_Dmove {A : Nat → Prop} {σ' : S} (hV : ej_Vok V) (hD : va_D A (ej_Wd V σ)) : va_D A (ej_Wd V σ') := by
  have key : ∀ (k : Nat) (x : Nat × va_E), (ej_Wd V σ')[k]? = some x → ∃ y : Nat × va_E, (ej_Wd V σ)[k]? = some y ∧ y.1 = x.1 := by
    intro k x hx
    have h := hV.2 σ' σ k
    rw [hx] at h
    cases hy : (ej_Wd V σ)[k]? with
    | none => rw [hy] at h; cases h
    | some y => rw [hy] at h; exact ⟨y, rfl, (Option.some.inj h).symm⟩
  refine ⟨fun i j x y hx hy e => ?_, fun k x hx => ?_⟩
  · obtain ⟨x', h1, e1⟩ := key i x hx
    obtain ⟨y', h2, e2⟩ := key j y hy
    exact hD.1 i j x' y' h1 h2 (by rw [e1, e2]; exact e)
  · obtain ⟨x', h1, e1⟩ := key k x hx
    rw [← e1]
    exact hD.2 k x' h1
theorem ej_callG {p : Program} {l : Launch} {e : Env} {R : Room} {s : State} {m : MethodId} {args : Array Value} {below : List Frame} {meth : Method} {c : Code} {H : Heap} {locs : List Loc} {cells slots : Nat} {Q : State → Prop} {A : Nat → Prop} {ls : Array Slot} {st0 : List Value} {rv : Option Value} {σ' : S} {a : Array Value} (hV : ej_Vok V)
    (hr : va_Run p l e R s m args below meth c H locs cells slots 0 0 (F0 m pc ls st0) st (ej_Qc V (va_A (ej_Wd V σ) H.size) rv σ' a) (va_A (ej_Wd V σ) H.size)) (hD : va_D A (ej_Wd V σ)) (hS : va_S A s.heap H locs) (hA : ∀ q, s.heap.size ≤ q → A q)
    (kk : ∀ (H1 : Heap) (locs1 : List Loc), va_P V.1 vwCl (ej_Wd V σ') H1 → va_D A (ej_Wd V σ') → va_S A s.heap H1 locs1 → W p l e R s m args below meth c H1 locs1 cells slots Q (F0 m (pc + 3) ls (rv.toList ++ st))) : W p l e R s m args below meth c H locs cells slots Q (F0 m pc ls st0) := by
  intro T hT X
  obtain ⟨v, st₀, t, T', L, h0, X', hL, e1, e2, ⟨⟨hv, hp⟩, hz, hk⟩, stp⟩ := hr T hT X
  cases hv
  rw [h0] at hz hk
  have hAA := ej_sub hD hS hA
  rw [← e1] at hp hz hk
  obtain ⟨t2, a1, b1⟩ := kk T'.heap (locs ++ L) hp (ej_Dmove hV hD)
    ⟨Nat.le_trans hS.1 hz, fun q h1 h2 => by rw [hk q (Nat.lt_of_lt_of_le h1 hS.1) (fun z => h2 (hAA q z))]; exact hS.2.1 q h1 h2, fun q hq => by
      rcases List.mem_append.mp hq with h | h
      · exact hS.2.2 q h
      · exact hAA _ (hL q h)⟩ T' rfl X'
  exact ⟨t2, stp t2 a1, b1⟩
/-- what links a call: an instance method -/
def ej_LV (own : String) (idx : Nat) (y : MethodName) (I' : ej_I) (ret : Option FieldType) (n : Nat) : Prop := Cond.methodLink own idx y ∈ ej_WS ∧ Cond.instanceMethod y ∈ ej_WS ∧ Cond.selects y.cls y y ∈ ej_WS ∧ Cond.initialized y.cls ∈ ej_WS ∧ Cond.code y I'.1 I'.2.1 ret ∈ ej_WS ∧ y.cls ≠ "java/lang/invoke/MethodHandle" ∧ y.cls ≠ "java/lang/invoke/VarHandle" ∧ (parseMethodDescriptor y.desc).map (fun d => d.parameters.length) = some n
def ej_LS (own : String) (idx : Nat) (y : MethodName) (I' : ej_I) (ret : Option FieldType) (n : Nat) : Prop := Cond.methodLink own idx y ∈ ej_WS ∧ Cond.static y ∈ ej_WS ∧ Cond.initialized y.cls ∈ ej_WS ∧ Cond.code y I'.1 I'.2.1 ret ∈ ej_WS ∧ y.cls ≠ "java/lang/invoke/MethodHandle" ∧ y.cls ≠ "java/lang/invoke/VarHandle" ∧ (parseMethodDescriptor y.desc).map (fun d => d.parameters.length) = some n
/-- a static method of a nest mate -/
def ej_LN {S : Type} (V : ej_V S) (own : String) (idx : Nat) (y : MethodName) (I' : ej_I) (ret : Option FieldType) (n : Nat) : Prop := (∃ host : String, ∀ (A : Nat → Prop) (U : State) (H : Heap), ej_Ro V A U H → va_Nw (.methodLinkNest own idx y host) U) ∧ Cond.static y ∈ ej_WS ∧ Cond.initialized y.cls ∈ ej_WS ∧ Cond.code y I'.1 I'.2.1 ret ∈ ej_WS ∧ y.cls ≠ "java/lang/invoke/MethodHandle" ∧ y.cls ≠ "java/lang/invoke/VarHandle" ∧ (parseMethodDescriptor y.desc).map (fun d => d.parameters.length) = some n
def ej_rc {S : Type} (V : ej_V S) (σ : S) (b : Nat) (C : String) : Prop := ∃ (q0 ci : Nat) (T : u_T) (N : Nat) (fs : List Value), (ej_Wd V σ)[q0]? = some (b, .inr (ci, fs)) ∧ vwCl[ci]? = some (C, T, N)
def ej_ro (I' I : ej_I) : Prop := I'.2.2.2.1 + 1 ≤ I.2.2.2.1 ∧ 8 + (I'.2.1 + 11) + I'.2.2.2.2 ≤ I.2.2.2.2

theorem j_callVi {I' : ej_I} {y : MethodName} {idx : Nat} {As st0 : List Value} {b : Nat} {ret : Option FieldType} {m1 : Option (Int32 × S)} {km : Int32 → S → Option ρ} (hc : ∀ r σ1, m1 = some (r, σ1) → ∀ l, ej_Con l V I' y ret (.ref b :: As) σ (some (.int r)) σ1) (hL : ej_LV I.2.2.1 idx y I' ret As.length) (hrc : ej_rc V σ b y.cls) (hR : ej_ro I' I) (hd : ej_d I pc (.invokevirtual idx) 3 q) (hst : st0 = As.reverse ++ .ref b :: st) (hcat : (st.map fun v => v.category).sum ≤ 8) (kk : ∀ r σ1, ej_J V F I r0 σ1 q L (.int r :: st) (km r σ1)) : ej_J V F I r0 σ pc L st0 (ej_bi m1 km) := by
  intro h ok
  obtain ⟨p, l, e, R, s, m, args, below, meth, c, Q, A, cells, slots⟩ := F
  obtain ⟨hx, hb, hml, hown, hts, hK, hA, hlk, hfr, hlo, hce, hsl, hro, hV⟩ := id ok
  intro H locs ls hP hD hS hl
  obtain ⟨k1, k2, k3, k4, k5, k6, k7, k8⟩ := hL
  obtain ⟨q0, ci, T, N, fs, hq0, hc2⟩ := hrc
  obtain ⟨hdg, rfl⟩ := hd
  cases hm : m1 with
  | none => rw [hm] at h; cases h
  | some w =>
    obtain ⟨r, σ1⟩ := w
    rw [hm] at h
    exact ej_callG hV (va_runV (As := As) (rest := st) ⟨hx, hb, hml, hown, hts⟩ (hc _ _ hm l H.size) ⟨callB_of As.length hts (ej_GI' k5) rfl rfl rfl (hts _ k4) (hts _ k1) ⟨k6, k7, k8⟩ ⟨Nat.le_trans hR.1 hfr, Nat.le_trans hR.2 hlo⟩, hts _ k2, hts _ k3⟩ ⟨ej_blind hV, va_recv hK hP (ci := ci) (q0 := q0) hc2 hq0, fun U hU hW => ⟨rfl, ej_preU hV hP hD hS hA hK hro hU hW⟩⟩ rfl rfl hl.1 hst (lv_room hcat) hdg ⟨hce, hsl⟩) hD hS hA (fun H1 locs1 hP1 hD1 hS1 => kk r σ1 h ok H1 locs1 ls hP1 hD1 hS1 hl)
theorem j_callVl {I' : ej_I} {y : MethodName} {idx : Nat} {As st0 : List Value} {b : Nat} {ret : Option FieldType} {m1 : Option (Int64 × S)} {km : Int64 → S → Option ρ} (hc : ∀ r σ1, m1 = some (r, σ1) → ∀ l, ej_Con l V I' y ret (.ref b :: As) σ (some (.long r)) σ1) (hL : ej_LV I.2.2.1 idx y I' ret As.length) (hrc : ej_rc V σ b y.cls) (hR : ej_ro I' I) (hd : ej_d I pc (.invokevirtual idx) 3 q) (hst : st0 = As.reverse ++ .ref b :: st) (hcat : (st.map fun v => v.category).sum ≤ 8) (kk : ∀ r σ1, ej_J V F I r0 σ1 q L (.long r :: st) (km r σ1)) : ej_J V F I r0 σ pc L st0 (ej_bl m1 km) := by
  intro h ok
  obtain ⟨p, l, e, R, s, m, args, below, meth, c, Q, A, cells, slots⟩ := F
  obtain ⟨hx, hb, hml, hown, hts, hK, hA, hlk, hfr, hlo, hce, hsl, hro, hV⟩ := id ok
  intro H locs ls hP hD hS hl
  obtain ⟨k1, k2, k3, k4, k5, k6, k7, k8⟩ := hL
  obtain ⟨q0, ci, T, N, fs, hq0, hc2⟩ := hrc
  obtain ⟨hdg, rfl⟩ := hd
  cases hm : m1 with
  | none => rw [hm] at h; cases h
  | some w =>
    obtain ⟨r, σ1⟩ := w
    rw [hm] at h
    exact ej_callG hV (va_runV (As := As) (rest := st) ⟨hx, hb, hml, hown, hts⟩ (hc _ _ hm l H.size) ⟨callB_of As.length hts (ej_GI' k5) rfl rfl rfl (hts _ k4) (hts _ k1) ⟨k6, k7, k8⟩ ⟨Nat.le_trans hR.1 hfr, Nat.le_trans hR.2 hlo⟩, hts _ k2, hts _ k3⟩ ⟨ej_blind hV, va_recv hK hP (ci := ci) (q0 := q0) hc2 hq0, fun U hU hW => ⟨rfl, ej_preU hV hP hD hS hA hK hro hU hW⟩⟩ rfl rfl hl.1 hst (lv_room hcat) hdg ⟨hce, hsl⟩) hD hS hA (fun H1 locs1 hP1 hD1 hS1 => kk r σ1 h ok H1 locs1 ls hP1 hD1 hS1 hl)
theorem j_callVv {I' : ej_I} {y : MethodName} {idx : Nat} {As st0 : List Value} {b : Nat} {m1 : Option S} {km : S → Option ρ} (hc : ∀ σ1, m1 = some σ1 → ∀ l, ej_Con l V I' y none (.ref b :: As) σ none σ1) (hL : ej_LV I.2.2.1 idx y I' none As.length) (hrc : ej_rc V σ b y.cls) (hR : ej_ro I' I) (hd : ej_d I pc (.invokevirtual idx) 3 q) (hst : st0 = As.reverse ++ .ref b :: st) (hcat : (st.map fun v => v.category).sum ≤ 8) (kk : ∀ σ1, ej_J V F I r0 σ1 q L st (km σ1)) : ej_J V F I r0 σ pc L st0 (ej_bv m1 km) := by
  intro h ok
  obtain ⟨p, l, e, R, s, m, args, below, meth, c, Q, A, cells, slots⟩ := F
  obtain ⟨hx, hb, hml, hown, hts, hK, hA, hlk, hfr, hlo, hce, hsl, hro, hV⟩ := id ok
  intro H locs ls hP hD hS hl
  obtain ⟨k1, k2, k3, k4, k5, k6, k7, k8⟩ := hL
  obtain ⟨q0, ci, T, N, fs, hq0, hc2⟩ := hrc
  obtain ⟨hdg, rfl⟩ := hd
  cases hm : m1 with
  | none => rw [hm] at h; cases h
  | some σ1 =>
    rw [hm] at h
    exact ej_callG hV (va_runV (As := As) (rest := st) ⟨hx, hb, hml, hown, hts⟩ (hc _ hm l H.size) ⟨callB_of As.length hts (ej_GI' k5) rfl rfl rfl (hts _ k4) (hts _ k1) ⟨k6, k7, k8⟩ ⟨Nat.le_trans hR.1 hfr, Nat.le_trans hR.2 hlo⟩, hts _ k2, hts _ k3⟩ ⟨ej_blind hV, va_recv hK hP (ci := ci) (q0 := q0) hc2 hq0, fun U hU hW => ⟨rfl, ej_preU hV hP hD hS hA hK hro hU hW⟩⟩ rfl rfl hl.1 hst (lv_room hcat) hdg ⟨hce, hsl⟩) hD hS hA (fun H1 locs1 hP1 hD1 hS1 => kk σ1 h ok H1 locs1 ls hP1 hD1 hS1 hl)
theorem j_callSi {I' : ej_I} {y : MethodName} {idx : Nat} {As st0 : List Value} {ret : Option FieldType} {m1 : Option (Int32 × S)} {km : Int32 → S → Option ρ} (hc : ∀ r σ1, m1 = some (r, σ1) → ∀ l, ej_Con l V I' y ret As σ (some (.int r)) σ1) (hL : ej_LS I.2.2.1 idx y I' ret As.length) (hR : ej_ro I' I) (hd : ej_d I pc (.invokestatic idx) 3 q) (hst : st0 = As.reverse ++ st) (hcat : (st.map fun v => v.category).sum ≤ 8) (kk : ∀ r σ1, ej_J V F I r0 σ1 q L (.int r :: st) (km r σ1)) : ej_J V F I r0 σ pc L st0 (ej_bi m1 km) := by
  intro h ok
  obtain ⟨p, l, e, R, s, m, args, below, meth, c, Q, A, cells, slots⟩ := F
  obtain ⟨hx, hb, hml, hown, hts, hK, hA, hlk, hfr, hlo, hce, hsl, hro, hV⟩ := id ok
  intro H locs ls hP hD hS hl
  obtain ⟨k1, k2, k4, k5, k6, k7, k8⟩ := hL
  obtain ⟨hdg, rfl⟩ := hd
  cases hm : m1 with
  | none => rw [hm] at h; cases h
  | some w =>
    obtain ⟨r, σ1⟩ := w
    rw [hm] at h
    exact ej_callG hV (va_runS (As := As) (rest := st) ⟨hx, hb, hml, hown, hts⟩ (hc _ _ hm l H.size) ⟨callB_of As.length hts (ej_GI' k5) rfl rfl rfl (hts _ k4) (hts _ k1) ⟨k6, k7, k8⟩ ⟨Nat.le_trans hR.1 hfr, Nat.le_trans hR.2 hlo⟩, hts _ k2⟩ ⟨ej_blind hV, fun U hU hW => ⟨rfl, ej_preU hV hP hD hS hA hK hro hU hW⟩⟩ rfl rfl hl.1 hst (lv_room hcat) hdg ⟨hce, hsl⟩) hD hS hA (fun H1 locs1 hP1 hD1 hS1 => kk r σ1 h ok H1 locs1 ls hP1 hD1 hS1 hl)
theorem j_callSl {I' : ej_I} {y : MethodName} {idx : Nat} {As st0 : List Value} {ret : Option FieldType} {m1 : Option (Int64 × S)} {km : Int64 → S → Option ρ} (hc : ∀ r σ1, m1 = some (r, σ1) → ∀ l, ej_Con l V I' y ret As σ (some (.long r)) σ1) (hL : ej_LS I.2.2.1 idx y I' ret As.length) (hR : ej_ro I' I) (hd : ej_d I pc (.invokestatic idx) 3 q) (hst : st0 = As.reverse ++ st) (hcat : (st.map fun v => v.category).sum ≤ 8) (kk : ∀ r σ1, ej_J V F I r0 σ1 q L (.long r :: st) (km r σ1)) : ej_J V F I r0 σ pc L st0 (ej_bl m1 km) := by
  intro h ok
  obtain ⟨p, l, e, R, s, m, args, below, meth, c, Q, A, cells, slots⟩ := F
  obtain ⟨hx, hb, hml, hown, hts, hK, hA, hlk, hfr, hlo, hce, hsl, hro, hV⟩ := id ok
  intro H locs ls hP hD hS hl
  obtain ⟨k1, k2, k4, k5, k6, k7, k8⟩ := hL
  obtain ⟨hdg, rfl⟩ := hd
  cases hm : m1 with
  | none => rw [hm] at h; cases h
  | some w =>
    obtain ⟨r, σ1⟩ := w
    rw [hm] at h
    exact ej_callG hV (va_runS (As := As) (rest := st) ⟨hx, hb, hml, hown, hts⟩ (hc _ _ hm l H.size) ⟨callB_of As.length hts (ej_GI' k5) rfl rfl rfl (hts _ k4) (hts _ k1) ⟨k6, k7, k8⟩ ⟨Nat.le_trans hR.1 hfr, Nat.le_trans hR.2 hlo⟩, hts _ k2⟩ ⟨ej_blind hV, fun U hU hW => ⟨rfl, ej_preU hV hP hD hS hA hK hro hU hW⟩⟩ rfl rfl hl.1 hst (lv_room hcat) hdg ⟨hce, hsl⟩) hD hS hA (fun H1 locs1 hP1 hD1 hS1 => kk r σ1 h ok H1 locs1 ls hP1 hD1 hS1 hl)
theorem j_callSv {I' : ej_I} {y : MethodName} {idx : Nat} {As st0 : List Value} {m1 : Option S} {km : S → Option ρ} (hc : ∀ σ1, m1 = some σ1 → ∀ l, ej_Con l V I' y none As σ none σ1) (hL : ej_LS I.2.2.1 idx y I' none As.length) (hR : ej_ro I' I) (hd : ej_d I pc (.invokestatic idx) 3 q) (hst : st0 = As.reverse ++ st) (hcat : (st.map fun v => v.category).sum ≤ 8) (kk : ∀ σ1, ej_J V F I r0 σ1 q L st (km σ1)) : ej_J V F I r0 σ pc L st0 (ej_bv m1 km) := by
  intro h ok
  obtain ⟨p, l, e, R, s, m, args, below, meth, c, Q, A, cells, slots⟩ := F
  obtain ⟨hx, hb, hml, hown, hts, hK, hA, hlk, hfr, hlo, hce, hsl, hro, hV⟩ := id ok
  intro H locs ls hP hD hS hl
  obtain ⟨k1, k2, k4, k5, k6, k7, k8⟩ := hL
  obtain ⟨hdg, rfl⟩ := hd
  cases hm : m1 with
  | none => rw [hm] at h; cases h
  | some σ1 =>
    rw [hm] at h
    exact ej_callG hV (va_runS (As := As) (rest := st) ⟨hx, hb, hml, hown, hts⟩ (hc _ hm l H.size) ⟨callB_of As.length hts (ej_GI' k5) rfl rfl rfl (hts _ k4) (hts _ k1) ⟨k6, k7, k8⟩ ⟨Nat.le_trans hR.1 hfr, Nat.le_trans hR.2 hlo⟩, hts _ k2⟩ ⟨ej_blind hV, fun U hU hW => ⟨rfl, ej_preU hV hP hD hS hA hK hro hU hW⟩⟩ rfl rfl hl.1 hst (lv_room hcat) hdg ⟨hce, hsl⟩) hD hS hA (fun H1 locs1 hP1 hD1 hS1 => kk σ1 h ok H1 locs1 ls hP1 hD1 hS1 hl)
theorem j_callNi {I' : ej_I} {y : MethodName} {idx : Nat} {As st0 : List Value} {ret : Option FieldType} {m1 : Option (Int32 × S)} {km : Int32 → S → Option ρ} (hc : ∀ r σ1, m1 = some (r, σ1) → ∀ l, ej_Con l V I' y ret As σ (some (.int r)) σ1) (hL : ej_LN V I.2.2.1 idx y I' ret As.length) (hR : ej_ro I' I) (hd : ej_d I pc (.invokestatic idx) 3 q) (hst : st0 = As.reverse ++ st) (hcat : (st.map fun v => v.category).sum ≤ 8) (kk : ∀ r σ1, ej_J V F I r0 σ1 q L (.int r :: st) (km r σ1)) : ej_J V F I r0 σ pc L st0 (ej_bi m1 km) := by
  intro h ok
  obtain ⟨p, l, e, R, s, m, args, below, meth, c, Q, A, cells, slots⟩ := F
  obtain ⟨hx, hb, hml, hown, hts, hK, hA, hlk, hfr, hlo, hce, hsl, hro, hV⟩ := id ok
  intro H locs ls hP hD hS hl
  obtain ⟨⟨host, k1⟩, k2, k4, k5, k6, k7, k8⟩ := hL
  obtain ⟨hdg, rfl⟩ := hd
  cases hm : m1 with
  | none => rw [hm] at h; cases h
  | some w =>
    obtain ⟨r, σ1⟩ := w
    rw [hm] at h
    exact ej_callG hV (va_runSN (As := As) (rest := st) ⟨hx, hb, hml, hown, hts⟩ (hc _ _ hm l H.size) ⟨va_cnB (host := host) As.length hts (ej_GI' k5) rfl rfl rfl (k1 A s s.heap hro) (hts _ k4) ⟨k6, k7, k8⟩ ⟨Nat.le_trans hR.1 hfr, Nat.le_trans hR.2 hlo⟩, hts _ k2, trivial⟩ ⟨ej_blind hV, fun U hU hW => ⟨rfl, ej_preU hV hP hD hS hA hK hro hU hW⟩⟩ rfl rfl hl.1 hst (lv_room hcat) hdg ⟨hce, hsl⟩) hD hS hA (fun H1 locs1 hP1 hD1 hS1 => kk r σ1 h ok H1 locs1 ls hP1 hD1 hS1 hl)
theorem j_callNl {I' : ej_I} {y : MethodName} {idx : Nat} {As st0 : List Value} {ret : Option FieldType} {m1 : Option (Int64 × S)} {km : Int64 → S → Option ρ} (hc : ∀ r σ1, m1 = some (r, σ1) → ∀ l, ej_Con l V I' y ret As σ (some (.long r)) σ1) (hL : ej_LN V I.2.2.1 idx y I' ret As.length) (hR : ej_ro I' I) (hd : ej_d I pc (.invokestatic idx) 3 q) (hst : st0 = As.reverse ++ st) (hcat : (st.map fun v => v.category).sum ≤ 8) (kk : ∀ r σ1, ej_J V F I r0 σ1 q L (.long r :: st) (km r σ1)) : ej_J V F I r0 σ pc L st0 (ej_bl m1 km) := by
  intro h ok
  obtain ⟨p, l, e, R, s, m, args, below, meth, c, Q, A, cells, slots⟩ := F
  obtain ⟨hx, hb, hml, hown, hts, hK, hA, hlk, hfr, hlo, hce, hsl, hro, hV⟩ := id ok
  intro H locs ls hP hD hS hl
  obtain ⟨⟨host, k1⟩, k2, k4, k5, k6, k7, k8⟩ := hL
  obtain ⟨hdg, rfl⟩ := hd
  cases hm : m1 with
  | none => rw [hm] at h; cases h
  | some w =>
    obtain ⟨r, σ1⟩ := w
    rw [hm] at h
    exact ej_callG hV (va_runSN (As := As) (rest := st) ⟨hx, hb, hml, hown, hts⟩ (hc _ _ hm l H.size) ⟨va_cnB (host := host) As.length hts (ej_GI' k5) rfl rfl rfl (k1 A s s.heap hro) (hts _ k4) ⟨k6, k7, k8⟩ ⟨Nat.le_trans hR.1 hfr, Nat.le_trans hR.2 hlo⟩, hts _ k2, trivial⟩ ⟨ej_blind hV, fun U hU hW => ⟨rfl, ej_preU hV hP hD hS hA hK hro hU hW⟩⟩ rfl rfl hl.1 hst (lv_room hcat) hdg ⟨hce, hsl⟩) hD hS hA (fun H1 locs1 hP1 hD1 hS1 => kk r σ1 h ok H1 locs1 ls hP1 hD1 hS1 hl)
theorem j_callNv {I' : ej_I} {y : MethodName} {idx : Nat} {As st0 : List Value} {m1 : Option S} {km : S → Option ρ} (hc : ∀ σ1, m1 = some σ1 → ∀ l, ej_Con l V I' y none As σ none σ1) (hL : ej_LN V I.2.2.1 idx y I' none As.length) (hR : ej_ro I' I) (hd : ej_d I pc (.invokestatic idx) 3 q) (hst : st0 = As.reverse ++ st) (hcat : (st.map fun v => v.category).sum ≤ 8) (kk : ∀ σ1, ej_J V F I r0 σ1 q L st (km σ1)) : ej_J V F I r0 σ pc L st0 (ej_bv m1 km) := by
  intro h ok
  obtain ⟨p, l, e, R, s, m, args, below, meth, c, Q, A, cells, slots⟩ := F
  obtain ⟨hx, hb, hml, hown, hts, hK, hA, hlk, hfr, hlo, hce, hsl, hro, hV⟩ := id ok
  intro H locs ls hP hD hS hl
  obtain ⟨⟨host, k1⟩, k2, k4, k5, k6, k7, k8⟩ := hL
  obtain ⟨hdg, rfl⟩ := hd
  cases hm : m1 with
  | none => rw [hm] at h; cases h
  | some σ1 =>
    rw [hm] at h
    exact ej_callG hV (va_runSN (As := As) (rest := st) ⟨hx, hb, hml, hown, hts⟩ (hc _ hm l H.size) ⟨va_cnB (host := host) As.length hts (ej_GI' k5) rfl rfl rfl (k1 A s s.heap hro) (hts _ k4) ⟨k6, k7, k8⟩ ⟨Nat.le_trans hR.1 hfr, Nat.le_trans hR.2 hlo⟩, hts _ k2, trivial⟩ ⟨ej_blind hV, fun U hU hW => ⟨rfl, ej_preU hV hP hD hS hA hK hro hU hW⟩⟩ rfl rfl hl.1 hst (lv_room hcat) hdg ⟨hce, hsl⟩) hD hS hA (fun H1 locs1 hP1 hD1 hS1 => kk σ1 h ok H1 locs1 ls hP1 hD1 hS1 hl)
theorem j_mmax {idx : Nat} {x y : Int32} (h1 : Cond.methodLink I.2.2.1 idx Lib.Math.max.name ∈ ej_WS) (h2 : Cond.static Lib.Math.max.name ∈ ej_WS) (h3 : Cond.initialized "java/lang/Math" ∈ ej_WS) (h4 : Cond.code Lib.Math.max.name Lib.Math.max.code 2 (some .int) ∈ ej_WS) (hR : 1 ≤ I.2.2.2.1 ∧ 21 ≤ I.2.2.2.2) (hcat : (st.map fun v => v.category).sum ≤ 8) (hd : ej_d I pc (.invokestatic idx) 3 q) (kk : ej_J V F I r0 σ q L (.int (if x < y then y else x) :: st) M) : ej_J V F I r0 σ pc L (.int y :: .int x :: st) M := by
  intro h ok
  obtain ⟨p, l, e, R, s, m, args, below, meth, c, Q, A, cells, slots⟩ := F
  obtain ⟨hx, hb, hml, hown, hts, hK, hA, hlk, hfr, hlo, hce, hsl, hro, hV⟩ := id ok
  intro H locs ls hP hD hS hl
  obtain ⟨hdg, rfl⟩ := hd
  exact va_mmax hx hb (hml.trans hl.1.symm) hown (hts _ h1) (hts _ h2) (hts _ h3) (hts _ h4) (Nat.le_trans hR.1 hfr) (Nat.le_trans (Nat.add_le_add_right hcat 13) (Nat.le_trans hR.2 hlo)) hce hsl hdg (kk h ok H locs ls hP hD hS hl)
theorem j_mmin {idx : Nat} {x y : Int32} (h1 : Cond.methodLink I.2.2.1 idx Lib.Math.min.name ∈ ej_WS) (h2 : Cond.static Lib.Math.min.name ∈ ej_WS) (h3 : Cond.initialized "java/lang/Math" ∈ ej_WS) (h4 : Cond.code Lib.Math.min.name Lib.Math.min.code 2 (some .int) ∈ ej_WS) (hR : 1 ≤ I.2.2.2.1 ∧ 21 ≤ I.2.2.2.2) (hcat : (st.map fun v => v.category).sum ≤ 8) (hd : ej_d I pc (.invokestatic idx) 3 q) (kk : ej_J V F I r0 σ q L (.int (if y < x then y else x) :: st) M) : ej_J V F I r0 σ pc L (.int y :: .int x :: st) M := by
  intro h ok
  obtain ⟨p, l, e, R, s, m, args, below, meth, c, Q, A, cells, slots⟩ := F
  obtain ⟨hx, hb, hml, hown, hts, hK, hA, hlk, hfr, hlo, hce, hsl, hro, hV⟩ := id ok
  intro H locs ls hP hD hS hl
  obtain ⟨hdg, rfl⟩ := hd
  exact va_mmin hx hb (hml.trans hl.1.symm) hown (hts _ h1) (hts _ h2) (hts _ h3) (hts _ h4) (Nat.le_trans hR.1 hfr) (Nat.le_trans (Nat.add_le_add_right hcat 13) (Nat.le_trans hR.2 hlo)) hce hsl hdg (kk h ok H locs ls hP hD hS hl)
/-- a contract out of a walk -/
theorem ej_con_of {l : Launch} {y : MethodName} {ret : Option FieldType} {As : List Value} {rv : Option Value} {σ' : S} (hV : ej_Vok V) (hy : plainName y.cls = true) (hyo : y.cls = I.2.2.1) (hnL : (lg_sl As).length ≤ I.2.1) (hL : lv_args 0 As = L) (hM : M = some r0) (body : ∀ F : ej_F, ej_fin V F ret rv σ' → ej_J V F I r0 σ 0 L [] M) : ej_Con l V I y ret As σ rv σ' := by
  intro sz
  refine Met.ofW (cc := I.1) (maxL := I.2.1) (ret := ret) hy rfl ?_
  intro p e s m args below meth c s₁ B hml hv
  obtain ⟨rfl, hsz, hP, hK, hD0, hro⟩ := hv
  have hts := atoms_spec (ws := .code y I.1 I.2.1 ret :: ej_WS) B.pre
  have hown : s.vm.findClass y.cls = some m.cls := findClass_of_methodNamed B.named
  subst hsz
  rw [lg_entry_eq]
  have hl := lv_entry As (n := I.2.1) hnL
  rw [hL] at hl
  exact body (p, l, e, ej_rm I 0 0, s, m, As.toArray, below, meth, c, MQ below (ej_Qc V (va_A (ej_Wd V σ) s.heap.size) rv σ') As.toArray s 0 0 (va_A (ej_Wd V σ) s.heap.size), va_A (ej_Wd V σ) s.heap.size, 0, 0) ⟨rfl, B.returns⟩ hM ⟨B.exec, B.bytes, hml, by rw [← hyo]; exact hown, fun w h => hts w (List.mem_cons_of_mem _ h), hK, fun q h => Or.inr h, B.notSynchronized, Nat.le_refl _, Nat.le_refl _, Nat.le_refl _, Nat.le_refl _, hro, hV⟩ s.heap [] _ hP hD0.self va_S.rf hl
end EJ2
