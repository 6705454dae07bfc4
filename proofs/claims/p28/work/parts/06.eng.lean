/-! THE ENGINE. A pure state σ : S; V says how it lies in the heap; ej_J: from here the method ends as the model M says. -/
abbrev ej_I : Type := ByteArray × Nat × String × Nat × Nat
abbrev ej_RO : Type := (Nat → Prop) → State → Heap → Prop
abbrev ej_V (S : Type) : Type := va_G × (Nat → ClassId) × (S → va_W) × ej_RO
abbrev ej_F : Type := Program × Launch × Env × Room × State × MethodId × Array Value × List Frame × Method × Code × (State → Prop) × (Nat → Prop) × Nat × Nat
def ej_tys (aC : Nat → ClassId) : List (ClassId × FieldType) := [(aC 0, .byte), (aC 1, .int), (aC 2, .long), (aC 3, .boolean), (aC 4, .object "MailRouter$Text"), (aC 5, .array .int)]
def ej_WS : List Cond := lw_tbl.filter goodWord
def ej_Wd {S : Type} (V : ej_V S) : S → va_W := V.2.2.1
def ej_aC {S : Type} (V : ej_V S) : Nat → ClassId := V.2.1
def ej_Ro {S : Type} (V : ej_V S) : ej_RO := V.2.2.2
abbrev ej_d (I : ej_I) (pc : Nat) (i : Instr) (n q : Nat) : Prop := decode I.1 pc = .ok (i, n) ∧ pc + n = q
abbrev ej_b (I : ej_I) (pc : Nat) (i : Instr) (off : Int) (q t : Nat) : Prop := decode I.1 pc = .ok (i, 3) ∧ pc + 3 = q ∧ (pc : Int) + off = (t : Int)
def ej_ROk (RO : ej_RO) : Prop := (∀ (A B : Nat → Prop) (U : State) (H : Heap), RO A U H → (∀ q, B q → A q) → RO B U H) ∧ (∀ (A : Nat → Prop) (u U : State) (H : Heap), u.WarmedH U.vm → RO A u H → RO A U H) ∧ (∀ (A : Nat → Prop) (U : State) (H H1 : Heap), RO A U H → (∀ a : Nat, a < H.size → ¬ A a → H1[a]? = H[a]?) → RO A U H1)
/-- the addresses stay -/
def ej_Vok {S : Type} (V : ej_V S) : Prop := ej_ROk (ej_Ro V) ∧ ∀ (σ σ' : S) (k : Nat), ((ej_Wd V σ)[k]?).map Prod.fst = ((ej_Wd V σ')[k]?).map Prod.fst
def ej_ok {S : Type} (V : ej_V S) (F : ej_F) (I : ej_I) : Prop := match F with
  | (p, _, _, R, s, m, args, _, meth, c, _, A, cells, slots) => p.tables.exec = Jvm.exec ∧ c.code = I.1 ∧ c.maxLocals = I.2.1 ∧ s.vm.findClass I.2.2.1 = some m.cls ∧ (∀ w ∈ ej_WS, w.before args s = true) ∧ va_K V.1 vwCl (ej_tys (ej_aC V)) s ∧ (∀ q, s.heap.size ≤ q → A q) ∧ meth.locks = false ∧ I.2.2.2.1 ≤ R.frames ∧ I.2.2.2.2 ≤ R.locals ∧ cells ≤ R.cells ∧ slots ≤ R.slots ∧ ej_Ro V A s s.heap ∧ ej_Vok V
def ej_K {S : Type} (V : ej_V S) (F : ej_F) (I : ej_I) (σ : S) (pc : Nat) (L : List (Nat × Value)) (st : List Value) : Prop := ej_ok V F I → match F with
  | (p, l, e, R, s, m, args, below, meth, c, Q, A, cells, slots) => ∀ (H : Heap) (locs : List Loc) (ls : Array Slot), va_P V.1 vwCl (ej_Wd V σ) H → va_D A (ej_Wd V σ) → va_S A s.heap H locs → lv_has ls I.2.1 L → W p l e R s m args below meth c H locs cells slots Q (F0 m pc ls st)
def ej_J {S ρ : Type} (V : ej_V S) (F : ej_F) (I : ej_I) (r0 : ρ) (σ : S) (pc : Nat) (L : List (Nat × Value)) (st : List Value) (M : Option ρ) : Prop := M = some r0 → ej_K V F I σ pc L st
/-- names in a model -/
def ej_nm {α β : Type} (v : α) (k : α → Option β) : Option β := k v
/-- an index is looked at -/
def ej_ck {β : Type} (i : Int32) (n : Nat) (k : Option β) : Option β := if i < 0 ∨ n ≤ i.toNatClampNeg then none else k
/-- a call -/
def ej_bi {S β : Type} (m : Option (Int32 × S)) (k : Int32 → S → Option β) : Option β := match m with | none => none | some q => k q.1 q.2
def ej_bl {S β : Type} (m : Option (Int64 × S)) (k : Int64 → S → Option β) : Option β := match m with | none => none | some q => k q.1 q.2
def ej_bv {S β : Type} (m : Option S) (k : S → Option β) : Option β := match m with | none => none | some q => k q
def ej_dv {β : Type} (y : Int32) (k : Option β) : Option β := if y = 0 then none else k
def ej_dvl {β : Type} (y : Int64) (k : Option β) : Option β := if y = 0 then none else k
def ej_Qc {S : Type} (V : ej_V S) (A : Nat → Prop) (rv : Option Value) (σ' : S) : Array Value → State → Outcome → State → Prop := fun _ st oc t => (oc = .returned rv ∧ va_P V.1 vwCl (ej_Wd V σ') t.heap) ∧ va_F A st t
def ej_fin {S : Type} (V : ej_V S) (F : ej_F) (ret : Option FieldType) (rv : Option Value) (σ' : S) : Prop := match F with
  | (_, _, _, _, s, _, args, below, meth, _, Q, A, cells, slots) => Q = MQ below (ej_Qc V A rv σ') args s cells slots A ∧ meth.sig.returnType = ret

section EJ
variable {S ρ : Type} {V : ej_V S} {F : ej_F} {I : ej_I} {r0 : ρ} {σ : S} {pc q t : Nat} {L L' : List (Nat × Value)} {st : List Value} {M M1 M2 : Option ρ}
theorem j_none : ej_J V F I r0 σ pc L st none := fun h => by cases h
theorem j_sub (ks : List Nat) (hl : lv_pick L ks = L') (k : ej_J V F I r0 σ pc L' st M) : ej_J V F I r0 σ pc L st M := by
  intro h ok
  obtain ⟨p, l, e, R, s, m, args, below, meth, c, Q, A, cells, slots⟩ := F
  intro H locs ls hP hD hS hl1
  exact k h ok H locs ls hP hD hS (lv_sub hl1 ks hl)
theorem j_nmi {x : Int32} {k : Int32 → Option ρ} (kk : ∀ y, ej_J V F I r0 σ pc L (.int y :: st) (k y)) : ej_J V F I r0 σ pc L (.int x :: st) (ej_nm x k) := kk x
theorem j_nml {x : Int64} {k : Int64 → Option ρ} (kk : ∀ y, ej_J V F I r0 σ pc L (.long y :: st) (k y)) : ej_J V F I r0 σ pc L (.long x :: st) (ej_nm x k) := kk x

theorem j_iconst {n : Int} {v : Int32} (hd : ej_d I pc (.iconst n) 1 q) (hv : Int32.ofInt n = v) (k : ej_J V F I r0 σ q L (.int v :: st) M) : ej_J V F I r0 σ pc L st M := by
  intro h ok
  obtain ⟨p, l, e, R, s, m, args, below, meth, c, Q, A, cells, slots⟩ := F
  obtain ⟨hx, hb, hml, hown, hts, hK, hA, hlk, hfr, hlo, hce, hsl, hro, hV⟩ := id ok
  intro H locs ls hP hD hS hl
  obtain ⟨hdg, rfl⟩ := hd
  exact lv_iconst hx hb hdg hv (k h ok H locs ls hP hD hS hl)
theorem j_bipush {n : Int} {v : Int32} (hd : ej_d I pc (.bipush n) 2 q) (hv : (Int8.ofInt n).toInt32 = v) (k : ej_J V F I r0 σ q L (.int v :: st) M) : ej_J V F I r0 σ pc L st M := by
  intro h ok
  obtain ⟨p, l, e, R, s, m, args, below, meth, c, Q, A, cells, slots⟩ := F
  obtain ⟨hx, hb, hml, hown, hts, hK, hA, hlk, hfr, hlo, hce, hsl, hro, hV⟩ := id ok
  intro H locs ls hP hD hS hl
  obtain ⟨hdg, rfl⟩ := hd
  exact lv_bipush hx hb hdg hv (k h ok H locs ls hP hD hS hl)
theorem j_sipush {n : Int} {v : Int32} (hd : ej_d I pc (.sipush n) 3 q) (hv : (Int16.ofInt n).toInt32 = v) (k : ej_J V F I r0 σ q L (.int v :: st) M) : ej_J V F I r0 σ pc L st M := by
  intro h ok
  obtain ⟨p, l, e, R, s, m, args, below, meth, c, Q, A, cells, slots⟩ := F
  obtain ⟨hx, hb, hml, hown, hts, hK, hA, hlk, hfr, hlo, hce, hsl, hro, hV⟩ := id ok
  intro H locs ls hP hD hS hl
  obtain ⟨hdg, rfl⟩ := hd
  exact lv_sipush hx hb hdg hv (k h ok H locs ls hP hD hS hl)
theorem j_lconst {n : Fin 2} {v : Int64} (hd : ej_d I pc (.lconst n) 1 q) (hv : Int64.ofNat (n : Nat) = v) (k : ej_J V F I r0 σ q L (.long v :: st) M) : ej_J V F I r0 σ pc L st M := by
  intro h ok
  obtain ⟨p, l, e, R, s, m, args, below, meth, c, Q, A, cells, slots⟩ := F
  obtain ⟨hx, hb, hml, hown, hts, hK, hA, hlk, hfr, hlo, hce, hsl, hro, hV⟩ := id ok
  intro H locs ls hP hD hS hl
  obtain ⟨hdg, rfl⟩ := hd
  exact lv_lconst hx hb hdg hv (k h ok H locs ls hP hD hS hl)
theorem j_ldc {ix : Nat} {v : Int32} (hd : ej_d I pc (.ldc ix) 2 q) (hw : Cond.constant I.2.2.1 ix v ∈ ej_WS) (k : ej_J V F I r0 σ q L (.int v :: st) M) : ej_J V F I r0 σ pc L st M := by
  intro h ok
  obtain ⟨p, l, e, R, s, m, args, below, meth, c, Q, A, cells, slots⟩ := F
  obtain ⟨hx, hb, hml, hown, hts, hK, hA, hlk, hfr, hlo, hce, hsl, hro, hV⟩ := id ok
  intro H locs ls hP hD hS hl
  obtain ⟨hdg, rfl⟩ := hd
  exact lv_ldc hx hb hown (hts _ hw) hdg (k h ok H locs ls hP hD hS hl)
theorem j_ldc2 {ix : Nat} {v : Int64} (hd : ej_d I pc (.ldc2_w ix) 3 q) (hw : Cond.constantLong I.2.2.1 ix v ∈ ej_WS) (k : ej_J V F I r0 σ q L (.long v :: st) M) : ej_J V F I r0 σ pc L st M := by
  intro h ok
  obtain ⟨p, l, e, R, s, m, args, below, meth, c, Q, A, cells, slots⟩ := F
  obtain ⟨hx, hb, hml, hown, hts, hK, hA, hlk, hfr, hlo, hce, hsl, hro, hV⟩ := id ok
  intro H locs ls hP hD hS hl
  obtain ⟨hdg, rfl⟩ := hd
  exact lv_ldc2 hx hb hown (hts _ hw) hdg (k h ok H locs ls hP hD hS hl)
theorem j_iload {i : Nat} {x : Int32} (kx : Nat) (hk : L[kx]? = some (i, .int x)) (hd : ej_d I pc (.iload i) 2 q) (k : ej_J V F I r0 σ q L (.int x :: st) M) : ej_J V F I r0 σ pc L st M := by
  intro h ok
  obtain ⟨p, l, e, R, s, m, args, below, meth, c, Q, A, cells, slots⟩ := F
  obtain ⟨hx, hb, hml, hown, hts, hK, hA, hlk, hfr, hlo, hce, hsl, hro, hV⟩ := id ok
  intro H locs ls hP hD hS hl
  obtain ⟨hdg, rfl⟩ := hd
  exact lv_iload hx hb hdg (lv_at hl kx hk) (k h ok H locs ls hP hD hS hl)
theorem j_iload_n {i : Fin 4} {x : Int32} (kx : Nat) (hk : L[kx]? = some ((i : Nat), .int x)) (hd : ej_d I pc (.iload_n i) 1 q) (k : ej_J V F I r0 σ q L (.int x :: st) M) : ej_J V F I r0 σ pc L st M := by
  intro h ok
  obtain ⟨p, l, e, R, s, m, args, below, meth, c, Q, A, cells, slots⟩ := F
  obtain ⟨hx, hb, hml, hown, hts, hK, hA, hlk, hfr, hlo, hce, hsl, hro, hV⟩ := id ok
  intro H locs ls hP hD hS hl
  obtain ⟨hdg, rfl⟩ := hd
  exact lv_iload_n hx hb hdg rfl (lv_at hl kx hk) (k h ok H locs ls hP hD hS hl)
theorem j_istore {i : Nat} {x : Int32} (hd : ej_d I pc (.istore i) 2 q) (hn : i < I.2.1) (hL : (i, Value.int x) :: L.filter (fun q => !(q.1 == i) && !(q.1 + 1 == i && q.2.category == 2)) = L') (k : ej_J V F I r0 σ q L' st M) : ej_J V F I r0 σ pc L (.int x :: st) M := by
  intro h ok
  obtain ⟨p, l, e, R, s, m, args, below, meth, c, Q, A, cells, slots⟩ := F
  obtain ⟨hx, hb, hml, hown, hts, hK, hA, hlk, hfr, hlo, hce, hsl, hro, hV⟩ := id ok
  intro H locs ls hP hD hS hl
  obtain ⟨hdg, rfl⟩ := hd
  exact lv_istore hx hb hdg hl hn hL (fun ls2 hl2 => k h ok H locs ls2 hP hD hS hl2)
theorem j_istore_n {i : Nat} {j : Fin 4} {x : Int32} (hd : ej_d I pc (.istore_n j) 1 q) (hj : (j : Nat) = i) (hn : i < I.2.1) (hL : (i, Value.int x) :: L.filter (fun q => !(q.1 == i) && !(q.1 + 1 == i && q.2.category == 2)) = L') (k : ej_J V F I r0 σ q L' st M) : ej_J V F I r0 σ pc L (.int x :: st) M := by
  intro h ok
  obtain ⟨p, l, e, R, s, m, args, below, meth, c, Q, A, cells, slots⟩ := F
  obtain ⟨hx, hb, hml, hown, hts, hK, hA, hlk, hfr, hlo, hce, hsl, hro, hV⟩ := id ok
  intro H locs ls hP hD hS hl
  obtain ⟨hdg, rfl⟩ := hd
  exact lv_istore_n hx hb hdg hj hl hn hL (fun ls2 hl2 => k h ok H locs ls2 hP hD hS hl2)
theorem j_lload {i : Nat} {x : Int64} (kx : Nat) (hk : L[kx]? = some (i, .long x)) (hd : ej_d I pc (.lload i) 2 q) (k : ej_J V F I r0 σ q L (.long x :: st) M) : ej_J V F I r0 σ pc L st M := by
  intro h ok
  obtain ⟨p, l, e, R, s, m, args, below, meth, c, Q, A, cells, slots⟩ := F
  obtain ⟨hx, hb, hml, hown, hts, hK, hA, hlk, hfr, hlo, hce, hsl, hro, hV⟩ := id ok
  intro H locs ls hP hD hS hl
  obtain ⟨hdg, rfl⟩ := hd
  exact lv_lload hx hb hdg (lv_at hl kx hk) (k h ok H locs ls hP hD hS hl)
theorem j_lload_n {i : Fin 4} {x : Int64} (kx : Nat) (hk : L[kx]? = some ((i : Nat), .long x)) (hd : ej_d I pc (.lload_n i) 1 q) (k : ej_J V F I r0 σ q L (.long x :: st) M) : ej_J V F I r0 σ pc L st M := by
  intro h ok
  obtain ⟨p, l, e, R, s, m, args, below, meth, c, Q, A, cells, slots⟩ := F
  obtain ⟨hx, hb, hml, hown, hts, hK, hA, hlk, hfr, hlo, hce, hsl, hro, hV⟩ := id ok
  intro H locs ls hP hD hS hl
  obtain ⟨hdg, rfl⟩ := hd
  exact lv_lload_n hx hb hdg rfl (lv_at hl kx hk) (k h ok H locs ls hP hD hS hl)
theorem j_lstore {i : Nat} {x : Int64} (hd : ej_d I pc (.lstore i) 2 q) (hn : i + 1 < I.2.1) (hL : (i, Value.long x) :: L.filter (fun q => !(q.1 == i) && (!(q.1 == i + 1) && !(q.1 + 1 == i && q.2.category == 2))) = L') (k : ej_J V F I r0 σ q L' st M) : ej_J V F I r0 σ pc L (.long x :: st) M := by
  intro h ok
  obtain ⟨p, l, e, R, s, m, args, below, meth, c, Q, A, cells, slots⟩ := F
  obtain ⟨hx, hb, hml, hown, hts, hK, hA, hlk, hfr, hlo, hce, hsl, hro, hV⟩ := id ok
  intro H locs ls hP hD hS hl
  obtain ⟨hdg, rfl⟩ := hd
  exact lv_lstore hx hb hdg hl hn hL (fun ls2 hl2 => k h ok H locs ls2 hP hD hS hl2)
theorem j_lstore_n {i : Nat} {j : Fin 4} {x : Int64} (hd : ej_d I pc (.lstore_n j) 1 q) (hj : (j : Nat) = i) (hn : i + 1 < I.2.1) (hL : (i, Value.long x) :: L.filter (fun q => !(q.1 == i) && (!(q.1 == i + 1) && !(q.1 + 1 == i && q.2.category == 2))) = L') (k : ej_J V F I r0 σ q L' st M) : ej_J V F I r0 σ pc L (.long x :: st) M := by
  intro h ok
  obtain ⟨p, l, e, R, s, m, args, below, meth, c, Q, A, cells, slots⟩ := F
  obtain ⟨hx, hb, hml, hown, hts, hK, hA, hlk, hfr, hlo, hce, hsl, hro, hV⟩ := id ok
  intro H locs ls hP hD hS hl
  obtain ⟨hdg, rfl⟩ := hd
  exact lv_lstore_n hx hb hdg hj hl hn hL (fun ls2 hl2 => k h ok H locs ls2 hP hD hS hl2)
theorem j_aload {i : Nat} {x : Nat} (kx : Nat) (hk : L[kx]? = some (i, .ref x)) (hd : ej_d I pc (.aload i) 2 q) (k : ej_J V F I r0 σ q L (.ref x :: st) M) : ej_J V F I r0 σ pc L st M := by
  intro h ok
  obtain ⟨p, l, e, R, s, m, args, below, meth, c, Q, A, cells, slots⟩ := F
  obtain ⟨hx, hb, hml, hown, hts, hK, hA, hlk, hfr, hlo, hce, hsl, hro, hV⟩ := id ok
  intro H locs ls hP hD hS hl
  obtain ⟨hdg, rfl⟩ := hd
  exact lv_aload hx hb hdg (lv_at hl kx hk) (k h ok H locs ls hP hD hS hl)
theorem j_aload_n {i : Fin 4} {x : Nat} (kx : Nat) (hk : L[kx]? = some ((i : Nat), .ref x)) (hd : ej_d I pc (.aload_n i) 1 q) (k : ej_J V F I r0 σ q L (.ref x :: st) M) : ej_J V F I r0 σ pc L st M := by
  intro h ok
  obtain ⟨p, l, e, R, s, m, args, below, meth, c, Q, A, cells, slots⟩ := F
  obtain ⟨hx, hb, hml, hown, hts, hK, hA, hlk, hfr, hlo, hce, hsl, hro, hV⟩ := id ok
  intro H locs ls hP hD hS hl
  obtain ⟨hdg, rfl⟩ := hd
  exact lv_aload_n hx hb hdg rfl (lv_at hl kx hk) (k h ok H locs ls hP hD hS hl)
theorem j_astore {i : Nat} {x : Nat} (hd : ej_d I pc (.astore i) 2 q) (hn : i < I.2.1) (hL : (i, Value.ref x) :: L.filter (fun q => !(q.1 == i) && !(q.1 + 1 == i && q.2.category == 2)) = L') (k : ej_J V F I r0 σ q L' st M) : ej_J V F I r0 σ pc L (.ref x :: st) M := by
  intro h ok
  obtain ⟨p, l, e, R, s, m, args, below, meth, c, Q, A, cells, slots⟩ := F
  obtain ⟨hx, hb, hml, hown, hts, hK, hA, hlk, hfr, hlo, hce, hsl, hro, hV⟩ := id ok
  intro H locs ls hP hD hS hl
  obtain ⟨hdg, rfl⟩ := hd
  exact lv_astore hx hb hdg hl hn hL (fun ls2 hl2 => k h ok H locs ls2 hP hD hS hl2)
theorem j_astore_n {i : Nat} {j : Fin 4} {x : Nat} (hd : ej_d I pc (.astore_n j) 1 q) (hj : (j : Nat) = i) (hn : i < I.2.1) (hL : (i, Value.ref x) :: L.filter (fun q => !(q.1 == i) && !(q.1 + 1 == i && q.2.category == 2)) = L') (k : ej_J V F I r0 σ q L' st M) : ej_J V F I r0 σ pc L (.ref x :: st) M := by
  intro h ok
  obtain ⟨p, l, e, R, s, m, args, below, meth, c, Q, A, cells, slots⟩ := F
  obtain ⟨hx, hb, hml, hown, hts, hK, hA, hlk, hfr, hlo, hce, hsl, hro, hV⟩ := id ok
  intro H locs ls hP hD hS hl
  obtain ⟨hdg, rfl⟩ := hd
  exact lv_astore_n hx hb hdg hj hl hn hL (fun ls2 hl2 => k h ok H locs ls2 hP hD hS hl2)
theorem j_iinc {i : Nat} {n : Int} {x v : Int32} {k : Int32 → Option ρ} {Ly : Int32 → List (Nat × Value)} (kx : Nat) (hd : ej_d I pc (.iinc i n) 3 q) (hk : L[kx]? = some (i, .int x)) (hv : Int32.ofInt n = v) (hn : i < I.2.1) (hL : ∀ y : Int32, (i, Value.int y) :: L.filter (fun q => !(q.1 == i) && !(q.1 + 1 == i && q.2.category == 2)) = Ly y) (kk : ∀ y, ej_J V F I r0 σ q (Ly y) st (k y)) : ej_J V F I r0 σ pc L st (ej_nm (x + v) k) := by
  intro h ok
  obtain ⟨p, l, e, R, s, m, args, below, meth, c, Q, A, cells, slots⟩ := F
  obtain ⟨hx, hb, hml, hown, hts, hK, hA, hlk, hfr, hlo, hce, hsl, hro, hV⟩ := id ok
  intro H locs ls hP hD hS hl
  obtain ⟨hdg, rfl⟩ := hd
  exact lv_iinc hx hb hdg hl hk (by rw [hv]) hn (hL (x + v)) (fun ls2 hl2 => kk (x + v) h ok H locs ls2 hP hD hS hl2)
theorem j_iadd {x y : Int32} (hd : ej_d I pc .iadd 1 q) (k : ej_J V F I r0 σ q L (.int (x + y) :: st) M) : ej_J V F I r0 σ pc L (.int y :: .int x :: st) M := by
  intro h ok
  obtain ⟨p, l, e, R, s, m, args, below, meth, c, Q, A, cells, slots⟩ := F
  obtain ⟨hx, hb, hml, hown, hts, hK, hA, hlk, hfr, hlo, hce, hsl, hro, hV⟩ := id ok
  intro H locs ls hP hD hS hl
  obtain ⟨hdg, rfl⟩ := hd
  exact lv_iadd hx hb hdg (k h ok H locs ls hP hD hS hl)
theorem j_isub {x y : Int32} (hd : ej_d I pc .isub 1 q) (k : ej_J V F I r0 σ q L (.int (x - y) :: st) M) : ej_J V F I r0 σ pc L (.int y :: .int x :: st) M := by
  intro h ok
  obtain ⟨p, l, e, R, s, m, args, below, meth, c, Q, A, cells, slots⟩ := F
  obtain ⟨hx, hb, hml, hown, hts, hK, hA, hlk, hfr, hlo, hce, hsl, hro, hV⟩ := id ok
  intro H locs ls hP hD hS hl
  obtain ⟨hdg, rfl⟩ := hd
  exact lv_isub hx hb hdg (k h ok H locs ls hP hD hS hl)
theorem j_imul {x y : Int32} (hd : ej_d I pc .imul 1 q) (k : ej_J V F I r0 σ q L (.int (x * y) :: st) M) : ej_J V F I r0 σ pc L (.int y :: .int x :: st) M := by
  intro h ok
  obtain ⟨p, l, e, R, s, m, args, below, meth, c, Q, A, cells, slots⟩ := F
  obtain ⟨hx, hb, hml, hown, hts, hK, hA, hlk, hfr, hlo, hce, hsl, hro, hV⟩ := id ok
  intro H locs ls hP hD hS hl
  obtain ⟨hdg, rfl⟩ := hd
  exact lv_imul hx hb hdg (k h ok H locs ls hP hD hS hl)
theorem j_iand {x y : Int32} (hd : ej_d I pc .iand 1 q) (k : ej_J V F I r0 σ q L (.int (x &&& y) :: st) M) : ej_J V F I r0 σ pc L (.int y :: .int x :: st) M := by
  intro h ok
  obtain ⟨p, l, e, R, s, m, args, below, meth, c, Q, A, cells, slots⟩ := F
  obtain ⟨hx, hb, hml, hown, hts, hK, hA, hlk, hfr, hlo, hce, hsl, hro, hV⟩ := id ok
  intro H locs ls hP hD hS hl
  obtain ⟨hdg, rfl⟩ := hd
  exact lv_iand hx hb hdg (k h ok H locs ls hP hD hS hl)
theorem j_ior {x y : Int32} (hd : ej_d I pc .ior 1 q) (k : ej_J V F I r0 σ q L (.int (x ||| y) :: st) M) : ej_J V F I r0 σ pc L (.int y :: .int x :: st) M := by
  intro h ok
  obtain ⟨p, l, e, R, s, m, args, below, meth, c, Q, A, cells, slots⟩ := F
  obtain ⟨hx, hb, hml, hown, hts, hK, hA, hlk, hfr, hlo, hce, hsl, hro, hV⟩ := id ok
  intro H locs ls hP hD hS hl
  obtain ⟨hdg, rfl⟩ := hd
  exact lv_ior hx hb hdg (k h ok H locs ls hP hD hS hl)
theorem j_ixor {x y : Int32} (hd : ej_d I pc .ixor 1 q) (k : ej_J V F I r0 σ q L (.int (x ^^^ y) :: st) M) : ej_J V F I r0 σ pc L (.int y :: .int x :: st) M := by
  intro h ok
  obtain ⟨p, l, e, R, s, m, args, below, meth, c, Q, A, cells, slots⟩ := F
  obtain ⟨hx, hb, hml, hown, hts, hK, hA, hlk, hfr, hlo, hce, hsl, hro, hV⟩ := id ok
  intro H locs ls hP hD hS hl
  obtain ⟨hdg, rfl⟩ := hd
  exact lv_ixor hx hb hdg (k h ok H locs ls hP hD hS hl)
theorem j_ishl {x y : Int32} (hd : ej_d I pc .ishl 1 q) (k : ej_J V F I r0 σ q L (.int (x <<< (y &&& 31)) :: st) M) : ej_J V F I r0 σ pc L (.int y :: .int x :: st) M := by
  intro h ok
  obtain ⟨p, l, e, R, s, m, args, below, meth, c, Q, A, cells, slots⟩ := F
  obtain ⟨hx, hb, hml, hown, hts, hK, hA, hlk, hfr, hlo, hce, hsl, hro, hV⟩ := id ok
  intro H locs ls hP hD hS hl
  obtain ⟨hdg, rfl⟩ := hd
  exact lv_ishl hx hb hdg (k h ok H locs ls hP hD hS hl)
theorem j_ishr {x y : Int32} (hd : ej_d I pc .ishr 1 q) (k : ej_J V F I r0 σ q L (.int (x >>> (y &&& 31)) :: st) M) : ej_J V F I r0 σ pc L (.int y :: .int x :: st) M := by
  intro h ok
  obtain ⟨p, l, e, R, s, m, args, below, meth, c, Q, A, cells, slots⟩ := F
  obtain ⟨hx, hb, hml, hown, hts, hK, hA, hlk, hfr, hlo, hce, hsl, hro, hV⟩ := id ok
  intro H locs ls hP hD hS hl
  obtain ⟨hdg, rfl⟩ := hd
  exact lv_ishr hx hb hdg (k h ok H locs ls hP hD hS hl)
theorem j_ladd {x y : Int64} (hd : ej_d I pc .ladd 1 q) (k : ej_J V F I r0 σ q L (.long (x + y) :: st) M) : ej_J V F I r0 σ pc L (.long y :: .long x :: st) M := by
  intro h ok
  obtain ⟨p, l, e, R, s, m, args, below, meth, c, Q, A, cells, slots⟩ := F
  obtain ⟨hx, hb, hml, hown, hts, hK, hA, hlk, hfr, hlo, hce, hsl, hro, hV⟩ := id ok
  intro H locs ls hP hD hS hl
  obtain ⟨hdg, rfl⟩ := hd
  exact lv_ladd hx hb hdg (k h ok H locs ls hP hD hS hl)
theorem j_lsub {x y : Int64} (hd : ej_d I pc .lsub 1 q) (k : ej_J V F I r0 σ q L (.long (x - y) :: st) M) : ej_J V F I r0 σ pc L (.long y :: .long x :: st) M := by
  intro h ok
  obtain ⟨p, l, e, R, s, m, args, below, meth, c, Q, A, cells, slots⟩ := F
  obtain ⟨hx, hb, hml, hown, hts, hK, hA, hlk, hfr, hlo, hce, hsl, hro, hV⟩ := id ok
  intro H locs ls hP hD hS hl
  obtain ⟨hdg, rfl⟩ := hd
  exact lv_lsub hx hb hdg (k h ok H locs ls hP hD hS hl)
theorem j_lmul {x y : Int64} (hd : ej_d I pc .lmul 1 q) (k : ej_J V F I r0 σ q L (.long (x * y) :: st) M) : ej_J V F I r0 σ pc L (.long y :: .long x :: st) M := by
  intro h ok
  obtain ⟨p, l, e, R, s, m, args, below, meth, c, Q, A, cells, slots⟩ := F
  obtain ⟨hx, hb, hml, hown, hts, hK, hA, hlk, hfr, hlo, hce, hsl, hro, hV⟩ := id ok
  intro H locs ls hP hD hS hl
  obtain ⟨hdg, rfl⟩ := hd
  exact lv_lmul hx hb hdg (k h ok H locs ls hP hD hS hl)
theorem j_land {x y : Int64} (hd : ej_d I pc .land 1 q) (k : ej_J V F I r0 σ q L (.long (x &&& y) :: st) M) : ej_J V F I r0 σ pc L (.long y :: .long x :: st) M := by
  intro h ok
  obtain ⟨p, l, e, R, s, m, args, below, meth, c, Q, A, cells, slots⟩ := F
  obtain ⟨hx, hb, hml, hown, hts, hK, hA, hlk, hfr, hlo, hce, hsl, hro, hV⟩ := id ok
  intro H locs ls hP hD hS hl
  obtain ⟨hdg, rfl⟩ := hd
  exact lv_land hx hb hdg (k h ok H locs ls hP hD hS hl)
theorem j_lor {x y : Int64} (hd : ej_d I pc .lor 1 q) (k : ej_J V F I r0 σ q L (.long (x ||| y) :: st) M) : ej_J V F I r0 σ pc L (.long y :: .long x :: st) M := by
  intro h ok
  obtain ⟨p, l, e, R, s, m, args, below, meth, c, Q, A, cells, slots⟩ := F
  obtain ⟨hx, hb, hml, hown, hts, hK, hA, hlk, hfr, hlo, hce, hsl, hro, hV⟩ := id ok
  intro H locs ls hP hD hS hl
  obtain ⟨hdg, rfl⟩ := hd
  exact lv_lor hx hb hdg (k h ok H locs ls hP hD hS hl)
theorem j_lshl {x : Int64} {y : Int32} (hd : ej_d I pc .lshl 1 q) (k : ej_J V F I r0 σ q L (.long (x <<< (y.toInt64 &&& 63)) :: st) M) : ej_J V F I r0 σ pc L (.int y :: .long x :: st) M := by
  intro h ok
  obtain ⟨p, l, e, R, s, m, args, below, meth, c, Q, A, cells, slots⟩ := F
  obtain ⟨hx, hb, hml, hown, hts, hK, hA, hlk, hfr, hlo, hce, hsl, hro, hV⟩ := id ok
  intro H locs ls hP hD hS hl
  obtain ⟨hdg, rfl⟩ := hd
  exact lv_lshl hx hb hdg rfl (k h ok H locs ls hP hD hS hl)
theorem j_lshr {x : Int64} {y : Int32} (hd : ej_d I pc .lshr 1 q) (k : ej_J V F I r0 σ q L (.long (x >>> (y.toInt64 &&& 63)) :: st) M) : ej_J V F I r0 σ pc L (.int y :: .long x :: st) M := by
  intro h ok
  obtain ⟨p, l, e, R, s, m, args, below, meth, c, Q, A, cells, slots⟩ := F
  obtain ⟨hx, hb, hml, hown, hts, hK, hA, hlk, hfr, hlo, hce, hsl, hro, hV⟩ := id ok
  intro H locs ls hP hD hS hl
  obtain ⟨hdg, rfl⟩ := hd
  exact lv_lshr hx hb hdg rfl (k h ok H locs ls hP hD hS hl)
theorem j_lushr {x : Int64} {y : Int32} (hd : ej_d I pc .lushr 1 q) (k : ej_J V F I r0 σ q L (.long ((x.toUInt64 >>> (y.toInt64.toUInt64 &&& Int64.toUInt64 63)).toInt64) :: st) M) : ej_J V F I r0 σ pc L (.int y :: .long x :: st) M := by
  intro h ok
  obtain ⟨p, l, e, R, s, m, args, below, meth, c, Q, A, cells, slots⟩ := F
  obtain ⟨hx, hb, hml, hown, hts, hK, hA, hlk, hfr, hlo, hce, hsl, hro, hV⟩ := id ok
  intro H locs ls hP hD hS hl
  obtain ⟨hdg, rfl⟩ := hd
  exact lv_lushr hx hb hdg rfl (k h ok H locs ls hP hD hS hl)
theorem j_i2l {x : Int32} (hd : ej_d I pc .i2l 1 q) (k : ej_J V F I r0 σ q L (.long x.toInt64 :: st) M) : ej_J V F I r0 σ pc L (.int x :: st) M := by
  intro h ok
  obtain ⟨p, l, e, R, s, m, args, below, meth, c, Q, A, cells, slots⟩ := F
  obtain ⟨hx, hb, hml, hown, hts, hK, hA, hlk, hfr, hlo, hce, hsl, hro, hV⟩ := id ok
  intro H locs ls hP hD hS hl
  obtain ⟨hdg, rfl⟩ := hd
  exact lv_i2l hx hb hdg rfl (k h ok H locs ls hP hD hS hl)
theorem j_l2i {x : Int64} (hd : ej_d I pc .l2i 1 q) (k : ej_J V F I r0 σ q L (.int x.toInt32 :: st) M) : ej_J V F I r0 σ pc L (.long x :: st) M := by
  intro h ok
  obtain ⟨p, l, e, R, s, m, args, below, meth, c, Q, A, cells, slots⟩ := F
  obtain ⟨hx, hb, hml, hown, hts, hK, hA, hlk, hfr, hlo, hce, hsl, hro, hV⟩ := id ok
  intro H locs ls hP hD hS hl
  obtain ⟨hdg, rfl⟩ := hd
  exact lv_l2i hx hb hdg rfl (k h ok H locs ls hP hD hS hl)
theorem j_i2b {x : Int32} (hd : ej_d I pc .i2b 1 q) (k : ej_J V F I r0 σ q L (.int x.toInt8.toInt32 :: st) M) : ej_J V F I r0 σ pc L (.int x :: st) M := by
  intro h ok
  obtain ⟨p, l, e, R, s, m, args, below, meth, c, Q, A, cells, slots⟩ := F
  obtain ⟨hx, hb, hml, hown, hts, hK, hA, hlk, hfr, hlo, hce, hsl, hro, hV⟩ := id ok
  intro H locs ls hP hD hS hl
  obtain ⟨hdg, rfl⟩ := hd
  exact lv_i2b hx hb hdg rfl (k h ok H locs ls hP hD hS hl)
theorem j_lcmp {x y : Int64} (hd : ej_d I pc .lcmp 1 q) (k : ej_J V F I r0 σ q L (.int (lg_cmp x y) :: st) M) : ej_J V F I r0 σ pc L (.long y :: .long x :: st) M := by
  intro h ok
  obtain ⟨p, l, e, R, s, m, args, below, meth, c, Q, A, cells, slots⟩ := F
  obtain ⟨hx, hb, hml, hown, hts, hK, hA, hlk, hfr, hlo, hce, hsl, hro, hV⟩ := id ok
  intro H locs ls hP hD hS hl
  obtain ⟨hdg, rfl⟩ := hd
  exact W.lcmp hx hb hdg (k h ok H locs ls hP hD hS hl)
theorem j_dup {v : Value} (hd : ej_d I pc .dup 1 q) (hv : v.category = 1) (k : ej_J V F I r0 σ q L (v :: v :: st) M) : ej_J V F I r0 σ pc L (v :: st) M := by
  intro h ok
  obtain ⟨p, l, e, R, s, m, args, below, meth, c, Q, A, cells, slots⟩ := F
  obtain ⟨hx, hb, hml, hown, hts, hK, hA, hlk, hfr, hlo, hce, hsl, hro, hV⟩ := id ok
  intro H locs ls hP hD hS hl
  obtain ⟨hdg, rfl⟩ := hd
  exact lv_dup hx hb hdg hv (k h ok H locs ls hP hD hS hl)
theorem j_pop {v : Value} (hd : ej_d I pc .pop 1 q) (hv : v.category = 1) (k : ej_J V F I r0 σ q L st M) : ej_J V F I r0 σ pc L (v :: st) M := by
  intro h ok
  obtain ⟨p, l, e, R, s, m, args, below, meth, c, Q, A, cells, slots⟩ := F
  obtain ⟨hx, hb, hml, hown, hts, hK, hA, hlk, hfr, hlo, hce, hsl, hro, hV⟩ := id ok
  intro H locs ls hP hD hS hl
  obtain ⟨hdg, rfl⟩ := hd
  exact lv_pop hx hb hdg hv (k h ok H locs ls hP hD hS hl)
theorem j_dup2 {v w : Value} (hd : ej_d I pc .dup2 1 q) (hv : v.category = 1) (hw : w.category = 1) (k : ej_J V F I r0 σ q L (v :: w :: v :: w :: st) M) : ej_J V F I r0 σ pc L (v :: w :: st) M := by
  intro h ok
  obtain ⟨p, l, e, R, s, m, args, below, meth, c, Q, A, cells, slots⟩ := F
  obtain ⟨hx, hb, hml, hown, hts, hK, hA, hlk, hfr, hlo, hce, hsl, hro, hV⟩ := id ok
  intro H locs ls hP hD hS hl
  obtain ⟨hdg, rfl⟩ := hd
  exact lv_dup2_11 hx hb hdg hv hw (k h ok H locs ls hP hD hS hl)
theorem j_idiv {x y : Int32} (hd : ej_d I pc .idiv 1 q) (k : ej_J V F I r0 σ q L (.int (x / y) :: st) M) : ej_J V F I r0 σ pc L (.int y :: .int x :: st) (ej_dv y M) := by
  intro h ok
  obtain ⟨p, l, e, R, s, m, args, below, meth, c, Q, A, cells, slots⟩ := F
  obtain ⟨hx, hb, hml, hown, hts, hK, hA, hlk, hfr, hlo, hce, hsl, hro, hV⟩ := id ok
  intro H locs ls hP hD hS hl
  obtain ⟨hdg, rfl⟩ := hd
  by_cases hy : y = 0
  · rw [ej_dv, if_pos hy] at h; cases h
  · rw [ej_dv, if_neg hy] at h
    exact lv_idiv hx hb hdg hy (k h ok H locs ls hP hD hS hl)
theorem j_idiv0 {x y : Int32} (hy : ¬ y = 0) (hd : ej_d I pc .idiv 1 q) (k : ej_J V F I r0 σ q L (.int (x / y) :: st) M) : ej_J V F I r0 σ pc L (.int y :: .int x :: st) M := by
  intro h ok
  obtain ⟨p, l, e, R, s, m, args, below, meth, c, Q, A, cells, slots⟩ := F
  obtain ⟨hx, hb, hml, hown, hts, hK, hA, hlk, hfr, hlo, hce, hsl, hro, hV⟩ := id ok
  intro H locs ls hP hD hS hl
  obtain ⟨hdg, rfl⟩ := hd
  exact lv_idiv hx hb hdg hy (k h ok H locs ls hP hD hS hl)
theorem j_irem {x y : Int32} (hd : ej_d I pc .irem 1 q) (k : ej_J V F I r0 σ q L (.int (x - x / y * y) :: st) M) : ej_J V F I r0 σ pc L (.int y :: .int x :: st) (ej_dv y M) := by
  intro h ok
  obtain ⟨p, l, e, R, s, m, args, below, meth, c, Q, A, cells, slots⟩ := F
  obtain ⟨hx, hb, hml, hown, hts, hK, hA, hlk, hfr, hlo, hce, hsl, hro, hV⟩ := id ok
  intro H locs ls hP hD hS hl
  obtain ⟨hdg, rfl⟩ := hd
  by_cases hy : y = 0
  · rw [ej_dv, if_pos hy] at h; cases h
  · rw [ej_dv, if_neg hy] at h
    exact lv_irem hx hb hdg hy (k h ok H locs ls hP hD hS hl)
theorem j_irem0 {x y : Int32} (hy : ¬ y = 0) (hd : ej_d I pc .irem 1 q) (k : ej_J V F I r0 σ q L (.int (x - x / y * y) :: st) M) : ej_J V F I r0 σ pc L (.int y :: .int x :: st) M := by
  intro h ok
  obtain ⟨p, l, e, R, s, m, args, below, meth, c, Q, A, cells, slots⟩ := F
  obtain ⟨hx, hb, hml, hown, hts, hK, hA, hlk, hfr, hlo, hce, hsl, hro, hV⟩ := id ok
  intro H locs ls hP hD hS hl
  obtain ⟨hdg, rfl⟩ := hd
  exact lv_irem hx hb hdg hy (k h ok H locs ls hP hD hS hl)
theorem j_ldiv {x y : Int64} (hd : ej_d I pc .ldiv 1 q) (k : ej_J V F I r0 σ q L (.long (x / y) :: st) M) : ej_J V F I r0 σ pc L (.long y :: .long x :: st) (ej_dvl y M) := by
  intro h ok
  obtain ⟨p, l, e, R, s, m, args, below, meth, c, Q, A, cells, slots⟩ := F
  obtain ⟨hx, hb, hml, hown, hts, hK, hA, hlk, hfr, hlo, hce, hsl, hro, hV⟩ := id ok
  intro H locs ls hP hD hS hl
  obtain ⟨hdg, rfl⟩ := hd
  by_cases hy : y = 0
  · rw [ej_dvl, if_pos hy] at h; cases h
  · rw [ej_dvl, if_neg hy] at h
    exact lv_ldiv hx hb hdg hy (k h ok H locs ls hP hD hS hl)
theorem j_ldiv0 {x y : Int64} (hy : ¬ y = 0) (hd : ej_d I pc .ldiv 1 q) (k : ej_J V F I r0 σ q L (.long (x / y) :: st) M) : ej_J V F I r0 σ pc L (.long y :: .long x :: st) M := by
  intro h ok
  obtain ⟨p, l, e, R, s, m, args, below, meth, c, Q, A, cells, slots⟩ := F
  obtain ⟨hx, hb, hml, hown, hts, hK, hA, hlk, hfr, hlo, hce, hsl, hro, hV⟩ := id ok
  intro H locs ls hP hD hS hl
  obtain ⟨hdg, rfl⟩ := hd
  exact lv_ldiv hx hb hdg hy (k h ok H locs ls hP hD hS hl)
theorem j_goto {off : Int} (hd : ej_b I pc (.goto off) off q t) (k : ej_J V F I r0 σ t L st M) : ej_J V F I r0 σ pc L st M := by
  intro h ok
  obtain ⟨p, l, e, R, s, m, args, below, meth, c, Q, A, cells, slots⟩ := F
  obtain ⟨hx, hb, hml, hown, hts, hK, hA, hlk, hfr, hlo, hce, hsl, hro, hV⟩ := id ok
  intro H locs ls hP hD hS hl
  obtain ⟨hdg, rfl, ht⟩ := hd
  exact lv_goto hx hb hdg ht (k h ok H locs ls hP hD hS hl)
theorem j_icmp_eq {x y : Int32} {off : Int} (hd : ej_b I pc (.if_icmp .eq off) off q t) (kt : ej_J V F I r0 σ t L st M1) (kf : ej_J V F I r0 σ q L st M2) : ej_J V F I r0 σ pc L (.int y :: .int x :: st) (if x = y then M1 else M2) := by
  intro h ok
  obtain ⟨p, l, e, R, s, m, args, below, meth, c, Q, A, cells, slots⟩ := F
  obtain ⟨hx, hb, hml, hown, hts, hK, hA, hlk, hfr, hlo, hce, hsl, hro, hV⟩ := id ok
  intro H locs ls hP hD hS hl
  obtain ⟨hdg, rfl, ht⟩ := hd
  refine lv_icmp_eq hx hb hdg ht (fun hc => kt (by rw [if_pos hc] at h; exact h) ok H locs ls hP hD hS hl) (fun hc => kf (by rw [if_neg hc] at h; exact h) ok H locs ls hP hD hS hl)
theorem j_icmp_ne {x y : Int32} {off : Int} (hd : ej_b I pc (.if_icmp .ne off) off q t) (kt : ej_J V F I r0 σ t L st M1) (kf : ej_J V F I r0 σ q L st M2) : ej_J V F I r0 σ pc L (.int y :: .int x :: st) (if x = y then M2 else M1) := by
  intro h ok
  obtain ⟨p, l, e, R, s, m, args, below, meth, c, Q, A, cells, slots⟩ := F
  obtain ⟨hx, hb, hml, hown, hts, hK, hA, hlk, hfr, hlo, hce, hsl, hro, hV⟩ := id ok
  intro H locs ls hP hD hS hl
  obtain ⟨hdg, rfl, ht⟩ := hd
  refine lv_icmp_ne hx hb hdg ht (fun hc => kt (by rw [if_neg hc] at h; exact h) ok H locs ls hP hD hS hl) (fun hc => kf (by rw [if_pos hc] at h; exact h) ok H locs ls hP hD hS hl)
theorem j_icmp_lt {x y : Int32} {off : Int} (hd : ej_b I pc (.if_icmp .lt off) off q t) (kt : ej_J V F I r0 σ t L st M1) (kf : ej_J V F I r0 σ q L st M2) : ej_J V F I r0 σ pc L (.int y :: .int x :: st) (if x < y then M1 else M2) := by
  intro h ok
  obtain ⟨p, l, e, R, s, m, args, below, meth, c, Q, A, cells, slots⟩ := F
  obtain ⟨hx, hb, hml, hown, hts, hK, hA, hlk, hfr, hlo, hce, hsl, hro, hV⟩ := id ok
  intro H locs ls hP hD hS hl
  obtain ⟨hdg, rfl, ht⟩ := hd
  refine lv_icmp_lt hx hb hdg ht (fun hc => kt (by rw [if_pos hc] at h; exact h) ok H locs ls hP hD hS hl) (fun hc => kf (by rw [if_neg hc] at h; exact h) ok H locs ls hP hD hS hl)
theorem j_icmp_ge {x y : Int32} {off : Int} (hd : ej_b I pc (.if_icmp .ge off) off q t) (kt : ej_J V F I r0 σ t L st M1) (kf : ej_J V F I r0 σ q L st M2) : ej_J V F I r0 σ pc L (.int y :: .int x :: st) (if y ≤ x then M1 else M2) := by
  intro h ok
  obtain ⟨p, l, e, R, s, m, args, below, meth, c, Q, A, cells, slots⟩ := F
  obtain ⟨hx, hb, hml, hown, hts, hK, hA, hlk, hfr, hlo, hce, hsl, hro, hV⟩ := id ok
  intro H locs ls hP hD hS hl
  obtain ⟨hdg, rfl, ht⟩ := hd
  refine lv_icmp_ge hx hb hdg ht (fun hc => kt (by rw [if_pos hc] at h; exact h) ok H locs ls hP hD hS hl) (fun hc => kf (by rw [if_neg hc] at h; exact h) ok H locs ls hP hD hS hl)
theorem j_icmp_gt {x y : Int32} {off : Int} (hd : ej_b I pc (.if_icmp .gt off) off q t) (kt : ej_J V F I r0 σ t L st M1) (kf : ej_J V F I r0 σ q L st M2) : ej_J V F I r0 σ pc L (.int y :: .int x :: st) (if y < x then M1 else M2) := by
  intro h ok
  obtain ⟨p, l, e, R, s, m, args, below, meth, c, Q, A, cells, slots⟩ := F
  obtain ⟨hx, hb, hml, hown, hts, hK, hA, hlk, hfr, hlo, hce, hsl, hro, hV⟩ := id ok
  intro H locs ls hP hD hS hl
  obtain ⟨hdg, rfl, ht⟩ := hd
  refine lv_icmp_gt hx hb hdg ht (fun hc => kt (by rw [if_pos hc] at h; exact h) ok H locs ls hP hD hS hl) (fun hc => kf (by rw [if_neg hc] at h; exact h) ok H locs ls hP hD hS hl)
theorem j_icmp_le {x y : Int32} {off : Int} (hd : ej_b I pc (.if_icmp .le off) off q t) (kt : ej_J V F I r0 σ t L st M1) (kf : ej_J V F I r0 σ q L st M2) : ej_J V F I r0 σ pc L (.int y :: .int x :: st) (if x ≤ y then M1 else M2) := by
  intro h ok
  obtain ⟨p, l, e, R, s, m, args, below, meth, c, Q, A, cells, slots⟩ := F
  obtain ⟨hx, hb, hml, hown, hts, hK, hA, hlk, hfr, hlo, hce, hsl, hro, hV⟩ := id ok
  intro H locs ls hP hD hS hl
  obtain ⟨hdg, rfl, ht⟩ := hd
  refine lv_icmp_le hx hb hdg ht (fun hc => kt (by rw [if_pos hc] at h; exact h) ok H locs ls hP hD hS hl) (fun hc => kf (by rw [if_neg hc] at h; exact h) ok H locs ls hP hD hS hl)
theorem j_if_eq {x : Int32} {off : Int} (hd : ej_b I pc (.ifCond .eq off) off q t) (kt : ej_J V F I r0 σ t L st M1) (kf : ej_J V F I r0 σ q L st M2) : ej_J V F I r0 σ pc L (.int x :: st) (if x = 0 then M1 else M2) := by
  intro h ok
  obtain ⟨p, l, e, R, s, m, args, below, meth, c, Q, A, cells, slots⟩ := F
  obtain ⟨hx, hb, hml, hown, hts, hK, hA, hlk, hfr, hlo, hce, hsl, hro, hV⟩ := id ok
  intro H locs ls hP hD hS hl
  obtain ⟨hdg, rfl, ht⟩ := hd
  refine lv_if_eq hx hb hdg ht (fun hc => kt (by rw [if_pos hc] at h; exact h) ok H locs ls hP hD hS hl) (fun hc => kf (by rw [if_neg hc] at h; exact h) ok H locs ls hP hD hS hl)
theorem j_if_ne {x : Int32} {off : Int} (hd : ej_b I pc (.ifCond .ne off) off q t) (kt : ej_J V F I r0 σ t L st M1) (kf : ej_J V F I r0 σ q L st M2) : ej_J V F I r0 σ pc L (.int x :: st) (if x = 0 then M2 else M1) := by
  intro h ok
  obtain ⟨p, l, e, R, s, m, args, below, meth, c, Q, A, cells, slots⟩ := F
  obtain ⟨hx, hb, hml, hown, hts, hK, hA, hlk, hfr, hlo, hce, hsl, hro, hV⟩ := id ok
  intro H locs ls hP hD hS hl
  obtain ⟨hdg, rfl, ht⟩ := hd
  refine lv_if_ne hx hb hdg ht (fun hc => kt (by rw [if_neg hc] at h; exact h) ok H locs ls hP hD hS hl) (fun hc => kf (by rw [if_pos hc] at h; exact h) ok H locs ls hP hD hS hl)
theorem j_if_lt {x : Int32} {off : Int} (hd : ej_b I pc (.ifCond .lt off) off q t) (kt : ej_J V F I r0 σ t L st M1) (kf : ej_J V F I r0 σ q L st M2) : ej_J V F I r0 σ pc L (.int x :: st) (if x < 0 then M1 else M2) := by
  intro h ok
  obtain ⟨p, l, e, R, s, m, args, below, meth, c, Q, A, cells, slots⟩ := F
  obtain ⟨hx, hb, hml, hown, hts, hK, hA, hlk, hfr, hlo, hce, hsl, hro, hV⟩ := id ok
  intro H locs ls hP hD hS hl
  obtain ⟨hdg, rfl, ht⟩ := hd
  refine lv_if_lt hx hb hdg ht (fun hc => kt (by rw [if_pos hc] at h; exact h) ok H locs ls hP hD hS hl) (fun hc => kf (by rw [if_neg hc] at h; exact h) ok H locs ls hP hD hS hl)
theorem j_if_ge {x : Int32} {off : Int} (hd : ej_b I pc (.ifCond .ge off) off q t) (kt : ej_J V F I r0 σ t L st M1) (kf : ej_J V F I r0 σ q L st M2) : ej_J V F I r0 σ pc L (.int x :: st) (if 0 ≤ x then M1 else M2) := by
  intro h ok
  obtain ⟨p, l, e, R, s, m, args, below, meth, c, Q, A, cells, slots⟩ := F
  obtain ⟨hx, hb, hml, hown, hts, hK, hA, hlk, hfr, hlo, hce, hsl, hro, hV⟩ := id ok
  intro H locs ls hP hD hS hl
  obtain ⟨hdg, rfl, ht⟩ := hd
  refine lv_if_ge hx hb hdg ht (fun hc => kt (by rw [if_pos hc] at h; exact h) ok H locs ls hP hD hS hl) (fun hc => kf (by rw [if_neg hc] at h; exact h) ok H locs ls hP hD hS hl)
theorem j_if_gt {x : Int32} {off : Int} (hd : ej_b I pc (.ifCond .gt off) off q t) (kt : ej_J V F I r0 σ t L st M1) (kf : ej_J V F I r0 σ q L st M2) : ej_J V F I r0 σ pc L (.int x :: st) (if 0 < x then M1 else M2) := by
  intro h ok
  obtain ⟨p, l, e, R, s, m, args, below, meth, c, Q, A, cells, slots⟩ := F
  obtain ⟨hx, hb, hml, hown, hts, hK, hA, hlk, hfr, hlo, hce, hsl, hro, hV⟩ := id ok
  intro H locs ls hP hD hS hl
  obtain ⟨hdg, rfl, ht⟩ := hd
  refine lv_if_gt hx hb hdg ht (fun hc => kt (by rw [if_pos hc] at h; exact h) ok H locs ls hP hD hS hl) (fun hc => kf (by rw [if_neg hc] at h; exact h) ok H locs ls hP hD hS hl)
theorem j_if_le {x : Int32} {off : Int} (hd : ej_b I pc (.ifCond .le off) off q t) (kt : ej_J V F I r0 σ t L st M1) (kf : ej_J V F I r0 σ q L st M2) : ej_J V F I r0 σ pc L (.int x :: st) (if x ≤ 0 then M1 else M2) := by
  intro h ok
  obtain ⟨p, l, e, R, s, m, args, below, meth, c, Q, A, cells, slots⟩ := F
  obtain ⟨hx, hb, hml, hown, hts, hK, hA, hlk, hfr, hlo, hce, hsl, hro, hV⟩ := id ok
  intro H locs ls hP hD hS hl
  obtain ⟨hdg, rfl, ht⟩ := hd
  refine lv_if_le hx hb hdg ht (fun hc => kt (by rw [if_pos hc] at h; exact h) ok H locs ls hP hD hS hl) (fun hc => kf (by rw [if_neg hc] at h; exact h) ok H locs ls hP hD hS hl)
theorem ej_zret {p : Program} {l : Launch} {e : Env} {R : Room} {s : State} {m : MethodId} {args : Array Value} {below : List Frame} {meth : Method} {c : Code} {H : Heap} {locs : List Loc} {cells slots : Nat} {cc : ByteArray} {Qc : Array Value → State → Outcome → State → Prop} {free : Addr → Prop} {v w : Int32} {ty : FieldType} (hexec : p.tables.exec = Jvm.exec) (hb : c.code = cc) (hr : meth.sig.returnType = some ty) (hn : narrow ty (.int v) = .int w)
    (hq : ∀ t : State, t.heap = H → s.WarmedH t.vm → Qc args s (.returned (some (.int w))) t) (hf : ∀ q ∈ locs, free q.base)
    {pc : Nat} {ls : Array Slot} (hdg : decode cc pc = .ok (.ireturn, 1)) (hlocks : meth.locks = false) : W p l e R s m args below meth c H locs cells slots (MQ below Qc args s cells slots free) (F0 m pc ls [.int v]) := by
  intro T hT X
  have hlocks : meth.locks = false := hlocks
  obtain ⟨fs, hret, hrun, hended, hW, hframe⟩ := X.leave (v := some (.int w)) (fun h => by rw [hr] at h; cases h)
  have hmeth' : T.vm.method? m = some meth := X.method'
  refine ⟨T.setFrames fs, ?_, .returned (some (.int w)), hrun, hended, hq _ hT hW, locs, ⟨⟨_, rfl⟩, hW, hframe⟩, hf⟩
  jvm_step X.here [X.here.top, hexec, hb, hdg, hmeth', hr, hn]
  (try refine ⟨rfl, ?_⟩); (try refine ⟨rfl, ?_⟩)
  first | (intro acts; rw [hret _ acts rfl rfl rfl]) | rw [hret _ _ rfl rfl rfl]
  exact Steps.refl _
def ej_bz (x : Int32) : Int32 := vp_nar .boolean x
theorem ej_bz_n (x : Int32) : narrow .boolean (.int x) = .int (ej_bz x) := rfl
theorem j_ireturn {x : Int32} {r0 : Int32 × S} (hq : ej_fin V F (some .int) (some (.int r0.1)) r0.2) (hd : decode I.1 pc = .ok (.ireturn, 1)) : ej_J V F I r0 σ pc L [.int x] (some (x, σ)) := by
  intro h ok
  obtain ⟨p, l, e, R, s, m, args, below, meth, c, Q, A, cells, slots⟩ := F
  obtain ⟨hx, hb, hml, hown, hts, hK, hA, hlk, hfr, hlo, hce, hsl, hro, hV⟩ := id ok
  intro H locs ls hP hD hS hl
  cases h
  obtain ⟨rfl, hr⟩ := hq
  exact W.iret hx hb hr (fun t ht _ => ⟨⟨rfl, by rw [ht]; exact hP⟩, hS.F ht⟩) hS.2.2 hd hlk
theorem j_zreturn {x : Int32} {r0 : Int32 × S} (hq : ej_fin V F (some .boolean) (some (.int r0.1)) r0.2) (hd : decode I.1 pc = .ok (.ireturn, 1)) : ej_J V F I r0 σ pc L [.int x] (some (ej_bz x, σ)) := by
  intro h ok
  obtain ⟨p, l, e, R, s, m, args, below, meth, c, Q, A, cells, slots⟩ := F
  obtain ⟨hx, hb, hml, hown, hts, hK, hA, hlk, hfr, hlo, hce, hsl, hro, hV⟩ := id ok
  intro H locs ls hP hD hS hl
  cases h
  obtain ⟨rfl, hr⟩ := hq
  exact ej_zret hx hb hr (ej_bz_n x) (fun t ht _ => ⟨⟨rfl, by rw [ht]; exact hP⟩, hS.F ht⟩) hS.2.2 hd hlk
theorem j_lreturn {x : Int64} {r0 : Int64 × S} (hq : ej_fin V F (some .long) (some (.long r0.1)) r0.2) (hd : decode I.1 pc = .ok (.lreturn, 1)) : ej_J V F I r0 σ pc L [.long x] (some (x, σ)) := by
  intro h ok
  obtain ⟨p, l, e, R, s, m, args, below, meth, c, Q, A, cells, slots⟩ := F
  obtain ⟨hx, hb, hml, hown, hts, hK, hA, hlk, hfr, hlo, hce, hsl, hro, hV⟩ := id ok
  intro H locs ls hP hD hS hl
  cases h
  obtain ⟨rfl, hr⟩ := hq
  exact W.lret hx hb hr (fun t ht _ => ⟨⟨rfl, by rw [ht]; exact hP⟩, hS.F ht⟩) hS.2.2 hd hlk
theorem j_vreturn {r0 : S} (hq : ej_fin V F none none r0) (hd : decode I.1 pc = .ok (.return_, 1)) : ej_J V F I r0 σ pc L [] (some σ) := by
  intro h ok
  obtain ⟨p, l, e, R, s, m, args, below, meth, c, Q, A, cells, slots⟩ := F
  obtain ⟨hx, hb, hml, hown, hts, hK, hA, hlk, hfr, hlo, hce, hsl, hro, hV⟩ := id ok
  intro H locs ls hP hD hS hl
  cases h
  obtain ⟨rfl, hr⟩ := hq
  exact W.vret hx hb hr (fun t ht _ => ⟨⟨rfl, by rw [ht]; exact hP⟩, hS.F ht⟩) hS.2.2 hd hlk
theorem j_zreturn0 {r0 : Int32 × S} (hq : ej_fin V F (some .boolean) (some (.int r0.1)) r0.2) (hd : decode I.1 pc = .ok (.ireturn, 1)) : ej_J V F I r0 σ pc L [.int 0] (some (0, σ)) := j_zreturn hq hd
theorem j_zreturn1 {r0 : Int32 × S} (hq : ej_fin V F (some .boolean) (some (.int r0.1)) r0.2) (hd : decode I.1 pc = .ok (.ireturn, 1)) : ej_J V F I r0 σ pc L [.int 1] (some (1, σ)) := j_zreturn hq hd
end EJ
