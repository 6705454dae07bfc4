section EJ3
variable {ρ : Type} {x : cw_T} {F : ej_F} {I : ej_I} {r0 : ρ} {σ : ej_S} {pc q t : Nat} {L L' : List (Nat × Value)} {st : List Value} {M M1 M2 : Option ρ}
theorem j_aaldF (x : cw_T) {i : Int32} (hd : ej_d I pc .aaload 1 q) (kk : i.toNatClampNeg < 4 → ej_J (cV x) F I r0 σ q L (.ref (cw_a x (10 + (2 + i.toNatClampNeg))) :: st) M) : ej_J (cV x) F I r0 σ pc L (.int i :: .ref (cw_a x 60) :: st) (ej_ck i 4 M) := j_aaldT (cV_a_60 x σ) hd (fun h => kk (Nat.not_le.mp fun z => h (Or.inr z)))
theorem j_aaldM0 (x : cw_T) {i : Int32} (hd : ej_d I pc .aaload 1 q) (kk : i.toNatClampNeg < 24 → ej_J (cV x) F I r0 σ q L (.ref (cw_a x (100 + i.toNatClampNeg)) :: st) M) : ej_J (cV x) F I r0 σ pc L (.int i :: .ref (cw_a x 61) :: st) (ej_ck i 24 M) := j_aaldI (cV_a_61 x σ) hd (fun h => kk (Nat.not_le.mp fun z => h (Or.inr z)))
theorem j_aaldM1 (x : cw_T) {i : Int32} (hd : ej_d I pc .aaload 1 q) (kk : i.toNatClampNeg < 24 → ej_J (cV x) F I r0 σ q L (.ref (cw_a x (130 + i.toNatClampNeg)) :: st) M) : ej_J (cV x) F I r0 σ pc L (.int i :: .ref (cw_a x 62) :: st) (ej_ck i 24 M) := j_aaldI (cV_a_62 x σ) hd (fun h => kk (Nat.not_le.mp fun z => h (Or.inr z)))

theorem j_gets (ho : I.2.2.1 = "MailRouter$Tokens") (hd : ej_d I pc (.getstatic 94) 3 q) (k : ej_J (cV x) F I r0 σ q L (.ref (cw_tR x) :: st) M) : ej_J (cV x) F I r0 σ pc L st M := by
  intro h ok
  obtain ⟨p, l, e, R, s, m, args, below, meth, c, Q, A, cells, slots⟩ := F
  obtain ⟨hx, hb, hml, hown, hts, hK, hA, hlk, hfr, hlo, hce, hsl, hro, hV⟩ := id ok
  intro H locs ls hP hD hS hl
  obtain ⟨ro1, ro2, ro3, ro4, ro5, ro6, ro7, ro8, ro9, ro10, ro11, ro12, ro13⟩ := id hro
  obtain ⟨hdg, rfl⟩ := hd
  rw [ho] at hown
  exact va_getsN hx hb ro4.1 hS hown (va_Nw.use rfl (ro2 ("MailRouter$Tokens", 94, "MailRouter", "RATES", "[LMailRouter$Rate;", "MailRouter") (List.mem_cons_self))) (fun z hz => hz) hdg (k h ok H locs ls hP hD hS hl)
theorem j_alenR (hd : ej_d I pc .arraylength 1 q) (k : ej_J (cV x) F I r0 σ q L (.int 10 :: st) M) : ej_J (cV x) F I r0 σ pc L (.ref (cw_tR x) :: st) M := by
  intro h ok
  obtain ⟨p, l, e, R, s, m, args, below, meth, c, Q, A, cells, slots⟩ := F
  obtain ⟨hx, hb, hml, hown, hts, hK, hA, hlk, hfr, hlo, hce, hsl, hro, hV⟩ := id ok
  intro H locs ls hP hD hS hl
  obtain ⟨ro1, ro2, ro3, ro4, ro5, ro6, ro7, ro8, ro9, ro10, ro11, ro12, ro13⟩ := id hro
  obtain ⟨hdg, rfl⟩ := hd
  exact va_tlen hx hb ro5 hS (by decide) hdg (k h ok H locs ls hP hD hS hl)
theorem j_aaldE {i : Int32} (hd : ej_d I pc .aaload 1 q) (kk : i.toNatClampNeg < 10 → ej_J (cV x) F I r0 σ q L (.ref (cw_e x i.toNatClampNeg) :: st) M) : ej_J (cV x) F I r0 σ pc L (.int i :: .ref (cw_tR x) :: st) (ej_ck i 10 M) := by
  intro h ok
  obtain ⟨p, l, e, R, s, m, args, below, meth, c, Q, A, cells, slots⟩ := F
  obtain ⟨hx, hb, hml, hown, hts, hK, hA, hlk, hfr, hlo, hce, hsl, hro, hV⟩ := id ok
  intro H locs ls hP hD hS hl
  obtain ⟨ro1, ro2, ro3, ro4, ro5, ro6, ro7, ro8, ro9, ro10, ro11, ro12, ro13⟩ := id hro
  obtain ⟨hdg, rfl⟩ := hd
  obtain ⟨hin, h⟩ := ej_ckn h
  exact vb_tq hx hb ro5 hS hin rfl hdg (kk (Nat.not_le.mp fun z => hin (Or.inr z)) h ok H locs ls hP hD hS hl)
theorem j_getL {j idx : Nat} (hj : j < 10) (hw : Cond.fieldLink I.2.2.1 idx "MailRouter$Rate" "letters" "Ljava/lang/String;" ∈ ej_WS) (hd : ej_d I pc (.getfield idx) 3 q) (k : ej_J (cV x) F I r0 σ q L (.ref (cw_k x (3 + j)) :: st) M) : ej_J (cV x) F I r0 σ pc L (.ref (cw_e x j) :: st) M := by
  intro h ok
  obtain ⟨p, l, e, R, s, m, args, below, meth, c, Q, A, cells, slots⟩ := F
  obtain ⟨hx, hb, hml, hown, hts, hK, hA, hlk, hfr, hlo, hce, hsl, hro, hV⟩ := id ok
  intro H locs ls hP hD hS hl
  obtain ⟨ro1, ro2, ro3, ro4, ro5, ro6, ro7, ro8, ro9, ro10, ro11, ro12, ro13⟩ := id hro
  obtain ⟨hdg, rfl⟩ := hd
  exact vk_getf hx hb (ro6 j hj) hS hown (hts _ hw) (fun z hz => hz) hdg (k h ok H locs ls hP hD hS hl)
theorem j_getW {j idx : Nat} (hj : j < 10) (hw : Cond.fieldLink I.2.2.1 idx "MailRouter$Rate" "worth" "I" ∈ ej_WS) (hd : ej_d I pc (.getfield idx) 3 q) (k : ej_J (cV x) F I r0 σ q L (.int (cw_worth.getD j 0) :: st) M) : ej_J (cV x) F I r0 σ pc L (.ref (cw_e x j) :: st) M := by
  intro h ok
  obtain ⟨p, l, e, R, s, m, args, below, meth, c, Q, A, cells, slots⟩ := F
  obtain ⟨hx, hb, hml, hown, hts, hK, hA, hlk, hfr, hlo, hce, hsl, hro, hV⟩ := id ok
  intro H locs ls hP hD hS hl
  obtain ⟨ro1, ro2, ro3, ro4, ro5, ro6, ro7, ro8, ro9, ro10, ro11, ro12, ro13⟩ := id hro
  obtain ⟨hdg, rfl⟩ := hd
  exact vk_getf hx hb (ro7 j hj) hS hown (hts _ hw) (fun z hz => hz) hdg (k h ok H locs ls hP hD hS hl)
theorem j_ldcS {s idx : Nat} {tx : String} (hw : (I.2.2.1, idx, tx, s) ∈ cw_strs) (hd : ej_d I pc (.ldc idx) 2 q) (k : ej_J (cV x) F I r0 σ q L (.ref (cw_k x s) :: st) M) : ej_J (cV x) F I r0 σ pc L st M := by
  intro h ok
  obtain ⟨p, l, e, R, s2, m, args, below, meth, c, Q, A, cells, slots⟩ := F
  obtain ⟨hx, hb, hml, hown, hts, hK, hA, hlk, hfr, hlo, hce, hsl, hro, hV⟩ := id ok
  intro H locs ls hP hD hS hl
  obtain ⟨ro1, ro2, ro3, ro4, ro5, ro6, ro7, ro8, ro9, ro10, ro11, ro12, ro13⟩ := id hro
  obtain ⟨hdg, rfl⟩ := hd
  exact va_ldcS hx hb hown (ro3 _ hw) hdg (k h ok H locs ls hP hD hS hl)
theorem j_ldcw {S : Type} {V : ej_V S} {σ : S} {ix : Nat} {v : Int32} (hd : ej_d I pc (.ldc_w ix) 3 q) (hw : Cond.constant I.2.2.1 ix v ∈ ej_WS) (k : ej_J V F I r0 σ q L (.int v :: st) M) : ej_J V F I r0 σ pc L st M := by
  intro h ok
  obtain ⟨p, l, e, R, s, m, args, below, meth, c, Q, A, cells, slots⟩ := F
  obtain ⟨hx, hb, hml, hown, hts, hK, hA, hlk, hfr, hlo, hce, hsl, hro, hV⟩ := id ok
  intro H locs ls hP hD hS hl
  obtain ⟨hdg, rfl⟩ := hd
  exact lv_ldcw hx hb hown (hts _ hw) hdg (k h ok H locs ls hP hD hS hl)
/-- a call of a text's method: the receiver is a text that is only read -/
theorem j_callJi {I' : ej_I} {y : MethodName} {idx s0 : Nat} {As st0 : List Value} {ret : Option FieldType} {m1 : Option (Int32 × ej_S)} {km : Int32 → ej_S → Option ρ} (hc : ∀ r σ1, m1 = some (r, σ1) → ∀ l, ej_Con l (cV x) I' y ret (.ref (cw_k x s0) :: As) σ (some (.int r)) σ1) (hL : ej_LV I.2.2.1 idx y I' ret As.length) (hy : y.cls = "java/lang/String") (hs : s0 < 13) (hR : ej_ro I' I) (hd : ej_d I pc (.invokevirtual idx) 3 q) (hst : st0 = As.reverse ++ .ref (cw_k x s0) :: st) (hcat : (st.map fun v => v.category).sum ≤ 8) (kk : ∀ r σ1, ej_J (cV x) F I r0 σ1 q L (.int r :: st) (km r σ1)) : ej_J (cV x) F I r0 σ pc L st0 (ej_bi m1 km) := by
  intro h ok
  obtain ⟨p, l, e, R, s, m, args, below, meth, c, Q, A, cells, slots⟩ := F
  obtain ⟨hx, hb, hml, hown, hts, hK, hA, hlk, hfr, hlo, hce, hsl, hro, hV⟩ := id ok
  intro H locs ls hP hD hS hl
  obtain ⟨ro1, ro2, ro3, ro4, ro5, ro6, ro7, ro8, ro9, ro10, ro11, ro12, ro13⟩ := id hro
  obtain ⟨k1, k2, k3, k4, k5, k6, k7, k8⟩ := hL
  obtain ⟨hdg, rfl⟩ := hd
  cases hm : m1 with
  | none => rw [hm] at h; cases h
  | some w =>
    obtain ⟨r, σ1⟩ := w
    rw [hm] at h
    exact ej_callG hV (va_runV (C := y.cls) (As := As) (rest := st) ⟨hx, hb, hml, hown, hts⟩ (hc _ _ hm l H.size) ⟨callB_of As.length hts (ej_GI' k5) rfl rfl rfl (hts _ k4) (hts _ k1) ⟨k6, k7, k8⟩ ⟨Nat.le_trans hR.1 hfr, Nat.le_trans hR.2 hlo⟩, hts _ k2, hts _ k3⟩ ⟨ej_blind hV, by rw [hy]; exact vk_recv ro8 hs hS, fun U hU hW => ⟨rfl, ej_preU hV hP hD hS hA hK hro hU hW⟩⟩ rfl rfl hl.1 hst (lv_room hcat) hdg ⟨hce, hsl⟩) hD hS hA (fun H1 locs1 hP1 hD1 hS1 => kk r σ1 h ok H1 locs1 ls hP1 hD1 hS1 hl)
end EJ3
section EJ4
variable {S ρ : Type} {V : ej_V S} {F : ej_F} {I : ej_I} {r0 : ρ} {σ : S} {pc q t : Nat} {L L' : List (Nat × Value)} {st : List Value} {M M1 M2 : Option ρ}
theorem j_tab1 {dflt lo hi off : Int} {offs : Array Int} {len : Nat} {v z : Int32} (hdg : decode I.1 pc = .ok (.tableswitch dflt lo hi offs, len)) (h1 : ¬ v.toInt < lo) (h2 : ¬ hi < v.toInt) (ho : offs[(v.toInt - lo).toNat]? = some off) (ht : (pc : Int) + off = (t : Int)) (kt : ej_J V F I r0 σ t L st M1) (kf : z ≠ v → ej_J V F I r0 σ pc L (.int z :: st) M2) : ej_J V F I r0 σ pc L (.int z :: st) (if z = v then M1 else M2) := by
  intro h ok
  obtain ⟨p, l, e, R, s, m, args, below, meth, c, Q, A, cells, slots⟩ := F
  obtain ⟨hx, hb, hml, hown, hts, hK, hA, hlk, hfr, hlo, hce, hsl, hro, hV⟩ := id ok
  intro H locs ls hP hD hS hl
  by_cases hz : z = v
  · rw [if_pos hz] at h
    subst hz
    exact lv_tableIn hx hb hdg h1 h2 ho ht (kt h ok H locs ls hP hD hS hl)
  · rw [if_neg hz] at h
    exact kf hz h ok H locs ls hP hD hS hl
theorem j_tabO {dflt lo hi : Int} {offs : Array Int} {len : Nat} {z : Int32} (hdg : decode I.1 pc = .ok (.tableswitch dflt lo hi offs, len)) (ho : z.toInt < lo ∨ hi < z.toInt) (ht : (pc : Int) + dflt = (t : Int)) (kt : ej_J V F I r0 σ t L st M) : ej_J V F I r0 σ pc L (.int z :: st) M := by
  intro h ok
  obtain ⟨p, l, e, R, s, m, args, below, meth, c, Q, A, cells, slots⟩ := F
  obtain ⟨hx, hb, hml, hown, hts, hK, hA, hlk, hfr, hlo, hce, hsl, hro, hV⟩ := id ok
  intro H locs ls hP hD hS hl
  exact lv_tableOut hx hb hdg ho ht (kt h ok H locs ls hP hD hS hl)
theorem ej_ne {z v : Int32} (h : z ≠ v) : z.toInt ≠ v.toInt := fun e => h (Int32.toInt_inj.mp e)
theorem ej_tout5 {z : Int32} (h1 : z ≠ 1) (h2 : z ≠ 2) (h3 : z ≠ 3) (h4 : z ≠ 4) (h5 : z ≠ 5) : z.toInt < 1 ∨ 5 < z.toInt := by
  have e1 := ej_ne h1
  have e2 := ej_ne h2
  have e3 := ej_ne h3
  have e4 := ej_ne h4
  have e5 := ej_ne h5
  have q1 : (1 : Int32).toInt = 1 := by decide
  have q2 : (2 : Int32).toInt = 2 := by decide
  have q3 : (3 : Int32).toInt = 3 := by decide
  have q4 : (4 : Int32).toInt = 4 := by decide
  have q5 : (5 : Int32).toInt = 5 := by decide
  omega
theorem j_lk1 {dflt off : Int} {ps : Array (Int × Int)} {len : Nat} {v z : Int32} (hdg : decode I.1 pc = .ok (.lookupswitch dflt ps, len)) (hp : (ps.toList.zip (ps.toList.drop 1)).all (fun (a, next) => a.1 < next.1) = true) (ho : Op.lookupswitch.offset ps.toList dflt v.toInt = off) (ht : (pc : Int) + off = (t : Int)) (kt : ej_J V F I r0 σ t L st M1) (kf : z ≠ v → ej_J V F I r0 σ pc L (.int z :: st) M2) : ej_J V F I r0 σ pc L (.int z :: st) (if z = v then M1 else M2) := by
  intro h ok
  obtain ⟨p, l, e, R, s, m, args, below, meth, c, Q, A, cells, slots⟩ := F
  obtain ⟨hx, hb, hml, hown, hts, hK, hA, hlk, hfr, hlo, hce, hsl, hro, hV⟩ := id ok
  intro H locs ls hP hD hS hl
  by_cases hz : z = v
  · rw [if_pos hz] at h
    subst hz
    exact lv_lookup hx hb hdg hp ho ht (kt h ok H locs ls hP hD hS hl)
  · rw [if_neg hz] at h
    exact kf hz h ok H locs ls hP hD hS hl
theorem j_lkO {dflt off : Int} {ps : Array (Int × Int)} {len : Nat} {z : Int32} (hdg : decode I.1 pc = .ok (.lookupswitch dflt ps, len)) (hp : (ps.toList.zip (ps.toList.drop 1)).all (fun (a, next) => a.1 < next.1) = true) (ho : Op.lookupswitch.offset ps.toList dflt z.toInt = off) (ht : (pc : Int) + off = (t : Int)) (kt : ej_J V F I r0 σ t L st M) : ej_J V F I r0 σ pc L (.int z :: st) M := by
  intro h ok
  obtain ⟨p, l, e, R, s, m, args, below, meth, c, Q, A, cells, slots⟩ := F
  obtain ⟨hx, hb, hml, hown, hts, hK, hA, hlk, hfr, hlo, hce, hsl, hro, hV⟩ := id ok
  intro H locs ls hP hD hS hl
  exact lv_lookup hx hb hdg hp ho ht (kt h ok H locs ls hP hD hS hl)
end EJ4
