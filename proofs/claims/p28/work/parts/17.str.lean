/-! texts that are only read: their lengths and letters -/
def iJ0_coder : ej_I := (cJ0_coder_7d493, 1, "java/lang/String", 0, 0)
def iJ0_isLatin1 : ej_I := (cJ0_isLatin1_aae02, 1, "java/lang/String", 0, 0)
def iJ3_checkIndex : ej_I := (cJ3_checkIndex_8e157, 3, RJ3, 0, 0)
def iJ0_checkIndex : ej_I := (cJ0_checkIndex_df160, 2, "java/lang/String", 1, 22)
def iJ1_charAt : ej_I := (cJ1_charAt_3b067, 2, RJ1, 2, 43)
section JS
variable {ρ : Type} {x : cw_T} {F : ej_F} {I : ej_I} {r0 : ρ} {σ : ej_S} {pc q s : Nat} {L : List (Nat × Value)} {st : List Value} {M : Option ρ}
theorem js_gets (hw : Cond.fieldLink I.2.2.1 38 "java/lang/String" "COMPACT_STRINGS" "Z" ∈ ej_WS) (hd : ej_d I pc (.getstatic 38) 3 q) (k : ej_J (cV x) F I r0 σ q L (.int 1 :: st) M) : ej_J (cV x) F I r0 σ pc L st M := by
  intro h ok
  obtain ⟨p, l, e, R, s2, m, args, below, meth, c, Q, A, cells, slots⟩ := F
  obtain ⟨hx, hb, hml, hown, hts, hK, hA, hlk, hfr, hlo, hce, hsl, hro, hV⟩ := id ok
  intro H locs ls hP hD hS hl
  obtain ⟨ro1, ro2, ro3, ro4, ro5, ro6, ro7, ro8, ro9, ro10, ro11, ro12, ro13⟩ := id hro
  obtain ⟨hdg, rfl⟩ := hd
  exact va_gets hx hb ro4.2.1 hS hown (hts _ hw) (fun z hz => hz) hdg (k h ok H locs ls hP hD hS hl)
theorem js_getq (hw : Cond.fieldLink I.2.2.1 1053 "jdk/internal/util/Preconditions" "SIOOBE_FORMATTER" "Ljava/util/function/BiFunction;" ∈ ej_WS) (hd : ej_d I pc (.getstatic 1053) 3 q) (k : ∀ v : Value, (v = .null ∨ ∃ t, v = .ref t) → ej_J (cV x) F I r0 σ q L (v :: st) M) : ej_J (cV x) F I r0 σ pc L st M := by
  intro h ok
  obtain ⟨p, l, e, R, s2, m, args, below, meth, c, Q, A, cells, slots⟩ := F
  obtain ⟨hx, hb, hml, hown, hts, hK, hA, hlk, hfr, hlo, hce, hsl, hro, hV⟩ := id ok
  intro H locs ls hP hD hS hl
  obtain ⟨ro1, ro2, ro3, ro4, ro5, ro6, ro7, ro8, ro9, ro10, ro11, ro12, ro13⟩ := id hro
  obtain ⟨hdg, rfl⟩ := hd
  rcases ro4.2.2 with hz | ⟨t, hz⟩
  · exact va_gets hx hb hz hS hown (hts _ hw) (fun z hz => hz) hdg (k _ (Or.inl rfl) h ok H locs ls hP hD hS hl)
  · exact va_gets hx hb hz hS hown (hts _ hw) (fun z hz => hz) hdg (k _ (Or.inr ⟨t, rfl⟩) h ok H locs ls hP hD hS hl)
theorem js_getc (hs : s < 13) (hw : Cond.fieldLink I.2.2.1 15 "java/lang/String" "coder" "B" ∈ ej_WS) (hd : ej_d I pc (.getfield 15) 3 q) (k : ej_J (cV x) F I r0 σ q L (.int 0 :: st) M) : ej_J (cV x) F I r0 σ pc L (.ref (cw_k x s) :: st) M := by
  intro h ok
  obtain ⟨p, l, e, R, s2, m, args, below, meth, c, Q, A, cells, slots⟩ := F
  obtain ⟨hx, hb, hml, hown, hts, hK, hA, hlk, hfr, hlo, hce, hsl, hro, hV⟩ := id ok
  intro H locs ls hP hD hS hl
  obtain ⟨ro1, ro2, ro3, ro4, ro5, ro6, ro7, ro8, ro9, ro10, ro11, ro12, ro13⟩ := id hro
  obtain ⟨hdg, rfl⟩ := hd
  exact vk_getf hx hb (ro8.1 s hs).2.1 hS hown (hts _ hw) (fun z hz => hz) hdg (k h ok H locs ls hP hD hS hl)
theorem js_getv (hs : s < 13) (hw : Cond.fieldLink I.2.2.1 9 "java/lang/String" "value" "[B" ∈ ej_WS) (hd : ej_d I pc (.getfield 9) 3 q) (k : ej_J (cV x) F I r0 σ q L (.ref (cw_v x s) :: st) M) : ej_J (cV x) F I r0 σ pc L (.ref (cw_k x s) :: st) M := by
  intro h ok
  obtain ⟨p, l, e, R, s2, m, args, below, meth, c, Q, A, cells, slots⟩ := F
  obtain ⟨hx, hb, hml, hown, hts, hK, hA, hlk, hfr, hlo, hce, hsl, hro, hV⟩ := id ok
  intro H locs ls hP hD hS hl
  obtain ⟨ro1, ro2, ro3, ro4, ro5, ro6, ro7, ro8, ro9, ro10, ro11, ro12, ro13⟩ := id hro
  obtain ⟨hdg, rfl⟩ := hd
  exact vk_getf hx hb (ro8.1 s hs).2.2.1 hS hown (hts _ hw) (fun z hz => hz) hdg (k h ok H locs ls hP hD hS hl)
theorem js_len (hs : s < 13) (hd : ej_d I pc .arraylength 1 q) (k : ej_J (cV x) F I r0 σ q L (.int (nI (cw_len.getD s 0)) :: st) M) : ej_J (cV x) F I r0 σ pc L (.ref (cw_v x s) :: st) M := by
  intro h ok
  obtain ⟨p, l, e, R, s2, m, args, below, meth, c, Q, A, cells, slots⟩ := F
  obtain ⟨hx, hb, hml, hown, hts, hK, hA, hlk, hfr, hlo, hce, hsl, hro, hV⟩ := id ok
  intro H locs ls hP hD hS hl
  obtain ⟨ro1, ro2, ro3, ro4, ro5, ro6, ro7, ro8, ro9, ro10, ro11, ro12, ro13⟩ := id hro
  obtain ⟨hdg, rfl⟩ := hd
  exact va_tlen hx hb (ro8.1 s hs).2.2.2 hS rfl hdg (k h ok H locs ls hP hD hS hl)
theorem js_ld (hs : s < 13) {i : Int32} (hd : ej_d I pc .baload 1 q) (k : ej_J (cV x) F I r0 σ q L (.int ((cw_byt.getD s []).getD i.toNatClampNeg 0) :: st) M) : ej_J (cV x) F I r0 σ pc L (.int i :: .ref (cw_v x s) :: st) (ej_ck i (cw_len.getD s 0) M) := by
  intro h ok
  obtain ⟨p, l, e, R, s2, m, args, below, meth, c, Q, A, cells, slots⟩ := F
  obtain ⟨hx, hb, hml, hown, hts, hK, hA, hlk, hfr, hlo, hce, hsl, hro, hV⟩ := id ok
  intro H locs ls hP hD hS hl
  obtain ⟨ro1, ro2, ro3, ro4, ro5, ro6, ro7, ro8, ro9, ro10, ro11, ro12, ro13⟩ := id hro
  obtain ⟨hdg, rfl⟩ := hd
  obtain ⟨hin, h⟩ := ej_ckn h
  exact va_tb hx hb (ro8.1 s hs).2.2.2 hS hin rfl hdg (k h ok H locs ls hP hD hS hl)
theorem js_i2c {y : Int32} (hd : ej_d I pc .i2c 1 q) (k : ej_J (cV x) F I r0 σ q L (.int (y.toUInt32 % 65536).toInt32 :: st) M) : ej_J (cV x) F I r0 σ pc L (.int y :: st) M := by
  intro h ok
  obtain ⟨p, l, e, R, s2, m, args, below, meth, c, Q, A, cells, slots⟩ := F
  obtain ⟨hx, hb, hml, hown, hts, hK, hA, hlk, hfr, hlo, hce, hsl, hro, hV⟩ := id ok
  intro H locs ls hP hD hS hl
  obtain ⟨ro1, ro2, ro3, ro4, ro5, ro6, ro7, ro8, ro9, ro10, ro11, ro12, ro13⟩ := id hro
  obtain ⟨hdg, rfl⟩ := hd
  exact lv_i2c hx hb hdg rfl (k h ok H locs ls hP hD hS hl)
end JS
theorem js_ret {x : cw_T} {F : ej_F} {I : ej_I} {σ : ej_S} {pc : Nat} {L : List (Nat × Value)} {v w : Int32} {ty : FieldType} {r0 : Int32 × ej_S} (hq : ej_fin (cV x) F (some ty) (some (.int r0.1)) r0.2) (hn : narrow ty (.int v) = .int w) (hd : decode I.1 pc = .ok (.ireturn, 1)) : ej_J (cV x) F I r0 σ pc L [.int v] (some (w, σ)) := by
  intro h ok
  obtain ⟨p, l, e, R, s2, m, args, below, meth, c, Q, A, cells, slots⟩ := F
  obtain ⟨hx, hb, hml, hown, hts, hK, hA, hlk, hfr, hlo, hce, hsl, hro, hV⟩ := id ok
  intro H locs ls hP hD hS hl
  obtain ⟨ro1, ro2, ro3, ro4, ro5, ro6, ro7, ro8, ro9, ro10, ro11, ro12, ro13⟩ := id hro
  cases h
  obtain ⟨rfl, hr⟩ := hq
  exact ej_zret hx hb hr hn (fun t ht _ => ⟨⟨rfl, by rw [ht]; exact hP⟩, hS.F ht⟩) hS.2.2 hd hlk

theorem pn_S : plainName "java/lang/String" = true := by decide +kernel
theorem js_w38 : Cond.fieldLink "java/lang/String" 38 "java/lang/String" "COMPACT_STRINGS" "Z" ∈ ej_WS := ej_ws (List.mem_of_getElem? (i := 628) (by decide +kernel)) (by decide +kernel)
theorem js_w15 : Cond.fieldLink "java/lang/String" 15 "java/lang/String" "coder" "B" ∈ ej_WS := ej_ws (List.mem_of_getElem? (i := 1329) (by decide +kernel)) (by decide +kernel)
theorem js_w9 : Cond.fieldLink "java/lang/String" 9 "java/lang/String" "value" "[B" ∈ ej_WS := ej_ws (List.mem_of_getElem? (i := 1328) (by decide +kernel)) (by decide +kernel)
theorem js_w1053 : Cond.fieldLink "java/lang/String" 1053 "jdk/internal/util/Preconditions" "SIOOBE_FORMATTER" "Ljava/util/function/BiFunction;" ∈ ej_WS := ej_ws (List.mem_of_getElem? (i := 644) (by decide +kernel)) (by decide +kernel)
theorem js_lcoder : ej_LV "java/lang/String" 335 yJ0_coder_7d493 iJ0_coder (some .byte) 0 := ⟨ej_ws (List.mem_of_getElem? (i := 624) (by decide +kernel)) (by decide +kernel), ej_ws (List.mem_of_getElem? (i := 625) (by decide +kernel)) (by decide +kernel), ej_ws (List.mem_of_getElem? (i := 626) (by decide +kernel)) (by decide +kernel), ej_ws (List.mem_of_getElem? (i := 64) (by decide +kernel)) (by decide +kernel), ej_ws (List.mem_of_getElem? (i := 627) (by decide +kernel)) (by decide +kernel), by decide, by decide, by decide +kernel⟩
theorem js_llat : ej_LV "java/lang/String" 492 yJ0_isLatin1_aae02 iJ0_isLatin1 (some .boolean) 0 := ⟨ej_ws (List.mem_of_getElem? (i := 634) (by decide +kernel)) (by decide +kernel), ej_ws (List.mem_of_getElem? (i := 635) (by decide +kernel)) (by decide +kernel), ej_ws (List.mem_of_getElem? (i := 636) (by decide +kernel)) (by decide +kernel), ej_ws (List.mem_of_getElem? (i := 64) (by decide +kernel)) (by decide +kernel), ej_ws (List.mem_of_getElem? (i := 637) (by decide +kernel)) (by decide +kernel), by decide, by decide, by decide +kernel⟩
theorem js_lc1 : ej_LS "java/lang/String" 495 yJ1_charAt_3b067 iJ1_charAt (some .char) 2 := ⟨ej_ws (List.mem_of_getElem? (i := 638) (by decide +kernel)) (by decide +kernel), ej_ws (List.mem_of_getElem? (i := 639) (by decide +kernel)) (by decide +kernel), ej_ws (List.mem_of_getElem? (i := 65) (by decide +kernel)) (by decide +kernel), ej_ws (List.mem_of_getElem? (i := 640) (by decide +kernel)) (by decide +kernel), by decide, by decide, by decide +kernel⟩
theorem js_lci : ej_LS RJ1 9 yJ0_checkIndex_df160 iJ0_checkIndex none 2 := ⟨ej_ws (List.mem_of_getElem? (i := 641) (by decide +kernel)) (by decide +kernel), ej_ws (List.mem_of_getElem? (i := 642) (by decide +kernel)) (by decide +kernel), ej_ws (List.mem_of_getElem? (i := 64) (by decide +kernel)) (by decide +kernel), ej_ws (List.mem_of_getElem? (i := 643) (by decide +kernel)) (by decide +kernel), by decide, by decide, by decide +kernel⟩
theorem js_lp : ej_LS "java/lang/String" 1059 yJ3_checkIndex_8e157 iJ3_checkIndex (some .int) 3 := ⟨ej_ws (List.mem_of_getElem? (i := 646) (by decide +kernel)) (by decide +kernel), ej_ws (List.mem_of_getElem? (i := 647) (by decide +kernel)) (by decide +kernel), ej_ws (List.mem_of_getElem? (i := 66) (by decide +kernel)) (by decide +kernel), ej_ws (List.mem_of_getElem? (i := 648) (by decide +kernel)) (by decide +kernel), by decide, by decide, by decide +kernel⟩
noncomputable def mJ0_coder (σ : ej_S) : Option (Int32 × ej_S) := some (0, σ)
set_option maxRecDepth 20000 in
set_option maxHeartbeats 2000000 in
theorem cJ0_coder (x : cw_T) (s : Nat) (hs : s < 13) (σ : ej_S) : ∀ r σ1, mJ0_coder σ = some (r, σ1) → ∀ l, ej_Con l (cV x) iJ0_coder yJ0_coder_7d493 (some .byte) [.ref (cw_k x s)] σ (some (.int r)) σ1 := fun r σ1 h l => ej_con_of (M := if (1 : Int32) = 0 then none else some (0, σ)) (cV_ok x) pn_S rfl (Nat.le_of_ble_eq_true rfl) rfl h (fun F hq => by
  refine js_gets js_w38 (show ej_d iJ0_coder 0 (.getstatic 38) 3 3 from by decide +kernel) ?_
  refine j_if_eq (show ej_b iJ0_coder 3 (.ifCond .eq 10) 10 6 13 from by decide +kernel) j_none ?_
  refine j_aload_n 0 rfl (show ej_d iJ0_coder 6 (.aload_n 0) 1 7 from by decide +kernel) ?_
  refine js_getc hs js_w15 (show ej_d iJ0_coder 7 (.getfield 15) 3 10 from by decide +kernel) ?_
  refine j_goto (show ej_b iJ0_coder 10 (.goto 4) 4 13 14 from by decide +kernel) ?_
  exact js_ret hq rfl (show decode iJ0_coder.1 14 = .ok (.ireturn, 1) from by decide +kernel))
noncomputable def mJ0_isLatin1 (σ : ej_S) : Option (Int32 × ej_S) := some (1, σ)
set_option maxRecDepth 20000 in
set_option maxHeartbeats 2000000 in
theorem cJ0_isLatin1 (x : cw_T) (s : Nat) (hs : s < 13) (σ : ej_S) : ∀ r σ1, mJ0_isLatin1 σ = some (r, σ1) → ∀ l, ej_Con l (cV x) iJ0_isLatin1 yJ0_isLatin1_aae02 (some .boolean) [.ref (cw_k x s)] σ (some (.int r)) σ1 := fun r σ1 h l => ej_con_of (M := if (1 : Int32) = 0 then none else if (0 : Int32) = 0 then some (1, σ) else none) (cV_ok x) pn_S rfl (Nat.le_of_ble_eq_true rfl) rfl h (fun F hq => by
  refine js_gets js_w38 (show ej_d iJ0_isLatin1 0 (.getstatic 38) 3 3 from by decide +kernel) ?_
  refine j_if_eq (show ej_b iJ0_isLatin1 3 (.ifCond .eq 14) 14 6 17 from by decide +kernel) j_none ?_
  refine j_aload_n 0 rfl (show ej_d iJ0_isLatin1 6 (.aload_n 0) 1 7 from by decide +kernel) ?_
  refine js_getc hs js_w15 (show ej_d iJ0_isLatin1 7 (.getfield 15) 3 10 from by decide +kernel) ?_
  refine j_if_ne (show ej_b iJ0_isLatin1 10 (.ifCond .ne 7) 7 13 17 from by decide +kernel) j_none ?_
  refine j_iconst (show ej_d iJ0_isLatin1 13 (.iconst 1) 1 14 from by decide +kernel) (v := 1) (by decide) ?_
  refine j_goto (show ej_b iJ0_isLatin1 14 (.goto 4) 4 17 18 from by decide +kernel) ?_
  exact js_ret hq rfl (show decode iJ0_isLatin1.1 18 = .ok (.ireturn, 1) from by decide +kernel))
noncomputable def mJ3_checkIndex (i k : Int32) (σ : ej_S) : Option (Int32 × ej_S) := if i < 0 then none else if i < k then some (i, σ) else none
set_option maxRecDepth 20000 in
set_option maxHeartbeats 2000000 in
theorem cJ3_checkIndex (x : cw_T) (i k : Int32) (v : Value) (hv : v = .null ∨ ∃ t, v = .ref t) (σ : ej_S) : ∀ r σ1, mJ3_checkIndex i k σ = some (r, σ1) → ∀ l, ej_Con l (cV x) iJ3_checkIndex yJ3_checkIndex_8e157 (some .int) [.int i, .int k, v] σ (some (.int r)) σ1 := fun r σ1 h l => ej_con_of (L := [(0, .int i), (1, .int k), (2, v)]) (cV_ok x) (by decide +kernel) rfl (by rcases hv with rfl | ⟨t, rfl⟩ <;> exact (Nat.le_of_ble_eq_true rfl)) (by rcases hv with rfl | ⟨t, rfl⟩ <;> rfl) h (fun F hq => by
  refine j_iload_n 0 rfl (show ej_d iJ3_checkIndex 0 (.iload_n 0) 1 1 from by decide +kernel) ?_
  refine j_if_lt (show ej_b iJ3_checkIndex 1 (.ifCond .lt 8) 8 4 9 from by decide +kernel) j_none ?_
  refine j_iload_n 0 rfl (show ej_d iJ3_checkIndex 4 (.iload_n 0) 1 5 from by decide +kernel) ?_
  refine j_iload_n 1 rfl (show ej_d iJ3_checkIndex 5 (.iload_n 1) 1 6 from by decide +kernel) ?_
  refine j_icmp_lt (show ej_b iJ3_checkIndex 6 (.if_icmp .lt 10) 10 9 16 from by decide +kernel) ?_ j_none
  refine j_iload_n 0 rfl (show ej_d iJ3_checkIndex 16 (.iload_n 0) 1 17 from by decide +kernel) ?_
  exact j_ireturn hq (show decode iJ3_checkIndex.1 17 = .ok (.ireturn, 1) from by decide +kernel))
noncomputable def mJ0_checkIndex (i k : Int32) (σ : ej_S) : Option ej_S := ej_bi (mJ3_checkIndex i k σ) fun _ s1 => some s1
set_option maxRecDepth 20000 in
set_option maxHeartbeats 2000000 in
theorem cJ0_checkIndex (x : cw_T) (i k : Int32) (σ : ej_S) : ∀ σ1, mJ0_checkIndex i k σ = some σ1 → ∀ l, ej_Con l (cV x) iJ0_checkIndex yJ0_checkIndex_df160 none [.int i, .int k] σ none σ1 := fun σ1 h l => ej_con_of (cV_ok x) pn_S rfl (Nat.le_of_ble_eq_true rfl) rfl h (fun F hq => by
  refine j_iload_n 0 rfl (show ej_d iJ0_checkIndex 0 (.iload_n 0) 1 1 from by decide +kernel) ?_
  refine j_iload_n 1 rfl (show ej_d iJ0_checkIndex 1 (.iload_n 1) 1 2 from by decide +kernel) ?_
  refine js_getq js_w1053 (show ej_d iJ0_checkIndex 2 (.getstatic 1053) 3 5 from by decide +kernel) (fun v hv => ?_)
  refine j_callSi (As := [.int i, .int k, v]) (cJ3_checkIndex x i k v hv σ) js_lp ⟨(Nat.le_of_ble_eq_true rfl), (Nat.le_of_ble_eq_true rfl)⟩ (show ej_d iJ0_checkIndex 5 (.invokestatic 1059) 3 8 from by decide +kernel) rfl (Nat.le_of_ble_eq_true rfl) (fun r1 s1 => ?_)
  refine j_pop (show ej_d iJ0_checkIndex 8 (.pop) 1 9 from by decide +kernel) rfl ?_
  exact j_vreturn hq (show decode iJ0_checkIndex.1 9 = .ok (.return_, 1) from by decide +kernel))
noncomputable def mJ1_charAt (s : Nat) (i : Int32) (σ : ej_S) : Option (Int32 × ej_S) := ej_bv (mJ0_checkIndex i (nI (cw_len.getD s 0)) σ) fun s1 => ej_ck i (cw_len.getD s 0) (some (((cw_byt.getD s []).getD i.toNatClampNeg 0) &&& 255, s1))
set_option maxRecDepth 20000 in
set_option maxHeartbeats 2000000 in
theorem cJ1_charAt (x : cw_T) (s : Nat) (hs : s < 13) (i : Int32) (σ : ej_S) : ∀ r σ1, mJ1_charAt s i σ = some (r, σ1) → ∀ l, ej_Con l (cV x) iJ1_charAt yJ1_charAt_3b067 (some .char) [.ref (cw_v x s), .int i] σ (some (.int r)) σ1 := fun r σ1 h l => ej_con_of (cV_ok x) (by decide +kernel) rfl (Nat.le_of_ble_eq_true rfl) rfl h (fun F hq => by
  unfold mJ1_charAt
  refine j_iload_n 1 rfl (show ej_d iJ1_charAt 0 (.iload_n 1) 1 1 from by decide +kernel) ?_
  refine j_aload_n 0 rfl (show ej_d iJ1_charAt 1 (.aload_n 0) 1 2 from by decide +kernel) ?_
  refine js_len hs (show ej_d iJ1_charAt 2 (.arraylength) 1 3 from by decide +kernel) ?_
  refine j_callSv (As := [.int i, .int (nI (cw_len.getD s 0))]) (cJ0_checkIndex x i (nI (cw_len.getD s 0)) σ) js_lci ⟨(Nat.le_of_ble_eq_true rfl), (Nat.le_of_ble_eq_true rfl)⟩ (show ej_d iJ1_charAt 3 (.invokestatic 9) 3 6 from by decide +kernel) rfl (Nat.le_of_ble_eq_true rfl) (fun s1 => ?_)
  refine j_aload_n 0 rfl (show ej_d iJ1_charAt 6 (.aload_n 0) 1 7 from by decide +kernel) ?_
  refine j_iload_n 1 rfl (show ej_d iJ1_charAt 7 (.iload_n 1) 1 8 from by decide +kernel) ?_
  refine js_ld hs (show ej_d iJ1_charAt 8 (.baload) 1 9 from by decide +kernel) ?_
  refine j_sipush (show ej_d iJ1_charAt 9 (.sipush 255) 3 12 from by decide +kernel) (v := 255) (by decide) ?_
  refine j_iand (show ej_d iJ1_charAt 12 (.iand) 1 13 from by decide +kernel) ?_
  refine js_i2c (show ej_d iJ1_charAt 13 (.i2c) 1 14 from by decide +kernel) ?_
  rw [sc_c2]
  exact js_ret hq (sc_nar _) (show decode iJ1_charAt.1 14 = .ok (.ireturn, 1) from by decide +kernel))
noncomputable def mJ0_length (n s : Nat) (σ : ej_S) : Option (Int32 × ej_S) := some (nI (cw_len.getD s 0), σ)
set_option maxRecDepth 20000 in
set_option maxHeartbeats 2000000 in
theorem cJ0_length (x : cw_T) (n s : Nat) (hs : s < 13) (σ : ej_S) : ∀ r σ1, mJ0_length n s σ = some (r, σ1) → ∀ l, ej_Con l (cV x) iJ0_length yJ0_length_8abf5 (some .int) [.ref (cw_k x s)] σ (some (.int r)) σ1 := fun r σ1 h l => ej_con_of (M := ej_bi (mJ0_coder σ) fun r1 s1 => some (nI (cw_len.getD s 0) >>> (r1 &&& 31), s1)) (cV_ok x) pn_S rfl (Nat.le_of_ble_eq_true rfl) rfl (by rw [← h]; show some (nI (cw_len.getD s 0) >>> ((0 : Int32) &&& 31), σ) = some (nI (cw_len.getD s 0), σ); rw [sb_shr0]) (fun F hq => by
  refine j_aload_n 0 rfl (show ej_d iJ0_length 0 (.aload_n 0) 1 1 from by decide +kernel) ?_
  refine js_getv hs js_w9 (show ej_d iJ0_length 1 (.getfield 9) 3 4 from by decide +kernel) ?_
  refine js_len hs (show ej_d iJ0_length 4 (.arraylength) 1 5 from by decide +kernel) ?_
  refine j_aload_n 0 rfl (show ej_d iJ0_length 5 (.aload_n 0) 1 6 from by decide +kernel) ?_
  refine j_callJi (As := []) (cJ0_coder x s hs σ) js_lcoder rfl hs ⟨(Nat.le_of_ble_eq_true rfl), (Nat.le_of_ble_eq_true rfl)⟩ (show ej_d iJ0_length 6 (.invokevirtual 335) 3 9 from by decide +kernel) rfl (Nat.le_of_ble_eq_true rfl) (fun r1 s1 => ?_)
  refine j_ishr (show ej_d iJ0_length 9 (.ishr) 1 10 from by decide +kernel) ?_
  exact j_ireturn hq (show decode iJ0_length.1 10 = .ok (.ireturn, 1) from by decide +kernel))
noncomputable def mJ0_charAt (n s : Nat) (a1 : Int32) (σ : ej_S) : Option (Int32 × ej_S) := mJ1_charAt s a1 σ
theorem js_cb : ∀ s, s < 13 → ∀ b ∈ cw_byt.getD s [], b &&& 255 = b := by decide +kernel
set_option maxRecDepth 20000 in
set_option maxHeartbeats 2000000 in
theorem cJ0_charAt (x : cw_T) (n s : Nat) (hs : s < 13) (a1 : Int32) (σ : ej_S) : ∀ r σ1, mJ0_charAt n s a1 σ = some (r, σ1) → ∀ l, ej_Con l (cV x) iJ0_charAt yJ0_charAt_5068e (some .char) [.ref (cw_k x s), .int a1] σ (some (.int r)) σ1 := fun r σ1 h l => by
  have hb : narrow .char (.int r) = .int r := by
    unfold mJ0_charAt mJ1_charAt at h
    cases hm : mJ0_checkIndex a1 (nI (cw_len.getD s 0)) σ with
    | none => rw [hm] at h; cases h
    | some s1 =>
      rw [hm] at h
      obtain ⟨-, h⟩ := ej_ckn (M := some (((cw_byt.getD s []).getD a1.toNatClampNeg 0) &&& 255, s1)) h
      cases h
      exact sc_nar _
  exact ej_con_of (r0 := (r, σ1)) (M := ej_bi (mJ0_isLatin1 σ) fun r1 s1 => if r1 = 0 then none else ej_bi (mJ1_charAt s a1 s1) fun r2 s2 => if narrow .char (.int r2) = .int r2 then some (r2, s2) else none) (cV_ok x) pn_S rfl (Nat.le_of_ble_eq_true rfl) rfl (by
    show (if (1 : Int32) = 0 then none else ej_bi (mJ1_charAt s a1 σ) fun r2 s2 => if narrow .char (.int r2) = .int r2 then some (r2, s2) else none) = some (r, σ1)
    rw [if_neg (by decide), show mJ1_charAt s a1 σ = some (r, σ1) from h]
    show (if narrow .char (.int r) = .int r then some (r, σ1) else none) = _
    rw [if_pos hb]) (fun F hq => by
  refine j_aload_n 0 rfl (show ej_d iJ0_charAt 0 (.aload_n 0) 1 1 from by decide +kernel) ?_
  refine j_callJi (As := []) (cJ0_isLatin1 x s hs σ) js_llat rfl hs ⟨(Nat.le_of_ble_eq_true rfl), (Nat.le_of_ble_eq_true rfl)⟩ (show ej_d iJ0_charAt 1 (.invokevirtual 492) 3 4 from by decide +kernel) rfl (Nat.le_of_ble_eq_true rfl) (fun r1 s1 => ?_)
  refine j_if_eq (show ej_b iJ0_charAt 4 (.ifCond .eq 12) 12 7 16 from by decide +kernel) j_none ?_
  refine j_aload_n 0 rfl (show ej_d iJ0_charAt 7 (.aload_n 0) 1 8 from by decide +kernel) ?_
  refine js_getv hs js_w9 (show ej_d iJ0_charAt 8 (.getfield 9) 3 11 from by decide +kernel) ?_
  refine j_iload_n 1 rfl (show ej_d iJ0_charAt 11 (.iload_n 1) 1 12 from by decide +kernel) ?_
  refine j_callSi (As := [.ref (cw_v x s), .int a1]) (cJ1_charAt x s hs a1 s1) js_lc1 ⟨(Nat.le_of_ble_eq_true rfl), (Nat.le_of_ble_eq_true rfl)⟩ (show ej_d iJ0_charAt 12 (.invokestatic 495) 3 15 from by decide +kernel) rfl (Nat.le_of_ble_eq_true rfl) (fun r2 s2 => ?_)
  by_cases hn : narrow .char (.int r2) = .int r2
  · rw [if_pos hn]
    exact js_ret hq hn (show decode iJ0_charAt.1 15 = .ok (.ireturn, 1) from by decide +kernel)
  · rw [if_neg hn]
    exact j_none)
