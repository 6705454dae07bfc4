set_option maxRecDepth 40000 in
theorem whole_start {p : Program} {e : Env} {s : State} {m : MethodId} {below : List Frame} {meth : Method} {c : Code} (l : Launch) (hflags : l.flags = flags0) {b L : Nat} {xs : Nat → Int32} (hL : L ≤ 260) (C0 : lw_At p s m meth c b L xs) : W p l e room_1 s m #[Value.ref b] below meth c s.heap [] 0 0 (lw_Z below #[Value.ref b] s) (entryFrame m ([Value.ref b] : List Value).toArray 12) := by
  obtain ⟨hx, hb, hr, hml, hown, hts, hX, hbl, hlocks, hgv⟩ := id C0
  have hts2 : ∀ w ∈ ej_WS, w.before #[Value.ref b] s = true := fun w hw => hts w (List.mem_filter.mp hw).1
  have ho : (Cond.arrayOver (.object "MailRouter$Text")).before #[Value.ref b] s = true := hts _ (List.mem_of_getElem? (i := 93) (by decide +kernel))
  have hi : (Cond.arrayOver (.array .int)).before #[Value.ref b] s = true := hts _ (List.mem_of_getElem? (i := 192) (by decide +kernel))
  obtain ⟨D, aC, hK⟩ := st_K hts2 ho hi
  obtain ⟨tR, adE, adK, adV, hRO⟩ := st_RO (A := fun q : Nat => s.heap.size ≤ q) hts hgv (fun q h => Nat.not_le.mpr h)
  obtain ⟨n, hR⟩ := st_pure
  have hst : l.stackTraces = false := by
    unfold Launch.stackTraces
    rw [hflags]
    decide +kernel
  have hl := lv_entry ([.ref b]) (n := 12) (Nat.le_of_ble_eq_true rfl)
  rw [lg_entry_eq]
  exact st_walk (F := (p, l, e, room_1, s, m, #[Value.ref b], below, meth, c, lw_Z below #[Value.ref b] s, (fun q : Nat => s.heap.size ≤ q), 0, 0)) (tR := tR) (adE := adE) (adK := adK) (adV := adV) (fun ad => ⟨rfl, rfl, rfl, hr, rfl⟩) ⟨trivial, trivial, rfl, rfl, rfl, rfl, trivial⟩ hst (hR L xs hL) (fun ad => ⟨hRO D aC ad, hX, hbl, Nat.not_le.mpr hbl⟩) rfl ⟨hx, hb, hml, hown, hts2, hK, fun q h => h, hlocks, Nat.le_of_ble_eq_true rfl, Nat.le_of_ble_eq_true rfl, Nat.zero_le _, Nat.zero_le _, ⟨fun w hw => va_Nw.of rfl (hts _ (st_nm1 w hw)), va_AO.of ho, hi⟩, cjV_ok D aC []⟩ s.heap [] _ st_nilP st_nilD va_S.rf hl
