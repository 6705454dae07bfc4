/-! THE WORLDS: a state of the class and of the reference: numbers of fields (gI, gJ), rows (gA, gB), tables (gM); where they lie -/
abbrev ej_S : Type := (Nat → Int32) × (Nat → Int64) × (Nat → Nat → Int32) × (Nat → Nat → Int64) × (Nat → Nat → Nat → Int32)
def gI (σ : ej_S) (k : Nat) : Int32 := σ.1 k
def gJ (σ : ej_S) (k : Nat) : Int64 := σ.2.1 k
def gA (σ : ej_S) (k : Nat) : Nat → Int32 := σ.2.2.1 k
def gB (σ : ej_S) (k : Nat) : Nat → Int64 := σ.2.2.2.1 k
def gM (σ : ej_S) (k : Nat) : Nat → Nat → Int32 := σ.2.2.2.2 k
def uI (σ : ej_S) (k : Nat) (v : Int32) : ej_S := (va_up σ.1 k v, σ.2)
def uJ (σ : ej_S) (k : Nat) (v : Int64) : ej_S := (σ.1, va_up σ.2.1 k v, σ.2.2)
def uA (σ : ej_S) (k i : Nat) (v : Int32) : ej_S := (σ.1, σ.2.1, va_up σ.2.2.1 k (upd (σ.2.2.1 k) i v), σ.2.2.2)
def uB (σ : ej_S) (k i : Nat) (v : Int64) : ej_S := (σ.1, σ.2.1, σ.2.2.1, va_up σ.2.2.2.1 k (vp_updL (σ.2.2.2.1 k) i v), σ.2.2.2.2)
def uM (σ : ej_S) (k i j : Nat) (v : Int32) : ej_S := (σ.1, σ.2.1, σ.2.2.1, σ.2.2.2.1, va_up σ.2.2.2.2 k (va_up (σ.2.2.2.2 k) i (upd (σ.2.2.2.2 k i) j v)))
/-- class ids and slots, array classes, addresses, the static row of rates, the rates, the texts, their bytes -/
abbrev cw_T : Type := va_G × (Nat → ClassId) × (Nat → Nat) × Nat × (Nat → Nat) × (Nat → Nat) × (Nat → Nat)
def cw_a (x : cw_T) : Nat → Nat := x.2.2.1
def cw_tR (x : cw_T) : Nat := x.2.2.2.1
def cw_e (x : cw_T) : Nat → Nat := x.2.2.2.2.1
def cw_k (x : cw_T) : Nat → Nat := x.2.2.2.2.2.1
def cw_v (x : cw_T) : Nat → Nat := x.2.2.2.2.2.2
/-- how many bytes a text may have -/
def cw_tl (t : Nat) : Nat := if t = 1 then 1200 else 600
def cw_W (aC : Nat → ClassId) (ad : Nat → Nat) (σ : ej_S) : va_W := [(ad 0, .inr (9, [.ref (ad (10 + 0)), .ref (ad (10 + 1)), .ref (ad 60), .ref (ad 30), .ref (ad 1), .ref (ad 2), .ref (ad 3), .ref (ad 4), .ref (ad 5), .ref (ad 6), .ref (ad 7), .ref (ad 8)])),
  (ad 1, .inr (1, [.int (gI σ 10), .int (gI σ 11)])),
  (ad 2, .inr (7, [.ref (ad (10 + 6)), .ref (ad 31), .ref (ad 32), .ref (ad 33), .ref (ad 34), .int (gI σ 12)])),
  (ad 3, .inr (5, [.ref (ad 2), .int (gI σ 13), .int (gI σ 14), .int (gI σ 15), .int (gI σ 16), .int (gI σ 17), .ref (ad 35), .ref (ad 36), .ref (ad 37), .ref (ad 38), .int (gI σ 18), .int (gI σ 19), .int (gI σ 20), .int (gI σ 21)])),
  (ad 4, .inr (0, [.int (gI σ 22), .int (gI σ 23), .ref (ad 39), .ref (ad 40), .int (gI σ 24), .int (gI σ 25), .int (gI σ 26), .int (gI σ 27), .int (gI σ 28), .ref (ad 41), .ref (ad 42), .ref (ad 43), .ref (ad 44), .ref (ad 45), .ref (ad 61), .ref (ad 62)])),
  (ad 5, .inr (3, [.ref (ad 2), .ref (ad 3), .ref (ad 4), .ref (ad 1), .int (gI σ 29), .int (gI σ 30), .int (gI σ 31), .int (gI σ 32), .int (gI σ 33)])),
  (ad 6, .inr (4, [.ref (ad 4), .ref (ad 46)])),
  (ad 7, .inr (8, [.ref (ad 4), .ref (ad 6), .long (gJ σ 0), .int (gI σ 34), .int (gI σ 35), .ref (ad 47), .ref (ad 48), .ref (ad 49), .ref (ad 50), .ref (ad 51), .ref (ad 52), .ref (ad 53)])),
  (ad 8, .inr (2, [.ref (ad 4), .ref (ad 6), .ref (ad 7), .ref (ad (10 + 1))])),
  (ad 30, .inl (aC 1, 4, .inl (gA σ 10))),
  (ad 31, .inl (aC 1, 601, .inl (gA σ 11))),
  (ad 32, .inl (aC 1, 601, .inl (gA σ 12))),
  (ad 33, .inl (aC 1, 601, .inl (gA σ 13))),
  (ad 34, .inl (aC 2, 601, .inr (.inl (gB σ 0)))),
  (ad 35, .inl (aC 1, 600, .inl (gA σ 14))),
  (ad 36, .inl (aC 1, 600, .inl (gA σ 15))),
  (ad 37, .inl (aC 1, 600, .inl (gA σ 16))),
  (ad 38, .inl (aC 1, 600, .inl (gA σ 17))),
  (ad 39, .inl (aC 2, 24, .inr (.inl (gB σ 1)))),
  (ad 40, .inl (aC 1, 24, .inl (gA σ 18))),
  (ad 41, .inl (aC 1, 24, .inl (gA σ 19))),
  (ad 42, .inl (aC 1, 24, .inl (gA σ 20))),
  (ad 43, .inl (aC 1, 24, .inl (gA σ 21))),
  (ad 44, .inl (aC 1, 24, .inl (gA σ 22))),
  (ad 45, .inl (aC 1, 24, .inl (gA σ 23))),
  (ad 46, .inl (aC 1, 24, .inl (gA σ 24))),
  (ad 47, .inl (aC 1, 96, .inl (gA σ 25))),
  (ad 48, .inl (aC 1, 96, .inl (gA σ 26))),
  (ad 49, .inl (aC 1, 96, .inl (gA σ 27))),
  (ad 50, .inl (aC 1, 96, .inl (gA σ 28))),
  (ad 51, .inl (aC 3, 96, .inl (gA σ 29))),
  (ad 52, .inl (aC 1, 96, .inl (gA σ 30))),
  (ad 53, .inl (aC 1, 96, .inl (gA σ 31))),
  (ad 60, .inl (aC 4, 4, .inr (.inr (.inr (.inr (fun j => some (ad (10 + (2 + j))))))))),
  (ad 61, .inl (aC 5, 24, .inr (.inr (.inr (.inr (fun j => some (ad (100 + j)))))))),
  (ad 62, .inl (aC 5, 24, .inr (.inr (.inr (.inr (fun j => some (ad (130 + j))))))))] ++ ((List.range 7).map (fun t => (ad (10 + t), .inr (6, [.ref (ad (20 + t)), .int (gI σ t)]))) ++ ((List.range 7).map (fun t => (ad (20 + t), .inl (aC 0, cw_tl t, .inl (gA σ t)))) ++ ((List.range 24).map (fun i => (ad (100 + i), .inl (aC 1, 24, .inl (gM σ 0 i)))) ++ (List.range 24).map (fun i => (ad (130 + i), .inl (aC 1, 24, .inl (gM σ 1 i)))))))
def rw_W (aC : Nat → ClassId) (ad : Nat → Nat) (σ : ej_S) : va_W := [(ad 210, .inl (aC 1, 60, .inl (gA σ 0))),
  (ad 211, .inl (aC 1, 12, .inl (gA σ 1))),
  (ad 212, .inl (aC 1, 4, .inl (gA σ 2)))]
def cw_nestM : List (String × Nat × MethodName × String) := [("MailRouter", 31, ⟨"MailRouter$Fault", "<init>", "()V"⟩, "MailRouter"), ("MailRouter", 38, ⟨"MailRouter$Tokens", "<init>", "()V"⟩, "MailRouter"), ("MailRouter", 54, ⟨"MailRouter$Atlas", "<init>", "()V"⟩, "MailRouter"), ("MailRouter$Tokens", 121, ⟨"MailRouter", "isNameStart", "(I)Z"⟩, "MailRouter"), ("MailRouter$Tokens", 115, ⟨"MailRouter", "isWordPart", "(I)Z"⟩, "MailRouter"), ("MailRouter$Tokens", 118, ⟨"MailRouter", "isDigit", "(I)Z"⟩, "MailRouter"), ("MailRouter$Tokens", 111, ⟨"MailRouter", "isNamePart", "(I)Z"⟩, "MailRouter"), ("MailRouter$Atlas", 69, ⟨"MailRouter", "nameByte", "(JI)I"⟩, "MailRouter"), ("MailRouter$Atlas", 72, ⟨"MailRouter", "setOf", "(I)I"⟩, "MailRouter"), ("MailRouter$Atlas", 80, ⟨"MailRouter", "holds", "(II)Z"⟩, "MailRouter"), ("MailRouter$Reader", 113, ⟨"MailRouter", "setOf", "(I)I"⟩, "MailRouter"), ("MailRouter$Text", 55, ⟨"MailRouter", "isNameStart", "(I)Z"⟩, "MailRouter"), ("MailRouter$Text", 59, ⟨"MailRouter", "isNamePart", "(I)Z"⟩, "MailRouter"), ("MailRouter$Text", 25, ⟨"MailRouter", "nameByte", "(JI)I"⟩, "MailRouter"), ("MailRouter$Steps", 76, ⟨"MailRouter", "setOf", "(I)I"⟩, "MailRouter"), ("MailRouter$Steps", 25, ⟨"MailRouter", "holds", "(II)Z"⟩, "MailRouter"), ("MailRouter$Ways", 92, ⟨"MailRouter", "holds", "(II)Z"⟩, "MailRouter"), ("MailRouter$Printer", 100, ⟨"MailRouter", "nameByte", "(JI)I"⟩, "MailRouter")]
def cw_nestF : List (String × Nat × String × String × String × String) := [("MailRouter$Tokens", 94, "MailRouter", "RATES", "[LMailRouter$Rate;", "MailRouter")]
def cw_strs : List (String × Nat × String × Nat) := [("MailRouter$Reader", 87, "dead", 0), ("MailRouter$Reader", 93, "private", 1), ("MailRouter$Reader", 95, "gated", 2), ("MailRouter", 97, "n is not 1 to 8", 13), ("MailRouter", 108, "the tape is full", 14), ("MailRouter", 123, "there is no such file", 15), ("MailRouter", 134, "the text has a fault", 16), ("MailRouter", 165, "the sum has a fault", 17), ("MailRouter", 177, "the tape is not a name", 18), ("MailRouter", 257, "there is no such node", 19), ("MailRouter", 262, "there is no such place", 20)]
def cw_len : List Nat := [4, 7, 5, 5, 9, 6, 6, 6, 7, 5, 6, 4, 3]
def cw_byt : List (List Int32) := [[100, 101, 97, 100], [112, 114, 105, 118, 97, 116, 101], [103, 97, 116, 101, 100], [76, 79, 67, 65, 76], [68, 69, 68, 73, 67, 65, 84, 69, 68], [68, 73, 82, 69, 67, 84], [68, 69, 77, 65, 78, 68], [72, 79, 85, 82, 76, 89], [69, 86, 69, 78, 73, 78, 71], [68, 65, 73, 76, 89], [87, 69, 69, 75, 76, 89], [72, 73, 71, 72], [76, 79, 87]]
def cw_worth : List Int32 := [25, 95, 200, 300, 500, 1800, 5000, 30000, -5, 5]
def cw_iscd : Cond → Bool := fun w => match w with | .castable _ _ => true | .declares _ => true | _ => false
def cw_cd : List Cond := lw_tbl.filter cw_iscd
theorem cw_cd_warm {w : Cond} {s U : State} (hw : w ∈ cw_cd) (hW : s.WarmedH U.vm) (h : va_Nw w s) : va_Nw w U := by
  have h1 := (List.mem_filter.mp hw).2
  cases w <;> first | exact va_Nw.warmC hW h | exact va_Nw.warmD hW h | cases h1
/-- what is only read: words of nest mates, the rates, the texts, what a throw looks at -/
def cw_RO (x : cw_T) : ej_RO := fun A U H => (∀ w ∈ cw_nestM, va_Nw (.methodLinkNest w.1 w.2.1 w.2.2.1 w.2.2.2) U) ∧ (∀ w ∈ cw_nestF, va_Nw (.fieldLinkNest w.1 w.2.1 w.2.2.1 w.2.2.2.1 w.2.2.2.2.1 w.2.2.2.2.2) U) ∧ (∀ w ∈ cw_strs, vk_R w.1 w.2.1 w.2.2.1 (cw_k x w.2.2.2) U) ∧ (va_Z "MailRouter" "RATES" "[LMailRouter$Rate;" (.ref (cw_tR x)) A U H ∧ va_Z "java/lang/String" "COMPACT_STRINGS" "Z" (.int 1) A U H ∧ va_Zq "jdk/internal/util/Preconditions" "SIOOBE_FORMATTER" "Ljava/util/function/BiFunction;" A U H) ∧ va_T (.object "MailRouter$Rate") (cw_tR x) 10 (fun j => .ref (cw_e x j)) A U H ∧ va_Ef 10 "MailRouter$Rate" "letters" "Ljava/lang/String;" (fun i => .ref (cw_k x (3 + i))) (cw_e x) A U H ∧ va_Ef 10 "MailRouter$Rate" "worth" "I" (fun i => .int (cw_worth.getD i 0)) (cw_e x) A U H ∧ vk_S 13 cw_len cw_byt (cw_k x) (cw_v x) A U H ∧ vx_Zq Bundle.tN "UNASSIGNED_STACK" Bundle.steD A U H ∧ vx_Zq Bundle.tN "SUPPRESSED_SENTINEL" Bundle.listD A U H ∧ (∀ w ∈ cw_cd, va_Nw w U) ∧ va_Nc "java/lang/IllegalStateException" "java/lang/IllegalArgumentException" U ∧ (va_Nc "java/lang/IllegalStateException" "java/lang/IndexOutOfBoundsException" U ∧ va_Nc "java/lang/IllegalArgumentException" "java/lang/IndexOutOfBoundsException" U)
def cV (x : cw_T) : ej_V ej_S := (x.1, x.2.1, cw_W x.2.1 (cw_a x), cw_RO x)
def rV (x : cw_T) : ej_V ej_S := (x.1, x.2.1, rw_W x.2.1 (cw_a x), fun _ _ _ => True)
theorem cV_ok (x : cw_T) : ej_Vok (cV x) := by
  refine ⟨⟨fun A B U H h hAB => ?_, fun A u U H hW h => ?_, fun A U H H1 h hq => ?_⟩, fun σ σ' k => ?_⟩
  · obtain ⟨h1, h2, h3, h4, h5, h6, h7, h8, h9, h10, h11, h12, h13⟩ := h
    exact ⟨h1, h2, h3, ⟨h4.1.narrow hAB, h4.2.1.narrow hAB, h4.2.2.narrow hAB⟩, h5.narrow hAB, h6.narrow hAB, h7.narrow hAB, h8.narrow hAB, h9.narrow hAB, h10.narrow hAB, h11, h12, h13⟩
  · obtain ⟨h1, h2, h3, h4, h5, h6, h7, h8, h9, h10, h11, h12, h13⟩ := h
    exact ⟨fun w hw => va_Nw.warmM hW (h1 w hw), fun w hw => va_Nw.warmF hW (h2 w hw), fun w hw => vk_R.warm hW (h3 w hw), ⟨h4.1.moved hW.alike, h4.2.1.moved hW.alike, h4.2.2.moved hW.alike⟩, h5.moved hW.alike, h6.moved hW.alike, h7.moved hW.alike, h8.moved hW.alike, h9.moved hW.alike, h10.moved hW.alike, fun w hw => cw_cd_warm hw hW (h11 w hw), h12.moved hW.alike, ⟨h13.1.moved hW.alike, h13.2.moved hW.alike⟩⟩
  · obtain ⟨h1, h2, h3, h4, h5, h6, h7, h8, h9, h10, h11, h12, h13⟩ := h
    exact ⟨h1, h2, h3, ⟨h4.1.kept hq, h4.2.1.kept hq, h4.2.2.kept hq⟩, h5.kept hq, h6.kept hq, h7.kept hq, h8.kept hq, h9.kept hq, h10.kept hq, h11, h12, h13⟩
  · show ((cw_W _ _ σ)[k]?).map Prod.fst = ((cw_W _ _ σ')[k]?).map Prod.fst
    rw [← List.getElem?_map, ← List.getElem?_map]
    simp only [cw_W, List.map_append, List.map_map]
    rfl
theorem rV_ok (x : cw_T) : ej_Vok (rV x) := by
  refine ⟨⟨fun A B U H h hAB => trivial, fun A u U H hW h => trivial, fun A U H H1 h hq => trivial⟩, fun σ σ' k => ?_⟩
  show ((rw_W _ _ σ)[k]?).map Prod.fst = ((rw_W _ _ σ')[k]?).map Prod.fst
  rw [← List.getElem?_map, ← List.getElem?_map]
  rfl
