/-! texts that are only read: their lengths and letters -/
noncomputable def mJ0_length (n s : Nat) (σ : ej_S) : Option (Int32 × ej_S) := some (nI (cw_len.getD s 0), σ)
noncomputable def mJ0_charAt (n s : Nat) (a1 : Int32) (σ : ej_S) : Option (Int32 × ej_S) := ej_ck a1 (cw_len.getD s 0) (some ((cw_byt.getD s []).getD a1.toNatClampNeg 0, σ))
theorem cJ0_length (x : cw_T) (n s : Nat) (hs : s < 13) (σ : ej_S) : ∀ r σ1, mJ0_length n s σ = some (r, σ1) → ∀ l, ej_Con l (cV x) iJ0_length yJ0_length_8abf5 (some .int) [.ref (cw_k x s)] σ (some (.int r)) σ1 := sorry
theorem cJ0_charAt (x : cw_T) (n s : Nat) (hs : s < 13) (a1 : Int32) (σ : ej_S) : ∀ r σ1, mJ0_charAt n s a1 σ = some (r, σ1) → ∀ l, ej_Con l (cV x) iJ0_charAt yJ0_charAt_5068e (some .char) [.ref (cw_k x s), .int a1] σ (some (.int r)) σ1 := sorry
