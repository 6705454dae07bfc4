/-! WHAT READING KEEPS: a fault told before (made by mkkeep.py) -/
def Kp (σ0 s : ej_S) : Prop := gI s 10 = gI σ0 10 ∧ gI s 11 = gI σ0 11
def KA {α : Type} (σ0 : ej_S) (X : Option (α × ej_S)) : Prop := ∀ r s, X = some (r, s) → Kp σ0 s
def KV (σ0 : ej_S) (X : Option ej_S) : Prop := ∀ s, X = some s → Kp σ0 s
def KO (σ0 : ej_S) (X : Option (Int32 × ej_S)) : Prop := ∀ r s, X = some (r, s) → r = 0 ∨ Kp σ0 s
section P94
variable {α β : Type} {σ0 σ s : ej_S}
theorem Kp_rf : Kp σ σ := ⟨rfl, rfl⟩
theorem Kp_uI {k : Nat} {v : Int32} (h : Kp σ0 s) (h1 : 10 ≠ k) (h2 : 11 ≠ k) : Kp σ0 (uI s k v) := ⟨by rw [s_II_n h1]; exact h.1, by rw [s_II_n h2]; exact h.2⟩
theorem Kp_uA {k i : Nat} {v : Int32} (h : Kp σ0 s) : Kp σ0 (uA s k i v) := h
theorem Kp_uB {k i : Nat} {v : Int64} (h : Kp σ0 s) : Kp σ0 (uB s k i v) := h
theorem Kp_uM {k i j : Nat} {v : Int32} (h : Kp σ0 s) : Kp σ0 (uM s k i j v) := h
theorem Kp_uJ {k : Nat} {v : Int64} (h : Kp σ0 s) : Kp σ0 (uJ s k v) := h
theorem KA_ret {r : α} (h : Kp σ0 s) : KA σ0 (some (r, s)) := fun _ _ e => by cases e; exact h
theorem KV_ret (h : Kp σ0 s) : KV σ0 (some s) := fun _ e => by cases e; exact h
theorem KO_ret {r : Int32} (h : Kp σ0 s) : KO σ0 (some (r, s)) := fun _ _ e => .inr (by cases e; exact h)
theorem KO_0 : KO σ0 (some (0, s)) := fun _ _ e => .inl (by cases e; rfl)
theorem KA_none : KA σ0 (none : Option (α × ej_S)) := fun _ _ e => by cases e
theorem KV_none : KV σ0 none := fun _ e => by cases e
theorem KO_none : KO σ0 none := fun _ _ e => by cases e
theorem KO_A {X : Option (Int32 × ej_S)} (h : KA σ0 X) : KO σ0 X := fun r s e => .inr (h r s e)

theorem KA_ite {c : Prop} [Decidable c] {x y : Option (α × ej_S)} (h1 : c → KA σ0 x) (h2 : ¬ c → KA σ0 y) : KA σ0 (if c then x else y) := by
  split
  · rename_i h; exact h1 h
  · rename_i h; exact h2 h
theorem KA_ck {i : Int32} {n : Nat} {x : Option (α × ej_S)} (h : KA σ0 x) : KA σ0 (ej_ck i n x) := by
  unfold ej_ck
  split
  · exact KA_none
  · exact h
theorem KA_dvl {i : Int64} {x : Option (α × ej_S)} (h : KA σ0 x) : KA σ0 (ej_dvl i x) := by
  unfold ej_dvl
  split
  · exact KA_none
  · exact h
theorem KA_nmS {v : ej_S} {k : ej_S → Option (α × ej_S)} (h : Kp σ0 v) (hk : ∀ s, Kp σ0 s → KA σ0 (k s)) : KA σ0 (ej_nm v k) := hk v h
theorem KA_nmV {γ : Type} {v : γ} {k : γ → Option (α × ej_S)} (hk : ∀ x, KA σ0 (k x)) : KA σ0 (ej_nm v k) := hk v
theorem KA_bi {m : Option (Int32 × ej_S)} {k : Int32 → ej_S → Option (α × ej_S)} (h : KA σ0 m) (hk : ∀ r s, Kp σ0 s → KA σ0 (k r s)) : KA σ0 (ej_bi m k) := by
  unfold ej_bi
  split
  · exact KA_none
  · rename_i q; exact hk q.1 q.2 (h q.1 q.2 rfl)
theorem KA_bl {m : Option (Int64 × ej_S)} {k : Int64 → ej_S → Option (α × ej_S)} (h : KA σ0 m) (hk : ∀ r s, Kp σ0 s → KA σ0 (k r s)) : KA σ0 (ej_bl m k) := by
  unfold ej_bl
  split
  · exact KA_none
  · rename_i q; exact hk q.1 q.2 (h q.1 q.2 rfl)
theorem KA_bv {m : Option ej_S} {k : ej_S → Option (α × ej_S)} (h : KV σ0 m) (hk : ∀ s, Kp σ0 s → KA σ0 (k s)) : KA σ0 (ej_bv m k) := by
  unfold ej_bv
  split
  · exact KA_none
  · rename_i q; exact hk q (h q rfl)
theorem KV_ite {c : Prop} [Decidable c] {x y : Option ej_S} (h1 : c → KV σ0 x) (h2 : ¬ c → KV σ0 y) : KV σ0 (if c then x else y) := by
  split
  · rename_i h; exact h1 h
  · rename_i h; exact h2 h
theorem KV_ck {i : Int32} {n : Nat} {x : Option ej_S} (h : KV σ0 x) : KV σ0 (ej_ck i n x) := by
  unfold ej_ck
  split
  · exact KV_none
  · exact h
theorem KV_dvl {i : Int64} {x : Option ej_S} (h : KV σ0 x) : KV σ0 (ej_dvl i x) := by
  unfold ej_dvl
  split
  · exact KV_none
  · exact h
theorem KV_nmS {v : ej_S} {k : ej_S → Option ej_S} (h : Kp σ0 v) (hk : ∀ s, Kp σ0 s → KV σ0 (k s)) : KV σ0 (ej_nm v k) := hk v h
theorem KV_nmV {γ : Type} {v : γ} {k : γ → Option ej_S} (hk : ∀ x, KV σ0 (k x)) : KV σ0 (ej_nm v k) := hk v
theorem KV_bi {m : Option (Int32 × ej_S)} {k : Int32 → ej_S → Option ej_S} (h : KA σ0 m) (hk : ∀ r s, Kp σ0 s → KV σ0 (k r s)) : KV σ0 (ej_bi m k) := by
  unfold ej_bi
  split
  · exact KV_none
  · rename_i q; exact hk q.1 q.2 (h q.1 q.2 rfl)
theorem KV_bl {m : Option (Int64 × ej_S)} {k : Int64 → ej_S → Option ej_S} (h : KA σ0 m) (hk : ∀ r s, Kp σ0 s → KV σ0 (k r s)) : KV σ0 (ej_bl m k) := by
  unfold ej_bl
  split
  · exact KV_none
  · rename_i q; exact hk q.1 q.2 (h q.1 q.2 rfl)
theorem KV_bv {m : Option ej_S} {k : ej_S → Option ej_S} (h : KV σ0 m) (hk : ∀ s, Kp σ0 s → KV σ0 (k s)) : KV σ0 (ej_bv m k) := by
  unfold ej_bv
  split
  · exact KV_none
  · rename_i q; exact hk q (h q rfl)
theorem KO_ite {c : Prop} [Decidable c] {x y : Option (Int32 × ej_S)} (h1 : c → KO σ0 x) (h2 : ¬ c → KO σ0 y) : KO σ0 (if c then x else y) := by
  split
  · rename_i h; exact h1 h
  · rename_i h; exact h2 h
theorem KO_ck {i : Int32} {n : Nat} {x : Option (Int32 × ej_S)} (h : KO σ0 x) : KO σ0 (ej_ck i n x) := by
  unfold ej_ck
  split
  · exact KO_none
  · exact h
theorem KO_dvl {i : Int64} {x : Option (Int32 × ej_S)} (h : KO σ0 x) : KO σ0 (ej_dvl i x) := by
  unfold ej_dvl
  split
  · exact KO_none
  · exact h
theorem KO_nmS {v : ej_S} {k : ej_S → Option (Int32 × ej_S)} (h : Kp σ0 v) (hk : ∀ s, Kp σ0 s → KO σ0 (k s)) : KO σ0 (ej_nm v k) := hk v h
theorem KO_nmV {γ : Type} {v : γ} {k : γ → Option (Int32 × ej_S)} (hk : ∀ x, KO σ0 (k x)) : KO σ0 (ej_nm v k) := hk v
theorem KO_bi {m : Option (Int32 × ej_S)} {k : Int32 → ej_S → Option (Int32 × ej_S)} (h : KA σ0 m) (hk : ∀ r s, Kp σ0 s → KO σ0 (k r s)) : KO σ0 (ej_bi m k) := by
  unfold ej_bi
  split
  · exact KO_none
  · rename_i q; exact hk q.1 q.2 (h q.1 q.2 rfl)
theorem KO_bl {m : Option (Int64 × ej_S)} {k : Int64 → ej_S → Option (Int32 × ej_S)} (h : KA σ0 m) (hk : ∀ r s, Kp σ0 s → KO σ0 (k r s)) : KO σ0 (ej_bl m k) := by
  unfold ej_bl
  split
  · exact KO_none
  · rename_i q; exact hk q.1 q.2 (h q.1 q.2 rfl)
theorem KO_bv {m : Option ej_S} {k : ej_S → Option (Int32 × ej_S)} (h : KV σ0 m) (hk : ∀ s, Kp σ0 s → KO σ0 (k s)) : KO σ0 (ej_bv m k) := by
  unfold ej_bv
  split
  · exact KO_none
  · rename_i q; exact hk q (h q rfl)
theorem KO_bi2 {m : Option (Int32 × ej_S)} {k : Int32 → ej_S → Option (Int32 × ej_S)} (h : KO σ0 m) (h0 : ∀ s, KO σ0 (k 0 s)) (hk : ∀ r s, Kp σ0 s → KO σ0 (k r s)) : KO σ0 (ej_bi m k) := by
  unfold ej_bi
  split
  · exact KO_none
  · rename_i q
    rcases h q.1 q.2 rfl with z | z
    · rw [z]; exact h0 q.2
    · exact hk q.1 q.2 z
theorem KO_tell {n : Nat} {a b : Int32} : KO σ0 (ej_bi (m1_tell n a b s) fun r s => some (ej_bz r, s)) := by
  unfold m1_tell
  rw [ej_nm_e, ej_nm_e, ej_bi_s, bz_0]
  exact KO_0
theorem mis_0 {n : Nat} : ∀ r s', m4_misplaced n s = some (r, s') → r = 0 := by
  intro r s' e
  unfold m4_misplaced m1_tell at e
  cases hb : m8_beginAt n (gI s 30) s with
  | none => rw [hb] at e; cases e
  | some q =>
    rw [hb] at e
    have e := congrArg Prod.fst (Option.some.inj e)
    rw [← e]
    exact bz_0
theorem KO_mis1 {n : Nat} {k : Int32 → ej_S → Option (Int32 × ej_S)} (h0 : ∀ s, KO σ0 (k 0 s)) : KO σ0 (ej_bi (m4_misplaced n s) k) := by
  cases hb : m4_misplaced n s with
  | none => exact KO_none
  | some q =>
    have := mis_0 q.1 q.2 hb
    show KO σ0 (k q.1 q.2)
    rw [this]; exact h0 q.2
theorem KO_bz0 : KO σ0 (some (ej_bz 0, s)) := by rw [bz_0]; exact KO_0
theorem k_mJ3_checkIndex {i : Int32} {k : Int32} (h : Kp σ0 s) : KA σ0 (mJ3_checkIndex i k s) := by
  unfold mJ3_checkIndex
  repeat' (with_reducible first
    | exact KA_ret (by repeat' (with_reducible first | assumption | (refine Kp_uI ?_ (by decide) (by decide)) | refine Kp_uA ?_ | refine Kp_uB ?_ | refine Kp_uM ?_ | refine Kp_uJ ?_))
    | refine KA_ite (fun _ => ?_) (fun _ => ?_)
    | refine KA_ck ?_
    | refine KA_dvl ?_
    | refine KA_nmS (by repeat' (with_reducible first | assumption | (refine Kp_uI ?_ (by decide) (by decide)) | refine Kp_uA ?_ | refine Kp_uB ?_ | refine Kp_uM ?_ | refine Kp_uJ ?_)) (fun _ _ => ?_)
    | refine KA_nmV (fun _ => ?_)
    | (rw [if_pos rfl]))
theorem k_mJ0_checkIndex {i : Int32} {k : Int32} (h : Kp σ0 s) : KV σ0 (mJ0_checkIndex i k s) := by
  unfold mJ0_checkIndex
  repeat' (with_reducible first
    | exact KV_ret (by repeat' (with_reducible first | assumption | (refine Kp_uI ?_ (by decide) (by decide)) | refine Kp_uA ?_ | refine Kp_uB ?_ | refine Kp_uM ?_ | refine Kp_uJ ?_))
    | refine KV_bi (k_mJ3_checkIndex (by repeat' (with_reducible first | assumption | (refine Kp_uI ?_ (by decide) (by decide)) | refine Kp_uA ?_ | refine Kp_uB ?_ | refine Kp_uM ?_ | refine Kp_uJ ?_))) (fun _ _ _ => ?_)
    | refine KV_bl (k_mJ3_checkIndex (by repeat' (with_reducible first | assumption | (refine Kp_uI ?_ (by decide) (by decide)) | refine Kp_uA ?_ | refine Kp_uB ?_ | refine Kp_uM ?_ | refine Kp_uJ ?_))) (fun _ _ _ => ?_)
    | refine KV_ite (fun _ => ?_) (fun _ => ?_)
    | refine KV_ck ?_
    | refine KV_dvl ?_
    | refine KV_nmS (by repeat' (with_reducible first | assumption | (refine Kp_uI ?_ (by decide) (by decide)) | refine Kp_uA ?_ | refine Kp_uB ?_ | refine Kp_uM ?_ | refine Kp_uJ ?_)) (fun _ _ => ?_)
    | refine KV_nmV (fun _ => ?_)
    | (rw [if_pos rfl]))
theorem k_mJ1_charAt {s : Nat} {i : Int32} (h : Kp σ0 s) : KA σ0 (mJ1_charAt s i s) := by
  unfold mJ1_charAt
  repeat' (with_reducible first
    | exact KA_ret (by repeat' (with_reducible first | assumption | (refine Kp_uI ?_ (by decide) (by decide)) | refine Kp_uA ?_ | refine Kp_uB ?_ | refine Kp_uM ?_ | refine Kp_uJ ?_))
    | refine KA_bv (k_mJ0_checkIndex (by repeat' (with_reducible first | assumption | (refine Kp_uI ?_ (by decide) (by decide)) | refine Kp_uA ?_ | refine Kp_uB ?_ | refine Kp_uM ?_ | refine Kp_uJ ?_))) (fun _ _ => ?_)
    | refine KA_ite (fun _ => ?_) (fun _ => ?_)
    | refine KA_ck ?_
    | refine KA_dvl ?_
    | refine KA_nmS (by repeat' (with_reducible first | assumption | (refine Kp_uI ?_ (by decide) (by decide)) | refine Kp_uA ?_ | refine Kp_uB ?_ | refine Kp_uM ?_ | refine Kp_uJ ?_)) (fun _ _ => ?_)
    | refine KA_nmV (fun _ => ?_)
    | (rw [if_pos rfl]))
theorem k_mJ0_length {n : Nat} {s : Nat} (h : Kp σ0 s) : KA σ0 (mJ0_length n s s) := by
  unfold mJ0_length
  repeat' (with_reducible first
    | exact KA_ret (by repeat' (with_reducible first | assumption | (refine Kp_uI ?_ (by decide) (by decide)) | refine Kp_uA ?_ | refine Kp_uB ?_ | refine Kp_uM ?_ | refine Kp_uJ ?_))
    | refine KA_ite (fun _ => ?_) (fun _ => ?_)
    | refine KA_ck ?_
    | refine KA_dvl ?_
    | refine KA_nmS (by repeat' (with_reducible first | assumption | (refine Kp_uI ?_ (by decide) (by decide)) | refine Kp_uA ?_ | refine Kp_uB ?_ | refine Kp_uM ?_ | refine Kp_uJ ?_)) (fun _ _ => ?_)
    | refine KA_nmV (fun _ => ?_)
    | (rw [if_pos rfl]))
theorem k_mJ0_charAt {n : Nat} {s : Nat} {a1 : Int32} (h : Kp σ0 s) : KA σ0 (mJ0_charAt n s a1 s) := by
  unfold mJ0_charAt
  repeat' (with_reducible first
    | exact KA_ret (by repeat' (with_reducible first | assumption | (refine Kp_uI ?_ (by decide) (by decide)) | refine Kp_uA ?_ | refine Kp_uB ?_ | refine Kp_uM ?_ | refine Kp_uJ ?_))
    | exact k_mJ1_charAt (by repeat' (with_reducible first | assumption | (refine Kp_uI ?_ (by decide) (by decide)) | refine Kp_uA ?_ | refine Kp_uB ?_ | refine Kp_uM ?_ | refine Kp_uJ ?_))
    | refine KA_bi (k_mJ1_charAt (by repeat' (with_reducible first | assumption | (refine Kp_uI ?_ (by decide) (by decide)) | refine Kp_uA ?_ | refine Kp_uB ?_ | refine Kp_uM ?_ | refine Kp_uJ ?_))) (fun _ _ _ => ?_)
    | refine KA_bl (k_mJ1_charAt (by repeat' (with_reducible first | assumption | (refine Kp_uI ?_ (by decide) (by decide)) | refine Kp_uA ?_ | refine Kp_uB ?_ | refine Kp_uM ?_ | refine Kp_uJ ?_))) (fun _ _ _ => ?_)
    | refine KA_ite (fun _ => ?_) (fun _ => ?_)
    | refine KA_ck ?_
    | refine KA_dvl ?_
    | refine KA_nmS (by repeat' (with_reducible first | assumption | (refine Kp_uI ?_ (by decide) (by decide)) | refine Kp_uA ?_ | refine Kp_uB ?_ | refine Kp_uM ?_ | refine Kp_uJ ?_)) (fun _ _ => ?_)
    | refine KA_nmV (fun _ => ?_)
    | (rw [if_pos rfl]))
theorem k_m7_length {n : Nat} {t : Nat} (h : Kp σ0 s) : KA σ0 (m7_length n t s) := by
  unfold m7_length
  repeat' (with_reducible first
    | exact KA_ret (by repeat' (with_reducible first | assumption | (refine Kp_uI ?_ (by decide) (by decide)) | refine Kp_uA ?_ | refine Kp_uB ?_ | refine Kp_uM ?_ | refine Kp_uJ ?_))
    | refine KA_ite (fun _ => ?_) (fun _ => ?_)
    | refine KA_ck ?_
    | refine KA_dvl ?_
    | refine KA_nmS (by repeat' (with_reducible first | assumption | (refine Kp_uI ?_ (by decide) (by decide)) | refine Kp_uA ?_ | refine Kp_uB ?_ | refine Kp_uM ?_ | refine Kp_uJ ?_)) (fun _ _ => ?_)
    | refine KA_nmV (fun _ => ?_)
    | (rw [if_pos rfl]))
theorem k_m7_byteAt {n : Nat} {t : Nat} {a1 : Int32} (h : Kp σ0 s) : KA σ0 (m7_byteAt n t a1 s) := by
  unfold m7_byteAt
  repeat' (with_reducible first
    | exact KA_ret (by repeat' (with_reducible first | assumption | (refine Kp_uI ?_ (by decide) (by decide)) | refine Kp_uA ?_ | refine Kp_uB ?_ | refine Kp_uM ?_ | refine Kp_uJ ?_))
    | refine KA_ite (fun _ => ?_) (fun _ => ?_)
    | refine KA_ck ?_
    | refine KA_dvl ?_
    | refine KA_nmS (by repeat' (with_reducible first | assumption | (refine Kp_uI ?_ (by decide) (by decide)) | refine Kp_uA ?_ | refine Kp_uB ?_ | refine Kp_uM ?_ | refine Kp_uJ ?_)) (fun _ _ => ?_)
    | refine KA_nmV (fun _ => ?_)
    | (rw [if_pos rfl]))
theorem k_m7_spells_15_l {n : Nat} {t : Nat} {t3 : Nat} : ∀ (k : Nat) (y3 : Int32) (y4 : Int32) (s : ej_S), Kp σ0 s → KA σ0 (m7_spells_15 n t t3 k y3 y4 s) := by
  intro k
  induction k with
  | zero => intros; exact KA_none
  | succ k ih =>
  intro y3 y4 s hs
  rw [u_7_spells_15]
  repeat' (with_reducible first
    | exact KA_ret (by repeat' (with_reducible first | assumption | (refine Kp_uI ?_ (by decide) (by decide)) | refine Kp_uA ?_ | refine Kp_uB ?_ | refine Kp_uM ?_ | refine Kp_uJ ?_))
    | exact k_m7_byteAt (by repeat' (with_reducible first | assumption | (refine Kp_uI ?_ (by decide) (by decide)) | refine Kp_uA ?_ | refine Kp_uB ?_ | refine Kp_uM ?_ | refine Kp_uJ ?_))
    | refine KA_bi (k_m7_byteAt (by repeat' (with_reducible first | assumption | (refine Kp_uI ?_ (by decide) (by decide)) | refine Kp_uA ?_ | refine Kp_uB ?_ | refine Kp_uM ?_ | refine Kp_uJ ?_))) (fun _ _ _ => ?_)
    | refine KA_bl (k_m7_byteAt (by repeat' (with_reducible first | assumption | (refine Kp_uI ?_ (by decide) (by decide)) | refine Kp_uA ?_ | refine Kp_uB ?_ | refine Kp_uM ?_ | refine Kp_uJ ?_))) (fun _ _ _ => ?_)
    | exact k_mJ0_charAt (by repeat' (with_reducible first | assumption | (refine Kp_uI ?_ (by decide) (by decide)) | refine Kp_uA ?_ | refine Kp_uB ?_ | refine Kp_uM ?_ | refine Kp_uJ ?_))
    | refine KA_bi (k_mJ0_charAt (by repeat' (with_reducible first | assumption | (refine Kp_uI ?_ (by decide) (by decide)) | refine Kp_uA ?_ | refine Kp_uB ?_ | refine Kp_uM ?_ | refine Kp_uJ ?_))) (fun _ _ _ => ?_)
    | refine KA_bl (k_mJ0_charAt (by repeat' (with_reducible first | assumption | (refine Kp_uI ?_ (by decide) (by decide)) | refine Kp_uA ?_ | refine Kp_uB ?_ | refine Kp_uM ?_ | refine Kp_uJ ?_))) (fun _ _ _ => ?_)
    | exact k_mJ0_length (by repeat' (with_reducible first | assumption | (refine Kp_uI ?_ (by decide) (by decide)) | refine Kp_uA ?_ | refine Kp_uB ?_ | refine Kp_uM ?_ | refine Kp_uJ ?_))
    | refine KA_bi (k_mJ0_length (by repeat' (with_reducible first | assumption | (refine Kp_uI ?_ (by decide) (by decide)) | refine Kp_uA ?_ | refine Kp_uB ?_ | refine Kp_uM ?_ | refine Kp_uJ ?_))) (fun _ _ _ => ?_)
    | refine KA_bl (k_mJ0_length (by repeat' (with_reducible first | assumption | (refine Kp_uI ?_ (by decide) (by decide)) | refine Kp_uA ?_ | refine Kp_uB ?_ | refine Kp_uM ?_ | refine Kp_uJ ?_))) (fun _ _ _ => ?_)
    | exact ih _ _ _ (by repeat' (with_reducible first | assumption | (refine Kp_uI ?_ (by decide) (by decide)) | refine Kp_uA ?_ | refine Kp_uB ?_ | refine Kp_uM ?_ | refine Kp_uJ ?_))
    | refine KA_ite (fun _ => ?_) (fun _ => ?_)
    | refine KA_ck ?_
    | refine KA_dvl ?_
    | refine KA_nmS (by repeat' (with_reducible first | assumption | (refine Kp_uI ?_ (by decide) (by decide)) | refine Kp_uA ?_ | refine Kp_uB ?_ | refine Kp_uM ?_ | refine Kp_uJ ?_)) (fun _ _ => ?_)
    | refine KA_nmV (fun _ => ?_)
    | (rw [if_pos rfl]))
theorem k_m7_spells_15 {n : Nat} {t : Nat} {t3 : Nat} {k : Nat} {y3 : Int32} {y4 : Int32} (h : Kp σ0 s) : KA σ0 (m7_spells_15 n t t3 k y3 y4 s) := k_m7_spells_15_l k y3 y4 s h
theorem k_m7_spells {n : Nat} {t : Nat} {t3 : Nat} {a1 : Int32} {a2 : Int32} (h : Kp σ0 s) : KA σ0 (m7_spells n t t3 a1 a2 s) := by
  unfold m7_spells
  repeat' (with_reducible first
    | exact KA_ret (by repeat' (with_reducible first | assumption | (refine Kp_uI ?_ (by decide) (by decide)) | refine Kp_uA ?_ | refine Kp_uB ?_ | refine Kp_uM ?_ | refine Kp_uJ ?_))
    | exact k_m7_spells_15 (by repeat' (with_reducible first | assumption | (refine Kp_uI ?_ (by decide) (by decide)) | refine Kp_uA ?_ | refine Kp_uB ?_ | refine Kp_uM ?_ | refine Kp_uJ ?_))
    | refine KA_bi (k_m7_spells_15 (by repeat' (with_reducible first | assumption | (refine Kp_uI ?_ (by decide) (by decide)) | refine Kp_uA ?_ | refine Kp_uB ?_ | refine Kp_uM ?_ | refine Kp_uJ ?_))) (fun _ _ _ => ?_)
    | refine KA_bl (k_m7_spells_15 (by repeat' (with_reducible first | assumption | (refine Kp_uI ?_ (by decide) (by decide)) | refine Kp_uA ?_ | refine Kp_uB ?_ | refine Kp_uM ?_ | refine Kp_uJ ?_))) (fun _ _ _ => ?_)
    | exact k_mJ0_length (by repeat' (with_reducible first | assumption | (refine Kp_uI ?_ (by decide) (by decide)) | refine Kp_uA ?_ | refine Kp_uB ?_ | refine Kp_uM ?_ | refine Kp_uJ ?_))
    | refine KA_bi (k_mJ0_length (by repeat' (with_reducible first | assumption | (refine Kp_uI ?_ (by decide) (by decide)) | refine Kp_uA ?_ | refine Kp_uB ?_ | refine Kp_uM ?_ | refine Kp_uJ ?_))) (fun _ _ _ => ?_)
    | refine KA_bl (k_mJ0_length (by repeat' (with_reducible first | assumption | (refine Kp_uI ?_ (by decide) (by decide)) | refine Kp_uA ?_ | refine Kp_uB ?_ | refine Kp_uM ?_ | refine Kp_uJ ?_))) (fun _ _ _ => ?_)
    | refine KA_ite (fun _ => ?_) (fun _ => ?_)
    | refine KA_ck ?_
    | refine KA_dvl ?_
    | refine KA_nmS (by repeat' (with_reducible first | assumption | (refine Kp_uI ?_ (by decide) (by decide)) | refine Kp_uA ?_ | refine Kp_uB ?_ | refine Kp_uM ?_ | refine Kp_uJ ?_)) (fun _ _ => ?_)
    | refine KA_nmV (fun _ => ?_)
    | (rw [if_pos rfl]))
theorem k_m10_holds {n : Nat} {a1 : Int32} {a2 : Int32} (h : Kp σ0 s) : KA σ0 (m10_holds n a1 a2 s) := by
  unfold m10_holds
  repeat' (with_reducible first
    | exact KA_ret (by repeat' (with_reducible first | assumption | (refine Kp_uI ?_ (by decide) (by decide)) | refine Kp_uA ?_ | refine Kp_uB ?_ | refine Kp_uM ?_ | refine Kp_uJ ?_))
    | refine KA_ite (fun _ => ?_) (fun _ => ?_)
    | refine KA_ck ?_
    | refine KA_dvl ?_
    | refine KA_nmS (by repeat' (with_reducible first | assumption | (refine Kp_uI ?_ (by decide) (by decide)) | refine Kp_uA ?_ | refine Kp_uB ?_ | refine Kp_uM ?_ | refine Kp_uJ ?_)) (fun _ _ => ?_)
    | refine KA_nmV (fun _ => ?_)
    | (rw [if_pos rfl]))
theorem k_m10_setOf {n : Nat} {a1 : Int32} (h : Kp σ0 s) : KA σ0 (m10_setOf n a1 s) := by
  unfold m10_setOf
  repeat' (with_reducible first
    | exact KA_ret (by repeat' (with_reducible first | assumption | (refine Kp_uI ?_ (by decide) (by decide)) | refine Kp_uA ?_ | refine Kp_uB ?_ | refine Kp_uM ?_ | refine Kp_uJ ?_))
    | refine KA_ite (fun _ => ?_) (fun _ => ?_)
    | refine KA_ck ?_
    | refine KA_dvl ?_
    | refine KA_nmS (by repeat' (with_reducible first | assumption | (refine Kp_uI ?_ (by decide) (by decide)) | refine Kp_uA ?_ | refine Kp_uB ?_ | refine Kp_uM ?_ | refine Kp_uJ ?_)) (fun _ _ => ?_)
    | refine KA_nmV (fun _ => ?_)
    | (rw [if_pos rfl]))
theorem k_m10_nameByte {n : Nat} {a1 : Int64} {a2 : Int32} (h : Kp σ0 s) : KA σ0 (m10_nameByte n a1 a2 s) := by
  unfold m10_nameByte
  repeat' (with_reducible first
    | exact KA_ret (by repeat' (with_reducible first | assumption | (refine Kp_uI ?_ (by decide) (by decide)) | refine Kp_uA ?_ | refine Kp_uB ?_ | refine Kp_uM ?_ | refine Kp_uJ ?_))
    | refine KA_ite (fun _ => ?_) (fun _ => ?_)
    | refine KA_ck ?_
    | refine KA_dvl ?_
    | refine KA_nmS (by repeat' (with_reducible first | assumption | (refine Kp_uI ?_ (by decide) (by decide)) | refine Kp_uA ?_ | refine Kp_uB ?_ | refine Kp_uM ?_ | refine Kp_uJ ?_)) (fun _ _ => ?_)
    | refine KA_nmV (fun _ => ?_)
    | (rw [if_pos rfl]))
theorem k_m8_sortAt {n : Nat} {a1 : Int32} (h : Kp σ0 s) : KA σ0 (m8_sortAt n a1 s) := by
  unfold m8_sortAt
  repeat' (with_reducible first
    | exact KA_ret (by repeat' (with_reducible first | assumption | (refine Kp_uI ?_ (by decide) (by decide)) | refine Kp_uA ?_ | refine Kp_uB ?_ | refine Kp_uM ?_ | refine Kp_uJ ?_))
    | refine KA_ite (fun _ => ?_) (fun _ => ?_)
    | refine KA_ck ?_
    | refine KA_dvl ?_
    | refine KA_nmS (by repeat' (with_reducible first | assumption | (refine Kp_uI ?_ (by decide) (by decide)) | refine Kp_uA ?_ | refine Kp_uB ?_ | refine Kp_uM ?_ | refine Kp_uJ ?_)) (fun _ _ => ?_)
    | refine KA_nmV (fun _ => ?_)
    | (rw [if_pos rfl]))
theorem k_m8_beginAt {n : Nat} {a1 : Int32} (h : Kp σ0 s) : KA σ0 (m8_beginAt n a1 s) := by
  unfold m8_beginAt
  repeat' (with_reducible first
    | exact KA_ret (by repeat' (with_reducible first | assumption | (refine Kp_uI ?_ (by decide) (by decide)) | refine Kp_uA ?_ | refine Kp_uB ?_ | refine Kp_uM ?_ | refine Kp_uJ ?_))
    | exact k_m7_length (by repeat' (with_reducible first | assumption | (refine Kp_uI ?_ (by decide) (by decide)) | refine Kp_uA ?_ | refine Kp_uB ?_ | refine Kp_uM ?_ | refine Kp_uJ ?_))
    | refine KA_bi (k_m7_length (by repeat' (with_reducible first | assumption | (refine Kp_uI ?_ (by decide) (by decide)) | refine Kp_uA ?_ | refine Kp_uB ?_ | refine Kp_uM ?_ | refine Kp_uJ ?_))) (fun _ _ _ => ?_)
    | refine KA_bl (k_m7_length (by repeat' (with_reducible first | assumption | (refine Kp_uI ?_ (by decide) (by decide)) | refine Kp_uA ?_ | refine Kp_uB ?_ | refine Kp_uM ?_ | refine Kp_uJ ?_))) (fun _ _ _ => ?_)
    | refine KA_ite (fun _ => ?_) (fun _ => ?_)
    | refine KA_ck ?_
    | refine KA_dvl ?_
    | refine KA_nmS (by repeat' (with_reducible first | assumption | (refine Kp_uI ?_ (by decide) (by decide)) | refine Kp_uA ?_ | refine Kp_uB ?_ | refine Kp_uM ?_ | refine Kp_uJ ?_)) (fun _ _ => ?_)
    | refine KA_nmV (fun _ => ?_)
    | (rw [if_pos rfl]))
theorem k_m8_lengthAt {n : Nat} {a1 : Int32} (h : Kp σ0 s) : KA σ0 (m8_lengthAt n a1 s) := by
  unfold m8_lengthAt
  repeat' (with_reducible first
    | exact KA_ret (by repeat' (with_reducible first | assumption | (refine Kp_uI ?_ (by decide) (by decide)) | refine Kp_uA ?_ | refine Kp_uB ?_ | refine Kp_uM ?_ | refine Kp_uJ ?_))
    | refine KA_ite (fun _ => ?_) (fun _ => ?_)
    | refine KA_ck ?_
    | refine KA_dvl ?_
    | refine KA_nmS (by repeat' (with_reducible first | assumption | (refine Kp_uI ?_ (by decide) (by decide)) | refine Kp_uA ?_ | refine Kp_uB ?_ | refine Kp_uM ?_ | refine Kp_uJ ?_)) (fun _ _ => ?_)
    | refine KA_nmV (fun _ => ?_)
    | (rw [if_pos rfl]))
theorem k_m8_isAt {n : Nat} {t2 : Nat} {a1 : Int32} (h : Kp σ0 s) : KA σ0 (m8_isAt n t2 a1 s) := by
  unfold m8_isAt
  repeat' (with_reducible first
    | exact KA_ret (by repeat' (with_reducible first | assumption | (refine Kp_uI ?_ (by decide) (by decide)) | refine Kp_uA ?_ | refine Kp_uB ?_ | refine Kp_uM ?_ | refine Kp_uJ ?_))
    | exact k_m7_spells (by repeat' (with_reducible first | assumption | (refine Kp_uI ?_ (by decide) (by decide)) | refine Kp_uA ?_ | refine Kp_uB ?_ | refine Kp_uM ?_ | refine Kp_uJ ?_))
    | refine KA_bi (k_m7_spells (by repeat' (with_reducible first | assumption | (refine Kp_uI ?_ (by decide) (by decide)) | refine Kp_uA ?_ | refine Kp_uB ?_ | refine Kp_uM ?_ | refine Kp_uJ ?_))) (fun _ _ _ => ?_)
    | refine KA_bl (k_m7_spells (by repeat' (with_reducible first | assumption | (refine Kp_uI ?_ (by decide) (by decide)) | refine Kp_uA ?_ | refine Kp_uB ?_ | refine Kp_uM ?_ | refine Kp_uJ ?_))) (fun _ _ _ => ?_)
    | exact k_m8_beginAt (by repeat' (with_reducible first | assumption | (refine Kp_uI ?_ (by decide) (by decide)) | refine Kp_uA ?_ | refine Kp_uB ?_ | refine Kp_uM ?_ | refine Kp_uJ ?_))
    | refine KA_bi (k_m8_beginAt (by repeat' (with_reducible first | assumption | (refine Kp_uI ?_ (by decide) (by decide)) | refine Kp_uA ?_ | refine Kp_uB ?_ | refine Kp_uM ?_ | refine Kp_uJ ?_))) (fun _ _ _ => ?_)
    | refine KA_bl (k_m8_beginAt (by repeat' (with_reducible first | assumption | (refine Kp_uI ?_ (by decide) (by decide)) | refine Kp_uA ?_ | refine Kp_uB ?_ | refine Kp_uM ?_ | refine Kp_uJ ?_))) (fun _ _ _ => ?_)
    | exact k_m8_lengthAt (by repeat' (with_reducible first | assumption | (refine Kp_uI ?_ (by decide) (by decide)) | refine Kp_uA ?_ | refine Kp_uB ?_ | refine Kp_uM ?_ | refine Kp_uJ ?_))
    | refine KA_bi (k_m8_lengthAt (by repeat' (with_reducible first | assumption | (refine Kp_uI ?_ (by decide) (by decide)) | refine Kp_uA ?_ | refine Kp_uB ?_ | refine Kp_uM ?_ | refine Kp_uJ ?_))) (fun _ _ _ => ?_)
    | refine KA_bl (k_m8_lengthAt (by repeat' (with_reducible first | assumption | (refine Kp_uI ?_ (by decide) (by decide)) | refine Kp_uA ?_ | refine Kp_uB ?_ | refine Kp_uM ?_ | refine Kp_uJ ?_))) (fun _ _ _ => ?_)
    | refine KA_ite (fun _ => ?_) (fun _ => ?_)
    | refine KA_ck ?_
    | refine KA_dvl ?_
    | refine KA_nmS (by repeat' (with_reducible first | assumption | (refine Kp_uI ?_ (by decide) (by decide)) | refine Kp_uA ?_ | refine Kp_uB ?_ | refine Kp_uM ?_ | refine Kp_uJ ?_)) (fun _ _ => ?_)
    | refine KA_nmV (fun _ => ?_)
    | (rw [if_pos rfl]))
theorem k_m8_nameAt {n : Nat} {a1 : Int32} (h : Kp σ0 s) : KA σ0 (m8_nameAt n a1 s) := by
  unfold m8_nameAt
  repeat' (with_reducible first
    | exact KA_ret (by repeat' (with_reducible first | assumption | (refine Kp_uI ?_ (by decide) (by decide)) | refine Kp_uA ?_ | refine Kp_uB ?_ | refine Kp_uM ?_ | refine Kp_uJ ?_))
    | refine KA_ite (fun _ => ?_) (fun _ => ?_)
    | refine KA_ck ?_
    | refine KA_dvl ?_
    | refine KA_nmS (by repeat' (with_reducible first | assumption | (refine Kp_uI ?_ (by decide) (by decide)) | refine Kp_uA ?_ | refine Kp_uB ?_ | refine Kp_uM ?_ | refine Kp_uJ ?_)) (fun _ _ => ?_)
    | refine KA_nmV (fun _ => ?_)
    | (rw [if_pos rfl]))
theorem k_m8_worthAt {n : Nat} {a1 : Int32} (h : Kp σ0 s) : KA σ0 (m8_worthAt n a1 s) := by
  unfold m8_worthAt
  repeat' (with_reducible first
    | exact KA_ret (by repeat' (with_reducible first | assumption | (refine Kp_uI ?_ (by decide) (by decide)) | refine Kp_uA ?_ | refine Kp_uB ?_ | refine Kp_uM ?_ | refine Kp_uJ ?_))
    | refine KA_ite (fun _ => ?_) (fun _ => ?_)
    | refine KA_ck ?_
    | refine KA_dvl ?_
    | refine KA_nmS (by repeat' (with_reducible first | assumption | (refine Kp_uI ?_ (by decide) (by decide)) | refine Kp_uA ?_ | refine Kp_uB ?_ | refine Kp_uM ?_ | refine Kp_uJ ?_)) (fun _ _ => ?_)
    | refine KA_nmV (fun _ => ?_)
    | (rw [if_pos rfl]))
theorem k_m6_beginSum {n : Nat} (h : Kp σ0 s) : KV σ0 (m6_beginSum n s) := by
  unfold m6_beginSum
  repeat' (with_reducible first
    | exact KV_ret (by repeat' (with_reducible first | assumption | (refine Kp_uI ?_ (by decide) (by decide)) | refine Kp_uA ?_ | refine Kp_uB ?_ | refine Kp_uM ?_ | refine Kp_uJ ?_))
    | refine KV_ite (fun _ => ?_) (fun _ => ?_)
    | refine KV_ck ?_
    | refine KV_dvl ?_
    | refine KV_nmS (by repeat' (with_reducible first | assumption | (refine Kp_uI ?_ (by decide) (by decide)) | refine Kp_uA ?_ | refine Kp_uB ?_ | refine Kp_uM ?_ | refine Kp_uJ ?_)) (fun _ _ => ?_)
    | refine KV_nmV (fun _ => ?_)
    | (rw [if_pos rfl]))
theorem k_m6_fail {n : Nat} {a1 : Int32} {a2 : Int32} (h : Kp σ0 s) : KA σ0 (m6_fail n a1 a2 s) := by
  unfold m6_fail
  repeat' (with_reducible first
    | exact KA_ret (by repeat' (with_reducible first | assumption | (refine Kp_uI ?_ (by decide) (by decide)) | refine Kp_uA ?_ | refine Kp_uB ?_ | refine Kp_uM ?_ | refine Kp_uJ ?_))
    | refine KA_ite (fun _ => ?_) (fun _ => ?_)
    | refine KA_ck ?_
    | refine KA_dvl ?_
    | refine KA_nmS (by repeat' (with_reducible first | assumption | (refine Kp_uI ?_ (by decide) (by decide)) | refine Kp_uA ?_ | refine Kp_uB ?_ | refine Kp_uM ?_ | refine Kp_uJ ?_)) (fun _ _ => ?_)
    | refine KA_nmV (fun _ => ?_)
    | (rw [if_pos rfl]))
theorem k_m6_open {n : Nat} (h : Kp σ0 s) : KA σ0 (m6_open n s) := by
  unfold m6_open
  repeat' (with_reducible first
    | exact KA_ret (by repeat' (with_reducible first | assumption | (refine Kp_uI ?_ (by decide) (by decide)) | refine Kp_uA ?_ | refine Kp_uB ?_ | refine Kp_uM ?_ | refine Kp_uJ ?_))
    | refine KA_bv (k_m6_beginSum (by repeat' (with_reducible first | assumption | (refine Kp_uI ?_ (by decide) (by decide)) | refine Kp_uA ?_ | refine Kp_uB ?_ | refine Kp_uM ?_ | refine Kp_uJ ?_))) (fun _ _ => ?_)
    | exact k_m6_fail (by repeat' (with_reducible first | assumption | (refine Kp_uI ?_ (by decide) (by decide)) | refine Kp_uA ?_ | refine Kp_uB ?_ | refine Kp_uM ?_ | refine Kp_uJ ?_))
    | refine KA_bi (k_m6_fail (by repeat' (with_reducible first | assumption | (refine Kp_uI ?_ (by decide) (by decide)) | refine Kp_uA ?_ | refine Kp_uB ?_ | refine Kp_uM ?_ | refine Kp_uJ ?_))) (fun _ _ _ => ?_)
    | refine KA_bl (k_m6_fail (by repeat' (with_reducible first | assumption | (refine Kp_uI ?_ (by decide) (by decide)) | refine Kp_uA ?_ | refine Kp_uB ?_ | refine Kp_uM ?_ | refine Kp_uJ ?_))) (fun _ _ _ => ?_)
    | refine KA_ite (fun _ => ?_) (fun _ => ?_)
    | refine KA_ck ?_
    | refine KA_dvl ?_
    | refine KA_nmS (by repeat' (with_reducible first | assumption | (refine Kp_uI ?_ (by decide) (by decide)) | refine Kp_uA ?_ | refine Kp_uB ?_ | refine Kp_uM ?_ | refine Kp_uJ ?_)) (fun _ _ => ?_)
    | refine KA_nmV (fun _ => ?_)
    | (rw [if_pos rfl]))
theorem k_m6_readFactor_22 {n : Nat} {y1 : Int32} (h : Kp σ0 s) : KA σ0 (m6_readFactor_22 n y1 s) := by
  unfold m6_readFactor_22
  repeat' (with_reducible first
    | exact KA_ret (by repeat' (with_reducible first | assumption | (refine Kp_uI ?_ (by decide) (by decide)) | refine Kp_uA ?_ | refine Kp_uB ?_ | refine Kp_uM ?_ | refine Kp_uJ ?_))
    | exact k_m6_fail (by repeat' (with_reducible first | assumption | (refine Kp_uI ?_ (by decide) (by decide)) | refine Kp_uA ?_ | refine Kp_uB ?_ | refine Kp_uM ?_ | refine Kp_uJ ?_))
    | refine KA_bi (k_m6_fail (by repeat' (with_reducible first | assumption | (refine Kp_uI ?_ (by decide) (by decide)) | refine Kp_uA ?_ | refine Kp_uB ?_ | refine Kp_uM ?_ | refine Kp_uJ ?_))) (fun _ _ _ => ?_)
    | refine KA_bl (k_m6_fail (by repeat' (with_reducible first | assumption | (refine Kp_uI ?_ (by decide) (by decide)) | refine Kp_uA ?_ | refine Kp_uB ?_ | refine Kp_uM ?_ | refine Kp_uJ ?_))) (fun _ _ _ => ?_)
    | exact k_m8_worthAt (by repeat' (with_reducible first | assumption | (refine Kp_uI ?_ (by decide) (by decide)) | refine Kp_uA ?_ | refine Kp_uB ?_ | refine Kp_uM ?_ | refine Kp_uJ ?_))
    | refine KA_bi (k_m8_worthAt (by repeat' (with_reducible first | assumption | (refine Kp_uI ?_ (by decide) (by decide)) | refine Kp_uA ?_ | refine Kp_uB ?_ | refine Kp_uM ?_ | refine Kp_uJ ?_))) (fun _ _ _ => ?_)
    | refine KA_bl (k_m8_worthAt (by repeat' (with_reducible first | assumption | (refine Kp_uI ?_ (by decide) (by decide)) | refine Kp_uA ?_ | refine Kp_uB ?_ | refine Kp_uM ?_ | refine Kp_uJ ?_))) (fun _ _ _ => ?_)
    | refine KA_ite (fun _ => ?_) (fun _ => ?_)
    | refine KA_ck ?_
    | refine KA_dvl ?_
    | refine KA_nmS (by repeat' (with_reducible first | assumption | (refine Kp_uI ?_ (by decide) (by decide)) | refine Kp_uA ?_ | refine Kp_uB ?_ | refine Kp_uM ?_ | refine Kp_uJ ?_)) (fun _ _ => ?_)
    | refine KA_nmV (fun _ => ?_)
    | (rw [if_pos rfl]))
theorem k_m6_readFactor {n : Nat} {a1 : Int32} (h : Kp σ0 s) : KA σ0 (m6_readFactor n a1 s) := by
  unfold m6_readFactor
  repeat' (with_reducible first
    | exact KA_ret (by repeat' (with_reducible first | assumption | (refine Kp_uI ?_ (by decide) (by decide)) | refine Kp_uA ?_ | refine Kp_uB ?_ | refine Kp_uM ?_ | refine Kp_uJ ?_))
    | exact k_m6_fail (by repeat' (with_reducible first | assumption | (refine Kp_uI ?_ (by decide) (by decide)) | refine Kp_uA ?_ | refine Kp_uB ?_ | refine Kp_uM ?_ | refine Kp_uJ ?_))
    | refine KA_bi (k_m6_fail (by repeat' (with_reducible first | assumption | (refine Kp_uI ?_ (by decide) (by decide)) | refine Kp_uA ?_ | refine Kp_uB ?_ | refine Kp_uM ?_ | refine Kp_uJ ?_))) (fun _ _ _ => ?_)
    | refine KA_bl (k_m6_fail (by repeat' (with_reducible first | assumption | (refine Kp_uI ?_ (by decide) (by decide)) | refine Kp_uA ?_ | refine Kp_uB ?_ | refine Kp_uM ?_ | refine Kp_uJ ?_))) (fun _ _ _ => ?_)
    | exact k_m6_readFactor_22 (by repeat' (with_reducible first | assumption | (refine Kp_uI ?_ (by decide) (by decide)) | refine Kp_uA ?_ | refine Kp_uB ?_ | refine Kp_uM ?_ | refine Kp_uJ ?_))
    | refine KA_bi (k_m6_readFactor_22 (by repeat' (with_reducible first | assumption | (refine Kp_uI ?_ (by decide) (by decide)) | refine Kp_uA ?_ | refine Kp_uB ?_ | refine Kp_uM ?_ | refine Kp_uJ ?_))) (fun _ _ _ => ?_)
    | refine KA_bl (k_m6_readFactor_22 (by repeat' (with_reducible first | assumption | (refine Kp_uI ?_ (by decide) (by decide)) | refine Kp_uA ?_ | refine Kp_uB ?_ | refine Kp_uM ?_ | refine Kp_uJ ?_))) (fun _ _ _ => ?_)
    | refine KA_ite (fun _ => ?_) (fun _ => ?_)
    | refine KA_ck ?_
    | refine KA_dvl ?_
    | refine KA_nmS (by repeat' (with_reducible first | assumption | (refine Kp_uI ?_ (by decide) (by decide)) | refine Kp_uA ?_ | refine Kp_uB ?_ | refine Kp_uM ?_ | refine Kp_uJ ?_)) (fun _ _ => ?_)
    | refine KA_nmV (fun _ => ?_)
    | (rw [if_pos rfl]))
theorem k_m6_combine {n : Nat} {a1 : Int64} {a2 : Int32} {a3 : Int64} (h : Kp σ0 s) : KA σ0 (m6_combine n a1 a2 a3 s) := by
  unfold m6_combine
  repeat' (with_reducible first
    | exact KA_ret (by repeat' (with_reducible first | assumption | (refine Kp_uI ?_ (by decide) (by decide)) | refine Kp_uA ?_ | refine Kp_uB ?_ | refine Kp_uM ?_ | refine Kp_uJ ?_))
    | refine KA_ite (fun _ => ?_) (fun _ => ?_)
    | refine KA_ck ?_
    | refine KA_dvl ?_
    | refine KA_nmS (by repeat' (with_reducible first | assumption | (refine Kp_uI ?_ (by decide) (by decide)) | refine Kp_uA ?_ | refine Kp_uB ?_ | refine Kp_uM ?_ | refine Kp_uJ ?_)) (fun _ _ => ?_)
    | refine KA_nmV (fun _ => ?_)
    | (rw [if_pos rfl]))
theorem k_m6_isWithinLimit {n : Nat} {a1 : Int64} (h : Kp σ0 s) : KA σ0 (m6_isWithinLimit n a1 s) := by
  unfold m6_isWithinLimit
  repeat' (with_reducible first
    | exact KA_ret (by repeat' (with_reducible first | assumption | (refine Kp_uI ?_ (by decide) (by decide)) | refine Kp_uA ?_ | refine Kp_uB ?_ | refine Kp_uM ?_ | refine Kp_uJ ?_))
    | refine KA_ite (fun _ => ?_) (fun _ => ?_)
    | refine KA_ck ?_
    | refine KA_dvl ?_
    | refine KA_nmS (by repeat' (with_reducible first | assumption | (refine Kp_uI ?_ (by decide) (by decide)) | refine Kp_uA ?_ | refine Kp_uB ?_ | refine Kp_uM ?_ | refine Kp_uJ ?_)) (fun _ _ => ?_)
    | refine KA_nmV (fun _ => ?_)
    | (rw [if_pos rfl]))
theorem k_m6_endFactor_39 {n : Nat} {y6 : Int32} {y7 : Int64} (h : Kp σ0 s) : KA σ0 (m6_endFactor_39 n y6 y7 s) := by
  unfold m6_endFactor_39
  repeat' (with_reducible first
    | exact KA_ret (by repeat' (with_reducible first | assumption | (refine Kp_uI ?_ (by decide) (by decide)) | refine Kp_uA ?_ | refine Kp_uB ?_ | refine Kp_uM ?_ | refine Kp_uJ ?_))
    | exact k_m6_fail (by repeat' (with_reducible first | assumption | (refine Kp_uI ?_ (by decide) (by decide)) | refine Kp_uA ?_ | refine Kp_uB ?_ | refine Kp_uM ?_ | refine Kp_uJ ?_))
    | refine KA_bi (k_m6_fail (by repeat' (with_reducible first | assumption | (refine Kp_uI ?_ (by decide) (by decide)) | refine Kp_uA ?_ | refine Kp_uB ?_ | refine Kp_uM ?_ | refine Kp_uJ ?_))) (fun _ _ _ => ?_)
    | refine KA_bl (k_m6_fail (by repeat' (with_reducible first | assumption | (refine Kp_uI ?_ (by decide) (by decide)) | refine Kp_uA ?_ | refine Kp_uB ?_ | refine Kp_uM ?_ | refine Kp_uJ ?_))) (fun _ _ _ => ?_)
    | exact k_m6_isWithinLimit (by repeat' (with_reducible first | assumption | (refine Kp_uI ?_ (by decide) (by decide)) | refine Kp_uA ?_ | refine Kp_uB ?_ | refine Kp_uM ?_ | refine Kp_uJ ?_))
    | refine KA_bi (k_m6_isWithinLimit (by repeat' (with_reducible first | assumption | (refine Kp_uI ?_ (by decide) (by decide)) | refine Kp_uA ?_ | refine Kp_uB ?_ | refine Kp_uM ?_ | refine Kp_uJ ?_))) (fun _ _ _ => ?_)
    | refine KA_bl (k_m6_isWithinLimit (by repeat' (with_reducible first | assumption | (refine Kp_uI ?_ (by decide) (by decide)) | refine Kp_uA ?_ | refine Kp_uB ?_ | refine Kp_uM ?_ | refine Kp_uJ ?_))) (fun _ _ _ => ?_)
    | refine KA_ite (fun _ => ?_) (fun _ => ?_)
    | refine KA_ck ?_
    | refine KA_dvl ?_
    | refine KA_nmS (by repeat' (with_reducible first | assumption | (refine Kp_uI ?_ (by decide) (by decide)) | refine Kp_uA ?_ | refine Kp_uB ?_ | refine Kp_uM ?_ | refine Kp_uJ ?_)) (fun _ _ => ?_)
    | refine KA_nmV (fun _ => ?_)
    | (rw [if_pos rfl]))
theorem k_m6_endFactor {n : Nat} (h : Kp σ0 s) : KA σ0 (m6_endFactor n s) := by
  unfold m6_endFactor
  repeat' (with_reducible first
    | exact KA_ret (by repeat' (with_reducible first | assumption | (refine Kp_uI ?_ (by decide) (by decide)) | refine Kp_uA ?_ | refine Kp_uB ?_ | refine Kp_uM ?_ | refine Kp_uJ ?_))
    | exact k_m6_combine (by repeat' (with_reducible first | assumption | (refine Kp_uI ?_ (by decide) (by decide)) | refine Kp_uA ?_ | refine Kp_uB ?_ | refine Kp_uM ?_ | refine Kp_uJ ?_))
    | refine KA_bi (k_m6_combine (by repeat' (with_reducible first | assumption | (refine Kp_uI ?_ (by decide) (by decide)) | refine Kp_uA ?_ | refine Kp_uB ?_ | refine Kp_uM ?_ | refine Kp_uJ ?_))) (fun _ _ _ => ?_)
    | refine KA_bl (k_m6_combine (by repeat' (with_reducible first | assumption | (refine Kp_uI ?_ (by decide) (by decide)) | refine Kp_uA ?_ | refine Kp_uB ?_ | refine Kp_uM ?_ | refine Kp_uJ ?_))) (fun _ _ _ => ?_)
    | exact k_m6_endFactor_39 (by repeat' (with_reducible first | assumption | (refine Kp_uI ?_ (by decide) (by decide)) | refine Kp_uA ?_ | refine Kp_uB ?_ | refine Kp_uM ?_ | refine Kp_uJ ?_))
    | refine KA_bi (k_m6_endFactor_39 (by repeat' (with_reducible first | assumption | (refine Kp_uI ?_ (by decide) (by decide)) | refine Kp_uA ?_ | refine Kp_uB ?_ | refine Kp_uM ?_ | refine Kp_uJ ?_))) (fun _ _ _ => ?_)
    | refine KA_bl (k_m6_endFactor_39 (by repeat' (with_reducible first | assumption | (refine Kp_uI ?_ (by decide) (by decide)) | refine Kp_uA ?_ | refine Kp_uB ?_ | refine Kp_uM ?_ | refine Kp_uJ ?_))) (fun _ _ _ => ?_)
    | exact k_m8_sortAt (by repeat' (with_reducible first | assumption | (refine Kp_uI ?_ (by decide) (by decide)) | refine Kp_uA ?_ | refine Kp_uB ?_ | refine Kp_uM ?_ | refine Kp_uJ ?_))
    | refine KA_bi (k_m8_sortAt (by repeat' (with_reducible first | assumption | (refine Kp_uI ?_ (by decide) (by decide)) | refine Kp_uA ?_ | refine Kp_uB ?_ | refine Kp_uM ?_ | refine Kp_uJ ?_))) (fun _ _ _ => ?_)
    | refine KA_bl (k_m8_sortAt (by repeat' (with_reducible first | assumption | (refine Kp_uI ?_ (by decide) (by decide)) | refine Kp_uA ?_ | refine Kp_uB ?_ | refine Kp_uM ?_ | refine Kp_uJ ?_))) (fun _ _ _ => ?_)
    | refine KA_ite (fun _ => ?_) (fun _ => ?_)
    | refine KA_ck ?_
    | refine KA_dvl ?_
    | refine KA_nmS (by repeat' (with_reducible first | assumption | (refine Kp_uI ?_ (by decide) (by decide)) | refine Kp_uA ?_ | refine Kp_uB ?_ | refine Kp_uM ?_ | refine Kp_uJ ?_)) (fun _ _ => ?_)
    | refine KA_nmV (fun _ => ?_)
    | (rw [if_pos rfl]))
theorem k_m6_endProduct_39 {n : Nat} {y6 : Int32} {y7 : Int64} (h : Kp σ0 s) : KA σ0 (m6_endProduct_39 n y6 y7 s) := by
  unfold m6_endProduct_39
  repeat' (with_reducible first
    | exact KA_ret (by repeat' (with_reducible first | assumption | (refine Kp_uI ?_ (by decide) (by decide)) | refine Kp_uA ?_ | refine Kp_uB ?_ | refine Kp_uM ?_ | refine Kp_uJ ?_))
    | exact k_m6_fail (by repeat' (with_reducible first | assumption | (refine Kp_uI ?_ (by decide) (by decide)) | refine Kp_uA ?_ | refine Kp_uB ?_ | refine Kp_uM ?_ | refine Kp_uJ ?_))
    | refine KA_bi (k_m6_fail (by repeat' (with_reducible first | assumption | (refine Kp_uI ?_ (by decide) (by decide)) | refine Kp_uA ?_ | refine Kp_uB ?_ | refine Kp_uM ?_ | refine Kp_uJ ?_))) (fun _ _ _ => ?_)
    | refine KA_bl (k_m6_fail (by repeat' (with_reducible first | assumption | (refine Kp_uI ?_ (by decide) (by decide)) | refine Kp_uA ?_ | refine Kp_uB ?_ | refine Kp_uM ?_ | refine Kp_uJ ?_))) (fun _ _ _ => ?_)
    | exact k_m6_isWithinLimit (by repeat' (with_reducible first | assumption | (refine Kp_uI ?_ (by decide) (by decide)) | refine Kp_uA ?_ | refine Kp_uB ?_ | refine Kp_uM ?_ | refine Kp_uJ ?_))
    | refine KA_bi (k_m6_isWithinLimit (by repeat' (with_reducible first | assumption | (refine Kp_uI ?_ (by decide) (by decide)) | refine Kp_uA ?_ | refine Kp_uB ?_ | refine Kp_uM ?_ | refine Kp_uJ ?_))) (fun _ _ _ => ?_)
    | refine KA_bl (k_m6_isWithinLimit (by repeat' (with_reducible first | assumption | (refine Kp_uI ?_ (by decide) (by decide)) | refine Kp_uA ?_ | refine Kp_uB ?_ | refine Kp_uM ?_ | refine Kp_uJ ?_))) (fun _ _ _ => ?_)
    | refine KA_ite (fun _ => ?_) (fun _ => ?_)
    | refine KA_ck ?_
    | refine KA_dvl ?_
    | refine KA_nmS (by repeat' (with_reducible first | assumption | (refine Kp_uI ?_ (by decide) (by decide)) | refine Kp_uA ?_ | refine Kp_uB ?_ | refine Kp_uM ?_ | refine Kp_uJ ?_)) (fun _ _ => ?_)
    | refine KA_nmV (fun _ => ?_)
    | (rw [if_pos rfl]))
theorem k_m6_endProduct {n : Nat} (h : Kp σ0 s) : KA σ0 (m6_endProduct n s) := by
  unfold m6_endProduct
  repeat' (with_reducible first
    | exact KA_ret (by repeat' (with_reducible first | assumption | (refine Kp_uI ?_ (by decide) (by decide)) | refine Kp_uA ?_ | refine Kp_uB ?_ | refine Kp_uM ?_ | refine Kp_uJ ?_))
    | exact k_m6_combine (by repeat' (with_reducible first | assumption | (refine Kp_uI ?_ (by decide) (by decide)) | refine Kp_uA ?_ | refine Kp_uB ?_ | refine Kp_uM ?_ | refine Kp_uJ ?_))
    | refine KA_bi (k_m6_combine (by repeat' (with_reducible first | assumption | (refine Kp_uI ?_ (by decide) (by decide)) | refine Kp_uA ?_ | refine Kp_uB ?_ | refine Kp_uM ?_ | refine Kp_uJ ?_))) (fun _ _ _ => ?_)
    | refine KA_bl (k_m6_combine (by repeat' (with_reducible first | assumption | (refine Kp_uI ?_ (by decide) (by decide)) | refine Kp_uA ?_ | refine Kp_uB ?_ | refine Kp_uM ?_ | refine Kp_uJ ?_))) (fun _ _ _ => ?_)
    | exact k_m6_endProduct_39 (by repeat' (with_reducible first | assumption | (refine Kp_uI ?_ (by decide) (by decide)) | refine Kp_uA ?_ | refine Kp_uB ?_ | refine Kp_uM ?_ | refine Kp_uJ ?_))
    | refine KA_bi (k_m6_endProduct_39 (by repeat' (with_reducible first | assumption | (refine Kp_uI ?_ (by decide) (by decide)) | refine Kp_uA ?_ | refine Kp_uB ?_ | refine Kp_uM ?_ | refine Kp_uJ ?_))) (fun _ _ _ => ?_)
    | refine KA_bl (k_m6_endProduct_39 (by repeat' (with_reducible first | assumption | (refine Kp_uI ?_ (by decide) (by decide)) | refine Kp_uA ?_ | refine Kp_uB ?_ | refine Kp_uM ?_ | refine Kp_uJ ?_))) (fun _ _ _ => ?_)
    | exact k_m8_sortAt (by repeat' (with_reducible first | assumption | (refine Kp_uI ?_ (by decide) (by decide)) | refine Kp_uA ?_ | refine Kp_uB ?_ | refine Kp_uM ?_ | refine Kp_uJ ?_))
    | refine KA_bi (k_m8_sortAt (by repeat' (with_reducible first | assumption | (refine Kp_uI ?_ (by decide) (by decide)) | refine Kp_uA ?_ | refine Kp_uB ?_ | refine Kp_uM ?_ | refine Kp_uJ ?_))) (fun _ _ _ => ?_)
    | refine KA_bl (k_m8_sortAt (by repeat' (with_reducible first | assumption | (refine Kp_uI ?_ (by decide) (by decide)) | refine Kp_uA ?_ | refine Kp_uB ?_ | refine Kp_uM ?_ | refine Kp_uJ ?_))) (fun _ _ _ => ?_)
    | refine KA_ite (fun _ => ?_) (fun _ => ?_)
    | refine KA_ck ?_
    | refine KA_dvl ?_
    | refine KA_nmS (by repeat' (with_reducible first | assumption | (refine Kp_uI ?_ (by decide) (by decide)) | refine Kp_uA ?_ | refine Kp_uB ?_ | refine Kp_uM ?_ | refine Kp_uJ ?_)) (fun _ _ => ?_)
    | refine KA_nmV (fun _ => ?_)
    | (rw [if_pos rfl]))
theorem k_m6_close {n : Nat} {a1 : Int32} (h : Kp σ0 s) : KA σ0 (m6_close n a1 s) := by
  unfold m6_close
  repeat' (with_reducible first
    | exact KA_ret (by repeat' (with_reducible first | assumption | (refine Kp_uI ?_ (by decide) (by decide)) | refine Kp_uA ?_ | refine Kp_uB ?_ | refine Kp_uM ?_ | refine Kp_uJ ?_))
    | exact k_m6_fail (by repeat' (with_reducible first | assumption | (refine Kp_uI ?_ (by decide) (by decide)) | refine Kp_uA ?_ | refine Kp_uB ?_ | refine Kp_uM ?_ | refine Kp_uJ ?_))
    | refine KA_bi (k_m6_fail (by repeat' (with_reducible first | assumption | (refine Kp_uI ?_ (by decide) (by decide)) | refine Kp_uA ?_ | refine Kp_uB ?_ | refine Kp_uM ?_ | refine Kp_uJ ?_))) (fun _ _ _ => ?_)
    | refine KA_bl (k_m6_fail (by repeat' (with_reducible first | assumption | (refine Kp_uI ?_ (by decide) (by decide)) | refine Kp_uA ?_ | refine Kp_uB ?_ | refine Kp_uM ?_ | refine Kp_uJ ?_))) (fun _ _ _ => ?_)
    | refine KA_ite (fun _ => ?_) (fun _ => ?_)
    | refine KA_ck ?_
    | refine KA_dvl ?_
    | refine KA_nmS (by repeat' (with_reducible first | assumption | (refine Kp_uI ?_ (by decide) (by decide)) | refine Kp_uA ?_ | refine Kp_uB ?_ | refine Kp_uM ?_ | refine Kp_uJ ?_)) (fun _ _ => ?_)
    | refine KA_nmV (fun _ => ?_)
    | (rw [if_pos rfl]))
theorem k_m6_workOut_99 {n : Nat} {y13 : Int32} {f18 : Int32 → Int32 → ej_S → Option (Int32 × ej_S)} (hf18 : ∀ (a0 : Int32) (a1 : Int32) (s : ej_S), Kp σ0 s → KA σ0 (f18 a0 a1 s)) (h : Kp σ0 s) : KA σ0 (m6_workOut_99 n f18 y13 s) := by
  unfold m6_workOut_99
  repeat' (with_reducible first
    | exact KA_ret (by repeat' (with_reducible first | assumption | (refine Kp_uI ?_ (by decide) (by decide)) | refine Kp_uA ?_ | refine Kp_uB ?_ | refine Kp_uM ?_ | refine Kp_uJ ?_))
    | exact hf18 _ _ _ (by repeat' (with_reducible first | assumption | (refine Kp_uI ?_ (by decide) (by decide)) | refine Kp_uA ?_ | refine Kp_uB ?_ | refine Kp_uM ?_ | refine Kp_uJ ?_))
    | refine KA_ite (fun _ => ?_) (fun _ => ?_)
    | refine KA_ck ?_
    | refine KA_dvl ?_
    | refine KA_nmS (by repeat' (with_reducible first | assumption | (refine Kp_uI ?_ (by decide) (by decide)) | refine Kp_uA ?_ | refine Kp_uB ?_ | refine Kp_uM ?_ | refine Kp_uJ ?_)) (fun _ _ => ?_)
    | refine KA_nmV (fun _ => ?_)
    | (rw [if_pos rfl]))
theorem k_m6_workOut_135 {n : Nat} {y19 : Int32} {f18 : Int32 → Int32 → ej_S → Option (Int32 × ej_S)} (hf18 : ∀ (a0 : Int32) (a1 : Int32) (s : ej_S), Kp σ0 s → KA σ0 (f18 a0 a1 s)) (h : Kp σ0 s) : KA σ0 (m6_workOut_135 n f18 y19 s) := by
  unfold m6_workOut_135
  repeat' (with_reducible first
    | exact KA_ret (by repeat' (with_reducible first | assumption | (refine Kp_uI ?_ (by decide) (by decide)) | refine Kp_uA ?_ | refine Kp_uB ?_ | refine Kp_uM ?_ | refine Kp_uJ ?_))
    | exact hf18 _ _ _ (by repeat' (with_reducible first | assumption | (refine Kp_uI ?_ (by decide) (by decide)) | refine Kp_uA ?_ | refine Kp_uB ?_ | refine Kp_uM ?_ | refine Kp_uJ ?_))
    | refine KA_ite (fun _ => ?_) (fun _ => ?_)
    | refine KA_ck ?_
    | refine KA_dvl ?_
    | refine KA_nmS (by repeat' (with_reducible first | assumption | (refine Kp_uI ?_ (by decide) (by decide)) | refine Kp_uA ?_ | refine Kp_uB ?_ | refine Kp_uM ?_ | refine Kp_uJ ?_)) (fun _ _ => ?_)
    | refine KA_nmV (fun _ => ?_)
    | (rw [if_pos rfl]))
theorem k_m6_workOut_58 {n : Nat} {y10 : Int32} {y11 : Int32} {y12 : Int32} {f18 : Int32 → Int32 → ej_S → Option (Int32 × ej_S)} (hf18 : ∀ (a0 : Int32) (a1 : Int32) (s : ej_S), Kp σ0 s → KA σ0 (f18 a0 a1 s)) (h : Kp σ0 s) : KA σ0 (m6_workOut_58 n f18 y10 y11 y12 s) := by
  unfold m6_workOut_58
  repeat' (with_reducible first
    | exact KA_ret (by repeat' (with_reducible first | assumption | (refine Kp_uI ?_ (by decide) (by decide)) | refine Kp_uA ?_ | refine Kp_uB ?_ | refine Kp_uM ?_ | refine Kp_uJ ?_))
    | exact k_m6_close (by repeat' (with_reducible first | assumption | (refine Kp_uI ?_ (by decide) (by decide)) | refine Kp_uA ?_ | refine Kp_uB ?_ | refine Kp_uM ?_ | refine Kp_uJ ?_))
    | refine KA_bi (k_m6_close (by repeat' (with_reducible first | assumption | (refine Kp_uI ?_ (by decide) (by decide)) | refine Kp_uA ?_ | refine Kp_uB ?_ | refine Kp_uM ?_ | refine Kp_uJ ?_))) (fun _ _ _ => ?_)
    | refine KA_bl (k_m6_close (by repeat' (with_reducible first | assumption | (refine Kp_uI ?_ (by decide) (by decide)) | refine Kp_uA ?_ | refine Kp_uB ?_ | refine Kp_uM ?_ | refine Kp_uJ ?_))) (fun _ _ _ => ?_)
    | exact k_m6_endFactor (by repeat' (with_reducible first | assumption | (refine Kp_uI ?_ (by decide) (by decide)) | refine Kp_uA ?_ | refine Kp_uB ?_ | refine Kp_uM ?_ | refine Kp_uJ ?_))
    | refine KA_bi (k_m6_endFactor (by repeat' (with_reducible first | assumption | (refine Kp_uI ?_ (by decide) (by decide)) | refine Kp_uA ?_ | refine Kp_uB ?_ | refine Kp_uM ?_ | refine Kp_uJ ?_))) (fun _ _ _ => ?_)
    | refine KA_bl (k_m6_endFactor (by repeat' (with_reducible first | assumption | (refine Kp_uI ?_ (by decide) (by decide)) | refine Kp_uA ?_ | refine Kp_uB ?_ | refine Kp_uM ?_ | refine Kp_uJ ?_))) (fun _ _ _ => ?_)
    | exact k_m6_endProduct (by repeat' (with_reducible first | assumption | (refine Kp_uI ?_ (by decide) (by decide)) | refine Kp_uA ?_ | refine Kp_uB ?_ | refine Kp_uM ?_ | refine Kp_uJ ?_))
    | refine KA_bi (k_m6_endProduct (by repeat' (with_reducible first | assumption | (refine Kp_uI ?_ (by decide) (by decide)) | refine Kp_uA ?_ | refine Kp_uB ?_ | refine Kp_uM ?_ | refine Kp_uJ ?_))) (fun _ _ _ => ?_)
    | refine KA_bl (k_m6_endProduct (by repeat' (with_reducible first | assumption | (refine Kp_uI ?_ (by decide) (by decide)) | refine Kp_uA ?_ | refine Kp_uB ?_ | refine Kp_uM ?_ | refine Kp_uJ ?_))) (fun _ _ _ => ?_)
    | exact k_m6_readFactor (by repeat' (with_reducible first | assumption | (refine Kp_uI ?_ (by decide) (by decide)) | refine Kp_uA ?_ | refine Kp_uB ?_ | refine Kp_uM ?_ | refine Kp_uJ ?_))
    | refine KA_bi (k_m6_readFactor (by repeat' (with_reducible first | assumption | (refine Kp_uI ?_ (by decide) (by decide)) | refine Kp_uA ?_ | refine Kp_uB ?_ | refine Kp_uM ?_ | refine Kp_uJ ?_))) (fun _ _ _ => ?_)
    | refine KA_bl (k_m6_readFactor (by repeat' (with_reducible first | assumption | (refine Kp_uI ?_ (by decide) (by decide)) | refine Kp_uA ?_ | refine Kp_uB ?_ | refine Kp_uM ?_ | refine Kp_uJ ?_))) (fun _ _ _ => ?_)
    | exact k_m6_workOut_135 hf18 (by repeat' (with_reducible first | assumption | (refine Kp_uI ?_ (by decide) (by decide)) | refine Kp_uA ?_ | refine Kp_uB ?_ | refine Kp_uM ?_ | refine Kp_uJ ?_))
    | refine KA_bi (k_m6_workOut_135 hf18 (by repeat' (with_reducible first | assumption | (refine Kp_uI ?_ (by decide) (by decide)) | refine Kp_uA ?_ | refine Kp_uB ?_ | refine Kp_uM ?_ | refine Kp_uJ ?_))) (fun _ _ _ => ?_)
    | refine KA_bl (k_m6_workOut_135 hf18 (by repeat' (with_reducible first | assumption | (refine Kp_uI ?_ (by decide) (by decide)) | refine Kp_uA ?_ | refine Kp_uB ?_ | refine Kp_uM ?_ | refine Kp_uJ ?_))) (fun _ _ _ => ?_)
    | exact k_m6_workOut_99 hf18 (by repeat' (with_reducible first | assumption | (refine Kp_uI ?_ (by decide) (by decide)) | refine Kp_uA ?_ | refine Kp_uB ?_ | refine Kp_uM ?_ | refine Kp_uJ ?_))
    | refine KA_bi (k_m6_workOut_99 hf18 (by repeat' (with_reducible first | assumption | (refine Kp_uI ?_ (by decide) (by decide)) | refine Kp_uA ?_ | refine Kp_uB ?_ | refine Kp_uM ?_ | refine Kp_uJ ?_))) (fun _ _ _ => ?_)
    | refine KA_bl (k_m6_workOut_99 hf18 (by repeat' (with_reducible first | assumption | (refine Kp_uI ?_ (by decide) (by decide)) | refine Kp_uA ?_ | refine Kp_uB ?_ | refine Kp_uM ?_ | refine Kp_uJ ?_))) (fun _ _ _ => ?_)
    | exact hf18 _ _ _ (by repeat' (with_reducible first | assumption | (refine Kp_uI ?_ (by decide) (by decide)) | refine Kp_uA ?_ | refine Kp_uB ?_ | refine Kp_uM ?_ | refine Kp_uJ ?_))
    | refine KA_ite (fun _ => ?_) (fun _ => ?_)
    | refine KA_ck ?_
    | refine KA_dvl ?_
    | refine KA_nmS (by repeat' (with_reducible first | assumption | (refine Kp_uI ?_ (by decide) (by decide)) | refine Kp_uA ?_ | refine Kp_uB ?_ | refine Kp_uM ?_ | refine Kp_uJ ?_)) (fun _ _ => ?_)
    | refine KA_nmV (fun _ => ?_)
    | (rw [if_pos rfl]))
theorem k_m6_workOut_18_l {n : Nat} : ∀ (k : Nat) (y4 : Int32) (y5 : Int32) (s : ej_S), Kp σ0 s → KA σ0 (m6_workOut_18 n k y4 y5 s) := by
  intro k
  induction k with
  | zero => intros; exact KA_none
  | succ k ih =>
  intro y4 y5 s hs
  rw [u_6_workOut_18]
  repeat' (with_reducible first
    | exact KA_ret (by repeat' (with_reducible first | assumption | (refine Kp_uI ?_ (by decide) (by decide)) | refine Kp_uA ?_ | refine Kp_uB ?_ | refine Kp_uM ?_ | refine Kp_uJ ?_))
    | exact k_m6_fail (by repeat' (with_reducible first | assumption | (refine Kp_uI ?_ (by decide) (by decide)) | refine Kp_uA ?_ | refine Kp_uB ?_ | refine Kp_uM ?_ | refine Kp_uJ ?_))
    | refine KA_bi (k_m6_fail (by repeat' (with_reducible first | assumption | (refine Kp_uI ?_ (by decide) (by decide)) | refine Kp_uA ?_ | refine Kp_uB ?_ | refine Kp_uM ?_ | refine Kp_uJ ?_))) (fun _ _ _ => ?_)
    | refine KA_bl (k_m6_fail (by repeat' (with_reducible first | assumption | (refine Kp_uI ?_ (by decide) (by decide)) | refine Kp_uA ?_ | refine Kp_uB ?_ | refine Kp_uM ?_ | refine Kp_uJ ?_))) (fun _ _ _ => ?_)
    | exact k_m6_open (by repeat' (with_reducible first | assumption | (refine Kp_uI ?_ (by decide) (by decide)) | refine Kp_uA ?_ | refine Kp_uB ?_ | refine Kp_uM ?_ | refine Kp_uJ ?_))
    | refine KA_bi (k_m6_open (by repeat' (with_reducible first | assumption | (refine Kp_uI ?_ (by decide) (by decide)) | refine Kp_uA ?_ | refine Kp_uB ?_ | refine Kp_uM ?_ | refine Kp_uJ ?_))) (fun _ _ _ => ?_)
    | refine KA_bl (k_m6_open (by repeat' (with_reducible first | assumption | (refine Kp_uI ?_ (by decide) (by decide)) | refine Kp_uA ?_ | refine Kp_uB ?_ | refine Kp_uM ?_ | refine Kp_uJ ?_))) (fun _ _ _ => ?_)
    | exact k_m6_workOut_58 ih (by repeat' (with_reducible first | assumption | (refine Kp_uI ?_ (by decide) (by decide)) | refine Kp_uA ?_ | refine Kp_uB ?_ | refine Kp_uM ?_ | refine Kp_uJ ?_))
    | refine KA_bi (k_m6_workOut_58 ih (by repeat' (with_reducible first | assumption | (refine Kp_uI ?_ (by decide) (by decide)) | refine Kp_uA ?_ | refine Kp_uB ?_ | refine Kp_uM ?_ | refine Kp_uJ ?_))) (fun _ _ _ => ?_)
    | refine KA_bl (k_m6_workOut_58 ih (by repeat' (with_reducible first | assumption | (refine Kp_uI ?_ (by decide) (by decide)) | refine Kp_uA ?_ | refine Kp_uB ?_ | refine Kp_uM ?_ | refine Kp_uJ ?_))) (fun _ _ _ => ?_)
    | exact k_m8_sortAt (by repeat' (with_reducible first | assumption | (refine Kp_uI ?_ (by decide) (by decide)) | refine Kp_uA ?_ | refine Kp_uB ?_ | refine Kp_uM ?_ | refine Kp_uJ ?_))
    | refine KA_bi (k_m8_sortAt (by repeat' (with_reducible first | assumption | (refine Kp_uI ?_ (by decide) (by decide)) | refine Kp_uA ?_ | refine Kp_uB ?_ | refine Kp_uM ?_ | refine Kp_uJ ?_))) (fun _ _ _ => ?_)
    | refine KA_bl (k_m8_sortAt (by repeat' (with_reducible first | assumption | (refine Kp_uI ?_ (by decide) (by decide)) | refine Kp_uA ?_ | refine Kp_uB ?_ | refine Kp_uM ?_ | refine Kp_uJ ?_))) (fun _ _ _ => ?_)
    | exact ih _ _ _ (by repeat' (with_reducible first | assumption | (refine Kp_uI ?_ (by decide) (by decide)) | refine Kp_uA ?_ | refine Kp_uB ?_ | refine Kp_uM ?_ | refine Kp_uJ ?_))
    | refine KA_ite (fun _ => ?_) (fun _ => ?_)
    | refine KA_ck ?_
    | refine KA_dvl ?_
    | refine KA_nmS (by repeat' (with_reducible first | assumption | (refine Kp_uI ?_ (by decide) (by decide)) | refine Kp_uA ?_ | refine Kp_uB ?_ | refine Kp_uM ?_ | refine Kp_uJ ?_)) (fun _ _ => ?_)
    | refine KA_nmV (fun _ => ?_)
    | (rw [if_pos rfl]))
theorem k_m6_workOut_18 {n : Nat} {k : Nat} {y4 : Int32} {y5 : Int32} (h : Kp σ0 s) : KA σ0 (m6_workOut_18 n k y4 y5 s) := k_m6_workOut_18_l k y4 y5 s h
theorem k_m6_workOut {n : Nat} {a1 : Int32} (h : Kp σ0 s) : KA σ0 (m6_workOut n a1 s) := by
  unfold m6_workOut
  repeat' (with_reducible first
    | exact KA_ret (by repeat' (with_reducible first | assumption | (refine Kp_uI ?_ (by decide) (by decide)) | refine Kp_uA ?_ | refine Kp_uB ?_ | refine Kp_uM ?_ | refine Kp_uJ ?_))
    | refine KA_bv (k_m6_beginSum (by repeat' (with_reducible first | assumption | (refine Kp_uI ?_ (by decide) (by decide)) | refine Kp_uA ?_ | refine Kp_uB ?_ | refine Kp_uM ?_ | refine Kp_uJ ?_))) (fun _ _ => ?_)
    | exact k_m6_workOut_18 (by repeat' (with_reducible first | assumption | (refine Kp_uI ?_ (by decide) (by decide)) | refine Kp_uA ?_ | refine Kp_uB ?_ | refine Kp_uM ?_ | refine Kp_uJ ?_))
    | refine KA_bi (k_m6_workOut_18 (by repeat' (with_reducible first | assumption | (refine Kp_uI ?_ (by decide) (by decide)) | refine Kp_uA ?_ | refine Kp_uB ?_ | refine Kp_uM ?_ | refine Kp_uJ ?_))) (fun _ _ _ => ?_)
    | refine KA_bl (k_m6_workOut_18 (by repeat' (with_reducible first | assumption | (refine Kp_uI ?_ (by decide) (by decide)) | refine Kp_uA ?_ | refine Kp_uB ?_ | refine Kp_uM ?_ | refine Kp_uJ ?_))) (fun _ _ _ => ?_)
    | refine KA_ite (fun _ => ?_) (fun _ => ?_)
    | refine KA_ck ?_
    | refine KA_dvl ?_
    | refine KA_nmS (by repeat' (with_reducible first | assumption | (refine Kp_uI ?_ (by decide) (by decide)) | refine Kp_uA ?_ | refine Kp_uB ?_ | refine Kp_uM ?_ | refine Kp_uJ ?_)) (fun _ _ => ?_)
    | refine KA_nmV (fun _ => ?_)
    | (rw [if_pos rfl]))
theorem k_m6_faultCode {n : Nat} (h : Kp σ0 s) : KA σ0 (m6_faultCode n s) := by
  unfold m6_faultCode
  repeat' (with_reducible first
    | exact KA_ret (by repeat' (with_reducible first | assumption | (refine Kp_uI ?_ (by decide) (by decide)) | refine Kp_uA ?_ | refine Kp_uB ?_ | refine Kp_uM ?_ | refine Kp_uJ ?_))
    | refine KA_ite (fun _ => ?_) (fun _ => ?_)
    | refine KA_ck ?_
    | refine KA_dvl ?_
    | refine KA_nmS (by repeat' (with_reducible first | assumption | (refine Kp_uI ?_ (by decide) (by decide)) | refine Kp_uA ?_ | refine Kp_uB ?_ | refine Kp_uM ?_ | refine Kp_uJ ?_)) (fun _ _ => ?_)
    | refine KA_nmV (fun _ => ?_)
    | (rw [if_pos rfl]))
theorem k_m6_faultToken {n : Nat} (h : Kp σ0 s) : KA σ0 (m6_faultToken n s) := by
  unfold m6_faultToken
  repeat' (with_reducible first
    | exact KA_ret (by repeat' (with_reducible first | assumption | (refine Kp_uI ?_ (by decide) (by decide)) | refine Kp_uA ?_ | refine Kp_uB ?_ | refine Kp_uM ?_ | refine Kp_uJ ?_))
    | refine KA_ite (fun _ => ?_) (fun _ => ?_)
    | refine KA_ck ?_
    | refine KA_dvl ?_
    | refine KA_nmS (by repeat' (with_reducible first | assumption | (refine Kp_uI ?_ (by decide) (by decide)) | refine Kp_uA ?_ | refine Kp_uB ?_ | refine Kp_uM ?_ | refine Kp_uJ ?_)) (fun _ _ => ?_)
    | refine KA_nmV (fun _ => ?_)
    | (rw [if_pos rfl]))
theorem k_m6_next {n : Nat} (h : Kp σ0 s) : KA σ0 (m6_next n s) := by
  unfold m6_next
  repeat' (with_reducible first
    | exact KA_ret (by repeat' (with_reducible first | assumption | (refine Kp_uI ?_ (by decide) (by decide)) | refine Kp_uA ?_ | refine Kp_uB ?_ | refine Kp_uM ?_ | refine Kp_uJ ?_))
    | refine KA_ite (fun _ => ?_) (fun _ => ?_)
    | refine KA_ck ?_
    | refine KA_dvl ?_
    | refine KA_nmS (by repeat' (with_reducible first | assumption | (refine Kp_uI ?_ (by decide) (by decide)) | refine Kp_uA ?_ | refine Kp_uB ?_ | refine Kp_uM ?_ | refine Kp_uJ ?_)) (fun _ _ => ?_)
    | refine KA_nmV (fun _ => ?_)
    | (rw [if_pos rfl]))
theorem k_m6_result {n : Nat} (h : Kp σ0 s) : KA σ0 (m6_result n s) := by
  unfold m6_result
  repeat' (with_reducible first
    | exact KA_ret (by repeat' (with_reducible first | assumption | (refine Kp_uI ?_ (by decide) (by decide)) | refine Kp_uA ?_ | refine Kp_uB ?_ | refine Kp_uM ?_ | refine Kp_uJ ?_))
    | refine KA_ite (fun _ => ?_) (fun _ => ?_)
    | refine KA_ck ?_
    | refine KA_dvl ?_
    | refine KA_nmS (by repeat' (with_reducible first | assumption | (refine Kp_uI ?_ (by decide) (by decide)) | refine Kp_uA ?_ | refine Kp_uB ?_ | refine Kp_uM ?_ | refine Kp_uJ ?_)) (fun _ _ => ?_)
    | refine KA_nmV (fun _ => ?_)
    | (rw [if_pos rfl]))
theorem k_m0_has {n : Nat} {a1 : Int32} (h : Kp σ0 s) : KA σ0 (m0_has n a1 s) := by
  unfold m0_has
  repeat' (with_reducible first
    | exact KA_ret (by repeat' (with_reducible first | assumption | (refine Kp_uI ?_ (by decide) (by decide)) | refine Kp_uA ?_ | refine Kp_uB ?_ | refine Kp_uM ?_ | refine Kp_uJ ?_))
    | refine KA_ite (fun _ => ?_) (fun _ => ?_)
    | refine KA_ck ?_
    | refine KA_dvl ?_
    | refine KA_nmS (by repeat' (with_reducible first | assumption | (refine Kp_uI ?_ (by decide) (by decide)) | refine Kp_uA ?_ | refine Kp_uB ?_ | refine Kp_uM ?_ | refine Kp_uJ ?_)) (fun _ _ => ?_)
    | refine KA_nmV (fun _ => ?_)
    | (rw [if_pos rfl]))
theorem k_m0_find_3_l {n : Nat} : ∀ (k : Nat) (y1 : Int64) (y2 : Int32) (y3 : Int32) (s : ej_S), Kp σ0 s → KA σ0 (m0_find_3 n k y1 y2 y3 s) := by
  intro k
  induction k with
  | zero => intros; exact KA_none
  | succ k ih =>
  intro y1 y2 y3 s hs
  rw [u_0_find_3]
  repeat' (with_reducible first
    | exact KA_ret (by repeat' (with_reducible first | assumption | (refine Kp_uI ?_ (by decide) (by decide)) | refine Kp_uA ?_ | refine Kp_uB ?_ | refine Kp_uM ?_ | refine Kp_uJ ?_))
    | exact ih _ _ _ _ (by repeat' (with_reducible first | assumption | (refine Kp_uI ?_ (by decide) (by decide)) | refine Kp_uA ?_ | refine Kp_uB ?_ | refine Kp_uM ?_ | refine Kp_uJ ?_))
    | refine KA_ite (fun _ => ?_) (fun _ => ?_)
    | refine KA_ck ?_
    | refine KA_dvl ?_
    | refine KA_nmS (by repeat' (with_reducible first | assumption | (refine Kp_uI ?_ (by decide) (by decide)) | refine Kp_uA ?_ | refine Kp_uB ?_ | refine Kp_uM ?_ | refine Kp_uJ ?_)) (fun _ _ => ?_)
    | refine KA_nmV (fun _ => ?_)
    | (rw [if_pos rfl]))
theorem k_m0_find_3 {n : Nat} {k : Nat} {y1 : Int64} {y2 : Int32} {y3 : Int32} (h : Kp σ0 s) : KA σ0 (m0_find_3 n k y1 y2 y3 s) := k_m0_find_3_l k y1 y2 y3 s h
theorem k_m0_find {n : Nat} {a1 : Int64} {a2 : Int32} (h : Kp σ0 s) : KA σ0 (m0_find n a1 a2 s) := by
  unfold m0_find
  repeat' (with_reducible first
    | exact KA_ret (by repeat' (with_reducible first | assumption | (refine Kp_uI ?_ (by decide) (by decide)) | refine Kp_uA ?_ | refine Kp_uB ?_ | refine Kp_uM ?_ | refine Kp_uJ ?_))
    | exact k_m0_find_3 (by repeat' (with_reducible first | assumption | (refine Kp_uI ?_ (by decide) (by decide)) | refine Kp_uA ?_ | refine Kp_uB ?_ | refine Kp_uM ?_ | refine Kp_uJ ?_))
    | refine KA_bi (k_m0_find_3 (by repeat' (with_reducible first | assumption | (refine Kp_uI ?_ (by decide) (by decide)) | refine Kp_uA ?_ | refine Kp_uB ?_ | refine Kp_uM ?_ | refine Kp_uJ ?_))) (fun _ _ _ => ?_)
    | refine KA_bl (k_m0_find_3 (by repeat' (with_reducible first | assumption | (refine Kp_uI ?_ (by decide) (by decide)) | refine Kp_uA ?_ | refine Kp_uB ?_ | refine Kp_uM ?_ | refine Kp_uJ ?_))) (fun _ _ _ => ?_)
    | refine KA_ite (fun _ => ?_) (fun _ => ?_)
    | refine KA_ck ?_
    | refine KA_dvl ?_
    | refine KA_nmS (by repeat' (with_reducible first | assumption | (refine Kp_uI ?_ (by decide) (by decide)) | refine Kp_uA ?_ | refine Kp_uB ?_ | refine Kp_uM ?_ | refine Kp_uJ ?_)) (fun _ _ => ?_)
    | refine KA_nmV (fun _ => ?_)
    | (rw [if_pos rfl]))
theorem k_m0_nodeFor_121 {n : Nat} (h : Kp σ0 s) : KA σ0 (m0_nodeFor_121 n s) := by
  unfold m0_nodeFor_121
  repeat' (with_reducible first
    | exact KA_ret (by repeat' (with_reducible first | assumption | (refine Kp_uI ?_ (by decide) (by decide)) | refine Kp_uA ?_ | refine Kp_uB ?_ | refine Kp_uM ?_ | refine Kp_uJ ?_))
    | refine KA_ite (fun _ => ?_) (fun _ => ?_)
    | refine KA_ck ?_
    | refine KA_dvl ?_
    | refine KA_nmS (by repeat' (with_reducible first | assumption | (refine Kp_uI ?_ (by decide) (by decide)) | refine Kp_uA ?_ | refine Kp_uB ?_ | refine Kp_uM ?_ | refine Kp_uJ ?_)) (fun _ _ => ?_)
    | refine KA_nmV (fun _ => ?_)
    | (rw [if_pos rfl]))
theorem k_m0_nodeFor_94 {n : Nat} {y11 : Int64} {y12 : Int32} {y13 : Int32} (h : Kp σ0 s) : KA σ0 (m0_nodeFor_94 n y11 y12 y13 s) := by
  unfold m0_nodeFor_94
  repeat' (with_reducible first
    | exact KA_ret (by repeat' (with_reducible first | assumption | (refine Kp_uI ?_ (by decide) (by decide)) | refine Kp_uA ?_ | refine Kp_uB ?_ | refine Kp_uM ?_ | refine Kp_uJ ?_))
    | exact k_m0_nodeFor_121 (by repeat' (with_reducible first | assumption | (refine Kp_uI ?_ (by decide) (by decide)) | refine Kp_uA ?_ | refine Kp_uB ?_ | refine Kp_uM ?_ | refine Kp_uJ ?_))
    | refine KA_bi (k_m0_nodeFor_121 (by repeat' (with_reducible first | assumption | (refine Kp_uI ?_ (by decide) (by decide)) | refine Kp_uA ?_ | refine Kp_uB ?_ | refine Kp_uM ?_ | refine Kp_uJ ?_))) (fun _ _ _ => ?_)
    | refine KA_bl (k_m0_nodeFor_121 (by repeat' (with_reducible first | assumption | (refine Kp_uI ?_ (by decide) (by decide)) | refine Kp_uA ?_ | refine Kp_uB ?_ | refine Kp_uM ?_ | refine Kp_uJ ?_))) (fun _ _ _ => ?_)
    | exact k_m10_nameByte (by repeat' (with_reducible first | assumption | (refine Kp_uI ?_ (by decide) (by decide)) | refine Kp_uA ?_ | refine Kp_uB ?_ | refine Kp_uM ?_ | refine Kp_uJ ?_))
    | refine KA_bi (k_m10_nameByte (by repeat' (with_reducible first | assumption | (refine Kp_uI ?_ (by decide) (by decide)) | refine Kp_uA ?_ | refine Kp_uB ?_ | refine Kp_uM ?_ | refine Kp_uJ ?_))) (fun _ _ _ => ?_)
    | refine KA_bl (k_m10_nameByte (by repeat' (with_reducible first | assumption | (refine Kp_uI ?_ (by decide) (by decide)) | refine Kp_uA ?_ | refine Kp_uB ?_ | refine Kp_uM ?_ | refine Kp_uJ ?_))) (fun _ _ _ => ?_)
    | exact k_m10_setOf (by repeat' (with_reducible first | assumption | (refine Kp_uI ?_ (by decide) (by decide)) | refine Kp_uA ?_ | refine Kp_uB ?_ | refine Kp_uM ?_ | refine Kp_uJ ?_))
    | refine KA_bi (k_m10_setOf (by repeat' (with_reducible first | assumption | (refine Kp_uI ?_ (by decide) (by decide)) | refine Kp_uA ?_ | refine Kp_uB ?_ | refine Kp_uM ?_ | refine Kp_uJ ?_))) (fun _ _ _ => ?_)
    | refine KA_bl (k_m10_setOf (by repeat' (with_reducible first | assumption | (refine Kp_uI ?_ (by decide) (by decide)) | refine Kp_uA ?_ | refine Kp_uB ?_ | refine Kp_uM ?_ | refine Kp_uJ ?_))) (fun _ _ _ => ?_)
    | refine KA_ite (fun _ => ?_) (fun _ => ?_)
    | refine KA_ck ?_
    | refine KA_dvl ?_
    | refine KA_nmS (by repeat' (with_reducible first | assumption | (refine Kp_uI ?_ (by decide) (by decide)) | refine Kp_uA ?_ | refine Kp_uB ?_ | refine Kp_uM ?_ | refine Kp_uJ ?_)) (fun _ _ => ?_)
    | refine KA_nmV (fun _ => ?_)
    | (rw [if_pos rfl]))
theorem k_m0_nodeFor_32 {n : Nat} {y5 : Int64} {y6 : Int32} {y7 : Int32} {y8 : Int32} (h : Kp σ0 s) : KA σ0 (m0_nodeFor_32 n y5 y6 y7 y8 s) := by
  unfold m0_nodeFor_32
  repeat' (with_reducible first
    | exact KA_ret (by repeat' (with_reducible first | assumption | (refine Kp_uI ?_ (by decide) (by decide)) | refine Kp_uA ?_ | refine Kp_uB ?_ | refine Kp_uM ?_ | refine Kp_uJ ?_))
    | exact k_m0_nodeFor_94 (by repeat' (with_reducible first | assumption | (refine Kp_uI ?_ (by decide) (by decide)) | refine Kp_uA ?_ | refine Kp_uB ?_ | refine Kp_uM ?_ | refine Kp_uJ ?_))
    | refine KA_bi (k_m0_nodeFor_94 (by repeat' (with_reducible first | assumption | (refine Kp_uI ?_ (by decide) (by decide)) | refine Kp_uA ?_ | refine Kp_uB ?_ | refine Kp_uM ?_ | refine Kp_uJ ?_))) (fun _ _ _ => ?_)
    | refine KA_bl (k_m0_nodeFor_94 (by repeat' (with_reducible first | assumption | (refine Kp_uI ?_ (by decide) (by decide)) | refine Kp_uA ?_ | refine Kp_uB ?_ | refine Kp_uM ?_ | refine Kp_uJ ?_))) (fun _ _ _ => ?_)
    | refine KA_ite (fun _ => ?_) (fun _ => ?_)
    | refine KA_ck ?_
    | refine KA_dvl ?_
    | refine KA_nmS (by repeat' (with_reducible first | assumption | (refine Kp_uI ?_ (by decide) (by decide)) | refine Kp_uA ?_ | refine Kp_uB ?_ | refine Kp_uM ?_ | refine Kp_uJ ?_)) (fun _ _ => ?_)
    | refine KA_nmV (fun _ => ?_)
    | (rw [if_pos rfl]))
theorem k_m0_nodeFor {n : Nat} {a1 : Int64} {a2 : Int32} {a3 : Int32} (h : Kp σ0 s) : KA σ0 (m0_nodeFor n a1 a2 a3 s) := by
  unfold m0_nodeFor
  repeat' (with_reducible first
    | exact KA_ret (by repeat' (with_reducible first | assumption | (refine Kp_uI ?_ (by decide) (by decide)) | refine Kp_uA ?_ | refine Kp_uB ?_ | refine Kp_uM ?_ | refine Kp_uJ ?_))
    | exact k_m0_find (by repeat' (with_reducible first | assumption | (refine Kp_uI ?_ (by decide) (by decide)) | refine Kp_uA ?_ | refine Kp_uB ?_ | refine Kp_uM ?_ | refine Kp_uJ ?_))
    | refine KA_bi (k_m0_find (by repeat' (with_reducible first | assumption | (refine Kp_uI ?_ (by decide) (by decide)) | refine Kp_uA ?_ | refine Kp_uB ?_ | refine Kp_uM ?_ | refine Kp_uJ ?_))) (fun _ _ _ => ?_)
    | refine KA_bl (k_m0_find (by repeat' (with_reducible first | assumption | (refine Kp_uI ?_ (by decide) (by decide)) | refine Kp_uA ?_ | refine Kp_uB ?_ | refine Kp_uM ?_ | refine Kp_uJ ?_))) (fun _ _ _ => ?_)
    | exact k_m0_nodeFor_32 (by repeat' (with_reducible first | assumption | (refine Kp_uI ?_ (by decide) (by decide)) | refine Kp_uA ?_ | refine Kp_uB ?_ | refine Kp_uM ?_ | refine Kp_uJ ?_))
    | refine KA_bi (k_m0_nodeFor_32 (by repeat' (with_reducible first | assumption | (refine Kp_uI ?_ (by decide) (by decide)) | refine Kp_uA ?_ | refine Kp_uB ?_ | refine Kp_uM ?_ | refine Kp_uJ ?_))) (fun _ _ _ => ?_)
    | refine KA_bl (k_m0_nodeFor_32 (by repeat' (with_reducible first | assumption | (refine Kp_uI ?_ (by decide) (by decide)) | refine Kp_uA ?_ | refine Kp_uB ?_ | refine Kp_uM ?_ | refine Kp_uJ ?_))) (fun _ _ _ => ?_)
    | refine KA_ite (fun _ => ?_) (fun _ => ?_)
    | refine KA_ck ?_
    | refine KA_dvl ?_
    | refine KA_nmS (by repeat' (with_reducible first | assumption | (refine Kp_uI ?_ (by decide) (by decide)) | refine Kp_uA ?_ | refine Kp_uB ?_ | refine Kp_uM ?_ | refine Kp_uJ ?_)) (fun _ _ => ?_)
    | refine KA_nmV (fun _ => ?_)
    | (rw [if_pos rfl]))
theorem k_m0_addLink_104 {n : Nat} {y24 : Int32} {y25 : Int32} {y26 : Int32} (h : Kp σ0 s) : KV σ0 (m0_addLink_104 n y24 y25 y26 s) := by
  unfold m0_addLink_104
  repeat' (with_reducible first
    | exact KV_ret (by repeat' (with_reducible first | assumption | (refine Kp_uI ?_ (by decide) (by decide)) | refine Kp_uA ?_ | refine Kp_uB ?_ | refine Kp_uM ?_ | refine Kp_uJ ?_))
    | refine KV_bi (k_m10_setOf (by repeat' (with_reducible first | assumption | (refine Kp_uI ?_ (by decide) (by decide)) | refine Kp_uA ?_ | refine Kp_uB ?_ | refine Kp_uM ?_ | refine Kp_uJ ?_))) (fun _ _ _ => ?_)
    | refine KV_bl (k_m10_setOf (by repeat' (with_reducible first | assumption | (refine Kp_uI ?_ (by decide) (by decide)) | refine Kp_uA ?_ | refine Kp_uB ?_ | refine Kp_uM ?_ | refine Kp_uJ ?_))) (fun _ _ _ => ?_)
    | refine KV_ite (fun _ => ?_) (fun _ => ?_)
    | refine KV_ck ?_
    | refine KV_dvl ?_
    | refine KV_nmS (by repeat' (with_reducible first | assumption | (refine Kp_uI ?_ (by decide) (by decide)) | refine Kp_uA ?_ | refine Kp_uB ?_ | refine Kp_uM ?_ | refine Kp_uJ ?_)) (fun _ _ => ?_)
    | refine KV_nmV (fun _ => ?_)
    | (rw [if_pos rfl]))
theorem k_m0_addLink_69 {n : Nat} {y12 : Int32} {y13 : Int32} {y14 : Int32} {y15 : Int32} (h : Kp σ0 s) : KV σ0 (m0_addLink_69 n y12 y13 y14 y15 s) := by
  unfold m0_addLink_69
  repeat' (with_reducible first
    | exact KV_ret (by repeat' (with_reducible first | assumption | (refine Kp_uI ?_ (by decide) (by decide)) | refine Kp_uA ?_ | refine Kp_uB ?_ | refine Kp_uM ?_ | refine Kp_uJ ?_))
    | exact k_m0_addLink_104 (by repeat' (with_reducible first | assumption | (refine Kp_uI ?_ (by decide) (by decide)) | refine Kp_uA ?_ | refine Kp_uB ?_ | refine Kp_uM ?_ | refine Kp_uJ ?_))
    | refine KV_bv (k_m0_addLink_104 (by repeat' (with_reducible first | assumption | (refine Kp_uI ?_ (by decide) (by decide)) | refine Kp_uA ?_ | refine Kp_uB ?_ | refine Kp_uM ?_ | refine Kp_uJ ?_))) (fun _ _ => ?_)
    | refine KV_bi (k_m10_setOf (by repeat' (with_reducible first | assumption | (refine Kp_uI ?_ (by decide) (by decide)) | refine Kp_uA ?_ | refine Kp_uB ?_ | refine Kp_uM ?_ | refine Kp_uJ ?_))) (fun _ _ _ => ?_)
    | refine KV_bl (k_m10_setOf (by repeat' (with_reducible first | assumption | (refine Kp_uI ?_ (by decide) (by decide)) | refine Kp_uA ?_ | refine Kp_uB ?_ | refine Kp_uM ?_ | refine Kp_uJ ?_))) (fun _ _ _ => ?_)
    | refine KV_ite (fun _ => ?_) (fun _ => ?_)
    | refine KV_ck ?_
    | refine KV_dvl ?_
    | refine KV_nmS (by repeat' (with_reducible first | assumption | (refine Kp_uI ?_ (by decide) (by decide)) | refine Kp_uA ?_ | refine Kp_uB ?_ | refine Kp_uM ?_ | refine Kp_uJ ?_)) (fun _ _ => ?_)
    | refine KV_nmV (fun _ => ?_)
    | (rw [if_pos rfl]))
theorem k_m0_addLink_52 {n : Nat} {y7 : Int32} {y8 : Int32} {y9 : Int32} {y10 : Int32} {y11 : Int32} (h : Kp σ0 s) : KV σ0 (m0_addLink_52 n y7 y8 y9 y10 y11 s) := by
  unfold m0_addLink_52
  repeat' (with_reducible first
    | exact KV_ret (by repeat' (with_reducible first | assumption | (refine Kp_uI ?_ (by decide) (by decide)) | refine Kp_uA ?_ | refine Kp_uB ?_ | refine Kp_uM ?_ | refine Kp_uJ ?_))
    | exact k_m0_addLink_104 (by repeat' (with_reducible first | assumption | (refine Kp_uI ?_ (by decide) (by decide)) | refine Kp_uA ?_ | refine Kp_uB ?_ | refine Kp_uM ?_ | refine Kp_uJ ?_))
    | refine KV_bv (k_m0_addLink_104 (by repeat' (with_reducible first | assumption | (refine Kp_uI ?_ (by decide) (by decide)) | refine Kp_uA ?_ | refine Kp_uB ?_ | refine Kp_uM ?_ | refine Kp_uJ ?_))) (fun _ _ => ?_)
    | exact k_m0_addLink_69 (by repeat' (with_reducible first | assumption | (refine Kp_uI ?_ (by decide) (by decide)) | refine Kp_uA ?_ | refine Kp_uB ?_ | refine Kp_uM ?_ | refine Kp_uJ ?_))
    | refine KV_bv (k_m0_addLink_69 (by repeat' (with_reducible first | assumption | (refine Kp_uI ?_ (by decide) (by decide)) | refine Kp_uA ?_ | refine Kp_uB ?_ | refine Kp_uM ?_ | refine Kp_uJ ?_))) (fun _ _ => ?_)
    | refine KV_ite (fun _ => ?_) (fun _ => ?_)
    | refine KV_ck ?_
    | refine KV_dvl ?_
    | refine KV_nmS (by repeat' (with_reducible first | assumption | (refine Kp_uI ?_ (by decide) (by decide)) | refine Kp_uA ?_ | refine Kp_uB ?_ | refine Kp_uM ?_ | refine Kp_uJ ?_)) (fun _ _ => ?_)
    | refine KV_nmV (fun _ => ?_)
    | (rw [if_pos rfl]))
theorem k_m0_addLink {n : Nat} {a1 : Int32} {a2 : Int32} {a3 : Int32} {a4 : Int32} (h : Kp σ0 s) : KV σ0 (m0_addLink n a1 a2 a3 a4 s) := by
  unfold m0_addLink
  repeat' (with_reducible first
    | exact KV_ret (by repeat' (with_reducible first | assumption | (refine Kp_uI ?_ (by decide) (by decide)) | refine Kp_uA ?_ | refine Kp_uB ?_ | refine Kp_uM ?_ | refine Kp_uJ ?_))
    | exact k_m0_addLink_52 (by repeat' (with_reducible first | assumption | (refine Kp_uI ?_ (by decide) (by decide)) | refine Kp_uA ?_ | refine Kp_uB ?_ | refine Kp_uM ?_ | refine Kp_uJ ?_))
    | refine KV_bv (k_m0_addLink_52 (by repeat' (with_reducible first | assumption | (refine Kp_uI ?_ (by decide) (by decide)) | refine Kp_uA ?_ | refine Kp_uB ?_ | refine Kp_uM ?_ | refine Kp_uJ ?_))) (fun _ _ => ?_)
    | refine KV_bi (k_m0_has (by repeat' (with_reducible first | assumption | (refine Kp_uI ?_ (by decide) (by decide)) | refine Kp_uA ?_ | refine Kp_uB ?_ | refine Kp_uM ?_ | refine Kp_uJ ?_))) (fun _ _ _ => ?_)
    | refine KV_bl (k_m0_has (by repeat' (with_reducible first | assumption | (refine Kp_uI ?_ (by decide) (by decide)) | refine Kp_uA ?_ | refine Kp_uB ?_ | refine Kp_uM ?_ | refine Kp_uJ ?_))) (fun _ _ _ => ?_)
    | refine KV_bi (k_m10_holds (by repeat' (with_reducible first | assumption | (refine Kp_uI ?_ (by decide) (by decide)) | refine Kp_uA ?_ | refine Kp_uB ?_ | refine Kp_uM ?_ | refine Kp_uJ ?_))) (fun _ _ _ => ?_)
    | refine KV_bl (k_m10_holds (by repeat' (with_reducible first | assumption | (refine Kp_uI ?_ (by decide) (by decide)) | refine Kp_uA ?_ | refine Kp_uB ?_ | refine Kp_uM ?_ | refine Kp_uJ ?_))) (fun _ _ _ => ?_)
    | refine KV_ite (fun _ => ?_) (fun _ => ?_)
    | refine KV_ck ?_
    | refine KV_dvl ?_
    | refine KV_nmS (by repeat' (with_reducible first | assumption | (refine Kp_uI ?_ (by decide) (by decide)) | refine Kp_uA ?_ | refine Kp_uB ?_ | refine Kp_uM ?_ | refine Kp_uJ ?_)) (fun _ _ => ?_)
    | refine KV_nmV (fun _ => ?_)
    | (rw [if_pos rfl]))
theorem k_m0_addAlias {n : Nat} {a1 : Int32} {a2 : Int32} (h : Kp σ0 s) : KV σ0 (m0_addAlias n a1 a2 s) := by
  unfold m0_addAlias
  repeat' (with_reducible first
    | exact KV_ret (by repeat' (with_reducible first | assumption | (refine Kp_uI ?_ (by decide) (by decide)) | refine Kp_uA ?_ | refine Kp_uB ?_ | refine Kp_uM ?_ | refine Kp_uJ ?_))
    | refine KV_bi (k_m0_has (by repeat' (with_reducible first | assumption | (refine Kp_uI ?_ (by decide) (by decide)) | refine Kp_uA ?_ | refine Kp_uB ?_ | refine Kp_uM ?_ | refine Kp_uJ ?_))) (fun _ _ _ => ?_)
    | refine KV_bl (k_m0_has (by repeat' (with_reducible first | assumption | (refine Kp_uI ?_ (by decide) (by decide)) | refine Kp_uA ?_ | refine Kp_uB ?_ | refine Kp_uM ?_ | refine Kp_uJ ?_))) (fun _ _ _ => ?_)
    | refine KV_bi (k_m10_setOf (by repeat' (with_reducible first | assumption | (refine Kp_uI ?_ (by decide) (by decide)) | refine Kp_uA ?_ | refine Kp_uB ?_ | refine Kp_uM ?_ | refine Kp_uJ ?_))) (fun _ _ _ => ?_)
    | refine KV_bl (k_m10_setOf (by repeat' (with_reducible first | assumption | (refine Kp_uI ?_ (by decide) (by decide)) | refine Kp_uA ?_ | refine Kp_uB ?_ | refine Kp_uM ?_ | refine Kp_uJ ?_))) (fun _ _ _ => ?_)
    | refine KV_ite (fun _ => ?_) (fun _ => ?_)
    | refine KV_ck ?_
    | refine KV_dvl ?_
    | refine KV_nmS (by repeat' (with_reducible first | assumption | (refine Kp_uI ?_ (by decide) (by decide)) | refine Kp_uA ?_ | refine Kp_uB ?_ | refine Kp_uM ?_ | refine Kp_uJ ?_)) (fun _ _ => ?_)
    | refine KV_nmV (fun _ => ?_)
    | (rw [if_pos rfl]))
theorem k_m0_addMembers_117 {n : Nat} {y17 : Int32} {y18 : Int32} {y19 : Int32} {y20 : Int32} {y21 : Int32} {y22 : Int32} {u23 : Nat} {f43 : Int32 → Int32 → Int32 → Int32 → ej_S → Option (ej_S)} (hf43 : ∀ (a0 : Int32) (a1 : Int32) (a2 : Int32) (a3 : Int32) (s : ej_S), Kp σ0 s → KV σ0 (f43 a0 a1 a2 a3 s)) (h : Kp σ0 s) : KV σ0 (m0_addMembers_117 n f43 y17 y18 y19 y20 y21 y22 u23 s) := by
  unfold m0_addMembers_117
  repeat' (with_reducible first
    | exact KV_ret (by repeat' (with_reducible first | assumption | (refine Kp_uI ?_ (by decide) (by decide)) | refine Kp_uA ?_ | refine Kp_uB ?_ | refine Kp_uM ?_ | refine Kp_uJ ?_))
    | refine KV_bi (k_m10_setOf (by repeat' (with_reducible first | assumption | (refine Kp_uI ?_ (by decide) (by decide)) | refine Kp_uA ?_ | refine Kp_uB ?_ | refine Kp_uM ?_ | refine Kp_uJ ?_))) (fun _ _ _ => ?_)
    | refine KV_bl (k_m10_setOf (by repeat' (with_reducible first | assumption | (refine Kp_uI ?_ (by decide) (by decide)) | refine Kp_uA ?_ | refine Kp_uB ?_ | refine Kp_uM ?_ | refine Kp_uJ ?_))) (fun _ _ _ => ?_)
    | exact hf43 _ _ _ _ _ (by repeat' (with_reducible first | assumption | (refine Kp_uI ?_ (by decide) (by decide)) | refine Kp_uA ?_ | refine Kp_uB ?_ | refine Kp_uM ?_ | refine Kp_uJ ?_))
    | refine KV_ite (fun _ => ?_) (fun _ => ?_)
    | refine KV_ck ?_
    | refine KV_dvl ?_
    | refine KV_nmS (by repeat' (with_reducible first | assumption | (refine Kp_uI ?_ (by decide) (by decide)) | refine Kp_uA ?_ | refine Kp_uB ?_ | refine Kp_uM ?_ | refine Kp_uJ ?_)) (fun _ _ => ?_)
    | refine KV_nmV (fun _ => ?_)
    | (rw [if_pos rfl]))
theorem k_m0_addMembers_43_l {n : Nat} : ∀ (k : Nat) (y6 : Int32) (y7 : Int32) (y8 : Int32) (y9 : Int32) (s : ej_S), Kp σ0 s → KV σ0 (m0_addMembers_43 n k y6 y7 y8 y9 s) := by
  intro k
  induction k with
  | zero => intros; exact KV_none
  | succ k ih =>
  intro y6 y7 y8 y9 s hs
  rw [u_0_addMembers_43]
  repeat' (with_reducible first
    | exact KV_ret (by repeat' (with_reducible first | assumption | (refine Kp_uI ?_ (by decide) (by decide)) | refine Kp_uA ?_ | refine Kp_uB ?_ | refine Kp_uM ?_ | refine Kp_uJ ?_))
    | exact k_m0_addMembers_117 ih (by repeat' (with_reducible first | assumption | (refine Kp_uI ?_ (by decide) (by decide)) | refine Kp_uA ?_ | refine Kp_uB ?_ | refine Kp_uM ?_ | refine Kp_uJ ?_))
    | refine KV_bv (k_m0_addMembers_117 ih (by repeat' (with_reducible first | assumption | (refine Kp_uI ?_ (by decide) (by decide)) | refine Kp_uA ?_ | refine Kp_uB ?_ | refine Kp_uM ?_ | refine Kp_uJ ?_))) (fun _ _ => ?_)
    | refine KV_bi (k_m10_holds (by repeat' (with_reducible first | assumption | (refine Kp_uI ?_ (by decide) (by decide)) | refine Kp_uA ?_ | refine Kp_uB ?_ | refine Kp_uM ?_ | refine Kp_uJ ?_))) (fun _ _ _ => ?_)
    | refine KV_bl (k_m10_holds (by repeat' (with_reducible first | assumption | (refine Kp_uI ?_ (by decide) (by decide)) | refine Kp_uA ?_ | refine Kp_uB ?_ | refine Kp_uM ?_ | refine Kp_uJ ?_))) (fun _ _ _ => ?_)
    | exact ih _ _ _ _ _ (by repeat' (with_reducible first | assumption | (refine Kp_uI ?_ (by decide) (by decide)) | refine Kp_uA ?_ | refine Kp_uB ?_ | refine Kp_uM ?_ | refine Kp_uJ ?_))
    | refine KV_ite (fun _ => ?_) (fun _ => ?_)
    | refine KV_ck ?_
    | refine KV_dvl ?_
    | refine KV_nmS (by repeat' (with_reducible first | assumption | (refine Kp_uI ?_ (by decide) (by decide)) | refine Kp_uA ?_ | refine Kp_uB ?_ | refine Kp_uM ?_ | refine Kp_uJ ?_)) (fun _ _ => ?_)
    | refine KV_nmV (fun _ => ?_)
    | (rw [if_pos rfl]))
theorem k_m0_addMembers_43 {n : Nat} {k : Nat} {y6 : Int32} {y7 : Int32} {y8 : Int32} {y9 : Int32} (h : Kp σ0 s) : KV σ0 (m0_addMembers_43 n k y6 y7 y8 y9 s) := k_m0_addMembers_43_l k y6 y7 y8 y9 s h
theorem k_m0_addMembers {n : Nat} {a1 : Int32} {a2 : Int32} {a3 : Int32} {a4 : Int32} (h : Kp σ0 s) : KV σ0 (m0_addMembers n a1 a2 a3 a4 s) := by
  unfold m0_addMembers
  repeat' (with_reducible first
    | exact KV_ret (by repeat' (with_reducible first | assumption | (refine Kp_uI ?_ (by decide) (by decide)) | refine Kp_uA ?_ | refine Kp_uB ?_ | refine Kp_uM ?_ | refine Kp_uJ ?_))
    | exact k_m0_addMembers_43 (by repeat' (with_reducible first | assumption | (refine Kp_uI ?_ (by decide) (by decide)) | refine Kp_uA ?_ | refine Kp_uB ?_ | refine Kp_uM ?_ | refine Kp_uJ ?_))
    | refine KV_bv (k_m0_addMembers_43 (by repeat' (with_reducible first | assumption | (refine Kp_uI ?_ (by decide) (by decide)) | refine Kp_uA ?_ | refine Kp_uB ?_ | refine Kp_uM ?_ | refine Kp_uJ ?_))) (fun _ _ => ?_)
    | refine KV_bi (k_m0_has (by repeat' (with_reducible first | assumption | (refine Kp_uI ?_ (by decide) (by decide)) | refine Kp_uA ?_ | refine Kp_uB ?_ | refine Kp_uM ?_ | refine Kp_uJ ?_))) (fun _ _ _ => ?_)
    | refine KV_bl (k_m0_has (by repeat' (with_reducible first | assumption | (refine Kp_uI ?_ (by decide) (by decide)) | refine Kp_uA ?_ | refine Kp_uB ?_ | refine Kp_uM ?_ | refine Kp_uJ ?_))) (fun _ _ _ => ?_)
    | refine KV_bi (k_m10_setOf (by repeat' (with_reducible first | assumption | (refine Kp_uI ?_ (by decide) (by decide)) | refine Kp_uA ?_ | refine Kp_uB ?_ | refine Kp_uM ?_ | refine Kp_uJ ?_))) (fun _ _ _ => ?_)
    | refine KV_bl (k_m10_setOf (by repeat' (with_reducible first | assumption | (refine Kp_uI ?_ (by decide) (by decide)) | refine Kp_uA ?_ | refine Kp_uB ?_ | refine Kp_uM ?_ | refine Kp_uJ ?_))) (fun _ _ _ => ?_)
    | refine KV_ite (fun _ => ?_) (fun _ => ?_)
    | refine KV_ck ?_
    | refine KV_dvl ?_
    | refine KV_nmS (by repeat' (with_reducible first | assumption | (refine Kp_uI ?_ (by decide) (by decide)) | refine Kp_uA ?_ | refine Kp_uB ?_ | refine Kp_uM ?_ | refine Kp_uJ ?_)) (fun _ _ => ?_)
    | refine KV_nmV (fun _ => ?_)
    | (rw [if_pos rfl]))
theorem k_m0_gate {n : Nat} {a1 : Int32} (h : Kp σ0 s) : KV σ0 (m0_gate n a1 s) := by
  unfold m0_gate
  repeat' (with_reducible first
    | exact KV_ret (by repeat' (with_reducible first | assumption | (refine Kp_uI ?_ (by decide) (by decide)) | refine Kp_uA ?_ | refine Kp_uB ?_ | refine Kp_uM ?_ | refine Kp_uJ ?_))
    | refine KV_bi (k_m10_setOf (by repeat' (with_reducible first | assumption | (refine Kp_uI ?_ (by decide) (by decide)) | refine Kp_uA ?_ | refine Kp_uB ?_ | refine Kp_uM ?_ | refine Kp_uJ ?_))) (fun _ _ _ => ?_)
    | refine KV_bl (k_m10_setOf (by repeat' (with_reducible first | assumption | (refine Kp_uI ?_ (by decide) (by decide)) | refine Kp_uA ?_ | refine Kp_uB ?_ | refine Kp_uM ?_ | refine Kp_uJ ?_))) (fun _ _ _ => ?_)
    | refine KV_ite (fun _ => ?_) (fun _ => ?_)
    | refine KV_ck ?_
    | refine KV_dvl ?_
    | refine KV_nmS (by repeat' (with_reducible first | assumption | (refine Kp_uI ?_ (by decide) (by decide)) | refine Kp_uA ?_ | refine Kp_uB ?_ | refine Kp_uM ?_ | refine Kp_uJ ?_)) (fun _ _ => ?_)
    | refine KV_nmV (fun _ => ?_)
    | (rw [if_pos rfl]))
theorem k_m0_kill {n : Nat} {a1 : Int32} (h : Kp σ0 s) : KV σ0 (m0_kill n a1 s) := by
  unfold m0_kill
  repeat' (with_reducible first
    | exact KV_ret (by repeat' (with_reducible first | assumption | (refine Kp_uI ?_ (by decide) (by decide)) | refine Kp_uA ?_ | refine Kp_uB ?_ | refine Kp_uM ?_ | refine Kp_uJ ?_))
    | refine KV_bi (k_m10_setOf (by repeat' (with_reducible first | assumption | (refine Kp_uI ?_ (by decide) (by decide)) | refine Kp_uA ?_ | refine Kp_uB ?_ | refine Kp_uM ?_ | refine Kp_uJ ?_))) (fun _ _ _ => ?_)
    | refine KV_bl (k_m10_setOf (by repeat' (with_reducible first | assumption | (refine Kp_uI ?_ (by decide) (by decide)) | refine Kp_uA ?_ | refine Kp_uB ?_ | refine Kp_uM ?_ | refine Kp_uJ ?_))) (fun _ _ _ => ?_)
    | refine KV_ite (fun _ => ?_) (fun _ => ?_)
    | refine KV_ck ?_
    | refine KV_dvl ?_
    | refine KV_nmS (by repeat' (with_reducible first | assumption | (refine Kp_uI ?_ (by decide) (by decide)) | refine Kp_uA ?_ | refine Kp_uB ?_ | refine Kp_uM ?_ | refine Kp_uJ ?_)) (fun _ _ => ?_)
    | refine KV_nmV (fun _ => ?_)
    | (rw [if_pos rfl]))
theorem k_m0_killLink {n : Nat} {a1 : Int32} {a2 : Int32} (h : Kp σ0 s) : KV σ0 (m0_killLink n a1 a2 s) := by
  unfold m0_killLink
  repeat' (with_reducible first
    | exact KV_ret (by repeat' (with_reducible first | assumption | (refine Kp_uI ?_ (by decide) (by decide)) | refine Kp_uA ?_ | refine Kp_uB ?_ | refine Kp_uM ?_ | refine Kp_uJ ?_))
    | refine KV_bi (k_m0_has (by repeat' (with_reducible first | assumption | (refine Kp_uI ?_ (by decide) (by decide)) | refine Kp_uA ?_ | refine Kp_uB ?_ | refine Kp_uM ?_ | refine Kp_uJ ?_))) (fun _ _ _ => ?_)
    | refine KV_bl (k_m0_has (by repeat' (with_reducible first | assumption | (refine Kp_uI ?_ (by decide) (by decide)) | refine Kp_uA ?_ | refine Kp_uB ?_ | refine Kp_uM ?_ | refine Kp_uJ ?_))) (fun _ _ _ => ?_)
    | refine KV_bi (k_m10_setOf (by repeat' (with_reducible first | assumption | (refine Kp_uI ?_ (by decide) (by decide)) | refine Kp_uA ?_ | refine Kp_uB ?_ | refine Kp_uM ?_ | refine Kp_uJ ?_))) (fun _ _ _ => ?_)
    | refine KV_bl (k_m10_setOf (by repeat' (with_reducible first | assumption | (refine Kp_uI ?_ (by decide) (by decide)) | refine Kp_uA ?_ | refine Kp_uB ?_ | refine Kp_uM ?_ | refine Kp_uJ ?_))) (fun _ _ _ => ?_)
    | refine KV_ite (fun _ => ?_) (fun _ => ?_)
    | refine KV_ck ?_
    | refine KV_dvl ?_
    | refine KV_nmS (by repeat' (with_reducible first | assumption | (refine Kp_uI ?_ (by decide) (by decide)) | refine Kp_uA ?_ | refine Kp_uB ?_ | refine Kp_uM ?_ | refine Kp_uJ ?_)) (fun _ _ => ?_)
    | refine KV_nmV (fun _ => ?_)
    | (rw [if_pos rfl]))
theorem k_m4_statements {n : Nat} (h : Kp σ0 s) : KA σ0 (m4_statements n s) := by
  unfold m4_statements
  repeat' (with_reducible first
    | exact KA_ret (by repeat' (with_reducible first | assumption | (refine Kp_uI ?_ (by decide) (by decide)) | refine Kp_uA ?_ | refine Kp_uB ?_ | refine Kp_uM ?_ | refine Kp_uJ ?_))
    | refine KA_ite (fun _ => ?_) (fun _ => ?_)
    | refine KA_ck ?_
    | refine KA_dvl ?_
    | refine KA_nmS (by repeat' (with_reducible first | assumption | (refine Kp_uI ?_ (by decide) (by decide)) | refine Kp_uA ?_ | refine Kp_uB ?_ | refine Kp_uM ?_ | refine Kp_uJ ?_)) (fun _ _ => ?_)
    | refine KA_nmV (fun _ => ?_)
    | (rw [if_pos rfl]))
theorem k_m4_take {n : Nat} {a1 : Int32} (h : Kp σ0 s) : KA σ0 (m4_take n a1 s) := by
  unfold m4_take
  repeat' (with_reducible first
    | exact KA_ret (by repeat' (with_reducible first | assumption | (refine Kp_uI ?_ (by decide) (by decide)) | refine Kp_uA ?_ | refine Kp_uB ?_ | refine Kp_uM ?_ | refine Kp_uJ ?_))
    | exact k_m8_sortAt (by repeat' (with_reducible first | assumption | (refine Kp_uI ?_ (by decide) (by decide)) | refine Kp_uA ?_ | refine Kp_uB ?_ | refine Kp_uM ?_ | refine Kp_uJ ?_))
    | refine KA_bi (k_m8_sortAt (by repeat' (with_reducible first | assumption | (refine Kp_uI ?_ (by decide) (by decide)) | refine Kp_uA ?_ | refine Kp_uB ?_ | refine Kp_uM ?_ | refine Kp_uJ ?_))) (fun _ _ _ => ?_)
    | refine KA_bl (k_m8_sortAt (by repeat' (with_reducible first | assumption | (refine Kp_uI ?_ (by decide) (by decide)) | refine Kp_uA ?_ | refine Kp_uB ?_ | refine Kp_uM ?_ | refine Kp_uJ ?_))) (fun _ _ _ => ?_)
    | refine KA_ite (fun _ => ?_) (fun _ => ?_)
    | refine KA_ck ?_
    | refine KA_dvl ?_
    | refine KA_nmS (by repeat' (with_reducible first | assumption | (refine Kp_uI ?_ (by decide) (by decide)) | refine Kp_uA ?_ | refine Kp_uB ?_ | refine Kp_uM ?_ | refine Kp_uJ ?_)) (fun _ _ => ?_)
    | refine KA_nmV (fun _ => ?_)
    | (rw [if_pos rfl]))
theorem k_m4_listAhead {n : Nat} (h : Kp σ0 s) : KA σ0 (m4_listAhead n s) := by
  unfold m4_listAhead
  repeat' (with_reducible first
    | exact KA_ret (by repeat' (with_reducible first | assumption | (refine Kp_uI ?_ (by decide) (by decide)) | refine Kp_uA ?_ | refine Kp_uB ?_ | refine Kp_uM ?_ | refine Kp_uJ ?_))
    | exact k_m8_isAt (by repeat' (with_reducible first | assumption | (refine Kp_uI ?_ (by decide) (by decide)) | refine Kp_uA ?_ | refine Kp_uB ?_ | refine Kp_uM ?_ | refine Kp_uJ ?_))
    | refine KA_bi (k_m8_isAt (by repeat' (with_reducible first | assumption | (refine Kp_uI ?_ (by decide) (by decide)) | refine Kp_uA ?_ | refine Kp_uB ?_ | refine Kp_uM ?_ | refine Kp_uJ ?_))) (fun _ _ _ => ?_)
    | refine KA_bl (k_m8_isAt (by repeat' (with_reducible first | assumption | (refine Kp_uI ?_ (by decide) (by decide)) | refine Kp_uA ?_ | refine Kp_uB ?_ | refine Kp_uM ?_ | refine Kp_uJ ?_))) (fun _ _ _ => ?_)
    | exact k_m8_sortAt (by repeat' (with_reducible first | assumption | (refine Kp_uI ?_ (by decide) (by decide)) | refine Kp_uA ?_ | refine Kp_uB ?_ | refine Kp_uM ?_ | refine Kp_uJ ?_))
    | refine KA_bi (k_m8_sortAt (by repeat' (with_reducible first | assumption | (refine Kp_uI ?_ (by decide) (by decide)) | refine Kp_uA ?_ | refine Kp_uB ?_ | refine Kp_uM ?_ | refine Kp_uJ ?_))) (fun _ _ _ => ?_)
    | refine KA_bl (k_m8_sortAt (by repeat' (with_reducible first | assumption | (refine Kp_uI ?_ (by decide) (by decide)) | refine Kp_uA ?_ | refine Kp_uB ?_ | refine Kp_uM ?_ | refine Kp_uJ ?_))) (fun _ _ _ => ?_)
    | refine KA_ite (fun _ => ?_) (fun _ => ?_)
    | refine KA_ck ?_
    | refine KA_dvl ?_
    | refine KA_nmS (by repeat' (with_reducible first | assumption | (refine Kp_uI ?_ (by decide) (by decide)) | refine Kp_uA ?_ | refine Kp_uB ?_ | refine Kp_uM ?_ | refine Kp_uJ ?_)) (fun _ _ => ?_)
    | refine KA_nmV (fun _ => ?_)
    | (rw [if_pos rfl]))
theorem k_m4_takeName {n : Nat} {a1 : Int32} (h : Kp σ0 s) : KO σ0 (m4_takeName n a1 s) := by
  unfold m4_takeName
  repeat' (with_reducible first
    | exact KO_ret (by repeat' (with_reducible first | assumption | (refine Kp_uI ?_ (by decide) (by decide)) | refine Kp_uA ?_ | refine Kp_uB ?_ | refine Kp_uM ?_ | refine Kp_uJ ?_))
    | exact KO_0
    | exact KO_tell
    | exact KO_bz0
    | refine KO_mis1 (fun _ => ?_)
    | exact KO_A (k_m0_nodeFor (by repeat' (with_reducible first | assumption | (refine Kp_uI ?_ (by decide) (by decide)) | refine Kp_uA ?_ | refine Kp_uB ?_ | refine Kp_uM ?_ | refine Kp_uJ ?_)))
    | refine KO_bi (k_m0_nodeFor (by repeat' (with_reducible first | assumption | (refine Kp_uI ?_ (by decide) (by decide)) | refine Kp_uA ?_ | refine Kp_uB ?_ | refine Kp_uM ?_ | refine Kp_uJ ?_))) (fun _ _ _ => ?_)
    | refine KO_bl (k_m0_nodeFor (by repeat' (with_reducible first | assumption | (refine Kp_uI ?_ (by decide) (by decide)) | refine Kp_uA ?_ | refine Kp_uB ?_ | refine Kp_uM ?_ | refine Kp_uJ ?_))) (fun _ _ _ => ?_)
    | exact KO_A (k_m8_beginAt (by repeat' (with_reducible first | assumption | (refine Kp_uI ?_ (by decide) (by decide)) | refine Kp_uA ?_ | refine Kp_uB ?_ | refine Kp_uM ?_ | refine Kp_uJ ?_)))
    | refine KO_bi (k_m8_beginAt (by repeat' (with_reducible first | assumption | (refine Kp_uI ?_ (by decide) (by decide)) | refine Kp_uA ?_ | refine Kp_uB ?_ | refine Kp_uM ?_ | refine Kp_uJ ?_))) (fun _ _ _ => ?_)
    | refine KO_bl (k_m8_beginAt (by repeat' (with_reducible first | assumption | (refine Kp_uI ?_ (by decide) (by decide)) | refine Kp_uA ?_ | refine Kp_uB ?_ | refine Kp_uM ?_ | refine Kp_uJ ?_))) (fun _ _ _ => ?_)
    | exact KO_A (k_m8_lengthAt (by repeat' (with_reducible first | assumption | (refine Kp_uI ?_ (by decide) (by decide)) | refine Kp_uA ?_ | refine Kp_uB ?_ | refine Kp_uM ?_ | refine Kp_uJ ?_)))
    | refine KO_bi (k_m8_lengthAt (by repeat' (with_reducible first | assumption | (refine Kp_uI ?_ (by decide) (by decide)) | refine Kp_uA ?_ | refine Kp_uB ?_ | refine Kp_uM ?_ | refine Kp_uJ ?_))) (fun _ _ _ => ?_)
    | refine KO_bl (k_m8_lengthAt (by repeat' (with_reducible first | assumption | (refine Kp_uI ?_ (by decide) (by decide)) | refine Kp_uA ?_ | refine Kp_uB ?_ | refine Kp_uM ?_ | refine Kp_uJ ?_))) (fun _ _ _ => ?_)
    | exact KO_A (k_m8_nameAt (by repeat' (with_reducible first | assumption | (refine Kp_uI ?_ (by decide) (by decide)) | refine Kp_uA ?_ | refine Kp_uB ?_ | refine Kp_uM ?_ | refine Kp_uJ ?_)))
    | refine KO_bi (k_m8_nameAt (by repeat' (with_reducible first | assumption | (refine Kp_uI ?_ (by decide) (by decide)) | refine Kp_uA ?_ | refine Kp_uB ?_ | refine Kp_uM ?_ | refine Kp_uJ ?_))) (fun _ _ _ => ?_)
    | refine KO_bl (k_m8_nameAt (by repeat' (with_reducible first | assumption | (refine Kp_uI ?_ (by decide) (by decide)) | refine Kp_uA ?_ | refine Kp_uB ?_ | refine Kp_uM ?_ | refine Kp_uJ ?_))) (fun _ _ _ => ?_)
    | exact KO_A (k_m8_sortAt (by repeat' (with_reducible first | assumption | (refine Kp_uI ?_ (by decide) (by decide)) | refine Kp_uA ?_ | refine Kp_uB ?_ | refine Kp_uM ?_ | refine Kp_uJ ?_)))
    | refine KO_bi (k_m8_sortAt (by repeat' (with_reducible first | assumption | (refine Kp_uI ?_ (by decide) (by decide)) | refine Kp_uA ?_ | refine Kp_uB ?_ | refine Kp_uM ?_ | refine Kp_uJ ?_))) (fun _ _ _ => ?_)
    | refine KO_bl (k_m8_sortAt (by repeat' (with_reducible first | assumption | (refine Kp_uI ?_ (by decide) (by decide)) | refine Kp_uA ?_ | refine Kp_uB ?_ | refine Kp_uM ?_ | refine Kp_uJ ?_))) (fun _ _ _ => ?_)
    | refine KO_ite (fun _ => ?_) (fun _ => ?_)
    | refine KO_ck ?_
    | refine KO_dvl ?_
    | refine KO_nmS (by repeat' (with_reducible first | assumption | (refine Kp_uI ?_ (by decide) (by decide)) | refine Kp_uA ?_ | refine Kp_uB ?_ | refine Kp_uM ?_ | refine Kp_uJ ?_)) (fun _ _ => ?_)
    | refine KO_nmV (fun _ => ?_)
    | (rw [if_pos rfl]))
theorem k_m4_readList_130 {n : Nat} (h : Kp σ0 s) : KO σ0 (m4_readList_130 n s) := by
  unfold m4_readList_130
  repeat' (with_reducible first
    | exact KO_ret (by repeat' (with_reducible first | assumption | (refine Kp_uI ?_ (by decide) (by decide)) | refine Kp_uA ?_ | refine Kp_uB ?_ | refine Kp_uM ?_ | refine Kp_uJ ?_))
    | exact KO_0
    | exact KO_tell
    | exact KO_bz0
    | refine KO_mis1 (fun _ => ?_)
    | exact KO_A (k_m4_take (by repeat' (with_reducible first | assumption | (refine Kp_uI ?_ (by decide) (by decide)) | refine Kp_uA ?_ | refine Kp_uB ?_ | refine Kp_uM ?_ | refine Kp_uJ ?_)))
    | refine KO_bi (k_m4_take (by repeat' (with_reducible first | assumption | (refine Kp_uI ?_ (by decide) (by decide)) | refine Kp_uA ?_ | refine Kp_uB ?_ | refine Kp_uM ?_ | refine Kp_uJ ?_))) (fun _ _ _ => ?_)
    | refine KO_bl (k_m4_take (by repeat' (with_reducible first | assumption | (refine Kp_uI ?_ (by decide) (by decide)) | refine Kp_uA ?_ | refine Kp_uB ?_ | refine Kp_uM ?_ | refine Kp_uJ ?_))) (fun _ _ _ => ?_)
    | refine KO_ite (fun _ => ?_) (fun _ => ?_)
    | refine KO_ck ?_
    | refine KO_dvl ?_
    | refine KO_nmS (by repeat' (with_reducible first | assumption | (refine Kp_uI ?_ (by decide) (by decide)) | refine Kp_uA ?_ | refine Kp_uB ?_ | refine Kp_uM ?_ | refine Kp_uJ ?_)) (fun _ _ => ?_)
    | refine KO_nmV (fun _ => ?_)
    | (rw [if_pos rfl]))
theorem k_m4_readList_97 {n : Nat} {y14 : Int32} {y15 : Int32} {y16 : Int32} {f12 : Int32 → Int32 → ej_S → Option (Int32 × ej_S)} (hf12 : ∀ (a0 : Int32) (a1 : Int32) (s : ej_S), Kp σ0 s → KO σ0 (f12 a0 a1 s)) (h : Kp σ0 s) : KO σ0 (m4_readList_97 n f12 y14 y15 y16 s) := by
  unfold m4_readList_97
  repeat' (with_reducible first
    | exact KO_ret (by repeat' (with_reducible first | assumption | (refine Kp_uI ?_ (by decide) (by decide)) | refine Kp_uA ?_ | refine Kp_uB ?_ | refine Kp_uM ?_ | refine Kp_uJ ?_))
    | exact KO_0
    | exact KO_tell
    | exact KO_bz0
    | refine KO_mis1 (fun _ => ?_)
    | refine KO_bv (k_m0_killLink (by repeat' (with_reducible first | assumption | (refine Kp_uI ?_ (by decide) (by decide)) | refine Kp_uA ?_ | refine Kp_uB ?_ | refine Kp_uM ?_ | refine Kp_uJ ?_))) (fun _ _ => ?_)
    | exact k_m4_takeName (by repeat' (with_reducible first | assumption | (refine Kp_uI ?_ (by decide) (by decide)) | refine Kp_uA ?_ | refine Kp_uB ?_ | refine Kp_uM ?_ | refine Kp_uJ ?_))
    | refine KO_bi2 (k_m4_takeName (by repeat' (with_reducible first | assumption | (refine Kp_uI ?_ (by decide) (by decide)) | refine Kp_uA ?_ | refine Kp_uB ?_ | refine Kp_uM ?_ | refine Kp_uJ ?_))) (fun _ => ?_) (fun _ _ _ => ?_)
    | exact hf12 _ _ _ (by repeat' (with_reducible first | assumption | (refine Kp_uI ?_ (by decide) (by decide)) | refine Kp_uA ?_ | refine Kp_uB ?_ | refine Kp_uM ?_ | refine Kp_uJ ?_))
    | refine KO_ite (fun _ => ?_) (fun _ => ?_)
    | refine KO_ck ?_
    | refine KO_dvl ?_
    | refine KO_nmS (by repeat' (with_reducible first | assumption | (refine Kp_uI ?_ (by decide) (by decide)) | refine Kp_uA ?_ | refine Kp_uB ?_ | refine Kp_uM ?_ | refine Kp_uJ ?_)) (fun _ _ => ?_)
    | refine KO_nmV (fun _ => ?_)
    | (rw [if_pos rfl]))
theorem k_m4_readList_43 {n : Nat} {y8 : Int32} {y9 : Int32} {y10 : Int32} {f12 : Int32 → Int32 → ej_S → Option (Int32 × ej_S)} (hf12 : ∀ (a0 : Int32) (a1 : Int32) (s : ej_S), Kp σ0 s → KO σ0 (f12 a0 a1 s)) (h : Kp σ0 s) : KO σ0 (m4_readList_43 n f12 y8 y9 y10 s) := by
  unfold m4_readList_43
  repeat' (with_reducible first
    | exact KO_ret (by repeat' (with_reducible first | assumption | (refine Kp_uI ?_ (by decide) (by decide)) | refine Kp_uA ?_ | refine Kp_uB ?_ | refine Kp_uM ?_ | refine Kp_uJ ?_))
    | exact KO_0
    | exact KO_tell
    | exact KO_bz0
    | refine KO_mis1 (fun _ => ?_)
    | refine KO_bv (k_m0_gate (by repeat' (with_reducible first | assumption | (refine Kp_uI ?_ (by decide) (by decide)) | refine Kp_uA ?_ | refine Kp_uB ?_ | refine Kp_uM ?_ | refine Kp_uJ ?_))) (fun _ _ => ?_)
    | refine KO_bv (k_m0_kill (by repeat' (with_reducible first | assumption | (refine Kp_uI ?_ (by decide) (by decide)) | refine Kp_uA ?_ | refine Kp_uB ?_ | refine Kp_uM ?_ | refine Kp_uJ ?_))) (fun _ _ => ?_)
    | exact k_m4_readList_97 hf12 (by repeat' (with_reducible first | assumption | (refine Kp_uI ?_ (by decide) (by decide)) | refine Kp_uA ?_ | refine Kp_uB ?_ | refine Kp_uM ?_ | refine Kp_uJ ?_))
    | refine KO_bi2 (k_m4_readList_97 hf12 (by repeat' (with_reducible first | assumption | (refine Kp_uI ?_ (by decide) (by decide)) | refine Kp_uA ?_ | refine Kp_uB ?_ | refine Kp_uM ?_ | refine Kp_uJ ?_))) (fun _ => ?_) (fun _ _ _ => ?_)
    | exact KO_A (k_m4_take (by repeat' (with_reducible first | assumption | (refine Kp_uI ?_ (by decide) (by decide)) | refine Kp_uA ?_ | refine Kp_uB ?_ | refine Kp_uM ?_ | refine Kp_uJ ?_)))
    | refine KO_bi (k_m4_take (by repeat' (with_reducible first | assumption | (refine Kp_uI ?_ (by decide) (by decide)) | refine Kp_uA ?_ | refine Kp_uB ?_ | refine Kp_uM ?_ | refine Kp_uJ ?_))) (fun _ _ _ => ?_)
    | refine KO_bl (k_m4_take (by repeat' (with_reducible first | assumption | (refine Kp_uI ?_ (by decide) (by decide)) | refine Kp_uA ?_ | refine Kp_uB ?_ | refine Kp_uM ?_ | refine Kp_uJ ?_))) (fun _ _ _ => ?_)
    | exact k_m4_takeName (by repeat' (with_reducible first | assumption | (refine Kp_uI ?_ (by decide) (by decide)) | refine Kp_uA ?_ | refine Kp_uB ?_ | refine Kp_uM ?_ | refine Kp_uJ ?_))
    | refine KO_bi2 (k_m4_takeName (by repeat' (with_reducible first | assumption | (refine Kp_uI ?_ (by decide) (by decide)) | refine Kp_uA ?_ | refine Kp_uB ?_ | refine Kp_uM ?_ | refine Kp_uJ ?_))) (fun _ => ?_) (fun _ _ _ => ?_)
    | exact hf12 _ _ _ (by repeat' (with_reducible first | assumption | (refine Kp_uI ?_ (by decide) (by decide)) | refine Kp_uA ?_ | refine Kp_uB ?_ | refine Kp_uM ?_ | refine Kp_uJ ?_))
    | refine KO_ite (fun _ => ?_) (fun _ => ?_)
    | refine KO_ck ?_
    | refine KO_dvl ?_
    | refine KO_nmS (by repeat' (with_reducible first | assumption | (refine Kp_uI ?_ (by decide) (by decide)) | refine Kp_uA ?_ | refine Kp_uB ?_ | refine Kp_uM ?_ | refine Kp_uJ ?_)) (fun _ _ => ?_)
    | refine KO_nmV (fun _ => ?_)
    | (rw [if_pos rfl]))
theorem k_m4_readList_12_l {n : Nat} : ∀ (k : Nat) (y2 : Int32) (y3 : Int32) (s : ej_S), Kp σ0 s → KO σ0 (m4_readList_12 n k y2 y3 s) := by
  intro k
  induction k with
  | zero => intros; exact KO_none
  | succ k ih =>
  intro y2 y3 s hs
  rw [u_4_readList_12]
  repeat' (with_reducible first
    | exact KO_ret (by repeat' (with_reducible first | assumption | (refine Kp_uI ?_ (by decide) (by decide)) | refine Kp_uA ?_ | refine Kp_uB ?_ | refine Kp_uM ?_ | refine Kp_uJ ?_))
    | exact KO_0
    | exact KO_tell
    | exact KO_bz0
    | refine KO_mis1 (fun _ => ?_)
    | exact k_m4_readList_130 (by repeat' (with_reducible first | assumption | (refine Kp_uI ?_ (by decide) (by decide)) | refine Kp_uA ?_ | refine Kp_uB ?_ | refine Kp_uM ?_ | refine Kp_uJ ?_))
    | refine KO_bi2 (k_m4_readList_130 (by repeat' (with_reducible first | assumption | (refine Kp_uI ?_ (by decide) (by decide)) | refine Kp_uA ?_ | refine Kp_uB ?_ | refine Kp_uM ?_ | refine Kp_uJ ?_))) (fun _ => ?_) (fun _ _ _ => ?_)
    | exact k_m4_readList_43 ih (by repeat' (with_reducible first | assumption | (refine Kp_uI ?_ (by decide) (by decide)) | refine Kp_uA ?_ | refine Kp_uB ?_ | refine Kp_uM ?_ | refine Kp_uJ ?_))
    | refine KO_bi2 (k_m4_readList_43 ih (by repeat' (with_reducible first | assumption | (refine Kp_uI ?_ (by decide) (by decide)) | refine Kp_uA ?_ | refine Kp_uB ?_ | refine Kp_uM ?_ | refine Kp_uJ ?_))) (fun _ => ?_) (fun _ _ _ => ?_)
    | exact KO_A (k_m4_take (by repeat' (with_reducible first | assumption | (refine Kp_uI ?_ (by decide) (by decide)) | refine Kp_uA ?_ | refine Kp_uB ?_ | refine Kp_uM ?_ | refine Kp_uJ ?_)))
    | refine KO_bi (k_m4_take (by repeat' (with_reducible first | assumption | (refine Kp_uI ?_ (by decide) (by decide)) | refine Kp_uA ?_ | refine Kp_uB ?_ | refine Kp_uM ?_ | refine Kp_uJ ?_))) (fun _ _ _ => ?_)
    | refine KO_bl (k_m4_take (by repeat' (with_reducible first | assumption | (refine Kp_uI ?_ (by decide) (by decide)) | refine Kp_uA ?_ | refine Kp_uB ?_ | refine Kp_uM ?_ | refine Kp_uJ ?_))) (fun _ _ _ => ?_)
    | exact ih _ _ _ (by repeat' (with_reducible first | assumption | (refine Kp_uI ?_ (by decide) (by decide)) | refine Kp_uA ?_ | refine Kp_uB ?_ | refine Kp_uM ?_ | refine Kp_uJ ?_))
    | refine KO_ite (fun _ => ?_) (fun _ => ?_)
    | refine KO_ck ?_
    | refine KO_dvl ?_
    | refine KO_nmS (by repeat' (with_reducible first | assumption | (refine Kp_uI ?_ (by decide) (by decide)) | refine Kp_uA ?_ | refine Kp_uB ?_ | refine Kp_uM ?_ | refine Kp_uJ ?_)) (fun _ _ => ?_)
    | refine KO_nmV (fun _ => ?_)
    | (rw [if_pos rfl]))
theorem k_m4_readList_12 {n : Nat} {k : Nat} {y2 : Int32} {y3 : Int32} (h : Kp σ0 s) : KO σ0 (m4_readList_12 n k y2 y3 s) := k_m4_readList_12_l k y2 y3 s h
theorem k_m4_readList {n : Nat} {a1 : Int32} (h : Kp σ0 s) : KO σ0 (m4_readList n a1 s) := by
  unfold m4_readList
  repeat' (with_reducible first
    | exact KO_ret (by repeat' (with_reducible first | assumption | (refine Kp_uI ?_ (by decide) (by decide)) | refine Kp_uA ?_ | refine Kp_uB ?_ | refine Kp_uM ?_ | refine Kp_uJ ?_))
    | exact KO_0
    | exact KO_tell
    | exact KO_bz0
    | refine KO_mis1 (fun _ => ?_)
    | exact k_m4_readList_12 (by repeat' (with_reducible first | assumption | (refine Kp_uI ?_ (by decide) (by decide)) | refine Kp_uA ?_ | refine Kp_uB ?_ | refine Kp_uM ?_ | refine Kp_uJ ?_))
    | refine KO_bi2 (k_m4_readList_12 (by repeat' (with_reducible first | assumption | (refine Kp_uI ?_ (by decide) (by decide)) | refine Kp_uA ?_ | refine Kp_uB ?_ | refine Kp_uM ?_ | refine Kp_uJ ?_))) (fun _ => ?_) (fun _ _ _ => ?_)
    | refine KO_ite (fun _ => ?_) (fun _ => ?_)
    | refine KO_ck ?_
    | refine KO_dvl ?_
    | refine KO_nmS (by repeat' (with_reducible first | assumption | (refine Kp_uI ?_ (by decide) (by decide)) | refine Kp_uA ?_ | refine Kp_uB ?_ | refine Kp_uM ?_ | refine Kp_uJ ?_)) (fun _ _ => ?_)
    | refine KO_nmV (fun _ => ?_)
    | (rw [if_pos rfl]))
theorem k_m4_takePrice {n : Nat} (h : Kp σ0 s) : KO σ0 (m4_takePrice n s) := by
  unfold m4_takePrice
  repeat' (with_reducible first
    | exact KO_ret (by repeat' (with_reducible first | assumption | (refine Kp_uI ?_ (by decide) (by decide)) | refine Kp_uA ?_ | refine Kp_uB ?_ | refine Kp_uM ?_ | refine Kp_uJ ?_))
    | exact KO_0
    | exact KO_tell
    | exact KO_bz0
    | refine KO_mis1 (fun _ => ?_)
    | exact KO_A (k_m4_take (by repeat' (with_reducible first | assumption | (refine Kp_uI ?_ (by decide) (by decide)) | refine Kp_uA ?_ | refine Kp_uB ?_ | refine Kp_uM ?_ | refine Kp_uJ ?_)))
    | refine KO_bi (k_m4_take (by repeat' (with_reducible first | assumption | (refine Kp_uI ?_ (by decide) (by decide)) | refine Kp_uA ?_ | refine Kp_uB ?_ | refine Kp_uM ?_ | refine Kp_uJ ?_))) (fun _ _ _ => ?_)
    | refine KO_bl (k_m4_take (by repeat' (with_reducible first | assumption | (refine Kp_uI ?_ (by decide) (by decide)) | refine Kp_uA ?_ | refine Kp_uB ?_ | refine Kp_uM ?_ | refine Kp_uJ ?_))) (fun _ _ _ => ?_)
    | exact KO_A (k_m6_faultCode (by repeat' (with_reducible first | assumption | (refine Kp_uI ?_ (by decide) (by decide)) | refine Kp_uA ?_ | refine Kp_uB ?_ | refine Kp_uM ?_ | refine Kp_uJ ?_)))
    | refine KO_bi (k_m6_faultCode (by repeat' (with_reducible first | assumption | (refine Kp_uI ?_ (by decide) (by decide)) | refine Kp_uA ?_ | refine Kp_uB ?_ | refine Kp_uM ?_ | refine Kp_uJ ?_))) (fun _ _ _ => ?_)
    | refine KO_bl (k_m6_faultCode (by repeat' (with_reducible first | assumption | (refine Kp_uI ?_ (by decide) (by decide)) | refine Kp_uA ?_ | refine Kp_uB ?_ | refine Kp_uM ?_ | refine Kp_uJ ?_))) (fun _ _ _ => ?_)
    | exact KO_A (k_m6_faultToken (by repeat' (with_reducible first | assumption | (refine Kp_uI ?_ (by decide) (by decide)) | refine Kp_uA ?_ | refine Kp_uB ?_ | refine Kp_uM ?_ | refine Kp_uJ ?_)))
    | refine KO_bi (k_m6_faultToken (by repeat' (with_reducible first | assumption | (refine Kp_uI ?_ (by decide) (by decide)) | refine Kp_uA ?_ | refine Kp_uB ?_ | refine Kp_uM ?_ | refine Kp_uJ ?_))) (fun _ _ _ => ?_)
    | refine KO_bl (k_m6_faultToken (by repeat' (with_reducible first | assumption | (refine Kp_uI ?_ (by decide) (by decide)) | refine Kp_uA ?_ | refine Kp_uB ?_ | refine Kp_uM ?_ | refine Kp_uJ ?_))) (fun _ _ _ => ?_)
    | exact KO_A (k_m6_next (by repeat' (with_reducible first | assumption | (refine Kp_uI ?_ (by decide) (by decide)) | refine Kp_uA ?_ | refine Kp_uB ?_ | refine Kp_uM ?_ | refine Kp_uJ ?_)))
    | refine KO_bi (k_m6_next (by repeat' (with_reducible first | assumption | (refine Kp_uI ?_ (by decide) (by decide)) | refine Kp_uA ?_ | refine Kp_uB ?_ | refine Kp_uM ?_ | refine Kp_uJ ?_))) (fun _ _ _ => ?_)
    | refine KO_bl (k_m6_next (by repeat' (with_reducible first | assumption | (refine Kp_uI ?_ (by decide) (by decide)) | refine Kp_uA ?_ | refine Kp_uB ?_ | refine Kp_uM ?_ | refine Kp_uJ ?_))) (fun _ _ _ => ?_)
    | exact KO_A (k_m6_result (by repeat' (with_reducible first | assumption | (refine Kp_uI ?_ (by decide) (by decide)) | refine Kp_uA ?_ | refine Kp_uB ?_ | refine Kp_uM ?_ | refine Kp_uJ ?_)))
    | refine KO_bi (k_m6_result (by repeat' (with_reducible first | assumption | (refine Kp_uI ?_ (by decide) (by decide)) | refine Kp_uA ?_ | refine Kp_uB ?_ | refine Kp_uM ?_ | refine Kp_uJ ?_))) (fun _ _ _ => ?_)
    | refine KO_bl (k_m6_result (by repeat' (with_reducible first | assumption | (refine Kp_uI ?_ (by decide) (by decide)) | refine Kp_uA ?_ | refine Kp_uB ?_ | refine Kp_uM ?_ | refine Kp_uJ ?_))) (fun _ _ _ => ?_)
    | exact KO_A (k_m6_workOut (by repeat' (with_reducible first | assumption | (refine Kp_uI ?_ (by decide) (by decide)) | refine Kp_uA ?_ | refine Kp_uB ?_ | refine Kp_uM ?_ | refine Kp_uJ ?_)))
    | refine KO_bi (k_m6_workOut (by repeat' (with_reducible first | assumption | (refine Kp_uI ?_ (by decide) (by decide)) | refine Kp_uA ?_ | refine Kp_uB ?_ | refine Kp_uM ?_ | refine Kp_uJ ?_))) (fun _ _ _ => ?_)
    | refine KO_bl (k_m6_workOut (by repeat' (with_reducible first | assumption | (refine Kp_uI ?_ (by decide) (by decide)) | refine Kp_uA ?_ | refine Kp_uB ?_ | refine Kp_uM ?_ | refine Kp_uJ ?_))) (fun _ _ _ => ?_)
    | exact KO_A (k_m8_beginAt (by repeat' (with_reducible first | assumption | (refine Kp_uI ?_ (by decide) (by decide)) | refine Kp_uA ?_ | refine Kp_uB ?_ | refine Kp_uM ?_ | refine Kp_uJ ?_)))
    | refine KO_bi (k_m8_beginAt (by repeat' (with_reducible first | assumption | (refine Kp_uI ?_ (by decide) (by decide)) | refine Kp_uA ?_ | refine Kp_uB ?_ | refine Kp_uM ?_ | refine Kp_uJ ?_))) (fun _ _ _ => ?_)
    | refine KO_bl (k_m8_beginAt (by repeat' (with_reducible first | assumption | (refine Kp_uI ?_ (by decide) (by decide)) | refine Kp_uA ?_ | refine Kp_uB ?_ | refine Kp_uM ?_ | refine Kp_uJ ?_))) (fun _ _ _ => ?_)
    | refine KO_ite (fun _ => ?_) (fun _ => ?_)
    | refine KO_ck ?_
    | refine KO_dvl ?_
    | refine KO_nmS (by repeat' (with_reducible first | assumption | (refine Kp_uI ?_ (by decide) (by decide)) | refine Kp_uA ?_ | refine Kp_uB ?_ | refine Kp_uM ?_ | refine Kp_uJ ?_)) (fun _ _ => ?_)
    | refine KO_nmV (fun _ => ?_)
    | (rw [if_pos rfl]))
theorem k_m4_readLinks_2_l {n : Nat} : ∀ (k : Nat) (y1 : Int32) (y2 : Int32) (s : ej_S), Kp σ0 s → KO σ0 (m4_readLinks_2 n k y1 y2 s) := by
  intro k
  induction k with
  | zero => intros; exact KO_none
  | succ k ih =>
  intro y1 y2 s hs
  rw [u_4_readLinks_2]
  repeat' (with_reducible first
    | exact KO_ret (by repeat' (with_reducible first | assumption | (refine Kp_uI ?_ (by decide) (by decide)) | refine Kp_uA ?_ | refine Kp_uB ?_ | refine Kp_uM ?_ | refine Kp_uJ ?_))
    | exact KO_0
    | exact KO_tell
    | exact KO_bz0
    | refine KO_mis1 (fun _ => ?_)
    | refine KO_bv (k_m0_addLink (by repeat' (with_reducible first | assumption | (refine Kp_uI ?_ (by decide) (by decide)) | refine Kp_uA ?_ | refine Kp_uB ?_ | refine Kp_uM ?_ | refine Kp_uJ ?_))) (fun _ _ => ?_)
    | exact KO_A (k_m4_take (by repeat' (with_reducible first | assumption | (refine Kp_uI ?_ (by decide) (by decide)) | refine Kp_uA ?_ | refine Kp_uB ?_ | refine Kp_uM ?_ | refine Kp_uJ ?_)))
    | refine KO_bi (k_m4_take (by repeat' (with_reducible first | assumption | (refine Kp_uI ?_ (by decide) (by decide)) | refine Kp_uA ?_ | refine Kp_uB ?_ | refine Kp_uM ?_ | refine Kp_uJ ?_))) (fun _ _ _ => ?_)
    | refine KO_bl (k_m4_take (by repeat' (with_reducible first | assumption | (refine Kp_uI ?_ (by decide) (by decide)) | refine Kp_uA ?_ | refine Kp_uB ?_ | refine Kp_uM ?_ | refine Kp_uJ ?_))) (fun _ _ _ => ?_)
    | exact k_m4_takeName (by repeat' (with_reducible first | assumption | (refine Kp_uI ?_ (by decide) (by decide)) | refine Kp_uA ?_ | refine Kp_uB ?_ | refine Kp_uM ?_ | refine Kp_uJ ?_))
    | refine KO_bi2 (k_m4_takeName (by repeat' (with_reducible first | assumption | (refine Kp_uI ?_ (by decide) (by decide)) | refine Kp_uA ?_ | refine Kp_uB ?_ | refine Kp_uM ?_ | refine Kp_uJ ?_))) (fun _ => ?_) (fun _ _ _ => ?_)
    | exact k_m4_takePrice (by repeat' (with_reducible first | assumption | (refine Kp_uI ?_ (by decide) (by decide)) | refine Kp_uA ?_ | refine Kp_uB ?_ | refine Kp_uM ?_ | refine Kp_uJ ?_))
    | refine KO_bi2 (k_m4_takePrice (by repeat' (with_reducible first | assumption | (refine Kp_uI ?_ (by decide) (by decide)) | refine Kp_uA ?_ | refine Kp_uB ?_ | refine Kp_uM ?_ | refine Kp_uJ ?_))) (fun _ => ?_) (fun _ _ _ => ?_)
    | exact ih _ _ _ (by repeat' (with_reducible first | assumption | (refine Kp_uI ?_ (by decide) (by decide)) | refine Kp_uA ?_ | refine Kp_uB ?_ | refine Kp_uM ?_ | refine Kp_uJ ?_))
    | refine KO_ite (fun _ => ?_) (fun _ => ?_)
    | refine KO_ck ?_
    | refine KO_dvl ?_
    | refine KO_nmS (by repeat' (with_reducible first | assumption | (refine Kp_uI ?_ (by decide) (by decide)) | refine Kp_uA ?_ | refine Kp_uB ?_ | refine Kp_uM ?_ | refine Kp_uJ ?_)) (fun _ _ => ?_)
    | refine KO_nmV (fun _ => ?_)
    | (rw [if_pos rfl]))
theorem k_m4_readLinks_2 {n : Nat} {k : Nat} {y1 : Int32} {y2 : Int32} (h : Kp σ0 s) : KO σ0 (m4_readLinks_2 n k y1 y2 s) := k_m4_readLinks_2_l k y1 y2 s h
theorem k_m4_readLinks {n : Nat} {a1 : Int32} (h : Kp σ0 s) : KO σ0 (m4_readLinks n a1 s) := by
  unfold m4_readLinks
  repeat' (with_reducible first
    | exact KO_ret (by repeat' (with_reducible first | assumption | (refine Kp_uI ?_ (by decide) (by decide)) | refine Kp_uA ?_ | refine Kp_uB ?_ | refine Kp_uM ?_ | refine Kp_uJ ?_))
    | exact KO_0
    | exact KO_tell
    | exact KO_bz0
    | refine KO_mis1 (fun _ => ?_)
    | exact k_m4_readLinks_2 (by repeat' (with_reducible first | assumption | (refine Kp_uI ?_ (by decide) (by decide)) | refine Kp_uA ?_ | refine Kp_uB ?_ | refine Kp_uM ?_ | refine Kp_uJ ?_))
    | refine KO_bi2 (k_m4_readLinks_2 (by repeat' (with_reducible first | assumption | (refine Kp_uI ?_ (by decide) (by decide)) | refine Kp_uA ?_ | refine Kp_uB ?_ | refine Kp_uM ?_ | refine Kp_uJ ?_))) (fun _ => ?_) (fun _ _ _ => ?_)
    | refine KO_ite (fun _ => ?_) (fun _ => ?_)
    | refine KO_ck ?_
    | refine KO_dvl ?_
    | refine KO_nmS (by repeat' (with_reducible first | assumption | (refine Kp_uI ?_ (by decide) (by decide)) | refine Kp_uA ?_ | refine Kp_uB ?_ | refine Kp_uM ?_ | refine Kp_uJ ?_)) (fun _ _ => ?_)
    | refine KO_nmV (fun _ => ?_)
    | (rw [if_pos rfl]))
theorem k_m4_readAliases_2_l {n : Nat} : ∀ (k : Nat) (y1 : Int32) (y2 : Int32) (s : ej_S), Kp σ0 s → KO σ0 (m4_readAliases_2 n k y1 y2 s) := by
  intro k
  induction k with
  | zero => intros; exact KO_none
  | succ k ih =>
  intro y1 y2 s hs
  rw [u_4_readAliases_2]
  repeat' (with_reducible first
    | exact KO_ret (by repeat' (with_reducible first | assumption | (refine Kp_uI ?_ (by decide) (by decide)) | refine Kp_uA ?_ | refine Kp_uB ?_ | refine Kp_uM ?_ | refine Kp_uJ ?_))
    | exact KO_0
    | exact KO_tell
    | exact KO_bz0
    | refine KO_mis1 (fun _ => ?_)
    | refine KO_bv (k_m0_addAlias (by repeat' (with_reducible first | assumption | (refine Kp_uI ?_ (by decide) (by decide)) | refine Kp_uA ?_ | refine Kp_uB ?_ | refine Kp_uM ?_ | refine Kp_uJ ?_))) (fun _ _ => ?_)
    | exact KO_A (k_m4_take (by repeat' (with_reducible first | assumption | (refine Kp_uI ?_ (by decide) (by decide)) | refine Kp_uA ?_ | refine Kp_uB ?_ | refine Kp_uM ?_ | refine Kp_uJ ?_)))
    | refine KO_bi (k_m4_take (by repeat' (with_reducible first | assumption | (refine Kp_uI ?_ (by decide) (by decide)) | refine Kp_uA ?_ | refine Kp_uB ?_ | refine Kp_uM ?_ | refine Kp_uJ ?_))) (fun _ _ _ => ?_)
    | refine KO_bl (k_m4_take (by repeat' (with_reducible first | assumption | (refine Kp_uI ?_ (by decide) (by decide)) | refine Kp_uA ?_ | refine Kp_uB ?_ | refine Kp_uM ?_ | refine Kp_uJ ?_))) (fun _ _ _ => ?_)
    | exact k_m4_takeName (by repeat' (with_reducible first | assumption | (refine Kp_uI ?_ (by decide) (by decide)) | refine Kp_uA ?_ | refine Kp_uB ?_ | refine Kp_uM ?_ | refine Kp_uJ ?_))
    | refine KO_bi2 (k_m4_takeName (by repeat' (with_reducible first | assumption | (refine Kp_uI ?_ (by decide) (by decide)) | refine Kp_uA ?_ | refine Kp_uB ?_ | refine Kp_uM ?_ | refine Kp_uJ ?_))) (fun _ => ?_) (fun _ _ _ => ?_)
    | exact ih _ _ _ (by repeat' (with_reducible first | assumption | (refine Kp_uI ?_ (by decide) (by decide)) | refine Kp_uA ?_ | refine Kp_uB ?_ | refine Kp_uM ?_ | refine Kp_uJ ?_))
    | refine KO_ite (fun _ => ?_) (fun _ => ?_)
    | refine KO_ck ?_
    | refine KO_dvl ?_
    | refine KO_nmS (by repeat' (with_reducible first | assumption | (refine Kp_uI ?_ (by decide) (by decide)) | refine Kp_uA ?_ | refine Kp_uB ?_ | refine Kp_uM ?_ | refine Kp_uJ ?_)) (fun _ _ => ?_)
    | refine KO_nmV (fun _ => ?_)
    | (rw [if_pos rfl]))
theorem k_m4_readAliases_2 {n : Nat} {k : Nat} {y1 : Int32} {y2 : Int32} (h : Kp σ0 s) : KO σ0 (m4_readAliases_2 n k y1 y2 s) := k_m4_readAliases_2_l k y1 y2 s h
theorem k_m4_readAliases {n : Nat} {a1 : Int32} (h : Kp σ0 s) : KO σ0 (m4_readAliases n a1 s) := by
  unfold m4_readAliases
  repeat' (with_reducible first
    | exact KO_ret (by repeat' (with_reducible first | assumption | (refine Kp_uI ?_ (by decide) (by decide)) | refine Kp_uA ?_ | refine Kp_uB ?_ | refine Kp_uM ?_ | refine Kp_uJ ?_))
    | exact KO_0
    | exact KO_tell
    | exact KO_bz0
    | refine KO_mis1 (fun _ => ?_)
    | exact k_m4_readAliases_2 (by repeat' (with_reducible first | assumption | (refine Kp_uI ?_ (by decide) (by decide)) | refine Kp_uA ?_ | refine Kp_uB ?_ | refine Kp_uM ?_ | refine Kp_uJ ?_))
    | refine KO_bi2 (k_m4_readAliases_2 (by repeat' (with_reducible first | assumption | (refine Kp_uI ?_ (by decide) (by decide)) | refine Kp_uA ?_ | refine Kp_uB ?_ | refine Kp_uM ?_ | refine Kp_uJ ?_))) (fun _ => ?_) (fun _ _ _ => ?_)
    | refine KO_ite (fun _ => ?_) (fun _ => ?_)
    | refine KO_ck ?_
    | refine KO_dvl ?_
    | refine KO_nmS (by repeat' (with_reducible first | assumption | (refine Kp_uI ?_ (by decide) (by decide)) | refine Kp_uA ?_ | refine Kp_uB ?_ | refine Kp_uM ?_ | refine Kp_uJ ?_)) (fun _ _ => ?_)
    | refine KO_nmV (fun _ => ?_)
    | (rw [if_pos rfl]))
theorem k_m4_readMembers_74 {n : Nat} {y9 : Int32} {y10 : Int32} {y11 : Int32} (h : Kp σ0 s) : KO σ0 (m4_readMembers_74 n y9 y10 y11 s) := by
  unfold m4_readMembers_74
  repeat' (with_reducible first
    | exact KO_ret (by repeat' (with_reducible first | assumption | (refine Kp_uI ?_ (by decide) (by decide)) | refine Kp_uA ?_ | refine Kp_uB ?_ | refine Kp_uM ?_ | refine Kp_uJ ?_))
    | exact KO_0
    | exact KO_tell
    | exact KO_bz0
    | refine KO_mis1 (fun _ => ?_)
    | refine KO_bv (k_m0_addMembers (by repeat' (with_reducible first | assumption | (refine Kp_uI ?_ (by decide) (by decide)) | refine Kp_uA ?_ | refine Kp_uB ?_ | refine Kp_uM ?_ | refine Kp_uJ ?_))) (fun _ _ => ?_)
    | exact KO_A (k_m4_take (by repeat' (with_reducible first | assumption | (refine Kp_uI ?_ (by decide) (by decide)) | refine Kp_uA ?_ | refine Kp_uB ?_ | refine Kp_uM ?_ | refine Kp_uJ ?_)))
    | refine KO_bi (k_m4_take (by repeat' (with_reducible first | assumption | (refine Kp_uI ?_ (by decide) (by decide)) | refine Kp_uA ?_ | refine Kp_uB ?_ | refine Kp_uM ?_ | refine Kp_uJ ?_))) (fun _ _ _ => ?_)
    | refine KO_bl (k_m4_take (by repeat' (with_reducible first | assumption | (refine Kp_uI ?_ (by decide) (by decide)) | refine Kp_uA ?_ | refine Kp_uB ?_ | refine Kp_uM ?_ | refine Kp_uJ ?_))) (fun _ _ _ => ?_)
    | exact k_m4_takePrice (by repeat' (with_reducible first | assumption | (refine Kp_uI ?_ (by decide) (by decide)) | refine Kp_uA ?_ | refine Kp_uB ?_ | refine Kp_uM ?_ | refine Kp_uJ ?_))
    | refine KO_bi2 (k_m4_takePrice (by repeat' (with_reducible first | assumption | (refine Kp_uI ?_ (by decide) (by decide)) | refine Kp_uA ?_ | refine Kp_uB ?_ | refine Kp_uM ?_ | refine Kp_uJ ?_))) (fun _ => ?_) (fun _ _ _ => ?_)
    | refine KO_ite (fun _ => ?_) (fun _ => ?_)
    | refine KO_ck ?_
    | refine KO_dvl ?_
    | refine KO_nmS (by repeat' (with_reducible first | assumption | (refine Kp_uI ?_ (by decide) (by decide)) | refine Kp_uA ?_ | refine Kp_uB ?_ | refine Kp_uM ?_ | refine Kp_uJ ?_)) (fun _ _ => ?_)
    | refine KO_nmV (fun _ => ?_)
    | (rw [if_pos rfl]))
theorem k_m4_readMembers_48 {n : Nat} {y19 : Int32} {y20 : Int32} {y21 : Int32} {y22 : Int32} {f26 : Int32 → Int32 → Int32 → Int32 → ej_S → Option (Int32 × ej_S)} (hf26 : ∀ (a0 : Int32) (a1 : Int32) (a2 : Int32) (a3 : Int32) (s : ej_S), Kp σ0 s → KO σ0 (f26 a0 a1 a2 a3 s)) (h : Kp σ0 s) : KO σ0 (m4_readMembers_48 n f26 y19 y20 y21 y22 s) := by
  unfold m4_readMembers_48
  repeat' (with_reducible first
    | exact KO_ret (by repeat' (with_reducible first | assumption | (refine Kp_uI ?_ (by decide) (by decide)) | refine Kp_uA ?_ | refine Kp_uB ?_ | refine Kp_uM ?_ | refine Kp_uJ ?_))
    | exact KO_0
    | exact KO_tell
    | exact KO_bz0
    | refine KO_mis1 (fun _ => ?_)
    | exact KO_A (k_m10_setOf (by repeat' (with_reducible first | assumption | (refine Kp_uI ?_ (by decide) (by decide)) | refine Kp_uA ?_ | refine Kp_uB ?_ | refine Kp_uM ?_ | refine Kp_uJ ?_)))
    | refine KO_bi (k_m10_setOf (by repeat' (with_reducible first | assumption | (refine Kp_uI ?_ (by decide) (by decide)) | refine Kp_uA ?_ | refine Kp_uB ?_ | refine Kp_uM ?_ | refine Kp_uJ ?_))) (fun _ _ _ => ?_)
    | refine KO_bl (k_m10_setOf (by repeat' (with_reducible first | assumption | (refine Kp_uI ?_ (by decide) (by decide)) | refine Kp_uA ?_ | refine Kp_uB ?_ | refine Kp_uM ?_ | refine Kp_uJ ?_))) (fun _ _ _ => ?_)
    | exact k_m4_takeName (by repeat' (with_reducible first | assumption | (refine Kp_uI ?_ (by decide) (by decide)) | refine Kp_uA ?_ | refine Kp_uB ?_ | refine Kp_uM ?_ | refine Kp_uJ ?_))
    | refine KO_bi2 (k_m4_takeName (by repeat' (with_reducible first | assumption | (refine Kp_uI ?_ (by decide) (by decide)) | refine Kp_uA ?_ | refine Kp_uB ?_ | refine Kp_uM ?_ | refine Kp_uJ ?_))) (fun _ => ?_) (fun _ _ _ => ?_)
    | exact hf26 _ _ _ _ _ (by repeat' (with_reducible first | assumption | (refine Kp_uI ?_ (by decide) (by decide)) | refine Kp_uA ?_ | refine Kp_uB ?_ | refine Kp_uM ?_ | refine Kp_uJ ?_))
    | refine KO_ite (fun _ => ?_) (fun _ => ?_)
    | refine KO_ck ?_
    | refine KO_dvl ?_
    | refine KO_nmS (by repeat' (with_reducible first | assumption | (refine Kp_uI ?_ (by decide) (by decide)) | refine Kp_uA ?_ | refine Kp_uB ?_ | refine Kp_uM ?_ | refine Kp_uJ ?_)) (fun _ _ => ?_)
    | refine KO_nmV (fun _ => ?_)
    | (rw [if_pos rfl]))
theorem k_m4_readMembers_26_l {n : Nat} : ∀ (k : Nat) (y5 : Int32) (y6 : Int32) (y7 : Int32) (y8 : Int32) (s : ej_S), Kp σ0 s → KO σ0 (m4_readMembers_26 n k y5 y6 y7 y8 s) := by
  intro k
  induction k with
  | zero => intros; exact KO_none
  | succ k ih =>
  intro y5 y6 y7 y8 s hs
  rw [u_4_readMembers_26]
  repeat' (with_reducible first
    | exact KO_ret (by repeat' (with_reducible first | assumption | (refine Kp_uI ?_ (by decide) (by decide)) | refine Kp_uA ?_ | refine Kp_uB ?_ | refine Kp_uM ?_ | refine Kp_uJ ?_))
    | exact KO_0
    | exact KO_tell
    | exact KO_bz0
    | refine KO_mis1 (fun _ => ?_)
    | exact k_m4_readMembers_48 ih (by repeat' (with_reducible first | assumption | (refine Kp_uI ?_ (by decide) (by decide)) | refine Kp_uA ?_ | refine Kp_uB ?_ | refine Kp_uM ?_ | refine Kp_uJ ?_))
    | refine KO_bi2 (k_m4_readMembers_48 ih (by repeat' (with_reducible first | assumption | (refine Kp_uI ?_ (by decide) (by decide)) | refine Kp_uA ?_ | refine Kp_uB ?_ | refine Kp_uM ?_ | refine Kp_uJ ?_))) (fun _ => ?_) (fun _ _ _ => ?_)
    | exact k_m4_readMembers_74 (by repeat' (with_reducible first | assumption | (refine Kp_uI ?_ (by decide) (by decide)) | refine Kp_uA ?_ | refine Kp_uB ?_ | refine Kp_uM ?_ | refine Kp_uJ ?_))
    | refine KO_bi2 (k_m4_readMembers_74 (by repeat' (with_reducible first | assumption | (refine Kp_uI ?_ (by decide) (by decide)) | refine Kp_uA ?_ | refine Kp_uB ?_ | refine Kp_uM ?_ | refine Kp_uJ ?_))) (fun _ => ?_) (fun _ _ _ => ?_)
    | exact KO_A (k_m4_take (by repeat' (with_reducible first | assumption | (refine Kp_uI ?_ (by decide) (by decide)) | refine Kp_uA ?_ | refine Kp_uB ?_ | refine Kp_uM ?_ | refine Kp_uJ ?_)))
    | refine KO_bi (k_m4_take (by repeat' (with_reducible first | assumption | (refine Kp_uI ?_ (by decide) (by decide)) | refine Kp_uA ?_ | refine Kp_uB ?_ | refine Kp_uM ?_ | refine Kp_uJ ?_))) (fun _ _ _ => ?_)
    | refine KO_bl (k_m4_take (by repeat' (with_reducible first | assumption | (refine Kp_uI ?_ (by decide) (by decide)) | refine Kp_uA ?_ | refine Kp_uB ?_ | refine Kp_uM ?_ | refine Kp_uJ ?_))) (fun _ _ _ => ?_)
    | exact ih _ _ _ _ _ (by repeat' (with_reducible first | assumption | (refine Kp_uI ?_ (by decide) (by decide)) | refine Kp_uA ?_ | refine Kp_uB ?_ | refine Kp_uM ?_ | refine Kp_uJ ?_))
    | refine KO_ite (fun _ => ?_) (fun _ => ?_)
    | refine KO_ck ?_
    | refine KO_dvl ?_
    | refine KO_nmS (by repeat' (with_reducible first | assumption | (refine Kp_uI ?_ (by decide) (by decide)) | refine Kp_uA ?_ | refine Kp_uB ?_ | refine Kp_uM ?_ | refine Kp_uJ ?_)) (fun _ _ => ?_)
    | refine KO_nmV (fun _ => ?_)
    | (rw [if_pos rfl]))
theorem k_m4_readMembers_26 {n : Nat} {k : Nat} {y5 : Int32} {y6 : Int32} {y7 : Int32} {y8 : Int32} (h : Kp σ0 s) : KO σ0 (m4_readMembers_26 n k y5 y6 y7 y8 s) := k_m4_readMembers_26_l k y5 y6 y7 y8 s h
theorem k_m4_readMembers {n : Nat} {a1 : Int32} (h : Kp σ0 s) : KO σ0 (m4_readMembers n a1 s) := by
  unfold m4_readMembers
  repeat' (with_reducible first
    | exact KO_ret (by repeat' (with_reducible first | assumption | (refine Kp_uI ?_ (by decide) (by decide)) | refine Kp_uA ?_ | refine Kp_uB ?_ | refine Kp_uM ?_ | refine Kp_uJ ?_))
    | exact KO_0
    | exact KO_tell
    | exact KO_bz0
    | refine KO_mis1 (fun _ => ?_)
    | exact k_m4_readMembers_26 (by repeat' (with_reducible first | assumption | (refine Kp_uI ?_ (by decide) (by decide)) | refine Kp_uA ?_ | refine Kp_uB ?_ | refine Kp_uM ?_ | refine Kp_uJ ?_))
    | refine KO_bi2 (k_m4_readMembers_26 (by repeat' (with_reducible first | assumption | (refine Kp_uI ?_ (by decide) (by decide)) | refine Kp_uA ?_ | refine Kp_uB ?_ | refine Kp_uM ?_ | refine Kp_uJ ?_))) (fun _ => ?_) (fun _ _ _ => ?_)
    | exact KO_A (k_m4_take (by repeat' (with_reducible first | assumption | (refine Kp_uI ?_ (by decide) (by decide)) | refine Kp_uA ?_ | refine Kp_uB ?_ | refine Kp_uM ?_ | refine Kp_uJ ?_)))
    | refine KO_bi (k_m4_take (by repeat' (with_reducible first | assumption | (refine Kp_uI ?_ (by decide) (by decide)) | refine Kp_uA ?_ | refine Kp_uB ?_ | refine Kp_uM ?_ | refine Kp_uJ ?_))) (fun _ _ _ => ?_)
    | refine KO_bl (k_m4_take (by repeat' (with_reducible first | assumption | (refine Kp_uI ?_ (by decide) (by decide)) | refine Kp_uA ?_ | refine Kp_uB ?_ | refine Kp_uM ?_ | refine Kp_uJ ?_))) (fun _ _ _ => ?_)
    | refine KO_ite (fun _ => ?_) (fun _ => ?_)
    | refine KO_ck ?_
    | refine KO_dvl ?_
    | refine KO_nmS (by repeat' (with_reducible first | assumption | (refine Kp_uI ?_ (by decide) (by decide)) | refine Kp_uA ?_ | refine Kp_uB ?_ | refine Kp_uM ?_ | refine Kp_uJ ?_)) (fun _ _ => ?_)
    | refine KO_nmV (fun _ => ?_)
    | (rw [if_pos rfl]))
theorem k_m4_read_182_0 {n t1 : Nat} {f25 : Int32 → ej_S → Option (Int32 × ej_S)} {y : Int32} : KO σ0 (m4_read_182 n t1 f25 y 0 s) := by
  unfold m4_read_182
  rw [if_pos rfl]
  exact KO_0
theorem k_m4_read_182 {n : Nat} {t1 : Nat} {y20 : Int32} {y21 : Int32} {f25 : Int32 → ej_S → Option (Int32 × ej_S)} (hf25 : ∀ (a0 : Int32) (s : ej_S), Kp σ0 s → KO σ0 (f25 a0 s)) (h : Kp σ0 s) : KO σ0 (m4_read_182 n t1 f25 y20 y21 s) := by
  unfold m4_read_182
  repeat' (with_reducible first
    | exact KO_ret (by repeat' (with_reducible first | assumption | (refine Kp_uI ?_ (by decide) (by decide)) | refine Kp_uA ?_ | refine Kp_uB ?_ | refine Kp_uM ?_ | refine Kp_uJ ?_))
    | exact KO_0
    | exact KO_tell
    | exact KO_bz0
    | refine KO_mis1 (fun _ => ?_)
    | exact KO_A (k_m8_sortAt (by repeat' (with_reducible first | assumption | (refine Kp_uI ?_ (by decide) (by decide)) | refine Kp_uA ?_ | refine Kp_uB ?_ | refine Kp_uM ?_ | refine Kp_uJ ?_)))
    | refine KO_bi (k_m8_sortAt (by repeat' (with_reducible first | assumption | (refine Kp_uI ?_ (by decide) (by decide)) | refine Kp_uA ?_ | refine Kp_uB ?_ | refine Kp_uM ?_ | refine Kp_uJ ?_))) (fun _ _ _ => ?_)
    | refine KO_bl (k_m8_sortAt (by repeat' (with_reducible first | assumption | (refine Kp_uI ?_ (by decide) (by decide)) | refine Kp_uA ?_ | refine Kp_uB ?_ | refine Kp_uM ?_ | refine Kp_uJ ?_))) (fun _ _ _ => ?_)
    | exact hf25 _ _ (by repeat' (with_reducible first | assumption | (refine Kp_uI ?_ (by decide) (by decide)) | refine Kp_uA ?_ | refine Kp_uB ?_ | refine Kp_uM ?_ | refine Kp_uJ ?_))
    | refine KO_ite (fun _ => ?_) (fun _ => ?_)
    | refine KO_ck ?_
    | refine KO_dvl ?_
    | refine KO_nmS (by repeat' (with_reducible first | assumption | (refine Kp_uI ?_ (by decide) (by decide)) | refine Kp_uA ?_ | refine Kp_uB ?_ | refine Kp_uM ?_ | refine Kp_uJ ?_)) (fun _ _ => ?_)
    | refine KO_nmV (fun _ => ?_)
    | (rw [if_pos rfl]))
theorem k_m4_read_25_l {n : Nat} {t1 : Nat} : ∀ (k : Nat) (y5 : Int32) (s : ej_S), Kp σ0 s → KO σ0 (m4_read_25 n t1 k y5 s) := by
  intro k
  induction k with
  | zero => intros; exact KO_none
  | succ k ih =>
  intro y5 s hs
  rw [u_4_read_25]
  repeat' (with_reducible first
    | exact KO_ret (by repeat' (with_reducible first | assumption | (refine Kp_uI ?_ (by decide) (by decide)) | refine Kp_uA ?_ | refine Kp_uB ?_ | refine Kp_uM ?_ | refine Kp_uJ ?_))
    | exact KO_0
    | exact KO_tell
    | exact KO_bz0
    | refine KO_mis1 (fun _ => ?_)
    | exact k_m4_read_182_0
    | exact KO_A (k_m4_listAhead (by repeat' (with_reducible first | assumption | (refine Kp_uI ?_ (by decide) (by decide)) | refine Kp_uA ?_ | refine Kp_uB ?_ | refine Kp_uM ?_ | refine Kp_uJ ?_)))
    | refine KO_bi (k_m4_listAhead (by repeat' (with_reducible first | assumption | (refine Kp_uI ?_ (by decide) (by decide)) | refine Kp_uA ?_ | refine Kp_uB ?_ | refine Kp_uM ?_ | refine Kp_uJ ?_))) (fun _ _ _ => ?_)
    | refine KO_bl (k_m4_listAhead (by repeat' (with_reducible first | assumption | (refine Kp_uI ?_ (by decide) (by decide)) | refine Kp_uA ?_ | refine Kp_uB ?_ | refine Kp_uM ?_ | refine Kp_uJ ?_))) (fun _ _ _ => ?_)
    | exact k_m4_readAliases (by repeat' (with_reducible first | assumption | (refine Kp_uI ?_ (by decide) (by decide)) | refine Kp_uA ?_ | refine Kp_uB ?_ | refine Kp_uM ?_ | refine Kp_uJ ?_))
    | refine KO_bi2 (k_m4_readAliases (by repeat' (with_reducible first | assumption | (refine Kp_uI ?_ (by decide) (by decide)) | refine Kp_uA ?_ | refine Kp_uB ?_ | refine Kp_uM ?_ | refine Kp_uJ ?_))) (fun _ => ?_) (fun _ _ _ => ?_)
    | exact k_m4_readLinks (by repeat' (with_reducible first | assumption | (refine Kp_uI ?_ (by decide) (by decide)) | refine Kp_uA ?_ | refine Kp_uB ?_ | refine Kp_uM ?_ | refine Kp_uJ ?_))
    | refine KO_bi2 (k_m4_readLinks (by repeat' (with_reducible first | assumption | (refine Kp_uI ?_ (by decide) (by decide)) | refine Kp_uA ?_ | refine Kp_uB ?_ | refine Kp_uM ?_ | refine Kp_uJ ?_))) (fun _ => ?_) (fun _ _ _ => ?_)
    | exact k_m4_readList (by repeat' (with_reducible first | assumption | (refine Kp_uI ?_ (by decide) (by decide)) | refine Kp_uA ?_ | refine Kp_uB ?_ | refine Kp_uM ?_ | refine Kp_uJ ?_))
    | refine KO_bi2 (k_m4_readList (by repeat' (with_reducible first | assumption | (refine Kp_uI ?_ (by decide) (by decide)) | refine Kp_uA ?_ | refine Kp_uB ?_ | refine Kp_uM ?_ | refine Kp_uJ ?_))) (fun _ => ?_) (fun _ _ _ => ?_)
    | exact k_m4_readMembers (by repeat' (with_reducible first | assumption | (refine Kp_uI ?_ (by decide) (by decide)) | refine Kp_uA ?_ | refine Kp_uB ?_ | refine Kp_uM ?_ | refine Kp_uJ ?_))
    | refine KO_bi2 (k_m4_readMembers (by repeat' (with_reducible first | assumption | (refine Kp_uI ?_ (by decide) (by decide)) | refine Kp_uA ?_ | refine Kp_uB ?_ | refine Kp_uM ?_ | refine Kp_uJ ?_))) (fun _ => ?_) (fun _ _ _ => ?_)
    | exact k_m4_read_182 ih (by repeat' (with_reducible first | assumption | (refine Kp_uI ?_ (by decide) (by decide)) | refine Kp_uA ?_ | refine Kp_uB ?_ | refine Kp_uM ?_ | refine Kp_uJ ?_))
    | refine KO_bi2 (k_m4_read_182 ih (by repeat' (with_reducible first | assumption | (refine Kp_uI ?_ (by decide) (by decide)) | refine Kp_uA ?_ | refine Kp_uB ?_ | refine Kp_uM ?_ | refine Kp_uJ ?_))) (fun _ => ?_) (fun _ _ _ => ?_)
    | exact KO_A (k_m4_take (by repeat' (with_reducible first | assumption | (refine Kp_uI ?_ (by decide) (by decide)) | refine Kp_uA ?_ | refine Kp_uB ?_ | refine Kp_uM ?_ | refine Kp_uJ ?_)))
    | refine KO_bi (k_m4_take (by repeat' (with_reducible first | assumption | (refine Kp_uI ?_ (by decide) (by decide)) | refine Kp_uA ?_ | refine Kp_uB ?_ | refine Kp_uM ?_ | refine Kp_uJ ?_))) (fun _ _ _ => ?_)
    | refine KO_bl (k_m4_take (by repeat' (with_reducible first | assumption | (refine Kp_uI ?_ (by decide) (by decide)) | refine Kp_uA ?_ | refine Kp_uB ?_ | refine Kp_uM ?_ | refine Kp_uJ ?_))) (fun _ _ _ => ?_)
    | exact k_m4_takeName (by repeat' (with_reducible first | assumption | (refine Kp_uI ?_ (by decide) (by decide)) | refine Kp_uA ?_ | refine Kp_uB ?_ | refine Kp_uM ?_ | refine Kp_uJ ?_))
    | refine KO_bi2 (k_m4_takeName (by repeat' (with_reducible first | assumption | (refine Kp_uI ?_ (by decide) (by decide)) | refine Kp_uA ?_ | refine Kp_uB ?_ | refine Kp_uM ?_ | refine Kp_uJ ?_))) (fun _ => ?_) (fun _ _ _ => ?_)
    | exact KO_A (k_m8_beginAt (by repeat' (with_reducible first | assumption | (refine Kp_uI ?_ (by decide) (by decide)) | refine Kp_uA ?_ | refine Kp_uB ?_ | refine Kp_uM ?_ | refine Kp_uJ ?_)))
    | refine KO_bi (k_m8_beginAt (by repeat' (with_reducible first | assumption | (refine Kp_uI ?_ (by decide) (by decide)) | refine Kp_uA ?_ | refine Kp_uB ?_ | refine Kp_uM ?_ | refine Kp_uJ ?_))) (fun _ _ _ => ?_)
    | refine KO_bl (k_m8_beginAt (by repeat' (with_reducible first | assumption | (refine Kp_uI ?_ (by decide) (by decide)) | refine Kp_uA ?_ | refine Kp_uB ?_ | refine Kp_uM ?_ | refine Kp_uJ ?_))) (fun _ _ _ => ?_)
    | exact KO_A (k_m8_sortAt (by repeat' (with_reducible first | assumption | (refine Kp_uI ?_ (by decide) (by decide)) | refine Kp_uA ?_ | refine Kp_uB ?_ | refine Kp_uM ?_ | refine Kp_uJ ?_)))
    | refine KO_bi (k_m8_sortAt (by repeat' (with_reducible first | assumption | (refine Kp_uI ?_ (by decide) (by decide)) | refine Kp_uA ?_ | refine Kp_uB ?_ | refine Kp_uM ?_ | refine Kp_uJ ?_))) (fun _ _ _ => ?_)
    | refine KO_bl (k_m8_sortAt (by repeat' (with_reducible first | assumption | (refine Kp_uI ?_ (by decide) (by decide)) | refine Kp_uA ?_ | refine Kp_uB ?_ | refine Kp_uM ?_ | refine Kp_uJ ?_))) (fun _ _ _ => ?_)
    | exact ih _ _ (by repeat' (with_reducible first | assumption | (refine Kp_uI ?_ (by decide) (by decide)) | refine Kp_uA ?_ | refine Kp_uB ?_ | refine Kp_uM ?_ | refine Kp_uJ ?_))
    | refine KO_ite (fun _ => ?_) (fun _ => ?_)
    | refine KO_ck ?_
    | refine KO_dvl ?_
    | refine KO_nmS (by repeat' (with_reducible first | assumption | (refine Kp_uI ?_ (by decide) (by decide)) | refine Kp_uA ?_ | refine Kp_uB ?_ | refine Kp_uM ?_ | refine Kp_uJ ?_)) (fun _ _ => ?_)
    | refine KO_nmV (fun _ => ?_)
    | (rw [if_pos rfl]))
theorem k_m4_read_25 {n : Nat} {t1 : Nat} {k : Nat} {y5 : Int32} (h : Kp σ0 s) : KO σ0 (m4_read_25 n t1 k y5 s) := k_m4_read_25_l k y5 s h
end P94
