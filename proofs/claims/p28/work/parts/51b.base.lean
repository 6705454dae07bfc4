/-! BASE OF THE PURE LEVEL: literals, branches, states, frames -/
theorem L_0 : (0 : Int32) = nI 0 := congrArg nI (Eq.refl 0)
theorem L_1 : (1 : Int32) = nI 1 := congrArg nI (Eq.refl 1)
theorem L_2 : (2 : Int32) = nI 2 := congrArg nI (Eq.refl 2)
theorem L_3 : (3 : Int32) = nI 3 := congrArg nI (Eq.refl 3)
theorem L_4 : (4 : Int32) = nI 4 := congrArg nI (Eq.refl 4)
theorem L_5 : (5 : Int32) = nI 5 := congrArg nI (Eq.refl 5)
theorem L_6 : (6 : Int32) = nI 6 := congrArg nI (Eq.refl 6)
theorem L_7 : (7 : Int32) = nI 7 := congrArg nI (Eq.refl 7)
theorem L_8 : (8 : Int32) = nI 8 := congrArg nI (Eq.refl 8)
theorem L_9 : (9 : Int32) = nI 9 := congrArg nI (Eq.refl 9)
theorem L_10 : (10 : Int32) = nI 10 := congrArg nI (Eq.refl 10)
theorem L_11 : (11 : Int32) = nI 11 := congrArg nI (Eq.refl 11)
theorem L_12 : (12 : Int32) = nI 12 := congrArg nI (Eq.refl 12)
theorem L_13 : (13 : Int32) = nI 13 := congrArg nI (Eq.refl 13)
theorem L_14 : (14 : Int32) = nI 14 := congrArg nI (Eq.refl 14)
theorem L_15 : (15 : Int32) = nI 15 := congrArg nI (Eq.refl 15)
theorem L_16 : (16 : Int32) = nI 16 := congrArg nI (Eq.refl 16)
theorem L_17 : (17 : Int32) = nI 17 := congrArg nI (Eq.refl 17)
theorem L_18 : (18 : Int32) = nI 18 := congrArg nI (Eq.refl 18)
theorem L_19 : (19 : Int32) = nI 19 := congrArg nI (Eq.refl 19)
theorem L_20 : (20 : Int32) = nI 20 := congrArg nI (Eq.refl 20)
theorem L_21 : (21 : Int32) = nI 21 := congrArg nI (Eq.refl 21)
theorem L_22 : (22 : Int32) = nI 22 := congrArg nI (Eq.refl 22)
theorem L_23 : (23 : Int32) = nI 23 := congrArg nI (Eq.refl 23)
theorem L_24 : (24 : Int32) = nI 24 := congrArg nI (Eq.refl 24)
theorem L_31 : (31 : Int32) = nI 31 := congrArg nI (Eq.refl 31)
theorem L_32 : (32 : Int32) = nI 32 := congrArg nI (Eq.refl 32)
theorem L_33 : (33 : Int32) = nI 33 := congrArg nI (Eq.refl 33)
theorem L_35 : (35 : Int32) = nI 35 := congrArg nI (Eq.refl 35)
theorem L_37 : (37 : Int32) = nI 37 := congrArg nI (Eq.refl 37)
theorem L_40 : (40 : Int32) = nI 40 := congrArg nI (Eq.refl 40)
theorem L_41 : (41 : Int32) = nI 41 := congrArg nI (Eq.refl 41)
theorem L_42 : (42 : Int32) = nI 42 := congrArg nI (Eq.refl 42)
theorem L_43 : (43 : Int32) = nI 43 := congrArg nI (Eq.refl 43)
theorem L_44 : (44 : Int32) = nI 44 := congrArg nI (Eq.refl 44)
theorem L_45 : (45 : Int32) = nI 45 := congrArg nI (Eq.refl 45)
theorem L_46 : (46 : Int32) = nI 46 := congrArg nI (Eq.refl 46)
theorem L_47 : (47 : Int32) = nI 47 := congrArg nI (Eq.refl 47)
theorem L_48 : (48 : Int32) = nI 48 := congrArg nI (Eq.refl 48)
theorem L_57 : (57 : Int32) = nI 57 := congrArg nI (Eq.refl 57)
theorem L_58 : (58 : Int32) = nI 58 := congrArg nI (Eq.refl 58)
theorem L_59 : (59 : Int32) = nI 59 := congrArg nI (Eq.refl 59)
theorem L_61 : (61 : Int32) = nI 61 := congrArg nI (Eq.refl 61)
theorem L_63 : (63 : Int32) = nI 63 := congrArg nI (Eq.refl 63)
theorem L_64 : (64 : Int32) = nI 64 := congrArg nI (Eq.refl 64)
theorem L_65 : (65 : Int32) = nI 65 := congrArg nI (Eq.refl 65)
theorem L_90 : (90 : Int32) = nI 90 := congrArg nI (Eq.refl 90)
theorem L_95 : (95 : Int32) = nI 95 := congrArg nI (Eq.refl 95)
theorem L_96 : (96 : Int32) = nI 96 := congrArg nI (Eq.refl 96)
theorem L_97 : (97 : Int32) = nI 97 := congrArg nI (Eq.refl 97)
theorem L_122 : (122 : Int32) = nI 122 := congrArg nI (Eq.refl 122)
theorem L_123 : (123 : Int32) = nI 123 := congrArg nI (Eq.refl 123)
theorem L_125 : (125 : Int32) = nI 125 := congrArg nI (Eq.refl 125)
theorem L_200 : (200 : Int32) = nI 200 := congrArg nI (Eq.refl 200)
theorem L_255 : (255 : Int32) = nI 255 := congrArg nI (Eq.refl 255)
theorem L_300 : (300 : Int32) = nI 300 := congrArg nI (Eq.refl 300)
theorem L_500 : (500 : Int32) = nI 500 := congrArg nI (Eq.refl 500)
theorem L_576 : (576 : Int32) = nI 576 := congrArg nI (Eq.refl 576)
theorem L_600 : (600 : Int32) = nI 600 := congrArg nI (Eq.refl 600)
theorem L_601 : (601 : Int32) = nI 601 := congrArg nI (Eq.refl 601)
theorem L_602 : (602 : Int32) = nI 602 := congrArg nI (Eq.refl 602)
theorem L_1200 : (1200 : Int32) = nI 1200 := congrArg nI (Eq.refl 1200)
theorem L_1800 : (1800 : Int32) = nI 1800 := congrArg nI (Eq.refl 1800)
theorem L_2400 : (2400 : Int32) = nI 2400 := congrArg nI (Eq.refl 2400)
theorem L_3000 : (3000 : Int32) = nI 3000 := congrArg nI (Eq.refl 3000)
theorem L_4000 : (4000 : Int32) = nI 4000 := congrArg nI (Eq.refl 4000)
theorem L_4096 : (4096 : Int32) = nI 4096 := congrArg nI (Eq.refl 4096)
theorem L_5000 : (5000 : Int32) = nI 5000 := congrArg nI (Eq.refl 5000)
theorem L_30000 : (30000 : Int32) = nI 30000 := congrArg nI (Eq.refl 30000)
theorem L_50000 : (50000 : Int32) = nI 50000 := congrArg nI (Eq.refl 50000)
theorem L_60000 : (60000 : Int32) = nI 60000 := congrArg nI (Eq.refl 60000)
theorem L_70000 : (70000 : Int32) = nI 70000 := congrArg nI (Eq.refl 70000)
theorem L_100000 : (100000 : Int32) = nI 100000 := congrArg nI (Eq.refl 100000)
theorem L_200000 : (200000 : Int32) = nI 200000 := congrArg nI (Eq.refl 200000)
theorem L_1000000 : (1000000 : Int32) = nI 1000000 := congrArg nI (Eq.refl 1000000)
theorem L_1000001 : (1000001 : Int32) = nI 1000001 := congrArg nI (Eq.refl 1000001)
def zm : Int32 := -1
theorem L_m1 : (-1 : Int32) = zm := congrArg (fun x : Int32 => x) (Eq.refl zm)
theorem zm_lt {a : Nat} (h : a < 2 ^ 31) : zm < nI a := by rw [Int32.lt_iff_toInt_lt, nI_toInt h]; show (-1 : Int32).toInt < _; have : (-1 : Int32).toInt = -1 := rfl; omega
theorem zm_ne {a : Nat} (h : a < 2 ^ 31) : nI a ≠ zm := by intro e; have := zm_lt h; rw [e, Int32.lt_iff_toInt_lt] at this; omega
theorem zm_nlt {a : Nat} (h : a < 2 ^ 31) : ¬ nI a < zm := by have := zm_lt h; rw [Int32.lt_iff_toInt_lt] at *; omega
theorem zm_nle {a : Nat} (h : a < 2 ^ 31) : ¬ nI a ≤ zm := by have := zm_lt h; rw [Int32.lt_iff_toInt_lt] at this; rw [Int32.le_iff_toInt_le]; omega
theorem zm_le {a : Nat} (h : a < 2 ^ 31) : zm ≤ nI a := by have := zm_lt h; rw [Int32.lt_iff_toInt_lt] at this; rw [Int32.le_iff_toInt_le]; omega
section P51
variable {α : Type} {β : Type} {x y : α} {a b : Nat}
theorem ile_t [Decidable (nI a ≤ nI b)] (h : a ≤ b) (hb : b < 2 ^ 31) : (if nI a ≤ nI b then x else y) = x := if_pos (nI_le h hb)
theorem ile_f [Decidable (nI a ≤ nI b)] (h : b < a) (ha : a < 2 ^ 31) : (if nI a ≤ nI b then x else y) = y := if_neg (nI_ge h ha)
theorem ilt_t [Decidable (nI a < nI b)] (h : a < b) (hb : b < 2 ^ 31) : (if nI a < nI b then x else y) = x := if_pos (nI_lt h hb)
theorem ilt_f [Decidable (nI a < nI b)] (h : b ≤ a) (ha : a < 2 ^ 31) : (if nI a < nI b then x else y) = y := if_neg (nI_nlt h ha)
theorem ieq_t [Decidable (nI a = nI b)] (h : a = b) : (if nI a = nI b then x else y) = x := if_pos (congrArg nI h)
theorem ieq_f [Decidable (nI a = nI b)] (h : a ≠ b) (ha : a < 2 ^ 31) (hb : b < 2 ^ 31) : (if nI a = nI b then x else y) = y := if_neg (fun e => h ((nI_eq ha hb).mp e))
theorem ieq_m [Decidable (nI a = zm)] (ha : a < 2 ^ 31) : (if nI a = zm then x else y) = y := if_neg (zm_ne ha)
theorem ieq_m2 [Decidable (zm = nI a)] (ha : a < 2 ^ 31) : (if zm = nI a then x else y) = y := if_neg (fun e => zm_ne ha e.symm)
theorem ieq_mm [Decidable (zm = zm)] : (if zm = zm then x else y) = x := if_pos rfl
theorem ilt_m [Decidable (zm < nI a)] (ha : a < 2 ^ 31) : (if zm < nI a then x else y) = x := if_pos (zm_lt ha)
theorem ilt_m2 [Decidable (nI a < zm)] (ha : a < 2 ^ 31) : (if nI a < zm then x else y) = y := if_neg (zm_nlt ha)
theorem ile_m [Decidable (zm ≤ nI a)] (ha : a < 2 ^ 31) : (if zm ≤ nI a then x else y) = x := if_pos (zm_le ha)
theorem ile_m2 [Decidable (nI a ≤ zm)] (ha : a < 2 ^ 31) : (if nI a ≤ zm then x else y) = y := if_neg (zm_nle ha)
theorem ck_t {k : Option β} {i N : Nat} (h : i < N) (hN : N < 2 ^ 31) : ej_ck (nI i) N k = k := if_neg (nI_in h hN)
theorem ej_bi_s {S : Type} {r : Int32} {s : S} {k : Int32 → S → Option β} : ej_bi (some (r, s)) k = k r s := rfl
theorem ej_bl_s {S : Type} {r : Int64} {s : S} {k : Int64 → S → Option β} : ej_bl (some (r, s)) k = k r s := rfl
theorem ej_bv_s {S : Type} {s : S} {k : S → Option β} : ej_bv (some s) k = k s := rfl
theorem ej_bxv_s {S : Type} {s : S} {k : S → Option (β ⊕ (Nat × S))} : ej_bxv (some (.inl s)) k = k s := rfl
theorem ej_bxv_e {S : Type} {s : Nat × S} {k : S → Option (β ⊕ (Nat × S))} : ej_bxv (some (.inr s)) k = some (.inr s) := rfl
theorem ej_nm_e {γ : Type} {v : γ} {k : γ → Option β} : ej_nm v k = k v := rfl
theorem ej_dv_t {k : Option β} (h : 0 < a) (ha : a < 2 ^ 31) : ej_dv (nI a) k = k := if_neg (nI_ne0 h ha)
theorem o_nI : Int32.ofNat a = nI a := congrArg Int32.ofNat (Eq.refl a)
theorem nI_m1 (h : 0 < a) : nI a + zm = nI (a - 1) := sb_m1 h
theorem nI_m2 (h : b ≤ a) : nI a - nI b = nI (a - b) := pk_sub h
end P51
section P51d
variable {a b : Nat}
theorem cle_t (h : a ≤ b) (hb : b < 2 ^ 31) : (nI a ≤ nI b) = True := eq_true (nI_le h hb)
theorem cle_f (h : b < a) (ha : a < 2 ^ 31) : (nI a ≤ nI b) = False := eq_false (nI_ge h ha)
theorem clt_t (h : a < b) (hb : b < 2 ^ 31) : (nI a < nI b) = True := eq_true (nI_lt h hb)
theorem clt_f (h : b ≤ a) (ha : a < 2 ^ 31) : (nI a < nI b) = False := eq_false (nI_nlt h ha)
theorem ceq_t (h : a = b) : (nI a = nI b) = True := eq_true (congrArg nI h)
theorem ceq_f (h : a ≠ b) (ha : a < 2 ^ 31) (hb : b < 2 ^ 31) : (nI a = nI b) = False := eq_false (fun e => h ((nI_eq ha hb).mp e))
theorem ceq_m (ha : a < 2 ^ 31) : (nI a = zm) = False := eq_false (zm_ne ha)
theorem ceq_m2 (ha : a < 2 ^ 31) : (zm = nI a) = False := eq_false (fun e => zm_ne ha e.symm)
theorem clt_m (ha : a < 2 ^ 31) : (zm < nI a) = True := eq_true (zm_lt ha)
theorem clt_m2 (ha : a < 2 ^ 31) : (nI a < zm) = False := eq_false (zm_nlt ha)
theorem cle_m (ha : a < 2 ^ 31) : (zm ≤ nI a) = True := eq_true (zm_le ha)
theorem cle_m2 (ha : a < 2 ^ 31) : (nI a ≤ zm) = False := eq_false (zm_nle ha)
end P51d
section P51b
variable {σ : ej_S} {k j i i' : Nat} {v : Int32} {w : Int64}
theorem s_II_s : gI (uI σ k v) k = v := if_pos rfl
theorem s_II_n (h : j ≠ k) : gI (uI σ k v) j = gI σ j := if_neg h
theorem s_JJ_s : gJ (uJ σ k w) k = w := if_pos rfl
theorem s_JJ_n (h : j ≠ k) : gJ (uJ σ k w) j = gJ σ j := if_neg h
theorem s_AA_s : gA (uA σ k i v) k = upd (gA σ k) i v := if_pos rfl
theorem s_AA_n (h : j ≠ k) : gA (uA σ k i v) j = gA σ j := if_neg h
theorem s_BB_s : gB (uB σ k i w) k = vp_updL (gB σ k) i w := if_pos rfl
theorem s_BB_n (h : j ≠ k) : gB (uB σ k i w) j = gB σ j := if_neg h
theorem s_MM_s : gM (uM σ k i i' v) k = va_up (gM σ k) i (upd (gM σ k i) i' v) := if_pos rfl
theorem s_MM_n (h : j ≠ k) : gM (uM σ k i i' v) j = gM σ j := if_neg h
theorem s_IJ : gI (uJ σ k w) j = gI σ j := congrFun (Eq.refl σ.1) j
theorem s_IA : gI (uA σ k i v) j = gI σ j := congrFun (Eq.refl σ.1) j
theorem s_IB : gI (uB σ k i w) j = gI σ j := congrFun (Eq.refl σ.1) j
theorem s_IM : gI (uM σ k i i' v) j = gI σ j := congrFun (Eq.refl σ.1) j
theorem s_JI : gJ (uI σ k v) j = gJ σ j := congrFun (Eq.refl σ.2.1) j
theorem s_JA : gJ (uA σ k i v) j = gJ σ j := congrFun (Eq.refl σ.2.1) j
theorem s_JB : gJ (uB σ k i w) j = gJ σ j := congrFun (Eq.refl σ.2.1) j
theorem s_JM : gJ (uM σ k i i' v) j = gJ σ j := congrFun (Eq.refl σ.2.1) j
theorem s_AI : gA (uI σ k v) j = gA σ j := congrFun (Eq.refl σ.2.2.1) j
theorem s_AJ : gA (uJ σ k w) j = gA σ j := congrFun (Eq.refl σ.2.2.1) j
theorem s_AB : gA (uB σ k i w) j = gA σ j := congrFun (Eq.refl σ.2.2.1) j
theorem s_AM : gA (uM σ k i i' v) j = gA σ j := congrFun (Eq.refl σ.2.2.1) j
theorem s_BI : gB (uI σ k v) j = gB σ j := congrFun (Eq.refl σ.2.2.2.1) j
theorem s_BJ : gB (uJ σ k w) j = gB σ j := congrFun (Eq.refl σ.2.2.2.1) j
theorem s_BA : gB (uA σ k i v) j = gB σ j := congrFun (Eq.refl σ.2.2.2.1) j
theorem s_BM : gB (uM σ k i i' v) j = gB σ j := congrFun (Eq.refl σ.2.2.2.1) j
theorem s_MI : gM (uI σ k v) j = gM σ j := congrFun (Eq.refl σ.2.2.2.2) j
theorem s_MJ : gM (uJ σ k w) j = gM σ j := congrFun (Eq.refl σ.2.2.2.2) j
theorem s_MA : gM (uA σ k i v) j = gM σ j := congrFun (Eq.refl σ.2.2.2.2) j
theorem s_MB : gM (uB σ k i w) j = gM σ j := congrFun (Eq.refl σ.2.2.2.2) j
end P51b
/-- what may change: ints, longs, int rows, long rows, tables -/
def fr (I J A B M : List Nat) (σ σ' : ej_S) : Prop := (∀ k, k ∉ I → gI σ' k = gI σ k) ∧ (∀ k, k ∉ J → gJ σ' k = gJ σ k) ∧ (∀ k, k ∉ A → gA σ' k = gA σ k) ∧ (∀ k, k ∉ B → gB σ' k = gB σ k) ∧ (∀ k, k ∉ M → gM σ' k = gM σ k)
section P51c
variable {I J A B M I' J' A' B' M' : List Nat} {σ s s' : ej_S} {k i i' : Nat} {v : Int32} {w : Int64}
theorem fr_rf : fr I J A B M σ σ := ⟨fun _ _ => rfl, fun _ _ => rfl, fun _ _ => rfl, fun _ _ => rfl, fun _ _ => rfl⟩
theorem fr_tr (h : fr I J A B M σ s) (h' : fr I J A B M s s') : fr I J A B M σ s' := ⟨fun k q => (h'.1 k q).trans (h.1 k q), fun k q => (h'.2.1 k q).trans (h.2.1 k q), fun k q => (h'.2.2.1 k q).trans (h.2.2.1 k q), fun k q => (h'.2.2.2.1 k q).trans (h.2.2.2.1 k q), fun k q => (h'.2.2.2.2 k q).trans (h.2.2.2.2 k q)⟩
theorem fr_wk (h : fr I J A B M σ s) (hI : I ⊆ I') (hJ : J ⊆ J') (hA : A ⊆ A') (hB : B ⊆ B') (hM : M ⊆ M') : fr I' J' A' B' M' σ s := ⟨fun k q => h.1 k (fun z => q (hI z)), fun k q => h.2.1 k (fun z => q (hJ z)), fun k q => h.2.2.1 k (fun z => q (hA z)), fun k q => h.2.2.2.1 k (fun z => q (hB z)), fun k q => h.2.2.2.2 k (fun z => q (hM z))⟩
theorem fr_ap (h : fr I J A B M σ s) (h' : fr I' J' A' B' M' s s') : fr (I ++ I') (J ++ J') (A ++ A') (B ++ B') (M ++ M') σ s' := fr_tr (fr_wk h (List.subset_append_left _ _) (List.subset_append_left _ _) (List.subset_append_left _ _) (List.subset_append_left _ _) (List.subset_append_left _ _)) (fr_wk h' (List.subset_append_right _ _) (List.subset_append_right _ _) (List.subset_append_right _ _) (List.subset_append_right _ _) (List.subset_append_right _ _))
theorem fr_uI (h : fr I J A B M σ s) (hk : k ∈ I) : fr I J A B M σ (uI s k v) := ⟨fun j q => (if_neg (fun e : j = k => q (e ▸ hk))).trans (h.1 j q), h.2.1, h.2.2.1, h.2.2.2.1, h.2.2.2.2⟩
theorem fr_uJ (h : fr I J A B M σ s) (hk : k ∈ J) : fr I J A B M σ (uJ s k w) := ⟨h.1, fun j q => (if_neg (fun e : j = k => q (e ▸ hk))).trans (h.2.1 j q), h.2.2.1, h.2.2.2.1, h.2.2.2.2⟩
theorem fr_uA (h : fr I J A B M σ s) (hk : k ∈ A) : fr I J A B M σ (uA s k i v) := ⟨h.1, h.2.1, fun j q => (if_neg (fun e : j = k => q (e ▸ hk))).trans (h.2.2.1 j q), h.2.2.2.1, h.2.2.2.2⟩
theorem fr_uB (h : fr I J A B M σ s) (hk : k ∈ B) : fr I J A B M σ (uB s k i w) := ⟨h.1, h.2.1, h.2.2.1, fun j q => (if_neg (fun e : j = k => q (e ▸ hk))).trans (h.2.2.2.1 j q), h.2.2.2.2⟩
theorem fr_uM (h : fr I J A B M σ s) (hk : k ∈ M) : fr I J A B M σ (uM s k i i' v) := ⟨h.1, h.2.1, h.2.2.1, h.2.2.2.1, fun j q => (if_neg (fun e : j = k => q (e ▸ hk))).trans (h.2.2.2.2 j q)⟩
end P51c
/-- tests of longs -/
theorem cmp_eq (x y : Int64) : (lg_cmp x y = 0) ↔ x = y := by
  unfold lg_cmp
  split
  · rename_i h
    refine ⟨fun e => absurd e (by decide), fun e => ?_⟩
    subst e
    exact absurd h Int64.lt_irrefl
  · split
    · rename_i h; exact ⟨fun _ => h, fun _ => rfl⟩
    · rename_i h; exact ⟨fun e => absurd e (by decide), fun e => absurd e h⟩
theorem cmp_gt (x y : Int64) : (0 < lg_cmp x y) ↔ y < x := by
  unfold lg_cmp
  split
  · rename_i h; exact ⟨fun _ => h, fun _ => by decide⟩
  · rename_i h
    split
    · exact ⟨fun e => absurd e (by decide), fun e => absurd e h⟩
    · exact ⟨fun e => absurd e (by decide), fun e => absurd e h⟩
theorem cmp_lt (x y : Int64) : (lg_cmp x y < 0) ↔ x < y := by
  unfold lg_cmp
  split
  · rename_i h
    refine ⟨fun e => absurd e (by decide), fun e => ?_⟩
    have h1 : y < x := h
    rw [Int64.lt_iff_toInt_lt] at *; omega
  · rename_i h
    split
    · rename_i h2; exact ⟨fun e => absurd e (by decide), fun e => absurd e (by rw [h2]; exact Int64.lt_irrefl)⟩
    · rename_i h2
      refine ⟨fun _ => ?_, fun _ => by decide⟩
      have h1 : ¬ y < x := h
      rw [Int64.lt_iff_toInt_lt] at *
      have : x.toInt ≠ y.toInt := fun e => h2 (Int64.toInt_inj.mp e)
      omega
theorem cmp_ge (x y : Int64) : (0 ≤ lg_cmp x y) ↔ y ≤ x := by
  have h := cmp_lt x y
  rw [Int32.lt_iff_toInt_lt, Int64.lt_iff_toInt_lt] at h
  rw [Int32.le_iff_toInt_le, Int64.le_iff_toInt_le]
  have : (0 : Int32).toInt = 0 := rfl
  omega
/-- a truth as a number -/
def bI (b : Bool) : Int32 := if b then nI 1 else nI 0
theorem bI_t : bI true = nI 1 := congrArg (fun x : Int32 => x) (Eq.refl (nI 1))
theorem bI_f : bI false = nI 0 := congrArg (fun x : Int32 => x) (Eq.refl (nI 0))
theorem bI_0 {b : Bool} : (bI b = nI 0) ↔ b = false := by cases b <;> decide +kernel
theorem bI_1 {b : Bool} : (bI b = nI 1) ↔ b = true := by cases b <;> decide +kernel
theorem ibI {α : Type} {b : Bool} {x y : α} [Decidable (bI b = nI 0)] : (if bI b = nI 0 then x else y) = if b = true then y else x := by
  cases b
  · exact if_pos rfl
  · exact if_neg (fun e => absurd (bI_0.mp e) (by decide))
theorem bz_b (b : Bool) : ej_bz (bI b) = bI b := by
  cases b
  · show ej_bz (nI 0) = nI 0; decide +kernel
  · show ej_bz (nI 1) = nI 1; decide +kernel
theorem bz_0 : ej_bz 0 = 0 := by decide +kernel
theorem bz_1 : ej_bz 1 = 1 := by decide +kernel
theorem bz_n0 : ej_bz (nI 0) = nI 0 := by decide +kernel
theorem bz_n1 : ej_bz (nI 1) = nI 1 := by decide +kernel
