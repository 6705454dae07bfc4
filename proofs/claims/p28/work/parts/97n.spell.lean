/-! STATEMENTS AS THE LAW SPELLS THEM -/
def pw10 : Nat → Nat
  | 0 => 0
  | e + 1 => 10 ^ e
def dgF (q : Nat) : Nat → List Nat
  | 0 => []
  | e + 1 => (48 + q / 10 ^ e % 10) :: dgF q e
def ndg (q : Nat) : Nat := if q < 10 then 1 else if q < 100 then 2 else if q < 1000 then 3 else if q < 10000 then 4 else if q < 100000 then 5 else 6
def dgs (q : Nat) : List Nat := dgF q (ndg q)
def sb (s : St) : List Nat :=
  if e_k s = 0 then [97 + e_a s, 32, 97 + e_b s, 40] ++ (dgs (e_q s) ++ [41])
  else if e_k s = 1 then [97 + e_a s, 61, 97 + e_b s]
  else if e_k s = 2 then [97 + e_a s, 61, 123, 97 + e_b s, 44, 97 + e_c s, 125, 40] ++ (dgs (e_q s) ++ [41])
  else if e_k s = 3 then [100, 101, 97, 100, 123, 97 + e_a s, 125]
  else [100, 101, 97, 100, 123, 97 + e_a s, 33, 97 + e_b s, 125]
theorem dgF_len (q : Nat) : ∀ e, (dgF q e).length = e := by
  intro e
  induction e with
  | zero => rfl
  | succ e ih => show (dgF q e).length + 1 = _; rw [ih]
theorem ndg_6 (q : Nat) : 1 ≤ ndg q ∧ ndg q ≤ 6 := by
  unfold ndg
  repeat' split
  all_goals omega
theorem dgs_len (q : Nat) : (dgs q).length ≤ 6 ∧ 1 ≤ (dgs q).length := by
  unfold dgs
  rw [dgF_len]
  have := ndg_6 q
  omega
theorem sb_len (s : St) : (sb s).length ≤ 15 := by
  have := (dgs_len (e_q s)).1
  unfold sb
  repeat' split
  all_goals simp only [List.length_append, List.length_cons, List.length_nil]
  all_goals omega
theorem pw10_step (e : Nat) : pw10 (e + 1) / 10 = pw10 e := by
  cases e with
  | zero => rfl
  | succ e => show 10 ^ (e + 1) / 10 = 10 ^ e; rw [Nat.pow_succ]; exact Nat.mul_div_cancel _ (by omega)
theorem pw10_b {e : Nat} (h : e ≤ 6) : pw10 e ≤ 100000 := by
  match e, h with
  | 0, _ => decide
  | 1, _ => decide
  | 2, _ => decide
  | 3, _ => decide
  | 4, _ => decide
  | 5, _ => decide
  | 6, _ => decide
  | e + 7, h => omega
section P97n
variable {n b : Nat} {fs : Nat → List Nat} {σ0 c τ : ej_S} {tp ot : List Nat} {T : Nat → Nat}
/-- what is said goes to the end of the tape -/
def SY (n : Nat) (fs : Nat → List Nat) (σ0 : ej_S) (ot : List Nat) (τ : ej_S) (X : lw_S → Option lw_S) (bs : List Nat) : Prop := ∀ (tp : List Nat) (c : ej_S), IQ n fs σ0 tp ot c → tp.length + bs.length ≤ 600 → ∃ c', IQ n fs σ0 (tp ++ bs) ot c' ∧ X (c, τ) = some (c', τ)
theorem SY_bv {X Y : lw_S → Option lw_S} {b1 b2 : List Nat} (h1 : SY n fs σ0 ot τ X b1) (h2 : SY n fs σ0 ot τ Y b2) : SY n fs σ0 ot τ (fun σ => ej_bv (X σ) Y) (b1 ++ b2) := by
  intro tp c hc hl
  rw [List.length_append] at hl
  obtain ⟨c1, i1, e1⟩ := h1 tp c hc (by omega)
  obtain ⟨c2, i2, e2⟩ := h2 (tp ++ b1) c1 i1 (by rw [List.length_append]; omega)
  rw [List.append_assoc] at i2
  exact ⟨c2, i2, by show ej_bv (X (c, τ)) Y = _; rw [e1, ej_bv_s, e2]⟩
theorem SY_0 : SY n fs σ0 ot τ (fun σ => some σ) [] := fun tp c hc _ => ⟨c, by rw [List.append_nil]; exact hc, rfl⟩
theorem SY_eq {X Y : lw_S → Option lw_S} {b1 : List Nat} (h1 : SY n fs σ0 ot τ X b1) (h : ∀ c, Y (c, τ) = X (c, τ)) : SY n fs σ0 ot τ Y b1 := fun tp c hc hl => by rw [h]; exact h1 tp c hc hl
theorem tI64 (h : b < 2 ^ 31) : (nI b).toInt64 = lN b := by
  rw [← lN_i b]
  apply Int64.toInt_inj.mp
  rw [Int32.toInt_toInt64, lN_i, nI_toInt h]
  exact (lN_toInt h).symm
theorem Y_says (hn : 2000 < n) (hb : b < 256) : SY n fs σ0 ot τ (mL_says n (nI b)) [b] := by
  intro tp c hc hl
  obtain ⟨c', i1, e1⟩ := a_feed (n := n) (fs := fs) (tp := tp) (ot := ot) (σ0 := σ0) (W := b) (m := 1) hn (Nat.le_refl _) (by omega) hl c hc
  have e : fbs b 1 0 = [b] := by
    show [b / 2 ^ (8 * 0) % 256] = [b]
    rw [Nat.mul_zero, Nat.pow_zero, Nat.div_one, Nat.mod_eq_of_lt hb]
  rw [e] at i1
  refine ⟨c', i1, ?_⟩
  unfold mL_says
  rw [tI64 (by omega), L_1, e1, ej_bi_s]
theorem Y_num_23 (hn : 2000 < n) {q : Nat} (hq : q < 1000000) : ∀ (e k : Nat), e ≤ 6 → e < k → SY n fs σ0 ot τ (mL_saysNumber_23 n k (nI q) (nI (pw10 e))) (dgF q e) := by
  intro e
  induction e with
  | zero =>
    intro k _ hk
    obtain ⟨k, rfl⟩ : ∃ k', k = k' + 1 := ⟨k - 1, by omega⟩
    refine SY_eq SY_0 (fun c => ?_)
    rw [u_L_saysNumber_23, L_0, show pw10 0 = 0 from rfl, ile_t (Nat.le_refl _) (by omega)]
  | succ e ih =>
    intro k he hk
    obtain ⟨k, rfl⟩ : ∃ k', k = k' + 1 := ⟨k - 1, by omega⟩
    have hp : 0 < pw10 (e + 1) := Nat.pow_pos (by omega)
    have hb := pw10_b he
    have hm : q / 10 ^ e % 10 < 10 := Nat.mod_lt _ (by omega)
    have hd : q / 10 ^ e ≤ q := Nat.div_le_self _ _
    have h1 := Y_says (n := n) (b := 48 + q / 10 ^ e % 10) (fs := fs) (σ0 := σ0) (ot := ot) (τ := τ) hn (by omega)
    refine SY_eq (SY_bv h1 (ih k (by omega) (by omega))) (fun c => ?_)
    rw [u_L_saysNumber_23, L_0, ile_f hp (by omega), dv_t hp (by omega), pk_div (by omega) hp (by omega), L_10, show q / pw10 (e + 1) = q / 10 ^ e from rfl, pk_div (by omega) (by omega) (by omega), pk_mul, pk_sub (Nat.div_mul_le_self _ _), L_48, nI_add, pk_div (by omega) (by omega) (by omega), pw10_step, show q / 10 ^ e - q / 10 ^ e / 10 * 10 = q / 10 ^ e % 10 by omega]
    rfl
theorem Y_num_3 (hn : 2000 < n) {q : Nat} (hq : q < 1000000) : ∀ (e k : Nat), 1 ≤ e → e ≤ 6 → e ≤ k → ndg q ≤ e → SY n fs σ0 ot τ (mL_saysNumber_3 n k (nI q) (nI (pw10 e))) (dgs q) := by
  intro e
  induction e with
  | zero => intro k h; omega
  | succ e ih =>
    intro k h1 h6 hk hd
    obtain ⟨k, rfl⟩ : ∃ k', k = k' + 1 := ⟨k - 1, by omega⟩
    have hb := pw10_b h6
    have hp : 0 < pw10 (e + 1) := Nat.pow_pos (by omega)
    have n6 := ndg_6 q
    have ends : ndg q = e + 1 → SY n fs σ0 ot τ (mL_saysNumber_23 n 8 (nI q) (nI (pw10 (e + 1)))) (dgs q) := fun z => by
      unfold dgs
      rw [z]
      exact Y_num_23 hn hq (e + 1) 8 h6 (by omega)
    rcases Nat.eq_zero_or_pos e with z | z
    · subst z
      refine SY_eq (ends (by omega)) (fun c => ?_)
      rw [u_L_saysNumber_3, L_1, show pw10 (0 + 1) = 1 from rfl, ile_t (Nat.le_refl _) (by omega)]
    · have p1 : 1 < pw10 (e + 1) := by
        show 1 < 10 ^ e
        exact Nat.one_lt_pow (by omega) (by omega)
      rcases Nat.lt_or_ge q (pw10 (e + 1)) with w | w
      · have hd2 : ndg q ≤ e := by
          have hw : q < 10 ^ e := w
          have e5 : e = 1 ∨ e = 2 ∨ e = 3 ∨ e = 4 ∨ e = 5 := by omega
          unfold ndg
          rcases e5 with rfl | rfl | rfl | rfl | rfl
          · rw [if_pos hw]; omega
          · repeat' split
            all_goals omega
          · repeat' split
            all_goals omega
          · repeat' split
            all_goals omega
          · repeat' split
            all_goals omega
        refine SY_eq (ih k z (by omega) (by omega) hd2) (fun c => ?_)
        rw [u_L_saysNumber_3, L_1, ile_f p1 (by omega), ile_f w (by omega), L_10, pk_div (by omega) (by omega) (by omega), pw10_step, ej_nm_e]
      · have hd2 : ndg q = e + 1 := by
          have hw : 10 ^ e ≤ q := w
          have e5 : e = 1 ∨ e = 2 ∨ e = 3 ∨ e = 4 ∨ e = 5 := by omega
          have : e + 1 ≤ ndg q := by
            unfold ndg
            rcases e5 with rfl | rfl | rfl | rfl | rfl
            all_goals
              repeat' split
              all_goals omega
          omega
        refine SY_eq (ends hd2) (fun c => ?_)
        rw [u_L_saysNumber_3, L_1, ile_f p1 (by omega), ile_t w (by omega)]
theorem Y_num (hn : 2000 < n) {q : Nat} (hq : q < 1000000) : SY n fs σ0 ot τ (mL_saysNumber n (nI q)) (dgs q) := by
  have := ndg_6 q
  refine SY_eq (Y_num_3 hn hq 6 8 (by omega) (Nat.le_refl _) (by omega) this.2) (fun c => ?_)
  unfold mL_saysNumber
  rw [L_100000]; rfl
/-- the word of a dead host or link -/
theorem Y_dead (hn : 2000 < n) : SY n fs σ0 ot τ (fun σ => ej_bi (mL_act n 0 529965081956 5 σ) fun _ s => some s) [100, 101, 97, 100, 123] := by
  intro tp c hc hl
  obtain ⟨c', i1, e1⟩ := a_feed (n := n) (fs := fs) (tp := tp) (ot := ot) (σ0 := σ0) (W := 529965081956) (m := 5) hn (by omega) (by omega) hl c hc
  rw [show fbs 529965081956 5 0 = [100, 101, 97, 100, 123] by decide +kernel] at i1
  refine ⟨c', i1, ?_⟩
  show ej_bi (mL_act n 0 529965081956 5 (c, τ)) _ = _
  rw [show (529965081956 : Int64) = lN 529965081956 by decide +kernel, show (5 : Int32) = nI 5 from L_5, e1, ej_bi_s]
theorem SY_bi {X : lw_S → Option (Int32 × lw_S)} {Y : lw_S → Option lw_S} {b1 b2 : List Nat} (h1 : SY n fs σ0 ot τ (fun σ => ej_bi (X σ) fun _ s => some s) b1) (h2 : SY n fs σ0 ot τ Y b2) : SY n fs σ0 ot τ (fun σ => ej_bi (X σ) fun _ s => Y s) (b1 ++ b2) := by
  intro tp c hc hl
  rw [List.length_append] at hl
  obtain ⟨c1, i1, e1⟩ := h1 tp c hc (by omega)
  obtain ⟨c2, i2, e2⟩ := h2 (tp ++ b1) c1 i1 (by rw [List.length_append]; omega)
  rw [List.append_assoc] at i2
  refine ⟨c2, i2, ?_⟩
  show ej_bi (X (c, τ)) (fun _ s => Y s) = _
  have e1' : ej_bi (X (c, τ)) (fun _ s => some s) = some (c1, τ) := e1
  cases hX : X (c, τ) with
  | none => rw [hX] at e1'; cases e1'
  | some w => obtain ⟨w1, w2⟩ := w; rw [hX] at e1'; cases e1'; exact e2
theorem ej_bv_id {S : Type} (X : Option S) : ej_bv X (fun s => some s) = X := by cases X <;> rfl
theorem Y_127 (hn : 2000 < n) (g : ∀ i, i < 60 → gA τ 0 i = nI (T i)) (ok : e_ok T) {j : Nat} (hj : j < 12) : SY n fs σ0 ot τ (mL_saysStatement_127 n (nI (5 * j))) ([40] ++ (dgs (T (5 * j + 4)) ++ [41])) := by
  have b4 : T (5 * j + 4) < 100000 := e_ok_at ok (by omega)
  refine SY_eq (SY_bv (Y_says (n := n) (b := 40) hn (by omega)) (SY_eq (SY_bv (Y_num (q := T (5 * j + 4)) hn (by omega)) (Y_says (n := n) (b := 41) hn (by omega))) (Y := fun s10 => ej_ck (nI (5 * j) + 4) 60 (ej_bv (mL_saysNumber n (gA s10.2 0 (nI (5 * j) + 4).toNatClampNeg) s10) fun s11 => ej_bv (mL_says n 41 s11) fun s12 => (some s12))) (fun c => ?_))) (fun c => ?_)
  · rw [L_4, L_41, nI_add, ck_t (by omega) (by omega), nI_clamp (by omega)]
    show ej_bv (mL_saysNumber n (gA τ 0 (5 * j + 4)) (c, τ)) _ = _
    rw [g _ (by omega)]
    refine congrArg (ej_bv _) (funext fun s => ?_)
    exact ej_bv_id _
  · unfold mL_saysStatement_127
    rw [L_40]
/-- what stands behind -/
def tl3 (kd q : Nat) : List Nat := (if kd ≤ 1 then [] else [125]) ++ (if kd = 0 ∨ kd = 2 then [40] ++ (dgs q ++ [41]) else [])
theorem Y_107 (hn : 2000 < n) (g : ∀ i, i < 60 → gA τ 0 i = nI (T i)) (ok : e_ok T) {j kd : Nat} (hj : j < 12) (hk : kd < 5) : SY n fs σ0 ot τ (mL_saysStatement_107 n (nI (5 * j)) (nI kd)) (tl3 kd (T (5 * j + 4))) := by
  have h127 := Y_127 (n := n) (fs := fs) (σ0 := σ0) (ot := ot) (τ := τ) hn g ok hj
  have h125 := Y_says (n := n) (b := 125) (fs := fs) (σ0 := σ0) (ot := ot) (τ := τ) hn (by omega)
  have c5 : kd = 0 ∨ kd = 1 ∨ kd = 2 ∨ kd = 3 ∨ kd = 4 := by omega
  rcases c5 with rfl | rfl | rfl | rfl | rfl
  · refine SY_eq h127 (fun c => ?_)
    unfold mL_saysStatement_107
    rw [L_1, L_0, ile_t (by omega) (by omega), if_pos rfl]
  · refine SY_eq SY_0 (fun c => ?_)
    unfold mL_saysStatement_107
    rw [L_1, L_0, L_2, ile_t (by omega) (by omega), if_neg n10, ieq_f (by omega) (by omega) (by omega)]
  · refine SY_eq (SY_bv h125 h127) (fun c => ?_)
    unfold mL_saysStatement_107
    rw [L_1, L_0, L_2, L_125, ile_f (by omega) (by omega)]
    refine congrArg (ej_bv _) (funext fun s => ?_)
    rw [ieq_f (by omega) (by omega) (by omega), if_pos rfl]
  · refine SY_eq (SY_bv h125 SY_0) (fun c => ?_)
    unfold mL_saysStatement_107
    rw [L_1, L_0, L_2, L_125, ile_f (by omega) (by omega)]
    refine congrArg (ej_bv _) (funext fun s => ?_)
    rw [ieq_f (by omega) (by omega) (by omega), ieq_f (by omega) (by omega) (by omega)]
  · refine SY_eq (SY_bv h125 SY_0) (fun c => ?_)
    unfold mL_saysStatement_107
    rw [L_1, L_0, L_2, L_125, ile_f (by omega) (by omega)]
    refine congrArg (ej_bv _) (funext fun s => ?_)
    rw [ieq_f (by omega) (by omega) (by omega), ieq_f (by omega) (by omega) (by omega)]
theorem Y_84 (hn : 2000 < n) (g : ∀ i, i < 60 → gA τ 0 i = nI (T i)) (ok : e_ok T) {j kd : Nat} (hj : j < 12) (hk : kd < 5) : SY n fs σ0 ot τ (mL_saysStatement_84 n (nI (5 * j)) (nI kd)) ((if kd = 2 then [44] ++ [97 + T (5 * j + 3)] else []) ++ tl3 kd (T (5 * j + 4))) := by
  have h107 := Y_107 (n := n) (fs := fs) (σ0 := σ0) (ot := ot) (τ := τ) hn g ok hj hk
  have b3 := (ok j hj).2.2.2.1
  by_cases k2 : kd = 2
  · rw [if_pos k2, List.append_assoc]
    refine SY_eq (SY_bv (Y_says (n := n) (b := 44) hn (by omega)) (SY_eq (SY_bv (Y_says (b := 97 + T (5 * j + 3)) hn (by omega)) h107) (Y := fun s14 => ej_ck (nI (5 * j) + 3) 60 (ej_bv (mL_says n (97 + (gA s14.2 0 (nI (5 * j) + 3).toNatClampNeg)) s14) fun s15 => (mL_saysStatement_107 n (nI (5 * j)) (nI kd) s15))) (fun c => ?_))) (fun c => ?_)
    · rw [L_3, L_97, nI_add, ck_t (by omega) (by omega), nI_clamp (by omega)]
      show ej_bv (mL_says n (nI 97 + gA τ 0 (5 * j + 3)) (c, τ)) _ = _
      rw [g _ (by omega), nI_add]
    · unfold mL_saysStatement_84
      rw [L_2, L_44, ieq_t k2]
  · rw [if_neg k2, List.nil_append]
    refine SY_eq h107 (fun c => ?_)
    unfold mL_saysStatement_84
    rw [L_2, ieq_f k2 (by omega) (by omega)]
theorem Y_58 (hn : 2000 < n) (g : ∀ i, i < 60 → gA τ 0 i = nI (T i)) (ok : e_ok T) {j kd d : Nat} (hj : j < 12) (hk : kd < 5) (hd : d < 256) : SY n fs σ0 ot τ (mL_saysStatement_58 n (nI (5 * j)) (nI kd) (nI d)) ([d] ++ ((if kd = 2 then [123] else []) ++ ([97 + T (5 * j + 2)] ++ ((if kd = 2 then [44] ++ [97 + T (5 * j + 3)] else []) ++ tl3 kd (T (5 * j + 4)))))) := by
  have h84 := Y_84 (n := n) (fs := fs) (σ0 := σ0) (ot := ot) (τ := τ) hn g ok hj hk
  have b2 := (ok j hj).2.2.1
  have h2 := SY_bv (Y_says (n := n) (fs := fs) (σ0 := σ0) (ot := ot) (τ := τ) (b := 97 + T (5 * j + 2)) hn (by omega)) h84
  have hx : ∀ c : ej_S, ej_ck (nI (5 * j) + 2) 60 (ej_bv (mL_says n (97 + (gA ((c, τ) : lw_S).2 0 (nI (5 * j) + 2).toNatClampNeg)) (c, τ)) fun s22 => (mL_saysStatement_84 n (nI (5 * j)) (nI kd) s22)) = ej_bv (mL_says n (nI (97 + T (5 * j + 2))) (c, τ)) (mL_saysStatement_84 n (nI (5 * j)) (nI kd)) := by
    intro c
    rw [L_2, L_97, nI_add, ck_t (by omega) (by omega), nI_clamp (by omega)]
    show ej_bv (mL_says n (nI 97 + gA τ 0 (5 * j + 2)) (c, τ)) _ = _
    rw [g _ (by omega), nI_add]
  by_cases k2 : kd = 2
  · rw [if_pos k2]
    refine SY_eq (SY_bv (Y_says (n := n) (b := d) hn hd) (SY_bv (Y_says (n := n) (b := 123) hn (by omega)) (SY_eq (Y := fun s22 => ej_ck (nI (5 * j) + 2) 60 (ej_bv (mL_says n (97 + (gA s22.2 0 (nI (5 * j) + 2).toNatClampNeg)) s22) fun s22 => (mL_saysStatement_84 n (nI (5 * j)) (nI kd) s22))) h2 hx))) (fun c => ?_)
    unfold mL_saysStatement_58
    refine congrArg (ej_bv _) (funext fun s => ?_)
    rw [show (2 : Int32) = nI 2 from L_2, ieq_t k2, L_123]
  · rw [if_neg k2, List.nil_append]
    refine SY_eq (SY_bv (Y_says (n := n) (b := d) hn hd) (SY_eq (Y := fun s22 => ej_ck (nI (5 * j) + 2) 60 (ej_bv (mL_says n (97 + (gA s22.2 0 (nI (5 * j) + 2).toNatClampNeg)) s22) fun s22 => (mL_saysStatement_84 n (nI (5 * j)) (nI kd) s22))) h2 hx)) (fun c => ?_)
    unfold mL_saysStatement_58
    refine congrArg (ej_bv _) (funext fun s => ?_)
    rw [show (2 : Int32) = nI 2 from L_2, ieq_f k2 (by omega) (by omega)]
theorem Y_19 (hn : 2000 < n) (g : ∀ i, i < 60 → gA τ 0 i = nI (T i)) (ok : e_ok T) {j kd : Nat} (hj : j < 12) (hk : kd < 5) : SY n fs σ0 ot τ (mL_saysStatement_19 n (nI (5 * j)) (nI kd)) ([97 + T (5 * j + 1)] ++ (if kd = 3 then [125] else [if kd = 0 then 32 else if kd = 4 then 33 else 61] ++ ((if kd = 2 then [123] else []) ++ ([97 + T (5 * j + 2)] ++ ((if kd = 2 then [44] ++ [97 + T (5 * j + 3)] else []) ++ tl3 kd (T (5 * j + 4))))))) := by
  have b1 := (ok j hj).2.1
  have h58 : ∀ d, d < 256 → SY n fs σ0 ot τ (mL_saysStatement_58 n (nI (5 * j)) (nI kd) (nI d)) _ := fun d hd => Y_58 (n := n) (fs := fs) (σ0 := σ0) (ot := ot) (τ := τ) hn g ok hj hk hd
  have h84 := Y_84 (n := n) (fs := fs) (σ0 := σ0) (ot := ot) (τ := τ) hn g ok hj hk
  have y1 := Y_says (n := n) (fs := fs) (σ0 := σ0) (ot := ot) (τ := τ) (b := 97 + T (5 * j + 1)) hn (by omega)
  have hx : ∀ (c : ej_S) (Y : lw_S → Option lw_S), ej_ck (nI (5 * j) + 1) 60 (ej_bv (mL_says n (97 + (gA ((c, τ) : lw_S).2 0 (nI (5 * j) + 1).toNatClampNeg)) (c, τ)) Y) = ej_bv (mL_says n (nI (97 + T (5 * j + 1))) (c, τ)) Y := by
    intro c Y
    rw [L_1, L_97, nI_add, ck_t (by omega) (by omega), nI_clamp (by omega)]
    show ej_bv (mL_says n (nI 97 + gA τ 0 (5 * j + 1)) (c, τ)) _ = _
    rw [g _ (by omega), nI_add]
  by_cases k3 : kd = 3
  · rw [if_pos k3]
    have e : ((if kd = 2 then [44] ++ [97 + T (5 * j + 3)] else []) ++ tl3 kd (T (5 * j + 4))) = [125] := by
      rw [k3]; rfl
    rw [e] at h84
    refine SY_eq (SY_bv y1 h84) (fun c => ?_)
    unfold mL_saysStatement_19
    rw [hx]
    refine congrArg (ej_bv _) (funext fun s => ?_)
    rw [show (3 : Int32) = nI 3 from L_3, ieq_t k3]
  · rw [if_neg k3]
    have fin : ∀ d, d < 256 → (if kd = 0 then 32 else if kd = 4 then 33 else 61) = d → SY n fs σ0 ot τ (mL_saysStatement_19 n (nI (5 * j)) (nI kd)) ([97 + T (5 * j + 1)] ++ ([d] ++ ((if kd = 2 then [123] else []) ++ ([97 + T (5 * j + 2)] ++ ((if kd = 2 then [44] ++ [97 + T (5 * j + 3)] else []) ++ tl3 kd (T (5 * j + 4))))))) := by
      intro d hd ed
      refine SY_eq (SY_bv y1 (h58 d hd)) (fun c => ?_)
      unfold mL_saysStatement_19
      rw [hx]
      refine congrArg (ej_bv _) (funext fun s => ?_)
      rw [show (3 : Int32) = nI 3 from L_3, ieq_f k3 (by omega) (by omega), show (0 : Int32) = nI 0 from L_0, show (4 : Int32) = nI 4 from L_4, show (32 : Int32) = nI 32 from L_32, show (33 : Int32) = nI 33 from L_33, show (61 : Int32) = nI 61 from L_61]
      by_cases k0 : kd = 0
      · rw [if_pos k0] at ed
        rw [ieq_t k0, ed]
      · rw [if_neg k0] at ed
        rw [ieq_f k0 (by omega) (by omega)]
        by_cases k4 : kd = 4
        · rw [if_pos k4] at ed
          rw [ieq_t k4, ed]
        · rw [if_neg k4] at ed
          rw [ieq_f k4 (by omega) (by omega), ed]
    have hd : (if kd = 0 then 32 else if kd = 4 then 33 else 61) < 256 := by
      repeat' split
      all_goals omega
    exact fin _ hd rfl
/-- a statement, spelt -/
theorem Y_statement (hn : 2000 < n) (g : ∀ i, i < 60 → gA τ 0 i = nI (T i)) (ok : e_ok T) {j : Nat} (hj : j < 12) : SY n fs σ0 ot τ (mL_saysStatement n (nI (5 * j))) (sb (e_s T j)) := by
  have hk := (ok j hj).1
  have f0 : e_k (e_s T j) = T (5 * j) := rfl
  have f1 : e_a (e_s T j) = T (5 * j + 1) := rfl
  have f2 : e_b (e_s T j) = T (5 * j + 2) := rfl
  have f3 : e_c (e_s T j) = T (5 * j + 3) := rfl
  have f4 : e_q (e_s T j) = T (5 * j + 4) := rfl
  have h19 := Y_19 (n := n) (fs := fs) (σ0 := σ0) (ot := ot) (τ := τ) hn g ok hj (show T (5 * j) < 5 by omega)
  have hx : ∀ (c : ej_S), mL_saysStatement n (nI (5 * j)) (c, τ) = (if nI (T (5 * j)) ≤ nI 2 then (mL_saysStatement_19 n (nI (5 * j)) (nI (T (5 * j))) (c, τ)) else ej_bi (mL_act n 0 529965081956 5 (c, τ)) fun r23 s24 => (mL_saysStatement_19 n (nI (5 * j)) (nI (T (5 * j))) s24)) := by
    intro c
    have g0 : gA ((c, τ) : lw_S).2 0 (5 * j) = nI (T (5 * j)) := g _ (by omega)
    unfold mL_saysStatement
    rw [ck_t (by omega) (by omega), nI_clamp (by omega), g0, ej_nm_e, L_2]
  unfold sb
  rw [f0, f1, f2, f3, f4]
  generalize T (5 * j) = kd at *
  have c5 : kd = 0 ∨ kd = 1 ∨ kd = 2 ∨ kd = 3 ∨ kd = 4 := by omega
  rcases c5 with rfl | rfl | rfl | rfl | rfl
  · exact SY_eq h19 (fun c => by rw [hx, ile_t (by omega) (by omega)])
  · exact SY_eq h19 (fun c => by rw [hx, ile_t (by omega) (by omega)])
  · exact SY_eq h19 (fun c => by rw [hx, ile_t (by omega) (by omega)])
  · exact SY_eq (SY_bi (Y_dead hn) h19) (fun c => by rw [hx, ile_f (by omega) (by omega)])
  · exact SY_eq (SY_bi (Y_dead hn) h19) (fun c => by rw [hx, ile_f (by omega) (by omega)])
end P97n
