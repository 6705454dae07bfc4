noncomputable def mL_isRewritten_210 (n : Nat) (y18 : Int32) (σ : lw_S) : Option (Int32 × lw_S) := ej_bi (mL_out n y18 σ) fun r19 s20 => (if r19 = 45 then ej_bi (mL_out n (y18 + 1) s20) fun r21 s22 => (if r21 = 57 then ej_bi (mL_out n (y18 + 2) s22) fun r23 s24 => (if r23 = 33 then ej_bi (mL_out n (y18 + 3) s24) fun r25 s26 => (if r25 = 37 then ej_bi (mL_out n (y18 + 4) s26) fun r27 s28 => (if r27 = 0 then (some (1, s28)) else (some (0, s28))) else (some (0, s26))) else (some (0, s24))) else (some (0, s22))) else (some (0, s20)))
set_option maxRecDepth 20000 in
set_option maxHeartbeats 2000000 in
theorem jL_isRewritten_210 (x : lw_T) (n : Nat) {r0 : Int32 × lw_S} {F : ej_F} (hq : ej_finR x F (some .boolean) (some (.int r0.1)) r0.2 []) (hu : ej_bud F (0)) (y18 : Int32) (σ : lw_S) : ej_J (lV x) F iL_isRewritten r0 σ 210 [(0, .ref (cw_a x.1 0)), (10, .int y18)] [] (mL_isRewritten_210 n y18 σ) := by
  unfold mL_isRewritten_210
  refine j_aload_n 0 rfl dL_isRewritten_210 ?_
  refine j_iload 1 rfl dL_isRewritten_211 ?_
  refine j_callSi (kL_out x n y18 σ) ls_L_140 ⟨Nat.le_of_ble_eq_true rfl, Nat.le_of_ble_eq_true rfl⟩ dL_isRewritten_213 rfl (Nat.le_of_ble_eq_true rfl) (fun r19 s20 => ?_)
  refine j_bipush dL_isRewritten_216 ejb_45 ?_
  refine j_icmp_ne dL_isRewritten_218 ?_ ?_
  · refine j_iconst dL_isRewritten_275 ejc_0 ?_
    exact jb_zreturn0 hq hu dL_isRewritten_276
  · refine j_aload_n 0 rfl dL_isRewritten_221 ?_
    refine j_iload 1 rfl dL_isRewritten_222 ?_
    refine j_iconst dL_isRewritten_224 ejc_1 ?_
    refine j_iadd dL_isRewritten_225 ?_
    refine j_callSi (kL_out x n (y18 + 1) s20) ls_L_140 ⟨Nat.le_of_ble_eq_true rfl, Nat.le_of_ble_eq_true rfl⟩ dL_isRewritten_226 rfl (Nat.le_of_ble_eq_true rfl) (fun r21 s22 => ?_)
    refine j_bipush dL_isRewritten_229 ejb_57 ?_
    refine j_icmp_ne dL_isRewritten_231 ?_ ?_
    · refine j_iconst dL_isRewritten_275 ejc_0 ?_
      exact jb_zreturn0 hq hu dL_isRewritten_276
    · refine j_aload_n 0 rfl dL_isRewritten_234 ?_
      refine j_iload 1 rfl dL_isRewritten_235 ?_
      refine j_iconst dL_isRewritten_237 ejc_2 ?_
      refine j_iadd dL_isRewritten_238 ?_
      refine j_callSi (kL_out x n (y18 + 2) s22) ls_L_140 ⟨Nat.le_of_ble_eq_true rfl, Nat.le_of_ble_eq_true rfl⟩ dL_isRewritten_239 rfl (Nat.le_of_ble_eq_true rfl) (fun r23 s24 => ?_)
      refine j_bipush dL_isRewritten_242 ejb_33 ?_
      refine j_icmp_ne dL_isRewritten_244 ?_ ?_
      · refine j_iconst dL_isRewritten_275 ejc_0 ?_
        exact jb_zreturn0 hq hu dL_isRewritten_276
      · refine j_aload_n 0 rfl dL_isRewritten_247 ?_
        refine j_iload 1 rfl dL_isRewritten_248 ?_
        refine j_iconst dL_isRewritten_250 ejc_3 ?_
        refine j_iadd dL_isRewritten_251 ?_
        refine j_callSi (kL_out x n (y18 + 3) s24) ls_L_140 ⟨Nat.le_of_ble_eq_true rfl, Nat.le_of_ble_eq_true rfl⟩ dL_isRewritten_252 rfl (Nat.le_of_ble_eq_true rfl) (fun r25 s26 => ?_)
        refine j_bipush dL_isRewritten_255 ejb_37 ?_
        refine j_icmp_ne dL_isRewritten_257 ?_ ?_
        · refine j_iconst dL_isRewritten_275 ejc_0 ?_
          exact jb_zreturn0 hq hu dL_isRewritten_276
        · refine j_aload_n 0 rfl dL_isRewritten_260 ?_
          refine j_iload 1 rfl dL_isRewritten_261 ?_
          refine j_iconst dL_isRewritten_263 ejc_4 ?_
          refine j_iadd dL_isRewritten_264 ?_
          refine j_callSi (kL_out x n (y18 + 4) s26) ls_L_140 ⟨Nat.le_of_ble_eq_true rfl, Nat.le_of_ble_eq_true rfl⟩ dL_isRewritten_265 rfl (Nat.le_of_ble_eq_true rfl) (fun r27 s28 => ?_)
          refine j_if_ne dL_isRewritten_268 ?_ ?_
          · refine j_iconst dL_isRewritten_275 ejc_0 ?_
            exact jb_zreturn0 hq hu dL_isRewritten_276
          · refine j_iconst dL_isRewritten_271 ejc_1 ?_
            refine j_goto dL_isRewritten_272 ?_
            exact jb_zreturn1 hq hu dL_isRewritten_276
noncomputable def mL_isRewritten_83 (n : Nat) (y8 : Int32) (y9 : Int32) (y10 : Int32) (y11 : Int64) (σ : lw_S) : Option (Int32 × lw_S) := ej_bv (mL_says n (97 + y8) σ) fun s12 => ej_bi (mL_act n 0 159471185185 5 s12) fun r13 s14 => ej_bi (ej_lc (m10_rewrite n s14.1) s14) fun r15 s16 => (if y9 = 0 then (if r15 = 6 then ej_bi (mL_out n 0 s16) fun r31 s32 => (if r31 = 97 + y8 then ej_bi (mL_out n 1 s32) fun r33 s34 => (if r33 = 33 then ej_bi (mL_out n 5 s34) fun r35 s36 => (if r35 = 37 then (some (1, s36)) else (some (0, s36))) else (some (0, s34))) else (some (0, s32))) else (some (0, s16))) else ej_nm (y10 - 1) fun x17 => (if r15 = x17 + 4 then (if 8 < y10 then (mL_isRewritten_210 n x17 s16) else (if y10 = 1 then (mL_isRewritten_210 n x17 s16) else ej_bl (ej_lc (m10_word n 0 s16.1) s16) fun r29 s30 => (if lg_cmp (r29 &&& ((1 <<< ((8 * (y10 - 1)).toInt64 &&& 63)) - 1)) y11 = 0 then (mL_isRewritten_210 n x17 s30) else (some (0, s30))))) else (some (0, s16))))
set_option maxRecDepth 20000 in
set_option maxHeartbeats 2000000 in
theorem jL_isRewritten_83 (x : lw_T) (n : Nat) {r0 : Int32 × lw_S} {F : ej_F} (hq : ej_finR x F (some .boolean) (some (.int r0.1)) r0.2 []) (hu : ej_bud F (2)) (y8 : Int32) (y9 : Int32) (y10 : Int32) (y11 : Int64) (σ : lw_S) : ej_J (lV x) F iL_isRewritten r0 σ 83 [(0, .ref (cw_a x.1 0)), (3, .int y8), (5, .int y9), (6, .int y10)] [.long y11] (mL_isRewritten_83 n y8 y9 y10 y11 σ) := by
  unfold mL_isRewritten_83
  refine j_lstore (i := 7) (L' := [(7, .long y11), (0, .ref (cw_a x.1 0)), (3, .int y8), (5, .int y9), (6, .int y10)]) dL_isRewritten_83 (Nat.le_of_ble_eq_true rfl) rfl ?_
  refine j_aload_n 1 rfl dL_isRewritten_85 ?_
  refine j_bipush dL_isRewritten_86 ejb_97 ?_
  refine j_iload_n 2 rfl dL_isRewritten_88 ?_
  refine j_iadd dL_isRewritten_89 ?_
  refine jb_callSv (c := 1) (kL_says x n (97 + y8) σ) ls_L_87 ⟨Nat.le_of_ble_eq_true rfl, Nat.le_of_ble_eq_true rfl⟩ dL_isRewritten_90 rfl (Nat.le_of_ble_eq_true rfl) hu (by omega) (fun s12 => ?_)
  refine j_aload_n 1 rfl dL_isRewritten_93 ?_
  refine j_iconst dL_isRewritten_94 ejc_0 ?_
  refine j_ldc2 dL_isRewritten_95 kl_L_146 ?_
  refine j_iconst dL_isRewritten_98 ejc_5 ?_
  refine jb_callXi (c := 1) (kL_act x n 0 159471185185 5 s12) lx_L_80 ⟨Nat.le_of_ble_eq_true rfl, Nat.le_of_ble_eq_true rfl⟩ dL_isRewritten_99 rfl (Nat.le_of_ble_eq_true rfl) (ej_budu 1 hu (by omega)) (by omega) (fun r13 s14 => ?_)
  refine j_pop dL_isRewritten_102 rfl ?_
  refine j_aload_n 1 rfl dL_isRewritten_103 ?_
  refine j_callVi (fun z1 z2 z3 z4 => lc_con (f := fun r => some (.int r)) (fun z5 z6 z7 => c10_rewrite x.1 n s14.1 z5 z6 z7 z4) z1 z2 z3) lv_L_148 (lV_rc_0 x s14) ⟨Nat.le_of_ble_eq_true rfl, Nat.le_of_ble_eq_true rfl⟩ dL_isRewritten_104 rfl (Nat.le_of_ble_eq_true rfl) (fun r15 s16 => ?_)
  refine j_istore (i := 9) (L' := [(9, .int r15), (7, .long y11), (0, .ref (cw_a x.1 0)), (3, .int y8), (5, .int y9), (6, .int y10)]) dL_isRewritten_107 (Nat.le_of_ble_eq_true rfl) rfl ?_
  refine j_iload 4 rfl dL_isRewritten_109 ?_
  refine j_if_ne dL_isRewritten_111 ?_ ?_
  · refine j_iload 5 rfl dL_isRewritten_159 ?_
    refine j_iconst dL_isRewritten_161 ejc_1 ?_
    refine j_isub dL_isRewritten_162 ?_
    refine j_nmi (fun x17 => ?_)
    refine j_istore (i := 10) (L' := [(10, .int x17), (9, .int r15), (7, .long y11), (0, .ref (cw_a x.1 0)), (3, .int y8), (5, .int y9), (6, .int y10)]) dL_isRewritten_163 (Nat.le_of_ble_eq_true rfl) rfl ?_
    refine j_iload 1 rfl dL_isRewritten_165 ?_
    refine j_iload 0 rfl dL_isRewritten_167 ?_
    refine j_iconst dL_isRewritten_169 ejc_4 ?_
    refine j_iadd dL_isRewritten_170 ?_
    refine j_icmp_ne dL_isRewritten_171 ?_ ?_
    · refine j_iconst dL_isRewritten_275 ejc_0 ?_
      exact jb_zreturn0 (ej_finRu _ _ (ej_finRu _ _ hq)) (ej_budu 1 (ej_budu 1 hu (by omega)) (by omega)) dL_isRewritten_276
    · refine j_iload 6 rfl dL_isRewritten_174 ?_
      refine j_bipush dL_isRewritten_176 ejb_8 ?_
      refine j_icmp_gt dL_isRewritten_178 ?_ ?_
      · exact j_sub [3, 0] rfl (jL_isRewritten_210 x n (ej_finRu _ _ (ej_finRu _ _ hq)) (ej_budw (ej_budu 1 (ej_budu 1 hu (by omega)) (by omega)) (by omega)) x17 s16)
      · refine j_iload 6 rfl dL_isRewritten_181 ?_
        refine j_iconst dL_isRewritten_183 ejc_1 ?_
        refine j_icmp_eq dL_isRewritten_184 ?_ ?_
        · exact j_sub [3, 0] rfl (jL_isRewritten_210 x n (ej_finRu _ _ (ej_finRu _ _ hq)) (ej_budw (ej_budu 1 (ej_budu 1 hu (by omega)) (by omega)) (by omega)) x17 s16)
        · refine j_aload_n 3 rfl dL_isRewritten_187 ?_
          refine j_iconst dL_isRewritten_188 ejc_0 ?_
          refine j_callVl (fun z1 z2 z3 z4 => lc_con (f := fun r => some (.long r)) (fun z5 z6 z7 => c10_word x.1 n 0 s16.1 z5 z6 z7 z4) z1 z2 z3) lv_L_126 (lV_rc_0 x s16) ⟨Nat.le_of_ble_eq_true rfl, Nat.le_of_ble_eq_true rfl⟩ dL_isRewritten_189 rfl (Nat.le_of_ble_eq_true rfl) (fun r29 s30 => ?_)
          refine j_lconst dL_isRewritten_192 ejl_1 ?_
          refine j_bipush dL_isRewritten_193 ejb_8 ?_
          refine j_iload 6 rfl dL_isRewritten_195 ?_
          refine j_iconst dL_isRewritten_197 ejc_1 ?_
          refine j_isub dL_isRewritten_198 ?_
          refine j_imul dL_isRewritten_199 ?_
          refine j_lshl dL_isRewritten_200 ?_
          refine j_lconst dL_isRewritten_201 ejl_1 ?_
          refine j_lsub dL_isRewritten_202 ?_
          refine j_land dL_isRewritten_203 ?_
          refine j_lload 2 rfl dL_isRewritten_204 ?_
          refine j_lcmp dL_isRewritten_206 ?_
          refine j_if_ne dL_isRewritten_207 ?_ ?_
          · refine j_iconst dL_isRewritten_275 ejc_0 ?_
            exact jb_zreturn0 (ej_finRu _ _ (ej_finRu _ _ hq)) (ej_budu 1 (ej_budu 1 hu (by omega)) (by omega)) dL_isRewritten_276
          · exact j_sub [3, 0] rfl (jL_isRewritten_210 x n (ej_finRu _ _ (ej_finRu _ _ hq)) (ej_budw (ej_budu 1 (ej_budu 1 hu (by omega)) (by omega)) (by omega)) x17 s30)
  · refine j_iload 0 rfl dL_isRewritten_114 ?_
    refine j_bipush dL_isRewritten_116 ejb_6 ?_
    refine j_icmp_ne dL_isRewritten_118 ?_ ?_
    · refine j_iconst dL_isRewritten_157 ejc_0 ?_
      exact jb_zreturn0 (ej_finRu _ _ (ej_finRu _ _ hq)) (ej_budu 1 (ej_budu 1 hu (by omega)) (by omega)) dL_isRewritten_158
    · refine j_aload_n 2 rfl dL_isRewritten_121 ?_
      refine j_iconst dL_isRewritten_122 ejc_0 ?_
      refine j_callSi (kL_out x n 0 s16) ls_L_140 ⟨Nat.le_of_ble_eq_true rfl, Nat.le_of_ble_eq_true rfl⟩ dL_isRewritten_123 rfl (Nat.le_of_ble_eq_true rfl) (fun r31 s32 => ?_)
      refine j_bipush dL_isRewritten_126 ejb_97 ?_
      refine j_iload_n 3 rfl dL_isRewritten_128 ?_
      refine j_iadd dL_isRewritten_129 ?_
      refine j_icmp_ne dL_isRewritten_130 ?_ ?_
      · refine j_iconst dL_isRewritten_157 ejc_0 ?_
        exact jb_zreturn0 (ej_finRu _ _ (ej_finRu _ _ hq)) (ej_budu 1 (ej_budu 1 hu (by omega)) (by omega)) dL_isRewritten_158
      · refine j_aload_n 2 rfl dL_isRewritten_133 ?_
        refine j_iconst dL_isRewritten_134 ejc_1 ?_
        refine j_callSi (kL_out x n 1 s32) ls_L_140 ⟨Nat.le_of_ble_eq_true rfl, Nat.le_of_ble_eq_true rfl⟩ dL_isRewritten_135 rfl (Nat.le_of_ble_eq_true rfl) (fun r33 s34 => ?_)
        refine j_bipush dL_isRewritten_138 ejb_33 ?_
        refine j_icmp_ne dL_isRewritten_140 ?_ ?_
        · refine j_iconst dL_isRewritten_157 ejc_0 ?_
          exact jb_zreturn0 (ej_finRu _ _ (ej_finRu _ _ hq)) (ej_budu 1 (ej_budu 1 hu (by omega)) (by omega)) dL_isRewritten_158
        · refine j_aload_n 2 rfl dL_isRewritten_143 ?_
          refine j_iconst dL_isRewritten_144 ejc_5 ?_
          refine j_callSi (kL_out x n 5 s34) ls_L_140 ⟨Nat.le_of_ble_eq_true rfl, Nat.le_of_ble_eq_true rfl⟩ dL_isRewritten_145 rfl (Nat.le_of_ble_eq_true rfl) (fun r35 s36 => ?_)
          refine j_bipush dL_isRewritten_148 ejb_37 ?_
          refine j_icmp_ne dL_isRewritten_150 ?_ ?_
          · refine j_iconst dL_isRewritten_157 ejc_0 ?_
            exact jb_zreturn0 (ej_finRu _ _ (ej_finRu _ _ hq)) (ej_budu 1 (ej_budu 1 hu (by omega)) (by omega)) dL_isRewritten_158
          · refine j_iconst dL_isRewritten_153 ejc_1 ?_
            refine j_goto dL_isRewritten_154 ?_
            exact jb_zreturn1 (ej_finRu _ _ (ej_finRu _ _ hq)) (ej_budu 1 (ej_budu 1 hu (by omega)) (by omega)) dL_isRewritten_158
noncomputable def mL_isRewritten_44 (n : Nat) (y5 : Int32) (y6 : Int32) (y7 : Int32) (σ : lw_S) : Option (Int32 × lw_S) := (if 8 < y7 then (mL_isRewritten_83 n y5 y6 y7 0 σ) else (if y7 = 0 then (mL_isRewritten_83 n y5 y6 y7 0 σ) else ej_bl (ej_lc (m10_word n 0 σ.1) σ) fun r37 s38 => (mL_isRewritten_83 n y5 y6 y7 (r37 &&& ((255 <<< ((8 * (y7 - 1)).toInt64 &&& 63)) ^^^ (-1))) s38)))
set_option maxRecDepth 20000 in
set_option maxHeartbeats 2000000 in
theorem jL_isRewritten_44 (x : lw_T) (n : Nat) {r0 : Int32 × lw_S} {F : ej_F} (hq : ej_finR x F (some .boolean) (some (.int r0.1)) r0.2 []) (hu : ej_bud F (2)) (y5 : Int32) (y6 : Int32) (y7 : Int32) (σ : lw_S) : ej_J (lV x) F iL_isRewritten r0 σ 44 [(0, .ref (cw_a x.1 0)), (3, .int y5), (5, .int y6)] [.int y7] (mL_isRewritten_44 n y5 y6 y7 σ) := by
  unfold mL_isRewritten_44
  refine j_istore (i := 6) (L' := [(6, .int y7), (0, .ref (cw_a x.1 0)), (3, .int y5), (5, .int y6)]) dL_isRewritten_44 (Nat.le_of_ble_eq_true rfl) rfl ?_
  refine j_iload 0 rfl dL_isRewritten_46 ?_
  refine j_bipush dL_isRewritten_48 ejb_8 ?_
  refine j_icmp_gt dL_isRewritten_50 ?_ ?_
  · refine j_lconst dL_isRewritten_58 ejl_0 ?_
    refine j_goto dL_isRewritten_59 ?_
    exact j_sub [1, 2, 3, 0] rfl (jL_isRewritten_83 x n hq (ej_budw hu (by omega)) y5 y6 y7 0 σ)
  · refine j_iload 0 rfl dL_isRewritten_53 ?_
    refine j_if_ne dL_isRewritten_55 ?_ ?_
    · refine j_aload_n 1 rfl dL_isRewritten_62 ?_
      refine j_iconst dL_isRewritten_63 ejc_0 ?_
      refine j_callVl (fun z1 z2 z3 z4 => lc_con (f := fun r => some (.long r)) (fun z5 z6 z7 => c10_word x.1 n 0 σ.1 z5 z6 z7 z4) z1 z2 z3) lv_L_126 (lV_rc_0 x σ) ⟨Nat.le_of_ble_eq_true rfl, Nat.le_of_ble_eq_true rfl⟩ dL_isRewritten_64 rfl (Nat.le_of_ble_eq_true rfl) (fun r37 s38 => ?_)
      refine j_ldc2 dL_isRewritten_67 kl_L_130 ?_
      refine j_bipush dL_isRewritten_70 ejb_8 ?_
      refine j_iload 0 rfl dL_isRewritten_72 ?_
      refine j_iconst dL_isRewritten_74 ejc_1 ?_
      refine j_isub dL_isRewritten_75 ?_
      refine j_imul dL_isRewritten_76 ?_
      refine j_lshl dL_isRewritten_77 ?_
      refine j_ldc2 dL_isRewritten_78 kl_L_144 ?_
      refine j_lxor dL_isRewritten_81 ?_
      refine j_land dL_isRewritten_82 ?_
      exact j_sub [1, 2, 3, 0] rfl (jL_isRewritten_83 x n hq (ej_budw hu (by omega)) y5 y6 y7 (r37 &&& ((255 <<< ((8 * (y7 - 1)).toInt64 &&& 63)) ^^^ (-1))) s38)
    · refine j_lconst dL_isRewritten_58 ejl_0 ?_
      refine j_goto dL_isRewritten_59 ?_
      exact j_sub [1, 2, 3, 0] rfl (jL_isRewritten_83 x n hq (ej_budw hu (by omega)) y5 y6 y7 0 σ)
noncomputable def mL_isRewritten_26 (n : Nat) (y3 : Int32) (y4 : Int32) (σ : lw_S) : Option (Int32 × lw_S) := (if (0 : Int32) = 0 then (mL_isRewritten_44 n y3 0 0 σ) else ej_bi (ej_lcn (m10_print n y4 σ.1) σ) fun r39 s40 => (mL_isRewritten_44 n y3 0 r39 s40))
set_option maxRecDepth 20000 in
set_option maxHeartbeats 2000000 in
theorem jL_isRewritten_26 (x : lw_T) (n : Nat) {r0 : Int32 × lw_S} {F : ej_F} (hq : ej_finR x F (some .boolean) (some (.int r0.1)) r0.2 []) (hu : ej_bud F (2)) (y3 : Int32) (y4 : Int32) (σ : lw_S) : ej_J (lV x) F iL_isRewritten r0 σ 26 [(0, .ref (cw_a x.1 0)), (3, .int y3), (4, .int y4)] [] (mL_isRewritten_26 n y3 y4 σ) := by
  unfold mL_isRewritten_26
  refine j_iconst dL_isRewritten_26 ejc_0 ?_
  refine j_istore (i := 5) (L' := [(5, .int 0), (0, .ref (cw_a x.1 0)), (3, .int y3), (4, .int y4)]) dL_isRewritten_27 (Nat.le_of_ble_eq_true rfl) rfl ?_
  refine j_iload 0 rfl dL_isRewritten_29 ?_
  refine j_if_eq dL_isRewritten_31 ?_ ?_
  · refine j_iconst dL_isRewritten_43 ejc_0 ?_
    exact j_sub [1, 2, 0] rfl (jL_isRewritten_44 x n hq (ej_budw hu (by omega)) y3 0 0 σ)
  · refine j_aload_n 1 rfl dL_isRewritten_34 ?_
    refine j_iload 3 rfl dL_isRewritten_35 ?_
    refine j_callVi (lcn_con (n10_print x.1 n y4 σ.1)) lv_L_77 (lV_rc_0 x σ) ⟨Nat.le_of_ble_eq_true rfl, Nat.le_of_ble_eq_true rfl⟩ dL_isRewritten_37 rfl (Nat.le_of_ble_eq_true rfl) (fun r39 s40 => ?_)
    refine j_goto dL_isRewritten_40 ?_
    exact j_sub [1, 2, 0] rfl (jL_isRewritten_44 x n hq (ej_budw hu (by omega)) y3 0 r39 s40)
noncomputable def mL_isRewritten (n : Nat) (a3 : Int32) (σ : lw_S) : Option (Int32 × lw_S) := ej_bi (mL_node n a3 σ) fun r1 s2 => (if r1 < 0 then (mL_isRewritten_26 n a3 r1 s2) else ej_bi (ej_lcn (m10_cost n r1 s2.1) s2) fun r41 s42 => (if r41 < 0 then (mL_isRewritten_26 n a3 r1 s42) else (if (1 : Int32) = 0 then (mL_isRewritten_44 n a3 1 0 s42) else ej_bi (ej_lcn (m10_print n r1 s42.1) s42) fun r43 s44 => (mL_isRewritten_44 n a3 1 r43 s44))))
set_option maxRecDepth 20000 in
set_option maxHeartbeats 2000000 in
theorem jL_isRewritten (x : lw_T) (n : Nat) (a3 : Int32) (σ : lw_S) {F : ej_F} {r0 : Int32 × lw_S} (hq : ej_finR x F (some .boolean) (some (.int r0.1)) r0.2 []) (hu : ej_bud F 2) : ej_J (lV x) F iL_isRewritten r0 σ 0 [(0, .ref (cw_a x.1 0)), (1, .ref (cw_a x.1 211)), (2, .ref (cw_a x.1 212)), (3, .int a3)] [] (mL_isRewritten n a3 σ) := by
  unfold mL_isRewritten
  refine j_aload_n 1 rfl dL_isRewritten_0 ?_
  refine j_aload_n 2 rfl dL_isRewritten_1 ?_
  refine j_iload_n 3 rfl dL_isRewritten_2 ?_
  refine j_callSi (kL_node x n a3 σ) ls_L_100 ⟨Nat.le_of_ble_eq_true rfl, Nat.le_of_ble_eq_true rfl⟩ dL_isRewritten_3 rfl (Nat.le_of_ble_eq_true rfl) (fun r1 s2 => ?_)
  refine j_istore (i := 4) (L' := [(4, .int r1), (0, .ref (cw_a x.1 0)), (1, .ref (cw_a x.1 211)), (2, .ref (cw_a x.1 212)), (3, .int a3)]) dL_isRewritten_6 (Nat.le_of_ble_eq_true rfl) rfl ?_
  refine j_iload 0 rfl dL_isRewritten_8 ?_
  refine j_if_lt dL_isRewritten_10 ?_ ?_
  · exact j_sub [1, 4, 0] rfl (jL_isRewritten_26 x n hq (ej_budw hu (by omega)) a3 r1 s2)
  · refine j_aload_n 1 rfl dL_isRewritten_13 ?_
    refine j_iload 0 rfl dL_isRewritten_14 ?_
    refine j_callVi (lcn_con (n10_cost x.1 n r1 s2.1)) lv_L_52 (lV_rc_0 x s2) ⟨Nat.le_of_ble_eq_true rfl, Nat.le_of_ble_eq_true rfl⟩ dL_isRewritten_16 rfl (Nat.le_of_ble_eq_true rfl) (fun r41 s42 => ?_)
    refine j_if_lt dL_isRewritten_19 ?_ ?_
    · exact j_sub [1, 4, 0] rfl (jL_isRewritten_26 x n hq (ej_budw hu (by omega)) a3 r1 s42)
    · refine j_iconst dL_isRewritten_22 ejc_1 ?_
      refine j_goto dL_isRewritten_23 ?_
      refine j_istore (i := 5) (L' := [(5, .int 1), (4, .int r1), (0, .ref (cw_a x.1 0)), (1, .ref (cw_a x.1 211)), (2, .ref (cw_a x.1 212)), (3, .int a3)]) dL_isRewritten_27 (Nat.le_of_ble_eq_true rfl) rfl ?_
      refine j_iload 0 rfl dL_isRewritten_29 ?_
      refine j_if_eq dL_isRewritten_31 ?_ ?_
      · refine j_iconst dL_isRewritten_43 ejc_0 ?_
        exact j_sub [2, 5, 0] rfl (jL_isRewritten_44 x n hq (ej_budw hu (by omega)) a3 1 0 s42)
      · refine j_aload_n 2 rfl dL_isRewritten_34 ?_
        refine j_iload 1 rfl dL_isRewritten_35 ?_
        refine j_callVi (lcn_con (n10_print x.1 n r1 s42.1)) lv_L_77 (lV_rc_0 x s42) ⟨Nat.le_of_ble_eq_true rfl, Nat.le_of_ble_eq_true rfl⟩ dL_isRewritten_37 rfl (Nat.le_of_ble_eq_true rfl) (fun r43 s44 => ?_)
        refine j_goto dL_isRewritten_40 ?_
        exact j_sub [2, 5, 0] rfl (jL_isRewritten_44 x n hq (ej_budw hu (by omega)) a3 1 r43 s44)
theorem kL_isRewritten (x : lw_T) (n : Nat) (a3 : Int32) (σ : lw_S) : ∀ z, mL_isRewritten n a3 σ = some z → ∀ l : Launch, l.stackTraces = false → ej_Cb l x iL_isRewritten yL_isRewritten (some .boolean) [.ref (cw_a x.1 0), .ref (cw_a x.1 211), .ref (cw_a x.1 212), .int a3] σ 2 (some (.int z.1)) z.2 := fun z h l hl => ej_conB_of hl pn_L rfl (Nat.le_of_ble_eq_true rfl) rfl h (fun F hq hu => jL_isRewritten x n a3 σ hq hu)

noncomputable def mL_isSum_145 (n : Nat) (f30 : Int32 → Int32 → Int32 → Int32 → Int32 → Int32 → lw_S → Option (Int32 × lw_S)) (y39 : Int32) (y40 : Int32) (y41 : Int32) (y42 : Int32) (y43 : Int32) (y44 : Int32) (y45 : Int32) (y46 : Int32) (σ : lw_S) : Option (Int32 × lw_S) := (if 2 ≤ y45 then (if y45 = 2 then ej_nm (y42 * y44) fun x49 => ej_nm (y43 + 1) fun x50 => (f30 y39 y40 y41 y46 x49 x50 σ) else ej_dv y44 (ej_nm (y42 / y44) fun x47 => ej_nm (y43 + 1) fun x48 => (f30 y39 y40 y41 y46 x47 x48 σ))) else ej_nm (y43 + 1) fun x51 => (f30 y39 y40 y41 y46 y44 x51 σ))
set_option maxRecDepth 20000 in
set_option maxHeartbeats 2000000 in
theorem jL_isSum_145 (x : lw_T) (n : Nat) {r0 : Int32 × lw_S} (f30 : Int32 → Int32 → Int32 → Int32 → Int32 → Int32 → lw_S → Option (Int32 × lw_S)) (b30 : Nat) (H30 : ∀ {F : ej_F} (hq : ej_finR x F (some .boolean) (some (.int r0.1)) r0.2 []) (hu : ej_bud F b30) (y4 : Int32) (y5 : Int32) (y6 : Int32) (y7 : Int32) (y8 : Int32) (y9 : Int32) (σ : lw_S), ej_J (lV x) F iL_isSum r0 σ 30 [(0, .ref (cw_a x.1 0)), (1, .int y4), (2, .int y5), (3, .int y6), (4, .int y7), (5, .int y8), (6, .int y9)] [] (f30 y4 y5 y6 y7 y8 y9 σ)) {F : ej_F} (hq : ej_finR x F (some .boolean) (some (.int r0.1)) r0.2 []) (hu : ej_bud F (0 + b30)) (y39 : Int32) (y40 : Int32) (y41 : Int32) (y42 : Int32) (y43 : Int32) (y44 : Int32) (y45 : Int32) (y46 : Int32) (σ : lw_S) : ej_J (lV x) F iL_isSum r0 σ 145 [(0, .ref (cw_a x.1 0)), (1, .int y39), (2, .int y40), (3, .int y41), (5, .int y42), (6, .int y43), (7, .int y44), (8, .int y45)] [.int y46] (mL_isSum_145 n f30 y39 y40 y41 y42 y43 y44 y45 y46 σ) := by
  unfold mL_isSum_145
  refine j_istore (i := 4) (L' := [(4, .int y46), (0, .ref (cw_a x.1 0)), (1, .int y39), (2, .int y40), (3, .int y41), (5, .int y42), (6, .int y43), (7, .int y44), (8, .int y45)]) dL_isSum_145 (Nat.le_of_ble_eq_true rfl) rfl ?_
  refine j_iload 8 rfl dL_isSum_147 ?_
  refine j_iconst dL_isSum_149 ejc_2 ?_
  refine j_icmp_ge dL_isSum_150 ?_ ?_
  · refine j_iload 8 rfl dL_isSum_158 ?_
    refine j_iconst dL_isSum_160 ejc_2 ?_
    refine j_icmp_ne dL_isSum_161 ?_ ?_
    · refine j_iload 5 rfl dL_isSum_172 ?_
      refine j_iload 7 rfl dL_isSum_174 ?_
      refine j_idiv dL_isSum_176 ?_
      refine j_nmi (fun x47 => ?_)
      refine j_istore (i := 5) (L' := [(5, .int x47), (4, .int y46), (0, .ref (cw_a x.1 0)), (1, .int y39), (2, .int y40), (3, .int y41), (6, .int y43), (7, .int y44), (8, .int y45)]) dL_isSum_177 (Nat.le_of_ble_eq_true rfl) rfl ?_
      refine j_iinc (i := 6) (v := 1) (Ly := fun x48 => [(6, .int x48), (5, .int x47), (4, .int y46), (0, .ref (cw_a x.1 0)), (1, .int y39), (2, .int y40), (3, .int y41), (7, .int y44), (8, .int y45)]) 6 dL_isSum_179 rfl ejc_1 (Nat.le_of_ble_eq_true rfl) (fun _ => rfl) (fun x48 => ?_)
      refine j_goto dL_isSum_182 ?_
      exact j_sub [3, 4, 5, 6, 2, 1, 0] rfl (H30 hq (ej_budw hu (by omega)) y39 y40 y41 y46 x47 x48 σ)
    · refine j_iload 5 rfl dL_isSum_164 ?_
      refine j_iload 7 rfl dL_isSum_166 ?_
      refine j_imul dL_isSum_168 ?_
      refine j_goto dL_isSum_169 ?_
      refine j_nmi (fun x49 => ?_)
      refine j_istore (i := 5) (L' := [(5, .int x49), (4, .int y46), (0, .ref (cw_a x.1 0)), (1, .int y39), (2, .int y40), (3, .int y41), (6, .int y43), (7, .int y44), (8, .int y45)]) dL_isSum_177 (Nat.le_of_ble_eq_true rfl) rfl ?_
      refine j_iinc (i := 6) (v := 1) (Ly := fun x50 => [(6, .int x50), (5, .int x49), (4, .int y46), (0, .ref (cw_a x.1 0)), (1, .int y39), (2, .int y40), (3, .int y41), (7, .int y44), (8, .int y45)]) 6 dL_isSum_179 rfl ejc_1 (Nat.le_of_ble_eq_true rfl) (fun _ => rfl) (fun x50 => ?_)
      refine j_goto dL_isSum_182 ?_
      exact j_sub [3, 4, 5, 6, 2, 1, 0] rfl (H30 hq (ej_budw hu (by omega)) y39 y40 y41 y46 x49 x50 σ)
  · refine j_iload 7 rfl dL_isSum_153 ?_
    refine j_goto dL_isSum_155 ?_
    refine j_istore (i := 5) (L' := [(5, .int y44), (4, .int y46), (0, .ref (cw_a x.1 0)), (1, .int y39), (2, .int y40), (3, .int y41), (6, .int y43), (7, .int y44), (8, .int y45)]) dL_isSum_177 (Nat.le_of_ble_eq_true rfl) rfl ?_
    refine j_iinc (i := 6) (v := 1) (Ly := fun x51 => [(6, .int x51), (5, .int y44), (4, .int y46), (0, .ref (cw_a x.1 0)), (1, .int y39), (2, .int y40), (3, .int y41), (7, .int y44), (8, .int y45)]) 6 dL_isSum_179 rfl ejc_1 (Nat.le_of_ble_eq_true rfl) (fun _ => rfl) (fun x51 => ?_)
    refine j_goto dL_isSum_182 ?_
    exact j_sub [3, 4, 5, 6, 2, 1, 0] rfl (H30 hq (ej_budw hu (by omega)) y39 y40 y41 y46 y44 x51 σ)
noncomputable def mL_isSum_122 (n : Nat) (f30 : Int32 → Int32 → Int32 → Int32 → Int32 → Int32 → lw_S → Option (Int32 × lw_S)) (y29 : Int32) (y30 : Int32) (y31 : Int32) (y32 : Int32) (y33 : Int32) (y34 : Int32) (y35 : Int32) (y36 : Int32) (y37 : Int32) (σ : lw_S) : Option (Int32 × lw_S) := ej_nm (y37 + y36) fun x38 => (if y35 = 0 then (mL_isSum_145 n f30 y29 y30 x38 y32 y33 y34 y35 1 σ) else (if y35 = 1 then (mL_isSum_145 n f30 y29 y30 x38 y32 y33 y34 y35 (-1) σ) else (mL_isSum_145 n f30 y29 y30 x38 y32 y33 y34 y35 y31 σ)))
set_option maxRecDepth 20000 in
set_option maxHeartbeats 2000000 in
theorem jL_isSum_122 (x : lw_T) (n : Nat) {r0 : Int32 × lw_S} (f30 : Int32 → Int32 → Int32 → Int32 → Int32 → Int32 → lw_S → Option (Int32 × lw_S)) (b30 : Nat) (H30 : ∀ {F : ej_F} (hq : ej_finR x F (some .boolean) (some (.int r0.1)) r0.2 []) (hu : ej_bud F b30) (y4 : Int32) (y5 : Int32) (y6 : Int32) (y7 : Int32) (y8 : Int32) (y9 : Int32) (σ : lw_S), ej_J (lV x) F iL_isSum r0 σ 30 [(0, .ref (cw_a x.1 0)), (1, .int y4), (2, .int y5), (3, .int y6), (4, .int y7), (5, .int y8), (6, .int y9)] [] (f30 y4 y5 y6 y7 y8 y9 σ)) {F : ej_F} (hq : ej_finR x F (some .boolean) (some (.int r0.1)) r0.2 []) (hu : ej_bud F (0 + b30)) (y29 : Int32) (y30 : Int32) (y31 : Int32) (y32 : Int32) (y33 : Int32) (y34 : Int32) (y35 : Int32) (y36 : Int32) (y37 : Int32) (σ : lw_S) : ej_J (lV x) F iL_isSum r0 σ 122 [(0, .ref (cw_a x.1 0)), (1, .int y29), (2, .int y30), (4, .int y31), (5, .int y32), (6, .int y33), (7, .int y34), (8, .int y35)] [.int y36, .int y37] (mL_isSum_122 n f30 y29 y30 y31 y32 y33 y34 y35 y36 y37 σ) := by
  unfold mL_isSum_122
  refine j_iadd dL_isSum_122 ?_
  refine j_nmi (fun x38 => ?_)
  refine j_istore_n (i := 3) (L' := [(3, .int x38), (0, .ref (cw_a x.1 0)), (1, .int y29), (2, .int y30), (4, .int y31), (5, .int y32), (6, .int y33), (7, .int y34), (8, .int y35)]) dL_isSum_123 rfl (Nat.le_of_ble_eq_true rfl) rfl ?_
  refine j_iload 8 rfl dL_isSum_124 ?_
  refine j_if_ne dL_isSum_126 ?_ ?_
  · refine j_iload 8 rfl dL_isSum_133 ?_
    refine j_iconst dL_isSum_135 ejc_1 ?_
    refine j_icmp_ne dL_isSum_136 ?_ ?_
    · refine j_iload 4 rfl dL_isSum_143 ?_
      exact j_sub [1, 2, 3, 0, 5, 6, 7, 8] rfl (jL_isSum_145 x n f30 (b30) H30 hq (ej_budw hu (by omega)) y29 y30 x38 y32 y33 y34 y35 y31 σ)
    · refine j_iconst dL_isSum_139 ejc_m1 ?_
      refine j_goto dL_isSum_140 ?_
      exact j_sub [1, 2, 3, 0, 5, 6, 7, 8] rfl (jL_isSum_145 x n f30 (b30) H30 hq (ej_budw hu (by omega)) y29 y30 x38 y32 y33 y34 y35 (-1) σ)
  · refine j_iconst dL_isSum_129 ejc_1 ?_
    refine j_goto dL_isSum_130 ?_
    exact j_sub [1, 2, 3, 0, 5, 6, 7, 8] rfl (jL_isSum_145 x n f30 (b30) H30 hq (ej_budw hu (by omega)) y29 y30 x38 y32 y33 y34 y35 1 σ)
noncomputable def mL_isSum_97 (n : Nat) (f30 : Int32 → Int32 → Int32 → Int32 → Int32 → Int32 → lw_S → Option (Int32 × lw_S)) (y18 : Int32) (y19 : Int32) (y20 : Int32) (y21 : Int32) (y22 : Int32) (y23 : Int32) (y24 : Int32) (y25 : Int32) (y26 : Int32) (σ : lw_S) : Option (Int32 × lw_S) := ej_bv (mL_says n y26 σ) fun s27 => ej_bv (mL_saysNumber n y24 s27) fun s28 => (if 2 ≤ y25 then (mL_isSum_122 n f30 y18 y19 y21 y22 y23 y24 y25 0 y20 s28) else (mL_isSum_122 n f30 y18 y19 y21 y22 y23 y24 y25 (y21 * y22) y20 s28))
set_option maxRecDepth 20000 in
set_option maxHeartbeats 2000000 in
theorem jL_isSum_97 (x : lw_T) (n : Nat) {r0 : Int32 × lw_S} (f30 : Int32 → Int32 → Int32 → Int32 → Int32 → Int32 → lw_S → Option (Int32 × lw_S)) (b30 : Nat) (H30 : ∀ {F : ej_F} (hq : ej_finR x F (some .boolean) (some (.int r0.1)) r0.2 []) (hu : ej_bud F b30) (y4 : Int32) (y5 : Int32) (y6 : Int32) (y7 : Int32) (y8 : Int32) (y9 : Int32) (σ : lw_S), ej_J (lV x) F iL_isSum r0 σ 30 [(0, .ref (cw_a x.1 0)), (1, .int y4), (2, .int y5), (3, .int y6), (4, .int y7), (5, .int y8), (6, .int y9)] [] (f30 y4 y5 y6 y7 y8 y9 σ)) {F : ej_F} (hq : ej_finR x F (some .boolean) (some (.int r0.1)) r0.2 []) (hu : ej_bud F (9 + b30)) (y18 : Int32) (y19 : Int32) (y20 : Int32) (y21 : Int32) (y22 : Int32) (y23 : Int32) (y24 : Int32) (y25 : Int32) (y26 : Int32) (σ : lw_S) : ej_J (lV x) F iL_isSum r0 σ 97 [(0, .ref (cw_a x.1 0)), (1, .int y18), (2, .int y19), (3, .int y20), (4, .int y21), (5, .int y22), (6, .int y23), (7, .int y24), (8, .int y25)] [.int y26, .ref (cw_a x.1 0)] (mL_isSum_97 n f30 y18 y19 y20 y21 y22 y23 y24 y25 y26 σ) := by
  unfold mL_isSum_97
  refine jb_callSv (c := 1) (kL_says x n y26 σ) ls_L_87 ⟨Nat.le_of_ble_eq_true rfl, Nat.le_of_ble_eq_true rfl⟩ dL_isSum_97 rfl (Nat.le_of_ble_eq_true rfl) hu (by omega) (fun s27 => ?_)
  refine j_aload_n 0 rfl dL_isSum_100 ?_
  refine j_iload 7 rfl dL_isSum_101 ?_
  refine jb_callSv (c := 8) (kL_saysNumber x n y24 s27) ls_L_93 ⟨Nat.le_of_ble_eq_true rfl, Nat.le_of_ble_eq_true rfl⟩ dL_isSum_103 rfl (Nat.le_of_ble_eq_true rfl) (ej_budu 1 hu (by omega)) (by omega) (fun s28 => ?_)
  refine j_iload_n 3 rfl dL_isSum_106 ?_
  refine j_iload 8 rfl dL_isSum_107 ?_
  refine j_iconst dL_isSum_109 ejc_2 ?_
  refine j_icmp_ge dL_isSum_110 ?_ ?_
  · refine j_iconst dL_isSum_121 ejc_0 ?_
    exact j_sub [0, 1, 2, 4, 5, 6, 7, 8] rfl (jL_isSum_122 x n f30 (b30) H30 (ej_finRu _ _ (ej_finRu _ _ hq)) (ej_budw (ej_budu 8 (ej_budu 1 hu (by omega)) (by omega)) (by omega)) y18 y19 y21 y22 y23 y24 y25 0 y20 s28)
  · refine j_iload 4 rfl dL_isSum_113 ?_
    refine j_iload 5 rfl dL_isSum_115 ?_
    refine j_imul dL_isSum_117 ?_
    refine j_goto dL_isSum_118 ?_
    exact j_sub [0, 1, 2, 4, 5, 6, 7, 8] rfl (jL_isSum_122 x n f30 (b30) H30 (ej_finRu _ _ (ej_finRu _ _ hq)) (ej_budw (ej_budu 8 (ej_budu 1 hu (by omega)) (by omega)) (by omega)) y18 y19 y21 y22 y23 y24 y25 (y21 * y22) y20 s28)
noncomputable def mL_isSum_30 (n : Nat) (k : Nat) : Int32 → Int32 → Int32 → Int32 → Int32 → Int32 → lw_S → Option (Int32 × lw_S) := Nat.rec (motive := fun _ => Int32 → Int32 → Int32 → Int32 → Int32 → Int32 → lw_S → Option (Int32 × lw_S)) (fun _ _ _ _ _ _ _ => none) (fun _ ih y4 y5 y6 y7 y8 y9 σ => (if y5 ≤ y9 then ej_bi (mL_act n 3 0 0 σ) fun r10 s11 => (if r10 = y6 + (y7 * y8) then ej_bi (ej_lc (m10_fault n 0 s11.1) s11) fun r12 s13 => (if r12 = 0 then ej_bi (ej_lc (m10_fault n 1 s13.1) s13) fun r14 s15 => (if r14 = 0 then (some (1, s15)) else (some (0, s15))) else (some (0, s13))) else (some (0, s11))) else ej_dv (4 + (3 * y9)) (ej_nm (1 + ((y4 / (4 + (3 * y9))) - (y4 / (4 + (3 * y9))) / 30 * 30)) fun x16 => ej_dv (40 + y9) (ej_nm ((y4 / (40 + y9)) - (y4 / (40 + y9)) / 4 * 4) fun x17 => (if x17 = 0 then (mL_isSum_97 n ih y4 y5 y6 y7 y8 y9 x16 x17 43 σ) else (if x17 = 1 then (mL_isSum_97 n ih y4 y5 y6 y7 y8 y9 x16 x17 45 σ) else (if x17 = 2 then (mL_isSum_97 n ih y4 y5 y6 y7 y8 y9 x16 x17 42 σ) else (mL_isSum_97 n ih y4 y5 y6 y7 y8 y9 x16 x17 47 σ)))))))) k
theorem mL_isSum_30_s (n : Nat) (k : Nat) (y4 : Int32) (y5 : Int32) (y6 : Int32) (y7 : Int32) (y8 : Int32) (y9 : Int32) (σ : lw_S) : mL_isSum_30 n (k + 1) y4 y5 y6 y7 y8 y9 σ = ((if y5 ≤ y9 then ej_bi (mL_act n 3 0 0 σ) fun r10 s11 => (if r10 = y6 + (y7 * y8) then ej_bi (ej_lc (m10_fault n 0 s11.1) s11) fun r12 s13 => (if r12 = 0 then ej_bi (ej_lc (m10_fault n 1 s13.1) s13) fun r14 s15 => (if r14 = 0 then (some (1, s15)) else (some (0, s15))) else (some (0, s13))) else (some (0, s11))) else ej_dv (4 + (3 * y9)) (ej_nm (1 + ((y4 / (4 + (3 * y9))) - (y4 / (4 + (3 * y9))) / 30 * 30)) fun x16 => ej_dv (40 + y9) (ej_nm ((y4 / (40 + y9)) - (y4 / (40 + y9)) / 4 * 4) fun x17 => (if x17 = 0 then (mL_isSum_97 n (mL_isSum_30 n k) y4 y5 y6 y7 y8 y9 x16 x17 43 σ) else (if x17 = 1 then (mL_isSum_97 n (mL_isSum_30 n k) y4 y5 y6 y7 y8 y9 x16 x17 45 σ) else (if x17 = 2 then (mL_isSum_97 n (mL_isSum_30 n k) y4 y5 y6 y7 y8 y9 x16 x17 42 σ) else (mL_isSum_97 n (mL_isSum_30 n k) y4 y5 y6 y7 y8 y9 x16 x17 47 σ))))))) : Option (Int32 × lw_S)) := rfl
set_option maxRecDepth 20000 in
set_option maxHeartbeats 2000000 in
theorem jL_isSum_30 (x : lw_T) (n : Nat) {r0 : Int32 × lw_S} : ∀ (k : Nat) {F : ej_F} (hq : ej_finR x F (some .boolean) (some (.int r0.1)) r0.2 []) (hu : ej_bud F (1 + 9 * k)) (y4 : Int32) (y5 : Int32) (y6 : Int32) (y7 : Int32) (y8 : Int32) (y9 : Int32) (σ : lw_S), ej_J (lV x) F iL_isSum r0 σ 30 [(0, .ref (cw_a x.1 0)), (1, .int y4), (2, .int y5), (3, .int y6), (4, .int y7), (5, .int y8), (6, .int y9)] [] (mL_isSum_30 n k y4 y5 y6 y7 y8 y9 σ) := by
  intro k
  induction k with
  | zero => intro F hq hu y4 y5 y6 y7 y8 y9 σ; exact j_none
  | succ k ih =>
    intro F hq hu y4 y5 y6 y7 y8 y9 σ
    rw [mL_isSum_30_s]
    refine j_iload 6 rfl dL_isSum_30 ?_
    refine j_iload_n 2 rfl dL_isSum_32 ?_
    refine j_icmp_ge dL_isSum_33 ?_ ?_
    · refine j_aload_n 0 rfl dL_isSum_185 ?_
      refine j_iconst dL_isSum_186 ejc_3 ?_
      refine j_lconst dL_isSum_187 ejl_0 ?_
      refine j_iconst dL_isSum_188 ejc_0 ?_
      refine jb_callXi (c := 1) (kL_act x n 3 0 0 σ) lx_L_80 ⟨Nat.le_of_ble_eq_true rfl, Nat.le_of_ble_eq_true rfl⟩ dL_isSum_189 rfl (Nat.le_of_ble_eq_true rfl) hu (by omega) (fun r10 s11 => ?_)
      refine j_iload_n 3 rfl dL_isSum_192 ?_
      refine j_iload 4 rfl dL_isSum_193 ?_
      refine j_iload 5 rfl dL_isSum_195 ?_
      refine j_imul dL_isSum_197 ?_
      refine j_iadd dL_isSum_198 ?_
      refine j_icmp_ne dL_isSum_199 ?_ ?_
      · refine j_iconst dL_isSum_222 ejc_0 ?_
        exact jb_zreturn0 (ej_finRu _ _ hq) (ej_budu 1 hu (by omega)) dL_isSum_223
      · refine j_aload_n 0 rfl dL_isSum_202 ?_
        refine j_iconst dL_isSum_203 ejc_0 ?_
        refine j_callVi (fun z1 z2 z3 z4 => lc_con (f := fun r => some (.int r)) (fun z5 z6 z7 => c10_fault x.1 n 0 s11.1 z5 z6 z7 z4) z1 z2 z3) lv_L_151 (lV_rc_0 x s11) ⟨Nat.le_of_ble_eq_true rfl, Nat.le_of_ble_eq_true rfl⟩ dL_isSum_204 rfl (Nat.le_of_ble_eq_true rfl) (fun r12 s13 => ?_)
        refine j_if_ne dL_isSum_207 ?_ ?_
        · refine j_iconst dL_isSum_222 ejc_0 ?_
          exact jb_zreturn0 (ej_finRu _ _ hq) (ej_budu 1 hu (by omega)) dL_isSum_223
        · refine j_aload_n 0 rfl dL_isSum_210 ?_
          refine j_iconst dL_isSum_211 ejc_1 ?_
          refine j_callVi (fun z1 z2 z3 z4 => lc_con (f := fun r => some (.int r)) (fun z5 z6 z7 => c10_fault x.1 n 1 s13.1 z5 z6 z7 z4) z1 z2 z3) lv_L_151 (lV_rc_0 x s13) ⟨Nat.le_of_ble_eq_true rfl, Nat.le_of_ble_eq_true rfl⟩ dL_isSum_212 rfl (Nat.le_of_ble_eq_true rfl) (fun r14 s15 => ?_)
          refine j_if_ne dL_isSum_215 ?_ ?_
          · refine j_iconst dL_isSum_222 ejc_0 ?_
            exact jb_zreturn0 (ej_finRu _ _ hq) (ej_budu 1 hu (by omega)) dL_isSum_223
          · refine j_iconst dL_isSum_218 ejc_1 ?_
            refine j_goto dL_isSum_219 ?_
            exact jb_zreturn1 (ej_finRu _ _ hq) (ej_budu 1 hu (by omega)) dL_isSum_223
    · refine j_iconst dL_isSum_36 ejc_1 ?_
      refine j_iload_n 1 rfl dL_isSum_37 ?_
      refine j_iconst dL_isSum_38 ejc_4 ?_
      refine j_iconst dL_isSum_39 ejc_3 ?_
      refine j_iload 6 rfl dL_isSum_40 ?_
      refine j_imul dL_isSum_42 ?_
      refine j_iadd dL_isSum_43 ?_
      refine j_idiv dL_isSum_44 ?_
      refine j_bipush dL_isSum_45 ejb_30 ?_
      refine j_irem0 (by decide) dL_isSum_47 ?_
      refine j_iadd dL_isSum_48 ?_
      refine j_nmi (fun x16 => ?_)
      refine j_istore (i := 7) (L' := [(7, .int x16), (0, .ref (cw_a x.1 0)), (1, .int y4), (2, .int y5), (3, .int y6), (4, .int y7), (5, .int y8), (6, .int y9)]) dL_isSum_49 (Nat.le_of_ble_eq_true rfl) rfl ?_
      refine j_iload_n 2 rfl dL_isSum_51 ?_
      refine j_bipush dL_isSum_52 ejb_40 ?_
      refine j_iload 7 rfl dL_isSum_54 ?_
      refine j_iadd dL_isSum_56 ?_
      refine j_idiv dL_isSum_57 ?_
      refine j_iconst dL_isSum_58 ejc_4 ?_
      refine j_irem0 (by decide) dL_isSum_59 ?_
      refine j_nmi (fun x17 => ?_)
      refine j_istore (i := 8) (L' := [(8, .int x17), (7, .int x16), (0, .ref (cw_a x.1 0)), (1, .int y4), (2, .int y5), (3, .int y6), (4, .int y7), (5, .int y8), (6, .int y9)]) dL_isSum_60 (Nat.le_of_ble_eq_true rfl) rfl ?_
      refine j_aload_n 2 rfl dL_isSum_62 ?_
      refine j_iload 0 rfl dL_isSum_63 ?_
      refine j_if_ne dL_isSum_65 ?_ ?_
      · refine j_iload 0 rfl dL_isSum_73 ?_
        refine j_iconst dL_isSum_75 ejc_1 ?_
        refine j_icmp_ne dL_isSum_76 ?_ ?_
        · refine j_iload 0 rfl dL_isSum_84 ?_
          refine j_iconst dL_isSum_86 ejc_2 ?_
          refine j_icmp_ne dL_isSum_87 ?_ ?_
          · refine j_bipush dL_isSum_95 ejb_47 ?_
            exact j_sub [2, 3, 4, 5, 6, 7, 8, 1, 0] rfl (jL_isSum_97 x n (mL_isSum_30 n k) (1 + 9 * k) ih hq (ej_budw hu (by omega)) y4 y5 y6 y7 y8 y9 x16 x17 47 σ)
          · refine j_bipush dL_isSum_90 ejb_42 ?_
            refine j_goto dL_isSum_92 ?_
            exact j_sub [2, 3, 4, 5, 6, 7, 8, 1, 0] rfl (jL_isSum_97 x n (mL_isSum_30 n k) (1 + 9 * k) ih hq (ej_budw hu (by omega)) y4 y5 y6 y7 y8 y9 x16 x17 42 σ)
        · refine j_bipush dL_isSum_79 ejb_45 ?_
          refine j_goto dL_isSum_81 ?_
          exact j_sub [2, 3, 4, 5, 6, 7, 8, 1, 0] rfl (jL_isSum_97 x n (mL_isSum_30 n k) (1 + 9 * k) ih hq (ej_budw hu (by omega)) y4 y5 y6 y7 y8 y9 x16 x17 45 σ)
      · refine j_bipush dL_isSum_68 ejb_43 ?_
        refine j_goto dL_isSum_70 ?_
        exact j_sub [2, 3, 4, 5, 6, 7, 8, 1, 0] rfl (jL_isSum_97 x n (mL_isSum_30 n k) (1 + 9 * k) ih hq (ej_budw hu (by omega)) y4 y5 y6 y7 y8 y9 x16 x17 43 σ)
noncomputable def mL_isSum (n : Nat) (a1 : Int32) (σ : lw_S) : Option (Int32 × lw_S) := ej_nm (1 + (a1 - a1 / 4 * 4)) fun x1 => ej_nm (1 + ((a1 / 4) - (a1 / 4) / 30 * 30)) fun x2 => ej_bv (mL_saysNumber n x2 σ) fun s3 => (mL_isSum_30 n 5 a1 x1 0 1 x2 1 s3)
set_option maxRecDepth 20000 in
set_option maxHeartbeats 2000000 in
theorem jL_isSum (x : lw_T) (n : Nat) (a1 : Int32) (σ : lw_S) {F : ej_F} {r0 : Int32 × lw_S} (hq : ej_finR x F (some .boolean) (some (.int r0.1)) r0.2 []) (hu : ej_bud F 54) : ej_J (lV x) F iL_isSum r0 σ 0 [(0, .ref (cw_a x.1 0)), (1, .int a1)] [] (mL_isSum n a1 σ) := by
  unfold mL_isSum
  refine j_iconst dL_isSum_0 ejc_1 ?_
  refine j_iload_n 1 rfl dL_isSum_1 ?_
  refine j_iconst dL_isSum_2 ejc_4 ?_
  refine j_irem0 (by decide) dL_isSum_3 ?_
  refine j_iadd dL_isSum_4 ?_
  refine j_nmi (fun x1 => ?_)
  refine j_istore_n (i := 2) (L' := [(2, .int x1), (0, .ref (cw_a x.1 0)), (1, .int a1)]) dL_isSum_5 rfl (Nat.le_of_ble_eq_true rfl) rfl ?_
  refine j_iconst dL_isSum_6 ejc_0 ?_
  refine j_istore_n (i := 3) (L' := [(3, .int 0), (2, .int x1), (0, .ref (cw_a x.1 0)), (1, .int a1)]) dL_isSum_7 rfl (Nat.le_of_ble_eq_true rfl) rfl ?_
  refine j_iconst dL_isSum_8 ejc_1 ?_
  refine j_istore (i := 4) (L' := [(4, .int 1), (3, .int 0), (2, .int x1), (0, .ref (cw_a x.1 0)), (1, .int a1)]) dL_isSum_9 (Nat.le_of_ble_eq_true rfl) rfl ?_
  refine j_iconst dL_isSum_11 ejc_1 ?_
  refine j_iload_n 4 rfl dL_isSum_12 ?_
  refine j_iconst dL_isSum_13 ejc_4 ?_
  refine j_idiv0 (by decide) dL_isSum_14 ?_
  refine j_bipush dL_isSum_15 ejb_30 ?_
  refine j_irem0 (by decide) dL_isSum_17 ?_
  refine j_iadd dL_isSum_18 ?_
  refine j_nmi (fun x2 => ?_)
  refine j_istore (i := 5) (L' := [(5, .int x2), (4, .int 1), (3, .int 0), (2, .int x1), (0, .ref (cw_a x.1 0)), (1, .int a1)]) dL_isSum_19 (Nat.le_of_ble_eq_true rfl) rfl ?_
  refine j_aload_n 4 rfl dL_isSum_21 ?_
  refine j_iload 0 rfl dL_isSum_22 ?_
  refine jb_callSv (c := 8) (kL_saysNumber x n x2 σ) ls_L_93 ⟨Nat.le_of_ble_eq_true rfl, Nat.le_of_ble_eq_true rfl⟩ dL_isSum_24 rfl (Nat.le_of_ble_eq_true rfl) hu (by omega) (fun s3 => ?_)
  refine j_iconst dL_isSum_27 ejc_1 ?_
  refine j_istore (i := 6) (L' := [(6, .int 1), (5, .int x2), (4, .int 1), (3, .int 0), (2, .int x1), (0, .ref (cw_a x.1 0)), (1, .int a1)]) dL_isSum_28 (Nat.le_of_ble_eq_true rfl) rfl ?_
  exact j_sub [5, 6, 4, 3, 2, 1, 0] rfl (jL_isSum_30 x n 5 (ej_finRu _ _ hq) (ej_budw (ej_budu 8 hu (by omega)) (by omega)) a1 x1 0 1 x2 1 s3)
theorem kL_isSum (x : lw_T) (n : Nat) (a1 : Int32) (σ : lw_S) : ∀ z, mL_isSum n a1 σ = some z → ∀ l : Launch, l.stackTraces = false → ej_Cb l x iL_isSum yL_isSum (some .boolean) [.ref (cw_a x.1 0), .int a1] σ 54 (some (.int z.1)) z.2 := fun z h l hl => ej_conB_of hl pn_L rfl (Nat.le_of_ble_eq_true rfl) rfl h (fun F hq hu => jL_isSum x n a1 σ hq hu)

noncomputable def mL_isRefused_552 (n : Nat) (y64 : Int64) (y65 : Int32) (σ : lw_S) : Option (Int32 × lw_S) := (if y65 = 0 then (some (0, σ)) else ej_bl (mL_all n σ) fun r66 s67 => (if lg_cmp r66 y64 = 0 then (some (1, s67)) else (some (0, s67))))
set_option maxRecDepth 20000 in
set_option maxHeartbeats 2000000 in
theorem jL_isRefused_552 (x : lw_T) (n : Nat) {r0 : Int32 × lw_S} {F : ej_F} (hq : ej_finR x F (some .boolean) (some (.int r0.1)) r0.2 []) (hu : ej_bud F (0)) (y64 : Int64) (y65 : Int32) (σ : lw_S) : ej_J (lV x) F iL_isRefused r0 σ 552 [(0, .ref (cw_a x.1 0)), (1, .ref (cw_a x.1 212)), (7, .long y64), (9, .int y65)] [] (mL_isRefused_552 n y64 y65 σ) := by
  unfold mL_isRefused_552
  refine j_iload 3 rfl dL_isRefused_552 ?_
  refine j_if_eq dL_isRefused_554 ?_ ?_
  · refine j_iconst dL_isRefused_572 ejc_0 ?_
    exact jb_zreturn0 hq hu dL_isRefused_573
  · refine j_aload_n 0 rfl dL_isRefused_557 ?_
    refine j_aload_n 1 rfl dL_isRefused_558 ?_
    refine j_callSl (kL_all x n σ) ls_L_155 ⟨Nat.le_of_ble_eq_true rfl, Nat.le_of_ble_eq_true rfl⟩ dL_isRefused_559 rfl (Nat.le_of_ble_eq_true rfl) (fun r66 s67 => ?_)
    refine j_lload 2 rfl dL_isRefused_562 ?_
    refine j_lcmp dL_isRefused_564 ?_
    refine j_if_ne dL_isRefused_565 ?_ ?_
    · refine j_iconst dL_isRefused_572 ejc_0 ?_
      exact jb_zreturn0 hq hu dL_isRefused_573
    · refine j_iconst dL_isRefused_568 ejc_1 ?_
      refine j_goto dL_isRefused_569 ?_
      exact jb_zreturn1 hq hu dL_isRefused_573
noncomputable def mL_isRefused_457 (n : Nat) (k : Nat) : Int32 → Int64 → Int32 → Int32 → lw_S → Option (Int32 × lw_S) := Nat.rec (motive := fun _ => Int32 → Int64 → Int32 → Int32 → lw_S → Option (Int32 × lw_S)) (fun _ _ _ _ _ => none) (fun _ ih y60 y61 y62 y63 σ => ej_ck 2 4 ((if gA σ.2 2 (2 : Int32).toNatClampNeg ≤ y63 then (mL_isRefused_552 n y61 y62 σ) else (if y62 = 0 then (mL_isRefused_552 n y61 y62 σ) else ej_bi (mL_of n 9 y63 ((-1) - (y60 - y60 / 30 * 30)) σ) fun r68 s69 => (if r68 = (-1181) then ej_bi (ej_lcn (m10_steps n y63 s69.1) s69) fun r71 s72 => ej_bi (mL_of n 10 y63 (r71 + 1) s72) fun r73 s74 => (if r73 = (-1181) then ej_bi (ej_lcn (m10_steps n y63 s74.1) s74) fun r76 s77 => ej_bi (mL_of n 11 y63 ((r76 + 1) + (y60 - y60 / 30 * 30)) s77) fun r78 s79 => (if r78 = (-1181) then ej_nm (y63 + 1) fun x81 => (ih y60 y61 1 x81 s79) else ej_nm (y63 + 1) fun x80 => (ih y60 y61 0 x80 s79)) else ej_nm (y63 + 1) fun x75 => (ih y60 y61 0 x75 s74)) else ej_nm (y63 + 1) fun x70 => (ih y60 y61 0 x70 s69)))))) k
theorem mL_isRefused_457_s (n : Nat) (k : Nat) (y60 : Int32) (y61 : Int64) (y62 : Int32) (y63 : Int32) (σ : lw_S) : mL_isRefused_457 n (k + 1) y60 y61 y62 y63 σ = (ej_ck 2 4 ((if gA σ.2 2 (2 : Int32).toNatClampNeg ≤ y63 then (mL_isRefused_552 n y61 y62 σ) else (if y62 = 0 then (mL_isRefused_552 n y61 y62 σ) else ej_bi (mL_of n 9 y63 ((-1) - (y60 - y60 / 30 * 30)) σ) fun r68 s69 => (if r68 = (-1181) then ej_bi (ej_lcn (m10_steps n y63 s69.1) s69) fun r71 s72 => ej_bi (mL_of n 10 y63 (r71 + 1) s72) fun r73 s74 => (if r73 = (-1181) then ej_bi (ej_lcn (m10_steps n y63 s74.1) s74) fun r76 s77 => ej_bi (mL_of n 11 y63 ((r76 + 1) + (y60 - y60 / 30 * 30)) s77) fun r78 s79 => (if r78 = (-1181) then ej_nm (y63 + 1) fun x81 => ((mL_isRefused_457 n k) y60 y61 1 x81 s79) else ej_nm (y63 + 1) fun x80 => ((mL_isRefused_457 n k) y60 y61 0 x80 s79)) else ej_nm (y63 + 1) fun x75 => ((mL_isRefused_457 n k) y60 y61 0 x75 s74)) else ej_nm (y63 + 1) fun x70 => ((mL_isRefused_457 n k) y60 y61 0 x70 s69))))) : Option (Int32 × lw_S)) := rfl
set_option maxRecDepth 20000 in
set_option maxHeartbeats 2000000 in
theorem jL_isRefused_457 (x : lw_T) (n : Nat) {r0 : Int32 × lw_S} : ∀ (k : Nat) {F : ej_F} (hq : ej_finR x F (some .boolean) (some (.int r0.1)) r0.2 []) (hu : ej_bud F (0 + 6 * k)) (y60 : Int32) (y61 : Int64) (y62 : Int32) (y63 : Int32) (σ : lw_S), ej_J (lV x) F iL_isRefused r0 σ 457 [(0, .ref (cw_a x.1 0)), (1, .ref (cw_a x.1 212)), (2, .int y60), (7, .long y61), (9, .int y62), (10, .int y63)] [] (mL_isRefused_457 n k y60 y61 y62 y63 σ) := by
  intro k
  induction k with
  | zero => intro F hq hu y60 y61 y62 y63 σ; exact j_none
  | succ k ih =>
    intro F hq hu y60 y61 y62 y63 σ
    rw [mL_isRefused_457_s]
    refine j_iload 5 rfl dL_isRefused_457 ?_
    refine j_aload_n 1 rfl dL_isRefused_459 ?_
    refine j_iconst dL_isRefused_460 ejc_2 ?_
    refine j_iald (lV_a_212 x σ) dL_isRefused_461 ?_
    refine j_icmp_ge dL_isRefused_462 ?_ ?_
    · exact j_sub [0, 1, 3, 4] rfl (jL_isRefused_552 x n hq (ej_budw hu (by omega)) y61 y62 σ)
    · refine j_iload 4 rfl dL_isRefused_465 ?_
      refine j_if_eq dL_isRefused_467 ?_ ?_
      · exact j_sub [0, 1, 3, 4] rfl (jL_isRefused_552 x n hq (ej_budw hu (by omega)) y61 y62 σ)
      · refine j_aload_n 0 rfl dL_isRefused_470 ?_
        refine j_bipush dL_isRefused_471 ejb_9 ?_
        refine j_iload 5 rfl dL_isRefused_473 ?_
        refine j_iconst dL_isRefused_475 ejc_m1 ?_
        refine j_iload_n 2 rfl dL_isRefused_476 ?_
        refine j_bipush dL_isRefused_477 ejb_30 ?_
        refine j_irem0 (by decide) dL_isRefused_479 ?_
        refine j_isub dL_isRefused_480 ?_
        refine jb_callXi (c := 2) (kL_of x n 9 y63 ((-1) - (y60 - y60 / 30 * 30)) σ) lx_L_167 ⟨Nat.le_of_ble_eq_true rfl, Nat.le_of_ble_eq_true rfl⟩ dL_isRefused_481 rfl (Nat.le_of_ble_eq_true rfl) hu (by omega) (fun r68 s69 => ?_)
        refine j_sipush dL_isRefused_484 ejs_m1181 ?_
        refine j_icmp_ne dL_isRefused_487 ?_ ?_
        · refine j_iconst dL_isRefused_543 ejc_0 ?_
          refine j_istore (i := 9) (L' := [(9, .int 0), (0, .ref (cw_a x.1 0)), (1, .ref (cw_a x.1 212)), (2, .int y60), (7, .long y61), (10, .int y63)]) dL_isRefused_544 (Nat.le_of_ble_eq_true rfl) rfl ?_
          refine j_iinc (i := 10) (v := 1) (Ly := fun x70 => [(10, .int x70), (9, .int 0), (0, .ref (cw_a x.1 0)), (1, .ref (cw_a x.1 212)), (2, .int y60), (7, .long y61)]) 5 dL_isRefused_546 rfl ejc_1 (Nat.le_of_ble_eq_true rfl) (fun _ => rfl) (fun x70 => ?_)
          refine j_goto dL_isRefused_549 ?_
          exact j_sub [2, 3, 4, 5, 1, 0] rfl (ih (ej_finRu _ _ hq) (ej_budw (ej_budu 2 hu (by omega)) (by omega)) y60 y61 0 x70 s69)
        · refine j_aload_n 0 rfl dL_isRefused_490 ?_
          refine j_bipush dL_isRefused_491 ejb_10 ?_
          refine j_iload 5 rfl dL_isRefused_493 ?_
          refine j_aload_n 0 rfl dL_isRefused_495 ?_
          refine j_iload 5 rfl dL_isRefused_496 ?_
          refine j_callVi (lcn_con (n10_steps x.1 n y63 s69.1)) lv_L_58 (lV_rc_0 x s69) ⟨Nat.le_of_ble_eq_true rfl, Nat.le_of_ble_eq_true rfl⟩ dL_isRefused_498 rfl (Nat.le_of_ble_eq_true rfl) (fun r71 s72 => ?_)
          refine j_iconst dL_isRefused_501 ejc_1 ?_
          refine j_iadd dL_isRefused_502 ?_
          refine jb_callXi (c := 2) (kL_of x n 10 y63 (r71 + 1) s72) lx_L_167 ⟨Nat.le_of_ble_eq_true rfl, Nat.le_of_ble_eq_true rfl⟩ dL_isRefused_503 rfl (Nat.le_of_ble_eq_true rfl) (ej_budu 2 hu (by omega)) (by omega) (fun r73 s74 => ?_)
          refine j_sipush dL_isRefused_506 ejs_m1181 ?_
          refine j_icmp_ne dL_isRefused_509 ?_ ?_
          · refine j_iconst dL_isRefused_543 ejc_0 ?_
            refine j_istore (i := 9) (L' := [(9, .int 0), (0, .ref (cw_a x.1 0)), (1, .ref (cw_a x.1 212)), (2, .int y60), (7, .long y61), (10, .int y63)]) dL_isRefused_544 (Nat.le_of_ble_eq_true rfl) rfl ?_
            refine j_iinc (i := 10) (v := 1) (Ly := fun x75 => [(10, .int x75), (9, .int 0), (0, .ref (cw_a x.1 0)), (1, .ref (cw_a x.1 212)), (2, .int y60), (7, .long y61)]) 5 dL_isRefused_546 rfl ejc_1 (Nat.le_of_ble_eq_true rfl) (fun _ => rfl) (fun x75 => ?_)
            refine j_goto dL_isRefused_549 ?_
            exact j_sub [2, 3, 4, 5, 1, 0] rfl (ih (ej_finRu _ _ (ej_finRu _ _ hq)) (ej_budw (ej_budu 2 (ej_budu 2 hu (by omega)) (by omega)) (by omega)) y60 y61 0 x75 s74)
          · refine j_aload_n 0 rfl dL_isRefused_512 ?_
            refine j_bipush dL_isRefused_513 ejb_11 ?_
            refine j_iload 5 rfl dL_isRefused_515 ?_
            refine j_aload_n 0 rfl dL_isRefused_517 ?_
            refine j_iload 5 rfl dL_isRefused_518 ?_
            refine j_callVi (lcn_con (n10_steps x.1 n y63 s74.1)) lv_L_58 (lV_rc_0 x s74) ⟨Nat.le_of_ble_eq_true rfl, Nat.le_of_ble_eq_true rfl⟩ dL_isRefused_520 rfl (Nat.le_of_ble_eq_true rfl) (fun r76 s77 => ?_)
            refine j_iconst dL_isRefused_523 ejc_1 ?_
            refine j_iadd dL_isRefused_524 ?_
            refine j_iload_n 2 rfl dL_isRefused_525 ?_
            refine j_bipush dL_isRefused_526 ejb_30 ?_
            refine j_irem0 (by decide) dL_isRefused_528 ?_
            refine j_iadd dL_isRefused_529 ?_
            refine jb_callXi (c := 2) (kL_of x n 11 y63 ((r76 + 1) + (y60 - y60 / 30 * 30)) s77) lx_L_167 ⟨Nat.le_of_ble_eq_true rfl, Nat.le_of_ble_eq_true rfl⟩ dL_isRefused_530 rfl (Nat.le_of_ble_eq_true rfl) (ej_budu 2 (ej_budu 2 hu (by omega)) (by omega)) (by omega) (fun r78 s79 => ?_)
            refine j_sipush dL_isRefused_533 ejs_m1181 ?_
            refine j_icmp_ne dL_isRefused_536 ?_ ?_
            · refine j_iconst dL_isRefused_543 ejc_0 ?_
              refine j_istore (i := 9) (L' := [(9, .int 0), (0, .ref (cw_a x.1 0)), (1, .ref (cw_a x.1 212)), (2, .int y60), (7, .long y61), (10, .int y63)]) dL_isRefused_544 (Nat.le_of_ble_eq_true rfl) rfl ?_
              refine j_iinc (i := 10) (v := 1) (Ly := fun x80 => [(10, .int x80), (9, .int 0), (0, .ref (cw_a x.1 0)), (1, .ref (cw_a x.1 212)), (2, .int y60), (7, .long y61)]) 5 dL_isRefused_546 rfl ejc_1 (Nat.le_of_ble_eq_true rfl) (fun _ => rfl) (fun x80 => ?_)
              refine j_goto dL_isRefused_549 ?_
              exact j_sub [2, 3, 4, 5, 1, 0] rfl (ih (ej_finRu _ _ (ej_finRu _ _ (ej_finRu _ _ hq))) (ej_budw (ej_budu 2 (ej_budu 2 (ej_budu 2 hu (by omega)) (by omega)) (by omega)) (by omega)) y60 y61 0 x80 s79)
            · refine j_iconst dL_isRefused_539 ejc_1 ?_
              refine j_goto dL_isRefused_540 ?_
              refine j_istore (i := 9) (L' := [(9, .int 1), (0, .ref (cw_a x.1 0)), (1, .ref (cw_a x.1 212)), (2, .int y60), (7, .long y61), (10, .int y63)]) dL_isRefused_544 (Nat.le_of_ble_eq_true rfl) rfl ?_
              refine j_iinc (i := 10) (v := 1) (Ly := fun x81 => [(10, .int x81), (9, .int 1), (0, .ref (cw_a x.1 0)), (1, .ref (cw_a x.1 212)), (2, .int y60), (7, .long y61)]) 5 dL_isRefused_546 rfl ejc_1 (Nat.le_of_ble_eq_true rfl) (fun _ => rfl) (fun x81 => ?_)
              refine j_goto dL_isRefused_549 ?_
              exact j_sub [2, 3, 4, 5, 1, 0] rfl (ih (ej_finRu _ _ (ej_finRu _ _ (ej_finRu _ _ hq))) (ej_budw (ej_budu 2 (ej_budu 2 (ej_budu 2 hu (by omega)) (by omega)) (by omega)) (by omega)) y60 y61 1 x81 s79)
noncomputable def mL_isRefused_426 (n : Nat) (f380 : Int32 → Int32 → Int64 → Int32 → Int32 → lw_S → Option (Int32 × lw_S)) (y85 : Int32) (y86 : Int32) (y87 : Int64) (y88 : Int32) (σ : lw_S) : Option (Int32 × lw_S) := ej_bi (mL_of n y88 0 y86 σ) fun r89 s90 => (if r89 = (-1181) then ej_nm (y88 + 1) fun x92 => (f380 y85 y86 y87 1 x92 s90) else ej_nm (y88 + 1) fun x91 => (f380 y85 y86 y87 0 x91 s90))
set_option maxRecDepth 20000 in
set_option maxHeartbeats 2000000 in
theorem jL_isRefused_426 (x : lw_T) (n : Nat) {r0 : Int32 × lw_S} (f380 : Int32 → Int32 → Int64 → Int32 → Int32 → lw_S → Option (Int32 × lw_S)) (b380 : Nat) (H380 : ∀ {F : ej_F} (hq : ej_finR x F (some .boolean) (some (.int r0.1)) r0.2 []) (hu : ej_bud F b380) (y55 : Int32) (y56 : Int32) (y57 : Int64) (y58 : Int32) (y59 : Int32) (σ : lw_S), ej_J (lV x) F iL_isRefused r0 σ 380 [(0, .ref (cw_a x.1 0)), (1, .ref (cw_a x.1 212)), (2, .int y55), (4, .int y56), (7, .long y57), (9, .int y58), (10, .int y59)] [] (f380 y55 y56 y57 y58 y59 σ)) {F : ej_F} (hq : ej_finR x F (some .boolean) (some (.int r0.1)) r0.2 []) (hu : ej_bud F (2 + b380)) (y85 : Int32) (y86 : Int32) (y87 : Int64) (y88 : Int32) (σ : lw_S) : ej_J (lV x) F iL_isRefused r0 σ 426 [(0, .ref (cw_a x.1 0)), (1, .ref (cw_a x.1 212)), (2, .int y85), (4, .int y86), (7, .long y87), (10, .int y88)] [] (mL_isRefused_426 n f380 y85 y86 y87 y88 σ) := by
  unfold mL_isRefused_426
  refine j_aload_n 0 rfl dL_isRefused_426 ?_
  refine j_iload 5 rfl dL_isRefused_427 ?_
  refine j_iconst dL_isRefused_429 ejc_0 ?_
  refine j_iload 3 rfl dL_isRefused_430 ?_
  refine jb_callXi (c := 2) (kL_of x n y88 0 y86 σ) lx_L_167 ⟨Nat.le_of_ble_eq_true rfl, Nat.le_of_ble_eq_true rfl⟩ dL_isRefused_432 rfl (Nat.le_of_ble_eq_true rfl) hu (by omega) (fun r89 s90 => ?_)
  refine j_sipush dL_isRefused_435 ejs_m1181 ?_
  refine j_icmp_ne dL_isRefused_438 ?_ ?_
  · refine j_iconst dL_isRefused_445 ejc_0 ?_
    refine j_istore (i := 9) (L' := [(9, .int 0), (0, .ref (cw_a x.1 0)), (1, .ref (cw_a x.1 212)), (2, .int y85), (4, .int y86), (7, .long y87), (10, .int y88)]) dL_isRefused_446 (Nat.le_of_ble_eq_true rfl) rfl ?_
    refine j_iinc (i := 10) (v := 1) (Ly := fun x91 => [(10, .int x91), (9, .int 0), (0, .ref (cw_a x.1 0)), (1, .ref (cw_a x.1 212)), (2, .int y85), (4, .int y86), (7, .long y87)]) 6 dL_isRefused_448 rfl ejc_1 (Nat.le_of_ble_eq_true rfl) (fun _ => rfl) (fun x91 => ?_)
    refine j_goto dL_isRefused_451 ?_
    exact j_sub [2, 3, 4, 5, 6, 1, 0] rfl (H380 (ej_finRu _ _ hq) (ej_budw (ej_budu 2 hu (by omega)) (by omega)) y85 y86 y87 0 x91 s90)
  · refine j_iconst dL_isRefused_441 ejc_1 ?_
    refine j_goto dL_isRefused_442 ?_
    refine j_istore (i := 9) (L' := [(9, .int 1), (0, .ref (cw_a x.1 0)), (1, .ref (cw_a x.1 212)), (2, .int y85), (4, .int y86), (7, .long y87), (10, .int y88)]) dL_isRefused_446 (Nat.le_of_ble_eq_true rfl) rfl ?_
    refine j_iinc (i := 10) (v := 1) (Ly := fun x92 => [(10, .int x92), (9, .int 1), (0, .ref (cw_a x.1 0)), (1, .ref (cw_a x.1 212)), (2, .int y85), (4, .int y86), (7, .long y87)]) 6 dL_isRefused_448 rfl ejc_1 (Nat.le_of_ble_eq_true rfl) (fun _ => rfl) (fun x92 => ?_)
    refine j_goto dL_isRefused_451 ?_
    exact j_sub [2, 3, 4, 5, 6, 1, 0] rfl (H380 (ej_finRu _ _ hq) (ej_budw (ej_budu 2 hu (by omega)) (by omega)) y85 y86 y87 1 x92 s90)
noncomputable def mL_isRefused_380 (n : Nat) (k : Nat) : Int32 → Int32 → Int64 → Int32 → Int32 → lw_S → Option (Int32 × lw_S) := Nat.rec (motive := fun _ => Int32 → Int32 → Int64 → Int32 → Int32 → lw_S → Option (Int32 × lw_S)) (fun _ _ _ _ _ _ => none) (fun _ ih y55 y56 y57 y58 y59 σ => (if 14 ≤ y59 then (mL_isRefused_457 n 12 y55 y57 y58 0 σ) else (if y58 = 0 then (mL_isRefused_457 n 12 y55 y57 y58 0 σ) else ej_bi (mL_of n y59 y56 0 σ) fun r82 s83 => (if r82 = (-1181) then (if y59 = 3 then (mL_isRefused_426 n ih y55 y56 y57 y59 s83) else (if y59 = 4 then (mL_isRefused_426 n ih y55 y56 y57 y59 s83) else (if y59 = 12 then (mL_isRefused_426 n ih y55 y56 y57 y59 s83) else ej_nm (y59 + 1) fun x93 => (ih y55 y56 y57 1 x93 s83)))) else ej_nm (y59 + 1) fun x84 => (ih y55 y56 y57 0 x84 s83))))) k
theorem mL_isRefused_380_s (n : Nat) (k : Nat) (y55 : Int32) (y56 : Int32) (y57 : Int64) (y58 : Int32) (y59 : Int32) (σ : lw_S) : mL_isRefused_380 n (k + 1) y55 y56 y57 y58 y59 σ = ((if 14 ≤ y59 then (mL_isRefused_457 n 12 y55 y57 y58 0 σ) else (if y58 = 0 then (mL_isRefused_457 n 12 y55 y57 y58 0 σ) else ej_bi (mL_of n y59 y56 0 σ) fun r82 s83 => (if r82 = (-1181) then (if y59 = 3 then (mL_isRefused_426 n (mL_isRefused_380 n k) y55 y56 y57 y59 s83) else (if y59 = 4 then (mL_isRefused_426 n (mL_isRefused_380 n k) y55 y56 y57 y59 s83) else (if y59 = 12 then (mL_isRefused_426 n (mL_isRefused_380 n k) y55 y56 y57 y59 s83) else ej_nm (y59 + 1) fun x93 => ((mL_isRefused_380 n k) y55 y56 y57 1 x93 s83)))) else ej_nm (y59 + 1) fun x84 => ((mL_isRefused_380 n k) y55 y56 y57 0 x84 s83)))) : Option (Int32 × lw_S)) := rfl
set_option maxRecDepth 20000 in
set_option maxHeartbeats 2000000 in
theorem jL_isRefused_380 (x : lw_T) (n : Nat) {r0 : Int32 × lw_S} : ∀ (k : Nat) {F : ej_F} (hq : ej_finR x F (some .boolean) (some (.int r0.1)) r0.2 []) (hu : ej_bud F (72 + 4 * k)) (y55 : Int32) (y56 : Int32) (y57 : Int64) (y58 : Int32) (y59 : Int32) (σ : lw_S), ej_J (lV x) F iL_isRefused r0 σ 380 [(0, .ref (cw_a x.1 0)), (1, .ref (cw_a x.1 212)), (2, .int y55), (4, .int y56), (7, .long y57), (9, .int y58), (10, .int y59)] [] (mL_isRefused_380 n k y55 y56 y57 y58 y59 σ) := by
  intro k
  induction k with
  | zero => intro F hq hu y55 y56 y57 y58 y59 σ; exact j_none
  | succ k ih =>
    intro F hq hu y55 y56 y57 y58 y59 σ
    rw [mL_isRefused_380_s]
    refine j_iload 6 rfl dL_isRefused_380 ?_
    refine j_bipush dL_isRefused_382 ejb_14 ?_
    refine j_icmp_ge dL_isRefused_384 ?_ ?_
    · refine j_iconst dL_isRefused_454 ejc_0 ?_
      refine j_istore (i := 10) (L' := [(10, .int 0), (0, .ref (cw_a x.1 0)), (1, .ref (cw_a x.1 212)), (2, .int y55), (4, .int y56), (7, .long y57), (9, .int y58)]) dL_isRefused_455 (Nat.le_of_ble_eq_true rfl) rfl ?_
      exact j_sub [1, 2, 3, 5, 6, 0] rfl (jL_isRefused_457 x n 12 hq (ej_budw hu (by omega)) y55 y57 y58 0 σ)
    · refine j_iload 5 rfl dL_isRefused_387 ?_
      refine j_if_eq dL_isRefused_389 ?_ ?_
      · refine j_iconst dL_isRefused_454 ejc_0 ?_
        refine j_istore (i := 10) (L' := [(10, .int 0), (0, .ref (cw_a x.1 0)), (1, .ref (cw_a x.1 212)), (2, .int y55), (4, .int y56), (7, .long y57), (9, .int y58)]) dL_isRefused_455 (Nat.le_of_ble_eq_true rfl) rfl ?_
        exact j_sub [1, 2, 3, 5, 6, 0] rfl (jL_isRefused_457 x n 12 hq (ej_budw hu (by omega)) y55 y57 y58 0 σ)
      · refine j_aload_n 0 rfl dL_isRefused_392 ?_
        refine j_iload 6 rfl dL_isRefused_393 ?_
        refine j_iload 3 rfl dL_isRefused_395 ?_
        refine j_iconst dL_isRefused_397 ejc_0 ?_
        refine jb_callXi (c := 2) (kL_of x n y59 y56 0 σ) lx_L_167 ⟨Nat.le_of_ble_eq_true rfl, Nat.le_of_ble_eq_true rfl⟩ dL_isRefused_398 rfl (Nat.le_of_ble_eq_true rfl) hu (by omega) (fun r82 s83 => ?_)
        refine j_sipush dL_isRefused_401 ejs_m1181 ?_
        refine j_icmp_ne dL_isRefused_404 ?_ ?_
        · refine j_iconst dL_isRefused_445 ejc_0 ?_
          refine j_istore (i := 9) (L' := [(9, .int 0), (0, .ref (cw_a x.1 0)), (1, .ref (cw_a x.1 212)), (2, .int y55), (4, .int y56), (7, .long y57), (10, .int y59)]) dL_isRefused_446 (Nat.le_of_ble_eq_true rfl) rfl ?_
          refine j_iinc (i := 10) (v := 1) (Ly := fun x84 => [(10, .int x84), (9, .int 0), (0, .ref (cw_a x.1 0)), (1, .ref (cw_a x.1 212)), (2, .int y55), (4, .int y56), (7, .long y57)]) 6 dL_isRefused_448 rfl ejc_1 (Nat.le_of_ble_eq_true rfl) (fun _ => rfl) (fun x84 => ?_)
          refine j_goto dL_isRefused_451 ?_
          exact j_sub [2, 3, 4, 5, 6, 1, 0] rfl (ih (ej_finRu _ _ hq) (ej_budw (ej_budu 2 hu (by omega)) (by omega)) y55 y56 y57 0 x84 s83)
        · refine j_iload 6 rfl dL_isRefused_407 ?_
          refine j_iconst dL_isRefused_409 ejc_3 ?_
          refine j_icmp_eq dL_isRefused_410 ?_ ?_
          · exact j_sub [0, 1, 2, 3, 4, 6] rfl (jL_isRefused_426 x n (mL_isRefused_380 n k) (72 + 4 * k) ih (ej_finRu _ _ hq) (ej_budw (ej_budu 2 hu (by omega)) (by omega)) y55 y56 y57 y59 s83)
          · refine j_iload 6 rfl dL_isRefused_413 ?_
            refine j_iconst dL_isRefused_415 ejc_4 ?_
            refine j_icmp_eq dL_isRefused_416 ?_ ?_
            · exact j_sub [0, 1, 2, 3, 4, 6] rfl (jL_isRefused_426 x n (mL_isRefused_380 n k) (72 + 4 * k) ih (ej_finRu _ _ hq) (ej_budw (ej_budu 2 hu (by omega)) (by omega)) y55 y56 y57 y59 s83)
            · refine j_iload 6 rfl dL_isRefused_419 ?_
              refine j_bipush dL_isRefused_421 ejb_12 ?_
              refine j_icmp_ne dL_isRefused_423 ?_ ?_
              · refine j_iconst dL_isRefused_441 ejc_1 ?_
                refine j_goto dL_isRefused_442 ?_
                refine j_istore (i := 9) (L' := [(9, .int 1), (0, .ref (cw_a x.1 0)), (1, .ref (cw_a x.1 212)), (2, .int y55), (4, .int y56), (7, .long y57), (10, .int y59)]) dL_isRefused_446 (Nat.le_of_ble_eq_true rfl) rfl ?_
                refine j_iinc (i := 10) (v := 1) (Ly := fun x93 => [(10, .int x93), (9, .int 1), (0, .ref (cw_a x.1 0)), (1, .ref (cw_a x.1 212)), (2, .int y55), (4, .int y56), (7, .long y57)]) 6 dL_isRefused_448 rfl ejc_1 (Nat.le_of_ble_eq_true rfl) (fun _ => rfl) (fun x93 => ?_)
                refine j_goto dL_isRefused_451 ?_
                exact j_sub [2, 3, 4, 5, 6, 1, 0] rfl (ih (ej_finRu _ _ hq) (ej_budw (ej_budu 2 hu (by omega)) (by omega)) y55 y56 y57 1 x93 s83)
              · exact j_sub [0, 1, 2, 3, 4, 6] rfl (jL_isRefused_426 x n (mL_isRefused_380 n k) (72 + 4 * k) ih (ej_finRu _ _ hq) (ej_budw (ej_budu 2 hu (by omega)) (by omega)) y55 y56 y57 y59 s83)
noncomputable def mL_isRefused_322 (n : Nat) (y49 : Int32) (y50 : Int32) (y51 : Int64) (y52 : Int32) (σ : lw_S) : Option (Int32 × lw_S) := ej_bi (mL_act n 0 1481452343 4 σ) fun r53 s54 => (if y52 = 0 then (mL_isRefused_380 n 16 y49 y50 y51 0 0 s54) else ej_bi (mL_act n 3 0 0 s54) fun r94 s95 => (if r94 = (-1183) then ej_bi (ej_lc (m10_fault n 0 s95.1) s95) fun r96 s97 => (if r96 = 3 then ej_bi (ej_lc (m10_fault n 1 s97.1) s97) fun r98 s99 => (if r98 = 2 then (mL_isRefused_380 n 16 y49 y50 y51 1 0 s99) else (mL_isRefused_380 n 16 y49 y50 y51 0 0 s99)) else (mL_isRefused_380 n 16 y49 y50 y51 0 0 s97)) else (mL_isRefused_380 n 16 y49 y50 y51 0 0 s95)))
set_option maxRecDepth 20000 in
set_option maxHeartbeats 2000000 in
theorem jL_isRefused_322 (x : lw_T) (n : Nat) {r0 : Int32 × lw_S} {F : ej_F} (hq : ej_finR x F (some .boolean) (some (.int r0.1)) r0.2 []) (hu : ej_bud F (138)) (y49 : Int32) (y50 : Int32) (y51 : Int64) (y52 : Int32) (σ : lw_S) : ej_J (lV x) F iL_isRefused r0 σ 322 [(0, .ref (cw_a x.1 0)), (1, .ref (cw_a x.1 212)), (2, .int y49), (4, .int y50), (7, .long y51)] [.int y52] (mL_isRefused_322 n y49 y50 y51 y52 σ) := by
  unfold mL_isRefused_322
  refine j_istore (i := 9) (L' := [(9, .int y52), (0, .ref (cw_a x.1 0)), (1, .ref (cw_a x.1 212)), (2, .int y49), (4, .int y50), (7, .long y51)]) dL_isRefused_322 (Nat.le_of_ble_eq_true rfl) rfl ?_
  refine j_aload_n 1 rfl dL_isRefused_324 ?_
  refine j_iconst dL_isRefused_325 ejc_0 ?_
  refine j_ldc2 dL_isRefused_326 kl_L_165 ?_
  refine j_iconst dL_isRefused_329 ejc_4 ?_
  refine jb_callXi (c := 1) (kL_act x n 0 1481452343 4 σ) lx_L_80 ⟨Nat.le_of_ble_eq_true rfl, Nat.le_of_ble_eq_true rfl⟩ dL_isRefused_330 rfl (Nat.le_of_ble_eq_true rfl) hu (by omega) (fun r53 s54 => ?_)
  refine j_pop dL_isRefused_333 rfl ?_
  refine j_iload 0 rfl dL_isRefused_334 ?_
  refine j_if_eq dL_isRefused_336 ?_ ?_
  · refine j_iconst dL_isRefused_374 ejc_0 ?_
    refine j_istore (i := 9) (L' := [(9, .int 0), (0, .ref (cw_a x.1 0)), (1, .ref (cw_a x.1 212)), (2, .int y49), (4, .int y50), (7, .long y51)]) dL_isRefused_375 (Nat.le_of_ble_eq_true rfl) rfl ?_
    refine j_iconst dL_isRefused_377 ejc_0 ?_
    refine j_istore (i := 10) (L' := [(10, .int 0), (9, .int 0), (0, .ref (cw_a x.1 0)), (1, .ref (cw_a x.1 212)), (2, .int y49), (4, .int y50), (7, .long y51)]) dL_isRefused_378 (Nat.le_of_ble_eq_true rfl) rfl ?_
    exact j_sub [2, 3, 4, 5, 6, 1, 0] rfl (jL_isRefused_380 x n 16 (ej_finRu _ _ hq) (ej_budw (ej_budu 1 hu (by omega)) (by omega)) y49 y50 y51 0 0 s54)
  · refine j_aload_n 1 rfl dL_isRefused_339 ?_
    refine j_iconst dL_isRefused_340 ejc_3 ?_
    refine j_lconst dL_isRefused_341 ejl_0 ?_
    refine j_iconst dL_isRefused_342 ejc_0 ?_
    refine jb_callXi (c := 1) (kL_act x n 3 0 0 s54) lx_L_80 ⟨Nat.le_of_ble_eq_true rfl, Nat.le_of_ble_eq_true rfl⟩ dL_isRefused_343 rfl (Nat.le_of_ble_eq_true rfl) (ej_budu 1 hu (by omega)) (by omega) (fun r94 s95 => ?_)
    refine j_sipush dL_isRefused_346 ejs_m1183 ?_
    refine j_icmp_ne dL_isRefused_349 ?_ ?_
    · refine j_iconst dL_isRefused_374 ejc_0 ?_
      refine j_istore (i := 9) (L' := [(9, .int 0), (0, .ref (cw_a x.1 0)), (1, .ref (cw_a x.1 212)), (2, .int y49), (4, .int y50), (7, .long y51)]) dL_isRefused_375 (Nat.le_of_ble_eq_true rfl) rfl ?_
      refine j_iconst dL_isRefused_377 ejc_0 ?_
      refine j_istore (i := 10) (L' := [(10, .int 0), (9, .int 0), (0, .ref (cw_a x.1 0)), (1, .ref (cw_a x.1 212)), (2, .int y49), (4, .int y50), (7, .long y51)]) dL_isRefused_378 (Nat.le_of_ble_eq_true rfl) rfl ?_
      exact j_sub [2, 3, 4, 5, 6, 1, 0] rfl (jL_isRefused_380 x n 16 (ej_finRu _ _ (ej_finRu _ _ hq)) (ej_budw (ej_budu 1 (ej_budu 1 hu (by omega)) (by omega)) (by omega)) y49 y50 y51 0 0 s95)
    · refine j_aload_n 1 rfl dL_isRefused_352 ?_
      refine j_iconst dL_isRefused_353 ejc_0 ?_
      refine j_callVi (fun z1 z2 z3 z4 => lc_con (f := fun r => some (.int r)) (fun z5 z6 z7 => c10_fault x.1 n 0 s95.1 z5 z6 z7 z4) z1 z2 z3) lv_L_151 (lV_rc_0 x s95) ⟨Nat.le_of_ble_eq_true rfl, Nat.le_of_ble_eq_true rfl⟩ dL_isRefused_354 rfl (Nat.le_of_ble_eq_true rfl) (fun r96 s97 => ?_)
      refine j_iconst dL_isRefused_357 ejc_3 ?_
      refine j_icmp_ne dL_isRefused_358 ?_ ?_
      · refine j_iconst dL_isRefused_374 ejc_0 ?_
        refine j_istore (i := 9) (L' := [(9, .int 0), (0, .ref (cw_a x.1 0)), (1, .ref (cw_a x.1 212)), (2, .int y49), (4, .int y50), (7, .long y51)]) dL_isRefused_375 (Nat.le_of_ble_eq_true rfl) rfl ?_
        refine j_iconst dL_isRefused_377 ejc_0 ?_
        refine j_istore (i := 10) (L' := [(10, .int 0), (9, .int 0), (0, .ref (cw_a x.1 0)), (1, .ref (cw_a x.1 212)), (2, .int y49), (4, .int y50), (7, .long y51)]) dL_isRefused_378 (Nat.le_of_ble_eq_true rfl) rfl ?_
        exact j_sub [2, 3, 4, 5, 6, 1, 0] rfl (jL_isRefused_380 x n 16 (ej_finRu _ _ (ej_finRu _ _ hq)) (ej_budw (ej_budu 1 (ej_budu 1 hu (by omega)) (by omega)) (by omega)) y49 y50 y51 0 0 s97)
      · refine j_aload_n 1 rfl dL_isRefused_361 ?_
        refine j_iconst dL_isRefused_362 ejc_1 ?_
        refine j_callVi (fun z1 z2 z3 z4 => lc_con (f := fun r => some (.int r)) (fun z5 z6 z7 => c10_fault x.1 n 1 s97.1 z5 z6 z7 z4) z1 z2 z3) lv_L_151 (lV_rc_0 x s97) ⟨Nat.le_of_ble_eq_true rfl, Nat.le_of_ble_eq_true rfl⟩ dL_isRefused_363 rfl (Nat.le_of_ble_eq_true rfl) (fun r98 s99 => ?_)
        refine j_iconst dL_isRefused_366 ejc_2 ?_
        refine j_icmp_ne dL_isRefused_367 ?_ ?_
        · refine j_iconst dL_isRefused_374 ejc_0 ?_
          refine j_istore (i := 9) (L' := [(9, .int 0), (0, .ref (cw_a x.1 0)), (1, .ref (cw_a x.1 212)), (2, .int y49), (4, .int y50), (7, .long y51)]) dL_isRefused_375 (Nat.le_of_ble_eq_true rfl) rfl ?_
          refine j_iconst dL_isRefused_377 ejc_0 ?_
          refine j_istore (i := 10) (L' := [(10, .int 0), (9, .int 0), (0, .ref (cw_a x.1 0)), (1, .ref (cw_a x.1 212)), (2, .int y49), (4, .int y50), (7, .long y51)]) dL_isRefused_378 (Nat.le_of_ble_eq_true rfl) rfl ?_
          exact j_sub [2, 3, 4, 5, 6, 1, 0] rfl (jL_isRefused_380 x n 16 (ej_finRu _ _ (ej_finRu _ _ hq)) (ej_budw (ej_budu 1 (ej_budu 1 hu (by omega)) (by omega)) (by omega)) y49 y50 y51 0 0 s99)
        · refine j_iconst dL_isRefused_370 ejc_1 ?_
          refine j_goto dL_isRefused_371 ?_
          refine j_istore (i := 9) (L' := [(9, .int 1), (0, .ref (cw_a x.1 0)), (1, .ref (cw_a x.1 212)), (2, .int y49), (4, .int y50), (7, .long y51)]) dL_isRefused_375 (Nat.le_of_ble_eq_true rfl) rfl ?_
          refine j_iconst dL_isRefused_377 ejc_0 ?_
          refine j_istore (i := 10) (L' := [(10, .int 0), (9, .int 1), (0, .ref (cw_a x.1 0)), (1, .ref (cw_a x.1 212)), (2, .int y49), (4, .int y50), (7, .long y51)]) dL_isRefused_378 (Nat.le_of_ble_eq_true rfl) rfl ?_
          exact j_sub [2, 3, 4, 5, 6, 1, 0] rfl (jL_isRefused_380 x n 16 (ej_finRu _ _ (ej_finRu _ _ hq)) (ej_budw (ej_budu 1 (ej_budu 1 hu (by omega)) (by omega)) (by omega)) y49 y50 y51 1 0 s99)
noncomputable def mL_isRefused_269 (n : Nat) (y43 : Int32) (y44 : Int32) (y45 : Int64) (y46 : Int32) (σ : lw_S) : Option (Int32 × lw_S) := ej_bi (mL_act n 0 808400168 4 σ) fun r47 s48 => (if y46 = 0 then (mL_isRefused_322 n y43 y44 y45 0 s48) else ej_bi (mL_act n 3 0 0 s48) fun r100 s101 => (if r100 = (-1183) then ej_bi (ej_lc (m10_fault n 0 s101.1) s101) fun r102 s103 => (if r102 = 4 then ej_bi (ej_lc (m10_fault n 1 s103.1) s103) fun r104 s105 => (if r104 = 2 then (mL_isRefused_322 n y43 y44 y45 1 s105) else (mL_isRefused_322 n y43 y44 y45 0 s105)) else (mL_isRefused_322 n y43 y44 y45 0 s103)) else (mL_isRefused_322 n y43 y44 y45 0 s101)))
set_option maxRecDepth 20000 in
set_option maxHeartbeats 2000000 in
theorem jL_isRefused_269 (x : lw_T) (n : Nat) {r0 : Int32 × lw_S} {F : ej_F} (hq : ej_finR x F (some .boolean) (some (.int r0.1)) r0.2 []) (hu : ej_bud F (140)) (y43 : Int32) (y44 : Int32) (y45 : Int64) (y46 : Int32) (σ : lw_S) : ej_J (lV x) F iL_isRefused r0 σ 269 [(0, .ref (cw_a x.1 0)), (1, .ref (cw_a x.1 212)), (2, .int y43), (4, .int y44), (7, .long y45)] [.int y46] (mL_isRefused_269 n y43 y44 y45 y46 σ) := by
  unfold mL_isRefused_269
  refine j_istore (i := 9) (L' := [(9, .int y46), (0, .ref (cw_a x.1 0)), (1, .ref (cw_a x.1 212)), (2, .int y43), (4, .int y44), (7, .long y45)]) dL_isRefused_269 (Nat.le_of_ble_eq_true rfl) rfl ?_
  refine j_aload_n 1 rfl dL_isRefused_271 ?_
  refine j_iconst dL_isRefused_272 ejc_0 ?_
  refine j_ldc2 dL_isRefused_273 kl_L_163 ?_
  refine j_iconst dL_isRefused_276 ejc_4 ?_
  refine jb_callXi (c := 1) (kL_act x n 0 808400168 4 σ) lx_L_80 ⟨Nat.le_of_ble_eq_true rfl, Nat.le_of_ble_eq_true rfl⟩ dL_isRefused_277 rfl (Nat.le_of_ble_eq_true rfl) hu (by omega) (fun r47 s48 => ?_)
  refine j_pop dL_isRefused_280 rfl ?_
  refine j_iload 0 rfl dL_isRefused_281 ?_
  refine j_if_eq dL_isRefused_283 ?_ ?_
  · refine j_iconst dL_isRefused_321 ejc_0 ?_
    exact j_sub [1, 2, 3, 4, 5] rfl (jL_isRefused_322 x n (ej_finRu _ _ hq) (ej_budw (ej_budu 1 hu (by omega)) (by omega)) y43 y44 y45 0 s48)
  · refine j_aload_n 1 rfl dL_isRefused_286 ?_
    refine j_iconst dL_isRefused_287 ejc_3 ?_
    refine j_lconst dL_isRefused_288 ejl_0 ?_
    refine j_iconst dL_isRefused_289 ejc_0 ?_
    refine jb_callXi (c := 1) (kL_act x n 3 0 0 s48) lx_L_80 ⟨Nat.le_of_ble_eq_true rfl, Nat.le_of_ble_eq_true rfl⟩ dL_isRefused_290 rfl (Nat.le_of_ble_eq_true rfl) (ej_budu 1 hu (by omega)) (by omega) (fun r100 s101 => ?_)
    refine j_sipush dL_isRefused_293 ejs_m1183 ?_
    refine j_icmp_ne dL_isRefused_296 ?_ ?_
    · refine j_iconst dL_isRefused_321 ejc_0 ?_
      exact j_sub [1, 2, 3, 4, 5] rfl (jL_isRefused_322 x n (ej_finRu _ _ (ej_finRu _ _ hq)) (ej_budw (ej_budu 1 (ej_budu 1 hu (by omega)) (by omega)) (by omega)) y43 y44 y45 0 s101)
    · refine j_aload_n 1 rfl dL_isRefused_299 ?_
      refine j_iconst dL_isRefused_300 ejc_0 ?_
      refine j_callVi (fun z1 z2 z3 z4 => lc_con (f := fun r => some (.int r)) (fun z5 z6 z7 => c10_fault x.1 n 0 s101.1 z5 z6 z7 z4) z1 z2 z3) lv_L_151 (lV_rc_0 x s101) ⟨Nat.le_of_ble_eq_true rfl, Nat.le_of_ble_eq_true rfl⟩ dL_isRefused_301 rfl (Nat.le_of_ble_eq_true rfl) (fun r102 s103 => ?_)
      refine j_iconst dL_isRefused_304 ejc_4 ?_
      refine j_icmp_ne dL_isRefused_305 ?_ ?_
      · refine j_iconst dL_isRefused_321 ejc_0 ?_
        exact j_sub [1, 2, 3, 4, 5] rfl (jL_isRefused_322 x n (ej_finRu _ _ (ej_finRu _ _ hq)) (ej_budw (ej_budu 1 (ej_budu 1 hu (by omega)) (by omega)) (by omega)) y43 y44 y45 0 s103)
      · refine j_aload_n 1 rfl dL_isRefused_308 ?_
        refine j_iconst dL_isRefused_309 ejc_1 ?_
        refine j_callVi (fun z1 z2 z3 z4 => lc_con (f := fun r => some (.int r)) (fun z5 z6 z7 => c10_fault x.1 n 1 s103.1 z5 z6 z7 z4) z1 z2 z3) lv_L_151 (lV_rc_0 x s103) ⟨Nat.le_of_ble_eq_true rfl, Nat.le_of_ble_eq_true rfl⟩ dL_isRefused_310 rfl (Nat.le_of_ble_eq_true rfl) (fun r104 s105 => ?_)
        refine j_iconst dL_isRefused_313 ejc_2 ?_
        refine j_icmp_ne dL_isRefused_314 ?_ ?_
        · refine j_iconst dL_isRefused_321 ejc_0 ?_
          exact j_sub [1, 2, 3, 4, 5] rfl (jL_isRefused_322 x n (ej_finRu _ _ (ej_finRu _ _ hq)) (ej_budw (ej_budu 1 (ej_budu 1 hu (by omega)) (by omega)) (by omega)) y43 y44 y45 0 s105)
        · refine j_iconst dL_isRefused_317 ejc_1 ?_
          refine j_goto dL_isRefused_318 ?_
          exact j_sub [1, 2, 3, 4, 5] rfl (jL_isRefused_322 x n (ej_finRu _ _ (ej_finRu _ _ hq)) (ej_budw (ej_budu 1 (ej_budu 1 hu (by omega)) (by omega)) (by omega)) y43 y44 y45 1 s105)
noncomputable def mL_isRefused_218 (n : Nat) (y36 : Int32) (y37 : Int32) (y38 : Int32) (y39 : Int64) (y40 : Int32) (y41 : Int32) (σ : lw_S) : Option (Int32 × lw_S) := ej_bv (mL_says n y41 σ) fun s42 => (if y40 = 0 then (mL_isRefused_269 n y36 y37 y39 0 s42) else ej_bi (mL_act n 1 0 ((y36 / 2) - (y36 / 2) / 4 * 4) s42) fun r106 s107 => (if r106 = (-1183) then ej_bi (ej_lc (m10_fault n 0 s107.1) s107) fun r108 s109 => (if r108 = 1 then ej_bi (ej_lc (m10_fault n 1 s109.1) s109) fun r110 s111 => (if r110 = 4 * y38 then (mL_isRefused_269 n y36 y37 y39 1 s111) else (mL_isRefused_269 n y36 y37 y39 0 s111)) else (mL_isRefused_269 n y36 y37 y39 0 s109)) else (mL_isRefused_269 n y36 y37 y39 0 s107)))
set_option maxRecDepth 20000 in
set_option maxHeartbeats 2000000 in
theorem jL_isRefused_218 (x : lw_T) (n : Nat) {r0 : Int32 × lw_S} {F : ej_F} (hq : ej_finR x F (some .boolean) (some (.int r0.1)) r0.2 []) (hu : ej_bud F (142)) (y36 : Int32) (y37 : Int32) (y38 : Int32) (y39 : Int64) (y40 : Int32) (y41 : Int32) (σ : lw_S) : ej_J (lV x) F iL_isRefused r0 σ 218 [(0, .ref (cw_a x.1 0)), (1, .ref (cw_a x.1 212)), (2, .int y36), (4, .int y37), (6, .int y38), (7, .long y39), (9, .int y40)] [.int y41, .ref (cw_a x.1 0)] (mL_isRefused_218 n y36 y37 y38 y39 y40 y41 σ) := by
  unfold mL_isRefused_218
  refine jb_callSv (c := 1) (kL_says x n y41 σ) ls_L_87 ⟨Nat.le_of_ble_eq_true rfl, Nat.le_of_ble_eq_true rfl⟩ dL_isRefused_218 rfl (Nat.le_of_ble_eq_true rfl) hu (by omega) (fun s42 => ?_)
  refine j_iload 6 rfl dL_isRefused_221 ?_
  refine j_if_eq dL_isRefused_223 ?_ ?_
  · refine j_iconst dL_isRefused_268 ejc_0 ?_
    exact j_sub [0, 1, 2, 3, 5] rfl (jL_isRefused_269 x n (ej_finRu _ _ hq) (ej_budw (ej_budu 1 hu (by omega)) (by omega)) y36 y37 y39 0 s42)
  · refine j_aload_n 0 rfl dL_isRefused_226 ?_
    refine j_iconst dL_isRefused_227 ejc_1 ?_
    refine j_lconst dL_isRefused_228 ejl_0 ?_
    refine j_iload_n 2 rfl dL_isRefused_229 ?_
    refine j_iconst dL_isRefused_230 ejc_2 ?_
    refine j_idiv0 (by decide) dL_isRefused_231 ?_
    refine j_iconst dL_isRefused_232 ejc_4 ?_
    refine j_irem0 (by decide) dL_isRefused_233 ?_
    refine jb_callXi (c := 1) (kL_act x n 1 0 ((y36 / 2) - (y36 / 2) / 4 * 4) s42) lx_L_80 ⟨Nat.le_of_ble_eq_true rfl, Nat.le_of_ble_eq_true rfl⟩ dL_isRefused_234 rfl (Nat.le_of_ble_eq_true rfl) (ej_budu 1 hu (by omega)) (by omega) (fun r106 s107 => ?_)
    refine j_sipush dL_isRefused_237 ejs_m1183 ?_
    refine j_icmp_ne dL_isRefused_240 ?_ ?_
    · refine j_iconst dL_isRefused_268 ejc_0 ?_
      exact j_sub [0, 1, 2, 3, 5] rfl (jL_isRefused_269 x n (ej_finRu _ _ (ej_finRu _ _ hq)) (ej_budw (ej_budu 1 (ej_budu 1 hu (by omega)) (by omega)) (by omega)) y36 y37 y39 0 s107)
    · refine j_aload_n 0 rfl dL_isRefused_243 ?_
      refine j_iconst dL_isRefused_244 ejc_0 ?_
      refine j_callVi (fun z1 z2 z3 z4 => lc_con (f := fun r => some (.int r)) (fun z5 z6 z7 => c10_fault x.1 n 0 s107.1 z5 z6 z7 z4) z1 z2 z3) lv_L_151 (lV_rc_0 x s107) ⟨Nat.le_of_ble_eq_true rfl, Nat.le_of_ble_eq_true rfl⟩ dL_isRefused_245 rfl (Nat.le_of_ble_eq_true rfl) (fun r108 s109 => ?_)
      refine j_iconst dL_isRefused_248 ejc_1 ?_
      refine j_icmp_ne dL_isRefused_249 ?_ ?_
      · refine j_iconst dL_isRefused_268 ejc_0 ?_
        exact j_sub [0, 1, 2, 3, 5] rfl (jL_isRefused_269 x n (ej_finRu _ _ (ej_finRu _ _ hq)) (ej_budw (ej_budu 1 (ej_budu 1 hu (by omega)) (by omega)) (by omega)) y36 y37 y39 0 s109)
      · refine j_aload_n 0 rfl dL_isRefused_252 ?_
        refine j_iconst dL_isRefused_253 ejc_1 ?_
        refine j_callVi (fun z1 z2 z3 z4 => lc_con (f := fun r => some (.int r)) (fun z5 z6 z7 => c10_fault x.1 n 1 s109.1 z5 z6 z7 z4) z1 z2 z3) lv_L_151 (lV_rc_0 x s109) ⟨Nat.le_of_ble_eq_true rfl, Nat.le_of_ble_eq_true rfl⟩ dL_isRefused_254 rfl (Nat.le_of_ble_eq_true rfl) (fun r110 s111 => ?_)
        refine j_iconst dL_isRefused_257 ejc_4 ?_
        refine j_iload 4 rfl dL_isRefused_258 ?_
        refine j_imul dL_isRefused_260 ?_
        refine j_icmp_ne dL_isRefused_261 ?_ ?_
        · refine j_iconst dL_isRefused_268 ejc_0 ?_
          exact j_sub [0, 1, 2, 3, 5] rfl (jL_isRefused_269 x n (ej_finRu _ _ (ej_finRu _ _ hq)) (ej_budw (ej_budu 1 (ej_budu 1 hu (by omega)) (by omega)) (by omega)) y36 y37 y39 0 s111)
        · refine j_iconst dL_isRefused_264 ejc_1 ?_
          refine j_goto dL_isRefused_265 ?_
          exact j_sub [0, 1, 2, 3, 5] rfl (jL_isRefused_269 x n (ej_finRu _ _ (ej_finRu _ _ hq)) (ej_budw (ej_budu 1 (ej_budu 1 hu (by omega)) (by omega)) (by omega)) y36 y37 y39 1 s111)
noncomputable def mL_isRefused_169 (n : Nat) (k : Nat) : Int32 → Int32 → Int32 → Int64 → Int32 → Int32 → lw_S → Option (Int32 × lw_S) := Nat.rec (motive := fun _ => Int32 → Int32 → Int32 → Int64 → Int32 → Int32 → lw_S → Option (Int32 × lw_S)) (fun _ _ _ _ _ _ _ => none) (fun _ ih y30 y31 y32 y33 y34 y35 σ => (if y32 ≤ y35 then (if y30 - y30 / 3 * 3 = 0 then (mL_isRefused_218 n y30 y31 y32 y33 y34 36 σ) else (if y30 - y30 / 3 * 3 = 1 then (mL_isRefused_218 n y30 y31 y32 y33 y34 125 σ) else (mL_isRefused_218 n y30 y31 y32 y33 y34 53 σ))) else ej_bi (mL_act n 0 996286561 4 σ) fun r112 s113 => ej_nm (y35 + 1) fun x114 => (ih y30 y31 y32 y33 y34 x114 s113))) k
theorem mL_isRefused_169_s (n : Nat) (k : Nat) (y30 : Int32) (y31 : Int32) (y32 : Int32) (y33 : Int64) (y34 : Int32) (y35 : Int32) (σ : lw_S) : mL_isRefused_169 n (k + 1) y30 y31 y32 y33 y34 y35 σ = ((if y32 ≤ y35 then (if y30 - y30 / 3 * 3 = 0 then (mL_isRefused_218 n y30 y31 y32 y33 y34 36 σ) else (if y30 - y30 / 3 * 3 = 1 then (mL_isRefused_218 n y30 y31 y32 y33 y34 125 σ) else (mL_isRefused_218 n y30 y31 y32 y33 y34 53 σ))) else ej_bi (mL_act n 0 996286561 4 σ) fun r112 s113 => ej_nm (y35 + 1) fun x114 => ((mL_isRefused_169 n k) y30 y31 y32 y33 y34 x114 s113)) : Option (Int32 × lw_S)) := rfl
set_option maxRecDepth 20000 in
set_option maxHeartbeats 2000000 in
theorem jL_isRefused_169 (x : lw_T) (n : Nat) {r0 : Int32 × lw_S} : ∀ (k : Nat) {F : ej_F} (hq : ej_finR x F (some .boolean) (some (.int r0.1)) r0.2 []) (hu : ej_bud F (142 + 1 * k)) (y30 : Int32) (y31 : Int32) (y32 : Int32) (y33 : Int64) (y34 : Int32) (y35 : Int32) (σ : lw_S), ej_J (lV x) F iL_isRefused r0 σ 169 [(0, .ref (cw_a x.1 0)), (1, .ref (cw_a x.1 212)), (2, .int y30), (4, .int y31), (6, .int y32), (7, .long y33), (9, .int y34), (10, .int y35)] [] (mL_isRefused_169 n k y30 y31 y32 y33 y34 y35 σ) := by
  intro k
  induction k with
  | zero => intro F hq hu y30 y31 y32 y33 y34 y35 σ; exact j_none
  | succ k ih =>
    intro F hq hu y30 y31 y32 y33 y34 y35 σ
    rw [mL_isRefused_169_s]
    refine j_iload 7 rfl dL_isRefused_169 ?_
    refine j_iload 4 rfl dL_isRefused_171 ?_
    refine j_icmp_ge dL_isRefused_173 ?_ ?_
    · refine j_aload_n 0 rfl dL_isRefused_192 ?_
      refine j_iload_n 2 rfl dL_isRefused_193 ?_
      refine j_iconst dL_isRefused_194 ejc_3 ?_
      refine j_irem0 (by decide) dL_isRefused_195 ?_
      refine j_if_ne dL_isRefused_196 ?_ ?_
      · refine j_iload_n 2 rfl dL_isRefused_204 ?_
        refine j_iconst dL_isRefused_205 ejc_3 ?_
        refine j_irem0 (by decide) dL_isRefused_206 ?_
        refine j_iconst dL_isRefused_207 ejc_1 ?_
        refine j_icmp_ne dL_isRefused_208 ?_ ?_
        · refine j_bipush dL_isRefused_216 ejb_53 ?_
          exact j_sub [0, 1, 2, 3, 4, 5, 6] rfl (jL_isRefused_218 x n hq (ej_budw hu (by omega)) y30 y31 y32 y33 y34 53 σ)
        · refine j_bipush dL_isRefused_211 ejb_125 ?_
          refine j_goto dL_isRefused_213 ?_
          exact j_sub [0, 1, 2, 3, 4, 5, 6] rfl (jL_isRefused_218 x n hq (ej_budw hu (by omega)) y30 y31 y32 y33 y34 125 σ)
      · refine j_bipush dL_isRefused_199 ejb_36 ?_
        refine j_goto dL_isRefused_201 ?_
        exact j_sub [0, 1, 2, 3, 4, 5, 6] rfl (jL_isRefused_218 x n hq (ej_budw hu (by omega)) y30 y31 y32 y33 y34 36 σ)
    · refine j_aload_n 0 rfl dL_isRefused_176 ?_
      refine j_iconst dL_isRefused_177 ejc_0 ?_
      refine j_ldc2 dL_isRefused_178 kl_L_161 ?_
      refine j_iconst dL_isRefused_181 ejc_4 ?_
      refine jb_callXi (c := 1) (kL_act x n 0 996286561 4 σ) lx_L_80 ⟨Nat.le_of_ble_eq_true rfl, Nat.le_of_ble_eq_true rfl⟩ dL_isRefused_182 rfl (Nat.le_of_ble_eq_true rfl) hu (by omega) (fun r112 s113 => ?_)
      refine j_pop dL_isRefused_185 rfl ?_
      refine j_iinc (i := 10) (v := 1) (Ly := fun x114 => [(10, .int x114), (0, .ref (cw_a x.1 0)), (1, .ref (cw_a x.1 212)), (2, .int y30), (4, .int y31), (6, .int y32), (7, .long y33), (9, .int y34)]) 7 dL_isRefused_186 rfl ejc_1 (Nat.le_of_ble_eq_true rfl) (fun _ => rfl) (fun x114 => ?_)
      refine j_goto dL_isRefused_189 ?_
      exact j_sub [1, 2, 3, 4, 5, 6, 7, 0] rfl (ih (ej_finRu _ _ hq) (ej_budw (ej_budu 1 hu (by omega)) (by omega)) y30 y31 y32 y33 y34 x114 s113)
noncomputable def mL_isRefused_119 (n : Nat) (y23 : Int32) (y24 : Int32) (y25 : Int32) (y26 : Int32) (y27 : Int64) (y28 : Int32) (σ : lw_S) : Option (Int32 × lw_S) := ej_bv (mL_says n 97 σ) fun s29 => (if y28 = 0 then (mL_isRefused_169 n 5 y23 y24 y26 y27 0 0 s29) else ej_bi (mL_act n 1 0 y25 s29) fun r115 s116 => (if r115 = (-1181) then ej_bi (mL_act n 4 0 0 s116) fun r117 s118 => (if r117 = (-1182) then (mL_isRefused_169 n 5 y23 y24 y26 y27 1 0 s118) else (mL_isRefused_169 n 5 y23 y24 y26 y27 0 0 s118)) else (mL_isRefused_169 n 5 y23 y24 y26 y27 0 0 s116)))
set_option maxRecDepth 20000 in
set_option maxHeartbeats 2000000 in
theorem jL_isRefused_119 (x : lw_T) (n : Nat) {r0 : Int32 × lw_S} {F : ej_F} (hq : ej_finR x F (some .boolean) (some (.int r0.1)) r0.2 []) (hu : ej_bud F (150)) (y23 : Int32) (y24 : Int32) (y25 : Int32) (y26 : Int32) (y27 : Int64) (y28 : Int32) (σ : lw_S) : ej_J (lV x) F iL_isRefused r0 σ 119 [(0, .ref (cw_a x.1 0)), (1, .ref (cw_a x.1 212)), (2, .int y23), (4, .int y24), (5, .int y25), (6, .int y26), (7, .long y27)] [.int y28] (mL_isRefused_119 n y23 y24 y25 y26 y27 y28 σ) := by
  unfold mL_isRefused_119
  refine j_istore (i := 9) (L' := [(9, .int y28), (0, .ref (cw_a x.1 0)), (1, .ref (cw_a x.1 212)), (2, .int y23), (4, .int y24), (5, .int y25), (6, .int y26), (7, .long y27)]) dL_isRefused_119 (Nat.le_of_ble_eq_true rfl) rfl ?_
  refine j_aload_n 1 rfl dL_isRefused_121 ?_
  refine j_bipush dL_isRefused_122 ejb_97 ?_
  refine jb_callSv (c := 1) (kL_says x n 97 σ) ls_L_87 ⟨Nat.le_of_ble_eq_true rfl, Nat.le_of_ble_eq_true rfl⟩ dL_isRefused_124 rfl (Nat.le_of_ble_eq_true rfl) hu (by omega) (fun s29 => ?_)
  refine j_iload 0 rfl dL_isRefused_127 ?_
  refine j_if_eq dL_isRefused_129 ?_ ?_
  · refine j_iconst dL_isRefused_163 ejc_0 ?_
    refine j_istore (i := 9) (L' := [(9, .int 0), (0, .ref (cw_a x.1 0)), (1, .ref (cw_a x.1 212)), (2, .int y23), (4, .int y24), (5, .int y25), (6, .int y26), (7, .long y27)]) dL_isRefused_164 (Nat.le_of_ble_eq_true rfl) rfl ?_
    refine j_iconst dL_isRefused_166 ejc_0 ?_
    refine j_istore (i := 10) (L' := [(10, .int 0), (9, .int 0), (0, .ref (cw_a x.1 0)), (1, .ref (cw_a x.1 212)), (2, .int y23), (4, .int y24), (5, .int y25), (6, .int y26), (7, .long y27)]) dL_isRefused_167 (Nat.le_of_ble_eq_true rfl) rfl ?_
    exact j_sub [2, 3, 4, 5, 7, 8, 1, 0] rfl (jL_isRefused_169 x n 5 (ej_finRu _ _ hq) (ej_budw (ej_budu 1 hu (by omega)) (by omega)) y23 y24 y26 y27 0 0 s29)
  · refine j_aload_n 1 rfl dL_isRefused_132 ?_
    refine j_iconst dL_isRefused_133 ejc_1 ?_
    refine j_lconst dL_isRefused_134 ejl_0 ?_
    refine j_iload 5 rfl dL_isRefused_135 ?_
    refine jb_callXi (c := 1) (kL_act x n 1 0 y25 s29) lx_L_80 ⟨Nat.le_of_ble_eq_true rfl, Nat.le_of_ble_eq_true rfl⟩ dL_isRefused_137 rfl (Nat.le_of_ble_eq_true rfl) (ej_budu 1 hu (by omega)) (by omega) (fun r115 s116 => ?_)
    refine j_sipush dL_isRefused_140 ejs_m1181 ?_
    refine j_icmp_ne dL_isRefused_143 ?_ ?_
    · refine j_iconst dL_isRefused_163 ejc_0 ?_
      refine j_istore (i := 9) (L' := [(9, .int 0), (0, .ref (cw_a x.1 0)), (1, .ref (cw_a x.1 212)), (2, .int y23), (4, .int y24), (5, .int y25), (6, .int y26), (7, .long y27)]) dL_isRefused_164 (Nat.le_of_ble_eq_true rfl) rfl ?_
      refine j_iconst dL_isRefused_166 ejc_0 ?_
      refine j_istore (i := 10) (L' := [(10, .int 0), (9, .int 0), (0, .ref (cw_a x.1 0)), (1, .ref (cw_a x.1 212)), (2, .int y23), (4, .int y24), (5, .int y25), (6, .int y26), (7, .long y27)]) dL_isRefused_167 (Nat.le_of_ble_eq_true rfl) rfl ?_
      exact j_sub [2, 3, 4, 5, 7, 8, 1, 0] rfl (jL_isRefused_169 x n 5 (ej_finRu _ _ (ej_finRu _ _ hq)) (ej_budw (ej_budu 1 (ej_budu 1 hu (by omega)) (by omega)) (by omega)) y23 y24 y26 y27 0 0 s116)
    · refine j_aload_n 1 rfl dL_isRefused_146 ?_
      refine j_iconst dL_isRefused_147 ejc_4 ?_
      refine j_lconst dL_isRefused_148 ejl_0 ?_
      refine j_iconst dL_isRefused_149 ejc_0 ?_
      refine jb_callXi (c := 1) (kL_act x n 4 0 0 s116) lx_L_80 ⟨Nat.le_of_ble_eq_true rfl, Nat.le_of_ble_eq_true rfl⟩ dL_isRefused_150 rfl (Nat.le_of_ble_eq_true rfl) (ej_budu 1 (ej_budu 1 hu (by omega)) (by omega)) (by omega) (fun r117 s118 => ?_)
      refine j_sipush dL_isRefused_153 ejs_m1182 ?_
      refine j_icmp_ne dL_isRefused_156 ?_ ?_
      · refine j_iconst dL_isRefused_163 ejc_0 ?_
        refine j_istore (i := 9) (L' := [(9, .int 0), (0, .ref (cw_a x.1 0)), (1, .ref (cw_a x.1 212)), (2, .int y23), (4, .int y24), (5, .int y25), (6, .int y26), (7, .long y27)]) dL_isRefused_164 (Nat.le_of_ble_eq_true rfl) rfl ?_
        refine j_iconst dL_isRefused_166 ejc_0 ?_
        refine j_istore (i := 10) (L' := [(10, .int 0), (9, .int 0), (0, .ref (cw_a x.1 0)), (1, .ref (cw_a x.1 212)), (2, .int y23), (4, .int y24), (5, .int y25), (6, .int y26), (7, .long y27)]) dL_isRefused_167 (Nat.le_of_ble_eq_true rfl) rfl ?_
        exact j_sub [2, 3, 4, 5, 7, 8, 1, 0] rfl (jL_isRefused_169 x n 5 (ej_finRu _ _ (ej_finRu _ _ (ej_finRu _ _ hq))) (ej_budw (ej_budu 1 (ej_budu 1 (ej_budu 1 hu (by omega)) (by omega)) (by omega)) (by omega)) y23 y24 y26 y27 0 0 s118)
      · refine j_iconst dL_isRefused_159 ejc_1 ?_
        refine j_goto dL_isRefused_160 ?_
        refine j_istore (i := 9) (L' := [(9, .int 1), (0, .ref (cw_a x.1 0)), (1, .ref (cw_a x.1 212)), (2, .int y23), (4, .int y24), (5, .int y25), (6, .int y26), (7, .long y27)]) dL_isRefused_164 (Nat.le_of_ble_eq_true rfl) rfl ?_
        refine j_iconst dL_isRefused_166 ejc_0 ?_
        refine j_istore (i := 10) (L' := [(10, .int 0), (9, .int 1), (0, .ref (cw_a x.1 0)), (1, .ref (cw_a x.1 212)), (2, .int y23), (4, .int y24), (5, .int y25), (6, .int y26), (7, .long y27)]) dL_isRefused_167 (Nat.le_of_ble_eq_true rfl) rfl ?_
        exact j_sub [2, 3, 4, 5, 7, 8, 1, 0] rfl (jL_isRefused_169 x n 5 (ej_finRu _ _ (ej_finRu _ _ (ej_finRu _ _ hq))) (ej_budw (ej_budu 1 (ej_budu 1 (ej_budu 1 hu (by omega)) (by omega)) (by omega)) (by omega)) y23 y24 y26 y27 1 0 s118)
noncomputable def mL_isRefused_91 (n : Nat) (y13 : Int32) (y14 : Int32) (y15 : Int32) (y16 : Int32) (y17 : Int64) (y18 : Int32) (y19 : Int64) (y20 : Int32) (σ : lw_S) : Option (Int32 × lw_S) := ej_bi (mL_act n y20 y19 y18 σ) fun r21 s22 => (if r21 = (-1182) then ej_bi (mL_act n 2 0 y15 s22) fun r119 s120 => (if r119 = (-1181) then (mL_isRefused_119 n y13 y14 y15 y16 y17 1 s120) else (mL_isRefused_119 n y13 y14 y15 y16 y17 0 s120)) else (mL_isRefused_119 n y13 y14 y15 y16 y17 0 s22))
set_option maxRecDepth 20000 in
set_option maxHeartbeats 2000000 in
theorem jL_isRefused_91 (x : lw_T) (n : Nat) {r0 : Int32 × lw_S} {F : ej_F} (hq : ej_finR x F (some .boolean) (some (.int r0.1)) r0.2 []) (hu : ej_bud F (152)) (y13 : Int32) (y14 : Int32) (y15 : Int32) (y16 : Int32) (y17 : Int64) (y18 : Int32) (y19 : Int64) (y20 : Int32) (σ : lw_S) : ej_J (lV x) F iL_isRefused r0 σ 91 [(0, .ref (cw_a x.1 0)), (1, .ref (cw_a x.1 212)), (2, .int y13), (4, .int y14), (5, .int y15), (6, .int y16), (7, .long y17)] [.int y18, .long y19, .int y20, .ref (cw_a x.1 0)] (mL_isRefused_91 n y13 y14 y15 y16 y17 y18 y19 y20 σ) := by
  unfold mL_isRefused_91
  refine jb_callXi (c := 1) (kL_act x n y20 y19 y18 σ) lx_L_80 ⟨Nat.le_of_ble_eq_true rfl, Nat.le_of_ble_eq_true rfl⟩ dL_isRefused_91 rfl (Nat.le_of_ble_eq_true rfl) hu (by omega) (fun r21 s22 => ?_)
  refine j_sipush dL_isRefused_94 ejs_m1182 ?_
  refine j_icmp_ne dL_isRefused_97 ?_ ?_
  · refine j_iconst dL_isRefused_118 ejc_0 ?_
    exact j_sub [0, 1, 2, 3, 4, 5, 6] rfl (jL_isRefused_119 x n (ej_finRu _ _ hq) (ej_budw (ej_budu 1 hu (by omega)) (by omega)) y13 y14 y15 y16 y17 0 s22)
  · refine j_aload_n 0 rfl dL_isRefused_100 ?_
    refine j_iconst dL_isRefused_101 ejc_2 ?_
    refine j_lconst dL_isRefused_102 ejl_0 ?_
    refine j_iload 4 rfl dL_isRefused_103 ?_
    refine jb_callXi (c := 1) (kL_act x n 2 0 y15 s22) lx_L_80 ⟨Nat.le_of_ble_eq_true rfl, Nat.le_of_ble_eq_true rfl⟩ dL_isRefused_105 rfl (Nat.le_of_ble_eq_true rfl) (ej_budu 1 hu (by omega)) (by omega) (fun r119 s120 => ?_)
    refine j_sipush dL_isRefused_108 ejs_m1181 ?_
    refine j_icmp_ne dL_isRefused_111 ?_ ?_
    · refine j_iconst dL_isRefused_118 ejc_0 ?_
      exact j_sub [0, 1, 2, 3, 4, 5, 6] rfl (jL_isRefused_119 x n (ej_finRu _ _ (ej_finRu _ _ hq)) (ej_budw (ej_budu 1 (ej_budu 1 hu (by omega)) (by omega)) (by omega)) y13 y14 y15 y16 y17 0 s120)
    · refine j_iconst dL_isRefused_114 ejc_1 ?_
      refine j_goto dL_isRefused_115 ?_
      exact j_sub [0, 1, 2, 3, 4, 5, 6] rfl (jL_isRefused_119 x n (ej_finRu _ _ (ej_finRu _ _ hq)) (ej_budw (ej_budu 1 (ej_budu 1 hu (by omega)) (by omega)) (by omega)) y13 y14 y15 y16 y17 1 s120)
noncomputable def mL_isRefused_54 (n : Nat) (y6 : Int32) (y7 : Int32) (y8 : Int32) (y9 : Int32) (σ : lw_S) : Option (Int32 × lw_S) := ej_nm ((y6 / 8) - (y6 / 8) / 4 * 4) fun x10 => ej_bl (mL_all n σ) fun r11 s12 => (if y7 = 0 then (mL_isRefused_91 n y6 y8 y9 x10 r11 9 5 0 s12) else (mL_isRefused_91 n y6 y8 y9 x10 r11 (0 - (y6 - y6 / 30 * 30)) 5 0 s12))
set_option maxRecDepth 20000 in
set_option maxHeartbeats 2000000 in
theorem jL_isRefused_54 (x : lw_T) (n : Nat) {r0 : Int32 × lw_S} {F : ej_F} (hq : ej_finR x F (some .boolean) (some (.int r0.1)) r0.2 []) (hu : ej_bud F (152)) (y6 : Int32) (y7 : Int32) (y8 : Int32) (y9 : Int32) (σ : lw_S) : ej_J (lV x) F iL_isRefused r0 σ 54 [(0, .ref (cw_a x.1 0)), (1, .ref (cw_a x.1 212)), (2, .int y6), (3, .int y7), (4, .int y8)] [.int y9] (mL_isRefused_54 n y6 y7 y8 y9 σ) := by
  unfold mL_isRefused_54
  refine j_istore (i := 5) (L' := [(5, .int y9), (0, .ref (cw_a x.1 0)), (1, .ref (cw_a x.1 212)), (2, .int y6), (3, .int y7), (4, .int y8)]) dL_isRefused_54 (Nat.le_of_ble_eq_true rfl) rfl ?_
  refine j_iload_n 3 rfl dL_isRefused_56 ?_
  refine j_bipush dL_isRefused_57 ejb_8 ?_
  refine j_idiv0 (by decide) dL_isRefused_59 ?_
  refine j_iconst dL_isRefused_60 ejc_4 ?_
  refine j_irem0 (by decide) dL_isRefused_61 ?_
  refine j_nmi (fun x10 => ?_)
  refine j_istore (i := 6) (L' := [(6, .int x10), (5, .int y9), (0, .ref (cw_a x.1 0)), (1, .ref (cw_a x.1 212)), (2, .int y6), (3, .int y7), (4, .int y8)]) dL_isRefused_62 (Nat.le_of_ble_eq_true rfl) rfl ?_
  refine j_aload_n 2 rfl dL_isRefused_64 ?_
  refine j_aload_n 3 rfl dL_isRefused_65 ?_
  refine j_callSl (kL_all x n σ) ls_L_155 ⟨Nat.le_of_ble_eq_true rfl, Nat.le_of_ble_eq_true rfl⟩ dL_isRefused_66 rfl (Nat.le_of_ble_eq_true rfl) (fun r11 s12 => ?_)
  refine j_lstore (i := 7) (L' := [(7, .long r11), (6, .int x10), (5, .int y9), (0, .ref (cw_a x.1 0)), (1, .ref (cw_a x.1 212)), (2, .int y6), (3, .int y7), (4, .int y8)]) dL_isRefused_69 (Nat.le_of_ble_eq_true rfl) rfl ?_
  refine j_aload_n 3 rfl dL_isRefused_71 ?_
  refine j_iconst dL_isRefused_72 ejc_0 ?_
  refine j_ldc2 dL_isRefused_73 kl_L_159 ?_
  refine j_iload_n 6 rfl dL_isRefused_76 ?_
  refine j_if_eq dL_isRefused_77 ?_ ?_
  · refine j_bipush dL_isRefused_89 ejb_9 ?_
    exact j_sub [3, 4, 5, 7, 2, 1, 0] rfl (jL_isRefused_91 x n hq (ej_budw hu (by omega)) y6 y8 y9 x10 r11 9 5 0 s12)
  · refine j_iconst dL_isRefused_80 ejc_0 ?_
    refine j_iload_n 5 rfl dL_isRefused_81 ?_
    refine j_bipush dL_isRefused_82 ejb_30 ?_
    refine j_irem0 (by decide) dL_isRefused_84 ?_
    refine j_isub dL_isRefused_85 ?_
    refine j_goto dL_isRefused_86 ?_
    exact j_sub [3, 4, 5, 7, 2, 1, 0] rfl (jL_isRefused_91 x n hq (ej_budw hu (by omega)) y6 y8 y9 x10 r11 (0 - (y6 - y6 / 30 * 30)) 5 0 s12)
noncomputable def mL_isRefused_33 (n : Nat) (y3 : Int32) (y4 : Int32) (y5 : Int32) (σ : lw_S) : Option (Int32 × lw_S) := (if y4 = 0 then (mL_isRefused_54 n y3 y4 y5 (4 + (y3 - y3 / 30 * 30)) σ) else (mL_isRefused_54 n y3 y4 y5 ((-1) - (y3 - y3 / 30 * 30)) σ))
set_option maxRecDepth 20000 in
set_option maxHeartbeats 2000000 in
theorem jL_isRefused_33 (x : lw_T) (n : Nat) {r0 : Int32 × lw_S} {F : ej_F} (hq : ej_finR x F (some .boolean) (some (.int r0.1)) r0.2 []) (hu : ej_bud F (152)) (y3 : Int32) (y4 : Int32) (y5 : Int32) (σ : lw_S) : ej_J (lV x) F iL_isRefused r0 σ 33 [(0, .ref (cw_a x.1 0)), (1, .ref (cw_a x.1 212)), (2, .int y3), (3, .int y4)] [.int y5] (mL_isRefused_33 n y3 y4 y5 σ) := by
  unfold mL_isRefused_33
  refine j_istore (i := 4) (L' := [(4, .int y5), (0, .ref (cw_a x.1 0)), (1, .ref (cw_a x.1 212)), (2, .int y3), (3, .int y4)]) dL_isRefused_33 (Nat.le_of_ble_eq_true rfl) rfl ?_
  refine j_iload_n 4 rfl dL_isRefused_35 ?_
  refine j_if_eq dL_isRefused_36 ?_ ?_
  · refine j_iconst dL_isRefused_48 ejc_4 ?_
    refine j_iload_n 3 rfl dL_isRefused_49 ?_
    refine j_bipush dL_isRefused_50 ejb_30 ?_
    refine j_irem0 (by decide) dL_isRefused_52 ?_
    refine j_iadd dL_isRefused_53 ?_
    exact j_sub [1, 2, 3, 4, 0] rfl (jL_isRefused_54 x n hq (ej_budw hu (by omega)) y3 y4 y5 (4 + (y3 - y3 / 30 * 30)) σ)
  · refine j_iconst dL_isRefused_39 ejc_m1 ?_
    refine j_iload_n 3 rfl dL_isRefused_40 ?_
    refine j_bipush dL_isRefused_41 ejb_30 ?_
    refine j_irem0 (by decide) dL_isRefused_43 ?_
    refine j_isub dL_isRefused_44 ?_
    refine j_goto dL_isRefused_45 ?_
    exact j_sub [1, 2, 3, 4, 0] rfl (jL_isRefused_54 x n hq (ej_budw hu (by omega)) y3 y4 y5 ((-1) - (y3 - y3 / 30 * 30)) σ)
noncomputable def mL_isRefused_11 (n : Nat) (y1 : Int32) (y2 : Int32) (σ : lw_S) : Option (Int32 × lw_S) := (if y2 = 0 then ej_ck 2 4 ((mL_isRefused_33 n y1 y2 ((gA σ.2 2 (2 : Int32).toNatClampNeg) + (y1 - y1 / 30 * 30)) σ)) else (mL_isRefused_33 n y1 y2 ((-1) - (y1 - y1 / 30 * 30)) σ))
set_option maxRecDepth 20000 in
set_option maxHeartbeats 2000000 in
theorem jL_isRefused_11 (x : lw_T) (n : Nat) {r0 : Int32 × lw_S} {F : ej_F} (hq : ej_finR x F (some .boolean) (some (.int r0.1)) r0.2 []) (hu : ej_bud F (152)) (y1 : Int32) (y2 : Int32) (σ : lw_S) : ej_J (lV x) F iL_isRefused r0 σ 11 [(0, .ref (cw_a x.1 0)), (1, .ref (cw_a x.1 212)), (2, .int y1)] [.int y2] (mL_isRefused_11 n y1 y2 σ) := by
  unfold mL_isRefused_11
  refine j_istore_n (i := 3) (L' := [(3, .int y2), (0, .ref (cw_a x.1 0)), (1, .ref (cw_a x.1 212)), (2, .int y1)]) dL_isRefused_11 rfl (Nat.le_of_ble_eq_true rfl) rfl ?_
  refine j_iload_n 0 rfl dL_isRefused_12 ?_
  refine j_if_eq dL_isRefused_13 ?_ ?_
  · refine j_aload_n 2 rfl dL_isRefused_25 ?_
    refine j_iconst dL_isRefused_26 ejc_2 ?_
    refine j_iald (lV_a_212 x σ) dL_isRefused_27 ?_
    refine j_iload_n 3 rfl dL_isRefused_28 ?_
    refine j_bipush dL_isRefused_29 ejb_30 ?_
    refine j_irem0 (by decide) dL_isRefused_31 ?_
    refine j_iadd dL_isRefused_32 ?_
    exact j_sub [1, 2, 3, 0] rfl (jL_isRefused_33 x n hq (ej_budw hu (by omega)) y1 y2 ((gA σ.2 2 (2 : Int32).toNatClampNeg) + (y1 - y1 / 30 * 30)) σ)
  · refine j_iconst dL_isRefused_16 ejc_m1 ?_
    refine j_iload_n 3 rfl dL_isRefused_17 ?_
    refine j_bipush dL_isRefused_18 ejb_30 ?_
    refine j_irem0 (by decide) dL_isRefused_20 ?_
    refine j_isub dL_isRefused_21 ?_
    refine j_goto dL_isRefused_22 ?_
    exact j_sub [1, 2, 3, 0] rfl (jL_isRefused_33 x n hq (ej_budw hu (by omega)) y1 y2 ((-1) - (y1 - y1 / 30 * 30)) σ)
noncomputable def mL_isRefused (n : Nat) (a2 : Int32) (σ : lw_S) : Option (Int32 × lw_S) := (if a2 - a2 / 2 * 2 = 0 then (mL_isRefused_11 n a2 1 σ) else (mL_isRefused_11 n a2 0 σ))
set_option maxRecDepth 20000 in
set_option maxHeartbeats 2000000 in
theorem jL_isRefused (x : lw_T) (n : Nat) (a2 : Int32) (σ : lw_S) {F : ej_F} {r0 : Int32 × lw_S} (hq : ej_finR x F (some .boolean) (some (.int r0.1)) r0.2 []) (hu : ej_bud F 152) : ej_J (lV x) F iL_isRefused r0 σ 0 [(0, .ref (cw_a x.1 0)), (1, .ref (cw_a x.1 212)), (2, .int a2)] [] (mL_isRefused n a2 σ) := by
  unfold mL_isRefused
  refine j_iload_n 2 rfl dL_isRefused_0 ?_
  refine j_iconst dL_isRefused_1 ejc_2 ?_
  refine j_irem0 (by decide) dL_isRefused_2 ?_
  refine j_if_ne dL_isRefused_3 ?_ ?_
  · refine j_iconst dL_isRefused_10 ejc_0 ?_
    exact j_sub [0, 1, 2] rfl (jL_isRefused_11 x n hq (ej_budw hu (by omega)) a2 0 σ)
  · refine j_iconst dL_isRefused_6 ejc_1 ?_
    refine j_goto dL_isRefused_7 ?_
    exact j_sub [0, 1, 2] rfl (jL_isRefused_11 x n hq (ej_budw hu (by omega)) a2 1 σ)
theorem kL_isRefused (x : lw_T) (n : Nat) (a2 : Int32) (σ : lw_S) : ∀ z, mL_isRefused n a2 σ = some z → ∀ l : Launch, l.stackTraces = false → ej_Cb l x iL_isRefused yL_isRefused (some .boolean) [.ref (cw_a x.1 0), .ref (cw_a x.1 212), .int a2] σ 152 (some (.int z.1)) z.2 := fun z h l hl => ej_conB_of hl pn_L rfl (Nat.le_of_ble_eq_true rfl) rfl h (fun F hq hu => jL_isRefused x n a2 σ hq hu)

noncomputable def mL_isFull_43 (n : Nat) (y3 : Int32) (σ : lw_S) : Option (Int32 × lw_S) := (if y3 = 0 then (some (0, σ)) else ej_bi (mL_act n 0 32 1 σ) fun r4 s5 => (if r4 = (-1183) then ej_bi (mL_act n 1 0 1 s5) fun r6 s7 => (if r6 = 0 then ej_bi (mL_act n 0 32 1 s7) fun r8 s9 => (if r8 = 1 then ej_bi (ej_lc (m10_lookUp n s9.1) s9) fun r10 s11 => (if r10 = (-1) then (some (1, s11)) else (some (0, s11))) else (some (0, s9))) else (some (0, s7))) else (some (0, s5))))
set_option maxRecDepth 20000 in
set_option maxHeartbeats 2000000 in
theorem jL_isFull_43 (x : lw_T) (n : Nat) {r0 : Int32 × lw_S} {F : ej_F} (hq : ej_finR x F (some .boolean) (some (.int r0.1)) r0.2 []) (hu : ej_bud F (3)) (y3 : Int32) (σ : lw_S) : ej_J (lV x) F iL_isFull r0 σ 43 [(0, .ref (cw_a x.1 0)), (1, .int y3)] [] (mL_isFull_43 n y3 σ) := by
  unfold mL_isFull_43
  refine j_iload_n 1 rfl dL_isFull_43 ?_
  refine j_if_eq dL_isFull_44 ?_ ?_
  · refine j_iconst dL_isFull_97 ejc_0 ?_
    exact jb_zreturn0 hq hu dL_isFull_98
  · refine j_aload_n 0 rfl dL_isFull_47 ?_
    refine j_iconst dL_isFull_48 ejc_0 ?_
    refine j_ldc2 dL_isFull_49 kl_L_173 ?_
    refine j_iconst dL_isFull_52 ejc_1 ?_
    refine jb_callXi (c := 1) (kL_act x n 0 32 1 σ) lx_L_80 ⟨Nat.le_of_ble_eq_true rfl, Nat.le_of_ble_eq_true rfl⟩ dL_isFull_53 rfl (Nat.le_of_ble_eq_true rfl) hu (by omega) (fun r4 s5 => ?_)
    refine j_sipush dL_isFull_56 ejs_m1183 ?_
    refine j_icmp_ne dL_isFull_59 ?_ ?_
    · refine j_iconst dL_isFull_97 ejc_0 ?_
      exact jb_zreturn0 (ej_finRu _ _ hq) (ej_budu 1 hu (by omega)) dL_isFull_98
    · refine j_aload_n 0 rfl dL_isFull_62 ?_
      refine j_iconst dL_isFull_63 ejc_1 ?_
      refine j_lconst dL_isFull_64 ejl_0 ?_
      refine j_iconst dL_isFull_65 ejc_1 ?_
      refine jb_callXi (c := 1) (kL_act x n 1 0 1 s5) lx_L_80 ⟨Nat.le_of_ble_eq_true rfl, Nat.le_of_ble_eq_true rfl⟩ dL_isFull_66 rfl (Nat.le_of_ble_eq_true rfl) (ej_budu 1 hu (by omega)) (by omega) (fun r6 s7 => ?_)
      refine j_if_ne dL_isFull_69 ?_ ?_
      · refine j_iconst dL_isFull_97 ejc_0 ?_
        exact jb_zreturn0 (ej_finRu _ _ (ej_finRu _ _ hq)) (ej_budu 1 (ej_budu 1 hu (by omega)) (by omega)) dL_isFull_98
      · refine j_aload_n 0 rfl dL_isFull_72 ?_
        refine j_iconst dL_isFull_73 ejc_0 ?_
        refine j_ldc2 dL_isFull_74 kl_L_173 ?_
        refine j_iconst dL_isFull_77 ejc_1 ?_
        refine jb_callXi (c := 1) (kL_act x n 0 32 1 s7) lx_L_80 ⟨Nat.le_of_ble_eq_true rfl, Nat.le_of_ble_eq_true rfl⟩ dL_isFull_78 rfl (Nat.le_of_ble_eq_true rfl) (ej_budu 1 (ej_budu 1 hu (by omega)) (by omega)) (by omega) (fun r8 s9 => ?_)
        refine j_iconst dL_isFull_81 ejc_1 ?_
        refine j_icmp_ne dL_isFull_82 ?_ ?_
        · refine j_iconst dL_isFull_97 ejc_0 ?_
          exact jb_zreturn0 (ej_finRu _ _ (ej_finRu _ _ (ej_finRu _ _ hq))) (ej_budu 1 (ej_budu 1 (ej_budu 1 hu (by omega)) (by omega)) (by omega)) dL_isFull_98
        · refine j_aload_n 0 rfl dL_isFull_85 ?_
          refine j_callVi (fun z1 z2 z3 z4 => lc_con (f := fun r => some (.int r)) (fun z5 z6 z7 => c10_lookUp x.1 n s9.1 z5 z6 z7 z4) z1 z2 z3) lv_L_175 (lV_rc_0 x s9) ⟨Nat.le_of_ble_eq_true rfl, Nat.le_of_ble_eq_true rfl⟩ dL_isFull_86 rfl (Nat.le_of_ble_eq_true rfl) (fun r10 s11 => ?_)
          refine j_iconst dL_isFull_89 ejc_m1 ?_
          refine j_icmp_ne dL_isFull_90 ?_ ?_
          · refine j_iconst dL_isFull_97 ejc_0 ?_
            exact jb_zreturn0 (ej_finRu _ _ (ej_finRu _ _ (ej_finRu _ _ hq))) (ej_budu 1 (ej_budu 1 (ej_budu 1 hu (by omega)) (by omega)) (by omega)) dL_isFull_98
          · refine j_iconst dL_isFull_93 ejc_1 ?_
            refine j_goto dL_isFull_94 ?_
            exact jb_zreturn1 (ej_finRu _ _ (ej_finRu _ _ (ej_finRu _ _ hq))) (ej_budu 1 (ej_budu 1 (ej_budu 1 hu (by omega)) (by omega)) (by omega)) dL_isFull_98
noncomputable def mL_isFull_4 (n : Nat) (k : Nat) : Int32 → Int32 → lw_S → Option (Int32 × lw_S) := Nat.rec (motive := fun _ => Int32 → Int32 → lw_S → Option (Int32 × lw_S)) (fun _ _ _ => none) (fun _ ih y1 y2 σ => (if 75 < y2 then (mL_isFull_43 n y1 σ) else (if y1 = 0 then (mL_isFull_43 n y1 σ) else ej_bi (mL_act n 0 2314885530818453536 8 σ) fun r12 s13 => (if r12 = 8 * y2 then ej_nm (y2 + 1) fun x15 => (ih 1 x15 s13) else ej_nm (y2 + 1) fun x14 => (ih 0 x14 s13))))) k
theorem mL_isFull_4_s (n : Nat) (k : Nat) (y1 : Int32) (y2 : Int32) (σ : lw_S) : mL_isFull_4 n (k + 1) y1 y2 σ = ((if 75 < y2 then (mL_isFull_43 n y1 σ) else (if y1 = 0 then (mL_isFull_43 n y1 σ) else ej_bi (mL_act n 0 2314885530818453536 8 σ) fun r12 s13 => (if r12 = 8 * y2 then ej_nm (y2 + 1) fun x15 => ((mL_isFull_4 n k) 1 x15 s13) else ej_nm (y2 + 1) fun x14 => ((mL_isFull_4 n k) 0 x14 s13)))) : Option (Int32 × lw_S)) := rfl
set_option maxRecDepth 20000 in
set_option maxHeartbeats 2000000 in
theorem jL_isFull_4 (x : lw_T) (n : Nat) {r0 : Int32 × lw_S} : ∀ (k : Nat) {F : ej_F} (hq : ej_finR x F (some .boolean) (some (.int r0.1)) r0.2 []) (hu : ej_bud F (3 + 1 * k)) (y1 : Int32) (y2 : Int32) (σ : lw_S), ej_J (lV x) F iL_isFull r0 σ 4 [(0, .ref (cw_a x.1 0)), (1, .int y1), (2, .int y2)] [] (mL_isFull_4 n k y1 y2 σ) := by
  intro k
  induction k with
  | zero => intro F hq hu y1 y2 σ; exact j_none
  | succ k ih =>
    intro F hq hu y1 y2 σ
    rw [mL_isFull_4_s]
    refine j_iload_n 2 rfl dL_isFull_4 ?_
    refine j_bipush dL_isFull_5 ejb_75 ?_
    refine j_icmp_gt dL_isFull_7 ?_ ?_
    · exact j_sub [0, 1] rfl (jL_isFull_43 x n hq (ej_budw hu (by omega)) y1 σ)
    · refine j_iload_n 1 rfl dL_isFull_10 ?_
      refine j_if_eq dL_isFull_11 ?_ ?_
      · exact j_sub [0, 1] rfl (jL_isFull_43 x n hq (ej_budw hu (by omega)) y1 σ)
      · refine j_aload_n 0 rfl dL_isFull_14 ?_
        refine j_iconst dL_isFull_15 ejc_0 ?_
        refine j_ldc2 dL_isFull_16 kl_L_171 ?_
        refine j_bipush dL_isFull_19 ejb_8 ?_
        refine jb_callXi (c := 1) (kL_act x n 0 2314885530818453536 8 σ) lx_L_80 ⟨Nat.le_of_ble_eq_true rfl, Nat.le_of_ble_eq_true rfl⟩ dL_isFull_21 rfl (Nat.le_of_ble_eq_true rfl) hu (by omega) (fun r12 s13 => ?_)
        refine j_bipush dL_isFull_24 ejb_8 ?_
        refine j_iload_n 2 rfl dL_isFull_26 ?_
        refine j_imul dL_isFull_27 ?_
        refine j_icmp_ne dL_isFull_28 ?_ ?_
        · refine j_iconst dL_isFull_35 ejc_0 ?_
          refine j_istore_n (i := 1) (L' := [(1, .int 0), (0, .ref (cw_a x.1 0)), (2, .int y2)]) dL_isFull_36 rfl (Nat.le_of_ble_eq_true rfl) rfl ?_
          refine j_iinc (i := 2) (v := 1) (Ly := fun x14 => [(2, .int x14), (1, .int 0), (0, .ref (cw_a x.1 0))]) 2 dL_isFull_37 rfl ejc_1 (Nat.le_of_ble_eq_true rfl) (fun _ => rfl) (fun x14 => ?_)
          refine j_goto dL_isFull_40 ?_
          exact j_sub [2, 1, 0] rfl (ih (ej_finRu _ _ hq) (ej_budw (ej_budu 1 hu (by omega)) (by omega)) 0 x14 s13)
        · refine j_iconst dL_isFull_31 ejc_1 ?_
          refine j_goto dL_isFull_32 ?_
          refine j_istore_n (i := 1) (L' := [(1, .int 1), (0, .ref (cw_a x.1 0)), (2, .int y2)]) dL_isFull_36 rfl (Nat.le_of_ble_eq_true rfl) rfl ?_
          refine j_iinc (i := 2) (v := 1) (Ly := fun x15 => [(2, .int x15), (1, .int 1), (0, .ref (cw_a x.1 0))]) 2 dL_isFull_37 rfl ejc_1 (Nat.le_of_ble_eq_true rfl) (fun _ => rfl) (fun x15 => ?_)
          refine j_goto dL_isFull_40 ?_
          exact j_sub [2, 1, 0] rfl (ih (ej_finRu _ _ hq) (ej_budw (ej_budu 1 hu (by omega)) (by omega)) 1 x15 s13)
noncomputable def mL_isFull (n : Nat)  (σ : lw_S) : Option (Int32 × lw_S) := (mL_isFull_4 n 77 1 1 σ)
set_option maxRecDepth 20000 in
set_option maxHeartbeats 2000000 in
theorem jL_isFull (x : lw_T) (n : Nat)  (σ : lw_S) {F : ej_F} {r0 : Int32 × lw_S} (hq : ej_finR x F (some .boolean) (some (.int r0.1)) r0.2 []) (hu : ej_bud F 80) : ej_J (lV x) F iL_isFull r0 σ 0 [(0, .ref (cw_a x.1 0))] [] (mL_isFull n  σ) := by
  unfold mL_isFull
  refine j_iconst dL_isFull_0 ejc_1 ?_
  refine j_istore_n (i := 1) (L' := [(1, .int 1), (0, .ref (cw_a x.1 0))]) dL_isFull_1 rfl (Nat.le_of_ble_eq_true rfl) rfl ?_
  refine j_iconst dL_isFull_2 ejc_1 ?_
  refine j_istore_n (i := 2) (L' := [(2, .int 1), (1, .int 1), (0, .ref (cw_a x.1 0))]) dL_isFull_3 rfl (Nat.le_of_ble_eq_true rfl) rfl ?_
  exact j_sub [2, 1, 0] rfl (jL_isFull_4 x n 77 hq (ej_budw hu (by omega)) 1 1 σ)
theorem kL_isFull (x : lw_T) (n : Nat)  (σ : lw_S) : ∀ z, mL_isFull n  σ = some z → ∀ l : Launch, l.stackTraces = false → ej_Cb l x iL_isFull yL_isFull (some .boolean) [.ref (cw_a x.1 0)] σ 80 (some (.int z.1)) z.2 := fun z h l hl => ej_conB_of hl pn_L rfl (Nat.le_of_ble_eq_true rfl) rfl h (fun F hq hu => jL_isFull x n  σ hq hu)

