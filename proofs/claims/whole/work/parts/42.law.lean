noncomputable def mL_law (n N : Nat) (xs : Nat → Int32) (k : Nat) : Int32 → lw_S → Option Int32 := Nat.rec (motive := fun _ => Int32 → lw_S → Option Int32) (fun _ _ => none) (fun _ ih y σ => (if (Int32.ofNat N) - 4 < y then (some 1) else ej_ck y N (ej_nm ((xs y.toNatClampNeg) &&& 31) fun x1 => (if x1 = 0 then ej_ck (y + 1) N (ej_ck (y + 2) N (ej_ck (y + 3) N (ej_bi (mL_feed n ((((xs (y + 1).toNatClampNeg).toInt64) <<< ((32 : Int32).toInt64 &&& 63)) ||| (((xs (y + 2).toNatClampNeg).toInt64) &&& 4294967295)) (xs (y + 3).toNatClampNeg) σ) fun r2 s3 => ej_ck (y + 1) N (ej_ck (y + 2) N (ej_ck (y + 3) N (ej_bi (ej_lr (m11_feed n ((((xs (y + 1).toNatClampNeg).toInt64) <<< ((32 : Int32).toInt64 &&& 63)) ||| (((xs (y + 2).toNatClampNeg).toInt64) &&& 4294967295)) (xs (y + 3).toNatClampNeg) s3.2.1) s3) fun r4 s5 => ej_bi (ej_lr (m11_thrown n s5.2.1) s5) fun r6 s7 => (if r6 = r2 then (if r2 = 0 then ej_ck 0 1 ((if lg_cmp (s7.2.2 ((0 : Int32).toNatClampNeg)) (r4.toInt64) = 0 then ej_nm (y + 4) fun x9 => (ih x9 s7) else (some 0))) else ej_nm (y + 4) fun x8 => (ih x8 s7)) else (some 0)))))))) else (if x1 = 1 then ej_ck (y + 1) N (ej_bi (mL_load n (xs (y + 1).toNatClampNeg) σ) fun r10 s11 => ej_ck (y + 1) N (ej_bi (ej_lr (m11_load n (xs (y + 1).toNatClampNeg) s11.2.1) s11) fun r12 s13 => ej_bi (ej_lr (m11_thrown n s13.2.1) s13) fun r14 s15 => (if r14 = r10 then (if r10 = 0 then ej_ck 0 1 ((if lg_cmp (s15.2.2 ((0 : Int32).toNatClampNeg)) (r12.toInt64) = 0 then ej_nm (y + 4) fun x17 => (ih x17 s15) else (some 0))) else ej_nm (y + 4) fun x16 => (ih x16 s15)) else (some 0)))) else (if x1 = 2 then ej_ck (y + 1) N (ej_bi (mL_drop n (xs (y + 1).toNatClampNeg) σ) fun r18 s19 => ej_ck (y + 1) N (ej_bi (ej_lr (m11_drop n (xs (y + 1).toNatClampNeg) s19.2.1) s19) fun r20 s21 => ej_bi (ej_lr (m11_thrown n s21.2.1) s21) fun r22 s23 => (if r22 = r18 then (if r18 = 0 then ej_ck 0 1 ((if lg_cmp (s23.2.2 ((0 : Int32).toNatClampNeg)) (r20.toInt64) = 0 then ej_nm (y + 4) fun x25 => (ih x25 s23) else (some 0))) else ej_nm (y + 4) fun x24 => (ih x24 s23)) else (some 0)))) else (if x1 = 3 then ej_bi (mL_value n  σ) fun r26 s27 => ej_bi (ej_lr (m11_value n s27.2.1) s27) fun r28 s29 => ej_bi (ej_lr (m11_thrown n s29.2.1) s29) fun r30 s31 => (if r30 = r26 then (if r26 = 0 then ej_ck 0 1 ((if lg_cmp (s31.2.2 ((0 : Int32).toNatClampNeg)) (r28.toInt64) = 0 then ej_nm (y + 4) fun x33 => (ih x33 s31) else (some 0))) else ej_nm (y + 4) fun x32 => (ih x32 s31)) else (some 0)) else (if x1 = 4 then ej_ck (y + 1) N ((if xs (y + 1).toNatClampNeg = 0 then ej_bi (ej_lc (m10_fault n 0 σ.1) σ) fun r34 s35 => ej_ck (y + 1) N ((if xs (y + 1).toNatClampNeg = 0 then ej_bi (ej_lr (m11_fault n 0 s35.2.1) s35) fun r36 s37 => (if r34 = r36 then ej_nm (y + 4) fun x38 => (ih x38 s37) else (some 0)) else ej_bi (ej_lr (m11_fault n 1 s35.2.1) s35) fun r39 s40 => (if r34 = r39 then ej_nm (y + 4) fun x41 => (ih x41 s40) else (some 0)))) else ej_bi (ej_lc (m10_fault n 1 σ.1) σ) fun r42 s43 => ej_ck (y + 1) N ((if xs (y + 1).toNatClampNeg = 0 then ej_bi (ej_lr (m11_fault n 0 s43.2.1) s43) fun r44 s45 => (if r42 = r44 then ej_nm (y + 4) fun x46 => (ih x46 s45) else (some 0)) else ej_bi (ej_lr (m11_fault n 1 s43.2.1) s43) fun r47 s48 => (if r42 = r47 then ej_nm (y + 4) fun x49 => (ih x49 s48) else (some 0)))))) else (if x1 = 5 then ej_bi (mL_setHome n  σ) fun r50 s51 => ej_bi (ej_lr (m11_setHome n s51.2.1) s51) fun r52 s53 => ej_bi (ej_lr (m11_thrown n s53.2.1) s53) fun r54 s55 => (if r54 = r50 then (if r50 = 0 then ej_ck 0 1 ((if lg_cmp (s55.2.2 ((0 : Int32).toNatClampNeg)) (r52.toInt64) = 0 then ej_nm (y + 4) fun x57 => (ih x57 s55) else (some 0))) else ej_nm (y + 4) fun x56 => (ih x56 s55)) else (some 0)) else (if x1 = 6 then ej_bi (ej_lc (m10_home n σ.1) σ) fun r58 s59 => ej_bi (ej_lr (m11_home n s59.2.1) s59) fun r60 s61 => (if r58 = r60 then ej_nm (y + 4) fun x62 => (ih x62 s61) else (some 0)) else (if x1 = 7 then ej_bi (ej_lc (m10_lookUp n σ.1) σ) fun r63 s64 => ej_bi (ej_lr (m11_lookUp n s64.2.1) s64) fun r65 s66 => (if r63 = r65 then ej_nm (y + 4) fun x67 => (ih x67 s66) else (some 0)) else (if x1 = 8 then ej_bi (ej_lc (m10_nodes n σ.1) σ) fun r68 s69 => ej_bi (ej_lr (m11_nodes n s69.2.1) s69) fun r70 s71 => (if r68 = r70 then ej_nm (y + 4) fun x72 => (ih x72 s71) else (some 0)) else (if x1 = 9 then ej_ck (y + 1) N (ej_bi (mL_name n (xs (y + 1).toNatClampNeg) σ) fun r73 s74 => ej_ck (y + 1) N (ej_bi (ej_lr (m11_name n (xs (y + 1).toNatClampNeg) s74.2.1) s74) fun r75 s76 => ej_bi (ej_lr (m11_thrown n s76.2.1) s76) fun r77 s78 => (if r77 = r73 then (if r73 = 0 then ej_ck 0 1 ((if lg_cmp (s78.2.2 ((0 : Int32).toNatClampNeg)) (r75.toInt64) = 0 then ej_nm (y + 4) fun x80 => (ih x80 s78) else (some 0))) else ej_nm (y + 4) fun x79 => (ih x79 s78)) else (some 0)))) else (if x1 = 10 then ej_ck (y + 1) N (ej_bi (mL_kind n (xs (y + 1).toNatClampNeg) σ) fun r81 s82 => ej_ck (y + 1) N (ej_bi (ej_lr (m11_kind n (xs (y + 1).toNatClampNeg) s82.2.1) s82) fun r83 s84 => ej_bi (ej_lr (m11_thrown n s84.2.1) s84) fun r85 s86 => (if r85 = r81 then (if r81 = 0 then ej_ck 0 1 ((if lg_cmp (s86.2.2 ((0 : Int32).toNatClampNeg)) (r83.toInt64) = 0 then ej_nm (y + 4) fun x88 => (ih x88 s86) else (some 0))) else ej_nm (y + 4) fun x87 => (ih x87 s86)) else (some 0)))) else (if x1 = 11 then ej_ck (y + 1) N (ej_bi (mL_isPrivate n (xs (y + 1).toNatClampNeg) σ) fun r89 s90 => ej_ck (y + 1) N (ej_bi (ej_lr (m11_isPrivate n (xs (y + 1).toNatClampNeg) s90.2.1) s90) fun r91 s92 => ej_bi (ej_lr (m11_thrown n s92.2.1) s92) fun r93 s94 => (if r93 = r89 then (if r89 = 0 then ej_ck 0 1 ((if r91 = 0 then (if lg_cmp (s94.2.2 ((0 : Int32).toNatClampNeg)) 0 = 0 then ej_nm (y + 4) fun x96 => (ih x96 s94) else (some 0)) else (if lg_cmp (s94.2.2 ((0 : Int32).toNatClampNeg)) 1 = 0 then ej_nm (y + 4) fun x97 => (ih x97 s94) else (some 0)))) else ej_nm (y + 4) fun x95 => (ih x95 s94)) else (some 0)))) else (if x1 = 12 then ej_ck (y + 1) N (ej_ck (y + 2) N (ej_bi (mL_linkCost n (xs (y + 1).toNatClampNeg) (xs (y + 2).toNatClampNeg) σ) fun r98 s99 => ej_ck (y + 1) N (ej_ck (y + 2) N (ej_bi (ej_lr (m11_linkCost n (xs (y + 1).toNatClampNeg) (xs (y + 2).toNatClampNeg) s99.2.1) s99) fun r100 s101 => ej_bi (ej_lr (m11_thrown n s101.2.1) s101) fun r102 s103 => (if r102 = r98 then (if r98 = 0 then ej_ck 0 1 ((if lg_cmp (s103.2.2 ((0 : Int32).toNatClampNeg)) (r100.toInt64) = 0 then ej_nm (y + 4) fun x105 => (ih x105 s103) else (some 0))) else ej_nm (y + 4) fun x104 => (ih x104 s103)) else (some 0)))))) else (if x1 = 13 then ej_ck (y + 1) N (ej_ck (y + 2) N (ej_bi (mL_memberCost n (xs (y + 1).toNatClampNeg) (xs (y + 2).toNatClampNeg) σ) fun r106 s107 => ej_ck (y + 1) N (ej_ck (y + 2) N (ej_bi (ej_lr (m11_memberCost n (xs (y + 1).toNatClampNeg) (xs (y + 2).toNatClampNeg) s107.2.1) s107) fun r108 s109 => ej_bi (ej_lr (m11_thrown n s109.2.1) s109) fun r110 s111 => (if r110 = r106 then (if r106 = 0 then ej_ck 0 1 ((if lg_cmp (s111.2.2 ((0 : Int32).toNatClampNeg)) (r108.toInt64) = 0 then ej_nm (y + 4) fun x113 => (ih x113 s111) else (some 0))) else ej_nm (y + 4) fun x112 => (ih x112 s111)) else (some 0)))))) else (if x1 = 14 then ej_ck (y + 1) N (ej_bi (mL_cost n (xs (y + 1).toNatClampNeg) σ) fun r114 s115 => ej_ck (y + 1) N (ej_bi (ej_lr (m11_cost n (xs (y + 1).toNatClampNeg) s115.2.1) s115) fun r116 s117 => ej_bi (ej_lr (m11_thrown n s117.2.1) s117) fun r118 s119 => (if r118 = r114 then (if r114 = 0 then ej_ck 0 1 ((if lg_cmp (s119.2.2 ((0 : Int32).toNatClampNeg)) (r116.toInt64) = 0 then ej_nm (y + 4) fun x121 => (ih x121 s119) else (some 0))) else ej_nm (y + 4) fun x120 => (ih x120 s119)) else (some 0)))) else (if x1 = 15 then ej_ck (y + 1) N (ej_bi (mL_costByRounds n (xs (y + 1).toNatClampNeg) σ) fun r122 s123 => ej_ck (y + 1) N (ej_bi (ej_lr (m11_costByRounds n (xs (y + 1).toNatClampNeg) s123.2.1) s123) fun r124 s125 => ej_bi (ej_lr (m11_thrown n s125.2.1) s125) fun r126 s127 => (if r126 = r122 then (if r122 = 0 then ej_ck 0 1 ((if lg_cmp (s127.2.2 ((0 : Int32).toNatClampNeg)) (r124.toInt64) = 0 then ej_nm (y + 4) fun x129 => (ih x129 s127) else (some 0))) else ej_nm (y + 4) fun x128 => (ih x128 s127)) else (some 0)))) else (if x1 = 16 then ej_ck (y + 1) N (ej_bi (mL_steps n (xs (y + 1).toNatClampNeg) σ) fun r130 s131 => ej_ck (y + 1) N (ej_bi (ej_lr (m11_steps n (xs (y + 1).toNatClampNeg) s131.2.1) s131) fun r132 s133 => ej_bi (ej_lr (m11_thrown n s133.2.1) s133) fun r134 s135 => (if r134 = r130 then (if r130 = 0 then ej_ck 0 1 ((if lg_cmp (s135.2.2 ((0 : Int32).toNatClampNeg)) (r132.toInt64) = 0 then ej_nm (y + 4) fun x137 => (ih x137 s135) else (some 0))) else ej_nm (y + 4) fun x136 => (ih x136 s135)) else (some 0)))) else (if x1 = 17 then ej_ck (y + 1) N (ej_bi (mL_state n (xs (y + 1).toNatClampNeg) σ) fun r138 s139 => ej_ck (y + 1) N (ej_bi (ej_lr (m11_state n (xs (y + 1).toNatClampNeg) s139.2.1) s139) fun r140 s141 => ej_bi (ej_lr (m11_thrown n s141.2.1) s141) fun r142 s143 => (if r142 = r138 then (if r138 = 0 then ej_ck 0 1 ((if lg_cmp (s143.2.2 ((0 : Int32).toNatClampNeg)) (r140.toInt64) = 0 then ej_nm (y + 4) fun x145 => (ih x145 s143) else (some 0))) else ej_nm (y + 4) fun x144 => (ih x144 s143)) else (some 0)))) else (if x1 = 18 then ej_ck (y + 1) N (ej_ck (y + 2) N (ej_bi (mL_nodeAt n (xs (y + 1).toNatClampNeg) (xs (y + 2).toNatClampNeg) σ) fun r146 s147 => ej_ck (y + 1) N (ej_ck (y + 2) N (ej_bi (ej_lr (m11_nodeAt n (xs (y + 1).toNatClampNeg) (xs (y + 2).toNatClampNeg) s147.2.1) s147) fun r148 s149 => ej_bi (ej_lr (m11_thrown n s149.2.1) s149) fun r150 s151 => (if r150 = r146 then (if r146 = 0 then ej_ck 0 1 ((if lg_cmp (s151.2.2 ((0 : Int32).toNatClampNeg)) (r148.toInt64) = 0 then ej_nm (y + 4) fun x153 => (ih x153 s151) else (some 0))) else ej_nm (y + 4) fun x152 => (ih x152 s151)) else (some 0)))))) else (if x1 = 19 then ej_ck (y + 1) N (ej_ck (y + 2) N (ej_bi (mL_costAt n (xs (y + 1).toNatClampNeg) (xs (y + 2).toNatClampNeg) σ) fun r154 s155 => ej_ck (y + 1) N (ej_ck (y + 2) N (ej_bi (ej_lr (m11_costAt n (xs (y + 1).toNatClampNeg) (xs (y + 2).toNatClampNeg) s155.2.1) s155) fun r156 s157 => ej_bi (ej_lr (m11_thrown n s157.2.1) s157) fun r158 s159 => (if r158 = r154 then (if r154 = 0 then ej_ck 0 1 ((if lg_cmp (s159.2.2 ((0 : Int32).toNatClampNeg)) (r156.toInt64) = 0 then ej_nm (y + 4) fun x161 => (ih x161 s159) else (some 0))) else ej_nm (y + 4) fun x160 => (ih x160 s159)) else (some 0)))))) else (if x1 = 20 then ej_ck (y + 1) N (ej_ck (y + 2) N (ej_bi (mL_stepAt n (xs (y + 1).toNatClampNeg) (xs (y + 2).toNatClampNeg) σ) fun r162 s163 => ej_ck (y + 1) N (ej_ck (y + 2) N (ej_bi (ej_lr (m11_stepAt n (xs (y + 1).toNatClampNeg) (xs (y + 2).toNatClampNeg) s163.2.1) s163) fun r164 s165 => ej_bi (ej_lr (m11_thrown n s165.2.1) s165) fun r166 s167 => (if r166 = r162 then (if r162 = 0 then ej_ck 0 1 ((if lg_cmp (s167.2.2 ((0 : Int32).toNatClampNeg)) (r164.toInt64) = 0 then ej_nm (y + 4) fun x169 => (ih x169 s167) else (some 0))) else ej_nm (y + 4) fun x168 => (ih x168 s167)) else (some 0)))))) else (if x1 = 21 then ej_ck (y + 1) N (ej_ck (y + 2) N (ej_bi (mL_isBack n (xs (y + 1).toNatClampNeg) (xs (y + 2).toNatClampNeg) σ) fun r170 s171 => ej_ck (y + 1) N (ej_ck (y + 2) N (ej_bi (ej_lr (m11_isBack n (xs (y + 1).toNatClampNeg) (xs (y + 2).toNatClampNeg) s171.2.1) s171) fun r172 s173 => ej_bi (ej_lr (m11_thrown n s173.2.1) s173) fun r174 s175 => (if r174 = r170 then (if r170 = 0 then ej_ck 0 1 ((if r172 = 0 then (if lg_cmp (s175.2.2 ((0 : Int32).toNatClampNeg)) 0 = 0 then ej_nm (y + 4) fun x177 => (ih x177 s175) else (some 0)) else (if lg_cmp (s175.2.2 ((0 : Int32).toNatClampNeg)) 1 = 0 then ej_nm (y + 4) fun x178 => (ih x178 s175) else (some 0)))) else ej_nm (y + 4) fun x176 => (ih x176 s175)) else (some 0)))))) else (if x1 = 22 then ej_ck (y + 1) N (ej_bi (mL_print n (xs (y + 1).toNatClampNeg) σ) fun r179 s180 => ej_ck (y + 1) N (ej_bi (ej_lr (m11_print n (xs (y + 1).toNatClampNeg) s180.2.1) s180) fun r181 s182 => ej_bi (ej_lr (m11_thrown n s182.2.1) s182) fun r183 s184 => (if r183 = r179 then (if r179 = 0 then ej_ck 0 1 ((if lg_cmp (s184.2.2 ((0 : Int32).toNatClampNeg)) (r181.toInt64) = 0 then ej_nm (y + 4) fun x186 => (ih x186 s184) else (some 0))) else ej_nm (y + 4) fun x185 => (ih x185 s184)) else (some 0)))) else (if x1 = 23 then ej_bi (ej_lc (m10_rewrite n σ.1) σ) fun r187 s188 => ej_bi (ej_lr (m11_rewrite n s188.2.1) s188) fun r189 s190 => (if r187 = r189 then ej_nm (y + 4) fun x191 => (ih x191 s190) else (some 0)) else (if x1 = 24 then ej_ck (y + 1) N (ej_bl (ej_lc (m10_word n (xs (y + 1).toNatClampNeg) σ.1) σ) fun r192 s193 => ej_ck (y + 1) N (ej_bl (ej_lr (m11_word n (xs (y + 1).toNatClampNeg) s193.2.1) s193) fun r194 s195 => (if lg_cmp r192 r194 = 0 then ej_nm (y + 4) fun x196 => (ih x196 s195) else (some 0)))) else ej_nm (y + 4) fun x197 => (ih x197 σ))))))))))))))))))))))))))))) k
theorem mL_law_s (n N : Nat) (xs : Nat → Int32) (k : Nat) (y : Int32) (σ : lw_S) : mL_law n N xs (k + 1) y σ = ((if (Int32.ofNat N) - 4 < y then (some 1) else ej_ck y N (ej_nm ((xs y.toNatClampNeg) &&& 31) fun x1 => (if x1 = 0 then ej_ck (y + 1) N (ej_ck (y + 2) N (ej_ck (y + 3) N (ej_bi (mL_feed n ((((xs (y + 1).toNatClampNeg).toInt64) <<< ((32 : Int32).toInt64 &&& 63)) ||| (((xs (y + 2).toNatClampNeg).toInt64) &&& 4294967295)) (xs (y + 3).toNatClampNeg) σ) fun r2 s3 => ej_ck (y + 1) N (ej_ck (y + 2) N (ej_ck (y + 3) N (ej_bi (ej_lr (m11_feed n ((((xs (y + 1).toNatClampNeg).toInt64) <<< ((32 : Int32).toInt64 &&& 63)) ||| (((xs (y + 2).toNatClampNeg).toInt64) &&& 4294967295)) (xs (y + 3).toNatClampNeg) s3.2.1) s3) fun r4 s5 => ej_bi (ej_lr (m11_thrown n s5.2.1) s5) fun r6 s7 => (if r6 = r2 then (if r2 = 0 then ej_ck 0 1 ((if lg_cmp (s7.2.2 ((0 : Int32).toNatClampNeg)) (r4.toInt64) = 0 then ej_nm (y + 4) fun x9 => ((mL_law n N xs k) x9 s7) else (some 0))) else ej_nm (y + 4) fun x8 => ((mL_law n N xs k) x8 s7)) else (some 0)))))))) else (if x1 = 1 then ej_ck (y + 1) N (ej_bi (mL_load n (xs (y + 1).toNatClampNeg) σ) fun r10 s11 => ej_ck (y + 1) N (ej_bi (ej_lr (m11_load n (xs (y + 1).toNatClampNeg) s11.2.1) s11) fun r12 s13 => ej_bi (ej_lr (m11_thrown n s13.2.1) s13) fun r14 s15 => (if r14 = r10 then (if r10 = 0 then ej_ck 0 1 ((if lg_cmp (s15.2.2 ((0 : Int32).toNatClampNeg)) (r12.toInt64) = 0 then ej_nm (y + 4) fun x17 => ((mL_law n N xs k) x17 s15) else (some 0))) else ej_nm (y + 4) fun x16 => ((mL_law n N xs k) x16 s15)) else (some 0)))) else (if x1 = 2 then ej_ck (y + 1) N (ej_bi (mL_drop n (xs (y + 1).toNatClampNeg) σ) fun r18 s19 => ej_ck (y + 1) N (ej_bi (ej_lr (m11_drop n (xs (y + 1).toNatClampNeg) s19.2.1) s19) fun r20 s21 => ej_bi (ej_lr (m11_thrown n s21.2.1) s21) fun r22 s23 => (if r22 = r18 then (if r18 = 0 then ej_ck 0 1 ((if lg_cmp (s23.2.2 ((0 : Int32).toNatClampNeg)) (r20.toInt64) = 0 then ej_nm (y + 4) fun x25 => ((mL_law n N xs k) x25 s23) else (some 0))) else ej_nm (y + 4) fun x24 => ((mL_law n N xs k) x24 s23)) else (some 0)))) else (if x1 = 3 then ej_bi (mL_value n  σ) fun r26 s27 => ej_bi (ej_lr (m11_value n s27.2.1) s27) fun r28 s29 => ej_bi (ej_lr (m11_thrown n s29.2.1) s29) fun r30 s31 => (if r30 = r26 then (if r26 = 0 then ej_ck 0 1 ((if lg_cmp (s31.2.2 ((0 : Int32).toNatClampNeg)) (r28.toInt64) = 0 then ej_nm (y + 4) fun x33 => ((mL_law n N xs k) x33 s31) else (some 0))) else ej_nm (y + 4) fun x32 => ((mL_law n N xs k) x32 s31)) else (some 0)) else (if x1 = 4 then ej_ck (y + 1) N ((if xs (y + 1).toNatClampNeg = 0 then ej_bi (ej_lc (m10_fault n 0 σ.1) σ) fun r34 s35 => ej_ck (y + 1) N ((if xs (y + 1).toNatClampNeg = 0 then ej_bi (ej_lr (m11_fault n 0 s35.2.1) s35) fun r36 s37 => (if r34 = r36 then ej_nm (y + 4) fun x38 => ((mL_law n N xs k) x38 s37) else (some 0)) else ej_bi (ej_lr (m11_fault n 1 s35.2.1) s35) fun r39 s40 => (if r34 = r39 then ej_nm (y + 4) fun x41 => ((mL_law n N xs k) x41 s40) else (some 0)))) else ej_bi (ej_lc (m10_fault n 1 σ.1) σ) fun r42 s43 => ej_ck (y + 1) N ((if xs (y + 1).toNatClampNeg = 0 then ej_bi (ej_lr (m11_fault n 0 s43.2.1) s43) fun r44 s45 => (if r42 = r44 then ej_nm (y + 4) fun x46 => ((mL_law n N xs k) x46 s45) else (some 0)) else ej_bi (ej_lr (m11_fault n 1 s43.2.1) s43) fun r47 s48 => (if r42 = r47 then ej_nm (y + 4) fun x49 => ((mL_law n N xs k) x49 s48) else (some 0)))))) else (if x1 = 5 then ej_bi (mL_setHome n  σ) fun r50 s51 => ej_bi (ej_lr (m11_setHome n s51.2.1) s51) fun r52 s53 => ej_bi (ej_lr (m11_thrown n s53.2.1) s53) fun r54 s55 => (if r54 = r50 then (if r50 = 0 then ej_ck 0 1 ((if lg_cmp (s55.2.2 ((0 : Int32).toNatClampNeg)) (r52.toInt64) = 0 then ej_nm (y + 4) fun x57 => ((mL_law n N xs k) x57 s55) else (some 0))) else ej_nm (y + 4) fun x56 => ((mL_law n N xs k) x56 s55)) else (some 0)) else (if x1 = 6 then ej_bi (ej_lc (m10_home n σ.1) σ) fun r58 s59 => ej_bi (ej_lr (m11_home n s59.2.1) s59) fun r60 s61 => (if r58 = r60 then ej_nm (y + 4) fun x62 => ((mL_law n N xs k) x62 s61) else (some 0)) else (if x1 = 7 then ej_bi (ej_lc (m10_lookUp n σ.1) σ) fun r63 s64 => ej_bi (ej_lr (m11_lookUp n s64.2.1) s64) fun r65 s66 => (if r63 = r65 then ej_nm (y + 4) fun x67 => ((mL_law n N xs k) x67 s66) else (some 0)) else (if x1 = 8 then ej_bi (ej_lc (m10_nodes n σ.1) σ) fun r68 s69 => ej_bi (ej_lr (m11_nodes n s69.2.1) s69) fun r70 s71 => (if r68 = r70 then ej_nm (y + 4) fun x72 => ((mL_law n N xs k) x72 s71) else (some 0)) else (if x1 = 9 then ej_ck (y + 1) N (ej_bi (mL_name n (xs (y + 1).toNatClampNeg) σ) fun r73 s74 => ej_ck (y + 1) N (ej_bi (ej_lr (m11_name n (xs (y + 1).toNatClampNeg) s74.2.1) s74) fun r75 s76 => ej_bi (ej_lr (m11_thrown n s76.2.1) s76) fun r77 s78 => (if r77 = r73 then (if r73 = 0 then ej_ck 0 1 ((if lg_cmp (s78.2.2 ((0 : Int32).toNatClampNeg)) (r75.toInt64) = 0 then ej_nm (y + 4) fun x80 => ((mL_law n N xs k) x80 s78) else (some 0))) else ej_nm (y + 4) fun x79 => ((mL_law n N xs k) x79 s78)) else (some 0)))) else (if x1 = 10 then ej_ck (y + 1) N (ej_bi (mL_kind n (xs (y + 1).toNatClampNeg) σ) fun r81 s82 => ej_ck (y + 1) N (ej_bi (ej_lr (m11_kind n (xs (y + 1).toNatClampNeg) s82.2.1) s82) fun r83 s84 => ej_bi (ej_lr (m11_thrown n s84.2.1) s84) fun r85 s86 => (if r85 = r81 then (if r81 = 0 then ej_ck 0 1 ((if lg_cmp (s86.2.2 ((0 : Int32).toNatClampNeg)) (r83.toInt64) = 0 then ej_nm (y + 4) fun x88 => ((mL_law n N xs k) x88 s86) else (some 0))) else ej_nm (y + 4) fun x87 => ((mL_law n N xs k) x87 s86)) else (some 0)))) else (if x1 = 11 then ej_ck (y + 1) N (ej_bi (mL_isPrivate n (xs (y + 1).toNatClampNeg) σ) fun r89 s90 => ej_ck (y + 1) N (ej_bi (ej_lr (m11_isPrivate n (xs (y + 1).toNatClampNeg) s90.2.1) s90) fun r91 s92 => ej_bi (ej_lr (m11_thrown n s92.2.1) s92) fun r93 s94 => (if r93 = r89 then (if r89 = 0 then ej_ck 0 1 ((if r91 = 0 then (if lg_cmp (s94.2.2 ((0 : Int32).toNatClampNeg)) 0 = 0 then ej_nm (y + 4) fun x96 => ((mL_law n N xs k) x96 s94) else (some 0)) else (if lg_cmp (s94.2.2 ((0 : Int32).toNatClampNeg)) 1 = 0 then ej_nm (y + 4) fun x97 => ((mL_law n N xs k) x97 s94) else (some 0)))) else ej_nm (y + 4) fun x95 => ((mL_law n N xs k) x95 s94)) else (some 0)))) else (if x1 = 12 then ej_ck (y + 1) N (ej_ck (y + 2) N (ej_bi (mL_linkCost n (xs (y + 1).toNatClampNeg) (xs (y + 2).toNatClampNeg) σ) fun r98 s99 => ej_ck (y + 1) N (ej_ck (y + 2) N (ej_bi (ej_lr (m11_linkCost n (xs (y + 1).toNatClampNeg) (xs (y + 2).toNatClampNeg) s99.2.1) s99) fun r100 s101 => ej_bi (ej_lr (m11_thrown n s101.2.1) s101) fun r102 s103 => (if r102 = r98 then (if r98 = 0 then ej_ck 0 1 ((if lg_cmp (s103.2.2 ((0 : Int32).toNatClampNeg)) (r100.toInt64) = 0 then ej_nm (y + 4) fun x105 => ((mL_law n N xs k) x105 s103) else (some 0))) else ej_nm (y + 4) fun x104 => ((mL_law n N xs k) x104 s103)) else (some 0)))))) else (if x1 = 13 then ej_ck (y + 1) N (ej_ck (y + 2) N (ej_bi (mL_memberCost n (xs (y + 1).toNatClampNeg) (xs (y + 2).toNatClampNeg) σ) fun r106 s107 => ej_ck (y + 1) N (ej_ck (y + 2) N (ej_bi (ej_lr (m11_memberCost n (xs (y + 1).toNatClampNeg) (xs (y + 2).toNatClampNeg) s107.2.1) s107) fun r108 s109 => ej_bi (ej_lr (m11_thrown n s109.2.1) s109) fun r110 s111 => (if r110 = r106 then (if r106 = 0 then ej_ck 0 1 ((if lg_cmp (s111.2.2 ((0 : Int32).toNatClampNeg)) (r108.toInt64) = 0 then ej_nm (y + 4) fun x113 => ((mL_law n N xs k) x113 s111) else (some 0))) else ej_nm (y + 4) fun x112 => ((mL_law n N xs k) x112 s111)) else (some 0)))))) else (if x1 = 14 then ej_ck (y + 1) N (ej_bi (mL_cost n (xs (y + 1).toNatClampNeg) σ) fun r114 s115 => ej_ck (y + 1) N (ej_bi (ej_lr (m11_cost n (xs (y + 1).toNatClampNeg) s115.2.1) s115) fun r116 s117 => ej_bi (ej_lr (m11_thrown n s117.2.1) s117) fun r118 s119 => (if r118 = r114 then (if r114 = 0 then ej_ck 0 1 ((if lg_cmp (s119.2.2 ((0 : Int32).toNatClampNeg)) (r116.toInt64) = 0 then ej_nm (y + 4) fun x121 => ((mL_law n N xs k) x121 s119) else (some 0))) else ej_nm (y + 4) fun x120 => ((mL_law n N xs k) x120 s119)) else (some 0)))) else (if x1 = 15 then ej_ck (y + 1) N (ej_bi (mL_costByRounds n (xs (y + 1).toNatClampNeg) σ) fun r122 s123 => ej_ck (y + 1) N (ej_bi (ej_lr (m11_costByRounds n (xs (y + 1).toNatClampNeg) s123.2.1) s123) fun r124 s125 => ej_bi (ej_lr (m11_thrown n s125.2.1) s125) fun r126 s127 => (if r126 = r122 then (if r122 = 0 then ej_ck 0 1 ((if lg_cmp (s127.2.2 ((0 : Int32).toNatClampNeg)) (r124.toInt64) = 0 then ej_nm (y + 4) fun x129 => ((mL_law n N xs k) x129 s127) else (some 0))) else ej_nm (y + 4) fun x128 => ((mL_law n N xs k) x128 s127)) else (some 0)))) else (if x1 = 16 then ej_ck (y + 1) N (ej_bi (mL_steps n (xs (y + 1).toNatClampNeg) σ) fun r130 s131 => ej_ck (y + 1) N (ej_bi (ej_lr (m11_steps n (xs (y + 1).toNatClampNeg) s131.2.1) s131) fun r132 s133 => ej_bi (ej_lr (m11_thrown n s133.2.1) s133) fun r134 s135 => (if r134 = r130 then (if r130 = 0 then ej_ck 0 1 ((if lg_cmp (s135.2.2 ((0 : Int32).toNatClampNeg)) (r132.toInt64) = 0 then ej_nm (y + 4) fun x137 => ((mL_law n N xs k) x137 s135) else (some 0))) else ej_nm (y + 4) fun x136 => ((mL_law n N xs k) x136 s135)) else (some 0)))) else (if x1 = 17 then ej_ck (y + 1) N (ej_bi (mL_state n (xs (y + 1).toNatClampNeg) σ) fun r138 s139 => ej_ck (y + 1) N (ej_bi (ej_lr (m11_state n (xs (y + 1).toNatClampNeg) s139.2.1) s139) fun r140 s141 => ej_bi (ej_lr (m11_thrown n s141.2.1) s141) fun r142 s143 => (if r142 = r138 then (if r138 = 0 then ej_ck 0 1 ((if lg_cmp (s143.2.2 ((0 : Int32).toNatClampNeg)) (r140.toInt64) = 0 then ej_nm (y + 4) fun x145 => ((mL_law n N xs k) x145 s143) else (some 0))) else ej_nm (y + 4) fun x144 => ((mL_law n N xs k) x144 s143)) else (some 0)))) else (if x1 = 18 then ej_ck (y + 1) N (ej_ck (y + 2) N (ej_bi (mL_nodeAt n (xs (y + 1).toNatClampNeg) (xs (y + 2).toNatClampNeg) σ) fun r146 s147 => ej_ck (y + 1) N (ej_ck (y + 2) N (ej_bi (ej_lr (m11_nodeAt n (xs (y + 1).toNatClampNeg) (xs (y + 2).toNatClampNeg) s147.2.1) s147) fun r148 s149 => ej_bi (ej_lr (m11_thrown n s149.2.1) s149) fun r150 s151 => (if r150 = r146 then (if r146 = 0 then ej_ck 0 1 ((if lg_cmp (s151.2.2 ((0 : Int32).toNatClampNeg)) (r148.toInt64) = 0 then ej_nm (y + 4) fun x153 => ((mL_law n N xs k) x153 s151) else (some 0))) else ej_nm (y + 4) fun x152 => ((mL_law n N xs k) x152 s151)) else (some 0)))))) else (if x1 = 19 then ej_ck (y + 1) N (ej_ck (y + 2) N (ej_bi (mL_costAt n (xs (y + 1).toNatClampNeg) (xs (y + 2).toNatClampNeg) σ) fun r154 s155 => ej_ck (y + 1) N (ej_ck (y + 2) N (ej_bi (ej_lr (m11_costAt n (xs (y + 1).toNatClampNeg) (xs (y + 2).toNatClampNeg) s155.2.1) s155) fun r156 s157 => ej_bi (ej_lr (m11_thrown n s157.2.1) s157) fun r158 s159 => (if r158 = r154 then (if r154 = 0 then ej_ck 0 1 ((if lg_cmp (s159.2.2 ((0 : Int32).toNatClampNeg)) (r156.toInt64) = 0 then ej_nm (y + 4) fun x161 => ((mL_law n N xs k) x161 s159) else (some 0))) else ej_nm (y + 4) fun x160 => ((mL_law n N xs k) x160 s159)) else (some 0)))))) else (if x1 = 20 then ej_ck (y + 1) N (ej_ck (y + 2) N (ej_bi (mL_stepAt n (xs (y + 1).toNatClampNeg) (xs (y + 2).toNatClampNeg) σ) fun r162 s163 => ej_ck (y + 1) N (ej_ck (y + 2) N (ej_bi (ej_lr (m11_stepAt n (xs (y + 1).toNatClampNeg) (xs (y + 2).toNatClampNeg) s163.2.1) s163) fun r164 s165 => ej_bi (ej_lr (m11_thrown n s165.2.1) s165) fun r166 s167 => (if r166 = r162 then (if r162 = 0 then ej_ck 0 1 ((if lg_cmp (s167.2.2 ((0 : Int32).toNatClampNeg)) (r164.toInt64) = 0 then ej_nm (y + 4) fun x169 => ((mL_law n N xs k) x169 s167) else (some 0))) else ej_nm (y + 4) fun x168 => ((mL_law n N xs k) x168 s167)) else (some 0)))))) else (if x1 = 21 then ej_ck (y + 1) N (ej_ck (y + 2) N (ej_bi (mL_isBack n (xs (y + 1).toNatClampNeg) (xs (y + 2).toNatClampNeg) σ) fun r170 s171 => ej_ck (y + 1) N (ej_ck (y + 2) N (ej_bi (ej_lr (m11_isBack n (xs (y + 1).toNatClampNeg) (xs (y + 2).toNatClampNeg) s171.2.1) s171) fun r172 s173 => ej_bi (ej_lr (m11_thrown n s173.2.1) s173) fun r174 s175 => (if r174 = r170 then (if r170 = 0 then ej_ck 0 1 ((if r172 = 0 then (if lg_cmp (s175.2.2 ((0 : Int32).toNatClampNeg)) 0 = 0 then ej_nm (y + 4) fun x177 => ((mL_law n N xs k) x177 s175) else (some 0)) else (if lg_cmp (s175.2.2 ((0 : Int32).toNatClampNeg)) 1 = 0 then ej_nm (y + 4) fun x178 => ((mL_law n N xs k) x178 s175) else (some 0)))) else ej_nm (y + 4) fun x176 => ((mL_law n N xs k) x176 s175)) else (some 0)))))) else (if x1 = 22 then ej_ck (y + 1) N (ej_bi (mL_print n (xs (y + 1).toNatClampNeg) σ) fun r179 s180 => ej_ck (y + 1) N (ej_bi (ej_lr (m11_print n (xs (y + 1).toNatClampNeg) s180.2.1) s180) fun r181 s182 => ej_bi (ej_lr (m11_thrown n s182.2.1) s182) fun r183 s184 => (if r183 = r179 then (if r179 = 0 then ej_ck 0 1 ((if lg_cmp (s184.2.2 ((0 : Int32).toNatClampNeg)) (r181.toInt64) = 0 then ej_nm (y + 4) fun x186 => ((mL_law n N xs k) x186 s184) else (some 0))) else ej_nm (y + 4) fun x185 => ((mL_law n N xs k) x185 s184)) else (some 0)))) else (if x1 = 23 then ej_bi (ej_lc (m10_rewrite n σ.1) σ) fun r187 s188 => ej_bi (ej_lr (m11_rewrite n s188.2.1) s188) fun r189 s190 => (if r187 = r189 then ej_nm (y + 4) fun x191 => ((mL_law n N xs k) x191 s190) else (some 0)) else (if x1 = 24 then ej_ck (y + 1) N (ej_bl (ej_lc (m10_word n (xs (y + 1).toNatClampNeg) σ.1) σ) fun r192 s193 => ej_ck (y + 1) N (ej_bl (ej_lr (m11_word n (xs (y + 1).toNatClampNeg) s193.2.1) s193) fun r194 s195 => (if lg_cmp r192 r194 = 0 then ej_nm (y + 4) fun x196 => ((mL_law n N xs k) x196 s195) else (some 0)))) else ej_nm (y + 4) fun x197 => ((mL_law n N xs k) x197 σ)))))))))))))))))))))))))))) : Option Int32) := rfl
set_option maxRecDepth 20000 in
set_option maxHeartbeats 2000000 in
theorem jL_law (x : cw_T) (n : Nat) {b N : Nat} {xs : Nat → Int32} : ∀ (k : Nat) {F : ej_F} (hq : ej_finL b N xs F (2 * k) (12 * k)) (y : Int32) (σ : lw_S), ej_J (lV x) F iL_law (1 : Int32) σ 23 [(0, .ref (b)), (1, .ref (cw_a x 0)), (2, .ref (cw_a x 200)), (3, .ref (cw_a x 300)), (4, .int y)] [] (mL_law n N xs k y σ) := by
  intro k
  induction k with
  | zero => intro F hq y σ; exact j_none
  | succ k ih =>
    intro F hq y σ
    rw [mL_law_s]
    refine j_iload 4 rfl d_law_23 ?_
    refine j_aload_n 0 rfl d_law_25 ?_
    refine jl_slen hq d_law_26 ?_
    refine j_iconst d_law_27 ejc_4 ?_
    refine j_isub d_law_28 ?_
    refine j_icmp_gt d_law_29 ?_ ?_
    · refine j_iconst d_law_1447 ejc_1 ?_
      exact jl_ret1 hq rfl d_law_1448
    · refine j_aload_n 0 rfl d_law_32 ?_
      refine j_iload 4 rfl d_law_33 ?_
      refine jl_sld hq d_law_35 ?_
      refine j_bipush d_law_36 ejb_31 ?_
      refine j_iand d_law_38 ?_
      refine j_nmi (fun x1 => ?_)
      refine j_tab1 (v := 0) (off := 113) (t := 152) d_law_39 (by decide) (by decide) rfl (by decide) ?_ (fun hne0 => ?_)
      · refine j_aload_n 1 rfl d_law_152 ?_
        refine j_aload_n 0 rfl d_law_153 ?_
        refine j_iload 4 rfl d_law_154 ?_
        refine j_iconst d_law_156 ejc_1 ?_
        refine j_iadd d_law_157 ?_
        refine jl_sld hq d_law_158 ?_
        refine j_i2l d_law_159 ?_
        refine j_bipush d_law_160 ejb_32 ?_
        refine j_lshl d_law_162 ?_
        refine j_aload_n 0 rfl d_law_163 ?_
        refine j_iload 4 rfl d_law_164 ?_
        refine j_iconst d_law_166 ejc_2 ?_
        refine j_iadd d_law_167 ?_
        refine jl_sld hq d_law_168 ?_
        refine j_i2l d_law_169 ?_
        refine j_ldc2 d_law_170 kl_L_82 ?_
        refine j_land d_law_173 ?_
        refine j_lor d_law_174 ?_
        refine j_aload_n 0 rfl d_law_175 ?_
        refine j_iload 4 rfl d_law_176 ?_
        refine j_iconst d_law_178 ejc_3 ?_
        refine j_iadd d_law_179 ?_
        refine jl_sld hq d_law_180 ?_
        refine j_aload_n 3 rfl d_law_181 ?_
        refine jl_call (kL_feed x n ((((xs (y + 1).toNatClampNeg).toInt64) <<< ((32 : Int32).toInt64 &&& 63)) ||| (((xs (y + 2).toNatClampNeg).toInt64) &&& 4294967295)) (xs (y + 3).toNatClampNeg) σ) lw_L_84 ⟨Nat.le_of_ble_eq_true rfl, Nat.le_of_ble_eq_true rfl⟩ d_law_182 rfl (Nat.le_of_ble_eq_true rfl) hq (by omega) (by omega) (fun r2 s3 => ?_)
        refine j_istore (i := 5) (L' := [(5, .int r2), (0, .ref (b)), (1, .ref (cw_a x 0)), (2, .ref (cw_a x 200)), (3, .ref (cw_a x 300)), (4, .int y)]) d_law_185 (Nat.le_of_ble_eq_true rfl) rfl ?_
        refine j_aload_n 3 rfl d_law_187 ?_
        refine j_aload_n 1 rfl d_law_188 ?_
        refine j_iload 5 rfl d_law_189 ?_
        refine j_iconst d_law_191 ejc_1 ?_
        refine j_iadd d_law_192 ?_
        refine jl_sld (ej_finLu (kc' := 0) (ks' := 0) hq (by omega) (by omega)) d_law_193 ?_
        refine j_i2l d_law_194 ?_
        refine j_bipush d_law_195 ejb_32 ?_
        refine j_lshl d_law_197 ?_
        refine j_aload_n 1 rfl d_law_198 ?_
        refine j_iload 5 rfl d_law_199 ?_
        refine j_iconst d_law_201 ejc_2 ?_
        refine j_iadd d_law_202 ?_
        refine jl_sld (ej_finLu (kc' := 0) (ks' := 0) hq (by omega) (by omega)) d_law_203 ?_
        refine j_i2l d_law_204 ?_
        refine j_ldc2 d_law_205 kl_L_82 ?_
        refine j_land d_law_208 ?_
        refine j_lor d_law_209 ?_
        refine j_aload_n 1 rfl d_law_210 ?_
        refine j_iload 5 rfl d_law_211 ?_
        refine j_iconst d_law_213 ejc_3 ?_
        refine j_iadd d_law_214 ?_
        refine jl_sld (ej_finLu (kc' := 0) (ks' := 0) hq (by omega) (by omega)) d_law_215 ?_
        refine j_callVi (fun z1 z2 z3 z4 => lr_con (f := fun r => some (.int r)) (fun z5 z6 z7 => c11_feed x n ((((xs (y + 1).toNatClampNeg).toInt64) <<< ((32 : Int32).toInt64 &&& 63)) ||| (((xs (y + 2).toNatClampNeg).toInt64) &&& 4294967295)) (xs (y + 3).toNatClampNeg) s3.2.1 z5 z6 z7 z4) z1 z2 z3) lv_L_89 (lV_rc_200 x s3) ⟨Nat.le_of_ble_eq_true rfl, Nat.le_of_ble_eq_true rfl⟩ d_law_216 rfl (Nat.le_of_ble_eq_true rfl) (fun r4 s5 => ?_)
        refine j_istore (i := 6) (L' := [(6, .int r4), (5, .int r2), (0, .ref (b)), (1, .ref (cw_a x 0)), (2, .ref (cw_a x 200)), (3, .ref (cw_a x 300)), (4, .int y)]) d_law_219 (Nat.le_of_ble_eq_true rfl) rfl ?_
        refine j_aload_n 4 rfl d_law_221 ?_
        refine j_callVi (fun z1 z2 z3 z4 => lr_con (f := fun r => some (.int r)) (fun z5 z6 z7 => c11_thrown x n s5.2.1 z5 z6 z7 z4) z1 z2 z3) lv_L_90 (lV_rc_200 x s5) ⟨Nat.le_of_ble_eq_true rfl, Nat.le_of_ble_eq_true rfl⟩ d_law_222 rfl (Nat.le_of_ble_eq_true rfl) (fun r6 s7 => ?_)
        refine j_iload 1 rfl d_law_225 ?_
        refine j_icmp_eq d_law_227 ?_ ?_
        · refine j_iload 1 rfl d_law_232 ?_
          refine j_if_ne d_law_234 ?_ ?_
          · refine j_goto d_law_249 ?_
            refine j_iinc (i := 4) (v := 4) (Ly := fun x8 => [(4, .int x8), (6, .int r4), (5, .int r2), (0, .ref (b)), (1, .ref (cw_a x 0)), (2, .ref (cw_a x 200)), (3, .ref (cw_a x 300))]) 6 d_law_1441 rfl ejc_4 (Nat.le_of_ble_eq_true rfl) (fun _ => rfl) (fun x8 => ?_)
            refine j_goto d_law_1444 ?_
            exact j_sub [3, 4, 5, 6, 0] rfl (ih (ej_finLu hq (by omega) (by omega)) x8 s7)
          · refine j_aload_n 5 rfl d_law_237 ?_
            refine j_iconst d_law_238 ejc_0 ?_
            refine j_lald (lV_a_300 x s7) d_law_239 ?_
            refine j_iload 0 rfl d_law_240 ?_
            refine j_i2l d_law_242 ?_
            refine j_lcmp d_law_243 ?_
            refine j_if_eq d_law_244 ?_ ?_
            · refine j_goto d_law_249 ?_
              refine j_iinc (i := 4) (v := 4) (Ly := fun x9 => [(4, .int x9), (6, .int r4), (5, .int r2), (0, .ref (b)), (1, .ref (cw_a x 0)), (2, .ref (cw_a x 200)), (3, .ref (cw_a x 300))]) 6 d_law_1441 rfl ejc_4 (Nat.le_of_ble_eq_true rfl) (fun _ => rfl) (fun x9 => ?_)
              refine j_goto d_law_1444 ?_
              exact j_sub [3, 4, 5, 6, 0] rfl (ih (ej_finLu hq (by omega) (by omega)) x9 s7)
            · refine j_iconst d_law_247 ejc_0 ?_
              exact jl_ret0
        · refine j_iconst d_law_230 ejc_0 ?_
          exact jl_ret0
      refine j_tab1 (v := 1) (off := 213) (t := 252) d_law_39 (by decide) (by decide) rfl (by decide) ?_ (fun hne1 => ?_)
      · refine j_aload_n 1 rfl d_law_252 ?_
        refine j_aload_n 0 rfl d_law_253 ?_
        refine j_iload 4 rfl d_law_254 ?_
        refine j_iconst d_law_256 ejc_1 ?_
        refine j_iadd d_law_257 ?_
        refine jl_sld hq d_law_258 ?_
        refine j_aload_n 3 rfl d_law_259 ?_
        refine jl_call (kL_load x n (xs (y + 1).toNatClampNeg) σ) lw_L_93 ⟨Nat.le_of_ble_eq_true rfl, Nat.le_of_ble_eq_true rfl⟩ d_law_260 rfl (Nat.le_of_ble_eq_true rfl) hq (by omega) (by omega) (fun r10 s11 => ?_)
        refine j_istore (i := 5) (L' := [(5, .int r10), (0, .ref (b)), (1, .ref (cw_a x 0)), (2, .ref (cw_a x 200)), (3, .ref (cw_a x 300)), (4, .int y)]) d_law_263 (Nat.le_of_ble_eq_true rfl) rfl ?_
        refine j_aload_n 3 rfl d_law_265 ?_
        refine j_aload_n 1 rfl d_law_266 ?_
        refine j_iload 5 rfl d_law_267 ?_
        refine j_iconst d_law_269 ejc_1 ?_
        refine j_iadd d_law_270 ?_
        refine jl_sld (ej_finLu (kc' := 0) (ks' := 0) hq (by omega) (by omega)) d_law_271 ?_
        refine j_callVi (fun z1 z2 z3 z4 => lr_con (f := fun r => some (.int r)) (fun z5 z6 z7 => c11_load x n (xs (y + 1).toNatClampNeg) s11.2.1 z5 z6 z7 z4) z1 z2 z3) lv_L_96 (lV_rc_200 x s11) ⟨Nat.le_of_ble_eq_true rfl, Nat.le_of_ble_eq_true rfl⟩ d_law_272 rfl (Nat.le_of_ble_eq_true rfl) (fun r12 s13 => ?_)
        refine j_istore (i := 6) (L' := [(6, .int r12), (5, .int r10), (0, .ref (b)), (1, .ref (cw_a x 0)), (2, .ref (cw_a x 200)), (3, .ref (cw_a x 300)), (4, .int y)]) d_law_275 (Nat.le_of_ble_eq_true rfl) rfl ?_
        refine j_aload_n 4 rfl d_law_277 ?_
        refine j_callVi (fun z1 z2 z3 z4 => lr_con (f := fun r => some (.int r)) (fun z5 z6 z7 => c11_thrown x n s13.2.1 z5 z6 z7 z4) z1 z2 z3) lv_L_90 (lV_rc_200 x s13) ⟨Nat.le_of_ble_eq_true rfl, Nat.le_of_ble_eq_true rfl⟩ d_law_278 rfl (Nat.le_of_ble_eq_true rfl) (fun r14 s15 => ?_)
        refine j_iload 1 rfl d_law_281 ?_
        refine j_icmp_eq d_law_283 ?_ ?_
        · refine j_iload 1 rfl d_law_288 ?_
          refine j_if_ne d_law_290 ?_ ?_
          · refine j_goto d_law_305 ?_
            refine j_iinc (i := 4) (v := 4) (Ly := fun x16 => [(4, .int x16), (6, .int r12), (5, .int r10), (0, .ref (b)), (1, .ref (cw_a x 0)), (2, .ref (cw_a x 200)), (3, .ref (cw_a x 300))]) 6 d_law_1441 rfl ejc_4 (Nat.le_of_ble_eq_true rfl) (fun _ => rfl) (fun x16 => ?_)
            refine j_goto d_law_1444 ?_
            exact j_sub [3, 4, 5, 6, 0] rfl (ih (ej_finLu hq (by omega) (by omega)) x16 s15)
          · refine j_aload_n 5 rfl d_law_293 ?_
            refine j_iconst d_law_294 ejc_0 ?_
            refine j_lald (lV_a_300 x s15) d_law_295 ?_
            refine j_iload 0 rfl d_law_296 ?_
            refine j_i2l d_law_298 ?_
            refine j_lcmp d_law_299 ?_
            refine j_if_eq d_law_300 ?_ ?_
            · refine j_goto d_law_305 ?_
              refine j_iinc (i := 4) (v := 4) (Ly := fun x17 => [(4, .int x17), (6, .int r12), (5, .int r10), (0, .ref (b)), (1, .ref (cw_a x 0)), (2, .ref (cw_a x 200)), (3, .ref (cw_a x 300))]) 6 d_law_1441 rfl ejc_4 (Nat.le_of_ble_eq_true rfl) (fun _ => rfl) (fun x17 => ?_)
              refine j_goto d_law_1444 ?_
              exact j_sub [3, 4, 5, 6, 0] rfl (ih (ej_finLu hq (by omega) (by omega)) x17 s15)
            · refine j_iconst d_law_303 ejc_0 ?_
              exact jl_ret0
        · refine j_iconst d_law_286 ejc_0 ?_
          exact jl_ret0
      refine j_tab1 (v := 2) (off := 269) (t := 308) d_law_39 (by decide) (by decide) rfl (by decide) ?_ (fun hne2 => ?_)
      · refine j_aload_n 1 rfl d_law_308 ?_
        refine j_aload_n 0 rfl d_law_309 ?_
        refine j_iload 4 rfl d_law_310 ?_
        refine j_iconst d_law_312 ejc_1 ?_
        refine j_iadd d_law_313 ?_
        refine jl_sld hq d_law_314 ?_
        refine j_aload_n 3 rfl d_law_315 ?_
        refine jl_call (kL_drop x n (xs (y + 1).toNatClampNeg) σ) lw_L_97 ⟨Nat.le_of_ble_eq_true rfl, Nat.le_of_ble_eq_true rfl⟩ d_law_316 rfl (Nat.le_of_ble_eq_true rfl) hq (by omega) (by omega) (fun r18 s19 => ?_)
        refine j_istore (i := 5) (L' := [(5, .int r18), (0, .ref (b)), (1, .ref (cw_a x 0)), (2, .ref (cw_a x 200)), (3, .ref (cw_a x 300)), (4, .int y)]) d_law_319 (Nat.le_of_ble_eq_true rfl) rfl ?_
        refine j_aload_n 3 rfl d_law_321 ?_
        refine j_aload_n 1 rfl d_law_322 ?_
        refine j_iload 5 rfl d_law_323 ?_
        refine j_iconst d_law_325 ejc_1 ?_
        refine j_iadd d_law_326 ?_
        refine jl_sld (ej_finLu (kc' := 0) (ks' := 0) hq (by omega) (by omega)) d_law_327 ?_
        refine j_callVi (fun z1 z2 z3 z4 => lr_con (f := fun r => some (.int r)) (fun z5 z6 z7 => c11_drop x n (xs (y + 1).toNatClampNeg) s19.2.1 z5 z6 z7 z4) z1 z2 z3) lv_L_99 (lV_rc_200 x s19) ⟨Nat.le_of_ble_eq_true rfl, Nat.le_of_ble_eq_true rfl⟩ d_law_328 rfl (Nat.le_of_ble_eq_true rfl) (fun r20 s21 => ?_)
        refine j_istore (i := 6) (L' := [(6, .int r20), (5, .int r18), (0, .ref (b)), (1, .ref (cw_a x 0)), (2, .ref (cw_a x 200)), (3, .ref (cw_a x 300)), (4, .int y)]) d_law_331 (Nat.le_of_ble_eq_true rfl) rfl ?_
        refine j_aload_n 4 rfl d_law_333 ?_
        refine j_callVi (fun z1 z2 z3 z4 => lr_con (f := fun r => some (.int r)) (fun z5 z6 z7 => c11_thrown x n s21.2.1 z5 z6 z7 z4) z1 z2 z3) lv_L_90 (lV_rc_200 x s21) ⟨Nat.le_of_ble_eq_true rfl, Nat.le_of_ble_eq_true rfl⟩ d_law_334 rfl (Nat.le_of_ble_eq_true rfl) (fun r22 s23 => ?_)
        refine j_iload 1 rfl d_law_337 ?_
        refine j_icmp_eq d_law_339 ?_ ?_
        · refine j_iload 1 rfl d_law_344 ?_
          refine j_if_ne d_law_346 ?_ ?_
          · refine j_goto d_law_361 ?_
            refine j_iinc (i := 4) (v := 4) (Ly := fun x24 => [(4, .int x24), (6, .int r20), (5, .int r18), (0, .ref (b)), (1, .ref (cw_a x 0)), (2, .ref (cw_a x 200)), (3, .ref (cw_a x 300))]) 6 d_law_1441 rfl ejc_4 (Nat.le_of_ble_eq_true rfl) (fun _ => rfl) (fun x24 => ?_)
            refine j_goto d_law_1444 ?_
            exact j_sub [3, 4, 5, 6, 0] rfl (ih (ej_finLu hq (by omega) (by omega)) x24 s23)
          · refine j_aload_n 5 rfl d_law_349 ?_
            refine j_iconst d_law_350 ejc_0 ?_
            refine j_lald (lV_a_300 x s23) d_law_351 ?_
            refine j_iload 0 rfl d_law_352 ?_
            refine j_i2l d_law_354 ?_
            refine j_lcmp d_law_355 ?_
            refine j_if_eq d_law_356 ?_ ?_
            · refine j_goto d_law_361 ?_
              refine j_iinc (i := 4) (v := 4) (Ly := fun x25 => [(4, .int x25), (6, .int r20), (5, .int r18), (0, .ref (b)), (1, .ref (cw_a x 0)), (2, .ref (cw_a x 200)), (3, .ref (cw_a x 300))]) 6 d_law_1441 rfl ejc_4 (Nat.le_of_ble_eq_true rfl) (fun _ => rfl) (fun x25 => ?_)
              refine j_goto d_law_1444 ?_
              exact j_sub [3, 4, 5, 6, 0] rfl (ih (ej_finLu hq (by omega) (by omega)) x25 s23)
            · refine j_iconst d_law_359 ejc_0 ?_
              exact jl_ret0
        · refine j_iconst d_law_342 ejc_0 ?_
          exact jl_ret0
      refine j_tab1 (v := 3) (off := 325) (t := 364) d_law_39 (by decide) (by decide) rfl (by decide) ?_ (fun hne3 => ?_)
      · refine j_aload_n 1 rfl d_law_364 ?_
        refine j_aload_n 3 rfl d_law_365 ?_
        refine jl_call (kL_value x n  σ) lw_L_100 ⟨Nat.le_of_ble_eq_true rfl, Nat.le_of_ble_eq_true rfl⟩ d_law_366 rfl (Nat.le_of_ble_eq_true rfl) hq (by omega) (by omega) (fun r26 s27 => ?_)
        refine j_istore (i := 5) (L' := [(5, .int r26), (0, .ref (b)), (1, .ref (cw_a x 0)), (2, .ref (cw_a x 200)), (3, .ref (cw_a x 300)), (4, .int y)]) d_law_369 (Nat.le_of_ble_eq_true rfl) rfl ?_
        refine j_aload_n 3 rfl d_law_371 ?_
        refine j_callVi (fun z1 z2 z3 z4 => lr_con (f := fun r => some (.int r)) (fun z5 z6 z7 => c11_value x n s27.2.1 z5 z6 z7 z4) z1 z2 z3) lv_L_103 (lV_rc_200 x s27) ⟨Nat.le_of_ble_eq_true rfl, Nat.le_of_ble_eq_true rfl⟩ d_law_372 rfl (Nat.le_of_ble_eq_true rfl) (fun r28 s29 => ?_)
        refine j_istore (i := 6) (L' := [(6, .int r28), (5, .int r26), (0, .ref (b)), (1, .ref (cw_a x 0)), (2, .ref (cw_a x 200)), (3, .ref (cw_a x 300)), (4, .int y)]) d_law_375 (Nat.le_of_ble_eq_true rfl) rfl ?_
        refine j_aload_n 4 rfl d_law_377 ?_
        refine j_callVi (fun z1 z2 z3 z4 => lr_con (f := fun r => some (.int r)) (fun z5 z6 z7 => c11_thrown x n s29.2.1 z5 z6 z7 z4) z1 z2 z3) lv_L_90 (lV_rc_200 x s29) ⟨Nat.le_of_ble_eq_true rfl, Nat.le_of_ble_eq_true rfl⟩ d_law_378 rfl (Nat.le_of_ble_eq_true rfl) (fun r30 s31 => ?_)
        refine j_iload 1 rfl d_law_381 ?_
        refine j_icmp_eq d_law_383 ?_ ?_
        · refine j_iload 1 rfl d_law_388 ?_
          refine j_if_ne d_law_390 ?_ ?_
          · refine j_goto d_law_405 ?_
            refine j_iinc (i := 4) (v := 4) (Ly := fun x32 => [(4, .int x32), (6, .int r28), (5, .int r26), (0, .ref (b)), (1, .ref (cw_a x 0)), (2, .ref (cw_a x 200)), (3, .ref (cw_a x 300))]) 6 d_law_1441 rfl ejc_4 (Nat.le_of_ble_eq_true rfl) (fun _ => rfl) (fun x32 => ?_)
            refine j_goto d_law_1444 ?_
            exact j_sub [3, 4, 5, 6, 0] rfl (ih (ej_finLu hq (by omega) (by omega)) x32 s31)
          · refine j_aload_n 5 rfl d_law_393 ?_
            refine j_iconst d_law_394 ejc_0 ?_
            refine j_lald (lV_a_300 x s31) d_law_395 ?_
            refine j_iload 0 rfl d_law_396 ?_
            refine j_i2l d_law_398 ?_
            refine j_lcmp d_law_399 ?_
            refine j_if_eq d_law_400 ?_ ?_
            · refine j_goto d_law_405 ?_
              refine j_iinc (i := 4) (v := 4) (Ly := fun x33 => [(4, .int x33), (6, .int r28), (5, .int r26), (0, .ref (b)), (1, .ref (cw_a x 0)), (2, .ref (cw_a x 200)), (3, .ref (cw_a x 300))]) 6 d_law_1441 rfl ejc_4 (Nat.le_of_ble_eq_true rfl) (fun _ => rfl) (fun x33 => ?_)
              refine j_goto d_law_1444 ?_
              exact j_sub [3, 4, 5, 6, 0] rfl (ih (ej_finLu hq (by omega) (by omega)) x33 s31)
            · refine j_iconst d_law_403 ejc_0 ?_
              exact jl_ret0
        · refine j_iconst d_law_386 ejc_0 ?_
          exact jl_ret0
      refine j_tab1 (v := 4) (off := 369) (t := 408) d_law_39 (by decide) (by decide) rfl (by decide) ?_ (fun hne4 => ?_)
      · refine j_aload_n 1 rfl d_law_408 ?_
        refine j_aload_n 0 rfl d_law_409 ?_
        refine j_iload 4 rfl d_law_410 ?_
        refine j_iconst d_law_412 ejc_1 ?_
        refine j_iadd d_law_413 ?_
        refine jl_sld hq d_law_414 ?_
        refine j_if_eq d_law_415 ?_ ?_
        · refine j_iconst d_law_422 ejc_0 ?_
          refine j_callVi (fun z1 z2 z3 z4 => lc_con (f := fun r => some (.int r)) (fun z5 z6 z7 => c10_fault x n 0 σ.1 z5 z6 z7 z4) z1 z2 z3) lv_L_104 (lV_rc_0 x σ) ⟨Nat.le_of_ble_eq_true rfl, Nat.le_of_ble_eq_true rfl⟩ d_law_423 rfl (Nat.le_of_ble_eq_true rfl) (fun r34 s35 => ?_)
          refine j_aload_n 2 rfl d_law_426 ?_
          refine j_aload_n 0 rfl d_law_427 ?_
          refine j_iload 4 rfl d_law_428 ?_
          refine j_iconst d_law_430 ejc_1 ?_
          refine j_iadd d_law_431 ?_
          refine jl_sld hq d_law_432 ?_
          refine j_if_eq d_law_433 ?_ ?_
          · refine j_iconst d_law_440 ejc_0 ?_
            refine j_callVi (fun z1 z2 z3 z4 => lr_con (f := fun r => some (.int r)) (fun z5 z6 z7 => c11_fault x n 0 s35.2.1 z5 z6 z7 z4) z1 z2 z3) lv_L_108 (lV_rc_200 x s35) ⟨Nat.le_of_ble_eq_true rfl, Nat.le_of_ble_eq_true rfl⟩ d_law_441 rfl (Nat.le_of_ble_eq_true rfl) (fun r36 s37 => ?_)
            refine j_icmp_eq d_law_444 ?_ ?_
            · refine j_iinc (i := 4) (v := 4) (Ly := fun x38 => [(4, .int x38), (0, .ref (b)), (1, .ref (cw_a x 0)), (2, .ref (cw_a x 200)), (3, .ref (cw_a x 300))]) 4 d_law_1441 rfl ejc_4 (Nat.le_of_ble_eq_true rfl) (fun _ => rfl) (fun x38 => ?_)
              refine j_goto d_law_1444 ?_
              exact j_sub [1, 2, 3, 4, 0] rfl (ih (ej_finLw hq (by omega) (by omega)) x38 s37)
            · refine j_iconst d_law_447 ejc_0 ?_
              exact jl_ret0
          · refine j_iconst d_law_436 ejc_1 ?_
            refine j_goto d_law_437 ?_
            refine j_callVi (fun z1 z2 z3 z4 => lr_con (f := fun r => some (.int r)) (fun z5 z6 z7 => c11_fault x n 1 s35.2.1 z5 z6 z7 z4) z1 z2 z3) lv_L_108 (lV_rc_200 x s35) ⟨Nat.le_of_ble_eq_true rfl, Nat.le_of_ble_eq_true rfl⟩ d_law_441 rfl (Nat.le_of_ble_eq_true rfl) (fun r39 s40 => ?_)
            refine j_icmp_eq d_law_444 ?_ ?_
            · refine j_iinc (i := 4) (v := 4) (Ly := fun x41 => [(4, .int x41), (0, .ref (b)), (1, .ref (cw_a x 0)), (2, .ref (cw_a x 200)), (3, .ref (cw_a x 300))]) 4 d_law_1441 rfl ejc_4 (Nat.le_of_ble_eq_true rfl) (fun _ => rfl) (fun x41 => ?_)
              refine j_goto d_law_1444 ?_
              exact j_sub [1, 2, 3, 4, 0] rfl (ih (ej_finLw hq (by omega) (by omega)) x41 s40)
            · refine j_iconst d_law_447 ejc_0 ?_
              exact jl_ret0
        · refine j_iconst d_law_418 ejc_1 ?_
          refine j_goto d_law_419 ?_
          refine j_callVi (fun z1 z2 z3 z4 => lc_con (f := fun r => some (.int r)) (fun z5 z6 z7 => c10_fault x n 1 σ.1 z5 z6 z7 z4) z1 z2 z3) lv_L_104 (lV_rc_0 x σ) ⟨Nat.le_of_ble_eq_true rfl, Nat.le_of_ble_eq_true rfl⟩ d_law_423 rfl (Nat.le_of_ble_eq_true rfl) (fun r42 s43 => ?_)
          refine j_aload_n 2 rfl d_law_426 ?_
          refine j_aload_n 0 rfl d_law_427 ?_
          refine j_iload 4 rfl d_law_428 ?_
          refine j_iconst d_law_430 ejc_1 ?_
          refine j_iadd d_law_431 ?_
          refine jl_sld hq d_law_432 ?_
          refine j_if_eq d_law_433 ?_ ?_
          · refine j_iconst d_law_440 ejc_0 ?_
            refine j_callVi (fun z1 z2 z3 z4 => lr_con (f := fun r => some (.int r)) (fun z5 z6 z7 => c11_fault x n 0 s43.2.1 z5 z6 z7 z4) z1 z2 z3) lv_L_108 (lV_rc_200 x s43) ⟨Nat.le_of_ble_eq_true rfl, Nat.le_of_ble_eq_true rfl⟩ d_law_441 rfl (Nat.le_of_ble_eq_true rfl) (fun r44 s45 => ?_)
            refine j_icmp_eq d_law_444 ?_ ?_
            · refine j_iinc (i := 4) (v := 4) (Ly := fun x46 => [(4, .int x46), (0, .ref (b)), (1, .ref (cw_a x 0)), (2, .ref (cw_a x 200)), (3, .ref (cw_a x 300))]) 4 d_law_1441 rfl ejc_4 (Nat.le_of_ble_eq_true rfl) (fun _ => rfl) (fun x46 => ?_)
              refine j_goto d_law_1444 ?_
              exact j_sub [1, 2, 3, 4, 0] rfl (ih (ej_finLw hq (by omega) (by omega)) x46 s45)
            · refine j_iconst d_law_447 ejc_0 ?_
              exact jl_ret0
          · refine j_iconst d_law_436 ejc_1 ?_
            refine j_goto d_law_437 ?_
            refine j_callVi (fun z1 z2 z3 z4 => lr_con (f := fun r => some (.int r)) (fun z5 z6 z7 => c11_fault x n 1 s43.2.1 z5 z6 z7 z4) z1 z2 z3) lv_L_108 (lV_rc_200 x s43) ⟨Nat.le_of_ble_eq_true rfl, Nat.le_of_ble_eq_true rfl⟩ d_law_441 rfl (Nat.le_of_ble_eq_true rfl) (fun r47 s48 => ?_)
            refine j_icmp_eq d_law_444 ?_ ?_
            · refine j_iinc (i := 4) (v := 4) (Ly := fun x49 => [(4, .int x49), (0, .ref (b)), (1, .ref (cw_a x 0)), (2, .ref (cw_a x 200)), (3, .ref (cw_a x 300))]) 4 d_law_1441 rfl ejc_4 (Nat.le_of_ble_eq_true rfl) (fun _ => rfl) (fun x49 => ?_)
              refine j_goto d_law_1444 ?_
              exact j_sub [1, 2, 3, 4, 0] rfl (ih (ej_finLw hq (by omega) (by omega)) x49 s48)
            · refine j_iconst d_law_447 ejc_0 ?_
              exact jl_ret0
      refine j_tab1 (v := 5) (off := 410) (t := 449) d_law_39 (by decide) (by decide) rfl (by decide) ?_ (fun hne5 => ?_)
      · refine j_aload_n 1 rfl d_law_449 ?_
        refine j_aload_n 3 rfl d_law_450 ?_
        refine jl_call (kL_setHome x n  σ) lw_L_109 ⟨Nat.le_of_ble_eq_true rfl, Nat.le_of_ble_eq_true rfl⟩ d_law_451 rfl (Nat.le_of_ble_eq_true rfl) hq (by omega) (by omega) (fun r50 s51 => ?_)
        refine j_istore (i := 5) (L' := [(5, .int r50), (0, .ref (b)), (1, .ref (cw_a x 0)), (2, .ref (cw_a x 200)), (3, .ref (cw_a x 300)), (4, .int y)]) d_law_454 (Nat.le_of_ble_eq_true rfl) rfl ?_
        refine j_aload_n 3 rfl d_law_456 ?_
        refine j_callVi (fun z1 z2 z3 z4 => lr_con (f := fun r => some (.int r)) (fun z5 z6 z7 => c11_setHome x n s51.2.1 z5 z6 z7 z4) z1 z2 z3) lv_L_111 (lV_rc_200 x s51) ⟨Nat.le_of_ble_eq_true rfl, Nat.le_of_ble_eq_true rfl⟩ d_law_457 rfl (Nat.le_of_ble_eq_true rfl) (fun r52 s53 => ?_)
        refine j_istore (i := 6) (L' := [(6, .int r52), (5, .int r50), (0, .ref (b)), (1, .ref (cw_a x 0)), (2, .ref (cw_a x 200)), (3, .ref (cw_a x 300)), (4, .int y)]) d_law_460 (Nat.le_of_ble_eq_true rfl) rfl ?_
        refine j_aload_n 4 rfl d_law_462 ?_
        refine j_callVi (fun z1 z2 z3 z4 => lr_con (f := fun r => some (.int r)) (fun z5 z6 z7 => c11_thrown x n s53.2.1 z5 z6 z7 z4) z1 z2 z3) lv_L_90 (lV_rc_200 x s53) ⟨Nat.le_of_ble_eq_true rfl, Nat.le_of_ble_eq_true rfl⟩ d_law_463 rfl (Nat.le_of_ble_eq_true rfl) (fun r54 s55 => ?_)
        refine j_iload 1 rfl d_law_466 ?_
        refine j_icmp_eq d_law_468 ?_ ?_
        · refine j_iload 1 rfl d_law_473 ?_
          refine j_if_ne d_law_475 ?_ ?_
          · refine j_goto d_law_490 ?_
            refine j_iinc (i := 4) (v := 4) (Ly := fun x56 => [(4, .int x56), (6, .int r52), (5, .int r50), (0, .ref (b)), (1, .ref (cw_a x 0)), (2, .ref (cw_a x 200)), (3, .ref (cw_a x 300))]) 6 d_law_1441 rfl ejc_4 (Nat.le_of_ble_eq_true rfl) (fun _ => rfl) (fun x56 => ?_)
            refine j_goto d_law_1444 ?_
            exact j_sub [3, 4, 5, 6, 0] rfl (ih (ej_finLu hq (by omega) (by omega)) x56 s55)
          · refine j_aload_n 5 rfl d_law_478 ?_
            refine j_iconst d_law_479 ejc_0 ?_
            refine j_lald (lV_a_300 x s55) d_law_480 ?_
            refine j_iload 0 rfl d_law_481 ?_
            refine j_i2l d_law_483 ?_
            refine j_lcmp d_law_484 ?_
            refine j_if_eq d_law_485 ?_ ?_
            · refine j_goto d_law_490 ?_
              refine j_iinc (i := 4) (v := 4) (Ly := fun x57 => [(4, .int x57), (6, .int r52), (5, .int r50), (0, .ref (b)), (1, .ref (cw_a x 0)), (2, .ref (cw_a x 200)), (3, .ref (cw_a x 300))]) 6 d_law_1441 rfl ejc_4 (Nat.le_of_ble_eq_true rfl) (fun _ => rfl) (fun x57 => ?_)
              refine j_goto d_law_1444 ?_
              exact j_sub [3, 4, 5, 6, 0] rfl (ih (ej_finLu hq (by omega) (by omega)) x57 s55)
            · refine j_iconst d_law_488 ejc_0 ?_
              exact jl_ret0
        · refine j_iconst d_law_471 ejc_0 ?_
          exact jl_ret0
      refine j_tab1 (v := 6) (off := 454) (t := 493) d_law_39 (by decide) (by decide) rfl (by decide) ?_ (fun hne6 => ?_)
      · refine j_aload_n 1 rfl d_law_493 ?_
        refine j_callVi (fun z1 z2 z3 z4 => lc_con (f := fun r => some (.int r)) (fun z5 z6 z7 => c10_home x n σ.1 z5 z6 z7 z4) z1 z2 z3) lv_L_112 (lV_rc_0 x σ) ⟨Nat.le_of_ble_eq_true rfl, Nat.le_of_ble_eq_true rfl⟩ d_law_494 rfl (Nat.le_of_ble_eq_true rfl) (fun r58 s59 => ?_)
        refine j_aload_n 2 rfl d_law_497 ?_
        refine j_callVi (fun z1 z2 z3 z4 => lr_con (f := fun r => some (.int r)) (fun z5 z6 z7 => c11_home x n s59.2.1 z5 z6 z7 z4) z1 z2 z3) lv_L_115 (lV_rc_200 x s59) ⟨Nat.le_of_ble_eq_true rfl, Nat.le_of_ble_eq_true rfl⟩ d_law_498 rfl (Nat.le_of_ble_eq_true rfl) (fun r60 s61 => ?_)
        refine j_icmp_eq d_law_501 ?_ ?_
        · refine j_iinc (i := 4) (v := 4) (Ly := fun x62 => [(4, .int x62), (0, .ref (b)), (1, .ref (cw_a x 0)), (2, .ref (cw_a x 200)), (3, .ref (cw_a x 300))]) 4 d_law_1441 rfl ejc_4 (Nat.le_of_ble_eq_true rfl) (fun _ => rfl) (fun x62 => ?_)
          refine j_goto d_law_1444 ?_
          exact j_sub [1, 2, 3, 4, 0] rfl (ih (ej_finLw hq (by omega) (by omega)) x62 s61)
        · refine j_iconst d_law_504 ejc_0 ?_
          exact jl_ret0
      refine j_tab1 (v := 7) (off := 467) (t := 506) d_law_39 (by decide) (by decide) rfl (by decide) ?_ (fun hne7 => ?_)
      · refine j_aload_n 1 rfl d_law_506 ?_
        refine j_callVi (fun z1 z2 z3 z4 => lc_con (f := fun r => some (.int r)) (fun z5 z6 z7 => c10_lookUp x n σ.1 z5 z6 z7 z4) z1 z2 z3) lv_L_116 (lV_rc_0 x σ) ⟨Nat.le_of_ble_eq_true rfl, Nat.le_of_ble_eq_true rfl⟩ d_law_507 rfl (Nat.le_of_ble_eq_true rfl) (fun r63 s64 => ?_)
        refine j_aload_n 2 rfl d_law_510 ?_
        refine j_callVi (fun z1 z2 z3 z4 => lr_con (f := fun r => some (.int r)) (fun z5 z6 z7 => c11_lookUp x n s64.2.1 z5 z6 z7 z4) z1 z2 z3) lv_L_119 (lV_rc_200 x s64) ⟨Nat.le_of_ble_eq_true rfl, Nat.le_of_ble_eq_true rfl⟩ d_law_511 rfl (Nat.le_of_ble_eq_true rfl) (fun r65 s66 => ?_)
        refine j_icmp_eq d_law_514 ?_ ?_
        · refine j_iinc (i := 4) (v := 4) (Ly := fun x67 => [(4, .int x67), (0, .ref (b)), (1, .ref (cw_a x 0)), (2, .ref (cw_a x 200)), (3, .ref (cw_a x 300))]) 4 d_law_1441 rfl ejc_4 (Nat.le_of_ble_eq_true rfl) (fun _ => rfl) (fun x67 => ?_)
          refine j_goto d_law_1444 ?_
          exact j_sub [1, 2, 3, 4, 0] rfl (ih (ej_finLw hq (by omega) (by omega)) x67 s66)
        · refine j_iconst d_law_517 ejc_0 ?_
          exact jl_ret0
      refine j_tab1 (v := 8) (off := 480) (t := 519) d_law_39 (by decide) (by decide) rfl (by decide) ?_ (fun hne8 => ?_)
      · refine j_aload_n 1 rfl d_law_519 ?_
        refine j_callVi (fun z1 z2 z3 z4 => lc_con (f := fun r => some (.int r)) (fun z5 z6 z7 => c10_nodes x n σ.1 z5 z6 z7 z4) z1 z2 z3) lv_L_120 (lV_rc_0 x σ) ⟨Nat.le_of_ble_eq_true rfl, Nat.le_of_ble_eq_true rfl⟩ d_law_520 rfl (Nat.le_of_ble_eq_true rfl) (fun r68 s69 => ?_)
        refine j_aload_n 2 rfl d_law_523 ?_
        refine j_callVi (fun z1 z2 z3 z4 => lr_con (f := fun r => some (.int r)) (fun z5 z6 z7 => c11_nodes x n s69.2.1 z5 z6 z7 z4) z1 z2 z3) lv_L_123 (lV_rc_200 x s69) ⟨Nat.le_of_ble_eq_true rfl, Nat.le_of_ble_eq_true rfl⟩ d_law_524 rfl (Nat.le_of_ble_eq_true rfl) (fun r70 s71 => ?_)
        refine j_icmp_eq d_law_527 ?_ ?_
        · refine j_iinc (i := 4) (v := 4) (Ly := fun x72 => [(4, .int x72), (0, .ref (b)), (1, .ref (cw_a x 0)), (2, .ref (cw_a x 200)), (3, .ref (cw_a x 300))]) 4 d_law_1441 rfl ejc_4 (Nat.le_of_ble_eq_true rfl) (fun _ => rfl) (fun x72 => ?_)
          refine j_goto d_law_1444 ?_
          exact j_sub [1, 2, 3, 4, 0] rfl (ih (ej_finLw hq (by omega) (by omega)) x72 s71)
        · refine j_iconst d_law_530 ejc_0 ?_
          exact jl_ret0
      refine j_tab1 (v := 9) (off := 493) (t := 532) d_law_39 (by decide) (by decide) rfl (by decide) ?_ (fun hne9 => ?_)
      · refine j_aload_n 1 rfl d_law_532 ?_
        refine j_aload_n 0 rfl d_law_533 ?_
        refine j_iload 4 rfl d_law_534 ?_
        refine j_iconst d_law_536 ejc_1 ?_
        refine j_iadd d_law_537 ?_
        refine jl_sld hq d_law_538 ?_
        refine j_aload_n 3 rfl d_law_539 ?_
        refine jl_call (kL_name x n (xs (y + 1).toNatClampNeg) σ) lw_L_124 ⟨Nat.le_of_ble_eq_true rfl, Nat.le_of_ble_eq_true rfl⟩ d_law_540 rfl (Nat.le_of_ble_eq_true rfl) hq (by omega) (by omega) (fun r73 s74 => ?_)
        refine j_istore (i := 5) (L' := [(5, .int r73), (0, .ref (b)), (1, .ref (cw_a x 0)), (2, .ref (cw_a x 200)), (3, .ref (cw_a x 300)), (4, .int y)]) d_law_543 (Nat.le_of_ble_eq_true rfl) rfl ?_
        refine j_aload_n 3 rfl d_law_545 ?_
        refine j_aload_n 1 rfl d_law_546 ?_
        refine j_iload 5 rfl d_law_547 ?_
        refine j_iconst d_law_549 ejc_1 ?_
        refine j_iadd d_law_550 ?_
        refine jl_sld (ej_finLu (kc' := 0) (ks' := 0) hq (by omega) (by omega)) d_law_551 ?_
        refine j_callVi (fun z1 z2 z3 z4 => lr_con (f := fun r => some (.int r)) (fun z5 z6 z7 => c11_name x n (xs (y + 1).toNatClampNeg) s74.2.1 z5 z6 z7 z4) z1 z2 z3) lv_L_126 (lV_rc_200 x s74) ⟨Nat.le_of_ble_eq_true rfl, Nat.le_of_ble_eq_true rfl⟩ d_law_552 rfl (Nat.le_of_ble_eq_true rfl) (fun r75 s76 => ?_)
        refine j_istore (i := 6) (L' := [(6, .int r75), (5, .int r73), (0, .ref (b)), (1, .ref (cw_a x 0)), (2, .ref (cw_a x 200)), (3, .ref (cw_a x 300)), (4, .int y)]) d_law_555 (Nat.le_of_ble_eq_true rfl) rfl ?_
        refine j_aload_n 4 rfl d_law_557 ?_
        refine j_callVi (fun z1 z2 z3 z4 => lr_con (f := fun r => some (.int r)) (fun z5 z6 z7 => c11_thrown x n s76.2.1 z5 z6 z7 z4) z1 z2 z3) lv_L_90 (lV_rc_200 x s76) ⟨Nat.le_of_ble_eq_true rfl, Nat.le_of_ble_eq_true rfl⟩ d_law_558 rfl (Nat.le_of_ble_eq_true rfl) (fun r77 s78 => ?_)
        refine j_iload 1 rfl d_law_561 ?_
        refine j_icmp_eq d_law_563 ?_ ?_
        · refine j_iload 1 rfl d_law_568 ?_
          refine j_if_ne d_law_570 ?_ ?_
          · refine j_goto d_law_585 ?_
            refine j_iinc (i := 4) (v := 4) (Ly := fun x79 => [(4, .int x79), (6, .int r75), (5, .int r73), (0, .ref (b)), (1, .ref (cw_a x 0)), (2, .ref (cw_a x 200)), (3, .ref (cw_a x 300))]) 6 d_law_1441 rfl ejc_4 (Nat.le_of_ble_eq_true rfl) (fun _ => rfl) (fun x79 => ?_)
            refine j_goto d_law_1444 ?_
            exact j_sub [3, 4, 5, 6, 0] rfl (ih (ej_finLu hq (by omega) (by omega)) x79 s78)
          · refine j_aload_n 5 rfl d_law_573 ?_
            refine j_iconst d_law_574 ejc_0 ?_
            refine j_lald (lV_a_300 x s78) d_law_575 ?_
            refine j_iload 0 rfl d_law_576 ?_
            refine j_i2l d_law_578 ?_
            refine j_lcmp d_law_579 ?_
            refine j_if_eq d_law_580 ?_ ?_
            · refine j_goto d_law_585 ?_
              refine j_iinc (i := 4) (v := 4) (Ly := fun x80 => [(4, .int x80), (6, .int r75), (5, .int r73), (0, .ref (b)), (1, .ref (cw_a x 0)), (2, .ref (cw_a x 200)), (3, .ref (cw_a x 300))]) 6 d_law_1441 rfl ejc_4 (Nat.le_of_ble_eq_true rfl) (fun _ => rfl) (fun x80 => ?_)
              refine j_goto d_law_1444 ?_
              exact j_sub [3, 4, 5, 6, 0] rfl (ih (ej_finLu hq (by omega) (by omega)) x80 s78)
            · refine j_iconst d_law_583 ejc_0 ?_
              exact jl_ret0
        · refine j_iconst d_law_566 ejc_0 ?_
          exact jl_ret0
      refine j_tab1 (v := 10) (off := 549) (t := 588) d_law_39 (by decide) (by decide) rfl (by decide) ?_ (fun hne10 => ?_)
      · refine j_aload_n 1 rfl d_law_588 ?_
        refine j_aload_n 0 rfl d_law_589 ?_
        refine j_iload 4 rfl d_law_590 ?_
        refine j_iconst d_law_592 ejc_1 ?_
        refine j_iadd d_law_593 ?_
        refine jl_sld hq d_law_594 ?_
        refine j_aload_n 3 rfl d_law_595 ?_
        refine jl_call (kL_kind x n (xs (y + 1).toNatClampNeg) σ) lw_L_127 ⟨Nat.le_of_ble_eq_true rfl, Nat.le_of_ble_eq_true rfl⟩ d_law_596 rfl (Nat.le_of_ble_eq_true rfl) hq (by omega) (by omega) (fun r81 s82 => ?_)
        refine j_istore (i := 5) (L' := [(5, .int r81), (0, .ref (b)), (1, .ref (cw_a x 0)), (2, .ref (cw_a x 200)), (3, .ref (cw_a x 300)), (4, .int y)]) d_law_599 (Nat.le_of_ble_eq_true rfl) rfl ?_
        refine j_aload_n 3 rfl d_law_601 ?_
        refine j_aload_n 1 rfl d_law_602 ?_
        refine j_iload 5 rfl d_law_603 ?_
        refine j_iconst d_law_605 ejc_1 ?_
        refine j_iadd d_law_606 ?_
        refine jl_sld (ej_finLu (kc' := 0) (ks' := 0) hq (by omega) (by omega)) d_law_607 ?_
        refine j_callVi (fun z1 z2 z3 z4 => lr_con (f := fun r => some (.int r)) (fun z5 z6 z7 => c11_kind x n (xs (y + 1).toNatClampNeg) s82.2.1 z5 z6 z7 z4) z1 z2 z3) lv_L_129 (lV_rc_200 x s82) ⟨Nat.le_of_ble_eq_true rfl, Nat.le_of_ble_eq_true rfl⟩ d_law_608 rfl (Nat.le_of_ble_eq_true rfl) (fun r83 s84 => ?_)
        refine j_istore (i := 6) (L' := [(6, .int r83), (5, .int r81), (0, .ref (b)), (1, .ref (cw_a x 0)), (2, .ref (cw_a x 200)), (3, .ref (cw_a x 300)), (4, .int y)]) d_law_611 (Nat.le_of_ble_eq_true rfl) rfl ?_
        refine j_aload_n 4 rfl d_law_613 ?_
        refine j_callVi (fun z1 z2 z3 z4 => lr_con (f := fun r => some (.int r)) (fun z5 z6 z7 => c11_thrown x n s84.2.1 z5 z6 z7 z4) z1 z2 z3) lv_L_90 (lV_rc_200 x s84) ⟨Nat.le_of_ble_eq_true rfl, Nat.le_of_ble_eq_true rfl⟩ d_law_614 rfl (Nat.le_of_ble_eq_true rfl) (fun r85 s86 => ?_)
        refine j_iload 1 rfl d_law_617 ?_
        refine j_icmp_eq d_law_619 ?_ ?_
        · refine j_iload 1 rfl d_law_624 ?_
          refine j_if_ne d_law_626 ?_ ?_
          · refine j_goto d_law_641 ?_
            refine j_iinc (i := 4) (v := 4) (Ly := fun x87 => [(4, .int x87), (6, .int r83), (5, .int r81), (0, .ref (b)), (1, .ref (cw_a x 0)), (2, .ref (cw_a x 200)), (3, .ref (cw_a x 300))]) 6 d_law_1441 rfl ejc_4 (Nat.le_of_ble_eq_true rfl) (fun _ => rfl) (fun x87 => ?_)
            refine j_goto d_law_1444 ?_
            exact j_sub [3, 4, 5, 6, 0] rfl (ih (ej_finLu hq (by omega) (by omega)) x87 s86)
          · refine j_aload_n 5 rfl d_law_629 ?_
            refine j_iconst d_law_630 ejc_0 ?_
            refine j_lald (lV_a_300 x s86) d_law_631 ?_
            refine j_iload 0 rfl d_law_632 ?_
            refine j_i2l d_law_634 ?_
            refine j_lcmp d_law_635 ?_
            refine j_if_eq d_law_636 ?_ ?_
            · refine j_goto d_law_641 ?_
              refine j_iinc (i := 4) (v := 4) (Ly := fun x88 => [(4, .int x88), (6, .int r83), (5, .int r81), (0, .ref (b)), (1, .ref (cw_a x 0)), (2, .ref (cw_a x 200)), (3, .ref (cw_a x 300))]) 6 d_law_1441 rfl ejc_4 (Nat.le_of_ble_eq_true rfl) (fun _ => rfl) (fun x88 => ?_)
              refine j_goto d_law_1444 ?_
              exact j_sub [3, 4, 5, 6, 0] rfl (ih (ej_finLu hq (by omega) (by omega)) x88 s86)
            · refine j_iconst d_law_639 ejc_0 ?_
              exact jl_ret0
        · refine j_iconst d_law_622 ejc_0 ?_
          exact jl_ret0
      refine j_tab1 (v := 11) (off := 605) (t := 644) d_law_39 (by decide) (by decide) rfl (by decide) ?_ (fun hne11 => ?_)
      · refine j_aload_n 1 rfl d_law_644 ?_
        refine j_aload_n 0 rfl d_law_645 ?_
        refine j_iload 4 rfl d_law_646 ?_
        refine j_iconst d_law_648 ejc_1 ?_
        refine j_iadd d_law_649 ?_
        refine jl_sld hq d_law_650 ?_
        refine j_aload_n 3 rfl d_law_651 ?_
        refine jl_call (kL_isPrivate x n (xs (y + 1).toNatClampNeg) σ) lw_L_130 ⟨Nat.le_of_ble_eq_true rfl, Nat.le_of_ble_eq_true rfl⟩ d_law_652 rfl (Nat.le_of_ble_eq_true rfl) hq (by omega) (by omega) (fun r89 s90 => ?_)
        refine j_istore (i := 5) (L' := [(5, .int r89), (0, .ref (b)), (1, .ref (cw_a x 0)), (2, .ref (cw_a x 200)), (3, .ref (cw_a x 300)), (4, .int y)]) d_law_655 (Nat.le_of_ble_eq_true rfl) rfl ?_
        refine j_aload_n 3 rfl d_law_657 ?_
        refine j_aload_n 1 rfl d_law_658 ?_
        refine j_iload 5 rfl d_law_659 ?_
        refine j_iconst d_law_661 ejc_1 ?_
        refine j_iadd d_law_662 ?_
        refine jl_sld (ej_finLu (kc' := 0) (ks' := 0) hq (by omega) (by omega)) d_law_663 ?_
        refine j_callVi (fun z1 z2 z3 z4 => lr_con (f := fun r => some (.int r)) (fun z5 z6 z7 => c11_isPrivate x n (xs (y + 1).toNatClampNeg) s90.2.1 z5 z6 z7 z4) z1 z2 z3) lv_L_132 (lV_rc_200 x s90) ⟨Nat.le_of_ble_eq_true rfl, Nat.le_of_ble_eq_true rfl⟩ d_law_664 rfl (Nat.le_of_ble_eq_true rfl) (fun r91 s92 => ?_)
        refine j_istore (i := 6) (L' := [(6, .int r91), (5, .int r89), (0, .ref (b)), (1, .ref (cw_a x 0)), (2, .ref (cw_a x 200)), (3, .ref (cw_a x 300)), (4, .int y)]) d_law_667 (Nat.le_of_ble_eq_true rfl) rfl ?_
        refine j_aload_n 4 rfl d_law_669 ?_
        refine j_callVi (fun z1 z2 z3 z4 => lr_con (f := fun r => some (.int r)) (fun z5 z6 z7 => c11_thrown x n s92.2.1 z5 z6 z7 z4) z1 z2 z3) lv_L_90 (lV_rc_200 x s92) ⟨Nat.le_of_ble_eq_true rfl, Nat.le_of_ble_eq_true rfl⟩ d_law_670 rfl (Nat.le_of_ble_eq_true rfl) (fun r93 s94 => ?_)
        refine j_iload 1 rfl d_law_673 ?_
        refine j_icmp_eq d_law_675 ?_ ?_
        · refine j_iload 1 rfl d_law_680 ?_
          refine j_if_ne d_law_682 ?_ ?_
          · refine j_goto d_law_704 ?_
            refine j_iinc (i := 4) (v := 4) (Ly := fun x95 => [(4, .int x95), (6, .int r91), (5, .int r89), (0, .ref (b)), (1, .ref (cw_a x 0)), (2, .ref (cw_a x 200)), (3, .ref (cw_a x 300))]) 6 d_law_1441 rfl ejc_4 (Nat.le_of_ble_eq_true rfl) (fun _ => rfl) (fun x95 => ?_)
            refine j_goto d_law_1444 ?_
            exact j_sub [3, 4, 5, 6, 0] rfl (ih (ej_finLu hq (by omega) (by omega)) x95 s94)
          · refine j_aload_n 5 rfl d_law_685 ?_
            refine j_iconst d_law_686 ejc_0 ?_
            refine j_lald (lV_a_300 x s94) d_law_687 ?_
            refine j_iload 0 rfl d_law_688 ?_
            refine j_if_eq d_law_690 ?_ ?_
            · refine j_lconst d_law_697 ejl_0 ?_
              refine j_lcmp d_law_698 ?_
              refine j_if_eq d_law_699 ?_ ?_
              · refine j_goto d_law_704 ?_
                refine j_iinc (i := 4) (v := 4) (Ly := fun x96 => [(4, .int x96), (6, .int r91), (5, .int r89), (0, .ref (b)), (1, .ref (cw_a x 0)), (2, .ref (cw_a x 200)), (3, .ref (cw_a x 300))]) 6 d_law_1441 rfl ejc_4 (Nat.le_of_ble_eq_true rfl) (fun _ => rfl) (fun x96 => ?_)
                refine j_goto d_law_1444 ?_
                exact j_sub [3, 4, 5, 6, 0] rfl (ih (ej_finLu hq (by omega) (by omega)) x96 s94)
              · refine j_iconst d_law_702 ejc_0 ?_
                exact jl_ret0
            · refine j_lconst d_law_693 ejl_1 ?_
              refine j_goto d_law_694 ?_
              refine j_lcmp d_law_698 ?_
              refine j_if_eq d_law_699 ?_ ?_
              · refine j_goto d_law_704 ?_
                refine j_iinc (i := 4) (v := 4) (Ly := fun x97 => [(4, .int x97), (6, .int r91), (5, .int r89), (0, .ref (b)), (1, .ref (cw_a x 0)), (2, .ref (cw_a x 200)), (3, .ref (cw_a x 300))]) 6 d_law_1441 rfl ejc_4 (Nat.le_of_ble_eq_true rfl) (fun _ => rfl) (fun x97 => ?_)
                refine j_goto d_law_1444 ?_
                exact j_sub [3, 4, 5, 6, 0] rfl (ih (ej_finLu hq (by omega) (by omega)) x97 s94)
              · refine j_iconst d_law_702 ejc_0 ?_
                exact jl_ret0
        · refine j_iconst d_law_678 ejc_0 ?_
          exact jl_ret0
      refine j_tab1 (v := 12) (off := 668) (t := 707) d_law_39 (by decide) (by decide) rfl (by decide) ?_ (fun hne12 => ?_)
      · refine j_aload_n 1 rfl d_law_707 ?_
        refine j_aload_n 0 rfl d_law_708 ?_
        refine j_iload 4 rfl d_law_709 ?_
        refine j_iconst d_law_711 ejc_1 ?_
        refine j_iadd d_law_712 ?_
        refine jl_sld hq d_law_713 ?_
        refine j_aload_n 0 rfl d_law_714 ?_
        refine j_iload 4 rfl d_law_715 ?_
        refine j_iconst d_law_717 ejc_2 ?_
        refine j_iadd d_law_718 ?_
        refine jl_sld hq d_law_719 ?_
        refine j_aload_n 3 rfl d_law_720 ?_
        refine jl_call (kL_linkCost x n (xs (y + 1).toNatClampNeg) (xs (y + 2).toNatClampNeg) σ) lw_L_133 ⟨Nat.le_of_ble_eq_true rfl, Nat.le_of_ble_eq_true rfl⟩ d_law_721 rfl (Nat.le_of_ble_eq_true rfl) hq (by omega) (by omega) (fun r98 s99 => ?_)
        refine j_istore (i := 5) (L' := [(5, .int r98), (0, .ref (b)), (1, .ref (cw_a x 0)), (2, .ref (cw_a x 200)), (3, .ref (cw_a x 300)), (4, .int y)]) d_law_724 (Nat.le_of_ble_eq_true rfl) rfl ?_
        refine j_aload_n 3 rfl d_law_726 ?_
        refine j_aload_n 1 rfl d_law_727 ?_
        refine j_iload 5 rfl d_law_728 ?_
        refine j_iconst d_law_730 ejc_1 ?_
        refine j_iadd d_law_731 ?_
        refine jl_sld (ej_finLu (kc' := 0) (ks' := 0) hq (by omega) (by omega)) d_law_732 ?_
        refine j_aload_n 1 rfl d_law_733 ?_
        refine j_iload 5 rfl d_law_734 ?_
        refine j_iconst d_law_736 ejc_2 ?_
        refine j_iadd d_law_737 ?_
        refine jl_sld (ej_finLu (kc' := 0) (ks' := 0) hq (by omega) (by omega)) d_law_738 ?_
        refine j_callVi (fun z1 z2 z3 z4 => lr_con (f := fun r => some (.int r)) (fun z5 z6 z7 => c11_linkCost x n (xs (y + 1).toNatClampNeg) (xs (y + 2).toNatClampNeg) s99.2.1 z5 z6 z7 z4) z1 z2 z3) lv_L_136 (lV_rc_200 x s99) ⟨Nat.le_of_ble_eq_true rfl, Nat.le_of_ble_eq_true rfl⟩ d_law_739 rfl (Nat.le_of_ble_eq_true rfl) (fun r100 s101 => ?_)
        refine j_istore (i := 6) (L' := [(6, .int r100), (5, .int r98), (0, .ref (b)), (1, .ref (cw_a x 0)), (2, .ref (cw_a x 200)), (3, .ref (cw_a x 300)), (4, .int y)]) d_law_742 (Nat.le_of_ble_eq_true rfl) rfl ?_
        refine j_aload_n 4 rfl d_law_744 ?_
        refine j_callVi (fun z1 z2 z3 z4 => lr_con (f := fun r => some (.int r)) (fun z5 z6 z7 => c11_thrown x n s101.2.1 z5 z6 z7 z4) z1 z2 z3) lv_L_90 (lV_rc_200 x s101) ⟨Nat.le_of_ble_eq_true rfl, Nat.le_of_ble_eq_true rfl⟩ d_law_745 rfl (Nat.le_of_ble_eq_true rfl) (fun r102 s103 => ?_)
        refine j_iload 1 rfl d_law_748 ?_
        refine j_icmp_eq d_law_750 ?_ ?_
        · refine j_iload 1 rfl d_law_755 ?_
          refine j_if_ne d_law_757 ?_ ?_
          · refine j_goto d_law_772 ?_
            refine j_iinc (i := 4) (v := 4) (Ly := fun x104 => [(4, .int x104), (6, .int r100), (5, .int r98), (0, .ref (b)), (1, .ref (cw_a x 0)), (2, .ref (cw_a x 200)), (3, .ref (cw_a x 300))]) 6 d_law_1441 rfl ejc_4 (Nat.le_of_ble_eq_true rfl) (fun _ => rfl) (fun x104 => ?_)
            refine j_goto d_law_1444 ?_
            exact j_sub [3, 4, 5, 6, 0] rfl (ih (ej_finLu hq (by omega) (by omega)) x104 s103)
          · refine j_aload_n 5 rfl d_law_760 ?_
            refine j_iconst d_law_761 ejc_0 ?_
            refine j_lald (lV_a_300 x s103) d_law_762 ?_
            refine j_iload 0 rfl d_law_763 ?_
            refine j_i2l d_law_765 ?_
            refine j_lcmp d_law_766 ?_
            refine j_if_eq d_law_767 ?_ ?_
            · refine j_goto d_law_772 ?_
              refine j_iinc (i := 4) (v := 4) (Ly := fun x105 => [(4, .int x105), (6, .int r100), (5, .int r98), (0, .ref (b)), (1, .ref (cw_a x 0)), (2, .ref (cw_a x 200)), (3, .ref (cw_a x 300))]) 6 d_law_1441 rfl ejc_4 (Nat.le_of_ble_eq_true rfl) (fun _ => rfl) (fun x105 => ?_)
              refine j_goto d_law_1444 ?_
              exact j_sub [3, 4, 5, 6, 0] rfl (ih (ej_finLu hq (by omega) (by omega)) x105 s103)
            · refine j_iconst d_law_770 ejc_0 ?_
              exact jl_ret0
        · refine j_iconst d_law_753 ejc_0 ?_
          exact jl_ret0
      refine j_tab1 (v := 13) (off := 736) (t := 775) d_law_39 (by decide) (by decide) rfl (by decide) ?_ (fun hne13 => ?_)
      · refine j_aload_n 1 rfl d_law_775 ?_
        refine j_aload_n 0 rfl d_law_776 ?_
        refine j_iload 4 rfl d_law_777 ?_
        refine j_iconst d_law_779 ejc_1 ?_
        refine j_iadd d_law_780 ?_
        refine jl_sld hq d_law_781 ?_
        refine j_aload_n 0 rfl d_law_782 ?_
        refine j_iload 4 rfl d_law_783 ?_
        refine j_iconst d_law_785 ejc_2 ?_
        refine j_iadd d_law_786 ?_
        refine jl_sld hq d_law_787 ?_
        refine j_aload_n 3 rfl d_law_788 ?_
        refine jl_call (kL_memberCost x n (xs (y + 1).toNatClampNeg) (xs (y + 2).toNatClampNeg) σ) lw_L_137 ⟨Nat.le_of_ble_eq_true rfl, Nat.le_of_ble_eq_true rfl⟩ d_law_789 rfl (Nat.le_of_ble_eq_true rfl) hq (by omega) (by omega) (fun r106 s107 => ?_)
        refine j_istore (i := 5) (L' := [(5, .int r106), (0, .ref (b)), (1, .ref (cw_a x 0)), (2, .ref (cw_a x 200)), (3, .ref (cw_a x 300)), (4, .int y)]) d_law_792 (Nat.le_of_ble_eq_true rfl) rfl ?_
        refine j_aload_n 3 rfl d_law_794 ?_
        refine j_aload_n 1 rfl d_law_795 ?_
        refine j_iload 5 rfl d_law_796 ?_
        refine j_iconst d_law_798 ejc_1 ?_
        refine j_iadd d_law_799 ?_
        refine jl_sld (ej_finLu (kc' := 0) (ks' := 0) hq (by omega) (by omega)) d_law_800 ?_
        refine j_aload_n 1 rfl d_law_801 ?_
        refine j_iload 5 rfl d_law_802 ?_
        refine j_iconst d_law_804 ejc_2 ?_
        refine j_iadd d_law_805 ?_
        refine jl_sld (ej_finLu (kc' := 0) (ks' := 0) hq (by omega) (by omega)) d_law_806 ?_
        refine j_callVi (fun z1 z2 z3 z4 => lr_con (f := fun r => some (.int r)) (fun z5 z6 z7 => c11_memberCost x n (xs (y + 1).toNatClampNeg) (xs (y + 2).toNatClampNeg) s107.2.1 z5 z6 z7 z4) z1 z2 z3) lv_L_139 (lV_rc_200 x s107) ⟨Nat.le_of_ble_eq_true rfl, Nat.le_of_ble_eq_true rfl⟩ d_law_807 rfl (Nat.le_of_ble_eq_true rfl) (fun r108 s109 => ?_)
        refine j_istore (i := 6) (L' := [(6, .int r108), (5, .int r106), (0, .ref (b)), (1, .ref (cw_a x 0)), (2, .ref (cw_a x 200)), (3, .ref (cw_a x 300)), (4, .int y)]) d_law_810 (Nat.le_of_ble_eq_true rfl) rfl ?_
        refine j_aload_n 4 rfl d_law_812 ?_
        refine j_callVi (fun z1 z2 z3 z4 => lr_con (f := fun r => some (.int r)) (fun z5 z6 z7 => c11_thrown x n s109.2.1 z5 z6 z7 z4) z1 z2 z3) lv_L_90 (lV_rc_200 x s109) ⟨Nat.le_of_ble_eq_true rfl, Nat.le_of_ble_eq_true rfl⟩ d_law_813 rfl (Nat.le_of_ble_eq_true rfl) (fun r110 s111 => ?_)
        refine j_iload 1 rfl d_law_816 ?_
        refine j_icmp_eq d_law_818 ?_ ?_
        · refine j_iload 1 rfl d_law_823 ?_
          refine j_if_ne d_law_825 ?_ ?_
          · refine j_goto d_law_840 ?_
            refine j_iinc (i := 4) (v := 4) (Ly := fun x112 => [(4, .int x112), (6, .int r108), (5, .int r106), (0, .ref (b)), (1, .ref (cw_a x 0)), (2, .ref (cw_a x 200)), (3, .ref (cw_a x 300))]) 6 d_law_1441 rfl ejc_4 (Nat.le_of_ble_eq_true rfl) (fun _ => rfl) (fun x112 => ?_)
            refine j_goto d_law_1444 ?_
            exact j_sub [3, 4, 5, 6, 0] rfl (ih (ej_finLu hq (by omega) (by omega)) x112 s111)
          · refine j_aload_n 5 rfl d_law_828 ?_
            refine j_iconst d_law_829 ejc_0 ?_
            refine j_lald (lV_a_300 x s111) d_law_830 ?_
            refine j_iload 0 rfl d_law_831 ?_
            refine j_i2l d_law_833 ?_
            refine j_lcmp d_law_834 ?_
            refine j_if_eq d_law_835 ?_ ?_
            · refine j_goto d_law_840 ?_
              refine j_iinc (i := 4) (v := 4) (Ly := fun x113 => [(4, .int x113), (6, .int r108), (5, .int r106), (0, .ref (b)), (1, .ref (cw_a x 0)), (2, .ref (cw_a x 200)), (3, .ref (cw_a x 300))]) 6 d_law_1441 rfl ejc_4 (Nat.le_of_ble_eq_true rfl) (fun _ => rfl) (fun x113 => ?_)
              refine j_goto d_law_1444 ?_
              exact j_sub [3, 4, 5, 6, 0] rfl (ih (ej_finLu hq (by omega) (by omega)) x113 s111)
            · refine j_iconst d_law_838 ejc_0 ?_
              exact jl_ret0
        · refine j_iconst d_law_821 ejc_0 ?_
          exact jl_ret0
      refine j_tab1 (v := 14) (off := 804) (t := 843) d_law_39 (by decide) (by decide) rfl (by decide) ?_ (fun hne14 => ?_)
      · refine j_aload_n 1 rfl d_law_843 ?_
        refine j_aload_n 0 rfl d_law_844 ?_
        refine j_iload 4 rfl d_law_845 ?_
        refine j_iconst d_law_847 ejc_1 ?_
        refine j_iadd d_law_848 ?_
        refine jl_sld hq d_law_849 ?_
        refine j_aload_n 3 rfl d_law_850 ?_
        refine jl_call (kL_cost x n (xs (y + 1).toNatClampNeg) σ) lw_L_140 ⟨Nat.le_of_ble_eq_true rfl, Nat.le_of_ble_eq_true rfl⟩ d_law_851 rfl (Nat.le_of_ble_eq_true rfl) hq (by omega) (by omega) (fun r114 s115 => ?_)
        refine j_istore (i := 5) (L' := [(5, .int r114), (0, .ref (b)), (1, .ref (cw_a x 0)), (2, .ref (cw_a x 200)), (3, .ref (cw_a x 300)), (4, .int y)]) d_law_854 (Nat.le_of_ble_eq_true rfl) rfl ?_
        refine j_aload_n 3 rfl d_law_856 ?_
        refine j_aload_n 1 rfl d_law_857 ?_
        refine j_iload 5 rfl d_law_858 ?_
        refine j_iconst d_law_860 ejc_1 ?_
        refine j_iadd d_law_861 ?_
        refine jl_sld (ej_finLu (kc' := 0) (ks' := 0) hq (by omega) (by omega)) d_law_862 ?_
        refine j_callVi (fun z1 z2 z3 z4 => lr_con (f := fun r => some (.int r)) (fun z5 z6 z7 => c11_cost x n (xs (y + 1).toNatClampNeg) s115.2.1 z5 z6 z7 z4) z1 z2 z3) lv_L_142 (lV_rc_200 x s115) ⟨Nat.le_of_ble_eq_true rfl, Nat.le_of_ble_eq_true rfl⟩ d_law_863 rfl (Nat.le_of_ble_eq_true rfl) (fun r116 s117 => ?_)
        refine j_istore (i := 6) (L' := [(6, .int r116), (5, .int r114), (0, .ref (b)), (1, .ref (cw_a x 0)), (2, .ref (cw_a x 200)), (3, .ref (cw_a x 300)), (4, .int y)]) d_law_866 (Nat.le_of_ble_eq_true rfl) rfl ?_
        refine j_aload_n 4 rfl d_law_868 ?_
        refine j_callVi (fun z1 z2 z3 z4 => lr_con (f := fun r => some (.int r)) (fun z5 z6 z7 => c11_thrown x n s117.2.1 z5 z6 z7 z4) z1 z2 z3) lv_L_90 (lV_rc_200 x s117) ⟨Nat.le_of_ble_eq_true rfl, Nat.le_of_ble_eq_true rfl⟩ d_law_869 rfl (Nat.le_of_ble_eq_true rfl) (fun r118 s119 => ?_)
        refine j_iload 1 rfl d_law_872 ?_
        refine j_icmp_eq d_law_874 ?_ ?_
        · refine j_iload 1 rfl d_law_879 ?_
          refine j_if_ne d_law_881 ?_ ?_
          · refine j_goto d_law_896 ?_
            refine j_iinc (i := 4) (v := 4) (Ly := fun x120 => [(4, .int x120), (6, .int r116), (5, .int r114), (0, .ref (b)), (1, .ref (cw_a x 0)), (2, .ref (cw_a x 200)), (3, .ref (cw_a x 300))]) 6 d_law_1441 rfl ejc_4 (Nat.le_of_ble_eq_true rfl) (fun _ => rfl) (fun x120 => ?_)
            refine j_goto d_law_1444 ?_
            exact j_sub [3, 4, 5, 6, 0] rfl (ih (ej_finLu hq (by omega) (by omega)) x120 s119)
          · refine j_aload_n 5 rfl d_law_884 ?_
            refine j_iconst d_law_885 ejc_0 ?_
            refine j_lald (lV_a_300 x s119) d_law_886 ?_
            refine j_iload 0 rfl d_law_887 ?_
            refine j_i2l d_law_889 ?_
            refine j_lcmp d_law_890 ?_
            refine j_if_eq d_law_891 ?_ ?_
            · refine j_goto d_law_896 ?_
              refine j_iinc (i := 4) (v := 4) (Ly := fun x121 => [(4, .int x121), (6, .int r116), (5, .int r114), (0, .ref (b)), (1, .ref (cw_a x 0)), (2, .ref (cw_a x 200)), (3, .ref (cw_a x 300))]) 6 d_law_1441 rfl ejc_4 (Nat.le_of_ble_eq_true rfl) (fun _ => rfl) (fun x121 => ?_)
              refine j_goto d_law_1444 ?_
              exact j_sub [3, 4, 5, 6, 0] rfl (ih (ej_finLu hq (by omega) (by omega)) x121 s119)
            · refine j_iconst d_law_894 ejc_0 ?_
              exact jl_ret0
        · refine j_iconst d_law_877 ejc_0 ?_
          exact jl_ret0
      refine j_tab1 (v := 15) (off := 860) (t := 899) d_law_39 (by decide) (by decide) rfl (by decide) ?_ (fun hne15 => ?_)
      · refine j_aload_n 1 rfl d_law_899 ?_
        refine j_aload_n 0 rfl d_law_900 ?_
        refine j_iload 4 rfl d_law_901 ?_
        refine j_iconst d_law_903 ejc_1 ?_
        refine j_iadd d_law_904 ?_
        refine jl_sld hq d_law_905 ?_
        refine j_aload_n 3 rfl d_law_906 ?_
        refine jl_call (kL_costByRounds x n (xs (y + 1).toNatClampNeg) σ) lw_L_143 ⟨Nat.le_of_ble_eq_true rfl, Nat.le_of_ble_eq_true rfl⟩ d_law_907 rfl (Nat.le_of_ble_eq_true rfl) hq (by omega) (by omega) (fun r122 s123 => ?_)
        refine j_istore (i := 5) (L' := [(5, .int r122), (0, .ref (b)), (1, .ref (cw_a x 0)), (2, .ref (cw_a x 200)), (3, .ref (cw_a x 300)), (4, .int y)]) d_law_910 (Nat.le_of_ble_eq_true rfl) rfl ?_
        refine j_aload_n 3 rfl d_law_912 ?_
        refine j_aload_n 1 rfl d_law_913 ?_
        refine j_iload 5 rfl d_law_914 ?_
        refine j_iconst d_law_916 ejc_1 ?_
        refine j_iadd d_law_917 ?_
        refine jl_sld (ej_finLu (kc' := 0) (ks' := 0) hq (by omega) (by omega)) d_law_918 ?_
        refine j_callVi (fun z1 z2 z3 z4 => lr_con (f := fun r => some (.int r)) (fun z5 z6 z7 => c11_costByRounds x n (xs (y + 1).toNatClampNeg) s123.2.1 z5 z6 z7 z4) z1 z2 z3) lv_L_145 (lV_rc_200 x s123) ⟨Nat.le_of_ble_eq_true rfl, Nat.le_of_ble_eq_true rfl⟩ d_law_919 rfl (Nat.le_of_ble_eq_true rfl) (fun r124 s125 => ?_)
        refine j_istore (i := 6) (L' := [(6, .int r124), (5, .int r122), (0, .ref (b)), (1, .ref (cw_a x 0)), (2, .ref (cw_a x 200)), (3, .ref (cw_a x 300)), (4, .int y)]) d_law_922 (Nat.le_of_ble_eq_true rfl) rfl ?_
        refine j_aload_n 4 rfl d_law_924 ?_
        refine j_callVi (fun z1 z2 z3 z4 => lr_con (f := fun r => some (.int r)) (fun z5 z6 z7 => c11_thrown x n s125.2.1 z5 z6 z7 z4) z1 z2 z3) lv_L_90 (lV_rc_200 x s125) ⟨Nat.le_of_ble_eq_true rfl, Nat.le_of_ble_eq_true rfl⟩ d_law_925 rfl (Nat.le_of_ble_eq_true rfl) (fun r126 s127 => ?_)
        refine j_iload 1 rfl d_law_928 ?_
        refine j_icmp_eq d_law_930 ?_ ?_
        · refine j_iload 1 rfl d_law_935 ?_
          refine j_if_ne d_law_937 ?_ ?_
          · refine j_goto d_law_952 ?_
            refine j_iinc (i := 4) (v := 4) (Ly := fun x128 => [(4, .int x128), (6, .int r124), (5, .int r122), (0, .ref (b)), (1, .ref (cw_a x 0)), (2, .ref (cw_a x 200)), (3, .ref (cw_a x 300))]) 6 d_law_1441 rfl ejc_4 (Nat.le_of_ble_eq_true rfl) (fun _ => rfl) (fun x128 => ?_)
            refine j_goto d_law_1444 ?_
            exact j_sub [3, 4, 5, 6, 0] rfl (ih (ej_finLu hq (by omega) (by omega)) x128 s127)
          · refine j_aload_n 5 rfl d_law_940 ?_
            refine j_iconst d_law_941 ejc_0 ?_
            refine j_lald (lV_a_300 x s127) d_law_942 ?_
            refine j_iload 0 rfl d_law_943 ?_
            refine j_i2l d_law_945 ?_
            refine j_lcmp d_law_946 ?_
            refine j_if_eq d_law_947 ?_ ?_
            · refine j_goto d_law_952 ?_
              refine j_iinc (i := 4) (v := 4) (Ly := fun x129 => [(4, .int x129), (6, .int r124), (5, .int r122), (0, .ref (b)), (1, .ref (cw_a x 0)), (2, .ref (cw_a x 200)), (3, .ref (cw_a x 300))]) 6 d_law_1441 rfl ejc_4 (Nat.le_of_ble_eq_true rfl) (fun _ => rfl) (fun x129 => ?_)
              refine j_goto d_law_1444 ?_
              exact j_sub [3, 4, 5, 6, 0] rfl (ih (ej_finLu hq (by omega) (by omega)) x129 s127)
            · refine j_iconst d_law_950 ejc_0 ?_
              exact jl_ret0
        · refine j_iconst d_law_933 ejc_0 ?_
          exact jl_ret0
      refine j_tab1 (v := 16) (off := 916) (t := 955) d_law_39 (by decide) (by decide) rfl (by decide) ?_ (fun hne16 => ?_)
      · refine j_aload_n 1 rfl d_law_955 ?_
        refine j_aload_n 0 rfl d_law_956 ?_
        refine j_iload 4 rfl d_law_957 ?_
        refine j_iconst d_law_959 ejc_1 ?_
        refine j_iadd d_law_960 ?_
        refine jl_sld hq d_law_961 ?_
        refine j_aload_n 3 rfl d_law_962 ?_
        refine jl_call (kL_steps x n (xs (y + 1).toNatClampNeg) σ) lw_L_146 ⟨Nat.le_of_ble_eq_true rfl, Nat.le_of_ble_eq_true rfl⟩ d_law_963 rfl (Nat.le_of_ble_eq_true rfl) hq (by omega) (by omega) (fun r130 s131 => ?_)
        refine j_istore (i := 5) (L' := [(5, .int r130), (0, .ref (b)), (1, .ref (cw_a x 0)), (2, .ref (cw_a x 200)), (3, .ref (cw_a x 300)), (4, .int y)]) d_law_966 (Nat.le_of_ble_eq_true rfl) rfl ?_
        refine j_aload_n 3 rfl d_law_968 ?_
        refine j_aload_n 1 rfl d_law_969 ?_
        refine j_iload 5 rfl d_law_970 ?_
        refine j_iconst d_law_972 ejc_1 ?_
        refine j_iadd d_law_973 ?_
        refine jl_sld (ej_finLu (kc' := 0) (ks' := 0) hq (by omega) (by omega)) d_law_974 ?_
        refine j_callVi (fun z1 z2 z3 z4 => lr_con (f := fun r => some (.int r)) (fun z5 z6 z7 => c11_steps x n (xs (y + 1).toNatClampNeg) s131.2.1 z5 z6 z7 z4) z1 z2 z3) lv_L_148 (lV_rc_200 x s131) ⟨Nat.le_of_ble_eq_true rfl, Nat.le_of_ble_eq_true rfl⟩ d_law_975 rfl (Nat.le_of_ble_eq_true rfl) (fun r132 s133 => ?_)
        refine j_istore (i := 6) (L' := [(6, .int r132), (5, .int r130), (0, .ref (b)), (1, .ref (cw_a x 0)), (2, .ref (cw_a x 200)), (3, .ref (cw_a x 300)), (4, .int y)]) d_law_978 (Nat.le_of_ble_eq_true rfl) rfl ?_
        refine j_aload_n 4 rfl d_law_980 ?_
        refine j_callVi (fun z1 z2 z3 z4 => lr_con (f := fun r => some (.int r)) (fun z5 z6 z7 => c11_thrown x n s133.2.1 z5 z6 z7 z4) z1 z2 z3) lv_L_90 (lV_rc_200 x s133) ⟨Nat.le_of_ble_eq_true rfl, Nat.le_of_ble_eq_true rfl⟩ d_law_981 rfl (Nat.le_of_ble_eq_true rfl) (fun r134 s135 => ?_)
        refine j_iload 1 rfl d_law_984 ?_
        refine j_icmp_eq d_law_986 ?_ ?_
        · refine j_iload 1 rfl d_law_991 ?_
          refine j_if_ne d_law_993 ?_ ?_
          · refine j_goto d_law_1008 ?_
            refine j_iinc (i := 4) (v := 4) (Ly := fun x136 => [(4, .int x136), (6, .int r132), (5, .int r130), (0, .ref (b)), (1, .ref (cw_a x 0)), (2, .ref (cw_a x 200)), (3, .ref (cw_a x 300))]) 6 d_law_1441 rfl ejc_4 (Nat.le_of_ble_eq_true rfl) (fun _ => rfl) (fun x136 => ?_)
            refine j_goto d_law_1444 ?_
            exact j_sub [3, 4, 5, 6, 0] rfl (ih (ej_finLu hq (by omega) (by omega)) x136 s135)
          · refine j_aload_n 5 rfl d_law_996 ?_
            refine j_iconst d_law_997 ejc_0 ?_
            refine j_lald (lV_a_300 x s135) d_law_998 ?_
            refine j_iload 0 rfl d_law_999 ?_
            refine j_i2l d_law_1001 ?_
            refine j_lcmp d_law_1002 ?_
            refine j_if_eq d_law_1003 ?_ ?_
            · refine j_goto d_law_1008 ?_
              refine j_iinc (i := 4) (v := 4) (Ly := fun x137 => [(4, .int x137), (6, .int r132), (5, .int r130), (0, .ref (b)), (1, .ref (cw_a x 0)), (2, .ref (cw_a x 200)), (3, .ref (cw_a x 300))]) 6 d_law_1441 rfl ejc_4 (Nat.le_of_ble_eq_true rfl) (fun _ => rfl) (fun x137 => ?_)
              refine j_goto d_law_1444 ?_
              exact j_sub [3, 4, 5, 6, 0] rfl (ih (ej_finLu hq (by omega) (by omega)) x137 s135)
            · refine j_iconst d_law_1006 ejc_0 ?_
              exact jl_ret0
        · refine j_iconst d_law_989 ejc_0 ?_
          exact jl_ret0
      refine j_tab1 (v := 17) (off := 972) (t := 1011) d_law_39 (by decide) (by decide) rfl (by decide) ?_ (fun hne17 => ?_)
      · refine j_aload_n 1 rfl d_law_1011 ?_
        refine j_aload_n 0 rfl d_law_1012 ?_
        refine j_iload 4 rfl d_law_1013 ?_
        refine j_iconst d_law_1015 ejc_1 ?_
        refine j_iadd d_law_1016 ?_
        refine jl_sld hq d_law_1017 ?_
        refine j_aload_n 3 rfl d_law_1018 ?_
        refine jl_call (kL_state x n (xs (y + 1).toNatClampNeg) σ) lw_L_149 ⟨Nat.le_of_ble_eq_true rfl, Nat.le_of_ble_eq_true rfl⟩ d_law_1019 rfl (Nat.le_of_ble_eq_true rfl) hq (by omega) (by omega) (fun r138 s139 => ?_)
        refine j_istore (i := 5) (L' := [(5, .int r138), (0, .ref (b)), (1, .ref (cw_a x 0)), (2, .ref (cw_a x 200)), (3, .ref (cw_a x 300)), (4, .int y)]) d_law_1022 (Nat.le_of_ble_eq_true rfl) rfl ?_
        refine j_aload_n 3 rfl d_law_1024 ?_
        refine j_aload_n 1 rfl d_law_1025 ?_
        refine j_iload 5 rfl d_law_1026 ?_
        refine j_iconst d_law_1028 ejc_1 ?_
        refine j_iadd d_law_1029 ?_
        refine jl_sld (ej_finLu (kc' := 0) (ks' := 0) hq (by omega) (by omega)) d_law_1030 ?_
        refine j_callVi (fun z1 z2 z3 z4 => lr_con (f := fun r => some (.int r)) (fun z5 z6 z7 => c11_state x n (xs (y + 1).toNatClampNeg) s139.2.1 z5 z6 z7 z4) z1 z2 z3) lv_L_151 (lV_rc_200 x s139) ⟨Nat.le_of_ble_eq_true rfl, Nat.le_of_ble_eq_true rfl⟩ d_law_1031 rfl (Nat.le_of_ble_eq_true rfl) (fun r140 s141 => ?_)
        refine j_istore (i := 6) (L' := [(6, .int r140), (5, .int r138), (0, .ref (b)), (1, .ref (cw_a x 0)), (2, .ref (cw_a x 200)), (3, .ref (cw_a x 300)), (4, .int y)]) d_law_1034 (Nat.le_of_ble_eq_true rfl) rfl ?_
        refine j_aload_n 4 rfl d_law_1036 ?_
        refine j_callVi (fun z1 z2 z3 z4 => lr_con (f := fun r => some (.int r)) (fun z5 z6 z7 => c11_thrown x n s141.2.1 z5 z6 z7 z4) z1 z2 z3) lv_L_90 (lV_rc_200 x s141) ⟨Nat.le_of_ble_eq_true rfl, Nat.le_of_ble_eq_true rfl⟩ d_law_1037 rfl (Nat.le_of_ble_eq_true rfl) (fun r142 s143 => ?_)
        refine j_iload 1 rfl d_law_1040 ?_
        refine j_icmp_eq d_law_1042 ?_ ?_
        · refine j_iload 1 rfl d_law_1047 ?_
          refine j_if_ne d_law_1049 ?_ ?_
          · refine j_goto d_law_1064 ?_
            refine j_iinc (i := 4) (v := 4) (Ly := fun x144 => [(4, .int x144), (6, .int r140), (5, .int r138), (0, .ref (b)), (1, .ref (cw_a x 0)), (2, .ref (cw_a x 200)), (3, .ref (cw_a x 300))]) 6 d_law_1441 rfl ejc_4 (Nat.le_of_ble_eq_true rfl) (fun _ => rfl) (fun x144 => ?_)
            refine j_goto d_law_1444 ?_
            exact j_sub [3, 4, 5, 6, 0] rfl (ih (ej_finLu hq (by omega) (by omega)) x144 s143)
          · refine j_aload_n 5 rfl d_law_1052 ?_
            refine j_iconst d_law_1053 ejc_0 ?_
            refine j_lald (lV_a_300 x s143) d_law_1054 ?_
            refine j_iload 0 rfl d_law_1055 ?_
            refine j_i2l d_law_1057 ?_
            refine j_lcmp d_law_1058 ?_
            refine j_if_eq d_law_1059 ?_ ?_
            · refine j_goto d_law_1064 ?_
              refine j_iinc (i := 4) (v := 4) (Ly := fun x145 => [(4, .int x145), (6, .int r140), (5, .int r138), (0, .ref (b)), (1, .ref (cw_a x 0)), (2, .ref (cw_a x 200)), (3, .ref (cw_a x 300))]) 6 d_law_1441 rfl ejc_4 (Nat.le_of_ble_eq_true rfl) (fun _ => rfl) (fun x145 => ?_)
              refine j_goto d_law_1444 ?_
              exact j_sub [3, 4, 5, 6, 0] rfl (ih (ej_finLu hq (by omega) (by omega)) x145 s143)
            · refine j_iconst d_law_1062 ejc_0 ?_
              exact jl_ret0
        · refine j_iconst d_law_1045 ejc_0 ?_
          exact jl_ret0
      refine j_tab1 (v := 18) (off := 1028) (t := 1067) d_law_39 (by decide) (by decide) rfl (by decide) ?_ (fun hne18 => ?_)
      · refine j_aload_n 1 rfl d_law_1067 ?_
        refine j_aload_n 0 rfl d_law_1068 ?_
        refine j_iload 4 rfl d_law_1069 ?_
        refine j_iconst d_law_1071 ejc_1 ?_
        refine j_iadd d_law_1072 ?_
        refine jl_sld hq d_law_1073 ?_
        refine j_aload_n 0 rfl d_law_1074 ?_
        refine j_iload 4 rfl d_law_1075 ?_
        refine j_iconst d_law_1077 ejc_2 ?_
        refine j_iadd d_law_1078 ?_
        refine jl_sld hq d_law_1079 ?_
        refine j_aload_n 3 rfl d_law_1080 ?_
        refine jl_call (kL_nodeAt x n (xs (y + 1).toNatClampNeg) (xs (y + 2).toNatClampNeg) σ) lw_L_152 ⟨Nat.le_of_ble_eq_true rfl, Nat.le_of_ble_eq_true rfl⟩ d_law_1081 rfl (Nat.le_of_ble_eq_true rfl) hq (by omega) (by omega) (fun r146 s147 => ?_)
        refine j_istore (i := 5) (L' := [(5, .int r146), (0, .ref (b)), (1, .ref (cw_a x 0)), (2, .ref (cw_a x 200)), (3, .ref (cw_a x 300)), (4, .int y)]) d_law_1084 (Nat.le_of_ble_eq_true rfl) rfl ?_
        refine j_aload_n 3 rfl d_law_1086 ?_
        refine j_aload_n 1 rfl d_law_1087 ?_
        refine j_iload 5 rfl d_law_1088 ?_
        refine j_iconst d_law_1090 ejc_1 ?_
        refine j_iadd d_law_1091 ?_
        refine jl_sld (ej_finLu (kc' := 0) (ks' := 0) hq (by omega) (by omega)) d_law_1092 ?_
        refine j_aload_n 1 rfl d_law_1093 ?_
        refine j_iload 5 rfl d_law_1094 ?_
        refine j_iconst d_law_1096 ejc_2 ?_
        refine j_iadd d_law_1097 ?_
        refine jl_sld (ej_finLu (kc' := 0) (ks' := 0) hq (by omega) (by omega)) d_law_1098 ?_
        refine j_callVi (fun z1 z2 z3 z4 => lr_con (f := fun r => some (.int r)) (fun z5 z6 z7 => c11_nodeAt x n (xs (y + 1).toNatClampNeg) (xs (y + 2).toNatClampNeg) s147.2.1 z5 z6 z7 z4) z1 z2 z3) lv_L_154 (lV_rc_200 x s147) ⟨Nat.le_of_ble_eq_true rfl, Nat.le_of_ble_eq_true rfl⟩ d_law_1099 rfl (Nat.le_of_ble_eq_true rfl) (fun r148 s149 => ?_)
        refine j_istore (i := 6) (L' := [(6, .int r148), (5, .int r146), (0, .ref (b)), (1, .ref (cw_a x 0)), (2, .ref (cw_a x 200)), (3, .ref (cw_a x 300)), (4, .int y)]) d_law_1102 (Nat.le_of_ble_eq_true rfl) rfl ?_
        refine j_aload_n 4 rfl d_law_1104 ?_
        refine j_callVi (fun z1 z2 z3 z4 => lr_con (f := fun r => some (.int r)) (fun z5 z6 z7 => c11_thrown x n s149.2.1 z5 z6 z7 z4) z1 z2 z3) lv_L_90 (lV_rc_200 x s149) ⟨Nat.le_of_ble_eq_true rfl, Nat.le_of_ble_eq_true rfl⟩ d_law_1105 rfl (Nat.le_of_ble_eq_true rfl) (fun r150 s151 => ?_)
        refine j_iload 1 rfl d_law_1108 ?_
        refine j_icmp_eq d_law_1110 ?_ ?_
        · refine j_iload 1 rfl d_law_1115 ?_
          refine j_if_ne d_law_1117 ?_ ?_
          · refine j_goto d_law_1132 ?_
            refine j_iinc (i := 4) (v := 4) (Ly := fun x152 => [(4, .int x152), (6, .int r148), (5, .int r146), (0, .ref (b)), (1, .ref (cw_a x 0)), (2, .ref (cw_a x 200)), (3, .ref (cw_a x 300))]) 6 d_law_1441 rfl ejc_4 (Nat.le_of_ble_eq_true rfl) (fun _ => rfl) (fun x152 => ?_)
            refine j_goto d_law_1444 ?_
            exact j_sub [3, 4, 5, 6, 0] rfl (ih (ej_finLu hq (by omega) (by omega)) x152 s151)
          · refine j_aload_n 5 rfl d_law_1120 ?_
            refine j_iconst d_law_1121 ejc_0 ?_
            refine j_lald (lV_a_300 x s151) d_law_1122 ?_
            refine j_iload 0 rfl d_law_1123 ?_
            refine j_i2l d_law_1125 ?_
            refine j_lcmp d_law_1126 ?_
            refine j_if_eq d_law_1127 ?_ ?_
            · refine j_goto d_law_1132 ?_
              refine j_iinc (i := 4) (v := 4) (Ly := fun x153 => [(4, .int x153), (6, .int r148), (5, .int r146), (0, .ref (b)), (1, .ref (cw_a x 0)), (2, .ref (cw_a x 200)), (3, .ref (cw_a x 300))]) 6 d_law_1441 rfl ejc_4 (Nat.le_of_ble_eq_true rfl) (fun _ => rfl) (fun x153 => ?_)
              refine j_goto d_law_1444 ?_
              exact j_sub [3, 4, 5, 6, 0] rfl (ih (ej_finLu hq (by omega) (by omega)) x153 s151)
            · refine j_iconst d_law_1130 ejc_0 ?_
              exact jl_ret0
        · refine j_iconst d_law_1113 ejc_0 ?_
          exact jl_ret0
      refine j_tab1 (v := 19) (off := 1096) (t := 1135) d_law_39 (by decide) (by decide) rfl (by decide) ?_ (fun hne19 => ?_)
      · refine j_aload_n 1 rfl d_law_1135 ?_
        refine j_aload_n 0 rfl d_law_1136 ?_
        refine j_iload 4 rfl d_law_1137 ?_
        refine j_iconst d_law_1139 ejc_1 ?_
        refine j_iadd d_law_1140 ?_
        refine jl_sld hq d_law_1141 ?_
        refine j_aload_n 0 rfl d_law_1142 ?_
        refine j_iload 4 rfl d_law_1143 ?_
        refine j_iconst d_law_1145 ejc_2 ?_
        refine j_iadd d_law_1146 ?_
        refine jl_sld hq d_law_1147 ?_
        refine j_aload_n 3 rfl d_law_1148 ?_
        refine jl_call (kL_costAt x n (xs (y + 1).toNatClampNeg) (xs (y + 2).toNatClampNeg) σ) lw_L_155 ⟨Nat.le_of_ble_eq_true rfl, Nat.le_of_ble_eq_true rfl⟩ d_law_1149 rfl (Nat.le_of_ble_eq_true rfl) hq (by omega) (by omega) (fun r154 s155 => ?_)
        refine j_istore (i := 5) (L' := [(5, .int r154), (0, .ref (b)), (1, .ref (cw_a x 0)), (2, .ref (cw_a x 200)), (3, .ref (cw_a x 300)), (4, .int y)]) d_law_1152 (Nat.le_of_ble_eq_true rfl) rfl ?_
        refine j_aload_n 3 rfl d_law_1154 ?_
        refine j_aload_n 1 rfl d_law_1155 ?_
        refine j_iload 5 rfl d_law_1156 ?_
        refine j_iconst d_law_1158 ejc_1 ?_
        refine j_iadd d_law_1159 ?_
        refine jl_sld (ej_finLu (kc' := 0) (ks' := 0) hq (by omega) (by omega)) d_law_1160 ?_
        refine j_aload_n 1 rfl d_law_1161 ?_
        refine j_iload 5 rfl d_law_1162 ?_
        refine j_iconst d_law_1164 ejc_2 ?_
        refine j_iadd d_law_1165 ?_
        refine jl_sld (ej_finLu (kc' := 0) (ks' := 0) hq (by omega) (by omega)) d_law_1166 ?_
        refine j_callVi (fun z1 z2 z3 z4 => lr_con (f := fun r => some (.int r)) (fun z5 z6 z7 => c11_costAt x n (xs (y + 1).toNatClampNeg) (xs (y + 2).toNatClampNeg) s155.2.1 z5 z6 z7 z4) z1 z2 z3) lv_L_157 (lV_rc_200 x s155) ⟨Nat.le_of_ble_eq_true rfl, Nat.le_of_ble_eq_true rfl⟩ d_law_1167 rfl (Nat.le_of_ble_eq_true rfl) (fun r156 s157 => ?_)
        refine j_istore (i := 6) (L' := [(6, .int r156), (5, .int r154), (0, .ref (b)), (1, .ref (cw_a x 0)), (2, .ref (cw_a x 200)), (3, .ref (cw_a x 300)), (4, .int y)]) d_law_1170 (Nat.le_of_ble_eq_true rfl) rfl ?_
        refine j_aload_n 4 rfl d_law_1172 ?_
        refine j_callVi (fun z1 z2 z3 z4 => lr_con (f := fun r => some (.int r)) (fun z5 z6 z7 => c11_thrown x n s157.2.1 z5 z6 z7 z4) z1 z2 z3) lv_L_90 (lV_rc_200 x s157) ⟨Nat.le_of_ble_eq_true rfl, Nat.le_of_ble_eq_true rfl⟩ d_law_1173 rfl (Nat.le_of_ble_eq_true rfl) (fun r158 s159 => ?_)
        refine j_iload 1 rfl d_law_1176 ?_
        refine j_icmp_eq d_law_1178 ?_ ?_
        · refine j_iload 1 rfl d_law_1183 ?_
          refine j_if_ne d_law_1185 ?_ ?_
          · refine j_goto d_law_1200 ?_
            refine j_iinc (i := 4) (v := 4) (Ly := fun x160 => [(4, .int x160), (6, .int r156), (5, .int r154), (0, .ref (b)), (1, .ref (cw_a x 0)), (2, .ref (cw_a x 200)), (3, .ref (cw_a x 300))]) 6 d_law_1441 rfl ejc_4 (Nat.le_of_ble_eq_true rfl) (fun _ => rfl) (fun x160 => ?_)
            refine j_goto d_law_1444 ?_
            exact j_sub [3, 4, 5, 6, 0] rfl (ih (ej_finLu hq (by omega) (by omega)) x160 s159)
          · refine j_aload_n 5 rfl d_law_1188 ?_
            refine j_iconst d_law_1189 ejc_0 ?_
            refine j_lald (lV_a_300 x s159) d_law_1190 ?_
            refine j_iload 0 rfl d_law_1191 ?_
            refine j_i2l d_law_1193 ?_
            refine j_lcmp d_law_1194 ?_
            refine j_if_eq d_law_1195 ?_ ?_
            · refine j_goto d_law_1200 ?_
              refine j_iinc (i := 4) (v := 4) (Ly := fun x161 => [(4, .int x161), (6, .int r156), (5, .int r154), (0, .ref (b)), (1, .ref (cw_a x 0)), (2, .ref (cw_a x 200)), (3, .ref (cw_a x 300))]) 6 d_law_1441 rfl ejc_4 (Nat.le_of_ble_eq_true rfl) (fun _ => rfl) (fun x161 => ?_)
              refine j_goto d_law_1444 ?_
              exact j_sub [3, 4, 5, 6, 0] rfl (ih (ej_finLu hq (by omega) (by omega)) x161 s159)
            · refine j_iconst d_law_1198 ejc_0 ?_
              exact jl_ret0
        · refine j_iconst d_law_1181 ejc_0 ?_
          exact jl_ret0
      refine j_tab1 (v := 20) (off := 1164) (t := 1203) d_law_39 (by decide) (by decide) rfl (by decide) ?_ (fun hne20 => ?_)
      · refine j_aload_n 1 rfl d_law_1203 ?_
        refine j_aload_n 0 rfl d_law_1204 ?_
        refine j_iload 4 rfl d_law_1205 ?_
        refine j_iconst d_law_1207 ejc_1 ?_
        refine j_iadd d_law_1208 ?_
        refine jl_sld hq d_law_1209 ?_
        refine j_aload_n 0 rfl d_law_1210 ?_
        refine j_iload 4 rfl d_law_1211 ?_
        refine j_iconst d_law_1213 ejc_2 ?_
        refine j_iadd d_law_1214 ?_
        refine jl_sld hq d_law_1215 ?_
        refine j_aload_n 3 rfl d_law_1216 ?_
        refine jl_call (kL_stepAt x n (xs (y + 1).toNatClampNeg) (xs (y + 2).toNatClampNeg) σ) lw_L_158 ⟨Nat.le_of_ble_eq_true rfl, Nat.le_of_ble_eq_true rfl⟩ d_law_1217 rfl (Nat.le_of_ble_eq_true rfl) hq (by omega) (by omega) (fun r162 s163 => ?_)
        refine j_istore (i := 5) (L' := [(5, .int r162), (0, .ref (b)), (1, .ref (cw_a x 0)), (2, .ref (cw_a x 200)), (3, .ref (cw_a x 300)), (4, .int y)]) d_law_1220 (Nat.le_of_ble_eq_true rfl) rfl ?_
        refine j_aload_n 3 rfl d_law_1222 ?_
        refine j_aload_n 1 rfl d_law_1223 ?_
        refine j_iload 5 rfl d_law_1224 ?_
        refine j_iconst d_law_1226 ejc_1 ?_
        refine j_iadd d_law_1227 ?_
        refine jl_sld (ej_finLu (kc' := 0) (ks' := 0) hq (by omega) (by omega)) d_law_1228 ?_
        refine j_aload_n 1 rfl d_law_1229 ?_
        refine j_iload 5 rfl d_law_1230 ?_
        refine j_iconst d_law_1232 ejc_2 ?_
        refine j_iadd d_law_1233 ?_
        refine jl_sld (ej_finLu (kc' := 0) (ks' := 0) hq (by omega) (by omega)) d_law_1234 ?_
        refine j_callVi (fun z1 z2 z3 z4 => lr_con (f := fun r => some (.int r)) (fun z5 z6 z7 => c11_stepAt x n (xs (y + 1).toNatClampNeg) (xs (y + 2).toNatClampNeg) s163.2.1 z5 z6 z7 z4) z1 z2 z3) lv_L_160 (lV_rc_200 x s163) ⟨Nat.le_of_ble_eq_true rfl, Nat.le_of_ble_eq_true rfl⟩ d_law_1235 rfl (Nat.le_of_ble_eq_true rfl) (fun r164 s165 => ?_)
        refine j_istore (i := 6) (L' := [(6, .int r164), (5, .int r162), (0, .ref (b)), (1, .ref (cw_a x 0)), (2, .ref (cw_a x 200)), (3, .ref (cw_a x 300)), (4, .int y)]) d_law_1238 (Nat.le_of_ble_eq_true rfl) rfl ?_
        refine j_aload_n 4 rfl d_law_1240 ?_
        refine j_callVi (fun z1 z2 z3 z4 => lr_con (f := fun r => some (.int r)) (fun z5 z6 z7 => c11_thrown x n s165.2.1 z5 z6 z7 z4) z1 z2 z3) lv_L_90 (lV_rc_200 x s165) ⟨Nat.le_of_ble_eq_true rfl, Nat.le_of_ble_eq_true rfl⟩ d_law_1241 rfl (Nat.le_of_ble_eq_true rfl) (fun r166 s167 => ?_)
        refine j_iload 1 rfl d_law_1244 ?_
        refine j_icmp_eq d_law_1246 ?_ ?_
        · refine j_iload 1 rfl d_law_1251 ?_
          refine j_if_ne d_law_1253 ?_ ?_
          · refine j_goto d_law_1268 ?_
            refine j_iinc (i := 4) (v := 4) (Ly := fun x168 => [(4, .int x168), (6, .int r164), (5, .int r162), (0, .ref (b)), (1, .ref (cw_a x 0)), (2, .ref (cw_a x 200)), (3, .ref (cw_a x 300))]) 6 d_law_1441 rfl ejc_4 (Nat.le_of_ble_eq_true rfl) (fun _ => rfl) (fun x168 => ?_)
            refine j_goto d_law_1444 ?_
            exact j_sub [3, 4, 5, 6, 0] rfl (ih (ej_finLu hq (by omega) (by omega)) x168 s167)
          · refine j_aload_n 5 rfl d_law_1256 ?_
            refine j_iconst d_law_1257 ejc_0 ?_
            refine j_lald (lV_a_300 x s167) d_law_1258 ?_
            refine j_iload 0 rfl d_law_1259 ?_
            refine j_i2l d_law_1261 ?_
            refine j_lcmp d_law_1262 ?_
            refine j_if_eq d_law_1263 ?_ ?_
            · refine j_goto d_law_1268 ?_
              refine j_iinc (i := 4) (v := 4) (Ly := fun x169 => [(4, .int x169), (6, .int r164), (5, .int r162), (0, .ref (b)), (1, .ref (cw_a x 0)), (2, .ref (cw_a x 200)), (3, .ref (cw_a x 300))]) 6 d_law_1441 rfl ejc_4 (Nat.le_of_ble_eq_true rfl) (fun _ => rfl) (fun x169 => ?_)
              refine j_goto d_law_1444 ?_
              exact j_sub [3, 4, 5, 6, 0] rfl (ih (ej_finLu hq (by omega) (by omega)) x169 s167)
            · refine j_iconst d_law_1266 ejc_0 ?_
              exact jl_ret0
        · refine j_iconst d_law_1249 ejc_0 ?_
          exact jl_ret0
      refine j_tab1 (v := 21) (off := 1232) (t := 1271) d_law_39 (by decide) (by decide) rfl (by decide) ?_ (fun hne21 => ?_)
      · refine j_aload_n 1 rfl d_law_1271 ?_
        refine j_aload_n 0 rfl d_law_1272 ?_
        refine j_iload 4 rfl d_law_1273 ?_
        refine j_iconst d_law_1275 ejc_1 ?_
        refine j_iadd d_law_1276 ?_
        refine jl_sld hq d_law_1277 ?_
        refine j_aload_n 0 rfl d_law_1278 ?_
        refine j_iload 4 rfl d_law_1279 ?_
        refine j_iconst d_law_1281 ejc_2 ?_
        refine j_iadd d_law_1282 ?_
        refine jl_sld hq d_law_1283 ?_
        refine j_aload_n 3 rfl d_law_1284 ?_
        refine jl_call (kL_isBack x n (xs (y + 1).toNatClampNeg) (xs (y + 2).toNatClampNeg) σ) lw_L_161 ⟨Nat.le_of_ble_eq_true rfl, Nat.le_of_ble_eq_true rfl⟩ d_law_1285 rfl (Nat.le_of_ble_eq_true rfl) hq (by omega) (by omega) (fun r170 s171 => ?_)
        refine j_istore (i := 5) (L' := [(5, .int r170), (0, .ref (b)), (1, .ref (cw_a x 0)), (2, .ref (cw_a x 200)), (3, .ref (cw_a x 300)), (4, .int y)]) d_law_1288 (Nat.le_of_ble_eq_true rfl) rfl ?_
        refine j_aload_n 3 rfl d_law_1290 ?_
        refine j_aload_n 1 rfl d_law_1291 ?_
        refine j_iload 5 rfl d_law_1292 ?_
        refine j_iconst d_law_1294 ejc_1 ?_
        refine j_iadd d_law_1295 ?_
        refine jl_sld (ej_finLu (kc' := 0) (ks' := 0) hq (by omega) (by omega)) d_law_1296 ?_
        refine j_aload_n 1 rfl d_law_1297 ?_
        refine j_iload 5 rfl d_law_1298 ?_
        refine j_iconst d_law_1300 ejc_2 ?_
        refine j_iadd d_law_1301 ?_
        refine jl_sld (ej_finLu (kc' := 0) (ks' := 0) hq (by omega) (by omega)) d_law_1302 ?_
        refine j_callVi (fun z1 z2 z3 z4 => lr_con (f := fun r => some (.int r)) (fun z5 z6 z7 => c11_isBack x n (xs (y + 1).toNatClampNeg) (xs (y + 2).toNatClampNeg) s171.2.1 z5 z6 z7 z4) z1 z2 z3) lv_L_163 (lV_rc_200 x s171) ⟨Nat.le_of_ble_eq_true rfl, Nat.le_of_ble_eq_true rfl⟩ d_law_1303 rfl (Nat.le_of_ble_eq_true rfl) (fun r172 s173 => ?_)
        refine j_istore (i := 6) (L' := [(6, .int r172), (5, .int r170), (0, .ref (b)), (1, .ref (cw_a x 0)), (2, .ref (cw_a x 200)), (3, .ref (cw_a x 300)), (4, .int y)]) d_law_1306 (Nat.le_of_ble_eq_true rfl) rfl ?_
        refine j_aload_n 4 rfl d_law_1308 ?_
        refine j_callVi (fun z1 z2 z3 z4 => lr_con (f := fun r => some (.int r)) (fun z5 z6 z7 => c11_thrown x n s173.2.1 z5 z6 z7 z4) z1 z2 z3) lv_L_90 (lV_rc_200 x s173) ⟨Nat.le_of_ble_eq_true rfl, Nat.le_of_ble_eq_true rfl⟩ d_law_1309 rfl (Nat.le_of_ble_eq_true rfl) (fun r174 s175 => ?_)
        refine j_iload 1 rfl d_law_1312 ?_
        refine j_icmp_eq d_law_1314 ?_ ?_
        · refine j_iload 1 rfl d_law_1319 ?_
          refine j_if_ne d_law_1321 ?_ ?_
          · refine j_goto d_law_1343 ?_
            refine j_iinc (i := 4) (v := 4) (Ly := fun x176 => [(4, .int x176), (6, .int r172), (5, .int r170), (0, .ref (b)), (1, .ref (cw_a x 0)), (2, .ref (cw_a x 200)), (3, .ref (cw_a x 300))]) 6 d_law_1441 rfl ejc_4 (Nat.le_of_ble_eq_true rfl) (fun _ => rfl) (fun x176 => ?_)
            refine j_goto d_law_1444 ?_
            exact j_sub [3, 4, 5, 6, 0] rfl (ih (ej_finLu hq (by omega) (by omega)) x176 s175)
          · refine j_aload_n 5 rfl d_law_1324 ?_
            refine j_iconst d_law_1325 ejc_0 ?_
            refine j_lald (lV_a_300 x s175) d_law_1326 ?_
            refine j_iload 0 rfl d_law_1327 ?_
            refine j_if_eq d_law_1329 ?_ ?_
            · refine j_lconst d_law_1336 ejl_0 ?_
              refine j_lcmp d_law_1337 ?_
              refine j_if_eq d_law_1338 ?_ ?_
              · refine j_goto d_law_1343 ?_
                refine j_iinc (i := 4) (v := 4) (Ly := fun x177 => [(4, .int x177), (6, .int r172), (5, .int r170), (0, .ref (b)), (1, .ref (cw_a x 0)), (2, .ref (cw_a x 200)), (3, .ref (cw_a x 300))]) 6 d_law_1441 rfl ejc_4 (Nat.le_of_ble_eq_true rfl) (fun _ => rfl) (fun x177 => ?_)
                refine j_goto d_law_1444 ?_
                exact j_sub [3, 4, 5, 6, 0] rfl (ih (ej_finLu hq (by omega) (by omega)) x177 s175)
              · refine j_iconst d_law_1341 ejc_0 ?_
                exact jl_ret0
            · refine j_lconst d_law_1332 ejl_1 ?_
              refine j_goto d_law_1333 ?_
              refine j_lcmp d_law_1337 ?_
              refine j_if_eq d_law_1338 ?_ ?_
              · refine j_goto d_law_1343 ?_
                refine j_iinc (i := 4) (v := 4) (Ly := fun x178 => [(4, .int x178), (6, .int r172), (5, .int r170), (0, .ref (b)), (1, .ref (cw_a x 0)), (2, .ref (cw_a x 200)), (3, .ref (cw_a x 300))]) 6 d_law_1441 rfl ejc_4 (Nat.le_of_ble_eq_true rfl) (fun _ => rfl) (fun x178 => ?_)
                refine j_goto d_law_1444 ?_
                exact j_sub [3, 4, 5, 6, 0] rfl (ih (ej_finLu hq (by omega) (by omega)) x178 s175)
              · refine j_iconst d_law_1341 ejc_0 ?_
                exact jl_ret0
        · refine j_iconst d_law_1317 ejc_0 ?_
          exact jl_ret0
      refine j_tab1 (v := 22) (off := 1307) (t := 1346) d_law_39 (by decide) (by decide) rfl (by decide) ?_ (fun hne22 => ?_)
      · refine j_aload_n 1 rfl d_law_1346 ?_
        refine j_aload_n 0 rfl d_law_1347 ?_
        refine j_iload 4 rfl d_law_1348 ?_
        refine j_iconst d_law_1350 ejc_1 ?_
        refine j_iadd d_law_1351 ?_
        refine jl_sld hq d_law_1352 ?_
        refine j_aload_n 3 rfl d_law_1353 ?_
        refine jl_call (kL_print x n (xs (y + 1).toNatClampNeg) σ) lw_L_164 ⟨Nat.le_of_ble_eq_true rfl, Nat.le_of_ble_eq_true rfl⟩ d_law_1354 rfl (Nat.le_of_ble_eq_true rfl) hq (by omega) (by omega) (fun r179 s180 => ?_)
        refine j_istore (i := 5) (L' := [(5, .int r179), (0, .ref (b)), (1, .ref (cw_a x 0)), (2, .ref (cw_a x 200)), (3, .ref (cw_a x 300)), (4, .int y)]) d_law_1357 (Nat.le_of_ble_eq_true rfl) rfl ?_
        refine j_aload_n 3 rfl d_law_1359 ?_
        refine j_aload_n 1 rfl d_law_1360 ?_
        refine j_iload 5 rfl d_law_1361 ?_
        refine j_iconst d_law_1363 ejc_1 ?_
        refine j_iadd d_law_1364 ?_
        refine jl_sld (ej_finLu (kc' := 0) (ks' := 0) hq (by omega) (by omega)) d_law_1365 ?_
        refine j_callVi (fun z1 z2 z3 z4 => lr_con (f := fun r => some (.int r)) (fun z5 z6 z7 => c11_print x n (xs (y + 1).toNatClampNeg) s180.2.1 z5 z6 z7 z4) z1 z2 z3) lv_L_166 (lV_rc_200 x s180) ⟨Nat.le_of_ble_eq_true rfl, Nat.le_of_ble_eq_true rfl⟩ d_law_1366 rfl (Nat.le_of_ble_eq_true rfl) (fun r181 s182 => ?_)
        refine j_istore (i := 6) (L' := [(6, .int r181), (5, .int r179), (0, .ref (b)), (1, .ref (cw_a x 0)), (2, .ref (cw_a x 200)), (3, .ref (cw_a x 300)), (4, .int y)]) d_law_1369 (Nat.le_of_ble_eq_true rfl) rfl ?_
        refine j_aload_n 4 rfl d_law_1371 ?_
        refine j_callVi (fun z1 z2 z3 z4 => lr_con (f := fun r => some (.int r)) (fun z5 z6 z7 => c11_thrown x n s182.2.1 z5 z6 z7 z4) z1 z2 z3) lv_L_90 (lV_rc_200 x s182) ⟨Nat.le_of_ble_eq_true rfl, Nat.le_of_ble_eq_true rfl⟩ d_law_1372 rfl (Nat.le_of_ble_eq_true rfl) (fun r183 s184 => ?_)
        refine j_iload 1 rfl d_law_1375 ?_
        refine j_icmp_eq d_law_1377 ?_ ?_
        · refine j_iload 1 rfl d_law_1382 ?_
          refine j_if_ne d_law_1384 ?_ ?_
          · refine j_goto d_law_1399 ?_
            refine j_iinc (i := 4) (v := 4) (Ly := fun x185 => [(4, .int x185), (6, .int r181), (5, .int r179), (0, .ref (b)), (1, .ref (cw_a x 0)), (2, .ref (cw_a x 200)), (3, .ref (cw_a x 300))]) 6 d_law_1441 rfl ejc_4 (Nat.le_of_ble_eq_true rfl) (fun _ => rfl) (fun x185 => ?_)
            refine j_goto d_law_1444 ?_
            exact j_sub [3, 4, 5, 6, 0] rfl (ih (ej_finLu hq (by omega) (by omega)) x185 s184)
          · refine j_aload_n 5 rfl d_law_1387 ?_
            refine j_iconst d_law_1388 ejc_0 ?_
            refine j_lald (lV_a_300 x s184) d_law_1389 ?_
            refine j_iload 0 rfl d_law_1390 ?_
            refine j_i2l d_law_1392 ?_
            refine j_lcmp d_law_1393 ?_
            refine j_if_eq d_law_1394 ?_ ?_
            · refine j_goto d_law_1399 ?_
              refine j_iinc (i := 4) (v := 4) (Ly := fun x186 => [(4, .int x186), (6, .int r181), (5, .int r179), (0, .ref (b)), (1, .ref (cw_a x 0)), (2, .ref (cw_a x 200)), (3, .ref (cw_a x 300))]) 6 d_law_1441 rfl ejc_4 (Nat.le_of_ble_eq_true rfl) (fun _ => rfl) (fun x186 => ?_)
              refine j_goto d_law_1444 ?_
              exact j_sub [3, 4, 5, 6, 0] rfl (ih (ej_finLu hq (by omega) (by omega)) x186 s184)
            · refine j_iconst d_law_1397 ejc_0 ?_
              exact jl_ret0
        · refine j_iconst d_law_1380 ejc_0 ?_
          exact jl_ret0
      refine j_tab1 (v := 23) (off := 1363) (t := 1402) d_law_39 (by decide) (by decide) rfl (by decide) ?_ (fun hne23 => ?_)
      · refine j_aload_n 1 rfl d_law_1402 ?_
        refine j_callVi (fun z1 z2 z3 z4 => lc_con (f := fun r => some (.int r)) (fun z5 z6 z7 => c10_rewrite x n σ.1 z5 z6 z7 z4) z1 z2 z3) lv_L_167 (lV_rc_0 x σ) ⟨Nat.le_of_ble_eq_true rfl, Nat.le_of_ble_eq_true rfl⟩ d_law_1403 rfl (Nat.le_of_ble_eq_true rfl) (fun r187 s188 => ?_)
        refine j_aload_n 2 rfl d_law_1406 ?_
        refine j_callVi (fun z1 z2 z3 z4 => lr_con (f := fun r => some (.int r)) (fun z5 z6 z7 => c11_rewrite x n s188.2.1 z5 z6 z7 z4) z1 z2 z3) lv_L_170 (lV_rc_200 x s188) ⟨Nat.le_of_ble_eq_true rfl, Nat.le_of_ble_eq_true rfl⟩ d_law_1407 rfl (Nat.le_of_ble_eq_true rfl) (fun r189 s190 => ?_)
        refine j_icmp_eq d_law_1410 ?_ ?_
        · refine j_iinc (i := 4) (v := 4) (Ly := fun x191 => [(4, .int x191), (0, .ref (b)), (1, .ref (cw_a x 0)), (2, .ref (cw_a x 200)), (3, .ref (cw_a x 300))]) 4 d_law_1441 rfl ejc_4 (Nat.le_of_ble_eq_true rfl) (fun _ => rfl) (fun x191 => ?_)
          refine j_goto d_law_1444 ?_
          exact j_sub [1, 2, 3, 4, 0] rfl (ih (ej_finLw hq (by omega) (by omega)) x191 s190)
        · refine j_iconst d_law_1413 ejc_0 ?_
          exact jl_ret0
      refine j_tab1 (v := 24) (off := 1376) (t := 1415) d_law_39 (by decide) (by decide) rfl (by decide) ?_ (fun hne24 => ?_)
      · refine j_aload_n 1 rfl d_law_1415 ?_
        refine j_aload_n 0 rfl d_law_1416 ?_
        refine j_iload 4 rfl d_law_1417 ?_
        refine j_iconst d_law_1419 ejc_1 ?_
        refine j_iadd d_law_1420 ?_
        refine jl_sld hq d_law_1421 ?_
        refine j_callVl (fun z1 z2 z3 z4 => lc_con (f := fun r => some (.long r)) (fun z5 z6 z7 => c10_word x n (xs (y + 1).toNatClampNeg) σ.1 z5 z6 z7 z4) z1 z2 z3) lv_L_171 (lV_rc_0 x σ) ⟨Nat.le_of_ble_eq_true rfl, Nat.le_of_ble_eq_true rfl⟩ d_law_1422 rfl (Nat.le_of_ble_eq_true rfl) (fun r192 s193 => ?_)
        refine j_aload_n 2 rfl d_law_1425 ?_
        refine j_aload_n 0 rfl d_law_1426 ?_
        refine j_iload 4 rfl d_law_1427 ?_
        refine j_iconst d_law_1429 ejc_1 ?_
        refine j_iadd d_law_1430 ?_
        refine jl_sld hq d_law_1431 ?_
        refine j_callVl (fun z1 z2 z3 z4 => lr_con (f := fun r => some (.long r)) (fun z5 z6 z7 => c11_word x n (xs (y + 1).toNatClampNeg) s193.2.1 z5 z6 z7 z4) z1 z2 z3) lv_L_175 (lV_rc_200 x s193) ⟨Nat.le_of_ble_eq_true rfl, Nat.le_of_ble_eq_true rfl⟩ d_law_1432 rfl (Nat.le_of_ble_eq_true rfl) (fun r194 s195 => ?_)
        refine j_lcmp d_law_1435 ?_
        refine j_if_eq d_law_1436 ?_ ?_
        · refine j_iinc (i := 4) (v := 4) (Ly := fun x196 => [(4, .int x196), (0, .ref (b)), (1, .ref (cw_a x 0)), (2, .ref (cw_a x 200)), (3, .ref (cw_a x 300))]) 4 d_law_1441 rfl ejc_4 (Nat.le_of_ble_eq_true rfl) (fun _ => rfl) (fun x196 => ?_)
          refine j_goto d_law_1444 ?_
          exact j_sub [1, 2, 3, 4, 0] rfl (ih (ej_finLw hq (by omega) (by omega)) x196 s195)
        · refine j_iconst d_law_1439 ejc_0 ?_
          exact jl_ret0
      refine j_tabO (t := 1441) d_law_39 (ej_tout25 hne0 hne1 hne2 hne3 hne4 hne5 hne6 hne7 hne8 hne9 hne10 hne11 hne12 hne13 hne14 hne15 hne16 hne17 hne18 hne19 hne20 hne21 hne22 hne23 hne24) (by decide) ?_
      refine j_iinc (i := 4) (v := 4) (Ly := fun x197 => [(4, .int x197), (0, .ref (b)), (1, .ref (cw_a x 0)), (2, .ref (cw_a x 200)), (3, .ref (cw_a x 300))]) 4 d_law_1441 rfl ejc_4 (Nat.le_of_ble_eq_true rfl) (fun _ => rfl) (fun x197 => ?_)
      refine j_goto d_law_1444 ?_
      exact j_sub [1, 2, 3, 4, 0] rfl (ih (ej_finLw hq (by omega) (by omega)) x197 σ)
