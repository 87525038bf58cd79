theorem rX9_layPlace_0 {X : Nat × (Nat → Int32)} {a1 : Int32} {a2 : Int32} {M : Mem} {Q : Option PV → Mem → Prop} (h : (((a1 - 1) + a2) < (M 9 0 6 0) → vp_in a1 19 ∧ (vp_in a1 19 ∧ (vp_in a1 19 ∧ (TT X kX9_layPlace 67 [some (pR (9, 0, 0)), some (pI a1), some (pI a2), some (pI (M 9 0 6 0)), some (pI 0), some (pI a1), none, none] [] (mset (mset (mset M 9 0 23 (Int32.toNatClampNeg a1) 100000) 9 0 24 (Int32.toNatClampNeg a1) 100000) 9 0 25 (Int32.toNatClampNeg a1) (M 9 0 6 0)) Q)))) ∧ (¬ ((a1 - 1) + a2) < (M 9 0 6 0) → vp_in a1 19 ∧ (vp_in a1 19 ∧ (vp_in a1 19 ∧ (TT X kX9_layPlace 67 [some (pR (9, 0, 0)), some (pI a1), some (pI a2), some (pI (M 9 0 6 0)), some (pI 1), some (pI a1), none, none] [] (mset (mset (mset M 9 0 23 (Int32.toNatClampNeg a1) 0) 9 0 24 (Int32.toNatClampNeg a1) 0) 9 0 25 (Int32.toNatClampNeg a1) (M 9 0 6 0)) Q))))) : TT X kX9_layPlace 0 [some (pR (9, 0, 0)), some (pI a1), some (pI a2), none, none, none, none, none] [] M Q :=
 T_aload_n dX9_layPlace_0 rfl <|
 T_getR (C := RX9) (T := TX9) (N := 31) (f := 5) dX9_layPlace_1 c_9_0_0 rfl (by decide) wf_X9_19 rfl <|
 T_iconst dX9_layPlace_4 ic_0 <|
 T_ialdN (n := 80) dX9_layPlace_5 c_9_0_6 (by decide) (by decide) (by decide) rfl vi_0_80 tn_0 <|
 T_istore_n dX9_layPlace_6 (by decide) rfl rfl <|
 T_iload_n dX9_layPlace_7 rfl <|
 T_iconst dX9_layPlace_8 ic_1 <|
 T_isub dX9_layPlace_9 <|
 T_iload_n dX9_layPlace_10 rfl <|
 T_iadd dX9_layPlace_11 <|
 T_iload_n dX9_layPlace_12 rfl <|
 T_icmp_lt (tgt := 20) dX9_layPlace_13 (by decide) (fun z1 =>
 T_iconst dX9_layPlace_20 ic_0 <|
 T_istore dX9_layPlace_21 (by decide) rfl rfl <|
 T_aload_n dX9_layPlace_23 rfl <|
 T_getR (C := RX9) (T := TX9) (N := 31) (f := 22) dX9_layPlace_24 c_9_0_0 rfl (by decide) wf_X9_37 rfl <|
 T_iload_n dX9_layPlace_27 rfl <|
 T_iload dX9_layPlace_28 rfl <|
 T_if_eq (tgt := 37) dX9_layPlace_30 (by decide) (fun _ =>
 T_ldc dX9_layPlace_37 wc_X9_195 <|
 T_iast (n := 19) dX9_layPlace_39 c_9_0_23 (by decide) (by decide) (by decide) rfl (h.1 z1).1 <|
 T_aload_n dX9_layPlace_40 rfl <|
 T_getR (C := RX9) (T := TX9) (N := 31) (f := 23) dX9_layPlace_41 c_9_0_0 rfl (by decide) wf_X9_40 rfl <|
 T_iload_n dX9_layPlace_44 rfl <|
 T_iload dX9_layPlace_45 rfl <|
 T_if_eq (tgt := 54) dX9_layPlace_47 (by decide) (fun _ =>
 T_ldc dX9_layPlace_54 wc_X9_195 <|
 T_iast (n := 19) dX9_layPlace_56 c_9_0_24 (by decide) (by decide) (by decide) rfl (h.1 z1).2.1 <|
 T_aload_n dX9_layPlace_57 rfl <|
 T_getR (C := RX9) (T := TX9) (N := 31) (f := 24) dX9_layPlace_58 c_9_0_0 rfl (by decide) wf_X9_43 rfl <|
 T_iload_n dX9_layPlace_61 rfl <|
 T_iload_n dX9_layPlace_62 rfl <|
 T_iast (n := 19) dX9_layPlace_63 c_9_0_25 (by decide) (by decide) (by decide) rfl (h.1 z1).2.2.1 <|
 T_iload_n dX9_layPlace_64 rfl <|
 T_istore dX9_layPlace_65 (by decide) rfl rfl <|
 (h.1 z1).2.2.2) (fun z => absurd z (by decide))) (fun z => absurd z (by decide))) (fun z1 =>
 T_iconst dX9_layPlace_16 ic_1 <|
 T_goto (tgt := 21) dX9_layPlace_17 (by decide) <|
 T_istore dX9_layPlace_21 (by decide) rfl rfl <|
 T_aload_n dX9_layPlace_23 rfl <|
 T_getR (C := RX9) (T := TX9) (N := 31) (f := 22) dX9_layPlace_24 c_9_0_0 rfl (by decide) wf_X9_37 rfl <|
 T_iload_n dX9_layPlace_27 rfl <|
 T_iload dX9_layPlace_28 rfl <|
 T_if_eq (tgt := 37) dX9_layPlace_30 (by decide) (fun z => absurd z (by decide)) (fun _ =>
 T_iconst dX9_layPlace_33 ic_0 <|
 T_goto (tgt := 39) dX9_layPlace_34 (by decide) <|
 T_iast (n := 19) dX9_layPlace_39 c_9_0_23 (by decide) (by decide) (by decide) rfl (h.2 z1).1 <|
 T_aload_n dX9_layPlace_40 rfl <|
 T_getR (C := RX9) (T := TX9) (N := 31) (f := 23) dX9_layPlace_41 c_9_0_0 rfl (by decide) wf_X9_40 rfl <|
 T_iload_n dX9_layPlace_44 rfl <|
 T_iload dX9_layPlace_45 rfl <|
 T_if_eq (tgt := 54) dX9_layPlace_47 (by decide) (fun z => absurd z (by decide)) (fun _ =>
 T_iconst dX9_layPlace_50 ic_0 <|
 T_goto (tgt := 56) dX9_layPlace_51 (by decide) <|
 T_iast (n := 19) dX9_layPlace_56 c_9_0_24 (by decide) (by decide) (by decide) rfl (h.2 z1).2.1 <|
 T_aload_n dX9_layPlace_57 rfl <|
 T_getR (C := RX9) (T := TX9) (N := 31) (f := 24) dX9_layPlace_58 c_9_0_0 rfl (by decide) wf_X9_43 rfl <|
 T_iload_n dX9_layPlace_61 rfl <|
 T_iload_n dX9_layPlace_62 rfl <|
 T_iast (n := 19) dX9_layPlace_63 c_9_0_25 (by decide) (by decide) (by decide) rfl (h.2 z1).2.2.1 <|
 T_iload_n dX9_layPlace_64 rfl <|
 T_istore dX9_layPlace_65 (by decide) rfl rfl <|
 (h.2 z1).2.2.2)))
theorem rX9_layPlace_67 {X : Nat × (Nat → Int32)} {b1 : Int32} {b2 : Int32} {b3 : Int32} {b4 : Int32} {b5 : Int32} {M : Mem} {Q : Option PV → Mem → Prop} (h : (b3 ≤ b5 → Q none M) ∧ (¬ b3 ≤ b5 → ((b1 + b2) ≤ b5 → Q none M) ∧ (¬ (b1 + b2) ≤ b5 → TT X kX9_isBroken 0 [some (pR (9, 0, 0)), some (pI b5)] [] M (rI fun v3 M2 => (v3 = 0 → vp_in (b5 + 1) 19 ∧ (vp_in (b5 + 1) 19 ∧ ((100000 ≤ (M2 9 0 23 (Int32.toNatClampNeg (b5 + 1))) → TT X kX9_layPlace 67 [some (pR (9, 0, 0)), some (pI b1), some (pI b2), some (pI b3), some (pI b4), some (pI (b5 + 1)), none, none] [] M2 Q) ∧ (¬ 100000 ≤ (M2 9 0 23 (Int32.toNatClampNeg (b5 + 1))) → vp_in b5 18 ∧ (vp_in b1 19 ∧ ((((M2 9 0 23 (Int32.toNatClampNeg (b5 + 1))) + (M2 9 0 22 (Int32.toNatClampNeg b5))) < (M2 9 0 23 (Int32.toNatClampNeg b1)) → vp_in b5 18 ∧ (vp_in b1 19 ∧ (vp_in b1 19 ∧ (vp_in b1 19 ∧ (TT X kX9_layPlace 67 [some (pR (9, 0, 0)), some (pI b1), some (pI b2), some (pI b3), some (pI b4), some (pI (b5 + 1)), none, none] [] (mset (mset (mset M2 9 0 23 (Int32.toNatClampNeg b1) ((M2 9 0 23 (Int32.toNatClampNeg (b5 + 1))) + (M2 9 0 22 (Int32.toNatClampNeg b5)))) 9 0 24 (Int32.toNatClampNeg b1) ((M2 9 0 24 (Int32.toNatClampNeg (b5 + 1))) + 1)) 9 0 25 (Int32.toNatClampNeg b1) b5) Q))))) ∧ (¬ ((M2 9 0 23 (Int32.toNatClampNeg (b5 + 1))) + (M2 9 0 22 (Int32.toNatClampNeg b5))) < (M2 9 0 23 (Int32.toNatClampNeg b1)) → vp_in b5 18 ∧ (vp_in b1 19 ∧ ((¬ ((M2 9 0 23 (Int32.toNatClampNeg (b5 + 1))) + (M2 9 0 22 (Int32.toNatClampNeg b5))) = (M2 9 0 23 (Int32.toNatClampNeg b1)) → TT X kX9_layPlace 67 [some (pR (9, 0, 0)), some (pI b1), some (pI b2), some (pI b3), some (pI b4), some (pI (b5 + 1)), none, none] [] M2 Q) ∧ (((M2 9 0 23 (Int32.toNatClampNeg (b5 + 1))) + (M2 9 0 22 (Int32.toNatClampNeg b5))) = (M2 9 0 23 (Int32.toNatClampNeg b1)) → vp_in b1 19 ∧ (((M2 9 0 24 (Int32.toNatClampNeg b1)) ≤ ((M2 9 0 24 (Int32.toNatClampNeg (b5 + 1))) + 1) → TT X kX9_layPlace 67 [some (pR (9, 0, 0)), some (pI b1), some (pI b2), some (pI b3), some (pI b4), some (pI (b5 + 1)), none, none] [] M2 Q) ∧ (¬ (M2 9 0 24 (Int32.toNatClampNeg b1)) ≤ ((M2 9 0 24 (Int32.toNatClampNeg (b5 + 1))) + 1) → vp_in b5 18 ∧ (vp_in b1 19 ∧ (vp_in b1 19 ∧ (vp_in b1 19 ∧ (TT X kX9_layPlace 67 [some (pR (9, 0, 0)), some (pI b1), some (pI b2), some (pI b3), some (pI b4), some (pI (b5 + 1)), none, none] [] (mset (mset (mset M2 9 0 23 (Int32.toNatClampNeg b1) ((M2 9 0 23 (Int32.toNatClampNeg (b5 + 1))) + (M2 9 0 22 (Int32.toNatClampNeg b5)))) 9 0 24 (Int32.toNatClampNeg b1) ((M2 9 0 24 (Int32.toNatClampNeg (b5 + 1))) + 1)) 9 0 25 (Int32.toNatClampNeg b1) b5) Q)))))))))))))))) ∧ (¬ v3 = 0 → vp_in (b5 + 1) 19 ∧ (TT X kX9_layPlace 67 [some (pR (9, 0, 0)), some (pI b1), some (pI b2), some (pI b3), some (pI b4), some (pI (b5 + 1)), none, none] [] M2 Q)))))) : TT X kX9_layPlace 67 [some (pR (9, 0, 0)), some (pI b1), some (pI b2), some (pI b3), some (pI b4), some (pI b5), none, none] [] M Q :=
 T_iload dX9_layPlace_67 rfl <|
 T_iload_n dX9_layPlace_69 rfl <|
 T_icmp_ge (tgt := 213) dX9_layPlace_70 (by decide) (fun z11 =>
 T_return dX9_layPlace_213 rfl (h.1 z11)) (fun z11 =>
 T_iload dX9_layPlace_73 rfl <|
 T_iload_n dX9_layPlace_75 rfl <|
 T_iload_n dX9_layPlace_76 rfl <|
 T_iadd dX9_layPlace_77 <|
 T_icmp_ge (tgt := 213) dX9_layPlace_78 (by decide) (fun z10 =>
 T_return dX9_layPlace_213 rfl ((h.2 z11).1 z10)) (fun z10 =>
 T_aload_n dX9_layPlace_81 rfl <|
 T_iload dX9_layPlace_82 rfl <|
 T_callVi (k' := kX9_isBroken) (vs := [pI b5]) (st := []) dX9_layPlace_84 wm_X9_196 okX9_isBroken rfl c_9_0_0 rfl rfl rfl (Nat.le_of_ble_eq_true rfl) rfl (Nat.le_of_ble_eq_true rfl) (TT.mono ((h.2 z11).2 z10) (rI_mono (fun v3 M2 h9 =>
 T_if_eq (tgt := 95) dX9_layPlace_87 (by decide) (fun z8 =>
 T_aload_n dX9_layPlace_95 rfl <|
 T_getR (C := RX9) (T := TX9) (N := 31) (f := 22) dX9_layPlace_96 c_9_0_0 rfl (by decide) wf_X9_37 rfl <|
 T_iload dX9_layPlace_99 rfl <|
 T_iconst dX9_layPlace_101 ic_1 <|
 T_iadd dX9_layPlace_102 <|
 T_iald (n := 19) dX9_layPlace_103 c_9_0_23 (by decide) (by decide) (by decide) rfl (h9.1 z8).1 <|
 T_istore dX9_layPlace_104 (by decide) rfl rfl <|
 T_aload_n dX9_layPlace_106 rfl <|
 T_getR (C := RX9) (T := TX9) (N := 31) (f := 23) dX9_layPlace_107 c_9_0_0 rfl (by decide) wf_X9_40 rfl <|
 T_iload dX9_layPlace_110 rfl <|
 T_iconst dX9_layPlace_112 ic_1 <|
 T_iadd dX9_layPlace_113 <|
 T_iald (n := 19) dX9_layPlace_114 c_9_0_24 (by decide) (by decide) (by decide) rfl (h9.1 z8).2.1 <|
 T_iconst dX9_layPlace_115 ic_1 <|
 T_iadd dX9_layPlace_116 <|
 T_istore dX9_layPlace_117 (by decide) rfl rfl <|
 T_iload dX9_layPlace_119 rfl <|
 T_ldc dX9_layPlace_121 wc_X9_195 <|
 T_icmp_ge (tgt := 207) dX9_layPlace_123 (by decide) (fun z7 =>
 T_iinc dX9_layPlace_207 rfl (ii_1 _) (by decide) rfl rfl <|
 T_goto (tgt := 67) dX9_layPlace_210 (by decide) <|
 T_mask [true, true, true, true, true, true, false, false] ((h9.1 z8).2.2.1 z7)) (fun z7 =>
 T_iload dX9_layPlace_126 rfl <|
 T_aload_n dX9_layPlace_128 rfl <|
 T_getR (C := RX9) (T := TX9) (N := 31) (f := 21) dX9_layPlace_129 c_9_0_0 rfl (by decide) wf_X9_34 rfl <|
 T_iload dX9_layPlace_132 rfl <|
 T_iald (n := 18) dX9_layPlace_134 c_9_0_22 (by decide) (by decide) (by decide) rfl ((h9.1 z8).2.2.2 z7).1 <|
 T_iadd dX9_layPlace_135 <|
 T_aload_n dX9_layPlace_136 rfl <|
 T_getR (C := RX9) (T := TX9) (N := 31) (f := 22) dX9_layPlace_137 c_9_0_0 rfl (by decide) wf_X9_37 rfl <|
 T_iload_n dX9_layPlace_140 rfl <|
 T_iald (n := 19) dX9_layPlace_141 c_9_0_23 (by decide) (by decide) (by decide) rfl ((h9.1 z8).2.2.2 z7).2.1 <|
 T_icmp_lt (tgt := 175) dX9_layPlace_142 (by decide) (fun z6 =>
 T_aload_n dX9_layPlace_175 rfl <|
 T_getR (C := RX9) (T := TX9) (N := 31) (f := 22) dX9_layPlace_176 c_9_0_0 rfl (by decide) wf_X9_37 rfl <|
 T_iload_n dX9_layPlace_179 rfl <|
 T_iload dX9_layPlace_180 rfl <|
 T_aload_n dX9_layPlace_182 rfl <|
 T_getR (C := RX9) (T := TX9) (N := 31) (f := 21) dX9_layPlace_183 c_9_0_0 rfl (by decide) wf_X9_34 rfl <|
 T_iload dX9_layPlace_186 rfl <|
 T_iald (n := 18) dX9_layPlace_188 c_9_0_22 (by decide) (by decide) (by decide) rfl (((h9.1 z8).2.2.2 z7).2.2.1 z6).1 <|
 T_iadd dX9_layPlace_189 <|
 T_iast (n := 19) dX9_layPlace_190 c_9_0_23 (by decide) (by decide) (by decide) rfl (((h9.1 z8).2.2.2 z7).2.2.1 z6).2.1 <|
 T_aload_n dX9_layPlace_191 rfl <|
 T_getR (C := RX9) (T := TX9) (N := 31) (f := 23) dX9_layPlace_192 c_9_0_0 rfl (by decide) wf_X9_40 rfl <|
 T_iload_n dX9_layPlace_195 rfl <|
 T_iload dX9_layPlace_196 rfl <|
 T_iast (n := 19) dX9_layPlace_198 c_9_0_24 (by decide) (by decide) (by decide) rfl (((h9.1 z8).2.2.2 z7).2.2.1 z6).2.2.1 <|
 T_aload_n dX9_layPlace_199 rfl <|
 T_getR (C := RX9) (T := TX9) (N := 31) (f := 24) dX9_layPlace_200 c_9_0_0 rfl (by decide) wf_X9_43 rfl <|
 T_iload_n dX9_layPlace_203 rfl <|
 T_iload dX9_layPlace_204 rfl <|
 T_iast (n := 19) dX9_layPlace_206 c_9_0_25 (by decide) (by decide) (by decide) rfl (((h9.1 z8).2.2.2 z7).2.2.1 z6).2.2.2.1 <|
 T_iinc dX9_layPlace_207 rfl (ii_1 _) (by decide) rfl rfl <|
 T_goto (tgt := 67) dX9_layPlace_210 (by decide) <|
 T_mask [true, true, true, true, true, true, false, false] (((h9.1 z8).2.2.2 z7).2.2.1 z6).2.2.2.2) (fun z6 =>
 T_iload dX9_layPlace_145 rfl <|
 T_aload_n dX9_layPlace_147 rfl <|
 T_getR (C := RX9) (T := TX9) (N := 31) (f := 21) dX9_layPlace_148 c_9_0_0 rfl (by decide) wf_X9_34 rfl <|
 T_iload dX9_layPlace_151 rfl <|
 T_iald (n := 18) dX9_layPlace_153 c_9_0_22 (by decide) (by decide) (by decide) rfl (((h9.1 z8).2.2.2 z7).2.2.2 z6).1 <|
 T_iadd dX9_layPlace_154 <|
 T_aload_n dX9_layPlace_155 rfl <|
 T_getR (C := RX9) (T := TX9) (N := 31) (f := 22) dX9_layPlace_156 c_9_0_0 rfl (by decide) wf_X9_37 rfl <|
 T_iload_n dX9_layPlace_159 rfl <|
 T_iald (n := 19) dX9_layPlace_160 c_9_0_23 (by decide) (by decide) (by decide) rfl (((h9.1 z8).2.2.2 z7).2.2.2 z6).2.1 <|
 T_icmp_ne (tgt := 207) dX9_layPlace_161 (by decide) (fun z5 =>
 T_iinc dX9_layPlace_207 rfl (ii_1 _) (by decide) rfl rfl <|
 T_goto (tgt := 67) dX9_layPlace_210 (by decide) <|
 T_mask [true, true, true, true, true, true, false, false] ((((h9.1 z8).2.2.2 z7).2.2.2 z6).2.2.1 z5)) (fun z5 =>
 T_iload dX9_layPlace_164 rfl <|
 T_aload_n dX9_layPlace_166 rfl <|
 T_getR (C := RX9) (T := TX9) (N := 31) (f := 23) dX9_layPlace_167 c_9_0_0 rfl (by decide) wf_X9_40 rfl <|
 T_iload_n dX9_layPlace_170 rfl <|
 T_iald (n := 19) dX9_layPlace_171 c_9_0_24 (by decide) (by decide) (by decide) rfl ((((h9.1 z8).2.2.2 z7).2.2.2 z6).2.2.2 z5).1 <|
 T_icmp_ge (tgt := 207) dX9_layPlace_172 (by decide) (fun z4 =>
 T_iinc dX9_layPlace_207 rfl (ii_1 _) (by decide) rfl rfl <|
 T_goto (tgt := 67) dX9_layPlace_210 (by decide) <|
 T_mask [true, true, true, true, true, true, false, false] (((((h9.1 z8).2.2.2 z7).2.2.2 z6).2.2.2 z5).2.1 z4)) (fun z4 =>
 T_aload_n dX9_layPlace_175 rfl <|
 T_getR (C := RX9) (T := TX9) (N := 31) (f := 22) dX9_layPlace_176 c_9_0_0 rfl (by decide) wf_X9_37 rfl <|
 T_iload_n dX9_layPlace_179 rfl <|
 T_iload dX9_layPlace_180 rfl <|
 T_aload_n dX9_layPlace_182 rfl <|
 T_getR (C := RX9) (T := TX9) (N := 31) (f := 21) dX9_layPlace_183 c_9_0_0 rfl (by decide) wf_X9_34 rfl <|
 T_iload dX9_layPlace_186 rfl <|
 T_iald (n := 18) dX9_layPlace_188 c_9_0_22 (by decide) (by decide) (by decide) rfl (((((h9.1 z8).2.2.2 z7).2.2.2 z6).2.2.2 z5).2.2 z4).1 <|
 T_iadd dX9_layPlace_189 <|
 T_iast (n := 19) dX9_layPlace_190 c_9_0_23 (by decide) (by decide) (by decide) rfl (((((h9.1 z8).2.2.2 z7).2.2.2 z6).2.2.2 z5).2.2 z4).2.1 <|
 T_aload_n dX9_layPlace_191 rfl <|
 T_getR (C := RX9) (T := TX9) (N := 31) (f := 23) dX9_layPlace_192 c_9_0_0 rfl (by decide) wf_X9_40 rfl <|
 T_iload_n dX9_layPlace_195 rfl <|
 T_iload dX9_layPlace_196 rfl <|
 T_iast (n := 19) dX9_layPlace_198 c_9_0_24 (by decide) (by decide) (by decide) rfl (((((h9.1 z8).2.2.2 z7).2.2.2 z6).2.2.2 z5).2.2 z4).2.2.1 <|
 T_aload_n dX9_layPlace_199 rfl <|
 T_getR (C := RX9) (T := TX9) (N := 31) (f := 24) dX9_layPlace_200 c_9_0_0 rfl (by decide) wf_X9_43 rfl <|
 T_iload_n dX9_layPlace_203 rfl <|
 T_iload dX9_layPlace_204 rfl <|
 T_iast (n := 19) dX9_layPlace_206 c_9_0_25 (by decide) (by decide) (by decide) rfl (((((h9.1 z8).2.2.2 z7).2.2.2 z6).2.2.2 z5).2.2 z4).2.2.2.1 <|
 T_iinc dX9_layPlace_207 rfl (ii_1 _) (by decide) rfl rfl <|
 T_goto (tgt := 67) dX9_layPlace_210 (by decide) <|
 T_mask [true, true, true, true, true, true, false, false] (((((h9.1 z8).2.2.2 z7).2.2.2 z6).2.2.2 z5).2.2 z4).2.2.2.2))))) (fun z8 =>
 T_ldc dX9_layPlace_90 wc_X9_195 <|
 T_goto (tgt := 104) dX9_layPlace_92 (by decide) <|
 T_istore dX9_layPlace_104 (by decide) rfl rfl <|
 T_aload_n dX9_layPlace_106 rfl <|
 T_getR (C := RX9) (T := TX9) (N := 31) (f := 23) dX9_layPlace_107 c_9_0_0 rfl (by decide) wf_X9_40 rfl <|
 T_iload dX9_layPlace_110 rfl <|
 T_iconst dX9_layPlace_112 ic_1 <|
 T_iadd dX9_layPlace_113 <|
 T_iald (n := 19) dX9_layPlace_114 c_9_0_24 (by decide) (by decide) (by decide) rfl (h9.2 z8).1 <|
 T_iconst dX9_layPlace_115 ic_1 <|
 T_iadd dX9_layPlace_116 <|
 T_istore dX9_layPlace_117 (by decide) rfl rfl <|
 T_iload dX9_layPlace_119 rfl <|
 T_ldc dX9_layPlace_121 wc_X9_195 <|
 T_icmp_ge (tgt := 207) dX9_layPlace_123 (by decide) (fun _ =>
 T_iinc dX9_layPlace_207 rfl (ii_1 _) (by decide) rfl rfl <|
 T_goto (tgt := 67) dX9_layPlace_210 (by decide) <|
 T_mask [true, true, true, true, true, true, false, false] (h9.2 z8).2) (fun z => absurd z (by decide))))))))
theorem rX9_layWay_0 {X : Nat × (Nat → Int32)} {a1 : Int32} {M : Mem} {Q : Option PV → Mem → Prop} (h : TT X kX9_layWay 7 [some (pR (9, 0, 0)), some (pI a1), some (pI (M 9 0 6 0))] [] M Q) : TT X kX9_layWay 0 [some (pR (9, 0, 0)), some (pI a1), none] [] M Q :=
 T_aload_n dX9_layWay_0 rfl <|
 T_getR (C := RX9) (T := TX9) (N := 31) (f := 5) dX9_layWay_1 c_9_0_0 rfl (by decide) wf_X9_19 rfl <|
 T_iconst dX9_layWay_4 ic_0 <|
 T_ialdN (n := 80) dX9_layWay_5 c_9_0_6 (by decide) (by decide) (by decide) rfl vi_0_80 tn_0 <|
 T_istore_n dX9_layWay_6 (by decide) rfl rfl <|
 h
theorem rX9_layWay_7 {X : Nat × (Nat → Int32)} {b1 : Int32} {b2 : Int32} {M : Mem} {Q : Option PV → Mem → Prop} (h : (b2 < 0 → Q none M) ∧ (¬ b2 < 0 → TT X kX9_walker 0 [some (pR (9, 0, 0)), some (pI b1), some (pI 0)] [] M (rI fun v2 M1 => TT X kX9_layPlace 0 [some (pR (9, 0, 0)), some (pI b2), some (pI v2), none, none, none, none, none] [] M1 (rV fun M3 => TT X kX9_layWay 7 [some (pR (9, 0, 0)), some (pI b1), some (pI (b2 + (-1)))] [] M3 Q)))) : TT X kX9_layWay 7 [some (pR (9, 0, 0)), some (pI b1), some (pI b2)] [] M Q :=
 T_iload_n dX9_layWay_7 rfl <|
 T_if_lt (tgt := 28) dX9_layWay_8 (by decide) (fun z7 =>
 T_return dX9_layWay_28 rfl (h.1 z7)) (fun z7 =>
 T_aload_n dX9_layWay_11 rfl <|
 T_iload_n dX9_layWay_12 rfl <|
 T_aload_n dX9_layWay_13 rfl <|
 T_iload_n dX9_layWay_14 rfl <|
 T_iconst dX9_layWay_15 ic_0 <|
 T_callVi (k' := kX9_walker) (vs := [pI b1, pI 0]) (st := [pI b2, pR (9, 0, 0)]) dX9_layWay_16 wm_X9_199 okX9_walker rfl c_9_0_0 rfl rfl rfl (Nat.le_of_ble_eq_true rfl) rfl (Nat.le_of_ble_eq_true rfl) (TT.mono (h.2 z7) (rI_mono (fun v2 M1 h6 =>
 T_callVv (k' := kX9_layPlace) (vs := [pI b2, pI v2]) (st := []) dX9_layWay_19 wm_X9_202 okX9_layPlace rfl c_9_0_0 rfl rfl rfl (Nat.le_of_ble_eq_true rfl) rfl (Nat.le_of_ble_eq_true rfl) (TT.mono h6 (rV_mono (fun M3 h5 =>
 T_iinc dX9_layWay_22 rfl (ii_m1 _) (by decide) rfl rfl <|
 T_goto (tgt := 7) dX9_layWay_25 (by decide) <|
 h5)))))))
theorem rX9_hasWay_0 {X : Nat × (Nat → Int32)}  {M : Mem} {Q : Option PV → Mem → Prop} (h : (100000 ≤ (M 9 0 23 0) → Q (some (pI 0)) M) ∧ (¬ 100000 ≤ (M 9 0 23 0) → Q (some (pI 1)) M)) : TT X kX9_hasWay 0 [some (pR (9, 0, 0))] [] M Q :=
 T_aload_n dX9_hasWay_0 rfl <|
 T_getR (C := RX9) (T := TX9) (N := 31) (f := 22) dX9_hasWay_1 c_9_0_0 rfl (by decide) wf_X9_37 rfl <|
 T_iconst dX9_hasWay_4 ic_0 <|
 T_ialdN (n := 19) dX9_hasWay_5 c_9_0_23 (by decide) (by decide) (by decide) rfl vi_0_19 tn_0 <|
 T_ldc dX9_hasWay_6 wc_X9_195 <|
 T_icmp_ge (tgt := 15) dX9_hasWay_8 (by decide) (fun z1 =>
 T_iconst dX9_hasWay_15 ic_0 <|
 T_ireturn (ty := .boolean) dX9_hasWay_16 rfl rfl (h.1 z1)) (fun z1 =>
 T_iconst dX9_hasWay_11 ic_1 <|
 T_goto (tgt := 16) dX9_hasWay_12 (by decide) <|
 T_ireturn (ty := .boolean) dX9_hasWay_16 rfl rfl (h.2 z1))
theorem rX9_costOf_0 {X : Nat × (Nat → Int32)} {a1 : Int32} {M : Mem} {Q : Option PV → Mem → Prop} (h : TT X kX9_walker 0 [some (pR (9, 0, 0)), some (pI a1), some (pI 1)] [] M (rI fun v2 M1 => Q (some (pI ((M 9 0 23 0) * (1 + v2)))) M1)) : TT X kX9_costOf 0 [some (pR (9, 0, 0)), some (pI a1)] [] M Q :=
 T_aload_n dX9_costOf_0 rfl <|
 T_getR (C := RX9) (T := TX9) (N := 31) (f := 22) dX9_costOf_1 c_9_0_0 rfl (by decide) wf_X9_37 rfl <|
 T_iconst dX9_costOf_4 ic_0 <|
 T_ialdN (n := 19) dX9_costOf_5 c_9_0_23 (by decide) (by decide) (by decide) rfl vi_0_19 tn_0 <|
 T_iconst dX9_costOf_6 ic_1 <|
 T_aload_n dX9_costOf_7 rfl <|
 T_iload_n dX9_costOf_8 rfl <|
 T_iconst dX9_costOf_9 ic_1 <|
 T_callVi (k' := kX9_walker) (vs := [pI a1, pI 1]) (st := [pI 1, pI (M 9 0 23 0)]) dX9_costOf_10 wm_X9_199 okX9_walker rfl c_9_0_0 rfl rfl rfl (Nat.le_of_ble_eq_true rfl) rfl (Nat.le_of_ble_eq_true rfl) (TT.mono h (rI_mono (fun v2 M1 h3 =>
 T_iadd dX9_costOf_13 <|
 T_imul dX9_costOf_14 <|
 T_ireturn (ty := .int) dX9_costOf_15 rfl rfl h3)))
theorem rX9_goes_0 {X : Nat × (Nat → Int32)} {a1 : Int32} {M : Mem} {Q : Option PV → Mem → Prop} (h : TT X kX9_hasWay 0 [some (pR (9, 0, 0))] [] M (rI fun v2 M1 => (v2 = 0 → Q (some (pI 0)) M1) ∧ (¬ v2 = 0 → TT X kX9_costOf 0 [some (pR (9, 0, 0)), some (pI a1)] [] M1 (rI fun v4 M3 => TT X kX9_walker 0 [some (pR (9, 0, 0)), some (pI a1), some (pI 2)] [] M3 (rI fun v6 M5 => (v6 < v4 → Q (some (pI 0)) M5) ∧ (¬ v6 < v4 → Q (some (pI 1)) M5)))))) : TT X kX9_goes 0 [some (pR (9, 0, 0)), some (pI a1)] [] M Q :=
 T_aload_n dX9_goes_0 rfl <|
 T_callVi (k' := kX9_hasWay) (vs := []) (st := []) dX9_goes_1 wm_X9_205 okX9_hasWay rfl c_9_0_0 rfl rfl rfl (Nat.le_of_ble_eq_true rfl) rfl (Nat.le_of_ble_eq_true rfl) (TT.mono h (rI_mono (fun v2 M1 h11 =>
 T_if_eq (tgt := 25) dX9_goes_4 (by decide) (fun z10 =>
 T_iconst dX9_goes_25 ic_0 <|
 T_ireturn (ty := .boolean) dX9_goes_26 rfl rfl (h11.1 z10)) (fun z10 =>
 T_aload_n dX9_goes_7 rfl <|
 T_iload_n dX9_goes_8 rfl <|
 T_callVi (k' := kX9_costOf) (vs := [pI a1]) (st := []) dX9_goes_9 wm_X9_209 okX9_costOf rfl c_9_0_0 rfl rfl rfl (Nat.le_of_ble_eq_true rfl) rfl (Nat.le_of_ble_eq_true rfl) (TT.mono (h11.2 z10) (rI_mono (fun v4 M3 h9 =>
 T_aload_n dX9_goes_12 rfl <|
 T_iload_n dX9_goes_13 rfl <|
 T_iconst dX9_goes_14 ic_2 <|
 T_callVi (k' := kX9_walker) (vs := [pI a1, pI 2]) (st := [pI v4]) dX9_goes_15 wm_X9_199 okX9_walker rfl c_9_0_0 rfl rfl rfl (Nat.le_of_ble_eq_true rfl) rfl (Nat.le_of_ble_eq_true rfl) (TT.mono h9 (rI_mono (fun v6 M5 h8 =>
 T_icmp_gt (tgt := 25) dX9_goes_18 (by decide) (fun z7 =>
 T_iconst dX9_goes_25 ic_0 <|
 T_ireturn (ty := .boolean) dX9_goes_26 rfl rfl (h8.1 z7)) (fun z7 =>
 T_iconst dX9_goes_21 ic_1 <|
 T_goto (tgt := 26) dX9_goes_22 (by decide) <|
 T_ireturn (ty := .boolean) dX9_goes_26 rfl rfl (h8.2 z7))))))))))))
theorem rX9_way_0 {X : Nat × (Nat → Int32)} {a1 : Int32} {a2 : Int32} {M : Mem} {Q : Option PV → Mem → Prop} (h : TT X kX9_isWalker 0 [some (pR (9, 0, 0)), some (pI a1)] [] (mset M 9 0 0 0 0) (rI fun v2 M1 => (v2 = 0 → Q (some (pI (-1000001))) M1) ∧ (¬ v2 = 0 → ((-3) ≤ a2 → TT X kX9_layNow 0 [some (pR (9, 0, 0)), none] [] M1 (rV fun M3 => TT X kX9_layWay 0 [some (pR (9, 0, 0)), some (pI a1), none] [] M3 (rV fun M5 => (¬ a2 = (-3) → TT X kX9_hasWay 0 [some (pR (9, 0, 0))] [] M5 (rI fun v8 M7 => (¬ v8 = 0 → (¬ a2 = (-2) → (a2 = (-1) → (¬ a2 = (-1) → Q (some (pI (-1000000))) M7) ∧ (a2 = (-1) → Q (some (pI (M7 9 0 24 0))) M7)) ∧ (¬ a2 = (-1) → (a2 < (M7 9 0 24 0) → TT X kX9_way 124 [some (pR (9, 0, 0)), some (pI a1), some (pI a2), some (pI (M7 9 0 25 0)), some (pI 0)] [] M7 Q) ∧ (¬ a2 < (M7 9 0 24 0) → (¬ a2 = (-1) → Q (some (pI (-1000000))) M7) ∧ (a2 = (-1) → Q (some (pI (M7 9 0 24 0))) M7)))) ∧ (a2 = (-2) → TT X kX9_costOf 0 [some (pR (9, 0, 0)), some (pI a1)] [] M7 (rI fun v14 M13 => Q (some (pI v14)) M13))) ∧ (v8 = 0 → (¬ a2 = (-1) → Q (some (pI (-1000000))) M7) ∧ (a2 = (-1) → Q (some (pI 0)) M7)))) ∧ (a2 = (-3) → TT X kX9_goes 0 [some (pR (9, 0, 0)), some (pI a1)] [] M5 (rI fun v21 M20 => (v21 = 0 → Q (some (pI 0)) M20) ∧ (¬ v21 = 0 → Q (some (pI 1)) M20)))))) ∧ (¬ (-3) ≤ a2 → Q (some (pI (-1000001))) M1)))) : TT X kX9_way 0 [some (pR (9, 0, 0)), some (pI a1), some (pI a2), none, none] [] M Q :=
 T_aload_n dX9_way_0 rfl <|
 T_iconst dX9_way_1 ic_0 <|
 T_putI (C := RX9) (T := TX9) (N := 31) (f := 0) dX9_way_2 c_9_0_0 rfl (by decide) wf_X9_59 rfl rfl rfl <|
 T_aload_n dX9_way_5 rfl <|
 T_iload_n dX9_way_6 rfl <|
 T_callVi (k' := kX9_isWalker) (vs := [pI a1]) (st := []) dX9_way_7 wm_X9_212 okX9_isWalker rfl c_9_0_0 rfl rfl rfl (Nat.le_of_ble_eq_true rfl) rfl (Nat.le_of_ble_eq_true rfl) (TT.mono h (rI_mono (fun v2 M1 h29 =>
 T_if_eq (tgt := 19) dX9_way_10 (by decide) (fun z28 =>
 T_ldc dX9_way_19 wc_X9_79 <|
 T_ireturn (ty := .int) dX9_way_21 rfl rfl (h29.1 z28)) (fun z28 =>
 T_iload_n dX9_way_13 rfl <|
 T_bipush dX9_way_14 bp_m3 <|
 T_icmp_ge (tgt := 22) dX9_way_16 (by decide) (fun z27 =>
 T_aload_n dX9_way_22 rfl <|
 T_callVv (k' := kX9_layNow) (vs := []) (st := []) dX9_way_23 wm_X9_215 okX9_layNow rfl c_9_0_0 rfl rfl rfl (Nat.le_of_ble_eq_true rfl) rfl (Nat.le_of_ble_eq_true rfl) (TT.mono ((h29.2 z28).1 z27) (rV_mono (fun M3 h26 =>
 T_aload_n dX9_way_26 rfl <|
 T_iload_n dX9_way_27 rfl <|
 T_callVv (k' := kX9_layWay) (vs := [pI a1]) (st := []) dX9_way_28 wm_X9_218 okX9_layWay rfl c_9_0_0 rfl rfl rfl (Nat.le_of_ble_eq_true rfl) rfl (Nat.le_of_ble_eq_true rfl) (TT.mono h26 (rV_mono (fun M5 h25 =>
 T_iload_n dX9_way_31 rfl <|
 T_bipush dX9_way_32 bp_m3 <|
 T_icmp_ne (tgt := 51) dX9_way_34 (by decide) (fun z24 =>
 T_aload_n dX9_way_51 rfl <|
 T_callVi (k' := kX9_hasWay) (vs := []) (st := []) dX9_way_52 wm_X9_205 okX9_hasWay rfl c_9_0_0 rfl rfl rfl (Nat.le_of_ble_eq_true rfl) rfl (Nat.le_of_ble_eq_true rfl) (TT.mono (h25.1 z24) (rI_mono (fun v8 M7 h19 =>
 T_if_ne (tgt := 70) dX9_way_55 (by decide) (fun z18 =>
 T_iload_n dX9_way_70 rfl <|
 T_bipush dX9_way_71 bp_m2 <|
 T_icmp_ne (tgt := 82) dX9_way_73 (by decide) (fun z16 =>
 T_iload_n dX9_way_82 rfl <|
 T_iconst dX9_way_83 ic_m1 <|
 T_icmp_eq (tgt := 97) dX9_way_84 (by decide) (fun z12 =>
 T_iload_n dX9_way_97 rfl <|
 T_iconst dX9_way_98 ic_m1 <|
 T_icmp_ne (tgt := 111) dX9_way_99 (by decide) (fun z9 =>
 T_ldc dX9_way_111 wc_X9_95 <|
 T_ireturn (ty := .int) dX9_way_113 rfl rfl ((((h19.1 z18).1 z16).1 z12).1 z9)) (fun z9 =>
 T_aload_n dX9_way_102 rfl <|
 T_getR (C := RX9) (T := TX9) (N := 31) (f := 23) dX9_way_103 c_9_0_0 rfl (by decide) wf_X9_40 rfl <|
 T_iconst dX9_way_106 ic_0 <|
 T_ialdN (n := 19) dX9_way_107 c_9_0_24 (by decide) (by decide) (by decide) rfl vi_0_19 tn_0 <|
 T_goto (tgt := 113) dX9_way_108 (by decide) <|
 T_ireturn (ty := .int) dX9_way_113 rfl rfl ((((h19.1 z18).1 z16).1 z12).2 z9))) (fun z12 =>
 T_iload_n dX9_way_87 rfl <|
 T_aload_n dX9_way_88 rfl <|
 T_getR (C := RX9) (T := TX9) (N := 31) (f := 23) dX9_way_89 c_9_0_0 rfl (by decide) wf_X9_40 rfl <|
 T_iconst dX9_way_92 ic_0 <|
 T_ialdN (n := 19) dX9_way_93 c_9_0_24 (by decide) (by decide) (by decide) rfl vi_0_19 tn_0 <|
 T_icmp_lt (tgt := 114) dX9_way_94 (by decide) (fun z11 =>
 T_aload_n dX9_way_114 rfl <|
 T_getR (C := RX9) (T := TX9) (N := 31) (f := 24) dX9_way_115 c_9_0_0 rfl (by decide) wf_X9_43 rfl <|
 T_iconst dX9_way_118 ic_0 <|
 T_ialdN (n := 19) dX9_way_119 c_9_0_25 (by decide) (by decide) (by decide) rfl vi_0_19 tn_0 <|
 T_istore_n dX9_way_120 (by decide) rfl rfl <|
 T_iconst dX9_way_121 ic_0 <|
 T_istore dX9_way_122 (by decide) rfl rfl <|
 ((((h19.1 z18).1 z16).2 z12).1 z11)) (fun z11 =>
 T_iload_n dX9_way_97 rfl <|
 T_iconst dX9_way_98 ic_m1 <|
 T_icmp_ne (tgt := 111) dX9_way_99 (by decide) (fun z10 =>
 T_ldc dX9_way_111 wc_X9_95 <|
 T_ireturn (ty := .int) dX9_way_113 rfl rfl (((((h19.1 z18).1 z16).2 z12).2 z11).1 z10)) (fun z10 =>
 T_aload_n dX9_way_102 rfl <|
 T_getR (C := RX9) (T := TX9) (N := 31) (f := 23) dX9_way_103 c_9_0_0 rfl (by decide) wf_X9_40 rfl <|
 T_iconst dX9_way_106 ic_0 <|
 T_ialdN (n := 19) dX9_way_107 c_9_0_24 (by decide) (by decide) (by decide) rfl vi_0_19 tn_0 <|
 T_goto (tgt := 113) dX9_way_108 (by decide) <|
 T_ireturn (ty := .int) dX9_way_113 rfl rfl (((((h19.1 z18).1 z16).2 z12).2 z11).2 z10))))) (fun z16 =>
 T_aload_n dX9_way_76 rfl <|
 T_iload_n dX9_way_77 rfl <|
 T_callVi (k' := kX9_costOf) (vs := [pI a1]) (st := []) dX9_way_78 wm_X9_209 okX9_costOf rfl c_9_0_0 rfl rfl rfl (Nat.le_of_ble_eq_true rfl) rfl (Nat.le_of_ble_eq_true rfl) (TT.mono ((h19.1 z18).2 z16) (rI_mono (fun v14 M13 h15 =>
 T_ireturn (ty := .int) dX9_way_81 rfl rfl h15))))) (fun z18 =>
 T_iload_n dX9_way_58 rfl <|
 T_iconst dX9_way_59 ic_m1 <|
 T_icmp_ne (tgt := 67) dX9_way_60 (by decide) (fun z17 =>
 T_ldc dX9_way_67 wc_X9_95 <|
 T_ireturn (ty := .int) dX9_way_69 rfl rfl ((h19.2 z18).1 z17)) (fun z17 =>
 T_iconst dX9_way_63 ic_0 <|
 T_goto (tgt := 69) dX9_way_64 (by decide) <|
 T_ireturn (ty := .int) dX9_way_69 rfl rfl ((h19.2 z18).2 z17))))))) (fun z24 =>
 T_aload_n dX9_way_37 rfl <|
 T_iload_n dX9_way_38 rfl <|
 T_callVi (k' := kX9_goes) (vs := [pI a1]) (st := []) dX9_way_39 wm_X9_221 okX9_goes rfl c_9_0_0 rfl rfl rfl (Nat.le_of_ble_eq_true rfl) rfl (Nat.le_of_ble_eq_true rfl) (TT.mono (h25.2 z24) (rI_mono (fun v21 M20 h23 =>
 T_if_eq (tgt := 49) dX9_way_42 (by decide) (fun z22 =>
 T_iconst dX9_way_49 ic_0 <|
 T_ireturn (ty := .int) dX9_way_50 rfl rfl (h23.1 z22)) (fun z22 =>
 T_iconst dX9_way_45 ic_1 <|
 T_goto (tgt := 50) dX9_way_46 (by decide) <|
 T_ireturn (ty := .int) dX9_way_50 rfl rfl (h23.2 z22))))))))))))) (fun z27 =>
 T_ldc dX9_way_19 wc_X9_79 <|
 T_ireturn (ty := .int) dX9_way_21 rfl rfl ((h29.2 z28).2 z27))))))
theorem rX9_way_124 {X : Nat × (Nat → Int32)} {b1 : Int32} {b2 : Int32} {b3 : Int32} {b4 : Int32} {M : Mem} {Q : Option PV → Mem → Prop} (h : (b2 ≤ b4 → Q (some (pI b3)) M) ∧ (¬ b2 ≤ b4 → vp_in (b3 + 1) 19 ∧ (TT X kX9_way 124 [some (pR (9, 0, 0)), some (pI b1), some (pI b2), some (pI (M 9 0 25 (Int32.toNatClampNeg (b3 + 1)))), some (pI (b4 + 1))] [] M Q))) : TT X kX9_way 124 [some (pR (9, 0, 0)), some (pI b1), some (pI b2), some (pI b3), some (pI b4)] [] M Q :=
 T_iload dX9_way_124 rfl <|
 T_iload_n dX9_way_126 rfl <|
 T_icmp_ge (tgt := 145) dX9_way_127 (by decide) (fun z30 =>
 T_iload_n dX9_way_145 rfl <|
 T_ireturn (ty := .int) dX9_way_146 rfl rfl (h.1 z30)) (fun z30 =>
 T_aload_n dX9_way_130 rfl <|
 T_getR (C := RX9) (T := TX9) (N := 31) (f := 24) dX9_way_131 c_9_0_0 rfl (by decide) wf_X9_43 rfl <|
 T_iload_n dX9_way_134 rfl <|
 T_iconst dX9_way_135 ic_1 <|
 T_iadd dX9_way_136 <|
 T_iald (n := 19) dX9_way_137 c_9_0_25 (by decide) (by decide) (by decide) rfl (h.2 z30).1 <|
 T_istore_n dX9_way_138 (by decide) rfl rfl <|
 T_iinc dX9_way_139 rfl (ii_1 _) (by decide) rfl rfl <|
 T_goto (tgt := 124) dX9_way_142 (by decide) <|
 (h.2 z30).2)
theorem rX9_takenBy_0 {X : Nat × (Nat → Int32)} {a1 : Int32} {M : Mem} {Q : Option PV → Mem → Prop} (h : TT X kX9_takenBy 4 [some (pR (9, 0, 0)), some (pI a1), some (pI 0), some (pI 0), none, none] [] M Q) : TT X kX9_takenBy 0 [some (pR (9, 0, 0)), some (pI a1), none, none, none, none] [] M Q :=
 T_iconst dX9_takenBy_0 ic_0 <|
 T_istore_n dX9_takenBy_1 (by decide) rfl rfl <|
 T_iconst dX9_takenBy_2 ic_0 <|
 T_istore_n dX9_takenBy_3 (by decide) rfl rfl <|
 h
theorem rX9_takenBy_4 {X : Nat × (Nat → Int32)} {b1 : Int32} {b2 : Int32} {b3 : Int32} {M : Mem} {Q : Option PV → Mem → Prop} (h : ((M 9 0 6 1) ≤ b3 → Q (some (pI b2)) M) ∧ (¬ (M 9 0 6 1) ≤ b3 → TT X kX9_layWay 0 [some (pR (9, 0, 0)), some (pI b3), none] [] M (rV fun M1 => TT X kX9_takenBy 30 [some (pR (9, 0, 0)), some (pI b1), some (pI b2), some (pI b3), some (pI (M1 9 0 25 0)), some (pI 0)] [] M1 Q))) : TT X kX9_takenBy 4 [some (pR (9, 0, 0)), some (pI b1), some (pI b2), some (pI b3), none, none] [] M Q :=
 T_iload_n dX9_takenBy_4 rfl <|
 T_aload_n dX9_takenBy_5 rfl <|
 T_getR (C := RX9) (T := TX9) (N := 31) (f := 5) dX9_takenBy_6 c_9_0_0 rfl (by decide) wf_X9_19 rfl <|
 T_iconst dX9_takenBy_9 ic_1 <|
 T_ialdN (n := 80) dX9_takenBy_10 c_9_0_6 (by decide) (by decide) (by decide) rfl vi_1_80 tn_1 <|
 T_icmp_ge (tgt := 121) dX9_takenBy_11 (by decide) (fun z4 =>
 T_iload_n dX9_takenBy_121 rfl <|
 T_ireturn (ty := .int) dX9_takenBy_122 rfl rfl (h.1 z4)) (fun z4 =>
 T_aload_n dX9_takenBy_14 rfl <|
 T_iload_n dX9_takenBy_15 rfl <|
 T_callVv (k' := kX9_layWay) (vs := [pI b3]) (st := []) dX9_takenBy_16 wm_X9_218 okX9_layWay rfl c_9_0_0 rfl rfl rfl (Nat.le_of_ble_eq_true rfl) rfl (Nat.le_of_ble_eq_true rfl) (TT.mono (h.2 z4) (rV_mono (fun M1 h3 =>
 T_aload_n dX9_takenBy_19 rfl <|
 T_getR (C := RX9) (T := TX9) (N := 31) (f := 24) dX9_takenBy_20 c_9_0_0 rfl (by decide) wf_X9_43 rfl <|
 T_iconst dX9_takenBy_23 ic_0 <|
 T_ialdN (n := 19) dX9_takenBy_24 c_9_0_25 (by decide) (by decide) (by decide) rfl vi_0_19 tn_0 <|
 T_istore dX9_takenBy_25 (by decide) rfl rfl <|
 T_iconst dX9_takenBy_27 ic_0 <|
 T_istore dX9_takenBy_28 (by decide) rfl rfl <|
 h3))))
theorem rX9_takenBy_30 {X : Nat × (Nat → Int32)} {b1 : Int32} {b2 : Int32} {b3 : Int32} {b4 : Int32} {b5 : Int32} {M : Mem} {Q : Option PV → Mem → Prop} (h : TT X kX9_goes 0 [some (pR (9, 0, 0)), some (pI b3)] [] M (rI fun v6 M5 => (v6 = 0 → TT X kX9_walker 0 [some (pR (9, 0, 0)), some (pI b3), some (pI 1)] [] M5 (rI fun v8 M7 => TT X kX9_walker 0 [some (pR (9, 0, 0)), some (pI b3), some (pI 3)] [] M7 (rI fun v10 M9 => TT X kX9_takenBy 4 [some (pR (9, 0, 0)), some (pI b1), some (pI (b2 + ((b5 * (1 + v8)) * v10))), some (pI (b3 + 1)), none, none] [] M9 Q))) ∧ (¬ v6 = 0 → ((M5 9 0 6 0) ≤ b4 → TT X kX9_walker 0 [some (pR (9, 0, 0)), some (pI b3), some (pI 1)] [] M5 (rI fun v14 M13 => TT X kX9_walker 0 [some (pR (9, 0, 0)), some (pI b3), some (pI 3)] [] M13 (rI fun v16 M15 => TT X kX9_takenBy 4 [some (pR (9, 0, 0)), some (pI b1), some (pI (b2 + ((b5 * (1 + v14)) * v16))), some (pI (b3 + 1)), none, none] [] M15 Q))) ∧ (¬ (M5 9 0 6 0) ≤ b4 → vp_in b4 18 ∧ ((¬ ((b1 >>> ((M5 9 0 21 (Int32.toNatClampNeg b4)) &&& 31)) &&& 1) = 1 → vp_in (b4 + 1) 19 ∧ (TT X kX9_takenBy 30 [some (pR (9, 0, 0)), some (pI b1), some (pI b2), some (pI b3), some (pI (M5 9 0 25 (Int32.toNatClampNeg (b4 + 1)))), some (pI (b5 + 0))] [] M5 Q)) ∧ (((b1 >>> ((M5 9 0 21 (Int32.toNatClampNeg b4)) &&& 31)) &&& 1) = 1 → vp_in b4 18 ∧ (vp_in (b4 + 1) 19 ∧ (TT X kX9_takenBy 30 [some (pR (9, 0, 0)), some (pI b1), some (pI b2), some (pI b3), some (pI (M5 9 0 25 (Int32.toNatClampNeg (b4 + 1)))), some (pI (b5 + (M5 9 0 22 (Int32.toNatClampNeg b4))))] [] M5 Q)))))))) : TT X kX9_takenBy 30 [some (pR (9, 0, 0)), some (pI b1), some (pI b2), some (pI b3), some (pI b4), some (pI b5)] [] M Q :=
 T_aload_n dX9_takenBy_30 rfl <|
 T_iload_n dX9_takenBy_31 rfl <|
 T_callVi (k' := kX9_goes) (vs := [pI b3]) (st := []) dX9_takenBy_32 wm_X9_221 okX9_goes rfl c_9_0_0 rfl rfl rfl (Nat.le_of_ble_eq_true rfl) rfl (Nat.le_of_ble_eq_true rfl) (TT.mono h (rI_mono (fun v6 M5 h22 =>
 T_if_eq (tgt := 94) dX9_takenBy_35 (by decide) (fun z21 =>
 T_iload_n dX9_takenBy_94 rfl <|
 T_iload dX9_takenBy_95 rfl <|
 T_iconst dX9_takenBy_97 ic_1 <|
 T_aload_n dX9_takenBy_98 rfl <|
 T_iload_n dX9_takenBy_99 rfl <|
 T_iconst dX9_takenBy_100 ic_1 <|
 T_callVi (k' := kX9_walker) (vs := [pI b3, pI 1]) (st := [pI 1, pI b5, pI b2]) dX9_takenBy_101 wm_X9_199 okX9_walker rfl c_9_0_0 rfl rfl rfl (Nat.le_of_ble_eq_true rfl) rfl (Nat.le_of_ble_eq_true rfl) (TT.mono (h22.1 z21) (rI_mono (fun v8 M7 h12 =>
 T_iadd dX9_takenBy_104 <|
 T_imul dX9_takenBy_105 <|
 T_aload_n dX9_takenBy_106 rfl <|
 T_iload_n dX9_takenBy_107 rfl <|
 T_iconst dX9_takenBy_108 ic_3 <|
 T_callVi (k' := kX9_walker) (vs := [pI b3, pI 3]) (st := [pI (b5 * (1 + v8)), pI b2]) dX9_takenBy_109 wm_X9_199 okX9_walker rfl c_9_0_0 rfl rfl rfl (Nat.le_of_ble_eq_true rfl) rfl (Nat.le_of_ble_eq_true rfl) (TT.mono h12 (rI_mono (fun v10 M9 h11 =>
 T_imul dX9_takenBy_112 <|
 T_iadd dX9_takenBy_113 <|
 T_istore_n dX9_takenBy_114 (by decide) rfl rfl <|
 T_iinc dX9_takenBy_115 rfl (ii_1 _) (by decide) rfl rfl <|
 T_goto (tgt := 4) dX9_takenBy_118 (by decide) <|
 T_mask [true, true, true, true, false, false] h11))))))) (fun z21 =>
 T_iload dX9_takenBy_38 rfl <|
 T_aload_n dX9_takenBy_40 rfl <|
 T_getR (C := RX9) (T := TX9) (N := 31) (f := 5) dX9_takenBy_41 c_9_0_0 rfl (by decide) wf_X9_19 rfl <|
 T_iconst dX9_takenBy_44 ic_0 <|
 T_ialdN (n := 80) dX9_takenBy_45 c_9_0_6 (by decide) (by decide) (by decide) rfl vi_0_80 tn_0 <|
 T_icmp_ge (tgt := 94) dX9_takenBy_46 (by decide) (fun z20 =>
 T_iload_n dX9_takenBy_94 rfl <|
 T_iload dX9_takenBy_95 rfl <|
 T_iconst dX9_takenBy_97 ic_1 <|
 T_aload_n dX9_takenBy_98 rfl <|
 T_iload_n dX9_takenBy_99 rfl <|
 T_iconst dX9_takenBy_100 ic_1 <|
 T_callVi (k' := kX9_walker) (vs := [pI b3, pI 1]) (st := [pI 1, pI b5, pI b2]) dX9_takenBy_101 wm_X9_199 okX9_walker rfl c_9_0_0 rfl rfl rfl (Nat.le_of_ble_eq_true rfl) rfl (Nat.le_of_ble_eq_true rfl) (TT.mono ((h22.2 z21).1 z20) (rI_mono (fun v14 M13 h18 =>
 T_iadd dX9_takenBy_104 <|
 T_imul dX9_takenBy_105 <|
 T_aload_n dX9_takenBy_106 rfl <|
 T_iload_n dX9_takenBy_107 rfl <|
 T_iconst dX9_takenBy_108 ic_3 <|
 T_callVi (k' := kX9_walker) (vs := [pI b3, pI 3]) (st := [pI (b5 * (1 + v14)), pI b2]) dX9_takenBy_109 wm_X9_199 okX9_walker rfl c_9_0_0 rfl rfl rfl (Nat.le_of_ble_eq_true rfl) rfl (Nat.le_of_ble_eq_true rfl) (TT.mono h18 (rI_mono (fun v16 M15 h17 =>
 T_imul dX9_takenBy_112 <|
 T_iadd dX9_takenBy_113 <|
 T_istore_n dX9_takenBy_114 (by decide) rfl rfl <|
 T_iinc dX9_takenBy_115 rfl (ii_1 _) (by decide) rfl rfl <|
 T_goto (tgt := 4) dX9_takenBy_118 (by decide) <|
 T_mask [true, true, true, true, false, false] h17))))))) (fun z20 =>
 T_iload dX9_takenBy_49 rfl <|
 T_iload_n dX9_takenBy_51 rfl <|
 T_aload_n dX9_takenBy_52 rfl <|
 T_getR (C := RX9) (T := TX9) (N := 31) (f := 20) dX9_takenBy_53 c_9_0_0 rfl (by decide) wf_X9_31 rfl <|
 T_iload dX9_takenBy_56 rfl <|
 T_iald (n := 18) dX9_takenBy_58 c_9_0_21 (by decide) (by decide) (by decide) rfl ((h22.2 z21).2 z20).1 <|
 T_ishr dX9_takenBy_59 <|
 T_iconst dX9_takenBy_60 ic_1 <|
 T_iand dX9_takenBy_61 <|
 T_iconst dX9_takenBy_62 ic_1 <|
 T_icmp_ne (tgt := 76) dX9_takenBy_63 (by decide) (fun z19 =>
 T_iconst dX9_takenBy_76 ic_0 <|
 T_iadd dX9_takenBy_77 <|
 T_istore dX9_takenBy_78 (by decide) rfl rfl <|
 T_aload_n dX9_takenBy_80 rfl <|
 T_getR (C := RX9) (T := TX9) (N := 31) (f := 24) dX9_takenBy_81 c_9_0_0 rfl (by decide) wf_X9_43 rfl <|
 T_iload dX9_takenBy_84 rfl <|
 T_iconst dX9_takenBy_86 ic_1 <|
 T_iadd dX9_takenBy_87 <|
 T_iald (n := 19) dX9_takenBy_88 c_9_0_25 (by decide) (by decide) (by decide) rfl (((h22.2 z21).2 z20).2.1 z19).1 <|
 T_istore dX9_takenBy_89 (by decide) rfl rfl <|
 T_goto (tgt := 30) dX9_takenBy_91 (by decide) <|
 (((h22.2 z21).2 z20).2.1 z19).2) (fun z19 =>
 T_aload_n dX9_takenBy_66 rfl <|
 T_getR (C := RX9) (T := TX9) (N := 31) (f := 21) dX9_takenBy_67 c_9_0_0 rfl (by decide) wf_X9_34 rfl <|
 T_iload dX9_takenBy_70 rfl <|
 T_iald (n := 18) dX9_takenBy_72 c_9_0_22 (by decide) (by decide) (by decide) rfl (((h22.2 z21).2 z20).2.2 z19).1 <|
 T_goto (tgt := 77) dX9_takenBy_73 (by decide) <|
 T_iadd dX9_takenBy_77 <|
 T_istore dX9_takenBy_78 (by decide) rfl rfl <|
 T_aload_n dX9_takenBy_80 rfl <|
 T_getR (C := RX9) (T := TX9) (N := 31) (f := 24) dX9_takenBy_81 c_9_0_0 rfl (by decide) wf_X9_43 rfl <|
 T_iload dX9_takenBy_84 rfl <|
 T_iconst dX9_takenBy_86 ic_1 <|
 T_iadd dX9_takenBy_87 <|
 T_iald (n := 19) dX9_takenBy_88 c_9_0_25 (by decide) (by decide) (by decide) rfl (((h22.2 z21).2 z20).2.2 z19).2.1 <|
 T_istore dX9_takenBy_89 (by decide) rfl rfl <|
 T_goto (tgt := 30) dX9_takenBy_91 (by decide) <|
 (((h22.2 z21).2 z20).2.2 z19).2.2))))))
theorem rX9_takes_0 {X : Nat × (Nat → Int32)} {a1 : Int32} {M : Mem} {Q : Option PV → Mem → Prop} (h : (¬ ((mset M 9 0 0 0 0) 9 0 0 7) = 0 → TT X kX9_isOwner 0 [some (pI a1)] [] (mset M 9 0 0 0 0) (rI fun v2 M1 => (¬ v2 = 0 → TT X kX9_layNow 0 [some (pR (9, 0, 0)), none] [] M1 (rV fun M3 => TT X kX9_takenBy 0 [some (pR (9, 0, 0)), some (pI (1 <<< (a1 &&& 31))), none, none, none, none] [] M3 (rI fun v6 M5 => Q (some (pI v6)) M5))) ∧ (v2 = 0 → Q (some (pI (-1000001))) M1))) ∧ (((mset M 9 0 0 0 0) 9 0 0 7) = 0 → Q (some (pI (-1000002))) (mset M 9 0 0 0 0))) : TT X kX9_takes 0 [some (pR (9, 0, 0)), some (pI a1)] [] M Q :=
 T_aload_n dX9_takes_0 rfl <|
 T_iconst dX9_takes_1 ic_0 <|
 T_putI (C := RX9) (T := TX9) (N := 31) (f := 0) dX9_takes_2 c_9_0_0 rfl (by decide) wf_X9_59 rfl rfl rfl <|
 T_aload_n dX9_takes_5 rfl <|
 T_getI (C := RX9) (T := TX9) (N := 31) (f := 7) dX9_takes_6 c_9_0_0 rfl (by decide) wf_X9_170 rfl <|
 T_if_ne (tgt := 15) dX9_takes_9 (by decide) (fun z11 =>
 T_iload_n dX9_takes_15 rfl <|
 T_callSi (k' := kX9_isOwner) (vs := [pI a1]) (st := []) dX9_takes_16 wm_X9_191 okX9_isOwner rfl rfl rfl (Nat.le_of_ble_eq_true rfl) rfl (Nat.le_of_ble_eq_true rfl) (TT.mono (h.1 z11) (rI_mono (fun v2 M1 h10 =>
 T_if_ne (tgt := 25) dX9_takes_19 (by decide) (fun z9 =>
 T_aload_n dX9_takes_25 rfl <|
 T_callVv (k' := kX9_layNow) (vs := []) (st := []) dX9_takes_26 wm_X9_215 okX9_layNow rfl c_9_0_0 rfl rfl rfl (Nat.le_of_ble_eq_true rfl) rfl (Nat.le_of_ble_eq_true rfl) (TT.mono (h10.1 z9) (rV_mono (fun M3 h8 =>
 T_aload_n dX9_takes_29 rfl <|
 T_iconst dX9_takes_30 ic_1 <|
 T_iload_n dX9_takes_31 rfl <|
 T_ishl dX9_takes_32 <|
 T_callVi (k' := kX9_takenBy) (vs := [pI (1 <<< (a1 &&& 31))]) (st := []) dX9_takes_33 wm_X9_224 okX9_takenBy rfl c_9_0_0 rfl rfl rfl (Nat.le_of_ble_eq_true rfl) rfl (Nat.le_of_ble_eq_true rfl) (TT.mono h8 (rI_mono (fun v6 M5 h7 =>
 T_ireturn (ty := .int) dX9_takes_36 rfl rfl h7))))))) (fun z9 =>
 T_ldc dX9_takes_22 wc_X9_79 <|
 T_ireturn (ty := .int) dX9_takes_24 rfl rfl (h10.2 z9)))))) (fun z11 =>
 T_ldc dX9_takes_12 wc_X9_194 <|
 T_ireturn (ty := .int) dX9_takes_14 rfl rfl (h.2 z11))
theorem rX9_haveSteps_0 {X : Nat × (Nat → Int32)} {a1 : Int32} {M : Mem} {Q : Option PV → Mem → Prop} (h : TT X kX9_haveSteps 4 [some (pR (9, 0, 0)), some (pI a1), some (pI 0), some (pI 0)] [] M Q) : TT X kX9_haveSteps 0 [some (pR (9, 0, 0)), some (pI a1), none, none] [] M Q :=
 T_iconst dX9_haveSteps_0 ic_0 <|
 T_istore_n dX9_haveSteps_1 (by decide) rfl rfl <|
 T_iconst dX9_haveSteps_2 ic_0 <|
 T_istore_n dX9_haveSteps_3 (by decide) rfl rfl <|
 h
theorem rX9_haveSteps_4 {X : Nat × (Nat → Int32)} {b1 : Int32} {b2 : Int32} {b3 : Int32} {M : Mem} {Q : Option PV → Mem → Prop} (h : ((M 9 0 6 0) ≤ b3 → (b2 = 0 ∨ b2 = 1) ∧ Q (some (pI b2)) M) ∧ (¬ (M 9 0 6 0) ≤ b3 → (¬ b2 = 0 → TT X kX9_haveSteps 4 [some (pR (9, 0, 0)), some (pI b1), some (pI 1), some (pI (b3 + 1))] [] M Q) ∧ (b2 = 0 → vp_in b3 18 ∧ ((¬ ((b1 >>> ((M 9 0 21 (Int32.toNatClampNeg b3)) &&& 31)) &&& 1) = 1 → TT X kX9_haveSteps 4 [some (pR (9, 0, 0)), some (pI b1), some (pI 0), some (pI (b3 + 1))] [] M Q) ∧ (((b1 >>> ((M 9 0 21 (Int32.toNatClampNeg b3)) &&& 31)) &&& 1) = 1 → TT X kX9_haveSteps 4 [some (pR (9, 0, 0)), some (pI b1), some (pI 1), some (pI (b3 + 1))] [] M Q))))) : TT X kX9_haveSteps 4 [some (pR (9, 0, 0)), some (pI b1), some (pI b2), some (pI b3)] [] M Q :=
 T_iload_n dX9_haveSteps_4 rfl <|
 T_aload_n dX9_haveSteps_5 rfl <|
 T_getR (C := RX9) (T := TX9) (N := 31) (f := 5) dX9_haveSteps_6 c_9_0_0 rfl (by decide) wf_X9_19 rfl <|
 T_iconst dX9_haveSteps_9 ic_0 <|
 T_ialdN (n := 80) dX9_haveSteps_10 c_9_0_6 (by decide) (by decide) (by decide) rfl vi_0_80 tn_0 <|
 T_icmp_ge (tgt := 44) dX9_haveSteps_11 (by decide) (fun z3 =>
 T_iload_n dX9_haveSteps_44 rfl <|
 T_ireturn (ty := .boolean) dX9_haveSteps_45 rfl (nz_b (h.1 z3).1) (h.1 z3).2) (fun z3 =>
 T_iload_n dX9_haveSteps_14 rfl <|
 T_if_ne (tgt := 32) dX9_haveSteps_15 (by decide) (fun z2 =>
 T_iconst dX9_haveSteps_32 ic_1 <|
 T_goto (tgt := 37) dX9_haveSteps_33 (by decide) <|
 T_istore_n dX9_haveSteps_37 (by decide) rfl rfl <|
 T_iinc dX9_haveSteps_38 rfl (ii_1 _) (by decide) rfl rfl <|
 T_goto (tgt := 4) dX9_haveSteps_41 (by decide) <|
 ((h.2 z3).1 z2)) (fun z2 =>
 T_iload_n dX9_haveSteps_18 rfl <|
 T_aload_n dX9_haveSteps_19 rfl <|
 T_getR (C := RX9) (T := TX9) (N := 31) (f := 20) dX9_haveSteps_20 c_9_0_0 rfl (by decide) wf_X9_31 rfl <|
 T_iload_n dX9_haveSteps_23 rfl <|
 T_iald (n := 18) dX9_haveSteps_24 c_9_0_21 (by decide) (by decide) (by decide) rfl ((h.2 z3).2 z2).1 <|
 T_ishr dX9_haveSteps_25 <|
 T_iconst dX9_haveSteps_26 ic_1 <|
 T_iand dX9_haveSteps_27 <|
 T_iconst dX9_haveSteps_28 ic_1 <|
 T_icmp_ne (tgt := 36) dX9_haveSteps_29 (by decide) (fun z1 =>
 T_iconst dX9_haveSteps_36 ic_0 <|
 T_istore_n dX9_haveSteps_37 (by decide) rfl rfl <|
 T_iinc dX9_haveSteps_38 rfl (ii_1 _) (by decide) rfl rfl <|
 T_goto (tgt := 4) dX9_haveSteps_41 (by decide) <|
 (((h.2 z3).2 z2).2.1 z1)) (fun z1 =>
 T_iconst dX9_haveSteps_32 ic_1 <|
 T_goto (tgt := 37) dX9_haveSteps_33 (by decide) <|
 T_istore_n dX9_haveSteps_37 (by decide) rfl rfl <|
 T_iinc dX9_haveSteps_38 rfl (ii_1 _) (by decide) rfl rfl <|
 T_goto (tgt := 4) dX9_haveSteps_41 (by decide) <|
 (((h.2 z3).2 z2).2.2 z1))))
theorem rX9_setAsks_0 {X : Nat × (Nat → Int32)} {a1 : Int32} {a2 : Int32} {M : Mem} {Q : Option PV → Mem → Prop} (h : TT X kX9_setAsks 2 [some (pR (9, 0, 0)), some (pI a1), some (pI a2), some (pI 0)] [] M Q) : TT X kX9_setAsks 0 [some (pR (9, 0, 0)), some (pI a1), some (pI a2), none] [] M Q :=
 T_iconst dX9_setAsks_0 ic_0 <|
 T_istore_n dX9_setAsks_1 (by decide) rfl rfl <|
 h
theorem rX9_setAsks_2 {X : Nat × (Nat → Int32)} {b1 : Int32} {b2 : Int32} {b3 : Int32} {M : Mem} {Q : Option PV → Mem → Prop} (h : ((M 9 0 6 0) ≤ b3 → Q none M) ∧ (¬ (M 9 0 6 0) ≤ b3 → vp_in b3 18 ∧ ((¬ ((b1 >>> ((M 9 0 21 (Int32.toNatClampNeg b3)) &&& 31)) &&& 1) = 1 → vp_in b3 18 ∧ (vp_in b3 18 ∧ (TT X kX9_setAsks 2 [some (pR (9, 0, 0)), some (pI b1), some (pI b2), some (pI (b3 + 1))] [] (mset M 9 0 22 (Int32.toNatClampNeg b3) (M 9 0 22 (Int32.toNatClampNeg b3))) Q))) ∧ (((b1 >>> ((M 9 0 21 (Int32.toNatClampNeg b3)) &&& 31)) &&& 1) = 1 → vp_in b3 18 ∧ (TT X kX9_setAsks 2 [some (pR (9, 0, 0)), some (pI b1), some (pI b2), some (pI (b3 + 1))] [] (mset M 9 0 22 (Int32.toNatClampNeg b3) b2) Q))))) : TT X kX9_setAsks 2 [some (pR (9, 0, 0)), some (pI b1), some (pI b2), some (pI b3)] [] M Q :=
 T_iload_n dX9_setAsks_2 rfl <|
 T_aload_n dX9_setAsks_3 rfl <|
 T_getR (C := RX9) (T := TX9) (N := 31) (f := 5) dX9_setAsks_4 c_9_0_0 rfl (by decide) wf_X9_19 rfl <|
 T_iconst dX9_setAsks_7 ic_0 <|
 T_ialdN (n := 80) dX9_setAsks_8 c_9_0_6 (by decide) (by decide) (by decide) rfl vi_0_80 tn_0 <|
 T_icmp_ge (tgt := 48) dX9_setAsks_9 (by decide) (fun z2 =>
 T_return dX9_setAsks_48 rfl (h.1 z2)) (fun z2 =>
 T_aload_n dX9_setAsks_12 rfl <|
 T_getR (C := RX9) (T := TX9) (N := 31) (f := 21) dX9_setAsks_13 c_9_0_0 rfl (by decide) wf_X9_34 rfl <|
 T_iload_n dX9_setAsks_16 rfl <|
 T_iload_n dX9_setAsks_17 rfl <|
 T_aload_n dX9_setAsks_18 rfl <|
 T_getR (C := RX9) (T := TX9) (N := 31) (f := 20) dX9_setAsks_19 c_9_0_0 rfl (by decide) wf_X9_31 rfl <|
 T_iload_n dX9_setAsks_22 rfl <|
 T_iald (n := 18) dX9_setAsks_23 c_9_0_21 (by decide) (by decide) (by decide) rfl (h.2 z2).1 <|
 T_ishr dX9_setAsks_24 <|
 T_iconst dX9_setAsks_25 ic_1 <|
 T_iand dX9_setAsks_26 <|
 T_iconst dX9_setAsks_27 ic_1 <|
 T_icmp_ne (tgt := 35) dX9_setAsks_28 (by decide) (fun z1 =>
 T_aload_n dX9_setAsks_35 rfl <|
 T_getR (C := RX9) (T := TX9) (N := 31) (f := 21) dX9_setAsks_36 c_9_0_0 rfl (by decide) wf_X9_34 rfl <|
 T_iload_n dX9_setAsks_39 rfl <|
 T_iald (n := 18) dX9_setAsks_40 c_9_0_22 (by decide) (by decide) (by decide) rfl ((h.2 z2).2.1 z1).1 <|
 T_iast (n := 18) dX9_setAsks_41 c_9_0_22 (by decide) (by decide) (by decide) rfl ((h.2 z2).2.1 z1).2.1 <|
 T_iinc dX9_setAsks_42 rfl (ii_1 _) (by decide) rfl rfl <|
 T_goto (tgt := 2) dX9_setAsks_45 (by decide) <|
 ((h.2 z2).2.1 z1).2.2) (fun z1 =>
 T_iload_n dX9_setAsks_31 rfl <|
 T_goto (tgt := 41) dX9_setAsks_32 (by decide) <|
 T_iast (n := 18) dX9_setAsks_41 c_9_0_22 (by decide) (by decide) (by decide) rfl ((h.2 z2).2.2 z1).1 <|
 T_iinc dX9_setAsks_42 rfl (ii_1 _) (by decide) rfl rfl <|
 T_goto (tgt := 2) dX9_setAsks_45 (by decide) <|
 ((h.2 z2).2.2 z1).2))
theorem rX9_bestOf_0 {X : Nat × (Nat → Int32)} {a1 : Int32} {M : Mem} {Q : Option PV → Mem → Prop} (h : TT X kX9_bestOf 9 [some (pR (9, 0, 0)), some (pI a1), some (pI 0), some (pI 0), none] [] (mset M 9 0 0 26 (-1)) Q) : TT X kX9_bestOf 0 [some (pR (9, 0, 0)), some (pI a1), none, none, none] [] M Q :=
 T_iconst dX9_bestOf_0 ic_0 <|
 T_istore_n dX9_bestOf_1 (by decide) rfl rfl <|
 T_aload_n dX9_bestOf_2 rfl <|
 T_iconst dX9_bestOf_3 ic_m1 <|
 T_putI (C := RX9) (T := TX9) (N := 31) (f := 26) dX9_bestOf_4 c_9_0_0 rfl (by decide) wf_X9_227 rfl rfl rfl <|
 T_iconst dX9_bestOf_7 ic_0 <|
 T_istore_n dX9_bestOf_8 (by decide) rfl rfl <|
 h
theorem rX9_bestOf_9 {X : Nat × (Nat → Int32)} {b1 : Int32} {b2 : Int32} {b3 : Int32} {M : Mem} {Q : Option PV → Mem → Prop} (h : (18 ≤ b3 → TT X kX9_bestOf 35 [some (pR (9, 0, 0)), some (pI b1), some (pI b2), some (pI 0), none] [] M Q) ∧ (¬ 18 ≤ b3 → vp_in b3 18 ∧ (vp_in b3 18 ∧ (TT X kX9_bestOf 9 [some (pR (9, 0, 0)), some (pI b1), some (pI b2), some (pI (b3 + 1)), none] [] (mset M 9 0 26 (Int32.toNatClampNeg b3) (M 9 0 22 (Int32.toNatClampNeg b3))) Q)))) : TT X kX9_bestOf 9 [some (pR (9, 0, 0)), some (pI b1), some (pI b2), some (pI b3), none] [] M Q :=
 T_iload_n dX9_bestOf_9 rfl <|
 T_bipush dX9_bestOf_10 bp_18 <|
 T_icmp_ge (tgt := 33) dX9_bestOf_12 (by decide) (fun z1 =>
 T_iconst dX9_bestOf_33 ic_0 <|
 T_istore_n dX9_bestOf_34 (by decide) rfl rfl <|
 (h.1 z1)) (fun z1 =>
 T_aload_n dX9_bestOf_15 rfl <|
 T_getR (C := RX9) (T := TX9) (N := 31) (f := 25) dX9_bestOf_16 c_9_0_0 rfl (by decide) wf_X9_46 rfl <|
 T_iload_n dX9_bestOf_19 rfl <|
 T_aload_n dX9_bestOf_20 rfl <|
 T_getR (C := RX9) (T := TX9) (N := 31) (f := 21) dX9_bestOf_21 c_9_0_0 rfl (by decide) wf_X9_34 rfl <|
 T_iload_n dX9_bestOf_24 rfl <|
 T_iald (n := 18) dX9_bestOf_25 c_9_0_22 (by decide) (by decide) (by decide) rfl (h.2 z1).1 <|
 T_iast (n := 18) dX9_bestOf_26 c_9_0_26 (by decide) (by decide) (by decide) rfl (h.2 z1).2.1 <|
 T_iinc dX9_bestOf_27 rfl (ii_1 _) (by decide) rfl rfl <|
 T_goto (tgt := 9) dX9_bestOf_30 (by decide) <|
 (h.2 z1).2.2)
theorem rX9_bestOf_35 {X : Nat × (Nat → Int32)} {b1 : Int32} {b2 : Int32} {b3 : Int32} {M : Mem} {Q : Option PV → Mem → Prop} (h : (20 < b3 → TT X kX9_bestOf 99 [some (pR (9, 0, 0)), some (pI b1), some (pI b2), some (pI 0), none] [] M Q) ∧ (¬ 20 < b3 → TT X kX9_setAsks 0 [some (pR (9, 0, 0)), some (pI b1), some (pI b3), none] [] M (rV fun M2 => TT X kX9_takenBy 0 [some (pR (9, 0, 0)), some (pI b1), none, none, none, none] [] M2 (rI fun v5 M4 => (v5 ≤ (M4 9 0 0 26) → (v5 ≤ (M4 9 0 0 26) → TT X kX9_bestOf 35 [some (pR (9, 0, 0)), some (pI b1), some (pI b2), some (pI (b3 + 1)), none] [] (mset M4 9 0 0 26 (M4 9 0 0 26)) Q) ∧ (¬ v5 ≤ (M4 9 0 0 26) → TT X kX9_bestOf 35 [some (pR (9, 0, 0)), some (pI b1), some (pI b2), some (pI (b3 + 1)), none] [] (mset M4 9 0 0 26 v5) Q)) ∧ (¬ v5 ≤ (M4 9 0 0 26) → (v5 ≤ (M4 9 0 0 26) → TT X kX9_bestOf 35 [some (pR (9, 0, 0)), some (pI b1), some (pI b3), some (pI (b3 + 1)), none] [] (mset M4 9 0 0 26 (M4 9 0 0 26)) Q) ∧ (¬ v5 ≤ (M4 9 0 0 26) → TT X kX9_bestOf 35 [some (pR (9, 0, 0)), some (pI b1), some (pI b3), some (pI (b3 + 1)), none] [] (mset M4 9 0 0 26 v5) Q)))))) : TT X kX9_bestOf 35 [some (pR (9, 0, 0)), some (pI b1), some (pI b2), some (pI b3), none] [] M Q :=
 T_iload_n dX9_bestOf_35 rfl <|
 T_bipush dX9_bestOf_36 bp_20 <|
 T_icmp_gt (tgt := 97) dX9_bestOf_38 (by decide) (fun z11 =>
 T_iconst dX9_bestOf_97 ic_0 <|
 T_istore_n dX9_bestOf_98 (by decide) rfl rfl <|
 (h.1 z11)) (fun z11 =>
 T_aload_n dX9_bestOf_41 rfl <|
 T_iload_n dX9_bestOf_42 rfl <|
 T_iload_n dX9_bestOf_43 rfl <|
 T_callVv (k' := kX9_setAsks) (vs := [pI b1, pI b3]) (st := []) dX9_bestOf_44 wm_X9_230 okX9_setAsks rfl c_9_0_0 rfl rfl rfl (Nat.le_of_ble_eq_true rfl) rfl (Nat.le_of_ble_eq_true rfl) (TT.mono (h.2 z11) (rV_mono (fun M2 h10 =>
 T_aload_n dX9_bestOf_47 rfl <|
 T_iload_n dX9_bestOf_48 rfl <|
 T_callVi (k' := kX9_takenBy) (vs := [pI b1]) (st := []) dX9_bestOf_49 wm_X9_224 okX9_takenBy rfl c_9_0_0 rfl rfl rfl (Nat.le_of_ble_eq_true rfl) rfl (Nat.le_of_ble_eq_true rfl) (TT.mono h10 (rI_mono (fun v5 M4 h9 =>
 T_istore dX9_bestOf_52 (by decide) rfl rfl <|
 T_iload dX9_bestOf_54 rfl <|
 T_aload_n dX9_bestOf_56 rfl <|
 T_getI (C := RX9) (T := TX9) (N := 31) (f := 26) dX9_bestOf_57 c_9_0_0 rfl (by decide) wf_X9_227 rfl <|
 T_icmp_le (tgt := 67) dX9_bestOf_60 (by decide) (fun z8 =>
 T_iload_n dX9_bestOf_67 rfl <|
 T_istore_n dX9_bestOf_68 (by decide) rfl rfl <|
 T_aload_n dX9_bestOf_69 rfl <|
 T_iload dX9_bestOf_70 rfl <|
 T_aload_n dX9_bestOf_72 rfl <|
 T_getI (C := RX9) (T := TX9) (N := 31) (f := 26) dX9_bestOf_73 c_9_0_0 rfl (by decide) wf_X9_227 rfl <|
 T_icmp_le (tgt := 84) dX9_bestOf_76 (by decide) (fun z6 =>
 T_aload_n dX9_bestOf_84 rfl <|
 T_getI (C := RX9) (T := TX9) (N := 31) (f := 26) dX9_bestOf_85 c_9_0_0 rfl (by decide) wf_X9_227 rfl <|
 T_putI (C := RX9) (T := TX9) (N := 31) (f := 26) dX9_bestOf_88 c_9_0_0 rfl (by decide) wf_X9_227 rfl rfl rfl <|
 T_iinc dX9_bestOf_91 rfl (ii_1 _) (by decide) rfl rfl <|
 T_goto (tgt := 35) dX9_bestOf_94 (by decide) <|
 T_mask [true, true, true, true, false] ((h9.1 z8).1 z6)) (fun z6 =>
 T_iload dX9_bestOf_79 rfl <|
 T_goto (tgt := 88) dX9_bestOf_81 (by decide) <|
 T_putI (C := RX9) (T := TX9) (N := 31) (f := 26) dX9_bestOf_88 c_9_0_0 rfl (by decide) wf_X9_227 rfl rfl rfl <|
 T_iinc dX9_bestOf_91 rfl (ii_1 _) (by decide) rfl rfl <|
 T_goto (tgt := 35) dX9_bestOf_94 (by decide) <|
 T_mask [true, true, true, true, false] ((h9.1 z8).2 z6))) (fun z8 =>
 T_iload_n dX9_bestOf_63 rfl <|
 T_goto (tgt := 68) dX9_bestOf_64 (by decide) <|
 T_istore_n dX9_bestOf_68 (by decide) rfl rfl <|
 T_aload_n dX9_bestOf_69 rfl <|
 T_iload dX9_bestOf_70 rfl <|
 T_aload_n dX9_bestOf_72 rfl <|
 T_getI (C := RX9) (T := TX9) (N := 31) (f := 26) dX9_bestOf_73 c_9_0_0 rfl (by decide) wf_X9_227 rfl <|
 T_icmp_le (tgt := 84) dX9_bestOf_76 (by decide) (fun z7 =>
 T_aload_n dX9_bestOf_84 rfl <|
 T_getI (C := RX9) (T := TX9) (N := 31) (f := 26) dX9_bestOf_85 c_9_0_0 rfl (by decide) wf_X9_227 rfl <|
 T_putI (C := RX9) (T := TX9) (N := 31) (f := 26) dX9_bestOf_88 c_9_0_0 rfl (by decide) wf_X9_227 rfl rfl rfl <|
 T_iinc dX9_bestOf_91 rfl (ii_1 _) (by decide) rfl rfl <|
 T_goto (tgt := 35) dX9_bestOf_94 (by decide) <|
 T_mask [true, true, true, true, false] ((h9.2 z8).1 z7)) (fun z7 =>
 T_iload dX9_bestOf_79 rfl <|
 T_goto (tgt := 88) dX9_bestOf_81 (by decide) <|
 T_putI (C := RX9) (T := TX9) (N := 31) (f := 26) dX9_bestOf_88 c_9_0_0 rfl (by decide) wf_X9_227 rfl rfl rfl <|
 T_iinc dX9_bestOf_91 rfl (ii_1 _) (by decide) rfl rfl <|
 T_goto (tgt := 35) dX9_bestOf_94 (by decide) <|
 T_mask [true, true, true, true, false] ((h9.2 z8).2 z7))))))))))
theorem rX9_bestOf_99 {X : Nat × (Nat → Int32)} {b1 : Int32} {b2 : Int32} {b3 : Int32} {M : Mem} {Q : Option PV → Mem → Prop} (h : (18 ≤ b3 → Q (some (pI b2)) M) ∧ (¬ 18 ≤ b3 → vp_in b3 18 ∧ (vp_in b3 18 ∧ (TT X kX9_bestOf 99 [some (pR (9, 0, 0)), some (pI b1), some (pI b2), some (pI (b3 + 1)), none] [] (mset M 9 0 22 (Int32.toNatClampNeg b3) (M 9 0 26 (Int32.toNatClampNeg b3))) Q)))) : TT X kX9_bestOf 99 [some (pR (9, 0, 0)), some (pI b1), some (pI b2), some (pI b3), none] [] M Q :=
 T_iload_n dX9_bestOf_99 rfl <|
 T_bipush dX9_bestOf_100 bp_18 <|
 T_icmp_ge (tgt := 123) dX9_bestOf_102 (by decide) (fun z12 =>
 T_iload_n dX9_bestOf_123 rfl <|
 T_ireturn (ty := .int) dX9_bestOf_124 rfl rfl (h.1 z12)) (fun z12 =>
 T_aload_n dX9_bestOf_105 rfl <|
 T_getR (C := RX9) (T := TX9) (N := 31) (f := 21) dX9_bestOf_106 c_9_0_0 rfl (by decide) wf_X9_34 rfl <|
 T_iload_n dX9_bestOf_109 rfl <|
 T_aload_n dX9_bestOf_110 rfl <|
 T_getR (C := RX9) (T := TX9) (N := 31) (f := 25) dX9_bestOf_111 c_9_0_0 rfl (by decide) wf_X9_46 rfl <|
 T_iload_n dX9_bestOf_114 rfl <|
 T_iald (n := 18) dX9_bestOf_115 c_9_0_26 (by decide) (by decide) (by decide) rfl (h.2 z12).1 <|
 T_iast (n := 18) dX9_bestOf_116 c_9_0_22 (by decide) (by decide) (by decide) rfl (h.2 z12).2.1 <|
 T_iinc dX9_bestOf_117 rfl (ii_1 _) (by decide) rfl rfl <|
 T_goto (tgt := 99) dX9_bestOf_120 (by decide) <|
 (h.2 z12).2.2)
theorem rX9_best_0 {X : Nat × (Nat → Int32)} {a1 : Int32} {a2 : Int32} {M : Mem} {Q : Option PV → Mem → Prop} (h : (¬ ((mset M 9 0 0 0 0) 9 0 0 7) = 0 → TT X kX9_in 0 [some (pL (Int32.toInt64 a1)), none, some (pL 1), none, some (pL 31), none] [] (mset M 9 0 0 0 0) (rI fun v2 M1 => (v2 = 0 → Q (some (pI (-1000001))) M1) ∧ (¬ v2 = 0 → TT X kX9_in 0 [some (pL (Int32.toInt64 a2)), none, some (pL 0), none, some (pL 1), none] [] M1 (rI fun v4 M3 => (¬ v4 = 0 → TT X kX9_layNow 0 [some (pR (9, 0, 0)), none] [] M3 (rV fun M5 => TT X kX9_haveSteps 0 [some (pR (9, 0, 0)), some (pI a1), none, none] [] M5 (rI fun v8 M7 => (¬ v8 = 0 → TT X kX9_bestOf 0 [some (pR (9, 0, 0)), some (pI a1), none, none, none] [] M7 (rI fun v10 M9 => TT X kX9_takenBy 0 [some (pR (9, 0, 0)), some (pI a1), none, none, none, none] [] M9 (rI fun v12 M11 => (¬ a2 = 0 → (0 ≤ ((M9 9 0 0 26) - v12) → Q (some (pI ((M9 9 0 0 26) - v12))) M11) ∧ (¬ 0 ≤ ((M9 9 0 0 26) - v12) → Q (some (pI 0)) M11)) ∧ (a2 = 0 → Q (some (pI v10)) M11)))) ∧ (v8 = 0 → Q (some (pI (-1000000))) M7)))) ∧ (v4 = 0 → Q (some (pI (-1000001))) M3))))) ∧ (((mset M 9 0 0 0 0) 9 0 0 7) = 0 → Q (some (pI (-1000002))) (mset M 9 0 0 0 0))) : TT X kX9_best 0 [some (pR (9, 0, 0)), some (pI a1), some (pI a2), none, none] [] M Q :=
 T_aload_n dX9_best_0 rfl <|
 T_iconst dX9_best_1 ic_0 <|
 T_putI (C := RX9) (T := TX9) (N := 31) (f := 0) dX9_best_2 c_9_0_0 rfl (by decide) wf_X9_59 rfl rfl rfl <|
 T_aload_n dX9_best_5 rfl <|
 T_getI (C := RX9) (T := TX9) (N := 31) (f := 7) dX9_best_6 c_9_0_0 rfl (by decide) wf_X9_170 rfl <|
 T_if_ne (tgt := 15) dX9_best_9 (by decide) (fun z24 =>
 T_iload_n dX9_best_15 rfl <|
 T_i2l dX9_best_16 <|
 T_lconst dX9_best_17 lc_1 <|
 T_ldc2 dX9_best_18 wl_X9_233 <|
 T_callSi (k' := kX9_in) (vs := [pL (Int32.toInt64 a1), pL 1, pL 31]) (st := []) dX9_best_21 wm_X9_69 okX9_in rfl rfl rfl (Nat.le_of_ble_eq_true rfl) rfl (Nat.le_of_ble_eq_true rfl) (TT.mono (h.1 z24) (rI_mono (fun v2 M1 h23 =>
 T_if_eq (tgt := 37) dX9_best_24 (by decide) (fun z22 =>
 T_ldc dX9_best_37 wc_X9_79 <|
 T_ireturn (ty := .int) dX9_best_39 rfl rfl (h23.1 z22)) (fun z22 =>
 T_iload_n dX9_best_27 rfl <|
 T_i2l dX9_best_28 <|
 T_lconst dX9_best_29 lc_0 <|
 T_lconst dX9_best_30 lc_1 <|
 T_callSi (k' := kX9_in) (vs := [pL (Int32.toInt64 a2), pL 0, pL 1]) (st := []) dX9_best_31 wm_X9_69 okX9_in rfl rfl rfl (Nat.le_of_ble_eq_true rfl) rfl (Nat.le_of_ble_eq_true rfl) (TT.mono (h23.2 z22) (rI_mono (fun v4 M3 h21 =>
 T_if_ne (tgt := 40) dX9_best_34 (by decide) (fun z20 =>
 T_aload_n dX9_best_40 rfl <|
 T_callVv (k' := kX9_layNow) (vs := []) (st := []) dX9_best_41 wm_X9_215 okX9_layNow rfl c_9_0_0 rfl rfl rfl (Nat.le_of_ble_eq_true rfl) rfl (Nat.le_of_ble_eq_true rfl) (TT.mono (h21.1 z20) (rV_mono (fun M5 h19 =>
 T_aload_n dX9_best_44 rfl <|
 T_iload_n dX9_best_45 rfl <|
 T_callVi (k' := kX9_haveSteps) (vs := [pI a1]) (st := []) dX9_best_46 wm_X9_235 okX9_haveSteps rfl c_9_0_0 rfl rfl rfl (Nat.le_of_ble_eq_true rfl) rfl (Nat.le_of_ble_eq_true rfl) (TT.mono h19 (rI_mono (fun v8 M7 h18 =>
 T_if_ne (tgt := 55) dX9_best_49 (by decide) (fun z17 =>
 T_aload_n dX9_best_55 rfl <|
 T_iload_n dX9_best_56 rfl <|
 T_callVi (k' := kX9_bestOf) (vs := [pI a1]) (st := []) dX9_best_57 wm_X9_238 okX9_bestOf rfl c_9_0_0 rfl rfl rfl (Nat.le_of_ble_eq_true rfl) rfl (Nat.le_of_ble_eq_true rfl) (TT.mono (h18.1 z17) (rI_mono (fun v10 M9 h16 =>
 T_istore_n dX9_best_60 (by decide) rfl rfl <|
 T_aload_n dX9_best_61 rfl <|
 T_getI (C := RX9) (T := TX9) (N := 31) (f := 26) dX9_best_62 c_9_0_0 rfl (by decide) wf_X9_227 rfl <|
 T_aload_n dX9_best_65 rfl <|
 T_iload_n dX9_best_66 rfl <|
 T_callVi (k' := kX9_takenBy) (vs := [pI a1]) (st := [pI (M9 9 0 0 26)]) dX9_best_67 wm_X9_224 okX9_takenBy rfl c_9_0_0 rfl rfl rfl (Nat.le_of_ble_eq_true rfl) rfl (Nat.le_of_ble_eq_true rfl) (TT.mono h16 (rI_mono (fun v12 M11 h15 =>
 T_isub dX9_best_70 <|
 T_istore dX9_best_71 (by decide) rfl rfl <|
 T_iload_n dX9_best_73 rfl <|
 T_if_ne (tgt := 81) dX9_best_74 (by decide) (fun z14 =>
 T_iload dX9_best_81 rfl <|
 T_if_ge (tgt := 90) dX9_best_83 (by decide) (fun z13 =>
 T_iload dX9_best_90 rfl <|
 T_ireturn (ty := .int) dX9_best_92 rfl rfl ((h15.1 z14).1 z13)) (fun z13 =>
 T_iconst dX9_best_86 ic_0 <|
 T_goto (tgt := 92) dX9_best_87 (by decide) <|
 T_ireturn (ty := .int) dX9_best_92 rfl rfl ((h15.1 z14).2 z13))) (fun z14 =>
 T_iload_n dX9_best_77 rfl <|
 T_goto (tgt := 92) dX9_best_78 (by decide) <|
 T_ireturn (ty := .int) dX9_best_92 rfl rfl (h15.2 z14))))))))) (fun z17 =>
 T_ldc dX9_best_52 wc_X9_95 <|
 T_ireturn (ty := .int) dX9_best_54 rfl rfl (h18.2 z17))))))))) (fun z20 =>
 T_ldc dX9_best_37 wc_X9_79 <|
 T_ireturn (ty := .int) dX9_best_39 rfl rfl (h21.2 z20)))))))))) (fun z24 =>
 T_ldc dX9_best_12 wc_X9_194 <|
 T_ireturn (ty := .int) dX9_best_14 rfl rfl (h.2 z24))
theorem rX9_changes_0 {X : Nat × (Nat → Int32)} {a1 : Int32} {M : Mem} {Q : Option PV → Mem → Prop} (h : TT X kX9_haveSteps 0 [some (pR (9, 0, 0)), some (pI (1 <<< (a1 &&& 31))), none, none] [] M (rI fun v2 M1 => (¬ v2 = 0 → TT X kX9_bestOf 0 [some (pR (9, 0, 0)), some (pI (1 <<< (a1 &&& 31))), none, none, none] [] M1 (rI fun v4 M3 => TT X kX9_changes 25 [some (pR (9, 0, 0)), some (pI a1), some (pI v4), some (pI 0), some (pI 0)] [] M3 Q)) ∧ (v2 = 0 → Q (some (pI 0)) M1))) : TT X kX9_changes 0 [some (pR (9, 0, 0)), some (pI a1), none, none, none] [] M Q :=
 T_aload_n dX9_changes_0 rfl <|
 T_iconst dX9_changes_1 ic_1 <|
 T_iload_n dX9_changes_2 rfl <|
 T_ishl dX9_changes_3 <|
 T_callVi (k' := kX9_haveSteps) (vs := [pI (1 <<< (a1 &&& 31))]) (st := []) dX9_changes_4 wm_X9_235 okX9_haveSteps rfl c_9_0_0 rfl rfl rfl (Nat.le_of_ble_eq_true rfl) rfl (Nat.le_of_ble_eq_true rfl) (TT.mono h (rI_mono (fun v2 M1 h7 =>
 T_if_ne (tgt := 12) dX9_changes_7 (by decide) (fun z6 =>
 T_aload_n dX9_changes_12 rfl <|
 T_iconst dX9_changes_13 ic_1 <|
 T_iload_n dX9_changes_14 rfl <|
 T_ishl dX9_changes_15 <|
 T_callVi (k' := kX9_bestOf) (vs := [pI (1 <<< (a1 &&& 31))]) (st := []) dX9_changes_16 wm_X9_238 okX9_bestOf rfl c_9_0_0 rfl rfl rfl (Nat.le_of_ble_eq_true rfl) rfl (Nat.le_of_ble_eq_true rfl) (TT.mono (h7.1 z6) (rI_mono (fun v4 M3 h5 =>
 T_istore_n dX9_changes_19 (by decide) rfl rfl <|
 T_iconst dX9_changes_20 ic_0 <|
 T_istore_n dX9_changes_21 (by decide) rfl rfl <|
 T_iconst dX9_changes_22 ic_0 <|
 T_istore dX9_changes_23 (by decide) rfl rfl <|
 h5)))) (fun z6 =>
 T_iconst dX9_changes_10 ic_0 <|
 T_ireturn (ty := .boolean) dX9_changes_11 rfl rfl (h7.2 z6)))))
theorem rX9_changes_25 {X : Nat × (Nat → Int32)} {b1 : Int32} {b2 : Int32} {b3 : Int32} {b4 : Int32} {M : Mem} {Q : Option PV → Mem → Prop} (h : ((M 9 0 6 0) ≤ b4 → TT X kX9_setAsks 0 [some (pR (9, 0, 0)), some (pI (1 <<< (b1 &&& 31))), some (pI b2), none] [] M (rV fun M8 => (b3 = 0 ∨ b3 = 1) ∧ Q (some (pI b3)) M8)) ∧ (¬ (M 9 0 6 0) ≤ b4 → (¬ b3 = 0 → TT X kX9_changes 25 [some (pR (9, 0, 0)), some (pI b1), some (pI b2), some (pI 1), some (pI (b4 + 1))] [] M Q) ∧ (b3 = 0 → vp_in b4 18 ∧ ((¬ (M 9 0 21 (Int32.toNatClampNeg b4)) = b1 → TT X kX9_changes 25 [some (pR (9, 0, 0)), some (pI b1), some (pI b2), some (pI 0), some (pI (b4 + 1))] [] M Q) ∧ ((M 9 0 21 (Int32.toNatClampNeg b4)) = b1 → vp_in b4 18 ∧ (((M 9 0 22 (Int32.toNatClampNeg b4)) = b2 → TT X kX9_changes 25 [some (pR (9, 0, 0)), some (pI b1), some (pI b2), some (pI 0), some (pI (b4 + 1))] [] M Q) ∧ (¬ (M 9 0 22 (Int32.toNatClampNeg b4)) = b2 → TT X kX9_changes 25 [some (pR (9, 0, 0)), some (pI b1), some (pI b2), some (pI 1), some (pI (b4 + 1))] [] M Q))))))) : TT X kX9_changes 25 [some (pR (9, 0, 0)), some (pI b1), some (pI b2), some (pI b3), some (pI b4)] [] M Q :=
 T_iload dX9_changes_25 rfl <|
 T_aload_n dX9_changes_27 rfl <|
 T_getR (C := RX9) (T := TX9) (N := 31) (f := 5) dX9_changes_28 c_9_0_0 rfl (by decide) wf_X9_19 rfl <|
 T_iconst dX9_changes_31 ic_0 <|
 T_ialdN (n := 80) dX9_changes_32 c_9_0_6 (by decide) (by decide) (by decide) rfl vi_0_80 tn_0 <|
 T_icmp_ge (tgt := 74) dX9_changes_33 (by decide) (fun z14 =>
 T_aload_n dX9_changes_74 rfl <|
 T_iconst dX9_changes_75 ic_1 <|
 T_iload_n dX9_changes_76 rfl <|
 T_ishl dX9_changes_77 <|
 T_iload_n dX9_changes_78 rfl <|
 T_callVv (k' := kX9_setAsks) (vs := [pI (1 <<< (b1 &&& 31)), pI b2]) (st := []) dX9_changes_79 wm_X9_230 okX9_setAsks rfl c_9_0_0 rfl rfl rfl (Nat.le_of_ble_eq_true rfl) rfl (Nat.le_of_ble_eq_true rfl) (TT.mono (h.1 z14) (rV_mono (fun M8 h10 =>
 T_iload_n dX9_changes_82 rfl <|
 T_ireturn (ty := .boolean) dX9_changes_83 rfl (nz_b h10.1) h10.2)))) (fun z14 =>
 T_iload_n dX9_changes_36 rfl <|
 T_if_ne (tgt := 62) dX9_changes_37 (by decide) (fun z13 =>
 T_iconst dX9_changes_62 ic_1 <|
 T_goto (tgt := 67) dX9_changes_63 (by decide) <|
 T_istore_n dX9_changes_67 (by decide) rfl rfl <|
 T_iinc dX9_changes_68 rfl (ii_1 _) (by decide) rfl rfl <|
 T_goto (tgt := 25) dX9_changes_71 (by decide) <|
 ((h.2 z14).1 z13)) (fun z13 =>
 T_aload_n dX9_changes_40 rfl <|
 T_getR (C := RX9) (T := TX9) (N := 31) (f := 20) dX9_changes_41 c_9_0_0 rfl (by decide) wf_X9_31 rfl <|
 T_iload dX9_changes_44 rfl <|
 T_iald (n := 18) dX9_changes_46 c_9_0_21 (by decide) (by decide) (by decide) rfl ((h.2 z14).2 z13).1 <|
 T_iload_n dX9_changes_47 rfl <|
 T_icmp_ne (tgt := 66) dX9_changes_48 (by decide) (fun z12 =>
 T_iconst dX9_changes_66 ic_0 <|
 T_istore_n dX9_changes_67 (by decide) rfl rfl <|
 T_iinc dX9_changes_68 rfl (ii_1 _) (by decide) rfl rfl <|
 T_goto (tgt := 25) dX9_changes_71 (by decide) <|
 (((h.2 z14).2 z13).2.1 z12)) (fun z12 =>
 T_aload_n dX9_changes_51 rfl <|
 T_getR (C := RX9) (T := TX9) (N := 31) (f := 21) dX9_changes_52 c_9_0_0 rfl (by decide) wf_X9_34 rfl <|
 T_iload dX9_changes_55 rfl <|
 T_iald (n := 18) dX9_changes_57 c_9_0_22 (by decide) (by decide) (by decide) rfl (((h.2 z14).2 z13).2.2 z12).1 <|
 T_iload_n dX9_changes_58 rfl <|
 T_icmp_eq (tgt := 66) dX9_changes_59 (by decide) (fun z11 =>
 T_iconst dX9_changes_66 ic_0 <|
 T_istore_n dX9_changes_67 (by decide) rfl rfl <|
 T_iinc dX9_changes_68 rfl (ii_1 _) (by decide) rfl rfl <|
 T_goto (tgt := 25) dX9_changes_71 (by decide) <|
 ((((h.2 z14).2 z13).2.2 z12).2.1 z11)) (fun z11 =>
 T_iconst dX9_changes_62 ic_1 <|
 T_goto (tgt := 67) dX9_changes_63 (by decide) <|
 T_istore_n dX9_changes_67 (by decide) rfl rfl <|
 T_iinc dX9_changes_68 rfl (ii_1 _) (by decide) rfl rfl <|
 T_goto (tgt := 25) dX9_changes_71 (by decide) <|
 ((((h.2 z14).2 z13).2.2 z12).2.2 z11)))))
theorem rX9_turnsOf_0 {X : Nat × (Nat → Int32)} {a1 : Int32} {M : Mem} {Q : Option PV → Mem → Prop} (h : (¬ ((mset M 9 0 0 0 0) 9 0 0 7) = 0 → TT X kX9_in 0 [some (pL (Int32.toInt64 a1)), none, some (pL (-1)), none, some (pL 4), none] [] (mset M 9 0 0 0 0) (rI fun v2 M1 => (¬ v2 = 0 → TT X kX9_layNow 0 [some (pR (9, 0, 0)), none] [] M1 (rV fun M3 => TT X kX9_turnsOf 41 [some (pR (9, 0, 0)), some (pI a1), some (pI (-1000000)), some (pI 1), none, none] [] M3 Q)) ∧ (v2 = 0 → Q (some (pI (-1000001))) M1))) ∧ (((mset M 9 0 0 0 0) 9 0 0 7) = 0 → Q (some (pI (-1000002))) (mset M 9 0 0 0 0))) : TT X kX9_turnsOf 0 [some (pR (9, 0, 0)), some (pI a1), none, none, none, none] [] M Q :=
 T_aload_n dX9_turnsOf_0 rfl <|
 T_iconst dX9_turnsOf_1 ic_0 <|
 T_putI (C := RX9) (T := TX9) (N := 31) (f := 0) dX9_turnsOf_2 c_9_0_0 rfl (by decide) wf_X9_59 rfl rfl rfl <|
 T_aload_n dX9_turnsOf_5 rfl <|
 T_getI (C := RX9) (T := TX9) (N := 31) (f := 7) dX9_turnsOf_6 c_9_0_0 rfl (by decide) wf_X9_170 rfl <|
 T_if_ne (tgt := 15) dX9_turnsOf_9 (by decide) (fun z8 =>
 T_iload_n dX9_turnsOf_15 rfl <|
 T_i2l dX9_turnsOf_16 <|
 T_ldc2 dX9_turnsOf_17 wl_X9_241 <|
 T_ldc2 dX9_turnsOf_20 wl_X9_177 <|
 T_callSi (k' := kX9_in) (vs := [pL (Int32.toInt64 a1), pL (-1), pL 4]) (st := []) dX9_turnsOf_23 wm_X9_69 okX9_in rfl rfl rfl (Nat.le_of_ble_eq_true rfl) rfl (Nat.le_of_ble_eq_true rfl) (TT.mono (h.1 z8) (rI_mono (fun v2 M1 h7 =>
 T_if_ne (tgt := 32) dX9_turnsOf_26 (by decide) (fun z6 =>
 T_aload_n dX9_turnsOf_32 rfl <|
 T_callVv (k' := kX9_layNow) (vs := []) (st := []) dX9_turnsOf_33 wm_X9_215 okX9_layNow rfl c_9_0_0 rfl rfl rfl (Nat.le_of_ble_eq_true rfl) rfl (Nat.le_of_ble_eq_true rfl) (TT.mono (h7.1 z6) (rV_mono (fun M3 h5 =>
 T_ldc dX9_turnsOf_36 wc_X9_95 <|
 T_istore_n dX9_turnsOf_38 (by decide) rfl rfl <|
 T_iconst dX9_turnsOf_39 ic_1 <|
 T_istore_n dX9_turnsOf_40 (by decide) rfl rfl <|
 h5)))) (fun z6 =>
 T_ldc dX9_turnsOf_29 wc_X9_79 <|
 T_ireturn (ty := .int) dX9_turnsOf_31 rfl rfl (h7.2 z6)))))) (fun z8 =>
 T_ldc dX9_turnsOf_12 wc_X9_194 <|
 T_ireturn (ty := .int) dX9_turnsOf_14 rfl rfl (h.2 z8))
theorem rX9_turnsOf_41 {X : Nat × (Nat → Int32)} {b1 : Int32} {b2 : Int32} {b3 : Int32} {M : Mem} {Q : Option PV → Mem → Prop} (h : (20 < b3 → (0 ≤ b1 → TT X kX9_turnsOf 118 [some (pR (9, 0, 0)), some (pI b1), some (pI b2), some (pI 0), none, none] [] M Q) ∧ (¬ 0 ≤ b1 → Q (some (pI b2)) M)) ∧ (¬ 20 < b3 → (¬ b2 = (-1000000) → (0 ≤ b1 → TT X kX9_turnsOf 118 [some (pR (9, 0, 0)), some (pI b1), some (pI b2), some (pI 0), none, none] [] M Q) ∧ (¬ 0 ≤ b1 → Q (some (pI b2)) M)) ∧ (b2 = (-1000000) → TT X kX9_turnsOf 59 [some (pR (9, 0, 0)), some (pI b1), some (pI b2), some (pI b3), some (pI 0), some (pI 0)] [] M Q))) : TT X kX9_turnsOf 41 [some (pR (9, 0, 0)), some (pI b1), some (pI b2), some (pI b3), none, none] [] M Q :=
 T_iload_n dX9_turnsOf_41 rfl <|
 T_bipush dX9_turnsOf_42 bp_20 <|
 T_icmp_gt (tgt := 110) dX9_turnsOf_44 (by decide) (fun z12 =>
 T_iload_n dX9_turnsOf_110 rfl <|
 T_if_ge (tgt := 116) dX9_turnsOf_111 (by decide) (fun z9 =>
 T_iconst dX9_turnsOf_116 ic_0 <|
 T_istore_n dX9_turnsOf_117 (by decide) rfl rfl <|
 ((h.1 z12).1 z9)) (fun z9 =>
 T_iload_n dX9_turnsOf_114 rfl <|
 T_ireturn (ty := .int) dX9_turnsOf_115 rfl rfl ((h.1 z12).2 z9))) (fun z12 =>
 T_iload_n dX9_turnsOf_47 rfl <|
 T_ldc dX9_turnsOf_48 wc_X9_95 <|
 T_icmp_ne (tgt := 110) dX9_turnsOf_50 (by decide) (fun z11 =>
 T_iload_n dX9_turnsOf_110 rfl <|
 T_if_ge (tgt := 116) dX9_turnsOf_111 (by decide) (fun z10 =>
 T_iconst dX9_turnsOf_116 ic_0 <|
 T_istore_n dX9_turnsOf_117 (by decide) rfl rfl <|
 (((h.2 z12).1 z11).1 z10)) (fun z10 =>
 T_iload_n dX9_turnsOf_114 rfl <|
 T_ireturn (ty := .int) dX9_turnsOf_115 rfl rfl (((h.2 z12).1 z11).2 z10))) (fun z11 =>
 T_iconst dX9_turnsOf_53 ic_0 <|
 T_istore dX9_turnsOf_54 (by decide) rfl rfl <|
 T_iconst dX9_turnsOf_56 ic_0 <|
 T_istore dX9_turnsOf_57 (by decide) rfl rfl <|
 ((h.2 z12).2 z11)))
theorem rX9_turnsOf_59 {X : Nat × (Nat → Int32)} {b1 : Int32} {b2 : Int32} {b3 : Int32} {b4 : Int32} {b5 : Int32} {M : Mem} {Q : Option PV → Mem → Prop} (h : (5 ≤ b5 → (b4 = 0 → TT X kX9_turnsOf 41 [some (pR (9, 0, 0)), some (pI b1), some (pI b3), some (pI (b3 + 1)), none, none] [] M Q) ∧ (¬ b4 = 0 → TT X kX9_turnsOf 41 [some (pR (9, 0, 0)), some (pI b1), some (pI (-1000000)), some (pI (b3 + 1)), none, none] [] M Q)) ∧ (¬ 5 ≤ b5 → TT X kX9_changes 0 [some (pR (9, 0, 0)), some (pI b5), none, none, none] [] M (rI fun v15 M14 => (¬ v15 = 0 → TT X kX9_turnsOf 59 [some (pR (9, 0, 0)), some (pI b1), some (pI b2), some (pI b3), some (pI 1), some (pI (b5 + 1))] [] M14 Q) ∧ (v15 = 0 → (b4 = 0 → TT X kX9_turnsOf 59 [some (pR (9, 0, 0)), some (pI b1), some (pI b2), some (pI b3), some (pI 0), some (pI (b5 + 1))] [] M14 Q) ∧ (¬ b4 = 0 → TT X kX9_turnsOf 59 [some (pR (9, 0, 0)), some (pI b1), some (pI b2), some (pI b3), some (pI 1), some (pI (b5 + 1))] [] M14 Q))))) : TT X kX9_turnsOf 59 [some (pR (9, 0, 0)), some (pI b1), some (pI b2), some (pI b3), some (pI b4), some (pI b5)] [] M Q :=
 T_iload dX9_turnsOf_59 rfl <|
 T_iconst dX9_turnsOf_61 ic_5 <|
 T_icmp_ge (tgt := 92) dX9_turnsOf_62 (by decide) (fun z19 =>
 T_iload dX9_turnsOf_92 rfl <|
 T_if_eq (tgt := 102) dX9_turnsOf_94 (by decide) (fun z13 =>
 T_iload_n dX9_turnsOf_102 rfl <|
 T_istore_n dX9_turnsOf_103 (by decide) rfl rfl <|
 T_iinc dX9_turnsOf_104 rfl (ii_1 _) (by decide) rfl rfl <|
 T_goto (tgt := 41) dX9_turnsOf_107 (by decide) <|
 T_mask [true, true, true, true, false, false] ((h.1 z19).1 z13)) (fun z13 =>
 T_ldc dX9_turnsOf_97 wc_X9_95 <|
 T_goto (tgt := 103) dX9_turnsOf_99 (by decide) <|
 T_istore_n dX9_turnsOf_103 (by decide) rfl rfl <|
 T_iinc dX9_turnsOf_104 rfl (ii_1 _) (by decide) rfl rfl <|
 T_goto (tgt := 41) dX9_turnsOf_107 (by decide) <|
 T_mask [true, true, true, true, false, false] ((h.1 z19).2 z13))) (fun z19 =>
 T_aload_n dX9_turnsOf_65 rfl <|
 T_iload dX9_turnsOf_66 rfl <|
 T_callVi (k' := kX9_changes) (vs := [pI b5]) (st := []) dX9_turnsOf_68 wm_X9_243 okX9_changes rfl c_9_0_0 rfl rfl rfl (Nat.le_of_ble_eq_true rfl) rfl (Nat.le_of_ble_eq_true rfl) (TT.mono (h.2 z19) (rI_mono (fun v15 M14 h18 =>
 T_if_ne (tgt := 79) dX9_turnsOf_71 (by decide) (fun z17 =>
 T_iconst dX9_turnsOf_79 ic_1 <|
 T_goto (tgt := 84) dX9_turnsOf_80 (by decide) <|
 T_istore dX9_turnsOf_84 (by decide) rfl rfl <|
 T_iinc dX9_turnsOf_86 rfl (ii_1 _) (by decide) rfl rfl <|
 T_goto (tgt := 59) dX9_turnsOf_89 (by decide) <|
 (h18.1 z17)) (fun z17 =>
 T_iload dX9_turnsOf_74 rfl <|
 T_if_eq (tgt := 83) dX9_turnsOf_76 (by decide) (fun z16 =>
 T_iconst dX9_turnsOf_83 ic_0 <|
 T_istore dX9_turnsOf_84 (by decide) rfl rfl <|
 T_iinc dX9_turnsOf_86 rfl (ii_1 _) (by decide) rfl rfl <|
 T_goto (tgt := 59) dX9_turnsOf_89 (by decide) <|
 ((h18.2 z17).1 z16)) (fun z16 =>
 T_iconst dX9_turnsOf_79 ic_1 <|
 T_goto (tgt := 84) dX9_turnsOf_80 (by decide) <|
 T_istore dX9_turnsOf_84 (by decide) rfl rfl <|
 T_iinc dX9_turnsOf_86 rfl (ii_1 _) (by decide) rfl rfl <|
 T_goto (tgt := 59) dX9_turnsOf_89 (by decide) <|
 ((h18.2 z17).2 z16)))))))
theorem rX9_turnsOf_118 {X : Nat × (Nat → Int32)} {b1 : Int32} {b2 : Int32} {b3 : Int32} {M : Mem} {Q : Option PV → Mem → Prop} (h : ((M 9 0 6 0) ≤ b3 → Q (some (pI (-1000000))) M) ∧ (¬ (M 9 0 6 0) ≤ b3 → vp_in b3 18 ∧ ((¬ (M 9 0 21 (Int32.toNatClampNeg b3)) = b1 → TT X kX9_turnsOf 118 [some (pR (9, 0, 0)), some (pI b1), some (pI b2), some (pI (b3 + 1)), none, none] [] M Q) ∧ ((M 9 0 21 (Int32.toNatClampNeg b3)) = b1 → vp_in b3 18 ∧ (Q (some (pI (M 9 0 22 (Int32.toNatClampNeg b3)))) M))))) : TT X kX9_turnsOf 118 [some (pR (9, 0, 0)), some (pI b1), some (pI b2), some (pI b3), none, none] [] M Q :=
 T_iload_n dX9_turnsOf_118 rfl <|
 T_aload_n dX9_turnsOf_119 rfl <|
 T_getR (C := RX9) (T := TX9) (N := 31) (f := 5) dX9_turnsOf_120 c_9_0_0 rfl (by decide) wf_X9_19 rfl <|
 T_iconst dX9_turnsOf_123 ic_0 <|
 T_ialdN (n := 80) dX9_turnsOf_124 c_9_0_6 (by decide) (by decide) (by decide) rfl vi_0_80 tn_0 <|
 T_icmp_ge (tgt := 151) dX9_turnsOf_125 (by decide) (fun z21 =>
 T_ldc dX9_turnsOf_151 wc_X9_95 <|
 T_ireturn (ty := .int) dX9_turnsOf_153 rfl rfl (h.1 z21)) (fun z21 =>
 T_aload_n dX9_turnsOf_128 rfl <|
 T_getR (C := RX9) (T := TX9) (N := 31) (f := 20) dX9_turnsOf_129 c_9_0_0 rfl (by decide) wf_X9_31 rfl <|
 T_iload_n dX9_turnsOf_132 rfl <|
 T_iald (n := 18) dX9_turnsOf_133 c_9_0_21 (by decide) (by decide) (by decide) rfl (h.2 z21).1 <|
 T_iload_n dX9_turnsOf_134 rfl <|
 T_icmp_ne (tgt := 145) dX9_turnsOf_135 (by decide) (fun z20 =>
 T_iinc dX9_turnsOf_145 rfl (ii_1 _) (by decide) rfl rfl <|
 T_goto (tgt := 118) dX9_turnsOf_148 (by decide) <|
 ((h.2 z21).2.1 z20)) (fun z20 =>
 T_aload_n dX9_turnsOf_138 rfl <|
 T_getR (C := RX9) (T := TX9) (N := 31) (f := 21) dX9_turnsOf_139 c_9_0_0 rfl (by decide) wf_X9_34 rfl <|
 T_iload_n dX9_turnsOf_142 rfl <|
 T_iald (n := 18) dX9_turnsOf_143 c_9_0_22 (by decide) (by decide) (by decide) rfl ((h.2 z21).2.2 z20).1 <|
 T_ireturn (ty := .int) dX9_turnsOf_144 rfl rfl ((h.2 z21).2.2 z20).2))
theorem rX9_canTake_0 {X : Nat × (Nat → Int32)} {a1 : Int32} {M : Mem} {Q : Option PV → Mem → Prop} (h : TT X kX9_haveSteps 0 [some (pR (9, 0, 0)), some (pI a1), none, none] [] M (rI fun v2 M1 => (¬ v2 = 0 → TT X kX9_bestOf 0 [some (pR (9, 0, 0)), some (pI a1), none, none, none] [] M1 (rI fun v4 M3 => Q (some (pI (M3 9 0 0 26))) M3)) ∧ (v2 = 0 → Q (some (pI 0)) M1))) : TT X kX9_canTake 0 [some (pR (9, 0, 0)), some (pI a1), none] [] M Q :=
 T_aload_n dX9_canTake_0 rfl <|
 T_iload_n dX9_canTake_1 rfl <|
 T_callVi (k' := kX9_haveSteps) (vs := [pI a1]) (st := []) dX9_canTake_2 wm_X9_235 okX9_haveSteps rfl c_9_0_0 rfl rfl rfl (Nat.le_of_ble_eq_true rfl) rfl (Nat.le_of_ble_eq_true rfl) (TT.mono h (rI_mono (fun v2 M1 h7 =>
 T_if_ne (tgt := 10) dX9_canTake_5 (by decide) (fun z6 =>
 T_aload_n dX9_canTake_10 rfl <|
 T_iload_n dX9_canTake_11 rfl <|
 T_callVi (k' := kX9_bestOf) (vs := [pI a1]) (st := []) dX9_canTake_12 wm_X9_238 okX9_bestOf rfl c_9_0_0 rfl rfl rfl (Nat.le_of_ble_eq_true rfl) rfl (Nat.le_of_ble_eq_true rfl) (TT.mono (h7.1 z6) (rI_mono (fun v4 M3 h5 =>
 T_istore_n dX9_canTake_15 (by decide) rfl rfl <|
 T_aload_n dX9_canTake_16 rfl <|
 T_getI (C := RX9) (T := TX9) (N := 31) (f := 26) dX9_canTake_17 c_9_0_0 rfl (by decide) wf_X9_227 rfl <|
 T_ireturn (ty := .int) dX9_canTake_20 rfl rfl h5)))) (fun z6 =>
 T_iconst dX9_canTake_8 ic_0 <|
 T_ireturn (ty := .int) dX9_canTake_9 rfl rfl (h7.2 z6)))))
theorem rX9_shares_0 {X : Nat × (Nat → Int32)} {a1 : Int32} {a2 : Int32} {a3 : Int32} {a4 : Int32} {M : Mem} {Q : Option PV → Mem → Prop} (h : (¬ ((mset M 9 0 0 0 0) 9 0 0 7) = 0 → TT X kX9_isOwner 0 [some (pI a1)] [] (mset M 9 0 0 0 0) (rI fun v2 M1 => (v2 = 0 → Q (some (pI (-1000001))) M1) ∧ (¬ v2 = 0 → TT X kX9_isOwner 0 [some (pI a2)] [] M1 (rI fun v4 M3 => (v4 = 0 → Q (some (pI (-1000001))) M3) ∧ (¬ v4 = 0 → TT X kX9_isOwner 0 [some (pI a3)] [] M3 (rI fun v6 M5 => (v6 = 0 → Q (some (pI (-1000001))) M5) ∧ (¬ v6 = 0 → (a1 = a2 → Q (some (pI (-1000001))) M5) ∧ (¬ a1 = a2 → (a1 = a3 → Q (some (pI (-1000001))) M5) ∧ (¬ a1 = a3 → (a2 = a3 → Q (some (pI (-1000001))) M5) ∧ (¬ a2 = a3 → TT X kX9_in 0 [some (pL (Int32.toInt64 a4)), none, some (pL 0), none, some (pL 2), none] [] M5 (rI fun v8 M7 => (¬ v8 = 0 → TT X kX9_layNow 0 [some (pR (9, 0, 0)), none] [] M7 (rV fun M9 => TT X kX9_canTake 0 [some (pR (9, 0, 0)), some (pI (((1 <<< (a1 &&& 31)) ||| (1 <<< (a2 &&& 31))) ||| (1 <<< (a3 &&& 31)))), none] [] M9 (rI fun v12 M11 => TT X kX9_canTake 0 [some (pR (9, 0, 0)), some (pI (1 <<< (a1 &&& 31))), none] [] M11 (rI fun v14 M13 => TT X kX9_canTake 0 [some (pR (9, 0, 0)), some (pI (1 <<< (a2 &&& 31))), none] [] M13 (rI fun v16 M15 => TT X kX9_canTake 0 [some (pR (9, 0, 0)), some (pI (1 <<< (a3 &&& 31))), none] [] M15 (rI fun v18 M17 => TT X kX9_canTake 0 [some (pR (9, 0, 0)), some (pI ((1 <<< (a1 &&& 31)) ||| (1 <<< (a2 &&& 31)))), none] [] M17 (rI fun v20 M19 => TT X kX9_canTake 0 [some (pR (9, 0, 0)), some (pI ((1 <<< (a1 &&& 31)) ||| (1 <<< (a3 &&& 31)))), none] [] M19 (rI fun v22 M21 => TT X kX9_canTake 0 [some (pR (9, 0, 0)), some (pI ((1 <<< (a2 &&& 31)) ||| (1 <<< (a3 &&& 31)))), none] [] M21 (rI fun v24 M23 => TT X kX9_shares 158 [some (pR (9, 0, 0)), some (pI a1), some (pI a2), some (pI a3), some (pI a4), some (pI v12), some (pI v14), some (pI v16), some (pI v18), some (pI v20), some (pI v22), some (pI v24), some (pI v14), none, none] [] M23 Q))))))))) ∧ (v8 = 0 → Q (some (pI (-1000001))) M7)))))))))))) ∧ (((mset M 9 0 0 0 0) 9 0 0 7) = 0 → Q (some (pI (-1000002))) (mset M 9 0 0 0 0))) : TT X kX9_shares 0 [some (pR (9, 0, 0)), some (pI a1), some (pI a2), some (pI a3), some (pI a4), none, none, none, none, none, none, none, none, none, none] [] M Q :=
 T_aload_n dX9_shares_0 rfl <|
 T_iconst dX9_shares_1 ic_0 <|
 T_putI (C := RX9) (T := TX9) (N := 31) (f := 0) dX9_shares_2 c_9_0_0 rfl (by decide) wf_X9_59 rfl rfl rfl <|
 T_aload_n dX9_shares_5 rfl <|
 T_getI (C := RX9) (T := TX9) (N := 31) (f := 7) dX9_shares_6 c_9_0_0 rfl (by decide) wf_X9_170 rfl <|
 T_if_ne (tgt := 15) dX9_shares_9 (by decide) (fun z44 =>
 T_iload_n dX9_shares_15 rfl <|
 T_callSi (k' := kX9_isOwner) (vs := [pI a1]) (st := []) dX9_shares_16 wm_X9_191 okX9_isOwner rfl rfl rfl (Nat.le_of_ble_eq_true rfl) rfl (Nat.le_of_ble_eq_true rfl) (TT.mono (h.1 z44) (rI_mono (fun v2 M1 h43 =>
 T_if_eq (tgt := 64) dX9_shares_19 (by decide) (fun z42 =>
 T_ldc dX9_shares_64 wc_X9_79 <|
 T_ireturn (ty := .int) dX9_shares_66 rfl rfl (h43.1 z42)) (fun z42 =>
 T_iload_n dX9_shares_22 rfl <|
 T_callSi (k' := kX9_isOwner) (vs := [pI a2]) (st := []) dX9_shares_23 wm_X9_191 okX9_isOwner rfl rfl rfl (Nat.le_of_ble_eq_true rfl) rfl (Nat.le_of_ble_eq_true rfl) (TT.mono (h43.2 z42) (rI_mono (fun v4 M3 h41 =>
 T_if_eq (tgt := 64) dX9_shares_26 (by decide) (fun z40 =>
 T_ldc dX9_shares_64 wc_X9_79 <|
 T_ireturn (ty := .int) dX9_shares_66 rfl rfl (h41.1 z40)) (fun z40 =>
 T_iload_n dX9_shares_29 rfl <|
 T_callSi (k' := kX9_isOwner) (vs := [pI a3]) (st := []) dX9_shares_30 wm_X9_191 okX9_isOwner rfl rfl rfl (Nat.le_of_ble_eq_true rfl) rfl (Nat.le_of_ble_eq_true rfl) (TT.mono (h41.2 z40) (rI_mono (fun v6 M5 h39 =>
 T_if_eq (tgt := 64) dX9_shares_33 (by decide) (fun z38 =>
 T_ldc dX9_shares_64 wc_X9_79 <|
 T_ireturn (ty := .int) dX9_shares_66 rfl rfl (h39.1 z38)) (fun z38 =>
 T_iload_n dX9_shares_36 rfl <|
 T_iload_n dX9_shares_37 rfl <|
 T_icmp_eq (tgt := 64) dX9_shares_38 (by decide) (fun z37 =>
 T_ldc dX9_shares_64 wc_X9_79 <|
 T_ireturn (ty := .int) dX9_shares_66 rfl rfl ((h39.2 z38).1 z37)) (fun z37 =>
 T_iload_n dX9_shares_41 rfl <|
 T_iload_n dX9_shares_42 rfl <|
 T_icmp_eq (tgt := 64) dX9_shares_43 (by decide) (fun z36 =>
 T_ldc dX9_shares_64 wc_X9_79 <|
 T_ireturn (ty := .int) dX9_shares_66 rfl rfl (((h39.2 z38).2 z37).1 z36)) (fun z36 =>
 T_iload_n dX9_shares_46 rfl <|
 T_iload_n dX9_shares_47 rfl <|
 T_icmp_eq (tgt := 64) dX9_shares_48 (by decide) (fun z35 =>
 T_ldc dX9_shares_64 wc_X9_79 <|
 T_ireturn (ty := .int) dX9_shares_66 rfl rfl ((((h39.2 z38).2 z37).2 z36).1 z35)) (fun z35 =>
 T_iload dX9_shares_51 rfl <|
 T_i2l dX9_shares_53 <|
 T_lconst dX9_shares_54 lc_0 <|
 T_ldc2 dX9_shares_55 wl_X9_77 <|
 T_callSi (k' := kX9_in) (vs := [pL (Int32.toInt64 a4), pL 0, pL 2]) (st := []) dX9_shares_58 wm_X9_69 okX9_in rfl rfl rfl (Nat.le_of_ble_eq_true rfl) rfl (Nat.le_of_ble_eq_true rfl) (TT.mono ((((h39.2 z38).2 z37).2 z36).2 z35) (rI_mono (fun v8 M7 h34 =>
 T_if_ne (tgt := 67) dX9_shares_61 (by decide) (fun z33 =>
 T_aload_n dX9_shares_67 rfl <|
 T_callVv (k' := kX9_layNow) (vs := []) (st := []) dX9_shares_68 wm_X9_215 okX9_layNow rfl c_9_0_0 rfl rfl rfl (Nat.le_of_ble_eq_true rfl) rfl (Nat.le_of_ble_eq_true rfl) (TT.mono (h34.1 z33) (rV_mono (fun M9 h32 =>
 T_aload_n dX9_shares_71 rfl <|
 T_iconst dX9_shares_72 ic_1 <|
 T_iload_n dX9_shares_73 rfl <|
 T_ishl dX9_shares_74 <|
 T_iconst dX9_shares_75 ic_1 <|
 T_iload_n dX9_shares_76 rfl <|
 T_ishl dX9_shares_77 <|
 T_ior dX9_shares_78 <|
 T_iconst dX9_shares_79 ic_1 <|
 T_iload_n dX9_shares_80 rfl <|
 T_ishl dX9_shares_81 <|
 T_ior dX9_shares_82 <|
 T_callVi (k' := kX9_canTake) (vs := [pI (((1 <<< (a1 &&& 31)) ||| (1 <<< (a2 &&& 31))) ||| (1 <<< (a3 &&& 31)))]) (st := []) dX9_shares_83 wm_X9_246 okX9_canTake rfl c_9_0_0 rfl rfl rfl (Nat.le_of_ble_eq_true rfl) rfl (Nat.le_of_ble_eq_true rfl) (TT.mono h32 (rI_mono (fun v12 M11 h31 =>
 T_istore dX9_shares_86 (by decide) rfl rfl <|
 T_aload_n dX9_shares_88 rfl <|
 T_iconst dX9_shares_89 ic_1 <|
 T_iload_n dX9_shares_90 rfl <|
 T_ishl dX9_shares_91 <|
 T_callVi (k' := kX9_canTake) (vs := [pI (1 <<< (a1 &&& 31))]) (st := []) dX9_shares_92 wm_X9_246 okX9_canTake rfl c_9_0_0 rfl rfl rfl (Nat.le_of_ble_eq_true rfl) rfl (Nat.le_of_ble_eq_true rfl) (TT.mono h31 (rI_mono (fun v14 M13 h30 =>
 T_istore dX9_shares_95 (by decide) rfl rfl <|
 T_aload_n dX9_shares_97 rfl <|
 T_iconst dX9_shares_98 ic_1 <|
 T_iload_n dX9_shares_99 rfl <|
 T_ishl dX9_shares_100 <|
 T_callVi (k' := kX9_canTake) (vs := [pI (1 <<< (a2 &&& 31))]) (st := []) dX9_shares_101 wm_X9_246 okX9_canTake rfl c_9_0_0 rfl rfl rfl (Nat.le_of_ble_eq_true rfl) rfl (Nat.le_of_ble_eq_true rfl) (TT.mono h30 (rI_mono (fun v16 M15 h29 =>
 T_istore dX9_shares_104 (by decide) rfl rfl <|
 T_aload_n dX9_shares_106 rfl <|
 T_iconst dX9_shares_107 ic_1 <|
 T_iload_n dX9_shares_108 rfl <|
 T_ishl dX9_shares_109 <|
 T_callVi (k' := kX9_canTake) (vs := [pI (1 <<< (a3 &&& 31))]) (st := []) dX9_shares_110 wm_X9_246 okX9_canTake rfl c_9_0_0 rfl rfl rfl (Nat.le_of_ble_eq_true rfl) rfl (Nat.le_of_ble_eq_true rfl) (TT.mono h29 (rI_mono (fun v18 M17 h28 =>
 T_istore dX9_shares_113 (by decide) rfl rfl <|
 T_aload_n dX9_shares_115 rfl <|
 T_iconst dX9_shares_116 ic_1 <|
 T_iload_n dX9_shares_117 rfl <|
 T_ishl dX9_shares_118 <|
 T_iconst dX9_shares_119 ic_1 <|
 T_iload_n dX9_shares_120 rfl <|
 T_ishl dX9_shares_121 <|
 T_ior dX9_shares_122 <|
 T_callVi (k' := kX9_canTake) (vs := [pI ((1 <<< (a1 &&& 31)) ||| (1 <<< (a2 &&& 31)))]) (st := []) dX9_shares_123 wm_X9_246 okX9_canTake rfl c_9_0_0 rfl rfl rfl (Nat.le_of_ble_eq_true rfl) rfl (Nat.le_of_ble_eq_true rfl) (TT.mono h28 (rI_mono (fun v20 M19 h27 =>
 T_istore dX9_shares_126 (by decide) rfl rfl <|
 T_aload_n dX9_shares_128 rfl <|
 T_iconst dX9_shares_129 ic_1 <|
 T_iload_n dX9_shares_130 rfl <|
 T_ishl dX9_shares_131 <|
 T_iconst dX9_shares_132 ic_1 <|
 T_iload_n dX9_shares_133 rfl <|
 T_ishl dX9_shares_134 <|
 T_ior dX9_shares_135 <|
 T_callVi (k' := kX9_canTake) (vs := [pI ((1 <<< (a1 &&& 31)) ||| (1 <<< (a3 &&& 31)))]) (st := []) dX9_shares_136 wm_X9_246 okX9_canTake rfl c_9_0_0 rfl rfl rfl (Nat.le_of_ble_eq_true rfl) rfl (Nat.le_of_ble_eq_true rfl) (TT.mono h27 (rI_mono (fun v22 M21 h26 =>
 T_istore dX9_shares_139 (by decide) rfl rfl <|
 T_aload_n dX9_shares_141 rfl <|
 T_iconst dX9_shares_142 ic_1 <|
 T_iload_n dX9_shares_143 rfl <|
 T_ishl dX9_shares_144 <|
 T_iconst dX9_shares_145 ic_1 <|
 T_iload_n dX9_shares_146 rfl <|
 T_ishl dX9_shares_147 <|
 T_ior dX9_shares_148 <|
 T_callVi (k' := kX9_canTake) (vs := [pI ((1 <<< (a2 &&& 31)) ||| (1 <<< (a3 &&& 31)))]) (st := []) dX9_shares_149 wm_X9_246 okX9_canTake rfl c_9_0_0 rfl rfl rfl (Nat.le_of_ble_eq_true rfl) rfl (Nat.le_of_ble_eq_true rfl) (TT.mono h26 (rI_mono (fun v24 M23 h25 =>
 T_istore dX9_shares_152 (by decide) rfl rfl <|
 T_iload dX9_shares_154 rfl <|
 T_istore dX9_shares_156 (by decide) rfl rfl <|
 h25))))))))))))))))))))))))) (fun z33 =>
 T_ldc dX9_shares_64 wc_X9_79 <|
 T_ireturn (ty := .int) dX9_shares_66 rfl rfl (h34.2 z33))))))))))))))))))))) (fun z44 =>
 T_ldc dX9_shares_12 wc_X9_194 <|
 T_ireturn (ty := .int) dX9_shares_14 rfl rfl (h.2 z44))
theorem rX9_shares_158 {X : Nat × (Nat → Int32)} {b1 : Int32} {b2 : Int32} {b3 : Int32} {b4 : Int32} {b5 : Int32} {b6 : Int32} {b7 : Int32} {b8 : Int32} {b9 : Int32} {b10 : Int32} {b11 : Int32} {b12 : Int32} {M : Mem} {Q : Option PV → Mem → Prop} (h : ((b5 - b11) < b12 → Q (some (pI (-1000000))) M) ∧ (¬ (b5 - b11) < b12 → ((b9 - b12) ≤ b7 → (((b5 - b12) - b7) < b8 → TT X kX9_shares 158 [some (pR (9, 0, 0)), some (pI b1), some (pI b2), some (pI b3), some (pI b4), some (pI b5), some (pI b6), some (pI b7), some (pI b8), some (pI b9), some (pI b10), some (pI b11), some (pI (b12 + 1)), none, none] [] M Q) ∧ (¬ ((b5 - b12) - b7) < b8 → ((b12 + ((b5 - b12) - b7)) < b10 → TT X kX9_shares 158 [some (pR (9, 0, 0)), some (pI b1), some (pI b2), some (pI b3), some (pI b4), some (pI b5), some (pI b6), some (pI b7), some (pI b8), some (pI b9), some (pI b10), some (pI b11), some (pI (b12 + 1)), none, none] [] M Q) ∧ (¬ (b12 + ((b5 - b12) - b7)) < b10 → (¬ b4 = 0 → (¬ b4 = 1 → Q (some (pI ((b5 - b12) - b7))) M) ∧ (b4 = 1 → Q (some (pI b7)) M)) ∧ (b4 = 0 → Q (some (pI b12)) M)))) ∧ (¬ (b9 - b12) ≤ b7 → (((b5 - b12) - (b9 - b12)) < b8 → TT X kX9_shares 158 [some (pR (9, 0, 0)), some (pI b1), some (pI b2), some (pI b3), some (pI b4), some (pI b5), some (pI b6), some (pI b7), some (pI b8), some (pI b9), some (pI b10), some (pI b11), some (pI (b12 + 1)), none, none] [] M Q) ∧ (¬ ((b5 - b12) - (b9 - b12)) < b8 → ((b12 + ((b5 - b12) - (b9 - b12))) < b10 → TT X kX9_shares 158 [some (pR (9, 0, 0)), some (pI b1), some (pI b2), some (pI b3), some (pI b4), some (pI b5), some (pI b6), some (pI b7), some (pI b8), some (pI b9), some (pI b10), some (pI b11), some (pI (b12 + 1)), none, none] [] M Q) ∧ (¬ (b12 + ((b5 - b12) - (b9 - b12))) < b10 → (¬ b4 = 0 → (¬ b4 = 1 → Q (some (pI ((b5 - b12) - (b9 - b12)))) M) ∧ (b4 = 1 → Q (some (pI (b9 - b12))) M)) ∧ (b4 = 0 → Q (some (pI b12)) M)))))) : TT X kX9_shares 158 [some (pR (9, 0, 0)), some (pI b1), some (pI b2), some (pI b3), some (pI b4), some (pI b5), some (pI b6), some (pI b7), some (pI b8), some (pI b9), some (pI b10), some (pI b11), some (pI b12), none, none] [] M Q :=
 T_iload dX9_shares_158 rfl <|
 T_iload dX9_shares_160 rfl <|
 T_iload dX9_shares_162 rfl <|
 T_isub dX9_shares_164 <|
 T_icmp_gt (tgt := 247) dX9_shares_165 (by decide) (fun z54 =>
 T_ldc dX9_shares_247 wc_X9_95 <|
 T_ireturn (ty := .int) dX9_shares_249 rfl rfl (h.1 z54)) (fun z54 =>
 T_iload dX9_shares_168 rfl <|
 T_iload dX9_shares_170 rfl <|
 T_isub dX9_shares_172 <|
 T_iload dX9_shares_173 rfl <|
 T_icmp_le (tgt := 186) dX9_shares_175 (by decide) (fun z53 =>
 T_iload dX9_shares_186 rfl <|
 T_istore dX9_shares_188 (by decide) rfl rfl <|
 T_iload dX9_shares_190 rfl <|
 T_iload dX9_shares_192 rfl <|
 T_isub dX9_shares_194 <|
 T_iload dX9_shares_195 rfl <|
 T_isub dX9_shares_197 <|
 T_istore dX9_shares_198 (by decide) rfl rfl <|
 T_iload dX9_shares_200 rfl <|
 T_iload dX9_shares_202 rfl <|
 T_icmp_lt (tgt := 241) dX9_shares_204 (by decide) (fun z48 =>
 T_iinc dX9_shares_241 rfl (ii_1 _) (by decide) rfl rfl <|
 T_goto (tgt := 158) dX9_shares_244 (by decide) <|
 T_mask [true, true, true, true, true, true, true, true, true, true, true, true, true, false, false] (((h.2 z54).1 z53).1 z48)) (fun z48 =>
 T_iload dX9_shares_207 rfl <|
 T_iload dX9_shares_209 rfl <|
 T_iadd dX9_shares_211 <|
 T_iload dX9_shares_212 rfl <|
 T_icmp_lt (tgt := 241) dX9_shares_214 (by decide) (fun z47 =>
 T_iinc dX9_shares_241 rfl (ii_1 _) (by decide) rfl rfl <|
 T_goto (tgt := 158) dX9_shares_244 (by decide) <|
 T_mask [true, true, true, true, true, true, true, true, true, true, true, true, true, false, false] ((((h.2 z54).1 z53).2 z48).1 z47)) (fun z47 =>
 T_iload dX9_shares_217 rfl <|
 T_if_ne (tgt := 227) dX9_shares_219 (by decide) (fun z46 =>
 T_iload dX9_shares_227 rfl <|
 T_iconst dX9_shares_229 ic_1 <|
 T_icmp_ne (tgt := 238) dX9_shares_230 (by decide) (fun z45 =>
 T_iload dX9_shares_238 rfl <|
 T_ireturn (ty := .int) dX9_shares_240 rfl rfl ((((((h.2 z54).1 z53).2 z48).2 z47).1 z46).1 z45)) (fun z45 =>
 T_iload dX9_shares_233 rfl <|
 T_goto (tgt := 240) dX9_shares_235 (by decide) <|
 T_ireturn (ty := .int) dX9_shares_240 rfl rfl ((((((h.2 z54).1 z53).2 z48).2 z47).1 z46).2 z45))) (fun z46 =>
 T_iload dX9_shares_222 rfl <|
 T_goto (tgt := 240) dX9_shares_224 (by decide) <|
 T_ireturn (ty := .int) dX9_shares_240 rfl rfl (((((h.2 z54).1 z53).2 z48).2 z47).2 z46))))) (fun z53 =>
 T_iload dX9_shares_178 rfl <|
 T_iload dX9_shares_180 rfl <|
 T_isub dX9_shares_182 <|
 T_goto (tgt := 188) dX9_shares_183 (by decide) <|
 T_istore dX9_shares_188 (by decide) rfl rfl <|
 T_iload dX9_shares_190 rfl <|
 T_iload dX9_shares_192 rfl <|
 T_isub dX9_shares_194 <|
 T_iload dX9_shares_195 rfl <|
 T_isub dX9_shares_197 <|
 T_istore dX9_shares_198 (by decide) rfl rfl <|
 T_iload dX9_shares_200 rfl <|
 T_iload dX9_shares_202 rfl <|
 T_icmp_lt (tgt := 241) dX9_shares_204 (by decide) (fun z52 =>
 T_iinc dX9_shares_241 rfl (ii_1 _) (by decide) rfl rfl <|
 T_goto (tgt := 158) dX9_shares_244 (by decide) <|
 T_mask [true, true, true, true, true, true, true, true, true, true, true, true, true, false, false] (((h.2 z54).2 z53).1 z52)) (fun z52 =>
 T_iload dX9_shares_207 rfl <|
 T_iload dX9_shares_209 rfl <|
 T_iadd dX9_shares_211 <|
 T_iload dX9_shares_212 rfl <|
 T_icmp_lt (tgt := 241) dX9_shares_214 (by decide) (fun z51 =>
 T_iinc dX9_shares_241 rfl (ii_1 _) (by decide) rfl rfl <|
 T_goto (tgt := 158) dX9_shares_244 (by decide) <|
 T_mask [true, true, true, true, true, true, true, true, true, true, true, true, true, false, false] ((((h.2 z54).2 z53).2 z52).1 z51)) (fun z51 =>
 T_iload dX9_shares_217 rfl <|
 T_if_ne (tgt := 227) dX9_shares_219 (by decide) (fun z50 =>
 T_iload dX9_shares_227 rfl <|
 T_iconst dX9_shares_229 ic_1 <|
 T_icmp_ne (tgt := 238) dX9_shares_230 (by decide) (fun z49 =>
 T_iload dX9_shares_238 rfl <|
 T_ireturn (ty := .int) dX9_shares_240 rfl rfl ((((((h.2 z54).2 z53).2 z52).2 z51).1 z50).1 z49)) (fun z49 =>
 T_iload dX9_shares_233 rfl <|
 T_goto (tgt := 240) dX9_shares_235 (by decide) <|
 T_ireturn (ty := .int) dX9_shares_240 rfl rfl ((((((h.2 z54).2 z53).2 z52).2 z51).1 z50).2 z49))) (fun z50 =>
 T_iload dX9_shares_222 rfl <|
 T_goto (tgt := 240) dX9_shares_224 (by decide) <|
 T_ireturn (ty := .int) dX9_shares_240 rfl rfl (((((h.2 z54).2 z53).2 z52).2 z51).2 z50))))))
theorem rX9_planks_0 {X : Nat × (Nat → Int32)} {a1 : Int32} {M : Mem} {Q : Option PV → Mem → Prop} (h : TT X kX9_isWalker 0 [some (pR (9, 0, 0)), some (pI a1)] [] (mset M 9 0 0 0 0) (rI fun v2 M1 => (¬ v2 = 0 → TT X kX9_layNow 0 [some (pR (9, 0, 0)), none] [] M1 (rV fun M3 => TT X kX9_planks 22 [some (pR (9, 0, 0)), some (pI a1), some (pI 0)] [] M3 Q)) ∧ (v2 = 0 → Q (some (pI (-1000001))) M1))) : TT X kX9_planks 0 [some (pR (9, 0, 0)), some (pI a1), none] [] M Q :=
 T_aload_n dX9_planks_0 rfl <|
 T_iconst dX9_planks_1 ic_0 <|
 T_putI (C := RX9) (T := TX9) (N := 31) (f := 0) dX9_planks_2 c_9_0_0 rfl (by decide) wf_X9_59 rfl rfl rfl <|
 T_aload_n dX9_planks_5 rfl <|
 T_iload_n dX9_planks_6 rfl <|
 T_callVi (k' := kX9_isWalker) (vs := [pI a1]) (st := []) dX9_planks_7 wm_X9_212 okX9_isWalker rfl c_9_0_0 rfl rfl rfl (Nat.le_of_ble_eq_true rfl) rfl (Nat.le_of_ble_eq_true rfl) (TT.mono h (rI_mono (fun v2 M1 h7 =>
 T_if_ne (tgt := 16) dX9_planks_10 (by decide) (fun z6 =>
 T_aload_n dX9_planks_16 rfl <|
 T_callVv (k' := kX9_layNow) (vs := []) (st := []) dX9_planks_17 wm_X9_215 okX9_layNow rfl c_9_0_0 rfl rfl rfl (Nat.le_of_ble_eq_true rfl) rfl (Nat.le_of_ble_eq_true rfl) (TT.mono (h7.1 z6) (rV_mono (fun M3 h5 =>
 T_iconst dX9_planks_20 ic_0 <|
 T_istore_n dX9_planks_21 (by decide) rfl rfl <|
 h5)))) (fun z6 =>
 T_ldc dX9_planks_13 wc_X9_79 <|
 T_ireturn (ty := .int) dX9_planks_15 rfl rfl (h7.2 z6)))))
theorem rX9_planks_22 {X : Nat × (Nat → Int32)} {b1 : Int32} {b2 : Int32} {M : Mem} {Q : Option PV → Mem → Prop} (h : ((M 9 0 6 0) ≤ b2 → TT X kX9_layWay 0 [some (pR (9, 0, 0)), some (pI b1), none] [] M (rV fun M8 => TT X kX9_hasWay 0 [some (pR (9, 0, 0))] [] M8 (rI fun v11 M10 => (v11 = 0 → Q (some (pI (-1000000))) M10) ∧ (¬ v11 = 0 → Q (some (pI (M10 9 0 23 0))) M10)))) ∧ (¬ (M 9 0 6 0) ≤ b2 → vp_in b2 18 ∧ (((M 9 0 22 (Int32.toNatClampNeg b2)) ≤ 0 → vp_in b2 18 ∧ (TT X kX9_planks 22 [some (pR (9, 0, 0)), some (pI b1), some (pI (b2 + 1))] [] (mset M 9 0 22 (Int32.toNatClampNeg b2) 0) Q)) ∧ (¬ (M 9 0 22 (Int32.toNatClampNeg b2)) ≤ 0 → vp_in b2 18 ∧ (TT X kX9_planks 22 [some (pR (9, 0, 0)), some (pI b1), some (pI (b2 + 1))] [] (mset M 9 0 22 (Int32.toNatClampNeg b2) 1) Q))))) : TT X kX9_planks 22 [some (pR (9, 0, 0)), some (pI b1), some (pI b2)] [] M Q :=
 T_iload_n dX9_planks_22 rfl <|
 T_aload_n dX9_planks_23 rfl <|
 T_getR (C := RX9) (T := TX9) (N := 31) (f := 5) dX9_planks_24 c_9_0_0 rfl (by decide) wf_X9_19 rfl <|
 T_iconst dX9_planks_27 ic_0 <|
 T_ialdN (n := 80) dX9_planks_28 c_9_0_6 (by decide) (by decide) (by decide) rfl vi_0_80 tn_0 <|
 T_icmp_ge (tgt := 58) dX9_planks_29 (by decide) (fun z16 =>
 T_aload_n dX9_planks_58 rfl <|
 T_iload_n dX9_planks_59 rfl <|
 T_callVv (k' := kX9_layWay) (vs := [pI b1]) (st := []) dX9_planks_60 wm_X9_218 okX9_layWay rfl c_9_0_0 rfl rfl rfl (Nat.le_of_ble_eq_true rfl) rfl (Nat.le_of_ble_eq_true rfl) (TT.mono (h.1 z16) (rV_mono (fun M8 h14 =>
 T_aload_n dX9_planks_63 rfl <|
 T_callVi (k' := kX9_hasWay) (vs := []) (st := []) dX9_planks_64 wm_X9_205 okX9_hasWay rfl c_9_0_0 rfl rfl rfl (Nat.le_of_ble_eq_true rfl) rfl (Nat.le_of_ble_eq_true rfl) (TT.mono h14 (rI_mono (fun v11 M10 h13 =>
 T_if_eq (tgt := 79) dX9_planks_67 (by decide) (fun z12 =>
 T_ldc dX9_planks_79 wc_X9_95 <|
 T_ireturn (ty := .int) dX9_planks_81 rfl rfl (h13.1 z12)) (fun z12 =>
 T_aload_n dX9_planks_70 rfl <|
 T_getR (C := RX9) (T := TX9) (N := 31) (f := 22) dX9_planks_71 c_9_0_0 rfl (by decide) wf_X9_37 rfl <|
 T_iconst dX9_planks_74 ic_0 <|
 T_ialdN (n := 19) dX9_planks_75 c_9_0_23 (by decide) (by decide) (by decide) rfl vi_0_19 tn_0 <|
 T_goto (tgt := 81) dX9_planks_76 (by decide) <|
 T_ireturn (ty := .int) dX9_planks_81 rfl rfl (h13.2 z12))))))))) (fun z16 =>
 T_aload_n dX9_planks_32 rfl <|
 T_getR (C := RX9) (T := TX9) (N := 31) (f := 21) dX9_planks_33 c_9_0_0 rfl (by decide) wf_X9_34 rfl <|
 T_iload_n dX9_planks_36 rfl <|
 T_aload_n dX9_planks_37 rfl <|
 T_getR (C := RX9) (T := TX9) (N := 31) (f := 21) dX9_planks_38 c_9_0_0 rfl (by decide) wf_X9_34 rfl <|
 T_iload_n dX9_planks_41 rfl <|
 T_iald (n := 18) dX9_planks_42 c_9_0_22 (by decide) (by decide) (by decide) rfl (h.2 z16).1 <|
 T_if_le (tgt := 50) dX9_planks_43 (by decide) (fun z15 =>
 T_iconst dX9_planks_50 ic_0 <|
 T_iast (n := 18) dX9_planks_51 c_9_0_22 (by decide) (by decide) (by decide) rfl ((h.2 z16).2.1 z15).1 <|
 T_iinc dX9_planks_52 rfl (ii_1 _) (by decide) rfl rfl <|
 T_goto (tgt := 22) dX9_planks_55 (by decide) <|
 ((h.2 z16).2.1 z15).2) (fun z15 =>
 T_iconst dX9_planks_46 ic_1 <|
 T_goto (tgt := 51) dX9_planks_47 (by decide) <|
 T_iast (n := 18) dX9_planks_51 c_9_0_22 (by decide) (by decide) (by decide) rfl ((h.2 z16).2.2 z15).1 <|
 T_iinc dX9_planks_52 rfl (ii_1 _) (by decide) rfl rfl <|
 T_goto (tgt := 22) dX9_planks_55 (by decide) <|
 ((h.2 z16).2.2 z15).2))
theorem rX9_mean_0 {X : Nat × (Nat → Int32)} {a1 : Int32} {a2 : Int32} {M : Mem} {Q : Option PV → Mem → Prop} (h : (¬ ((mset M 9 0 0 0 0) 9 0 0 7) = 0 → TT X kX9_isOwner 0 [some (pI a1)] [] (mset M 9 0 0 0 0) (rI fun v2 M1 => (v2 = 0 → Q (some (pI (-1000001))) M1) ∧ (¬ v2 = 0 → TT X kX9_in 0 [some (pL (Int32.toInt64 a2)), none, some (pL 0), none, some (pL 1), none] [] M1 (rI fun v4 M3 => (¬ v4 = 0 → TT X kX9_mean 40 [some (pR (9, 0, 0)), some (pI a1), some (pI a2), some (pI 0), some (pI 0), none, none, none] [] M3 Q) ∧ (v4 = 0 → Q (some (pI (-1000001))) M3))))) ∧ (((mset M 9 0 0 0 0) 9 0 0 7) = 0 → Q (some (pI (-1000002))) (mset M 9 0 0 0 0))) : TT X kX9_mean 0 [some (pR (9, 0, 0)), some (pI a1), some (pI a2), none, none, none, none, none] [] M Q :=
 T_aload_n dX9_mean_0 rfl <|
 T_iconst dX9_mean_1 ic_0 <|
 T_putI (C := RX9) (T := TX9) (N := 31) (f := 0) dX9_mean_2 c_9_0_0 rfl (by decide) wf_X9_59 rfl rfl rfl <|
 T_aload_n dX9_mean_5 rfl <|
 T_getI (C := RX9) (T := TX9) (N := 31) (f := 7) dX9_mean_6 c_9_0_0 rfl (by decide) wf_X9_170 rfl <|
 T_if_ne (tgt := 15) dX9_mean_9 (by decide) (fun z9 =>
 T_iload_n dX9_mean_15 rfl <|
 T_callSi (k' := kX9_isOwner) (vs := [pI a1]) (st := []) dX9_mean_16 wm_X9_191 okX9_isOwner rfl rfl rfl (Nat.le_of_ble_eq_true rfl) rfl (Nat.le_of_ble_eq_true rfl) (TT.mono (h.1 z9) (rI_mono (fun v2 M1 h8 =>
 T_if_eq (tgt := 32) dX9_mean_19 (by decide) (fun z7 =>
 T_ldc dX9_mean_32 wc_X9_79 <|
 T_ireturn (ty := .int) dX9_mean_34 rfl rfl (h8.1 z7)) (fun z7 =>
 T_iload_n dX9_mean_22 rfl <|
 T_i2l dX9_mean_23 <|
 T_lconst dX9_mean_24 lc_0 <|
 T_lconst dX9_mean_25 lc_1 <|
 T_callSi (k' := kX9_in) (vs := [pL (Int32.toInt64 a2), pL 0, pL 1]) (st := []) dX9_mean_26 wm_X9_69 okX9_in rfl rfl rfl (Nat.le_of_ble_eq_true rfl) rfl (Nat.le_of_ble_eq_true rfl) (TT.mono (h8.2 z7) (rI_mono (fun v4 M3 h6 =>
 T_if_ne (tgt := 35) dX9_mean_29 (by decide) (fun z5 =>
 T_iconst dX9_mean_35 ic_0 <|
 T_istore_n dX9_mean_36 (by decide) rfl rfl <|
 T_iconst dX9_mean_37 ic_0 <|
 T_istore dX9_mean_38 (by decide) rfl rfl <|
 (h6.1 z5)) (fun z5 =>
 T_ldc dX9_mean_32 wc_X9_79 <|
 T_ireturn (ty := .int) dX9_mean_34 rfl rfl (h6.2 z5)))))))))) (fun z9 =>
 T_ldc dX9_mean_12 wc_X9_194 <|
 T_ireturn (ty := .int) dX9_mean_14 rfl rfl (h.2 z9))
theorem rX9_mean_40 {X : Nat × (Nat → Int32)} {b1 : Int32} {b2 : Int32} {b3 : Int32} {b4 : Int32} {M : Mem} {Q : Option PV → Mem → Prop} (h : ((M 9 0 6 1) ≤ b4 → (¬ b3 = 0 → TT X kX9_layNow 0 [some (pR (9, 0, 0)), none] [] M (rV fun M10 => TT X kX9_takenBy 0 [some (pR (9, 0, 0)), some (pI (1 <<< (b1 &&& 31))), none, none, none, none] [] M10 (rI fun v13 M12 => TT X kX9_mean 94 [some (pR (9, 0, 0)), some (pI b1), some (pI b2), some (pI b3), some (pI v13), some (pI v13), some (pI b3), none] [] M12 Q))) ∧ (b3 = 0 → Q (some (pI (-1000000))) M)) ∧ (¬ (M 9 0 6 1) ≤ b4 → TT X kX9_walker 0 [some (pR (9, 0, 0)), some (pI b4), some (pI 3)] [] M (rI fun v18 M17 => TT X kX9_mean 40 [some (pR (9, 0, 0)), some (pI b1), some (pI b2), some (pI (b3 + v18)), some (pI (b4 + 1)), none, none, none] [] M17 Q))) : TT X kX9_mean 40 [some (pR (9, 0, 0)), some (pI b1), some (pI b2), some (pI b3), some (pI b4), none, none, none] [] M Q :=
 T_iload dX9_mean_40 rfl <|
 T_aload_n dX9_mean_42 rfl <|
 T_getR (C := RX9) (T := TX9) (N := 31) (f := 5) dX9_mean_43 c_9_0_0 rfl (by decide) wf_X9_19 rfl <|
 T_iconst dX9_mean_46 ic_1 <|
 T_ialdN (n := 80) dX9_mean_47 c_9_0_6 (by decide) (by decide) (by decide) rfl vi_1_80 tn_1 <|
 T_icmp_ge (tgt := 67) dX9_mean_48 (by decide) (fun z20 =>
 T_iload_n dX9_mean_67 rfl <|
 T_if_ne (tgt := 74) dX9_mean_68 (by decide) (fun z16 =>
 T_aload_n dX9_mean_74 rfl <|
 T_callVv (k' := kX9_layNow) (vs := []) (st := []) dX9_mean_75 wm_X9_215 okX9_layNow rfl c_9_0_0 rfl rfl rfl (Nat.le_of_ble_eq_true rfl) rfl (Nat.le_of_ble_eq_true rfl) (TT.mono ((h.1 z20).1 z16) (rV_mono (fun M10 h15 =>
 T_aload_n dX9_mean_78 rfl <|
 T_iconst dX9_mean_79 ic_1 <|
 T_iload_n dX9_mean_80 rfl <|
 T_ishl dX9_mean_81 <|
 T_callVi (k' := kX9_takenBy) (vs := [pI (1 <<< (b1 &&& 31))]) (st := []) dX9_mean_82 wm_X9_224 okX9_takenBy rfl c_9_0_0 rfl rfl rfl (Nat.le_of_ble_eq_true rfl) rfl (Nat.le_of_ble_eq_true rfl) (TT.mono h15 (rI_mono (fun v13 M12 h14 =>
 T_istore dX9_mean_85 (by decide) rfl rfl <|
 T_iload dX9_mean_87 rfl <|
 T_istore dX9_mean_89 (by decide) rfl rfl <|
 T_iload_n dX9_mean_91 rfl <|
 T_istore dX9_mean_92 (by decide) rfl rfl <|
 h14))))))) (fun z16 =>
 T_ldc dX9_mean_71 wc_X9_95 <|
 T_ireturn (ty := .int) dX9_mean_73 rfl rfl ((h.1 z20).2 z16))) (fun z20 =>
 T_iload_n dX9_mean_51 rfl <|
 T_aload_n dX9_mean_52 rfl <|
 T_iload dX9_mean_53 rfl <|
 T_iconst dX9_mean_55 ic_3 <|
 T_callVi (k' := kX9_walker) (vs := [pI b4, pI 3]) (st := [pI b3]) dX9_mean_56 wm_X9_199 okX9_walker rfl c_9_0_0 rfl rfl rfl (Nat.le_of_ble_eq_true rfl) rfl (Nat.le_of_ble_eq_true rfl) (TT.mono (h.2 z20) (rI_mono (fun v18 M17 h19 =>
 T_iadd dX9_mean_59 <|
 T_istore_n dX9_mean_60 (by decide) rfl rfl <|
 T_iinc dX9_mean_61 rfl (ii_1 _) (by decide) rfl rfl <|
 T_goto (tgt := 40) dX9_mean_64 (by decide) <|
 h19))))
theorem rX9_mean_94 {X : Nat × (Nat → Int32)} {b1 : Int32} {b2 : Int32} {b3 : Int32} {b4 : Int32} {b5 : Int32} {b6 : Int32} {M : Mem} {Q : Option PV → Mem → Prop} (h : (b6 = 0 → (¬ b2 = 0 → ¬ b5 = 0 ∧ (Q (some (pI (b3 / b5))) M)) ∧ (b2 = 0 → ¬ b5 = 0 ∧ (Q (some (pI (b4 / b5))) M))) ∧ (¬ b6 = 0 → ¬ b6 = 0 ∧ (TT X kX9_mean 94 [some (pR (9, 0, 0)), some (pI b1), some (pI b2), some (pI b3), some (pI b4), some (pI b6), some (pI (b5 - b5 / b6 * b6)), none] [] M Q))) : TT X kX9_mean 94 [some (pR (9, 0, 0)), some (pI b1), some (pI b2), some (pI b3), some (pI b4), some (pI b5), some (pI b6), none] [] M Q :=
 T_iload dX9_mean_94 rfl <|
 T_if_eq (tgt := 117) dX9_mean_96 (by decide) (fun z22 =>
 T_iload_n dX9_mean_117 rfl <|
 T_if_ne (tgt := 126) dX9_mean_118 (by decide) (fun z21 =>
 T_iload_n dX9_mean_126 rfl <|
 T_iload dX9_mean_127 rfl <|
 T_idiv dX9_mean_129 ((h.1 z22).1 z21).1 <|
 T_ireturn (ty := .int) dX9_mean_130 rfl rfl ((h.1 z22).1 z21).2) (fun z21 =>
 T_iload dX9_mean_121 rfl <|
 T_goto (tgt := 127) dX9_mean_123 (by decide) <|
 T_iload dX9_mean_127 rfl <|
 T_idiv dX9_mean_129 ((h.1 z22).2 z21).1 <|
 T_ireturn (ty := .int) dX9_mean_130 rfl rfl ((h.1 z22).2 z21).2)) (fun z22 =>
 T_iload dX9_mean_99 rfl <|
 T_iload dX9_mean_101 rfl <|
 T_irem dX9_mean_103 (h.2 z22).1 <|
 T_istore dX9_mean_104 (by decide) rfl rfl <|
 T_iload dX9_mean_106 rfl <|
 T_istore dX9_mean_108 (by decide) rfl rfl <|
 T_iload dX9_mean_110 rfl <|
 T_istore dX9_mean_112 (by decide) rfl rfl <|
 T_goto (tgt := 94) dX9_mean_114 (by decide) <|
 T_mask [true, true, true, true, true, true, true, false] (h.2 z22).2)
theorem rX9_isJust_0 {X : Nat × (Nat → Int32)} {a1 : Int32} {a2 : Int32} {M : Mem} {Q : Option PV → Mem → Prop} (h : TT X kX9_hasWay 0 [some (pR (9, 0, 0))] [] M (rI fun v2 M1 => (v2 = 0 → TT X kX9_isJust 34 [some (pR (9, 0, 0)), some (pI a1), some (pI a2), some (pI 0), some (pI (M1 9 0 25 0)), some (pI 0)] [] M1 Q) ∧ (¬ v2 = 0 → (¬ (M1 9 0 24 0) = a2 → TT X kX9_isJust 34 [some (pR (9, 0, 0)), some (pI a1), some (pI a2), some (pI 0), some (pI (M1 9 0 25 0)), some (pI 0)] [] M1 Q) ∧ ((M1 9 0 24 0) = a2 → TT X kX9_isJust 34 [some (pR (9, 0, 0)), some (pI a1), some (pI a2), some (pI 1), some (pI (M1 9 0 25 0)), some (pI 0)] [] M1 Q)))) : TT X kX9_isJust 0 [some (pR (9, 0, 0)), some (pI a1), some (pI a2), none, none, none] [] M Q :=
 T_aload_n dX9_isJust_0 rfl <|
 T_callVi (k' := kX9_hasWay) (vs := []) (st := []) dX9_isJust_1 wm_X9_205 okX9_hasWay rfl c_9_0_0 rfl rfl rfl (Nat.le_of_ble_eq_true rfl) rfl (Nat.le_of_ble_eq_true rfl) (TT.mono h (rI_mono (fun v2 M1 h5 =>
 T_if_eq (tgt := 21) dX9_isJust_4 (by decide) (fun z4 =>
 T_iconst dX9_isJust_21 ic_0 <|
 T_istore_n dX9_isJust_22 (by decide) rfl rfl <|
 T_aload_n dX9_isJust_23 rfl <|
 T_getR (C := RX9) (T := TX9) (N := 31) (f := 24) dX9_isJust_24 c_9_0_0 rfl (by decide) wf_X9_43 rfl <|
 T_iconst dX9_isJust_27 ic_0 <|
 T_ialdN (n := 19) dX9_isJust_28 c_9_0_25 (by decide) (by decide) (by decide) rfl vi_0_19 tn_0 <|
 T_istore dX9_isJust_29 (by decide) rfl rfl <|
 T_iconst dX9_isJust_31 ic_0 <|
 T_istore dX9_isJust_32 (by decide) rfl rfl <|
 (h5.1 z4)) (fun z4 =>
 T_aload_n dX9_isJust_7 rfl <|
 T_getR (C := RX9) (T := TX9) (N := 31) (f := 23) dX9_isJust_8 c_9_0_0 rfl (by decide) wf_X9_40 rfl <|
 T_iconst dX9_isJust_11 ic_0 <|
 T_ialdN (n := 19) dX9_isJust_12 c_9_0_24 (by decide) (by decide) (by decide) rfl vi_0_19 tn_0 <|
 T_iload_n dX9_isJust_13 rfl <|
 T_icmp_ne (tgt := 21) dX9_isJust_14 (by decide) (fun z3 =>
 T_iconst dX9_isJust_21 ic_0 <|
 T_istore_n dX9_isJust_22 (by decide) rfl rfl <|
 T_aload_n dX9_isJust_23 rfl <|
 T_getR (C := RX9) (T := TX9) (N := 31) (f := 24) dX9_isJust_24 c_9_0_0 rfl (by decide) wf_X9_43 rfl <|
 T_iconst dX9_isJust_27 ic_0 <|
 T_ialdN (n := 19) dX9_isJust_28 c_9_0_25 (by decide) (by decide) (by decide) rfl vi_0_19 tn_0 <|
 T_istore dX9_isJust_29 (by decide) rfl rfl <|
 T_iconst dX9_isJust_31 ic_0 <|
 T_istore dX9_isJust_32 (by decide) rfl rfl <|
 ((h5.2 z4).1 z3)) (fun z3 =>
 T_iconst dX9_isJust_17 ic_1 <|
 T_goto (tgt := 22) dX9_isJust_18 (by decide) <|
 T_istore_n dX9_isJust_22 (by decide) rfl rfl <|
 T_aload_n dX9_isJust_23 rfl <|
 T_getR (C := RX9) (T := TX9) (N := 31) (f := 24) dX9_isJust_24 c_9_0_0 rfl (by decide) wf_X9_43 rfl <|
 T_iconst dX9_isJust_27 ic_0 <|
 T_ialdN (n := 19) dX9_isJust_28 c_9_0_25 (by decide) (by decide) (by decide) rfl vi_0_19 tn_0 <|
 T_istore dX9_isJust_29 (by decide) rfl rfl <|
 T_iconst dX9_isJust_31 ic_0 <|
 T_istore dX9_isJust_32 (by decide) rfl rfl <|
 ((h5.2 z4).2 z3))))))
theorem rX9_isJust_34 {X : Nat × (Nat → Int32)} {b1 : Int32} {b2 : Int32} {b3 : Int32} {b4 : Int32} {b5 : Int32} {M : Mem} {Q : Option PV → Mem → Prop} (h : (b2 ≤ b5 → (b3 = 0 ∨ b3 = 1) ∧ Q (some (pI b3)) M) ∧ (¬ b2 ≤ b5 → (b3 = 0 → (b3 = 0 ∨ b3 = 1) ∧ Q (some (pI b3)) M) ∧ (¬ b3 = 0 → vp_in (b1 + b5) 320 ∧ ((¬ b4 = (M 9 0 5 (Int32.toNatClampNeg (b1 + b5))) → TT X kX9_isJust 34 [some (pR (9, 0, 0)), some (pI b1), some (pI b2), some (pI 0), some (pI b4), some (pI (b5 + 1))] [] M Q) ∧ (b4 = (M 9 0 5 (Int32.toNatClampNeg (b1 + b5))) → vp_in (b4 + 1) 19 ∧ (TT X kX9_isJust 34 [some (pR (9, 0, 0)), some (pI b1), some (pI b2), some (pI 1), some (pI (M 9 0 25 (Int32.toNatClampNeg (b4 + 1)))), some (pI (b5 + 1))] [] M Q)))))) : TT X kX9_isJust 34 [some (pR (9, 0, 0)), some (pI b1), some (pI b2), some (pI b3), some (pI b4), some (pI b5)] [] M Q :=
 T_iload dX9_isJust_34 rfl <|
 T_iload_n dX9_isJust_36 rfl <|
 T_icmp_ge (tgt := 90) dX9_isJust_37 (by decide) (fun z8 =>
 T_iload_n dX9_isJust_90 rfl <|
 T_ireturn (ty := .boolean) dX9_isJust_91 rfl (nz_b (h.1 z8).1) (h.1 z8).2) (fun z8 =>
 T_iload_n dX9_isJust_40 rfl <|
 T_if_eq (tgt := 90) dX9_isJust_41 (by decide) (fun z7 =>
 T_iload_n dX9_isJust_90 rfl <|
 T_ireturn (ty := .boolean) dX9_isJust_91 rfl (nz_b ((h.2 z8).1 z7).1) ((h.2 z8).1 z7).2) (fun z7 =>
 T_iload dX9_isJust_44 rfl <|
 T_aload_n dX9_isJust_46 rfl <|
 T_getR (C := RX9) (T := TX9) (N := 31) (f := 4) dX9_isJust_47 c_9_0_0 rfl (by decide) wf_X9_16 rfl <|
 T_iload_n dX9_isJust_50 rfl <|
 T_iload dX9_isJust_51 rfl <|
 T_iadd dX9_isJust_53 <|
 T_iald (n := 320) dX9_isJust_54 c_9_0_5 (by decide) (by decide) (by decide) rfl ((h.2 z8).2 z7).1 <|
 T_icmp_ne (tgt := 62) dX9_isJust_55 (by decide) (fun z6 =>
 T_iconst dX9_isJust_62 ic_0 <|
 T_istore_n dX9_isJust_63 (by decide) rfl rfl <|
 T_iload_n dX9_isJust_64 rfl <|
 T_if_eq (tgt := 80) dX9_isJust_65 (by decide) (fun _ =>
 T_iload dX9_isJust_80 rfl <|
 T_istore dX9_isJust_82 (by decide) rfl rfl <|
 T_iinc dX9_isJust_84 rfl (ii_1 _) (by decide) rfl rfl <|
 T_goto (tgt := 34) dX9_isJust_87 (by decide) <|
 (((h.2 z8).2 z7).2.1 z6)) (fun z => absurd z (by decide))) (fun z6 =>
 T_iconst dX9_isJust_58 ic_1 <|
 T_goto (tgt := 63) dX9_isJust_59 (by decide) <|
 T_istore_n dX9_isJust_63 (by decide) rfl rfl <|
 T_iload_n dX9_isJust_64 rfl <|
 T_if_eq (tgt := 80) dX9_isJust_65 (by decide) (fun z => absurd z (by decide)) (fun _ =>
 T_aload_n dX9_isJust_68 rfl <|
 T_getR (C := RX9) (T := TX9) (N := 31) (f := 24) dX9_isJust_69 c_9_0_0 rfl (by decide) wf_X9_43 rfl <|
 T_iload dX9_isJust_72 rfl <|
 T_iconst dX9_isJust_74 ic_1 <|
 T_iadd dX9_isJust_75 <|
 T_iald (n := 19) dX9_isJust_76 c_9_0_25 (by decide) (by decide) (by decide) rfl (((h.2 z8).2 z7).2.2 z6).1 <|
 T_goto (tgt := 82) dX9_isJust_77 (by decide) <|
 T_istore dX9_isJust_82 (by decide) rfl rfl <|
 T_iinc dX9_isJust_84 rfl (ii_1 _) (by decide) rfl rfl <|
 T_goto (tgt := 34) dX9_isJust_87 (by decide) <|
 (((h.2 z8).2 z7).2.2 z6).2))))
theorem rX9_asked_0 {X : Nat × (Nat → Int32)} {a1 : Int32} {a2 : Int32} {a3 : Int32} {a4 : Int32} {a5 : Int32} {a6 : Int32} {M : Mem} {Q : Option PV → Mem → Prop} (h : TT X kX9_isWalker 0 [some (pR (9, 0, 0)), some (pI a1)] [] (mset M 9 0 0 0 0) (rI fun v2 M1 => (v2 = 0 → Q (some (pI (-1000001))) M1) ∧ (¬ v2 = 0 → TT X kX9_isRow 0 [some (pI a2)] [] M1 (rI fun v4 M3 => (v4 = 0 → Q (some (pI (-1000001))) M3) ∧ (¬ v4 = 0 → TT X kX9_in 0 [some (pL (Int32.toInt64 a3)), none, some (pL 1), none, some (pL 18), none] [] M3 (rI fun v6 M5 => (v6 = 0 → Q (some (pI (-1000001))) M5) ∧ (¬ v6 = 0 → TT X kX9_in 0 [some (pL (Int32.toInt64 a4)), none, some (pL 0), none, some (pL (Int32.toInt64 (a3 - 1))), none] [] M5 (rI fun v8 M7 => (v8 = 0 → Q (some (pI (-1000001))) M7) ∧ (¬ v8 = 0 → TT X kX9_in 0 [some (pL (Int32.toInt64 a5)), none, some (pL 0), none, some (pL 9999), none] [] M7 (rI fun v10 M9 => (v10 = 0 → Q (some (pI (-1000001))) M9) ∧ (¬ v10 = 0 → TT X kX9_in 0 [some (pL (Int32.toInt64 a6)), none, some (pL 0), none, some (pL 1), none] [] M9 (rI fun v12 M11 => (¬ v12 = 0 → vp_in a2 8 ∧ ((0 ≤ (M11 9 0 3 (Int32.toNatClampNeg a2)) → vp_in a2 8 ∧ ((a3 ≤ (M11 9 0 4 (Int32.toNatClampNeg a2)) → TT X kX9_asked 107 [some (pR (9, 0, 0)), some (pI a1), some (pI a2), some (pI a3), some (pI a4), some (pI a5), some (pI a6), some (pI 0), none, none] [] M11 Q) ∧ (¬ a3 ≤ (M11 9 0 4 (Int32.toNatClampNeg a2)) → TT X kX9_finding 0 [some (pR (9, 0, 0)), some (pI 2)] [] M11 (rI fun v14 M13 => Q (some (pI v14)) M13)))) ∧ (¬ 0 ≤ (M11 9 0 3 (Int32.toNatClampNeg a2)) → TT X kX9_finding 0 [some (pR (9, 0, 0)), some (pI 1)] [] M11 (rI fun v18 M17 => Q (some (pI v18)) M17)))) ∧ (v12 = 0 → Q (some (pI (-1000001))) M11))))))))))))) : TT X kX9_asked 0 [some (pR (9, 0, 0)), some (pI a1), some (pI a2), some (pI a3), some (pI a4), some (pI a5), some (pI a6), none, none, none] [] M Q :=
 T_aload_n dX9_asked_0 rfl <|
 T_iconst dX9_asked_1 ic_0 <|
 T_putI (C := RX9) (T := TX9) (N := 31) (f := 0) dX9_asked_2 c_9_0_0 rfl (by decide) wf_X9_59 rfl rfl rfl <|
 T_aload_n dX9_asked_5 rfl <|
 T_iload_n dX9_asked_6 rfl <|
 T_callVi (k' := kX9_isWalker) (vs := [pI a1]) (st := []) dX9_asked_7 wm_X9_212 okX9_isWalker rfl c_9_0_0 rfl rfl rfl (Nat.le_of_ble_eq_true rfl) rfl (Nat.le_of_ble_eq_true rfl) (TT.mono h (rI_mono (fun v2 M1 h32 =>
 T_if_eq (tgt := 70) dX9_asked_10 (by decide) (fun z31 =>
 T_ldc dX9_asked_70 wc_X9_79 <|
 T_ireturn (ty := .int) dX9_asked_72 rfl rfl (h32.1 z31)) (fun z31 =>
 T_iload_n dX9_asked_13 rfl <|
 T_callSi (k' := kX9_isRow) (vs := [pI a2]) (st := []) dX9_asked_14 wm_X9_73 okX9_isRow rfl rfl rfl (Nat.le_of_ble_eq_true rfl) rfl (Nat.le_of_ble_eq_true rfl) (TT.mono (h32.2 z31) (rI_mono (fun v4 M3 h30 =>
 T_if_eq (tgt := 70) dX9_asked_17 (by decide) (fun z29 =>
 T_ldc dX9_asked_70 wc_X9_79 <|
 T_ireturn (ty := .int) dX9_asked_72 rfl rfl (h30.1 z29)) (fun z29 =>
 T_iload_n dX9_asked_20 rfl <|
 T_i2l dX9_asked_21 <|
 T_lconst dX9_asked_22 lc_1 <|
 T_ldc2 dX9_asked_23 wl_X9_249 <|
 T_callSi (k' := kX9_in) (vs := [pL (Int32.toInt64 a3), pL 1, pL 18]) (st := []) dX9_asked_26 wm_X9_69 okX9_in rfl rfl rfl (Nat.le_of_ble_eq_true rfl) rfl (Nat.le_of_ble_eq_true rfl) (TT.mono (h30.2 z29) (rI_mono (fun v6 M5 h28 =>
 T_if_eq (tgt := 70) dX9_asked_29 (by decide) (fun z27 =>
 T_ldc dX9_asked_70 wc_X9_79 <|
 T_ireturn (ty := .int) dX9_asked_72 rfl rfl (h28.1 z27)) (fun z27 =>
 T_iload dX9_asked_32 rfl <|
 T_i2l dX9_asked_34 <|
 T_lconst dX9_asked_35 lc_0 <|
 T_iload_n dX9_asked_36 rfl <|
 T_iconst dX9_asked_37 ic_1 <|
 T_isub dX9_asked_38 <|
 T_i2l dX9_asked_39 <|
 T_callSi (k' := kX9_in) (vs := [pL (Int32.toInt64 a4), pL 0, pL (Int32.toInt64 (a3 - 1))]) (st := []) dX9_asked_40 wm_X9_69 okX9_in rfl rfl rfl (Nat.le_of_ble_eq_true rfl) rfl (Nat.le_of_ble_eq_true rfl) (TT.mono (h28.2 z27) (rI_mono (fun v8 M7 h26 =>
 T_if_eq (tgt := 70) dX9_asked_43 (by decide) (fun z25 =>
 T_ldc dX9_asked_70 wc_X9_79 <|
 T_ireturn (ty := .int) dX9_asked_72 rfl rfl (h26.1 z25)) (fun z25 =>
 T_iload dX9_asked_46 rfl <|
 T_i2l dX9_asked_48 <|
 T_lconst dX9_asked_49 lc_0 <|
 T_ldc2 dX9_asked_50 wl_X9_251 <|
 T_callSi (k' := kX9_in) (vs := [pL (Int32.toInt64 a5), pL 0, pL 9999]) (st := []) dX9_asked_53 wm_X9_69 okX9_in rfl rfl rfl (Nat.le_of_ble_eq_true rfl) rfl (Nat.le_of_ble_eq_true rfl) (TT.mono (h26.2 z25) (rI_mono (fun v10 M9 h24 =>
 T_if_eq (tgt := 70) dX9_asked_56 (by decide) (fun z23 =>
 T_ldc dX9_asked_70 wc_X9_79 <|
 T_ireturn (ty := .int) dX9_asked_72 rfl rfl (h24.1 z23)) (fun z23 =>
 T_iload dX9_asked_59 rfl <|
 T_i2l dX9_asked_61 <|
 T_lconst dX9_asked_62 lc_0 <|
 T_lconst dX9_asked_63 lc_1 <|
 T_callSi (k' := kX9_in) (vs := [pL (Int32.toInt64 a6), pL 0, pL 1]) (st := []) dX9_asked_64 wm_X9_69 okX9_in rfl rfl rfl (Nat.le_of_ble_eq_true rfl) rfl (Nat.le_of_ble_eq_true rfl) (TT.mono (h24.2 z23) (rI_mono (fun v12 M11 h22 =>
 T_if_ne (tgt := 73) dX9_asked_67 (by decide) (fun z21 =>
 T_aload_n dX9_asked_73 rfl <|
 T_getR (C := RX9) (T := TX9) (N := 31) (f := 2) dX9_asked_74 c_9_0_0 rfl (by decide) wf_X9_7 rfl <|
 T_iload_n dX9_asked_77 rfl <|
 T_iald (n := 8) dX9_asked_78 c_9_0_3 (by decide) (by decide) (by decide) rfl (h22.1 z21).1 <|
 T_if_ge (tgt := 88) dX9_asked_79 (by decide) (fun z20 =>
 T_iload_n dX9_asked_88 rfl <|
 T_aload_n dX9_asked_89 rfl <|
 T_getR (C := RX9) (T := TX9) (N := 31) (f := 3) dX9_asked_90 c_9_0_0 rfl (by decide) wf_X9_13 rfl <|
 T_iload_n dX9_asked_93 rfl <|
 T_iald (n := 8) dX9_asked_94 c_9_0_4 (by decide) (by decide) (by decide) rfl ((h22.1 z21).2.1 z20).1 <|
 T_icmp_le (tgt := 104) dX9_asked_95 (by decide) (fun z16 =>
 T_iconst dX9_asked_104 ic_0 <|
 T_istore dX9_asked_105 (by decide) rfl rfl <|
 (((h22.1 z21).2.1 z20).2.1 z16)) (fun z16 =>
 T_aload_n dX9_asked_98 rfl <|
 T_iconst dX9_asked_99 ic_2 <|
 T_callVi (k' := kX9_finding) (vs := [pI 2]) (st := []) dX9_asked_100 wm_X9_80 okX9_finding rfl c_9_0_0 rfl rfl rfl (Nat.le_of_ble_eq_true rfl) rfl (Nat.le_of_ble_eq_true rfl) (TT.mono (((h22.1 z21).2.1 z20).2.2 z16) (rI_mono (fun v14 M13 h15 =>
 T_ireturn (ty := .int) dX9_asked_103 rfl rfl h15))))) (fun z20 =>
 T_aload_n dX9_asked_82 rfl <|
 T_iconst dX9_asked_83 ic_1 <|
 T_callVi (k' := kX9_finding) (vs := [pI 1]) (st := []) dX9_asked_84 wm_X9_80 okX9_finding rfl c_9_0_0 rfl rfl rfl (Nat.le_of_ble_eq_true rfl) rfl (Nat.le_of_ble_eq_true rfl) (TT.mono ((h22.1 z21).2.2 z20) (rI_mono (fun v18 M17 h19 =>
 T_ireturn (ty := .int) dX9_asked_87 rfl rfl h19))))) (fun z21 =>
 T_ldc dX9_asked_70 wc_X9_79 <|
 T_ireturn (ty := .int) dX9_asked_72 rfl rfl (h22.2 z21)))))))))))))))))))))))))
theorem rX9_asked_107 {X : Nat × (Nat → Int32)} {b1 : Int32} {b2 : Int32} {b3 : Int32} {b4 : Int32} {b5 : Int32} {b6 : Int32} {b7 : Int32} {M : Mem} {Q : Option PV → Mem → Prop} (h : (b3 ≤ b7 → TT X kX9_layNow 0 [some (pR (9, 0, 0)), none] [] (mset M 9 0 0 1 0) (rV fun M33 => TT X kX9_asked 195 [some (pR (9, 0, 0)), some (pI b1), some (pI b2), some (pI b3), some (pI b4), some (pI b5), some (pI b6), some (pI 0), some (pI (-1000000)), some (pI 20)] [] M33 Q)) ∧ (¬ b3 ≤ b7 → vp_in ((40 * b2) + b7) 320 ∧ (TT X kX9_isStep 0 [some (pR (9, 0, 0)), some (pI (M 9 0 5 (Int32.toNatClampNeg ((40 * b2) + b7))))] [] M (rI fun v37 M36 => (v37 = 0 → Q (some (pI (-1000001))) M36) ∧ (¬ v37 = 0 → (b7 ≤ 0 → TT X kX9_asked 107 [some (pR (9, 0, 0)), some (pI b1), some (pI b2), some (pI b3), some (pI b4), some (pI b5), some (pI b6), some (pI (b7 + 1)), none, none] [] M36 Q) ∧ (¬ b7 ≤ 0 → vp_in ((40 * b2) + b7) 320 ∧ (vp_in (((40 * b2) + b7) - 1) 320 ∧ (((M36 9 0 5 (Int32.toNatClampNeg (((40 * b2) + b7) - 1))) < (M36 9 0 5 (Int32.toNatClampNeg ((40 * b2) + b7))) → TT X kX9_asked 107 [some (pR (9, 0, 0)), some (pI b1), some (pI b2), some (pI b3), some (pI b4), some (pI b5), some (pI b6), some (pI (b7 + 1)), none, none] [] M36 Q) ∧ (¬ (M36 9 0 5 (Int32.toNatClampNeg (((40 * b2) + b7) - 1))) < (M36 9 0 5 (Int32.toNatClampNeg ((40 * b2) + b7))) → Q (some (pI (-1000001))) M36))))))))) : TT X kX9_asked 107 [some (pR (9, 0, 0)), some (pI b1), some (pI b2), some (pI b3), some (pI b4), some (pI b5), some (pI b6), some (pI b7), none, none] [] M Q :=
 T_iload dX9_asked_107 rfl <|
 T_iload_n dX9_asked_109 rfl <|
 T_icmp_ge (tgt := 175) dX9_asked_110 (by decide) (fun z42 =>
 T_aload_n dX9_asked_175 rfl <|
 T_iconst dX9_asked_176 ic_0 <|
 T_putI (C := RX9) (T := TX9) (N := 31) (f := 1) dX9_asked_177 c_9_0_0 rfl (by decide) wf_X9_63 rfl rfl rfl <|
 T_aload_n dX9_asked_180 rfl <|
 T_callVv (k' := kX9_layNow) (vs := []) (st := []) dX9_asked_181 wm_X9_215 okX9_layNow rfl c_9_0_0 rfl rfl rfl (Nat.le_of_ble_eq_true rfl) rfl (Nat.le_of_ble_eq_true rfl) (TT.mono (h.1 z42) (rV_mono (fun M33 h35 =>
 T_iconst dX9_asked_184 ic_0 <|
 T_istore dX9_asked_185 (by decide) rfl rfl <|
 T_ldc dX9_asked_187 wc_X9_95 <|
 T_istore dX9_asked_189 (by decide) rfl rfl <|
 T_bipush dX9_asked_191 bp_20 <|
 T_istore dX9_asked_193 (by decide) rfl rfl <|
 h35)))) (fun z42 =>
 T_aload_n dX9_asked_113 rfl <|
 T_aload_n dX9_asked_114 rfl <|
 T_getR (C := RX9) (T := TX9) (N := 31) (f := 4) dX9_asked_115 c_9_0_0 rfl (by decide) wf_X9_16 rfl <|
 T_bipush dX9_asked_118 bp_40 <|
 T_iload_n dX9_asked_120 rfl <|
 T_imul dX9_asked_121 <|
 T_iload dX9_asked_122 rfl <|
 T_iadd dX9_asked_124 <|
 T_iald (n := 320) dX9_asked_125 c_9_0_5 (by decide) (by decide) (by decide) rfl (h.2 z42).1 <|
 T_callVi (k' := kX9_isStep) (vs := [pI (M 9 0 5 (Int32.toNatClampNeg ((40 * b2) + b7)))]) (st := []) dX9_asked_126 wm_X9_182 okX9_isStep rfl c_9_0_0 rfl rfl rfl (Nat.le_of_ble_eq_true rfl) rfl (Nat.le_of_ble_eq_true rfl) (TT.mono (h.2 z42).2 (rI_mono (fun v37 M36 h41 =>
 T_if_eq (tgt := 166) dX9_asked_129 (by decide) (fun z40 =>
 T_ldc dX9_asked_166 wc_X9_79 <|
 T_ireturn (ty := .int) dX9_asked_168 rfl rfl (h41.1 z40)) (fun z40 =>
 T_iload dX9_asked_132 rfl <|
 T_if_le (tgt := 169) dX9_asked_134 (by decide) (fun z39 =>
 T_iinc dX9_asked_169 rfl (ii_1 _) (by decide) rfl rfl <|
 T_goto (tgt := 107) dX9_asked_172 (by decide) <|
 ((h41.2 z40).1 z39)) (fun z39 =>
 T_aload_n dX9_asked_137 rfl <|
 T_getR (C := RX9) (T := TX9) (N := 31) (f := 4) dX9_asked_138 c_9_0_0 rfl (by decide) wf_X9_16 rfl <|
 T_bipush dX9_asked_141 bp_40 <|
 T_iload_n dX9_asked_143 rfl <|
 T_imul dX9_asked_144 <|
 T_iload dX9_asked_145 rfl <|
 T_iadd dX9_asked_147 <|
 T_iald (n := 320) dX9_asked_148 c_9_0_5 (by decide) (by decide) (by decide) rfl ((h41.2 z40).2 z39).1 <|
 T_aload_n dX9_asked_149 rfl <|
 T_getR (C := RX9) (T := TX9) (N := 31) (f := 4) dX9_asked_150 c_9_0_0 rfl (by decide) wf_X9_16 rfl <|
 T_bipush dX9_asked_153 bp_40 <|
 T_iload_n dX9_asked_155 rfl <|
 T_imul dX9_asked_156 <|
 T_iload dX9_asked_157 rfl <|
 T_iadd dX9_asked_159 <|
 T_iconst dX9_asked_160 ic_1 <|
 T_isub dX9_asked_161 <|
 T_iald (n := 320) dX9_asked_162 c_9_0_5 (by decide) (by decide) (by decide) rfl ((h41.2 z40).2 z39).2.1 <|
 T_icmp_gt (tgt := 169) dX9_asked_163 (by decide) (fun z38 =>
 T_iinc dX9_asked_169 rfl (ii_1 _) (by decide) rfl rfl <|
 T_goto (tgt := 107) dX9_asked_172 (by decide) <|
 (((h41.2 z40).2 z39).2.2.1 z38)) (fun z38 =>
 T_ldc dX9_asked_166 wc_X9_79 <|
 T_ireturn (ty := .int) dX9_asked_168 rfl rfl (((h41.2 z40).2 z39).2.2.2 z38))))))))
theorem rX9_asked_195 {X : Nat × (Nat → Int32)} {b1 : Int32} {b2 : Int32} {b3 : Int32} {b4 : Int32} {b5 : Int32} {b6 : Int32} {b7 : Int32} {b8 : Int32} {b9 : Int32} {M : Mem} {Q : Option PV → Mem → Prop} (h : (b9 < 0 → (¬ b6 = 0 → Q (some (pI b8)) M) ∧ (b6 = 0 → Q (some (pI b7)) M)) ∧ (¬ b9 < 0 → vp_in ((40 * b2) + b4) 320 ∧ (vp_in (M 9 0 5 (Int32.toNatClampNeg ((40 * b2) + b4))) 18 ∧ (TT X kX9_layWay 0 [some (pR (9, 0, 0)), some (pI b1), none] [] (mset M 9 0 22 (Int32.toNatClampNeg (M 9 0 5 (Int32.toNatClampNeg ((40 * b2) + b4)))) b9) (rV fun M44 => TT X kX9_isJust 0 [some (pR (9, 0, 0)), some (pI (40 * b2)), some (pI b3), none, none, none] [] M44 (rI fun v47 M46 => (v47 = 0 → TT X kX9_asked 195 [some (pR (9, 0, 0)), some (pI b1), some (pI b2), some (pI b3), some (pI b4), some (pI b5), some (pI b6), some (pI b7), some (pI b8), some (pI (b9 + (-1)))] [] M46 Q) ∧ (¬ v47 = 0 → TT X kX9_goes 0 [some (pR (9, 0, 0)), some (pI b1)] [] M46 (rI fun v49 M48 => (v49 = 0 → TT X kX9_asked 195 [some (pR (9, 0, 0)), some (pI b1), some (pI b2), some (pI b3), some (pI b4), some (pI b5), some (pI b6), some (pI b7), some (pI b8), some (pI (b9 + (-1)))] [] M48 Q) ∧ (¬ v49 = 0 → TT X kX9_costOf 0 [some (pR (9, 0, 0)), some (pI b1)] [] M48 (rI fun v51 M50 => (¬ v51 = b5 → TT X kX9_asked 195 [some (pR (9, 0, 0)), some (pI b1), some (pI b2), some (pI b3), some (pI b4), some (pI b5), some (pI b6), some (pI b7), some (pI b8), some (pI (b9 + (-1)))] [] M50 Q) ∧ (v51 = b5 → TT X kX9_asked 195 [some (pR (9, 0, 0)), some (pI b1), some (pI b2), some (pI b3), some (pI b4), some (pI b5), some (pI b6), some (pI (b7 + 1)), some (pI b9), some (pI (b9 + (-1)))] [] M50 Q))))))))))) : TT X kX9_asked 195 [some (pR (9, 0, 0)), some (pI b1), some (pI b2), some (pI b3), some (pI b4), some (pI b5), some (pI b6), some (pI b7), some (pI b8), some (pI b9)] [] M Q :=
 T_iload dX9_asked_195 rfl <|
 T_if_lt (tgt := 267) dX9_asked_197 (by decide) (fun z59 =>
 T_iload dX9_asked_267 rfl <|
 T_if_ne (tgt := 277) dX9_asked_269 (by decide) (fun z43 =>
 T_iload dX9_asked_277 rfl <|
 T_ireturn (ty := .int) dX9_asked_279 rfl rfl ((h.1 z59).1 z43)) (fun z43 =>
 T_iload dX9_asked_272 rfl <|
 T_goto (tgt := 279) dX9_asked_274 (by decide) <|
 T_ireturn (ty := .int) dX9_asked_279 rfl rfl ((h.1 z59).2 z43))) (fun z59 =>
 T_aload_n dX9_asked_200 rfl <|
 T_getR (C := RX9) (T := TX9) (N := 31) (f := 21) dX9_asked_201 c_9_0_0 rfl (by decide) wf_X9_34 rfl <|
 T_aload_n dX9_asked_204 rfl <|
 T_getR (C := RX9) (T := TX9) (N := 31) (f := 4) dX9_asked_205 c_9_0_0 rfl (by decide) wf_X9_16 rfl <|
 T_bipush dX9_asked_208 bp_40 <|
 T_iload_n dX9_asked_210 rfl <|
 T_imul dX9_asked_211 <|
 T_iload dX9_asked_212 rfl <|
 T_iadd dX9_asked_214 <|
 T_iald (n := 320) dX9_asked_215 c_9_0_5 (by decide) (by decide) (by decide) rfl (h.2 z59).1 <|
 T_iload dX9_asked_216 rfl <|
 T_iast (n := 18) dX9_asked_218 c_9_0_22 (by decide) (by decide) (by decide) rfl (h.2 z59).2.1 <|
 T_aload_n dX9_asked_219 rfl <|
 T_iload_n dX9_asked_220 rfl <|
 T_callVv (k' := kX9_layWay) (vs := [pI b1]) (st := []) dX9_asked_221 wm_X9_218 okX9_layWay rfl c_9_0_0 rfl rfl rfl (Nat.le_of_ble_eq_true rfl) rfl (Nat.le_of_ble_eq_true rfl) (TT.mono (h.2 z59).2.2 (rV_mono (fun M44 h58 =>
 T_aload_n dX9_asked_224 rfl <|
 T_bipush dX9_asked_225 bp_40 <|
 T_iload_n dX9_asked_227 rfl <|
 T_imul dX9_asked_228 <|
 T_iload_n dX9_asked_229 rfl <|
 T_callVi (k' := kX9_isJust) (vs := [pI (40 * b2), pI b3]) (st := []) dX9_asked_230 wm_X9_253 okX9_isJust rfl c_9_0_0 rfl rfl rfl (Nat.le_of_ble_eq_true rfl) rfl (Nat.le_of_ble_eq_true rfl) (TT.mono h58 (rI_mono (fun v47 M46 h57 =>
 T_if_eq (tgt := 261) dX9_asked_233 (by decide) (fun z56 =>
 T_iinc dX9_asked_261 rfl (ii_m1 _) (by decide) rfl rfl <|
 T_goto (tgt := 195) dX9_asked_264 (by decide) <|
 (h57.1 z56)) (fun z56 =>
 T_aload_n dX9_asked_236 rfl <|
 T_iload_n dX9_asked_237 rfl <|
 T_callVi (k' := kX9_goes) (vs := [pI b1]) (st := []) dX9_asked_238 wm_X9_221 okX9_goes rfl c_9_0_0 rfl rfl rfl (Nat.le_of_ble_eq_true rfl) rfl (Nat.le_of_ble_eq_true rfl) (TT.mono (h57.2 z56) (rI_mono (fun v49 M48 h55 =>
 T_if_eq (tgt := 261) dX9_asked_241 (by decide) (fun z54 =>
 T_iinc dX9_asked_261 rfl (ii_m1 _) (by decide) rfl rfl <|
 T_goto (tgt := 195) dX9_asked_264 (by decide) <|
 (h55.1 z54)) (fun z54 =>
 T_aload_n dX9_asked_244 rfl <|
 T_iload_n dX9_asked_245 rfl <|
 T_callVi (k' := kX9_costOf) (vs := [pI b1]) (st := []) dX9_asked_246 wm_X9_209 okX9_costOf rfl c_9_0_0 rfl rfl rfl (Nat.le_of_ble_eq_true rfl) rfl (Nat.le_of_ble_eq_true rfl) (TT.mono (h55.2 z54) (rI_mono (fun v51 M50 h53 =>
 T_iload dX9_asked_249 rfl <|
 T_icmp_ne (tgt := 261) dX9_asked_251 (by decide) (fun z52 =>
 T_iinc dX9_asked_261 rfl (ii_m1 _) (by decide) rfl rfl <|
 T_goto (tgt := 195) dX9_asked_264 (by decide) <|
 (h53.1 z52)) (fun z52 =>
 T_iinc dX9_asked_254 rfl (ii_1 _) (by decide) rfl rfl <|
 T_iload dX9_asked_257 rfl <|
 T_istore dX9_asked_259 (by decide) rfl rfl <|
 T_iinc dX9_asked_261 rfl (ii_m1 _) (by decide) rfl rfl <|
 T_goto (tgt := 195) dX9_asked_264 (by decide) <|
 (h53.2 z52)))))))))))))))))
theorem rX9_deal_0 {X : Nat × (Nat → Int32)} {a1 : Int32} {a2 : Int32} {a3 : Int32} {M : Mem} {Q : Option PV → Mem → Prop} (h : TT X kX9_isStep 0 [some (pR (9, 0, 0)), some (pI a1)] [] (mset M 9 0 0 0 0) (rI fun v2 M1 => (v2 = 0 → Q (some (pI (-1000001))) M1) ∧ (¬ v2 = 0 → TT X kX9_isOwner 0 [some (pI a2)] [] M1 (rI fun v4 M3 => (v4 = 0 → Q (some (pI (-1000001))) M3) ∧ (¬ v4 = 0 → vp_in (2 + (3 * a1)) 80 ∧ (((M3 9 0 6 (Int32.toNatClampNeg (2 + (3 * a1)))) = a2 → Q (some (pI (-1000001))) M3) ∧ (¬ (M3 9 0 6 (Int32.toNatClampNeg (2 + (3 * a1)))) = a2 → TT X kX9_in 0 [some (pL (Int32.toInt64 a3)), none, some (pL 0), none, some (pL 1), none] [] M3 (rI fun v6 M5 => (¬ v6 = 0 → TT X kX9_layNow 0 [some (pR (9, 0, 0)), none] [] M5 (rV fun M7 => (¬ a3 = 0 → TT X kX9_canTake 0 [some (pR (9, 0, 0)), some (pI (1 <<< (a2 &&& 31))), none] [] M7 (rI fun v10 M9 => vp_in a1 18 ∧ ((¬ a3 = 0 → TT X kX9_canTake 0 [some (pR (9, 0, 0)), some (pI (1 <<< (a2 &&& 31))), none] [] (mset M9 9 0 21 (Int32.toNatClampNeg a1) a2) (rI fun v12 M11 => Q (some (pI (v12 - v10))) M11)) ∧ (a3 = 0 → TT X kX9_takenBy 0 [some (pR (9, 0, 0)), some (pI (1 <<< (a2 &&& 31))), none, none, none, none] [] (mset M9 9 0 21 (Int32.toNatClampNeg a1) a2) (rI fun v15 M14 => Q (some (pI (v15 - v10))) M14))))) ∧ (a3 = 0 → TT X kX9_takenBy 0 [some (pR (9, 0, 0)), some (pI (1 <<< (a2 &&& 31))), none, none, none, none] [] M7 (rI fun v20 M19 => vp_in a1 18 ∧ ((¬ a3 = 0 → TT X kX9_canTake 0 [some (pR (9, 0, 0)), some (pI (1 <<< (a2 &&& 31))), none] [] (mset M19 9 0 21 (Int32.toNatClampNeg a1) a2) (rI fun v22 M21 => Q (some (pI (v22 - v20))) M21)) ∧ (a3 = 0 → TT X kX9_takenBy 0 [some (pR (9, 0, 0)), some (pI (1 <<< (a2 &&& 31))), none, none, none, none] [] (mset M19 9 0 21 (Int32.toNatClampNeg a1) a2) (rI fun v25 M24 => Q (some (pI (v25 - v20))) M24))))))) ∧ (v6 = 0 → Q (some (pI (-1000001))) M5))))))))) : TT X kX9_deal 0 [some (pR (9, 0, 0)), some (pI a1), some (pI a2), some (pI a3), none] [] M Q :=
 T_aload_n dX9_deal_0 rfl <|
 T_iconst dX9_deal_1 ic_0 <|
 T_putI (C := RX9) (T := TX9) (N := 31) (f := 0) dX9_deal_2 c_9_0_0 rfl (by decide) wf_X9_59 rfl rfl rfl <|
 T_aload_n dX9_deal_5 rfl <|
 T_iload_n dX9_deal_6 rfl <|
 T_callVi (k' := kX9_isStep) (vs := [pI a1]) (st := []) dX9_deal_7 wm_X9_182 okX9_isStep rfl c_9_0_0 rfl rfl rfl (Nat.le_of_ble_eq_true rfl) rfl (Nat.le_of_ble_eq_true rfl) (TT.mono h (rI_mono (fun v2 M1 h37 =>
 T_if_eq (tgt := 44) dX9_deal_10 (by decide) (fun z36 =>
 T_ldc dX9_deal_44 wc_X9_79 <|
 T_ireturn (ty := .int) dX9_deal_46 rfl rfl (h37.1 z36)) (fun z36 =>
 T_iload_n dX9_deal_13 rfl <|
 T_callSi (k' := kX9_isOwner) (vs := [pI a2]) (st := []) dX9_deal_14 wm_X9_191 okX9_isOwner rfl rfl rfl (Nat.le_of_ble_eq_true rfl) rfl (Nat.le_of_ble_eq_true rfl) (TT.mono (h37.2 z36) (rI_mono (fun v4 M3 h35 =>
 T_if_eq (tgt := 44) dX9_deal_17 (by decide) (fun z34 =>
 T_ldc dX9_deal_44 wc_X9_79 <|
 T_ireturn (ty := .int) dX9_deal_46 rfl rfl (h35.1 z34)) (fun z34 =>
 T_aload_n dX9_deal_20 rfl <|
 T_getR (C := RX9) (T := TX9) (N := 31) (f := 5) dX9_deal_21 c_9_0_0 rfl (by decide) wf_X9_19 rfl <|
 T_iconst dX9_deal_24 ic_2 <|
 T_iconst dX9_deal_25 ic_3 <|
 T_iload_n dX9_deal_26 rfl <|
 T_imul dX9_deal_27 <|
 T_iadd dX9_deal_28 <|
 T_iald (n := 80) dX9_deal_29 c_9_0_6 (by decide) (by decide) (by decide) rfl (h35.2 z34).1 <|
 T_iload_n dX9_deal_30 rfl <|
 T_icmp_eq (tgt := 44) dX9_deal_31 (by decide) (fun z33 =>
 T_ldc dX9_deal_44 wc_X9_79 <|
 T_ireturn (ty := .int) dX9_deal_46 rfl rfl ((h35.2 z34).2.1 z33)) (fun z33 =>
 T_iload_n dX9_deal_34 rfl <|
 T_i2l dX9_deal_35 <|
 T_lconst dX9_deal_36 lc_0 <|
 T_lconst dX9_deal_37 lc_1 <|
 T_callSi (k' := kX9_in) (vs := [pL (Int32.toInt64 a3), pL 0, pL 1]) (st := []) dX9_deal_38 wm_X9_69 okX9_in rfl rfl rfl (Nat.le_of_ble_eq_true rfl) rfl (Nat.le_of_ble_eq_true rfl) (TT.mono ((h35.2 z34).2.2 z33) (rI_mono (fun v6 M5 h32 =>
 T_if_ne (tgt := 47) dX9_deal_41 (by decide) (fun z31 =>
 T_aload_n dX9_deal_47 rfl <|
 T_callVv (k' := kX9_layNow) (vs := []) (st := []) dX9_deal_48 wm_X9_215 okX9_layNow rfl c_9_0_0 rfl rfl rfl (Nat.le_of_ble_eq_true rfl) rfl (Nat.le_of_ble_eq_true rfl) (TT.mono (h32.1 z31) (rV_mono (fun M7 h30 =>
 T_iload_n dX9_deal_51 rfl <|
 T_if_ne (tgt := 65) dX9_deal_52 (by decide) (fun z29 =>
 T_aload_n dX9_deal_65 rfl <|
 T_iconst dX9_deal_66 ic_1 <|
 T_iload_n dX9_deal_67 rfl <|
 T_ishl dX9_deal_68 <|
 T_callVi (k' := kX9_canTake) (vs := [pI (1 <<< (a2 &&& 31))]) (st := []) dX9_deal_69 wm_X9_246 okX9_canTake rfl c_9_0_0 rfl rfl rfl (Nat.le_of_ble_eq_true rfl) rfl (Nat.le_of_ble_eq_true rfl) (TT.mono (h30.1 z29) (rI_mono (fun v10 M9 h18 =>
 T_istore dX9_deal_72 (by decide) rfl rfl <|
 T_aload_n dX9_deal_74 rfl <|
 T_getR (C := RX9) (T := TX9) (N := 31) (f := 20) dX9_deal_75 c_9_0_0 rfl (by decide) wf_X9_31 rfl <|
 T_iload_n dX9_deal_78 rfl <|
 T_iload_n dX9_deal_79 rfl <|
 T_iast (n := 18) dX9_deal_80 c_9_0_21 (by decide) (by decide) (by decide) rfl h18.1 <|
 T_iload_n dX9_deal_81 rfl <|
 T_if_ne (tgt := 95) dX9_deal_82 (by decide) (fun z17 =>
 T_aload_n dX9_deal_95 rfl <|
 T_iconst dX9_deal_96 ic_1 <|
 T_iload_n dX9_deal_97 rfl <|
 T_ishl dX9_deal_98 <|
 T_callVi (k' := kX9_canTake) (vs := [pI (1 <<< (a2 &&& 31))]) (st := []) dX9_deal_99 wm_X9_246 okX9_canTake rfl c_9_0_0 rfl rfl rfl (Nat.le_of_ble_eq_true rfl) rfl (Nat.le_of_ble_eq_true rfl) (TT.mono (h18.2.1 z17) (rI_mono (fun v12 M11 h13 =>
 T_iload dX9_deal_102 rfl <|
 T_isub dX9_deal_104 <|
 T_ireturn (ty := .int) dX9_deal_105 rfl rfl h13)))) (fun z17 =>
 T_aload_n dX9_deal_85 rfl <|
 T_iconst dX9_deal_86 ic_1 <|
 T_iload_n dX9_deal_87 rfl <|
 T_ishl dX9_deal_88 <|
 T_callVi (k' := kX9_takenBy) (vs := [pI (1 <<< (a2 &&& 31))]) (st := []) dX9_deal_89 wm_X9_224 okX9_takenBy rfl c_9_0_0 rfl rfl rfl (Nat.le_of_ble_eq_true rfl) rfl (Nat.le_of_ble_eq_true rfl) (TT.mono (h18.2.2 z17) (rI_mono (fun v15 M14 h16 =>
 T_goto (tgt := 102) dX9_deal_92 (by decide) <|
 T_iload dX9_deal_102 rfl <|
 T_isub dX9_deal_104 <|
 T_ireturn (ty := .int) dX9_deal_105 rfl rfl h16)))))))) (fun z29 =>
 T_aload_n dX9_deal_55 rfl <|
 T_iconst dX9_deal_56 ic_1 <|
 T_iload_n dX9_deal_57 rfl <|
 T_ishl dX9_deal_58 <|
 T_callVi (k' := kX9_takenBy) (vs := [pI (1 <<< (a2 &&& 31))]) (st := []) dX9_deal_59 wm_X9_224 okX9_takenBy rfl c_9_0_0 rfl rfl rfl (Nat.le_of_ble_eq_true rfl) rfl (Nat.le_of_ble_eq_true rfl) (TT.mono (h30.2 z29) (rI_mono (fun v20 M19 h28 =>
 T_goto (tgt := 72) dX9_deal_62 (by decide) <|
 T_istore dX9_deal_72 (by decide) rfl rfl <|
 T_aload_n dX9_deal_74 rfl <|
 T_getR (C := RX9) (T := TX9) (N := 31) (f := 20) dX9_deal_75 c_9_0_0 rfl (by decide) wf_X9_31 rfl <|
 T_iload_n dX9_deal_78 rfl <|
 T_iload_n dX9_deal_79 rfl <|
 T_iast (n := 18) dX9_deal_80 c_9_0_21 (by decide) (by decide) (by decide) rfl h28.1 <|
 T_iload_n dX9_deal_81 rfl <|
 T_if_ne (tgt := 95) dX9_deal_82 (by decide) (fun z27 =>
 T_aload_n dX9_deal_95 rfl <|
 T_iconst dX9_deal_96 ic_1 <|
 T_iload_n dX9_deal_97 rfl <|
 T_ishl dX9_deal_98 <|
 T_callVi (k' := kX9_canTake) (vs := [pI (1 <<< (a2 &&& 31))]) (st := []) dX9_deal_99 wm_X9_246 okX9_canTake rfl c_9_0_0 rfl rfl rfl (Nat.le_of_ble_eq_true rfl) rfl (Nat.le_of_ble_eq_true rfl) (TT.mono (h28.2.1 z27) (rI_mono (fun v22 M21 h23 =>
 T_iload dX9_deal_102 rfl <|
 T_isub dX9_deal_104 <|
 T_ireturn (ty := .int) dX9_deal_105 rfl rfl h23)))) (fun z27 =>
 T_aload_n dX9_deal_85 rfl <|
 T_iconst dX9_deal_86 ic_1 <|
 T_iload_n dX9_deal_87 rfl <|
 T_ishl dX9_deal_88 <|
 T_callVi (k' := kX9_takenBy) (vs := [pI (1 <<< (a2 &&& 31))]) (st := []) dX9_deal_89 wm_X9_224 okX9_takenBy rfl c_9_0_0 rfl rfl rfl (Nat.le_of_ble_eq_true rfl) rfl (Nat.le_of_ble_eq_true rfl) (TT.mono (h28.2.2 z27) (rI_mono (fun v25 M24 h26 =>
 T_goto (tgt := 102) dX9_deal_92 (by decide) <|
 T_iload dX9_deal_102 rfl <|
 T_isub dX9_deal_104 <|
 T_ireturn (ty := .int) dX9_deal_105 rfl rfl h26)))))))))))) (fun z31 =>
 T_ldc dX9_deal_44 wc_X9_79 <|
 T_ireturn (ty := .int) dX9_deal_46 rfl rfl (h32.2 z31))))))))))))))
theorem rX9_image_0 {X : Nat × (Nat → Int32)} {a1 : Int32} {M : Mem} {Q : Option PV → Mem → Prop} (h : TT X kX9_in 0 [some (pL (Int32.toInt64 a1)), none, some (pL 0), none, some (pL 1), none] [] (mset M 9 0 0 0 0) (rI fun v2 M1 => (¬ v2 = 0 → (¬ (M1 9 0 0 7) = 0 → TT X kX9_image 30 [some (pR (9, 0, 0)), some (pI a1), some (pI 0)] [] M1 Q) ∧ ((M1 9 0 0 7) = 0 → Q (some (pI (-1000002))) M1)) ∧ (v2 = 0 → Q (some (pI (-1000001))) M1))) : TT X kX9_image 0 [some (pR (9, 0, 0)), some (pI a1), none] [] M Q :=
 T_aload_n dX9_image_0 rfl <|
 T_iconst dX9_image_1 ic_0 <|
 T_putI (C := RX9) (T := TX9) (N := 31) (f := 0) dX9_image_2 c_9_0_0 rfl (by decide) wf_X9_59 rfl rfl rfl <|
 T_iload_n dX9_image_5 rfl <|
 T_i2l dX9_image_6 <|
 T_lconst dX9_image_7 lc_0 <|
 T_lconst dX9_image_8 lc_1 <|
 T_callSi (k' := kX9_in) (vs := [pL (Int32.toInt64 a1), pL 0, pL 1]) (st := []) dX9_image_9 wm_X9_69 okX9_in rfl rfl rfl (Nat.le_of_ble_eq_true rfl) rfl (Nat.le_of_ble_eq_true rfl) (TT.mono h (rI_mono (fun v2 M1 h5 =>
 T_if_ne (tgt := 18) dX9_image_12 (by decide) (fun z4 =>
 T_aload_n dX9_image_18 rfl <|
 T_getI (C := RX9) (T := TX9) (N := 31) (f := 7) dX9_image_19 c_9_0_0 rfl (by decide) wf_X9_170 rfl <|
 T_if_ne (tgt := 28) dX9_image_22 (by decide) (fun z3 =>
 T_iconst dX9_image_28 ic_0 <|
 T_istore_n dX9_image_29 (by decide) rfl rfl <|
 ((h5.1 z4).1 z3)) (fun z3 =>
 T_ldc dX9_image_25 wc_X9_194 <|
 T_ireturn (ty := .int) dX9_image_27 rfl rfl ((h5.1 z4).2 z3))) (fun z4 =>
 T_ldc dX9_image_15 wc_X9_79 <|
 T_ireturn (ty := .int) dX9_image_17 rfl rfl (h5.2 z4)))))
theorem rX9_image_30 {X : Nat × (Nat → Int32)} {b1 : Int32} {b2 : Int32} {M : Mem} {Q : Option PV → Mem → Prop} (h : (80 ≤ b2 → vp_in b1 2 ∧ (Q (some (pI 1)) (mset M 9 0 28 (Int32.toNatClampNeg b1) 1))) ∧ (¬ 80 ≤ b2 → vp_in b2 80 ∧ (vp_in ((80 * b1) + b2) 160 ∧ (TT X kX9_image 30 [some (pR (9, 0, 0)), some (pI b1), some (pI (b2 + 1))] [] (mset M 9 0 29 (Int32.toNatClampNeg ((80 * b1) + b2)) (M 9 0 6 (Int32.toNatClampNeg b2))) Q)))) : TT X kX9_image 30 [some (pR (9, 0, 0)), some (pI b1), some (pI b2)] [] M Q :=
 T_iload_n dX9_image_30 rfl <|
 T_bipush dX9_image_31 bp_80 <|
 T_icmp_ge (tgt := 59) dX9_image_33 (by decide) (fun z6 =>
 T_aload_n dX9_image_59 rfl <|
 T_getR (C := RX9) (T := TX9) (N := 31) (f := 27) dX9_image_60 c_9_0_0 rfl (by decide) wf_X9_49 rfl <|
 T_iload_n dX9_image_63 rfl <|
 T_iconst dX9_image_64 ic_1 <|
 T_zast dX9_image_65 (h.1 z6).1 (by decide) <|
 T_iconst dX9_image_66 ic_1 <|
 T_ireturn (ty := .int) dX9_image_67 rfl rfl (h.1 z6).2) (fun z6 =>
 T_aload_n dX9_image_36 rfl <|
 T_getR (C := RX9) (T := TX9) (N := 31) (f := 28) dX9_image_37 c_9_0_0 rfl (by decide) wf_X9_53 rfl <|
 T_bipush dX9_image_40 bp_80 <|
 T_iload_n dX9_image_42 rfl <|
 T_imul dX9_image_43 <|
 T_iload_n dX9_image_44 rfl <|
 T_iadd dX9_image_45 <|
 T_aload_n dX9_image_46 rfl <|
 T_getR (C := RX9) (T := TX9) (N := 31) (f := 5) dX9_image_47 c_9_0_0 rfl (by decide) wf_X9_19 rfl <|
 T_iload_n dX9_image_50 rfl <|
 T_iald (n := 80) dX9_image_51 c_9_0_6 (by decide) (by decide) (by decide) rfl (h.2 z6).1 <|
 T_iast (n := 160) dX9_image_52 c_9_0_29 (by decide) (by decide) (by decide) rfl (h.2 z6).2.1 <|
 T_iinc dX9_image_53 rfl (ii_1 _) (by decide) rfl rfl <|
 T_goto (tgt := 30) dX9_image_56 (by decide) <|
 (h.2 z6).2.2)
theorem rX9_restore_0 {X : Nat × (Nat → Int32)} {a1 : Int32} {M : Mem} {Q : Option PV → Mem → Prop} (h : TT X kX9_in 0 [some (pL (Int32.toInt64 a1)), none, some (pL 0), none, some (pL 1), none] [] (mset M 9 0 0 0 0) (rI fun v2 M1 => (¬ v2 = 0 → vp_in a1 2 ∧ ((¬ (M1 9 0 28 (Int32.toNatClampNeg a1)) = 0 → TT X kX9_restore 32 [some (pR (9, 0, 0)), some (pI a1), some (pI 0)] [] M1 Q) ∧ ((M1 9 0 28 (Int32.toNatClampNeg a1)) = 0 → Q (some (pI (-1000002))) M1))) ∧ (v2 = 0 → Q (some (pI (-1000001))) M1))) : TT X kX9_restore 0 [some (pR (9, 0, 0)), some (pI a1), none] [] M Q :=
 T_aload_n dX9_restore_0 rfl <|
 T_iconst dX9_restore_1 ic_0 <|
 T_putI (C := RX9) (T := TX9) (N := 31) (f := 0) dX9_restore_2 c_9_0_0 rfl (by decide) wf_X9_59 rfl rfl rfl <|
 T_iload_n dX9_restore_5 rfl <|
 T_i2l dX9_restore_6 <|
 T_lconst dX9_restore_7 lc_0 <|
 T_lconst dX9_restore_8 lc_1 <|
 T_callSi (k' := kX9_in) (vs := [pL (Int32.toInt64 a1), pL 0, pL 1]) (st := []) dX9_restore_9 wm_X9_69 okX9_in rfl rfl rfl (Nat.le_of_ble_eq_true rfl) rfl (Nat.le_of_ble_eq_true rfl) (TT.mono h (rI_mono (fun v2 M1 h5 =>
 T_if_ne (tgt := 18) dX9_restore_12 (by decide) (fun z4 =>
 T_aload_n dX9_restore_18 rfl <|
 T_getR (C := RX9) (T := TX9) (N := 31) (f := 27) dX9_restore_19 c_9_0_0 rfl (by decide) wf_X9_49 rfl <|
 T_iload_n dX9_restore_22 rfl <|
 T_zald dX9_restore_23 (h5.1 z4).1 <|
 T_if_ne (tgt := 30) dX9_restore_24 (by decide) (fun z3 =>
 T_iconst dX9_restore_30 ic_0 <|
 T_istore_n dX9_restore_31 (by decide) rfl rfl <|
 ((h5.1 z4).2.1 z3)) (fun z3 =>
 T_ldc dX9_restore_27 wc_X9_194 <|
 T_ireturn (ty := .int) dX9_restore_29 rfl rfl ((h5.1 z4).2.2 z3))) (fun z4 =>
 T_ldc dX9_restore_15 wc_X9_79 <|
 T_ireturn (ty := .int) dX9_restore_17 rfl rfl (h5.2 z4)))))
theorem rX9_restore_32 {X : Nat × (Nat → Int32)} {b1 : Int32} {b2 : Int32} {M : Mem} {Q : Option PV → Mem → Prop} (h : (80 ≤ b2 → Q (some (pI 1)) (mset M 9 0 0 9 0)) ∧ (¬ 80 ≤ b2 → vp_in ((80 * b1) + b2) 160 ∧ (vp_in b2 80 ∧ (TT X kX9_restore 32 [some (pR (9, 0, 0)), some (pI b1), some (pI (b2 + 1))] [] (mset M 9 0 6 (Int32.toNatClampNeg b2) (M 9 0 29 (Int32.toNatClampNeg ((80 * b1) + b2)))) Q)))) : TT X kX9_restore 32 [some (pR (9, 0, 0)), some (pI b1), some (pI b2)] [] M Q :=
 T_iload_n dX9_restore_32 rfl <|
 T_bipush dX9_restore_33 bp_80 <|
 T_icmp_ge (tgt := 61) dX9_restore_35 (by decide) (fun z6 =>
 T_aload_n dX9_restore_61 rfl <|
 T_iconst dX9_restore_62 ic_0 <|
 T_putI (C := RX9) (T := TX9) (N := 31) (f := 9) dX9_restore_63 c_9_0_0 rfl (by decide) wf_X9_174 rfl rfl rfl <|
 T_iconst dX9_restore_66 ic_1 <|
 T_ireturn (ty := .int) dX9_restore_67 rfl rfl (h.1 z6)) (fun z6 =>
 T_aload_n dX9_restore_38 rfl <|
 T_getR (C := RX9) (T := TX9) (N := 31) (f := 5) dX9_restore_39 c_9_0_0 rfl (by decide) wf_X9_19 rfl <|
 T_iload_n dX9_restore_42 rfl <|
 T_aload_n dX9_restore_43 rfl <|
 T_getR (C := RX9) (T := TX9) (N := 31) (f := 28) dX9_restore_44 c_9_0_0 rfl (by decide) wf_X9_53 rfl <|
 T_bipush dX9_restore_47 bp_80 <|
 T_iload_n dX9_restore_49 rfl <|
 T_imul dX9_restore_50 <|
 T_iload_n dX9_restore_51 rfl <|
 T_iadd dX9_restore_52 <|
 T_iald (n := 160) dX9_restore_53 c_9_0_29 (by decide) (by decide) (by decide) rfl (h.2 z6).1 <|
 T_iast (n := 80) dX9_restore_54 c_9_0_6 (by decide) (by decide) (by decide) rfl (h.2 z6).2.1 <|
 T_iinc dX9_restore_55 rfl (ii_1 _) (by decide) rfl rfl <|
 T_goto (tgt := 32) dX9_restore_58 (by decide) <|
 (h.2 z6).2.2)
theorem rX9_kindOf_0 {X : Nat × (Nat → Int32)} {a1 : Int32} {M : Mem} {Q : Option PV → Mem → Prop} (h : vp_in ((2 + (3 * a1)) + 1) 80 ∧ (TT X kX9_isBroken 0 [some (pR (9, 0, 0)), some (pI a1)] [] M (rI fun v2 M1 => (v2 = 0 → TT X kX9_isStep 0 [some (pR (9, 0, 0)), some (pI (a1 + 1))] [] M1 (rI fun v4 M3 => (v4 = 0 → (¬ (M 9 0 6 (Int32.toNatClampNeg ((2 + (3 * a1)) + 1))) = 0 → ((M 9 0 6 (Int32.toNatClampNeg ((2 + (3 * a1)) + 1))) ≤ 9 → Q (some (pI 1)) M3) ∧ (¬ (M 9 0 6 (Int32.toNatClampNeg ((2 + (3 * a1)) + 1))) ≤ 9 → Q (some (pI 2)) M3)) ∧ ((M 9 0 6 (Int32.toNatClampNeg ((2 + (3 * a1)) + 1))) = 0 → Q (some (pI 4)) M3)) ∧ (¬ v4 = 0 → vp_in ((2 + (3 * a1)) + 3) 80 ∧ (vp_in (2 + (3 * a1)) 80 ∧ ((¬ (M3 9 0 6 (Int32.toNatClampNeg ((2 + (3 * a1)) + 3))) = (M3 9 0 6 (Int32.toNatClampNeg (2 + (3 * a1)))) → (¬ (M 9 0 6 (Int32.toNatClampNeg ((2 + (3 * a1)) + 1))) = 0 → ((M 9 0 6 (Int32.toNatClampNeg ((2 + (3 * a1)) + 1))) ≤ 9 → Q (some (pI 1)) M3) ∧ (¬ (M 9 0 6 (Int32.toNatClampNeg ((2 + (3 * a1)) + 1))) ≤ 9 → Q (some (pI 2)) M3)) ∧ ((M 9 0 6 (Int32.toNatClampNeg ((2 + (3 * a1)) + 1))) = 0 → Q (some (pI 4)) M3)) ∧ ((M3 9 0 6 (Int32.toNatClampNeg ((2 + (3 * a1)) + 3))) = (M3 9 0 6 (Int32.toNatClampNeg (2 + (3 * a1)))) → (¬ (M 9 0 6 (Int32.toNatClampNeg ((2 + (3 * a1)) + 1))) = 0 → ((M 9 0 6 (Int32.toNatClampNeg ((2 + (3 * a1)) + 1))) ≤ 9 → Q (some (pI 3)) M3) ∧ (¬ (M 9 0 6 (Int32.toNatClampNeg ((2 + (3 * a1)) + 1))) ≤ 9 → Q (some (pI 2)) M3)) ∧ ((M 9 0 6 (Int32.toNatClampNeg ((2 + (3 * a1)) + 1))) = 0 → Q (some (pI 4)) M3))))))) ∧ (¬ v2 = 0 → Q (some (pI 5)) M1)))) : TT X kX9_kindOf 0 [some (pR (9, 0, 0)), some (pI a1), none, none] [] M Q :=
 T_aload_n dX9_kindOf_0 rfl <|
 T_getR (C := RX9) (T := TX9) (N := 31) (f := 5) dX9_kindOf_1 c_9_0_0 rfl (by decide) wf_X9_19 rfl <|
 T_iconst dX9_kindOf_4 ic_2 <|
 T_iconst dX9_kindOf_5 ic_3 <|
 T_iload_n dX9_kindOf_6 rfl <|
 T_imul dX9_kindOf_7 <|
 T_iadd dX9_kindOf_8 <|
 T_iconst dX9_kindOf_9 ic_1 <|
 T_iadd dX9_kindOf_10 <|
 T_iald (n := 80) dX9_kindOf_11 c_9_0_6 (by decide) (by decide) (by decide) rfl h.1 <|
 T_istore_n dX9_kindOf_12 (by decide) rfl rfl <|
 T_aload_n dX9_kindOf_13 rfl <|
 T_iload_n dX9_kindOf_14 rfl <|
 T_callVi (k' := kX9_isBroken) (vs := [pI a1]) (st := []) dX9_kindOf_15 wm_X9_196 okX9_isBroken rfl c_9_0_0 rfl rfl rfl (Nat.le_of_ble_eq_true rfl) rfl (Nat.le_of_ble_eq_true rfl) (TT.mono h.2 (rI_mono (fun v2 M1 h15 =>
 T_if_eq (tgt := 23) dX9_kindOf_18 (by decide) (fun z14 =>
 T_aload_n dX9_kindOf_23 rfl <|
 T_iload_n dX9_kindOf_24 rfl <|
 T_iconst dX9_kindOf_25 ic_1 <|
 T_iadd dX9_kindOf_26 <|
 T_callVi (k' := kX9_isStep) (vs := [pI (a1 + 1)]) (st := []) dX9_kindOf_27 wm_X9_182 okX9_isStep rfl c_9_0_0 rfl rfl rfl (Nat.le_of_ble_eq_true rfl) rfl (Nat.le_of_ble_eq_true rfl) (TT.mono (h15.1 z14) (rI_mono (fun v4 M3 h13 =>
 T_if_eq (tgt := 62) dX9_kindOf_30 (by decide) (fun z12 =>
 T_iconst dX9_kindOf_62 ic_0 <|
 T_istore_n dX9_kindOf_63 (by decide) rfl rfl <|
 T_iload_n dX9_kindOf_64 rfl <|
 T_if_ne (tgt := 72) dX9_kindOf_65 (by decide) (fun z6 =>
 T_iload_n dX9_kindOf_72 rfl <|
 T_bipush dX9_kindOf_73 bp_9 <|
 T_icmp_le (tgt := 82) dX9_kindOf_75 (by decide) (fun z5 =>
 T_iload_n dX9_kindOf_82 rfl <|
 T_if_eq (tgt := 90) dX9_kindOf_83 (by decide) (fun _ =>
 T_iconst dX9_kindOf_90 ic_1 <|
 T_ireturn (ty := .int) dX9_kindOf_91 rfl rfl (((h13.1 z12).1 z6).1 z5)) (fun z => absurd z (by decide))) (fun z5 =>
 T_iconst dX9_kindOf_78 ic_2 <|
 T_goto (tgt := 91) dX9_kindOf_79 (by decide) <|
 T_ireturn (ty := .int) dX9_kindOf_91 rfl rfl (((h13.1 z12).1 z6).2 z5))) (fun z6 =>
 T_iconst dX9_kindOf_68 ic_4 <|
 T_goto (tgt := 91) dX9_kindOf_69 (by decide) <|
 T_ireturn (ty := .int) dX9_kindOf_91 rfl rfl ((h13.1 z12).2 z6))) (fun z12 =>
 T_aload_n dX9_kindOf_33 rfl <|
 T_getR (C := RX9) (T := TX9) (N := 31) (f := 5) dX9_kindOf_34 c_9_0_0 rfl (by decide) wf_X9_19 rfl <|
 T_iconst dX9_kindOf_37 ic_2 <|
 T_iconst dX9_kindOf_38 ic_3 <|
 T_iload_n dX9_kindOf_39 rfl <|
 T_imul dX9_kindOf_40 <|
 T_iadd dX9_kindOf_41 <|
 T_iconst dX9_kindOf_42 ic_3 <|
 T_iadd dX9_kindOf_43 <|
 T_iald (n := 80) dX9_kindOf_44 c_9_0_6 (by decide) (by decide) (by decide) rfl (h13.2 z12).1 <|
 T_aload_n dX9_kindOf_45 rfl <|
 T_getR (C := RX9) (T := TX9) (N := 31) (f := 5) dX9_kindOf_46 c_9_0_0 rfl (by decide) wf_X9_19 rfl <|
 T_iconst dX9_kindOf_49 ic_2 <|
 T_iconst dX9_kindOf_50 ic_3 <|
 T_iload_n dX9_kindOf_51 rfl <|
 T_imul dX9_kindOf_52 <|
 T_iadd dX9_kindOf_53 <|
 T_iald (n := 80) dX9_kindOf_54 c_9_0_6 (by decide) (by decide) (by decide) rfl (h13.2 z12).2.1 <|
 T_icmp_ne (tgt := 62) dX9_kindOf_55 (by decide) (fun z11 =>
 T_iconst dX9_kindOf_62 ic_0 <|
 T_istore_n dX9_kindOf_63 (by decide) rfl rfl <|
 T_iload_n dX9_kindOf_64 rfl <|
 T_if_ne (tgt := 72) dX9_kindOf_65 (by decide) (fun z8 =>
 T_iload_n dX9_kindOf_72 rfl <|
 T_bipush dX9_kindOf_73 bp_9 <|
 T_icmp_le (tgt := 82) dX9_kindOf_75 (by decide) (fun z7 =>
 T_iload_n dX9_kindOf_82 rfl <|
 T_if_eq (tgt := 90) dX9_kindOf_83 (by decide) (fun _ =>
 T_iconst dX9_kindOf_90 ic_1 <|
 T_ireturn (ty := .int) dX9_kindOf_91 rfl rfl ((((h13.2 z12).2.2.1 z11).1 z8).1 z7)) (fun z => absurd z (by decide))) (fun z7 =>
 T_iconst dX9_kindOf_78 ic_2 <|
 T_goto (tgt := 91) dX9_kindOf_79 (by decide) <|
 T_ireturn (ty := .int) dX9_kindOf_91 rfl rfl ((((h13.2 z12).2.2.1 z11).1 z8).2 z7))) (fun z8 =>
 T_iconst dX9_kindOf_68 ic_4 <|
 T_goto (tgt := 91) dX9_kindOf_69 (by decide) <|
 T_ireturn (ty := .int) dX9_kindOf_91 rfl rfl (((h13.2 z12).2.2.1 z11).2 z8))) (fun z11 =>
 T_iconst dX9_kindOf_58 ic_1 <|
 T_goto (tgt := 63) dX9_kindOf_59 (by decide) <|
 T_istore_n dX9_kindOf_63 (by decide) rfl rfl <|
 T_iload_n dX9_kindOf_64 rfl <|
 T_if_ne (tgt := 72) dX9_kindOf_65 (by decide) (fun z10 =>
 T_iload_n dX9_kindOf_72 rfl <|
 T_bipush dX9_kindOf_73 bp_9 <|
 T_icmp_le (tgt := 82) dX9_kindOf_75 (by decide) (fun z9 =>
 T_iload_n dX9_kindOf_82 rfl <|
 T_if_eq (tgt := 90) dX9_kindOf_83 (by decide) (fun z => absurd z (by decide)) (fun _ =>
 T_iconst dX9_kindOf_86 ic_3 <|
 T_goto (tgt := 91) dX9_kindOf_87 (by decide) <|
 T_ireturn (ty := .int) dX9_kindOf_91 rfl rfl ((((h13.2 z12).2.2.2 z11).1 z10).1 z9))) (fun z9 =>
 T_iconst dX9_kindOf_78 ic_2 <|
 T_goto (tgt := 91) dX9_kindOf_79 (by decide) <|
 T_ireturn (ty := .int) dX9_kindOf_91 rfl rfl ((((h13.2 z12).2.2.2 z11).1 z10).2 z9))) (fun z10 =>
 T_iconst dX9_kindOf_68 ic_4 <|
 T_goto (tgt := 91) dX9_kindOf_69 (by decide) <|
 T_ireturn (ty := .int) dX9_kindOf_91 rfl rfl (((h13.2 z12).2.2.2 z11).2 z10)))))))) (fun z14 =>
 T_iconst dX9_kindOf_21 ic_5 <|
 T_ireturn (ty := .int) dX9_kindOf_22 rfl rfl (h15.2 z14)))))
theorem rX9_isOf_0 {X : Nat × (Nat → Int32)} {a1 : Int32} {a2 : Int32} {M : Mem} {Q : Option PV → Mem → Prop} (h : (a2 = 0 → Q (some (pI 1)) M) ∧ (¬ a2 = 0 → (a1 = a2 → Q (some (pI 1)) M) ∧ (¬ a1 = a2 → (¬ a2 = 1 → (¬ a2 = 4 → Q (some (pI 0)) M) ∧ (a2 = 4 → (¬ a1 = 5 → Q (some (pI 0)) M) ∧ (a1 = 5 → Q (some (pI 1)) M))) ∧ (a2 = 1 → (a1 < 4 → Q (some (pI 1)) M) ∧ (¬ a1 < 4 → (¬ a2 = 4 → Q (some (pI 0)) M) ∧ (a2 = 4 → (¬ a1 = 5 → Q (some (pI 0)) M) ∧ (a1 = 5 → Q (some (pI 1)) M))))))) : TT X kX9_isOf 0 [some (pI a1), some (pI a2)] [] M Q :=
 T_iload_n dX9_isOf_0 rfl <|
 T_if_eq (tgt := 29) dX9_isOf_1 (by decide) (fun z8 =>
 T_iconst dX9_isOf_29 ic_1 <|
 T_goto (tgt := 34) dX9_isOf_30 (by decide) <|
 T_ireturn (ty := .boolean) dX9_isOf_34 rfl rfl (h.1 z8)) (fun z8 =>
 T_iload_n dX9_isOf_4 rfl <|
 T_iload_n dX9_isOf_5 rfl <|
 T_icmp_eq (tgt := 29) dX9_isOf_6 (by decide) (fun z7 =>
 T_iconst dX9_isOf_29 ic_1 <|
 T_goto (tgt := 34) dX9_isOf_30 (by decide) <|
 T_ireturn (ty := .boolean) dX9_isOf_34 rfl rfl ((h.2 z8).1 z7)) (fun z7 =>
 T_iload_n dX9_isOf_9 rfl <|
 T_iconst dX9_isOf_10 ic_1 <|
 T_icmp_ne (tgt := 19) dX9_isOf_11 (by decide) (fun z6 =>
 T_iload_n dX9_isOf_19 rfl <|
 T_iconst dX9_isOf_20 ic_4 <|
 T_icmp_ne (tgt := 33) dX9_isOf_21 (by decide) (fun z2 =>
 T_iconst dX9_isOf_33 ic_0 <|
 T_ireturn (ty := .boolean) dX9_isOf_34 rfl rfl ((((h.2 z8).2 z7).1 z6).1 z2)) (fun z2 =>
 T_iload_n dX9_isOf_24 rfl <|
 T_iconst dX9_isOf_25 ic_5 <|
 T_icmp_ne (tgt := 33) dX9_isOf_26 (by decide) (fun z1 =>
 T_iconst dX9_isOf_33 ic_0 <|
 T_ireturn (ty := .boolean) dX9_isOf_34 rfl rfl (((((h.2 z8).2 z7).1 z6).2 z2).1 z1)) (fun z1 =>
 T_iconst dX9_isOf_29 ic_1 <|
 T_goto (tgt := 34) dX9_isOf_30 (by decide) <|
 T_ireturn (ty := .boolean) dX9_isOf_34 rfl rfl (((((h.2 z8).2 z7).1 z6).2 z2).2 z1)))) (fun z6 =>
 T_iload_n dX9_isOf_14 rfl <|
 T_iconst dX9_isOf_15 ic_4 <|
 T_icmp_lt (tgt := 29) dX9_isOf_16 (by decide) (fun z5 =>
 T_iconst dX9_isOf_29 ic_1 <|
 T_goto (tgt := 34) dX9_isOf_30 (by decide) <|
 T_ireturn (ty := .boolean) dX9_isOf_34 rfl rfl ((((h.2 z8).2 z7).2 z6).1 z5)) (fun z5 =>
 T_iload_n dX9_isOf_19 rfl <|
 T_iconst dX9_isOf_20 ic_4 <|
 T_icmp_ne (tgt := 33) dX9_isOf_21 (by decide) (fun z4 =>
 T_iconst dX9_isOf_33 ic_0 <|
 T_ireturn (ty := .boolean) dX9_isOf_34 rfl rfl (((((h.2 z8).2 z7).2 z6).2 z5).1 z4)) (fun z4 =>
 T_iload_n dX9_isOf_24 rfl <|
 T_iconst dX9_isOf_25 ic_5 <|
 T_icmp_ne (tgt := 33) dX9_isOf_26 (by decide) (fun z3 =>
 T_iconst dX9_isOf_33 ic_0 <|
 T_ireturn (ty := .boolean) dX9_isOf_34 rfl rfl ((((((h.2 z8).2 z7).2 z6).2 z5).2 z4).1 z3)) (fun z3 =>
 T_iconst dX9_isOf_29 ic_1 <|
 T_goto (tgt := 34) dX9_isOf_30 (by decide) <|
 T_ireturn (ty := .boolean) dX9_isOf_34 rfl rfl ((((((h.2 z8).2 z7).2 z6).2 z5).2 z4).2 z3)))))))
theorem rX9_kind_0 {X : Nat × (Nat → Int32)} {a1 : Int32} {M : Mem} {Q : Option PV → Mem → Prop} (h : TT X kX9_isStep 0 [some (pR (9, 0, 0)), some (pI a1)] [] (mset M 9 0 0 0 0) (rI fun v2 M1 => (v2 = 0 → Q (some (pI (-1000001))) M1) ∧ (¬ v2 = 0 → TT X kX9_kindOf 0 [some (pR (9, 0, 0)), some (pI a1), none, none] [] M1 (rI fun v4 M3 => Q (some (pI v4)) M3)))) : TT X kX9_kind 0 [some (pR (9, 0, 0)), some (pI a1)] [] M Q :=
 T_aload_n dX9_kind_0 rfl <|
 T_iconst dX9_kind_1 ic_0 <|
 T_putI (C := RX9) (T := TX9) (N := 31) (f := 0) dX9_kind_2 c_9_0_0 rfl (by decide) wf_X9_59 rfl rfl rfl <|
 T_aload_n dX9_kind_5 rfl <|
 T_iload_n dX9_kind_6 rfl <|
 T_callVi (k' := kX9_isStep) (vs := [pI a1]) (st := []) dX9_kind_7 wm_X9_182 okX9_isStep rfl c_9_0_0 rfl rfl rfl (Nat.le_of_ble_eq_true rfl) rfl (Nat.le_of_ble_eq_true rfl) (TT.mono h (rI_mono (fun v2 M1 h7 =>
 T_if_eq (tgt := 21) dX9_kind_10 (by decide) (fun z6 =>
 T_ldc dX9_kind_21 wc_X9_79 <|
 T_ireturn (ty := .int) dX9_kind_23 rfl rfl (h7.1 z6)) (fun z6 =>
 T_aload_n dX9_kind_13 rfl <|
 T_iload_n dX9_kind_14 rfl <|
 T_callVi (k' := kX9_kindOf) (vs := [pI a1]) (st := []) dX9_kind_15 wm_X9_257 okX9_kindOf rfl c_9_0_0 rfl rfl rfl (Nat.le_of_ble_eq_true rfl) rfl (Nat.le_of_ble_eq_true rfl) (TT.mono (h7.2 z6) (rI_mono (fun v4 M3 h5 =>
 T_goto (tgt := 23) dX9_kind_18 (by decide) <|
 T_ireturn (ty := .int) dX9_kind_23 rfl rfl h5)))))))
theorem rX9_as_0 {X : Nat × (Nat → Int32)} {a1 : Int32} {a2 : Int32} {M : Mem} {Q : Option PV → Mem → Prop} (h : TT X kX9_isStep 0 [some (pR (9, 0, 0)), some (pI a1)] [] (mset M 9 0 0 0 0) (rI fun v2 M1 => (v2 = 0 → Q (some (pI (-1000001))) M1) ∧ (¬ v2 = 0 → TT X kX9_in 0 [some (pL (Int32.toInt64 a2)), none, some (pL 0), none, some (pL 5), none] [] M1 (rI fun v4 M3 => (¬ v4 = 0 → TT X kX9_kindOf 0 [some (pR (9, 0, 0)), some (pI a1), none, none] [] (mset M3 9 0 0 1 0) (rI fun v6 M5 => TT X kX9_isOf 0 [some (pI v6), some (pI a2)] [] M5 (rI fun v8 M7 => (v8 = 0 → TT X kX9_finding 0 [some (pR (9, 0, 0)), some (pI 3)] [] M7 (rI fun v10 M9 => Q (some (pI v10)) M9)) ∧ (¬ v8 = 0 → Q (some (pI a1)) M7)))) ∧ (v4 = 0 → Q (some (pI (-1000001))) M3))))) : TT X kX9_as 0 [some (pR (9, 0, 0)), some (pI a1), some (pI a2)] [] M Q :=
 T_aload_n dX9_as_0 rfl <|
 T_iconst dX9_as_1 ic_0 <|
 T_putI (C := RX9) (T := TX9) (N := 31) (f := 0) dX9_as_2 c_9_0_0 rfl (by decide) wf_X9_59 rfl rfl rfl <|
 T_aload_n dX9_as_5 rfl <|
 T_iload_n dX9_as_6 rfl <|
 T_callVi (k' := kX9_isStep) (vs := [pI a1]) (st := []) dX9_as_7 wm_X9_182 okX9_isStep rfl c_9_0_0 rfl rfl rfl (Nat.le_of_ble_eq_true rfl) rfl (Nat.le_of_ble_eq_true rfl) (TT.mono h (rI_mono (fun v2 M1 h18 =>
 T_if_eq (tgt := 25) dX9_as_10 (by decide) (fun z17 =>
 T_ldc dX9_as_25 wc_X9_79 <|
 T_ireturn (ty := .int) dX9_as_27 rfl rfl (h18.1 z17)) (fun z17 =>
 T_iload_n dX9_as_13 rfl <|
 T_i2l dX9_as_14 <|
 T_lconst dX9_as_15 lc_0 <|
 T_ldc2 dX9_as_16 wl_X9_260 <|
 T_callSi (k' := kX9_in) (vs := [pL (Int32.toInt64 a2), pL 0, pL 5]) (st := []) dX9_as_19 wm_X9_69 okX9_in rfl rfl rfl (Nat.le_of_ble_eq_true rfl) rfl (Nat.le_of_ble_eq_true rfl) (TT.mono (h18.2 z17) (rI_mono (fun v4 M3 h16 =>
 T_if_ne (tgt := 28) dX9_as_22 (by decide) (fun z15 =>
 T_aload_n dX9_as_28 rfl <|
 T_iconst dX9_as_29 ic_0 <|
 T_putI (C := RX9) (T := TX9) (N := 31) (f := 1) dX9_as_30 c_9_0_0 rfl (by decide) wf_X9_63 rfl rfl rfl <|
 T_aload_n dX9_as_33 rfl <|
 T_iload_n dX9_as_34 rfl <|
 T_callVi (k' := kX9_kindOf) (vs := [pI a1]) (st := []) dX9_as_35 wm_X9_257 okX9_kindOf rfl c_9_0_0 rfl rfl rfl (Nat.le_of_ble_eq_true rfl) rfl (Nat.le_of_ble_eq_true rfl) (TT.mono (h16.1 z15) (rI_mono (fun v6 M5 h14 =>
 T_iload_n dX9_as_38 rfl <|
 T_callSi (k' := kX9_isOf) (vs := [pI v6, pI a2]) (st := []) dX9_as_39 wm_X9_262 okX9_isOf rfl rfl rfl (Nat.le_of_ble_eq_true rfl) rfl (Nat.le_of_ble_eq_true rfl) (TT.mono h14 (rI_mono (fun v8 M7 h13 =>
 T_if_eq (tgt := 49) dX9_as_42 (by decide) (fun z12 =>
 T_aload_n dX9_as_49 rfl <|
 T_iconst dX9_as_50 ic_3 <|
 T_callVi (k' := kX9_finding) (vs := [pI 3]) (st := []) dX9_as_51 wm_X9_80 okX9_finding rfl c_9_0_0 rfl rfl rfl (Nat.le_of_ble_eq_true rfl) rfl (Nat.le_of_ble_eq_true rfl) (TT.mono (h13.1 z12) (rI_mono (fun v10 M9 h11 =>
 T_ireturn (ty := .int) dX9_as_54 rfl rfl h11)))) (fun z12 =>
 T_iload_n dX9_as_45 rfl <|
 T_goto (tgt := 54) dX9_as_46 (by decide) <|
 T_ireturn (ty := .int) dX9_as_54 rfl rfl (h13.2 z12))))))))) (fun z15 =>
 T_ldc dX9_as_25 wc_X9_79 <|
 T_ireturn (ty := .int) dX9_as_27 rfl rfl (h16.2 z15)))))))))
theorem rX9_began_0 {X : Nat × (Nat → Int32)} {a1 : Int32} {M : Mem} {Q : Option PV → Mem → Prop} (h : (16 ≤ (M 9 0 0 30) → Q none M) ∧ (¬ 16 ≤ (M 9 0 0 30) → vp_in (M 9 0 0 30) 16 ∧ (Q none (mset (mset M 9 0 30 (Int32.toNatClampNeg (M 9 0 0 30)) a1) 9 0 0 30 (((mset M 9 0 30 (Int32.toNatClampNeg (M 9 0 0 30)) a1) 9 0 0 30) + 1))))) : TT X kX9_began 0 [some (pR (9, 0, 0)), some (pI a1)] [] M Q :=
 T_aload_n dX9_began_0 rfl <|
 T_getI (C := RX9) (T := TX9) (N := 31) (f := 30) dX9_began_1 c_9_0_0 rfl (by decide) wf_X9_265 rfl <|
 T_bipush dX9_began_4 bp_16 <|
 T_icmp_ge (tgt := 29) dX9_began_6 (by decide) (fun z1 =>
 T_return dX9_began_29 rfl (h.1 z1)) (fun z1 =>
 T_aload_n dX9_began_9 rfl <|
 T_getR (C := RX9) (T := TX9) (N := 31) (f := 29) dX9_began_10 c_9_0_0 rfl (by decide) wf_X9_56 rfl <|
 T_aload_n dX9_began_13 rfl <|
 T_getI (C := RX9) (T := TX9) (N := 31) (f := 30) dX9_began_14 c_9_0_0 rfl (by decide) wf_X9_265 rfl <|
 T_iload_n dX9_began_17 rfl <|
 T_iast (n := 16) dX9_began_18 c_9_0_30 (by decide) (by decide) (by decide) rfl (h.2 z1).1 <|
 T_aload_n dX9_began_19 rfl <|
 T_dupR dX9_began_20 <|
 T_getI (C := RX9) (T := TX9) (N := 31) (f := 30) dX9_began_21 c_9_0_0 rfl (by decide) wf_X9_265 rfl <|
 T_iconst dX9_began_24 ic_1 <|
 T_iadd dX9_began_25 <|
 T_putI (C := RX9) (T := TX9) (N := 31) (f := 30) dX9_began_26 c_9_0_0 rfl (by decide) wf_X9_265 rfl rfl rfl <|
 T_return dX9_began_29 rfl (h.2 z1).2)
theorem rX9_plainSize_0 {X : Nat × (Nat → Int32)} {a1 : Int32} {M : Mem} {Q : Option PV → Mem → Prop} (h : TT X kX9_began 0 [some (pR (9, 0, 0)), some (pI 10)] [] M (rV fun M1 => vp_in ((2 + (3 * a1)) + 1) 80 ∧ (Q (some (pI (M1 9 0 6 (Int32.toNatClampNeg ((2 + (3 * a1)) + 1))))) M1))) : TT X kX9_plainSize 0 [some (pR (9, 0, 0)), some (pI a1)] [] M Q :=
 T_aload_n dX9_plainSize_0 rfl <|
 T_bipush dX9_plainSize_1 bp_10 <|
 T_callVv (k' := kX9_began) (vs := [pI 10]) (st := []) dX9_plainSize_3 wm_X9_268 okX9_began rfl c_9_0_0 rfl rfl rfl (Nat.le_of_ble_eq_true rfl) rfl (Nat.le_of_ble_eq_true rfl) (TT.mono h (rV_mono (fun M1 h3 =>
 T_aload_n dX9_plainSize_6 rfl <|
 T_getR (C := RX9) (T := TX9) (N := 31) (f := 5) dX9_plainSize_7 c_9_0_0 rfl (by decide) wf_X9_19 rfl <|
 T_iconst dX9_plainSize_10 ic_2 <|
 T_iconst dX9_plainSize_11 ic_3 <|
 T_iload_n dX9_plainSize_12 rfl <|
 T_imul dX9_plainSize_13 <|
 T_iadd dX9_plainSize_14 <|
 T_iconst dX9_plainSize_15 ic_1 <|
 T_iadd dX9_plainSize_16 <|
 T_iald (n := 80) dX9_plainSize_17 c_9_0_6 (by decide) (by decide) (by decide) rfl h3.1 <|
 T_ireturn (ty := .int) dX9_plainSize_18 rfl rfl h3.2)))
theorem rX9_freeSize_0 {X : Nat × (Nat → Int32)} {a1 : Int32} {a2 : Int32} {M : Mem} {Q : Option PV → Mem → Prop} (h : (¬ a2 = 5 → TT X kX9_began 0 [some (pR (9, 0, 0)), some (pI 13)] [] M (rV fun M1 => TT X kX9_plainSize 0 [some (pR (9, 0, 0)), some (pI a1)] [] M1 (rI fun v4 M3 => (¬ a2 = 5 → Q (some (pI (v4 - 100))) M3) ∧ (a2 = 5 → Q (some (pI (2 * (v4 - 100)))) M3)))) ∧ (a2 = 5 → TT X kX9_began 0 [some (pR (9, 0, 0)), some (pI 14)] [] M (rV fun M8 => TT X kX9_began 0 [some (pR (9, 0, 0)), some (pI 13)] [] M8 (rV fun M10 => TT X kX9_plainSize 0 [some (pR (9, 0, 0)), some (pI a1)] [] M10 (rI fun v13 M12 => (¬ a2 = 5 → Q (some (pI (v13 - 100))) M12) ∧ (a2 = 5 → Q (some (pI (2 * (v13 - 100)))) M12)))))) : TT X kX9_freeSize 0 [some (pR (9, 0, 0)), some (pI a1), some (pI a2), none] [] M Q :=
 T_iload_n dX9_freeSize_0 rfl <|
 T_iconst dX9_freeSize_1 ic_5 <|
 T_icmp_ne (tgt := 11) dX9_freeSize_2 (by decide) (fun z18 =>
 T_aload_n dX9_freeSize_11 rfl <|
 T_bipush dX9_freeSize_12 bp_13 <|
 T_callVv (k' := kX9_began) (vs := [pI 13]) (st := []) dX9_freeSize_14 wm_X9_268 okX9_began rfl c_9_0_0 rfl rfl rfl (Nat.le_of_ble_eq_true rfl) rfl (Nat.le_of_ble_eq_true rfl) (TT.mono (h.1 z18) (rV_mono (fun M1 h7 =>
 T_aload_n dX9_freeSize_17 rfl <|
 T_iload_n dX9_freeSize_18 rfl <|
 T_callVi (k' := kX9_plainSize) (vs := [pI a1]) (st := []) dX9_freeSize_19 wm_X9_271 okX9_plainSize rfl c_9_0_0 rfl rfl rfl (Nat.le_of_ble_eq_true rfl) rfl (Nat.le_of_ble_eq_true rfl) (TT.mono h7 (rI_mono (fun v4 M3 h6 =>
 T_bipush dX9_freeSize_22 bp_100 <|
 T_isub dX9_freeSize_24 <|
 T_istore_n dX9_freeSize_25 (by decide) rfl rfl <|
 T_iload_n dX9_freeSize_26 rfl <|
 T_iconst dX9_freeSize_27 ic_5 <|
 T_icmp_ne (tgt := 37) dX9_freeSize_28 (by decide) (fun z5 =>
 T_iload_n dX9_freeSize_37 rfl <|
 T_ireturn (ty := .int) dX9_freeSize_38 rfl rfl (h6.1 z5)) (fun z5 =>
 T_iconst dX9_freeSize_31 ic_2 <|
 T_iload_n dX9_freeSize_32 rfl <|
 T_imul dX9_freeSize_33 <|
 T_goto (tgt := 38) dX9_freeSize_34 (by decide) <|
 T_ireturn (ty := .int) dX9_freeSize_38 rfl rfl (h6.2 z5))))))))) (fun z18 =>
 T_aload_n dX9_freeSize_5 rfl <|
 T_bipush dX9_freeSize_6 bp_14 <|
 T_callVv (k' := kX9_began) (vs := [pI 14]) (st := []) dX9_freeSize_8 wm_X9_268 okX9_began rfl c_9_0_0 rfl rfl rfl (Nat.le_of_ble_eq_true rfl) rfl (Nat.le_of_ble_eq_true rfl) (TT.mono (h.2 z18) (rV_mono (fun M8 h17 =>
 T_aload_n dX9_freeSize_11 rfl <|
 T_bipush dX9_freeSize_12 bp_13 <|
 T_callVv (k' := kX9_began) (vs := [pI 13]) (st := []) dX9_freeSize_14 wm_X9_268 okX9_began rfl c_9_0_0 rfl rfl rfl (Nat.le_of_ble_eq_true rfl) rfl (Nat.le_of_ble_eq_true rfl) (TT.mono h17 (rV_mono (fun M10 h16 =>
 T_aload_n dX9_freeSize_17 rfl <|
 T_iload_n dX9_freeSize_18 rfl <|
 T_callVi (k' := kX9_plainSize) (vs := [pI a1]) (st := []) dX9_freeSize_19 wm_X9_271 okX9_plainSize rfl c_9_0_0 rfl rfl rfl (Nat.le_of_ble_eq_true rfl) rfl (Nat.le_of_ble_eq_true rfl) (TT.mono h16 (rI_mono (fun v13 M12 h15 =>
 T_bipush dX9_freeSize_22 bp_100 <|
 T_isub dX9_freeSize_24 <|
 T_istore_n dX9_freeSize_25 (by decide) rfl rfl <|
 T_iload_n dX9_freeSize_26 rfl <|
 T_iconst dX9_freeSize_27 ic_5 <|
 T_icmp_ne (tgt := 37) dX9_freeSize_28 (by decide) (fun z14 =>
 T_iload_n dX9_freeSize_37 rfl <|
 T_ireturn (ty := .int) dX9_freeSize_38 rfl rfl (h15.1 z14)) (fun z14 =>
 T_iconst dX9_freeSize_31 ic_2 <|
 T_iload_n dX9_freeSize_32 rfl <|
 T_imul dX9_freeSize_33 <|
 T_goto (tgt := 38) dX9_freeSize_34 (by decide) <|
 T_ireturn (ty := .int) dX9_freeSize_38 rfl rfl (h15.2 z14))))))))))))
theorem rX9_markOf_0 {X : Nat × (Nat → Int32)} {a1 : Int32} {a2 : Int32} {M : Mem} {Q : Option PV → Mem → Prop} (h : (a2 < 4 → (a2 = 1 → TT X kX9_began 0 [some (pR (9, 0, 0)), some (pI 21)] [] M (rV fun M1 => TT X kX9_began 0 [some (pR (9, 0, 0)), some (pI 20)] [] M1 (rV fun M3 => vp_in (2 + (3 * a1)) 80 ∧ ((¬ a2 = 1 → (¬ a2 = 2 → Q (some (pI ((a1 + (10 * (M3 9 0 6 (Int32.toNatClampNeg (2 + (3 * a1)))))) - 1000))) M3) ∧ (a2 = 2 → Q (some (pI (2 * (a1 + (10 * (M3 9 0 6 (Int32.toNatClampNeg (2 + (3 * a1))))))))) M3)) ∧ (a2 = 1 → Q (some (pI (a1 + (10 * (M3 9 0 6 (Int32.toNatClampNeg (2 + (3 * a1)))))))) M3))))) ∧ (¬ a2 = 1 → (¬ a2 = 2 → TT X kX9_began 0 [some (pR (9, 0, 0)), some (pI 22)] [] M (rV fun M9 => TT X kX9_began 0 [some (pR (9, 0, 0)), some (pI 21)] [] M9 (rV fun M11 => TT X kX9_began 0 [some (pR (9, 0, 0)), some (pI 20)] [] M11 (rV fun M13 => vp_in (2 + (3 * a1)) 80 ∧ ((¬ a2 = 1 → (¬ a2 = 2 → Q (some (pI ((a1 + (10 * (M13 9 0 6 (Int32.toNatClampNeg (2 + (3 * a1)))))) - 1000))) M13) ∧ (a2 = 2 → Q (some (pI (2 * (a1 + (10 * (M13 9 0 6 (Int32.toNatClampNeg (2 + (3 * a1))))))))) M13)) ∧ (a2 = 1 → Q (some (pI (a1 + (10 * (M13 9 0 6 (Int32.toNatClampNeg (2 + (3 * a1)))))))) M13)))))) ∧ (a2 = 2 → TT X kX9_began 0 [some (pR (9, 0, 0)), some (pI 24)] [] M (rV fun M20 => TT X kX9_began 0 [some (pR (9, 0, 0)), some (pI 21)] [] M20 (rV fun M22 => TT X kX9_began 0 [some (pR (9, 0, 0)), some (pI 20)] [] M22 (rV fun M24 => vp_in (2 + (3 * a1)) 80 ∧ ((¬ a2 = 1 → (¬ a2 = 2 → Q (some (pI ((a1 + (10 * (M24 9 0 6 (Int32.toNatClampNeg (2 + (3 * a1)))))) - 1000))) M24) ∧ (a2 = 2 → Q (some (pI (2 * (a1 + (10 * (M24 9 0 6 (Int32.toNatClampNeg (2 + (3 * a1))))))))) M24)) ∧ (a2 = 1 → Q (some (pI (a1 + (10 * (M24 9 0 6 (Int32.toNatClampNeg (2 + (3 * a1)))))))) M24)))))))) ∧ (¬ a2 < 4 → TT X kX9_began 0 [some (pR (9, 0, 0)), some (pI 23)] [] M (rV fun M33 => TT X kX9_began 0 [some (pR (9, 0, 0)), some (pI 20)] [] M33 (rV fun M35 => TT X kX9_freeSize 0 [some (pR (9, 0, 0)), some (pI a1), some (pI a2), none] [] M35 (rI fun v38 M37 => Q (some (pI (a1 - v38))) M37))))) : TT X kX9_markOf 0 [some (pR (9, 0, 0)), some (pI a1), some (pI a2), none] [] M Q :=
 T_iload_n dX9_markOf_0 rfl <|
 T_iconst dX9_markOf_1 ic_4 <|
 T_icmp_lt (tgt := 26) dX9_markOf_2 (by decide) (fun z42 =>
 T_iload_n dX9_markOf_26 rfl <|
 T_iconst dX9_markOf_27 ic_1 <|
 T_icmp_eq (tgt := 47) dX9_markOf_28 (by decide) (fun z32 =>
 T_aload_n dX9_markOf_47 rfl <|
 T_bipush dX9_markOf_48 bp_21 <|
 T_callVv (k' := kX9_began) (vs := [pI 21]) (st := []) dX9_markOf_50 wm_X9_268 okX9_began rfl c_9_0_0 rfl rfl rfl (Nat.le_of_ble_eq_true rfl) rfl (Nat.le_of_ble_eq_true rfl) (TT.mono ((h.1 z42).1 z32) (rV_mono (fun M1 h8 =>
 T_aload_n dX9_markOf_53 rfl <|
 T_bipush dX9_markOf_54 bp_20 <|
 T_callVv (k' := kX9_began) (vs := [pI 20]) (st := []) dX9_markOf_56 wm_X9_268 okX9_began rfl c_9_0_0 rfl rfl rfl (Nat.le_of_ble_eq_true rfl) rfl (Nat.le_of_ble_eq_true rfl) (TT.mono h8 (rV_mono (fun M3 h7 =>
 T_iload_n dX9_markOf_59 rfl <|
 T_bipush dX9_markOf_60 bp_10 <|
 T_aload_n dX9_markOf_62 rfl <|
 T_getR (C := RX9) (T := TX9) (N := 31) (f := 5) dX9_markOf_63 c_9_0_0 rfl (by decide) wf_X9_19 rfl <|
 T_iconst dX9_markOf_66 ic_2 <|
 T_iconst dX9_markOf_67 ic_3 <|
 T_iload_n dX9_markOf_68 rfl <|
 T_imul dX9_markOf_69 <|
 T_iadd dX9_markOf_70 <|
 T_iald (n := 80) dX9_markOf_71 c_9_0_6 (by decide) (by decide) (by decide) rfl h7.1 <|
 T_imul dX9_markOf_72 <|
 T_iadd dX9_markOf_73 <|
 T_istore_n dX9_markOf_74 (by decide) rfl rfl <|
 T_iload_n dX9_markOf_75 rfl <|
 T_iconst dX9_markOf_76 ic_1 <|
 T_icmp_ne (tgt := 84) dX9_markOf_77 (by decide) (fun z6 =>
 T_iload_n dX9_markOf_84 rfl <|
 T_iconst dX9_markOf_85 ic_2 <|
 T_icmp_ne (tgt := 95) dX9_markOf_86 (by decide) (fun z5 =>
 T_iload_n dX9_markOf_95 rfl <|
 T_sipush dX9_markOf_96 sp_1000 <|
 T_isub dX9_markOf_99 <|
 T_ireturn (ty := .int) dX9_markOf_100 rfl rfl ((h7.2.1 z6).1 z5)) (fun z5 =>
 T_iconst dX9_markOf_89 ic_2 <|
 T_iload_n dX9_markOf_90 rfl <|
 T_imul dX9_markOf_91 <|
 T_goto (tgt := 100) dX9_markOf_92 (by decide) <|
 T_ireturn (ty := .int) dX9_markOf_100 rfl rfl ((h7.2.1 z6).2 z5))) (fun z6 =>
 T_iload_n dX9_markOf_80 rfl <|
 T_goto (tgt := 100) dX9_markOf_81 (by decide) <|
 T_ireturn (ty := .int) dX9_markOf_100 rfl rfl (h7.2.2 z6))))))))) (fun z32 =>
 T_aload_n dX9_markOf_31 rfl <|
 T_iload_n dX9_markOf_32 rfl <|
 T_iconst dX9_markOf_33 ic_2 <|
 T_icmp_ne (tgt := 42) dX9_markOf_34 (by decide) (fun z31 =>
 T_bipush dX9_markOf_42 bp_22 <|
 T_callVv (k' := kX9_began) (vs := [pI 22]) (st := []) dX9_markOf_44 wm_X9_268 okX9_began rfl c_9_0_0 rfl rfl rfl (Nat.le_of_ble_eq_true rfl) rfl (Nat.le_of_ble_eq_true rfl) (TT.mono (((h.1 z42).2 z32).1 z31) (rV_mono (fun M9 h19 =>
 T_aload_n dX9_markOf_47 rfl <|
 T_bipush dX9_markOf_48 bp_21 <|
 T_callVv (k' := kX9_began) (vs := [pI 21]) (st := []) dX9_markOf_50 wm_X9_268 okX9_began rfl c_9_0_0 rfl rfl rfl (Nat.le_of_ble_eq_true rfl) rfl (Nat.le_of_ble_eq_true rfl) (TT.mono h19 (rV_mono (fun M11 h18 =>
 T_aload_n dX9_markOf_53 rfl <|
 T_bipush dX9_markOf_54 bp_20 <|
 T_callVv (k' := kX9_began) (vs := [pI 20]) (st := []) dX9_markOf_56 wm_X9_268 okX9_began rfl c_9_0_0 rfl rfl rfl (Nat.le_of_ble_eq_true rfl) rfl (Nat.le_of_ble_eq_true rfl) (TT.mono h18 (rV_mono (fun M13 h17 =>
 T_iload_n dX9_markOf_59 rfl <|
 T_bipush dX9_markOf_60 bp_10 <|
 T_aload_n dX9_markOf_62 rfl <|
 T_getR (C := RX9) (T := TX9) (N := 31) (f := 5) dX9_markOf_63 c_9_0_0 rfl (by decide) wf_X9_19 rfl <|
 T_iconst dX9_markOf_66 ic_2 <|
 T_iconst dX9_markOf_67 ic_3 <|
 T_iload_n dX9_markOf_68 rfl <|
 T_imul dX9_markOf_69 <|
 T_iadd dX9_markOf_70 <|
 T_iald (n := 80) dX9_markOf_71 c_9_0_6 (by decide) (by decide) (by decide) rfl h17.1 <|
 T_imul dX9_markOf_72 <|
 T_iadd dX9_markOf_73 <|
 T_istore_n dX9_markOf_74 (by decide) rfl rfl <|
 T_iload_n dX9_markOf_75 rfl <|
 T_iconst dX9_markOf_76 ic_1 <|
 T_icmp_ne (tgt := 84) dX9_markOf_77 (by decide) (fun z16 =>
 T_iload_n dX9_markOf_84 rfl <|
 T_iconst dX9_markOf_85 ic_2 <|
 T_icmp_ne (tgt := 95) dX9_markOf_86 (by decide) (fun z15 =>
 T_iload_n dX9_markOf_95 rfl <|
 T_sipush dX9_markOf_96 sp_1000 <|
 T_isub dX9_markOf_99 <|
 T_ireturn (ty := .int) dX9_markOf_100 rfl rfl ((h17.2.1 z16).1 z15)) (fun z15 =>
 T_iconst dX9_markOf_89 ic_2 <|
 T_iload_n dX9_markOf_90 rfl <|
 T_imul dX9_markOf_91 <|
 T_goto (tgt := 100) dX9_markOf_92 (by decide) <|
 T_ireturn (ty := .int) dX9_markOf_100 rfl rfl ((h17.2.1 z16).2 z15))) (fun z16 =>
 T_iload_n dX9_markOf_80 rfl <|
 T_goto (tgt := 100) dX9_markOf_81 (by decide) <|
 T_ireturn (ty := .int) dX9_markOf_100 rfl rfl (h17.2.2 z16)))))))))))) (fun z31 =>
 T_bipush dX9_markOf_37 bp_24 <|
 T_goto (tgt := 44) dX9_markOf_39 (by decide) <|
 T_callVv (k' := kX9_began) (vs := [pI 24]) (st := []) dX9_markOf_44 wm_X9_268 okX9_began rfl c_9_0_0 rfl rfl rfl (Nat.le_of_ble_eq_true rfl) rfl (Nat.le_of_ble_eq_true rfl) (TT.mono (((h.1 z42).2 z32).2 z31) (rV_mono (fun M20 h30 =>
 T_aload_n dX9_markOf_47 rfl <|
 T_bipush dX9_markOf_48 bp_21 <|
 T_callVv (k' := kX9_began) (vs := [pI 21]) (st := []) dX9_markOf_50 wm_X9_268 okX9_began rfl c_9_0_0 rfl rfl rfl (Nat.le_of_ble_eq_true rfl) rfl (Nat.le_of_ble_eq_true rfl) (TT.mono h30 (rV_mono (fun M22 h29 =>
 T_aload_n dX9_markOf_53 rfl <|
 T_bipush dX9_markOf_54 bp_20 <|
 T_callVv (k' := kX9_began) (vs := [pI 20]) (st := []) dX9_markOf_56 wm_X9_268 okX9_began rfl c_9_0_0 rfl rfl rfl (Nat.le_of_ble_eq_true rfl) rfl (Nat.le_of_ble_eq_true rfl) (TT.mono h29 (rV_mono (fun M24 h28 =>
 T_iload_n dX9_markOf_59 rfl <|
 T_bipush dX9_markOf_60 bp_10 <|
 T_aload_n dX9_markOf_62 rfl <|
 T_getR (C := RX9) (T := TX9) (N := 31) (f := 5) dX9_markOf_63 c_9_0_0 rfl (by decide) wf_X9_19 rfl <|
 T_iconst dX9_markOf_66 ic_2 <|
 T_iconst dX9_markOf_67 ic_3 <|
 T_iload_n dX9_markOf_68 rfl <|
 T_imul dX9_markOf_69 <|
 T_iadd dX9_markOf_70 <|
 T_iald (n := 80) dX9_markOf_71 c_9_0_6 (by decide) (by decide) (by decide) rfl h28.1 <|
 T_imul dX9_markOf_72 <|
 T_iadd dX9_markOf_73 <|
 T_istore_n dX9_markOf_74 (by decide) rfl rfl <|
 T_iload_n dX9_markOf_75 rfl <|
 T_iconst dX9_markOf_76 ic_1 <|
 T_icmp_ne (tgt := 84) dX9_markOf_77 (by decide) (fun z27 =>
 T_iload_n dX9_markOf_84 rfl <|
 T_iconst dX9_markOf_85 ic_2 <|
 T_icmp_ne (tgt := 95) dX9_markOf_86 (by decide) (fun z26 =>
 T_iload_n dX9_markOf_95 rfl <|
 T_sipush dX9_markOf_96 sp_1000 <|
 T_isub dX9_markOf_99 <|
 T_ireturn (ty := .int) dX9_markOf_100 rfl rfl ((h28.2.1 z27).1 z26)) (fun z26 =>
 T_iconst dX9_markOf_89 ic_2 <|
 T_iload_n dX9_markOf_90 rfl <|
 T_imul dX9_markOf_91 <|
 T_goto (tgt := 100) dX9_markOf_92 (by decide) <|
 T_ireturn (ty := .int) dX9_markOf_100 rfl rfl ((h28.2.1 z27).2 z26))) (fun z27 =>
 T_iload_n dX9_markOf_80 rfl <|
 T_goto (tgt := 100) dX9_markOf_81 (by decide) <|
 T_ireturn (ty := .int) dX9_markOf_100 rfl rfl (h28.2.2 z27)))))))))))))) (fun z42 =>
 T_aload_n dX9_markOf_5 rfl <|
 T_bipush dX9_markOf_6 bp_23 <|
 T_callVv (k' := kX9_began) (vs := [pI 23]) (st := []) dX9_markOf_8 wm_X9_268 okX9_began rfl c_9_0_0 rfl rfl rfl (Nat.le_of_ble_eq_true rfl) rfl (Nat.le_of_ble_eq_true rfl) (TT.mono (h.2 z42) (rV_mono (fun M33 h41 =>
 T_aload_n dX9_markOf_11 rfl <|
 T_bipush dX9_markOf_12 bp_20 <|
 T_callVv (k' := kX9_began) (vs := [pI 20]) (st := []) dX9_markOf_14 wm_X9_268 okX9_began rfl c_9_0_0 rfl rfl rfl (Nat.le_of_ble_eq_true rfl) rfl (Nat.le_of_ble_eq_true rfl) (TT.mono h41 (rV_mono (fun M35 h40 =>
 T_iload_n dX9_markOf_17 rfl <|
 T_aload_n dX9_markOf_18 rfl <|
 T_iload_n dX9_markOf_19 rfl <|
 T_iload_n dX9_markOf_20 rfl <|
 T_callVi (k' := kX9_freeSize) (vs := [pI a1, pI a2]) (st := [pI a1]) dX9_markOf_21 wm_X9_274 okX9_freeSize rfl c_9_0_0 rfl rfl rfl (Nat.le_of_ble_eq_true rfl) rfl (Nat.le_of_ble_eq_true rfl) (TT.mono h40 (rI_mono (fun v38 M37 h39 =>
 T_isub dX9_markOf_24 <|
 T_ireturn (ty := .int) dX9_markOf_25 rfl rfl h39))))))))))
theorem rX9_sizeOf_0 {X : Nat × (Nat → Int32)} {a1 : Int32} {a2 : Int32} {M : Mem} {Q : Option PV → Mem → Prop} (h : (a2 < 4 → (¬ a2 = 2 → TT X kX9_began 0 [some (pR (9, 0, 0)), some (pI 11)] [] M (rV fun M1 => TT X kX9_plainSize 0 [some (pR (9, 0, 0)), some (pI a1)] [] M1 (rI fun v4 M3 => TT X kX9_markOf 0 [some (pR (9, 0, 0)), some (pI a1), some (pI a2), none] [] M3 (rI fun v6 M5 => (¬ a2 = 2 → Q (some (pI (v4 + v6))) M5) ∧ (a2 = 2 → Q (some (pI (-(v4 + v6)))) M5))))) ∧ (a2 = 2 → TT X kX9_began 0 [some (pR (9, 0, 0)), some (pI 12)] [] M (rV fun M11 => TT X kX9_began 0 [some (pR (9, 0, 0)), some (pI 11)] [] M11 (rV fun M13 => TT X kX9_plainSize 0 [some (pR (9, 0, 0)), some (pI a1)] [] M13 (rI fun v16 M15 => TT X kX9_markOf 0 [some (pR (9, 0, 0)), some (pI a1), some (pI a2), none] [] M15 (rI fun v18 M17 => (¬ a2 = 2 → Q (some (pI (v16 + v18))) M17) ∧ (a2 = 2 → Q (some (pI (-(v16 + v18)))) M17))))))) ∧ (¬ a2 < 4 → TT X kX9_freeSize 0 [some (pR (9, 0, 0)), some (pI a1), some (pI a2), none] [] M (rI fun v26 M25 => Q (some (pI v26)) M25))) : TT X kX9_sizeOf 0 [some (pR (9, 0, 0)), some (pI a1), some (pI a2), none] [] M Q :=
 T_iload_n dX9_sizeOf_0 rfl <|
 T_iconst dX9_sizeOf_1 ic_4 <|
 T_icmp_lt (tgt := 12) dX9_sizeOf_2 (by decide) (fun z28 =>
 T_iload_n dX9_sizeOf_12 rfl <|
 T_iconst dX9_sizeOf_13 ic_2 <|
 T_icmp_ne (tgt := 23) dX9_sizeOf_14 (by decide) (fun z24 =>
 T_aload_n dX9_sizeOf_23 rfl <|
 T_bipush dX9_sizeOf_24 bp_11 <|
 T_callVv (k' := kX9_began) (vs := [pI 11]) (st := []) dX9_sizeOf_26 wm_X9_268 okX9_began rfl c_9_0_0 rfl rfl rfl (Nat.le_of_ble_eq_true rfl) rfl (Nat.le_of_ble_eq_true rfl) (TT.mono ((h.1 z28).1 z24) (rV_mono (fun M1 h10 =>
 T_aload_n dX9_sizeOf_29 rfl <|
 T_iload_n dX9_sizeOf_30 rfl <|
 T_callVi (k' := kX9_plainSize) (vs := [pI a1]) (st := []) dX9_sizeOf_31 wm_X9_271 okX9_plainSize rfl c_9_0_0 rfl rfl rfl (Nat.le_of_ble_eq_true rfl) rfl (Nat.le_of_ble_eq_true rfl) (TT.mono h10 (rI_mono (fun v4 M3 h9 =>
 T_istore_n dX9_sizeOf_34 (by decide) rfl rfl <|
 T_iload_n dX9_sizeOf_35 rfl <|
 T_aload_n dX9_sizeOf_36 rfl <|
 T_iload_n dX9_sizeOf_37 rfl <|
 T_iload_n dX9_sizeOf_38 rfl <|
 T_callVi (k' := kX9_markOf) (vs := [pI a1, pI a2]) (st := [pI v4]) dX9_sizeOf_39 wm_X9_277 okX9_markOf rfl c_9_0_0 rfl rfl rfl (Nat.le_of_ble_eq_true rfl) rfl (Nat.le_of_ble_eq_true rfl) (TT.mono h9 (rI_mono (fun v6 M5 h8 =>
 T_iadd dX9_sizeOf_42 <|
 T_istore_n dX9_sizeOf_43 (by decide) rfl rfl <|
 T_iload_n dX9_sizeOf_44 rfl <|
 T_iconst dX9_sizeOf_45 ic_2 <|
 T_icmp_ne (tgt := 54) dX9_sizeOf_46 (by decide) (fun z7 =>
 T_iload_n dX9_sizeOf_54 rfl <|
 T_ireturn (ty := .int) dX9_sizeOf_55 rfl rfl (h8.1 z7)) (fun z7 =>
 T_iload_n dX9_sizeOf_49 rfl <|
 T_ineg dX9_sizeOf_50 <|
 T_goto (tgt := 55) dX9_sizeOf_51 (by decide) <|
 T_ireturn (ty := .int) dX9_sizeOf_55 rfl rfl (h8.2 z7)))))))))))) (fun z24 =>
 T_aload_n dX9_sizeOf_17 rfl <|
 T_bipush dX9_sizeOf_18 bp_12 <|
 T_callVv (k' := kX9_began) (vs := [pI 12]) (st := []) dX9_sizeOf_20 wm_X9_268 okX9_began rfl c_9_0_0 rfl rfl rfl (Nat.le_of_ble_eq_true rfl) rfl (Nat.le_of_ble_eq_true rfl) (TT.mono ((h.1 z28).2 z24) (rV_mono (fun M11 h23 =>
 T_aload_n dX9_sizeOf_23 rfl <|
 T_bipush dX9_sizeOf_24 bp_11 <|
 T_callVv (k' := kX9_began) (vs := [pI 11]) (st := []) dX9_sizeOf_26 wm_X9_268 okX9_began rfl c_9_0_0 rfl rfl rfl (Nat.le_of_ble_eq_true rfl) rfl (Nat.le_of_ble_eq_true rfl) (TT.mono h23 (rV_mono (fun M13 h22 =>
 T_aload_n dX9_sizeOf_29 rfl <|
 T_iload_n dX9_sizeOf_30 rfl <|
 T_callVi (k' := kX9_plainSize) (vs := [pI a1]) (st := []) dX9_sizeOf_31 wm_X9_271 okX9_plainSize rfl c_9_0_0 rfl rfl rfl (Nat.le_of_ble_eq_true rfl) rfl (Nat.le_of_ble_eq_true rfl) (TT.mono h22 (rI_mono (fun v16 M15 h21 =>
 T_istore_n dX9_sizeOf_34 (by decide) rfl rfl <|
 T_iload_n dX9_sizeOf_35 rfl <|
 T_aload_n dX9_sizeOf_36 rfl <|
 T_iload_n dX9_sizeOf_37 rfl <|
 T_iload_n dX9_sizeOf_38 rfl <|
 T_callVi (k' := kX9_markOf) (vs := [pI a1, pI a2]) (st := [pI v16]) dX9_sizeOf_39 wm_X9_277 okX9_markOf rfl c_9_0_0 rfl rfl rfl (Nat.le_of_ble_eq_true rfl) rfl (Nat.le_of_ble_eq_true rfl) (TT.mono h21 (rI_mono (fun v18 M17 h20 =>
 T_iadd dX9_sizeOf_42 <|
 T_istore_n dX9_sizeOf_43 (by decide) rfl rfl <|
 T_iload_n dX9_sizeOf_44 rfl <|
 T_iconst dX9_sizeOf_45 ic_2 <|
 T_icmp_ne (tgt := 54) dX9_sizeOf_46 (by decide) (fun z19 =>
 T_iload_n dX9_sizeOf_54 rfl <|
 T_ireturn (ty := .int) dX9_sizeOf_55 rfl rfl (h20.1 z19)) (fun z19 =>
 T_iload_n dX9_sizeOf_49 rfl <|
 T_ineg dX9_sizeOf_50 <|
 T_goto (tgt := 55) dX9_sizeOf_51 (by decide) <|
 T_ireturn (ty := .int) dX9_sizeOf_55 rfl rfl (h20.2 z19)))))))))))))))) (fun z28 =>
 T_aload_n dX9_sizeOf_5 rfl <|
 T_iload_n dX9_sizeOf_6 rfl <|
 T_iload_n dX9_sizeOf_7 rfl <|
 T_callVi (k' := kX9_freeSize) (vs := [pI a1, pI a2]) (st := []) dX9_sizeOf_8 wm_X9_274 okX9_freeSize rfl c_9_0_0 rfl rfl rfl (Nat.le_of_ble_eq_true rfl) rfl (Nat.le_of_ble_eq_true rfl) (TT.mono (h.2 z28) (rI_mono (fun v26 M25 h27 =>
 T_ireturn (ty := .int) dX9_sizeOf_11 rfl rfl h27))))
theorem rX9_ask_0 {X : Nat × (Nat → Int32)} {a1 : Int32} {a2 : Int32} {M : Mem} {Q : Option PV → Mem → Prop} (h : TT X kX9_isStep 0 [some (pR (9, 0, 0)), some (pI a1)] [] (mset M 9 0 0 0 0) (rI fun v2 M1 => (v2 = 0 → Q (some (pI (-1000001))) M1) ∧ (¬ v2 = 0 → TT X kX9_in 0 [some (pL (Int32.toInt64 a2)), none, some (pL 0), none, some (pL 1), none] [] M1 (rI fun v4 M3 => (¬ v4 = 0 → (¬ a2 = 0 → TT X kX9_kindOf 0 [some (pR (9, 0, 0)), some (pI a1), none, none] [] (mset M3 9 0 0 30 0) (rI fun v6 M5 => TT X kX9_markOf 0 [some (pR (9, 0, 0)), some (pI a1), some (pI v6), none] [] M5 (rI fun v8 M7 => Q (some (pI v8)) M7))) ∧ (a2 = 0 → TT X kX9_kindOf 0 [some (pR (9, 0, 0)), some (pI a1), none, none] [] (mset M3 9 0 0 30 0) (rI fun v12 M11 => TT X kX9_sizeOf 0 [some (pR (9, 0, 0)), some (pI a1), some (pI v12), none] [] M11 (rI fun v14 M13 => Q (some (pI v14)) M13)))) ∧ (v4 = 0 → Q (some (pI (-1000001))) M3))))) : TT X kX9_ask 0 [some (pR (9, 0, 0)), some (pI a1), some (pI a2)] [] M Q :=
 T_aload_n dX9_ask_0 rfl <|
 T_iconst dX9_ask_1 ic_0 <|
 T_putI (C := RX9) (T := TX9) (N := 31) (f := 0) dX9_ask_2 c_9_0_0 rfl (by decide) wf_X9_59 rfl rfl rfl <|
 T_aload_n dX9_ask_5 rfl <|
 T_iload_n dX9_ask_6 rfl <|
 T_callVi (k' := kX9_isStep) (vs := [pI a1]) (st := []) dX9_ask_7 wm_X9_182 okX9_isStep rfl c_9_0_0 rfl rfl rfl (Nat.le_of_ble_eq_true rfl) rfl (Nat.le_of_ble_eq_true rfl) (TT.mono h (rI_mono (fun v2 M1 h21 =>
 T_if_eq (tgt := 23) dX9_ask_10 (by decide) (fun z20 =>
 T_ldc dX9_ask_23 wc_X9_79 <|
 T_ireturn (ty := .int) dX9_ask_25 rfl rfl (h21.1 z20)) (fun z20 =>
 T_iload_n dX9_ask_13 rfl <|
 T_i2l dX9_ask_14 <|
 T_lconst dX9_ask_15 lc_0 <|
 T_lconst dX9_ask_16 lc_1 <|
 T_callSi (k' := kX9_in) (vs := [pL (Int32.toInt64 a2), pL 0, pL 1]) (st := []) dX9_ask_17 wm_X9_69 okX9_in rfl rfl rfl (Nat.le_of_ble_eq_true rfl) rfl (Nat.le_of_ble_eq_true rfl) (TT.mono (h21.2 z20) (rI_mono (fun v4 M3 h19 =>
 T_if_ne (tgt := 26) dX9_ask_20 (by decide) (fun z18 =>
 T_aload_n dX9_ask_26 rfl <|
 T_iconst dX9_ask_27 ic_0 <|
 T_putI (C := RX9) (T := TX9) (N := 31) (f := 30) dX9_ask_28 c_9_0_0 rfl (by decide) wf_X9_265 rfl rfl rfl <|
 T_iload_n dX9_ask_31 rfl <|
 T_if_ne (tgt := 48) dX9_ask_32 (by decide) (fun z17 =>
 T_aload_n dX9_ask_48 rfl <|
 T_iload_n dX9_ask_49 rfl <|
 T_aload_n dX9_ask_50 rfl <|
 T_iload_n dX9_ask_51 rfl <|
 T_callVi (k' := kX9_kindOf) (vs := [pI a1]) (st := [pI a1, pR (9, 0, 0)]) dX9_ask_52 wm_X9_257 okX9_kindOf rfl c_9_0_0 rfl rfl rfl (Nat.le_of_ble_eq_true rfl) rfl (Nat.le_of_ble_eq_true rfl) (TT.mono ((h19.1 z18).1 z17) (rI_mono (fun v6 M5 h10 =>
 T_callVi (k' := kX9_markOf) (vs := [pI a1, pI v6]) (st := []) dX9_ask_55 wm_X9_277 okX9_markOf rfl c_9_0_0 rfl rfl rfl (Nat.le_of_ble_eq_true rfl) rfl (Nat.le_of_ble_eq_true rfl) (TT.mono h10 (rI_mono (fun v8 M7 h9 =>
 T_ireturn (ty := .int) dX9_ask_58 rfl rfl h9))))))) (fun z17 =>
 T_aload_n dX9_ask_35 rfl <|
 T_iload_n dX9_ask_36 rfl <|
 T_aload_n dX9_ask_37 rfl <|
 T_iload_n dX9_ask_38 rfl <|
 T_callVi (k' := kX9_kindOf) (vs := [pI a1]) (st := [pI a1, pR (9, 0, 0)]) dX9_ask_39 wm_X9_257 okX9_kindOf rfl c_9_0_0 rfl rfl rfl (Nat.le_of_ble_eq_true rfl) rfl (Nat.le_of_ble_eq_true rfl) (TT.mono ((h19.1 z18).2 z17) (rI_mono (fun v12 M11 h16 =>
 T_callVi (k' := kX9_sizeOf) (vs := [pI a1, pI v12]) (st := []) dX9_ask_42 wm_X9_280 okX9_sizeOf rfl c_9_0_0 rfl rfl rfl (Nat.le_of_ble_eq_true rfl) rfl (Nat.le_of_ble_eq_true rfl) (TT.mono h16 (rI_mono (fun v14 M13 h15 =>
 T_goto (tgt := 58) dX9_ask_45 (by decide) <|
 T_ireturn (ty := .int) dX9_ask_58 rfl rfl h15)))))))) (fun z18 =>
 T_ldc dX9_ask_23 wc_X9_79 <|
 T_ireturn (ty := .int) dX9_ask_25 rfl rfl (h19.2 z18)))))))))
theorem rX9_trace_0 {X : Nat × (Nat → Int32)} {a1 : Int32} {M : Mem} {Q : Option PV → Mem → Prop} (h : TT X kX9_in 0 [some (pL (Int32.toInt64 a1)), none, some (pL 0), none, some (pL (Int32.toInt64 (((mset M 9 0 0 0 0) 9 0 0 30) - 1))), none] [] (mset M 9 0 0 0 0) (rI fun v2 M1 => (v2 = 0 → Q (some (pI (-1000000))) M1) ∧ (¬ v2 = 0 → vp_in a1 16 ∧ (Q (some (pI (M1 9 0 30 (Int32.toNatClampNeg a1)))) M1)))) : TT X kX9_trace 0 [some (pR (9, 0, 0)), some (pI a1)] [] M Q :=
 T_aload_n dX9_trace_0 rfl <|
 T_iconst dX9_trace_1 ic_0 <|
 T_putI (C := RX9) (T := TX9) (N := 31) (f := 0) dX9_trace_2 c_9_0_0 rfl (by decide) wf_X9_59 rfl rfl rfl <|
 T_iload_n dX9_trace_5 rfl <|
 T_i2l dX9_trace_6 <|
 T_lconst dX9_trace_7 lc_0 <|
 T_aload_n dX9_trace_8 rfl <|
 T_getI (C := RX9) (T := TX9) (N := 31) (f := 30) dX9_trace_9 c_9_0_0 rfl (by decide) wf_X9_265 rfl <|
 T_iconst dX9_trace_12 ic_1 <|
 T_isub dX9_trace_13 <|
 T_i2l dX9_trace_14 <|
 T_callSi (k' := kX9_in) (vs := [pL (Int32.toInt64 a1), pL 0, pL (Int32.toInt64 (((mset M 9 0 0 0 0) 9 0 0 30) - 1))]) (st := []) dX9_trace_15 wm_X9_69 okX9_in rfl rfl rfl (Nat.le_of_ble_eq_true rfl) rfl (Nat.le_of_ble_eq_true rfl) (TT.mono h (rI_mono (fun v2 M1 h4 =>
 T_if_eq (tgt := 30) dX9_trace_18 (by decide) (fun z3 =>
 T_ldc dX9_trace_30 wc_X9_95 <|
 T_ireturn (ty := .int) dX9_trace_32 rfl rfl (h4.1 z3)) (fun z3 =>
 T_aload_n dX9_trace_21 rfl <|
 T_getR (C := RX9) (T := TX9) (N := 31) (f := 29) dX9_trace_22 c_9_0_0 rfl (by decide) wf_X9_56 rfl <|
 T_iload_n dX9_trace_25 rfl <|
 T_iald (n := 16) dX9_trace_26 c_9_0_30 (by decide) (by decide) (by decide) rfl (h4.2 z3).1 <|
 T_goto (tgt := 32) dX9_trace_27 (by decide) <|
 T_ireturn (ty := .int) dX9_trace_32 rfl rfl (h4.2 z3).2))))
theorem rX9_count_0 {X : Nat × (Nat → Int32)} {a1 : Int32} {M : Mem} {Q : Option PV → Mem → Prop} (h : (a1 = 0 → TT X kX9_count 50 [some (pR (9, 0, 0)), some (pI a1), some (pI 0), some (pI 0)] [] (mset M 9 0 0 0 0) Q) ∧ (a1 = 1 → vp_in (a1 - 1) 80 ∧ (Q (some (pI ((mset M 9 0 0 0 0) 9 0 6 (Int32.toNatClampNeg (a1 - 1))))) (mset M 9 0 0 0 0))) ∧ (a1 = 2 → vp_in (a1 - 1) 80 ∧ (Q (some (pI ((mset M 9 0 0 0 0) 9 0 6 (Int32.toNatClampNeg (a1 - 1))))) (mset M 9 0 0 0 0))) ∧ (a1 = 3 → TT X kX9_count 92 [some (pR (9, 0, 0)), some (pI a1), some (pI 0), some (pI 0)] [] (mset M 9 0 0 0 0) Q) ∧ (a1 = 4 → Q (some (pI ((mset M 9 0 0 0 0) 9 0 0 9))) (mset M 9 0 0 0 0)) ∧ (a1 = 5 → Q (some (pI ((mset M 9 0 0 0 0) 9 0 0 11))) (mset M 9 0 0 0 0)) ∧ (((a1).toInt < 0 ∨ 5 < (a1).toInt) → Q (some (pI (-1000001))) (mset M 9 0 0 0 0))) : TT X kX9_count 0 [some (pR (9, 0, 0)), some (pI a1), none, none] [] M Q :=
 T_aload_n dX9_count_0 rfl <|
 T_iconst dX9_count_1 ic_0 <|
 T_putI (C := RX9) (T := TX9) (N := 31) (f := 0) dX9_count_2 c_9_0_0 rfl (by decide) wf_X9_59 rfl rfl rfl <|
 T_iconst dX9_count_5 ic_0 <|
 T_istore_n dX9_count_6 (by decide) rfl rfl <|
 T_iload_n dX9_count_7 rfl <|
 (Decidable.byCases (fun z1 : a1 = 0 => T_table (tgt := 48) dX9_count_8 (by rw [z1]; decide +kernel) (by decide) <|
 T_iconst dX9_count_48 ic_0 <|
 T_istore_n dX9_count_49 (by decide) rfl rfl <|
 (h.1 z1)) (fun nz1 : ¬ a1 = 0 =>
 (Decidable.byCases (fun z2 : a1 = 1 => T_table (tgt := 81) dX9_count_8 (by rw [z2]; decide +kernel) (by decide) <|
 T_aload_n dX9_count_81 rfl <|
 T_getR (C := RX9) (T := TX9) (N := 31) (f := 5) dX9_count_82 c_9_0_0 rfl (by decide) wf_X9_19 rfl <|
 T_iload_n dX9_count_85 rfl <|
 T_iconst dX9_count_86 ic_1 <|
 T_isub dX9_count_87 <|
 T_iald (n := 80) dX9_count_88 c_9_0_6 (by decide) (by decide) (by decide) rfl (h.2.1 z2).1 <|
 T_ireturn (ty := .int) dX9_count_89 rfl rfl (h.2.1 z2).2) (fun nz2 : ¬ a1 = 1 =>
 (Decidable.byCases (fun z3 : a1 = 2 => T_table (tgt := 81) dX9_count_8 (by rw [z3]; decide +kernel) (by decide) <|
 T_aload_n dX9_count_81 rfl <|
 T_getR (C := RX9) (T := TX9) (N := 31) (f := 5) dX9_count_82 c_9_0_0 rfl (by decide) wf_X9_19 rfl <|
 T_iload_n dX9_count_85 rfl <|
 T_iconst dX9_count_86 ic_1 <|
 T_isub dX9_count_87 <|
 T_iald (n := 80) dX9_count_88 c_9_0_6 (by decide) (by decide) (by decide) rfl (h.2.2.1 z3).1 <|
 T_ireturn (ty := .int) dX9_count_89 rfl rfl (h.2.2.1 z3).2) (fun nz3 : ¬ a1 = 2 =>
 (Decidable.byCases (fun z4 : a1 = 3 => T_table (tgt := 90) dX9_count_8 (by rw [z4]; decide +kernel) (by decide) <|
 T_iconst dX9_count_90 ic_0 <|
 T_istore_n dX9_count_91 (by decide) rfl rfl <|
 (h.2.2.2.1 z4)) (fun nz4 : ¬ a1 = 3 =>
 (Decidable.byCases (fun z5 : a1 = 4 => T_table (tgt := 125) dX9_count_8 (by rw [z5]; decide +kernel) (by decide) <|
 T_aload_n dX9_count_125 rfl <|
 T_getI (C := RX9) (T := TX9) (N := 31) (f := 9) dX9_count_126 c_9_0_0 rfl (by decide) wf_X9_174 rfl <|
 T_ireturn (ty := .int) dX9_count_129 rfl rfl (h.2.2.2.2.1 z5)) (fun nz5 : ¬ a1 = 4 =>
 (Decidable.byCases (fun z6 : a1 = 5 => T_table (tgt := 130) dX9_count_8 (by rw [z6]; decide +kernel) (by decide) <|
 T_aload_n dX9_count_130 rfl <|
 T_getI (C := RX9) (T := TX9) (N := 31) (f := 11) dX9_count_131 c_9_0_0 rfl (by decide) wf_X9_86 rfl <|
 T_ireturn (ty := .int) dX9_count_134 rfl rfl (h.2.2.2.2.2.1 z6)) (fun nz6 : ¬ a1 = 5 =>
 (have zd6 := swo_0_5 nz1 nz2 nz3 nz4 nz5 nz6
 T_table (tgt := 135) dX9_count_8 (by rw [if_pos zd6]; decide) (by decide) <|
 T_ldc dX9_count_135 wc_X9_79 <|
 T_ireturn (ty := .int) dX9_count_137 rfl rfl (h.2.2.2.2.2.2 zd6))))))))))))))
theorem rX9_count_50 {X : Nat × (Nat → Int32)} {b1 : Int32} {b2 : Int32} {b3 : Int32} {M : Mem} {Q : Option PV → Mem → Prop} (h : (8 ≤ b3 → Q (some (pI b2)) M) ∧ (¬ 8 ≤ b3 → vp_in b3 8 ∧ (((M 9 0 3 (Int32.toNatClampNeg b3)) < 0 → TT X kX9_count 50 [some (pR (9, 0, 0)), some (pI b1), some (pI (b2 + 0)), some (pI (b3 + 1))] [] M Q) ∧ (¬ (M 9 0 3 (Int32.toNatClampNeg b3)) < 0 → TT X kX9_count 50 [some (pR (9, 0, 0)), some (pI b1), some (pI (b2 + 1)), some (pI (b3 + 1))] [] M Q)))) : TT X kX9_count 50 [some (pR (9, 0, 0)), some (pI b1), some (pI b2), some (pI b3)] [] M Q :=
 T_iload_n dX9_count_50 rfl <|
 T_bipush dX9_count_51 bp_8 <|
 T_icmp_ge (tgt := 79) dX9_count_53 (by decide) (fun z8 =>
 T_iload_n dX9_count_79 rfl <|
 T_ireturn (ty := .int) dX9_count_80 rfl rfl (h.1 z8)) (fun z8 =>
 T_iload_n dX9_count_56 rfl <|
 T_aload_n dX9_count_57 rfl <|
 T_getR (C := RX9) (T := TX9) (N := 31) (f := 2) dX9_count_58 c_9_0_0 rfl (by decide) wf_X9_7 rfl <|
 T_iload_n dX9_count_61 rfl <|
 T_iald (n := 8) dX9_count_62 c_9_0_3 (by decide) (by decide) (by decide) rfl (h.2 z8).1 <|
 T_if_lt (tgt := 70) dX9_count_63 (by decide) (fun z7 =>
 T_iconst dX9_count_70 ic_0 <|
 T_iadd dX9_count_71 <|
 T_istore_n dX9_count_72 (by decide) rfl rfl <|
 T_iinc dX9_count_73 rfl (ii_1 _) (by decide) rfl rfl <|
 T_goto (tgt := 50) dX9_count_76 (by decide) <|
 ((h.2 z8).2.1 z7)) (fun z7 =>
 T_iconst dX9_count_66 ic_1 <|
 T_goto (tgt := 71) dX9_count_67 (by decide) <|
 T_iadd dX9_count_71 <|
 T_istore_n dX9_count_72 (by decide) rfl rfl <|
 T_iinc dX9_count_73 rfl (ii_1 _) (by decide) rfl rfl <|
 T_goto (tgt := 50) dX9_count_76 (by decide) <|
 ((h.2 z8).2.2 z7)))
theorem rX9_count_92 {X : Nat × (Nat → Int32)} {b1 : Int32} {b2 : Int32} {b3 : Int32} {M : Mem} {Q : Option PV → Mem → Prop} (h : ((M 9 0 6 0) ≤ b3 → Q (some (pI b2)) M) ∧ (¬ (M 9 0 6 0) ≤ b3 → vp_in ((2 + (3 * b3)) + 2) 80 ∧ (TT X kX9_count 92 [some (pR (9, 0, 0)), some (pI b1), some (pI (b2 + (M 9 0 6 (Int32.toNatClampNeg ((2 + (3 * b3)) + 2))))), some (pI (b3 + 1))] [] M Q))) : TT X kX9_count 92 [some (pR (9, 0, 0)), some (pI b1), some (pI b2), some (pI b3)] [] M Q :=
 T_iload_n dX9_count_92 rfl <|
 T_aload_n dX9_count_93 rfl <|
 T_getR (C := RX9) (T := TX9) (N := 31) (f := 5) dX9_count_94 c_9_0_0 rfl (by decide) wf_X9_19 rfl <|
 T_iconst dX9_count_97 ic_0 <|
 T_ialdN (n := 80) dX9_count_98 c_9_0_6 (by decide) (by decide) (by decide) rfl vi_0_80 tn_0 <|
 T_icmp_ge (tgt := 123) dX9_count_99 (by decide) (fun z9 =>
 T_iload_n dX9_count_123 rfl <|
 T_ireturn (ty := .int) dX9_count_124 rfl rfl (h.1 z9)) (fun z9 =>
 T_iload_n dX9_count_102 rfl <|
 T_aload_n dX9_count_103 rfl <|
 T_getR (C := RX9) (T := TX9) (N := 31) (f := 5) dX9_count_104 c_9_0_0 rfl (by decide) wf_X9_19 rfl <|
 T_iconst dX9_count_107 ic_2 <|
 T_iconst dX9_count_108 ic_3 <|
 T_iload_n dX9_count_109 rfl <|
 T_imul dX9_count_110 <|
 T_iadd dX9_count_111 <|
 T_iconst dX9_count_112 ic_2 <|
 T_iadd dX9_count_113 <|
 T_iald (n := 80) dX9_count_114 c_9_0_6 (by decide) (by decide) (by decide) rfl (h.2 z9).1 <|
 T_iadd dX9_count_115 <|
 T_istore_n dX9_count_116 (by decide) rfl rfl <|
 T_iinc dX9_count_117 rfl (ii_1 _) (by decide) rfl rfl <|
 T_goto (tgt := 92) dX9_count_120 (by decide) <|
 (h.2 z9).2)
theorem rX9_status_0 {X : Nat × (Nat → Int32)}  {M : Mem} {Q : Option PV → Mem → Prop} (h : Q (some (pI ((mset M 9 0 0 0 0) 9 0 0 1))) (mset M 9 0 0 0 0)) : TT X kX9_status 0 [some (pR (9, 0, 0))] [] M Q :=
 T_aload_n dX9_status_0 rfl <|
 T_iconst dX9_status_1 ic_0 <|
 T_putI (C := RX9) (T := TX9) (N := 31) (f := 0) dX9_status_2 c_9_0_0 rfl (by decide) wf_X9_59 rfl rfl rfl <|
 T_aload_n dX9_status_5 rfl <|
 T_getI (C := RX9) (T := TX9) (N := 31) (f := 1) dX9_status_6 c_9_0_0 rfl (by decide) wf_X9_63 rfl <|
 T_ireturn (ty := .int) dX9_status_9 rfl rfl h
