theorem rX9_in_0 {X : Nat × (Nat → Int32)} {a1 : Int64} {a2 : Int64} {a3 : Int64} {M : Mem} {Q : Option PV → Mem → Prop} (h : ((lg_cmp a1 a2) < 0 → Q (some (pI 0)) M) ∧ (¬ (lg_cmp a1 a2) < 0 → (0 < (lg_cmp a1 a3) → Q (some (pI 0)) M) ∧ (¬ 0 < (lg_cmp a1 a3) → Q (some (pI 1)) M))) : TT X kX9_in 0 [some (pL a1), none, some (pL a2), none, some (pL a3), none] [] M Q :=
 T_lload_n dX9_in_0 rfl <|
 T_lload_n dX9_in_1 rfl <|
 T_lcmp dX9_in_2 <|
 T_if_lt (tgt := 17) dX9_in_3 (by decide) (fun z2 =>
 T_iconst dX9_in_17 ic_0 <|
 T_ireturn (ty := .boolean) dX9_in_18 rfl rfl (h.1 z2)) (fun z2 =>
 T_lload_n dX9_in_6 rfl <|
 T_lload dX9_in_7 rfl <|
 T_lcmp dX9_in_9 <|
 T_if_gt (tgt := 17) dX9_in_10 (by decide) (fun z1 =>
 T_iconst dX9_in_17 ic_0 <|
 T_ireturn (ty := .boolean) dX9_in_18 rfl rfl ((h.2 z2).1 z1)) (fun z1 =>
 T_iconst dX9_in_13 ic_1 <|
 T_goto (tgt := 18) dX9_in_14 (by decide) <|
 T_ireturn (ty := .boolean) dX9_in_18 rfl rfl ((h.2 z2).2 z1)))
theorem rX9_finding_0 {X : Nat × (Nat → Int32)} {a1 : Int32} {M : Mem} {Q : Option PV → Mem → Prop} (h : Q (some (pI ((-1000010) - a1))) (mset M 9 0 0 1 a1)) : TT X kX9_finding 0 [some (pR (9, 0, 0)), some (pI a1)] [] M Q :=
 T_aload_n dX9_finding_0 rfl <|
 T_iload_n dX9_finding_1 rfl <|
 T_putI (C := RX9) (T := TX9) (N := 31) (f := 1) dX9_finding_2 c_9_0_0 rfl (by decide) wf_X9_63 rfl rfl rfl <|
 T_ldc dX9_finding_5 wc_X9_66 <|
 T_iload_n dX9_finding_7 rfl <|
 T_isub dX9_finding_8 <|
 T_ireturn (ty := .int) dX9_finding_9 rfl rfl h
theorem rX9_isRow_0 {X : Nat × (Nat → Int32)} {a1 : Int32} {M : Mem} {Q : Option PV → Mem → Prop} (h : TT X kX9_in 0 [some (pL (Int32.toInt64 a1)), none, some (pL 0), none, some (pL 7), none] [] M (rI fun v2 M1 => (v2 = 0 ∨ v2 = 1) ∧ Q (some (pI v2)) M1)) : TT X kX9_isRow 0 [some (pI a1)] [] M Q :=
 T_iload_n dX9_isRow_0 rfl <|
 T_i2l dX9_isRow_1 <|
 T_lconst dX9_isRow_2 lc_0 <|
 T_ldc2 dX9_isRow_3 wl_X9_67 <|
 T_callSi (k' := kX9_in) (vs := [pL (Int32.toInt64 a1), pL 0, pL 7]) (st := []) dX9_isRow_6 wm_X9_69 okX9_in rfl rfl rfl (Nat.le_of_ble_eq_true rfl) rfl (Nat.le_of_ble_eq_true rfl) (TT.mono h (rI_mono (fun v2 M1 h3 =>
 T_ireturn (ty := .boolean) dX9_isRow_9 rfl (nz_b h3.1) h3.2)))
theorem rX9_row_0 {X : Nat × (Nat → Int32)} {a1 : Int32} {a2 : Int32} {a3 : Int32} {M : Mem} {Q : Option PV → Mem → Prop} (h : TT X kX9_isRow 0 [some (pI a1)] [] (mset M 9 0 0 0 0) (rI fun v2 M1 => (v2 = 0 → Q (some (pI (-1000001))) M1) ∧ (¬ v2 = 0 → TT X kX9_in 0 [some (pL (Int32.toInt64 a2)), none, some (pL 0), none, some (pL 2), none] [] M1 (rI fun v4 M3 => (v4 = 0 → Q (some (pI (-1000001))) M3) ∧ (¬ v4 = 0 → (a3 ≤ 40 → (0 ≤ a3 → vp_in a1 8 ∧ (vp_in a1 8 ∧ (TT X kX9_row 65 [some (pR (9, 0, 0)), some (pI a1), some (pI a2), some (pI a3), some (pI 0)] [] (mset (mset (mset M3 9 0 0 1 0) 9 0 3 (Int32.toNatClampNeg a1) a2) 9 0 4 (Int32.toNatClampNeg a1) a3) Q))) ∧ (¬ 0 ≤ a3 → TT X kX9_finding 0 [some (pR (9, 0, 0)), some (pI 4)] [] (mset M3 9 0 0 1 0) (rI fun v6 M5 => Q (some (pI v6)) M5))) ∧ (¬ a3 ≤ 40 → Q (some (pI (-1000001))) M3)))))) : TT X kX9_row 0 [some (pR (9, 0, 0)), some (pI a1), some (pI a2), some (pI a3), none] [] M Q :=
 T_aload_n dX9_row_0 rfl <|
 T_iconst dX9_row_1 ic_0 <|
 T_putI (C := RX9) (T := TX9) (N := 31) (f := 0) dX9_row_2 c_9_0_0 rfl (by decide) wf_X9_59 rfl rfl rfl <|
 T_iload_n dX9_row_5 rfl <|
 T_callSi (k' := kX9_isRow) (vs := [pI a1]) (st := []) dX9_row_6 wm_X9_73 okX9_isRow rfl rfl rfl (Nat.le_of_ble_eq_true rfl) rfl (Nat.le_of_ble_eq_true rfl) (TT.mono h (rI_mono (fun v2 M1 h13 =>
 T_if_eq (tgt := 30) dX9_row_9 (by decide) (fun z12 =>
 T_ldc dX9_row_30 wc_X9_79 <|
 T_ireturn (ty := .int) dX9_row_32 rfl rfl (h13.1 z12)) (fun z12 =>
 T_iload_n dX9_row_12 rfl <|
 T_i2l dX9_row_13 <|
 T_lconst dX9_row_14 lc_0 <|
 T_ldc2 dX9_row_15 wl_X9_77 <|
 T_callSi (k' := kX9_in) (vs := [pL (Int32.toInt64 a2), pL 0, pL 2]) (st := []) dX9_row_18 wm_X9_69 okX9_in rfl rfl rfl (Nat.le_of_ble_eq_true rfl) rfl (Nat.le_of_ble_eq_true rfl) (TT.mono (h13.2 z12) (rI_mono (fun v4 M3 h11 =>
 T_if_eq (tgt := 30) dX9_row_21 (by decide) (fun z10 =>
 T_ldc dX9_row_30 wc_X9_79 <|
 T_ireturn (ty := .int) dX9_row_32 rfl rfl (h11.1 z10)) (fun z10 =>
 T_iload_n dX9_row_24 rfl <|
 T_bipush dX9_row_25 bp_40 <|
 T_icmp_le (tgt := 33) dX9_row_27 (by decide) (fun z9 =>
 T_aload_n dX9_row_33 rfl <|
 T_iconst dX9_row_34 ic_0 <|
 T_putI (C := RX9) (T := TX9) (N := 31) (f := 1) dX9_row_35 c_9_0_0 rfl (by decide) wf_X9_63 rfl rfl rfl <|
 T_iload_n dX9_row_38 rfl <|
 T_if_ge (tgt := 48) dX9_row_39 (by decide) (fun z8 =>
 T_aload_n dX9_row_48 rfl <|
 T_getR (C := RX9) (T := TX9) (N := 31) (f := 2) dX9_row_49 c_9_0_0 rfl (by decide) wf_X9_7 rfl <|
 T_iload_n dX9_row_52 rfl <|
 T_iload_n dX9_row_53 rfl <|
 T_iast (n := 8) dX9_row_54 c_9_0_3 (by decide) (by decide) (by decide) rfl (((h11.2 z10).1 z9).1 z8).1 <|
 T_aload_n dX9_row_55 rfl <|
 T_getR (C := RX9) (T := TX9) (N := 31) (f := 3) dX9_row_56 c_9_0_0 rfl (by decide) wf_X9_13 rfl <|
 T_iload_n dX9_row_59 rfl <|
 T_iload_n dX9_row_60 rfl <|
 T_iast (n := 8) dX9_row_61 c_9_0_4 (by decide) (by decide) (by decide) rfl (((h11.2 z10).1 z9).1 z8).2.1 <|
 T_iconst dX9_row_62 ic_0 <|
 T_istore dX9_row_63 (by decide) rfl rfl <|
 (((h11.2 z10).1 z9).1 z8).2.2) (fun z8 =>
 T_aload_n dX9_row_42 rfl <|
 T_iconst dX9_row_43 ic_4 <|
 T_callVi (k' := kX9_finding) (vs := [pI 4]) (st := []) dX9_row_44 wm_X9_80 okX9_finding rfl c_9_0_0 rfl rfl rfl (Nat.le_of_ble_eq_true rfl) rfl (Nat.le_of_ble_eq_true rfl) (TT.mono (((h11.2 z10).1 z9).2 z8) (rI_mono (fun v6 M5 h7 =>
 T_ireturn (ty := .int) dX9_row_47 rfl rfl h7))))) (fun z9 =>
 T_ldc dX9_row_30 wc_X9_79 <|
 T_ireturn (ty := .int) dX9_row_32 rfl rfl ((h11.2 z10).2 z9))))))))))
theorem rX9_row_65 {X : Nat × (Nat → Int32)} {b1 : Int32} {b2 : Int32} {b3 : Int32} {b4 : Int32} {M : Mem} {Q : Option PV → Mem → Prop} (h : (40 ≤ b4 → Q (some (pI b3)) M) ∧ (¬ 40 ≤ b4 → vp_in ((40 * b1) + b4) 320 ∧ (TT X kX9_row 65 [some (pR (9, 0, 0)), some (pI b1), some (pI b2), some (pI b3), some (pI (b4 + 1))] [] (mset M 9 0 5 (Int32.toNatClampNeg ((40 * b1) + b4)) 0) Q))) : TT X kX9_row 65 [some (pR (9, 0, 0)), some (pI b1), some (pI b2), some (pI b3), some (pI b4)] [] M Q :=
 T_iload dX9_row_65 rfl <|
 T_bipush dX9_row_67 bp_40 <|
 T_icmp_ge (tgt := 91) dX9_row_69 (by decide) (fun z14 =>
 T_iload_n dX9_row_91 rfl <|
 T_ireturn (ty := .int) dX9_row_92 rfl rfl (h.1 z14)) (fun z14 =>
 T_aload_n dX9_row_72 rfl <|
 T_getR (C := RX9) (T := TX9) (N := 31) (f := 4) dX9_row_73 c_9_0_0 rfl (by decide) wf_X9_16 rfl <|
 T_bipush dX9_row_76 bp_40 <|
 T_iload_n dX9_row_78 rfl <|
 T_imul dX9_row_79 <|
 T_iload dX9_row_80 rfl <|
 T_iadd dX9_row_82 <|
 T_iconst dX9_row_83 ic_0 <|
 T_iast (n := 320) dX9_row_84 c_9_0_5 (by decide) (by decide) (by decide) rfl (h.2 z14).1 <|
 T_iinc dX9_row_85 rfl (ii_1 _) (by decide) rfl rfl <|
 T_goto (tgt := 65) dX9_row_88 (by decide) <|
 (h.2 z14).2)
theorem rX9_set_0 {X : Nat × (Nat → Int32)} {a1 : Int32} {a2 : Int32} {a3 : Int32} {M : Mem} {Q : Option PV → Mem → Prop} (h : TT X kX9_isRow 0 [some (pI a1)] [] (mset M 9 0 0 0 0) (rI fun v2 M1 => (¬ v2 = 0 → vp_in a1 8 ∧ ((0 ≤ ((mset M1 9 0 0 1 0) 9 0 3 (Int32.toNatClampNeg a1)) → vp_in a1 8 ∧ (TT X kX9_in 0 [some (pL (Int32.toInt64 a2)), none, some (pL 0), none, some (pL (Int32.toInt64 (((mset M1 9 0 0 1 0) 9 0 4 (Int32.toNatClampNeg a1)) - 1))), none] [] (mset M1 9 0 0 1 0) (rI fun v4 M3 => (¬ v4 = 0 → vp_in a1 8 ∧ ((¬ (M3 9 0 3 (Int32.toNatClampNeg a1)) = 0 → vp_in a1 8 ∧ ((¬ (M3 9 0 3 (Int32.toNatClampNeg a1)) = 1 → vp_in ((40 * a1) + a2) 320 ∧ (vp_in ((40 * a1) + a2) 320 ∧ (Q (some (pI ((mset M3 9 0 5 (Int32.toNatClampNeg ((40 * a1) + a2)) a3) 9 0 5 (Int32.toNatClampNeg ((40 * a1) + a2))))) (mset M3 9 0 5 (Int32.toNatClampNeg ((40 * a1) + a2)) a3)))) ∧ ((M3 9 0 3 (Int32.toNatClampNeg a1)) = 1 → vp_in ((40 * a1) + a2) 320 ∧ (vp_in ((40 * a1) + a2) 320 ∧ (Q (some (pI ((mset M3 9 0 5 (Int32.toNatClampNeg ((40 * a1) + a2)) ((Int32.toInt16 a3).toInt32)) 9 0 5 (Int32.toNatClampNeg ((40 * a1) + a2))))) (mset M3 9 0 5 (Int32.toNatClampNeg ((40 * a1) + a2)) ((Int32.toInt16 a3).toInt32))))))) ∧ ((M3 9 0 3 (Int32.toNatClampNeg a1)) = 0 → vp_in ((40 * a1) + a2) 320 ∧ (vp_in ((40 * a1) + a2) 320 ∧ (Q (some (pI ((mset M3 9 0 5 (Int32.toNatClampNeg ((40 * a1) + a2)) ((Int32.toInt8 a3).toInt32)) 9 0 5 (Int32.toNatClampNeg ((40 * a1) + a2))))) (mset M3 9 0 5 (Int32.toNatClampNeg ((40 * a1) + a2)) ((Int32.toInt8 a3).toInt32))))))) ∧ (v4 = 0 → TT X kX9_finding 0 [some (pR (9, 0, 0)), some (pI 2)] [] M3 (rI fun v8 M7 => Q (some (pI v8)) M7))))) ∧ (¬ 0 ≤ ((mset M1 9 0 0 1 0) 9 0 3 (Int32.toNatClampNeg a1)) → TT X kX9_finding 0 [some (pR (9, 0, 0)), some (pI 1)] [] (mset M1 9 0 0 1 0) (rI fun v13 M12 => Q (some (pI v13)) M12)))) ∧ (v2 = 0 → Q (some (pI (-1000001))) M1))) : TT X kX9_set 0 [some (pR (9, 0, 0)), some (pI a1), some (pI a2), some (pI a3)] [] M Q :=
 T_aload_n dX9_set_0 rfl <|
 T_iconst dX9_set_1 ic_0 <|
 T_putI (C := RX9) (T := TX9) (N := 31) (f := 0) dX9_set_2 c_9_0_0 rfl (by decide) wf_X9_59 rfl rfl rfl <|
 T_iload_n dX9_set_5 rfl <|
 T_callSi (k' := kX9_isRow) (vs := [pI a1]) (st := []) dX9_set_6 wm_X9_73 okX9_isRow rfl rfl rfl (Nat.le_of_ble_eq_true rfl) rfl (Nat.le_of_ble_eq_true rfl) (TT.mono h (rI_mono (fun v2 M1 h17 =>
 T_if_ne (tgt := 15) dX9_set_9 (by decide) (fun z16 =>
 T_aload_n dX9_set_15 rfl <|
 T_iconst dX9_set_16 ic_0 <|
 T_putI (C := RX9) (T := TX9) (N := 31) (f := 1) dX9_set_17 c_9_0_0 rfl (by decide) wf_X9_63 rfl rfl rfl <|
 T_aload_n dX9_set_20 rfl <|
 T_getR (C := RX9) (T := TX9) (N := 31) (f := 2) dX9_set_21 c_9_0_0 rfl (by decide) wf_X9_7 rfl <|
 T_iload_n dX9_set_24 rfl <|
 T_iald (n := 8) dX9_set_25 c_9_0_3 (by decide) (by decide) (by decide) rfl (h17.1 z16).1 <|
 T_if_ge (tgt := 35) dX9_set_26 (by decide) (fun z15 =>
 T_iload_n dX9_set_35 rfl <|
 T_i2l dX9_set_36 <|
 T_lconst dX9_set_37 lc_0 <|
 T_aload_n dX9_set_38 rfl <|
 T_getR (C := RX9) (T := TX9) (N := 31) (f := 3) dX9_set_39 c_9_0_0 rfl (by decide) wf_X9_13 rfl <|
 T_iload_n dX9_set_42 rfl <|
 T_iald (n := 8) dX9_set_43 c_9_0_4 (by decide) (by decide) (by decide) rfl ((h17.1 z16).2.1 z15).1 <|
 T_iconst dX9_set_44 ic_1 <|
 T_isub dX9_set_45 <|
 T_i2l dX9_set_46 <|
 T_callSi (k' := kX9_in) (vs := [pL (Int32.toInt64 a2), pL 0, pL (Int32.toInt64 (((mset M1 9 0 0 1 0) 9 0 4 (Int32.toNatClampNeg a1)) - 1))]) (st := []) dX9_set_47 wm_X9_69 okX9_in rfl rfl rfl (Nat.le_of_ble_eq_true rfl) rfl (Nat.le_of_ble_eq_true rfl) (TT.mono ((h17.1 z16).2.1 z15).2 (rI_mono (fun v4 M3 h11 =>
 T_if_ne (tgt := 59) dX9_set_50 (by decide) (fun z10 =>
 T_aload_n dX9_set_59 rfl <|
 T_getR (C := RX9) (T := TX9) (N := 31) (f := 4) dX9_set_60 c_9_0_0 rfl (by decide) wf_X9_16 rfl <|
 T_bipush dX9_set_63 bp_40 <|
 T_iload_n dX9_set_65 rfl <|
 T_imul dX9_set_66 <|
 T_iload_n dX9_set_67 rfl <|
 T_iadd dX9_set_68 <|
 T_aload_n dX9_set_69 rfl <|
 T_getR (C := RX9) (T := TX9) (N := 31) (f := 2) dX9_set_70 c_9_0_0 rfl (by decide) wf_X9_7 rfl <|
 T_iload_n dX9_set_73 rfl <|
 T_iald (n := 8) dX9_set_74 c_9_0_3 (by decide) (by decide) (by decide) rfl (h11.1 z10).1 <|
 T_if_ne (tgt := 83) dX9_set_75 (by decide) (fun z6 =>
 T_aload_n dX9_set_83 rfl <|
 T_getR (C := RX9) (T := TX9) (N := 31) (f := 2) dX9_set_84 c_9_0_0 rfl (by decide) wf_X9_7 rfl <|
 T_iload_n dX9_set_87 rfl <|
 T_iald (n := 8) dX9_set_88 c_9_0_3 (by decide) (by decide) (by decide) rfl ((h11.1 z10).2.1 z6).1 <|
 T_iconst dX9_set_89 ic_1 <|
 T_icmp_ne (tgt := 98) dX9_set_90 (by decide) (fun z5 =>
 T_iload_n dX9_set_98 rfl <|
 T_iast (n := 320) dX9_set_99 c_9_0_5 (by decide) (by decide) (by decide) rfl (((h11.1 z10).2.1 z6).2.1 z5).1 <|
 T_aload_n dX9_set_100 rfl <|
 T_getR (C := RX9) (T := TX9) (N := 31) (f := 4) dX9_set_101 c_9_0_0 rfl (by decide) wf_X9_16 rfl <|
 T_bipush dX9_set_104 bp_40 <|
 T_iload_n dX9_set_106 rfl <|
 T_imul dX9_set_107 <|
 T_iload_n dX9_set_108 rfl <|
 T_iadd dX9_set_109 <|
 T_iald (n := 320) dX9_set_110 c_9_0_5 (by decide) (by decide) (by decide) rfl (((h11.1 z10).2.1 z6).2.1 z5).2.1 <|
 T_ireturn (ty := .int) dX9_set_111 rfl rfl (((h11.1 z10).2.1 z6).2.1 z5).2.2) (fun z5 =>
 T_iload_n dX9_set_93 rfl <|
 T_i2s dX9_set_94 <|
 T_goto (tgt := 99) dX9_set_95 (by decide) <|
 T_iast (n := 320) dX9_set_99 c_9_0_5 (by decide) (by decide) (by decide) rfl (((h11.1 z10).2.1 z6).2.2 z5).1 <|
 T_aload_n dX9_set_100 rfl <|
 T_getR (C := RX9) (T := TX9) (N := 31) (f := 4) dX9_set_101 c_9_0_0 rfl (by decide) wf_X9_16 rfl <|
 T_bipush dX9_set_104 bp_40 <|
 T_iload_n dX9_set_106 rfl <|
 T_imul dX9_set_107 <|
 T_iload_n dX9_set_108 rfl <|
 T_iadd dX9_set_109 <|
 T_iald (n := 320) dX9_set_110 c_9_0_5 (by decide) (by decide) (by decide) rfl (((h11.1 z10).2.1 z6).2.2 z5).2.1 <|
 T_ireturn (ty := .int) dX9_set_111 rfl rfl (((h11.1 z10).2.1 z6).2.2 z5).2.2)) (fun z6 =>
 T_iload_n dX9_set_78 rfl <|
 T_i2b dX9_set_79 <|
 T_goto (tgt := 99) dX9_set_80 (by decide) <|
 T_iast (n := 320) dX9_set_99 c_9_0_5 (by decide) (by decide) (by decide) rfl ((h11.1 z10).2.2 z6).1 <|
 T_aload_n dX9_set_100 rfl <|
 T_getR (C := RX9) (T := TX9) (N := 31) (f := 4) dX9_set_101 c_9_0_0 rfl (by decide) wf_X9_16 rfl <|
 T_bipush dX9_set_104 bp_40 <|
 T_iload_n dX9_set_106 rfl <|
 T_imul dX9_set_107 <|
 T_iload_n dX9_set_108 rfl <|
 T_iadd dX9_set_109 <|
 T_iald (n := 320) dX9_set_110 c_9_0_5 (by decide) (by decide) (by decide) rfl ((h11.1 z10).2.2 z6).2.1 <|
 T_ireturn (ty := .int) dX9_set_111 rfl rfl ((h11.1 z10).2.2 z6).2.2)) (fun z10 =>
 T_aload_n dX9_set_53 rfl <|
 T_iconst dX9_set_54 ic_2 <|
 T_callVi (k' := kX9_finding) (vs := [pI 2]) (st := []) dX9_set_55 wm_X9_80 okX9_finding rfl c_9_0_0 rfl rfl rfl (Nat.le_of_ble_eq_true rfl) rfl (Nat.le_of_ble_eq_true rfl) (TT.mono (h11.2 z10) (rI_mono (fun v8 M7 h9 =>
 T_ireturn (ty := .int) dX9_set_58 rfl rfl h9)))))))) (fun z15 =>
 T_aload_n dX9_set_29 rfl <|
 T_iconst dX9_set_30 ic_1 <|
 T_callVi (k' := kX9_finding) (vs := [pI 1]) (st := []) dX9_set_31 wm_X9_80 okX9_finding rfl c_9_0_0 rfl rfl rfl (Nat.le_of_ble_eq_true rfl) rfl (Nat.le_of_ble_eq_true rfl) (TT.mono ((h17.1 z16).2.2 z15) (rI_mono (fun v13 M12 h14 =>
 T_ireturn (ty := .int) dX9_set_34 rfl rfl h14))))) (fun z16 =>
 T_ldc dX9_set_12 wc_X9_79 <|
 T_ireturn (ty := .int) dX9_set_14 rfl rfl (h17.2 z16)))))
theorem rX9_copy_0 {X : Nat × (Nat → Int32)} {a1 : Int32} {a2 : Int32} {a3 : Int32} {a4 : Int32} {a5 : Int32} {M : Mem} {Q : Option PV → Mem → Prop} (h : TT X kX9_isRow 0 [some (pI a1)] [] (mset M 9 0 0 0 0) (rI fun v2 M1 => (v2 = 0 → Q (some (pI (-1000001))) M1) ∧ (¬ v2 = 0 → TT X kX9_isRow 0 [some (pI a3)] [] M1 (rI fun v4 M3 => (¬ v4 = 0 → vp_in a1 8 ∧ ((((mset M3 9 0 0 1 0) 9 0 3 (Int32.toNatClampNeg a1)) < 0 → TT X kX9_finding 0 [some (pR (9, 0, 0)), some (pI 1)] [] (mset M3 9 0 0 1 0) (rI fun v6 M5 => Q (some (pI v6)) M5)) ∧ (¬ ((mset M3 9 0 0 1 0) 9 0 3 (Int32.toNatClampNeg a1)) < 0 → vp_in a3 8 ∧ ((0 ≤ ((mset M3 9 0 0 1 0) 9 0 3 (Int32.toNatClampNeg a3)) → vp_in a1 8 ∧ (vp_in a3 8 ∧ ((((mset M3 9 0 0 1 0) 9 0 3 (Int32.toNatClampNeg a1)) = ((mset M3 9 0 0 1 0) 9 0 3 (Int32.toNatClampNeg a3)) → (a2 < 0 → TT X kX9_finding 0 [some (pR (9, 0, 0)), some (pI 2)] [] (mset M3 9 0 0 1 0) (rI fun v9 M8 => Q (some (pI v9)) M8)) ∧ (¬ a2 < 0 → (a4 < 0 → TT X kX9_finding 0 [some (pR (9, 0, 0)), some (pI 2)] [] (mset M3 9 0 0 1 0) (rI fun v12 M11 => Q (some (pI v12)) M11)) ∧ (¬ a4 < 0 → (a5 < 0 → TT X kX9_finding 0 [some (pR (9, 0, 0)), some (pI 2)] [] (mset M3 9 0 0 1 0) (rI fun v15 M14 => Q (some (pI v15)) M14)) ∧ (¬ a5 < 0 → vp_in a1 8 ∧ ((0 < (lg_cmp ((Int32.toInt64 a2) + (Int32.toInt64 a5)) (Int32.toInt64 ((mset M3 9 0 0 1 0) 9 0 4 (Int32.toNatClampNeg a1)))) → TT X kX9_finding 0 [some (pR (9, 0, 0)), some (pI 2)] [] (mset M3 9 0 0 1 0) (rI fun v18 M17 => Q (some (pI v18)) M17)) ∧ (¬ 0 < (lg_cmp ((Int32.toInt64 a2) + (Int32.toInt64 a5)) (Int32.toInt64 ((mset M3 9 0 0 1 0) 9 0 4 (Int32.toNatClampNeg a1)))) → vp_in a3 8 ∧ (((lg_cmp ((Int32.toInt64 a4) + (Int32.toInt64 a5)) (Int32.toInt64 ((mset M3 9 0 0 1 0) 9 0 4 (Int32.toNatClampNeg a3)))) ≤ 0 → (a2 < a4 → TT X kX9_copy 143 [some (pR (9, 0, 0)), some (pI a1), some (pI a2), some (pI a3), some (pI a4), some (pI a5), some (pI 0), some (pI 0), none] [] (mset M3 9 0 0 1 0) Q) ∧ (¬ a2 < a4 → TT X kX9_copy 143 [some (pR (9, 0, 0)), some (pI a1), some (pI a2), some (pI a3), some (pI a4), some (pI a5), some (pI 1), some (pI 0), none] [] (mset M3 9 0 0 1 0) Q)) ∧ (¬ (lg_cmp ((Int32.toInt64 a4) + (Int32.toInt64 a5)) (Int32.toInt64 ((mset M3 9 0 0 1 0) 9 0 4 (Int32.toNatClampNeg a3)))) ≤ 0 → TT X kX9_finding 0 [some (pR (9, 0, 0)), some (pI 2)] [] (mset M3 9 0 0 1 0) (rI fun v22 M21 => Q (some (pI v22)) M21))))))))) ∧ (¬ ((mset M3 9 0 0 1 0) 9 0 3 (Int32.toNatClampNeg a1)) = ((mset M3 9 0 0 1 0) 9 0 3 (Int32.toNatClampNeg a3)) → TT X kX9_finding 0 [some (pR (9, 0, 0)), some (pI 5)] [] (mset M3 9 0 0 1 0) (rI fun v30 M29 => Q (some (pI v30)) M29))))) ∧ (¬ 0 ≤ ((mset M3 9 0 0 1 0) 9 0 3 (Int32.toNatClampNeg a3)) → TT X kX9_finding 0 [some (pR (9, 0, 0)), some (pI 1)] [] (mset M3 9 0 0 1 0) (rI fun v34 M33 => Q (some (pI v34)) M33)))))) ∧ (v4 = 0 → Q (some (pI (-1000001))) M3))))) : TT X kX9_copy 0 [some (pR (9, 0, 0)), some (pI a1), some (pI a2), some (pI a3), some (pI a4), some (pI a5), none, none, none] [] M Q :=
 T_aload_n dX9_copy_0 rfl <|
 T_iconst dX9_copy_1 ic_0 <|
 T_putI (C := RX9) (T := TX9) (N := 31) (f := 0) dX9_copy_2 c_9_0_0 rfl (by decide) wf_X9_59 rfl rfl rfl <|
 T_iload_n dX9_copy_5 rfl <|
 T_callSi (k' := kX9_isRow) (vs := [pI a1]) (st := []) dX9_copy_6 wm_X9_73 okX9_isRow rfl rfl rfl (Nat.le_of_ble_eq_true rfl) rfl (Nat.le_of_ble_eq_true rfl) (TT.mono h (rI_mono (fun v2 M1 h41 =>
 T_if_eq (tgt := 19) dX9_copy_9 (by decide) (fun z40 =>
 T_ldc dX9_copy_19 wc_X9_79 <|
 T_ireturn (ty := .int) dX9_copy_21 rfl rfl (h41.1 z40)) (fun z40 =>
 T_iload_n dX9_copy_12 rfl <|
 T_callSi (k' := kX9_isRow) (vs := [pI a3]) (st := []) dX9_copy_13 wm_X9_73 okX9_isRow rfl rfl rfl (Nat.le_of_ble_eq_true rfl) rfl (Nat.le_of_ble_eq_true rfl) (TT.mono (h41.2 z40) (rI_mono (fun v4 M3 h39 =>
 T_if_ne (tgt := 22) dX9_copy_16 (by decide) (fun z38 =>
 T_aload_n dX9_copy_22 rfl <|
 T_iconst dX9_copy_23 ic_0 <|
 T_putI (C := RX9) (T := TX9) (N := 31) (f := 1) dX9_copy_24 c_9_0_0 rfl (by decide) wf_X9_63 rfl rfl rfl <|
 T_aload_n dX9_copy_27 rfl <|
 T_getR (C := RX9) (T := TX9) (N := 31) (f := 2) dX9_copy_28 c_9_0_0 rfl (by decide) wf_X9_7 rfl <|
 T_iload_n dX9_copy_31 rfl <|
 T_iald (n := 8) dX9_copy_32 c_9_0_3 (by decide) (by decide) (by decide) rfl (h39.1 z38).1 <|
 T_if_lt (tgt := 45) dX9_copy_33 (by decide) (fun z37 =>
 T_aload_n dX9_copy_45 rfl <|
 T_iconst dX9_copy_46 ic_1 <|
 T_callVi (k' := kX9_finding) (vs := [pI 1]) (st := []) dX9_copy_47 wm_X9_80 okX9_finding rfl c_9_0_0 rfl rfl rfl (Nat.le_of_ble_eq_true rfl) rfl (Nat.le_of_ble_eq_true rfl) (TT.mono ((h39.1 z38).2.1 z37) (rI_mono (fun v6 M5 h7 =>
 T_ireturn (ty := .int) dX9_copy_50 rfl rfl h7)))) (fun z37 =>
 T_aload_n dX9_copy_36 rfl <|
 T_getR (C := RX9) (T := TX9) (N := 31) (f := 2) dX9_copy_37 c_9_0_0 rfl (by decide) wf_X9_7 rfl <|
 T_iload_n dX9_copy_40 rfl <|
 T_iald (n := 8) dX9_copy_41 c_9_0_3 (by decide) (by decide) (by decide) rfl ((h39.1 z38).2.2 z37).1 <|
 T_if_ge (tgt := 51) dX9_copy_42 (by decide) (fun z36 =>
 T_aload_n dX9_copy_51 rfl <|
 T_getR (C := RX9) (T := TX9) (N := 31) (f := 2) dX9_copy_52 c_9_0_0 rfl (by decide) wf_X9_7 rfl <|
 T_iload_n dX9_copy_55 rfl <|
 T_iald (n := 8) dX9_copy_56 c_9_0_3 (by decide) (by decide) (by decide) rfl (((h39.1 z38).2.2 z37).2.1 z36).1 <|
 T_aload_n dX9_copy_57 rfl <|
 T_getR (C := RX9) (T := TX9) (N := 31) (f := 2) dX9_copy_58 c_9_0_0 rfl (by decide) wf_X9_7 rfl <|
 T_iload_n dX9_copy_61 rfl <|
 T_iald (n := 8) dX9_copy_62 c_9_0_3 (by decide) (by decide) (by decide) rfl (((h39.1 z38).2.2 z37).2.1 z36).2.1 <|
 T_icmp_eq (tgt := 72) dX9_copy_63 (by decide) (fun z32 =>
 T_iload_n dX9_copy_72 rfl <|
 T_if_lt (tgt := 121) dX9_copy_73 (by decide) (fun z28 =>
 T_aload_n dX9_copy_121 rfl <|
 T_iconst dX9_copy_122 ic_2 <|
 T_callVi (k' := kX9_finding) (vs := [pI 2]) (st := []) dX9_copy_123 wm_X9_80 okX9_finding rfl c_9_0_0 rfl rfl rfl (Nat.le_of_ble_eq_true rfl) rfl (Nat.le_of_ble_eq_true rfl) (TT.mono (((((h39.1 z38).2.2 z37).2.1 z36).2.2.1 z32).1 z28) (rI_mono (fun v9 M8 h10 =>
 T_ireturn (ty := .int) dX9_copy_126 rfl rfl h10)))) (fun z28 =>
 T_iload dX9_copy_76 rfl <|
 T_if_lt (tgt := 121) dX9_copy_78 (by decide) (fun z27 =>
 T_aload_n dX9_copy_121 rfl <|
 T_iconst dX9_copy_122 ic_2 <|
 T_callVi (k' := kX9_finding) (vs := [pI 2]) (st := []) dX9_copy_123 wm_X9_80 okX9_finding rfl c_9_0_0 rfl rfl rfl (Nat.le_of_ble_eq_true rfl) rfl (Nat.le_of_ble_eq_true rfl) (TT.mono ((((((h39.1 z38).2.2 z37).2.1 z36).2.2.1 z32).2 z28).1 z27) (rI_mono (fun v12 M11 h13 =>
 T_ireturn (ty := .int) dX9_copy_126 rfl rfl h13)))) (fun z27 =>
 T_iload dX9_copy_81 rfl <|
 T_if_lt (tgt := 121) dX9_copy_83 (by decide) (fun z26 =>
 T_aload_n dX9_copy_121 rfl <|
 T_iconst dX9_copy_122 ic_2 <|
 T_callVi (k' := kX9_finding) (vs := [pI 2]) (st := []) dX9_copy_123 wm_X9_80 okX9_finding rfl c_9_0_0 rfl rfl rfl (Nat.le_of_ble_eq_true rfl) rfl (Nat.le_of_ble_eq_true rfl) (TT.mono (((((((h39.1 z38).2.2 z37).2.1 z36).2.2.1 z32).2 z28).2 z27).1 z26) (rI_mono (fun v15 M14 h16 =>
 T_ireturn (ty := .int) dX9_copy_126 rfl rfl h16)))) (fun z26 =>
 T_iload_n dX9_copy_86 rfl <|
 T_i2l dX9_copy_87 <|
 T_iload dX9_copy_88 rfl <|
 T_i2l dX9_copy_90 <|
 T_ladd dX9_copy_91 <|
 T_aload_n dX9_copy_92 rfl <|
 T_getR (C := RX9) (T := TX9) (N := 31) (f := 3) dX9_copy_93 c_9_0_0 rfl (by decide) wf_X9_13 rfl <|
 T_iload_n dX9_copy_96 rfl <|
 T_iald (n := 8) dX9_copy_97 c_9_0_4 (by decide) (by decide) (by decide) rfl (((((((h39.1 z38).2.2 z37).2.1 z36).2.2.1 z32).2 z28).2 z27).2 z26).1 <|
 T_i2l dX9_copy_98 <|
 T_lcmp dX9_copy_99 <|
 T_if_gt (tgt := 121) dX9_copy_100 (by decide) (fun z25 =>
 T_aload_n dX9_copy_121 rfl <|
 T_iconst dX9_copy_122 ic_2 <|
 T_callVi (k' := kX9_finding) (vs := [pI 2]) (st := []) dX9_copy_123 wm_X9_80 okX9_finding rfl c_9_0_0 rfl rfl rfl (Nat.le_of_ble_eq_true rfl) rfl (Nat.le_of_ble_eq_true rfl) (TT.mono ((((((((h39.1 z38).2.2 z37).2.1 z36).2.2.1 z32).2 z28).2 z27).2 z26).2.1 z25) (rI_mono (fun v18 M17 h19 =>
 T_ireturn (ty := .int) dX9_copy_126 rfl rfl h19)))) (fun z25 =>
 T_iload dX9_copy_103 rfl <|
 T_i2l dX9_copy_105 <|
 T_iload dX9_copy_106 rfl <|
 T_i2l dX9_copy_108 <|
 T_ladd dX9_copy_109 <|
 T_aload_n dX9_copy_110 rfl <|
 T_getR (C := RX9) (T := TX9) (N := 31) (f := 3) dX9_copy_111 c_9_0_0 rfl (by decide) wf_X9_13 rfl <|
 T_iload_n dX9_copy_114 rfl <|
 T_iald (n := 8) dX9_copy_115 c_9_0_4 (by decide) (by decide) (by decide) rfl ((((((((h39.1 z38).2.2 z37).2.1 z36).2.2.1 z32).2 z28).2 z27).2 z26).2.2 z25).1 <|
 T_i2l dX9_copy_116 <|
 T_lcmp dX9_copy_117 <|
 T_if_le (tgt := 127) dX9_copy_118 (by decide) (fun z24 =>
 T_iload_n dX9_copy_127 rfl <|
 T_iload dX9_copy_128 rfl <|
 T_icmp_lt (tgt := 137) dX9_copy_130 (by decide) (fun z20 =>
 T_iconst dX9_copy_137 ic_0 <|
 T_istore dX9_copy_138 (by decide) rfl rfl <|
 T_iconst dX9_copy_140 ic_0 <|
 T_istore dX9_copy_141 (by decide) rfl rfl <|
 ((((((((((h39.1 z38).2.2 z37).2.1 z36).2.2.1 z32).2 z28).2 z27).2 z26).2.2 z25).2.1 z24).1 z20)) (fun z20 =>
 T_iconst dX9_copy_133 ic_1 <|
 T_goto (tgt := 138) dX9_copy_134 (by decide) <|
 T_istore dX9_copy_138 (by decide) rfl rfl <|
 T_iconst dX9_copy_140 ic_0 <|
 T_istore dX9_copy_141 (by decide) rfl rfl <|
 ((((((((((h39.1 z38).2.2 z37).2.1 z36).2.2.1 z32).2 z28).2 z27).2 z26).2.2 z25).2.1 z24).2 z20))) (fun z24 =>
 T_aload_n dX9_copy_121 rfl <|
 T_iconst dX9_copy_122 ic_2 <|
 T_callVi (k' := kX9_finding) (vs := [pI 2]) (st := []) dX9_copy_123 wm_X9_80 okX9_finding rfl c_9_0_0 rfl rfl rfl (Nat.le_of_ble_eq_true rfl) rfl (Nat.le_of_ble_eq_true rfl) (TT.mono (((((((((h39.1 z38).2.2 z37).2.1 z36).2.2.1 z32).2 z28).2 z27).2 z26).2.2 z25).2.2 z24) (rI_mono (fun v22 M21 h23 =>
 T_ireturn (ty := .int) dX9_copy_126 rfl rfl h23))))))))) (fun z32 =>
 T_aload_n dX9_copy_66 rfl <|
 T_iconst dX9_copy_67 ic_5 <|
 T_callVi (k' := kX9_finding) (vs := [pI 5]) (st := []) dX9_copy_68 wm_X9_80 okX9_finding rfl c_9_0_0 rfl rfl rfl (Nat.le_of_ble_eq_true rfl) rfl (Nat.le_of_ble_eq_true rfl) (TT.mono ((((h39.1 z38).2.2 z37).2.1 z36).2.2.2 z32) (rI_mono (fun v30 M29 h31 =>
 T_ireturn (ty := .int) dX9_copy_71 rfl rfl h31))))) (fun z36 =>
 T_aload_n dX9_copy_45 rfl <|
 T_iconst dX9_copy_46 ic_1 <|
 T_callVi (k' := kX9_finding) (vs := [pI 1]) (st := []) dX9_copy_47 wm_X9_80 okX9_finding rfl c_9_0_0 rfl rfl rfl (Nat.le_of_ble_eq_true rfl) rfl (Nat.le_of_ble_eq_true rfl) (TT.mono (((h39.1 z38).2.2 z37).2.2 z36) (rI_mono (fun v34 M33 h35 =>
 T_ireturn (ty := .int) dX9_copy_50 rfl rfl h35)))))) (fun z38 =>
 T_ldc dX9_copy_19 wc_X9_79 <|
 T_ireturn (ty := .int) dX9_copy_21 rfl rfl (h39.2 z38)))))))))
theorem rX9_copy_143 {X : Nat × (Nat → Int32)} {b1 : Int32} {b2 : Int32} {b3 : Int32} {b4 : Int32} {b5 : Int32} {b6 : Int32} {b7 : Int32} {M : Mem} {Q : Option PV → Mem → Prop} (h : (b5 ≤ b7 → Q (some (pI b5)) M) ∧ (¬ b5 ≤ b7 → (b6 = 0 → vp_in (((40 * b1) + b2) + ((b5 - 1) - b7)) 320 ∧ (vp_in (((40 * b3) + b4) + ((b5 - 1) - b7)) 320 ∧ (TT X kX9_copy 143 [some (pR (9, 0, 0)), some (pI b1), some (pI b2), some (pI b3), some (pI b4), some (pI b5), some (pI b6), some (pI (b7 + 1)), none] [] (mset M 9 0 5 (Int32.toNatClampNeg (((40 * b3) + b4) + ((b5 - 1) - b7))) (M 9 0 5 (Int32.toNatClampNeg (((40 * b1) + b2) + ((b5 - 1) - b7))))) Q))) ∧ (¬ b6 = 0 → vp_in (((40 * b1) + b2) + b7) 320 ∧ (vp_in (((40 * b3) + b4) + b7) 320 ∧ (TT X kX9_copy 143 [some (pR (9, 0, 0)), some (pI b1), some (pI b2), some (pI b3), some (pI b4), some (pI b5), some (pI b6), some (pI (b7 + 1)), none] [] (mset M 9 0 5 (Int32.toNatClampNeg (((40 * b3) + b4) + b7)) (M 9 0 5 (Int32.toNatClampNeg (((40 * b1) + b2) + b7)))) Q))))) : TT X kX9_copy 143 [some (pR (9, 0, 0)), some (pI b1), some (pI b2), some (pI b3), some (pI b4), some (pI b5), some (pI b6), some (pI b7), none] [] M Q :=
 T_iload dX9_copy_143 rfl <|
 T_iload dX9_copy_145 rfl <|
 T_icmp_ge (tgt := 204) dX9_copy_147 (by decide) (fun z43 =>
 T_iload dX9_copy_204 rfl <|
 T_ireturn (ty := .int) dX9_copy_206 rfl rfl (h.1 z43)) (fun z43 =>
 T_iload dX9_copy_150 rfl <|
 T_if_eq (tgt := 160) dX9_copy_152 (by decide) (fun z42 =>
 T_iload dX9_copy_160 rfl <|
 T_iconst dX9_copy_162 ic_1 <|
 T_isub dX9_copy_163 <|
 T_iload dX9_copy_164 rfl <|
 T_isub dX9_copy_166 <|
 T_istore dX9_copy_167 (by decide) rfl rfl <|
 T_aload_n dX9_copy_169 rfl <|
 T_getR (C := RX9) (T := TX9) (N := 31) (f := 4) dX9_copy_170 c_9_0_0 rfl (by decide) wf_X9_16 rfl <|
 T_bipush dX9_copy_173 bp_40 <|
 T_iload_n dX9_copy_175 rfl <|
 T_imul dX9_copy_176 <|
 T_iload dX9_copy_177 rfl <|
 T_iadd dX9_copy_179 <|
 T_iload dX9_copy_180 rfl <|
 T_iadd dX9_copy_182 <|
 T_aload_n dX9_copy_183 rfl <|
 T_getR (C := RX9) (T := TX9) (N := 31) (f := 4) dX9_copy_184 c_9_0_0 rfl (by decide) wf_X9_16 rfl <|
 T_bipush dX9_copy_187 bp_40 <|
 T_iload_n dX9_copy_189 rfl <|
 T_imul dX9_copy_190 <|
 T_iload_n dX9_copy_191 rfl <|
 T_iadd dX9_copy_192 <|
 T_iload dX9_copy_193 rfl <|
 T_iadd dX9_copy_195 <|
 T_iald (n := 320) dX9_copy_196 c_9_0_5 (by decide) (by decide) (by decide) rfl ((h.2 z43).1 z42).1 <|
 T_iast (n := 320) dX9_copy_197 c_9_0_5 (by decide) (by decide) (by decide) rfl ((h.2 z43).1 z42).2.1 <|
 T_iinc dX9_copy_198 rfl (ii_1 _) (by decide) rfl rfl <|
 T_goto (tgt := 143) dX9_copy_201 (by decide) <|
 T_mask [true, true, true, true, true, true, true, true, false] ((h.2 z43).1 z42).2.2) (fun z42 =>
 T_iload dX9_copy_155 rfl <|
 T_goto (tgt := 167) dX9_copy_157 (by decide) <|
 T_istore dX9_copy_167 (by decide) rfl rfl <|
 T_aload_n dX9_copy_169 rfl <|
 T_getR (C := RX9) (T := TX9) (N := 31) (f := 4) dX9_copy_170 c_9_0_0 rfl (by decide) wf_X9_16 rfl <|
 T_bipush dX9_copy_173 bp_40 <|
 T_iload_n dX9_copy_175 rfl <|
 T_imul dX9_copy_176 <|
 T_iload dX9_copy_177 rfl <|
 T_iadd dX9_copy_179 <|
 T_iload dX9_copy_180 rfl <|
 T_iadd dX9_copy_182 <|
 T_aload_n dX9_copy_183 rfl <|
 T_getR (C := RX9) (T := TX9) (N := 31) (f := 4) dX9_copy_184 c_9_0_0 rfl (by decide) wf_X9_16 rfl <|
 T_bipush dX9_copy_187 bp_40 <|
 T_iload_n dX9_copy_189 rfl <|
 T_imul dX9_copy_190 <|
 T_iload_n dX9_copy_191 rfl <|
 T_iadd dX9_copy_192 <|
 T_iload dX9_copy_193 rfl <|
 T_iadd dX9_copy_195 <|
 T_iald (n := 320) dX9_copy_196 c_9_0_5 (by decide) (by decide) (by decide) rfl ((h.2 z43).2 z42).1 <|
 T_iast (n := 320) dX9_copy_197 c_9_0_5 (by decide) (by decide) (by decide) rfl ((h.2 z43).2 z42).2.1 <|
 T_iinc dX9_copy_198 rfl (ii_1 _) (by decide) rfl rfl <|
 T_goto (tgt := 143) dX9_copy_201 (by decide) <|
 T_mask [true, true, true, true, true, true, true, true, false] ((h.2 z43).2 z42).2.2))
theorem rX9_drop_0 {X : Nat × (Nat → Int32)} {a1 : Int32} {M : Mem} {Q : Option PV → Mem → Prop} (h : TT X kX9_isRow 0 [some (pI a1)] [] (mset M 9 0 0 0 0) (rI fun v2 M1 => (¬ v2 = 0 → vp_in a1 8 ∧ ((0 ≤ ((mset M1 9 0 0 1 0) 9 0 3 (Int32.toNatClampNeg a1)) → vp_in a1 8 ∧ (vp_in a1 8 ∧ (Q (some (pI ((mset (mset M1 9 0 0 1 0) 9 0 3 (Int32.toNatClampNeg a1) (-1)) 9 0 4 (Int32.toNatClampNeg a1)))) (mset (mset M1 9 0 0 1 0) 9 0 3 (Int32.toNatClampNeg a1) (-1))))) ∧ (¬ 0 ≤ ((mset M1 9 0 0 1 0) 9 0 3 (Int32.toNatClampNeg a1)) → TT X kX9_finding 0 [some (pR (9, 0, 0)), some (pI 1)] [] (mset M1 9 0 0 1 0) (rI fun v4 M3 => Q (some (pI v4)) M3)))) ∧ (v2 = 0 → Q (some (pI (-1000001))) M1))) : TT X kX9_drop 0 [some (pR (9, 0, 0)), some (pI a1)] [] M Q :=
 T_aload_n dX9_drop_0 rfl <|
 T_iconst dX9_drop_1 ic_0 <|
 T_putI (C := RX9) (T := TX9) (N := 31) (f := 0) dX9_drop_2 c_9_0_0 rfl (by decide) wf_X9_59 rfl rfl rfl <|
 T_iload_n dX9_drop_5 rfl <|
 T_callSi (k' := kX9_isRow) (vs := [pI a1]) (st := []) dX9_drop_6 wm_X9_73 okX9_isRow rfl rfl rfl (Nat.le_of_ble_eq_true rfl) rfl (Nat.le_of_ble_eq_true rfl) (TT.mono h (rI_mono (fun v2 M1 h8 =>
 T_if_ne (tgt := 15) dX9_drop_9 (by decide) (fun z7 =>
 T_aload_n dX9_drop_15 rfl <|
 T_iconst dX9_drop_16 ic_0 <|
 T_putI (C := RX9) (T := TX9) (N := 31) (f := 1) dX9_drop_17 c_9_0_0 rfl (by decide) wf_X9_63 rfl rfl rfl <|
 T_aload_n dX9_drop_20 rfl <|
 T_getR (C := RX9) (T := TX9) (N := 31) (f := 2) dX9_drop_21 c_9_0_0 rfl (by decide) wf_X9_7 rfl <|
 T_iload_n dX9_drop_24 rfl <|
 T_iald (n := 8) dX9_drop_25 c_9_0_3 (by decide) (by decide) (by decide) rfl (h8.1 z7).1 <|
 T_if_ge (tgt := 35) dX9_drop_26 (by decide) (fun z6 =>
 T_aload_n dX9_drop_35 rfl <|
 T_getR (C := RX9) (T := TX9) (N := 31) (f := 2) dX9_drop_36 c_9_0_0 rfl (by decide) wf_X9_7 rfl <|
 T_iload_n dX9_drop_39 rfl <|
 T_iconst dX9_drop_40 ic_m1 <|
 T_iast (n := 8) dX9_drop_41 c_9_0_3 (by decide) (by decide) (by decide) rfl ((h8.1 z7).2.1 z6).1 <|
 T_aload_n dX9_drop_42 rfl <|
 T_getR (C := RX9) (T := TX9) (N := 31) (f := 3) dX9_drop_43 c_9_0_0 rfl (by decide) wf_X9_13 rfl <|
 T_iload_n dX9_drop_46 rfl <|
 T_iald (n := 8) dX9_drop_47 c_9_0_4 (by decide) (by decide) (by decide) rfl ((h8.1 z7).2.1 z6).2.1 <|
 T_ireturn (ty := .int) dX9_drop_48 rfl rfl ((h8.1 z7).2.1 z6).2.2) (fun z6 =>
 T_aload_n dX9_drop_29 rfl <|
 T_iconst dX9_drop_30 ic_1 <|
 T_callVi (k' := kX9_finding) (vs := [pI 1]) (st := []) dX9_drop_31 wm_X9_80 okX9_finding rfl c_9_0_0 rfl rfl rfl (Nat.le_of_ble_eq_true rfl) rfl (Nat.le_of_ble_eq_true rfl) (TT.mono ((h8.1 z7).2.2 z6) (rI_mono (fun v4 M3 h5 =>
 T_ireturn (ty := .int) dX9_drop_34 rfl rfl h5))))) (fun z7 =>
 T_ldc dX9_drop_12 wc_X9_79 <|
 T_ireturn (ty := .int) dX9_drop_14 rfl rfl (h8.2 z7)))))
theorem rX9_feed_0 {X : Nat × (Nat → Int32)} {a1 : Int64} {a2 : Int32} {M : Mem} {Q : Option PV → Mem → Prop} (h : TT X kX9_in 0 [some (pL (Int32.toInt64 a2)), none, some (pL 1), none, some (pL 8), none] [] (mset M 9 0 0 0 0) (rI fun v2 M1 => (¬ v2 = 0 → (((M1 9 0 0 11) + a2) ≤ 400 → TT X kX9_feed 40 [some (pR (9, 0, 0)), some (pL a1), none, some (pI a2), some (pI (a2 - 1))] [] M1 Q) ∧ (¬ ((M1 9 0 0 11) + a2) ≤ 400 → Q (some (pI (-1000003))) M1)) ∧ (v2 = 0 → Q (some (pI (-1000001))) M1))) : TT X kX9_feed 0 [some (pR (9, 0, 0)), some (pL a1), none, some (pI a2), none] [] M Q :=
 T_aload_n dX9_feed_0 rfl <|
 T_iconst dX9_feed_1 ic_0 <|
 T_putI (C := RX9) (T := TX9) (N := 31) (f := 0) dX9_feed_2 c_9_0_0 rfl (by decide) wf_X9_59 rfl rfl rfl <|
 T_iload_n dX9_feed_5 rfl <|
 T_i2l dX9_feed_6 <|
 T_lconst dX9_feed_7 lc_1 <|
 T_ldc2 dX9_feed_8 wl_X9_84 <|
 T_callSi (k' := kX9_in) (vs := [pL (Int32.toInt64 a2), pL 1, pL 8]) (st := []) dX9_feed_11 wm_X9_69 okX9_in rfl rfl rfl (Nat.le_of_ble_eq_true rfl) rfl (Nat.le_of_ble_eq_true rfl) (TT.mono h (rI_mono (fun v2 M1 h5 =>
 T_if_ne (tgt := 20) dX9_feed_14 (by decide) (fun z4 =>
 T_aload_n dX9_feed_20 rfl <|
 T_getI (C := RX9) (T := TX9) (N := 31) (f := 11) dX9_feed_21 c_9_0_0 rfl (by decide) wf_X9_86 rfl <|
 T_iload_n dX9_feed_24 rfl <|
 T_iadd dX9_feed_25 <|
 T_sipush dX9_feed_26 sp_400 <|
 T_icmp_le (tgt := 35) dX9_feed_29 (by decide) (fun z3 =>
 T_iload_n dX9_feed_35 rfl <|
 T_iconst dX9_feed_36 ic_1 <|
 T_isub dX9_feed_37 <|
 T_istore dX9_feed_38 (by decide) rfl rfl <|
 ((h5.1 z4).1 z3)) (fun z3 =>
 T_ldc dX9_feed_32 wc_X9_89 <|
 T_ireturn (ty := .int) dX9_feed_34 rfl rfl ((h5.1 z4).2 z3))) (fun z4 =>
 T_ldc dX9_feed_17 wc_X9_79 <|
 T_ireturn (ty := .int) dX9_feed_19 rfl rfl (h5.2 z4)))))
theorem rX9_feed_40 {X : Nat × (Nat → Int32)} {b1 : Int64} {b3 : Int32} {b4 : Int32} {M : Mem} {Q : Option PV → Mem → Prop} (h : (b4 < 0 → Q (some (pI (M 9 0 0 11))) M) ∧ (¬ b4 < 0 → vp_in (M 9 0 0 11) 400 ∧ (TT X kX9_feed 40 [some (pR (9, 0, 0)), some (pL b1), none, some (pI b3), some (pI (b4 + (-1)))] [] (mset (mset M 9 0 11 (Int32.toNatClampNeg (M 9 0 0 11)) (Int64.toInt32 ((b1 >>> (Int32.toInt64 (8 * b4) &&& 63)) &&& 255))) 9 0 0 11 (((mset M 9 0 11 (Int32.toNatClampNeg (M 9 0 0 11)) (Int64.toInt32 ((b1 >>> (Int32.toInt64 (8 * b4) &&& 63)) &&& 255))) 9 0 0 11) + 1)) Q))) : TT X kX9_feed 40 [some (pR (9, 0, 0)), some (pL b1), none, some (pI b3), some (pI b4)] [] M Q :=
 T_iload dX9_feed_40 rfl <|
 T_if_lt (tgt := 82) dX9_feed_42 (by decide) (fun z6 =>
 T_aload_n dX9_feed_82 rfl <|
 T_getI (C := RX9) (T := TX9) (N := 31) (f := 11) dX9_feed_83 c_9_0_0 rfl (by decide) wf_X9_86 rfl <|
 T_ireturn (ty := .int) dX9_feed_86 rfl rfl (h.1 z6)) (fun z6 =>
 T_aload_n dX9_feed_45 rfl <|
 T_getR (C := RX9) (T := TX9) (N := 31) (f := 10) dX9_feed_46 c_9_0_0 rfl (by decide) wf_X9_28 rfl <|
 T_aload_n dX9_feed_49 rfl <|
 T_getI (C := RX9) (T := TX9) (N := 31) (f := 11) dX9_feed_50 c_9_0_0 rfl (by decide) wf_X9_86 rfl <|
 T_lload_n dX9_feed_53 rfl <|
 T_bipush dX9_feed_54 bp_8 <|
 T_iload dX9_feed_56 rfl <|
 T_imul dX9_feed_58 <|
 T_lshr dX9_feed_59 <|
 T_ldc2 dX9_feed_60 wl_X9_90 <|
 T_land dX9_feed_63 <|
 T_l2i dX9_feed_64 <|
 T_iast (n := 400) dX9_feed_65 c_9_0_11 (by decide) (by decide) (by decide) rfl (h.2 z6).1 <|
 T_aload_n dX9_feed_66 rfl <|
 T_dupR dX9_feed_67 <|
 T_getI (C := RX9) (T := TX9) (N := 31) (f := 11) dX9_feed_68 c_9_0_0 rfl (by decide) wf_X9_86 rfl <|
 T_iconst dX9_feed_71 ic_1 <|
 T_iadd dX9_feed_72 <|
 T_putI (C := RX9) (T := TX9) (N := 31) (f := 11) dX9_feed_73 c_9_0_0 rfl (by decide) wf_X9_86 rfl rfl rfl <|
 T_iinc dX9_feed_76 rfl (ii_m1 _) (by decide) rfl rfl <|
 T_goto (tgt := 40) dX9_feed_79 (by decide) <|
 (h.2 z6).2)
theorem rX9_byteAt_0 {X : Nat × (Nat → Int32)} {a1 : Int32} {M : Mem} {Q : Option PV → Mem → Prop} (h : ((M 9 0 0 13) ≤ a1 → Q (some (pI (-1000000))) M) ∧ (¬ (M 9 0 0 13) ≤ a1 → vp_in a1 400 ∧ (Q (some (pI (M 9 0 11 (Int32.toNatClampNeg a1)))) M))) : TT X kX9_byteAt 0 [some (pR (9, 0, 0)), some (pI a1)] [] M Q :=
 T_iload_n dX9_byteAt_0 rfl <|
 T_aload_n dX9_byteAt_1 rfl <|
 T_getI (C := RX9) (T := TX9) (N := 31) (f := 13) dX9_byteAt_2 c_9_0_0 rfl (by decide) wf_X9_92 rfl <|
 T_icmp_ge (tgt := 17) dX9_byteAt_5 (by decide) (fun z1 =>
 T_ldc dX9_byteAt_17 wc_X9_95 <|
 T_ireturn (ty := .int) dX9_byteAt_19 rfl rfl (h.1 z1)) (fun z1 =>
 T_aload_n dX9_byteAt_8 rfl <|
 T_getR (C := RX9) (T := TX9) (N := 31) (f := 10) dX9_byteAt_9 c_9_0_0 rfl (by decide) wf_X9_28 rfl <|
 T_iload_n dX9_byteAt_12 rfl <|
 T_iald (n := 400) dX9_byteAt_13 c_9_0_11 (by decide) (by decide) (by decide) rfl (h.2 z1).1 <|
 T_goto (tgt := 19) dX9_byteAt_14 (by decide) <|
 T_ireturn (ty := .int) dX9_byteAt_19 rfl rfl (h.2 z1).2)
theorem rX9_isLetter_0 {X : Nat × (Nat → Int32)} {a1 : Int32} {M : Mem} {Q : Option PV → Mem → Prop} (h : (a1 < 97 → Q (some (pI 0)) M) ∧ (¬ a1 < 97 → (122 < a1 → Q (some (pI 0)) M) ∧ (¬ 122 < a1 → Q (some (pI 1)) M))) : TT X kX9_isLetter 0 [some (pI a1)] [] M Q :=
 T_iload_n dX9_isLetter_0 rfl <|
 T_bipush dX9_isLetter_1 bp_97 <|
 T_icmp_lt (tgt := 16) dX9_isLetter_3 (by decide) (fun z2 =>
 T_iconst dX9_isLetter_16 ic_0 <|
 T_ireturn (ty := .boolean) dX9_isLetter_17 rfl rfl (h.1 z2)) (fun z2 =>
 T_iload_n dX9_isLetter_6 rfl <|
 T_bipush dX9_isLetter_7 bp_122 <|
 T_icmp_gt (tgt := 16) dX9_isLetter_9 (by decide) (fun z1 =>
 T_iconst dX9_isLetter_16 ic_0 <|
 T_ireturn (ty := .boolean) dX9_isLetter_17 rfl rfl ((h.2 z2).1 z1)) (fun z1 =>
 T_iconst dX9_isLetter_12 ic_1 <|
 T_goto (tgt := 17) dX9_isLetter_13 (by decide) <|
 T_ireturn (ty := .boolean) dX9_isLetter_17 rfl rfl ((h.2 z2).2 z1)))
theorem rX9_isFigure_0 {X : Nat × (Nat → Int32)} {a1 : Int32} {M : Mem} {Q : Option PV → Mem → Prop} (h : (a1 < 48 → Q (some (pI 0)) M) ∧ (¬ a1 < 48 → (57 < a1 → Q (some (pI 0)) M) ∧ (¬ 57 < a1 → Q (some (pI 1)) M))) : TT X kX9_isFigure 0 [some (pI a1)] [] M Q :=
 T_iload_n dX9_isFigure_0 rfl <|
 T_bipush dX9_isFigure_1 bp_48 <|
 T_icmp_lt (tgt := 16) dX9_isFigure_3 (by decide) (fun z2 =>
 T_iconst dX9_isFigure_16 ic_0 <|
 T_ireturn (ty := .boolean) dX9_isFigure_17 rfl rfl (h.1 z2)) (fun z2 =>
 T_iload_n dX9_isFigure_6 rfl <|
 T_bipush dX9_isFigure_7 bp_57 <|
 T_icmp_gt (tgt := 16) dX9_isFigure_9 (by decide) (fun z1 =>
 T_iconst dX9_isFigure_16 ic_0 <|
 T_ireturn (ty := .boolean) dX9_isFigure_17 rfl rfl ((h.2 z2).1 z1)) (fun z1 =>
 T_iconst dX9_isFigure_12 ic_1 <|
 T_goto (tgt := 17) dX9_isFigure_13 (by decide) <|
 T_ireturn (ty := .boolean) dX9_isFigure_17 rfl rfl ((h.2 z2).2 z1)))
theorem rX9_next_0 {X : Nat × (Nat → Int32)}  {M : Mem} {Q : Option PV → Mem → Prop} (h : TT X kX9_byteAt 0 [some (pR (9, 0, 0)), some (pI (M 9 0 0 14))] [] M (rI fun v2 M1 => (v2 = 32 → TT X kX9_next 0 [some (pR (9, 0, 0)), none] [] (mset M1 9 0 0 14 ((M1 9 0 0 14) + 1)) Q) ∧ (¬ v2 = 32 → TT X kX9_byteAt 0 [some (pR (9, 0, 0)), some (pI (M1 9 0 0 14))] [] M1 (rI fun v4 M3 => (¬ v4 = 10 → TT X kX9_byteAt 0 [some (pR (9, 0, 0)), some (pI ((mset M3 9 0 0 16 (M3 9 0 0 14)) 9 0 0 14))] [] (mset M3 9 0 0 16 (M3 9 0 0 14)) (rI fun v6 M5 => (¬ v6 = (-1000000) → TT X kX9_isLetter 0 [some (pI v6)] [] M5 (rI fun v8 M7 => (v8 = 0 → TT X kX9_isFigure 0 [some (pI v6)] [] M7 (rI fun v10 M9 => (v10 = 0 → (¬ v6 = 59 → Q none (mset (mset (mset M9 9 0 0 14 ((M9 9 0 0 14) + 1)) 9 0 0 15 0) 9 0 0 17 ((mset (mset M9 9 0 0 14 ((M9 9 0 0 14) + 1)) 9 0 0 15 0) 9 0 0 14))) ∧ (v6 = 59 → Q none (mset (mset (mset M9 9 0 0 14 ((M9 9 0 0 14) + 1)) 9 0 0 15 4) 9 0 0 17 ((mset (mset M9 9 0 0 14 ((M9 9 0 0 14) + 1)) 9 0 0 15 4) 9 0 0 14)))) ∧ (¬ v10 = 0 → TT X kX9_next 119 [some (pR (9, 0, 0)), some (pI v6)] [] M9 Q))) ∧ (¬ v8 = 0 → TT X kX9_next 77 [some (pR (9, 0, 0)), some (pI v6)] [] M7 Q))) ∧ (v6 = (-1000000) → Q none (mset (mset M5 9 0 0 15 1) 9 0 0 17 ((mset M5 9 0 0 15 1) 9 0 0 14))))) ∧ (v4 = 10 → TT X kX9_next 0 [some (pR (9, 0, 0)), none] [] (mset M3 9 0 0 14 ((M3 9 0 0 14) + 1)) Q))))) : TT X kX9_next 0 [some (pR (9, 0, 0)), none] [] M Q :=
 T_aload_n dX9_next_0 rfl <|
 T_aload_n dX9_next_1 rfl <|
 T_getI (C := RX9) (T := TX9) (N := 31) (f := 14) dX9_next_2 c_9_0_0 rfl (by decide) wf_X9_96 rfl <|
 T_callVi (k' := kX9_byteAt) (vs := [pI (M 9 0 0 14)]) (st := []) dX9_next_5 wm_X9_99 okX9_byteAt rfl c_9_0_0 rfl rfl rfl (Nat.le_of_ble_eq_true rfl) rfl (Nat.le_of_ble_eq_true rfl) (TT.mono h (rI_mono (fun v2 M1 h21 =>
 T_bipush dX9_next_8 bp_32 <|
 T_icmp_eq (tgt := 26) dX9_next_10 (by decide) (fun z20 =>
 T_aload_n dX9_next_26 rfl <|
 T_dupR dX9_next_27 <|
 T_getI (C := RX9) (T := TX9) (N := 31) (f := 14) dX9_next_28 c_9_0_0 rfl (by decide) wf_X9_96 rfl <|
 T_iconst dX9_next_31 ic_1 <|
 T_iadd dX9_next_32 <|
 T_putI (C := RX9) (T := TX9) (N := 31) (f := 14) dX9_next_33 c_9_0_0 rfl (by decide) wf_X9_96 rfl rfl rfl <|
 T_goto (tgt := 0) dX9_next_36 (by decide) <|
 (h21.1 z20)) (fun z20 =>
 T_aload_n dX9_next_13 rfl <|
 T_aload_n dX9_next_14 rfl <|
 T_getI (C := RX9) (T := TX9) (N := 31) (f := 14) dX9_next_15 c_9_0_0 rfl (by decide) wf_X9_96 rfl <|
 T_callVi (k' := kX9_byteAt) (vs := [pI (M1 9 0 0 14)]) (st := []) dX9_next_18 wm_X9_99 okX9_byteAt rfl c_9_0_0 rfl rfl rfl (Nat.le_of_ble_eq_true rfl) rfl (Nat.le_of_ble_eq_true rfl) (TT.mono (h21.2 z20) (rI_mono (fun v4 M3 h19 =>
 T_bipush dX9_next_21 bp_10 <|
 T_icmp_ne (tgt := 39) dX9_next_23 (by decide) (fun z18 =>
 T_aload_n dX9_next_39 rfl <|
 T_aload_n dX9_next_40 rfl <|
 T_getI (C := RX9) (T := TX9) (N := 31) (f := 14) dX9_next_41 c_9_0_0 rfl (by decide) wf_X9_96 rfl <|
 T_putI (C := RX9) (T := TX9) (N := 31) (f := 16) dX9_next_44 c_9_0_0 rfl (by decide) wf_X9_102 rfl rfl rfl <|
 T_aload_n dX9_next_47 rfl <|
 T_aload_n dX9_next_48 rfl <|
 T_getI (C := RX9) (T := TX9) (N := 31) (f := 14) dX9_next_49 c_9_0_0 rfl (by decide) wf_X9_96 rfl <|
 T_callVi (k' := kX9_byteAt) (vs := [pI ((mset M3 9 0 0 16 (M3 9 0 0 14)) 9 0 0 14)]) (st := []) dX9_next_52 wm_X9_99 okX9_byteAt rfl c_9_0_0 rfl rfl rfl (Nat.le_of_ble_eq_true rfl) rfl (Nat.le_of_ble_eq_true rfl) (TT.mono (h19.1 z18) (rI_mono (fun v6 M5 h17 =>
 T_istore_n dX9_next_55 (by decide) rfl rfl <|
 T_iload_n dX9_next_56 rfl <|
 T_ldc dX9_next_57 wc_X9_95 <|
 T_icmp_ne (tgt := 70) dX9_next_59 (by decide) (fun z16 =>
 T_iload_n dX9_next_70 rfl <|
 T_callSi (k' := kX9_isLetter) (vs := [pI v6]) (st := []) dX9_next_71 wm_X9_108 okX9_isLetter rfl rfl rfl (Nat.le_of_ble_eq_true rfl) rfl (Nat.le_of_ble_eq_true rfl) (TT.mono (h17.1 z16) (rI_mono (fun v8 M7 h15 =>
 T_if_eq (tgt := 112) dX9_next_74 (by decide) (fun z14 =>
 T_iload_n dX9_next_112 rfl <|
 T_callSi (k' := kX9_isFigure) (vs := [pI v6]) (st := []) dX9_next_113 wm_X9_111 okX9_isFigure rfl rfl rfl (Nat.le_of_ble_eq_true rfl) rfl (Nat.le_of_ble_eq_true rfl) (TT.mono (h15.1 z14) (rI_mono (fun v10 M9 h13 =>
 T_if_eq (tgt := 171) dX9_next_116 (by decide) (fun z12 =>
 T_aload_n dX9_next_171 rfl <|
 T_dupR dX9_next_172 <|
 T_getI (C := RX9) (T := TX9) (N := 31) (f := 14) dX9_next_173 c_9_0_0 rfl (by decide) wf_X9_96 rfl <|
 T_iconst dX9_next_176 ic_1 <|
 T_iadd dX9_next_177 <|
 T_putI (C := RX9) (T := TX9) (N := 31) (f := 14) dX9_next_178 c_9_0_0 rfl (by decide) wf_X9_96 rfl rfl rfl <|
 T_aload_n dX9_next_181 rfl <|
 T_iload_n dX9_next_182 rfl <|
 T_bipush dX9_next_183 bp_59 <|
 T_icmp_ne (tgt := 192) dX9_next_185 (by decide) (fun z11 =>
 T_iconst dX9_next_192 ic_0 <|
 T_putI (C := RX9) (T := TX9) (N := 31) (f := 15) dX9_next_193 c_9_0_0 rfl (by decide) wf_X9_105 rfl rfl rfl <|
 T_aload_n dX9_next_196 rfl <|
 T_aload_n dX9_next_197 rfl <|
 T_getI (C := RX9) (T := TX9) (N := 31) (f := 14) dX9_next_198 c_9_0_0 rfl (by decide) wf_X9_96 rfl <|
 T_putI (C := RX9) (T := TX9) (N := 31) (f := 17) dX9_next_201 c_9_0_0 rfl (by decide) wf_X9_114 rfl rfl rfl <|
 T_return dX9_next_204 rfl ((h13.1 z12).1 z11)) (fun z11 =>
 T_iconst dX9_next_188 ic_4 <|
 T_goto (tgt := 193) dX9_next_189 (by decide) <|
 T_putI (C := RX9) (T := TX9) (N := 31) (f := 15) dX9_next_193 c_9_0_0 rfl (by decide) wf_X9_105 rfl rfl rfl <|
 T_aload_n dX9_next_196 rfl <|
 T_aload_n dX9_next_197 rfl <|
 T_getI (C := RX9) (T := TX9) (N := 31) (f := 14) dX9_next_198 c_9_0_0 rfl (by decide) wf_X9_96 rfl <|
 T_putI (C := RX9) (T := TX9) (N := 31) (f := 17) dX9_next_201 c_9_0_0 rfl (by decide) wf_X9_114 rfl rfl rfl <|
 T_return dX9_next_204 rfl ((h13.1 z12).2 z11))) (fun z12 =>
 (h13.2 z12)))))) (fun z14 =>
 (h15.2 z14)))))) (fun z16 =>
 T_aload_n dX9_next_62 rfl <|
 T_iconst dX9_next_63 ic_1 <|
 T_putI (C := RX9) (T := TX9) (N := 31) (f := 15) dX9_next_64 c_9_0_0 rfl (by decide) wf_X9_105 rfl rfl rfl <|
 T_goto (tgt := 196) dX9_next_67 (by decide) <|
 T_aload_n dX9_next_196 rfl <|
 T_aload_n dX9_next_197 rfl <|
 T_getI (C := RX9) (T := TX9) (N := 31) (f := 14) dX9_next_198 c_9_0_0 rfl (by decide) wf_X9_96 rfl <|
 T_putI (C := RX9) (T := TX9) (N := 31) (f := 17) dX9_next_201 c_9_0_0 rfl (by decide) wf_X9_114 rfl rfl rfl <|
 T_return dX9_next_204 rfl (h17.2 z16)))))) (fun z18 =>
 T_aload_n dX9_next_26 rfl <|
 T_dupR dX9_next_27 <|
 T_getI (C := RX9) (T := TX9) (N := 31) (f := 14) dX9_next_28 c_9_0_0 rfl (by decide) wf_X9_96 rfl <|
 T_iconst dX9_next_31 ic_1 <|
 T_iadd dX9_next_32 <|
 T_putI (C := RX9) (T := TX9) (N := 31) (f := 14) dX9_next_33 c_9_0_0 rfl (by decide) wf_X9_96 rfl rfl rfl <|
 T_goto (tgt := 0) dX9_next_36 (by decide) <|
 (h19.2 z18)))))))))
theorem rX9_next_77 {X : Nat × (Nat → Int32)} {b1 : Int32} {M : Mem} {Q : Option PV → Mem → Prop} (h : TT X kX9_byteAt 0 [some (pR (9, 0, 0)), some (pI (M 9 0 0 14))] [] M (rI fun v23 M22 => TT X kX9_isLetter 0 [some (pI v23)] [] M22 (rI fun v25 M24 => (v25 = 0 → Q none (mset (mset M24 9 0 0 15 2) 9 0 0 17 ((mset M24 9 0 0 15 2) 9 0 0 14))) ∧ (¬ v25 = 0 → TT X kX9_next 77 [some (pR (9, 0, 0)), some (pI b1)] [] (mset M24 9 0 0 14 ((M24 9 0 0 14) + 1)) Q)))) : TT X kX9_next 77 [some (pR (9, 0, 0)), some (pI b1)] [] M Q :=
 T_aload_n dX9_next_77 rfl <|
 T_aload_n dX9_next_78 rfl <|
 T_getI (C := RX9) (T := TX9) (N := 31) (f := 14) dX9_next_79 c_9_0_0 rfl (by decide) wf_X9_96 rfl <|
 T_callVi (k' := kX9_byteAt) (vs := [pI (M 9 0 0 14)]) (st := []) dX9_next_82 wm_X9_99 okX9_byteAt rfl c_9_0_0 rfl rfl rfl (Nat.le_of_ble_eq_true rfl) rfl (Nat.le_of_ble_eq_true rfl) (TT.mono h (rI_mono (fun v23 M22 h28 =>
 T_callSi (k' := kX9_isLetter) (vs := [pI v23]) (st := []) dX9_next_85 wm_X9_108 okX9_isLetter rfl rfl rfl (Nat.le_of_ble_eq_true rfl) rfl (Nat.le_of_ble_eq_true rfl) (TT.mono h28 (rI_mono (fun v25 M24 h27 =>
 T_if_eq (tgt := 104) dX9_next_88 (by decide) (fun z26 =>
 T_aload_n dX9_next_104 rfl <|
 T_iconst dX9_next_105 ic_2 <|
 T_putI (C := RX9) (T := TX9) (N := 31) (f := 15) dX9_next_106 c_9_0_0 rfl (by decide) wf_X9_105 rfl rfl rfl <|
 T_goto (tgt := 196) dX9_next_109 (by decide) <|
 T_aload_n dX9_next_196 rfl <|
 T_aload_n dX9_next_197 rfl <|
 T_getI (C := RX9) (T := TX9) (N := 31) (f := 14) dX9_next_198 c_9_0_0 rfl (by decide) wf_X9_96 rfl <|
 T_putI (C := RX9) (T := TX9) (N := 31) (f := 17) dX9_next_201 c_9_0_0 rfl (by decide) wf_X9_114 rfl rfl rfl <|
 T_return dX9_next_204 rfl (h27.1 z26)) (fun z26 =>
 T_aload_n dX9_next_91 rfl <|
 T_dupR dX9_next_92 <|
 T_getI (C := RX9) (T := TX9) (N := 31) (f := 14) dX9_next_93 c_9_0_0 rfl (by decide) wf_X9_96 rfl <|
 T_iconst dX9_next_96 ic_1 <|
 T_iadd dX9_next_97 <|
 T_putI (C := RX9) (T := TX9) (N := 31) (f := 14) dX9_next_98 c_9_0_0 rfl (by decide) wf_X9_96 rfl rfl rfl <|
 T_goto (tgt := 77) dX9_next_101 (by decide) <|
 (h27.2 z26))))))))
theorem rX9_next_119 {X : Nat × (Nat → Int32)} {b1 : Int32} {M : Mem} {Q : Option PV → Mem → Prop} (h : TT X kX9_byteAt 0 [some (pR (9, 0, 0)), some (pI (M 9 0 0 14))] [] M (rI fun v30 M29 => TT X kX9_isFigure 0 [some (pI v30)] [] M29 (rI fun v32 M31 => (v32 = 0 → (((M31 9 0 0 14) - (M31 9 0 0 16)) ≤ 3 → Q none (mset (mset M31 9 0 0 15 3) 9 0 0 17 ((mset M31 9 0 0 15 3) 9 0 0 14))) ∧ (¬ ((M31 9 0 0 14) - (M31 9 0 0 16)) ≤ 3 → Q none (mset (mset M31 9 0 0 15 0) 9 0 0 17 ((mset M31 9 0 0 15 0) 9 0 0 14)))) ∧ (¬ v32 = 0 → TT X kX9_next 119 [some (pR (9, 0, 0)), some (pI b1)] [] (mset M31 9 0 0 14 ((M31 9 0 0 14) + 1)) Q)))) : TT X kX9_next 119 [some (pR (9, 0, 0)), some (pI b1)] [] M Q :=
 T_aload_n dX9_next_119 rfl <|
 T_aload_n dX9_next_120 rfl <|
 T_getI (C := RX9) (T := TX9) (N := 31) (f := 14) dX9_next_121 c_9_0_0 rfl (by decide) wf_X9_96 rfl <|
 T_callVi (k' := kX9_byteAt) (vs := [pI (M 9 0 0 14)]) (st := []) dX9_next_124 wm_X9_99 okX9_byteAt rfl c_9_0_0 rfl rfl rfl (Nat.le_of_ble_eq_true rfl) rfl (Nat.le_of_ble_eq_true rfl) (TT.mono h (rI_mono (fun v30 M29 h36 =>
 T_callSi (k' := kX9_isFigure) (vs := [pI v30]) (st := []) dX9_next_127 wm_X9_111 okX9_isFigure rfl rfl rfl (Nat.le_of_ble_eq_true rfl) rfl (Nat.le_of_ble_eq_true rfl) (TT.mono h36 (rI_mono (fun v32 M31 h35 =>
 T_if_eq (tgt := 146) dX9_next_130 (by decide) (fun z34 =>
 T_aload_n dX9_next_146 rfl <|
 T_aload_n dX9_next_147 rfl <|
 T_getI (C := RX9) (T := TX9) (N := 31) (f := 14) dX9_next_148 c_9_0_0 rfl (by decide) wf_X9_96 rfl <|
 T_aload_n dX9_next_151 rfl <|
 T_getI (C := RX9) (T := TX9) (N := 31) (f := 16) dX9_next_152 c_9_0_0 rfl (by decide) wf_X9_102 rfl <|
 T_isub dX9_next_155 <|
 T_iconst dX9_next_156 ic_3 <|
 T_icmp_le (tgt := 164) dX9_next_157 (by decide) (fun z33 =>
 T_iconst dX9_next_164 ic_3 <|
 T_putI (C := RX9) (T := TX9) (N := 31) (f := 15) dX9_next_165 c_9_0_0 rfl (by decide) wf_X9_105 rfl rfl rfl <|
 T_goto (tgt := 196) dX9_next_168 (by decide) <|
 T_aload_n dX9_next_196 rfl <|
 T_aload_n dX9_next_197 rfl <|
 T_getI (C := RX9) (T := TX9) (N := 31) (f := 14) dX9_next_198 c_9_0_0 rfl (by decide) wf_X9_96 rfl <|
 T_putI (C := RX9) (T := TX9) (N := 31) (f := 17) dX9_next_201 c_9_0_0 rfl (by decide) wf_X9_114 rfl rfl rfl <|
 T_return dX9_next_204 rfl ((h35.1 z34).1 z33)) (fun z33 =>
 T_iconst dX9_next_160 ic_0 <|
 T_goto (tgt := 165) dX9_next_161 (by decide) <|
 T_putI (C := RX9) (T := TX9) (N := 31) (f := 15) dX9_next_165 c_9_0_0 rfl (by decide) wf_X9_105 rfl rfl rfl <|
 T_goto (tgt := 196) dX9_next_168 (by decide) <|
 T_aload_n dX9_next_196 rfl <|
 T_aload_n dX9_next_197 rfl <|
 T_getI (C := RX9) (T := TX9) (N := 31) (f := 14) dX9_next_198 c_9_0_0 rfl (by decide) wf_X9_96 rfl <|
 T_putI (C := RX9) (T := TX9) (N := 31) (f := 17) dX9_next_201 c_9_0_0 rfl (by decide) wf_X9_114 rfl rfl rfl <|
 T_return dX9_next_204 rfl ((h35.1 z34).2 z33))) (fun z34 =>
 T_aload_n dX9_next_133 rfl <|
 T_dupR dX9_next_134 <|
 T_getI (C := RX9) (T := TX9) (N := 31) (f := 14) dX9_next_135 c_9_0_0 rfl (by decide) wf_X9_96 rfl <|
 T_iconst dX9_next_138 ic_1 <|
 T_iadd dX9_next_139 <|
 T_putI (C := RX9) (T := TX9) (N := 31) (f := 14) dX9_next_140 c_9_0_0 rfl (by decide) wf_X9_96 rfl rfl rfl <|
 T_goto (tgt := 119) dX9_next_143 (by decide) <|
 (h35.2 z34))))))))
theorem rX9_begin_0 {X : Nat × (Nat → Int32)}  {M : Mem} {Q : Option PV → Mem → Prop} (h : TT X kX9_next 0 [some (pR (9, 0, 0)), none] [] (mset (mset (mset (mset M 9 0 0 13 (M 9 0 0 11)) 9 0 0 11 0) 9 0 0 14 0) 9 0 0 18 0) (rV fun M1 => Q none M1)) : TT X kX9_begin 0 [some (pR (9, 0, 0))] [] M Q :=
 T_aload_n dX9_begin_0 rfl <|
 T_aload_n dX9_begin_1 rfl <|
 T_getI (C := RX9) (T := TX9) (N := 31) (f := 11) dX9_begin_2 c_9_0_0 rfl (by decide) wf_X9_86 rfl <|
 T_putI (C := RX9) (T := TX9) (N := 31) (f := 13) dX9_begin_5 c_9_0_0 rfl (by decide) wf_X9_92 rfl rfl rfl <|
 T_aload_n dX9_begin_8 rfl <|
 T_iconst dX9_begin_9 ic_0 <|
 T_putI (C := RX9) (T := TX9) (N := 31) (f := 11) dX9_begin_10 c_9_0_0 rfl (by decide) wf_X9_86 rfl rfl rfl <|
 T_aload_n dX9_begin_13 rfl <|
 T_iconst dX9_begin_14 ic_0 <|
 T_putI (C := RX9) (T := TX9) (N := 31) (f := 14) dX9_begin_15 c_9_0_0 rfl (by decide) wf_X9_96 rfl rfl rfl <|
 T_aload_n dX9_begin_18 rfl <|
 T_iconst dX9_begin_19 ic_0 <|
 T_putI (C := RX9) (T := TX9) (N := 31) (f := 18) dX9_begin_20 c_9_0_0 rfl (by decide) wf_X9_117 rfl rfl rfl <|
 T_aload_n dX9_begin_23 rfl <|
 T_callVv (k' := kX9_next) (vs := []) (st := []) dX9_begin_24 wm_X9_120 okX9_next rfl c_9_0_0 rfl rfl rfl (Nat.le_of_ble_eq_true rfl) rfl (Nat.le_of_ble_eq_true rfl) (TT.mono h (rV_mono (fun M1 h3 =>
 T_return dX9_begin_27 rfl h3)))
theorem rX9_bad_0 {X : Nat × (Nat → Int32)} {a1 : Int32} {M : Mem} {Q : Option PV → Mem → Prop} (h : (¬ (M 9 0 0 18) = 0 → Q none M) ∧ ((M 9 0 0 18) = 0 → Q none (mset (mset M 9 0 0 18 a1) 9 0 0 19 ((mset M 9 0 0 18 a1) 9 0 0 16)))) : TT X kX9_bad 0 [some (pR (9, 0, 0)), some (pI a1)] [] M Q :=
 T_aload_n dX9_bad_0 rfl <|
 T_getI (C := RX9) (T := TX9) (N := 31) (f := 18) dX9_bad_1 c_9_0_0 rfl (by decide) wf_X9_117 rfl <|
 T_if_ne (tgt := 20) dX9_bad_4 (by decide) (fun z1 =>
 T_return dX9_bad_20 rfl (h.1 z1)) (fun z1 =>
 T_aload_n dX9_bad_7 rfl <|
 T_iload_n dX9_bad_8 rfl <|
 T_putI (C := RX9) (T := TX9) (N := 31) (f := 18) dX9_bad_9 c_9_0_0 rfl (by decide) wf_X9_117 rfl rfl rfl <|
 T_aload_n dX9_bad_12 rfl <|
 T_aload_n dX9_bad_13 rfl <|
 T_getI (C := RX9) (T := TX9) (N := 31) (f := 16) dX9_bad_14 c_9_0_0 rfl (by decide) wf_X9_102 rfl <|
 T_putI (C := RX9) (T := TX9) (N := 31) (f := 19) dX9_bad_17 c_9_0_0 rfl (by decide) wf_X9_123 rfl rfl rfl <|
 T_return dX9_bad_20 rfl (h.2 z1))
theorem rX9_must_0 {X : Nat × (Nat → Int32)} {a1 : Int32} {M : Mem} {Q : Option PV → Mem → Prop} (h : (¬ a1 = 0 → (¬ (M 9 0 0 18) = 0 → Q none M) ∧ ((M 9 0 0 18) = 0 → TT X kX9_next 0 [some (pR (9, 0, 0)), none] [] M (rV fun M1 => Q none M1))) ∧ (a1 = 0 → TT X kX9_bad 0 [some (pR (9, 0, 0)), some (pI 1)] [] M (rV fun M5 => (¬ (M5 9 0 0 18) = 0 → Q none M5) ∧ ((M5 9 0 0 18) = 0 → TT X kX9_next 0 [some (pR (9, 0, 0)), none] [] M5 (rV fun M7 => Q none M7))))) : TT X kX9_must 0 [some (pR (9, 0, 0)), some (pI a1)] [] M Q :=
 T_iload_n dX9_must_0 rfl <|
 T_if_ne (tgt := 9) dX9_must_1 (by decide) (fun z12 =>
 T_aload_n dX9_must_9 rfl <|
 T_getI (C := RX9) (T := TX9) (N := 31) (f := 18) dX9_must_10 c_9_0_0 rfl (by decide) wf_X9_117 rfl <|
 T_if_ne (tgt := 20) dX9_must_13 (by decide) (fun z4 =>
 T_return dX9_must_20 rfl ((h.1 z12).1 z4)) (fun z4 =>
 T_aload_n dX9_must_16 rfl <|
 T_callVv (k' := kX9_next) (vs := []) (st := []) dX9_must_17 wm_X9_120 okX9_next rfl c_9_0_0 rfl rfl rfl (Nat.le_of_ble_eq_true rfl) rfl (Nat.le_of_ble_eq_true rfl) (TT.mono ((h.1 z12).2 z4) (rV_mono (fun M1 h3 =>
 T_return dX9_must_20 rfl h3))))) (fun z12 =>
 T_aload_n dX9_must_4 rfl <|
 T_iconst dX9_must_5 ic_1 <|
 T_callVv (k' := kX9_bad) (vs := [pI 1]) (st := []) dX9_must_6 wm_X9_126 okX9_bad rfl c_9_0_0 rfl rfl rfl (Nat.le_of_ble_eq_true rfl) rfl (Nat.le_of_ble_eq_true rfl) (TT.mono (h.2 z12) (rV_mono (fun M5 h11 =>
 T_aload_n dX9_must_9 rfl <|
 T_getI (C := RX9) (T := TX9) (N := 31) (f := 18) dX9_must_10 c_9_0_0 rfl (by decide) wf_X9_117 rfl <|
 T_if_ne (tgt := 20) dX9_must_13 (by decide) (fun z10 =>
 T_return dX9_must_20 rfl (h11.1 z10)) (fun z10 =>
 T_aload_n dX9_must_16 rfl <|
 T_callVv (k' := kX9_next) (vs := []) (st := []) dX9_must_17 wm_X9_120 okX9_next rfl c_9_0_0 rfl rfl rfl (Nat.le_of_ble_eq_true rfl) rfl (Nat.le_of_ble_eq_true rfl) (TT.mono (h11.2 z10) (rV_mono (fun M7 h9 =>
 T_return dX9_must_20 rfl h9))))))))
theorem rX9_name_0 {X : Nat × (Nat → Int32)}  {M : Mem} {Q : Option PV → Mem → Prop} (h : TT X kX9_name 7 [some (pR (9, 0, 0)), some (pL 0), none, some (pI (M 9 0 0 16))] [] M Q) : TT X kX9_name 0 [some (pR (9, 0, 0)), none, none, none] [] M Q :=
 T_lconst dX9_name_0 lc_0 <|
 T_lstore_n dX9_name_1 (by decide) rfl rfl <|
 T_aload_n dX9_name_2 rfl <|
 T_getI (C := RX9) (T := TX9) (N := 31) (f := 16) dX9_name_3 c_9_0_0 rfl (by decide) wf_X9_102 rfl <|
 T_istore_n dX9_name_6 (by decide) rfl rfl <|
 h
theorem rX9_name_7 {X : Nat × (Nat → Int32)} {b1 : Int64} {b3 : Int32} {M : Mem} {Q : Option PV → Mem → Prop} (h : ((M 9 0 0 17) ≤ b3 → (¬ (M 9 0 0 18) = 0 → Q (some (pL 0)) M) ∧ ((M 9 0 0 18) = 0 → Q (some (pL b1)) M)) ∧ (¬ (M 9 0 0 17) ≤ b3 → (¬ (M 9 0 0 15) = 2 → (¬ (M 9 0 0 18) = 0 → Q (some (pL 0)) M) ∧ ((M 9 0 0 18) = 0 → Q (some (pL b1)) M)) ∧ ((M 9 0 0 15) = 2 → (8 ≤ ((M 9 0 0 17) - (M 9 0 0 16)) → (¬ (M 9 0 0 18) = 0 → Q (some (pL 0)) M) ∧ ((M 9 0 0 18) = 0 → Q (some (pL b1)) M)) ∧ (¬ 8 ≤ ((M 9 0 0 17) - (M 9 0 0 16)) → vp_in b3 400 ∧ (TT X kX9_name 7 [some (pR (9, 0, 0)), some (pL ((b1 <<< (Int32.toInt64 8 &&& 63)) ||| (Int32.toInt64 (M 9 0 11 (Int32.toNatClampNeg b3))))), none, some (pI (b3 + 1))] [] M Q))))) : TT X kX9_name 7 [some (pR (9, 0, 0)), some (pL b1), none, some (pI b3)] [] M Q :=
 T_iload_n dX9_name_7 rfl <|
 T_aload_n dX9_name_8 rfl <|
 T_getI (C := RX9) (T := TX9) (N := 31) (f := 17) dX9_name_9 c_9_0_0 rfl (by decide) wf_X9_114 rfl <|
 T_icmp_ge (tgt := 56) dX9_name_12 (by decide) (fun z6 =>
 T_aload_n dX9_name_56 rfl <|
 T_getI (C := RX9) (T := TX9) (N := 31) (f := 18) dX9_name_57 c_9_0_0 rfl (by decide) wf_X9_117 rfl <|
 T_if_ne (tgt := 67) dX9_name_60 (by decide) (fun z1 =>
 T_lconst dX9_name_67 lc_0 <|
 T_lreturn dX9_name_68 rfl ((h.1 z6).1 z1)) (fun z1 =>
 T_lload_n dX9_name_63 rfl <|
 T_goto (tgt := 68) dX9_name_64 (by decide) <|
 T_lreturn dX9_name_68 rfl ((h.1 z6).2 z1))) (fun z6 =>
 T_aload_n dX9_name_15 rfl <|
 T_getI (C := RX9) (T := TX9) (N := 31) (f := 15) dX9_name_16 c_9_0_0 rfl (by decide) wf_X9_105 rfl <|
 T_iconst dX9_name_19 ic_2 <|
 T_icmp_ne (tgt := 56) dX9_name_20 (by decide) (fun z5 =>
 T_aload_n dX9_name_56 rfl <|
 T_getI (C := RX9) (T := TX9) (N := 31) (f := 18) dX9_name_57 c_9_0_0 rfl (by decide) wf_X9_117 rfl <|
 T_if_ne (tgt := 67) dX9_name_60 (by decide) (fun z2 =>
 T_lconst dX9_name_67 lc_0 <|
 T_lreturn dX9_name_68 rfl (((h.2 z6).1 z5).1 z2)) (fun z2 =>
 T_lload_n dX9_name_63 rfl <|
 T_goto (tgt := 68) dX9_name_64 (by decide) <|
 T_lreturn dX9_name_68 rfl (((h.2 z6).1 z5).2 z2))) (fun z5 =>
 T_aload_n dX9_name_23 rfl <|
 T_getI (C := RX9) (T := TX9) (N := 31) (f := 17) dX9_name_24 c_9_0_0 rfl (by decide) wf_X9_114 rfl <|
 T_aload_n dX9_name_27 rfl <|
 T_getI (C := RX9) (T := TX9) (N := 31) (f := 16) dX9_name_28 c_9_0_0 rfl (by decide) wf_X9_102 rfl <|
 T_isub dX9_name_31 <|
 T_bipush dX9_name_32 bp_8 <|
 T_icmp_ge (tgt := 56) dX9_name_34 (by decide) (fun z4 =>
 T_aload_n dX9_name_56 rfl <|
 T_getI (C := RX9) (T := TX9) (N := 31) (f := 18) dX9_name_57 c_9_0_0 rfl (by decide) wf_X9_117 rfl <|
 T_if_ne (tgt := 67) dX9_name_60 (by decide) (fun z3 =>
 T_lconst dX9_name_67 lc_0 <|
 T_lreturn dX9_name_68 rfl ((((h.2 z6).2 z5).1 z4).1 z3)) (fun z3 =>
 T_lload_n dX9_name_63 rfl <|
 T_goto (tgt := 68) dX9_name_64 (by decide) <|
 T_lreturn dX9_name_68 rfl ((((h.2 z6).2 z5).1 z4).2 z3))) (fun z4 =>
 T_lload_n dX9_name_37 rfl <|
 T_bipush dX9_name_38 bp_8 <|
 T_lshl dX9_name_40 <|
 T_aload_n dX9_name_41 rfl <|
 T_getR (C := RX9) (T := TX9) (N := 31) (f := 10) dX9_name_42 c_9_0_0 rfl (by decide) wf_X9_28 rfl <|
 T_iload_n dX9_name_45 rfl <|
 T_iald (n := 400) dX9_name_46 c_9_0_11 (by decide) (by decide) (by decide) rfl (((h.2 z6).2 z5).2 z4).1 <|
 T_i2l dX9_name_47 <|
 T_lor dX9_name_48 <|
 T_lstore_n dX9_name_49 (by decide) rfl rfl <|
 T_iinc dX9_name_50 rfl (ii_1 _) (by decide) rfl rfl <|
 T_goto (tgt := 7) dX9_name_53 (by decide) <|
 (((h.2 z6).2 z5).2 z4).2)))
theorem rX9_figures_0 {X : Nat × (Nat → Int32)}  {M : Mem} {Q : Option PV → Mem → Prop} (h : TT X kX9_figures 7 [some (pR (9, 0, 0)), some (pI 0), some (pI (M 9 0 0 16))] [] M Q) : TT X kX9_figures 0 [some (pR (9, 0, 0)), none, none] [] M Q :=
 T_iconst dX9_figures_0 ic_0 <|
 T_istore_n dX9_figures_1 (by decide) rfl rfl <|
 T_aload_n dX9_figures_2 rfl <|
 T_getI (C := RX9) (T := TX9) (N := 31) (f := 16) dX9_figures_3 c_9_0_0 rfl (by decide) wf_X9_102 rfl <|
 T_istore_n dX9_figures_6 (by decide) rfl rfl <|
 h
theorem rX9_figures_7 {X : Nat × (Nat → Int32)} {b1 : Int32} {b2 : Int32} {M : Mem} {Q : Option PV → Mem → Prop} (h : ((M 9 0 0 17) ≤ b2 → Q (some (pI b1)) M) ∧ (¬ (M 9 0 0 17) ≤ b2 → (¬ (M 9 0 0 15) = 3 → Q (some (pI b1)) M) ∧ ((M 9 0 0 15) = 3 → vp_in b2 400 ∧ (TT X kX9_figures 7 [some (pR (9, 0, 0)), some (pI (((10 * b1) + (M 9 0 11 (Int32.toNatClampNeg b2))) - 48)), some (pI (b2 + 1))] [] M Q)))) : TT X kX9_figures 7 [some (pR (9, 0, 0)), some (pI b1), some (pI b2)] [] M Q :=
 T_iload_n dX9_figures_7 rfl <|
 T_aload_n dX9_figures_8 rfl <|
 T_getI (C := RX9) (T := TX9) (N := 31) (f := 17) dX9_figures_9 c_9_0_0 rfl (by decide) wf_X9_114 rfl <|
 T_icmp_ge (tgt := 44) dX9_figures_12 (by decide) (fun z2 =>
 T_iload_n dX9_figures_44 rfl <|
 T_ireturn (ty := .int) dX9_figures_45 rfl rfl (h.1 z2)) (fun z2 =>
 T_aload_n dX9_figures_15 rfl <|
 T_getI (C := RX9) (T := TX9) (N := 31) (f := 15) dX9_figures_16 c_9_0_0 rfl (by decide) wf_X9_105 rfl <|
 T_iconst dX9_figures_19 ic_3 <|
 T_icmp_ne (tgt := 44) dX9_figures_20 (by decide) (fun z1 =>
 T_iload_n dX9_figures_44 rfl <|
 T_ireturn (ty := .int) dX9_figures_45 rfl rfl ((h.2 z2).1 z1)) (fun z1 =>
 T_bipush dX9_figures_23 bp_10 <|
 T_iload_n dX9_figures_25 rfl <|
 T_imul dX9_figures_26 <|
 T_aload_n dX9_figures_27 rfl <|
 T_getR (C := RX9) (T := TX9) (N := 31) (f := 10) dX9_figures_28 c_9_0_0 rfl (by decide) wf_X9_28 rfl <|
 T_iload_n dX9_figures_31 rfl <|
 T_iald (n := 400) dX9_figures_32 c_9_0_11 (by decide) (by decide) (by decide) rfl ((h.2 z2).2 z1).1 <|
 T_iadd dX9_figures_33 <|
 T_bipush dX9_figures_34 bp_48 <|
 T_isub dX9_figures_36 <|
 T_istore_n dX9_figures_37 (by decide) rfl rfl <|
 T_iinc dX9_figures_38 rfl (ii_1 _) (by decide) rfl rfl <|
 T_goto (tgt := 7) dX9_figures_41 (by decide) <|
 ((h.2 z2).2 z1).2))
theorem rX9_number_0 {X : Nat × (Nat → Int32)} {a1 : Int32} {a2 : Int32} {M : Mem} {Q : Option PV → Mem → Prop} (h : ((M 9 0 0 18) ≤ 0 → TT X kX9_figures 0 [some (pR (9, 0, 0)), none, none] [] M (rI fun v2 M1 => (¬ (M1 9 0 0 15) = 3 → (¬ (M1 9 0 0 15) = 3 → TT X kX9_must 0 [some (pR (9, 0, 0)), some (pI 0)] [] M1 (rV fun M3 => Q (some (pI v2)) M3)) ∧ ((M1 9 0 0 15) = 3 → TT X kX9_must 0 [some (pR (9, 0, 0)), some (pI 1)] [] M1 (rV fun M6 => Q (some (pI v2)) M6))) ∧ ((M1 9 0 0 15) = 3 → TT X kX9_in 0 [some (pL (Int32.toInt64 v2)), none, some (pL (Int32.toInt64 a1)), none, some (pL (Int32.toInt64 a2)), none] [] M1 (rI fun v11 M10 => (¬ v11 = 0 → (¬ (M10 9 0 0 15) = 3 → TT X kX9_must 0 [some (pR (9, 0, 0)), some (pI 0)] [] M10 (rV fun M12 => Q (some (pI v2)) M12)) ∧ ((M10 9 0 0 15) = 3 → TT X kX9_must 0 [some (pR (9, 0, 0)), some (pI 1)] [] M10 (rV fun M15 => Q (some (pI v2)) M15))) ∧ (v11 = 0 → TT X kX9_bad 0 [some (pR (9, 0, 0)), some (pI 2)] [] M10 (rV fun M19 => (¬ (M19 9 0 0 15) = 3 → TT X kX9_must 0 [some (pR (9, 0, 0)), some (pI 0)] [] M19 (rV fun M21 => Q (some (pI v2)) M21)) ∧ ((M19 9 0 0 15) = 3 → TT X kX9_must 0 [some (pR (9, 0, 0)), some (pI 1)] [] M19 (rV fun M24 => Q (some (pI v2)) M24)))))))) ∧ (¬ (M 9 0 0 18) ≤ 0 → Q (some (pI 0)) M)) : TT X kX9_number 0 [some (pR (9, 0, 0)), some (pI a1), some (pI a2), none] [] M Q :=
 T_aload_n dX9_number_0 rfl <|
 T_getI (C := RX9) (T := TX9) (N := 31) (f := 18) dX9_number_1 c_9_0_0 rfl (by decide) wf_X9_117 rfl <|
 T_if_le (tgt := 9) dX9_number_4 (by decide) (fun z33 =>
 T_aload_n dX9_number_9 rfl <|
 T_callVi (k' := kX9_figures) (vs := []) (st := []) dX9_number_10 wm_X9_130 okX9_figures rfl c_9_0_0 rfl rfl rfl (Nat.le_of_ble_eq_true rfl) rfl (Nat.le_of_ble_eq_true rfl) (TT.mono (h.1 z33) (rI_mono (fun v2 M1 h32 =>
 T_istore_n dX9_number_13 (by decide) rfl rfl <|
 T_aload_n dX9_number_14 rfl <|
 T_getI (C := RX9) (T := TX9) (N := 31) (f := 15) dX9_number_15 c_9_0_0 rfl (by decide) wf_X9_105 rfl <|
 T_iconst dX9_number_18 ic_3 <|
 T_icmp_ne (tgt := 39) dX9_number_19 (by decide) (fun z31 =>
 T_aload_n dX9_number_39 rfl <|
 T_aload_n dX9_number_40 rfl <|
 T_getI (C := RX9) (T := TX9) (N := 31) (f := 15) dX9_number_41 c_9_0_0 rfl (by decide) wf_X9_105 rfl <|
 T_iconst dX9_number_44 ic_3 <|
 T_icmp_ne (tgt := 52) dX9_number_45 (by decide) (fun z9 =>
 T_iconst dX9_number_52 ic_0 <|
 T_callVv (k' := kX9_must) (vs := [pI 0]) (st := []) dX9_number_53 wm_X9_134 okX9_must rfl c_9_0_0 rfl rfl rfl (Nat.le_of_ble_eq_true rfl) rfl (Nat.le_of_ble_eq_true rfl) (TT.mono ((h32.1 z31).1 z9) (rV_mono (fun M3 h5 =>
 T_iload_n dX9_number_56 rfl <|
 T_ireturn (ty := .int) dX9_number_57 rfl rfl h5)))) (fun z9 =>
 T_iconst dX9_number_48 ic_1 <|
 T_goto (tgt := 53) dX9_number_49 (by decide) <|
 T_callVv (k' := kX9_must) (vs := [pI 1]) (st := []) dX9_number_53 wm_X9_134 okX9_must rfl c_9_0_0 rfl rfl rfl (Nat.le_of_ble_eq_true rfl) rfl (Nat.le_of_ble_eq_true rfl) (TT.mono ((h32.1 z31).2 z9) (rV_mono (fun M6 h8 =>
 T_iload_n dX9_number_56 rfl <|
 T_ireturn (ty := .int) dX9_number_57 rfl rfl h8))))) (fun z31 =>
 T_iload_n dX9_number_22 rfl <|
 T_i2l dX9_number_23 <|
 T_iload_n dX9_number_24 rfl <|
 T_i2l dX9_number_25 <|
 T_iload_n dX9_number_26 rfl <|
 T_i2l dX9_number_27 <|
 T_callSi (k' := kX9_in) (vs := [pL (Int32.toInt64 v2), pL (Int32.toInt64 a1), pL (Int32.toInt64 a2)]) (st := []) dX9_number_28 wm_X9_69 okX9_in rfl rfl rfl (Nat.le_of_ble_eq_true rfl) rfl (Nat.le_of_ble_eq_true rfl) (TT.mono (h32.2 z31) (rI_mono (fun v11 M10 h30 =>
 T_if_ne (tgt := 39) dX9_number_31 (by decide) (fun z29 =>
 T_aload_n dX9_number_39 rfl <|
 T_aload_n dX9_number_40 rfl <|
 T_getI (C := RX9) (T := TX9) (N := 31) (f := 15) dX9_number_41 c_9_0_0 rfl (by decide) wf_X9_105 rfl <|
 T_iconst dX9_number_44 ic_3 <|
 T_icmp_ne (tgt := 52) dX9_number_45 (by decide) (fun z18 =>
 T_iconst dX9_number_52 ic_0 <|
 T_callVv (k' := kX9_must) (vs := [pI 0]) (st := []) dX9_number_53 wm_X9_134 okX9_must rfl c_9_0_0 rfl rfl rfl (Nat.le_of_ble_eq_true rfl) rfl (Nat.le_of_ble_eq_true rfl) (TT.mono ((h30.1 z29).1 z18) (rV_mono (fun M12 h14 =>
 T_iload_n dX9_number_56 rfl <|
 T_ireturn (ty := .int) dX9_number_57 rfl rfl h14)))) (fun z18 =>
 T_iconst dX9_number_48 ic_1 <|
 T_goto (tgt := 53) dX9_number_49 (by decide) <|
 T_callVv (k' := kX9_must) (vs := [pI 1]) (st := []) dX9_number_53 wm_X9_134 okX9_must rfl c_9_0_0 rfl rfl rfl (Nat.le_of_ble_eq_true rfl) rfl (Nat.le_of_ble_eq_true rfl) (TT.mono ((h30.1 z29).2 z18) (rV_mono (fun M15 h17 =>
 T_iload_n dX9_number_56 rfl <|
 T_ireturn (ty := .int) dX9_number_57 rfl rfl h17))))) (fun z29 =>
 T_aload_n dX9_number_34 rfl <|
 T_iconst dX9_number_35 ic_2 <|
 T_callVv (k' := kX9_bad) (vs := [pI 2]) (st := []) dX9_number_36 wm_X9_126 okX9_bad rfl c_9_0_0 rfl rfl rfl (Nat.le_of_ble_eq_true rfl) rfl (Nat.le_of_ble_eq_true rfl) (TT.mono (h30.2 z29) (rV_mono (fun M19 h28 =>
 T_aload_n dX9_number_39 rfl <|
 T_aload_n dX9_number_40 rfl <|
 T_getI (C := RX9) (T := TX9) (N := 31) (f := 15) dX9_number_41 c_9_0_0 rfl (by decide) wf_X9_105 rfl <|
 T_iconst dX9_number_44 ic_3 <|
 T_icmp_ne (tgt := 52) dX9_number_45 (by decide) (fun z27 =>
 T_iconst dX9_number_52 ic_0 <|
 T_callVv (k' := kX9_must) (vs := [pI 0]) (st := []) dX9_number_53 wm_X9_134 okX9_must rfl c_9_0_0 rfl rfl rfl (Nat.le_of_ble_eq_true rfl) rfl (Nat.le_of_ble_eq_true rfl) (TT.mono (h28.1 z27) (rV_mono (fun M21 h23 =>
 T_iload_n dX9_number_56 rfl <|
 T_ireturn (ty := .int) dX9_number_57 rfl rfl h23)))) (fun z27 =>
 T_iconst dX9_number_48 ic_1 <|
 T_goto (tgt := 53) dX9_number_49 (by decide) <|
 T_callVv (k' := kX9_must) (vs := [pI 1]) (st := []) dX9_number_53 wm_X9_134 okX9_must rfl c_9_0_0 rfl rfl rfl (Nat.le_of_ble_eq_true rfl) rfl (Nat.le_of_ble_eq_true rfl) (TT.mono (h28.2 z27) (rV_mono (fun M24 h26 =>
 T_iload_n dX9_number_56 rfl <|
 T_ireturn (ty := .int) dX9_number_57 rfl rfl h26)))))))))))))))) (fun z33 =>
 T_iconst dX9_number_7 ic_0 <|
 T_ireturn (ty := .int) dX9_number_8 rfl rfl (h.2 z33))
theorem rX9_mustEnd_0 {X : Nat × (Nat → Int32)}  {M : Mem} {Q : Option PV → Mem → Prop} (h : (¬ (M 9 0 0 18) = 0 → Q none M) ∧ ((M 9 0 0 18) = 0 → (¬ (M 9 0 0 15) = 4 → TT X kX9_must 0 [some (pR (9, 0, 0)), some (pI 0)] [] M (rV fun M1 => Q none M1)) ∧ ((M 9 0 0 15) = 4 → TT X kX9_must 0 [some (pR (9, 0, 0)), some (pI 1)] [] M (rV fun M4 => Q none M4)))) : TT X kX9_mustEnd 0 [some (pR (9, 0, 0))] [] M Q :=
 T_aload_n dX9_mustEnd_0 rfl <|
 T_getI (C := RX9) (T := TX9) (N := 31) (f := 18) dX9_mustEnd_1 c_9_0_0 rfl (by decide) wf_X9_117 rfl <|
 T_if_ne (tgt := 24) dX9_mustEnd_4 (by decide) (fun z8 =>
 T_return dX9_mustEnd_24 rfl (h.1 z8)) (fun z8 =>
 T_aload_n dX9_mustEnd_7 rfl <|
 T_aload_n dX9_mustEnd_8 rfl <|
 T_getI (C := RX9) (T := TX9) (N := 31) (f := 15) dX9_mustEnd_9 c_9_0_0 rfl (by decide) wf_X9_105 rfl <|
 T_iconst dX9_mustEnd_12 ic_4 <|
 T_icmp_ne (tgt := 20) dX9_mustEnd_13 (by decide) (fun z7 =>
 T_iconst dX9_mustEnd_20 ic_0 <|
 T_callVv (k' := kX9_must) (vs := [pI 0]) (st := []) dX9_mustEnd_21 wm_X9_134 okX9_must rfl c_9_0_0 rfl rfl rfl (Nat.le_of_ble_eq_true rfl) rfl (Nat.le_of_ble_eq_true rfl) (TT.mono ((h.2 z8).1 z7) (rV_mono (fun M1 h3 =>
 T_return dX9_mustEnd_24 rfl h3)))) (fun z7 =>
 T_iconst dX9_mustEnd_16 ic_1 <|
 T_goto (tgt := 21) dX9_mustEnd_17 (by decide) <|
 T_callVv (k' := kX9_must) (vs := [pI 1]) (st := []) dX9_mustEnd_21 wm_X9_134 okX9_must rfl c_9_0_0 rfl rfl rfl (Nat.le_of_ble_eq_true rfl) rfl (Nat.le_of_ble_eq_true rfl) (TT.mono ((h.2 z8).2 z7) (rV_mono (fun M4 h6 =>
 T_return dX9_mustEnd_24 rfl h6)))))
theorem rX9_begins_0 {X : Nat × (Nat → Int32)} {a1 : Int32} {a2 : Int32} {M : Mem} {Q : Option PV → Mem → Prop} (h : vp_in a1 80 ∧ ((¬ (M 9 0 7 (Int32.toNatClampNeg a1)) = a2 → TT X kX9_must 0 [some (pR (9, 0, 0)), some (pI 1)] [] M (rV fun M1 => Q none M1)) ∧ ((M 9 0 7 (Int32.toNatClampNeg a1)) = a2 → TT X kX9_bad 0 [some (pR (9, 0, 0)), some (pI 3)] [] M (rV fun M4 => TT X kX9_must 0 [some (pR (9, 0, 0)), some (pI 1)] [] M4 (rV fun M6 => Q none M6))))) : TT X kX9_begins 0 [some (pR (9, 0, 0)), some (pI a1), some (pI a2)] [] M Q :=
 T_aload_n dX9_begins_0 rfl <|
 T_getR (C := RX9) (T := TX9) (N := 31) (f := 6) dX9_begins_1 c_9_0_0 rfl (by decide) wf_X9_22 rfl <|
 T_iload_n dX9_begins_4 rfl <|
 T_iald (n := 80) dX9_begins_5 c_9_0_7 (by decide) (by decide) (by decide) rfl h.1 <|
 T_iload_n dX9_begins_6 rfl <|
 T_icmp_ne (tgt := 15) dX9_begins_7 (by decide) (fun z10 =>
 T_aload_n dX9_begins_15 rfl <|
 T_iconst dX9_begins_16 ic_1 <|
 T_callVv (k' := kX9_must) (vs := [pI 1]) (st := []) dX9_begins_17 wm_X9_134 okX9_must rfl c_9_0_0 rfl rfl rfl (Nat.le_of_ble_eq_true rfl) rfl (Nat.le_of_ble_eq_true rfl) (TT.mono (h.2.1 z10) (rV_mono (fun M1 h3 =>
 T_return dX9_begins_20 rfl h3)))) (fun z10 =>
 T_aload_n dX9_begins_10 rfl <|
 T_iconst dX9_begins_11 ic_3 <|
 T_callVv (k' := kX9_bad) (vs := [pI 3]) (st := []) dX9_begins_12 wm_X9_126 okX9_bad rfl c_9_0_0 rfl rfl rfl (Nat.le_of_ble_eq_true rfl) rfl (Nat.le_of_ble_eq_true rfl) (TT.mono (h.2.2 z10) (rV_mono (fun M4 h9 =>
 T_aload_n dX9_begins_15 rfl <|
 T_iconst dX9_begins_16 ic_1 <|
 T_callVv (k' := kX9_must) (vs := [pI 1]) (st := []) dX9_begins_17 wm_X9_134 okX9_must rfl c_9_0_0 rfl rfl rfl (Nat.le_of_ble_eq_true rfl) rfl (Nat.le_of_ble_eq_true rfl) (TT.mono h9 (rV_mono (fun M6 h8 =>
 T_return dX9_begins_20 rfl h8)))))))
theorem rX9_readStep_0 {X : Nat × (Nat → Int32)}  {M : Mem} {Q : Option PV → Mem → Prop} (h : TT X kX9_begins 0 [some (pR (9, 0, 0)), some (pI 0), some (pI 18)] [] M (rV fun M1 => TT X kX9_number 0 [some (pR (9, 0, 0)), some (pI 0), some (pI 4), none] [] M1 (rI fun v4 M3 => TT X kX9_number 0 [some (pR (9, 0, 0)), some (pI 0), some (pI 20), none] [] M3 (rI fun v6 M5 => TT X kX9_mustEnd 0 [some (pR (9, 0, 0))] [] M5 (rV fun M7 => (¬ (M7 9 0 0 18) = 0 → Q none M7) ∧ ((M7 9 0 0 18) = 0 → vp_in (2 + (3 * (M7 9 0 7 0))) 80 ∧ (vp_in ((2 + (3 * ((mset M7 9 0 7 (Int32.toNatClampNeg (2 + (3 * (M7 9 0 7 0)))) v4) 9 0 7 0))) + 1) 80 ∧ (Q none (mset (mset (mset M7 9 0 7 (Int32.toNatClampNeg (2 + (3 * (M7 9 0 7 0)))) v4) 9 0 7 (Int32.toNatClampNeg ((2 + (3 * ((mset M7 9 0 7 (Int32.toNatClampNeg (2 + (3 * (M7 9 0 7 0)))) v4) 9 0 7 0))) + 1)) v6) 9 0 7 0 (((mset (mset M7 9 0 7 (Int32.toNatClampNeg (2 + (3 * (M7 9 0 7 0)))) v4) 9 0 7 (Int32.toNatClampNeg ((2 + (3 * ((mset M7 9 0 7 (Int32.toNatClampNeg (2 + (3 * (M7 9 0 7 0)))) v4) 9 0 7 0))) + 1)) v6) 9 0 7 0) + 1)))))))))) : TT X kX9_readStep 0 [some (pR (9, 0, 0)), none, none] [] M Q :=
 T_aload_n dX9_readStep_0 rfl <|
 T_iconst dX9_readStep_1 ic_0 <|
 T_bipush dX9_readStep_2 bp_18 <|
 T_callVv (k' := kX9_begins) (vs := [pI 0, pI 18]) (st := []) dX9_readStep_4 wm_X9_138 okX9_begins rfl c_9_0_0 rfl rfl rfl (Nat.le_of_ble_eq_true rfl) rfl (Nat.le_of_ble_eq_true rfl) (TT.mono h (rV_mono (fun M1 h13 =>
 T_aload_n dX9_readStep_7 rfl <|
 T_iconst dX9_readStep_8 ic_0 <|
 T_iconst dX9_readStep_9 ic_4 <|
 T_callVi (k' := kX9_number) (vs := [pI 0, pI 4]) (st := []) dX9_readStep_10 wm_X9_142 okX9_number rfl c_9_0_0 rfl rfl rfl (Nat.le_of_ble_eq_true rfl) rfl (Nat.le_of_ble_eq_true rfl) (TT.mono h13 (rI_mono (fun v4 M3 h12 =>
 T_istore_n dX9_readStep_13 (by decide) rfl rfl <|
 T_aload_n dX9_readStep_14 rfl <|
 T_iconst dX9_readStep_15 ic_0 <|
 T_bipush dX9_readStep_16 bp_20 <|
 T_callVi (k' := kX9_number) (vs := [pI 0, pI 20]) (st := []) dX9_readStep_18 wm_X9_142 okX9_number rfl c_9_0_0 rfl rfl rfl (Nat.le_of_ble_eq_true rfl) rfl (Nat.le_of_ble_eq_true rfl) (TT.mono h12 (rI_mono (fun v6 M5 h11 =>
 T_istore_n dX9_readStep_21 (by decide) rfl rfl <|
 T_aload_n dX9_readStep_22 rfl <|
 T_callVv (k' := kX9_mustEnd) (vs := []) (st := []) dX9_readStep_23 wm_X9_146 okX9_mustEnd rfl c_9_0_0 rfl rfl rfl (Nat.le_of_ble_eq_true rfl) rfl (Nat.le_of_ble_eq_true rfl) (TT.mono h11 (rV_mono (fun M7 h10 =>
 T_aload_n dX9_readStep_26 rfl <|
 T_getI (C := RX9) (T := TX9) (N := 31) (f := 18) dX9_readStep_27 c_9_0_0 rfl (by decide) wf_X9_117 rfl <|
 T_if_ne (tgt := 77) dX9_readStep_30 (by decide) (fun z9 =>
 T_return dX9_readStep_77 rfl (h10.1 z9)) (fun z9 =>
 T_aload_n dX9_readStep_33 rfl <|
 T_getR (C := RX9) (T := TX9) (N := 31) (f := 6) dX9_readStep_34 c_9_0_0 rfl (by decide) wf_X9_22 rfl <|
 T_iconst dX9_readStep_37 ic_2 <|
 T_iconst dX9_readStep_38 ic_3 <|
 T_aload_n dX9_readStep_39 rfl <|
 T_getR (C := RX9) (T := TX9) (N := 31) (f := 6) dX9_readStep_40 c_9_0_0 rfl (by decide) wf_X9_22 rfl <|
 T_iconst dX9_readStep_43 ic_0 <|
 T_ialdN (n := 80) dX9_readStep_44 c_9_0_7 (by decide) (by decide) (by decide) rfl vi_0_80 tn_0 <|
 T_imul dX9_readStep_45 <|
 T_iadd dX9_readStep_46 <|
 T_iload_n dX9_readStep_47 rfl <|
 T_iast (n := 80) dX9_readStep_48 c_9_0_7 (by decide) (by decide) (by decide) rfl (h10.2 z9).1 <|
 T_aload_n dX9_readStep_49 rfl <|
 T_getR (C := RX9) (T := TX9) (N := 31) (f := 6) dX9_readStep_50 c_9_0_0 rfl (by decide) wf_X9_22 rfl <|
 T_iconst dX9_readStep_53 ic_2 <|
 T_iconst dX9_readStep_54 ic_3 <|
 T_aload_n dX9_readStep_55 rfl <|
 T_getR (C := RX9) (T := TX9) (N := 31) (f := 6) dX9_readStep_56 c_9_0_0 rfl (by decide) wf_X9_22 rfl <|
 T_iconst dX9_readStep_59 ic_0 <|
 T_ialdN (n := 80) dX9_readStep_60 c_9_0_7 (by decide) (by decide) (by decide) rfl vi_0_80 tn_0 <|
 T_imul dX9_readStep_61 <|
 T_iadd dX9_readStep_62 <|
 T_iconst dX9_readStep_63 ic_1 <|
 T_iadd dX9_readStep_64 <|
 T_iload_n dX9_readStep_65 rfl <|
 T_iast (n := 80) dX9_readStep_66 c_9_0_7 (by decide) (by decide) (by decide) rfl (h10.2 z9).2.1 <|
 T_aload_n dX9_readStep_67 rfl <|
 T_getR (C := RX9) (T := TX9) (N := 31) (f := 6) dX9_readStep_68 c_9_0_0 rfl (by decide) wf_X9_22 rfl <|
 T_iconst dX9_readStep_71 ic_0 <|
 T_dup2IR dX9_readStep_72 <|
 T_ialdN (n := 80) dX9_readStep_73 c_9_0_7 (by decide) (by decide) (by decide) rfl vi_0_80 tn_0 <|
 T_iconst dX9_readStep_74 ic_1 <|
 T_iadd dX9_readStep_75 <|
 T_iastN (n := 80) dX9_readStep_76 c_9_0_7 (by decide) (by decide) (by decide) rfl vi_0_80 tn_0 <|
 T_return dX9_readStep_77 rfl (h10.2 z9).2.2)))))))))))))
theorem rX9_readWalker_0 {X : Nat × (Nat → Int32)}  {M : Mem} {Q : Option PV → Mem → Prop} (h : TT X kX9_begins 0 [some (pR (9, 0, 0)), some (pI 1), some (pI 6)] [] M (rV fun M1 => TT X kX9_number 0 [some (pR (9, 0, 0)), some (pI 1), some (pI 3), none] [] M1 (rI fun v4 M3 => TT X kX9_number 0 [some (pR (9, 0, 0)), some (pI 0), some (pI 2), none] [] M3 (rI fun v6 M5 => TT X kX9_number 0 [some (pR (9, 0, 0)), some (pI 0), some (pI 200), none] [] M5 (rI fun v8 M7 => TT X kX9_number 0 [some (pR (9, 0, 0)), some (pI 1), some (pI 20), none] [] M7 (rI fun v10 M9 => TT X kX9_mustEnd 0 [some (pR (9, 0, 0))] [] M9 (rV fun M11 => (¬ (M11 9 0 0 18) = 0 → Q none M11) ∧ ((M11 9 0 0 18) = 0 → vp_in (56 + (4 * (M11 9 0 7 1))) 80 ∧ (vp_in ((56 + (4 * (M11 9 0 7 1))) + 1) 80 ∧ (vp_in ((56 + (4 * (M11 9 0 7 1))) + 2) 80 ∧ (vp_in ((56 + (4 * (M11 9 0 7 1))) + 3) 80 ∧ (Q none (mset (mset (mset (mset (mset M11 9 0 7 (Int32.toNatClampNeg (56 + (4 * (M11 9 0 7 1)))) v4) 9 0 7 (Int32.toNatClampNeg ((56 + (4 * (M11 9 0 7 1))) + 1)) v6) 9 0 7 (Int32.toNatClampNeg ((56 + (4 * (M11 9 0 7 1))) + 2)) v8) 9 0 7 (Int32.toNatClampNeg ((56 + (4 * (M11 9 0 7 1))) + 3)) v10) 9 0 7 1 (((mset (mset (mset (mset M11 9 0 7 (Int32.toNatClampNeg (56 + (4 * (M11 9 0 7 1)))) v4) 9 0 7 (Int32.toNatClampNeg ((56 + (4 * (M11 9 0 7 1))) + 1)) v6) 9 0 7 (Int32.toNatClampNeg ((56 + (4 * (M11 9 0 7 1))) + 2)) v8) 9 0 7 (Int32.toNatClampNeg ((56 + (4 * (M11 9 0 7 1))) + 3)) v10) 9 0 7 1) + 1)))))))))))))) : TT X kX9_readWalker 0 [some (pR (9, 0, 0)), none, none, none, none, none] [] M Q :=
 T_aload_n dX9_readWalker_0 rfl <|
 T_iconst dX9_readWalker_1 ic_1 <|
 T_bipush dX9_readWalker_2 bp_6 <|
 T_callVv (k' := kX9_begins) (vs := [pI 1, pI 6]) (st := []) dX9_readWalker_4 wm_X9_138 okX9_begins rfl c_9_0_0 rfl rfl rfl (Nat.le_of_ble_eq_true rfl) rfl (Nat.le_of_ble_eq_true rfl) (TT.mono h (rV_mono (fun M1 h19 =>
 T_aload_n dX9_readWalker_7 rfl <|
 T_iconst dX9_readWalker_8 ic_1 <|
 T_iconst dX9_readWalker_9 ic_3 <|
 T_callVi (k' := kX9_number) (vs := [pI 1, pI 3]) (st := []) dX9_readWalker_10 wm_X9_142 okX9_number rfl c_9_0_0 rfl rfl rfl (Nat.le_of_ble_eq_true rfl) rfl (Nat.le_of_ble_eq_true rfl) (TT.mono h19 (rI_mono (fun v4 M3 h18 =>
 T_istore_n dX9_readWalker_13 (by decide) rfl rfl <|
 T_aload_n dX9_readWalker_14 rfl <|
 T_iconst dX9_readWalker_15 ic_0 <|
 T_iconst dX9_readWalker_16 ic_2 <|
 T_callVi (k' := kX9_number) (vs := [pI 0, pI 2]) (st := []) dX9_readWalker_17 wm_X9_142 okX9_number rfl c_9_0_0 rfl rfl rfl (Nat.le_of_ble_eq_true rfl) rfl (Nat.le_of_ble_eq_true rfl) (TT.mono h18 (rI_mono (fun v6 M5 h17 =>
 T_istore_n dX9_readWalker_20 (by decide) rfl rfl <|
 T_aload_n dX9_readWalker_21 rfl <|
 T_iconst dX9_readWalker_22 ic_0 <|
 T_sipush dX9_readWalker_23 sp_200 <|
 T_callVi (k' := kX9_number) (vs := [pI 0, pI 200]) (st := []) dX9_readWalker_26 wm_X9_142 okX9_number rfl c_9_0_0 rfl rfl rfl (Nat.le_of_ble_eq_true rfl) rfl (Nat.le_of_ble_eq_true rfl) (TT.mono h17 (rI_mono (fun v8 M7 h16 =>
 T_istore_n dX9_readWalker_29 (by decide) rfl rfl <|
 T_aload_n dX9_readWalker_30 rfl <|
 T_iconst dX9_readWalker_31 ic_1 <|
 T_bipush dX9_readWalker_32 bp_20 <|
 T_callVi (k' := kX9_number) (vs := [pI 1, pI 20]) (st := []) dX9_readWalker_34 wm_X9_142 okX9_number rfl c_9_0_0 rfl rfl rfl (Nat.le_of_ble_eq_true rfl) rfl (Nat.le_of_ble_eq_true rfl) (TT.mono h16 (rI_mono (fun v10 M9 h15 =>
 T_istore dX9_readWalker_37 (by decide) rfl rfl <|
 T_aload_n dX9_readWalker_39 rfl <|
 T_callVv (k' := kX9_mustEnd) (vs := []) (st := []) dX9_readWalker_40 wm_X9_146 okX9_mustEnd rfl c_9_0_0 rfl rfl rfl (Nat.le_of_ble_eq_true rfl) rfl (Nat.le_of_ble_eq_true rfl) (TT.mono h15 (rV_mono (fun M11 h14 =>
 T_aload_n dX9_readWalker_43 rfl <|
 T_getI (C := RX9) (T := TX9) (N := 31) (f := 18) dX9_readWalker_44 c_9_0_0 rfl (by decide) wf_X9_117 rfl <|
 T_if_ne (tgt := 112) dX9_readWalker_47 (by decide) (fun z13 =>
 T_return dX9_readWalker_112 rfl (h14.1 z13)) (fun z13 =>
 T_bipush dX9_readWalker_50 bp_56 <|
 T_iconst dX9_readWalker_52 ic_4 <|
 T_aload_n dX9_readWalker_53 rfl <|
 T_getR (C := RX9) (T := TX9) (N := 31) (f := 6) dX9_readWalker_54 c_9_0_0 rfl (by decide) wf_X9_22 rfl <|
 T_iconst dX9_readWalker_57 ic_1 <|
 T_ialdN (n := 80) dX9_readWalker_58 c_9_0_7 (by decide) (by decide) (by decide) rfl vi_1_80 tn_1 <|
 T_imul dX9_readWalker_59 <|
 T_iadd dX9_readWalker_60 <|
 T_istore dX9_readWalker_61 (by decide) rfl rfl <|
 T_aload_n dX9_readWalker_63 rfl <|
 T_getR (C := RX9) (T := TX9) (N := 31) (f := 6) dX9_readWalker_64 c_9_0_0 rfl (by decide) wf_X9_22 rfl <|
 T_iload dX9_readWalker_67 rfl <|
 T_iload_n dX9_readWalker_69 rfl <|
 T_iast (n := 80) dX9_readWalker_70 c_9_0_7 (by decide) (by decide) (by decide) rfl (h14.2 z13).1 <|
 T_aload_n dX9_readWalker_71 rfl <|
 T_getR (C := RX9) (T := TX9) (N := 31) (f := 6) dX9_readWalker_72 c_9_0_0 rfl (by decide) wf_X9_22 rfl <|
 T_iload dX9_readWalker_75 rfl <|
 T_iconst dX9_readWalker_77 ic_1 <|
 T_iadd dX9_readWalker_78 <|
 T_iload_n dX9_readWalker_79 rfl <|
 T_iast (n := 80) dX9_readWalker_80 c_9_0_7 (by decide) (by decide) (by decide) rfl (h14.2 z13).2.1 <|
 T_aload_n dX9_readWalker_81 rfl <|
 T_getR (C := RX9) (T := TX9) (N := 31) (f := 6) dX9_readWalker_82 c_9_0_0 rfl (by decide) wf_X9_22 rfl <|
 T_iload dX9_readWalker_85 rfl <|
 T_iconst dX9_readWalker_87 ic_2 <|
 T_iadd dX9_readWalker_88 <|
 T_iload_n dX9_readWalker_89 rfl <|
 T_iast (n := 80) dX9_readWalker_90 c_9_0_7 (by decide) (by decide) (by decide) rfl (h14.2 z13).2.2.1 <|
 T_aload_n dX9_readWalker_91 rfl <|
 T_getR (C := RX9) (T := TX9) (N := 31) (f := 6) dX9_readWalker_92 c_9_0_0 rfl (by decide) wf_X9_22 rfl <|
 T_iload dX9_readWalker_95 rfl <|
 T_iconst dX9_readWalker_97 ic_3 <|
 T_iadd dX9_readWalker_98 <|
 T_iload dX9_readWalker_99 rfl <|
 T_iast (n := 80) dX9_readWalker_101 c_9_0_7 (by decide) (by decide) (by decide) rfl (h14.2 z13).2.2.2.1 <|
 T_aload_n dX9_readWalker_102 rfl <|
 T_getR (C := RX9) (T := TX9) (N := 31) (f := 6) dX9_readWalker_103 c_9_0_0 rfl (by decide) wf_X9_22 rfl <|
 T_iconst dX9_readWalker_106 ic_1 <|
 T_dup2IR dX9_readWalker_107 <|
 T_ialdN (n := 80) dX9_readWalker_108 c_9_0_7 (by decide) (by decide) (by decide) rfl vi_1_80 tn_1 <|
 T_iconst dX9_readWalker_109 ic_1 <|
 T_iadd dX9_readWalker_110 <|
 T_iastN (n := 80) dX9_readWalker_111 c_9_0_7 (by decide) (by decide) (by decide) rfl vi_1_80 tn_1 <|
 T_return dX9_readWalker_112 rfl (h14.2 z13).2.2.2.2)))))))))))))))))))
theorem rX9_stair_0 {X : Nat × (Nat → Int32)}  {M : Mem} {Q : Option PV → Mem → Prop} (h : TT X kX9_begin 0 [some (pR (9, 0, 0))] [] (mset M 9 0 0 0 0) (rV fun M1 => TT X kX9_stair 11 [some (pR (9, 0, 0)), some (pI 0)] [] M1 Q)) : TT X kX9_stair 0 [some (pR (9, 0, 0)), none] [] M Q :=
 T_aload_n dX9_stair_0 rfl <|
 T_iconst dX9_stair_1 ic_0 <|
 T_putI (C := RX9) (T := TX9) (N := 31) (f := 0) dX9_stair_2 c_9_0_0 rfl (by decide) wf_X9_59 rfl rfl rfl <|
 T_aload_n dX9_stair_5 rfl <|
 T_callVv (k' := kX9_begin) (vs := []) (st := []) dX9_stair_6 wm_X9_149 okX9_begin rfl c_9_0_0 rfl rfl rfl (Nat.le_of_ble_eq_true rfl) rfl (Nat.le_of_ble_eq_true rfl) (TT.mono h (rV_mono (fun M1 h3 =>
 T_iconst dX9_stair_9 ic_0 <|
 T_istore_n dX9_stair_10 (by decide) rfl rfl <|
 h3)))
theorem rX9_stair_11 {X : Nat × (Nat → Int32)} {b1 : Int32} {M : Mem} {Q : Option PV → Mem → Prop} (h : (80 ≤ b1 → TT X kX9_name 0 [some (pR (9, 0, 0)), none, none, none] [] M (rL fun v5 M4 => ((lg_cmp v5 1937007984) = 0 → TT X kX9_stair 46 [some (pR (9, 0, 0)), some (pI b1)] [] M4 Q) ∧ (¬ (lg_cmp v5 1937007984) = 0 → TT X kX9_bad 0 [some (pR (9, 0, 0)), some (pI 1)] [] M4 (rV fun M6 => TT X kX9_stair 46 [some (pR (9, 0, 0)), some (pI b1)] [] M6 Q)))) ∧ (¬ 80 ≤ b1 → vp_in b1 80 ∧ (TT X kX9_stair 11 [some (pR (9, 0, 0)), some (pI (b1 + 1))] [] (mset M 9 0 7 (Int32.toNatClampNeg b1) 0) Q))) : TT X kX9_stair 11 [some (pR (9, 0, 0)), some (pI b1)] [] M Q :=
 T_iload_n dX9_stair_11 rfl <|
 T_bipush dX9_stair_12 bp_80 <|
 T_icmp_ge (tgt := 30) dX9_stair_14 (by decide) (fun z11 =>
 T_aload_n dX9_stair_30 rfl <|
 T_callVl (k' := kX9_name) (vs := []) (st := []) dX9_stair_31 wm_X9_152 okX9_name rfl c_9_0_0 rfl rfl rfl (Nat.le_of_ble_eq_true rfl) rfl (Nat.le_of_ble_eq_true rfl) (TT.mono (h.1 z11) (rL_mono (fun v5 M4 h10 =>
 T_ldc2 dX9_stair_34 wl_X9_156 <|
 T_lcmp dX9_stair_37 <|
 T_if_eq (tgt := 46) dX9_stair_38 (by decide) (fun z9 =>
 (h10.1 z9)) (fun z9 =>
 T_aload_n dX9_stair_41 rfl <|
 T_iconst dX9_stair_42 ic_1 <|
 T_callVv (k' := kX9_bad) (vs := [pI 1]) (st := []) dX9_stair_43 wm_X9_126 okX9_bad rfl c_9_0_0 rfl rfl rfl (Nat.le_of_ble_eq_true rfl) rfl (Nat.le_of_ble_eq_true rfl) (TT.mono (h10.2 z9) (rV_mono (fun M6 h8 =>
 h8)))))))) (fun z11 =>
 T_aload_n dX9_stair_17 rfl <|
 T_getR (C := RX9) (T := TX9) (N := 31) (f := 6) dX9_stair_18 c_9_0_0 rfl (by decide) wf_X9_22 rfl <|
 T_iload_n dX9_stair_21 rfl <|
 T_iconst dX9_stair_22 ic_0 <|
 T_iast (n := 80) dX9_stair_23 c_9_0_7 (by decide) (by decide) (by decide) rfl (h.2 z11).1 <|
 T_iinc dX9_stair_24 rfl (ii_1 _) (by decide) rfl rfl <|
 T_goto (tgt := 11) dX9_stair_27 (by decide) <|
 (h.2 z11).2)
theorem rX9_stair_46 {X : Nat × (Nat → Int32)} {b1 : Int32} {M : Mem} {Q : Option PV → Mem → Prop} (h : TT X kX9_name 0 [some (pR (9, 0, 0)), none, none, none] [] M (rL fun v13 M12 => (¬ (lg_cmp v13 1937007984) = 0 → TT X kX9_stair 64 [some (pR (9, 0, 0)), some (pI b1)] [] M12 Q) ∧ ((lg_cmp v13 1937007984) = 0 → TT X kX9_readStep 0 [some (pR (9, 0, 0)), none, none] [] M12 (rV fun M14 => TT X kX9_stair 46 [some (pR (9, 0, 0)), some (pI b1)] [] M14 Q)))) : TT X kX9_stair 46 [some (pR (9, 0, 0)), some (pI b1)] [] M Q :=
 T_aload_n dX9_stair_46 rfl <|
 T_callVl (k' := kX9_name) (vs := []) (st := []) dX9_stair_47 wm_X9_152 okX9_name rfl c_9_0_0 rfl rfl rfl (Nat.le_of_ble_eq_true rfl) rfl (Nat.le_of_ble_eq_true rfl) (TT.mono h (rL_mono (fun v13 M12 h18 =>
 T_ldc2 dX9_stair_50 wl_X9_156 <|
 T_lcmp dX9_stair_53 <|
 T_if_ne (tgt := 64) dX9_stair_54 (by decide) (fun z17 =>
 (h18.1 z17)) (fun z17 =>
 T_aload_n dX9_stair_57 rfl <|
 T_callVv (k' := kX9_readStep) (vs := []) (st := []) dX9_stair_58 wm_X9_158 okX9_readStep rfl c_9_0_0 rfl rfl rfl (Nat.le_of_ble_eq_true rfl) rfl (Nat.le_of_ble_eq_true rfl) (TT.mono (h18.2 z17) (rV_mono (fun M14 h16 =>
 T_goto (tgt := 46) dX9_stair_61 (by decide) <|
 h16)))))))
theorem rX9_stair_64 {X : Nat × (Nat → Int32)} {b1 : Int32} {M : Mem} {Q : Option PV → Mem → Prop} (h : TT X kX9_name 0 [some (pR (9, 0, 0)), none, none, none] [] M (rL fun v20 M19 => (¬ (lg_cmp v20 131260314510706) = 0 → (¬ (M19 9 0 0 18) = 0 → ((M19 9 0 0 18) ≤ 0 → TT X kX9_stair 137 [some (pR (9, 0, 0)), some (pI 0)] [] (mset (mset M19 9 0 0 7 1) 9 0 0 9 0) Q) ∧ (¬ (M19 9 0 0 18) ≤ 0 → Q (some (pI ((-1000100) - ((mset M19 9 0 0 12 (M19 9 0 0 18)) 9 0 0 19)))) (mset M19 9 0 0 12 (M19 9 0 0 18)))) ∧ ((M19 9 0 0 18) = 0 → ((M19 9 0 0 15) = 1 → ((M19 9 0 0 18) ≤ 0 → TT X kX9_stair 137 [some (pR (9, 0, 0)), some (pI 0)] [] (mset (mset M19 9 0 0 7 1) 9 0 0 9 0) Q) ∧ (¬ (M19 9 0 0 18) ≤ 0 → Q (some (pI ((-1000100) - ((mset M19 9 0 0 12 (M19 9 0 0 18)) 9 0 0 19)))) (mset M19 9 0 0 12 (M19 9 0 0 18)))) ∧ (¬ (M19 9 0 0 15) = 1 → TT X kX9_bad 0 [some (pR (9, 0, 0)), some (pI 1)] [] M19 (rV fun M23 => ((M23 9 0 0 18) ≤ 0 → TT X kX9_stair 137 [some (pR (9, 0, 0)), some (pI 0)] [] (mset (mset M23 9 0 0 7 1) 9 0 0 9 0) Q) ∧ (¬ (M23 9 0 0 18) ≤ 0 → Q (some (pI ((-1000100) - ((mset M23 9 0 0 12 (M23 9 0 0 18)) 9 0 0 19)))) (mset M23 9 0 0 12 (M23 9 0 0 18))))))) ∧ ((lg_cmp v20 131260314510706) = 0 → TT X kX9_readWalker 0 [some (pR (9, 0, 0)), none, none, none, none, none] [] M19 (rV fun M29 => TT X kX9_stair 64 [some (pR (9, 0, 0)), some (pI b1)] [] M29 Q)))) : TT X kX9_stair 64 [some (pR (9, 0, 0)), some (pI b1)] [] M Q :=
 T_aload_n dX9_stair_64 rfl <|
 T_callVl (k' := kX9_name) (vs := []) (st := []) dX9_stair_65 wm_X9_152 okX9_name rfl c_9_0_0 rfl rfl rfl (Nat.le_of_ble_eq_true rfl) rfl (Nat.le_of_ble_eq_true rfl) (TT.mono h (rL_mono (fun v20 M19 h33 =>
 T_ldc2 dX9_stair_68 wl_X9_161 <|
 T_lcmp dX9_stair_71 <|
 T_if_ne (tgt := 82) dX9_stair_72 (by decide) (fun z32 =>
 T_aload_n dX9_stair_82 rfl <|
 T_getI (C := RX9) (T := TX9) (N := 31) (f := 18) dX9_stair_83 c_9_0_0 rfl (by decide) wf_X9_117 rfl <|
 T_if_ne (tgt := 102) dX9_stair_86 (by decide) (fun z28 =>
 T_aload_n dX9_stair_102 rfl <|
 T_getI (C := RX9) (T := TX9) (N := 31) (f := 18) dX9_stair_103 c_9_0_0 rfl (by decide) wf_X9_117 rfl <|
 T_if_le (tgt := 125) dX9_stair_106 (by decide) (fun z21 =>
 T_aload_n dX9_stair_125 rfl <|
 T_iconst dX9_stair_126 ic_1 <|
 T_putZ (C := RX9) (T := TX9) (N := 31) (f := 7) dX9_stair_127 c_9_0_0 rfl (by decide) wf_X9_170 rfl rfl rfl (by decide) <|
 T_aload_n dX9_stair_130 rfl <|
 T_iconst dX9_stair_131 ic_0 <|
 T_putI (C := RX9) (T := TX9) (N := 31) (f := 9) dX9_stair_132 c_9_0_0 rfl (by decide) wf_X9_174 rfl rfl rfl <|
 T_iconst dX9_stair_135 ic_0 <|
 T_istore_n dX9_stair_136 (by decide) rfl rfl <|
 (((h33.1 z32).1 z28).1 z21)) (fun z21 =>
 T_aload_n dX9_stair_109 rfl <|
 T_aload_n dX9_stair_110 rfl <|
 T_getI (C := RX9) (T := TX9) (N := 31) (f := 18) dX9_stair_111 c_9_0_0 rfl (by decide) wf_X9_117 rfl <|
 T_putI (C := RX9) (T := TX9) (N := 31) (f := 12) dX9_stair_114 c_9_0_0 rfl (by decide) wf_X9_166 rfl rfl rfl <|
 T_ldc dX9_stair_117 wc_X9_169 <|
 T_aload_n dX9_stair_119 rfl <|
 T_getI (C := RX9) (T := TX9) (N := 31) (f := 19) dX9_stair_120 c_9_0_0 rfl (by decide) wf_X9_123 rfl <|
 T_isub dX9_stair_123 <|
 T_ireturn (ty := .int) dX9_stair_124 rfl rfl (((h33.1 z32).1 z28).2 z21))) (fun z28 =>
 T_aload_n dX9_stair_89 rfl <|
 T_getI (C := RX9) (T := TX9) (N := 31) (f := 15) dX9_stair_90 c_9_0_0 rfl (by decide) wf_X9_105 rfl <|
 T_iconst dX9_stair_93 ic_1 <|
 T_icmp_eq (tgt := 102) dX9_stair_94 (by decide) (fun z27 =>
 T_aload_n dX9_stair_102 rfl <|
 T_getI (C := RX9) (T := TX9) (N := 31) (f := 18) dX9_stair_103 c_9_0_0 rfl (by decide) wf_X9_117 rfl <|
 T_if_le (tgt := 125) dX9_stair_106 (by decide) (fun z22 =>
 T_aload_n dX9_stair_125 rfl <|
 T_iconst dX9_stair_126 ic_1 <|
 T_putZ (C := RX9) (T := TX9) (N := 31) (f := 7) dX9_stair_127 c_9_0_0 rfl (by decide) wf_X9_170 rfl rfl rfl (by decide) <|
 T_aload_n dX9_stair_130 rfl <|
 T_iconst dX9_stair_131 ic_0 <|
 T_putI (C := RX9) (T := TX9) (N := 31) (f := 9) dX9_stair_132 c_9_0_0 rfl (by decide) wf_X9_174 rfl rfl rfl <|
 T_iconst dX9_stair_135 ic_0 <|
 T_istore_n dX9_stair_136 (by decide) rfl rfl <|
 ((((h33.1 z32).2 z28).1 z27).1 z22)) (fun z22 =>
 T_aload_n dX9_stair_109 rfl <|
 T_aload_n dX9_stair_110 rfl <|
 T_getI (C := RX9) (T := TX9) (N := 31) (f := 18) dX9_stair_111 c_9_0_0 rfl (by decide) wf_X9_117 rfl <|
 T_putI (C := RX9) (T := TX9) (N := 31) (f := 12) dX9_stair_114 c_9_0_0 rfl (by decide) wf_X9_166 rfl rfl rfl <|
 T_ldc dX9_stair_117 wc_X9_169 <|
 T_aload_n dX9_stair_119 rfl <|
 T_getI (C := RX9) (T := TX9) (N := 31) (f := 19) dX9_stair_120 c_9_0_0 rfl (by decide) wf_X9_123 rfl <|
 T_isub dX9_stair_123 <|
 T_ireturn (ty := .int) dX9_stair_124 rfl rfl ((((h33.1 z32).2 z28).1 z27).2 z22))) (fun z27 =>
 T_aload_n dX9_stair_97 rfl <|
 T_iconst dX9_stair_98 ic_1 <|
 T_callVv (k' := kX9_bad) (vs := [pI 1]) (st := []) dX9_stair_99 wm_X9_126 okX9_bad rfl c_9_0_0 rfl rfl rfl (Nat.le_of_ble_eq_true rfl) rfl (Nat.le_of_ble_eq_true rfl) (TT.mono (((h33.1 z32).2 z28).2 z27) (rV_mono (fun M23 h26 =>
 T_aload_n dX9_stair_102 rfl <|
 T_getI (C := RX9) (T := TX9) (N := 31) (f := 18) dX9_stair_103 c_9_0_0 rfl (by decide) wf_X9_117 rfl <|
 T_if_le (tgt := 125) dX9_stair_106 (by decide) (fun z25 =>
 T_aload_n dX9_stair_125 rfl <|
 T_iconst dX9_stair_126 ic_1 <|
 T_putZ (C := RX9) (T := TX9) (N := 31) (f := 7) dX9_stair_127 c_9_0_0 rfl (by decide) wf_X9_170 rfl rfl rfl (by decide) <|
 T_aload_n dX9_stair_130 rfl <|
 T_iconst dX9_stair_131 ic_0 <|
 T_putI (C := RX9) (T := TX9) (N := 31) (f := 9) dX9_stair_132 c_9_0_0 rfl (by decide) wf_X9_174 rfl rfl rfl <|
 T_iconst dX9_stair_135 ic_0 <|
 T_istore_n dX9_stair_136 (by decide) rfl rfl <|
 (h26.1 z25)) (fun z25 =>
 T_aload_n dX9_stair_109 rfl <|
 T_aload_n dX9_stair_110 rfl <|
 T_getI (C := RX9) (T := TX9) (N := 31) (f := 18) dX9_stair_111 c_9_0_0 rfl (by decide) wf_X9_117 rfl <|
 T_putI (C := RX9) (T := TX9) (N := 31) (f := 12) dX9_stair_114 c_9_0_0 rfl (by decide) wf_X9_166 rfl rfl rfl <|
 T_ldc dX9_stair_117 wc_X9_169 <|
 T_aload_n dX9_stair_119 rfl <|
 T_getI (C := RX9) (T := TX9) (N := 31) (f := 19) dX9_stair_120 c_9_0_0 rfl (by decide) wf_X9_123 rfl <|
 T_isub dX9_stair_123 <|
 T_ireturn (ty := .int) dX9_stair_124 rfl rfl (h26.2 z25)))))))) (fun z32 =>
 T_aload_n dX9_stair_75 rfl <|
 T_callVv (k' := kX9_readWalker) (vs := []) (st := []) dX9_stair_76 wm_X9_163 okX9_readWalker rfl c_9_0_0 rfl rfl rfl (Nat.le_of_ble_eq_true rfl) rfl (Nat.le_of_ble_eq_true rfl) (TT.mono (h33.2 z32) (rV_mono (fun M29 h31 =>
 T_goto (tgt := 64) dX9_stair_79 (by decide) <|
 h31)))))))
theorem rX9_stair_137 {X : Nat × (Nat → Int32)} {b1 : Int32} {M : Mem} {Q : Option PV → Mem → Prop} (h : (80 ≤ b1 → Q (some (pI (M 9 0 6 0))) M) ∧ (¬ 80 ≤ b1 → vp_in b1 80 ∧ (vp_in b1 80 ∧ (TT X kX9_stair 137 [some (pR (9, 0, 0)), some (pI (b1 + 1))] [] (mset M 9 0 6 (Int32.toNatClampNeg b1) (M 9 0 7 (Int32.toNatClampNeg b1))) Q)))) : TT X kX9_stair 137 [some (pR (9, 0, 0)), some (pI b1)] [] M Q :=
 T_iload_n dX9_stair_137 rfl <|
 T_bipush dX9_stair_138 bp_80 <|
 T_icmp_ge (tgt := 161) dX9_stair_140 (by decide) (fun z34 =>
 T_aload_n dX9_stair_161 rfl <|
 T_getR (C := RX9) (T := TX9) (N := 31) (f := 5) dX9_stair_162 c_9_0_0 rfl (by decide) wf_X9_19 rfl <|
 T_iconst dX9_stair_165 ic_0 <|
 T_ialdN (n := 80) dX9_stair_166 c_9_0_6 (by decide) (by decide) (by decide) rfl vi_0_80 tn_0 <|
 T_ireturn (ty := .int) dX9_stair_167 rfl rfl (h.1 z34)) (fun z34 =>
 T_aload_n dX9_stair_143 rfl <|
 T_getR (C := RX9) (T := TX9) (N := 31) (f := 5) dX9_stair_144 c_9_0_0 rfl (by decide) wf_X9_19 rfl <|
 T_iload_n dX9_stair_147 rfl <|
 T_aload_n dX9_stair_148 rfl <|
 T_getR (C := RX9) (T := TX9) (N := 31) (f := 6) dX9_stair_149 c_9_0_0 rfl (by decide) wf_X9_22 rfl <|
 T_iload_n dX9_stair_152 rfl <|
 T_iald (n := 80) dX9_stair_153 c_9_0_7 (by decide) (by decide) (by decide) rfl (h.2 z34).1 <|
 T_iast (n := 80) dX9_stair_154 c_9_0_6 (by decide) (by decide) (by decide) rfl (h.2 z34).2.1 <|
 T_iinc dX9_stair_155 rfl (ii_1 _) (by decide) rfl rfl <|
 T_goto (tgt := 137) dX9_stair_158 (by decide) <|
 (h.2 z34).2.2)
theorem rX9_fault_0 {X : Nat × (Nat → Int32)}  {M : Mem} {Q : Option PV → Mem → Prop} (h : Q (some (pI ((mset M 9 0 0 0 0) 9 0 0 12))) (mset M 9 0 0 0 0)) : TT X kX9_fault 0 [some (pR (9, 0, 0))] [] M Q :=
 T_aload_n dX9_fault_0 rfl <|
 T_iconst dX9_fault_1 ic_0 <|
 T_putI (C := RX9) (T := TX9) (N := 31) (f := 0) dX9_fault_2 c_9_0_0 rfl (by decide) wf_X9_59 rfl rfl rfl <|
 T_aload_n dX9_fault_5 rfl <|
 T_getI (C := RX9) (T := TX9) (N := 31) (f := 12) dX9_fault_6 c_9_0_0 rfl (by decide) wf_X9_166 rfl <|
 T_ireturn (ty := .int) dX9_fault_9 rfl rfl h
theorem rX9_isStep_0 {X : Nat × (Nat → Int32)} {a1 : Int32} {M : Mem} {Q : Option PV → Mem → Prop} (h : TT X kX9_in 0 [some (pL (Int32.toInt64 a1)), none, some (pL 0), none, some (pL (Int32.toInt64 ((M 9 0 6 0) - 1))), none] [] M (rI fun v2 M1 => (v2 = 0 ∨ v2 = 1) ∧ Q (some (pI v2)) M1)) : TT X kX9_isStep 0 [some (pR (9, 0, 0)), some (pI a1)] [] M Q :=
 T_iload_n dX9_isStep_0 rfl <|
 T_i2l dX9_isStep_1 <|
 T_lconst dX9_isStep_2 lc_0 <|
 T_aload_n dX9_isStep_3 rfl <|
 T_getR (C := RX9) (T := TX9) (N := 31) (f := 5) dX9_isStep_4 c_9_0_0 rfl (by decide) wf_X9_19 rfl <|
 T_iconst dX9_isStep_7 ic_0 <|
 T_ialdN (n := 80) dX9_isStep_8 c_9_0_6 (by decide) (by decide) (by decide) rfl vi_0_80 tn_0 <|
 T_iconst dX9_isStep_9 ic_1 <|
 T_isub dX9_isStep_10 <|
 T_i2l dX9_isStep_11 <|
 T_callSi (k' := kX9_in) (vs := [pL (Int32.toInt64 a1), pL 0, pL (Int32.toInt64 ((M 9 0 6 0) - 1))]) (st := []) dX9_isStep_12 wm_X9_69 okX9_in rfl rfl rfl (Nat.le_of_ble_eq_true rfl) rfl (Nat.le_of_ble_eq_true rfl) (TT.mono h (rI_mono (fun v2 M1 h3 =>
 T_ireturn (ty := .boolean) dX9_isStep_15 rfl (nz_b h3.1) h3.2)))
theorem rX9_isWalker_0 {X : Nat × (Nat → Int32)} {a1 : Int32} {M : Mem} {Q : Option PV → Mem → Prop} (h : TT X kX9_in 0 [some (pL (Int32.toInt64 a1)), none, some (pL 0), none, some (pL (Int32.toInt64 ((M 9 0 6 1) - 1))), none] [] M (rI fun v2 M1 => (v2 = 0 ∨ v2 = 1) ∧ Q (some (pI v2)) M1)) : TT X kX9_isWalker 0 [some (pR (9, 0, 0)), some (pI a1)] [] M Q :=
 T_iload_n dX9_isWalker_0 rfl <|
 T_i2l dX9_isWalker_1 <|
 T_lconst dX9_isWalker_2 lc_0 <|
 T_aload_n dX9_isWalker_3 rfl <|
 T_getR (C := RX9) (T := TX9) (N := 31) (f := 5) dX9_isWalker_4 c_9_0_0 rfl (by decide) wf_X9_19 rfl <|
 T_iconst dX9_isWalker_7 ic_1 <|
 T_ialdN (n := 80) dX9_isWalker_8 c_9_0_6 (by decide) (by decide) (by decide) rfl vi_1_80 tn_1 <|
 T_iconst dX9_isWalker_9 ic_1 <|
 T_isub dX9_isWalker_10 <|
 T_i2l dX9_isWalker_11 <|
 T_callSi (k' := kX9_in) (vs := [pL (Int32.toInt64 a1), pL 0, pL (Int32.toInt64 ((M 9 0 6 1) - 1))]) (st := []) dX9_isWalker_12 wm_X9_69 okX9_in rfl rfl rfl (Nat.le_of_ble_eq_true rfl) rfl (Nat.le_of_ble_eq_true rfl) (TT.mono h (rI_mono (fun v2 M1 h3 =>
 T_ireturn (ty := .boolean) dX9_isWalker_15 rfl (nz_b h3.1) h3.2)))
theorem rX9_isOwner_0 {X : Nat × (Nat → Int32)} {a1 : Int32} {M : Mem} {Q : Option PV → Mem → Prop} (h : TT X kX9_in 0 [some (pL (Int32.toInt64 a1)), none, some (pL 0), none, some (pL 4), none] [] M (rI fun v2 M1 => (v2 = 0 ∨ v2 = 1) ∧ Q (some (pI v2)) M1)) : TT X kX9_isOwner 0 [some (pI a1)] [] M Q :=
 T_iload_n dX9_isOwner_0 rfl <|
 T_i2l dX9_isOwner_1 <|
 T_lconst dX9_isOwner_2 lc_0 <|
 T_ldc2 dX9_isOwner_3 wl_X9_177 <|
 T_callSi (k' := kX9_in) (vs := [pL (Int32.toInt64 a1), pL 0, pL 4]) (st := []) dX9_isOwner_6 wm_X9_69 okX9_in rfl rfl rfl (Nat.le_of_ble_eq_true rfl) rfl (Nat.le_of_ble_eq_true rfl) (TT.mono h (rI_mono (fun v2 M1 h3 =>
 T_ireturn (ty := .boolean) dX9_isOwner_9 rfl (nz_b h3.1) h3.2)))
theorem rX9_walker_0 {X : Nat × (Nat → Int32)} {a1 : Int32} {a2 : Int32} {M : Mem} {Q : Option PV → Mem → Prop} (h : vp_in ((56 + (4 * a1)) + a2) 80 ∧ (Q (some (pI (M 9 0 6 (Int32.toNatClampNeg ((56 + (4 * a1)) + a2))))) M)) : TT X kX9_walker 0 [some (pR (9, 0, 0)), some (pI a1), some (pI a2)] [] M Q :=
 T_aload_n dX9_walker_0 rfl <|
 T_getR (C := RX9) (T := TX9) (N := 31) (f := 5) dX9_walker_1 c_9_0_0 rfl (by decide) wf_X9_19 rfl <|
 T_bipush dX9_walker_4 bp_56 <|
 T_iconst dX9_walker_6 ic_4 <|
 T_iload_n dX9_walker_7 rfl <|
 T_imul dX9_walker_8 <|
 T_iadd dX9_walker_9 <|
 T_iload_n dX9_walker_10 rfl <|
 T_iadd dX9_walker_11 <|
 T_iald (n := 80) dX9_walker_12 c_9_0_6 (by decide) (by decide) (by decide) rfl h.1 <|
 T_ireturn (ty := .int) dX9_walker_13 rfl rfl h.2
theorem rX9_isBroken_0 {X : Nat × (Nat → Int32)} {a1 : Int32} {M : Mem} {Q : Option PV → Mem → Prop} (h : vp_in ((2 + (3 * a1)) + 2) 80 ∧ ((¬ (M 9 0 6 (Int32.toNatClampNeg ((2 + (3 * a1)) + 2))) = 1 → Q (some (pI 0)) M) ∧ ((M 9 0 6 (Int32.toNatClampNeg ((2 + (3 * a1)) + 2))) = 1 → Q (some (pI 1)) M))) : TT X kX9_isBroken 0 [some (pR (9, 0, 0)), some (pI a1)] [] M Q :=
 T_aload_n dX9_isBroken_0 rfl <|
 T_getR (C := RX9) (T := TX9) (N := 31) (f := 5) dX9_isBroken_1 c_9_0_0 rfl (by decide) wf_X9_19 rfl <|
 T_iconst dX9_isBroken_4 ic_2 <|
 T_iconst dX9_isBroken_5 ic_3 <|
 T_iload_n dX9_isBroken_6 rfl <|
 T_imul dX9_isBroken_7 <|
 T_iadd dX9_isBroken_8 <|
 T_iconst dX9_isBroken_9 ic_2 <|
 T_iadd dX9_isBroken_10 <|
 T_iald (n := 80) dX9_isBroken_11 c_9_0_6 (by decide) (by decide) (by decide) rfl h.1 <|
 T_iconst dX9_isBroken_12 ic_1 <|
 T_icmp_ne (tgt := 20) dX9_isBroken_13 (by decide) (fun z1 =>
 T_iconst dX9_isBroken_20 ic_0 <|
 T_ireturn (ty := .boolean) dX9_isBroken_21 rfl rfl (h.2.1 z1)) (fun z1 =>
 T_iconst dX9_isBroken_16 ic_1 <|
 T_goto (tgt := 21) dX9_isBroken_17 (by decide) <|
 T_ireturn (ty := .boolean) dX9_isBroken_21 rfl rfl (h.2.2 z1))
theorem rX9_keep_0 {X : Nat × (Nat → Int32)}  {M : Mem} {Q : Option PV → Mem → Prop} (h : (¬ (M 9 0 0 9) = 24 → TT X kX9_keep 51 [some (pR (9, 0, 0)), some (pI 0)] [] M Q) ∧ ((M 9 0 0 9) = 24 → TT X kX9_keep 11 [some (pR (9, 0, 0)), some (pI 0)] [] M Q)) : TT X kX9_keep 0 [some (pR (9, 0, 0)), none] [] M Q :=
 T_aload_n dX9_keep_0 rfl <|
 T_getI (C := RX9) (T := TX9) (N := 31) (f := 9) dX9_keep_1 c_9_0_0 rfl (by decide) wf_X9_174 rfl <|
 T_bipush dX9_keep_4 bp_24 <|
 T_icmp_ne (tgt := 49) dX9_keep_6 (by decide) (fun z1 =>
 T_iconst dX9_keep_49 ic_0 <|
 T_istore_n dX9_keep_50 (by decide) rfl rfl <|
 (h.1 z1)) (fun z1 =>
 T_iconst dX9_keep_9 ic_0 <|
 T_istore_n dX9_keep_10 (by decide) rfl rfl <|
 (h.2 z1))
theorem rX9_keep_11 {X : Nat × (Nat → Int32)} {b1 : Int32} {M : Mem} {Q : Option PV → Mem → Prop} (h : (1840 ≤ b1 → TT X kX9_keep 51 [some (pR (9, 0, 0)), some (pI 0)] [] (mset M 9 0 0 9 ((M 9 0 0 9) - 1)) Q) ∧ (¬ 1840 ≤ b1 → vp_in (b1 + 80) 1920 ∧ (vp_in b1 1920 ∧ (TT X kX9_keep 11 [some (pR (9, 0, 0)), some (pI (b1 + 1))] [] (mset M 9 0 9 (Int32.toNatClampNeg b1) (M 9 0 9 (Int32.toNatClampNeg (b1 + 80)))) Q)))) : TT X kX9_keep 11 [some (pR (9, 0, 0)), some (pI b1)] [] M Q :=
 T_iload_n dX9_keep_11 rfl <|
 T_sipush dX9_keep_12 sp_1840 <|
 T_icmp_ge (tgt := 39) dX9_keep_15 (by decide) (fun z2 =>
 T_aload_n dX9_keep_39 rfl <|
 T_dupR dX9_keep_40 <|
 T_getI (C := RX9) (T := TX9) (N := 31) (f := 9) dX9_keep_41 c_9_0_0 rfl (by decide) wf_X9_174 rfl <|
 T_iconst dX9_keep_44 ic_1 <|
 T_isub dX9_keep_45 <|
 T_putI (C := RX9) (T := TX9) (N := 31) (f := 9) dX9_keep_46 c_9_0_0 rfl (by decide) wf_X9_174 rfl rfl rfl <|
 T_iconst dX9_keep_49 ic_0 <|
 T_istore_n dX9_keep_50 (by decide) rfl rfl <|
 (h.1 z2)) (fun z2 =>
 T_aload_n dX9_keep_18 rfl <|
 T_getR (C := RX9) (T := TX9) (N := 31) (f := 8) dX9_keep_19 c_9_0_0 rfl (by decide) wf_X9_25 rfl <|
 T_iload_n dX9_keep_22 rfl <|
 T_aload_n dX9_keep_23 rfl <|
 T_getR (C := RX9) (T := TX9) (N := 31) (f := 8) dX9_keep_24 c_9_0_0 rfl (by decide) wf_X9_25 rfl <|
 T_iload_n dX9_keep_27 rfl <|
 T_bipush dX9_keep_28 bp_80 <|
 T_iadd dX9_keep_30 <|
 T_iald (n := 1920) dX9_keep_31 c_9_0_9 (by decide) (by decide) (by decide) rfl (h.2 z2).1 <|
 T_iast (n := 1920) dX9_keep_32 c_9_0_9 (by decide) (by decide) (by decide) rfl (h.2 z2).2.1 <|
 T_iinc dX9_keep_33 rfl (ii_1 _) (by decide) rfl rfl <|
 T_goto (tgt := 11) dX9_keep_36 (by decide) <|
 (h.2 z2).2.2)
theorem rX9_keep_51 {X : Nat × (Nat → Int32)} {b1 : Int32} {M : Mem} {Q : Option PV → Mem → Prop} (h : (80 ≤ b1 → Q none (mset M 9 0 0 9 ((M 9 0 0 9) + 1))) ∧ (¬ 80 ≤ b1 → vp_in b1 80 ∧ (vp_in ((80 * (M 9 0 0 9)) + b1) 1920 ∧ (TT X kX9_keep 51 [some (pR (9, 0, 0)), some (pI (b1 + 1))] [] (mset M 9 0 9 (Int32.toNatClampNeg ((80 * (M 9 0 0 9)) + b1)) (M 9 0 6 (Int32.toNatClampNeg b1))) Q)))) : TT X kX9_keep 51 [some (pR (9, 0, 0)), some (pI b1)] [] M Q :=
 T_iload_n dX9_keep_51 rfl <|
 T_bipush dX9_keep_52 bp_80 <|
 T_icmp_ge (tgt := 83) dX9_keep_54 (by decide) (fun z3 =>
 T_aload_n dX9_keep_83 rfl <|
 T_dupR dX9_keep_84 <|
 T_getI (C := RX9) (T := TX9) (N := 31) (f := 9) dX9_keep_85 c_9_0_0 rfl (by decide) wf_X9_174 rfl <|
 T_iconst dX9_keep_88 ic_1 <|
 T_iadd dX9_keep_89 <|
 T_putI (C := RX9) (T := TX9) (N := 31) (f := 9) dX9_keep_90 c_9_0_0 rfl (by decide) wf_X9_174 rfl rfl rfl <|
 T_return dX9_keep_93 rfl (h.1 z3)) (fun z3 =>
 T_aload_n dX9_keep_57 rfl <|
 T_getR (C := RX9) (T := TX9) (N := 31) (f := 8) dX9_keep_58 c_9_0_0 rfl (by decide) wf_X9_25 rfl <|
 T_bipush dX9_keep_61 bp_80 <|
 T_aload_n dX9_keep_63 rfl <|
 T_getI (C := RX9) (T := TX9) (N := 31) (f := 9) dX9_keep_64 c_9_0_0 rfl (by decide) wf_X9_174 rfl <|
 T_imul dX9_keep_67 <|
 T_iload_n dX9_keep_68 rfl <|
 T_iadd dX9_keep_69 <|
 T_aload_n dX9_keep_70 rfl <|
 T_getR (C := RX9) (T := TX9) (N := 31) (f := 5) dX9_keep_71 c_9_0_0 rfl (by decide) wf_X9_19 rfl <|
 T_iload_n dX9_keep_74 rfl <|
 T_iald (n := 80) dX9_keep_75 c_9_0_6 (by decide) (by decide) (by decide) rfl (h.2 z3).1 <|
 T_iast (n := 1920) dX9_keep_76 c_9_0_9 (by decide) (by decide) (by decide) rfl (h.2 z3).2.1 <|
 T_iinc dX9_keep_77 rfl (ii_1 _) (by decide) rfl rfl <|
 T_goto (tgt := 51) dX9_keep_80 (by decide) <|
 (h.2 z3).2.2)
theorem rX9_becomes_0 {X : Nat × (Nat → Int32)} {a1 : Int32} {a2 : Int32} {a3 : Int32} {M : Mem} {Q : Option PV → Mem → Prop} (h : TT X kX9_keep 0 [some (pR (9, 0, 0)), none] [] M (rV fun M1 => vp_in ((2 + (3 * a1)) + a2) 80 ∧ (vp_in ((2 + (3 * a1)) + a2) 80 ∧ (Q (some (pI (M1 9 0 6 (Int32.toNatClampNeg ((2 + (3 * a1)) + a2))))) (mset M1 9 0 6 (Int32.toNatClampNeg ((2 + (3 * a1)) + a2)) a3))))) : TT X kX9_becomes 0 [some (pR (9, 0, 0)), some (pI a1), some (pI a2), some (pI a3), none] [] M Q :=
 T_aload_n dX9_becomes_0 rfl <|
 T_callVv (k' := kX9_keep) (vs := []) (st := []) dX9_becomes_1 wm_X9_179 okX9_keep rfl c_9_0_0 rfl rfl rfl (Nat.le_of_ble_eq_true rfl) rfl (Nat.le_of_ble_eq_true rfl) (TT.mono h (rV_mono (fun M1 h3 =>
 T_aload_n dX9_becomes_4 rfl <|
 T_getR (C := RX9) (T := TX9) (N := 31) (f := 5) dX9_becomes_5 c_9_0_0 rfl (by decide) wf_X9_19 rfl <|
 T_iconst dX9_becomes_8 ic_2 <|
 T_iconst dX9_becomes_9 ic_3 <|
 T_iload_n dX9_becomes_10 rfl <|
 T_imul dX9_becomes_11 <|
 T_iadd dX9_becomes_12 <|
 T_iload_n dX9_becomes_13 rfl <|
 T_iadd dX9_becomes_14 <|
 T_iald (n := 80) dX9_becomes_15 c_9_0_6 (by decide) (by decide) (by decide) rfl h3.1 <|
 T_istore dX9_becomes_16 (by decide) rfl rfl <|
 T_aload_n dX9_becomes_18 rfl <|
 T_getR (C := RX9) (T := TX9) (N := 31) (f := 5) dX9_becomes_19 c_9_0_0 rfl (by decide) wf_X9_19 rfl <|
 T_iconst dX9_becomes_22 ic_2 <|
 T_iconst dX9_becomes_23 ic_3 <|
 T_iload_n dX9_becomes_24 rfl <|
 T_imul dX9_becomes_25 <|
 T_iadd dX9_becomes_26 <|
 T_iload_n dX9_becomes_27 rfl <|
 T_iadd dX9_becomes_28 <|
 T_iload_n dX9_becomes_29 rfl <|
 T_iast (n := 80) dX9_becomes_30 c_9_0_6 (by decide) (by decide) (by decide) rfl h3.2.1 <|
 T_iload dX9_becomes_31 rfl <|
 T_ireturn (ty := .int) dX9_becomes_33 rfl rfl h3.2.2)))
theorem rX9_price_0 {X : Nat × (Nat → Int32)} {a1 : Int32} {a2 : Int32} {M : Mem} {Q : Option PV → Mem → Prop} (h : TT X kX9_isStep 0 [some (pR (9, 0, 0)), some (pI a1)] [] (mset M 9 0 0 0 0) (rI fun v2 M1 => (v2 = 0 → Q (some (pI (-1000001))) M1) ∧ (¬ v2 = 0 → TT X kX9_in 0 [some (pL (Int32.toInt64 a2)), none, some (pL 0), none, some (pL 20), none] [] M1 (rI fun v4 M3 => (v4 = 0 → Q (some (pI (-1000001))) M3) ∧ (¬ v4 = 0 → TT X kX9_becomes 0 [some (pR (9, 0, 0)), some (pI a1), some (pI 1), some (pI a2), none] [] M3 (rI fun v6 M5 => Q (some (pI v6)) M5)))))) : TT X kX9_price 0 [some (pR (9, 0, 0)), some (pI a1), some (pI a2)] [] M Q :=
 T_aload_n dX9_price_0 rfl <|
 T_iconst dX9_price_1 ic_0 <|
 T_putI (C := RX9) (T := TX9) (N := 31) (f := 0) dX9_price_2 c_9_0_0 rfl (by decide) wf_X9_59 rfl rfl rfl <|
 T_aload_n dX9_price_5 rfl <|
 T_iload_n dX9_price_6 rfl <|
 T_callVi (k' := kX9_isStep) (vs := [pI a1]) (st := []) dX9_price_7 wm_X9_182 okX9_isStep rfl c_9_0_0 rfl rfl rfl (Nat.le_of_ble_eq_true rfl) rfl (Nat.le_of_ble_eq_true rfl) (TT.mono h (rI_mono (fun v2 M1 h11 =>
 T_if_eq (tgt := 35) dX9_price_10 (by decide) (fun z10 =>
 T_ldc dX9_price_35 wc_X9_79 <|
 T_ireturn (ty := .int) dX9_price_37 rfl rfl (h11.1 z10)) (fun z10 =>
 T_iload_n dX9_price_13 rfl <|
 T_i2l dX9_price_14 <|
 T_lconst dX9_price_15 lc_0 <|
 T_ldc2 dX9_price_16 wl_X9_185 <|
 T_callSi (k' := kX9_in) (vs := [pL (Int32.toInt64 a2), pL 0, pL 20]) (st := []) dX9_price_19 wm_X9_69 okX9_in rfl rfl rfl (Nat.le_of_ble_eq_true rfl) rfl (Nat.le_of_ble_eq_true rfl) (TT.mono (h11.2 z10) (rI_mono (fun v4 M3 h9 =>
 T_if_eq (tgt := 35) dX9_price_22 (by decide) (fun z8 =>
 T_ldc dX9_price_35 wc_X9_79 <|
 T_ireturn (ty := .int) dX9_price_37 rfl rfl (h9.1 z8)) (fun z8 =>
 T_aload_n dX9_price_25 rfl <|
 T_iload_n dX9_price_26 rfl <|
 T_iconst dX9_price_27 ic_1 <|
 T_iload_n dX9_price_28 rfl <|
 T_callVi (k' := kX9_becomes) (vs := [pI a1, pI 1, pI a2]) (st := []) dX9_price_29 wm_X9_187 okX9_becomes rfl c_9_0_0 rfl rfl rfl (Nat.le_of_ble_eq_true rfl) rfl (Nat.le_of_ble_eq_true rfl) (TT.mono (h9.2 z8) (rI_mono (fun v6 M5 h7 =>
 T_goto (tgt := 37) dX9_price_32 (by decide) <|
 T_ireturn (ty := .int) dX9_price_37 rfl rfl h7)))))))))))
theorem rX9_sell_0 {X : Nat × (Nat → Int32)} {a1 : Int32} {a2 : Int32} {M : Mem} {Q : Option PV → Mem → Prop} (h : TT X kX9_isStep 0 [some (pR (9, 0, 0)), some (pI a1)] [] (mset M 9 0 0 0 0) (rI fun v2 M1 => (v2 = 0 → Q (some (pI (-1000001))) M1) ∧ (¬ v2 = 0 → TT X kX9_isOwner 0 [some (pI a2)] [] M1 (rI fun v4 M3 => (v4 = 0 → Q (some (pI (-1000001))) M3) ∧ (¬ v4 = 0 → vp_in (2 + (3 * a1)) 80 ∧ (((M3 9 0 6 (Int32.toNatClampNeg (2 + (3 * a1)))) = a2 → Q (some (pI (-1000001))) M3) ∧ (¬ (M3 9 0 6 (Int32.toNatClampNeg (2 + (3 * a1)))) = a2 → TT X kX9_becomes 0 [some (pR (9, 0, 0)), some (pI a1), some (pI 0), some (pI a2), none] [] M3 (rI fun v6 M5 => Q (some (pI v6)) M5)))))))) : TT X kX9_sell 0 [some (pR (9, 0, 0)), some (pI a1), some (pI a2)] [] M Q :=
 T_aload_n dX9_sell_0 rfl <|
 T_iconst dX9_sell_1 ic_0 <|
 T_putI (C := RX9) (T := TX9) (N := 31) (f := 0) dX9_sell_2 c_9_0_0 rfl (by decide) wf_X9_59 rfl rfl rfl <|
 T_aload_n dX9_sell_5 rfl <|
 T_iload_n dX9_sell_6 rfl <|
 T_callVi (k' := kX9_isStep) (vs := [pI a1]) (st := []) dX9_sell_7 wm_X9_182 okX9_isStep rfl c_9_0_0 rfl rfl rfl (Nat.le_of_ble_eq_true rfl) rfl (Nat.le_of_ble_eq_true rfl) (TT.mono h (rI_mono (fun v2 M1 h12 =>
 T_if_eq (tgt := 44) dX9_sell_10 (by decide) (fun z11 =>
 T_ldc dX9_sell_44 wc_X9_79 <|
 T_ireturn (ty := .int) dX9_sell_46 rfl rfl (h12.1 z11)) (fun z11 =>
 T_iload_n dX9_sell_13 rfl <|
 T_callSi (k' := kX9_isOwner) (vs := [pI a2]) (st := []) dX9_sell_14 wm_X9_191 okX9_isOwner rfl rfl rfl (Nat.le_of_ble_eq_true rfl) rfl (Nat.le_of_ble_eq_true rfl) (TT.mono (h12.2 z11) (rI_mono (fun v4 M3 h10 =>
 T_if_eq (tgt := 44) dX9_sell_17 (by decide) (fun z9 =>
 T_ldc dX9_sell_44 wc_X9_79 <|
 T_ireturn (ty := .int) dX9_sell_46 rfl rfl (h10.1 z9)) (fun z9 =>
 T_aload_n dX9_sell_20 rfl <|
 T_getR (C := RX9) (T := TX9) (N := 31) (f := 5) dX9_sell_21 c_9_0_0 rfl (by decide) wf_X9_19 rfl <|
 T_iconst dX9_sell_24 ic_2 <|
 T_iconst dX9_sell_25 ic_3 <|
 T_iload_n dX9_sell_26 rfl <|
 T_imul dX9_sell_27 <|
 T_iadd dX9_sell_28 <|
 T_iald (n := 80) dX9_sell_29 c_9_0_6 (by decide) (by decide) (by decide) rfl (h10.2 z9).1 <|
 T_iload_n dX9_sell_30 rfl <|
 T_icmp_eq (tgt := 44) dX9_sell_31 (by decide) (fun z8 =>
 T_ldc dX9_sell_44 wc_X9_79 <|
 T_ireturn (ty := .int) dX9_sell_46 rfl rfl ((h10.2 z9).2.1 z8)) (fun z8 =>
 T_aload_n dX9_sell_34 rfl <|
 T_iload_n dX9_sell_35 rfl <|
 T_iconst dX9_sell_36 ic_0 <|
 T_iload_n dX9_sell_37 rfl <|
 T_callVi (k' := kX9_becomes) (vs := [pI a1, pI 0, pI a2]) (st := []) dX9_sell_38 wm_X9_187 okX9_becomes rfl c_9_0_0 rfl rfl rfl (Nat.le_of_ble_eq_true rfl) rfl (Nat.le_of_ble_eq_true rfl) (TT.mono ((h10.2 z9).2.2 z8) (rI_mono (fun v6 M5 h7 =>
 T_goto (tgt := 46) dX9_sell_41 (by decide) <|
 T_ireturn (ty := .int) dX9_sell_46 rfl rfl h7))))))))))))
theorem rX9_crack_0 {X : Nat × (Nat → Int32)} {a1 : Int32} {a2 : Int32} {M : Mem} {Q : Option PV → Mem → Prop} (h : TT X kX9_isStep 0 [some (pR (9, 0, 0)), some (pI a1)] [] (mset M 9 0 0 0 0) (rI fun v2 M1 => (v2 = 0 → Q (some (pI (-1000001))) M1) ∧ (¬ v2 = 0 → TT X kX9_in 0 [some (pL (Int32.toInt64 a2)), none, some (pL 0), none, some (pL 1), none] [] M1 (rI fun v4 M3 => (v4 = 0 → Q (some (pI (-1000001))) M3) ∧ (¬ v4 = 0 → TT X kX9_becomes 0 [some (pR (9, 0, 0)), some (pI a1), some (pI 2), some (pI a2), none] [] M3 (rI fun v6 M5 => Q (some (pI v6)) M5)))))) : TT X kX9_crack 0 [some (pR (9, 0, 0)), some (pI a1), some (pI a2)] [] M Q :=
 T_aload_n dX9_crack_0 rfl <|
 T_iconst dX9_crack_1 ic_0 <|
 T_putI (C := RX9) (T := TX9) (N := 31) (f := 0) dX9_crack_2 c_9_0_0 rfl (by decide) wf_X9_59 rfl rfl rfl <|
 T_aload_n dX9_crack_5 rfl <|
 T_iload_n dX9_crack_6 rfl <|
 T_callVi (k' := kX9_isStep) (vs := [pI a1]) (st := []) dX9_crack_7 wm_X9_182 okX9_isStep rfl c_9_0_0 rfl rfl rfl (Nat.le_of_ble_eq_true rfl) rfl (Nat.le_of_ble_eq_true rfl) (TT.mono h (rI_mono (fun v2 M1 h11 =>
 T_if_eq (tgt := 33) dX9_crack_10 (by decide) (fun z10 =>
 T_ldc dX9_crack_33 wc_X9_79 <|
 T_ireturn (ty := .int) dX9_crack_35 rfl rfl (h11.1 z10)) (fun z10 =>
 T_iload_n dX9_crack_13 rfl <|
 T_i2l dX9_crack_14 <|
 T_lconst dX9_crack_15 lc_0 <|
 T_lconst dX9_crack_16 lc_1 <|
 T_callSi (k' := kX9_in) (vs := [pL (Int32.toInt64 a2), pL 0, pL 1]) (st := []) dX9_crack_17 wm_X9_69 okX9_in rfl rfl rfl (Nat.le_of_ble_eq_true rfl) rfl (Nat.le_of_ble_eq_true rfl) (TT.mono (h11.2 z10) (rI_mono (fun v4 M3 h9 =>
 T_if_eq (tgt := 33) dX9_crack_20 (by decide) (fun z8 =>
 T_ldc dX9_crack_33 wc_X9_79 <|
 T_ireturn (ty := .int) dX9_crack_35 rfl rfl (h9.1 z8)) (fun z8 =>
 T_aload_n dX9_crack_23 rfl <|
 T_iload_n dX9_crack_24 rfl <|
 T_iconst dX9_crack_25 ic_2 <|
 T_iload_n dX9_crack_26 rfl <|
 T_callVi (k' := kX9_becomes) (vs := [pI a1, pI 2, pI a2]) (st := []) dX9_crack_27 wm_X9_187 okX9_becomes rfl c_9_0_0 rfl rfl rfl (Nat.le_of_ble_eq_true rfl) rfl (Nat.le_of_ble_eq_true rfl) (TT.mono (h9.2 z8) (rI_mono (fun v6 M5 h7 =>
 T_goto (tgt := 35) dX9_crack_30 (by decide) <|
 T_ireturn (ty := .int) dX9_crack_35 rfl rfl h7)))))))))))
theorem rX9_undo_0 {X : Nat × (Nat → Int32)}  {M : Mem} {Q : Option PV → Mem → Prop} (h : (¬ ((mset M 9 0 0 0 0) 9 0 0 9) = 0 → TT X kX9_undo 27 [some (pR (9, 0, 0)), some (pI 0)] [] (mset (mset M 9 0 0 0 0) 9 0 0 9 (((mset M 9 0 0 0 0) 9 0 0 9) - 1)) Q) ∧ (((mset M 9 0 0 0 0) 9 0 0 9) = 0 → Q (some (pI (-1000002))) (mset M 9 0 0 0 0))) : TT X kX9_undo 0 [some (pR (9, 0, 0)), none] [] M Q :=
 T_aload_n dX9_undo_0 rfl <|
 T_iconst dX9_undo_1 ic_0 <|
 T_putI (C := RX9) (T := TX9) (N := 31) (f := 0) dX9_undo_2 c_9_0_0 rfl (by decide) wf_X9_59 rfl rfl rfl <|
 T_aload_n dX9_undo_5 rfl <|
 T_getI (C := RX9) (T := TX9) (N := 31) (f := 9) dX9_undo_6 c_9_0_0 rfl (by decide) wf_X9_174 rfl <|
 T_if_ne (tgt := 15) dX9_undo_9 (by decide) (fun z1 =>
 T_aload_n dX9_undo_15 rfl <|
 T_dupR dX9_undo_16 <|
 T_getI (C := RX9) (T := TX9) (N := 31) (f := 9) dX9_undo_17 c_9_0_0 rfl (by decide) wf_X9_174 rfl <|
 T_iconst dX9_undo_20 ic_1 <|
 T_isub dX9_undo_21 <|
 T_putI (C := RX9) (T := TX9) (N := 31) (f := 9) dX9_undo_22 c_9_0_0 rfl (by decide) wf_X9_174 rfl rfl rfl <|
 T_iconst dX9_undo_25 ic_0 <|
 T_istore_n dX9_undo_26 (by decide) rfl rfl <|
 (h.1 z1)) (fun z1 =>
 T_ldc dX9_undo_12 wc_X9_194 <|
 T_ireturn (ty := .int) dX9_undo_14 rfl rfl (h.2 z1))
theorem rX9_undo_27 {X : Nat × (Nat → Int32)} {b1 : Int32} {M : Mem} {Q : Option PV → Mem → Prop} (h : (80 ≤ b1 → Q (some (pI (M 9 0 0 9))) M) ∧ (¬ 80 ≤ b1 → vp_in ((80 * (M 9 0 0 9)) + b1) 1920 ∧ (vp_in b1 80 ∧ (TT X kX9_undo 27 [some (pR (9, 0, 0)), some (pI (b1 + 1))] [] (mset M 9 0 6 (Int32.toNatClampNeg b1) (M 9 0 9 (Int32.toNatClampNeg ((80 * (M 9 0 0 9)) + b1)))) Q)))) : TT X kX9_undo 27 [some (pR (9, 0, 0)), some (pI b1)] [] M Q :=
 T_iload_n dX9_undo_27 rfl <|
 T_bipush dX9_undo_28 bp_80 <|
 T_icmp_ge (tgt := 59) dX9_undo_30 (by decide) (fun z2 =>
 T_aload_n dX9_undo_59 rfl <|
 T_getI (C := RX9) (T := TX9) (N := 31) (f := 9) dX9_undo_60 c_9_0_0 rfl (by decide) wf_X9_174 rfl <|
 T_ireturn (ty := .int) dX9_undo_63 rfl rfl (h.1 z2)) (fun z2 =>
 T_aload_n dX9_undo_33 rfl <|
 T_getR (C := RX9) (T := TX9) (N := 31) (f := 5) dX9_undo_34 c_9_0_0 rfl (by decide) wf_X9_19 rfl <|
 T_iload_n dX9_undo_37 rfl <|
 T_aload_n dX9_undo_38 rfl <|
 T_getR (C := RX9) (T := TX9) (N := 31) (f := 8) dX9_undo_39 c_9_0_0 rfl (by decide) wf_X9_25 rfl <|
 T_bipush dX9_undo_42 bp_80 <|
 T_aload_n dX9_undo_44 rfl <|
 T_getI (C := RX9) (T := TX9) (N := 31) (f := 9) dX9_undo_45 c_9_0_0 rfl (by decide) wf_X9_174 rfl <|
 T_imul dX9_undo_48 <|
 T_iload_n dX9_undo_49 rfl <|
 T_iadd dX9_undo_50 <|
 T_iald (n := 1920) dX9_undo_51 c_9_0_9 (by decide) (by decide) (by decide) rfl (h.2 z2).1 <|
 T_iast (n := 80) dX9_undo_52 c_9_0_6 (by decide) (by decide) (by decide) rfl (h.2 z2).2.1 <|
 T_iinc dX9_undo_53 rfl (ii_1 _) (by decide) rfl rfl <|
 T_goto (tgt := 27) dX9_undo_56 (by decide) <|
 (h.2 z2).2.2)
theorem rX9_step_0 {X : Nat × (Nat → Int32)} {a1 : Int32} {a2 : Int32} {M : Mem} {Q : Option PV → Mem → Prop} (h : TT X kX9_isStep 0 [some (pR (9, 0, 0)), some (pI a1)] [] (mset M 9 0 0 0 0) (rI fun v2 M1 => (v2 = 0 → Q (some (pI (-1000001))) M1) ∧ (¬ v2 = 0 → TT X kX9_in 0 [some (pL (Int32.toInt64 a2)), none, some (pL 0), none, some (pL 2), none] [] M1 (rI fun v4 M3 => (v4 = 0 → Q (some (pI (-1000001))) M3) ∧ (¬ v4 = 0 → vp_in ((2 + (3 * a1)) + a2) 80 ∧ (Q (some (pI (M3 9 0 6 (Int32.toNatClampNeg ((2 + (3 * a1)) + a2))))) M3)))))) : TT X kX9_step 0 [some (pR (9, 0, 0)), some (pI a1), some (pI a2)] [] M Q :=
 T_aload_n dX9_step_0 rfl <|
 T_iconst dX9_step_1 ic_0 <|
 T_putI (C := RX9) (T := TX9) (N := 31) (f := 0) dX9_step_2 c_9_0_0 rfl (by decide) wf_X9_59 rfl rfl rfl <|
 T_aload_n dX9_step_5 rfl <|
 T_iload_n dX9_step_6 rfl <|
 T_callVi (k' := kX9_isStep) (vs := [pI a1]) (st := []) dX9_step_7 wm_X9_182 okX9_isStep rfl c_9_0_0 rfl rfl rfl (Nat.le_of_ble_eq_true rfl) rfl (Nat.le_of_ble_eq_true rfl) (TT.mono h (rI_mono (fun v2 M1 h8 =>
 T_if_eq (tgt := 40) dX9_step_10 (by decide) (fun z7 =>
 T_ldc dX9_step_40 wc_X9_79 <|
 T_ireturn (ty := .int) dX9_step_42 rfl rfl (h8.1 z7)) (fun z7 =>
 T_iload_n dX9_step_13 rfl <|
 T_i2l dX9_step_14 <|
 T_lconst dX9_step_15 lc_0 <|
 T_ldc2 dX9_step_16 wl_X9_77 <|
 T_callSi (k' := kX9_in) (vs := [pL (Int32.toInt64 a2), pL 0, pL 2]) (st := []) dX9_step_19 wm_X9_69 okX9_in rfl rfl rfl (Nat.le_of_ble_eq_true rfl) rfl (Nat.le_of_ble_eq_true rfl) (TT.mono (h8.2 z7) (rI_mono (fun v4 M3 h6 =>
 T_if_eq (tgt := 40) dX9_step_22 (by decide) (fun z5 =>
 T_ldc dX9_step_40 wc_X9_79 <|
 T_ireturn (ty := .int) dX9_step_42 rfl rfl (h6.1 z5)) (fun z5 =>
 T_aload_n dX9_step_25 rfl <|
 T_getR (C := RX9) (T := TX9) (N := 31) (f := 5) dX9_step_26 c_9_0_0 rfl (by decide) wf_X9_19 rfl <|
 T_iconst dX9_step_29 ic_2 <|
 T_iconst dX9_step_30 ic_3 <|
 T_iload_n dX9_step_31 rfl <|
 T_imul dX9_step_32 <|
 T_iadd dX9_step_33 <|
 T_iload_n dX9_step_34 rfl <|
 T_iadd dX9_step_35 <|
 T_iald (n := 80) dX9_step_36 c_9_0_6 (by decide) (by decide) (by decide) rfl (h6.2 z5).1 <|
 T_goto (tgt := 42) dX9_step_37 (by decide) <|
 T_ireturn (ty := .int) dX9_step_42 rfl rfl (h6.2 z5).2))))))))
theorem rX9_layNow_0 {X : Nat × (Nat → Int32)}  {M : Mem} {Q : Option PV → Mem → Prop} (h : TT X kX9_layNow 2 [some (pR (9, 0, 0)), some (pI 0)] [] M Q) : TT X kX9_layNow 0 [some (pR (9, 0, 0)), none] [] M Q :=
 T_iconst dX9_layNow_0 ic_0 <|
 T_istore_n dX9_layNow_1 (by decide) rfl rfl <|
 h
theorem rX9_layNow_2 {X : Nat × (Nat → Int32)} {b1 : Int32} {M : Mem} {Q : Option PV → Mem → Prop} (h : ((M 9 0 6 0) ≤ b1 → Q none M) ∧ (¬ (M 9 0 6 0) ≤ b1 → vp_in (2 + (3 * b1)) 80 ∧ (vp_in b1 18 ∧ (vp_in ((2 + (3 * b1)) + 1) 80 ∧ (vp_in b1 18 ∧ (TT X kX9_layNow 2 [some (pR (9, 0, 0)), some (pI (b1 + 1))] [] (mset (mset M 9 0 21 (Int32.toNatClampNeg b1) (M 9 0 6 (Int32.toNatClampNeg (2 + (3 * b1))))) 9 0 22 (Int32.toNatClampNeg b1) ((mset M 9 0 21 (Int32.toNatClampNeg b1) (M 9 0 6 (Int32.toNatClampNeg (2 + (3 * b1))))) 9 0 6 (Int32.toNatClampNeg ((2 + (3 * b1)) + 1)))) Q)))))) : TT X kX9_layNow 2 [some (pR (9, 0, 0)), some (pI b1)] [] M Q :=
 T_iload_n dX9_layNow_2 rfl <|
 T_aload_n dX9_layNow_3 rfl <|
 T_getR (C := RX9) (T := TX9) (N := 31) (f := 5) dX9_layNow_4 c_9_0_0 rfl (by decide) wf_X9_19 rfl <|
 T_iconst dX9_layNow_7 ic_0 <|
 T_ialdN (n := 80) dX9_layNow_8 c_9_0_6 (by decide) (by decide) (by decide) rfl vi_0_80 tn_0 <|
 T_icmp_ge (tgt := 52) dX9_layNow_9 (by decide) (fun z1 =>
 T_return dX9_layNow_52 rfl (h.1 z1)) (fun z1 =>
 T_aload_n dX9_layNow_12 rfl <|
 T_getR (C := RX9) (T := TX9) (N := 31) (f := 20) dX9_layNow_13 c_9_0_0 rfl (by decide) wf_X9_31 rfl <|
 T_iload_n dX9_layNow_16 rfl <|
 T_aload_n dX9_layNow_17 rfl <|
 T_getR (C := RX9) (T := TX9) (N := 31) (f := 5) dX9_layNow_18 c_9_0_0 rfl (by decide) wf_X9_19 rfl <|
 T_iconst dX9_layNow_21 ic_2 <|
 T_iconst dX9_layNow_22 ic_3 <|
 T_iload_n dX9_layNow_23 rfl <|
 T_imul dX9_layNow_24 <|
 T_iadd dX9_layNow_25 <|
 T_iald (n := 80) dX9_layNow_26 c_9_0_6 (by decide) (by decide) (by decide) rfl (h.2 z1).1 <|
 T_iast (n := 18) dX9_layNow_27 c_9_0_21 (by decide) (by decide) (by decide) rfl (h.2 z1).2.1 <|
 T_aload_n dX9_layNow_28 rfl <|
 T_getR (C := RX9) (T := TX9) (N := 31) (f := 21) dX9_layNow_29 c_9_0_0 rfl (by decide) wf_X9_34 rfl <|
 T_iload_n dX9_layNow_32 rfl <|
 T_aload_n dX9_layNow_33 rfl <|
 T_getR (C := RX9) (T := TX9) (N := 31) (f := 5) dX9_layNow_34 c_9_0_0 rfl (by decide) wf_X9_19 rfl <|
 T_iconst dX9_layNow_37 ic_2 <|
 T_iconst dX9_layNow_38 ic_3 <|
 T_iload_n dX9_layNow_39 rfl <|
 T_imul dX9_layNow_40 <|
 T_iadd dX9_layNow_41 <|
 T_iconst dX9_layNow_42 ic_1 <|
 T_iadd dX9_layNow_43 <|
 T_iald (n := 80) dX9_layNow_44 c_9_0_6 (by decide) (by decide) (by decide) rfl (h.2 z1).2.2.1 <|
 T_iast (n := 18) dX9_layNow_45 c_9_0_22 (by decide) (by decide) (by decide) rfl (h.2 z1).2.2.2.1 <|
 T_iinc dX9_layNow_46 rfl (ii_1 _) (by decide) rfl rfl <|
 T_goto (tgt := 2) dX9_layNow_49 (by decide) <|
 (h.2 z1).2.2.2.2)
