theorem rX0_change_0 {X : Nat × (Nat → Int32)} {j1 : Nat} (hj1 : j1 < 5) {a2 : Int32} {a3 : Int32} {a4 : Int32} {M : Mem} {Q : Option PV → Mem → Prop} (h : TT X kX6_hasStep 0 [some (pR (6, j1, 0)), some (pI a3)] [] M (rI fun v2 M1 => (¬ v2 = 0 → (¬ a2 = 0 → (¬ a2 = 1 → vp_in a3 18 ∧ (vp_in a3 18 ∧ (Q (some (pI (M1 6 j1 5 (Int32.toNatClampNeg a3)))) (mset M1 6 j1 5 (Int32.toNatClampNeg a3) a4)))) ∧ (a2 = 1 → vp_in a3 18 ∧ (vp_in a3 18 ∧ (Q (some (pI (M1 6 j1 3 (Int32.toNatClampNeg a3)))) (mset M1 6 j1 3 (Int32.toNatClampNeg a3) a4))))) ∧ (a2 = 0 → vp_in a3 18 ∧ (vp_in a3 18 ∧ (Q (some (pI (M1 6 j1 4 (Int32.toNatClampNeg a3)))) (mset M1 6 j1 4 (Int32.toNatClampNeg a3) a4))))) ∧ (v2 = 0 → Q (some (pI (-1000000))) M1))) : TT X kX0_change 0 [some (pR (6, j1, 0)), some (pI a2), some (pI a3), some (pI a4), none, none] [] M Q :=
 T_aload_n dX0_change_0 rfl <|
 T_iload_n dX0_change_1 rfl <|
 T_callVi (k' := kX6_hasStep) (vs := [pI a3]) (st := []) dX0_change_2 wm_X0_21 okX6_hasStep rfl (cc6_0 hj1) rfl rfl rfl (Nat.le_of_ble_eq_true rfl) rfl (Nat.le_of_ble_eq_true rfl) (TT.mono h (rI_mono (fun v2 M1 h6 =>
 T_if_ne (tgt := 11) dX0_change_5 (by decide) (fun z5 =>
 T_aload_n dX0_change_11 rfl <|
 T_getR (C := RX6) (T := TX6) (N := 9) (f := 4) dX0_change_12 (cc6_0 hj1) rfl (by decide) wf_X0_28 rfl <|
 T_astore dX0_change_15 (by decide) rfl rfl <|
 T_iload_n dX0_change_17 rfl <|
 T_if_ne (tgt := 30) dX0_change_18 (by decide) (fun z4 =>
 T_iload_n dX0_change_30 rfl <|
 T_iconst dX0_change_31 ic_1 <|
 T_icmp_ne (tgt := 41) dX0_change_32 (by decide) (fun z3 =>
 T_aload dX0_change_41 rfl <|
 T_iload_n dX0_change_43 rfl <|
 T_iald (n := 18) dX0_change_44 (cc6_5 hj1) (by decide) (by decide) (by decide) rfl (((h6.1 z5).1 z4).1 z3).1 <|
 T_istore dX0_change_45 (by decide) rfl rfl <|
 T_aload dX0_change_47 rfl <|
 T_iload_n dX0_change_49 rfl <|
 T_iload_n dX0_change_50 rfl <|
 T_iast (n := 18) dX0_change_51 (cc6_5 hj1) (by decide) (by decide) (by decide) rfl (((h6.1 z5).1 z4).1 z3).2.1 <|
 T_iload dX0_change_52 rfl <|
 T_ireturn (ty := .int) dX0_change_54 rfl rfl (((h6.1 z5).1 z4).1 z3).2.2) (fun z3 =>
 T_aload_n dX0_change_35 rfl <|
 T_getR (C := RX6) (T := TX6) (N := 9) (f := 2) dX0_change_36 (cc6_0 hj1) rfl (by decide) wf_X0_34 rfl <|
 T_astore dX0_change_39 (by decide) rfl rfl <|
 T_aload dX0_change_41 rfl <|
 T_iload_n dX0_change_43 rfl <|
 T_iald (n := 18) dX0_change_44 (cc6_3 hj1) (by decide) (by decide) (by decide) rfl (((h6.1 z5).1 z4).2 z3).1 <|
 T_istore dX0_change_45 (by decide) rfl rfl <|
 T_aload dX0_change_47 rfl <|
 T_iload_n dX0_change_49 rfl <|
 T_iload_n dX0_change_50 rfl <|
 T_iast (n := 18) dX0_change_51 (cc6_3 hj1) (by decide) (by decide) (by decide) rfl (((h6.1 z5).1 z4).2 z3).2.1 <|
 T_iload dX0_change_52 rfl <|
 T_ireturn (ty := .int) dX0_change_54 rfl rfl (((h6.1 z5).1 z4).2 z3).2.2)) (fun z4 =>
 T_aload_n dX0_change_21 rfl <|
 T_getR (C := RX6) (T := TX6) (N := 9) (f := 3) dX0_change_22 (cc6_0 hj1) rfl (by decide) wf_X0_31 rfl <|
 T_astore dX0_change_25 (by decide) rfl rfl <|
 T_goto (tgt := 41) dX0_change_27 (by decide) <|
 T_aload dX0_change_41 rfl <|
 T_iload_n dX0_change_43 rfl <|
 T_iald (n := 18) dX0_change_44 (cc6_4 hj1) (by decide) (by decide) (by decide) rfl ((h6.1 z5).2 z4).1 <|
 T_istore dX0_change_45 (by decide) rfl rfl <|
 T_aload dX0_change_47 rfl <|
 T_iload_n dX0_change_49 rfl <|
 T_iload_n dX0_change_50 rfl <|
 T_iast (n := 18) dX0_change_51 (cc6_4 hj1) (by decide) (by decide) (by decide) rfl ((h6.1 z5).2 z4).2.1 <|
 T_iload dX0_change_52 rfl <|
 T_ireturn (ty := .int) dX0_change_54 rfl rfl ((h6.1 z5).2 z4).2.2)) (fun z5 =>
 T_ldc dX0_change_8 wc_X0_27 <|
 T_ireturn (ty := .int) dX0_change_10 rfl rfl (h6.2 z5)))))
theorem rX0_kept_0 {X : Nat × (Nat → Int32)}  {M : Mem} {Q : Option PV → Mem → Prop} (h : Q (some (pI (M 0 0 0 3))) M) : TT X kX0_kept 0 [some (pR (0, 0, 0))] [] M Q :=
 T_aload_n dX0_kept_0 rfl <|
 T_getI (C := RX0) (T := TX0) (N := 4) (f := 3) dX0_kept_1 c_0_0_0 rfl (by decide) wf_X0_37 rfl <|
 T_ireturn (ty := .int) dX0_kept_4 rfl rfl h
theorem rX0_clear_0 {X : Nat × (Nat → Int32)}  {M : Mem} {Q : Option PV → Mem → Prop} (h : Q none (mset M 0 0 0 3 0)) : TT X kX0_clear 0 [some (pR (0, 0, 0))] [] M Q :=
 T_aload_n dX0_clear_0 rfl <|
 T_iconst dX0_clear_1 ic_0 <|
 T_putI (C := RX0) (T := TX0) (N := 4) (f := 3) dX0_clear_2 c_0_0_0 rfl (by decide) wf_X0_37 rfl rfl rfl <|
 T_return dX0_clear_5 rfl h
theorem rX0_keep_0 {X : Nat × (Nat → Int32)} {a1 : Int32} {a2 : Int32} {a3 : Int32} {M : Mem} {Q : Option PV → Mem → Prop} (h : ((M 0 0 0 3) < 24 → vp_in (M 0 0 0 3) 24 ∧ (vp_in ((mset M 0 0 1 (Int32.toNatClampNeg (M 0 0 0 3)) a1) 0 0 0 3) 24 ∧ (vp_in ((mset (mset M 0 0 1 (Int32.toNatClampNeg (M 0 0 0 3)) a1) 0 0 2 (Int32.toNatClampNeg ((mset M 0 0 1 (Int32.toNatClampNeg (M 0 0 0 3)) a1) 0 0 0 3)) a2) 0 0 0 3) 24 ∧ (Q none (mset (mset (mset (mset M 0 0 1 (Int32.toNatClampNeg (M 0 0 0 3)) a1) 0 0 2 (Int32.toNatClampNeg ((mset M 0 0 1 (Int32.toNatClampNeg (M 0 0 0 3)) a1) 0 0 0 3)) a2) 0 0 3 (Int32.toNatClampNeg ((mset (mset M 0 0 1 (Int32.toNatClampNeg (M 0 0 0 3)) a1) 0 0 2 (Int32.toNatClampNeg ((mset M 0 0 1 (Int32.toNatClampNeg (M 0 0 0 3)) a1) 0 0 0 3)) a2) 0 0 0 3)) a3) 0 0 0 3 (((mset (mset (mset M 0 0 1 (Int32.toNatClampNeg (M 0 0 0 3)) a1) 0 0 2 (Int32.toNatClampNeg ((mset M 0 0 1 (Int32.toNatClampNeg (M 0 0 0 3)) a1) 0 0 0 3)) a2) 0 0 3 (Int32.toNatClampNeg ((mset (mset M 0 0 1 (Int32.toNatClampNeg (M 0 0 0 3)) a1) 0 0 2 (Int32.toNatClampNeg ((mset M 0 0 1 (Int32.toNatClampNeg (M 0 0 0 3)) a1) 0 0 0 3)) a2) 0 0 0 3)) a3) 0 0 0 3) + 1)))))) ∧ (¬ (M 0 0 0 3) < 24 → TT X kX0_forgetOldest 0 [some (pR (0, 0, 0)), none] [] M (rV fun M1 => vp_in (M1 0 0 0 3) 24 ∧ (vp_in ((mset M1 0 0 1 (Int32.toNatClampNeg (M1 0 0 0 3)) a1) 0 0 0 3) 24 ∧ (vp_in ((mset (mset M1 0 0 1 (Int32.toNatClampNeg (M1 0 0 0 3)) a1) 0 0 2 (Int32.toNatClampNeg ((mset M1 0 0 1 (Int32.toNatClampNeg (M1 0 0 0 3)) a1) 0 0 0 3)) a2) 0 0 0 3) 24 ∧ (Q none (mset (mset (mset (mset M1 0 0 1 (Int32.toNatClampNeg (M1 0 0 0 3)) a1) 0 0 2 (Int32.toNatClampNeg ((mset M1 0 0 1 (Int32.toNatClampNeg (M1 0 0 0 3)) a1) 0 0 0 3)) a2) 0 0 3 (Int32.toNatClampNeg ((mset (mset M1 0 0 1 (Int32.toNatClampNeg (M1 0 0 0 3)) a1) 0 0 2 (Int32.toNatClampNeg ((mset M1 0 0 1 (Int32.toNatClampNeg (M1 0 0 0 3)) a1) 0 0 0 3)) a2) 0 0 0 3)) a3) 0 0 0 3 (((mset (mset (mset M1 0 0 1 (Int32.toNatClampNeg (M1 0 0 0 3)) a1) 0 0 2 (Int32.toNatClampNeg ((mset M1 0 0 1 (Int32.toNatClampNeg (M1 0 0 0 3)) a1) 0 0 0 3)) a2) 0 0 3 (Int32.toNatClampNeg ((mset (mset M1 0 0 1 (Int32.toNatClampNeg (M1 0 0 0 3)) a1) 0 0 2 (Int32.toNatClampNeg ((mset M1 0 0 1 (Int32.toNatClampNeg (M1 0 0 0 3)) a1) 0 0 0 3)) a2) 0 0 0 3)) a3) 0 0 0 3) + 1)))))))) : TT X kX0_keep 0 [some (pR (0, 0, 0)), some (pI a1), some (pI a2), some (pI a3)] [] M Q :=
 T_aload_n dX0_keep_0 rfl <|
 T_getI (C := RX0) (T := TX0) (N := 4) (f := 3) dX0_keep_1 c_0_0_0 rfl (by decide) wf_X0_37 rfl <|
 T_bipush dX0_keep_4 bp_24 <|
 T_icmp_lt (tgt := 13) dX0_keep_6 (by decide) (fun z4 =>
 T_aload_n dX0_keep_13 rfl <|
 T_getR (C := RX0) (T := TX0) (N := 4) (f := 0) dX0_keep_14 c_0_0_0 rfl (by decide) wf_X0_11 rfl <|
 T_aload_n dX0_keep_17 rfl <|
 T_getI (C := RX0) (T := TX0) (N := 4) (f := 3) dX0_keep_18 c_0_0_0 rfl (by decide) wf_X0_37 rfl <|
 T_iload_n dX0_keep_21 rfl <|
 T_iast (n := 24) dX0_keep_22 c_0_0_1 (by decide) (by decide) (by decide) rfl (h.1 z4).1 <|
 T_aload_n dX0_keep_23 rfl <|
 T_getR (C := RX0) (T := TX0) (N := 4) (f := 1) dX0_keep_24 c_0_0_0 rfl (by decide) wf_X0_15 rfl <|
 T_aload_n dX0_keep_27 rfl <|
 T_getI (C := RX0) (T := TX0) (N := 4) (f := 3) dX0_keep_28 c_0_0_0 rfl (by decide) wf_X0_37 rfl <|
 T_iload_n dX0_keep_31 rfl <|
 T_iast (n := 24) dX0_keep_32 c_0_0_2 (by decide) (by decide) (by decide) rfl (h.1 z4).2.1 <|
 T_aload_n dX0_keep_33 rfl <|
 T_getR (C := RX0) (T := TX0) (N := 4) (f := 2) dX0_keep_34 c_0_0_0 rfl (by decide) wf_X0_18 rfl <|
 T_aload_n dX0_keep_37 rfl <|
 T_getI (C := RX0) (T := TX0) (N := 4) (f := 3) dX0_keep_38 c_0_0_0 rfl (by decide) wf_X0_37 rfl <|
 T_iload_n dX0_keep_41 rfl <|
 T_iast (n := 24) dX0_keep_42 c_0_0_3 (by decide) (by decide) (by decide) rfl (h.1 z4).2.2.1 <|
 T_aload_n dX0_keep_43 rfl <|
 T_dupR dX0_keep_44 <|
 T_getI (C := RX0) (T := TX0) (N := 4) (f := 3) dX0_keep_45 c_0_0_0 rfl (by decide) wf_X0_37 rfl <|
 T_iconst dX0_keep_48 ic_1 <|
 T_iadd dX0_keep_49 <|
 T_putI (C := RX0) (T := TX0) (N := 4) (f := 3) dX0_keep_50 c_0_0_0 rfl (by decide) wf_X0_37 rfl rfl rfl <|
 T_return dX0_keep_53 rfl (h.1 z4).2.2.2) (fun z4 =>
 T_aload_n dX0_keep_9 rfl <|
 T_callVv (k' := kX0_forgetOldest) (vs := []) (st := []) dX0_keep_10 wm_X0_41 okX0_forgetOldest rfl c_0_0_0 rfl rfl rfl (Nat.le_of_ble_eq_true rfl) rfl (Nat.le_of_ble_eq_true rfl) (TT.mono (h.2 z4) (rV_mono (fun M1 h3 =>
 T_aload_n dX0_keep_13 rfl <|
 T_getR (C := RX0) (T := TX0) (N := 4) (f := 0) dX0_keep_14 c_0_0_0 rfl (by decide) wf_X0_11 rfl <|
 T_aload_n dX0_keep_17 rfl <|
 T_getI (C := RX0) (T := TX0) (N := 4) (f := 3) dX0_keep_18 c_0_0_0 rfl (by decide) wf_X0_37 rfl <|
 T_iload_n dX0_keep_21 rfl <|
 T_iast (n := 24) dX0_keep_22 c_0_0_1 (by decide) (by decide) (by decide) rfl h3.1 <|
 T_aload_n dX0_keep_23 rfl <|
 T_getR (C := RX0) (T := TX0) (N := 4) (f := 1) dX0_keep_24 c_0_0_0 rfl (by decide) wf_X0_15 rfl <|
 T_aload_n dX0_keep_27 rfl <|
 T_getI (C := RX0) (T := TX0) (N := 4) (f := 3) dX0_keep_28 c_0_0_0 rfl (by decide) wf_X0_37 rfl <|
 T_iload_n dX0_keep_31 rfl <|
 T_iast (n := 24) dX0_keep_32 c_0_0_2 (by decide) (by decide) (by decide) rfl h3.2.1 <|
 T_aload_n dX0_keep_33 rfl <|
 T_getR (C := RX0) (T := TX0) (N := 4) (f := 2) dX0_keep_34 c_0_0_0 rfl (by decide) wf_X0_18 rfl <|
 T_aload_n dX0_keep_37 rfl <|
 T_getI (C := RX0) (T := TX0) (N := 4) (f := 3) dX0_keep_38 c_0_0_0 rfl (by decide) wf_X0_37 rfl <|
 T_iload_n dX0_keep_41 rfl <|
 T_iast (n := 24) dX0_keep_42 c_0_0_3 (by decide) (by decide) (by decide) rfl h3.2.2.1 <|
 T_aload_n dX0_keep_43 rfl <|
 T_dupR dX0_keep_44 <|
 T_getI (C := RX0) (T := TX0) (N := 4) (f := 3) dX0_keep_45 c_0_0_0 rfl (by decide) wf_X0_37 rfl <|
 T_iconst dX0_keep_48 ic_1 <|
 T_iadd dX0_keep_49 <|
 T_putI (C := RX0) (T := TX0) (N := 4) (f := 3) dX0_keep_50 c_0_0_0 rfl (by decide) wf_X0_37 rfl rfl rfl <|
 T_return dX0_keep_53 rfl h3.2.2.2))))
theorem rX0_forgetOldest_0 {X : Nat × (Nat → Int32)}  {M : Mem} {Q : Option PV → Mem → Prop} (h : TT X kX0_forgetOldest 2 [some (pR (0, 0, 0)), some (pI 1)] [] M Q) : TT X kX0_forgetOldest 0 [some (pR (0, 0, 0)), none] [] M Q :=
 T_iconst dX0_forgetOldest_0 ic_1 <|
 T_istore_n dX0_forgetOldest_1 (by decide) rfl rfl <|
 h
theorem rX0_forgetOldest_2 {X : Nat × (Nat → Int32)} {b1 : Int32} {M : Mem} {Q : Option PV → Mem → Prop} (h : (24 ≤ b1 → Q none (mset M 0 0 0 3 23)) ∧ (¬ 24 ≤ b1 → vp_in b1 24 ∧ (vp_in (b1 - 1) 24 ∧ (vp_in b1 24 ∧ (vp_in (b1 - 1) 24 ∧ (vp_in b1 24 ∧ (vp_in (b1 - 1) 24 ∧ (TT X kX0_forgetOldest 2 [some (pR (0, 0, 0)), some (pI (b1 + 1))] [] (mset (mset (mset M 0 0 1 (Int32.toNatClampNeg (b1 - 1)) (M 0 0 1 (Int32.toNatClampNeg b1))) 0 0 2 (Int32.toNatClampNeg (b1 - 1)) ((mset M 0 0 1 (Int32.toNatClampNeg (b1 - 1)) (M 0 0 1 (Int32.toNatClampNeg b1))) 0 0 2 (Int32.toNatClampNeg b1))) 0 0 3 (Int32.toNatClampNeg (b1 - 1)) ((mset (mset M 0 0 1 (Int32.toNatClampNeg (b1 - 1)) (M 0 0 1 (Int32.toNatClampNeg b1))) 0 0 2 (Int32.toNatClampNeg (b1 - 1)) ((mset M 0 0 1 (Int32.toNatClampNeg (b1 - 1)) (M 0 0 1 (Int32.toNatClampNeg b1))) 0 0 2 (Int32.toNatClampNeg b1))) 0 0 3 (Int32.toNatClampNeg b1))) Q)))))))) : TT X kX0_forgetOldest 2 [some (pR (0, 0, 0)), some (pI b1)] [] M Q :=
 T_iload_n dX0_forgetOldest_2 rfl <|
 T_bipush dX0_forgetOldest_3 bp_24 <|
 T_icmp_ge (tgt := 56) dX0_forgetOldest_5 (by decide) (fun z1 =>
 T_aload_n dX0_forgetOldest_56 rfl <|
 T_bipush dX0_forgetOldest_57 bp_23 <|
 T_putI (C := RX0) (T := TX0) (N := 4) (f := 3) dX0_forgetOldest_59 c_0_0_0 rfl (by decide) wf_X0_37 rfl rfl rfl <|
 T_return dX0_forgetOldest_62 rfl (h.1 z1)) (fun z1 =>
 T_aload_n dX0_forgetOldest_8 rfl <|
 T_getR (C := RX0) (T := TX0) (N := 4) (f := 0) dX0_forgetOldest_9 c_0_0_0 rfl (by decide) wf_X0_11 rfl <|
 T_iload_n dX0_forgetOldest_12 rfl <|
 T_iconst dX0_forgetOldest_13 ic_1 <|
 T_isub dX0_forgetOldest_14 <|
 T_aload_n dX0_forgetOldest_15 rfl <|
 T_getR (C := RX0) (T := TX0) (N := 4) (f := 0) dX0_forgetOldest_16 c_0_0_0 rfl (by decide) wf_X0_11 rfl <|
 T_iload_n dX0_forgetOldest_19 rfl <|
 T_iald (n := 24) dX0_forgetOldest_20 c_0_0_1 (by decide) (by decide) (by decide) rfl (h.2 z1).1 <|
 T_iast (n := 24) dX0_forgetOldest_21 c_0_0_1 (by decide) (by decide) (by decide) rfl (h.2 z1).2.1 <|
 T_aload_n dX0_forgetOldest_22 rfl <|
 T_getR (C := RX0) (T := TX0) (N := 4) (f := 1) dX0_forgetOldest_23 c_0_0_0 rfl (by decide) wf_X0_15 rfl <|
 T_iload_n dX0_forgetOldest_26 rfl <|
 T_iconst dX0_forgetOldest_27 ic_1 <|
 T_isub dX0_forgetOldest_28 <|
 T_aload_n dX0_forgetOldest_29 rfl <|
 T_getR (C := RX0) (T := TX0) (N := 4) (f := 1) dX0_forgetOldest_30 c_0_0_0 rfl (by decide) wf_X0_15 rfl <|
 T_iload_n dX0_forgetOldest_33 rfl <|
 T_iald (n := 24) dX0_forgetOldest_34 c_0_0_2 (by decide) (by decide) (by decide) rfl (h.2 z1).2.2.1 <|
 T_iast (n := 24) dX0_forgetOldest_35 c_0_0_2 (by decide) (by decide) (by decide) rfl (h.2 z1).2.2.2.1 <|
 T_aload_n dX0_forgetOldest_36 rfl <|
 T_getR (C := RX0) (T := TX0) (N := 4) (f := 2) dX0_forgetOldest_37 c_0_0_0 rfl (by decide) wf_X0_18 rfl <|
 T_iload_n dX0_forgetOldest_40 rfl <|
 T_iconst dX0_forgetOldest_41 ic_1 <|
 T_isub dX0_forgetOldest_42 <|
 T_aload_n dX0_forgetOldest_43 rfl <|
 T_getR (C := RX0) (T := TX0) (N := 4) (f := 2) dX0_forgetOldest_44 c_0_0_0 rfl (by decide) wf_X0_18 rfl <|
 T_iload_n dX0_forgetOldest_47 rfl <|
 T_iald (n := 24) dX0_forgetOldest_48 c_0_0_3 (by decide) (by decide) (by decide) rfl (h.2 z1).2.2.2.2.1 <|
 T_iast (n := 24) dX0_forgetOldest_49 c_0_0_3 (by decide) (by decide) (by decide) rfl (h.2 z1).2.2.2.2.2.1 <|
 T_iinc dX0_forgetOldest_50 rfl (ii_1 _) (by decide) rfl rfl <|
 T_goto (tgt := 2) dX0_forgetOldest_53 (by decide) <|
 (h.2 z1).2.2.2.2.2.2)
theorem rX0_undoLatest_0 {X : Nat × (Nat → Int32)} {j1 : Nat} (hj1 : j1 < 5) {M : Mem} {Q : Option PV → Mem → Prop} (h : ((M 0 0 0 3) ≤ 0 → Q none M) ∧ (¬ (M 0 0 0 3) ≤ 0 → vp_in ((mset M 0 0 0 3 ((M 0 0 0 3) - 1)) 0 0 0 3) 24 ∧ (vp_in ((mset M 0 0 0 3 ((M 0 0 0 3) - 1)) 0 0 0 3) 24 ∧ (vp_in ((mset M 0 0 0 3 ((M 0 0 0 3) - 1)) 0 0 0 3) 24 ∧ (TT X kX0_change 0 [some (pR (6, j1, 0)), some (pI ((mset M 0 0 0 3 ((M 0 0 0 3) - 1)) 0 0 1 (Int32.toNatClampNeg ((mset M 0 0 0 3 ((M 0 0 0 3) - 1)) 0 0 0 3)))), some (pI ((mset M 0 0 0 3 ((M 0 0 0 3) - 1)) 0 0 2 (Int32.toNatClampNeg ((mset M 0 0 0 3 ((M 0 0 0 3) - 1)) 0 0 0 3)))), some (pI ((mset M 0 0 0 3 ((M 0 0 0 3) - 1)) 0 0 3 (Int32.toNatClampNeg ((mset M 0 0 0 3 ((M 0 0 0 3) - 1)) 0 0 0 3)))), none, none] [] (mset M 0 0 0 3 ((M 0 0 0 3) - 1)) (rI fun v2 M1 => Q none M1)))))) : TT X kX0_undoLatest 0 [some (pR (0, 0, 0)), some (pR (6, j1, 0))] [] M Q :=
 T_aload_n dX0_undoLatest_0 rfl <|
 T_getI (C := RX0) (T := TX0) (N := 4) (f := 3) dX0_undoLatest_1 c_0_0_0 rfl (by decide) wf_X0_37 rfl <|
 T_if_le (tgt := 49) dX0_undoLatest_4 (by decide) (fun z4 =>
 T_return dX0_undoLatest_49 rfl (h.1 z4)) (fun z4 =>
 T_aload_n dX0_undoLatest_7 rfl <|
 T_dupR dX0_undoLatest_8 <|
 T_getI (C := RX0) (T := TX0) (N := 4) (f := 3) dX0_undoLatest_9 c_0_0_0 rfl (by decide) wf_X0_37 rfl <|
 T_iconst dX0_undoLatest_12 ic_1 <|
 T_isub dX0_undoLatest_13 <|
 T_putI (C := RX0) (T := TX0) (N := 4) (f := 3) dX0_undoLatest_14 c_0_0_0 rfl (by decide) wf_X0_37 rfl rfl rfl <|
 T_aload_n dX0_undoLatest_17 rfl <|
 T_aload_n dX0_undoLatest_18 rfl <|
 T_getR (C := RX0) (T := TX0) (N := 4) (f := 0) dX0_undoLatest_19 c_0_0_0 rfl (by decide) wf_X0_11 rfl <|
 T_aload_n dX0_undoLatest_22 rfl <|
 T_getI (C := RX0) (T := TX0) (N := 4) (f := 3) dX0_undoLatest_23 c_0_0_0 rfl (by decide) wf_X0_37 rfl <|
 T_iald (n := 24) dX0_undoLatest_26 c_0_0_1 (by decide) (by decide) (by decide) rfl (h.2 z4).1 <|
 T_aload_n dX0_undoLatest_27 rfl <|
 T_getR (C := RX0) (T := TX0) (N := 4) (f := 1) dX0_undoLatest_28 c_0_0_0 rfl (by decide) wf_X0_15 rfl <|
 T_aload_n dX0_undoLatest_31 rfl <|
 T_getI (C := RX0) (T := TX0) (N := 4) (f := 3) dX0_undoLatest_32 c_0_0_0 rfl (by decide) wf_X0_37 rfl <|
 T_iald (n := 24) dX0_undoLatest_35 c_0_0_2 (by decide) (by decide) (by decide) rfl (h.2 z4).2.1 <|
 T_aload_n dX0_undoLatest_36 rfl <|
 T_getR (C := RX0) (T := TX0) (N := 4) (f := 2) dX0_undoLatest_37 c_0_0_0 rfl (by decide) wf_X0_18 rfl <|
 T_aload_n dX0_undoLatest_40 rfl <|
 T_getI (C := RX0) (T := TX0) (N := 4) (f := 3) dX0_undoLatest_41 c_0_0_0 rfl (by decide) wf_X0_37 rfl <|
 T_iald (n := 24) dX0_undoLatest_44 c_0_0_3 (by decide) (by decide) (by decide) rfl (h.2 z4).2.2.1 <|
 T_callSi (k' := kX0_change) (vs := [pR (6, j1, 0), pI ((mset M 0 0 0 3 ((M 0 0 0 3) - 1)) 0 0 1 (Int32.toNatClampNeg ((mset M 0 0 0 3 ((M 0 0 0 3) - 1)) 0 0 0 3))), pI ((mset M 0 0 0 3 ((M 0 0 0 3) - 1)) 0 0 2 (Int32.toNatClampNeg ((mset M 0 0 0 3 ((M 0 0 0 3) - 1)) 0 0 0 3))), pI ((mset M 0 0 0 3 ((M 0 0 0 3) - 1)) 0 0 3 (Int32.toNatClampNeg ((mset M 0 0 0 3 ((M 0 0 0 3) - 1)) 0 0 0 3)))]) (st := []) dX0_undoLatest_45 wm_X0_44 okX0_change rfl rfl rfl (Nat.le_of_ble_eq_true rfl) rfl (Nat.le_of_ble_eq_true rfl) (TT.mono (h.2 z4).2.2.2 (rI_mono (fun v2 M1 h3 =>
 T_popI dX0_undoLatest_48 <|
 T_return dX0_undoLatest_49 rfl h3))))
