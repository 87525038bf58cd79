theorem rX1_kindOf_0 {X : Nat × (Nat → Int32)} {j1 : Nat} (hj1 : j1 < 5) {a2 : Int32} {M : Mem} {Q : Option PV → Mem → Prop} (h : TT X kX6_hasStep 0 [some (pR (6, j1, 0)), some (pI a2)] [] M (rI fun v2 M1 => (¬ v2 = 0 → vp_in a2 18 ∧ (((M1 6 j1 5 (Int32.toNatClampNeg a2)) = 0 → vp_in a2 18 ∧ ((¬ (M1 6 j1 4 (Int32.toNatClampNeg a2)) = 0 → vp_in a2 18 ∧ (((M1 6 j1 4 (Int32.toNatClampNeg a2)) < 10 → TT X kX6_hasStep 0 [some (pR (6, j1, 0)), some (pI (a2 + 1))] [] M1 (rI fun v4 M3 => (v4 = 0 → Q (some (pI 1)) M3) ∧ (¬ v4 = 0 → vp_in (a2 + 1) 18 ∧ (vp_in a2 18 ∧ ((¬ (M3 6 j1 3 (Int32.toNatClampNeg (a2 + 1))) = (M3 6 j1 3 (Int32.toNatClampNeg a2)) → Q (some (pI 1)) M3) ∧ ((M3 6 j1 3 (Int32.toNatClampNeg (a2 + 1))) = (M3 6 j1 3 (Int32.toNatClampNeg a2)) → Q (some (pI 3)) M3)))))) ∧ (¬ (M1 6 j1 4 (Int32.toNatClampNeg a2)) < 10 → Q (some (pI 2)) M1))) ∧ ((M1 6 j1 4 (Int32.toNatClampNeg a2)) = 0 → Q (some (pI 4)) M1))) ∧ (¬ (M1 6 j1 5 (Int32.toNatClampNeg a2)) = 0 → Q (some (pI 5)) M1))) ∧ (v2 = 0 → Q (some (pI 0)) M1))) : TT X kX1_kindOf 0 [some (pR (6, j1, 0)), some (pI a2), none] [] M Q :=
 T_aload_n dX1_kindOf_0 rfl <|
 T_iload_n dX1_kindOf_1 rfl <|
 T_callVi (k' := kX6_hasStep) (vs := [pI a2]) (st := []) dX1_kindOf_2 wm_X1_15 okX6_hasStep rfl (cc6_0 hj1) rfl rfl rfl (Nat.le_of_ble_eq_true rfl) rfl (Nat.le_of_ble_eq_true rfl) (TT.mono h (rI_mono (fun v2 M1 h12 =>
 T_if_ne (tgt := 10) dX1_kindOf_5 (by decide) (fun z11 =>
 T_aload_n dX1_kindOf_10 rfl <|
 T_getR (C := RX6) (T := TX6) (N := 9) (f := 4) dX1_kindOf_11 (cc6_0 hj1) rfl (by decide) wf_X1_21 rfl <|
 T_iload_n dX1_kindOf_14 rfl <|
 T_iald (n := 18) dX1_kindOf_15 (cc6_5 hj1) (by decide) (by decide) (by decide) rfl (h12.1 z11).1 <|
 T_if_eq (tgt := 21) dX1_kindOf_16 (by decide) (fun z10 =>
 T_aload_n dX1_kindOf_21 rfl <|
 T_getR (C := RX6) (T := TX6) (N := 9) (f := 3) dX1_kindOf_22 (cc6_0 hj1) rfl (by decide) wf_X1_24 rfl <|
 T_iload_n dX1_kindOf_25 rfl <|
 T_iald (n := 18) dX1_kindOf_26 (cc6_4 hj1) (by decide) (by decide) (by decide) rfl ((h12.1 z11).2.1 z10).1 <|
 T_if_ne (tgt := 32) dX1_kindOf_27 (by decide) (fun z9 =>
 T_aload_n dX1_kindOf_32 rfl <|
 T_getR (C := RX6) (T := TX6) (N := 9) (f := 3) dX1_kindOf_33 (cc6_0 hj1) rfl (by decide) wf_X1_24 rfl <|
 T_iload_n dX1_kindOf_36 rfl <|
 T_iald (n := 18) dX1_kindOf_37 (cc6_4 hj1) (by decide) (by decide) (by decide) rfl (((h12.1 z11).2.1 z10).2.1 z9).1 <|
 T_bipush dX1_kindOf_38 bp_10 <|
 T_icmp_lt (tgt := 45) dX1_kindOf_40 (by decide) (fun z8 =>
 T_aload_n dX1_kindOf_45 rfl <|
 T_iload_n dX1_kindOf_46 rfl <|
 T_iconst dX1_kindOf_47 ic_1 <|
 T_iadd dX1_kindOf_48 <|
 T_callVi (k' := kX6_hasStep) (vs := [pI (a2 + 1)]) (st := []) dX1_kindOf_49 wm_X1_15 okX6_hasStep rfl (cc6_0 hj1) rfl rfl rfl (Nat.le_of_ble_eq_true rfl) rfl (Nat.le_of_ble_eq_true rfl) (TT.mono ((((h12.1 z11).2.1 z10).2.1 z9).2.1 z8) (rI_mono (fun v4 M3 h7 =>
 T_if_eq (tgt := 76) dX1_kindOf_52 (by decide) (fun z6 =>
 T_iconst dX1_kindOf_76 ic_0 <|
 T_istore_n dX1_kindOf_77 (by decide) rfl rfl <|
 T_iload_n dX1_kindOf_78 rfl <|
 T_if_eq (tgt := 86) dX1_kindOf_79 (by decide) (fun _ =>
 T_iconst dX1_kindOf_86 ic_1 <|
 T_ireturn (ty := .int) dX1_kindOf_87 rfl rfl (h7.1 z6)) (fun z => absurd z (by decide))) (fun z6 =>
 T_aload_n dX1_kindOf_55 rfl <|
 T_getR (C := RX6) (T := TX6) (N := 9) (f := 2) dX1_kindOf_56 (cc6_0 hj1) rfl (by decide) wf_X1_27 rfl <|
 T_iload_n dX1_kindOf_59 rfl <|
 T_iconst dX1_kindOf_60 ic_1 <|
 T_iadd dX1_kindOf_61 <|
 T_iald (n := 18) dX1_kindOf_62 (cc6_3 hj1) (by decide) (by decide) (by decide) rfl (h7.2 z6).1 <|
 T_aload_n dX1_kindOf_63 rfl <|
 T_getR (C := RX6) (T := TX6) (N := 9) (f := 2) dX1_kindOf_64 (cc6_0 hj1) rfl (by decide) wf_X1_27 rfl <|
 T_iload_n dX1_kindOf_67 rfl <|
 T_iald (n := 18) dX1_kindOf_68 (cc6_3 hj1) (by decide) (by decide) (by decide) rfl (h7.2 z6).2.1 <|
 T_icmp_ne (tgt := 76) dX1_kindOf_69 (by decide) (fun z5 =>
 T_iconst dX1_kindOf_76 ic_0 <|
 T_istore_n dX1_kindOf_77 (by decide) rfl rfl <|
 T_iload_n dX1_kindOf_78 rfl <|
 T_if_eq (tgt := 86) dX1_kindOf_79 (by decide) (fun _ =>
 T_iconst dX1_kindOf_86 ic_1 <|
 T_ireturn (ty := .int) dX1_kindOf_87 rfl rfl ((h7.2 z6).2.2.1 z5)) (fun z => absurd z (by decide))) (fun z5 =>
 T_iconst dX1_kindOf_72 ic_1 <|
 T_goto (tgt := 77) dX1_kindOf_73 (by decide) <|
 T_istore_n dX1_kindOf_77 (by decide) rfl rfl <|
 T_iload_n dX1_kindOf_78 rfl <|
 T_if_eq (tgt := 86) dX1_kindOf_79 (by decide) (fun z => absurd z (by decide)) (fun _ =>
 T_iconst dX1_kindOf_82 ic_3 <|
 T_goto (tgt := 87) dX1_kindOf_83 (by decide) <|
 T_ireturn (ty := .int) dX1_kindOf_87 rfl rfl ((h7.2 z6).2.2.2 z5)))))))) (fun z8 =>
 T_iconst dX1_kindOf_43 ic_2 <|
 T_ireturn (ty := .int) dX1_kindOf_44 rfl rfl ((((h12.1 z11).2.1 z10).2.1 z9).2.2 z8))) (fun z9 =>
 T_iconst dX1_kindOf_30 ic_4 <|
 T_ireturn (ty := .int) dX1_kindOf_31 rfl rfl (((h12.1 z11).2.1 z10).2.2 z9))) (fun z10 =>
 T_iconst dX1_kindOf_19 ic_5 <|
 T_ireturn (ty := .int) dX1_kindOf_20 rfl rfl ((h12.1 z11).2.2 z10))) (fun z11 =>
 T_iconst dX1_kindOf_8 ic_0 <|
 T_ireturn (ty := .int) dX1_kindOf_9 rfl rfl (h12.2 z11)))))
theorem rX1_isOf_0 {X : Nat × (Nat → Int32)} {a1 : Int32} {a2 : Int32} {M : Mem} {Q : Option PV → Mem → Prop} (h : (a2 = 0 → Q (some (pI 1)) M) ∧ (¬ a2 = 0 → (¬ a2 = a1 → (¬ a2 = 1 → (¬ a2 = 4 → Q (some (pI 0)) M) ∧ (a2 = 4 → (¬ a1 = 5 → Q (some (pI 0)) M) ∧ (a1 = 5 → Q (some (pI 1)) M))) ∧ (a2 = 1 → (a1 = 2 → Q (some (pI 1)) M) ∧ (¬ a1 = 2 → (¬ a1 = 3 → Q (some (pI 0)) M) ∧ (a1 = 3 → Q (some (pI 1)) M)))) ∧ (a2 = a1 → Q (some (pI 1)) M))) : TT X kX1_isOf 0 [some (pI a1), some (pI a2)] [] M Q :=
 T_iload_n dX1_isOf_0 rfl <|
 T_if_eq (tgt := 9) dX1_isOf_1 (by decide) (fun z7 =>
 T_iconst dX1_isOf_9 ic_1 <|
 T_ireturn (ty := .boolean) dX1_isOf_10 rfl rfl (h.1 z7)) (fun z7 =>
 T_iload_n dX1_isOf_4 rfl <|
 T_iload_n dX1_isOf_5 rfl <|
 T_icmp_ne (tgt := 11) dX1_isOf_6 (by decide) (fun z6 =>
 T_iload_n dX1_isOf_11 rfl <|
 T_iconst dX1_isOf_12 ic_1 <|
 T_icmp_ne (tgt := 32) dX1_isOf_13 (by decide) (fun z5 =>
 T_iload_n dX1_isOf_32 rfl <|
 T_iconst dX1_isOf_33 ic_4 <|
 T_icmp_ne (tgt := 46) dX1_isOf_34 (by decide) (fun z2 =>
 T_iconst dX1_isOf_46 ic_0 <|
 T_ireturn (ty := .boolean) dX1_isOf_47 rfl rfl ((((h.2 z7).1 z6).1 z5).1 z2)) (fun z2 =>
 T_iload_n dX1_isOf_37 rfl <|
 T_iconst dX1_isOf_38 ic_5 <|
 T_icmp_ne (tgt := 46) dX1_isOf_39 (by decide) (fun z1 =>
 T_iconst dX1_isOf_46 ic_0 <|
 T_ireturn (ty := .boolean) dX1_isOf_47 rfl rfl (((((h.2 z7).1 z6).1 z5).2 z2).1 z1)) (fun z1 =>
 T_iconst dX1_isOf_42 ic_1 <|
 T_goto (tgt := 47) dX1_isOf_43 (by decide) <|
 T_ireturn (ty := .boolean) dX1_isOf_47 rfl rfl (((((h.2 z7).1 z6).1 z5).2 z2).2 z1)))) (fun z5 =>
 T_iload_n dX1_isOf_16 rfl <|
 T_iconst dX1_isOf_17 ic_2 <|
 T_icmp_eq (tgt := 26) dX1_isOf_18 (by decide) (fun z4 =>
 T_iconst dX1_isOf_26 ic_1 <|
 T_goto (tgt := 31) dX1_isOf_27 (by decide) <|
 T_ireturn (ty := .boolean) dX1_isOf_31 rfl rfl ((((h.2 z7).1 z6).2 z5).1 z4)) (fun z4 =>
 T_iload_n dX1_isOf_21 rfl <|
 T_iconst dX1_isOf_22 ic_3 <|
 T_icmp_ne (tgt := 30) dX1_isOf_23 (by decide) (fun z3 =>
 T_iconst dX1_isOf_30 ic_0 <|
 T_ireturn (ty := .boolean) dX1_isOf_31 rfl rfl (((((h.2 z7).1 z6).2 z5).2 z4).1 z3)) (fun z3 =>
 T_iconst dX1_isOf_26 ic_1 <|
 T_goto (tgt := 31) dX1_isOf_27 (by decide) <|
 T_ireturn (ty := .boolean) dX1_isOf_31 rfl rfl (((((h.2 z7).1 z6).2 z5).2 z4).2 z3))))) (fun z6 =>
 T_iconst dX1_isOf_9 ic_1 <|
 T_ireturn (ty := .boolean) dX1_isOf_10 rfl rfl ((h.2 z7).2 z6)))
theorem rX1_turnTo_0 {X : Nat × (Nat → Int32)} {j1 : Nat} (hj1 : j1 < 5) {a2 : Int32} {M : Mem} {Q : Option PV → Mem → Prop} (h : TT X kX6_hasStep 0 [some (pR (6, j1, 0)), some (pI a2)] [] M (rI fun v2 M1 => (v2 = 0 → Q none M1) ∧ (¬ v2 = 0 → TT X kX1_kindOf 0 [some (pR (6, j1, 0)), some (pI a2), none] [] (mset M1 1 0 0 1 0) (rI fun v4 M3 => vp_in a2 18 ∧ (vp_in a2 18 ∧ (Q none (mset (mset (mset (mset M3 1 0 0 2 v4) 1 0 0 3 a2) 1 0 0 4 ((mset (mset M3 1 0 0 2 v4) 1 0 0 3 a2) 6 j1 3 (Int32.toNatClampNeg a2))) 1 0 0 5 ((mset (mset (mset M3 1 0 0 2 v4) 1 0 0 3 a2) 1 0 0 4 ((mset (mset M3 1 0 0 2 v4) 1 0 0 3 a2) 6 j1 3 (Int32.toNatClampNeg a2))) 6 j1 4 (Int32.toNatClampNeg a2))))))))) : TT X kX1_turnTo 0 [some (pR (1, 0, 0)), some (pR (6, j1, 0)), some (pI a2)] [] M Q :=
 T_aload_n dX1_turnTo_0 rfl <|
 T_iload_n dX1_turnTo_1 rfl <|
 T_callVi (k' := kX6_hasStep) (vs := [pI a2]) (st := []) dX1_turnTo_2 wm_X1_15 okX6_hasStep rfl (cc6_0 hj1) rfl rfl rfl (Nat.le_of_ble_eq_true rfl) rfl (Nat.le_of_ble_eq_true rfl) (TT.mono h (rI_mono (fun v2 M1 h7 =>
 T_if_eq (tgt := 47) dX1_turnTo_5 (by decide) (fun z6 =>
 T_return dX1_turnTo_47 rfl (h7.1 z6)) (fun z6 =>
 T_aload_n dX1_turnTo_8 rfl <|
 T_iconst dX1_turnTo_9 ic_0 <|
 T_putI (C := RX1) (T := TX1) (N := 6) (f := 1) dX1_turnTo_10 c_1_0_0 rfl (by decide) wf_X1_30 rfl rfl rfl <|
 T_aload_n dX1_turnTo_13 rfl <|
 T_aload_n dX1_turnTo_14 rfl <|
 T_iload_n dX1_turnTo_15 rfl <|
 T_callSi (k' := kX1_kindOf) (vs := [pR (6, j1, 0), pI a2]) (st := [pR (1, 0, 0)]) dX1_turnTo_16 wm_X1_34 okX1_kindOf rfl rfl rfl (Nat.le_of_ble_eq_true rfl) rfl (Nat.le_of_ble_eq_true rfl) (TT.mono (h7.2 z6) (rI_mono (fun v4 M3 h5 =>
 T_putI (C := RX1) (T := TX1) (N := 6) (f := 2) dX1_turnTo_19 c_1_0_0 rfl (by decide) wf_X1_38 rfl rfl rfl <|
 T_aload_n dX1_turnTo_22 rfl <|
 T_iload_n dX1_turnTo_23 rfl <|
 T_putI (C := RX1) (T := TX1) (N := 6) (f := 3) dX1_turnTo_24 c_1_0_0 rfl (by decide) wf_X1_41 rfl rfl rfl <|
 T_aload_n dX1_turnTo_27 rfl <|
 T_aload_n dX1_turnTo_28 rfl <|
 T_getR (C := RX6) (T := TX6) (N := 9) (f := 2) dX1_turnTo_29 (cc6_0 hj1) rfl (by decide) wf_X1_27 rfl <|
 T_iload_n dX1_turnTo_32 rfl <|
 T_iald (n := 18) dX1_turnTo_33 (cc6_3 hj1) (by decide) (by decide) (by decide) rfl h5.1 <|
 T_putI (C := RX1) (T := TX1) (N := 6) (f := 4) dX1_turnTo_34 c_1_0_0 rfl (by decide) wf_X1_44 rfl rfl rfl <|
 T_aload_n dX1_turnTo_37 rfl <|
 T_aload_n dX1_turnTo_38 rfl <|
 T_getR (C := RX6) (T := TX6) (N := 9) (f := 3) dX1_turnTo_39 (cc6_0 hj1) rfl (by decide) wf_X1_24 rfl <|
 T_iload_n dX1_turnTo_42 rfl <|
 T_iald (n := 18) dX1_turnTo_43 (cc6_4 hj1) (by decide) (by decide) (by decide) rfl h5.2.1 <|
 T_putI (C := RX1) (T := TX1) (N := 6) (f := 5) dX1_turnTo_44 c_1_0_0 rfl (by decide) wf_X1_46 rfl rfl rfl <|
 T_return dX1_turnTo_47 rfl h5.2.2)))))))
theorem rX1_begun_0 {X : Nat × (Nat → Int32)} {a1 : Int32} {M : Mem} {Q : Option PV → Mem → Prop} (h : (a1 < 0 → Q (some (pI (-1000000))) M) ∧ (¬ a1 < 0 → ((M 1 0 0 1) ≤ a1 → Q (some (pI (-1000000))) M) ∧ (¬ (M 1 0 0 1) ≤ a1 → vp_in a1 16 ∧ (Q (some (pI (M 1 0 1 (Int32.toNatClampNeg a1)))) M)))) : TT X kX1_begun 0 [some (pR (1, 0, 0)), some (pI a1)] [] M Q :=
 T_iload_n dX1_begun_0 rfl <|
 T_if_lt (tgt := 21) dX1_begun_1 (by decide) (fun z2 =>
 T_ldc dX1_begun_21 wc_X1_48 <|
 T_ireturn (ty := .int) dX1_begun_23 rfl rfl (h.1 z2)) (fun z2 =>
 T_iload_n dX1_begun_4 rfl <|
 T_aload_n dX1_begun_5 rfl <|
 T_getI (C := RX1) (T := TX1) (N := 6) (f := 1) dX1_begun_6 c_1_0_0 rfl (by decide) wf_X1_30 rfl <|
 T_icmp_ge (tgt := 21) dX1_begun_9 (by decide) (fun z1 =>
 T_ldc dX1_begun_21 wc_X1_48 <|
 T_ireturn (ty := .int) dX1_begun_23 rfl rfl ((h.2 z2).1 z1)) (fun z1 =>
 T_aload_n dX1_begun_12 rfl <|
 T_getR (C := RX1) (T := TX1) (N := 6) (f := 0) dX1_begun_13 c_1_0_0 rfl (by decide) wf_X1_11 rfl <|
 T_iload_n dX1_begun_16 rfl <|
 T_iald (n := 16) dX1_begun_17 c_1_0_1 (by decide) (by decide) (by decide) rfl ((h.2 z2).2 z1).1 <|
 T_goto (tgt := 23) dX1_begun_18 (by decide) <|
 T_ireturn (ty := .int) dX1_begun_23 rfl rfl ((h.2 z2).2 z1).2))
theorem rX1_size_0 {X : Nat × (Nat → Int32)}  {M : Mem} {Q : Option PV → Mem → Prop} (h : ((M 1 0 0 2) = 1 → TT X kX1_body11 0 [some (pR (1, 0, 0)), none] [] M (rI fun v2 M1 => Q (some (pI v2)) M1)) ∧ ((M 1 0 0 2) = 2 → TT X kX1_body12 0 [some (pR (1, 0, 0))] [] M (rI fun v5 M4 => Q (some (pI v5)) M4)) ∧ ((M 1 0 0 2) = 3 → TT X kX1_body11 0 [some (pR (1, 0, 0)), none] [] M (rI fun v8 M7 => Q (some (pI v8)) M7)) ∧ ((M 1 0 0 2) = 4 → TT X kX1_body13 0 [some (pR (1, 0, 0))] [] M (rI fun v11 M10 => Q (some (pI v11)) M10)) ∧ ((M 1 0 0 2) = 5 → TT X kX1_body14 0 [some (pR (1, 0, 0))] [] M (rI fun v14 M13 => Q (some (pI v14)) M13)) ∧ ((((M 1 0 0 2)).toInt < 1 ∨ 5 < ((M 1 0 0 2)).toInt) → TT X kX1_body10 0 [some (pR (1, 0, 0))] [] M (rI fun v17 M16 => Q (some (pI v17)) M16))) : TT X kX1_size 0 [some (pR (1, 0, 0))] [] M Q :=
 T_aload_n dX1_size_0 rfl <|
 T_getI (C := RX1) (T := TX1) (N := 6) (f := 2) dX1_size_1 c_1_0_0 rfl (by decide) wf_X1_38 rfl <|
 (Decidable.byCases (fun z19 : (M 1 0 0 2) = 1 => T_table (tgt := 40) dX1_size_4 (by rw [z19]; decide +kernel) (by decide) <|
 T_aload_n dX1_size_40 rfl <|
 T_callVi (k' := kX1_body11) (vs := []) (st := []) dX1_size_41 wm_X1_49 okX1_body11 rfl c_1_0_0 rfl rfl rfl (Nat.le_of_ble_eq_true rfl) rfl (Nat.le_of_ble_eq_true rfl) (TT.mono (h.1 z19) (rI_mono (fun v2 M1 h3 =>
 T_ireturn (ty := .int) dX1_size_44 rfl rfl h3)))) (fun nz19 : ¬ (M 1 0 0 2) = 1 =>
 (Decidable.byCases (fun z20 : (M 1 0 0 2) = 2 => T_table (tgt := 45) dX1_size_4 (by rw [z20]; decide +kernel) (by decide) <|
 T_aload_n dX1_size_45 rfl <|
 T_callVi (k' := kX1_body12) (vs := []) (st := []) dX1_size_46 wm_X1_53 okX1_body12 rfl c_1_0_0 rfl rfl rfl (Nat.le_of_ble_eq_true rfl) rfl (Nat.le_of_ble_eq_true rfl) (TT.mono (h.2.1 z20) (rI_mono (fun v5 M4 h6 =>
 T_ireturn (ty := .int) dX1_size_49 rfl rfl h6)))) (fun nz20 : ¬ (M 1 0 0 2) = 2 =>
 (Decidable.byCases (fun z21 : (M 1 0 0 2) = 3 => T_table (tgt := 40) dX1_size_4 (by rw [z21]; decide +kernel) (by decide) <|
 T_aload_n dX1_size_40 rfl <|
 T_callVi (k' := kX1_body11) (vs := []) (st := []) dX1_size_41 wm_X1_49 okX1_body11 rfl c_1_0_0 rfl rfl rfl (Nat.le_of_ble_eq_true rfl) rfl (Nat.le_of_ble_eq_true rfl) (TT.mono (h.2.2.1 z21) (rI_mono (fun v8 M7 h9 =>
 T_ireturn (ty := .int) dX1_size_44 rfl rfl h9)))) (fun nz21 : ¬ (M 1 0 0 2) = 3 =>
 (Decidable.byCases (fun z22 : (M 1 0 0 2) = 4 => T_table (tgt := 50) dX1_size_4 (by rw [z22]; decide +kernel) (by decide) <|
 T_aload_n dX1_size_50 rfl <|
 T_callVi (k' := kX1_body13) (vs := []) (st := []) dX1_size_51 wm_X1_56 okX1_body13 rfl c_1_0_0 rfl rfl rfl (Nat.le_of_ble_eq_true rfl) rfl (Nat.le_of_ble_eq_true rfl) (TT.mono (h.2.2.2.1 z22) (rI_mono (fun v11 M10 h12 =>
 T_ireturn (ty := .int) dX1_size_54 rfl rfl h12)))) (fun nz22 : ¬ (M 1 0 0 2) = 4 =>
 (Decidable.byCases (fun z23 : (M 1 0 0 2) = 5 => T_table (tgt := 55) dX1_size_4 (by rw [z23]; decide +kernel) (by decide) <|
 T_aload_n dX1_size_55 rfl <|
 T_callVi (k' := kX1_body14) (vs := []) (st := []) dX1_size_56 wm_X1_59 okX1_body14 rfl c_1_0_0 rfl rfl rfl (Nat.le_of_ble_eq_true rfl) rfl (Nat.le_of_ble_eq_true rfl) (TT.mono (h.2.2.2.2.1 z23) (rI_mono (fun v14 M13 h15 =>
 T_ireturn (ty := .int) dX1_size_59 rfl rfl h15)))) (fun nz23 : ¬ (M 1 0 0 2) = 5 =>
 (have zd23 := swo_1_5 nz19 nz20 nz21 nz22 nz23
 T_table (tgt := 60) dX1_size_4 (by rw [if_pos zd23]; decide) (by decide) <|
 T_aload_n dX1_size_60 rfl <|
 T_callVi (k' := kX1_body10) (vs := []) (st := []) dX1_size_61 wm_X1_62 okX1_body10 rfl c_1_0_0 rfl rfl rfl (Nat.le_of_ble_eq_true rfl) rfl (Nat.le_of_ble_eq_true rfl) (TT.mono (h.2.2.2.2.2 zd23) (rI_mono (fun v17 M16 h18 =>
 T_ireturn (ty := .int) dX1_size_64 rfl rfl h18))))))))))))))
theorem rX1_mark_0 {X : Nat × (Nat → Int32)}  {M : Mem} {Q : Option PV → Mem → Prop} (h : ((M 1 0 0 2) = 1 → TT X kX1_body21 0 [some (pR (1, 0, 0))] [] M (rI fun v2 M1 => Q (some (pI v2)) M1)) ∧ ((M 1 0 0 2) = 2 → TT X kX1_body24 0 [some (pR (1, 0, 0))] [] M (rI fun v5 M4 => Q (some (pI v5)) M4)) ∧ ((M 1 0 0 2) = 3 → TT X kX1_body22 0 [some (pR (1, 0, 0))] [] M (rI fun v8 M7 => Q (some (pI v8)) M7)) ∧ ((M 1 0 0 2) = 4 → TT X kX1_body23 0 [some (pR (1, 0, 0)), none] [] M (rI fun v11 M10 => Q (some (pI v11)) M10)) ∧ ((M 1 0 0 2) = 5 → TT X kX1_body23 0 [some (pR (1, 0, 0)), none] [] M (rI fun v14 M13 => Q (some (pI v14)) M13)) ∧ ((((M 1 0 0 2)).toInt < 1 ∨ 5 < ((M 1 0 0 2)).toInt) → TT X kX1_body20 0 [some (pR (1, 0, 0))] [] M (rI fun v17 M16 => Q (some (pI v17)) M16))) : TT X kX1_mark 0 [some (pR (1, 0, 0))] [] M Q :=
 T_aload_n dX1_mark_0 rfl <|
 T_getI (C := RX1) (T := TX1) (N := 6) (f := 2) dX1_mark_1 c_1_0_0 rfl (by decide) wf_X1_38 rfl <|
 (Decidable.byCases (fun z19 : (M 1 0 0 2) = 1 => T_table (tgt := 40) dX1_mark_4 (by rw [z19]; decide +kernel) (by decide) <|
 T_aload_n dX1_mark_40 rfl <|
 T_callVi (k' := kX1_body21) (vs := []) (st := []) dX1_mark_41 wm_X1_65 okX1_body21 rfl c_1_0_0 rfl rfl rfl (Nat.le_of_ble_eq_true rfl) rfl (Nat.le_of_ble_eq_true rfl) (TT.mono (h.1 z19) (rI_mono (fun v2 M1 h3 =>
 T_ireturn (ty := .int) dX1_mark_44 rfl rfl h3)))) (fun nz19 : ¬ (M 1 0 0 2) = 1 =>
 (Decidable.byCases (fun z20 : (M 1 0 0 2) = 2 => T_table (tgt := 55) dX1_mark_4 (by rw [z20]; decide +kernel) (by decide) <|
 T_aload_n dX1_mark_55 rfl <|
 T_callVi (k' := kX1_body24) (vs := []) (st := []) dX1_mark_56 wm_X1_74 okX1_body24 rfl c_1_0_0 rfl rfl rfl (Nat.le_of_ble_eq_true rfl) rfl (Nat.le_of_ble_eq_true rfl) (TT.mono (h.2.1 z20) (rI_mono (fun v5 M4 h6 =>
 T_ireturn (ty := .int) dX1_mark_59 rfl rfl h6)))) (fun nz20 : ¬ (M 1 0 0 2) = 2 =>
 (Decidable.byCases (fun z21 : (M 1 0 0 2) = 3 => T_table (tgt := 45) dX1_mark_4 (by rw [z21]; decide +kernel) (by decide) <|
 T_aload_n dX1_mark_45 rfl <|
 T_callVi (k' := kX1_body22) (vs := []) (st := []) dX1_mark_46 wm_X1_68 okX1_body22 rfl c_1_0_0 rfl rfl rfl (Nat.le_of_ble_eq_true rfl) rfl (Nat.le_of_ble_eq_true rfl) (TT.mono (h.2.2.1 z21) (rI_mono (fun v8 M7 h9 =>
 T_ireturn (ty := .int) dX1_mark_49 rfl rfl h9)))) (fun nz21 : ¬ (M 1 0 0 2) = 3 =>
 (Decidable.byCases (fun z22 : (M 1 0 0 2) = 4 => T_table (tgt := 50) dX1_mark_4 (by rw [z22]; decide +kernel) (by decide) <|
 T_aload_n dX1_mark_50 rfl <|
 T_callVi (k' := kX1_body23) (vs := []) (st := []) dX1_mark_51 wm_X1_71 okX1_body23 rfl c_1_0_0 rfl rfl rfl (Nat.le_of_ble_eq_true rfl) rfl (Nat.le_of_ble_eq_true rfl) (TT.mono (h.2.2.2.1 z22) (rI_mono (fun v11 M10 h12 =>
 T_ireturn (ty := .int) dX1_mark_54 rfl rfl h12)))) (fun nz22 : ¬ (M 1 0 0 2) = 4 =>
 (Decidable.byCases (fun z23 : (M 1 0 0 2) = 5 => T_table (tgt := 50) dX1_mark_4 (by rw [z23]; decide +kernel) (by decide) <|
 T_aload_n dX1_mark_50 rfl <|
 T_callVi (k' := kX1_body23) (vs := []) (st := []) dX1_mark_51 wm_X1_71 okX1_body23 rfl c_1_0_0 rfl rfl rfl (Nat.le_of_ble_eq_true rfl) rfl (Nat.le_of_ble_eq_true rfl) (TT.mono (h.2.2.2.2.1 z23) (rI_mono (fun v14 M13 h15 =>
 T_ireturn (ty := .int) dX1_mark_54 rfl rfl h15)))) (fun nz23 : ¬ (M 1 0 0 2) = 5 =>
 (have zd23 := swo_1_5 nz19 nz20 nz21 nz22 nz23
 T_table (tgt := 60) dX1_mark_4 (by rw [if_pos zd23]; decide) (by decide) <|
 T_aload_n dX1_mark_60 rfl <|
 T_callVi (k' := kX1_body20) (vs := []) (st := []) dX1_mark_61 wm_X1_77 okX1_body20 rfl c_1_0_0 rfl rfl rfl (Nat.le_of_ble_eq_true rfl) rfl (Nat.le_of_ble_eq_true rfl) (TT.mono (h.2.2.2.2.2 zd23) (rI_mono (fun v17 M16 h18 =>
 T_ireturn (ty := .int) dX1_mark_64 rfl rfl h18))))))))))))))
theorem rX1_begin_0 {X : Nat × (Nat → Int32)} {a1 : Int32} {M : Mem} {Q : Option PV → Mem → Prop} (h : (16 ≤ (M 1 0 0 1) → Q none M) ∧ (¬ 16 ≤ (M 1 0 0 1) → vp_in (M 1 0 0 1) 16 ∧ (Q none (mset (mset M 1 0 1 (Int32.toNatClampNeg (M 1 0 0 1)) a1) 1 0 0 1 (((mset M 1 0 1 (Int32.toNatClampNeg (M 1 0 0 1)) a1) 1 0 0 1) + 1))))) : TT X kX1_begin 0 [some (pR (1, 0, 0)), some (pI a1)] [] M Q :=
 T_aload_n dX1_begin_0 rfl <|
 T_getI (C := RX1) (T := TX1) (N := 6) (f := 1) dX1_begin_1 c_1_0_0 rfl (by decide) wf_X1_30 rfl <|
 T_bipush dX1_begin_4 bp_16 <|
 T_icmp_ge (tgt := 29) dX1_begin_6 (by decide) (fun z1 =>
 T_return dX1_begin_29 rfl (h.1 z1)) (fun z1 =>
 T_aload_n dX1_begin_9 rfl <|
 T_getR (C := RX1) (T := TX1) (N := 6) (f := 0) dX1_begin_10 c_1_0_0 rfl (by decide) wf_X1_11 rfl <|
 T_aload_n dX1_begin_13 rfl <|
 T_getI (C := RX1) (T := TX1) (N := 6) (f := 1) dX1_begin_14 c_1_0_0 rfl (by decide) wf_X1_30 rfl <|
 T_iload_n dX1_begin_17 rfl <|
 T_iast (n := 16) dX1_begin_18 c_1_0_1 (by decide) (by decide) (by decide) rfl (h.2 z1).1 <|
 T_aload_n dX1_begin_19 rfl <|
 T_dupR dX1_begin_20 <|
 T_getI (C := RX1) (T := TX1) (N := 6) (f := 1) dX1_begin_21 c_1_0_0 rfl (by decide) wf_X1_30 rfl <|
 T_iconst dX1_begin_24 ic_1 <|
 T_iadd dX1_begin_25 <|
 T_putI (C := RX1) (T := TX1) (N := 6) (f := 1) dX1_begin_26 c_1_0_0 rfl (by decide) wf_X1_30 rfl rfl rfl <|
 T_return dX1_begin_29 rfl (h.2 z1).2)
theorem rX1_body10_0 {X : Nat × (Nat → Int32)}  {M : Mem} {Q : Option PV → Mem → Prop} (h : TT X kX1_begin 0 [some (pR (1, 0, 0)), some (pI 10)] [] M (rV fun M1 => Q (some (pI (M1 1 0 0 5))) M1)) : TT X kX1_body10 0 [some (pR (1, 0, 0))] [] M Q :=
 T_aload_n dX1_body10_0 rfl <|
 T_bipush dX1_body10_1 bp_10 <|
 T_callVv (k' := kX1_begin) (vs := [pI 10]) (st := []) dX1_body10_3 wm_X1_80 okX1_begin rfl c_1_0_0 rfl rfl rfl (Nat.le_of_ble_eq_true rfl) rfl (Nat.le_of_ble_eq_true rfl) (TT.mono h (rV_mono (fun M1 h3 =>
 T_aload_n dX1_body10_6 rfl <|
 T_getI (C := RX1) (T := TX1) (N := 6) (f := 5) dX1_body10_7 c_1_0_0 rfl (by decide) wf_X1_46 rfl <|
 T_ireturn (ty := .int) dX1_body10_10 rfl rfl h3)))
theorem rX1_body11_0 {X : Nat × (Nat → Int32)}  {M : Mem} {Q : Option PV → Mem → Prop} (h : TT X kX1_begin 0 [some (pR (1, 0, 0)), some (pI 11)] [] M (rV fun M1 => TT X kX1_body10 0 [some (pR (1, 0, 0))] [] M1 (rI fun v4 M3 => (¬ (M3 1 0 0 2) = 2 → (¬ (M3 1 0 0 2) = 3 → TT X kX1_body21 0 [some (pR (1, 0, 0))] [] M3 (rI fun v6 M5 => Q (some (pI (v4 + v6))) M5)) ∧ ((M3 1 0 0 2) = 3 → TT X kX1_body22 0 [some (pR (1, 0, 0))] [] M3 (rI fun v9 M8 => Q (some (pI (v4 + v9))) M8))) ∧ ((M3 1 0 0 2) = 2 → TT X kX1_body24 0 [some (pR (1, 0, 0))] [] M3 (rI fun v13 M12 => Q (some (pI (v4 + v13))) M12))))) : TT X kX1_body11 0 [some (pR (1, 0, 0)), none] [] M Q :=
 T_aload_n dX1_body11_0 rfl <|
 T_bipush dX1_body11_1 bp_11 <|
 T_callVv (k' := kX1_begin) (vs := [pI 11]) (st := []) dX1_body11_3 wm_X1_80 okX1_begin rfl c_1_0_0 rfl rfl rfl (Nat.le_of_ble_eq_true rfl) rfl (Nat.le_of_ble_eq_true rfl) (TT.mono h (rV_mono (fun M1 h17 =>
 T_aload_n dX1_body11_6 rfl <|
 T_callVi (k' := kX1_body10) (vs := []) (st := []) dX1_body11_7 wm_X1_62 okX1_body10 rfl c_1_0_0 rfl rfl rfl (Nat.le_of_ble_eq_true rfl) rfl (Nat.le_of_ble_eq_true rfl) (TT.mono h17 (rI_mono (fun v4 M3 h16 =>
 T_istore_n dX1_body11_10 (by decide) rfl rfl <|
 T_aload_n dX1_body11_11 rfl <|
 T_getI (C := RX1) (T := TX1) (N := 6) (f := 2) dX1_body11_12 c_1_0_0 rfl (by decide) wf_X1_38 rfl <|
 T_iconst dX1_body11_15 ic_2 <|
 T_icmp_ne (tgt := 26) dX1_body11_16 (by decide) (fun z15 =>
 T_iload_n dX1_body11_26 rfl <|
 T_aload_n dX1_body11_27 rfl <|
 T_getI (C := RX1) (T := TX1) (N := 6) (f := 2) dX1_body11_28 c_1_0_0 rfl (by decide) wf_X1_38 rfl <|
 T_iconst dX1_body11_31 ic_3 <|
 T_icmp_ne (tgt := 42) dX1_body11_32 (by decide) (fun z11 =>
 T_aload_n dX1_body11_42 rfl <|
 T_callVi (k' := kX1_body21) (vs := []) (st := [pI v4]) dX1_body11_43 wm_X1_65 okX1_body21 rfl c_1_0_0 rfl rfl rfl (Nat.le_of_ble_eq_true rfl) rfl (Nat.le_of_ble_eq_true rfl) (TT.mono ((h16.1 z15).1 z11) (rI_mono (fun v6 M5 h7 =>
 T_iadd dX1_body11_46 <|
 T_ireturn (ty := .int) dX1_body11_47 rfl rfl h7)))) (fun z11 =>
 T_aload_n dX1_body11_35 rfl <|
 T_callVi (k' := kX1_body22) (vs := []) (st := [pI v4]) dX1_body11_36 wm_X1_68 okX1_body22 rfl c_1_0_0 rfl rfl rfl (Nat.le_of_ble_eq_true rfl) rfl (Nat.le_of_ble_eq_true rfl) (TT.mono ((h16.1 z15).2 z11) (rI_mono (fun v9 M8 h10 =>
 T_goto (tgt := 46) dX1_body11_39 (by decide) <|
 T_iadd dX1_body11_46 <|
 T_ireturn (ty := .int) dX1_body11_47 rfl rfl h10))))) (fun z15 =>
 T_iload_n dX1_body11_19 rfl <|
 T_aload_n dX1_body11_20 rfl <|
 T_callVi (k' := kX1_body24) (vs := []) (st := [pI v4]) dX1_body11_21 wm_X1_74 okX1_body24 rfl c_1_0_0 rfl rfl rfl (Nat.le_of_ble_eq_true rfl) rfl (Nat.le_of_ble_eq_true rfl) (TT.mono (h16.2 z15) (rI_mono (fun v13 M12 h14 =>
 T_iadd dX1_body11_24 <|
 T_ireturn (ty := .int) dX1_body11_25 rfl rfl h14))))))))))
theorem rX1_body12_0 {X : Nat × (Nat → Int32)}  {M : Mem} {Q : Option PV → Mem → Prop} (h : TT X kX1_begin 0 [some (pR (1, 0, 0)), some (pI 12)] [] M (rV fun M1 => TT X kX1_body11 0 [some (pR (1, 0, 0)), none] [] M1 (rI fun v4 M3 => Q (some (pI (0 - v4))) M3))) : TT X kX1_body12 0 [some (pR (1, 0, 0))] [] M Q :=
 T_aload_n dX1_body12_0 rfl <|
 T_bipush dX1_body12_1 bp_12 <|
 T_callVv (k' := kX1_begin) (vs := [pI 12]) (st := []) dX1_body12_3 wm_X1_80 okX1_begin rfl c_1_0_0 rfl rfl rfl (Nat.le_of_ble_eq_true rfl) rfl (Nat.le_of_ble_eq_true rfl) (TT.mono h (rV_mono (fun M1 h6 =>
 T_iconst dX1_body12_6 ic_0 <|
 T_aload_n dX1_body12_7 rfl <|
 T_callVi (k' := kX1_body11) (vs := []) (st := [pI 0]) dX1_body12_8 wm_X1_49 okX1_body11 rfl c_1_0_0 rfl rfl rfl (Nat.le_of_ble_eq_true rfl) rfl (Nat.le_of_ble_eq_true rfl) (TT.mono h6 (rI_mono (fun v4 M3 h5 =>
 T_isub dX1_body12_11 <|
 T_ireturn (ty := .int) dX1_body12_12 rfl rfl h5))))))
theorem rX1_body13_0 {X : Nat × (Nat → Int32)}  {M : Mem} {Q : Option PV → Mem → Prop} (h : TT X kX1_begin 0 [some (pR (1, 0, 0)), some (pI 13)] [] M (rV fun M1 => TT X kX1_body10 0 [some (pR (1, 0, 0))] [] M1 (rI fun v4 M3 => Q (some (pI (v4 - 100))) M3))) : TT X kX1_body13 0 [some (pR (1, 0, 0))] [] M Q :=
 T_aload_n dX1_body13_0 rfl <|
 T_bipush dX1_body13_1 bp_13 <|
 T_callVv (k' := kX1_begin) (vs := [pI 13]) (st := []) dX1_body13_3 wm_X1_80 okX1_begin rfl c_1_0_0 rfl rfl rfl (Nat.le_of_ble_eq_true rfl) rfl (Nat.le_of_ble_eq_true rfl) (TT.mono h (rV_mono (fun M1 h6 =>
 T_aload_n dX1_body13_6 rfl <|
 T_callVi (k' := kX1_body10) (vs := []) (st := []) dX1_body13_7 wm_X1_62 okX1_body10 rfl c_1_0_0 rfl rfl rfl (Nat.le_of_ble_eq_true rfl) rfl (Nat.le_of_ble_eq_true rfl) (TT.mono h6 (rI_mono (fun v4 M3 h5 =>
 T_bipush dX1_body13_10 bp_100 <|
 T_isub dX1_body13_12 <|
 T_ireturn (ty := .int) dX1_body13_13 rfl rfl h5))))))
theorem rX1_body14_0 {X : Nat × (Nat → Int32)}  {M : Mem} {Q : Option PV → Mem → Prop} (h : TT X kX1_begin 0 [some (pR (1, 0, 0)), some (pI 14)] [] M (rV fun M1 => TT X kX1_body13 0 [some (pR (1, 0, 0))] [] M1 (rI fun v4 M3 => Q (some (pI (2 * v4))) M3))) : TT X kX1_body14 0 [some (pR (1, 0, 0))] [] M Q :=
 T_aload_n dX1_body14_0 rfl <|
 T_bipush dX1_body14_1 bp_14 <|
 T_callVv (k' := kX1_begin) (vs := [pI 14]) (st := []) dX1_body14_3 wm_X1_80 okX1_begin rfl c_1_0_0 rfl rfl rfl (Nat.le_of_ble_eq_true rfl) rfl (Nat.le_of_ble_eq_true rfl) (TT.mono h (rV_mono (fun M1 h6 =>
 T_iconst dX1_body14_6 ic_2 <|
 T_aload_n dX1_body14_7 rfl <|
 T_callVi (k' := kX1_body13) (vs := []) (st := [pI 2]) dX1_body14_8 wm_X1_56 okX1_body13 rfl c_1_0_0 rfl rfl rfl (Nat.le_of_ble_eq_true rfl) rfl (Nat.le_of_ble_eq_true rfl) (TT.mono h6 (rI_mono (fun v4 M3 h5 =>
 T_imul dX1_body14_11 <|
 T_ireturn (ty := .int) dX1_body14_12 rfl rfl h5))))))
theorem rX1_body20_0 {X : Nat × (Nat → Int32)}  {M : Mem} {Q : Option PV → Mem → Prop} (h : TT X kX1_begin 0 [some (pR (1, 0, 0)), some (pI 20)] [] M (rV fun M1 => Q (some (pI (M1 1 0 0 3))) M1)) : TT X kX1_body20 0 [some (pR (1, 0, 0))] [] M Q :=
 T_aload_n dX1_body20_0 rfl <|
 T_bipush dX1_body20_1 bp_20 <|
 T_callVv (k' := kX1_begin) (vs := [pI 20]) (st := []) dX1_body20_3 wm_X1_80 okX1_begin rfl c_1_0_0 rfl rfl rfl (Nat.le_of_ble_eq_true rfl) rfl (Nat.le_of_ble_eq_true rfl) (TT.mono h (rV_mono (fun M1 h3 =>
 T_aload_n dX1_body20_6 rfl <|
 T_getI (C := RX1) (T := TX1) (N := 6) (f := 3) dX1_body20_7 c_1_0_0 rfl (by decide) wf_X1_41 rfl <|
 T_ireturn (ty := .int) dX1_body20_10 rfl rfl h3)))
theorem rX1_body21_0 {X : Nat × (Nat → Int32)}  {M : Mem} {Q : Option PV → Mem → Prop} (h : TT X kX1_begin 0 [some (pR (1, 0, 0)), some (pI 21)] [] M (rV fun M1 => TT X kX1_body20 0 [some (pR (1, 0, 0))] [] M1 (rI fun v4 M3 => Q (some (pI (v4 + (10 * (M3 1 0 0 4))))) M3))) : TT X kX1_body21 0 [some (pR (1, 0, 0))] [] M Q :=
 T_aload_n dX1_body21_0 rfl <|
 T_bipush dX1_body21_1 bp_21 <|
 T_callVv (k' := kX1_begin) (vs := [pI 21]) (st := []) dX1_body21_3 wm_X1_80 okX1_begin rfl c_1_0_0 rfl rfl rfl (Nat.le_of_ble_eq_true rfl) rfl (Nat.le_of_ble_eq_true rfl) (TT.mono h (rV_mono (fun M1 h6 =>
 T_aload_n dX1_body21_6 rfl <|
 T_callVi (k' := kX1_body20) (vs := []) (st := []) dX1_body21_7 wm_X1_77 okX1_body20 rfl c_1_0_0 rfl rfl rfl (Nat.le_of_ble_eq_true rfl) rfl (Nat.le_of_ble_eq_true rfl) (TT.mono h6 (rI_mono (fun v4 M3 h5 =>
 T_bipush dX1_body21_10 bp_10 <|
 T_aload_n dX1_body21_12 rfl <|
 T_getI (C := RX1) (T := TX1) (N := 6) (f := 4) dX1_body21_13 c_1_0_0 rfl (by decide) wf_X1_44 rfl <|
 T_imul dX1_body21_16 <|
 T_iadd dX1_body21_17 <|
 T_ireturn (ty := .int) dX1_body21_18 rfl rfl h5))))))
theorem rX1_body22_0 {X : Nat × (Nat → Int32)}  {M : Mem} {Q : Option PV → Mem → Prop} (h : TT X kX1_begin 0 [some (pR (1, 0, 0)), some (pI 22)] [] M (rV fun M1 => TT X kX1_body21 0 [some (pR (1, 0, 0))] [] M1 (rI fun v4 M3 => Q (some (pI (v4 - 1000))) M3))) : TT X kX1_body22 0 [some (pR (1, 0, 0))] [] M Q :=
 T_aload_n dX1_body22_0 rfl <|
 T_bipush dX1_body22_1 bp_22 <|
 T_callVv (k' := kX1_begin) (vs := [pI 22]) (st := []) dX1_body22_3 wm_X1_80 okX1_begin rfl c_1_0_0 rfl rfl rfl (Nat.le_of_ble_eq_true rfl) rfl (Nat.le_of_ble_eq_true rfl) (TT.mono h (rV_mono (fun M1 h6 =>
 T_aload_n dX1_body22_6 rfl <|
 T_callVi (k' := kX1_body21) (vs := []) (st := []) dX1_body22_7 wm_X1_65 okX1_body21 rfl c_1_0_0 rfl rfl rfl (Nat.le_of_ble_eq_true rfl) rfl (Nat.le_of_ble_eq_true rfl) (TT.mono h6 (rI_mono (fun v4 M3 h5 =>
 T_sipush dX1_body22_10 sp_1000 <|
 T_isub dX1_body22_13 <|
 T_ireturn (ty := .int) dX1_body22_14 rfl rfl h5))))))
theorem rX1_body23_0 {X : Nat × (Nat → Int32)}  {M : Mem} {Q : Option PV → Mem → Prop} (h : TT X kX1_begin 0 [some (pR (1, 0, 0)), some (pI 23)] [] M (rV fun M1 => TT X kX1_body20 0 [some (pR (1, 0, 0))] [] M1 (rI fun v4 M3 => (¬ (M3 1 0 0 2) = 5 → TT X kX1_body13 0 [some (pR (1, 0, 0))] [] M3 (rI fun v6 M5 => Q (some (pI (v4 - v6))) M5)) ∧ ((M3 1 0 0 2) = 5 → TT X kX1_body14 0 [some (pR (1, 0, 0))] [] M3 (rI fun v9 M8 => Q (some (pI (v4 - v9))) M8))))) : TT X kX1_body23 0 [some (pR (1, 0, 0)), none] [] M Q :=
 T_aload_n dX1_body23_0 rfl <|
 T_bipush dX1_body23_1 bp_23 <|
 T_callVv (k' := kX1_begin) (vs := [pI 23]) (st := []) dX1_body23_3 wm_X1_80 okX1_begin rfl c_1_0_0 rfl rfl rfl (Nat.le_of_ble_eq_true rfl) rfl (Nat.le_of_ble_eq_true rfl) (TT.mono h (rV_mono (fun M1 h13 =>
 T_aload_n dX1_body23_6 rfl <|
 T_callVi (k' := kX1_body20) (vs := []) (st := []) dX1_body23_7 wm_X1_77 okX1_body20 rfl c_1_0_0 rfl rfl rfl (Nat.le_of_ble_eq_true rfl) rfl (Nat.le_of_ble_eq_true rfl) (TT.mono h13 (rI_mono (fun v4 M3 h12 =>
 T_istore_n dX1_body23_10 (by decide) rfl rfl <|
 T_iload_n dX1_body23_11 rfl <|
 T_aload_n dX1_body23_12 rfl <|
 T_getI (C := RX1) (T := TX1) (N := 6) (f := 2) dX1_body23_13 c_1_0_0 rfl (by decide) wf_X1_38 rfl <|
 T_iconst dX1_body23_16 ic_5 <|
 T_icmp_ne (tgt := 27) dX1_body23_17 (by decide) (fun z11 =>
 T_aload_n dX1_body23_27 rfl <|
 T_callVi (k' := kX1_body13) (vs := []) (st := [pI v4]) dX1_body23_28 wm_X1_56 okX1_body13 rfl c_1_0_0 rfl rfl rfl (Nat.le_of_ble_eq_true rfl) rfl (Nat.le_of_ble_eq_true rfl) (TT.mono (h12.1 z11) (rI_mono (fun v6 M5 h7 =>
 T_isub dX1_body23_31 <|
 T_ireturn (ty := .int) dX1_body23_32 rfl rfl h7)))) (fun z11 =>
 T_aload_n dX1_body23_20 rfl <|
 T_callVi (k' := kX1_body14) (vs := []) (st := [pI v4]) dX1_body23_21 wm_X1_59 okX1_body14 rfl c_1_0_0 rfl rfl rfl (Nat.le_of_ble_eq_true rfl) rfl (Nat.le_of_ble_eq_true rfl) (TT.mono (h12.2 z11) (rI_mono (fun v9 M8 h10 =>
 T_goto (tgt := 31) dX1_body23_24 (by decide) <|
 T_isub dX1_body23_31 <|
 T_ireturn (ty := .int) dX1_body23_32 rfl rfl h10))))))))))
theorem rX1_body24_0 {X : Nat × (Nat → Int32)}  {M : Mem} {Q : Option PV → Mem → Prop} (h : TT X kX1_begin 0 [some (pR (1, 0, 0)), some (pI 24)] [] M (rV fun M1 => TT X kX1_body21 0 [some (pR (1, 0, 0))] [] M1 (rI fun v4 M3 => Q (some (pI (2 * v4))) M3))) : TT X kX1_body24 0 [some (pR (1, 0, 0))] [] M Q :=
 T_aload_n dX1_body24_0 rfl <|
 T_bipush dX1_body24_1 bp_24 <|
 T_callVv (k' := kX1_begin) (vs := [pI 24]) (st := []) dX1_body24_3 wm_X1_80 okX1_begin rfl c_1_0_0 rfl rfl rfl (Nat.le_of_ble_eq_true rfl) rfl (Nat.le_of_ble_eq_true rfl) (TT.mono h (rV_mono (fun M1 h6 =>
 T_iconst dX1_body24_6 ic_2 <|
 T_aload_n dX1_body24_7 rfl <|
 T_callVi (k' := kX1_body21) (vs := []) (st := [pI 2]) dX1_body24_8 wm_X1_65 okX1_body21 rfl c_1_0_0 rfl rfl rfl (Nat.le_of_ble_eq_true rfl) rfl (Nat.le_of_ble_eq_true rfl) (TT.mono h6 (rI_mono (fun v4 M3 h5 =>
 T_imul dX1_body24_11 <|
 T_ireturn (ty := .int) dX1_body24_12 rfl rfl h5))))))
