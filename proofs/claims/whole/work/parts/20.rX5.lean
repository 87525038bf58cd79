theorem rX5_isNumber_0 {X : Nat × (Nat → Int32)} {a1 : Int32} {M : Mem} {Q : Option PV → Mem → Prop} (h : (a1 < 0 → Q (some (pI 0)) M) ∧ (¬ a1 < 0 → (8 ≤ a1 → Q (some (pI 0)) M) ∧ (¬ 8 ≤ a1 → Q (some (pI 1)) M))) : TT X kX5_isNumber 0 [some (pR (5, 0, 0)), some (pI a1)] [] M Q :=
 T_iload_n dX5_isNumber_0 rfl <|
 T_if_lt (tgt := 14) dX5_isNumber_1 (by decide) (fun z2 =>
 T_iconst dX5_isNumber_14 ic_0 <|
 T_ireturn (ty := .boolean) dX5_isNumber_15 rfl rfl (h.1 z2)) (fun z2 =>
 T_iload_n dX5_isNumber_4 rfl <|
 T_bipush dX5_isNumber_5 bp_8 <|
 T_icmp_ge (tgt := 14) dX5_isNumber_7 (by decide) (fun z1 =>
 T_iconst dX5_isNumber_14 ic_0 <|
 T_ireturn (ty := .boolean) dX5_isNumber_15 rfl rfl ((h.2 z2).1 z1)) (fun z1 =>
 T_iconst dX5_isNumber_10 ic_1 <|
 T_goto (tgt := 15) dX5_isNumber_11 (by decide) <|
 T_ireturn (ty := .boolean) dX5_isNumber_15 rfl rfl ((h.2 z2).2 z1)))
theorem rX5_isMissing_0 {X : Nat × (Nat → Int32)} {a1 : Int32} {M : Mem} {Q : Option PV → Mem → Prop} (h : TT X kX5_isNumber 0 [some (pR (5, 0, 0)), some (pI a1)] [] M (rI fun v2 M1 => (v2 = 0 → Q (some (pI 1)) M1) ∧ (¬ v2 = 0 → vp_in a1 8 ∧ ((¬ (M1 5 0 1 (Int32.toNatClampNeg a1)) = (-1) → Q (some (pI 0)) M1) ∧ ((M1 5 0 1 (Int32.toNatClampNeg a1)) = (-1) → Q (some (pI 1)) M1))))) : TT X kX5_isMissing 0 [some (pR (5, 0, 0)), some (pI a1)] [] M Q :=
 T_aload_n dX5_isMissing_0 rfl <|
 T_iload_n dX5_isMissing_1 rfl <|
 T_callVi (k' := kX5_isNumber) (vs := [pI a1]) (st := []) dX5_isMissing_2 wm_X5_21 okX5_isNumber rfl c_5_0_0 rfl rfl rfl (Nat.le_of_ble_eq_true rfl) rfl (Nat.le_of_ble_eq_true rfl) (TT.mono h (rI_mono (fun v2 M1 h5 =>
 T_if_eq (tgt := 18) dX5_isMissing_5 (by decide) (fun z4 =>
 T_iconst dX5_isMissing_18 ic_1 <|
 T_goto (tgt := 23) dX5_isMissing_19 (by decide) <|
 T_ireturn (ty := .boolean) dX5_isMissing_23 rfl rfl (h5.1 z4)) (fun z4 =>
 T_aload_n dX5_isMissing_8 rfl <|
 T_getR (C := RX5) (T := TX5) (N := 3) (f := 0) dX5_isMissing_9 c_5_0_0 rfl (by decide) wf_X5_11 rfl <|
 T_iload_n dX5_isMissing_12 rfl <|
 T_iald (n := 8) dX5_isMissing_13 c_5_0_1 (by decide) (by decide) (by decide) rfl (h5.2 z4).1 <|
 T_iconst dX5_isMissing_14 ic_m1 <|
 T_icmp_ne (tgt := 22) dX5_isMissing_15 (by decide) (fun z3 =>
 T_iconst dX5_isMissing_22 ic_0 <|
 T_ireturn (ty := .boolean) dX5_isMissing_23 rfl rfl ((h5.2 z4).2.1 z3)) (fun z3 =>
 T_iconst dX5_isMissing_18 ic_1 <|
 T_goto (tgt := 23) dX5_isMissing_19 (by decide) <|
 T_ireturn (ty := .boolean) dX5_isMissing_23 rfl rfl ((h5.2 z4).2.2 z3))))))
theorem rX5_laneOf_0 {X : Nat × (Nat → Int32)} {a1 : Int32} {M : Mem} {Q : Option PV → Mem → Prop} (h : TT X kX5_isNumber 0 [some (pR (5, 0, 0)), some (pI a1)] [] M (rI fun v2 M1 => (v2 = 0 → Q (some (pI (-1))) M1) ∧ (¬ v2 = 0 → vp_in a1 8 ∧ (Q (some (pI (M1 5 0 1 (Int32.toNatClampNeg a1)))) M1)))) : TT X kX5_laneOf 0 [some (pR (5, 0, 0)), some (pI a1)] [] M Q :=
 T_aload_n dX5_laneOf_0 rfl <|
 T_iload_n dX5_laneOf_1 rfl <|
 T_callVi (k' := kX5_isNumber) (vs := [pI a1]) (st := []) dX5_laneOf_2 wm_X5_21 okX5_isNumber rfl c_5_0_0 rfl rfl rfl (Nat.le_of_ble_eq_true rfl) rfl (Nat.le_of_ble_eq_true rfl) (TT.mono h (rI_mono (fun v2 M1 h4 =>
 T_if_eq (tgt := 17) dX5_laneOf_5 (by decide) (fun z3 =>
 T_iconst dX5_laneOf_17 ic_m1 <|
 T_ireturn (ty := .int) dX5_laneOf_18 rfl rfl (h4.1 z3)) (fun z3 =>
 T_aload_n dX5_laneOf_8 rfl <|
 T_getR (C := RX5) (T := TX5) (N := 3) (f := 0) dX5_laneOf_9 c_5_0_0 rfl (by decide) wf_X5_11 rfl <|
 T_iload_n dX5_laneOf_12 rfl <|
 T_iald (n := 8) dX5_laneOf_13 c_5_0_1 (by decide) (by decide) (by decide) rfl (h4.2 z3).1 <|
 T_goto (tgt := 18) dX5_laneOf_14 (by decide) <|
 T_ireturn (ty := .int) dX5_laneOf_18 rfl rfl (h4.2 z3).2))))
theorem rX5_sizeOf_0 {X : Nat × (Nat → Int32)} {a1 : Int32} {M : Mem} {Q : Option PV → Mem → Prop} (h : TT X kX5_isMissing 0 [some (pR (5, 0, 0)), some (pI a1)] [] M (rI fun v2 M1 => (v2 = 0 → vp_in a1 8 ∧ (Q (some (pI (M1 5 0 2 (Int32.toNatClampNeg a1)))) M1)) ∧ (¬ v2 = 0 → Q (some (pI 0)) M1))) : TT X kX5_sizeOf 0 [some (pR (5, 0, 0)), some (pI a1)] [] M Q :=
 T_aload_n dX5_sizeOf_0 rfl <|
 T_iload_n dX5_sizeOf_1 rfl <|
 T_callVi (k' := kX5_isMissing) (vs := [pI a1]) (st := []) dX5_sizeOf_2 wm_X5_25 okX5_isMissing rfl c_5_0_0 rfl rfl rfl (Nat.le_of_ble_eq_true rfl) rfl (Nat.le_of_ble_eq_true rfl) (TT.mono h (rI_mono (fun v2 M1 h4 =>
 T_if_eq (tgt := 12) dX5_sizeOf_5 (by decide) (fun z3 =>
 T_aload_n dX5_sizeOf_12 rfl <|
 T_getR (C := RX5) (T := TX5) (N := 3) (f := 1) dX5_sizeOf_13 c_5_0_0 rfl (by decide) wf_X5_15 rfl <|
 T_iload_n dX5_sizeOf_16 rfl <|
 T_iald (n := 8) dX5_sizeOf_17 c_5_0_2 (by decide) (by decide) (by decide) rfl (h4.1 z3).1 <|
 T_ireturn (ty := .int) dX5_sizeOf_18 rfl rfl (h4.1 z3).2) (fun z3 =>
 T_iconst dX5_sizeOf_8 ic_0 <|
 T_goto (tgt := 18) dX5_sizeOf_9 (by decide) <|
 T_ireturn (ty := .int) dX5_sizeOf_18 rfl rfl (h4.2 z3)))))
theorem rX5_item_0 {X : Nat × (Nat → Int32)} {a1 : Int32} {a2 : Int32} {M : Mem} {Q : Option PV → Mem → Prop} (h : (a2 < 0 → Q (some (pI (-1000000))) M) ∧ (¬ a2 < 0 → TT X kX5_sizeOf 0 [some (pR (5, 0, 0)), some (pI a1)] [] M (rI fun v2 M1 => (v2 ≤ a2 → Q (some (pI (-1000000))) M1) ∧ (¬ v2 ≤ a2 → vp_in ((a1 * 40) + a2) 320 ∧ (Q (some (pI (M1 5 0 3 (Int32.toNatClampNeg ((a1 * 40) + a2))))) M1))))) : TT X kX5_item 0 [some (pR (5, 0, 0)), some (pI a1), some (pI a2)] [] M Q :=
 T_iload_n dX5_item_0 rfl <|
 T_if_lt (tgt := 27) dX5_item_1 (by decide) (fun z5 =>
 T_ldc dX5_item_27 wc_X5_32 <|
 T_ireturn (ty := .int) dX5_item_29 rfl rfl (h.1 z5)) (fun z5 =>
 T_iload_n dX5_item_4 rfl <|
 T_aload_n dX5_item_5 rfl <|
 T_iload_n dX5_item_6 rfl <|
 T_callVi (k' := kX5_sizeOf) (vs := [pI a1]) (st := [pI a2]) dX5_item_7 wm_X5_28 okX5_sizeOf rfl c_5_0_0 rfl rfl rfl (Nat.le_of_ble_eq_true rfl) rfl (Nat.le_of_ble_eq_true rfl) (TT.mono (h.2 z5) (rI_mono (fun v2 M1 h4 =>
 T_icmp_ge (tgt := 27) dX5_item_10 (by decide) (fun z3 =>
 T_ldc dX5_item_27 wc_X5_32 <|
 T_ireturn (ty := .int) dX5_item_29 rfl rfl (h4.1 z3)) (fun z3 =>
 T_aload_n dX5_item_13 rfl <|
 T_getR (C := RX5) (T := TX5) (N := 3) (f := 2) dX5_item_14 c_5_0_0 rfl (by decide) wf_X5_18 rfl <|
 T_iload_n dX5_item_17 rfl <|
 T_bipush dX5_item_18 bp_40 <|
 T_imul dX5_item_20 <|
 T_iload_n dX5_item_21 rfl <|
 T_iadd dX5_item_22 <|
 T_iald (n := 320) dX5_item_23 c_5_0_3 (by decide) (by decide) (by decide) rfl (h4.2 z3).1 <|
 T_goto (tgt := 29) dX5_item_24 (by decide) <|
 T_ireturn (ty := .int) dX5_item_29 rfl rfl (h4.2 z3).2)))))
theorem rX5_hasRange_0 {X : Nat × (Nat → Int32)} {a1 : Int32} {a2 : Int32} {a3 : Int32} {M : Mem} {Q : Option PV → Mem → Prop} (h : TT X kX5_sizeOf 0 [some (pR (5, 0, 0)), some (pI a1)] [] M (rI fun v2 M1 => (a3 < 0 → Q (some (pI 0)) M1) ∧ (¬ a3 < 0 → (v2 < a3 → Q (some (pI 0)) M1) ∧ (¬ v2 < a3 → (a2 < 0 → Q (some (pI 0)) M1) ∧ (¬ a2 < 0 → ((v2 - a3) < a2 → Q (some (pI 0)) M1) ∧ (¬ (v2 - a3) < a2 → Q (some (pI 1)) M1)))))) : TT X kX5_hasRange 0 [some (pR (5, 0, 0)), some (pI a1), some (pI a2), some (pI a3), none] [] M Q :=
 T_aload_n dX5_hasRange_0 rfl <|
 T_iload_n dX5_hasRange_1 rfl <|
 T_callVi (k' := kX5_sizeOf) (vs := [pI a1]) (st := []) dX5_hasRange_2 wm_X5_28 okX5_sizeOf rfl c_5_0_0 rfl rfl rfl (Nat.le_of_ble_eq_true rfl) rfl (Nat.le_of_ble_eq_true rfl) (TT.mono h (rI_mono (fun v2 M1 h7 =>
 T_istore dX5_hasRange_5 (by decide) rfl rfl <|
 T_iload_n dX5_hasRange_7 rfl <|
 T_if_lt (tgt := 33) dX5_hasRange_8 (by decide) (fun z6 =>
 T_iconst dX5_hasRange_33 ic_0 <|
 T_ireturn (ty := .boolean) dX5_hasRange_34 rfl rfl (h7.1 z6)) (fun z6 =>
 T_iload_n dX5_hasRange_11 rfl <|
 T_iload dX5_hasRange_12 rfl <|
 T_icmp_gt (tgt := 33) dX5_hasRange_14 (by decide) (fun z5 =>
 T_iconst dX5_hasRange_33 ic_0 <|
 T_ireturn (ty := .boolean) dX5_hasRange_34 rfl rfl ((h7.2 z6).1 z5)) (fun z5 =>
 T_iload_n dX5_hasRange_17 rfl <|
 T_if_lt (tgt := 33) dX5_hasRange_18 (by decide) (fun z4 =>
 T_iconst dX5_hasRange_33 ic_0 <|
 T_ireturn (ty := .boolean) dX5_hasRange_34 rfl rfl (((h7.2 z6).2 z5).1 z4)) (fun z4 =>
 T_iload_n dX5_hasRange_21 rfl <|
 T_iload dX5_hasRange_22 rfl <|
 T_iload_n dX5_hasRange_24 rfl <|
 T_isub dX5_hasRange_25 <|
 T_icmp_gt (tgt := 33) dX5_hasRange_26 (by decide) (fun z3 =>
 T_iconst dX5_hasRange_33 ic_0 <|
 T_ireturn (ty := .boolean) dX5_hasRange_34 rfl rfl ((((h7.2 z6).2 z5).2 z4).1 z3)) (fun z3 =>
 T_iconst dX5_hasRange_29 ic_1 <|
 T_goto (tgt := 34) dX5_hasRange_30 (by decide) <|
 T_ireturn (ty := .boolean) dX5_hasRange_34 rfl rfl ((((h7.2 z6).2 z5).2 z4).2 z3))))))))
theorem rX5_make_0 {X : Nat × (Nat → Int32)} {a1 : Int32} {a2 : Int32} {a3 : Int32} {M : Mem} {Q : Option PV → Mem → Prop} (h : TT X kX5_isNumber 0 [some (pR (5, 0, 0)), some (pI a1)] [] M (rI fun v2 M1 => (v2 = 0 → Q none M1) ∧ (¬ v2 = 0 → (a3 < 0 → Q none M1) ∧ (¬ a3 < 0 → (a3 ≤ 40 → vp_in a1 8 ∧ (vp_in a1 8 ∧ (TT X kX5_make 36 [some (pR (5, 0, 0)), some (pI a1), some (pI a2), some (pI a3), some (pI 0)] [] (mset (mset M1 5 0 1 (Int32.toNatClampNeg a1) a2) 5 0 2 (Int32.toNatClampNeg a1) a3) Q))) ∧ (¬ a3 ≤ 40 → Q none M1))))) : TT X kX5_make 0 [some (pR (5, 0, 0)), some (pI a1), some (pI a2), some (pI a3), none] [] M Q :=
 T_aload_n dX5_make_0 rfl <|
 T_iload_n dX5_make_1 rfl <|
 T_callVi (k' := kX5_isNumber) (vs := [pI a1]) (st := []) dX5_make_2 wm_X5_21 okX5_isNumber rfl c_5_0_0 rfl rfl rfl (Nat.le_of_ble_eq_true rfl) rfl (Nat.le_of_ble_eq_true rfl) (TT.mono h (rI_mono (fun v2 M1 h6 =>
 T_if_eq (tgt := 18) dX5_make_5 (by decide) (fun z5 =>
 T_return dX5_make_18 rfl (h6.1 z5)) (fun z5 =>
 T_iload_n dX5_make_8 rfl <|
 T_if_lt (tgt := 18) dX5_make_9 (by decide) (fun z4 =>
 T_return dX5_make_18 rfl ((h6.2 z5).1 z4)) (fun z4 =>
 T_iload_n dX5_make_12 rfl <|
 T_bipush dX5_make_13 bp_40 <|
 T_icmp_le (tgt := 19) dX5_make_15 (by decide) (fun z3 =>
 T_aload_n dX5_make_19 rfl <|
 T_getR (C := RX5) (T := TX5) (N := 3) (f := 0) dX5_make_20 c_5_0_0 rfl (by decide) wf_X5_11 rfl <|
 T_iload_n dX5_make_23 rfl <|
 T_iload_n dX5_make_24 rfl <|
 T_iast (n := 8) dX5_make_25 c_5_0_1 (by decide) (by decide) (by decide) rfl (((h6.2 z5).2 z4).1 z3).1 <|
 T_aload_n dX5_make_26 rfl <|
 T_getR (C := RX5) (T := TX5) (N := 3) (f := 1) dX5_make_27 c_5_0_0 rfl (by decide) wf_X5_15 rfl <|
 T_iload_n dX5_make_30 rfl <|
 T_iload_n dX5_make_31 rfl <|
 T_iast (n := 8) dX5_make_32 c_5_0_2 (by decide) (by decide) (by decide) rfl (((h6.2 z5).2 z4).1 z3).2.1 <|
 T_iconst dX5_make_33 ic_0 <|
 T_istore dX5_make_34 (by decide) rfl rfl <|
 (((h6.2 z5).2 z4).1 z3).2.2) (fun z3 =>
 T_return dX5_make_18 rfl (((h6.2 z5).2 z4).2 z3)))))))
theorem rX5_make_36 {X : Nat × (Nat → Int32)} {b1 : Int32} {b2 : Int32} {b3 : Int32} {b4 : Int32} {M : Mem} {Q : Option PV → Mem → Prop} (h : (b3 ≤ b4 → Q none M) ∧ (¬ b3 ≤ b4 → vp_in ((b1 * 40) + b4) 320 ∧ (TT X kX5_make 36 [some (pR (5, 0, 0)), some (pI b1), some (pI b2), some (pI b3), some (pI (b4 + 1))] [] (mset M 5 0 3 (Int32.toNatClampNeg ((b1 * 40) + b4)) 0) Q))) : TT X kX5_make 36 [some (pR (5, 0, 0)), some (pI b1), some (pI b2), some (pI b3), some (pI b4)] [] M Q :=
 T_iload dX5_make_36 rfl <|
 T_iload_n dX5_make_38 rfl <|
 T_icmp_ge (tgt := 61) dX5_make_39 (by decide) (fun z7 =>
 T_return dX5_make_61 rfl (h.1 z7)) (fun z7 =>
 T_aload_n dX5_make_42 rfl <|
 T_getR (C := RX5) (T := TX5) (N := 3) (f := 2) dX5_make_43 c_5_0_0 rfl (by decide) wf_X5_18 rfl <|
 T_iload_n dX5_make_46 rfl <|
 T_bipush dX5_make_47 bp_40 <|
 T_imul dX5_make_49 <|
 T_iload dX5_make_50 rfl <|
 T_iadd dX5_make_52 <|
 T_iconst dX5_make_53 ic_0 <|
 T_iast (n := 320) dX5_make_54 c_5_0_3 (by decide) (by decide) (by decide) rfl (h.2 z7).1 <|
 T_iinc dX5_make_55 rfl (ii_1 _) (by decide) rfl rfl <|
 T_goto (tgt := 36) dX5_make_58 (by decide) <|
 (h.2 z7).2)
theorem rX5_put_0 {X : Nat × (Nat → Int32)} {a1 : Int32} {a2 : Int32} {a3 : Int32} {M : Mem} {Q : Option PV → Mem → Prop} (h : (a2 < 0 → Q (some (pI (-1000000))) M) ∧ (¬ a2 < 0 → TT X kX5_sizeOf 0 [some (pR (5, 0, 0)), some (pI a1)] [] M (rI fun v2 M1 => (a2 < v2 → vp_in a1 8 ∧ ((¬ (M1 5 0 1 (Int32.toNatClampNeg a1)) = 0 → vp_in a1 8 ∧ ((¬ (M1 5 0 1 (Int32.toNatClampNeg a1)) = 1 → vp_in ((a1 * 40) + a2) 320 ∧ (Q (some (pI a3)) (mset M1 5 0 3 (Int32.toNatClampNeg ((a1 * 40) + a2)) a3))) ∧ ((M1 5 0 1 (Int32.toNatClampNeg a1)) = 1 → vp_in ((a1 * 40) + a2) 320 ∧ (Q (some (pI ((Int32.toInt16 a3).toInt32))) (mset M1 5 0 3 (Int32.toNatClampNeg ((a1 * 40) + a2)) ((Int32.toInt16 a3).toInt32)))))) ∧ ((M1 5 0 1 (Int32.toNatClampNeg a1)) = 0 → vp_in ((a1 * 40) + a2) 320 ∧ (Q (some (pI ((Int32.toInt8 a3).toInt32))) (mset M1 5 0 3 (Int32.toNatClampNeg ((a1 * 40) + a2)) ((Int32.toInt8 a3).toInt32)))))) ∧ (¬ a2 < v2 → Q (some (pI (-1000000))) M1)))) : TT X kX5_put 0 [some (pR (5, 0, 0)), some (pI a1), some (pI a2), some (pI a3), none] [] M Q :=
 T_iload_n dX5_put_0 rfl <|
 T_if_lt (tgt := 13) dX5_put_1 (by decide) (fun z7 =>
 T_ldc dX5_put_13 wc_X5_32 <|
 T_ireturn (ty := .int) dX5_put_15 rfl rfl (h.1 z7)) (fun z7 =>
 T_iload_n dX5_put_4 rfl <|
 T_aload_n dX5_put_5 rfl <|
 T_iload_n dX5_put_6 rfl <|
 T_callVi (k' := kX5_sizeOf) (vs := [pI a1]) (st := [pI a2]) dX5_put_7 wm_X5_28 okX5_sizeOf rfl c_5_0_0 rfl rfl rfl (Nat.le_of_ble_eq_true rfl) rfl (Nat.le_of_ble_eq_true rfl) (TT.mono (h.2 z7) (rI_mono (fun v2 M1 h6 =>
 T_icmp_lt (tgt := 16) dX5_put_10 (by decide) (fun z5 =>
 T_iload_n dX5_put_16 rfl <|
 T_istore dX5_put_17 (by decide) rfl rfl <|
 T_aload_n dX5_put_19 rfl <|
 T_getR (C := RX5) (T := TX5) (N := 3) (f := 0) dX5_put_20 c_5_0_0 rfl (by decide) wf_X5_11 rfl <|
 T_iload_n dX5_put_23 rfl <|
 T_iald (n := 8) dX5_put_24 c_5_0_1 (by decide) (by decide) (by decide) rfl (h6.1 z5).1 <|
 T_if_ne (tgt := 35) dX5_put_25 (by decide) (fun z4 =>
 T_aload_n dX5_put_35 rfl <|
 T_getR (C := RX5) (T := TX5) (N := 3) (f := 0) dX5_put_36 c_5_0_0 rfl (by decide) wf_X5_11 rfl <|
 T_iload_n dX5_put_39 rfl <|
 T_iald (n := 8) dX5_put_40 c_5_0_1 (by decide) (by decide) (by decide) rfl ((h6.1 z5).2.1 z4).1 <|
 T_iconst dX5_put_41 ic_1 <|
 T_icmp_ne (tgt := 49) dX5_put_42 (by decide) (fun z3 =>
 T_aload_n dX5_put_49 rfl <|
 T_getR (C := RX5) (T := TX5) (N := 3) (f := 2) dX5_put_50 c_5_0_0 rfl (by decide) wf_X5_18 rfl <|
 T_iload_n dX5_put_53 rfl <|
 T_bipush dX5_put_54 bp_40 <|
 T_imul dX5_put_56 <|
 T_iload_n dX5_put_57 rfl <|
 T_iadd dX5_put_58 <|
 T_iload dX5_put_59 rfl <|
 T_iast (n := 320) dX5_put_61 c_5_0_3 (by decide) (by decide) (by decide) rfl (((h6.1 z5).2.1 z4).2.1 z3).1 <|
 T_iload dX5_put_62 rfl <|
 T_ireturn (ty := .int) dX5_put_64 rfl rfl (((h6.1 z5).2.1 z4).2.1 z3).2) (fun z3 =>
 T_iload_n dX5_put_45 rfl <|
 T_i2s dX5_put_46 <|
 T_istore dX5_put_47 (by decide) rfl rfl <|
 T_aload_n dX5_put_49 rfl <|
 T_getR (C := RX5) (T := TX5) (N := 3) (f := 2) dX5_put_50 c_5_0_0 rfl (by decide) wf_X5_18 rfl <|
 T_iload_n dX5_put_53 rfl <|
 T_bipush dX5_put_54 bp_40 <|
 T_imul dX5_put_56 <|
 T_iload_n dX5_put_57 rfl <|
 T_iadd dX5_put_58 <|
 T_iload dX5_put_59 rfl <|
 T_iast (n := 320) dX5_put_61 c_5_0_3 (by decide) (by decide) (by decide) rfl (((h6.1 z5).2.1 z4).2.2 z3).1 <|
 T_iload dX5_put_62 rfl <|
 T_ireturn (ty := .int) dX5_put_64 rfl rfl (((h6.1 z5).2.1 z4).2.2 z3).2)) (fun z4 =>
 T_iload_n dX5_put_28 rfl <|
 T_i2b dX5_put_29 <|
 T_istore dX5_put_30 (by decide) rfl rfl <|
 T_goto (tgt := 49) dX5_put_32 (by decide) <|
 T_aload_n dX5_put_49 rfl <|
 T_getR (C := RX5) (T := TX5) (N := 3) (f := 2) dX5_put_50 c_5_0_0 rfl (by decide) wf_X5_18 rfl <|
 T_iload_n dX5_put_53 rfl <|
 T_bipush dX5_put_54 bp_40 <|
 T_imul dX5_put_56 <|
 T_iload_n dX5_put_57 rfl <|
 T_iadd dX5_put_58 <|
 T_iload dX5_put_59 rfl <|
 T_iast (n := 320) dX5_put_61 c_5_0_3 (by decide) (by decide) (by decide) rfl ((h6.1 z5).2.2 z4).1 <|
 T_iload dX5_put_62 rfl <|
 T_ireturn (ty := .int) dX5_put_64 rfl rfl ((h6.1 z5).2.2 z4).2)) (fun z5 =>
 T_ldc dX5_put_13 wc_X5_32 <|
 T_ireturn (ty := .int) dX5_put_15 rfl rfl (h6.2 z5))))))
theorem rX5_move_0 {X : Nat × (Nat → Int32)} {a1 : Int32} {a2 : Int32} {a3 : Int32} {a4 : Int32} {a5 : Int32} {M : Mem} {Q : Option PV → Mem → Prop} (h : TT X kX5_hasRange 0 [some (pR (5, 0, 0)), some (pI a1), some (pI a2), some (pI a5), none] [] M (rI fun v2 M1 => (v2 = 0 → Q none M1) ∧ (¬ v2 = 0 → TT X kX5_hasRange 0 [some (pR (5, 0, 0)), some (pI a3), some (pI a4), some (pI a5), none] [] M1 (rI fun v4 M3 => (v4 = 0 → Q none M3) ∧ (¬ v4 = 0 → ¬ ((a1 * 40) + a2) < 0 ∧ ¬ ((a3 * 40) + a4) < 0 ∧ ¬ a5 < 0 ∧ (Int32.toNatClampNeg ((a1 * 40) + a2)) + (Int32.toNatClampNeg a5) ≤ 320 ∧ (Int32.toNatClampNeg ((a3 * 40) + a4)) + (Int32.toNatClampNeg a5) ≤ 320 ∧ (Q none (marr M3 5 0 3 (va_cpy (M3 5 0 3) (M3 5 0 3) (Int32.toNatClampNeg ((a1 * 40) + a2)) (Int32.toNatClampNeg ((a3 * 40) + a4)) (Int32.toNatClampNeg a5))))))))) : TT X kX5_move 0 [some (pR (5, 0, 0)), some (pI a1), some (pI a2), some (pI a3), some (pI a4), some (pI a5)] [] M Q :=
 T_aload_n dX5_move_0 rfl <|
 T_iload_n dX5_move_1 rfl <|
 T_iload_n dX5_move_2 rfl <|
 T_iload dX5_move_3 rfl <|
 T_callVi (k' := kX5_hasRange) (vs := [pI a1, pI a2, pI a5]) (st := []) dX5_move_5 wm_X5_33 okX5_hasRange rfl c_5_0_0 rfl rfl rfl (Nat.le_of_ble_eq_true rfl) rfl (Nat.le_of_ble_eq_true rfl) (TT.mono h (rI_mono (fun v2 M1 h8 =>
 T_if_eq (tgt := 49) dX5_move_8 (by decide) (fun z7 =>
 T_return dX5_move_49 rfl (h8.1 z7)) (fun z7 =>
 T_aload_n dX5_move_11 rfl <|
 T_iload_n dX5_move_12 rfl <|
 T_iload dX5_move_13 rfl <|
 T_iload dX5_move_15 rfl <|
 T_callVi (k' := kX5_hasRange) (vs := [pI a3, pI a4, pI a5]) (st := []) dX5_move_17 wm_X5_33 okX5_hasRange rfl c_5_0_0 rfl rfl rfl (Nat.le_of_ble_eq_true rfl) rfl (Nat.le_of_ble_eq_true rfl) (TT.mono (h8.2 z7) (rI_mono (fun v4 M3 h6 =>
 T_if_eq (tgt := 49) dX5_move_20 (by decide) (fun z5 =>
 T_return dX5_move_49 rfl (h6.1 z5)) (fun z5 =>
 T_aload_n dX5_move_23 rfl <|
 T_getR (C := RX5) (T := TX5) (N := 3) (f := 2) dX5_move_24 c_5_0_0 rfl (by decide) wf_X5_18 rfl <|
 T_iload_n dX5_move_27 rfl <|
 T_bipush dX5_move_28 bp_40 <|
 T_imul dX5_move_30 <|
 T_iload_n dX5_move_31 rfl <|
 T_iadd dX5_move_32 <|
 T_aload_n dX5_move_33 rfl <|
 T_getR (C := RX5) (T := TX5) (N := 3) (f := 2) dX5_move_34 c_5_0_0 rfl (by decide) wf_X5_18 rfl <|
 T_iload_n dX5_move_37 rfl <|
 T_bipush dX5_move_38 bp_40 <|
 T_imul dX5_move_40 <|
 T_iload dX5_move_41 rfl <|
 T_iadd dX5_move_43 <|
 T_iload dX5_move_44 rfl <|
 T_copy (n := 320) dX5_move_46 wm_X5_37 c_5_0_3 (by decide) (by decide) (by decide) rfl (h6.2 z5).1 (h6.2 z5).2.1 (h6.2 z5).2.2.1 (h6.2 z5).2.2.2.1 (h6.2 z5).2.2.2.2.1 ⟨Nat.le_of_ble_eq_true rfl, Nat.le_of_ble_eq_true rfl⟩ <|
 T_return dX5_move_49 rfl (h6.2 z5).2.2.2.2.2))))))))
theorem rX5_lose_0 {X : Nat × (Nat → Int32)} {a1 : Int32} {M : Mem} {Q : Option PV → Mem → Prop} (h : TT X kX5_isNumber 0 [some (pR (5, 0, 0)), some (pI a1)] [] M (rI fun v2 M1 => (v2 = 0 → Q none M1) ∧ (¬ v2 = 0 → vp_in a1 8 ∧ (vp_in a1 8 ∧ (Q none (mset (mset M1 5 0 1 (Int32.toNatClampNeg a1) (-1)) 5 0 2 (Int32.toNatClampNeg a1) 0)))))) : TT X kX5_lose 0 [some (pR (5, 0, 0)), some (pI a1)] [] M Q :=
 T_aload_n dX5_lose_0 rfl <|
 T_iload_n dX5_lose_1 rfl <|
 T_callVi (k' := kX5_isNumber) (vs := [pI a1]) (st := []) dX5_lose_2 wm_X5_21 okX5_isNumber rfl c_5_0_0 rfl rfl rfl (Nat.le_of_ble_eq_true rfl) rfl (Nat.le_of_ble_eq_true rfl) (TT.mono h (rI_mono (fun v2 M1 h4 =>
 T_if_eq (tgt := 22) dX5_lose_5 (by decide) (fun z3 =>
 T_return dX5_lose_22 rfl (h4.1 z3)) (fun z3 =>
 T_aload_n dX5_lose_8 rfl <|
 T_getR (C := RX5) (T := TX5) (N := 3) (f := 0) dX5_lose_9 c_5_0_0 rfl (by decide) wf_X5_11 rfl <|
 T_iload_n dX5_lose_12 rfl <|
 T_iconst dX5_lose_13 ic_m1 <|
 T_iast (n := 8) dX5_lose_14 c_5_0_1 (by decide) (by decide) (by decide) rfl (h4.2 z3).1 <|
 T_aload_n dX5_lose_15 rfl <|
 T_getR (C := RX5) (T := TX5) (N := 3) (f := 1) dX5_lose_16 c_5_0_0 rfl (by decide) wf_X5_15 rfl <|
 T_iload_n dX5_lose_19 rfl <|
 T_iconst dX5_lose_20 ic_0 <|
 T_iast (n := 8) dX5_lose_21 c_5_0_2 (by decide) (by decide) (by decide) rfl (h4.2 z3).2.1 <|
 T_return dX5_lose_22 rfl (h4.2 z3).2.2))))
theorem rX5_there_0 {X : Nat × (Nat → Int32)}  {M : Mem} {Q : Option PV → Mem → Prop} (h : TT X kX5_there 4 [some (pR (5, 0, 0)), some (pI 0), some (pI 0)] [] M Q) : TT X kX5_there 0 [some (pR (5, 0, 0)), none, none] [] M Q :=
 T_iconst dX5_there_0 ic_0 <|
 T_istore_n dX5_there_1 (by decide) rfl rfl <|
 T_iconst dX5_there_2 ic_0 <|
 T_istore_n dX5_there_3 (by decide) rfl rfl <|
 h
theorem rX5_there_4 {X : Nat × (Nat → Int32)} {b1 : Int32} {b2 : Int32} {M : Mem} {Q : Option PV → Mem → Prop} (h : (8 ≤ b2 → Q (some (pI b1)) M) ∧ (¬ 8 ≤ b2 → vp_in b2 8 ∧ (((M 5 0 1 (Int32.toNatClampNeg b2)) = (-1) → TT X kX5_there 4 [some (pR (5, 0, 0)), some (pI b1), some (pI (b2 + 1))] [] M Q) ∧ (¬ (M 5 0 1 (Int32.toNatClampNeg b2)) = (-1) → TT X kX5_there 4 [some (pR (5, 0, 0)), some (pI (b1 + 1)), some (pI (b2 + 1))] [] M Q)))) : TT X kX5_there 4 [some (pR (5, 0, 0)), some (pI b1), some (pI b2)] [] M Q :=
 T_iload_n dX5_there_4 rfl <|
 T_bipush dX5_there_5 bp_8 <|
 T_icmp_ge (tgt := 29) dX5_there_7 (by decide) (fun z2 =>
 T_iload_n dX5_there_29 rfl <|
 T_ireturn (ty := .int) dX5_there_30 rfl rfl (h.1 z2)) (fun z2 =>
 T_aload_n dX5_there_10 rfl <|
 T_getR (C := RX5) (T := TX5) (N := 3) (f := 0) dX5_there_11 c_5_0_0 rfl (by decide) wf_X5_11 rfl <|
 T_iload_n dX5_there_14 rfl <|
 T_iald (n := 8) dX5_there_15 c_5_0_1 (by decide) (by decide) (by decide) rfl (h.2 z2).1 <|
 T_iconst dX5_there_16 ic_m1 <|
 T_icmp_eq (tgt := 23) dX5_there_17 (by decide) (fun z1 =>
 T_iinc dX5_there_23 rfl (ii_1 _) (by decide) rfl rfl <|
 T_goto (tgt := 4) dX5_there_26 (by decide) <|
 ((h.2 z2).2.1 z1)) (fun z1 =>
 T_iinc dX5_there_20 rfl (ii_1 _) (by decide) rfl rfl <|
 T_iinc dX5_there_23 rfl (ii_1 _) (by decide) rfl rfl <|
 T_goto (tgt := 4) dX5_there_26 (by decide) <|
 ((h.2 z2).2.2 z1)))
