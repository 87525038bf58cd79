theorem rX4_bytes_0 {X : Nat × (Nat → Int32)}  {M : Mem} {Q : Option PV → Mem → Prop} (h : Q (some (pI (M 4 0 0 1))) M) : TT X kX4_bytes 0 [some (pR (4, 0, 0))] [] M Q :=
 T_aload_n dX4_bytes_0 rfl <|
 T_getI (C := RX4) (T := TX4) (N := 7) (f := 1) dX4_bytes_1 c_4_0_0 rfl (by decide) wf_X4_13 rfl <|
 T_ireturn (ty := .int) dX4_bytes_4 rfl rfl h
theorem rX4_hasRoomFor_0 {X : Nat × (Nat → Int32)} {a1 : Int32} {M : Mem} {Q : Option PV → Mem → Prop} (h : (a1 < 0 → Q (some (pI 0)) M) ∧ (¬ a1 < 0 → ((400 - (M 4 0 0 1)) < a1 → Q (some (pI 0)) M) ∧ (¬ (400 - (M 4 0 0 1)) < a1 → Q (some (pI 1)) M))) : TT X kX4_hasRoomFor 0 [some (pR (4, 0, 0)), some (pI a1)] [] M Q :=
 T_iload_n dX4_hasRoomFor_0 rfl <|
 T_if_lt (tgt := 20) dX4_hasRoomFor_1 (by decide) (fun z2 =>
 T_iconst dX4_hasRoomFor_20 ic_0 <|
 T_ireturn (ty := .boolean) dX4_hasRoomFor_21 rfl rfl (h.1 z2)) (fun z2 =>
 T_iload_n dX4_hasRoomFor_4 rfl <|
 T_sipush dX4_hasRoomFor_5 sp_400 <|
 T_aload_n dX4_hasRoomFor_8 rfl <|
 T_getI (C := RX4) (T := TX4) (N := 7) (f := 1) dX4_hasRoomFor_9 c_4_0_0 rfl (by decide) wf_X4_13 rfl <|
 T_isub dX4_hasRoomFor_12 <|
 T_icmp_gt (tgt := 20) dX4_hasRoomFor_13 (by decide) (fun z1 =>
 T_iconst dX4_hasRoomFor_20 ic_0 <|
 T_ireturn (ty := .boolean) dX4_hasRoomFor_21 rfl rfl ((h.2 z2).1 z1)) (fun z1 =>
 T_iconst dX4_hasRoomFor_16 ic_1 <|
 T_goto (tgt := 21) dX4_hasRoomFor_17 (by decide) <|
 T_ireturn (ty := .boolean) dX4_hasRoomFor_21 rfl rfl ((h.2 z2).2 z1)))
theorem rX4_append_0 {X : Nat × (Nat → Int32)} {a1 : Int64} {a2 : Int32} {M : Mem} {Q : Option PV → Mem → Prop} (h : TT X kX4_append 5 [some (pR (4, 0, 0)), some (pL a1), none, some (pI a2), some (pI (a2 - 1))] [] M Q) : TT X kX4_append 0 [some (pR (4, 0, 0)), some (pL a1), none, some (pI a2), none] [] M Q :=
 T_iload_n dX4_append_0 rfl <|
 T_iconst dX4_append_1 ic_1 <|
 T_isub dX4_append_2 <|
 T_istore dX4_append_3 (by decide) rfl rfl <|
 h
theorem rX4_append_5 {X : Nat × (Nat → Int32)} {b1 : Int64} {b3 : Int32} {b4 : Int32} {M : Mem} {Q : Option PV → Mem → Prop} (h : (b4 < 0 → Q (some (pI (M 4 0 0 1))) M) ∧ (¬ b4 < 0 → (400 ≤ (M 4 0 0 1) → Q (some (pI (M 4 0 0 1))) M) ∧ (¬ 400 ≤ (M 4 0 0 1) → vp_in (M 4 0 0 1) 400 ∧ (TT X kX4_append 5 [some (pR (4, 0, 0)), some (pL b1), none, some (pI b3), some (pI (b4 + (-1)))] [] (mset (mset M 4 0 1 (Int32.toNatClampNeg (M 4 0 0 1)) (Int64.toInt32 (((Int64.toUInt64 b1 >>> ((Int32.toInt64 (8 * b4)).toUInt64 &&& Int64.toUInt64 63)).toInt64) &&& 255))) 4 0 0 1 (((mset M 4 0 1 (Int32.toNatClampNeg (M 4 0 0 1)) (Int64.toInt32 (((Int64.toUInt64 b1 >>> ((Int32.toInt64 (8 * b4)).toUInt64 &&& Int64.toUInt64 63)).toInt64) &&& 255))) 4 0 0 1) + 1)) Q)))) : TT X kX4_append 5 [some (pR (4, 0, 0)), some (pL b1), none, some (pI b3), some (pI b4)] [] M Q :=
 T_iload dX4_append_5 rfl <|
 T_if_lt (tgt := 57) dX4_append_7 (by decide) (fun z2 =>
 T_aload_n dX4_append_57 rfl <|
 T_getI (C := RX4) (T := TX4) (N := 7) (f := 1) dX4_append_58 c_4_0_0 rfl (by decide) wf_X4_13 rfl <|
 T_ireturn (ty := .int) dX4_append_61 rfl rfl (h.1 z2)) (fun z2 =>
 T_aload_n dX4_append_10 rfl <|
 T_getI (C := RX4) (T := TX4) (N := 7) (f := 1) dX4_append_11 c_4_0_0 rfl (by decide) wf_X4_13 rfl <|
 T_sipush dX4_append_14 sp_400 <|
 T_icmp_ge (tgt := 57) dX4_append_17 (by decide) (fun z1 =>
 T_aload_n dX4_append_57 rfl <|
 T_getI (C := RX4) (T := TX4) (N := 7) (f := 1) dX4_append_58 c_4_0_0 rfl (by decide) wf_X4_13 rfl <|
 T_ireturn (ty := .int) dX4_append_61 rfl rfl ((h.2 z2).1 z1)) (fun z1 =>
 T_aload_n dX4_append_20 rfl <|
 T_getR (C := RX4) (T := TX4) (N := 7) (f := 0) dX4_append_21 c_4_0_0 rfl (by decide) wf_X4_9 rfl <|
 T_aload_n dX4_append_24 rfl <|
 T_getI (C := RX4) (T := TX4) (N := 7) (f := 1) dX4_append_25 c_4_0_0 rfl (by decide) wf_X4_13 rfl <|
 T_lload_n dX4_append_28 rfl <|
 T_bipush dX4_append_29 bp_8 <|
 T_iload dX4_append_31 rfl <|
 T_imul dX4_append_33 <|
 T_lushr dX4_append_34 <|
 T_ldc2 dX4_append_35 wl_X4_17 <|
 T_land dX4_append_38 <|
 T_l2i dX4_append_39 <|
 T_iast (n := 400) dX4_append_40 c_4_0_1 (by decide) (by decide) (by decide) rfl ((h.2 z2).2 z1).1 <|
 T_aload_n dX4_append_41 rfl <|
 T_dupR dX4_append_42 <|
 T_getI (C := RX4) (T := TX4) (N := 7) (f := 1) dX4_append_43 c_4_0_0 rfl (by decide) wf_X4_13 rfl <|
 T_iconst dX4_append_46 ic_1 <|
 T_iadd dX4_append_47 <|
 T_putI (C := RX4) (T := TX4) (N := 7) (f := 1) dX4_append_48 c_4_0_0 rfl (by decide) wf_X4_13 rfl rfl rfl <|
 T_iinc dX4_append_51 rfl (ii_m1 _) (by decide) rfl rfl <|
 T_goto (tgt := 5) dX4_append_54 (by decide) <|
 ((h.2 z2).2 z1).2))
theorem rX4_place_0 {X : Nat × (Nat → Int32)}  {M : Mem} {Q : Option PV → Mem → Prop} (h : Q (some (pI (M 4 0 0 3))) M) : TT X kX4_place 0 [some (pR (4, 0, 0))] [] M Q :=
 T_aload_n dX4_place_0 rfl <|
 T_getI (C := RX4) (T := TX4) (N := 7) (f := 3) dX4_place_1 c_4_0_0 rfl (by decide) wf_X4_19 rfl <|
 T_ireturn (ty := .int) dX4_place_4 rfl rfl h
theorem rX4_read_0 {X : Nat × (Nat → Int32)} {j1 : Nat} (hj1 : j1 < 5) {M : Mem} {Q : Option PV → Mem → Prop} (h : TT X kX6_clear 0 [some (pR (6, j1, 0))] [] M (rV fun M1 => TT X kX4_advance 0 [some (pR (4, 0, 0)), none] [] (mset (mset M1 4 0 0 2 0) 4 0 0 6 0) (rV fun M3 => TT X kX4_isWord 0 [some (pR (4, 0, 0)), some (pR (10, 0, 0)), none] [] M3 (rI fun v6 M5 => (¬ v6 = 0 → TT X kX4_read 34 [some (pR (4, 0, 0)), some (pR (6, j1, 0)), some (pI 0)] [] M5 Q) ∧ (v6 = 0 → TT X kX4_fail 0 [some (pR (4, 0, 0)), some (pI 1)] [] M5 (rV fun M7 => TT X kX4_read 34 [some (pR (4, 0, 0)), some (pR (6, j1, 0)), some (pI 0)] [] M7 Q)))))) : TT X kX4_read 0 [some (pR (4, 0, 0)), some (pR (6, j1, 0)), none] [] M Q :=
 T_aload_n dX4_read_0 rfl <|
 T_callVv (k' := kX6_clear) (vs := []) (st := []) dX4_read_1 wm_X4_22 okX6_clear rfl (cc6_0 hj1) rfl rfl rfl (Nat.le_of_ble_eq_true rfl) rfl (Nat.le_of_ble_eq_true rfl) (TT.mono h (rV_mono (fun M1 h13 =>
 T_aload_n dX4_read_4 rfl <|
 T_iconst dX4_read_5 ic_0 <|
 T_putI (C := RX4) (T := TX4) (N := 7) (f := 2) dX4_read_6 c_4_0_0 rfl (by decide) wf_X4_27 rfl rfl rfl <|
 T_aload_n dX4_read_9 rfl <|
 T_iconst dX4_read_10 ic_0 <|
 T_putI (C := RX4) (T := TX4) (N := 7) (f := 6) dX4_read_11 c_4_0_0 rfl (by decide) wf_X4_30 rfl rfl rfl <|
 T_aload_n dX4_read_14 rfl <|
 T_callVv (k' := kX4_advance) (vs := []) (st := []) dX4_read_15 wm_X4_33 okX4_advance rfl c_4_0_0 rfl rfl rfl (Nat.le_of_ble_eq_true rfl) rfl (Nat.le_of_ble_eq_true rfl) (TT.mono h13 (rV_mono (fun M3 h12 =>
 T_aload_n dX4_read_18 rfl <|
 T_ldcS0 dX4_read_19 rfl <|
 T_callVi (k' := kX4_isWord) (vs := [pR (10, 0, 0)]) (st := []) dX4_read_21 wm_X4_38 okX4_isWord rfl c_4_0_0 rfl rfl rfl (Nat.le_of_ble_eq_true rfl) rfl (Nat.le_of_ble_eq_true rfl) (TT.mono h12 (rI_mono (fun v6 M5 h11 =>
 T_if_ne (tgt := 32) dX4_read_24 (by decide) (fun z10 =>
 T_iconst dX4_read_32 ic_0 <|
 T_istore_n dX4_read_33 (by decide) rfl rfl <|
 (h11.1 z10)) (fun z10 =>
 T_aload_n dX4_read_27 rfl <|
 T_iconst dX4_read_28 ic_1 <|
 T_callVv (k' := kX4_fail) (vs := [pI 1]) (st := []) dX4_read_29 wm_X4_42 okX4_fail rfl c_4_0_0 rfl rfl rfl (Nat.le_of_ble_eq_true rfl) rfl (Nat.le_of_ble_eq_true rfl) (TT.mono (h11.2 z10) (rV_mono (fun M7 h9 =>
 T_iconst dX4_read_32 ic_0 <|
 T_istore_n dX4_read_33 (by decide) rfl rfl <|
 h9)))))))))))))
theorem rX4_read_34 {X : Nat × (Nat → Int32)} {j1 : Nat} (hj1 : j1 < 5) {b2 : Int32} {M : Mem} {Q : Option PV → Mem → Prop} (h : (18 < b2 → TT X kX4_read 69 [some (pR (4, 0, 0)), some (pR (6, j1, 0)), some (pI 0)] [] M Q) ∧ (¬ 18 < b2 → (¬ (M 4 0 0 6) = 0 → TT X kX4_read 69 [some (pR (4, 0, 0)), some (pR (6, j1, 0)), some (pI 0)] [] M Q) ∧ ((M 4 0 0 6) = 0 → TT X kX4_isWord 0 [some (pR (4, 0, 0)), some (pR (10, 0, 0)), none] [] M (rI fun v15 M14 => (v15 = 0 → TT X kX4_read 69 [some (pR (4, 0, 0)), some (pR (6, j1, 0)), some (pI 0)] [] M14 Q) ∧ (¬ v15 = 0 → TT X kX4_readStep 0 [some (pR (4, 0, 0)), some (pR (6, j1, 0)), none, none] [] M14 (rV fun M16 => TT X kX4_read 34 [some (pR (4, 0, 0)), some (pR (6, j1, 0)), some (pI (b2 + 1))] [] M16 Q)))))) : TT X kX4_read 34 [some (pR (4, 0, 0)), some (pR (6, j1, 0)), some (pI b2)] [] M Q :=
 T_iload_n dX4_read_34 rfl <|
 T_bipush dX4_read_35 bp_18 <|
 T_icmp_gt (tgt := 67) dX4_read_37 (by decide) (fun z22 =>
 T_iconst dX4_read_67 ic_0 <|
 T_istore_n dX4_read_68 (by decide) rfl rfl <|
 (h.1 z22)) (fun z22 =>
 T_aload_n dX4_read_40 rfl <|
 T_getI (C := RX4) (T := TX4) (N := 7) (f := 6) dX4_read_41 c_4_0_0 rfl (by decide) wf_X4_30 rfl <|
 T_if_ne (tgt := 67) dX4_read_44 (by decide) (fun z21 =>
 T_iconst dX4_read_67 ic_0 <|
 T_istore_n dX4_read_68 (by decide) rfl rfl <|
 ((h.2 z22).1 z21)) (fun z21 =>
 T_aload_n dX4_read_47 rfl <|
 T_ldcS0 dX4_read_48 rfl <|
 T_callVi (k' := kX4_isWord) (vs := [pR (10, 0, 0)]) (st := []) dX4_read_50 wm_X4_38 okX4_isWord rfl c_4_0_0 rfl rfl rfl (Nat.le_of_ble_eq_true rfl) rfl (Nat.le_of_ble_eq_true rfl) (TT.mono ((h.2 z22).2 z21) (rI_mono (fun v15 M14 h20 =>
 T_if_eq (tgt := 67) dX4_read_53 (by decide) (fun z19 =>
 T_iconst dX4_read_67 ic_0 <|
 T_istore_n dX4_read_68 (by decide) rfl rfl <|
 (h20.1 z19)) (fun z19 =>
 T_aload_n dX4_read_56 rfl <|
 T_aload_n dX4_read_57 rfl <|
 T_callVv (k' := kX4_readStep) (vs := [pR (6, j1, 0)]) (st := []) dX4_read_58 wm_X4_46 okX4_readStep rfl c_4_0_0 rfl rfl rfl (Nat.le_of_ble_eq_true rfl) rfl (Nat.le_of_ble_eq_true rfl) (TT.mono (h20.2 z19) (rV_mono (fun M16 h18 =>
 T_iinc dX4_read_61 rfl (ii_1 _) (by decide) rfl rfl <|
 T_goto (tgt := 34) dX4_read_64 (by decide) <|
 h18)))))))))
theorem rX4_read_69 {X : Nat × (Nat → Int32)} {j1 : Nat} (hj1 : j1 < 5) {b2 : Int32} {M : Mem} {Q : Option PV → Mem → Prop} (h : (6 < b2 → ((M 4 0 0 4) = 0 → Q (some (pI ((mset M 4 0 0 1 0) 4 0 0 6))) (mset M 4 0 0 1 0)) ∧ (¬ (M 4 0 0 4) = 0 → TT X kX4_fail 0 [some (pR (4, 0, 0)), some (pI 1)] [] M (rV fun M23 => Q (some (pI ((mset M23 4 0 0 1 0) 4 0 0 6))) (mset M23 4 0 0 1 0)))) ∧ (¬ 6 < b2 → (¬ (M 4 0 0 6) = 0 → ((M 4 0 0 4) = 0 → Q (some (pI ((mset M 4 0 0 1 0) 4 0 0 6))) (mset M 4 0 0 1 0)) ∧ (¬ (M 4 0 0 4) = 0 → TT X kX4_fail 0 [some (pR (4, 0, 0)), some (pI 1)] [] M (rV fun M27 => Q (some (pI ((mset M27 4 0 0 1 0) 4 0 0 6))) (mset M27 4 0 0 1 0)))) ∧ ((M 4 0 0 6) = 0 → TT X kX4_isWord 0 [some (pR (4, 0, 0)), some (pR (10, 1, 0)), none] [] M (rI fun v32 M31 => (v32 = 0 → ((M31 4 0 0 4) = 0 → Q (some (pI ((mset M31 4 0 0 1 0) 4 0 0 6))) (mset M31 4 0 0 1 0)) ∧ (¬ (M31 4 0 0 4) = 0 → TT X kX4_fail 0 [some (pR (4, 0, 0)), some (pI 1)] [] M31 (rV fun M33 => Q (some (pI ((mset M33 4 0 0 1 0) 4 0 0 6))) (mset M33 4 0 0 1 0)))) ∧ (¬ v32 = 0 → TT X kX4_readWalker 0 [some (pR (4, 0, 0)), some (pR (6, j1, 0)), none, none, none, none] [] M31 (rV fun M37 => TT X kX4_read 69 [some (pR (4, 0, 0)), some (pR (6, j1, 0)), some (pI (b2 + 1))] [] M37 Q)))))) : TT X kX4_read 69 [some (pR (4, 0, 0)), some (pR (6, j1, 0)), some (pI b2)] [] M Q :=
 T_iload_n dX4_read_69 rfl <|
 T_bipush dX4_read_70 bp_6 <|
 T_icmp_gt (tgt := 102) dX4_read_72 (by decide) (fun z43 =>
 T_aload_n dX4_read_102 rfl <|
 T_getI (C := RX4) (T := TX4) (N := 7) (f := 4) dX4_read_103 c_4_0_0 rfl (by decide) wf_X4_55 rfl <|
 T_if_eq (tgt := 114) dX4_read_106 (by decide) (fun z26 =>
 T_aload_n dX4_read_114 rfl <|
 T_iconst dX4_read_115 ic_0 <|
 T_putI (C := RX4) (T := TX4) (N := 7) (f := 1) dX4_read_116 c_4_0_0 rfl (by decide) wf_X4_13 rfl rfl rfl <|
 T_aload_n dX4_read_119 rfl <|
 T_getI (C := RX4) (T := TX4) (N := 7) (f := 6) dX4_read_120 c_4_0_0 rfl (by decide) wf_X4_30 rfl <|
 T_ireturn (ty := .int) dX4_read_123 rfl rfl ((h.1 z43).1 z26)) (fun z26 =>
 T_aload_n dX4_read_109 rfl <|
 T_iconst dX4_read_110 ic_1 <|
 T_callVv (k' := kX4_fail) (vs := [pI 1]) (st := []) dX4_read_111 wm_X4_42 okX4_fail rfl c_4_0_0 rfl rfl rfl (Nat.le_of_ble_eq_true rfl) rfl (Nat.le_of_ble_eq_true rfl) (TT.mono ((h.1 z43).2 z26) (rV_mono (fun M23 h25 =>
 T_aload_n dX4_read_114 rfl <|
 T_iconst dX4_read_115 ic_0 <|
 T_putI (C := RX4) (T := TX4) (N := 7) (f := 1) dX4_read_116 c_4_0_0 rfl (by decide) wf_X4_13 rfl rfl rfl <|
 T_aload_n dX4_read_119 rfl <|
 T_getI (C := RX4) (T := TX4) (N := 7) (f := 6) dX4_read_120 c_4_0_0 rfl (by decide) wf_X4_30 rfl <|
 T_ireturn (ty := .int) dX4_read_123 rfl rfl h25))))) (fun z43 =>
 T_aload_n dX4_read_75 rfl <|
 T_getI (C := RX4) (T := TX4) (N := 7) (f := 6) dX4_read_76 c_4_0_0 rfl (by decide) wf_X4_30 rfl <|
 T_if_ne (tgt := 102) dX4_read_79 (by decide) (fun z42 =>
 T_aload_n dX4_read_102 rfl <|
 T_getI (C := RX4) (T := TX4) (N := 7) (f := 4) dX4_read_103 c_4_0_0 rfl (by decide) wf_X4_55 rfl <|
 T_if_eq (tgt := 114) dX4_read_106 (by decide) (fun z30 =>
 T_aload_n dX4_read_114 rfl <|
 T_iconst dX4_read_115 ic_0 <|
 T_putI (C := RX4) (T := TX4) (N := 7) (f := 1) dX4_read_116 c_4_0_0 rfl (by decide) wf_X4_13 rfl rfl rfl <|
 T_aload_n dX4_read_119 rfl <|
 T_getI (C := RX4) (T := TX4) (N := 7) (f := 6) dX4_read_120 c_4_0_0 rfl (by decide) wf_X4_30 rfl <|
 T_ireturn (ty := .int) dX4_read_123 rfl rfl (((h.2 z43).1 z42).1 z30)) (fun z30 =>
 T_aload_n dX4_read_109 rfl <|
 T_iconst dX4_read_110 ic_1 <|
 T_callVv (k' := kX4_fail) (vs := [pI 1]) (st := []) dX4_read_111 wm_X4_42 okX4_fail rfl c_4_0_0 rfl rfl rfl (Nat.le_of_ble_eq_true rfl) rfl (Nat.le_of_ble_eq_true rfl) (TT.mono (((h.2 z43).1 z42).2 z30) (rV_mono (fun M27 h29 =>
 T_aload_n dX4_read_114 rfl <|
 T_iconst dX4_read_115 ic_0 <|
 T_putI (C := RX4) (T := TX4) (N := 7) (f := 1) dX4_read_116 c_4_0_0 rfl (by decide) wf_X4_13 rfl rfl rfl <|
 T_aload_n dX4_read_119 rfl <|
 T_getI (C := RX4) (T := TX4) (N := 7) (f := 6) dX4_read_120 c_4_0_0 rfl (by decide) wf_X4_30 rfl <|
 T_ireturn (ty := .int) dX4_read_123 rfl rfl h29))))) (fun z42 =>
 T_aload_n dX4_read_82 rfl <|
 T_ldcS1 dX4_read_83 rfl <|
 T_callVi (k' := kX4_isWord) (vs := [pR (10, 1, 0)]) (st := []) dX4_read_85 wm_X4_38 okX4_isWord rfl c_4_0_0 rfl rfl rfl (Nat.le_of_ble_eq_true rfl) rfl (Nat.le_of_ble_eq_true rfl) (TT.mono ((h.2 z43).2 z42) (rI_mono (fun v32 M31 h41 =>
 T_if_eq (tgt := 102) dX4_read_88 (by decide) (fun z40 =>
 T_aload_n dX4_read_102 rfl <|
 T_getI (C := RX4) (T := TX4) (N := 7) (f := 4) dX4_read_103 c_4_0_0 rfl (by decide) wf_X4_55 rfl <|
 T_if_eq (tgt := 114) dX4_read_106 (by decide) (fun z36 =>
 T_aload_n dX4_read_114 rfl <|
 T_iconst dX4_read_115 ic_0 <|
 T_putI (C := RX4) (T := TX4) (N := 7) (f := 1) dX4_read_116 c_4_0_0 rfl (by decide) wf_X4_13 rfl rfl rfl <|
 T_aload_n dX4_read_119 rfl <|
 T_getI (C := RX4) (T := TX4) (N := 7) (f := 6) dX4_read_120 c_4_0_0 rfl (by decide) wf_X4_30 rfl <|
 T_ireturn (ty := .int) dX4_read_123 rfl rfl ((h41.1 z40).1 z36)) (fun z36 =>
 T_aload_n dX4_read_109 rfl <|
 T_iconst dX4_read_110 ic_1 <|
 T_callVv (k' := kX4_fail) (vs := [pI 1]) (st := []) dX4_read_111 wm_X4_42 okX4_fail rfl c_4_0_0 rfl rfl rfl (Nat.le_of_ble_eq_true rfl) rfl (Nat.le_of_ble_eq_true rfl) (TT.mono ((h41.1 z40).2 z36) (rV_mono (fun M33 h35 =>
 T_aload_n dX4_read_114 rfl <|
 T_iconst dX4_read_115 ic_0 <|
 T_putI (C := RX4) (T := TX4) (N := 7) (f := 1) dX4_read_116 c_4_0_0 rfl (by decide) wf_X4_13 rfl rfl rfl <|
 T_aload_n dX4_read_119 rfl <|
 T_getI (C := RX4) (T := TX4) (N := 7) (f := 6) dX4_read_120 c_4_0_0 rfl (by decide) wf_X4_30 rfl <|
 T_ireturn (ty := .int) dX4_read_123 rfl rfl h35))))) (fun z40 =>
 T_aload_n dX4_read_91 rfl <|
 T_aload_n dX4_read_92 rfl <|
 T_callVv (k' := kX4_readWalker) (vs := [pR (6, j1, 0)]) (st := []) dX4_read_93 wm_X4_52 okX4_readWalker rfl c_4_0_0 rfl rfl rfl (Nat.le_of_ble_eq_true rfl) rfl (Nat.le_of_ble_eq_true rfl) (TT.mono (h41.2 z40) (rV_mono (fun M37 h39 =>
 T_iinc dX4_read_96 rfl (ii_1 _) (by decide) rfl rfl <|
 T_goto (tgt := 69) dX4_read_99 (by decide) <|
 h39)))))))))
theorem rX4_fail_0 {X : Nat × (Nat → Int32)} {a1 : Int32} {M : Mem} {Q : Option PV → Mem → Prop} (h : (¬ (M 4 0 0 6) = 0 → Q none M) ∧ ((M 4 0 0 6) = 0 → Q none (mset M 4 0 0 6 a1))) : TT X kX4_fail 0 [some (pR (4, 0, 0)), some (pI a1)] [] M Q :=
 T_aload_n dX4_fail_0 rfl <|
 T_getI (C := RX4) (T := TX4) (N := 7) (f := 6) dX4_fail_1 c_4_0_0 rfl (by decide) wf_X4_30 rfl <|
 T_if_ne (tgt := 12) dX4_fail_4 (by decide) (fun z1 =>
 T_return dX4_fail_12 rfl (h.1 z1)) (fun z1 =>
 T_aload_n dX4_fail_7 rfl <|
 T_iload_n dX4_fail_8 rfl <|
 T_putI (C := RX4) (T := TX4) (N := 7) (f := 6) dX4_fail_9 c_4_0_0 rfl (by decide) wf_X4_30 rfl rfl rfl <|
 T_return dX4_fail_12 rfl (h.2 z1))
theorem rX4_readStep_0 {X : Nat × (Nat → Int32)} {j1 : Nat} (hj1 : j1 < 5) {M : Mem} {Q : Option PV → Mem → Prop} (h : (18 ≤ (M 6 j1 0 0) → TT X kX4_passWord 0 [some (pR (4, 0, 0)), some (pI 0)] [] M (rV fun M1 => TT X kX4_number 0 [some (pR (4, 0, 0)), some (pI 0), some (pI 4), none] [] M1 (rI fun v4 M3 => TT X kX4_number 0 [some (pR (4, 0, 0)), some (pI 0), some (pI 20), none] [] M3 (rI fun v6 M5 => TT X kX4_passSign 0 [some (pR (4, 0, 0))] [] M5 (rV fun M7 => (¬ (M7 4 0 0 6) = 0 → Q none M7) ∧ ((M7 4 0 0 6) = 0 → TT X kX6_addStep 0 [some (pR (6, j1, 0)), some (pI v4), some (pI v6)] [] M7 (rV fun M9 => Q none M9))))))) ∧ (¬ 18 ≤ (M 6 j1 0 0) → TT X kX4_passWord 0 [some (pR (4, 0, 0)), some (pI 1)] [] M (rV fun M17 => TT X kX4_number 0 [some (pR (4, 0, 0)), some (pI 0), some (pI 4), none] [] M17 (rI fun v20 M19 => TT X kX4_number 0 [some (pR (4, 0, 0)), some (pI 0), some (pI 20), none] [] M19 (rI fun v22 M21 => TT X kX4_passSign 0 [some (pR (4, 0, 0))] [] M21 (rV fun M23 => (¬ (M23 4 0 0 6) = 0 → Q none M23) ∧ ((M23 4 0 0 6) = 0 → TT X kX6_addStep 0 [some (pR (6, j1, 0)), some (pI v20), some (pI v22)] [] M23 (rV fun M25 => Q none M25)))))))) : TT X kX4_readStep 0 [some (pR (4, 0, 0)), some (pR (6, j1, 0)), none, none] [] M Q :=
 T_aload_n dX4_readStep_0 rfl <|
 T_aload_n dX4_readStep_1 rfl <|
 T_getI (C := RX6) (T := TX6) (N := 9) (f := 0) dX4_readStep_2 (cc6_0 hj1) rfl (by decide) wf_X4_58 rfl <|
 T_bipush dX4_readStep_5 bp_18 <|
 T_icmp_ge (tgt := 14) dX4_readStep_7 (by decide) (fun z33 =>
 T_iconst dX4_readStep_14 ic_0 <|
 T_callVv (k' := kX4_passWord) (vs := [pI 0]) (st := []) dX4_readStep_15 wm_X4_61 okX4_passWord rfl c_4_0_0 rfl rfl rfl (Nat.le_of_ble_eq_true rfl) rfl (Nat.le_of_ble_eq_true rfl) (TT.mono (h.1 z33) (rV_mono (fun M1 h16 =>
 T_aload_n dX4_readStep_18 rfl <|
 T_iconst dX4_readStep_19 ic_0 <|
 T_iconst dX4_readStep_20 ic_4 <|
 T_callVi (k' := kX4_number) (vs := [pI 0, pI 4]) (st := []) dX4_readStep_21 wm_X4_65 okX4_number rfl c_4_0_0 rfl rfl rfl (Nat.le_of_ble_eq_true rfl) rfl (Nat.le_of_ble_eq_true rfl) (TT.mono h16 (rI_mono (fun v4 M3 h15 =>
 T_istore_n dX4_readStep_24 (by decide) rfl rfl <|
 T_aload_n dX4_readStep_25 rfl <|
 T_iconst dX4_readStep_26 ic_0 <|
 T_bipush dX4_readStep_27 bp_20 <|
 T_callVi (k' := kX4_number) (vs := [pI 0, pI 20]) (st := []) dX4_readStep_29 wm_X4_65 okX4_number rfl c_4_0_0 rfl rfl rfl (Nat.le_of_ble_eq_true rfl) rfl (Nat.le_of_ble_eq_true rfl) (TT.mono h15 (rI_mono (fun v6 M5 h14 =>
 T_istore_n dX4_readStep_32 (by decide) rfl rfl <|
 T_aload_n dX4_readStep_33 rfl <|
 T_callVv (k' := kX4_passSign) (vs := []) (st := []) dX4_readStep_34 wm_X4_69 okX4_passSign rfl c_4_0_0 rfl rfl rfl (Nat.le_of_ble_eq_true rfl) rfl (Nat.le_of_ble_eq_true rfl) (TT.mono h14 (rV_mono (fun M7 h13 =>
 T_aload_n dX4_readStep_37 rfl <|
 T_getI (C := RX4) (T := TX4) (N := 7) (f := 6) dX4_readStep_38 c_4_0_0 rfl (by decide) wf_X4_30 rfl <|
 T_if_ne (tgt := 50) dX4_readStep_41 (by decide) (fun z12 =>
 T_return dX4_readStep_50 rfl (h13.1 z12)) (fun z12 =>
 T_aload_n dX4_readStep_44 rfl <|
 T_iload_n dX4_readStep_45 rfl <|
 T_iload_n dX4_readStep_46 rfl <|
 T_callVv (k' := kX6_addStep) (vs := [pI v4, pI v6]) (st := []) dX4_readStep_47 wm_X4_72 okX6_addStep rfl (cc6_0 hj1) rfl rfl rfl (Nat.le_of_ble_eq_true rfl) rfl (Nat.le_of_ble_eq_true rfl) (TT.mono (h13.2 z12) (rV_mono (fun M9 h11 =>
 T_return dX4_readStep_50 rfl h11))))))))))))))))) (fun z33 =>
 T_iconst dX4_readStep_10 ic_1 <|
 T_goto (tgt := 15) dX4_readStep_11 (by decide) <|
 T_callVv (k' := kX4_passWord) (vs := [pI 1]) (st := []) dX4_readStep_15 wm_X4_61 okX4_passWord rfl c_4_0_0 rfl rfl rfl (Nat.le_of_ble_eq_true rfl) rfl (Nat.le_of_ble_eq_true rfl) (TT.mono (h.2 z33) (rV_mono (fun M17 h32 =>
 T_aload_n dX4_readStep_18 rfl <|
 T_iconst dX4_readStep_19 ic_0 <|
 T_iconst dX4_readStep_20 ic_4 <|
 T_callVi (k' := kX4_number) (vs := [pI 0, pI 4]) (st := []) dX4_readStep_21 wm_X4_65 okX4_number rfl c_4_0_0 rfl rfl rfl (Nat.le_of_ble_eq_true rfl) rfl (Nat.le_of_ble_eq_true rfl) (TT.mono h32 (rI_mono (fun v20 M19 h31 =>
 T_istore_n dX4_readStep_24 (by decide) rfl rfl <|
 T_aload_n dX4_readStep_25 rfl <|
 T_iconst dX4_readStep_26 ic_0 <|
 T_bipush dX4_readStep_27 bp_20 <|
 T_callVi (k' := kX4_number) (vs := [pI 0, pI 20]) (st := []) dX4_readStep_29 wm_X4_65 okX4_number rfl c_4_0_0 rfl rfl rfl (Nat.le_of_ble_eq_true rfl) rfl (Nat.le_of_ble_eq_true rfl) (TT.mono h31 (rI_mono (fun v22 M21 h30 =>
 T_istore_n dX4_readStep_32 (by decide) rfl rfl <|
 T_aload_n dX4_readStep_33 rfl <|
 T_callVv (k' := kX4_passSign) (vs := []) (st := []) dX4_readStep_34 wm_X4_69 okX4_passSign rfl c_4_0_0 rfl rfl rfl (Nat.le_of_ble_eq_true rfl) rfl (Nat.le_of_ble_eq_true rfl) (TT.mono h30 (rV_mono (fun M23 h29 =>
 T_aload_n dX4_readStep_37 rfl <|
 T_getI (C := RX4) (T := TX4) (N := 7) (f := 6) dX4_readStep_38 c_4_0_0 rfl (by decide) wf_X4_30 rfl <|
 T_if_ne (tgt := 50) dX4_readStep_41 (by decide) (fun z28 =>
 T_return dX4_readStep_50 rfl (h29.1 z28)) (fun z28 =>
 T_aload_n dX4_readStep_44 rfl <|
 T_iload_n dX4_readStep_45 rfl <|
 T_iload_n dX4_readStep_46 rfl <|
 T_callVv (k' := kX6_addStep) (vs := [pI v20, pI v22]) (st := []) dX4_readStep_47 wm_X4_72 okX6_addStep rfl (cc6_0 hj1) rfl rfl rfl (Nat.le_of_ble_eq_true rfl) rfl (Nat.le_of_ble_eq_true rfl) (TT.mono (h29.2 z28) (rV_mono (fun M25 h27 =>
 T_return dX4_readStep_50 rfl h27)))))))))))))))))
theorem rX4_readWalker_0 {X : Nat × (Nat → Int32)} {j1 : Nat} (hj1 : j1 < 5) {M : Mem} {Q : Option PV → Mem → Prop} (h : (6 ≤ (M 6 j1 0 1) → TT X kX4_passWord 0 [some (pR (4, 0, 0)), some (pI 0)] [] M (rV fun M1 => TT X kX4_number 0 [some (pR (4, 0, 0)), some (pI 1), some (pI 3), none] [] M1 (rI fun v4 M3 => TT X kX4_number 0 [some (pR (4, 0, 0)), some (pI 0), some (pI 2), none] [] M3 (rI fun v6 M5 => TT X kX4_number 0 [some (pR (4, 0, 0)), some (pI 0), some (pI 200), none] [] M5 (rI fun v8 M7 => TT X kX4_number 0 [some (pR (4, 0, 0)), some (pI 1), some (pI 20), none] [] M7 (rI fun v10 M9 => TT X kX4_passSign 0 [some (pR (4, 0, 0))] [] M9 (rV fun M11 => (¬ (M11 4 0 0 6) = 0 → Q none M11) ∧ ((M11 4 0 0 6) = 0 → TT X kX6_addWalker 0 [some (pR (6, j1, 0)), some (pI v4), some (pI v6), some (pI v8), some (pI v10)] [] M11 (rV fun M13 => Q none M13))))))))) ∧ (¬ 6 ≤ (M 6 j1 0 1) → TT X kX4_passWord 0 [some (pR (4, 0, 0)), some (pI 1)] [] M (rV fun M23 => TT X kX4_number 0 [some (pR (4, 0, 0)), some (pI 1), some (pI 3), none] [] M23 (rI fun v26 M25 => TT X kX4_number 0 [some (pR (4, 0, 0)), some (pI 0), some (pI 2), none] [] M25 (rI fun v28 M27 => TT X kX4_number 0 [some (pR (4, 0, 0)), some (pI 0), some (pI 200), none] [] M27 (rI fun v30 M29 => TT X kX4_number 0 [some (pR (4, 0, 0)), some (pI 1), some (pI 20), none] [] M29 (rI fun v32 M31 => TT X kX4_passSign 0 [some (pR (4, 0, 0))] [] M31 (rV fun M33 => (¬ (M33 4 0 0 6) = 0 → Q none M33) ∧ ((M33 4 0 0 6) = 0 → TT X kX6_addWalker 0 [some (pR (6, j1, 0)), some (pI v26), some (pI v28), some (pI v30), some (pI v32)] [] M33 (rV fun M35 => Q none M35)))))))))) : TT X kX4_readWalker 0 [some (pR (4, 0, 0)), some (pR (6, j1, 0)), none, none, none, none] [] M Q :=
 T_aload_n dX4_readWalker_0 rfl <|
 T_aload_n dX4_readWalker_1 rfl <|
 T_getI (C := RX6) (T := TX6) (N := 9) (f := 1) dX4_readWalker_2 (cc6_0 hj1) rfl (by decide) wf_X4_76 rfl <|
 T_bipush dX4_readWalker_5 bp_6 <|
 T_icmp_ge (tgt := 14) dX4_readWalker_7 (by decide) (fun z45 =>
 T_iconst dX4_readWalker_14 ic_0 <|
 T_callVv (k' := kX4_passWord) (vs := [pI 0]) (st := []) dX4_readWalker_15 wm_X4_61 okX4_passWord rfl c_4_0_0 rfl rfl rfl (Nat.le_of_ble_eq_true rfl) rfl (Nat.le_of_ble_eq_true rfl) (TT.mono (h.1 z45) (rV_mono (fun M1 h22 =>
 T_aload_n dX4_readWalker_18 rfl <|
 T_iconst dX4_readWalker_19 ic_1 <|
 T_iconst dX4_readWalker_20 ic_3 <|
 T_callVi (k' := kX4_number) (vs := [pI 1, pI 3]) (st := []) dX4_readWalker_21 wm_X4_65 okX4_number rfl c_4_0_0 rfl rfl rfl (Nat.le_of_ble_eq_true rfl) rfl (Nat.le_of_ble_eq_true rfl) (TT.mono h22 (rI_mono (fun v4 M3 h21 =>
 T_istore_n dX4_readWalker_24 (by decide) rfl rfl <|
 T_aload_n dX4_readWalker_25 rfl <|
 T_iconst dX4_readWalker_26 ic_0 <|
 T_iconst dX4_readWalker_27 ic_2 <|
 T_callVi (k' := kX4_number) (vs := [pI 0, pI 2]) (st := []) dX4_readWalker_28 wm_X4_65 okX4_number rfl c_4_0_0 rfl rfl rfl (Nat.le_of_ble_eq_true rfl) rfl (Nat.le_of_ble_eq_true rfl) (TT.mono h21 (rI_mono (fun v6 M5 h20 =>
 T_istore_n dX4_readWalker_31 (by decide) rfl rfl <|
 T_aload_n dX4_readWalker_32 rfl <|
 T_iconst dX4_readWalker_33 ic_0 <|
 T_sipush dX4_readWalker_34 sp_200 <|
 T_callVi (k' := kX4_number) (vs := [pI 0, pI 200]) (st := []) dX4_readWalker_37 wm_X4_65 okX4_number rfl c_4_0_0 rfl rfl rfl (Nat.le_of_ble_eq_true rfl) rfl (Nat.le_of_ble_eq_true rfl) (TT.mono h20 (rI_mono (fun v8 M7 h19 =>
 T_istore dX4_readWalker_40 (by decide) rfl rfl <|
 T_aload_n dX4_readWalker_42 rfl <|
 T_iconst dX4_readWalker_43 ic_1 <|
 T_bipush dX4_readWalker_44 bp_20 <|
 T_callVi (k' := kX4_number) (vs := [pI 1, pI 20]) (st := []) dX4_readWalker_46 wm_X4_65 okX4_number rfl c_4_0_0 rfl rfl rfl (Nat.le_of_ble_eq_true rfl) rfl (Nat.le_of_ble_eq_true rfl) (TT.mono h19 (rI_mono (fun v10 M9 h18 =>
 T_istore dX4_readWalker_49 (by decide) rfl rfl <|
 T_aload_n dX4_readWalker_51 rfl <|
 T_callVv (k' := kX4_passSign) (vs := []) (st := []) dX4_readWalker_52 wm_X4_69 okX4_passSign rfl c_4_0_0 rfl rfl rfl (Nat.le_of_ble_eq_true rfl) rfl (Nat.le_of_ble_eq_true rfl) (TT.mono h18 (rV_mono (fun M11 h17 =>
 T_aload_n dX4_readWalker_55 rfl <|
 T_getI (C := RX4) (T := TX4) (N := 7) (f := 6) dX4_readWalker_56 c_4_0_0 rfl (by decide) wf_X4_30 rfl <|
 T_if_ne (tgt := 72) dX4_readWalker_59 (by decide) (fun z16 =>
 T_return dX4_readWalker_72 rfl (h17.1 z16)) (fun z16 =>
 T_aload_n dX4_readWalker_62 rfl <|
 T_iload_n dX4_readWalker_63 rfl <|
 T_iload_n dX4_readWalker_64 rfl <|
 T_iload dX4_readWalker_65 rfl <|
 T_iload dX4_readWalker_67 rfl <|
 T_callVv (k' := kX6_addWalker) (vs := [pI v4, pI v6, pI v8, pI v10]) (st := []) dX4_readWalker_69 wm_X4_79 okX6_addWalker rfl (cc6_0 hj1) rfl rfl rfl (Nat.le_of_ble_eq_true rfl) rfl (Nat.le_of_ble_eq_true rfl) (TT.mono (h17.2 z16) (rV_mono (fun M13 h15 =>
 T_return dX4_readWalker_72 rfl h15))))))))))))))))))))))) (fun z45 =>
 T_iconst dX4_readWalker_10 ic_1 <|
 T_goto (tgt := 15) dX4_readWalker_11 (by decide) <|
 T_callVv (k' := kX4_passWord) (vs := [pI 1]) (st := []) dX4_readWalker_15 wm_X4_61 okX4_passWord rfl c_4_0_0 rfl rfl rfl (Nat.le_of_ble_eq_true rfl) rfl (Nat.le_of_ble_eq_true rfl) (TT.mono (h.2 z45) (rV_mono (fun M23 h44 =>
 T_aload_n dX4_readWalker_18 rfl <|
 T_iconst dX4_readWalker_19 ic_1 <|
 T_iconst dX4_readWalker_20 ic_3 <|
 T_callVi (k' := kX4_number) (vs := [pI 1, pI 3]) (st := []) dX4_readWalker_21 wm_X4_65 okX4_number rfl c_4_0_0 rfl rfl rfl (Nat.le_of_ble_eq_true rfl) rfl (Nat.le_of_ble_eq_true rfl) (TT.mono h44 (rI_mono (fun v26 M25 h43 =>
 T_istore_n dX4_readWalker_24 (by decide) rfl rfl <|
 T_aload_n dX4_readWalker_25 rfl <|
 T_iconst dX4_readWalker_26 ic_0 <|
 T_iconst dX4_readWalker_27 ic_2 <|
 T_callVi (k' := kX4_number) (vs := [pI 0, pI 2]) (st := []) dX4_readWalker_28 wm_X4_65 okX4_number rfl c_4_0_0 rfl rfl rfl (Nat.le_of_ble_eq_true rfl) rfl (Nat.le_of_ble_eq_true rfl) (TT.mono h43 (rI_mono (fun v28 M27 h42 =>
 T_istore_n dX4_readWalker_31 (by decide) rfl rfl <|
 T_aload_n dX4_readWalker_32 rfl <|
 T_iconst dX4_readWalker_33 ic_0 <|
 T_sipush dX4_readWalker_34 sp_200 <|
 T_callVi (k' := kX4_number) (vs := [pI 0, pI 200]) (st := []) dX4_readWalker_37 wm_X4_65 okX4_number rfl c_4_0_0 rfl rfl rfl (Nat.le_of_ble_eq_true rfl) rfl (Nat.le_of_ble_eq_true rfl) (TT.mono h42 (rI_mono (fun v30 M29 h41 =>
 T_istore dX4_readWalker_40 (by decide) rfl rfl <|
 T_aload_n dX4_readWalker_42 rfl <|
 T_iconst dX4_readWalker_43 ic_1 <|
 T_bipush dX4_readWalker_44 bp_20 <|
 T_callVi (k' := kX4_number) (vs := [pI 1, pI 20]) (st := []) dX4_readWalker_46 wm_X4_65 okX4_number rfl c_4_0_0 rfl rfl rfl (Nat.le_of_ble_eq_true rfl) rfl (Nat.le_of_ble_eq_true rfl) (TT.mono h41 (rI_mono (fun v32 M31 h40 =>
 T_istore dX4_readWalker_49 (by decide) rfl rfl <|
 T_aload_n dX4_readWalker_51 rfl <|
 T_callVv (k' := kX4_passSign) (vs := []) (st := []) dX4_readWalker_52 wm_X4_69 okX4_passSign rfl c_4_0_0 rfl rfl rfl (Nat.le_of_ble_eq_true rfl) rfl (Nat.le_of_ble_eq_true rfl) (TT.mono h40 (rV_mono (fun M33 h39 =>
 T_aload_n dX4_readWalker_55 rfl <|
 T_getI (C := RX4) (T := TX4) (N := 7) (f := 6) dX4_readWalker_56 c_4_0_0 rfl (by decide) wf_X4_30 rfl <|
 T_if_ne (tgt := 72) dX4_readWalker_59 (by decide) (fun z38 =>
 T_return dX4_readWalker_72 rfl (h39.1 z38)) (fun z38 =>
 T_aload_n dX4_readWalker_62 rfl <|
 T_iload_n dX4_readWalker_63 rfl <|
 T_iload_n dX4_readWalker_64 rfl <|
 T_iload dX4_readWalker_65 rfl <|
 T_iload dX4_readWalker_67 rfl <|
 T_callVv (k' := kX6_addWalker) (vs := [pI v26, pI v28, pI v30, pI v32]) (st := []) dX4_readWalker_69 wm_X4_79 okX6_addWalker rfl (cc6_0 hj1) rfl rfl rfl (Nat.le_of_ble_eq_true rfl) rfl (Nat.le_of_ble_eq_true rfl) (TT.mono (h39.2 z38) (rV_mono (fun M35 h37 =>
 T_return dX4_readWalker_72 rfl h37)))))))))))))))))))))))
theorem rX4_passWord_0 {X : Nat × (Nat → Int32)} {a1 : Int32} {M : Mem} {Q : Option PV → Mem → Prop} (h : (a1 = 0 → TT X kX4_fail 0 [some (pR (4, 0, 0)), some (pI 3)] [] M (rV fun M1 => Q none M1)) ∧ (¬ a1 = 0 → TT X kX4_advance 0 [some (pR (4, 0, 0)), none] [] M (rV fun M4 => Q none M4))) : TT X kX4_passWord 0 [some (pR (4, 0, 0)), some (pI a1)] [] M Q :=
 T_iload_n dX4_passWord_0 rfl <|
 T_if_eq (tgt := 11) dX4_passWord_1 (by decide) (fun z7 =>
 T_aload_n dX4_passWord_11 rfl <|
 T_iconst dX4_passWord_12 ic_3 <|
 T_callVv (k' := kX4_fail) (vs := [pI 3]) (st := []) dX4_passWord_13 wm_X4_42 okX4_fail rfl c_4_0_0 rfl rfl rfl (Nat.le_of_ble_eq_true rfl) rfl (Nat.le_of_ble_eq_true rfl) (TT.mono (h.1 z7) (rV_mono (fun M1 h3 =>
 T_return dX4_passWord_16 rfl h3)))) (fun z7 =>
 T_aload_n dX4_passWord_4 rfl <|
 T_callVv (k' := kX4_advance) (vs := []) (st := []) dX4_passWord_5 wm_X4_33 okX4_advance rfl c_4_0_0 rfl rfl rfl (Nat.le_of_ble_eq_true rfl) rfl (Nat.le_of_ble_eq_true rfl) (TT.mono (h.2 z7) (rV_mono (fun M4 h6 =>
 T_goto (tgt := 16) dX4_passWord_8 (by decide) <|
 T_return dX4_passWord_16 rfl h6))))
theorem rX4_passSign_0 {X : Nat × (Nat → Int32)}  {M : Mem} {Q : Option PV → Mem → Prop} (h : ((M 4 0 0 4) = 3 → (¬ (M 4 0 0 6) = 0 → Q none M) ∧ ((M 4 0 0 6) = 0 → TT X kX4_advance 0 [some (pR (4, 0, 0)), none] [] M (rV fun M1 => Q none M1))) ∧ (¬ (M 4 0 0 4) = 3 → TT X kX4_fail 0 [some (pR (4, 0, 0)), some (pI 1)] [] M (rV fun M5 => (¬ (M5 4 0 0 6) = 0 → Q none M5) ∧ ((M5 4 0 0 6) = 0 → TT X kX4_advance 0 [some (pR (4, 0, 0)), none] [] M5 (rV fun M7 => Q none M7))))) : TT X kX4_passSign 0 [some (pR (4, 0, 0))] [] M Q :=
 T_aload_n dX4_passSign_0 rfl <|
 T_getI (C := RX4) (T := TX4) (N := 7) (f := 4) dX4_passSign_1 c_4_0_0 rfl (by decide) wf_X4_55 rfl <|
 T_iconst dX4_passSign_4 ic_3 <|
 T_icmp_eq (tgt := 13) dX4_passSign_5 (by decide) (fun z12 =>
 T_aload_n dX4_passSign_13 rfl <|
 T_getI (C := RX4) (T := TX4) (N := 7) (f := 6) dX4_passSign_14 c_4_0_0 rfl (by decide) wf_X4_30 rfl <|
 T_if_ne (tgt := 24) dX4_passSign_17 (by decide) (fun z4 =>
 T_return dX4_passSign_24 rfl ((h.1 z12).1 z4)) (fun z4 =>
 T_aload_n dX4_passSign_20 rfl <|
 T_callVv (k' := kX4_advance) (vs := []) (st := []) dX4_passSign_21 wm_X4_33 okX4_advance rfl c_4_0_0 rfl rfl rfl (Nat.le_of_ble_eq_true rfl) rfl (Nat.le_of_ble_eq_true rfl) (TT.mono ((h.1 z12).2 z4) (rV_mono (fun M1 h3 =>
 T_return dX4_passSign_24 rfl h3))))) (fun z12 =>
 T_aload_n dX4_passSign_8 rfl <|
 T_iconst dX4_passSign_9 ic_1 <|
 T_callVv (k' := kX4_fail) (vs := [pI 1]) (st := []) dX4_passSign_10 wm_X4_42 okX4_fail rfl c_4_0_0 rfl rfl rfl (Nat.le_of_ble_eq_true rfl) rfl (Nat.le_of_ble_eq_true rfl) (TT.mono (h.2 z12) (rV_mono (fun M5 h11 =>
 T_aload_n dX4_passSign_13 rfl <|
 T_getI (C := RX4) (T := TX4) (N := 7) (f := 6) dX4_passSign_14 c_4_0_0 rfl (by decide) wf_X4_30 rfl <|
 T_if_ne (tgt := 24) dX4_passSign_17 (by decide) (fun z10 =>
 T_return dX4_passSign_24 rfl (h11.1 z10)) (fun z10 =>
 T_aload_n dX4_passSign_20 rfl <|
 T_callVv (k' := kX4_advance) (vs := []) (st := []) dX4_passSign_21 wm_X4_33 okX4_advance rfl c_4_0_0 rfl rfl rfl (Nat.le_of_ble_eq_true rfl) rfl (Nat.le_of_ble_eq_true rfl) (TT.mono (h11.2 z10) (rV_mono (fun M7 h9 =>
 T_return dX4_passSign_24 rfl h9))))))))
theorem rX4_number_0 {X : Nat × (Nat → Int32)} {a1 : Int32} {a2 : Int32} {M : Mem} {Q : Option PV → Mem → Prop} (h : ((M 4 0 0 6) = 0 → ((M 4 0 0 4) = 2 → ((M 4 0 0 5) < a1 → TT X kX4_fail 0 [some (pR (4, 0, 0)), some (pI 2)] [] M (rV fun M1 => Q (some (pI a1)) M1)) ∧ (¬ (M 4 0 0 5) < a1 → ((M 4 0 0 5) ≤ a2 → TT X kX4_advance 0 [some (pR (4, 0, 0)), none] [] M (rV fun M4 => Q (some (pI (M 4 0 0 5))) M4)) ∧ (¬ (M 4 0 0 5) ≤ a2 → TT X kX4_fail 0 [some (pR (4, 0, 0)), some (pI 2)] [] M (rV fun M7 => Q (some (pI a1)) M7)))) ∧ (¬ (M 4 0 0 4) = 2 → TT X kX4_fail 0 [some (pR (4, 0, 0)), some (pI 1)] [] M (rV fun M12 => Q (some (pI a1)) M12))) ∧ (¬ (M 4 0 0 6) = 0 → Q (some (pI a1)) M)) : TT X kX4_number 0 [some (pR (4, 0, 0)), some (pI a1), some (pI a2), none] [] M Q :=
 T_aload_n dX4_number_0 rfl <|
 T_getI (C := RX4) (T := TX4) (N := 7) (f := 6) dX4_number_1 c_4_0_0 rfl (by decide) wf_X4_30 rfl <|
 T_if_eq (tgt := 9) dX4_number_4 (by decide) (fun z16 =>
 T_aload_n dX4_number_9 rfl <|
 T_getI (C := RX4) (T := TX4) (N := 7) (f := 4) dX4_number_10 c_4_0_0 rfl (by decide) wf_X4_55 rfl <|
 T_iconst dX4_number_13 ic_2 <|
 T_icmp_eq (tgt := 24) dX4_number_14 (by decide) (fun z15 =>
 T_aload_n dX4_number_24 rfl <|
 T_getI (C := RX4) (T := TX4) (N := 7) (f := 5) dX4_number_25 c_4_0_0 rfl (by decide) wf_X4_83 rfl <|
 T_iload_n dX4_number_28 rfl <|
 T_icmp_lt (tgt := 40) dX4_number_29 (by decide) (fun z11 =>
 T_aload_n dX4_number_40 rfl <|
 T_iconst dX4_number_41 ic_2 <|
 T_callVv (k' := kX4_fail) (vs := [pI 2]) (st := []) dX4_number_42 wm_X4_42 okX4_fail rfl c_4_0_0 rfl rfl rfl (Nat.le_of_ble_eq_true rfl) rfl (Nat.le_of_ble_eq_true rfl) (TT.mono (((h.1 z16).1 z15).1 z11) (rV_mono (fun M1 h3 =>
 T_iload_n dX4_number_45 rfl <|
 T_ireturn (ty := .int) dX4_number_46 rfl rfl h3)))) (fun z11 =>
 T_aload_n dX4_number_32 rfl <|
 T_getI (C := RX4) (T := TX4) (N := 7) (f := 5) dX4_number_33 c_4_0_0 rfl (by decide) wf_X4_83 rfl <|
 T_iload_n dX4_number_36 rfl <|
 T_icmp_le (tgt := 47) dX4_number_37 (by decide) (fun z10 =>
 T_aload_n dX4_number_47 rfl <|
 T_getI (C := RX4) (T := TX4) (N := 7) (f := 5) dX4_number_48 c_4_0_0 rfl (by decide) wf_X4_83 rfl <|
 T_istore_n dX4_number_51 (by decide) rfl rfl <|
 T_aload_n dX4_number_52 rfl <|
 T_callVv (k' := kX4_advance) (vs := []) (st := []) dX4_number_53 wm_X4_33 okX4_advance rfl c_4_0_0 rfl rfl rfl (Nat.le_of_ble_eq_true rfl) rfl (Nat.le_of_ble_eq_true rfl) (TT.mono ((((h.1 z16).1 z15).2 z11).1 z10) (rV_mono (fun M4 h6 =>
 T_iload_n dX4_number_56 rfl <|
 T_ireturn (ty := .int) dX4_number_57 rfl rfl h6)))) (fun z10 =>
 T_aload_n dX4_number_40 rfl <|
 T_iconst dX4_number_41 ic_2 <|
 T_callVv (k' := kX4_fail) (vs := [pI 2]) (st := []) dX4_number_42 wm_X4_42 okX4_fail rfl c_4_0_0 rfl rfl rfl (Nat.le_of_ble_eq_true rfl) rfl (Nat.le_of_ble_eq_true rfl) (TT.mono ((((h.1 z16).1 z15).2 z11).2 z10) (rV_mono (fun M7 h9 =>
 T_iload_n dX4_number_45 rfl <|
 T_ireturn (ty := .int) dX4_number_46 rfl rfl h9)))))) (fun z15 =>
 T_aload_n dX4_number_17 rfl <|
 T_iconst dX4_number_18 ic_1 <|
 T_callVv (k' := kX4_fail) (vs := [pI 1]) (st := []) dX4_number_19 wm_X4_42 okX4_fail rfl c_4_0_0 rfl rfl rfl (Nat.le_of_ble_eq_true rfl) rfl (Nat.le_of_ble_eq_true rfl) (TT.mono ((h.1 z16).2 z15) (rV_mono (fun M12 h14 =>
 T_iload_n dX4_number_22 rfl <|
 T_ireturn (ty := .int) dX4_number_23 rfl rfl h14))))) (fun z16 =>
 T_iload_n dX4_number_7 rfl <|
 T_ireturn (ty := .int) dX4_number_8 rfl rfl (h.2 z16))
theorem rX4_isWord_0 {X : Nat × (Nat → Int32)} {j1 : Nat} (hj1 : j1 < 2) {M : Mem} {Q : Option PV → Mem → Prop} (h : (¬ (M 4 0 0 4) = 1 → Q (some (pI 0)) M) ∧ ((M 4 0 0 4) = 1 → (((M 4 0 0 2) - (M 4 0 0 3)) = (strL j1) → TT X kX4_isWord 28 [some (pR (4, 0, 0)), some (pR (10, j1, 0)), some (pI 0)] [] M Q) ∧ (¬ ((M 4 0 0 2) - (M 4 0 0 3)) = (strL j1) → Q (some (pI 0)) M))) : TT X kX4_isWord 0 [some (pR (4, 0, 0)), some (pR (10, j1, 0)), none] [] M Q :=
 T_aload_n dX4_isWord_0 rfl <|
 T_getI (C := RX4) (T := TX4) (N := 7) (f := 4) dX4_isWord_1 c_4_0_0 rfl (by decide) wf_X4_55 rfl <|
 T_iconst dX4_isWord_4 ic_1 <|
 T_icmp_ne (tgt := 24) dX4_isWord_5 (by decide) (fun z2 =>
 T_iconst dX4_isWord_24 ic_0 <|
 T_ireturn (ty := .boolean) dX4_isWord_25 rfl rfl (h.1 z2)) (fun z2 =>
 T_aload_n dX4_isWord_8 rfl <|
 T_getI (C := RX4) (T := TX4) (N := 7) (f := 2) dX4_isWord_9 c_4_0_0 rfl (by decide) wf_X4_27 rfl <|
 T_aload_n dX4_isWord_12 rfl <|
 T_getI (C := RX4) (T := TX4) (N := 7) (f := 3) dX4_isWord_13 c_4_0_0 rfl (by decide) wf_X4_19 rfl <|
 T_isub dX4_isWord_16 <|
 T_aload_n dX4_isWord_17 rfl <|
 T_strlen hj1 dX4_isWord_18 wm_X4_86 rfl (Nat.le_of_ble_eq_true rfl) <|
 T_icmp_eq (tgt := 26) dX4_isWord_21 (by decide) (fun z1 =>
 T_iconst dX4_isWord_26 ic_0 <|
 T_istore_n dX4_isWord_27 (by decide) rfl rfl <|
 ((h.2 z2).1 z1)) (fun z1 =>
 T_iconst dX4_isWord_24 ic_0 <|
 T_ireturn (ty := .boolean) dX4_isWord_25 rfl rfl ((h.2 z2).2 z1)))
theorem rX4_isWord_28 {X : Nat × (Nat → Int32)} {j1 : Nat} (hj1 : j1 < 2) {b2 : Int32} {M : Mem} {Q : Option PV → Mem → Prop} (h : ((strL j1) ≤ b2 → Q (some (pI 1)) M) ∧ (¬ (strL j1) ≤ b2 → TT X kX4_byteAt 0 [some (pR (4, 0, 0)), some (pI ((M 4 0 0 3) + b2))] [] M (rI fun v4 M3 => vp_in b2 (strN j1) ∧ ((v4 = (strC j1 (Int32.toNatClampNeg b2)) → TT X kX4_isWord 28 [some (pR (4, 0, 0)), some (pR (10, j1, 0)), some (pI (b2 + 1))] [] M3 Q) ∧ (¬ v4 = (strC j1 (Int32.toNatClampNeg b2)) → Q (some (pI 0)) M3))))) : TT X kX4_isWord 28 [some (pR (4, 0, 0)), some (pR (10, j1, 0)), some (pI b2)] [] M Q :=
 T_iload_n dX4_isWord_28 rfl <|
 T_aload_n dX4_isWord_29 rfl <|
 T_strlen hj1 dX4_isWord_30 wm_X4_86 rfl (Nat.le_of_ble_eq_true rfl) <|
 T_icmp_ge (tgt := 62) dX4_isWord_33 (by decide) (fun z7 =>
 T_iconst dX4_isWord_62 ic_1 <|
 T_ireturn (ty := .boolean) dX4_isWord_63 rfl rfl (h.1 z7)) (fun z7 =>
 T_aload_n dX4_isWord_36 rfl <|
 T_aload_n dX4_isWord_37 rfl <|
 T_getI (C := RX4) (T := TX4) (N := 7) (f := 3) dX4_isWord_38 c_4_0_0 rfl (by decide) wf_X4_19 rfl <|
 T_iload_n dX4_isWord_41 rfl <|
 T_iadd dX4_isWord_42 <|
 T_callVi (k' := kX4_byteAt) (vs := [pI ((M 4 0 0 3) + b2)]) (st := []) dX4_isWord_43 wm_X4_91 okX4_byteAt rfl c_4_0_0 rfl rfl rfl (Nat.le_of_ble_eq_true rfl) rfl (Nat.le_of_ble_eq_true rfl) (TT.mono (h.2 z7) (rI_mono (fun v4 M3 h6 =>
 T_aload_n dX4_isWord_46 rfl <|
 T_iload_n dX4_isWord_47 rfl <|
 T_strat hj1 dX4_isWord_48 wm_X4_95 rfl (Nat.le_of_ble_eq_true rfl) h6.1 <|
 T_icmp_eq (tgt := 56) dX4_isWord_51 (by decide) (fun z5 =>
 T_iinc dX4_isWord_56 rfl (ii_1 _) (by decide) rfl rfl <|
 T_goto (tgt := 28) dX4_isWord_59 (by decide) <|
 (h6.2.1 z5)) (fun z5 =>
 T_iconst dX4_isWord_54 ic_0 <|
 T_ireturn (ty := .boolean) dX4_isWord_55 rfl rfl (h6.2.2 z5))))))
theorem rX4_byteAt_0 {X : Nat × (Nat → Int32)} {a1 : Int32} {M : Mem} {Q : Option PV → Mem → Prop} (h : (a1 < 0 → Q (some (pI (-1))) M) ∧ (¬ a1 < 0 → ((M 4 0 0 1) ≤ a1 → Q (some (pI (-1))) M) ∧ (¬ (M 4 0 0 1) ≤ a1 → vp_in a1 400 ∧ (Q (some (pI (M 4 0 1 (Int32.toNatClampNeg a1)))) M)))) : TT X kX4_byteAt 0 [some (pR (4, 0, 0)), some (pI a1)] [] M Q :=
 T_iload_n dX4_byteAt_0 rfl <|
 T_if_lt (tgt := 21) dX4_byteAt_1 (by decide) (fun z2 =>
 T_iconst dX4_byteAt_21 ic_m1 <|
 T_ireturn (ty := .int) dX4_byteAt_22 rfl rfl (h.1 z2)) (fun z2 =>
 T_iload_n dX4_byteAt_4 rfl <|
 T_aload_n dX4_byteAt_5 rfl <|
 T_getI (C := RX4) (T := TX4) (N := 7) (f := 1) dX4_byteAt_6 c_4_0_0 rfl (by decide) wf_X4_13 rfl <|
 T_icmp_ge (tgt := 21) dX4_byteAt_9 (by decide) (fun z1 =>
 T_iconst dX4_byteAt_21 ic_m1 <|
 T_ireturn (ty := .int) dX4_byteAt_22 rfl rfl ((h.2 z2).1 z1)) (fun z1 =>
 T_aload_n dX4_byteAt_12 rfl <|
 T_getR (C := RX4) (T := TX4) (N := 7) (f := 0) dX4_byteAt_13 c_4_0_0 rfl (by decide) wf_X4_9 rfl <|
 T_iload_n dX4_byteAt_16 rfl <|
 T_iald (n := 400) dX4_byteAt_17 c_4_0_1 (by decide) (by decide) (by decide) rfl ((h.2 z2).2 z1).1 <|
 T_goto (tgt := 22) dX4_byteAt_18 (by decide) <|
 T_ireturn (ty := .int) dX4_byteAt_22 rfl rfl ((h.2 z2).2 z1).2))
theorem rX4_isBlank_0 {X : Nat × (Nat → Int32)} {a1 : Int32} {M : Mem} {Q : Option PV → Mem → Prop} (h : (a1 = 32 → Q (some (pI 1)) M) ∧ (¬ a1 = 32 → (¬ a1 = 10 → Q (some (pI 0)) M) ∧ (a1 = 10 → Q (some (pI 1)) M))) : TT X kX4_isBlank 0 [some (pI a1)] [] M Q :=
 T_iload_n dX4_isBlank_0 rfl <|
 T_bipush dX4_isBlank_1 bp_32 <|
 T_icmp_eq (tgt := 12) dX4_isBlank_3 (by decide) (fun z2 =>
 T_iconst dX4_isBlank_12 ic_1 <|
 T_goto (tgt := 17) dX4_isBlank_13 (by decide) <|
 T_ireturn (ty := .boolean) dX4_isBlank_17 rfl rfl (h.1 z2)) (fun z2 =>
 T_iload_n dX4_isBlank_6 rfl <|
 T_bipush dX4_isBlank_7 bp_10 <|
 T_icmp_ne (tgt := 16) dX4_isBlank_9 (by decide) (fun z1 =>
 T_iconst dX4_isBlank_16 ic_0 <|
 T_ireturn (ty := .boolean) dX4_isBlank_17 rfl rfl ((h.2 z2).1 z1)) (fun z1 =>
 T_iconst dX4_isBlank_12 ic_1 <|
 T_goto (tgt := 17) dX4_isBlank_13 (by decide) <|
 T_ireturn (ty := .boolean) dX4_isBlank_17 rfl rfl ((h.2 z2).2 z1)))
theorem rX4_isLetter_0 {X : Nat × (Nat → Int32)} {a1 : Int32} {M : Mem} {Q : Option PV → Mem → Prop} (h : (a1 < 97 → Q (some (pI 0)) M) ∧ (¬ a1 < 97 → (122 < a1 → Q (some (pI 0)) M) ∧ (¬ 122 < a1 → Q (some (pI 1)) M))) : TT X kX4_isLetter 0 [some (pI a1)] [] M Q :=
 T_iload_n dX4_isLetter_0 rfl <|
 T_bipush dX4_isLetter_1 bp_97 <|
 T_icmp_lt (tgt := 16) dX4_isLetter_3 (by decide) (fun z2 =>
 T_iconst dX4_isLetter_16 ic_0 <|
 T_ireturn (ty := .boolean) dX4_isLetter_17 rfl rfl (h.1 z2)) (fun z2 =>
 T_iload_n dX4_isLetter_6 rfl <|
 T_bipush dX4_isLetter_7 bp_122 <|
 T_icmp_gt (tgt := 16) dX4_isLetter_9 (by decide) (fun z1 =>
 T_iconst dX4_isLetter_16 ic_0 <|
 T_ireturn (ty := .boolean) dX4_isLetter_17 rfl rfl ((h.2 z2).1 z1)) (fun z1 =>
 T_iconst dX4_isLetter_12 ic_1 <|
 T_goto (tgt := 17) dX4_isLetter_13 (by decide) <|
 T_ireturn (ty := .boolean) dX4_isLetter_17 rfl rfl ((h.2 z2).2 z1)))
theorem rX4_isFigure_0 {X : Nat × (Nat → Int32)} {a1 : Int32} {M : Mem} {Q : Option PV → Mem → Prop} (h : (a1 < 48 → Q (some (pI 0)) M) ∧ (¬ a1 < 48 → (57 < a1 → Q (some (pI 0)) M) ∧ (¬ 57 < a1 → Q (some (pI 1)) M))) : TT X kX4_isFigure 0 [some (pI a1)] [] M Q :=
 T_iload_n dX4_isFigure_0 rfl <|
 T_bipush dX4_isFigure_1 bp_48 <|
 T_icmp_lt (tgt := 16) dX4_isFigure_3 (by decide) (fun z2 =>
 T_iconst dX4_isFigure_16 ic_0 <|
 T_ireturn (ty := .boolean) dX4_isFigure_17 rfl rfl (h.1 z2)) (fun z2 =>
 T_iload_n dX4_isFigure_6 rfl <|
 T_bipush dX4_isFigure_7 bp_57 <|
 T_icmp_gt (tgt := 16) dX4_isFigure_9 (by decide) (fun z1 =>
 T_iconst dX4_isFigure_16 ic_0 <|
 T_ireturn (ty := .boolean) dX4_isFigure_17 rfl rfl ((h.2 z2).1 z1)) (fun z1 =>
 T_iconst dX4_isFigure_12 ic_1 <|
 T_goto (tgt := 17) dX4_isFigure_13 (by decide) <|
 T_ireturn (ty := .boolean) dX4_isFigure_17 rfl rfl ((h.2 z2).2 z1)))
theorem rX4_advance_0 {X : Nat × (Nat → Int32)}  {M : Mem} {Q : Option PV → Mem → Prop} (h : ((M 4 0 0 1) ≤ (M 4 0 0 2) → TT X kX4_byteAt 0 [some (pR (4, 0, 0)), some (pI ((mset M 4 0 0 3 (M 4 0 0 2)) 4 0 0 2))] [] (mset M 4 0 0 3 (M 4 0 0 2)) (rI fun v2 M1 => ((M1 4 0 0 2) < (M1 4 0 0 1) → TT X kX4_isLetter 0 [some (pI v2)] [] M1 (rI fun v4 M3 => (v4 = 0 → TT X kX4_isFigure 0 [some (pI v2)] [] M3 (rI fun v6 M5 => (v6 = 0 → (¬ v2 = 59 → Q none (mset (mset M5 4 0 0 4 4) 4 0 0 2 (((mset M5 4 0 0 4 4) 4 0 0 2) + 1))) ∧ (v2 = 59 → Q none (mset (mset M5 4 0 0 4 3) 4 0 0 2 (((mset M5 4 0 0 4 3) 4 0 0 2) + 1)))) ∧ (¬ v6 = 0 → TT X kX4_passFigures 0 [some (pR (4, 0, 0))] [] M5 (rV fun M8 => Q none M8)))) ∧ (¬ v4 = 0 → TT X kX4_passLetters 0 [some (pR (4, 0, 0))] [] M3 (rV fun M13 => Q none M13)))) ∧ (¬ (M1 4 0 0 2) < (M1 4 0 0 1) → Q none (mset M1 4 0 0 4 0)))) ∧ (¬ (M 4 0 0 1) ≤ (M 4 0 0 2) → TT X kX4_byteAt 0 [some (pR (4, 0, 0)), some (pI (M 4 0 0 2))] [] M (rI fun v21 M20 => TT X kX4_isBlank 0 [some (pI v21)] [] M20 (rI fun v23 M22 => (v23 = 0 → TT X kX4_byteAt 0 [some (pR (4, 0, 0)), some (pI ((mset M22 4 0 0 3 (M22 4 0 0 2)) 4 0 0 2))] [] (mset M22 4 0 0 3 (M22 4 0 0 2)) (rI fun v25 M24 => ((M24 4 0 0 2) < (M24 4 0 0 1) → TT X kX4_isLetter 0 [some (pI v25)] [] M24 (rI fun v27 M26 => (v27 = 0 → TT X kX4_isFigure 0 [some (pI v25)] [] M26 (rI fun v29 M28 => (v29 = 0 → (¬ v25 = 59 → Q none (mset (mset M28 4 0 0 4 4) 4 0 0 2 (((mset M28 4 0 0 4 4) 4 0 0 2) + 1))) ∧ (v25 = 59 → Q none (mset (mset M28 4 0 0 4 3) 4 0 0 2 (((mset M28 4 0 0 4 3) 4 0 0 2) + 1)))) ∧ (¬ v29 = 0 → TT X kX4_passFigures 0 [some (pR (4, 0, 0))] [] M28 (rV fun M31 => Q none M31)))) ∧ (¬ v27 = 0 → TT X kX4_passLetters 0 [some (pR (4, 0, 0))] [] M26 (rV fun M36 => Q none M36)))) ∧ (¬ (M24 4 0 0 2) < (M24 4 0 0 1) → Q none (mset M24 4 0 0 4 0)))) ∧ (¬ v23 = 0 → TT X kX4_advance 0 [some (pR (4, 0, 0)), none] [] (mset M22 4 0 0 2 ((M22 4 0 0 2) + 1)) Q))))) : TT X kX4_advance 0 [some (pR (4, 0, 0)), none] [] M Q :=
 T_aload_n dX4_advance_0 rfl <|
 T_getI (C := RX4) (T := TX4) (N := 7) (f := 2) dX4_advance_1 c_4_0_0 rfl (by decide) wf_X4_27 rfl <|
 T_aload_n dX4_advance_4 rfl <|
 T_getI (C := RX4) (T := TX4) (N := 7) (f := 1) dX4_advance_5 c_4_0_0 rfl (by decide) wf_X4_13 rfl <|
 T_icmp_ge (tgt := 38) dX4_advance_8 (by decide) (fun z46 =>
 T_aload_n dX4_advance_38 rfl <|
 T_aload_n dX4_advance_39 rfl <|
 T_getI (C := RX4) (T := TX4) (N := 7) (f := 2) dX4_advance_40 c_4_0_0 rfl (by decide) wf_X4_27 rfl <|
 T_putI (C := RX4) (T := TX4) (N := 7) (f := 3) dX4_advance_43 c_4_0_0 rfl (by decide) wf_X4_19 rfl rfl rfl <|
 T_aload_n dX4_advance_46 rfl <|
 T_aload_n dX4_advance_47 rfl <|
 T_getI (C := RX4) (T := TX4) (N := 7) (f := 2) dX4_advance_48 c_4_0_0 rfl (by decide) wf_X4_27 rfl <|
 T_callVi (k' := kX4_byteAt) (vs := [pI ((mset M 4 0 0 3 (M 4 0 0 2)) 4 0 0 2)]) (st := []) dX4_advance_51 wm_X4_91 okX4_byteAt rfl c_4_0_0 rfl rfl rfl (Nat.le_of_ble_eq_true rfl) rfl (Nat.le_of_ble_eq_true rfl) (TT.mono (h.1 z46) (rI_mono (fun v2 M1 h19 =>
 T_istore_n dX4_advance_54 (by decide) rfl rfl <|
 T_aload_n dX4_advance_55 rfl <|
 T_getI (C := RX4) (T := TX4) (N := 7) (f := 2) dX4_advance_56 c_4_0_0 rfl (by decide) wf_X4_27 rfl <|
 T_aload_n dX4_advance_59 rfl <|
 T_getI (C := RX4) (T := TX4) (N := 7) (f := 1) dX4_advance_60 c_4_0_0 rfl (by decide) wf_X4_13 rfl <|
 T_icmp_lt (tgt := 74) dX4_advance_63 (by decide) (fun z18 =>
 T_iload_n dX4_advance_74 rfl <|
 T_callSi (k' := kX4_isLetter) (vs := [pI v2]) (st := []) dX4_advance_75 wm_X4_103 okX4_isLetter rfl rfl rfl (Nat.le_of_ble_eq_true rfl) rfl (Nat.le_of_ble_eq_true rfl) (TT.mono (h19.1 z18) (rI_mono (fun v4 M3 h17 =>
 T_if_eq (tgt := 88) dX4_advance_78 (by decide) (fun z16 =>
 T_iload_n dX4_advance_88 rfl <|
 T_callSi (k' := kX4_isFigure) (vs := [pI v2]) (st := []) dX4_advance_89 wm_X4_109 okX4_isFigure rfl rfl rfl (Nat.le_of_ble_eq_true rfl) rfl (Nat.le_of_ble_eq_true rfl) (TT.mono (h17.1 z16) (rI_mono (fun v6 M5 h12 =>
 T_if_eq (tgt := 102) dX4_advance_92 (by decide) (fun z11 =>
 T_aload_n dX4_advance_102 rfl <|
 T_iload_n dX4_advance_103 rfl <|
 T_bipush dX4_advance_104 bp_59 <|
 T_icmp_ne (tgt := 113) dX4_advance_106 (by decide) (fun z7 =>
 T_iconst dX4_advance_113 ic_4 <|
 T_putI (C := RX4) (T := TX4) (N := 7) (f := 4) dX4_advance_114 c_4_0_0 rfl (by decide) wf_X4_55 rfl rfl rfl <|
 T_aload_n dX4_advance_117 rfl <|
 T_dupR dX4_advance_118 <|
 T_getI (C := RX4) (T := TX4) (N := 7) (f := 2) dX4_advance_119 c_4_0_0 rfl (by decide) wf_X4_27 rfl <|
 T_iconst dX4_advance_122 ic_1 <|
 T_iadd dX4_advance_123 <|
 T_putI (C := RX4) (T := TX4) (N := 7) (f := 2) dX4_advance_124 c_4_0_0 rfl (by decide) wf_X4_27 rfl rfl rfl <|
 T_return dX4_advance_127 rfl ((h12.1 z11).1 z7)) (fun z7 =>
 T_iconst dX4_advance_109 ic_3 <|
 T_goto (tgt := 114) dX4_advance_110 (by decide) <|
 T_putI (C := RX4) (T := TX4) (N := 7) (f := 4) dX4_advance_114 c_4_0_0 rfl (by decide) wf_X4_55 rfl rfl rfl <|
 T_aload_n dX4_advance_117 rfl <|
 T_dupR dX4_advance_118 <|
 T_getI (C := RX4) (T := TX4) (N := 7) (f := 2) dX4_advance_119 c_4_0_0 rfl (by decide) wf_X4_27 rfl <|
 T_iconst dX4_advance_122 ic_1 <|
 T_iadd dX4_advance_123 <|
 T_putI (C := RX4) (T := TX4) (N := 7) (f := 2) dX4_advance_124 c_4_0_0 rfl (by decide) wf_X4_27 rfl rfl rfl <|
 T_return dX4_advance_127 rfl ((h12.1 z11).2 z7))) (fun z11 =>
 T_aload_n dX4_advance_95 rfl <|
 T_callVv (k' := kX4_passFigures) (vs := []) (st := []) dX4_advance_96 wm_X4_112 okX4_passFigures rfl c_4_0_0 rfl rfl rfl (Nat.le_of_ble_eq_true rfl) rfl (Nat.le_of_ble_eq_true rfl) (TT.mono (h12.2 z11) (rV_mono (fun M8 h10 =>
 T_goto (tgt := 127) dX4_advance_99 (by decide) <|
 T_return dX4_advance_127 rfl h10)))))))) (fun z16 =>
 T_aload_n dX4_advance_81 rfl <|
 T_callVv (k' := kX4_passLetters) (vs := []) (st := []) dX4_advance_82 wm_X4_106 okX4_passLetters rfl c_4_0_0 rfl rfl rfl (Nat.le_of_ble_eq_true rfl) rfl (Nat.le_of_ble_eq_true rfl) (TT.mono (h17.2 z16) (rV_mono (fun M13 h15 =>
 T_goto (tgt := 127) dX4_advance_85 (by decide) <|
 T_return dX4_advance_127 rfl h15)))))))) (fun z18 =>
 T_aload_n dX4_advance_66 rfl <|
 T_iconst dX4_advance_67 ic_0 <|
 T_putI (C := RX4) (T := TX4) (N := 7) (f := 4) dX4_advance_68 c_4_0_0 rfl (by decide) wf_X4_55 rfl rfl rfl <|
 T_goto (tgt := 127) dX4_advance_71 (by decide) <|
 T_return dX4_advance_127 rfl (h19.2 z18)))))) (fun z46 =>
 T_aload_n dX4_advance_11 rfl <|
 T_aload_n dX4_advance_12 rfl <|
 T_getI (C := RX4) (T := TX4) (N := 7) (f := 2) dX4_advance_13 c_4_0_0 rfl (by decide) wf_X4_27 rfl <|
 T_callVi (k' := kX4_byteAt) (vs := [pI (M 4 0 0 2)]) (st := []) dX4_advance_16 wm_X4_91 okX4_byteAt rfl c_4_0_0 rfl rfl rfl (Nat.le_of_ble_eq_true rfl) rfl (Nat.le_of_ble_eq_true rfl) (TT.mono (h.2 z46) (rI_mono (fun v21 M20 h45 =>
 T_callSi (k' := kX4_isBlank) (vs := [pI v21]) (st := []) dX4_advance_19 wm_X4_99 okX4_isBlank rfl rfl rfl (Nat.le_of_ble_eq_true rfl) rfl (Nat.le_of_ble_eq_true rfl) (TT.mono h45 (rI_mono (fun v23 M22 h44 =>
 T_if_eq (tgt := 38) dX4_advance_22 (by decide) (fun z43 =>
 T_aload_n dX4_advance_38 rfl <|
 T_aload_n dX4_advance_39 rfl <|
 T_getI (C := RX4) (T := TX4) (N := 7) (f := 2) dX4_advance_40 c_4_0_0 rfl (by decide) wf_X4_27 rfl <|
 T_putI (C := RX4) (T := TX4) (N := 7) (f := 3) dX4_advance_43 c_4_0_0 rfl (by decide) wf_X4_19 rfl rfl rfl <|
 T_aload_n dX4_advance_46 rfl <|
 T_aload_n dX4_advance_47 rfl <|
 T_getI (C := RX4) (T := TX4) (N := 7) (f := 2) dX4_advance_48 c_4_0_0 rfl (by decide) wf_X4_27 rfl <|
 T_callVi (k' := kX4_byteAt) (vs := [pI ((mset M22 4 0 0 3 (M22 4 0 0 2)) 4 0 0 2)]) (st := []) dX4_advance_51 wm_X4_91 okX4_byteAt rfl c_4_0_0 rfl rfl rfl (Nat.le_of_ble_eq_true rfl) rfl (Nat.le_of_ble_eq_true rfl) (TT.mono (h44.1 z43) (rI_mono (fun v25 M24 h42 =>
 T_istore_n dX4_advance_54 (by decide) rfl rfl <|
 T_aload_n dX4_advance_55 rfl <|
 T_getI (C := RX4) (T := TX4) (N := 7) (f := 2) dX4_advance_56 c_4_0_0 rfl (by decide) wf_X4_27 rfl <|
 T_aload_n dX4_advance_59 rfl <|
 T_getI (C := RX4) (T := TX4) (N := 7) (f := 1) dX4_advance_60 c_4_0_0 rfl (by decide) wf_X4_13 rfl <|
 T_icmp_lt (tgt := 74) dX4_advance_63 (by decide) (fun z41 =>
 T_iload_n dX4_advance_74 rfl <|
 T_callSi (k' := kX4_isLetter) (vs := [pI v25]) (st := []) dX4_advance_75 wm_X4_103 okX4_isLetter rfl rfl rfl (Nat.le_of_ble_eq_true rfl) rfl (Nat.le_of_ble_eq_true rfl) (TT.mono (h42.1 z41) (rI_mono (fun v27 M26 h40 =>
 T_if_eq (tgt := 88) dX4_advance_78 (by decide) (fun z39 =>
 T_iload_n dX4_advance_88 rfl <|
 T_callSi (k' := kX4_isFigure) (vs := [pI v25]) (st := []) dX4_advance_89 wm_X4_109 okX4_isFigure rfl rfl rfl (Nat.le_of_ble_eq_true rfl) rfl (Nat.le_of_ble_eq_true rfl) (TT.mono (h40.1 z39) (rI_mono (fun v29 M28 h35 =>
 T_if_eq (tgt := 102) dX4_advance_92 (by decide) (fun z34 =>
 T_aload_n dX4_advance_102 rfl <|
 T_iload_n dX4_advance_103 rfl <|
 T_bipush dX4_advance_104 bp_59 <|
 T_icmp_ne (tgt := 113) dX4_advance_106 (by decide) (fun z30 =>
 T_iconst dX4_advance_113 ic_4 <|
 T_putI (C := RX4) (T := TX4) (N := 7) (f := 4) dX4_advance_114 c_4_0_0 rfl (by decide) wf_X4_55 rfl rfl rfl <|
 T_aload_n dX4_advance_117 rfl <|
 T_dupR dX4_advance_118 <|
 T_getI (C := RX4) (T := TX4) (N := 7) (f := 2) dX4_advance_119 c_4_0_0 rfl (by decide) wf_X4_27 rfl <|
 T_iconst dX4_advance_122 ic_1 <|
 T_iadd dX4_advance_123 <|
 T_putI (C := RX4) (T := TX4) (N := 7) (f := 2) dX4_advance_124 c_4_0_0 rfl (by decide) wf_X4_27 rfl rfl rfl <|
 T_return dX4_advance_127 rfl ((h35.1 z34).1 z30)) (fun z30 =>
 T_iconst dX4_advance_109 ic_3 <|
 T_goto (tgt := 114) dX4_advance_110 (by decide) <|
 T_putI (C := RX4) (T := TX4) (N := 7) (f := 4) dX4_advance_114 c_4_0_0 rfl (by decide) wf_X4_55 rfl rfl rfl <|
 T_aload_n dX4_advance_117 rfl <|
 T_dupR dX4_advance_118 <|
 T_getI (C := RX4) (T := TX4) (N := 7) (f := 2) dX4_advance_119 c_4_0_0 rfl (by decide) wf_X4_27 rfl <|
 T_iconst dX4_advance_122 ic_1 <|
 T_iadd dX4_advance_123 <|
 T_putI (C := RX4) (T := TX4) (N := 7) (f := 2) dX4_advance_124 c_4_0_0 rfl (by decide) wf_X4_27 rfl rfl rfl <|
 T_return dX4_advance_127 rfl ((h35.1 z34).2 z30))) (fun z34 =>
 T_aload_n dX4_advance_95 rfl <|
 T_callVv (k' := kX4_passFigures) (vs := []) (st := []) dX4_advance_96 wm_X4_112 okX4_passFigures rfl c_4_0_0 rfl rfl rfl (Nat.le_of_ble_eq_true rfl) rfl (Nat.le_of_ble_eq_true rfl) (TT.mono (h35.2 z34) (rV_mono (fun M31 h33 =>
 T_goto (tgt := 127) dX4_advance_99 (by decide) <|
 T_return dX4_advance_127 rfl h33)))))))) (fun z39 =>
 T_aload_n dX4_advance_81 rfl <|
 T_callVv (k' := kX4_passLetters) (vs := []) (st := []) dX4_advance_82 wm_X4_106 okX4_passLetters rfl c_4_0_0 rfl rfl rfl (Nat.le_of_ble_eq_true rfl) rfl (Nat.le_of_ble_eq_true rfl) (TT.mono (h40.2 z39) (rV_mono (fun M36 h38 =>
 T_goto (tgt := 127) dX4_advance_85 (by decide) <|
 T_return dX4_advance_127 rfl h38)))))))) (fun z41 =>
 T_aload_n dX4_advance_66 rfl <|
 T_iconst dX4_advance_67 ic_0 <|
 T_putI (C := RX4) (T := TX4) (N := 7) (f := 4) dX4_advance_68 c_4_0_0 rfl (by decide) wf_X4_55 rfl rfl rfl <|
 T_goto (tgt := 127) dX4_advance_71 (by decide) <|
 T_return dX4_advance_127 rfl (h42.2 z41)))))) (fun z43 =>
 T_aload_n dX4_advance_25 rfl <|
 T_dupR dX4_advance_26 <|
 T_getI (C := RX4) (T := TX4) (N := 7) (f := 2) dX4_advance_27 c_4_0_0 rfl (by decide) wf_X4_27 rfl <|
 T_iconst dX4_advance_30 ic_1 <|
 T_iadd dX4_advance_31 <|
 T_putI (C := RX4) (T := TX4) (N := 7) (f := 2) dX4_advance_32 c_4_0_0 rfl (by decide) wf_X4_27 rfl rfl rfl <|
 T_goto (tgt := 0) dX4_advance_35 (by decide) <|
 (h44.2 z43)))))))))
theorem rX4_passLetters_0 {X : Nat × (Nat → Int32)}  {M : Mem} {Q : Option PV → Mem → Prop} (h : ((M 4 0 0 1) ≤ (M 4 0 0 2) → Q none (mset M 4 0 0 4 1)) ∧ (¬ (M 4 0 0 1) ≤ (M 4 0 0 2) → TT X kX4_byteAt 0 [some (pR (4, 0, 0)), some (pI (M 4 0 0 2))] [] M (rI fun v2 M1 => TT X kX4_isLetter 0 [some (pI v2)] [] M1 (rI fun v4 M3 => (v4 = 0 → Q none (mset M3 4 0 0 4 1)) ∧ (¬ v4 = 0 → TT X kX4_passLetters 0 [some (pR (4, 0, 0))] [] (mset M3 4 0 0 2 ((M3 4 0 0 2) + 1)) Q))))) : TT X kX4_passLetters 0 [some (pR (4, 0, 0))] [] M Q :=
 T_aload_n dX4_passLetters_0 rfl <|
 T_getI (C := RX4) (T := TX4) (N := 7) (f := 2) dX4_passLetters_1 c_4_0_0 rfl (by decide) wf_X4_27 rfl <|
 T_aload_n dX4_passLetters_4 rfl <|
 T_getI (C := RX4) (T := TX4) (N := 7) (f := 1) dX4_passLetters_5 c_4_0_0 rfl (by decide) wf_X4_13 rfl <|
 T_icmp_ge (tgt := 38) dX4_passLetters_8 (by decide) (fun z8 =>
 T_aload_n dX4_passLetters_38 rfl <|
 T_iconst dX4_passLetters_39 ic_1 <|
 T_putI (C := RX4) (T := TX4) (N := 7) (f := 4) dX4_passLetters_40 c_4_0_0 rfl (by decide) wf_X4_55 rfl rfl rfl <|
 T_return dX4_passLetters_43 rfl (h.1 z8)) (fun z8 =>
 T_aload_n dX4_passLetters_11 rfl <|
 T_aload_n dX4_passLetters_12 rfl <|
 T_getI (C := RX4) (T := TX4) (N := 7) (f := 2) dX4_passLetters_13 c_4_0_0 rfl (by decide) wf_X4_27 rfl <|
 T_callVi (k' := kX4_byteAt) (vs := [pI (M 4 0 0 2)]) (st := []) dX4_passLetters_16 wm_X4_91 okX4_byteAt rfl c_4_0_0 rfl rfl rfl (Nat.le_of_ble_eq_true rfl) rfl (Nat.le_of_ble_eq_true rfl) (TT.mono (h.2 z8) (rI_mono (fun v2 M1 h7 =>
 T_callSi (k' := kX4_isLetter) (vs := [pI v2]) (st := []) dX4_passLetters_19 wm_X4_103 okX4_isLetter rfl rfl rfl (Nat.le_of_ble_eq_true rfl) rfl (Nat.le_of_ble_eq_true rfl) (TT.mono h7 (rI_mono (fun v4 M3 h6 =>
 T_if_eq (tgt := 38) dX4_passLetters_22 (by decide) (fun z5 =>
 T_aload_n dX4_passLetters_38 rfl <|
 T_iconst dX4_passLetters_39 ic_1 <|
 T_putI (C := RX4) (T := TX4) (N := 7) (f := 4) dX4_passLetters_40 c_4_0_0 rfl (by decide) wf_X4_55 rfl rfl rfl <|
 T_return dX4_passLetters_43 rfl (h6.1 z5)) (fun z5 =>
 T_aload_n dX4_passLetters_25 rfl <|
 T_dupR dX4_passLetters_26 <|
 T_getI (C := RX4) (T := TX4) (N := 7) (f := 2) dX4_passLetters_27 c_4_0_0 rfl (by decide) wf_X4_27 rfl <|
 T_iconst dX4_passLetters_30 ic_1 <|
 T_iadd dX4_passLetters_31 <|
 T_putI (C := RX4) (T := TX4) (N := 7) (f := 2) dX4_passLetters_32 c_4_0_0 rfl (by decide) wf_X4_27 rfl rfl rfl <|
 T_goto (tgt := 0) dX4_passLetters_35 (by decide) <|
 (h6.2 z5)))))))))
theorem rX4_passFigures_0 {X : Nat × (Nat → Int32)}  {M : Mem} {Q : Option PV → Mem → Prop} (h : TT X kX4_passFigures 5 [some (pR (4, 0, 0))] [] (mset M 4 0 0 5 0) Q) : TT X kX4_passFigures 0 [some (pR (4, 0, 0))] [] M Q :=
 T_aload_n dX4_passFigures_0 rfl <|
 T_iconst dX4_passFigures_1 ic_0 <|
 T_putI (C := RX4) (T := TX4) (N := 7) (f := 5) dX4_passFigures_2 c_4_0_0 rfl (by decide) wf_X4_83 rfl rfl rfl <|
 h
theorem rX4_passFigures_5 {X : Nat × (Nat → Int32)}  {M : Mem} {Q : Option PV → Mem → Prop} (h : ((M 4 0 0 1) ≤ (M 4 0 0 2) → (3 < ((M 4 0 0 2) - (M 4 0 0 3)) → Q none (mset M 4 0 0 4 4)) ∧ (¬ 3 < ((M 4 0 0 2) - (M 4 0 0 3)) → Q none (mset M 4 0 0 4 2))) ∧ (¬ (M 4 0 0 1) ≤ (M 4 0 0 2) → TT X kX4_byteAt 0 [some (pR (4, 0, 0)), some (pI (M 4 0 0 2))] [] M (rI fun v3 M2 => TT X kX4_isFigure 0 [some (pI v3)] [] M2 (rI fun v5 M4 => (v5 = 0 → (3 < ((M4 4 0 0 2) - (M4 4 0 0 3)) → Q none (mset M4 4 0 0 4 4)) ∧ (¬ 3 < ((M4 4 0 0 2) - (M4 4 0 0 3)) → Q none (mset M4 4 0 0 4 2))) ∧ (¬ v5 = 0 → (3 ≤ ((M4 4 0 0 2) - (M4 4 0 0 3)) → TT X kX4_passFigures 5 [some (pR (4, 0, 0))] [] (mset M4 4 0 0 2 ((M4 4 0 0 2) + 1)) Q) ∧ (¬ 3 ≤ ((M4 4 0 0 2) - (M4 4 0 0 3)) → TT X kX4_byteAt 0 [some (pR (4, 0, 0)), some (pI (M4 4 0 0 2))] [] M4 (rI fun v8 M7 => TT X kX4_passFigures 5 [some (pR (4, 0, 0))] [] (mset (mset M7 4 0 0 5 ((((M4 4 0 0 5) * 10) + v8) - 48)) 4 0 0 2 (((mset M7 4 0 0 5 ((((M4 4 0 0 5) * 10) + v8) - 48)) 4 0 0 2) + 1)) Q))))))) : TT X kX4_passFigures 5 [some (pR (4, 0, 0))] [] M Q :=
 T_aload_n dX4_passFigures_5 rfl <|
 T_getI (C := RX4) (T := TX4) (N := 7) (f := 2) dX4_passFigures_6 c_4_0_0 rfl (by decide) wf_X4_27 rfl <|
 T_aload_n dX4_passFigures_9 rfl <|
 T_getI (C := RX4) (T := TX4) (N := 7) (f := 1) dX4_passFigures_10 c_4_0_0 rfl (by decide) wf_X4_13 rfl <|
 T_icmp_ge (tgt := 79) dX4_passFigures_13 (by decide) (fun z14 =>
 T_aload_n dX4_passFigures_79 rfl <|
 T_aload_n dX4_passFigures_80 rfl <|
 T_getI (C := RX4) (T := TX4) (N := 7) (f := 2) dX4_passFigures_81 c_4_0_0 rfl (by decide) wf_X4_27 rfl <|
 T_aload_n dX4_passFigures_84 rfl <|
 T_getI (C := RX4) (T := TX4) (N := 7) (f := 3) dX4_passFigures_85 c_4_0_0 rfl (by decide) wf_X4_19 rfl <|
 T_isub dX4_passFigures_88 <|
 T_iconst dX4_passFigures_89 ic_3 <|
 T_icmp_gt (tgt := 97) dX4_passFigures_90 (by decide) (fun z1 =>
 T_iconst dX4_passFigures_97 ic_4 <|
 T_putI (C := RX4) (T := TX4) (N := 7) (f := 4) dX4_passFigures_98 c_4_0_0 rfl (by decide) wf_X4_55 rfl rfl rfl <|
 T_return dX4_passFigures_101 rfl ((h.1 z14).1 z1)) (fun z1 =>
 T_iconst dX4_passFigures_93 ic_2 <|
 T_goto (tgt := 98) dX4_passFigures_94 (by decide) <|
 T_putI (C := RX4) (T := TX4) (N := 7) (f := 4) dX4_passFigures_98 c_4_0_0 rfl (by decide) wf_X4_55 rfl rfl rfl <|
 T_return dX4_passFigures_101 rfl ((h.1 z14).2 z1))) (fun z14 =>
 T_aload_n dX4_passFigures_16 rfl <|
 T_aload_n dX4_passFigures_17 rfl <|
 T_getI (C := RX4) (T := TX4) (N := 7) (f := 2) dX4_passFigures_18 c_4_0_0 rfl (by decide) wf_X4_27 rfl <|
 T_callVi (k' := kX4_byteAt) (vs := [pI (M 4 0 0 2)]) (st := []) dX4_passFigures_21 wm_X4_91 okX4_byteAt rfl c_4_0_0 rfl rfl rfl (Nat.le_of_ble_eq_true rfl) rfl (Nat.le_of_ble_eq_true rfl) (TT.mono (h.2 z14) (rI_mono (fun v3 M2 h13 =>
 T_callSi (k' := kX4_isFigure) (vs := [pI v3]) (st := []) dX4_passFigures_24 wm_X4_109 okX4_isFigure rfl rfl rfl (Nat.le_of_ble_eq_true rfl) rfl (Nat.le_of_ble_eq_true rfl) (TT.mono h13 (rI_mono (fun v5 M4 h12 =>
 T_if_eq (tgt := 79) dX4_passFigures_27 (by decide) (fun z11 =>
 T_aload_n dX4_passFigures_79 rfl <|
 T_aload_n dX4_passFigures_80 rfl <|
 T_getI (C := RX4) (T := TX4) (N := 7) (f := 2) dX4_passFigures_81 c_4_0_0 rfl (by decide) wf_X4_27 rfl <|
 T_aload_n dX4_passFigures_84 rfl <|
 T_getI (C := RX4) (T := TX4) (N := 7) (f := 3) dX4_passFigures_85 c_4_0_0 rfl (by decide) wf_X4_19 rfl <|
 T_isub dX4_passFigures_88 <|
 T_iconst dX4_passFigures_89 ic_3 <|
 T_icmp_gt (tgt := 97) dX4_passFigures_90 (by decide) (fun z6 =>
 T_iconst dX4_passFigures_97 ic_4 <|
 T_putI (C := RX4) (T := TX4) (N := 7) (f := 4) dX4_passFigures_98 c_4_0_0 rfl (by decide) wf_X4_55 rfl rfl rfl <|
 T_return dX4_passFigures_101 rfl ((h12.1 z11).1 z6)) (fun z6 =>
 T_iconst dX4_passFigures_93 ic_2 <|
 T_goto (tgt := 98) dX4_passFigures_94 (by decide) <|
 T_putI (C := RX4) (T := TX4) (N := 7) (f := 4) dX4_passFigures_98 c_4_0_0 rfl (by decide) wf_X4_55 rfl rfl rfl <|
 T_return dX4_passFigures_101 rfl ((h12.1 z11).2 z6))) (fun z11 =>
 T_aload_n dX4_passFigures_30 rfl <|
 T_getI (C := RX4) (T := TX4) (N := 7) (f := 2) dX4_passFigures_31 c_4_0_0 rfl (by decide) wf_X4_27 rfl <|
 T_aload_n dX4_passFigures_34 rfl <|
 T_getI (C := RX4) (T := TX4) (N := 7) (f := 3) dX4_passFigures_35 c_4_0_0 rfl (by decide) wf_X4_19 rfl <|
 T_isub dX4_passFigures_38 <|
 T_iconst dX4_passFigures_39 ic_3 <|
 T_icmp_ge (tgt := 66) dX4_passFigures_40 (by decide) (fun z10 =>
 T_aload_n dX4_passFigures_66 rfl <|
 T_dupR dX4_passFigures_67 <|
 T_getI (C := RX4) (T := TX4) (N := 7) (f := 2) dX4_passFigures_68 c_4_0_0 rfl (by decide) wf_X4_27 rfl <|
 T_iconst dX4_passFigures_71 ic_1 <|
 T_iadd dX4_passFigures_72 <|
 T_putI (C := RX4) (T := TX4) (N := 7) (f := 2) dX4_passFigures_73 c_4_0_0 rfl (by decide) wf_X4_27 rfl rfl rfl <|
 T_goto (tgt := 5) dX4_passFigures_76 (by decide) <|
 ((h12.2 z11).1 z10)) (fun z10 =>
 T_aload_n dX4_passFigures_43 rfl <|
 T_aload_n dX4_passFigures_44 rfl <|
 T_getI (C := RX4) (T := TX4) (N := 7) (f := 5) dX4_passFigures_45 c_4_0_0 rfl (by decide) wf_X4_83 rfl <|
 T_bipush dX4_passFigures_48 bp_10 <|
 T_imul dX4_passFigures_50 <|
 T_aload_n dX4_passFigures_51 rfl <|
 T_aload_n dX4_passFigures_52 rfl <|
 T_getI (C := RX4) (T := TX4) (N := 7) (f := 2) dX4_passFigures_53 c_4_0_0 rfl (by decide) wf_X4_27 rfl <|
 T_callVi (k' := kX4_byteAt) (vs := [pI (M4 4 0 0 2)]) (st := [pI ((M4 4 0 0 5) * 10), pR (4, 0, 0)]) dX4_passFigures_56 wm_X4_91 okX4_byteAt rfl c_4_0_0 rfl rfl rfl (Nat.le_of_ble_eq_true rfl) rfl (Nat.le_of_ble_eq_true rfl) (TT.mono ((h12.2 z11).2 z10) (rI_mono (fun v8 M7 h9 =>
 T_iadd dX4_passFigures_59 <|
 T_bipush dX4_passFigures_60 bp_48 <|
 T_isub dX4_passFigures_62 <|
 T_putI (C := RX4) (T := TX4) (N := 7) (f := 5) dX4_passFigures_63 c_4_0_0 rfl (by decide) wf_X4_83 rfl rfl rfl <|
 T_aload_n dX4_passFigures_66 rfl <|
 T_dupR dX4_passFigures_67 <|
 T_getI (C := RX4) (T := TX4) (N := 7) (f := 2) dX4_passFigures_68 c_4_0_0 rfl (by decide) wf_X4_27 rfl <|
 T_iconst dX4_passFigures_71 ic_1 <|
 T_iadd dX4_passFigures_72 <|
 T_putI (C := RX4) (T := TX4) (N := 7) (f := 2) dX4_passFigures_73 c_4_0_0 rfl (by decide) wf_X4_27 rfl rfl rfl <|
 T_goto (tgt := 5) dX4_passFigures_76 (by decide) <|
 h9))))))))))))
