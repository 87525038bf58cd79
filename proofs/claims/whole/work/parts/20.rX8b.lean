theorem rX8_deal_0 {X : Nat × (Nat → Int32)} {a1 : Int32} {a2 : Int32} {a3 : Int32} {M : Mem} {Q : Option PV → Mem → Prop} (h : TT X kX6_hasStep 0 [some (pR (6, 0, 0)), some (pI a1)] [] M (rI fun v2 M1 => (v2 = 0 → Q (some (pI (-1000001))) M1) ∧ (¬ v2 = 0 → TT X kX6_isOwner 0 [some (pI a2)] [] M1 (rI fun v4 M3 => (v4 = 0 → Q (some (pI (-1000001))) M3) ∧ (¬ v4 = 0 → vp_in a1 18 ∧ (((M3 6 0 3 (Int32.toNatClampNeg a1)) = a2 → Q (some (pI (-1000001))) M3) ∧ (¬ (M3 6 0 3 (Int32.toNatClampNeg a1)) = a2 → (a3 < 0 → Q (some (pI (-1000001))) M3) ∧ (¬ a3 < 0 → (a3 ≤ 1 → TT X kX8_dealTaken 0 [some (pR (8, 0, 0)), some (pI (1 <<< (a2 &&& 31))), some (pI a3)] [] M3 (rI fun v6 M5 => TT X kX6_takeOver 0 [some (pR (6, 2, 0)), some (pR (6, 0, 0)), none] [] M5 (rV fun M7 => vp_in a1 18 ∧ ((¬ a3 = 0 → TT X kX3_seek 0 [some (pR (3, 0, 0)), some (pR (6, 2, 0)), some (pI (1 <<< (a2 &&& 31))), none, none] [] (mset M7 6 2 3 (Int32.toNatClampNeg a1) a2) (rV fun M9 => TT X kX3_bestTaken 0 [some (pR (3, 0, 0))] [] M9 (rI fun v12 M11 => Q (some (pI (v12 - v6))) M11))) ∧ (a3 = 0 → TT X kX3_taken 0 [some (pR (3, 0, 0)), some (pR (6, 2, 0)), some (pI (1 <<< (a2 &&& 31))), none, none, none] [] (mset M7 6 2 3 (Int32.toNatClampNeg a1) a2) (rI fun v16 M15 => Q (some (pI (v16 - v6))) M15)))))) ∧ (¬ a3 ≤ 1 → Q (some (pI (-1000001))) M3))))))))) : TT X kX8_deal 0 [some (pR (8, 0, 0)), some (pI a1), some (pI a2), some (pI a3), none] [] M Q :=
 T_aload_n dX8_deal_0 rfl <|
 T_getR (C := RX8) (T := TX8) (N := 13) (f := 2) dX8_deal_1 c_8_0_0 rfl (by decide) wf_X8_26 rfl <|
 T_iload_n dX8_deal_4 rfl <|
 T_callVi (k' := kX6_hasStep) (vs := [pI a1]) (st := []) dX8_deal_5 wm_X8_147 okX6_hasStep rfl c_6_0_0 rfl rfl rfl (Nat.le_of_ble_eq_true rfl) rfl (Nat.le_of_ble_eq_true rfl) (TT.mono h (rI_mono (fun v2 M1 h27 =>
 T_if_eq (tgt := 40) dX8_deal_8 (by decide) (fun z26 =>
 T_ldc dX8_deal_40 wc_X8_86 <|
 T_ireturn (ty := .int) dX8_deal_42 rfl rfl (h27.1 z26)) (fun z26 =>
 T_iload_n dX8_deal_11 rfl <|
 T_callSi (k' := kX6_isOwner) (vs := [pI a2]) (st := []) dX8_deal_12 wm_X8_153 okX6_isOwner rfl rfl rfl (Nat.le_of_ble_eq_true rfl) rfl (Nat.le_of_ble_eq_true rfl) (TT.mono (h27.2 z26) (rI_mono (fun v4 M3 h25 =>
 T_if_eq (tgt := 40) dX8_deal_15 (by decide) (fun z24 =>
 T_ldc dX8_deal_40 wc_X8_86 <|
 T_ireturn (ty := .int) dX8_deal_42 rfl rfl (h25.1 z24)) (fun z24 =>
 T_aload_n dX8_deal_18 rfl <|
 T_getR (C := RX8) (T := TX8) (N := 13) (f := 2) dX8_deal_19 c_8_0_0 rfl (by decide) wf_X8_26 rfl <|
 T_getR (C := RX6) (T := TX6) (N := 9) (f := 2) dX8_deal_22 c_6_0_0 rfl (by decide) wf_X8_156 rfl <|
 T_iload_n dX8_deal_25 rfl <|
 T_iald (n := 18) dX8_deal_26 c_6_0_3 (by decide) (by decide) (by decide) rfl (h25.2 z24).1 <|
 T_iload_n dX8_deal_27 rfl <|
 T_icmp_eq (tgt := 40) dX8_deal_28 (by decide) (fun z23 =>
 T_ldc dX8_deal_40 wc_X8_86 <|
 T_ireturn (ty := .int) dX8_deal_42 rfl rfl ((h25.2 z24).2.1 z23)) (fun z23 =>
 T_iload_n dX8_deal_31 rfl <|
 T_if_lt (tgt := 40) dX8_deal_32 (by decide) (fun z22 =>
 T_ldc dX8_deal_40 wc_X8_86 <|
 T_ireturn (ty := .int) dX8_deal_42 rfl rfl (((h25.2 z24).2.2 z23).1 z22)) (fun z22 =>
 T_iload_n dX8_deal_35 rfl <|
 T_iconst dX8_deal_36 ic_1 <|
 T_icmp_le (tgt := 43) dX8_deal_37 (by decide) (fun z21 =>
 T_aload_n dX8_deal_43 rfl <|
 T_iconst dX8_deal_44 ic_1 <|
 T_iload_n dX8_deal_45 rfl <|
 T_ishl dX8_deal_46 <|
 T_iload_n dX8_deal_47 rfl <|
 T_callVi (k' := kX8_dealTaken) (vs := [pI (1 <<< (a2 &&& 31)), pI a3]) (st := []) dX8_deal_48 wm_X8_266 okX8_dealTaken rfl c_8_0_0 rfl rfl rfl (Nat.le_of_ble_eq_true rfl) rfl (Nat.le_of_ble_eq_true rfl) (TT.mono ((((h25.2 z24).2.2 z23).2 z22).1 z21) (rI_mono (fun v6 M5 h20 =>
 T_istore dX8_deal_51 (by decide) rfl rfl <|
 T_aload_n dX8_deal_53 rfl <|
 T_getR (C := RX8) (T := TX8) (N := 13) (f := 4) dX8_deal_54 c_8_0_0 rfl (by decide) wf_X8_33 rfl <|
 T_aload_n dX8_deal_57 rfl <|
 T_getR (C := RX8) (T := TX8) (N := 13) (f := 2) dX8_deal_58 c_8_0_0 rfl (by decide) wf_X8_26 rfl <|
 T_callVv (k' := kX6_takeOver) (vs := [pR (6, 0, 0)]) (st := []) dX8_deal_61 wm_X8_214 okX6_takeOver rfl c_6_2_0 rfl rfl rfl (Nat.le_of_ble_eq_true rfl) rfl (Nat.le_of_ble_eq_true rfl) (TT.mono h20 (rV_mono (fun M7 h19 =>
 T_aload_n dX8_deal_64 rfl <|
 T_getR (C := RX8) (T := TX8) (N := 13) (f := 4) dX8_deal_65 c_8_0_0 rfl (by decide) wf_X8_33 rfl <|
 T_getR (C := RX6) (T := TX6) (N := 9) (f := 2) dX8_deal_68 c_6_2_0 rfl (by decide) wf_X8_156 rfl <|
 T_iload_n dX8_deal_71 rfl <|
 T_iload_n dX8_deal_72 rfl <|
 T_iast (n := 18) dX8_deal_73 c_6_2_3 (by decide) (by decide) (by decide) rfl h19.1 <|
 T_iload_n dX8_deal_74 rfl <|
 T_if_ne (tgt := 96) dX8_deal_75 (by decide) (fun z18 =>
 T_aload_n dX8_deal_96 rfl <|
 T_getR (C := RX8) (T := TX8) (N := 13) (f := 8) dX8_deal_97 c_8_0_0 rfl (by decide) wf_X8_57 rfl <|
 T_aload_n dX8_deal_100 rfl <|
 T_getR (C := RX8) (T := TX8) (N := 13) (f := 4) dX8_deal_101 c_8_0_0 rfl (by decide) wf_X8_33 rfl <|
 T_iconst dX8_deal_104 ic_1 <|
 T_iload_n dX8_deal_105 rfl <|
 T_ishl dX8_deal_106 <|
 T_callVv (k' := kX3_seek) (vs := [pR (6, 2, 0), pI (1 <<< (a2 &&& 31))]) (st := []) dX8_deal_107 wm_X8_217 okX3_seek rfl c_3_0_0 rfl rfl rfl (Nat.le_of_ble_eq_true rfl) rfl (Nat.le_of_ble_eq_true rfl) (TT.mono (h19.2.1 z18) (rV_mono (fun M9 h14 =>
 T_aload_n dX8_deal_110 rfl <|
 T_getR (C := RX8) (T := TX8) (N := 13) (f := 8) dX8_deal_111 c_8_0_0 rfl (by decide) wf_X8_57 rfl <|
 T_callVi (k' := kX3_bestTaken) (vs := []) (st := []) dX8_deal_114 wm_X8_223 okX3_bestTaken rfl c_3_0_0 rfl rfl rfl (Nat.le_of_ble_eq_true rfl) rfl (Nat.le_of_ble_eq_true rfl) (TT.mono h14 (rI_mono (fun v12 M11 h13 =>
 T_iload dX8_deal_117 rfl <|
 T_isub dX8_deal_119 <|
 T_ireturn (ty := .int) dX8_deal_120 rfl rfl h13))))))) (fun z18 =>
 T_aload_n dX8_deal_78 rfl <|
 T_getR (C := RX8) (T := TX8) (N := 13) (f := 8) dX8_deal_79 c_8_0_0 rfl (by decide) wf_X8_57 rfl <|
 T_aload_n dX8_deal_82 rfl <|
 T_getR (C := RX8) (T := TX8) (N := 13) (f := 4) dX8_deal_83 c_8_0_0 rfl (by decide) wf_X8_33 rfl <|
 T_iconst dX8_deal_86 ic_1 <|
 T_iload_n dX8_deal_87 rfl <|
 T_ishl dX8_deal_88 <|
 T_callVi (k' := kX3_taken) (vs := [pR (6, 2, 0), pI (1 <<< (a2 &&& 31))]) (st := []) dX8_deal_89 wm_X8_208 okX3_taken rfl c_3_0_0 rfl rfl rfl (Nat.le_of_ble_eq_true rfl) rfl (Nat.le_of_ble_eq_true rfl) (TT.mono (h19.2.2 z18) (rI_mono (fun v16 M15 h17 =>
 T_iload dX8_deal_92 rfl <|
 T_isub dX8_deal_94 <|
 T_ireturn (ty := .int) dX8_deal_95 rfl rfl h17))))))))))) (fun z21 =>
 T_ldc dX8_deal_40 wc_X8_86 <|
 T_ireturn (ty := .int) dX8_deal_42 rfl rfl ((((h25.2 z24).2.2 z23).2 z22).2 z21))))))))))))
theorem rX8_image_0 {X : Nat × (Nat → Int32)} {a1 : Int32} {M : Mem} {Q : Option PV → Mem → Prop} (h : (a1 < 0 → Q (some (pI (-1000001))) M) ∧ (¬ a1 < 0 → (a1 < 2 → TT X kX6_isNone 0 [some (pR (6, 0, 0))] [] M (rI fun v2 M1 => (v2 = 0 → vp_in a1 2 ∧ (TT X kX6_takeOver 0 [some (pR (6, (Int32.toNatClampNeg a1 + 3), 0)), some (pR (6, 0, 0)), none] [] M1 (rV fun M4 => Q (some (pI 1)) M4))) ∧ (¬ v2 = 0 → Q (some (pI (-1000002))) M1))) ∧ (¬ a1 < 2 → Q (some (pI (-1000001))) M))) : TT X kX8_image 0 [some (pR (8, 0, 0)), some (pI a1)] [] M Q :=
 T_iload_n dX8_image_0 rfl <|
 T_if_lt (tgt := 9) dX8_image_1 (by decide) (fun z10 =>
 T_ldc dX8_image_9 wc_X8_86 <|
 T_ireturn (ty := .int) dX8_image_11 rfl rfl (h.1 z10)) (fun z10 =>
 T_iload_n dX8_image_4 rfl <|
 T_iconst dX8_image_5 ic_2 <|
 T_icmp_lt (tgt := 12) dX8_image_6 (by decide) (fun z9 =>
 T_aload_n dX8_image_12 rfl <|
 T_getR (C := RX8) (T := TX8) (N := 13) (f := 2) dX8_image_13 c_8_0_0 rfl (by decide) wf_X8_26 rfl <|
 T_callVi (k' := kX6_isNone) (vs := []) (st := []) dX8_image_16 wm_X8_205 okX6_isNone rfl c_6_0_0 rfl rfl rfl (Nat.le_of_ble_eq_true rfl) rfl (Nat.le_of_ble_eq_true rfl) (TT.mono ((h.2 z10).1 z9) (rI_mono (fun v2 M1 h8 =>
 T_if_eq (tgt := 25) dX8_image_19 (by decide) (fun z7 =>
 T_aload_n dX8_image_25 rfl <|
 T_getR (C := RX8) (T := TX8) (N := 13) (f := 5) dX8_image_26 c_8_0_0 rfl (by decide) wf_X8_36 rfl <|
 T_iload_n dX8_image_29 rfl <|
 have hv3 := (h8.1 z7).1
 T_aald dX8_image_30 hv3 <|
 T_aload_n dX8_image_31 rfl <|
 T_getR (C := RX8) (T := TX8) (N := 13) (f := 2) dX8_image_32 c_8_0_0 rfl (by decide) wf_X8_26 rfl <|
 T_callVv (k' := kX6_takeOver) (vs := [pR (6, 0, 0)]) (st := []) dX8_image_35 wm_X8_214 okX6_takeOver rfl (cc6_0 (img_lt hv3)) rfl rfl rfl (Nat.le_of_ble_eq_true rfl) rfl (Nat.le_of_ble_eq_true rfl) (TT.mono (h8.1 z7).2 (rV_mono (fun M4 h6 =>
 T_iconst dX8_image_38 ic_1 <|
 T_ireturn (ty := .int) dX8_image_39 rfl rfl h6)))) (fun z7 =>
 T_ldc dX8_image_22 wc_X8_163 <|
 T_ireturn (ty := .int) dX8_image_24 rfl rfl (h8.2 z7)))))) (fun z9 =>
 T_ldc dX8_image_9 wc_X8_86 <|
 T_ireturn (ty := .int) dX8_image_11 rfl rfl ((h.2 z10).2 z9)))
theorem rX8_restore_0 {X : Nat × (Nat → Int32)} {a1 : Int32} {M : Mem} {Q : Option PV → Mem → Prop} (h : (a1 < 0 → Q (some (pI (-1000001))) M) ∧ (¬ a1 < 0 → (a1 < 2 → vp_in a1 2 ∧ (TT X kX6_isNone 0 [some (pR (6, (Int32.toNatClampNeg a1 + 3), 0))] [] M (rI fun v3 M2 => (v3 = 0 → vp_in a1 2 ∧ (TT X kX8_replaceBy 0 [some (pR (8, 0, 0)), some (pR (6, (Int32.toNatClampNeg a1 + 3), 0))] [] M2 (rV fun M5 => Q (some (pI 1)) M5))) ∧ (¬ v3 = 0 → Q (some (pI (-1000002))) M2)))) ∧ (¬ a1 < 2 → Q (some (pI (-1000001))) M))) : TT X kX8_restore 0 [some (pR (8, 0, 0)), some (pI a1)] [] M Q :=
 T_iload_n dX8_restore_0 rfl <|
 T_if_lt (tgt := 9) dX8_restore_1 (by decide) (fun z11 =>
 T_ldc dX8_restore_9 wc_X8_86 <|
 T_ireturn (ty := .int) dX8_restore_11 rfl rfl (h.1 z11)) (fun z11 =>
 T_iload_n dX8_restore_4 rfl <|
 T_iconst dX8_restore_5 ic_2 <|
 T_icmp_lt (tgt := 12) dX8_restore_6 (by decide) (fun z10 =>
 T_aload_n dX8_restore_12 rfl <|
 T_getR (C := RX8) (T := TX8) (N := 13) (f := 5) dX8_restore_13 c_8_0_0 rfl (by decide) wf_X8_36 rfl <|
 T_iload_n dX8_restore_16 rfl <|
 have hv1 := ((h.2 z11).1 z10).1
 T_aald dX8_restore_17 hv1 <|
 T_callVi (k' := kX6_isNone) (vs := []) (st := []) dX8_restore_18 wm_X8_205 okX6_isNone rfl (cc6_0 (img_lt hv1)) rfl rfl rfl (Nat.le_of_ble_eq_true rfl) rfl (Nat.le_of_ble_eq_true rfl) (TT.mono ((h.2 z11).1 z10).2 (rI_mono (fun v3 M2 h9 =>
 T_if_eq (tgt := 27) dX8_restore_21 (by decide) (fun z8 =>
 T_aload_n dX8_restore_27 rfl <|
 T_aload_n dX8_restore_28 rfl <|
 T_getR (C := RX8) (T := TX8) (N := 13) (f := 5) dX8_restore_29 c_8_0_0 rfl (by decide) wf_X8_36 rfl <|
 T_iload_n dX8_restore_32 rfl <|
 have hv4 := (h9.1 z8).1
 T_aald dX8_restore_33 hv4 <|
 T_callVv (k' := kX8_replaceBy) (vs := [pR (6, (Int32.toNatClampNeg a1 + 3), 0)]) (st := []) dX8_restore_34 wm_X8_140 okX8_replaceBy rfl c_8_0_0 rfl rfl rfl (Nat.le_of_ble_eq_true rfl) rfl (Nat.le_of_ble_eq_true rfl) (TT.mono (h9.1 z8).2 (rV_mono (fun M5 h7 =>
 T_iconst dX8_restore_37 ic_1 <|
 T_ireturn (ty := .int) dX8_restore_38 rfl rfl h7)))) (fun z8 =>
 T_ldc dX8_restore_24 wc_X8_163 <|
 T_ireturn (ty := .int) dX8_restore_26 rfl rfl (h9.2 z8)))))) (fun z10 =>
 T_ldc dX8_restore_9 wc_X8_86 <|
 T_ireturn (ty := .int) dX8_restore_11 rfl rfl ((h.2 z11).2 z10)))
theorem rX8_kind_0 {X : Nat × (Nat → Int32)} {a1 : Int32} {M : Mem} {Q : Option PV → Mem → Prop} (h : TT X kX6_hasStep 0 [some (pR (6, 0, 0)), some (pI a1)] [] M (rI fun v2 M1 => (v2 = 0 → Q (some (pI (-1000001))) M1) ∧ (¬ v2 = 0 → TT X kX1_kindOf 0 [some (pR (6, 0, 0)), some (pI a1), none] [] M1 (rI fun v4 M3 => Q (some (pI v4)) M3)))) : TT X kX8_kind 0 [some (pR (8, 0, 0)), some (pI a1)] [] M Q :=
 T_aload_n dX8_kind_0 rfl <|
 T_getR (C := RX8) (T := TX8) (N := 13) (f := 2) dX8_kind_1 c_8_0_0 rfl (by decide) wf_X8_26 rfl <|
 T_iload_n dX8_kind_4 rfl <|
 T_callVi (k' := kX6_hasStep) (vs := [pI a1]) (st := []) dX8_kind_5 wm_X8_147 okX6_hasStep rfl c_6_0_0 rfl rfl rfl (Nat.le_of_ble_eq_true rfl) rfl (Nat.le_of_ble_eq_true rfl) (TT.mono h (rI_mono (fun v2 M1 h7 =>
 T_if_eq (tgt := 22) dX8_kind_8 (by decide) (fun z6 =>
 T_ldc dX8_kind_22 wc_X8_86 <|
 T_ireturn (ty := .int) dX8_kind_24 rfl rfl (h7.1 z6)) (fun z6 =>
 T_aload_n dX8_kind_11 rfl <|
 T_getR (C := RX8) (T := TX8) (N := 13) (f := 2) dX8_kind_12 c_8_0_0 rfl (by decide) wf_X8_26 rfl <|
 T_iload_n dX8_kind_15 rfl <|
 T_callSi (k' := kX1_kindOf) (vs := [pR (6, 0, 0), pI a1]) (st := []) dX8_kind_16 wm_X8_269 okX1_kindOf rfl rfl rfl (Nat.le_of_ble_eq_true rfl) rfl (Nat.le_of_ble_eq_true rfl) (TT.mono (h7.2 z6) (rI_mono (fun v4 M3 h5 =>
 T_goto (tgt := 24) dX8_kind_19 (by decide) <|
 T_ireturn (ty := .int) dX8_kind_24 rfl rfl h5)))))))
theorem rX8_as_0 {X : Nat × (Nat → Int32)} {a1 : Int32} {a2 : Int32} {M : Mem} {Q : Option PV → Mem → Prop} (h : TT X kX6_hasStep 0 [some (pR (6, 0, 0)), some (pI a1)] [] M (rI fun v2 M1 => (v2 = 0 → Q (some (pI (-1000001))) M1) ∧ (¬ v2 = 0 → (a2 < 0 → Q (some (pI (-1000001))) M1) ∧ (¬ a2 < 0 → (a2 < 6 → TT X kX1_kindOf 0 [some (pR (6, 0, 0)), some (pI a1), none] [] M1 (rI fun v4 M3 => TT X kX1_isOf 0 [some (pI v4), some (pI a2)] [] M3 (rI fun v6 M5 => (¬ v6 = 0 → TT X kX8_fine 0 [some (pR (8, 0, 0)), some (pI a1)] [] M5 (rI fun v8 M7 => Q (some (pI v8)) M7)) ∧ (v6 = 0 → TT X kX8_found 0 [some (pR (8, 0, 0)), some (pI 3)] [] M5 (rI fun v11 M10 => Q (some (pI v11)) M10))))) ∧ (¬ a2 < 6 → Q (some (pI (-1000001))) M1))))) : TT X kX8_as 0 [some (pR (8, 0, 0)), some (pI a1), some (pI a2)] [] M Q :=
 T_aload_n dX8_as_0 rfl <|
 T_getR (C := RX8) (T := TX8) (N := 13) (f := 2) dX8_as_1 c_8_0_0 rfl (by decide) wf_X8_26 rfl <|
 T_iload_n dX8_as_4 rfl <|
 T_callVi (k' := kX6_hasStep) (vs := [pI a1]) (st := []) dX8_as_5 wm_X8_147 okX6_hasStep rfl c_6_0_0 rfl rfl rfl (Nat.le_of_ble_eq_true rfl) rfl (Nat.le_of_ble_eq_true rfl) (TT.mono h (rI_mono (fun v2 M1 h19 =>
 T_if_eq (tgt := 21) dX8_as_8 (by decide) (fun z18 =>
 T_ldc dX8_as_21 wc_X8_86 <|
 T_ireturn (ty := .int) dX8_as_23 rfl rfl (h19.1 z18)) (fun z18 =>
 T_iload_n dX8_as_11 rfl <|
 T_if_lt (tgt := 21) dX8_as_12 (by decide) (fun z17 =>
 T_ldc dX8_as_21 wc_X8_86 <|
 T_ireturn (ty := .int) dX8_as_23 rfl rfl ((h19.2 z18).1 z17)) (fun z17 =>
 T_iload_n dX8_as_15 rfl <|
 T_bipush dX8_as_16 bp_6 <|
 T_icmp_lt (tgt := 24) dX8_as_18 (by decide) (fun z16 =>
 T_aload_n dX8_as_24 rfl <|
 T_getR (C := RX8) (T := TX8) (N := 13) (f := 2) dX8_as_25 c_8_0_0 rfl (by decide) wf_X8_26 rfl <|
 T_iload_n dX8_as_28 rfl <|
 T_callSi (k' := kX1_kindOf) (vs := [pR (6, 0, 0), pI a1]) (st := []) dX8_as_29 wm_X8_269 okX1_kindOf rfl rfl rfl (Nat.le_of_ble_eq_true rfl) rfl (Nat.le_of_ble_eq_true rfl) (TT.mono (((h19.2 z18).2 z17).1 z16) (rI_mono (fun v4 M3 h15 =>
 T_iload_n dX8_as_32 rfl <|
 T_callSi (k' := kX1_isOf) (vs := [pI v4, pI a2]) (st := []) dX8_as_33 wm_X8_272 okX1_isOf rfl rfl rfl (Nat.le_of_ble_eq_true rfl) rfl (Nat.le_of_ble_eq_true rfl) (TT.mono h15 (rI_mono (fun v6 M5 h14 =>
 T_if_ne (tgt := 45) dX8_as_36 (by decide) (fun z13 =>
 T_aload_n dX8_as_45 rfl <|
 T_iload_n dX8_as_46 rfl <|
 T_callVi (k' := kX8_fine) (vs := [pI a1]) (st := []) dX8_as_47 wm_X8_95 okX8_fine rfl c_8_0_0 rfl rfl rfl (Nat.le_of_ble_eq_true rfl) rfl (Nat.le_of_ble_eq_true rfl) (TT.mono (h14.1 z13) (rI_mono (fun v8 M7 h9 =>
 T_ireturn (ty := .int) dX8_as_50 rfl rfl h9)))) (fun z13 =>
 T_aload_n dX8_as_39 rfl <|
 T_iconst dX8_as_40 ic_3 <|
 T_callVi (k' := kX8_found) (vs := [pI 3]) (st := []) dX8_as_41 wm_X8_87 okX8_found rfl c_8_0_0 rfl rfl rfl (Nat.le_of_ble_eq_true rfl) rfl (Nat.le_of_ble_eq_true rfl) (TT.mono (h14.2 z13) (rI_mono (fun v11 M10 h12 =>
 T_ireturn (ty := .int) dX8_as_44 rfl rfl h12))))))))))) (fun z16 =>
 T_ldc dX8_as_21 wc_X8_86 <|
 T_ireturn (ty := .int) dX8_as_23 rfl rfl (((h19.2 z18).2 z17).2 z16)))))))
theorem rX8_ask_0 {X : Nat × (Nat → Int32)} {a1 : Int32} {a2 : Int32} {M : Mem} {Q : Option PV → Mem → Prop} (h : TT X kX6_hasStep 0 [some (pR (6, 0, 0)), some (pI a1)] [] M (rI fun v2 M1 => (v2 = 0 → Q (some (pI (-1000001))) M1) ∧ (¬ v2 = 0 → (a2 < 0 → Q (some (pI (-1000001))) M1) ∧ (¬ a2 < 0 → (a2 ≤ 1 → TT X kX1_turnTo 0 [some (pR (1, 0, 0)), some (pR (6, 0, 0)), some (pI a1)] [] M1 (rV fun M3 => (¬ a2 = 0 → TT X kX1_mark 0 [some (pR (1, 0, 0))] [] M3 (rI fun v6 M5 => Q (some (pI v6)) M5)) ∧ (a2 = 0 → TT X kX1_size 0 [some (pR (1, 0, 0))] [] M3 (rI fun v9 M8 => Q (some (pI v9)) M8)))) ∧ (¬ a2 ≤ 1 → Q (some (pI (-1000001))) M1))))) : TT X kX8_ask 0 [some (pR (8, 0, 0)), some (pI a1), some (pI a2)] [] M Q :=
 T_aload_n dX8_ask_0 rfl <|
 T_getR (C := RX8) (T := TX8) (N := 13) (f := 2) dX8_ask_1 c_8_0_0 rfl (by decide) wf_X8_26 rfl <|
 T_iload_n dX8_ask_4 rfl <|
 T_callVi (k' := kX6_hasStep) (vs := [pI a1]) (st := []) dX8_ask_5 wm_X8_147 okX6_hasStep rfl c_6_0_0 rfl rfl rfl (Nat.le_of_ble_eq_true rfl) rfl (Nat.le_of_ble_eq_true rfl) (TT.mono h (rI_mono (fun v2 M1 h16 =>
 T_if_eq (tgt := 20) dX8_ask_8 (by decide) (fun z15 =>
 T_ldc dX8_ask_20 wc_X8_86 <|
 T_ireturn (ty := .int) dX8_ask_22 rfl rfl (h16.1 z15)) (fun z15 =>
 T_iload_n dX8_ask_11 rfl <|
 T_if_lt (tgt := 20) dX8_ask_12 (by decide) (fun z14 =>
 T_ldc dX8_ask_20 wc_X8_86 <|
 T_ireturn (ty := .int) dX8_ask_22 rfl rfl ((h16.2 z15).1 z14)) (fun z14 =>
 T_iload_n dX8_ask_15 rfl <|
 T_iconst dX8_ask_16 ic_1 <|
 T_icmp_le (tgt := 23) dX8_ask_17 (by decide) (fun z13 =>
 T_aload_n dX8_ask_23 rfl <|
 T_getR (C := RX8) (T := TX8) (N := 13) (f := 10) dX8_ask_24 c_8_0_0 rfl (by decide) wf_X8_71 rfl <|
 T_aload_n dX8_ask_27 rfl <|
 T_getR (C := RX8) (T := TX8) (N := 13) (f := 2) dX8_ask_28 c_8_0_0 rfl (by decide) wf_X8_26 rfl <|
 T_iload_n dX8_ask_31 rfl <|
 T_callVv (k' := kX1_turnTo) (vs := [pR (6, 0, 0), pI a1]) (st := []) dX8_ask_32 wm_X8_275 okX1_turnTo rfl c_1_0_0 rfl rfl rfl (Nat.le_of_ble_eq_true rfl) rfl (Nat.le_of_ble_eq_true rfl) (TT.mono (((h16.2 z15).2 z14).1 z13) (rV_mono (fun M3 h12 =>
 T_iload_n dX8_ask_35 rfl <|
 T_if_ne (tgt := 49) dX8_ask_36 (by decide) (fun z11 =>
 T_aload_n dX8_ask_49 rfl <|
 T_getR (C := RX8) (T := TX8) (N := 13) (f := 10) dX8_ask_50 c_8_0_0 rfl (by decide) wf_X8_71 rfl <|
 T_callVi (k' := kX1_mark) (vs := []) (st := []) dX8_ask_53 wm_X8_281 okX1_mark rfl c_1_0_0 rfl rfl rfl (Nat.le_of_ble_eq_true rfl) rfl (Nat.le_of_ble_eq_true rfl) (TT.mono (h12.1 z11) (rI_mono (fun v6 M5 h7 =>
 T_ireturn (ty := .int) dX8_ask_56 rfl rfl h7)))) (fun z11 =>
 T_aload_n dX8_ask_39 rfl <|
 T_getR (C := RX8) (T := TX8) (N := 13) (f := 10) dX8_ask_40 c_8_0_0 rfl (by decide) wf_X8_71 rfl <|
 T_callVi (k' := kX1_size) (vs := []) (st := []) dX8_ask_43 wm_X8_278 okX1_size rfl c_1_0_0 rfl rfl rfl (Nat.le_of_ble_eq_true rfl) rfl (Nat.le_of_ble_eq_true rfl) (TT.mono (h12.2 z11) (rI_mono (fun v9 M8 h10 =>
 T_goto (tgt := 56) dX8_ask_46 (by decide) <|
 T_ireturn (ty := .int) dX8_ask_56 rfl rfl h10)))))))) (fun z13 =>
 T_ldc dX8_ask_20 wc_X8_86 <|
 T_ireturn (ty := .int) dX8_ask_22 rfl rfl (((h16.2 z15).2 z14).2 z13)))))))
theorem rX8_trace_0 {X : Nat × (Nat → Int32)} {a1 : Int32} {M : Mem} {Q : Option PV → Mem → Prop} (h : TT X kX1_begun 0 [some (pR (1, 0, 0)), some (pI a1)] [] M (rI fun v2 M1 => Q (some (pI v2)) M1)) : TT X kX8_trace 0 [some (pR (8, 0, 0)), some (pI a1)] [] M Q :=
 T_aload_n dX8_trace_0 rfl <|
 T_getR (C := RX8) (T := TX8) (N := 13) (f := 10) dX8_trace_1 c_8_0_0 rfl (by decide) wf_X8_71 rfl <|
 T_iload_n dX8_trace_4 rfl <|
 T_callVi (k' := kX1_begun) (vs := [pI a1]) (st := []) dX8_trace_5 wm_X8_284 okX1_begun rfl c_1_0_0 rfl rfl rfl (Nat.le_of_ble_eq_true rfl) rfl (Nat.le_of_ble_eq_true rfl) (TT.mono h (rI_mono (fun v2 M1 h3 =>
 T_ireturn (ty := .int) dX8_trace_8 rfl rfl h3)))
theorem rX8_count_0 {X : Nat × (Nat → Int32)} {a1 : Int32} {M : Mem} {Q : Option PV → Mem → Prop} (h : (a1 = 0 → TT X kX5_there 0 [some (pR (5, 0, 0)), none, none] [] M (rI fun v2 M1 => Q (some (pI v2)) M1)) ∧ (a1 = 1 → Q (some (pI (M 6 0 0 0))) M) ∧ (a1 = 2 → Q (some (pI (M 6 0 0 1))) M) ∧ (a1 = 3 → TT X kX6_brokenOnes 0 [some (pR (6, 0, 0)), none, none] [] M (rI fun v5 M4 => Q (some (pI v5)) M4)) ∧ (a1 = 4 → TT X kX0_kept 0 [some (pR (0, 0, 0))] [] M (rI fun v8 M7 => Q (some (pI v8)) M7)) ∧ (a1 = 5 → TT X kX4_bytes 0 [some (pR (4, 0, 0))] [] M (rI fun v11 M10 => Q (some (pI v11)) M10)) ∧ (((a1).toInt < 0 ∨ 5 < (a1).toInt) → Q (some (pI (-1000001))) M)) : TT X kX8_count 0 [some (pR (8, 0, 0)), some (pI a1)] [] M Q :=
 T_iload_n dX8_count_0 rfl <|
 (Decidable.byCases (fun z13 : a1 = 0 => T_table (tgt := 40) dX8_count_1 (by rw [z13]; decide +kernel) (by decide) <|
 T_aload_n dX8_count_40 rfl <|
 T_getR (C := RX8) (T := TX8) (N := 13) (f := 0) dX8_count_41 c_8_0_0 rfl (by decide) wf_X8_10 rfl <|
 T_callVi (k' := kX5_there) (vs := []) (st := []) dX8_count_44 wm_X8_287 okX5_there rfl c_5_0_0 rfl rfl rfl (Nat.le_of_ble_eq_true rfl) rfl (Nat.le_of_ble_eq_true rfl) (TT.mono (h.1 z13) (rI_mono (fun v2 M1 h3 =>
 T_ireturn (ty := .int) dX8_count_47 rfl rfl h3)))) (fun nz13 : ¬ a1 = 0 =>
 (Decidable.byCases (fun z14 : a1 = 1 => T_table (tgt := 48) dX8_count_1 (by rw [z14]; decide +kernel) (by decide) <|
 T_aload_n dX8_count_48 rfl <|
 T_getR (C := RX8) (T := TX8) (N := 13) (f := 2) dX8_count_49 c_8_0_0 rfl (by decide) wf_X8_26 rfl <|
 T_getI (C := RX6) (T := TX6) (N := 9) (f := 0) dX8_count_52 c_6_0_0 rfl (by decide) wf_X8_144 rfl <|
 T_ireturn (ty := .int) dX8_count_55 rfl rfl (h.2.1 z14)) (fun nz14 : ¬ a1 = 1 =>
 (Decidable.byCases (fun z15 : a1 = 2 => T_table (tgt := 56) dX8_count_1 (by rw [z15]; decide +kernel) (by decide) <|
 T_aload_n dX8_count_56 rfl <|
 T_getR (C := RX8) (T := TX8) (N := 13) (f := 2) dX8_count_57 c_8_0_0 rfl (by decide) wf_X8_26 rfl <|
 T_getI (C := RX6) (T := TX6) (N := 9) (f := 1) dX8_count_60 c_6_0_0 rfl (by decide) wf_X8_290 rfl <|
 T_ireturn (ty := .int) dX8_count_63 rfl rfl (h.2.2.1 z15)) (fun nz15 : ¬ a1 = 2 =>
 (Decidable.byCases (fun z16 : a1 = 3 => T_table (tgt := 64) dX8_count_1 (by rw [z16]; decide +kernel) (by decide) <|
 T_aload_n dX8_count_64 rfl <|
 T_getR (C := RX8) (T := TX8) (N := 13) (f := 2) dX8_count_65 c_8_0_0 rfl (by decide) wf_X8_26 rfl <|
 T_callVi (k' := kX6_brokenOnes) (vs := []) (st := []) dX8_count_68 wm_X8_293 okX6_brokenOnes rfl c_6_0_0 rfl rfl rfl (Nat.le_of_ble_eq_true rfl) rfl (Nat.le_of_ble_eq_true rfl) (TT.mono (h.2.2.2.1 z16) (rI_mono (fun v5 M4 h6 =>
 T_ireturn (ty := .int) dX8_count_71 rfl rfl h6)))) (fun nz16 : ¬ a1 = 3 =>
 (Decidable.byCases (fun z17 : a1 = 4 => T_table (tgt := 72) dX8_count_1 (by rw [z17]; decide +kernel) (by decide) <|
 T_aload_n dX8_count_72 rfl <|
 T_getR (C := RX8) (T := TX8) (N := 13) (f := 6) dX8_count_73 c_8_0_0 rfl (by decide) wf_X8_43 rfl <|
 T_callVi (k' := kX0_kept) (vs := []) (st := []) dX8_count_76 wm_X8_160 okX0_kept rfl c_0_0_0 rfl rfl rfl (Nat.le_of_ble_eq_true rfl) rfl (Nat.le_of_ble_eq_true rfl) (TT.mono (h.2.2.2.2.1 z17) (rI_mono (fun v8 M7 h9 =>
 T_ireturn (ty := .int) dX8_count_79 rfl rfl h9)))) (fun nz17 : ¬ a1 = 4 =>
 (Decidable.byCases (fun z18 : a1 = 5 => T_table (tgt := 80) dX8_count_1 (by rw [z18]; decide +kernel) (by decide) <|
 T_aload_n dX8_count_80 rfl <|
 T_getR (C := RX8) (T := TX8) (N := 13) (f := 1) dX8_count_81 c_8_0_0 rfl (by decide) wf_X8_19 rfl <|
 T_callVi (k' := kX4_bytes) (vs := []) (st := []) dX8_count_84 wm_X8_296 okX4_bytes rfl c_4_0_0 rfl rfl rfl (Nat.le_of_ble_eq_true rfl) rfl (Nat.le_of_ble_eq_true rfl) (TT.mono (h.2.2.2.2.2.1 z18) (rI_mono (fun v11 M10 h12 =>
 T_ireturn (ty := .int) dX8_count_87 rfl rfl h12)))) (fun nz18 : ¬ a1 = 5 =>
 (have zd18 := swo_0_5 nz13 nz14 nz15 nz16 nz17 nz18
 T_table (tgt := 88) dX8_count_1 (by rw [if_pos zd18]; decide) (by decide) <|
 T_ldc dX8_count_88 wc_X8_86 <|
 T_ireturn (ty := .int) dX8_count_90 rfl rfl (h.2.2.2.2.2.2 zd18))))))))))))))
theorem rX8_status_0 {X : Nat × (Nat → Int32)}  {M : Mem} {Q : Option PV → Mem → Prop} (h : Q (some (pI (M 8 0 0 12))) M) : TT X kX8_status 0 [some (pR (8, 0, 0))] [] M Q :=
 T_aload_n dX8_status_0 rfl <|
 T_getI (C := RX8) (T := TX8) (N := 13) (f := 12) dX8_status_1 c_8_0_0 rfl (by decide) wf_X8_79 rfl <|
 T_ireturn (ty := .int) dX8_status_4 rfl rfl h
theorem rX8_found_0 {X : Nat × (Nat → Int32)} {a1 : Int32} {M : Mem} {Q : Option PV → Mem → Prop} (h : Q (some (pI ((-1000010) - a1))) (mset M 8 0 0 12 a1)) : TT X kX8_found 0 [some (pR (8, 0, 0)), some (pI a1)] [] M Q :=
 T_aload_n dX8_found_0 rfl <|
 T_iload_n dX8_found_1 rfl <|
 T_putI (C := RX8) (T := TX8) (N := 13) (f := 12) dX8_found_2 c_8_0_0 rfl (by decide) wf_X8_79 rfl rfl rfl <|
 T_ldcw dX8_found_5 wc_X8_299 <|
 T_iload_n dX8_found_8 rfl <|
 T_isub dX8_found_9 <|
 T_ireturn (ty := .int) dX8_found_10 rfl rfl h
theorem rX8_fine_0 {X : Nat × (Nat → Int32)} {a1 : Int32} {M : Mem} {Q : Option PV → Mem → Prop} (h : Q (some (pI a1)) (mset M 8 0 0 12 0)) : TT X kX8_fine 0 [some (pR (8, 0, 0)), some (pI a1)] [] M Q :=
 T_aload_n dX8_fine_0 rfl <|
 T_iconst dX8_fine_1 ic_0 <|
 T_putI (C := RX8) (T := TX8) (N := 13) (f := 12) dX8_fine_2 c_8_0_0 rfl (by decide) wf_X8_79 rfl rfl rfl <|
 T_iload_n dX8_fine_5 rfl <|
 T_ireturn (ty := .int) dX8_fine_6 rfl rfl h
theorem rX8_replaceBy_0 {X : Nat × (Nat → Int32)} {j1 : Nat} (hj1 : j1 < 5) {M : Mem} {Q : Option PV → Mem → Prop} (h : TT X kX6_takeOver 0 [some (pR (6, 0, 0)), some (pR (6, j1, 0)), none] [] M (rV fun M1 => TT X kX0_clear 0 [some (pR (0, 0, 0))] [] M1 (rV fun M3 => TT X kX7_forget 0 [some (pR (7, 0, 0))] [] M3 (rV fun M5 => Q none M5)))) : TT X kX8_replaceBy 0 [some (pR (8, 0, 0)), some (pR (6, j1, 0))] [] M Q :=
 T_aload_n dX8_replaceBy_0 rfl <|
 T_getR (C := RX8) (T := TX8) (N := 13) (f := 2) dX8_replaceBy_1 c_8_0_0 rfl (by decide) wf_X8_26 rfl <|
 T_aload_n dX8_replaceBy_4 rfl <|
 T_callVv (k' := kX6_takeOver) (vs := [pR (6, j1, 0)]) (st := []) dX8_replaceBy_5 wm_X8_214 okX6_takeOver rfl c_6_0_0 rfl rfl rfl (Nat.le_of_ble_eq_true rfl) rfl (Nat.le_of_ble_eq_true rfl) (TT.mono h (rV_mono (fun M1 h9 =>
 T_aload_n dX8_replaceBy_8 rfl <|
 T_getR (C := RX8) (T := TX8) (N := 13) (f := 6) dX8_replaceBy_9 c_8_0_0 rfl (by decide) wf_X8_43 rfl <|
 T_callVv (k' := kX0_clear) (vs := []) (st := []) dX8_replaceBy_12 wm_X8_300 okX0_clear rfl c_0_0_0 rfl rfl rfl (Nat.le_of_ble_eq_true rfl) rfl (Nat.le_of_ble_eq_true rfl) (TT.mono h9 (rV_mono (fun M3 h8 =>
 T_aload_n dX8_replaceBy_15 rfl <|
 T_getR (C := RX8) (T := TX8) (N := 13) (f := 9) dX8_replaceBy_16 c_8_0_0 rfl (by decide) wf_X8_64 rfl <|
 T_callVv (k' := kX7_forget) (vs := []) (st := []) dX8_replaceBy_19 wm_X8_167 okX7_forget rfl c_7_0_0 rfl rfl rfl (Nat.le_of_ble_eq_true rfl) rfl (Nat.le_of_ble_eq_true rfl) (TT.mono h8 (rV_mono (fun M5 h7 =>
 T_return dX8_replaceBy_22 rfl h7)))))))))
theorem rX8_act_0 {X : Nat × (Nat → Int32)} {a1 : Int32} {a2 : Int32} {a3 : Int32} {M : Mem} {Q : Option PV → Mem → Prop} (h : TT X kX0_change 0 [some (pR (6, 0, 0)), some (pI a1), some (pI a2), some (pI a3), none, none] [] M (rI fun v2 M1 => TT X kX0_keep 0 [some (pR (0, 0, 0)), some (pI a1), some (pI a2), some (pI v2)] [] M1 (rV fun M3 => TT X kX7_forget 0 [some (pR (7, 0, 0))] [] M3 (rV fun M5 => Q (some (pI v2)) M5)))) : TT X kX8_act 0 [some (pR (8, 0, 0)), some (pI a1), some (pI a2), some (pI a3), none] [] M Q :=
 T_aload_n dX8_act_0 rfl <|
 T_getR (C := RX8) (T := TX8) (N := 13) (f := 2) dX8_act_1 c_8_0_0 rfl (by decide) wf_X8_26 rfl <|
 T_iload_n dX8_act_4 rfl <|
 T_iload_n dX8_act_5 rfl <|
 T_iload_n dX8_act_6 rfl <|
 T_callSi (k' := kX0_change) (vs := [pR (6, 0, 0), pI a1, pI a2, pI a3]) (st := []) dX8_act_7 wm_X8_303 okX0_change rfl rfl rfl (Nat.le_of_ble_eq_true rfl) rfl (Nat.le_of_ble_eq_true rfl) (TT.mono h (rI_mono (fun v2 M1 h9 =>
 T_istore dX8_act_10 (by decide) rfl rfl <|
 T_aload_n dX8_act_12 rfl <|
 T_getR (C := RX8) (T := TX8) (N := 13) (f := 6) dX8_act_13 c_8_0_0 rfl (by decide) wf_X8_43 rfl <|
 T_iload_n dX8_act_16 rfl <|
 T_iload_n dX8_act_17 rfl <|
 T_iload dX8_act_18 rfl <|
 T_callVv (k' := kX0_keep) (vs := [pI a1, pI a2, pI v2]) (st := []) dX8_act_20 wm_X8_307 okX0_keep rfl c_0_0_0 rfl rfl rfl (Nat.le_of_ble_eq_true rfl) rfl (Nat.le_of_ble_eq_true rfl) (TT.mono h9 (rV_mono (fun M3 h8 =>
 T_aload_n dX8_act_23 rfl <|
 T_getR (C := RX8) (T := TX8) (N := 13) (f := 9) dX8_act_24 c_8_0_0 rfl (by decide) wf_X8_64 rfl <|
 T_callVv (k' := kX7_forget) (vs := []) (st := []) dX8_act_27 wm_X8_167 okX7_forget rfl c_7_0_0 rfl rfl rfl (Nat.le_of_ble_eq_true rfl) rfl (Nat.le_of_ble_eq_true rfl) (TT.mono h8 (rV_mono (fun M5 h7 =>
 T_iload dX8_act_30 rfl <|
 T_ireturn (ty := .int) dX8_act_32 rfl rfl h7)))))))))
theorem rX8_bestTakenBy_0 {X : Nat × (Nat → Int32)} {a1 : Int32} {M : Mem} {Q : Option PV → Mem → Prop} (h : TT X kX6_takeOver 0 [some (pR (6, 2, 0)), some (pR (6, 0, 0)), none] [] M (rV fun M1 => TT X kX3_seek 0 [some (pR (3, 0, 0)), some (pR (6, 2, 0)), some (pI a1), none, none] [] M1 (rV fun M3 => TT X kX3_bestTaken 0 [some (pR (3, 0, 0))] [] M3 (rI fun v6 M5 => Q (some (pI v6)) M5)))) : TT X kX8_bestTakenBy 0 [some (pR (8, 0, 0)), some (pI a1)] [] M Q :=
 T_aload_n dX8_bestTakenBy_0 rfl <|
 T_getR (C := RX8) (T := TX8) (N := 13) (f := 4) dX8_bestTakenBy_1 c_8_0_0 rfl (by decide) wf_X8_33 rfl <|
 T_aload_n dX8_bestTakenBy_4 rfl <|
 T_getR (C := RX8) (T := TX8) (N := 13) (f := 2) dX8_bestTakenBy_5 c_8_0_0 rfl (by decide) wf_X8_26 rfl <|
 T_callVv (k' := kX6_takeOver) (vs := [pR (6, 0, 0)]) (st := []) dX8_bestTakenBy_8 wm_X8_214 okX6_takeOver rfl c_6_2_0 rfl rfl rfl (Nat.le_of_ble_eq_true rfl) rfl (Nat.le_of_ble_eq_true rfl) (TT.mono h (rV_mono (fun M1 h9 =>
 T_aload_n dX8_bestTakenBy_11 rfl <|
 T_getR (C := RX8) (T := TX8) (N := 13) (f := 8) dX8_bestTakenBy_12 c_8_0_0 rfl (by decide) wf_X8_57 rfl <|
 T_aload_n dX8_bestTakenBy_15 rfl <|
 T_getR (C := RX8) (T := TX8) (N := 13) (f := 4) dX8_bestTakenBy_16 c_8_0_0 rfl (by decide) wf_X8_33 rfl <|
 T_iload_n dX8_bestTakenBy_19 rfl <|
 T_callVv (k' := kX3_seek) (vs := [pR (6, 2, 0), pI a1]) (st := []) dX8_bestTakenBy_20 wm_X8_217 okX3_seek rfl c_3_0_0 rfl rfl rfl (Nat.le_of_ble_eq_true rfl) rfl (Nat.le_of_ble_eq_true rfl) (TT.mono h9 (rV_mono (fun M3 h8 =>
 T_aload_n dX8_bestTakenBy_23 rfl <|
 T_getR (C := RX8) (T := TX8) (N := 13) (f := 8) dX8_bestTakenBy_24 c_8_0_0 rfl (by decide) wf_X8_57 rfl <|
 T_callVi (k' := kX3_bestTaken) (vs := []) (st := []) dX8_bestTakenBy_27 wm_X8_223 okX3_bestTaken rfl c_3_0_0 rfl rfl rfl (Nat.le_of_ble_eq_true rfl) rfl (Nat.le_of_ble_eq_true rfl) (TT.mono h8 (rI_mono (fun v6 M5 h7 =>
 T_ireturn (ty := .int) dX8_bestTakenBy_30 rfl rfl h7)))))))))
theorem rX8_dealTaken_0 {X : Nat × (Nat → Int32)} {a1 : Int32} {a2 : Int32} {M : Mem} {Q : Option PV → Mem → Prop} (h : (¬ a2 = 0 → TT X kX8_bestTakenBy 0 [some (pR (8, 0, 0)), some (pI a1)] [] M (rI fun v2 M1 => Q (some (pI v2)) M1)) ∧ (a2 = 0 → TT X kX3_taken 0 [some (pR (3, 0, 0)), some (pR (6, 0, 0)), some (pI a1), none, none, none] [] M (rI fun v5 M4 => Q (some (pI v5)) M4))) : TT X kX8_dealTaken 0 [some (pR (8, 0, 0)), some (pI a1), some (pI a2)] [] M Q :=
 T_iload_n dX8_dealTaken_0 rfl <|
 T_if_ne (tgt := 19) dX8_dealTaken_1 (by decide) (fun z7 =>
 T_aload_n dX8_dealTaken_19 rfl <|
 T_iload_n dX8_dealTaken_20 rfl <|
 T_callVi (k' := kX8_bestTakenBy) (vs := [pI a1]) (st := []) dX8_dealTaken_21 wm_X8_310 okX8_bestTakenBy rfl c_8_0_0 rfl rfl rfl (Nat.le_of_ble_eq_true rfl) rfl (Nat.le_of_ble_eq_true rfl) (TT.mono (h.1 z7) (rI_mono (fun v2 M1 h3 =>
 T_ireturn (ty := .int) dX8_dealTaken_24 rfl rfl h3)))) (fun z7 =>
 T_aload_n dX8_dealTaken_4 rfl <|
 T_getR (C := RX8) (T := TX8) (N := 13) (f := 8) dX8_dealTaken_5 c_8_0_0 rfl (by decide) wf_X8_57 rfl <|
 T_aload_n dX8_dealTaken_8 rfl <|
 T_getR (C := RX8) (T := TX8) (N := 13) (f := 2) dX8_dealTaken_9 c_8_0_0 rfl (by decide) wf_X8_26 rfl <|
 T_iload_n dX8_dealTaken_12 rfl <|
 T_callVi (k' := kX3_taken) (vs := [pR (6, 0, 0), pI a1]) (st := []) dX8_dealTaken_13 wm_X8_208 okX3_taken rfl c_3_0_0 rfl rfl rfl (Nat.le_of_ble_eq_true rfl) rfl (Nat.le_of_ble_eq_true rfl) (TT.mono (h.2 z7) (rI_mono (fun v5 M4 h6 =>
 T_goto (tgt := 24) dX8_dealTaken_16 (by decide) <|
 T_ireturn (ty := .int) dX8_dealTaken_24 rfl rfl h6))))
theorem rX8_shareOf_0 {X : Nat × (Nat → Int32)} {a1 : Int32} {a2 : Int32} {a3 : Int32} {a4 : Int32} {M : Mem} {Q : Option PV → Mem → Prop} (h : TT X kX8_bestTakenBy 0 [some (pR (8, 0, 0)), some (pI ((a1 ||| a2) ||| a3))] [] M (rI fun v2 M1 => TT X kX8_bestTakenBy 0 [some (pR (8, 0, 0)), some (pI (a1 ||| a2))] [] M1 (rI fun v4 M3 => TT X kX8_bestTakenBy 0 [some (pR (8, 0, 0)), some (pI (a1 ||| a3))] [] M3 (rI fun v6 M5 => TT X kX8_bestTakenBy 0 [some (pR (8, 0, 0)), some (pI a1)] [] M5 (rI fun v8 M7 => TT X kX8_bestTakenBy 0 [some (pR (8, 0, 0)), some (pI a2)] [] M7 (rI fun v10 M9 => TT X kX8_bestTakenBy 0 [some (pR (8, 0, 0)), some (pI a3)] [] M9 (rI fun v12 M11 => (((v2 - (if v8 < ((v4 + v6) - v2) then ((v4 + v6) - v2) else v8)) - (if v10 < (v4 - (if v8 < ((v4 + v6) - v2) then ((v4 + v6) - v2) else v8)) then (v4 - (if v8 < ((v4 + v6) - v2) then ((v4 + v6) - v2) else v8)) else v10)) < v12 → Q (some (pI (-1000000))) M11) ∧ (¬ ((v2 - (if v8 < ((v4 + v6) - v2) then ((v4 + v6) - v2) else v8)) - (if v10 < (v4 - (if v8 < ((v4 + v6) - v2) then ((v4 + v6) - v2) else v8)) then (v4 - (if v8 < ((v4 + v6) - v2) then ((v4 + v6) - v2) else v8)) else v10)) < v12 → (((if v8 < ((v4 + v6) - v2) then ((v4 + v6) - v2) else v8) + ((v2 - (if v8 < ((v4 + v6) - v2) then ((v4 + v6) - v2) else v8)) - (if v10 < (v4 - (if v8 < ((v4 + v6) - v2) then ((v4 + v6) - v2) else v8)) then (v4 - (if v8 < ((v4 + v6) - v2) then ((v4 + v6) - v2) else v8)) else v10))) < v6 → Q (some (pI (-1000000))) M11) ∧ (¬ ((if v8 < ((v4 + v6) - v2) then ((v4 + v6) - v2) else v8) + ((v2 - (if v8 < ((v4 + v6) - v2) then ((v4 + v6) - v2) else v8)) - (if v10 < (v4 - (if v8 < ((v4 + v6) - v2) then ((v4 + v6) - v2) else v8)) then (v4 - (if v8 < ((v4 + v6) - v2) then ((v4 + v6) - v2) else v8)) else v10))) < v6 → TT X kX8_bestTakenBy 0 [some (pR (8, 0, 0)), some (pI (a2 ||| a3))] [] M11 (rI fun v14 M13 => (v14 ≤ ((if v10 < (v4 - (if v8 < ((v4 + v6) - v2) then ((v4 + v6) - v2) else v8)) then (v4 - (if v8 < ((v4 + v6) - v2) then ((v4 + v6) - v2) else v8)) else v10) + ((v2 - (if v8 < ((v4 + v6) - v2) then ((v4 + v6) - v2) else v8)) - (if v10 < (v4 - (if v8 < ((v4 + v6) - v2) then ((v4 + v6) - v2) else v8)) then (v4 - (if v8 < ((v4 + v6) - v2) then ((v4 + v6) - v2) else v8)) else v10))) → (¬ a4 = 0 → (¬ a4 = 1 → Q (some (pI ((v2 - (if v8 < ((v4 + v6) - v2) then ((v4 + v6) - v2) else v8)) - (if v10 < (v4 - (if v8 < ((v4 + v6) - v2) then ((v4 + v6) - v2) else v8)) then (v4 - (if v8 < ((v4 + v6) - v2) then ((v4 + v6) - v2) else v8)) else v10)))) M13) ∧ (a4 = 1 → Q (some (pI (if v10 < (v4 - (if v8 < ((v4 + v6) - v2) then ((v4 + v6) - v2) else v8)) then (v4 - (if v8 < ((v4 + v6) - v2) then ((v4 + v6) - v2) else v8)) else v10))) M13)) ∧ (a4 = 0 → Q (some (pI (if v8 < ((v4 + v6) - v2) then ((v4 + v6) - v2) else v8))) M13)) ∧ (¬ v14 ≤ ((if v10 < (v4 - (if v8 < ((v4 + v6) - v2) then ((v4 + v6) - v2) else v8)) then (v4 - (if v8 < ((v4 + v6) - v2) then ((v4 + v6) - v2) else v8)) else v10) + ((v2 - (if v8 < ((v4 + v6) - v2) then ((v4 + v6) - v2) else v8)) - (if v10 < (v4 - (if v8 < ((v4 + v6) - v2) then ((v4 + v6) - v2) else v8)) then (v4 - (if v8 < ((v4 + v6) - v2) then ((v4 + v6) - v2) else v8)) else v10))) → Q (some (pI (-1000000))) M13))))))))))) : TT X kX8_shareOf 0 [some (pR (8, 0, 0)), some (pI a1), some (pI a2), some (pI a3), some (pI a4), none, none, none, none, none, none] [] M Q :=
 T_aload_n dX8_shareOf_0 rfl <|
 T_iload_n dX8_shareOf_1 rfl <|
 T_iload_n dX8_shareOf_2 rfl <|
 T_ior dX8_shareOf_3 <|
 T_iload_n dX8_shareOf_4 rfl <|
 T_ior dX8_shareOf_5 <|
 T_callVi (k' := kX8_bestTakenBy) (vs := [pI ((a1 ||| a2) ||| a3)]) (st := []) dX8_shareOf_6 wm_X8_310 okX8_bestTakenBy rfl c_8_0_0 rfl rfl rfl (Nat.le_of_ble_eq_true rfl) rfl (Nat.le_of_ble_eq_true rfl) (TT.mono h (rI_mono (fun v2 M1 h26 =>
 T_istore dX8_shareOf_9 (by decide) rfl rfl <|
 T_aload_n dX8_shareOf_11 rfl <|
 T_iload_n dX8_shareOf_12 rfl <|
 T_iload_n dX8_shareOf_13 rfl <|
 T_ior dX8_shareOf_14 <|
 T_callVi (k' := kX8_bestTakenBy) (vs := [pI (a1 ||| a2)]) (st := []) dX8_shareOf_15 wm_X8_310 okX8_bestTakenBy rfl c_8_0_0 rfl rfl rfl (Nat.le_of_ble_eq_true rfl) rfl (Nat.le_of_ble_eq_true rfl) (TT.mono h26 (rI_mono (fun v4 M3 h25 =>
 T_istore dX8_shareOf_18 (by decide) rfl rfl <|
 T_aload_n dX8_shareOf_20 rfl <|
 T_iload_n dX8_shareOf_21 rfl <|
 T_iload_n dX8_shareOf_22 rfl <|
 T_ior dX8_shareOf_23 <|
 T_callVi (k' := kX8_bestTakenBy) (vs := [pI (a1 ||| a3)]) (st := []) dX8_shareOf_24 wm_X8_310 okX8_bestTakenBy rfl c_8_0_0 rfl rfl rfl (Nat.le_of_ble_eq_true rfl) rfl (Nat.le_of_ble_eq_true rfl) (TT.mono h25 (rI_mono (fun v6 M5 h24 =>
 T_istore dX8_shareOf_27 (by decide) rfl rfl <|
 T_aload_n dX8_shareOf_29 rfl <|
 T_iload_n dX8_shareOf_30 rfl <|
 T_callVi (k' := kX8_bestTakenBy) (vs := [pI a1]) (st := []) dX8_shareOf_31 wm_X8_310 okX8_bestTakenBy rfl c_8_0_0 rfl rfl rfl (Nat.le_of_ble_eq_true rfl) rfl (Nat.le_of_ble_eq_true rfl) (TT.mono h24 (rI_mono (fun v8 M7 h23 =>
 T_iload dX8_shareOf_34 rfl <|
 T_iload dX8_shareOf_36 rfl <|
 T_iadd dX8_shareOf_38 <|
 T_iload dX8_shareOf_39 rfl <|
 T_isub dX8_shareOf_41 <|
 T_max dX8_shareOf_42 wm_X8_226 ⟨Nat.le_of_ble_eq_true rfl, Nat.le_of_ble_eq_true rfl⟩ <|
 T_istore dX8_shareOf_45 (by decide) rfl rfl <|
 T_aload_n dX8_shareOf_47 rfl <|
 T_iload_n dX8_shareOf_48 rfl <|
 T_callVi (k' := kX8_bestTakenBy) (vs := [pI a2]) (st := []) dX8_shareOf_49 wm_X8_310 okX8_bestTakenBy rfl c_8_0_0 rfl rfl rfl (Nat.le_of_ble_eq_true rfl) rfl (Nat.le_of_ble_eq_true rfl) (TT.mono h23 (rI_mono (fun v10 M9 h22 =>
 T_iload dX8_shareOf_52 rfl <|
 T_iload dX8_shareOf_54 rfl <|
 T_isub dX8_shareOf_56 <|
 T_max dX8_shareOf_57 wm_X8_226 ⟨Nat.le_of_ble_eq_true rfl, Nat.le_of_ble_eq_true rfl⟩ <|
 T_istore dX8_shareOf_60 (by decide) rfl rfl <|
 T_iload dX8_shareOf_62 rfl <|
 T_iload dX8_shareOf_64 rfl <|
 T_isub dX8_shareOf_66 <|
 T_iload dX8_shareOf_67 rfl <|
 T_isub dX8_shareOf_69 <|
 T_istore dX8_shareOf_70 (by decide) rfl rfl <|
 T_iload dX8_shareOf_72 rfl <|
 T_aload_n dX8_shareOf_74 rfl <|
 T_iload_n dX8_shareOf_75 rfl <|
 T_callVi (k' := kX8_bestTakenBy) (vs := [pI a3]) (st := [pI ((v2 - (if v8 < ((v4 + v6) - v2) then ((v4 + v6) - v2) else v8)) - (if v10 < (v4 - (if v8 < ((v4 + v6) - v2) then ((v4 + v6) - v2) else v8)) then (v4 - (if v8 < ((v4 + v6) - v2) then ((v4 + v6) - v2) else v8)) else v10))]) dX8_shareOf_76 wm_X8_310 okX8_bestTakenBy rfl c_8_0_0 rfl rfl rfl (Nat.le_of_ble_eq_true rfl) rfl (Nat.le_of_ble_eq_true rfl) (TT.mono h22 (rI_mono (fun v12 M11 h21 =>
 T_icmp_lt (tgt := 107) dX8_shareOf_79 (by decide) (fun z20 =>
 T_ldc dX8_shareOf_107 wc_X8_198 <|
 T_ireturn (ty := .int) dX8_shareOf_109 rfl rfl (h21.1 z20)) (fun z20 =>
 T_iload dX8_shareOf_82 rfl <|
 T_iload dX8_shareOf_84 rfl <|
 T_iadd dX8_shareOf_86 <|
 T_iload dX8_shareOf_87 rfl <|
 T_icmp_lt (tgt := 107) dX8_shareOf_89 (by decide) (fun z19 =>
 T_ldc dX8_shareOf_107 wc_X8_198 <|
 T_ireturn (ty := .int) dX8_shareOf_109 rfl rfl ((h21.2 z20).1 z19)) (fun z19 =>
 T_iload dX8_shareOf_92 rfl <|
 T_iload dX8_shareOf_94 rfl <|
 T_iadd dX8_shareOf_96 <|
 T_aload_n dX8_shareOf_97 rfl <|
 T_iload_n dX8_shareOf_98 rfl <|
 T_iload_n dX8_shareOf_99 rfl <|
 T_ior dX8_shareOf_100 <|
 T_callVi (k' := kX8_bestTakenBy) (vs := [pI (a2 ||| a3)]) (st := [pI ((if v10 < (v4 - (if v8 < ((v4 + v6) - v2) then ((v4 + v6) - v2) else v8)) then (v4 - (if v8 < ((v4 + v6) - v2) then ((v4 + v6) - v2) else v8)) else v10) + ((v2 - (if v8 < ((v4 + v6) - v2) then ((v4 + v6) - v2) else v8)) - (if v10 < (v4 - (if v8 < ((v4 + v6) - v2) then ((v4 + v6) - v2) else v8)) then (v4 - (if v8 < ((v4 + v6) - v2) then ((v4 + v6) - v2) else v8)) else v10)))]) dX8_shareOf_101 wm_X8_310 okX8_bestTakenBy rfl c_8_0_0 rfl rfl rfl (Nat.le_of_ble_eq_true rfl) rfl (Nat.le_of_ble_eq_true rfl) (TT.mono ((h21.2 z20).2 z19) (rI_mono (fun v14 M13 h18 =>
 T_icmp_ge (tgt := 110) dX8_shareOf_104 (by decide) (fun z17 =>
 T_iload dX8_shareOf_110 rfl <|
 T_if_ne (tgt := 118) dX8_shareOf_112 (by decide) (fun z16 =>
 T_iload dX8_shareOf_118 rfl <|
 T_iconst dX8_shareOf_120 ic_1 <|
 T_icmp_ne (tgt := 129) dX8_shareOf_121 (by decide) (fun z15 =>
 T_iload dX8_shareOf_129 rfl <|
 T_ireturn (ty := .int) dX8_shareOf_131 rfl rfl (((h18.1 z17).1 z16).1 z15)) (fun z15 =>
 T_iload dX8_shareOf_124 rfl <|
 T_goto (tgt := 131) dX8_shareOf_126 (by decide) <|
 T_ireturn (ty := .int) dX8_shareOf_131 rfl rfl (((h18.1 z17).1 z16).2 z15))) (fun z16 =>
 T_iload dX8_shareOf_115 rfl <|
 T_ireturn (ty := .int) dX8_shareOf_117 rfl rfl ((h18.1 z17).2 z16))) (fun z17 =>
 T_ldc dX8_shareOf_107 wc_X8_198 <|
 T_ireturn (ty := .int) dX8_shareOf_109 rfl rfl (h18.2 z17)))))))))))))))))))))))))
theorem rX8_commonDivisor_0 {X : Nat × (Nat → Int32)} {a1 : Int32} {a2 : Int32} {M : Mem} {Q : Option PV → Mem → Prop} (h : TT X kX8_commonDivisor 7 [some (pI a1), some (pI a2), some (pI a1), some (pI a2), some (pI 0), none] [] M Q) : TT X kX8_commonDivisor 0 [some (pI a1), some (pI a2), none, none, none, none] [] M Q :=
 T_iload_n dX8_commonDivisor_0 rfl <|
 T_istore_n dX8_commonDivisor_1 (by decide) rfl rfl <|
 T_iload_n dX8_commonDivisor_2 rfl <|
 T_istore_n dX8_commonDivisor_3 (by decide) rfl rfl <|
 T_iconst dX8_commonDivisor_4 ic_0 <|
 T_istore dX8_commonDivisor_5 (by decide) rfl rfl <|
 h
theorem rX8_commonDivisor_7 {X : Nat × (Nat → Int32)} {b0 : Int32} {b1 : Int32} {b2 : Int32} {b3 : Int32} {b4 : Int32} {M : Mem} {Q : Option PV → Mem → Prop} (h : (64 ≤ b4 → Q (some (pI b2)) M) ∧ (¬ 64 ≤ b4 → (b3 ≤ 0 → Q (some (pI b2)) M) ∧ (¬ b3 ≤ 0 → ¬ b3 = 0 ∧ (TT X kX8_commonDivisor 7 [some (pI b0), some (pI b1), some (pI b3), some (pI (b2 - b2 / b3 * b3)), some (pI (b4 + 1)), none] [] M Q)))) : TT X kX8_commonDivisor 7 [some (pI b0), some (pI b1), some (pI b2), some (pI b3), some (pI b4), none] [] M Q :=
 T_iload dX8_commonDivisor_7 rfl <|
 T_bipush dX8_commonDivisor_9 bp_64 <|
 T_icmp_ge (tgt := 34) dX8_commonDivisor_11 (by decide) (fun z2 =>
 T_iload_n dX8_commonDivisor_34 rfl <|
 T_ireturn (ty := .int) dX8_commonDivisor_35 rfl rfl (h.1 z2)) (fun z2 =>
 T_iload_n dX8_commonDivisor_14 rfl <|
 T_if_le (tgt := 34) dX8_commonDivisor_15 (by decide) (fun z1 =>
 T_iload_n dX8_commonDivisor_34 rfl <|
 T_ireturn (ty := .int) dX8_commonDivisor_35 rfl rfl ((h.2 z2).1 z1)) (fun z1 =>
 T_iload_n dX8_commonDivisor_18 rfl <|
 T_iload_n dX8_commonDivisor_19 rfl <|
 T_irem dX8_commonDivisor_20 ((h.2 z2).2 z1).1 <|
 T_istore dX8_commonDivisor_21 (by decide) rfl rfl <|
 T_iload_n dX8_commonDivisor_23 rfl <|
 T_istore_n dX8_commonDivisor_24 (by decide) rfl rfl <|
 T_iload dX8_commonDivisor_25 rfl <|
 T_istore_n dX8_commonDivisor_27 (by decide) rfl rfl <|
 T_iinc dX8_commonDivisor_28 rfl (ii_1 _) (by decide) rfl rfl <|
 T_goto (tgt := 7) dX8_commonDivisor_31 (by decide) <|
 T_mask [true, true, true, true, true, false] ((h.2 z2).2 z1).2))
theorem rX8_areRisingSteps_0 {X : Nat × (Nat → Int32)} {a1 : Int32} {a2 : Int32} {M : Mem} {Q : Option PV → Mem → Prop} (h : TT X kX8_areRisingSteps 5 [some (pR (8, 0, 0)), some (pI a1), some (pI a2), some (pI (-1)), some (pI 0), none] [] M Q) : TT X kX8_areRisingSteps 0 [some (pR (8, 0, 0)), some (pI a1), some (pI a2), none, none, none] [] M Q :=
 T_iconst dX8_areRisingSteps_0 ic_m1 <|
 T_istore_n dX8_areRisingSteps_1 (by decide) rfl rfl <|
 T_iconst dX8_areRisingSteps_2 ic_0 <|
 T_istore dX8_areRisingSteps_3 (by decide) rfl rfl <|
 h
theorem rX8_areRisingSteps_5 {X : Nat × (Nat → Int32)} {b1 : Int32} {b2 : Int32} {b3 : Int32} {b4 : Int32} {M : Mem} {Q : Option PV → Mem → Prop} (h : (b2 ≤ b4 → Q (some (pI 1)) M) ∧ (¬ b2 ≤ b4 → TT X kX5_item 0 [some (pR (5, 0, 0)), some (pI b1), some (pI b4)] [] M (rI fun v2 M1 => (v2 ≤ b3 → Q (some (pI 0)) M1) ∧ (¬ v2 ≤ b3 → TT X kX6_hasStep 0 [some (pR (6, 0, 0)), some (pI v2)] [] M1 (rI fun v4 M3 => (¬ v4 = 0 → TT X kX8_areRisingSteps 5 [some (pR (8, 0, 0)), some (pI b1), some (pI b2), some (pI v2), some (pI (b4 + 1)), none] [] M3 Q) ∧ (v4 = 0 → Q (some (pI 0)) M3)))))) : TT X kX8_areRisingSteps 5 [some (pR (8, 0, 0)), some (pI b1), some (pI b2), some (pI b3), some (pI b4), none] [] M Q :=
 T_iload dX8_areRisingSteps_5 rfl <|
 T_iload_n dX8_areRisingSteps_7 rfl <|
 T_icmp_ge (tgt := 52) dX8_areRisingSteps_8 (by decide) (fun z9 =>
 T_iconst dX8_areRisingSteps_52 ic_1 <|
 T_ireturn (ty := .boolean) dX8_areRisingSteps_53 rfl rfl (h.1 z9)) (fun z9 =>
 T_aload_n dX8_areRisingSteps_11 rfl <|
 T_getR (C := RX8) (T := TX8) (N := 13) (f := 0) dX8_areRisingSteps_12 c_8_0_0 rfl (by decide) wf_X8_10 rfl <|
 T_iload_n dX8_areRisingSteps_15 rfl <|
 T_iload dX8_areRisingSteps_16 rfl <|
 T_callVi (k' := kX5_item) (vs := [pI b1, pI b4]) (st := []) dX8_areRisingSteps_18 wm_X8_313 okX5_item rfl c_5_0_0 rfl rfl rfl (Nat.le_of_ble_eq_true rfl) rfl (Nat.le_of_ble_eq_true rfl) (TT.mono (h.2 z9) (rI_mono (fun v2 M1 h8 =>
 T_istore dX8_areRisingSteps_21 (by decide) rfl rfl <|
 T_iload dX8_areRisingSteps_23 rfl <|
 T_iload_n dX8_areRisingSteps_25 rfl <|
 T_icmp_le (tgt := 41) dX8_areRisingSteps_26 (by decide) (fun z7 =>
 T_iconst dX8_areRisingSteps_41 ic_0 <|
 T_ireturn (ty := .boolean) dX8_areRisingSteps_42 rfl rfl (h8.1 z7)) (fun z7 =>
 T_aload_n dX8_areRisingSteps_29 rfl <|
 T_getR (C := RX8) (T := TX8) (N := 13) (f := 2) dX8_areRisingSteps_30 c_8_0_0 rfl (by decide) wf_X8_26 rfl <|
 T_iload dX8_areRisingSteps_33 rfl <|
 T_callVi (k' := kX6_hasStep) (vs := [pI v2]) (st := []) dX8_areRisingSteps_35 wm_X8_147 okX6_hasStep rfl c_6_0_0 rfl rfl rfl (Nat.le_of_ble_eq_true rfl) rfl (Nat.le_of_ble_eq_true rfl) (TT.mono (h8.2 z7) (rI_mono (fun v4 M3 h6 =>
 T_if_ne (tgt := 43) dX8_areRisingSteps_38 (by decide) (fun z5 =>
 T_iload dX8_areRisingSteps_43 rfl <|
 T_istore_n dX8_areRisingSteps_45 (by decide) rfl rfl <|
 T_iinc dX8_areRisingSteps_46 rfl (ii_1 _) (by decide) rfl rfl <|
 T_goto (tgt := 5) dX8_areRisingSteps_49 (by decide) <|
 T_mask [true, true, true, true, true, false] (h6.1 z5)) (fun z5 =>
 T_iconst dX8_areRisingSteps_41 ic_0 <|
 T_ireturn (ty := .boolean) dX8_areRisingSteps_42 rfl rfl (h6.2 z5))))))))))
theorem rX8_askingsThatFit_0 {X : Nat × (Nat → Int32)} {a1 : Int32} {a2 : Int32} {a3 : Int32} {a4 : Int32} {a5 : Int32} {a6 : Int32} {M : Mem} {Q : Option PV → Mem → Prop} (h : TT X kX5_item 0 [some (pR (5, 0, 0)), some (pI a2), some (pI a4)] [] M (rI fun v2 M1 => TT X kX6_hasStep 0 [some (pR (6, 0, 0)), some (pI v2)] [] M1 (rI fun v4 M3 => (¬ v4 = 0 → TT X kX6_takeOver 0 [some (pR (6, 2, 0)), some (pR (6, 0, 0)), none] [] M3 (rV fun M5 => TT X kX8_askingsThatFit 58 [some (pR (8, 0, 0)), some (pI a1), some (pI a2), some (pI a3), some (pI a4), some (pI a5), some (pI a6), some (pI v2), some (pI 0), some (pI (-1000000)), some (pI 0)] [] M5 Q)) ∧ (v4 = 0 → (¬ a6 = 0 → Q (some (pI (-1000000))) M3) ∧ (a6 = 0 → Q (some (pI 0)) M3))))) : TT X kX8_askingsThatFit 0 [some (pR (8, 0, 0)), some (pI a1), some (pI a2), some (pI a3), some (pI a4), some (pI a5), some (pI a6), none, none, none, none] [] M Q :=
 T_aload_n dX8_askingsThatFit_0 rfl <|
 T_getR (C := RX8) (T := TX8) (N := 13) (f := 0) dX8_askingsThatFit_1 c_8_0_0 rfl (by decide) wf_X8_10 rfl <|
 T_iload_n dX8_askingsThatFit_4 rfl <|
 T_iload dX8_askingsThatFit_5 rfl <|
 T_callVi (k' := kX5_item) (vs := [pI a2, pI a4]) (st := []) dX8_askingsThatFit_7 wm_X8_313 okX5_item rfl c_5_0_0 rfl rfl rfl (Nat.le_of_ble_eq_true rfl) rfl (Nat.le_of_ble_eq_true rfl) (TT.mono h (rI_mono (fun v2 M1 h11 =>
 T_istore dX8_askingsThatFit_10 (by decide) rfl rfl <|
 T_iconst dX8_askingsThatFit_12 ic_0 <|
 T_istore dX8_askingsThatFit_13 (by decide) rfl rfl <|
 T_ldc dX8_askingsThatFit_15 wc_X8_198 <|
 T_istore dX8_askingsThatFit_17 (by decide) rfl rfl <|
 T_aload_n dX8_askingsThatFit_19 rfl <|
 T_getR (C := RX8) (T := TX8) (N := 13) (f := 2) dX8_askingsThatFit_20 c_8_0_0 rfl (by decide) wf_X8_26 rfl <|
 T_iload dX8_askingsThatFit_23 rfl <|
 T_callVi (k' := kX6_hasStep) (vs := [pI v2]) (st := []) dX8_askingsThatFit_25 wm_X8_147 okX6_hasStep rfl c_6_0_0 rfl rfl rfl (Nat.le_of_ble_eq_true rfl) rfl (Nat.le_of_ble_eq_true rfl) (TT.mono h11 (rI_mono (fun v4 M3 h10 =>
 T_if_ne (tgt := 44) dX8_askingsThatFit_28 (by decide) (fun z9 =>
 T_aload_n dX8_askingsThatFit_44 rfl <|
 T_getR (C := RX8) (T := TX8) (N := 13) (f := 4) dX8_askingsThatFit_45 c_8_0_0 rfl (by decide) wf_X8_33 rfl <|
 T_aload_n dX8_askingsThatFit_48 rfl <|
 T_getR (C := RX8) (T := TX8) (N := 13) (f := 2) dX8_askingsThatFit_49 c_8_0_0 rfl (by decide) wf_X8_26 rfl <|
 T_callVv (k' := kX6_takeOver) (vs := [pR (6, 0, 0)]) (st := []) dX8_askingsThatFit_52 wm_X8_214 okX6_takeOver rfl c_6_2_0 rfl rfl rfl (Nat.le_of_ble_eq_true rfl) rfl (Nat.le_of_ble_eq_true rfl) (TT.mono (h10.1 z9) (rV_mono (fun M5 h7 =>
 T_iconst dX8_askingsThatFit_55 ic_0 <|
 T_istore dX8_askingsThatFit_56 (by decide) rfl rfl <|
 h7)))) (fun z9 =>
 T_iload dX8_askingsThatFit_31 rfl <|
 T_if_ne (tgt := 41) dX8_askingsThatFit_33 (by decide) (fun z8 =>
 T_iload dX8_askingsThatFit_41 rfl <|
 T_ireturn (ty := .int) dX8_askingsThatFit_43 rfl rfl ((h10.2 z9).1 z8)) (fun z8 =>
 T_iload dX8_askingsThatFit_36 rfl <|
 T_goto (tgt := 43) dX8_askingsThatFit_38 (by decide) <|
 T_ireturn (ty := .int) dX8_askingsThatFit_43 rfl rfl ((h10.2 z9).2 z8)))))))))
theorem rX8_askingsThatFit_58 {X : Nat × (Nat → Int32)} {b1 : Int32} {b2 : Int32} {b3 : Int32} {b4 : Int32} {b5 : Int32} {b6 : Int32} {b7 : Int32} {b8 : Int32} {b9 : Int32} {b10 : Int32} {M : Mem} {Q : Option PV → Mem → Prop} (h : (20 < b10 → (¬ b6 = 0 → Q (some (pI b9)) M) ∧ (b6 = 0 → Q (some (pI b8)) M)) ∧ (¬ 20 < b10 → vp_in b7 18 ∧ (vp_in b1 6 ∧ (TT X kX2_find 0 [some (pR (2, 0, 0)), some (pR (6, 2, 0)), some (pI ((mset M 6 2 4 (Int32.toNatClampNeg b7) b10) 6 2 6 (Int32.toNatClampNeg b1))), none, none] [] (mset M 6 2 4 (Int32.toNatClampNeg b7) b10) (rV fun M13 => TT X kX2_isGone 0 [some (pR (2, 0, 0)), some (pR (6, 2, 0)), some (pI b1)] [] M13 (rI fun v16 M15 => (v16 = 0 → TT X kX8_askingsThatFit 58 [some (pR (8, 0, 0)), some (pI b1), some (pI b2), some (pI b3), some (pI b4), some (pI b5), some (pI b6), some (pI b7), some (pI b8), some (pI b9), some (pI (b10 + 1))] [] M15 Q) ∧ (¬ v16 = 0 → TT X kX2_cost 0 [some (pR (2, 0, 0)), some (pR (6, 2, 0)), some (pI b1)] [] M15 (rI fun v18 M17 => (¬ v18 = b5 → TT X kX8_askingsThatFit 58 [some (pR (8, 0, 0)), some (pI b1), some (pI b2), some (pI b3), some (pI b4), some (pI b5), some (pI b6), some (pI b7), some (pI b8), some (pI b9), some (pI (b10 + 1))] [] M17 Q) ∧ (v18 = b5 → TT X kX8_isTrodden 0 [some (pR (8, 0, 0)), some (pI b2), some (pI b3), none] [] M17 (rI fun v20 M19 => (v20 = 0 → TT X kX8_askingsThatFit 58 [some (pR (8, 0, 0)), some (pI b1), some (pI b2), some (pI b3), some (pI b4), some (pI b5), some (pI b6), some (pI b7), some (pI b8), some (pI b9), some (pI (b10 + 1))] [] M19 Q) ∧ (¬ v20 = 0 → (¬ b9 = (-1000000) → TT X kX8_askingsThatFit 58 [some (pR (8, 0, 0)), some (pI b1), some (pI b2), some (pI b3), some (pI b4), some (pI b5), some (pI b6), some (pI b7), some (pI (b8 + 1)), some (pI b9), some (pI (b10 + 1))] [] M19 Q) ∧ (b9 = (-1000000) → TT X kX8_askingsThatFit 58 [some (pR (8, 0, 0)), some (pI b1), some (pI b2), some (pI b3), some (pI b4), some (pI b5), some (pI b6), some (pI b7), some (pI (b8 + 1)), some (pI b10), some (pI (b10 + 1))] [] M19 Q)))))))))))) : TT X kX8_askingsThatFit 58 [some (pR (8, 0, 0)), some (pI b1), some (pI b2), some (pI b3), some (pI b4), some (pI b5), some (pI b6), some (pI b7), some (pI b8), some (pI b9), some (pI b10)] [] M Q :=
 T_iload dX8_askingsThatFit_58 rfl <|
 T_bipush dX8_askingsThatFit_60 bp_20 <|
 T_icmp_gt (tgt := 163) dX8_askingsThatFit_62 (by decide) (fun z29 =>
 T_iload dX8_askingsThatFit_163 rfl <|
 T_if_ne (tgt := 173) dX8_askingsThatFit_165 (by decide) (fun z12 =>
 T_iload dX8_askingsThatFit_173 rfl <|
 T_ireturn (ty := .int) dX8_askingsThatFit_175 rfl rfl ((h.1 z29).1 z12)) (fun z12 =>
 T_iload dX8_askingsThatFit_168 rfl <|
 T_goto (tgt := 175) dX8_askingsThatFit_170 (by decide) <|
 T_ireturn (ty := .int) dX8_askingsThatFit_175 rfl rfl ((h.1 z29).2 z12))) (fun z29 =>
 T_aload_n dX8_askingsThatFit_65 rfl <|
 T_getR (C := RX8) (T := TX8) (N := 13) (f := 4) dX8_askingsThatFit_66 c_8_0_0 rfl (by decide) wf_X8_33 rfl <|
 T_getR (C := RX6) (T := TX6) (N := 9) (f := 3) dX8_askingsThatFit_69 c_6_2_0 rfl (by decide) wf_X8_170 rfl <|
 T_iload dX8_askingsThatFit_72 rfl <|
 T_iload dX8_askingsThatFit_74 rfl <|
 T_iast (n := 18) dX8_askingsThatFit_76 c_6_2_4 (by decide) (by decide) (by decide) rfl (h.2 z29).1 <|
 T_aload_n dX8_askingsThatFit_77 rfl <|
 T_getR (C := RX8) (T := TX8) (N := 13) (f := 7) dX8_askingsThatFit_78 c_8_0_0 rfl (by decide) wf_X8_50 rfl <|
 T_aload_n dX8_askingsThatFit_81 rfl <|
 T_getR (C := RX8) (T := TX8) (N := 13) (f := 4) dX8_askingsThatFit_82 c_8_0_0 rfl (by decide) wf_X8_33 rfl <|
 T_aload_n dX8_askingsThatFit_85 rfl <|
 T_getR (C := RX8) (T := TX8) (N := 13) (f := 4) dX8_askingsThatFit_86 c_8_0_0 rfl (by decide) wf_X8_33 rfl <|
 T_getR (C := RX6) (T := TX6) (N := 9) (f := 5) dX8_askingsThatFit_89 c_6_2_0 rfl (by decide) wf_X8_179 rfl <|
 T_iload_n dX8_askingsThatFit_92 rfl <|
 T_iald (n := 6) dX8_askingsThatFit_93 c_6_2_6 (by decide) (by decide) (by decide) rfl (h.2 z29).2.1 <|
 T_callVv (k' := kX2_find) (vs := [pR (6, 2, 0), pI ((mset M 6 2 4 (Int32.toNatClampNeg b7) b10) 6 2 6 (Int32.toNatClampNeg b1))]) (st := []) dX8_askingsThatFit_94 wm_X8_182 okX2_find rfl c_2_0_0 rfl rfl rfl (Nat.le_of_ble_eq_true rfl) rfl (Nat.le_of_ble_eq_true rfl) (TT.mono (h.2 z29).2.2 (rV_mono (fun M13 h28 =>
 T_aload_n dX8_askingsThatFit_97 rfl <|
 T_getR (C := RX8) (T := TX8) (N := 13) (f := 7) dX8_askingsThatFit_98 c_8_0_0 rfl (by decide) wf_X8_50 rfl <|
 T_aload_n dX8_askingsThatFit_101 rfl <|
 T_getR (C := RX8) (T := TX8) (N := 13) (f := 4) dX8_askingsThatFit_102 c_8_0_0 rfl (by decide) wf_X8_33 rfl <|
 T_iload_n dX8_askingsThatFit_105 rfl <|
 T_callVi (k' := kX2_isGone) (vs := [pR (6, 2, 0), pI b1]) (st := []) dX8_askingsThatFit_106 wm_X8_186 okX2_isGone rfl c_2_0_0 rfl rfl rfl (Nat.le_of_ble_eq_true rfl) rfl (Nat.le_of_ble_eq_true rfl) (TT.mono h28 (rI_mono (fun v16 M15 h27 =>
 T_if_eq (tgt := 157) dX8_askingsThatFit_109 (by decide) (fun z26 =>
 T_iinc dX8_askingsThatFit_157 rfl (ii_1 _) (by decide) rfl rfl <|
 T_goto (tgt := 58) dX8_askingsThatFit_160 (by decide) <|
 (h27.1 z26)) (fun z26 =>
 T_aload_n dX8_askingsThatFit_112 rfl <|
 T_getR (C := RX8) (T := TX8) (N := 13) (f := 7) dX8_askingsThatFit_113 c_8_0_0 rfl (by decide) wf_X8_50 rfl <|
 T_aload_n dX8_askingsThatFit_116 rfl <|
 T_getR (C := RX8) (T := TX8) (N := 13) (f := 4) dX8_askingsThatFit_117 c_8_0_0 rfl (by decide) wf_X8_33 rfl <|
 T_iload_n dX8_askingsThatFit_120 rfl <|
 T_callVi (k' := kX2_cost) (vs := [pR (6, 2, 0), pI b1]) (st := []) dX8_askingsThatFit_121 wm_X8_194 okX2_cost rfl c_2_0_0 rfl rfl rfl (Nat.le_of_ble_eq_true rfl) rfl (Nat.le_of_ble_eq_true rfl) (TT.mono (h27.2 z26) (rI_mono (fun v18 M17 h25 =>
 T_iload dX8_askingsThatFit_124 rfl <|
 T_icmp_ne (tgt := 157) dX8_askingsThatFit_126 (by decide) (fun z24 =>
 T_iinc dX8_askingsThatFit_157 rfl (ii_1 _) (by decide) rfl rfl <|
 T_goto (tgt := 58) dX8_askingsThatFit_160 (by decide) <|
 (h25.1 z24)) (fun z24 =>
 T_aload_n dX8_askingsThatFit_129 rfl <|
 T_iload_n dX8_askingsThatFit_130 rfl <|
 T_iload_n dX8_askingsThatFit_131 rfl <|
 T_callVi (k' := kX8_isTrodden) (vs := [pI b2, pI b3]) (st := []) dX8_askingsThatFit_132 wm_X8_316 okX8_isTrodden rfl c_8_0_0 rfl rfl rfl (Nat.le_of_ble_eq_true rfl) rfl (Nat.le_of_ble_eq_true rfl) (TT.mono (h25.2 z24) (rI_mono (fun v20 M19 h23 =>
 T_if_eq (tgt := 157) dX8_askingsThatFit_135 (by decide) (fun z22 =>
 T_iinc dX8_askingsThatFit_157 rfl (ii_1 _) (by decide) rfl rfl <|
 T_goto (tgt := 58) dX8_askingsThatFit_160 (by decide) <|
 (h23.1 z22)) (fun z22 =>
 T_iinc dX8_askingsThatFit_138 rfl (ii_1 _) (by decide) rfl rfl <|
 T_iload dX8_askingsThatFit_141 rfl <|
 T_ldc dX8_askingsThatFit_143 wc_X8_198 <|
 T_icmp_ne (tgt := 153) dX8_askingsThatFit_145 (by decide) (fun z21 =>
 T_iload dX8_askingsThatFit_153 rfl <|
 T_istore dX8_askingsThatFit_155 (by decide) rfl rfl <|
 T_iinc dX8_askingsThatFit_157 rfl (ii_1 _) (by decide) rfl rfl <|
 T_goto (tgt := 58) dX8_askingsThatFit_160 (by decide) <|
 ((h23.2 z22).1 z21)) (fun z21 =>
 T_iload dX8_askingsThatFit_148 rfl <|
 T_goto (tgt := 155) dX8_askingsThatFit_150 (by decide) <|
 T_istore dX8_askingsThatFit_155 (by decide) rfl rfl <|
 T_iinc dX8_askingsThatFit_157 rfl (ii_1 _) (by decide) rfl rfl <|
 T_goto (tgt := 58) dX8_askingsThatFit_160 (by decide) <|
 ((h23.2 z22).2 z21))))))))))))))))))
theorem rX8_isTrodden_0 {X : Nat × (Nat → Int32)} {a1 : Int32} {a2 : Int32} {M : Mem} {Q : Option PV → Mem → Prop} (h : TT X kX2_treads 0 [some (pR (2, 0, 0))] [] M (rI fun v2 M1 => (v2 = a2 → TT X kX8_isTrodden 15 [some (pR (8, 0, 0)), some (pI a1), some (pI a2), some (pI 0)] [] M1 Q) ∧ (¬ v2 = a2 → Q (some (pI 0)) M1))) : TT X kX8_isTrodden 0 [some (pR (8, 0, 0)), some (pI a1), some (pI a2), none] [] M Q :=
 T_aload_n dX8_isTrodden_0 rfl <|
 T_getR (C := RX8) (T := TX8) (N := 13) (f := 7) dX8_isTrodden_1 c_8_0_0 rfl (by decide) wf_X8_50 rfl <|
 T_callVi (k' := kX2_treads) (vs := []) (st := []) dX8_isTrodden_4 wm_X8_199 okX2_treads rfl c_2_0_0 rfl rfl rfl (Nat.le_of_ble_eq_true rfl) rfl (Nat.le_of_ble_eq_true rfl) (TT.mono h (rI_mono (fun v2 M1 h4 =>
 T_iload_n dX8_isTrodden_7 rfl <|
 T_icmp_eq (tgt := 13) dX8_isTrodden_8 (by decide) (fun z3 =>
 T_iconst dX8_isTrodden_13 ic_0 <|
 T_istore_n dX8_isTrodden_14 (by decide) rfl rfl <|
 (h4.1 z3)) (fun z3 =>
 T_iconst dX8_isTrodden_11 ic_0 <|
 T_ireturn (ty := .boolean) dX8_isTrodden_12 rfl rfl (h4.2 z3)))))
theorem rX8_isTrodden_15 {X : Nat × (Nat → Int32)} {b1 : Int32} {b2 : Int32} {b3 : Int32} {M : Mem} {Q : Option PV → Mem → Prop} (h : (b2 ≤ b3 → Q (some (pI 1)) M) ∧ (¬ b2 ≤ b3 → TT X kX2_tread 0 [some (pR (2, 0, 0)), some (pI b3)] [] M (rI fun v6 M5 => TT X kX5_item 0 [some (pR (5, 0, 0)), some (pI b1), some (pI b3)] [] M5 (rI fun v8 M7 => (v6 = v8 → TT X kX8_isTrodden 15 [some (pR (8, 0, 0)), some (pI b1), some (pI b2), some (pI (b3 + 1))] [] M7 Q) ∧ (¬ v6 = v8 → Q (some (pI 0)) M7))))) : TT X kX8_isTrodden 15 [some (pR (8, 0, 0)), some (pI b1), some (pI b2), some (pI b3)] [] M Q :=
 T_iload_n dX8_isTrodden_15 rfl <|
 T_iload_n dX8_isTrodden_16 rfl <|
 T_icmp_ge (tgt := 48) dX8_isTrodden_17 (by decide) (fun z12 =>
 T_iconst dX8_isTrodden_48 ic_1 <|
 T_ireturn (ty := .boolean) dX8_isTrodden_49 rfl rfl (h.1 z12)) (fun z12 =>
 T_aload_n dX8_isTrodden_20 rfl <|
 T_getR (C := RX8) (T := TX8) (N := 13) (f := 7) dX8_isTrodden_21 c_8_0_0 rfl (by decide) wf_X8_50 rfl <|
 T_iload_n dX8_isTrodden_24 rfl <|
 T_callVi (k' := kX2_tread) (vs := [pI b3]) (st := []) dX8_isTrodden_25 wm_X8_202 okX2_tread rfl c_2_0_0 rfl rfl rfl (Nat.le_of_ble_eq_true rfl) rfl (Nat.le_of_ble_eq_true rfl) (TT.mono (h.2 z12) (rI_mono (fun v6 M5 h11 =>
 T_aload_n dX8_isTrodden_28 rfl <|
 T_getR (C := RX8) (T := TX8) (N := 13) (f := 0) dX8_isTrodden_29 c_8_0_0 rfl (by decide) wf_X8_10 rfl <|
 T_iload_n dX8_isTrodden_32 rfl <|
 T_iload_n dX8_isTrodden_33 rfl <|
 T_callVi (k' := kX5_item) (vs := [pI b1, pI b3]) (st := [pI v6]) dX8_isTrodden_34 wm_X8_313 okX5_item rfl c_5_0_0 rfl rfl rfl (Nat.le_of_ble_eq_true rfl) rfl (Nat.le_of_ble_eq_true rfl) (TT.mono h11 (rI_mono (fun v8 M7 h10 =>
 T_icmp_eq (tgt := 42) dX8_isTrodden_37 (by decide) (fun z9 =>
 T_iinc dX8_isTrodden_42 rfl (ii_1 _) (by decide) rfl rfl <|
 T_goto (tgt := 15) dX8_isTrodden_45 (by decide) <|
 (h10.1 z9)) (fun z9 =>
 T_iconst dX8_isTrodden_40 ic_0 <|
 T_ireturn (ty := .boolean) dX8_isTrodden_41 rfl rfl (h10.2 z9)))))))))
