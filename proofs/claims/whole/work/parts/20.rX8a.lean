theorem rX8_row_0 {X : Nat × (Nat → Int32)} {a1 : Int32} {a2 : Int32} {a3 : Int32} {M : Mem} {Q : Option PV → Mem → Prop} (h : TT X kX5_isNumber 0 [some (pR (5, 0, 0)), some (pI a1)] [] M (rI fun v2 M1 => (v2 = 0 → Q (some (pI (-1000001))) M1) ∧ (¬ v2 = 0 → (a2 < 0 → Q (some (pI (-1000001))) M1) ∧ (¬ a2 < 0 → (3 ≤ a2 → Q (some (pI (-1000001))) M1) ∧ (¬ 3 ≤ a2 → (a3 ≤ 40 → (0 ≤ a3 → TT X kX5_make 0 [some (pR (5, 0, 0)), some (pI a1), some (pI a2), some (pI a3), none] [] M1 (rV fun M3 => TT X kX8_fine 0 [some (pR (8, 0, 0)), some (pI a3)] [] M3 (rI fun v6 M5 => Q (some (pI v6)) M5))) ∧ (¬ 0 ≤ a3 → TT X kX8_found 0 [some (pR (8, 0, 0)), some (pI 4)] [] M1 (rI fun v10 M9 => Q (some (pI v10)) M9))) ∧ (¬ a3 ≤ 40 → Q (some (pI (-1000001))) M1)))))) : TT X kX8_row 0 [some (pR (8, 0, 0)), some (pI a1), some (pI a2), some (pI a3)] [] M Q :=
 T_aload_n dX8_row_0 rfl <|
 T_getR (C := RX8) (T := TX8) (N := 13) (f := 0) dX8_row_1 c_8_0_0 rfl (by decide) wf_X8_10 rfl <|
 T_iload_n dX8_row_4 rfl <|
 T_callVi (k' := kX5_isNumber) (vs := [pI a1]) (st := []) dX8_row_5 wm_X8_82 okX5_isNumber rfl c_5_0_0 rfl rfl rfl (Nat.le_of_ble_eq_true rfl) rfl (Nat.le_of_ble_eq_true rfl) (TT.mono h (rI_mono (fun v2 M1 h17 =>
 T_if_eq (tgt := 26) dX8_row_8 (by decide) (fun z16 =>
 T_ldc dX8_row_26 wc_X8_86 <|
 T_ireturn (ty := .int) dX8_row_28 rfl rfl (h17.1 z16)) (fun z16 =>
 T_iload_n dX8_row_11 rfl <|
 T_if_lt (tgt := 26) dX8_row_12 (by decide) (fun z15 =>
 T_ldc dX8_row_26 wc_X8_86 <|
 T_ireturn (ty := .int) dX8_row_28 rfl rfl ((h17.2 z16).1 z15)) (fun z15 =>
 T_iload_n dX8_row_15 rfl <|
 T_iconst dX8_row_16 ic_3 <|
 T_icmp_ge (tgt := 26) dX8_row_17 (by decide) (fun z14 =>
 T_ldc dX8_row_26 wc_X8_86 <|
 T_ireturn (ty := .int) dX8_row_28 rfl rfl (((h17.2 z16).2 z15).1 z14)) (fun z14 =>
 T_iload_n dX8_row_20 rfl <|
 T_bipush dX8_row_21 bp_40 <|
 T_icmp_le (tgt := 29) dX8_row_23 (by decide) (fun z13 =>
 T_iload_n dX8_row_29 rfl <|
 T_if_ge (tgt := 39) dX8_row_30 (by decide) (fun z12 =>
 T_aload_n dX8_row_39 rfl <|
 T_getR (C := RX8) (T := TX8) (N := 13) (f := 0) dX8_row_40 c_8_0_0 rfl (by decide) wf_X8_10 rfl <|
 T_iload_n dX8_row_43 rfl <|
 T_iload_n dX8_row_44 rfl <|
 T_iload_n dX8_row_45 rfl <|
 T_callVv (k' := kX5_make) (vs := [pI a1, pI a2, pI a3]) (st := []) dX8_row_46 wm_X8_91 okX5_make rfl c_5_0_0 rfl rfl rfl (Nat.le_of_ble_eq_true rfl) rfl (Nat.le_of_ble_eq_true rfl) (TT.mono (((((h17.2 z16).2 z15).2 z14).1 z13).1 z12) (rV_mono (fun M3 h8 =>
 T_aload_n dX8_row_49 rfl <|
 T_iload_n dX8_row_50 rfl <|
 T_callVi (k' := kX8_fine) (vs := [pI a3]) (st := []) dX8_row_51 wm_X8_95 okX8_fine rfl c_8_0_0 rfl rfl rfl (Nat.le_of_ble_eq_true rfl) rfl (Nat.le_of_ble_eq_true rfl) (TT.mono h8 (rI_mono (fun v6 M5 h7 =>
 T_ireturn (ty := .int) dX8_row_54 rfl rfl h7))))))) (fun z12 =>
 T_aload_n dX8_row_33 rfl <|
 T_iconst dX8_row_34 ic_4 <|
 T_callVi (k' := kX8_found) (vs := [pI 4]) (st := []) dX8_row_35 wm_X8_87 okX8_found rfl c_8_0_0 rfl rfl rfl (Nat.le_of_ble_eq_true rfl) rfl (Nat.le_of_ble_eq_true rfl) (TT.mono (((((h17.2 z16).2 z15).2 z14).1 z13).2 z12) (rI_mono (fun v10 M9 h11 =>
 T_ireturn (ty := .int) dX8_row_38 rfl rfl h11))))) (fun z13 =>
 T_ldc dX8_row_26 wc_X8_86 <|
 T_ireturn (ty := .int) dX8_row_28 rfl rfl ((((h17.2 z16).2 z15).2 z14).2 z13))))))))
theorem rX8_set_0 {X : Nat × (Nat → Int32)} {a1 : Int32} {a2 : Int32} {a3 : Int32} {M : Mem} {Q : Option PV → Mem → Prop} (h : TT X kX5_isNumber 0 [some (pR (5, 0, 0)), some (pI a1)] [] M (rI fun v2 M1 => (¬ v2 = 0 → TT X kX5_isMissing 0 [some (pR (5, 0, 0)), some (pI a1)] [] M1 (rI fun v4 M3 => (v4 = 0 → (a2 < 0 → TT X kX8_found 0 [some (pR (8, 0, 0)), some (pI 2)] [] M3 (rI fun v6 M5 => Q (some (pI v6)) M5)) ∧ (¬ a2 < 0 → TT X kX5_sizeOf 0 [some (pR (5, 0, 0)), some (pI a1)] [] M3 (rI fun v9 M8 => (a2 < v9 → TT X kX5_put 0 [some (pR (5, 0, 0)), some (pI a1), some (pI a2), some (pI a3), none] [] M8 (rI fun v11 M10 => TT X kX8_fine 0 [some (pR (8, 0, 0)), some (pI v11)] [] M10 (rI fun v13 M12 => Q (some (pI v13)) M12))) ∧ (¬ a2 < v9 → TT X kX8_found 0 [some (pR (8, 0, 0)), some (pI 2)] [] M8 (rI fun v17 M16 => Q (some (pI v17)) M16))))) ∧ (¬ v4 = 0 → TT X kX8_found 0 [some (pR (8, 0, 0)), some (pI 1)] [] M3 (rI fun v23 M22 => Q (some (pI v23)) M22)))) ∧ (v2 = 0 → Q (some (pI (-1000001))) M1))) : TT X kX8_set 0 [some (pR (8, 0, 0)), some (pI a1), some (pI a2), some (pI a3)] [] M Q :=
 T_aload_n dX8_set_0 rfl <|
 T_getR (C := RX8) (T := TX8) (N := 13) (f := 0) dX8_set_1 c_8_0_0 rfl (by decide) wf_X8_10 rfl <|
 T_iload_n dX8_set_4 rfl <|
 T_callVi (k' := kX5_isNumber) (vs := [pI a1]) (st := []) dX8_set_5 wm_X8_82 okX5_isNumber rfl c_5_0_0 rfl rfl rfl (Nat.le_of_ble_eq_true rfl) rfl (Nat.le_of_ble_eq_true rfl) (TT.mono h (rI_mono (fun v2 M1 h28 =>
 T_if_ne (tgt := 14) dX8_set_8 (by decide) (fun z27 =>
 T_aload_n dX8_set_14 rfl <|
 T_getR (C := RX8) (T := TX8) (N := 13) (f := 0) dX8_set_15 c_8_0_0 rfl (by decide) wf_X8_10 rfl <|
 T_iload_n dX8_set_18 rfl <|
 T_callVi (k' := kX5_isMissing) (vs := [pI a1]) (st := []) dX8_set_19 wm_X8_98 okX5_isMissing rfl c_5_0_0 rfl rfl rfl (Nat.le_of_ble_eq_true rfl) rfl (Nat.le_of_ble_eq_true rfl) (TT.mono (h28.1 z27) (rI_mono (fun v4 M3 h26 =>
 T_if_eq (tgt := 31) dX8_set_22 (by decide) (fun z25 =>
 T_iload_n dX8_set_31 rfl <|
 T_if_lt (tgt := 47) dX8_set_32 (by decide) (fun z21 =>
 T_aload_n dX8_set_47 rfl <|
 T_iconst dX8_set_48 ic_2 <|
 T_callVi (k' := kX8_found) (vs := [pI 2]) (st := []) dX8_set_49 wm_X8_87 okX8_found rfl c_8_0_0 rfl rfl rfl (Nat.le_of_ble_eq_true rfl) rfl (Nat.le_of_ble_eq_true rfl) (TT.mono ((h26.1 z25).1 z21) (rI_mono (fun v6 M5 h7 =>
 T_ireturn (ty := .int) dX8_set_52 rfl rfl h7)))) (fun z21 =>
 T_iload_n dX8_set_35 rfl <|
 T_aload_n dX8_set_36 rfl <|
 T_getR (C := RX8) (T := TX8) (N := 13) (f := 0) dX8_set_37 c_8_0_0 rfl (by decide) wf_X8_10 rfl <|
 T_iload_n dX8_set_40 rfl <|
 T_callVi (k' := kX5_sizeOf) (vs := [pI a1]) (st := [pI a2]) dX8_set_41 wm_X8_101 okX5_sizeOf rfl c_5_0_0 rfl rfl rfl (Nat.le_of_ble_eq_true rfl) rfl (Nat.le_of_ble_eq_true rfl) (TT.mono ((h26.1 z25).2 z21) (rI_mono (fun v9 M8 h20 =>
 T_icmp_lt (tgt := 53) dX8_set_44 (by decide) (fun z19 =>
 T_aload_n dX8_set_53 rfl <|
 T_aload_n dX8_set_54 rfl <|
 T_getR (C := RX8) (T := TX8) (N := 13) (f := 0) dX8_set_55 c_8_0_0 rfl (by decide) wf_X8_10 rfl <|
 T_iload_n dX8_set_58 rfl <|
 T_iload_n dX8_set_59 rfl <|
 T_iload_n dX8_set_60 rfl <|
 T_callVi (k' := kX5_put) (vs := [pI a1, pI a2, pI a3]) (st := [pR (8, 0, 0)]) dX8_set_61 wm_X8_104 okX5_put rfl c_5_0_0 rfl rfl rfl (Nat.le_of_ble_eq_true rfl) rfl (Nat.le_of_ble_eq_true rfl) (TT.mono (h20.1 z19) (rI_mono (fun v11 M10 h15 =>
 T_callVi (k' := kX8_fine) (vs := [pI v11]) (st := []) dX8_set_64 wm_X8_95 okX8_fine rfl c_8_0_0 rfl rfl rfl (Nat.le_of_ble_eq_true rfl) rfl (Nat.le_of_ble_eq_true rfl) (TT.mono h15 (rI_mono (fun v13 M12 h14 =>
 T_ireturn (ty := .int) dX8_set_67 rfl rfl h14))))))) (fun z19 =>
 T_aload_n dX8_set_47 rfl <|
 T_iconst dX8_set_48 ic_2 <|
 T_callVi (k' := kX8_found) (vs := [pI 2]) (st := []) dX8_set_49 wm_X8_87 okX8_found rfl c_8_0_0 rfl rfl rfl (Nat.le_of_ble_eq_true rfl) rfl (Nat.le_of_ble_eq_true rfl) (TT.mono (h20.2 z19) (rI_mono (fun v17 M16 h18 =>
 T_ireturn (ty := .int) dX8_set_52 rfl rfl h18))))))))) (fun z25 =>
 T_aload_n dX8_set_25 rfl <|
 T_iconst dX8_set_26 ic_1 <|
 T_callVi (k' := kX8_found) (vs := [pI 1]) (st := []) dX8_set_27 wm_X8_87 okX8_found rfl c_8_0_0 rfl rfl rfl (Nat.le_of_ble_eq_true rfl) rfl (Nat.le_of_ble_eq_true rfl) (TT.mono (h26.2 z25) (rI_mono (fun v23 M22 h24 =>
 T_ireturn (ty := .int) dX8_set_30 rfl rfl h24)))))))) (fun z27 =>
 T_ldc dX8_set_11 wc_X8_86 <|
 T_ireturn (ty := .int) dX8_set_13 rfl rfl (h28.2 z27)))))
theorem rX8_copy_0 {X : Nat × (Nat → Int32)} {a1 : Int32} {a2 : Int32} {a3 : Int32} {a4 : Int32} {a5 : Int32} {M : Mem} {Q : Option PV → Mem → Prop} (h : TT X kX5_isNumber 0 [some (pR (5, 0, 0)), some (pI a1)] [] M (rI fun v2 M1 => (v2 = 0 → Q (some (pI (-1000001))) M1) ∧ (¬ v2 = 0 → TT X kX5_isNumber 0 [some (pR (5, 0, 0)), some (pI a3)] [] M1 (rI fun v4 M3 => (¬ v4 = 0 → TT X kX5_isMissing 0 [some (pR (5, 0, 0)), some (pI a1)] [] M3 (rI fun v6 M5 => (¬ v6 = 0 → TT X kX8_found 0 [some (pR (8, 0, 0)), some (pI 1)] [] M5 (rI fun v8 M7 => Q (some (pI v8)) M7)) ∧ (v6 = 0 → TT X kX5_isMissing 0 [some (pR (5, 0, 0)), some (pI a3)] [] M5 (rI fun v11 M10 => (v11 = 0 → TT X kX5_laneOf 0 [some (pR (5, 0, 0)), some (pI a1)] [] M10 (rI fun v13 M12 => TT X kX5_laneOf 0 [some (pR (5, 0, 0)), some (pI a3)] [] M12 (rI fun v15 M14 => (v13 = v15 → TT X kX5_hasRange 0 [some (pR (5, 0, 0)), some (pI a1), some (pI a2), some (pI a5), none] [] M14 (rI fun v17 M16 => (v17 = 0 → TT X kX8_found 0 [some (pR (8, 0, 0)), some (pI 2)] [] M16 (rI fun v19 M18 => Q (some (pI v19)) M18)) ∧ (¬ v17 = 0 → TT X kX5_hasRange 0 [some (pR (5, 0, 0)), some (pI a3), some (pI a4), some (pI a5), none] [] M16 (rI fun v22 M21 => (¬ v22 = 0 → TT X kX5_move 0 [some (pR (5, 0, 0)), some (pI a1), some (pI a2), some (pI a3), some (pI a4), some (pI a5)] [] M21 (rV fun M23 => TT X kX8_fine 0 [some (pR (8, 0, 0)), some (pI a5)] [] M23 (rI fun v26 M25 => Q (some (pI v26)) M25))) ∧ (v22 = 0 → TT X kX8_found 0 [some (pR (8, 0, 0)), some (pI 2)] [] M21 (rI fun v30 M29 => Q (some (pI v30)) M29)))))) ∧ (¬ v13 = v15 → TT X kX8_found 0 [some (pR (8, 0, 0)), some (pI 5)] [] M14 (rI fun v37 M36 => Q (some (pI v37)) M36))))) ∧ (¬ v11 = 0 → TT X kX8_found 0 [some (pR (8, 0, 0)), some (pI 1)] [] M10 (rI fun v43 M42 => Q (some (pI v43)) M42)))))) ∧ (v4 = 0 → Q (some (pI (-1000001))) M3))))) : TT X kX8_copy 0 [some (pR (8, 0, 0)), some (pI a1), some (pI a2), some (pI a3), some (pI a4), some (pI a5)] [] M Q :=
 T_aload_n dX8_copy_0 rfl <|
 T_getR (C := RX8) (T := TX8) (N := 13) (f := 0) dX8_copy_1 c_8_0_0 rfl (by decide) wf_X8_10 rfl <|
 T_iload_n dX8_copy_4 rfl <|
 T_callVi (k' := kX5_isNumber) (vs := [pI a1]) (st := []) dX8_copy_5 wm_X8_82 okX5_isNumber rfl c_5_0_0 rfl rfl rfl (Nat.le_of_ble_eq_true rfl) rfl (Nat.le_of_ble_eq_true rfl) (TT.mono h (rI_mono (fun v2 M1 h52 =>
 T_if_eq (tgt := 22) dX8_copy_8 (by decide) (fun z51 =>
 T_ldc dX8_copy_22 wc_X8_86 <|
 T_ireturn (ty := .int) dX8_copy_24 rfl rfl (h52.1 z51)) (fun z51 =>
 T_aload_n dX8_copy_11 rfl <|
 T_getR (C := RX8) (T := TX8) (N := 13) (f := 0) dX8_copy_12 c_8_0_0 rfl (by decide) wf_X8_10 rfl <|
 T_iload_n dX8_copy_15 rfl <|
 T_callVi (k' := kX5_isNumber) (vs := [pI a3]) (st := []) dX8_copy_16 wm_X8_82 okX5_isNumber rfl c_5_0_0 rfl rfl rfl (Nat.le_of_ble_eq_true rfl) rfl (Nat.le_of_ble_eq_true rfl) (TT.mono (h52.2 z51) (rI_mono (fun v4 M3 h50 =>
 T_if_ne (tgt := 25) dX8_copy_19 (by decide) (fun z49 =>
 T_aload_n dX8_copy_25 rfl <|
 T_getR (C := RX8) (T := TX8) (N := 13) (f := 0) dX8_copy_26 c_8_0_0 rfl (by decide) wf_X8_10 rfl <|
 T_iload_n dX8_copy_29 rfl <|
 T_callVi (k' := kX5_isMissing) (vs := [pI a1]) (st := []) dX8_copy_30 wm_X8_98 okX5_isMissing rfl c_5_0_0 rfl rfl rfl (Nat.le_of_ble_eq_true rfl) rfl (Nat.le_of_ble_eq_true rfl) (TT.mono (h50.1 z49) (rI_mono (fun v6 M5 h48 =>
 T_if_ne (tgt := 47) dX8_copy_33 (by decide) (fun z47 =>
 T_aload_n dX8_copy_47 rfl <|
 T_iconst dX8_copy_48 ic_1 <|
 T_callVi (k' := kX8_found) (vs := [pI 1]) (st := []) dX8_copy_49 wm_X8_87 okX8_found rfl c_8_0_0 rfl rfl rfl (Nat.le_of_ble_eq_true rfl) rfl (Nat.le_of_ble_eq_true rfl) (TT.mono (h48.1 z47) (rI_mono (fun v8 M7 h9 =>
 T_ireturn (ty := .int) dX8_copy_52 rfl rfl h9)))) (fun z47 =>
 T_aload_n dX8_copy_36 rfl <|
 T_getR (C := RX8) (T := TX8) (N := 13) (f := 0) dX8_copy_37 c_8_0_0 rfl (by decide) wf_X8_10 rfl <|
 T_iload_n dX8_copy_40 rfl <|
 T_callVi (k' := kX5_isMissing) (vs := [pI a3]) (st := []) dX8_copy_41 wm_X8_98 okX5_isMissing rfl c_5_0_0 rfl rfl rfl (Nat.le_of_ble_eq_true rfl) rfl (Nat.le_of_ble_eq_true rfl) (TT.mono (h48.2 z47) (rI_mono (fun v11 M10 h46 =>
 T_if_eq (tgt := 53) dX8_copy_44 (by decide) (fun z45 =>
 T_aload_n dX8_copy_53 rfl <|
 T_getR (C := RX8) (T := TX8) (N := 13) (f := 0) dX8_copy_54 c_8_0_0 rfl (by decide) wf_X8_10 rfl <|
 T_iload_n dX8_copy_57 rfl <|
 T_callVi (k' := kX5_laneOf) (vs := [pI a1]) (st := []) dX8_copy_58 wm_X8_108 okX5_laneOf rfl c_5_0_0 rfl rfl rfl (Nat.le_of_ble_eq_true rfl) rfl (Nat.le_of_ble_eq_true rfl) (TT.mono (h46.1 z45) (rI_mono (fun v13 M12 h41 =>
 T_aload_n dX8_copy_61 rfl <|
 T_getR (C := RX8) (T := TX8) (N := 13) (f := 0) dX8_copy_62 c_8_0_0 rfl (by decide) wf_X8_10 rfl <|
 T_iload_n dX8_copy_65 rfl <|
 T_callVi (k' := kX5_laneOf) (vs := [pI a3]) (st := [pI v13]) dX8_copy_66 wm_X8_108 okX5_laneOf rfl c_5_0_0 rfl rfl rfl (Nat.le_of_ble_eq_true rfl) rfl (Nat.le_of_ble_eq_true rfl) (TT.mono h41 (rI_mono (fun v15 M14 h40 =>
 T_icmp_eq (tgt := 78) dX8_copy_69 (by decide) (fun z39 =>
 T_aload_n dX8_copy_78 rfl <|
 T_getR (C := RX8) (T := TX8) (N := 13) (f := 0) dX8_copy_79 c_8_0_0 rfl (by decide) wf_X8_10 rfl <|
 T_iload_n dX8_copy_82 rfl <|
 T_iload_n dX8_copy_83 rfl <|
 T_iload dX8_copy_84 rfl <|
 T_callVi (k' := kX5_hasRange) (vs := [pI a1, pI a2, pI a5]) (st := []) dX8_copy_86 wm_X8_111 okX5_hasRange rfl c_5_0_0 rfl rfl rfl (Nat.le_of_ble_eq_true rfl) rfl (Nat.le_of_ble_eq_true rfl) (TT.mono (h40.1 z39) (rI_mono (fun v17 M16 h35 =>
 T_if_eq (tgt := 107) dX8_copy_89 (by decide) (fun z34 =>
 T_aload_n dX8_copy_107 rfl <|
 T_iconst dX8_copy_108 ic_2 <|
 T_callVi (k' := kX8_found) (vs := [pI 2]) (st := []) dX8_copy_109 wm_X8_87 okX8_found rfl c_8_0_0 rfl rfl rfl (Nat.le_of_ble_eq_true rfl) rfl (Nat.le_of_ble_eq_true rfl) (TT.mono (h35.1 z34) (rI_mono (fun v19 M18 h20 =>
 T_ireturn (ty := .int) dX8_copy_112 rfl rfl h20)))) (fun z34 =>
 T_aload_n dX8_copy_92 rfl <|
 T_getR (C := RX8) (T := TX8) (N := 13) (f := 0) dX8_copy_93 c_8_0_0 rfl (by decide) wf_X8_10 rfl <|
 T_iload_n dX8_copy_96 rfl <|
 T_iload dX8_copy_97 rfl <|
 T_iload dX8_copy_99 rfl <|
 T_callVi (k' := kX5_hasRange) (vs := [pI a3, pI a4, pI a5]) (st := []) dX8_copy_101 wm_X8_111 okX5_hasRange rfl c_5_0_0 rfl rfl rfl (Nat.le_of_ble_eq_true rfl) rfl (Nat.le_of_ble_eq_true rfl) (TT.mono (h35.2 z34) (rI_mono (fun v22 M21 h33 =>
 T_if_ne (tgt := 113) dX8_copy_104 (by decide) (fun z32 =>
 T_aload_n dX8_copy_113 rfl <|
 T_getR (C := RX8) (T := TX8) (N := 13) (f := 0) dX8_copy_114 c_8_0_0 rfl (by decide) wf_X8_10 rfl <|
 T_iload_n dX8_copy_117 rfl <|
 T_iload_n dX8_copy_118 rfl <|
 T_iload_n dX8_copy_119 rfl <|
 T_iload dX8_copy_120 rfl <|
 T_iload dX8_copy_122 rfl <|
 T_callVv (k' := kX5_move) (vs := [pI a1, pI a2, pI a3, pI a4, pI a5]) (st := []) dX8_copy_124 wm_X8_115 okX5_move rfl c_5_0_0 rfl rfl rfl (Nat.le_of_ble_eq_true rfl) rfl (Nat.le_of_ble_eq_true rfl) (TT.mono (h33.1 z32) (rV_mono (fun M23 h28 =>
 T_aload_n dX8_copy_127 rfl <|
 T_iload dX8_copy_128 rfl <|
 T_callVi (k' := kX8_fine) (vs := [pI a5]) (st := []) dX8_copy_130 wm_X8_95 okX8_fine rfl c_8_0_0 rfl rfl rfl (Nat.le_of_ble_eq_true rfl) rfl (Nat.le_of_ble_eq_true rfl) (TT.mono h28 (rI_mono (fun v26 M25 h27 =>
 T_ireturn (ty := .int) dX8_copy_133 rfl rfl h27))))))) (fun z32 =>
 T_aload_n dX8_copy_107 rfl <|
 T_iconst dX8_copy_108 ic_2 <|
 T_callVi (k' := kX8_found) (vs := [pI 2]) (st := []) dX8_copy_109 wm_X8_87 okX8_found rfl c_8_0_0 rfl rfl rfl (Nat.le_of_ble_eq_true rfl) rfl (Nat.le_of_ble_eq_true rfl) (TT.mono (h33.2 z32) (rI_mono (fun v30 M29 h31 =>
 T_ireturn (ty := .int) dX8_copy_112 rfl rfl h31)))))))))))) (fun z39 =>
 T_aload_n dX8_copy_72 rfl <|
 T_iconst dX8_copy_73 ic_5 <|
 T_callVi (k' := kX8_found) (vs := [pI 5]) (st := []) dX8_copy_74 wm_X8_87 okX8_found rfl c_8_0_0 rfl rfl rfl (Nat.le_of_ble_eq_true rfl) rfl (Nat.le_of_ble_eq_true rfl) (TT.mono (h40.2 z39) (rI_mono (fun v37 M36 h38 =>
 T_ireturn (ty := .int) dX8_copy_77 rfl rfl h38))))))))))) (fun z45 =>
 T_aload_n dX8_copy_47 rfl <|
 T_iconst dX8_copy_48 ic_1 <|
 T_callVi (k' := kX8_found) (vs := [pI 1]) (st := []) dX8_copy_49 wm_X8_87 okX8_found rfl c_8_0_0 rfl rfl rfl (Nat.le_of_ble_eq_true rfl) rfl (Nat.le_of_ble_eq_true rfl) (TT.mono (h46.2 z45) (rI_mono (fun v43 M42 h44 =>
 T_ireturn (ty := .int) dX8_copy_52 rfl rfl h44)))))))))))) (fun z49 =>
 T_ldc dX8_copy_22 wc_X8_86 <|
 T_ireturn (ty := .int) dX8_copy_24 rfl rfl (h50.2 z49)))))))))
theorem rX8_drop_0 {X : Nat × (Nat → Int32)} {a1 : Int32} {M : Mem} {Q : Option PV → Mem → Prop} (h : TT X kX5_isNumber 0 [some (pR (5, 0, 0)), some (pI a1)] [] M (rI fun v2 M1 => (¬ v2 = 0 → TT X kX5_isMissing 0 [some (pR (5, 0, 0)), some (pI a1)] [] M1 (rI fun v4 M3 => (v4 = 0 → TT X kX5_sizeOf 0 [some (pR (5, 0, 0)), some (pI a1)] [] M3 (rI fun v6 M5 => TT X kX5_lose 0 [some (pR (5, 0, 0)), some (pI a1)] [] M5 (rV fun M7 => TT X kX8_fine 0 [some (pR (8, 0, 0)), some (pI v6)] [] M7 (rI fun v10 M9 => Q (some (pI v10)) M9)))) ∧ (¬ v4 = 0 → TT X kX8_found 0 [some (pR (8, 0, 0)), some (pI 1)] [] M3 (rI fun v15 M14 => Q (some (pI v15)) M14)))) ∧ (v2 = 0 → Q (some (pI (-1000001))) M1))) : TT X kX8_drop 0 [some (pR (8, 0, 0)), some (pI a1), none] [] M Q :=
 T_aload_n dX8_drop_0 rfl <|
 T_getR (C := RX8) (T := TX8) (N := 13) (f := 0) dX8_drop_1 c_8_0_0 rfl (by decide) wf_X8_10 rfl <|
 T_iload_n dX8_drop_4 rfl <|
 T_callVi (k' := kX5_isNumber) (vs := [pI a1]) (st := []) dX8_drop_5 wm_X8_82 okX5_isNumber rfl c_5_0_0 rfl rfl rfl (Nat.le_of_ble_eq_true rfl) rfl (Nat.le_of_ble_eq_true rfl) (TT.mono h (rI_mono (fun v2 M1 h20 =>
 T_if_ne (tgt := 14) dX8_drop_8 (by decide) (fun z19 =>
 T_aload_n dX8_drop_14 rfl <|
 T_getR (C := RX8) (T := TX8) (N := 13) (f := 0) dX8_drop_15 c_8_0_0 rfl (by decide) wf_X8_10 rfl <|
 T_iload_n dX8_drop_18 rfl <|
 T_callVi (k' := kX5_isMissing) (vs := [pI a1]) (st := []) dX8_drop_19 wm_X8_98 okX5_isMissing rfl c_5_0_0 rfl rfl rfl (Nat.le_of_ble_eq_true rfl) rfl (Nat.le_of_ble_eq_true rfl) (TT.mono (h20.1 z19) (rI_mono (fun v4 M3 h18 =>
 T_if_eq (tgt := 31) dX8_drop_22 (by decide) (fun z17 =>
 T_aload_n dX8_drop_31 rfl <|
 T_getR (C := RX8) (T := TX8) (N := 13) (f := 0) dX8_drop_32 c_8_0_0 rfl (by decide) wf_X8_10 rfl <|
 T_iload_n dX8_drop_35 rfl <|
 T_callVi (k' := kX5_sizeOf) (vs := [pI a1]) (st := []) dX8_drop_36 wm_X8_101 okX5_sizeOf rfl c_5_0_0 rfl rfl rfl (Nat.le_of_ble_eq_true rfl) rfl (Nat.le_of_ble_eq_true rfl) (TT.mono (h18.1 z17) (rI_mono (fun v6 M5 h13 =>
 T_istore_n dX8_drop_39 (by decide) rfl rfl <|
 T_aload_n dX8_drop_40 rfl <|
 T_getR (C := RX8) (T := TX8) (N := 13) (f := 0) dX8_drop_41 c_8_0_0 rfl (by decide) wf_X8_10 rfl <|
 T_iload_n dX8_drop_44 rfl <|
 T_callVv (k' := kX5_lose) (vs := [pI a1]) (st := []) dX8_drop_45 wm_X8_119 okX5_lose rfl c_5_0_0 rfl rfl rfl (Nat.le_of_ble_eq_true rfl) rfl (Nat.le_of_ble_eq_true rfl) (TT.mono h13 (rV_mono (fun M7 h12 =>
 T_aload_n dX8_drop_48 rfl <|
 T_iload_n dX8_drop_49 rfl <|
 T_callVi (k' := kX8_fine) (vs := [pI v6]) (st := []) dX8_drop_50 wm_X8_95 okX8_fine rfl c_8_0_0 rfl rfl rfl (Nat.le_of_ble_eq_true rfl) rfl (Nat.le_of_ble_eq_true rfl) (TT.mono h12 (rI_mono (fun v10 M9 h11 =>
 T_ireturn (ty := .int) dX8_drop_53 rfl rfl h11)))))))))) (fun z17 =>
 T_aload_n dX8_drop_25 rfl <|
 T_iconst dX8_drop_26 ic_1 <|
 T_callVi (k' := kX8_found) (vs := [pI 1]) (st := []) dX8_drop_27 wm_X8_87 okX8_found rfl c_8_0_0 rfl rfl rfl (Nat.le_of_ble_eq_true rfl) rfl (Nat.le_of_ble_eq_true rfl) (TT.mono (h18.2 z17) (rI_mono (fun v15 M14 h16 =>
 T_ireturn (ty := .int) dX8_drop_30 rfl rfl h16)))))))) (fun z19 =>
 T_ldc dX8_drop_11 wc_X8_86 <|
 T_ireturn (ty := .int) dX8_drop_13 rfl rfl (h20.2 z19)))))
theorem rX8_feed_0 {X : Nat × (Nat → Int32)} {a1 : Int64} {a2 : Int32} {M : Mem} {Q : Option PV → Mem → Prop} (h : (a2 < 1 → Q (some (pI (-1000001))) M) ∧ (¬ a2 < 1 → (a2 ≤ 8 → TT X kX4_hasRoomFor 0 [some (pR (4, 0, 0)), some (pI a2)] [] M (rI fun v2 M1 => (¬ v2 = 0 → TT X kX4_append 0 [some (pR (4, 0, 0)), some (pL a1), none, some (pI a2), none] [] M1 (rI fun v4 M3 => Q (some (pI v4)) M3)) ∧ (v2 = 0 → Q (some (pI (-1000003))) M1))) ∧ (¬ a2 ≤ 8 → Q (some (pI (-1000001))) M))) : TT X kX8_feed 0 [some (pR (8, 0, 0)), some (pL a1), none, some (pI a2)] [] M Q :=
 T_iload_n dX8_feed_0 rfl <|
 T_iconst dX8_feed_1 ic_1 <|
 T_icmp_lt (tgt := 11) dX8_feed_2 (by decide) (fun z9 =>
 T_ldc dX8_feed_11 wc_X8_86 <|
 T_ireturn (ty := .int) dX8_feed_13 rfl rfl (h.1 z9)) (fun z9 =>
 T_iload_n dX8_feed_5 rfl <|
 T_bipush dX8_feed_6 bp_8 <|
 T_icmp_le (tgt := 14) dX8_feed_8 (by decide) (fun z8 =>
 T_aload_n dX8_feed_14 rfl <|
 T_getR (C := RX8) (T := TX8) (N := 13) (f := 1) dX8_feed_15 c_8_0_0 rfl (by decide) wf_X8_19 rfl <|
 T_iload_n dX8_feed_18 rfl <|
 T_callVi (k' := kX4_hasRoomFor) (vs := [pI a2]) (st := []) dX8_feed_19 wm_X8_123 okX4_hasRoomFor rfl c_4_0_0 rfl rfl rfl (Nat.le_of_ble_eq_true rfl) rfl (Nat.le_of_ble_eq_true rfl) (TT.mono ((h.2 z9).1 z8) (rI_mono (fun v2 M1 h7 =>
 T_if_ne (tgt := 28) dX8_feed_22 (by decide) (fun z6 =>
 T_aload_n dX8_feed_28 rfl <|
 T_getR (C := RX8) (T := TX8) (N := 13) (f := 1) dX8_feed_29 c_8_0_0 rfl (by decide) wf_X8_19 rfl <|
 T_lload_n dX8_feed_32 rfl <|
 T_iload_n dX8_feed_33 rfl <|
 T_callVi (k' := kX4_append) (vs := [pL a1, pI a2]) (st := []) dX8_feed_34 wm_X8_127 okX4_append rfl c_4_0_0 rfl rfl rfl (Nat.le_of_ble_eq_true rfl) rfl (Nat.le_of_ble_eq_true rfl) (TT.mono (h7.1 z6) (rI_mono (fun v4 M3 h5 =>
 T_ireturn (ty := .int) dX8_feed_37 rfl rfl h5)))) (fun z6 =>
 T_ldc dX8_feed_25 wc_X8_126 <|
 T_ireturn (ty := .int) dX8_feed_27 rfl rfl (h7.2 z6)))))) (fun z8 =>
 T_ldc dX8_feed_11 wc_X8_86 <|
 T_ireturn (ty := .int) dX8_feed_13 rfl rfl ((h.2 z9).2 z8)))
theorem rX8_stair_0 {X : Nat × (Nat → Int32)}  {M : Mem} {Q : Option PV → Mem → Prop} (h : TT X kX4_read 0 [some (pR (4, 0, 0)), some (pR (6, 1, 0)), none] [] M (rI fun v2 M1 => (v2 = 0 → TT X kX8_replaceBy 0 [some (pR (8, 0, 0)), some (pR (6, 1, 0))] [] M1 (rV fun M3 => Q (some (pI (M3 6 0 0 0))) M3)) ∧ (¬ v2 = 0 → TT X kX4_place 0 [some (pR (4, 0, 0))] [] (mset M1 8 0 0 11 v2) (rI fun v7 M6 => Q (some (pI ((-1000100) - v7))) M6)))) : TT X kX8_stair 0 [some (pR (8, 0, 0)), none] [] M Q :=
 T_aload_n dX8_stair_0 rfl <|
 T_getR (C := RX8) (T := TX8) (N := 13) (f := 1) dX8_stair_1 c_8_0_0 rfl (by decide) wf_X8_19 rfl <|
 T_aload_n dX8_stair_4 rfl <|
 T_getR (C := RX8) (T := TX8) (N := 13) (f := 3) dX8_stair_5 c_8_0_0 rfl (by decide) wf_X8_30 rfl <|
 T_callVi (k' := kX4_read) (vs := [pR (6, 1, 0)]) (st := []) dX8_stair_8 wm_X8_131 okX4_read rfl c_4_0_0 rfl rfl rfl (Nat.le_of_ble_eq_true rfl) rfl (Nat.le_of_ble_eq_true rfl) (TT.mono h (rI_mono (fun v2 M1 h10 =>
 T_istore_n dX8_stair_11 (by decide) rfl rfl <|
 T_iload_n dX8_stair_12 rfl <|
 T_if_eq (tgt := 32) dX8_stair_13 (by decide) (fun z9 =>
 T_aload_n dX8_stair_32 rfl <|
 T_aload_n dX8_stair_33 rfl <|
 T_getR (C := RX8) (T := TX8) (N := 13) (f := 3) dX8_stair_34 c_8_0_0 rfl (by decide) wf_X8_30 rfl <|
 T_callVv (k' := kX8_replaceBy) (vs := [pR (6, 1, 0)]) (st := []) dX8_stair_37 wm_X8_140 okX8_replaceBy rfl c_8_0_0 rfl rfl rfl (Nat.le_of_ble_eq_true rfl) rfl (Nat.le_of_ble_eq_true rfl) (TT.mono (h10.1 z9) (rV_mono (fun M3 h5 =>
 T_aload_n dX8_stair_40 rfl <|
 T_getR (C := RX8) (T := TX8) (N := 13) (f := 2) dX8_stair_41 c_8_0_0 rfl (by decide) wf_X8_26 rfl <|
 T_getI (C := RX6) (T := TX6) (N := 9) (f := 0) dX8_stair_44 c_6_0_0 rfl (by decide) wf_X8_144 rfl <|
 T_ireturn (ty := .int) dX8_stair_47 rfl rfl h5)))) (fun z9 =>
 T_aload_n dX8_stair_16 rfl <|
 T_iload_n dX8_stair_17 rfl <|
 T_putI (C := RX8) (T := TX8) (N := 13) (f := 11) dX8_stair_18 c_8_0_0 rfl (by decide) wf_X8_75 rfl rfl rfl <|
 T_ldc dX8_stair_21 wc_X8_135 <|
 T_aload_n dX8_stair_23 rfl <|
 T_getR (C := RX8) (T := TX8) (N := 13) (f := 1) dX8_stair_24 c_8_0_0 rfl (by decide) wf_X8_19 rfl <|
 T_callVi (k' := kX4_place) (vs := []) (st := [pI (-1000100)]) dX8_stair_27 wm_X8_136 okX4_place rfl c_4_0_0 rfl rfl rfl (Nat.le_of_ble_eq_true rfl) rfl (Nat.le_of_ble_eq_true rfl) (TT.mono (h10.2 z9) (rI_mono (fun v7 M6 h8 =>
 T_isub dX8_stair_30 <|
 T_ireturn (ty := .int) dX8_stair_31 rfl rfl h8)))))))
theorem rX8_fault_0 {X : Nat × (Nat → Int32)}  {M : Mem} {Q : Option PV → Mem → Prop} (h : Q (some (pI (M 8 0 0 11))) M) : TT X kX8_fault 0 [some (pR (8, 0, 0))] [] M Q :=
 T_aload_n dX8_fault_0 rfl <|
 T_getI (C := RX8) (T := TX8) (N := 13) (f := 11) dX8_fault_1 c_8_0_0 rfl (by decide) wf_X8_75 rfl <|
 T_ireturn (ty := .int) dX8_fault_4 rfl rfl h
theorem rX8_price_0 {X : Nat × (Nat → Int32)} {a1 : Int32} {a2 : Int32} {M : Mem} {Q : Option PV → Mem → Prop} (h : TT X kX6_hasStep 0 [some (pR (6, 0, 0)), some (pI a1)] [] M (rI fun v2 M1 => (v2 = 0 → Q (some (pI (-1000001))) M1) ∧ (¬ v2 = 0 → (a2 < 0 → Q (some (pI (-1000001))) M1) ∧ (¬ a2 < 0 → (a2 ≤ 20 → TT X kX8_act 0 [some (pR (8, 0, 0)), some (pI 0), some (pI a1), some (pI a2), none] [] M1 (rI fun v4 M3 => Q (some (pI v4)) M3)) ∧ (¬ a2 ≤ 20 → Q (some (pI (-1000001))) M1))))) : TT X kX8_price 0 [some (pR (8, 0, 0)), some (pI a1), some (pI a2)] [] M Q :=
 T_aload_n dX8_price_0 rfl <|
 T_getR (C := RX8) (T := TX8) (N := 13) (f := 2) dX8_price_1 c_8_0_0 rfl (by decide) wf_X8_26 rfl <|
 T_iload_n dX8_price_4 rfl <|
 T_callVi (k' := kX6_hasStep) (vs := [pI a1]) (st := []) dX8_price_5 wm_X8_147 okX6_hasStep rfl c_6_0_0 rfl rfl rfl (Nat.le_of_ble_eq_true rfl) rfl (Nat.le_of_ble_eq_true rfl) (TT.mono h (rI_mono (fun v2 M1 h9 =>
 T_if_eq (tgt := 21) dX8_price_8 (by decide) (fun z8 =>
 T_ldc dX8_price_21 wc_X8_86 <|
 T_ireturn (ty := .int) dX8_price_23 rfl rfl (h9.1 z8)) (fun z8 =>
 T_iload_n dX8_price_11 rfl <|
 T_if_lt (tgt := 21) dX8_price_12 (by decide) (fun z7 =>
 T_ldc dX8_price_21 wc_X8_86 <|
 T_ireturn (ty := .int) dX8_price_23 rfl rfl ((h9.2 z8).1 z7)) (fun z7 =>
 T_iload_n dX8_price_15 rfl <|
 T_bipush dX8_price_16 bp_20 <|
 T_icmp_le (tgt := 24) dX8_price_18 (by decide) (fun z6 =>
 T_aload_n dX8_price_24 rfl <|
 T_iconst dX8_price_25 ic_0 <|
 T_iload_n dX8_price_26 rfl <|
 T_iload_n dX8_price_27 rfl <|
 T_callVi (k' := kX8_act) (vs := [pI 0, pI a1, pI a2]) (st := []) dX8_price_28 wm_X8_150 okX8_act rfl c_8_0_0 rfl rfl rfl (Nat.le_of_ble_eq_true rfl) rfl (Nat.le_of_ble_eq_true rfl) (TT.mono (((h9.2 z8).2 z7).1 z6) (rI_mono (fun v4 M3 h5 =>
 T_ireturn (ty := .int) dX8_price_31 rfl rfl h5)))) (fun z6 =>
 T_ldc dX8_price_21 wc_X8_86 <|
 T_ireturn (ty := .int) dX8_price_23 rfl rfl (((h9.2 z8).2 z7).2 z6)))))))
theorem rX8_sell_0 {X : Nat × (Nat → Int32)} {a1 : Int32} {a2 : Int32} {M : Mem} {Q : Option PV → Mem → Prop} (h : TT X kX6_hasStep 0 [some (pR (6, 0, 0)), some (pI a1)] [] M (rI fun v2 M1 => (v2 = 0 → Q (some (pI (-1000001))) M1) ∧ (¬ v2 = 0 → TT X kX6_isOwner 0 [some (pI a2)] [] M1 (rI fun v4 M3 => (v4 = 0 → Q (some (pI (-1000001))) M3) ∧ (¬ v4 = 0 → vp_in a1 18 ∧ ((¬ (M3 6 0 3 (Int32.toNatClampNeg a1)) = a2 → TT X kX8_act 0 [some (pR (8, 0, 0)), some (pI 1), some (pI a1), some (pI a2), none] [] M3 (rI fun v6 M5 => Q (some (pI v6)) M5)) ∧ ((M3 6 0 3 (Int32.toNatClampNeg a1)) = a2 → Q (some (pI (-1000001))) M3))))))) : TT X kX8_sell 0 [some (pR (8, 0, 0)), some (pI a1), some (pI a2)] [] M Q :=
 T_aload_n dX8_sell_0 rfl <|
 T_getR (C := RX8) (T := TX8) (N := 13) (f := 2) dX8_sell_1 c_8_0_0 rfl (by decide) wf_X8_26 rfl <|
 T_iload_n dX8_sell_4 rfl <|
 T_callVi (k' := kX6_hasStep) (vs := [pI a1]) (st := []) dX8_sell_5 wm_X8_147 okX6_hasStep rfl c_6_0_0 rfl rfl rfl (Nat.le_of_ble_eq_true rfl) rfl (Nat.le_of_ble_eq_true rfl) (TT.mono h (rI_mono (fun v2 M1 h12 =>
 T_if_eq (tgt := 31) dX8_sell_8 (by decide) (fun z11 =>
 T_ldc dX8_sell_31 wc_X8_86 <|
 T_ireturn (ty := .int) dX8_sell_33 rfl rfl (h12.1 z11)) (fun z11 =>
 T_iload_n dX8_sell_11 rfl <|
 T_callSi (k' := kX6_isOwner) (vs := [pI a2]) (st := []) dX8_sell_12 wm_X8_153 okX6_isOwner rfl rfl rfl (Nat.le_of_ble_eq_true rfl) rfl (Nat.le_of_ble_eq_true rfl) (TT.mono (h12.2 z11) (rI_mono (fun v4 M3 h10 =>
 T_if_eq (tgt := 31) dX8_sell_15 (by decide) (fun z9 =>
 T_ldc dX8_sell_31 wc_X8_86 <|
 T_ireturn (ty := .int) dX8_sell_33 rfl rfl (h10.1 z9)) (fun z9 =>
 T_aload_n dX8_sell_18 rfl <|
 T_getR (C := RX8) (T := TX8) (N := 13) (f := 2) dX8_sell_19 c_8_0_0 rfl (by decide) wf_X8_26 rfl <|
 T_getR (C := RX6) (T := TX6) (N := 9) (f := 2) dX8_sell_22 c_6_0_0 rfl (by decide) wf_X8_156 rfl <|
 T_iload_n dX8_sell_25 rfl <|
 T_iald (n := 18) dX8_sell_26 c_6_0_3 (by decide) (by decide) (by decide) rfl (h10.2 z9).1 <|
 T_iload_n dX8_sell_27 rfl <|
 T_icmp_ne (tgt := 34) dX8_sell_28 (by decide) (fun z8 =>
 T_aload_n dX8_sell_34 rfl <|
 T_iconst dX8_sell_35 ic_1 <|
 T_iload_n dX8_sell_36 rfl <|
 T_iload_n dX8_sell_37 rfl <|
 T_callVi (k' := kX8_act) (vs := [pI 1, pI a1, pI a2]) (st := []) dX8_sell_38 wm_X8_150 okX8_act rfl c_8_0_0 rfl rfl rfl (Nat.le_of_ble_eq_true rfl) rfl (Nat.le_of_ble_eq_true rfl) (TT.mono ((h10.2 z9).2.1 z8) (rI_mono (fun v6 M5 h7 =>
 T_ireturn (ty := .int) dX8_sell_41 rfl rfl h7)))) (fun z8 =>
 T_ldc dX8_sell_31 wc_X8_86 <|
 T_ireturn (ty := .int) dX8_sell_33 rfl rfl ((h10.2 z9).2.2 z8))))))))))
theorem rX8_crack_0 {X : Nat × (Nat → Int32)} {a1 : Int32} {a2 : Int32} {M : Mem} {Q : Option PV → Mem → Prop} (h : TT X kX6_hasStep 0 [some (pR (6, 0, 0)), some (pI a1)] [] M (rI fun v2 M1 => (v2 = 0 → Q (some (pI (-1000001))) M1) ∧ (¬ v2 = 0 → (a2 < 0 → Q (some (pI (-1000001))) M1) ∧ (¬ a2 < 0 → (a2 ≤ 1 → TT X kX8_act 0 [some (pR (8, 0, 0)), some (pI 2), some (pI a1), some (pI a2), none] [] M1 (rI fun v4 M3 => Q (some (pI v4)) M3)) ∧ (¬ a2 ≤ 1 → Q (some (pI (-1000001))) M1))))) : TT X kX8_crack 0 [some (pR (8, 0, 0)), some (pI a1), some (pI a2)] [] M Q :=
 T_aload_n dX8_crack_0 rfl <|
 T_getR (C := RX8) (T := TX8) (N := 13) (f := 2) dX8_crack_1 c_8_0_0 rfl (by decide) wf_X8_26 rfl <|
 T_iload_n dX8_crack_4 rfl <|
 T_callVi (k' := kX6_hasStep) (vs := [pI a1]) (st := []) dX8_crack_5 wm_X8_147 okX6_hasStep rfl c_6_0_0 rfl rfl rfl (Nat.le_of_ble_eq_true rfl) rfl (Nat.le_of_ble_eq_true rfl) (TT.mono h (rI_mono (fun v2 M1 h9 =>
 T_if_eq (tgt := 20) dX8_crack_8 (by decide) (fun z8 =>
 T_ldc dX8_crack_20 wc_X8_86 <|
 T_ireturn (ty := .int) dX8_crack_22 rfl rfl (h9.1 z8)) (fun z8 =>
 T_iload_n dX8_crack_11 rfl <|
 T_if_lt (tgt := 20) dX8_crack_12 (by decide) (fun z7 =>
 T_ldc dX8_crack_20 wc_X8_86 <|
 T_ireturn (ty := .int) dX8_crack_22 rfl rfl ((h9.2 z8).1 z7)) (fun z7 =>
 T_iload_n dX8_crack_15 rfl <|
 T_iconst dX8_crack_16 ic_1 <|
 T_icmp_le (tgt := 23) dX8_crack_17 (by decide) (fun z6 =>
 T_aload_n dX8_crack_23 rfl <|
 T_iconst dX8_crack_24 ic_2 <|
 T_iload_n dX8_crack_25 rfl <|
 T_iload_n dX8_crack_26 rfl <|
 T_callVi (k' := kX8_act) (vs := [pI 2, pI a1, pI a2]) (st := []) dX8_crack_27 wm_X8_150 okX8_act rfl c_8_0_0 rfl rfl rfl (Nat.le_of_ble_eq_true rfl) rfl (Nat.le_of_ble_eq_true rfl) (TT.mono (((h9.2 z8).2 z7).1 z6) (rI_mono (fun v4 M3 h5 =>
 T_ireturn (ty := .int) dX8_crack_30 rfl rfl h5)))) (fun z6 =>
 T_ldc dX8_crack_20 wc_X8_86 <|
 T_ireturn (ty := .int) dX8_crack_22 rfl rfl (((h9.2 z8).2 z7).2 z6)))))))
theorem rX8_undo_0 {X : Nat × (Nat → Int32)}  {M : Mem} {Q : Option PV → Mem → Prop} (h : TT X kX0_kept 0 [some (pR (0, 0, 0))] [] M (rI fun v2 M1 => (¬ v2 = 0 → TT X kX0_undoLatest 0 [some (pR (0, 0, 0)), some (pR (6, 0, 0))] [] M1 (rV fun M3 => TT X kX7_forget 0 [some (pR (7, 0, 0))] [] M3 (rV fun M5 => TT X kX0_kept 0 [some (pR (0, 0, 0))] [] M5 (rI fun v8 M7 => Q (some (pI v8)) M7)))) ∧ (v2 = 0 → Q (some (pI (-1000002))) M1))) : TT X kX8_undo 0 [some (pR (8, 0, 0))] [] M Q :=
 T_aload_n dX8_undo_0 rfl <|
 T_getR (C := RX8) (T := TX8) (N := 13) (f := 6) dX8_undo_1 c_8_0_0 rfl (by decide) wf_X8_43 rfl <|
 T_callVi (k' := kX0_kept) (vs := []) (st := []) dX8_undo_4 wm_X8_160 okX0_kept rfl c_0_0_0 rfl rfl rfl (Nat.le_of_ble_eq_true rfl) rfl (Nat.le_of_ble_eq_true rfl) (TT.mono h (rI_mono (fun v2 M1 h13 =>
 T_if_ne (tgt := 13) dX8_undo_7 (by decide) (fun z12 =>
 T_aload_n dX8_undo_13 rfl <|
 T_getR (C := RX8) (T := TX8) (N := 13) (f := 6) dX8_undo_14 c_8_0_0 rfl (by decide) wf_X8_43 rfl <|
 T_aload_n dX8_undo_17 rfl <|
 T_getR (C := RX8) (T := TX8) (N := 13) (f := 2) dX8_undo_18 c_8_0_0 rfl (by decide) wf_X8_26 rfl <|
 T_callVv (k' := kX0_undoLatest) (vs := [pR (6, 0, 0)]) (st := []) dX8_undo_21 wm_X8_164 okX0_undoLatest rfl c_0_0_0 rfl rfl rfl (Nat.le_of_ble_eq_true rfl) rfl (Nat.le_of_ble_eq_true rfl) (TT.mono (h13.1 z12) (rV_mono (fun M3 h11 =>
 T_aload_n dX8_undo_24 rfl <|
 T_getR (C := RX8) (T := TX8) (N := 13) (f := 9) dX8_undo_25 c_8_0_0 rfl (by decide) wf_X8_64 rfl <|
 T_callVv (k' := kX7_forget) (vs := []) (st := []) dX8_undo_28 wm_X8_167 okX7_forget rfl c_7_0_0 rfl rfl rfl (Nat.le_of_ble_eq_true rfl) rfl (Nat.le_of_ble_eq_true rfl) (TT.mono h11 (rV_mono (fun M5 h10 =>
 T_aload_n dX8_undo_31 rfl <|
 T_getR (C := RX8) (T := TX8) (N := 13) (f := 6) dX8_undo_32 c_8_0_0 rfl (by decide) wf_X8_43 rfl <|
 T_callVi (k' := kX0_kept) (vs := []) (st := []) dX8_undo_35 wm_X8_160 okX0_kept rfl c_0_0_0 rfl rfl rfl (Nat.le_of_ble_eq_true rfl) rfl (Nat.le_of_ble_eq_true rfl) (TT.mono h10 (rI_mono (fun v8 M7 h9 =>
 T_ireturn (ty := .int) dX8_undo_38 rfl rfl h9)))))))))) (fun z12 =>
 T_ldc dX8_undo_10 wc_X8_163 <|
 T_ireturn (ty := .int) dX8_undo_12 rfl rfl (h13.2 z12)))))
theorem rX8_step_0 {X : Nat × (Nat → Int32)} {a1 : Int32} {a2 : Int32} {M : Mem} {Q : Option PV → Mem → Prop} (h : TT X kX6_hasStep 0 [some (pR (6, 0, 0)), some (pI a1)] [] M (rI fun v2 M1 => (¬ v2 = 0 → (a2 = 0 → vp_in a1 18 ∧ (Q (some (pI (M1 6 0 3 (Int32.toNatClampNeg a1)))) M1)) ∧ (a2 = 1 → vp_in a1 18 ∧ (Q (some (pI (M1 6 0 4 (Int32.toNatClampNeg a1)))) M1)) ∧ (a2 = 2 → vp_in a1 18 ∧ (Q (some (pI (M1 6 0 5 (Int32.toNatClampNeg a1)))) M1)) ∧ (((a2).toInt < 0 ∨ 2 < (a2).toInt) → Q (some (pI (-1000001))) M1)) ∧ (v2 = 0 → Q (some (pI (-1000001))) M1))) : TT X kX8_step 0 [some (pR (8, 0, 0)), some (pI a1), some (pI a2)] [] M Q :=
 T_aload_n dX8_step_0 rfl <|
 T_getR (C := RX8) (T := TX8) (N := 13) (f := 2) dX8_step_1 c_8_0_0 rfl (by decide) wf_X8_26 rfl <|
 T_iload_n dX8_step_4 rfl <|
 T_callVi (k' := kX6_hasStep) (vs := [pI a1]) (st := []) dX8_step_5 wm_X8_147 okX6_hasStep rfl c_6_0_0 rfl rfl rfl (Nat.le_of_ble_eq_true rfl) rfl (Nat.le_of_ble_eq_true rfl) (TT.mono h (rI_mono (fun v2 M1 h4 =>
 T_if_ne (tgt := 14) dX8_step_8 (by decide) (fun z3 =>
 T_iload_n dX8_step_14 rfl <|
 (Decidable.byCases (fun z8 : a2 = 0 => T_table (tgt := 40) dX8_step_15 (by rw [z8]; decide +kernel) (by decide) <|
 T_aload_n dX8_step_40 rfl <|
 T_getR (C := RX8) (T := TX8) (N := 13) (f := 2) dX8_step_41 c_8_0_0 rfl (by decide) wf_X8_26 rfl <|
 T_getR (C := RX6) (T := TX6) (N := 9) (f := 2) dX8_step_44 c_6_0_0 rfl (by decide) wf_X8_156 rfl <|
 T_iload_n dX8_step_47 rfl <|
 T_iald (n := 18) dX8_step_48 c_6_0_3 (by decide) (by decide) (by decide) rfl ((h4.1 z3).1 z8).1 <|
 T_ireturn (ty := .int) dX8_step_49 rfl rfl ((h4.1 z3).1 z8).2) (fun nz8 : ¬ a2 = 0 =>
 (Decidable.byCases (fun z9 : a2 = 1 => T_table (tgt := 50) dX8_step_15 (by rw [z9]; decide +kernel) (by decide) <|
 T_aload_n dX8_step_50 rfl <|
 T_getR (C := RX8) (T := TX8) (N := 13) (f := 2) dX8_step_51 c_8_0_0 rfl (by decide) wf_X8_26 rfl <|
 T_getR (C := RX6) (T := TX6) (N := 9) (f := 3) dX8_step_54 c_6_0_0 rfl (by decide) wf_X8_170 rfl <|
 T_iload_n dX8_step_57 rfl <|
 T_iald (n := 18) dX8_step_58 c_6_0_4 (by decide) (by decide) (by decide) rfl ((h4.1 z3).2.1 z9).1 <|
 T_ireturn (ty := .int) dX8_step_59 rfl rfl ((h4.1 z3).2.1 z9).2) (fun nz9 : ¬ a2 = 1 =>
 (Decidable.byCases (fun z10 : a2 = 2 => T_table (tgt := 60) dX8_step_15 (by rw [z10]; decide +kernel) (by decide) <|
 T_aload_n dX8_step_60 rfl <|
 T_getR (C := RX8) (T := TX8) (N := 13) (f := 2) dX8_step_61 c_8_0_0 rfl (by decide) wf_X8_26 rfl <|
 T_getR (C := RX6) (T := TX6) (N := 9) (f := 4) dX8_step_64 c_6_0_0 rfl (by decide) wf_X8_173 rfl <|
 T_iload_n dX8_step_67 rfl <|
 T_iald (n := 18) dX8_step_68 c_6_0_5 (by decide) (by decide) (by decide) rfl ((h4.1 z3).2.2.1 z10).1 <|
 T_ireturn (ty := .int) dX8_step_69 rfl rfl ((h4.1 z3).2.2.1 z10).2) (fun nz10 : ¬ a2 = 2 =>
 (have zd10 := swo_0_2 nz8 nz9 nz10
 T_table (tgt := 70) dX8_step_15 (by rw [if_pos zd10]; decide) (by decide) <|
 T_ldc dX8_step_70 wc_X8_86 <|
 T_ireturn (ty := .int) dX8_step_72 rfl rfl ((h4.1 z3).2.2.2 zd10))))))))) (fun z3 =>
 T_ldc dX8_step_11 wc_X8_86 <|
 T_ireturn (ty := .int) dX8_step_13 rfl rfl (h4.2 z3)))))
theorem rX8_way_0 {X : Nat × (Nat → Int32)} {a1 : Int32} {a2 : Int32} {M : Mem} {Q : Option PV → Mem → Prop} (h : TT X kX6_hasWalker 0 [some (pR (6, 0, 0)), some (pI a1)] [] M (rI fun v2 M1 => (v2 = 0 → Q (some (pI (-1000001))) M1) ∧ (¬ v2 = 0 → ((-3) ≤ a2 → vp_in a1 6 ∧ (TT X kX2_find 0 [some (pR (2, 0, 0)), some (pR (6, 0, 0)), some (pI (M1 6 0 6 (Int32.toNatClampNeg a1))), none, none] [] M1 (rV fun M3 => (¬ a2 = (-3) → (¬ a2 = (-2) → (¬ a2 = (-1) → TT X kX2_tread 0 [some (pR (2, 0, 0)), some (pI a2)] [] M3 (rI fun v6 M5 => Q (some (pI v6)) M5)) ∧ (a2 = (-1) → TT X kX2_treads 0 [some (pR (2, 0, 0))] [] M3 (rI fun v9 M8 => Q (some (pI v9)) M8))) ∧ (a2 = (-2) → TT X kX2_isThere 0 [some (pR (2, 0, 0))] [] M3 (rI fun v13 M12 => (v13 = 0 → Q (some (pI (-1000000))) M12) ∧ (¬ v13 = 0 → TT X kX2_cost 0 [some (pR (2, 0, 0)), some (pR (6, 0, 0)), some (pI a1)] [] M12 (rI fun v15 M14 => Q (some (pI v15)) M14))))) ∧ (a2 = (-3) → TT X kX2_isGone 0 [some (pR (2, 0, 0)), some (pR (6, 0, 0)), some (pI a1)] [] M3 (rI fun v21 M20 => (v21 = 0 → Q (some (pI 0)) M20) ∧ (¬ v21 = 0 → Q (some (pI 1)) M20)))))) ∧ (¬ (-3) ≤ a2 → Q (some (pI (-1000001))) M1)))) : TT X kX8_way 0 [some (pR (8, 0, 0)), some (pI a1), some (pI a2)] [] M Q :=
 T_aload_n dX8_way_0 rfl <|
 T_getR (C := RX8) (T := TX8) (N := 13) (f := 2) dX8_way_1 c_8_0_0 rfl (by decide) wf_X8_26 rfl <|
 T_iload_n dX8_way_4 rfl <|
 T_callVi (k' := kX6_hasWalker) (vs := [pI a1]) (st := []) dX8_way_5 wm_X8_176 okX6_hasWalker rfl c_6_0_0 rfl rfl rfl (Nat.le_of_ble_eq_true rfl) rfl (Nat.le_of_ble_eq_true rfl) (TT.mono h (rI_mono (fun v2 M1 h28 =>
 T_if_eq (tgt := 17) dX8_way_8 (by decide) (fun z27 =>
 T_ldc dX8_way_17 wc_X8_86 <|
 T_ireturn (ty := .int) dX8_way_19 rfl rfl (h28.1 z27)) (fun z27 =>
 T_iload_n dX8_way_11 rfl <|
 T_bipush dX8_way_12 bp_m3 <|
 T_icmp_ge (tgt := 20) dX8_way_14 (by decide) (fun z26 =>
 T_aload_n dX8_way_20 rfl <|
 T_getR (C := RX8) (T := TX8) (N := 13) (f := 7) dX8_way_21 c_8_0_0 rfl (by decide) wf_X8_50 rfl <|
 T_aload_n dX8_way_24 rfl <|
 T_getR (C := RX8) (T := TX8) (N := 13) (f := 2) dX8_way_25 c_8_0_0 rfl (by decide) wf_X8_26 rfl <|
 T_aload_n dX8_way_28 rfl <|
 T_getR (C := RX8) (T := TX8) (N := 13) (f := 2) dX8_way_29 c_8_0_0 rfl (by decide) wf_X8_26 rfl <|
 T_getR (C := RX6) (T := TX6) (N := 9) (f := 5) dX8_way_32 c_6_0_0 rfl (by decide) wf_X8_179 rfl <|
 T_iload_n dX8_way_35 rfl <|
 T_iald (n := 6) dX8_way_36 c_6_0_6 (by decide) (by decide) (by decide) rfl ((h28.2 z27).1 z26).1 <|
 T_callVv (k' := kX2_find) (vs := [pR (6, 0, 0), pI (M1 6 0 6 (Int32.toNatClampNeg a1))]) (st := []) dX8_way_37 wm_X8_182 okX2_find rfl c_2_0_0 rfl rfl rfl (Nat.le_of_ble_eq_true rfl) rfl (Nat.le_of_ble_eq_true rfl) (TT.mono ((h28.2 z27).1 z26).2 (rV_mono (fun M3 h25 =>
 T_iload_n dX8_way_40 rfl <|
 T_bipush dX8_way_41 bp_m3 <|
 T_icmp_ne (tgt := 67) dX8_way_43 (by decide) (fun z24 =>
 T_iload_n dX8_way_67 rfl <|
 T_bipush dX8_way_68 bp_m2 <|
 T_icmp_ne (tgt := 101) dX8_way_70 (by decide) (fun z19 =>
 T_iload_n dX8_way_101 rfl <|
 T_iconst dX8_way_102 ic_m1 <|
 T_icmp_ne (tgt := 116) dX8_way_103 (by decide) (fun z11 =>
 T_aload_n dX8_way_116 rfl <|
 T_getR (C := RX8) (T := TX8) (N := 13) (f := 7) dX8_way_117 c_8_0_0 rfl (by decide) wf_X8_50 rfl <|
 T_iload_n dX8_way_120 rfl <|
 T_callVi (k' := kX2_tread) (vs := [pI a2]) (st := []) dX8_way_121 wm_X8_202 okX2_tread rfl c_2_0_0 rfl rfl rfl (Nat.le_of_ble_eq_true rfl) rfl (Nat.le_of_ble_eq_true rfl) (TT.mono (((h25.1 z24).1 z19).1 z11) (rI_mono (fun v6 M5 h7 =>
 T_ireturn (ty := .int) dX8_way_124 rfl rfl h7)))) (fun z11 =>
 T_aload_n dX8_way_106 rfl <|
 T_getR (C := RX8) (T := TX8) (N := 13) (f := 7) dX8_way_107 c_8_0_0 rfl (by decide) wf_X8_50 rfl <|
 T_callVi (k' := kX2_treads) (vs := []) (st := []) dX8_way_110 wm_X8_199 okX2_treads rfl c_2_0_0 rfl rfl rfl (Nat.le_of_ble_eq_true rfl) rfl (Nat.le_of_ble_eq_true rfl) (TT.mono (((h25.1 z24).1 z19).2 z11) (rI_mono (fun v9 M8 h10 =>
 T_goto (tgt := 124) dX8_way_113 (by decide) <|
 T_ireturn (ty := .int) dX8_way_124 rfl rfl h10))))) (fun z19 =>
 T_aload_n dX8_way_73 rfl <|
 T_getR (C := RX8) (T := TX8) (N := 13) (f := 7) dX8_way_74 c_8_0_0 rfl (by decide) wf_X8_50 rfl <|
 T_callVi (k' := kX2_isThere) (vs := []) (st := []) dX8_way_77 wm_X8_190 okX2_isThere rfl c_2_0_0 rfl rfl rfl (Nat.le_of_ble_eq_true rfl) rfl (Nat.le_of_ble_eq_true rfl) (TT.mono ((h25.1 z24).2 z19) (rI_mono (fun v13 M12 h18 =>
 T_if_eq (tgt := 98) dX8_way_80 (by decide) (fun z17 =>
 T_ldc dX8_way_98 wc_X8_198 <|
 T_ireturn (ty := .int) dX8_way_100 rfl rfl (h18.1 z17)) (fun z17 =>
 T_aload_n dX8_way_83 rfl <|
 T_getR (C := RX8) (T := TX8) (N := 13) (f := 7) dX8_way_84 c_8_0_0 rfl (by decide) wf_X8_50 rfl <|
 T_aload_n dX8_way_87 rfl <|
 T_getR (C := RX8) (T := TX8) (N := 13) (f := 2) dX8_way_88 c_8_0_0 rfl (by decide) wf_X8_26 rfl <|
 T_iload_n dX8_way_91 rfl <|
 T_callVi (k' := kX2_cost) (vs := [pR (6, 0, 0), pI a1]) (st := []) dX8_way_92 wm_X8_194 okX2_cost rfl c_2_0_0 rfl rfl rfl (Nat.le_of_ble_eq_true rfl) rfl (Nat.le_of_ble_eq_true rfl) (TT.mono (h18.2 z17) (rI_mono (fun v15 M14 h16 =>
 T_goto (tgt := 100) dX8_way_95 (by decide) <|
 T_ireturn (ty := .int) dX8_way_100 rfl rfl h16))))))))) (fun z24 =>
 T_aload_n dX8_way_46 rfl <|
 T_getR (C := RX8) (T := TX8) (N := 13) (f := 7) dX8_way_47 c_8_0_0 rfl (by decide) wf_X8_50 rfl <|
 T_aload_n dX8_way_50 rfl <|
 T_getR (C := RX8) (T := TX8) (N := 13) (f := 2) dX8_way_51 c_8_0_0 rfl (by decide) wf_X8_26 rfl <|
 T_iload_n dX8_way_54 rfl <|
 T_callVi (k' := kX2_isGone) (vs := [pR (6, 0, 0), pI a1]) (st := []) dX8_way_55 wm_X8_186 okX2_isGone rfl c_2_0_0 rfl rfl rfl (Nat.le_of_ble_eq_true rfl) rfl (Nat.le_of_ble_eq_true rfl) (TT.mono (h25.2 z24) (rI_mono (fun v21 M20 h23 =>
 T_if_eq (tgt := 65) dX8_way_58 (by decide) (fun z22 =>
 T_iconst dX8_way_65 ic_0 <|
 T_ireturn (ty := .int) dX8_way_66 rfl rfl (h23.1 z22)) (fun z22 =>
 T_iconst dX8_way_61 ic_1 <|
 T_goto (tgt := 66) dX8_way_62 (by decide) <|
 T_ireturn (ty := .int) dX8_way_66 rfl rfl (h23.2 z22)))))))))) (fun z26 =>
 T_ldc dX8_way_17 wc_X8_86 <|
 T_ireturn (ty := .int) dX8_way_19 rfl rfl ((h28.2 z27).2 z26))))))
theorem rX8_takes_0 {X : Nat × (Nat → Int32)} {a1 : Int32} {M : Mem} {Q : Option PV → Mem → Prop} (h : TT X kX6_isNone 0 [some (pR (6, 0, 0))] [] M (rI fun v2 M1 => (v2 = 0 → TT X kX6_isOwner 0 [some (pI a1)] [] M1 (rI fun v4 M3 => (¬ v4 = 0 → TT X kX3_taken 0 [some (pR (3, 0, 0)), some (pR (6, 0, 0)), some (pI (1 <<< (a1 &&& 31))), none, none, none] [] M3 (rI fun v6 M5 => Q (some (pI v6)) M5)) ∧ (v4 = 0 → Q (some (pI (-1000001))) M3))) ∧ (¬ v2 = 0 → Q (some (pI (-1000002))) M1))) : TT X kX8_takes 0 [some (pR (8, 0, 0)), some (pI a1)] [] M Q :=
 T_aload_n dX8_takes_0 rfl <|
 T_getR (C := RX8) (T := TX8) (N := 13) (f := 2) dX8_takes_1 c_8_0_0 rfl (by decide) wf_X8_26 rfl <|
 T_callVi (k' := kX6_isNone) (vs := []) (st := []) dX8_takes_4 wm_X8_205 okX6_isNone rfl c_6_0_0 rfl rfl rfl (Nat.le_of_ble_eq_true rfl) rfl (Nat.le_of_ble_eq_true rfl) (TT.mono h (rI_mono (fun v2 M1 h11 =>
 T_if_eq (tgt := 13) dX8_takes_7 (by decide) (fun z10 =>
 T_iload_n dX8_takes_13 rfl <|
 T_callSi (k' := kX6_isOwner) (vs := [pI a1]) (st := []) dX8_takes_14 wm_X8_153 okX6_isOwner rfl rfl rfl (Nat.le_of_ble_eq_true rfl) rfl (Nat.le_of_ble_eq_true rfl) (TT.mono (h11.1 z10) (rI_mono (fun v4 M3 h9 =>
 T_if_ne (tgt := 23) dX8_takes_17 (by decide) (fun z8 =>
 T_aload_n dX8_takes_23 rfl <|
 T_getR (C := RX8) (T := TX8) (N := 13) (f := 8) dX8_takes_24 c_8_0_0 rfl (by decide) wf_X8_57 rfl <|
 T_aload_n dX8_takes_27 rfl <|
 T_getR (C := RX8) (T := TX8) (N := 13) (f := 2) dX8_takes_28 c_8_0_0 rfl (by decide) wf_X8_26 rfl <|
 T_iconst dX8_takes_31 ic_1 <|
 T_iload_n dX8_takes_32 rfl <|
 T_ishl dX8_takes_33 <|
 T_callVi (k' := kX3_taken) (vs := [pR (6, 0, 0), pI (1 <<< (a1 &&& 31))]) (st := []) dX8_takes_34 wm_X8_208 okX3_taken rfl c_3_0_0 rfl rfl rfl (Nat.le_of_ble_eq_true rfl) rfl (Nat.le_of_ble_eq_true rfl) (TT.mono (h9.1 z8) (rI_mono (fun v6 M5 h7 =>
 T_ireturn (ty := .int) dX8_takes_37 rfl rfl h7)))) (fun z8 =>
 T_ldc dX8_takes_20 wc_X8_86 <|
 T_ireturn (ty := .int) dX8_takes_22 rfl rfl (h9.2 z8)))))) (fun z10 =>
 T_ldc dX8_takes_10 wc_X8_163 <|
 T_ireturn (ty := .int) dX8_takes_12 rfl rfl (h11.2 z10)))))
theorem rX8_best_0 {X : Nat × (Nat → Int32)} {a1 : Int32} {a2 : Int32} {M : Mem} {Q : Option PV → Mem → Prop} (h : TT X kX6_isNone 0 [some (pR (6, 0, 0))] [] M (rI fun v2 M1 => (v2 = 0 → (a1 < 1 → Q (some (pI (-1000001))) M1) ∧ (¬ a1 < 1 → (31 < a1 → Q (some (pI (-1000001))) M1) ∧ (¬ 31 < a1 → (a2 < 0 → Q (some (pI (-1000001))) M1) ∧ (¬ a2 < 0 → (a2 ≤ 1 → TT X kX6_ownAny 0 [some (pR (6, 0, 0)), some (pI a1), none] [] M1 (rI fun v4 M3 => (¬ v4 = 0 → TT X kX6_takeOver 0 [some (pR (6, 2, 0)), some (pR (6, 0, 0)), none] [] M3 (rV fun M5 => TT X kX3_seek 0 [some (pR (3, 0, 0)), some (pR (6, 2, 0)), some (pI a1), none, none] [] M5 (rV fun M7 => (¬ a2 = 0 → TT X kX3_bestTaken 0 [some (pR (3, 0, 0))] [] M7 (rI fun v10 M9 => TT X kX3_taken 0 [some (pR (3, 0, 0)), some (pR (6, 0, 0)), some (pI a1), none, none, none] [] M9 (rI fun v12 M11 => Q (some (pI (if 0 < (v10 - v12) then (v10 - v12) else 0))) M11))) ∧ (a2 = 0 → TT X kX3_bestAsking 0 [some (pR (3, 0, 0))] [] M7 (rI fun v16 M15 => Q (some (pI v16)) M15))))) ∧ (v4 = 0 → Q (some (pI (-1000000))) M3))) ∧ (¬ a2 ≤ 1 → Q (some (pI (-1000001))) M1))))) ∧ (¬ v2 = 0 → Q (some (pI (-1000002))) M1))) : TT X kX8_best 0 [some (pR (8, 0, 0)), some (pI a1), some (pI a2)] [] M Q :=
 T_aload_n dX8_best_0 rfl <|
 T_getR (C := RX8) (T := TX8) (N := 13) (f := 2) dX8_best_1 c_8_0_0 rfl (by decide) wf_X8_26 rfl <|
 T_callVi (k' := kX6_isNone) (vs := []) (st := []) dX8_best_4 wm_X8_205 okX6_isNone rfl c_6_0_0 rfl rfl rfl (Nat.le_of_ble_eq_true rfl) rfl (Nat.le_of_ble_eq_true rfl) (TT.mono h (rI_mono (fun v2 M1 h28 =>
 T_if_eq (tgt := 13) dX8_best_7 (by decide) (fun z27 =>
 T_iload_n dX8_best_13 rfl <|
 T_iconst dX8_best_14 ic_1 <|
 T_icmp_lt (tgt := 33) dX8_best_15 (by decide) (fun z26 =>
 T_ldc dX8_best_33 wc_X8_86 <|
 T_ireturn (ty := .int) dX8_best_35 rfl rfl ((h28.1 z27).1 z26)) (fun z26 =>
 T_iload_n dX8_best_18 rfl <|
 T_bipush dX8_best_19 bp_31 <|
 T_icmp_gt (tgt := 33) dX8_best_21 (by decide) (fun z25 =>
 T_ldc dX8_best_33 wc_X8_86 <|
 T_ireturn (ty := .int) dX8_best_35 rfl rfl (((h28.1 z27).2 z26).1 z25)) (fun z25 =>
 T_iload_n dX8_best_24 rfl <|
 T_if_lt (tgt := 33) dX8_best_25 (by decide) (fun z24 =>
 T_ldc dX8_best_33 wc_X8_86 <|
 T_ireturn (ty := .int) dX8_best_35 rfl rfl ((((h28.1 z27).2 z26).2 z25).1 z24)) (fun z24 =>
 T_iload_n dX8_best_28 rfl <|
 T_iconst dX8_best_29 ic_1 <|
 T_icmp_le (tgt := 36) dX8_best_30 (by decide) (fun z23 =>
 T_aload_n dX8_best_36 rfl <|
 T_getR (C := RX8) (T := TX8) (N := 13) (f := 2) dX8_best_37 c_8_0_0 rfl (by decide) wf_X8_26 rfl <|
 T_iload_n dX8_best_40 rfl <|
 T_callVi (k' := kX6_ownAny) (vs := [pI a1]) (st := []) dX8_best_41 wm_X8_211 okX6_ownAny rfl c_6_0_0 rfl rfl rfl (Nat.le_of_ble_eq_true rfl) rfl (Nat.le_of_ble_eq_true rfl) (TT.mono (((((h28.1 z27).2 z26).2 z25).2 z24).1 z23) (rI_mono (fun v4 M3 h22 =>
 T_if_ne (tgt := 50) dX8_best_44 (by decide) (fun z21 =>
 T_aload_n dX8_best_50 rfl <|
 T_getR (C := RX8) (T := TX8) (N := 13) (f := 4) dX8_best_51 c_8_0_0 rfl (by decide) wf_X8_33 rfl <|
 T_aload_n dX8_best_54 rfl <|
 T_getR (C := RX8) (T := TX8) (N := 13) (f := 2) dX8_best_55 c_8_0_0 rfl (by decide) wf_X8_26 rfl <|
 T_callVv (k' := kX6_takeOver) (vs := [pR (6, 0, 0)]) (st := []) dX8_best_58 wm_X8_214 okX6_takeOver rfl c_6_2_0 rfl rfl rfl (Nat.le_of_ble_eq_true rfl) rfl (Nat.le_of_ble_eq_true rfl) (TT.mono (h22.1 z21) (rV_mono (fun M5 h20 =>
 T_aload_n dX8_best_61 rfl <|
 T_getR (C := RX8) (T := TX8) (N := 13) (f := 8) dX8_best_62 c_8_0_0 rfl (by decide) wf_X8_57 rfl <|
 T_aload_n dX8_best_65 rfl <|
 T_getR (C := RX8) (T := TX8) (N := 13) (f := 4) dX8_best_66 c_8_0_0 rfl (by decide) wf_X8_33 rfl <|
 T_iload_n dX8_best_69 rfl <|
 T_callVv (k' := kX3_seek) (vs := [pR (6, 2, 0), pI a1]) (st := []) dX8_best_70 wm_X8_217 okX3_seek rfl c_3_0_0 rfl rfl rfl (Nat.le_of_ble_eq_true rfl) rfl (Nat.le_of_ble_eq_true rfl) (TT.mono h20 (rV_mono (fun M7 h19 =>
 T_iload_n dX8_best_73 rfl <|
 T_if_ne (tgt := 85) dX8_best_74 (by decide) (fun z18 =>
 T_iconst dX8_best_85 ic_0 <|
 T_aload_n dX8_best_86 rfl <|
 T_getR (C := RX8) (T := TX8) (N := 13) (f := 8) dX8_best_87 c_8_0_0 rfl (by decide) wf_X8_57 rfl <|
 T_callVi (k' := kX3_bestTaken) (vs := []) (st := [pI 0]) dX8_best_90 wm_X8_223 okX3_bestTaken rfl c_3_0_0 rfl rfl rfl (Nat.le_of_ble_eq_true rfl) rfl (Nat.le_of_ble_eq_true rfl) (TT.mono (h19.1 z18) (rI_mono (fun v10 M9 h14 =>
 T_aload_n dX8_best_93 rfl <|
 T_getR (C := RX8) (T := TX8) (N := 13) (f := 8) dX8_best_94 c_8_0_0 rfl (by decide) wf_X8_57 rfl <|
 T_aload_n dX8_best_97 rfl <|
 T_getR (C := RX8) (T := TX8) (N := 13) (f := 2) dX8_best_98 c_8_0_0 rfl (by decide) wf_X8_26 rfl <|
 T_iload_n dX8_best_101 rfl <|
 T_callVi (k' := kX3_taken) (vs := [pR (6, 0, 0), pI a1]) (st := [pI v10, pI 0]) dX8_best_102 wm_X8_208 okX3_taken rfl c_3_0_0 rfl rfl rfl (Nat.le_of_ble_eq_true rfl) rfl (Nat.le_of_ble_eq_true rfl) (TT.mono h14 (rI_mono (fun v12 M11 h13 =>
 T_isub dX8_best_105 <|
 T_max dX8_best_106 wm_X8_226 ⟨Nat.le_of_ble_eq_true rfl, Nat.le_of_ble_eq_true rfl⟩ <|
 T_ireturn (ty := .int) dX8_best_109 rfl rfl h13))))))) (fun z18 =>
 T_aload_n dX8_best_77 rfl <|
 T_getR (C := RX8) (T := TX8) (N := 13) (f := 8) dX8_best_78 c_8_0_0 rfl (by decide) wf_X8_57 rfl <|
 T_callVi (k' := kX3_bestAsking) (vs := []) (st := []) dX8_best_81 wm_X8_220 okX3_bestAsking rfl c_3_0_0 rfl rfl rfl (Nat.le_of_ble_eq_true rfl) rfl (Nat.le_of_ble_eq_true rfl) (TT.mono (h19.2 z18) (rI_mono (fun v16 M15 h17 =>
 T_ireturn (ty := .int) dX8_best_84 rfl rfl h17))))))))))) (fun z21 =>
 T_ldc dX8_best_47 wc_X8_198 <|
 T_ireturn (ty := .int) dX8_best_49 rfl rfl (h22.2 z21)))))) (fun z23 =>
 T_ldc dX8_best_33 wc_X8_86 <|
 T_ireturn (ty := .int) dX8_best_35 rfl rfl (((((h28.1 z27).2 z26).2 z25).2 z24).2 z23)))))) (fun z27 =>
 T_ldc dX8_best_10 wc_X8_163 <|
 T_ireturn (ty := .int) dX8_best_12 rfl rfl (h28.2 z27)))))
theorem rX8_turnsOf_0 {X : Nat × (Nat → Int32)} {a1 : Int32} {M : Mem} {Q : Option PV → Mem → Prop} (h : TT X kX6_isNone 0 [some (pR (6, 0, 0))] [] M (rI fun v2 M1 => (v2 = 0 → (a1 = (-1) → TT X kX7_play 0 [some (pR (7, 0, 0)), some (pR (6, 0, 0)), some (pR (6, 2, 0)), some (pR (3, 0, 0)), none] [] M1 (rV fun M3 => (¬ a1 = (-1) → TT X kX7_askedBehind 0 [some (pR (7, 0, 0)), some (pI a1)] [] M3 (rI fun v6 M5 => Q (some (pI v6)) M5)) ∧ (a1 = (-1) → TT X kX7_rounds 0 [some (pR (7, 0, 0))] [] M3 (rI fun v9 M8 => Q (some (pI v9)) M8)))) ∧ (¬ a1 = (-1) → TT X kX6_isOwner 0 [some (pI a1)] [] M1 (rI fun v14 M13 => (¬ v14 = 0 → TT X kX7_play 0 [some (pR (7, 0, 0)), some (pR (6, 0, 0)), some (pR (6, 2, 0)), some (pR (3, 0, 0)), none] [] M13 (rV fun M15 => (¬ a1 = (-1) → TT X kX7_askedBehind 0 [some (pR (7, 0, 0)), some (pI a1)] [] M15 (rI fun v18 M17 => Q (some (pI v18)) M17)) ∧ (a1 = (-1) → TT X kX7_rounds 0 [some (pR (7, 0, 0))] [] M15 (rI fun v21 M20 => Q (some (pI v21)) M20)))) ∧ (v14 = 0 → Q (some (pI (-1000001))) M13)))) ∧ (¬ v2 = 0 → Q (some (pI (-1000002))) M1))) : TT X kX8_turnsOf 0 [some (pR (8, 0, 0)), some (pI a1)] [] M Q :=
 T_aload_n dX8_turnsOf_0 rfl <|
 T_getR (C := RX8) (T := TX8) (N := 13) (f := 2) dX8_turnsOf_1 c_8_0_0 rfl (by decide) wf_X8_26 rfl <|
 T_callVi (k' := kX6_isNone) (vs := []) (st := []) dX8_turnsOf_4 wm_X8_205 okX6_isNone rfl c_6_0_0 rfl rfl rfl (Nat.le_of_ble_eq_true rfl) rfl (Nat.le_of_ble_eq_true rfl) (TT.mono h (rI_mono (fun v2 M1 h29 =>
 T_if_eq (tgt := 13) dX8_turnsOf_7 (by decide) (fun z28 =>
 T_iload_n dX8_turnsOf_13 rfl <|
 T_iconst dX8_turnsOf_14 ic_m1 <|
 T_icmp_eq (tgt := 28) dX8_turnsOf_15 (by decide) (fun z27 =>
 T_aload_n dX8_turnsOf_28 rfl <|
 T_getR (C := RX8) (T := TX8) (N := 13) (f := 9) dX8_turnsOf_29 c_8_0_0 rfl (by decide) wf_X8_64 rfl <|
 T_aload_n dX8_turnsOf_32 rfl <|
 T_getR (C := RX8) (T := TX8) (N := 13) (f := 2) dX8_turnsOf_33 c_8_0_0 rfl (by decide) wf_X8_26 rfl <|
 T_aload_n dX8_turnsOf_36 rfl <|
 T_getR (C := RX8) (T := TX8) (N := 13) (f := 4) dX8_turnsOf_37 c_8_0_0 rfl (by decide) wf_X8_33 rfl <|
 T_aload_n dX8_turnsOf_40 rfl <|
 T_getR (C := RX8) (T := TX8) (N := 13) (f := 8) dX8_turnsOf_41 c_8_0_0 rfl (by decide) wf_X8_57 rfl <|
 T_callVv (k' := kX7_play) (vs := [pR (6, 0, 0), pR (6, 2, 0), pR (3, 0, 0)]) (st := []) dX8_turnsOf_44 wm_X8_232 okX7_play rfl c_7_0_0 rfl rfl rfl (Nat.le_of_ble_eq_true rfl) rfl (Nat.le_of_ble_eq_true rfl) (TT.mono ((h29.1 z28).1 z27) (rV_mono (fun M3 h12 =>
 T_iload_n dX8_turnsOf_47 rfl <|
 T_iconst dX8_turnsOf_48 ic_m1 <|
 T_icmp_ne (tgt := 62) dX8_turnsOf_49 (by decide) (fun z11 =>
 T_aload_n dX8_turnsOf_62 rfl <|
 T_getR (C := RX8) (T := TX8) (N := 13) (f := 9) dX8_turnsOf_63 c_8_0_0 rfl (by decide) wf_X8_64 rfl <|
 T_iload_n dX8_turnsOf_66 rfl <|
 T_callVi (k' := kX7_askedBehind) (vs := [pI a1]) (st := []) dX8_turnsOf_67 wm_X8_239 okX7_askedBehind rfl c_7_0_0 rfl rfl rfl (Nat.le_of_ble_eq_true rfl) rfl (Nat.le_of_ble_eq_true rfl) (TT.mono (h12.1 z11) (rI_mono (fun v6 M5 h7 =>
 T_ireturn (ty := .int) dX8_turnsOf_70 rfl rfl h7)))) (fun z11 =>
 T_aload_n dX8_turnsOf_52 rfl <|
 T_getR (C := RX8) (T := TX8) (N := 13) (f := 9) dX8_turnsOf_53 c_8_0_0 rfl (by decide) wf_X8_64 rfl <|
 T_callVi (k' := kX7_rounds) (vs := []) (st := []) dX8_turnsOf_56 wm_X8_236 okX7_rounds rfl c_7_0_0 rfl rfl rfl (Nat.le_of_ble_eq_true rfl) rfl (Nat.le_of_ble_eq_true rfl) (TT.mono (h12.2 z11) (rI_mono (fun v9 M8 h10 =>
 T_goto (tgt := 70) dX8_turnsOf_59 (by decide) <|
 T_ireturn (ty := .int) dX8_turnsOf_70 rfl rfl h10)))))))) (fun z27 =>
 T_iload_n dX8_turnsOf_18 rfl <|
 T_callSi (k' := kX6_isOwner) (vs := [pI a1]) (st := []) dX8_turnsOf_19 wm_X8_153 okX6_isOwner rfl rfl rfl (Nat.le_of_ble_eq_true rfl) rfl (Nat.le_of_ble_eq_true rfl) (TT.mono ((h29.1 z28).2 z27) (rI_mono (fun v14 M13 h26 =>
 T_if_ne (tgt := 28) dX8_turnsOf_22 (by decide) (fun z25 =>
 T_aload_n dX8_turnsOf_28 rfl <|
 T_getR (C := RX8) (T := TX8) (N := 13) (f := 9) dX8_turnsOf_29 c_8_0_0 rfl (by decide) wf_X8_64 rfl <|
 T_aload_n dX8_turnsOf_32 rfl <|
 T_getR (C := RX8) (T := TX8) (N := 13) (f := 2) dX8_turnsOf_33 c_8_0_0 rfl (by decide) wf_X8_26 rfl <|
 T_aload_n dX8_turnsOf_36 rfl <|
 T_getR (C := RX8) (T := TX8) (N := 13) (f := 4) dX8_turnsOf_37 c_8_0_0 rfl (by decide) wf_X8_33 rfl <|
 T_aload_n dX8_turnsOf_40 rfl <|
 T_getR (C := RX8) (T := TX8) (N := 13) (f := 8) dX8_turnsOf_41 c_8_0_0 rfl (by decide) wf_X8_57 rfl <|
 T_callVv (k' := kX7_play) (vs := [pR (6, 0, 0), pR (6, 2, 0), pR (3, 0, 0)]) (st := []) dX8_turnsOf_44 wm_X8_232 okX7_play rfl c_7_0_0 rfl rfl rfl (Nat.le_of_ble_eq_true rfl) rfl (Nat.le_of_ble_eq_true rfl) (TT.mono (h26.1 z25) (rV_mono (fun M15 h24 =>
 T_iload_n dX8_turnsOf_47 rfl <|
 T_iconst dX8_turnsOf_48 ic_m1 <|
 T_icmp_ne (tgt := 62) dX8_turnsOf_49 (by decide) (fun z23 =>
 T_aload_n dX8_turnsOf_62 rfl <|
 T_getR (C := RX8) (T := TX8) (N := 13) (f := 9) dX8_turnsOf_63 c_8_0_0 rfl (by decide) wf_X8_64 rfl <|
 T_iload_n dX8_turnsOf_66 rfl <|
 T_callVi (k' := kX7_askedBehind) (vs := [pI a1]) (st := []) dX8_turnsOf_67 wm_X8_239 okX7_askedBehind rfl c_7_0_0 rfl rfl rfl (Nat.le_of_ble_eq_true rfl) rfl (Nat.le_of_ble_eq_true rfl) (TT.mono (h24.1 z23) (rI_mono (fun v18 M17 h19 =>
 T_ireturn (ty := .int) dX8_turnsOf_70 rfl rfl h19)))) (fun z23 =>
 T_aload_n dX8_turnsOf_52 rfl <|
 T_getR (C := RX8) (T := TX8) (N := 13) (f := 9) dX8_turnsOf_53 c_8_0_0 rfl (by decide) wf_X8_64 rfl <|
 T_callVi (k' := kX7_rounds) (vs := []) (st := []) dX8_turnsOf_56 wm_X8_236 okX7_rounds rfl c_7_0_0 rfl rfl rfl (Nat.le_of_ble_eq_true rfl) rfl (Nat.le_of_ble_eq_true rfl) (TT.mono (h24.2 z23) (rI_mono (fun v21 M20 h22 =>
 T_goto (tgt := 70) dX8_turnsOf_59 (by decide) <|
 T_ireturn (ty := .int) dX8_turnsOf_70 rfl rfl h22)))))))) (fun z25 =>
 T_ldc dX8_turnsOf_25 wc_X8_86 <|
 T_ireturn (ty := .int) dX8_turnsOf_27 rfl rfl (h26.2 z25))))))) (fun z28 =>
 T_ldc dX8_turnsOf_10 wc_X8_163 <|
 T_ireturn (ty := .int) dX8_turnsOf_12 rfl rfl (h29.2 z28)))))
theorem rX8_shares_0 {X : Nat × (Nat → Int32)} {a1 : Int32} {a2 : Int32} {a3 : Int32} {a4 : Int32} {M : Mem} {Q : Option PV → Mem → Prop} (h : TT X kX6_isNone 0 [some (pR (6, 0, 0))] [] M (rI fun v2 M1 => (v2 = 0 → TT X kX6_isOwner 0 [some (pI a1)] [] M1 (rI fun v4 M3 => (v4 = 0 → Q (some (pI (-1000001))) M3) ∧ (¬ v4 = 0 → TT X kX6_isOwner 0 [some (pI a2)] [] M3 (rI fun v6 M5 => (v6 = 0 → Q (some (pI (-1000001))) M5) ∧ (¬ v6 = 0 → TT X kX6_isOwner 0 [some (pI a3)] [] M5 (rI fun v8 M7 => (v8 = 0 → Q (some (pI (-1000001))) M7) ∧ (¬ v8 = 0 → (a1 = a2 → Q (some (pI (-1000001))) M7) ∧ (¬ a1 = a2 → (a1 = a3 → Q (some (pI (-1000001))) M7) ∧ (¬ a1 = a3 → (a2 = a3 → Q (some (pI (-1000001))) M7) ∧ (¬ a2 = a3 → (a4 < 0 → Q (some (pI (-1000001))) M7) ∧ (¬ a4 < 0 → (a4 ≤ 2 → TT X kX8_shareOf 0 [some (pR (8, 0, 0)), some (pI (1 <<< (a1 &&& 31))), some (pI (1 <<< (a2 &&& 31))), some (pI (1 <<< (a3 &&& 31))), some (pI a4), none, none, none, none, none, none] [] M7 (rI fun v10 M9 => Q (some (pI v10)) M9)) ∧ (¬ a4 ≤ 2 → Q (some (pI (-1000001))) M7)))))))))))) ∧ (¬ v2 = 0 → Q (some (pI (-1000002))) M1))) : TT X kX8_shares 0 [some (pR (8, 0, 0)), some (pI a1), some (pI a2), some (pI a3), some (pI a4)] [] M Q :=
 T_aload_n dX8_shares_0 rfl <|
 T_getR (C := RX8) (T := TX8) (N := 13) (f := 2) dX8_shares_1 c_8_0_0 rfl (by decide) wf_X8_26 rfl <|
 T_callVi (k' := kX6_isNone) (vs := []) (st := []) dX8_shares_4 wm_X8_205 okX6_isNone rfl c_6_0_0 rfl rfl rfl (Nat.le_of_ble_eq_true rfl) rfl (Nat.le_of_ble_eq_true rfl) (TT.mono h (rI_mono (fun v2 M1 h24 =>
 T_if_eq (tgt := 13) dX8_shares_7 (by decide) (fun z23 =>
 T_iload_n dX8_shares_13 rfl <|
 T_callSi (k' := kX6_isOwner) (vs := [pI a1]) (st := []) dX8_shares_14 wm_X8_153 okX6_isOwner rfl rfl rfl (Nat.le_of_ble_eq_true rfl) rfl (Nat.le_of_ble_eq_true rfl) (TT.mono (h24.1 z23) (rI_mono (fun v4 M3 h22 =>
 T_if_eq (tgt := 60) dX8_shares_17 (by decide) (fun z21 =>
 T_ldc dX8_shares_60 wc_X8_86 <|
 T_ireturn (ty := .int) dX8_shares_62 rfl rfl (h22.1 z21)) (fun z21 =>
 T_iload_n dX8_shares_20 rfl <|
 T_callSi (k' := kX6_isOwner) (vs := [pI a2]) (st := []) dX8_shares_21 wm_X8_153 okX6_isOwner rfl rfl rfl (Nat.le_of_ble_eq_true rfl) rfl (Nat.le_of_ble_eq_true rfl) (TT.mono (h22.2 z21) (rI_mono (fun v6 M5 h20 =>
 T_if_eq (tgt := 60) dX8_shares_24 (by decide) (fun z19 =>
 T_ldc dX8_shares_60 wc_X8_86 <|
 T_ireturn (ty := .int) dX8_shares_62 rfl rfl (h20.1 z19)) (fun z19 =>
 T_iload_n dX8_shares_27 rfl <|
 T_callSi (k' := kX6_isOwner) (vs := [pI a3]) (st := []) dX8_shares_28 wm_X8_153 okX6_isOwner rfl rfl rfl (Nat.le_of_ble_eq_true rfl) rfl (Nat.le_of_ble_eq_true rfl) (TT.mono (h20.2 z19) (rI_mono (fun v8 M7 h18 =>
 T_if_eq (tgt := 60) dX8_shares_31 (by decide) (fun z17 =>
 T_ldc dX8_shares_60 wc_X8_86 <|
 T_ireturn (ty := .int) dX8_shares_62 rfl rfl (h18.1 z17)) (fun z17 =>
 T_iload_n dX8_shares_34 rfl <|
 T_iload_n dX8_shares_35 rfl <|
 T_icmp_eq (tgt := 60) dX8_shares_36 (by decide) (fun z16 =>
 T_ldc dX8_shares_60 wc_X8_86 <|
 T_ireturn (ty := .int) dX8_shares_62 rfl rfl ((h18.2 z17).1 z16)) (fun z16 =>
 T_iload_n dX8_shares_39 rfl <|
 T_iload_n dX8_shares_40 rfl <|
 T_icmp_eq (tgt := 60) dX8_shares_41 (by decide) (fun z15 =>
 T_ldc dX8_shares_60 wc_X8_86 <|
 T_ireturn (ty := .int) dX8_shares_62 rfl rfl (((h18.2 z17).2 z16).1 z15)) (fun z15 =>
 T_iload_n dX8_shares_44 rfl <|
 T_iload_n dX8_shares_45 rfl <|
 T_icmp_eq (tgt := 60) dX8_shares_46 (by decide) (fun z14 =>
 T_ldc dX8_shares_60 wc_X8_86 <|
 T_ireturn (ty := .int) dX8_shares_62 rfl rfl ((((h18.2 z17).2 z16).2 z15).1 z14)) (fun z14 =>
 T_iload dX8_shares_49 rfl <|
 T_if_lt (tgt := 60) dX8_shares_51 (by decide) (fun z13 =>
 T_ldc dX8_shares_60 wc_X8_86 <|
 T_ireturn (ty := .int) dX8_shares_62 rfl rfl (((((h18.2 z17).2 z16).2 z15).2 z14).1 z13)) (fun z13 =>
 T_iload dX8_shares_54 rfl <|
 T_iconst dX8_shares_56 ic_2 <|
 T_icmp_le (tgt := 63) dX8_shares_57 (by decide) (fun z12 =>
 T_aload_n dX8_shares_63 rfl <|
 T_iconst dX8_shares_64 ic_1 <|
 T_iload_n dX8_shares_65 rfl <|
 T_ishl dX8_shares_66 <|
 T_iconst dX8_shares_67 ic_1 <|
 T_iload_n dX8_shares_68 rfl <|
 T_ishl dX8_shares_69 <|
 T_iconst dX8_shares_70 ic_1 <|
 T_iload_n dX8_shares_71 rfl <|
 T_ishl dX8_shares_72 <|
 T_iload dX8_shares_73 rfl <|
 T_callVi (k' := kX8_shareOf) (vs := [pI (1 <<< (a1 &&& 31)), pI (1 <<< (a2 &&& 31)), pI (1 <<< (a3 &&& 31)), pI a4]) (st := []) dX8_shares_75 wm_X8_242 okX8_shareOf rfl c_8_0_0 rfl rfl rfl (Nat.le_of_ble_eq_true rfl) rfl (Nat.le_of_ble_eq_true rfl) (TT.mono ((((((h18.2 z17).2 z16).2 z15).2 z14).2 z13).1 z12) (rI_mono (fun v10 M9 h11 =>
 T_ireturn (ty := .int) dX8_shares_78 rfl rfl h11)))) (fun z12 =>
 T_ldc dX8_shares_60 wc_X8_86 <|
 T_ireturn (ty := .int) dX8_shares_62 rfl rfl ((((((h18.2 z17).2 z16).2 z15).2 z14).2 z13).2 z12))))))))))))))))))) (fun z23 =>
 T_ldc dX8_shares_10 wc_X8_163 <|
 T_ireturn (ty := .int) dX8_shares_12 rfl rfl (h24.2 z23)))))
theorem rX8_planks_0 {X : Nat × (Nat → Int32)} {a1 : Int32} {M : Mem} {Q : Option PV → Mem → Prop} (h : TT X kX6_hasWalker 0 [some (pR (6, 0, 0)), some (pI a1)] [] M (rI fun v2 M1 => (¬ v2 = 0 → TT X kX6_takeOver 0 [some (pR (6, 2, 0)), some (pR (6, 0, 0)), none] [] M1 (rV fun M3 => TT X kX6_askOneAtMost 0 [some (pR (6, 2, 0)), none] [] M3 (rV fun M5 => vp_in a1 6 ∧ (TT X kX2_find 0 [some (pR (2, 0, 0)), some (pR (6, 2, 0)), some (pI (M5 6 2 6 (Int32.toNatClampNeg a1))), none, none] [] M5 (rV fun M7 => TT X kX2_isThere 0 [some (pR (2, 0, 0))] [] M7 (rI fun v10 M9 => (v10 = 0 → Q (some (pI (-1000000))) M9) ∧ (¬ v10 = 0 → TT X kX2_askedInAll 0 [some (pR (2, 0, 0))] [] M9 (rI fun v12 M11 => Q (some (pI v12)) M11)))))))) ∧ (v2 = 0 → Q (some (pI (-1000001))) M1))) : TT X kX8_planks 0 [some (pR (8, 0, 0)), some (pI a1)] [] M Q :=
 T_aload_n dX8_planks_0 rfl <|
 T_getR (C := RX8) (T := TX8) (N := 13) (f := 2) dX8_planks_1 c_8_0_0 rfl (by decide) wf_X8_26 rfl <|
 T_iload_n dX8_planks_4 rfl <|
 T_callVi (k' := kX6_hasWalker) (vs := [pI a1]) (st := []) dX8_planks_5 wm_X8_176 okX6_hasWalker rfl c_6_0_0 rfl rfl rfl (Nat.le_of_ble_eq_true rfl) rfl (Nat.le_of_ble_eq_true rfl) (TT.mono h (rI_mono (fun v2 M1 h20 =>
 T_if_ne (tgt := 14) dX8_planks_8 (by decide) (fun z19 =>
 T_aload_n dX8_planks_14 rfl <|
 T_getR (C := RX8) (T := TX8) (N := 13) (f := 4) dX8_planks_15 c_8_0_0 rfl (by decide) wf_X8_33 rfl <|
 T_aload_n dX8_planks_18 rfl <|
 T_getR (C := RX8) (T := TX8) (N := 13) (f := 2) dX8_planks_19 c_8_0_0 rfl (by decide) wf_X8_26 rfl <|
 T_callVv (k' := kX6_takeOver) (vs := [pR (6, 0, 0)]) (st := []) dX8_planks_22 wm_X8_214 okX6_takeOver rfl c_6_2_0 rfl rfl rfl (Nat.le_of_ble_eq_true rfl) rfl (Nat.le_of_ble_eq_true rfl) (TT.mono (h20.1 z19) (rV_mono (fun M3 h18 =>
 T_aload_n dX8_planks_25 rfl <|
 T_getR (C := RX8) (T := TX8) (N := 13) (f := 4) dX8_planks_26 c_8_0_0 rfl (by decide) wf_X8_33 rfl <|
 T_callVv (k' := kX6_askOneAtMost) (vs := []) (st := []) dX8_planks_29 wm_X8_246 okX6_askOneAtMost rfl c_6_2_0 rfl rfl rfl (Nat.le_of_ble_eq_true rfl) rfl (Nat.le_of_ble_eq_true rfl) (TT.mono h18 (rV_mono (fun M5 h17 =>
 T_aload_n dX8_planks_32 rfl <|
 T_getR (C := RX8) (T := TX8) (N := 13) (f := 7) dX8_planks_33 c_8_0_0 rfl (by decide) wf_X8_50 rfl <|
 T_aload_n dX8_planks_36 rfl <|
 T_getR (C := RX8) (T := TX8) (N := 13) (f := 4) dX8_planks_37 c_8_0_0 rfl (by decide) wf_X8_33 rfl <|
 T_aload_n dX8_planks_40 rfl <|
 T_getR (C := RX8) (T := TX8) (N := 13) (f := 4) dX8_planks_41 c_8_0_0 rfl (by decide) wf_X8_33 rfl <|
 T_getR (C := RX6) (T := TX6) (N := 9) (f := 5) dX8_planks_44 c_6_2_0 rfl (by decide) wf_X8_179 rfl <|
 T_iload_n dX8_planks_47 rfl <|
 T_iald (n := 6) dX8_planks_48 c_6_2_6 (by decide) (by decide) (by decide) rfl h17.1 <|
 T_callVv (k' := kX2_find) (vs := [pR (6, 2, 0), pI (M5 6 2 6 (Int32.toNatClampNeg a1))]) (st := []) dX8_planks_49 wm_X8_182 okX2_find rfl c_2_0_0 rfl rfl rfl (Nat.le_of_ble_eq_true rfl) rfl (Nat.le_of_ble_eq_true rfl) (TT.mono h17.2 (rV_mono (fun M7 h16 =>
 T_aload_n dX8_planks_52 rfl <|
 T_getR (C := RX8) (T := TX8) (N := 13) (f := 7) dX8_planks_53 c_8_0_0 rfl (by decide) wf_X8_50 rfl <|
 T_callVi (k' := kX2_isThere) (vs := []) (st := []) dX8_planks_56 wm_X8_190 okX2_isThere rfl c_2_0_0 rfl rfl rfl (Nat.le_of_ble_eq_true rfl) rfl (Nat.le_of_ble_eq_true rfl) (TT.mono h16 (rI_mono (fun v10 M9 h15 =>
 T_if_eq (tgt := 72) dX8_planks_59 (by decide) (fun z14 =>
 T_ldc dX8_planks_72 wc_X8_198 <|
 T_ireturn (ty := .int) dX8_planks_74 rfl rfl (h15.1 z14)) (fun z14 =>
 T_aload_n dX8_planks_62 rfl <|
 T_getR (C := RX8) (T := TX8) (N := 13) (f := 7) dX8_planks_63 c_8_0_0 rfl (by decide) wf_X8_50 rfl <|
 T_callVi (k' := kX2_askedInAll) (vs := []) (st := []) dX8_planks_66 wm_X8_249 okX2_askedInAll rfl c_2_0_0 rfl rfl rfl (Nat.le_of_ble_eq_true rfl) rfl (Nat.le_of_ble_eq_true rfl) (TT.mono (h15.2 z14) (rI_mono (fun v12 M11 h13 =>
 T_goto (tgt := 74) dX8_planks_69 (by decide) <|
 T_ireturn (ty := .int) dX8_planks_74 rfl rfl h13))))))))))))))))) (fun z19 =>
 T_ldc dX8_planks_11 wc_X8_86 <|
 T_ireturn (ty := .int) dX8_planks_13 rfl rfl (h20.2 z19)))))
theorem rX8_mean_0 {X : Nat × (Nat → Int32)} {a1 : Int32} {a2 : Int32} {M : Mem} {Q : Option PV → Mem → Prop} (h : TT X kX6_isNone 0 [some (pR (6, 0, 0))] [] M (rI fun v2 M1 => (v2 = 0 → TT X kX6_isOwner 0 [some (pI a1)] [] M1 (rI fun v4 M3 => (v4 = 0 → Q (some (pI (-1000001))) M3) ∧ (¬ v4 = 0 → (a2 < 0 → Q (some (pI (-1000001))) M3) ∧ (¬ a2 < 0 → (a2 ≤ 1 → TT X kX6_allFolk 0 [some (pR (6, 0, 0)), none, none] [] M3 (rI fun v6 M5 => (1 ≤ v6 → TT X kX3_taken 0 [some (pR (3, 0, 0)), some (pR (6, 0, 0)), some (pI (1 <<< (a1 &&& 31))), none, none, none] [] M5 (rI fun v8 M7 => TT X kX8_commonDivisor 0 [some (pI v8), some (pI v6), none, none, none, none] [] M7 (rI fun v10 M9 => (1 ≤ v10 → (¬ a2 = 0 → ¬ v10 = 0 ∧ (Q (some (pI (v6 / v10))) M9)) ∧ (a2 = 0 → ¬ v10 = 0 ∧ (Q (some (pI (v8 / v10))) M9))) ∧ (¬ 1 ≤ v10 → Q (some (pI (-1000000))) M9)))) ∧ (¬ 1 ≤ v6 → Q (some (pI (-1000000))) M5))) ∧ (¬ a2 ≤ 1 → Q (some (pI (-1000001))) M3))))) ∧ (¬ v2 = 0 → Q (some (pI (-1000002))) M1))) : TT X kX8_mean 0 [some (pR (8, 0, 0)), some (pI a1), some (pI a2), none, none, none] [] M Q :=
 T_aload_n dX8_mean_0 rfl <|
 T_getR (C := RX8) (T := TX8) (N := 13) (f := 2) dX8_mean_1 c_8_0_0 rfl (by decide) wf_X8_26 rfl <|
 T_callVi (k' := kX6_isNone) (vs := []) (st := []) dX8_mean_4 wm_X8_205 okX6_isNone rfl c_6_0_0 rfl rfl rfl (Nat.le_of_ble_eq_true rfl) rfl (Nat.le_of_ble_eq_true rfl) (TT.mono h (rI_mono (fun v2 M1 h22 =>
 T_if_eq (tgt := 13) dX8_mean_7 (by decide) (fun z21 =>
 T_iload_n dX8_mean_13 rfl <|
 T_callSi (k' := kX6_isOwner) (vs := [pI a1]) (st := []) dX8_mean_14 wm_X8_153 okX6_isOwner rfl rfl rfl (Nat.le_of_ble_eq_true rfl) rfl (Nat.le_of_ble_eq_true rfl) (TT.mono (h22.1 z21) (rI_mono (fun v4 M3 h20 =>
 T_if_eq (tgt := 29) dX8_mean_17 (by decide) (fun z19 =>
 T_ldc dX8_mean_29 wc_X8_86 <|
 T_ireturn (ty := .int) dX8_mean_31 rfl rfl (h20.1 z19)) (fun z19 =>
 T_iload_n dX8_mean_20 rfl <|
 T_if_lt (tgt := 29) dX8_mean_21 (by decide) (fun z18 =>
 T_ldc dX8_mean_29 wc_X8_86 <|
 T_ireturn (ty := .int) dX8_mean_31 rfl rfl ((h20.2 z19).1 z18)) (fun z18 =>
 T_iload_n dX8_mean_24 rfl <|
 T_iconst dX8_mean_25 ic_1 <|
 T_icmp_le (tgt := 32) dX8_mean_26 (by decide) (fun z17 =>
 T_aload_n dX8_mean_32 rfl <|
 T_getR (C := RX8) (T := TX8) (N := 13) (f := 2) dX8_mean_33 c_8_0_0 rfl (by decide) wf_X8_26 rfl <|
 T_callVi (k' := kX6_allFolk) (vs := []) (st := []) dX8_mean_36 wm_X8_252 okX6_allFolk rfl c_6_0_0 rfl rfl rfl (Nat.le_of_ble_eq_true rfl) rfl (Nat.le_of_ble_eq_true rfl) (TT.mono (((h20.2 z19).2 z18).1 z17) (rI_mono (fun v6 M5 h16 =>
 T_istore_n dX8_mean_39 (by decide) rfl rfl <|
 T_iload_n dX8_mean_40 rfl <|
 T_iconst dX8_mean_41 ic_1 <|
 T_icmp_ge (tgt := 48) dX8_mean_42 (by decide) (fun z15 =>
 T_aload_n dX8_mean_48 rfl <|
 T_getR (C := RX8) (T := TX8) (N := 13) (f := 8) dX8_mean_49 c_8_0_0 rfl (by decide) wf_X8_57 rfl <|
 T_aload_n dX8_mean_52 rfl <|
 T_getR (C := RX8) (T := TX8) (N := 13) (f := 2) dX8_mean_53 c_8_0_0 rfl (by decide) wf_X8_26 rfl <|
 T_iconst dX8_mean_56 ic_1 <|
 T_iload_n dX8_mean_57 rfl <|
 T_ishl dX8_mean_58 <|
 T_callVi (k' := kX3_taken) (vs := [pR (6, 0, 0), pI (1 <<< (a1 &&& 31))]) (st := []) dX8_mean_59 wm_X8_208 okX3_taken rfl c_3_0_0 rfl rfl rfl (Nat.le_of_ble_eq_true rfl) rfl (Nat.le_of_ble_eq_true rfl) (TT.mono (h16.1 z15) (rI_mono (fun v8 M7 h14 =>
 T_istore dX8_mean_62 (by decide) rfl rfl <|
 T_iload dX8_mean_64 rfl <|
 T_iload_n dX8_mean_66 rfl <|
 T_callSi (k' := kX8_commonDivisor) (vs := [pI v8, pI v6]) (st := []) dX8_mean_67 wm_X8_255 okX8_commonDivisor rfl rfl rfl (Nat.le_of_ble_eq_true rfl) rfl (Nat.le_of_ble_eq_true rfl) (TT.mono h14 (rI_mono (fun v10 M9 h13 =>
 T_istore dX8_mean_70 (by decide) rfl rfl <|
 T_iload dX8_mean_72 rfl <|
 T_iconst dX8_mean_74 ic_1 <|
 T_icmp_ge (tgt := 81) dX8_mean_75 (by decide) (fun z12 =>
 T_iload_n dX8_mean_81 rfl <|
 T_if_ne (tgt := 90) dX8_mean_82 (by decide) (fun z11 =>
 T_iload_n dX8_mean_90 rfl <|
 T_iload dX8_mean_91 rfl <|
 T_idiv dX8_mean_93 ((h13.1 z12).1 z11).1 <|
 T_ireturn (ty := .int) dX8_mean_94 rfl rfl ((h13.1 z12).1 z11).2) (fun z11 =>
 T_iload dX8_mean_85 rfl <|
 T_goto (tgt := 91) dX8_mean_87 (by decide) <|
 T_iload dX8_mean_91 rfl <|
 T_idiv dX8_mean_93 ((h13.1 z12).2 z11).1 <|
 T_ireturn (ty := .int) dX8_mean_94 rfl rfl ((h13.1 z12).2 z11).2)) (fun z12 =>
 T_ldc dX8_mean_78 wc_X8_198 <|
 T_ireturn (ty := .int) dX8_mean_80 rfl rfl (h13.2 z12))))))))) (fun z15 =>
 T_ldc dX8_mean_45 wc_X8_198 <|
 T_ireturn (ty := .int) dX8_mean_47 rfl rfl (h16.2 z15)))))) (fun z17 =>
 T_ldc dX8_mean_29 wc_X8_86 <|
 T_ireturn (ty := .int) dX8_mean_31 rfl rfl (((h20.2 z19).2 z18).2 z17)))))))) (fun z21 =>
 T_ldc dX8_mean_10 wc_X8_163 <|
 T_ireturn (ty := .int) dX8_mean_12 rfl rfl (h22.2 z21)))))
theorem rX8_asked_0 {X : Nat × (Nat → Int32)} {a1 : Int32} {a2 : Int32} {a3 : Int32} {a4 : Int32} {a5 : Int32} {a6 : Int32} {M : Mem} {Q : Option PV → Mem → Prop} (h : TT X kX6_hasWalker 0 [some (pR (6, 0, 0)), some (pI a1)] [] M (rI fun v2 M1 => (v2 = 0 → Q (some (pI (-1000001))) M1) ∧ (¬ v2 = 0 → TT X kX5_isNumber 0 [some (pR (5, 0, 0)), some (pI a2)] [] M1 (rI fun v4 M3 => (v4 = 0 → Q (some (pI (-1000001))) M3) ∧ (¬ v4 = 0 → (a3 < 1 → Q (some (pI (-1000001))) M3) ∧ (¬ a3 < 1 → (18 < a3 → Q (some (pI (-1000001))) M3) ∧ (¬ 18 < a3 → (a4 < 0 → Q (some (pI (-1000001))) M3) ∧ (¬ a4 < 0 → (a3 ≤ a4 → Q (some (pI (-1000001))) M3) ∧ (¬ a3 ≤ a4 → (a5 < 0 → Q (some (pI (-1000001))) M3) ∧ (¬ a5 < 0 → (9999 < a5 → Q (some (pI (-1000001))) M3) ∧ (¬ 9999 < a5 → (a6 < 0 → Q (some (pI (-1000001))) M3) ∧ (¬ a6 < 0 → (a6 ≤ 1 → TT X kX5_isMissing 0 [some (pR (5, 0, 0)), some (pI a2)] [] M3 (rI fun v6 M5 => (v6 = 0 → TT X kX5_sizeOf 0 [some (pR (5, 0, 0)), some (pI a2)] [] M5 (rI fun v8 M7 => (a3 ≤ v8 → TT X kX8_areRisingSteps 0 [some (pR (8, 0, 0)), some (pI a2), some (pI a3), none, none, none] [] M7 (rI fun v10 M9 => (¬ v10 = 0 → TT X kX8_askingsThatFit 0 [some (pR (8, 0, 0)), some (pI a1), some (pI a2), some (pI a3), some (pI a4), some (pI a5), some (pI a6), none, none, none, none] [] M9 (rI fun v12 M11 => TT X kX8_fine 0 [some (pR (8, 0, 0)), some (pI v12)] [] M11 (rI fun v14 M13 => Q (some (pI v14)) M13))) ∧ (v10 = 0 → Q (some (pI (-1000001))) M9))) ∧ (¬ a3 ≤ v8 → TT X kX8_found 0 [some (pR (8, 0, 0)), some (pI 2)] [] M7 (rI fun v20 M19 => Q (some (pI v20)) M19)))) ∧ (¬ v6 = 0 → TT X kX8_found 0 [some (pR (8, 0, 0)), some (pI 1)] [] M5 (rI fun v25 M24 => Q (some (pI v25)) M24)))) ∧ (¬ a6 ≤ 1 → Q (some (pI (-1000001))) M3))))))))))))) : TT X kX8_asked 0 [some (pR (8, 0, 0)), some (pI a1), some (pI a2), some (pI a3), some (pI a4), some (pI a5), some (pI a6)] [] M Q :=
 T_aload_n dX8_asked_0 rfl <|
 T_getR (C := RX8) (T := TX8) (N := 13) (f := 2) dX8_asked_1 c_8_0_0 rfl (by decide) wf_X8_26 rfl <|
 T_iload_n dX8_asked_4 rfl <|
 T_callVi (k' := kX6_hasWalker) (vs := [pI a1]) (st := []) dX8_asked_5 wm_X8_176 okX6_hasWalker rfl c_6_0_0 rfl rfl rfl (Nat.le_of_ble_eq_true rfl) rfl (Nat.le_of_ble_eq_true rfl) (TT.mono h (rI_mono (fun v2 M1 h40 =>
 T_if_eq (tgt := 68) dX8_asked_8 (by decide) (fun z39 =>
 T_ldc dX8_asked_68 wc_X8_86 <|
 T_ireturn (ty := .int) dX8_asked_70 rfl rfl (h40.1 z39)) (fun z39 =>
 T_aload_n dX8_asked_11 rfl <|
 T_getR (C := RX8) (T := TX8) (N := 13) (f := 0) dX8_asked_12 c_8_0_0 rfl (by decide) wf_X8_10 rfl <|
 T_iload_n dX8_asked_15 rfl <|
 T_callVi (k' := kX5_isNumber) (vs := [pI a2]) (st := []) dX8_asked_16 wm_X8_82 okX5_isNumber rfl c_5_0_0 rfl rfl rfl (Nat.le_of_ble_eq_true rfl) rfl (Nat.le_of_ble_eq_true rfl) (TT.mono (h40.2 z39) (rI_mono (fun v4 M3 h38 =>
 T_if_eq (tgt := 68) dX8_asked_19 (by decide) (fun z37 =>
 T_ldc dX8_asked_68 wc_X8_86 <|
 T_ireturn (ty := .int) dX8_asked_70 rfl rfl (h38.1 z37)) (fun z37 =>
 T_iload_n dX8_asked_22 rfl <|
 T_iconst dX8_asked_23 ic_1 <|
 T_icmp_lt (tgt := 68) dX8_asked_24 (by decide) (fun z36 =>
 T_ldc dX8_asked_68 wc_X8_86 <|
 T_ireturn (ty := .int) dX8_asked_70 rfl rfl ((h38.2 z37).1 z36)) (fun z36 =>
 T_iload_n dX8_asked_27 rfl <|
 T_bipush dX8_asked_28 bp_18 <|
 T_icmp_gt (tgt := 68) dX8_asked_30 (by decide) (fun z35 =>
 T_ldc dX8_asked_68 wc_X8_86 <|
 T_ireturn (ty := .int) dX8_asked_70 rfl rfl (((h38.2 z37).2 z36).1 z35)) (fun z35 =>
 T_iload dX8_asked_33 rfl <|
 T_if_lt (tgt := 68) dX8_asked_35 (by decide) (fun z34 =>
 T_ldc dX8_asked_68 wc_X8_86 <|
 T_ireturn (ty := .int) dX8_asked_70 rfl rfl ((((h38.2 z37).2 z36).2 z35).1 z34)) (fun z34 =>
 T_iload dX8_asked_38 rfl <|
 T_iload_n dX8_asked_40 rfl <|
 T_icmp_ge (tgt := 68) dX8_asked_41 (by decide) (fun z33 =>
 T_ldc dX8_asked_68 wc_X8_86 <|
 T_ireturn (ty := .int) dX8_asked_70 rfl rfl (((((h38.2 z37).2 z36).2 z35).2 z34).1 z33)) (fun z33 =>
 T_iload dX8_asked_44 rfl <|
 T_if_lt (tgt := 68) dX8_asked_46 (by decide) (fun z32 =>
 T_ldc dX8_asked_68 wc_X8_86 <|
 T_ireturn (ty := .int) dX8_asked_70 rfl rfl ((((((h38.2 z37).2 z36).2 z35).2 z34).2 z33).1 z32)) (fun z32 =>
 T_iload dX8_asked_49 rfl <|
 T_sipush dX8_asked_51 sp_9999 <|
 T_icmp_gt (tgt := 68) dX8_asked_54 (by decide) (fun z31 =>
 T_ldc dX8_asked_68 wc_X8_86 <|
 T_ireturn (ty := .int) dX8_asked_70 rfl rfl (((((((h38.2 z37).2 z36).2 z35).2 z34).2 z33).2 z32).1 z31)) (fun z31 =>
 T_iload dX8_asked_57 rfl <|
 T_if_lt (tgt := 68) dX8_asked_59 (by decide) (fun z30 =>
 T_ldc dX8_asked_68 wc_X8_86 <|
 T_ireturn (ty := .int) dX8_asked_70 rfl rfl ((((((((h38.2 z37).2 z36).2 z35).2 z34).2 z33).2 z32).2 z31).1 z30)) (fun z30 =>
 T_iload dX8_asked_62 rfl <|
 T_iconst dX8_asked_64 ic_1 <|
 T_icmp_le (tgt := 71) dX8_asked_65 (by decide) (fun z29 =>
 T_aload_n dX8_asked_71 rfl <|
 T_getR (C := RX8) (T := TX8) (N := 13) (f := 0) dX8_asked_72 c_8_0_0 rfl (by decide) wf_X8_10 rfl <|
 T_iload_n dX8_asked_75 rfl <|
 T_callVi (k' := kX5_isMissing) (vs := [pI a2]) (st := []) dX8_asked_76 wm_X8_98 okX5_isMissing rfl c_5_0_0 rfl rfl rfl (Nat.le_of_ble_eq_true rfl) rfl (Nat.le_of_ble_eq_true rfl) (TT.mono (((((((((h38.2 z37).2 z36).2 z35).2 z34).2 z33).2 z32).2 z31).2 z30).1 z29) (rI_mono (fun v6 M5 h28 =>
 T_if_eq (tgt := 88) dX8_asked_79 (by decide) (fun z27 =>
 T_iload_n dX8_asked_88 rfl <|
 T_aload_n dX8_asked_89 rfl <|
 T_getR (C := RX8) (T := TX8) (N := 13) (f := 0) dX8_asked_90 c_8_0_0 rfl (by decide) wf_X8_10 rfl <|
 T_iload_n dX8_asked_93 rfl <|
 T_callVi (k' := kX5_sizeOf) (vs := [pI a2]) (st := [pI a3]) dX8_asked_94 wm_X8_101 okX5_sizeOf rfl c_5_0_0 rfl rfl rfl (Nat.le_of_ble_eq_true rfl) rfl (Nat.le_of_ble_eq_true rfl) (TT.mono (h28.1 z27) (rI_mono (fun v8 M7 h23 =>
 T_icmp_le (tgt := 106) dX8_asked_97 (by decide) (fun z22 =>
 T_aload_n dX8_asked_106 rfl <|
 T_iload_n dX8_asked_107 rfl <|
 T_iload_n dX8_asked_108 rfl <|
 T_callVi (k' := kX8_areRisingSteps) (vs := [pI a2, pI a3]) (st := []) dX8_asked_109 wm_X8_258 okX8_areRisingSteps rfl c_8_0_0 rfl rfl rfl (Nat.le_of_ble_eq_true rfl) rfl (Nat.le_of_ble_eq_true rfl) (TT.mono (h23.1 z22) (rI_mono (fun v10 M9 h18 =>
 T_if_ne (tgt := 118) dX8_asked_112 (by decide) (fun z17 =>
 T_aload_n dX8_asked_118 rfl <|
 T_aload_n dX8_asked_119 rfl <|
 T_iload_n dX8_asked_120 rfl <|
 T_iload_n dX8_asked_121 rfl <|
 T_iload_n dX8_asked_122 rfl <|
 T_iload dX8_asked_123 rfl <|
 T_iload dX8_asked_125 rfl <|
 T_iload dX8_asked_127 rfl <|
 T_callVi (k' := kX8_askingsThatFit) (vs := [pI a1, pI a2, pI a3, pI a4, pI a5, pI a6]) (st := [pR (8, 0, 0)]) dX8_asked_129 wm_X8_262 okX8_askingsThatFit rfl c_8_0_0 rfl rfl rfl (Nat.le_of_ble_eq_true rfl) rfl (Nat.le_of_ble_eq_true rfl) (TT.mono (h18.1 z17) (rI_mono (fun v12 M11 h16 =>
 T_callVi (k' := kX8_fine) (vs := [pI v12]) (st := []) dX8_asked_132 wm_X8_95 okX8_fine rfl c_8_0_0 rfl rfl rfl (Nat.le_of_ble_eq_true rfl) rfl (Nat.le_of_ble_eq_true rfl) (TT.mono h16 (rI_mono (fun v14 M13 h15 =>
 T_ireturn (ty := .int) dX8_asked_135 rfl rfl h15))))))) (fun z17 =>
 T_ldc dX8_asked_115 wc_X8_86 <|
 T_ireturn (ty := .int) dX8_asked_117 rfl rfl (h18.2 z17)))))) (fun z22 =>
 T_aload_n dX8_asked_100 rfl <|
 T_iconst dX8_asked_101 ic_2 <|
 T_callVi (k' := kX8_found) (vs := [pI 2]) (st := []) dX8_asked_102 wm_X8_87 okX8_found rfl c_8_0_0 rfl rfl rfl (Nat.le_of_ble_eq_true rfl) rfl (Nat.le_of_ble_eq_true rfl) (TT.mono (h23.2 z22) (rI_mono (fun v20 M19 h21 =>
 T_ireturn (ty := .int) dX8_asked_105 rfl rfl h21)))))))) (fun z27 =>
 T_aload_n dX8_asked_82 rfl <|
 T_iconst dX8_asked_83 ic_1 <|
 T_callVi (k' := kX8_found) (vs := [pI 1]) (st := []) dX8_asked_84 wm_X8_87 okX8_found rfl c_8_0_0 rfl rfl rfl (Nat.le_of_ble_eq_true rfl) rfl (Nat.le_of_ble_eq_true rfl) (TT.mono (h28.2 z27) (rI_mono (fun v25 M24 h26 =>
 T_ireturn (ty := .int) dX8_asked_87 rfl rfl h26)))))))) (fun z29 =>
 T_ldc dX8_asked_68 wc_X8_86 <|
 T_ireturn (ty := .int) dX8_asked_70 rfl rfl (((((((((h38.2 z37).2 z36).2 z35).2 z34).2 z33).2 z32).2 z31).2 z30).2 z29)))))))))))))))))
