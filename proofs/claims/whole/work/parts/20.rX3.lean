theorem rX3_taken_0 {X : Nat × (Nat → Int32)} {j1 : Nat} (hj1 : j1 < 5) {a2 : Int32} {M : Mem} {Q : Option PV → Mem → Prop} (h : TT X kX3_taken 5 [some (pR (3, 0, 0)), some (pR (6, j1, 0)), some (pI a2), some (pI 0), some (pI 1), none] [] M Q) : TT X kX3_taken 0 [some (pR (3, 0, 0)), some (pR (6, j1, 0)), some (pI a2), none, none, none] [] M Q :=
 T_iconst dX3_taken_0 ic_0 <|
 T_istore_n dX3_taken_1 (by decide) rfl rfl <|
 T_iconst dX3_taken_2 ic_1 <|
 T_istore dX3_taken_3 (by decide) rfl rfl <|
 h
theorem rX3_taken_5 {X : Nat × (Nat → Int32)} {j1 : Nat} (hj1 : j1 < 5) {b2 : Int32} {b3 : Int32} {b4 : Int32} {M : Mem} {Q : Option PV → Mem → Prop} (h : (3 < b4 → Q (some (pI b3)) M) ∧ (¬ 3 < b4 → TT X kX6_hasReach 0 [some (pR (6, j1, 0)), some (pI b4), none] [] M (rI fun v2 M1 => (v2 = 0 → TT X kX3_taken 5 [some (pR (3, 0, 0)), some (pR (6, j1, 0)), some (pI b2), some (pI b3), some (pI (b4 + 1)), none] [] M1 Q) ∧ (¬ v2 = 0 → TT X kX2_find 0 [some (pR (2, 1, 0)), some (pR (6, j1, 0)), some (pI b4), none, none] [] M1 (rV fun M3 => TT X kX2_askedInAll 0 [some (pR (2, 1, 0))] [] M3 (rI fun v6 M5 => TT X kX6_unitsPaid 0 [some (pR (6, j1, 0)), some (pI b4), some (pI v6), none, none, none] [] M5 (rI fun v8 M7 => TT X kX2_isThere 0 [some (pR (2, 1, 0))] [] M7 (rI fun v10 M9 => (v10 = 0 → TT X kX3_taken 5 [some (pR (3, 0, 0)), some (pR (6, j1, 0)), some (pI b2), some (pI (b3 + 0)), some (pI (b4 + 1)), none] [] M9 Q) ∧ (¬ v10 = 0 → TT X kX2_askedBy 0 [some (pR (2, 1, 0)), some (pR (6, j1, 0)), some (pI b2), none, none] [] M9 (rI fun v12 M11 => TT X kX3_taken 5 [some (pR (3, 0, 0)), some (pR (6, j1, 0)), some (pI b2), some (pI (b3 + (v8 * v12))), some (pI (b4 + 1)), none] [] M11 Q)))))))))) : TT X kX3_taken 5 [some (pR (3, 0, 0)), some (pR (6, j1, 0)), some (pI b2), some (pI b3), some (pI b4), none] [] M Q :=
 T_iload dX3_taken_5 rfl <|
 T_iconst dX3_taken_7 ic_3 <|
 T_icmp_gt (tgt := 80) dX3_taken_8 (by decide) (fun z21 =>
 T_iload_n dX3_taken_80 rfl <|
 T_ireturn (ty := .int) dX3_taken_81 rfl rfl (h.1 z21)) (fun z21 =>
 T_aload_n dX3_taken_11 rfl <|
 T_iload dX3_taken_12 rfl <|
 T_callVi (k' := kX6_hasReach) (vs := [pI b4]) (st := []) dX3_taken_14 wm_X3_18 okX6_hasReach rfl (cc6_0 hj1) rfl rfl rfl (Nat.le_of_ble_eq_true rfl) rfl (Nat.le_of_ble_eq_true rfl) (TT.mono (h.2 z21) (rI_mono (fun v2 M1 h20 =>
 T_if_eq (tgt := 74) dX3_taken_17 (by decide) (fun z19 =>
 T_iinc dX3_taken_74 rfl (ii_1 _) (by decide) rfl rfl <|
 T_goto (tgt := 5) dX3_taken_77 (by decide) <|
 (h20.1 z19)) (fun z19 =>
 T_aload_n dX3_taken_20 rfl <|
 T_getR (C := RX3) (T := TX3) (N := 3) (f := 0) dX3_taken_21 c_3_0_0 rfl (by decide) wf_X3_10 rfl <|
 T_aload_n dX3_taken_24 rfl <|
 T_iload dX3_taken_25 rfl <|
 T_callVv (k' := kX2_find) (vs := [pR (6, j1, 0), pI b4]) (st := []) dX3_taken_27 wm_X3_22 okX2_find rfl c_2_1_0 rfl rfl rfl (Nat.le_of_ble_eq_true rfl) rfl (Nat.le_of_ble_eq_true rfl) (TT.mono (h20.2 z19) (rV_mono (fun M3 h18 =>
 T_aload_n dX3_taken_30 rfl <|
 T_iload dX3_taken_31 rfl <|
 T_aload_n dX3_taken_33 rfl <|
 T_getR (C := RX3) (T := TX3) (N := 3) (f := 0) dX3_taken_34 c_3_0_0 rfl (by decide) wf_X3_10 rfl <|
 T_callVi (k' := kX2_askedInAll) (vs := []) (st := [pI b4, pR (6, j1, 0)]) dX3_taken_37 wm_X3_26 okX2_askedInAll rfl c_2_1_0 rfl rfl rfl (Nat.le_of_ble_eq_true rfl) rfl (Nat.le_of_ble_eq_true rfl) (TT.mono h18 (rI_mono (fun v6 M5 h17 =>
 T_callVi (k' := kX6_unitsPaid) (vs := [pI b4, pI v6]) (st := []) dX3_taken_40 wm_X3_30 okX6_unitsPaid rfl (cc6_0 hj1) rfl rfl rfl (Nat.le_of_ble_eq_true rfl) rfl (Nat.le_of_ble_eq_true rfl) (TT.mono h17 (rI_mono (fun v8 M7 h16 =>
 T_istore dX3_taken_43 (by decide) rfl rfl <|
 T_iload_n dX3_taken_45 rfl <|
 T_aload_n dX3_taken_46 rfl <|
 T_getR (C := RX3) (T := TX3) (N := 3) (f := 0) dX3_taken_47 c_3_0_0 rfl (by decide) wf_X3_10 rfl <|
 T_callVi (k' := kX2_isThere) (vs := []) (st := [pI b3]) dX3_taken_50 wm_X3_34 okX2_isThere rfl c_2_1_0 rfl rfl rfl (Nat.le_of_ble_eq_true rfl) rfl (Nat.le_of_ble_eq_true rfl) (TT.mono h16 (rI_mono (fun v10 M9 h15 =>
 T_if_eq (tgt := 71) dX3_taken_53 (by decide) (fun z14 =>
 T_iconst dX3_taken_71 ic_0 <|
 T_iadd dX3_taken_72 <|
 T_istore_n dX3_taken_73 (by decide) rfl rfl <|
 T_iinc dX3_taken_74 rfl (ii_1 _) (by decide) rfl rfl <|
 T_goto (tgt := 5) dX3_taken_77 (by decide) <|
 T_mask [true, true, true, true, true, false] (h15.1 z14)) (fun z14 =>
 T_iload dX3_taken_56 rfl <|
 T_aload_n dX3_taken_58 rfl <|
 T_getR (C := RX3) (T := TX3) (N := 3) (f := 0) dX3_taken_59 c_3_0_0 rfl (by decide) wf_X3_10 rfl <|
 T_aload_n dX3_taken_62 rfl <|
 T_iload_n dX3_taken_63 rfl <|
 T_callVi (k' := kX2_askedBy) (vs := [pR (6, j1, 0), pI b2]) (st := [pI v8, pI b3]) dX3_taken_64 wm_X3_38 okX2_askedBy rfl c_2_1_0 rfl rfl rfl (Nat.le_of_ble_eq_true rfl) rfl (Nat.le_of_ble_eq_true rfl) (TT.mono (h15.2 z14) (rI_mono (fun v12 M11 h13 =>
 T_imul dX3_taken_67 <|
 T_goto (tgt := 72) dX3_taken_68 (by decide) <|
 T_iadd dX3_taken_72 <|
 T_istore_n dX3_taken_73 (by decide) rfl rfl <|
 T_iinc dX3_taken_74 rfl (ii_1 _) (by decide) rfl rfl <|
 T_goto (tgt := 5) dX3_taken_77 (by decide) <|
 T_mask [true, true, true, true, true, false] h13)))))))))))))))))))))
theorem rX3_seek_0 {X : Nat × (Nat → Int32)} {j1 : Nat} (hj1 : j1 < 5) {a2 : Int32} {M : Mem} {Q : Option PV → Mem → Prop} (h : TT X kX3_seek 12 [some (pR (3, 0, 0)), some (pR (6, j1, 0)), some (pI a2), some (pI 0), none] [] (mset (mset M 3 0 0 1 0) 3 0 0 2 (-1)) Q) : TT X kX3_seek 0 [some (pR (3, 0, 0)), some (pR (6, j1, 0)), some (pI a2), none, none] [] M Q :=
 T_aload_n dX3_seek_0 rfl <|
 T_iconst dX3_seek_1 ic_0 <|
 T_putI (C := RX3) (T := TX3) (N := 3) (f := 1) dX3_seek_2 c_3_0_0 rfl (by decide) wf_X3_42 rfl rfl rfl <|
 T_aload_n dX3_seek_5 rfl <|
 T_iconst dX3_seek_6 ic_m1 <|
 T_putI (C := RX3) (T := TX3) (N := 3) (f := 2) dX3_seek_7 c_3_0_0 rfl (by decide) wf_X3_46 rfl rfl rfl <|
 T_iconst dX3_seek_10 ic_0 <|
 T_istore_n dX3_seek_11 (by decide) rfl rfl <|
 h
theorem rX3_seek_12 {X : Nat × (Nat → Int32)} {j1 : Nat} (hj1 : j1 < 5) {b2 : Int32} {b3 : Int32} {M : Mem} {Q : Option PV → Mem → Prop} (h : (20 < b3 → TT X kX6_askAll 0 [some (pR (6, j1, 0)), some (pI b2), some (pI (M 3 0 0 1)), none] [] M (rV fun M1 => Q none M1)) ∧ (¬ 20 < b3 → TT X kX6_askAll 0 [some (pR (6, j1, 0)), some (pI b2), some (pI b3), none] [] M (rV fun M4 => TT X kX3_taken 0 [some (pR (3, 0, 0)), some (pR (6, j1, 0)), some (pI b2), none, none, none] [] M4 (rI fun v7 M6 => (v7 ≤ (M6 3 0 0 2) → TT X kX3_seek 12 [some (pR (3, 0, 0)), some (pR (6, j1, 0)), some (pI b2), some (pI (b3 + 1)), none] [] M6 Q) ∧ (¬ v7 ≤ (M6 3 0 0 2) → TT X kX3_seek 12 [some (pR (3, 0, 0)), some (pR (6, j1, 0)), some (pI b2), some (pI (b3 + 1)), none] [] (mset (mset M6 3 0 0 2 v7) 3 0 0 1 b3) Q))))) : TT X kX3_seek 12 [some (pR (3, 0, 0)), some (pR (6, j1, 0)), some (pI b2), some (pI b3), none] [] M Q :=
 T_iload_n dX3_seek_12 rfl <|
 T_bipush dX3_seek_13 bp_20 <|
 T_icmp_gt (tgt := 58) dX3_seek_15 (by decide) (fun z11 =>
 T_aload_n dX3_seek_58 rfl <|
 T_iload_n dX3_seek_59 rfl <|
 T_aload_n dX3_seek_60 rfl <|
 T_getI (C := RX3) (T := TX3) (N := 3) (f := 1) dX3_seek_61 c_3_0_0 rfl (by decide) wf_X3_42 rfl <|
 T_callVv (k' := kX6_askAll) (vs := [pI b2, pI (M 3 0 0 1)]) (st := []) dX3_seek_64 wm_X3_49 okX6_askAll rfl (cc6_0 hj1) rfl rfl rfl (Nat.le_of_ble_eq_true rfl) rfl (Nat.le_of_ble_eq_true rfl) (TT.mono (h.1 z11) (rV_mono (fun M1 h3 =>
 T_return dX3_seek_67 rfl h3)))) (fun z11 =>
 T_aload_n dX3_seek_18 rfl <|
 T_iload_n dX3_seek_19 rfl <|
 T_iload_n dX3_seek_20 rfl <|
 T_callVv (k' := kX6_askAll) (vs := [pI b2, pI b3]) (st := []) dX3_seek_21 wm_X3_49 okX6_askAll rfl (cc6_0 hj1) rfl rfl rfl (Nat.le_of_ble_eq_true rfl) rfl (Nat.le_of_ble_eq_true rfl) (TT.mono (h.2 z11) (rV_mono (fun M4 h10 =>
 T_aload_n dX3_seek_24 rfl <|
 T_aload_n dX3_seek_25 rfl <|
 T_iload_n dX3_seek_26 rfl <|
 T_callVi (k' := kX3_taken) (vs := [pR (6, j1, 0), pI b2]) (st := []) dX3_seek_27 wm_X3_53 okX3_taken rfl c_3_0_0 rfl rfl rfl (Nat.le_of_ble_eq_true rfl) rfl (Nat.le_of_ble_eq_true rfl) (TT.mono h10 (rI_mono (fun v7 M6 h9 =>
 T_istore dX3_seek_30 (by decide) rfl rfl <|
 T_iload dX3_seek_32 rfl <|
 T_aload_n dX3_seek_34 rfl <|
 T_getI (C := RX3) (T := TX3) (N := 3) (f := 2) dX3_seek_35 c_3_0_0 rfl (by decide) wf_X3_46 rfl <|
 T_icmp_le (tgt := 52) dX3_seek_38 (by decide) (fun z8 =>
 T_iinc dX3_seek_52 rfl (ii_1 _) (by decide) rfl rfl <|
 T_goto (tgt := 12) dX3_seek_55 (by decide) <|
 T_mask [true, true, true, true, false] (h9.1 z8)) (fun z8 =>
 T_aload_n dX3_seek_41 rfl <|
 T_iload dX3_seek_42 rfl <|
 T_putI (C := RX3) (T := TX3) (N := 3) (f := 2) dX3_seek_44 c_3_0_0 rfl (by decide) wf_X3_46 rfl rfl rfl <|
 T_aload_n dX3_seek_47 rfl <|
 T_iload_n dX3_seek_48 rfl <|
 T_putI (C := RX3) (T := TX3) (N := 3) (f := 1) dX3_seek_49 c_3_0_0 rfl (by decide) wf_X3_42 rfl rfl rfl <|
 T_iinc dX3_seek_52 rfl (ii_1 _) (by decide) rfl rfl <|
 T_goto (tgt := 12) dX3_seek_55 (by decide) <|
 T_mask [true, true, true, true, false] (h9.2 z8)))))))))
theorem rX3_bestAsking_0 {X : Nat × (Nat → Int32)}  {M : Mem} {Q : Option PV → Mem → Prop} (h : Q (some (pI (M 3 0 0 1))) M) : TT X kX3_bestAsking 0 [some (pR (3, 0, 0))] [] M Q :=
 T_aload_n dX3_bestAsking_0 rfl <|
 T_getI (C := RX3) (T := TX3) (N := 3) (f := 1) dX3_bestAsking_1 c_3_0_0 rfl (by decide) wf_X3_42 rfl <|
 T_ireturn (ty := .int) dX3_bestAsking_4 rfl rfl h
theorem rX3_bestTaken_0 {X : Nat × (Nat → Int32)}  {M : Mem} {Q : Option PV → Mem → Prop} (h : Q (some (pI (M 3 0 0 2))) M) : TT X kX3_bestTaken 0 [some (pR (3, 0, 0))] [] M Q :=
 T_aload_n dX3_bestTaken_0 rfl <|
 T_getI (C := RX3) (T := TX3) (N := 3) (f := 2) dX3_bestTaken_1 c_3_0_0 rfl (by decide) wf_X3_46 rfl <|
 T_ireturn (ty := .int) dX3_bestTaken_4 rfl rfl h
