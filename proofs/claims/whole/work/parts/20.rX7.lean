theorem rX7_forget_0 {X : Nat × (Nat → Int32)}  {M : Mem} {Q : Option PV → Mem → Prop} (h : Q none (mset M 7 0 0 2 0)) : TT X kX7_forget 0 [some (pR (7, 0, 0))] [] M Q :=
 T_aload_n dX7_forget_0 rfl <|
 T_iconst dX7_forget_1 ic_0 <|
 T_putZ (C := RX7) (T := TX7) (N := 3) (f := 2) dX7_forget_2 c_7_0_0 rfl (by decide) wf_X7_17 rfl rfl rfl (by decide) <|
 T_return dX7_forget_5 rfl h
theorem rX7_rounds_0 {X : Nat × (Nat → Int32)}  {M : Mem} {Q : Option PV → Mem → Prop} (h : Q (some (pI (M 7 0 0 1))) M) : TT X kX7_rounds 0 [some (pR (7, 0, 0))] [] M Q :=
 T_aload_n dX7_rounds_0 rfl <|
 T_getI (C := RX7) (T := TX7) (N := 3) (f := 1) dX7_rounds_1 c_7_0_0 rfl (by decide) wf_X7_21 rfl <|
 T_ireturn (ty := .int) dX7_rounds_4 rfl rfl h
theorem rX7_askedBehind_0 {X : Nat × (Nat → Int32)} {a1 : Int32} {M : Mem} {Q : Option PV → Mem → Prop} (h : TT X kX6_isOwner 0 [some (pI a1)] [] M (rI fun v2 M1 => (v2 = 0 → Q (some (pI (-1000000))) M1) ∧ (¬ v2 = 0 → vp_in a1 5 ∧ (Q (some (pI (M1 7 0 1 (Int32.toNatClampNeg a1)))) M1)))) : TT X kX7_askedBehind 0 [some (pR (7, 0, 0)), some (pI a1)] [] M Q :=
 T_iload_n dX7_askedBehind_0 rfl <|
 T_callSi (k' := kX6_isOwner) (vs := [pI a1]) (st := []) dX7_askedBehind_1 wm_X7_25 okX6_isOwner rfl rfl rfl (Nat.le_of_ble_eq_true rfl) rfl (Nat.le_of_ble_eq_true rfl) (TT.mono h (rI_mono (fun v2 M1 h4 =>
 T_if_eq (tgt := 16) dX7_askedBehind_4 (by decide) (fun z3 =>
 T_ldc dX7_askedBehind_16 wc_X7_29 <|
 T_ireturn (ty := .int) dX7_askedBehind_18 rfl rfl (h4.1 z3)) (fun z3 =>
 T_aload_n dX7_askedBehind_7 rfl <|
 T_getR (C := RX7) (T := TX7) (N := 3) (f := 0) dX7_askedBehind_8 c_7_0_0 rfl (by decide) wf_X7_11 rfl <|
 T_iload_n dX7_askedBehind_11 rfl <|
 T_iald (n := 5) dX7_askedBehind_12 c_7_0_1 (by decide) (by decide) (by decide) rfl (h4.2 z3).1 <|
 T_goto (tgt := 18) dX7_askedBehind_13 (by decide) <|
 T_ireturn (ty := .int) dX7_askedBehind_18 rfl rfl (h4.2 z3).2))))
theorem rX7_play_0 {X : Nat × (Nat → Int32)} {j1 : Nat} (hj1 : j1 < 5) {j2 : Nat} (hj2 : j2 < 5) {M : Mem} {Q : Option PV → Mem → Prop} (h : ((M 7 0 0 2) = 0 → TT X kX6_takeOver 0 [some (pR (6, j2, 0)), some (pR (6, j1, 0)), none] [] (mset (mset M 7 0 0 2 1) 7 0 0 1 (-1000000)) (rV fun M1 => TT X kX7_play 27 [some (pR (7, 0, 0)), some (pR (6, j1, 0)), some (pR (6, j2, 0)), some (pR (3, 0, 0)), some (pI 1)] [] M1 Q)) ∧ (¬ (M 7 0 0 2) = 0 → Q none M)) : TT X kX7_play 0 [some (pR (7, 0, 0)), some (pR (6, j1, 0)), some (pR (6, j2, 0)), some (pR (3, 0, 0)), none] [] M Q :=
 T_aload_n dX7_play_0 rfl <|
 T_getI (C := RX7) (T := TX7) (N := 3) (f := 2) dX7_play_1 c_7_0_0 rfl (by decide) wf_X7_17 rfl <|
 T_if_eq (tgt := 8) dX7_play_4 (by decide) (fun z4 =>
 T_aload_n dX7_play_8 rfl <|
 T_iconst dX7_play_9 ic_1 <|
 T_putZ (C := RX7) (T := TX7) (N := 3) (f := 2) dX7_play_10 c_7_0_0 rfl (by decide) wf_X7_17 rfl rfl rfl (by decide) <|
 T_aload_n dX7_play_13 rfl <|
 T_ldc dX7_play_14 wc_X7_29 <|
 T_putI (C := RX7) (T := TX7) (N := 3) (f := 1) dX7_play_16 c_7_0_0 rfl (by decide) wf_X7_21 rfl rfl rfl <|
 T_aload_n dX7_play_19 rfl <|
 T_aload_n dX7_play_20 rfl <|
 T_callVv (k' := kX6_takeOver) (vs := [pR (6, j1, 0)]) (st := []) dX7_play_21 wm_X7_30 okX6_takeOver rfl (cc6_0 hj2) rfl rfl rfl (Nat.le_of_ble_eq_true rfl) rfl (Nat.le_of_ble_eq_true rfl) (TT.mono (h.1 z4) (rV_mono (fun M1 h3 =>
 T_iconst dX7_play_24 ic_1 <|
 T_istore dX7_play_25 (by decide) rfl rfl <|
 h3)))) (fun z4 =>
 T_return dX7_play_7 rfl (h.2 z4))
theorem rX7_play_27 {X : Nat × (Nat → Int32)} {j1 : Nat} (hj1 : j1 < 5) {j2 : Nat} (hj2 : j2 < 5) {b4 : Int32} {M : Mem} {Q : Option PV → Mem → Prop} (h : (20 < b4 → Q none M) ∧ (¬ 20 < b4 → (¬ (M 7 0 0 1) = (-1000000) → Q none M) ∧ ((M 7 0 0 1) = (-1000000) → TT X kX7_isChangedInRound 0 [some (pR (7, 0, 0)), some (pR (6, j2, 0)), some (pR (3, 0, 0)), none, none, none] [] M (rI fun v6 M5 => (¬ v6 = 0 → TT X kX7_play 27 [some (pR (7, 0, 0)), some (pR (6, j1, 0)), some (pR (6, j2, 0)), some (pR (3, 0, 0)), some (pI (b4 + 1))] [] M5 Q) ∧ (v6 = 0 → TT X kX7_play 27 [some (pR (7, 0, 0)), some (pR (6, j1, 0)), some (pR (6, j2, 0)), some (pR (3, 0, 0)), some (pI (b4 + 1))] [] (mset M5 7 0 0 1 b4) Q))))) : TT X kX7_play 27 [some (pR (7, 0, 0)), some (pR (6, j1, 0)), some (pR (6, j2, 0)), some (pR (3, 0, 0)), some (pI b4)] [] M Q :=
 T_iload dX7_play_27 rfl <|
 T_bipush dX7_play_29 bp_20 <|
 T_icmp_gt (tgt := 64) dX7_play_31 (by decide) (fun z10 =>
 T_return dX7_play_64 rfl (h.1 z10)) (fun z10 =>
 T_aload_n dX7_play_34 rfl <|
 T_getI (C := RX7) (T := TX7) (N := 3) (f := 1) dX7_play_35 c_7_0_0 rfl (by decide) wf_X7_21 rfl <|
 T_ldc dX7_play_38 wc_X7_29 <|
 T_icmp_ne (tgt := 64) dX7_play_40 (by decide) (fun z9 =>
 T_return dX7_play_64 rfl ((h.2 z10).1 z9)) (fun z9 =>
 T_aload_n dX7_play_43 rfl <|
 T_aload_n dX7_play_44 rfl <|
 T_aload_n dX7_play_45 rfl <|
 T_callVi (k' := kX7_isChangedInRound) (vs := [pR (6, j2, 0), pR (3, 0, 0)]) (st := []) dX7_play_46 wm_X7_34 okX7_isChangedInRound rfl c_7_0_0 rfl rfl rfl (Nat.le_of_ble_eq_true rfl) rfl (Nat.le_of_ble_eq_true rfl) (TT.mono ((h.2 z10).2 z9) (rI_mono (fun v6 M5 h8 =>
 T_if_ne (tgt := 58) dX7_play_49 (by decide) (fun z7 =>
 T_iinc dX7_play_58 rfl (ii_1 _) (by decide) rfl rfl <|
 T_goto (tgt := 27) dX7_play_61 (by decide) <|
 (h8.1 z7)) (fun z7 =>
 T_aload_n dX7_play_52 rfl <|
 T_iload dX7_play_53 rfl <|
 T_putI (C := RX7) (T := TX7) (N := 3) (f := 1) dX7_play_55 c_7_0_0 rfl (by decide) wf_X7_21 rfl rfl rfl <|
 T_iinc dX7_play_58 rfl (ii_1 _) (by decide) rfl rfl <|
 T_goto (tgt := 27) dX7_play_61 (by decide) <|
 (h8.2 z7)))))))
theorem rX7_isChangedInRound_0 {X : Nat × (Nat → Int32)} {j1 : Nat} (hj1 : j1 < 5) {M : Mem} {Q : Option PV → Mem → Prop} (h : TT X kX7_isChangedInRound 5 [some (pR (7, 0, 0)), some (pR (6, j1, 0)), some (pR (3, 0, 0)), some (pI 0), some (pI 0), none] [] M Q) : TT X kX7_isChangedInRound 0 [some (pR (7, 0, 0)), some (pR (6, j1, 0)), some (pR (3, 0, 0)), none, none, none] [] M Q :=
 T_iconst dX7_isChangedInRound_0 ic_0 <|
 T_istore_n dX7_isChangedInRound_1 (by decide) rfl rfl <|
 T_iconst dX7_isChangedInRound_2 ic_0 <|
 T_istore dX7_isChangedInRound_3 (by decide) rfl rfl <|
 h
theorem rX7_isChangedInRound_5 {X : Nat × (Nat → Int32)} {j1 : Nat} (hj1 : j1 < 5) {b3 : Int32} {b4 : Int32} {M : Mem} {Q : Option PV → Mem → Prop} (h : (5 ≤ b4 → (b3 = 0 ∨ b3 = 1) ∧ Q (some (pI b3)) M) ∧ (¬ 5 ≤ b4 → vp_in b4 5 ∧ (TT X kX6_ownAny 0 [some (pR (6, j1, 0)), some (pI (1 <<< (b4 &&& 31))), none] [] (mset M 7 0 1 (Int32.toNatClampNeg b4) (-1000000)) (rI fun v2 M1 => (v2 = 0 → TT X kX7_isChangedInRound 5 [some (pR (7, 0, 0)), some (pR (6, j1, 0)), some (pR (3, 0, 0)), some (pI b3), some (pI (b4 + 1)), none] [] M1 Q) ∧ (¬ v2 = 0 → TT X kX7_commonAsking 0 [some (pR (6, j1, 0)), some (pI (1 <<< (b4 &&& 31))), none] [] M1 (rI fun v4 M3 => TT X kX3_seek 0 [some (pR (3, 0, 0)), some (pR (6, j1, 0)), some (pI (1 <<< (b4 &&& 31))), none, none] [] M3 (rV fun M5 => TT X kX3_bestAsking 0 [some (pR (3, 0, 0))] [] M5 (rI fun v8 M7 => vp_in b4 5 ∧ ((¬ b3 = 0 → TT X kX7_isChangedInRound 5 [some (pR (7, 0, 0)), some (pR (6, j1, 0)), some (pR (3, 0, 0)), some (pI 1), some (pI (b4 + 1)), none] [] (mset M7 7 0 1 (Int32.toNatClampNeg b4) v8) Q) ∧ (b3 = 0 → vp_in b4 5 ∧ ((((mset M7 7 0 1 (Int32.toNatClampNeg b4) v8) 7 0 1 (Int32.toNatClampNeg b4)) = v4 → TT X kX7_isChangedInRound 5 [some (pR (7, 0, 0)), some (pR (6, j1, 0)), some (pR (3, 0, 0)), some (pI 0), some (pI (b4 + 1)), none] [] (mset M7 7 0 1 (Int32.toNatClampNeg b4) v8) Q) ∧ (¬ ((mset M7 7 0 1 (Int32.toNatClampNeg b4) v8) 7 0 1 (Int32.toNatClampNeg b4)) = v4 → TT X kX7_isChangedInRound 5 [some (pR (7, 0, 0)), some (pR (6, j1, 0)), some (pR (3, 0, 0)), some (pI 1), some (pI (b4 + 1)), none] [] (mset M7 7 0 1 (Int32.toNatClampNeg b4) v8) Q)))))))))))) : TT X kX7_isChangedInRound 5 [some (pR (7, 0, 0)), some (pR (6, j1, 0)), some (pR (3, 0, 0)), some (pI b3), some (pI b4), none] [] M Q :=
 T_iload dX7_isChangedInRound_5 rfl <|
 T_iconst dX7_isChangedInRound_7 ic_5 <|
 T_icmp_ge (tgt := 89) dX7_isChangedInRound_8 (by decide) (fun z16 =>
 T_iload_n dX7_isChangedInRound_89 rfl <|
 T_ireturn (ty := .boolean) dX7_isChangedInRound_90 rfl (nz_b (h.1 z16).1) (h.1 z16).2) (fun z16 =>
 T_aload_n dX7_isChangedInRound_11 rfl <|
 T_getR (C := RX7) (T := TX7) (N := 3) (f := 0) dX7_isChangedInRound_12 c_7_0_0 rfl (by decide) wf_X7_11 rfl <|
 T_iload dX7_isChangedInRound_15 rfl <|
 T_ldc dX7_isChangedInRound_17 wc_X7_29 <|
 T_iast (n := 5) dX7_isChangedInRound_19 c_7_0_1 (by decide) (by decide) (by decide) rfl (h.2 z16).1 <|
 T_aload_n dX7_isChangedInRound_20 rfl <|
 T_iconst dX7_isChangedInRound_21 ic_1 <|
 T_iload dX7_isChangedInRound_22 rfl <|
 T_ishl dX7_isChangedInRound_24 <|
 T_callVi (k' := kX6_ownAny) (vs := [pI (1 <<< (b4 &&& 31))]) (st := []) dX7_isChangedInRound_25 wm_X7_38 okX6_ownAny rfl (cc6_0 hj1) rfl rfl rfl (Nat.le_of_ble_eq_true rfl) rfl (Nat.le_of_ble_eq_true rfl) (TT.mono (h.2 z16).2 (rI_mono (fun v2 M1 h15 =>
 T_if_eq (tgt := 83) dX7_isChangedInRound_28 (by decide) (fun z14 =>
 T_iinc dX7_isChangedInRound_83 rfl (ii_1 _) (by decide) rfl rfl <|
 T_goto (tgt := 5) dX7_isChangedInRound_86 (by decide) <|
 (h15.1 z14)) (fun z14 =>
 T_aload_n dX7_isChangedInRound_31 rfl <|
 T_iconst dX7_isChangedInRound_32 ic_1 <|
 T_iload dX7_isChangedInRound_33 rfl <|
 T_ishl dX7_isChangedInRound_35 <|
 T_callSi (k' := kX7_commonAsking) (vs := [pR (6, j1, 0), pI (1 <<< (b4 &&& 31))]) (st := []) dX7_isChangedInRound_36 wm_X7_41 okX7_commonAsking rfl rfl rfl (Nat.le_of_ble_eq_true rfl) rfl (Nat.le_of_ble_eq_true rfl) (TT.mono (h15.2 z14) (rI_mono (fun v4 M3 h13 =>
 T_istore dX7_isChangedInRound_39 (by decide) rfl rfl <|
 T_aload_n dX7_isChangedInRound_41 rfl <|
 T_aload_n dX7_isChangedInRound_42 rfl <|
 T_iconst dX7_isChangedInRound_43 ic_1 <|
 T_iload dX7_isChangedInRound_44 rfl <|
 T_ishl dX7_isChangedInRound_46 <|
 T_callVv (k' := kX3_seek) (vs := [pR (6, j1, 0), pI (1 <<< (b4 &&& 31))]) (st := []) dX7_isChangedInRound_47 wm_X7_45 okX3_seek rfl c_3_0_0 rfl rfl rfl (Nat.le_of_ble_eq_true rfl) rfl (Nat.le_of_ble_eq_true rfl) (TT.mono h13 (rV_mono (fun M5 h12 =>
 T_aload_n dX7_isChangedInRound_50 rfl <|
 T_getR (C := RX7) (T := TX7) (N := 3) (f := 0) dX7_isChangedInRound_51 c_7_0_0 rfl (by decide) wf_X7_11 rfl <|
 T_iload dX7_isChangedInRound_54 rfl <|
 T_aload_n dX7_isChangedInRound_56 rfl <|
 T_callVi (k' := kX3_bestAsking) (vs := []) (st := [pI b4, pR (7, 0, 1)]) dX7_isChangedInRound_57 wm_X7_51 okX3_bestAsking rfl c_3_0_0 rfl rfl rfl (Nat.le_of_ble_eq_true rfl) rfl (Nat.le_of_ble_eq_true rfl) (TT.mono h12 (rI_mono (fun v8 M7 h11 =>
 T_iast (n := 5) dX7_isChangedInRound_60 c_7_0_1 (by decide) (by decide) (by decide) rfl h11.1 <|
 T_iload_n dX7_isChangedInRound_61 rfl <|
 T_if_ne (tgt := 77) dX7_isChangedInRound_62 (by decide) (fun z10 =>
 T_iconst dX7_isChangedInRound_77 ic_1 <|
 T_goto (tgt := 82) dX7_isChangedInRound_78 (by decide) <|
 T_istore_n dX7_isChangedInRound_82 (by decide) rfl rfl <|
 T_iinc dX7_isChangedInRound_83 rfl (ii_1 _) (by decide) rfl rfl <|
 T_goto (tgt := 5) dX7_isChangedInRound_86 (by decide) <|
 T_mask [true, true, true, true, true, false] (h11.2.1 z10)) (fun z10 =>
 T_aload_n dX7_isChangedInRound_65 rfl <|
 T_getR (C := RX7) (T := TX7) (N := 3) (f := 0) dX7_isChangedInRound_66 c_7_0_0 rfl (by decide) wf_X7_11 rfl <|
 T_iload dX7_isChangedInRound_69 rfl <|
 T_iald (n := 5) dX7_isChangedInRound_71 c_7_0_1 (by decide) (by decide) (by decide) rfl (h11.2.2 z10).1 <|
 T_iload dX7_isChangedInRound_72 rfl <|
 T_icmp_eq (tgt := 81) dX7_isChangedInRound_74 (by decide) (fun z9 =>
 T_iconst dX7_isChangedInRound_81 ic_0 <|
 T_istore_n dX7_isChangedInRound_82 (by decide) rfl rfl <|
 T_iinc dX7_isChangedInRound_83 rfl (ii_1 _) (by decide) rfl rfl <|
 T_goto (tgt := 5) dX7_isChangedInRound_86 (by decide) <|
 T_mask [true, true, true, true, true, false] ((h11.2.2 z10).2.1 z9)) (fun z9 =>
 T_iconst dX7_isChangedInRound_77 ic_1 <|
 T_goto (tgt := 82) dX7_isChangedInRound_78 (by decide) <|
 T_istore_n dX7_isChangedInRound_82 (by decide) rfl rfl <|
 T_iinc dX7_isChangedInRound_83 rfl (ii_1 _) (by decide) rfl rfl <|
 T_goto (tgt := 5) dX7_isChangedInRound_86 (by decide) <|
 T_mask [true, true, true, true, true, false] ((h11.2.2 z10).2.2 z9)))))))))))))))))
theorem rX7_commonAsking_0 {X : Nat × (Nat → Int32)} {j1 : Nat} (hj1 : j1 < 5) {a2 : Int32} {M : Mem} {Q : Option PV → Mem → Prop} (h : TT X kX7_commonAsking 2 [some (pR (6, j1, 0)), some (pI a2), some (pI 0)] [] M Q) : TT X kX7_commonAsking 0 [some (pR (6, j1, 0)), some (pI a2), none] [] M Q :=
 T_iconst dX7_commonAsking_0 ic_0 <|
 T_istore_n dX7_commonAsking_1 (by decide) rfl rfl <|
 h
theorem rX7_commonAsking_2 {X : Nat × (Nat → Int32)} {j1 : Nat} (hj1 : j1 < 5) {b1 : Int32} {b2 : Int32} {M : Mem} {Q : Option PV → Mem → Prop} (h : (20 < b2 → Q (some (pI (-1000000))) M) ∧ (¬ 20 < b2 → TT X kX6_allAsk 0 [some (pR (6, j1, 0)), some (pI b1), some (pI b2), none] [] M (rI fun v2 M1 => (v2 = 0 → TT X kX7_commonAsking 2 [some (pR (6, j1, 0)), some (pI b1), some (pI (b2 + 1))] [] M1 Q) ∧ (¬ v2 = 0 → Q (some (pI b2)) M1)))) : TT X kX7_commonAsking 2 [some (pR (6, j1, 0)), some (pI b1), some (pI b2)] [] M Q :=
 T_iload_n dX7_commonAsking_2 rfl <|
 T_bipush dX7_commonAsking_3 bp_20 <|
 T_icmp_gt (tgt := 25) dX7_commonAsking_5 (by decide) (fun z5 =>
 T_ldc dX7_commonAsking_25 wc_X7_29 <|
 T_ireturn (ty := .int) dX7_commonAsking_27 rfl rfl (h.1 z5)) (fun z5 =>
 T_aload_n dX7_commonAsking_8 rfl <|
 T_iload_n dX7_commonAsking_9 rfl <|
 T_iload_n dX7_commonAsking_10 rfl <|
 T_callVi (k' := kX6_allAsk) (vs := [pI b1, pI b2]) (st := []) dX7_commonAsking_11 wm_X7_55 okX6_allAsk rfl (cc6_0 hj1) rfl rfl rfl (Nat.le_of_ble_eq_true rfl) rfl (Nat.le_of_ble_eq_true rfl) (TT.mono (h.2 z5) (rI_mono (fun v2 M1 h4 =>
 T_if_eq (tgt := 19) dX7_commonAsking_14 (by decide) (fun z3 =>
 T_iinc dX7_commonAsking_19 rfl (ii_1 _) (by decide) rfl rfl <|
 T_goto (tgt := 2) dX7_commonAsking_22 (by decide) <|
 (h4.1 z3)) (fun z3 =>
 T_iload_n dX7_commonAsking_17 rfl <|
 T_ireturn (ty := .int) dX7_commonAsking_18 rfl rfl (h4.2 z3))))))
