theorem rX2_find_0 {X : Nat × (Nat → Int32)} {i : Nat} (hi : i < 2) {j1 : Nat} (hj1 : j1 < 5) {a2 : Int32} {M : Mem} {Q : Option PV → Mem → Prop} (h : vp_in ((if 18 < (M 6 j1 0 0) then 18 else (M 6 j1 0 0)) + 1) 20 ∧ (vp_in ((if 18 < (M 6 j1 0 0) then 18 else (M 6 j1 0 0)) + 1) 20 ∧ (TT X kX2_find 31 [some (pR (2, i, 0)), some (pR (6, j1, 0)), some (pI a2), some (pI ((if 18 < (M 6 j1 0 0) then 18 else (M 6 j1 0 0)) + 1)), some (pI (((if 18 < (M 6 j1 0 0) then 18 else (M 6 j1 0 0)) + 1) - 1))] [] (mset (mset M 2 i 1 (Int32.toNatClampNeg ((if 18 < (M 6 j1 0 0) then 18 else (M 6 j1 0 0)) + 1)) 0) 2 i 2 (Int32.toNatClampNeg ((if 18 < (M 6 j1 0 0) then 18 else (M 6 j1 0 0)) + 1)) ((if 18 < (M 6 j1 0 0) then 18 else (M 6 j1 0 0)) + 1)) Q))) : TT X kX2_find 0 [some (pR (2, i, 0)), some (pR (6, j1, 0)), some (pI a2), none, none] [] M Q :=
 T_aload_n dX2_find_0 rfl <|
 T_getI (C := RX6) (T := TX6) (N := 9) (f := 0) dX2_find_1 (cc6_0 hj1) rfl (by decide) wf_X2_23 rfl <|
 T_bipush dX2_find_4 bp_18 <|
 T_min dX2_find_6 wm_X2_27 ⟨Nat.le_of_ble_eq_true rfl, Nat.le_of_ble_eq_true rfl⟩ <|
 T_iconst dX2_find_9 ic_1 <|
 T_iadd dX2_find_10 <|
 T_istore_n dX2_find_11 (by decide) rfl rfl <|
 T_aload_n dX2_find_12 rfl <|
 T_getR (C := RX2) (T := TX2) (N := 4) (f := 0) dX2_find_13 (cc2_0 hi) rfl (by decide) wf_X2_11 rfl <|
 T_iload_n dX2_find_16 rfl <|
 T_iconst dX2_find_17 ic_0 <|
 T_iast (n := 20) dX2_find_18 (cc2_1 hi) (by decide) (by decide) (by decide) rfl h.1 <|
 T_aload_n dX2_find_19 rfl <|
 T_getR (C := RX2) (T := TX2) (N := 4) (f := 1) dX2_find_20 (cc2_0 hi) rfl (by decide) wf_X2_17 rfl <|
 T_iload_n dX2_find_23 rfl <|
 T_iload_n dX2_find_24 rfl <|
 T_iast (n := 20) dX2_find_25 (cc2_2 hi) (by decide) (by decide) (by decide) rfl h.2.1 <|
 T_iload_n dX2_find_26 rfl <|
 T_iconst dX2_find_27 ic_1 <|
 T_isub dX2_find_28 <|
 T_istore dX2_find_29 (by decide) rfl rfl <|
 h.2.2
theorem rX2_find_31 {X : Nat × (Nat → Int32)} {i : Nat} (hi : i < 2) {j1 : Nat} (hj1 : j1 < 5) {b2 : Int32} {b3 : Int32} {b4 : Int32} {M : Mem} {Q : Option PV → Mem → Prop} (h : (b4 ≤ 0 → TT X kX2_lookUp 0 [some (pR (2, i, 0)), some (pI 0), some (pI (if b2 < b3 then b2 else b3)), none, none, none] [] M (rV fun M1 => TT X kX2_follow 0 [some (pR (2, i, 0)), some (pI b3), none] [] M1 (rV fun M3 => Q none M3))) ∧ (¬ b4 ≤ 0 → TT X kX2_lookUp 0 [some (pR (2, i, 0)), some (pI b4), some (pI (if (b4 + b2) < b3 then (b4 + b2) else b3)), none, none, none] [] M (rV fun M7 => vp_in (b4 - 1) 18 ∧ (vp_in (b4 - 1) 18 ∧ (TT X kX2_weigh 0 [some (pR (2, i, 0)), some (pI b4), some (pI (M7 6 j1 4 (Int32.toNatClampNeg (b4 - 1)))), some (pI (M7 6 j1 5 (Int32.toNatClampNeg (b4 - 1))))] [] M7 (rV fun M9 => TT X kX2_find 31 [some (pR (2, i, 0)), some (pR (6, j1, 0)), some (pI b2), some (pI b3), some (pI (b4 + (-1)))] [] M9 Q)))))) : TT X kX2_find 31 [some (pR (2, i, 0)), some (pR (6, j1, 0)), some (pI b2), some (pI b3), some (pI b4)] [] M Q :=
 T_iload dX2_find_31 rfl <|
 T_if_le (tgt := 80) dX2_find_33 (by decide) (fun z13 =>
 T_aload_n dX2_find_80 rfl <|
 T_iconst dX2_find_81 ic_0 <|
 T_iload_n dX2_find_82 rfl <|
 T_iload_n dX2_find_83 rfl <|
 T_min dX2_find_84 wm_X2_27 ⟨Nat.le_of_ble_eq_true rfl, Nat.le_of_ble_eq_true rfl⟩ <|
 T_callVv (k' := kX2_lookUp) (vs := [pI 0, pI (if b2 < b3 then b2 else b3)]) (st := []) dX2_find_87 wm_X2_33 okX2_lookUp rfl (cc2_0 hi) rfl rfl rfl (Nat.le_of_ble_eq_true rfl) rfl (Nat.le_of_ble_eq_true rfl) (TT.mono (h.1 z13) (rV_mono (fun M1 h6 =>
 T_aload_n dX2_find_90 rfl <|
 T_iload_n dX2_find_91 rfl <|
 T_callVv (k' := kX2_follow) (vs := [pI b3]) (st := []) dX2_find_92 wm_X2_47 okX2_follow rfl (cc2_0 hi) rfl rfl rfl (Nat.le_of_ble_eq_true rfl) rfl (Nat.le_of_ble_eq_true rfl) (TT.mono h6 (rV_mono (fun M3 h5 =>
 T_return dX2_find_95 rfl h5))))))) (fun z13 =>
 T_aload_n dX2_find_36 rfl <|
 T_iload dX2_find_37 rfl <|
 T_iload_n dX2_find_39 rfl <|
 T_iload dX2_find_40 rfl <|
 T_iload_n dX2_find_42 rfl <|
 T_iadd dX2_find_43 <|
 T_min dX2_find_44 wm_X2_27 ⟨Nat.le_of_ble_eq_true rfl, Nat.le_of_ble_eq_true rfl⟩ <|
 T_callVv (k' := kX2_lookUp) (vs := [pI b4, pI (if (b4 + b2) < b3 then (b4 + b2) else b3)]) (st := []) dX2_find_47 wm_X2_33 okX2_lookUp rfl (cc2_0 hi) rfl rfl rfl (Nat.le_of_ble_eq_true rfl) rfl (Nat.le_of_ble_eq_true rfl) (TT.mono (h.2 z13) (rV_mono (fun M7 h12 =>
 T_aload_n dX2_find_50 rfl <|
 T_iload dX2_find_51 rfl <|
 T_aload_n dX2_find_53 rfl <|
 T_getR (C := RX6) (T := TX6) (N := 9) (f := 3) dX2_find_54 (cc6_0 hj1) rfl (by decide) wf_X2_37 rfl <|
 T_iload dX2_find_57 rfl <|
 T_iconst dX2_find_59 ic_1 <|
 T_isub dX2_find_60 <|
 T_iald (n := 18) dX2_find_61 (cc6_4 hj1) (by decide) (by decide) (by decide) rfl h12.1 <|
 T_aload_n dX2_find_62 rfl <|
 T_getR (C := RX6) (T := TX6) (N := 9) (f := 4) dX2_find_63 (cc6_0 hj1) rfl (by decide) wf_X2_40 rfl <|
 T_iload dX2_find_66 rfl <|
 T_iconst dX2_find_68 ic_1 <|
 T_isub dX2_find_69 <|
 T_iald (n := 18) dX2_find_70 (cc6_5 hj1) (by decide) (by decide) (by decide) rfl h12.2.1 <|
 T_callVv (k' := kX2_weigh) (vs := [pI b4, pI (M7 6 j1 4 (Int32.toNatClampNeg (b4 - 1))), pI (M7 6 j1 5 (Int32.toNatClampNeg (b4 - 1)))]) (st := []) dX2_find_71 wm_X2_43 okX2_weigh rfl (cc2_0 hi) rfl rfl rfl (Nat.le_of_ble_eq_true rfl) rfl (Nat.le_of_ble_eq_true rfl) (TT.mono h12.2.2 (rV_mono (fun M9 h11 =>
 T_iinc dX2_find_74 rfl (ii_m1 _) (by decide) rfl rfl <|
 T_goto (tgt := 31) dX2_find_77 (by decide) <|
 h11)))))))
theorem rX2_lookUp_0 {X : Nat × (Nat → Int32)} {i : Nat} (hi : i < 2) {a1 : Int32} {a2 : Int32} {M : Mem} {Q : Option PV → Mem → Prop} (h : TT X kX2_lookUp 11 [some (pR (2, i, 0)), some (pI a1), some (pI a2), some (pI 1000000), some (pI a2), some (pI (a1 + 1))] [] M Q) : TT X kX2_lookUp 0 [some (pR (2, i, 0)), some (pI a1), some (pI a2), none, none, none] [] M Q :=
 T_ldc dX2_lookUp_0 wc_X2_51 <|
 T_istore_n dX2_lookUp_2 (by decide) rfl rfl <|
 T_iload_n dX2_lookUp_3 rfl <|
 T_istore dX2_lookUp_4 (by decide) rfl rfl <|
 T_iload_n dX2_lookUp_6 rfl <|
 T_iconst dX2_lookUp_7 ic_1 <|
 T_iadd dX2_lookUp_8 <|
 T_istore dX2_lookUp_9 (by decide) rfl rfl <|
 h
theorem rX2_lookUp_11 {X : Nat × (Nat → Int32)} {i : Nat} (hi : i < 2) {b1 : Int32} {b2 : Int32} {b3 : Int32} {b4 : Int32} {b5 : Int32} {M : Mem} {Q : Option PV → Mem → Prop} (h : (b2 < b5 → vp_in b1 20 ∧ (vp_in b1 20 ∧ (Q none (mset (mset M 2 i 1 (Int32.toNatClampNeg b1) b3) 2 i 2 (Int32.toNatClampNeg b1) b4)))) ∧ (¬ b2 < b5 → vp_in b5 20 ∧ ((b3 ≤ (M 2 i 1 (Int32.toNatClampNeg b5)) → TT X kX2_lookUp 11 [some (pR (2, i, 0)), some (pI b1), some (pI b2), some (pI b3), some (pI b4), some (pI (b5 + 1))] [] M Q) ∧ (¬ b3 ≤ (M 2 i 1 (Int32.toNatClampNeg b5)) → vp_in b5 20 ∧ (TT X kX2_lookUp 11 [some (pR (2, i, 0)), some (pI b1), some (pI b2), some (pI (M 2 i 1 (Int32.toNatClampNeg b5))), some (pI b5), some (pI (b5 + 1))] [] M Q))))) : TT X kX2_lookUp 11 [some (pR (2, i, 0)), some (pI b1), some (pI b2), some (pI b3), some (pI b4), some (pI b5)] [] M Q :=
 T_iload dX2_lookUp_11 rfl <|
 T_iload_n dX2_lookUp_13 rfl <|
 T_icmp_gt (tgt := 46) dX2_lookUp_14 (by decide) (fun z2 =>
 T_aload_n dX2_lookUp_46 rfl <|
 T_getR (C := RX2) (T := TX2) (N := 4) (f := 0) dX2_lookUp_47 (cc2_0 hi) rfl (by decide) wf_X2_11 rfl <|
 T_iload_n dX2_lookUp_50 rfl <|
 T_iload_n dX2_lookUp_51 rfl <|
 T_iast (n := 20) dX2_lookUp_52 (cc2_1 hi) (by decide) (by decide) (by decide) rfl (h.1 z2).1 <|
 T_aload_n dX2_lookUp_53 rfl <|
 T_getR (C := RX2) (T := TX2) (N := 4) (f := 1) dX2_lookUp_54 (cc2_0 hi) rfl (by decide) wf_X2_17 rfl <|
 T_iload_n dX2_lookUp_57 rfl <|
 T_iload dX2_lookUp_58 rfl <|
 T_iast (n := 20) dX2_lookUp_60 (cc2_2 hi) (by decide) (by decide) (by decide) rfl (h.1 z2).2.1 <|
 T_return dX2_lookUp_61 rfl (h.1 z2).2.2) (fun z2 =>
 T_aload_n dX2_lookUp_17 rfl <|
 T_getR (C := RX2) (T := TX2) (N := 4) (f := 0) dX2_lookUp_18 (cc2_0 hi) rfl (by decide) wf_X2_11 rfl <|
 T_iload dX2_lookUp_21 rfl <|
 T_iald (n := 20) dX2_lookUp_23 (cc2_1 hi) (by decide) (by decide) (by decide) rfl (h.2 z2).1 <|
 T_iload_n dX2_lookUp_24 rfl <|
 T_icmp_ge (tgt := 40) dX2_lookUp_25 (by decide) (fun z1 =>
 T_iinc dX2_lookUp_40 rfl (ii_1 _) (by decide) rfl rfl <|
 T_goto (tgt := 11) dX2_lookUp_43 (by decide) <|
 ((h.2 z2).2.1 z1)) (fun z1 =>
 T_aload_n dX2_lookUp_28 rfl <|
 T_getR (C := RX2) (T := TX2) (N := 4) (f := 0) dX2_lookUp_29 (cc2_0 hi) rfl (by decide) wf_X2_11 rfl <|
 T_iload dX2_lookUp_32 rfl <|
 T_iald (n := 20) dX2_lookUp_34 (cc2_1 hi) (by decide) (by decide) (by decide) rfl ((h.2 z2).2.2 z1).1 <|
 T_istore_n dX2_lookUp_35 (by decide) rfl rfl <|
 T_iload dX2_lookUp_36 rfl <|
 T_istore dX2_lookUp_38 (by decide) rfl rfl <|
 T_iinc dX2_lookUp_40 rfl (ii_1 _) (by decide) rfl rfl <|
 T_goto (tgt := 11) dX2_lookUp_43 (by decide) <|
 ((h.2 z2).2.2 z1).2))
theorem rX2_weigh_0 {X : Nat × (Nat → Int32)} {i : Nat} (hi : i < 2) {a1 : Int32} {a2 : Int32} {a3 : Int32} {M : Mem} {Q : Option PV → Mem → Prop} (h : (a3 = 0 → vp_in a1 20 ∧ ((1000000 ≤ (M 2 i 1 (Int32.toNatClampNeg a1)) → Q none M) ∧ (¬ 1000000 ≤ (M 2 i 1 (Int32.toNatClampNeg a1)) → vp_in a1 20 ∧ (vp_in a1 20 ∧ (Q none (mset M 2 i 1 (Int32.toNatClampNeg a1) ((M 2 i 1 (Int32.toNatClampNeg a1)) + ((a2 * 32) + 1)))))))) ∧ (¬ a3 = 0 → vp_in a1 20 ∧ (Q none (mset M 2 i 1 (Int32.toNatClampNeg a1) 1000000)))) : TT X kX2_weigh 0 [some (pR (2, i, 0)), some (pI a1), some (pI a2), some (pI a3)] [] M Q :=
 T_iload_n dX2_weigh_0 rfl <|
 T_if_eq (tgt := 15) dX2_weigh_1 (by decide) (fun z2 =>
 T_aload_n dX2_weigh_15 rfl <|
 T_getR (C := RX2) (T := TX2) (N := 4) (f := 0) dX2_weigh_16 (cc2_0 hi) rfl (by decide) wf_X2_11 rfl <|
 T_iload_n dX2_weigh_19 rfl <|
 T_iald (n := 20) dX2_weigh_20 (cc2_1 hi) (by decide) (by decide) (by decide) rfl (h.1 z2).1 <|
 T_ldc dX2_weigh_21 wc_X2_51 <|
 T_icmp_ge (tgt := 41) dX2_weigh_23 (by decide) (fun z1 =>
 T_return dX2_weigh_41 rfl ((h.1 z2).2.1 z1)) (fun z1 =>
 T_aload_n dX2_weigh_26 rfl <|
 T_getR (C := RX2) (T := TX2) (N := 4) (f := 0) dX2_weigh_27 (cc2_0 hi) rfl (by decide) wf_X2_11 rfl <|
 T_iload_n dX2_weigh_30 rfl <|
 T_dup2IR dX2_weigh_31 <|
 T_iald (n := 20) dX2_weigh_32 (cc2_1 hi) (by decide) (by decide) (by decide) rfl ((h.1 z2).2.2 z1).1 <|
 T_iload_n dX2_weigh_33 rfl <|
 T_bipush dX2_weigh_34 bp_32 <|
 T_imul dX2_weigh_36 <|
 T_iconst dX2_weigh_37 ic_1 <|
 T_iadd dX2_weigh_38 <|
 T_iadd dX2_weigh_39 <|
 T_iast (n := 20) dX2_weigh_40 (cc2_1 hi) (by decide) (by decide) (by decide) rfl ((h.1 z2).2.2 z1).2.1 <|
 T_return dX2_weigh_41 rfl ((h.1 z2).2.2 z1).2.2)) (fun z2 =>
 T_aload_n dX2_weigh_4 rfl <|
 T_getR (C := RX2) (T := TX2) (N := 4) (f := 0) dX2_weigh_5 (cc2_0 hi) rfl (by decide) wf_X2_11 rfl <|
 T_iload_n dX2_weigh_8 rfl <|
 T_ldc dX2_weigh_9 wc_X2_51 <|
 T_iast (n := 20) dX2_weigh_11 (cc2_1 hi) (by decide) (by decide) (by decide) rfl (h.2 z2).1 <|
 T_goto (tgt := 41) dX2_weigh_12 (by decide) <|
 T_return dX2_weigh_41 rfl (h.2 z2).2)
theorem rX2_follow_0 {X : Nat × (Nat → Int32)} {i : Nat} (hi : i < 2) {a1 : Int32} {M : Mem} {Q : Option PV → Mem → Prop} (h : (1000000 ≤ ((mset M 2 i 0 3 0) 2 i 1 0) → TT X kX2_follow 27 [some (pR (2, i, 0)), some (pI a1), some (pI a1)] [] (mset M 2 i 0 3 0) Q) ∧ (¬ 1000000 ≤ ((mset M 2 i 0 3 0) 2 i 1 0) → TT X kX2_follow 27 [some (pR (2, i, 0)), some (pI a1), some (pI ((mset M 2 i 0 3 0) 2 i 2 0))] [] (mset M 2 i 0 3 0) Q)) : TT X kX2_follow 0 [some (pR (2, i, 0)), some (pI a1), none] [] M Q :=
 T_aload_n dX2_follow_0 rfl <|
 T_iconst dX2_follow_1 ic_0 <|
 T_putI (C := RX2) (T := TX2) (N := 4) (f := 3) dX2_follow_2 (cc2_0 hi) rfl (by decide) wf_X2_52 rfl rfl rfl <|
 T_aload_n dX2_follow_5 rfl <|
 T_getR (C := RX2) (T := TX2) (N := 4) (f := 0) dX2_follow_6 (cc2_0 hi) rfl (by decide) wf_X2_11 rfl <|
 T_iconst dX2_follow_9 ic_0 <|
 T_ialdN (n := 20) dX2_follow_10 (cc2_1 hi) (by decide) (by decide) (by decide) rfl vi_0_20 tn_0 <|
 T_ldc dX2_follow_11 wc_X2_51 <|
 T_icmp_ge (tgt := 25) dX2_follow_13 (by decide) (fun z1 =>
 T_iload_n dX2_follow_25 rfl <|
 T_istore_n dX2_follow_26 (by decide) rfl rfl <|
 (h.1 z1)) (fun z1 =>
 T_aload_n dX2_follow_16 rfl <|
 T_getR (C := RX2) (T := TX2) (N := 4) (f := 1) dX2_follow_17 (cc2_0 hi) rfl (by decide) wf_X2_17 rfl <|
 T_iconst dX2_follow_20 ic_0 <|
 T_ialdN (n := 20) dX2_follow_21 (cc2_2 hi) (by decide) (by decide) (by decide) rfl vi_0_20 tn_0 <|
 T_goto (tgt := 26) dX2_follow_22 (by decide) <|
 T_istore_n dX2_follow_26 (by decide) rfl rfl <|
 (h.2 z1))
theorem rX2_follow_27 {X : Nat × (Nat → Int32)} {i : Nat} (hi : i < 2) {b1 : Int32} {b2 : Int32} {M : Mem} {Q : Option PV → Mem → Prop} (h : (18 ≤ (M 2 i 0 3) → Q none M) ∧ (¬ 18 ≤ (M 2 i 0 3) → (b2 ≤ 0 → Q none M) ∧ (¬ b2 ≤ 0 → (b1 ≤ b2 → Q none M) ∧ (¬ b1 ≤ b2 → vp_in (M 2 i 0 3) 18 ∧ (vp_in b2 20 ∧ (TT X kX2_follow 27 [some (pR (2, i, 0)), some (pI b1), some (pI ((mset (mset M 2 i 3 (Int32.toNatClampNeg (M 2 i 0 3)) (b2 - 1)) 2 i 0 3 (((mset M 2 i 3 (Int32.toNatClampNeg (M 2 i 0 3)) (b2 - 1)) 2 i 0 3) + 1)) 2 i 2 (Int32.toNatClampNeg b2)))] [] (mset (mset M 2 i 3 (Int32.toNatClampNeg (M 2 i 0 3)) (b2 - 1)) 2 i 0 3 (((mset M 2 i 3 (Int32.toNatClampNeg (M 2 i 0 3)) (b2 - 1)) 2 i 0 3) + 1)) Q)))))) : TT X kX2_follow 27 [some (pR (2, i, 0)), some (pI b1), some (pI b2)] [] M Q :=
 T_aload_n dX2_follow_27 rfl <|
 T_getI (C := RX2) (T := TX2) (N := 4) (f := 3) dX2_follow_28 (cc2_0 hi) rfl (by decide) wf_X2_52 rfl <|
 T_bipush dX2_follow_31 bp_18 <|
 T_icmp_ge (tgt := 77) dX2_follow_33 (by decide) (fun z4 =>
 T_return dX2_follow_77 rfl (h.1 z4)) (fun z4 =>
 T_iload_n dX2_follow_36 rfl <|
 T_if_le (tgt := 77) dX2_follow_37 (by decide) (fun z3 =>
 T_return dX2_follow_77 rfl ((h.2 z4).1 z3)) (fun z3 =>
 T_iload_n dX2_follow_40 rfl <|
 T_iload_n dX2_follow_41 rfl <|
 T_icmp_ge (tgt := 77) dX2_follow_42 (by decide) (fun z2 =>
 T_return dX2_follow_77 rfl (((h.2 z4).2 z3).1 z2)) (fun z2 =>
 T_aload_n dX2_follow_45 rfl <|
 T_getR (C := RX2) (T := TX2) (N := 4) (f := 2) dX2_follow_46 (cc2_0 hi) rfl (by decide) wf_X2_20 rfl <|
 T_aload_n dX2_follow_49 rfl <|
 T_getI (C := RX2) (T := TX2) (N := 4) (f := 3) dX2_follow_50 (cc2_0 hi) rfl (by decide) wf_X2_52 rfl <|
 T_iload_n dX2_follow_53 rfl <|
 T_iconst dX2_follow_54 ic_1 <|
 T_isub dX2_follow_55 <|
 T_iast (n := 18) dX2_follow_56 (cc2_3 hi) (by decide) (by decide) (by decide) rfl (((h.2 z4).2 z3).2 z2).1 <|
 T_aload_n dX2_follow_57 rfl <|
 T_dupR dX2_follow_58 <|
 T_getI (C := RX2) (T := TX2) (N := 4) (f := 3) dX2_follow_59 (cc2_0 hi) rfl (by decide) wf_X2_52 rfl <|
 T_iconst dX2_follow_62 ic_1 <|
 T_iadd dX2_follow_63 <|
 T_putI (C := RX2) (T := TX2) (N := 4) (f := 3) dX2_follow_64 (cc2_0 hi) rfl (by decide) wf_X2_52 rfl rfl rfl <|
 T_aload_n dX2_follow_67 rfl <|
 T_getR (C := RX2) (T := TX2) (N := 4) (f := 1) dX2_follow_68 (cc2_0 hi) rfl (by decide) wf_X2_17 rfl <|
 T_iload_n dX2_follow_71 rfl <|
 T_iald (n := 20) dX2_follow_72 (cc2_2 hi) (by decide) (by decide) (by decide) rfl (((h.2 z4).2 z3).2 z2).2.1 <|
 T_istore_n dX2_follow_73 (by decide) rfl rfl <|
 T_goto (tgt := 27) dX2_follow_74 (by decide) <|
 (((h.2 z4).2 z3).2 z2).2.2)))
theorem rX2_isThere_0 {X : Nat × (Nat → Int32)} {i : Nat} (hi : i < 2) {M : Mem} {Q : Option PV → Mem → Prop} (h : (1000000 ≤ (M 2 i 1 0) → Q (some (pI 0)) M) ∧ (¬ 1000000 ≤ (M 2 i 1 0) → Q (some (pI 1)) M)) : TT X kX2_isThere 0 [some (pR (2, i, 0))] [] M Q :=
 T_aload_n dX2_isThere_0 rfl <|
 T_getR (C := RX2) (T := TX2) (N := 4) (f := 0) dX2_isThere_1 (cc2_0 hi) rfl (by decide) wf_X2_11 rfl <|
 T_iconst dX2_isThere_4 ic_0 <|
 T_ialdN (n := 20) dX2_isThere_5 (cc2_1 hi) (by decide) (by decide) (by decide) rfl vi_0_20 tn_0 <|
 T_ldc dX2_isThere_6 wc_X2_51 <|
 T_icmp_ge (tgt := 15) dX2_isThere_8 (by decide) (fun z1 =>
 T_iconst dX2_isThere_15 ic_0 <|
 T_ireturn (ty := .boolean) dX2_isThere_16 rfl rfl (h.1 z1)) (fun z1 =>
 T_iconst dX2_isThere_11 ic_1 <|
 T_goto (tgt := 16) dX2_isThere_12 (by decide) <|
 T_ireturn (ty := .boolean) dX2_isThere_16 rfl rfl (h.2 z1))
theorem rX2_treads_0 {X : Nat × (Nat → Int32)} {i : Nat} (hi : i < 2) {M : Mem} {Q : Option PV → Mem → Prop} (h : Q (some (pI (M 2 i 0 3))) M) : TT X kX2_treads 0 [some (pR (2, i, 0))] [] M Q :=
 T_aload_n dX2_treads_0 rfl <|
 T_getI (C := RX2) (T := TX2) (N := 4) (f := 3) dX2_treads_1 (cc2_0 hi) rfl (by decide) wf_X2_52 rfl <|
 T_ireturn (ty := .int) dX2_treads_4 rfl rfl h
theorem rX2_tread_0 {X : Nat × (Nat → Int32)} {i : Nat} (hi : i < 2) {a1 : Int32} {M : Mem} {Q : Option PV → Mem → Prop} (h : (a1 < 0 → Q (some (pI (-1000000))) M) ∧ (¬ a1 < 0 → ((M 2 i 0 3) ≤ a1 → Q (some (pI (-1000000))) M) ∧ (¬ (M 2 i 0 3) ≤ a1 → vp_in a1 18 ∧ (Q (some (pI (M 2 i 3 (Int32.toNatClampNeg a1)))) M)))) : TT X kX2_tread 0 [some (pR (2, i, 0)), some (pI a1)] [] M Q :=
 T_iload_n dX2_tread_0 rfl <|
 T_if_lt (tgt := 21) dX2_tread_1 (by decide) (fun z2 =>
 T_ldc dX2_tread_21 wc_X2_55 <|
 T_ireturn (ty := .int) dX2_tread_23 rfl rfl (h.1 z2)) (fun z2 =>
 T_iload_n dX2_tread_4 rfl <|
 T_aload_n dX2_tread_5 rfl <|
 T_getI (C := RX2) (T := TX2) (N := 4) (f := 3) dX2_tread_6 (cc2_0 hi) rfl (by decide) wf_X2_52 rfl <|
 T_icmp_ge (tgt := 21) dX2_tread_9 (by decide) (fun z1 =>
 T_ldc dX2_tread_21 wc_X2_55 <|
 T_ireturn (ty := .int) dX2_tread_23 rfl rfl ((h.2 z2).1 z1)) (fun z1 =>
 T_aload_n dX2_tread_12 rfl <|
 T_getR (C := RX2) (T := TX2) (N := 4) (f := 2) dX2_tread_13 (cc2_0 hi) rfl (by decide) wf_X2_20 rfl <|
 T_iload_n dX2_tread_16 rfl <|
 T_iald (n := 18) dX2_tread_17 (cc2_3 hi) (by decide) (by decide) (by decide) rfl ((h.2 z2).2 z1).1 <|
 T_goto (tgt := 23) dX2_tread_18 (by decide) <|
 T_ireturn (ty := .int) dX2_tread_23 rfl rfl ((h.2 z2).2 z1).2))
theorem rX2_askedInAll_0 {X : Nat × (Nat → Int32)} {i : Nat} (hi : i < 2) {M : Mem} {Q : Option PV → Mem → Prop} (h : Q (some (pI ((M 2 i 1 0) / 32))) M) : TT X kX2_askedInAll 0 [some (pR (2, i, 0))] [] M Q :=
 T_aload_n dX2_askedInAll_0 rfl <|
 T_getR (C := RX2) (T := TX2) (N := 4) (f := 0) dX2_askedInAll_1 (cc2_0 hi) rfl (by decide) wf_X2_11 rfl <|
 T_iconst dX2_askedInAll_4 ic_0 <|
 T_ialdN (n := 20) dX2_askedInAll_5 (cc2_1 hi) (by decide) (by decide) (by decide) rfl vi_0_20 tn_0 <|
 T_bipush dX2_askedInAll_6 bp_32 <|
 T_idiv dX2_askedInAll_8 (by decide) <|
 T_ireturn (ty := .int) dX2_askedInAll_9 rfl rfl h
theorem rX2_cost_0 {X : Nat × (Nat → Int32)} {i : Nat} (hi : i < 2) {j1 : Nat} (hj1 : j1 < 5) {a2 : Int32} {M : Mem} {Q : Option PV → Mem → Prop} (h : TT X kX2_askedInAll 0 [some (pR (2, i, 0))] [] M (rI fun v2 M1 => TT X kX6_times 0 [some (pR (6, j1, 0)), some (pI a2)] [] M1 (rI fun v4 M3 => Q (some (pI (v2 * v4))) M3))) : TT X kX2_cost 0 [some (pR (2, i, 0)), some (pR (6, j1, 0)), some (pI a2)] [] M Q :=
 T_aload_n dX2_cost_0 rfl <|
 T_callVi (k' := kX2_askedInAll) (vs := []) (st := []) dX2_cost_1 wm_X2_56 okX2_askedInAll rfl (cc2_0 hi) rfl rfl rfl (Nat.le_of_ble_eq_true rfl) rfl (Nat.le_of_ble_eq_true rfl) (TT.mono h (rI_mono (fun v2 M1 h6 =>
 T_aload_n dX2_cost_4 rfl <|
 T_iload_n dX2_cost_5 rfl <|
 T_callVi (k' := kX6_times) (vs := [pI a2]) (st := [pI v2]) dX2_cost_6 wm_X2_60 okX6_times rfl (cc6_0 hj1) rfl rfl rfl (Nat.le_of_ble_eq_true rfl) rfl (Nat.le_of_ble_eq_true rfl) (TT.mono h6 (rI_mono (fun v4 M3 h5 =>
 T_imul dX2_cost_9 <|
 T_ireturn (ty := .int) dX2_cost_10 rfl rfl h5))))))
theorem rX2_isGone_0 {X : Nat × (Nat → Int32)} {i : Nat} (hi : i < 2) {j1 : Nat} (hj1 : j1 < 5) {a2 : Int32} {M : Mem} {Q : Option PV → Mem → Prop} (h : TT X kX2_isThere 0 [some (pR (2, i, 0))] [] M (rI fun v2 M1 => (v2 = 0 → Q (some (pI 0)) M1) ∧ (¬ v2 = 0 → TT X kX6_hasWalker 0 [some (pR (6, j1, 0)), some (pI a2)] [] M1 (rI fun v4 M3 => (v4 = 0 → Q (some (pI 0)) M3) ∧ (¬ v4 = 0 → TT X kX2_cost 0 [some (pR (2, i, 0)), some (pR (6, j1, 0)), some (pI a2)] [] M3 (rI fun v6 M5 => vp_in a2 6 ∧ (((M5 6 j1 8 (Int32.toNatClampNeg a2)) < v6 → Q (some (pI 0)) M5) ∧ (¬ (M5 6 j1 8 (Int32.toNatClampNeg a2)) < v6 → Q (some (pI 1)) M5)))))))) : TT X kX2_isGone 0 [some (pR (2, i, 0)), some (pR (6, j1, 0)), some (pI a2)] [] M Q :=
 T_aload_n dX2_isGone_0 rfl <|
 T_callVi (k' := kX2_isThere) (vs := []) (st := []) dX2_isGone_1 wm_X2_64 okX2_isThere rfl (cc2_0 hi) rfl rfl rfl (Nat.le_of_ble_eq_true rfl) rfl (Nat.le_of_ble_eq_true rfl) (TT.mono h (rI_mono (fun v2 M1 h12 =>
 T_if_eq (tgt := 34) dX2_isGone_4 (by decide) (fun z11 =>
 T_iconst dX2_isGone_34 ic_0 <|
 T_ireturn (ty := .boolean) dX2_isGone_35 rfl rfl (h12.1 z11)) (fun z11 =>
 T_aload_n dX2_isGone_7 rfl <|
 T_iload_n dX2_isGone_8 rfl <|
 T_callVi (k' := kX6_hasWalker) (vs := [pI a2]) (st := []) dX2_isGone_9 wm_X2_68 okX6_hasWalker rfl (cc6_0 hj1) rfl rfl rfl (Nat.le_of_ble_eq_true rfl) rfl (Nat.le_of_ble_eq_true rfl) (TT.mono (h12.2 z11) (rI_mono (fun v4 M3 h10 =>
 T_if_eq (tgt := 34) dX2_isGone_12 (by decide) (fun z9 =>
 T_iconst dX2_isGone_34 ic_0 <|
 T_ireturn (ty := .boolean) dX2_isGone_35 rfl rfl (h10.1 z9)) (fun z9 =>
 T_aload_n dX2_isGone_15 rfl <|
 T_aload_n dX2_isGone_16 rfl <|
 T_iload_n dX2_isGone_17 rfl <|
 T_callVi (k' := kX2_cost) (vs := [pR (6, j1, 0), pI a2]) (st := []) dX2_isGone_18 wm_X2_72 okX2_cost rfl (cc2_0 hi) rfl rfl rfl (Nat.le_of_ble_eq_true rfl) rfl (Nat.le_of_ble_eq_true rfl) (TT.mono (h10.2 z9) (rI_mono (fun v6 M5 h8 =>
 T_aload_n dX2_isGone_21 rfl <|
 T_getR (C := RX6) (T := TX6) (N := 9) (f := 7) dX2_isGone_22 (cc6_0 hj1) rfl (by decide) wf_X2_76 rfl <|
 T_iload_n dX2_isGone_25 rfl <|
 T_iald (n := 6) dX2_isGone_26 (cc6_8 hj1) (by decide) (by decide) (by decide) rfl h8.1 <|
 T_icmp_gt (tgt := 34) dX2_isGone_27 (by decide) (fun z7 =>
 T_iconst dX2_isGone_34 ic_0 <|
 T_ireturn (ty := .boolean) dX2_isGone_35 rfl rfl (h8.2.1 z7)) (fun z7 =>
 T_iconst dX2_isGone_30 ic_1 <|
 T_goto (tgt := 35) dX2_isGone_31 (by decide) <|
 T_ireturn (ty := .boolean) dX2_isGone_35 rfl rfl (h8.2.2 z7)))))))))))))
theorem rX2_askedBy_0 {X : Nat × (Nat → Int32)} {i : Nat} (hi : i < 2) {j1 : Nat} (hj1 : j1 < 5) {a2 : Int32} {M : Mem} {Q : Option PV → Mem → Prop} (h : TT X kX2_askedBy 5 [some (pR (2, i, 0)), some (pR (6, j1, 0)), some (pI a2), some (pI 0), some (pI 0)] [] M Q) : TT X kX2_askedBy 0 [some (pR (2, i, 0)), some (pR (6, j1, 0)), some (pI a2), none, none] [] M Q :=
 T_iconst dX2_askedBy_0 ic_0 <|
 T_istore_n dX2_askedBy_1 (by decide) rfl rfl <|
 T_iconst dX2_askedBy_2 ic_0 <|
 T_istore dX2_askedBy_3 (by decide) rfl rfl <|
 h
theorem rX2_askedBy_5 {X : Nat × (Nat → Int32)} {i : Nat} (hi : i < 2) {j1 : Nat} (hj1 : j1 < 5) {b2 : Int32} {b3 : Int32} {b4 : Int32} {M : Mem} {Q : Option PV → Mem → Prop} (h : ((M 2 i 0 3) ≤ b4 → Q (some (pI b3)) M) ∧ (¬ (M 2 i 0 3) ≤ b4 → vp_in b4 18 ∧ (TT X kX6_isOf 0 [some (pR (6, j1, 0)), some (pI b2), some (pI (M 2 i 3 (Int32.toNatClampNeg b4)))] [] M (rI fun v2 M1 => (v2 = 0 → TT X kX2_askedBy 5 [some (pR (2, i, 0)), some (pR (6, j1, 0)), some (pI b2), some (pI b3), some (pI (b4 + 1))] [] M1 Q) ∧ (¬ v2 = 0 → vp_in b4 18 ∧ (vp_in (M1 2 i 3 (Int32.toNatClampNeg b4)) 18 ∧ (TT X kX2_askedBy 5 [some (pR (2, i, 0)), some (pR (6, j1, 0)), some (pI b2), some (pI (b3 + (M1 6 j1 4 (Int32.toNatClampNeg (M1 2 i 3 (Int32.toNatClampNeg b4)))))), some (pI (b4 + 1))] [] M1 Q))))))) : TT X kX2_askedBy 5 [some (pR (2, i, 0)), some (pR (6, j1, 0)), some (pI b2), some (pI b3), some (pI b4)] [] M Q :=
 T_iload dX2_askedBy_5 rfl <|
 T_aload_n dX2_askedBy_7 rfl <|
 T_getI (C := RX2) (T := TX2) (N := 4) (f := 3) dX2_askedBy_8 (cc2_0 hi) rfl (by decide) wf_X2_52 rfl <|
 T_icmp_ge (tgt := 50) dX2_askedBy_11 (by decide) (fun z5 =>
 T_iload_n dX2_askedBy_50 rfl <|
 T_ireturn (ty := .int) dX2_askedBy_51 rfl rfl (h.1 z5)) (fun z5 =>
 T_aload_n dX2_askedBy_14 rfl <|
 T_iload_n dX2_askedBy_15 rfl <|
 T_aload_n dX2_askedBy_16 rfl <|
 T_getR (C := RX2) (T := TX2) (N := 4) (f := 2) dX2_askedBy_17 (cc2_0 hi) rfl (by decide) wf_X2_20 rfl <|
 T_iload dX2_askedBy_20 rfl <|
 T_iald (n := 18) dX2_askedBy_22 (cc2_3 hi) (by decide) (by decide) (by decide) rfl (h.2 z5).1 <|
 T_callVi (k' := kX6_isOf) (vs := [pI b2, pI (M 2 i 3 (Int32.toNatClampNeg b4))]) (st := []) dX2_askedBy_23 wm_X2_79 okX6_isOf rfl (cc6_0 hj1) rfl rfl rfl (Nat.le_of_ble_eq_true rfl) rfl (Nat.le_of_ble_eq_true rfl) (TT.mono (h.2 z5).2 (rI_mono (fun v2 M1 h4 =>
 T_if_eq (tgt := 44) dX2_askedBy_26 (by decide) (fun z3 =>
 T_iinc dX2_askedBy_44 rfl (ii_1 _) (by decide) rfl rfl <|
 T_goto (tgt := 5) dX2_askedBy_47 (by decide) <|
 (h4.1 z3)) (fun z3 =>
 T_iload_n dX2_askedBy_29 rfl <|
 T_aload_n dX2_askedBy_30 rfl <|
 T_getR (C := RX6) (T := TX6) (N := 9) (f := 3) dX2_askedBy_31 (cc6_0 hj1) rfl (by decide) wf_X2_37 rfl <|
 T_aload_n dX2_askedBy_34 rfl <|
 T_getR (C := RX2) (T := TX2) (N := 4) (f := 2) dX2_askedBy_35 (cc2_0 hi) rfl (by decide) wf_X2_20 rfl <|
 T_iload dX2_askedBy_38 rfl <|
 T_iald (n := 18) dX2_askedBy_40 (cc2_3 hi) (by decide) (by decide) (by decide) rfl (h4.2 z3).1 <|
 T_iald (n := 18) dX2_askedBy_41 (cc6_4 hj1) (by decide) (by decide) (by decide) rfl (h4.2 z3).2.1 <|
 T_iadd dX2_askedBy_42 <|
 T_istore_n dX2_askedBy_43 (by decide) rfl rfl <|
 T_iinc dX2_askedBy_44 rfl (ii_1 _) (by decide) rfl rfl <|
 T_goto (tgt := 5) dX2_askedBy_47 (by decide) <|
 (h4.2 z3).2.2)))))
