theorem rX6_isOwner_0 {X : Nat × (Nat → Int32)} {a1 : Int32} {M : Mem} {Q : Option PV → Mem → Prop} (h : (a1 < 0 → Q (some (pI 0)) M) ∧ (¬ a1 < 0 → (5 ≤ a1 → Q (some (pI 0)) M) ∧ (¬ 5 ≤ a1 → Q (some (pI 1)) M))) : TT X kX6_isOwner 0 [some (pI a1)] [] M Q :=
 T_iload_n dX6_isOwner_0 rfl <|
 T_if_lt (tgt := 13) dX6_isOwner_1 (by decide) (fun z2 =>
 T_iconst dX6_isOwner_13 ic_0 <|
 T_ireturn (ty := .boolean) dX6_isOwner_14 rfl rfl (h.1 z2)) (fun z2 =>
 T_iload_n dX6_isOwner_4 rfl <|
 T_iconst dX6_isOwner_5 ic_5 <|
 T_icmp_ge (tgt := 13) dX6_isOwner_6 (by decide) (fun z1 =>
 T_iconst dX6_isOwner_13 ic_0 <|
 T_ireturn (ty := .boolean) dX6_isOwner_14 rfl rfl ((h.2 z2).1 z1)) (fun z1 =>
 T_iconst dX6_isOwner_9 ic_1 <|
 T_goto (tgt := 14) dX6_isOwner_10 (by decide) <|
 T_ireturn (ty := .boolean) dX6_isOwner_14 rfl rfl ((h.2 z2).2 z1)))
theorem rX6_isNone_0 {X : Nat × (Nat → Int32)} {i : Nat} (hi : i < 5) {M : Mem} {Q : Option PV → Mem → Prop} (h : (¬ (M 6 i 0 0) = 0 → Q (some (pI 0)) M) ∧ ((M 6 i 0 0) = 0 → Q (some (pI 1)) M)) : TT X kX6_isNone 0 [some (pR (6, i, 0))] [] M Q :=
 T_aload_n dX6_isNone_0 rfl <|
 T_getI (C := RX6) (T := TX6) (N := 9) (f := 0) dX6_isNone_1 (cc6_0 hi) rfl (by decide) wf_X6_31 rfl <|
 T_if_ne (tgt := 11) dX6_isNone_4 (by decide) (fun z1 =>
 T_iconst dX6_isNone_11 ic_0 <|
 T_ireturn (ty := .boolean) dX6_isNone_12 rfl rfl (h.1 z1)) (fun z1 =>
 T_iconst dX6_isNone_7 ic_1 <|
 T_goto (tgt := 12) dX6_isNone_8 (by decide) <|
 T_ireturn (ty := .boolean) dX6_isNone_12 rfl rfl (h.2 z1))
theorem rX6_hasStep_0 {X : Nat × (Nat → Int32)} {i : Nat} (hi : i < 5) {a1 : Int32} {M : Mem} {Q : Option PV → Mem → Prop} (h : (a1 < 0 → Q (some (pI 0)) M) ∧ (¬ a1 < 0 → ((M 6 i 0 0) ≤ a1 → Q (some (pI 0)) M) ∧ (¬ (M 6 i 0 0) ≤ a1 → Q (some (pI 1)) M))) : TT X kX6_hasStep 0 [some (pR (6, i, 0)), some (pI a1)] [] M Q :=
 T_iload_n dX6_hasStep_0 rfl <|
 T_if_lt (tgt := 16) dX6_hasStep_1 (by decide) (fun z2 =>
 T_iconst dX6_hasStep_16 ic_0 <|
 T_ireturn (ty := .boolean) dX6_hasStep_17 rfl rfl (h.1 z2)) (fun z2 =>
 T_iload_n dX6_hasStep_4 rfl <|
 T_aload_n dX6_hasStep_5 rfl <|
 T_getI (C := RX6) (T := TX6) (N := 9) (f := 0) dX6_hasStep_6 (cc6_0 hi) rfl (by decide) wf_X6_31 rfl <|
 T_icmp_ge (tgt := 16) dX6_hasStep_9 (by decide) (fun z1 =>
 T_iconst dX6_hasStep_16 ic_0 <|
 T_ireturn (ty := .boolean) dX6_hasStep_17 rfl rfl ((h.2 z2).1 z1)) (fun z1 =>
 T_iconst dX6_hasStep_12 ic_1 <|
 T_goto (tgt := 17) dX6_hasStep_13 (by decide) <|
 T_ireturn (ty := .boolean) dX6_hasStep_17 rfl rfl ((h.2 z2).2 z1)))
theorem rX6_hasWalker_0 {X : Nat × (Nat → Int32)} {i : Nat} (hi : i < 5) {a1 : Int32} {M : Mem} {Q : Option PV → Mem → Prop} (h : (a1 < 0 → Q (some (pI 0)) M) ∧ (¬ a1 < 0 → ((M 6 i 0 1) ≤ a1 → Q (some (pI 0)) M) ∧ (¬ (M 6 i 0 1) ≤ a1 → Q (some (pI 1)) M))) : TT X kX6_hasWalker 0 [some (pR (6, i, 0)), some (pI a1)] [] M Q :=
 T_iload_n dX6_hasWalker_0 rfl <|
 T_if_lt (tgt := 16) dX6_hasWalker_1 (by decide) (fun z2 =>
 T_iconst dX6_hasWalker_16 ic_0 <|
 T_ireturn (ty := .boolean) dX6_hasWalker_17 rfl rfl (h.1 z2)) (fun z2 =>
 T_iload_n dX6_hasWalker_4 rfl <|
 T_aload_n dX6_hasWalker_5 rfl <|
 T_getI (C := RX6) (T := TX6) (N := 9) (f := 1) dX6_hasWalker_6 (cc6_0 hi) rfl (by decide) wf_X6_35 rfl <|
 T_icmp_ge (tgt := 16) dX6_hasWalker_9 (by decide) (fun z1 =>
 T_iconst dX6_hasWalker_16 ic_0 <|
 T_ireturn (ty := .boolean) dX6_hasWalker_17 rfl rfl ((h.2 z2).1 z1)) (fun z1 =>
 T_iconst dX6_hasWalker_12 ic_1 <|
 T_goto (tgt := 17) dX6_hasWalker_13 (by decide) <|
 T_ireturn (ty := .boolean) dX6_hasWalker_17 rfl rfl ((h.2 z2).2 z1)))
theorem rX6_hasReach_0 {X : Nat × (Nat → Int32)} {i : Nat} (hi : i < 5) {a1 : Int32} {M : Mem} {Q : Option PV → Mem → Prop} (h : TT X kX6_hasReach 2 [some (pR (6, i, 0)), some (pI a1), some (pI 0)] [] M Q) : TT X kX6_hasReach 0 [some (pR (6, i, 0)), some (pI a1), none] [] M Q :=
 T_iconst dX6_hasReach_0 ic_0 <|
 T_istore_n dX6_hasReach_1 (by decide) rfl rfl <|
 h
theorem rX6_hasReach_2 {X : Nat × (Nat → Int32)} {i : Nat} (hi : i < 5) {b1 : Int32} {b2 : Int32} {M : Mem} {Q : Option PV → Mem → Prop} (h : ((M 6 i 0 1) ≤ b2 → Q (some (pI 0)) M) ∧ (¬ (M 6 i 0 1) ≤ b2 → vp_in b2 6 ∧ ((¬ (M 6 i 6 (Int32.toNatClampNeg b2)) = b1 → TT X kX6_hasReach 2 [some (pR (6, i, 0)), some (pI b1), some (pI (b2 + 1))] [] M Q) ∧ ((M 6 i 6 (Int32.toNatClampNeg b2)) = b1 → Q (some (pI 1)) M)))) : TT X kX6_hasReach 2 [some (pR (6, i, 0)), some (pI b1), some (pI b2)] [] M Q :=
 T_iload_n dX6_hasReach_2 rfl <|
 T_aload_n dX6_hasReach_3 rfl <|
 T_getI (C := RX6) (T := TX6) (N := 9) (f := 1) dX6_hasReach_4 (cc6_0 hi) rfl (by decide) wf_X6_35 rfl <|
 T_icmp_ge (tgt := 28) dX6_hasReach_7 (by decide) (fun z2 =>
 T_iconst dX6_hasReach_28 ic_0 <|
 T_ireturn (ty := .boolean) dX6_hasReach_29 rfl rfl (h.1 z2)) (fun z2 =>
 T_aload_n dX6_hasReach_10 rfl <|
 T_getR (C := RX6) (T := TX6) (N := 9) (f := 5) dX6_hasReach_11 (cc6_0 hi) rfl (by decide) wf_X6_19 rfl <|
 T_iload_n dX6_hasReach_14 rfl <|
 T_iald (n := 6) dX6_hasReach_15 (cc6_6 hi) (by decide) (by decide) (by decide) rfl (h.2 z2).1 <|
 T_iload_n dX6_hasReach_16 rfl <|
 T_icmp_ne (tgt := 22) dX6_hasReach_17 (by decide) (fun z1 =>
 T_iinc dX6_hasReach_22 rfl (ii_1 _) (by decide) rfl rfl <|
 T_goto (tgt := 2) dX6_hasReach_25 (by decide) <|
 ((h.2 z2).2.1 z1)) (fun z1 =>
 T_iconst dX6_hasReach_20 ic_1 <|
 T_ireturn (ty := .boolean) dX6_hasReach_21 rfl rfl ((h.2 z2).2.2 z1)))
theorem rX6_clear_0 {X : Nat × (Nat → Int32)} {i : Nat} (hi : i < 5) {M : Mem} {Q : Option PV → Mem → Prop} (h : Q none (mset (mset M 6 i 0 0 0) 6 i 0 1 0)) : TT X kX6_clear 0 [some (pR (6, i, 0))] [] M Q :=
 T_aload_n dX6_clear_0 rfl <|
 T_iconst dX6_clear_1 ic_0 <|
 T_putI (C := RX6) (T := TX6) (N := 9) (f := 0) dX6_clear_2 (cc6_0 hi) rfl (by decide) wf_X6_31 rfl rfl rfl <|
 T_aload_n dX6_clear_5 rfl <|
 T_iconst dX6_clear_6 ic_0 <|
 T_putI (C := RX6) (T := TX6) (N := 9) (f := 1) dX6_clear_7 (cc6_0 hi) rfl (by decide) wf_X6_35 rfl rfl rfl <|
 T_return dX6_clear_10 rfl h
theorem rX6_addStep_0 {X : Nat × (Nat → Int32)} {i : Nat} (hi : i < 5) {a1 : Int32} {a2 : Int32} {M : Mem} {Q : Option PV → Mem → Prop} (h : (18 ≤ (M 6 i 0 0) → Q none M) ∧ (¬ 18 ≤ (M 6 i 0 0) → vp_in (M 6 i 0 0) 18 ∧ (vp_in ((mset M 6 i 3 (Int32.toNatClampNeg (M 6 i 0 0)) a1) 6 i 0 0) 18 ∧ (vp_in ((mset (mset M 6 i 3 (Int32.toNatClampNeg (M 6 i 0 0)) a1) 6 i 4 (Int32.toNatClampNeg ((mset M 6 i 3 (Int32.toNatClampNeg (M 6 i 0 0)) a1) 6 i 0 0)) a2) 6 i 0 0) 18 ∧ (Q none (mset (mset (mset (mset M 6 i 3 (Int32.toNatClampNeg (M 6 i 0 0)) a1) 6 i 4 (Int32.toNatClampNeg ((mset M 6 i 3 (Int32.toNatClampNeg (M 6 i 0 0)) a1) 6 i 0 0)) a2) 6 i 5 (Int32.toNatClampNeg ((mset (mset M 6 i 3 (Int32.toNatClampNeg (M 6 i 0 0)) a1) 6 i 4 (Int32.toNatClampNeg ((mset M 6 i 3 (Int32.toNatClampNeg (M 6 i 0 0)) a1) 6 i 0 0)) a2) 6 i 0 0)) 0) 6 i 0 0 (((mset (mset (mset M 6 i 3 (Int32.toNatClampNeg (M 6 i 0 0)) a1) 6 i 4 (Int32.toNatClampNeg ((mset M 6 i 3 (Int32.toNatClampNeg (M 6 i 0 0)) a1) 6 i 0 0)) a2) 6 i 5 (Int32.toNatClampNeg ((mset (mset M 6 i 3 (Int32.toNatClampNeg (M 6 i 0 0)) a1) 6 i 4 (Int32.toNatClampNeg ((mset M 6 i 3 (Int32.toNatClampNeg (M 6 i 0 0)) a1) 6 i 0 0)) a2) 6 i 0 0)) 0) 6 i 0 0) + 1))))))) : TT X kX6_addStep 0 [some (pR (6, i, 0)), some (pI a1), some (pI a2)] [] M Q :=
 T_aload_n dX6_addStep_0 rfl <|
 T_getI (C := RX6) (T := TX6) (N := 9) (f := 0) dX6_addStep_1 (cc6_0 hi) rfl (by decide) wf_X6_31 rfl <|
 T_bipush dX6_addStep_4 bp_18 <|
 T_icmp_ge (tgt := 49) dX6_addStep_6 (by decide) (fun z1 =>
 T_return dX6_addStep_49 rfl (h.1 z1)) (fun z1 =>
 T_aload_n dX6_addStep_9 rfl <|
 T_getR (C := RX6) (T := TX6) (N := 9) (f := 2) dX6_addStep_10 (cc6_0 hi) rfl (by decide) wf_X6_9 rfl <|
 T_aload_n dX6_addStep_13 rfl <|
 T_getI (C := RX6) (T := TX6) (N := 9) (f := 0) dX6_addStep_14 (cc6_0 hi) rfl (by decide) wf_X6_31 rfl <|
 T_iload_n dX6_addStep_17 rfl <|
 T_iast (n := 18) dX6_addStep_18 (cc6_3 hi) (by decide) (by decide) (by decide) rfl (h.2 z1).1 <|
 T_aload_n dX6_addStep_19 rfl <|
 T_getR (C := RX6) (T := TX6) (N := 9) (f := 3) dX6_addStep_20 (cc6_0 hi) rfl (by decide) wf_X6_13 rfl <|
 T_aload_n dX6_addStep_23 rfl <|
 T_getI (C := RX6) (T := TX6) (N := 9) (f := 0) dX6_addStep_24 (cc6_0 hi) rfl (by decide) wf_X6_31 rfl <|
 T_iload_n dX6_addStep_27 rfl <|
 T_iast (n := 18) dX6_addStep_28 (cc6_4 hi) (by decide) (by decide) (by decide) rfl (h.2 z1).2.1 <|
 T_aload_n dX6_addStep_29 rfl <|
 T_getR (C := RX6) (T := TX6) (N := 9) (f := 4) dX6_addStep_30 (cc6_0 hi) rfl (by decide) wf_X6_16 rfl <|
 T_aload_n dX6_addStep_33 rfl <|
 T_getI (C := RX6) (T := TX6) (N := 9) (f := 0) dX6_addStep_34 (cc6_0 hi) rfl (by decide) wf_X6_31 rfl <|
 T_iconst dX6_addStep_37 ic_0 <|
 T_iast (n := 18) dX6_addStep_38 (cc6_5 hi) (by decide) (by decide) (by decide) rfl (h.2 z1).2.2.1 <|
 T_aload_n dX6_addStep_39 rfl <|
 T_dupR dX6_addStep_40 <|
 T_getI (C := RX6) (T := TX6) (N := 9) (f := 0) dX6_addStep_41 (cc6_0 hi) rfl (by decide) wf_X6_31 rfl <|
 T_iconst dX6_addStep_44 ic_1 <|
 T_iadd dX6_addStep_45 <|
 T_putI (C := RX6) (T := TX6) (N := 9) (f := 0) dX6_addStep_46 (cc6_0 hi) rfl (by decide) wf_X6_31 rfl rfl rfl <|
 T_return dX6_addStep_49 rfl (h.2 z1).2.2.2)
theorem rX6_addWalker_0 {X : Nat × (Nat → Int32)} {i : Nat} (hi : i < 5) {a1 : Int32} {a2 : Int32} {a3 : Int32} {a4 : Int32} {M : Mem} {Q : Option PV → Mem → Prop} (h : (6 ≤ (M 6 i 0 1) → Q none M) ∧ (¬ 6 ≤ (M 6 i 0 1) → vp_in (M 6 i 0 1) 6 ∧ (vp_in ((mset M 6 i 6 (Int32.toNatClampNeg (M 6 i 0 1)) a1) 6 i 0 1) 6 ∧ (vp_in ((mset (mset M 6 i 6 (Int32.toNatClampNeg (M 6 i 0 1)) a1) 6 i 7 (Int32.toNatClampNeg ((mset M 6 i 6 (Int32.toNatClampNeg (M 6 i 0 1)) a1) 6 i 0 1)) a2) 6 i 0 1) 6 ∧ (vp_in ((mset (mset (mset M 6 i 6 (Int32.toNatClampNeg (M 6 i 0 1)) a1) 6 i 7 (Int32.toNatClampNeg ((mset M 6 i 6 (Int32.toNatClampNeg (M 6 i 0 1)) a1) 6 i 0 1)) a2) 6 i 8 (Int32.toNatClampNeg ((mset (mset M 6 i 6 (Int32.toNatClampNeg (M 6 i 0 1)) a1) 6 i 7 (Int32.toNatClampNeg ((mset M 6 i 6 (Int32.toNatClampNeg (M 6 i 0 1)) a1) 6 i 0 1)) a2) 6 i 0 1)) a3) 6 i 0 1) 6 ∧ (Q none (mset (mset (mset (mset (mset M 6 i 6 (Int32.toNatClampNeg (M 6 i 0 1)) a1) 6 i 7 (Int32.toNatClampNeg ((mset M 6 i 6 (Int32.toNatClampNeg (M 6 i 0 1)) a1) 6 i 0 1)) a2) 6 i 8 (Int32.toNatClampNeg ((mset (mset M 6 i 6 (Int32.toNatClampNeg (M 6 i 0 1)) a1) 6 i 7 (Int32.toNatClampNeg ((mset M 6 i 6 (Int32.toNatClampNeg (M 6 i 0 1)) a1) 6 i 0 1)) a2) 6 i 0 1)) a3) 6 i 9 (Int32.toNatClampNeg ((mset (mset (mset M 6 i 6 (Int32.toNatClampNeg (M 6 i 0 1)) a1) 6 i 7 (Int32.toNatClampNeg ((mset M 6 i 6 (Int32.toNatClampNeg (M 6 i 0 1)) a1) 6 i 0 1)) a2) 6 i 8 (Int32.toNatClampNeg ((mset (mset M 6 i 6 (Int32.toNatClampNeg (M 6 i 0 1)) a1) 6 i 7 (Int32.toNatClampNeg ((mset M 6 i 6 (Int32.toNatClampNeg (M 6 i 0 1)) a1) 6 i 0 1)) a2) 6 i 0 1)) a3) 6 i 0 1)) a4) 6 i 0 1 (((mset (mset (mset (mset M 6 i 6 (Int32.toNatClampNeg (M 6 i 0 1)) a1) 6 i 7 (Int32.toNatClampNeg ((mset M 6 i 6 (Int32.toNatClampNeg (M 6 i 0 1)) a1) 6 i 0 1)) a2) 6 i 8 (Int32.toNatClampNeg ((mset (mset M 6 i 6 (Int32.toNatClampNeg (M 6 i 0 1)) a1) 6 i 7 (Int32.toNatClampNeg ((mset M 6 i 6 (Int32.toNatClampNeg (M 6 i 0 1)) a1) 6 i 0 1)) a2) 6 i 0 1)) a3) 6 i 9 (Int32.toNatClampNeg ((mset (mset (mset M 6 i 6 (Int32.toNatClampNeg (M 6 i 0 1)) a1) 6 i 7 (Int32.toNatClampNeg ((mset M 6 i 6 (Int32.toNatClampNeg (M 6 i 0 1)) a1) 6 i 0 1)) a2) 6 i 8 (Int32.toNatClampNeg ((mset (mset M 6 i 6 (Int32.toNatClampNeg (M 6 i 0 1)) a1) 6 i 7 (Int32.toNatClampNeg ((mset M 6 i 6 (Int32.toNatClampNeg (M 6 i 0 1)) a1) 6 i 0 1)) a2) 6 i 0 1)) a3) 6 i 0 1)) a4) 6 i 0 1) + 1)))))))) : TT X kX6_addWalker 0 [some (pR (6, i, 0)), some (pI a1), some (pI a2), some (pI a3), some (pI a4)] [] M Q :=
 T_aload_n dX6_addWalker_0 rfl <|
 T_getI (C := RX6) (T := TX6) (N := 9) (f := 1) dX6_addWalker_1 (cc6_0 hi) rfl (by decide) wf_X6_35 rfl <|
 T_bipush dX6_addWalker_4 bp_6 <|
 T_icmp_ge (tgt := 60) dX6_addWalker_6 (by decide) (fun z1 =>
 T_return dX6_addWalker_60 rfl (h.1 z1)) (fun z1 =>
 T_aload_n dX6_addWalker_9 rfl <|
 T_getR (C := RX6) (T := TX6) (N := 9) (f := 5) dX6_addWalker_10 (cc6_0 hi) rfl (by decide) wf_X6_19 rfl <|
 T_aload_n dX6_addWalker_13 rfl <|
 T_getI (C := RX6) (T := TX6) (N := 9) (f := 1) dX6_addWalker_14 (cc6_0 hi) rfl (by decide) wf_X6_35 rfl <|
 T_iload_n dX6_addWalker_17 rfl <|
 T_iast (n := 6) dX6_addWalker_18 (cc6_6 hi) (by decide) (by decide) (by decide) rfl (h.2 z1).1 <|
 T_aload_n dX6_addWalker_19 rfl <|
 T_getR (C := RX6) (T := TX6) (N := 9) (f := 6) dX6_addWalker_20 (cc6_0 hi) rfl (by decide) wf_X6_22 rfl <|
 T_aload_n dX6_addWalker_23 rfl <|
 T_getI (C := RX6) (T := TX6) (N := 9) (f := 1) dX6_addWalker_24 (cc6_0 hi) rfl (by decide) wf_X6_35 rfl <|
 T_iload_n dX6_addWalker_27 rfl <|
 T_iast (n := 6) dX6_addWalker_28 (cc6_7 hi) (by decide) (by decide) (by decide) rfl (h.2 z1).2.1 <|
 T_aload_n dX6_addWalker_29 rfl <|
 T_getR (C := RX6) (T := TX6) (N := 9) (f := 7) dX6_addWalker_30 (cc6_0 hi) rfl (by decide) wf_X6_25 rfl <|
 T_aload_n dX6_addWalker_33 rfl <|
 T_getI (C := RX6) (T := TX6) (N := 9) (f := 1) dX6_addWalker_34 (cc6_0 hi) rfl (by decide) wf_X6_35 rfl <|
 T_iload_n dX6_addWalker_37 rfl <|
 T_iast (n := 6) dX6_addWalker_38 (cc6_8 hi) (by decide) (by decide) (by decide) rfl (h.2 z1).2.2.1 <|
 T_aload_n dX6_addWalker_39 rfl <|
 T_getR (C := RX6) (T := TX6) (N := 9) (f := 8) dX6_addWalker_40 (cc6_0 hi) rfl (by decide) wf_X6_28 rfl <|
 T_aload_n dX6_addWalker_43 rfl <|
 T_getI (C := RX6) (T := TX6) (N := 9) (f := 1) dX6_addWalker_44 (cc6_0 hi) rfl (by decide) wf_X6_35 rfl <|
 T_iload dX6_addWalker_47 rfl <|
 T_iast (n := 6) dX6_addWalker_49 (cc6_9 hi) (by decide) (by decide) (by decide) rfl (h.2 z1).2.2.2.1 <|
 T_aload_n dX6_addWalker_50 rfl <|
 T_dupR dX6_addWalker_51 <|
 T_getI (C := RX6) (T := TX6) (N := 9) (f := 1) dX6_addWalker_52 (cc6_0 hi) rfl (by decide) wf_X6_35 rfl <|
 T_iconst dX6_addWalker_55 ic_1 <|
 T_iadd dX6_addWalker_56 <|
 T_putI (C := RX6) (T := TX6) (N := 9) (f := 1) dX6_addWalker_57 (cc6_0 hi) rfl (by decide) wf_X6_35 rfl rfl rfl <|
 T_return dX6_addWalker_60 rfl (h.2 z1).2.2.2.2)
theorem rX6_takeOver_0 {X : Nat × (Nat → Int32)} {i : Nat} (hi : i < 5) {j1 : Nat} (hj1 : j1 < 5) {M : Mem} {Q : Option PV → Mem → Prop} (h : TT X kX6_takeOver 18 [some (pR (6, i, 0)), some (pR (6, j1, 0)), some (pI 0)] [] (mset (mset M 6 i 0 0 (M 6 j1 0 0)) 6 i 0 1 ((mset M 6 i 0 0 (M 6 j1 0 0)) 6 j1 0 1)) Q) : TT X kX6_takeOver 0 [some (pR (6, i, 0)), some (pR (6, j1, 0)), none] [] M Q :=
 T_aload_n dX6_takeOver_0 rfl <|
 T_aload_n dX6_takeOver_1 rfl <|
 T_getI (C := RX6) (T := TX6) (N := 9) (f := 0) dX6_takeOver_2 (cc6_0 hj1) rfl (by decide) wf_X6_31 rfl <|
 T_putI (C := RX6) (T := TX6) (N := 9) (f := 0) dX6_takeOver_5 (cc6_0 hi) rfl (by decide) wf_X6_31 rfl rfl rfl <|
 T_aload_n dX6_takeOver_8 rfl <|
 T_aload_n dX6_takeOver_9 rfl <|
 T_getI (C := RX6) (T := TX6) (N := 9) (f := 1) dX6_takeOver_10 (cc6_0 hj1) rfl (by decide) wf_X6_35 rfl <|
 T_putI (C := RX6) (T := TX6) (N := 9) (f := 1) dX6_takeOver_13 (cc6_0 hi) rfl (by decide) wf_X6_35 rfl rfl rfl <|
 T_iconst dX6_takeOver_16 ic_0 <|
 T_istore_n dX6_takeOver_17 (by decide) rfl rfl <|
 h
theorem rX6_takeOver_18 {X : Nat × (Nat → Int32)} {i : Nat} (hi : i < 5) {j1 : Nat} (hj1 : j1 < 5) {b2 : Int32} {M : Mem} {Q : Option PV → Mem → Prop} (h : (18 ≤ b2 → TT X kX6_takeOver 68 [some (pR (6, i, 0)), some (pR (6, j1, 0)), some (pI 0)] [] M Q) ∧ (¬ 18 ≤ b2 → vp_in b2 18 ∧ (vp_in b2 18 ∧ (vp_in b2 18 ∧ (vp_in b2 18 ∧ (vp_in b2 18 ∧ (vp_in b2 18 ∧ (TT X kX6_takeOver 18 [some (pR (6, i, 0)), some (pR (6, j1, 0)), some (pI (b2 + 1))] [] (mset (mset (mset M 6 i 3 (Int32.toNatClampNeg b2) (M 6 j1 3 (Int32.toNatClampNeg b2))) 6 i 4 (Int32.toNatClampNeg b2) ((mset M 6 i 3 (Int32.toNatClampNeg b2) (M 6 j1 3 (Int32.toNatClampNeg b2))) 6 j1 4 (Int32.toNatClampNeg b2))) 6 i 5 (Int32.toNatClampNeg b2) ((mset (mset M 6 i 3 (Int32.toNatClampNeg b2) (M 6 j1 3 (Int32.toNatClampNeg b2))) 6 i 4 (Int32.toNatClampNeg b2) ((mset M 6 i 3 (Int32.toNatClampNeg b2) (M 6 j1 3 (Int32.toNatClampNeg b2))) 6 j1 4 (Int32.toNatClampNeg b2))) 6 j1 5 (Int32.toNatClampNeg b2))) Q)))))))) : TT X kX6_takeOver 18 [some (pR (6, i, 0)), some (pR (6, j1, 0)), some (pI b2)] [] M Q :=
 T_iload_n dX6_takeOver_18 rfl <|
 T_bipush dX6_takeOver_19 bp_18 <|
 T_icmp_ge (tgt := 66) dX6_takeOver_21 (by decide) (fun z1 =>
 T_iconst dX6_takeOver_66 ic_0 <|
 T_istore_n dX6_takeOver_67 (by decide) rfl rfl <|
 (h.1 z1)) (fun z1 =>
 T_aload_n dX6_takeOver_24 rfl <|
 T_getR (C := RX6) (T := TX6) (N := 9) (f := 2) dX6_takeOver_25 (cc6_0 hi) rfl (by decide) wf_X6_9 rfl <|
 T_iload_n dX6_takeOver_28 rfl <|
 T_aload_n dX6_takeOver_29 rfl <|
 T_getR (C := RX6) (T := TX6) (N := 9) (f := 2) dX6_takeOver_30 (cc6_0 hj1) rfl (by decide) wf_X6_9 rfl <|
 T_iload_n dX6_takeOver_33 rfl <|
 T_iald (n := 18) dX6_takeOver_34 (cc6_3 hj1) (by decide) (by decide) (by decide) rfl (h.2 z1).1 <|
 T_iast (n := 18) dX6_takeOver_35 (cc6_3 hi) (by decide) (by decide) (by decide) rfl (h.2 z1).2.1 <|
 T_aload_n dX6_takeOver_36 rfl <|
 T_getR (C := RX6) (T := TX6) (N := 9) (f := 3) dX6_takeOver_37 (cc6_0 hi) rfl (by decide) wf_X6_13 rfl <|
 T_iload_n dX6_takeOver_40 rfl <|
 T_aload_n dX6_takeOver_41 rfl <|
 T_getR (C := RX6) (T := TX6) (N := 9) (f := 3) dX6_takeOver_42 (cc6_0 hj1) rfl (by decide) wf_X6_13 rfl <|
 T_iload_n dX6_takeOver_45 rfl <|
 T_iald (n := 18) dX6_takeOver_46 (cc6_4 hj1) (by decide) (by decide) (by decide) rfl (h.2 z1).2.2.1 <|
 T_iast (n := 18) dX6_takeOver_47 (cc6_4 hi) (by decide) (by decide) (by decide) rfl (h.2 z1).2.2.2.1 <|
 T_aload_n dX6_takeOver_48 rfl <|
 T_getR (C := RX6) (T := TX6) (N := 9) (f := 4) dX6_takeOver_49 (cc6_0 hi) rfl (by decide) wf_X6_16 rfl <|
 T_iload_n dX6_takeOver_52 rfl <|
 T_aload_n dX6_takeOver_53 rfl <|
 T_getR (C := RX6) (T := TX6) (N := 9) (f := 4) dX6_takeOver_54 (cc6_0 hj1) rfl (by decide) wf_X6_16 rfl <|
 T_iload_n dX6_takeOver_57 rfl <|
 T_iald (n := 18) dX6_takeOver_58 (cc6_5 hj1) (by decide) (by decide) (by decide) rfl (h.2 z1).2.2.2.2.1 <|
 T_iast (n := 18) dX6_takeOver_59 (cc6_5 hi) (by decide) (by decide) (by decide) rfl (h.2 z1).2.2.2.2.2.1 <|
 T_iinc dX6_takeOver_60 rfl (ii_1 _) (by decide) rfl rfl <|
 T_goto (tgt := 18) dX6_takeOver_63 (by decide) <|
 (h.2 z1).2.2.2.2.2.2)
theorem rX6_takeOver_68 {X : Nat × (Nat → Int32)} {i : Nat} (hi : i < 5) {j1 : Nat} (hj1 : j1 < 5) {b2 : Int32} {M : Mem} {Q : Option PV → Mem → Prop} (h : (6 ≤ b2 → Q none M) ∧ (¬ 6 ≤ b2 → vp_in b2 6 ∧ (vp_in b2 6 ∧ (vp_in b2 6 ∧ (vp_in b2 6 ∧ (vp_in b2 6 ∧ (vp_in b2 6 ∧ (vp_in b2 6 ∧ (vp_in b2 6 ∧ (TT X kX6_takeOver 68 [some (pR (6, i, 0)), some (pR (6, j1, 0)), some (pI (b2 + 1))] [] (mset (mset (mset (mset M 6 i 6 (Int32.toNatClampNeg b2) (M 6 j1 6 (Int32.toNatClampNeg b2))) 6 i 7 (Int32.toNatClampNeg b2) ((mset M 6 i 6 (Int32.toNatClampNeg b2) (M 6 j1 6 (Int32.toNatClampNeg b2))) 6 j1 7 (Int32.toNatClampNeg b2))) 6 i 8 (Int32.toNatClampNeg b2) ((mset (mset M 6 i 6 (Int32.toNatClampNeg b2) (M 6 j1 6 (Int32.toNatClampNeg b2))) 6 i 7 (Int32.toNatClampNeg b2) ((mset M 6 i 6 (Int32.toNatClampNeg b2) (M 6 j1 6 (Int32.toNatClampNeg b2))) 6 j1 7 (Int32.toNatClampNeg b2))) 6 j1 8 (Int32.toNatClampNeg b2))) 6 i 9 (Int32.toNatClampNeg b2) ((mset (mset (mset M 6 i 6 (Int32.toNatClampNeg b2) (M 6 j1 6 (Int32.toNatClampNeg b2))) 6 i 7 (Int32.toNatClampNeg b2) ((mset M 6 i 6 (Int32.toNatClampNeg b2) (M 6 j1 6 (Int32.toNatClampNeg b2))) 6 j1 7 (Int32.toNatClampNeg b2))) 6 i 8 (Int32.toNatClampNeg b2) ((mset (mset M 6 i 6 (Int32.toNatClampNeg b2) (M 6 j1 6 (Int32.toNatClampNeg b2))) 6 i 7 (Int32.toNatClampNeg b2) ((mset M 6 i 6 (Int32.toNatClampNeg b2) (M 6 j1 6 (Int32.toNatClampNeg b2))) 6 j1 7 (Int32.toNatClampNeg b2))) 6 j1 8 (Int32.toNatClampNeg b2))) 6 j1 9 (Int32.toNatClampNeg b2))) Q)))))))))) : TT X kX6_takeOver 68 [some (pR (6, i, 0)), some (pR (6, j1, 0)), some (pI b2)] [] M Q :=
 T_iload_n dX6_takeOver_68 rfl <|
 T_bipush dX6_takeOver_69 bp_6 <|
 T_icmp_ge (tgt := 128) dX6_takeOver_71 (by decide) (fun z2 =>
 T_return dX6_takeOver_128 rfl (h.1 z2)) (fun z2 =>
 T_aload_n dX6_takeOver_74 rfl <|
 T_getR (C := RX6) (T := TX6) (N := 9) (f := 5) dX6_takeOver_75 (cc6_0 hi) rfl (by decide) wf_X6_19 rfl <|
 T_iload_n dX6_takeOver_78 rfl <|
 T_aload_n dX6_takeOver_79 rfl <|
 T_getR (C := RX6) (T := TX6) (N := 9) (f := 5) dX6_takeOver_80 (cc6_0 hj1) rfl (by decide) wf_X6_19 rfl <|
 T_iload_n dX6_takeOver_83 rfl <|
 T_iald (n := 6) dX6_takeOver_84 (cc6_6 hj1) (by decide) (by decide) (by decide) rfl (h.2 z2).1 <|
 T_iast (n := 6) dX6_takeOver_85 (cc6_6 hi) (by decide) (by decide) (by decide) rfl (h.2 z2).2.1 <|
 T_aload_n dX6_takeOver_86 rfl <|
 T_getR (C := RX6) (T := TX6) (N := 9) (f := 6) dX6_takeOver_87 (cc6_0 hi) rfl (by decide) wf_X6_22 rfl <|
 T_iload_n dX6_takeOver_90 rfl <|
 T_aload_n dX6_takeOver_91 rfl <|
 T_getR (C := RX6) (T := TX6) (N := 9) (f := 6) dX6_takeOver_92 (cc6_0 hj1) rfl (by decide) wf_X6_22 rfl <|
 T_iload_n dX6_takeOver_95 rfl <|
 T_iald (n := 6) dX6_takeOver_96 (cc6_7 hj1) (by decide) (by decide) (by decide) rfl (h.2 z2).2.2.1 <|
 T_iast (n := 6) dX6_takeOver_97 (cc6_7 hi) (by decide) (by decide) (by decide) rfl (h.2 z2).2.2.2.1 <|
 T_aload_n dX6_takeOver_98 rfl <|
 T_getR (C := RX6) (T := TX6) (N := 9) (f := 7) dX6_takeOver_99 (cc6_0 hi) rfl (by decide) wf_X6_25 rfl <|
 T_iload_n dX6_takeOver_102 rfl <|
 T_aload_n dX6_takeOver_103 rfl <|
 T_getR (C := RX6) (T := TX6) (N := 9) (f := 7) dX6_takeOver_104 (cc6_0 hj1) rfl (by decide) wf_X6_25 rfl <|
 T_iload_n dX6_takeOver_107 rfl <|
 T_iald (n := 6) dX6_takeOver_108 (cc6_8 hj1) (by decide) (by decide) (by decide) rfl (h.2 z2).2.2.2.2.1 <|
 T_iast (n := 6) dX6_takeOver_109 (cc6_8 hi) (by decide) (by decide) (by decide) rfl (h.2 z2).2.2.2.2.2.1 <|
 T_aload_n dX6_takeOver_110 rfl <|
 T_getR (C := RX6) (T := TX6) (N := 9) (f := 8) dX6_takeOver_111 (cc6_0 hi) rfl (by decide) wf_X6_28 rfl <|
 T_iload_n dX6_takeOver_114 rfl <|
 T_aload_n dX6_takeOver_115 rfl <|
 T_getR (C := RX6) (T := TX6) (N := 9) (f := 8) dX6_takeOver_116 (cc6_0 hj1) rfl (by decide) wf_X6_28 rfl <|
 T_iload_n dX6_takeOver_119 rfl <|
 T_iald (n := 6) dX6_takeOver_120 (cc6_9 hj1) (by decide) (by decide) (by decide) rfl (h.2 z2).2.2.2.2.2.2.1 <|
 T_iast (n := 6) dX6_takeOver_121 (cc6_9 hi) (by decide) (by decide) (by decide) rfl (h.2 z2).2.2.2.2.2.2.2.1 <|
 T_iinc dX6_takeOver_122 rfl (ii_1 _) (by decide) rfl rfl <|
 T_goto (tgt := 68) dX6_takeOver_125 (by decide) <|
 (h.2 z2).2.2.2.2.2.2.2.2)
theorem rX6_isOf_0 {X : Nat × (Nat → Int32)} {i : Nat} (hi : i < 5) {a1 : Int32} {a2 : Int32} {M : Mem} {Q : Option PV → Mem → Prop} (h : (a2 < 0 → Q (some (pI 0)) M) ∧ (¬ a2 < 0 → ((M 6 i 0 0) ≤ a2 → Q (some (pI 0)) M) ∧ (¬ (M 6 i 0 0) ≤ a2 → vp_in a2 18 ∧ ((¬ ((a1 >>> ((M 6 i 3 (Int32.toNatClampNeg a2)) &&& 31)) &&& 1) = 1 → Q (some (pI 0)) M) ∧ (((a1 >>> ((M 6 i 3 (Int32.toNatClampNeg a2)) &&& 31)) &&& 1) = 1 → Q (some (pI 1)) M))))) : TT X kX6_isOf 0 [some (pR (6, i, 0)), some (pI a1), some (pI a2)] [] M Q :=
 T_iload_n dX6_isOf_0 rfl <|
 T_if_lt (tgt := 30) dX6_isOf_1 (by decide) (fun z3 =>
 T_iconst dX6_isOf_30 ic_0 <|
 T_ireturn (ty := .boolean) dX6_isOf_31 rfl rfl (h.1 z3)) (fun z3 =>
 T_iload_n dX6_isOf_4 rfl <|
 T_aload_n dX6_isOf_5 rfl <|
 T_getI (C := RX6) (T := TX6) (N := 9) (f := 0) dX6_isOf_6 (cc6_0 hi) rfl (by decide) wf_X6_31 rfl <|
 T_icmp_ge (tgt := 30) dX6_isOf_9 (by decide) (fun z2 =>
 T_iconst dX6_isOf_30 ic_0 <|
 T_ireturn (ty := .boolean) dX6_isOf_31 rfl rfl ((h.2 z3).1 z2)) (fun z2 =>
 T_iload_n dX6_isOf_12 rfl <|
 T_aload_n dX6_isOf_13 rfl <|
 T_getR (C := RX6) (T := TX6) (N := 9) (f := 2) dX6_isOf_14 (cc6_0 hi) rfl (by decide) wf_X6_9 rfl <|
 T_iload_n dX6_isOf_17 rfl <|
 T_iald (n := 18) dX6_isOf_18 (cc6_3 hi) (by decide) (by decide) (by decide) rfl ((h.2 z3).2 z2).1 <|
 T_ishr dX6_isOf_19 <|
 T_iconst dX6_isOf_20 ic_1 <|
 T_iand dX6_isOf_21 <|
 T_iconst dX6_isOf_22 ic_1 <|
 T_icmp_ne (tgt := 30) dX6_isOf_23 (by decide) (fun z1 =>
 T_iconst dX6_isOf_30 ic_0 <|
 T_ireturn (ty := .boolean) dX6_isOf_31 rfl rfl (((h.2 z3).2 z2).2.1 z1)) (fun z1 =>
 T_iconst dX6_isOf_26 ic_1 <|
 T_goto (tgt := 31) dX6_isOf_27 (by decide) <|
 T_ireturn (ty := .boolean) dX6_isOf_31 rfl rfl (((h.2 z3).2 z2).2.2 z1))))
theorem rX6_ownAny_0 {X : Nat × (Nat → Int32)} {i : Nat} (hi : i < 5) {a1 : Int32} {M : Mem} {Q : Option PV → Mem → Prop} (h : TT X kX6_ownAny 2 [some (pR (6, i, 0)), some (pI a1), some (pI 0)] [] M Q) : TT X kX6_ownAny 0 [some (pR (6, i, 0)), some (pI a1), none] [] M Q :=
 T_iconst dX6_ownAny_0 ic_0 <|
 T_istore_n dX6_ownAny_1 (by decide) rfl rfl <|
 h
theorem rX6_ownAny_2 {X : Nat × (Nat → Int32)} {i : Nat} (hi : i < 5) {b1 : Int32} {b2 : Int32} {M : Mem} {Q : Option PV → Mem → Prop} (h : ((M 6 i 0 0) ≤ b2 → Q (some (pI 0)) M) ∧ (¬ (M 6 i 0 0) ≤ b2 → TT X kX6_isOf 0 [some (pR (6, i, 0)), some (pI b1), some (pI b2)] [] M (rI fun v2 M1 => (v2 = 0 → TT X kX6_ownAny 2 [some (pR (6, i, 0)), some (pI b1), some (pI (b2 + 1))] [] M1 Q) ∧ (¬ v2 = 0 → Q (some (pI 1)) M1)))) : TT X kX6_ownAny 2 [some (pR (6, i, 0)), some (pI b1), some (pI b2)] [] M Q :=
 T_iload_n dX6_ownAny_2 rfl <|
 T_aload_n dX6_ownAny_3 rfl <|
 T_getI (C := RX6) (T := TX6) (N := 9) (f := 0) dX6_ownAny_4 (cc6_0 hi) rfl (by decide) wf_X6_31 rfl <|
 T_icmp_ge (tgt := 27) dX6_ownAny_7 (by decide) (fun z5 =>
 T_iconst dX6_ownAny_27 ic_0 <|
 T_ireturn (ty := .boolean) dX6_ownAny_28 rfl rfl (h.1 z5)) (fun z5 =>
 T_aload_n dX6_ownAny_10 rfl <|
 T_iload_n dX6_ownAny_11 rfl <|
 T_iload_n dX6_ownAny_12 rfl <|
 T_callVi (k' := kX6_isOf) (vs := [pI b1, pI b2]) (st := []) dX6_ownAny_13 wm_X6_38 okX6_isOf rfl (cc6_0 hi) rfl rfl rfl (Nat.le_of_ble_eq_true rfl) rfl (Nat.le_of_ble_eq_true rfl) (TT.mono (h.2 z5) (rI_mono (fun v2 M1 h4 =>
 T_if_eq (tgt := 21) dX6_ownAny_16 (by decide) (fun z3 =>
 T_iinc dX6_ownAny_21 rfl (ii_1 _) (by decide) rfl rfl <|
 T_goto (tgt := 2) dX6_ownAny_24 (by decide) <|
 (h4.1 z3)) (fun z3 =>
 T_iconst dX6_ownAny_19 ic_1 <|
 T_ireturn (ty := .boolean) dX6_ownAny_20 rfl rfl (h4.2 z3))))))
theorem rX6_askAll_0 {X : Nat × (Nat → Int32)} {i : Nat} (hi : i < 5) {a1 : Int32} {a2 : Int32} {M : Mem} {Q : Option PV → Mem → Prop} (h : TT X kX6_askAll 2 [some (pR (6, i, 0)), some (pI a1), some (pI a2), some (pI 0)] [] M Q) : TT X kX6_askAll 0 [some (pR (6, i, 0)), some (pI a1), some (pI a2), none] [] M Q :=
 T_iconst dX6_askAll_0 ic_0 <|
 T_istore_n dX6_askAll_1 (by decide) rfl rfl <|
 h
theorem rX6_askAll_2 {X : Nat × (Nat → Int32)} {i : Nat} (hi : i < 5) {b1 : Int32} {b2 : Int32} {b3 : Int32} {M : Mem} {Q : Option PV → Mem → Prop} (h : ((M 6 i 0 0) ≤ b3 → Q none M) ∧ (¬ (M 6 i 0 0) ≤ b3 → TT X kX6_isOf 0 [some (pR (6, i, 0)), some (pI b1), some (pI b3)] [] M (rI fun v2 M1 => (v2 = 0 → TT X kX6_askAll 2 [some (pR (6, i, 0)), some (pI b1), some (pI b2), some (pI (b3 + 1))] [] M1 Q) ∧ (¬ v2 = 0 → vp_in b3 18 ∧ (TT X kX6_askAll 2 [some (pR (6, i, 0)), some (pI b1), some (pI b2), some (pI (b3 + 1))] [] (mset M1 6 i 4 (Int32.toNatClampNeg b3) b2) Q))))) : TT X kX6_askAll 2 [some (pR (6, i, 0)), some (pI b1), some (pI b2), some (pI b3)] [] M Q :=
 T_iload_n dX6_askAll_2 rfl <|
 T_aload_n dX6_askAll_3 rfl <|
 T_getI (C := RX6) (T := TX6) (N := 9) (f := 0) dX6_askAll_4 (cc6_0 hi) rfl (by decide) wf_X6_31 rfl <|
 T_icmp_ge (tgt := 32) dX6_askAll_7 (by decide) (fun z5 =>
 T_return dX6_askAll_32 rfl (h.1 z5)) (fun z5 =>
 T_aload_n dX6_askAll_10 rfl <|
 T_iload_n dX6_askAll_11 rfl <|
 T_iload_n dX6_askAll_12 rfl <|
 T_callVi (k' := kX6_isOf) (vs := [pI b1, pI b3]) (st := []) dX6_askAll_13 wm_X6_38 okX6_isOf rfl (cc6_0 hi) rfl rfl rfl (Nat.le_of_ble_eq_true rfl) rfl (Nat.le_of_ble_eq_true rfl) (TT.mono (h.2 z5) (rI_mono (fun v2 M1 h4 =>
 T_if_eq (tgt := 26) dX6_askAll_16 (by decide) (fun z3 =>
 T_iinc dX6_askAll_26 rfl (ii_1 _) (by decide) rfl rfl <|
 T_goto (tgt := 2) dX6_askAll_29 (by decide) <|
 (h4.1 z3)) (fun z3 =>
 T_aload_n dX6_askAll_19 rfl <|
 T_getR (C := RX6) (T := TX6) (N := 9) (f := 3) dX6_askAll_20 (cc6_0 hi) rfl (by decide) wf_X6_13 rfl <|
 T_iload_n dX6_askAll_23 rfl <|
 T_iload_n dX6_askAll_24 rfl <|
 T_iast (n := 18) dX6_askAll_25 (cc6_4 hi) (by decide) (by decide) (by decide) rfl (h4.2 z3).1 <|
 T_iinc dX6_askAll_26 rfl (ii_1 _) (by decide) rfl rfl <|
 T_goto (tgt := 2) dX6_askAll_29 (by decide) <|
 (h4.2 z3).2)))))
theorem rX6_allAsk_0 {X : Nat × (Nat → Int32)} {i : Nat} (hi : i < 5) {a1 : Int32} {a2 : Int32} {M : Mem} {Q : Option PV → Mem → Prop} (h : TT X kX6_allAsk 2 [some (pR (6, i, 0)), some (pI a1), some (pI a2), some (pI 0)] [] M Q) : TT X kX6_allAsk 0 [some (pR (6, i, 0)), some (pI a1), some (pI a2), none] [] M Q :=
 T_iconst dX6_allAsk_0 ic_0 <|
 T_istore_n dX6_allAsk_1 (by decide) rfl rfl <|
 h
theorem rX6_allAsk_2 {X : Nat × (Nat → Int32)} {i : Nat} (hi : i < 5) {b1 : Int32} {b2 : Int32} {b3 : Int32} {M : Mem} {Q : Option PV → Mem → Prop} (h : ((M 6 i 0 0) ≤ b3 → Q (some (pI 1)) M) ∧ (¬ (M 6 i 0 0) ≤ b3 → TT X kX6_isOf 0 [some (pR (6, i, 0)), some (pI b1), some (pI b3)] [] M (rI fun v2 M1 => (v2 = 0 → TT X kX6_allAsk 2 [some (pR (6, i, 0)), some (pI b1), some (pI b2), some (pI (b3 + 1))] [] M1 Q) ∧ (¬ v2 = 0 → vp_in b3 18 ∧ (((M1 6 i 4 (Int32.toNatClampNeg b3)) = b2 → TT X kX6_allAsk 2 [some (pR (6, i, 0)), some (pI b1), some (pI b2), some (pI (b3 + 1))] [] M1 Q) ∧ (¬ (M1 6 i 4 (Int32.toNatClampNeg b3)) = b2 → Q (some (pI 0)) M1)))))) : TT X kX6_allAsk 2 [some (pR (6, i, 0)), some (pI b1), some (pI b2), some (pI b3)] [] M Q :=
 T_iload_n dX6_allAsk_2 rfl <|
 T_aload_n dX6_allAsk_3 rfl <|
 T_getI (C := RX6) (T := TX6) (N := 9) (f := 0) dX6_allAsk_4 (cc6_0 hi) rfl (by decide) wf_X6_31 rfl <|
 T_icmp_ge (tgt := 37) dX6_allAsk_7 (by decide) (fun z6 =>
 T_iconst dX6_allAsk_37 ic_1 <|
 T_ireturn (ty := .boolean) dX6_allAsk_38 rfl rfl (h.1 z6)) (fun z6 =>
 T_aload_n dX6_allAsk_10 rfl <|
 T_iload_n dX6_allAsk_11 rfl <|
 T_iload_n dX6_allAsk_12 rfl <|
 T_callVi (k' := kX6_isOf) (vs := [pI b1, pI b3]) (st := []) dX6_allAsk_13 wm_X6_38 okX6_isOf rfl (cc6_0 hi) rfl rfl rfl (Nat.le_of_ble_eq_true rfl) rfl (Nat.le_of_ble_eq_true rfl) (TT.mono (h.2 z6) (rI_mono (fun v2 M1 h5 =>
 T_if_eq (tgt := 31) dX6_allAsk_16 (by decide) (fun z4 =>
 T_iinc dX6_allAsk_31 rfl (ii_1 _) (by decide) rfl rfl <|
 T_goto (tgt := 2) dX6_allAsk_34 (by decide) <|
 (h5.1 z4)) (fun z4 =>
 T_aload_n dX6_allAsk_19 rfl <|
 T_getR (C := RX6) (T := TX6) (N := 9) (f := 3) dX6_allAsk_20 (cc6_0 hi) rfl (by decide) wf_X6_13 rfl <|
 T_iload_n dX6_allAsk_23 rfl <|
 T_iald (n := 18) dX6_allAsk_24 (cc6_4 hi) (by decide) (by decide) (by decide) rfl (h5.2 z4).1 <|
 T_iload_n dX6_allAsk_25 rfl <|
 T_icmp_eq (tgt := 31) dX6_allAsk_26 (by decide) (fun z3 =>
 T_iinc dX6_allAsk_31 rfl (ii_1 _) (by decide) rfl rfl <|
 T_goto (tgt := 2) dX6_allAsk_34 (by decide) <|
 ((h5.2 z4).2.1 z3)) (fun z3 =>
 T_iconst dX6_allAsk_29 ic_0 <|
 T_ireturn (ty := .boolean) dX6_allAsk_30 rfl rfl ((h5.2 z4).2.2 z3)))))))
theorem rX6_askOneAtMost_0 {X : Nat × (Nat → Int32)} {i : Nat} (hi : i < 5) {M : Mem} {Q : Option PV → Mem → Prop} (h : TT X kX6_askOneAtMost 2 [some (pR (6, i, 0)), some (pI 0)] [] M Q) : TT X kX6_askOneAtMost 0 [some (pR (6, i, 0)), none] [] M Q :=
 T_iconst dX6_askOneAtMost_0 ic_0 <|
 T_istore_n dX6_askOneAtMost_1 (by decide) rfl rfl <|
 h
theorem rX6_askOneAtMost_2 {X : Nat × (Nat → Int32)} {i : Nat} (hi : i < 5) {b1 : Int32} {M : Mem} {Q : Option PV → Mem → Prop} (h : ((M 6 i 0 0) ≤ b1 → Q none M) ∧ (¬ (M 6 i 0 0) ≤ b1 → vp_in b1 18 ∧ (vp_in b1 18 ∧ (TT X kX6_askOneAtMost 2 [some (pR (6, i, 0)), some (pI (b1 + 1))] [] (mset M 6 i 4 (Int32.toNatClampNeg b1) (if (M 6 i 4 (Int32.toNatClampNeg b1)) < 1 then (M 6 i 4 (Int32.toNatClampNeg b1)) else 1)) Q)))) : TT X kX6_askOneAtMost 2 [some (pR (6, i, 0)), some (pI b1)] [] M Q :=
 T_iload_n dX6_askOneAtMost_2 rfl <|
 T_aload_n dX6_askOneAtMost_3 rfl <|
 T_getI (C := RX6) (T := TX6) (N := 9) (f := 0) dX6_askOneAtMost_4 (cc6_0 hi) rfl (by decide) wf_X6_31 rfl <|
 T_icmp_ge (tgt := 32) dX6_askOneAtMost_7 (by decide) (fun z1 =>
 T_return dX6_askOneAtMost_32 rfl (h.1 z1)) (fun z1 =>
 T_aload_n dX6_askOneAtMost_10 rfl <|
 T_getR (C := RX6) (T := TX6) (N := 9) (f := 3) dX6_askOneAtMost_11 (cc6_0 hi) rfl (by decide) wf_X6_13 rfl <|
 T_iload_n dX6_askOneAtMost_14 rfl <|
 T_iconst dX6_askOneAtMost_15 ic_1 <|
 T_aload_n dX6_askOneAtMost_16 rfl <|
 T_getR (C := RX6) (T := TX6) (N := 9) (f := 3) dX6_askOneAtMost_17 (cc6_0 hi) rfl (by decide) wf_X6_13 rfl <|
 T_iload_n dX6_askOneAtMost_20 rfl <|
 T_iald (n := 18) dX6_askOneAtMost_21 (cc6_4 hi) (by decide) (by decide) (by decide) rfl (h.2 z1).1 <|
 T_min dX6_askOneAtMost_22 wm_X6_42 ⟨Nat.le_of_ble_eq_true rfl, Nat.le_of_ble_eq_true rfl⟩ <|
 T_iast (n := 18) dX6_askOneAtMost_25 (cc6_4 hi) (by decide) (by decide) (by decide) rfl (h.2 z1).2.1 <|
 T_iinc dX6_askOneAtMost_26 rfl (ii_1 _) (by decide) rfl rfl <|
 T_goto (tgt := 2) dX6_askOneAtMost_29 (by decide) <|
 (h.2 z1).2.2)
theorem rX6_times_0 {X : Nat × (Nat → Int32)} {i : Nat} (hi : i < 5) {a1 : Int32} {M : Mem} {Q : Option PV → Mem → Prop} (h : TT X kX6_hasWalker 0 [some (pR (6, i, 0)), some (pI a1)] [] M (rI fun v2 M1 => (v2 = 0 → Q (some (pI 1)) M1) ∧ (¬ v2 = 0 → vp_in a1 6 ∧ (Q (some (pI (1 + (M1 6 i 7 (Int32.toNatClampNeg a1))))) M1)))) : TT X kX6_times 0 [some (pR (6, i, 0)), some (pI a1)] [] M Q :=
 T_aload_n dX6_times_0 rfl <|
 T_iload_n dX6_times_1 rfl <|
 T_callVi (k' := kX6_hasWalker) (vs := [pI a1]) (st := []) dX6_times_2 wm_X6_48 okX6_hasWalker rfl (cc6_0 hi) rfl rfl rfl (Nat.le_of_ble_eq_true rfl) rfl (Nat.le_of_ble_eq_true rfl) (TT.mono h (rI_mono (fun v2 M1 h4 =>
 T_if_eq (tgt := 19) dX6_times_5 (by decide) (fun z3 =>
 T_iconst dX6_times_19 ic_1 <|
 T_ireturn (ty := .int) dX6_times_20 rfl rfl (h4.1 z3)) (fun z3 =>
 T_iconst dX6_times_8 ic_1 <|
 T_aload_n dX6_times_9 rfl <|
 T_getR (C := RX6) (T := TX6) (N := 9) (f := 6) dX6_times_10 (cc6_0 hi) rfl (by decide) wf_X6_22 rfl <|
 T_iload_n dX6_times_13 rfl <|
 T_iald (n := 6) dX6_times_14 (cc6_7 hi) (by decide) (by decide) (by decide) rfl (h4.2 z3).1 <|
 T_iadd dX6_times_15 <|
 T_goto (tgt := 20) dX6_times_16 (by decide) <|
 T_ireturn (ty := .int) dX6_times_20 rfl rfl (h4.2 z3).2))))
theorem rX6_unitsPaid_0 {X : Nat × (Nat → Int32)} {i : Nat} (hi : i < 5) {a1 : Int32} {a2 : Int32} {M : Mem} {Q : Option PV → Mem → Prop} (h : TT X kX6_unitsPaid 5 [some (pR (6, i, 0)), some (pI a1), some (pI a2), some (pI 0), some (pI 0), none] [] M Q) : TT X kX6_unitsPaid 0 [some (pR (6, i, 0)), some (pI a1), some (pI a2), none, none, none] [] M Q :=
 T_iconst dX6_unitsPaid_0 ic_0 <|
 T_istore_n dX6_unitsPaid_1 (by decide) rfl rfl <|
 T_iconst dX6_unitsPaid_2 ic_0 <|
 T_istore dX6_unitsPaid_3 (by decide) rfl rfl <|
 h
theorem rX6_unitsPaid_5 {X : Nat × (Nat → Int32)} {i : Nat} (hi : i < 5) {b1 : Int32} {b2 : Int32} {b3 : Int32} {b4 : Int32} {M : Mem} {Q : Option PV → Mem → Prop} (h : ((M 6 i 0 1) ≤ b4 → Q (some (pI b3)) M) ∧ (¬ (M 6 i 0 1) ≤ b4 → vp_in b4 6 ∧ (vp_in b4 6 ∧ ((¬ (M 6 i 6 (Int32.toNatClampNeg b4)) = b1 → TT X kX6_unitsPaid 5 [some (pR (6, i, 0)), some (pI b1), some (pI b2), some (pI b3), some (pI (b4 + 1)), none] [] M Q) ∧ ((M 6 i 6 (Int32.toNatClampNeg b4)) = b1 → vp_in b4 6 ∧ (((M 6 i 8 (Int32.toNatClampNeg b4)) < (b2 * (1 + (M 6 i 7 (Int32.toNatClampNeg b4)))) → TT X kX6_unitsPaid 5 [some (pR (6, i, 0)), some (pI b1), some (pI b2), some (pI b3), some (pI (b4 + 1)), none] [] M Q) ∧ (¬ (M 6 i 8 (Int32.toNatClampNeg b4)) < (b2 * (1 + (M 6 i 7 (Int32.toNatClampNeg b4)))) → vp_in b4 6 ∧ (TT X kX6_unitsPaid 5 [some (pR (6, i, 0)), some (pI b1), some (pI b2), some (pI (b3 + ((1 + (M 6 i 7 (Int32.toNatClampNeg b4))) * (M 6 i 9 (Int32.toNatClampNeg b4))))), some (pI (b4 + 1)), none] [] M Q)))))))) : TT X kX6_unitsPaid 5 [some (pR (6, i, 0)), some (pI b1), some (pI b2), some (pI b3), some (pI b4), none] [] M Q :=
 T_iload dX6_unitsPaid_5 rfl <|
 T_aload_n dX6_unitsPaid_7 rfl <|
 T_getI (C := RX6) (T := TX6) (N := 9) (f := 1) dX6_unitsPaid_8 (cc6_0 hi) rfl (by decide) wf_X6_35 rfl <|
 T_icmp_ge (tgt := 69) dX6_unitsPaid_11 (by decide) (fun z3 =>
 T_iload_n dX6_unitsPaid_69 rfl <|
 T_ireturn (ty := .int) dX6_unitsPaid_70 rfl rfl (h.1 z3)) (fun z3 =>
 T_iconst dX6_unitsPaid_14 ic_1 <|
 T_aload_n dX6_unitsPaid_15 rfl <|
 T_getR (C := RX6) (T := TX6) (N := 9) (f := 6) dX6_unitsPaid_16 (cc6_0 hi) rfl (by decide) wf_X6_22 rfl <|
 T_iload dX6_unitsPaid_19 rfl <|
 T_iald (n := 6) dX6_unitsPaid_21 (cc6_7 hi) (by decide) (by decide) (by decide) rfl (h.2 z3).1 <|
 T_iadd dX6_unitsPaid_22 <|
 T_istore dX6_unitsPaid_23 (by decide) rfl rfl <|
 T_aload_n dX6_unitsPaid_25 rfl <|
 T_getR (C := RX6) (T := TX6) (N := 9) (f := 5) dX6_unitsPaid_26 (cc6_0 hi) rfl (by decide) wf_X6_19 rfl <|
 T_iload dX6_unitsPaid_29 rfl <|
 T_iald (n := 6) dX6_unitsPaid_31 (cc6_6 hi) (by decide) (by decide) (by decide) rfl (h.2 z3).2.1 <|
 T_iload_n dX6_unitsPaid_32 rfl <|
 T_icmp_ne (tgt := 63) dX6_unitsPaid_33 (by decide) (fun z2 =>
 T_iinc dX6_unitsPaid_63 rfl (ii_1 _) (by decide) rfl rfl <|
 T_goto (tgt := 5) dX6_unitsPaid_66 (by decide) <|
 T_mask [true, true, true, true, true, false] ((h.2 z3).2.2.1 z2)) (fun z2 =>
 T_iload_n dX6_unitsPaid_36 rfl <|
 T_iload dX6_unitsPaid_37 rfl <|
 T_imul dX6_unitsPaid_39 <|
 T_aload_n dX6_unitsPaid_40 rfl <|
 T_getR (C := RX6) (T := TX6) (N := 9) (f := 7) dX6_unitsPaid_41 (cc6_0 hi) rfl (by decide) wf_X6_25 rfl <|
 T_iload dX6_unitsPaid_44 rfl <|
 T_iald (n := 6) dX6_unitsPaid_46 (cc6_8 hi) (by decide) (by decide) (by decide) rfl ((h.2 z3).2.2.2 z2).1 <|
 T_icmp_gt (tgt := 63) dX6_unitsPaid_47 (by decide) (fun z1 =>
 T_iinc dX6_unitsPaid_63 rfl (ii_1 _) (by decide) rfl rfl <|
 T_goto (tgt := 5) dX6_unitsPaid_66 (by decide) <|
 T_mask [true, true, true, true, true, false] (((h.2 z3).2.2.2 z2).2.1 z1)) (fun z1 =>
 T_iload_n dX6_unitsPaid_50 rfl <|
 T_iload dX6_unitsPaid_51 rfl <|
 T_aload_n dX6_unitsPaid_53 rfl <|
 T_getR (C := RX6) (T := TX6) (N := 9) (f := 8) dX6_unitsPaid_54 (cc6_0 hi) rfl (by decide) wf_X6_28 rfl <|
 T_iload dX6_unitsPaid_57 rfl <|
 T_iald (n := 6) dX6_unitsPaid_59 (cc6_9 hi) (by decide) (by decide) (by decide) rfl (((h.2 z3).2.2.2 z2).2.2 z1).1 <|
 T_imul dX6_unitsPaid_60 <|
 T_iadd dX6_unitsPaid_61 <|
 T_istore_n dX6_unitsPaid_62 (by decide) rfl rfl <|
 T_iinc dX6_unitsPaid_63 rfl (ii_1 _) (by decide) rfl rfl <|
 T_goto (tgt := 5) dX6_unitsPaid_66 (by decide) <|
 T_mask [true, true, true, true, true, false] (((h.2 z3).2.2.2 z2).2.2 z1).2)))
theorem rX6_allFolk_0 {X : Nat × (Nat → Int32)} {i : Nat} (hi : i < 5) {M : Mem} {Q : Option PV → Mem → Prop} (h : TT X kX6_allFolk 4 [some (pR (6, i, 0)), some (pI 0), some (pI 0)] [] M Q) : TT X kX6_allFolk 0 [some (pR (6, i, 0)), none, none] [] M Q :=
 T_iconst dX6_allFolk_0 ic_0 <|
 T_istore_n dX6_allFolk_1 (by decide) rfl rfl <|
 T_iconst dX6_allFolk_2 ic_0 <|
 T_istore_n dX6_allFolk_3 (by decide) rfl rfl <|
 h
theorem rX6_allFolk_4 {X : Nat × (Nat → Int32)} {i : Nat} (hi : i < 5) {b1 : Int32} {b2 : Int32} {M : Mem} {Q : Option PV → Mem → Prop} (h : ((M 6 i 0 1) ≤ b2 → Q (some (pI b1)) M) ∧ (¬ (M 6 i 0 1) ≤ b2 → vp_in b2 6 ∧ (TT X kX6_allFolk 4 [some (pR (6, i, 0)), some (pI (b1 + (M 6 i 9 (Int32.toNatClampNeg b2)))), some (pI (b2 + 1))] [] M Q))) : TT X kX6_allFolk 4 [some (pR (6, i, 0)), some (pI b1), some (pI b2)] [] M Q :=
 T_iload_n dX6_allFolk_4 rfl <|
 T_aload_n dX6_allFolk_5 rfl <|
 T_getI (C := RX6) (T := TX6) (N := 9) (f := 1) dX6_allFolk_6 (cc6_0 hi) rfl (by decide) wf_X6_35 rfl <|
 T_icmp_ge (tgt := 27) dX6_allFolk_9 (by decide) (fun z1 =>
 T_iload_n dX6_allFolk_27 rfl <|
 T_ireturn (ty := .int) dX6_allFolk_28 rfl rfl (h.1 z1)) (fun z1 =>
 T_iload_n dX6_allFolk_12 rfl <|
 T_aload_n dX6_allFolk_13 rfl <|
 T_getR (C := RX6) (T := TX6) (N := 9) (f := 8) dX6_allFolk_14 (cc6_0 hi) rfl (by decide) wf_X6_28 rfl <|
 T_iload_n dX6_allFolk_17 rfl <|
 T_iald (n := 6) dX6_allFolk_18 (cc6_9 hi) (by decide) (by decide) (by decide) rfl (h.2 z1).1 <|
 T_iadd dX6_allFolk_19 <|
 T_istore_n dX6_allFolk_20 (by decide) rfl rfl <|
 T_iinc dX6_allFolk_21 rfl (ii_1 _) (by decide) rfl rfl <|
 T_goto (tgt := 4) dX6_allFolk_24 (by decide) <|
 (h.2 z1).2)
theorem rX6_brokenOnes_0 {X : Nat × (Nat → Int32)} {i : Nat} (hi : i < 5) {M : Mem} {Q : Option PV → Mem → Prop} (h : TT X kX6_brokenOnes 4 [some (pR (6, i, 0)), some (pI 0), some (pI 0)] [] M Q) : TT X kX6_brokenOnes 0 [some (pR (6, i, 0)), none, none] [] M Q :=
 T_iconst dX6_brokenOnes_0 ic_0 <|
 T_istore_n dX6_brokenOnes_1 (by decide) rfl rfl <|
 T_iconst dX6_brokenOnes_2 ic_0 <|
 T_istore_n dX6_brokenOnes_3 (by decide) rfl rfl <|
 h
theorem rX6_brokenOnes_4 {X : Nat × (Nat → Int32)} {i : Nat} (hi : i < 5) {b1 : Int32} {b2 : Int32} {M : Mem} {Q : Option PV → Mem → Prop} (h : ((M 6 i 0 0) ≤ b2 → Q (some (pI b1)) M) ∧ (¬ (M 6 i 0 0) ≤ b2 → vp_in b2 18 ∧ (TT X kX6_brokenOnes 4 [some (pR (6, i, 0)), some (pI (b1 + (M 6 i 5 (Int32.toNatClampNeg b2)))), some (pI (b2 + 1))] [] M Q))) : TT X kX6_brokenOnes 4 [some (pR (6, i, 0)), some (pI b1), some (pI b2)] [] M Q :=
 T_iload_n dX6_brokenOnes_4 rfl <|
 T_aload_n dX6_brokenOnes_5 rfl <|
 T_getI (C := RX6) (T := TX6) (N := 9) (f := 0) dX6_brokenOnes_6 (cc6_0 hi) rfl (by decide) wf_X6_31 rfl <|
 T_icmp_ge (tgt := 27) dX6_brokenOnes_9 (by decide) (fun z1 =>
 T_iload_n dX6_brokenOnes_27 rfl <|
 T_ireturn (ty := .int) dX6_brokenOnes_28 rfl rfl (h.1 z1)) (fun z1 =>
 T_iload_n dX6_brokenOnes_12 rfl <|
 T_aload_n dX6_brokenOnes_13 rfl <|
 T_getR (C := RX6) (T := TX6) (N := 9) (f := 4) dX6_brokenOnes_14 (cc6_0 hi) rfl (by decide) wf_X6_16 rfl <|
 T_iload_n dX6_brokenOnes_17 rfl <|
 T_iald (n := 18) dX6_brokenOnes_18 (cc6_5 hi) (by decide) (by decide) (by decide) rfl (h.2 z1).1 <|
 T_iadd dX6_brokenOnes_19 <|
 T_istore_n dX6_brokenOnes_20 (by decide) rfl rfl <|
 T_iinc dX6_brokenOnes_21 rfl (ii_1 _) (by decide) rfl rfl <|
 T_goto (tgt := 4) dX6_brokenOnes_24 (by decide) <|
 (h.2 z1).2)
