theorem bp_7 : (Int8.ofInt (7)).toInt32 = 7 := by decide +kernel
theorem ii_7 (x : Int32) : x + Int32.ofInt (7) = x + 7 := by rw [show Int32.ofInt (7) = 7 from by decide +kernel]
theorem swo_0_28 {x : Int32} (h0 : ¬ x = 0) (h1 : ¬ x = 1) (h2 : ¬ x = 2) (h3 : ¬ x = 3) (h4 : ¬ x = 4) (h5 : ¬ x = 5) (h6 : ¬ x = 6) (h7 : ¬ x = 7) (h8 : ¬ x = 8) (h9 : ¬ x = 9) (h10 : ¬ x = 10) (h11 : ¬ x = 11) (h12 : ¬ x = 12) (h13 : ¬ x = 13) (h14 : ¬ x = 14) (h15 : ¬ x = 15) (h16 : ¬ x = 16) (h17 : ¬ x = 17) (h18 : ¬ x = 18) (h19 : ¬ x = 19) (h20 : ¬ x = 20) (h21 : ¬ x = 21) (h22 : ¬ x = 22) (h23 : ¬ x = 23) (h24 : ¬ x = 24) (h25 : ¬ x = 25) (h26 : ¬ x = 26) (h27 : ¬ x = 27) (h28 : ¬ x = 28) : x.toInt < 0 ∨ 28 < x.toInt := by
  have g0 : ¬ x.toInt = 0 := fun q => h0 (Int32.toInt_inj.mp (q.trans (by decide +kernel)))
  have g1 : ¬ x.toInt = 1 := fun q => h1 (Int32.toInt_inj.mp (q.trans (by decide +kernel)))
  have g2 : ¬ x.toInt = 2 := fun q => h2 (Int32.toInt_inj.mp (q.trans (by decide +kernel)))
  have g3 : ¬ x.toInt = 3 := fun q => h3 (Int32.toInt_inj.mp (q.trans (by decide +kernel)))
  have g4 : ¬ x.toInt = 4 := fun q => h4 (Int32.toInt_inj.mp (q.trans (by decide +kernel)))
  have g5 : ¬ x.toInt = 5 := fun q => h5 (Int32.toInt_inj.mp (q.trans (by decide +kernel)))
  have g6 : ¬ x.toInt = 6 := fun q => h6 (Int32.toInt_inj.mp (q.trans (by decide +kernel)))
  have g7 : ¬ x.toInt = 7 := fun q => h7 (Int32.toInt_inj.mp (q.trans (by decide +kernel)))
  have g8 : ¬ x.toInt = 8 := fun q => h8 (Int32.toInt_inj.mp (q.trans (by decide +kernel)))
  have g9 : ¬ x.toInt = 9 := fun q => h9 (Int32.toInt_inj.mp (q.trans (by decide +kernel)))
  have g10 : ¬ x.toInt = 10 := fun q => h10 (Int32.toInt_inj.mp (q.trans (by decide +kernel)))
  have g11 : ¬ x.toInt = 11 := fun q => h11 (Int32.toInt_inj.mp (q.trans (by decide +kernel)))
  have g12 : ¬ x.toInt = 12 := fun q => h12 (Int32.toInt_inj.mp (q.trans (by decide +kernel)))
  have g13 : ¬ x.toInt = 13 := fun q => h13 (Int32.toInt_inj.mp (q.trans (by decide +kernel)))
  have g14 : ¬ x.toInt = 14 := fun q => h14 (Int32.toInt_inj.mp (q.trans (by decide +kernel)))
  have g15 : ¬ x.toInt = 15 := fun q => h15 (Int32.toInt_inj.mp (q.trans (by decide +kernel)))
  have g16 : ¬ x.toInt = 16 := fun q => h16 (Int32.toInt_inj.mp (q.trans (by decide +kernel)))
  have g17 : ¬ x.toInt = 17 := fun q => h17 (Int32.toInt_inj.mp (q.trans (by decide +kernel)))
  have g18 : ¬ x.toInt = 18 := fun q => h18 (Int32.toInt_inj.mp (q.trans (by decide +kernel)))
  have g19 : ¬ x.toInt = 19 := fun q => h19 (Int32.toInt_inj.mp (q.trans (by decide +kernel)))
  have g20 : ¬ x.toInt = 20 := fun q => h20 (Int32.toInt_inj.mp (q.trans (by decide +kernel)))
  have g21 : ¬ x.toInt = 21 := fun q => h21 (Int32.toInt_inj.mp (q.trans (by decide +kernel)))
  have g22 : ¬ x.toInt = 22 := fun q => h22 (Int32.toInt_inj.mp (q.trans (by decide +kernel)))
  have g23 : ¬ x.toInt = 23 := fun q => h23 (Int32.toInt_inj.mp (q.trans (by decide +kernel)))
  have g24 : ¬ x.toInt = 24 := fun q => h24 (Int32.toInt_inj.mp (q.trans (by decide +kernel)))
  have g25 : ¬ x.toInt = 25 := fun q => h25 (Int32.toInt_inj.mp (q.trans (by decide +kernel)))
  have g26 : ¬ x.toInt = 26 := fun q => h26 (Int32.toInt_inj.mp (q.trans (by decide +kernel)))
  have g27 : ¬ x.toInt = 27 := fun q => h27 (Int32.toInt_inj.mp (q.trans (by decide +kernel)))
  have g28 : ¬ x.toInt = 28 := fun q => h28 (Int32.toInt_inj.mp (q.trans (by decide +kernel)))
  omega
set_option maxRecDepth 100000 in
set_option maxHeartbeats 4000000 in
theorem rL_law_16 {X : Nat × (Nat → Int32)}  {M : Mem} {Q : Option PV → Mem → Prop} (h : TT X kL_law 18 [some (pR (30, 0, 0)), some (pR (8, 0, 0)), some (pR (9, 0, 0)), some (pI 0)] [] M Q) : TT X kL_law 16 [some (pR (30, 0, 0)), some (pR (8, 0, 0)), some (pR (9, 0, 0)), none] [] M Q :=
 T_iconst dL_law_16 ic_0 <|
 T_istore_n dL_law_17 (by decide) rfl rfl <|
 h
set_option maxRecDepth 100000 in
set_option maxHeartbeats 4000000 in
theorem rL_law_18 {X : Nat × (Nat → Int32)} {b3 : Int32} {M : Mem} {Q : Option PV → Mem → Prop} (h : (((Int32.ofNat X.1) - 7) < b3 → Q (some (pI 1)) M) ∧ (¬ ((Int32.ofNat X.1) - 7) < b3 → vp_in b3 X.1 ∧ ((((X.2 (Int32.toNatClampNeg b3)) &&& 31) = 0 → vp_in (b3 + 1) X.1 ∧ (vp_in (b3 + 2) X.1 ∧ (vp_in (b3 + 3) X.1 ∧ (TT X kX8_row 0 [some (pR (8, 0, 0)), some (pI (X.2 (Int32.toNatClampNeg (b3 + 1)))), some (pI (X.2 (Int32.toNatClampNeg (b3 + 2)))), some (pI (X.2 (Int32.toNatClampNeg (b3 + 3))))] [] M (rI fun v2 M1 => vp_in (b3 + 1) X.1 ∧ (vp_in (b3 + 2) X.1 ∧ (vp_in (b3 + 3) X.1 ∧ (TT X kX9_row 0 [some (pR (9, 0, 0)), some (pI (X.2 (Int32.toNatClampNeg (b3 + 1)))), some (pI (X.2 (Int32.toNatClampNeg (b3 + 2)))), some (pI (X.2 (Int32.toNatClampNeg (b3 + 3)))), none] [] M1 (rI fun v4 M3 => (v2 = v4 → TT X kL_law 1103 [some (pR (30, 0, 0)), some (pR (8, 0, 0)), some (pR (9, 0, 0)), some (pI b3)] [] M3 Q) ∧ (¬ v2 = v4 → Q (some (pI 0)) M3)))))))))) ∧ (((X.2 (Int32.toNatClampNeg b3)) &&& 31) = 1 → vp_in (b3 + 1) X.1 ∧ (vp_in (b3 + 2) X.1 ∧ (vp_in (b3 + 3) X.1 ∧ (TT X kX8_set 0 [some (pR (8, 0, 0)), some (pI (X.2 (Int32.toNatClampNeg (b3 + 1)))), some (pI (X.2 (Int32.toNatClampNeg (b3 + 2)))), some (pI (X.2 (Int32.toNatClampNeg (b3 + 3))))] [] M (rI fun v9 M8 => vp_in (b3 + 1) X.1 ∧ (vp_in (b3 + 2) X.1 ∧ (vp_in (b3 + 3) X.1 ∧ (TT X kX9_set 0 [some (pR (9, 0, 0)), some (pI (X.2 (Int32.toNatClampNeg (b3 + 1)))), some (pI (X.2 (Int32.toNatClampNeg (b3 + 2)))), some (pI (X.2 (Int32.toNatClampNeg (b3 + 3))))] [] M8 (rI fun v11 M10 => (v9 = v11 → TT X kL_law 1103 [some (pR (30, 0, 0)), some (pR (8, 0, 0)), some (pR (9, 0, 0)), some (pI b3)] [] M10 Q) ∧ (¬ v9 = v11 → Q (some (pI 0)) M10)))))))))) ∧ (((X.2 (Int32.toNatClampNeg b3)) &&& 31) = 2 → vp_in (b3 + 1) X.1 ∧ (vp_in (b3 + 2) X.1 ∧ (vp_in (b3 + 3) X.1 ∧ (vp_in (b3 + 4) X.1 ∧ (vp_in (b3 + 5) X.1 ∧ (TT X kX8_copy 0 [some (pR (8, 0, 0)), some (pI (X.2 (Int32.toNatClampNeg (b3 + 1)))), some (pI (X.2 (Int32.toNatClampNeg (b3 + 2)))), some (pI (X.2 (Int32.toNatClampNeg (b3 + 3)))), some (pI (X.2 (Int32.toNatClampNeg (b3 + 4)))), some (pI (X.2 (Int32.toNatClampNeg (b3 + 5))))] [] M (rI fun v16 M15 => vp_in (b3 + 1) X.1 ∧ (vp_in (b3 + 2) X.1 ∧ (vp_in (b3 + 3) X.1 ∧ (vp_in (b3 + 4) X.1 ∧ (vp_in (b3 + 5) X.1 ∧ (TT X kX9_copy 0 [some (pR (9, 0, 0)), some (pI (X.2 (Int32.toNatClampNeg (b3 + 1)))), some (pI (X.2 (Int32.toNatClampNeg (b3 + 2)))), some (pI (X.2 (Int32.toNatClampNeg (b3 + 3)))), some (pI (X.2 (Int32.toNatClampNeg (b3 + 4)))), some (pI (X.2 (Int32.toNatClampNeg (b3 + 5)))), none, none, none] [] M15 (rI fun v18 M17 => (v16 = v18 → TT X kL_law 1103 [some (pR (30, 0, 0)), some (pR (8, 0, 0)), some (pR (9, 0, 0)), some (pI b3)] [] M17 Q) ∧ (¬ v16 = v18 → Q (some (pI 0)) M17)))))))))))))) ∧ (((X.2 (Int32.toNatClampNeg b3)) &&& 31) = 3 → vp_in (b3 + 1) X.1 ∧ (TT X kX8_drop 0 [some (pR (8, 0, 0)), some (pI (X.2 (Int32.toNatClampNeg (b3 + 1)))), none] [] M (rI fun v23 M22 => vp_in (b3 + 1) X.1 ∧ (TT X kX9_drop 0 [some (pR (9, 0, 0)), some (pI (X.2 (Int32.toNatClampNeg (b3 + 1))))] [] M22 (rI fun v25 M24 => (v23 = v25 → TT X kL_law 1103 [some (pR (30, 0, 0)), some (pR (8, 0, 0)), some (pR (9, 0, 0)), some (pI b3)] [] M24 Q) ∧ (¬ v23 = v25 → Q (some (pI 0)) M24)))))) ∧ (((X.2 (Int32.toNatClampNeg b3)) &&& 31) = 4 → vp_in (b3 + 1) X.1 ∧ (vp_in (b3 + 2) X.1 ∧ (vp_in (b3 + 3) X.1 ∧ (TT X kX8_feed 0 [some (pR (8, 0, 0)), some (pL (((Int32.toInt64 (X.2 (Int32.toNatClampNeg (b3 + 1)))) <<< (Int32.toInt64 32 &&& 63)) ||| ((Int32.toInt64 (X.2 (Int32.toNatClampNeg (b3 + 2)))) &&& 4294967295))), none, some (pI (X.2 (Int32.toNatClampNeg (b3 + 3))))] [] M (rI fun v30 M29 => vp_in (b3 + 1) X.1 ∧ (vp_in (b3 + 2) X.1 ∧ (vp_in (b3 + 3) X.1 ∧ (TT X kX9_feed 0 [some (pR (9, 0, 0)), some (pL (((Int32.toInt64 (X.2 (Int32.toNatClampNeg (b3 + 1)))) <<< (Int32.toInt64 32 &&& 63)) ||| ((Int32.toInt64 (X.2 (Int32.toNatClampNeg (b3 + 2)))) &&& 4294967295))), none, some (pI (X.2 (Int32.toNatClampNeg (b3 + 3)))), none] [] M29 (rI fun v32 M31 => (v30 = v32 → TT X kL_law 1103 [some (pR (30, 0, 0)), some (pR (8, 0, 0)), some (pR (9, 0, 0)), some (pI b3)] [] M31 Q) ∧ (¬ v30 = v32 → Q (some (pI 0)) M31)))))))))) ∧ (((X.2 (Int32.toNatClampNeg b3)) &&& 31) = 5 → TT X kX8_stair 0 [some (pR (8, 0, 0)), none] [] M (rI fun v37 M36 => TT X kX9_stair 0 [some (pR (9, 0, 0)), none] [] M36 (rI fun v39 M38 => (v37 = v39 → TT X kL_law 1103 [some (pR (30, 0, 0)), some (pR (8, 0, 0)), some (pR (9, 0, 0)), some (pI b3)] [] M38 Q) ∧ (¬ v37 = v39 → Q (some (pI 0)) M38)))) ∧ (((X.2 (Int32.toNatClampNeg b3)) &&& 31) = 6 → TT X kX8_fault 0 [some (pR (8, 0, 0))] [] M (rI fun v44 M43 => TT X kX9_fault 0 [some (pR (9, 0, 0))] [] M43 (rI fun v46 M45 => (v44 = v46 → TT X kL_law 1103 [some (pR (30, 0, 0)), some (pR (8, 0, 0)), some (pR (9, 0, 0)), some (pI b3)] [] M45 Q) ∧ (¬ v44 = v46 → Q (some (pI 0)) M45)))) ∧ (((X.2 (Int32.toNatClampNeg b3)) &&& 31) = 7 → vp_in (b3 + 1) X.1 ∧ (vp_in (b3 + 2) X.1 ∧ (TT X kX8_price 0 [some (pR (8, 0, 0)), some (pI (X.2 (Int32.toNatClampNeg (b3 + 1)))), some (pI (X.2 (Int32.toNatClampNeg (b3 + 2))))] [] M (rI fun v51 M50 => vp_in (b3 + 1) X.1 ∧ (vp_in (b3 + 2) X.1 ∧ (TT X kX9_price 0 [some (pR (9, 0, 0)), some (pI (X.2 (Int32.toNatClampNeg (b3 + 1)))), some (pI (X.2 (Int32.toNatClampNeg (b3 + 2))))] [] M50 (rI fun v53 M52 => (v51 = v53 → TT X kL_law 1103 [some (pR (30, 0, 0)), some (pR (8, 0, 0)), some (pR (9, 0, 0)), some (pI b3)] [] M52 Q) ∧ (¬ v51 = v53 → Q (some (pI 0)) M52)))))))) ∧ (((X.2 (Int32.toNatClampNeg b3)) &&& 31) = 8 → vp_in (b3 + 1) X.1 ∧ (vp_in (b3 + 2) X.1 ∧ (TT X kX8_sell 0 [some (pR (8, 0, 0)), some (pI (X.2 (Int32.toNatClampNeg (b3 + 1)))), some (pI (X.2 (Int32.toNatClampNeg (b3 + 2))))] [] M (rI fun v58 M57 => vp_in (b3 + 1) X.1 ∧ (vp_in (b3 + 2) X.1 ∧ (TT X kX9_sell 0 [some (pR (9, 0, 0)), some (pI (X.2 (Int32.toNatClampNeg (b3 + 1)))), some (pI (X.2 (Int32.toNatClampNeg (b3 + 2))))] [] M57 (rI fun v60 M59 => (v58 = v60 → TT X kL_law 1103 [some (pR (30, 0, 0)), some (pR (8, 0, 0)), some (pR (9, 0, 0)), some (pI b3)] [] M59 Q) ∧ (¬ v58 = v60 → Q (some (pI 0)) M59)))))))) ∧ (((X.2 (Int32.toNatClampNeg b3)) &&& 31) = 9 → vp_in (b3 + 1) X.1 ∧ (vp_in (b3 + 2) X.1 ∧ (TT X kX8_crack 0 [some (pR (8, 0, 0)), some (pI (X.2 (Int32.toNatClampNeg (b3 + 1)))), some (pI (X.2 (Int32.toNatClampNeg (b3 + 2))))] [] M (rI fun v65 M64 => vp_in (b3 + 1) X.1 ∧ (vp_in (b3 + 2) X.1 ∧ (TT X kX9_crack 0 [some (pR (9, 0, 0)), some (pI (X.2 (Int32.toNatClampNeg (b3 + 1)))), some (pI (X.2 (Int32.toNatClampNeg (b3 + 2))))] [] M64 (rI fun v67 M66 => (v65 = v67 → TT X kL_law 1103 [some (pR (30, 0, 0)), some (pR (8, 0, 0)), some (pR (9, 0, 0)), some (pI b3)] [] M66 Q) ∧ (¬ v65 = v67 → Q (some (pI 0)) M66)))))))) ∧ (((X.2 (Int32.toNatClampNeg b3)) &&& 31) = 10 → TT X kX8_undo 0 [some (pR (8, 0, 0))] [] M (rI fun v72 M71 => TT X kX9_undo 0 [some (pR (9, 0, 0)), none] [] M71 (rI fun v74 M73 => (v72 = v74 → TT X kL_law 1103 [some (pR (30, 0, 0)), some (pR (8, 0, 0)), some (pR (9, 0, 0)), some (pI b3)] [] M73 Q) ∧ (¬ v72 = v74 → Q (some (pI 0)) M73)))) ∧ (((X.2 (Int32.toNatClampNeg b3)) &&& 31) = 11 → vp_in (b3 + 1) X.1 ∧ (vp_in (b3 + 2) X.1 ∧ (TT X kX8_step 0 [some (pR (8, 0, 0)), some (pI (X.2 (Int32.toNatClampNeg (b3 + 1)))), some (pI (X.2 (Int32.toNatClampNeg (b3 + 2))))] [] M (rI fun v79 M78 => vp_in (b3 + 1) X.1 ∧ (vp_in (b3 + 2) X.1 ∧ (TT X kX9_step 0 [some (pR (9, 0, 0)), some (pI (X.2 (Int32.toNatClampNeg (b3 + 1)))), some (pI (X.2 (Int32.toNatClampNeg (b3 + 2))))] [] M78 (rI fun v81 M80 => (v79 = v81 → TT X kL_law 1103 [some (pR (30, 0, 0)), some (pR (8, 0, 0)), some (pR (9, 0, 0)), some (pI b3)] [] M80 Q) ∧ (¬ v79 = v81 → Q (some (pI 0)) M80)))))))) ∧ (((X.2 (Int32.toNatClampNeg b3)) &&& 31) = 12 → vp_in (b3 + 1) X.1 ∧ (vp_in (b3 + 2) X.1 ∧ (TT X kX8_way 0 [some (pR (8, 0, 0)), some (pI (X.2 (Int32.toNatClampNeg (b3 + 1)))), some (pI (X.2 (Int32.toNatClampNeg (b3 + 2))))] [] M (rI fun v86 M85 => vp_in (b3 + 1) X.1 ∧ (vp_in (b3 + 2) X.1 ∧ (TT X kX9_way 0 [some (pR (9, 0, 0)), some (pI (X.2 (Int32.toNatClampNeg (b3 + 1)))), some (pI (X.2 (Int32.toNatClampNeg (b3 + 2)))), none, none] [] M85 (rI fun v88 M87 => (v86 = v88 → TT X kL_law 1103 [some (pR (30, 0, 0)), some (pR (8, 0, 0)), some (pR (9, 0, 0)), some (pI b3)] [] M87 Q) ∧ (¬ v86 = v88 → Q (some (pI 0)) M87)))))))) ∧ (((X.2 (Int32.toNatClampNeg b3)) &&& 31) = 13 → vp_in (b3 + 1) X.1 ∧ (TT X kX8_takes 0 [some (pR (8, 0, 0)), some (pI (X.2 (Int32.toNatClampNeg (b3 + 1))))] [] M (rI fun v93 M92 => vp_in (b3 + 1) X.1 ∧ (TT X kX9_takes 0 [some (pR (9, 0, 0)), some (pI (X.2 (Int32.toNatClampNeg (b3 + 1))))] [] M92 (rI fun v95 M94 => (v93 = v95 → TT X kL_law 1103 [some (pR (30, 0, 0)), some (pR (8, 0, 0)), some (pR (9, 0, 0)), some (pI b3)] [] M94 Q) ∧ (¬ v93 = v95 → Q (some (pI 0)) M94)))))) ∧ (((X.2 (Int32.toNatClampNeg b3)) &&& 31) = 14 → vp_in (b3 + 1) X.1 ∧ (vp_in (b3 + 2) X.1 ∧ (TT X kX8_best 0 [some (pR (8, 0, 0)), some (pI (X.2 (Int32.toNatClampNeg (b3 + 1)))), some (pI (X.2 (Int32.toNatClampNeg (b3 + 2))))] [] M (rI fun v100 M99 => vp_in (b3 + 1) X.1 ∧ (vp_in (b3 + 2) X.1 ∧ (TT X kX9_best 0 [some (pR (9, 0, 0)), some (pI (X.2 (Int32.toNatClampNeg (b3 + 1)))), some (pI (X.2 (Int32.toNatClampNeg (b3 + 2)))), none, none] [] M99 (rI fun v102 M101 => (v100 = v102 → TT X kL_law 1103 [some (pR (30, 0, 0)), some (pR (8, 0, 0)), some (pR (9, 0, 0)), some (pI b3)] [] M101 Q) ∧ (¬ v100 = v102 → Q (some (pI 0)) M101)))))))) ∧ (((X.2 (Int32.toNatClampNeg b3)) &&& 31) = 15 → vp_in (b3 + 1) X.1 ∧ (TT X kX8_turnsOf 0 [some (pR (8, 0, 0)), some (pI (X.2 (Int32.toNatClampNeg (b3 + 1))))] [] M (rI fun v107 M106 => vp_in (b3 + 1) X.1 ∧ (TT X kX9_turnsOf 0 [some (pR (9, 0, 0)), some (pI (X.2 (Int32.toNatClampNeg (b3 + 1)))), none, none, none, none] [] M106 (rI fun v109 M108 => (v107 = v109 → TT X kL_law 1103 [some (pR (30, 0, 0)), some (pR (8, 0, 0)), some (pR (9, 0, 0)), some (pI b3)] [] M108 Q) ∧ (¬ v107 = v109 → Q (some (pI 0)) M108)))))) ∧ (((X.2 (Int32.toNatClampNeg b3)) &&& 31) = 16 → vp_in (b3 + 1) X.1 ∧ (vp_in (b3 + 2) X.1 ∧ (vp_in (b3 + 3) X.1 ∧ (vp_in (b3 + 4) X.1 ∧ (TT X kX8_shares 0 [some (pR (8, 0, 0)), some (pI (X.2 (Int32.toNatClampNeg (b3 + 1)))), some (pI (X.2 (Int32.toNatClampNeg (b3 + 2)))), some (pI (X.2 (Int32.toNatClampNeg (b3 + 3)))), some (pI (X.2 (Int32.toNatClampNeg (b3 + 4))))] [] M (rI fun v114 M113 => vp_in (b3 + 1) X.1 ∧ (vp_in (b3 + 2) X.1 ∧ (vp_in (b3 + 3) X.1 ∧ (vp_in (b3 + 4) X.1 ∧ (TT X kX9_shares 0 [some (pR (9, 0, 0)), some (pI (X.2 (Int32.toNatClampNeg (b3 + 1)))), some (pI (X.2 (Int32.toNatClampNeg (b3 + 2)))), some (pI (X.2 (Int32.toNatClampNeg (b3 + 3)))), some (pI (X.2 (Int32.toNatClampNeg (b3 + 4)))), none, none, none, none, none, none, none, none, none, none] [] M113 (rI fun v116 M115 => (v114 = v116 → TT X kL_law 1103 [some (pR (30, 0, 0)), some (pR (8, 0, 0)), some (pR (9, 0, 0)), some (pI b3)] [] M115 Q) ∧ (¬ v114 = v116 → Q (some (pI 0)) M115)))))))))))) ∧ (((X.2 (Int32.toNatClampNeg b3)) &&& 31) = 17 → vp_in (b3 + 1) X.1 ∧ (TT X kX8_planks 0 [some (pR (8, 0, 0)), some (pI (X.2 (Int32.toNatClampNeg (b3 + 1))))] [] M (rI fun v121 M120 => vp_in (b3 + 1) X.1 ∧ (TT X kX9_planks 0 [some (pR (9, 0, 0)), some (pI (X.2 (Int32.toNatClampNeg (b3 + 1)))), none] [] M120 (rI fun v123 M122 => (v121 = v123 → TT X kL_law 1103 [some (pR (30, 0, 0)), some (pR (8, 0, 0)), some (pR (9, 0, 0)), some (pI b3)] [] M122 Q) ∧ (¬ v121 = v123 → Q (some (pI 0)) M122)))))) ∧ (((X.2 (Int32.toNatClampNeg b3)) &&& 31) = 18 → vp_in (b3 + 1) X.1 ∧ (vp_in (b3 + 2) X.1 ∧ (TT X kX8_mean 0 [some (pR (8, 0, 0)), some (pI (X.2 (Int32.toNatClampNeg (b3 + 1)))), some (pI (X.2 (Int32.toNatClampNeg (b3 + 2)))), none, none, none] [] M (rI fun v128 M127 => vp_in (b3 + 1) X.1 ∧ (vp_in (b3 + 2) X.1 ∧ (TT X kX9_mean 0 [some (pR (9, 0, 0)), some (pI (X.2 (Int32.toNatClampNeg (b3 + 1)))), some (pI (X.2 (Int32.toNatClampNeg (b3 + 2)))), none, none, none, none, none] [] M127 (rI fun v130 M129 => (v128 = v130 → TT X kL_law 1103 [some (pR (30, 0, 0)), some (pR (8, 0, 0)), some (pR (9, 0, 0)), some (pI b3)] [] M129 Q) ∧ (¬ v128 = v130 → Q (some (pI 0)) M129)))))))) ∧ (((X.2 (Int32.toNatClampNeg b3)) &&& 31) = 19 → vp_in (b3 + 1) X.1 ∧ (vp_in (b3 + 2) X.1 ∧ (vp_in (b3 + 3) X.1 ∧ (vp_in (b3 + 4) X.1 ∧ (vp_in (b3 + 5) X.1 ∧ (vp_in (b3 + 6) X.1 ∧ (TT X kX8_asked 0 [some (pR (8, 0, 0)), some (pI (X.2 (Int32.toNatClampNeg (b3 + 1)))), some (pI (X.2 (Int32.toNatClampNeg (b3 + 2)))), some (pI (X.2 (Int32.toNatClampNeg (b3 + 3)))), some (pI (X.2 (Int32.toNatClampNeg (b3 + 4)))), some (pI (X.2 (Int32.toNatClampNeg (b3 + 5)))), some (pI (X.2 (Int32.toNatClampNeg (b3 + 6))))] [] M (rI fun v135 M134 => vp_in (b3 + 1) X.1 ∧ (vp_in (b3 + 2) X.1 ∧ (vp_in (b3 + 3) X.1 ∧ (vp_in (b3 + 4) X.1 ∧ (vp_in (b3 + 5) X.1 ∧ (vp_in (b3 + 6) X.1 ∧ (TT X kX9_asked 0 [some (pR (9, 0, 0)), some (pI (X.2 (Int32.toNatClampNeg (b3 + 1)))), some (pI (X.2 (Int32.toNatClampNeg (b3 + 2)))), some (pI (X.2 (Int32.toNatClampNeg (b3 + 3)))), some (pI (X.2 (Int32.toNatClampNeg (b3 + 4)))), some (pI (X.2 (Int32.toNatClampNeg (b3 + 5)))), some (pI (X.2 (Int32.toNatClampNeg (b3 + 6)))), none, none, none] [] M134 (rI fun v137 M136 => (v135 = v137 → TT X kL_law 1103 [some (pR (30, 0, 0)), some (pR (8, 0, 0)), some (pR (9, 0, 0)), some (pI b3)] [] M136 Q) ∧ (¬ v135 = v137 → Q (some (pI 0)) M136)))))))))))))))) ∧ (((X.2 (Int32.toNatClampNeg b3)) &&& 31) = 20 → vp_in (b3 + 1) X.1 ∧ (vp_in (b3 + 2) X.1 ∧ (vp_in (b3 + 3) X.1 ∧ (TT X kX8_deal 0 [some (pR (8, 0, 0)), some (pI (X.2 (Int32.toNatClampNeg (b3 + 1)))), some (pI (X.2 (Int32.toNatClampNeg (b3 + 2)))), some (pI (X.2 (Int32.toNatClampNeg (b3 + 3)))), none] [] M (rI fun v142 M141 => vp_in (b3 + 1) X.1 ∧ (vp_in (b3 + 2) X.1 ∧ (vp_in (b3 + 3) X.1 ∧ (TT X kX9_deal 0 [some (pR (9, 0, 0)), some (pI (X.2 (Int32.toNatClampNeg (b3 + 1)))), some (pI (X.2 (Int32.toNatClampNeg (b3 + 2)))), some (pI (X.2 (Int32.toNatClampNeg (b3 + 3)))), none] [] M141 (rI fun v144 M143 => (v142 = v144 → TT X kL_law 1103 [some (pR (30, 0, 0)), some (pR (8, 0, 0)), some (pR (9, 0, 0)), some (pI b3)] [] M143 Q) ∧ (¬ v142 = v144 → Q (some (pI 0)) M143)))))))))) ∧ (((X.2 (Int32.toNatClampNeg b3)) &&& 31) = 21 → vp_in (b3 + 1) X.1 ∧ (TT X kX8_image 0 [some (pR (8, 0, 0)), some (pI (X.2 (Int32.toNatClampNeg (b3 + 1))))] [] M (rI fun v149 M148 => vp_in (b3 + 1) X.1 ∧ (TT X kX9_image 0 [some (pR (9, 0, 0)), some (pI (X.2 (Int32.toNatClampNeg (b3 + 1)))), none] [] M148 (rI fun v151 M150 => (v149 = v151 → TT X kL_law 1103 [some (pR (30, 0, 0)), some (pR (8, 0, 0)), some (pR (9, 0, 0)), some (pI b3)] [] M150 Q) ∧ (¬ v149 = v151 → Q (some (pI 0)) M150)))))) ∧ (((X.2 (Int32.toNatClampNeg b3)) &&& 31) = 22 → vp_in (b3 + 1) X.1 ∧ (TT X kX8_restore 0 [some (pR (8, 0, 0)), some (pI (X.2 (Int32.toNatClampNeg (b3 + 1))))] [] M (rI fun v156 M155 => vp_in (b3 + 1) X.1 ∧ (TT X kX9_restore 0 [some (pR (9, 0, 0)), some (pI (X.2 (Int32.toNatClampNeg (b3 + 1)))), none] [] M155 (rI fun v158 M157 => (v156 = v158 → TT X kL_law 1103 [some (pR (30, 0, 0)), some (pR (8, 0, 0)), some (pR (9, 0, 0)), some (pI b3)] [] M157 Q) ∧ (¬ v156 = v158 → Q (some (pI 0)) M157)))))) ∧ (((X.2 (Int32.toNatClampNeg b3)) &&& 31) = 23 → vp_in (b3 + 1) X.1 ∧ (TT X kX8_kind 0 [some (pR (8, 0, 0)), some (pI (X.2 (Int32.toNatClampNeg (b3 + 1))))] [] M (rI fun v163 M162 => vp_in (b3 + 1) X.1 ∧ (TT X kX9_kind 0 [some (pR (9, 0, 0)), some (pI (X.2 (Int32.toNatClampNeg (b3 + 1))))] [] M162 (rI fun v165 M164 => (v163 = v165 → TT X kL_law 1103 [some (pR (30, 0, 0)), some (pR (8, 0, 0)), some (pR (9, 0, 0)), some (pI b3)] [] M164 Q) ∧ (¬ v163 = v165 → Q (some (pI 0)) M164)))))) ∧ (((X.2 (Int32.toNatClampNeg b3)) &&& 31) = 24 → vp_in (b3 + 1) X.1 ∧ (vp_in (b3 + 2) X.1 ∧ (TT X kX8_as 0 [some (pR (8, 0, 0)), some (pI (X.2 (Int32.toNatClampNeg (b3 + 1)))), some (pI (X.2 (Int32.toNatClampNeg (b3 + 2))))] [] M (rI fun v170 M169 => vp_in (b3 + 1) X.1 ∧ (vp_in (b3 + 2) X.1 ∧ (TT X kX9_as 0 [some (pR (9, 0, 0)), some (pI (X.2 (Int32.toNatClampNeg (b3 + 1)))), some (pI (X.2 (Int32.toNatClampNeg (b3 + 2))))] [] M169 (rI fun v172 M171 => (v170 = v172 → TT X kL_law 1103 [some (pR (30, 0, 0)), some (pR (8, 0, 0)), some (pR (9, 0, 0)), some (pI b3)] [] M171 Q) ∧ (¬ v170 = v172 → Q (some (pI 0)) M171)))))))) ∧ (((X.2 (Int32.toNatClampNeg b3)) &&& 31) = 25 → vp_in (b3 + 1) X.1 ∧ (vp_in (b3 + 2) X.1 ∧ (TT X kX8_ask 0 [some (pR (8, 0, 0)), some (pI (X.2 (Int32.toNatClampNeg (b3 + 1)))), some (pI (X.2 (Int32.toNatClampNeg (b3 + 2))))] [] M (rI fun v177 M176 => vp_in (b3 + 1) X.1 ∧ (vp_in (b3 + 2) X.1 ∧ (TT X kX9_ask 0 [some (pR (9, 0, 0)), some (pI (X.2 (Int32.toNatClampNeg (b3 + 1)))), some (pI (X.2 (Int32.toNatClampNeg (b3 + 2))))] [] M176 (rI fun v179 M178 => (v177 = v179 → TT X kL_law 1103 [some (pR (30, 0, 0)), some (pR (8, 0, 0)), some (pR (9, 0, 0)), some (pI b3)] [] M178 Q) ∧ (¬ v177 = v179 → Q (some (pI 0)) M178)))))))) ∧ (((X.2 (Int32.toNatClampNeg b3)) &&& 31) = 26 → vp_in (b3 + 1) X.1 ∧ (TT X kX8_trace 0 [some (pR (8, 0, 0)), some (pI (X.2 (Int32.toNatClampNeg (b3 + 1))))] [] M (rI fun v184 M183 => vp_in (b3 + 1) X.1 ∧ (TT X kX9_trace 0 [some (pR (9, 0, 0)), some (pI (X.2 (Int32.toNatClampNeg (b3 + 1))))] [] M183 (rI fun v186 M185 => (v184 = v186 → TT X kL_law 1103 [some (pR (30, 0, 0)), some (pR (8, 0, 0)), some (pR (9, 0, 0)), some (pI b3)] [] M185 Q) ∧ (¬ v184 = v186 → Q (some (pI 0)) M185)))))) ∧ (((X.2 (Int32.toNatClampNeg b3)) &&& 31) = 27 → vp_in (b3 + 1) X.1 ∧ (TT X kX8_count 0 [some (pR (8, 0, 0)), some (pI (X.2 (Int32.toNatClampNeg (b3 + 1))))] [] M (rI fun v191 M190 => vp_in (b3 + 1) X.1 ∧ (TT X kX9_count 0 [some (pR (9, 0, 0)), some (pI (X.2 (Int32.toNatClampNeg (b3 + 1)))), none, none] [] M190 (rI fun v193 M192 => (v191 = v193 → TT X kL_law 1103 [some (pR (30, 0, 0)), some (pR (8, 0, 0)), some (pR (9, 0, 0)), some (pI b3)] [] M192 Q) ∧ (¬ v191 = v193 → Q (some (pI 0)) M192)))))) ∧ (((X.2 (Int32.toNatClampNeg b3)) &&& 31) = 28 → TT X kX8_status 0 [some (pR (8, 0, 0))] [] M (rI fun v198 M197 => TT X kX9_status 0 [some (pR (9, 0, 0))] [] M197 (rI fun v200 M199 => (v198 = v200 → TT X kL_law 1103 [some (pR (30, 0, 0)), some (pR (8, 0, 0)), some (pR (9, 0, 0)), some (pI b3)] [] M199 Q) ∧ (¬ v198 = v200 → Q (some (pI 0)) M199)))) ∧ (((((X.2 (Int32.toNatClampNeg b3)) &&& 31)).toInt < 0 ∨ 28 < (((X.2 (Int32.toNatClampNeg b3)) &&& 31)).toInt) → TT X kL_law 1103 [some (pR (30, 0, 0)), some (pR (8, 0, 0)), some (pR (9, 0, 0)), some (pI b3)] [] M Q)))) : TT X kL_law 18 [some (pR (30, 0, 0)), some (pR (8, 0, 0)), some (pR (9, 0, 0)), some (pI b3)] [] M Q :=
 T_iload_n dL_law_18 rfl <|
 T_aload_n dL_law_19 rfl <|
 T_slen dL_law_20 <|
 T_bipush dL_law_21 bp_7 <|
 T_isub dL_law_23 <|
 T_icmp_gt (tgt := 1109) dL_law_24 (by decide) (fun z204 =>
 T_iconst dL_law_1109 ic_1 <|
 T_ireturn (ty := .boolean) dL_law_1110 rfl rfl (h.1 z204)) (fun z204 =>
 T_aload_n dL_law_27 rfl <|
 T_iload_n dL_law_28 rfl <|
 T_sld dL_law_29 (h.2 z204).1 <|
 T_bipush dL_law_30 bp_31 <|
 T_iand dL_law_32 <|
 (Decidable.byCases (fun z205 : ((X.2 (Int32.toNatClampNeg b3)) &&& 31) = 0 => T_table (tgt := 164) dL_law_33 (by rw [z205]; decide +kernel) (by decide) <|
 T_aload_n dL_law_164 rfl <|
 T_aload_n dL_law_165 rfl <|
 T_iload_n dL_law_166 rfl <|
 T_iconst dL_law_167 ic_1 <|
 T_iadd dL_law_168 <|
 T_sld dL_law_169 ((h.2 z204).2.1 z205).1 <|
 T_aload_n dL_law_170 rfl <|
 T_iload_n dL_law_171 rfl <|
 T_iconst dL_law_172 ic_2 <|
 T_iadd dL_law_173 <|
 T_sld dL_law_174 ((h.2 z204).2.1 z205).2.1 <|
 T_aload_n dL_law_175 rfl <|
 T_iload_n dL_law_176 rfl <|
 T_iconst dL_law_177 ic_3 <|
 T_iadd dL_law_178 <|
 T_sld dL_law_179 ((h.2 z204).2.1 z205).2.2.1 <|
 T_callVi (k' := kX8_row) (vs := [pI (X.2 (Int32.toNatClampNeg (b3 + 1))), pI (X.2 (Int32.toNatClampNeg (b3 + 2))), pI (X.2 (Int32.toNatClampNeg (b3 + 3)))]) (st := []) dL_law_180 wm_L_13 okX8_row rfl c_8_0_0 rfl rfl rfl (Nat.le_of_ble_eq_true rfl) rfl (Nat.le_of_ble_eq_true rfl) (TT.mono ((h.2 z204).2.1 z205).2.2.2 (rI_mono (fun v2 M1 h7 =>
 T_aload_n dL_law_183 rfl <|
 T_aload_n dL_law_184 rfl <|
 T_iload_n dL_law_185 rfl <|
 T_iconst dL_law_186 ic_1 <|
 T_iadd dL_law_187 <|
 T_sld dL_law_188 h7.1 <|
 T_aload_n dL_law_189 rfl <|
 T_iload_n dL_law_190 rfl <|
 T_iconst dL_law_191 ic_2 <|
 T_iadd dL_law_192 <|
 T_sld dL_law_193 h7.2.1 <|
 T_aload_n dL_law_194 rfl <|
 T_iload_n dL_law_195 rfl <|
 T_iconst dL_law_196 ic_3 <|
 T_iadd dL_law_197 <|
 T_sld dL_law_198 h7.2.2.1 <|
 T_callVi (k' := kX9_row) (vs := [pI (X.2 (Int32.toNatClampNeg (b3 + 1))), pI (X.2 (Int32.toNatClampNeg (b3 + 2))), pI (X.2 (Int32.toNatClampNeg (b3 + 3)))]) (st := [pI v2]) dL_law_199 wm_L_17 okX9_row rfl c_9_0_0 rfl rfl rfl (Nat.le_of_ble_eq_true rfl) rfl (Nat.le_of_ble_eq_true rfl) (TT.mono h7.2.2.2 (rI_mono (fun v4 M3 h6 =>
 T_icmp_eq (tgt := 1103) dL_law_202 (by decide) (fun z5 =>
 (h6.1 z5)) (fun z5 =>
 T_iconst dL_law_205 ic_0 <|
 T_ireturn (ty := .boolean) dL_law_206 rfl rfl (h6.2 z5))))))))) (fun nz205 : ¬ ((X.2 (Int32.toNatClampNeg b3)) &&& 31) = 0 =>
 (Decidable.byCases (fun z206 : ((X.2 (Int32.toNatClampNeg b3)) &&& 31) = 1 => T_table (tgt := 207) dL_law_33 (by rw [z206]; decide +kernel) (by decide) <|
 T_aload_n dL_law_207 rfl <|
 T_aload_n dL_law_208 rfl <|
 T_iload_n dL_law_209 rfl <|
 T_iconst dL_law_210 ic_1 <|
 T_iadd dL_law_211 <|
 T_sld dL_law_212 ((h.2 z204).2.2.1 z206).1 <|
 T_aload_n dL_law_213 rfl <|
 T_iload_n dL_law_214 rfl <|
 T_iconst dL_law_215 ic_2 <|
 T_iadd dL_law_216 <|
 T_sld dL_law_217 ((h.2 z204).2.2.1 z206).2.1 <|
 T_aload_n dL_law_218 rfl <|
 T_iload_n dL_law_219 rfl <|
 T_iconst dL_law_220 ic_3 <|
 T_iadd dL_law_221 <|
 T_sld dL_law_222 ((h.2 z204).2.2.1 z206).2.2.1 <|
 T_callVi (k' := kX8_set) (vs := [pI (X.2 (Int32.toNatClampNeg (b3 + 1))), pI (X.2 (Int32.toNatClampNeg (b3 + 2))), pI (X.2 (Int32.toNatClampNeg (b3 + 3)))]) (st := []) dL_law_223 wm_L_18 okX8_set rfl c_8_0_0 rfl rfl rfl (Nat.le_of_ble_eq_true rfl) rfl (Nat.le_of_ble_eq_true rfl) (TT.mono ((h.2 z204).2.2.1 z206).2.2.2 (rI_mono (fun v9 M8 h14 =>
 T_aload_n dL_law_226 rfl <|
 T_aload_n dL_law_227 rfl <|
 T_iload_n dL_law_228 rfl <|
 T_iconst dL_law_229 ic_1 <|
 T_iadd dL_law_230 <|
 T_sld dL_law_231 h14.1 <|
 T_aload_n dL_law_232 rfl <|
 T_iload_n dL_law_233 rfl <|
 T_iconst dL_law_234 ic_2 <|
 T_iadd dL_law_235 <|
 T_sld dL_law_236 h14.2.1 <|
 T_aload_n dL_law_237 rfl <|
 T_iload_n dL_law_238 rfl <|
 T_iconst dL_law_239 ic_3 <|
 T_iadd dL_law_240 <|
 T_sld dL_law_241 h14.2.2.1 <|
 T_callVi (k' := kX9_set) (vs := [pI (X.2 (Int32.toNatClampNeg (b3 + 1))), pI (X.2 (Int32.toNatClampNeg (b3 + 2))), pI (X.2 (Int32.toNatClampNeg (b3 + 3)))]) (st := [pI v9]) dL_law_242 wm_L_21 okX9_set rfl c_9_0_0 rfl rfl rfl (Nat.le_of_ble_eq_true rfl) rfl (Nat.le_of_ble_eq_true rfl) (TT.mono h14.2.2.2 (rI_mono (fun v11 M10 h13 =>
 T_icmp_eq (tgt := 1103) dL_law_245 (by decide) (fun z12 =>
 (h13.1 z12)) (fun z12 =>
 T_iconst dL_law_248 ic_0 <|
 T_ireturn (ty := .boolean) dL_law_249 rfl rfl (h13.2 z12))))))))) (fun nz206 : ¬ ((X.2 (Int32.toNatClampNeg b3)) &&& 31) = 1 =>
 (Decidable.byCases (fun z207 : ((X.2 (Int32.toNatClampNeg b3)) &&& 31) = 2 => T_table (tgt := 250) dL_law_33 (by rw [z207]; decide +kernel) (by decide) <|
 T_aload_n dL_law_250 rfl <|
 T_aload_n dL_law_251 rfl <|
 T_iload_n dL_law_252 rfl <|
 T_iconst dL_law_253 ic_1 <|
 T_iadd dL_law_254 <|
 T_sld dL_law_255 ((h.2 z204).2.2.2.1 z207).1 <|
 T_aload_n dL_law_256 rfl <|
 T_iload_n dL_law_257 rfl <|
 T_iconst dL_law_258 ic_2 <|
 T_iadd dL_law_259 <|
 T_sld dL_law_260 ((h.2 z204).2.2.2.1 z207).2.1 <|
 T_aload_n dL_law_261 rfl <|
 T_iload_n dL_law_262 rfl <|
 T_iconst dL_law_263 ic_3 <|
 T_iadd dL_law_264 <|
 T_sld dL_law_265 ((h.2 z204).2.2.2.1 z207).2.2.1 <|
 T_aload_n dL_law_266 rfl <|
 T_iload_n dL_law_267 rfl <|
 T_iconst dL_law_268 ic_4 <|
 T_iadd dL_law_269 <|
 T_sld dL_law_270 ((h.2 z204).2.2.2.1 z207).2.2.2.1 <|
 T_aload_n dL_law_271 rfl <|
 T_iload_n dL_law_272 rfl <|
 T_iconst dL_law_273 ic_5 <|
 T_iadd dL_law_274 <|
 T_sld dL_law_275 ((h.2 z204).2.2.2.1 z207).2.2.2.2.1 <|
 T_callVi (k' := kX8_copy) (vs := [pI (X.2 (Int32.toNatClampNeg (b3 + 1))), pI (X.2 (Int32.toNatClampNeg (b3 + 2))), pI (X.2 (Int32.toNatClampNeg (b3 + 3))), pI (X.2 (Int32.toNatClampNeg (b3 + 4))), pI (X.2 (Int32.toNatClampNeg (b3 + 5)))]) (st := []) dL_law_276 wm_L_22 okX8_copy rfl c_8_0_0 rfl rfl rfl (Nat.le_of_ble_eq_true rfl) rfl (Nat.le_of_ble_eq_true rfl) (TT.mono ((h.2 z204).2.2.2.1 z207).2.2.2.2.2 (rI_mono (fun v16 M15 h21 =>
 T_aload_n dL_law_279 rfl <|
 T_aload_n dL_law_280 rfl <|
 T_iload_n dL_law_281 rfl <|
 T_iconst dL_law_282 ic_1 <|
 T_iadd dL_law_283 <|
 T_sld dL_law_284 h21.1 <|
 T_aload_n dL_law_285 rfl <|
 T_iload_n dL_law_286 rfl <|
 T_iconst dL_law_287 ic_2 <|
 T_iadd dL_law_288 <|
 T_sld dL_law_289 h21.2.1 <|
 T_aload_n dL_law_290 rfl <|
 T_iload_n dL_law_291 rfl <|
 T_iconst dL_law_292 ic_3 <|
 T_iadd dL_law_293 <|
 T_sld dL_law_294 h21.2.2.1 <|
 T_aload_n dL_law_295 rfl <|
 T_iload_n dL_law_296 rfl <|
 T_iconst dL_law_297 ic_4 <|
 T_iadd dL_law_298 <|
 T_sld dL_law_299 h21.2.2.2.1 <|
 T_aload_n dL_law_300 rfl <|
 T_iload_n dL_law_301 rfl <|
 T_iconst dL_law_302 ic_5 <|
 T_iadd dL_law_303 <|
 T_sld dL_law_304 h21.2.2.2.2.1 <|
 T_callVi (k' := kX9_copy) (vs := [pI (X.2 (Int32.toNatClampNeg (b3 + 1))), pI (X.2 (Int32.toNatClampNeg (b3 + 2))), pI (X.2 (Int32.toNatClampNeg (b3 + 3))), pI (X.2 (Int32.toNatClampNeg (b3 + 4))), pI (X.2 (Int32.toNatClampNeg (b3 + 5)))]) (st := [pI v16]) dL_law_305 wm_L_26 okX9_copy rfl c_9_0_0 rfl rfl rfl (Nat.le_of_ble_eq_true rfl) rfl (Nat.le_of_ble_eq_true rfl) (TT.mono h21.2.2.2.2.2 (rI_mono (fun v18 M17 h20 =>
 T_icmp_eq (tgt := 1103) dL_law_308 (by decide) (fun z19 =>
 (h20.1 z19)) (fun z19 =>
 T_iconst dL_law_311 ic_0 <|
 T_ireturn (ty := .boolean) dL_law_312 rfl rfl (h20.2 z19))))))))) (fun nz207 : ¬ ((X.2 (Int32.toNatClampNeg b3)) &&& 31) = 2 =>
 (Decidable.byCases (fun z208 : ((X.2 (Int32.toNatClampNeg b3)) &&& 31) = 3 => T_table (tgt := 313) dL_law_33 (by rw [z208]; decide +kernel) (by decide) <|
 T_aload_n dL_law_313 rfl <|
 T_aload_n dL_law_314 rfl <|
 T_iload_n dL_law_315 rfl <|
 T_iconst dL_law_316 ic_1 <|
 T_iadd dL_law_317 <|
 T_sld dL_law_318 ((h.2 z204).2.2.2.2.1 z208).1 <|
 T_callVi (k' := kX8_drop) (vs := [pI (X.2 (Int32.toNatClampNeg (b3 + 1)))]) (st := []) dL_law_319 wm_L_27 okX8_drop rfl c_8_0_0 rfl rfl rfl (Nat.le_of_ble_eq_true rfl) rfl (Nat.le_of_ble_eq_true rfl) (TT.mono ((h.2 z204).2.2.2.2.1 z208).2 (rI_mono (fun v23 M22 h28 =>
 T_aload_n dL_law_322 rfl <|
 T_aload_n dL_law_323 rfl <|
 T_iload_n dL_law_324 rfl <|
 T_iconst dL_law_325 ic_1 <|
 T_iadd dL_law_326 <|
 T_sld dL_law_327 h28.1 <|
 T_callVi (k' := kX9_drop) (vs := [pI (X.2 (Int32.toNatClampNeg (b3 + 1)))]) (st := [pI v23]) dL_law_328 wm_L_31 okX9_drop rfl c_9_0_0 rfl rfl rfl (Nat.le_of_ble_eq_true rfl) rfl (Nat.le_of_ble_eq_true rfl) (TT.mono h28.2 (rI_mono (fun v25 M24 h27 =>
 T_icmp_eq (tgt := 1103) dL_law_331 (by decide) (fun z26 =>
 (h27.1 z26)) (fun z26 =>
 T_iconst dL_law_334 ic_0 <|
 T_ireturn (ty := .boolean) dL_law_335 rfl rfl (h27.2 z26))))))))) (fun nz208 : ¬ ((X.2 (Int32.toNatClampNeg b3)) &&& 31) = 3 =>
 (Decidable.byCases (fun z209 : ((X.2 (Int32.toNatClampNeg b3)) &&& 31) = 4 => T_table (tgt := 336) dL_law_33 (by rw [z209]; decide +kernel) (by decide) <|
 T_aload_n dL_law_336 rfl <|
 T_aload_n dL_law_337 rfl <|
 T_iload_n dL_law_338 rfl <|
 T_iconst dL_law_339 ic_1 <|
 T_iadd dL_law_340 <|
 T_sld dL_law_341 ((h.2 z204).2.2.2.2.2.1 z209).1 <|
 T_i2l dL_law_342 <|
 T_bipush dL_law_343 bp_32 <|
 T_lshl dL_law_345 <|
 T_aload_n dL_law_346 rfl <|
 T_iload_n dL_law_347 rfl <|
 T_iconst dL_law_348 ic_2 <|
 T_iadd dL_law_349 <|
 T_sld dL_law_350 ((h.2 z204).2.2.2.2.2.1 z209).2.1 <|
 T_i2l dL_law_351 <|
 T_ldc2 dL_law_352 wl_L_32 <|
 T_land dL_law_355 <|
 T_lor dL_law_356 <|
 T_aload_n dL_law_357 rfl <|
 T_iload_n dL_law_358 rfl <|
 T_iconst dL_law_359 ic_3 <|
 T_iadd dL_law_360 <|
 T_sld dL_law_361 ((h.2 z204).2.2.2.2.2.1 z209).2.2.1 <|
 T_callVi (k' := kX8_feed) (vs := [pL (((Int32.toInt64 (X.2 (Int32.toNatClampNeg (b3 + 1)))) <<< (Int32.toInt64 32 &&& 63)) ||| ((Int32.toInt64 (X.2 (Int32.toNatClampNeg (b3 + 2)))) &&& 4294967295)), pI (X.2 (Int32.toNatClampNeg (b3 + 3)))]) (st := []) dL_law_362 wm_L_34 okX8_feed rfl c_8_0_0 rfl rfl rfl (Nat.le_of_ble_eq_true rfl) rfl (Nat.le_of_ble_eq_true rfl) (TT.mono ((h.2 z204).2.2.2.2.2.1 z209).2.2.2 (rI_mono (fun v30 M29 h35 =>
 T_aload_n dL_law_365 rfl <|
 T_aload_n dL_law_366 rfl <|
 T_iload_n dL_law_367 rfl <|
 T_iconst dL_law_368 ic_1 <|
 T_iadd dL_law_369 <|
 T_sld dL_law_370 h35.1 <|
 T_i2l dL_law_371 <|
 T_bipush dL_law_372 bp_32 <|
 T_lshl dL_law_374 <|
 T_aload_n dL_law_375 rfl <|
 T_iload_n dL_law_376 rfl <|
 T_iconst dL_law_377 ic_2 <|
 T_iadd dL_law_378 <|
 T_sld dL_law_379 h35.2.1 <|
 T_i2l dL_law_380 <|
 T_ldc2 dL_law_381 wl_L_32 <|
 T_land dL_law_384 <|
 T_lor dL_law_385 <|
 T_aload_n dL_law_386 rfl <|
 T_iload_n dL_law_387 rfl <|
 T_iconst dL_law_388 ic_3 <|
 T_iadd dL_law_389 <|
 T_sld dL_law_390 h35.2.2.1 <|
 T_callVi (k' := kX9_feed) (vs := [pL (((Int32.toInt64 (X.2 (Int32.toNatClampNeg (b3 + 1)))) <<< (Int32.toInt64 32 &&& 63)) ||| ((Int32.toInt64 (X.2 (Int32.toNatClampNeg (b3 + 2)))) &&& 4294967295)), pI (X.2 (Int32.toNatClampNeg (b3 + 3)))]) (st := [pI v30]) dL_law_391 wm_L_38 okX9_feed rfl c_9_0_0 rfl rfl rfl (Nat.le_of_ble_eq_true rfl) rfl (Nat.le_of_ble_eq_true rfl) (TT.mono h35.2.2.2 (rI_mono (fun v32 M31 h34 =>
 T_icmp_eq (tgt := 1103) dL_law_394 (by decide) (fun z33 =>
 (h34.1 z33)) (fun z33 =>
 T_iconst dL_law_397 ic_0 <|
 T_ireturn (ty := .boolean) dL_law_398 rfl rfl (h34.2 z33))))))))) (fun nz209 : ¬ ((X.2 (Int32.toNatClampNeg b3)) &&& 31) = 4 =>
 (Decidable.byCases (fun z210 : ((X.2 (Int32.toNatClampNeg b3)) &&& 31) = 5 => T_table (tgt := 399) dL_law_33 (by rw [z210]; decide +kernel) (by decide) <|
 T_aload_n dL_law_399 rfl <|
 T_callVi (k' := kX8_stair) (vs := []) (st := []) dL_law_400 wm_L_39 okX8_stair rfl c_8_0_0 rfl rfl rfl (Nat.le_of_ble_eq_true rfl) rfl (Nat.le_of_ble_eq_true rfl) (TT.mono ((h.2 z204).2.2.2.2.2.2.1 z210) (rI_mono (fun v37 M36 h42 =>
 T_aload_n dL_law_403 rfl <|
 T_callVi (k' := kX9_stair) (vs := []) (st := [pI v37]) dL_law_404 wm_L_43 okX9_stair rfl c_9_0_0 rfl rfl rfl (Nat.le_of_ble_eq_true rfl) rfl (Nat.le_of_ble_eq_true rfl) (TT.mono h42 (rI_mono (fun v39 M38 h41 =>
 T_icmp_eq (tgt := 1103) dL_law_407 (by decide) (fun z40 =>
 (h41.1 z40)) (fun z40 =>
 T_iconst dL_law_410 ic_0 <|
 T_ireturn (ty := .boolean) dL_law_411 rfl rfl (h41.2 z40))))))))) (fun nz210 : ¬ ((X.2 (Int32.toNatClampNeg b3)) &&& 31) = 5 =>
 (Decidable.byCases (fun z211 : ((X.2 (Int32.toNatClampNeg b3)) &&& 31) = 6 => T_table (tgt := 412) dL_law_33 (by rw [z211]; decide +kernel) (by decide) <|
 T_aload_n dL_law_412 rfl <|
 T_callVi (k' := kX8_fault) (vs := []) (st := []) dL_law_413 wm_L_44 okX8_fault rfl c_8_0_0 rfl rfl rfl (Nat.le_of_ble_eq_true rfl) rfl (Nat.le_of_ble_eq_true rfl) (TT.mono ((h.2 z204).2.2.2.2.2.2.2.1 z211) (rI_mono (fun v44 M43 h49 =>
 T_aload_n dL_law_416 rfl <|
 T_callVi (k' := kX9_fault) (vs := []) (st := [pI v44]) dL_law_417 wm_L_47 okX9_fault rfl c_9_0_0 rfl rfl rfl (Nat.le_of_ble_eq_true rfl) rfl (Nat.le_of_ble_eq_true rfl) (TT.mono h49 (rI_mono (fun v46 M45 h48 =>
 T_icmp_eq (tgt := 1103) dL_law_420 (by decide) (fun z47 =>
 (h48.1 z47)) (fun z47 =>
 T_iconst dL_law_423 ic_0 <|
 T_ireturn (ty := .boolean) dL_law_424 rfl rfl (h48.2 z47))))))))) (fun nz211 : ¬ ((X.2 (Int32.toNatClampNeg b3)) &&& 31) = 6 =>
 (Decidable.byCases (fun z212 : ((X.2 (Int32.toNatClampNeg b3)) &&& 31) = 7 => T_table (tgt := 425) dL_law_33 (by rw [z212]; decide +kernel) (by decide) <|
 T_aload_n dL_law_425 rfl <|
 T_aload_n dL_law_426 rfl <|
 T_iload_n dL_law_427 rfl <|
 T_iconst dL_law_428 ic_1 <|
 T_iadd dL_law_429 <|
 T_sld dL_law_430 ((h.2 z204).2.2.2.2.2.2.2.2.1 z212).1 <|
 T_aload_n dL_law_431 rfl <|
 T_iload_n dL_law_432 rfl <|
 T_iconst dL_law_433 ic_2 <|
 T_iadd dL_law_434 <|
 T_sld dL_law_435 ((h.2 z204).2.2.2.2.2.2.2.2.1 z212).2.1 <|
 T_callVi (k' := kX8_price) (vs := [pI (X.2 (Int32.toNatClampNeg (b3 + 1))), pI (X.2 (Int32.toNatClampNeg (b3 + 2)))]) (st := []) dL_law_436 wm_L_48 okX8_price rfl c_8_0_0 rfl rfl rfl (Nat.le_of_ble_eq_true rfl) rfl (Nat.le_of_ble_eq_true rfl) (TT.mono ((h.2 z204).2.2.2.2.2.2.2.2.1 z212).2.2 (rI_mono (fun v51 M50 h56 =>
 T_aload_n dL_law_439 rfl <|
 T_aload_n dL_law_440 rfl <|
 T_iload_n dL_law_441 rfl <|
 T_iconst dL_law_442 ic_1 <|
 T_iadd dL_law_443 <|
 T_sld dL_law_444 h56.1 <|
 T_aload_n dL_law_445 rfl <|
 T_iload_n dL_law_446 rfl <|
 T_iconst dL_law_447 ic_2 <|
 T_iadd dL_law_448 <|
 T_sld dL_law_449 h56.2.1 <|
 T_callVi (k' := kX9_price) (vs := [pI (X.2 (Int32.toNatClampNeg (b3 + 1))), pI (X.2 (Int32.toNatClampNeg (b3 + 2)))]) (st := [pI v51]) dL_law_450 wm_L_52 okX9_price rfl c_9_0_0 rfl rfl rfl (Nat.le_of_ble_eq_true rfl) rfl (Nat.le_of_ble_eq_true rfl) (TT.mono h56.2.2 (rI_mono (fun v53 M52 h55 =>
 T_icmp_eq (tgt := 1103) dL_law_453 (by decide) (fun z54 =>
 (h55.1 z54)) (fun z54 =>
 T_iconst dL_law_456 ic_0 <|
 T_ireturn (ty := .boolean) dL_law_457 rfl rfl (h55.2 z54))))))))) (fun nz212 : ¬ ((X.2 (Int32.toNatClampNeg b3)) &&& 31) = 7 =>
 (Decidable.byCases (fun z213 : ((X.2 (Int32.toNatClampNeg b3)) &&& 31) = 8 => T_table (tgt := 458) dL_law_33 (by rw [z213]; decide +kernel) (by decide) <|
 T_aload_n dL_law_458 rfl <|
 T_aload_n dL_law_459 rfl <|
 T_iload_n dL_law_460 rfl <|
 T_iconst dL_law_461 ic_1 <|
 T_iadd dL_law_462 <|
 T_sld dL_law_463 ((h.2 z204).2.2.2.2.2.2.2.2.2.1 z213).1 <|
 T_aload_n dL_law_464 rfl <|
 T_iload_n dL_law_465 rfl <|
 T_iconst dL_law_466 ic_2 <|
 T_iadd dL_law_467 <|
 T_sld dL_law_468 ((h.2 z204).2.2.2.2.2.2.2.2.2.1 z213).2.1 <|
 T_callVi (k' := kX8_sell) (vs := [pI (X.2 (Int32.toNatClampNeg (b3 + 1))), pI (X.2 (Int32.toNatClampNeg (b3 + 2)))]) (st := []) dL_law_469 wm_L_53 okX8_sell rfl c_8_0_0 rfl rfl rfl (Nat.le_of_ble_eq_true rfl) rfl (Nat.le_of_ble_eq_true rfl) (TT.mono ((h.2 z204).2.2.2.2.2.2.2.2.2.1 z213).2.2 (rI_mono (fun v58 M57 h63 =>
 T_aload_n dL_law_472 rfl <|
 T_aload_n dL_law_473 rfl <|
 T_iload_n dL_law_474 rfl <|
 T_iconst dL_law_475 ic_1 <|
 T_iadd dL_law_476 <|
 T_sld dL_law_477 h63.1 <|
 T_aload_n dL_law_478 rfl <|
 T_iload_n dL_law_479 rfl <|
 T_iconst dL_law_480 ic_2 <|
 T_iadd dL_law_481 <|
 T_sld dL_law_482 h63.2.1 <|
 T_callVi (k' := kX9_sell) (vs := [pI (X.2 (Int32.toNatClampNeg (b3 + 1))), pI (X.2 (Int32.toNatClampNeg (b3 + 2)))]) (st := [pI v58]) dL_law_483 wm_L_56 okX9_sell rfl c_9_0_0 rfl rfl rfl (Nat.le_of_ble_eq_true rfl) rfl (Nat.le_of_ble_eq_true rfl) (TT.mono h63.2.2 (rI_mono (fun v60 M59 h62 =>
 T_icmp_eq (tgt := 1103) dL_law_486 (by decide) (fun z61 =>
 (h62.1 z61)) (fun z61 =>
 T_iconst dL_law_489 ic_0 <|
 T_ireturn (ty := .boolean) dL_law_490 rfl rfl (h62.2 z61))))))))) (fun nz213 : ¬ ((X.2 (Int32.toNatClampNeg b3)) &&& 31) = 8 =>
 (Decidable.byCases (fun z214 : ((X.2 (Int32.toNatClampNeg b3)) &&& 31) = 9 => T_table (tgt := 491) dL_law_33 (by rw [z214]; decide +kernel) (by decide) <|
 T_aload_n dL_law_491 rfl <|
 T_aload_n dL_law_492 rfl <|
 T_iload_n dL_law_493 rfl <|
 T_iconst dL_law_494 ic_1 <|
 T_iadd dL_law_495 <|
 T_sld dL_law_496 ((h.2 z204).2.2.2.2.2.2.2.2.2.2.1 z214).1 <|
 T_aload_n dL_law_497 rfl <|
 T_iload_n dL_law_498 rfl <|
 T_iconst dL_law_499 ic_2 <|
 T_iadd dL_law_500 <|
 T_sld dL_law_501 ((h.2 z204).2.2.2.2.2.2.2.2.2.2.1 z214).2.1 <|
 T_callVi (k' := kX8_crack) (vs := [pI (X.2 (Int32.toNatClampNeg (b3 + 1))), pI (X.2 (Int32.toNatClampNeg (b3 + 2)))]) (st := []) dL_law_502 wm_L_57 okX8_crack rfl c_8_0_0 rfl rfl rfl (Nat.le_of_ble_eq_true rfl) rfl (Nat.le_of_ble_eq_true rfl) (TT.mono ((h.2 z204).2.2.2.2.2.2.2.2.2.2.1 z214).2.2 (rI_mono (fun v65 M64 h70 =>
 T_aload_n dL_law_505 rfl <|
 T_aload_n dL_law_506 rfl <|
 T_iload_n dL_law_507 rfl <|
 T_iconst dL_law_508 ic_1 <|
 T_iadd dL_law_509 <|
 T_sld dL_law_510 h70.1 <|
 T_aload_n dL_law_511 rfl <|
 T_iload_n dL_law_512 rfl <|
 T_iconst dL_law_513 ic_2 <|
 T_iadd dL_law_514 <|
 T_sld dL_law_515 h70.2.1 <|
 T_callVi (k' := kX9_crack) (vs := [pI (X.2 (Int32.toNatClampNeg (b3 + 1))), pI (X.2 (Int32.toNatClampNeg (b3 + 2)))]) (st := [pI v65]) dL_law_516 wm_L_60 okX9_crack rfl c_9_0_0 rfl rfl rfl (Nat.le_of_ble_eq_true rfl) rfl (Nat.le_of_ble_eq_true rfl) (TT.mono h70.2.2 (rI_mono (fun v67 M66 h69 =>
 T_icmp_eq (tgt := 1103) dL_law_519 (by decide) (fun z68 =>
 (h69.1 z68)) (fun z68 =>
 T_iconst dL_law_522 ic_0 <|
 T_ireturn (ty := .boolean) dL_law_523 rfl rfl (h69.2 z68))))))))) (fun nz214 : ¬ ((X.2 (Int32.toNatClampNeg b3)) &&& 31) = 9 =>
 (Decidable.byCases (fun z215 : ((X.2 (Int32.toNatClampNeg b3)) &&& 31) = 10 => T_table (tgt := 524) dL_law_33 (by rw [z215]; decide +kernel) (by decide) <|
 T_aload_n dL_law_524 rfl <|
 T_callVi (k' := kX8_undo) (vs := []) (st := []) dL_law_525 wm_L_61 okX8_undo rfl c_8_0_0 rfl rfl rfl (Nat.le_of_ble_eq_true rfl) rfl (Nat.le_of_ble_eq_true rfl) (TT.mono ((h.2 z204).2.2.2.2.2.2.2.2.2.2.2.1 z215) (rI_mono (fun v72 M71 h77 =>
 T_aload_n dL_law_528 rfl <|
 T_callVi (k' := kX9_undo) (vs := []) (st := [pI v72]) dL_law_529 wm_L_64 okX9_undo rfl c_9_0_0 rfl rfl rfl (Nat.le_of_ble_eq_true rfl) rfl (Nat.le_of_ble_eq_true rfl) (TT.mono h77 (rI_mono (fun v74 M73 h76 =>
 T_icmp_eq (tgt := 1103) dL_law_532 (by decide) (fun z75 =>
 (h76.1 z75)) (fun z75 =>
 T_iconst dL_law_535 ic_0 <|
 T_ireturn (ty := .boolean) dL_law_536 rfl rfl (h76.2 z75))))))))) (fun nz215 : ¬ ((X.2 (Int32.toNatClampNeg b3)) &&& 31) = 10 =>
 (Decidable.byCases (fun z216 : ((X.2 (Int32.toNatClampNeg b3)) &&& 31) = 11 => T_table (tgt := 537) dL_law_33 (by rw [z216]; decide +kernel) (by decide) <|
 T_aload_n dL_law_537 rfl <|
 T_aload_n dL_law_538 rfl <|
 T_iload_n dL_law_539 rfl <|
 T_iconst dL_law_540 ic_1 <|
 T_iadd dL_law_541 <|
 T_sld dL_law_542 ((h.2 z204).2.2.2.2.2.2.2.2.2.2.2.2.1 z216).1 <|
 T_aload_n dL_law_543 rfl <|
 T_iload_n dL_law_544 rfl <|
 T_iconst dL_law_545 ic_2 <|
 T_iadd dL_law_546 <|
 T_sld dL_law_547 ((h.2 z204).2.2.2.2.2.2.2.2.2.2.2.2.1 z216).2.1 <|
 T_callVi (k' := kX8_step) (vs := [pI (X.2 (Int32.toNatClampNeg (b3 + 1))), pI (X.2 (Int32.toNatClampNeg (b3 + 2)))]) (st := []) dL_law_548 wm_L_65 okX8_step rfl c_8_0_0 rfl rfl rfl (Nat.le_of_ble_eq_true rfl) rfl (Nat.le_of_ble_eq_true rfl) (TT.mono ((h.2 z204).2.2.2.2.2.2.2.2.2.2.2.2.1 z216).2.2 (rI_mono (fun v79 M78 h84 =>
 T_aload_n dL_law_551 rfl <|
 T_aload_n dL_law_552 rfl <|
 T_iload_n dL_law_553 rfl <|
 T_iconst dL_law_554 ic_1 <|
 T_iadd dL_law_555 <|
 T_sld dL_law_556 h84.1 <|
 T_aload_n dL_law_557 rfl <|
 T_iload_n dL_law_558 rfl <|
 T_iconst dL_law_559 ic_2 <|
 T_iadd dL_law_560 <|
 T_sld dL_law_561 h84.2.1 <|
 T_callVi (k' := kX9_step) (vs := [pI (X.2 (Int32.toNatClampNeg (b3 + 1))), pI (X.2 (Int32.toNatClampNeg (b3 + 2)))]) (st := [pI v79]) dL_law_562 wm_L_68 okX9_step rfl c_9_0_0 rfl rfl rfl (Nat.le_of_ble_eq_true rfl) rfl (Nat.le_of_ble_eq_true rfl) (TT.mono h84.2.2 (rI_mono (fun v81 M80 h83 =>
 T_icmp_eq (tgt := 1103) dL_law_565 (by decide) (fun z82 =>
 (h83.1 z82)) (fun z82 =>
 T_iconst dL_law_568 ic_0 <|
 T_ireturn (ty := .boolean) dL_law_569 rfl rfl (h83.2 z82))))))))) (fun nz216 : ¬ ((X.2 (Int32.toNatClampNeg b3)) &&& 31) = 11 =>
 (Decidable.byCases (fun z217 : ((X.2 (Int32.toNatClampNeg b3)) &&& 31) = 12 => T_table (tgt := 570) dL_law_33 (by rw [z217]; decide +kernel) (by decide) <|
 T_aload_n dL_law_570 rfl <|
 T_aload_n dL_law_571 rfl <|
 T_iload_n dL_law_572 rfl <|
 T_iconst dL_law_573 ic_1 <|
 T_iadd dL_law_574 <|
 T_sld dL_law_575 ((h.2 z204).2.2.2.2.2.2.2.2.2.2.2.2.2.1 z217).1 <|
 T_aload_n dL_law_576 rfl <|
 T_iload_n dL_law_577 rfl <|
 T_iconst dL_law_578 ic_2 <|
 T_iadd dL_law_579 <|
 T_sld dL_law_580 ((h.2 z204).2.2.2.2.2.2.2.2.2.2.2.2.2.1 z217).2.1 <|
 T_callVi (k' := kX8_way) (vs := [pI (X.2 (Int32.toNatClampNeg (b3 + 1))), pI (X.2 (Int32.toNatClampNeg (b3 + 2)))]) (st := []) dL_law_581 wm_L_69 okX8_way rfl c_8_0_0 rfl rfl rfl (Nat.le_of_ble_eq_true rfl) rfl (Nat.le_of_ble_eq_true rfl) (TT.mono ((h.2 z204).2.2.2.2.2.2.2.2.2.2.2.2.2.1 z217).2.2 (rI_mono (fun v86 M85 h91 =>
 T_aload_n dL_law_584 rfl <|
 T_aload_n dL_law_585 rfl <|
 T_iload_n dL_law_586 rfl <|
 T_iconst dL_law_587 ic_1 <|
 T_iadd dL_law_588 <|
 T_sld dL_law_589 h91.1 <|
 T_aload_n dL_law_590 rfl <|
 T_iload_n dL_law_591 rfl <|
 T_iconst dL_law_592 ic_2 <|
 T_iadd dL_law_593 <|
 T_sld dL_law_594 h91.2.1 <|
 T_callVi (k' := kX9_way) (vs := [pI (X.2 (Int32.toNatClampNeg (b3 + 1))), pI (X.2 (Int32.toNatClampNeg (b3 + 2)))]) (st := [pI v86]) dL_law_595 wm_L_72 okX9_way rfl c_9_0_0 rfl rfl rfl (Nat.le_of_ble_eq_true rfl) rfl (Nat.le_of_ble_eq_true rfl) (TT.mono h91.2.2 (rI_mono (fun v88 M87 h90 =>
 T_icmp_eq (tgt := 1103) dL_law_598 (by decide) (fun z89 =>
 (h90.1 z89)) (fun z89 =>
 T_iconst dL_law_601 ic_0 <|
 T_ireturn (ty := .boolean) dL_law_602 rfl rfl (h90.2 z89))))))))) (fun nz217 : ¬ ((X.2 (Int32.toNatClampNeg b3)) &&& 31) = 12 =>
 (Decidable.byCases (fun z218 : ((X.2 (Int32.toNatClampNeg b3)) &&& 31) = 13 => T_table (tgt := 603) dL_law_33 (by rw [z218]; decide +kernel) (by decide) <|
 T_aload_n dL_law_603 rfl <|
 T_aload_n dL_law_604 rfl <|
 T_iload_n dL_law_605 rfl <|
 T_iconst dL_law_606 ic_1 <|
 T_iadd dL_law_607 <|
 T_sld dL_law_608 ((h.2 z204).2.2.2.2.2.2.2.2.2.2.2.2.2.2.1 z218).1 <|
 T_callVi (k' := kX8_takes) (vs := [pI (X.2 (Int32.toNatClampNeg (b3 + 1)))]) (st := []) dL_law_609 wm_L_73 okX8_takes rfl c_8_0_0 rfl rfl rfl (Nat.le_of_ble_eq_true rfl) rfl (Nat.le_of_ble_eq_true rfl) (TT.mono ((h.2 z204).2.2.2.2.2.2.2.2.2.2.2.2.2.2.1 z218).2 (rI_mono (fun v93 M92 h98 =>
 T_aload_n dL_law_612 rfl <|
 T_aload_n dL_law_613 rfl <|
 T_iload_n dL_law_614 rfl <|
 T_iconst dL_law_615 ic_1 <|
 T_iadd dL_law_616 <|
 T_sld dL_law_617 h98.1 <|
 T_callVi (k' := kX9_takes) (vs := [pI (X.2 (Int32.toNatClampNeg (b3 + 1)))]) (st := [pI v93]) dL_law_618 wm_L_76 okX9_takes rfl c_9_0_0 rfl rfl rfl (Nat.le_of_ble_eq_true rfl) rfl (Nat.le_of_ble_eq_true rfl) (TT.mono h98.2 (rI_mono (fun v95 M94 h97 =>
 T_icmp_eq (tgt := 1103) dL_law_621 (by decide) (fun z96 =>
 (h97.1 z96)) (fun z96 =>
 T_iconst dL_law_624 ic_0 <|
 T_ireturn (ty := .boolean) dL_law_625 rfl rfl (h97.2 z96))))))))) (fun nz218 : ¬ ((X.2 (Int32.toNatClampNeg b3)) &&& 31) = 13 =>
 (Decidable.byCases (fun z219 : ((X.2 (Int32.toNatClampNeg b3)) &&& 31) = 14 => T_table (tgt := 626) dL_law_33 (by rw [z219]; decide +kernel) (by decide) <|
 T_aload_n dL_law_626 rfl <|
 T_aload_n dL_law_627 rfl <|
 T_iload_n dL_law_628 rfl <|
 T_iconst dL_law_629 ic_1 <|
 T_iadd dL_law_630 <|
 T_sld dL_law_631 ((h.2 z204).2.2.2.2.2.2.2.2.2.2.2.2.2.2.2.1 z219).1 <|
 T_aload_n dL_law_632 rfl <|
 T_iload_n dL_law_633 rfl <|
 T_iconst dL_law_634 ic_2 <|
 T_iadd dL_law_635 <|
 T_sld dL_law_636 ((h.2 z204).2.2.2.2.2.2.2.2.2.2.2.2.2.2.2.1 z219).2.1 <|
 T_callVi (k' := kX8_best) (vs := [pI (X.2 (Int32.toNatClampNeg (b3 + 1))), pI (X.2 (Int32.toNatClampNeg (b3 + 2)))]) (st := []) dL_law_637 wm_L_77 okX8_best rfl c_8_0_0 rfl rfl rfl (Nat.le_of_ble_eq_true rfl) rfl (Nat.le_of_ble_eq_true rfl) (TT.mono ((h.2 z204).2.2.2.2.2.2.2.2.2.2.2.2.2.2.2.1 z219).2.2 (rI_mono (fun v100 M99 h105 =>
 T_aload_n dL_law_640 rfl <|
 T_aload_n dL_law_641 rfl <|
 T_iload_n dL_law_642 rfl <|
 T_iconst dL_law_643 ic_1 <|
 T_iadd dL_law_644 <|
 T_sld dL_law_645 h105.1 <|
 T_aload_n dL_law_646 rfl <|
 T_iload_n dL_law_647 rfl <|
 T_iconst dL_law_648 ic_2 <|
 T_iadd dL_law_649 <|
 T_sld dL_law_650 h105.2.1 <|
 T_callVi (k' := kX9_best) (vs := [pI (X.2 (Int32.toNatClampNeg (b3 + 1))), pI (X.2 (Int32.toNatClampNeg (b3 + 2)))]) (st := [pI v100]) dL_law_651 wm_L_80 okX9_best rfl c_9_0_0 rfl rfl rfl (Nat.le_of_ble_eq_true rfl) rfl (Nat.le_of_ble_eq_true rfl) (TT.mono h105.2.2 (rI_mono (fun v102 M101 h104 =>
 T_icmp_eq (tgt := 1103) dL_law_654 (by decide) (fun z103 =>
 (h104.1 z103)) (fun z103 =>
 T_iconst dL_law_657 ic_0 <|
 T_ireturn (ty := .boolean) dL_law_658 rfl rfl (h104.2 z103))))))))) (fun nz219 : ¬ ((X.2 (Int32.toNatClampNeg b3)) &&& 31) = 14 =>
 (Decidable.byCases (fun z220 : ((X.2 (Int32.toNatClampNeg b3)) &&& 31) = 15 => T_table (tgt := 659) dL_law_33 (by rw [z220]; decide +kernel) (by decide) <|
 T_aload_n dL_law_659 rfl <|
 T_aload_n dL_law_660 rfl <|
 T_iload_n dL_law_661 rfl <|
 T_iconst dL_law_662 ic_1 <|
 T_iadd dL_law_663 <|
 T_sld dL_law_664 ((h.2 z204).2.2.2.2.2.2.2.2.2.2.2.2.2.2.2.2.1 z220).1 <|
 T_callVi (k' := kX8_turnsOf) (vs := [pI (X.2 (Int32.toNatClampNeg (b3 + 1)))]) (st := []) dL_law_665 wm_L_81 okX8_turnsOf rfl c_8_0_0 rfl rfl rfl (Nat.le_of_ble_eq_true rfl) rfl (Nat.le_of_ble_eq_true rfl) (TT.mono ((h.2 z204).2.2.2.2.2.2.2.2.2.2.2.2.2.2.2.2.1 z220).2 (rI_mono (fun v107 M106 h112 =>
 T_aload_n dL_law_668 rfl <|
 T_aload_n dL_law_669 rfl <|
 T_iload_n dL_law_670 rfl <|
 T_iconst dL_law_671 ic_1 <|
 T_iadd dL_law_672 <|
 T_sld dL_law_673 h112.1 <|
 T_callVi (k' := kX9_turnsOf) (vs := [pI (X.2 (Int32.toNatClampNeg (b3 + 1)))]) (st := [pI v107]) dL_law_674 wm_L_84 okX9_turnsOf rfl c_9_0_0 rfl rfl rfl (Nat.le_of_ble_eq_true rfl) rfl (Nat.le_of_ble_eq_true rfl) (TT.mono h112.2 (rI_mono (fun v109 M108 h111 =>
 T_icmp_eq (tgt := 1103) dL_law_677 (by decide) (fun z110 =>
 (h111.1 z110)) (fun z110 =>
 T_iconst dL_law_680 ic_0 <|
 T_ireturn (ty := .boolean) dL_law_681 rfl rfl (h111.2 z110))))))))) (fun nz220 : ¬ ((X.2 (Int32.toNatClampNeg b3)) &&& 31) = 15 =>
 (Decidable.byCases (fun z221 : ((X.2 (Int32.toNatClampNeg b3)) &&& 31) = 16 => T_table (tgt := 682) dL_law_33 (by rw [z221]; decide +kernel) (by decide) <|
 T_aload_n dL_law_682 rfl <|
 T_aload_n dL_law_683 rfl <|
 T_iload_n dL_law_684 rfl <|
 T_iconst dL_law_685 ic_1 <|
 T_iadd dL_law_686 <|
 T_sld dL_law_687 ((h.2 z204).2.2.2.2.2.2.2.2.2.2.2.2.2.2.2.2.2.1 z221).1 <|
 T_aload_n dL_law_688 rfl <|
 T_iload_n dL_law_689 rfl <|
 T_iconst dL_law_690 ic_2 <|
 T_iadd dL_law_691 <|
 T_sld dL_law_692 ((h.2 z204).2.2.2.2.2.2.2.2.2.2.2.2.2.2.2.2.2.1 z221).2.1 <|
 T_aload_n dL_law_693 rfl <|
 T_iload_n dL_law_694 rfl <|
 T_iconst dL_law_695 ic_3 <|
 T_iadd dL_law_696 <|
 T_sld dL_law_697 ((h.2 z204).2.2.2.2.2.2.2.2.2.2.2.2.2.2.2.2.2.1 z221).2.2.1 <|
 T_aload_n dL_law_698 rfl <|
 T_iload_n dL_law_699 rfl <|
 T_iconst dL_law_700 ic_4 <|
 T_iadd dL_law_701 <|
 T_sld dL_law_702 ((h.2 z204).2.2.2.2.2.2.2.2.2.2.2.2.2.2.2.2.2.1 z221).2.2.2.1 <|
 T_callVi (k' := kX8_shares) (vs := [pI (X.2 (Int32.toNatClampNeg (b3 + 1))), pI (X.2 (Int32.toNatClampNeg (b3 + 2))), pI (X.2 (Int32.toNatClampNeg (b3 + 3))), pI (X.2 (Int32.toNatClampNeg (b3 + 4)))]) (st := []) dL_law_703 wm_L_85 okX8_shares rfl c_8_0_0 rfl rfl rfl (Nat.le_of_ble_eq_true rfl) rfl (Nat.le_of_ble_eq_true rfl) (TT.mono ((h.2 z204).2.2.2.2.2.2.2.2.2.2.2.2.2.2.2.2.2.1 z221).2.2.2.2 (rI_mono (fun v114 M113 h119 =>
 T_aload_n dL_law_706 rfl <|
 T_aload_n dL_law_707 rfl <|
 T_iload_n dL_law_708 rfl <|
 T_iconst dL_law_709 ic_1 <|
 T_iadd dL_law_710 <|
 T_sld dL_law_711 h119.1 <|
 T_aload_n dL_law_712 rfl <|
 T_iload_n dL_law_713 rfl <|
 T_iconst dL_law_714 ic_2 <|
 T_iadd dL_law_715 <|
 T_sld dL_law_716 h119.2.1 <|
 T_aload_n dL_law_717 rfl <|
 T_iload_n dL_law_718 rfl <|
 T_iconst dL_law_719 ic_3 <|
 T_iadd dL_law_720 <|
 T_sld dL_law_721 h119.2.2.1 <|
 T_aload_n dL_law_722 rfl <|
 T_iload_n dL_law_723 rfl <|
 T_iconst dL_law_724 ic_4 <|
 T_iadd dL_law_725 <|
 T_sld dL_law_726 h119.2.2.2.1 <|
 T_callVi (k' := kX9_shares) (vs := [pI (X.2 (Int32.toNatClampNeg (b3 + 1))), pI (X.2 (Int32.toNatClampNeg (b3 + 2))), pI (X.2 (Int32.toNatClampNeg (b3 + 3))), pI (X.2 (Int32.toNatClampNeg (b3 + 4)))]) (st := [pI v114]) dL_law_727 wm_L_89 okX9_shares rfl c_9_0_0 rfl rfl rfl (Nat.le_of_ble_eq_true rfl) rfl (Nat.le_of_ble_eq_true rfl) (TT.mono h119.2.2.2.2 (rI_mono (fun v116 M115 h118 =>
 T_icmp_eq (tgt := 1103) dL_law_730 (by decide) (fun z117 =>
 (h118.1 z117)) (fun z117 =>
 T_iconst dL_law_733 ic_0 <|
 T_ireturn (ty := .boolean) dL_law_734 rfl rfl (h118.2 z117))))))))) (fun nz221 : ¬ ((X.2 (Int32.toNatClampNeg b3)) &&& 31) = 16 =>
 (Decidable.byCases (fun z222 : ((X.2 (Int32.toNatClampNeg b3)) &&& 31) = 17 => T_table (tgt := 735) dL_law_33 (by rw [z222]; decide +kernel) (by decide) <|
 T_aload_n dL_law_735 rfl <|
 T_aload_n dL_law_736 rfl <|
 T_iload_n dL_law_737 rfl <|
 T_iconst dL_law_738 ic_1 <|
 T_iadd dL_law_739 <|
 T_sld dL_law_740 ((h.2 z204).2.2.2.2.2.2.2.2.2.2.2.2.2.2.2.2.2.2.1 z222).1 <|
 T_callVi (k' := kX8_planks) (vs := [pI (X.2 (Int32.toNatClampNeg (b3 + 1)))]) (st := []) dL_law_741 wm_L_90 okX8_planks rfl c_8_0_0 rfl rfl rfl (Nat.le_of_ble_eq_true rfl) rfl (Nat.le_of_ble_eq_true rfl) (TT.mono ((h.2 z204).2.2.2.2.2.2.2.2.2.2.2.2.2.2.2.2.2.2.1 z222).2 (rI_mono (fun v121 M120 h126 =>
 T_aload_n dL_law_744 rfl <|
 T_aload_n dL_law_745 rfl <|
 T_iload_n dL_law_746 rfl <|
 T_iconst dL_law_747 ic_1 <|
 T_iadd dL_law_748 <|
 T_sld dL_law_749 h126.1 <|
 T_callVi (k' := kX9_planks) (vs := [pI (X.2 (Int32.toNatClampNeg (b3 + 1)))]) (st := [pI v121]) dL_law_750 wm_L_93 okX9_planks rfl c_9_0_0 rfl rfl rfl (Nat.le_of_ble_eq_true rfl) rfl (Nat.le_of_ble_eq_true rfl) (TT.mono h126.2 (rI_mono (fun v123 M122 h125 =>
 T_icmp_eq (tgt := 1103) dL_law_753 (by decide) (fun z124 =>
 (h125.1 z124)) (fun z124 =>
 T_iconst dL_law_756 ic_0 <|
 T_ireturn (ty := .boolean) dL_law_757 rfl rfl (h125.2 z124))))))))) (fun nz222 : ¬ ((X.2 (Int32.toNatClampNeg b3)) &&& 31) = 17 =>
 (Decidable.byCases (fun z223 : ((X.2 (Int32.toNatClampNeg b3)) &&& 31) = 18 => T_table (tgt := 758) dL_law_33 (by rw [z223]; decide +kernel) (by decide) <|
 T_aload_n dL_law_758 rfl <|
 T_aload_n dL_law_759 rfl <|
 T_iload_n dL_law_760 rfl <|
 T_iconst dL_law_761 ic_1 <|
 T_iadd dL_law_762 <|
 T_sld dL_law_763 ((h.2 z204).2.2.2.2.2.2.2.2.2.2.2.2.2.2.2.2.2.2.2.1 z223).1 <|
 T_aload_n dL_law_764 rfl <|
 T_iload_n dL_law_765 rfl <|
 T_iconst dL_law_766 ic_2 <|
 T_iadd dL_law_767 <|
 T_sld dL_law_768 ((h.2 z204).2.2.2.2.2.2.2.2.2.2.2.2.2.2.2.2.2.2.2.1 z223).2.1 <|
 T_callVi (k' := kX8_mean) (vs := [pI (X.2 (Int32.toNatClampNeg (b3 + 1))), pI (X.2 (Int32.toNatClampNeg (b3 + 2)))]) (st := []) dL_law_769 wm_L_94 okX8_mean rfl c_8_0_0 rfl rfl rfl (Nat.le_of_ble_eq_true rfl) rfl (Nat.le_of_ble_eq_true rfl) (TT.mono ((h.2 z204).2.2.2.2.2.2.2.2.2.2.2.2.2.2.2.2.2.2.2.1 z223).2.2 (rI_mono (fun v128 M127 h133 =>
 T_aload_n dL_law_772 rfl <|
 T_aload_n dL_law_773 rfl <|
 T_iload_n dL_law_774 rfl <|
 T_iconst dL_law_775 ic_1 <|
 T_iadd dL_law_776 <|
 T_sld dL_law_777 h133.1 <|
 T_aload_n dL_law_778 rfl <|
 T_iload_n dL_law_779 rfl <|
 T_iconst dL_law_780 ic_2 <|
 T_iadd dL_law_781 <|
 T_sld dL_law_782 h133.2.1 <|
 T_callVi (k' := kX9_mean) (vs := [pI (X.2 (Int32.toNatClampNeg (b3 + 1))), pI (X.2 (Int32.toNatClampNeg (b3 + 2)))]) (st := [pI v128]) dL_law_783 wm_L_97 okX9_mean rfl c_9_0_0 rfl rfl rfl (Nat.le_of_ble_eq_true rfl) rfl (Nat.le_of_ble_eq_true rfl) (TT.mono h133.2.2 (rI_mono (fun v130 M129 h132 =>
 T_icmp_eq (tgt := 1103) dL_law_786 (by decide) (fun z131 =>
 (h132.1 z131)) (fun z131 =>
 T_iconst dL_law_789 ic_0 <|
 T_ireturn (ty := .boolean) dL_law_790 rfl rfl (h132.2 z131))))))))) (fun nz223 : ¬ ((X.2 (Int32.toNatClampNeg b3)) &&& 31) = 18 =>
 (Decidable.byCases (fun z224 : ((X.2 (Int32.toNatClampNeg b3)) &&& 31) = 19 => T_table (tgt := 791) dL_law_33 (by rw [z224]; decide +kernel) (by decide) <|
 T_aload_n dL_law_791 rfl <|
 T_aload_n dL_law_792 rfl <|
 T_iload_n dL_law_793 rfl <|
 T_iconst dL_law_794 ic_1 <|
 T_iadd dL_law_795 <|
 T_sld dL_law_796 ((h.2 z204).2.2.2.2.2.2.2.2.2.2.2.2.2.2.2.2.2.2.2.2.1 z224).1 <|
 T_aload_n dL_law_797 rfl <|
 T_iload_n dL_law_798 rfl <|
 T_iconst dL_law_799 ic_2 <|
 T_iadd dL_law_800 <|
 T_sld dL_law_801 ((h.2 z204).2.2.2.2.2.2.2.2.2.2.2.2.2.2.2.2.2.2.2.2.1 z224).2.1 <|
 T_aload_n dL_law_802 rfl <|
 T_iload_n dL_law_803 rfl <|
 T_iconst dL_law_804 ic_3 <|
 T_iadd dL_law_805 <|
 T_sld dL_law_806 ((h.2 z204).2.2.2.2.2.2.2.2.2.2.2.2.2.2.2.2.2.2.2.2.1 z224).2.2.1 <|
 T_aload_n dL_law_807 rfl <|
 T_iload_n dL_law_808 rfl <|
 T_iconst dL_law_809 ic_4 <|
 T_iadd dL_law_810 <|
 T_sld dL_law_811 ((h.2 z204).2.2.2.2.2.2.2.2.2.2.2.2.2.2.2.2.2.2.2.2.1 z224).2.2.2.1 <|
 T_aload_n dL_law_812 rfl <|
 T_iload_n dL_law_813 rfl <|
 T_iconst dL_law_814 ic_5 <|
 T_iadd dL_law_815 <|
 T_sld dL_law_816 ((h.2 z204).2.2.2.2.2.2.2.2.2.2.2.2.2.2.2.2.2.2.2.2.1 z224).2.2.2.2.1 <|
 T_aload_n dL_law_817 rfl <|
 T_iload_n dL_law_818 rfl <|
 T_bipush dL_law_819 bp_6 <|
 T_iadd dL_law_821 <|
 T_sld dL_law_822 ((h.2 z204).2.2.2.2.2.2.2.2.2.2.2.2.2.2.2.2.2.2.2.2.1 z224).2.2.2.2.2.1 <|
 T_callVi (k' := kX8_asked) (vs := [pI (X.2 (Int32.toNatClampNeg (b3 + 1))), pI (X.2 (Int32.toNatClampNeg (b3 + 2))), pI (X.2 (Int32.toNatClampNeg (b3 + 3))), pI (X.2 (Int32.toNatClampNeg (b3 + 4))), pI (X.2 (Int32.toNatClampNeg (b3 + 5))), pI (X.2 (Int32.toNatClampNeg (b3 + 6)))]) (st := []) dL_law_823 wm_L_98 okX8_asked rfl c_8_0_0 rfl rfl rfl (Nat.le_of_ble_eq_true rfl) rfl (Nat.le_of_ble_eq_true rfl) (TT.mono ((h.2 z204).2.2.2.2.2.2.2.2.2.2.2.2.2.2.2.2.2.2.2.2.1 z224).2.2.2.2.2.2 (rI_mono (fun v135 M134 h140 =>
 T_aload_n dL_law_826 rfl <|
 T_aload_n dL_law_827 rfl <|
 T_iload_n dL_law_828 rfl <|
 T_iconst dL_law_829 ic_1 <|
 T_iadd dL_law_830 <|
 T_sld dL_law_831 h140.1 <|
 T_aload_n dL_law_832 rfl <|
 T_iload_n dL_law_833 rfl <|
 T_iconst dL_law_834 ic_2 <|
 T_iadd dL_law_835 <|
 T_sld dL_law_836 h140.2.1 <|
 T_aload_n dL_law_837 rfl <|
 T_iload_n dL_law_838 rfl <|
 T_iconst dL_law_839 ic_3 <|
 T_iadd dL_law_840 <|
 T_sld dL_law_841 h140.2.2.1 <|
 T_aload_n dL_law_842 rfl <|
 T_iload_n dL_law_843 rfl <|
 T_iconst dL_law_844 ic_4 <|
 T_iadd dL_law_845 <|
 T_sld dL_law_846 h140.2.2.2.1 <|
 T_aload_n dL_law_847 rfl <|
 T_iload_n dL_law_848 rfl <|
 T_iconst dL_law_849 ic_5 <|
 T_iadd dL_law_850 <|
 T_sld dL_law_851 h140.2.2.2.2.1 <|
 T_aload_n dL_law_852 rfl <|
 T_iload_n dL_law_853 rfl <|
 T_bipush dL_law_854 bp_6 <|
 T_iadd dL_law_856 <|
 T_sld dL_law_857 h140.2.2.2.2.2.1 <|
 T_callVi (k' := kX9_asked) (vs := [pI (X.2 (Int32.toNatClampNeg (b3 + 1))), pI (X.2 (Int32.toNatClampNeg (b3 + 2))), pI (X.2 (Int32.toNatClampNeg (b3 + 3))), pI (X.2 (Int32.toNatClampNeg (b3 + 4))), pI (X.2 (Int32.toNatClampNeg (b3 + 5))), pI (X.2 (Int32.toNatClampNeg (b3 + 6)))]) (st := [pI v135]) dL_law_858 wm_L_102 okX9_asked rfl c_9_0_0 rfl rfl rfl (Nat.le_of_ble_eq_true rfl) rfl (Nat.le_of_ble_eq_true rfl) (TT.mono h140.2.2.2.2.2.2 (rI_mono (fun v137 M136 h139 =>
 T_icmp_eq (tgt := 1103) dL_law_861 (by decide) (fun z138 =>
 (h139.1 z138)) (fun z138 =>
 T_iconst dL_law_864 ic_0 <|
 T_ireturn (ty := .boolean) dL_law_865 rfl rfl (h139.2 z138))))))))) (fun nz224 : ¬ ((X.2 (Int32.toNatClampNeg b3)) &&& 31) = 19 =>
 (Decidable.byCases (fun z225 : ((X.2 (Int32.toNatClampNeg b3)) &&& 31) = 20 => T_table (tgt := 866) dL_law_33 (by rw [z225]; decide +kernel) (by decide) <|
 T_aload_n dL_law_866 rfl <|
 T_aload_n dL_law_867 rfl <|
 T_iload_n dL_law_868 rfl <|
 T_iconst dL_law_869 ic_1 <|
 T_iadd dL_law_870 <|
 T_sld dL_law_871 ((h.2 z204).2.2.2.2.2.2.2.2.2.2.2.2.2.2.2.2.2.2.2.2.2.1 z225).1 <|
 T_aload_n dL_law_872 rfl <|
 T_iload_n dL_law_873 rfl <|
 T_iconst dL_law_874 ic_2 <|
 T_iadd dL_law_875 <|
 T_sld dL_law_876 ((h.2 z204).2.2.2.2.2.2.2.2.2.2.2.2.2.2.2.2.2.2.2.2.2.1 z225).2.1 <|
 T_aload_n dL_law_877 rfl <|
 T_iload_n dL_law_878 rfl <|
 T_iconst dL_law_879 ic_3 <|
 T_iadd dL_law_880 <|
 T_sld dL_law_881 ((h.2 z204).2.2.2.2.2.2.2.2.2.2.2.2.2.2.2.2.2.2.2.2.2.1 z225).2.2.1 <|
 T_callVi (k' := kX8_deal) (vs := [pI (X.2 (Int32.toNatClampNeg (b3 + 1))), pI (X.2 (Int32.toNatClampNeg (b3 + 2))), pI (X.2 (Int32.toNatClampNeg (b3 + 3)))]) (st := []) dL_law_882 wm_L_103 okX8_deal rfl c_8_0_0 rfl rfl rfl (Nat.le_of_ble_eq_true rfl) rfl (Nat.le_of_ble_eq_true rfl) (TT.mono ((h.2 z204).2.2.2.2.2.2.2.2.2.2.2.2.2.2.2.2.2.2.2.2.2.1 z225).2.2.2 (rI_mono (fun v142 M141 h147 =>
 T_aload_n dL_law_885 rfl <|
 T_aload_n dL_law_886 rfl <|
 T_iload_n dL_law_887 rfl <|
 T_iconst dL_law_888 ic_1 <|
 T_iadd dL_law_889 <|
 T_sld dL_law_890 h147.1 <|
 T_aload_n dL_law_891 rfl <|
 T_iload_n dL_law_892 rfl <|
 T_iconst dL_law_893 ic_2 <|
 T_iadd dL_law_894 <|
 T_sld dL_law_895 h147.2.1 <|
 T_aload_n dL_law_896 rfl <|
 T_iload_n dL_law_897 rfl <|
 T_iconst dL_law_898 ic_3 <|
 T_iadd dL_law_899 <|
 T_sld dL_law_900 h147.2.2.1 <|
 T_callVi (k' := kX9_deal) (vs := [pI (X.2 (Int32.toNatClampNeg (b3 + 1))), pI (X.2 (Int32.toNatClampNeg (b3 + 2))), pI (X.2 (Int32.toNatClampNeg (b3 + 3)))]) (st := [pI v142]) dL_law_901 wm_L_106 okX9_deal rfl c_9_0_0 rfl rfl rfl (Nat.le_of_ble_eq_true rfl) rfl (Nat.le_of_ble_eq_true rfl) (TT.mono h147.2.2.2 (rI_mono (fun v144 M143 h146 =>
 T_icmp_eq (tgt := 1103) dL_law_904 (by decide) (fun z145 =>
 (h146.1 z145)) (fun z145 =>
 T_iconst dL_law_907 ic_0 <|
 T_ireturn (ty := .boolean) dL_law_908 rfl rfl (h146.2 z145))))))))) (fun nz225 : ¬ ((X.2 (Int32.toNatClampNeg b3)) &&& 31) = 20 =>
 (Decidable.byCases (fun z226 : ((X.2 (Int32.toNatClampNeg b3)) &&& 31) = 21 => T_table (tgt := 909) dL_law_33 (by rw [z226]; decide +kernel) (by decide) <|
 T_aload_n dL_law_909 rfl <|
 T_aload_n dL_law_910 rfl <|
 T_iload_n dL_law_911 rfl <|
 T_iconst dL_law_912 ic_1 <|
 T_iadd dL_law_913 <|
 T_sld dL_law_914 ((h.2 z204).2.2.2.2.2.2.2.2.2.2.2.2.2.2.2.2.2.2.2.2.2.2.1 z226).1 <|
 T_callVi (k' := kX8_image) (vs := [pI (X.2 (Int32.toNatClampNeg (b3 + 1)))]) (st := []) dL_law_915 wm_L_107 okX8_image rfl c_8_0_0 rfl rfl rfl (Nat.le_of_ble_eq_true rfl) rfl (Nat.le_of_ble_eq_true rfl) (TT.mono ((h.2 z204).2.2.2.2.2.2.2.2.2.2.2.2.2.2.2.2.2.2.2.2.2.2.1 z226).2 (rI_mono (fun v149 M148 h154 =>
 T_aload_n dL_law_918 rfl <|
 T_aload_n dL_law_919 rfl <|
 T_iload_n dL_law_920 rfl <|
 T_iconst dL_law_921 ic_1 <|
 T_iadd dL_law_922 <|
 T_sld dL_law_923 h154.1 <|
 T_callVi (k' := kX9_image) (vs := [pI (X.2 (Int32.toNatClampNeg (b3 + 1)))]) (st := [pI v149]) dL_law_924 wm_L_110 okX9_image rfl c_9_0_0 rfl rfl rfl (Nat.le_of_ble_eq_true rfl) rfl (Nat.le_of_ble_eq_true rfl) (TT.mono h154.2 (rI_mono (fun v151 M150 h153 =>
 T_icmp_eq (tgt := 1103) dL_law_927 (by decide) (fun z152 =>
 (h153.1 z152)) (fun z152 =>
 T_iconst dL_law_930 ic_0 <|
 T_ireturn (ty := .boolean) dL_law_931 rfl rfl (h153.2 z152))))))))) (fun nz226 : ¬ ((X.2 (Int32.toNatClampNeg b3)) &&& 31) = 21 =>
 (Decidable.byCases (fun z227 : ((X.2 (Int32.toNatClampNeg b3)) &&& 31) = 22 => T_table (tgt := 932) dL_law_33 (by rw [z227]; decide +kernel) (by decide) <|
 T_aload_n dL_law_932 rfl <|
 T_aload_n dL_law_933 rfl <|
 T_iload_n dL_law_934 rfl <|
 T_iconst dL_law_935 ic_1 <|
 T_iadd dL_law_936 <|
 T_sld dL_law_937 ((h.2 z204).2.2.2.2.2.2.2.2.2.2.2.2.2.2.2.2.2.2.2.2.2.2.2.1 z227).1 <|
 T_callVi (k' := kX8_restore) (vs := [pI (X.2 (Int32.toNatClampNeg (b3 + 1)))]) (st := []) dL_law_938 wm_L_111 okX8_restore rfl c_8_0_0 rfl rfl rfl (Nat.le_of_ble_eq_true rfl) rfl (Nat.le_of_ble_eq_true rfl) (TT.mono ((h.2 z204).2.2.2.2.2.2.2.2.2.2.2.2.2.2.2.2.2.2.2.2.2.2.2.1 z227).2 (rI_mono (fun v156 M155 h161 =>
 T_aload_n dL_law_941 rfl <|
 T_aload_n dL_law_942 rfl <|
 T_iload_n dL_law_943 rfl <|
 T_iconst dL_law_944 ic_1 <|
 T_iadd dL_law_945 <|
 T_sld dL_law_946 h161.1 <|
 T_callVi (k' := kX9_restore) (vs := [pI (X.2 (Int32.toNatClampNeg (b3 + 1)))]) (st := [pI v156]) dL_law_947 wm_L_114 okX9_restore rfl c_9_0_0 rfl rfl rfl (Nat.le_of_ble_eq_true rfl) rfl (Nat.le_of_ble_eq_true rfl) (TT.mono h161.2 (rI_mono (fun v158 M157 h160 =>
 T_icmp_eq (tgt := 1103) dL_law_950 (by decide) (fun z159 =>
 (h160.1 z159)) (fun z159 =>
 T_iconst dL_law_953 ic_0 <|
 T_ireturn (ty := .boolean) dL_law_954 rfl rfl (h160.2 z159))))))))) (fun nz227 : ¬ ((X.2 (Int32.toNatClampNeg b3)) &&& 31) = 22 =>
 (Decidable.byCases (fun z228 : ((X.2 (Int32.toNatClampNeg b3)) &&& 31) = 23 => T_table (tgt := 955) dL_law_33 (by rw [z228]; decide +kernel) (by decide) <|
 T_aload_n dL_law_955 rfl <|
 T_aload_n dL_law_956 rfl <|
 T_iload_n dL_law_957 rfl <|
 T_iconst dL_law_958 ic_1 <|
 T_iadd dL_law_959 <|
 T_sld dL_law_960 ((h.2 z204).2.2.2.2.2.2.2.2.2.2.2.2.2.2.2.2.2.2.2.2.2.2.2.2.1 z228).1 <|
 T_callVi (k' := kX8_kind) (vs := [pI (X.2 (Int32.toNatClampNeg (b3 + 1)))]) (st := []) dL_law_961 wm_L_115 okX8_kind rfl c_8_0_0 rfl rfl rfl (Nat.le_of_ble_eq_true rfl) rfl (Nat.le_of_ble_eq_true rfl) (TT.mono ((h.2 z204).2.2.2.2.2.2.2.2.2.2.2.2.2.2.2.2.2.2.2.2.2.2.2.2.1 z228).2 (rI_mono (fun v163 M162 h168 =>
 T_aload_n dL_law_964 rfl <|
 T_aload_n dL_law_965 rfl <|
 T_iload_n dL_law_966 rfl <|
 T_iconst dL_law_967 ic_1 <|
 T_iadd dL_law_968 <|
 T_sld dL_law_969 h168.1 <|
 T_callVi (k' := kX9_kind) (vs := [pI (X.2 (Int32.toNatClampNeg (b3 + 1)))]) (st := [pI v163]) dL_law_970 wm_L_118 okX9_kind rfl c_9_0_0 rfl rfl rfl (Nat.le_of_ble_eq_true rfl) rfl (Nat.le_of_ble_eq_true rfl) (TT.mono h168.2 (rI_mono (fun v165 M164 h167 =>
 T_icmp_eq (tgt := 1103) dL_law_973 (by decide) (fun z166 =>
 (h167.1 z166)) (fun z166 =>
 T_iconst dL_law_976 ic_0 <|
 T_ireturn (ty := .boolean) dL_law_977 rfl rfl (h167.2 z166))))))))) (fun nz228 : ¬ ((X.2 (Int32.toNatClampNeg b3)) &&& 31) = 23 =>
 (Decidable.byCases (fun z229 : ((X.2 (Int32.toNatClampNeg b3)) &&& 31) = 24 => T_table (tgt := 978) dL_law_33 (by rw [z229]; decide +kernel) (by decide) <|
 T_aload_n dL_law_978 rfl <|
 T_aload_n dL_law_979 rfl <|
 T_iload_n dL_law_980 rfl <|
 T_iconst dL_law_981 ic_1 <|
 T_iadd dL_law_982 <|
 T_sld dL_law_983 ((h.2 z204).2.2.2.2.2.2.2.2.2.2.2.2.2.2.2.2.2.2.2.2.2.2.2.2.2.1 z229).1 <|
 T_aload_n dL_law_984 rfl <|
 T_iload_n dL_law_985 rfl <|
 T_iconst dL_law_986 ic_2 <|
 T_iadd dL_law_987 <|
 T_sld dL_law_988 ((h.2 z204).2.2.2.2.2.2.2.2.2.2.2.2.2.2.2.2.2.2.2.2.2.2.2.2.2.1 z229).2.1 <|
 T_callVi (k' := kX8_as) (vs := [pI (X.2 (Int32.toNatClampNeg (b3 + 1))), pI (X.2 (Int32.toNatClampNeg (b3 + 2)))]) (st := []) dL_law_989 wm_L_119 okX8_as rfl c_8_0_0 rfl rfl rfl (Nat.le_of_ble_eq_true rfl) rfl (Nat.le_of_ble_eq_true rfl) (TT.mono ((h.2 z204).2.2.2.2.2.2.2.2.2.2.2.2.2.2.2.2.2.2.2.2.2.2.2.2.2.1 z229).2.2 (rI_mono (fun v170 M169 h175 =>
 T_aload_n dL_law_992 rfl <|
 T_aload_n dL_law_993 rfl <|
 T_iload_n dL_law_994 rfl <|
 T_iconst dL_law_995 ic_1 <|
 T_iadd dL_law_996 <|
 T_sld dL_law_997 h175.1 <|
 T_aload_n dL_law_998 rfl <|
 T_iload_n dL_law_999 rfl <|
 T_iconst dL_law_1000 ic_2 <|
 T_iadd dL_law_1001 <|
 T_sld dL_law_1002 h175.2.1 <|
 T_callVi (k' := kX9_as) (vs := [pI (X.2 (Int32.toNatClampNeg (b3 + 1))), pI (X.2 (Int32.toNatClampNeg (b3 + 2)))]) (st := [pI v170]) dL_law_1003 wm_L_122 okX9_as rfl c_9_0_0 rfl rfl rfl (Nat.le_of_ble_eq_true rfl) rfl (Nat.le_of_ble_eq_true rfl) (TT.mono h175.2.2 (rI_mono (fun v172 M171 h174 =>
 T_icmp_eq (tgt := 1103) dL_law_1006 (by decide) (fun z173 =>
 (h174.1 z173)) (fun z173 =>
 T_iconst dL_law_1009 ic_0 <|
 T_ireturn (ty := .boolean) dL_law_1010 rfl rfl (h174.2 z173))))))))) (fun nz229 : ¬ ((X.2 (Int32.toNatClampNeg b3)) &&& 31) = 24 =>
 (Decidable.byCases (fun z230 : ((X.2 (Int32.toNatClampNeg b3)) &&& 31) = 25 => T_table (tgt := 1011) dL_law_33 (by rw [z230]; decide +kernel) (by decide) <|
 T_aload_n dL_law_1011 rfl <|
 T_aload_n dL_law_1012 rfl <|
 T_iload_n dL_law_1013 rfl <|
 T_iconst dL_law_1014 ic_1 <|
 T_iadd dL_law_1015 <|
 T_sld dL_law_1016 ((h.2 z204).2.2.2.2.2.2.2.2.2.2.2.2.2.2.2.2.2.2.2.2.2.2.2.2.2.2.1 z230).1 <|
 T_aload_n dL_law_1017 rfl <|
 T_iload_n dL_law_1018 rfl <|
 T_iconst dL_law_1019 ic_2 <|
 T_iadd dL_law_1020 <|
 T_sld dL_law_1021 ((h.2 z204).2.2.2.2.2.2.2.2.2.2.2.2.2.2.2.2.2.2.2.2.2.2.2.2.2.2.1 z230).2.1 <|
 T_callVi (k' := kX8_ask) (vs := [pI (X.2 (Int32.toNatClampNeg (b3 + 1))), pI (X.2 (Int32.toNatClampNeg (b3 + 2)))]) (st := []) dL_law_1022 wm_L_123 okX8_ask rfl c_8_0_0 rfl rfl rfl (Nat.le_of_ble_eq_true rfl) rfl (Nat.le_of_ble_eq_true rfl) (TT.mono ((h.2 z204).2.2.2.2.2.2.2.2.2.2.2.2.2.2.2.2.2.2.2.2.2.2.2.2.2.2.1 z230).2.2 (rI_mono (fun v177 M176 h182 =>
 T_aload_n dL_law_1025 rfl <|
 T_aload_n dL_law_1026 rfl <|
 T_iload_n dL_law_1027 rfl <|
 T_iconst dL_law_1028 ic_1 <|
 T_iadd dL_law_1029 <|
 T_sld dL_law_1030 h182.1 <|
 T_aload_n dL_law_1031 rfl <|
 T_iload_n dL_law_1032 rfl <|
 T_iconst dL_law_1033 ic_2 <|
 T_iadd dL_law_1034 <|
 T_sld dL_law_1035 h182.2.1 <|
 T_callVi (k' := kX9_ask) (vs := [pI (X.2 (Int32.toNatClampNeg (b3 + 1))), pI (X.2 (Int32.toNatClampNeg (b3 + 2)))]) (st := [pI v177]) dL_law_1036 wm_L_126 okX9_ask rfl c_9_0_0 rfl rfl rfl (Nat.le_of_ble_eq_true rfl) rfl (Nat.le_of_ble_eq_true rfl) (TT.mono h182.2.2 (rI_mono (fun v179 M178 h181 =>
 T_icmp_eq (tgt := 1103) dL_law_1039 (by decide) (fun z180 =>
 (h181.1 z180)) (fun z180 =>
 T_iconst dL_law_1042 ic_0 <|
 T_ireturn (ty := .boolean) dL_law_1043 rfl rfl (h181.2 z180))))))))) (fun nz230 : ¬ ((X.2 (Int32.toNatClampNeg b3)) &&& 31) = 25 =>
 (Decidable.byCases (fun z231 : ((X.2 (Int32.toNatClampNeg b3)) &&& 31) = 26 => T_table (tgt := 1044) dL_law_33 (by rw [z231]; decide +kernel) (by decide) <|
 T_aload_n dL_law_1044 rfl <|
 T_aload_n dL_law_1045 rfl <|
 T_iload_n dL_law_1046 rfl <|
 T_iconst dL_law_1047 ic_1 <|
 T_iadd dL_law_1048 <|
 T_sld dL_law_1049 ((h.2 z204).2.2.2.2.2.2.2.2.2.2.2.2.2.2.2.2.2.2.2.2.2.2.2.2.2.2.2.1 z231).1 <|
 T_callVi (k' := kX8_trace) (vs := [pI (X.2 (Int32.toNatClampNeg (b3 + 1)))]) (st := []) dL_law_1050 wm_L_127 okX8_trace rfl c_8_0_0 rfl rfl rfl (Nat.le_of_ble_eq_true rfl) rfl (Nat.le_of_ble_eq_true rfl) (TT.mono ((h.2 z204).2.2.2.2.2.2.2.2.2.2.2.2.2.2.2.2.2.2.2.2.2.2.2.2.2.2.2.1 z231).2 (rI_mono (fun v184 M183 h189 =>
 T_aload_n dL_law_1053 rfl <|
 T_aload_n dL_law_1054 rfl <|
 T_iload_n dL_law_1055 rfl <|
 T_iconst dL_law_1056 ic_1 <|
 T_iadd dL_law_1057 <|
 T_sld dL_law_1058 h189.1 <|
 T_callVi (k' := kX9_trace) (vs := [pI (X.2 (Int32.toNatClampNeg (b3 + 1)))]) (st := [pI v184]) dL_law_1059 wm_L_130 okX9_trace rfl c_9_0_0 rfl rfl rfl (Nat.le_of_ble_eq_true rfl) rfl (Nat.le_of_ble_eq_true rfl) (TT.mono h189.2 (rI_mono (fun v186 M185 h188 =>
 T_icmp_eq (tgt := 1103) dL_law_1062 (by decide) (fun z187 =>
 (h188.1 z187)) (fun z187 =>
 T_iconst dL_law_1065 ic_0 <|
 T_ireturn (ty := .boolean) dL_law_1066 rfl rfl (h188.2 z187))))))))) (fun nz231 : ¬ ((X.2 (Int32.toNatClampNeg b3)) &&& 31) = 26 =>
 (Decidable.byCases (fun z232 : ((X.2 (Int32.toNatClampNeg b3)) &&& 31) = 27 => T_table (tgt := 1067) dL_law_33 (by rw [z232]; decide +kernel) (by decide) <|
 T_aload_n dL_law_1067 rfl <|
 T_aload_n dL_law_1068 rfl <|
 T_iload_n dL_law_1069 rfl <|
 T_iconst dL_law_1070 ic_1 <|
 T_iadd dL_law_1071 <|
 T_sld dL_law_1072 ((h.2 z204).2.2.2.2.2.2.2.2.2.2.2.2.2.2.2.2.2.2.2.2.2.2.2.2.2.2.2.2.1 z232).1 <|
 T_callVi (k' := kX8_count) (vs := [pI (X.2 (Int32.toNatClampNeg (b3 + 1)))]) (st := []) dL_law_1073 wm_L_131 okX8_count rfl c_8_0_0 rfl rfl rfl (Nat.le_of_ble_eq_true rfl) rfl (Nat.le_of_ble_eq_true rfl) (TT.mono ((h.2 z204).2.2.2.2.2.2.2.2.2.2.2.2.2.2.2.2.2.2.2.2.2.2.2.2.2.2.2.2.1 z232).2 (rI_mono (fun v191 M190 h196 =>
 T_aload_n dL_law_1076 rfl <|
 T_aload_n dL_law_1077 rfl <|
 T_iload_n dL_law_1078 rfl <|
 T_iconst dL_law_1079 ic_1 <|
 T_iadd dL_law_1080 <|
 T_sld dL_law_1081 h196.1 <|
 T_callVi (k' := kX9_count) (vs := [pI (X.2 (Int32.toNatClampNeg (b3 + 1)))]) (st := [pI v191]) dL_law_1082 wm_L_134 okX9_count rfl c_9_0_0 rfl rfl rfl (Nat.le_of_ble_eq_true rfl) rfl (Nat.le_of_ble_eq_true rfl) (TT.mono h196.2 (rI_mono (fun v193 M192 h195 =>
 T_icmp_eq (tgt := 1103) dL_law_1085 (by decide) (fun z194 =>
 (h195.1 z194)) (fun z194 =>
 T_iconst dL_law_1088 ic_0 <|
 T_ireturn (ty := .boolean) dL_law_1089 rfl rfl (h195.2 z194))))))))) (fun nz232 : ¬ ((X.2 (Int32.toNatClampNeg b3)) &&& 31) = 27 =>
 (Decidable.byCases (fun z233 : ((X.2 (Int32.toNatClampNeg b3)) &&& 31) = 28 => T_table (tgt := 1090) dL_law_33 (by rw [z233]; decide +kernel) (by decide) <|
 T_aload_n dL_law_1090 rfl <|
 T_callVi (k' := kX8_status) (vs := []) (st := []) dL_law_1091 wm_L_135 okX8_status rfl c_8_0_0 rfl rfl rfl (Nat.le_of_ble_eq_true rfl) rfl (Nat.le_of_ble_eq_true rfl) (TT.mono ((h.2 z204).2.2.2.2.2.2.2.2.2.2.2.2.2.2.2.2.2.2.2.2.2.2.2.2.2.2.2.2.2.1 z233) (rI_mono (fun v198 M197 h203 =>
 T_aload_n dL_law_1094 rfl <|
 T_callVi (k' := kX9_status) (vs := []) (st := [pI v198]) dL_law_1095 wm_L_138 okX9_status rfl c_9_0_0 rfl rfl rfl (Nat.le_of_ble_eq_true rfl) rfl (Nat.le_of_ble_eq_true rfl) (TT.mono h203 (rI_mono (fun v200 M199 h202 =>
 T_icmp_eq (tgt := 1103) dL_law_1098 (by decide) (fun z201 =>
 (h202.1 z201)) (fun z201 =>
 T_iconst dL_law_1101 ic_0 <|
 T_ireturn (ty := .boolean) dL_law_1102 rfl rfl (h202.2 z201))))))))) (fun nz233 : ¬ ((X.2 (Int32.toNatClampNeg b3)) &&& 31) = 28 =>
 (have zd233 := swo_0_28 nz205 nz206 nz207 nz208 nz209 nz210 nz211 nz212 nz213 nz214 nz215 nz216 nz217 nz218 nz219 nz220 nz221 nz222 nz223 nz224 nz225 nz226 nz227 nz228 nz229 nz230 nz231 nz232 nz233
 T_table (tgt := 1103) dL_law_33 (by rw [if_pos zd233]; decide) (by decide) <|
 ((h.2 z204).2.2.2.2.2.2.2.2.2.2.2.2.2.2.2.2.2.2.2.2.2.2.2.2.2.2.2.2.2.2 zd233)))))))))))))))))))))))))))))))))))))))))))))))))))))))))))))
set_option maxRecDepth 100000 in
set_option maxHeartbeats 4000000 in
theorem rL_law_1103 {X : Nat × (Nat → Int32)} {b3 : Int32} {M : Mem} {Q : Option PV → Mem → Prop} (h : TT X kL_law 18 [some (pR (30, 0, 0)), some (pR (8, 0, 0)), some (pR (9, 0, 0)), some (pI (b3 + 7))] [] M Q) : TT X kL_law 1103 [some (pR (30, 0, 0)), some (pR (8, 0, 0)), some (pR (9, 0, 0)), some (pI b3)] [] M Q :=
 T_iinc dL_law_1103 rfl (ii_7 _) (by decide) rfl rfl <|
 T_goto (tgt := 18) dL_law_1106 (by decide) <|
 h
