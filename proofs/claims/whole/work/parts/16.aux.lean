theorem bp_10 : (Int8.ofInt (10)).toInt32 = 10 := by decide +kernel
theorem bp_100 : (Int8.ofInt (100)).toInt32 = 100 := by decide +kernel
theorem bp_11 : (Int8.ofInt (11)).toInt32 = 11 := by decide +kernel
theorem bp_12 : (Int8.ofInt (12)).toInt32 = 12 := by decide +kernel
theorem bp_122 : (Int8.ofInt (122)).toInt32 = 122 := by decide +kernel
theorem bp_13 : (Int8.ofInt (13)).toInt32 = 13 := by decide +kernel
theorem bp_14 : (Int8.ofInt (14)).toInt32 = 14 := by decide +kernel
theorem bp_16 : (Int8.ofInt (16)).toInt32 = 16 := by decide +kernel
theorem bp_18 : (Int8.ofInt (18)).toInt32 = 18 := by decide +kernel
theorem bp_20 : (Int8.ofInt (20)).toInt32 = 20 := by decide +kernel
theorem bp_21 : (Int8.ofInt (21)).toInt32 = 21 := by decide +kernel
theorem bp_22 : (Int8.ofInt (22)).toInt32 = 22 := by decide +kernel
theorem bp_23 : (Int8.ofInt (23)).toInt32 = 23 := by decide +kernel
theorem bp_24 : (Int8.ofInt (24)).toInt32 = 24 := by decide +kernel
theorem bp_31 : (Int8.ofInt (31)).toInt32 = 31 := by decide +kernel
theorem bp_32 : (Int8.ofInt (32)).toInt32 = 32 := by decide +kernel
theorem bp_40 : (Int8.ofInt (40)).toInt32 = 40 := by decide +kernel
theorem bp_48 : (Int8.ofInt (48)).toInt32 = 48 := by decide +kernel
theorem bp_56 : (Int8.ofInt (56)).toInt32 = 56 := by decide +kernel
theorem bp_57 : (Int8.ofInt (57)).toInt32 = 57 := by decide +kernel
theorem bp_59 : (Int8.ofInt (59)).toInt32 = 59 := by decide +kernel
theorem bp_6 : (Int8.ofInt (6)).toInt32 = 6 := by decide +kernel
theorem bp_64 : (Int8.ofInt (64)).toInt32 = 64 := by decide +kernel
theorem bp_8 : (Int8.ofInt (8)).toInt32 = 8 := by decide +kernel
theorem bp_80 : (Int8.ofInt (80)).toInt32 = 80 := by decide +kernel
theorem bp_9 : (Int8.ofInt (9)).toInt32 = 9 := by decide +kernel
theorem bp_97 : (Int8.ofInt (97)).toInt32 = 97 := by decide +kernel
theorem bp_m2 : (Int8.ofInt (-2)).toInt32 = (-2) := by decide +kernel
theorem bp_m3 : (Int8.ofInt (-3)).toInt32 = (-3) := by decide +kernel
theorem c_0_0_0 : (0, 0, 0) ∈ CL := by decide +kernel
theorem c_0_0_1 : (0, 0, 1) ∈ CL := by decide +kernel
theorem c_0_0_2 : (0, 0, 2) ∈ CL := by decide +kernel
theorem c_0_0_3 : (0, 0, 3) ∈ CL := by decide +kernel
theorem c_1_0_0 : (1, 0, 0) ∈ CL := by decide +kernel
theorem c_1_0_1 : (1, 0, 1) ∈ CL := by decide +kernel
theorem c_2_0_0 : (2, 0, 0) ∈ CL := by decide +kernel
theorem c_2_1_0 : (2, 1, 0) ∈ CL := by decide +kernel
theorem c_3_0_0 : (3, 0, 0) ∈ CL := by decide +kernel
theorem c_4_0_0 : (4, 0, 0) ∈ CL := by decide +kernel
theorem c_4_0_1 : (4, 0, 1) ∈ CL := by decide +kernel
theorem c_5_0_0 : (5, 0, 0) ∈ CL := by decide +kernel
theorem c_5_0_1 : (5, 0, 1) ∈ CL := by decide +kernel
theorem c_5_0_2 : (5, 0, 2) ∈ CL := by decide +kernel
theorem c_5_0_3 : (5, 0, 3) ∈ CL := by decide +kernel
theorem c_6_0_0 : (6, 0, 0) ∈ CL := by decide +kernel
theorem c_6_0_3 : (6, 0, 3) ∈ CL := by decide +kernel
theorem c_6_0_4 : (6, 0, 4) ∈ CL := by decide +kernel
theorem c_6_0_5 : (6, 0, 5) ∈ CL := by decide +kernel
theorem c_6_0_6 : (6, 0, 6) ∈ CL := by decide +kernel
theorem c_6_2_0 : (6, 2, 0) ∈ CL := by decide +kernel
theorem c_6_2_3 : (6, 2, 3) ∈ CL := by decide +kernel
theorem c_6_2_4 : (6, 2, 4) ∈ CL := by decide +kernel
theorem c_6_2_6 : (6, 2, 6) ∈ CL := by decide +kernel
theorem c_7_0_0 : (7, 0, 0) ∈ CL := by decide +kernel
theorem c_7_0_1 : (7, 0, 1) ∈ CL := by decide +kernel
theorem c_8_0_0 : (8, 0, 0) ∈ CL := by decide +kernel
theorem c_9_0_0 : (9, 0, 0) ∈ CL := by decide +kernel
theorem c_9_0_11 : (9, 0, 11) ∈ CL := by decide +kernel
theorem c_9_0_21 : (9, 0, 21) ∈ CL := by decide +kernel
theorem c_9_0_22 : (9, 0, 22) ∈ CL := by decide +kernel
theorem c_9_0_23 : (9, 0, 23) ∈ CL := by decide +kernel
theorem c_9_0_24 : (9, 0, 24) ∈ CL := by decide +kernel
theorem c_9_0_25 : (9, 0, 25) ∈ CL := by decide +kernel
theorem c_9_0_26 : (9, 0, 26) ∈ CL := by decide +kernel
theorem c_9_0_29 : (9, 0, 29) ∈ CL := by decide +kernel
theorem c_9_0_3 : (9, 0, 3) ∈ CL := by decide +kernel
theorem c_9_0_30 : (9, 0, 30) ∈ CL := by decide +kernel
theorem c_9_0_4 : (9, 0, 4) ∈ CL := by decide +kernel
theorem c_9_0_5 : (9, 0, 5) ∈ CL := by decide +kernel
theorem c_9_0_6 : (9, 0, 6) ∈ CL := by decide +kernel
theorem c_9_0_7 : (9, 0, 7) ∈ CL := by decide +kernel
theorem c_9_0_9 : (9, 0, 9) ∈ CL := by decide +kernel
theorem cc2_0 {i : Nat} (h : i < 2) : (2, i, 0) ∈ CL := by
  have key : ∀ i : Fin 2, ((2, (i : Nat), 0) : PR) ∈ CL := by decide +kernel
  exact key ⟨i, h⟩
theorem cc2_1 {i : Nat} (h : i < 2) : (2, i, 1) ∈ CL := by
  have key : ∀ i : Fin 2, ((2, (i : Nat), 1) : PR) ∈ CL := by decide +kernel
  exact key ⟨i, h⟩
theorem cc2_2 {i : Nat} (h : i < 2) : (2, i, 2) ∈ CL := by
  have key : ∀ i : Fin 2, ((2, (i : Nat), 2) : PR) ∈ CL := by decide +kernel
  exact key ⟨i, h⟩
theorem cc2_3 {i : Nat} (h : i < 2) : (2, i, 3) ∈ CL := by
  have key : ∀ i : Fin 2, ((2, (i : Nat), 3) : PR) ∈ CL := by decide +kernel
  exact key ⟨i, h⟩
theorem cc6_0 {i : Nat} (h : i < 5) : (6, i, 0) ∈ CL := by
  have key : ∀ i : Fin 5, ((6, (i : Nat), 0) : PR) ∈ CL := by decide +kernel
  exact key ⟨i, h⟩
theorem cc6_3 {i : Nat} (h : i < 5) : (6, i, 3) ∈ CL := by
  have key : ∀ i : Fin 5, ((6, (i : Nat), 3) : PR) ∈ CL := by decide +kernel
  exact key ⟨i, h⟩
theorem cc6_4 {i : Nat} (h : i < 5) : (6, i, 4) ∈ CL := by
  have key : ∀ i : Fin 5, ((6, (i : Nat), 4) : PR) ∈ CL := by decide +kernel
  exact key ⟨i, h⟩
theorem cc6_5 {i : Nat} (h : i < 5) : (6, i, 5) ∈ CL := by
  have key : ∀ i : Fin 5, ((6, (i : Nat), 5) : PR) ∈ CL := by decide +kernel
  exact key ⟨i, h⟩
theorem cc6_6 {i : Nat} (h : i < 5) : (6, i, 6) ∈ CL := by
  have key : ∀ i : Fin 5, ((6, (i : Nat), 6) : PR) ∈ CL := by decide +kernel
  exact key ⟨i, h⟩
theorem cc6_7 {i : Nat} (h : i < 5) : (6, i, 7) ∈ CL := by
  have key : ∀ i : Fin 5, ((6, (i : Nat), 7) : PR) ∈ CL := by decide +kernel
  exact key ⟨i, h⟩
theorem cc6_8 {i : Nat} (h : i < 5) : (6, i, 8) ∈ CL := by
  have key : ∀ i : Fin 5, ((6, (i : Nat), 8) : PR) ∈ CL := by decide +kernel
  exact key ⟨i, h⟩
theorem cc6_9 {i : Nat} (h : i < 5) : (6, i, 9) ∈ CL := by
  have key : ∀ i : Fin 5, ((6, (i : Nat), 9) : PR) ∈ CL := by decide +kernel
  exact key ⟨i, h⟩
theorem ic_0 : Int32.ofInt (0) = 0 := by decide +kernel
theorem ic_1 : Int32.ofInt (1) = 1 := by decide +kernel
theorem ic_2 : Int32.ofInt (2) = 2 := by decide +kernel
theorem ic_3 : Int32.ofInt (3) = 3 := by decide +kernel
theorem ic_4 : Int32.ofInt (4) = 4 := by decide +kernel
theorem ic_5 : Int32.ofInt (5) = 5 := by decide +kernel
theorem ic_m1 : Int32.ofInt (-1) = (-1) := by decide +kernel
theorem ii_1 (x : Int32) : x + Int32.ofInt (1) = x + 1 := by rw [show Int32.ofInt (1) = 1 from by decide +kernel]
theorem ii_m1 (x : Int32) : x + Int32.ofInt (-1) = x + (-1) := by rw [show Int32.ofInt (-1) = (-1) from by decide +kernel]
theorem img_lt {x : Int32} (h : vp_in x 2) : x.toNatClampNeg + 3 < 5 := by
  have := Nat.not_le.mp fun q => h (Or.inr q)
  omega
theorem lc_0 : Int64.ofNat ((0 : Fin 2) : Nat) = 0 := by decide +kernel
theorem lc_1 : Int64.ofNat ((1 : Fin 2) : Nat) = 1 := by decide +kernel
theorem nz_b {x : Int32} (h : x = 0 ∨ x = 1) : narrow .boolean (.int x) = .int x := by rcases h with rfl | rfl <;> rfl
theorem sp_1000 : (Int16.ofInt (1000)).toInt32 = 1000 := by decide +kernel
theorem sp_1840 : (Int16.ofInt (1840)).toInt32 = 1840 := by decide +kernel
theorem sp_200 : (Int16.ofInt (200)).toInt32 = 200 := by decide +kernel
theorem sp_400 : (Int16.ofInt (400)).toInt32 = 400 := by decide +kernel
theorem sp_9999 : (Int16.ofInt (9999)).toInt32 = 9999 := by decide +kernel
theorem swo_0_2 {x : Int32} (h0 : ¬ x = 0) (h1 : ¬ x = 1) (h2 : ¬ x = 2) : x.toInt < 0 ∨ 2 < x.toInt := by
  have g0 : ¬ x.toInt = 0 := fun q => h0 (Int32.toInt_inj.mp (q.trans (by decide +kernel)))
  have g1 : ¬ x.toInt = 1 := fun q => h1 (Int32.toInt_inj.mp (q.trans (by decide +kernel)))
  have g2 : ¬ x.toInt = 2 := fun q => h2 (Int32.toInt_inj.mp (q.trans (by decide +kernel)))
  omega
theorem swo_0_5 {x : Int32} (h0 : ¬ x = 0) (h1 : ¬ x = 1) (h2 : ¬ x = 2) (h3 : ¬ x = 3) (h4 : ¬ x = 4) (h5 : ¬ x = 5) : x.toInt < 0 ∨ 5 < x.toInt := by
  have g0 : ¬ x.toInt = 0 := fun q => h0 (Int32.toInt_inj.mp (q.trans (by decide +kernel)))
  have g1 : ¬ x.toInt = 1 := fun q => h1 (Int32.toInt_inj.mp (q.trans (by decide +kernel)))
  have g2 : ¬ x.toInt = 2 := fun q => h2 (Int32.toInt_inj.mp (q.trans (by decide +kernel)))
  have g3 : ¬ x.toInt = 3 := fun q => h3 (Int32.toInt_inj.mp (q.trans (by decide +kernel)))
  have g4 : ¬ x.toInt = 4 := fun q => h4 (Int32.toInt_inj.mp (q.trans (by decide +kernel)))
  have g5 : ¬ x.toInt = 5 := fun q => h5 (Int32.toInt_inj.mp (q.trans (by decide +kernel)))
  omega
theorem swo_1_5 {x : Int32} (h0 : ¬ x = 1) (h1 : ¬ x = 2) (h2 : ¬ x = 3) (h3 : ¬ x = 4) (h4 : ¬ x = 5) : x.toInt < 1 ∨ 5 < x.toInt := by
  have g0 : ¬ x.toInt = 1 := fun q => h0 (Int32.toInt_inj.mp (q.trans (by decide +kernel)))
  have g1 : ¬ x.toInt = 2 := fun q => h1 (Int32.toInt_inj.mp (q.trans (by decide +kernel)))
  have g2 : ¬ x.toInt = 3 := fun q => h2 (Int32.toInt_inj.mp (q.trans (by decide +kernel)))
  have g3 : ¬ x.toInt = 4 := fun q => h3 (Int32.toInt_inj.mp (q.trans (by decide +kernel)))
  have g4 : ¬ x.toInt = 5 := fun q => h4 (Int32.toInt_inj.mp (q.trans (by decide +kernel)))
  omega
theorem tn_0 : (0 : Int32).toNatClampNeg = 0 := by decide +kernel
theorem tn_1 : (1 : Int32).toNatClampNeg = 1 := by decide +kernel
theorem vi_0_19 : vp_in 0 19 := by unfold vp_in; decide +kernel
theorem vi_0_20 : vp_in 0 20 := by unfold vp_in; decide +kernel
theorem vi_0_80 : vp_in 0 80 := by unfold vp_in; decide +kernel
theorem vi_1_80 : vp_in 1 80 := by unfold vp_in; decide +kernel
