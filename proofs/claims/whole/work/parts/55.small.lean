section SMALL
variable {X : Nat × (Nat → Int32)} {M : Mem} {Q : Option PV → Mem → Prop}
theorem pair_status {F : Int32 → Int32 → Mem → Prop} (hI : Inv M) (h : ∀ v M', Inv M' → F v v M') : TT X kX8_status 0 [some (pR (8, 0, 0))] [] M (rI fun v1 M1 => TT X kX9_status 0 [some (pR (9, 0, 0))] [] M1 (rI fun v2 M2 => F v1 v2 M2)) := by
  refine rX8_status_0 <| rX9_status_0 ?_
  have e : mset M 9 0 0 0 0 9 0 0 1 = M 8 0 0 12 := by
    rw [mset_c4 (by decide)]
    exact hI.2.2.2.1.symm
  rw [e]
  exact h _ _ (inv_thr hI)
theorem pair_fault {F : Int32 → Int32 → Mem → Prop} (hI : Inv M) (h : ∀ v M', Inv M' → F v v M') : TT X kX8_fault 0 [some (pR (8, 0, 0))] [] M (rI fun v1 M1 => TT X kX9_fault 0 [some (pR (9, 0, 0))] [] M1 (rI fun v2 M2 => F v1 v2 M2)) := by
  refine rX8_fault_0 <| rX9_fault_0 ?_
  have e : mset M 9 0 0 0 0 9 0 0 12 = M 8 0 0 11 := by
    rw [mset_c4 (by decide)]
    exact hI.2.2.1.symm
  rw [e]
  exact h _ _ (inv_thr hI)
theorem pair_trace {F : Int32 → Int32 → Mem → Prop} {a1 : Int32} (hI : Inv M) (h : ∀ v M', Inv M' → F v v M') : TT X kX8_trace 0 [some (pR (8, 0, 0)), some (pI a1)] [] M (rI fun v1 M1 => TT X kX9_trace 0 [some (pR (9, 0, 0)), some (pI a1)] [] M1 (rI fun v2 M2 => F v1 v2 M2)) := by
  obtain ⟨n, hn, t1, t2, t3⟩ := hI.2.2.2.2.2.2.2.1
  have en := nI_int (n := n) (by omega)
  have r1 := i32_rng a1
  have m : ∀ v, v = (if 0 ≤ a1.toInt ∧ a1.toInt < n then M 1 0 1 a1.toInt.toNat else -1000000) → TT X kX9_trace 0 [some (pR (9, 0, 0)), some (pI a1)] [] M (rI fun v2 M2 => F v v2 M2) := by
    intro v hv
    refine rX9_trace_0 <| s_in ?_
    show _ ∧ _
    rw [mset_c4 (by decide), t2]
    by_cases c : 0 ≤ a1.toInt ∧ a1.toInt < n
    · rw [if_pos c] at hv
      obtain ⟨k, hk, rfl⟩ : ∃ k : Nat, k < n ∧ a1 = nI k := ⟨a1.toInt.toNat, by omega, nI_is (by omega)⟩
      have ek := nI_int (n := k) (by omega)
      refine bz_t (by rw [i64, i64, nI_m1 (by omega), l64_0]; omega) ⟨vp_in_nI (by omega) (by decide), ?_⟩
      rw [clampI (by omega), mset_c4 (by simp), ← t3 k hk]
      rw [ek, Int.toNat_natCast] at hv
      rw [← hv]
      exact h _ _ (inv_thr hI)
    · rw [if_neg c] at hv
      refine bz_f (by rw [i64, i64, nI_m1 (by omega), l64_0]; omega) ?_
      subst hv
      exact h _ _ (inv_thr hI)
  refine rX8_trace_0 <| rX1_begun_0 ⟨fun z => ?_, fun z => ⟨fun y => ?_, fun y => ?_⟩⟩
  · rw [i32_lt, z0] at z
    exact m _ (if_neg (by omega)).symm
  · rw [i32_lt, z0] at z
    rw [t1, i32_le, en] at y
    exact m _ (if_neg (by omega)).symm
  · rw [i32_lt, z0] at z
    rw [t1, i32_le, en] at y
    obtain ⟨k, hk, rfl⟩ : ∃ k : Nat, k < n ∧ a1 = nI k := ⟨a1.toInt.toNat, by omega, nI_is (by omega)⟩
    have ek := nI_int (n := k) (by omega)
    refine ⟨vp_in_nI (by omega) (by decide), m _ ?_⟩
    rw [if_pos (by omega), ek, clampI (by omega), Int.toNat_natCast]
/-! steps and walkers -/
theorem s_hasStep {i n : Nat} {a1 : Int32} (hi : i < 5) (hn : n < 2 ^ 31) (e : M 6 i 0 0 = nI n) (h : Q (some (pI (bI (0 ≤ a1.toInt ∧ a1.toInt < n)))) M) : TT X kX6_hasStep 0 [some (pR (6, i, 0)), some (pI a1)] [] M Q := by
  refine rX6_hasStep_0 hi ⟨fun z => ?_, fun z => ⟨fun y => ?_, fun y => ?_⟩⟩
  · rw [i32_lt, z0] at z
    rwa [bI_f (by omega)] at h
  · rw [i32_lt, z0] at z
    rw [e, i32_le, nI_int hn] at y
    rwa [bI_f (by omega)] at h
  · rw [i32_lt, z0] at z
    rw [e, i32_le, nI_int hn] at y
    rwa [bI_t (by omega)] at h
theorem s_hasWalker {i n : Nat} {a1 : Int32} (hi : i < 5) (hn : n < 2 ^ 31) (e : M 6 i 0 1 = nI n) (h : Q (some (pI (bI (0 ≤ a1.toInt ∧ a1.toInt < n)))) M) : TT X kX6_hasWalker 0 [some (pR (6, i, 0)), some (pI a1)] [] M Q := by
  refine rX6_hasWalker_0 hi ⟨fun z => ?_, fun z => ⟨fun y => ?_, fun y => ?_⟩⟩
  · rw [i32_lt, z0] at z
    rwa [bI_f (by omega)] at h
  · rw [i32_lt, z0] at z
    rw [e, i32_le, nI_int hn] at y
    rwa [bI_f (by omega)] at h
  · rw [i32_lt, z0] at z
    rw [e, i32_le, nI_int hn] at y
    rwa [bI_t (by omega)] at h
theorem m_isStep {n : Nat} {a1 : Int32} (hn : n < 2 ^ 31) (e : M 9 0 6 0 = nI n) (h : Q (some (pI (bI (0 ≤ a1.toInt ∧ a1.toInt < n)))) M) : TT X kX9_isStep 0 [some (pR (9, 0, 0)), some (pI a1)] [] M Q := by
  refine rX9_isStep_0 <| s_in ⟨bI_01, ?_⟩
  rw [e]
  rwa [bI_c (d := 0 ≤ a1.toInt ∧ a1.toInt < n) (by rw [i64, i64, nI_m1 hn, l64_0]; omega)]
theorem m_isWalker {n : Nat} {a1 : Int32} (hn : n < 2 ^ 31) (e : M 9 0 6 1 = nI n) (h : Q (some (pI (bI (0 ≤ a1.toInt ∧ a1.toInt < n)))) M) : TT X kX9_isWalker 0 [some (pR (9, 0, 0)), some (pI a1)] [] M Q := by
  refine rX9_isWalker_0 <| s_in ⟨bI_01, ?_⟩
  rw [e]
  rwa [bI_c (d := 0 ≤ a1.toInt ∧ a1.toInt < n) (by rw [i64, i64, nI_m1 hn, l64_0]; omega)]
theorem s_isOwner {a1 : Int32} (h : Q (some (pI (bI (0 ≤ a1.toInt ∧ a1.toInt < 5)))) M) : TT X kX6_isOwner 0 [some (pI a1)] [] M Q := by
  refine rX6_isOwner_0 ⟨fun z => ?_, fun z => ⟨fun y => ?_, fun y => ?_⟩⟩
  · rw [i32_lt, z0] at z
    rwa [bI_f (by omega)] at h
  · rw [i32_lt, z0] at z
    rw [i32_le, show (5 : Int32).toInt = 5 from rfl] at y
    rwa [bI_f (by omega)] at h
  · rw [i32_lt, z0] at z
    rw [i32_le, show (5 : Int32).toInt = 5 from rfl] at y
    rwa [bI_t (by omega)] at h
theorem m_isOwner {a1 : Int32} (h : Q (some (pI (bI (0 ≤ a1.toInt ∧ a1.toInt < 5)))) M) : TT X kX9_isOwner 0 [some (pI a1)] [] M Q := by
  refine rX9_isOwner_0 <| s_in ⟨bI_01, ?_⟩
  rwa [bI_c (d := 0 ≤ a1.toInt ∧ a1.toInt < 5) (by rw [i64, l64_0, show (4 : Int64).toInt = 4 from rfl]; omega)]
theorem now_of (hI : Inv M) : sdOf (M 9 0 6) 0 ≤ 18 ∧ M 6 0 0 0 = nI (sdOf (M 9 0 6) 0) ∧ M 9 0 6 0 = nI (sdOf (M 9 0 6) 0) ∧ sdOf (M 9 0 6) 1 ≤ 6 ∧ M 6 0 0 1 = nI (sdOf (M 9 0 6) 1) ∧ M 9 0 6 1 = nI (sdOf (M 9 0 6) 1) := by
  obtain ⟨⟨h1, h2⟩, h3, -⟩ := hI.2.2.2.2.1
  exact ⟨h2.1, h3.1, h1 0 (by decide), h2.2.1, h3.2.1, h1 1 (by decide)⟩
theorem ix1 (s : Nat) : (2 + 3 * nI s : Int32) = nI (2 + 3 * s) := by rw [show (2 : Int32) = nI 2 from rfl, show (3 : Int32) = nI 3 from rfl, pk_mul, nI_add]
theorem ix2 (s k : Nat) : (2 + 3 * nI s + nI k : Int32) = nI (2 + 3 * s + k) := by rw [ix1, nI_add]
theorem thr6 {v : Int32} : mset M 9 0 0 0 v 9 0 6 = M 9 0 6 := mset_c3 (by decide)
theorem pair_step {F : Int32 → Int32 → Mem → Prop} {a1 a2 : Int32} (hI : Inv M) (h : ∀ v M', Inv M' → F v v M') : TT X kX8_step 0 [some (pR (8, 0, 0)), some (pI a1), some (pI a2)] [] M (rI fun v1 M1 => TT X kX9_step 0 [some (pR (9, 0, 0)), some (pI a1), some (pI a2)] [] M1 (rI fun v2 M2 => F v1 v2 M2)) := by
  obtain ⟨n1, n2, n3, -⟩ := now_of hI
  obtain ⟨⟨f1, -⟩, ⟨-, -, f2, -⟩, -⟩ := hI.2.2.2.2.1
  have hT := inv_thr (v := 0) hI
  by_cases c1 : 0 ≤ a1.toInt ∧ a1.toInt < (sdOf (M 9 0 6) 0 : Nat)
  rotate_left
  · exact rX8_step_0 <| s_hasStep (by decide) (by omega) n2 <| bn_f c1 <| rX9_step_0 <| m_isStep (by omega) (by rw [thr6]; exact n3) <| bz_f c1 <| h _ _ hT
  obtain ⟨s, hs, rfl⟩ : ∃ s : Nat, s < sdOf (M 9 0 6) 0 ∧ a1 = nI s := ⟨a1.toInt.toNat, by omega, nI_is (by omega)⟩
  have v18 : vp_in (nI s) 18 := vp_in_nI (by omega) (by decide)
  have cl : Int32.toNatClampNeg (nI s) = s := clampI (by omega)
  obtain ⟨e1, e2, e3⟩ := f2 s hs
  have bad : TT X kX9_step 0 [some (pR (9, 0, 0)), some (pI (nI s)), some (pI a2)] [] M (rI fun v2 M2 => F (-1000001) v2 M2) ∨ (a2 = 0 ∨ a2 = 1 ∨ a2 = 2) := by
    by_cases c2 : 0 ≤ a2.toInt ∧ a2.toInt ≤ 2
    · obtain ⟨k, hk, rfl⟩ : ∃ k : Nat, k < 3 ∧ a2 = nI k := ⟨a2.toInt.toNat, by omega, nI_is (by omega)⟩
      rcases (show k = 0 ∨ k = 1 ∨ k = 2 by omega) with rfl | rfl | rfl
      · exact Or.inr (Or.inl rfl)
      · exact Or.inr (Or.inr (Or.inl rfl))
      · exact Or.inr (Or.inr (Or.inr rfl))
    · exact Or.inl <| rX9_step_0 <| m_isStep (by omega) (by rw [thr6]; exact n3) <| bz_t c1 <| s_in <| bz_f (by rw [i64]; exact c2) <| h _ _ hT
  have good : ∀ k : Nat, k < 3 → TT X kX9_step 0 [some (pR (9, 0, 0)), some (pI (nI s)), some (pI (nI k))] [] M (rI fun v2 M2 => F (nI (sdOf (M 9 0 6) (2 + 3 * s + k))) v2 M2) := by
    intro k hk
    refine rX9_step_0 <| m_isStep (by omega) (by rw [thr6]; exact n3) <| bz_t c1 <| s_in <| bz_t (by rw [i64, l64_0, show (2 : Int64).toInt = 2 from rfl, nI_int (by omega)]; omega) ⟨?_, ?_⟩
    · rw [ix2]
      exact vp_in_nI (by omega) (by decide)
    · rw [ix2, clampI (by omega), thr6, f1 _ (by omega)]
      exact h _ _ hT
  refine rX8_step_0 <| s_hasStep (by decide) (by omega) n2 <| bn_t c1 ⟨fun z => ⟨v18, ?_⟩, fun z => ⟨v18, ?_⟩, fun z => ⟨v18, ?_⟩, fun z => ?_⟩
  · subst z
    rw [cl, e1]
    exact good 0 (by decide)
  · subst z
    rw [cl, e2, show 3 + 3 * s = 2 + 3 * s + 1 by omega]
    exact good 1 (by decide)
  · subst z
    rw [cl, e3, show 4 + 3 * s = 2 + 3 * s + 2 by omega]
    exact good 2 (by decide)
  · rcases bad with b | b | b | b
    · exact b
    · subst b; exact absurd z (by decide)
    · subst b; exact absurd z (by decide)
    · subst b; exact absurd z (by decide)
end SMALL
