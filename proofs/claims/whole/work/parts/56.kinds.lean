/-- the kind of a step, as told -/
def kdN (sd : Nat → Nat) (s : Nat) : Nat := if sd (4 + 3 * s) ≠ 0 then 5 else if sd (3 + 3 * s) = 0 then 4 else if 10 ≤ sd (3 + 3 * s) then 2 else if s + 1 < sd 0 ∧ sd (2 + 3 * (s + 1)) = sd (2 + 3 * s) then 3 else 1
theorem kdN_rng (sd : Nat → Nat) (s : Nat) : 1 ≤ kdN sd s ∧ kdN sd s ≤ 5 := by
  unfold kdN
  split
  · omega
  · split
    · omega
    · split
      · omega
      · split <;> omega
section KINDS
variable {X : Nat × (Nat → Int32)} {M : Mem} {Q : Option PV → Mem → Prop}
theorem nI_z {n : Nat} (h : n < 2 ^ 31) : nI n = 0 ↔ n = 0 := by
  rw [← nI_0, nI_eq h (by decide)]
theorem s_kindOf {i s : Nat} {sd : Nat → Nat} (hi : i < 5) (hv : SV sd) (hx : StX (M 6 i) sd) (hs : s < sd 0) (h : Q (some (pI (nI (kdN sd s)))) M) : TT X kX1_kindOf 0 [some (pR (6, i, 0)), some (pI (nI s)), none] [] M Q := by
  have hn := hv.1
  obtain ⟨x1, -, x2, -⟩ := hx
  obtain ⟨e1, e2, e3⟩ := x2 s hs
  obtain ⟨b1, b2, b3⟩ := hv.2.2.1 s hs
  have v18 : vp_in (nI s) 18 := vp_in_nI (by omega) (by decide)
  have cl : Int32.toNatClampNeg (nI s) = s := clampI (by omega)
  have cs : 0 ≤ (nI s).toInt ∧ (nI s).toInt < (sd 0 : Nat) := by rw [nI_int (by omega)]; omega
  refine rX1_kindOf_0 hi <| s_hasStep hi (by omega) x1 <| bn_t cs ⟨v18, ?_⟩
  rw [cl, e3]
  unfold kdN at h
  refine ⟨fun z => ⟨v18, ?_⟩, fun z => ?_⟩
  · rw [nI_z (by omega)] at z
    rw [if_neg (by omega)] at h
    rw [e2]
    refine ⟨fun y => ⟨v18, ?_⟩, fun y => ?_⟩
    · rw [nI_z (by omega)] at y
      rw [if_neg y] at h
      refine ⟨fun w => ?_, fun w => ?_⟩
      · have w' := (nI_ltI (a := sd (3 + 3 * s)) (b := 10) (by omega) (by decide)).mp w
        rw [if_neg (by omega)] at h
        rw [nI_1]
        by_cases c : s + 1 < sd 0
        · obtain ⟨g1, -, -⟩ := x2 (s + 1) c
          obtain ⟨d1, -, -⟩ := hv.2.2.1 (s + 1) c
          refine s_hasStep hi (by omega) x1 <| bz_t (by rw [nI_int (by omega)]; omega) ⟨vp_in_nI (by omega) (by decide), v18, ?_⟩
          rw [clampI (by omega), g1, e1, nI_eq (by omega) (by omega)]
          refine ⟨fun q => ?_, fun q => ?_⟩
          · rwa [if_neg (fun p => q p.2)] at h
          · rwa [if_pos ⟨c, q⟩] at h
        · refine s_hasStep hi (by omega) x1 <| bz_f (by rw [nI_int (by omega)]; omega) ?_
          rwa [if_neg (fun p => c p.1)] at h
      · have w' : 10 ≤ sd (3 + 3 * s) := Nat.not_lt.mp fun q => w (nI_lt (b := 10) q (by decide))
        rwa [if_pos w'] at h
    · rw [nI_z (by omega)] at y
      rwa [if_pos y] at h
  · rw [nI_z (by omega)] at z
    rwa [if_pos z] at h
theorem m_isBroken {s : Nat} (hM : StM (M 9 0 6)) (hs : s < 18) (h : Q (some (pI (bI (sdOf (M 9 0 6) (4 + 3 * s) = 1)))) M) : TT X kX9_isBroken 0 [some (pR (9, 0, 0)), some (pI (nI s))] [] M Q := by
  refine rX9_isBroken_0 ?_
  have e : (2 + 3 * nI s + 2 : Int32) = nI (4 + 3 * s) := by rw [show (2 + 3 * nI s + 2 : Int32) = 2 + 3 * nI s + nI 2 from rfl, ix2]; congr 1; omega
  rw [e, clampI (by omega)]
  have e2 := hM.1 (4 + 3 * s) (by omega)
  have e3 : M 9 0 6 (4 + 3 * s) = 1 ↔ sdOf (M 9 0 6) (4 + 3 * s) = 1 := by
    refine ⟨fun q => ?_, fun q => by rw [e2, q]; rfl⟩
    show (M 9 0 6 (4 + 3 * s)).toNatClampNeg = 1
    rw [q]
    rfl
  refine ⟨vp_in_nI (by omega) (by decide), fun z => ?_, fun z => ?_⟩
  · rwa [bI_f (fun q => z (e3.mpr q))] at h
  · rwa [bI_t (e3.mp z)] at h
theorem m_kindOf {s : Nat} (hM : StM (M 9 0 6)) (hs : s < sdOf (M 9 0 6) 0) (h : Q (some (pI (nI (kdN (sdOf (M 9 0 6)) s)))) M) : TT X kX9_kindOf 0 [some (pR (9, 0, 0)), some (pI (nI s)), none, none] [] M Q := by
  have hv := hM.2
  have hn := hv.1
  obtain ⟨b1, b2, b3⟩ := hv.2.2.1 s hs
  have e1 : (2 + 3 * nI s + 1 : Int32) = nI (3 + 3 * s) := by rw [show (2 + 3 * nI s + 1 : Int32) = 2 + 3 * nI s + nI 1 from rfl, ix2]; congr 1; omega
  have e3 : (2 + 3 * nI s + 3 : Int32) = nI (2 + 3 * (s + 1)) := by rw [show (2 + 3 * nI s + 3 : Int32) = 2 + 3 * nI s + nI 3 from rfl, ix2]; exact congrArg nI (by omega)
  have f := hM.1
  refine rX9_kindOf_0 ?_
  rw [e1, e3, ix1, clampI (by omega : 3 + 3 * s < 2 ^ 31), clampI (by omega : 2 + 3 * (s + 1) < 2 ^ 31), clampI (by omega : 2 + 3 * s < 2 ^ 31), nI_1]
  refine ⟨vp_in_nI (by omega) (by decide), m_isBroken hM (by omega) ?_⟩
  unfold kdN at h
  by_cases c : sdOf (M 9 0 6) (4 + 3 * s) = 1
  · rw [if_pos (by omega)] at h
    exact bz_t c h
  rw [if_neg (by omega)] at h
  have tail : ∀ r : Nat, r = (if s + 1 < sdOf (M 9 0 6) 0 ∧ sdOf (M 9 0 6) (2 + 3 * (s + 1)) = sdOf (M 9 0 6) (2 + 3 * s) then 3 else 1) → (¬ M 9 0 6 (3 + 3 * s) = 0 → (M 9 0 6 (3 + 3 * s) ≤ 9 → Q (some (pI (nI r))) M) ∧ (¬ M 9 0 6 (3 + 3 * s) ≤ 9 → Q (some (pI 2)) M)) ∧ (M 9 0 6 (3 + 3 * s) = 0 → Q (some (pI 4)) M) := by
    intro r hr
    rw [f (3 + 3 * s) (by omega), nI_z (by omega)]
    refine ⟨fun y => ⟨fun w => ?_, fun w => ?_⟩, fun y => ?_⟩
    · have w' := (nI_leI (a := sdOf (M 9 0 6) (3 + 3 * s)) (b := 9) (by omega) (by decide)).mp w
      rw [if_neg y, if_neg (by omega)] at h
      rw [hr]
      exact h
    · have w' : 10 ≤ sdOf (M 9 0 6) (3 + 3 * s) := Nat.not_lt.mp fun q => w (nI_le (b := 9) (by omega) (by decide))
      rwa [if_neg y, if_pos w'] at h
    · rwa [if_pos y] at h
  refine bz_f c <| m_isStep (by omega) (f 0 (by decide)) ?_
  by_cases c2 : s + 1 < sdOf (M 9 0 6) 0
  · refine bz_t (by rw [nI_int (by omega)]; omega) ⟨vp_in_nI (by omega) (by decide), vp_in_nI (by omega) (by decide), ?_⟩
    obtain ⟨d1, -, -⟩ := hv.2.2.1 (s + 1) c2
    rw [f (2 + 3 * (s + 1)) (by omega), f (2 + 3 * s) (by omega), nI_eq (by omega) (by omega)]
    refine ⟨fun q => ?_, fun q => ?_⟩
    · exact tail 1 (if_neg (fun p => q p.2)).symm
    · exact tail 3 (if_pos ⟨c2, q⟩).symm
  · refine bz_f (by rw [nI_int (by omega)]; omega) ?_
    exact tail 1 (if_neg (fun p => c2 p.1)).symm
theorem stM_thr {v : Int32} (h : StM (M 9 0 6)) : StM (mset M 9 0 0 0 v 9 0 6) := by rw [thr6]; exact h
theorem pair_kind {F : Int32 → Int32 → Mem → Prop} {a1 : Int32} (hI : Inv M) (h : ∀ v M', Inv M' → F v v M') : TT X kX8_kind 0 [some (pR (8, 0, 0)), some (pI a1)] [] M (rI fun v1 M1 => TT X kX9_kind 0 [some (pR (9, 0, 0)), some (pI a1)] [] M1 (rI fun v2 M2 => F v1 v2 M2)) := by
  obtain ⟨n1, n2, n3, -⟩ := now_of hI
  obtain ⟨hM, hx, -⟩ := hI.2.2.2.2.1
  have hT := inv_thr (v := 0) hI
  by_cases c1 : 0 ≤ a1.toInt ∧ a1.toInt < (sdOf (M 9 0 6) 0 : Nat)
  rotate_left
  · exact rX8_kind_0 <| s_hasStep (by decide) (by omega) n2 <| bz_f c1 <| rX9_kind_0 <| m_isStep (by omega) (by rw [thr6]; exact n3) <| bz_f c1 <| h _ _ hT
  obtain ⟨s, hs, rfl⟩ : ∃ s : Nat, s < sdOf (M 9 0 6) 0 ∧ a1 = nI s := ⟨a1.toInt.toNat, by omega, nI_is (by omega)⟩
  refine rX8_kind_0 <| s_hasStep (by decide) (by omega) n2 <| bz_t c1 <| s_kindOf (by decide) hM.2 hx hs <| rX9_kind_0 <| m_isStep (by omega) (by rw [thr6]; exact n3) <| bz_t c1 <| m_kindOf (stM_thr hM) (by rw [thr6]; exact hs) ?_
  rw [thr6]
  exact h _ _ hT
/-- whether a step told as t is of kind k -/
def ofN (t k : Nat) : Bool := k == 0 || k == t || (k == 1 && (t == 2 || t == 3)) || (k == 4 && t == 5)
theorem s_isOf {t k : Nat} (ht : 1 ≤ t ∧ t ≤ 5) (hk : k < 6) (h : Q (some (pI (bI (ofN t k = true)))) M) : TT X kX1_isOf 0 [some (pI (nI t)), some (pI (nI k))] [] M Q := by
  refine rX1_isOf_0 ?_
  rcases (show t = 1 ∨ t = 2 ∨ t = 3 ∨ t = 4 ∨ t = 5 by omega) with rfl | rfl | rfl | rfl | rfl <;> rcases (show k = 0 ∨ k = 1 ∨ k = 2 ∨ k = 3 ∨ k = 4 ∨ k = 5 by omega) with rfl | rfl | rfl | rfl | rfl | rfl <;> (refine ⟨fun z => ?_, fun z => ⟨fun y => ⟨fun x => ⟨fun w => ?_, fun w => ⟨fun u => ?_, fun u => ?_⟩⟩, fun x => ⟨fun w => ?_, fun w => ⟨fun u => ?_, fun u => ?_⟩⟩⟩, fun y => ?_⟩⟩ <;> first | exact h | (exfalso; revert z; decide +kernel) | (exfalso; revert y; decide +kernel) | (exfalso; revert x; decide +kernel) | (exfalso; revert w; decide +kernel) | (exfalso; revert u; decide +kernel))
theorem m_isOf {t k : Nat} (ht : 1 ≤ t ∧ t ≤ 5) (hk : k < 6) (h : Q (some (pI (bI (ofN t k = true)))) M) : TT X kX9_isOf 0 [some (pI (nI t)), some (pI (nI k))] [] M Q := by
  refine rX9_isOf_0 ?_
  rcases (show t = 1 ∨ t = 2 ∨ t = 3 ∨ t = 4 ∨ t = 5 by omega) with rfl | rfl | rfl | rfl | rfl <;> rcases (show k = 0 ∨ k = 1 ∨ k = 2 ∨ k = 3 ∨ k = 4 ∨ k = 5 by omega) with rfl | rfl | rfl | rfl | rfl | rfl <;> (refine ⟨fun z => ?_, fun z => ⟨fun y => ?_, fun y => ⟨fun x => ⟨fun w => ?_, fun w => ⟨fun u => ?_, fun u => ?_⟩⟩, fun x => ⟨fun w => ?_, fun w => ⟨fun u => ?_, fun u => ⟨fun v => ?_, fun v => ?_⟩⟩⟩⟩⟩⟩ <;> first | exact h | (exfalso; revert z; decide +kernel) | (exfalso; revert y; decide +kernel) | (exfalso; revert x; decide +kernel) | (exfalso; revert w; decide +kernel) | (exfalso; revert u; decide +kernel) | (exfalso; revert v; decide +kernel))
theorem stM_st {v : Int32} (h : StM (M 9 0 6)) : StM (mset M 9 0 0 1 v 9 0 6) := by rw [mset_c3 (by decide)]; exact h
theorem pair_as {F : Int32 → Int32 → Mem → Prop} {a1 a2 : Int32} (hI : Inv M) (h : ∀ v M', Inv M' → F v v M') : TT X kX8_as 0 [some (pR (8, 0, 0)), some (pI a1), some (pI a2)] [] M (rI fun v1 M1 => TT X kX9_as 0 [some (pR (9, 0, 0)), some (pI a1), some (pI a2)] [] M1 (rI fun v2 M2 => F v1 v2 M2)) := by
  obtain ⟨n1, n2, n3, -⟩ := now_of hI
  obtain ⟨hM, hx, -⟩ := hI.2.2.2.2.1
  have hT := inv_thr (v := 0) hI
  by_cases c1 : 0 ≤ a1.toInt ∧ a1.toInt < (sdOf (M 9 0 6) 0 : Nat)
  rotate_left
  · exact rX8_as_0 <| s_hasStep (by decide) (by omega) n2 <| bz_f c1 <| rX9_as_0 <| m_isStep (by omega) (by rw [thr6]; exact n3) <| bz_f c1 <| h _ _ hT
  obtain ⟨s, hs, rfl⟩ : ∃ s : Nat, s < sdOf (M 9 0 6) 0 ∧ a1 = nI s := ⟨a1.toInt.toNat, by omega, nI_is (by omega)⟩
  by_cases c2 : 0 ≤ a2.toInt ∧ a2.toInt ≤ 5
  rotate_left
  · have m : TT X kX9_as 0 [some (pR (9, 0, 0)), some (pI (nI s)), some (pI a2)] [] M (rI fun v2 M2 => F (-1000001) v2 M2) := rX9_as_0 <| m_isStep (by omega) (by rw [thr6]; exact n3) <| bz_t c1 <| s_in <| bn_f (by rw [i64]; exact c2) <| h _ _ hT
    refine rX8_as_0 <| s_hasStep (by decide) (by omega) n2 <| bz_t c1 ⟨fun _ => m, fun z => ⟨fun y => absurd ?_ c2, fun _ => m⟩⟩
    rw [i32_lt, z0] at z
    rw [i32_lt, show (6 : Int32).toInt = 6 from rfl] at y
    omega
  obtain ⟨k, hk, rfl⟩ : ∃ k : Nat, k < 6 ∧ a2 = nI k := ⟨a2.toInt.toNat, by omega, nI_is (by omega)⟩
  have hkd := kdN_rng (sdOf (M 9 0 6)) s
  refine rX8_as_0 <| s_hasStep (by decide) (by omega) n2 <| bz_t c1 <| br_f (nI_pos (by omega)) <| br_t (nI_lt (b := 6) hk (by decide)) <| s_kindOf (by decide) hM.2 hx hs <| s_isOf hkd hk ?_
  have m : ∀ M', M' 9 0 6 = M 9 0 6 → ∀ G : Option PV → Mem → Prop, ((ofN (kdN (sdOf (M 9 0 6)) s) k = false → TT X kX9_finding 0 [some (pR (9, 0, 0)), some (pI 3)] [] (mset (mset M' 9 0 0 0 0) 9 0 0 1 0) (rI fun v M9 => G (some (pI v)) M9)) ∧ (ofN (kdN (sdOf (M 9 0 6)) s) k = true → G (some (pI (nI s))) (mset (mset M' 9 0 0 0 0) 9 0 0 1 0))) → TT X kX9_as 0 [some (pR (9, 0, 0)), some (pI (nI s)), some (pI (nI k))] [] M' G := by
    intro M' e G hG
    have e6 : mset M' 9 0 0 0 0 9 0 6 = M 9 0 6 := by rw [thr6, e]
    have e7 : mset (mset M' 9 0 0 0 0) 9 0 0 1 0 9 0 6 = M 9 0 6 := by rw [mset_c3 (by decide), e6]
    refine rX9_as_0 <| m_isStep (n := sdOf (M 9 0 6) 0) (by omega) (by rw [e6]; exact n3) <| bz_t c1 <| s_in <| bn_t (by rw [i64]; exact c2) <| m_kindOf (by rw [e7]; exact hM) (by rw [e7]; exact hs) ?_
    show TT _ _ _ _ _ _ _
    rw [e7]
    refine m_isOf hkd hk ?_
    cases hb : ofN (kdN (sdOf (M 9 0 6)) s) k with
    | false => exact bz_f (by decide) (hG.1 hb)
    | true => exact bz_t rfl (hG.2 hb)
  cases hb : ofN (kdN (sdOf (M 9 0 6)) s) k with
  | false =>
    refine bn_f (by decide) <| s_found <| m _ (mset_c3 (by decide)) _ ⟨fun _ => s_finding <| h _ _ (inv_st hI), fun q => absurd (hb.symm.trans q) (by decide)⟩
  | true =>
    refine bn_t rfl <| s_fine <| m _ (mset_c3 (by decide)) _ ⟨fun q => absurd (hb.symm.trans q) (by decide), fun _ => h _ _ (inv_st0 hI)⟩
end KINDS
