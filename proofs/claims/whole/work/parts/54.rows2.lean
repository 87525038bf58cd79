section ROWS2
variable {X : Nat × (Nat → Int32)} {M : Mem} {Q : Option PV → Mem → Prop}
theorem rows_drop {ln sz it ln' sz' it' : Nat → Int32} {r : Nat} (h : RowsR ln sz it ln' sz' it') : RowsR (upd ln r (-1)) (upd sz r 0) it (upd ln' r (-1)) sz' it' := by
  intro r' hr'
  obtain ⟨h1, h2⟩ := h r' hr'
  by_cases e : r' = r
  · subst e
    simp only [upd_at, if_pos]
    exact ⟨trivial, Or.inl trivial⟩
  · simp only [upd_at, if_neg e]
    exact ⟨h1, h2⟩
theorem pair_drop {F : Int32 → Int32 → Mem → Prop} {a1 : Int32} (hI : Inv M) (h : ∀ v M', Inv M' → F v v M') : TT X kX8_drop 0 [some (pR (8, 0, 0)), some (pI a1), none] [] M (rI fun v1 M1 => TT X kX9_drop 0 [some (pR (9, 0, 0)), some (pI a1)] [] M1 (rI fun v2 M2 => F v1 v2 M2)) := by
  by_cases c1 : 0 ≤ a1.toInt ∧ a1.toInt < 8
  rotate_left
  · exact rX8_drop_0 <| s_isNumber <| bn_f c1 <| rX9_drop_0 <| s_isRow <| bn_f c1 <| h _ _ (inv_thr hI)
  obtain ⟨r, hr, rfl⟩ : ∃ r : Nat, r < 8 ∧ a1 = nI r := ⟨a1.toInt.toNat, by omega, nI_is (by omega)⟩
  have v8 : vp_in (nI r) 8 := vp_in_nI hr (by decide)
  have cl : Int32.toNatClampNeg (nI r) = r := clampI (by omega)
  obtain ⟨g0, g1⟩ := hI.1 r hr
  rcases g1 with g1 | ⟨l, n, hl, hn, g1, g2, g3, g4⟩
  · refine rX8_drop_0 <| s_isNumber <| bn_t c1 <| s_isMissing hr <| bz_t g1 <| s_found <| rX9_drop_0 <| s_isRow <| bn_t c1 ⟨v8, ?_⟩
    rw [cl]
    simp +decide only [mset_c4, mset_c3, mset_c2]
    rw [← g0, g1]
    exact br_f m1_lt <| s_finding <| h _ _ (inv_st hI)
  have hp : ¬ M 5 0 1 r = -1 := by rw [g1]; exact nl_ne hl
  refine rX8_drop_0 <| s_isNumber <| bn_t c1 <| s_isMissing hr <| bz_f hp <| s_sizeOf hr hp <| rX5_lose_0 <| s_isNumber <| bz_t c1 ⟨v8, v8, s_fine <| rX9_drop_0 <| s_isRow <| bn_t c1 ⟨v8, ?_⟩⟩
  rw [cl]
  simp +decide only [mset_c4, mset_c3, mset_c2]
  rw [← g0, g1, g2, g3]
  refine br_t (nl_ge hl) ⟨v8, v8, h _ _ ?_⟩
  have hI2 := hI
  unfold Inv at hI2 ⊢
  obtain ⟨i1, i2, i3, -, i5⟩ := hI2
  refine ⟨?_, by simpa [mset_c2, mset_c3, mset_c4, mset_at, marr_c2, marr_c3] using And.intro i2 (And.intro i3 i5)⟩
  have := rows_drop (r := r) i1
  simpa [mset_c2, mset_c3, mset_c4, mset_self, marr_c2, marr_c3, marr_self] using this
/-! copy -/
theorem s_hasRange {r l n : Nat} {a2 a3 : Int32} (hr : r < 8) (hl : l < 3) (hn : n ≤ 40) (h1 : M 5 0 1 r = nI l) (h2 : M 5 0 2 r = nI n) (h : Q (some (pI (bI (0 ≤ a2.toInt ∧ 0 ≤ a3.toInt ∧ a2.toInt + a3.toInt ≤ n)))) M) : TT X kX5_hasRange 0 [some (pR (5, 0, 0)), some (pI (nI r)), some (pI a2), some (pI a3), none] [] M Q := by
  refine rX5_hasRange_0 <| s_sizeOf hr (by rw [h1]; exact nl_ne hl) ?_
  show _ ∧ _
  have en := nI_int (n := n) (by omega)
  have r2 := i32_rng a2
  have r3 := i32_rng a3
  rw [h2]
  refine ⟨fun z => ?_, fun z => ⟨fun y => ?_, fun y => ⟨fun x => ?_, fun x => ⟨fun w => ?_, fun w => ?_⟩⟩⟩⟩
  · rw [i32_lt, z0] at z
    rwa [bI_f (by omega)] at h
  · rw [i32_lt, z0] at z
    rw [i32_lt, en] at y
    rwa [bI_f (by omega)] at h
  · rw [i32_lt, z0] at x
    rwa [bI_f (by omega)] at h
  · rw [i32_lt, z0] at z x
    rw [i32_lt, en] at y
    rw [i32_lt, i32_sub (by omega) (by omega), en] at w
    rwa [bI_f (by omega)] at h
  · rw [i32_lt, z0] at z x
    rw [i32_lt, en] at y
    rw [i32_lt, i32_sub (by omega) (by omega), en] at w
    rwa [bI_t (by omega)] at h
/-- what a move leaves -/
def cpyN (f : Nat → Int32) (sp dp n : Nat) : Nat → Int32 := fun x => if dp ≤ x ∧ x < dp + n then f (sp + (x - dp)) else f x
theorem cpyN_va (f : Nat → Int32) (sp dp n : Nat) : va_cpy f f sp dp n = cpyN f sp dp n := rfl
/-- a move from below, k done -/
def cpyU (f : Nat → Int32) (sp dp k : Nat) : Nat → Int32 := cpyN f sp dp k
theorem cpyU_s {f : Nat → Int32} {sp dp n k : Nat} (hk : k < n) (h : dp ≤ sp ∨ sp + n ≤ dp) : upd (cpyN f sp dp k) (dp + k) (cpyN f sp dp k (sp + k)) = cpyN f sp dp (k + 1) := by
  funext x
  unfold upd cpyN
  by_cases e : x = dp + k
  · rw [if_pos e, if_neg (by omega), if_pos (by omega), show sp + (x - dp) = sp + k by omega]
  · rw [if_neg e]
    by_cases e2 : dp ≤ x ∧ x < dp + k
    · rw [if_pos e2, if_pos (by omega)]
    · rw [if_neg e2, if_neg (by omega)]
/-- a move from above, k done -/
def cpyD (f : Nat → Int32) (sp dp n k : Nat) : Nat → Int32 := fun x => if dp + (n - k) ≤ x ∧ x < dp + n then f (sp + (x - dp)) else f x
theorem cpyD_0 (f : Nat → Int32) (sp dp n : Nat) : cpyD f sp dp n 0 = f := by
  funext x
  unfold cpyD
  rw [if_neg (by omega)]
theorem cpyD_n (f : Nat → Int32) (sp dp n : Nat) : cpyD f sp dp n n = cpyN f sp dp n := by
  funext x
  unfold cpyD cpyN
  rw [Nat.sub_self, Nat.add_zero]
theorem cpyN_0 (f : Nat → Int32) (sp dp : Nat) : cpyN f sp dp 0 = f := by
  funext x
  unfold cpyN
  rw [if_neg (by omega)]
theorem cpyD_s {f : Nat → Int32} {sp dp n k : Nat} (hk : k < n) (h : sp ≤ dp ∨ dp + n ≤ sp) : upd (cpyD f sp dp n k) (dp + (n - 1 - k)) (cpyD f sp dp n k (sp + (n - 1 - k))) = cpyD f sp dp n (k + 1) := by
  funext x
  unfold upd cpyD
  by_cases e : x = dp + (n - 1 - k)
  · rw [if_pos e, if_neg (by omega), if_pos (by omega), show sp + (x - dp) = sp + (n - 1 - k) by omega]
  · rw [if_neg e]
    by_cases e2 : dp + (n - k) ≤ x ∧ x < dp + n
    · rw [if_pos e2, if_pos (by omega)]
    · rw [if_neg e2, if_neg (by omega)]
theorem m_copy_up {a b i j n : Nat} (ha : a < 8) (hb : b < 8) (hi : i + n ≤ 40) (hj : j + n ≤ 40) (hd : 40 * b + j ≤ 40 * a + i ∨ 40 * a + i + n ≤ 40 * b + j) (f : Nat → Int32) (h : Q (some (pI (nI n))) (marr M 9 0 5 (cpyN f (40 * a + i) (40 * b + j) n))) : ∀ d k : Nat, k + d = n → TT X kX9_copy 143 [some (pR (9, 0, 0)), some (pI (nI a)), some (pI (nI i)), some (pI (nI b)), some (pI (nI j)), some (pI (nI n)), some (pI 1), some (pI (nI k)), none] [] (marr M 9 0 5 (cpyN f (40 * a + i) (40 * b + j) k)) Q := by
  intro d
  induction d with
  | zero =>
    intro k hk
    have e : k = n := by omega
    subst e
    exact rX9_copy_143 <| br_t (nI_le (Nat.le_refl _) (by omega)) h
  | succ d ih =>
    intro k hk
    refine rX9_copy_143 <| br_f (nI_ge (by omega) (by omega)) <| br_f (by decide) ?_
    rw [idx_m, idx_m, nI_add, nI_add, clampI (by omega : 40 * a + i + k < 2 ^ 31), clampI (by omega : 40 * b + j + k < 2 ^ 31), marr_self, mset_marr, cpyU_s (n := n) (by omega) hd, nI_1]
    exact ⟨vp_in_nI (by omega) (by decide), vp_in_nI (by omega) (by decide), ih (k + 1) (by omega)⟩
theorem m_copy_down {a b i j n : Nat} (ha : a < 8) (hb : b < 8) (hi : i + n ≤ 40) (hj : j + n ≤ 40) (hd : 40 * a + i ≤ 40 * b + j ∨ 40 * b + j + n ≤ 40 * a + i) (f : Nat → Int32) (h : Q (some (pI (nI n))) (marr M 9 0 5 (cpyN f (40 * a + i) (40 * b + j) n))) : ∀ d k : Nat, k + d = n → TT X kX9_copy 143 [some (pR (9, 0, 0)), some (pI (nI a)), some (pI (nI i)), some (pI (nI b)), some (pI (nI j)), some (pI (nI n)), some (pI 0), some (pI (nI k)), none] [] (marr M 9 0 5 (cpyD f (40 * a + i) (40 * b + j) n k)) Q := by
  intro d
  induction d with
  | zero =>
    intro k hk
    have e : k = n := by omega
    subst e
    rw [cpyD_n]
    exact rX9_copy_143 <| br_t (nI_le (Nat.le_refl _) (by omega)) h
  | succ d ih =>
    intro k hk
    refine rX9_copy_143 <| br_f (nI_ge (by omega) (by omega)) <| br_t rfl ?_
    have e1 : nI n - 1 - nI k = nI (n - 1 - k) := by rw [show (1 : Int32) = nI 1 from rfl, pk_sub (by omega), pk_sub (by omega)]
    rw [e1, idx_m, idx_m, nI_add, nI_add, clampI (by omega : 40 * a + i + (n - 1 - k) < 2 ^ 31), clampI (by omega : 40 * b + j + (n - 1 - k) < 2 ^ 31), marr_self, mset_marr, cpyD_s (n := n) (by omega) hd, nI_1]
    exact ⟨vp_in_nI (by omega) (by decide), vp_in_nI (by omega) (by decide), ih (k + 1) (by omega)⟩
theorem rows_cpy {ln sz it ln' sz' it' : Nat → Int32} {a b i j n na la : Nat} (h : RowsR ln sz it ln' sz' it') (ha : a < 8) (hb : b < 8) (g1 : ln a = nI la) (hla : la < 3) (g2 : sz a = nI na) (hna : na ≤ 40) (hi : i + n ≤ na) (hj : j + n ≤ 40) : RowsR ln sz (cpyN it (40 * a + i) (40 * b + j) n) ln' sz' (cpyN it' (40 * a + i) (40 * b + j) n) := by
  intro r' hr'
  obtain ⟨h1, h2⟩ := h r' hr'
  refine ⟨h1, h2.imp id ?_⟩
  rintro ⟨l', n', e1, e2, e3, e4, e5, e6⟩
  refine ⟨l', n', e1, e2, e3, e4, e5, fun k' hk' => ?_⟩
  unfold cpyN
  by_cases e : 40 * b + j ≤ 40 * r' + k' ∧ 40 * r' + k' < 40 * b + j + n
  · rw [if_pos e, if_pos e]
    obtain ⟨-, h3⟩ := h a ha
    rcases h3 with h3 | ⟨l3, n3, d1, d2, d3, d4, d5, d6⟩
    · rw [g1] at h3
      exact absurd h3 (nl_ne hla)
    · have en : n3 = na := by
        have := d4.symm.trans g2
        exact (nI_eq (by omega) (by omega)).mp this
      subst en
      have := d6 (i + (40 * r' + k' - (40 * b + j))) (by omega)
      rw [show 40 * a + i + (40 * r' + k' - (40 * b + j)) = 40 * a + (i + (40 * r' + k' - (40 * b + j))) by omega]
      exact this
  · rw [if_neg e, if_neg e]
    exact e6 k' hk'
theorem l64_add (a b : Int32) : (Int32.toInt64 a + Int32.toInt64 b).toInt = a.toInt + b.toInt := by
  have r1 := i32_rng a
  have r2 := i32_rng b
  rw [Int64.toInt_add, i64, i64]
  exact Int.bmod_eq_of_le (by omega) (by omega)
theorem pair_copy {F : Int32 → Int32 → Mem → Prop} {a1 a2 a3 a4 a5 : Int32} (hI : Inv M) (h : ∀ v M', Inv M' → F v v M') : TT X kX8_copy 0 [some (pR (8, 0, 0)), some (pI a1), some (pI a2), some (pI a3), some (pI a4), some (pI a5)] [] M (rI fun v1 M1 => TT X kX9_copy 0 [some (pR (9, 0, 0)), some (pI a1), some (pI a2), some (pI a3), some (pI a4), some (pI a5), none, none, none] [] M1 (rI fun v2 M2 => F v1 v2 M2)) := by
  by_cases c1 : 0 ≤ a1.toInt ∧ a1.toInt < 8
  rotate_left
  · exact rX8_copy_0 <| s_isNumber <| bz_f c1 <| rX9_copy_0 <| s_isRow <| bz_f c1 <| h _ _ (inv_thr hI)
  by_cases c3 : 0 ≤ a3.toInt ∧ a3.toInt < 8
  rotate_left
  · exact rX8_copy_0 <| s_isNumber <| bz_t c1 <| s_isNumber <| bn_f c3 <| rX9_copy_0 <| s_isRow <| bz_t c1 <| s_isRow <| bn_f c3 <| h _ _ (inv_thr hI)
  obtain ⟨a, ha, rfl⟩ : ∃ r : Nat, r < 8 ∧ a1 = nI r := ⟨a1.toInt.toNat, by omega, nI_is (by omega)⟩
  obtain ⟨b, hb, rfl⟩ : ∃ r : Nat, r < 8 ∧ a3 = nI r := ⟨a3.toInt.toNat, by omega, nI_is (by omega)⟩
  have va : vp_in (nI a) 8 := vp_in_nI ha (by decide)
  have vb : vp_in (nI b) 8 := vp_in_nI hb (by decide)
  have ca : Int32.toNatClampNeg (nI a) = a := clampI (by omega)
  have cb : Int32.toNatClampNeg (nI b) = b := clampI (by omega)
  obtain ⟨g0, g1⟩ := hI.1 a ha
  obtain ⟨k0, k1⟩ := hI.1 b hb
  rcases g1 with g1 | ⟨la, na, hla, hna, g1, g2, g3, g4⟩
  · refine rX8_copy_0 <| s_isNumber <| bz_t c1 <| s_isNumber <| bn_t c3 <| s_isMissing ha <| bn_t g1 <| s_found <| rX9_copy_0 <| s_isRow <| bz_t c1 <| s_isRow <| bn_t c3 ⟨va, ?_⟩
    rw [ca, cb]
    simp +decide only [mset_c4, mset_c3, mset_c2]
    rw [← g0, g1]
    exact br_t (by decide) <| s_finding <| h _ _ (inv_st hI)
  have pa : ¬ M 5 0 1 a = -1 := by rw [g1]; exact nl_ne hla
  have ga : ¬ M 9 0 3 a < 0 := by rw [← g0, g1]; exact nI_pos (by omega)
  rcases k1 with k1 | ⟨lb, nb, hlb, hnb, k1, k2, k3, k4⟩
  · refine rX8_copy_0 <| s_isNumber <| bz_t c1 <| s_isNumber <| bn_t c3 <| s_isMissing ha <| bn_f pa <| s_isMissing hb <| bz_t k1 <| s_found <| rX9_copy_0 <| s_isRow <| bz_t c1 <| s_isRow <| bn_t c3 ⟨va, ?_⟩
    rw [ca, cb]
    simp +decide only [mset_c4, mset_c3, mset_c2]
    refine br_f ga ⟨vb, ?_⟩
    rw [← k0, k1]
    exact br_f m1_lt <| s_finding <| h _ _ (inv_st hI)
  have pb : ¬ M 5 0 1 b = -1 := by rw [k1]; exact nl_ne hlb
  have gb : 0 ≤ M 9 0 3 b := by rw [← k0, k1]; exact nl_ge hlb
  by_cases c5 : M 5 0 1 a = M 5 0 1 b
  rotate_left
  · refine rX8_copy_0 <| s_isNumber <| bz_t c1 <| s_isNumber <| bn_t c3 <| s_isMissing ha <| bn_f pa <| s_isMissing hb <| bz_f pb <| s_laneOf ha <| s_laneOf hb <| br_f c5 <| s_found <| rX9_copy_0 <| s_isRow <| bz_t c1 <| s_isRow <| bn_t c3 ⟨va, ?_⟩
    rw [ca, cb]
    simp +decide only [mset_c4, mset_c3, mset_c2]
    refine br_f ga ⟨vb, br_t gb ⟨va, vb, br_f (by rw [← g0, ← k0]; exact c5) <| s_finding <| h _ _ (inv_st hI)⟩⟩
  have c5' : M 9 0 3 a = M 9 0 3 b := by rw [← g0, ← k0]; exact c5
  have r2 := i32_rng a2
  have r4 := i32_rng a4
  have r5 := i32_rng a5
  have ena := nI_int (n := na) (by omega)
  have enb := nI_int (n := nb) (by omega)
  by_cases c6 : (0 ≤ a2.toInt ∧ 0 ≤ a5.toInt ∧ a2.toInt + a5.toInt ≤ na) ∧ (0 ≤ a4.toInt ∧ 0 ≤ a5.toInt ∧ a4.toInt + a5.toInt ≤ nb)
  rotate_left
  · have m : TT X kX9_copy 0 [some (pR (9, 0, 0)), some (pI (nI a)), some (pI a2), some (pI (nI b)), some (pI a4), some (pI a5), none, none, none] [] (mset M 8 0 0 12 2) (rI fun v2 M2 => F (-1000010 - 2) v2 M2) := by
      refine rX9_copy_0 <| s_isRow <| bz_t c1 <| s_isRow <| bn_t c3 ⟨va, ?_⟩
      rw [ca, cb]
      simp +decide only [mset_c4, mset_c3, mset_c2]
      have bad := s_finding (X := X) (Q := rI fun v8 M7 => rI (fun v2 M2 => F (-1000010 - 2) v2 M2) (some (pI v8)) M7) (h (-1000010 - 2) _ (inv_st (v := 2) (w := 0) hI))
      refine br_f ga ⟨vb, br_t gb ⟨va, vb, br_t c5' ⟨fun _ => bad, fun z1 => ⟨fun _ => bad, fun z2 => ⟨fun _ => bad, fun z3 => ⟨va, fun _ => bad, fun z4 => ⟨vb, fun z5 => absurd ?_ c6, fun _ => bad⟩⟩⟩⟩⟩⟩⟩
      rw [lgc_gt, l64_add, i64, g3, ena] at z4
      rw [show lg_cmp (a4.toInt64 + a5.toInt64) (Int32.toInt64 (M 9 0 4 b)) ≤ 0 ↔ ¬ 0 < lg_cmp (a4.toInt64 + a5.toInt64) (Int32.toInt64 (M 9 0 4 b)) from by rw [i32_le, i32_lt]; omega, lgc_gt, l64_add, i64, k3, enb] at z5
      rw [i32_lt, z0] at z1 z2 z3
      omega
    refine rX8_copy_0 <| s_isNumber <| bz_t c1 <| s_isNumber <| bn_t c3 <| s_isMissing ha <| bn_f pa <| s_isMissing hb <| bz_f pb <| s_laneOf ha <| s_laneOf hb <| br_t c5 <| s_hasRange ha hla hna g1 g2 ?_
    by_cases c7 : 0 ≤ a2.toInt ∧ 0 ≤ a5.toInt ∧ a2.toInt + a5.toInt ≤ na
    · exact bz_t c7 <| s_hasRange hb hlb hnb k1 k2 <| bn_f (fun q => c6 ⟨c7, q⟩) <| s_found m
    · exact bz_f c7 <| s_found m
  obtain ⟨c6, c7⟩ := c6
  obtain ⟨i, hi, rfl⟩ : ∃ r : Nat, r ≤ 40 ∧ a2 = nI r := ⟨a2.toInt.toNat, by omega, nI_is (by omega)⟩
  obtain ⟨j, hj, rfl⟩ : ∃ r : Nat, r ≤ 40 ∧ a4 = nI r := ⟨a4.toInt.toNat, by omega, nI_is (by omega)⟩
  obtain ⟨n, hn, rfl⟩ : ∃ r : Nat, r ≤ 40 ∧ a5 = nI r := ⟨a5.toInt.toNat, by omega, nI_is (by omega)⟩
  have ei := nI_int (n := i) (by omega)
  have ej := nI_int (n := j) (by omega)
  have en := nI_int (n := n) (by omega)
  have h1 : i + n ≤ na := by rw [ei, en] at c6; omega
  have h2 : j + n ≤ nb := by rw [ej, en] at c7; omega
  refine rX8_copy_0 <| s_isNumber <| bz_t c1 <| s_isNumber <| bn_t c3 <| s_isMissing ha <| bn_f pa <| s_isMissing hb <| bz_f pb <| s_laneOf ha <| s_laneOf hb <| br_t c5 <| s_hasRange ha hla hna g1 g2 <| bz_t c6 <| s_hasRange hb hlb hnb k1 k2 <| bn_t c7 <| rX5_move_0 <| s_hasRange ha hla hna g1 g2 <| bz_t c6 <| s_hasRange hb hlb hnb k1 k2 <| bz_t c7 ?_
  rw [idx_x, idx_x, clampI (by omega : 40 * a + i < 2 ^ 31), clampI (by omega : 40 * b + j < 2 ^ 31), clampI (by omega : n < 2 ^ 31), cpyN_va]
  refine ⟨nI_pos (by omega), nI_pos (by omega), nI_pos (by omega), by omega, by omega, s_fine <| rX9_copy_0 <| s_isRow <| bz_t c1 <| s_isRow <| bn_t c3 ⟨va, ?_⟩⟩
  rw [ca, cb]
  simp +decide only [mset_c4, mset_c3, mset_c2, marr_c3, marr_c2]
  refine br_f ga ⟨vb, br_t gb ⟨va, vb, br_t c5' <| br_f (nI_pos (by omega)) <| br_f (nI_pos (by omega)) <| br_f (nI_pos (by omega)) ⟨va, br_f ?_ ⟨vb, br_t ?_ ?_⟩⟩⟩⟩
  · rw [lgc_gt, l64_add, i64, g3, ena, ei, en]
    omega
  · rw [show lg_cmp ((nI j).toInt64 + (nI n).toInt64) (Int32.toInt64 (M 9 0 4 b)) ≤ 0 ↔ ¬ 0 < lg_cmp ((nI j).toInt64 + (nI n).toInt64) (Int32.toInt64 (M 9 0 4 b)) from by rw [i32_le, i32_lt]; omega, lgc_gt, l64_add, i64, k3, enb, ej, en]
    omega
  generalize hM1 : mset (mset (mset (marr M 5 0 3 (cpyN (M 5 0 3) (40 * a + i) (40 * b + j) n)) 8 0 0 12 0) 9 0 0 0 0) 9 0 0 1 0 = M1
  have e1 : M1 9 0 5 = M 9 0 5 := by
    subst hM1
    simp +decide only [mset_c4, mset_c3, mset_c2, marr_c3, marr_c2]
  have fin : Inv (marr M1 9 0 5 (cpyN (M1 9 0 5) (40 * a + i) (40 * b + j) n)) := by
    rw [e1]
    subst hM1
    have hI2 := hI
    unfold Inv at hI2 ⊢
    obtain ⟨i1, i2, i3, -, i5⟩ := hI2
    refine ⟨?_, by simpa [mset_c2, mset_c3, mset_c4, mset_at, marr_c2, marr_c3] using And.intro i2 (And.intro i3 i5)⟩
    have := rows_cpy (b := b) (j := j) i1 ha hb g1 hla g2 hna h1 (by omega)
    simpa [mset_c2, mset_c3, mset_c4, mset_self, marr_c2, marr_c3, marr_self] using this
  by_cases c8 : nI i < nI j
  · refine br_t c8 ?_
    have hij := (nI_ltI (by omega) (by omega)).mp c8
    have e0 : M1 = marr M1 9 0 5 (cpyD (M1 9 0 5) (40 * a + i) (40 * b + j) n 0) := by rw [cpyD_0, marr_id]
    rw [e0]
    exact m_copy_down ha hb (by omega) (by omega) (by omega) (M1 9 0 5) (h _ _ fin) n 0 (by omega)
  · refine br_f c8 ?_
    have hij : j ≤ i := Nat.not_lt.mp fun q => c8 (nI_lt q (by omega))
    have e0 : M1 = marr M1 9 0 5 (cpyN (M1 9 0 5) (40 * a + i) (40 * b + j) 0) := by rw [cpyN_0, marr_id]
    rw [e0]
    exact m_copy_up ha hb (by omega) (by omega) (by omega) (M1 9 0 5) (h _ _ fin) n 0 (by omega)
end ROWS2
