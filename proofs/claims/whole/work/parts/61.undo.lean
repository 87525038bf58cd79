section UNDO
variable {X : Nat × (Nat → Int32)} {M : Mem} {Q : Option PV → Mem → Prop}
theorem sd_cong {f g : Nat → Int32} (h : ∀ x, x < 80 → f x = g x) : ∀ x, x < 80 → sdOf f x = sdOf g x := fun x hx => by
  unfold sdOf
  rw [h x hx]
theorem sv_cong {a b : Nat → Nat} (h : ∀ x, x < 80 → a x = b x) (s : SV a) : SV b := by
  obtain ⟨h0, h1, h2, h3⟩ := s
  have e0 := h 0 (by decide)
  have e1 := h 1 (by decide)
  refine ⟨by omega, by omega, fun t ht => ?_, fun t ht => ?_⟩
  · have := h2 t (by omega)
    rw [h _ (by omega), h _ (by omega), h _ (by omega)] at this
    exact this
  · have := h3 t (by omega)
    rw [h _ (by omega), h _ (by omega), h _ (by omega), h _ (by omega)] at this
    exact this
theorem stx_cong {F : Nat → Nat → Int32} {a b : Nat → Nat} (h : ∀ x, x < 80 → a x = b x) (v0 : a 0 ≤ 18) (v1 : a 1 ≤ 6) (s : StX F a) : StX F b := by
  obtain ⟨h0, h1, h2, h3⟩ := s
  have e0 := h 0 (by decide)
  have e1 := h 1 (by decide)
  refine ⟨by rw [← e0]; exact h0, by rw [← e1]; exact h1, fun t ht => ?_, fun t ht => ?_⟩
  · have := h2 t (by omega)
    rw [h _ (by omega), h _ (by omega), h _ (by omega)] at this
    exact this
  · have := h3 t (by omega)
    rw [h _ (by omega), h _ (by omega), h _ (by omega), h _ (by omega)] at this
    exact this
theorem stm_cong {f g : Nat → Int32} (h : ∀ x, x < 80 → f x = g x) (s : StM f) : StM g := by
  refine ⟨fun x hx => ?_, sv_cong (sd_cong h) s.2⟩
  rw [← h x hx, ← sd_cong h x hx]
  exact s.1 x hx
theorem img_cong {F : Nat → Nat → Int32} {is th : Int32} {f g : Nat → Int32} (h : ∀ x, x < 80 → f x = g x) (s : ImgR F is f th) : ImgR F is g th := by
  refine s.imp id ?_
  rintro ⟨h1, h2, h3, h4⟩
  refine ⟨stm_cong h h1, ?_, stx_cong (sd_cong h) h1.2.1 h1.2.2.1 h3, h4⟩
  rw [← sd_cong h 0 (by decide)]
  exact h2
theorem m_undo {n : Nat} (hn : n ≤ 23) (e : M 9 0 0 9 = nI n) (h : Q (some (pI (nI n))) (marr M 9 0 6 (fil (M 9 0 6) (fun x => M 9 0 9 (80 * n + x)) 0 80))) : TT X kX9_undo 27 [some (pR (9, 0, 0)), some (pI 0)] [] M Q := by
  have L : ∀ d k : Nat, k + d = 80 → TT X kX9_undo 27 [some (pR (9, 0, 0)), some (pI (nI k))] [] (marr M 9 0 6 (fil (M 9 0 6) (fun x => M 9 0 9 (80 * n + x)) 0 k)) Q := by
    intro d
    induction d with
    | zero =>
      intro k hk
      obtain rfl : k = 80 := by omega
      refine rX9_undo_27 <| br_t (by decide +kernel) ?_
      rw [marr_c3 (by decide), e]
      exact h
    | succ d ih =>
      intro k hk
      refine rX9_undo_27 <| br_f (nI_ge (a := k) (b := 80) (by omega) (by decide)) ?_
      rw [marr_c3 (p' := 0) (by decide), marr_c3 (p' := 9) (by decide), e, show (80 : Int32) * nI n + nI k = nI (80 * n + k) by rw [show (80 : Int32) = nI 80 from rfl, pk_mul, nI_add], clampI (by omega), clampI (by omega), nI_1, mset_marr]
      refine ⟨vp_in_nI (by omega) (by decide), vp_in_nI (by omega) (by decide), ?_⟩
      have := fil_s (M 9 0 6) (fun x => M 9 0 9 (80 * n + x)) 0 k
      rw [Nat.zero_add] at this
      rw [this]
      exact ih (k + 1) (by omega)
  have := L 80 0 rfl
  rwa [fil_0, marr_id] at this
theorem pair_undo {F : Int32 → Int32 → Mem → Prop} (hI : Inv M) (h : ∀ v M', Inv M' → F v v M') : TT X kX8_undo 0 [some (pR (8, 0, 0))] [] M (rI fun v1 M1 => TT X kX9_undo 0 [some (pR (9, 0, 0)), none] [] M1 (rI fun v2 M2 => F v1 v2 M2)) := by
  obtain ⟨n1, n2, n3, -⟩ := now_of hI
  have hT := inv_thr (v := 0) hI
  obtain ⟨n, hn, a1, a2, a3⟩ := hI.2.2.2.2.2.1
  by_cases z : n = 0
  · subst z
    refine rX8_undo_0 <| rX0_kept_0 <| nr_t a1 <| rX9_undo_0 <| nr_t (by rw [mset_c4 (by decide)]; exact a2) <| h _ _ hT
  obtain ⟨m, rfl⟩ : ∃ m, n = m + 1 := ⟨n - 1, by omega⟩
  obtain ⟨c, s, b, g1, g2, g3, g4, g5, g6, g7⟩ := a3 m (by omega)
  have f2 := fOf_le (c := c)
  have b2 := bOf_le (c := c)
  have v24 : vp_in (nI m) 24 := vp_in_nI (by omega) (by decide)
  refine rX8_undo_0 <| rX0_kept_0 <| nr_f (by rw [a1]; exact nI_ne0 (by omega) (by omega)) <| rX0_undoLatest_0 (by decide) <| br_f (by rw [a1]; exact nI_nle (by omega) (by omega)) ?_
  rw [a1, nI_pred, mset_at, clampI (by omega)]
  simp +decide only [mset_c4, mset_c3, mset_c2]
  rw [g4, g5, g6]
  refine ⟨v24, v24, v24, s_change (by decide) n1 (by rw [mset_c2 (by decide)]; exact n2) g2 g1 <| rX7_forget_0 <| rX0_kept_0 ?_⟩
  simp +decide only [mset_c4, mset_c3, mset_c2, mset_at]
  generalize hM1 : mset (mset (mset M 0 0 0 3 (nI m)) 6 0 (3 + fOf c) s (nI b)) 7 0 0 2 0 = M1
  have e9 : M1 9 0 = M 9 0 := by subst hM1; simp +decide only [mset_c2]
  have q9 : (mset M1 9 0 0 0 0) 9 0 0 9 = nI (m + 1) := by rw [mset_c4 (by decide), e9]; exact a2
  refine rX9_undo_0 <| nr_f (by rw [q9]; exact nI_ne0 (by omega) (by omega)) ?_
  rw [q9, nI_pred]
  refine m_undo (by omega) mset_at ?_
  have w9 : (mset (mset M1 9 0 0 0 0) 9 0 0 9 (nI m)) 9 0 9 = M 9 0 9 := by rw [mset_c3 (by decide), mset_c3 (by decide), e9]
  have w6 : (mset (mset M1 9 0 0 0 0) 9 0 0 9 (nI m)) 9 0 6 = M 9 0 6 := by rw [mset_c3 (by decide), mset_c3 (by decide), e9]
  rw [w9, w6]
  have es : fil (M 9 0 6) (fun x => M 9 0 9 (80 * m + x)) 0 80 = upd (M 9 0 6) (2 + 3 * s + fOf c) (nI b) := by
    funext x
    unfold fil upd
    by_cases hx : x < 80
    · rw [if_pos (by omega), Nat.sub_zero]
      dsimp only
      rw [g7 x hx, if_pos rfl]
    · rw [if_neg (by omega), if_neg (by omega)]
  rw [es]
  have m0 : M1 0 0 0 3 = nI m := by subst hM1; simp +decide only [mset_c2, mset_at]
  refine h _ _ ?_
  obtain ⟨i1, i2, i3, i4, i5, -, i7, i8, i9⟩ := hI
  have x5 : M1 5 0 = M 5 0 := by subst hM1; simp +decide only [mset_c2]
  have x4 : M1 4 0 = M 4 0 := by subst hM1; simp +decide only [mset_c2]
  have x8 : M1 8 0 = M 8 0 := by subst hM1; simp +decide only [mset_c2]
  have x1 : M1 1 0 = M 1 0 := by subst hM1; simp +decide only [mset_c2]
  have y1 : M1 0 0 1 = M 0 0 1 := by subst hM1; simp +decide only [mset_c2, mset_c3]
  have y2 : M1 0 0 2 = M 0 0 2 := by subst hM1; simp +decide only [mset_c2, mset_c3]
  have y3 : M1 0 0 3 = M 0 0 3 := by subst hM1; simp +decide only [mset_c2, mset_c3]
  have x7 : M1 7 0 0 2 = 0 := by subst hM1; exact mset_at
  have x6 : M1 6 0 = oneU (M 6 0) (3 + fOf c) s (nI b) := by subst hM1; rw [mset_c2 (by decide), mset_one, mset_c2 (by decide)]
  have x63 : ∀ k, M1 6 (k + 3) = M 6 (k + 3) := fun k => by subst hM1; rw [mset_c2 (by omega), mset_c2 (by omega), mset_c2 (by omega)]
  unfold Inv
  simp only [mset_c2, mset_c3, mset_c4, marr_c2, marr_c3, mset_self, mset_at, marr_self, Nat.reduceEqDiff, false_and, and_false, not_false_eq_true, reduceCtorEq, true_and, and_true, x5, x4, x8, x1, e9, x63, x6, m0, y1, y2, y3]
  refine ⟨i1, i2, i3, i4, now_upd i5 g1 g2 g3, ⟨m, by omega, rfl, rfl, fun t ht => ?_⟩, i7, i8, Or.inl x7⟩
  rw [sd_upd (by omega), show (fun y => if y = 2 + 3 * s + fOf c then b else sdOf (M 9 0 6) y) 0 = sdOf (M 9 0 6) 0 from if_neg (by omega)]
  obtain ⟨c', s', b', k1, k2, k3, k4, k5, k6, k7⟩ := a3 t (by omega)
  refine ⟨c', s', b', k1, k2, k3, k4, k5, k6, fun x hx => ?_⟩
  rw [k7 x hx]
  by_cases q : x = 2 + 3 * s' + fOf c'
  · rw [if_pos q, if_pos q]
  · rw [if_neg q, if_neg q, if_neg (show ¬ t + 1 = m + 1 by omega)]
    by_cases r : t + 1 = m
    · rw [if_pos r, r, g7 x hx, if_pos rfl]
      rfl
    · rw [if_neg r]
theorem m_image {k : Nat} (hk : k < 2) (h : Q (some (pI 1)) (mset (marr M 9 0 29 (fil (M 9 0 29) (M 9 0 6) (80 * k) 80)) 9 0 28 k 1)) : TT X kX9_image 30 [some (pR (9, 0, 0)), some (pI (nI k)), some (pI 0)] [] M Q := by
  have L : ∀ d j : Nat, j + d = 80 → TT X kX9_image 30 [some (pR (9, 0, 0)), some (pI (nI k)), some (pI (nI j))] [] (marr M 9 0 29 (fil (M 9 0 29) (M 9 0 6) (80 * k) j)) Q := by
    intro d
    induction d with
    | zero =>
      intro j hj
      obtain rfl : j = 80 := by omega
      refine rX9_image_30 <| br_t (by decide +kernel) ?_
      rw [clampI (by omega)]
      exact ⟨vp_in_nI hk (by decide), h⟩
    | succ d ih =>
      intro j hj
      refine rX9_image_30 <| br_f (nI_ge (a := j) (b := 80) (by omega) (by decide)) ?_
      rw [marr_c3 (by decide), show (80 : Int32) * nI k + nI j = nI (80 * k + j) by rw [show (80 : Int32) = nI 80 from rfl, pk_mul, nI_add], clampI (by omega), clampI (by omega), nI_1, mset_marr, fil_s]
      exact ⟨vp_in_nI (by omega) (by decide), vp_in_nI (by omega) (by decide), ih (j + 1) (by omega)⟩
  have := L 80 0 rfl
  rwa [fil_0, marr_id] at this
theorem m_restore {k : Nat} (hk : k < 2) (h : Q (some (pI 1)) (mset (marr M 9 0 6 (fil (M 9 0 6) (fun x => M 9 0 29 (80 * k + x)) 0 80)) 9 0 0 9 0)) : TT X kX9_restore 32 [some (pR (9, 0, 0)), some (pI (nI k)), some (pI 0)] [] M Q := by
  have L : ∀ d j : Nat, j + d = 80 → TT X kX9_restore 32 [some (pR (9, 0, 0)), some (pI (nI k)), some (pI (nI j))] [] (marr M 9 0 6 (fil (M 9 0 6) (fun x => M 9 0 29 (80 * k + x)) 0 j)) Q := by
    intro d
    induction d with
    | zero =>
      intro j hj
      obtain rfl : j = 80 := by omega
      exact rX9_restore_32 <| br_t (by decide +kernel) h
    | succ d ih =>
      intro j hj
      refine rX9_restore_32 <| br_f (nI_ge (a := j) (b := 80) (by omega) (by decide)) ?_
      rw [marr_c3 (by decide), show (80 : Int32) * nI k + nI j = nI (80 * k + j) by rw [show (80 : Int32) = nI 80 from rfl, pk_mul, nI_add], clampI (by omega), clampI (by omega), nI_1, mset_marr]
      refine ⟨vp_in_nI (by omega) (by decide), vp_in_nI (by omega) (by decide), ?_⟩
      have := fil_s (M 9 0 6) (fun x => M 9 0 29 (80 * k + x)) 0 j
      rw [Nat.zero_add] at this
      rw [this]
      exact ih (j + 1) (by omega)
  have := L 80 0 rfl
  rwa [fil_0, marr_id] at this
theorem s_isNone {i n : Nat} (hi : i < 5) (hn : n < 2 ^ 31) (e : M 6 i 0 0 = nI n) (h : Q (some (pI (bI (n = 0)))) M) : TT X kX6_isNone 0 [some (pR (6, i, 0))] [] M Q := by
  refine rX6_isNone_0 hi ?_
  rw [e]
  by_cases z : n = 0
  · subst z
    exact nr_t rfl h
  · rw [bI_f z] at h
    exact nr_f (nI_ne0 (by omega) hn) h
theorem pair_image {F : Int32 → Int32 → Mem → Prop} {a1 : Int32} (hI : Inv M) (h : ∀ v M', Inv M' → F v v M') : TT X kX8_image 0 [some (pR (8, 0, 0)), some (pI a1)] [] M (rI fun v1 M1 => TT X kX9_image 0 [some (pR (9, 0, 0)), some (pI a1), none] [] M1 (rI fun v2 M2 => F v1 v2 M2)) := by
  obtain ⟨n1, n2, n3, w1, -⟩ := now_of hI
  have hT := inv_thr (v := 0) hI
  have hth := hI.2.2.2.2.1.2.2
  by_cases c1 : 0 ≤ a1.toInt ∧ a1.toInt ≤ 1
  rotate_left
  · have m : TT X kX9_image 0 [some (pR (9, 0, 0)), some (pI a1), none] [] M (rI fun v2 M2 => F (-1000001) v2 M2) := rX9_image_0 <| s_in <| bn_f (by rw [i64]; exact c1) <| h _ _ hT
    refine rX8_image_0 ⟨fun _ => m, fun z => ⟨fun y => absurd ?_ c1, fun _ => m⟩⟩
    rw [i32_lt, z0] at z
    rw [i32_lt, show (2 : Int32).toInt = 2 from rfl] at y
    omega
  obtain ⟨k, hk, rfl⟩ : ∃ k : Nat, k < 2 ∧ a1 = nI k := ⟨a1.toInt.toNat, by omega, nI_is (by omega)⟩
  by_cases c2 : sdOf (M 9 0 6) 0 = 0
  · refine rX8_image_0 <| br_f (nI_pos (by omega)) <| br_t (nI_lt (b := 2) hk (by decide)) <| s_isNone (by decide) (by omega) n2 <| bz_t c2 <| rX9_image_0 <| s_in <| bn_t (by rw [i64]; exact c1) <| nr_t ?_ <| h _ _ hT
    rw [mset_c4 (by decide), hth, bI_f (fun q => q c2)]
  have th1 : M 9 0 0 7 = 1 := by rw [hth, bI_t c2]
  refine rX8_image_0 <| br_f (nI_pos (by omega)) <| br_t (nI_lt (b := 2) hk (by decide)) <| s_isNone (by decide) (by omega) n2 <| bz_f c2 ⟨vp_in_nI hk (by decide), ?_⟩
  rw [clampI (by omega)]
  refine s_takeOver (i := k + 3) (j := 0) (sd := sdOf (M 9 0 6)) (by omega) (by decide) (by omega) hI.2.2.2.2.1.2.1 n1 w1 fun M1 o st => rX9_image_0 <| s_in <| bn_t (by rw [i64]; exact c1) <| nr_f ?_ <| m_image hk <| h _ _ ?_
  · rw [mset_c4 (by decide), o 9 0 (by omega), th1]
    decide
  obtain ⟨i1, i2, i3, i4, i5, i6, i7, i8, i9⟩ := hI
  have x5 := o 5 0 (by omega)
  have x4 := o 4 0 (by omega)
  have x8 := o 8 0 (by omega)
  have x1 := o 1 0 (by omega)
  have x0 := o 0 0 (by omega)
  have x7 := o 7 0 (by omega)
  have x6 := o 6 0 (by omega)
  have x9 := o 9 0 (by omega)
  unfold Inv
  simp only [mset_c2, mset_c3, mset_c4, marr_c2, marr_c3, mset_self, mset_at, marr_self, Nat.reduceEqDiff, false_and, and_false, not_false_eq_true, reduceCtorEq, true_and, and_true, x5, x4, x8, x1, x0, x7, x6, x9]
  refine ⟨i1, i2, i3, i4, i5, i6, fun k' hk' => ?_, i8, i9⟩
  by_cases e : k' = k
  · subst e
    refine Or.inr ⟨?_, ?_, ?_, ?_, th1⟩
    · exact stm_cong (f := M 9 0 6) (fun x hx => (fil_in hx).symm) i5.1
    · rw [← sd_cong (f := M 9 0 6) (fun x hx => (fil_in (f := M 9 0 29) (g := M 9 0 6) (b := 80 * k') hx).symm) 0 (by decide)]
      exact c2
    · exact stx_cong (sd_cong (fun x hx => (fil_in hx).symm)) n1 w1 st
    · exact if_pos rfl
  · have := i7 k' hk'
    rw [o 6 (k' + 3) (by omega), show upd (M 9 0 28) k 1 k' = M 9 0 28 k' from if_neg e]
    refine img_cong (fun x hx => ?_) this
    exact (fil_out (by omega)).symm
theorem pair_restore {F : Int32 → Int32 → Mem → Prop} {a1 : Int32} (hI : Inv M) (h : ∀ v M', Inv M' → F v v M') : TT X kX8_restore 0 [some (pR (8, 0, 0)), some (pI a1)] [] M (rI fun v1 M1 => TT X kX9_restore 0 [some (pR (9, 0, 0)), some (pI a1), none] [] M1 (rI fun v2 M2 => F v1 v2 M2)) := by
  have hT := inv_thr (v := 0) hI
  by_cases c1 : 0 ≤ a1.toInt ∧ a1.toInt ≤ 1
  rotate_left
  · have m : TT X kX9_restore 0 [some (pR (9, 0, 0)), some (pI a1), none] [] M (rI fun v2 M2 => F (-1000001) v2 M2) := rX9_restore_0 <| s_in <| bn_f (by rw [i64]; exact c1) <| h _ _ hT
    refine rX8_restore_0 ⟨fun _ => m, fun z => ⟨fun y => absurd ?_ c1, fun _ => m⟩⟩
    rw [i32_lt, z0] at z
    rw [i32_lt, show (2 : Int32).toInt = 2 from rfl] at y
    omega
  obtain ⟨k, hk, rfl⟩ : ∃ k : Nat, k < 2 ∧ a1 = nI k := ⟨a1.toInt.toNat, by omega, nI_is (by omega)⟩
  have v2 : vp_in (nI k) 2 := vp_in_nI hk (by decide)
  have cl : Int32.toNatClampNeg (nI k) = k := clampI (by omega)
  rcases hI.2.2.2.2.2.2.1 k hk with ⟨g1, g2⟩ | ⟨g1, g2, g3, g4, g5⟩
  · refine rX8_restore_0 <| br_f (nI_pos (by omega)) <| br_t (nI_lt (b := 2) hk (by decide)) ⟨v2, ?_⟩
    rw [cl]
    refine s_isNone (n := 0) (by omega) (by decide) g1 <| bz_t rfl <| rX9_restore_0 <| s_in <| bn_t (by rw [i64]; exact c1) ⟨v2, ?_⟩
    rw [cl, mset_c3 (by decide)]
    exact nr_t g2 <| h _ _ hT
  refine rX8_restore_0 <| br_f (nI_pos (by omega)) <| br_t (nI_lt (b := 2) hk (by decide)) ⟨v2, ?_⟩
  rw [cl]
  have l18 := g1.2.1
  have l6 := g1.2.2.1
  refine s_isNone (by omega) (by omega) g3.1 <| bz_f g2 ⟨v2, rX8_replaceBy_0 (by omega) <| s_takeOver (i := 0) (j := k + 3) (by decide) (by omega) (by omega) g3 l18 l6 fun M1 o st => rX0_clear_0 <| rX7_forget_0 <| rX9_restore_0 <| s_in <| bn_t (by rw [i64]; exact c1) ⟨v2, ?_⟩⟩
  rw [cl]
  have x5 := o 5 0 (by omega)
  have x4 := o 4 0 (by omega)
  have x8 := o 8 0 (by omega)
  have x1 := o 1 0 (by omega)
  have x0 := o 0 0 (by omega)
  have x7 := o 7 0 (by omega)
  have x6 : ∀ k, M1 6 (k + 3) = M 6 (k + 3) := fun k => o 6 (k + 3) (by omega)
  have x9 := o 9 0 (by omega)
  generalize hM2 : mset (mset (mset M1 0 0 0 3 0) 7 0 0 2 0) 9 0 0 0 0 = M2
  have q28 : M2 9 0 28 = M 9 0 28 := by subst hM2; rw [mset_c3 (by decide), mset_c2 (by decide), mset_c2 (by decide), x9]
  have q29 : M2 9 0 29 = M 9 0 29 := by subst hM2; rw [mset_c3 (by decide), mset_c2 (by decide), mset_c2 (by decide), x9]
  have q6 : M2 9 0 6 = M 9 0 6 := by subst hM2; rw [mset_c3 (by decide), mset_c2 (by decide), mset_c2 (by decide), x9]
  rw [q28]
  refine nr_f (by rw [g4]; decide) <| m_restore hk <| h _ _ ?_
  rw [q6, q29]
  obtain ⟨i1, i2, i3, i4, i5, i6, i7, i8, i9⟩ := hI
  subst hM2
  unfold Inv
  simp only [mset_c2, mset_c3, mset_c4, marr_c2, marr_c3, mset_self, mset_at, marr_self, Nat.reduceEqDiff, false_and, and_false, not_false_eq_true, reduceCtorEq, true_and, and_true, x5, x4, x8, x1, x0, x6, x9]
  have cg : ∀ x, x < 80 → (fun x => M 9 0 29 (80 * k + x)) x = fil (M 9 0 6) (fun x => M 9 0 29 (80 * k + x)) 0 80 x := fun x hx => by
    have := fil_in (f := M 9 0 6) (g := fun x => M 9 0 29 (80 * k + x)) (b := 0) hx
    rw [Nat.zero_add] at this
    exact this.symm
  refine ⟨i1, i2, i3, i4, ⟨stm_cong cg g1, stx_cong (sd_cong cg) l18 l6 st, ?_⟩, ⟨0, by decide, rfl, rfl, fun t ht => absurd ht (Nat.not_lt_zero t)⟩, i7, i8, Or.inl mset_at⟩
  rw [g5, bI_t]
  rw [← sd_cong cg 0 (by decide)]
  exact g2
end UNDO
