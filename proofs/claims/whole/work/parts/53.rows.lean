theorem inv_init {M : Mem} (h : Init M) : Inv M := by
  obtain ⟨h5, h9, h0⟩ := h
  have z : ∀ c i p x : Nat, (c, i, p) ≠ (5, 0, 1) → (c, i, p) ≠ (9, 0, 3) → M c i p x = 0 := h0
  have zf : ∀ c i p : Nat, (c, i, p) ≠ (5, 0, 1) → (c, i, p) ≠ (9, 0, 3) → M c i p = fun _ => 0 := fun c i p a b => funext fun x => h0 c i p x a b
  have hst : M 9 0 6 = fun _ => 0 := zf _ _ _ (by decide) (by decide)
  have hsd : sdOf (M 9 0 6) = fun _ => 0 := by rw [hst]; funext x; rfl
  refine ⟨fun r hr => ⟨by rw [h5 r hr, h9 r hr], Or.inl (h5 r hr)⟩, ⟨0, by decide, z _ _ _ _ (by decide) (by decide), z _ _ _ _ (by decide) (by decide), fun k hk => absurd hk (Nat.not_lt_zero k)⟩, ?_, ?_, ⟨⟨fun x _ => ?_, ?_⟩, ⟨?_, ?_, ?_, ?_⟩, ?_⟩, ⟨0, by decide, z _ _ _ _ (by decide) (by decide), z _ _ _ _ (by decide) (by decide), fun k hk => absurd hk (Nat.not_lt_zero k)⟩, fun k hk => Or.inl ⟨z _ _ _ _ (by simp) (by simp), z _ _ _ _ (by simp) (by simp)⟩, ⟨0, by decide, z _ _ _ _ (by decide) (by decide), z _ _ _ _ (by decide) (by decide), fun k hk => absurd hk (Nat.not_lt_zero k)⟩, Or.inl (z _ _ _ _ (by decide) (by decide))⟩
  · rw [z 8 0 0 11 (by decide) (by decide), z 9 0 0 12 (by decide) (by decide)]
  · rw [z 8 0 0 12 (by decide) (by decide), z 9 0 0 1 (by decide) (by decide)]
  · rw [hsd, hst]; rfl
  · rw [hsd]
    exact ⟨by decide, by decide, fun s hs => absurd hs (Nat.not_lt_zero s), fun s hs => absurd hs (Nat.not_lt_zero s)⟩
  · rw [hsd]; exact z _ _ _ _ (by decide) (by decide)
  · rw [hsd]; exact z _ _ _ _ (by decide) (by decide)
  · rw [hsd]; exact fun s hs => absurd hs (Nat.not_lt_zero s)
  · rw [hsd]; exact fun s hs => absurd hs (Nat.not_lt_zero s)
  · rw [hsd, z 9 0 0 7 (by decide) (by decide)]; rfl
/-! which way a branch goes -/
theorem bz_t {c A B : Prop} [Decidable c] (h : c) (b : B) : (bI c = 0 → A) ∧ (¬ bI c = 0 → B) := ⟨fun q => absurd h (bI_0.mp q), fun _ => b⟩
theorem bz_f {c A B : Prop} [Decidable c] (h : ¬ c) (a : A) : (bI c = 0 → A) ∧ (¬ bI c = 0 → B) := ⟨fun _ => a, fun q => absurd (bI_n.mp q) h⟩
theorem bn_t {c A B : Prop} [Decidable c] (h : c) (b : B) : (¬ bI c = 0 → B) ∧ (bI c = 0 → A) := ⟨fun _ => b, fun q => absurd h (bI_0.mp q)⟩
theorem bn_f {c A B : Prop} [Decidable c] (h : ¬ c) (a : A) : (¬ bI c = 0 → B) ∧ (bI c = 0 → A) := ⟨fun q => absurd (bI_n.mp q) h, fun _ => a⟩
theorem nr_t {c A B : Prop} (h : c) (b : A) : (¬ c → B) ∧ (c → A) := ⟨fun q => absurd h q, fun _ => b⟩
theorem nr_f {c A B : Prop} (h : ¬ c) (b : B) : (¬ c → B) ∧ (c → A) := ⟨fun _ => b, fun q => absurd q h⟩
theorem inv_thr {M : Mem} {v : Int32} (h : Inv M) : Inv (mset M 9 0 0 0 v) := by
  unfold Inv at h ⊢
  simpa [mset_c2, mset_c3, mset_c4] using h
theorem inv_st {M : Mem} {v w : Int32} (h : Inv M) : Inv (mset (mset (mset (mset M 8 0 0 12 v) 9 0 0 0 0) 9 0 0 1 w) 9 0 0 1 v) := by
  unfold Inv at h ⊢
  obtain ⟨i1, i2, i3, -, i5⟩ := h
  simpa [mset_c2, mset_c3, mset_c4, mset_at] using And.intro i1 (And.intro i2 (And.intro i3 i5))
/-! rows: the small methods of the class -/
section ROWS
variable {X : Nat × (Nat → Int32)} {M : Mem} {Q : Option PV → Mem → Prop}
theorem z0 : (0 : Int32).toInt = 0 := rfl
theorem l64_0 : (0 : Int64).toInt = 0 := rfl
theorem nI_m1 {n : Nat} (h : n < 2 ^ 31) : (nI n - 1).toInt = (n : Int) - 1 := by
  have e := nI_int h
  have e1 : (1 : Int32).toInt = 1 := rfl
  rw [i32_sub (by omega) (by omega), e, e1]
theorem z3 : (3 : Int32).toInt = 3 := rfl
theorem z40 : (40 : Int32).toInt = 40 := rfl
theorem s_isMissing {r : Nat} (hr : r < 8) (h : Q (some (pI (bI (M 5 0 1 r = -1)))) M) : TT X kX5_isMissing 0 [some (pR (5, 0, 0)), some (pI (nI r))] [] M Q := by
  refine rX5_isMissing_0 (s_isNumber ?_)
  have hb : (nI r).toInt = r := nI_int (by omega)
  refine bz_t (by rw [hb]; omega) ?_
  rw [clampI (by omega)]
  refine ⟨vp_in_nI hr (by decide), fun z2 => ?_, fun z2 => ?_⟩
  · rwa [bI_f z2] at h
  · rwa [bI_t z2] at h
theorem s_sizeOf {r : Nat} (hr : r < 8) (hp : ¬ M 5 0 1 r = -1) (h : Q (some (pI (M 5 0 2 r))) M) : TT X kX5_sizeOf 0 [some (pR (5, 0, 0)), some (pI (nI r))] [] M Q := by
  refine rX5_sizeOf_0 (s_isMissing hr (bz_f hp ?_))
  rw [clampI (by omega)]
  exact ⟨vp_in_nI hr (by decide), h⟩
theorem s_laneOf {r : Nat} (hr : r < 8) (h : Q (some (pI (M 5 0 1 r))) M) : TT X kX5_laneOf 0 [some (pR (5, 0, 0)), some (pI (nI r))] [] M Q := by
  refine rX5_laneOf_0 (s_isNumber (bz_t (by rw [nI_int (by omega)]; omega) ?_))
  rw [clampI (by omega)]
  exact ⟨vp_in_nI hr (by decide), h⟩
theorem s_found {v : Int32} (h : Q (some (pI (-1000010 - v))) (mset M 8 0 0 12 v)) : TT X kX8_found 0 [some (pR (8, 0, 0)), some (pI v)] [] M Q := rX8_found_0 h
theorem s_fine {v : Int32} (h : Q (some (pI v)) (mset M 8 0 0 12 0)) : TT X kX8_fine 0 [some (pR (8, 0, 0)), some (pI v)] [] M Q := rX8_fine_0 h
theorem s_finding {v : Int32} (h : Q (some (pI (-1000010 - v))) (mset M 9 0 0 1 v)) : TT X kX9_finding 0 [some (pR (9, 0, 0)), some (pI v)] [] M Q := rX9_finding_0 h
/-- a stretch of a row becomes 0 -/
def zer (f : Nat → Int32) (a n : Nat) : Nat → Int32 := fun x => if a ≤ x ∧ x < a + n then 0 else f x
theorem zer_0 (f : Nat → Int32) (a : Nat) : zer f a 0 = f := by
  funext x
  unfold zer
  rw [if_neg (by omega)]
theorem zer_s (f : Nat → Int32) (a n : Nat) : upd (zer f a n) (a + n) 0 = zer f a (n + 1) := by
  funext x
  unfold upd zer
  by_cases h : x = a + n
  · rw [if_pos h, if_pos (by omega)]
  · rw [if_neg h]
    by_cases h2 : a ≤ x ∧ x < a + n
    · rw [if_pos h2, if_pos (by omega)]
    · rw [if_neg h2, if_neg (by omega)]
theorem s_make_loop {r n : Nat} {b2 : Int32} (hr : r < 8) (hn : n ≤ 40) (f : Nat → Int32) (h : Q none (marr M 5 0 3 (zer f (40 * r) n))) : ∀ d k : Nat, k + d = n → TT X kX5_make 36 [some (pR (5, 0, 0)), some (pI (nI r)), some (pI b2), some (pI (nI n)), some (pI (nI k))] [] (marr M 5 0 3 (zer f (40 * r) k)) Q := by
  intro d
  induction d with
  | zero =>
    intro k hk
    have e : k = n := by omega
    subst e
    exact rX5_make_36 (br_t (nI_le (Nat.le_refl _) (by omega)) h)
  | succ d ih =>
    intro k hk
    refine rX5_make_36 (br_f (nI_ge (by omega) (by omega)) ?_)
    have e1 : nI r * 40 + nI k = nI (40 * r + k) := by rw [show (40 : Int32) = nI 40 from rfl, pk_mul, nI_add, Nat.mul_comm]
    rw [e1, clampI (by omega), mset_marr, zer_s, nI_1]
    exact ⟨vp_in_nI (by omega) (by decide), ih (k + 1) (by omega)⟩
theorem s_make {r n : Nat} {b2 : Int32} (hr : r < 8) (hn : n ≤ 40) (h : Q none (marr (mset (mset M 5 0 1 r b2) 5 0 2 r (nI n)) 5 0 3 (zer (M 5 0 3) (40 * r) n))) : TT X kX5_make 0 [some (pR (5, 0, 0)), some (pI (nI r)), some (pI b2), some (pI (nI n)), none] [] M Q := by
  refine rX5_make_0 (s_isNumber (bz_t (by rw [nI_int (by omega)]; omega) ?_))
  refine br_f (nI_pos (by omega)) (br_t (nI_le (a := n) (b := 40) hn (by decide)) ?_)
  rw [clampI (by omega)]
  refine ⟨vp_in_nI hr (by decide), vp_in_nI hr (by decide), ?_⟩
  have e0 : mset (mset M 5 0 1 r b2) 5 0 2 r (nI n) = marr (mset (mset M 5 0 1 r b2) 5 0 2 r (nI n)) 5 0 3 (zer (M 5 0 3) (40 * r) 0) := by
    rw [zer_0]
    have : M 5 0 3 = (mset (mset M 5 0 1 r b2) 5 0 2 r (nI n)) 5 0 3 := by rw [mset_c3 (by decide), mset_c3 (by decide)]
    rw [this, marr_id]
  rw [e0]
  exact s_make_loop hr hn (M 5 0 3) h n 0 (by omega)
theorem m_row_loop {r : Nat} {b2 b3 : Int32} (hr : r < 8) (f : Nat → Int32) (h : Q (some (pI b3)) (marr M 9 0 5 (zer f (40 * r) 40))) : ∀ d k : Nat, k + d = 40 → TT X kX9_row 65 [some (pR (9, 0, 0)), some (pI (nI r)), some (pI b2), some (pI b3), some (pI (nI k))] [] (marr M 9 0 5 (zer f (40 * r) k)) Q := by
  intro d
  induction d with
  | zero =>
    intro k hk
    have e : k = 40 := by omega
    subst e
    exact rX9_row_65 (br_t (by decide +kernel) h)
  | succ d ih =>
    intro k hk
    refine rX9_row_65 (br_f (nI_ge (a := k) (b := 40) (by omega) (by decide)) ?_)
    have e1 : 40 * nI r + nI k = nI (40 * r + k) := by rw [show (40 : Int32) = nI 40 from rfl, pk_mul, nI_add]
    rw [e1, clampI (by omega), mset_marr, zer_s, nI_1]
    exact ⟨vp_in_nI (by omega) (by decide), ih (k + 1) (by omega)⟩
theorem rows_new {ln sz it ln' sz' it' : Nat → Int32} {r l n : Nat} (h : RowsR ln sz it ln' sz' it') (hr : r < 8) (hl : l < 3) (hn : n ≤ 40) : RowsR (upd ln r (nI l)) (upd sz r (nI n)) (zer it (40 * r) n) (upd ln' r (nI l)) (upd sz' r (nI n)) (zer it' (40 * r) 40) := by
  intro r' hr'
  by_cases e : r' = r
  · subst e
    simp only [upd_at, if_pos]
    refine ⟨trivial, Or.inr ⟨l, n, hl, hn, rfl, rfl, rfl, fun k hk => ?_⟩⟩
    unfold zer
    rw [if_pos (by omega), if_pos (by omega)]
  · simp only [upd_at, if_neg e]
    obtain ⟨h1, h2⟩ := h r' hr'
    refine ⟨h1, h2.imp id ?_⟩
    rintro ⟨l', n', g1, g2, g3, g4, g5, g6⟩
    refine ⟨l', n', g1, g2, g3, g4, g5, fun k hk => ?_⟩
    unfold zer
    rw [if_neg (by omega), if_neg (by omega)]
    exact g6 k hk
theorem pair_row {F : Int32 → Int32 → Mem → Prop} {a1 a2 a3 : Int32} (hI : Inv M) (h : ∀ v M', Inv M' → F v v M') : TT X kX8_row 0 [some (pR (8, 0, 0)), some (pI a1), some (pI a2), some (pI a3)] [] M (rI fun v1 M1 => TT X kX9_row 0 [some (pR (9, 0, 0)), some (pI a1), some (pI a2), some (pI a3), none] [] M1 (rI fun v2 M2 => F v1 v2 M2)) := by
  by_cases c1 : 0 ≤ a1.toInt ∧ a1.toInt < 8
  rotate_left
  · exact rX8_row_0 <| s_isNumber <| bz_f c1 <| rX9_row_0 <| s_isRow <| bz_f c1 <| h _ _ (inv_thr hI)
  by_cases c2 : 0 ≤ a2.toInt ∧ a2.toInt ≤ 2
  rotate_left
  · have m : TT X kX9_row 0 [some (pR (9, 0, 0)), some (pI a1), some (pI a2), some (pI a3), none] [] M (rI fun v2 M2 => F (-1000001) v2 M2) := rX9_row_0 <| s_isRow <| bz_t c1 <| s_in <| bz_f (by rw [i64]; exact c2) <| h _ _ (inv_thr hI)
    refine rX8_row_0 <| s_isNumber <| bz_t c1 ⟨fun _ => m, fun z => ⟨fun _ => m, fun z2 => absurd ?_ c2⟩⟩
    rw [i32_lt, z0] at z
    rw [i32_le, z3] at z2
    omega
  have n2 : ¬ a2 < 0 := by rw [i32_lt, z0]; omega
  have n3 : ¬ 3 ≤ a2 := by rw [i32_le, z3]; omega
  by_cases c3 : a3 ≤ 40
  rotate_left
  · exact rX8_row_0 <| s_isNumber <| bz_t c1 <| br_f n2 <| br_f n3 <| br_f c3 <| rX9_row_0 <| s_isRow <| bz_t c1 <| s_in <| bz_t (by rw [i64]; exact c2) <| br_f c3 <| h _ _ (inv_thr hI)
  by_cases c4 : 0 ≤ a3
  rotate_left
  · refine rX8_row_0 <| s_isNumber <| bz_t c1 <| br_f n2 <| br_f n3 <| br_t c3 <| br_f c4 <| s_found <| rX9_row_0 <| s_isRow <| bz_t c1 <| s_in <| bz_t (by rw [i64]; exact c2) <| br_t c3 <| br_f c4 <| s_finding <| h _ _ ?_
    exact inv_st hI
  have c3' := i32_le.mp c3
  have c4' := i32_le.mp c4
  rw [z40] at c3'
  rw [z0] at c4'
  obtain ⟨r, hr, rfl⟩ : ∃ r : Nat, r < 8 ∧ a1 = nI r := ⟨a1.toInt.toNat, by omega, nI_is (by omega)⟩
  obtain ⟨n, hn, rfl⟩ : ∃ n : Nat, n ≤ 40 ∧ a3 = nI n := ⟨a3.toInt.toNat, by omega, nI_is (by omega)⟩
  obtain ⟨l, hl, rfl⟩ : ∃ l : Nat, l < 3 ∧ a2 = nI l := ⟨a2.toInt.toNat, by omega, nI_is (by omega)⟩
  refine rX8_row_0 <| s_isNumber <| bz_t c1 <| br_f n2 <| br_f n3 <| br_t c3 <| br_t c4 <| s_make hr hn <| s_fine ?_
  refine rX9_row_0 <| s_isRow <| bz_t c1 <| s_in <| bz_t (by rw [i64]; exact c2) <| br_t c3 <| br_t c4 ?_
  rw [clampI (by omega)]
  refine ⟨vp_in_nI hr (by decide), vp_in_nI hr (by decide), ?_⟩
  generalize hM1 : mset (mset (mset (mset (mset (marr (mset (mset M 5 0 1 r (nI l)) 5 0 2 r (nI n)) 5 0 3 (zer (M 5 0 3) (40 * r) n)) 8 0 0 12 0) 9 0 0 0 0) 9 0 0 1 0) 9 0 3 r (nI l)) 9 0 4 r (nI n) = M1
  have e0 : M1 = marr M1 9 0 5 (zer (M1 9 0 5) (40 * r) 0) := by rw [zer_0, marr_id]
  rw [e0]
  refine m_row_loop hr (M1 9 0 5) (h _ _ ?_) 40 0 rfl
  subst hM1
  unfold Inv at hI ⊢
  obtain ⟨i1, i2, i3, -, i5⟩ := hI
  refine ⟨?_, by simpa [mset_c2, mset_c3, mset_c4, mset_at, marr_c2, marr_c3] using And.intro i2 (And.intro i3 i5)⟩
  have := rows_new i1 hr hl hn
  simpa [mset_c2, mset_c3, mset_c4, mset_self, marr_c2, marr_c3, marr_self] using this
/-! set -/
def nar (l : Nat) (v : Int32) : Int32 := if l = 0 then v.toInt8.toInt32 else if l = 1 then v.toInt16.toInt32 else v
theorem nl_ne {l : Nat} (h : l < 3) : ¬ nI l = -1 := by
  rcases (show l = 0 ∨ l = 1 ∨ l = 2 by omega) with rfl | rfl | rfl <;> decide +kernel
theorem nl_ge {l : Nat} (h : l < 3) : 0 ≤ nI l := by
  rcases (show l = 0 ∨ l = 1 ∨ l = 2 by omega) with rfl | rfl | rfl <;> decide +kernel
theorem m1_lt : ¬ (0 : Int32) ≤ -1 := by decide
theorem idx_x (r k : Nat) : nI r * 40 + nI k = nI (40 * r + k) := by rw [show (40 : Int32) = nI 40 from rfl, pk_mul, nI_add, Nat.mul_comm]
theorem idx_m (r k : Nat) : 40 * nI r + nI k = nI (40 * r + k) := by rw [show (40 : Int32) = nI 40 from rfl, pk_mul, nI_add]
theorem s_put {r l n k : Nat} {v : Int32} (hr : r < 8) (hl : l < 3) (hn : n ≤ 40) (h1 : M 5 0 1 r = nI l) (h2 : M 5 0 2 r = nI n) (hk : k < n) (h : Q (some (pI (nar l v))) (mset M 5 0 3 (40 * r + k) (nar l v))) : TT X kX5_put 0 [some (pR (5, 0, 0)), some (pI (nI r)), some (pI (nI k)), some (pI v), none] [] M Q := by
  refine rX5_put_0 <| br_f (nI_pos (by omega)) <| s_sizeOf hr (by rw [h1]; exact nl_ne hl) ?_
  show _ ∧ _
  rw [h2]
  refine br_t (nI_lt hk (by omega)) ?_
  rw [idx_x, clampI (by omega : r < 2 ^ 31), clampI (by omega : 40 * r + k < 2 ^ 31), h1]
  have i1 : vp_in (nI r) 8 := vp_in_nI hr (by decide)
  have i2 : vp_in (nI (40 * r + k)) 320 := vp_in_nI (by omega) (by decide)
  rcases (show l = 0 ∨ l = 1 ∨ l = 2 by omega) with rfl | rfl | rfl
  · exact ⟨i1, nr_t (by decide +kernel) ⟨i2, h⟩⟩
  · exact ⟨i1, nr_f (by decide +kernel) ⟨i1, nr_t (by decide +kernel) ⟨i2, h⟩⟩⟩
  · exact ⟨i1, nr_f (by decide +kernel) ⟨i1, nr_f (by decide +kernel) ⟨i2, h⟩⟩⟩
theorem rows_it {ln sz it ln' sz' it' : Nat → Int32} {r n k : Nat} {w : Int32} (h : RowsR ln sz it ln' sz' it') (hr : r < 8) (hk : k < 40) : RowsR ln sz (upd it (40 * r + k) w) ln' sz' (upd it' (40 * r + k) w) := by
  intro r' hr'
  obtain ⟨h1, h2⟩ := h r' hr'
  refine ⟨h1, h2.imp id ?_⟩
  rintro ⟨l', n', g1, g2, g3, g4, g5, g6⟩
  refine ⟨l', n', g1, g2, g3, g4, g5, fun k' hk' => ?_⟩
  unfold upd
  by_cases e : 40 * r' + k' = 40 * r + k
  · rw [if_pos e, if_pos e]
  · rw [if_neg e, if_neg e]
    exact g6 k' hk'
theorem inv_st0 {M : Mem} {v : Int32} (h : Inv M) : Inv (mset (mset (mset M 8 0 0 12 v) 9 0 0 0 0) 9 0 0 1 v) := by
  unfold Inv at h ⊢
  obtain ⟨i1, i2, i3, -, i5⟩ := h
  simpa [mset_c2, mset_c3, mset_c4, mset_at] using And.intro i1 (And.intro i2 (And.intro i3 i5))
theorem pair_set {F : Int32 → Int32 → Mem → Prop} {a1 a2 a3 : Int32} (hI : Inv M) (h : ∀ v M', Inv M' → F v v M') : TT X kX8_set 0 [some (pR (8, 0, 0)), some (pI a1), some (pI a2), some (pI a3)] [] M (rI fun v1 M1 => TT X kX9_set 0 [some (pR (9, 0, 0)), some (pI a1), some (pI a2), some (pI a3)] [] M1 (rI fun v2 M2 => F v1 v2 M2)) := by
  by_cases c1 : 0 ≤ a1.toInt ∧ a1.toInt < 8
  rotate_left
  · exact rX8_set_0 <| s_isNumber <| bn_f c1 <| rX9_set_0 <| s_isRow <| bn_f c1 <| h _ _ (inv_thr hI)
  obtain ⟨r, hr, rfl⟩ : ∃ r : Nat, r < 8 ∧ a1 = nI r := ⟨a1.toInt.toNat, by omega, nI_is (by omega)⟩
  have v8 : vp_in (nI r) 8 := vp_in_nI hr (by decide)
  have cl : Int32.toNatClampNeg (nI r) = r := clampI (by omega)
  obtain ⟨g0, g1⟩ := hI.1 r hr
  rcases g1 with g1 | ⟨l, n, hl, hn, g1, g2, g3, g4⟩
  · refine rX8_set_0 <| s_isNumber <| bn_t c1 <| s_isMissing hr <| bz_t g1 <| s_found <| rX9_set_0 <| s_isRow <| bn_t c1 ⟨v8, ?_⟩
    rw [cl]
    simp +decide only [mset_c4, mset_c3, mset_c2]
    rw [← g0, g1]
    exact br_f m1_lt <| s_finding <| h _ _ (inv_st hI)
  have hp : ¬ M 5 0 1 r = -1 := by rw [g1]; exact nl_ne hl
  by_cases c2 : 0 ≤ a2.toInt ∧ a2.toInt < n
  rotate_left
  · have m : TT X kX9_set 0 [some (pR (9, 0, 0)), some (pI (nI r)), some (pI a2), some (pI a3)] [] (mset M 8 0 0 12 2) (rI fun v2 M2 => F (-1000010 - 2) v2 M2) := by
      refine rX9_set_0 <| s_isRow <| bn_t c1 ⟨v8, ?_⟩
      rw [cl]
      simp +decide only [mset_c4, mset_c3, mset_c2]
      rw [← g0, g1, g3]
      refine br_t (nl_ge hl) ⟨v8, s_in <| bn_f ?_ <| s_finding <| h _ _ (inv_st hI)⟩
      rw [i64, i64, nI_m1 (by omega), l64_0]
      omega
    refine rX8_set_0 <| s_isNumber <| bn_t c1 <| s_isMissing hr <| bz_f hp ⟨fun z => s_found m, fun z => s_sizeOf hr hp <| br_f ?_ <| s_found m⟩
    rw [g2, i32_lt, nI_int (by omega)]
    rw [i32_lt, z0] at z
    omega
  obtain ⟨k, hk, rfl⟩ : ∃ k : Nat, k < n ∧ a2 = nI k := ⟨a2.toInt.toNat, by omega, nI_is (by omega)⟩
  refine rX8_set_0 <| s_isNumber <| bn_t c1 <| s_isMissing hr <| bz_f hp <| br_f (nI_pos (by omega)) <| s_sizeOf hr hp <| br_t (by rw [g2]; exact nI_lt hk (by omega)) <| s_put hr hl hn g1 g2 hk <| s_fine <| rX9_set_0 <| s_isRow <| bn_t c1 ⟨v8, ?_⟩
  rw [cl]
  simp +decide only [mset_c4, mset_c3, mset_c2]
  rw [← g0, g1, g3]
  refine br_t (nl_ge hl) ⟨v8, s_in <| bn_t ?_ ⟨v8, ?_⟩⟩
  · rw [i64, i64, nI_m1 (by omega), l64_0, nI_int (by omega)]
    omega
  have i2 : vp_in (nI (40 * r + k)) 320 := vp_in_nI (by omega) (by decide)
  simp +decide only [mset_c4, mset_c3, mset_c2]
  rw [← g0, g1, idx_m, clampI (by omega : 40 * r + k < 2 ^ 31), mset_at, mset_at, mset_at]
  have fin : ∀ w : Int32, Inv (mset (mset (mset (mset (mset M 5 0 3 (40 * r + k) w) 8 0 0 12 0) 9 0 0 0 0) 9 0 0 1 0) 9 0 5 (40 * r + k) w) := by
    intro w
    have hI2 := hI
    unfold Inv at hI2 ⊢
    obtain ⟨i1, i2, i3, -, i5⟩ := hI2
    refine ⟨?_, by simpa [mset_c2, mset_c3, mset_c4, mset_at, marr_c2, marr_c3] using And.intro i2 (And.intro i3 i5)⟩
    have := rows_it (n := n) (w := w) i1 hr (show k < 40 by omega)
    simpa [mset_c2, mset_c3, mset_c4, mset_self, marr_c2, marr_c3, marr_self] using this
  rcases (show l = 0 ∨ l = 1 ∨ l = 2 by omega) with rfl | rfl | rfl
  · exact nr_t (by decide +kernel) ⟨i2, i2, h _ _ (fin _)⟩
  · exact nr_f (by decide +kernel) ⟨v8, nr_t (by decide +kernel) ⟨i2, i2, h _ _ (fin _)⟩⟩
  · exact nr_f (by decide +kernel) ⟨v8, nr_f (by decide +kernel) ⟨i2, i2, h _ _ (fin _)⟩⟩
end ROWS
