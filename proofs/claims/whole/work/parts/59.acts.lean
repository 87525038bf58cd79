/-! frames; a stair taken over; acts -/
/-- all but one object is as it was -/
def Oth (M M' : Mem) (c i : Nat) : Prop := ∀ c' i', ¬ (c' = c ∧ i' = i) → M' c' i' = M c' i'
theorem Oth.rfl' {M : Mem} {c i : Nat} : Oth M M c i := fun _ _ _ => rfl
theorem Oth.set {M M' : Mem} {c i p x : Nat} {v : Int32} (h : Oth M M' c i) : Oth M (mset M' c i p x v) c i := fun c' i' q => by rw [mset_c2 q]; exact h c' i' q
theorem Oth.arr {M M' : Mem} {c i p : Nat} {f : Nat → Int32} (h : Oth M M' c i) : Oth M (marr M' c i p f) c i := fun c' i' q => by rw [marr_c2 q]; exact h c' i' q
theorem Oth.trans {M M1 M2 : Mem} {c i : Nat} (h : Oth M M1 c i) (h2 : Oth M1 M2 c i) : Oth M M2 c i := fun c' i' q => (h2 c' i' q).trans (h c' i' q)
def fil (f g : Nat → Int32) (b k : Nat) : Nat → Int32 := fun x => if b ≤ x ∧ x < b + k then g (x - b) else f x
theorem fil_0 (f g : Nat → Int32) (b : Nat) : fil f g b 0 = f := by
  funext x
  unfold fil
  rw [if_neg (by omega)]
theorem fil_s (f g : Nat → Int32) (b k : Nat) : upd (fil f g b k) (b + k) (g k) = fil f g b (k + 1) := by
  funext x
  unfold upd fil
  by_cases h : x = b + k
  · rw [if_pos h, if_pos (by omega), show x - b = k by omega]
  · rw [if_neg h]
    by_cases h2 : b ≤ x ∧ x < b + k
    · rw [if_pos h2, if_pos (by omega)]
    · rw [if_neg h2, if_neg (by omega)]
theorem fil_in {f g : Nat → Int32} {b k x : Nat} (h : x < k) : fil f g b k (b + x) = g x := by
  unfold fil
  rw [if_pos (by omega), show b + x - b = x by omega]
theorem fil_out {f g : Nat → Int32} {b k x : Nat} (h : x < b ∨ b + k ≤ x) : fil f g b k x = f x := by
  unfold fil
  rw [if_neg (by omega)]
theorem fOf_le {c : Nat} : fOf c ≤ 2 := by
  unfold fOf
  split <;> (try split) <;> omega
section ACTS
variable {X : Nat × (Nat → Int32)} {M : Mem} {Q : Option PV → Mem → Prop}
theorem s_takeOver {i j : Nat} {sd : Nat → Nat} (hi : i < 5) (hj : j < 5) (hne : ¬ j = i) (hs : StX (M 6 j) sd) (h0 : sd 0 ≤ 18) (h1 : sd 1 ≤ 6) (h : ∀ M', Oth M M' 6 i → StX (M' 6 i) sd → Q none M') : TT X kX6_takeOver 0 [some (pR (6, i, 0)), some (pR (6, j, 0)), none] [] M Q := by
  have hne' : ¬ (6 = 6 ∧ j = i) := fun q => hne q.2
  have L2 : ∀ d k : Nat, k + d = 6 → ∀ M', Oth M M' 6 i → M' 6 i 0 0 = M 6 j 0 0 → M' 6 i 0 1 = M 6 j 0 1 → (∀ s, s < 18 → M' 6 i 3 s = M 6 j 3 s ∧ M' 6 i 4 s = M 6 j 4 s ∧ M' 6 i 5 s = M 6 j 5 s) → (∀ s, s < k → M' 6 i 6 s = M 6 j 6 s ∧ M' 6 i 7 s = M 6 j 7 s ∧ M' 6 i 8 s = M 6 j 8 s ∧ M' 6 i 9 s = M 6 j 9 s) → TT X kX6_takeOver 68 [some (pR (6, i, 0)), some (pR (6, j, 0)), some (pI (nI k))] [] M' Q := by
    intro d
    induction d with
    | zero =>
      intro k hk M' o a b c e
      obtain rfl : k = 6 := by omega
      refine rX6_takeOver_68 hi hj <| br_t (by decide +kernel) <| h M' o ⟨a.trans hs.1, b.trans hs.2.1, fun s q => ?_, fun v q => ?_⟩
      · obtain ⟨x1, x2, x3⟩ := c s (by omega)
        obtain ⟨y1, y2, y3⟩ := hs.2.2.1 s q
        exact ⟨x1.trans y1, x2.trans y2, x3.trans y3⟩
      · obtain ⟨x1, x2, x3, x4⟩ := e v (by omega)
        obtain ⟨y1, y2, y3, y4⟩ := hs.2.2.2 v q
        exact ⟨x1.trans y1, x2.trans y2, x3.trans y3, x4.trans y4⟩
    | succ d ih =>
      intro k hk M' o a b c e
      have v6 : vp_in (nI k) 6 := vp_in_nI (by omega) (by decide)
      refine rX6_takeOver_68 hi hj <| br_f (nI_ge (a := k) (b := 6) (by omega) (by decide)) ⟨v6, v6, v6, v6, v6, v6, v6, v6, ?_⟩
      rw [clampI (by omega), nI_1]
      simp only [mset_c2 hne']
      rw [o 6 j hne']
      refine ih (k + 1) (by omega) _ (Oth.set <| Oth.set <| Oth.set <| Oth.set o) ?_ ?_ ?_ ?_
      · simp +decide only [mset_c4, mset_c3]; exact a
      · simp +decide only [mset_c4, mset_c3]; exact b
      · intro s q
        have := c s q
        simpa [mset_c3] using this
      · intro s q
        by_cases z : s = k
        · subst z
          simp [mset_c3, mset_at]
        · have := e s (by omega)
          simpa [mset_c3, mset_c4, z] using this
  have L1 : ∀ d k : Nat, k + d = 18 → ∀ M', Oth M M' 6 i → M' 6 i 0 0 = M 6 j 0 0 → M' 6 i 0 1 = M 6 j 0 1 → (∀ s, s < k → M' 6 i 3 s = M 6 j 3 s ∧ M' 6 i 4 s = M 6 j 4 s ∧ M' 6 i 5 s = M 6 j 5 s) → TT X kX6_takeOver 18 [some (pR (6, i, 0)), some (pR (6, j, 0)), some (pI (nI k))] [] M' Q := by
    intro d
    induction d with
    | zero =>
      intro k hk M' o a b c
      obtain rfl : k = 18 := by omega
      exact rX6_takeOver_18 hi hj <| br_t (by decide +kernel) <| L2 6 0 rfl M' o a b c (fun s q => absurd q (Nat.not_lt_zero s))
    | succ d ih =>
      intro k hk M' o a b c
      have v6 : vp_in (nI k) 18 := vp_in_nI (by omega) (by decide)
      refine rX6_takeOver_18 hi hj <| br_f (nI_ge (a := k) (b := 18) (by omega) (by decide)) ⟨v6, v6, v6, v6, v6, v6, ?_⟩
      rw [clampI (by omega), nI_1]
      simp only [mset_c2 hne']
      rw [o 6 j hne']
      refine ih (k + 1) (by omega) _ (Oth.set <| Oth.set <| Oth.set o) ?_ ?_ ?_
      · simp +decide only [mset_c4, mset_c3]; exact a
      · simp +decide only [mset_c4, mset_c3]; exact b
      · intro s q
        by_cases z : s = k
        · subst z
          simp [mset_c3, mset_at]
        · have := c s (by omega)
          simpa [mset_c3, mset_c4, z] using this
  refine rX6_takeOver_0 hi hj ?_
  rw [mset_c2 hne']
  refine L1 18 0 rfl _ (Oth.set <| Oth.set <| Oth.rfl') ?_ mset_at (fun s q => absurd q (Nat.not_lt_zero s))
  rw [mset_c4 (by simp), mset_at]
/-! an act -/
def oneU (F : Nat → Nat → Int32) (p s : Nat) (v : Int32) : Nat → Nat → Int32 := fun p' x => if p' = p ∧ x = s then v else F p' x
theorem mset_one {c i p s : Nat} {v : Int32} : mset M c i p s v c i = oneU (M c i) p s v := by
  funext p' x
  unfold mset oneU
  simp
theorem s_change {i n c s : Nat} {v : Int32} (hi : i < 5) (hn : n ≤ 18) (e : M 6 i 0 0 = nI n) (hs : s < n) (hc : c < 3) (h : Q (some (pI (M 6 i (3 + fOf c) s))) (mset M 6 i (3 + fOf c) s v)) : TT X kX0_change 0 [some (pR (6, i, 0)), some (pI (nI c)), some (pI (nI s)), some (pI v), none, none] [] M Q := by
  have v18 : vp_in (nI s) 18 := vp_in_nI (by omega) (by decide)
  refine rX0_change_0 hi <| s_hasStep hi (by omega) e <| bn_t (by rw [nI_int (by omega)]; omega) ?_
  rw [clampI (by omega)]
  rcases (show c = 0 ∨ c = 1 ∨ c = 2 by omega) with rfl | rfl | rfl
  · exact nr_t rfl ⟨v18, v18, h⟩
  · exact nr_f (by decide +kernel) <| nr_t rfl ⟨v18, v18, h⟩
  · exact nr_f (by decide +kernel) <| nr_f (by decide +kernel) ⟨v18, v18, h⟩
theorem s_forget (h : ∀ M', Oth M M' 0 0 → M' 0 0 0 3 = nI 23 → (∀ t, t < 23 → M' 0 0 1 t = M 0 0 1 (t + 1) ∧ M' 0 0 2 t = M 0 0 2 (t + 1) ∧ M' 0 0 3 t = M 0 0 3 (t + 1)) → Q none M') : TT X kX0_forgetOldest 0 [some (pR (0, 0, 0)), none] [] M Q := by
  have L : ∀ d k : Nat, k + d = 24 → 1 ≤ k → ∀ M', Oth M M' 0 0 → (∀ t, t < 24 → M' 0 0 1 t = (if t + 1 < k then M 0 0 1 (t + 1) else M 0 0 1 t) ∧ M' 0 0 2 t = (if t + 1 < k then M 0 0 2 (t + 1) else M 0 0 2 t) ∧ M' 0 0 3 t = if t + 1 < k then M 0 0 3 (t + 1) else M 0 0 3 t) → TT X kX0_forgetOldest 2 [some (pR (0, 0, 0)), some (pI (nI k))] [] M' Q := by
    intro d
    induction d with
    | zero =>
      intro k hk h1 M' o c
      obtain rfl : k = 24 := by omega
      refine rX0_forgetOldest_2 <| br_t (by decide +kernel) <| h _ (Oth.set o) mset_at fun t ht => ?_
      have := c t (by omega)
      rw [if_pos (by omega), if_pos (by omega), if_pos (by omega)] at this
      simpa [mset_c3] using this
    | succ d ih =>
      intro k hk h1 M' o c
      have v6 : vp_in (nI k) 24 := vp_in_nI (by omega) (by decide)
      have e1 : nI k - 1 = nI (k - 1) := by rw [show (1 : Int32) = nI 1 from rfl, pk_sub (by omega)]
      have v7 : vp_in (nI (k - 1)) 24 := vp_in_nI (by omega) (by decide)
      refine rX0_forgetOldest_2 <| br_f (nI_ge (a := k) (b := 24) (by omega) (by decide)) ?_
      rw [e1, clampI (by omega), clampI (by omega), nI_1]
      refine ⟨v6, v7, v6, v7, v6, v7, ih (k + 1) (by omega) (by omega) _ (Oth.set <| Oth.set <| Oth.set o) fun t ht => ?_⟩
      have ck := c k (by omega)
      have ct := c t (by omega)
      rw [if_neg (by omega), if_neg (by omega), if_neg (by omega)] at ck
      by_cases z : t = k - 1
      · subst z
        rw [if_pos (by omega), if_pos (by omega), if_pos (by omega), show k - 1 + 1 = k by omega]
        simpa [mset_c3, mset_at] using ck
      · have zz : ∀ a b : Int32, (if t + 1 < k + 1 then a else b) = if t + 1 < k then a else b := fun a b => by
          by_cases y : t + 1 < k
          · rw [if_pos y, if_pos (by omega)]
          · rw [if_neg y, if_neg (by omega)]
        rw [zz, zz, zz]
        simpa [mset_c3, mset_c4, z] using ct
  refine rX0_forgetOldest_0 <| L 23 1 rfl (by decide) M Oth.rfl' fun t ht => ?_
  rw [if_neg (by omega), if_neg (by omega), if_neg (by omega)]
  exact ⟨rfl, rfl, rfl⟩
theorem s_keep {n : Nat} {a1 a2 a3 : Int32} (hn : n ≤ 24) (e : M 0 0 0 3 = nI n) (h : ∀ M', Oth M M' 0 0 → M' 0 0 0 3 = nI (min n 23 + 1) → (∀ t, t < min n 23 → M' 0 0 1 t = M 0 0 1 (t + (n - min n 23)) ∧ M' 0 0 2 t = M 0 0 2 (t + (n - min n 23)) ∧ M' 0 0 3 t = M 0 0 3 (t + (n - min n 23))) → M' 0 0 1 (min n 23) = a1 → M' 0 0 2 (min n 23) = a2 → M' 0 0 3 (min n 23) = a3 → Q none M') : TT X kX0_keep 0 [some (pR (0, 0, 0)), some (pI a1), some (pI a2), some (pI a3)] [] M Q := by
  by_cases c : n < 24
  · refine rX0_keep_0 <| br_t (by rw [e]; exact nI_lt (b := 24) c (by decide)) ?_
    simp +decide only [mset_c4, mset_c3, mset_c2]
    have v : vp_in (M 0 0 0 3) 24 := by rw [e]; exact vp_in_nI c (by decide)
    have m : min n 23 = n := by omega
    refine ⟨v, v, v, h _ (Oth.set <| Oth.set <| Oth.set <| Oth.set <| Oth.rfl') ?_ ?_ ?_ ?_ ?_⟩
    · rw [mset_at, e, nI_1, m]
    · intro t ht
      have : ¬ t = n := by omega
      rw [m, Nat.sub_self, Nat.add_zero, e, clampI (by omega)]
      simp [mset_c3, mset_c4, this]
    all_goals
      rw [m, e, clampI (by omega)]
      simp [mset_c3, mset_at]
  · obtain rfl : n = 24 := by omega
    refine rX0_keep_0 <| br_f (by rw [e]; decide +kernel) <| s_forget fun M1 o1 q1 q2 => ?_
    show _ ∧ _
    simp +decide only [mset_c4, mset_c3, mset_c2]
    have v : vp_in (M1 0 0 0 3) 24 := by rw [q1]; exact vp_in_nI (by decide) (by decide)
    refine ⟨v, v, v, h _ (Oth.set <| Oth.set <| Oth.set <| Oth.set <| o1) ?_ ?_ ?_ ?_ ?_⟩
    · rw [mset_at, q1, nI_1]; rfl
    · intro t ht
      have ht : t < 23 := ht
      have : ¬ t = 23 := by omega
      rw [q1, clampI (by omega)]
      have := q2 t ht
      simpa [mset_c3, mset_c4, show ¬ t = 23 by omega] using this
    all_goals
      rw [show min 24 23 = 23 from rfl, q1, clampI (by omega)]
      simp [mset_c3, mset_at]
theorem m_keep {n : Nat} (hn : n ≤ 24) (e : M 9 0 0 9 = nI n) (h : ∀ w : Nat → Int32, (∀ t x, t < min n 23 → x < 80 → w (80 * t + x) = M 9 0 9 (80 * (t + (n - min n 23)) + x)) → (∀ x, x < 80 → w (80 * min n 23 + x) = M 9 0 6 x) → Q none (mset (marr M 9 0 9 w) 9 0 0 9 (nI (min n 23 + 1)))) : TT X kX9_keep 0 [some (pR (9, 0, 0)), none] [] M Q := by
  have L2 : ∀ (m : Nat) (f : Nat → Int32), m ≤ 23 → (Q none (mset (marr M 9 0 9 (fil f (M 9 0 6) (80 * m) 80)) 9 0 0 9 (nI (m + 1)))) → ∀ d k : Nat, k + d = 80 → TT X kX9_keep 51 [some (pR (9, 0, 0)), some (pI (nI k))] [] (mset (marr M 9 0 9 (fil f (M 9 0 6) (80 * m) k)) 9 0 0 9 (nI m)) Q := by
    intro m f hm hQ d
    induction d with
    | zero =>
      intro k hk
      obtain rfl : k = 80 := by omega
      refine rX9_keep_51 <| br_t (by decide +kernel) ?_
      rwa [mset_at, nI_1, mset_mset]
    | succ d ih =>
      intro k hk
      refine rX9_keep_51 <| br_f (nI_ge (a := k) (b := 80) (by omega) (by decide)) ?_
      rw [mset_at, show (80 : Int32) * nI m + nI k = nI (80 * m + k) by rw [show (80 : Int32) = nI 80 from rfl, pk_mul, nI_add], clampI (by omega), clampI (by omega), nI_1]
      refine ⟨vp_in_nI (by omega) (by decide), vp_in_nI (by omega) (by decide), ?_⟩
      rw [show (mset (marr M 9 0 9 (fil f (M 9 0 6) (80 * m) k)) 9 0 0 9 (nI m)) 9 0 6 = M 9 0 6 by simp +decide only [mset_c3, marr_c3]]
      rw [mset_eq (mset _ _ _ _ _ _) 9 0 9, mset_c3 (by simp), marr_self, marr_mset _ _ _ _ _ _ _ _ _ _ (by decide), marr_marr, fil_s]
      exact ih (k + 1) (by omega)
  by_cases c : n = 24
  rotate_left
  · refine rX9_keep_0 <| nr_f (by rw [e]; exact fun q => c ((nI_eq (a := n) (b := 24) (by omega) (by decide)).mp q)) ?_
    have m : min n 23 = n := by omega
    rw [m] at h
    have := L2 n (M 9 0 9) (by omega) (h _ (fun t x ht hx => ?_) (fun x hx => fil_in hx)) 80 0 rfl
    · rwa [fil_0, marr_id, ← e, mset_id] at this
    · rw [fil_out (by omega), Nat.sub_self, Nat.add_zero]
  · subst c
    have L1 : ∀ d k : Nat, k + d = 1840 → TT X kX9_keep 11 [some (pR (9, 0, 0)), some (pI (nI k))] [] (marr M 9 0 9 (fil (M 9 0 9) (fun x => M 9 0 9 (x + 80)) 0 k)) Q := by
      intro d
      induction d with
      | zero =>
        intro k hk
        obtain rfl : k = 1840 := by omega
        refine rX9_keep_11 <| br_t (by decide +kernel) ?_
        rw [show (marr M 9 0 9 (fil (M 9 0 9) (fun x => M 9 0 9 (x + 80)) 0 1840)) 9 0 0 9 = nI 24 by rw [marr_c3 (by decide)]; exact e, show nI 24 - 1 = nI 23 from by decide +kernel]
        have := L2 23 (fil (M 9 0 9) (fun x => M 9 0 9 (x + 80)) 0 1840) (by omega) (h _ (fun t x ht hx => ?_) (fun x hx => fil_in hx)) 80 0 rfl
        · rwa [fil_0] at this
        · have ht : t < 23 := ht
          rw [fil_out (by omega)]
          have := fil_in (f := M 9 0 9) (g := fun x => M 9 0 9 (x + 80)) (b := 0) (k := 1840) (x := 80 * t + x) (by omega)
          rw [Nat.zero_add] at this
          rw [this]
          show M 9 0 9 _ = M 9 0 9 _
          rw [show 80 * t + x + 80 = 80 * (t + (24 - min 24 23)) + x by omega]
      | succ d ih =>
        intro k hk
        refine rX9_keep_11 <| br_f (nI_ge (a := k) (b := 1840) (by omega) (by decide)) ?_
        rw [show nI k + 80 = nI (k + 80) from nI_add k 80, clampI (by omega), clampI (by omega), nI_1, marr_self, mset_marr, fil_out (by omega)]
        refine ⟨vp_in_nI (by omega) (by decide), vp_in_nI (by omega) (by decide), ?_⟩
        have := fil_s (M 9 0 9) (fun x => M 9 0 9 (x + 80)) 0 k
        rw [Nat.zero_add] at this
        rw [this]
        exact ih (k + 1) (by omega)
    refine rX9_keep_0 <| nr_t (by rw [e]; decide +kernel) ?_
    have := L1 1840 0 rfl
    rwa [fil_0, marr_id] at this
theorem sd_upd {st : Nat → Int32} {x v : Nat} (hv : v < 2 ^ 31) : sdOf (upd st x (nI v)) = fun y => if y = x then v else sdOf st y := by
  funext y
  unfold sdOf upd
  by_cases h : y = x
  · rw [if_pos h, if_pos h, clampI hv]
  · rw [if_neg h, if_neg h]
theorem bOf_le {c : Nat} : bOf c ≤ 20 := by
  unfold bOf
  split <;> (try split) <;> omega
theorem sv_upd {sd : Nat → Nat} {c s v : Nat} (h : SV sd) (hc : c < 3) (hs : s < sd 0) (hv : v ≤ bOf c) : SV (fun y => if y = 2 + 3 * s + fOf c then v else sd y) := by
  obtain ⟨h0, h1, h2, h3⟩ := h
  have f2 := fOf_le (c := c)
  refine ⟨by simpa using (show (if 0 = 2 + 3 * s + fOf c then v else sd 0) ≤ 18 by rw [if_neg (by omega)]; exact h0), ?_, fun t ht => ?_, fun t ht => ?_⟩
  · show (if 1 = 2 + 3 * s + fOf c then v else sd 1) ≤ 6
    rw [if_neg (by omega)]
    exact h1
  · have ht : t < (if 0 = 2 + 3 * s + fOf c then v else sd 0) := ht
    rw [if_neg (by omega)] at ht
    obtain ⟨a, b, d⟩ := h2 t ht
    show (if 2 + 3 * t = _ then v else _) ≤ 4 ∧ (if 3 + 3 * t = _ then v else _) ≤ 20 ∧ (if 4 + 3 * t = _ then v else _) ≤ 1
    rcases (show c = 0 ∨ c = 1 ∨ c = 2 by omega) with rfl | rfl | rfl
    · have hv : v ≤ 20 := hv
      simp only [show fOf 0 = 1 from rfl]
      refine ⟨by rw [if_neg (by omega)]; exact a, by split <;> omega, by rw [if_neg (by omega)]; exact d⟩
    · have hv : v ≤ 4 := hv
      simp only [show fOf 1 = 0 from rfl]
      refine ⟨by split <;> omega, by rw [if_neg (by omega)]; exact b, by rw [if_neg (by omega)]; exact d⟩
    · have hv : v ≤ 1 := hv
      simp only [show fOf 2 = 2 from rfl]
      refine ⟨by rw [if_neg (by omega)]; exact a, by rw [if_neg (by omega)]; exact b, by split <;> omega⟩
  · have ht : t < (if 1 = 2 + 3 * s + fOf c then v else sd 1) := ht
    rw [if_neg (by omega)] at ht
    have := h3 t ht
    simp only
    rw [if_neg (by omega), if_neg (by omega), if_neg (by omega), if_neg (by omega)]
    exact this
theorem now_upd {F : Nat → Nat → Int32} {st : Nat → Int32} {th : Int32} {c s v : Nat} (h : NowR F st th) (hc : c < 3) (hs : s < sdOf st 0) (hv : v ≤ bOf c) : NowR (oneU F (3 + fOf c) s (nI v)) (upd st (2 + 3 * s + fOf c) (nI v)) th := by
  obtain ⟨⟨h1, h2⟩, ⟨k0, k1, k2, k3⟩, h4⟩ := h
  have f2 := fOf_le (c := c)
  have b2 := bOf_le (c := c)
  have hs18 : s < 18 := by have := h2.1; omega
  unfold NowR StM
  rw [sd_upd (by omega)]
  refine ⟨⟨fun x hx => ?_, sv_upd h2 hc hs hv⟩, ⟨?_, ?_, fun t ht => ?_, fun t ht => ?_⟩, ?_⟩
  · unfold upd
    dsimp only
    by_cases e : x = 2 + 3 * s + fOf c
    · rw [if_pos e, if_pos e]
    · rw [if_neg e, if_neg e]
      exact h1 x hx
  · dsimp only
    rw [if_neg (by omega)]
    show (if 0 = 3 + fOf c ∧ _ then _ else _) = _
    rw [if_neg (by omega)]
    exact k0
  · dsimp only
    rw [if_neg (by omega)]
    show (if 0 = 3 + fOf c ∧ _ then _ else _) = _
    rw [if_neg (by omega)]
    exact k1
  · have ht : t < (if 0 = 2 + 3 * s + fOf c then v else sdOf st 0) := ht
    rw [if_neg (by omega)] at ht
    obtain ⟨a, b, d⟩ := k2 t ht
    show (if 3 = 3 + fOf c ∧ t = s then _ else _) = nI (if 2 + 3 * t = 2 + 3 * s + fOf c then _ else _) ∧ (if 4 = 3 + fOf c ∧ t = s then _ else _) = nI (if 3 + 3 * t = 2 + 3 * s + fOf c then _ else _) ∧ (if 5 = 3 + fOf c ∧ t = s then _ else _) = nI (if 4 + 3 * t = 2 + 3 * s + fOf c then _ else _)
    have e1 : (3 = 3 + fOf c ∧ t = s) = (2 + 3 * t = 2 + 3 * s + fOf c) := propext (by omega)
    have e2 : (4 = 3 + fOf c ∧ t = s) = (3 + 3 * t = 2 + 3 * s + fOf c) := propext (by omega)
    have e3 : (5 = 3 + fOf c ∧ t = s) = (4 + 3 * t = 2 + 3 * s + fOf c) := propext (by omega)
    rw [a, b, d]
    refine ⟨?_, ?_, ?_⟩
    · by_cases z : 2 + 3 * t = 2 + 3 * s + fOf c
      · rw [if_pos (e1 ▸ z), if_pos z]
      · rw [if_neg (e1 ▸ z), if_neg z]
    · by_cases z : 3 + 3 * t = 2 + 3 * s + fOf c
      · rw [if_pos (e2 ▸ z), if_pos z]
      · rw [if_neg (e2 ▸ z), if_neg z]
    · by_cases z : 4 + 3 * t = 2 + 3 * s + fOf c
      · rw [if_pos (e3 ▸ z), if_pos z]
      · rw [if_neg (e3 ▸ z), if_neg z]
  · have ht : t < (if 1 = 2 + 3 * s + fOf c then v else sdOf st 1) := ht
    rw [if_neg (by omega)] at ht
    have := k3 t ht
    simp only
    rw [if_neg (by omega), if_neg (by omega), if_neg (by omega), if_neg (by omega)]
    show (if 6 = 3 + fOf c ∧ _ then _ else _) = _ ∧ (if 7 = 3 + fOf c ∧ _ then _ else _) = _ ∧ (if 8 = 3 + fOf c ∧ _ then _ else _) = _ ∧ (if 9 = 3 + fOf c ∧ _ then _ else _) = _
    rw [if_neg (by omega), if_neg (by omega), if_neg (by omega), if_neg (by omega)]
    exact this
  · rw [h4]
    refine bI_c ?_
    dsimp only
    rw [if_neg (by omega)]
end ACTS
