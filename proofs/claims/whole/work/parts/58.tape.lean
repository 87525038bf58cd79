/-! count, feed -/
def cntU (ln : Nat → Int32) : Nat → Int32
  | 0 => 0
  | k + 1 => if ln k = -1 then cntU ln k else cntU ln k + 1
def sumU (g : Nat → Int32) : Nat → Int32
  | 0 => 0
  | k + 1 => sumU g k + g k
theorem sumU_c {g g' : Nat → Int32} : ∀ {n : Nat}, (∀ k, k < n → g k = g' k) → sumU g n = sumU g' n
  | 0, _ => rfl
  | n + 1, h => by
    show sumU g n + g n = sumU g' n + g' n
    rw [sumU_c (n := n) (fun k hk => h k (by omega)), h n (by omega)]
theorem byt_bv (x : BitVec 64) (s : Nat) (hs : s ≤ 56) : (x.sshiftRight s &&& 255#64).setWidth 32 = BitVec.ofNat 32 ((x.toNat >>> s) % 256) := by
  apply BitVec.eq_of_getLsbD_eq
  intro i hi
  rw [BitVec.getLsbD_setWidth, BitVec.getLsbD_and, BitVec.getLsbD_sshiftRight, BitVec.getLsbD_ofNat, BitVec.getLsbD_ofNat, show (256 : Nat) = 2 ^ 8 from rfl, Nat.testBit_mod_two_pow, Nat.testBit_shiftRight, show (255 : Nat) = 2 ^ 8 - 1 from rfl, Nat.testBit_two_pow_sub_one]
  by_cases c : i < 8
  · simp [c, show s + i < 64 by omega, show i < 64 by omega, hi, BitVec.testBit_toNat, show ¬ 64 ≤ i by omega]
  · simp [c]
theorem byt_bv2 (x : BitVec 64) (s : Nat) (hs : s ≤ 56) : ((x >>> s) &&& 255#64).setWidth 32 = BitVec.ofNat 32 ((x.toNat >>> s) % 256) := by
  apply BitVec.eq_of_getLsbD_eq
  intro i hi
  rw [BitVec.getLsbD_setWidth, BitVec.getLsbD_and, BitVec.getLsbD_ushiftRight, BitVec.getLsbD_ofNat, BitVec.getLsbD_ofNat, show (256 : Nat) = 2 ^ 8 from rfl, Nat.testBit_mod_two_pow, Nat.testBit_shiftRight, show (255 : Nat) = 2 ^ 8 - 1 from rfl, Nat.testBit_two_pow_sub_one]
  by_cases c : i < 8
  · simp [c, show s + i < 64 by omega, show i < 64 by omega, hi, BitVec.testBit_toNat, show ¬ 64 ≤ i by omega]
  · simp [c]
def byt (w : Int64) (i : Nat) : Nat := (w.toBitVec.toNat >>> (8 * i)) % 256
theorem byt_m (w : Int64) {i : Nat} (hi : i < 8) : Int64.toInt32 ((w >>> (Int32.toInt64 (8 * nI i) &&& 63)) &&& 255) = nI (byt w i) := by
  apply Int32.toBitVec_inj.mp
  rw [Int64.toBitVec_toInt32, Int64.toBitVec_and, Int64.toBitVec_shiftRight, BitVec.signExtend_eq_setWidth_of_le _ (by decide)]
  have e : ((Int32.toInt64 (8 * nI i) &&& 63).toBitVec.smod 64).toNat = 8 * i := by
    rcases (show i = 0 ∨ i = 1 ∨ i = 2 ∨ i = 3 ∨ i = 4 ∨ i = 5 ∨ i = 6 ∨ i = 7 by omega) with rfl | rfl | rfl | rfl | rfl | rfl | rfl | rfl <;> decide +kernel
  show ((w.toBitVec.sshiftRight ((Int32.toInt64 (8 * nI i) &&& 63).toBitVec.smod 64).toNat) &&& 255#64).setWidth 32 = _
  rw [e, byt_bv _ _ (by omega)]
  rfl
theorem byt_s (w : Int64) {i : Nat} (hi : i < 8) : Int64.toInt32 (((Int64.toUInt64 w >>> ((Int32.toInt64 (8 * nI i)).toUInt64 &&& Int64.toUInt64 63)).toInt64) &&& 255) = nI (byt w i) := by
  apply Int32.toBitVec_inj.mp
  rw [Int64.toBitVec_toInt32, Int64.toBitVec_and, UInt64.toBitVec_toInt64, UInt64.toBitVec_shiftRight, BitVec.signExtend_eq_setWidth_of_le _ (by decide)]
  have e : (((Int32.toInt64 (8 * nI i)).toUInt64 &&& Int64.toUInt64 63).toBitVec % 64).toNat = 8 * i := by
    rcases (show i = 0 ∨ i = 1 ∨ i = 2 ∨ i = 3 ∨ i = 4 ∨ i = 5 ∨ i = 6 ∨ i = 7 by omega) with rfl | rfl | rfl | rfl | rfl | rfl | rfl | rfl <;> decide +kernel
  show ((w.toBitVec >>> (((Int32.toInt64 (8 * nI i)).toUInt64 &&& Int64.toUInt64 63).toBitVec % 64).toNat) &&& 255#64).setWidth 32 = _
  rw [e, byt_bv2 _ _ (by omega)]
  rfl
/-- n bytes of w laid behind a tape of t: j bytes are done -/
def tapF (f : Nat → Int32) (w : Int64) (t n : Nat) : Nat → Nat → Int32
  | 0 => f
  | j + 1 => upd (tapF f w t n j) (t + j) (nI (byt w (n - 1 - j)))
theorem tapF_lo {f : Nat → Int32} {w : Int64} {t n k : Nat} (h : k < t) : ∀ j, tapF f w t n j k = f k
  | 0 => rfl
  | j + 1 => by
    show (if k = t + j then _ else _) = _
    rw [if_neg (by omega)]
    exact tapF_lo h j
theorem tapF_hi {f : Nat → Int32} {w : Int64} {t n i : Nat} : ∀ j, i < j → tapF f w t n j (t + i) = nI (byt w (n - 1 - i))
  | 0, h => absurd h (Nat.not_lt_zero i)
  | j + 1, h => by
    show (if t + i = t + j then _ else _) = _
    by_cases c : i = j
    · subst c
      rw [if_pos rfl]
    · rw [if_neg (by omega)]
      exact tapF_hi j (by omega)
theorem mset_id (M : Mem) (c i p x : Nat) : mset M c i p x (M c i p x) = M := by
  funext a b d y
  unfold mset
  split
  · next q => rw [q.1, q.2.1, q.2.2.1, q.2.2.2]
  · rfl
section TAPE
variable {X : Nat × (Nat → Int32)} {M : Mem} {Q : Option PV → Mem → Prop}
theorem s_there (h : Q (some (pI (cntU (M 5 0 1) 8))) M) : TT X kX5_there 0 [some (pR (5, 0, 0)), none, none] [] M Q := by
  have lp : ∀ d k : Nat, k + d = 8 → TT X kX5_there 4 [some (pR (5, 0, 0)), some (pI (cntU (M 5 0 1) k)), some (pI (nI k))] [] M Q := by
    intro d
    induction d with
    | zero =>
      intro k hk
      obtain rfl : k = 8 := by omega
      exact rX5_there_4 <| br_t (by decide +kernel) h
    | succ d ih =>
      intro k hk
      refine rX5_there_4 <| br_f (nI_ge (a := k) (b := 8) (by omega) (by decide)) ?_
      rw [clampI (by omega), nI_1]
      have := ih (k + 1) (by omega)
      refine ⟨vp_in_nI (by omega) (by decide), fun z => ?_, fun z => ?_⟩
      · rwa [show cntU (M 5 0 1) (k + 1) = cntU (M 5 0 1) k from if_pos z] at this
      · rwa [show cntU (M 5 0 1) (k + 1) = cntU (M 5 0 1) k + 1 from if_neg z] at this
  exact rX5_there_0 (lp 8 0 rfl)
theorem m_there {b1 : Int32} (hr : ∀ r, r < 8 → M 9 0 3 r = -1 ∨ 0 ≤ M 9 0 3 r) (h : Q (some (pI (cntU (M 9 0 3) 8))) M) : TT X kX9_count 50 [some (pR (9, 0, 0)), some (pI b1), some (pI 0), some (pI 0)] [] M Q := by
  have lp : ∀ d k : Nat, k + d = 8 → TT X kX9_count 50 [some (pR (9, 0, 0)), some (pI b1), some (pI (cntU (M 9 0 3) k)), some (pI (nI k))] [] M Q := by
    intro d
    induction d with
    | zero =>
      intro k hk
      obtain rfl : k = 8 := by omega
      exact rX9_count_50 <| br_t (by decide +kernel) h
    | succ d ih =>
      intro k hk
      refine rX9_count_50 <| br_f (nI_ge (a := k) (b := 8) (by omega) (by decide)) ?_
      rw [clampI (by omega), nI_1, Int32.add_zero]
      have := ih (k + 1) (by omega)
      rcases hr k (by omega) with z | z
      · rw [show cntU (M 9 0 3) (k + 1) = cntU (M 9 0 3) k from if_pos z] at this
        exact ⟨vp_in_nI (by omega) (by decide), br_t (by rw [z]; decide) this⟩
      · rw [show cntU (M 9 0 3) (k + 1) = cntU (M 9 0 3) k + 1 from if_neg (fun q => absurd (q ▸ z) (by decide))] at this
        exact ⟨vp_in_nI (by omega) (by decide), br_f (by rw [i32_lt, z0]; have := i32_le.mp z; rw [z0] at this; omega) this⟩
  exact lp 8 0 rfl
theorem s_broken {i n : Nat} (hi : i < 5) (hn : n ≤ 18) (e : M 6 i 0 0 = nI n) (h : Q (some (pI (sumU (M 6 i 5) n))) M) : TT X kX6_brokenOnes 0 [some (pR (6, i, 0)), none, none] [] M Q := by
  have lp : ∀ d k : Nat, k + d = n → TT X kX6_brokenOnes 4 [some (pR (6, i, 0)), some (pI (sumU (M 6 i 5) k)), some (pI (nI k))] [] M Q := by
    intro d
    induction d with
    | zero =>
      intro k hk
      obtain rfl : k = n := by omega
      exact rX6_brokenOnes_4 hi <| br_t (by rw [e]; exact nI_le (Nat.le_refl _) (by omega)) h
    | succ d ih =>
      intro k hk
      refine rX6_brokenOnes_4 hi <| br_f (by rw [e]; exact nI_ge (by omega) (by omega)) ?_
      rw [clampI (by omega), nI_1]
      exact ⟨vp_in_nI (by omega) (by decide), ih (k + 1) (by omega)⟩
  exact rX6_brokenOnes_0 hi (lp n 0 (by omega))
theorem m_broken {n : Nat} {b1 : Int32} (hn : n ≤ 18) (e : M 9 0 6 0 = nI n) (h : Q (some (pI (sumU (fun s => M 9 0 6 (4 + 3 * s)) n))) M) : TT X kX9_count 92 [some (pR (9, 0, 0)), some (pI b1), some (pI 0), some (pI 0)] [] M Q := by
  have lp : ∀ d k : Nat, k + d = n → TT X kX9_count 92 [some (pR (9, 0, 0)), some (pI b1), some (pI (sumU (fun s => M 9 0 6 (4 + 3 * s)) k)), some (pI (nI k))] [] M Q := by
    intro d
    induction d with
    | zero =>
      intro k hk
      obtain rfl : k = n := by omega
      exact rX9_count_92 <| br_t (by rw [e]; exact nI_le (Nat.le_refl _) (by omega)) h
    | succ d ih =>
      intro k hk
      refine rX9_count_92 <| br_f (by rw [e]; exact nI_ge (by omega) (by omega)) ?_
      rw [show (2 + 3 * nI k + 2 : Int32) = nI (4 + 3 * k) by rw [show 4 + 3 * k = 2 + 3 * k + 2 by omega]; exact ix2 k 2, clampI (by omega), nI_1]
      exact ⟨vp_in_nI (by omega) (by decide), ih (k + 1) (by omega)⟩
  exact lp n 0 (by omega)
theorem pair_count {F : Int32 → Int32 → Mem → Prop} {a1 : Int32} (hI : Inv M) (h : ∀ v M', Inv M' → F v v M') : TT X kX8_count 0 [some (pR (8, 0, 0)), some (pI a1)] [] M (rI fun v1 M1 => TT X kX9_count 0 [some (pR (9, 0, 0)), some (pI a1), none, none] [] M1 (rI fun v2 M2 => F v1 v2 M2)) := by
  obtain ⟨n1, n2, n3, w1, w2, w3⟩ := now_of hI
  have hT := inv_thr (v := 0) hI
  have go : ∀ (v : Int32), (F v v (mset M 9 0 0 0 0)) := fun v => h _ _ hT
  obtain ⟨-, ⟨-, -, f2, -⟩, -⟩ := hI.2.2.2.2.1
  refine rX8_count_0 ⟨fun z => ?_, fun z => ?_, fun z => ?_, fun z => ?_, fun z => ?_, fun z => ?_, fun z => ?_⟩
  · subst z
    refine s_there <| rX9_count_0 ⟨fun _ => m_there ?_ ?_, ?_, ?_, ?_, ?_, ?_, ?_⟩
    · intro r hr
      rw [mset_c3 (by decide)]
      obtain ⟨g0, g1⟩ := hI.1 r hr
      rw [← g0]
      exact g1.imp id (fun ⟨l, _, hl, _, g, _⟩ => by rw [g]; exact nl_ge hl)
    · rw [mset_c3 (by decide)]
      have : cntU (M 5 0 1) 8 = cntU (M 9 0 3) 8 := by
        have g : ∀ k, k ≤ 8 → cntU (M 5 0 1) k = cntU (M 9 0 3) k := by
          intro k
          induction k with
          | zero => intro _; rfl
          | succ k ih =>
            intro hk
            show (if _ then _ else _) = (if _ then _ else _)
            rw [ih (by omega), (hI.1 k (by omega)).1]
        exact g 8 (by decide)
      rw [← this]
      exact go _
    all_goals (intro z; exact absurd z (by decide))
  · subst z
    rw [n2]
    refine rX9_count_0 ⟨fun z => absurd z (by decide), fun _ => ⟨vin.mpr (by decide), ?_⟩, fun z => absurd z (by decide), fun z => absurd z (by decide), fun z => absurd z (by decide), fun z => absurd z (by decide), fun z => absurd z (by decide)⟩
    rw [thr6]
    show F _ (M 9 0 6 0) _
    rw [n3]
    exact go _
  · subst z
    rw [w2]
    refine rX9_count_0 ⟨fun z => absurd z (by decide), fun z => absurd z (by decide), fun _ => ⟨vin.mpr (by decide), ?_⟩, fun z => absurd z (by decide), fun z => absurd z (by decide), fun z => absurd z (by decide), fun z => absurd z (by decide)⟩
    rw [thr6]
    show F _ (M 9 0 6 1) _
    rw [w3]
    exact go _
  · subst z
    refine s_broken (by decide) n1 n2 <| rX9_count_0 ⟨fun z => absurd z (by decide), fun z => absurd z (by decide), fun z => absurd z (by decide), fun _ => m_broken n1 (by rw [thr6]; exact n3) ?_, fun z => absurd z (by decide), fun z => absurd z (by decide), fun z => absurd z (by decide)⟩
    rw [thr6]
    have : sumU (M 6 0 5) (sdOf (M 9 0 6) 0) = sumU (fun s => M 9 0 6 (4 + 3 * s)) (sdOf (M 9 0 6) 0) := sumU_c fun k hk => by
      rw [(f2 k hk).2.2, hI.2.2.2.2.1.1.1 _ (by omega)]
    rw [← this]
    exact go _
  · subst z
    refine rX0_kept_0 <| rX9_count_0 ⟨fun z => absurd z (by decide), fun z => absurd z (by decide), fun z => absurd z (by decide), fun z => absurd z (by decide), fun _ => ?_, fun z => absurd z (by decide), fun z => absurd z (by decide)⟩
    obtain ⟨k, -, e1, e2, -⟩ := hI.2.2.2.2.2.1
    rw [mset_c4 (by decide), e1, e2]
    exact go _
  · subst z
    refine rX4_bytes_0 <| rX9_count_0 ⟨fun z => absurd z (by decide), fun z => absurd z (by decide), fun z => absurd z (by decide), fun z => absurd z (by decide), fun z => absurd z (by decide), fun _ => ?_, fun z => absurd z (by decide)⟩
    obtain ⟨k, -, e1, e2, -⟩ := hI.2.1
    rw [mset_c4 (by decide), e1, e2]
    exact go _
  · refine rX9_count_0 ⟨?_, ?_, ?_, ?_, ?_, ?_, fun _ => go _⟩
    all_goals (intro y; subst y; exact absurd z (by decide))
/-! feed -/
theorem s_append {w : Int64} {n t : Nat} (hn : n ≤ 8) (ht : t + n ≤ 400) (e : M 4 0 0 1 = nI t) (h : Q (some (pI (nI (t + n)))) (mset (marr M 4 0 1 (tapF (M 4 0 1) w t n n)) 4 0 0 1 (nI (t + n)))) : TT X kX4_append 0 [some (pR (4, 0, 0)), some (pL w), none, some (pI (nI n)), none] [] M Q := by
  have lp : ∀ d j : Nat, j + d = n → TT X kX4_append 5 [some (pR (4, 0, 0)), some (pL w), none, some (pI (nI n)), some (pI (nI d - 1))] [] (mset (marr M 4 0 1 (tapF (M 4 0 1) w t n j)) 4 0 0 1 (nI (t + j))) Q := by
    intro d
    induction d with
    | zero =>
      intro j hj
      obtain rfl : j = n := by omega
      refine rX4_append_5 <| br_t (by decide +kernel) ?_
      rw [mset_at]
      exact h
    | succ d ih =>
      intro j hj
      have ed : nI (d + 1) - 1 = nI d := by rw [show (1 : Int32) = nI 1 from rfl, pk_sub (by omega)]; rfl
      rw [ed]
      refine rX4_append_5 <| br_f (nI_pos (by omega)) ?_
      rw [mset_at, clampI (by omega), byt_s w (by omega), show nI d + -1 = nI d - 1 from by rw [Int32.sub_eq_add_neg]]
      refine br_f (nI_ge (b := 400) (by omega) (by decide)) ⟨vp_in_nI (by omega) (by decide), ?_⟩
      rw [mset_c4 (by simp), mset_at, nI_1, mset_eq (mset _ _ _ _ _ _) 4 0 1, mset_c3 (by simp), marr_self, marr_mset _ _ _ _ _ _ _ _ _ _ (by decide), mset_mset, marr_marr]
      have := ih (j + 1) (by omega)
      rwa [show tapF (M 4 0 1) w t n (j + 1) = upd (tapF (M 4 0 1) w t n j) (t + j) (nI (byt w d)) from by rw [show d = n - 1 - j by omega]; rfl] at this
  refine rX4_append_0 ?_
  have := lp n 0 (by omega)
  rwa [show tapF (M 4 0 1) w t n 0 = M 4 0 1 from rfl, marr_id, Nat.add_zero, ← e, mset_id] at this
theorem m_feed {w : Int64} {n t : Nat} (hn : n ≤ 8) (ht : t + n ≤ 400) (e : M 9 0 0 11 = nI t) (h : Q (some (pI (nI (t + n)))) (mset (marr M 9 0 11 (tapF (M 9 0 11) w t n n)) 9 0 0 11 (nI (t + n)))) : TT X kX9_feed 40 [some (pR (9, 0, 0)), some (pL w), none, some (pI (nI n)), some (pI (nI n - 1))] [] M Q := by
  have lp : ∀ d j : Nat, j + d = n → TT X kX9_feed 40 [some (pR (9, 0, 0)), some (pL w), none, some (pI (nI n)), some (pI (nI d - 1))] [] (mset (marr M 9 0 11 (tapF (M 9 0 11) w t n j)) 9 0 0 11 (nI (t + j))) Q := by
    intro d
    induction d with
    | zero =>
      intro j hj
      obtain rfl : j = n := by omega
      refine rX9_feed_40 <| br_t (by decide +kernel) ?_
      rw [mset_at]
      exact h
    | succ d ih =>
      intro j hj
      have ed : nI (d + 1) - 1 = nI d := by rw [show (1 : Int32) = nI 1 from rfl, pk_sub (by omega)]; rfl
      rw [ed]
      refine rX9_feed_40 <| br_f (nI_pos (by omega)) ?_
      rw [mset_at, clampI (by omega), byt_m w (by omega), show nI d + -1 = nI d - 1 from by rw [Int32.sub_eq_add_neg]]
      refine ⟨vp_in_nI (by omega) (by decide), ?_⟩
      rw [mset_c4 (by simp), mset_at, nI_1, mset_eq (mset _ _ _ _ _ _) 9 0 11, mset_c3 (by simp), marr_self, marr_mset _ _ _ _ _ _ _ _ _ _ (by decide), mset_mset, marr_marr]
      have := ih (j + 1) (by omega)
      rwa [show tapF (M 9 0 11) w t n (j + 1) = upd (tapF (M 9 0 11) w t n j) (t + j) (nI (byt w d)) from by rw [show d = n - 1 - j by omega]; rfl] at this
  have := lp n 0 (by omega)
  rwa [show tapF (M 9 0 11) w t n 0 = M 9 0 11 from rfl, marr_id, Nat.add_zero, ← e, mset_id] at this
theorem pair_feed {F : Int32 → Int32 → Mem → Prop} {w : Int64} {a2 : Int32} (hI : Inv M) (h : ∀ v M', Inv M' → F v v M') : TT X kX8_feed 0 [some (pR (8, 0, 0)), some (pL w), none, some (pI a2)] [] M (rI fun v1 M1 => TT X kX9_feed 0 [some (pR (9, 0, 0)), some (pL w), none, some (pI a2), none] [] M1 (rI fun v2 M2 => F v1 v2 M2)) := by
  have hT := inv_thr (v := 0) hI
  by_cases c : 1 ≤ a2.toInt ∧ a2.toInt ≤ 8
  rotate_left
  · have m : TT X kX9_feed 0 [some (pR (9, 0, 0)), some (pL w), none, some (pI a2), none] [] M (rI fun v2 M2 => F (-1000001) v2 M2) := rX9_feed_0 <| s_in <| bn_f (by rw [i64]; exact c) <| h _ _ hT
    refine rX8_feed_0 ⟨fun _ => m, fun z => ⟨fun y => absurd ?_ c, fun _ => m⟩⟩
    rw [i32_lt, show (1 : Int32).toInt = 1 from rfl] at z
    rw [i32_le, show (8 : Int32).toInt = 8 from rfl] at y
    omega
  obtain ⟨n, hn, rfl⟩ : ∃ n : Nat, n ≤ 8 ∧ a2 = nI n := ⟨a2.toInt.toNat, by omega, nI_is (by omega)⟩
  rw [nI_int (by omega)] at c
  obtain ⟨t, ht, e1, e2, e3⟩ := hI.2.1
  have x1 : ¬ nI n < 1 := nI_nlt (b := 1) (by omega) (by omega)
  have x2 : nI n ≤ 8 := nI_le (b := 8) (by omega) (by omega)
  have em : (mset M 9 0 0 0 0) 9 0 0 11 = nI t := by rw [mset_c4 (by decide)]; exact e2
  have es : (400 : Int32) - nI t = nI (400 - t) := by rw [show (400 : Int32) = nI 400 from rfl, pk_sub (by omega)]
  by_cases r : t + n ≤ 400
  rotate_left
  · refine rX8_feed_0 <| br_f x1 <| br_t x2 <| rX4_hasRoomFor_0 <| br_f (nI_pos (by omega)) <| br_t (by rw [e1, es]; exact nI_lt (by omega) (by omega)) ?_
    refine nr_t rfl <| rX9_feed_0 <| s_in <| bn_t (by rw [i64, nI_int (by omega)]; exact c) <| br_f ?_ <| h _ _ hT
    rw [em, nI_add]
    exact nI_ge (a := 400) (b := t + n) (by omega) (by omega)
  refine rX8_feed_0 <| br_f x1 <| br_t x2 <| rX4_hasRoomFor_0 <| br_f (nI_pos (by omega)) <| br_f (by rw [e1, es]; exact nI_nlt (by omega) (by omega)) ?_
  refine nr_f (by decide) <| s_append hn r e1 <| rX9_feed_0 <| s_in <| bn_t (by rw [i64, nI_int (by omega)]; exact c) ?_
  have em : (mset (mset (marr M 4 0 1 (tapF (M 4 0 1) w t n n)) 4 0 0 1 (nI (t + n))) 9 0 0 0 0) 9 0 0 11 = nI t := by
    simp +decide only [mset_c4, mset_c3, mset_c2, marr_c3, marr_c2]
    exact e2
  rw [em, nI_add]
  refine br_t (nI_le (b := 400) r (by decide)) <| m_feed hn r em <| h _ _ ?_
  have h9 : (mset (mset (marr M 4 0 1 (tapF (M 4 0 1) w t n n)) 4 0 0 1 (nI (t + n))) 9 0 0 0 0) 9 0 11 = M 9 0 11 := by
    simp +decide only [mset_c4, mset_c3, mset_c2, marr_c3, marr_c2]
  rw [h9]
  have hI2 := hI
  unfold Inv at hI2 ⊢
  obtain ⟨i1, -, i3⟩ := hI2
  refine ⟨by simpa [mset_c2, mset_c3, mset_c4, mset_at, marr_c2, marr_c3] using i1, ⟨t + n, r, ?_, mset_at, fun k hk => ?_⟩, by simpa [mset_c2, mset_c3, mset_c4, mset_at, marr_c2, marr_c3] using i3⟩
  · simp +decide only [mset_c4, mset_c3, mset_c2, marr_c3, marr_c2]
    exact mset_at
  · simp +decide only [mset_c4, mset_c3, mset_c2, marr_c3, marr_c2, marr_self]
    by_cases c3 : k < t
    · rw [tapF_lo c3, tapF_lo c3]
      exact e3 k c3
    · obtain ⟨j, rfl⟩ : ∃ j, k = t + j := ⟨k - t, by omega⟩
      rw [tapF_hi _ (by omega), tapF_hi _ (by omega)]
      exact ⟨rfl, _, Nat.mod_lt _ (by decide), rfl⟩
end TAPE
