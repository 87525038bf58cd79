section ACTS2
variable {X : Nat × (Nat → Int32)} {M : Mem} {Q : Option PV → Mem → Prop}
def ActX (M M' : Mem) (n c s : Nat) (v : Int32) : Prop :=
  (∀ c' i', ¬ (c' = 0 ∧ i' = 0) → ¬ (c' = 6 ∧ i' = 0) → ¬ (c' = 7 ∧ i' = 0) → M' c' i' = M c' i') ∧
  (M' 6 0 = oneU (M 6 0) (3 + fOf c) s v) ∧
  (M' 7 0 0 2 = 0) ∧
  (M' 0 0 0 3 = nI (min n 23 + 1)) ∧
  (∀ t, t < min n 23 → M' 0 0 1 t = M 0 0 1 (t + (n - min n 23)) ∧ M' 0 0 2 t = M 0 0 2 (t + (n - min n 23)) ∧ M' 0 0 3 t = M 0 0 3 (t + (n - min n 23))) ∧
  (M' 0 0 1 (min n 23) = nI c) ∧
  (M' 0 0 2 (min n 23) = nI s) ∧
  (M' 0 0 3 (min n 23) = M 6 0 (3 + fOf c) s)
theorem ActX.o {M M' : Mem} {n c s : Nat} {v : Int32} (h : ActX M M' n c s v) : ∀ c' i', ¬ (c' = 0 ∧ i' = 0) → ¬ (c' = 6 ∧ i' = 0) → ¬ (c' = 7 ∧ i' = 0) → M' c' i' = M c' i' := h.1
theorem ActX.f {M M' : Mem} {n c s : Nat} {v : Int32} (h : ActX M M' n c s v) : M' 6 0 = oneU (M 6 0) (3 + fOf c) s v := h.2.1
theorem ActX.t {M M' : Mem} {n c s : Nat} {v : Int32} (h : ActX M M' n c s v) : M' 7 0 0 2 = 0 := h.2.2.1
theorem ActX.n {M M' : Mem} {n c s : Nat} {v : Int32} (h : ActX M M' n c s v) : M' 0 0 0 3 = nI (min n 23 + 1) := h.2.2.2.1
theorem ActX.a {M M' : Mem} {n c s : Nat} {v : Int32} (h : ActX M M' n c s v) : ∀ t, t < min n 23 → M' 0 0 1 t = M 0 0 1 (t + (n - min n 23)) ∧ M' 0 0 2 t = M 0 0 2 (t + (n - min n 23)) ∧ M' 0 0 3 t = M 0 0 3 (t + (n - min n 23)) := h.2.2.2.2.1
theorem ActX.w {M M' : Mem} {n c s : Nat} {v : Int32} (h : ActX M M' n c s v) : M' 0 0 1 (min n 23) = nI c := h.2.2.2.2.2.1
theorem ActX.s {M M' : Mem} {n c s : Nat} {v : Int32} (h : ActX M M' n c s v) : M' 0 0 2 (min n 23) = nI s := h.2.2.2.2.2.2.1
theorem ActX.b {M M' : Mem} {n c s : Nat} {v : Int32} (h : ActX M M' n c s v) : M' 0 0 3 (min n 23) = M 6 0 (3 + fOf c) s := h.2.2.2.2.2.2.2
theorem s_act {N n c s : Nat} {v : Int32} (hN : N ≤ 18) (e : M 6 0 0 0 = nI N) (hs : s < N) (hc : c < 3) (hn : n ≤ 24) (en : M 0 0 0 3 = nI n) (h : ∀ M', ActX M M' n c s v → Q (some (pI (M 6 0 (3 + fOf c) s))) M') : TT X kX8_act 0 [some (pR (8, 0, 0)), some (pI (nI c)), some (pI (nI s)), some (pI v), none] [] M Q := by
  refine rX8_act_0 <| s_change (by decide) hN e hs hc <| s_keep hn (by rw [mset_c4 (by simp)]; exact en) fun M' o k1 k2 k3 k4 k5 => rX7_forget_0 <| h _ ?_
  refine ⟨fun c' i' q1 q2 q3 => ?_, ?_, mset_at, ?_, fun t ht => ?_, ?_, ?_, ?_⟩
  · rw [mset_c2 q3, o c' i' q1, mset_c2 q2]
  · rw [mset_c2 (by decide), o 6 0 (by decide), mset_one]
  · rw [mset_c2 (by decide)]; exact k1
  · rw [mset_c2 (by decide)]
    have := k2 t ht
    simpa [mset_c2] using this
  · rw [mset_c2 (by decide)]; exact k3
  · rw [mset_c2 (by decide)]; exact k4
  · rw [mset_c2 (by decide)]; exact k5
theorem m_becomes {n c s : Nat} {v : Int32} (hs : s < 18) (hn : n ≤ 24) (en : M 9 0 0 9 = nI n) (h : ∀ w : Nat → Int32, (∀ t x, t < min n 23 → x < 80 → w (80 * t + x) = M 9 0 9 (80 * (t + (n - min n 23)) + x)) → (∀ x, x < 80 → w (80 * min n 23 + x) = M 9 0 6 x) → Q (some (pI (M 9 0 6 (2 + 3 * s + fOf c)))) (mset (mset (marr M 9 0 9 w) 9 0 0 9 (nI (min n 23 + 1))) 9 0 6 (2 + 3 * s + fOf c) v)) : TT X kX9_becomes 0 [some (pR (9, 0, 0)), some (pI (nI s)), some (pI (nI (fOf c))), some (pI v), none] [] M Q := by
  refine rX9_becomes_0 <| m_keep hn en fun w h1 h2 => ?_
  show _ ∧ _
  have f2 := fOf_le (c := c)
  have v80 : vp_in (nI (2 + 3 * s + fOf c)) 80 := vp_in_nI (by omega) (by decide)
  rw [ix2, clampI (by omega)]
  refine ⟨v80, v80, ?_⟩
  rw [show (mset (marr M 9 0 9 w) 9 0 0 9 (nI (min n 23 + 1))) 9 0 6 = M 9 0 6 by simp +decide only [mset_c3, marr_c3]]
  exact h w h1 h2
theorem inv_act {M1 : Mem} {n c s v : Nat} {w : Nat → Int32} (hI : Inv M) (en : M 0 0 0 3 = nI n) (hn : n ≤ 24) (hc : c < 3) (hs : s < sdOf (M 9 0 6) 0) (hv : v ≤ bOf c) (hA : ActX M M1 n c s (nI v)) (h1 : ∀ t x, t < min n 23 → x < 80 → w (80 * t + x) = M 9 0 9 (80 * (t + (n - min n 23)) + x)) (h2 : ∀ x, x < 80 → w (80 * min n 23 + x) = M 9 0 6 x) : Inv (mset (mset (marr (mset M1 9 0 0 0 0) 9 0 9 w) 9 0 0 9 (nI (min n 23 + 1))) 9 0 6 (2 + 3 * s + fOf c) (nI v)) := by
  have f2 := fOf_le (c := c)
  have b2 := bOf_le (c := c)
  have hN := hI.2.2.2.2.1
  obtain ⟨i1, i2, i3, i4, i5, ⟨n', hn', a1, a2, a3⟩, i7, i8, i9⟩ := hI
  obtain rfl : n = n' := (nI_eq (by omega) (by omega)).mp (en.symm.trans a1)
  have s18 : s < 18 := by have := i5.1.2.1; omega
  have m5 := hA.o 5 0 (by decide) (by decide) (by decide)
  have m4 := hA.o 4 0 (by decide) (by decide) (by decide)
  have m8 := hA.o 8 0 (by decide) (by decide) (by decide)
  have m1 := hA.o 1 0 (by decide) (by decide) (by decide)
  have m9 := hA.o 9 0 (by decide) (by decide) (by decide)
  have m6 : ∀ k, M1 6 (k + 3) = M 6 (k + 3) := fun k => hA.o 6 (k + 3) (by omega) (by omega) (by omega)
  unfold Inv
  simp only [mset_c2, mset_c3, mset_c4, marr_c2, marr_c3, mset_self, mset_at, marr_self, Nat.reduceEqDiff, false_and, and_false, not_false_eq_true, reduceCtorEq, true_and, and_true, m5, m4, m8, m1, m9, m6, hA.f, hA.t, hA.n]
  refine ⟨i1, i2, i3, i4, ?_, ?_, i7, i8, Or.inl hA.t⟩
  · exact now_upd i5 hc hs hv
  · refine ⟨min n 23 + 1, by omega, rfl, rfl, fun t ht => ?_⟩
    rw [sd_upd (by omega), show (fun y => if y = 2 + 3 * s + fOf c then v else sdOf (M 9 0 6) y) 0 = sdOf (M 9 0 6) 0 from if_neg (by omega)]
    by_cases z : t = min n 23
    · subst z
      obtain ⟨⟨j1, j2⟩, ⟨-, -, k2, -⟩, -⟩ := hN
      obtain ⟨x1, x2, x3⟩ := k2 s hs
      obtain ⟨y1, y2, y3⟩ := j2.2.2.1 s hs
      refine ⟨c, s, sdOf (M 9 0 6) (2 + 3 * s + fOf c), hc, hs, ?_, hA.w, hA.s, ?_, fun x hx => ?_⟩
      · rcases (show c = 0 ∨ c = 1 ∨ c = 2 by omega) with rfl | rfl | rfl
        · show sdOf _ (2 + 3 * s + 1) ≤ 20
          rw [show 2 + 3 * s + 1 = 3 + 3 * s by omega]; exact y2
        · exact y1
        · show sdOf _ (2 + 3 * s + 2) ≤ 1
          rw [show 2 + 3 * s + 2 = 4 + 3 * s by omega]; exact y3
      · rw [hA.b]
        rcases (show c = 0 ∨ c = 1 ∨ c = 2 by omega) with rfl | rfl | rfl
        · show M 6 0 4 s = nI (sdOf _ (2 + 3 * s + 1))
          rw [show 2 + 3 * s + 1 = 3 + 3 * s by omega]; exact x2
        · exact x1
        · show M 6 0 5 s = nI (sdOf _ (2 + 3 * s + 2))
          rw [show 2 + 3 * s + 2 = 4 + 3 * s by omega]; exact x3
      · rw [h2 x hx]
        by_cases q : x = 2 + 3 * s + fOf c
        · rw [if_pos q, ← q]
          exact j1 x hx
        · rw [if_neg q, if_pos rfl]
          unfold upd
          rw [if_neg q]
    · have ht' : t < min n 23 := by omega
      obtain ⟨c', s', b', g1, g2, g3, g4, g5, g6, g7⟩ := a3 (t + (n - min n 23)) (by omega)
      obtain ⟨p1, p2, p3⟩ := hA.a t ht'
      refine ⟨c', s', b', g1, g2, g3, p1.trans g4, p2.trans g5, p3.trans g6, fun x hx => ?_⟩
      rw [h1 t x ht' hx, g7 x hx]
      by_cases q : x = 2 + 3 * s' + fOf c'
      · rw [if_pos q, if_pos q]
      · rw [if_neg q, if_neg q, if_neg (show ¬ t + 1 = min n 23 + 1 by omega)]
        by_cases r : t + (n - min n 23) + 1 = n
        · rw [if_pos r, show t + 1 = min n 23 by omega, h2 x hx]
        · rw [if_neg r, h1 (t + 1) x (by omega) hx, show t + (n - min n 23) + 1 = t + 1 + (n - min n 23) by omega]
theorem had_eq {c s : Nat} (hI : Inv M) (hc : c < 3) (hs : s < sdOf (M 9 0 6) 0) : M 6 0 (3 + fOf c) s = M 9 0 6 (2 + 3 * s + fOf c) := by
  obtain ⟨⟨j1, j2⟩, ⟨-, -, k2, -⟩, -⟩ := hI.2.2.2.2.1
  have f2 := fOf_le (c := c)
  have := j2.1
  obtain ⟨x1, x2, x3⟩ := k2 s hs
  rw [j1 _ (by omega)]
  rcases (show c = 0 ∨ c = 1 ∨ c = 2 by omega) with rfl | rfl | rfl
  · show M 6 0 4 s = nI (sdOf _ (2 + 3 * s + 1))
    rw [show 2 + 3 * s + 1 = 3 + 3 * s by omega]; exact x2
  · exact x1
  · show M 6 0 5 s = nI (sdOf _ (2 + 3 * s + 2))
    rw [show 2 + 3 * s + 2 = 4 + 3 * s by omega]; exact x3
/-- both sides of one act -/
theorem pair_act {F : Int32 → Int32 → Mem → Prop} {c s v : Nat} {G : Int32 → Mem → Prop} (hI : Inv M) (hc : c < 3) (hs : s < sdOf (M 9 0 6) 0) (hv : v ≤ bOf c) (h : ∀ v M', Inv M' → F v v M') (hG : ∀ u M1, M1 9 0 = M 9 0 → TT X kX9_becomes 0 [some (pR (9, 0, 0)), some (pI (nI s)), some (pI (nI (fOf c))), some (pI (nI v)), none] [] (mset M1 9 0 0 0 0) (rI fun v6 M5 => F u v6 M5) → G u M1) : TT X kX8_act 0 [some (pR (8, 0, 0)), some (pI (nI c)), some (pI (nI s)), some (pI (nI v)), none] [] M (rI G) := by
  obtain ⟨n1, n2, n3, -⟩ := now_of hI
  obtain ⟨n, hn, a1, a2, -⟩ := hI.2.2.2.2.2.1
  refine s_act n1 n2 hs hc hn a1 fun M1 hA => hG _ _ (hA.o 9 0 (by decide) (by decide) (by decide)) ?_
  have m9 : (mset M1 9 0 0 0 0) 9 0 6 = M 9 0 6 := by rw [mset_c3 (by decide), hA.o 9 0 (by decide) (by decide) (by decide)]
  have m99 : (mset M1 9 0 0 0 0) 9 0 9 = M 9 0 9 := by rw [mset_c3 (by decide), hA.o 9 0 (by decide) (by decide) (by decide)]
  refine m_becomes (n := n) (by omega) hn (by rw [mset_c4 (by decide), hA.o 9 0 (by decide) (by decide) (by decide)]; exact a2) fun w h1 h2 => ?_
  rw [m9, ← had_eq hI hc hs]
  refine h _ _ (inv_act hI a1 hn hc hs hv hA (fun t x ht hx => ?_) (fun x hx => ?_))
  · rw [h1 t x ht hx, m99]
  · rw [h2 x hx, m9]
theorem pair_price {F : Int32 → Int32 → Mem → Prop} {a1 a2 : Int32} (hI : Inv M) (h : ∀ v M', Inv M' → F v v M') : TT X kX8_price 0 [some (pR (8, 0, 0)), some (pI a1), some (pI a2)] [] M (rI fun v1 M1 => TT X kX9_price 0 [some (pR (9, 0, 0)), some (pI a1), some (pI a2)] [] M1 (rI fun v2 M2 => F v1 v2 M2)) := by
  obtain ⟨n1, n2, n3, -⟩ := now_of hI
  have hT := inv_thr (v := 0) hI
  by_cases c1 : 0 ≤ a1.toInt ∧ a1.toInt < (sdOf (M 9 0 6) 0 : Nat)
  rotate_left
  · exact rX8_price_0 <| s_hasStep (by decide) (by omega) n2 <| bz_f c1 <| rX9_price_0 <| m_isStep (by omega) (by rw [thr6]; exact n3) <| bz_f c1 <| h _ _ hT
  by_cases c2 : 0 ≤ a2.toInt ∧ a2.toInt ≤ 20
  rotate_left
  · have m : TT X kX9_price 0 [some (pR (9, 0, 0)), some (pI a1), some (pI a2)] [] M (rI fun v2 M2 => F (-1000001) v2 M2) := rX9_price_0 <| m_isStep (by omega) (by rw [thr6]; exact n3) <| bz_t c1 <| s_in <| bz_f (by rw [i64]; exact c2) <| h _ _ hT
    refine rX8_price_0 <| s_hasStep (by decide) (by omega) n2 <| bz_t c1 ⟨fun _ => m, fun z => ⟨fun y => absurd ?_ c2, fun _ => m⟩⟩
    rw [i32_lt, z0] at z
    rw [i32_le, show (20 : Int32).toInt = 20 from rfl] at y
    omega
  obtain ⟨s, hs, rfl⟩ : ∃ s : Nat, s < sdOf (M 9 0 6) 0 ∧ a1 = nI s := ⟨a1.toInt.toNat, by omega, nI_is (by omega)⟩
  obtain ⟨v, hv, rfl⟩ : ∃ v : Nat, v ≤ 20 ∧ a2 = nI v := ⟨a2.toInt.toNat, by omega, nI_is (by omega)⟩
  refine rX8_price_0 <| s_hasStep (by decide) (by omega) n2 <| bz_t c1 <| br_f (nI_pos (by omega)) <| br_t (nI_le (b := 20) hv (by decide)) <| pair_act (c := 0) hI (by decide) hs hv h fun u M1 e9 hb => ?_
  exact rX9_price_0 <| m_isStep (by omega) (by rw [thr6, e9]; exact n3) <| bz_t c1 <| s_in <| bz_t (by rw [i64]; exact c2) hb
theorem pair_crack {F : Int32 → Int32 → Mem → Prop} {a1 a2 : Int32} (hI : Inv M) (h : ∀ v M', Inv M' → F v v M') : TT X kX8_crack 0 [some (pR (8, 0, 0)), some (pI a1), some (pI a2)] [] M (rI fun v1 M1 => TT X kX9_crack 0 [some (pR (9, 0, 0)), some (pI a1), some (pI a2)] [] M1 (rI fun v2 M2 => F v1 v2 M2)) := by
  obtain ⟨n1, n2, n3, -⟩ := now_of hI
  have hT := inv_thr (v := 0) hI
  by_cases c1 : 0 ≤ a1.toInt ∧ a1.toInt < (sdOf (M 9 0 6) 0 : Nat)
  rotate_left
  · exact rX8_crack_0 <| s_hasStep (by decide) (by omega) n2 <| bz_f c1 <| rX9_crack_0 <| m_isStep (by omega) (by rw [thr6]; exact n3) <| bz_f c1 <| h _ _ hT
  by_cases c2 : 0 ≤ a2.toInt ∧ a2.toInt ≤ 1
  rotate_left
  · have m : TT X kX9_crack 0 [some (pR (9, 0, 0)), some (pI a1), some (pI a2)] [] M (rI fun v2 M2 => F (-1000001) v2 M2) := rX9_crack_0 <| m_isStep (by omega) (by rw [thr6]; exact n3) <| bz_t c1 <| s_in <| bz_f (by rw [i64]; exact c2) <| h _ _ hT
    refine rX8_crack_0 <| s_hasStep (by decide) (by omega) n2 <| bz_t c1 ⟨fun _ => m, fun z => ⟨fun y => absurd ?_ c2, fun _ => m⟩⟩
    rw [i32_lt, z0] at z
    rw [i32_le, show (1 : Int32).toInt = 1 from rfl] at y
    omega
  obtain ⟨s, hs, rfl⟩ : ∃ s : Nat, s < sdOf (M 9 0 6) 0 ∧ a1 = nI s := ⟨a1.toInt.toNat, by omega, nI_is (by omega)⟩
  obtain ⟨v, hv, rfl⟩ : ∃ v : Nat, v ≤ 1 ∧ a2 = nI v := ⟨a2.toInt.toNat, by omega, nI_is (by omega)⟩
  refine rX8_crack_0 <| s_hasStep (by decide) (by omega) n2 <| bz_t c1 <| br_f (nI_pos (by omega)) <| br_t (nI_le (b := 1) hv (by decide)) <| pair_act (c := 2) hI (by decide) hs hv h fun u M1 e9 hb => ?_
  exact rX9_crack_0 <| m_isStep (by omega) (by rw [thr6, e9]; exact n3) <| bz_t c1 <| s_in <| bz_t (by rw [i64]; exact c2) hb
theorem pair_sell {F : Int32 → Int32 → Mem → Prop} {a1 a2 : Int32} (hI : Inv M) (h : ∀ v M', Inv M' → F v v M') : TT X kX8_sell 0 [some (pR (8, 0, 0)), some (pI a1), some (pI a2)] [] M (rI fun v1 M1 => TT X kX9_sell 0 [some (pR (9, 0, 0)), some (pI a1), some (pI a2)] [] M1 (rI fun v2 M2 => F v1 v2 M2)) := by
  obtain ⟨n1, n2, n3, -⟩ := now_of hI
  have hT := inv_thr (v := 0) hI
  by_cases c1 : 0 ≤ a1.toInt ∧ a1.toInt < (sdOf (M 9 0 6) 0 : Nat)
  rotate_left
  · exact rX8_sell_0 <| s_hasStep (by decide) (by omega) n2 <| bz_f c1 <| rX9_sell_0 <| m_isStep (by omega) (by rw [thr6]; exact n3) <| bz_f c1 <| h _ _ hT
  by_cases c2 : 0 ≤ a2.toInt ∧ a2.toInt < 5
  rotate_left
  · exact rX8_sell_0 <| s_hasStep (by decide) (by omega) n2 <| bz_t c1 <| s_isOwner <| bz_f c2 <| rX9_sell_0 <| m_isStep (by omega) (by rw [thr6]; exact n3) <| bz_t c1 <| m_isOwner <| bz_f c2 <| h _ _ hT
  obtain ⟨s, hs, rfl⟩ : ∃ s : Nat, s < sdOf (M 9 0 6) 0 ∧ a1 = nI s := ⟨a1.toInt.toNat, by omega, nI_is (by omega)⟩
  obtain ⟨v, hv, rfl⟩ : ∃ v : Nat, v ≤ 4 ∧ a2 = nI v := ⟨a2.toInt.toNat, by omega, nI_is (by omega)⟩
  have v18 : vp_in (nI s) 18 := vp_in_nI (by omega) (by decide)
  have cl : Int32.toNatClampNeg (nI s) = s := clampI (by omega)
  have v80 : vp_in (nI (2 + 3 * s)) 80 := vp_in_nI (by omega) (by decide)
  have he : M 6 0 3 s = M 9 0 6 (2 + 3 * s) := had_eq (c := 1) hI (by decide) hs
  refine rX8_sell_0 <| s_hasStep (by decide) (by omega) n2 <| bz_t c1 <| s_isOwner <| bz_t c2 ⟨v18, ?_⟩
  rw [cl]
  by_cases c3 : M 6 0 3 s = nI v
  · refine nr_t c3 <| rX9_sell_0 <| m_isStep (by omega) (by rw [thr6]; exact n3) <| bz_t c1 <| m_isOwner <| bz_t c2 ?_
    rw [ix1, clampI (by omega), thr6, ← he]
    exact ⟨v80, br_t c3 <| h _ _ hT⟩
  · refine nr_f c3 <| pair_act (c := 1) hI (by decide) hs hv h fun u M1 e9 hb => ?_
    refine rX9_sell_0 <| m_isStep (by omega) (by rw [thr6, e9]; exact n3) <| bz_t c1 <| m_isOwner <| bz_t c2 ?_
    rw [ix1, clampI (by omega), thr6, e9, ← he]
    exact ⟨v80, br_f c3 hb⟩
end ACTS2
