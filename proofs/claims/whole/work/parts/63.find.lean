/-! the class's way -/
section FIND
variable {X : Nat × (Nat → Int32)} {M : Mem} {Q : Option PV → Mem → Prop}
theorem s_lookUp {i x far : Nat} {rest : NF} (hi : i < 2) (hx : x < far) (hf : far ≤ 19) (hr : ∀ p, x < p → p ≤ far → M 2 i 1 p = nI (rest p) ∧ rest p < 2 ^ 31) (h : Q none (mset (mset M 2 i 1 x (nI (lkS rest far x (far - x)).1)) 2 i 2 x (nI (lkS rest far x (far - x)).2))) : TT X kX2_lookUp 0 [some (pR (2, i, 0)), some (pI (nI x)), some (pI (nI far)), none, none, none] [] M Q := by
  have L : ∀ e d : Nat, d + e = far - x → TT X kX2_lookUp 11 [some (pR (2, i, 0)), some (pI (nI x)), some (pI (nI far)), some (pI (nI (lkS rest far x d).1)), some (pI (nI (lkS rest far x d).2)), some (pI (nI (x + d + 1)))] [] M Q := by
    intro e
    induction e with
    | zero =>
      intro d hd
      obtain rfl : d = far - x := by omega
      refine rX2_lookUp_11 hi <| br_t (nI_lt (by omega) (by omega)) ?_
      rw [clampI (by omega)]
      exact ⟨vp_in_nI (by omega) (by decide), vp_in_nI (by omega) (by decide), h⟩
    | succ e ih =>
      intro d hd
      obtain ⟨r1, r2⟩ := hr (x + d + 1) (by omega) (by omega)
      have v20 : vp_in (nI (x + d + 1)) 20 := vp_in_nI (by omega) (by decide)
      have le := lkS_le rest far x d
      have iI : INF = 1000000 := rfl
      have ih := ih (d + 1) (by omega)
      refine rX2_lookUp_11 hi <| br_f (nI_nlt (by omega) (by omega)) ⟨v20, ?_⟩
      rw [clampI (by omega), r1, nI_1]
      by_cases c : rest (x + d + 1) < (lkS rest far x d).1
      · rw [show lkS rest far x (d + 1) = (rest (x + d + 1), x + d + 1) from if_pos c] at ih
        exact br_f (nI_ge c (by omega)) ⟨v20, ih⟩
      · rw [show lkS rest far x (d + 1) = lkS rest far x d from if_neg c] at ih
        exact br_t (nI_le (by omega) r2) ih
  refine rX2_lookUp_0 hi ?_
  rw [nI_1]
  exact L (far - x) 0 (by omega)
theorem s_follow {i n : Nat} {nxt : NF} (hi : i < 2) (hn : n ≤ 18) (hN : ∀ x, 1 ≤ x → x ≤ n → nxt x ≤ n + 1) : ∀ f t p : Nat, t + f = 18 → p ≤ n + 1 → ∀ (M : Mem) (Q : Option PV → Mem → Prop), M 2 i 0 3 = nI t → (∀ x, 1 ≤ x → x ≤ n → M 2 i 2 x = nI (nxt x)) → (∀ M', Oth M M' 2 i → M' 2 i 1 = M 2 i 1 → M' 2 i 0 3 = nI (t + (folw n nxt f p).length) → (∀ k, k < t → M' 2 i 3 k = M 2 i 3 k) → (∀ k, k < (folw n nxt f p).length → M' 2 i 3 (t + k) = nI ((folw n nxt f p).getD k 0)) → Q none M') → TT X kX2_follow 27 [some (pR (2, i, 0)), some (pI (nI (n + 1))), some (pI (nI p))] [] M Q := by
  intro f
  induction f with
  | zero =>
    intro t p ht hp M Q h3 hx h
    obtain rfl : t = 18 := by omega
    exact rX2_follow_27 hi <| br_t (by rw [h3]; decide +kernel) <| h M Oth.rfl' rfl h3 (fun _ _ => rfl) (fun k hk => absurd hk (Nat.not_lt_zero k))
  | succ f ih =>
    intro t p ht hp M Q h3 hx h
    refine rX2_follow_27 hi <| br_f (by rw [h3]; exact nI_ge (a := t) (b := 18) (by omega) (by decide)) ?_
    by_cases c : 0 < p ∧ p < n + 1
    · have e : folw n nxt (f + 1) p = (p - 1) :: folw n nxt f (nxt p) := if_pos c
      rw [e] at h
      refine br_f (nI_nle c.1 (by omega)) <| br_f (nI_ge c.2 (by omega)) ?_
      have e2 : mset M 2 i 3 t (nI (p - 1)) 2 i 0 3 = nI t := by rw [mset_c4 (by simp)]; exact h3
      rw [h3, clampI (by omega), show nI p - 1 = nI (p - 1) by rw [show (1 : Int32) = nI 1 from rfl, pk_sub (by omega)], e2, nI_1, clampI (by omega), mset_c3 (by simp), mset_c3 (by simp), hx p c.1 (by omega)]
      refine ⟨vp_in_nI (by omega) (by decide), vp_in_nI (by omega) (by decide), ih (t + 1) (nxt p) (by omega) (hN p c.1 (by omega)) _ _ mset_at (fun x q1 q2 => ?_) fun M' o o1 k1 k2 k3 => ?_⟩
      · rw [mset_c3 (by simp), mset_c3 (by simp)]
        exact hx x q1 q2
      · refine h M' (fun c' i' q => ?_) ?_ ?_ (fun k hk => ?_) (fun k hk => ?_)
        · rw [o c' i' q, mset_c2 q, mset_c2 q]
        · rw [o1, mset_c3 (by simp), mset_c3 (by simp)]
        · rw [k1, List.length_cons, show t + 1 + (folw n nxt f (nxt p)).length = t + ((folw n nxt f (nxt p)).length + 1) by omega]
        · rw [k2 k (by omega), mset_c3 (by simp), mset_c4 (by simp; omega)]
        · cases k with
          | zero =>
            rw [Nat.add_zero, k2 t (by omega), mset_c3 (by simp), mset_at]
            rfl
          | succ k =>
            rw [List.length_cons] at hk
            rw [show t + (k + 1) = t + 1 + k by omega, k3 k (by omega)]
            rfl
    · have e : folw n nxt (f + 1) p = [] := if_neg c
      rw [e] at h
      have fin : Q none M := h M Oth.rfl' rfl h3 (fun _ _ => rfl) (fun k hk => absurd hk (Nat.not_lt_zero k))
      by_cases z : p = 0
      · subst z
        exact br_t (by decide +kernel) fin
      · exact br_f (nI_nle (by omega) (by omega)) <| br_t (nI_le (by omega) (by omega)) fin
/-- the way found -/
def WayF (M' : Mem) (i n rc : Nat) (as br : NF) : Prop := M' 2 i 1 0 = nI (w0 n rc as br) ∧ M' 2 i 0 3 = nI (path n rc as br).length ∧ ∀ k, k < (path n rc as br).length → M' 2 i 3 k = nI ((path n rc as br).getD k 0)
theorem min_nI {a b : Nat} (ha : a < 2 ^ 31) (hb : b < 2 ^ 31) : (if nI a < nI b then nI a else nI b) = nI (min a b) := by
  by_cases c : a < b
  · rw [if_pos (nI_lt c hb), show min a b = a by omega]
  · rw [if_neg (nI_nlt (by omega) ha), show min a b = b by omega]
theorem s_find {i j n rc : Nat} {as br : NF} (hi : i < 2) (hj : j < 5) (hn : n ≤ 18) (e : M 6 j 0 0 = nI n) (h1 : 1 ≤ rc) (h3 : rc ≤ 3) (hs : ∀ s, s < n → M 6 j 4 s = nI (as s) ∧ M 6 j 5 s = nI (br s) ∧ as s ≤ 20 ∧ br s ≤ 1) (h : ∀ M', Oth M M' 2 i → WayF M' i n rc as br → Q none M') : TT X kX2_find 0 [some (pR (2, i, 0)), some (pR (6, j, 0)), some (pI (nI rc)), none, none] [] M Q := by
  have ha : ∀ s, s < n → as s ≤ 20 := fun s q => (hs s q).2.2.1
  have iI : INF = 1000000 := rfl
  have L : ∀ x : Nat, x ≤ n → ∀ M', Oth M M' 2 i → (∀ p, x < p → p ≤ n + 1 → M' 2 i 1 p = nI (wW n rc as br p)) → (∀ p, x < p → p ≤ n → M' 2 i 2 p = nI (nx n rc as br p)) → TT X kX2_find 31 [some (pR (2, i, 0)), some (pR (6, j, 0)), some (pI (nI rc)), some (pI (nI (n + 1))), some (pI (nI x))] [] M' Q := by
    intro x
    induction x with
    | zero =>
      intro _ M' o r1 r2
      refine rX2_find_31 hi hj <| br_t (by decide +kernel) ?_
      rw [min_nI (by omega) (by omega)]
      have hfar : min rc (n + 1) = fr n rc 0 := by unfold fr; omega
      rw [hfar]
      have b1 : 0 < fr n rc 0 := by unfold fr; omega
      have b2 : fr n rc 0 ≤ n + 1 := by unfold fr; omega
      refine s_lookUp (rest := wW n rc as br) hi b1 (by omega) (fun p q1 q2 => ⟨r1 p q1 (by omega), ?_⟩) ?_
      · have := wW_le (rc := rc) (br := br) ha (x := p) (by omega) (by omega)
        omega
      have e1 : lkS (wW n rc as br) (fr n rc 0) 0 (fr n rc 0 - 0) = Lk n rc as br 0 := rfl
      rw [e1, ← w0_Lk, ← nx_0]
      generalize hM1 : mset (mset M' 2 i 1 0 (nI (w0 n rc as br))) 2 i 2 0 (nI (nx n rc as br 0)) = M1
      have o1 : Oth M M1 2 i := by subst hM1; exact Oth.set (Oth.set o)
      have f1 : M1 2 i 1 0 = nI (w0 n rc as br) := by subst hM1; rw [mset_c3 (by simp), mset_at]
      have f2 : M1 2 i 2 0 = nI (nx n rc as br 0) := by subst hM1; rw [mset_at]
      have f3 : ∀ p, 1 ≤ p → p ≤ n → M1 2 i 2 p = nI (nx n rc as br p) := fun p q1 q2 => by
        subst hM1
        rw [mset_c4 (by simp; omega), mset_c3 (by simp)]
        exact r2 p q1 q2
      have nl := nx_le (n := n) (rc := rc) (as := as) (br := br) (x := 0) h1 (Nat.zero_le n)
      have wl : w0 n rc as br ≤ INF := by rw [w0_Lk]; exact Lk_le
      refine rX2_follow_0 hi ?_
      have g1 : mset M1 2 i 0 3 0 2 i 1 0 = nI (w0 n rc as br) := by rw [mset_c3 (by simp)]; exact f1
      have g2 : mset M1 2 i 0 3 0 2 i 2 0 = nI (nx n rc as br 0) := by rw [mset_c3 (by simp)]; exact f2
      rw [g1, g2]
      have fin : ∀ p, p ≤ n + 1 → folw n (nx n rc as br) 18 p = path n rc as br → TT X kX2_follow 27 [some (pR (2, i, 0)), some (pI (nI (n + 1))), some (pI (nI p))] [] (mset M1 2 i 0 3 0) (rV fun M3 => Q none M3) := by
        intro p hp ep
        refine s_follow (nxt := nx n rc as br) hi hn (fun x q1 q2 => (nx_le h1 q2).2) 18 0 p rfl hp _ _ mset_at (fun x q1 q2 => ?_) fun M2 o2 p1 p2 p3 p4 => ?_
        · rw [mset_c3 (by simp)]; exact f3 x q1 q2
        · rw [ep] at p2 p4
          rw [Nat.zero_add] at p2
          refine h M2 (fun c' i' q => ?_) ⟨?_, p2, fun k hk => ?_⟩
          · rw [o2 c' i' q, mset_c2 q]; exact o1 c' i' q
          · rw [p1]; exact g1
          · have := p4 k hk
            rwa [Nat.zero_add] at this
      by_cases c : w0 n rc as br < INF
      · refine br_f (nI_ge (b := 1000000) (by omega) (by decide)) <| fin _ nl.2 ?_
        unfold path
        rw [if_pos c]
      · refine br_t (nI_le (a := 1000000) (by omega) (by omega)) <| fin (n + 1) (Nat.le_refl _) ?_
        unfold path
        rw [if_neg c]
        show (if 0 < n + 1 ∧ n + 1 < n + 1 then _ else _) = _
        rw [if_neg (by omega)]
    | succ x ih =>
      intro hx M' o r1 r2
      refine rX2_find_31 hi hj <| br_f (nI_nle (by omega) (by omega)) ?_
      rw [nI_add, min_nI (by omega) (by omega)]
      have hfar : min (x + 1 + rc) (n + 1) = fr n rc (x + 1) := by unfold fr; omega
      rw [hfar]
      have b1 : x + 1 < fr n rc (x + 1) := by unfold fr; omega
      have b2 : fr n rc (x + 1) ≤ n + 1 := by unfold fr; omega
      refine s_lookUp (rest := wW n rc as br) hi b1 (by omega) (fun p q1 q2 => ⟨r1 p q1 (by omega), ?_⟩) ?_
      · have := wW_le (rc := rc) (br := br) ha (x := p) (by omega) (by omega)
        omega
      have e1 : lkS (wW n rc as br) (fr n rc (x + 1)) (x + 1) (fr n rc (x + 1) - (x + 1)) = Lk n rc as br (x + 1) := rfl
      rw [e1, ← nx_Lk hx]
      show _ ∧ _
      have o6 : M' 6 j = M 6 j := o 6 j (by omega)
      obtain ⟨s1, s2, s3, s4⟩ := hs x (by omega)
      rw [nI_pred, clampI (by omega)]
      simp only [mset_c2 (show ¬ (6 = 2 ∧ j = i) by omega)]
      rw [o6, s1, s2]
      have v18 : vp_in (nI x) 18 := vp_in_nI (by omega) (by decide)
      have v20 : vp_in (nI (x + 1)) 20 := vp_in_nI (by omega) (by decide)
      refine ⟨v18, v18, rX2_weigh_0 hi ?_⟩
      rw [clampI (by omega), mset_c3 (c' := 2) (i' := i) (p' := 1) (by simp), mset_at]
      have hw := (wW_rec (n := n) (rc := rc) (as := as) (br := br) (x := x + 1) (by omega) hx).1
      rw [Nat.add_sub_cancel] at hw
      have ll := Lk_le (n := n) (rc := rc) (as := as) (br := br) (x := x + 1)
      have em : nI (x + 1) + -1 = nI x := pk_m1 x
      have go : ∀ M2, Oth M M2 2 i → M2 2 i 1 (x + 1) = nI (wW n rc as br (x + 1)) → M2 2 i 2 (x + 1) = nI (nx n rc as br (x + 1)) → (∀ p, x + 1 < p → M2 2 i 1 p = M' 2 i 1 p ∧ M2 2 i 2 p = M' 2 i 2 p) → TT X kX2_find 31 [some (pR (2, i, 0)), some (pR (6, j, 0)), some (pI (nI rc)), some (pI (nI (n + 1))), some (pI (nI (x + 1) + -1))] [] M2 Q := by
        intro M2 o2 t1 t2 t3
        rw [em]
        refine ih (by omega) M2 o2 (fun p q1 q2 => ?_) (fun p q1 q2 => ?_)
        · by_cases z : p = x + 1
          · subst z; exact t1
          · rw [(t3 p (by omega)).1]; exact r1 p (by omega) q2
        · by_cases z : p = x + 1
          · subst z; exact t2
          · rw [(t3 p (by omega)).2]; exact r2 p (by omega) q2
      have oo : Oth M (mset (mset M' 2 i 1 (x + 1) (nI (Lk n rc as br (x + 1)).1)) 2 i 2 (x + 1) (nI (nx n rc as br (x + 1)))) 2 i := Oth.set (Oth.set o)
      unfold wg at hw
      by_cases cb : br x = 0
      · rw [cb]
        rw [if_neg (by omega)] at hw
        by_cases cl : (Lk n rc as br (x + 1)).1 < INF
        · rw [if_pos cl] at hw
          refine br_t rfl ⟨v20, br_f (nI_ge (b := 1000000) (by omega) (by decide)) ⟨v20, v20, ?_⟩⟩
          rw [show nI (Lk n rc as br (x + 1)).1 + (nI (as x) * 32 + 1) = nI (wW n rc as br (x + 1)) by rw [hw, show (32 : Int32) = nI 32 from rfl, pk_mul, nI_1, nI_add]]
          refine go _ (Oth.set oo) mset_at ?_ (fun p q => ⟨?_, ?_⟩)
          · rw [mset_c3 (by simp), mset_at]
          · rw [mset_c4 (by simp; omega), mset_c3 (by simp), mset_c4 (by simp; omega)]
          · rw [mset_c3 (by simp), mset_c4 (by simp; omega), mset_c3 (by simp)]
        · rw [if_neg cl] at hw
          refine br_t rfl ⟨v20, br_t (nI_le (a := 1000000) (by omega) (by omega)) ?_⟩
          refine go _ oo ?_ mset_at (fun p q => ⟨?_, ?_⟩)
          · rw [mset_c3 (by simp), mset_at, hw]
          · rw [mset_c3 (by simp), mset_c4 (by simp; omega)]
          · rw [mset_c4 (by simp; omega), mset_c3 (by simp)]
      · rw [if_pos cb] at hw
        refine br_f (nI_ne0 (by omega) (by omega)) ⟨v20, ?_⟩
        rw [show (1000000 : Int32) = nI (wW n rc as br (x + 1)) by rw [hw]; rfl]
        refine go _ (Oth.set oo) mset_at ?_ (fun p q => ⟨?_, ?_⟩)
        · rw [mset_c3 (by simp), mset_at]
        · rw [mset_c4 (by simp; omega), mset_c3 (by simp), mset_c4 (by simp; omega)]
        · rw [mset_c3 (by simp), mset_c4 (by simp; omega), mset_c3 (by simp)]
  refine rX2_find_0 hi hj ?_
  have em : ((if 18 < M 6 j 0 0 then 18 else M 6 j 0 0) + 1 : Int32) = nI (n + 1) := by
    rw [e, if_neg (show ¬ (18 : Int32) < nI n from nI_nlt (a := 18) hn (by decide)), nI_1]
  rw [em, clampI (by omega), nI_pred]
  have v20 : vp_in (nI (n + 1)) 20 := vp_in_nI (by omega) (by decide)
  refine ⟨v20, v20, L n (Nat.le_refl n) _ (Oth.set (Oth.set Oth.rfl')) (fun p q1 q2 => ?_) (fun p q1 q2 => by omega)⟩
  obtain rfl : p = n + 1 := by omega
  rw [mset_c3 (by simp), mset_at, wW_top]
  rfl
end FIND
