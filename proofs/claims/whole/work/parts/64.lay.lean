/-! the reference's way -/
def O9 (M M' : Mem) (ps : List Nat) : Prop := (∀ c i, ¬ (c = 9 ∧ i = 0) → M' c i = M c i) ∧ ∀ p, p ∉ ps → M' 9 0 p = M 9 0 p
theorem O9.rfl' {M : Mem} {ps : List Nat} : O9 M M ps := ⟨fun _ _ _ => rfl, fun _ _ => rfl⟩
theorem O9.set {M M' : Mem} {ps : List Nat} {p x : Nat} {v : Int32} (h : O9 M M' ps) (hp : p ∈ ps) : O9 M (mset M' 9 0 p x v) ps := ⟨fun c i q => by rw [mset_c2 q]; exact h.1 c i q, fun p' q => by rw [mset_c3 (c' := 9) (i' := 0) (p' := p') (fun e => q (by rw [e.2.2]; exact hp))]; exact h.2 p' q⟩
theorem O9.trans {M M1 M2 : Mem} {ps : List Nat} (h : O9 M M1 ps) (h2 : O9 M1 M2 ps) : O9 M M2 ps := ⟨fun c i q => (h2.1 c i q).trans (h.1 c i q), fun p q => (h2.2 p q).trans (h.2 p q)⟩
theorem O9.sub {M M' : Mem} {ps qs : List Nat} (h : O9 M M' ps) (hs : ∀ p, p ∈ ps → p ∈ qs) : O9 M M' qs := ⟨h.1, fun p q => h.2 p (fun r => q (hs p r))⟩
section LAY
variable {X : Nat × (Nat → Int32)} {M : Mem} {Q : Option PV → Mem → Prop}
theorem m_layNow {n : Nat} (hn : n ≤ 18) (e : M 9 0 6 0 = nI n) (h : ∀ M', O9 M M' [21, 22] → (∀ s, s < n → M' 9 0 21 s = M 9 0 6 (2 + 3 * s) ∧ M' 9 0 22 s = M 9 0 6 (3 + 3 * s)) → Q none M') : TT X kX9_layNow 0 [some (pR (9, 0, 0)), none] [] M Q := by
  have L : ∀ d k : Nat, k + d = n → ∀ M', O9 M M' [21, 22] → (∀ s, s < k → M' 9 0 21 s = M 9 0 6 (2 + 3 * s) ∧ M' 9 0 22 s = M 9 0 6 (3 + 3 * s)) → TT X kX9_layNow 2 [some (pR (9, 0, 0)), some (pI (nI k))] [] M' Q := by
    intro d
    induction d with
    | zero =>
      intro k hk M' o f
      obtain rfl : k = n := by omega
      refine rX9_layNow_2 <| br_t ?_ <| h M' o f
      rw [o.2 6 (by decide), e]
      exact nI_le (Nat.le_refl _) (by omega)
    | succ d ih =>
      intro k hk M' o f
      refine rX9_layNow_2 ?_
      rw [o.2 6 (by decide), e]
      refine br_f (nI_ge (by omega) (by omega)) ?_
      rw [mset_c3 (by decide), o.2 6 (by decide), show (2 + 3 * nI k + 1 : Int32) = nI (3 + 3 * k) by rw [show 3 + 3 * k = 2 + 3 * k + 1 by omega]; exact ix2 k 1, ix1, clampI (by omega), clampI (by omega), clampI (by omega), nI_1]
      refine ⟨vp_in_nI (by omega) (by decide), vp_in_nI (by omega) (by decide), vp_in_nI (by omega) (by decide), vp_in_nI (by omega) (by decide), ih (k + 1) (by omega) _ (O9.set (O9.set o (by decide)) (by decide)) fun s hs => ?_⟩
      by_cases z : s = k
      · subst z
        exact ⟨by rw [mset_c3 (by decide), mset_at], by rw [mset_at]⟩
      · have := f s (by omega)
        exact ⟨by rw [mset_c3 (by decide), mset_c4 (by simp [z])]; exact this.1, by rw [mset_c4 (by simp [z]), mset_c3 (by decide)]; exact this.2⟩
  exact rX9_layNow_0 (L n 0 (by omega) M O9.rfl' (fun s q => absurd q (Nat.not_lt_zero s)))
/-- a place as the reference keeps it -/
def RR (M : Mem) (q : Nat × Nat) (y : Nat) : Prop := M 9 0 23 y = nI (if q.1 < INF then q.1 / 32 else 100000) ∧ M 9 0 24 y = nI (if q.1 < INF then q.1 % 32 else 100000) ∧ (q.1 < INF → M 9 0 25 y = nI (q.2 - 1))
theorem lay_cmp {L a W C : Nat} (hL : L % 32 ≤ 17) (hL2 : L / 32 ≤ 360) (hW : W = L + (a * 32 + 1)) (ha : a ≤ 20) (hC : C ≤ 1000000) : (W < C ↔ (L / 32 + a < (if C < 1000000 then C / 32 else 100000) ∨ (L / 32 + a = (if C < 1000000 then C / 32 else 100000) ∧ L % 32 + 1 < (if C < 1000000 then C % 32 else 100000)))) := by
  by_cases c : C < 1000000
  · rw [if_pos c, if_pos c]
    omega
  · rw [if_neg c, if_neg c]
    omega
/-- what has been weighed at a place when d steps are seen -/
def cW (n rc : Nat) (as br : NF) (x d : Nat) : Nat × Nat := if n + 1 ≤ x + rc then (0, n + 1) else lkS (wW n rc as br) (fr n rc x) x d
theorem cW_s {n rc x d : Nat} {as br : NF} : cW n rc as br x (d + 1) = if wW n rc as br (x + d + 1) < (cW n rc as br x d).1 then (wW n rc as br (x + d + 1), x + d + 1) else cW n rc as br x d := by
  unfold cW
  by_cases c : n + 1 ≤ x + rc
  · rw [if_pos c, if_pos c, if_neg (Nat.not_lt_zero _)]
  · rw [if_neg c, if_neg c]
    rfl
theorem cW_e {n rc x : Nat} {as br : NF} (ha : ∀ s, s < n → as s ≤ 20) (hn : n ≤ 18) (hx : x ≤ n) : cW n rc as br x (min n (x + rc) - x) = Lk n rc as br x := by
  unfold cW Lk
  by_cases c : n + 1 ≤ x + rc
  · rw [if_pos c, show fr n rc x = n + 1 by unfold fr; omega, show n + 1 - x = (n - x) + 1 by omega]
    show _ = (if wW n rc as br (x + (n - x) + 1) < _ then _ else _)
    rw [show x + (n - x) + 1 = n + 1 by omega, wW_top, if_pos]
    by_cases l : (lkS (wW n rc as br) (n + 1) x (n - x)).1 < INF
    · obtain ⟨g1, g2, g3⟩ := lkS_at l
      rw [← g3]
      exact (w_fin (rc := rc) (br := br) ha hn (by omega) (by omega)).2.2
    · have iI : INF = 1000000 := rfl
      omega
  · rw [if_neg c, show fr n rc x = min n (x + rc) by unfold fr; omega]
theorem cW_le {n rc x d : Nat} {as br : NF} : (cW n rc as br x d).1 ≤ INF := by
  unfold cW
  by_cases c : n + 1 ≤ x + rc
  · rw [if_pos c]; exact Nat.zero_le _
  · rw [if_neg c]; exact lkS_le _ _ _ _
theorem m_isBrk {s b : Nat} (hs : s < 18) (hb : b ≤ 1) (e : M 9 0 6 (4 + 3 * s) = nI b) (h : Q (some (pI (bI (b = 1)))) M) : TT X kX9_isBroken 0 [some (pR (9, 0, 0)), some (pI (nI s))] [] M Q := by
  refine rX9_isBroken_0 ?_
  rw [show (2 + 3 * nI s + 2 : Int32) = nI (4 + 3 * s) by rw [show 4 + 3 * s = 2 + 3 * s + 2 by omega]; exact ix2 s 2, clampI (by omega), e]
  refine ⟨vp_in_nI (by omega) (by decide), ?_⟩
  by_cases c : b = 1
  · subst c
    exact nr_t rfl h
  · rw [bI_f c] at h
    exact nr_f (fun q => c ((nI_eq (b := 1) (by omega) (by omega)).mp q)) h
theorem m_layPlace {n rc x : Nat} {as br : NF} (hn : n ≤ 18) (h1 : 1 ≤ rc) (h3 : rc ≤ 3) (hx : x ≤ n) (e : M 9 0 6 0 = nI n) (hs : ∀ s, s < n → M 9 0 22 s = nI (as s) ∧ M 9 0 6 (4 + 3 * s) = nI (br s) ∧ as s ≤ 20 ∧ br s ≤ 1) (hR : ∀ y, x < y → y ≤ n → RR M (Lk n rc as br y) y) (h : ∀ M', O9 M M' [23, 24, 25] → (∀ y, x < y → M' 9 0 23 y = M 9 0 23 y ∧ M' 9 0 24 y = M 9 0 24 y ∧ M' 9 0 25 y = M 9 0 25 y) → RR M' (Lk n rc as br x) x → Q none M') : TT X kX9_layPlace 0 [some (pR (9, 0, 0)), some (pI (nI x)), some (pI (nI rc)), none, none, none, none, none] [] M Q := by
  have ha : ∀ s, s < n → as s ≤ 20 := fun s q => (hs s q).2.2.1
  have iI : INF = 1000000 := rfl
  have vx : vp_in (nI x) 19 := vp_in_nI (by omega) (by decide)
  have L : ∀ (b4 : Int32) (f d : Nat), d + f = min n (x + rc) - x → ∀ M', O9 M M' [23, 24, 25] → (∀ y, x < y → M' 9 0 23 y = M 9 0 23 y ∧ M' 9 0 24 y = M 9 0 24 y ∧ M' 9 0 25 y = M 9 0 25 y) → RR M' (cW n rc as br x d) x → TT X kX9_layPlace 67 [some (pR (9, 0, 0)), some (pI (nI x)), some (pI (nI rc)), some (pI (nI n)), some (pI b4), some (pI (nI (x + d))), none, none] [] M' Q := by
    intro b4 f
    induction f with
    | zero =>
      intro d hd M' o g r
      obtain rfl : d = min n (x + rc) - x := by omega
      rw [cW_e ha hn hx] at r
      have fin := h M' o g r
      refine rX9_layPlace_67 ?_
      rw [nI_add]
      by_cases c : n ≤ x + rc
      · exact br_t (nI_le (by omega) (by omega)) fin
      · exact br_f (nI_ge (by omega) (by omega)) <| br_t (nI_le (by omega) (by omega)) fin
    | succ f ih =>
      intro d hd M' o g r
      have ih := ih (d + 1) (by omega)
      obtain ⟨s1, s2, s3, s4⟩ := hs (x + d) (by omega)
      have m6 := o.2 6 (by decide)
      have m22 := o.2 22 (by decide)
      have v19 : vp_in (nI (x + d + 1)) 19 := vp_in_nI (by omega) (by decide)
      have v18 : vp_in (nI (x + d)) 18 := vp_in_nI (by omega) (by decide)
      obtain ⟨w1, w2, w3⟩ := w_fin (n := n) (rc := rc) (as := as) (br := br) ha hn (x := x + d + 1) (by omega) (by omega)
      rw [Nat.add_sub_cancel] at w1 w2
      have cs := cW_s (n := n) (rc := rc) (as := as) (br := br) (x := x) (d := d)
      have cl := cW_le (n := n) (rc := rc) (as := as) (br := br) (x := x) (d := d)
      obtain ⟨r1, r2, r3⟩ := r
      refine rX9_layPlace_67 ?_
      rw [nI_add]
      refine br_f (nI_ge (by omega) (by omega)) <| br_f (nI_ge (by omega) (by omega)) <| m_isBrk (by omega) s4 (by rw [m6]; exact s2) ?_
      rw [nI_1]
      have skip : ¬ wW n rc as br (x + d + 1) < (cW n rc as br x d).1 → TT X kX9_layPlace 67 [some (pR (9, 0, 0)), some (pI (nI x)), some (pI (nI rc)), some (pI (nI n)), some (pI b4), some (pI (nI (x + d + 1))), none, none] [] M' Q := by
        intro z
        refine ih M' o g ?_
        rw [cs, if_neg z]
        exact ⟨r1, r2, r3⟩
      by_cases cb : br (x + d) = 1
      · refine bz_t cb ⟨v19, skip fun z => ?_⟩
        have := (w1.mp (by omega)).1
        omega
      refine bz_f cb ⟨v19, v19, ?_⟩
      obtain ⟨g1, g2, -⟩ := g (x + d + 1) (by omega)
      obtain ⟨R1, R2, -⟩ := hR (x + d + 1) (by omega) (by omega)
      rw [clampI (by omega), clampI (by omega), clampI (by omega), g1, g2, R1, R2, m22, s1, r1, r2]
      by_cases cl2 : (Lk n rc as br (x + d + 1)).1 < INF
      rotate_left
      · rw [if_neg cl2]
        refine br_t (by decide +kernel) <| skip fun z => ?_
        exact cl2 (w1.mp (by omega)).2
      rw [if_pos cl2, if_pos cl2]
      obtain ⟨f1, f2, -⟩ := Lk_fin (rc := rc) (br := br) ha hn (x := x + d + 1) (by omega) cl2
      have eW := w2 (w1.mpr ⟨by omega, cl2⟩)
      have cmp := lay_cmp (C := (cW n rc as br x d).1) (by omega) (by omega) eW s3 cl
      rw [← iI] at cmp
      have upd : wW n rc as br (x + d + 1) < (cW n rc as br x d).1 → TT X kX9_layPlace 67 [some (pR (9, 0, 0)), some (pI (nI x)), some (pI (nI rc)), some (pI (nI n)), some (pI b4), some (pI (nI (x + d + 1))), none, none] [] (mset (mset (mset M' 9 0 23 x (nI ((Lk n rc as br (x + d + 1)).1 / 32 + as (x + d)))) 9 0 24 x (nI ((Lk n rc as br (x + d + 1)).1 % 32 + 1))) 9 0 25 x (nI (x + d))) Q := by
        intro z
        refine ih _ (O9.set (O9.set (O9.set o (by decide)) (by decide)) (by decide)) (fun y hy => ?_) ?_
        · have := g y hy
          exact ⟨by rw [mset_c3 (by decide), mset_c3 (by decide), mset_c4 (by simp; omega)]; exact this.1, by rw [mset_c3 (by decide), mset_c4 (by simp; omega), mset_c3 (by decide)]; exact this.2.1, by rw [mset_c4 (by simp; omega), mset_c3 (by decide), mset_c3 (by decide)]; exact this.2.2⟩
        · rw [cs, if_pos z]
          have wf : wW n rc as br (x + d + 1) < INF := by omega
          refine ⟨?_, ?_, fun _ => ?_⟩
          · rw [mset_c3 (by decide), mset_c3 (by decide), mset_at, if_pos wf, eW]
            congr 1
            omega
          · rw [mset_c3 (by decide), mset_at, if_pos wf, eW]
            congr 1
            omega
          · rw [mset_at]
            rfl
      rw [nI_add, nI_1]
      generalize hA : (if (cW n rc as br x d).1 < INF then (cW n rc as br x d).1 / 32 else 100000) = A at *
      generalize hB : (if (cW n rc as br x d).1 < INF then (cW n rc as br x d).1 % 32 else 100000) = B at *
      have lA : A ≤ 100000 := by
        rw [← hA]
        split <;> omega
      have lB : B ≤ 100000 := by
        rw [← hB]
        split <;> omega
      refine br_f (nI_ge (b := 100000) (by omega) (by decide)) ⟨v18, vx, ?_⟩
      by_cases c1 : (Lk n rc as br (x + d + 1)).1 / 32 + as (x + d) < A
      · exact br_t (nI_lt c1 (by omega)) ⟨v18, vx, vx, vx, upd (cmp.mpr (Or.inl c1))⟩
      refine br_f (nI_nlt (by omega) (by omega)) ⟨v18, vx, ?_⟩
      by_cases c2 : (Lk n rc as br (x + d + 1)).1 / 32 + as (x + d) = A
      · refine nr_t (by rw [c2]) ⟨vx, ?_⟩
        by_cases c3 : B ≤ (Lk n rc as br (x + d + 1)).1 % 32 + 1
        · exact br_t (nI_le c3 (by omega)) <| skip fun z => by rcases cmp.mp z with q | q <;> omega
        · exact br_f (nI_ge (by omega) (by omega)) ⟨v18, vx, vx, vx, upd (cmp.mpr (Or.inr ⟨c2, by omega⟩))⟩
      · exact nr_f (fun q => c2 ((nI_eq (by omega) (by omega)).mp q)) <| skip fun z => by rcases cmp.mp z with q | q <;> omega
  refine rX9_layPlace_0 ?_
  rw [e, clampI (by omega)]
  have es : nI x - 1 + nI rc = nI (x + rc - 1) := by
    rw [show (1 : Int32) = nI 1 from rfl, ← pk_sub (a := x + rc) (b := 1) (by omega), ← nI_add, Int32.sub_eq_add_neg, Int32.sub_eq_add_neg, Int32.add_assoc, Int32.add_assoc, Int32.add_comm (-nI 1)]
  rw [es]
  have st : ∀ (M' : Mem), O9 M M' [23, 24, 25] → (∀ y, x < y → M' 9 0 23 y = M 9 0 23 y ∧ M' 9 0 24 y = M 9 0 24 y ∧ M' 9 0 25 y = M 9 0 25 y) → RR M' (cW n rc as br x 0) x → ∀ b4 : Int32, TT X kX9_layPlace 67 [some (pR (9, 0, 0)), some (pI (nI x)), some (pI (nI rc)), some (pI (nI n)), some (pI b4), some (pI (nI x)), none, none] [] M' Q := fun M' o g r b4 => L b4 _ 0 (Nat.zero_add _) M' o g r
  by_cases c : x + rc - 1 < n
  · refine br_t (nI_lt c (by omega)) ⟨vx, vx, vx, st _ (O9.set (O9.set (O9.set O9.rfl' (by decide)) (by decide)) (by decide)) (fun y hy => ?_) ?_ 0⟩
    · exact ⟨by rw [mset_c3 (by decide), mset_c3 (by decide), mset_c4 (by simp; omega)], by rw [mset_c3 (by decide), mset_c4 (by simp; omega), mset_c3 (by decide)], by rw [mset_c4 (by simp; omega), mset_c3 (by decide), mset_c3 (by decide)]⟩
    · have ec : cW n rc as br x 0 = (INF, fr n rc x) := by unfold cW; rw [if_neg (by omega)]; rfl
      rw [ec]
      refine ⟨?_, ?_, fun q => absurd q (Nat.lt_irrefl _)⟩
      · rw [mset_c3 (by decide), mset_c3 (by decide), mset_at, if_neg (Nat.lt_irrefl _)]; rfl
      · rw [mset_c3 (by decide), mset_at, if_neg (Nat.lt_irrefl _)]; rfl
  · refine br_f (nI_nlt (by omega) (by omega)) ⟨vx, vx, vx, st _ (O9.set (O9.set (O9.set O9.rfl' (by decide)) (by decide)) (by decide)) (fun y hy => ?_) ?_ 1⟩
    · exact ⟨by rw [mset_c3 (by decide), mset_c3 (by decide), mset_c4 (by simp; omega)], by rw [mset_c3 (by decide), mset_c4 (by simp; omega), mset_c3 (by decide)], by rw [mset_c4 (by simp; omega), mset_c3 (by decide), mset_c3 (by decide)]⟩
    · have ec : cW n rc as br x 0 = (0, n + 1) := by unfold cW; rw [if_pos (by omega)]
      rw [ec]
      refine ⟨?_, ?_, fun _ => ?_⟩
      · rw [mset_c3 (by decide), mset_c3 (by decide), mset_at, if_pos (by omega)]
        show (0 : Int32) = nI (0 / 32)
        rw [Nat.zero_div]; rfl
      · rw [mset_c3 (by decide), mset_at, if_pos (by omega)]
        show (0 : Int32) = nI (0 % 32)
        rw [Nat.zero_mod]; rfl
      · rw [mset_at]; rfl
theorem ix4 (w k : Nat) : (56 + 4 * nI w + nI k : Int32) = nI (56 + 4 * w + k) := by rw [show (56 : Int32) = nI 56 from rfl, show (4 : Int32) = nI 4 from rfl, pk_mul, nI_add, nI_add]
theorem m_walker {w k : Nat} (hw : w < 6) (hk : k < 4) (h : Q (some (pI (M 9 0 6 (56 + 4 * w + k)))) M) : TT X kX9_walker 0 [some (pR (9, 0, 0)), some (pI (nI w)), some (pI (nI k))] [] M Q := by
  refine rX9_walker_0 ?_
  rw [ix4, clampI (by omega)]
  exact ⟨vp_in_nI (by omega) (by decide), h⟩
theorem m_layWay {n rc w : Nat} {as br : NF} (hn : n ≤ 18) (hw : w < 6) (h1 : 1 ≤ rc) (h3 : rc ≤ 3) (e : M 9 0 6 0 = nI n) (er : M 9 0 6 (56 + 4 * w) = nI rc) (hs : ∀ s, s < n → M 9 0 22 s = nI (as s) ∧ M 9 0 6 (4 + 3 * s) = nI (br s) ∧ as s ≤ 20 ∧ br s ≤ 1) (h : ∀ M', O9 M M' [23, 24, 25] → (∀ y, y ≤ n → RR M' (Lk n rc as br y) y) → Q none M') : TT X kX9_layWay 0 [some (pR (9, 0, 0)), some (pI (nI w)), none] [] M Q := by
  have L : ∀ x : Nat, x ≤ n + 1 → ∀ M', O9 M M' [23, 24, 25] → (∀ y, x ≤ y → y ≤ n → RR M' (Lk n rc as br y) y) → TT X kX9_layWay 7 [some (pR (9, 0, 0)), some (pI (nI w)), some (pI (nI x - 1))] [] M' Q := by
    intro x
    induction x with
    | zero =>
      intro _ M' o r
      exact rX9_layWay_7 <| br_t (by decide +kernel) <| h M' o (fun y q => r y (Nat.zero_le y) q)
    | succ x ih =>
      intro hx M' o r
      have m6 := o.2 6 (by decide)
      have m22 := o.2 22 (by decide)
      rw [nI_pred]
      refine rX9_layWay_7 <| br_f (nI_pos (by omega)) <| m_walker (k := 0) hw (by decide) ?_
      show TT _ _ _ _ _ _ _
      rw [m6, Nat.add_zero, er, show nI x + -1 = nI x - 1 from by rw [Int32.sub_eq_add_neg]]
      refine m_layPlace (as := as) (br := br) hn h1 h3 (by omega) (by rw [m6]; exact e) (by rw [m6, m22]; exact hs) (fun y q1 q2 => r y (by omega) q2) fun M2 o2 g2 r2 => ih (by omega) M2 (O9.trans o o2) fun y q1 q2 => ?_
      by_cases z : y = x
      · subst z; exact r2
      · obtain ⟨a1, a2, a3⟩ := r y (by omega) q2
        obtain ⟨b1, b2, b3⟩ := g2 y (by omega)
        exact ⟨b1.trans a1, b2.trans a2, fun q => b3.trans (a3 q)⟩
  refine rX9_layWay_0 ?_
  rw [e, ← nI_pred n]
  exact L (n + 1) (Nat.le_refl _) M O9.rfl' (fun y q1 q2 => by omega)
end LAY
