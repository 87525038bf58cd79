/-! what is best asked -/
theorem setA_2 {as ow : NF} {set u v : Nat} : setA (setA as ow set u) ow set v = setA as ow set v := by
  funext s
  unfold setA
  by_cases c : bit set (ow s) = true
  · rw [if_pos c, if_pos c]
  · rw [if_neg c, if_neg c, if_neg c]
theorem sva_set {sd as ow : NF} {set v : Nat} (h : SVA sd as ow) (hv : v ≤ 20) : SVA sd (setA as ow set v) ow := by
  refine ⟨h.1, fun s hs => ⟨?_, (h.2 s hs).2⟩⟩
  unfold setA
  split
  · exact hv
  · exact (h.2 s hs).1
theorem hasS_t {ow : NF} {set n s : Nat} (hs : s < n) (hb : bit set (ow s) = true) : hasS ow set n = true := by
  induction n with
  | zero => omega
  | succ n ih =>
    show (hasS ow set n || bit set (ow n)) = true
    by_cases e : s = n
    · subst e; rw [hb, Bool.or_true]
    · rw [ih (by omega)]; rfl
theorem sumOn_0 {set : Nat} {ow as : NF} {n : Nat} (h : hasS ow set n = false) : ∀ P : List Nat, (∀ x, x ∈ P → x < n) → sumOn set ow as P = 0
  | [], _ => rfl
  | x :: P, q => by
    have ih := sumOn_0 (as := as) h P (fun y hy => q y (List.mem_cons_of_mem x hy))
    show (if _ then _ else _) + _ = 0
    rw [ih, if_neg]
    intro b
    have := hasS_t (q x List.mem_cons_self) b
    rw [h] at this
    exact absurd this (by decide)
theorem tk_0 {sd as ow : NF} {set : Nat} (h : hasS ow set (sd 0) = false) : tk sd as ow set = 0 := by
  have : ∀ v, tkS sd as ow set v = 0 := by
    intro v
    induction v with
    | zero => rfl
    | succ v ih =>
      show tkS sd as ow set v + takeW sd as ow set v = 0
      rw [ih]
      unfold takeW
      rw [sumOn_0 (n := sN sd) h _ path_mem, Nat.zero_mul, Nat.zero_mul]
      split <;> rfl
  exact this _
theorem bsS_0 {sd as ow : NF} {set : Nat} (h : hasS ow set (sd 0) = false) : ∀ k, (bsS sd as ow set k).2 = 0
  | 0 => tk_0 h
  | k + 1 => by
    have ih := bsS_0 (as := as) h k
    show (if _ then _ else _ : Nat × Nat).2 = 0
    rw [if_neg]
    · exact ih
    · rw [tk_0 h]; omega
theorem bst_0 {sd as ow : NF} {set : Nat} (h : hasS ow set (sd 0) = false) : (bst sd as ow set).2 = 0 := bsS_0 h 20
theorem bsS_b {sd as ow : NF} {set : Nat} (hv : SVA sd as ow) : ∀ k, k ≤ 20 → (bsS sd as ow set k).1 ≤ k ∧ (bsS sd as ow set k).2 ≤ 129600
  | 0, _ => ⟨Nat.le_refl _, tk_le (sva_set hv (by decide))⟩
  | k + 1, h => by
    obtain ⟨a, b⟩ := bsS_b (set := set) hv k (by omega)
    have t := tk_le (set := set) (sva_set (set := set) (v := k + 1) hv h)
    show (if _ then _ else _ : Nat × Nat).1 ≤ _ ∧ (if _ then _ else _ : Nat × Nat).2 ≤ _
    split
    · exact ⟨Nat.le_refl _, t⟩
    · exact ⟨by omega, b⟩
theorem bst_b {sd as ow : NF} {set : Nat} (hv : SVA sd as ow) : (bst sd as ow set).1 ≤ 20 ∧ (bst sd as ow set).2 ≤ 129600 := bsS_b hv 20 (Nat.le_refl _)
def Omk (M M' : Mem) (j : Nat) : Prop := ∀ c i, ¬ (c = 2 ∧ i = 1) → ¬ (c = 3 ∧ i = 0) → ¬ (c = 6 ∧ i = j) → M' c i = M c i
def B9 (M M' : Mem) : Prop := O9 M M' [0, 22, 23, 24, 25, 26] ∧ ∀ x, ¬ x = 26 → M' 9 0 0 x = M 9 0 0 x
theorem B9.of {M M' : Mem} {ps : List Nat} (h : O9 M M' ps) (hs : ∀ p, p ∈ ps → p ∈ [22, 23, 24, 25, 26]) : B9 M M' := ⟨O9.sub h (fun p q => List.mem_cons_of_mem 0 (hs p q)), fun x _ => by rw [h.2 0 (fun r => absurd (hs 0 r) (by decide))]⟩
theorem B9.trans {M M1 M2 : Mem} (h : B9 M M1) (h2 : B9 M1 M2) : B9 M M2 := ⟨O9.trans h.1 h2.1, fun x q => (h2.2 x q).trans (h.2 x q)⟩
theorem B9.set {M M' : Mem} {v : Int32} (h : B9 M M') : B9 M (mset M' 9 0 0 26 v) := ⟨O9.set h.1 (by decide), fun x q => by rw [mset_c4 (by simp [q])]; exact h.2 x q⟩
theorem B9.rfl' {M : Mem} : B9 M M := ⟨O9.rfl', fun _ _ => rfl⟩
theorem Scr.b9 {M M' : Mem} (h : B9 M M') : Scr M M' := ⟨fun c i _ _ _ e => h.1.1 c i e, fun p q => h.1.2 p (fun r => q (by simp at r ⊢; omega)), fun x q => h.2 x (by simp at q; omega)⟩
theorem Scr.mk {M M' : Mem} (h : Omk M M' 2) : Scr M M' := ⟨fun c i a b d e => h c i (by omega) (by omega) (by omega), fun p _ => by rw [h 9 0 (by omega) (by omega) (by omega)], fun x _ => by rw [h 9 0 (by omega) (by omega) (by omega)]⟩
section SEEK
variable {X : Nat × (Nat → Int32)} {M : Mem} {Q : Option PV → Mem → Prop} {sd as ow : NF}
theorem s_ownAny {j set : Nat} (hj : j < 5) (hset : set < 32) (hv : SVA sd as ow) (hS : StY (M 6 j) sd as ow) (h : Q (some (pI (bI (hasS ow set (sd 0) = true)))) M) : TT X kX6_ownAny 0 [some (pR (6, j, 0)), some (pI (nI set)), none] [] M Q := by
  have l0 := hv.1.1
  have L : ∀ d k, k + d = sd 0 → hasS ow set k = false → TT X kX6_ownAny 2 [some (pR (6, j, 0)), some (pI (nI set)), some (pI (nI k))] [] M Q := by
    intro d
    induction d with
    | zero =>
      intro k hk hf
      obtain rfl : k = sd 0 := by omega
      rw [bI_f (by rw [hf]; decide)] at h
      exact rX6_ownAny_2 hj <| br_t (by rw [hS.1]; exact nI_le (Nat.le_refl _) (by omega)) h
    | succ d ih =>
      intro k hk hf
      refine rX6_ownAny_2 hj <| br_f (by rw [hS.1]; exact nI_ge (by omega) (by omega)) <| s_isOfS hj hset hv hS (by omega) ?_
      rw [nI_1]
      by_cases c : bit set (ow k) = true
      · rw [bI_t (hasS_t (show k < sd 0 by omega) c)] at h
        exact bz_t c h
      · refine bz_f c <| ih (k + 1) (by omega) ?_
        show (_ || _) = false
        rw [hf, Bool.eq_false_iff.mpr c]; rfl
  exact rX6_ownAny_0 hj (L _ 0 (Nat.zero_add _) rfl)
theorem m_haveSteps {set : Nat} (hset : set < 32) (hv : SVA sd as ow) (hS : StR M sd as ow) (h : Q (some (pI (bI (hasS ow set (sd 0) = true)))) M) : TT X kX9_haveSteps 0 [some (pR (9, 0, 0)), some (pI (nI set)), none, none] [] M Q := by
  have l0 := hv.1.1
  have L : ∀ d k, k + d = sd 0 → TT X kX9_haveSteps 4 [some (pR (9, 0, 0)), some (pI (nI set)), some (pI (bI (hasS ow set k = true))), some (pI (nI k))] [] M Q := by
    intro d
    induction d with
    | zero =>
      intro k hk
      obtain rfl : k = sd 0 := by omega
      exact rX9_haveSteps_4 <| br_t (by rw [hS.1 0 (by decide)]; exact nI_le (Nat.le_refl _) (by omega)) ⟨bI_01, h⟩
    | succ d ih =>
      intro k hk
      have ih := ih (k + 1) (by omega)
      have es : hasS ow set (k + 1) = (hasS ow set k || bit set (ow k)) := rfl
      have b := bitw set hset (ow k) (by have := (hv.2 k (by omega)).2; omega)
      refine rX9_haveSteps_4 <| br_f (by rw [hS.1 0 (by decide)]; exact nI_ge (by omega) (by omega)) ?_
      rw [nI_1, clampI (by omega), (hS.2 k (by omega)).1]
      by_cases c : hasS ow set k = true
      · rw [es, c, Bool.true_or, bI_t rfl] at ih
        exact bn_t c ih
      · refine bn_f c ⟨vp_in_nI (by omega) (by decide), ?_⟩
        rw [es, Bool.eq_false_iff.mpr c, Bool.false_or] at ih
        by_cases g : bit set (ow k) = true
        · rw [bI_t g] at ih
          exact nr_t (b.mpr g) ih
        · rw [bI_f g] at ih
          exact nr_f (fun q => g (b.mp q)) ih
  exact rX9_haveSteps_0 (L _ 0 (Nat.zero_add _))
theorem s_askAll {j set v : Nat} (hj : j < 5) (hset : set < 32) (hv : SVA sd as ow) (hS : StY (M 6 j) sd as ow) (h : ∀ M', Oth M M' 6 j → StY (M' 6 j) sd (setA as ow set v) ow → Q none M') : TT X kX6_askAll 0 [some (pR (6, j, 0)), some (pI (nI set)), some (pI (nI v)), none] [] M Q := by
  have l0 := hv.1.1
  have L : ∀ d k, k + d = sd 0 → ∀ M1, Oth M M1 6 j → (∀ p, ¬ p = 4 → M1 6 j p = M 6 j p) → (∀ s, s < sd 0 → M1 6 j 4 s = nI (if s < k then setA as ow set v s else as s)) → TT X kX6_askAll 2 [some (pR (6, j, 0)), some (pI (nI set)), some (pI (nI v)), some (pI (nI k))] [] M1 Q := by
    intro d
    induction d with
    | zero =>
      intro k hk M1 o1 f1 f4
      obtain rfl : k = sd 0 := by omega
      refine rX6_askAll_2 hj <| br_t (by rw [f1 0 (by decide), hS.1]; exact nI_le (Nat.le_refl _) (by omega)) <| h M1 o1 ⟨?_, ?_, fun s hs => ⟨?_, ?_, ?_⟩, fun u hu => ?_⟩
      · rw [f1 0 (by decide)]; exact hS.1
      · rw [f1 0 (by decide)]; exact hS.2.1
      · rw [f1 3 (by decide)]; exact (hS.2.2.1 s hs).1
      · rw [f4 s hs, if_pos hs]
      · rw [f1 5 (by decide)]; exact (hS.2.2.1 s hs).2.2
      · rw [f1 6 (by decide), f1 7 (by decide), f1 8 (by decide), f1 9 (by decide)]; exact hS.2.2.2 u hu
    | succ d ih =>
      intro k hk M1 o1 f1 f4
      have hY : StY (M1 6 j) sd (fun s => if s < k then setA as ow set v s else as s) ow := by
        refine ⟨?_, ?_, fun s hs => ⟨?_, ?_, ?_⟩, fun u hu => ?_⟩
        · rw [f1 0 (by decide)]; exact hS.1
        · rw [f1 0 (by decide)]; exact hS.2.1
        · rw [f1 3 (by decide)]; exact (hS.2.2.1 s hs).1
        · exact f4 s hs
        · rw [f1 5 (by decide)]; exact (hS.2.2.1 s hs).2.2
        · rw [f1 6 (by decide), f1 7 (by decide), f1 8 (by decide), f1 9 (by decide)]; exact hS.2.2.2 u hu
      have b := bitw set hset (ow k) (by have := (hv.2 k (by omega)).2; omega)
      refine rX6_askAll_2 hj <| br_f (by rw [hY.1]; exact nI_ge (by omega) (by omega)) <| rX6_isOf_0 hj <| br_f (nI_pos (by omega)) <| br_f (by rw [hY.1]; exact nI_ge (by omega) (by omega)) ⟨vp_in_nI (by omega) (by decide), ?_⟩
      rw [clampI (by omega), (hY.2.2.1 k (by omega)).1]
      have fx : ∀ M2, Oth M M2 6 j → (∀ p, ¬ p = 4 → M2 6 j p = M 6 j p) → (∀ s, s < sd 0 → M2 6 j 4 s = nI (if s < k + 1 then setA as ow set v s else as s)) → TT X kX6_askAll 2 [some (pR (6, j, 0)), some (pI (nI set)), some (pI (nI v)), some (pI (nI k + 1))] [] M2 Q := by
        intro M2
        rw [nI_1]
        exact ih (k + 1) (by omega) M2
      by_cases c : bit set (ow k) = true
      · refine nr_t (b.mpr c) ⟨fun q => absurd q (by decide), fun _ => ⟨vp_in_nI (by omega) (by decide), fx _ (Oth.set o1) (fun p hp => ?_) fun s hs => ?_⟩⟩
        · rw [mset_c3 (by simp [hp])]; exact f1 p hp
        · by_cases e : s = k
          · subst e
            rw [mset_at, if_pos (by omega)]
            unfold setA
            rw [if_pos c]
          · rw [mset_c4 (by simp [e]), f4 s hs]
            by_cases z : s < k
            · rw [if_pos z, if_pos (by omega)]
            · rw [if_neg z, if_neg (by omega)]
      · refine nr_f (fun q => c (b.mp q)) ⟨fun _ => fx M1 o1 f1 fun s hs => ?_, fun q => absurd rfl q⟩
        rw [f4 s hs]
        by_cases e : s = k
        · subst e
          rw [if_neg (by omega), if_pos (by omega)]
          unfold setA
          rw [if_neg c]
        · by_cases z : s < k
          · rw [if_pos z, if_pos (by omega)]
          · rw [if_neg z, if_neg (by omega)]
  exact rX6_askAll_0 hj (L _ 0 (Nat.zero_add _) M Oth.rfl' (fun _ _ => rfl) (fun s hs => by rw [if_neg (Nat.not_lt_zero s)]; exact (hS.2.2.1 s hs).2.1))
theorem m_setAsks {set v : Nat} (hset : set < 32) (hv : SVA sd as ow) (hS : StR M sd as ow) (h : ∀ M', O9 M M' [22] → StR M' sd (setA as ow set v) ow → Q none M') : TT X kX9_setAsks 0 [some (pR (9, 0, 0)), some (pI (nI set)), some (pI (nI v)), none] [] M Q := by
  have l0 := hv.1.1
  have L : ∀ d k, k + d = sd 0 → ∀ M1, O9 M M1 [22] → (∀ s, s < sd 0 → M1 9 0 22 s = nI (if s < k then setA as ow set v s else as s)) → TT X kX9_setAsks 2 [some (pR (9, 0, 0)), some (pI (nI set)), some (pI (nI v)), some (pI (nI k))] [] M1 Q := by
    intro d
    induction d with
    | zero =>
      intro k hk M1 o1 f4
      obtain rfl : k = sd 0 := by omega
      refine rX9_setAsks_2 <| br_t (by rw [o1.2 6 (by decide), hS.1 0 (by decide)]; exact nI_le (Nat.le_refl _) (by omega)) <| h M1 o1 ⟨fun x hx => ?_, fun s hs => ⟨?_, ?_⟩⟩
      · rw [o1.2 6 (by decide)]; exact hS.1 x hx
      · rw [o1.2 21 (by decide)]; exact (hS.2 s hs).1
      · rw [f4 s hs, if_pos hs]
    | succ d ih =>
      intro k hk M1 o1 f4
      have b := bitw set hset (ow k) (by have := (hv.2 k (by omega)).2; omega)
      have v18 : vp_in (nI k) 18 := vp_in_nI (by omega) (by decide)
      refine rX9_setAsks_2 <| br_f (by rw [o1.2 6 (by decide), hS.1 0 (by decide)]; exact nI_ge (by omega) (by omega)) ⟨v18, ?_⟩
      rw [clampI (by omega), o1.2 21 (by decide), (hS.2 k (by omega)).1, nI_1, mset_id]
      by_cases c : bit set (ow k) = true
      · refine nr_t (b.mpr c) ⟨v18, ih (k + 1) (by omega) _ (O9.set o1 (by decide)) fun s hs => ?_⟩
        by_cases e : s = k
        · subst e
          rw [mset_at, if_pos (by omega)]
          unfold setA
          rw [if_pos c]
        · rw [mset_c4 (by simp [e]), f4 s hs]
          by_cases z : s < k
          · rw [if_pos z, if_pos (by omega)]
          · rw [if_neg z, if_neg (by omega)]
      · refine nr_f (fun q => c (b.mp q)) ⟨v18, v18, ih (k + 1) (by omega) M1 o1 fun s hs => ?_⟩
        rw [f4 s hs]
        by_cases e : s = k
        · subst e
          rw [if_neg (by omega), if_pos (by omega)]
          unfold setA
          rw [if_neg c]
        · by_cases z : s < k
          · rw [if_pos z, if_pos (by omega)]
          · rw [if_neg z, if_neg (by omega)]
  exact rX9_setAsks_0 (L _ 0 (Nat.zero_add _) M O9.rfl' (fun s hs => by rw [if_neg (Nat.not_lt_zero s)]; exact (hS.2 s hs).2))
theorem Omk.rfl' {j : Nat} : Omk M M j := fun _ _ _ _ _ => rfl
theorem Omk.trans {M1 M2 : Mem} {j : Nat} (h : Omk M M1 j) (h2 : Omk M1 M2 j) : Omk M M2 j := fun c i a b d => (h2 c i a b d).trans (h c i a b d)
theorem Omk.o2 {M1 : Mem} {j : Nat} (h : Oth M M1 2 1) : Omk M M1 j := fun c i a _ _ => h c i a
theorem Omk.o6 {M1 : Mem} {j : Nat} (h : Oth M M1 6 j) : Omk M M1 j := fun c i _ _ a => h c i a
theorem Omk.o3 {M1 : Mem} {j : Nat} (h : Oth M M1 3 0) : Omk M M1 j := fun c i _ a _ => h c i a
theorem s_seek {j set : Nat} (hj : j < 5) (hset : set < 32) (hv : SVA sd as ow) (hS : StY (M 6 j) sd as ow) (h : ∀ M', Omk M M' j → StY (M' 6 j) sd (setA as ow set (bst sd as ow set).1) ow → M' 3 0 0 1 = nI (bst sd as ow set).1 → M' 3 0 0 2 = nI (bst sd as ow set).2 → Q none M') : TT X kX3_seek 0 [some (pR (3, 0, 0)), some (pR (6, j, 0)), some (pI (nI set)), none, none] [] M Q := by
  -- one asking: what is taken by it
  have one : ∀ (k : Nat) (M1 : Mem) (Q1 : Option PV → Mem → Prop) (a : NF), k ≤ 20 → SVA sd a ow → (∀ v, setA a ow set v = setA as ow set v) → StY (M1 6 j) sd a ow → (∀ M2, Omk M1 M2 j → M2 3 0 = M1 3 0 → StY (M2 6 j) sd (setA as ow set k) ow → Q1 (some (pI (nI (tk sd (setA as ow set k) ow set)))) M2) → TT X kX6_askAll 0 [some (pR (6, j, 0)), some (pI (nI set)), some (pI (nI k)), none] [] M1 (rV fun M4 => TT X kX3_taken 0 [some (pR (3, 0, 0)), some (pR (6, j, 0)), some (pI (nI set)), none, none, none] [] M4 Q1) := by
    intro k M1 Q1 a hk va ea ya g
    refine s_askAll hj hset va ya fun M2 o2 y2 => ?_
    rw [ea k] at y2
    refine s_taken hj hset (sva_set hv hk) y2 fun M3 o3 => g M3 (Omk.trans (Omk.o6 o2) (Omk.o2 o3)) ?_ ?_
    · rw [o3 3 0 (by omega), o2 3 0 (by omega)]
    · rw [o3 6 j (by omega)]; exact y2
  have L : ∀ d k, k + d = 20 → ∀ M1 a, Omk M M1 j → SVA sd a ow → (∀ v, setA a ow set v = setA as ow set v) → StY (M1 6 j) sd a ow → M1 3 0 0 1 = nI (bsS sd as ow set k).1 → M1 3 0 0 2 = nI (bsS sd as ow set k).2 → TT X kX3_seek 12 [some (pR (3, 0, 0)), some (pR (6, j, 0)), some (pI (nI set)), some (pI (nI (k + 1))), none] [] M1 Q := by
    intro d
    induction d with
    | zero =>
      intro k hk M1 a o1 va ea ya b1 b2
      obtain rfl : k = 20 := by omega
      refine rX3_seek_12 hj <| br_t (by decide +kernel) ?_
      rw [b1]
      refine s_askAll hj hset va ya fun M2 o2 y2 => h M2 (Omk.trans o1 (Omk.o6 o2)) ?_ ?_ ?_
      · rw [ea] at y2; exact y2
      · rw [o2 3 0 (by omega)]; exact b1
      · rw [o2 3 0 (by omega)]; exact b2
    | succ d ih =>
      intro k hk M1 a o1 va ea ya b1 b2
      have bb := bsS_b (set := set) hv k (by omega)
      have tb := tk_le (set := set) (sva_set (set := set) (v := k + 1) hv (by omega))
      refine rX3_seek_12 hj <| br_f (nI_nlt (a := 20) (by omega) (by decide)) <| one (k + 1) M1 _ a (by omega) va ea ya fun M2 o2 e2 y2 => ?_
      show _ ∧ _
      rw [e2, b2, nI_1]
      have ih := ih (k + 1) (by omega)
      by_cases c : (bsS sd as ow set k).2 < tk sd (setA as ow set (k + 1)) ow set
      · rw [show bsS sd as ow set (k + 1) = (k + 1, tk sd (setA as ow set (k + 1)) ow set) from if_pos c] at ih
        refine br_f (nI_ge c (by omega)) <| ih _ (setA as ow set (k + 1)) (Omk.trans (Omk.trans o1 o2) (Omk.o3 (Oth.set (Oth.set Oth.rfl')))) (sva_set hv (by omega)) (fun v => setA_2) ?_ mset_at ?_
        · rw [mset_c2 (by omega), mset_c2 (by omega)]; exact y2
        · rw [mset_c4 (by decide), mset_at]
      · rw [show bsS sd as ow set (k + 1) = bsS sd as ow set k from if_neg c] at ih
        exact br_t (nI_le (by omega) (by omega)) <| ih _ (setA as ow set (k + 1)) (Omk.trans o1 o2) (sva_set hv (by omega)) (fun v => setA_2) y2 (by rw [e2]; exact b1) (by rw [e2]; exact b2)
  refine rX3_seek_0 hj <| rX3_seek_12 hj <| br_f (by decide) ?_
  have ob : Omk M (mset (mset M 3 0 0 1 0) 3 0 0 2 (-1)) j := Omk.o3 (Oth.set (Oth.set Oth.rfl'))
  refine one 0 _ _ as (by decide) hv (fun _ => rfl) (by rw [mset_c2 (by omega), mset_c2 (by omega)]; exact hS) fun M2 o2 e2 y2 => ?_
  show _ ∧ _
  have tb := tk_le (set := set) (sva_set (set := set) (v := 0) hv (by omega))
  rw [e2, mset_at]
  refine br_f ?_ ?_
  · rw [i32_le, nI_int (by omega), show (-1 : Int32).toInt = -1 from rfl]; omega
  · refine L 20 0 rfl _ (setA as ow set 0) (Omk.trans ob (Omk.trans o2 (Omk.o3 (Oth.set (Oth.set Oth.rfl'))))) (sva_set hv (by omega)) (fun v => setA_2) ?_ mset_at ?_
    · rw [mset_c2 (by omega), mset_c2 (by omega)]; exact y2
    · rw [mset_c4 (by decide), mset_at]; rfl
theorem m_bestOf {set : Nat} (hset : set < 32) (hv : SVA sd as ow) (hS : StR M sd as ow) (h : ∀ M', B9 M M' → StR M' sd as ow → M' 9 0 0 26 = nI (bst sd as ow set).2 → Q (some (pI (nI (bst sd as ow set).1))) M') : TT X kX9_bestOf 0 [some (pR (9, 0, 0)), some (pI (nI set)), none, none, none] [] M Q := by
  have l0 := hv.1.1
  have P3 : ∀ d k, k + d = 18 → ∀ M1, B9 M M1 → (∀ s, s < 18 → M1 9 0 26 s = M 9 0 22 s) → M1 9 0 0 26 = nI (bst sd as ow set).2 → (∀ s, s < k → M1 9 0 22 s = M 9 0 22 s) → TT X kX9_bestOf 99 [some (pR (9, 0, 0)), some (pI (nI set)), some (pI (nI (bst sd as ow set).1)), some (pI (nI k)), none] [] M1 Q := by
    intro d
    induction d with
    | zero =>
      intro k hk M1 b1 f1 g1 r1
      obtain rfl : k = 18 := by omega
      refine rX9_bestOf_99 <| br_t (by decide +kernel) <| h M1 b1 ⟨fun x hx => ?_, fun s hs => ⟨?_, ?_⟩⟩ g1
      · rw [b1.1.2 6 (by decide)]; exact hS.1 x hx
      · rw [b1.1.2 21 (by decide)]; exact (hS.2 s hs).1
      · rw [r1 s (by omega)]; exact (hS.2 s hs).2
    | succ d ih =>
      intro k hk M1 b1 f1 g1 r1
      have v18 : vp_in (nI k) 18 := vp_in_nI (by omega) (by decide)
      refine rX9_bestOf_99 <| br_f (nI_ge (a := k) (b := 18) (by omega) (by decide)) ⟨v18, v18, ?_⟩
      rw [clampI (by omega), nI_1]
      refine ih (k + 1) (by omega) _ (B9.trans b1 (B9.of (O9.set (ps := [22]) O9.rfl' (by decide)) (by decide))) (fun s hs => ?_) ?_ fun s hs => ?_
      · rw [mset_c3 (by decide)]; exact f1 s hs
      · rw [mset_c3 (by decide)]; exact g1
      · by_cases e : s = k
        · subst e; rw [mset_at]; exact f1 s (by omega)
        · rw [mset_c4 (by simp [e])]; exact r1 s (by omega)
  have one : ∀ (k : Nat) (M1 : Mem) (Q1 : Option PV → Mem → Prop) (a : NF), k ≤ 20 → SVA sd a ow → (∀ v, setA a ow set v = setA as ow set v) → StR M1 sd a ow → (∀ M2, O9 M1 M2 [22, 23, 24, 25] → StR M2 sd (setA as ow set k) ow → Q1 (some (pI (nI (tk sd (setA as ow set k) ow set)))) M2) → TT X kX9_setAsks 0 [some (pR (9, 0, 0)), some (pI (nI set)), some (pI (nI k)), none] [] M1 (rV fun M4 => TT X kX9_takenBy 0 [some (pR (9, 0, 0)), some (pI (nI set)), none, none, none, none] [] M4 Q1) := by
    intro k M1 Q1 a hk va ea ya g
    refine m_setAsks hset va ya fun M2 o2 y2 => ?_
    rw [ea k] at y2
    refine m_takenBy hset (sva_set hv hk) y2 fun M3 o3 y3 => g M3 (O9.trans (O9.sub o2 (by decide)) (O9.sub o3 (by decide))) y3
  have P2 : ∀ d k, k + d = 20 → ∀ M1 a, B9 M M1 → (∀ s, s < 18 → M1 9 0 26 s = M 9 0 22 s) → SVA sd a ow → (∀ v, setA a ow set v = setA as ow set v) → StR M1 sd a ow → M1 9 0 0 26 = nI (bsS sd as ow set k).2 → TT X kX9_bestOf 35 [some (pR (9, 0, 0)), some (pI (nI set)), some (pI (nI (bsS sd as ow set k).1)), some (pI (nI (k + 1))), none] [] M1 Q := by
    intro d
    induction d with
    | zero =>
      intro k hk M1 a b1 f1 va ea ya g1
      obtain rfl : k = 20 := by omega
      exact rX9_bestOf_35 <| br_t (by decide +kernel) <| P3 18 0 rfl M1 b1 f1 g1 (fun s hs => absurd hs (Nat.not_lt_zero s))
    | succ d ih =>
      intro k hk M1 a b1 f1 va ea ya g1
      have bb := bsS_b (set := set) hv k (by omega)
      have tb := tk_le (set := set) (sva_set (set := set) (v := k + 1) hv (by omega))
      refine rX9_bestOf_35 <| br_f (nI_nlt (a := 20) (by omega) (by decide)) <| one (k + 1) M1 _ a (by omega) va ea ya fun M2 o2 y2 => ?_
      show _ ∧ _
      have e26 : M2 9 0 0 26 = nI (bsS sd as ow set k).2 := by rw [o2.2 0 (by decide)]; exact g1
      have b2 : B9 M M2 := B9.trans b1 (B9.of o2 (by decide))
      have f2 : ∀ s, s < 18 → M2 9 0 26 s = M 9 0 22 s := fun s hs => by rw [o2.2 26 (by decide)]; exact f1 s hs
      have ih := ih (k + 1) (by omega)
      rw [mset_id, e26, nI_1]
      by_cases c : (bsS sd as ow set k).2 < tk sd (setA as ow set (k + 1)) ow set
      · rw [show bsS sd as ow set (k + 1) = (k + 1, tk sd (setA as ow set (k + 1)) ow set) from if_pos c] at ih
        have nc := nI_ge c (by omega)
        refine br_f nc <| br_f nc <| ih _ (setA as ow set (k + 1)) (B9.set b2) (fun s hs => ?_) (sva_set hv (by omega)) (fun v => setA_2) ?_ mset_at
        · rw [mset_c3 (by decide)]; exact f2 s hs
        · refine ⟨fun x hx => ?_, fun s hs => ?_⟩
          · rw [mset_c3 (by decide)]; exact y2.1 x hx
          · rw [mset_c3 (by decide), mset_c3 (by decide)]; exact y2.2 s hs
      · rw [show bsS sd as ow set (k + 1) = bsS sd as ow set k from if_neg c] at ih
        have yc := nI_le (a := tk sd (setA as ow set (k + 1)) ow set) (b := (bsS sd as ow set k).2) (by omega) (by omega)
        exact br_t yc <| br_t yc <| ih _ (setA as ow set (k + 1)) b2 f2 (sva_set hv (by omega)) (fun v => setA_2) y2 e26
  have P1 : ∀ d k, k + d = 18 → ∀ M1, O9 (mset M 9 0 0 26 (-1)) M1 [26] → (∀ s, s < k → M1 9 0 26 s = M 9 0 22 s) → TT X kX9_bestOf 9 [some (pR (9, 0, 0)), some (pI (nI set)), some (pI 0), some (pI (nI k)), none] [] M1 Q := by
    intro d
    induction d with
    | zero =>
      intro k hk M1 o1 f1
      obtain rfl : k = 18 := by omega
      have b1 : B9 M M1 := B9.trans (B9.set B9.rfl') (B9.of o1 (by decide))
      have s1 : StR M1 sd as ow := by
        refine ⟨fun x hx => ?_, fun s hs => ?_⟩
        · rw [o1.2 6 (by decide), mset_c3 (by decide)]; exact hS.1 x hx
        · rw [o1.2 21 (by decide), o1.2 22 (by decide), mset_c3 (by decide), mset_c3 (by decide)]; exact hS.2 s hs
      have tb := tk_le (set := set) (sva_set (set := set) (v := 0) hv (by omega))
      refine rX9_bestOf_9 <| br_t (by decide +kernel) <| rX9_bestOf_35 <| br_f (by decide) <| one 0 M1 _ as (by decide) hv (fun _ => rfl) s1 fun M2 o2 y2 => ?_
      show _ ∧ _
      have e26 : M2 9 0 0 26 = -1 := by rw [o2.2 0 (by decide), o1.2 0 (by decide)]; exact mset_at
      have nc : ¬ nI (tk sd (setA as ow set 0) ow set) ≤ -1 := by
        rw [i32_le, nI_int (by omega), show (-1 : Int32).toInt = -1 from rfl]; omega
      rw [mset_id, e26]
      refine br_f nc <| br_f nc <| P2 20 0 rfl _ (setA as ow set 0) (B9.set (B9.trans b1 (B9.of o2 (by decide)))) (fun s hs => ?_) (sva_set hv (by omega)) (fun v => setA_2) ?_ mset_at
      · rw [mset_c3 (by decide), o2.2 26 (by decide)]; exact f1 s hs
      · refine ⟨fun x hx => ?_, fun s hs => ?_⟩
        · rw [mset_c3 (by decide)]; exact y2.1 x hx
        · rw [mset_c3 (by decide), mset_c3 (by decide)]; exact y2.2 s hs
    | succ d ih =>
      intro k hk M1 o1 f1
      have v18 : vp_in (nI k) 18 := vp_in_nI (by omega) (by decide)
      refine rX9_bestOf_9 <| br_f (nI_ge (a := k) (b := 18) (by omega) (by decide)) ⟨v18, v18, ?_⟩
      rw [clampI (by omega), nI_1]
      refine ih (k + 1) (by omega) _ (O9.set o1 (by decide)) fun s hs => ?_
      by_cases e : s = k
      · subst e; rw [mset_at, o1.2 22 (by decide), mset_c3 (by decide)]
      · rw [mset_c4 (by simp [e])]; exact f1 s (by omega)
  exact rX9_bestOf_0 (P1 18 0 rfl _ O9.rfl' (fun s hs => absurd hs (Nat.not_lt_zero s)))
theorem m_canTake {set : Nat} (hset : set < 32) (hv : SVA sd as ow) (hS : StR M sd as ow) (h : ∀ M', B9 M M' → StR M' sd as ow → Q (some (pI (nI (bst sd as ow set).2))) M') : TT X kX9_canTake 0 [some (pR (9, 0, 0)), some (pI (nI set)), none] [] M Q := by
  refine rX9_canTake_0 <| m_haveSteps hset hv hS ?_
  by_cases c : hasS ow set (sd 0) = true
  · refine bn_t c <| m_bestOf hset hv hS fun M1 b1 s1 e1 => ?_
    show Q _ _
    rw [e1]
    exact h M1 b1 s1
  · have := h M B9.rfl' hS
    rw [bst_0 (Bool.eq_false_iff.mpr c)] at this
    exact bn_f c this
theorem s_bestTakenBy {set : Nat} (hset : set < 32) (hv : SV sd) (hS : StX (M 6 0) sd) (h : ∀ M', Omk M M' 2 → Q (some (pI (nI (bst sd (sAs sd) (sOw sd) set).2))) M') : TT X kX8_bestTakenBy 0 [some (pR (8, 0, 0)), some (pI (nI set))] [] M Q := by
  refine rX8_bestTakenBy_0 <| s_takeOver (by decide) (by decide) (by decide) hS hv.1 hv.2.1 fun M1 o1 x1 => s_seek (by decide) hset (sva_of hv) (stx_y x1) fun M2 o2 y2 b1 b2 => rX3_bestTaken_0 ?_
  show Q _ _
  rw [b2]
  exact h M2 (Omk.trans (Omk.o6 o1) o2)
end SEEK
