/-! turns -/
theorem bit_pow {o x : Nat} : bit (2 ^ o) x = true ↔ x = o := by
  unfold bit
  rw [Nat.testBit_two_pow]
  constructor
  · intro h; exact (of_decide_eq_true h).symm
  · intro h; exact decide_eq_true h.symm
theorem hasS_e {ow : NF} {set : Nat} : ∀ {n}, hasS ow set n = true → ∃ s, s < n ∧ bit set (ow s) = true
  | 0, h => by simp [hasS] at h
  | n + 1, h => by
    have h' : (hasS ow set n || bit set (ow n)) = true := h
    rw [Bool.or_eq_true] at h'
    rcases h' with q | q
    · obtain ⟨s, a, b⟩ := hasS_e q
      exact ⟨s, by omega, b⟩
    · exact ⟨n, by omega, q⟩
def AllA (ow as : NF) (set n v : Nat) : Prop := ∀ s, s < n → bit set (ow s) = true → as s = v
theorem chg_iff {sd as ow : NF} {o : Nat} : chg1 sd as ow o = true ↔ hasS ow (2 ^ o) (sd 0) = true ∧ ¬ AllA ow as (2 ^ o) (sd 0) (bst sd as ow (2 ^ o)).1 := by
  unfold chg1
  rw [Bool.and_eq_true, List.any_eq_true]
  constructor
  · rintro ⟨a, s, b, c⟩
    refine ⟨a, fun q => ?_⟩
    rw [Bool.and_eq_true] at c
    have := q s (List.mem_range.mp b) c.1
    rw [this] at c
    simp at c
  · rintro ⟨a, b⟩
    refine ⟨a, ?_⟩
    apply Classical.byContradiction
    intro q
    refine b fun s hs hb => ?_
    apply Classical.byContradiction
    intro r
    exact q ⟨s, List.mem_range.mpr hs, by rw [hb]; simpa using r⟩
theorem sva_turn {sd as ow : NF} {o : Nat} (h : SVA sd as ow) : SVA sd (turn1 sd as ow o) ow := by
  unfold turn1
  split
  · exact sva_set h (bst_b h).1
  · exact h
theorem sva_rnd {sd as ow : NF} (h : SVA sd as ow) : ∀ k, SVA sd (rnd sd ow as k).1 ow
  | 0 => h
  | k + 1 => sva_turn (sva_rnd h k)
theorem sva_trS {sd as ow : NF} (h : SVA sd as ow) : ∀ r, SVA sd (trS sd ow as r).1 ow
  | 0 => h
  | r + 1 => by
    show SVA sd (if _ then _ else _ : NF × Nat).1 ow
    split
    · exact sva_rnd (sva_trS h r) 5
    · exact sva_trS h r
/-- what an owner asks behind a round -/
def behN (sd ow as : NF) (o : Nat) : Int32 := if hasS ow (2 ^ o) (sd 0) = true then nI (bst sd (rnd sd ow as o).1 ow (2 ^ o)).1 else -1000000
theorem rnd_keep {sd ow as : NF} {o s : Nat} (hs : s < sd 0) (e : ow s = o) : ∀ d, (rnd sd ow as (o + 1 + d)).1 s = (bst sd (rnd sd ow as o).1 ow (2 ^ o)).1
  | 0 => by
    show turn1 sd (rnd sd ow as o).1 ow o s = _
    unfold turn1
    rw [if_pos (show hasS ow (2 ^ o) (sN sd) = true from hasS_t (s := s) hs (bit_pow.mpr e))]
    unfold setA
    rw [if_pos (bit_pow.mpr e)]
  | d + 1 => by
    have ih := rnd_keep (as := as) hs e d
    show turn1 sd (rnd sd ow as (o + 1 + d)).1 ow (o + 1 + d) s = _
    unfold turn1
    split
    · unfold setA
      rw [if_neg (fun q => by have := bit_pow.mp q; omega)]
      exact ih
    · exact ih
theorem nI_nn {a : Nat} (h : a < 2 ^ 31) : ¬ nI a = -1000000 := by
  intro q
  have := i32_eq.mp q
  rw [nI_int h, show (-1000000 : Int32).toInt = -1000000 from rfl] at this
  omega
theorem firstA_no {ow as : NF} {o : Nat} : ∀ n, (∀ s, s < n → ¬ ow s = o) → firstA ow as o n = -1000000
  | 0, _ => rfl
  | n + 1, h => by
    show (if firstA ow as o n = -1000000 then _ else _) = _
    rw [if_pos (firstA_no n (fun s hs => h s (by omega))), if_neg (h n (by omega))]
theorem firstA_at {ow as : NF} {o s : Nat} (ha : ow s = o) (hl : as s < 2 ^ 31) (hb : ∀ t, t < s → ¬ ow t = o) : ∀ d, firstA ow as o (s + 1 + d) = nI (as s)
  | 0 => by
    show (if firstA ow as o s = -1000000 then _ else _) = _
    rw [if_pos (firstA_no s hb), if_pos ha]
  | d + 1 => by
    have ih := firstA_at ha hl hb d
    show (if firstA ow as o (s + 1 + d) = -1000000 then _ else firstA ow as o (s + 1 + d)) = _
    rw [ih, if_neg (nI_nn hl)]
theorem beh_first {sd ow as : NF} {o : Nat} (hv : SVA sd as ow) (ho : o < 5) : behN sd ow as o = firstA ow (rnd sd ow as 5).1 o (sd 0) := by
  unfold behN
  by_cases c : hasS ow (2 ^ o) (sd 0) = true
  · rw [if_pos c]
    obtain ⟨s0, a0, b0⟩ := hasS_e c
    obtain ⟨s, ⟨a, b⟩, m⟩ := pk_least (fun s => s < sd 0 ∧ ow s = o) ⟨s0, a0, bit_pow.mp b0⟩
    have k := rnd_keep (as := as) a b (4 - o)
    rw [show o + 1 + (4 - o) = 5 by omega] at k
    have b20 := (bst_b (set := 2 ^ o) (sva_rnd hv o)).1
    have := firstA_at (ow := ow) (as := (rnd sd ow as 5).1) b (by rw [k]; omega) (fun t ht q => m t ht ⟨by omega, q⟩) (sd 0 - (s + 1))
    rw [show s + 1 + (sd 0 - (s + 1)) = sd 0 by omega] at this
    rw [this, k]
  · rw [if_neg c]
    exact (firstA_no _ (fun s hs q => c (hasS_t hs (bit_pow.mpr q)))).symm
theorem trS_stop {sd ow as : NF} {r : Nat} (h : ¬ (trS sd ow as r).2 = 0) : ∀ d, trS sd ow as (r + d) = trS sd ow as r
  | 0 => rfl
  | d + 1 => by
    have ih := trS_stop h d
    show (if (trS sd ow as (r + d)).2 = 0 then _ else trS sd ow as (r + d)) = _
    rw [ih, if_neg h]
theorem trS_le {sd ow as : NF} : ∀ r, (trS sd ow as r).2 ≤ r
  | 0 => Nat.le_refl _
  | r + 1 => by
    have ih := trS_le (sd := sd) (ow := ow) (as := as) r
    show (if _ then _ else _ : NF × Nat).2 ≤ _
    split
    · dsimp only
      split <;> omega
    · omega
def tR (x : Nat) : Int32 := if x = 0 then -1000000 else nI x
/-! scratch, and the turns -/
def Sc7 (M M' : Mem) : Prop := (∀ c i, ¬ c = 2 → ¬ c = 3 → ¬ (c = 6 ∧ (i = 1 ∨ i = 2)) → ¬ c = 7 → ¬ (c = 9 ∧ i = 0) → M' c i = M c i) ∧ (∀ p, p ∉ [0, 7, 21, 22, 23, 24, 25, 26] → M' 9 0 p = M 9 0 p) ∧ ∀ x, x ∈ [1, 7, 9, 11, 12, 30] → M' 9 0 0 x = M 9 0 0 x
theorem inv_sc7 {M M' : Mem} (hI : Inv M) (h : Sc7 M M') (ht : TurnsR (M' 7 0) (M 9 0 6)) : Inv M' := by
  obtain ⟨h1, h2, h3⟩ := h
  have e5 := h1 5 0 (by decide) (by decide) (by decide) (by decide) (by decide)
  have e4 := h1 4 0 (by decide) (by decide) (by decide) (by decide) (by decide)
  have e8 := h1 8 0 (by decide) (by decide) (by decide) (by decide) (by decide)
  have e6 := h1 6 0 (by decide) (by decide) (by decide) (by decide) (by decide)
  have e0 := h1 0 0 (by decide) (by decide) (by decide) (by decide) (by decide)
  have e1 := h1 1 0 (by decide) (by decide) (by decide) (by decide) (by decide)
  have e63 : ∀ k, M' 6 (k + 3) = M 6 (k + 3) := fun k => h1 6 (k + 3) (by decide) (by decide) (by omega) (by omega) (by omega)
  unfold Inv at hI ⊢
  rw [e5, e4, e8, e6, e0, e1, h2 3 (by decide), h2 4 (by decide), h2 5 (by decide), h2 6 (by decide), h2 9 (by decide), h2 11 (by decide), h2 28 (by decide), h2 29 (by decide), h2 30 (by decide), h3 1 (by decide), h3 7 (by decide), h3 9 (by decide), h3 11 (by decide), h3 12 (by decide), h3 30 (by decide)]
  simp only [e63]
  obtain ⟨i1, i2, i3, i4, i5, i6, i7, i8, -⟩ := hI
  exact ⟨i1, i2, i3, i4, i5, i6, i7, i8, ht⟩
def Opl (M M' : Mem) : Prop := ∀ c i, ¬ (c = 2 ∧ i = 1) → ¬ (c = 3 ∧ i = 0) → ¬ (c = 6 ∧ i = 2) → ¬ (c = 7 ∧ i = 0) → M' c i = M c i
theorem Opl.rfl' {M : Mem} : Opl M M := fun _ _ _ _ _ _ => rfl
theorem Opl.trans {M M1 M2 : Mem} (h : Opl M M1) (h2 : Opl M1 M2) : Opl M M2 := fun c i a b d e => (h2 c i a b d e).trans (h c i a b d e)
theorem Opl.mk {M M' : Mem} (h : Omk M M' 2) : Opl M M' := fun c i a b d _ => h c i a b d
theorem Opl.o7 {M M' : Mem} (h : Oth M M' 7 0) : Opl M M' := fun c i _ _ _ e => h c i e
section TURNS
variable {X : Nat × (Nat → Int32)} {M : Mem} {Q : Option PV → Mem → Prop} {sd as ow : NF}
theorem s_allAsk {j set v : Nat} (hj : j < 5) (hset : set < 32) (hvv : v ≤ 20) (hv : SVA sd as ow) (hS : StY (M 6 j) sd as ow) (ht : AllA ow as set (sd 0) v → Q (some (pI 1)) M) (hf : ¬ AllA ow as set (sd 0) v → Q (some (pI 0)) M) : TT X kX6_allAsk 0 [some (pR (6, j, 0)), some (pI (nI set)), some (pI (nI v)), none] [] M Q := by
  have l0 := hv.1.1
  have L : ∀ d k, k + d = sd 0 → AllA ow as set k v → TT X kX6_allAsk 2 [some (pR (6, j, 0)), some (pI (nI set)), some (pI (nI v)), some (pI (nI k))] [] M Q := by
    intro d
    induction d with
    | zero =>
      intro k hk ha
      obtain rfl : k = sd 0 := by omega
      exact rX6_allAsk_2 hj <| br_t (by rw [hS.1]; exact nI_le (Nat.le_refl _) (by omega)) (ht ha)
    | succ d ih =>
      intro k hk ha
      refine rX6_allAsk_2 hj <| br_f (by rw [hS.1]; exact nI_ge (by omega) (by omega)) <| s_isOfS hj hset hv hS (by omega) ?_
      have a20 := (hv.2 k (by omega)).1
      show _ ∧ _
      rw [nI_1, clampI (by omega), (hS.2.2.1 k (by omega)).2.1]
      by_cases c : bit set (ow k) = true
      · refine bz_t c ⟨vp_in_nI (by omega) (by decide), ?_⟩
        by_cases e : as k = v
        · refine br_t (by rw [e]) <| ih (k + 1) (by omega) fun s hs hb => ?_
          by_cases z : s = k
          · subst z; exact e
          · exact ha s (by omega) hb
        · exact br_f (fun q => e ((nI_eq (by omega) (by omega)).mp q)) <| hf fun q => e (q k (by omega) c)
      · refine bz_f c <| ih (k + 1) (by omega) fun s hs hb => ?_
        by_cases z : s = k
        · subst z; exact absurd hb c
        · exact ha s (by omega) hb
  exact rX6_allAsk_0 hj (L _ 0 (Nat.zero_add _) (fun s hs => absurd hs (Nat.not_lt_zero s)))
theorem s_common {j set b : Nat} (hj : j < 5) (hset : set < 32) (hb : b ≤ 20) (hv : SVA sd as ow) (hS : StY (M 6 j) sd as ow) (hh : hasS ow set (sd 0) = true) (h : ∀ r : Int32, (nI b = r ↔ AllA ow as set (sd 0) b) → Q (some (pI r)) M) : TT X kX7_commonAsking 0 [some (pR (6, j, 0)), some (pI (nI set)), none] [] M Q := by
  obtain ⟨s, hs, hbs⟩ := hasS_e hh
  have L : ∀ d v, v + d = 21 → (∀ u, u < v → ¬ AllA ow as set (sd 0) u) → TT X kX7_commonAsking 2 [some (pR (6, j, 0)), some (pI (nI set)), some (pI (nI v))] [] M Q := by
    intro d
    induction d with
    | zero =>
      intro v hv' hu
      obtain rfl : v = 21 := by omega
      exact rX7_commonAsking_2 hj <| br_t (by decide +kernel) <| h _ ⟨fun q => absurd q (nI_nn (by omega)), fun q => absurd q (hu b (by omega))⟩
    | succ d ih =>
      intro v hv' hu
      refine rX7_commonAsking_2 hj <| br_f (nI_nlt (a := 20) (by omega) (by decide)) <| s_allAsk hj hset (by omega) hv hS (fun q => ?_) (fun q => ?_)
      · refine ⟨fun z => absurd z (by decide), fun _ => h _ ⟨fun e => ?_, fun e => ?_⟩⟩
        · have := (nI_eq (by omega) (by omega)).mp e
          subst this; exact q
        · rw [← q s hs hbs, ← e s hs hbs]
      · refine ⟨fun _ => ?_, fun z => absurd rfl z⟩
        show TT _ _ _ _ _ _ _
        rw [nI_1]
        refine ih (v + 1) (by omega) fun u hu' => ?_
        by_cases z : u = v
        · subst z; exact q
        · exact hu u (by omega)
  exact rX7_commonAsking_0 hj (L 21 0 rfl (fun u q => absurd q (Nat.not_lt_zero u)))
theorem s_round (hv : SVA sd as ow) (hS : StY (M 6 2) sd as ow) (h : ∀ M', Opl M M' → M' 7 0 0 = M 7 0 0 → StY (M' 6 2) sd (rnd sd ow as 5).1 ow → (∀ o, o < 5 → M' 7 0 1 o = behN sd ow as o) → Q (some (pI (bI ((rnd sd ow as 5).2 = true)))) M') : TT X kX7_isChangedInRound 0 [some (pR (7, 0, 0)), some (pR (6, 2, 0)), some (pR (3, 0, 0)), none, none, none] [] M Q := by
  have L : ∀ d k, k + d = 5 → ∀ M1, Opl M M1 → M1 7 0 0 = M 7 0 0 → StY (M1 6 2) sd (rnd sd ow as k).1 ow → (∀ o, o < k → M1 7 0 1 o = behN sd ow as o) → TT X kX7_isChangedInRound 5 [some (pR (7, 0, 0)), some (pR (6, 2, 0)), some (pR (3, 0, 0)), some (pI (bI ((rnd sd ow as k).2 = true))), some (pI (nI k)), none] [] M1 Q := by
    intro d
    induction d with
    | zero =>
      intro k hk M1 o1 e1 y1 b1
      obtain rfl : k = 5 := by omega
      exact rX7_isChangedInRound_5 (by decide) <| br_t (by decide +kernel) ⟨bI_01, h M1 o1 e1 y1 b1⟩
    | succ d ih =>
      intro k hk M1 o1 e1 y1 b1
      have ih := ih (k + 1) (by omega)
      have va := sva_rnd hv k
      have pk := pow_lt k (by omega)
      have v5 : vp_in (nI k) 5 := vp_in_nI (by omega) (by decide)
      refine rX7_isChangedInRound_5 (by decide) <| br_f (nI_ge (a := k) (b := 5) (by omega) (by decide)) ⟨v5, ?_⟩
      rw [shl1 k (by omega), clampI (by omega), nI_1]
      have y2 : StY ((mset M1 7 0 1 k (-1000000)) 6 2) sd (rnd sd ow as k).1 ow := by rw [mset_c2 (by decide)]; exact y1
      refine s_ownAny (by decide) pk va y2 ?_
      have er : (rnd sd ow as (k + 1)).1 = turn1 sd (rnd sd ow as k).1 ow k := rfl
      have ec : (rnd sd ow as (k + 1)).2 = ((rnd sd ow as k).2 || chg1 sd (rnd sd ow as k).1 ow k) := rfl
      by_cases c : hasS ow (2 ^ k) (sd 0) = true
      rotate_left
      · have cf : chg1 sd (rnd sd ow as k).1 ow k = false := Bool.eq_false_iff.mpr fun q => c (chg_iff.mp q).1
        have ef : turn1 sd (rnd sd ow as k).1 ow k = (rnd sd ow as k).1 := by unfold turn1; exact if_neg c
        rw [ec, cf, Bool.or_false, er, ef] at ih
        refine bz_f c <| ih _ (Opl.trans o1 (Opl.o7 (Oth.set Oth.rfl'))) (by rw [mset_c3 (by decide)]; exact e1) y2 fun o ho => ?_
        by_cases z : o = k
        · subst z
          rw [mset_at]
          unfold behN
          rw [if_neg c]
        · rw [mset_c4 (by simp [z])]
          exact b1 o (by omega)
      have bb := (bst_b (set := 2 ^ k) va).1
      have ef : turn1 sd (rnd sd ow as k).1 ow k = setA (rnd sd ow as k).1 ow (2 ^ k) (bst sd (rnd sd ow as k).1 ow (2 ^ k)).1 := by unfold turn1; exact if_pos c
      refine bz_t c <| s_common (b := (bst sd (rnd sd ow as k).1 ow (2 ^ k)).1) (by decide) pk bb va y2 c fun r hr => ?_
      refine s_seek (by decide) pk va y2 fun M3 o3 y3 q1 q2 => rX3_bestAsking_0 ?_
      show _ ∧ _
      rw [q1, mset_at]
      refine ⟨v5, ?_⟩
      have nxt : ∀ b : Bool, (rnd sd ow as (k + 1)).2 = b → TT X kX7_isChangedInRound 5 [some (pR (7, 0, 0)), some (pR (6, 2, 0)), some (pR (3, 0, 0)), some (pI (bI (b = true))), some (pI (nI (k + 1))), none] [] (mset M3 7 0 1 k (nI (bst sd (rnd sd ow as k).1 ow (2 ^ k)).1)) Q := by
        intro b hb
        rw [er, ef, hb] at ih
        refine ih _ (Opl.trans o1 (Opl.trans (Opl.o7 (Oth.set Oth.rfl')) (Opl.trans (Opl.mk o3) (Opl.o7 (Oth.set Oth.rfl'))))) ?_ ?_ fun o ho => ?_
        · rw [mset_c3 (by decide), o3 7 0 (by decide) (by decide) (by decide), mset_c3 (by decide)]; exact e1
        · rw [mset_c2 (by decide)]; exact y3
        · by_cases z : o = k
          · subst z
            rw [mset_at]
            unfold behN
            rw [if_pos c]
          · rw [mset_c4 (by simp [z]), o3 7 0 (by decide) (by decide) (by decide), mset_c4 (by simp [z])]
            exact b1 o (by omega)
      by_cases g : (rnd sd ow as k).2 = true
      · exact bn_t g <| nxt true (by rw [ec, g]; rfl)
      · refine bn_f g ⟨v5, ?_⟩
        have g' := Bool.eq_false_iff.mpr g
        by_cases e : nI (bst sd (rnd sd ow as k).1 ow (2 ^ k)).1 = r
        · refine br_t e <| nxt false ?_
          rw [ec, g', Bool.false_or]
          exact Bool.eq_false_iff.mpr fun q => (chg_iff.mp q).2 (hr.mp e)
        · refine br_f e <| nxt true ?_
          rw [ec, g', Bool.false_or]
          exact chg_iff.mpr ⟨c, fun q => e (hr.mpr q)⟩
  exact rX7_isChangedInRound_0 (by decide) (L 5 0 rfl M Opl.rfl' rfl hS (fun o q => absurd q (Nat.not_lt_zero o)))
/-- the turns as they are played -/
def TP (F : Nat → Nat → Int32) (sd ow : NF) (t : NF × Nat) : Prop := F 0 2 = 1 ∧ F 0 1 = tR t.2 ∧ ∀ o, o < 5 → F 1 o = firstA ow t.1 o (sd 0)
theorem s_play (hv : SVA sd as ow) (hS : StX (M 6 0) sd) (ea : as = sAs sd) (eo : ow = sOw sd) (h0 : M 7 0 0 2 = 0) (h : ∀ M', Opl M M' → TP (M' 7 0) sd ow (trS sd ow as 20) → Q none M') : TT X kX7_play 0 [some (pR (7, 0, 0)), some (pR (6, 0, 0)), some (pR (6, 2, 0)), some (pR (3, 0, 0)), none] [] M Q := by
  have L : ∀ d r, r + d = 20 → ∀ M1, Opl M M1 → StY (M1 6 2) sd (trS sd ow as r).1 ow → M1 7 0 0 2 = 1 → M1 7 0 0 1 = tR (trS sd ow as r).2 → (1 ≤ r → ∀ o, o < 5 → M1 7 0 1 o = firstA ow (trS sd ow as r).1 o (sd 0)) → TT X kX7_play 27 [some (pR (7, 0, 0)), some (pR (6, 0, 0)), some (pR (6, 2, 0)), some (pR (3, 0, 0)), some (pI (nI (r + 1)))] [] M1 Q := by
    intro d
    induction d with
    | zero =>
      intro r hr M1 o1 y1 p1 p2 p3
      obtain rfl : r = 20 := by omega
      exact rX7_play_27 (by decide) (by decide) <| br_t (by decide +kernel) <| h M1 o1 ⟨p1, p2, p3 (by decide)⟩
    | succ d ih =>
      intro r hr M1 o1 y1 p1 p2 p3
      have ih := ih (r + 1) (by omega)
      refine rX7_play_27 (by decide) (by decide) <| br_f (nI_nlt (a := 20) (by omega) (by decide)) ?_
      rw [p2]
      have tl := trS_le (sd := sd) (ow := ow) (as := as) r
      by_cases z : (trS sd ow as r).2 = 0
      rotate_left
      · refine nr_f (by unfold tR; rw [if_neg z]; exact nI_nn (by omega)) <| h M1 o1 ?_
        have st := trS_stop z (20 - r)
        rw [show r + (20 - r) = 20 by omega] at st
        rw [st]
        exact ⟨p1, p2, p3 (by omega)⟩
      refine nr_t (by unfold tR; rw [if_pos z]) <| s_round (sva_trS hv r) y1 fun M2 o2 e2 y2 b2 => ?_
      have es : trS sd ow as (r + 1) = ((rnd sd ow (trS sd ow as r).1 5).1, if (rnd sd ow (trS sd ow as r).1 5).2 then 0 else r + 1) := if_pos z
      have bh : ∀ o, o < 5 → M2 7 0 1 o = firstA ow (rnd sd ow (trS sd ow as r).1 5).1 o (sd 0) := fun o ho => by rw [b2 o ho]; exact beh_first (sva_trS hv r) ho
      rw [nI_1]
      rw [es] at ih
      by_cases c : (rnd sd ow (trS sd ow as r).1 5).2 = true
      · rw [if_pos c] at ih
        refine bn_t c <| ih M2 (Opl.trans o1 o2) y2 (by rw [e2]; exact p1) ?_ (fun _ => bh)
        rw [e2, p2, z]
      · rw [if_neg c] at ih
        refine bn_f c <| ih _ (Opl.trans o1 (Opl.trans o2 (Opl.o7 (Oth.set Oth.rfl')))) ?_ ?_ ?_ (fun _ o ho => ?_)
        · rw [mset_c2 (by decide)]; exact y2
        · rw [mset_c4 (by decide), e2]; exact p1
        · rw [mset_at]; unfold tR; rw [if_neg (by omega)]
        · rw [mset_c3 (by decide)]; exact bh o ho
  refine rX7_play_0 (by decide) (by decide) <| br_t h0 <| s_takeOver (by decide) (by decide) (by decide) (sd := sd) (by rw [mset_c2 (by decide), mset_c2 (by decide)]; exact hS) hv.1.1 hv.1.2.1 fun M1 o1 y1 => ?_
  refine L 20 0 rfl M1 (Opl.trans (Opl.o7 (Oth.set (Oth.set Oth.rfl'))) (Opl.mk (Omk.o6 o1))) ?_ ?_ ?_ (fun q => absurd q (by decide))
  · show StY _ sd as ow
    rw [ea, eo]; exact stx_y y1
  · rw [o1 7 0 (by decide), mset_c4 (by decide), mset_at]
  · rw [o1 7 0 (by decide), mset_at]; rfl
theorem m_changes {o : Nat} (ho : o < 5) (hv : SVA sd as ow) (hS : StR M sd as ow) (h : ∀ M', B9 M M' → StR M' sd (turn1 sd as ow o) ow → Q (some (pI (bI (chg1 sd as ow o = true)))) M') : TT X kX9_changes 0 [some (pR (9, 0, 0)), some (pI (nI o)), none, none, none] [] M Q := by
  have l0 := hv.1.1
  have pk := pow_lt o ho
  refine rX9_changes_0 ?_
  rw [shl1 o ho]
  refine m_haveSteps pk hv hS ?_
  by_cases c : hasS ow (2 ^ o) (sd 0) = true
  rotate_left
  · have ef : turn1 sd as ow o = as := by unfold turn1; exact if_neg c
    have := h M B9.rfl' (by rw [ef]; exact hS)
    rw [bI_f (fun q => c (chg_iff.mp q).1)] at this
    exact bn_f c this
  have bb := (bst_b (set := 2 ^ o) hv).1
  have ef : turn1 sd as ow o = setA as ow (2 ^ o) (bst sd as ow (2 ^ o)).1 := by unfold turn1; exact if_pos c
  refine bn_t c <| m_bestOf pk hv hS fun M1 b1 s1 _ => ?_
  have L : ∀ d k, k + d = sd 0 → ∀ b : Int32, (b = 0 ∧ AllA ow as (2 ^ o) k (bst sd as ow (2 ^ o)).1) ∨ (b = 1 ∧ ¬ AllA ow as (2 ^ o) k (bst sd as ow (2 ^ o)).1) → TT X kX9_changes 25 [some (pR (9, 0, 0)), some (pI (nI o)), some (pI (nI (bst sd as ow (2 ^ o)).1)), some (pI b), some (pI (nI k))] [] M1 Q := by
    intro d
    induction d with
    | zero =>
      intro k hk b hb
      obtain rfl : k = sd 0 := by omega
      refine rX9_changes_25 <| br_t (by rw [s1.1 0 (by decide)]; exact nI_le (Nat.le_refl _) (by omega)) ?_
      rw [shl1 o ho]
      refine m_setAsks pk hv s1 fun M2 o2 s2 => ⟨hb.imp And.left And.left, ?_⟩
      have := h M2 (B9.trans b1 (B9.of o2 (by decide))) (by rw [ef]; exact s2)
      rcases hb with ⟨rfl, q⟩ | ⟨rfl, q⟩
      · rwa [bI_f (fun r => (chg_iff.mp r).2 q)] at this
      · rwa [bI_t (chg_iff.mpr ⟨c, q⟩)] at this
    | succ d ih =>
      intro k hk b hb
      have o4 := (hv.2 k (by omega)).2
      have a20 := (hv.2 k (by omega)).1
      have v18 : vp_in (nI k) 18 := vp_in_nI (by omega) (by decide)
      refine rX9_changes_25 <| br_f (by rw [s1.1 0 (by decide)]; exact nI_ge (by omega) (by omega)) ?_
      rw [nI_1, clampI (by omega), (s1.2 k (by omega)).1, (s1.2 k (by omega)).2]
      rcases hb with ⟨rfl, q⟩ | ⟨rfl, q⟩
      · refine nr_t rfl ⟨v18, ?_⟩
        by_cases e : ow k = o
        · refine nr_t (by rw [e]) ⟨v18, ?_⟩
          by_cases g : as k = (bst sd as ow (2 ^ o)).1
          · refine br_t (by rw [g]) <| ih (k + 1) (by omega) 0 (Or.inl ⟨rfl, fun s hs hb => ?_⟩)
            by_cases z : s = k
            · subst z; exact g
            · exact q s (by omega) hb
          · exact br_f (fun r => g ((nI_eq (by omega) (by omega)).mp r)) <| ih (k + 1) (by omega) 1 (Or.inr ⟨rfl, fun r => g (r k (by omega) (bit_pow.mpr e))⟩)
        · refine nr_f (fun r => e ((nI_eq (by omega) (by omega)).mp r)) <| ih (k + 1) (by omega) 0 (Or.inl ⟨rfl, fun s hs hb => ?_⟩)
          by_cases z : s = k
          · subst z; exact absurd (bit_pow.mp hb) e
          · exact q s (by omega) hb
      · exact nr_f (by decide) <| ih (k + 1) (by omega) 1 (Or.inr ⟨rfl, fun r => q fun s hs hb => r s (by omega) hb⟩)
  exact L _ 0 (Nat.zero_add _) 0 (Or.inl ⟨rfl, fun s hs => absurd hs (Nat.not_lt_zero s)⟩)
/-- the reference's rounds -/
theorem m_rounds {b1 : Int32} (hv : SVA sd as ow) (hS : StR M sd as ow) (h : ∀ M', B9 M M' → StR M' sd (trS sd ow as 20).1 ow → (0 ≤ b1 → TT X kX9_turnsOf 118 [some (pR (9, 0, 0)), some (pI b1), some (pI (tR (trS sd ow as 20).2)), some (pI 0), none, none] [] M' Q) ∧ (¬ 0 ≤ b1 → Q (some (pI (tR (trS sd ow as 20).2))) M')) : TT X kX9_turnsOf 41 [some (pR (9, 0, 0)), some (pI b1), some (pI (-1000000)), some (pI 1), none, none] [] M Q := by
  have L : ∀ d r, r + d = 20 → ∀ M1, B9 M M1 → StR M1 sd (trS sd ow as r).1 ow → TT X kX9_turnsOf 41 [some (pR (9, 0, 0)), some (pI b1), some (pI (tR (trS sd ow as r).2)), some (pI (nI (r + 1))), none, none] [] M1 Q := by
    intro d
    induction d with
    | zero =>
      intro r hr M1 o1 s1
      obtain rfl : r = 20 := by omega
      exact rX9_turnsOf_41 <| br_t (by decide +kernel) <| h M1 o1 s1
    | succ d ih =>
      intro r hr M1 o1 s1
      have ih := ih (r + 1) (by omega)
      have tl := trS_le (sd := sd) (ow := ow) (as := as) r
      refine rX9_turnsOf_41 <| br_f (nI_nlt (a := 20) (by omega) (by decide)) ?_
      by_cases z : (trS sd ow as r).2 = 0
      rotate_left
      · refine nr_f (by unfold tR; rw [if_neg z]; exact nI_nn (by omega)) ?_
        have st := trS_stop z (20 - r)
        rw [show r + (20 - r) = 20 by omega] at st
        rw [← st]
        exact h M1 o1 (by rw [st]; exact s1)
      refine nr_t (by unfold tR; rw [if_pos z]) ?_
      have va := sva_trS hv r
      generalize hb2 : tR (trS sd ow as r).2 = b2
      have K : ∀ e k, k + e = 5 → ∀ M2, B9 M M2 → StR M2 sd (rnd sd ow (trS sd ow as r).1 k).1 ow → TT X kX9_turnsOf 59 [some (pR (9, 0, 0)), some (pI b1), some (pI b2), some (pI (nI (r + 1))), some (pI (bI ((rnd sd ow (trS sd ow as r).1 k).2 = true))), some (pI (nI k))] [] M2 Q := by
        intro e
        induction e with
        | zero =>
          intro k hk M2 o2 s2
          obtain rfl : k = 5 := by omega
          refine rX9_turnsOf_59 <| br_t (by decide +kernel) ?_
          have es : trS sd ow as (r + 1) = ((rnd sd ow (trS sd ow as r).1 5).1, if (rnd sd ow (trS sd ow as r).1 5).2 then 0 else r + 1) := if_pos z
          rw [es] at ih
          have ih := ih M2 o2 s2
          rw [nI_1]
          by_cases c : (rnd sd ow (trS sd ow as r).1 5).2 = true
          · rw [if_pos c] at ih
            exact bz_t c ih
          · rw [if_neg c] at ih
            unfold tR at ih
            rw [if_neg (by dsimp only; omega)] at ih
            exact bz_f c ih
        | succ e ih2 =>
          intro k hk M2 o2 s2
          refine rX9_turnsOf_59 <| br_f (nI_ge (a := k) (b := 5) (by omega) (by decide)) <| m_changes (by omega) (sva_rnd va k) s2 fun M3 o3 s3 => ?_
          have ih2 := ih2 (k + 1) (by omega) M3 (B9.trans o2 o3) s3
          rw [nI_1]
          have ec : (rnd sd ow (trS sd ow as r).1 (k + 1)).2 = ((rnd sd ow (trS sd ow as r).1 k).2 || chg1 sd (rnd sd ow (trS sd ow as r).1 k).1 ow k) := rfl
          rw [ec] at ih2
          by_cases c : chg1 sd (rnd sd ow (trS sd ow as r).1 k).1 ow k = true
          · rw [c, Bool.or_true, bI_t rfl] at ih2
            exact bn_t c ih2
          · rw [Bool.eq_false_iff.mpr c, Bool.or_false] at ih2
            refine bn_f c ?_
            by_cases g : (rnd sd ow (trS sd ow as r).1 k).2 = true
            · rw [bI_t g] at ih2
              exact bz_t g ih2
            · rw [bI_f g] at ih2
              exact bz_f g ih2
      exact K 5 0 rfl M1 o1 s1
  exact L 20 0 rfl M B9.rfl' hS
theorem m_first {b2 : Int32} {o : Nat} (ho : o < 5) (hv : SVA sd as ow) (hS : StR M sd as ow) (h : Q (some (pI (firstA ow as o (sd 0)))) M) : TT X kX9_turnsOf 118 [some (pR (9, 0, 0)), some (pI (nI o)), some (pI b2), some (pI 0), none, none] [] M Q := by
  have l0 := hv.1.1
  have L : ∀ d k, k + d = sd 0 → (∀ s, s < k → ¬ ow s = o) → TT X kX9_turnsOf 118 [some (pR (9, 0, 0)), some (pI (nI o)), some (pI b2), some (pI (nI k)), none, none] [] M Q := by
    intro d
    induction d with
    | zero =>
      intro k hk hn
      obtain rfl : k = sd 0 := by omega
      rw [firstA_no _ hn] at h
      exact rX9_turnsOf_118 <| br_t (by rw [hS.1 0 (by decide)]; exact nI_le (Nat.le_refl _) (by omega)) h
    | succ d ih =>
      intro k hk hn
      have o4 := (hv.2 k (by omega)).2
      have a20 := (hv.2 k (by omega)).1
      have v18 : vp_in (nI k) 18 := vp_in_nI (by omega) (by decide)
      refine rX9_turnsOf_118 <| br_f (by rw [hS.1 0 (by decide)]; exact nI_ge (by omega) (by omega)) ⟨v18, ?_⟩
      rw [nI_1, clampI (by omega), (hS.2 k (by omega)).1, (hS.2 k (by omega)).2]
      by_cases e : ow k = o
      · refine nr_t (by rw [e]) ⟨v18, ?_⟩
        have := firstA_at (as := as) e (by omega) hn (sd 0 - (k + 1))
        rw [show k + 1 + (sd 0 - (k + 1)) = sd 0 by omega] at this
        rw [← this]; exact h
      · refine nr_f (fun r => e ((nI_eq (by omega) (by omega)).mp r)) <| ih (k + 1) (by omega) fun s hs => ?_
        by_cases z : s = k
        · subst z; exact e
        · exact hn s (by omega)
  exact L _ 0 (Nat.zero_add _) (fun s hs => absurd hs (Nat.not_lt_zero s))
theorem pair_turnsOf {F : Int32 → Int32 → Mem → Prop} {a1 : Int32} (hI : Inv M) (h : ∀ v M', Inv M' → F v v M') : TT X kX8_turnsOf 0 [some (pR (8, 0, 0)), some (pI a1)] [] M (rI fun v1 M1 => TT X kX9_turnsOf 0 [some (pR (9, 0, 0)), some (pI a1), none, none, none, none] [] M1 (rI fun v2 M2 => F v1 v2 M2)) := by
  obtain ⟨n1, n2, n3, w1, w2, w3⟩ := now_of hI
  have hT := inv_thr (v := 0) hI
  obtain ⟨⟨h6, hv⟩, hX, hth⟩ := hI.2.2.2.2.1
  have hTR := hI.2.2.2.2.2.2.2.2
  by_cases c0 : sdOf (M 9 0 6) 0 = 0
  · refine rX8_turnsOf_0 <| s_isNone (by decide) (by omega) n2 <| bz_t c0 <| rX9_turnsOf_0 <| nr_t ?_ <| h _ _ hT
    rw [mset_c4 (by decide), hth, bI_f (fun q => q c0)]
  have th1 : M 9 0 0 7 = 1 := by rw [hth, bI_t c0]
  have t9 : ∀ M1, M1 9 0 = M 9 0 → ¬ (mset M1 9 0 0 0 0) 9 0 0 7 = 0 := fun M1 e => by rw [mset_c4 (by decide), e, th1]; decide
  by_cases c1 : -1 ≤ a1.toInt ∧ a1.toInt ≤ 4
  rotate_left
  · have ne : ¬ a1 = -1 := fun q => by subst q; exact c1 (by decide)
    refine rX8_turnsOf_0 <| s_isNone (by decide) (by omega) n2 <| bz_f c0 <| br_f ne <| s_isOwner <| bn_f (by omega) <| rX9_turnsOf_0 <| nr_f (t9 M rfl) <| s_in <| bn_f (by rw [i64]; exact c1) <| h _ _ hT
  have e5 : turnsA (sdOf (M 9 0 6)) = trS (sdOf (M 9 0 6)) (sOw (sdOf (M 9 0 6))) (sAs (sdOf (M 9 0 6))) 20 := rfl
  -- behind play
  have play : ∀ Q1 : Mem → Prop, (∀ M1, M1 9 0 = M 9 0 → Sc7 M M1 → TurnsR (M1 7 0) (M 9 0 6) → TP (M1 7 0) (sdOf (M 9 0 6)) (sOw (sdOf (M 9 0 6))) (turnsA (sdOf (M 9 0 6))) → Q1 M1) → TT X kX7_play 0 [some (pR (7, 0, 0)), some (pR (6, 0, 0)), some (pR (6, 2, 0)), some (pR (3, 0, 0)), none] [] M (rV Q1) := by
    intro Q1 g
    rcases hTR with z | ⟨z1, z2, z3⟩
    · refine s_play (sva_of hv) hX rfl rfl z fun M1 o1 t1 => g M1 (o1 9 0 (by decide) (by decide) (by decide) (by decide)) ⟨fun c i a b d e f => o1 c i (by omega) (by omega) (by omega) (by omega), fun p _ => by rw [o1 9 0 (by decide) (by decide) (by decide) (by decide)], fun x _ => by rw [o1 9 0 (by decide) (by decide) (by decide) (by decide)]⟩ ?_ t1
      exact Or.inr ⟨t1.1, t1.2.1, t1.2.2⟩
    · refine rX7_play_0 (by decide) (by decide) <| br_f (by rw [z1]; decide) <| g M rfl ⟨fun _ _ _ _ _ _ _ => rfl, fun _ _ => rfl, fun _ _ => rfl⟩ (Or.inr ⟨z1, z2, z3⟩) ⟨z1, z2, z3⟩
  have ref : ∀ (M1 : Mem) (u : Int32), M1 9 0 = M 9 0 → Sc7 M M1 → TurnsR (M1 7 0) (M 9 0 6) → (a1 = -1 → u = tR (turnsA (sdOf (M 9 0 6))).2) → (∀ o : Nat, o < 5 → a1 = nI o → u = firstA (sOw (sdOf (M 9 0 6))) (turnsA (sdOf (M 9 0 6))).1 o (sdOf (M 9 0 6) 0)) → TT X kX9_turnsOf 0 [some (pR (9, 0, 0)), some (pI a1), none, none, none, none] [] M1 (rI fun v2 M2 => F u v2 M2) := by
    intro M1 u e1 s1 t1 u1 u2
    refine rX9_turnsOf_0 <| nr_f (t9 M1 e1) <| s_in <| bn_t (by rw [i64]; exact c1) <| m_now hv (by rw [mset_c3 (by decide), e1]; exact h6) fun M2 o2 s2 => m_rounds (sva_of hv) s2 fun M3 o3 s3 => ?_
    have iv : Inv M3 := by
      have sc : Scr M1 M3 := Scr.trans Scr.thr (Scr.trans (Scr.o9 o2 (by decide)) (Scr.b9 o3))
      exact inv_scr (inv_sc7 hI s1 t1) sc
    refine ⟨fun z => ?_, fun z => ?_⟩
    · rw [i32_le, z0] at z
      obtain ⟨o, ho, rfl⟩ : ∃ o : Nat, o < 5 ∧ a1 = nI o := ⟨a1.toInt.toNat, by omega, nI_is (by omega)⟩
      refine m_first ho (sva_trS (sva_of hv) 20) s3 ?_
      rw [← e5, u2 o ho rfl]
      exact h _ _ iv
    · rw [i32_le, z0] at z
      have : a1 = -1 := i32_eq.mpr (by rw [show (-1 : Int32).toInt = -1 from rfl]; omega)
      rw [← e5, u1 this]
      exact h _ _ iv
  by_cases c2 : a1 = -1
  · refine rX8_turnsOf_0 <| s_isNone (by decide) (by omega) n2 <| bz_f c0 <| br_t c2 <| play _ fun M1 e1 s1 t1 tp => nr_t c2 <| rX7_rounds_0 <| ref M1 _ e1 s1 t1 (fun _ => tp.2.1) fun o ho q => ?_
    rw [c2] at q
    have := i32_eq.mp q
    rw [nI_int (by omega), show (-1 : Int32).toInt = -1 from rfl] at this
    omega
  · have ne : a1.toInt ≠ -1 := fun q => c2 (i32_eq.mpr q)
    obtain ⟨o, ho, rfl⟩ : ∃ o : Nat, o < 5 ∧ a1 = nI o := ⟨a1.toInt.toNat, by omega, nI_is (by omega)⟩
    refine rX8_turnsOf_0 <| s_isNone (by decide) (by omega) n2 <| bz_f c0 <| br_f c2 <| s_isOwner <| bn_t (by omega) <| play _ fun M1 e1 s1 t1 tp => nr_f c2 <| rX7_askedBehind_0 <| s_isOwner <| bz_t (by omega) ⟨vp_in_nI ho (by decide), ?_⟩
    rw [clampI (by omega)]
    refine ref M1 _ e1 s1 t1 (fun q => absurd q c2) fun o' ho' q => ?_
    have := (nI_eq (by omega) (by omega)).mp q
    subst this
    exact tp.2.2 o ho
end TURNS
