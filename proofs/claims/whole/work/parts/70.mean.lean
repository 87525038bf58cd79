/-! mean, shares -/
def fkS (sd : NF) : Nat → Nat
  | 0 => 0
  | v + 1 => fkS sd v + sFo sd v
theorem fkS_le {sd : NF} (hv : SV sd) : ∀ v, v ≤ sd 1 → v ≤ fkS sd v ∧ fkS sd v ≤ 20 * v
  | 0, _ => ⟨Nat.le_refl _, Nat.le_refl _⟩
  | v + 1, h => by
    obtain ⟨a, b⟩ := fkS_le hv v (by omega)
    obtain ⟨-, -, -, c, d⟩ := hv.2.2.2 v (by omega)
    have c' : 1 ≤ sFo sd v := c
    have d' : sFo sd v ≤ 20 := d
    show _ ≤ fkS sd v + sFo sd v ∧ fkS sd v + sFo sd v ≤ _
    omega
theorem gcd_st (a b : Nat) : Nat.gcd b (a % b) = Nat.gcd a b := by
  rw [Nat.gcd_comm b, ← Nat.gcd_rec b a, Nat.gcd_comm]
theorem mod_half {a r : Nat} (h0 : 0 < r) (h : r ≤ a) : 2 * (a % r) < a := by
  have h1 := Nat.div_add_mod a r
  have h2 := Nat.mod_lt a h0
  have h3 := Nat.div_pos h h0
  have h4 : r * 1 ≤ r * (a / r) := Nat.mul_le_mul_left r h3
  omega
section MEAN
variable {X : Nat × (Nat → Int32)} {M : Mem} {Q : Option PV → Mem → Prop}
theorem s_comDiv {a b : Nat} (ha : a < 2 ^ 31) (hb : b < 128) (h : Q (some (pI (nI (Nat.gcd a b)))) M) : TT X kX8_commonDivisor 0 [some (pI (nI a)), some (pI (nI b)), none, none, none, none] [] M Q := by
  have L : ∀ m hi lo i, lo < 2 ^ m → m ≤ 7 → i + 2 * m ≤ 63 → hi < 2 ^ 31 → Nat.gcd hi lo = Nat.gcd a b → TT X kX8_commonDivisor 7 [some (pI (nI a)), some (pI (nI b)), some (pI (nI hi)), some (pI (nI lo)), some (pI (nI i)), none] [] M Q := by
    intro m
    induction m with
    | zero =>
      intro hi lo i hl _ hi2 hh g
      obtain rfl : lo = 0 := by omega
      rw [Nat.gcd_zero_right] at g
      subst g
      exact rX8_commonDivisor_7 <| br_f (nI_ge (b := 64) (by omega) (by decide)) <| br_t (by decide +kernel) h
    | succ m ih =>
      intro hi lo i hl hm hi2 hh g
      have p7 : 2 ^ (m + 1) ≤ 128 := Nat.pow_le_pow_right (by decide) hm
      refine rX8_commonDivisor_7 <| br_f (nI_ge (b := 64) (by omega) (by decide)) ?_
      by_cases z : lo = 0
      · subst z
        rw [Nat.gcd_zero_right] at g
        subst g
        exact br_t (by decide +kernel) h
      refine br_f (nI_nle (by omega) (by omega)) ⟨nI_ne0 (by omega) (by omega), ?_⟩
      rw [pk_rem hh (by omega) (by omega), nI_1]
      rw [← gcd_st] at g
      have r1 := Nat.mod_lt hi (show 0 < lo by omega)
      refine rX8_commonDivisor_7 <| br_f (nI_ge (b := 64) (by omega) (by decide)) ?_
      by_cases y : hi % lo = 0
      · rw [y, Nat.gcd_zero_right] at g
        rw [y]
        subst g
        exact br_t (by decide +kernel) h
      refine br_f (nI_nle (by omega) (by omega)) ⟨nI_ne0 (by omega) (by omega), ?_⟩
      rw [pk_rem (by omega) (by omega) (by omega), nI_1]
      rw [← gcd_st] at g
      have mh := mod_half (a := lo) (r := hi % lo) (by omega) (by omega)
      refine ih _ _ _ ?_ (by omega) (by omega) (by omega) g
      rw [Nat.pow_succ] at hl
      omega
  exact rX8_commonDivisor_0 (L 7 a b 0 hb (by decide) (by decide) ha rfl)
theorem m_gcd {b1 b2 b3 b4 : Int32} {a b : Nat} (ha : a < 2 ^ 31) (hb : b < 2 ^ 31) (h0 : 0 < Nat.gcd a b) (h : Q (some (pI (if b2 = 0 then b4 / nI (Nat.gcd a b) else b3 / nI (Nat.gcd a b)))) M) : TT X kX9_mean 94 [some (pR (9, 0, 0)), some (pI b1), some (pI b2), some (pI b3), some (pI b4), some (pI (nI a)), some (pI (nI b)), none] [] M Q := by
  have L : ∀ d hi lo, lo ≤ d → hi < 2 ^ 31 → lo < 2 ^ 31 → Nat.gcd hi lo = Nat.gcd a b → TT X kX9_mean 94 [some (pR (9, 0, 0)), some (pI b1), some (pI b2), some (pI b3), some (pI b4), some (pI (nI hi)), some (pI (nI lo)), none] [] M Q := by
    intro d
    induction d with
    | zero =>
      intro hi lo hd hh hl g
      obtain rfl : lo = 0 := Nat.le_zero.mp hd
      rw [Nat.gcd_zero_right] at g
      subst g
      have ne := nI_ne0 h0 hh
      refine rX9_mean_94 <| br_t rfl ?_
      by_cases c : b2 = 0
      · rw [if_pos c] at h
        exact nr_t c ⟨ne, h⟩
      · rw [if_neg c] at h
        exact nr_f c ⟨ne, h⟩
    | succ d ih =>
      intro hi lo hd hh hl g
      by_cases z : lo = 0
      · exact ih hi lo (by omega) hh hl g
      have ne := nI_ne0 (show 0 < lo by omega) hl
      refine rX9_mean_94 <| br_f ne ⟨ne, ?_⟩
      rw [pk_rem hh (by omega) hl]
      have r1 := Nat.mod_lt hi (show 0 < lo by omega)
      exact ih _ _ (by omega) hl (by omega) (by rw [gcd_st]; exact g)
  exact L b a b (Nat.le_refl _) ha hb rfl
theorem s_allFolk {sd as ow : NF} {j : Nat} (hj : j < 5) (hv : SV sd) (hS : StY (M 6 j) sd as ow) (h : Q (some (pI (nI (fkS sd (sd 1))))) M) : TT X kX6_allFolk 0 [some (pR (6, j, 0)), none, none] [] M Q := by
  have l1 := hv.2.1
  have L : ∀ d k, k + d = sd 1 → TT X kX6_allFolk 4 [some (pR (6, j, 0)), some (pI (nI (fkS sd k))), some (pI (nI k))] [] M Q := by
    intro d
    induction d with
    | zero =>
      intro k hk
      obtain rfl : k = sd 1 := by omega
      exact rX6_allFolk_4 hj <| br_t (by rw [hS.2.1]; exact nI_le (Nat.le_refl _) (by omega)) h
    | succ d ih =>
      intro k hk
      refine rX6_allFolk_4 hj <| br_f (by rw [hS.2.1]; exact nI_ge (by omega) (by omega)) ⟨vp_in_nI (by omega) (by decide), ?_⟩
      rw [clampI (by omega), (hS.2.2.2 k (by omega)).2.2.2, nI_add, nI_1]
      exact ih (k + 1) (by omega)
  exact rX6_allFolk_0 hj (L _ 0 (Nat.zero_add _))
theorem pair_mean {F : Int32 → Int32 → Mem → Prop} {a1 a2 : Int32} (hI : Inv M) (h : ∀ v M', Inv M' → F v v M') : TT X kX8_mean 0 [some (pR (8, 0, 0)), some (pI a1), some (pI a2), none, none, none] [] M (rI fun v1 M1 => TT X kX9_mean 0 [some (pR (9, 0, 0)), some (pI a1), some (pI a2), none, none, none, none, none] [] M1 (rI fun v2 M2 => F v1 v2 M2)) := by
  obtain ⟨n1, n2, n3, w1, w2, w3⟩ := now_of hI
  have hT := inv_thr (v := 0) hI
  obtain ⟨⟨h6, hv⟩, hX, hth⟩ := hI.2.2.2.2.1
  by_cases c0 : sdOf (M 9 0 6) 0 = 0
  · refine rX8_mean_0 <| s_isNone (by decide) (by omega) n2 <| bz_t c0 <| rX9_mean_0 <| nr_t ?_ <| h _ _ hT
    rw [mset_c4 (by decide), hth, bI_f (fun q => q c0)]
  have th1 : M 9 0 0 7 = 1 := by rw [hth, bI_t c0]
  have t9 : ∀ M1, M1 9 0 = M 9 0 → ¬ (mset M1 9 0 0 0 0) 9 0 0 7 = 0 := fun M1 e => by rw [mset_c4 (by decide), e, th1]; decide
  by_cases c1 : 0 ≤ a1.toInt ∧ a1.toInt < 5
  rotate_left
  · exact rX8_mean_0 <| s_isNone (by decide) (by omega) n2 <| bz_f c0 <| s_isOwner <| bz_f c1 <| rX9_mean_0 <| nr_f (t9 M rfl) <| m_isOwner <| bz_f c1 <| h _ _ hT
  by_cases c2 : 0 ≤ a2.toInt ∧ a2.toInt ≤ 1
  rotate_left
  · have m : TT X kX9_mean 0 [some (pR (9, 0, 0)), some (pI a1), some (pI a2), none, none, none, none, none] [] M (rI fun v2 M2 => F (-1000001) v2 M2) := rX9_mean_0 <| nr_f (t9 M rfl) <| m_isOwner <| bz_t c1 <| s_in <| bn_f (by rw [i64]; exact c2) <| h _ _ hT
    refine rX8_mean_0 <| s_isNone (by decide) (by omega) n2 <| bz_f c0 <| s_isOwner <| bz_t c1 ⟨fun _ => m, fun z => ⟨fun y => absurd ?_ c2, fun _ => m⟩⟩
    rw [i32_lt, z0] at z
    rw [i32_le, one_i] at y
    omega
  have x3 : ¬ a2 < 0 := by rw [i32_lt, z0]; omega
  have x4 : a2 ≤ 1 := by rw [i32_le, one_i]; omega
  obtain ⟨o, ho, rfl⟩ : ∃ o : Nat, o < 5 ∧ a1 = nI o := ⟨a1.toInt.toNat, by omega, nI_is (by omega)⟩
  generalize hsd : sdOf (M 9 0 6) = sd at *
  have hva := sva_of hv
  have hY := stx_y hX
  have fl := fkS_le hv (sd 1) (Nat.le_refl _)
  have hp := pow_lt o ho
  -- the reference as far as the sum of the folk
  have ref : ∀ (M1 : Mem) (u : Int32), M1 9 0 = M 9 0 → (((¬ nI (fkS sd (sd 1)) = 0 → TT X kX9_layNow 0 [some (pR (9, 0, 0)), none] [] (mset M1 9 0 0 0 0) (rV fun M10 => TT X kX9_takenBy 0 [some (pR (9, 0, 0)), some (pI (1 <<< (nI o &&& 31))), none, none, none, none] [] M10 (rI fun v13 M12 => TT X kX9_mean 94 [some (pR (9, 0, 0)), some (pI (nI o)), some (pI a2), some (pI (nI (fkS sd (sd 1)))), some (pI v13), some (pI v13), some (pI (nI (fkS sd (sd 1)))), none] [] M12 (rI fun v2 M2 => F u v2 M2)))) ∧ (nI (fkS sd (sd 1)) = 0 → F u (-1000000) (mset M1 9 0 0 0 0)))) → TT X kX9_mean 0 [some (pR (9, 0, 0)), some (pI (nI o)), some (pI a2), none, none, none, none, none] [] M1 (rI fun v2 M2 => F u v2 M2) := by
    intro M1 u e1 g
    refine rX9_mean_0 <| nr_f (t9 M1 e1) <| m_isOwner <| bz_t c1 <| s_in <| bn_t (by rw [i64]; exact c2) ?_
    have e6 : ∀ x, x < 80 → (mset M1 9 0 0 0 0) 9 0 6 x = nI (sd x) := fun x hx => by rw [mset_c3 (by decide), e1]; exact h6 x hx
    have L : ∀ d k, k + d = sd 1 → TT X kX9_mean 40 [some (pR (9, 0, 0)), some (pI (nI o)), some (pI a2), some (pI (nI (fkS sd k))), some (pI (nI k)), none, none, none] [] (mset M1 9 0 0 0 0) (rI fun v2 M2 => F u v2 M2) := by
      intro d
      induction d with
      | zero =>
        intro k hk
        obtain rfl : k = sd 1 := by omega
        exact rX9_mean_40 <| br_t (by rw [e6 1 (by decide)]; exact nI_le (Nat.le_refl _) (by omega)) g
      | succ d ih =>
        intro k hk
        refine rX9_mean_40 <| br_f (by rw [e6 1 (by decide)]; exact nI_ge (by omega) (by omega)) <| m_walker (k := 3) (by omega) (by decide) ?_
        show TT _ _ _ _ _ _ _
        rw [e6 _ (by omega), nI_add, nI_1, show 56 + 4 * k + 3 = 59 + 4 * k by omega]
        exact ih (k + 1) (by omega)
    exact L _ 0 (Nat.zero_add _)
  refine rX8_mean_0 <| s_isNone (by decide) (by omega) n2 <| bz_f c0 <| s_isOwner <| bz_t c1 <| br_f x3 <| br_t x4 <| s_allFolk (by decide) hv hY ?_
  by_cases c3 : fkS sd (sd 1) = 0
  · rw [c3]
    refine br_f (by decide +kernel) <| ref M _ rfl <| nr_t (by rw [c3]; rfl) <| h _ _ hT
  refine br_t (nI_le (a := 1) (by omega) (by omega)) ?_
  rw [shl1 o ho]
  have tb := tk_le (set := 2 ^ o) hva
  have g0 : 0 < Nat.gcd (tk sd (sAs sd) (sOw sd) (2 ^ o)) (fkS sd (sd 1)) := Nat.gcd_pos_of_pos_right _ (by omega)
  have gl : Nat.gcd (tk sd (sAs sd) (sOw sd) (2 ^ o)) (fkS sd (sd 1)) ≤ fkS sd (sd 1) := Nat.gcd_le_right _ (by omega)
  refine s_taken (by decide) hp hva hY fun M1 o1 => s_comDiv (by omega) (by omega) <| br_t (nI_le (a := 1) (by omega) (by omega)) ?_
  have ne := nI_ne0 g0 (by omega)
  have fin : ∀ u : Int32, u = (if a2 = 0 then nI (tk sd (sAs sd) (sOw sd) (2 ^ o)) / nI (Nat.gcd (tk sd (sAs sd) (sOw sd) (2 ^ o)) (fkS sd (sd 1))) else nI (fkS sd (sd 1)) / nI (Nat.gcd (tk sd (sAs sd) (sOw sd) (2 ^ o)) (fkS sd (sd 1)))) → TT X kX9_mean 0 [some (pR (9, 0, 0)), some (pI (nI o)), some (pI a2), none, none, none, none, none] [] M1 (rI fun v2 M2 => F u v2 M2) := by
    intro u hu
    have e1 := o1 9 0 (by omega)
    refine ref M1 u e1 <| nr_f (nI_ne0 (by omega) (by omega)) <| m_now hv (by rw [mset_c3 (by decide), e1]; exact h6) fun M2 o2 s2 => ?_
    show TT _ _ _ _ _ _ _
    rw [shl1 o ho]
    refine m_takenBy hp hva s2 fun M3 o3 s3 => m_gcd (by omega) (by omega) g0 ?_
    rw [← hu]
    exact h _ _ (inv_scr hI (Scr.trans (Scr.oth o1 (by decide)) (Scr.trans Scr.thr (Scr.trans (Scr.o9 o2 (by decide)) (Scr.o9 o3 (by decide))))))
  by_cases c4 : a2 = 0
  · exact nr_t c4 ⟨ne, fin _ (if_pos c4).symm⟩
  · exact nr_f c4 ⟨ne, fin _ (if_neg c4).symm⟩
/-! shares -/
def shY (P two x : Nat) : Nat := max two (P - x)
def shX (A one P R : Nat) : Nat := max one (P + R - A)
def shOk (A P R S two three x : Nat) : Prop := x + S ≤ A ∧ three + x + shY P two x ≤ A ∧ R + shY P two x ≤ A
def shV (A P two x : Nat) (k : Int32) : Int32 := if k = 0 then nI x else if k = 1 then nI (shY P two x) else nI A - nI x - nI (shY P two x)
theorem z_i {A x y : Nat} (ha : A ≤ 1000000) (hx : x ≤ 1000000) (hy : y ≤ 1000000) : (nI A - nI x - nI y).toInt = (A : Int) - x - y := by
  have e := sub_i ha hx
  have f := nI_int (n := y) (by omega)
  rw [i32_sub (by omega) (by omega), e, f]
theorem xz_i {A x y : Nat} (ha : A ≤ 1000000) (hx : x ≤ 1000000) (hy : y ≤ 1000000) : (nI x + (nI A - nI x - nI y)).toInt = (A : Int) - y := by
  have e := z_i ha hx hy
  have f := nI_int (n := x) (by omega)
  rw [i32_add (by omega) (by omega), e, f]
  omega
theorem yz_i {A x y : Nat} (ha : A ≤ 1000000) (hx : x ≤ 1000000) (hy : y ≤ 1000000) : (nI y + (nI A - nI x - nI y)).toInt = (A : Int) - x := by
  have e := z_i ha hx hy
  have f := nI_int (n := y) (by omega)
  rw [i32_add (by omega) (by omega), e, f]
  omega
/-- one x of the reference's search -/
theorem m_sh1 {b1 b2 b3 k : Int32} {A one two three P R S x : Nat} (hA : A ≤ 130000) (h2 : two ≤ 130000) (h3 : three ≤ 130000) (hP : P ≤ 130000) (hR : R ≤ 130000) (hS : S ≤ 130000) (hx : x ≤ 130001) (hn : A < x + S → Q (some (pI (-1000000))) M) (hy : shOk A P R S two three x → Q (some (pI (shV A P two x k))) M) (hc : x + S ≤ A → ¬ shOk A P R S two three x → TT X kX9_shares 158 [some (pR (9, 0, 0)), some (pI b1), some (pI b2), some (pI b3), some (pI k), some (pI (nI A)), some (pI (nI one)), some (pI (nI two)), some (pI (nI three)), some (pI (nI P)), some (pI (nI R)), some (pI (nI S)), some (pI (nI (x + 1))), none, none] [] M Q) : TT X kX9_shares 158 [some (pR (9, 0, 0)), some (pI b1), some (pI b2), some (pI b3), some (pI k), some (pI (nI A)), some (pI (nI one)), some (pI (nI two)), some (pI (nI three)), some (pI (nI P)), some (pI (nI R)), some (pI (nI S)), some (pI (nI x)), none, none] [] M Q := by
  have ex := nI_int (n := x) (by omega)
  have e3 := nI_int (n := three) (by omega)
  have eR := nI_int (n := R) (by omega)
  have e2 := nI_int (n := two) (by omega)
  refine rX9_shares_158 ⟨fun z => hn ?_, fun z => ?_⟩
  · rw [i32_lt, sub_i (by omega) (by omega), ex] at z
    omega
  rw [i32_lt, sub_i (by omega) (by omega), ex] at z
  rw [nI_1]
  have core : ∀ y : Nat, y = shY P two x → y ≤ 130000 → ((((nI A - nI x) - nI y) < nI three → TT X kX9_shares 158 [some (pR (9, 0, 0)), some (pI b1), some (pI b2), some (pI b3), some (pI k), some (pI (nI A)), some (pI (nI one)), some (pI (nI two)), some (pI (nI three)), some (pI (nI P)), some (pI (nI R)), some (pI (nI S)), some (pI (nI (x + 1))), none, none] [] M Q) ∧ (¬ ((nI A - nI x) - nI y) < nI three → ((nI x + ((nI A - nI x) - nI y)) < nI R → TT X kX9_shares 158 [some (pR (9, 0, 0)), some (pI b1), some (pI b2), some (pI b3), some (pI k), some (pI (nI A)), some (pI (nI one)), some (pI (nI two)), some (pI (nI three)), some (pI (nI P)), some (pI (nI R)), some (pI (nI S)), some (pI (nI (x + 1))), none, none] [] M Q) ∧ (¬ (nI x + ((nI A - nI x) - nI y)) < nI R → (¬ k = 0 → (¬ k = 1 → Q (some (pI ((nI A - nI x) - nI y))) M) ∧ (k = 1 → Q (some (pI (nI y))) M)) ∧ (k = 0 → Q (some (pI (nI x))) M)))) := by
    intro y ey ly
    refine ⟨fun q => hc (by omega) fun ok => ?_, fun q => ⟨fun r => hc (by omega) fun ok => ?_, fun r => ?_⟩⟩
    · rw [i32_lt, z_i (by omega) (by omega) (by omega), e3] at q
      have := ok.2.1
      omega
    · rw [i32_lt, xz_i (by omega) (by omega) (by omega), eR] at r
      have := ok.2.2
      omega
    · rw [i32_lt, z_i (by omega) (by omega) (by omega), e3] at q
      rw [i32_lt, xz_i (by omega) (by omega) (by omega), eR] at r
      have fin := hy ⟨by omega, by omega, by omega⟩
      unfold shV at fin
      rw [← ey] at fin
      by_cases k0 : k = 0
      · rw [if_pos k0] at fin
        exact nr_t k0 fin
      · rw [if_neg k0] at fin
        by_cases k1 : k = 1
        · rw [if_pos k1] at fin
          exact nr_f k0 <| nr_t k1 fin
        · rw [if_neg k1] at fin
          exact nr_f k0 <| nr_f k1 fin
  refine ⟨fun q => ?_, fun q => ?_⟩
  · rw [i32_le, sub_i (by omega) (by omega), e2] at q
    exact core two (by unfold shY; omega) h2
  · rw [i32_le, sub_i (by omega) (by omega), e2] at q
    rw [pk_sub (a := P) (b := x) (by omega)]
    exact core (P - x) (by unfold shY; omega) (by omega)
theorem m_shares {b1 b2 b3 k : Int32} {A one two three P R S : Nat} (hA : A ≤ 130000) (h1 : one ≤ 130000) (h2 : two ≤ 130000) (h3 : three ≤ 130000) (hP : P ≤ 130000) (hR : R ≤ 130000) (hS : S ≤ 130000) (hy : shOk A P R S two three (shX A one P R) → Q (some (pI (shV A P two (shX A one P R) k))) M) (hn : ¬ shOk A P R S two three (shX A one P R) → Q (some (pI (-1000000))) M) : TT X kX9_shares 158 [some (pR (9, 0, 0)), some (pI b1), some (pI b2), some (pI b3), some (pI k), some (pI (nI A)), some (pI (nI one)), some (pI (nI two)), some (pI (nI three)), some (pI (nI P)), some (pI (nI R)), some (pI (nI S)), some (pI (nI one)), none, none] [] M Q := by
  by_cases c : shOk A P R S two three (shX A one P R)
  · have fin := hy c
    have L : ∀ d x, x + d = shX A one P R → one ≤ x → TT X kX9_shares 158 [some (pR (9, 0, 0)), some (pI b1), some (pI b2), some (pI b3), some (pI k), some (pI (nI A)), some (pI (nI one)), some (pI (nI two)), some (pI (nI three)), some (pI (nI P)), some (pI (nI R)), some (pI (nI S)), some (pI (nI x)), none, none] [] M Q := by
      intro d
      induction d with
      | zero =>
        intro x hx _
        obtain rfl : x = shX A one P R := by omega
        have := c.1
        exact m_sh1 hA h2 h3 hP hR hS (by omega) (fun q => by omega) (fun _ => fin) (fun _ q => absurd c q)
      | succ d ih =>
        intro x hx h1x
        have := c.1
        refine m_sh1 hA h2 h3 hP hR hS (by omega) (fun q => by omega) (fun ok => absurd ok.2.2 ?_) (fun _ _ => ih (x + 1) (by omega) (by omega))
        unfold shX at hx
        unfold shY
        omega
    exact L _ one (show one + (shX A one P R - one) = _ by unfold shX; omega) (Nat.le_refl _)
  · have fin := hn c
    have L : ∀ d x, x + d = A + 1 + one → one ≤ x → x ≤ A + 1 ∨ x = one → TT X kX9_shares 158 [some (pR (9, 0, 0)), some (pI b1), some (pI b2), some (pI b3), some (pI k), some (pI (nI A)), some (pI (nI one)), some (pI (nI two)), some (pI (nI three)), some (pI (nI P)), some (pI (nI R)), some (pI (nI S)), some (pI (nI x)), none, none] [] M Q := by
      intro d
      induction d with
      | zero =>
        intro x hx h1x hb
        refine m_sh1 hA h2 h3 hP hR hS (by omega) (fun _ => fin) (fun ok => absurd ok.1 (by omega)) (fun q => by omega)
      | succ d ih =>
        intro x hx h1x hb
        refine m_sh1 hA h2 h3 hP hR hS (by omega) (fun _ => fin) (fun ok => absurd ?_ c) (fun q _ => ih (x + 1) (by omega) (by omega) (by omega))
        obtain ⟨o1, o2, o3⟩ := ok
        unfold shY at o2 o3
        refine ⟨?_, ?_, ?_⟩
        · unfold shX; omega
        · unfold shX shY; omega
        · unfold shX shY; omega
    exact L (A + 1) one (by omega) (Nat.le_refl _) (Or.inr rfl)
theorem or_1 : ∀ a, a < 5 → ∀ b, b < 5 → ∃ s, s < 32 ∧ nI (2 ^ a) ||| nI (2 ^ b) = nI s := by
  intro a ha b hb
  refine ⟨2 ^ a ||| 2 ^ b, ?_, ?_⟩
  · revert a b; decide +kernel
  · revert a b; decide +kernel
theorem or_2 : ∀ a, a < 5 → ∀ b, b < 5 → ∀ c, c < 5 → ∃ s, s < 32 ∧ nI (2 ^ a) ||| nI (2 ^ b) ||| nI (2 ^ c) = nI s := by
  intro a ha b hb c hc
  refine ⟨2 ^ a ||| 2 ^ b ||| 2 ^ c, ?_, ?_⟩
  · revert a b c; decide +kernel
  · revert a b c; decide +kernel
theorem pair_shares {F : Int32 → Int32 → Mem → Prop} {a1 a2 a3 a4 : Int32} (hI : Inv M) (h : ∀ v M', Inv M' → F v v M') : TT X kX8_shares 0 [some (pR (8, 0, 0)), some (pI a1), some (pI a2), some (pI a3), some (pI a4)] [] M (rI fun v1 M1 => TT X kX9_shares 0 [some (pR (9, 0, 0)), some (pI a1), some (pI a2), some (pI a3), some (pI a4), none, none, none, none, none, none, none, none, none, none] [] M1 (rI fun v2 M2 => F v1 v2 M2)) := by
  obtain ⟨n1, n2, n3, w1, w2, w3⟩ := now_of hI
  have hT := inv_thr (v := 0) hI
  obtain ⟨⟨h6, hv⟩, hX, hth⟩ := hI.2.2.2.2.1
  by_cases c0 : sdOf (M 9 0 6) 0 = 0
  · refine rX8_shares_0 <| s_isNone (by decide) (by omega) n2 <| bz_t c0 <| rX9_shares_0 <| nr_t ?_ <| h _ _ hT
    rw [mset_c4 (by decide), hth, bI_f (fun q => q c0)]
  have th1 : M 9 0 0 7 = 1 := by rw [hth, bI_t c0]
  have t9 : ∀ M1, M1 9 0 = M 9 0 → ¬ (mset M1 9 0 0 0 0) 9 0 0 7 = 0 := fun M1 e => by rw [mset_c4 (by decide), e, th1]; decide
  by_cases c1 : 0 ≤ a1.toInt ∧ a1.toInt < 5
  rotate_left
  · exact rX8_shares_0 <| s_isNone (by decide) (by omega) n2 <| bz_f c0 <| s_isOwner <| bz_f c1 <| rX9_shares_0 <| nr_f (t9 M rfl) <| m_isOwner <| bz_f c1 <| h _ _ hT
  by_cases c2 : 0 ≤ a2.toInt ∧ a2.toInt < 5
  rotate_left
  · exact rX8_shares_0 <| s_isNone (by decide) (by omega) n2 <| bz_f c0 <| s_isOwner <| bz_t c1 <| s_isOwner <| bz_f c2 <| rX9_shares_0 <| nr_f (t9 M rfl) <| m_isOwner <| bz_t c1 <| m_isOwner <| bz_f c2 <| h _ _ hT
  by_cases c3 : 0 ≤ a3.toInt ∧ a3.toInt < 5
  rotate_left
  · exact rX8_shares_0 <| s_isNone (by decide) (by omega) n2 <| bz_f c0 <| s_isOwner <| bz_t c1 <| s_isOwner <| bz_t c2 <| s_isOwner <| bz_f c3 <| rX9_shares_0 <| nr_f (t9 M rfl) <| m_isOwner <| bz_t c1 <| m_isOwner <| bz_t c2 <| m_isOwner <| bz_f c3 <| h _ _ hT
  by_cases d1 : a1 = a2
  · exact rX8_shares_0 <| s_isNone (by decide) (by omega) n2 <| bz_f c0 <| s_isOwner <| bz_t c1 <| s_isOwner <| bz_t c2 <| s_isOwner <| bz_t c3 <| br_t d1 <| rX9_shares_0 <| nr_f (t9 M rfl) <| m_isOwner <| bz_t c1 <| m_isOwner <| bz_t c2 <| m_isOwner <| bz_t c3 <| br_t d1 <| h _ _ hT
  by_cases d2 : a1 = a3
  · exact rX8_shares_0 <| s_isNone (by decide) (by omega) n2 <| bz_f c0 <| s_isOwner <| bz_t c1 <| s_isOwner <| bz_t c2 <| s_isOwner <| bz_t c3 <| br_f d1 <| br_t d2 <| rX9_shares_0 <| nr_f (t9 M rfl) <| m_isOwner <| bz_t c1 <| m_isOwner <| bz_t c2 <| m_isOwner <| bz_t c3 <| br_f d1 <| br_t d2 <| h _ _ hT
  by_cases d3 : a2 = a3
  · exact rX8_shares_0 <| s_isNone (by decide) (by omega) n2 <| bz_f c0 <| s_isOwner <| bz_t c1 <| s_isOwner <| bz_t c2 <| s_isOwner <| bz_t c3 <| br_f d1 <| br_f d2 <| br_t d3 <| rX9_shares_0 <| nr_f (t9 M rfl) <| m_isOwner <| bz_t c1 <| m_isOwner <| bz_t c2 <| m_isOwner <| bz_t c3 <| br_f d1 <| br_f d2 <| br_t d3 <| h _ _ hT
  by_cases c4 : 0 ≤ a4.toInt ∧ a4.toInt ≤ 2
  rotate_left
  · have m : TT X kX9_shares 0 [some (pR (9, 0, 0)), some (pI a1), some (pI a2), some (pI a3), some (pI a4), none, none, none, none, none, none, none, none, none, none] [] M (rI fun v2 M2 => F (-1000001) v2 M2) := rX9_shares_0 <| nr_f (t9 M rfl) <| m_isOwner <| bz_t c1 <| m_isOwner <| bz_t c2 <| m_isOwner <| bz_t c3 <| br_f d1 <| br_f d2 <| br_f d3 <| s_in <| bn_f (by rw [i64]; exact c4) <| h _ _ hT
    refine rX8_shares_0 <| s_isNone (by decide) (by omega) n2 <| bz_f c0 <| s_isOwner <| bz_t c1 <| s_isOwner <| bz_t c2 <| s_isOwner <| bz_t c3 <| br_f d1 <| br_f d2 <| br_f d3 ⟨fun _ => m, fun z => ⟨fun y => absurd ?_ c4, fun _ => m⟩⟩
    rw [i32_lt, z0] at z
    rw [i32_le, show (2 : Int32).toInt = 2 from rfl] at y
    omega
  have x3 : ¬ a4 < 0 := by rw [i32_lt, z0]; omega
  have x4 : a4 ≤ 2 := by rw [i32_le, show (2 : Int32).toInt = 2 from rfl]; omega
  obtain ⟨a, ha, rfl⟩ : ∃ o : Nat, o < 5 ∧ a1 = nI o := ⟨a1.toInt.toNat, by omega, nI_is (by omega)⟩
  obtain ⟨b, hb, rfl⟩ : ∃ o : Nat, o < 5 ∧ a2 = nI o := ⟨a2.toInt.toNat, by omega, nI_is (by omega)⟩
  obtain ⟨c, hc, rfl⟩ : ∃ o : Nat, o < 5 ∧ a3 = nI o := ⟨a3.toInt.toNat, by omega, nI_is (by omega)⟩
  obtain ⟨sABC, l1, e1⟩ := or_2 a ha b hb c hc
  obtain ⟨sAB, l2, e2⟩ := or_1 a ha b hb
  obtain ⟨sAC, l3, e3⟩ := or_1 a ha c hc
  obtain ⟨sBC, l4, e4⟩ := or_1 b hb c hc
  generalize hsd : sdOf (M 9 0 6) = sd at *
  have hva := sva_of hv
  have pa := pow_lt a ha
  have pb := pow_lt b hb
  have pc := pow_lt c hc
  have bA := (bst_b (set := sABC) hva).2
  have bP := (bst_b (set := sAB) hva).2
  have bR := (bst_b (set := sAC) hva).2
  have bS := (bst_b (set := sBC) hva).2
  have b1 := (bst_b (set := 2 ^ a) hva).2
  have b2 := (bst_b (set := 2 ^ b) hva).2
  have b3 := (bst_b (set := 2 ^ c) hva).2
  -- the reference
  have ref : ∀ (M1 : Mem) (u : Int32), Scr M M1 → M1 9 0 = M 9 0 → (shOk (bst sd (sAs sd) (sOw sd) sABC).2 (bst sd (sAs sd) (sOw sd) sAB).2 (bst sd (sAs sd) (sOw sd) sAC).2 (bst sd (sAs sd) (sOw sd) sBC).2 (bst sd (sAs sd) (sOw sd) (2 ^ b)).2 (bst sd (sAs sd) (sOw sd) (2 ^ c)).2 (shX (bst sd (sAs sd) (sOw sd) sABC).2 (bst sd (sAs sd) (sOw sd) (2 ^ a)).2 (bst sd (sAs sd) (sOw sd) sAB).2 (bst sd (sAs sd) (sOw sd) sAC).2) → u = shV (bst sd (sAs sd) (sOw sd) sABC).2 (bst sd (sAs sd) (sOw sd) sAB).2 (bst sd (sAs sd) (sOw sd) (2 ^ b)).2 (shX (bst sd (sAs sd) (sOw sd) sABC).2 (bst sd (sAs sd) (sOw sd) (2 ^ a)).2 (bst sd (sAs sd) (sOw sd) sAB).2 (bst sd (sAs sd) (sOw sd) sAC).2) a4) → (¬ shOk (bst sd (sAs sd) (sOw sd) sABC).2 (bst sd (sAs sd) (sOw sd) sAB).2 (bst sd (sAs sd) (sOw sd) sAC).2 (bst sd (sAs sd) (sOw sd) sBC).2 (bst sd (sAs sd) (sOw sd) (2 ^ b)).2 (bst sd (sAs sd) (sOw sd) (2 ^ c)).2 (shX (bst sd (sAs sd) (sOw sd) sABC).2 (bst sd (sAs sd) (sOw sd) (2 ^ a)).2 (bst sd (sAs sd) (sOw sd) sAB).2 (bst sd (sAs sd) (sOw sd) sAC).2) → u = -1000000) → TT X kX9_shares 0 [some (pR (9, 0, 0)), some (pI (nI a)), some (pI (nI b)), some (pI (nI c)), some (pI a4), none, none, none, none, none, none, none, none, none, none] [] M1 (rI fun v2 M2 => F u v2 M2) := by
    intro M1 u s1 f1 hy hn
    refine rX9_shares_0 <| nr_f (t9 M1 f1) <| m_isOwner <| bz_t c1 <| m_isOwner <| bz_t c2 <| m_isOwner <| bz_t c3 <| br_f d1 <| br_f d2 <| br_f d3 <| s_in <| bn_t (by rw [i64]; exact c4) ?_
    rw [shl1 a ha, shl1 b hb, shl1 c hc, e1, e2, e3, e4]
    refine m_now hv (by rw [mset_c3 (by decide), f1]; exact h6) fun M2 o2 r2 => m_canTake l1 hva r2 fun M3 o3 r3 => m_canTake pa hva r3 fun M4 o4 r4 => m_canTake pb hva r4 fun M5 o5 r5 => m_canTake pc hva r5 fun M6 o6 r6 => m_canTake l2 hva r6 fun M7 o7 r7 => m_canTake l3 hva r7 fun M8 o8 r8 => m_canTake l4 hva r8 fun M9 o9 r9 => ?_
    have iv := inv_scr hI (Scr.trans s1 (Scr.trans Scr.thr (Scr.trans (Scr.o9 o2 (by decide)) (Scr.b9 (B9.trans o3 (B9.trans o4 (B9.trans o5 (B9.trans o6 (B9.trans o7 (B9.trans o8 o9))))))))))
    refine m_shares (by omega) (by omega) (by omega) (by omega) (by omega) (by omega) (by omega) (fun q => ?_) (fun q => ?_)
    · rw [hy q]; exact h _ _ iv
    · rw [hn q]; exact h _ _ iv
  refine rX8_shares_0 <| s_isNone (by decide) (by omega) n2 <| bz_f c0 <| s_isOwner <| bz_t c1 <| s_isOwner <| bz_t c2 <| s_isOwner <| bz_t c3 <| br_f d1 <| br_f d2 <| br_f d3 <| br_f x3 <| br_t x4 <| rX8_shareOf_0 ?_
  rw [shl1 a ha, shl1 b hb, shl1 c hc, e1, e2, e3, e4]
  have k6 : ∀ {M1 : Mem}, Omk M M1 2 → StX (M1 6 0) sd := fun {M1} o => by rw [o 6 0 (by omega) (by omega) (by omega)]; exact hX
  refine s_bestTakenBy l1 hv hX fun M1 o1 => s_bestTakenBy l2 hv (k6 o1) fun M2 o2' => ?_
  have o2 := Omk.trans o1 o2'
  refine s_bestTakenBy l3 hv (k6 o2) fun M3 o3' => ?_
  have o3 := Omk.trans o2 o3'
  refine s_bestTakenBy pa hv (k6 o3) fun M4 o4' => ?_
  have o4 := Omk.trans o3 o4'
  refine s_bestTakenBy pb hv (k6 o4) fun M5 o5' => ?_
  have o5 := Omk.trans o4 o5'
  refine s_bestTakenBy pc hv (k6 o5) fun M6 o6' => ?_
  have o6 := Omk.trans o5 o6'
  show _ ∧ _
  generalize (bst sd (sAs sd) (sOw sd) sABC).2 = A at *
  generalize (bst sd (sAs sd) (sOw sd) sAB).2 = P at *
  generalize (bst sd (sAs sd) (sOw sd) sAC).2 = R at *
  generalize hS : (bst sd (sAs sd) (sOw sd) sBC).2 = S at *
  generalize (bst sd (sAs sd) (sOw sd) (2 ^ a)).2 = one at *
  generalize (bst sd (sAs sd) (sOw sd) (2 ^ b)).2 = two at *
  generalize (bst sd (sAs sd) (sOw sd) (2 ^ c)).2 = three at *
  have f1 : (if nI one < nI P + nI R - nI A then nI P + nI R - nI A else nI one) = nI (shX A one P R) := by
    rw [nI_add]
    have e := sub_i (a := P + R) (b := A) (by omega) (by omega)
    have e1 := nI_int (n := one) (by omega)
    unfold shX
    by_cases q : nI one < nI (P + R) - nI A
    · rw [if_pos q]
      rw [i32_lt, e, e1] at q
      rw [pk_sub (by omega), show max one (P + R - A) = P + R - A by omega]
    · rw [if_neg q]
      rw [i32_lt, e, e1] at q
      rw [show max one (P + R - A) = one by omega]
  have lx : shX A one P R ≤ 260000 := by unfold shX; omega
  have f2 : (if nI two < nI P - nI (shX A one P R) then nI P - nI (shX A one P R) else nI two) = nI (shY P two (shX A one P R)) := by
    have e := sub_i (a := P) (b := shX A one P R) (by omega) (by omega)
    have e1 := nI_int (n := two) (by omega)
    unfold shY
    by_cases q : nI two < nI P - nI (shX A one P R)
    · rw [if_pos q]
      rw [i32_lt, e, e1] at q
      rw [pk_sub (by omega), show max two (P - shX A one P R) = P - shX A one P R by omega]
    · rw [if_neg q]
      rw [i32_lt, e, e1] at q
      rw [show max two (P - shX A one P R) = two by omega]
  rw [f1, f2]
  have ly : shY P two (shX A one P R) ≤ 130000 := by unfold shY; omega
  generalize hx : shX A one P R = x at *
  generalize hyy : shY P two x = y at *
  have e3 := nI_int (n := three) (by omega)
  have eR := nI_int (n := R) (by omega)
  have eS := nI_int (n := S) (by omega)
  have nine : ∀ {M1 : Mem}, Omk M M1 2 → M1 9 0 = M 9 0 := fun o => o 9 0 (by omega) (by omega) (by omega)
  refine ⟨fun q => ?_, fun q => ⟨fun r => ?_, fun r => s_bestTakenBy l4 hv (k6 o6) fun M7 o7' => ?_⟩⟩
  · rw [i32_lt, z_i (by omega) (by omega) (by omega), e3] at q
    exact ref M6 _ (Scr.mk o6) (nine o6) (fun ok => by have := ok.2.1; omega) (fun _ => rfl)
  · rw [i32_lt, xz_i (by omega) (by omega) (by omega), eR] at r
    exact ref M6 _ (Scr.mk o6) (nine o6) (fun ok => by have := ok.2.2; omega) (fun _ => rfl)
  rw [i32_lt, z_i (by omega) (by omega) (by omega), e3] at q
  rw [i32_lt, xz_i (by omega) (by omega) (by omega), eR] at r
  have o7 := Omk.trans o6 o7'
  show _ ∧ _
  rw [hS]
  refine ⟨fun t => ?_, fun t => ?_⟩
  · rw [i32_le, yz_i (by omega) (by omega) (by omega), eS] at t
    have ok : shOk A P R S two three x := ⟨by omega, by omega, by omega⟩
    have go : ∀ u, u = shV A P two x a4 → TT X kX9_shares 0 [some (pR (9, 0, 0)), some (pI (nI a)), some (pI (nI b)), some (pI (nI c)), some (pI a4), none, none, none, none, none, none, none, none, none, none] [] M7 (rI fun v2 M2 => F u v2 M2) := fun u hu => ref M7 u (Scr.mk o7) (nine o7) (fun _ => hu) (fun q => absurd ok q)
    unfold shV at go
    rw [hyy] at go
    by_cases k0 : a4 = 0
    · exact nr_t k0 <| go _ (if_pos k0).symm
    · by_cases k1 : a4 = 1
      · exact nr_f k0 <| nr_t k1 <| go _ (by rw [if_neg k0, if_pos k1])
      · exact nr_f k0 <| nr_f k1 <| go _ (by rw [if_neg k0, if_neg k1])
  · rw [i32_le, yz_i (by omega) (by omega) (by omega), eS] at t
    exact ref M7 _ (Scr.mk o7) (nine o7) (fun ok => by have := ok.1; omega) (fun _ => rfl)
end MEAN
