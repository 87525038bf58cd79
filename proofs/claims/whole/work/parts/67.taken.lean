/-! what is taken -/
theorem bitw : ∀ set, set < 32 → ∀ o, o < 5 → ((((nI set >>> (nI o &&& 31)) &&& 1) = 1) ↔ bit set o = true) := by decide +kernel
theorem shl1 : ∀ o, o < 5 → (1 : Int32) <<< (nI o &&& 31) = nI (2 ^ o) := by decide +kernel
theorem pow_lt : ∀ o, o < 5 → 2 ^ o < 32 := by decide
theorem folw_lt {n : Nat} {nxt : NF} : ∀ f p x, x ∈ folw n nxt f p → x < n
  | 0, _, _, h => by simp [folw] at h
  | f + 1, p, x, h => by
    unfold folw at h
    by_cases c : 0 < p ∧ p < n + 1
    · rw [if_pos c] at h
      rcases List.mem_cons.mp h with e | e
      · omega
      · exact folw_lt f _ x e
    · rw [if_neg c] at h
      simp at h
theorem path_lt {n rc : Nat} {as br : NF} {k : Nat} (h : k < (path n rc as br).length) (a : Nat) : (path n rc as br).getD k a < n := by
  have e : (path n rc as br).getD k a = (path n rc as br)[k] := by
    rw [List.getD_eq_getElem?_getD, List.getElem?_eq_getElem h]; rfl
  rw [e]
  have := List.getElem_mem h
  revert this
  generalize (path n rc as br)[k] = x
  unfold path
  split
  · exact folw_lt _ _ _
  · intro q; simp at q
theorem folw_le {n : Nat} {nxt : NF} : ∀ f p, (folw n nxt f p).length ≤ f
  | 0, _ => Nat.le_refl _
  | f + 1, p => by
    unfold folw
    split
    · have := folw_le (n := n) (nxt := nxt) f (nxt p)
      rw [List.length_cons]; omega
    · exact Nat.zero_le _
theorem path_18 {n rc : Nat} {as br : NF} : (path n rc as br).length ≤ 18 := by
  unfold path
  split
  · exact folw_le _ _
  · exact Nat.zero_le _
theorem drop_c {P : List Nat} {k : Nat} (h : k < P.length) (a : Nat) : P.drop k = P.getD k a :: P.drop (k + 1) := by
  rw [List.drop_eq_getElem_cons h, List.getD_eq_getElem?_getD, List.getElem?_eq_getElem h]
  rfl
theorem sumOn_le {set : Nat} {ow as : NF} {n : Nat} (ha : ∀ s, s < n → as s ≤ 20) : ∀ P : List Nat, (∀ x, x ∈ P → x < n) → sumOn set ow as P ≤ 20 * P.length
  | [], _ => Nat.le_refl _
  | x :: P, h => by
    have := sumOn_le (set := set) (ow := ow) ha P (fun y hy => h y (List.mem_cons_of_mem x hy))
    have hx := ha x (h x (List.mem_cons_self))
    show (if _ then _ else _) + _ ≤ 20 * (P.length + 1)
    split <;> omega
theorem path_mem {n rc : Nat} {as br : NF} : ∀ x, x ∈ path n rc as br → x < n := by
  intro x
  unfold path
  split
  · exact folw_lt _ _ _
  · intro q; simp at q
def unS (sd : NF) (r A : Nat) : Nat → Nat
  | 0 => 0
  | v + 1 => unS sd r A v + (if sRe sd v = r ∧ A * (1 + sLo sd v) ≤ sWo sd v then (1 + sLo sd v) * sFo sd v else 0)
def hasRc (sd : NF) (r : Nat) : Nat → Bool
  | 0 => false
  | v + 1 => hasRc sd r v || decide (sRe sd v = r)
def tkr (sd as ow : NF) (set r v : Nat) : Nat := if w0 (sd 0) r as (sBr sd) < INF then unS sd r (w0 (sd 0) r as (sBr sd) / 32) v * sumOn set ow as (path (sd 0) r as (sBr sd)) else 0
theorem unS_0 {sd : NF} {r A : Nat} : ∀ v, hasRc sd r v = false → unS sd r A v = 0
  | 0, _ => rfl
  | v + 1, h => by
    have h' : (hasRc sd r v || decide (sRe sd v = r)) = false := h
    rw [Bool.or_eq_false_iff] at h'
    show unS sd r A v + _ = 0
    rw [unS_0 v h'.1, if_neg (fun q => of_decide_eq_false h'.2 q.1)]
theorem tkr_s {sd as ow : NF} {set r v : Nat} : tkr sd as ow set r (v + 1) = tkr sd as ow set r v + if sRe sd v = r then takeW sd as ow set v else 0 := by
  unfold tkr
  by_cases c : w0 (sd 0) r as (sBr sd) < INF
  · rw [if_pos c, if_pos c]
    show (unS sd r _ v + _) * _ = _
    rw [Nat.add_mul]
    congr 1
    by_cases e : sRe sd v = r
    · subst e
      rw [if_pos rfl]
      unfold takeW
      by_cases d : w0 (sN sd) (sRe sd v) as (sBr sd) / 32 * (1 + sLo sd v) ≤ sWo sd v
      · rw [if_pos ⟨rfl, d⟩, if_pos ⟨c, d⟩, Nat.mul_comm, Nat.mul_assoc]
        rfl
      · rw [if_neg (fun q => d q.2), if_neg (fun q => d q.2), Nat.zero_mul]
    · rw [if_neg e, if_neg (fun q => e q.1), Nat.zero_mul]
  · rw [if_neg c, if_neg c]
    by_cases e : sRe sd v = r
    · subst e
      rw [if_pos rfl]
      unfold takeW
      rw [if_neg (fun q => c q.1)]
    · rw [if_neg e]
theorem tk_split {sd as ow : NF} {set : Nat} : ∀ v, (∀ u, u < v → 1 ≤ sRe sd u ∧ sRe sd u ≤ 3) → tkS sd as ow set v = tkr sd as ow set 1 v + tkr sd as ow set 2 v + tkr sd as ow set 3 v
  | 0, _ => by
    have z : ∀ r, tkr sd as ow set r 0 = 0 := by
      intro r
      unfold tkr
      split
      · exact Nat.zero_mul _
      · rfl
    rw [z, z, z]
    rfl
  | v + 1, h => by
    have ih := tk_split (as := as) (ow := ow) (set := set) v (fun u hu => h u (by omega))
    obtain ⟨h1, h3⟩ := h v (by omega)
    show tkS sd as ow set v + takeW sd as ow set v = _
    rw [tkr_s, tkr_s, tkr_s, ih]
    rcases (show sRe sd v = 1 ∨ sRe sd v = 2 ∨ sRe sd v = 3 by omega) with e | e | e
    · rw [if_pos e, if_neg (by omega), if_neg (by omega)]; omega
    · rw [if_neg (by omega), if_pos e, if_neg (by omega)]; omega
    · rw [if_neg (by omega), if_neg (by omega), if_pos e]; omega
theorem takeW_le {sd as ow : NF} {set v : Nat} (hv : SVA sd as ow) (hw : v < sd 1) : takeW sd as ow set v ≤ 21600 := by
  unfold takeW
  split
  · obtain ⟨-, v2, v3, v4, v5⟩ := hv.1.2.2.2 v hw
    have lo : 1 + sLo sd v ≤ 3 := by have : sLo sd v ≤ 2 := v2; omega
    have fo : sFo sd v ≤ 20 := v5
    have s1 := sumOn_le (set := set) (ow := ow) (fun s q => (hv.2 s q).1) (path (sN sd) (sRe sd v) as (sBr sd)) path_mem
    have s2 := path_18 (n := sN sd) (rc := sRe sd v) (as := as) (br := sBr sd)
    exact Nat.mul_le_mul (Nat.mul_le_mul (show _ ≤ 360 by omega) lo) fo
  · exact Nat.zero_le _
theorem tkS_le {sd as ow : NF} {set : Nat} (hv : SVA sd as ow) : ∀ v, v ≤ sd 1 → tkS sd as ow set v ≤ 21600 * v
  | 0, _ => Nat.le_refl _
  | v + 1, h => by
    have a := tkS_le (set := set) hv v (by omega)
    have b := takeW_le (set := set) (v := v) hv (by omega)
    show _ + _ ≤ _
    omega
theorem tk_le {sd as ow : NF} {set : Nat} (hv : SVA sd as ow) : tk sd as ow set ≤ 129600 := by
  have a := tkS_le (set := set) hv (sd 1) (Nat.le_refl _)
  have b := hv.1.2.1
  show tkS sd as ow set (sd 1) ≤ _
  omega
section TAKEN
variable {X : Nat × (Nat → Int32)} {M : Mem} {Q : Option PV → Mem → Prop} {sd as ow : NF}
theorem s_isOfS {j set s : Nat} (hj : j < 5) (hset : set < 32) (hv : SVA sd as ow) (hS : StY (M 6 j) sd as ow) (hs : s < sd 0) (h : Q (some (pI (bI (bit set (ow s) = true)))) M) : TT X kX6_isOf 0 [some (pR (6, j, 0)), some (pI (nI set)), some (pI (nI s))] [] M Q := by
  have l0 := hv.1.1
  refine rX6_isOf_0 hj <| br_f (nI_pos (by omega)) <| br_f (by rw [hS.1]; exact nI_ge hs (by omega)) ⟨vp_in_nI (by omega) (by decide), ?_⟩
  have b := bitw set hset (ow s) (by have := (hv.2 s hs).2; omega)
  rw [clampI (by omega), (hS.2.2.1 s hs).1]
  by_cases c : bit set (ow s) = true
  · rw [bI_t c] at h
    exact nr_t (b.mpr c) h
  · rw [bI_f c] at h
    exact nr_f (fun q => c (b.mp q)) h
theorem s_askedBy {i j set rc : Nat} (hi : i < 2) (hj : j < 5) (hset : set < 32) (hv : SVA sd as ow) (hS : StY (M 6 j) sd as ow) (hW : WayF M i (sd 0) rc as (sBr sd)) (h : Q (some (pI (nI (sumOn set ow as (path (sd 0) rc as (sBr sd)))))) M) : TT X kX2_askedBy 0 [some (pR (2, i, 0)), some (pR (6, j, 0)), some (pI (nI set)), none, none] [] M Q := by
  have l0 := hv.1.1
  have l18 := path_18 (n := sd 0) (rc := rc) (as := as) (br := sBr sd)
  have L : ∀ d k acc, k + d = (path (sd 0) rc as (sBr sd)).length → acc + sumOn set ow as ((path (sd 0) rc as (sBr sd)).drop k) = sumOn set ow as (path (sd 0) rc as (sBr sd)) → TT X kX2_askedBy 5 [some (pR (2, i, 0)), some (pR (6, j, 0)), some (pI (nI set)), some (pI (nI acc)), some (pI (nI k))] [] M Q := by
    intro d
    induction d with
    | zero =>
      intro k acc hk ha
      rw [List.drop_of_length_le (by omega), show sumOn set ow as [] = 0 from rfl, Nat.add_zero] at ha
      subst ha
      exact rX2_askedBy_5 hi hj <| br_t (by rw [hW.2.1]; exact nI_le (by omega) (by omega)) h
    | succ d ih =>
      intro k acc hk ha
      have hk' : k < (path (sd 0) rc as (sBr sd)).length := by omega
      have lt := path_lt hk' 0
      rw [drop_c hk' 0] at ha
      have v18 : vp_in (nI k) 18 := vp_in_nI (by omega) (by decide)
      refine rX2_askedBy_5 hi hj <| br_f (by rw [hW.2.1]; exact nI_ge hk' (by omega)) ⟨v18, ?_⟩
      rw [clampI (by omega), hW.2.2 k hk']
      refine s_isOfS hj hset hv hS lt ?_
      show _ ∧ _
      rw [hW.2.2 k hk', clampI (by omega), nI_1, (hS.2.2.1 _ lt).2.1, nI_add]
      generalize (path (sd 0) rc as (sBr sd)).getD k 0 = s at *
      have ha : acc + ((if bit set (ow s) then as s else 0) + sumOn set ow as ((path (sd 0) rc as (sBr sd)).drop (k + 1))) = _ := ha
      by_cases c : bit set (ow s) = true
      · rw [if_pos c] at ha
        exact bz_t c ⟨v18, vp_in_nI (by omega) (by decide), ih (k + 1) _ (by omega) (by omega)⟩
      · rw [if_neg c] at ha
        exact bz_f c <| ih (k + 1) _ (by omega) (by omega)
  exact rX2_askedBy_0 hi hj (L _ 0 0 (Nat.zero_add _) (Nat.zero_add _))
theorem s_hasReach {j r : Nat} (hj : j < 5) (hr : r ≤ 3) (hv : SVA sd as ow) (hS : StY (M 6 j) sd as ow) (h : Q (some (pI (bI (hasRc sd r (sd 1) = true)))) M) : TT X kX6_hasReach 0 [some (pR (6, j, 0)), some (pI (nI r)), none] [] M Q := by
  have l1 := hv.1.2.1
  have up : ∀ d k, hasRc sd r k = true → hasRc sd r (k + d) = true := by
    intro d k q
    induction d with
    | zero => exact q
    | succ d ih => show (hasRc sd r (k + d) || decide (sRe sd (k + d) = r)) = true; rw [ih]; rfl
  have L : ∀ d k, k + d = sd 1 → hasRc sd r k = false → TT X kX6_hasReach 2 [some (pR (6, j, 0)), some (pI (nI r)), some (pI (nI k))] [] M Q := by
    intro d
    induction d with
    | zero =>
      intro k hk hf
      obtain rfl : k = sd 1 := by omega
      rw [bI_f (by rw [hf]; decide)] at h
      exact rX6_hasReach_2 hj <| br_t (by rw [hS.2.1]; exact nI_le (Nat.le_refl _) (by omega)) h
    | succ d ih =>
      intro k hk hf
      obtain ⟨⟨r1, r3⟩, -⟩ := hv.1.2.2.2 k (by omega)
      refine rX6_hasReach_2 hj <| br_f (by rw [hS.2.1]; exact nI_ge (by omega) (by omega)) ⟨vp_in_nI (by omega) (by decide), ?_⟩
      rw [clampI (by omega), (hS.2.2.2 k (by omega)).1, nI_1]
      have r3' : sRe sd k ≤ 3 := r3
      by_cases c : sRe sd k = r
      · refine nr_t (by rw [c]) ?_
        have := up (sd 1 - (k + 1)) (k + 1) (by show (_ || _) = true; rw [decide_eq_true c, Bool.or_true])
        rw [show k + 1 + (sd 1 - (k + 1)) = sd 1 by omega] at this
        rwa [bI_t this] at h
      · refine nr_f (fun q => c ((nI_eq (by omega) (by omega)).mp q)) <| ih (k + 1) (by omega) ?_
        show (_ || _) = false
        rw [hf, decide_eq_false c]; rfl
  exact rX6_hasReach_0 hj (L _ 0 (Nat.zero_add _) rfl)
theorem s_unitsPaid {j r A : Nat} (hj : j < 5) (hr : r ≤ 3) (hA : A ≤ 40000) (hv : SVA sd as ow) (hS : StY (M 6 j) sd as ow) (h : Q (some (pI (nI (unS sd r A (sd 1))))) M) : TT X kX6_unitsPaid 0 [some (pR (6, j, 0)), some (pI (nI r)), some (pI (nI A)), none, none, none] [] M Q := by
  have l1 := hv.1.2.1
  have L : ∀ d k, k + d = sd 1 → TT X kX6_unitsPaid 5 [some (pR (6, j, 0)), some (pI (nI r)), some (pI (nI A)), some (pI (nI (unS sd r A k))), some (pI (nI k)), none] [] M Q := by
    intro d
    induction d with
    | zero =>
      intro k hk
      obtain rfl : k = sd 1 := by omega
      exact rX6_unitsPaid_5 hj <| br_t (by rw [hS.2.1]; exact nI_le (Nat.le_refl _) (by omega)) h
    | succ d ih =>
      intro k hk
      have ih := ih (k + 1) (by omega)
      obtain ⟨⟨r1, r3⟩, q2, q3, q4, q5⟩ := hv.1.2.2.2 k (by omega)
      have r3' : sRe sd k ≤ 3 := r3
      have q2' : sLo sd k ≤ 2 := q2
      have q3' : sWo sd k ≤ 200 := q3
      have v6 : vp_in (nI k) 6 := vp_in_nI (by omega) (by decide)
      obtain ⟨e6, e7, e8, e9⟩ := hS.2.2.2 k (by omega)
      have pr : A * (1 + sLo sd k) ≤ 40000 * 3 := Nat.mul_le_mul hA (by omega)
      refine rX6_unitsPaid_5 hj <| br_f (by rw [hS.2.1]; exact nI_ge (by omega) (by omega)) ⟨v6, v6, ?_⟩
      rw [clampI (by omega), e6, e7, e8, e9, nI_1, show (1 : Int32) = nI 1 from rfl, nI_add, pk_mul, pk_mul, nI_add]
      by_cases c : sRe sd k = r
      · refine nr_t (by rw [c]) ⟨v6, ?_⟩
        by_cases g : A * (1 + sLo sd k) ≤ sWo sd k
        · rw [show unS sd r A (k + 1) = unS sd r A k + (1 + sLo sd k) * sFo sd k from by show _ + _ = _; rw [if_pos ⟨c, g⟩]] at ih
          exact br_f (nI_nlt g (by omega)) ⟨v6, ih⟩
        · rw [show unS sd r A (k + 1) = unS sd r A k from by show _ + _ = _; rw [if_neg (fun q => g q.2)]; rfl] at ih
          exact br_t (nI_lt (by omega) (by omega)) ih
      · rw [show unS sd r A (k + 1) = unS sd r A k from by show _ + _ = _; rw [if_neg (fun q => c q.1)]; rfl] at ih
        exact nr_f (fun q => c ((nI_eq (by omega) (by omega)).mp q)) ih
  exact rX6_unitsPaid_0 hj (L _ 0 (Nat.zero_add _))
theorem s_taken {j set : Nat} (hj : j < 5) (hset : set < 32) (hv : SVA sd as ow) (hS : StY (M 6 j) sd as ow) (h : ∀ M', Oth M M' 2 1 → Q (some (pI (nI (tk sd as ow set)))) M') : TT X kX3_taken 0 [some (pR (3, 0, 0)), some (pR (6, j, 0)), some (pI (nI set)), none, none, none] [] M Q := by
  have iI : INF = 1000000 := rfl
  have one : ∀ (r acc : Nat) (M1 : Mem), 1 ≤ r → r ≤ 3 → Oth M M1 2 1 → (∀ M2, Oth M M2 2 1 → TT X kX3_taken 5 [some (pR (3, 0, 0)), some (pR (6, j, 0)), some (pI (nI set)), some (pI (nI (acc + tkr sd as ow set r (sd 1)))), some (pI (nI (r + 1))), none] [] M2 Q) → TT X kX3_taken 5 [some (pR (3, 0, 0)), some (pR (6, j, 0)), some (pI (nI set)), some (pI (nI acc)), some (pI (nI r)), none] [] M1 Q := by
    intro r acc M1 r1 r3 o1 hn
    have hS1 : StY (M1 6 j) sd as ow := by rw [o1 6 j (by omega)]; exact hS
    refine rX3_taken_5 hj <| br_f (nI_nlt (a := 3) r3 (by decide)) <| s_hasReach hj r3 hv hS1 ?_
    rw [nI_1]
    by_cases c : hasRc sd r (sd 1) = true
    rotate_left
    · refine bz_f c ?_
      have e : tkr sd as ow set r (sd 1) = 0 := by
        unfold tkr
        rw [unS_0 _ (by simpa using c), Nat.zero_mul]
        split <;> rfl
      have := hn M1 o1
      rwa [e, Nat.add_zero] at this
    refine bz_t c <| s_fnd (w := 0) (by decide) hj hv hS1 r1 r3 fun M2 o2 hW => s_askedIn (by decide) hW ?_
    have o3 := Oth.trans o1 o2
    have hS2 : StY (M2 6 j) sd as ow := by rw [o3 6 j (by omega)]; exact hS
    have wl := w0_le (n := sd 0) (rc := r) (as := as) (br := sBr sd)
    refine s_unitsPaid hj r3 (by omega) hv hS2 <| s_isThere (by decide) hW ?_
    have g := hn M2 o3
    unfold tkr at g
    by_cases d : w0 (sd 0) r as (sBr sd) < INF
    · rw [if_pos d] at g
      refine bz_t d <| s_askedBy (by decide) hj hset hv hS2 hW ?_
      show TT _ _ _ _ _ _ _
      rw [pk_mul, nI_add]
      exact g
    · rw [if_neg d, Nat.add_zero] at g
      refine bz_f d ?_
      rw [Int32.add_zero]
      exact g
  refine rX3_taken_0 hj <| one 1 0 M (by decide) (by decide) Oth.rfl' fun M1 o1 => one 2 _ M1 (by decide) (by decide) o1 fun M2 o2 => one 3 _ M2 (by decide) (by decide) o2 fun M3 o3 => rX3_taken_5 hj <| br_t (by decide +kernel) ?_
  have e : tk sd as ow set = 0 + tkr sd as ow set 1 (sd 1) + tkr sd as ow set 2 (sd 1) + tkr sd as ow set 3 (sd 1) := by
    rw [Nat.zero_add]
    exact tk_split (sd 1) (fun u hu => (hv.1.2.2.2 u hu).1)
  rw [← e]
  exact h M3 o3
theorem m_takenBy {set : Nat} (hset : set < 32) (hv : SVA sd as ow) (hS : StR M sd as ow) (h : ∀ M', O9 M M' [23, 24, 25] → StR M' sd as ow → Q (some (pI (nI (tk sd as ow set)))) M') : TT X kX9_takenBy 0 [some (pR (9, 0, 0)), some (pI (nI set)), none, none, none, none] [] M Q := by
  have l0 := hv.1.1
  have l1 := hv.1.2.1
  have L : ∀ d k, k + d = sd 1 → ∀ M1, O9 M M1 [23, 24, 25] → StR M1 sd as ow → TT X kX9_takenBy 4 [some (pR (9, 0, 0)), some (pI (nI set)), some (pI (nI (tkS sd as ow set k))), some (pI (nI k)), none, none] [] M1 Q := by
    intro d
    induction d with
    | zero =>
      intro k hk M1 o1 s1
      obtain rfl : k = sd 1 := by omega
      exact rX9_takenBy_4 <| br_t (by rw [s1.1 1 (by decide)]; exact nI_le (Nat.le_refl _) (by omega)) <| h M1 o1 s1
    | succ d ih =>
      intro k hk M1 o1 s1
      have hw : k < sd 1 := by omega
      obtain ⟨⟨r1, r3⟩, q2, q3, q4, q5⟩ := hv.1.2.2.2 k hw
      refine rX9_takenBy_4 <| br_f (by rw [s1.1 1 (by decide)]; exact nI_ge hw (by omega)) <| m_lay hv hw s1 fun M2 o2 s2 rr => ?_
      have ih := ih (k + 1) (by omega) M2 (O9.trans o1 o2) s2
      have ih : TT X kX9_takenBy 4 [some (pR (9, 0, 0)), some (pI (nI set)), some (pI (nI (tkS sd as ow set k + takeW sd as ow set k))), some (pI (nI (k + 1))), none, none] [] M2 Q := ih
      have ha : ∀ s, s < sd 0 → as s ≤ 20 := fun s q => (hv.2 s q).1
      have ends : ∀ acc : Nat, acc * (1 + sLo sd k) * sFo sd k = takeW sd as ow set k → TT X kX9_walker 0 [some (pR (9, 0, 0)), some (pI (nI k)), some (pI 1)] [] M2 (rI fun v8 M7 => TT X kX9_walker 0 [some (pR (9, 0, 0)), some (pI (nI k)), some (pI 3)] [] M7 (rI fun v10 M9 => TT X kX9_takenBy 4 [some (pR (9, 0, 0)), some (pI (nI set)), some (pI (nI (tkS sd as ow set k) + ((nI acc * (1 + v8)) * v10))), some (pI (nI k + 1)), none, none] [] M9 Q)) := by
        intro acc e
        refine m_walker (k := 1) (by omega) (by decide) <| m_walker (k := 3) (by omega) (by decide) ?_
        show TT _ _ _ _ _ _ _
        rw [s2.1 _ (by omega), s2.1 _ (by omega), show (1 : Int32) = nI 1 from rfl, nI_add, pk_mul, pk_mul, nI_add, nI_add, show 56 + 4 * k + 1 = 57 + 4 * k by omega, show 56 + 4 * k + 3 = 59 + 4 * k by omega]
        rw [← e] at ih
        exact ih
      by_cases g : w0 (sd 0) (sRe sd k) as (sBr sd) < INF ∧ w0 (sd 0) (sRe sd k) as (sBr sd) / 32 * (1 + sLo sd k) ≤ sWo sd k
      · have rp := rp_path (M := M2) (rc := sRe sd k) (br := sBr sd) ha hv.1.1 r1 rr g.1
        have l18 := path_18 (n := sd 0) (rc := sRe sd k) (as := as) (br := sBr sd)
        have W : ∀ e t acc, t + e = (path (sd 0) (sRe sd k) as (sBr sd)).length → acc + sumOn set ow as ((path (sd 0) (sRe sd k) as (sBr sd)).drop t) = sumOn set ow as (path (sd 0) (sRe sd k) as (sBr sd)) → TT X kX9_takenBy 30 [some (pR (9, 0, 0)), some (pI (nI set)), some (pI (nI (tkS sd as ow set k))), some (pI (nI k)), some (pI (nI ((path (sd 0) (sRe sd k) as (sBr sd)).getD t (sd 0)))), some (pI (nI acc))] [] M2 Q := by
          intro e
          induction e with
          | zero =>
            intro t acc ht hacc
            rw [List.drop_of_length_le (by omega), show sumOn set ow as [] = 0 from rfl, Nat.add_zero] at hacc
            refine rX9_takenBy_30 <| m_goes hv.1.1 ha (by omega) q2 q3 s2.1 (rr 0 (Nat.zero_le _)) <| bz_t g <| br_t ?_ <| ends acc ?_
            · rw [s2.1 0 (by decide), getD_out _ (by omega)]
              exact nI_le (Nat.le_refl _) (by omega)
            · rw [hacc]
              unfold takeW
              exact (if_pos g).symm
          | succ e ih2 =>
            intro t acc ht hacc
            have ht' : t < (path (sd 0) (sRe sd k) as (sBr sd)).length := by omega
            have lt := path_lt ht' (sd 0)
            obtain ⟨p1, p2⟩ := rp.2 t ht'
            rw [drop_c ht' (sd 0)] at hacc
            refine rX9_takenBy_30 <| m_goes hv.1.1 ha (by omega) q2 q3 s2.1 (rr 0 (Nat.zero_le _)) <| bz_t g <| br_f (by rw [s2.1 0 (by decide)]; exact nI_ge lt (by omega)) ?_
            have b := bitw set hset (ow ((path (sd 0) (sRe sd k) as (sBr sd)).getD t (sd 0))) (by have := (hv.2 _ lt).2; omega)
            rw [nI_1, clampI (by omega), clampI (by omega), p2, (s2.2 _ lt).1, (s2.2 _ lt).2, nI_add, Int32.add_zero]
            have v18 : vp_in (nI ((path (sd 0) (sRe sd k) as (sBr sd)).getD t (sd 0))) 18 := vp_in_nI (by omega) (by decide)
            have v19 : vp_in (nI ((path (sd 0) (sRe sd k) as (sBr sd)).getD t (sd 0) + 1)) 19 := vp_in_nI (by omega) (by decide)
            generalize hx : (path (sd 0) (sRe sd k) as (sBr sd)).getD t (sd 0) = s at *
            have hacc : acc + ((if bit set (ow s) then as s else 0) + sumOn set ow as ((path (sd 0) (sRe sd k) as (sBr sd)).drop (t + 1))) = _ := hacc
            by_cases c : bit set (ow s) = true
            · rw [if_pos c] at hacc
              exact ⟨v18, nr_t (b.mpr c) ⟨v18, v19, ih2 (t + 1) _ (by omega) (by omega)⟩⟩
            · rw [if_neg c] at hacc
              exact ⟨v18, nr_f (fun q => c (b.mp q)) ⟨v19, ih2 (t + 1) _ (by omega) (by omega)⟩⟩
        show TT _ _ _ _ _ _ _
        rw [rp.1]
        exact W _ 0 0 (Nat.zero_add _) (Nat.zero_add _)
      · refine rX9_takenBy_30 <| m_goes hv.1.1 ha (by omega) q2 q3 s2.1 (rr 0 (Nat.zero_le _)) <| bz_f g <| ends 0 ?_
        rw [Nat.zero_mul, Nat.zero_mul]
        unfold takeW
        exact (if_neg g).symm
  exact rX9_takenBy_0 (L _ 0 (Nat.zero_add _) M O9.rfl' hS)
theorem pair_takes {F : Int32 → Int32 → Mem → Prop} {a1 : Int32} (hI : Inv M) (h : ∀ v M', Inv M' → F v v M') : TT X kX8_takes 0 [some (pR (8, 0, 0)), some (pI a1)] [] M (rI fun v1 M1 => TT X kX9_takes 0 [some (pR (9, 0, 0)), some (pI a1)] [] M1 (rI fun v2 M2 => F v1 v2 M2)) := by
  obtain ⟨n1, n2, n3, w1, w2, w3⟩ := now_of hI
  have hT := inv_thr (v := 0) hI
  obtain ⟨⟨h6, hv⟩, hX, hth⟩ := hI.2.2.2.2.1
  by_cases c0 : sdOf (M 9 0 6) 0 = 0
  · refine rX8_takes_0 <| s_isNone (by decide) (by omega) n2 <| bz_t c0 <| rX9_takes_0 <| nr_t ?_ <| h _ _ hT
    rw [mset_c4 (by decide), hth, bI_f (fun q => q c0)]
  have th1 : M 9 0 0 7 = 1 := by rw [hth, bI_t c0]
  by_cases c1 : 0 ≤ a1.toInt ∧ a1.toInt < 5
  rotate_left
  · refine rX8_takes_0 <| s_isNone (by decide) (by omega) n2 <| bz_f c0 <| s_isOwner <| bn_f c1 <| rX9_takes_0 <| nr_f ?_ <| m_isOwner <| bn_f c1 <| h _ _ hT
    rw [mset_c4 (by decide), th1]; decide
  obtain ⟨o, ho, rfl⟩ : ∃ o : Nat, o < 5 ∧ a1 = nI o := ⟨a1.toInt.toNat, by omega, nI_is (by omega)⟩
  generalize hsd : sdOf (M 9 0 6) = sd at *
  have hva := sva_of hv
  refine rX8_takes_0 <| s_isNone (by decide) (by omega) n2 <| bz_f c0 <| s_isOwner <| bn_t c1 ?_
  rw [shl1 o ho]
  refine s_taken (by decide) (pow_lt o ho) hva (stx_y hX) fun M1 o1 => rX9_takes_0 <| nr_f ?_ <| m_isOwner <| bn_t c1 <| m_now (sd := sd) hv ?_ fun M2 o2 s2 => ?_
  · rw [mset_c4 (by decide), o1 9 0 (by decide), th1]; decide
  · rw [mset_c3 (by decide), o1 9 0 (by decide)]; exact h6
  · show TT _ _ _ _ _ _ _
    rw [shl1 o ho]
    refine m_takenBy (pow_lt o ho) hva s2 fun M3 o3 s3 => h _ _ (inv_scr hI ?_)
    exact Scr.trans (Scr.oth o1 (by decide)) (Scr.trans Scr.thr (Scr.trans (Scr.o9 o2 (by decide)) (Scr.o9 o3 (by decide))))
end TAKEN
