/-! asked -/
def setU (as : NF) (u v : Nat) : NF := fun s => if s = u then v else as s
theorem setU_2 {as : NF} {u v w : Nat} : setU (setU as u v) u w = setU as u w := by
  funext s
  unfold setU
  split <;> rfl
theorem sva_u {sd as ow : NF} {u v : Nat} (h : SVA sd as ow) (hv : v ≤ 20) : SVA sd (setU as u v) ow := by
  refine ⟨h.1, fun s hs => ⟨?_, (h.2 s hs).2⟩⟩
  unfold setU
  split
  · exact hv
  · exact (h.2 s hs).1
theorem sty_u {M : Mem} {sd as ow : NF} {j u v : Nat} (h : StY (M 6 j) sd as ow) : StY ((mset M 6 j 4 u (nI v)) 6 j) sd (setU as u v) ow := by
  refine ⟨by rw [mset_c3 (by simp)]; exact h.1, by rw [mset_c3 (by simp)]; exact h.2.1, fun s hs => ⟨by rw [mset_c3 (by simp)]; exact (h.2.2.1 s hs).1, ?_, by rw [mset_c3 (by simp)]; exact (h.2.2.1 s hs).2.2⟩, fun w hu => ?_⟩
  · unfold setU
    by_cases e : s = u
    · subst e
      rw [mset_at, if_pos rfl]
    · rw [mset_c4 (by simp [e]), if_neg e]
      exact (h.2.2.1 s hs).2.1
  · rw [mset_c3 (by simp), mset_c3 (by simp), mset_c3 (by simp), mset_c3 (by simp)]
    exact h.2.2.2 w hu
theorem str_u {M : Mem} {sd as ow : NF} {u v : Nat} (h : StR M sd as ow) : StR (mset M 9 0 22 u (nI v)) sd (setU as u v) ow := by
  refine ⟨fun x hx => by rw [mset_c3 (by decide)]; exact h.1 x hx, fun s hs => ⟨by rw [mset_c3 (by decide)]; exact (h.2 s hs).1, ?_⟩⟩
  unfold setU
  by_cases e : s = u
  · subst e
    rw [mset_at, if_pos rfl]
  · rw [mset_c4 (by simp [e]), if_neg e]
    exact (h.2 s hs).2
/-- a row of rising steps -/
def Ris (it : Nat → Int32) (N n : Nat) : Prop := ∀ q, q < n → (0 ≤ (it q).toInt ∧ (it q).toInt < (N : Int)) ∧ (0 < q → (it (q - 1)).toInt < (it q).toInt)
def Tr (P : List Nat) (st : NF) (n : Nat) : Prop := P.length = n ∧ ∀ q, q < n → P.getD q 0 = st q
def fitB (sd as : NF) (w n sum : Nat) (st : NF) : Bool := decide (w0 (sd 0) (sRe sd w) as (sBr sd) < INF ∧ w0 (sd 0) (sRe sd w) as (sBr sd) / 32 * (1 + sLo sd w) ≤ sWo sd w ∧ w0 (sd 0) (sRe sd w) as (sBr sd) / 32 * (1 + sLo sd w) = sum ∧ (path (sd 0) (sRe sd w) as (sBr sd)).length = n ∧ ∀ q, q < n → (path (sd 0) (sRe sd w) as (sBr sd)).getD q 0 = st q)
theorem fit_iff {sd as : NF} {w n sum : Nat} {st : NF} : fitB sd as w n sum st = true ↔ (w0 (sd 0) (sRe sd w) as (sBr sd) < INF ∧ w0 (sd 0) (sRe sd w) as (sBr sd) / 32 * (1 + sLo sd w) ≤ sWo sd w) ∧ w0 (sd 0) (sRe sd w) as (sBr sd) / 32 * (1 + sLo sd w) = sum ∧ Tr (path (sd 0) (sRe sd w) as (sBr sd)) st n := by
  unfold fitB Tr
  rw [decide_eq_true_iff, and_assoc]
def cntF (f : Nat → Bool) : Nat → Nat
  | 0 => 0
  | k + 1 => if f k then cntF f k + 1 else cntF f k
def leF (f : Nat → Bool) : Nat → Int32
  | 0 => -1000000
  | k + 1 => if leF f k = -1000000 then (if f k then nI k else -1000000) else leF f k
def dnF (f : Nat → Bool) : Nat → Nat × Int32
  | 0 => (0, -1000000)
  | j + 1 => if f (20 - j) then ((dnF f j).1 + 1, nI (20 - j)) else dnF f j
theorem dn_ok {f : Nat → Bool} : ∀ j, j ≤ 21 → cntF f 21 = cntF f (21 - j) + (dnF f j).1 ∧ leF f 21 = if leF f (21 - j) = -1000000 then (dnF f j).2 else leF f (21 - j)
  | 0, _ => by
    refine ⟨rfl, ?_⟩
    show leF f 21 = if leF f 21 = -1000000 then -1000000 else leF f 21
    split
    · assumption
    · rfl
  | j + 1, h => by
    obtain ⟨a, b⟩ := dn_ok (f := f) j (by omega)
    have e : 21 - j = (20 - j) + 1 := by omega
    rw [e] at a b
    have a : cntF f 21 = (if f (20 - j) then cntF f (20 - j) + 1 else cntF f (20 - j)) + (dnF f j).1 := a
    have es : leF f (20 - j + 1) = if leF f (20 - j) = -1000000 then (if f (20 - j) then nI (20 - j) else -1000000) else leF f (20 - j) := rfl
    rw [show 21 - (j + 1) = 20 - j by omega]
    have ed : dnF f (j + 1) = if f (20 - j) then ((dnF f j).1 + 1, nI (20 - j)) else dnF f j := rfl
    rw [ed]
    by_cases c : f (20 - j) = true
    · rw [if_pos c] at a ⊢
      rw [if_pos c] at es
      refine ⟨by rw [a]; dsimp only; omega, ?_⟩
      by_cases z : leF f (20 - j) = -1000000
      · rw [if_pos z] at es ⊢
        rw [es, if_neg (nI_nn (by omega))] at b
        exact b
      · rw [if_neg z] at es ⊢
        rw [es, if_neg z] at b
        exact b
    · rw [if_neg c] at a ⊢
      rw [if_neg c] at es
      refine ⟨a, ?_⟩
      by_cases z : leF f (20 - j) = -1000000
      · rw [if_pos z] at es ⊢
        rw [es, if_pos rfl] at b
        exact b
      · rw [if_neg z] at es ⊢
        rw [es, if_neg z] at b
        exact b
theorem dn_21 {f : Nat → Bool} : dnF f 21 = (cntF f 21, leF f 21) := by
  obtain ⟨a, b⟩ := dn_ok (f := f) 21 (Nat.le_refl _)
  have a : cntF f 21 = 0 + (dnF f 21).1 := a
  have b : leF f 21 = (dnF f 21).2 := b
  rw [Nat.zero_add] at a
  rw [a, b]
section ASKED
variable {X : Nat × (Nat → Int32)} {M : Mem} {Q : Option PV → Mem → Prop} {sd as ow : NF}
/-- row r of lane l has size z -/
def RowA (M : Mem) (r l z : Nat) : Prop := r < 8 ∧ l < 3 ∧ z ≤ 40 ∧ M 5 0 1 r = nI l ∧ M 5 0 2 r = nI z
theorem s_item {r l z k : Nat} (hr : RowA M r l z) (hk : k < z) (h : Q (some (pI (M 5 0 3 (40 * r + k)))) M) : TT X kX5_item 0 [some (pR (5, 0, 0)), some (pI (nI r)), some (pI (nI k))] [] M Q := by
  obtain ⟨h1, h2, h3, h4, h5⟩ := hr
  refine rX5_item_0 <| br_f (nI_pos (by omega)) <| s_sizeOf h1 (by rw [h4]; exact nl_ne h2) ?_
  show _ ∧ _
  rw [h5]
  refine br_f (nI_ge hk (by omega)) ⟨?_, ?_⟩
  · rw [idx_x]; exact vp_in_nI (by omega) (by decide)
  · rw [idx_x, clampI (by omega)]; exact h
theorem s_rising {r l z n N : Nat} (hr : RowA M r l z) (hn : n ≤ z) (hN : N ≤ 18) (e : M 6 0 0 0 = nI N) (ht : Ris (fun k => M 5 0 3 (40 * r + k)) N n → Q (some (pI 1)) M) (hf : ¬ Ris (fun k => M 5 0 3 (40 * r + k)) N n → Q (some (pI 0)) M) : TT X kX8_areRisingSteps 0 [some (pR (8, 0, 0)), some (pI (nI r)), some (pI (nI n)), none, none, none] [] M Q := by
  have z40 := hr.2.2.1
  have L : ∀ d k, k + d = n → Ris (fun k => M 5 0 3 (40 * r + k)) N k → ∀ b : Int32, (b.toInt = if k = 0 then -1 else (M 5 0 3 (40 * r + (k - 1))).toInt) → TT X kX8_areRisingSteps 5 [some (pR (8, 0, 0)), some (pI (nI r)), some (pI (nI n)), some (pI b), some (pI (nI k)), none] [] M Q := by
    intro d
    induction d with
    | zero =>
      intro k hk hR b hb
      obtain rfl : k = n := by omega
      exact rX8_areRisingSteps_5 <| br_t (nI_le (Nat.le_refl _) (by omega)) (ht hR)
    | succ d ih =>
      intro k hk hR b hb
      refine rX8_areRisingSteps_5 <| br_f (nI_ge (by omega) (by omega)) <| s_item hr (by omega) ⟨fun q => hf fun R => ?_, fun q => s_hasStep (by decide) (by omega) e ?_⟩
      · obtain ⟨r1, r2⟩ := R k (by omega)
        rw [i32_le, hb] at q
        by_cases z : k = 0
        · rw [if_pos z] at q
          have := r1.1
          dsimp only at this
          omega
        · rw [if_neg z] at q
          have := r2 (by omega)
          dsimp only at this
          omega
      rw [i32_le, hb] at q
      by_cases c : 0 ≤ (M 5 0 3 (40 * r + k)).toInt ∧ (M 5 0 3 (40 * r + k)).toInt < (N : Int)
      · refine bn_t c ?_
        rw [nI_1]
        refine ih (k + 1) (by omega) (fun p hp => ?_) _ ?_
        · by_cases y : p = k
          · subst y
            refine ⟨c, fun q0 => ?_⟩
            rw [if_neg (by omega)] at q
            dsimp only
            omega
          · exact hR p (by omega)
        · rw [if_neg (by omega)]; rfl
      · exact bn_f c <| hf fun R => c (R k (by omega)).1
  exact rX8_areRisingSteps_0 (L n 0 (Nat.zero_add _) (fun q hq => absurd hq (Nat.not_lt_zero q)) (-1) rfl)
theorem m_rising {r n N : Nat} {b1 b4 b5 b6 : Int32} (hr : r < 8) (hn : n ≤ 40) (hN : N ≤ 18) (e : M 9 0 6 0 = nI N) (ht : Ris (fun k => M 9 0 5 (40 * r + k)) N n → TT X kX9_layNow 0 [some (pR (9, 0, 0)), none] [] (mset M 9 0 0 1 0) (rV fun M33 => TT X kX9_asked 195 [some (pR (9, 0, 0)), some (pI b1), some (pI (nI r)), some (pI (nI n)), some (pI b4), some (pI b5), some (pI b6), some (pI 0), some (pI (-1000000)), some (pI 20)] [] M33 Q)) (hf : ¬ Ris (fun k => M 9 0 5 (40 * r + k)) N n → Q (some (pI (-1000001))) M) : TT X kX9_asked 107 [some (pR (9, 0, 0)), some (pI b1), some (pI (nI r)), some (pI (nI n)), some (pI b4), some (pI b5), some (pI b6), some (pI 0), none, none] [] M Q := by
  have L : ∀ d k, k + d = n → Ris (fun k => M 9 0 5 (40 * r + k)) N k → TT X kX9_asked 107 [some (pR (9, 0, 0)), some (pI b1), some (pI (nI r)), some (pI (nI n)), some (pI b4), some (pI b5), some (pI b6), some (pI (nI k)), none, none] [] M Q := by
    intro d
    induction d with
    | zero =>
      intro k hk hR
      obtain rfl : k = n := by omega
      exact rX9_asked_107 <| br_t (nI_le (Nat.le_refl _) (by omega)) (ht hR)
    | succ d ih =>
      intro k hk hR
      have v320 : vp_in (nI (40 * r + k)) 320 := vp_in_nI (by omega) (by decide)
      refine rX9_asked_107 <| br_f (nI_ge (by omega) (by omega)) ?_
      rw [idx_m, clampI (by omega), nI_1]
      refine ⟨v320, m_isStep (by omega) e ?_⟩
      by_cases c : 0 ≤ (M 9 0 5 (40 * r + k)).toInt ∧ (M 9 0 5 (40 * r + k)).toInt < (N : Int)
      rotate_left
      · exact bz_f c <| hf fun R => c (R k (by omega)).1
      refine bz_t c ?_
      by_cases z : k = 0
      · subst z
        refine br_t (by decide +kernel) <| ih 1 (by omega) fun p hp => ?_
        obtain rfl : p = 0 := by omega
        exact ⟨c, fun q => absurd q (Nat.lt_irrefl _)⟩
      · have e1 : nI (40 * r + k) - 1 = nI (40 * r + (k - 1)) := by
          rw [show (1 : Int32) = nI 1 from rfl, pk_sub (by omega)]
          congr 1
          omega
        refine br_f (nI_nle (by omega) (by omega)) ⟨v320, ?_⟩
        rw [e1, clampI (by omega)]
        refine ⟨vp_in_nI (by omega) (by decide), fun q => ih (k + 1) (by omega) fun p hp => ?_, fun q => hf fun R => ?_⟩
        · by_cases y : p = k
          · subst y
            exact ⟨c, fun _ => i32_lt.mp q⟩
          · exact hR p (by omega)
        · exact q (i32_lt.mpr ((R k (by omega)).2 (by omega)))
  exact L n 0 (Nat.zero_add _) (fun q hq => absurd hq (Nat.not_lt_zero q))
theorem s_isTrodden {r l z n rc : Nat} {N : Nat} {br st : NF} (hr : RowA M r l z) (hn : n ≤ z) (hW : WayF M 0 N rc as br) (hN : N ≤ 18) (hst : ∀ q, q < n → M 5 0 3 (40 * r + q) = nI (st q) ∧ st q < 18) (ht : Tr (path N rc as br) st n → Q (some (pI 1)) M) (hf : ¬ Tr (path N rc as br) st n → Q (some (pI 0)) M) : TT X kX8_isTrodden 0 [some (pR (8, 0, 0)), some (pI (nI r)), some (pI (nI n)), none] [] M Q := by
  have z40 := hr.2.2.1
  have l18 := path_18 (n := N) (rc := rc) (as := as) (br := br)
  refine rX8_isTrodden_0 <| rX2_treads_0 (by decide) ?_
  show _ ∧ _
  rw [hW.2.1]
  by_cases c : (path N rc as br).length = n
  rotate_left
  · exact br_f (fun q => c ((nI_eq (by omega) (by omega)).mp q)) <| hf fun t => c t.1
  refine br_t (by rw [c]) ?_
  have L : ∀ d k, k + d = n → (∀ q, q < k → (path N rc as br).getD q 0 = st q) → TT X kX8_isTrodden 15 [some (pR (8, 0, 0)), some (pI (nI r)), some (pI (nI n)), some (pI (nI k))] [] M Q := by
    intro d
    induction d with
    | zero =>
      intro k hk hR
      obtain rfl : k = n := by omega
      exact rX8_isTrodden_15 <| br_t (nI_le (Nat.le_refl _) (by omega)) (ht ⟨c, hR⟩)
    | succ d ih =>
      intro k hk hR
      have lt := path_lt (show k < (path N rc as br).length by omega) 0
      obtain ⟨s1, s2⟩ := hst k (by omega)
      refine rX8_isTrodden_15 <| br_f (nI_ge (by omega) (by omega)) <| s_tread (by decide) l18 hW ?_
      rw [nI_int (by omega), if_pos (by omega)]
      refine s_item hr (by omega) ?_
      show _ ∧ _
      rw [s1, nI_1, show (Int.toNat (k : Int)) = k from rfl]
      by_cases g : (path N rc as br).getD k 0 = st k
      · refine br_t (by rw [g]) <| ih (k + 1) (by omega) fun q hq => ?_
        by_cases y : q = k
        · subst y; exact g
        · exact hR q (by omega)
      · exact br_f (fun q => g ((nI_eq (by omega) (by omega)).mp q)) <| hf fun t => g (t.2 k (by omega))
  exact L n 0 (Nat.zero_add _) (fun q hq => absurd hq (Nat.not_lt_zero q))
theorem m_isJust {r n rc N : Nat} {br st : NF} (hr : r < 8) (hn : 1 ≤ n) (hn2 : n ≤ 40) (ha : ∀ s, s < N → as s ≤ 20) (hN : N ≤ 18) (hrc : 1 ≤ rc) (hR : ∀ y, y ≤ N → RR M (Lk N rc as br y) y) (hst : ∀ q, q < n → M 9 0 5 (40 * r + q) = nI (st q) ∧ st q < 18) (ht : w0 N rc as br < INF → Tr (path N rc as br) st n → Q (some (pI 1)) M) (hf : ¬ (w0 N rc as br < INF ∧ Tr (path N rc as br) st n) → Q (some (pI 0)) M) : TT X kX9_isJust 0 [some (pR (9, 0, 0)), some (pI (40 * nI r)), some (pI (nI n)), none, none, none] [] M Q := by
  have l18 := path_18 (n := N) (rc := rc) (as := as) (br := br)
  have no : (¬ (w0 N rc as br < INF ∧ Tr (path N rc as br) st n)) → ∀ (b4 : Int32) (k : Nat), k ≤ n → TT X kX9_isJust 34 [some (pR (9, 0, 0)), some (pI (40 * nI r)), some (pI (nI n)), some (pI 0), some (pI b4), some (pI (nI k))] [] M Q := by
    intro g b4 k hk
    refine rX9_isJust_34 ⟨fun _ => ⟨Or.inl rfl, hf g⟩, fun _ => br_t rfl ⟨Or.inl rfl, hf g⟩⟩
  refine rX9_isJust_0 <| m_hasWay (hR 0 (Nat.zero_le _)) ?_
  by_cases c : w0 N rc as br < INF
  rotate_left
  · exact bz_f c <| no (fun q => c q.1) _ 0 (Nat.zero_le _)
  refine bz_t c ?_
  have rp := rp_path (M := M) ha hN hrc hR c
  have e24 : M 9 0 24 0 = nI (path N rc as br).length := by
    rw [(hR 0 (Nat.zero_le _)).2.1, ← w0_Lk, if_pos c, path_len ha hN hrc c]
  rw [e24]
  by_cases g : (path N rc as br).length = n
  rotate_left
  · exact nr_f (fun q => g ((nI_eq (by omega) (by omega)).mp q)) <| no (fun q => g q.2.1) _ 0 (Nat.zero_le _)
  refine nr_t (by rw [g]) ?_
  rw [rp.1]
  have L : ∀ d k, k + d = n → (∀ q, q < k → (path N rc as br).getD q 0 = st q) → TT X kX9_isJust 34 [some (pR (9, 0, 0)), some (pI (40 * nI r)), some (pI (nI n)), some (pI 1), some (pI (nI ((path N rc as br).getD k N))), some (pI (nI k))] [] M Q := by
    intro d
    induction d with
    | zero =>
      intro k hk hp
      obtain rfl : k = n := by omega
      exact rX9_isJust_34 <| br_t (nI_le (Nat.le_refl _) (by omega)) ⟨Or.inr rfl, ht c ⟨g, hp⟩⟩
    | succ d ih =>
      intro k hk hp
      have hk' : k < (path N rc as br).length := by omega
      obtain ⟨p1, p2⟩ := rp.2 k hk'
      obtain ⟨s1, s2⟩ := hst k (by omega)
      refine rX9_isJust_34 <| br_f (nI_ge (by omega) (by omega)) <| br_f (by decide) ?_
      rw [idx_m, clampI (by omega), s1, nI_1, nI_1, clampI (by omega), p2]
      refine ⟨vp_in_nI (by omega) (by decide), ?_⟩
      by_cases f : (path N rc as br).getD k N = st k
      · refine nr_t (by rw [f]) ⟨vp_in_nI (by omega) (by decide), ih (k + 1) (by omega) fun q hq => ?_⟩
        by_cases y : q = k
        · subst y; rw [getD_in 0 N hk']; exact f
        · exact hp q (by omega)
      · refine nr_f (fun q => f ((nI_eq (by omega) (by omega)).mp q)) <| no (fun q => f ?_) _ (k + 1) (by omega)
        rw [getD_in N 0 hk']
        exact q.2.2 k (by omega)
  exact L n 0 (Nat.zero_add _) (fun q hq => absurd hq (Nat.not_lt_zero q))
theorem leF_ok {f : Nat → Bool} : ∀ k, k ≤ 21 → leF f k = -1000000 ∨ ∃ x : Nat, x ≤ 20 ∧ leF f k = nI x
  | 0, _ => Or.inl rfl
  | k + 1, h => by
    have e : leF f (k + 1) = if leF f k = -1000000 then (if f k then nI k else -1000000) else leF f k := rfl
    rw [e]
    rcases leF_ok (f := f) k (by omega) with q | ⟨x, q1, q2⟩
    · rw [if_pos q]
      by_cases c : f k = true
      · rw [if_pos c]; exact Or.inr ⟨k, by omega, rfl⟩
      · rw [if_neg c]; exact Or.inl rfl
    · rw [q2, if_neg (nI_nn (by omega))]
      exact Or.inr ⟨x, q1, rfl⟩
theorem s_fits {r l z n k u w : Nat} {sum a6 : Int32} {sm : Nat} {st : NF} (hr : RowA M r l z) (hn : n ≤ z) (hk : k < n) (hw : w < sd 1) (hv : SV sd) (hS : StX (M 6 0) sd) (hu : u < sd 0) (eu : M 5 0 3 (40 * r + k) = nI u) (es : sum = nI sm) (hsm : sm ≤ 9999) (hst : ∀ q, q < n → M 5 0 3 (40 * r + q) = nI (st q) ∧ st q < 18) (h : ∀ M', Scr M M' → M' 9 0 = M 9 0 → Q (some (pI (if a6 = 0 then nI (cntF (fun v => fitB sd (setU (sAs sd) u v) w n sm st) 21) else leF (fun v => fitB sd (setU (sAs sd) u v) w n sm st) 21))) M') : TT X kX8_askingsThatFit 0 [some (pR (8, 0, 0)), some (pI (nI w)), some (pI (nI r)), some (pI (nI n)), some (pI (nI k)), some (pI sum), some (pI a6), none, none, none, none] [] M Q := by
  have l0 := hv.1
  have l1 := hv.2.1
  obtain ⟨⟨r1, r3⟩, v2, v3, -⟩ := hv.2.2.2 w hw
  have lo : sLo sd w ≤ 2 := v2
  have v18 : vp_in (nI u) 18 := vp_in_nI (by omega) (by decide)
  have v6 : vp_in (nI w) 6 := vp_in_nI (by omega) (by decide)
  have L : ∀ d v, v + d = 21 → ∀ M1 a, Scr M M1 → M1 9 0 = M 9 0 → SVA sd a (sOw sd) → (∀ x, setU a u x = setU (sAs sd) u x) → StY (M1 6 2) sd a (sOw sd) → TT X kX8_askingsThatFit 58 [some (pR (8, 0, 0)), some (pI (nI w)), some (pI (nI r)), some (pI (nI n)), some (pI (nI k)), some (pI sum), some (pI a6), some (pI (nI u)), some (pI (nI (cntF (fun v => fitB sd (setU (sAs sd) u v) w n sm st) v))), some (pI (leF (fun v => fitB sd (setU (sAs sd) u v) w n sm st) v)), some (pI (nI v))] [] M1 Q := by
    intro d
    induction d with
    | zero =>
      intro v hv21 M1 a s1 e1 va ea y1
      obtain rfl : v = 21 := by omega
      refine rX8_askingsThatFit_58 <| br_t (by decide +kernel) ?_
      have fin := h M1 s1 e1
      by_cases c : a6 = 0
      · rw [if_pos c] at fin; exact nr_t c fin
      · rw [if_neg c] at fin; exact nr_f c fin
    | succ d ih =>
      intro v hv21 M1 a s1 e1 va ea y1
      have y2 := sty_u (u := u) (v := v) y1
      rw [ea v] at y2
      have vu := sva_u (u := u) (v := v) (sva_of hv) (by omega)
      have ha : ∀ s, s < sd 0 → setU (sAs sd) u v s ≤ 20 := fun s q => (vu.2 s q).1
      refine rX8_askingsThatFit_58 <| br_f (nI_nlt (a := 20) (by omega) (by decide)) ⟨v18, v6, ?_⟩
      rw [clampI (by omega), clampI (by omega), (y2.2.2.2 w hw).1, nI_1]
      have s2 : Scr M (mset M1 6 2 4 u (nI v)) := Scr.trans s1 (Scr.oth (Oth.set (c := 6) (i := 2) Oth.rfl') (by decide))
      refine s_fnd (w := w) (by decide) (by decide) vu y2 (rc := sRe sd w) r1 r3 fun M2 o2 hW => ?_
      have s3 : Scr M M2 := Scr.trans s2 (Scr.oth o2 (by decide))
      have e3 : M2 9 0 = M 9 0 := by rw [o2 9 0 (by omega), mset_c2 (by omega)]; exact e1
      have y3 : StY (M2 6 2) sd (setU (sAs sd) u v) (sOw sd) := by rw [o2 6 2 (by omega)]; exact y2
      have m5 : M2 5 0 = M 5 0 := s3.1 5 0 (by decide) (by decide) (by decide) (by decide)
      have ih := ih (v + 1) (by omega) M2 (setU (sAs sd) u v) s3 e3 vu (fun x => setU_2) y3
      have ec : cntF (fun v => fitB sd (setU (sAs sd) u v) w n sm st) (v + 1) = if fitB sd (setU (sAs sd) u v) w n sm st then cntF (fun v => fitB sd (setU (sAs sd) u v) w n sm st) v + 1 else cntF (fun v => fitB sd (setU (sAs sd) u v) w n sm st) v := rfl
      have el : leF (fun v => fitB sd (setU (sAs sd) u v) w n sm st) (v + 1) = if leF (fun v => fitB sd (setU (sAs sd) u v) w n sm st) v = -1000000 then (if fitB sd (setU (sAs sd) u v) w n sm st then nI v else -1000000) else leF (fun v => fitB sd (setU (sAs sd) u v) w n sm st) v := rfl
      rw [ec, el] at ih
      have no : ¬ fitB sd (setU (sAs sd) u v) w n sm st = true → TT X kX8_askingsThatFit 58 [some (pR (8, 0, 0)), some (pI (nI w)), some (pI (nI r)), some (pI (nI n)), some (pI (nI k)), some (pI sum), some (pI a6), some (pI (nI u)), some (pI (nI (cntF (fun v => fitB sd (setU (sAs sd) u v) w n sm st) v))), some (pI (leF (fun v => fitB sd (setU (sAs sd) u v) w n sm st) v)), some (pI (nI (v + 1)))] [] M2 Q := by
        intro g
        rw [if_neg g, if_neg g] at ih
        by_cases zz : leF (fun v => fitB sd (setU (sAs sd) u v) w n sm st) v = -1000000
        · rw [if_pos zz] at ih
          rw [zz]; exact ih
        · rw [if_neg zz] at ih
          exact ih
      refine s_isGone (by decide) (by decide) hv.1 ha hW y3 hv hw ?_
      by_cases c1 : w0 (sd 0) (sRe sd w) (setU (sAs sd) u v) (sBr sd) < INF ∧ w0 (sd 0) (sRe sd w) (setU (sAs sd) u v) (sBr sd) / 32 * (1 + sLo sd w) ≤ sWo sd w
      rotate_left
      · exact bz_f c1 <| no fun q => c1 (fit_iff.mp q).1
      have wf := w0_fin ha hv.1 c1.1
      have pr : w0 (sd 0) (sRe sd w) (setU (sAs sd) u v) (sBr sd) / 32 * (1 + sLo sd w) ≤ 360 * 3 := Nat.mul_le_mul wf.1 (by omega)
      refine bz_t c1 <| s_cost (by decide) (by decide) hW y3 hv.2.1 hw ?_
      show _ ∧ _
      rw [es]
      by_cases c2 : w0 (sd 0) (sRe sd w) (setU (sAs sd) u v) (sBr sd) / 32 * (1 + sLo sd w) = sm
      rotate_left
      · rw [← es]
        exact nr_f (fun q => c2 ((nI_eq (by omega) (by omega)).mp (by rw [← es]; exact q))) <| no fun q => c2 (fit_iff.mp q).2.1
      refine nr_t (by rw [c2]) <| s_isTrodden (r := r) (l := l) (z := z) (st := st) (by unfold RowA; rw [m5]; exact hr) hn hW hv.1 (by rw [m5]; exact hst) (fun t => ?_) (fun t => ?_)
      · have g : fitB sd (setU (sAs sd) u v) w n sm st = true := fit_iff.mpr ⟨c1, c2, t⟩
        rw [if_pos g, if_pos g] at ih
        refine ⟨fun q => absurd q (by decide), fun _ => ?_⟩
        rw [nI_1, ← es]
        by_cases zz : leF (fun v => fitB sd (setU (sAs sd) u v) w n sm st) v = -1000000
        · rw [if_pos zz] at ih
          exact nr_t zz ih
        · rw [if_neg zz] at ih
          exact nr_f zz ih
      · refine ⟨fun _ => ?_, fun q => absurd rfl q⟩
        rw [← es]
        exact no fun q => t (fit_iff.mp q).2.2
  refine rX8_askingsThatFit_0 <| s_item hr (by omega) ?_
  show TT _ _ _ _ _ _ _
  rw [eu]
  refine s_hasStep (n := sd 0) (by decide) (by omega) hS.1 <| bn_t (by rw [nI_int (by omega)]; omega) <| s_takeOver (by decide) (by decide) (by decide) hS hv.1 hv.2.1 fun M1 o1 y1 => ?_
  exact L 21 0 rfl M1 (sAs sd) (Scr.oth o1 (by decide)) (o1 9 0 (by omega)) (sva_of hv) (fun _ => rfl) (stx_y y1)
theorem m_fits {r n k u w : Nat} {sum a6 : Int32} {sm : Nat} {st : NF} (hr : r < 8) (hn : 1 ≤ n) (hn2 : n ≤ 40) (hk : k < n) (hw : w < sd 1) (hv : SV sd) (hS : StR M sd (sAs sd) (sOw sd)) (hu : u < sd 0) (eu : M 9 0 5 (40 * r + k) = nI u) (es : sum = nI sm) (hsm : sm ≤ 9999) (hst : ∀ q, q < n → M 9 0 5 (40 * r + q) = nI (st q) ∧ st q < 18) (h : ∀ M', O9 M M' [22, 23, 24, 25] → Q (some (pI (if a6 = 0 then nI (cntF (fun v => fitB sd (setU (sAs sd) u v) w n sm st) 21) else leF (fun v => fitB sd (setU (sAs sd) u v) w n sm st) 21))) M') : TT X kX9_asked 195 [some (pR (9, 0, 0)), some (pI (nI w)), some (pI (nI r)), some (pI (nI n)), some (pI (nI k)), some (pI sum), some (pI a6), some (pI 0), some (pI (-1000000)), some (pI 20)] [] M Q := by
  have l0 := hv.1
  have l1 := hv.2.1
  obtain ⟨⟨r1, r3⟩, v2, v3, -⟩ := hv.2.2.2 w hw
  have lo : sLo sd w ≤ 2 := v2
  have L : ∀ d j, j + d = 21 → ∀ M1 a, O9 M M1 [22, 23, 24, 25] → SVA sd a (sOw sd) → (∀ x, setU a u x = setU (sAs sd) u x) → StR M1 sd a (sOw sd) → TT X kX9_asked 195 [some (pR (9, 0, 0)), some (pI (nI w)), some (pI (nI r)), some (pI (nI n)), some (pI (nI k)), some (pI sum), some (pI a6), some (pI (nI (dnF (fun v => fitB sd (setU (sAs sd) u v) w n sm st) j).1)), some (pI (dnF (fun v => fitB sd (setU (sAs sd) u v) w n sm st) j).2), some (pI (nI d - 1))] [] M1 Q := by
    intro d
    induction d with
    | zero =>
      intro j hj M1 a o1 va ea y1
      obtain rfl : j = 21 := by omega
      refine rX9_asked_195 <| br_t (by decide +kernel) ?_
      have fin := h M1 o1
      rw [dn_21]
      dsimp only
      generalize cntF (fun v => fitB sd (setU (sAs sd) u v) w n sm st) 21 = C at fin ⊢
      generalize leF (fun v => fitB sd (setU (sAs sd) u v) w n sm st) 21 = E at fin ⊢
      by_cases c : a6 = 0
      · rw [if_pos c] at fin; exact nr_t c fin
      · rw [if_neg c] at fin; exact nr_f c fin
    | succ d ih =>
      intro j hj M1 a o1 va ea y1
      rw [nI_pred]
      have y2 := str_u (u := u) (v := d) y1
      rw [ea d] at y2
      have vu := sva_u (u := u) (v := d) (sva_of hv) (by omega)
      have ha : ∀ s, s < sd 0 → setU (sAs sd) u d s ≤ 20 := fun s q => (vu.2 s q).1
      refine rX9_asked_195 <| br_f (nI_pos (by omega)) ?_
      rw [idx_m, clampI (by omega), o1.2 5 (by decide), eu, clampI (by omega), show nI d + -1 = nI d - 1 from by rw [Int32.sub_eq_add_neg]]
      have o2 : O9 M (mset M1 9 0 22 u (nI d)) [22, 23, 24, 25] := O9.set o1 (by decide)
      refine ⟨vp_in_nI (by omega) (by decide), vp_in_nI (by omega) (by decide), m_lay vu hw y2 fun M2 o3' y3 rr => ?_⟩
      have o3 : O9 M M2 [22, 23, 24, 25] := O9.trans o2 (O9.sub o3' (by decide))
      have ih := ih (j + 1) (by omega) M2 (setU (sAs sd) u d) o3 vu (fun x => setU_2) y3
      have ed : dnF (fun v => fitB sd (setU (sAs sd) u v) w n sm st) (j + 1) = if fitB sd (setU (sAs sd) u (20 - j)) w n sm st then ((dnF (fun v => fitB sd (setU (sAs sd) u v) w n sm st) j).1 + 1, nI (20 - j)) else dnF (fun v => fitB sd (setU (sAs sd) u v) w n sm st) j := rfl
      rw [show 20 - j = d by omega] at ed
      rw [ed] at ih
      have no : ¬ fitB sd (setU (sAs sd) u d) w n sm st = true → TT X kX9_asked 195 [some (pR (9, 0, 0)), some (pI (nI w)), some (pI (nI r)), some (pI (nI n)), some (pI (nI k)), some (pI sum), some (pI a6), some (pI (nI (dnF (fun v => fitB sd (setU (sAs sd) u v) w n sm st) j).1)), some (pI (dnF (fun v => fitB sd (setU (sAs sd) u v) w n sm st) j).2), some (pI (nI d - 1))] [] M2 Q := by
        intro g
        rw [if_neg g] at ih
        exact ih
      refine m_isJust (r := r) (st := st) hr hn hn2 ha hv.1 r1 rr (by rw [o3.2 5 (by decide)]; exact hst) (fun t1 t2 => ⟨fun q => absurd q (by decide), fun _ => ?_⟩) (fun t => ⟨fun _ => no fun q => t ⟨(fit_iff.mp q).1.1, (fit_iff.mp q).2.2⟩, fun q => absurd rfl q⟩)
      refine m_goes hv.1 ha (by omega) v2 v3 y3.1 (rr 0 (Nat.zero_le _)) ?_
      by_cases c1 : w0 (sd 0) (sRe sd w) (setU (sAs sd) u d) (sBr sd) < INF ∧ w0 (sd 0) (sRe sd w) (setU (sAs sd) u d) (sBr sd) / 32 * (1 + sLo sd w) ≤ sWo sd w
      rotate_left
      · exact bz_f c1 <| no fun q => c1 (fit_iff.mp q).1
      have wf := w0_fin ha hv.1 c1.1
      have pr : w0 (sd 0) (sRe sd w) (setU (sAs sd) u d) (sBr sd) / 32 * (1 + sLo sd w) ≤ 360 * 3 := Nat.mul_le_mul wf.1 (by omega)
      refine bz_t c1 <| m_costOf (by omega) y3.1 (rr 0 (Nat.zero_le _)) c1.1 ?_
      show _ ∧ _
      by_cases c2 : w0 (sd 0) (sRe sd w) (setU (sAs sd) u d) (sBr sd) / 32 * (1 + sLo sd w) = sm
      · rw [if_pos (fit_iff.mpr ⟨c1, c2, t2⟩)] at ih
        refine nr_t (by rw [c2, es]) ?_
        rw [nI_1]
        exact ih
      · exact nr_f (fun q => c2 ((nI_eq (by omega) (by omega)).mp (by rw [← es]; exact q))) <| no fun q => c2 (fit_iff.mp q).2.1
  exact L 21 0 rfl M (sAs sd) O9.rfl' (sva_of hv) (fun _ => rfl) hS
theorem inv_stA {M M1 M2 : Mem} (h : Inv M) (s1 : Scr M M1) (s2 : Scr (mset (mset (mset M1 8 0 0 12 0) 9 0 0 0 0) 9 0 0 1 0) M2) : Inv M2 := inv_scr (inv_st0 (inv_scr h s1)) s2
theorem pair_asked {F : Int32 → Int32 → Mem → Prop} {a1 a2 a3 a4 a5 a6 : Int32} (hI : Inv M) (h : ∀ v M', Inv M' → F v v M') : TT X kX8_asked 0 [some (pR (8, 0, 0)), some (pI a1), some (pI a2), some (pI a3), some (pI a4), some (pI a5), some (pI a6)] [] M (rI fun v1 M1 => TT X kX9_asked 0 [some (pR (9, 0, 0)), some (pI a1), some (pI a2), some (pI a3), some (pI a4), some (pI a5), some (pI a6), none, none, none] [] M1 (rI fun v2 M2 => F v1 v2 M2)) := by
  obtain ⟨n1, n2, n3, w1, w2, w3⟩ := now_of hI
  have hT := inv_thr (v := 0) hI
  obtain ⟨⟨h6, hv⟩, hX, -⟩ := hI.2.2.2.2.1
  have e18 : (18 : Int32).toInt = 18 := rfl
  have e99 : (9999 : Int32).toInt = 9999 := rfl
  by_cases c1 : 0 ≤ a1.toInt ∧ a1.toInt < (sdOf (M 9 0 6) 1 : Nat)
  rotate_left
  · exact rX8_asked_0 <| s_hasWalker (by decide) (by omega) w2 <| bz_f c1 <| rX9_asked_0 <| m_isWalker (by omega) (by rw [thr6]; exact w3) <| bz_f c1 <| h _ _ hT
  by_cases c2 : 0 ≤ a2.toInt ∧ a2.toInt < 8
  rotate_left
  · exact rX8_asked_0 <| s_hasWalker (by decide) (by omega) w2 <| bz_t c1 <| s_isNumber <| bz_f c2 <| rX9_asked_0 <| m_isWalker (by omega) (by rw [thr6]; exact w3) <| bz_t c1 <| s_isRow <| bz_f c2 <| h _ _ hT
  have head : ∀ (M1 : Mem) (u : Int32), M1 9 0 = M 9 0 → TT X kX9_in 0 [some (pL (Int32.toInt64 a3)), none, some (pL 1), none, some (pL 18), none] [] (mset M1 9 0 0 0 0) (rI fun v6 M5 => (v6 = 0 → F u (-1000001) M5) ∧ (¬ v6 = 0 → TT X kX9_in 0 [some (pL (Int32.toInt64 a4)), none, some (pL 0), none, some (pL (Int32.toInt64 (a3 - 1))), none] [] M5 (rI fun v8 M7 => (v8 = 0 → F u (-1000001) M7) ∧ (¬ v8 = 0 → TT X kX9_in 0 [some (pL (Int32.toInt64 a5)), none, some (pL 0), none, some (pL 9999), none] [] M7 (rI fun v10 M9 => (v10 = 0 → F u (-1000001) M9) ∧ (¬ v10 = 0 → TT X kX9_in 0 [some (pL (Int32.toInt64 a6)), none, some (pL 0), none, some (pL 1), none] [] M9 (rI fun v12 M11 => (¬ v12 = 0 → vp_in a2 8 ∧ ((0 ≤ (M11 9 0 3 (Int32.toNatClampNeg a2)) → vp_in a2 8 ∧ ((a3 ≤ (M11 9 0 4 (Int32.toNatClampNeg a2)) → TT X kX9_asked 107 [some (pR (9, 0, 0)), some (pI a1), some (pI a2), some (pI a3), some (pI a4), some (pI a5), some (pI a6), some (pI 0), none, none] [] M11 (rI fun v2 M2 => F u v2 M2)) ∧ (¬ a3 ≤ (M11 9 0 4 (Int32.toNatClampNeg a2)) → TT X kX9_finding 0 [some (pR (9, 0, 0)), some (pI 2)] [] M11 (rI fun v14 M13 => F u v14 M13)))) ∧ (¬ 0 ≤ (M11 9 0 3 (Int32.toNatClampNeg a2)) → TT X kX9_finding 0 [some (pR (9, 0, 0)), some (pI 1)] [] M11 (rI fun v18 M17 => F u v18 M17)))) ∧ (v12 = 0 → F u (-1000001) M11)))))))) → TT X kX9_asked 0 [some (pR (9, 0, 0)), some (pI a1), some (pI a2), some (pI a3), some (pI a4), some (pI a5), some (pI a6), none, none, none] [] M1 (rI fun v2 M2 => F u v2 M2) := by
    intro M1 u e1 g
    exact rX9_asked_0 <| m_isWalker (n := sdOf (M 9 0 6) 1) (by omega) (by rw [thr6, e1]; exact w3) <| bz_t c1 <| s_isRow <| bz_t c2 g
  refine rX8_asked_0 <| s_hasWalker (by decide) (by omega) w2 <| bz_t c1 <| s_isNumber <| bz_t c2 ?_
  by_cases c3 : 1 ≤ a3.toInt ∧ a3.toInt ≤ 18
  rotate_left
  · have m : TT X kX9_asked 0 [some (pR (9, 0, 0)), some (pI a1), some (pI a2), some (pI a3), some (pI a4), some (pI a5), some (pI a6), none, none, none] [] M (rI fun v2 M2 => F (-1000001) v2 M2) := head M _ rfl <| s_in <| bz_f (by rw [i64]; exact c3) <| h _ _ hT
    refine ⟨fun _ => m, fun q1 => ⟨fun _ => m, fun q2 => absurd ?_ c3⟩⟩
    rw [i32_lt, one_i] at q1
    rw [i32_lt, e18] at q2
    omega
  have x1 : ¬ a3 < 1 := by rw [i32_lt, one_i]; omega
  have x2 : ¬ 18 < a3 := by rw [i32_lt, e18]; omega
  refine br_f x1 <| br_f x2 ?_
  obtain ⟨n, hn, rfl⟩ : ∃ o : Nat, o ≤ 18 ∧ a3 = nI o := ⟨a3.toInt.toNat, by omega, nI_is (by omega)⟩
  have en := nI_int (n := n) (by omega)
  have g3 : (1 : Int64).toInt ≤ (Int32.toInt64 (nI n)).toInt ∧ (Int32.toInt64 (nI n)).toInt ≤ (18 : Int64).toInt := by rw [i64]; exact c3
  have em : (Int32.toInt64 (nI n - 1)).toInt = (n : Int) - 1 := by rw [i64, nI_m1 (by omega)]
  by_cases c4 : 0 ≤ a4.toInt ∧ a4.toInt < n
  rotate_left
  · have m : TT X kX9_asked 0 [some (pR (9, 0, 0)), some (pI a1), some (pI a2), some (pI (nI n)), some (pI a4), some (pI a5), some (pI a6), none, none, none] [] M (rI fun v2 M2 => F (-1000001) v2 M2) := head M _ rfl <| s_in <| bz_t g3 <| s_in <| bz_f (by rw [i64, em, l64_0]; omega) <| h _ _ hT
    refine ⟨fun _ => m, fun q1 => ⟨fun _ => m, fun q2 => absurd ?_ c4⟩⟩
    rw [i32_lt, z0] at q1
    rw [i32_le, en] at q2
    omega
  have x3 : ¬ a4 < 0 := by rw [i32_lt, z0]; omega
  have x4 : ¬ nI n ≤ a4 := by rw [i32_le, en]; omega
  refine br_f x3 <| br_f x4 ?_
  have g4 : (0 : Int64).toInt ≤ (Int32.toInt64 a4).toInt ∧ (Int32.toInt64 a4).toInt ≤ (Int32.toInt64 (nI n - 1)).toInt := by rw [i64, em, l64_0]; omega
  by_cases c5 : 0 ≤ a5.toInt ∧ a5.toInt ≤ 9999
  rotate_left
  · have m : TT X kX9_asked 0 [some (pR (9, 0, 0)), some (pI a1), some (pI a2), some (pI (nI n)), some (pI a4), some (pI a5), some (pI a6), none, none, none] [] M (rI fun v2 M2 => F (-1000001) v2 M2) := head M _ rfl <| s_in <| bz_t g3 <| s_in <| bz_t g4 <| s_in <| bz_f (by rw [i64]; exact c5) <| h _ _ hT
    refine ⟨fun _ => m, fun q1 => ⟨fun _ => m, fun q2 => absurd ?_ c5⟩⟩
    rw [i32_lt, z0] at q1
    rw [i32_lt, e99] at q2
    omega
  have x5 : ¬ a5 < 0 := by rw [i32_lt, z0]; omega
  have x6 : ¬ 9999 < a5 := by rw [i32_lt, e99]; omega
  refine br_f x5 <| br_f x6 ?_
  have g5 : (0 : Int64).toInt ≤ (Int32.toInt64 a5).toInt ∧ (Int32.toInt64 a5).toInt ≤ (9999 : Int64).toInt := by rw [i64]; exact c5
  by_cases c6 : 0 ≤ a6.toInt ∧ a6.toInt ≤ 1
  rotate_left
  · have m : TT X kX9_asked 0 [some (pR (9, 0, 0)), some (pI a1), some (pI a2), some (pI (nI n)), some (pI a4), some (pI a5), some (pI a6), none, none, none] [] M (rI fun v2 M2 => F (-1000001) v2 M2) := head M _ rfl <| s_in <| bz_t g3 <| s_in <| bz_t g4 <| s_in <| bz_t g5 <| s_in <| bn_f (by rw [i64]; exact c6) <| h _ _ hT
    refine ⟨fun _ => m, fun q1 => ⟨fun q2 => absurd ?_ c6, fun _ => m⟩⟩
    rw [i32_lt, z0] at q1
    rw [i32_le, one_i] at q2
    omega
  have x7 : ¬ a6 < 0 := by rw [i32_lt, z0]; omega
  have x8 : a6 ≤ 1 := by rw [i32_le, one_i]; omega
  refine br_f x7 <| br_t x8 ?_
  have g6 : (0 : Int64).toInt ≤ (Int32.toInt64 a6).toInt ∧ (Int32.toInt64 a6).toInt ≤ (1 : Int64).toInt := by rw [i64]; exact c6
  obtain ⟨r, hr, rfl⟩ : ∃ o : Nat, o < 8 ∧ a2 = nI o := ⟨a2.toInt.toNat, by omega, nI_is (by omega)⟩
  obtain ⟨k, hk, rfl⟩ : ∃ o : Nat, o < n ∧ a4 = nI o := ⟨a4.toInt.toNat, by omega, nI_is (by omega)⟩
  obtain ⟨w, hw, rfl⟩ : ∃ o : Nat, o < sdOf (M 9 0 6) 1 ∧ a1 = nI o := ⟨a1.toInt.toNat, by omega, nI_is (by omega)⟩
  obtain ⟨sm, hsm, esm⟩ : ∃ o : Nat, o ≤ 9999 ∧ a5 = nI o := ⟨a5.toInt.toNat, by omega, nI_is (by omega)⟩
  have v8 : vp_in (nI r) 8 := vp_in_nI hr (by decide)
  have cl : Int32.toNatClampNeg (nI r) = r := clampI (by omega)
  obtain ⟨q0, q1⟩ := hI.1 r hr
  rcases q1 with q1 | ⟨l, z, hl, hz, q1, q2, q3, q4⟩
  · refine s_isMissing hr <| bz_t q1 <| s_found <| head _ _ (mset_c2 (by decide)) <| s_in <| bz_t g3 <| s_in <| bz_t g4 <| s_in <| bz_t g5 <| s_in <| bn_t g6 ⟨v8, ?_⟩
    rw [cl]
    simp +decide only [mset_c4, mset_c3, mset_c2]
    rw [← q0, q1]
    exact br_f m1_lt <| s_finding <| h _ _ (inv_st0 hI)
  have hp : ¬ M 5 0 1 r = -1 := by rw [q1]; exact nl_ne hl
  refine s_isMissing hr <| bz_f hp <| s_sizeOf hr hp ?_
  show _ ∧ _
  rw [q2]
  by_cases c7 : n ≤ z
  rotate_left
  · refine br_f (nI_ge (by omega) (by omega)) <| s_found <| head _ _ (mset_c2 (by decide)) <| s_in <| bz_t g3 <| s_in <| bz_t g4 <| s_in <| bz_t g5 <| s_in <| bn_t g6 ⟨v8, ?_⟩
    rw [cl]
    simp +decide only [mset_c4, mset_c3, mset_c2]
    rw [← q0, q1, q3]
    exact br_t (nl_ge hl) ⟨v8, br_f (nI_ge (by omega) (by omega)) <| s_finding <| h _ _ (inv_st0 hI)⟩
  have hRow : RowA M r l z := ⟨hr, hl, hz, q1, q2⟩
  have same : ∀ q, q < n → M 9 0 5 (40 * r + q) = M 5 0 3 (40 * r + q) := fun q hq => (q4 q (by omega)).symm
  have risEq : Ris (fun k => M 9 0 5 (40 * r + k)) (sdOf (M 9 0 6) 0) n ↔ Ris (fun k => M 5 0 3 (40 * r + k)) (sdOf (M 9 0 6) 0) n := by
    constructor
    · intro R q hq
      have := R q hq
      dsimp only at this ⊢
      rw [same q hq, same (q - 1) (by omega)] at this
      exact this
    · intro R q hq
      have := R q hq
      dsimp only at this ⊢
      rw [← same q hq, ← same (q - 1) (by omega)] at this
      exact this
  have ref : ∀ (M1 : Mem) (u : Int32), M1 9 0 = M 9 0 → (Ris (fun k => M 9 0 5 (40 * r + k)) (sdOf (M 9 0 6) 0) n → TT X kX9_layNow 0 [some (pR (9, 0, 0)), none] [] (mset (mset M1 9 0 0 0 0) 9 0 0 1 0) (rV fun M33 => TT X kX9_asked 195 [some (pR (9, 0, 0)), some (pI (nI w)), some (pI (nI r)), some (pI (nI n)), some (pI (nI k)), some (pI a5), some (pI a6), some (pI 0), some (pI (-1000000)), some (pI 20)] [] M33 (rI fun v2 M2 => F u v2 M2))) → (¬ Ris (fun k => M 9 0 5 (40 * r + k)) (sdOf (M 9 0 6) 0) n → F u (-1000001) (mset M1 9 0 0 0 0)) → TT X kX9_asked 0 [some (pR (9, 0, 0)), some (pI (nI w)), some (pI (nI r)), some (pI (nI n)), some (pI (nI k)), some (pI a5), some (pI a6), none, none, none] [] M1 (rI fun v2 M2 => F u v2 M2) := by
    intro M1 u e1 t f
    refine head M1 u e1 <| s_in <| bz_t g3 <| s_in <| bz_t g4 <| s_in <| bz_t g5 <| s_in <| bn_t g6 ⟨v8, ?_⟩
    have m5 : (mset M1 9 0 0 0 0) 9 0 5 = M 9 0 5 := by rw [mset_c3 (by decide), e1]
    rw [cl, mset_c3 (by decide), mset_c3 (by decide), e1, ← q0, q1, q3]
    refine br_t (nl_ge hl) ⟨v8, br_t (nI_le c7 (by omega)) <| m_rising hr (by omega) n1 (by rw [thr6, e1]; exact n3) (by rw [m5]; exact t) (by rw [m5]; exact f)⟩
  refine br_t (nI_le c7 (by omega)) <| s_rising hRow c7 n1 n2 (fun R => ⟨fun _ => ?_, fun q => absurd q (by decide)⟩) (fun R => ⟨fun q => absurd rfl q, fun _ => ?_⟩)
  rotate_left
  · exact ref M _ rfl (fun q => absurd (risEq.mp q) R) (fun _ => h _ _ hT)
  have hst : ∀ q, q < n → M 5 0 3 (40 * r + q) = nI ((M 5 0 3 (40 * r + q)).toInt.toNat) ∧ (M 5 0 3 (40 * r + q)).toInt.toNat < sdOf (M 9 0 6) 0 := fun q hq => by
    have := (R q hq).1
    dsimp only at this
    exact ⟨nI_is (by omega), by omega⟩
  generalize hsd : sdOf (M 9 0 6) = sd at *
  refine s_fits (sd := sd) (st := fun q => (M 5 0 3 (40 * r + q)).toInt.toNat) hRow c7 hk hw hv hX (hst k hk).2 (hst k hk).1 esm hsm (fun q hq => ⟨(hst q hq).1, by have := (hst q hq).2; omega⟩) fun M1 s1 e1 => s_fine ?_
  refine ref _ _ (by rw [mset_c2 (by decide)]; exact e1) (fun _ => ?_) (fun q => absurd (risEq.mpr R) q)
  have m6 : ∀ x, x < 80 → (mset (mset (mset M1 8 0 0 12 0) 9 0 0 0 0) 9 0 0 1 0) 9 0 6 x = nI (sd x) := fun x hx => by
    rw [mset_c3 (by decide), mset_c3 (by decide), mset_c2 (by decide), e1]; exact h6 x hx
  refine m_now hv m6 fun M2 o2 y2 => ?_
  have i5 : ∀ q, q < n → M2 9 0 5 (40 * r + q) = M 5 0 3 (40 * r + q) := fun q hq => by
    rw [o2.2 5 (by decide), mset_c3 (by decide), mset_c3 (by decide), mset_c2 (by decide), e1]; exact same q hq
  refine m_fits (sd := sd) (st := fun q => (M 5 0 3 (40 * r + q)).toInt.toNat) hr (by omega) (by omega) hk hw hv y2 (hst k hk).2 (by rw [i5 k hk]; exact (hst k hk).1) esm hsm (fun q hq => ⟨by rw [i5 q hq]; exact (hst q hq).1, by have := (hst q hq).2; omega⟩) fun M3 o3 => h _ _ ?_
  exact inv_stA hI s1 (Scr.trans (Scr.o9 o2 (by decide)) (Scr.o9 o3 (by decide)))
end ASKED
