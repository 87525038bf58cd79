/-! stair -/
theorem pStp_b {tp : NF} {n p : Nat} {sd : NF} (h : ∀ x, sd x ≤ 200) : ∀ x, (pStp tp n p sd).2 x ≤ 200 := fun x => by
  unfold pStp
  by_cases c : (st4 tp n p sd).2 = 0
  · obtain ⟨a, b, d, -⟩ := st_ok c
    rw [if_pos c]
    dsimp only
    unfold addS
    have := h x
    repeat' split
    all_goals omega
  · rw [if_neg c]
    exact h x
theorem pWlk_b {tp : NF} {n p : Nat} {sd : NF} (h : ∀ x, sd x ≤ 200) : ∀ x, (pWlk tp n p sd).2 x ≤ 200 := fun x => by
  unfold pWlk
  by_cases c : (wk6 tp n p sd).2 = 0
  · obtain ⟨a, b, d, e, f, -⟩ := wk_ok c
    rw [if_pos c]
    dsimp only
    unfold addW
    have := h x
    repeat' split
    all_goals omega
  · rw [if_neg c]
    exact h x
theorem pSts_b {tp : NF} {n : Nat} : ∀ d (s : PS), (∀ x, s.2 x ≤ 200) → ∀ x, (pSts tp n d s).2 x ≤ 200
  | 0, _, h => h
  | d + 1, s, h => by
    have e : pSts tp n (d + 1) s = if s.1.2 = 0 ∧ isW tp n s.1.1 0 = true then pSts tp n d (pStp tp n s.1.1 s.2) else s := rfl
    rw [e]
    split
    · exact pSts_b d _ (pStp_b h)
    · exact h
theorem pWks_b {tp : NF} {n : Nat} : ∀ d (s : PS), (∀ x, s.2 x ≤ 200) → ∀ x, (pWks tp n d s).2 x ≤ 200
  | 0, _, h => h
  | d + 1, s, h => by
    have e : pWks tp n (d + 1) s = if s.1.2 = 0 ∧ isW tp n s.1.1 1 = true then pWks tp n d (pWlk tp n s.1.1 s.2) else s := rfl
    rw [e]
    split
    · exact pWks_b d _ (pWlk_b h)
    · exact h
theorem ps2_b {tp : NF} {n : Nat} : ∀ x, (ps2 tp n).2 x ≤ 200 := pWks_b 7 _ (pSts_b 19 _ fun _ => Nat.zero_le _)
section STAIR
variable {X : Nat × (Nat → Int32)} {M M0 : Mem} {Q : Option PV → Mem → Prop} {tp : NF} {n : Nat} {sd : NF}
def At9 (M0 M : Mem) (tp : NF) (n : Nat) (s : PS) : Prop := On97 M0 M ∧ PI2 n s ∧ Tk9 M tp n s.1.1 s.1.2 ∧ Fr9 M s.2
theorem m_copy (h : Q (some (pI (fil (M 9 0 6) (M 9 0 7) 0 80 0))) (marr M 9 0 6 (fil (M 9 0 6) (M 9 0 7) 0 80))) : TT X kX9_stair 137 [some (pR (9, 0, 0)), some (pI 0)] [] M Q := by
  have L : ∀ d j : Nat, j + d = 80 → TT X kX9_stair 137 [some (pR (9, 0, 0)), some (pI (nI j))] [] (marr M 9 0 6 (fil (M 9 0 6) (M 9 0 7) 0 j)) Q := by
    intro d
    induction d with
    | zero =>
      intro j hj
      obtain rfl : j = 80 := by omega
      refine rX9_stair_137 <| br_t (by decide +kernel) ?_
      rw [marr_self]
      exact h
    | succ d ih =>
      intro j hj
      refine rX9_stair_137 <| br_f (nI_ge (a := j) (b := 80) (by omega) (by decide)) ?_
      rw [marr_c3 (by decide), clampI (by omega), nI_1, mset_marr]
      refine ⟨vp_in_nI (by omega) (by decide), vp_in_nI (by omega) (by decide), ?_⟩
      have := fil_s (M 9 0 6) (M 9 0 7) 0 j
      rw [Nat.zero_add] at this
      rw [this]
      exact ih (j + 1) (by omega)
  have := L 80 0 rfl
  rwa [fil_0, marr_id] at this
/-- what the end of the reading wants -/
def Bad9 (M0 : Mem) (tp : NF) (n : Nat) (s : PS) (Q : Option PV → Mem → Prop) : Prop := pF tp n s ≠ 0 → ∀ M1, On97 M0 M1 → Q (some (pI (-1000100 - nI (tS tp n s.1.1)))) (mset M1 9 0 0 12 (nI (pF tp n s)))
def Ok9 (X : Nat × (Nat → Int32)) (M0 : Mem) (tp : NF) (n : Nat) (s : PS) (Q : Option PV → Mem → Prop) : Prop := pF tp n s = 0 → ∀ M1, On97 M0 M1 → Fr9 M1 s.2 → TT X kX9_stair 137 [some (pR (9, 0, 0)), some (pI 0)] [] (mset (mset M1 9 0 0 7 1) 9 0 0 9 0) Q
theorem m_end {s : PS} (hs : At9 M0 M tp n s) (h1 : Bad9 M0 tp n s Q) (h2 : Ok9 X M0 tp n s Q) : (¬ (M 9 0 0 18) = 0 → ((M 9 0 0 18) ≤ 0 → TT X kX9_stair 137 [some (pR (9, 0, 0)), some (pI 0)] [] (mset (mset M 9 0 0 7 1) 9 0 0 9 0) Q) ∧ (¬ (M 9 0 0 18) ≤ 0 → Q (some (pI ((-1000100) - ((mset M 9 0 0 12 (M 9 0 0 18)) 9 0 0 19)))) (mset M 9 0 0 12 (M 9 0 0 18)))) ∧ ((M 9 0 0 18) = 0 → ((M 9 0 0 15) = 1 → ((M 9 0 0 18) ≤ 0 → TT X kX9_stair 137 [some (pR (9, 0, 0)), some (pI 0)] [] (mset (mset M 9 0 0 7 1) 9 0 0 9 0) Q) ∧ (¬ (M 9 0 0 18) ≤ 0 → Q (some (pI ((-1000100) - ((mset M 9 0 0 12 (M 9 0 0 18)) 9 0 0 19)))) (mset M 9 0 0 12 (M 9 0 0 18)))) ∧ (¬ (M 9 0 0 15) = 1 → TT X kX9_bad 0 [some (pR (9, 0, 0)), some (pI 1)] [] M (rV fun M23 => ((M23 9 0 0 18) ≤ 0 → TT X kX9_stair 137 [some (pR (9, 0, 0)), some (pI 0)] [] (mset (mset M23 9 0 0 7 1) 9 0 0 9 0) Q) ∧ (¬ (M23 9 0 0 18) ≤ 0 → Q (some (pI ((-1000100) - ((mset M23 9 0 0 12 (M23 9 0 0 18)) 9 0 0 19)))) (mset M23 9 0 0 12 (M23 9 0 0 18)))))) := by
  obtain ⟨o, pi, k, fr⟩ := hs
  have t4 := tY_4 (tp := tp) (n := n) (p := s.1.1)
  have f3 := pi.1.2
  have bad : ∀ M1 f, On9 M M1 → Tk9 M1 tp n s.1.1 f → f = pF tp n s → f ≠ 0 → ((M1 9 0 0 18) ≤ 0 → TT X kX9_stair 137 [some (pR (9, 0, 0)), some (pI 0)] [] (mset (mset M1 9 0 0 7 1) 9 0 0 9 0) Q) ∧ (¬ (M1 9 0 0 18) ≤ 0 → Q (some (pI ((-1000100) - ((mset M1 9 0 0 12 (M1 9 0 0 18)) 9 0 0 19)))) (mset M1 9 0 0 12 (M1 9 0 0 18))) := by
    intro M1 f o1 k1 e nz
    have l3 := pF_le (tp := tp) pi
    rw [k1.2.2.2.2.2.1, mset_c4 (by decide), k1.2.2.2.2.2.2 nz]
    refine br_f (nI_ge (a := 0) (by omega) (by omega)) ?_
    subst e
    exact h1 nz M1 (on97_t o (on97_9 o1))
  by_cases c : s.1.2 = 0
  rotate_left
  · have e : s.1.2 = pF tp n s := by unfold pF; rw [if_neg (fun q => c q.1)]
    have := bad M s.1.2 on9_r k e c
    rw [k.2.2.2.2.2.1] at this ⊢
    exact nr_f (nI_ne0 (by omega) (by omega)) this
  by_cases d : tY tp n s.1.1 = 0
  · have e : pF tp n s = 0 := by unfold pF; rw [if_neg (fun q => q.2 d)]; exact c
    rw [k.2.2.2.2.2.1, k.2.2.1]
    refine nr_t (by rw [c]; rfl) <| br_t ((cv_1 t4).mpr d) <| br_t (by rw [c]; decide) <| h2 e M o fr
  · have e : pF tp n s = 1 := by unfold pF; rw [if_pos ⟨c, d⟩]
    rw [k.2.2.2.2.2.1, k.2.2.1]
    refine nr_t (by rw [c]; rfl) <| br_f (fun q => d ((cv_1 t4).mp q)) <| m_bad (k := 1) (by decide) f3 k fun M1 o1 k1 => ?_
    rw [if_pos c] at k1
    exact bad M1 1 o1 k1 e.symm (by decide)
theorem m_walks {b1 : Int32} (hn : n ≤ 400) (hb : ∀ k, k < n → tp k < 256) : ∀ d M s, At9 M0 M tp n s → (s.1.2 = 0 → s.2 1 + d = 7) → Bad9 M0 tp n (pWks tp n d s) Q → Ok9 X M0 tp n (pWks tp n d s) Q → TT X kX9_stair 64 [some (pR (9, 0, 0)), some (pI b1)] [] M Q := by
  intro d
  induction d with
  | zero =>
    intro M s hs hd h1 h2
    obtain ⟨o, pi, k, fr⟩ := id hs
    have l6 := pi.2.1.2.1
    refine rX9_stair_64 <| m_name hn hb pi.1.1 pi.1.2 k <| nr_f (fun q => ?_) (m_end hs h1 h2)
    have := hd ((nm_w hb pi.1.1).mp q).1
    omega
  | succ d ih =>
    intro M s hs hd h1 h2
    have e : pWks tp n (d + 1) s = if s.1.2 = 0 ∧ isW tp n s.1.1 1 = true then pWks tp n d (pWlk tp n s.1.1 s.2) else s := rfl
    rw [e] at h1 h2
    obtain ⟨o, pi, k, fr⟩ := id hs
    refine rX9_stair_64 <| m_name hn hb pi.1.1 pi.1.2 k ?_
    by_cases c : s.1.2 = 0 ∧ isW tp n s.1.1 1 = true
    · rw [if_pos c] at h1 h2
      refine nr_t ((nm_w hb pi.1.1).mpr c) <| m_readWalker hn hb pi.1.1 pi.2.1 fr (by rw [c.1] at k; exact k) fun M' o' k' s' => ?_
      obtain ⟨g1, g2, -⟩ := pWlk_ok (tp := tp) pi.1.1 pi.2.1 pi.2.2
      refine ih M' _ ⟨on97_t o o', g1, k', s'⟩ (fun q => ?_) h1 h2
      have := g2 q
      have := hd c.1
      omega
    · rw [if_neg c] at h1 h2
      exact nr_f (fun q => c ((nm_w hb pi.1.1).mp q)) (m_end hs h1 h2)
theorem m_steps {b1 : Int32} (hn : n ≤ 400) (hb : ∀ k, k < n → tp k < 256) : ∀ d M s, At9 M0 M tp n s → (s.1.2 = 0 → s.2 0 + d = 19) → (∀ M', At9 M0 M' tp n (pSts tp n d s) → TT X kX9_stair 64 [some (pR (9, 0, 0)), some (pI b1)] [] M' Q) → TT X kX9_stair 46 [some (pR (9, 0, 0)), some (pI b1)] [] M Q := by
  intro d
  induction d with
  | zero =>
    intro M s hs hd h
    obtain ⟨o, pi, k, fr⟩ := id hs
    have l6 := pi.2.1.1
    refine rX9_stair_46 <| m_name hn hb pi.1.1 pi.1.2 k <| nr_f (fun q => ?_) (h _ hs)
    have := hd ((nm_s hb pi.1.1).mp q).1
    omega
  | succ d ih =>
    intro M s hs hd h
    have e : pSts tp n (d + 1) s = if s.1.2 = 0 ∧ isW tp n s.1.1 0 = true then pSts tp n d (pStp tp n s.1.1 s.2) else s := rfl
    rw [e] at h
    obtain ⟨o, pi, k, fr⟩ := id hs
    refine rX9_stair_46 <| m_name hn hb pi.1.1 pi.1.2 k ?_
    by_cases c : s.1.2 = 0 ∧ isW tp n s.1.1 0 = true
    · rw [if_pos c] at h
      refine nr_t ((nm_s hb pi.1.1).mpr c) <| m_readStep hn hb pi.1.1 pi.2.1 fr (by rw [c.1] at k; exact k) fun M' o' k' s' => ?_
      obtain ⟨g1, g2⟩ := pStp_ok (tp := tp) pi.1.1 pi.2.1 pi.2.2
      refine ih M' _ ⟨on97_t o o', g1, k', s'⟩ (fun q => ?_) h
      have := g2 q
      have := hd c.1
      omega
    · rw [if_neg c] at h
      exact nr_f (fun q => c ((nm_s hb pi.1.1).mp q)) (h _ hs)
/-- the memory as the reference's reading begins -/
def bg9 (M : Mem) : Mem := mset (mset (mset (mset (mset M 9 0 0 0 0) 9 0 0 13 (M 9 0 0 11)) 9 0 0 11 0) 9 0 0 14 0) 9 0 0 18 0
theorem pWks_1 {tp : NF} {n : Nat} : ∀ d (s : PS), (pSts tp n d s).2 1 = s.2 1
  | 0, _ => rfl
  | d + 1, s => by
    have e : pSts tp n (d + 1) s = if s.1.2 = 0 ∧ isW tp n s.1.1 0 = true then pSts tp n d (pStp tp n s.1.1 s.2) else s := rfl
    rw [e]
    split
    · rw [pWks_1 d]
      unfold pStp
      dsimp only
      split
      · unfold addS
        rw [if_neg (by omega), if_neg (by omega), if_neg (by omega)]
      · rfl
    · rfl
theorem m_stair (hn : n ≤ 400) (hb : ∀ k, k < n → tp k < 256) (e1 : M 9 0 0 11 = nI n) (e2 : ∀ k, k < n → M 9 0 11 k = nI (tp k)) (h1 : Bad9 (bg9 M) tp n (ps2 tp n) Q) (h2 : Ok9 X (bg9 M) tp n (ps2 tp n) Q) : TT X kX9_stair 0 [some (pR (9, 0, 0)), none] [] M Q := by
  refine rX9_stair_0 <| rX9_begin_0 ?_
  rw [mset_c4 (by decide)]
  show TT X kX9_next 0 [some (pR (9, 0, 0)), none] [] (bg9 M) _
  have y : Y9 (bg9 M) (bg9 M) tp n (nI 0) ((bg9 M) 9 0 0 15) ((bg9 M) 9 0 0 16) ((bg9 M) 9 0 0 17) (nI 0) ((bg9 M) 9 0 0 19) := by
    refine ⟨on9_r, ⟨?_, fun k hk => ?_⟩, ?_, rfl, rfl, rfl, ?_, rfl⟩
    · unfold bg9
      rw [mset_c4 (by decide), mset_c4 (by decide), mset_c4 (by decide), mset_at, e1]
    · unfold bg9
      rw [mset_c3 (by decide), mset_c3 (by decide), mset_c3 (by decide), mset_c3 (by decide), mset_c3 (by decide)]
      exact e2 k hk
    · unfold bg9
      rw [mset_c4 (by decide), mset_at]
      rfl
    · unfold bg9
      rw [mset_at]
      rfl
  generalize bg9 M = B at *
  refine m_nextA (a := 0) hn hb (Nat.zero_le _) y fun M1 o1 k1 => ?_
  have go : ∀ M5, At9 B M5 tp n (ps0 tp n) → TT X kX9_stair 46 [some (pR (9, 0, 0)), some (pI (nI 80))] [] M5 Q := fun M5 a5 =>
    m_steps hn hb 19 M5 _ a5 (fun _ => rfl) fun M' a' => m_walks hn hb 7 M' _ a' (fun _ => by rw [pWks_1]; rfl) h1 h2
  have L : ∀ d j, j + d = 80 → ∀ M2, On97 B M2 → Tk9 M2 tp n 0 0 → (∀ x, x < j → M2 9 0 7 x = 0) → TT X kX9_stair 11 [some (pR (9, 0, 0)), some (pI (nI j))] [] M2 Q := by
    intro d
    induction d with
    | zero =>
      intro j hj M2 o2 k2 z2
      obtain rfl : j = 80 := by omega
      refine rX9_stair_11 <| br_t (by decide +kernel) <| m_name hn hb (Nat.zero_le _) (by decide) k2 ?_
      have fr : Fr9 M2 (ps0 tp n).2 := fun x hx => z2 x hx
      by_cases w : isW tp n 0 0 = true
      · refine br_t ((nm_s hb (Nat.zero_le _)).mpr ⟨rfl, w⟩) (go M2 ⟨o2, ps0_ok, ?_, fr⟩)
        have : (ps0 tp n).1.2 = 0 := if_pos w
        rw [this]
        exact k2
      · refine br_f (fun q => w ((nm_s hb (Nat.zero_le _)).mp q).2) <| m_bad (k := 1) (by decide) (by decide) k2 fun M5 o5 k5 => go M5 ⟨on97_t o2 (on97_9 o5), ps0_ok, ?_, fr9_o o5 fr⟩
        have : (ps0 tp n).1.2 = 1 := if_neg w
        rw [this]
        exact k5
    | succ d ih =>
      intro j hj M2 o2 k2 z2
      refine rX9_stair_11 <| br_f (nI_ge (a := j) (b := 80) (by omega) (by decide)) ⟨vp_in_nI (by omega) (by decide), ?_⟩
      rw [clampI (by omega), nI_1]
      refine ih (j + 1) (by omega) _ (on97_t o2 on97_m) (tk9_m k2) fun x hx => ?_
      rw [mset_self, upd_at]
      by_cases c : x = j
      · rw [if_pos c]
      · rw [if_neg c]
        exact z2 x (by omega)
  exact L 80 0 rfl M1 (on97_9 o1) k1 fun x hx => absurd hx (Nat.not_lt_zero x)
theorem pair_stair {F : Int32 → Int32 → Mem → Prop} (hI : Inv M) (h : ∀ v M', Inv M' → F v v M') : TT X kX8_stair 0 [some (pR (8, 0, 0)), none] [] M (rI fun v1 M1 => TT X kX9_stair 0 [some (pR (9, 0, 0)), none] [] M1 (rI fun v2 M2 => F v1 v2 M2)) := by
  obtain ⟨n, hn, e1, e2, e3⟩ := hI.2.1
  obtain ⟨tp, htp⟩ : ∃ tp : NF, tp = fun k => (M 4 0 1 k).toNatClampNeg := ⟨_, rfl⟩
  have t4 : ∀ k, k < n → M 4 0 1 k = nI (tp k) ∧ tp k < 256 := fun k hk => by
    obtain ⟨-, b, hb, e⟩ := e3 k hk
    have : tp k = b := by rw [htp]; dsimp only; rw [e, clampI (by omega)]
    rw [this]
    exact ⟨e, hb⟩
  have hb : ∀ k, k < n → tp k < 256 := fun k hk => (t4 k hk).2
  have t9 : ∀ k, k < n → M 9 0 11 k = nI (tp k) := fun k hk => by rw [← (e3 k hk).1]; exact (t4 k hk).1
  have ok := ps2_ok (tp := tp) (n := n)
  have l3 := pF_le (tp := tp) ok
  have psE : psF tp n = pF tp n (ps2 tp n) := rfl
  have bx : ∀ (Mx : Mem), (∀ p, p ≠ 0 → (bg9 Mx) 9 0 p = Mx 9 0 p) ∧ (∀ c i, ¬ (c = 9 ∧ i = 0) → (bg9 Mx) c i = Mx c i) ∧ (bg9 Mx) 9 0 0 11 = 0 ∧ (∀ x, x = 1 ∨ x = 7 ∨ x = 9 ∨ x = 12 ∨ 20 ≤ x → (bg9 Mx) 9 0 0 x = Mx 9 0 0 x) := fun Mx => by
    unfold bg9
    refine ⟨fun p hp => by rw [mset_c3 (by omega), mset_c3 (by omega), mset_c3 (by omega), mset_c3 (by omega), mset_c3 (by omega)], fun c i g => by rw [mset_c2 g, mset_c2 g, mset_c2 g, mset_c2 g, mset_c2 g], ?_, fun x hx => ?_⟩
    · rw [mset_c4 (by decide), mset_c4 (by decide), mset_at]
    · rw [mset_c4 (by simp; omega), mset_c4 (by simp; omega), mset_c4 (by simp; omega), mset_c4 (by simp; omega), mset_c4 (by simp; omega)]
  refine rX8_stair_0 <| c_read hn hb e1 (fun k hk => (t4 k hk).1) fun M1 E1 => ?_
  obtain ⟨o1, z1, p1, s1⟩ := E1
  have q9 : M1 9 0 = M 9 0 := o1 9 0 (by omega) (by omega)
  show _ ∧ _
  rw [psE]
  obtain ⟨i1, i2, i3, i4, i5, i6, i7, i8, i9⟩ := id hI
  by_cases c : pF tp n (ps2 tp n) = 0
  rotate_left
  · refine br_f (nI_ne0 (by omega) (by omega)) <| rX4_place_0 ?_
    show TT _ _ _ _ _ _ _
    rw [mset_c2 (by decide), p1]
    generalize hM2 : mset M1 8 0 0 11 (nI (pF tp n (ps2 tp n))) = M2
    have r9 : M2 9 0 = M 9 0 := by subst hM2; rw [mset_c2 (by decide)]; exact q9
    refine m_stair (n := n) (tp := tp) hn hb (by rw [r9]; exact e2) (by rw [r9]; exact t9) (fun _ M3 o3 => h _ _ ?_) (fun q => absurd q c)
    obtain ⟨b1, b2, b3, b4⟩ := bx M2
    have g9 : ∀ p, p ≠ 0 → p ≠ 7 → M3 9 0 p = M 9 0 p := fun p hp h7 => by rw [o3.2.1 p hp h7, b1 p hp, r9]
    have gc : ∀ c i, ¬ (c = 9 ∧ i = 0) → M3 c i = M2 c i := fun c i g => by rw [o3.1 c i g, b2 c i g]
    have gf : ∀ x, x = 1 ∨ x = 7 ∨ x = 9 ∨ x = 30 → M3 9 0 0 x = M 9 0 0 x := fun x hx => by rw [o3.2.2 x (by omega), b4 x (by omega), r9]
    have g11 : M3 9 0 0 11 = 0 := by rw [o3.2.2 11 (by omega), b3]
    have x8 : ∀ x, ¬ x = 11 → M3 8 0 0 x = M 8 0 0 x := fun x hx => by
      rw [gc 8 0 (by omega)]; subst hM2; rw [mset_c4 (by simp; omega), o1 8 0 (by omega) (by omega)]
    have y8 : M3 8 0 0 11 = nI (pF tp n (ps2 tp n)) := by rw [gc 8 0 (by omega)]; subst hM2; exact mset_at
    have xo : ∀ c i, ¬ (c = 4 ∧ i = 0) → ¬ (c = 6 ∧ i = 1) → ¬ (c = 8 ∧ i = 0) → ¬ (c = 9 ∧ i = 0) → M3 c i = M c i := fun c i g1 g2 g3 g4 => by
      rw [gc c i g4]; subst hM2; rw [mset_c2 g3, o1 c i g1 g2]
    have x4 : M3 4 0 0 1 = 0 := by rw [gc 4 0 (by omega)]; subst hM2; rw [mset_c2 (by decide)]; exact z1
    unfold Inv
    simp only [mset_c2, mset_c3, mset_c4, mset_at, Nat.reduceEqDiff, false_and, and_false, not_false_eq_true, reduceCtorEq, true_and, and_true]
    rw [xo 5 0 (by omega) (by omega) (by omega) (by omega), xo 6 0 (by omega) (by omega) (by omega) (by omega), xo 0 0 (by omega) (by omega) (by omega) (by omega), xo 1 0 (by omega) (by omega) (by omega) (by omega), xo 7 0 (by omega) (by omega) (by omega) (by omega), g9 3 (by decide) (by decide), g9 4 (by decide) (by decide), g9 5 (by decide) (by decide), g9 6 (by decide) (by decide), g9 9 (by decide) (by decide), g9 28 (by decide) (by decide), g9 29 (by decide) (by decide), g9 30 (by decide) (by decide), gf 1 (by decide), gf 7 (by decide), gf 9 (by decide), gf 30 (by decide), x8 12 (by decide), y8]
    refine ⟨i1, ⟨0, by decide, x4, g11, fun k hk => absurd hk (Nat.not_lt_zero k)⟩, rfl, i4, i5, i6, fun k hk => ?_, i8, i9⟩
    rw [xo 6 (k + 3) (by omega) (by omega) (by omega) (by omega)]
    exact i7 k hk
  · have l18 := ok.2.1.1
    have l6 := ok.2.1.2.1
    refine br_t (by rw [c]; rfl) <| rX8_replaceBy_0 (by decide) <| s_takeOver (i := 0) (j := 1) (sd := (ps2 tp n).2) (by decide) (by decide) (by decide) s1 l18 l6 fun M2 o2 st2 => rX0_clear_0 <| rX7_forget_0 ?_
    show TT _ _ _ _ _ _ _
    rw [mset_c2 (by decide), mset_c2 (by decide), st2.1]
    generalize hM3 : mset (mset M2 0 0 0 3 0) 7 0 0 2 0 = M3
    have r9 : M3 9 0 = M 9 0 := by subst hM3; rw [mset_c2 (by decide), mset_c2 (by decide), o2 9 0 (by omega)]; exact q9
    refine m_stair (n := n) (tp := tp) hn hb (by rw [r9]; exact e2) (by rw [r9]; exact t9) (fun q => absurd c q) (fun _ M4 o4 fr => m_copy ?_)
    obtain ⟨b1, b2, b3, b4⟩ := bx M3
    rw [mset_c3 (by decide), mset_c3 (by decide), mset_c3 (by decide), mset_c3 (by decide)]
    have gF : ∀ x, x < 80 → fil (M4 9 0 6) (M4 9 0 7) 0 80 x = nI ((ps2 tp n).2 x) := fun x hx => by
      have := fil_in (f := M4 9 0 6) (g := M4 9 0 7) (b := 0) hx
      rw [Nat.zero_add] at this
      rw [this]
      exact fr x hx
    generalize fil (M4 9 0 6) (M4 9 0 7) 0 80 = G at gF
    rw [gF 0 (by decide)]
    refine h _ _ ?_
    have g9 : ∀ p, p ≠ 0 → p ≠ 7 → M4 9 0 p = M 9 0 p := fun p hp h7 => by rw [o4.2.1 p hp h7, b1 p hp, r9]
    have gc : ∀ c i, ¬ (c = 9 ∧ i = 0) → M4 c i = M3 c i := fun c i g => by rw [o4.1 c i g, b2 c i g]
    have gf : ∀ x, x = 1 ∨ x = 12 ∨ x = 30 → M4 9 0 0 x = M 9 0 0 x := fun x hx => by rw [o4.2.2 x (by omega), b4 x (by omega), r9]
    have g11 : M4 9 0 0 11 = 0 := by rw [o4.2.2 11 (by omega), b3]
    have xo : ∀ c i, ¬ (c = 4 ∧ i = 0) → ¬ (c = 6 ∧ i = 1) → ¬ (c = 6 ∧ i = 0) → ¬ (c = 0 ∧ i = 0) → ¬ (c = 7 ∧ i = 0) → ¬ (c = 9 ∧ i = 0) → M4 c i = M c i := fun c i g1 g2 g3 g4 g5 g6 => by
      rw [gc c i g6]; subst hM3; rw [mset_c2 g5, mset_c2 g4, o2 c i g3, o1 c i g1 g2]
    have x4 : M4 4 0 0 1 = 0 := by rw [gc 4 0 (by omega)]; subst hM3; rw [mset_c2 (by decide), mset_c2 (by decide), o2 4 0 (by omega)]; exact z1
    have x0 : M4 0 0 0 3 = 0 := by rw [gc 0 0 (by omega)]; subst hM3; rw [mset_c2 (by decide)]; exact mset_at
    have x7 : M4 7 0 0 2 = 0 := by rw [gc 7 0 (by omega)]; subst hM3; exact mset_at
    have x6 : StX (M4 6 0) (ps2 tp n).2 := by rw [gc 6 0 (by omega)]; subst hM3; rw [mset_c2 (by decide), mset_c2 (by decide)]; exact st2
    have sb : sdOf (fun x => nI ((ps2 tp n).2 x)) = (ps2 tp n).2 := funext fun x => by
      show Int32.toNatClampNeg (nI ((ps2 tp n).2 x)) = _
      have := ps2_b (tp := tp) (n := n) x
      exact clampI (by omega)
    have sm : StM (fun x => nI ((ps2 tp n).2 x)) := ⟨fun x _ => by rw [sb], by rw [sb]; exact ok.2.1⟩
    have cg : ∀ x, x < 80 → (fun x => nI ((ps2 tp n).2 x)) x = G x := fun x hx => (gF x hx).symm
    have sg := sd_cong cg
    rw [sb] at sg
    unfold Inv
    simp only [mset_c2, mset_c3, mset_c4, marr_c2, marr_c3, mset_at, marr_self, Nat.reduceEqDiff, false_and, and_false, not_false_eq_true, reduceCtorEq, true_and, and_true]
    rw [xo 5 0 (by omega) (by omega) (by omega) (by omega) (by omega) (by omega), xo 8 0 (by omega) (by omega) (by omega) (by omega) (by omega) (by omega), xo 1 0 (by omega) (by omega) (by omega) (by omega) (by omega) (by omega), g9 3 (by decide) (by decide), g9 4 (by decide) (by decide), g9 5 (by decide) (by decide), g9 28 (by decide) (by decide), g9 29 (by decide) (by decide), g9 30 (by decide) (by decide), gf 1 (by decide), gf 12 (by decide), gf 30 (by decide)]
    refine ⟨i1, ⟨0, by decide, x4, g11, fun k hk => absurd hk (Nat.not_lt_zero k)⟩, i3, i4, ⟨stm_cong cg sm, stx_cong sg l18 l6 x6, ?_⟩, ⟨0, by decide, x0, rfl, fun k hk => absurd hk (Nat.not_lt_zero k)⟩, fun k hk => ?_, i8, Or.inl x7⟩
    · rw [bI_t]
      rw [← sg 0 (by decide)]
      exact psF_0 c
    · rw [xo 6 (k + 3) (by omega) (by omega) (by omega) (by omega) (by omega) (by omega)]
      exact (i7 k hk).imp id fun ⟨g1, g2, g3, g4, _⟩ => ⟨g1, g2, g3, g4, rfl⟩
end STAIR
