/-! the class reads a stair -/
section READ4B
variable {X : Nat × (Nat → Int32)} {M M0 : Mem} {Q : Option PV → Mem → Prop} {tp : NF} {n : Nat} {sd : NF}
def On46 (M M' : Mem) : Prop := ∀ c i, ¬ (c = 4 ∧ i = 0) → ¬ (c = 6 ∧ i = 1) → M' c i = M c i
theorem on46_t {M1 M2 : Mem} (a : On46 M M1) (b : On46 M1 M2) : On46 M M2 := fun c i h g => (b c i h g).trans (a c i h g)
theorem on46_4 {M1 : Mem} (a : On4 M M1) : On46 M M1 := fun c i h _ => a c i h
theorem c_addStep {a b : Nat} (hS : StX (M 6 1) sd) (h0 : sd 0 < 18) (hz : sd (4 + 3 * sd 0) = 0) (h : ∀ M', Oth M M' 6 1 → StX (M' 6 1) (addS sd a b) → Q none M') : TT X kX6_addStep 0 [some (pR (6, 1, 0)), some (pI (nI a)), some (pI (nI b))] [] M Q := by
  obtain ⟨f0, f1, f2, f3⟩ := hS
  have cl : Int32.toNatClampNeg (nI (sd 0)) = sd 0 := clampI (by omega)
  have r3 : ∀ (M : Mem) k v, (mset M 6 1 3 k v) 6 1 0 0 = M 6 1 0 0 := fun M k v => mset_c4 (by simp)
  have r4 : ∀ (M : Mem) k v, (mset M 6 1 4 k v) 6 1 0 0 = M 6 1 0 0 := fun M k v => mset_c4 (by simp)
  have r5 : ∀ (M : Mem) k v, (mset M 6 1 5 k v) 6 1 0 0 = M 6 1 0 0 := fun M k v => mset_c4 (by simp)
  have v18 : vp_in (nI (sd 0)) 18 := vp_in_nI h0 (by decide)
  refine rX6_addStep_0 (by decide) ?_
  simp only [r3, r4, r5, f0, cl, nI_1]
  refine br_f (nI_ge (b := 18) h0 (by decide)) ⟨v18, v18, v18, h _ ?_ ?_⟩
  · intro c i g
    rw [mset_c2 g, mset_c2 g, mset_c2 g, mset_c2 g]
  have x0 : ∀ y, ¬ y = 0 → (mset (mset (mset (mset M 6 1 3 (sd 0) (nI a)) 6 1 4 (sd 0) (nI b)) 6 1 5 (sd 0) 0) 6 1 0 0 (nI (sd 0 + 1))) 6 1 0 y = M 6 1 0 y := fun y hy => by
    rw [mset_c4 (by simp [hy]), mset_c3 (by decide), mset_c3 (by decide), mset_c3 (by decide)]
  refine ⟨?_, ?_, fun s hs => ?_, fun v hv => ?_⟩
  · rw [mset_at]; rfl
  · rw [x0 1 (by decide), f1]
    unfold addS
    rw [if_neg (by omega), if_neg (by omega), if_neg (by omega)]
  · rw [mset_c3 (by decide), mset_c3 (by decide), mset_c3 (by decide), mset_self, mset_c3 (by decide), mset_c3 (by decide), mset_self, mset_c3 (by decide), mset_c3 (by decide), mset_self, mset_c3 (by decide), mset_c3 (by decide), upd_at, upd_at, upd_at]
    have hs : s < sd 0 + 1 := hs
    unfold addS
    rw [if_neg (show ¬ 2 + 3 * s = 0 by omega), if_neg (show ¬ 3 + 3 * s = 0 by omega), if_neg (show ¬ 4 + 3 * s = 0 by omega), if_neg (show ¬ 3 + 3 * s = 2 + 3 * sd 0 by omega), if_neg (show ¬ 4 + 3 * s = 2 + 3 * sd 0 by omega), if_neg (show ¬ 4 + 3 * s = 3 + 3 * sd 0 by omega)]
    by_cases c : s = sd 0
    · subst c
      rw [if_pos rfl, if_pos rfl, if_pos rfl, if_pos rfl, if_pos rfl, hz]
      exact ⟨rfl, rfl, rfl⟩
    · rw [if_neg c, if_neg c, if_neg c, if_neg (by omega), if_neg (by omega), if_neg (by omega)]
      exact f2 s (by omega)
  · have g : ∀ x, 56 ≤ x → addS sd a b x = sd x := fun x hx => by unfold addS; rw [if_neg (by omega), if_neg (by omega), if_neg (by omega)]
    have e1 : addS sd a b 1 = sd 1 := by unfold addS; rw [if_neg (by omega), if_neg (by omega), if_neg (by omega)]
    rw [e1] at hv
    rw [g _ (by omega), g _ (by omega), g _ (by omega), g _ (by omega)]
    have o : ∀ p, 6 ≤ p → (mset (mset (mset (mset M 6 1 3 (sd 0) (nI a)) 6 1 4 (sd 0) (nI b)) 6 1 5 (sd 0) 0) 6 1 0 0 (nI (sd 0 + 1))) 6 1 p = M 6 1 p := fun p hp => by
      rw [mset_c3 (by omega), mset_c3 (by omega), mset_c3 (by omega), mset_c3 (by omega)]
    rw [o 6 (by decide), o 7 (by decide), o 8 (by decide), o 9 (by decide)]
    exact f3 v hv
theorem c_addWalker {a b c d : Nat} (hS : StX (M 6 1) sd) (h18 : sd 0 ≤ 18) (h0 : sd 1 < 6) (h : ∀ M', Oth M M' 6 1 → StX (M' 6 1) (addW sd a b c d) → Q none M') : TT X kX6_addWalker 0 [some (pR (6, 1, 0)), some (pI (nI a)), some (pI (nI b)), some (pI (nI c)), some (pI (nI d))] [] M Q := by
  obtain ⟨f0, f1, f2, f3⟩ := hS
  have cl : Int32.toNatClampNeg (nI (sd 1)) = sd 1 := clampI (by omega)
  have r6 : ∀ (M : Mem) k v, (mset M 6 1 6 k v) 6 1 0 1 = M 6 1 0 1 := fun M k v => mset_c4 (by simp)
  have r7 : ∀ (M : Mem) k v, (mset M 6 1 7 k v) 6 1 0 1 = M 6 1 0 1 := fun M k v => mset_c4 (by simp)
  have r8 : ∀ (M : Mem) k v, (mset M 6 1 8 k v) 6 1 0 1 = M 6 1 0 1 := fun M k v => mset_c4 (by simp)
  have r9 : ∀ (M : Mem) k v, (mset M 6 1 9 k v) 6 1 0 1 = M 6 1 0 1 := fun M k v => mset_c4 (by simp)
  have v6 : vp_in (nI (sd 1)) 6 := vp_in_nI h0 (by decide)
  refine rX6_addWalker_0 (by decide) ?_
  simp only [r6, r7, r8, r9, f1, cl, nI_1]
  refine br_f (nI_ge (b := 6) h0 (by decide)) ⟨v6, v6, v6, v6, h _ ?_ ?_⟩
  · intro c i g
    rw [mset_c2 g, mset_c2 g, mset_c2 g, mset_c2 g, mset_c2 g]
  have g : ∀ x, x < 56 → x ≠ 1 → addW sd a b c d x = sd x := fun x hx h1 => by unfold addW; rw [if_neg h1, if_neg (by omega), if_neg (by omega), if_neg (by omega), if_neg (by omega)]
  have e1 : addW sd a b c d 1 = sd 1 + 1 := if_pos rfl
  have e0 := g 0 (by omega) (by omega)
  refine ⟨?_, ?_, fun s hs => ?_, fun v hv => ?_⟩
  · rw [mset_c4 (by decide), mset_c3 (by decide), mset_c3 (by decide), mset_c3 (by decide), mset_c3 (by decide), f0, e0]
  · rw [mset_at, e1]
  · rw [e0] at hs
    rw [g _ (by omega) (by omega), g _ (by omega) (by omega), g _ (by omega) (by omega)]
    have o : ∀ p, 0 < p → p < 6 → (mset (mset (mset (mset (mset M 6 1 6 (sd 1) (nI a)) 6 1 7 (sd 1) (nI b)) 6 1 8 (sd 1) (nI c)) 6 1 9 (sd 1) (nI d)) 6 1 0 1 (nI (sd 1 + 1))) 6 1 p = M 6 1 p := fun p h1 h2 => by
      rw [mset_c3 (by omega), mset_c3 (by omega), mset_c3 (by omega), mset_c3 (by omega), mset_c3 (by omega)]
    rw [o 3 (by decide) (by decide), o 4 (by decide) (by decide), o 5 (by decide) (by decide)]
    exact f2 s hs
  · rw [e1] at hv
    rw [mset_c3 (p' := 6) (by decide), mset_c3 (p' := 6) (by decide), mset_c3 (p' := 6) (by decide), mset_c3 (p' := 6) (by decide), mset_self]
    rw [mset_c3 (p' := 7) (by decide), mset_c3 (p' := 7) (by decide), mset_c3 (p' := 7) (by decide), mset_self, mset_c3 (p' := 7) (by decide)]
    rw [mset_c3 (p' := 8) (by decide), mset_c3 (p' := 8) (by decide), mset_self, mset_c3 (p' := 8) (by decide), mset_c3 (p' := 8) (by decide)]
    rw [mset_c3 (p' := 9) (by decide), mset_self, mset_c3 (p' := 9) (by decide), mset_c3 (p' := 9) (by decide), mset_c3 (p' := 9) (by decide), upd_at, upd_at, upd_at, upd_at]
    unfold addW
    by_cases y : v = sd 1
    · subst y
      simp only [show ¬ 56 + 4 * sd 1 = 1 by omega, show ¬ 57 + 4 * sd 1 = 1 by omega, show ¬ 58 + 4 * sd 1 = 1 by omega, show ¬ 59 + 4 * sd 1 = 1 by omega, show ¬ 57 + 4 * sd 1 = 56 + 4 * sd 1 by omega, show ¬ 58 + 4 * sd 1 = 56 + 4 * sd 1 by omega, show ¬ 58 + 4 * sd 1 = 57 + 4 * sd 1 by omega, show ¬ 59 + 4 * sd 1 = 56 + 4 * sd 1 by omega, show ¬ 59 + 4 * sd 1 = 57 + 4 * sd 1 by omega, show ¬ 59 + 4 * sd 1 = 58 + 4 * sd 1 by omega, if_false, if_true]
      exact ⟨trivial, trivial, trivial, trivial⟩
    · simp only [show ¬ 56 + 4 * v = 1 by omega, show ¬ 57 + 4 * v = 1 by omega, show ¬ 58 + 4 * v = 1 by omega, show ¬ 59 + 4 * v = 1 by omega, show ¬ 56 + 4 * v = 56 + 4 * sd 1 by omega, show ¬ 56 + 4 * v = 57 + 4 * sd 1 by omega, show ¬ 56 + 4 * v = 58 + 4 * sd 1 by omega, show ¬ 56 + 4 * v = 59 + 4 * sd 1 by omega, show ¬ 57 + 4 * v = 56 + 4 * sd 1 by omega, show ¬ 57 + 4 * v = 57 + 4 * sd 1 by omega, show ¬ 57 + 4 * v = 58 + 4 * sd 1 by omega, show ¬ 57 + 4 * v = 59 + 4 * sd 1 by omega, show ¬ 58 + 4 * v = 56 + 4 * sd 1 by omega, show ¬ 58 + 4 * v = 57 + 4 * sd 1 by omega, show ¬ 58 + 4 * v = 58 + 4 * sd 1 by omega, show ¬ 58 + 4 * v = 59 + 4 * sd 1 by omega, show ¬ 59 + 4 * v = 56 + 4 * sd 1 by omega, show ¬ 59 + 4 * v = 57 + 4 * sd 1 by omega, show ¬ 59 + 4 * v = 58 + 4 * sd 1 by omega, show ¬ 59 + 4 * v = 59 + 4 * sd 1 by omega, y, if_false]
      exact f3 v (by omega)
theorem tk4_o {M' : Mem} {p f : Nat} (o : Oth M M' 6 1) (h : Tk4 M tp n p f) : Tk4 M' tp n p f := by
  have e : M' 4 0 = M 4 0 := o 4 0 (by omega)
  unfold Tk4
  rw [e]
  exact h
theorem c_readStep {p : Nat} (hn : n ≤ 400) (hb : ∀ k, k < n → tp k < 256) (hp : p ≤ n) (hv : SV sd) (hz : ∀ k, k < 18 → sd (4 + 3 * k) = 0) (hS : StX (M 6 1) sd) (hk : Tk4 M tp n p 0) (h : ∀ M', On46 M M' → Tk4 M' tp n (pStp tp n p sd).1.1 (pStp tp n p sd).1.2 → StX (M' 6 1) (pStp tp n p sd).2 → Q none M') : TT X kX4_readStep 0 [some (pR (4, 0, 0)), some (pR (6, 1, 0)), none, none] [] M Q := by
  obtain ⟨l1, l2, l3, l4⟩ := st_le (tp := tp) (sd := sd) hp
  have l0 := hv.1
  have key : ∀ b : Int32, (18 ≤ sd 0 → b = 0) → (¬ 18 ≤ sd 0 → b = 1) → TT X kX4_passWord 0 [some (pR (4, 0, 0)), some (pI b)] [] M (rV fun M1 => TT X kX4_number 0 [some (pR (4, 0, 0)), some (pI 0), some (pI 4), none] [] M1 (rI fun v4 M3 => TT X kX4_number 0 [some (pR (4, 0, 0)), some (pI 0), some (pI 20), none] [] M3 (rI fun v6 M5 => TT X kX4_passSign 0 [some (pR (4, 0, 0))] [] M5 (rV fun M7 => (¬ (M7 4 0 0 6) = 0 → Q none M7) ∧ ((M7 4 0 0 6) = 0 → TT X kX6_addStep 0 [some (pR (6, 1, 0)), some (pI v4), some (pI v6)] [] M7 (rV fun M9 => Q none M9)))))) := by
    intro b h1 h2
    refine c_word (full := 18 ≤ sd 0) hn hb hp h1 h2 hk fun M1 o1 k1 => ?_
    refine c_number (lo := 0) (hi := 4) (q := st1 tp n p sd) hn hb l1 (by decide) (by decide) k1 fun M3 v4 o3 k3 e4 => ?_
    refine c_number (lo := 0) (hi := 20) (q := st2 tp n p sd) hn hb l2 (by decide) (by decide) k3 fun M5 v6 o5 k5 e6 => ?_
    refine c_sign (q := st3 tp n p sd) hn hb l3 k5 fun M7 o7 k7 => ?_
    have k7 : Tk4 M7 tp n (st4 tp n p sd).1 (st4 tp n p sd).2 := k7
    have oo := on4_t (on4_t (on4_t o1 o3) o5) o7
    have s7 : StX (M7 6 1) sd := by rw [oo 6 1 (by omega)]; exact hS
    show _ ∧ _
    rw [k7.2.2.2.2.2]
    unfold pStp at h
    by_cases c : (st4 tp n p sd).2 = 0
    · obtain ⟨g1, g2, g3, g4, g5⟩ := st_ok c
      rw [if_pos c] at h
      have e4 := e4 g4
      have e6 := e6 g5
      subst e4 e6
      refine nr_t (by rw [c]; rfl) <| c_addStep s7 g1 (hz _ g1) fun M9 o9 s9 => h M9 (on46_t (on46_4 oo) fun c i q1 q2 => o9 c i q2) (tk4_o o9 k7) s9
    · rw [if_neg c] at h
      exact nr_f (nI_ne0 (by omega) (by omega)) (h M7 (on46_4 oo) k7 s7)
  refine rX4_readStep_0 (by decide) ?_
  rw [hS.1]
  by_cases c : 18 ≤ sd 0
  · exact br_t (nI_le (a := 18) c (by omega)) (key 0 (fun _ => rfl) (fun q => absurd c q))
  · exact br_f (nI_ge (b := 18) (by omega) (by decide)) (key 1 (fun q => absurd q c) (fun _ => rfl))
theorem c_readWalker {p : Nat} (hn : n ≤ 400) (hb : ∀ k, k < n → tp k < 256) (hp : p ≤ n) (hv : SV sd) (hS : StX (M 6 1) sd) (hk : Tk4 M tp n p 0) (h : ∀ M', On46 M M' → Tk4 M' tp n (pWlk tp n p sd).1.1 (pWlk tp n p sd).1.2 → StX (M' 6 1) (pWlk tp n p sd).2 → Q none M') : TT X kX4_readWalker 0 [some (pR (4, 0, 0)), some (pR (6, 1, 0)), none, none, none, none] [] M Q := by
  obtain ⟨l1, l2, l3, l4, l5, l6⟩ := wk_le (tp := tp) (sd := sd) hp
  have l0 := hv.2.1
  have key : ∀ b : Int32, (6 ≤ sd 1 → b = 0) → (¬ 6 ≤ sd 1 → b = 1) → TT X kX4_passWord 0 [some (pR (4, 0, 0)), some (pI b)] [] M (rV fun M1 => TT X kX4_number 0 [some (pR (4, 0, 0)), some (pI 1), some (pI 3), none] [] M1 (rI fun v4 M3 => TT X kX4_number 0 [some (pR (4, 0, 0)), some (pI 0), some (pI 2), none] [] M3 (rI fun v6 M5 => TT X kX4_number 0 [some (pR (4, 0, 0)), some (pI 0), some (pI 200), none] [] M5 (rI fun v8 M7 => TT X kX4_number 0 [some (pR (4, 0, 0)), some (pI 1), some (pI 20), none] [] M7 (rI fun v10 M9 => TT X kX4_passSign 0 [some (pR (4, 0, 0))] [] M9 (rV fun M11 => (¬ (M11 4 0 0 6) = 0 → Q none M11) ∧ ((M11 4 0 0 6) = 0 → TT X kX6_addWalker 0 [some (pR (6, 1, 0)), some (pI v4), some (pI v6), some (pI v8), some (pI v10)] [] M11 (rV fun M13 => Q none M13)))))))) := by
    intro b h1 h2
    refine c_word (full := 6 ≤ sd 1) hn hb hp h1 h2 hk fun M1 o1 k1 => ?_
    refine c_number (lo := 1) (hi := 3) (q := wk1 tp n p sd) hn hb l1 (by decide) (by decide) k1 fun M3 v4 o3 k3 e4 => ?_
    refine c_number (lo := 0) (hi := 2) (q := wk2 tp n p sd) hn hb l2 (by decide) (by decide) k3 fun M5 v6 o5 k5 e6 => ?_
    refine c_number (lo := 0) (hi := 200) (q := wk3 tp n p sd) hn hb l3 (by decide) (by decide) k5 fun M7 v8 o7 k7 e8 => ?_
    refine c_number (lo := 1) (hi := 20) (q := wk4 tp n p sd) hn hb l4 (by decide) (by decide) k7 fun M9 v10 o9 k9 e10 => ?_
    refine c_sign (q := wk5 tp n p sd) hn hb l5 k9 fun M11 o11 k11 => ?_
    have k11 : Tk4 M11 tp n (wk6 tp n p sd).1 (wk6 tp n p sd).2 := k11
    have oo := on4_t (on4_t (on4_t (on4_t (on4_t o1 o3) o5) o7) o9) o11
    have s11 : StX (M11 6 1) sd := by rw [oo 6 1 (by omega)]; exact hS
    show _ ∧ _
    rw [k11.2.2.2.2.2]
    unfold pWlk at h
    by_cases c : (wk6 tp n p sd).2 = 0
    · obtain ⟨g1, -, -, -, -, g2, g3, g4, g5⟩ := wk_ok c
      rw [if_pos c] at h
      have e4 := e4 g2
      have e6 := e6 g3
      have e8 := e8 g4
      have e10 := e10 g5
      subst e4 e6 e8 e10
      refine nr_t (by rw [c]; rfl) <| c_addWalker s11 hv.1 g1 fun M13 o13 s13 => h M13 (on46_t (on46_4 oo) fun c i q1 q2 => o13 c i q2) (tk4_o o13 k11) s13
    · rw [if_neg c] at h
      exact nr_f (nI_ne0 (by omega) (by omega)) (h M11 (on46_4 oo) k11 s11)
  refine rX4_readWalker_0 (by decide) ?_
  rw [hS.2.1]
  by_cases c : 6 ≤ sd 1
  · exact br_t (nI_le (a := 6) c (by omega)) (key 0 (fun _ => rfl) (fun q => absurd c q))
  · exact br_f (nI_ge (b := 6) (by omega) (by decide)) (key 1 (fun q => absurd q c) (fun _ => rfl))
def pF (tp : NF) (n : Nat) (s : PS) : Nat := if s.1.2 = 0 ∧ tY tp n s.1.1 ≠ 0 then 1 else s.1.2
theorem pF_le {s : PS} (h : PI2 n s) : pF tp n s ≤ 3 := by
  have := h.1.2
  unfold pF
  split <;> omega
/-- the reading stands at s -/
def At4 (M0 M : Mem) (tp : NF) (n : Nat) (s : PS) : Prop := On46 M0 M ∧ PI2 n s ∧ Tk4 M tp n s.1.1 s.1.2 ∧ StX (M 6 1) s.2
/-- what the class's reading leaves -/
def End4 (M0 M' : Mem) (tp : NF) (n : Nat) (s : PS) : Prop := On46 M0 M' ∧ M' 4 0 0 1 = 0 ∧ M' 4 0 0 3 = nI (tS tp n s.1.1) ∧ StX (M' 6 1) s.2
theorem c_end {s : PS} (hs : At4 M0 M tp n s) (h : ∀ M', End4 M0 M' tp n s → Q (some (pI (nI (pF tp n s)))) M') : ((M 4 0 0 4) = 0 → Q (some (pI ((mset M 4 0 0 1 0) 4 0 0 6))) (mset M 4 0 0 1 0)) ∧ (¬ (M 4 0 0 4) = 0 → TT X kX4_fail 0 [some (pR (4, 0, 0)), some (pI 1)] [] M (rV fun M23 => Q (some (pI ((mset M23 4 0 0 1 0) 4 0 0 6))) (mset M23 4 0 0 1 0))) := by
  obtain ⟨o, pi, k, sx⟩ := hs
  have t4 := tY_4 (tp := tp) (n := n) (p := s.1.1)
  have fin : ∀ M1 f, On4 M M1 → Tk4 M1 tp n s.1.1 f → f = pF tp n s → Q (some (pI ((mset M1 4 0 0 1 0) 4 0 0 6))) (mset M1 4 0 0 1 0) := by
    intro M1 f o1 k1 e
    rw [mset_c4 (by decide), k1.2.2.2.2.2, e]
    refine h _ ⟨fun c i g g' => ?_, mset_at, by rw [mset_c4 (by decide)]; exact k1.2.2.1, by rw [mset_c2 (by decide), o1 6 1 (by omega)]; exact sx⟩
    rw [mset_c2 g, o1 c i g, o c i g g']
  rw [k.2.2.2.1]
  by_cases c : tY tp n s.1.1 = 0
  · refine br_t (by rw [c]; rfl) (fin M _ on4_r k ?_)
    unfold pF
    rw [if_neg (fun q => q.2 c)]
  · refine br_f (nI_ne0 (by omega) (by omega)) <| c_fail (k := 1) pi.1.2 k fun M1 o1 k1 => fin M1 _ o1 k1 ?_
    unfold pF
    by_cases d : s.1.2 = 0
    · rw [if_pos d, if_pos ⟨d, c⟩]
    · rw [if_neg d, if_neg (fun q => d q.1)]
theorem c_walks (hn : n ≤ 400) (hb : ∀ k, k < n → tp k < 256) : ∀ d b, b + d = 7 → ∀ M s, At4 M0 M tp n s → (∀ M', End4 M0 M' tp n (pWks tp n d s) → Q (some (pI (nI (pF tp n (pWks tp n d s))))) M') → TT X kX4_read 69 [some (pR (4, 0, 0)), some (pR (6, 1, 0)), some (pI (nI b))] [] M Q := by
  intro d
  induction d with
  | zero =>
    intro b hd M s hs h
    obtain rfl : b = 7 := by omega
    exact rX4_read_69 (by decide) <| br_t (by decide +kernel) (c_end hs h)
  | succ d ih =>
    intro b hd M s hs h
    have e : pWks tp n (d + 1) s = if s.1.2 = 0 ∧ isW tp n s.1.1 1 = true then pWks tp n d (pWlk tp n s.1.1 s.2) else s := rfl
    rw [e] at h
    obtain ⟨o, pi, k, sx⟩ := id hs
    refine rX4_read_69 (by decide) <| br_f (nI_nlt (b := b) (a := 6) (by omega) (by decide)) ?_
    have fin := fun h' => c_end (X := X) (Q := Q) hs h'
    rw [k.2.2.2.2.2]
    by_cases c : s.1.2 = 0
    rotate_left
    · rw [if_neg (fun q => c q.1)] at h
      exact nr_f (nI_ne0 (by omega) (by have := pi.1.2; omega)) (fin h)
    refine nr_t (by rw [c]; rfl) <| c_isWord (by decide) hn pi.1.1 hb k ?_
    by_cases w : isW tp n s.1.1 1 = true
    · rw [if_pos ⟨c, w⟩] at h
      refine bz_t w <| c_readWalker hn hb pi.1.1 pi.2.1 sx (by rw [c] at k; exact k) fun M' o' k' s' => ?_
      show TT _ _ _ _ _ _ _
      rw [nI_1]
      exact ih (b + 1) (by omega) _ _ ⟨on46_t o o', (pWlk_ok pi.1.1 pi.2.1 pi.2.2).1, k', s'⟩ h
    · rw [if_neg (fun q => w q.2)] at h
      exact bz_f w (fin h)
theorem c_steps (hn : n ≤ 400) (hb : ∀ k, k < n → tp k < 256) : ∀ d b, b + d = 19 → ∀ M s, At4 M0 M tp n s → (∀ M', At4 M0 M' tp n (pSts tp n d s) → TT X kX4_read 69 [some (pR (4, 0, 0)), some (pR (6, 1, 0)), some (pI 0)] [] M' Q) → TT X kX4_read 34 [some (pR (4, 0, 0)), some (pR (6, 1, 0)), some (pI (nI b))] [] M Q := by
  intro d
  induction d with
  | zero =>
    intro b hd M s hs h
    obtain rfl : b = 19 := by omega
    exact rX4_read_34 (by decide) <| br_t (by decide +kernel) (h _ hs)
  | succ d ih =>
    intro b hd M s hs h
    have e : pSts tp n (d + 1) s = if s.1.2 = 0 ∧ isW tp n s.1.1 0 = true then pSts tp n d (pStp tp n s.1.1 s.2) else s := rfl
    rw [e] at h
    obtain ⟨o, pi, k, sx⟩ := id hs
    refine rX4_read_34 (by decide) <| br_f (nI_nlt (b := b) (a := 18) (by omega) (by decide)) ?_
    rw [k.2.2.2.2.2]
    by_cases c : s.1.2 = 0
    rotate_left
    · rw [if_neg (fun q => c q.1)] at h
      exact nr_f (nI_ne0 (by omega) (by have := pi.1.2; omega)) (h _ hs)
    refine nr_t (by rw [c]; rfl) <| c_isWord (by decide) hn pi.1.1 hb k ?_
    by_cases w : isW tp n s.1.1 0 = true
    · rw [if_pos ⟨c, w⟩] at h
      refine bz_t w <| c_readStep hn hb pi.1.1 pi.2.1 pi.2.2 sx (by rw [c] at k; exact k) fun M' o' k' s' => ?_
      show TT _ _ _ _ _ _ _
      rw [nI_1]
      exact ih (b + 1) (by omega) _ _ ⟨on46_t o o', (pStp_ok pi.1.1 pi.2.1 pi.2.2).1, k', s'⟩ h
    · rw [if_neg (fun q => w q.2)] at h
      exact bz_f w (h _ hs)
theorem c_read (hn : n ≤ 400) (hb : ∀ k, k < n → tp k < 256) (e1 : M 4 0 0 1 = nI n) (e2 : ∀ k, k < n → M 4 0 1 k = nI (tp k)) (h : ∀ M', End4 M M' tp n (ps2 tp n) → Q (some (pI (nI (psF tp n)))) M') : TT X kX4_read 0 [some (pR (4, 0, 0)), some (pR (6, 1, 0)), none] [] M Q := by
  refine rX4_read_0 (by decide) <| rX6_clear_0 (by decide) ?_
  show TT _ _ _ _ _ _ _
  generalize hM1 : mset (mset M 6 1 0 0 0) 6 1 0 1 0 = M1
  have o1 : Oth M M1 6 1 := by
    subst hM1
    intro c i g
    rw [mset_c2 g, mset_c2 g]
  have s1 : StX (M1 6 1) (fun _ => 0) := by
    subst hM1
    refine ⟨by rw [mset_c4 (by decide), mset_at]; rfl, by rw [mset_at]; rfl, fun s hs => absurd hs (Nat.not_lt_zero s), fun s hs => absurd hs (Nat.not_lt_zero s)⟩
  have y1 : Y4 M1 M1 tp n (M1 4 0 0 2) (M1 4 0 0 3) (M1 4 0 0 4) (M1 4 0 0 5) (M1 4 0 0 6) := by
    have e : M1 4 0 = M 4 0 := o1 4 0 (by omega)
    exact ⟨on4_r, ⟨by rw [e]; exact e1, fun k hk => by rw [e]; exact e2 k hk⟩, rfl, rfl, rfl, rfl, rfl⟩
  have y2 := y4_6 (w := 0) (y4_2 (w := 0) y1)
  refine c_advance (a := 0) (f := 0) hn hb (Nat.zero_le _) y2 fun M3 o3 k3 => c_isWord (by decide) hn (Nat.zero_le _) hb k3 ?_
  have oo : On46 M M3 := on46_t (fun c i _ g => o1 c i g) (on46_4 o3)
  have s3 : StX (M3 6 1) (fun _ => 0) := by rw [o3 6 1 (by omega)]; exact s1
  have go : ∀ M5, At4 M M5 tp n (ps0 tp n) → TT X kX4_read 34 [some (pR (4, 0, 0)), some (pR (6, 1, 0)), some (pI 0)] [] M5 Q := fun M5 a5 =>
    c_steps hn hb 19 0 rfl M5 _ a5 fun M' a' => c_walks hn hb 7 0 rfl M' _ a' h
  by_cases w : isW tp n 0 0 = true
  · refine bn_t w (go M3 ⟨oo, ps0_ok, ?_, s3⟩)
    have : (ps0 tp n).1.2 = 0 := if_pos w
    rw [this]
    exact k3
  · refine bn_f w <| c_fail (k := 1) (Nat.zero_le _) k3 fun M5 o5 k5 => go M5 ⟨on46_t oo (on46_4 o5), ps0_ok, ?_, ?_⟩
    · have : (ps0 tp n).1.2 = 1 := if_neg w
      rw [this]
      exact k5
    · show StX (M5 6 1) (fun _ => 0)
      rw [o5 6 1 (by omega)]
      exact s3
end READ4B
