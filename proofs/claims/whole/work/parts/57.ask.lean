/-! asks: the trace grows on both sides alike -/
def TrX (M : Mem) (n : Nat) (f : Nat → Int32) : Prop := M 1 0 0 1 = nI n ∧ M 1 0 1 = f
/-- the trace behind one more body -/
def trN (n : Nat) : Nat := if 16 ≤ n then n else n + 1
def trF (n : Nat) (f : Nat → Int32) (b : Int32) : Nat → Int32 := if 16 ≤ n then f else upd f n b
def trS1 (M : Mem) (n : Nat) (f : Nat → Int32) : Mem := mset (marr M 1 0 1 f) 1 0 0 1 (nI n)
def trS9 (M : Mem) (n : Nat) (f : Nat → Int32) : Mem := mset (marr M 9 0 30 f) 9 0 0 30 (nI n)
section ASK
variable {X : Nat × (Nat → Int32)} {M : Mem} {Q : Option PV → Mem → Prop}
theorem marr_mset (M : Mem) (c i p x : Nat) (f : Nat → Int32) (v : Int32) (c' i' p' : Nat) (hne : ¬ (c' = c ∧ i' = i ∧ p' = p)) : marr (mset M c i p x v) c' i' p' f = mset (marr M c' i' p' f) c i p x v := by
  funext a b d y
  unfold marr mset
  by_cases h : a = c' ∧ b = i' ∧ d = p'
  · rw [if_pos h, if_neg (fun q => hne ⟨h.1 ▸ q.1, h.2.1 ▸ q.2.1, h.2.2 ▸ q.2.2.1⟩)]
    exact (if_pos h).symm
  · rw [if_neg h]
    by_cases h2 : a = c ∧ b = i ∧ d = p ∧ y = x
    · rw [if_pos h2, if_pos h2]
    · rw [if_neg h2, if_neg h2]
      exact (if_neg h).symm
theorem mset_mset (M : Mem) (c i p x : Nat) (v w : Int32) : mset (mset M c i p x v) c i p x w = mset M c i p x w := by
  funext a b d y
  unfold mset
  by_cases h2 : a = c ∧ b = i ∧ d = p ∧ y = x
  · rw [if_pos h2, if_pos h2]
  · rw [if_neg h2, if_neg h2, if_neg h2]
theorem s_begin {n : Nat} {f : Nat → Int32} {b : Int32} (hn : n ≤ 16) (h : Q none (trS1 M (trN n) (trF n f b))) : TT X kX1_begin 0 [some (pR (1, 0, 0)), some (pI b)] [] (trS1 M n f) Q := by
  have e1 : trS1 M n f 1 0 0 1 = nI n := mset_at
  have e2 : trS1 M n f 1 0 1 = f := by unfold trS1; rw [mset_c3 (by decide), marr_self]
  refine rX1_begin_0 ?_
  rw [e1, clampI (by omega)]
  by_cases c : 16 ≤ n
  · have : n = 16 := by omega
    subst this
    exact br_t (by decide +kernel) h
  · refine br_f (nI_ge (b := 16) (by omega) (by decide)) ⟨vp_in_nI (by omega) (by decide), ?_⟩
    have e3 : mset (trS1 M n f) 1 0 1 n b 1 0 0 1 = nI n := by rw [mset_c4 (by simp)]; exact e1
    have e4 : mset (mset (trS1 M n f) 1 0 1 n b) 1 0 0 1 (nI n + 1) = trS1 M (trN n) (trF n f b) := by
      unfold trN trF
      rw [if_neg c, if_neg c, nI_1, mset_eq (trS1 M n f), e2]
      unfold trS1
      rw [marr_mset _ _ _ _ _ _ _ _ _ _ (by decide), mset_mset, marr_marr]
    rw [e3, e4]
    exact h
theorem m_began {n : Nat} {f : Nat → Int32} {b : Int32} (hn : n ≤ 16) (h : Q none (trS9 M (trN n) (trF n f b))) : TT X kX9_began 0 [some (pR (9, 0, 0)), some (pI b)] [] (trS9 M n f) Q := by
  have e1 : trS9 M n f 9 0 0 30 = nI n := mset_at
  have e2 : trS9 M n f 9 0 30 = f := by unfold trS9; rw [mset_c3 (by decide), marr_self]
  refine rX9_began_0 ?_
  rw [e1, clampI (by omega)]
  by_cases c : 16 ≤ n
  · have : n = 16 := by omega
    subst this
    exact br_t (by decide +kernel) h
  · refine br_f (nI_ge (b := 16) (by omega) (by decide)) ⟨vp_in_nI (by omega) (by decide), ?_⟩
    have e3 : mset (trS9 M n f) 9 0 30 n b 9 0 0 30 = nI n := by rw [mset_c4 (by simp)]; exact e1
    have e4 : mset (mset (trS9 M n f) 9 0 30 n b) 9 0 0 30 (nI n + 1) = trS9 M (trN n) (trF n f b) := by
      unfold trN trF
      rw [if_neg c, if_neg c, nI_1, mset_eq (trS9 M n f), e2]
      unfold trS9
      rw [marr_mset _ _ _ _ _ _ _ _ _ _ (by decide), mset_mset, marr_marr]
    rw [e3, e4]
    exact h
theorem trN_le {n : Nat} (h : n ≤ 16) : trN n ≤ 16 := by unfold trN; split <;> omega
theorem tr_f {n x : Nat} {f : Nat → Int32} (hx : ¬ x = 1) : trS1 M n f 1 0 0 x = M 1 0 0 x := by
  unfold trS1
  rw [mset_c4 (by simp [hx]), marr_c3 (by decide)]
theorem tr9_6 {n : Nat} {f : Nat → Int32} : trS9 M n f 9 0 6 = M 9 0 6 := by
  unfold trS9
  rw [mset_c3 (by decide), marr_c3 (by decide)]
/-- a list of bodies begun -/
def trL : List Int32 → Nat × (Nat → Int32) → Nat × (Nat → Int32)
  | [], q => q
  | b :: t, q => trL t (trN q.1, trF q.1 q.2 b)
theorem trL_le : ∀ (l : List Int32) (q : Nat × (Nat → Int32)), q.1 ≤ 16 → (trL l q).1 ≤ 16
  | [], _, h => h
  | _ :: t, _, h => trL_le t _ (trN_le h)
theorem trL_ag : ∀ (l : List Int32) (n : Nat) (f g : Nat → Int32), (∀ t, t < n → f t = g t) → (trL l (n, f)).1 = (trL l (n, g)).1 ∧ ∀ t, t < (trL l (n, f)).1 → (trL l (n, f)).2 t = (trL l (n, g)).2 t
  | [], _, _, _, h => ⟨rfl, h⟩
  | b :: t, n, f, g, h => by
    refine trL_ag t (trN n) (trF n f b) (trF n g b) (fun k hk => ?_)
    unfold trF
    by_cases c : 16 ≤ n
    · rw [if_pos c, if_pos c]
      unfold trN at hk
      rw [if_pos c] at hk
      exact h k hk
    · rw [if_neg c, if_neg c]
      unfold trN at hk
      rw [if_neg c] at hk
      unfold upd
      by_cases e : k = n
      · rw [if_pos e, if_pos e]
      · rw [if_neg e, if_neg e]
        exact h k (by omega)
abbrev T1 (M : Mem) (q : Nat × (Nat → Int32)) : Mem := trS1 M q.1 q.2
abbrev T9 (M : Mem) (q : Nat × (Nat → Int32)) : Mem := trS9 M q.1 q.2
variable {q : Nat × (Nat → Int32)}
theorem t1_f {x : Nat} (hx : ¬ x = 1) : T1 M q 1 0 0 x = M 1 0 0 x := tr_f hx
theorem b10 (hq : q.1 ≤ 16) (h : Q (some (pI (M 1 0 0 5))) (T1 M (trL [10] q))) : TT X kX1_body10 0 [some (pR (1, 0, 0))] [] (T1 M q) Q := by
  refine rX1_body10_0 <| s_begin hq ?_
  show Q _ _
  rw [tr_f (by decide)]
  exact h
theorem b20 (hq : q.1 ≤ 16) (h : Q (some (pI (M 1 0 0 3))) (T1 M (trL [20] q))) : TT X kX1_body20 0 [some (pR (1, 0, 0))] [] (T1 M q) Q := by
  refine rX1_body20_0 <| s_begin hq ?_
  show Q _ _
  rw [tr_f (by decide)]
  exact h
theorem b21 (hq : q.1 ≤ 16) (h : Q (some (pI (M 1 0 0 3 + 10 * M 1 0 0 4))) (T1 M (trL [21, 20] q))) : TT X kX1_body21 0 [some (pR (1, 0, 0))] [] (T1 M q) Q := by
  refine rX1_body21_0 <| s_begin hq <| b20 (q := (trN q.1, trF q.1 q.2 21)) (trN_le hq) ?_
  show Q _ _
  rw [t1_f (by decide)]
  exact h
theorem b22 (hq : q.1 ≤ 16) (h : Q (some (pI (M 1 0 0 3 + 10 * M 1 0 0 4 - 1000))) (T1 M (trL [22, 21, 20] q))) : TT X kX1_body22 0 [some (pR (1, 0, 0))] [] (T1 M q) Q :=
  rX1_body22_0 <| s_begin hq <| b21 (q := (trN q.1, trF q.1 q.2 22)) (trN_le hq) h
theorem b24 (hq : q.1 ≤ 16) (h : Q (some (pI (2 * (M 1 0 0 3 + 10 * M 1 0 0 4)))) (T1 M (trL [24, 21, 20] q))) : TT X kX1_body24 0 [some (pR (1, 0, 0))] [] (T1 M q) Q :=
  rX1_body24_0 <| s_begin hq <| b21 (q := (trN q.1, trF q.1 q.2 24)) (trN_le hq) h
theorem b13 (hq : q.1 ≤ 16) (h : Q (some (pI (M 1 0 0 5 - 100))) (T1 M (trL [13, 10] q))) : TT X kX1_body13 0 [some (pR (1, 0, 0))] [] (T1 M q) Q :=
  rX1_body13_0 <| s_begin hq <| b10 (q := (trN q.1, trF q.1 q.2 13)) (trN_le hq) h
theorem b14 (hq : q.1 ≤ 16) (h : Q (some (pI (2 * (M 1 0 0 5 - 100)))) (T1 M (trL [14, 13, 10] q))) : TT X kX1_body14 0 [some (pR (1, 0, 0))] [] (T1 M q) Q :=
  rX1_body14_0 <| s_begin hq <| b13 (q := (trN q.1, trF q.1 q.2 14)) (trN_le hq) h
/-- what MARK gives, and its bodies, by the kind -/
def mkV (kd : Nat) (p o a : Int32) : Int32 := if kd = 1 then p + 10 * o else if kd = 2 then 2 * (p + 10 * o) else if kd = 3 then p + 10 * o - 1000 else if kd = 4 then p - (a - 100) else p - 2 * (a - 100)
def mkL (kd : Nat) : List Int32 := if kd = 1 then [21, 20] else if kd = 2 then [24, 21, 20] else if kd = 3 then [22, 21, 20] else if kd = 4 then [23, 20, 13, 10] else [23, 20, 14, 13, 10]
def szV (kd : Nat) (p o a : Int32) : Int32 := if kd = 1 then a + (p + 10 * o) else if kd = 2 then 0 - (a + 2 * (p + 10 * o)) else if kd = 3 then a + (p + 10 * o - 1000) else if kd = 4 then a - 100 else 2 * (a - 100)
def szL (kd : Nat) : List Int32 := if kd = 1 then [11, 10, 21, 20] else if kd = 2 then [12, 11, 10, 24, 21, 20] else if kd = 3 then [11, 10, 22, 21, 20] else if kd = 4 then [13, 10] else [14, 13, 10]
theorem b23 {kd : Nat} (hk : kd = 4 ∨ kd = 5) (e : M 1 0 0 2 = nI kd) (hq : q.1 ≤ 16) (h : Q (some (pI (mkV kd (M 1 0 0 3) (M 1 0 0 4) (M 1 0 0 5)))) (T1 M (trL (mkL kd) q))) : TT X kX1_body23 0 [some (pR (1, 0, 0)), none] [] (T1 M q) Q := by
  refine rX1_body23_0 <| s_begin hq <| b20 (q := (trN q.1, trF q.1 q.2 23)) (trN_le hq) ?_
  show _ ∧ _
  rw [t1_f (by decide), e]
  rcases hk with rfl | rfl
  · exact nr_f (by decide +kernel) <| b13 (q := trL [23, 20] q) (trL_le _ _ hq) h
  · exact nr_t (by decide +kernel) <| b14 (q := trL [23, 20] q) (trL_le _ _ hq) h
theorem b11 {kd : Nat} (hk : kd = 1 ∨ kd = 2 ∨ kd = 3) (e : M 1 0 0 2 = nI kd) (hq : q.1 ≤ 16) (h : Q (some (pI (M 1 0 0 5 + mkV kd (M 1 0 0 3) (M 1 0 0 4) (M 1 0 0 5)))) (T1 M (trL ([11, 10] ++ mkL kd) q))) : TT X kX1_body11 0 [some (pR (1, 0, 0)), none] [] (T1 M q) Q := by
  refine rX1_body11_0 <| s_begin hq <| b10 (q := (trN q.1, trF q.1 q.2 11)) (trN_le hq) ?_
  show _ ∧ _
  rw [t1_f (by decide), e]
  rcases hk with rfl | rfl | rfl
  · exact nr_f (by decide +kernel) <| nr_f (by decide +kernel) <| b21 (q := trL [11, 10] q) (trL_le _ _ hq) h
  · exact nr_t (by decide +kernel) <| b24 (q := trL [11, 10] q) (trL_le _ _ hq) h
  · exact nr_f (by decide +kernel) <| nr_t (by decide +kernel) <| b22 (q := trL [11, 10] q) (trL_le _ _ hq) h
theorem sw5 {kd : Nat} (h1 : 1 ≤ kd) (h5 : kd ≤ 5) : ¬ ((nI kd).toInt < 1 ∨ 5 < (nI kd).toInt) := by
  rw [nI_int (by omega)]
  omega
theorem s_mark {kd : Nat} (h1 : 1 ≤ kd) (h5 : kd ≤ 5) (e : M 1 0 0 2 = nI kd) (hq : q.1 ≤ 16) (h : Q (some (pI (mkV kd (M 1 0 0 3) (M 1 0 0 4) (M 1 0 0 5)))) (T1 M (trL (mkL kd) q))) : TT X kX1_mark 0 [some (pR (1, 0, 0))] [] (T1 M q) Q := by
  refine rX1_mark_0 ?_
  rw [t1_f (by decide), e]
  have ne : ∀ {a : Nat} {P : Prop}, a < 6 → kd ≠ a → nI kd = nI a → P := fun ha hk he => absurd ((nI_eq (by omega) (by omega)).mp he) hk
  rcases (show kd = 1 ∨ kd = 2 ∨ kd = 3 ∨ kd = 4 ∨ kd = 5 by omega) with rfl | rfl | rfl | rfl | rfl
  · exact ⟨fun _ => b21 hq h, fun z => ne (a := 2) (by decide) (by decide) z, fun z => ne (a := 3) (by decide) (by decide) z, fun z => ne (a := 4) (by decide) (by decide) z, fun z => ne (a := 5) (by decide) (by decide) z, fun z => absurd z (sw5 h1 h5)⟩
  · exact ⟨fun z => ne (a := 1) (by decide) (by decide) z, fun _ => b24 hq h, fun z => ne (a := 3) (by decide) (by decide) z, fun z => ne (a := 4) (by decide) (by decide) z, fun z => ne (a := 5) (by decide) (by decide) z, fun z => absurd z (sw5 h1 h5)⟩
  · exact ⟨fun z => ne (a := 1) (by decide) (by decide) z, fun z => ne (a := 2) (by decide) (by decide) z, fun _ => b22 hq h, fun z => ne (a := 4) (by decide) (by decide) z, fun z => ne (a := 5) (by decide) (by decide) z, fun z => absurd z (sw5 h1 h5)⟩
  · exact ⟨fun z => ne (a := 1) (by decide) (by decide) z, fun z => ne (a := 2) (by decide) (by decide) z, fun z => ne (a := 3) (by decide) (by decide) z, fun _ => b23 (kd := 4) (Or.inl rfl) e hq h, fun z => ne (a := 5) (by decide) (by decide) z, fun z => absurd z (sw5 h1 h5)⟩
  · exact ⟨fun z => ne (a := 1) (by decide) (by decide) z, fun z => ne (a := 2) (by decide) (by decide) z, fun z => ne (a := 3) (by decide) (by decide) z, fun z => ne (a := 4) (by decide) (by decide) z, fun _ => b23 (kd := 5) (Or.inr rfl) e hq h, fun z => absurd z (sw5 h1 h5)⟩
theorem s_size {kd : Nat} (h1 : 1 ≤ kd) (h5 : kd ≤ 5) (e : M 1 0 0 2 = nI kd) (hq : q.1 ≤ 16) (h : Q (some (pI (szV kd (M 1 0 0 3) (M 1 0 0 4) (M 1 0 0 5)))) (T1 M (trL (szL kd) q))) : TT X kX1_size 0 [some (pR (1, 0, 0))] [] (T1 M q) Q := by
  refine rX1_size_0 ?_
  rw [t1_f (by decide), e]
  have ne : ∀ {a : Nat} {P : Prop}, a < 6 → kd ≠ a → nI kd = nI a → P := fun ha hk he => absurd ((nI_eq (by omega) (by omega)).mp he) hk
  rcases (show kd = 1 ∨ kd = 2 ∨ kd = 3 ∨ kd = 4 ∨ kd = 5 by omega) with rfl | rfl | rfl | rfl | rfl
  · exact ⟨fun _ => b11 (kd := 1) (by decide) e hq h, fun z => ne (a := 2) (by decide) (by decide) z, fun z => ne (a := 3) (by decide) (by decide) z, fun z => ne (a := 4) (by decide) (by decide) z, fun z => ne (a := 5) (by decide) (by decide) z, fun z => absurd z (sw5 h1 h5)⟩
  · exact ⟨fun z => ne (a := 1) (by decide) (by decide) z, fun _ => rX1_body12_0 <| s_begin hq <| b11 (q := (trN q.1, trF q.1 q.2 12)) (kd := 2) (by decide) e (trN_le hq) h, fun z => ne (a := 3) (by decide) (by decide) z, fun z => ne (a := 4) (by decide) (by decide) z, fun z => ne (a := 5) (by decide) (by decide) z, fun z => absurd z (sw5 h1 h5)⟩
  · exact ⟨fun z => ne (a := 1) (by decide) (by decide) z, fun z => ne (a := 2) (by decide) (by decide) z, fun _ => b11 (kd := 3) (by decide) e hq h, fun z => ne (a := 4) (by decide) (by decide) z, fun z => ne (a := 5) (by decide) (by decide) z, fun z => absurd z (sw5 h1 h5)⟩
  · exact ⟨fun z => ne (a := 1) (by decide) (by decide) z, fun z => ne (a := 2) (by decide) (by decide) z, fun z => ne (a := 3) (by decide) (by decide) z, fun _ => b13 hq h, fun z => ne (a := 5) (by decide) (by decide) z, fun z => absurd z (sw5 h1 h5)⟩
  · exact ⟨fun z => ne (a := 1) (by decide) (by decide) z, fun z => ne (a := 2) (by decide) (by decide) z, fun z => ne (a := 3) (by decide) (by decide) z, fun z => ne (a := 4) (by decide) (by decide) z, fun _ => b14 hq h, fun z => absurd z (sw5 h1 h5)⟩
/-! the reference -/
theorem m_plain {s : Nat} (hs : s < 18) (hM : StM (M 9 0 6)) (hq : q.1 ≤ 16) (h : Q (some (pI (nI (sdOf (M 9 0 6) (3 + 3 * s))))) (T9 M (trL [10] q))) : TT X kX9_plainSize 0 [some (pR (9, 0, 0)), some (pI (nI s))] [] (T9 M q) Q := by
  have e1 : (2 + 3 * nI s + 1 : Int32) = nI (3 + 3 * s) := by rw [show (2 + 3 * nI s + 1 : Int32) = 2 + 3 * nI s + nI 1 from rfl, ix2]; exact congrArg nI (by omega)
  refine rX9_plainSize_0 <| m_began hq ?_
  show _ ∧ _
  rw [e1, clampI (by omega), tr9_6, hM.1 _ (by omega)]
  exact ⟨vp_in_nI (by omega) (by decide), h⟩
theorem m_free {s kd : Nat} (hs : s < 18) (hk : kd = 4 ∨ kd = 5) (hM : StM (M 9 0 6)) (hq : q.1 ≤ 16) (h : Q (some (pI (szV kd (nI s) (nI (sdOf (M 9 0 6) (2 + 3 * s))) (nI (sdOf (M 9 0 6) (3 + 3 * s)))))) (T9 M (trL (szL kd) q))) : TT X kX9_freeSize 0 [some (pR (9, 0, 0)), some (pI (nI s)), some (pI (nI kd)), none] [] (T9 M q) Q := by
  refine rX9_freeSize_0 ?_
  rcases hk with rfl | rfl
  · exact nr_f (by decide +kernel) <| m_began hq <| m_plain (q := (trN q.1, trF q.1 q.2 13)) hs hM (trN_le hq) <| nr_f (by decide +kernel) h
  · exact nr_t (by decide +kernel) <| m_began hq <| m_began (trN_le hq) <| m_plain (q := trL [14, 13] q) hs hM (trL_le _ _ hq) <| nr_t (by decide +kernel) h
theorem m_mark {s kd : Nat} (hs : s < 18) (h1 : 1 ≤ kd) (h5 : kd ≤ 5) (hM : StM (M 9 0 6)) (hq : q.1 ≤ 16) (h : Q (some (pI (mkV kd (nI s) (nI (sdOf (M 9 0 6) (2 + 3 * s))) (nI (sdOf (M 9 0 6) (3 + 3 * s)))))) (T9 M (trL (mkL kd) q))) : TT X kX9_markOf 0 [some (pR (9, 0, 0)), some (pI (nI s)), some (pI (nI kd)), none] [] (T9 M q) Q := by
  have v80 : vp_in (nI (2 + 3 * s)) 80 := vp_in_nI (by omega) (by decide)
  refine rX9_markOf_0 ?_
  rw [ix1, clampI (by omega)]
  rcases (show kd = 1 ∨ kd = 2 ∨ kd = 3 ∨ kd = 4 ∨ kd = 5 by omega) with rfl | rfl | rfl | rfl | rfl
  · refine br_t (by decide +kernel) <| br_t (by decide +kernel) <| m_began hq <| m_began (trN_le hq) ⟨v80, nr_t (by decide +kernel) ?_⟩
    rw [tr9_6, hM.1 _ (by omega)]
    exact h
  · refine br_t (by decide +kernel) <| br_f (by decide +kernel) <| nr_t (by decide +kernel) <| m_began hq <| m_began (trN_le hq) <| m_began (trN_le (trN_le hq)) ⟨v80, nr_f (by decide +kernel) <| nr_t (by decide +kernel) ?_⟩
    rw [tr9_6, hM.1 _ (by omega)]
    exact h
  · refine br_t (by decide +kernel) <| br_f (by decide +kernel) <| nr_f (by decide +kernel) <| m_began hq <| m_began (trN_le hq) <| m_began (trN_le (trN_le hq)) ⟨v80, nr_f (by decide +kernel) <| nr_f (by decide +kernel) ?_⟩
    rw [tr9_6, hM.1 _ (by omega)]
    exact h
  · exact br_f (by decide +kernel) <| m_began hq <| m_began (trN_le hq) <| m_free (q := trL [23, 20] q) hs (Or.inl rfl) hM (trL_le _ _ hq) h
  · exact br_f (by decide +kernel) <| m_began hq <| m_began (trN_le hq) <| m_free (q := trL [23, 20] q) hs (Or.inr rfl) hM (trL_le _ _ hq) h
theorem z_sub (x : Int32) : (0 : Int32) - x = -x := Int32.zero_sub x
theorem m_size {s kd : Nat} (hs : s < 18) (h1 : 1 ≤ kd) (h5 : kd ≤ 5) (hM : StM (M 9 0 6)) (hq : q.1 ≤ 16) (h : Q (some (pI (szV kd (nI s) (nI (sdOf (M 9 0 6) (2 + 3 * s))) (nI (sdOf (M 9 0 6) (3 + 3 * s)))))) (T9 M (trL (szL kd) q))) : TT X kX9_sizeOf 0 [some (pR (9, 0, 0)), some (pI (nI s)), some (pI (nI kd)), none] [] (T9 M q) Q := by
  refine rX9_sizeOf_0 ?_
  rcases (show kd = 1 ∨ kd = 2 ∨ kd = 3 ∨ kd = 4 ∨ kd = 5 by omega) with rfl | rfl | rfl | rfl | rfl
  · exact br_t (by decide +kernel) <| nr_f (by decide +kernel) <| m_began hq <| m_plain (q := (trN q.1, trF q.1 q.2 11)) hs hM (trN_le hq) <| m_mark (q := trL [11, 10] q) hs (by decide) (by decide) hM (trL_le _ _ hq) <| nr_f (by decide +kernel) h
  · refine br_t (by decide +kernel) <| nr_t (by decide +kernel) <| m_began hq <| m_began (trN_le hq) <| m_plain (q := trL [12, 11] q) hs hM (trL_le _ _ hq) <| m_mark (q := trL [12, 11, 10] q) hs (by decide) (by decide) hM (trL_le _ _ hq) <| nr_t (by decide +kernel) ?_
    rw [← z_sub]
    exact h
  · exact br_t (by decide +kernel) <| nr_f (by decide +kernel) <| m_began hq <| m_plain (q := (trN q.1, trF q.1 q.2 11)) hs hM (trN_le hq) <| m_mark (q := trL [11, 10] q) hs (by decide) (by decide) hM (trL_le _ _ hq) <| nr_f (by decide +kernel) h
  · exact br_f (by decide +kernel) <| m_free hs (Or.inl rfl) hM hq h
  · exact br_f (by decide +kernel) <| m_free hs (Or.inr rfl) hM hq h
theorem mset_same (M : Mem) (c i p x : Nat) : mset M c i p x (M c i p x) = M := by
  funext a b d y
  unfold mset
  by_cases h2 : a = c ∧ b = i ∧ d = p ∧ y = x
  · rw [if_pos h2]
    obtain ⟨rfl, rfl, rfl, rfl⟩ := h2
    rfl
  · rw [if_neg h2]
theorem t1_start (e : M 1 0 0 1 = 0) : M = T1 M (0, M 1 0 1) := by
  show M = mset (marr M 1 0 1 (M 1 0 1)) 1 0 0 1 (nI 0)
  rw [marr_id, nI_0, ← e, mset_same]
theorem t9_start (e : M 9 0 0 30 = 0) : M = T9 M (0, M 9 0 30) := by
  show M = mset (marr M 9 0 30 (M 9 0 30)) 9 0 0 30 (nI 0)
  rw [marr_id, nI_0, ← e, mset_same]
theorem pair_ask {F : Int32 → Int32 → Mem → Prop} {a1 a2 : Int32} (hI : Inv M) (h : ∀ v M', Inv M' → F v v M') : TT X kX8_ask 0 [some (pR (8, 0, 0)), some (pI a1), some (pI a2)] [] M (rI fun v1 M1 => TT X kX9_ask 0 [some (pR (9, 0, 0)), some (pI a1), some (pI a2)] [] M1 (rI fun v2 M2 => F v1 v2 M2)) := by
  obtain ⟨n1, n2, n3, -⟩ := now_of hI
  obtain ⟨hM, hx, -⟩ := hI.2.2.2.2.1
  have hT := inv_thr (v := 0) hI
  by_cases c1 : 0 ≤ a1.toInt ∧ a1.toInt < (sdOf (M 9 0 6) 0 : Nat)
  rotate_left
  · exact rX8_ask_0 <| s_hasStep (by decide) (by omega) n2 <| bz_f c1 <| rX9_ask_0 <| m_isStep (by omega) (by rw [thr6]; exact n3) <| bz_f c1 <| h _ _ hT
  obtain ⟨s, hs, rfl⟩ : ∃ s : Nat, s < sdOf (M 9 0 6) 0 ∧ a1 = nI s := ⟨a1.toInt.toNat, by omega, nI_is (by omega)⟩
  by_cases c2 : 0 ≤ a2.toInt ∧ a2.toInt ≤ 1
  rotate_left
  · have m : TT X kX9_ask 0 [some (pR (9, 0, 0)), some (pI (nI s)), some (pI a2)] [] M (rI fun v2 M2 => F (-1000001) v2 M2) := rX9_ask_0 <| m_isStep (by omega) (by rw [thr6]; exact n3) <| bz_t c1 <| s_in <| bn_f (by rw [i64]; exact c2) <| h _ _ hT
    refine rX8_ask_0 <| s_hasStep (by decide) (by omega) n2 <| bz_t c1 ⟨fun _ => m, fun z => ⟨fun y => absurd ?_ c2, fun _ => m⟩⟩
    rw [i32_lt, z0] at z
    rw [i32_le, show (1 : Int32).toInt = 1 from rfl] at y
    omega
  have hkd := kdN_rng (sdOf (M 9 0 6)) s
  have v18 : vp_in (nI s) 18 := vp_in_nI (by omega) (by decide)
  have cl : Int32.toNatClampNeg (nI s) = s := clampI (by omega)
  have hx0 := hx
  obtain ⟨x1, -, x2, -⟩ := hx0
  obtain ⟨e1, e2, -⟩ := x2 s hs
  have n2' : ¬ a2 < 0 := by rw [i32_lt, z0]; omega
  have n3' : a2 ≤ 1 := by rw [i32_le, show (1 : Int32).toInt = 1 from rfl]; omega
  have eM0 : mset M 1 0 0 1 0 6 0 = M 6 0 := mset_c2 (by decide)
  refine rX8_ask_0 <| s_hasStep (by decide) (by omega) n2 <| bz_t c1 <| br_f n2' <| br_t n3' <| rX1_turnTo_0 (by decide) <| s_hasStep (by decide) (by omega) n2 <| bz_t c1 <| s_kindOf (by decide) hM.2 (by rw [eM0]; exact hx) hs ⟨v18, v18, ?_⟩
  rw [cl]
  simp +decide only [mset_c2, mset_c3]
  rw [e1, e2]
  generalize hB : mset (mset (mset (mset (mset M 1 0 0 1 0) 1 0 0 2 (nI (kdN (sdOf (M 9 0 6)) s))) 1 0 0 3 (nI s)) 1 0 0 4 (nI (sdOf (M 9 0 6) (2 + 3 * s)))) 1 0 0 5 (nI (sdOf (M 9 0 6) (3 + 3 * s))) = B
  have k1 : B 1 0 0 1 = 0 := by subst hB; simp +decide only [mset_c4, mset_at]
  have k2 : B 1 0 0 2 = nI (kdN (sdOf (M 9 0 6)) s) := by subst hB; simp +decide only [mset_c4, mset_at]
  have k3 : B 1 0 0 3 = nI s := by subst hB; simp +decide only [mset_c4, mset_at]
  have k4 : B 1 0 0 4 = nI (sdOf (M 9 0 6) (2 + 3 * s)) := by subst hB; simp +decide only [mset_c4, mset_at]
  have k5 : B 1 0 0 5 = nI (sdOf (M 9 0 6) (3 + 3 * s)) := by subst hB; exact mset_at
  have kI : ∀ f : Nat → Int32, ∀ n : Nat, n ≤ 16 → ∀ g : Nat → Int32, (∀ t, t < n → f t = g t) → Inv (T9 (mset (mset (T1 B (n, f)) 9 0 0 0 0) 9 0 0 30 0) (n, g)) := by
    intro f n hn g hfg
    subst hB
    have hI2 := hI
    unfold Inv at hI2 ⊢
    obtain ⟨i1, i2, i3, i4, i5, i6, i7, -, i9⟩ := hI2
    have i8 : TraceR (nI n) f (nI n) g := ⟨n, hn, rfl, rfl, hfg⟩
    simpa [T9, T1, trS9, trS1, mset_c2, mset_c3, mset_c4, mset_at, marr_c2, marr_c3, marr_self] using And.intro i1 (And.intro i2 (And.intro i3 (And.intro i4 (And.intro i5 (And.intro i6 (And.intro i7 (And.intro i8 i9)))))))
  have b6 : B 9 0 6 = M 9 0 6 := by subst hB; simp +decide only [mset_c2]
  have key : ∀ (l : List Int32), Inv (T9 (mset (mset (T1 B (trL l (0, B 1 0 1))) 9 0 0 0 0) 9 0 0 30 0) (trL l (0, B 9 0 30))) := by
    intro l
    obtain ⟨g1, g2⟩ := trL_ag l 0 (B 1 0 1) (B 9 0 30) (fun t ht => absurd ht (Nat.not_lt_zero t))
    have := kI (trL l (0, B 1 0 1)).2 (trL l (0, B 1 0 1)).1 (trL_le _ _ (Nat.zero_le _)) (trL l (0, B 9 0 30)).2 g2
    rw [show (trL l (0, B 9 0 30)) = ((trL l (0, B 1 0 1)).1, (trL l (0, B 9 0 30)).2) from by rw [g1]]
    exact this
  have mS : ∀ (l : List Int32), (mset (mset (T1 B (trL l (0, B 1 0 1))) 9 0 0 0 0) 9 0 0 30 0) 9 0 6 = M 9 0 6 := by
    intro l
    rw [mset_c3 (by decide), mset_c3 (by decide)]
    show trS1 B _ _ 9 0 6 = _
    unfold trS1
    rw [mset_c3 (by decide), marr_c3 (by decide), b6]
  have mS0 : ∀ (l : List Int32), (mset (T1 B (trL l (0, B 1 0 1))) 9 0 0 0 0) 9 0 6 = M 9 0 6 := by
    intro l
    have := mS l
    rwa [mset_c3 (by decide)] at this
  have m30 : ∀ (l : List Int32), (mset (mset (T1 B (trL l (0, B 1 0 1))) 9 0 0 0 0) 9 0 0 30 0) 9 0 30 = B 9 0 30 := by
    intro l
    rw [mset_c3 (by decide), mset_c3 (by decide)]
    show trS1 B _ _ 9 0 30 = _
    unfold trS1
    rw [mset_c3 (by decide), marr_c3 (by decide)]
  rw [t1_start k1]
  by_cases c3 : a2 = 0
  · refine nr_t c3 <| s_size hkd.1 hkd.2 k2 (Nat.zero_le _) ?_
    rw [k3, k4, k5]
    refine rX9_ask_0 <| m_isStep (n := sdOf (M 9 0 6) 0) (by omega) (by rw [mS0]; exact n3) <| bz_t c1 <| s_in <| bn_t (by rw [i64]; exact c2) <| nr_t c3 <| m_kindOf (by rw [mS]; exact hM) (by rw [mS]; exact hs) ?_
    show TT _ _ _ _ _ _ _
    rw [mS, t9_start (M := mset (mset (T1 B (trL (szL (kdN (sdOf (M 9 0 6)) s)) (0, B 1 0 1))) 9 0 0 0 0) 9 0 0 30 0) mset_at, m30]
    refine m_size (by omega) hkd.1 hkd.2 (by rw [mS]; exact hM) (Nat.zero_le _) ?_
    rw [mS]
    exact h _ _ (key _)
  · refine nr_f c3 <| s_mark hkd.1 hkd.2 k2 (Nat.zero_le _) ?_
    rw [k3, k4, k5]
    refine rX9_ask_0 <| m_isStep (n := sdOf (M 9 0 6) 0) (by omega) (by rw [mS0]; exact n3) <| bz_t c1 <| s_in <| bn_t (by rw [i64]; exact c2) <| nr_f c3 <| m_kindOf (by rw [mS]; exact hM) (by rw [mS]; exact hs) ?_
    show TT _ _ _ _ _ _ _
    rw [mS, t9_start (M := mset (mset (T1 B (trL (mkL (kdN (sdOf (M 9 0 6)) s)) (0, B 1 0 1))) 9 0 0 0 0) 9 0 0 30 0) mset_at, m30]
    refine m_mark (by omega) hkd.1 hkd.2 (by rw [mS]; exact hM) (Nat.zero_le _) ?_
    rw [mS]
    exact h _ _ (key _)
end ASK
