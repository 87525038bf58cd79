/-! the memory: stores read back; arrays as functions -/
theorem mset_eq (M : Mem) (c i p x : Nat) (v : Int32) : mset M c i p x v = marr M c i p (upd (M c i p) x v) := by
  funext c' i' p' x'
  unfold mset marr upd
  by_cases h : c' = c ∧ i' = i ∧ p' = p
  · obtain ⟨rfl, rfl, rfl⟩ := h
    by_cases hx : x' = x <;> simp [hx]
  · rw [if_neg h, if_neg (fun q => h ⟨q.1, q.2.1, q.2.2.1⟩)]
theorem marr_id (M : Mem) (c i p : Nat) : marr M c i p (M c i p) = M := by
  funext c' i' p' x'
  unfold marr
  by_cases h : c' = c ∧ i' = i ∧ p' = p
  · obtain ⟨rfl, rfl, rfl⟩ := h
    rw [if_pos ⟨rfl, rfl, rfl⟩]
  · rw [if_neg h]
theorem marr_marr (M : Mem) (c i p : Nat) (f g : Nat → Int32) : marr (marr M c i p f) c i p g = marr M c i p g := by
  funext c' i' p' x'
  unfold marr
  by_cases h : c' = c ∧ i' = i ∧ p' = p
  · rw [if_pos h, if_pos h]
  · rw [if_neg h, if_neg h, if_neg h]
theorem mset_marr (M : Mem) (c i p x : Nat) (f : Nat → Int32) (v : Int32) : mset (marr M c i p f) c i p x v = marr M c i p (upd f x v) := by
  rw [mset_eq, marr_self, marr_marr]
theorem mset_c2 {M : Mem} {c i p x : Nat} {v : Int32} {c' i' : Nat} (h : ¬ (c' = c ∧ i' = i)) : mset M c i p x v c' i' = M c' i' := by
  funext p' x'
  unfold mset
  rw [if_neg (fun q => h ⟨q.1, q.2.1⟩)]
theorem mset_c3 {M : Mem} {c i p x : Nat} {v : Int32} {c' i' p' : Nat} (h : ¬ (c' = c ∧ i' = i ∧ p' = p)) : mset M c i p x v c' i' p' = M c' i' p' := by
  funext x'
  unfold mset
  rw [if_neg (fun q => h ⟨q.1, q.2.1, q.2.2.1⟩)]
theorem mset_c4 {M : Mem} {c i p x : Nat} {v : Int32} {c' i' p' x' : Nat} (h : ¬ (c' = c ∧ i' = i ∧ p' = p ∧ x' = x)) : mset M c i p x v c' i' p' x' = M c' i' p' x' := if_neg h
theorem mset_at {M : Mem} {c i p x : Nat} {v : Int32} : mset M c i p x v c i p x = v := if_pos ⟨rfl, rfl, rfl, rfl⟩
theorem marr_c2 {M : Mem} {c i p : Nat} {f : Nat → Int32} {c' i' : Nat} (h : ¬ (c' = c ∧ i' = i)) : marr M c i p f c' i' = M c' i' := by
  funext p' x'
  unfold marr
  rw [if_neg (fun q => h ⟨q.1, q.2.1⟩)]
theorem marr_c3 {M : Mem} {c i p : Nat} {f : Nat → Int32} {c' i' p' : Nat} (h : ¬ (c' = c ∧ i' = i ∧ p' = p)) : marr M c i p f c' i' p' = M c' i' p' := by
  funext x'
  unfold marr
  rw [if_neg h]
theorem upd_at (f : Nat → Int32) (x y : Nat) (v : Int32) : upd f x v y = if y = x then v else f y := rfl
/-! what both systems keep, held against each other -/
def RowsR (ln sz it ln' sz' it' : Nat → Int32) : Prop := ∀ r, r < 8 → ln r = ln' r ∧ (ln r = -1 ∨ ∃ l n : Nat, l < 3 ∧ n ≤ 40 ∧ ln r = nI l ∧ sz r = nI n ∧ sz' r = nI n ∧ ∀ k, k < n → it (40 * r + k) = it' (40 * r + k))
def TapeR (len : Int32) (tp : Nat → Int32) (len' : Int32) (tp' : Nat → Int32) : Prop := ∃ n, n ≤ 400 ∧ len = nI n ∧ len' = nI n ∧ ∀ k, k < n → tp k = tp' k ∧ ∃ b, b < 256 ∧ tp k = nI b
/-- a stair as numbers, in the order of the reference's row of 80 -/
def sdOf (f : Nat → Int32) : Nat → Nat := fun x => (f x).toNatClampNeg
def SV (sd : Nat → Nat) : Prop := sd 0 ≤ 18 ∧ sd 1 ≤ 6 ∧ (∀ s, s < sd 0 → sd (2 + 3 * s) ≤ 4 ∧ sd (3 + 3 * s) ≤ 20 ∧ sd (4 + 3 * s) ≤ 1) ∧ ∀ v, v < sd 1 → (1 ≤ sd (56 + 4 * v) ∧ sd (56 + 4 * v) ≤ 3) ∧ sd (57 + 4 * v) ≤ 2 ∧ sd (58 + 4 * v) ≤ 200 ∧ 1 ≤ sd (59 + 4 * v) ∧ sd (59 + 4 * v) ≤ 20
/-- the class's stair (its cells F: part, index) holds the numbers sd -/
def StX (F : Nat → Nat → Int32) (sd : Nat → Nat) : Prop := F 0 0 = nI (sd 0) ∧ F 0 1 = nI (sd 1) ∧ (∀ s, s < sd 0 → F 3 s = nI (sd (2 + 3 * s)) ∧ F 4 s = nI (sd (3 + 3 * s)) ∧ F 5 s = nI (sd (4 + 3 * s))) ∧ ∀ v, v < sd 1 → F 6 v = nI (sd (56 + 4 * v)) ∧ F 7 v = nI (sd (57 + 4 * v)) ∧ F 8 v = nI (sd (58 + 4 * v)) ∧ F 9 v = nI (sd (59 + 4 * v))
/-- the reference's row is of numbers that are no less than 0, a valid stair -/
def StM (f : Nat → Int32) : Prop := (∀ x, x < 80 → f x = nI (sdOf f x)) ∧ SV (sdOf f)
def NowR (F : Nat → Nat → Int32) (st : Nat → Int32) (there : Int32) : Prop := StM st ∧ StX F (sdOf st) ∧ there = bI (sdOf st 0 ≠ 0)
def fOf (c : Nat) : Nat := if c = 0 then 1 else if c = 1 then 0 else 2
def bOf (c : Nat) : Nat := if c = 0 then 20 else if c = 1 then 4 else 1
def ActsR (k : Int32) (wh sp bf : Nat → Int32) (k' : Int32) (was st : Nat → Int32) : Prop := ∃ n, n ≤ 24 ∧ k = nI n ∧ k' = nI n ∧ ∀ t, t < n → ∃ c s b : Nat, c < 3 ∧ s < sdOf st 0 ∧ b ≤ bOf c ∧ wh t = nI c ∧ sp t = nI s ∧ bf t = nI b ∧ ∀ x, x < 80 → was (80 * t + x) = if x = 2 + 3 * s + fOf c then nI b else if t + 1 = n then st x else was (80 * (t + 1) + x)
def ImgR (F : Nat → Nat → Int32) (is : Int32) (kp : Nat → Int32) (th : Int32) : Prop := (F 0 0 = 0 ∧ is = 0) ∨ (StM kp ∧ sdOf kp 0 ≠ 0 ∧ StX F (sdOf kp) ∧ is = 1 ∧ th = 1)
def TraceR (k : Int32) (bd : Nat → Int32) (k' : Int32) (tr : Nat → Int32) : Prop := ∃ n, n ≤ 16 ∧ k = nI n ∧ k' = nI n ∧ ∀ t, t < n → bd t = tr t
