/-! the tape read: tokens -/
def blB (c : Nat) : Bool := decide (c = 32 ∨ c = 10)
def leB (c : Nat) : Bool := decide (97 ≤ c ∧ c ≤ 122)
def fiB (c : Nat) : Bool := decide (48 ≤ c ∧ c ≤ 57)
/-- from p on, at most d bytes: the first one that is not P -/
def rnT (P : Nat → Bool) (tp : NF) : Nat → Nat → Nat
  | 0, p => p
  | d + 1, p => if P (tp p) then rnT P tp d (p + 1) else p
theorem rnT_le {P : Nat → Bool} {tp : NF} : ∀ d p, p ≤ rnT P tp d p ∧ rnT P tp d p ≤ p + d
  | 0, p => ⟨Nat.le_refl _, Nat.le_refl _⟩
  | d + 1, p => by
    show p ≤ (if _ then _ else _) ∧ (if _ then _ else _) ≤ _
    split
    · have := rnT_le (P := P) (tp := tp) d (p + 1)
      omega
    · omega
theorem rnT_all {P : Nat → Bool} {tp : NF} : ∀ d p k, p ≤ k → k < rnT P tp d p → P (tp k) = true
  | 0, p, k, h1, h2 => absurd h2 (Nat.not_lt.mpr h1)
  | d + 1, p, k, h1, h2 => by
    have e : rnT P tp (d + 1) p = if P (tp p) then rnT P tp d (p + 1) else p := rfl
    rw [e] at h2
    by_cases c : P (tp p) = true
    · rw [if_pos c] at h2
      by_cases y : k = p
      · rw [y]; exact c
      · exact rnT_all d (p + 1) k (by omega) h2
    · rw [if_neg c] at h2
      omega
theorem rnT_end {P : Nat → Bool} {tp : NF} : ∀ d p, rnT P tp d p < p + d → ¬ P (tp (rnT P tp d p)) = true
  | 0, p, h => absurd h (Nat.lt_irrefl p)
  | d + 1, p, h => by
    have e : rnT P tp (d + 1) p = if P (tp p) then rnT P tp d (p + 1) else p := rfl
    rw [e] at h ⊢
    by_cases c : P (tp p) = true
    · rw [if_pos c] at h ⊢
      exact rnT_end d (p + 1) (by omega)
    · rw [if_neg c]
      exact c
/-- a token that begins at s: its kind, its end, its number -/
def tkY (tp : NF) (n s : Nat) : Nat := if n ≤ s then 0 else if leB (tp s) then 1 else if fiB (tp s) then (if rnT fiB tp (n - s) s - s ≤ 3 then 2 else 4) else if tp s = 59 then 3 else 4
def tkE (tp : NF) (n s : Nat) : Nat := if n ≤ s then s else if leB (tp s) then rnT leB tp (n - s) s else if fiB (tp s) then rnT fiB tp (n - s) s else s + 1
def valT (tp : NF) (s : Nat) : Nat → Nat
  | 0 => 0
  | k + 1 => valT tp s k * 10 + (tp (s + k) - 48)
/-- the token behind place p -/
def tS (tp : NF) (n p : Nat) : Nat := rnT blB tp (n - p) p
def tY (tp : NF) (n p : Nat) : Nat := tkY tp n (tS tp n p)
def tE (tp : NF) (n p : Nat) : Nat := tkE tp n (tS tp n p)
def tV (tp : NF) (n p : Nat) : Nat := valT tp (tS tp n p) (tE tp n p - tS tp n p)
theorem tS_le {tp : NF} {n p : Nat} (h : p ≤ n) : p ≤ tS tp n p ∧ tS tp n p ≤ n := by
  have := rnT_le (P := blB) (tp := tp) (n - p) p
  unfold tS
  omega
theorem tkE_le {tp : NF} {n s : Nat} (h : s ≤ n) : s ≤ tkE tp n s ∧ tkE tp n s ≤ n := by
  have a := rnT_le (P := leB) (tp := tp) (n - s) s
  have b := rnT_le (P := fiB) (tp := tp) (n - s) s
  unfold tkE
  split
  · omega
  · split
    · omega
    · split <;> omega
theorem tE_le {tp : NF} {n p : Nat} (h : p ≤ n) : tS tp n p ≤ tE tp n p ∧ tE tp n p ≤ n := tkE_le (tS_le h).2
theorem tkY_4 {tp : NF} {n s : Nat} : tkY tp n s ≤ 4 := by
  unfold tkY
  repeat' split
  all_goals omega
theorem tY_4 {tp : NF} {n p : Nat} : tY tp n p ≤ 4 := tkY_4
/-- a name: its bytes are letters -/
theorem tkY_1 {tp : NF} {n s : Nat} (h : tkY tp n s = 1) : s < n ∧ leB (tp s) = true ∧ tkE tp n s = rnT leB tp (n - s) s := by
  unfold tkY at h
  unfold tkE
  by_cases c : n ≤ s
  · rw [if_pos c] at h; omega
  · rw [if_neg c] at h ⊢
    by_cases l : leB (tp s) = true
    · rw [if_pos l]; exact ⟨by omega, l, rfl⟩
    · rw [if_neg l] at h
      repeat' split at h
      all_goals omega
theorem tkY_2 {tp : NF} {n s : Nat} (h : tkY tp n s = 2) : s < n ∧ ¬ leB (tp s) = true ∧ fiB (tp s) = true ∧ tkE tp n s = rnT fiB tp (n - s) s ∧ tkE tp n s - s ≤ 3 := by
  unfold tkY at h
  unfold tkE
  by_cases c : n ≤ s
  · rw [if_pos c] at h; omega
  · rw [if_neg c] at h ⊢
    by_cases l : leB (tp s) = true
    · rw [if_pos l] at h; omega
    · rw [if_neg l] at h ⊢
      by_cases g : fiB (tp s) = true
      · rw [if_pos g] at h ⊢
        by_cases e : rnT fiB tp (n - s) s - s ≤ 3
        · exact ⟨by omega, l, g, rfl, e⟩
        · rw [if_neg e] at h; omega
      · rw [if_neg g] at h
        split at h <;> omega
theorem tY_end {tp : NF} {n p : Nat} (h : p ≤ n) : tY tp n p = 0 ↔ n ≤ tS tp n p := by
  unfold tY tkY
  by_cases c : n ≤ tS tp n p
  · rw [if_pos c]; exact ⟨fun _ => c, fun _ => rfl⟩
  · rw [if_neg c]
    refine ⟨fun q => ?_, fun q => absurd q c⟩
    repeat' split at q
    all_goals omega
/-! what the reading does: the place of the token that stands, the fault -/
def isW (tp : NF) (n p j : Nat) : Bool := decide (tY tp n p = 1 ∧ tE tp n p - tS tp n p = strN j ∧ ∀ k, k < strN j → nI (tp (tS tp n p + k)) = strC j k)
theorem isW_iff {tp : NF} {n p j : Nat} : isW tp n p j = true ↔ tY tp n p = 1 ∧ tE tp n p - tS tp n p = strN j ∧ ∀ k, k < strN j → nI (tp (tS tp n p + k)) = strC j k := decide_eq_true_iff
def pFa (k : Nat) (q : Nat × Nat) : Nat × Nat := (q.1, if q.2 = 0 then k else q.2)
def pNum (tp : NF) (n lo hi : Nat) (q : Nat × Nat) : Nat × Nat := if q.2 ≠ 0 then q else if tY tp n q.1 ≠ 2 then (q.1, 1) else if lo ≤ tV tp n q.1 ∧ tV tp n q.1 ≤ hi then (tE tp n q.1, 0) else (q.1, 2)
def pSig (tp : NF) (n : Nat) (q : Nat × Nat) : Nat × Nat := if q.2 ≠ 0 then q else if tY tp n q.1 ≠ 3 then (q.1, 1) else (tE tp n q.1, 0)
def pWd (tp : NF) (n : Nat) (full : Prop) [Decidable full] (p : Nat) : Nat × Nat := if full then (p, 3) else (tE tp n p, 0)
theorem pNum_ok {tp : NF} {n lo hi : Nat} {q : Nat × Nat} (h : (pNum tp n lo hi q).2 = 0) : q.2 = 0 ∧ lo ≤ tV tp n q.1 ∧ tV tp n q.1 ≤ hi := by
  unfold pNum at h
  by_cases a : q.2 = 0
  · rw [if_neg (fun z => z a)] at h
    by_cases b : tY tp n q.1 = 2
    · rw [if_neg (fun z => z b)] at h
      by_cases c : lo ≤ tV tp n q.1 ∧ tV tp n q.1 ≤ hi
      · exact ⟨a, c⟩
      · rw [if_neg c] at h; exact absurd h (by show ¬ 2 = 0; decide)
    · rw [if_pos b] at h; exact absurd h (by show ¬ 1 = 0; decide)
  · rw [if_pos a] at h; exact absurd h a
theorem pSig_ok {tp : NF} {n : Nat} {q : Nat × Nat} (h : (pSig tp n q).2 = 0) : q.2 = 0 := by
  unfold pSig at h
  by_cases a : q.2 = 0
  · exact a
  · rw [if_pos a] at h; exact h
theorem pNum_le {tp : NF} {n lo hi : Nat} {q : Nat × Nat} (h : q.1 ≤ n ∧ q.2 ≤ 3) : (pNum tp n lo hi q).1 ≤ n ∧ (pNum tp n lo hi q).2 ≤ 3 := by
  have := tE_le (tp := tp) h.1
  unfold pNum
  repeat' split
  all_goals (try dsimp only) <;> omega
theorem pSig_le {tp : NF} {n : Nat} {q : Nat × Nat} (h : q.1 ≤ n ∧ q.2 ≤ 3) : (pSig tp n q).1 ≤ n ∧ (pSig tp n q).2 ≤ 3 := by
  have := tE_le (tp := tp) h.1
  unfold pSig
  repeat' split
  all_goals (try dsimp only) <;> omega
theorem pWd_le {tp : NF} {n p : Nat} {full : Prop} [Decidable full] (h : p ≤ n) : (pWd tp n full p).1 ≤ n ∧ (pWd tp n full p).2 ≤ 3 := by
  have := tE_le (tp := tp) h
  unfold pWd
  split
  all_goals dsimp only <;> omega
def addS (sd : NF) (a b : Nat) : NF := fun x => if x = 0 then sd 0 + 1 else if x = 2 + 3 * sd 0 then a else if x = 3 + 3 * sd 0 then b else sd x
def addW (sd : NF) (a b c d : Nat) : NF := fun x => if x = 1 then sd 1 + 1 else if x = 56 + 4 * sd 1 then a else if x = 57 + 4 * sd 1 then b else if x = 58 + 4 * sd 1 then c else if x = 59 + 4 * sd 1 then d else sd x
theorem addS_0 {sd : NF} {a b : Nat} : addS sd a b 0 = sd 0 + 1 := if_pos rfl
theorem addW_1 {sd : NF} {a b c d : Nat} : addW sd a b c d 1 = sd 1 + 1 := if_pos rfl
theorem addW_0 {sd : NF} {a b c d : Nat} : addW sd a b c d 0 = sd 0 := by
  unfold addW
  rw [if_neg (by omega), if_neg (by omega), if_neg (by omega), if_neg (by omega), if_neg (by omega)]
/-- the places and faults in a step: behind its word, its owner, its asking, its sign -/
def st1 (tp : NF) (n p : Nat) (sd : NF) : Nat × Nat := pWd tp n (18 ≤ sd 0) p
def st2 (tp : NF) (n p : Nat) (sd : NF) : Nat × Nat := pNum tp n 0 4 (st1 tp n p sd)
def st3 (tp : NF) (n p : Nat) (sd : NF) : Nat × Nat := pNum tp n 0 20 (st2 tp n p sd)
def st4 (tp : NF) (n p : Nat) (sd : NF) : Nat × Nat := pSig tp n (st3 tp n p sd)
def wk1 (tp : NF) (n p : Nat) (sd : NF) : Nat × Nat := pWd tp n (6 ≤ sd 1) p
def wk2 (tp : NF) (n p : Nat) (sd : NF) : Nat × Nat := pNum tp n 1 3 (wk1 tp n p sd)
def wk3 (tp : NF) (n p : Nat) (sd : NF) : Nat × Nat := pNum tp n 0 2 (wk2 tp n p sd)
def wk4 (tp : NF) (n p : Nat) (sd : NF) : Nat × Nat := pNum tp n 0 200 (wk3 tp n p sd)
def wk5 (tp : NF) (n p : Nat) (sd : NF) : Nat × Nat := pNum tp n 1 20 (wk4 tp n p sd)
def wk6 (tp : NF) (n p : Nat) (sd : NF) : Nat × Nat := pSig tp n (wk5 tp n p sd)
abbrev PS : Type := (Nat × Nat) × NF
def pStp (tp : NF) (n p : Nat) (sd : NF) : PS := (st4 tp n p sd, if (st4 tp n p sd).2 = 0 then addS sd (tV tp n (st1 tp n p sd).1) (tV tp n (st2 tp n p sd).1) else sd)
def pWlk (tp : NF) (n p : Nat) (sd : NF) : PS := (wk6 tp n p sd, if (wk6 tp n p sd).2 = 0 then addW sd (tV tp n (wk1 tp n p sd).1) (tV tp n (wk2 tp n p sd).1) (tV tp n (wk3 tp n p sd).1) (tV tp n (wk4 tp n p sd).1) else sd)
def pSts (tp : NF) (n : Nat) : Nat → PS → PS
  | 0, s => s
  | d + 1, s => if s.1.2 = 0 ∧ isW tp n s.1.1 0 = true then pSts tp n d (pStp tp n s.1.1 s.2) else s
def pWks (tp : NF) (n : Nat) : Nat → PS → PS
  | 0, s => s
  | d + 1, s => if s.1.2 = 0 ∧ isW tp n s.1.1 1 = true then pWks tp n d (pWlk tp n s.1.1 s.2) else s
def ps0 (tp : NF) (n : Nat) : PS := ((0, if isW tp n 0 0 = true then 0 else 1), fun _ => 0)
def ps1 (tp : NF) (n : Nat) : PS := pSts tp n 19 (ps0 tp n)
def ps2 (tp : NF) (n : Nat) : PS := pWks tp n 7 (ps1 tp n)
def psF (tp : NF) (n : Nat) : Nat := if (ps2 tp n).1.2 = 0 ∧ tY tp n (ps2 tp n).1.1 ≠ 0 then 1 else (ps2 tp n).1.2
/-- what holds of a reading -/
def PI2 (n : Nat) (s : PS) : Prop := (s.1.1 ≤ n ∧ s.1.2 ≤ 3) ∧ SV s.2 ∧ ∀ k, k < 18 → s.2 (4 + 3 * k) = 0
theorem addS_ok {sd : NF} {a b : Nat} (h : SV sd) (hz : ∀ k, k < 18 → sd (4 + 3 * k) = 0) (h0 : sd 0 < 18) (ha : a ≤ 4) (hb : b ≤ 20) : SV (addS sd a b) ∧ ∀ k, k < 18 → addS sd a b (4 + 3 * k) = 0 := by
  obtain ⟨v0, v1, v2, v3⟩ := h
  have z : ∀ k, k < 18 → addS sd a b (4 + 3 * k) = 0 := fun k hk => by
    unfold addS
    rw [if_neg (by omega), if_neg (by omega), if_neg (by omega)]
    exact hz k hk
  have e0 : addS sd a b 0 = sd 0 + 1 := if_pos rfl
  have e1 : addS sd a b 1 = sd 1 := by unfold addS; rw [if_neg (by omega), if_neg (by omega), if_neg (by omega)]
  refine ⟨⟨by omega, by omega, fun s hs => ?_, fun v hv => ?_⟩, z⟩
  · rw [e0] at hs
    rw [z s (by omega)]
    unfold addS
    by_cases c : s = sd 0
    · rw [if_neg (by omega), if_pos (by omega), if_neg (by omega), if_neg (by omega), if_pos (by omega)]
      exact ⟨ha, hb, by omega⟩
    · rw [if_neg (by omega), if_neg (by omega), if_neg (by omega), if_neg (by omega), if_neg (by omega), if_neg (by omega)]
      have := v2 s (by omega)
      exact ⟨this.1, this.2.1, by omega⟩
  · rw [e1] at hv
    have g : ∀ x, 56 ≤ x → addS sd a b x = sd x := fun x hx => by unfold addS; rw [if_neg (by omega), if_neg (by omega), if_neg (by omega)]
    rw [g _ (by omega), g _ (by omega), g _ (by omega), g _ (by omega)]
    exact v3 v hv
theorem addW_ok {sd : NF} {a b c d : Nat} (h : SV sd) (hz : ∀ k, k < 18 → sd (4 + 3 * k) = 0) (h0 : sd 1 < 6) (ha : 1 ≤ a ∧ a ≤ 3) (hb : b ≤ 2) (hc : c ≤ 200) (hd : 1 ≤ d ∧ d ≤ 20) : SV (addW sd a b c d) ∧ ∀ k, k < 18 → addW sd a b c d (4 + 3 * k) = 0 := by
  obtain ⟨v0, v1, v2, v3⟩ := h
  have g : ∀ x, x < 56 → x ≠ 1 → addW sd a b c d x = sd x := fun x hx h1 => by unfold addW; rw [if_neg h1, if_neg (by omega), if_neg (by omega), if_neg (by omega), if_neg (by omega)]
  have e1 : addW sd a b c d 1 = sd 1 + 1 := if_pos rfl
  refine ⟨⟨by rw [g 0 (by omega) (by omega)]; exact v0, by omega, fun s hs => ?_, fun v hv => ?_⟩, fun k hk => by rw [g _ (by omega) (by omega)]; exact hz k hk⟩
  · rw [g 0 (by omega) (by omega)] at hs
    rw [g _ (by omega) (by omega), g _ (by omega) (by omega), g _ (by omega) (by omega)]
    exact v2 s hs
  · rw [e1] at hv
    unfold addW
    by_cases y : v = sd 1
    · subst y
      simp only [show ¬ 56 + 4 * sd 1 = 1 by omega, show ¬ 57 + 4 * sd 1 = 1 by omega, show ¬ 58 + 4 * sd 1 = 1 by omega, show ¬ 59 + 4 * sd 1 = 1 by omega, show ¬ 57 + 4 * sd 1 = 56 + 4 * sd 1 by omega, show ¬ 58 + 4 * sd 1 = 56 + 4 * sd 1 by omega, show ¬ 58 + 4 * sd 1 = 57 + 4 * sd 1 by omega, show ¬ 59 + 4 * sd 1 = 56 + 4 * sd 1 by omega, show ¬ 59 + 4 * sd 1 = 57 + 4 * sd 1 by omega, show ¬ 59 + 4 * sd 1 = 58 + 4 * sd 1 by omega, if_false, if_true]
      exact ⟨ha, hb, hc, hd⟩
    · simp only [show ¬ 56 + 4 * v = 1 by omega, show ¬ 57 + 4 * v = 1 by omega, show ¬ 58 + 4 * v = 1 by omega, show ¬ 59 + 4 * v = 1 by omega, show ¬ 56 + 4 * v = 56 + 4 * sd 1 by omega, show ¬ 56 + 4 * v = 57 + 4 * sd 1 by omega, show ¬ 56 + 4 * v = 58 + 4 * sd 1 by omega, show ¬ 56 + 4 * v = 59 + 4 * sd 1 by omega, show ¬ 57 + 4 * v = 56 + 4 * sd 1 by omega, show ¬ 57 + 4 * v = 57 + 4 * sd 1 by omega, show ¬ 57 + 4 * v = 58 + 4 * sd 1 by omega, show ¬ 57 + 4 * v = 59 + 4 * sd 1 by omega, show ¬ 58 + 4 * v = 56 + 4 * sd 1 by omega, show ¬ 58 + 4 * v = 57 + 4 * sd 1 by omega, show ¬ 58 + 4 * v = 58 + 4 * sd 1 by omega, show ¬ 58 + 4 * v = 59 + 4 * sd 1 by omega, show ¬ 59 + 4 * v = 56 + 4 * sd 1 by omega, show ¬ 59 + 4 * v = 57 + 4 * sd 1 by omega, show ¬ 59 + 4 * v = 58 + 4 * sd 1 by omega, show ¬ 59 + 4 * v = 59 + 4 * sd 1 by omega, if_false]
      exact v3 v (by omega)
theorem pWd_ok {tp : NF} {n p : Nat} {full : Prop} [Decidable full] (h : (pWd tp n full p).2 = 0) : ¬ full := by
  unfold pWd at h
  by_cases c : full
  · rw [if_pos c] at h; exact absurd h (by show ¬ 3 = 0; decide)
  · exact c
theorem st_le {tp : NF} {n p : Nat} {sd : NF} (h : p ≤ n) : ((st1 tp n p sd).1 ≤ n ∧ (st1 tp n p sd).2 ≤ 3) ∧ ((st2 tp n p sd).1 ≤ n ∧ (st2 tp n p sd).2 ≤ 3) ∧ ((st3 tp n p sd).1 ≤ n ∧ (st3 tp n p sd).2 ≤ 3) ∧ ((st4 tp n p sd).1 ≤ n ∧ (st4 tp n p sd).2 ≤ 3) := by
  have a : (st1 tp n p sd).1 ≤ n ∧ (st1 tp n p sd).2 ≤ 3 := pWd_le h
  have b : (st2 tp n p sd).1 ≤ n ∧ (st2 tp n p sd).2 ≤ 3 := pNum_le a
  have c : (st3 tp n p sd).1 ≤ n ∧ (st3 tp n p sd).2 ≤ 3 := pNum_le b
  exact ⟨a, b, c, pSig_le c⟩
theorem wk_le {tp : NF} {n p : Nat} {sd : NF} (h : p ≤ n) : ((wk1 tp n p sd).1 ≤ n ∧ (wk1 tp n p sd).2 ≤ 3) ∧ ((wk2 tp n p sd).1 ≤ n ∧ (wk2 tp n p sd).2 ≤ 3) ∧ ((wk3 tp n p sd).1 ≤ n ∧ (wk3 tp n p sd).2 ≤ 3) ∧ ((wk4 tp n p sd).1 ≤ n ∧ (wk4 tp n p sd).2 ≤ 3) ∧ ((wk5 tp n p sd).1 ≤ n ∧ (wk5 tp n p sd).2 ≤ 3) ∧ ((wk6 tp n p sd).1 ≤ n ∧ (wk6 tp n p sd).2 ≤ 3) := by
  have a : (wk1 tp n p sd).1 ≤ n ∧ (wk1 tp n p sd).2 ≤ 3 := pWd_le h
  have b : (wk2 tp n p sd).1 ≤ n ∧ (wk2 tp n p sd).2 ≤ 3 := pNum_le a
  have c : (wk3 tp n p sd).1 ≤ n ∧ (wk3 tp n p sd).2 ≤ 3 := pNum_le b
  have d : (wk4 tp n p sd).1 ≤ n ∧ (wk4 tp n p sd).2 ≤ 3 := pNum_le c
  have e : (wk5 tp n p sd).1 ≤ n ∧ (wk5 tp n p sd).2 ≤ 3 := pNum_le d
  exact ⟨a, b, c, d, e, pSig_le e⟩
/-- a step that is read without a fault -/
theorem st_ok {tp : NF} {n p : Nat} {sd : NF} (h : (st4 tp n p sd).2 = 0) : sd 0 < 18 ∧ tV tp n (st1 tp n p sd).1 ≤ 4 ∧ tV tp n (st2 tp n p sd).1 ≤ 20 ∧ (st2 tp n p sd).2 = 0 ∧ (st3 tp n p sd).2 = 0 := by
  have a := pSig_ok h
  obtain ⟨b, -, b2⟩ := pNum_ok a
  obtain ⟨c, -, c2⟩ := pNum_ok b
  have d := pWd_ok c
  exact ⟨by omega, c2, b2, b, a⟩
theorem wk_ok {tp : NF} {n p : Nat} {sd : NF} (h : (wk6 tp n p sd).2 = 0) : sd 1 < 6 ∧ (1 ≤ tV tp n (wk1 tp n p sd).1 ∧ tV tp n (wk1 tp n p sd).1 ≤ 3) ∧ tV tp n (wk2 tp n p sd).1 ≤ 2 ∧ tV tp n (wk3 tp n p sd).1 ≤ 200 ∧ (1 ≤ tV tp n (wk4 tp n p sd).1 ∧ tV tp n (wk4 tp n p sd).1 ≤ 20) ∧ (wk2 tp n p sd).2 = 0 ∧ (wk3 tp n p sd).2 = 0 ∧ (wk4 tp n p sd).2 = 0 ∧ (wk5 tp n p sd).2 = 0 := by
  have a := pSig_ok h
  obtain ⟨b, b1, b2⟩ := pNum_ok a
  obtain ⟨c, c1, c2⟩ := pNum_ok b
  obtain ⟨d, d1, d2⟩ := pNum_ok c
  obtain ⟨e, e1, e2⟩ := pNum_ok d
  have f := pWd_ok e
  exact ⟨by omega, ⟨e1, e2⟩, d2, c2, ⟨b1, b2⟩, d, c, b, a⟩
theorem pStp_ok {tp : NF} {n p : Nat} {sd : NF} (h : p ≤ n) (hv : SV sd) (hz : ∀ k, k < 18 → sd (4 + 3 * k) = 0) : PI2 n (pStp tp n p sd) ∧ ((pStp tp n p sd).1.2 = 0 → (pStp tp n p sd).2 0 = sd 0 + 1) := by
  unfold PI2 pStp
  by_cases c : (st4 tp n p sd).2 = 0
  · obtain ⟨a, b, d, -⟩ := st_ok c
    rw [if_pos c]
    exact ⟨⟨(st_le h).2.2.2, addS_ok hv hz a b d⟩, fun _ => by dsimp only; exact addS_0⟩
  · rw [if_neg c]
    exact ⟨⟨(st_le h).2.2.2, hv, hz⟩, fun q => absurd q c⟩
theorem pWlk_ok {tp : NF} {n p : Nat} {sd : NF} (h : p ≤ n) (hv : SV sd) (hz : ∀ k, k < 18 → sd (4 + 3 * k) = 0) : PI2 n (pWlk tp n p sd) ∧ ((pWlk tp n p sd).1.2 = 0 → (pWlk tp n p sd).2 1 = sd 1 + 1) ∧ (pWlk tp n p sd).2 0 = sd 0 := by
  unfold PI2 pWlk
  by_cases c : (wk6 tp n p sd).2 = 0
  · obtain ⟨a, b, d, e, f, -⟩ := wk_ok c
    rw [if_pos c]
    exact ⟨⟨(wk_le h).2.2.2.2.2, addW_ok hv hz a b d e f⟩, fun _ => by dsimp only; exact addW_1, by dsimp only; exact addW_0⟩
  · rw [if_neg c]
    exact ⟨⟨(wk_le h).2.2.2.2.2, hv, hz⟩, fun q => absurd q c, rfl⟩
theorem pSts_ok {tp : NF} {n : Nat} : ∀ d (s : PS), PI2 n s → PI2 n (pSts tp n d s) ∧ ((pSts tp n d s).1.2 = 0 → s.1.2 = 0 ∧ s.2 0 ≤ (pSts tp n d s).2 0)
  | 0, s, h => ⟨h, fun q => ⟨q, Nat.le_refl _⟩⟩
  | d + 1, s, h => by
    have e : pSts tp n (d + 1) s = if s.1.2 = 0 ∧ isW tp n s.1.1 0 = true then pSts tp n d (pStp tp n s.1.1 s.2) else s := rfl
    rw [e]
    by_cases c : s.1.2 = 0 ∧ isW tp n s.1.1 0 = true
    · rw [if_pos c]
      obtain ⟨a, b⟩ := pStp_ok (tp := tp) h.1.1 h.2.1 h.2.2
      obtain ⟨g, i⟩ := pSts_ok (tp := tp) d _ a
      refine ⟨g, fun q => ⟨c.1, ?_⟩⟩
      obtain ⟨j, k⟩ := i q
      have := b j
      omega
    · rw [if_neg c]
      exact ⟨h, fun q => ⟨q, Nat.le_refl _⟩⟩
theorem pWks_ok {tp : NF} {n : Nat} : ∀ d (s : PS), PI2 n s → PI2 n (pWks tp n d s) ∧ ((pWks tp n d s).1.2 = 0 → s.1.2 = 0) ∧ (pWks tp n d s).2 0 = s.2 0
  | 0, s, h => ⟨h, fun q => q, rfl⟩
  | d + 1, s, h => by
    have e : pWks tp n (d + 1) s = if s.1.2 = 0 ∧ isW tp n s.1.1 1 = true then pWks tp n d (pWlk tp n s.1.1 s.2) else s := rfl
    rw [e]
    by_cases c : s.1.2 = 0 ∧ isW tp n s.1.1 1 = true
    · rw [if_pos c]
      obtain ⟨a, -, b⟩ := pWlk_ok (tp := tp) h.1.1 h.2.1 h.2.2
      obtain ⟨g, i, j⟩ := pWks_ok (tp := tp) d _ a
      exact ⟨g, fun _ => c.1, j.trans b⟩
    · rw [if_neg c]
      exact ⟨h, fun q => q, rfl⟩
theorem ps0_ok {tp : NF} {n : Nat} : PI2 n (ps0 tp n) := by
  refine ⟨⟨Nat.zero_le _, ?_⟩, ⟨Nat.zero_le _, Nat.zero_le _, fun s hs => absurd hs (Nat.not_lt_zero s), fun s hs => absurd hs (Nat.not_lt_zero s)⟩, fun _ _ => rfl⟩
  show (if _ then 0 else 1) ≤ 3
  split <;> omega
theorem ps1_ok {tp : NF} {n : Nat} : PI2 n (ps1 tp n) := (pSts_ok 19 _ ps0_ok).1
theorem ps2_ok {tp : NF} {n : Nat} : PI2 n (ps2 tp n) := (pWks_ok 7 _ ps1_ok).1
/-- a stair that is read without a fault has a step -/
theorem psF_0 {tp : NF} {n : Nat} (h : psF tp n = 0) : (ps2 tp n).2 0 ≠ 0 := by
  have h2 : (ps2 tp n).1.2 = 0 := by
    unfold psF at h
    by_cases c : (ps2 tp n).1.2 = 0 ∧ tY tp n (ps2 tp n).1.1 ≠ 0
    · rw [if_pos c] at h; omega
    · rw [if_neg c] at h; exact h
  obtain ⟨-, a, b⟩ := pWks_ok (tp := tp) 7 _ (ps1_ok (tp := tp) (n := n))
  have h1 : (ps1 tp n).1.2 = 0 := a h2
  have e2 : (ps2 tp n).2 0 = (ps1 tp n).2 0 := b
  rw [e2]
  have h0 : (ps0 tp n).1.2 = 0 := ((pSts_ok (tp := tp) 19 _ (ps0_ok (tp := tp) (n := n))).2 h1).1
  have w0 : isW tp n 0 0 = true := by
    by_cases c : isW tp n 0 0 = true
    · exact c
    · have : (ps0 tp n).1.2 = 1 := if_neg c
      omega
  have e1 : ps1 tp n = pSts tp n 18 (pStp tp n 0 (ps0 tp n).2) := if_pos ⟨h0, w0⟩
  rw [e1] at h1 ⊢
  obtain ⟨i, j⟩ := pStp_ok (tp := tp) (n := n) (p := 0) (sd := (ps0 tp n).2) (Nat.zero_le _) ps0_ok.2.1 ps0_ok.2.2
  obtain ⟨k, l⟩ := (pSts_ok (tp := tp) 18 _ i).2 h1
  have := j k
  omega
