/-! the mathematics of stairs: ways, what is taken, what is best asked, turns -/
abbrev NF : Type := Nat → Nat
def INF : Nat := 1000000
/-- among the places p0 + 1 .. p0 + d: the least rest, the lowest place that has it -/
def lkS (rest : NF) (far p0 : Nat) : Nat → Nat × Nat
  | 0 => (INF, far)
  | d + 1 => if rest (p0 + d + 1) < (lkS rest far p0 d).1 then (rest (p0 + d + 1), p0 + d + 1) else lkS rest far p0 d
def wg (l a b : Nat) : Nat := if b ≠ 0 then INF else if l < INF then l + (a * 32 + 1) else l
/-- the places n + 1 - k .. n + 1: rest, next -/
def tT (n rc : Nat) (as br : NF) : Nat → NF × NF
  | 0 => (fun _ => 0, fun _ => n + 1)
  | k + 1 => (fun x => if x = n - k then wg (lkS (tT n rc as br k).1 (min (n + 1) (n - k + rc)) (n - k) (min (n + 1) (n - k + rc) - (n - k))).1 (as (n - k - 1)) (br (n - k - 1)) else (tT n rc as br k).1 x,
      fun x => if x = n - k then (lkS (tT n rc as br k).1 (min (n + 1) (n - k + rc)) (n - k) (min (n + 1) (n - k + rc) - (n - k))).2 else (tT n rc as br k).2 x)
def q0 (n rc : Nat) (as br : NF) : Nat × Nat := lkS (tT n rc as br n).1 (min (n + 1) rc) 0 (min (n + 1) rc)
/-- what the way weighs: what is asked times 32, and the treads; INF: there is none -/
def w0 (n rc : Nat) (as br : NF) : Nat := (q0 n rc as br).1
def nx (n rc : Nat) (as br : NF) : NF := fun x => if x = 0 then (q0 n rc as br).2 else (tT n rc as br n).2 x
def folw (n : Nat) (nxt : NF) : Nat → Nat → List Nat
  | 0, _ => []
  | f + 1, p => if 0 < p ∧ p < n + 1 then (p - 1) :: folw n nxt f (nxt p) else []
def path (n rc : Nat) (as br : NF) : List Nat := if w0 n rc as br < INF then folw n (nx n rc as br) 18 (nx n rc as br 0) else []
def bit (set o : Nat) : Bool := Nat.testBit set o
def sumOn (set : Nat) (ow as : NF) : List Nat → Nat
  | [] => 0
  | s :: t => (if bit set (ow s) then as s else 0) + sumOn set ow as t
/-- the parts of a stair -/
def sN (sd : NF) : Nat := sd 0
def sW (sd : NF) : Nat := sd 1
def sOw (sd : NF) : NF := fun s => sd (2 + 3 * s)
def sAs (sd : NF) : NF := fun s => sd (3 + 3 * s)
def sBr (sd : NF) : NF := fun s => sd (4 + 3 * s)
def sRe (sd : NF) : NF := fun v => sd (56 + 4 * v)
def sLo (sd : NF) : NF := fun v => sd (57 + 4 * v)
def sWo (sd : NF) : NF := fun v => sd (58 + 4 * v)
def sFo (sd : NF) : NF := fun v => sd (59 + 4 * v)
def goesW (sd as : NF) (v : Nat) : Prop := w0 (sN sd) (sRe sd v) as (sBr sd) < INF ∧ w0 (sN sd) (sRe sd v) as (sBr sd) / 32 * (1 + sLo sd v) ≤ sWo sd v
def takeW (sd as ow : NF) (set v : Nat) : Nat := if w0 (sN sd) (sRe sd v) as (sBr sd) < INF ∧ w0 (sN sd) (sRe sd v) as (sBr sd) / 32 * (1 + sLo sd v) ≤ sWo sd v then sumOn set ow as (path (sN sd) (sRe sd v) as (sBr sd)) * (1 + sLo sd v) * sFo sd v else 0
def tkS (sd as ow : NF) (set : Nat) : Nat → Nat
  | 0 => 0
  | v + 1 => tkS sd as ow set v + takeW sd as ow set v
/-- what the owners of a set take -/
def tk (sd as ow : NF) (set : Nat) : Nat := tkS sd as ow set (sW sd)
def setA (as ow : NF) (set v : Nat) : NF := fun s => if bit set (ow s) then v else as s
/-- behind the askings 0 .. k: the best one, what is taken by it -/
def bsS (sd as ow : NF) (set : Nat) : Nat → Nat × Nat
  | 0 => (0, tk sd (setA as ow set 0) ow set)
  | k + 1 => if (bsS sd as ow set k).2 < tk sd (setA as ow set (k + 1)) ow set then (k + 1, tk sd (setA as ow set (k + 1)) ow set) else bsS sd as ow set k
def bst (sd as ow : NF) (set : Nat) : Nat × Nat := bsS sd as ow set 20
/-- whether a set has steps among the first n -/
def hasS (ow : NF) (set : Nat) : Nat → Bool
  | 0 => false
  | n + 1 => hasS ow set n || bit set (ow n)
/-- one owner's turn -/
def turn1 (sd as ow : NF) (o : Nat) : NF := if hasS ow (2 ^ o) (sN sd) then setA as ow (2 ^ o) (bst sd as ow (2 ^ o)).1 else as
def chg1 (sd as ow : NF) (o : Nat) : Bool := hasS ow (2 ^ o) (sN sd) && (List.range (sN sd)).any (fun s => bit (2 ^ o) (ow s) && as s != (bst sd as ow (2 ^ o)).1)
/-- the owners 0 .. k - 1, one after another: the askings, whether one changed -/
def rnd (sd ow as : NF) : Nat → NF × Bool
  | 0 => (as, false)
  | k + 1 => (turn1 sd (rnd sd ow as k).1 ow k, (rnd sd ow as k).2 || chg1 sd (rnd sd ow as k).1 ow k)
/-- behind r rounds, as long as one changes: the askings, the number of the round in which nobody changed (0: none) -/
def trS (sd ow as : NF) : Nat → NF × Nat
  | 0 => (as, 0)
  | r + 1 => if (trS sd ow as r).2 = 0 then ((rnd sd ow (trS sd ow as r).1 5).1, if (rnd sd ow (trS sd ow as r).1 5).2 then 0 else r + 1) else trS sd ow as r
def turnsA (sd : NF) : NF × Nat := trS sd (sOw sd) (sAs sd) 20
def turnsR (sd : NF) : Int32 := if (turnsA sd).2 = 0 then -1000000 else nI (turnsA sd).2
/-- the first step of an owner among the first n: its asking -/
def firstA (ow as : NF) (o : Nat) : Nat → Int32
  | 0 => -1000000
  | n + 1 => if firstA ow as o n = -1000000 then (if ow n = o then nI (as n) else -1000000) else firstA ow as o n
def turnsB (sd : NF) (o : Nat) : Int32 := firstA (sOw sd) (turnsA sd).1 o (sN sd)
def TurnsR (F : Nat → Nat → Int32) (st : Nat → Int32) : Prop := F 0 2 = 0 ∨ (F 0 2 = 1 ∧ F 0 1 = turnsR (sdOf st) ∧ ∀ o, o < 5 → F 1 o = turnsB (sdOf st) o)
/-- THE INVARIANT between the class and the reference -/
def Inv (M : Mem) : Prop :=
  RowsR (M 5 0 1) (M 5 0 2) (M 5 0 3) (M 9 0 3) (M 9 0 4) (M 9 0 5) ∧ TapeR (M 4 0 0 1) (M 4 0 1) (M 9 0 0 11) (M 9 0 11) ∧ M 8 0 0 11 = M 9 0 0 12 ∧ M 8 0 0 12 = M 9 0 0 1 ∧
  NowR (M 6 0) (M 9 0 6) (M 9 0 0 7) ∧ ActsR (M 0 0 0 3) (M 0 0 1) (M 0 0 2) (M 0 0 3) (M 9 0 0 9) (M 9 0 9) (M 9 0 6) ∧
  (∀ k, k < 2 → ImgR (M 6 (k + 3)) (M 9 0 28 k) (fun x => M 9 0 29 (80 * k + x)) (M 9 0 0 7)) ∧ TraceR (M 1 0 0 1) (M 1 0 1) (M 9 0 0 30) (M 9 0 30) ∧ TurnsR (M 7 0) (M 9 0 6)
