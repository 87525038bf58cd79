/-! the mathematics of ways -/
theorem lkS_le (f : NF) (far p0 : Nat) : ∀ d, (lkS f far p0 d).1 ≤ INF
  | 0 => Nat.le_refl _
  | d + 1 => by
    have := lkS_le f far p0 d
    show (if _ then _ else _ : Nat × Nat).1 ≤ _
    split
    · dsimp only; omega
    · exact this
theorem lkS_c {f g : NF} {far p0 : Nat} : ∀ {d}, (∀ p, p0 < p → p ≤ p0 + d → f p = g p) → lkS f far p0 d = lkS g far p0 d
  | 0, _ => rfl
  | d + 1, h => by
    have e := lkS_c (f := f) (g := g) (far := far) (d := d) (fun p h1 h2 => h p h1 (by omega))
    show (if _ then _ else _) = (if _ then _ else _)
    rw [e, h (p0 + d + 1) (by omega) (by omega)]
theorem lkS_at {f : NF} {far p0 : Nat} : ∀ {d}, (lkS f far p0 d).1 < INF → p0 < (lkS f far p0 d).2 ∧ (lkS f far p0 d).2 ≤ p0 + d ∧ f (lkS f far p0 d).2 = (lkS f far p0 d).1
  | 0, h => absurd h (Nat.lt_irrefl _)
  | d + 1, h => by
    by_cases c : f (p0 + d + 1) < (lkS f far p0 d).1
    · rw [show lkS f far p0 (d + 1) = (f (p0 + d + 1), p0 + d + 1) from if_pos c]
      exact ⟨by dsimp only; omega, by dsimp only; omega, rfl⟩
    · rw [show lkS f far p0 (d + 1) = lkS f far p0 d from if_neg c] at h ⊢
      obtain ⟨h1, h2, h3⟩ := lkS_at h
      exact ⟨h1, by omega, h3⟩
theorem lkS_2 {f : NF} {far p0 : Nat} (hf : p0 < far) : ∀ {d}, p0 + d ≤ far → p0 < (lkS f far p0 d).2 ∧ (lkS f far p0 d).2 ≤ far
  | 0, _ => ⟨hf, Nat.le_refl _⟩
  | d + 1, h => by
    show p0 < (if _ then _ else _ : Nat × Nat).2 ∧ (if _ then _ else _ : Nat × Nat).2 ≤ far
    split
    · exact ⟨by dsimp only; omega, by dsimp only; omega⟩
    · exact lkS_2 hf (by omega)
section WM
variable {n rc : Nat} {as br : NF}
/-- the whole table of rests -/
def wW (n rc : Nat) (as br : NF) : NF := (tT n rc as br n).1
def fr (n rc x : Nat) : Nat := min (n + 1) (x + rc)
def Lk (n rc : Nat) (as br : NF) (x : Nat) : Nat × Nat := lkS (wW n rc as br) (fr n rc x) x (fr n rc x - x)
theorem tT_st {k x : Nat} (h : n - k < x) : ∀ d, (tT n rc as br (k + d)).1 x = (tT n rc as br k).1 x ∧ (tT n rc as br (k + d)).2 x = (tT n rc as br k).2 x
  | 0 => ⟨rfl, rfl⟩
  | d + 1 => by
    obtain ⟨h1, h2⟩ := tT_st h d
    constructor
    · show (if x = n - (k + d) then _ else _) = _
      rw [if_neg (by omega)]
      exact h1
    · show (if x = n - (k + d) then _ else _) = _
      rw [if_neg (by omega)]
      exact h2
theorem wW_at {k x : Nat} (hk : k ≤ n) (h : n - k < x) : (tT n rc as br k).1 x = wW n rc as br x := by
  have := (tT_st (n := n) (rc := rc) (as := as) (br := br) h (n - k)).1
  rw [show k + (n - k) = n by omega] at this
  exact this.symm
theorem wW_top : wW n rc as br (n + 1) = 0 := by
  rw [← wW_at (k := 0) (by omega) (by omega)]
  rfl
theorem wW_rec {x : Nat} (h1 : 1 ≤ x) (h2 : x ≤ n) : wW n rc as br x = wg (Lk n rc as br x).1 (as (x - 1)) (br (x - 1)) ∧ nx n rc as br x = (Lk n rc as br x).2 := by
  have e0 : n - (n - x) = x := by omega
  have cg : lkS (tT n rc as br (n - x)).1 (fr n rc x) x (fr n rc x - x) = Lk n rc as br x := lkS_c fun p q1 q2 => wW_at (by omega) (by omega)
  constructor
  · rw [← wW_at (k := n - x + 1) (by omega) (by omega)]
    show (if x = n - (n - x) then wg (lkS (tT n rc as br (n - x)).1 (min (n + 1) (n - (n - x) + rc)) (n - (n - x)) (min (n + 1) (n - (n - x) + rc) - (n - (n - x)))).1 (as (n - (n - x) - 1)) (br (n - (n - x) - 1)) else _) = _
    rw [e0, if_pos rfl]
    exact congrArg (fun q : Nat × Nat => wg q.1 (as (x - 1)) (br (x - 1))) cg
  · unfold nx
    rw [if_neg (by omega)]
    have := (tT_st (n := n) (rc := rc) (as := as) (br := br) (k := n - x + 1) (x := x) (by omega) (x - 1)).2
    rw [show n - x + 1 + (x - 1) = n by omega] at this
    rw [this]
    show (if x = n - (n - x) then (lkS (tT n rc as br (n - x)).1 (min (n + 1) (n - (n - x) + rc)) (n - (n - x)) (min (n + 1) (n - (n - x) + rc) - (n - (n - x)))).2 else _) = _
    rw [e0, if_pos rfl]
    exact congrArg (fun q : Nat × Nat => q.2) cg
theorem q0_Lk : q0 n rc as br = Lk n rc as br 0 := by
  unfold q0 Lk fr
  rw [Nat.zero_add, Nat.sub_zero]
  rfl
theorem w0_Lk : w0 n rc as br = (Lk n rc as br 0).1 := by unfold w0; rw [q0_Lk]
theorem nx_0 : nx n rc as br 0 = (Lk n rc as br 0).2 := by unfold nx; rw [if_pos rfl, q0_Lk]
theorem nx_Lk {x : Nat} (h : x ≤ n) : nx n rc as br x = (Lk n rc as br x).2 := by
  by_cases z : x = 0
  · subst z; exact nx_0
  · exact (wW_rec (by omega) h).2
theorem Lk_le {x : Nat} : (Lk n rc as br x).1 ≤ INF := lkS_le _ _ _ _
theorem wg_le {l a b : Nat} (hl : l ≤ INF) (ha : a ≤ 20) : wg l a b ≤ INF + 641 := by
  unfold wg
  generalize INF = I at *
  by_cases c : b ≠ 0
  · rw [if_pos c]; omega
  · rw [if_neg c]
    by_cases d : l < I
    · rw [if_pos d]; omega
    · rw [if_neg d]; omega
theorem wW_le {x : Nat} (ha : ∀ s, s < n → as s ≤ 20) (h1 : 1 ≤ x) (h2 : x ≤ n + 1) : wW n rc as br x ≤ INF + 641 := by
  by_cases z : x = n + 1
  · subst z; rw [wW_top]; exact Nat.zero_le _
  · rw [(wW_rec h1 (by omega)).1]
    exact wg_le Lk_le (ha _ (by omega))
theorem Lk_next {x : Nat} (hr : 1 ≤ rc) (h : x ≤ n) : x < (Lk n rc as br x).2 ∧ (Lk n rc as br x).2 ≤ fr n rc x := by
  have : x < fr n rc x := by unfold fr; omega
  exact lkS_2 this (by omega)
theorem nx_le {x : Nat} (hr : 1 ≤ rc) (h : x ≤ n) : x < nx n rc as br x ∧ nx n rc as br x ≤ n + 1 := by
  rw [nx_Lk h]
  have := Lk_next (as := as) (br := br) hr h
  have : fr n rc x ≤ n + 1 := by unfold fr; omega
  omega
/-- what a way weighs: at most 20 asked a step, one tread a step -/
theorem fin_b (ha : ∀ s, s < n → as s ≤ 20) (hn : n ≤ 18) : ∀ d x, n + 1 - x = d → x ≤ n + 1 → 1 ≤ x → wW n rc as br x < INF → wW n rc as br x % 32 ≤ d ∧ wW n rc as br x / 32 ≤ 20 * d := by
  intro d
  induction d using Nat.strongRecOn with
  | _ d ih =>
    intro x hd h1 h2 hw
    by_cases z : x = n + 1
    · subst z
      rw [wW_top]
      exact ⟨by omega, by omega⟩
    have e := (wW_rec (n := n) (rc := rc) (as := as) (br := br) h2 (by omega)).1
    have hl := Lk_le (n := n) (rc := rc) (as := as) (br := br) (x := x)
    have a20 := ha (x - 1) (by omega)
    rw [e] at hw ⊢
    unfold wg at hw ⊢
    by_cases b : br (x - 1) ≠ 0
    · rw [if_pos b] at hw
      exact absurd hw (Nat.lt_irrefl _)
    · rw [if_neg b] at hw ⊢
      by_cases l : (Lk n rc as br x).1 < INF
      · rw [if_pos l] at hw ⊢
        obtain ⟨g1, g2, g3⟩ := lkS_at (f := wW n rc as br) l
        have far : fr n rc x ≤ n + 1 := by unfold fr; omega
        have g1 : x < (Lk n rc as br x).2 := g1
        have g2 : (Lk n rc as br x).2 ≤ x + (fr n rc x - x) := g2
        have g3 : wW n rc as br (Lk n rc as br x).2 = (Lk n rc as br x).1 := g3
        have := ih (n + 1 - (Lk n rc as br x).2) (by omega) (Lk n rc as br x).2 rfl (by omega) (by omega) (by rw [g3]; exact l)
        rw [g3] at this
        generalize (Lk n rc as br x).1 = L at *
        generalize (Lk n rc as br x).2 = P at *
        generalize as (x - 1) = A at *
        obtain ⟨t1, t2⟩ := this
        refine ⟨by omega, by omega⟩
      · rw [if_neg l] at hw
        exact absurd hw l
theorem Lk_fin (ha : ∀ s, s < n → as s ≤ 20) (hn : n ≤ 18) {x : Nat} (hx : x ≤ n) (l : (Lk n rc as br x).1 < INF) : (Lk n rc as br x).1 % 32 ≤ n - x ∧ (Lk n rc as br x).1 / 32 ≤ 20 * (n - x) ∧ wW n rc as br (Lk n rc as br x).2 = (Lk n rc as br x).1 ∧ x < (Lk n rc as br x).2 ∧ (Lk n rc as br x).2 ≤ n + 1 := by
  obtain ⟨g1, g2, g3⟩ := lkS_at (f := wW n rc as br) l
  have far : fr n rc x ≤ n + 1 := by unfold fr; omega
  have g1 : x < (Lk n rc as br x).2 := g1
  have g2 : (Lk n rc as br x).2 ≤ x + (fr n rc x - x) := g2
  have g3 : wW n rc as br (Lk n rc as br x).2 = (Lk n rc as br x).1 := g3
  have := fin_b (rc := rc) (br := br) ha hn _ (Lk n rc as br x).2 rfl (by omega) (by omega) (by rw [g3]; exact l)
  rw [g3] at this
  generalize (Lk n rc as br x).1 = L at *
  generalize (Lk n rc as br x).2 = P at *
  exact ⟨by omega, by omega, g3, g1, by omega⟩
/-- a step's own weight -/
theorem w_fin (ha : ∀ s, s < n → as s ≤ 20) (hn : n ≤ 18) {x : Nat} (h1 : 1 ≤ x) (hx : x ≤ n) : (wW n rc as br x < INF ↔ br (x - 1) = 0 ∧ (Lk n rc as br x).1 < INF) ∧ (wW n rc as br x < INF → wW n rc as br x = (Lk n rc as br x).1 + (as (x - 1) * 32 + 1)) ∧ 1 ≤ wW n rc as br x := by
  have e := (wW_rec (n := n) (rc := rc) (as := as) (br := br) h1 hx).1
  have a20 := ha (x - 1) (by omega)
  have hf := Lk_fin (rc := rc) (br := br) ha hn hx
  have hl := Lk_le (n := n) (rc := rc) (as := as) (br := br) (x := x)
  have iI : INF = 1000000 := rfl
  rw [e]
  unfold wg
  by_cases b : br (x - 1) = 0
  · rw [if_neg (by omega)]
    by_cases l : (Lk n rc as br x).1 < INF
    · obtain ⟨f1, f2, -⟩ := hf l
      rw [if_pos l]
      refine ⟨⟨fun _ => ⟨b, l⟩, fun _ => ?_⟩, fun _ => rfl, by omega⟩
      omega
    · rw [if_neg l]
      exact ⟨⟨fun q => absurd q l, fun q => absurd q.2 l⟩, fun q => absurd q l, by omega⟩
  · rw [if_pos b]
    exact ⟨⟨fun q => absurd q (Nat.lt_irrefl _), fun q => absurd q.1 b⟩, fun q => absurd q (Nat.lt_irrefl _), by omega⟩
/-- the way from a place: what stands at each tread -/
theorem folw_len (ha : ∀ s, s < n → as s ≤ 20) (hn : n ≤ 18) (hr : 1 ≤ rc) : ∀ f p, 1 ≤ p → p ≤ n + 1 → n + 1 - p ≤ f → wW n rc as br p < INF → (folw n (nx n rc as br) f p).length = wW n rc as br p % 32 := by
  intro f
  induction f with
  | zero =>
    intro p h1 h2 h3 hw
    obtain rfl : p = n + 1 := by omega
    rw [wW_top]; rfl
  | succ f ih =>
    intro p h1 h2 h3 hw
    show (if 0 < p ∧ p < n + 1 then (p - 1) :: folw n (nx n rc as br) f (nx n rc as br p) else []).length = _
    by_cases z : p = n + 1
    · subst z
      rw [if_neg (by omega), wW_top]; rfl
    · rw [if_pos (by omega)]
      obtain ⟨k1, k2, -⟩ := w_fin (rc := rc) (br := br) ha hn h1 (show p ≤ n by omega)
      obtain ⟨-, l⟩ := k1.mp hw
      obtain ⟨f1, f2, f3, f4, f5⟩ := Lk_fin (rc := rc) (br := br) ha hn (show p ≤ n by omega) l
      rw [nx_Lk (by omega), List.length_cons, ih _ (by omega) f5 (by omega) (by rw [f3]; exact l), f3, k2 hw]
      omega
theorem path_len (ha : ∀ s, s < n → as s ≤ 20) (hn : n ≤ 18) (hr : 1 ≤ rc) (hw : w0 n rc as br < INF) : (path n rc as br).length = w0 n rc as br % 32 := by
  unfold path
  rw [if_pos hw]
  rw [w0_Lk] at hw ⊢
  obtain ⟨f1, f2, f3, f4, f5⟩ := Lk_fin (rc := rc) (br := br) ha hn (Nat.zero_le n) hw
  rw [nx_0, folw_len ha hn hr 18 _ (by omega) f5 (by omega) (by rw [f3]; exact hw), f3]
end WM
