/-! the reference reads a stair -/
section READ9B
variable {X : Nat × (Nat → Int32)} {M M0 : Mem} {Q : Option PV → Mem → Prop} {tp : NF} {n : Nat} {sd : NF}
theorem cv_2 {y : Nat} (h : y ≤ 4) : nI (cvT y) = 2 ↔ y = 1 := by
  have : cvT y ≤ 4 := cvT_le h
  rw [show (2 : Int32) = nI 2 from rfl, nI_eq (by omega) (by decide)]
  unfold cvT
  split <;> omega
theorem cv_3 {y : Nat} (h : y ≤ 4) : nI (cvT y) = 3 ↔ y = 2 := by
  have : cvT y ≤ 4 := cvT_le h
  rw [show (3 : Int32) = nI 3 from rfl, nI_eq (by omega) (by decide)]
  unfold cvT
  split <;> omega
theorem cv_4 {y : Nat} (h : y ≤ 4) : nI (cvT y) = 4 ↔ y = 3 := by
  have : cvT y ≤ 4 := cvT_le h
  rw [show (4 : Int32) = nI 4 from rfl, nI_eq (by omega) (by decide)]
  unfold cvT
  split <;> omega
theorem cv_1 {y : Nat} (h : y ≤ 4) : nI (cvT y) = 1 ↔ y = 0 := by
  have : cvT y ≤ 4 := cvT_le h
  rw [show (1 : Int32) = nI 1 from rfl, nI_eq (by omega) (by decide)]
  unfold cvT
  split <;> omega
/-- the name, packed -/
def nmV (tp : NF) (n p f : Nat) : Int64 := if f ≠ 0 then 0 else if tY tp n p = 1 ∧ tE tp n p - tS tp n p < 8 then nL (pkN (fun k => tp (tS tp n p + k)) (tE tp n p - tS tp n p)) else 0
theorem m_name {p f : Nat} (hn : n ≤ 400) (hb : ∀ k, k < n → tp k < 256) (hp : p ≤ n) (hf : f ≤ 3) (hk : Tk9 M tp n p f) (h : Q (some (pL (nmV tp n p f))) M) : TT X kX9_name 0 [some (pR (9, 0, 0)), none, none, none] [] M Q := by
  have le := tE_le (tp := tp) hp
  have t4 := tY_4 (tp := tp) (n := n) (p := p)
  have fin : ∀ b : Int64, (f = 0 → b = nmV tp n p f) → (¬ nI f = 0 → Q (some (pL 0)) M) ∧ (nI f = 0 → Q (some (pL b)) M) := fun b e => by
    by_cases c : f = 0
    · rw [e c]
      exact nr_t (by rw [c]; rfl) h
    · refine nr_f (nI_ne0 (by omega) (by omega)) ?_
      unfold nmV at h
      rw [if_pos c] at h
      exact h
  refine rX9_name_0 ?_
  rw [hk.2.2.2.1]
  by_cases c : tY tp n p = 1 ∧ tE tp n p - tS tp n p < 8
  rotate_left
  · refine rX9_name_7 ?_
    rw [hk.2.2.2.2.1, hk.2.2.1, hk.2.2.2.1, hk.2.2.2.2.2.1]
    have g := fin 0 (fun q => by unfold nmV; rw [if_neg (fun z => z q), if_neg c])
    refine ⟨fun _ => g, fun _ => ⟨fun _ => g, fun q => ⟨fun _ => g, fun q2 => absurd ?_ q2⟩⟩⟩
    rw [cv_2 t4] at q
    rw [pk_sub le.1]
    exact nI_le (a := 8) (by omega) (by omega)
  have L : ∀ d k, k + d = tE tp n p - tS tp n p → TT X kX9_name 7 [some (pR (9, 0, 0)), some (pL (nL (pkN (fun k => tp (tS tp n p + k)) k))), none, some (pI (nI (tS tp n p + k)))] [] M Q := by
    intro d
    induction d with
    | zero =>
      intro k hd
      refine rX9_name_7 ?_
      rw [hk.2.2.2.2.1, hk.2.2.1, hk.2.2.2.1, hk.2.2.2.2.2.1]
      refine br_t (nI_le (by omega) (by omega)) (fin _ fun q => ?_)
      unfold nmV
      rw [if_neg (fun z => z q), if_pos c, show k = tE tp n p - tS tp n p by omega]
    | succ d ih =>
      intro k hd
      refine rX9_name_7 ?_
      rw [hk.2.2.2.2.1, hk.2.2.1, hk.2.2.2.1, pk_sub le.1]
      have bt := hb (tS tp n p + k) (by omega)
      have p6 : pkN (fun k => tp (tS tp n p + k)) k < 2 ^ 48 := by
        have a := pkN_lt (t := fun k => tp (tS tp n p + k)) k (fun i hi => hb _ (by omega))
        have b : 256 ^ k ≤ 256 ^ 6 := Nat.pow_le_pow_right (by decide) (by omega)
        have e : (256 : Nat) ^ 6 = 2 ^ 48 := by decide
        omega
      refine br_f (nI_ge (by omega) (by omega)) <| nr_t ((cv_2 t4).mpr c.1) <| br_f (nI_ge (b := 8) c.2 (by decide)) ⟨vp_in_nI (by omega) (by decide), ?_⟩
      rw [clampI (by omega), hk.1.2 _ (by omega), nI_1, nL_i (by omega), nL_pk p6 bt]
      exact ih (k + 1) (by omega)
  exact L _ 0 (Nat.zero_add _)
theorem nm_let {p : Nat} (h : tY tp n p = 1) : ∀ k, k < tE tp n p - tS tp n p → 97 ≤ tp (tS tp n p + k) ∧ tp (tS tp n p + k) ≤ 122 := fun k hk => by
  obtain ⟨a, b, c⟩ := tkY_1 h
  have e : tE tp n p = rnT leB tp (n - tS tp n p) (tS tp n p) := c
  have := rnT_all (P := leB) (tp := tp) (n - tS tp n p) (tS tp n p) (tS tp n p + k) (by omega) (by omega)
  exact decide_eq_true_iff.mp this
theorem nm_b {p : Nat} (h : tY tp n p = 1) (h8 : tE tp n p - tS tp n p < 8) : pkN (fun k => tp (tS tp n p + k)) (tE tp n p - tS tp n p) < 2 ^ 63 := by
  have a := pkN_lt (t := fun k => tp (tS tp n p + k)) (tE tp n p - tS tp n p) (fun i hi => by have := nm_let h i hi; omega)
  have b : 256 ^ (tE tp n p - tS tp n p) ≤ 256 ^ 7 := Nat.pow_le_pow_right (by decide) (by omega)
  have e : (256 : Nat) ^ 7 = 2 ^ 56 := by decide
  omega
theorem nm_s {p f : Nat} (hb : ∀ k, k < n → tp k < 256) (hp : p ≤ n) : lg_cmp (nmV tp n p f) 1937007984 = 0 ↔ f = 0 ∧ isW tp n p 0 = true := by
  have le := tE_le (tp := tp) hp
  have q : ∀ k, k < tE tp n p - tS tp n p → tp (tS tp n p + k) < 2 ^ 31 := fun k hk => by have := hb (tS tp n p + k) (by omega); omega
  rw [lgc_eq, isW_iff]
  unfold nmV
  by_cases a : f = 0
  rotate_left
  · rw [if_pos a]
    exact ⟨fun z => absurd z (by decide +kernel), fun z => absurd z.1 a⟩
  rw [if_neg (fun z => z a)]
  by_cases c : tY tp n p = 1 ∧ tE tp n p - tS tp n p < 8
  rotate_left
  · rw [if_neg c]
    refine ⟨fun z => absurd z (by decide +kernel), fun z => absurd ⟨z.2.1, ?_⟩ c⟩
    rw [z.2.2.1]
    decide
  rw [if_pos c, show (1937007984 : Int64) = nL 1937007984 from rfl, nL_eq (nm_b c.1 c.2) (by decide), pk_s c.2 (nm_let c.1)]
  constructor
  · rintro ⟨e, e0, e1, e2, e3⟩
    refine ⟨a, c.1, e, fun k hk => ?_⟩
    have hk : k < 4 := hk
    rcases (show k = 0 ∨ k = 1 ∨ k = 2 ∨ k = 3 by omega) with rfl | rfl | rfl | rfl
    · rw [e0]; rfl
    · rw [e1]; rfl
    · rw [e2]; rfl
    · rw [e3]; rfl
  · rintro ⟨-, -, e, g⟩
    have e : tE tp n p - tS tp n p = 4 := e
    refine ⟨e, ?_, ?_, ?_, ?_⟩
    · exact (nI_eq (b := 115) (q 0 (by omega)) (by decide)).mp (g 0 (by decide))
    · exact (nI_eq (b := 116) (q 1 (by omega)) (by decide)).mp (g 1 (by decide))
    · exact (nI_eq (b := 101) (q 2 (by omega)) (by decide)).mp (g 2 (by decide))
    · exact (nI_eq (b := 112) (q 3 (by omega)) (by decide)).mp (g 3 (by decide))
theorem nm_w {p f : Nat} (hb : ∀ k, k < n → tp k < 256) (hp : p ≤ n) : lg_cmp (nmV tp n p f) 131260314510706 = 0 ↔ f = 0 ∧ isW tp n p 1 = true := by
  have le := tE_le (tp := tp) hp
  have q : ∀ k, k < tE tp n p - tS tp n p → tp (tS tp n p + k) < 2 ^ 31 := fun k hk => by have := hb (tS tp n p + k) (by omega); omega
  rw [lgc_eq, isW_iff]
  unfold nmV
  by_cases a : f = 0
  rotate_left
  · rw [if_pos a]
    exact ⟨fun z => absurd z (by decide +kernel), fun z => absurd z.1 a⟩
  rw [if_neg (fun z => z a)]
  by_cases c : tY tp n p = 1 ∧ tE tp n p - tS tp n p < 8
  rotate_left
  · rw [if_neg c]
    refine ⟨fun z => absurd z (by decide +kernel), fun z => absurd ⟨z.2.1, ?_⟩ c⟩
    rw [z.2.2.1]
    decide
  rw [if_pos c, show (131260314510706 : Int64) = nL 131260314510706 from rfl, nL_eq (nm_b c.1 c.2) (by decide), pk_w c.2 (nm_let c.1)]
  constructor
  · rintro ⟨e, e0, e1, e2, e3, e4, e5⟩
    refine ⟨a, c.1, e, fun k hk => ?_⟩
    have hk : k < 6 := hk
    rcases (show k = 0 ∨ k = 1 ∨ k = 2 ∨ k = 3 ∨ k = 4 ∨ k = 5 by omega) with rfl | rfl | rfl | rfl | rfl | rfl
    · rw [e0]; rfl
    · rw [e1]; rfl
    · rw [e2]; rfl
    · rw [e3]; rfl
    · rw [e4]; rfl
    · rw [e5]; rfl
  · rintro ⟨-, -, e, g⟩
    have e : tE tp n p - tS tp n p = 6 := e
    refine ⟨e, ?_, ?_, ?_, ?_, ?_, ?_⟩
    · exact (nI_eq (b := 119) (q 0 (by omega)) (by decide)).mp (g 0 (by decide))
    · exact (nI_eq (b := 97) (q 1 (by omega)) (by decide)).mp (g 1 (by decide))
    · exact (nI_eq (b := 108) (q 2 (by omega)) (by decide)).mp (g 2 (by decide))
    · exact (nI_eq (b := 107) (q 3 (by omega)) (by decide)).mp (g 3 (by decide))
    · exact (nI_eq (b := 101) (q 4 (by omega)) (by decide)).mp (g 4 (by decide))
    · exact (nI_eq (b := 114) (q 5 (by omega)) (by decide)).mp (g 5 (by decide))
theorem fig_48 {p : Nat} (h : tY tp n p = 2) : ∀ k, k < tE tp n p - tS tp n p → 48 ≤ tp (tS tp n p + k) ∧ tp (tS tp n p + k) ≤ 57 := fun k hk => by
  obtain ⟨a, b, c, d, -⟩ := tkY_2 h
  have e : tE tp n p = rnT fiB tp (n - tS tp n p) (tS tp n p) := d
  have := rnT_all (P := fiB) (tp := tp) (n - tS tp n p) (tS tp n p) (tS tp n p + k) (by omega) (by omega)
  exact decide_eq_true_iff.mp this
theorem tV_lt {p : Nat} (h : tY tp n p = 2) : tV tp n p < 1000 := by
  have g : tE tp n p - tS tp n p ≤ 3 := (tkY_2 h).2.2.2.2
  have b := fig_48 h
  have e0 : valT tp (tS tp n p) 0 = 0 := rfl
  have e1 : valT tp (tS tp n p) 1 = valT tp (tS tp n p) 0 * 10 + (tp (tS tp n p + 0) - 48) := rfl
  have e2 : valT tp (tS tp n p) 2 = valT tp (tS tp n p) 1 * 10 + (tp (tS tp n p + 1) - 48) := rfl
  have e3 : valT tp (tS tp n p) 3 = valT tp (tS tp n p) 2 * 10 + (tp (tS tp n p + 2) - 48) := rfl
  show valT tp (tS tp n p) (tE tp n p - tS tp n p) < 1000
  generalize tE tp n p - tS tp n p = L at g b
  rcases (show L = 0 ∨ L = 1 ∨ L = 2 ∨ L = 3 by omega) with rfl | rfl | rfl | rfl
  · omega
  · have b0 := b 0 (by decide); omega
  · have b0 := b 0 (by decide); have b1 := b 1 (by decide); omega
  · have b0 := b 0 (by decide); have b1 := b 1 (by decide); have b2 := b 2 (by decide); omega
theorem m_figures {p f : Nat} (hn : n ≤ 400) (hp : p ≤ n) (hk : Tk9 M tp n p f) (h1 : tY tp n p = 2 → Q (some (pI (nI (tV tp n p)))) M) (h2 : ¬ tY tp n p = 2 → Q (some (pI 0)) M) : TT X kX9_figures 0 [some (pR (9, 0, 0)), none, none] [] M Q := by
  have le := tE_le (tp := tp) hp
  have t4 := tY_4 (tp := tp) (n := n) (p := p)
  refine rX9_figures_0 ?_
  rw [hk.2.2.2.1]
  by_cases c : tY tp n p = 2
  rotate_left
  · refine rX9_figures_7 ?_
    rw [hk.2.2.2.2.1, hk.2.2.1]
    exact ⟨fun _ => h2 c, fun _ => nr_f (fun q => c ((cv_3 t4).mp q)) (h2 c)⟩
  have L : ∀ d k, k + d = tE tp n p - tS tp n p → TT X kX9_figures 7 [some (pR (9, 0, 0)), some (pI (nI (valT tp (tS tp n p) k))), some (pI (nI (tS tp n p + k)))] [] M Q := by
    intro d
    induction d with
    | zero =>
      intro k hd
      refine rX9_figures_7 ?_
      rw [hk.2.2.2.2.1]
      refine br_t (nI_le (by omega) (by omega)) ?_
      have := h1 c
      rwa [show tV tp n p = valT tp (tS tp n p) k by unfold tV; rw [show k = tE tp n p - tS tp n p by omega]] at this
    | succ d ih =>
      intro k hd
      refine rX9_figures_7 ?_
      rw [hk.2.2.2.2.1, hk.2.2.1]
      have b48 := fig_48 c k (by omega)
      refine br_f (nI_ge (by omega) (by omega)) <| nr_t ((cv_3 t4).mpr c) ⟨vp_in_nI (by omega) (by decide), ?_⟩
      rw [clampI (by omega), hk.1.2 _ (by omega), nI_1, show (10 : Int32) = nI 10 from rfl, pk_mul, nI_add, show (48 : Int32) = nI 48 from rfl, pk_sub (by omega)]
      have e : 10 * valT tp (tS tp n p) k + tp (tS tp n p + k) - 48 = valT tp (tS tp n p) (k + 1) := by
        show _ = valT tp (tS tp n p) k * 10 + (tp (tS tp n p + k) - 48)
        omega
      rw [e]
      exact ih (k + 1) (by omega)
  exact L _ 0 (Nat.zero_add _)
theorem m_number {lo hi : Nat} {q : Nat × Nat} (hn : n ≤ 400) (hb : ∀ k, k < n → tp k < 256) (hq : q.1 ≤ n ∧ q.2 ≤ 3) (hlo : lo < 1000) (hhi : hi < 1000) (hk : Tk9 M tp n q.1 q.2) (h : ∀ M' v, On9 M M' → Tk9 M' tp n (pNum tp n lo hi q).1 (pNum tp n lo hi q).2 → ((pNum tp n lo hi q).2 = 0 → v = nI (tV tp n q.1)) → Q (some (pI v)) M') : TT X kX9_number 0 [some (pR (9, 0, 0)), some (pI (nI lo)), some (pI (nI hi)), none] [] M Q := by
  have t4 := tY_4 (tp := tp) (n := n) (p := q.1)
  refine rX9_number_0 ?_
  rw [hk.2.2.2.2.2.1]
  unfold pNum at h
  by_cases a : q.2 = 0
  rotate_left
  · rw [if_pos a] at h
    exact br_f (nI_ge (a := 0) (by omega) (by omega)) (h _ _ on9_r hk (fun z => absurd z a))
  rw [if_neg (fun z => z a)] at h
  refine br_t (nI_le (b := 0) (by omega) (by decide)) ?_
  refine m_figures hn hq.1 hk (fun b => ?_) (fun b => ?_)
  rotate_left
  · rw [if_pos b] at h
    show _ ∧ _
    rw [hk.2.2.1]
    have b3 : ¬ nI (cvT (tY tp n q.1)) = 3 := fun z => b ((cv_3 t4).mp z)
    refine nr_f b3 <| nr_f b3 <| m_must0 hq.2 hk fun M' o k' => h _ _ o ?_ (fun z => absurd z (by show ¬ 1 = 0; decide))
    rw [if_pos a] at k'
    exact k'
  rw [if_neg (fun z => z b)] at h
  have vb := tV_lt b
  have b3 : nI (cvT (tY tp n q.1)) = 3 := (cv_3 t4).mpr b
  show _ ∧ _
  rw [hk.2.2.1]
  refine nr_t b3 <| s_in ?_
  by_cases c : lo ≤ tV tp n q.1 ∧ tV tp n q.1 ≤ hi
  · rw [if_pos c] at h
    refine bn_t (by rw [i64, i64, i64, nI_int (by omega), nI_int (by omega), nI_int (by omega)]; omega) ?_
    rw [hk.2.2.1]
    refine nr_t b3 <| m_must1 hn hb hq.1 hq.2 hk fun M' o k' => h _ _ o ?_ (fun _ => rfl)
    rw [if_pos a, a] at k'
    exact k'
  · rw [if_neg c] at h
    refine bn_f (by rw [i64, i64, i64, nI_int (by omega), nI_int (by omega), nI_int (by omega)]; omega) ?_
    refine m_bad (k := 2) (by decide) hq.2 hk fun M1 o1 k1 => ?_
    rw [if_pos a] at k1
    show _ ∧ _
    rw [k1.2.2.1]
    refine nr_t b3 <| m_must1 hn hb hq.1 (by decide) k1 fun M' o k' => h _ _ (on9_t o1 o) ?_ (fun z => absurd z (by show ¬ 2 = 0; decide))
    rw [if_neg (by decide)] at k'
    exact k'
theorem m_sign {q : Nat × Nat} (hn : n ≤ 400) (hb : ∀ k, k < n → tp k < 256) (hq : q.1 ≤ n ∧ q.2 ≤ 3) (hk : Tk9 M tp n q.1 q.2) (h : ∀ M', On9 M M' → Tk9 M' tp n (pSig tp n q).1 (pSig tp n q).2 → Q none M') : TT X kX9_mustEnd 0 [some (pR (9, 0, 0))] [] M Q := by
  have t4 := tY_4 (tp := tp) (n := n) (p := q.1)
  refine rX9_mustEnd_0 ?_
  rw [hk.2.2.2.2.2.1]
  unfold pSig at h
  by_cases a : q.2 = 0
  rotate_left
  · rw [if_pos a] at h
    exact nr_f (nI_ne0 (by omega) (by omega)) (h _ on9_r hk)
  rw [if_neg (fun z => z a)] at h
  refine nr_t (by rw [a]; rfl) ?_
  rw [hk.2.2.1]
  by_cases b : tY tp n q.1 = 3
  · rw [if_neg (fun z => z b)] at h
    refine nr_t ((cv_4 t4).mpr b) <| m_must1 hn hb hq.1 hq.2 hk fun M' o k' => h _ o ?_
    rw [if_pos a, a] at k'
    exact k'
  · rw [if_pos b] at h
    refine nr_f (fun z => b ((cv_4 t4).mp z)) <| m_must0 hq.2 hk fun M' o k' => h _ o ?_
    rw [if_pos a] at k'
    exact k'
theorem m_begins {p x r : Nat} (hn : n ≤ 400) (hb : ∀ k, k < n → tp k < 256) (hp : p ≤ n) (hx : x < 80) (hr : sd x ≤ r) (hr2 : r < 1000) (hF : M 9 0 7 x = nI (sd x)) (hk : Tk9 M tp n p 0) (h : ∀ M', On9 M M' → Tk9 M' tp n (pWd tp n (r ≤ sd x) p).1 (pWd tp n (r ≤ sd x) p).2 → Q none M') : TT X kX9_begins 0 [some (pR (9, 0, 0)), some (pI (nI x)), some (pI (nI r))] [] M Q := by
  refine rX9_begins_0 ⟨vp_in_nI hx (by decide), ?_⟩
  rw [clampI (by omega), hF]
  unfold pWd at h
  by_cases c : r ≤ sd x
  · rw [if_pos c] at h
    refine nr_t (by rw [show sd x = r by omega]) <| m_bad (k := 3) (by decide) (by decide) hk fun M1 o1 k1 => ?_
    rw [if_pos rfl] at k1
    refine m_must1 hn hb hp (by decide) k1 fun M' o k' => h _ (on9_t o1 o) ?_
    rw [if_neg (by decide)] at k'
    exact k'
  · rw [if_neg c] at h
    refine nr_f (fun z => c (by have := (nI_eq (by omega) (by omega)).mp z; omega)) <| m_must1 hn hb hp (by decide) hk fun M' o k' => h _ o ?_
    rw [if_pos rfl] at k'
    exact k'
/-- the row of the stair that is being read -/
def Fr9 (M : Mem) (sd : NF) : Prop := ∀ x, x < 80 → M 9 0 7 x = nI (sd x)
theorem fr9_o {M' : Mem} (o : On9 M M') (h : Fr9 M sd) : Fr9 M' sd := fun x hx => by rw [o.2.1 7 (by decide)]; exact h x hx
def On97 (M M' : Mem) : Prop := (∀ c i, ¬ (c = 9 ∧ i = 0) → M' c i = M c i) ∧ (∀ p, p ≠ 0 → p ≠ 7 → M' 9 0 p = M 9 0 p) ∧ ∀ x, x < 14 ∨ 20 ≤ x → M' 9 0 0 x = M 9 0 0 x
theorem on97_r : On97 M M := ⟨fun _ _ _ => rfl, fun _ _ _ => rfl, fun _ _ => rfl⟩
theorem on97_t {M1 M2 : Mem} (a : On97 M M1) (b : On97 M1 M2) : On97 M M2 := ⟨fun c i h => (b.1 c i h).trans (a.1 c i h), fun p h g => (b.2.1 p h g).trans (a.2.1 p h g), fun x h => (b.2.2 x h).trans (a.2.2 x h)⟩
theorem on97_9 {M1 : Mem} (a : On9 M M1) : On97 M M1 := ⟨a.1, fun p h _ => a.2.1 p h, a.2.2⟩
theorem on97_m {x : Nat} {v : Int32} : On97 M (mset M 9 0 7 x v) := ⟨fun c i h => mset_c2 h, fun p _ g => mset_c3 (by omega), fun y _ => by rw [mset_c3 (by decide)]⟩
theorem tk9_m {x p f : Nat} {v : Int32} (h : Tk9 M tp n p f) : Tk9 (mset M 9 0 7 x v) tp n p f := by
  unfold Tk9
  have e0 : (mset M 9 0 7 x v) 9 0 0 = M 9 0 0 := mset_c3 (by decide)
  have e1 : (mset M 9 0 7 x v) 9 0 11 = M 9 0 11 := mset_c3 (by decide)
  rw [e0, e1]
  exact h
theorem fr9_m {x : Nat} {v : Nat} (h : Fr9 M sd) : Fr9 (mset M 9 0 7 x (nI v)) (fun y => if y = x then v else sd y) := fun y hy => by
  rw [mset_self, upd_at]
  dsimp only
  by_cases c : y = x
  · rw [if_pos c, if_pos c]
  · rw [if_neg c, if_neg c]
    exact h y hy
theorem fr9_c {a b : NF} (h : Fr9 M a) (e : ∀ x, x < 80 → a x = b x) : Fr9 M b := fun x hx => by rw [h x hx, e x hx]
theorem m_readStep {p : Nat} (hn : n ≤ 400) (hb : ∀ k, k < n → tp k < 256) (hp : p ≤ n) (hv : SV sd) (hF : Fr9 M sd) (hk : Tk9 M tp n p 0) (h : ∀ M', On97 M M' → Tk9 M' tp n (pStp tp n p sd).1.1 (pStp tp n p sd).1.2 → Fr9 M' (pStp tp n p sd).2 → Q none M') : TT X kX9_readStep 0 [some (pR (9, 0, 0)), none, none] [] M Q := by
  obtain ⟨l1, l2, l3, l4⟩ := st_le (tp := tp) (sd := sd) hp
  have l0 := hv.1
  refine rX9_readStep_0 <| m_begins (x := 0) (r := 18) (sd := sd) hn hb hp (by decide) l0 (by decide) (hF 0 (by decide)) hk fun M1 o1 k1 => ?_
  refine m_number (lo := 0) (hi := 4) (q := st1 tp n p sd) hn hb l1 (by decide) (by decide) k1 fun M3 v4 o3 k3 e4 => ?_
  refine m_number (lo := 0) (hi := 20) (q := st2 tp n p sd) hn hb l2 (by decide) (by decide) k3 fun M5 v6 o5 k5 e6 => ?_
  refine m_sign (q := st3 tp n p sd) hn hb l3 k5 fun M7 o7 k7 => ?_
  have k7 : Tk9 M7 tp n (st4 tp n p sd).1 (st4 tp n p sd).2 := k7
  have oo := on9_t (on9_t (on9_t o1 o3) o5) o7
  have f7 := fr9_o oo hF
  show _ ∧ _
  rw [k7.2.2.2.2.2.1]
  unfold pStp at h
  by_cases c : (st4 tp n p sd).2 = 0
  rotate_left
  · rw [if_neg c] at h
    exact nr_f (nI_ne0 (by omega) (by omega)) (h M7 (on97_9 oo) k7 f7)
  obtain ⟨g1, g2, g3, g4, g5⟩ := st_ok c
  rw [if_pos c] at h
  have e4 := e4 g4
  have e6 := e6 g5
  subst e4 e6
  refine nr_t (by rw [c]; rfl) ?_
  have i1 : (2 + 3 * nI (sd 0) : Int32) = nI (2 + 3 * sd 0) := by rw [show (2 : Int32) = nI 2 from rfl, show (3 : Int32) = nI 3 from rfl, pk_mul, nI_add]
  have i2 : (nI (2 + 3 * sd 0) + 1 : Int32) = nI (3 + 3 * sd 0) := by rw [nI_1]; congr 1; omega
  have r1 : ∀ (M : Mem) v, (mset M 9 0 7 (2 + 3 * sd 0) v) 9 0 7 0 = M 9 0 7 0 := fun M v => mset_c4 (by simp; omega)
  have r2 : ∀ (M : Mem) v, (mset M 9 0 7 (3 + 3 * sd 0) v) 9 0 7 0 = M 9 0 7 0 := fun M v => mset_c4 (by simp; omega)
  have c1 : Int32.toNatClampNeg (nI (2 + 3 * sd 0)) = 2 + 3 * sd 0 := clampI (by omega)
  have c2 : Int32.toNatClampNeg (nI (3 + 3 * sd 0)) = 3 + 3 * sd 0 := clampI (by omega)
  have z7 := f7 0 (by decide)
  simp only [z7, i1, c1, r1, i2, c2, r2, nI_1]
  refine ⟨vp_in_nI (by omega) (by decide), vp_in_nI (by omega) (by decide), h _ (on97_t (on97_9 oo) (on97_t (on97_t on97_m on97_m) on97_m)) (tk9_m (tk9_m (tk9_m k7))) (fr9_c (fr9_m (fr9_m (fr9_m f7))) fun x hx => ?_)⟩
  dsimp only
  unfold addS
  by_cases y0 : x = 0
  · rw [if_pos y0, if_pos y0]
  · rw [if_neg y0, if_neg y0]
    by_cases y1 : x = 3 + 3 * sd 0
    · rw [if_pos y1, if_neg (by omega), if_pos y1]
    · rw [if_neg y1]
      by_cases y2 : x = 2 + 3 * sd 0
      · rw [if_pos y2, if_pos y2]
      · rw [if_neg y2, if_neg y2, if_neg y1]
theorem m_readWalker {p : Nat} (hn : n ≤ 400) (hb : ∀ k, k < n → tp k < 256) (hp : p ≤ n) (hv : SV sd) (hF : Fr9 M sd) (hk : Tk9 M tp n p 0) (h : ∀ M', On97 M M' → Tk9 M' tp n (pWlk tp n p sd).1.1 (pWlk tp n p sd).1.2 → Fr9 M' (pWlk tp n p sd).2 → Q none M') : TT X kX9_readWalker 0 [some (pR (9, 0, 0)), none, none, none, none, none] [] M Q := by
  obtain ⟨l1, l2, l3, l4, l5, l6⟩ := wk_le (tp := tp) (sd := sd) hp
  have l0 := hv.2.1
  refine rX9_readWalker_0 <| m_begins (x := 1) (r := 6) (sd := sd) hn hb hp (by decide) l0 (by decide) (hF 1 (by decide)) hk fun M1 o1 k1 => ?_
  refine m_number (lo := 1) (hi := 3) (q := wk1 tp n p sd) hn hb l1 (by decide) (by decide) k1 fun M3 v4 o3 k3 e4 => ?_
  refine m_number (lo := 0) (hi := 2) (q := wk2 tp n p sd) hn hb l2 (by decide) (by decide) k3 fun M5 v6 o5 k5 e6 => ?_
  refine m_number (lo := 0) (hi := 200) (q := wk3 tp n p sd) hn hb l3 (by decide) (by decide) k5 fun M7 v8 o7 k7 e8 => ?_
  refine m_number (lo := 1) (hi := 20) (q := wk4 tp n p sd) hn hb l4 (by decide) (by decide) k7 fun M9 v10 o9 k9 e10 => ?_
  refine m_sign (q := wk5 tp n p sd) hn hb l5 k9 fun M11 o11 k11 => ?_
  have k11 : Tk9 M11 tp n (wk6 tp n p sd).1 (wk6 tp n p sd).2 := k11
  have oo := on9_t (on9_t (on9_t (on9_t (on9_t o1 o3) o5) o7) o9) o11
  have f11 := fr9_o oo hF
  show _ ∧ _
  rw [k11.2.2.2.2.2.1]
  unfold pWlk at h
  by_cases c : (wk6 tp n p sd).2 = 0
  rotate_left
  · rw [if_neg c] at h
    exact nr_f (nI_ne0 (by omega) (by omega)) (h M11 (on97_9 oo) k11 f11)
  obtain ⟨g1, -, -, -, -, g2, g3, g4, g5⟩ := wk_ok c
  rw [if_pos c] at h
  have e4 := e4 g2
  have e6 := e6 g3
  have e8 := e8 g4
  have e10 := e10 g5
  subst e4 e6 e8 e10
  refine nr_t (by rw [c]; rfl) ?_
  have i0 : (56 + 4 * nI (sd 1) : Int32) = nI (56 + 4 * sd 1) := by rw [show (56 : Int32) = nI 56 from rfl, show (4 : Int32) = nI 4 from rfl, pk_mul, nI_add]
  have i1 : (nI (56 + 4 * sd 1) + 1 : Int32) = nI (57 + 4 * sd 1) := by rw [nI_1]; congr 1; omega
  have i2 : (nI (56 + 4 * sd 1) + 2 : Int32) = nI (58 + 4 * sd 1) := by rw [show (2 : Int32) = nI 2 from rfl, nI_add]; congr 1; omega
  have i3 : (nI (56 + 4 * sd 1) + 3 : Int32) = nI (59 + 4 * sd 1) := by rw [show (3 : Int32) = nI 3 from rfl, nI_add]; congr 1; omega
  have r : ∀ (M : Mem) x v, 56 ≤ x → (mset M 9 0 7 x v) 9 0 7 1 = M 9 0 7 1 := fun M x v hx => mset_c4 (by simp; omega)
  have r0 : ∀ (M : Mem) v, (mset M 9 0 7 (56 + 4 * sd 1) v) 9 0 7 1 = M 9 0 7 1 := fun M v => r M _ v (by omega)
  have r1 : ∀ (M : Mem) v, (mset M 9 0 7 (57 + 4 * sd 1) v) 9 0 7 1 = M 9 0 7 1 := fun M v => r M _ v (by omega)
  have r2 : ∀ (M : Mem) v, (mset M 9 0 7 (58 + 4 * sd 1) v) 9 0 7 1 = M 9 0 7 1 := fun M v => r M _ v (by omega)
  have r3 : ∀ (M : Mem) v, (mset M 9 0 7 (59 + 4 * sd 1) v) 9 0 7 1 = M 9 0 7 1 := fun M v => r M _ v (by omega)
  have c0 : Int32.toNatClampNeg (nI (56 + 4 * sd 1)) = 56 + 4 * sd 1 := clampI (by omega)
  have c1 : Int32.toNatClampNeg (nI (57 + 4 * sd 1)) = 57 + 4 * sd 1 := clampI (by omega)
  have c2 : Int32.toNatClampNeg (nI (58 + 4 * sd 1)) = 58 + 4 * sd 1 := clampI (by omega)
  have c3 : Int32.toNatClampNeg (nI (59 + 4 * sd 1)) = 59 + 4 * sd 1 := clampI (by omega)
  have z11 := f11 1 (by decide)
  simp only [z11, i0, i1, i2, i3, c0, c1, c2, c3, r0, r1, r2, r3, nI_1]
  refine ⟨vp_in_nI (by omega) (by decide), vp_in_nI (by omega) (by decide), vp_in_nI (by omega) (by decide), vp_in_nI (by omega) (by decide), h _ (on97_t (on97_9 oo) (on97_t (on97_t (on97_t (on97_t on97_m on97_m) on97_m) on97_m) on97_m)) (tk9_m (tk9_m (tk9_m (tk9_m (tk9_m k11))))) (fr9_c (fr9_m (fr9_m (fr9_m (fr9_m (fr9_m f11))))) fun x hx => ?_)⟩
  dsimp only
  unfold addW
  by_cases y0 : x = 1
  · rw [if_pos y0, if_pos y0]
  · rw [if_neg y0, if_neg y0]
    by_cases y1 : x = 59 + 4 * sd 1
    · rw [if_pos y1, if_neg (by omega), if_neg (by omega), if_neg (by omega), if_pos y1]
    · rw [if_neg y1]
      by_cases y2 : x = 58 + 4 * sd 1
      · rw [if_pos y2, if_neg (by omega), if_neg (by omega), if_pos y2]
      · rw [if_neg y2]
        by_cases y3 : x = 57 + 4 * sd 1
        · rw [if_pos y3, if_neg (by omega), if_pos y3]
        · rw [if_neg y3]
          by_cases y4 : x = 56 + 4 * sd 1
          · rw [if_pos y4, if_pos y4]
          · rw [if_neg y4, if_neg y4, if_neg y3, if_neg y2, if_neg y1]
end READ9B
