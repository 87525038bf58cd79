/-! the tape read: the class -/
section READ4
variable {X : Nat × (Nat → Int32)} {M M0 : Mem} {Q : Option PV → Mem → Prop} {tp : NF} {n : Nat}
def On4 (M M' : Mem) : Prop := ∀ c i, ¬ (c = 4 ∧ i = 0) → M' c i = M c i
theorem on4_r : On4 M M := fun _ _ _ => rfl
theorem on4_t {M1 M2 : Mem} (a : On4 M M1) (b : On4 M1 M2) : On4 M M2 := fun c i h => (b c i h).trans (a c i h)
/-- the tape of the reader, and its five numbers -/
def Y4 (M0 M : Mem) (tp : NF) (n : Nat) (a s t v f : Int32) : Prop := On4 M0 M ∧ (M 4 0 0 1 = nI n ∧ ∀ k, k < n → M 4 0 1 k = nI (tp k)) ∧ M 4 0 0 2 = a ∧ M 4 0 0 3 = s ∧ M 4 0 0 4 = t ∧ M 4 0 0 5 = v ∧ M 4 0 0 6 = f
theorem y4_m {a s t v f w : Int32} {x : Nat} (h : Y4 M0 M tp n a s t v f) (hx : x = 2 ∨ x = 3 ∨ x = 4 ∨ x = 5 ∨ x = 6) : Y4 M0 (mset M 4 0 0 x w) tp n (if x = 2 then w else a) (if x = 3 then w else s) (if x = 4 then w else t) (if x = 5 then w else v) (if x = 6 then w else f) := by
  obtain ⟨h0, ⟨h1, h2⟩, h3, h4, h5, h6, h7⟩ := h
  have r : ∀ y, (mset M 4 0 0 x w) 4 0 0 y = if x = y then w else M 4 0 0 y := fun y => by
    by_cases c : x = y
    · subst c; rw [mset_at, if_pos rfl]
    · rw [mset_c4 (by simp; omega), if_neg c]
  refine ⟨fun c i g => by rw [mset_c2 g]; exact h0 c i g, ⟨by rw [r, if_neg (by omega)]; exact h1, fun k hk => by rw [mset_c3 (by decide)]; exact h2 k hk⟩, ?_, ?_, ?_, ?_, ?_⟩
  · rw [r, h3]
  · rw [r, h4]
  · rw [r, h5]
  · rw [r, h6]
  · rw [r, h7]
theorem y4_2 {a s t v f w : Int32} (h : Y4 M0 M tp n a s t v f) : Y4 M0 (mset M 4 0 0 2 w) tp n w s t v f := y4_m (x := 2) h (by decide)
theorem y4_3 {a s t v f w : Int32} (h : Y4 M0 M tp n a s t v f) : Y4 M0 (mset M 4 0 0 3 w) tp n a w t v f := y4_m (x := 3) h (by decide)
theorem y4_4 {a s t v f w : Int32} (h : Y4 M0 M tp n a s t v f) : Y4 M0 (mset M 4 0 0 4 w) tp n a s w v f := y4_m (x := 4) h (by decide)
theorem y4_5 {a s t v f w : Int32} (h : Y4 M0 M tp n a s t v f) : Y4 M0 (mset M 4 0 0 5 w) tp n a s t w f := y4_m (x := 5) h (by decide)
theorem y4_6 {a s t v f w : Int32} (h : Y4 M0 M tp n a s t v f) : Y4 M0 (mset M 4 0 0 6 w) tp n a s t v w := y4_m (x := 6) h (by decide)
theorem c_byteAt {a : Nat} {a1 s t v f : Int32} (hY : Y4 M0 M tp n a1 s t v f) (hn : n ≤ 400) (ha : a < n) (h : Q (some (pI (nI (tp a)))) M) : TT X kX4_byteAt 0 [some (pR (4, 0, 0)), some (pI (nI a))] [] M Q := by
  refine rX4_byteAt_0 <| br_f (nI_pos (by omega)) ?_
  rw [hY.2.1.1, clampI (by omega), hY.2.1.2 a ha]
  exact br_f (nI_ge ha (by omega)) ⟨vp_in_nI (by omega) (by decide), h⟩
theorem c_byteAt_e {a : Nat} {a1 s t v f : Int32} (hY : Y4 M0 M tp n a1 s t v f) (ha : n ≤ a) (hb : a < 2 ^ 31) (h : Q (some (pI (-1))) M) : TT X kX4_byteAt 0 [some (pR (4, 0, 0)), some (pI (nI a))] [] M Q := by
  refine rX4_byteAt_0 <| br_f (nI_pos hb) ?_
  rw [hY.2.1.1]
  exact br_t (nI_le ha hb) h
theorem c_blank {c : Nat} (hc : c < 256) (h : Q (some (pI (bI (blB c = true)))) M) : TT X kX4_isBlank 0 [some (pI (nI c))] [] M Q := by
  have e1 : nI c = 32 ↔ c = 32 := nI_eq (b := 32) (by omega) (by decide)
  have e2 : nI c = 10 ↔ c = 10 := nI_eq (b := 10) (by omega) (by decide)
  have eb : blB c = true ↔ c = 32 ∨ c = 10 := decide_eq_true_iff
  refine rX4_isBlank_0 ⟨fun z => ?_, fun z => ⟨fun y => ?_, fun y => ?_⟩⟩
  · rwa [bI_t (eb.mpr (Or.inl (e1.mp z)))] at h
  · rwa [bI_f (fun q => (eb.mp q).elim (fun g => z (e1.mpr g)) (fun g => y (e2.mpr g)))] at h
  · rwa [bI_t (eb.mpr (Or.inr (e2.mp y)))] at h
theorem lt_nI {a b : Nat} (ha : a < 2 ^ 31) (hb : b < 2 ^ 31) : nI a < nI b ↔ a < b := by
  rw [i32_lt, nI_int ha, nI_int hb]
  omega
theorem c_letter {c : Nat} (hc : c < 256) (h : Q (some (pI (bI (leB c = true)))) M) : TT X kX4_isLetter 0 [some (pI (nI c))] [] M Q := by
  have e1 : nI c < 97 ↔ c < 97 := lt_nI (b := 97) (by omega) (by decide)
  have e2 : 122 < nI c ↔ 122 < c := lt_nI (a := 122) (by decide) (by omega)
  have eb : leB c = true ↔ 97 ≤ c ∧ c ≤ 122 := decide_eq_true_iff
  refine rX4_isLetter_0 ⟨fun z => ?_, fun z => ⟨fun y => ?_, fun y => ?_⟩⟩
  · rw [e1] at z
    rwa [bI_f (by rw [eb]; omega)] at h
  · rw [e2] at y
    rwa [bI_f (by rw [eb]; omega)] at h
  · rw [e1] at z
    rw [e2] at y
    rwa [bI_t (by rw [eb]; omega)] at h
theorem c_figure {c : Nat} (hc : c < 256) (h : Q (some (pI (bI (fiB c = true)))) M) : TT X kX4_isFigure 0 [some (pI (nI c))] [] M Q := by
  have e1 : nI c < 48 ↔ c < 48 := lt_nI (b := 48) (by omega) (by decide)
  have e2 : 57 < nI c ↔ 57 < c := lt_nI (a := 57) (by decide) (by omega)
  have eb : fiB c = true ↔ 48 ≤ c ∧ c ≤ 57 := decide_eq_true_iff
  refine rX4_isFigure_0 ⟨fun z => ?_, fun z => ⟨fun y => ?_, fun y => ?_⟩⟩
  · rw [e1] at z
    rwa [bI_f (by rw [eb]; omega)] at h
  · rw [e2] at y
    rwa [bI_f (by rw [eb]; omega)] at h
  · rw [e1] at z
    rw [e2] at y
    rwa [bI_t (by rw [eb]; omega)] at h
theorem c_letters (hn : n ≤ 400) (hb : ∀ k, k < n → tp k < 256) {s t v f : Int32} : ∀ d a, a + d = n → ∀ M, Y4 M0 M tp n (nI a) s t v f → (∀ M', Y4 M0 M' tp n (nI (rnT leB tp d a)) s 1 v f → Q none M') → TT X kX4_passLetters 0 [some (pR (4, 0, 0))] [] M Q := by
  intro d
  induction d with
  | zero =>
    intro a ha M hY h
    refine rX4_passLetters_0 <| br_t ?_ (h _ (y4_4 hY))
    rw [hY.2.1.1, hY.2.2.1]
    exact nI_le (by omega) (by omega)
  | succ d ih =>
    intro a ha M hY h
    have e : rnT leB tp (d + 1) a = if leB (tp a) then rnT leB tp d (a + 1) else a := rfl
    rw [e] at h
    refine rX4_passLetters_0 <| br_f ?_ ?_
    · rw [hY.2.1.1, hY.2.2.1]
      exact nI_ge (by omega) (by omega)
    rw [hY.2.2.1]
    refine c_byteAt hY hn (by omega) <| c_letter (hb a (by omega)) ?_
    by_cases c : leB (tp a) = true
    · rw [if_pos c] at h
      refine bz_t c ?_
      rw [hY.2.2.1, nI_1]
      exact ih (a + 1) (by omega) _ (y4_2 hY) h
    · rw [if_neg c] at h
      exact bz_f c (h _ (y4_4 hY))
theorem fig_ty {e s : Nat} (h : s ≤ e) (he : e ≤ 400) {A B : Prop} (ha : ¬ e - s ≤ 3 → A) (hb : e - s ≤ 3 → B) : (3 < (nI e - nI s) → A) ∧ (¬ 3 < (nI e - nI s) → B) := by
  rw [pk_sub h]
  have e2 : 3 < nI (e - s) ↔ 3 < e - s := lt_nI (a := 3) (by decide) (by omega)
  exact ⟨fun q => ha (by rw [e2] at q; omega), fun q => hb (by rw [e2] at q; omega)⟩
theorem c_figures (hn : n ≤ 400) (hb : ∀ k, k < n → tp k < 256) {s : Nat} {t f : Int32} : ∀ d a, a + d = n → s ≤ a → ∀ M v, Y4 M0 M tp n (nI a) (nI s) t v f → (a - s ≤ 3 → v = nI (valT tp s (a - s))) → (∀ M' v', Y4 M0 M' tp n (nI (rnT fiB tp d a)) (nI s) (if rnT fiB tp d a - s ≤ 3 then 2 else 4) v' f → (rnT fiB tp d a - s ≤ 3 → v' = nI (valT tp s (rnT fiB tp d a - s))) → Q none M') → TT X kX4_passFigures 5 [some (pR (4, 0, 0))] [] M Q := by
  intro d
  induction d with
  | zero =>
    intro a ha hs M v hY hv h
    have e : rnT fiB tp 0 a = a := rfl
    rw [e] at h
    refine rX4_passFigures_5 <| br_t ?_ ?_
    · rw [hY.2.1.1, hY.2.2.1]
      exact nI_le (by omega) (by omega)
    rw [hY.2.2.1, hY.2.2.2.1]
    refine fig_ty hs (by omega) (fun q => ?_) (fun q => ?_)
    · rw [if_neg q] at h
      exact h _ _ (y4_4 hY) hv
    · rw [if_pos q] at h
      exact h _ _ (y4_4 hY) hv
  | succ d ih =>
    intro a ha hs M v hY hv h
    have e : rnT fiB tp (d + 1) a = if fiB (tp a) then rnT fiB tp d (a + 1) else a := rfl
    rw [e] at h
    refine rX4_passFigures_5 <| br_f ?_ ?_
    · rw [hY.2.1.1, hY.2.2.1]
      exact nI_ge (by omega) (by omega)
    rw [hY.2.2.1]
    refine c_byteAt hY hn (by omega) <| c_figure (hb a (by omega)) ?_
    by_cases c : fiB (tp a) = true
    · rw [if_pos c] at h
      refine bz_t c ?_
      rw [hY.2.2.1, hY.2.2.2.1, pk_sub hs]
      by_cases g : 3 ≤ a - s
      · refine br_t (nI_le (a := 3) g (by omega)) ?_
        rw [nI_1]
        exact ih (a + 1) (by omega) (by omega) _ v (y4_2 hY) (fun q => by omega) h
      · refine br_f (nI_ge (b := 3) (by omega) (by decide)) <| c_byteAt hY hn (by omega) ?_
        show TT _ _ _ _ _ _ _
        have c48 : 48 ≤ tp a := (decide_eq_true_iff.mp c).1
        have ev : (v * 10 + nI (tp a)) - 48 = nI (valT tp s (a + 1 - s)) := by
          rw [hv (by omega), show (10 : Int32) = nI 10 from rfl, pk_mul, nI_add, show (48 : Int32) = nI 48 from rfl, pk_sub (by omega), show a + 1 - s = (a - s) + 1 by omega]
          show nI _ = nI (valT tp s (a - s) * 10 + (tp (s + (a - s)) - 48))
          rw [show s + (a - s) = a by omega]
          congr 1
          omega
        rw [hY.2.2.2.2.2.1, ev, mset_c4 (by decide), hY.2.2.1, nI_1]
        exact ih (a + 1) (by omega) (by omega) _ _ (y4_2 (y4_5 hY)) (fun _ => rfl) h
    · rw [if_neg c] at h
      refine bz_f c ?_
      rw [hY.2.2.1, hY.2.2.2.1]
      refine fig_ty hs (by omega) (fun q => ?_) (fun q => ?_)
      · rw [if_neg q] at h
        exact h _ _ (y4_4 hY) hv
      · rw [if_pos q] at h
        exact h _ _ (y4_4 hY) hv
theorem c_tail (hn : n ≤ 400) (hb : ∀ k, k < n → tp k < 256) {s : Nat} {s0 t v f : Int32} (hs : s ≤ n) (hY : Y4 M0 M tp n (nI s) s0 t v f) (h : ∀ M' v', Y4 M0 M' tp n (nI (tkE tp n s)) (nI s) (nI (tkY tp n s)) v' f → (tkY tp n s = 2 → v' = nI (valT tp s (tkE tp n s - s))) → Q none M') : TT X kX4_byteAt 0 [some (pR (4, 0, 0)), some (pI ((mset M 4 0 0 3 (M 4 0 0 2)) 4 0 0 2))] [] (mset M 4 0 0 3 (M 4 0 0 2)) (rI fun v2 M1 => ((M1 4 0 0 2) < (M1 4 0 0 1) → TT X kX4_isLetter 0 [some (pI v2)] [] M1 (rI fun v4 M3 => (v4 = 0 → TT X kX4_isFigure 0 [some (pI v2)] [] M3 (rI fun v6 M5 => (v6 = 0 → (¬ v2 = 59 → Q none (mset (mset M5 4 0 0 4 4) 4 0 0 2 (((mset M5 4 0 0 4 4) 4 0 0 2) + 1))) ∧ (v2 = 59 → Q none (mset (mset M5 4 0 0 4 3) 4 0 0 2 (((mset M5 4 0 0 4 3) 4 0 0 2) + 1)))) ∧ (¬ v6 = 0 → TT X kX4_passFigures 0 [some (pR (4, 0, 0))] [] M5 (rV fun M8 => Q none M8)))) ∧ (¬ v4 = 0 → TT X kX4_passLetters 0 [some (pR (4, 0, 0))] [] M3 (rV fun M13 => Q none M13)))) ∧ (¬ (M1 4 0 0 2) < (M1 4 0 0 1) → Q none (mset M1 4 0 0 4 0))) := by
  rw [hY.2.2.1]
  have hY1 : Y4 M0 (mset M 4 0 0 3 (nI s)) tp n (nI s) (nI s) t v f := y4_3 hY
  generalize mset M 4 0 0 3 (nI s) = M1 at hY1 ⊢
  rw [hY1.2.2.1]
  unfold tkE tkY at h
  by_cases c0 : n ≤ s
  · rw [if_pos c0, if_pos c0] at h
    refine c_byteAt_e hY1 c0 (by omega) ?_
    show _ ∧ _
    rw [hY1.2.2.1, hY1.2.1.1]
    exact br_f (nI_nlt c0 (by omega)) (h _ _ (y4_4 hY1) (fun q => absurd q (by decide)))
  rw [if_neg c0, if_neg c0] at h
  refine c_byteAt hY1 hn (by omega) ?_
  show _ ∧ _
  rw [hY1.2.2.1, hY1.2.1.1]
  refine br_t (nI_lt (by omega) (by omega)) <| c_letter (hb s (by omega)) ?_
  by_cases c1 : leB (tp s) = true
  · rw [if_pos c1, if_pos c1] at h
    exact bz_t c1 <| c_letters hn hb (n - s) s (by omega) _ hY1 fun M' hY' => h M' v hY' (fun q => absurd q (by decide))
  rw [if_neg c1, if_neg c1] at h
  refine bz_f c1 <| c_figure (hb s (by omega)) ?_
  by_cases c2 : fiB (tp s) = true
  · rw [if_pos c2, if_pos c2] at h
    refine bz_t c2 <| rX4_passFigures_0 <| c_figures hn hb (s := s) (n - s) s (by omega) (Nat.le_refl _) _ _ (y4_5 hY1) (fun _ => by rw [Nat.sub_self]; rfl) fun M' v' hY' hv' => h M' v' ?_ (fun q => hv' ?_)
    · split
      · rename_i q
        rw [if_pos q] at hY'
        exact hY'
      · rename_i q
        rw [if_neg q] at hY'
        exact hY'
    · by_cases g : rnT fiB tp (n - s) s - s ≤ 3
      · exact g
      · rw [if_neg g] at q; omega
  rw [if_neg c2, if_neg c2] at h
  refine bz_f c2 ?_
  rw [mset_c4 (by decide), mset_c4 (by decide), hY1.2.2.1, nI_1]
  have e59 : nI (tp s) = 59 ↔ tp s = 59 := nI_eq (b := 59) (by have := hb s (by omega); omega) (by decide)
  by_cases c3 : tp s = 59
  · rw [if_pos c3] at h
    exact nr_t (e59.mpr c3) (h _ _ (y4_2 (y4_4 hY1)) (fun q => absurd q (by decide)))
  · rw [if_neg c3] at h
    exact nr_f (fun q => c3 (e59.mp q)) (h _ _ (y4_2 (y4_4 hY1)) (fun q => absurd q (by decide)))
theorem c_advance0 (hn : n ≤ 400) (hb : ∀ k, k < n → tp k < 256) {s0 t v f : Int32} : ∀ d a, a + d = n → ∀ M, Y4 M0 M tp n (nI a) s0 t v f → (∀ M' v', Y4 M0 M' tp n (nI (tkE tp n (rnT blB tp d a))) (nI (rnT blB tp d a)) (nI (tkY tp n (rnT blB tp d a))) v' f → (tkY tp n (rnT blB tp d a) = 2 → v' = nI (valT tp (rnT blB tp d a) (tkE tp n (rnT blB tp d a) - rnT blB tp d a))) → Q none M') → TT X kX4_advance 0 [some (pR (4, 0, 0)), none] [] M Q := by
  intro d
  induction d with
  | zero =>
    intro a ha M hY h
    refine rX4_advance_0 <| br_t ?_ (c_tail hn hb (by omega) hY h)
    rw [hY.2.1.1, hY.2.2.1]
    exact nI_le (by omega) (by omega)
  | succ d ih =>
    intro a ha M hY h
    have e : rnT blB tp (d + 1) a = if blB (tp a) then rnT blB tp d (a + 1) else a := rfl
    rw [e] at h
    refine rX4_advance_0 <| br_f ?_ ?_
    · rw [hY.2.1.1, hY.2.2.1]
      exact nI_ge (by omega) (by omega)
    have ct := fun h' => c_tail (X := X) (Q := Q) hn hb (show a ≤ n by omega) hY h'
    rw [hY.2.2.1]
    refine c_byteAt hY hn (by omega) <| c_blank (hb a (by omega)) ?_
    by_cases c : blB (tp a) = true
    · rw [if_pos c] at h
      refine bz_t c ?_
      rw [hY.2.2.1, nI_1]
      exact ih (a + 1) (by omega) _ (y4_2 hY) h
    · rw [if_neg c] at h
      exact bz_f c (ct h)
/-- the reader stands at the token behind place p, with a fault -/
def Tk4 (M : Mem) (tp : NF) (n p f : Nat) : Prop := (M 4 0 0 1 = nI n ∧ ∀ k, k < n → M 4 0 1 k = nI (tp k)) ∧ M 4 0 0 2 = nI (tE tp n p) ∧ M 4 0 0 3 = nI (tS tp n p) ∧ M 4 0 0 4 = nI (tY tp n p) ∧ (tY tp n p = 2 → M 4 0 0 5 = nI (tV tp n p)) ∧ M 4 0 0 6 = nI f
theorem tk4_y {p f : Nat} (h : Tk4 M tp n p f) : Y4 M M tp n (nI (tE tp n p)) (nI (tS tp n p)) (nI (tY tp n p)) (M 4 0 0 5) (nI f) := ⟨on4_r, h.1, h.2.1, h.2.2.1, h.2.2.2.1, rfl, h.2.2.2.2.2⟩
theorem y4_tk {p f : Nat} {v : Int32} (h : Y4 M0 M tp n (nI (tE tp n p)) (nI (tS tp n p)) (nI (tY tp n p)) v (nI f)) (hv : tY tp n p = 2 → v = nI (tV tp n p)) : Tk4 M tp n p f := ⟨h.2.1, h.2.2.1, h.2.2.2.1, h.2.2.2.2.1, fun q => by rw [h.2.2.2.2.2.1]; exact hv q, h.2.2.2.2.2.2⟩
theorem c_advance {a f : Nat} {s t v : Int32} (hn : n ≤ 400) (hb : ∀ k, k < n → tp k < 256) (ha : a ≤ n) (hY : Y4 M0 M tp n (nI a) s t v (nI f)) (h : ∀ M', On4 M0 M' → Tk4 M' tp n a f → Q none M') : TT X kX4_advance 0 [some (pR (4, 0, 0)), none] [] M Q :=
  c_advance0 hn hb (n - a) a (by omega) M hY fun M' _ hY' hv => h M' hY'.1 (y4_tk (p := a) hY' hv)
theorem c_next {p f : Nat} (hn : n ≤ 400) (hb : ∀ k, k < n → tp k < 256) (hp : p ≤ n) (hk : Tk4 M tp n p f) (h : ∀ M', On4 M M' → Tk4 M' tp n (tE tp n p) f → Q none M') : TT X kX4_advance 0 [some (pR (4, 0, 0)), none] [] M Q :=
  c_advance hn hb (tE_le hp).2 (tk4_y hk) h
theorem c_fail {p f k : Nat} (hf : f ≤ 3) (hk : Tk4 M tp n p f) (h : ∀ M', On4 M M' → Tk4 M' tp n p (if f = 0 then k else f) → Q none M') : TT X kX4_fail 0 [some (pR (4, 0, 0)), some (pI (nI k))] [] M Q := by
  refine rX4_fail_0 ?_
  rw [hk.2.2.2.2.2]
  by_cases c : f = 0
  · rw [if_pos c] at h
    subst c
    have := y4_6 (w := nI k) (tk4_y hk)
    exact nr_t rfl (h _ this.1 (y4_tk this hk.2.2.2.2.1))
  · rw [if_neg c] at h
    exact nr_f (nI_ne0 (by omega) (by omega)) (h _ on4_r hk)
theorem c_number {lo hi : Nat} {q : Nat × Nat} (hn : n ≤ 400) (hb : ∀ k, k < n → tp k < 256) (hq : q.1 ≤ n ∧ q.2 ≤ 3) (hlo : lo < 1000) (hhi : hi < 1000) (hk : Tk4 M tp n q.1 q.2) (h : ∀ M' v, On4 M M' → Tk4 M' tp n (pNum tp n lo hi q).1 (pNum tp n lo hi q).2 → ((pNum tp n lo hi q).2 = 0 → v = nI (tV tp n q.1)) → Q (some (pI v)) M') : TT X kX4_number 0 [some (pR (4, 0, 0)), some (pI (nI lo)), some (pI (nI hi)), none] [] M Q := by
  refine rX4_number_0 ?_
  rw [hk.2.2.2.2.2]
  unfold pNum at h
  by_cases a : q.2 = 0
  rotate_left
  · rw [if_pos a] at h
    exact br_f (nI_ne0 (by omega) (by omega)) (h _ _ on4_r hk (fun z => absurd z a))
  rw [if_neg (fun z => z a)] at h
  refine br_t (by rw [a]; rfl) ?_
  rw [hk.2.2.2.1]
  have t4 := tY_4 (tp := tp) (n := n) (p := q.1)
  by_cases b : tY tp n q.1 = 2
  rotate_left
  · rw [if_pos b] at h
    refine br_f (fun z => b ((nI_eq (b := 2) (by omega) (by decide)).mp z)) <| c_fail (k := 1) hq.2 hk fun M' o k' => h _ _ o ?_ (fun z => absurd z (by show ¬ 1 = 0; decide))
    rw [if_pos a] at k'
    exact k'
  rw [if_neg (fun z => z b)] at h
  refine br_t (by rw [b]; rfl) ?_
  have ev := hk.2.2.2.2.1 b
  have vb : tV tp n q.1 < 2 ^ 31 := by
    have g := tkY_2 b
    have g2 : tE tp n q.1 - tS tp n q.1 ≤ 3 := g.2.2.2.2
    have g1 : tE tp n q.1 ≤ n := (tE_le hq.1).2
    have bd : ∀ k, k ≤ 3 → tS tp n q.1 + k ≤ n → valT tp (tS tp n q.1) k < 256 * 1111 * (k + 1) ∧ valT tp (tS tp n q.1) k ≤ 256 * (10 ^ k) := by
      intro k
      induction k with
      | zero => intro _ _; exact ⟨by show 0 < _; decide, Nat.zero_le _⟩
      | succ k ih =>
        intro h1 h2
        obtain ⟨i1, i2⟩ := ih (by omega) (by omega)
        have := hb (tS tp n q.1 + k) (by omega)
        have e : valT tp (tS tp n q.1) (k + 1) = valT tp (tS tp n q.1) k * 10 + (tp (tS tp n q.1 + k) - 48) := rfl
        rw [e]
        have hk3 : k = 0 ∨ k = 1 ∨ k = 2 := by omega
        rcases hk3 with rfl | rfl | rfl
        · have e0 : valT tp (tS tp n q.1) 0 = 0 := rfl
          rw [e0]
          exact ⟨by omega, by omega⟩
        · have e0 : valT tp (tS tp n q.1) 1 = valT tp (tS tp n q.1) 0 * 10 + (tp (tS tp n q.1 + 0) - 48) := rfl
          have e00 : valT tp (tS tp n q.1) 0 = 0 := rfl
          have := hb (tS tp n q.1 + 0) (by omega)
          rw [e0, e00]
          exact ⟨by omega, by omega⟩
        · have e1 : valT tp (tS tp n q.1) 2 = valT tp (tS tp n q.1) 1 * 10 + (tp (tS tp n q.1 + 1) - 48) := rfl
          have e0 : valT tp (tS tp n q.1) 1 = valT tp (tS tp n q.1) 0 * 10 + (tp (tS tp n q.1 + 0) - 48) := rfl
          have e00 : valT tp (tS tp n q.1) 0 = 0 := rfl
          have := hb (tS tp n q.1 + 0) (by omega)
          have := hb (tS tp n q.1 + 1) (by omega)
          rw [e1, e0, e00]
          exact ⟨by omega, by omega⟩
    have := (bd _ g2 (by have := (tE_le (tp := tp) hq.1).1; omega)).1
    show valT tp (tS tp n q.1) (tE tp n q.1 - tS tp n q.1) < 2 ^ 31
    omega
  rw [ev]
  have no : ¬ (lo ≤ tV tp n q.1 ∧ tV tp n q.1 ≤ hi) → TT X kX4_fail 0 [some (pR (4, 0, 0)), some (pI 2)] [] M (rV fun M1 => Q (some (pI (nI lo))) M1) := fun c => by
    rw [if_neg c] at h
    refine c_fail (k := 2) hq.2 hk fun M' o k' => h _ _ o ?_ (fun z => absurd z (by show ¬ 2 = 0; decide))
    rw [if_pos a] at k'
    exact k'
  by_cases c1 : tV tp n q.1 < lo
  · exact br_t (nI_lt c1 (by omega)) (no (by omega))
  refine br_f (nI_nlt (by omega) vb) ?_
  by_cases c2 : tV tp n q.1 ≤ hi
  · refine br_t (nI_le c2 (by omega)) ?_
    rw [if_pos ⟨by omega, c2⟩] at h
    refine c_next hn hb hq.1 hk fun M' o k' => h _ _ o ?_ (fun _ => rfl)
    rw [a] at k'
    exact k'
  · exact br_f (nI_ge (by omega) vb) (no (by omega))
theorem c_sign {q : Nat × Nat} (hn : n ≤ 400) (hb : ∀ k, k < n → tp k < 256) (hq : q.1 ≤ n ∧ q.2 ≤ 3) (hk : Tk4 M tp n q.1 q.2) (h : ∀ M', On4 M M' → Tk4 M' tp n (pSig tp n q).1 (pSig tp n q).2 → Q none M') : TT X kX4_passSign 0 [some (pR (4, 0, 0))] [] M Q := by
  refine rX4_passSign_0 ?_
  rw [hk.2.2.2.1]
  have t4 := tY_4 (tp := tp) (n := n) (p := q.1)
  unfold pSig at h
  by_cases a : q.2 = 0
  · rw [if_neg (fun z => z a)] at h
    by_cases b : tY tp n q.1 = 3
    · rw [if_neg (fun z => z b)] at h
      refine br_t (by rw [b]; rfl) ?_
      rw [hk.2.2.2.2.2]
      refine nr_t (by rw [a]; rfl) <| c_next hn hb hq.1 hk fun M' o k' => h _ o ?_
      rw [a] at k'
      exact k'
    · rw [if_pos b] at h
      refine br_f (fun z => b ((nI_eq (b := 3) (by omega) (by decide)).mp z)) <| c_fail (k := 1) hq.2 hk fun M' o k' => ?_
      rw [if_pos a] at k'
      show _ ∧ _
      rw [k'.2.2.2.2.2]
      exact nr_f (by decide) (h _ o k')
  · rw [if_pos a] at h
    by_cases b : tY tp n q.1 = 3
    · refine br_t (by rw [b]; rfl) ?_
      rw [hk.2.2.2.2.2]
      exact nr_f (nI_ne0 (by omega) (by omega)) (h _ on4_r hk)
    · refine br_f (fun z => b ((nI_eq (b := 3) (by omega) (by decide)).mp z)) <| c_fail (k := 1) hq.2 hk fun M' o k' => ?_
      rw [if_neg a] at k'
      show _ ∧ _
      rw [k'.2.2.2.2.2]
      exact nr_f (nI_ne0 (by omega) (by omega)) (h _ o k')
theorem c_word {p : Nat} {full : Prop} [Decidable full] {b : Int32} (hn : n ≤ 400) (hb : ∀ k, k < n → tp k < 256) (hp : p ≤ n) (h1 : full → b = 0) (h2 : ¬ full → b = 1) (hk : Tk4 M tp n p 0) (h : ∀ M', On4 M M' → Tk4 M' tp n (pWd tp n full p).1 (pWd tp n full p).2 → Q none M') : TT X kX4_passWord 0 [some (pR (4, 0, 0)), some (pI b)] [] M Q := by
  unfold pWd at h
  refine rX4_passWord_0 ?_
  by_cases c : full
  · rw [if_pos c] at h
    exact br_t (h1 c) <| c_fail (k := 3) (by decide) hk fun M' o k' => h _ o k'
  · rw [if_neg c] at h
    exact br_f (by rw [h2 c]; decide) <| c_next hn hb hp hk h
theorem c_isWord {p f j : Nat} (hj : j < 2) (hn : n ≤ 400) (hp : p ≤ n) (hb : ∀ k, k < n → tp k < 256) (hk : Tk4 M tp n p f) (h : Q (some (pI (bI (isW tp n p j = true)))) M) : TT X kX4_isWord 0 [some (pR (4, 0, 0)), some (pR (10, j, 0)), none] [] M Q := by
  have t4 := tY_4 (tp := tp) (n := n) (p := p)
  have eL : strL j = nI (strN j) := by rcases (show j = 0 ∨ j = 1 by omega) with rfl | rfl <;> rfl
  have eN : strN j ≤ 6 := by rcases (show j = 0 ∨ j = 1 by omega) with rfl | rfl <;> decide
  have le := tE_le (tp := tp) hp
  refine rX4_isWord_0 hj ?_
  rw [hk.2.2.2.1]
  by_cases a : tY tp n p = 1
  rotate_left
  · rw [bI_f (fun q => a (isW_iff.mp q).1)] at h
    exact nr_f (fun z => a ((nI_eq (b := 1) (by omega) (by decide)).mp z)) h
  refine nr_t (by rw [a]; rfl) ?_
  rw [hk.2.1, hk.2.2.1, pk_sub le.1, eL]
  by_cases b : tE tp n p - tS tp n p = strN j
  rotate_left
  · rw [bI_f (fun q => b (isW_iff.mp q).2.1)] at h
    exact br_f (fun z => b ((nI_eq (by omega) (by omega)).mp z)) h
  refine br_t (by rw [b]) ?_
  have L : ∀ d k, k + d = strN j → (∀ i, i < k → nI (tp (tS tp n p + i)) = strC j i) → TT X kX4_isWord 28 [some (pR (4, 0, 0)), some (pR (10, j, 0)), some (pI (nI k))] [] M Q := by
    intro d
    induction d with
    | zero =>
      intro k hk' hw
      obtain rfl : k = strN j := by omega
      rw [bI_t (isW_iff.mpr ⟨a, b, hw⟩)] at h
      exact rX4_isWord_28 hj <| br_t (by rw [eL]; exact nI_le (Nat.le_refl _) (by omega)) h
    | succ d ih =>
      intro k hk' hw
      refine rX4_isWord_28 hj <| br_f (by rw [eL]; exact nI_ge (by omega) (by omega)) ?_
      rw [hk.2.2.1, nI_add]
      refine c_byteAt (tk4_y hk) hn (by omega) ⟨vp_in_nI (by omega) (by omega), ?_⟩
      rw [clampI (by omega), nI_1]
      by_cases c : nI (tp (tS tp n p + k)) = strC j k
      · refine br_t c <| ih (k + 1) (by omega) fun i hi => ?_
        by_cases y : i = k
        · subst y; exact c
        · exact hw i (by omega)
      · rw [bI_f (fun q => c ((isW_iff.mp q).2.2 k (by omega)))] at h
        exact br_f c h
  exact L _ 0 (Nat.zero_add _) (fun i hi => absurd hi (Nat.not_lt_zero i))
end READ4
