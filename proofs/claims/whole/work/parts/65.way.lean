/-! scratch: what no answer shows later -/
def Scr (M M' : Mem) : Prop := (∀ c i, ¬ c = 2 → ¬ c = 3 → ¬ (c = 6 ∧ (i = 1 ∨ i = 2)) → ¬ (c = 9 ∧ i = 0) → M' c i = M c i) ∧ (∀ p, p ∉ [0, 7, 21, 22, 23, 24, 25, 26] → M' 9 0 p = M 9 0 p) ∧ ∀ x, x ∈ [1, 7, 9, 11, 12, 30] → M' 9 0 0 x = M 9 0 0 x
theorem Scr.rfl' {M : Mem} : Scr M M := ⟨fun _ _ _ _ _ _ => rfl, fun _ _ => rfl, fun _ _ => rfl⟩
theorem Scr.trans {M M1 M2 : Mem} (h : Scr M M1) (h2 : Scr M1 M2) : Scr M M2 := ⟨fun c i a b d e => (h2.1 c i a b d e).trans (h.1 c i a b d e), fun p q => (h2.2.1 p q).trans (h.2.1 p q), fun x q => (h2.2.2 x q).trans (h.2.2 x q)⟩
theorem Scr.oth {M M' : Mem} {c i : Nat} (h : Oth M M' c i) (hc : c = 2 ∨ c = 3 ∨ (c = 6 ∧ (i = 1 ∨ i = 2))) : Scr M M' := ⟨fun c' i' a b d e => h c' i' (by omega), fun p _ => by rw [h 9 0 (by omega)], fun x _ => by rw [h 9 0 (by omega)]⟩
theorem Scr.o9 {M M' : Mem} {ps : List Nat} (h : O9 M M' ps) (hs : ∀ p, p ∈ ps → p ∈ [21, 22, 23, 24, 25, 26]) : Scr M M' := ⟨fun c i _ _ _ e => h.1 c i e, fun p q => h.2 p (fun r => q (by have := hs p r; simp at this ⊢; omega)), fun x _ => by rw [h.2 0 (fun r => absurd (hs 0 r) (by decide))]⟩
theorem Scr.thr {M : Mem} {v : Int32} : Scr M (mset M 9 0 0 0 v) := ⟨fun c i _ _ _ e => mset_c2 e, fun p q => mset_c3 (by simp at q ⊢; omega), fun x q => mset_c4 (by simp at q ⊢; omega)⟩
theorem inv_scr {M M' : Mem} (hI : Inv M) (h : Scr M M') : Inv M' := by
  obtain ⟨h1, h2, h3⟩ := h
  have e5 := h1 5 0 (by decide) (by decide) (by decide) (by decide)
  have e4 := h1 4 0 (by decide) (by decide) (by decide) (by decide)
  have e8 := h1 8 0 (by decide) (by decide) (by decide) (by decide)
  have e6 := h1 6 0 (by decide) (by decide) (by decide) (by decide)
  have e0 := h1 0 0 (by decide) (by decide) (by decide) (by decide)
  have e1 := h1 1 0 (by decide) (by decide) (by decide) (by decide)
  have e7 := h1 7 0 (by decide) (by decide) (by decide) (by decide)
  have e63 : ∀ k, M' 6 (k + 3) = M 6 (k + 3) := fun k => h1 6 (k + 3) (by decide) (by decide) (by omega) (by omega)
  unfold Inv at hI ⊢
  rw [e5, e4, e8, e6, e0, e1, e7, h2 3 (by decide), h2 4 (by decide), h2 5 (by decide), h2 6 (by decide), h2 9 (by decide), h2 11 (by decide), h2 28 (by decide), h2 29 (by decide), h2 30 (by decide), h3 1 (by decide), h3 7 (by decide), h3 9 (by decide), h3 11 (by decide), h3 12 (by decide), h3 30 (by decide)]
  simp only [e63]
  exact hI
/-! stairs with askings and owners told beside -/
def StY (F : Nat → Nat → Int32) (sd as ow : NF) : Prop := F 0 0 = nI (sd 0) ∧ F 0 1 = nI (sd 1) ∧ (∀ s, s < sd 0 → F 3 s = nI (ow s) ∧ F 4 s = nI (as s) ∧ F 5 s = nI (sBr sd s)) ∧ ∀ v, v < sd 1 → F 6 v = nI (sRe sd v) ∧ F 7 v = nI (sLo sd v) ∧ F 8 v = nI (sWo sd v) ∧ F 9 v = nI (sFo sd v)
theorem stx_y {F : Nat → Nat → Int32} {sd : NF} (h : StX F sd) : StY F sd (sAs sd) (sOw sd) := h
def SVA (sd as ow : NF) : Prop := SV sd ∧ ∀ s, s < sd 0 → as s ≤ 20 ∧ ow s ≤ 4
theorem sva_of {sd : NF} (h : SV sd) : SVA sd (sAs sd) (sOw sd) := ⟨h, fun s q => ⟨(h.2.2.1 s q).2.1, (h.2.2.1 s q).1⟩⟩
def StR (M : Mem) (sd as ow : NF) : Prop := (∀ x, x < 80 → M 9 0 6 x = nI (sd x)) ∧ ∀ s, s < sd 0 → M 9 0 21 s = nI (ow s) ∧ M 9 0 22 s = nI (as s)
/-- the way as the reference keeps it: from step to step -/
def RP (M : Mem) (n : Nat) (P : List Nat) : Prop := M 9 0 25 0 = nI (P.getD 0 n) ∧ ∀ k, k < P.length → P.getD k n < n ∧ M 9 0 25 (P.getD k n + 1) = nI (P.getD (k + 1) n)
theorem getD_in {P : List Nat} {k : Nat} (a b : Nat) (h : k < P.length) : P.getD k a = P.getD k b := by
  rw [List.getD_eq_getElem?_getD, List.getD_eq_getElem?_getD, List.getElem?_eq_getElem h]
  rfl
theorem getD_out {P : List Nat} {k : Nat} (a : Nat) (h : P.length ≤ k) : P.getD k a = a := by
  rw [List.getD_eq_getElem?_getD, List.getElem?_eq_none h]
  rfl
section WAY
variable {X : Nat × (Nat → Int32)} {M : Mem} {Q : Option PV → Mem → Prop} {n rc : Nat} {as br : NF}
theorem rp_folw (ha : ∀ s, s < n → as s ≤ 20) (hn : n ≤ 18) (hr : 1 ≤ rc) (hR : ∀ y, y ≤ n → RR M (Lk n rc as br y) y) : ∀ f p, 1 ≤ p → p ≤ n + 1 → n + 1 - p ≤ f → wW n rc as br p < INF → (folw n (nx n rc as br) f p).getD 0 n = p - 1 ∧ ∀ k, k < (folw n (nx n rc as br) f p).length → (folw n (nx n rc as br) f p).getD k n < n ∧ M 9 0 25 ((folw n (nx n rc as br) f p).getD k n + 1) = nI ((folw n (nx n rc as br) f p).getD (k + 1) n) := by
  intro f
  induction f with
  | zero =>
    intro p h1 h2 h3 hw
    obtain rfl : p = n + 1 := by omega
    exact ⟨rfl, fun k hk => absurd hk (Nat.not_lt_zero k)⟩
  | succ f ih =>
    intro p h1 h2 h3 hw
    by_cases z : p = n + 1
    · subst z
      have e : folw n (nx n rc as br) (f + 1) (n + 1) = [] := if_neg (by omega)
      rw [e]
      exact ⟨rfl, fun k hk => absurd hk (Nat.not_lt_zero k)⟩
    · have e : folw n (nx n rc as br) (f + 1) p = (p - 1) :: folw n (nx n rc as br) f (nx n rc as br p) := if_pos (by omega)
      obtain ⟨k1, -, -⟩ := w_fin (rc := rc) (br := br) ha hn h1 (show p ≤ n by omega)
      obtain ⟨-, l⟩ := k1.mp hw
      obtain ⟨f1, f2, f3, f4, f5⟩ := Lk_fin (rc := rc) (br := br) ha hn (show p ≤ n by omega) l
      rw [nx_Lk (by omega)] at e
      obtain ⟨i1, i2⟩ := ih (Lk n rc as br p).2 (by omega) f5 (by omega) (by rw [f3]; exact l)
      rw [e]
      refine ⟨rfl, fun k hk => ?_⟩
      cases k with
      | zero =>
        refine ⟨show p - 1 < n by omega, ?_⟩
        show M 9 0 25 (p - 1 + 1) = nI ((folw n (nx n rc as br) f (Lk n rc as br p).2).getD 0 n)
        rw [i1, show p - 1 + 1 = p by omega]
        exact (hR p (by omega)).2.2 l
      | succ k =>
        rw [List.length_cons] at hk
        exact i2 k (by omega)
theorem rp_path (ha : ∀ s, s < n → as s ≤ 20) (hn : n ≤ 18) (hr : 1 ≤ rc) (hR : ∀ y, y ≤ n → RR M (Lk n rc as br y) y) (hw : w0 n rc as br < INF) : RP M n (path n rc as br) := by
  unfold path
  rw [if_pos hw]
  rw [w0_Lk] at hw
  obtain ⟨f1, f2, f3, f4, f5⟩ := Lk_fin (rc := rc) (br := br) ha hn (Nat.zero_le n) hw
  rw [nx_0]
  obtain ⟨i1, i2⟩ := rp_folw (M := M) ha hn hr hR 18 (Lk n rc as br 0).2 (by omega) f5 (by omega) (by rw [f3]; exact hw)
  refine ⟨?_, i2⟩
  rw [i1]
  exact (hR 0 (by omega)).2.2 hw
theorem w0_fin (ha : ∀ s, s < n → as s ≤ 20) (hn : n ≤ 18) (hw : w0 n rc as br < INF) : w0 n rc as br / 32 ≤ 360 ∧ w0 n rc as br % 32 ≤ 18 := by
  rw [w0_Lk] at hw ⊢
  obtain ⟨f1, f2, -⟩ := Lk_fin (rc := rc) (br := br) ha hn (Nat.zero_le n) hw
  omega
theorem w0_le : w0 n rc as br ≤ INF := by rw [w0_Lk]; exact Lk_le
/-! the class, behind find -/
theorem s_isThere {i : Nat} (hi : i < 2) (hW : WayF M i n rc as br) (h : Q (some (pI (bI (w0 n rc as br < INF)))) M) : TT X kX2_isThere 0 [some (pR (2, i, 0))] [] M Q := by
  refine rX2_isThere_0 hi ?_
  have iI : INF = 1000000 := rfl
  have wl := w0_le (n := n) (rc := rc) (as := as) (br := br)
  rw [hW.1]
  by_cases c : w0 n rc as br < INF
  · rw [bI_t c] at h
    exact br_f (nI_ge (b := 1000000) (by omega) (by decide)) h
  · rw [bI_f c] at h
    exact br_t (nI_le (a := 1000000) (by omega) (by omega)) h
theorem s_askedIn {i : Nat} (hi : i < 2) (hW : WayF M i n rc as br) (h : Q (some (pI (nI (w0 n rc as br / 32)))) M) : TT X kX2_askedInAll 0 [some (pR (2, i, 0))] [] M Q := by
  refine rX2_askedInAll_0 hi ?_
  have iI : INF = 1000000 := rfl
  have wl := w0_le (n := n) (rc := rc) (as := as) (br := br)
  rw [hW.1, show (32 : Int32) = nI 32 from rfl, pk_div (by omega) (by decide) (by decide)]
  exact h
theorem s_cost {i j w : Nat} {sd as' ow : NF} (hi : i < 2) (hj : j < 5) (hW : WayF M i n rc as br) (hs : StY (M 6 j) sd as' ow) (h6 : sd 1 ≤ 6) (hw : w < sd 1) (h : Q (some (pI (nI (w0 n rc as br / 32 * (1 + sLo sd w))))) M) : TT X kX2_cost 0 [some (pR (2, i, 0)), some (pR (6, j, 0)), some (pI (nI w))] [] M Q := by
  refine rX2_cost_0 hi hj <| s_askedIn hi hW <| rX6_times_0 hj <| s_hasWalker hj (by omega) hs.2.1 <| bz_t (by rw [nI_int (by omega)]; omega) ⟨vp_in_nI (by omega) (by decide), ?_⟩
  show Q _ _
  rw [clampI (by omega), (hs.2.2.2 w hw).2.1, show (1 : Int32) = nI 1 from rfl, nI_add, pk_mul]
  exact h
theorem s_isGone {i j w : Nat} {sd as' ow : NF} (hi : i < 2) (hj : j < 5) (hn : n ≤ 18) (ha : ∀ s, s < n → as s ≤ 20) (hW : WayF M i n rc as br) (hs : StY (M 6 j) sd as' ow) (hv : SV sd) (hw : w < sd 1) (h : Q (some (pI (bI (w0 n rc as br < INF ∧ w0 n rc as br / 32 * (1 + sLo sd w) ≤ sWo sd w)))) M) : TT X kX2_isGone 0 [some (pR (2, i, 0)), some (pR (6, j, 0)), some (pI (nI w))] [] M Q := by
  have h6 := hv.2.1
  refine rX2_isGone_0 hi hj <| s_isThere hi hW ?_
  by_cases c : w0 n rc as br < INF
  rotate_left
  · rw [bI_f (fun q => c q.1)] at h
    exact bz_f c h
  have b := w0_fin ha hn c
  obtain ⟨-, v2, v3, -⟩ := hv.2.2.2 w hw
  have lo : sLo sd w ≤ 2 := v2
  have wo : sWo sd w ≤ 200 := v3
  have pr : w0 n rc as br / 32 * (1 + sLo sd w) ≤ 360 * 3 := Nat.mul_le_mul b.1 (by omega)
  refine bz_t c <| s_hasWalker hj (by omega) hs.2.1 <| bz_t (by rw [nI_int (by omega)]; omega) <| s_cost hi hj hW hs h6 hw ⟨vp_in_nI (by omega) (by decide), ?_⟩
  rw [clampI (by omega), (hs.2.2.2 w hw).2.2.1]
  by_cases d : w0 n rc as br / 32 * (1 + sLo sd w) ≤ sWo sd w
  · rw [bI_t ⟨c, d⟩] at h
    exact br_f (nI_nlt d (by omega)) h
  · rw [bI_f (fun q => d q.2)] at h
    exact br_t (nI_lt (by omega) (by omega)) h
theorem s_tread {i : Nat} {a1 : Int32} (hi : i < 2) (hl : (path n rc as br).length ≤ 18) (hW : WayF M i n rc as br) (h : Q (some (pI (if 0 ≤ a1.toInt ∧ a1.toInt < ((path n rc as br).length : Nat) then nI ((path n rc as br).getD a1.toInt.toNat 0) else -1000000))) M) : TT X kX2_tread 0 [some (pR (2, i, 0)), some (pI a1)] [] M Q := by
  refine rX2_tread_0 hi ?_
  rw [hW.2.1]
  by_cases c : 0 ≤ a1.toInt ∧ a1.toInt < ((path n rc as br).length : Nat)
  · rw [if_pos c] at h
    obtain ⟨k, hk, rfl⟩ : ∃ k : Nat, k < (path n rc as br).length ∧ a1 = nI k := ⟨a1.toInt.toNat, by omega, nI_is (by omega)⟩
    refine br_f (nI_pos (by omega)) <| br_f (nI_ge hk (by omega)) ⟨vp_in_nI (by omega) (by decide), ?_⟩
    rw [nI_int (by omega)] at h
    rw [clampI (by omega), hW.2.2 k hk]
    exact h
  · rw [if_neg c] at h
    refine ⟨fun _ => h, fun z => br_t ?_ h⟩
    rw [i32_lt, z0] at z
    rw [i32_le, nI_int (by omega)]
    omega
/-! the reference, behind layWay -/
theorem m_hasWay (hR : RR M (Lk n rc as br 0) 0) (h : Q (some (pI (bI (w0 n rc as br < INF)))) M) : TT X kX9_hasWay 0 [some (pR (9, 0, 0))] [] M Q := by
  refine rX9_hasWay_0 ?_
  have iI : INF = 1000000 := rfl
  rw [hR.1, ← w0_Lk]
  by_cases c : w0 n rc as br < INF
  · rw [bI_t c] at h
    rw [if_pos c]
    exact br_f (nI_ge (b := 100000) (by omega) (by decide)) h
  · rw [bI_f c] at h
    rw [if_neg c]
    exact br_t (by decide +kernel) h
theorem m_costOf {w : Nat} {sd : NF} (hw : w < 6) (h6 : ∀ x, x < 80 → M 9 0 6 x = nI (sd x)) (hR : RR M (Lk n rc as br 0) 0) (c : w0 n rc as br < INF) (h : Q (some (pI (nI (w0 n rc as br / 32 * (1 + sLo sd w))))) M) : TT X kX9_costOf 0 [some (pR (9, 0, 0)), some (pI (nI w))] [] M Q := by
  refine rX9_costOf_0 <| m_walker (k := 1) hw (by decide) ?_
  show Q _ _
  rw [hR.1, ← w0_Lk, if_pos c, h6 _ (by omega), show (1 : Int32) = nI 1 from rfl, nI_add, pk_mul, show 56 + 4 * w + 1 = 57 + 4 * w by omega]
  exact h
theorem m_goes {w : Nat} {sd : NF} (hn : n ≤ 18) (ha : ∀ s, s < n → as s ≤ 20) (hw : w < 6) (hl : sLo sd w ≤ 2) (hwo : sWo sd w ≤ 200) (h6 : ∀ x, x < 80 → M 9 0 6 x = nI (sd x)) (hR : RR M (Lk n rc as br 0) 0) (h : Q (some (pI (bI (w0 n rc as br < INF ∧ w0 n rc as br / 32 * (1 + sLo sd w) ≤ sWo sd w)))) M) : TT X kX9_goes 0 [some (pR (9, 0, 0)), some (pI (nI w))] [] M Q := by
  refine rX9_goes_0 <| m_hasWay hR ?_
  by_cases c : w0 n rc as br < INF
  rotate_left
  · rw [bI_f (fun q => c q.1)] at h
    exact bz_f c h
  have b := w0_fin ha hn c
  have pr : w0 n rc as br / 32 * (1 + sLo sd w) ≤ 360 * 3 := Nat.mul_le_mul b.1 (by omega)
  refine bz_t c <| m_costOf hw h6 hR c <| m_walker (k := 2) hw (by decide) ?_
  show _ ∧ _
  rw [h6 _ (by omega), show 56 + 4 * w + 2 = 58 + 4 * w by omega]
  show (nI (sWo sd w) < _ → _) ∧ (¬ nI (sWo sd w) < _ → _)
  by_cases d : w0 n rc as br / 32 * (1 + sLo sd w) ≤ sWo sd w
  · rw [bI_t ⟨c, d⟩] at h
    exact br_f (nI_nlt d (by omega)) h
  · rw [bI_f (fun q => d q.2)] at h
    exact br_t (nI_lt (by omega) (by omega)) h
theorem m_way_lp {b1 : Int32} {P : List Nat} {k : Nat} (hn : n ≤ 18) (hl : P.length ≤ 18) (hP : RP M n P) (hk : k < P.length) (h : Q (some (pI (nI (P.getD k n)))) M) : ∀ d q, q + d = k → TT X kX9_way 124 [some (pR (9, 0, 0)), some (pI b1), some (pI (nI k)), some (pI (nI (P.getD q n))), some (pI (nI q))] [] M Q := by
  intro d
  induction d with
  | zero =>
    intro q hq
    obtain rfl : q = k := by omega
    exact rX9_way_124 <| br_t (nI_le (Nat.le_refl _) (by omega)) h
  | succ d ih =>
    intro q hq
    obtain ⟨p1, p2⟩ := hP.2 q (by omega)
    refine rX9_way_124 <| br_f (nI_ge (by omega) (by omega)) ?_
    rw [nI_1, nI_1, clampI (by omega), p2]
    exact ⟨vp_in_nI (by omega) (by decide), ih (q + 1) (by omega)⟩
end WAY
