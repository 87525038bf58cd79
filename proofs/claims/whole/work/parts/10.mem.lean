/-! pure values: an int, a long, a cell (its class, its number among those of the class, 0 or 1 + the field that holds it); the memory -/
abbrev PR : Type := Nat × Nat × Nat
abbrev PV : Type := Int32 ⊕ (Int64 ⊕ PR)
abbrev pI (x : Int32) : PV := .inl x
abbrev pL (x : Int64) : PV := .inr (.inl x)
abbrev pR (r : PR) : PV := .inr (.inr r)
abbrev Mem : Type := Nat → Nat → Nat → Nat → Int32
def mset (M : Mem) (c i p x : Nat) (v : Int32) : Mem := fun c' i' p' x' => if c' = c ∧ i' = i ∧ p' = p ∧ x' = x then v else M c' i' p' x'
def marr (M : Mem) (c i p : Nat) (f : Nat → Int32) : Mem := fun c' i' p' x' => if c' = c ∧ i' = i ∧ p' = p then f x' else M c' i' p' x'
def CLx : List PR := [(8, 0, 0), (5, 0, 0), (5, 0, 1), (5, 0, 2), (5, 0, 3), (4, 0, 0), (4, 0, 1), (6, 0, 0), (6, 0, 3), (6, 0, 4), (6, 0, 5), (6, 0, 6), (6, 0, 7), (6, 0, 8), (6, 0, 9), (6, 1, 0), (6, 1, 3), (6, 1, 4), (6, 1, 5), (6, 1, 6), (6, 1, 7), (6, 1, 8), (6, 1, 9), (6, 2, 0), (6, 2, 3), (6, 2, 4), (6, 2, 5), (6, 2, 6), (6, 2, 7), (6, 2, 8), (6, 2, 9), (8, 0, 6), (6, 3, 0), (6, 3, 3), (6, 3, 4), (6, 3, 5), (6, 3, 6), (6, 3, 7), (6, 3, 8), (6, 3, 9), (6, 4, 0), (6, 4, 3), (6, 4, 4), (6, 4, 5), (6, 4, 6), (6, 4, 7), (6, 4, 8), (6, 4, 9), (0, 0, 0), (0, 0, 1), (0, 0, 2), (0, 0, 3), (2, 0, 0), (2, 0, 1), (2, 0, 2), (2, 0, 3), (3, 0, 0), (2, 1, 0), (2, 1, 1), (2, 1, 2), (2, 1, 3), (7, 0, 0), (7, 0, 1), (1, 0, 0), (1, 0, 1)]
def CLm : List PR := [(9, 0, 0), (9, 0, 3), (9, 0, 4), (9, 0, 5), (9, 0, 6), (9, 0, 7), (9, 0, 9), (9, 0, 11), (9, 0, 21), (9, 0, 22), (9, 0, 23), (9, 0, 24), (9, 0, 25), (9, 0, 26), (9, 0, 28), (9, 0, 29), (9, 0, 30)]
def CL : List PR := CLx ++ CLm
theorem CL_nodup : CL.Nodup := by decide +kernel
def aLen : Nat → Nat → Nat := fun c p => match c, p with
  | 0, 1 => 24
  | 0, 2 => 24
  | 0, 3 => 24
  | 1, 1 => 16
  | 2, 1 => 20
  | 2, 2 => 20
  | 2, 3 => 18
  | 4, 1 => 400
  | 5, 1 => 8
  | 5, 2 => 8
  | 5, 3 => 320
  | 6, 3 => 18
  | 6, 4 => 18
  | 6, 5 => 18
  | 6, 6 => 6
  | 6, 7 => 6
  | 6, 8 => 6
  | 6, 9 => 6
  | 7, 1 => 5
  | 8, 6 => 2
  | 9, 3 => 8
  | 9, 4 => 8
  | 9, 5 => 320
  | 9, 6 => 80
  | 9, 7 => 80
  | 9, 9 => 1920
  | 9, 11 => 400
  | 9, 21 => 18
  | 9, 22 => 18
  | 9, 23 => 19
  | 9, 24 => 19
  | 9, 25 => 19
  | 9, 26 => 18
  | 9, 28 => 2
  | 9, 29 => 160
  | 9, 30 => 16
  | _, _ => 0
def fRef : Nat → Nat → Nat → Option PR := fun c i f => match c, f with
  | 0, 0 => some (0, i, 1)
  | 0, 1 => some (0, i, 2)
  | 0, 2 => some (0, i, 3)
  | 1, 0 => some (1, i, 1)
  | 2, 0 => some (2, i, 1)
  | 2, 1 => some (2, i, 2)
  | 2, 2 => some (2, i, 3)
  | 3, 0 => some (2, 1, 0)
  | 4, 0 => some (4, i, 1)
  | 5, 0 => some (5, i, 1)
  | 5, 1 => some (5, i, 2)
  | 5, 2 => some (5, i, 3)
  | 6, 2 => some (6, i, 3)
  | 6, 3 => some (6, i, 4)
  | 6, 4 => some (6, i, 5)
  | 6, 5 => some (6, i, 6)
  | 6, 6 => some (6, i, 7)
  | 6, 7 => some (6, i, 8)
  | 6, 8 => some (6, i, 9)
  | 7, 0 => some (7, i, 1)
  | 8, 0 => some (5, 0, 0)
  | 8, 1 => some (4, 0, 0)
  | 8, 2 => some (6, 0, 0)
  | 8, 3 => some (6, 1, 0)
  | 8, 4 => some (6, 2, 0)
  | 8, 5 => some (8, i, 6)
  | 8, 6 => some (0, 0, 0)
  | 8, 7 => some (2, 0, 0)
  | 8, 8 => some (3, 0, 0)
  | 8, 9 => some (7, 0, 0)
  | 8, 10 => some (1, 0, 0)
  | 9, 2 => some (9, i, 3)
  | 9, 3 => some (9, i, 4)
  | 9, 4 => some (9, i, 5)
  | 9, 5 => some (9, i, 6)
  | 9, 6 => some (9, i, 7)
  | 9, 8 => some (9, i, 9)
  | 9, 10 => some (9, i, 11)
  | 9, 20 => some (9, i, 21)
  | 9, 21 => some (9, i, 22)
  | 9, 22 => some (9, i, 23)
  | 9, 23 => some (9, i, 24)
  | 9, 24 => some (9, i, 25)
  | 9, 25 => some (9, i, 26)
  | 9, 27 => some (9, i, 28)
  | 9, 28 => some (9, i, 29)
  | 9, 29 => some (9, i, 30)
  | _, _ => none
def nFld (c : Nat) : Nat := match vwCl[c]? with | some q => q.2.2 | none => 0
/-- what a world is at: the classes' numbers and slots, the addresses, the array classes (int, boolean, Stair) -/
abbrev Gh : Type := va_G × (PR → Nat) × ClassId × ClassId × ClassId
def pv (ad : PR → Nat) (v : PV) : Value := match v with
  | .inl x => .int x
  | .inr (.inl x) => .long x
  | .inr (.inr r) => .ref (ad r)
def fVal (G : Gh) (M : Mem) (c i f : Nat) : Value := match fRef c i f with
  | some r => .ref (G.2.1 r)
  | none => .int (M c i 0 f)
def flds (G : Gh) (M : Mem) (c i : Nat) : List Value := (List.range (nFld c)).map (fVal G M c i)
def ent (G : Gh) (M : Mem) (r : PR) : va_E := match r with
  | (c, i, 0) => .inr (c, flds G M c i)
  | (c, i, p + 1) => if c = 8 then .inl (G.2.2.2.2, 2, .inr (.inr (.inr (.inr (fun j => some (G.2.1 (6, j + 3, 0)))))))
    else if c = 9 ∧ p + 1 = 28 then .inl (G.2.2.2.1, aLen c (p + 1), .inl (M c i (p + 1)))
    else .inl (G.2.2.1, aLen c (p + 1), .inl (M c i (p + 1)))
def wl (G : Gh) (M : Mem) : va_W := CL.map (fun r => (G.2.1 r, ent G M r))
def tyG (G : Gh) : List (ClassId × FieldType) := [(G.2.2.1, .int), (G.2.2.2.1, .boolean), (G.2.2.2.2, .object RX6)]
def aG (G : Gh) : Nat → Prop := fun q => ∃ r ∈ CL, q = G.2.1 r
theorem wl_at (G : Gh) (M : Mem) {q : Nat} {r : PR} (h : CL[q]? = some r) : (wl G M)[q]? = some (G.2.1 r, ent G M r) := by
  simp [wl, h]
theorem cl_at {r : PR} (h : r ∈ CL) : ∃ q : Nat, CL[q]? = some r := List.getElem?_of_mem h
theorem CL_inj {a b : Nat} {r : PR} (ha : CL[a]? = some r) (hb : CL[b]? = some r) : a = b := by
  obtain ⟨la, ea⟩ := List.getElem?_eq_some_iff.mp ha
  obtain ⟨lb, eb⟩ := List.getElem?_eq_some_iff.mp hb
  exact (List.getElem_inj CL_nodup).mp (ea.trans eb.symm)
theorem wl_set (G : Gh) (M M' : Mem) {q : Nat} {r : PR} (h : CL[q]? = some r) (ho : ∀ r' ∈ CL, r' ≠ r → ent G M' r' = ent G M r') {e : va_E} (he : e = ent G M' r) : (wl G M).set q (G.2.1 r, e) = wl G M' := by
  subst he
  apply List.ext_getElem?
  intro j
  by_cases hj : q = j
  · subst hj
    have hl : q < (wl G M).length := by
      have := (List.getElem?_eq_some_iff.mp h).1
      simpa [wl] using this
    rw [List.getElem?_set_self hl, wl_at G M' h]
  · rw [List.getElem?_set_ne hj]
    cases hc : CL[j]? with
    | none => simp [wl, hc]
    | some r' =>
      rw [wl_at G M hc, wl_at G M' hc, ho r' (List.mem_of_getElem? hc) (fun e => hj (CL_inj h (e ▸ hc)))]
theorem mset_other {M : Mem} {c i p x : Nat} {v : Int32} {c' i' p' : Nat} (h : (c', i', p') ≠ (c, i, p)) : mset M c i p x v c' i' p' = M c' i' p' := by
  funext y
  unfold mset
  rw [if_neg]
  rintro ⟨rfl, rfl, rfl, -⟩
  exact h rfl
theorem mset_self {M : Mem} {c i p x : Nat} {v : Int32} : mset M c i p x v c i p = upd (M c i p) x v := by
  funext y
  by_cases h : y = x <;> simp [mset, upd, h]
theorem marr_other {M : Mem} {c i p : Nat} {f : Nat → Int32} {c' i' p' : Nat} (h : (c', i', p') ≠ (c, i, p)) : marr M c i p f c' i' p' = M c' i' p' := by
  funext y
  unfold marr
  rw [if_neg]
  rintro ⟨rfl, rfl, rfl⟩
  exact h rfl
theorem marr_self {M : Mem} {c i p : Nat} {f : Nat → Int32} : marr M c i p f c i p = f := by
  funext y
  simp [marr]
theorem ent_other (G : Gh) {M M' : Mem} {r : PR} (h : M' r.1 r.2.1 r.2.2 = M r.1 r.2.1 r.2.2) : ent G M' r = ent G M r := by
  obtain ⟨c, i, p⟩ := r
  cases p with
  | zero =>
    simp only [ent]
    have e : flds G M' c i = flds G M c i := by
      unfold flds
      apply List.map_congr_left
      intro f _
      unfold fVal
      cases fRef c i f with
      | some r => rfl
      | none => exact congrArg Value.int (congrFun h f)
    rw [e]
  | succ p =>
    simp only [ent]
    have h : M' c i (p + 1) = M c i (p + 1) := h
    rw [h]
theorem wl_mset (G : Gh) (M : Mem) {q : Nat} {c i p x : Nat} {v : Int32} (h : CL[q]? = some (c, i, p)) {e : va_E} (he : e = ent G (mset M c i p x v) (c, i, p)) : (wl G M).set q (G.2.1 (c, i, p), e) = wl G (mset M c i p x v) :=
  wl_set G M _ h (fun r' _ hr => ent_other G (mset_other hr)) he
theorem wl_marr (G : Gh) (M : Mem) {q : Nat} {c i p : Nat} {f : Nat → Int32} (h : CL[q]? = some (c, i, p)) {e : va_E} (he : e = ent G (marr M c i p f) (c, i, p)) : (wl G M).set q (G.2.1 (c, i, p), e) = wl G (marr M c i p f) :=
  wl_set G M _ h (fun r' _ hr => ent_other G (marr_other hr)) he
theorem flds_at (G : Gh) (M : Mem) {c i f : Nat} (h : f < nFld c) : (flds G M c i)[f]? = some (fVal G M c i f) := by
  simp [flds, h]
theorem flds_len (G : Gh) (M : Mem) {c i : Nat} : (flds G M c i).length = nFld c := by simp [flds]
theorem flds_set (G : Gh) (M : Mem) {c i f : Nat} {v : Int32} (hr : fRef c i f = none) : (flds G M c i).set f (.int v) = flds G (mset M c i 0 f v) c i := by
  apply List.ext_getElem?
  intro j
  by_cases hj : f = j
  · subst hj
    by_cases hl : f < nFld c
    · rw [List.getElem?_set_self (by rw [flds_len]; exact hl), flds_at _ _ hl]
      simp [fVal, hr, mset]
    · rw [List.getElem?_eq_none (by rw [List.length_set, flds_len]; omega), List.getElem?_eq_none (by rw [flds_len]; omega)]
  · rw [List.getElem?_set_ne hj]
    by_cases hl : j < nFld c
    · rw [flds_at _ _ hl, flds_at _ _ hl]
      unfold fVal
      cases fRef c i j with
      | some r => rfl
      | none =>
        have : mset M c i 0 f v c i 0 j = M c i 0 j := by simp [mset, Ne.symm hj]
        simp only [this]
    · rw [List.getElem?_eq_none (by rw [flds_len]; omega), List.getElem?_eq_none (by rw [flds_len]; omega)]
/-! the locals -/
def lvl (ad : PR → Nat) : Nat → List (Option PV) → List (Nat × Value)
  | _, [] => []
  | j, none :: t => lvl ad (j + 1) t
  | j, some v :: t => (j, pv ad v) :: lvl ad (j + 1) t
theorem lvl_mem {ad : PR → Nat} {q : Nat × Value} : ∀ {ls : List (Option PV)} {j : Nat}, q ∈ lvl ad j ls ↔ ∃ (n : Nat) (v : PV), ls[n]? = some (some v) ∧ q = (j + n, pv ad v)
  | [], j => by simp [lvl]
  | none :: t, j => by
    rw [lvl, lvl_mem]
    constructor
    · rintro ⟨n, v, h1, h2⟩
      exact ⟨n + 1, v, by simpa using h1, by rw [h2]; congr 1; omega⟩
    · rintro ⟨n, v, h1, h2⟩
      cases n with
      | zero => simp at h1
      | succ n => exact ⟨n, v, by simpa using h1, by rw [h2]; congr 1; omega⟩
  | some w :: t, j => by
    rw [lvl, List.mem_cons, lvl_mem]
    constructor
    · rintro (h | ⟨n, v, h1, h2⟩)
      · exact ⟨0, w, by simp, by simpa using h⟩
      · exact ⟨n + 1, v, by simpa using h1, by rw [h2]; congr 1; omega⟩
    · rintro ⟨n, v, h1, h2⟩
      cases n with
      | zero =>
        have : w = v := by simpa using h1
        subst this
        exact Or.inl (by simpa using h2)
      | succ n => exact Or.inr ⟨n, v, by simpa using h1, by rw [h2]; congr 1; omega⟩
theorem lvl_at {ad : PR → Nat} {lsA : Array Slot} {nL : Nat} {ls : List (Option PV)} (h : lv_has lsA nL (lvl ad 0 ls)) {i : Nat} {v : PV} (hi : ls[i]? = some (some v)) : lsA[i]? = some (.val (pv ad v)) :=
  h.2.2 (i, pv ad v) (lvl_mem.mpr ⟨i, v, hi, by simp⟩)
/-- no long stands just below place i -/
def okSt (ls : List (Option PV)) (i : Nat) : Bool := match i with
  | 0 => true
  | j + 1 => match ls[j]? with
    | some (some (.inr (.inl _))) => false
    | _ => true
theorem pv_cat (ad : PR → Nat) (v : PV) : (pv ad v).category = 2 → ∃ x, v = .inr (.inl x) := by
  rcases v with x | x | x
  · intro h; simp [pv, Value.category] at h
  · intro _; exact ⟨x, rfl⟩
  · intro h; simp [pv, Value.category] at h
theorem okSt_no {ad : PR → Nat} {ls : List (Option PV)} {i n : Nat} {w : PV} (ho : okSt ls i = true) (hw : ls[n]? = some (some w)) (hn : n + 1 = i) : ¬ (pv ad w).category = 2 := by
  intro h
  obtain ⟨x, rfl⟩ := pv_cat ad w h
  subst hn
  simp [okSt, hw] at ho
theorem lvl_st {ad : PR → Nat} {lsA : Array Slot} {nL i : Nat} {ls : List (Option PV)} {v : PV} (ho : okSt ls i = true) (h : lv_has lsA nL ((i, pv ad v) :: (lvl ad 0 ls).filter (fun q => !(q.1 == i) && !(q.1 + 1 == i && q.2.category == 2)))) : lv_has lsA nL (lvl ad 0 (ls.set i (some v))) := by
  refine ⟨h.1, h.2.1, fun q hq => h.2.2 q ?_⟩
  obtain ⟨n, w, hn, rfl⟩ := lvl_mem.mp hq
  by_cases e : i = n
  · subst e
    have hl : i < ls.length := by
      have := (List.getElem?_eq_some_iff.mp hn).1
      simpa using this
    rw [List.getElem?_set_self hl] at hn
    have : v = w := by simpa using hn
    subst this
    simp
  · rw [List.getElem?_set_ne e] at hn
    refine List.mem_cons_of_mem _ (List.mem_filter.mpr ⟨lvl_mem.mpr ⟨n, w, hn, rfl⟩, ?_⟩)
    have e2 : ¬ n = i := fun z => e z.symm
    by_cases e3 : n + 1 = i
    · have := okSt_no (ad := ad) ho hn e3
      simp [e2, this]
    · simp [e2, e3]
theorem lvl_st2 {ad : PR → Nat} {lsA : Array Slot} {nL i : Nat} {ls : List (Option PV)} {v : PV} (ho : okSt ls i = true) (h : lv_has lsA nL ((i, pv ad v) :: (lvl ad 0 ls).filter (fun q => !(q.1 == i) && (!(q.1 == i + 1) && !(q.1 + 1 == i && q.2.category == 2))))) : lv_has lsA nL (lvl ad 0 ((ls.set i (some v)).set (i + 1) none)) := by
  refine ⟨h.1, h.2.1, fun q hq => h.2.2 q ?_⟩
  obtain ⟨n, w, hn, rfl⟩ := lvl_mem.mp hq
  by_cases e1 : i + 1 = n
  · subst e1
    by_cases hl : i + 1 < (ls.set i (some v)).length
    · rw [List.getElem?_set_self hl] at hn
      simp at hn
    · rw [List.getElem?_eq_none (by rw [List.length_set]; omega)] at hn
      cases hn
  rw [List.getElem?_set_ne e1] at hn
  by_cases e : i = n
  · subst e
    have hl : i < ls.length := by
      have := (List.getElem?_eq_some_iff.mp hn).1
      simpa using this
    rw [List.getElem?_set_self hl] at hn
    have : v = w := by simpa using hn
    subst this
    simp
  · rw [List.getElem?_set_ne e] at hn
    refine List.mem_cons_of_mem _ (List.mem_filter.mpr ⟨lvl_mem.mpr ⟨n, w, hn, rfl⟩, ?_⟩)
    have e2 : ¬ n = i := fun z => e z.symm
    have e4 : ¬ n = i + 1 := fun z => e1 z.symm
    by_cases e3 : n + 1 = i
    · have := okSt_no (ad := ad) ho hn e3
      simp [e2, e4, this]
    · simp [e2, e3, e4]
/-- the locals at a method's entry -/
def enL : List PV → List (Option PV)
  | [] => []
  | .inl x :: t => some (.inl x) :: enL t
  | .inr (.inl x) :: t => some (.inr (.inl x)) :: none :: enL t
  | .inr (.inr x) :: t => some (.inr (.inr x)) :: enL t
def eLs (vs : List PV) (n : Nat) : List (Option PV) := enL vs ++ List.replicate (n - (enL vs).length) none
theorem lvl_nones (ad : PR → Nat) : ∀ (n j : Nat), lvl ad j (List.replicate n none) = []
  | 0, _ => rfl
  | n + 1, j => by rw [List.replicate_succ, lvl, lvl_nones]
theorem lvl_app (ad : PR → Nat) : ∀ (a b : List (Option PV)) (j : Nat), lvl ad j (a ++ b) = lvl ad j a ++ lvl ad (j + a.length) b
  | [], b, j => by simp [lvl]
  | none :: a, b, j => by
    rw [List.cons_append, lvl, lvl, lvl_app, List.length_cons]
    congr 2
    omega
  | some v :: a, b, j => by
    rw [List.cons_append, lvl, lvl, lvl_app, List.length_cons, List.cons_append]
    congr 3
    omega
theorem lvl_en (ad : PR → Nat) : ∀ (vs : List PV) (j : Nat), lvl ad j (enL vs) = lv_args j (vs.map (pv ad))
  | [], _ => rfl
  | .inl x :: t, j => by
    simp only [enL, lvl, List.map, lv_args, lvl_en]
    rfl
  | .inr (.inl x) :: t, j => by
    simp only [enL, lvl, List.map, lv_args, lvl_en]
    rfl
  | .inr (.inr x) :: t, j => by
    simp only [enL, lvl, List.map, lv_args, lvl_en]
    rfl
theorem lvl_entry (ad : PR → Nat) (vs : List PV) (n : Nat) : lvl ad 0 (eLs vs n) = lv_args 0 (vs.map (pv ad)) := by
  rw [eLs, lvl_app, lvl_nones, List.append_nil, lvl_en]
theorem enL_len (ad : PR → Nat) : ∀ (vs : List PV), (lg_sl (vs.map (pv ad))).length = (enL vs).length
  | [] => rfl
  | .inl x :: t => by
    have h := enL_len ad t
    show (([Slot.val (.int x)] : List Slot) ++ lg_sl (t.map (pv ad))).length = (enL t).length + 1
    rw [List.length_append, h]
    simp
    omega
  | .inr (.inl x) :: t => by
    have h := enL_len ad t
    show (([Slot.val (.long x), Slot.second] : List Slot) ++ lg_sl (t.map (pv ad))).length = (enL t).length + 1 + 1
    rw [List.length_append, h]
    simp
    omega
  | .inr (.inr x) :: t => by
    have h := enL_len ad t
    show (([Slot.val (.ref (ad x))] : List Slot) ++ lg_sl (t.map (pv ad))).length = (enL t).length + 1
    rw [List.length_append, h]
    simp
    omega
