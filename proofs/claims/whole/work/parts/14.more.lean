/-! more rules -/
theorem rI_mono {F F' : Int32 → Mem → Prop} (h : ∀ v M, F v M → F' v M) : ∀ (r : Option PV) (M : Mem), rI F r M → rI F' r M := by
  intro r M q
  rcases r with _ | v | v | v
  · exact q.elim
  · exact h v M q
  · exact q.elim
  · exact q.elim
theorem rL_mono {F F' : Int64 → Mem → Prop} (h : ∀ v M, F v M → F' v M) : ∀ (r : Option PV) (M : Mem), rL F r M → rL F' r M := by
  intro r M q
  rcases r with _ | v | v | v
  · exact q.elim
  · exact q.elim
  · exact h v M q
  · exact q.elim
theorem rV_mono {F F' : Mem → Prop} (h : ∀ M, F M → F' M) : ∀ (r : Option PV) (M : Mem), rV F r M → rV F' r M := by
  intro r M q
  rcases r with _ | v | v | v
  · exact h M q
  · exact q.elim
  · exact q.elim
  · exact q.elim
def maskL (m : List Bool) (ls : List (Option PV)) : List (Option PV) := List.zipWith (fun b v => cond b v none) m ls
section MORE
variable {X : Nat × (Nat → Int32)} {k : MI} {pc : Nat} {ls : List (Option PV)} {st : List PV} {M : Mem} {Q : Option PV → Mem → Prop}
theorem T_mask (m : List Bool) (h : TT X k pc (maskL m ls) st M Q) : TT X k pc ls st M Q := by
  intro G p l e R s m' args below meth c H locs cells slots QQ lsA B hc hs hP hD hS hl K
  refine h G p l e R s m' args below meth c H locs cells slots QQ lsA B hc hs hP hD hS ⟨hl.1, hl.2.1, fun q hq => hl.2.2 q ?_⟩ K
  obtain ⟨n, v, h1, h2⟩ := lvl_mem.mp hq
  refine lvl_mem.mpr ⟨n, v, ?_, h2⟩
  rw [maskL, List.getElem?_zipWith] at h1
  cases hm : m[n]? with
  | none => simp [hm] at h1
  | some b =>
    cases hn : ls[n]? with
    | none => simp [hm, hn] at h1
    | some w =>
      cases b with
      | false => simp [hm, hn] at h1
      | true => simpa [hm, hn] using h1
theorem T_ialdN {ci i p n jn : Nat} {j : Int32} (hdg : decode k.2.1 pc = .ok (.iaload, 1)) (hr : (ci, i, p) ∈ CL) (hp : p ≠ 0) (h8 : ci ≠ 8) (h9 : ¬ (ci = 9 ∧ p = 28)) (hn : aLen ci p = n) (hin : vp_in j n) (hj : j.toNatClampNeg = jn) (h : TT X k (pc + 1) ls (pI (M ci i p jn) :: st) M Q) : TT X k pc ls (pI j :: pR (ci, i, p) :: st) M Q := by
  subst hj
  exact T_iald hdg hr hp h8 h9 hn hin h
theorem T_iastN {ci i p n jn : Nat} {j x : Int32} (hdg : decode k.2.1 pc = .ok (.iastore, 1)) (hr : (ci, i, p) ∈ CL) (hp : p ≠ 0) (h8 : ci ≠ 8) (h9 : ¬ (ci = 9 ∧ p = 28)) (hn : aLen ci p = n) (hin : vp_in j n) (hj : j.toNatClampNeg = jn) (h : TT X k (pc + 1) ls st (mset M ci i p jn x) Q) : TT X k pc ls (pI x :: pI j :: pR (ci, i, p) :: st) M Q := by
  subst hj
  exact T_iast hdg hr hp h8 h9 hn hin h
theorem T_sld {j : Int32} (hdg : decode k.2.1 pc = .ok (.iaload, 1)) (hin : vp_in j X.1) (h : TT X k (pc + 1) ls (pI (X.2 j.toNatClampNeg) :: st) M Q) : TT X k pc ls (pI j :: pR (30, 0, 0) :: st) M Q := by
  intro G p l e R s m' args below meth c H locs cells slots QQ lsA B hc hs hP hD hS hl K
  obtain ⟨-, -, -, -, -, hX, hlt, hna⟩ := B.2.2.2.2.2.2.1
  exact va_sld B.1 B.2.1 hX hlt hna hS hin hdg (h G p l e R s m' args below meth c H locs cells slots QQ lsA B hc hs hP hD hS hl K)
theorem T_slen (hdg : decode k.2.1 pc = .ok (.arraylength, 1)) (h : TT X k (pc + 1) ls (pI (Int32.ofNat X.1) :: st) M Q) : TT X k pc ls (pR (30, 0, 0) :: st) M Q := by
  intro G p l e R s m' args below meth c H locs cells slots QQ lsA B hc hs hP hD hS hl K
  obtain ⟨-, -, -, -, -, hX, hlt, hna⟩ := B.2.2.2.2.2.2.1
  exact va_slen B.1 B.2.1 hX hlt hna hS hdg (h G p l e R s m' args below meth c H locs cells slots QQ lsA B hc hs hP hD hS hl K)
theorem T_ldcS0 (hdg : decode k.2.1 pc = .ok (.ldc 36, 2)) (hk : k.1.cls = RX4) (h : TT X k (pc + 2) ls (pR (10, 0, 0) :: st) M Q) : TT X k pc ls st M Q := by
  intro G p l e R s m' args below meth c H locs cells slots QQ lsA B hc hs hP hD hS hl K
  have hown := B.2.2.2.1
  rw [hk] at hown
  exact va_ldcS B.1 B.2.1 hown B.2.2.2.2.2.2.1.2.1 hdg (h G p l e R s m' args below meth c H locs cells slots QQ lsA B hc hs hP hD hS hl K)
theorem T_ldcS1 (hdg : decode k.2.1 pc = .ok (.ldc 50, 2)) (hk : k.1.cls = RX4) (h : TT X k (pc + 2) ls (pR (10, 1, 0) :: st) M Q) : TT X k pc ls st M Q := by
  intro G p l e R s m' args below meth c H locs cells slots QQ lsA B hc hs hP hD hS hl K
  have hown := B.2.2.2.1
  rw [hk] at hown
  exact va_ldcS B.1 B.2.1 hown B.2.2.2.2.2.2.1.2.2.1 hdg (h G p l e R s m' args below meth c H locs cells slots QQ lsA B hc hs hP hD hS hl K)
end MORE
/-- the two texts: lengths, signs -/
def strN (j : Nat) : Nat := if j = 0 then 4 else 6
def strL (j : Nat) : Int32 := if j = 0 then 4 else 6
def strC (j n : Nat) : Int32 := (if j = 0 then [115, 116, 101, 112] else [119, 97, 108, 107, 101, 114] : List Int32).getD n 0
