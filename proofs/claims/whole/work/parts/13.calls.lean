/-! a method's contract out of its judgement; calls -/
def Wd (X : Nat × (Nat → Int32)) (G : Gh) (M : Mem) (U : State) : Prop := va_P G.1 vwCl (wl G M) U.heap ∧ va_D (aG G) (wl G M) ∧ va_K G.1 vwCl (tyG G) U ∧ Ex X G U U.heap
def We (G : Gh) (M : Mem) (t : State) : Prop := va_P G.1 vwCl (wl G M) t.heap ∧ va_D (aG G) (wl G M)
def rmK (k : MI) : Room := { frames := k.2.2.2.2.1, cells := 0, slots := 0, locals := k.2.2.2.2.2 }
def wsK (k : MI) : List Cond := Cond.code k.1 k.2.1 k.2.2.1 k.2.2.2.1 :: GW
theorem Wd.blind {X : Nat × (Nat → Int32)} {G : Gh} {M : Mem} {vs : List Value} : FrameBlind (va_Pc vs (Wd X G M)) := by
  rintro a U g mk ⟨h1, h2, h3, h4, h5⟩
  exact ⟨h1, h2, h3, va_K.moved (u := U) (U := U.calling g mk a) (Vm.Alike.refl U.vm) h4, h5.blind g mk a⟩
section MET
variable {X : Nat × (Nat → Int32)}
theorem metW {k : MI} {vs : List PV} {M : Mem} {Q : Option PV → Mem → Prop} {Qc : Array Value → State → Outcome → State → Prop} {l : Launch} {G : Gh} (hy : plainName k.1.cls = true) (hlen : (enL vs).length ≤ k.2.2.1) (hT : TT X k 0 (eLs vs k.2.2.1) [] M Q)
    (hend : ∀ (args : Array Value) (s t : State) (r : Option PV) (M' : Mem), Q r M' → We G M' t → va_F (aG G) s t → Qc args s (.returned (r.map (pv G.2.1))) t) :
    Met l k.1 (wsK k) (rmK k) (va_Pc (vs.map (pv G.2.1)) (Wd X G M)) Qc 0 0 (aG G) := by
  refine Met.ofW (cc := k.2.1) (maxL := k.2.2.1) (ret := k.2.2.2.1) hy rfl ?_
  intro p e s m args below meth c s₁ B hml hv
  obtain ⟨rfl, hP, hD, hK, hE⟩ := hv
  have hts := atoms_spec (ws := wsK k) B.pre
  have hown : s.vm.findClass k.1.cls = some m.cls := findClass_of_methodNamed B.named
  have hlocks := B.notSynchronized
  have hl := lv_entry (vs.map (pv G.2.1)) (n := k.2.2.1) (by rw [enL_len]; exact hlen)
  rw [← lvl_entry G.2.1 vs k.2.2.1] at hl
  rw [lg_entry_eq]
  refine hT G p l e _ s m _ below meth c s.heap [] 0 0 _ _ ⟨B.exec, B.bytes, hml, hown, fun w hw => hts w (List.mem_cons_of_mem _ hw), hK, hE, Nat.le_refl _, Nat.le_refl _⟩ (Nat.zero_le _) (Nat.zero_le _) hP hD va_S.rf hl ?_
  intro r M' H' locs' pc' lsA' hq hP' hD' hS' hR
  rcases r with _ | v | v | v
  · exact W.vret B.exec B.bytes (B.returns.trans hR.2) (fun t ht hW => hend _ s t none M' hq ⟨by rw [ht]; exact hP', hD'⟩ (hS'.F ht)) hS'.2.2 hR.1 hlocks
  · obtain ⟨hd, ty, hr, hn⟩ := hR
    exact W.zret (v := v) B.exec B.bytes (B.returns.trans hr) hn (fun t ht hW => hend _ s t (some (.inl v)) M' hq ⟨by rw [ht]; exact hP', hD'⟩ (hS'.F ht)) hS'.2.2 hd hlocks
  · exact W.lret (v := v) B.exec B.bytes (B.returns.trans hR.2) (fun t ht hW => hend _ s t (some (.inr (.inl v))) M' hq ⟨by rw [ht]; exact hP', hD'⟩ (hS'.F ht)) hS'.2.2 hR.1 hlocks
  · exact hR.elim
/-- what a caller does with the answer -/
def rI (F : Int32 → Mem → Prop) : Option PV → Mem → Prop := fun r M' => match r with
  | some (.inl v) => F v M'
  | _ => False
def rL (F : Int64 → Mem → Prop) : Option PV → Mem → Prop := fun r M' => match r with
  | some (.inr (.inl v)) => F v M'
  | _ => False
def rV (F : Mem → Prop) : Option PV → Mem → Prop := fun r M' => match r with
  | none => F M'
  | _ => False
def okK (k : MI) (n : Nat) : Bool := plainName k.1.cls && (decide (k.1.cls ≠ "java/lang/invoke/MethodHandle") && (decide (k.1.cls ≠ "java/lang/invoke/VarHandle") && decide ((parseMethodDescriptor k.1.desc).map (fun d => d.parameters.length) = some n)))
def fitK (k k' : MI) : Bool := decide (k'.2.2.2.2.1 + 1 ≤ k.2.2.2.2.1) && decide (8 + (k'.2.2.1 + 11) + k'.2.2.2.2.2 ≤ k.2.2.2.2.2)
def virtK (k : MI) (n : Nat) : Prop := Cond.instanceMethod k.1 ∈ GW ∧ Cond.selects k.1.cls k.1 k.1 ∈ GW ∧ Cond.initialized k.1.cls ∈ GW ∧ Cond.code k.1 k.2.1 k.2.2.1 k.2.2.2.1 ∈ GW ∧ okK k n = true
def statK (k : MI) (n : Nat) : Prop := Cond.static k.1 ∈ GW ∧ Cond.initialized k.1.cls ∈ GW ∧ Cond.code k.1 k.2.1 k.2.2.1 k.2.2.2.1 ∈ GW ∧ okK k n = true
def catP : PV → Nat
  | .inl _ => 1
  | .inr (.inl _) => 2
  | .inr (.inr _) => 1
def catS : List PV → Nat
  | [] => 0
  | v :: t => catP v + catS t
theorem catS_eq (ad : PR → Nat) : ∀ st : List PV, ((st.map (pv ad)).map fun v => v.category).sum = catS st
  | [] => rfl
  | .inl x :: t => by
    have h := catS_eq ad t
    simp only [List.map_cons, List.sum_cons, h]
    rfl
  | .inr (.inl x) :: t => by
    have h := catS_eq ad t
    simp only [List.map_cons, List.sum_cons, h]
    rfl
  | .inr (.inr x) :: t => by
    have h := catS_eq ad t
    simp only [List.map_cons, List.sum_cons, h]
    rfl
variable {k k' : MI} {pc idx n : Nat} {ls lsC : List (Option PV)} {st stk vs : List PV} {M : Mem} {Q : Option PV → Mem → Prop}
theorem callB_K {G : Gh} {p : Program} {R : Room} {s : State} {m : MethodId} {args : Array Value} {c : Code} (B : Base X G k p R s m args c) (hw : Cond.methodLink k.1.cls idx k'.1 ∈ GW) (hini : Cond.initialized k'.1.cls ∈ GW) (hcode : Cond.code k'.1 k'.2.1 k'.2.2.1 k'.2.2.2.1 ∈ GW) (hok : okK k' n = true) (hfit : fitK k k' = true) :
    CallB R s args k.1.cls idx k'.1 k'.2.1 k'.2.2.1 k'.2.2.2.1 (wsK k') (rmK k') 0 0 n := by
  obtain ⟨-, -, -, -, hts, -, -, b8, b9⟩ := B
  simp only [okK, Bool.and_eq_true, decide_eq_true_eq] at hok
  simp only [fitK, Bool.and_eq_true, decide_eq_true_eq] at hfit
  refine callB_of (Ts := GW) (ws' := GW) n hts (fun w h => ?_) rfl rfl rfl (hts _ hini) (hts _ hw) ⟨hok.2.1, hok.2.2.1, hok.2.2.2⟩ ⟨Nat.le_trans hfit.1 b8, Nat.le_trans hfit.2 b9⟩
  rcases List.mem_cons.mp h with rfl | h
  · exact gw_good _ hcode
  · exact gw_good _ h
theorem preS_K {G : Gh} {p : Program} {R : Room} {s : State} {m : MethodId} {args : Array Value} {c : Code} {H : Heap} {locs : List Loc} (B : Base X G k p R s m args c) (hP : va_P G.1 vwCl (wl G M) H) (hD : va_D (aG G) (wl G M)) (hS : va_S (aG G) s.heap H locs) (us : List Value) : ∀ U : State, U.heap = H → s.WarmedH U.vm → va_Pc us (Wd X G M) us.toArray U := by
  intro U hU hW
  obtain ⟨-, -, -, -, -, hK, hE, -, -⟩ := B
  refine ⟨rfl, by rw [hU]; exact hP, hD, va_K.moved hW.alike hK, ?_⟩
  rw [hU]
  exact (hE.kept hS.1 hS.2.1).warm hW
theorem runV_K {G : Gh} {p : Program} {l : Launch} {e : Env} {R : Room} {s : State} {m : MethodId} {args : Array Value} {below : List Frame} {meth : Method} {c : Code} {H : Heap} {locs : List Loc} {cells slots : Nat} {lsA : Array Slot} {Qc : Array Value → State → Outcome → State → Prop} {ci i : Nat}
    (B : Base X G k p R s m args c) (hc : cells ≤ R.cells) (hs : slots ≤ R.slots) (hP : va_P G.1 vwCl (wl G M) H) (hD : va_D (aG G) (wl G M)) (hS : va_S (aG G) s.heap H locs) (hl : lsA.size = k.2.2.1)
    (hdg : decode k.2.1 pc = .ok (.invokevirtual idx, 3)) (hw : Cond.methodLink k.1.cls idx k'.1 ∈ GW) (hv : virtK k' n) (hfit : fitK k k' = true) (hr : (ci, i, 0) ∈ CL) (hcl : (vwCl[ci]?).map (fun q => q.1) = some k'.1.cls) (hn : vs.length = n) (hstk : stk = vs.reverse ++ pR (ci, i, 0) :: st) (hcat : catS st ≤ 8)
    (hM : Met l k'.1 (wsK k') (rmK k') (va_Pc ((pR (ci, i, 0) :: vs).map (pv G.2.1)) (Wd X G M)) Qc 0 0 (aG G)) :
    va_Run p l e R s m args below meth c H locs cells slots 0 0 (F0 m pc lsA (stk.map (pv G.2.1))) (st.map (pv G.2.1)) (Qc (Value.ref (G.2.1 (ci, i, 0)) :: vs.map (pv G.2.1)).toArray) (aG G) := by
  obtain ⟨v1, v2, v3, v4, v5⟩ := hv
  have hts := B.2.2.2.2.1
  obtain ⟨q, hq⟩ := cl_at hr
  have he : (wl G M)[q]? = some (G.2.1 (ci, i, 0), .inr (ci, flds G M ci i)) := wl_at G M hq
  cases hcq : vwCl[ci]? with
  | none => rw [hcq] at hcl; cases hcl
  | some cq =>
    rw [hcq] at hcl
    have hC : cq.1 = k'.1.cls := by simpa using hcl
    have hrec := va_recv B.2.2.2.2.2.1 hP hcq he
    rw [hC] at hrec
    exact va_runV (As := vs.map (pv G.2.1)) (rest := st.map (pv G.2.1)) (Ts := GW) (n := n) ⟨B.1, B.2.1, B.2.2.1, B.2.2.2.1, hts⟩ hM ⟨callB_K B hw v3 v4 v5 hfit, hts _ v1, hts _ v2⟩ ⟨Wd.blind, hrec, preS_K B hP hD hS _⟩ rfl (by rw [List.length_map]; exact hn) hl (by rw [hstk]; simp [pv]) (lv_room (by rw [catS_eq]; exact hcat)) hdg ⟨hc, hs⟩
theorem T_callVi {ci i : Nat} (hdg : decode k.2.1 pc = .ok (.invokevirtual idx, 3)) (hw : Cond.methodLink k.1.cls idx k'.1 ∈ GW) (hv : virtK k' n) (hfit : fitK k k' = true) (hr : (ci, i, 0) ∈ CL) (hcl : (vwCl[ci]?).map (fun q => q.1) = some k'.1.cls) (hn : vs.length = n) (hstk : stk = vs.reverse ++ pR (ci, i, 0) :: st) (hcat : catS st ≤ 8) (hls : eLs (pR (ci, i, 0) :: vs) k'.2.2.1 = lsC) (hlen : (enL (pR (ci, i, 0) :: vs)).length ≤ k'.2.2.1)
    (h : TT X k' 0 lsC [] M (rI fun v M' => TT X k (pc + 3) ls (pI v :: st) M' Q)) : TT X k pc ls stk M Q := by
  subst hls
  intro G p l e R s m args below meth c H locs cells slots QQ lsA B hc hs hP hD hS hl K
  have hok := hv.2.2.2.2
  simp only [okK, Bool.and_eq_true, decide_eq_true_eq] at hok
  have hM := metW (l := l) (G := G) (Qc := va_Qi (fun v u => TT X k (pc + 3) ls (pI v :: st) u Q) (We G) (aG G)) hok.1 hlen h (by
    intro a s' t r M' hq hE hF
    rcases r with _ | v | v | v
    · exact hq.elim
    · exact ⟨⟨v, M', rfl, hq, hE⟩, hF⟩
    · exact hq.elim
    · exact hq.elim)
  refine va_calli (runV_K (l := l) (e := e) (below := below) (meth := meth) B hc hs hP hD hS hl.1 hdg hw hv hfit hr hcl hn hstk hcat hM) hS (fun q _ h => h) (fun q h => h) (fun v u t H1 locs1 ht hvm hpost hB hz hk hS1 => ?_)
  exact hpost G p l e R s m args below meth c H1 locs1 cells slots QQ lsA B hc hs (by rw [← ht]; exact hB.1) hB.2 hS1 hl K
theorem T_callVv {ci i : Nat} (hdg : decode k.2.1 pc = .ok (.invokevirtual idx, 3)) (hw : Cond.methodLink k.1.cls idx k'.1 ∈ GW) (hv : virtK k' n) (hfit : fitK k k' = true) (hr : (ci, i, 0) ∈ CL) (hcl : (vwCl[ci]?).map (fun q => q.1) = some k'.1.cls) (hn : vs.length = n) (hstk : stk = vs.reverse ++ pR (ci, i, 0) :: st) (hcat : catS st ≤ 8) (hls : eLs (pR (ci, i, 0) :: vs) k'.2.2.1 = lsC) (hlen : (enL (pR (ci, i, 0) :: vs)).length ≤ k'.2.2.1)
    (h : TT X k' 0 lsC [] M (rV fun M' => TT X k (pc + 3) ls st M' Q)) : TT X k pc ls stk M Q := by
  subst hls
  intro G p l e R s m args below meth c H locs cells slots QQ lsA B hc hs hP hD hS hl K
  have hok := hv.2.2.2.2
  simp only [okK, Bool.and_eq_true, decide_eq_true_eq] at hok
  have hM := metW (l := l) (G := G) (Qc := va_Qv (fun u => TT X k (pc + 3) ls st u Q) (We G) (aG G)) hok.1 hlen h (by
    intro a s' t r M' hq hE hF
    rcases r with _ | v | v | v
    · exact ⟨⟨M', rfl, hq, hE⟩, hF⟩
    · exact hq.elim
    · exact hq.elim
    · exact hq.elim)
  refine va_callv (runV_K (l := l) (e := e) (below := below) (meth := meth) B hc hs hP hD hS hl.1 hdg hw hv hfit hr hcl hn hstk hcat hM) hS (fun q _ h => h) (fun q h => h) (fun u t H1 locs1 ht hvm hpost hB hz hk hS1 => ?_)
  exact hpost G p l e R s m args below meth c H1 locs1 cells slots QQ lsA B hc hs (by rw [← ht]; exact hB.1) hB.2 hS1 hl K
theorem T_callVl {ci i : Nat} (hdg : decode k.2.1 pc = .ok (.invokevirtual idx, 3)) (hw : Cond.methodLink k.1.cls idx k'.1 ∈ GW) (hv : virtK k' n) (hfit : fitK k k' = true) (hr : (ci, i, 0) ∈ CL) (hcl : (vwCl[ci]?).map (fun q => q.1) = some k'.1.cls) (hn : vs.length = n) (hstk : stk = vs.reverse ++ pR (ci, i, 0) :: st) (hcat : catS st ≤ 8) (hls : eLs (pR (ci, i, 0) :: vs) k'.2.2.1 = lsC) (hlen : (enL (pR (ci, i, 0) :: vs)).length ≤ k'.2.2.1)
    (h : TT X k' 0 lsC [] M (rL fun v M' => TT X k (pc + 3) ls (pL v :: st) M' Q)) : TT X k pc ls stk M Q := by
  subst hls
  intro G p l e R s m args below meth c H locs cells slots QQ lsA B hc hs hP hD hS hl K
  have hok := hv.2.2.2.2
  simp only [okK, Bool.and_eq_true, decide_eq_true_eq] at hok
  have hM := metW (l := l) (G := G) (Qc := va_Ql (fun v u => TT X k (pc + 3) ls (pL v :: st) u Q) (We G) (aG G)) hok.1 hlen h (by
    intro a s' t r M' hq hE hF
    rcases r with _ | v | v | v
    · exact hq.elim
    · exact hq.elim
    · exact ⟨⟨v, M', rfl, hq, hE⟩, hF⟩
    · exact hq.elim)
  refine va_calll (runV_K (l := l) (e := e) (below := below) (meth := meth) B hc hs hP hD hS hl.1 hdg hw hv hfit hr hcl hn hstk hcat hM) hS (fun q _ h => h) (fun q h => h) (fun v u t H1 locs1 ht hvm hpost hB hz hk hS1 => ?_)
  exact hpost G p l e R s m args below meth c H1 locs1 cells slots QQ lsA B hc hs (by rw [← ht]; exact hB.1) hB.2 hS1 hl K
theorem runS_K {G : Gh} {p : Program} {l : Launch} {e : Env} {R : Room} {s : State} {m : MethodId} {args : Array Value} {below : List Frame} {meth : Method} {c : Code} {H : Heap} {locs : List Loc} {cells slots : Nat} {lsA : Array Slot} {Qc : Array Value → State → Outcome → State → Prop}
    (B : Base X G k p R s m args c) (hc : cells ≤ R.cells) (hs : slots ≤ R.slots) (hP : va_P G.1 vwCl (wl G M) H) (hD : va_D (aG G) (wl G M)) (hS : va_S (aG G) s.heap H locs) (hl : lsA.size = k.2.2.1)
    (hdg : decode k.2.1 pc = .ok (.invokestatic idx, 3)) (hw : Cond.methodLink k.1.cls idx k'.1 ∈ GW) (hv : statK k' n) (hfit : fitK k k' = true) (hn : vs.length = n) (hstk : stk = vs.reverse ++ st) (hcat : catS st ≤ 8)
    (hM : Met l k'.1 (wsK k') (rmK k') (va_Pc (vs.map (pv G.2.1)) (Wd X G M)) Qc 0 0 (aG G)) :
    va_Run p l e R s m args below meth c H locs cells slots 0 0 (F0 m pc lsA (stk.map (pv G.2.1))) (st.map (pv G.2.1)) (Qc (vs.map (pv G.2.1)).toArray) (aG G) := by
  obtain ⟨v1, v3, v4, v5⟩ := hv
  have hts := B.2.2.2.2.1
  exact va_runS (As := vs.map (pv G.2.1)) (rest := st.map (pv G.2.1)) (Ts := GW) (n := n) ⟨B.1, B.2.1, B.2.2.1, B.2.2.2.1, hts⟩ hM ⟨callB_K B hw v3 v4 v5 hfit, hts _ v1⟩ ⟨Wd.blind, preS_K B hP hD hS _⟩ rfl (by rw [List.length_map]; exact hn) hl (by rw [hstk]; simp) (lv_room (by rw [catS_eq]; exact hcat)) hdg ⟨hc, hs⟩
theorem T_callSi (hdg : decode k.2.1 pc = .ok (.invokestatic idx, 3)) (hw : Cond.methodLink k.1.cls idx k'.1 ∈ GW) (hv : statK k' n) (hfit : fitK k k' = true) (hn : vs.length = n) (hstk : stk = vs.reverse ++ st) (hcat : catS st ≤ 8) (hls : eLs vs k'.2.2.1 = lsC) (hlen : (enL vs).length ≤ k'.2.2.1)
    (h : TT X k' 0 lsC [] M (rI fun v M' => TT X k (pc + 3) ls (pI v :: st) M' Q)) : TT X k pc ls stk M Q := by
  subst hls
  intro G p l e R s m args below meth c H locs cells slots QQ lsA B hc hs hP hD hS hl K
  have hok := hv.2.2.2
  simp only [okK, Bool.and_eq_true, decide_eq_true_eq] at hok
  have hM := metW (l := l) (G := G) (Qc := va_Qi (fun v u => TT X k (pc + 3) ls (pI v :: st) u Q) (We G) (aG G)) hok.1 hlen h (by
    intro a s' t r M' hq hE hF
    rcases r with _ | v | v | v
    · exact hq.elim
    · exact ⟨⟨v, M', rfl, hq, hE⟩, hF⟩
    · exact hq.elim
    · exact hq.elim)
  refine va_calli (runS_K (l := l) (e := e) (below := below) (meth := meth) B hc hs hP hD hS hl.1 hdg hw hv hfit hn hstk hcat hM) hS (fun q _ h => h) (fun q h => h) (fun v u t H1 locs1 ht hvm hpost hB hz hk hS1 => ?_)
  exact hpost G p l e R s m args below meth c H1 locs1 cells slots QQ lsA B hc hs (by rw [← ht]; exact hB.1) hB.2 hS1 hl K
end MET
