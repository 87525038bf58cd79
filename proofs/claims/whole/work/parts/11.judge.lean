/-! a method: its name, code, locals, answer, and the room that it needs (frames, locals' words) -/
abbrev MI : Type := MethodName × ByteArray × Nat × Option FieldType × Nat × Nat
/-- what never changes: the two texts, the statics of String, the script -/
def Ex (X : Nat × (Nat → Int32)) (G : Gh) (U : State) (H : Heap) : Prop :=
  vk_S 2 [4, 6] [[115, 116, 101, 112], [119, 97, 108, 107, 101, 114]] (fun i => G.2.1 (10, i, 0)) (fun i => G.2.1 (10, i, 1)) (aG G) U H ∧ vk_R RX4 36 "step" (G.2.1 (10, 0, 0)) U ∧ vk_R RX4 50 "walker" (G.2.1 (10, 1, 0)) U ∧
  va_Z "java/lang/String" "COMPACT_STRINGS" "Z" (.int 1) (aG G) U H ∧ va_Zq "jdk/internal/util/Preconditions" "SIOOBE_FORMATTER" "Ljava/util/function/BiFunction;" (aG G) U H ∧
  va_X (G.2.1 (30, 0, 0)) X.1 X.2 U H ∧ G.2.1 (30, 0, 0) < H.size ∧ ¬ aG G (G.2.1 (30, 0, 0))
theorem Ex.kept {X : Nat × (Nat → Int32)} {G : Gh} {U : State} {H H1 : Heap} (h : Ex X G U H) (hz : H.size ≤ H1.size) (hq : ∀ a : Nat, a < H.size → ¬ aG G a → H1[a]? = H[a]?) : Ex X G U H1 := by
  obtain ⟨h1, h2, h3, h4, h5, h6, h7, h8⟩ := h
  exact ⟨h1.kept hq, h2, h3, h4.kept hq, h5.kept hq, h6.kept (hq _ h7 h8), Nat.lt_of_lt_of_le h7 hz, h8⟩
theorem Ex.warm {X : Nat × (Nat → Int32)} {G : Gh} {s U : State} {H : Heap} (hW : s.WarmedH U.vm) (h : Ex X G s H) : Ex X G U H := by
  obtain ⟨h1, h2, h3, h4, h5, h6, h7, h8⟩ := h
  exact ⟨vk_S.moved hW.alike h1, h2.warm hW, h3.warm hW, va_Z.moved hW.alike h4, va_Zq.moved hW.alike h5, va_X.moved hW.alike h6, h7, h8⟩
theorem Ex.blind {X : Nat × (Nat → Int32)} {G : Gh} {U : State} {H : Heap} (g : JFrame) (mk : MethodId) (a : Array Value) (h : Ex X G U H) : Ex X G (U.calling g mk a) H := by
  obtain ⟨h1, h2, h3, h4, h5, h6, h7, h8⟩ := h
  have hv : U.vm.Alike (U.calling g mk a).vm := Vm.Alike.refl U.vm
  exact ⟨vk_S.moved hv h1, vk_R.same (u := U) rfl h2, vk_R.same (u := U) rfl h3, va_Z.moved hv h4, va_Zq.moved hv h5, va_X.moved hv h6, h7, h8⟩
def RetAt (k : MI) (pc : Nat) (r : Option PV) : Prop := match r with
  | none => decode k.2.1 pc = .ok (.return_, 1) ∧ k.2.2.2.1 = none
  | some (.inl v) => decode k.2.1 pc = .ok (.ireturn, 1) ∧ ∃ ty, k.2.2.2.1 = some ty ∧ narrow ty (.int v) = .int v
  | some (.inr (.inl _)) => decode k.2.1 pc = .ok (.lreturn, 1) ∧ k.2.2.2.1 = some .long
  | some (.inr (.inr _)) => False
/-- the machine at a method's body, what it stands on -/
def Base (X : Nat × (Nat → Int32)) (G : Gh) (k : MI) (p : Program) (R : Room) (s : State) (m : MethodId) (args : Array Value) (c : Code) : Prop :=
  p.tables.exec = Jvm.exec ∧ c.code = k.2.1 ∧ c.maxLocals = k.2.2.1 ∧ s.vm.findClass k.1.cls = some m.cls ∧ (∀ w ∈ GW, w.before args s = true) ∧ va_K G.1 vwCl (tyG G) s ∧ Ex X G s s.heap ∧ k.2.2.2.2.1 ≤ R.frames ∧ k.2.2.2.2.2 ≤ R.locals
/-- FROM HERE the method comes to its end, and Q holds of its answer and the memory then -/
def TT (X : Nat × (Nat → Int32)) (k : MI) (pc : Nat) (ls : List (Option PV)) (st : List PV) (M : Mem) (Q : Option PV → Mem → Prop) : Prop :=
  ∀ (G : Gh) (p : Program) (l : Launch) (e : Env) (R : Room) (s : State) (m : MethodId) (args : Array Value) (below : List Frame) (meth : Method) (c : Code) (H : Heap) (locs : List Loc) (cells slots : Nat) (QQ : State → Prop) (lsA : Array Slot),
    Base X G k p R s m args c → cells ≤ R.cells → slots ≤ R.slots → va_P G.1 vwCl (wl G M) H → va_D (aG G) (wl G M) → va_S (aG G) s.heap H locs → lv_has lsA k.2.2.1 (lvl G.2.1 0 ls) →
    (∀ (r : Option PV) (M' : Mem) (H' : Heap) (locs' : List Loc) (pc' : Nat) (lsA' : Array Slot), Q r M' → va_P G.1 vwCl (wl G M') H' → va_D (aG G) (wl G M') → va_S (aG G) s.heap H' locs' → RetAt k pc' r → W p l e R s m args below meth c H' locs' cells slots QQ (F0 m pc' lsA' ((r.map (pv G.2.1)).toList))) →
    W p l e R s m args below meth c H locs cells slots QQ (F0 m pc lsA (st.map (pv G.2.1)))
theorem TT.mono {X : Nat × (Nat → Int32)} {k : MI} {pc : Nat} {ls : List (Option PV)} {st : List PV} {M : Mem} {Q Q' : Option PV → Mem → Prop} (h : TT X k pc ls st M Q) (hq : ∀ r M', Q r M' → Q' r M') : TT X k pc ls st M Q' := by
  intro G p l e R s m args below meth c H locs cells slots QQ lsA B hc hs hP hD hS hl K
  exact h G p l e R s m args below meth c H locs cells slots QQ lsA B hc hs hP hD hS hl (fun r M' H' locs' pc' lsA' q => K r M' H' locs' pc' lsA' (hq r M' q))
section RULES
variable {X : Nat × (Nat → Int32)} {k : MI} {pc : Nat} {ls : List (Option PV)} {st : List PV} {M : Mem} {Q : Option PV → Mem → Prop}
theorem T_iconst {n : Int} {v : Int32} (hdg : decode k.2.1 pc = .ok (.iconst n, 1)) (hv : Int32.ofInt n = v) (h : TT X k (pc + 1) ls (pI v :: st) M Q) : TT X k pc ls st M Q := by
  intro G p l e R s m args below meth c H locs cells slots QQ lsA B hc hs hP hD hS hl K
  exact lv_iconst B.1 B.2.1 hdg hv (h G p l e R s m args below meth c H locs cells slots QQ lsA B hc hs hP hD hS hl K)
theorem T_bipush {n : Int} {v : Int32} (hdg : decode k.2.1 pc = .ok (.bipush n, 2)) (hv : (Int8.ofInt n).toInt32 = v) (h : TT X k (pc + 2) ls (pI v :: st) M Q) : TT X k pc ls st M Q := by
  intro G p l e R s m args below meth c H locs cells slots QQ lsA B hc hs hP hD hS hl K
  exact lv_bipush B.1 B.2.1 hdg hv (h G p l e R s m args below meth c H locs cells slots QQ lsA B hc hs hP hD hS hl K)
theorem T_sipush {n : Int} {v : Int32} (hdg : decode k.2.1 pc = .ok (.sipush n, 3)) (hv : (Int16.ofInt n).toInt32 = v) (h : TT X k (pc + 3) ls (pI v :: st) M Q) : TT X k pc ls st M Q := by
  intro G p l e R s m args below meth c H locs cells slots QQ lsA B hc hs hP hD hS hl K
  exact lv_sipush B.1 B.2.1 hdg hv (h G p l e R s m args below meth c H locs cells slots QQ lsA B hc hs hP hD hS hl K)
theorem T_lconst {n : Fin 2} {v : Int64} (hdg : decode k.2.1 pc = .ok (.lconst n, 1)) (hv : Int64.ofNat (n : Nat) = v) (h : TT X k (pc + 1) ls (pL v :: st) M Q) : TT X k pc ls st M Q := by
  intro G p l e R s m args below meth c H locs cells slots QQ lsA B hc hs hP hD hS hl K
  exact lv_lconst B.1 B.2.1 hdg hv (h G p l e R s m args below meth c H locs cells slots QQ lsA B hc hs hP hD hS hl K)
theorem T_ldc {idx : Nat} {v : Int32} (hdg : decode k.2.1 pc = .ok (.ldc idx, 2)) (hw : Cond.constant k.1.cls idx v ∈ GW) (h : TT X k (pc + 2) ls (pI v :: st) M Q) : TT X k pc ls st M Q := by
  intro G p l e R s m args below meth c H locs cells slots QQ lsA B hc hs hP hD hS hl K
  exact lv_ldc B.1 B.2.1 B.2.2.2.1 (B.2.2.2.2.1 _ hw) hdg (h G p l e R s m args below meth c H locs cells slots QQ lsA B hc hs hP hD hS hl K)
theorem T_ldcw {idx : Nat} {v : Int32} (hdg : decode k.2.1 pc = .ok (.ldc_w idx, 3)) (hw : Cond.constant k.1.cls idx v ∈ GW) (h : TT X k (pc + 3) ls (pI v :: st) M Q) : TT X k pc ls st M Q := by
  intro G p l e R s m args below meth c H locs cells slots QQ lsA B hc hs hP hD hS hl K
  exact lv_ldcw B.1 B.2.1 B.2.2.2.1 (B.2.2.2.2.1 _ hw) hdg (h G p l e R s m args below meth c H locs cells slots QQ lsA B hc hs hP hD hS hl K)
theorem T_ldc2 {idx : Nat} {v : Int64} (hdg : decode k.2.1 pc = .ok (.ldc2_w idx, 3)) (hw : Cond.constantLong k.1.cls idx v ∈ GW) (h : TT X k (pc + 3) ls (pL v :: st) M Q) : TT X k pc ls st M Q := by
  intro G p l e R s m args below meth c H locs cells slots QQ lsA B hc hs hP hD hS hl K
  exact lv_ldc2 B.1 B.2.1 B.2.2.2.1 (B.2.2.2.2.1 _ hw) hdg (h G p l e R s m args below meth c H locs cells slots QQ lsA B hc hs hP hD hS hl K)
theorem T_iload_n {i : Fin 4} {x : Int32} (hdg : decode k.2.1 pc = .ok (.iload_n i, 1)) (hv : ls[(i : Nat)]? = some (some (pI x))) (h : TT X k (pc + 1) ls (pI x :: st) M Q) : TT X k pc ls st M Q := by
  intro G p l e R s m args below meth c H locs cells slots QQ lsA B hc hs hP hD hS hl K
  exact lv_iload_n B.1 B.2.1 hdg rfl (lvl_at hl hv) (h G p l e R s m args below meth c H locs cells slots QQ lsA B hc hs hP hD hS hl K)
theorem T_iload {i : Nat} {x : Int32} (hdg : decode k.2.1 pc = .ok (.iload i, 2)) (hv : ls[i]? = some (some (pI x))) (h : TT X k (pc + 2) ls (pI x :: st) M Q) : TT X k pc ls st M Q := by
  intro G p l e R s m args below meth c H locs cells slots QQ lsA B hc hs hP hD hS hl K
  exact lv_iload B.1 B.2.1 hdg (lvl_at hl hv) (h G p l e R s m args below meth c H locs cells slots QQ lsA B hc hs hP hD hS hl K)
theorem T_lload_n {i : Fin 4} {x : Int64} (hdg : decode k.2.1 pc = .ok (.lload_n i, 1)) (hv : ls[(i : Nat)]? = some (some (pL x))) (h : TT X k (pc + 1) ls (pL x :: st) M Q) : TT X k pc ls st M Q := by
  intro G p l e R s m args below meth c H locs cells slots QQ lsA B hc hs hP hD hS hl K
  exact lv_lload_n B.1 B.2.1 hdg rfl (lvl_at hl hv) (h G p l e R s m args below meth c H locs cells slots QQ lsA B hc hs hP hD hS hl K)
theorem T_lload {i : Nat} {x : Int64} (hdg : decode k.2.1 pc = .ok (.lload i, 2)) (hv : ls[i]? = some (some (pL x))) (h : TT X k (pc + 2) ls (pL x :: st) M Q) : TT X k pc ls st M Q := by
  intro G p l e R s m args below meth c H locs cells slots QQ lsA B hc hs hP hD hS hl K
  exact lv_lload B.1 B.2.1 hdg (lvl_at hl hv) (h G p l e R s m args below meth c H locs cells slots QQ lsA B hc hs hP hD hS hl K)
theorem T_aload_n {i : Fin 4} {x : PR} (hdg : decode k.2.1 pc = .ok (.aload_n i, 1)) (hv : ls[(i : Nat)]? = some (some (pR x))) (h : TT X k (pc + 1) ls (pR x :: st) M Q) : TT X k pc ls st M Q := by
  intro G p l e R s m args below meth c H locs cells slots QQ lsA B hc hs hP hD hS hl K
  exact lv_aload_n B.1 B.2.1 hdg rfl (lvl_at hl hv) (h G p l e R s m args below meth c H locs cells slots QQ lsA B hc hs hP hD hS hl K)
theorem T_aload {i : Nat} {x : PR} (hdg : decode k.2.1 pc = .ok (.aload i, 2)) (hv : ls[i]? = some (some (pR x))) (h : TT X k (pc + 2) ls (pR x :: st) M Q) : TT X k pc ls st M Q := by
  intro G p l e R s m args below meth c H locs cells slots QQ lsA B hc hs hP hD hS hl K
  exact lv_aload B.1 B.2.1 hdg (lvl_at hl hv) (h G p l e R s m args below meth c H locs cells slots QQ lsA B hc hs hP hD hS hl K)
theorem T_istore_n {i : Fin 4} {x : Int32} {ls' : List (Option PV)} (hdg : decode k.2.1 pc = .ok (.istore_n i, 1)) (hn : (i : Nat) < k.2.2.1) (ho : okSt ls i = true) (he : ls.set i (some (pI x)) = ls') (h : TT X k (pc + 1) ls' st M Q) : TT X k pc ls (pI x :: st) M Q := by
  intro G p l e R s m args below meth c H locs cells slots QQ lsA B hc hs hP hD hS hl K
  exact lv_istore_n B.1 B.2.1 hdg rfl hl hn rfl (fun ls2 hl2 => h G p l e R s m args below meth c H locs cells slots QQ ls2 B hc hs hP hD hS (he ▸ lvl_st (v := pI x) ho hl2) K)
theorem T_istore {i : Nat} {x : Int32} {ls' : List (Option PV)} (hdg : decode k.2.1 pc = .ok (.istore i, 2)) (hn : i < k.2.2.1) (ho : okSt ls i = true) (he : ls.set i (some (pI x)) = ls') (h : TT X k (pc + 2) ls' st M Q) : TT X k pc ls (pI x :: st) M Q := by
  intro G p l e R s m args below meth c H locs cells slots QQ lsA B hc hs hP hD hS hl K
  exact lv_istore B.1 B.2.1 hdg hl hn rfl (fun ls2 hl2 => h G p l e R s m args below meth c H locs cells slots QQ ls2 B hc hs hP hD hS (he ▸ lvl_st (v := pI x) ho hl2) K)
theorem T_lstore_n {i : Fin 4} {x : Int64} {ls' : List (Option PV)} (hdg : decode k.2.1 pc = .ok (.lstore_n i, 1)) (hn : (i : Nat) + 1 < k.2.2.1) (ho : okSt ls i = true) (he : (ls.set i (some (pL x))).set ((i : Nat) + 1) none = ls') (h : TT X k (pc + 1) ls' st M Q) : TT X k pc ls (pL x :: st) M Q := by
  intro G p l e R s m args below meth c H locs cells slots QQ lsA B hc hs hP hD hS hl K
  exact lv_lstore_n B.1 B.2.1 hdg rfl hl hn rfl (fun ls2 hl2 => h G p l e R s m args below meth c H locs cells slots QQ ls2 B hc hs hP hD hS (he ▸ lvl_st2 (v := pL x) ho hl2) K)
theorem T_astore_n {i : Fin 4} {x : PR} {ls' : List (Option PV)} (hdg : decode k.2.1 pc = .ok (.astore_n i, 1)) (hn : (i : Nat) < k.2.2.1) (ho : okSt ls i = true) (he : ls.set i (some (pR x)) = ls') (h : TT X k (pc + 1) ls' st M Q) : TT X k pc ls (pR x :: st) M Q := by
  intro G p l e R s m args below meth c H locs cells slots QQ lsA B hc hs hP hD hS hl K
  exact lv_astore_n B.1 B.2.1 hdg rfl hl hn rfl (fun ls2 hl2 => h G p l e R s m args below meth c H locs cells slots QQ ls2 B hc hs hP hD hS (he ▸ lvl_st (v := pR x) ho hl2) K)
theorem T_astore {i : Nat} {x : PR} {ls' : List (Option PV)} (hdg : decode k.2.1 pc = .ok (.astore i, 2)) (hn : i < k.2.2.1) (ho : okSt ls i = true) (he : ls.set i (some (pR x)) = ls') (h : TT X k (pc + 2) ls' st M Q) : TT X k pc ls (pR x :: st) M Q := by
  intro G p l e R s m args below meth c H locs cells slots QQ lsA B hc hs hP hD hS hl K
  exact lv_astore B.1 B.2.1 hdg hl hn rfl (fun ls2 hl2 => h G p l e R s m args below meth c H locs cells slots QQ ls2 B hc hs hP hD hS (he ▸ lvl_st (v := pR x) ho hl2) K)
theorem T_iinc {i : Nat} {n : Int} {x v : Int32} {ls' : List (Option PV)} (hdg : decode k.2.1 pc = .ok (.iinc i n, 3)) (hx : ls[i]? = some (some (pI x))) (hv : x + Int32.ofInt n = v) (hn : i < k.2.2.1) (ho : okSt ls i = true) (he : ls.set i (some (pI v)) = ls') (h : TT X k (pc + 3) ls' st M Q) : TT X k pc ls st M Q := by
  intro G p l e R s m args below meth c H locs cells slots QQ lsA B hc hs hP hD hS hl K
  obtain ⟨j, hj⟩ := List.getElem?_of_mem (lvl_mem (ad := G.2.1) (q := (i, .int x)) (j := 0).mpr ⟨i, pI x, hx, by simp [pv]⟩)
  exact lv_iinc B.1 B.2.1 hdg hl hj hv hn rfl (fun ls2 hl2 => h G p l e R s m args below meth c H locs cells slots QQ ls2 B hc hs hP hD hS (he ▸ lvl_st (v := pI v) ho hl2) K)
theorem T_iadd {x y : Int32} (hdg : decode k.2.1 pc = .ok (.iadd, 1)) (h : TT X k (pc + 1) ls (pI (x + y) :: st) M Q) : TT X k pc ls (pI y :: pI x :: st) M Q := by
  intro G p l e R s m args below meth c H locs cells slots QQ lsA B hc hs hP hD hS hl K
  exact lv_iadd B.1 B.2.1 hdg (h G p l e R s m args below meth c H locs cells slots QQ lsA B hc hs hP hD hS hl K)
theorem T_isub {x y : Int32} (hdg : decode k.2.1 pc = .ok (.isub, 1)) (h : TT X k (pc + 1) ls (pI (x - y) :: st) M Q) : TT X k pc ls (pI y :: pI x :: st) M Q := by
  intro G p l e R s m args below meth c H locs cells slots QQ lsA B hc hs hP hD hS hl K
  exact lv_isub B.1 B.2.1 hdg (h G p l e R s m args below meth c H locs cells slots QQ lsA B hc hs hP hD hS hl K)
theorem T_imul {x y : Int32} (hdg : decode k.2.1 pc = .ok (.imul, 1)) (h : TT X k (pc + 1) ls (pI (x * y) :: st) M Q) : TT X k pc ls (pI y :: pI x :: st) M Q := by
  intro G p l e R s m args below meth c H locs cells slots QQ lsA B hc hs hP hD hS hl K
  exact lv_imul B.1 B.2.1 hdg (h G p l e R s m args below meth c H locs cells slots QQ lsA B hc hs hP hD hS hl K)
theorem T_iand {x y : Int32} (hdg : decode k.2.1 pc = .ok (.iand, 1)) (h : TT X k (pc + 1) ls (pI (x &&& y) :: st) M Q) : TT X k pc ls (pI y :: pI x :: st) M Q := by
  intro G p l e R s m args below meth c H locs cells slots QQ lsA B hc hs hP hD hS hl K
  exact lv_iand B.1 B.2.1 hdg (h G p l e R s m args below meth c H locs cells slots QQ lsA B hc hs hP hD hS hl K)
theorem T_ior {x y : Int32} (hdg : decode k.2.1 pc = .ok (.ior, 1)) (h : TT X k (pc + 1) ls (pI (x ||| y) :: st) M Q) : TT X k pc ls (pI y :: pI x :: st) M Q := by
  intro G p l e R s m args below meth c H locs cells slots QQ lsA B hc hs hP hD hS hl K
  exact lv_ior B.1 B.2.1 hdg (h G p l e R s m args below meth c H locs cells slots QQ lsA B hc hs hP hD hS hl K)
theorem T_ishl {x y : Int32} (hdg : decode k.2.1 pc = .ok (.ishl, 1)) (h : TT X k (pc + 1) ls (pI (x <<< (y &&& 31)) :: st) M Q) : TT X k pc ls (pI y :: pI x :: st) M Q := by
  intro G p l e R s m args below meth c H locs cells slots QQ lsA B hc hs hP hD hS hl K
  exact lv_ishl B.1 B.2.1 hdg (h G p l e R s m args below meth c H locs cells slots QQ lsA B hc hs hP hD hS hl K)
theorem T_ishr {x y : Int32} (hdg : decode k.2.1 pc = .ok (.ishr, 1)) (h : TT X k (pc + 1) ls (pI (x >>> (y &&& 31)) :: st) M Q) : TT X k pc ls (pI y :: pI x :: st) M Q := by
  intro G p l e R s m args below meth c H locs cells slots QQ lsA B hc hs hP hD hS hl K
  exact lv_ishr B.1 B.2.1 hdg (h G p l e R s m args below meth c H locs cells slots QQ lsA B hc hs hP hD hS hl K)
theorem T_idiv {x y : Int32} (hdg : decode k.2.1 pc = .ok (.idiv, 1)) (hy : ¬ y = 0) (h : TT X k (pc + 1) ls (pI (x / y) :: st) M Q) : TT X k pc ls (pI y :: pI x :: st) M Q := by
  intro G p l e R s m args below meth c H locs cells slots QQ lsA B hc hs hP hD hS hl K
  exact lv_idiv B.1 B.2.1 hdg hy (h G p l e R s m args below meth c H locs cells slots QQ lsA B hc hs hP hD hS hl K)
theorem T_irem {x y : Int32} (hdg : decode k.2.1 pc = .ok (.irem, 1)) (hy : ¬ y = 0) (h : TT X k (pc + 1) ls (pI (x - x / y * y) :: st) M Q) : TT X k pc ls (pI y :: pI x :: st) M Q := by
  intro G p l e R s m args below meth c H locs cells slots QQ lsA B hc hs hP hD hS hl K
  exact lv_irem B.1 B.2.1 hdg hy (h G p l e R s m args below meth c H locs cells slots QQ lsA B hc hs hP hD hS hl K)
theorem T_ladd {x y : Int64} (hdg : decode k.2.1 pc = .ok (.ladd, 1)) (h : TT X k (pc + 1) ls (pL (x + y) :: st) M Q) : TT X k pc ls (pL y :: pL x :: st) M Q := by
  intro G p l e R s m args below meth c H locs cells slots QQ lsA B hc hs hP hD hS hl K
  exact lv_ladd B.1 B.2.1 hdg (h G p l e R s m args below meth c H locs cells slots QQ lsA B hc hs hP hD hS hl K)
theorem T_land {x y : Int64} (hdg : decode k.2.1 pc = .ok (.land, 1)) (h : TT X k (pc + 1) ls (pL (x &&& y) :: st) M Q) : TT X k pc ls (pL y :: pL x :: st) M Q := by
  intro G p l e R s m args below meth c H locs cells slots QQ lsA B hc hs hP hD hS hl K
  exact lv_land B.1 B.2.1 hdg (h G p l e R s m args below meth c H locs cells slots QQ lsA B hc hs hP hD hS hl K)
theorem T_lor {x y : Int64} (hdg : decode k.2.1 pc = .ok (.lor, 1)) (h : TT X k (pc + 1) ls (pL (x ||| y) :: st) M Q) : TT X k pc ls (pL y :: pL x :: st) M Q := by
  intro G p l e R s m args below meth c H locs cells slots QQ lsA B hc hs hP hD hS hl K
  exact lv_lor B.1 B.2.1 hdg (h G p l e R s m args below meth c H locs cells slots QQ lsA B hc hs hP hD hS hl K)
theorem T_lushr {x : Int64} {y : Int32} (hdg : decode k.2.1 pc = .ok (.lushr, 1)) (h : TT X k (pc + 1) ls (pL ((x.toUInt64 >>> (y.toInt64.toUInt64 &&& Int64.toUInt64 63)).toInt64) :: st) M Q) : TT X k pc ls (pI y :: pL x :: st) M Q := by
  intro G p l e R s m args below meth c H locs cells slots QQ lsA B hc hs hP hD hS hl K
  exact lv_lushr B.1 B.2.1 hdg rfl (h G p l e R s m args below meth c H locs cells slots QQ lsA B hc hs hP hD hS hl K)
theorem T_lshl {x : Int64} {y : Int32} (hdg : decode k.2.1 pc = .ok (.lshl, 1)) (h : TT X k (pc + 1) ls (pL (x <<< (y.toInt64 &&& 63)) :: st) M Q) : TT X k pc ls (pI y :: pL x :: st) M Q := by
  intro G p l e R s m args below meth c H locs cells slots QQ lsA B hc hs hP hD hS hl K
  exact lv_lshl B.1 B.2.1 hdg rfl (h G p l e R s m args below meth c H locs cells slots QQ lsA B hc hs hP hD hS hl K)
theorem T_lshr {x : Int64} {y : Int32} (hdg : decode k.2.1 pc = .ok (.lshr, 1)) (h : TT X k (pc + 1) ls (pL (x >>> (y.toInt64 &&& 63)) :: st) M Q) : TT X k pc ls (pI y :: pL x :: st) M Q := by
  intro G p l e R s m args below meth c H locs cells slots QQ lsA B hc hs hP hD hS hl K
  exact lv_lshr B.1 B.2.1 hdg rfl (h G p l e R s m args below meth c H locs cells slots QQ lsA B hc hs hP hD hS hl K)
theorem T_lcmp {x y : Int64} (hdg : decode k.2.1 pc = .ok (.lcmp, 1)) (h : TT X k (pc + 1) ls (pI (lg_cmp x y) :: st) M Q) : TT X k pc ls (pL y :: pL x :: st) M Q := by
  intro G p l e R s m args below meth c H locs cells slots QQ lsA B hc hs hP hD hS hl K
  exact W.lcmp B.1 B.2.1 hdg (h G p l e R s m args below meth c H locs cells slots QQ lsA B hc hs hP hD hS hl K)
theorem T_i2l {x : Int32} (hdg : decode k.2.1 pc = .ok (.i2l, 1)) (h : TT X k (pc + 1) ls (pL (x.toInt64) :: st) M Q) : TT X k pc ls (pI x :: st) M Q := by
  intro G p l e R s m args below meth c H locs cells slots QQ lsA B hc hs hP hD hS hl K
  exact lv_i2l B.1 B.2.1 hdg rfl (h G p l e R s m args below meth c H locs cells slots QQ lsA B hc hs hP hD hS hl K)
theorem T_i2b {x : Int32} (hdg : decode k.2.1 pc = .ok (.i2b, 1)) (h : TT X k (pc + 1) ls (pI (x.toInt8.toInt32) :: st) M Q) : TT X k pc ls (pI x :: st) M Q := by
  intro G p l e R s m args below meth c H locs cells slots QQ lsA B hc hs hP hD hS hl K
  exact lv_i2b B.1 B.2.1 hdg rfl (h G p l e R s m args below meth c H locs cells slots QQ lsA B hc hs hP hD hS hl K)
theorem T_i2s {x : Int32} (hdg : decode k.2.1 pc = .ok (.i2s, 1)) (h : TT X k (pc + 1) ls (pI (x.toInt16.toInt32) :: st) M Q) : TT X k pc ls (pI x :: st) M Q := by
  intro G p l e R s m args below meth c H locs cells slots QQ lsA B hc hs hP hD hS hl K
  exact lv_i2s B.1 B.2.1 hdg rfl (h G p l e R s m args below meth c H locs cells slots QQ lsA B hc hs hP hD hS hl K)
theorem T_i2c {x : Int32} (hdg : decode k.2.1 pc = .ok (.i2c, 1)) (h : TT X k (pc + 1) ls (pI ((x.toUInt32 % 65536).toInt32) :: st) M Q) : TT X k pc ls (pI x :: st) M Q := by
  intro G p l e R s m args below meth c H locs cells slots QQ lsA B hc hs hP hD hS hl K
  exact lv_i2c B.1 B.2.1 hdg rfl (h G p l e R s m args below meth c H locs cells slots QQ lsA B hc hs hP hD hS hl K)
theorem T_l2i {x : Int64} (hdg : decode k.2.1 pc = .ok (.l2i, 1)) (h : TT X k (pc + 1) ls (pI x.toInt32 :: st) M Q) : TT X k pc ls (pL x :: st) M Q := by
  intro G p l e R s m args below meth c H locs cells slots QQ lsA B hc hs hP hD hS hl K
  exact lv_l2i B.1 B.2.1 hdg rfl (h G p l e R s m args below meth c H locs cells slots QQ lsA B hc hs hP hD hS hl K)
theorem T_ineg {x : Int32} (hdg : decode k.2.1 pc = .ok (.ineg, 1)) (h : TT X k (pc + 1) ls (pI (-x) :: st) M Q) : TT X k pc ls (pI x :: st) M Q := by
  intro G p l e R s m args below meth c H locs cells slots QQ lsA B hc hs hP hD hS hl K
  exact lv_ineg B.1 B.2.1 hdg (h G p l e R s m args below meth c H locs cells slots QQ lsA B hc hs hP hD hS hl K)
theorem T_dupI {x : Int32} (hdg : decode k.2.1 pc = .ok (.dup, 1)) (h : TT X k (pc + 1) ls (pI x :: pI x :: st) M Q) : TT X k pc ls (pI x :: st) M Q := by
  intro G p l e R s m args below meth c H locs cells slots QQ lsA B hc hs hP hD hS hl K
  exact lv_dup B.1 B.2.1 hdg rfl (h G p l e R s m args below meth c H locs cells slots QQ lsA B hc hs hP hD hS hl K)
theorem T_dupR {x : PR} (hdg : decode k.2.1 pc = .ok (.dup, 1)) (h : TT X k (pc + 1) ls (pR x :: pR x :: st) M Q) : TT X k pc ls (pR x :: st) M Q := by
  intro G p l e R s m args below meth c H locs cells slots QQ lsA B hc hs hP hD hS hl K
  exact lv_dup B.1 B.2.1 hdg rfl (h G p l e R s m args below meth c H locs cells slots QQ lsA B hc hs hP hD hS hl K)
theorem T_dup2IR {x : Int32} {y : PR} (hdg : decode k.2.1 pc = .ok (.dup2, 1)) (h : TT X k (pc + 1) ls (pI x :: pR y :: pI x :: pR y :: st) M Q) : TT X k pc ls (pI x :: pR y :: st) M Q := by
  intro G p l e R s m args below meth c H locs cells slots QQ lsA B hc hs hP hD hS hl K
  exact lv_dup2_11 B.1 B.2.1 hdg rfl rfl (h G p l e R s m args below meth c H locs cells slots QQ lsA B hc hs hP hD hS hl K)
theorem T_popI {x : Int32} (hdg : decode k.2.1 pc = .ok (.pop, 1)) (h : TT X k (pc + 1) ls st M Q) : TT X k pc ls (pI x :: st) M Q := by
  intro G p l e R s m args below meth c H locs cells slots QQ lsA B hc hs hP hD hS hl K
  exact lv_pop B.1 B.2.1 hdg rfl (h G p l e R s m args below meth c H locs cells slots QQ lsA B hc hs hP hD hS hl K)
theorem T_if_eq {x : Int32} {off : Int} {tgt : Nat} (hdg : decode k.2.1 pc = .ok (.ifCond .eq off, 3)) (ht : (pc : Int) + off = (tgt : Int)) (h1 : x = 0 → TT X k tgt ls st M Q) (h2 : ¬ x = 0 → TT X k (pc + 3) ls st M Q) : TT X k pc ls (pI x :: st) M Q := by
  intro G p l e R s m args below meth c H locs cells slots QQ lsA B hc hs hP hD hS hl K
  exact lv_if_eq B.1 B.2.1 hdg ht (fun z => (h1 z G p l e R s m args below meth c H locs cells slots QQ lsA B hc hs hP hD hS hl K)) (fun z => (h2 z G p l e R s m args below meth c H locs cells slots QQ lsA B hc hs hP hD hS hl K))
theorem T_if_ne {x : Int32} {off : Int} {tgt : Nat} (hdg : decode k.2.1 pc = .ok (.ifCond .ne off, 3)) (ht : (pc : Int) + off = (tgt : Int)) (h1 : ¬ x = 0 → TT X k tgt ls st M Q) (h2 : x = 0 → TT X k (pc + 3) ls st M Q) : TT X k pc ls (pI x :: st) M Q := by
  intro G p l e R s m args below meth c H locs cells slots QQ lsA B hc hs hP hD hS hl K
  exact lv_if_ne B.1 B.2.1 hdg ht (fun z => (h1 z G p l e R s m args below meth c H locs cells slots QQ lsA B hc hs hP hD hS hl K)) (fun z => (h2 z G p l e R s m args below meth c H locs cells slots QQ lsA B hc hs hP hD hS hl K))
theorem T_if_lt {x : Int32} {off : Int} {tgt : Nat} (hdg : decode k.2.1 pc = .ok (.ifCond .lt off, 3)) (ht : (pc : Int) + off = (tgt : Int)) (h1 : x < 0 → TT X k tgt ls st M Q) (h2 : ¬ x < 0 → TT X k (pc + 3) ls st M Q) : TT X k pc ls (pI x :: st) M Q := by
  intro G p l e R s m args below meth c H locs cells slots QQ lsA B hc hs hP hD hS hl K
  exact lv_if_lt B.1 B.2.1 hdg ht (fun z => (h1 z G p l e R s m args below meth c H locs cells slots QQ lsA B hc hs hP hD hS hl K)) (fun z => (h2 z G p l e R s m args below meth c H locs cells slots QQ lsA B hc hs hP hD hS hl K))
theorem T_if_ge {x : Int32} {off : Int} {tgt : Nat} (hdg : decode k.2.1 pc = .ok (.ifCond .ge off, 3)) (ht : (pc : Int) + off = (tgt : Int)) (h1 : 0 ≤ x → TT X k tgt ls st M Q) (h2 : ¬ 0 ≤ x → TT X k (pc + 3) ls st M Q) : TT X k pc ls (pI x :: st) M Q := by
  intro G p l e R s m args below meth c H locs cells slots QQ lsA B hc hs hP hD hS hl K
  exact lv_if_ge B.1 B.2.1 hdg ht (fun z => (h1 z G p l e R s m args below meth c H locs cells slots QQ lsA B hc hs hP hD hS hl K)) (fun z => (h2 z G p l e R s m args below meth c H locs cells slots QQ lsA B hc hs hP hD hS hl K))
theorem T_if_gt {x : Int32} {off : Int} {tgt : Nat} (hdg : decode k.2.1 pc = .ok (.ifCond .gt off, 3)) (ht : (pc : Int) + off = (tgt : Int)) (h1 : 0 < x → TT X k tgt ls st M Q) (h2 : ¬ 0 < x → TT X k (pc + 3) ls st M Q) : TT X k pc ls (pI x :: st) M Q := by
  intro G p l e R s m args below meth c H locs cells slots QQ lsA B hc hs hP hD hS hl K
  exact lv_if_gt B.1 B.2.1 hdg ht (fun z => (h1 z G p l e R s m args below meth c H locs cells slots QQ lsA B hc hs hP hD hS hl K)) (fun z => (h2 z G p l e R s m args below meth c H locs cells slots QQ lsA B hc hs hP hD hS hl K))
theorem T_if_le {x : Int32} {off : Int} {tgt : Nat} (hdg : decode k.2.1 pc = .ok (.ifCond .le off, 3)) (ht : (pc : Int) + off = (tgt : Int)) (h1 : x ≤ 0 → TT X k tgt ls st M Q) (h2 : ¬ x ≤ 0 → TT X k (pc + 3) ls st M Q) : TT X k pc ls (pI x :: st) M Q := by
  intro G p l e R s m args below meth c H locs cells slots QQ lsA B hc hs hP hD hS hl K
  exact lv_if_le B.1 B.2.1 hdg ht (fun z => (h1 z G p l e R s m args below meth c H locs cells slots QQ lsA B hc hs hP hD hS hl K)) (fun z => (h2 z G p l e R s m args below meth c H locs cells slots QQ lsA B hc hs hP hD hS hl K))
theorem T_icmp_eq {x y : Int32} {off : Int} {tgt : Nat} (hdg : decode k.2.1 pc = .ok (.if_icmp .eq off, 3)) (ht : (pc : Int) + off = (tgt : Int)) (h1 : x = y → TT X k tgt ls st M Q) (h2 : ¬ x = y → TT X k (pc + 3) ls st M Q) : TT X k pc ls (pI y :: pI x :: st) M Q := by
  intro G p l e R s m args below meth c H locs cells slots QQ lsA B hc hs hP hD hS hl K
  exact lv_icmp_eq B.1 B.2.1 hdg ht (fun z => (h1 z G p l e R s m args below meth c H locs cells slots QQ lsA B hc hs hP hD hS hl K)) (fun z => (h2 z G p l e R s m args below meth c H locs cells slots QQ lsA B hc hs hP hD hS hl K))
theorem T_icmp_ne {x y : Int32} {off : Int} {tgt : Nat} (hdg : decode k.2.1 pc = .ok (.if_icmp .ne off, 3)) (ht : (pc : Int) + off = (tgt : Int)) (h1 : ¬ x = y → TT X k tgt ls st M Q) (h2 : x = y → TT X k (pc + 3) ls st M Q) : TT X k pc ls (pI y :: pI x :: st) M Q := by
  intro G p l e R s m args below meth c H locs cells slots QQ lsA B hc hs hP hD hS hl K
  exact lv_icmp_ne B.1 B.2.1 hdg ht (fun z => (h1 z G p l e R s m args below meth c H locs cells slots QQ lsA B hc hs hP hD hS hl K)) (fun z => (h2 z G p l e R s m args below meth c H locs cells slots QQ lsA B hc hs hP hD hS hl K))
theorem T_icmp_lt {x y : Int32} {off : Int} {tgt : Nat} (hdg : decode k.2.1 pc = .ok (.if_icmp .lt off, 3)) (ht : (pc : Int) + off = (tgt : Int)) (h1 : x < y → TT X k tgt ls st M Q) (h2 : ¬ x < y → TT X k (pc + 3) ls st M Q) : TT X k pc ls (pI y :: pI x :: st) M Q := by
  intro G p l e R s m args below meth c H locs cells slots QQ lsA B hc hs hP hD hS hl K
  exact lv_icmp_lt B.1 B.2.1 hdg ht (fun z => (h1 z G p l e R s m args below meth c H locs cells slots QQ lsA B hc hs hP hD hS hl K)) (fun z => (h2 z G p l e R s m args below meth c H locs cells slots QQ lsA B hc hs hP hD hS hl K))
theorem T_icmp_ge {x y : Int32} {off : Int} {tgt : Nat} (hdg : decode k.2.1 pc = .ok (.if_icmp .ge off, 3)) (ht : (pc : Int) + off = (tgt : Int)) (h1 : y ≤ x → TT X k tgt ls st M Q) (h2 : ¬ y ≤ x → TT X k (pc + 3) ls st M Q) : TT X k pc ls (pI y :: pI x :: st) M Q := by
  intro G p l e R s m args below meth c H locs cells slots QQ lsA B hc hs hP hD hS hl K
  exact lv_icmp_ge B.1 B.2.1 hdg ht (fun z => (h1 z G p l e R s m args below meth c H locs cells slots QQ lsA B hc hs hP hD hS hl K)) (fun z => (h2 z G p l e R s m args below meth c H locs cells slots QQ lsA B hc hs hP hD hS hl K))
theorem T_icmp_gt {x y : Int32} {off : Int} {tgt : Nat} (hdg : decode k.2.1 pc = .ok (.if_icmp .gt off, 3)) (ht : (pc : Int) + off = (tgt : Int)) (h1 : y < x → TT X k tgt ls st M Q) (h2 : ¬ y < x → TT X k (pc + 3) ls st M Q) : TT X k pc ls (pI y :: pI x :: st) M Q := by
  intro G p l e R s m args below meth c H locs cells slots QQ lsA B hc hs hP hD hS hl K
  exact lv_icmp_gt B.1 B.2.1 hdg ht (fun z => (h1 z G p l e R s m args below meth c H locs cells slots QQ lsA B hc hs hP hD hS hl K)) (fun z => (h2 z G p l e R s m args below meth c H locs cells slots QQ lsA B hc hs hP hD hS hl K))
theorem T_icmp_le {x y : Int32} {off : Int} {tgt : Nat} (hdg : decode k.2.1 pc = .ok (.if_icmp .le off, 3)) (ht : (pc : Int) + off = (tgt : Int)) (h1 : x ≤ y → TT X k tgt ls st M Q) (h2 : ¬ x ≤ y → TT X k (pc + 3) ls st M Q) : TT X k pc ls (pI y :: pI x :: st) M Q := by
  intro G p l e R s m args below meth c H locs cells slots QQ lsA B hc hs hP hD hS hl K
  exact lv_icmp_le B.1 B.2.1 hdg ht (fun z => (h1 z G p l e R s m args below meth c H locs cells slots QQ lsA B hc hs hP hD hS hl K)) (fun z => (h2 z G p l e R s m args below meth c H locs cells slots QQ lsA B hc hs hP hD hS hl K))
theorem T_goto {off : Int} {tgt : Nat} (hdg : decode k.2.1 pc = .ok (.goto off, 3)) (ht : (pc : Int) + off = (tgt : Int)) (h : TT X k tgt ls st M Q) : TT X k pc ls st M Q := by
  intro G p l e R s m args below meth c H locs cells slots QQ lsA B hc hs hP hD hS hl K
  exact lv_goto B.1 B.2.1 hdg ht (h G p l e R s m args below meth c H locs cells slots QQ lsA B hc hs hP hD hS hl K)
theorem T_table {dflt lo hi : Int} {offs : Array Int} {len : Nat} {x : Int32} {tgt : Nat} (hdg : decode k.2.1 pc = .ok (.tableswitch dflt lo hi offs, len)) (ht : (pc : Int) + (if x.toInt < lo ∨ hi < x.toInt then dflt else offs.getD (x.toInt - lo).toNat 0) = (tgt : Int)) (hsz : hi - lo + 1 = offs.size) (h : TT X k tgt ls st M Q) : TT X k pc ls (pI x :: st) M Q := by
  intro G p l e R s m args below meth c H locs cells slots QQ lsA B hc hs hP hD hS hl K
  by_cases z : x.toInt < lo ∨ hi < x.toInt
  · rw [if_pos z] at ht
    exact lv_tableOut B.1 B.2.1 hdg z ht (h G p l e R s m args below meth c H locs cells slots QQ lsA B hc hs hP hD hS hl K)
  · rw [if_neg z] at ht
    have z1 : ¬ x.toInt < lo := fun q => z (Or.inl q)
    have z2 : ¬ hi < x.toInt := fun q => z (Or.inr q)
    have hl3 : (x.toInt - lo).toNat < offs.size := by omega
    refine lv_tableIn (off := offs.getD (x.toInt - lo).toNat 0) B.1 B.2.1 hdg z1 z2 ?_ ht (h G p l e R s m args below meth c H locs cells slots QQ lsA B hc hs hP hD hS hl K)
    rw [Array.getD_eq_getD_getElem?, Array.getElem?_eq_getElem hl3]
    rfl
end RULES
