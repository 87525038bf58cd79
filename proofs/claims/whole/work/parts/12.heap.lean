/-! rules that touch the cells -/
theorem clsK : ∀ (c : Nat) (C : String) (T : u_T) (N : Nat), vwCl[c]? = some (C, T, N) → (∀ w ∈ u_ws C T N, w ∈ GW) ∧ (∃ ty0 : Nat → FieldType, ∀ k, k < N → parseFieldDescriptor (T k).2.2.1 = some (ty0 k)) ∧ (∀ a, a < N → ∀ b, b < N → a ≠ b → (T a).2.1 ≠ (T b).2.1) := by
  intro c C T N h
  match c, h with
  | 0, h => cases h; exact ⟨inX0, ⟨tyX0, tyX0_ok⟩, nmX0⟩
  | 1, h => cases h; exact ⟨inX1, ⟨tyX1, tyX1_ok⟩, nmX1⟩
  | 2, h => cases h; exact ⟨inX2, ⟨tyX2, tyX2_ok⟩, nmX2⟩
  | 3, h => cases h; exact ⟨inX3, ⟨tyX3, tyX3_ok⟩, nmX3⟩
  | 4, h => cases h; exact ⟨inX4, ⟨tyX4, tyX4_ok⟩, nmX4⟩
  | 5, h => cases h; exact ⟨inX5, ⟨tyX5, tyX5_ok⟩, nmX5⟩
  | 6, h => cases h; exact ⟨inX6, ⟨tyX6, tyX6_ok⟩, nmX6⟩
  | 7, h => cases h; exact ⟨inX7, ⟨tyX7, tyX7_ok⟩, nmX7⟩
  | 8, h => cases h; exact ⟨inX8, ⟨tyX8, tyX8_ok⟩, nmX8⟩
  | 9, h => cases h; exact ⟨inX9, ⟨tyX9, tyX9_ok⟩, nmX9⟩
  | c + 10, h => simp [vwCl] at h
theorem nFld_of {c : Nat} {C : String} {T : u_T} {N : Nat} (h : vwCl[c]? = some (C, T, N)) : nFld c = N := by
  unfold nFld
  rw [h]
section HEAP
variable {X : Nat × (Nat → Int32)} {k : MI} {pc : Nat} {ls : List (Option PV)} {st : List PV} {M : Mem} {Q : Option PV → Mem → Prop}
theorem T_getV {ci i f idx : Nat} {C : String} {T : u_T} {N : Nat} (hdg : decode k.2.1 pc = .ok (.getfield idx, 3)) (hr : (ci, i, 0) ∈ CL) (hc : vwCl[ci]? = some (C, T, N)) (hf : f < N) (hw : Cond.fieldLink k.1.cls idx (T f).1 (T f).2.1 (T f).2.2.1 ∈ GW) {v : PV} (hv : ∀ G : Gh, fVal G M ci i f = pv G.2.1 v) (h : TT X k (pc + 3) ls (v :: st) M Q) : TT X k pc ls (pR (ci, i, 0) :: st) M Q := by
  intro G p l e R s m args below meth c H locs cells slots QQ lsA B hc2 hs hP hD hS hl K
  obtain ⟨q, hq⟩ := cl_at hr
  have he : (wl G M)[q]? = some (G.2.1 (ci, i, 0), .inr (ci, flds G M ci i)) := wl_at G M hq
  exact va_get (D := G.1) (cl := vwCl) (v := pv G.2.1 v) B.1 B.2.1 B.2.2.2.2.1 (clsK ci C T N hc).1 B.2.2.2.1 B.2.2.2.2.2.1 hP q he hc f hf (B.2.2.2.2.1 _ hw) (fun _ h9 => h9) (by rw [flds_at G M (by rw [nFld_of hc]; exact hf), hv G]) hdg (h G p l e R s m args below meth c H locs cells slots QQ lsA B hc2 hs hP hD hS hl K)
theorem T_getI {ci i f idx : Nat} {C : String} {T : u_T} {N : Nat} (hdg : decode k.2.1 pc = .ok (.getfield idx, 3)) (hr : (ci, i, 0) ∈ CL) (hc : vwCl[ci]? = some (C, T, N)) (hf : f < N) (hw : Cond.fieldLink k.1.cls idx (T f).1 (T f).2.1 (T f).2.2.1 ∈ GW) (hn : fRef ci i f = none) (h : TT X k (pc + 3) ls (pI (M ci i 0 f) :: st) M Q) : TT X k pc ls (pR (ci, i, 0) :: st) M Q :=
  T_getV hdg hr hc hf hw (fun G => by simp [fVal, hn, pv]) h
theorem T_getR {ci i f idx : Nat} {C : String} {T : u_T} {N : Nat} {r : PR} (hdg : decode k.2.1 pc = .ok (.getfield idx, 3)) (hr : (ci, i, 0) ∈ CL) (hc : vwCl[ci]? = some (C, T, N)) (hf : f < N) (hw : Cond.fieldLink k.1.cls idx (T f).1 (T f).2.1 (T f).2.2.1 ∈ GW) (hn : fRef ci i f = some r) (h : TT X k (pc + 3) ls (pR r :: st) M Q) : TT X k pc ls (pR (ci, i, 0) :: st) M Q :=
  T_getV hdg hr hc hf hw (fun G => by simp [fVal, hn, pv]) h
theorem T_put {ci i f idx : Nat} {C : String} {T : u_T} {N : Nat} {x : Int32} {ty : FieldType} (hdg : decode k.2.1 pc = .ok (.putfield idx, 3)) (hr : (ci, i, 0) ∈ CL) (hc : vwCl[ci]? = some (C, T, N)) (hf : f < N) (hw : Cond.fieldLink k.1.cls idx (T f).1 (T f).2.1 (T f).2.2.1 ∈ GW) (hn : fRef ci i f = none) (hfin : (T f).2.2.2 = false) (hd : parseFieldDescriptor (T f).2.2.1 = some ty) (hna : narrow ty (.int x) = .int x) (hfit : fits ty (.int x) = true) (h : TT X k (pc + 3) ls st (mset M ci i 0 f x) Q) : TT X k pc ls (pI x :: pR (ci, i, 0) :: st) M Q := by
  intro G p l e R s m args below meth c H locs cells slots QQ lsA B hc2 hs hP hD hS hl K
  obtain ⟨q, hq⟩ := cl_at hr
  have he : (wl G M)[q]? = some (G.2.1 (ci, i, 0), .inr (ci, flds G M ci i)) := wl_at G M hq
  obtain ⟨hin, ⟨ty0, hty⟩, hnm⟩ := clsK ci C T N hc
  have eW : (wl G M).set q (G.2.1 (ci, i, 0), .inr (ci, (flds G M ci i).set f (.int x))) = wl G (mset M ci i 0 f x) := wl_mset G M hq (by rw [flds_set G M hn]; rfl)
  refine va_put (D := G.1) (cl := vwCl) (v := .int x) (ty := ty) B.1 B.2.1 B.2.2.2.2.1 hin ty0 hty hnm B.2.2.2.1 B.2.2.2.2.2.1 hP hD hS q he hc f hf (B.2.2.2.2.1 _ hw) (fun _ h9 => h9) hfin hd hna hfit (by rw [flds_len, nFld_of hc]; exact hf) hdg (fun H1 locs1 hP1 hD1 hS1 => ?_)
  rw [eW] at hP1 hD1
  exact h G p l e R s m args below meth c H1 locs1 cells slots QQ lsA B hc2 hs hP1 hD1 hS1 hl K
theorem T_putI {ci i f idx : Nat} {C : String} {T : u_T} {N : Nat} {x : Int32} (hdg : decode k.2.1 pc = .ok (.putfield idx, 3)) (hr : (ci, i, 0) ∈ CL) (hc : vwCl[ci]? = some (C, T, N)) (hf : f < N) (hw : Cond.fieldLink k.1.cls idx (T f).1 (T f).2.1 (T f).2.2.1 ∈ GW) (hn : fRef ci i f = none) (hfin : (T f).2.2.2 = false) (hd : (T f).2.2.1 = "I") (h : TT X k (pc + 3) ls st (mset M ci i 0 f x) Q) : TT X k pc ls (pI x :: pR (ci, i, 0) :: st) M Q :=
  T_put (ty := .int) hdg hr hc hf hw hn hfin (by rw [hd]; decide +kernel) rfl rfl h
theorem T_putZ {ci i f idx : Nat} {C : String} {T : u_T} {N : Nat} {x : Int32} (hdg : decode k.2.1 pc = .ok (.putfield idx, 3)) (hr : (ci, i, 0) ∈ CL) (hc : vwCl[ci]? = some (C, T, N)) (hf : f < N) (hw : Cond.fieldLink k.1.cls idx (T f).1 (T f).2.1 (T f).2.2.1 ∈ GW) (hn : fRef ci i f = none) (hfin : (T f).2.2.2 = false) (hd : (T f).2.2.1 = "Z") (hx : x = 0 ∨ x = 1) (h : TT X k (pc + 3) ls st (mset M ci i 0 f x) Q) : TT X k pc ls (pI x :: pR (ci, i, 0) :: st) M Q :=
  T_put (ty := .boolean) hdg hr hc hf hw hn hfin (by rw [hd]; decide +kernel) (by rcases hx with rfl | rfl <;> rfl) (by rcases hx with rfl | rfl <;> rfl) h
theorem ent_int (G : Gh) (M : Mem) {c i p n : Nat} (hp : p ≠ 0) (h8 : c ≠ 8) (h9 : ¬ (c = 9 ∧ p = 28)) (hn : aLen c p = n) : ent G M (c, i, p) = .inl (G.2.2.1, n, .inl (M c i p)) := by
  cases p with
  | zero => exact absurd rfl hp
  | succ p =>
    simp only [ent]
    rw [if_neg h8, if_neg h9, hn]
theorem T_iald {ci i p n : Nat} {j : Int32} (hdg : decode k.2.1 pc = .ok (.iaload, 1)) (hr : (ci, i, p) ∈ CL) (hp : p ≠ 0) (h8 : ci ≠ 8) (h9 : ¬ (ci = 9 ∧ p = 28)) (hn : aLen ci p = n) (hin : vp_in j n) (h : TT X k (pc + 1) ls (pI (M ci i p j.toNatClampNeg) :: st) M Q) : TT X k pc ls (pI j :: pR (ci, i, p) :: st) M Q := by
  intro G p' l e R s m args below meth c H locs cells slots QQ lsA B hc2 hs hP hD hS hl K
  obtain ⟨q, hq⟩ := cl_at hr
  have he := wl_at G M hq
  rw [ent_int G M hp h8 h9 hn] at he
  exact va_iald B.1 B.2.1 B.2.2.2.2.2.1 hP q 0 he rfl hin hdg (h G p' l e R s m args below meth c H locs cells slots QQ lsA B hc2 hs hP hD hS hl K)
theorem T_iast {ci i p n : Nat} {j x : Int32} (hdg : decode k.2.1 pc = .ok (.iastore, 1)) (hr : (ci, i, p) ∈ CL) (hp : p ≠ 0) (h8 : ci ≠ 8) (h9 : ¬ (ci = 9 ∧ p = 28)) (hn : aLen ci p = n) (hin : vp_in j n) (h : TT X k (pc + 1) ls st (mset M ci i p j.toNatClampNeg x) Q) : TT X k pc ls (pI x :: pI j :: pR (ci, i, p) :: st) M Q := by
  intro G p' l e R s m args below meth c H locs cells slots QQ lsA B hc2 hs hP hD hS hl K
  obtain ⟨q, hq⟩ := cl_at hr
  have he := wl_at G M hq
  rw [ent_int G M hp h8 h9 hn] at he
  refine va_iast B.1 B.2.1 B.2.2.2.2.2.1 hP hD hS q 0 he rfl hin hdg (fun H1 locs1 hP1 hD1 hS1 => ?_)
  have eW : (wl G M).set q (G.2.1 (ci, i, p), .inl (G.2.2.1, n, .inl (upd (M ci i p) j.toNatClampNeg x))) = wl G (mset M ci i p j.toNatClampNeg x) := wl_mset G M hq (by rw [ent_int G _ hp h8 h9 hn, mset_self])
  rw [eW] at hP1 hD1
  exact h G p' l e R s m args below meth c H1 locs1 cells slots QQ lsA B hc2 hs hP1 hD1 hS1 hl K
theorem ent_bool (G : Gh) (M : Mem) : ent G M (9, 0, 28) = .inl (G.2.2.2.1, 2, .inl (M 9 0 28)) := rfl
theorem T_zald {j : Int32} (hdg : decode k.2.1 pc = .ok (.baload, 1)) (hin : vp_in j 2) (h : TT X k (pc + 1) ls (pI (M 9 0 28 j.toNatClampNeg) :: st) M Q) : TT X k pc ls (pI j :: pR (9, 0, 28) :: st) M Q := by
  intro G p' l e R s m args below meth c H locs cells slots QQ lsA B hc2 hs hP hD hS hl K
  obtain ⟨q, hq⟩ := cl_at (r := (9, 0, 28)) (by decide +kernel)
  have he := wl_at G M hq
  rw [ent_bool] at he
  exact va_zald B.1 B.2.1 B.2.2.2.2.2.1 hP q 1 he rfl hin hdg (h G p' l e R s m args below meth c H locs cells slots QQ lsA B hc2 hs hP hD hS hl K)
theorem T_zast {j x : Int32} (hdg : decode k.2.1 pc = .ok (.bastore, 1)) (hin : vp_in j 2) (hx : x = 0 ∨ x = 1) (h : TT X k (pc + 1) ls st (mset M 9 0 28 j.toNatClampNeg x) Q) : TT X k pc ls (pI x :: pI j :: pR (9, 0, 28) :: st) M Q := by
  intro G p' l e R s m args below meth c H locs cells slots QQ lsA B hc2 hs hP hD hS hl K
  obtain ⟨q, hq⟩ := cl_at (r := (9, 0, 28)) (by decide +kernel)
  have he := wl_at G M hq
  rw [ent_bool] at he
  refine va_zast B.1 B.2.1 B.2.2.2.2.2.1 hP hD hS q 1 he rfl hin hdg (fun H1 locs1 hP1 hD1 hS1 => ?_)
  have en : vp_nar .boolean x = x := by rcases hx with rfl | rfl <;> rfl
  have eW : (wl G M).set q (G.2.1 (9, 0, 28), .inl (G.2.2.2.1, 2, .inl (upd (M 9 0 28) j.toNatClampNeg (vp_nar .boolean x)))) = wl G (mset M 9 0 28 j.toNatClampNeg x) := wl_mset G M hq (by rw [ent_bool, mset_self, en])
  rw [eW] at hP1 hD1
  exact h G p' l e R s m args below meth c H1 locs1 cells slots QQ lsA B hc2 hs hP1 hD1 hS1 hl K
theorem ent_img (G : Gh) (M : Mem) : ent G M (8, 0, 6) = .inl (G.2.2.2.2, 2, .inr (.inr (.inr (.inr (fun j => some (G.2.1 (6, j + 3, 0))))))) := rfl
theorem T_aald {j : Int32} (hdg : decode k.2.1 pc = .ok (.aaload, 1)) (hin : vp_in j 2) (h : TT X k (pc + 1) ls (pR (6, j.toNatClampNeg + 3, 0) :: st) M Q) : TT X k pc ls (pI j :: pR (8, 0, 6) :: st) M Q := by
  intro G p' l e R s m args below meth c H locs cells slots QQ lsA B hc2 hs hP hD hS hl K
  obtain ⟨q, hq⟩ := cl_at (r := (8, 0, 6)) (by decide +kernel)
  have he := wl_at G M hq
  rw [ent_img] at he
  exact va_aldq B.1 B.2.1 B.2.2.2.2.2.1 hP q 2 he rfl hin hdg (h G p' l e R s m args below meth c H locs cells slots QQ lsA B hc2 hs hP hD hS hl K)
theorem T_ireturn {v : Int32} {ty : FieldType} (hdg : decode k.2.1 pc = .ok (.ireturn, 1)) (hr : k.2.2.2.1 = some ty) (hn : narrow ty (.int v) = .int v) (h : Q (some (pI v)) M) : TT X k pc ls [pI v] M Q := by
  intro G p' l e R s m args below meth c H locs cells slots QQ lsA B hc2 hs hP hD hS hl K
  exact K (some (pI v)) M H locs pc lsA h hP hD hS ⟨hdg, ty, hr, hn⟩
theorem T_lreturn {v : Int64} (hdg : decode k.2.1 pc = .ok (.lreturn, 1)) (hr : k.2.2.2.1 = some .long) (h : Q (some (pL v)) M) : TT X k pc ls [pL v] M Q := by
  intro G p' l e R s m args below meth c H locs cells slots QQ lsA B hc2 hs hP hD hS hl K
  exact K (some (pL v)) M H locs pc lsA h hP hD hS ⟨hdg, hr⟩
theorem T_return (hdg : decode k.2.1 pc = .ok (.return_, 1)) (hr : k.2.2.2.1 = none) (h : Q none M) : TT X k pc ls [] M Q := by
  intro G p' l e R s m args below meth c H locs cells slots QQ lsA B hc2 hs hP hD hS hl K
  exact K none M H locs pc lsA h hP hD hS ⟨hdg, hr⟩
theorem cat_le (ad : PR → Nat) : ∀ st : List PV, ((st.map (pv ad)).map fun v => v.category).sum ≤ 2 * st.length
  | [] => Nat.le_refl 0
  | v :: t => by
    have h := cat_le ad t
    rcases lv_cat (pv ad v) with q | q <;> simp only [List.map_cons, List.sum_cons, List.length_cons, q] <;> omega
theorem T_min {idx : Nat} {x y : Int32} (hdg : decode k.2.1 pc = .ok (.invokestatic idx, 3)) (hw : Cond.methodLink k.1.cls idx Lib.Math.min.name ∈ GW) (hst : 1 ≤ k.2.2.2.2.1 ∧ 2 * st.length + 13 ≤ k.2.2.2.2.2) (h : TT X k (pc + 3) ls (pI (if y < x then y else x) :: st) M Q) : TT X k pc ls (pI y :: pI x :: st) M Q := by
  intro G p' l e R s m args below meth c H locs cells slots QQ lsA B hc2 hs hP hD hS hl K
  have hz := cat_le G.2.1 st
  obtain ⟨-, -, b3, -, -, -, -, b8, b9⟩ := id B
  exact va_mmin B.1 B.2.1 (by rw [b3, hl.1]) B.2.2.2.1 (B.2.2.2.2.1 _ hw) (B.2.2.2.2.1 _ wt_Lib_Math_min_name) (B.2.2.2.2.1 _ wz_J9) (B.2.2.2.2.1 _ wo_Lib_Math_min_name) (by omega) (by omega) hc2 hs hdg (h G p' l e R s m args below meth c H locs cells slots QQ lsA B hc2 hs hP hD hS hl K)
theorem T_max {idx : Nat} {x y : Int32} (hdg : decode k.2.1 pc = .ok (.invokestatic idx, 3)) (hw : Cond.methodLink k.1.cls idx Lib.Math.max.name ∈ GW) (hst : 1 ≤ k.2.2.2.2.1 ∧ 2 * st.length + 13 ≤ k.2.2.2.2.2) (h : TT X k (pc + 3) ls (pI (if x < y then y else x) :: st) M Q) : TT X k pc ls (pI y :: pI x :: st) M Q := by
  intro G p' l e R s m args below meth c H locs cells slots QQ lsA B hc2 hs hP hD hS hl K
  have hz := cat_le G.2.1 st
  obtain ⟨-, -, b3, -, -, -, -, b8, b9⟩ := id B
  exact va_mmax B.1 B.2.1 (by rw [b3, hl.1]) B.2.2.2.1 (B.2.2.2.2.1 _ hw) (B.2.2.2.2.1 _ wt_Lib_Math_max_name) (B.2.2.2.2.1 _ wz_J9) (B.2.2.2.2.1 _ wo_Lib_Math_max_name) (by omega) (by omega) hc2 hs hdg (h G p' l e R s m args below meth c H locs cells slots QQ lsA B hc2 hs hP hD hS hl K)
/-- System.arraycopy within one int array -/
theorem T_copy {ci i p n idx : Nat} {sp dp z : Int32} (hdg : decode k.2.1 pc = .ok (.invokestatic idx, 3)) (hw : Cond.methodLink k.1.cls idx arraycopyName ∈ GW) (hr : (ci, i, p) ∈ CL) (hp : p ≠ 0) (h8 : ci ≠ 8) (h9 : ¬ (ci = 9 ∧ p = 28)) (hn : aLen ci p = n)
    (h1 : ¬ sp < 0) (h2 : ¬ dp < 0) (h3 : ¬ z < 0) (h4 : sp.toNatClampNeg + z.toNatClampNeg ≤ n) (h5 : dp.toNatClampNeg + z.toNatClampNeg ≤ n) (hst : 1 ≤ k.2.2.2.2.1 ∧ 2 * st.length + (nativeFrameWords "java/lang/System" "arraycopy" 5 + 11) ≤ k.2.2.2.2.2)
    (h : TT X k (pc + 3) ls st (marr M ci i p (va_cpy (M ci i p) (M ci i p) sp.toNatClampNeg dp.toNatClampNeg z.toNatClampNeg)) Q) : TT X k pc ls (pI z :: pI dp :: pR (ci, i, p) :: pI sp :: pR (ci, i, p) :: st) M Q := by
  intro G p' l e R s m args below meth c H locs cells slots QQ lsA B hc2 hs hP hD hS hl K
  have hz := cat_le G.2.1 st
  obtain ⟨-, -, b3, -, -, -, -, b8, b9⟩ := id B
  obtain ⟨q, hq⟩ := cl_at hr
  have he := wl_at G M hq
  rw [ent_int G M hp h8 h9 hn] at he
  refine va_copyi (ty := .int) B.1 B.2.1 (by rw [b3, hl.1]) B.2.2.2.1 (B.2.2.2.2.1 _ hw) (B.2.2.2.2.1 _ wv_arraycopy) (B.2.2.2.2.1 _ wt_arraycopyName) (B.2.2.2.2.1 _ wz_J10) B.2.2.2.2.2.1 hP hD hS q q 0 0 he he rfl rfl rfl h1 h2 h3 h4 h5 (fun _ _ => rfl) (by omega) (by omega) hdg (fun H1 locs1 hP1 hD1 hS1 => ?_)
  have eW : (wl G M).set q (G.2.1 (ci, i, p), .inl (G.2.2.1, n, .inl (va_cpy (M ci i p) (M ci i p) sp.toNatClampNeg dp.toNatClampNeg z.toNatClampNeg))) = wl G (marr M ci i p (va_cpy (M ci i p) (M ci i p) sp.toNatClampNeg dp.toNatClampNeg z.toNatClampNeg)) := wl_marr G M hq (by rw [ent_int G _ hp h8 h9 hn, marr_self])
  rw [eW] at hP1 hD1
  exact h G p' l e R s m args below meth c H1 locs1 cells slots QQ lsA B hc2 hs hP1 hD1 hS1 hl K
end HEAP
