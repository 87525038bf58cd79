section BEST
variable {X : Nat × (Nat → Int32)} {M : Mem} {Q : Option PV → Mem → Prop}
theorem one_i : (1 : Int32).toInt = 1 := rfl
theorem sub_i {a b : Nat} (ha : a ≤ 1000000) (hb : b ≤ 1000000) : (nI a - nI b).toInt = (a : Int) - b := pk_sub_toInt (by omega) (by omega)
theorem pair_best {F : Int32 → Int32 → Mem → Prop} {a1 a2 : Int32} (hI : Inv M) (h : ∀ v M', Inv M' → F v v M') : TT X kX8_best 0 [some (pR (8, 0, 0)), some (pI a1), some (pI a2)] [] M (rI fun v1 M1 => TT X kX9_best 0 [some (pR (9, 0, 0)), some (pI a1), some (pI a2), none, none] [] M1 (rI fun v2 M2 => F v1 v2 M2)) := by
  obtain ⟨n1, n2, n3, w1, w2, w3⟩ := now_of hI
  have hT := inv_thr (v := 0) hI
  obtain ⟨⟨h6, hv⟩, hX, hth⟩ := hI.2.2.2.2.1
  by_cases c0 : sdOf (M 9 0 6) 0 = 0
  · refine rX8_best_0 <| s_isNone (by decide) (by omega) n2 <| bz_t c0 <| rX9_best_0 <| nr_t ?_ <| h _ _ hT
    rw [mset_c4 (by decide), hth, bI_f (fun q => q c0)]
  have th1 : M 9 0 0 7 = 1 := by rw [hth, bI_t c0]
  have t1 : ¬ (mset M 9 0 0 0 0) 9 0 0 7 = 0 := by rw [mset_c4 (by decide), th1]; decide
  by_cases c1 : 1 ≤ a1.toInt ∧ a1.toInt ≤ 31
  rotate_left
  · have m : TT X kX9_best 0 [some (pR (9, 0, 0)), some (pI a1), some (pI a2), none, none] [] M (rI fun v2 M2 => F (-1000001) v2 M2) := rX9_best_0 <| nr_f t1 <| s_in <| bz_f (by rw [i64]; exact c1) <| h _ _ hT
    refine rX8_best_0 <| s_isNone (by decide) (by omega) n2 <| bz_f c0 ⟨fun _ => m, fun z => ⟨fun _ => m, fun y => absurd ?_ c1⟩⟩
    rw [i32_lt, one_i] at z
    rw [i32_lt, show (31 : Int32).toInt = 31 from rfl] at y
    omega
  obtain ⟨set, hset, rfl⟩ : ∃ o : Nat, o < 32 ∧ a1 = nI o := ⟨a1.toInt.toNat, by omega, nI_is (by omega)⟩
  have x1 : ¬ nI set < 1 := by rw [i32_lt, one_i]; omega
  have x2 : ¬ 31 < nI set := by rw [i32_lt, show (31 : Int32).toInt = 31 from rfl]; omega
  by_cases c2 : 0 ≤ a2.toInt ∧ a2.toInt ≤ 1
  rotate_left
  · have m : TT X kX9_best 0 [some (pR (9, 0, 0)), some (pI (nI set)), some (pI a2), none, none] [] M (rI fun v2 M2 => F (-1000001) v2 M2) := rX9_best_0 <| nr_f t1 <| s_in <| bz_t (by rw [i64]; exact c1) <| s_in <| bn_f (by rw [i64]; exact c2) <| h _ _ hT
    refine rX8_best_0 <| s_isNone (by decide) (by omega) n2 <| bz_f c0 <| br_f x1 <| br_f x2 ⟨fun _ => m, fun z => ⟨fun y => absurd ?_ c2, fun _ => m⟩⟩
    rw [i32_lt, z0] at z
    rw [i32_le, one_i] at y
    omega
  have x3 : ¬ a2 < 0 := by rw [i32_lt, z0]; omega
  have x4 : a2 ≤ 1 := by rw [i32_le, one_i]; omega
  generalize hsd : sdOf (M 9 0 6) = sd at *
  have hva := sva_of hv
  have hY := stx_y hX
  have e9 : ∀ M1, M1 9 0 = M 9 0 → ∀ x, x < 80 → (mset M1 9 0 0 0 0) 9 0 6 x = nI (sd x) := fun M1 e x hx => by rw [mset_c3 (by decide), e]; exact h6 x hx
  have t9 : ∀ M1, M1 9 0 = M 9 0 → ¬ (mset M1 9 0 0 0 0) 9 0 0 7 = 0 := fun M1 e => by rw [mset_c4 (by decide), e, th1]; decide
  refine rX8_best_0 <| s_isNone (by decide) (by omega) n2 <| bz_f c0 <| br_f x1 <| br_f x2 <| br_f x3 <| br_t x4 <| s_ownAny (by decide) hset hva hY ?_
  by_cases c3 : hasS (sOw sd) set (sd 0) = true
  rotate_left
  · refine bn_f c3 <| rX9_best_0 <| nr_f t1 <| s_in <| bz_t (by rw [i64]; exact c1) <| s_in <| bn_t (by rw [i64]; exact c2) <| m_now hv (e9 M rfl) fun M2 o2 s2 => m_haveSteps hset hva s2 <| bn_f c3 <| h _ _ (inv_scr hI ?_)
    exact Scr.trans Scr.thr (Scr.o9 o2 (by decide))
  refine bn_t c3 <| s_takeOver (by decide) (by decide) (by decide) hX hv.1 hv.2.1 fun M1 o1 y1 => s_seek (by decide) hset hva (stx_y y1) fun M2 o2 y2 b1 b2 => ?_
  have ok : Omk M M2 2 := Omk.trans (Omk.o6 o1) o2
  have bb := bst_b (set := set) hva
  have tb := tk_le (set := set) hva
  have ref : ∀ (M3 : Mem) (u : Int32), M3 9 0 = M 9 0 → Scr M M3 → (∀ M4 M5 : Mem, Scr M M5 → M4 9 0 0 26 = nI (bst sd (sAs sd) (sOw sd) set).2 → (¬ a2 = 0 → (0 ≤ ((M4 9 0 0 26) - nI (tk sd (sAs sd) (sOw sd) set)) → F u ((M4 9 0 0 26) - nI (tk sd (sAs sd) (sOw sd) set)) M5) ∧ (¬ 0 ≤ ((M4 9 0 0 26) - nI (tk sd (sAs sd) (sOw sd) set)) → F u 0 M5)) ∧ (a2 = 0 → F u (nI (bst sd (sAs sd) (sOw sd) set).1) M5)) → TT X kX9_best 0 [some (pR (9, 0, 0)), some (pI (nI set)), some (pI a2), none, none] [] M3 (rI fun v2 M2 => F u v2 M2) := by
    intro M3 u e3 s3 g
    refine rX9_best_0 <| nr_f (t9 M3 e3) <| s_in <| bz_t (by rw [i64]; exact c1) <| s_in <| bn_t (by rw [i64]; exact c2) <| m_now hv (e9 M3 e3) fun M4 o4 s4 => m_haveSteps hset hva s4 <| bn_t c3 <| m_bestOf hset hva s4 fun M5 b5 s5 q5 => m_takenBy hset hva s5 fun M6 o6 s6 => g M5 M6 ?_ q5
    exact Scr.trans s3 (Scr.trans Scr.thr (Scr.trans (Scr.o9 o4 (by decide)) (Scr.trans (Scr.b9 b5) (Scr.o9 o6 (by decide)))))
  show _ ∧ _
  by_cases c4 : a2 = 0
  · refine nr_t c4 <| rX3_bestAsking_0 ?_
    rw [b1]
    refine ref M2 _ (ok 9 0 (by omega) (by omega) (by omega)) (Scr.mk ok) fun M4 M5 s5 _ => nr_t c4 <| h _ _ (inv_scr hI s5)
  · refine nr_f c4 <| rX3_bestTaken_0 ?_
    rw [b2]
    refine s_taken (by decide) hset hva (by rw [ok 6 0 (by omega) (by omega) (by omega)]; exact hY) fun M3 o3 => ?_
    refine ref M3 _ (by rw [o3 9 0 (by omega)]; exact ok 9 0 (by omega) (by omega) (by omega)) (Scr.trans (Scr.mk ok) (Scr.oth o3 (by decide))) fun M4 M5 s5 q5 => nr_f c4 ?_
    rw [q5]
    have sub := sub_i (a := (bst sd (sAs sd) (sOw sd) set).2) (b := tk sd (sAs sd) (sOw sd) set) (by omega) (by omega)
    by_cases g : 0 < nI (bst sd (sAs sd) (sOw sd) set).2 - nI (tk sd (sAs sd) (sOw sd) set)
    · rw [if_pos g]
      refine br_t ?_ <| h _ _ (inv_scr hI s5)
      rw [i32_lt] at g
      rw [i32_le]
      omega
    · rw [if_neg g]
      rw [i32_lt, z0, sub] at g
      refine ⟨fun z => ?_, fun _ => h _ _ (inv_scr hI s5)⟩
      rw [i32_le, z0, sub] at z
      have e : nI (bst sd (sAs sd) (sOw sd) set).2 - nI (tk sd (sAs sd) (sOw sd) set) = 0 := by
        apply i32_eq.mpr
        rw [sub, z0]; omega
      rw [e]
      exact h _ _ (inv_scr hI s5)
/-! deal -/
def setO (ow : NF) (p o : Nat) : NF := fun s => if s = p then o else ow s
theorem sva_o {sd as ow : NF} {p o : Nat} (h : SVA sd as ow) (ho : o ≤ 4) : SVA sd as (setO ow p o) := by
  refine ⟨h.1, fun s hs => ⟨(h.2 s hs).1, ?_⟩⟩
  unfold setO
  split
  · exact ho
  · exact (h.2 s hs).2
theorem sty_o {sd as ow : NF} {j p o : Nat} (h : StY (M 6 j) sd as ow) : StY ((mset M 6 j 3 p (nI o)) 6 j) sd as (setO ow p o) := by
  refine ⟨by rw [mset_c3 (by simp)]; exact h.1, by rw [mset_c3 (by simp)]; exact h.2.1, fun s hs => ⟨?_, by rw [mset_c3 (by simp)]; exact (h.2.2.1 s hs).2.1, by rw [mset_c3 (by simp)]; exact (h.2.2.1 s hs).2.2⟩, fun u hu => ?_⟩
  · unfold setO
    by_cases e : s = p
    · subst e
      rw [mset_at, if_pos rfl]
    · rw [mset_c4 (by simp [e]), if_neg e]
      exact (h.2.2.1 s hs).1
  · rw [mset_c3 (by simp), mset_c3 (by simp), mset_c3 (by simp), mset_c3 (by simp)]
    exact h.2.2.2 u hu
theorem str_o {sd as ow : NF} {p o : Nat} (h : StR M sd as ow) : StR (mset M 9 0 21 p (nI o)) sd as (setO ow p o) := by
  refine ⟨fun x hx => by rw [mset_c3 (by decide)]; exact h.1 x hx, fun s hs => ⟨?_, by rw [mset_c3 (by decide)]; exact (h.2 s hs).2⟩⟩
  unfold setO
  by_cases e : s = p
  · subst e
    rw [mset_at, if_pos rfl]
  · rw [mset_c4 (by simp [e]), if_neg e]
    exact (h.2 s hs).1
theorem pair_deal {F : Int32 → Int32 → Mem → Prop} {a1 a2 a3 : Int32} (hI : Inv M) (h : ∀ v M', Inv M' → F v v M') : TT X kX8_deal 0 [some (pR (8, 0, 0)), some (pI a1), some (pI a2), some (pI a3), none] [] M (rI fun v1 M1 => TT X kX9_deal 0 [some (pR (9, 0, 0)), some (pI a1), some (pI a2), some (pI a3), none] [] M1 (rI fun v2 M2 => F v1 v2 M2)) := by
  obtain ⟨n1, n2, n3, -⟩ := now_of hI
  have hT := inv_thr (v := 0) hI
  obtain ⟨⟨h6, hv⟩, hX, hth⟩ := hI.2.2.2.2.1
  by_cases c1 : 0 ≤ a1.toInt ∧ a1.toInt < (sdOf (M 9 0 6) 0 : Nat)
  rotate_left
  · exact rX8_deal_0 <| s_hasStep (by decide) (by omega) n2 <| bz_f c1 <| rX9_deal_0 <| m_isStep (by omega) (by rw [thr6]; exact n3) <| bz_f c1 <| h _ _ hT
  by_cases c2 : 0 ≤ a2.toInt ∧ a2.toInt < 5
  rotate_left
  · exact rX8_deal_0 <| s_hasStep (by decide) (by omega) n2 <| bz_t c1 <| s_isOwner <| bz_f c2 <| rX9_deal_0 <| m_isStep (by omega) (by rw [thr6]; exact n3) <| bz_t c1 <| m_isOwner <| bz_f c2 <| h _ _ hT
  obtain ⟨s, hs, rfl⟩ : ∃ s : Nat, s < sdOf (M 9 0 6) 0 ∧ a1 = nI s := ⟨a1.toInt.toNat, by omega, nI_is (by omega)⟩
  obtain ⟨o, ho, rfl⟩ : ∃ v : Nat, v < 5 ∧ a2 = nI v := ⟨a2.toInt.toNat, by omega, nI_is (by omega)⟩
  have v18 : vp_in (nI s) 18 := vp_in_nI (by omega) (by decide)
  have cl : Int32.toNatClampNeg (nI s) = s := clampI (by omega)
  have v80 : vp_in (nI (2 + 3 * s)) 80 := vp_in_nI (by omega) (by decide)
  have he : M 6 0 3 s = M 9 0 6 (2 + 3 * s) := had_eq (c := 1) hI (by decide) hs
  refine rX8_deal_0 <| s_hasStep (by decide) (by omega) n2 <| bz_t c1 <| s_isOwner <| bz_t c2 ⟨v18, ?_⟩
  rw [cl]
  by_cases c3 : M 6 0 3 s = nI o
  · refine br_t c3 <| rX9_deal_0 <| m_isStep (by omega) (by rw [thr6]; exact n3) <| bz_t c1 <| m_isOwner <| bz_t c2 ?_
    rw [ix1, clampI (by omega), thr6, ← he]
    exact ⟨v80, br_t c3 <| h _ _ hT⟩
  have hd : ∀ M1 u, M1 9 0 = M 9 0 → (TT X kX9_in 0 [some (pL (Int32.toInt64 a3)), none, some (pL 0), none, some (pL 1), none] [] (mset M1 9 0 0 0 0) (rI fun v6 M5 => (¬ v6 = 0 → TT X kX9_layNow 0 [some (pR (9, 0, 0)), none] [] M5 (rV fun M7 => (¬ a3 = 0 → TT X kX9_canTake 0 [some (pR (9, 0, 0)), some (pI (nI (2 ^ o))), none] [] M7 (rI fun v10 M9 => vp_in (nI s) 18 ∧ ((¬ a3 = 0 → TT X kX9_canTake 0 [some (pR (9, 0, 0)), some (pI (nI (2 ^ o))), none] [] (mset M9 9 0 21 s (nI o)) (rI fun v12 M11 => F u (v12 - v10) M11)) ∧ (a3 = 0 → TT X kX9_takenBy 0 [some (pR (9, 0, 0)), some (pI (nI (2 ^ o))), none, none, none, none] [] (mset M9 9 0 21 s (nI o)) (rI fun v15 M14 => F u (v15 - v10) M14))))) ∧ (a3 = 0 → TT X kX9_takenBy 0 [some (pR (9, 0, 0)), some (pI (nI (2 ^ o))), none, none, none, none] [] M7 (rI fun v20 M19 => vp_in (nI s) 18 ∧ ((¬ a3 = 0 → TT X kX9_canTake 0 [some (pR (9, 0, 0)), some (pI (nI (2 ^ o))), none] [] (mset M19 9 0 21 s (nI o)) (rI fun v22 M21 => F u (v22 - v20) M21)) ∧ (a3 = 0 → TT X kX9_takenBy 0 [some (pR (9, 0, 0)), some (pI (nI (2 ^ o))), none, none, none, none] [] (mset M19 9 0 21 s (nI o)) (rI fun v25 M24 => F u (v25 - v20) M24))))))) ∧ (v6 = 0 → F u (-1000001) M5))) → TT X kX9_deal 0 [some (pR (9, 0, 0)), some (pI (nI s)), some (pI (nI o)), some (pI a3), none] [] M1 (rI fun v2 M2 => F u v2 M2) := by
    intro M1 u e1 g
    refine rX9_deal_0 <| m_isStep (n := sdOf (M 9 0 6) 0) (by omega) (by rw [thr6, e1]; exact n3) <| bz_t c1 <| m_isOwner <| bz_t c2 ?_
    rw [ix1, clampI (by omega), clampI (by omega), thr6, e1, ← he, shl1 o ho]
    exact ⟨v80, br_f c3 g⟩
  by_cases c4 : 0 ≤ a3.toInt ∧ a3.toInt ≤ 1
  rotate_left
  · have m : TT X kX9_deal 0 [some (pR (9, 0, 0)), some (pI (nI s)), some (pI (nI o)), some (pI a3), none] [] M (rI fun v2 M2 => F (-1000001) v2 M2) := hd M _ rfl <| s_in <| bn_f (by rw [i64]; exact c4) <| h _ _ hT
    refine br_f c3 ⟨fun _ => m, fun z => ⟨fun y => absurd ?_ c4, fun _ => m⟩⟩
    rw [i32_lt, z0] at z
    rw [i32_le, one_i] at y
    omega
  have x3 : ¬ a3 < 0 := by rw [i32_lt, z0]; omega
  have x4 : a3 ≤ 1 := by rw [i32_le, one_i]; omega
  generalize hsd : sdOf (M 9 0 6) = sd at *
  have hva := sva_of hv
  have hY := stx_y hX
  have e9 : ∀ M1, M1 9 0 = M 9 0 → ∀ x, x < 80 → (mset M1 9 0 0 0 0) 9 0 6 x = nI (sd x) := fun M1 e x hx => by rw [mset_c3 (by decide), e]; exact h6 x hx
  have hvo : SVA sd (sAs sd) (setO (sOw sd) s o) := sva_o hva (by omega)
  have hp := pow_lt o ho
  refine br_f c3 <| br_f x3 <| br_t x4 ?_
  rw [shl1 o ho]
  by_cases c5 : a3 = 0
  · refine rX8_dealTaken_0 <| nr_t c5 <| s_taken (by decide) hp hva hY fun M1 o1 => ?_
    refine s_takeOver (by decide) (by decide) (by decide) (sd := sd) (by rw [o1 6 0 (by omega)]; exact hX) hv.1 hv.2.1 fun M2 o2 y2 => ⟨v18, nr_t c5 <| s_taken (by decide) hp hvo (sty_o (stx_y y2)) fun M3 o3 => ?_⟩
    have s3 : Scr M M3 := Scr.trans (Scr.oth o1 (by decide)) (Scr.trans (Scr.oth o2 (by decide)) (Scr.trans (Scr.oth (Oth.set (c := 6) (i := 2) (p := 3) (x := s) (v := nI o) Oth.rfl') (by decide)) (Scr.oth o3 (by decide))))
    refine hd M3 _ ?_ <| s_in <| bn_t (by rw [i64]; exact c4) <| m_now hv (e9 M3 ?_) fun M4 o4 s4 => nr_t c5 <| m_takenBy hp hva s4 fun M5 o5 s5 => ⟨v18, nr_t c5 <| m_takenBy hp hvo (str_o s5) fun M6 o6 s6 => h _ _ (inv_scr hI ?_)⟩
    · rw [o3 9 0 (by omega), mset_c2 (by omega), o2 9 0 (by omega), o1 9 0 (by omega)]
    · rw [o3 9 0 (by omega), mset_c2 (by omega), o2 9 0 (by omega), o1 9 0 (by omega)]
    · exact Scr.trans s3 (Scr.trans Scr.thr (Scr.trans (Scr.o9 o4 (by decide)) (Scr.trans (Scr.o9 o5 (by decide)) (Scr.trans (Scr.o9 (O9.set (ps := [21]) O9.rfl' (by decide)) (by decide)) (Scr.o9 o6 (by decide))))))
  · refine rX8_dealTaken_0 <| nr_f c5 <| s_bestTakenBy hp hv hX fun M1 o1 => ?_
    refine s_takeOver (by decide) (by decide) (by decide) (sd := sd) (by rw [o1 6 0 (by omega) (by omega) (by omega)]; exact hX) hv.1 hv.2.1 fun M2 o2 y2 => ⟨v18, nr_f c5 <| s_seek (by decide) hp hvo (sty_o (stx_y y2)) fun M3 o3 _ _ b2 => rX3_bestTaken_0 ?_⟩
    rw [b2]
    have s3 : Scr M M3 := Scr.trans (Scr.mk o1) (Scr.trans (Scr.oth o2 (by decide)) (Scr.trans (Scr.oth (Oth.set (c := 6) (i := 2) (p := 3) (x := s) (v := nI o) Oth.rfl') (by decide)) (Scr.mk o3)))
    refine hd M3 _ ?_ <| s_in <| bn_t (by rw [i64]; exact c4) <| m_now hv (e9 M3 ?_) fun M4 o4 s4 => nr_f c5 <| m_canTake hp hva s4 fun M5 o5 s5 => ⟨v18, nr_f c5 <| m_canTake hp hvo (str_o s5) fun M6 o6 s6 => h _ _ (inv_scr hI ?_)⟩
    · rw [o3 9 0 (by omega) (by omega) (by omega), mset_c2 (by omega), o2 9 0 (by omega), o1 9 0 (by omega) (by omega) (by omega)]
    · rw [o3 9 0 (by omega) (by omega) (by omega), mset_c2 (by omega), o2 9 0 (by omega), o1 9 0 (by omega) (by omega) (by omega)]
    · exact Scr.trans s3 (Scr.trans Scr.thr (Scr.trans (Scr.o9 o4 (by decide)) (Scr.trans (Scr.b9 o5) (Scr.trans (Scr.o9 (O9.set (ps := [21]) O9.rfl' (by decide)) (by decide)) (Scr.b9 o6)))))
/-! planks -/
def pl1 (as : NF) : NF := fun s => if 0 < as s then 1 else 0
theorem sva_p {sd as ow : NF} (h : SVA sd as ow) : SVA sd (pl1 as) ow := by
  refine ⟨h.1, fun s hs => ⟨?_, (h.2 s hs).2⟩⟩
  unfold pl1
  split <;> omega
theorem s_askOne {sd as ow : NF} {j : Nat} (hj : j < 5) (hv : SVA sd as ow) (hS : StY (M 6 j) sd as ow) (h : ∀ M', Oth M M' 6 j → StY (M' 6 j) sd (pl1 as) ow → Q none M') : TT X kX6_askOneAtMost 0 [some (pR (6, j, 0)), none] [] M Q := by
  have l0 := hv.1.1
  have L : ∀ d k, k + d = sd 0 → ∀ M1, Oth M M1 6 j → (∀ p, ¬ p = 4 → M1 6 j p = M 6 j p) → (∀ s, s < sd 0 → M1 6 j 4 s = nI (if s < k then pl1 as s else as s)) → TT X kX6_askOneAtMost 2 [some (pR (6, j, 0)), some (pI (nI k))] [] M1 Q := by
    intro d
    induction d with
    | zero =>
      intro k hk M1 o1 f1 f4
      obtain rfl : k = sd 0 := by omega
      refine rX6_askOneAtMost_2 hj <| br_t (by rw [f1 0 (by decide), hS.1]; exact nI_le (Nat.le_refl _) (by omega)) <| h M1 o1 ⟨?_, ?_, fun s hs => ⟨?_, ?_, ?_⟩, fun u hu => ?_⟩
      · rw [f1 0 (by decide)]; exact hS.1
      · rw [f1 0 (by decide)]; exact hS.2.1
      · rw [f1 3 (by decide)]; exact (hS.2.2.1 s hs).1
      · rw [f4 s hs, if_pos hs]
      · rw [f1 5 (by decide)]; exact (hS.2.2.1 s hs).2.2
      · rw [f1 6 (by decide), f1 7 (by decide), f1 8 (by decide), f1 9 (by decide)]; exact hS.2.2.2 u hu
    | succ d ih =>
      intro k hk M1 o1 f1 f4
      have v18 : vp_in (nI k) 18 := vp_in_nI (by omega) (by decide)
      refine rX6_askOneAtMost_2 hj <| br_f (by rw [f1 0 (by decide), hS.1]; exact nI_ge (by omega) (by omega)) ⟨v18, v18, ?_⟩
      have a20 := (hv.2 k (by omega)).1
      have e4 : M1 6 j 4 k = nI (as k) := by rw [f4 k (by omega), if_neg (Nat.lt_irrefl k)]
      rw [clampI (by omega), nI_1, e4, show (1 : Int32) = nI 1 from rfl, min_nI (by omega) (by omega)]
      refine ih (k + 1) (by omega) _ (Oth.set o1) (fun p hp => by rw [mset_c3 (by simp [hp])]; exact f1 p hp) fun s hs => ?_
      by_cases e : s = k
      · subst e
        rw [mset_at, if_pos (by omega)]
        unfold pl1
        congr 1
        split <;> omega
      · rw [mset_c4 (by simp [e]), f4 s hs]
        by_cases z : s < k
        · rw [if_pos z, if_pos (by omega)]
        · rw [if_neg z, if_neg (by omega)]
  exact rX6_askOneAtMost_0 hj (L _ 0 (Nat.zero_add _) M Oth.rfl' (fun _ _ => rfl) (fun s hs => by rw [if_neg (Nat.not_lt_zero s)]; exact (hS.2.2.1 s hs).2.1))
theorem m_planks {sd as ow : NF} {w : Nat} (hv : SVA sd as ow) (hw : w < sd 1) (hS : StR M sd as ow) (h : ∀ M', O9 M M' [22, 23, 24, 25] → RR M' (Lk (sd 0) (sRe sd w) (pl1 as) (sBr sd) 0) 0 → TT X kX9_hasWay 0 [some (pR (9, 0, 0))] [] M' (rI fun v11 M10 => (v11 = 0 → Q (some (pI (-1000000))) M10) ∧ (¬ v11 = 0 → Q (some (pI (M10 9 0 23 0))) M10))) : TT X kX9_planks 22 [some (pR (9, 0, 0)), some (pI (nI w)), some (pI 0)] [] M Q := by
  have l0 := hv.1.1
  have L : ∀ d k, k + d = sd 0 → ∀ M1, O9 M M1 [22] → (∀ s, s < sd 0 → M1 9 0 22 s = nI (if s < k then pl1 as s else as s)) → TT X kX9_planks 22 [some (pR (9, 0, 0)), some (pI (nI w)), some (pI (nI k))] [] M1 Q := by
    intro d
    induction d with
    | zero =>
      intro k hk M1 o1 f4
      obtain rfl : k = sd 0 := by omega
      refine rX9_planks_22 <| br_t (by rw [o1.2 6 (by decide), hS.1 0 (by decide)]; exact nI_le (Nat.le_refl _) (by omega)) <| m_lay (ow := ow) (sva_p hv) hw ⟨fun x hx => ?_, fun s hs => ⟨?_, ?_⟩⟩ fun M2 o2 s2 rr => h M2 (O9.trans (O9.sub o1 (by decide)) (O9.sub o2 (by decide))) (rr 0 (Nat.zero_le _))
      · rw [o1.2 6 (by decide)]; exact hS.1 x hx
      · rw [o1.2 21 (by decide)]; exact (hS.2 s hs).1
      · rw [f4 s hs, if_pos hs]
    | succ d ih =>
      intro k hk M1 o1 f4
      have v18 : vp_in (nI k) 18 := vp_in_nI (by omega) (by decide)
      have a20 := (hv.2 k (by omega)).1
      refine rX9_planks_22 <| br_f (by rw [o1.2 6 (by decide), hS.1 0 (by decide)]; exact nI_ge (by omega) (by omega)) ⟨v18, ?_⟩
      have e4 : M1 9 0 22 k = nI (as k) := by rw [f4 k (by omega), if_neg (Nat.lt_irrefl k)]
      rw [clampI (by omega), nI_1, e4]
      have go : ∀ x : Nat, pl1 as k = x → TT X kX9_planks 22 [some (pR (9, 0, 0)), some (pI (nI w)), some (pI (nI (k + 1)))] [] (mset M1 9 0 22 k (nI x)) Q := by
        intro x ex
        refine ih (k + 1) (by omega) _ (O9.set o1 (by decide)) fun s hs => ?_
        by_cases e : s = k
        · subst e
          rw [mset_at, if_pos (by omega), ex]
        · rw [mset_c4 (by simp [e]), f4 s hs]
          by_cases z : s < k
          · rw [if_pos z, if_pos (by omega)]
          · rw [if_neg z, if_neg (by omega)]
      by_cases z : as k = 0
      · exact br_t (by rw [z]; decide +kernel) ⟨v18, go 0 (by unfold pl1; rw [if_neg (by omega)])⟩
      · exact br_f (nI_nle (by omega) (by omega)) ⟨v18, go 1 (by unfold pl1; rw [if_pos (by omega)])⟩
  exact L _ 0 (Nat.zero_add _) M O9.rfl' (fun s hs => by rw [if_neg (Nat.not_lt_zero s)]; exact (hS.2 s hs).2)
theorem pair_planks {F : Int32 → Int32 → Mem → Prop} {a1 : Int32} (hI : Inv M) (h : ∀ v M', Inv M' → F v v M') : TT X kX8_planks 0 [some (pR (8, 0, 0)), some (pI a1)] [] M (rI fun v1 M1 => TT X kX9_planks 0 [some (pR (9, 0, 0)), some (pI a1), none] [] M1 (rI fun v2 M2 => F v1 v2 M2)) := by
  obtain ⟨n1, n2, n3, w1, w2, w3⟩ := now_of hI
  have hT := inv_thr (v := 0) hI
  obtain ⟨⟨h6, hv⟩, hX, -⟩ := hI.2.2.2.2.1
  by_cases c1 : 0 ≤ a1.toInt ∧ a1.toInt < (sdOf (M 9 0 6) 1 : Nat)
  rotate_left
  · exact rX8_planks_0 <| s_hasWalker (by decide) (by omega) w2 <| bn_f c1 <| rX9_planks_0 <| m_isWalker (by omega) (by rw [thr6]; exact w3) <| bn_f c1 <| h _ _ hT
  obtain ⟨w, hw, rfl⟩ : ∃ w : Nat, w < sdOf (M 9 0 6) 1 ∧ a1 = nI w := ⟨a1.toInt.toNat, by omega, nI_is (by omega)⟩
  generalize hsd : sdOf (M 9 0 6) = sd at *
  have hva := sva_of hv
  have hvp := sva_p hva
  have ha : ∀ s, s < sd 0 → pl1 (sAs sd) s ≤ 20 := fun s q => (hvp.2 s q).1
  obtain ⟨⟨r1, r3⟩, v2, v3, -⟩ := hv.2.2.2 w hw
  have v6 : vp_in (nI w) 6 := vp_in_nI (by omega) (by decide)
  have cl : Int32.toNatClampNeg (nI w) = w := clampI (by omega)
  refine rX8_planks_0 <| s_hasWalker (by decide) (by omega) w2 <| bn_t c1 <| s_takeOver (by decide) (by decide) (by decide) hX hv.1 hv.2.1 fun M1 o1 y1 => s_askOne (by decide) hva (stx_y y1) fun M2 o2 y2 => ⟨v6, ?_⟩
  rw [cl, (y2.2.2.2 w hw).1]
  refine s_fnd (w := w) (by decide) (by decide) hvp y2 r1 r3 fun M3 o3 hW => ?_
  have e3 : M3 9 0 = M 9 0 := by rw [o3 9 0 (by omega), o2 9 0 (by omega), o1 9 0 (by omega)]
  have s3 : Scr M M3 := Scr.trans (Scr.oth o1 (by decide)) (Scr.trans (Scr.oth o2 (by decide)) (Scr.oth o3 (by decide)))
  have ref : ∀ u : Int32, u = (if w0 (sd 0) (sRe sd w) (pl1 (sAs sd)) (sBr sd) < INF then nI (w0 (sd 0) (sRe sd w) (pl1 (sAs sd)) (sBr sd) / 32) else -1000000) → TT X kX9_planks 0 [some (pR (9, 0, 0)), some (pI (nI w)), none] [] M3 (rI fun v2 M2 => F u v2 M2) := by
    intro u hu
    refine rX9_planks_0 <| m_isWalker (n := sd 1) (by omega) (by rw [thr6, e3]; exact w3) <| bn_t c1 <| m_now hv (by rw [mset_c3 (by decide), e3]; exact h6) fun M4 o4 s4 => m_planks hva hw s4 fun M5 o5 rr => m_hasWay rr ?_
    have iv := inv_scr hI (Scr.trans s3 (Scr.trans Scr.thr (Scr.trans (Scr.o9 o4 (by decide)) (Scr.o9 o5 (by decide)))))
    by_cases c : w0 (sd 0) (sRe sd w) (pl1 (sAs sd)) (sBr sd) < INF
    · rw [if_pos c] at hu
      refine bz_t c ?_
      show F u (M5 9 0 23 0) M5
      rw [rr.1, ← w0_Lk, if_pos c, hu]
      exact h _ _ iv
    · rw [if_neg c] at hu
      subst hu
      exact bz_f c <| h _ _ iv
  refine s_isThere (by decide) hW ?_
  by_cases c : w0 (sd 0) (sRe sd w) (pl1 (sAs sd)) (sBr sd) < INF
  · exact bz_t c <| s_askedIn (by decide) hW <| ref _ (if_pos c).symm
  · exact bz_f c <| ref _ (if_neg c).symm
end BEST
