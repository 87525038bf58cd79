section PWAY
variable {X : Nat × (Nat → Int32)} {M : Mem} {Q : Option PV → Mem → Prop}
/-- layNow, then the way of a walker, of the stair as it is -/
theorem m_now {sd : NF} (hv : SV sd) (h6 : ∀ x, x < 80 → M 9 0 6 x = nI (sd x)) (h : ∀ M', O9 M M' [21, 22] → StR M' sd (sAs sd) (sOw sd) → Q none M') : TT X kX9_layNow 0 [some (pR (9, 0, 0)), none] [] M Q := by
  have l0 := hv.1
  refine m_layNow hv.1 (h6 0 (by decide)) fun M' o f => h M' o ⟨fun x hx => ?_, fun s hs => ?_⟩
  · rw [o.2 6 (by decide)]; exact h6 x hx
  · obtain ⟨f1, f2⟩ := f s hs
    exact ⟨by rw [f1, h6 _ (by omega)]; rfl, by rw [f2, h6 _ (by omega)]; rfl⟩
theorem m_lay {sd as ow : NF} {w : Nat} (hv : SVA sd as ow) (hw : w < sd 1) (hS : StR M sd as ow) (h : ∀ M', O9 M M' [23, 24, 25] → StR M' sd as ow → (∀ y, y ≤ sd 0 → RR M' (Lk (sd 0) (sRe sd w) as (sBr sd) y) y) → Q none M') : TT X kX9_layWay 0 [some (pR (9, 0, 0)), some (pI (nI w)), none] [] M Q := by
  have l0 := hv.1.1
  have l1 := hv.1.2.1
  obtain ⟨⟨r1, r3⟩, -⟩ := hv.1.2.2.2 w hw
  refine m_layWay (rc := sRe sd w) (as := as) (br := sBr sd) hv.1.1 (by omega) r1 r3 (hS.1 0 (by decide)) (hS.1 _ (by omega)) (fun s hs => ⟨(hS.2 s hs).2, hS.1 _ (by omega), (hv.2 s hs).1, (hv.1.2.2.1 s hs).2.2⟩) fun M' o f => h M' o ⟨fun x hx => ?_, fun s hs => ?_⟩ f
  · rw [o.2 6 (by decide)]; exact hS.1 x hx
  · rw [o.2 21 (by decide), o.2 22 (by decide)]; exact hS.2 s hs
theorem s_fnd {i j w : Nat} {sd as ow : NF} (hi : i < 2) (hj : j < 5) (hv : SVA sd as ow) (hS : StY (M 6 j) sd as ow) {rc : Nat} (r1 : 1 ≤ rc) (r3 : rc ≤ 3) (h : ∀ M', Oth M M' 2 i → WayF M' i (sd 0) rc as (sBr sd) → Q none M') : TT X kX2_find 0 [some (pR (2, i, 0)), some (pR (6, j, 0)), some (pI (nI rc)), none, none] [] M Q :=
  s_find hi hj hv.1.1 hS.1 r1 r3 (fun s hs => ⟨(hS.2.2.1 s hs).2.1, (hS.2.2.1 s hs).2.2, (hv.2 s hs).1, (hv.1.2.2.1 s hs).2.2⟩) h
theorem m3 : (-3 : Int32).toInt = -3 := rfl
theorem pair_way {F : Int32 → Int32 → Mem → Prop} {a1 a2 : Int32} (hI : Inv M) (h : ∀ v M', Inv M' → F v v M') : TT X kX8_way 0 [some (pR (8, 0, 0)), some (pI a1), some (pI a2)] [] M (rI fun v1 M1 => TT X kX9_way 0 [some (pR (9, 0, 0)), some (pI a1), some (pI a2), none, none] [] M1 (rI fun v2 M2 => F v1 v2 M2)) := by
  obtain ⟨n1, n2, n3, w1, w2, w3⟩ := now_of hI
  have hT := inv_thr (v := 0) hI
  obtain ⟨⟨h6, hv⟩, hX, -⟩ := hI.2.2.2.2.1
  by_cases c1 : 0 ≤ a1.toInt ∧ a1.toInt < (sdOf (M 9 0 6) 1 : Nat)
  rotate_left
  · exact rX8_way_0 <| s_hasWalker (by decide) (by omega) w2 <| bz_f c1 <| rX9_way_0 <| m_isWalker (by omega) (by rw [thr6]; exact w3) <| bz_f c1 <| h _ _ hT
  by_cases c2 : -3 ≤ a2
  rotate_left
  · exact rX8_way_0 <| s_hasWalker (by decide) (by omega) w2 <| bz_t c1 <| br_f c2 <| rX9_way_0 <| m_isWalker (by omega) (by rw [thr6]; exact w3) <| bz_t c1 <| br_f c2 <| h _ _ hT
  obtain ⟨w, hw, rfl⟩ : ∃ w : Nat, w < sdOf (M 9 0 6) 1 ∧ a1 = nI w := ⟨a1.toInt.toNat, by omega, nI_is (by omega)⟩
  generalize hsd : sdOf (M 9 0 6) = sd at *
  have hva := sva_of hv
  have ha : ∀ s, s < sd 0 → sAs sd s ≤ 20 := fun s q => (hva.2 s q).1
  obtain ⟨⟨r1, r3⟩, v2, v3, -⟩ := hv.2.2.2 w hw
  have v6 : vp_in (nI w) 6 := vp_in_nI (by omega) (by decide)
  have cl : Int32.toNatClampNeg (nI w) = w := clampI (by omega)
  have hY := stx_y hX
  refine rX8_way_0 <| s_hasWalker (by decide) (by omega) w2 <| bz_t c1 <| br_t c2 ⟨v6, ?_⟩
  rw [cl, (hX.2.2.2 w hw).1]
  refine s_fnd (w := w) (by decide) (by decide) hva hY (rc := sRe sd w) r1 r3 fun M1 o1 hW => ?_
  have hY1 : StY (M1 6 0) sd (sAs sd) (sOw sd) := by rw [o1 6 0 (by decide)]; exact hY
  -- the reference's half, for every asking
  have ref : ∀ (u : Int32), (∀ M2, Scr M1 M2 → (∀ y, y ≤ sd 0 → RR M2 (Lk (sd 0) (sRe sd w) (sAs sd) (sBr sd) y) y) → StR M2 sd (sAs sd) (sOw sd) → ((¬ a2 = (-3) → TT X kX9_hasWay 0 [some (pR (9, 0, 0))] [] M2 (rI fun v8 M7 => (¬ v8 = 0 → (¬ a2 = (-2) → (a2 = (-1) → (¬ a2 = (-1) → F u (-1000000) M7) ∧ (a2 = (-1) → F u (M7 9 0 24 0) M7)) ∧ (¬ a2 = (-1) → (a2 < (M7 9 0 24 0) → TT X kX9_way 124 [some (pR (9, 0, 0)), some (pI (nI w)), some (pI a2), some (pI (M7 9 0 25 0)), some (pI 0)] [] M7 (rI fun v2 M2 => F u v2 M2)) ∧ (¬ a2 < (M7 9 0 24 0) → (¬ a2 = (-1) → F u (-1000000) M7) ∧ (a2 = (-1) → F u (M7 9 0 24 0) M7)))) ∧ (a2 = (-2) → TT X kX9_costOf 0 [some (pR (9, 0, 0)), some (pI (nI w))] [] M7 (rI fun v14 M13 => F u v14 M13))) ∧ (v8 = 0 → (¬ a2 = (-1) → F u (-1000000) M7) ∧ (a2 = (-1) → F u 0 M7)))) ∧ (a2 = (-3) → TT X kX9_goes 0 [some (pR (9, 0, 0)), some (pI (nI w))] [] M2 (rI fun v21 M20 => (v21 = 0 → F u 0 M20) ∧ (¬ v21 = 0 → F u 1 M20))))) → TT X kX9_way 0 [some (pR (9, 0, 0)), some (pI (nI w)), some (pI a2), none, none] [] M1 (rI fun v2 M2 => F u v2 M2) := by
    intro u g
    have e9 : (mset M1 9 0 0 0 0) 9 0 6 = M 9 0 6 := by rw [mset_c3 (by decide), o1 9 0 (by decide)]
    refine rX9_way_0 <| m_isWalker (n := sd 1) (by omega) (by rw [e9]; exact w3) <| bz_t c1 <| br_t c2 <| m_now hv (by rw [e9]; exact h6) fun M2 o2 s2 => m_lay hva hw s2 fun M3 o3 s3 r3 => ?_
    exact g M3 (Scr.trans Scr.thr (Scr.trans (Scr.o9 o2 (by decide)) (Scr.o9 o3 (by decide)))) r3 s3
  have fin : ∀ M2, Scr M1 M2 → Inv M2 := fun M2 s2 => inv_scr hI (Scr.trans (Scr.oth o1 (by decide)) s2)
  have wl := w0_le (n := sd 0) (rc := sRe sd w) (as := sAs sd) (br := sBr sd)
  show _ ∧ _
  by_cases k3 : a2 = -3
  · subst k3
    refine nr_t rfl <| s_isGone (by decide) (by decide) hv.1 ha hW hY1 hv hw ?_
    have rr : ∀ u : Int32, (if w0 (sd 0) (sRe sd w) (sAs sd) (sBr sd) < INF ∧ w0 (sd 0) (sRe sd w) (sAs sd) (sBr sd) / 32 * (1 + sLo sd w) ≤ sWo sd w then (1 : Int32) else 0) = u → TT X kX9_way 0 [some (pR (9, 0, 0)), some (pI (nI w)), some (pI (-3)), none, none] [] M1 (rI fun v2 M2 => F u v2 M2) := by
      intro u hu
      refine ref u fun M2 s2 rr st => nr_t rfl <| m_goes hv.1 ha (by omega) v2 v3 st.1 (rr 0 (Nat.zero_le _)) ?_
      by_cases g : w0 (sd 0) (sRe sd w) (sAs sd) (sBr sd) < INF ∧ w0 (sd 0) (sRe sd w) (sAs sd) (sBr sd) / 32 * (1 + sLo sd w) ≤ sWo sd w
      · rw [if_pos g] at hu
        subst hu
        exact bz_t g <| h _ _ (fin M2 s2)
      · rw [if_neg g] at hu
        subst hu
        exact bz_f g <| h _ _ (fin M2 s2)
    by_cases g : w0 (sd 0) (sRe sd w) (sAs sd) (sBr sd) < INF ∧ w0 (sd 0) (sRe sd w) (sAs sd) (sBr sd) / 32 * (1 + sLo sd w) ≤ sWo sd w
    · exact bz_t g <| rr 1 (if_pos g)
    · exact bz_f g <| rr 0 (if_neg g)
  refine nr_f k3 ?_
  by_cases c : w0 (sd 0) (sRe sd w) (sAs sd) (sBr sd) < INF
  rotate_left
  · have pe : path (sd 0) (sRe sd w) (sAs sd) (sBr sd) = [] := by unfold path; rw [if_neg c]
    have none_ : ∀ u : Int32, u = (if a2 = -1 then 0 else -1000000) → TT X kX9_way 0 [some (pR (9, 0, 0)), some (pI (nI w)), some (pI a2), none, none] [] M1 (rI fun v2 M2 => F u v2 M2) := by
      intro u hu
      refine ref u fun M2 s2 rr st => nr_f k3 <| m_hasWay (rr 0 (Nat.zero_le _)) <| bn_f c ?_
      by_cases k1 : a2 = -1
      · rw [if_pos k1] at hu
        subst hu
        exact nr_t k1 <| h _ _ (fin M2 s2)
      · rw [if_neg k1] at hu
        subst hu
        exact nr_f k1 <| h _ _ (fin M2 s2)
    by_cases k2 : a2 = -2
    · refine nr_t k2 <| s_isThere (by decide) hW <| bz_f c <| none_ _ ?_
      subst k2; rfl
    refine nr_f k2 ?_
    by_cases k1 : a2 = -1
    · refine nr_t k1 <| rX2_treads_0 (by decide) ?_
      rw [hW.2.1, pe]
      exact none_ _ (by rw [if_pos k1]; rfl)
    · refine nr_f k1 <| s_tread (by decide) (by rw [pe]; decide) hW ?_
      rw [pe, if_neg (by simp)]
      exact none_ _ (by rw [if_neg k1])
  have b := w0_fin ha hv.1 c
  have pl := path_len (rc := sRe sd w) (br := sBr sd) ha hv.1 r1 c
  by_cases k2 : a2 = -2
  · subst k2
    refine nr_t rfl <| s_isThere (by decide) hW <| bz_t c <| s_cost (by decide) (by decide) hW hY1 hv.2.1 hw <| ref _ fun M2 s2 rr st => nr_f k3 <| m_hasWay (rr 0 (Nat.zero_le _)) <| bn_t c <| nr_t rfl <| m_costOf (by omega) st.1 (rr 0 (Nat.zero_le _)) c <| h _ _ (fin M2 s2)
  refine nr_f k2 ?_
  have e24 : ∀ M2, RR M2 (Lk (sd 0) (sRe sd w) (sAs sd) (sBr sd) 0) 0 → M2 9 0 24 0 = nI (path (sd 0) (sRe sd w) (sAs sd) (sBr sd)).length := by
    intro M2 r
    rw [r.2.1, ← w0_Lk, if_pos c, pl]
  by_cases k1 : a2 = -1
  · subst k1
    refine nr_t rfl <| rX2_treads_0 (by decide) ?_
    rw [hW.2.1]
    refine ref _ fun M2 s2 rr st => nr_f k3 <| m_hasWay (rr 0 (Nat.zero_le _)) <| bn_t c <| nr_f k2 <| br_t rfl <| nr_t rfl ?_
    rw [e24 M2 (rr 0 (Nat.zero_le _))]
    exact h _ _ (fin M2 s2)
  refine nr_f k1 <| s_tread (by decide) (by omega) hW ?_
  have a0 : 0 ≤ a2.toInt := by
    have q2 := i32_le.mp c2
    rw [m3] at q2
    have q3 : a2.toInt ≠ -3 := fun q => k3 (i32_eq.mpr q)
    have q4 : a2.toInt ≠ -2 := fun q => k2 (i32_eq.mpr q)
    have q5 : a2.toInt ≠ -1 := fun q => k1 (i32_eq.mpr q)
    omega
  obtain ⟨k, rfl⟩ : ∃ k : Nat, a2 = nI k := ⟨a2.toInt.toNat, nI_is (by omega)⟩
  have kr := i32_rng (nI k)
  by_cases ck : (nI k).toInt < ((path (sd 0) (sRe sd w) (sAs sd) (sBr sd)).length : Nat)
  · rw [if_pos ⟨a0, ck⟩]
    obtain ⟨k', hk', ek⟩ : ∃ k' : Nat, k' < (path (sd 0) (sRe sd w) (sAs sd) (sBr sd)).length ∧ nI k = nI k' := ⟨(nI k).toInt.toNat, by omega, nI_is (by omega)⟩
    rw [ek] at k1 k2 k3 ref ⊢
    rw [nI_int (by omega)]
    refine ref _ fun M2 s2 rr st => nr_f k3 <| m_hasWay (rr 0 (Nat.zero_le _)) <| bn_t c <| nr_f k2 <| br_f k1 ?_
    have rp := rp_path (M := M2) (rc := sRe sd w) (br := sBr sd) ha hv.1 r1 rr c
    rw [e24 M2 (rr 0 (Nat.zero_le _)), rp.1]
    refine br_t (nI_lt hk' (by omega)) <| m_way_lp hv.1 (by omega) rp hk' ?_ k' 0 (Nat.zero_add _)
    rw [show (Int.toNat (k' : Int)) = k' from rfl, getD_in 0 (sd 0) hk']
    exact h _ _ (fin M2 s2)
  · rw [if_neg (fun q => ck q.2)]
    refine ref _ fun M2 s2 rr st => nr_f k3 <| m_hasWay (rr 0 (Nat.zero_le _)) <| bn_t c <| nr_f k2 <| br_f k1 ?_
    rw [e24 M2 (rr 0 (Nat.zero_le _))]
    refine br_f ?_ <| nr_f k1 <| h _ _ (fin M2 s2)
    rw [i32_lt, nI_int (n := (path (sd 0) (sRe sd w) (sAs sd) (sBr sd)).length) (by omega)]
    exact ck
end PWAY
