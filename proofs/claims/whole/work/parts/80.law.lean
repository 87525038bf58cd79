/-! the law: every call keeps the invariant, and both answer alike -/
set_option maxRecDepth 100000 in
set_option maxHeartbeats 8000000 in
theorem law_T : LawT := by
  intro X M hX hI
  have hI := inv_init hI
  refine rL_law_16 ?_
  have L : ∀ d i : Nat, X.1 ≤ i + d → i ≤ X.1 + 7 → ∀ M, Inv M → TT X kL_law 18 [some (pR (30, 0, 0)), some (pR (8, 0, 0)), some (pR (9, 0, 0)), some (pI (nI i))] [] M (fun r _ => r = some (pI 1)) := by
    intro d
    induction d with
    | zero =>
      intro i h1 h2 M hI
      refine rL_law_18 <| br_t ?_ rfl
      have e1 : (Int32.ofNat X.1).toInt = X.1 := nI_int (n := X.1) (by omega)
      have e7 : (7 : Int32).toInt = 7 := rfl
      rw [i32_lt, i32_sub (by omega) (by omega), e1, e7, nI_int (by omega)]
      omega
    | succ d ih =>
      intro i h1 h2 M hI
      have e1 : (Int32.ofNat X.1).toInt = X.1 := nI_int (n := X.1) (by omega)
      have e7 : (7 : Int32).toInt = 7 := rfl
      have ec : (Int32.ofNat X.1 - 7) < nI i ↔ (X.1 : Int) - 7 < i := by rw [i32_lt, i32_sub (by omega) (by omega), e1, e7, nI_int (by omega)]
      by_cases c : X.1 < i + 7
      · exact rL_law_18 <| br_t (ec.mpr (by omega)) rfl
      have nx : ∀ M', Inv M' → TT X kL_law 1103 [some (pR (30, 0, 0)), some (pR (8, 0, 0)), some (pR (9, 0, 0)), some (pI (nI i))] [] M' (fun r _ => r = some (pI 1)) := fun M' hI' => by
        refine rL_law_1103 ?_
        rw [show nI i + 7 = nI (i + 7) from nI_add i 7]
        exact ih (i + 7) (by omega) (by omega) M' hI'
      have hc : ∀ v M', Inv M' → (v = v → TT X kL_law 1103 [some (pR (30, 0, 0)), some (pR (8, 0, 0)), some (pR (9, 0, 0)), some (pI (nI i))] [] M' (fun r _ => r = some (pI 1))) ∧ (¬ v = v → (some (pI 0) : Option PV) = some (pI 1)) := fun (v : Int32) M' hI' => ⟨fun _ => nx M' hI', fun q => absurd rfl q⟩
      have w : ∀ k, k < 7 → vp_in (nI i + nI k) X.1 := fun k hk => by rw [nI_add]; exact vp_in_nI (by omega) (by omega)
      have w1 : vp_in (nI i + 1) X.1 := w 1 (by decide)
      have w2 : vp_in (nI i + 2) X.1 := w 2 (by decide)
      have w3 : vp_in (nI i + 3) X.1 := w 3 (by decide)
      have w4 : vp_in (nI i + 4) X.1 := w 4 (by decide)
      have w5 : vp_in (nI i + 5) X.1 := w 5 (by decide)
      have w6 : vp_in (nI i + 6) X.1 := w 6 (by decide)
      refine rL_law_18 <| br_f (fun q => absurd (ec.mp q) (by omega)) ⟨vp_in_nI (by omega) (by omega), ?_, ?_, ?_, ?_, ?_, ?_, ?_, ?_, ?_, ?_, ?_, ?_, ?_, ?_, ?_, ?_, ?_, ?_, ?_, ?_, ?_, ?_, ?_, ?_, ?_, ?_, ?_, ?_, ?_, fun _ => nx M hI⟩
      · exact fun _ => ⟨w1, w2, w3, TT.mono (pair_row (F := fun v1 v2 M2 => (v1 = v2 → TT X kL_law 1103 [some (pR (30, 0, 0)), some (pR (8, 0, 0)), some (pR (9, 0, 0)), some (pI (nI i))] [] M2 (fun r _ => r = some (pI 1))) ∧ (¬ v1 = v2 → (some (pI 0) : Option PV) = some (pI 1))) hI hc) (rI_mono fun _ _ g => ⟨w1, w2, w3, g⟩)⟩
      · exact fun _ => ⟨w1, w2, w3, TT.mono (pair_set (F := fun v1 v2 M2 => (v1 = v2 → TT X kL_law 1103 [some (pR (30, 0, 0)), some (pR (8, 0, 0)), some (pR (9, 0, 0)), some (pI (nI i))] [] M2 (fun r _ => r = some (pI 1))) ∧ (¬ v1 = v2 → (some (pI 0) : Option PV) = some (pI 1))) hI hc) (rI_mono fun _ _ g => ⟨w1, w2, w3, g⟩)⟩
      · exact fun _ => ⟨w1, w2, w3, w4, w5, TT.mono (pair_copy (F := fun v1 v2 M2 => (v1 = v2 → TT X kL_law 1103 [some (pR (30, 0, 0)), some (pR (8, 0, 0)), some (pR (9, 0, 0)), some (pI (nI i))] [] M2 (fun r _ => r = some (pI 1))) ∧ (¬ v1 = v2 → (some (pI 0) : Option PV) = some (pI 1))) hI hc) (rI_mono fun _ _ g => ⟨w1, w2, w3, w4, w5, g⟩)⟩
      · exact fun _ => ⟨w1, TT.mono (pair_drop (F := fun v1 v2 M2 => (v1 = v2 → TT X kL_law 1103 [some (pR (30, 0, 0)), some (pR (8, 0, 0)), some (pR (9, 0, 0)), some (pI (nI i))] [] M2 (fun r _ => r = some (pI 1))) ∧ (¬ v1 = v2 → (some (pI 0) : Option PV) = some (pI 1))) hI hc) (rI_mono fun _ _ g => ⟨w1, g⟩)⟩
      · exact fun _ => ⟨w1, w2, w3, TT.mono (pair_feed (F := fun v1 v2 M2 => (v1 = v2 → TT X kL_law 1103 [some (pR (30, 0, 0)), some (pR (8, 0, 0)), some (pR (9, 0, 0)), some (pI (nI i))] [] M2 (fun r _ => r = some (pI 1))) ∧ (¬ v1 = v2 → (some (pI 0) : Option PV) = some (pI 1))) hI hc) (rI_mono fun _ _ g => ⟨w1, w2, w3, g⟩)⟩
      · exact fun _ => pair_stair (F := fun v1 v2 M2 => (v1 = v2 → TT X kL_law 1103 [some (pR (30, 0, 0)), some (pR (8, 0, 0)), some (pR (9, 0, 0)), some (pI (nI i))] [] M2 (fun r _ => r = some (pI 1))) ∧ (¬ v1 = v2 → (some (pI 0) : Option PV) = some (pI 1))) hI hc
      · exact fun _ => pair_fault (F := fun v1 v2 M2 => (v1 = v2 → TT X kL_law 1103 [some (pR (30, 0, 0)), some (pR (8, 0, 0)), some (pR (9, 0, 0)), some (pI (nI i))] [] M2 (fun r _ => r = some (pI 1))) ∧ (¬ v1 = v2 → (some (pI 0) : Option PV) = some (pI 1))) hI hc
      · exact fun _ => ⟨w1, w2, TT.mono (pair_price (F := fun v1 v2 M2 => (v1 = v2 → TT X kL_law 1103 [some (pR (30, 0, 0)), some (pR (8, 0, 0)), some (pR (9, 0, 0)), some (pI (nI i))] [] M2 (fun r _ => r = some (pI 1))) ∧ (¬ v1 = v2 → (some (pI 0) : Option PV) = some (pI 1))) hI hc) (rI_mono fun _ _ g => ⟨w1, w2, g⟩)⟩
      · exact fun _ => ⟨w1, w2, TT.mono (pair_sell (F := fun v1 v2 M2 => (v1 = v2 → TT X kL_law 1103 [some (pR (30, 0, 0)), some (pR (8, 0, 0)), some (pR (9, 0, 0)), some (pI (nI i))] [] M2 (fun r _ => r = some (pI 1))) ∧ (¬ v1 = v2 → (some (pI 0) : Option PV) = some (pI 1))) hI hc) (rI_mono fun _ _ g => ⟨w1, w2, g⟩)⟩
      · exact fun _ => ⟨w1, w2, TT.mono (pair_crack (F := fun v1 v2 M2 => (v1 = v2 → TT X kL_law 1103 [some (pR (30, 0, 0)), some (pR (8, 0, 0)), some (pR (9, 0, 0)), some (pI (nI i))] [] M2 (fun r _ => r = some (pI 1))) ∧ (¬ v1 = v2 → (some (pI 0) : Option PV) = some (pI 1))) hI hc) (rI_mono fun _ _ g => ⟨w1, w2, g⟩)⟩
      · exact fun _ => pair_undo (F := fun v1 v2 M2 => (v1 = v2 → TT X kL_law 1103 [some (pR (30, 0, 0)), some (pR (8, 0, 0)), some (pR (9, 0, 0)), some (pI (nI i))] [] M2 (fun r _ => r = some (pI 1))) ∧ (¬ v1 = v2 → (some (pI 0) : Option PV) = some (pI 1))) hI hc
      · exact fun _ => ⟨w1, w2, TT.mono (pair_step (F := fun v1 v2 M2 => (v1 = v2 → TT X kL_law 1103 [some (pR (30, 0, 0)), some (pR (8, 0, 0)), some (pR (9, 0, 0)), some (pI (nI i))] [] M2 (fun r _ => r = some (pI 1))) ∧ (¬ v1 = v2 → (some (pI 0) : Option PV) = some (pI 1))) hI hc) (rI_mono fun _ _ g => ⟨w1, w2, g⟩)⟩
      · exact fun _ => ⟨w1, w2, TT.mono (pair_way (F := fun v1 v2 M2 => (v1 = v2 → TT X kL_law 1103 [some (pR (30, 0, 0)), some (pR (8, 0, 0)), some (pR (9, 0, 0)), some (pI (nI i))] [] M2 (fun r _ => r = some (pI 1))) ∧ (¬ v1 = v2 → (some (pI 0) : Option PV) = some (pI 1))) hI hc) (rI_mono fun _ _ g => ⟨w1, w2, g⟩)⟩
      · exact fun _ => ⟨w1, TT.mono (pair_takes (F := fun v1 v2 M2 => (v1 = v2 → TT X kL_law 1103 [some (pR (30, 0, 0)), some (pR (8, 0, 0)), some (pR (9, 0, 0)), some (pI (nI i))] [] M2 (fun r _ => r = some (pI 1))) ∧ (¬ v1 = v2 → (some (pI 0) : Option PV) = some (pI 1))) hI hc) (rI_mono fun _ _ g => ⟨w1, g⟩)⟩
      · exact fun _ => ⟨w1, w2, TT.mono (pair_best (F := fun v1 v2 M2 => (v1 = v2 → TT X kL_law 1103 [some (pR (30, 0, 0)), some (pR (8, 0, 0)), some (pR (9, 0, 0)), some (pI (nI i))] [] M2 (fun r _ => r = some (pI 1))) ∧ (¬ v1 = v2 → (some (pI 0) : Option PV) = some (pI 1))) hI hc) (rI_mono fun _ _ g => ⟨w1, w2, g⟩)⟩
      · exact fun _ => ⟨w1, TT.mono (pair_turnsOf (F := fun v1 v2 M2 => (v1 = v2 → TT X kL_law 1103 [some (pR (30, 0, 0)), some (pR (8, 0, 0)), some (pR (9, 0, 0)), some (pI (nI i))] [] M2 (fun r _ => r = some (pI 1))) ∧ (¬ v1 = v2 → (some (pI 0) : Option PV) = some (pI 1))) hI hc) (rI_mono fun _ _ g => ⟨w1, g⟩)⟩
      · exact fun _ => ⟨w1, w2, w3, w4, TT.mono (pair_shares (F := fun v1 v2 M2 => (v1 = v2 → TT X kL_law 1103 [some (pR (30, 0, 0)), some (pR (8, 0, 0)), some (pR (9, 0, 0)), some (pI (nI i))] [] M2 (fun r _ => r = some (pI 1))) ∧ (¬ v1 = v2 → (some (pI 0) : Option PV) = some (pI 1))) hI hc) (rI_mono fun _ _ g => ⟨w1, w2, w3, w4, g⟩)⟩
      · exact fun _ => ⟨w1, TT.mono (pair_planks (F := fun v1 v2 M2 => (v1 = v2 → TT X kL_law 1103 [some (pR (30, 0, 0)), some (pR (8, 0, 0)), some (pR (9, 0, 0)), some (pI (nI i))] [] M2 (fun r _ => r = some (pI 1))) ∧ (¬ v1 = v2 → (some (pI 0) : Option PV) = some (pI 1))) hI hc) (rI_mono fun _ _ g => ⟨w1, g⟩)⟩
      · exact fun _ => ⟨w1, w2, TT.mono (pair_mean (F := fun v1 v2 M2 => (v1 = v2 → TT X kL_law 1103 [some (pR (30, 0, 0)), some (pR (8, 0, 0)), some (pR (9, 0, 0)), some (pI (nI i))] [] M2 (fun r _ => r = some (pI 1))) ∧ (¬ v1 = v2 → (some (pI 0) : Option PV) = some (pI 1))) hI hc) (rI_mono fun _ _ g => ⟨w1, w2, g⟩)⟩
      · exact fun _ => ⟨w1, w2, w3, w4, w5, w6, TT.mono (pair_asked (F := fun v1 v2 M2 => (v1 = v2 → TT X kL_law 1103 [some (pR (30, 0, 0)), some (pR (8, 0, 0)), some (pR (9, 0, 0)), some (pI (nI i))] [] M2 (fun r _ => r = some (pI 1))) ∧ (¬ v1 = v2 → (some (pI 0) : Option PV) = some (pI 1))) hI hc) (rI_mono fun _ _ g => ⟨w1, w2, w3, w4, w5, w6, g⟩)⟩
      · exact fun _ => ⟨w1, w2, w3, TT.mono (pair_deal (F := fun v1 v2 M2 => (v1 = v2 → TT X kL_law 1103 [some (pR (30, 0, 0)), some (pR (8, 0, 0)), some (pR (9, 0, 0)), some (pI (nI i))] [] M2 (fun r _ => r = some (pI 1))) ∧ (¬ v1 = v2 → (some (pI 0) : Option PV) = some (pI 1))) hI hc) (rI_mono fun _ _ g => ⟨w1, w2, w3, g⟩)⟩
      · exact fun _ => ⟨w1, TT.mono (pair_image (F := fun v1 v2 M2 => (v1 = v2 → TT X kL_law 1103 [some (pR (30, 0, 0)), some (pR (8, 0, 0)), some (pR (9, 0, 0)), some (pI (nI i))] [] M2 (fun r _ => r = some (pI 1))) ∧ (¬ v1 = v2 → (some (pI 0) : Option PV) = some (pI 1))) hI hc) (rI_mono fun _ _ g => ⟨w1, g⟩)⟩
      · exact fun _ => ⟨w1, TT.mono (pair_restore (F := fun v1 v2 M2 => (v1 = v2 → TT X kL_law 1103 [some (pR (30, 0, 0)), some (pR (8, 0, 0)), some (pR (9, 0, 0)), some (pI (nI i))] [] M2 (fun r _ => r = some (pI 1))) ∧ (¬ v1 = v2 → (some (pI 0) : Option PV) = some (pI 1))) hI hc) (rI_mono fun _ _ g => ⟨w1, g⟩)⟩
      · exact fun _ => ⟨w1, TT.mono (pair_kind (F := fun v1 v2 M2 => (v1 = v2 → TT X kL_law 1103 [some (pR (30, 0, 0)), some (pR (8, 0, 0)), some (pR (9, 0, 0)), some (pI (nI i))] [] M2 (fun r _ => r = some (pI 1))) ∧ (¬ v1 = v2 → (some (pI 0) : Option PV) = some (pI 1))) hI hc) (rI_mono fun _ _ g => ⟨w1, g⟩)⟩
      · exact fun _ => ⟨w1, w2, TT.mono (pair_as (F := fun v1 v2 M2 => (v1 = v2 → TT X kL_law 1103 [some (pR (30, 0, 0)), some (pR (8, 0, 0)), some (pR (9, 0, 0)), some (pI (nI i))] [] M2 (fun r _ => r = some (pI 1))) ∧ (¬ v1 = v2 → (some (pI 0) : Option PV) = some (pI 1))) hI hc) (rI_mono fun _ _ g => ⟨w1, w2, g⟩)⟩
      · exact fun _ => ⟨w1, w2, TT.mono (pair_ask (F := fun v1 v2 M2 => (v1 = v2 → TT X kL_law 1103 [some (pR (30, 0, 0)), some (pR (8, 0, 0)), some (pR (9, 0, 0)), some (pI (nI i))] [] M2 (fun r _ => r = some (pI 1))) ∧ (¬ v1 = v2 → (some (pI 0) : Option PV) = some (pI 1))) hI hc) (rI_mono fun _ _ g => ⟨w1, w2, g⟩)⟩
      · exact fun _ => ⟨w1, TT.mono (pair_trace (F := fun v1 v2 M2 => (v1 = v2 → TT X kL_law 1103 [some (pR (30, 0, 0)), some (pR (8, 0, 0)), some (pR (9, 0, 0)), some (pI (nI i))] [] M2 (fun r _ => r = some (pI 1))) ∧ (¬ v1 = v2 → (some (pI 0) : Option PV) = some (pI 1))) hI hc) (rI_mono fun _ _ g => ⟨w1, g⟩)⟩
      · exact fun _ => ⟨w1, TT.mono (pair_count (F := fun v1 v2 M2 => (v1 = v2 → TT X kL_law 1103 [some (pR (30, 0, 0)), some (pR (8, 0, 0)), some (pR (9, 0, 0)), some (pI (nI i))] [] M2 (fun r _ => r = some (pI 1))) ∧ (¬ v1 = v2 → (some (pI 0) : Option PV) = some (pI 1))) hI hc) (rI_mono fun _ _ g => ⟨w1, g⟩)⟩
      · exact fun _ => pair_status (F := fun v1 v2 M2 => (v1 = v2 → TT X kL_law 1103 [some (pR (30, 0, 0)), some (pR (8, 0, 0)), some (pR (9, 0, 0)), some (pI (nI i))] [] M2 (fun r _ => r = some (pI 1))) ∧ (¬ v1 = v2 → (some (pI 0) : Option PV) = some (pI 1))) hI hc
  exact L X.1 0 (by omega) (by omega) M hI
