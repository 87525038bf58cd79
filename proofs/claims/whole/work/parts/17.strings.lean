/-! the two texts: String.length, String.charAt, as the JDK's own code does them -/
section STR
variable {X : Nat × (Nat → Int32)} {k k' : MI} {pc idx n : Nat} {ls lsC : List (Option PV)} {st stk vs : List PV} {M : Mem} {Q : Option PV → Mem → Prop}
theorem T_getSv {j : Nat} (hj : j < 2) (hdg : decode k.2.1 pc = .ok (.getfield idx, 3)) (hw : Cond.fieldLink k.1.cls idx "java/lang/String" "value" "[B" ∈ GW) (h : TT X k (pc + 3) ls (pR (10, j, 1) :: st) M Q) : TT X k pc ls (pR (10, j, 0) :: st) M Q := by
  intro G p l e R s m' args below meth c H locs cells slots QQ lsA B hc hs hP hD hS hl K
  obtain ⟨hE, -⟩ := B.2.2.2.2.2.2.1
  exact vk_getf B.1 B.2.1 (hE.1 j hj).2.2.1 hS B.2.2.2.1 (B.2.2.2.2.1 _ hw) (fun _ h9 => h9) hdg (h G p l e R s m' args below meth c H locs cells slots QQ lsA B hc hs hP hD hS hl K)
theorem T_getSc {j : Nat} (hj : j < 2) (hdg : decode k.2.1 pc = .ok (.getfield idx, 3)) (hw : Cond.fieldLink k.1.cls idx "java/lang/String" "coder" "B" ∈ GW) (h : TT X k (pc + 3) ls (pI 0 :: st) M Q) : TT X k pc ls (pR (10, j, 0) :: st) M Q := by
  intro G p l e R s m' args below meth c H locs cells slots QQ lsA B hc hs hP hD hS hl K
  obtain ⟨hE, -⟩ := B.2.2.2.2.2.2.1
  exact vk_getf B.1 B.2.1 (hE.1 j hj).2.1 hS B.2.2.2.1 (B.2.2.2.2.1 _ hw) (fun _ h9 => h9) hdg (h G p l e R s m' args below meth c H locs cells slots QQ lsA B hc hs hP hD hS hl K)
theorem T_gets1 (hdg : decode k.2.1 pc = .ok (.getstatic idx, 3)) (hw : Cond.fieldLink k.1.cls idx "java/lang/String" "COMPACT_STRINGS" "Z" ∈ GW) (h : TT X k (pc + 3) ls (pI 1 :: st) M Q) : TT X k pc ls st M Q := by
  intro G p l e R s m' args below meth c H locs cells slots QQ lsA B hc hs hP hD hS hl K
  obtain ⟨-, -, -, hZ, -⟩ := B.2.2.2.2.2.2.1
  exact va_gets B.1 B.2.1 hZ hS B.2.2.2.1 (B.2.2.2.2.1 _ hw) (fun _ h9 => h9) hdg (h G p l e R s m' args below meth c H locs cells slots QQ lsA B hc hs hP hD hS hl K)
theorem str_len {j : Nat} (hj : j < 2) : Int32.ofNat ([4, 6].getD j 0) = strL j := by
  rcases (show j = 0 ∨ j = 1 by omega) with rfl | rfl <;> rfl
theorem str_N {j : Nat} (hj : j < 2) : ([4, 6].getD j 0) = strN j := by
  rcases (show j = 0 ∨ j = 1 by omega) with rfl | rfl <;> rfl
theorem str_C {j : Nat} (hj : j < 2) (n : Nat) : (([[115, 116, 101, 112], [119, 97, 108, 107, 101, 114]] : List (List Int32)).getD j []).getD n 0 = strC j n := by
  rcases (show j = 0 ∨ j = 1 by omega) with rfl | rfl <;> rfl
theorem T_blen {j : Nat} (hj : j < 2) (hdg : decode k.2.1 pc = .ok (.arraylength, 1)) (h : TT X k (pc + 1) ls (pI (strL j) :: st) M Q) : TT X k pc ls (pR (10, j, 1) :: st) M Q := by
  intro G p l e R s m' args below meth c H locs cells slots QQ lsA B hc hs hP hD hS hl K
  obtain ⟨hE, -⟩ := B.2.2.2.2.2.2.1
  exact va_tlen B.1 B.2.1 (hE.1 j hj).2.2.2 hS (str_len hj) hdg (h G p l e R s m' args below meth c H locs cells slots QQ lsA B hc hs hP hD hS hl K)
theorem T_bald {j : Nat} {x : Int32} (hj : j < 2) (hdg : decode k.2.1 pc = .ok (.baload, 1)) (hin : vp_in x (strN j)) (h : TT X k (pc + 1) ls (pI (strC j x.toNatClampNeg) :: st) M Q) : TT X k pc ls (pI x :: pR (10, j, 1) :: st) M Q := by
  intro G p l e R s m' args below meth c H locs cells slots QQ lsA B hc hs hP hD hS hl K
  obtain ⟨hE, -⟩ := B.2.2.2.2.2.2.1
  exact va_tb (v := .int (strC j x.toNatClampNeg)) B.1 B.2.1 (hE.1 j hj).2.2.2 hS (by rw [str_N hj]; exact hin) (by rw [str_C hj]) hdg (h G p l e R s m' args below meth c H locs cells slots QQ lsA B hc hs hP hD hS hl K)
theorem T_callStr {j : Nat} (hj : j < 2) (hdg : decode k.2.1 pc = .ok (.invokevirtual idx, 3)) (hw : Cond.methodLink k.1.cls idx k'.1 ∈ GW) (hv : virtK k' n) (hfit : fitK k k' = true) (hcl : k'.1.cls = "java/lang/String") (hn : vs.length = n) (hstk : stk = vs.reverse ++ pR (10, j, 0) :: st) (hcat : catS st ≤ 8) (hls : eLs (pR (10, j, 0) :: vs) k'.2.2.1 = lsC) (hlen : (enL (pR (10, j, 0) :: vs)).length ≤ k'.2.2.1)
    (h : TT X k' 0 lsC [] M (rI fun v M' => TT X k (pc + 3) ls (pI v :: st) M' Q)) : TT X k pc ls stk M Q := by
  subst hls
  intro G p l e R s m args below meth c H locs cells slots QQ lsA B hc hs hP hD hS hl K
  obtain ⟨v1, v2, v3, v4, v5⟩ := hv
  have hok := v5
  simp only [okK, Bool.and_eq_true, decide_eq_true_eq] at hok
  have hts := B.2.2.2.2.1
  obtain ⟨hE, -⟩ := B.2.2.2.2.2.2.1
  have hrec := vk_recv (H := H) (locs := locs) hE hj hS
  rw [← hcl] at hrec
  have hM := metW (l := l) (G := G) (Qc := va_Qi (fun v u => TT X k (pc + 3) ls (pI v :: st) u Q) (We G) (aG G)) hok.1 hlen h (by
    intro a s' t r M' hq hE hF
    rcases r with _ | v | v | v
    · exact hq.elim
    · exact ⟨⟨v, M', rfl, hq, hE⟩, hF⟩
    · exact hq.elim
    · exact hq.elim)
  refine va_calli (va_runV (As := vs.map (pv G.2.1)) (rest := st.map (pv G.2.1)) (Ts := GW) (n := n) ⟨B.1, B.2.1, B.2.2.1, B.2.2.2.1, hts⟩ hM ⟨callB_K B hw v3 v4 v5 hfit, hts _ v1, hts _ v2⟩ ⟨Wd.blind, hrec, preS_K B hP hD hS _⟩ rfl (by rw [List.length_map]; exact hn) hl.1 (by rw [hstk]; simp [pv]) (lv_room (by rw [catS_eq]; exact hcat)) hdg ⟨hc, hs⟩) hS (fun q _ h => h) (fun q h => h) (fun v u t H1 locs1 ht hvm hpost hB hz hk hS1 => ?_)
  exact hpost G p l e R s m args below meth c H1 locs1 cells slots QQ lsA B hc hs (by rw [← ht]; exact hB.1) hB.2 hS1 hl K
theorem s_coder {j : Nat} (hj : j < 2) (h : Q (some (pI 0)) M) : TT X kJ0_coder_7d493 0 [some (pR (10, j, 0))] [] M Q :=
  T_gets1 dJ0_coder_7d493_0 wf_J0_38 <|
  T_if_eq (tgt := 13) dJ0_coder_7d493_3 (by decide) (fun z => absurd z (by decide)) (fun _ =>
  T_aload_n dJ0_coder_7d493_6 rfl <|
  T_getSc hj dJ0_coder_7d493_7 wf_J0_15 <|
  T_goto (tgt := 14) dJ0_coder_7d493_10 (by decide) <|
  T_ireturn (ty := .byte) dJ0_coder_7d493_14 rfl rfl h)
theorem s_latin {j : Nat} (hj : j < 2) (h : Q (some (pI 1)) M) : TT X kJ0_isLatin1_aae02 0 [some (pR (10, j, 0))] [] M Q :=
  T_gets1 dJ0_isLatin1_aae02_0 wf_J0_38 <|
  T_if_eq (tgt := 17) dJ0_isLatin1_aae02_3 (by decide) (fun z => absurd z (by decide)) (fun _ =>
  T_aload_n dJ0_isLatin1_aae02_6 rfl <|
  T_getSc hj dJ0_isLatin1_aae02_7 wf_J0_15 <|
  T_if_ne (tgt := 17) dJ0_isLatin1_aae02_10 (by decide) (fun z => absurd z (by decide)) (fun _ =>
  T_iconst dJ0_isLatin1_aae02_13 ic_1 <|
  T_goto (tgt := 18) dJ0_isLatin1_aae02_14 (by decide) <|
  T_ireturn (ty := .boolean) dJ0_isLatin1_aae02_18 rfl rfl h))
theorem strL_shr {j : Nat} (hj : j < 2) : strL j >>> ((0 : Int32) &&& 31) = strL j := by
  rcases (show j = 0 ∨ j = 1 by omega) with rfl | rfl <;> decide +kernel
theorem s_length {j : Nat} (hj : j < 2) (h : Q (some (pI (strL j))) M) : TT X kJ0_length_8abf5 0 [some (pR (10, j, 0))] [] M Q :=
  T_aload_n dJ0_length_8abf5_0 rfl <|
  T_getSv hj dJ0_length_8abf5_1 wf_J0_9 <|
  T_blen hj dJ0_length_8abf5_4 <|
  T_aload_n dJ0_length_8abf5_5 rfl <|
  T_callStr (k' := kJ0_coder_7d493) (vs := []) (st := [pI (strL j)]) hj dJ0_length_8abf5_6 wm_J0_335 okJ0_coder_7d493 rfl rfl rfl rfl (Nat.le_of_ble_eq_true rfl) rfl (Nat.le_of_ble_eq_true rfl) <|
  s_coder hj <|
  T_ishr dJ0_length_8abf5_9 <|
  T_ireturn (ty := .int) dJ0_length_8abf5_10 rfl rfl (by rw [strL_shr hj]; exact h)
theorem T_strlen {j : Nat} (hj : j < 2) (hdg : decode k.2.1 pc = .ok (.invokevirtual idx, 3)) (hw : Cond.methodLink k.1.cls idx yJ0_length_8abf5 ∈ GW) (hfit : fitK k kJ0_length_8abf5 = true) (hcat : catS st ≤ 8) (h : TT X k (pc + 3) ls (pI (strL j) :: st) M Q) : TT X k pc ls (pR (10, j, 0) :: st) M Q :=
  T_callStr (k' := kJ0_length_8abf5) (vs := []) (st := st) hj hdg hw okJ0_length_8abf5 hfit rfl rfl rfl hcat rfl (Nat.le_of_ble_eq_true rfl) (s_length hj h)
theorem T_strat {j : Nat} {x : Int32} (hj : j < 2) (hdg : decode k.2.1 pc = .ok (.invokevirtual idx, 3)) (hw : Cond.methodLink k.1.cls idx yJ0_charAt_5068e ∈ GW) (hfit : fitK k kJ0_charAt_5068e = true) (hcat : catS st ≤ 8) (hin : vp_in x (strN j)) (h : TT X k (pc + 3) ls (pI (strC j x.toNatClampNeg) :: st) M Q) : TT X k pc ls (pI x :: pR (10, j, 0) :: st) M Q := by
  sorry
end STR
