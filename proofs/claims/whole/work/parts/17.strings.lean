/-! the two texts: String.length, String.charAt, as the JDK's own code does them -/
section STR
variable {X : Nat × (Nat → Int32)} {k k' : MI} {pc idx n : Nat} {ls lsC : List (Option PV)} {st stk vs : List PV} {M : Mem} {Q : Option PV → Mem → Prop}
theorem T_getSv {j : Nat} (hj : j < 2) (hdg : decode k.2.1 pc = .ok (.getfield idx, 3)) (hw : Cond.fieldLink k.1.cls idx "java/lang/String" "value" "[B" ∈ GW) (h : TT X k (pc + 3) ls (pR (10, j, 1) :: st) M Q) : TT X k pc ls (pR (10, j, 0) :: st) M Q := by
  intro G p l e R s m' args below meth c H locs cells slots QQ lsA B hc hs hP hD hS hl K
  obtain ⟨hE, -⟩ := B.2.2.2.2.2.2.1
  exact vk_getf B.1 B.2.1 (hE.1 j hj).2.2.1 hS B.2.2.2.1 (B.2.2.2.2.1 _ hw) (fun _ h9 => h9) hdg (h G p l e R s m' args below meth c H locs cells slots QQ lsA B hc hs hP hD hS hl K)
theorem T_getSc {j : Nat} (hj : j < 2) (hdg : decode k.2.1 pc = .ok (.getfield idx, 3)) (hw : Cond.fieldLink k.1.cls idx "java/lang/String" "coder" "B" ∈ GW) (h : TT X k (pc + 3) ls (pI 0 :: st) M Q) : TT X k pc ls (pR (10, j, 0) :: st) M Q := by
  intro G p l e R s m' args below meth c H locs cells slots QQ lsA B hc hs hP hD hS hl K
  obtain ⟨hE, -⟩ := B.2.2.2.2.2.2.1
  exact vk_getf B.1 B.2.1 (hE.1 j hj).2.1 hS B.2.2.2.1 (B.2.2.2.2.1 _ hw) (fun _ h9 => h9) hdg (h G p l e R s m' args below meth c H locs cells slots QQ lsA B hc hs hP hD hS hl K)
theorem T_gets1 (hdg : decode k.2.1 pc = .ok (.getstatic idx, 3)) (hw : Cond.fieldLink k.1.cls idx "java/lang/String" "COMPACT_STRINGS" "Z" ∈ GW) (h : TT X k (pc + 3) ls (pI 1 :: st) M Q) : TT X k pc ls st M Q := by
  intro G p l e R s m' args below meth c H locs cells slots QQ lsA B hc hs hP hD hS hl K
  obtain ⟨-, -, -, hZ, -⟩ := B.2.2.2.2.2.2.1
  exact va_gets B.1 B.2.1 hZ hS B.2.2.2.1 (B.2.2.2.2.1 _ hw) (fun _ h9 => h9) hdg (h G p l e R s m' args below meth c H locs cells slots QQ lsA B hc hs hP hD hS hl K)
theorem str_len {j : Nat} (hj : j < 2) : Int32.ofNat ([4, 6].getD j 0) = strL j := by
  rcases (show j = 0 ∨ j = 1 by omega) with rfl | rfl <;> rfl
theorem str_N {j : Nat} (hj : j < 2) : ([4, 6].getD j 0) = strN j := by
  rcases (show j = 0 ∨ j = 1 by omega) with rfl | rfl <;> rfl
theorem str_C {j : Nat} (hj : j < 2) (n : Nat) : (([[115, 116, 101, 112], [119, 97, 108, 107, 101, 114]] : List (List Int32)).getD j []).getD n 0 = strC j n := by
  rcases (show j = 0 ∨ j = 1 by omega) with rfl | rfl <;> rfl
theorem T_blen {j : Nat} (hj : j < 2) (hdg : decode k.2.1 pc = .ok (.arraylength, 1)) (h : TT X k (pc + 1) ls (pI (strL j) :: st) M Q) : TT X k pc ls (pR (10, j, 1) :: st) M Q := by
  intro G p l e R s m' args below meth c H locs cells slots QQ lsA B hc hs hP hD hS hl K
  obtain ⟨hE, -⟩ := B.2.2.2.2.2.2.1
  exact va_tlen B.1 B.2.1 (hE.1 j hj).2.2.2 hS (str_len hj) hdg (h G p l e R s m' args below meth c H locs cells slots QQ lsA B hc hs hP hD hS hl K)
theorem T_bald {j : Nat} {x : Int32} (hj : j < 2) (hdg : decode k.2.1 pc = .ok (.baload, 1)) (hin : vp_in x (strN j)) (h : TT X k (pc + 1) ls (pI (strC j x.toNatClampNeg) :: st) M Q) : TT X k pc ls (pI x :: pR (10, j, 1) :: st) M Q := by
  intro G p l e R s m' args below meth c H locs cells slots QQ lsA B hc hs hP hD hS hl K
  obtain ⟨hE, -⟩ := B.2.2.2.2.2.2.1
  exact va_tb (v := .int (strC j x.toNatClampNeg)) B.1 B.2.1 (hE.1 j hj).2.2.2 hS (by rw [str_N hj]; exact hin) (by rw [str_C hj]) hdg (h G p l e R s m' args below meth c H locs cells slots QQ lsA B hc hs hP hD hS hl K)
theorem T_callStr {j : Nat} (hj : j < 2) (hdg : decode k.2.1 pc = .ok (.invokevirtual idx, 3)) (hw : Cond.methodLink k.1.cls idx k'.1 ∈ GW) (hv : virtK k' n) (hfit : fitK k k' = true) (hcl : k'.1.cls = "java/lang/String") (hn : vs.length = n) (hstk : stk = vs.reverse ++ pR (10, j, 0) :: st) (hcat : catS st ≤ 8) (hls : eLs (pR (10, j, 0) :: vs) k'.2.2.1 = lsC) (hlen : (enL (pR (10, j, 0) :: vs)).length ≤ k'.2.2.1)
    (h : TT X k' 0 lsC [] M (rI fun v M' => TT X k (pc + 3) ls (pI v :: st) M' Q)) : TT X k pc ls stk M Q := by
  subst hls
  intro G p l e R s m args below meth c H locs cells slots QQ lsA B hc hs hP hD hS hl K
  obtain ⟨v1, v2, v3, v4, v5⟩ := hv
  have hok := v5
  simp only [okK, Bool.and_eq_true, decide_eq_true_eq] at hok
  have hts := B.2.2.2.2.1
  obtain ⟨hE, -⟩ := B.2.2.2.2.2.2.1
  have hrec := vk_recv (H := H) (locs := locs) hE hj hS
  rw [← hcl] at hrec
  have hM := metW (l := l) (G := G) (Qc := va_Qi (fun v u => TT X k (pc + 3) ls (pI v :: st) u Q) (We G) (aG G)) hok.1 hlen h (by
    intro a s' t r M' hq hE hF
    rcases r with _ | v | v | v
    · exact hq.elim
    · exact ⟨⟨v, M', rfl, hq, hE⟩, hF⟩
    · exact hq.elim
    · exact hq.elim)
  refine va_calli (va_runV (As := vs.map (pv G.2.1)) (rest := st.map (pv G.2.1)) (Ts := GW) (n := n) ⟨B.1, B.2.1, B.2.2.1, B.2.2.2.1, hts⟩ hM ⟨callB_K B hw v3 v4 v5 hfit, hts _ v1, hts _ v2⟩ ⟨Wd.blind, hrec, preS_K B hP hD hS _⟩ rfl (by rw [List.length_map]; exact hn) hl.1 (by rw [hstk]; simp [pv]) (lv_room (by rw [catS_eq]; exact hcat)) hdg ⟨hc, hs⟩) hS (fun q _ h => h) (fun q h => h) (fun v u t H1 locs1 ht hvm hpost hB hz hk hS1 => ?_)
  exact hpost G p l e R s m args below meth c H1 locs1 cells slots QQ lsA B hc hs (by rw [← ht]; exact hB.1) hB.2 hS1 hl K
theorem s_coder {j : Nat} (hj : j < 2) (h : Q (some (pI 0)) M) : TT X kJ0_coder_7d493 0 [some (pR (10, j, 0))] [] M Q :=
  T_gets1 dJ0_coder_7d493_0 wf_J0_38 <|
  T_if_eq (tgt := 13) dJ0_coder_7d493_3 (by decide) (fun z => absurd z (by decide)) (fun _ =>
  T_aload_n dJ0_coder_7d493_6 rfl <|
  T_getSc hj dJ0_coder_7d493_7 wf_J0_15 <|
  T_goto (tgt := 14) dJ0_coder_7d493_10 (by decide) <|
  T_ireturn (ty := .byte) dJ0_coder_7d493_14 rfl rfl h)
theorem s_latin {j : Nat} (hj : j < 2) (h : Q (some (pI 1)) M) : TT X kJ0_isLatin1_aae02 0 [some (pR (10, j, 0))] [] M Q :=
  T_gets1 dJ0_isLatin1_aae02_0 wf_J0_38 <|
  T_if_eq (tgt := 17) dJ0_isLatin1_aae02_3 (by decide) (fun z => absurd z (by decide)) (fun _ =>
  T_aload_n dJ0_isLatin1_aae02_6 rfl <|
  T_getSc hj dJ0_isLatin1_aae02_7 wf_J0_15 <|
  T_if_ne (tgt := 17) dJ0_isLatin1_aae02_10 (by decide) (fun z => absurd z (by decide)) (fun _ =>
  T_iconst dJ0_isLatin1_aae02_13 ic_1 <|
  T_goto (tgt := 18) dJ0_isLatin1_aae02_14 (by decide) <|
  T_ireturn (ty := .boolean) dJ0_isLatin1_aae02_18 rfl rfl h))
theorem strL_shr {j : Nat} (hj : j < 2) : strL j >>> ((0 : Int32) &&& 31) = strL j := by
  rcases (show j = 0 ∨ j = 1 by omega) with rfl | rfl <;> decide +kernel
theorem s_length {j : Nat} (hj : j < 2) (h : Q (some (pI (strL j))) M) : TT X kJ0_length_8abf5 0 [some (pR (10, j, 0))] [] M Q :=
  T_aload_n dJ0_length_8abf5_0 rfl <|
  T_getSv hj dJ0_length_8abf5_1 wf_J0_9 <|
  T_blen hj dJ0_length_8abf5_4 <|
  T_aload_n dJ0_length_8abf5_5 rfl <|
  T_callStr (k' := kJ0_coder_7d493) (vs := []) (st := [pI (strL j)]) hj dJ0_length_8abf5_6 wm_J0_335 okJ0_coder_7d493 rfl rfl rfl rfl (Nat.le_of_ble_eq_true rfl) rfl (Nat.le_of_ble_eq_true rfl) <|
  s_coder hj <|
  T_ishr dJ0_length_8abf5_9 <|
  T_ireturn (ty := .int) dJ0_length_8abf5_10 rfl rfl (by rw [strL_shr hj]; exact h)
theorem T_strlen {j : Nat} (hj : j < 2) (hdg : decode k.2.1 pc = .ok (.invokevirtual idx, 3)) (hw : Cond.methodLink k.1.cls idx yJ0_length_8abf5 ∈ GW) (hfit : fitK k kJ0_length_8abf5 = true) (hcat : catS st ≤ 8) (h : TT X k (pc + 3) ls (pI (strL j) :: st) M Q) : TT X k pc ls (pR (10, j, 0) :: st) M Q :=
  T_callStr (k' := kJ0_length_8abf5) (vs := []) (st := st) hj hdg hw okJ0_length_8abf5 hfit rfl rfl rfl hcat rfl (Nat.le_of_ble_eq_true rfl) (s_length hj h)
theorem n_chkP (l : Launch) (a b : Int32) (v : Value) (hv : v = .null ∨ ∃ t, v = .ref t) (h1 : ¬ a < 0) (h2 : a < b) : Met l yJ3_checkIndex_8e157 (wsK kJ3_checkIndex_8e157) (rmK kJ3_checkIndex_8e157) (va_Pc [.int a, .int b, v] (fun _ => True)) (va_Qi (fun (r : Int32) (_ : Unit) => r = a) (fun _ _ => True) (fun _ => False)) 0 0 (fun _ => False) := by
  refine Met.ofW (cc := cJ3_checkIndex_8e157) (maxL := 3) (ret := some .int) (by decide +kernel) rfl ?_
  intro p e s m args below meth c s₁ B hml hP
  obtain ⟨rfl, -⟩ := hP
  have hx := B.exec
  have hb := B.bytes
  have hr := B.returns
  have hlocks := B.notSynchronized
  have hl : lv_has ((lg_sl [.int a, .int b, v] ++ List.replicate (3 - (lg_sl [.int a, .int b, v]).length) Slot.unset).toArray) 3 [(0, .int a), (1, .int b), (2, v)] := lv_entry [.int a, .int b, v] (n := 3) (by rcases hv with rfl | ⟨t, rfl⟩ <;> exact Nat.le_of_ble_eq_true rfl)
  rw [lg_entry_eq]
  generalize (lg_sl [.int a, .int b, v] ++ List.replicate (3 - (lg_sl [.int a, .int b, v]).length) Slot.unset).toArray = ls at hl ⊢
  refine lv_iload_n hx hb dJ3_checkIndex_8e157_0 rfl (lv_at hl 0 rfl) ?_
  refine lv_if_lt (tgt := 9) hx hb dJ3_checkIndex_8e157_1 (by decide) (fun z => absurd z h1) (fun _ => ?_)
  refine lv_iload_n hx hb dJ3_checkIndex_8e157_4 rfl (lv_at hl 0 rfl) ?_
  refine lv_iload_n hx hb dJ3_checkIndex_8e157_5 rfl (lv_at hl 1 rfl) ?_
  refine lv_icmp_lt (tgt := 16) hx hb dJ3_checkIndex_8e157_6 (by decide) (fun _ => ?_) (fun z => absurd h2 z)
  refine lv_iload_n hx hb dJ3_checkIndex_8e157_16 rfl (lv_at hl 0 rfl) ?_
  have hS : va_S (fun _ => False) s.heap s.heap [] := va_S.rf
  exact W.iret (v := a) hx hb hr (fun t ht hW => ⟨⟨a, (), rfl, rfl, trivial⟩, hS.F ht⟩) hS.2.2 dJ3_checkIndex_8e157_17 hlocks
theorem n_chk (l : Launch) (A : Nat → Prop) (a b : Int32) (h1 : ¬ a < 0) (h2 : a < b) : Met l yJ0_checkIndex_df160 (wsK kJ0_checkIndex_df160) (rmK kJ0_checkIndex_df160) (va_Pc [.int a, .int b] (fun U => va_Zq "jdk/internal/util/Preconditions" "SIOOBE_FORMATTER" "Ljava/util/function/BiFunction;" A U U.heap)) (va_Qv (fun _ : Unit => True) (fun _ _ => True) (fun _ => False)) 0 0 (fun _ => False) := by
  refine Met.ofW (cc := cJ0_checkIndex_df160) (maxL := 2) (ret := none) (by decide +kernel) rfl ?_
  intro p e s m args below meth c s₁ B hml hP
  obtain ⟨rfl, hZ⟩ := hP
  have hx := B.exec
  have hb := B.bytes
  have hr := B.returns
  have hlocks := B.notSynchronized
  have hts : ∀ w ∈ GW, w.before #[Value.int a, Value.int b] s = true := fun w hw => atoms_spec (ws := wsK kJ0_checkIndex_df160) B.pre w (List.mem_cons_of_mem _ hw)
  have hown : s.vm.findClass RJ0 = some m.cls := findClass_of_methodNamed B.named
  have hl : lv_has ((lg_sl [.int a, .int b] ++ List.replicate (2 - (lg_sl [.int a, .int b]).length) Slot.unset).toArray) 2 [(0, .int a), (1, .int b)] := lv_entry [.int a, .int b] (n := 2) (Nat.le_of_ble_eq_true rfl)
  rw [lg_entry_eq]
  generalize (lg_sl [.int a, .int b] ++ List.replicate (2 - (lg_sl [.int a, .int b]).length) Slot.unset).toArray = ls at hl ⊢
  refine lv_iload_n hx hb dJ0_checkIndex_df160_0 rfl (lv_at hl 0 rfl) ?_
  refine lv_iload_n hx hb dJ0_checkIndex_df160_1 rfl (lv_at hl 1 rfl) ?_
  have key : ∀ v : Value, (v = .null ∨ ∃ t, v = .ref t) → va_Z "jdk/internal/util/Preconditions" "SIOOBE_FORMATTER" "Ljava/util/function/BiFunction;" v A s s.heap → W p l e (headSpec (wsK kJ0_checkIndex_df160) (rmK kJ0_checkIndex_df160)).room s m #[Value.int a, Value.int b] below meth c s.heap [] 0 0 (MQ below (va_Qv (fun _ : Unit => True) (fun _ _ => True) (fun _ => False)) #[Value.int a, Value.int b] s 0 0 (fun _ => False)) (F0 m 2 ls [.int b, .int a]) := by
    intro v hv hZ
    refine va_gets hx hb hZ va_S.rf hown (hts _ wf_J0_1053) (fun _ h9 => h9) dJ0_checkIndex_df160_2 ?_
    have hS : va_S (fun _ => False) s.heap s.heap [] := va_S.rf
    refine va_calli (va_runS (As := [.int a, .int b, v]) (rest := []) (Ts := GW) (n := 3) ⟨hx, hb, hml, hown, hts⟩ (n_chkP l a b v hv h1 h2) ⟨callB_of (Ts := GW) (ws' := GW) 3 hts (fun w hw => by
      rcases List.mem_cons.mp hw with rfl | hw
      · exact gw_good _ wo_yJ3_checkIndex_8e157
      · exact gw_good _ hw) rfl rfl rfl (hts _ wz_J3) (hts _ wm_J0_1059) (by decide +kernel) ⟨Nat.le_of_ble_eq_true rfl, Nat.le_of_ble_eq_true rfl⟩, hts _ wt_yJ3_checkIndex_8e157⟩ ⟨fun _ _ _ _ q => q, fun _ _ _ => ⟨rfl, trivial⟩⟩ rfl rfl hl.1 rfl (lv_room (Nat.le_of_ble_eq_true rfl)) dJ0_checkIndex_df160_5 ⟨Nat.le_of_ble_eq_true rfl, Nat.le_of_ble_eq_true rfl⟩) hS (fun q _ h => h) (fun q h => h) (fun r u t H1 locs1 ht hvm hpost hB hz hk hS1 => ?_)
    refine lv_pop hx hb dJ0_checkIndex_df160_8 rfl ?_
    exact W.vret hx hb hr (fun t ht hW => ⟨⟨(), rfl, trivial, trivial⟩, hS1.F ht⟩) hS1.2.2 dJ0_checkIndex_df160_9 hlocks
  rcases hZ with hZ | ⟨t, hZ⟩
  · exact key _ (Or.inl rfl) hZ
  · exact key _ (Or.inr ⟨t, rfl⟩) hZ
theorem T_chk {a b : Int32} (hdg : decode k.2.1 pc = .ok (.invokestatic idx, 3)) (hw : Cond.methodLink k.1.cls idx yJ0_checkIndex_df160 ∈ GW) (hfit : fitK k kJ0_checkIndex_df160 = true) (hcat : catS st ≤ 8) (h1 : ¬ a < 0) (h2 : a < b) (h : TT X k (pc + 3) ls st M Q) : TT X k pc ls (pI b :: pI a :: st) M Q := by
  intro G p l e R s m args below meth c H locs cells slots QQ lsA B hc hs hP hD hS hl K
  obtain ⟨v1, v3, v4, v5⟩ := okJ0_checkIndex_df160
  have hts := B.2.2.2.2.1
  have hE := B.2.2.2.2.2.2.1
  refine va_callv (va_runS (As := [.int a, .int b]) (rest := st.map (pv G.2.1)) (Ts := GW) (n := 2) ⟨B.1, B.2.1, B.2.2.1, B.2.2.2.1, hts⟩ (n_chk l (aG G) a b h1 h2) ⟨callB_K (k' := kJ0_checkIndex_df160) B hw v3 v4 v5 hfit, hts _ v1⟩ ⟨fun a' U g mk q => ⟨q.1, va_Zq.moved (u := U) (Vm.Alike.refl U.vm) q.2⟩, fun U hU hW => ⟨rfl, ?_⟩⟩ rfl rfl hl.1 rfl (lv_room (by rw [catS_eq]; exact hcat)) hdg ⟨hc, hs⟩) hS (fun q _ h => h.elim) (fun q h => h.elim) (fun u t H1 locs1 ht hvm hpost hB hz hk hS1 => ?_)
  · show va_Zq _ _ _ (aG G) U U.heap
    rw [hU]
    exact va_Zq.moved hW.alike (hE.2.2.2.2.1.kept hS.2.1)
  · exact h G p l e R s m args below meth c H1 locs1 cells slots QQ lsA B hc hs (hP.kept (fun k q hq => hk q.1 ((hP k q hq).lt) id)) hD hS1 hl K
theorem strC_char {j n : Nat} (hj : j < 2) (hn : n < strN j) : ((strC j n &&& 255).toUInt32 % 65536).toInt32 = strC j n := by
  rcases (show j = 0 ∨ j = 1 by omega) with rfl | rfl
  · have hn : n < 4 := hn
    rcases (show n = 0 ∨ n = 1 ∨ n = 2 ∨ n = 3 by omega) with rfl | rfl | rfl | rfl <;> decide +kernel
  · have hn : n < 6 := hn
    rcases (show n = 0 ∨ n = 1 ∨ n = 2 ∨ n = 3 ∨ n = 4 ∨ n = 5 by omega) with rfl | rfl | rfl | rfl | rfl | rfl <;> decide +kernel
theorem vp_in_str {j : Nat} {x : Int32} (hj : j < 2) (hin : vp_in x (strN j)) : ¬ x < 0 ∧ x < strL j ∧ x.toNatClampNeg < strN j := by
  have h3 : x.toNatClampNeg < strN j := Nat.not_le.mp fun q => hin (Or.inr q)
  refine ⟨fun q => hin (Or.inl q), ?_, h3⟩
  have hs : strL j = nI (strN j) := by rcases (show j = 0 ∨ j = 1 by omega) with rfl | rfl <;> decide +kernel
  have hb : strN j < 2 ^ 31 := by rcases (show j = 0 ∨ j = 1 by omega) with rfl | rfl <;> decide +kernel
  obtain ⟨i, hi, rfl⟩ := vp_in_of hin hb
  rw [hs]
  exact nI_lt hi hb
theorem s_latAt {j : Nat} {x : Int32} (hj : j < 2) (hin : vp_in x (strN j)) (h : Q (some (pI (strC j x.toNatClampNeg))) M) : TT X kJ1_charAt_3b067 0 [some (pR (10, j, 1)), some (pI x)] [] M Q :=
  T_iload_n dJ1_charAt_3b067_0 rfl <|
  T_aload_n dJ1_charAt_3b067_1 rfl <|
  T_blen hj dJ1_charAt_3b067_2 <|
  T_chk dJ1_charAt_3b067_3 wm_J1_9 rfl (Nat.le_of_ble_eq_true rfl) (vp_in_str hj hin).1 (vp_in_str hj hin).2.1 <|
  T_aload_n dJ1_charAt_3b067_6 rfl <|
  T_iload_n dJ1_charAt_3b067_7 rfl <|
  T_bald hj dJ1_charAt_3b067_8 hin <|
  T_sipush (v := 255) dJ1_charAt_3b067_9 (by decide +kernel) <|
  T_iand dJ1_charAt_3b067_12 <|
  T_i2c dJ1_charAt_3b067_13 <|
  T_ireturn (ty := .char) dJ1_charAt_3b067_14 rfl (pk_nc _) (by rw [strC_char hj (vp_in_str hj hin).2.2]; exact h)
theorem s_charAt {j : Nat} {x : Int32} (hj : j < 2) (hin : vp_in x (strN j)) (h : Q (some (pI (strC j x.toNatClampNeg))) M) : TT X kJ0_charAt_5068e 0 [some (pR (10, j, 0)), some (pI x)] [] M Q :=
  T_aload_n dJ0_charAt_5068e_0 rfl <|
  T_callStr (k' := kJ0_isLatin1_aae02) (vs := []) (st := []) hj dJ0_charAt_5068e_1 wm_J0_492 okJ0_isLatin1_aae02 rfl rfl rfl rfl (Nat.le_of_ble_eq_true rfl) rfl (Nat.le_of_ble_eq_true rfl) <|
  s_latin hj <|
  T_if_eq (tgt := 16) dJ0_charAt_5068e_4 (by decide) (fun z => absurd z (by decide)) (fun _ =>
  T_aload_n dJ0_charAt_5068e_7 rfl <|
  T_getSv hj dJ0_charAt_5068e_8 wf_J0_9 <|
  T_iload_n dJ0_charAt_5068e_11 rfl <|
  T_callSi (k' := kJ1_charAt_3b067) (vs := [pR (10, j, 1), pI x]) (st := []) dJ0_charAt_5068e_12 wm_J0_495 okJ1_charAt_3b067 rfl rfl rfl (Nat.le_of_ble_eq_true rfl) rfl (Nat.le_of_ble_eq_true rfl) <|
  s_latAt hj hin <|
  T_ireturn (ty := .char) dJ0_charAt_5068e_15 rfl (by rw [← strC_char hj (vp_in_str hj hin).2.2]; exact pk_nc _) h)
theorem T_strat {j : Nat} {x : Int32} (hj : j < 2) (hdg : decode k.2.1 pc = .ok (.invokevirtual idx, 3)) (hw : Cond.methodLink k.1.cls idx yJ0_charAt_5068e ∈ GW) (hfit : fitK k kJ0_charAt_5068e = true) (hcat : catS st ≤ 8) (hin : vp_in x (strN j)) (h : TT X k (pc + 3) ls (pI (strC j x.toNatClampNeg) :: st) M Q) : TT X k pc ls (pI x :: pR (10, j, 0) :: st) M Q :=
  T_callStr (k' := kJ0_charAt_5068e) (vs := [pI x]) (st := st) hj hdg hw okJ0_charAt_5068e hfit rfl rfl rfl hcat rfl (Nat.le_of_ble_eq_true rfl) (s_charAt hj hin h)
end STR
