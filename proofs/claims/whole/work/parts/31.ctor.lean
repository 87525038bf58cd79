theorem gw_code {y : MethodName} {b : ByteArray} {n : Nat} {r : Option FieldType} (h : Cond.code y b n r ∈ GW) : GoodIn GW (Cond.code y b n r :: GW) := by
  intro w hw
  rcases List.mem_cons.mp hw with rfl | hw
  · exact gw_good _ h
  · exact gw_good _ hw
theorem f8_all : ∀ j : Nat, j < 8 → (upd (upd (upd (upd (upd (upd (upd (upd (fun _ => 0) 0 (-1)) 1 (-1)) 2 (-1)) 3 (-1)) 4 (-1)) 5 (-1)) 6 (-1)) 7 (-1) : Nat → Int32) j = -1 := by decide +kernel

abbrev kX5_init : MI := (yX5_init, cX5_init, 2, none, 1, 20)
set_option maxHeartbeats 4000000 in
set_option maxRecDepth 100000 in
theorem n_X5 (l : Launch) (D : va_G) (tys : List (ClassId × FieldType)) (cI cZ cS : ClassId) (htI : tys[0]? = some (cI, .int)) (htZ : tys[1]? = some (cZ, .boolean)) (htS : tys[2]? = some (cS, .object RX6)) (h0 sz : Nat) : Met l yX5_init (wsK kX5_init) ({ frames := 1, cells := 3, slots := 336, locals := 20 }) (va_Pc [.ref h0] (fun U => U.heap.size = sz ∧ va_P D vwCl [(h0, .inr (5, [.null, .null, .null]))] U.heap ∧ va_K D vwCl tys U ∧ va_D (fun _ => True) [(h0, .inr (5, [.null, .null, .null]))] ∧ NW U)) (va_Qv (fun _ : Unit => True) (fun _ t => ∃ (q1 : Nat) (q2 : Nat) (q3 : Nat), ∃ (f1 : Nat → Int32), (∀ j : Nat, j < 8 → f1 j = -1) ∧ va_P D vwCl [(h0, .inr (5, [.ref q1, .ref q2, .ref q3])), (q1, .inl (cI, 8, .inl (f1))), (q2, .inl (cI, 8, .inl (fun _ => 0))), (q3, .inl (cI, 320, .inl (fun _ => 0)))] t.heap ∧ va_D (va_A [(h0, .inr (5, [.null, .null, .null]))] sz) [(h0, .inr (5, [.ref q1, .ref q2, .ref q3])), (q1, .inl (cI, 8, .inl (f1))), (q2, .inl (cI, 8, .inl (fun _ => 0))), (q3, .inl (cI, 320, .inl (fun _ => 0)))]) (va_A [(h0, .inr (5, [.null, .null, .null]))] sz)) 3 336 (va_A [(h0, .inr (5, [.null, .null, .null]))] sz) := by
  refine Met.ofW (cc := cX5_init) (maxL := 2) (ret := none) (by decide +kernel) rfl ?_
  intro p e s m args below meth c s₁ B hml hv
  obtain ⟨rfl, hsz, hP, hK, hD0, hN⟩ := hv
  have hx := B.exec
  have hb := B.bytes
  have hr := B.returns
  have hts : ∀ w ∈ GW, w.before #[Value.ref h0] s = true := fun w hw => atoms_spec (ws := wsK kX5_init) B.pre w (List.mem_cons_of_mem _ hw)
  have hown : s.vm.findClass RX5 = some m.cls := findClass_of_methodNamed B.named
  have hlocks := B.notSynchronized
  have hin : meth.name = "<init>" := (name_of_methodNamed B.named B.method).1
  subst hsz
  have hD := hD0.self (sz := s.heap.size)
  generalize hAe : va_A [(h0, .inr (5, [.null, .null, .null]))] s.heap.size = A at hD ⊢
  have hA : ∀ q : Nat, s.heap.size ≤ q → A q := fun q h => by rw [← hAe]; exact Or.inr h
  have hS : va_S A s.heap s.heap [] := va_S.rf
  have hP : va_P D vwCl [(h0, .inr (5, [.null, .null, .null]))] s.heap := hP
  have hl := lv_entry ([.ref h0]) (n := 2) (Nat.le_of_ble_eq_true rfl)
  rw [lg_entry_eq]
  generalize (lg_sl ([.ref h0]) ++ List.replicate (2 - (lg_sl ([.ref h0])).length) Slot.unset).toArray = ls at hl ⊢
  have hl : lv_has ls 2 [(0, .ref h0)] := hl
  refine lv_aload_n hx hb dX5_init_0 rfl (lv_at hl 0 rfl) ?_
  refine W.objInit hx hb hown (hts _ wm_X5_3) (hts _ wi_objectInit) (hts _ wo_objectInit) rfl (by rw [hml]; exact hl.1) rfl dX5_init_1 (Nat.le_of_ble_eq_true rfl) (Nat.le_of_ble_eq_true rfl) ?_
  refine W.eq (g2 := F0 m 4 ls []) rfl ?_
  refine lv_aload_n hx hb dX5_init_4 rfl (lv_at hl 0 rfl) ?_
  refine lv_bipush (v := 8) hx hb dX5_init_5 (by decide) ?_
  refine cn_newI hx hb (hts _ wa_int) hK hP hD hS hA htI (by decide) (N' := 8) (by decide) (by decide) (Nat.le_of_ble_eq_true rfl) (Nat.le_of_ble_eq_true rfl) dX5_init_7 (fun q1 H hP hD hS => ?_)
  have hP : va_P D vwCl [(h0, .inr (5, [.null, .null, .null])), (q1, .inl (cI, 8, .inl (fun _ => 0)))] H := hP
  have hD : va_D A [(h0, .inr (5, [.null, .null, .null])), (q1, .inl (cI, 8, .inl (fun _ => 0)))] := hD
  refine va_putF (D := D) (ci := 5) (v := .ref q1) (ty := .array .int) (C := RX5) (T := TX5) (N := 3) hx hb hts inX5 tyX5 tyX5_ok nmX5 hown hK hP hD hS 0 rfl rfl 0 (by decide) (hts _ wf_X5_11) (fun _ h9 => h9) rfl hin rfl (by decide +kernel) rfl rfl (Nat.le_of_ble_eq_true rfl) dX5_init_9 (fun H locs hP hD hS => ?_)
  have hP : va_P D vwCl [(h0, .inr (5, [.ref q1, .null, .null])), (q1, .inl (cI, 8, .inl (fun _ => 0)))] H := hP
  have hD : va_D A [(h0, .inr (5, [.ref q1, .null, .null])), (q1, .inl (cI, 8, .inl (fun _ => 0)))] := hD
  refine lv_aload_n hx hb dX5_init_12 rfl (lv_at hl 0 rfl) ?_
  refine lv_bipush (v := 8) hx hb dX5_init_13 (by decide) ?_
  refine cn_newI hx hb (hts _ wa_int) hK hP hD hS hA htI (by decide) (N' := 8) (by decide) (by decide) (Nat.le_of_ble_eq_true rfl) (Nat.le_of_ble_eq_true rfl) dX5_init_15 (fun q2 H hP hD hS => ?_)
  have hP : va_P D vwCl [(h0, .inr (5, [.ref q1, .null, .null])), (q1, .inl (cI, 8, .inl (fun _ => 0))), (q2, .inl (cI, 8, .inl (fun _ => 0)))] H := hP
  have hD : va_D A [(h0, .inr (5, [.ref q1, .null, .null])), (q1, .inl (cI, 8, .inl (fun _ => 0))), (q2, .inl (cI, 8, .inl (fun _ => 0)))] := hD
  refine va_putF (D := D) (ci := 5) (v := .ref q2) (ty := .array .int) (C := RX5) (T := TX5) (N := 3) hx hb hts inX5 tyX5 tyX5_ok nmX5 hown hK hP hD hS 0 rfl rfl 1 (by decide) (hts _ wf_X5_15) (fun _ h9 => h9) rfl hin rfl (by decide +kernel) rfl rfl (Nat.le_of_ble_eq_true rfl) dX5_init_17 (fun H locs hP hD hS => ?_)
  have hP : va_P D vwCl [(h0, .inr (5, [.ref q1, .ref q2, .null])), (q1, .inl (cI, 8, .inl (fun _ => 0))), (q2, .inl (cI, 8, .inl (fun _ => 0)))] H := hP
  have hD : va_D A [(h0, .inr (5, [.ref q1, .ref q2, .null])), (q1, .inl (cI, 8, .inl (fun _ => 0))), (q2, .inl (cI, 8, .inl (fun _ => 0)))] := hD
  refine lv_aload_n hx hb dX5_init_20 rfl (lv_at hl 0 rfl) ?_
  refine lv_sipush (v := 320) hx hb dX5_init_21 (by decide) ?_
  refine cn_newI hx hb (hts _ wa_int) hK hP hD hS hA htI (by decide) (N' := 320) (by decide) (by decide) (Nat.le_of_ble_eq_true rfl) (Nat.le_of_ble_eq_true rfl) dX5_init_24 (fun q3 H hP hD hS => ?_)
  have hP : va_P D vwCl [(h0, .inr (5, [.ref q1, .ref q2, .null])), (q1, .inl (cI, 8, .inl (fun _ => 0))), (q2, .inl (cI, 8, .inl (fun _ => 0))), (q3, .inl (cI, 320, .inl (fun _ => 0)))] H := hP
  have hD : va_D A [(h0, .inr (5, [.ref q1, .ref q2, .null])), (q1, .inl (cI, 8, .inl (fun _ => 0))), (q2, .inl (cI, 8, .inl (fun _ => 0))), (q3, .inl (cI, 320, .inl (fun _ => 0)))] := hD
  refine va_putF (D := D) (ci := 5) (v := .ref q3) (ty := .array .int) (C := RX5) (T := TX5) (N := 3) hx hb hts inX5 tyX5 tyX5_ok nmX5 hown hK hP hD hS 0 rfl rfl 2 (by decide) (hts _ wf_X5_18) (fun _ h9 => h9) rfl hin rfl (by decide +kernel) rfl rfl (Nat.le_of_ble_eq_true rfl) dX5_init_26 (fun H locs hP hD hS => ?_)
  have hP : va_P D vwCl [(h0, .inr (5, [.ref q1, .ref q2, .ref q3])), (q1, .inl (cI, 8, .inl (fun _ => 0))), (q2, .inl (cI, 8, .inl (fun _ => 0))), (q3, .inl (cI, 320, .inl (fun _ => 0)))] H := hP
  have hD : va_D A [(h0, .inr (5, [.ref q1, .ref q2, .ref q3])), (q1, .inl (cI, 8, .inl (fun _ => 0))), (q2, .inl (cI, 8, .inl (fun _ => 0))), (q3, .inl (cI, 320, .inl (fun _ => 0)))] := hD
  refine lv_iconst (v := 0) hx hb dX5_init_29 (by decide) ?_
  refine lv_istore_n (lv' := [(1, .int 0), (0, .ref h0)]) hx hb dX5_init_30 rfl hl (by decide) rfl (fun ls hl => ?_)
  refine lv_iload_n hx hb dX5_init_31 rfl (lv_at hl 0 rfl) ?_
  refine lv_bipush (v := 8) hx hb dX5_init_32 (by decide) ?_
  refine lv_icmp_ge (tgt := 50) hx hb dX5_init_34 (by decide) (fun z => absurd z (by decide)) (fun _ => ?_)
  refine lv_aload_n hx hb dX5_init_37 rfl (lv_at hl 1 rfl) ?_
  refine va_get (D := D) (ci := 5) (v := .ref q1) (C := RX5) (T := TX5) (N := 3) hx hb hts inX5 hown hK hP 0 rfl rfl 0 (by decide) (hts _ wf_X5_11) (fun _ h9 => h9) rfl dX5_init_38 ?_
  refine lv_iload_n hx hb dX5_init_41 rfl (lv_at hl 0 rfl) ?_
  refine lv_iconst (v := (-1)) hx hb dX5_init_42 (by decide) ?_
  refine va_iast hx hb hK hP hD hS 1 0 rfl htI (by unfold vp_in; decide) dX5_init_43 (fun H locs hP hD hS => ?_)
  have hP : va_P D vwCl [(h0, .inr (5, [.ref q1, .ref q2, .ref q3])), (q1, .inl (cI, 8, .inl (upd (fun _ => 0) 0 (-1)))), (q2, .inl (cI, 8, .inl (fun _ => 0))), (q3, .inl (cI, 320, .inl (fun _ => 0)))] H := hP
  have hD : va_D A [(h0, .inr (5, [.ref q1, .ref q2, .ref q3])), (q1, .inl (cI, 8, .inl (upd (fun _ => 0) 0 (-1)))), (q2, .inl (cI, 8, .inl (fun _ => 0))), (q3, .inl (cI, 320, .inl (fun _ => 0)))] := hD
  refine lv_iinc (v := 1) (lv' := [(1, .int 1), (0, .ref h0)]) hx hb dX5_init_44 hl (k := 0) rfl (by decide) (by decide) rfl (fun ls hl => ?_)
  refine lv_goto (tgt := 31) hx hb dX5_init_47 (by decide) ?_
  refine lv_iload_n hx hb dX5_init_31 rfl (lv_at hl 0 rfl) ?_
  refine lv_bipush (v := 8) hx hb dX5_init_32 (by decide) ?_
  refine lv_icmp_ge (tgt := 50) hx hb dX5_init_34 (by decide) (fun z => absurd z (by decide)) (fun _ => ?_)
  refine lv_aload_n hx hb dX5_init_37 rfl (lv_at hl 1 rfl) ?_
  refine va_get (D := D) (ci := 5) (v := .ref q1) (C := RX5) (T := TX5) (N := 3) hx hb hts inX5 hown hK hP 0 rfl rfl 0 (by decide) (hts _ wf_X5_11) (fun _ h9 => h9) rfl dX5_init_38 ?_
  refine lv_iload_n hx hb dX5_init_41 rfl (lv_at hl 0 rfl) ?_
  refine lv_iconst (v := (-1)) hx hb dX5_init_42 (by decide) ?_
  refine va_iast hx hb hK hP hD hS 1 0 rfl htI (by unfold vp_in; decide) dX5_init_43 (fun H locs hP hD hS => ?_)
  have hP : va_P D vwCl [(h0, .inr (5, [.ref q1, .ref q2, .ref q3])), (q1, .inl (cI, 8, .inl (upd (upd (fun _ => 0) 0 (-1)) 1 (-1)))), (q2, .inl (cI, 8, .inl (fun _ => 0))), (q3, .inl (cI, 320, .inl (fun _ => 0)))] H := hP
  have hD : va_D A [(h0, .inr (5, [.ref q1, .ref q2, .ref q3])), (q1, .inl (cI, 8, .inl (upd (upd (fun _ => 0) 0 (-1)) 1 (-1)))), (q2, .inl (cI, 8, .inl (fun _ => 0))), (q3, .inl (cI, 320, .inl (fun _ => 0)))] := hD
  refine lv_iinc (v := 2) (lv' := [(1, .int 2), (0, .ref h0)]) hx hb dX5_init_44 hl (k := 0) rfl (by decide) (by decide) rfl (fun ls hl => ?_)
  refine lv_goto (tgt := 31) hx hb dX5_init_47 (by decide) ?_
  refine lv_iload_n hx hb dX5_init_31 rfl (lv_at hl 0 rfl) ?_
  refine lv_bipush (v := 8) hx hb dX5_init_32 (by decide) ?_
  refine lv_icmp_ge (tgt := 50) hx hb dX5_init_34 (by decide) (fun z => absurd z (by decide)) (fun _ => ?_)
  refine lv_aload_n hx hb dX5_init_37 rfl (lv_at hl 1 rfl) ?_
  refine va_get (D := D) (ci := 5) (v := .ref q1) (C := RX5) (T := TX5) (N := 3) hx hb hts inX5 hown hK hP 0 rfl rfl 0 (by decide) (hts _ wf_X5_11) (fun _ h9 => h9) rfl dX5_init_38 ?_
  refine lv_iload_n hx hb dX5_init_41 rfl (lv_at hl 0 rfl) ?_
  refine lv_iconst (v := (-1)) hx hb dX5_init_42 (by decide) ?_
  refine va_iast hx hb hK hP hD hS 1 0 rfl htI (by unfold vp_in; decide) dX5_init_43 (fun H locs hP hD hS => ?_)
  have hP : va_P D vwCl [(h0, .inr (5, [.ref q1, .ref q2, .ref q3])), (q1, .inl (cI, 8, .inl (upd (upd (upd (fun _ => 0) 0 (-1)) 1 (-1)) 2 (-1)))), (q2, .inl (cI, 8, .inl (fun _ => 0))), (q3, .inl (cI, 320, .inl (fun _ => 0)))] H := hP
  have hD : va_D A [(h0, .inr (5, [.ref q1, .ref q2, .ref q3])), (q1, .inl (cI, 8, .inl (upd (upd (upd (fun _ => 0) 0 (-1)) 1 (-1)) 2 (-1)))), (q2, .inl (cI, 8, .inl (fun _ => 0))), (q3, .inl (cI, 320, .inl (fun _ => 0)))] := hD
  refine lv_iinc (v := 3) (lv' := [(1, .int 3), (0, .ref h0)]) hx hb dX5_init_44 hl (k := 0) rfl (by decide) (by decide) rfl (fun ls hl => ?_)
  refine lv_goto (tgt := 31) hx hb dX5_init_47 (by decide) ?_
  refine lv_iload_n hx hb dX5_init_31 rfl (lv_at hl 0 rfl) ?_
  refine lv_bipush (v := 8) hx hb dX5_init_32 (by decide) ?_
  refine lv_icmp_ge (tgt := 50) hx hb dX5_init_34 (by decide) (fun z => absurd z (by decide)) (fun _ => ?_)
  refine lv_aload_n hx hb dX5_init_37 rfl (lv_at hl 1 rfl) ?_
  refine va_get (D := D) (ci := 5) (v := .ref q1) (C := RX5) (T := TX5) (N := 3) hx hb hts inX5 hown hK hP 0 rfl rfl 0 (by decide) (hts _ wf_X5_11) (fun _ h9 => h9) rfl dX5_init_38 ?_
  refine lv_iload_n hx hb dX5_init_41 rfl (lv_at hl 0 rfl) ?_
  refine lv_iconst (v := (-1)) hx hb dX5_init_42 (by decide) ?_
  refine va_iast hx hb hK hP hD hS 1 0 rfl htI (by unfold vp_in; decide) dX5_init_43 (fun H locs hP hD hS => ?_)
  have hP : va_P D vwCl [(h0, .inr (5, [.ref q1, .ref q2, .ref q3])), (q1, .inl (cI, 8, .inl (upd (upd (upd (upd (fun _ => 0) 0 (-1)) 1 (-1)) 2 (-1)) 3 (-1)))), (q2, .inl (cI, 8, .inl (fun _ => 0))), (q3, .inl (cI, 320, .inl (fun _ => 0)))] H := hP
  have hD : va_D A [(h0, .inr (5, [.ref q1, .ref q2, .ref q3])), (q1, .inl (cI, 8, .inl (upd (upd (upd (upd (fun _ => 0) 0 (-1)) 1 (-1)) 2 (-1)) 3 (-1)))), (q2, .inl (cI, 8, .inl (fun _ => 0))), (q3, .inl (cI, 320, .inl (fun _ => 0)))] := hD
  refine lv_iinc (v := 4) (lv' := [(1, .int 4), (0, .ref h0)]) hx hb dX5_init_44 hl (k := 0) rfl (by decide) (by decide) rfl (fun ls hl => ?_)
  refine lv_goto (tgt := 31) hx hb dX5_init_47 (by decide) ?_
  refine lv_iload_n hx hb dX5_init_31 rfl (lv_at hl 0 rfl) ?_
  refine lv_bipush (v := 8) hx hb dX5_init_32 (by decide) ?_
  refine lv_icmp_ge (tgt := 50) hx hb dX5_init_34 (by decide) (fun z => absurd z (by decide)) (fun _ => ?_)
  refine lv_aload_n hx hb dX5_init_37 rfl (lv_at hl 1 rfl) ?_
  refine va_get (D := D) (ci := 5) (v := .ref q1) (C := RX5) (T := TX5) (N := 3) hx hb hts inX5 hown hK hP 0 rfl rfl 0 (by decide) (hts _ wf_X5_11) (fun _ h9 => h9) rfl dX5_init_38 ?_
  refine lv_iload_n hx hb dX5_init_41 rfl (lv_at hl 0 rfl) ?_
  refine lv_iconst (v := (-1)) hx hb dX5_init_42 (by decide) ?_
  refine va_iast hx hb hK hP hD hS 1 0 rfl htI (by unfold vp_in; decide) dX5_init_43 (fun H locs hP hD hS => ?_)
  have hP : va_P D vwCl [(h0, .inr (5, [.ref q1, .ref q2, .ref q3])), (q1, .inl (cI, 8, .inl (upd (upd (upd (upd (upd (fun _ => 0) 0 (-1)) 1 (-1)) 2 (-1)) 3 (-1)) 4 (-1)))), (q2, .inl (cI, 8, .inl (fun _ => 0))), (q3, .inl (cI, 320, .inl (fun _ => 0)))] H := hP
  have hD : va_D A [(h0, .inr (5, [.ref q1, .ref q2, .ref q3])), (q1, .inl (cI, 8, .inl (upd (upd (upd (upd (upd (fun _ => 0) 0 (-1)) 1 (-1)) 2 (-1)) 3 (-1)) 4 (-1)))), (q2, .inl (cI, 8, .inl (fun _ => 0))), (q3, .inl (cI, 320, .inl (fun _ => 0)))] := hD
  refine lv_iinc (v := 5) (lv' := [(1, .int 5), (0, .ref h0)]) hx hb dX5_init_44 hl (k := 0) rfl (by decide) (by decide) rfl (fun ls hl => ?_)
  refine lv_goto (tgt := 31) hx hb dX5_init_47 (by decide) ?_
  refine lv_iload_n hx hb dX5_init_31 rfl (lv_at hl 0 rfl) ?_
  refine lv_bipush (v := 8) hx hb dX5_init_32 (by decide) ?_
  refine lv_icmp_ge (tgt := 50) hx hb dX5_init_34 (by decide) (fun z => absurd z (by decide)) (fun _ => ?_)
  refine lv_aload_n hx hb dX5_init_37 rfl (lv_at hl 1 rfl) ?_
  refine va_get (D := D) (ci := 5) (v := .ref q1) (C := RX5) (T := TX5) (N := 3) hx hb hts inX5 hown hK hP 0 rfl rfl 0 (by decide) (hts _ wf_X5_11) (fun _ h9 => h9) rfl dX5_init_38 ?_
  refine lv_iload_n hx hb dX5_init_41 rfl (lv_at hl 0 rfl) ?_
  refine lv_iconst (v := (-1)) hx hb dX5_init_42 (by decide) ?_
  refine va_iast hx hb hK hP hD hS 1 0 rfl htI (by unfold vp_in; decide) dX5_init_43 (fun H locs hP hD hS => ?_)
  have hP : va_P D vwCl [(h0, .inr (5, [.ref q1, .ref q2, .ref q3])), (q1, .inl (cI, 8, .inl (upd (upd (upd (upd (upd (upd (fun _ => 0) 0 (-1)) 1 (-1)) 2 (-1)) 3 (-1)) 4 (-1)) 5 (-1)))), (q2, .inl (cI, 8, .inl (fun _ => 0))), (q3, .inl (cI, 320, .inl (fun _ => 0)))] H := hP
  have hD : va_D A [(h0, .inr (5, [.ref q1, .ref q2, .ref q3])), (q1, .inl (cI, 8, .inl (upd (upd (upd (upd (upd (upd (fun _ => 0) 0 (-1)) 1 (-1)) 2 (-1)) 3 (-1)) 4 (-1)) 5 (-1)))), (q2, .inl (cI, 8, .inl (fun _ => 0))), (q3, .inl (cI, 320, .inl (fun _ => 0)))] := hD
  refine lv_iinc (v := 6) (lv' := [(1, .int 6), (0, .ref h0)]) hx hb dX5_init_44 hl (k := 0) rfl (by decide) (by decide) rfl (fun ls hl => ?_)
  refine lv_goto (tgt := 31) hx hb dX5_init_47 (by decide) ?_
  refine lv_iload_n hx hb dX5_init_31 rfl (lv_at hl 0 rfl) ?_
  refine lv_bipush (v := 8) hx hb dX5_init_32 (by decide) ?_
  refine lv_icmp_ge (tgt := 50) hx hb dX5_init_34 (by decide) (fun z => absurd z (by decide)) (fun _ => ?_)
  refine lv_aload_n hx hb dX5_init_37 rfl (lv_at hl 1 rfl) ?_
  refine va_get (D := D) (ci := 5) (v := .ref q1) (C := RX5) (T := TX5) (N := 3) hx hb hts inX5 hown hK hP 0 rfl rfl 0 (by decide) (hts _ wf_X5_11) (fun _ h9 => h9) rfl dX5_init_38 ?_
  refine lv_iload_n hx hb dX5_init_41 rfl (lv_at hl 0 rfl) ?_
  refine lv_iconst (v := (-1)) hx hb dX5_init_42 (by decide) ?_
  refine va_iast hx hb hK hP hD hS 1 0 rfl htI (by unfold vp_in; decide) dX5_init_43 (fun H locs hP hD hS => ?_)
  have hP : va_P D vwCl [(h0, .inr (5, [.ref q1, .ref q2, .ref q3])), (q1, .inl (cI, 8, .inl (upd (upd (upd (upd (upd (upd (upd (fun _ => 0) 0 (-1)) 1 (-1)) 2 (-1)) 3 (-1)) 4 (-1)) 5 (-1)) 6 (-1)))), (q2, .inl (cI, 8, .inl (fun _ => 0))), (q3, .inl (cI, 320, .inl (fun _ => 0)))] H := hP
  have hD : va_D A [(h0, .inr (5, [.ref q1, .ref q2, .ref q3])), (q1, .inl (cI, 8, .inl (upd (upd (upd (upd (upd (upd (upd (fun _ => 0) 0 (-1)) 1 (-1)) 2 (-1)) 3 (-1)) 4 (-1)) 5 (-1)) 6 (-1)))), (q2, .inl (cI, 8, .inl (fun _ => 0))), (q3, .inl (cI, 320, .inl (fun _ => 0)))] := hD
  refine lv_iinc (v := 7) (lv' := [(1, .int 7), (0, .ref h0)]) hx hb dX5_init_44 hl (k := 0) rfl (by decide) (by decide) rfl (fun ls hl => ?_)
  refine lv_goto (tgt := 31) hx hb dX5_init_47 (by decide) ?_
  refine lv_iload_n hx hb dX5_init_31 rfl (lv_at hl 0 rfl) ?_
  refine lv_bipush (v := 8) hx hb dX5_init_32 (by decide) ?_
  refine lv_icmp_ge (tgt := 50) hx hb dX5_init_34 (by decide) (fun z => absurd z (by decide)) (fun _ => ?_)
  refine lv_aload_n hx hb dX5_init_37 rfl (lv_at hl 1 rfl) ?_
  refine va_get (D := D) (ci := 5) (v := .ref q1) (C := RX5) (T := TX5) (N := 3) hx hb hts inX5 hown hK hP 0 rfl rfl 0 (by decide) (hts _ wf_X5_11) (fun _ h9 => h9) rfl dX5_init_38 ?_
  refine lv_iload_n hx hb dX5_init_41 rfl (lv_at hl 0 rfl) ?_
  refine lv_iconst (v := (-1)) hx hb dX5_init_42 (by decide) ?_
  refine va_iast hx hb hK hP hD hS 1 0 rfl htI (by unfold vp_in; decide) dX5_init_43 (fun H locs hP hD hS => ?_)
  have hP : va_P D vwCl [(h0, .inr (5, [.ref q1, .ref q2, .ref q3])), (q1, .inl (cI, 8, .inl (upd (upd (upd (upd (upd (upd (upd (upd (fun _ => 0) 0 (-1)) 1 (-1)) 2 (-1)) 3 (-1)) 4 (-1)) 5 (-1)) 6 (-1)) 7 (-1)))), (q2, .inl (cI, 8, .inl (fun _ => 0))), (q3, .inl (cI, 320, .inl (fun _ => 0)))] H := hP
  have hD : va_D A [(h0, .inr (5, [.ref q1, .ref q2, .ref q3])), (q1, .inl (cI, 8, .inl (upd (upd (upd (upd (upd (upd (upd (upd (fun _ => 0) 0 (-1)) 1 (-1)) 2 (-1)) 3 (-1)) 4 (-1)) 5 (-1)) 6 (-1)) 7 (-1)))), (q2, .inl (cI, 8, .inl (fun _ => 0))), (q3, .inl (cI, 320, .inl (fun _ => 0)))] := hD
  refine lv_iinc (v := 8) (lv' := [(1, .int 8), (0, .ref h0)]) hx hb dX5_init_44 hl (k := 0) rfl (by decide) (by decide) rfl (fun ls hl => ?_)
  refine lv_goto (tgt := 31) hx hb dX5_init_47 (by decide) ?_
  refine lv_iload_n hx hb dX5_init_31 rfl (lv_at hl 0 rfl) ?_
  refine lv_bipush (v := 8) hx hb dX5_init_32 (by decide) ?_
  refine lv_icmp_ge (tgt := 50) hx hb dX5_init_34 (by decide) (fun _ => ?_) (fun z => absurd (by decide) z)
  refine W.widen (k := 3) (n := 336) (Nat.le_of_ble_eq_true rfl) (Nat.le_of_ble_eq_true rfl) ?_
  exact W.vret hx hb hr (fun t ht hW => ⟨⟨(), rfl, trivial, q1, q2, q3, (upd (upd (upd (upd (upd (upd (upd (upd (fun _ => 0) 0 (-1)) 1 (-1)) 2 (-1)) 3 (-1)) 4 (-1)) 5 (-1)) 6 (-1)) 7 (-1)), f8_all, by rw [ht]; exact hP, hD⟩, hS.F ht⟩) hS.2.2 dX5_init_50 hlocks

abbrev kX4_init : MI := (yX4_init, cX4_init, 1, none, 1, 20)
set_option maxHeartbeats 4000000 in
set_option maxRecDepth 100000 in
theorem n_X4 (l : Launch) (D : va_G) (tys : List (ClassId × FieldType)) (cI cZ cS : ClassId) (htI : tys[0]? = some (cI, .int)) (htZ : tys[1]? = some (cZ, .boolean)) (htS : tys[2]? = some (cS, .object RX6)) (h0 sz : Nat) : Met l yX4_init (wsK kX4_init) ({ frames := 1, cells := 1, slots := 400, locals := 20 }) (va_Pc [.ref h0] (fun U => U.heap.size = sz ∧ va_P D vwCl [(h0, .inr (4, [.null, .int 0, .int 0, .int 0, .int 0, .int 0, .int 0]))] U.heap ∧ va_K D vwCl tys U ∧ va_D (fun _ => True) [(h0, .inr (4, [.null, .int 0, .int 0, .int 0, .int 0, .int 0, .int 0]))] ∧ NW U)) (va_Qv (fun _ : Unit => True) (fun _ t => ∃ (q1 : Nat), va_P D vwCl [(h0, .inr (4, [.ref q1, .int 0, .int 0, .int 0, .int 0, .int 0, .int 0])), (q1, .inl (cI, 400, .inl (fun _ => 0)))] t.heap ∧ va_D (va_A [(h0, .inr (4, [.null, .int 0, .int 0, .int 0, .int 0, .int 0, .int 0]))] sz) [(h0, .inr (4, [.ref q1, .int 0, .int 0, .int 0, .int 0, .int 0, .int 0])), (q1, .inl (cI, 400, .inl (fun _ => 0)))]) (va_A [(h0, .inr (4, [.null, .int 0, .int 0, .int 0, .int 0, .int 0, .int 0]))] sz)) 1 400 (va_A [(h0, .inr (4, [.null, .int 0, .int 0, .int 0, .int 0, .int 0, .int 0]))] sz) := by
  refine Met.ofW (cc := cX4_init) (maxL := 1) (ret := none) (by decide +kernel) rfl ?_
  intro p e s m args below meth c s₁ B hml hv
  obtain ⟨rfl, hsz, hP, hK, hD0, hN⟩ := hv
  have hx := B.exec
  have hb := B.bytes
  have hr := B.returns
  have hts : ∀ w ∈ GW, w.before #[Value.ref h0] s = true := fun w hw => atoms_spec (ws := wsK kX4_init) B.pre w (List.mem_cons_of_mem _ hw)
  have hown : s.vm.findClass RX4 = some m.cls := findClass_of_methodNamed B.named
  have hlocks := B.notSynchronized
  have hin : meth.name = "<init>" := (name_of_methodNamed B.named B.method).1
  subst hsz
  have hD := hD0.self (sz := s.heap.size)
  generalize hAe : va_A [(h0, .inr (4, [.null, .int 0, .int 0, .int 0, .int 0, .int 0, .int 0]))] s.heap.size = A at hD ⊢
  have hA : ∀ q : Nat, s.heap.size ≤ q → A q := fun q h => by rw [← hAe]; exact Or.inr h
  have hS : va_S A s.heap s.heap [] := va_S.rf
  have hP : va_P D vwCl [(h0, .inr (4, [.null, .int 0, .int 0, .int 0, .int 0, .int 0, .int 0]))] s.heap := hP
  have hl := lv_entry ([.ref h0]) (n := 1) (Nat.le_of_ble_eq_true rfl)
  rw [lg_entry_eq]
  generalize (lg_sl ([.ref h0]) ++ List.replicate (1 - (lg_sl ([.ref h0])).length) Slot.unset).toArray = ls at hl ⊢
  have hl : lv_has ls 1 [(0, .ref h0)] := hl
  refine lv_aload_n hx hb dX4_init_0 rfl (lv_at hl 0 rfl) ?_
  refine W.objInit hx hb hown (hts _ wm_X4_1) (hts _ wi_objectInit) (hts _ wo_objectInit) rfl (by rw [hml]; exact hl.1) rfl dX4_init_1 (Nat.le_of_ble_eq_true rfl) (Nat.le_of_ble_eq_true rfl) ?_
  refine W.eq (g2 := F0 m 4 ls []) rfl ?_
  refine lv_aload_n hx hb dX4_init_4 rfl (lv_at hl 0 rfl) ?_
  refine lv_sipush (v := 400) hx hb dX4_init_5 (by decide) ?_
  refine cn_newI hx hb (hts _ wa_int) hK hP hD hS hA htI (by decide) (N' := 400) (by decide) (by decide) (Nat.le_of_ble_eq_true rfl) (Nat.le_of_ble_eq_true rfl) dX4_init_8 (fun q1 H hP hD hS => ?_)
  have hP : va_P D vwCl [(h0, .inr (4, [.null, .int 0, .int 0, .int 0, .int 0, .int 0, .int 0])), (q1, .inl (cI, 400, .inl (fun _ => 0)))] H := hP
  have hD : va_D A [(h0, .inr (4, [.null, .int 0, .int 0, .int 0, .int 0, .int 0, .int 0])), (q1, .inl (cI, 400, .inl (fun _ => 0)))] := hD
  refine va_putF (D := D) (ci := 4) (v := .ref q1) (ty := .array .int) (C := RX4) (T := TX4) (N := 7) hx hb hts inX4 tyX4 tyX4_ok nmX4 hown hK hP hD hS 0 rfl rfl 0 (by decide) (hts _ wf_X4_9) (fun _ h9 => h9) rfl hin rfl (by decide +kernel) rfl rfl (Nat.le_of_ble_eq_true rfl) dX4_init_10 (fun H locs hP hD hS => ?_)
  have hP : va_P D vwCl [(h0, .inr (4, [.ref q1, .int 0, .int 0, .int 0, .int 0, .int 0, .int 0])), (q1, .inl (cI, 400, .inl (fun _ => 0)))] H := hP
  have hD : va_D A [(h0, .inr (4, [.ref q1, .int 0, .int 0, .int 0, .int 0, .int 0, .int 0])), (q1, .inl (cI, 400, .inl (fun _ => 0)))] := hD
  refine W.widen (k := 1) (n := 400) (Nat.le_of_ble_eq_true rfl) (Nat.le_of_ble_eq_true rfl) ?_
  exact W.vret hx hb hr (fun t ht hW => ⟨⟨(), rfl, trivial, q1, by rw [ht]; exact hP, hD⟩, hS.F ht⟩) hS.2.2 dX4_init_13 hlocks

abbrev kX6_init : MI := (yX6_init, cX6_init, 1, none, 1, 20)
set_option maxHeartbeats 4000000 in
set_option maxRecDepth 100000 in
theorem n_X6 (l : Launch) (D : va_G) (tys : List (ClassId × FieldType)) (cI cZ cS : ClassId) (htI : tys[0]? = some (cI, .int)) (htZ : tys[1]? = some (cZ, .boolean)) (htS : tys[2]? = some (cS, .object RX6)) (h0 sz : Nat) : Met l yX6_init (wsK kX6_init) ({ frames := 1, cells := 7, slots := 78, locals := 20 }) (va_Pc [.ref h0] (fun U => U.heap.size = sz ∧ va_P D vwCl [(h0, .inr (6, [.int 0, .int 0, .null, .null, .null, .null, .null, .null, .null]))] U.heap ∧ va_K D vwCl tys U ∧ va_D (fun _ => True) [(h0, .inr (6, [.int 0, .int 0, .null, .null, .null, .null, .null, .null, .null]))] ∧ NW U)) (va_Qv (fun _ : Unit => True) (fun _ t => ∃ (q1 : Nat) (q2 : Nat) (q3 : Nat) (q4 : Nat) (q5 : Nat) (q6 : Nat) (q7 : Nat), va_P D vwCl [(h0, .inr (6, [.int 0, .int 0, .ref q1, .ref q2, .ref q3, .ref q4, .ref q5, .ref q6, .ref q7])), (q1, .inl (cI, 18, .inl (fun _ => 0))), (q2, .inl (cI, 18, .inl (fun _ => 0))), (q3, .inl (cI, 18, .inl (fun _ => 0))), (q4, .inl (cI, 6, .inl (fun _ => 0))), (q5, .inl (cI, 6, .inl (fun _ => 0))), (q6, .inl (cI, 6, .inl (fun _ => 0))), (q7, .inl (cI, 6, .inl (fun _ => 0)))] t.heap ∧ va_D (va_A [(h0, .inr (6, [.int 0, .int 0, .null, .null, .null, .null, .null, .null, .null]))] sz) [(h0, .inr (6, [.int 0, .int 0, .ref q1, .ref q2, .ref q3, .ref q4, .ref q5, .ref q6, .ref q7])), (q1, .inl (cI, 18, .inl (fun _ => 0))), (q2, .inl (cI, 18, .inl (fun _ => 0))), (q3, .inl (cI, 18, .inl (fun _ => 0))), (q4, .inl (cI, 6, .inl (fun _ => 0))), (q5, .inl (cI, 6, .inl (fun _ => 0))), (q6, .inl (cI, 6, .inl (fun _ => 0))), (q7, .inl (cI, 6, .inl (fun _ => 0)))]) (va_A [(h0, .inr (6, [.int 0, .int 0, .null, .null, .null, .null, .null, .null, .null]))] sz)) 7 78 (va_A [(h0, .inr (6, [.int 0, .int 0, .null, .null, .null, .null, .null, .null, .null]))] sz) := by
  refine Met.ofW (cc := cX6_init) (maxL := 1) (ret := none) (by decide +kernel) rfl ?_
  intro p e s m args below meth c s₁ B hml hv
  obtain ⟨rfl, hsz, hP, hK, hD0, hN⟩ := hv
  have hx := B.exec
  have hb := B.bytes
  have hr := B.returns
  have hts : ∀ w ∈ GW, w.before #[Value.ref h0] s = true := fun w hw => atoms_spec (ws := wsK kX6_init) B.pre w (List.mem_cons_of_mem _ hw)
  have hown : s.vm.findClass RX6 = some m.cls := findClass_of_methodNamed B.named
  have hlocks := B.notSynchronized
  have hin : meth.name = "<init>" := (name_of_methodNamed B.named B.method).1
  subst hsz
  have hD := hD0.self (sz := s.heap.size)
  generalize hAe : va_A [(h0, .inr (6, [.int 0, .int 0, .null, .null, .null, .null, .null, .null, .null]))] s.heap.size = A at hD ⊢
  have hA : ∀ q : Nat, s.heap.size ≤ q → A q := fun q h => by rw [← hAe]; exact Or.inr h
  have hS : va_S A s.heap s.heap [] := va_S.rf
  have hP : va_P D vwCl [(h0, .inr (6, [.int 0, .int 0, .null, .null, .null, .null, .null, .null, .null]))] s.heap := hP
  have hl := lv_entry ([.ref h0]) (n := 1) (Nat.le_of_ble_eq_true rfl)
  rw [lg_entry_eq]
  generalize (lg_sl ([.ref h0]) ++ List.replicate (1 - (lg_sl ([.ref h0])).length) Slot.unset).toArray = ls at hl ⊢
  have hl : lv_has ls 1 [(0, .ref h0)] := hl
  refine lv_aload_n hx hb dX6_init_0 rfl (lv_at hl 0 rfl) ?_
  refine W.objInit hx hb hown (hts _ wm_X6_1) (hts _ wi_objectInit) (hts _ wo_objectInit) rfl (by rw [hml]; exact hl.1) rfl dX6_init_1 (Nat.le_of_ble_eq_true rfl) (Nat.le_of_ble_eq_true rfl) ?_
  refine W.eq (g2 := F0 m 4 ls []) rfl ?_
  refine lv_aload_n hx hb dX6_init_4 rfl (lv_at hl 0 rfl) ?_
  refine lv_bipush (v := 18) hx hb dX6_init_5 (by decide) ?_
  refine cn_newI hx hb (hts _ wa_int) hK hP hD hS hA htI (by decide) (N' := 18) (by decide) (by decide) (Nat.le_of_ble_eq_true rfl) (Nat.le_of_ble_eq_true rfl) dX6_init_7 (fun q1 H hP hD hS => ?_)
  have hP : va_P D vwCl [(h0, .inr (6, [.int 0, .int 0, .null, .null, .null, .null, .null, .null, .null])), (q1, .inl (cI, 18, .inl (fun _ => 0)))] H := hP
  have hD : va_D A [(h0, .inr (6, [.int 0, .int 0, .null, .null, .null, .null, .null, .null, .null])), (q1, .inl (cI, 18, .inl (fun _ => 0)))] := hD
  refine va_putF (D := D) (ci := 6) (v := .ref q1) (ty := .array .int) (C := RX6) (T := TX6) (N := 9) hx hb hts inX6 tyX6 tyX6_ok nmX6 hown hK hP hD hS 0 rfl rfl 2 (by decide) (hts _ wf_X6_9) (fun _ h9 => h9) rfl hin rfl (by decide +kernel) rfl rfl (Nat.le_of_ble_eq_true rfl) dX6_init_9 (fun H locs hP hD hS => ?_)
  have hP : va_P D vwCl [(h0, .inr (6, [.int 0, .int 0, .ref q1, .null, .null, .null, .null, .null, .null])), (q1, .inl (cI, 18, .inl (fun _ => 0)))] H := hP
  have hD : va_D A [(h0, .inr (6, [.int 0, .int 0, .ref q1, .null, .null, .null, .null, .null, .null])), (q1, .inl (cI, 18, .inl (fun _ => 0)))] := hD
  refine lv_aload_n hx hb dX6_init_12 rfl (lv_at hl 0 rfl) ?_
  refine lv_bipush (v := 18) hx hb dX6_init_13 (by decide) ?_
  refine cn_newI hx hb (hts _ wa_int) hK hP hD hS hA htI (by decide) (N' := 18) (by decide) (by decide) (Nat.le_of_ble_eq_true rfl) (Nat.le_of_ble_eq_true rfl) dX6_init_15 (fun q2 H hP hD hS => ?_)
  have hP : va_P D vwCl [(h0, .inr (6, [.int 0, .int 0, .ref q1, .null, .null, .null, .null, .null, .null])), (q1, .inl (cI, 18, .inl (fun _ => 0))), (q2, .inl (cI, 18, .inl (fun _ => 0)))] H := hP
  have hD : va_D A [(h0, .inr (6, [.int 0, .int 0, .ref q1, .null, .null, .null, .null, .null, .null])), (q1, .inl (cI, 18, .inl (fun _ => 0))), (q2, .inl (cI, 18, .inl (fun _ => 0)))] := hD
  refine va_putF (D := D) (ci := 6) (v := .ref q2) (ty := .array .int) (C := RX6) (T := TX6) (N := 9) hx hb hts inX6 tyX6 tyX6_ok nmX6 hown hK hP hD hS 0 rfl rfl 3 (by decide) (hts _ wf_X6_13) (fun _ h9 => h9) rfl hin rfl (by decide +kernel) rfl rfl (Nat.le_of_ble_eq_true rfl) dX6_init_17 (fun H locs hP hD hS => ?_)
  have hP : va_P D vwCl [(h0, .inr (6, [.int 0, .int 0, .ref q1, .ref q2, .null, .null, .null, .null, .null])), (q1, .inl (cI, 18, .inl (fun _ => 0))), (q2, .inl (cI, 18, .inl (fun _ => 0)))] H := hP
  have hD : va_D A [(h0, .inr (6, [.int 0, .int 0, .ref q1, .ref q2, .null, .null, .null, .null, .null])), (q1, .inl (cI, 18, .inl (fun _ => 0))), (q2, .inl (cI, 18, .inl (fun _ => 0)))] := hD
  refine lv_aload_n hx hb dX6_init_20 rfl (lv_at hl 0 rfl) ?_
  refine lv_bipush (v := 18) hx hb dX6_init_21 (by decide) ?_
  refine cn_newI hx hb (hts _ wa_int) hK hP hD hS hA htI (by decide) (N' := 18) (by decide) (by decide) (Nat.le_of_ble_eq_true rfl) (Nat.le_of_ble_eq_true rfl) dX6_init_23 (fun q3 H hP hD hS => ?_)
  have hP : va_P D vwCl [(h0, .inr (6, [.int 0, .int 0, .ref q1, .ref q2, .null, .null, .null, .null, .null])), (q1, .inl (cI, 18, .inl (fun _ => 0))), (q2, .inl (cI, 18, .inl (fun _ => 0))), (q3, .inl (cI, 18, .inl (fun _ => 0)))] H := hP
  have hD : va_D A [(h0, .inr (6, [.int 0, .int 0, .ref q1, .ref q2, .null, .null, .null, .null, .null])), (q1, .inl (cI, 18, .inl (fun _ => 0))), (q2, .inl (cI, 18, .inl (fun _ => 0))), (q3, .inl (cI, 18, .inl (fun _ => 0)))] := hD
  refine va_putF (D := D) (ci := 6) (v := .ref q3) (ty := .array .int) (C := RX6) (T := TX6) (N := 9) hx hb hts inX6 tyX6 tyX6_ok nmX6 hown hK hP hD hS 0 rfl rfl 4 (by decide) (hts _ wf_X6_16) (fun _ h9 => h9) rfl hin rfl (by decide +kernel) rfl rfl (Nat.le_of_ble_eq_true rfl) dX6_init_25 (fun H locs hP hD hS => ?_)
  have hP : va_P D vwCl [(h0, .inr (6, [.int 0, .int 0, .ref q1, .ref q2, .ref q3, .null, .null, .null, .null])), (q1, .inl (cI, 18, .inl (fun _ => 0))), (q2, .inl (cI, 18, .inl (fun _ => 0))), (q3, .inl (cI, 18, .inl (fun _ => 0)))] H := hP
  have hD : va_D A [(h0, .inr (6, [.int 0, .int 0, .ref q1, .ref q2, .ref q3, .null, .null, .null, .null])), (q1, .inl (cI, 18, .inl (fun _ => 0))), (q2, .inl (cI, 18, .inl (fun _ => 0))), (q3, .inl (cI, 18, .inl (fun _ => 0)))] := hD
  refine lv_aload_n hx hb dX6_init_28 rfl (lv_at hl 0 rfl) ?_
  refine lv_bipush (v := 6) hx hb dX6_init_29 (by decide) ?_
  refine cn_newI hx hb (hts _ wa_int) hK hP hD hS hA htI (by decide) (N' := 6) (by decide) (by decide) (Nat.le_of_ble_eq_true rfl) (Nat.le_of_ble_eq_true rfl) dX6_init_31 (fun q4 H hP hD hS => ?_)
  have hP : va_P D vwCl [(h0, .inr (6, [.int 0, .int 0, .ref q1, .ref q2, .ref q3, .null, .null, .null, .null])), (q1, .inl (cI, 18, .inl (fun _ => 0))), (q2, .inl (cI, 18, .inl (fun _ => 0))), (q3, .inl (cI, 18, .inl (fun _ => 0))), (q4, .inl (cI, 6, .inl (fun _ => 0)))] H := hP
  have hD : va_D A [(h0, .inr (6, [.int 0, .int 0, .ref q1, .ref q2, .ref q3, .null, .null, .null, .null])), (q1, .inl (cI, 18, .inl (fun _ => 0))), (q2, .inl (cI, 18, .inl (fun _ => 0))), (q3, .inl (cI, 18, .inl (fun _ => 0))), (q4, .inl (cI, 6, .inl (fun _ => 0)))] := hD
  refine va_putF (D := D) (ci := 6) (v := .ref q4) (ty := .array .int) (C := RX6) (T := TX6) (N := 9) hx hb hts inX6 tyX6 tyX6_ok nmX6 hown hK hP hD hS 0 rfl rfl 5 (by decide) (hts _ wf_X6_19) (fun _ h9 => h9) rfl hin rfl (by decide +kernel) rfl rfl (Nat.le_of_ble_eq_true rfl) dX6_init_33 (fun H locs hP hD hS => ?_)
  have hP : va_P D vwCl [(h0, .inr (6, [.int 0, .int 0, .ref q1, .ref q2, .ref q3, .ref q4, .null, .null, .null])), (q1, .inl (cI, 18, .inl (fun _ => 0))), (q2, .inl (cI, 18, .inl (fun _ => 0))), (q3, .inl (cI, 18, .inl (fun _ => 0))), (q4, .inl (cI, 6, .inl (fun _ => 0)))] H := hP
  have hD : va_D A [(h0, .inr (6, [.int 0, .int 0, .ref q1, .ref q2, .ref q3, .ref q4, .null, .null, .null])), (q1, .inl (cI, 18, .inl (fun _ => 0))), (q2, .inl (cI, 18, .inl (fun _ => 0))), (q3, .inl (cI, 18, .inl (fun _ => 0))), (q4, .inl (cI, 6, .inl (fun _ => 0)))] := hD
  refine lv_aload_n hx hb dX6_init_36 rfl (lv_at hl 0 rfl) ?_
  refine lv_bipush (v := 6) hx hb dX6_init_37 (by decide) ?_
  refine cn_newI hx hb (hts _ wa_int) hK hP hD hS hA htI (by decide) (N' := 6) (by decide) (by decide) (Nat.le_of_ble_eq_true rfl) (Nat.le_of_ble_eq_true rfl) dX6_init_39 (fun q5 H hP hD hS => ?_)
  have hP : va_P D vwCl [(h0, .inr (6, [.int 0, .int 0, .ref q1, .ref q2, .ref q3, .ref q4, .null, .null, .null])), (q1, .inl (cI, 18, .inl (fun _ => 0))), (q2, .inl (cI, 18, .inl (fun _ => 0))), (q3, .inl (cI, 18, .inl (fun _ => 0))), (q4, .inl (cI, 6, .inl (fun _ => 0))), (q5, .inl (cI, 6, .inl (fun _ => 0)))] H := hP
  have hD : va_D A [(h0, .inr (6, [.int 0, .int 0, .ref q1, .ref q2, .ref q3, .ref q4, .null, .null, .null])), (q1, .inl (cI, 18, .inl (fun _ => 0))), (q2, .inl (cI, 18, .inl (fun _ => 0))), (q3, .inl (cI, 18, .inl (fun _ => 0))), (q4, .inl (cI, 6, .inl (fun _ => 0))), (q5, .inl (cI, 6, .inl (fun _ => 0)))] := hD
  refine va_putF (D := D) (ci := 6) (v := .ref q5) (ty := .array .int) (C := RX6) (T := TX6) (N := 9) hx hb hts inX6 tyX6 tyX6_ok nmX6 hown hK hP hD hS 0 rfl rfl 6 (by decide) (hts _ wf_X6_22) (fun _ h9 => h9) rfl hin rfl (by decide +kernel) rfl rfl (Nat.le_of_ble_eq_true rfl) dX6_init_41 (fun H locs hP hD hS => ?_)
  have hP : va_P D vwCl [(h0, .inr (6, [.int 0, .int 0, .ref q1, .ref q2, .ref q3, .ref q4, .ref q5, .null, .null])), (q1, .inl (cI, 18, .inl (fun _ => 0))), (q2, .inl (cI, 18, .inl (fun _ => 0))), (q3, .inl (cI, 18, .inl (fun _ => 0))), (q4, .inl (cI, 6, .inl (fun _ => 0))), (q5, .inl (cI, 6, .inl (fun _ => 0)))] H := hP
  have hD : va_D A [(h0, .inr (6, [.int 0, .int 0, .ref q1, .ref q2, .ref q3, .ref q4, .ref q5, .null, .null])), (q1, .inl (cI, 18, .inl (fun _ => 0))), (q2, .inl (cI, 18, .inl (fun _ => 0))), (q3, .inl (cI, 18, .inl (fun _ => 0))), (q4, .inl (cI, 6, .inl (fun _ => 0))), (q5, .inl (cI, 6, .inl (fun _ => 0)))] := hD
  refine lv_aload_n hx hb dX6_init_44 rfl (lv_at hl 0 rfl) ?_
  refine lv_bipush (v := 6) hx hb dX6_init_45 (by decide) ?_
  refine cn_newI hx hb (hts _ wa_int) hK hP hD hS hA htI (by decide) (N' := 6) (by decide) (by decide) (Nat.le_of_ble_eq_true rfl) (Nat.le_of_ble_eq_true rfl) dX6_init_47 (fun q6 H hP hD hS => ?_)
  have hP : va_P D vwCl [(h0, .inr (6, [.int 0, .int 0, .ref q1, .ref q2, .ref q3, .ref q4, .ref q5, .null, .null])), (q1, .inl (cI, 18, .inl (fun _ => 0))), (q2, .inl (cI, 18, .inl (fun _ => 0))), (q3, .inl (cI, 18, .inl (fun _ => 0))), (q4, .inl (cI, 6, .inl (fun _ => 0))), (q5, .inl (cI, 6, .inl (fun _ => 0))), (q6, .inl (cI, 6, .inl (fun _ => 0)))] H := hP
  have hD : va_D A [(h0, .inr (6, [.int 0, .int 0, .ref q1, .ref q2, .ref q3, .ref q4, .ref q5, .null, .null])), (q1, .inl (cI, 18, .inl (fun _ => 0))), (q2, .inl (cI, 18, .inl (fun _ => 0))), (q3, .inl (cI, 18, .inl (fun _ => 0))), (q4, .inl (cI, 6, .inl (fun _ => 0))), (q5, .inl (cI, 6, .inl (fun _ => 0))), (q6, .inl (cI, 6, .inl (fun _ => 0)))] := hD
  refine va_putF (D := D) (ci := 6) (v := .ref q6) (ty := .array .int) (C := RX6) (T := TX6) (N := 9) hx hb hts inX6 tyX6 tyX6_ok nmX6 hown hK hP hD hS 0 rfl rfl 7 (by decide) (hts _ wf_X6_25) (fun _ h9 => h9) rfl hin rfl (by decide +kernel) rfl rfl (Nat.le_of_ble_eq_true rfl) dX6_init_49 (fun H locs hP hD hS => ?_)
  have hP : va_P D vwCl [(h0, .inr (6, [.int 0, .int 0, .ref q1, .ref q2, .ref q3, .ref q4, .ref q5, .ref q6, .null])), (q1, .inl (cI, 18, .inl (fun _ => 0))), (q2, .inl (cI, 18, .inl (fun _ => 0))), (q3, .inl (cI, 18, .inl (fun _ => 0))), (q4, .inl (cI, 6, .inl (fun _ => 0))), (q5, .inl (cI, 6, .inl (fun _ => 0))), (q6, .inl (cI, 6, .inl (fun _ => 0)))] H := hP
  have hD : va_D A [(h0, .inr (6, [.int 0, .int 0, .ref q1, .ref q2, .ref q3, .ref q4, .ref q5, .ref q6, .null])), (q1, .inl (cI, 18, .inl (fun _ => 0))), (q2, .inl (cI, 18, .inl (fun _ => 0))), (q3, .inl (cI, 18, .inl (fun _ => 0))), (q4, .inl (cI, 6, .inl (fun _ => 0))), (q5, .inl (cI, 6, .inl (fun _ => 0))), (q6, .inl (cI, 6, .inl (fun _ => 0)))] := hD
  refine lv_aload_n hx hb dX6_init_52 rfl (lv_at hl 0 rfl) ?_
  refine lv_bipush (v := 6) hx hb dX6_init_53 (by decide) ?_
  refine cn_newI hx hb (hts _ wa_int) hK hP hD hS hA htI (by decide) (N' := 6) (by decide) (by decide) (Nat.le_of_ble_eq_true rfl) (Nat.le_of_ble_eq_true rfl) dX6_init_55 (fun q7 H hP hD hS => ?_)
  have hP : va_P D vwCl [(h0, .inr (6, [.int 0, .int 0, .ref q1, .ref q2, .ref q3, .ref q4, .ref q5, .ref q6, .null])), (q1, .inl (cI, 18, .inl (fun _ => 0))), (q2, .inl (cI, 18, .inl (fun _ => 0))), (q3, .inl (cI, 18, .inl (fun _ => 0))), (q4, .inl (cI, 6, .inl (fun _ => 0))), (q5, .inl (cI, 6, .inl (fun _ => 0))), (q6, .inl (cI, 6, .inl (fun _ => 0))), (q7, .inl (cI, 6, .inl (fun _ => 0)))] H := hP
  have hD : va_D A [(h0, .inr (6, [.int 0, .int 0, .ref q1, .ref q2, .ref q3, .ref q4, .ref q5, .ref q6, .null])), (q1, .inl (cI, 18, .inl (fun _ => 0))), (q2, .inl (cI, 18, .inl (fun _ => 0))), (q3, .inl (cI, 18, .inl (fun _ => 0))), (q4, .inl (cI, 6, .inl (fun _ => 0))), (q5, .inl (cI, 6, .inl (fun _ => 0))), (q6, .inl (cI, 6, .inl (fun _ => 0))), (q7, .inl (cI, 6, .inl (fun _ => 0)))] := hD
  refine va_putF (D := D) (ci := 6) (v := .ref q7) (ty := .array .int) (C := RX6) (T := TX6) (N := 9) hx hb hts inX6 tyX6 tyX6_ok nmX6 hown hK hP hD hS 0 rfl rfl 8 (by decide) (hts _ wf_X6_28) (fun _ h9 => h9) rfl hin rfl (by decide +kernel) rfl rfl (Nat.le_of_ble_eq_true rfl) dX6_init_57 (fun H locs hP hD hS => ?_)
  have hP : va_P D vwCl [(h0, .inr (6, [.int 0, .int 0, .ref q1, .ref q2, .ref q3, .ref q4, .ref q5, .ref q6, .ref q7])), (q1, .inl (cI, 18, .inl (fun _ => 0))), (q2, .inl (cI, 18, .inl (fun _ => 0))), (q3, .inl (cI, 18, .inl (fun _ => 0))), (q4, .inl (cI, 6, .inl (fun _ => 0))), (q5, .inl (cI, 6, .inl (fun _ => 0))), (q6, .inl (cI, 6, .inl (fun _ => 0))), (q7, .inl (cI, 6, .inl (fun _ => 0)))] H := hP
  have hD : va_D A [(h0, .inr (6, [.int 0, .int 0, .ref q1, .ref q2, .ref q3, .ref q4, .ref q5, .ref q6, .ref q7])), (q1, .inl (cI, 18, .inl (fun _ => 0))), (q2, .inl (cI, 18, .inl (fun _ => 0))), (q3, .inl (cI, 18, .inl (fun _ => 0))), (q4, .inl (cI, 6, .inl (fun _ => 0))), (q5, .inl (cI, 6, .inl (fun _ => 0))), (q6, .inl (cI, 6, .inl (fun _ => 0))), (q7, .inl (cI, 6, .inl (fun _ => 0)))] := hD
  refine W.widen (k := 7) (n := 78) (Nat.le_of_ble_eq_true rfl) (Nat.le_of_ble_eq_true rfl) ?_
  exact W.vret hx hb hr (fun t ht hW => ⟨⟨(), rfl, trivial, q1, q2, q3, q4, q5, q6, q7, by rw [ht]; exact hP, hD⟩, hS.F ht⟩) hS.2.2 dX6_init_60 hlocks

abbrev kX0_init : MI := (yX0_init, cX0_init, 1, none, 1, 20)
set_option maxHeartbeats 4000000 in
set_option maxRecDepth 100000 in
theorem n_X0 (l : Launch) (D : va_G) (tys : List (ClassId × FieldType)) (cI cZ cS : ClassId) (htI : tys[0]? = some (cI, .int)) (htZ : tys[1]? = some (cZ, .boolean)) (htS : tys[2]? = some (cS, .object RX6)) (h0 sz : Nat) : Met l yX0_init (wsK kX0_init) ({ frames := 1, cells := 3, slots := 72, locals := 20 }) (va_Pc [.ref h0] (fun U => U.heap.size = sz ∧ va_P D vwCl [(h0, .inr (0, [.null, .null, .null, .int 0]))] U.heap ∧ va_K D vwCl tys U ∧ va_D (fun _ => True) [(h0, .inr (0, [.null, .null, .null, .int 0]))] ∧ NW U)) (va_Qv (fun _ : Unit => True) (fun _ t => ∃ (q1 : Nat) (q2 : Nat) (q3 : Nat), va_P D vwCl [(h0, .inr (0, [.ref q1, .ref q2, .ref q3, .int 0])), (q1, .inl (cI, 24, .inl (fun _ => 0))), (q2, .inl (cI, 24, .inl (fun _ => 0))), (q3, .inl (cI, 24, .inl (fun _ => 0)))] t.heap ∧ va_D (va_A [(h0, .inr (0, [.null, .null, .null, .int 0]))] sz) [(h0, .inr (0, [.ref q1, .ref q2, .ref q3, .int 0])), (q1, .inl (cI, 24, .inl (fun _ => 0))), (q2, .inl (cI, 24, .inl (fun _ => 0))), (q3, .inl (cI, 24, .inl (fun _ => 0)))]) (va_A [(h0, .inr (0, [.null, .null, .null, .int 0]))] sz)) 3 72 (va_A [(h0, .inr (0, [.null, .null, .null, .int 0]))] sz) := by
  refine Met.ofW (cc := cX0_init) (maxL := 1) (ret := none) (by decide +kernel) rfl ?_
  intro p e s m args below meth c s₁ B hml hv
  obtain ⟨rfl, hsz, hP, hK, hD0, hN⟩ := hv
  have hx := B.exec
  have hb := B.bytes
  have hr := B.returns
  have hts : ∀ w ∈ GW, w.before #[Value.ref h0] s = true := fun w hw => atoms_spec (ws := wsK kX0_init) B.pre w (List.mem_cons_of_mem _ hw)
  have hown : s.vm.findClass RX0 = some m.cls := findClass_of_methodNamed B.named
  have hlocks := B.notSynchronized
  have hin : meth.name = "<init>" := (name_of_methodNamed B.named B.method).1
  subst hsz
  have hD := hD0.self (sz := s.heap.size)
  generalize hAe : va_A [(h0, .inr (0, [.null, .null, .null, .int 0]))] s.heap.size = A at hD ⊢
  have hA : ∀ q : Nat, s.heap.size ≤ q → A q := fun q h => by rw [← hAe]; exact Or.inr h
  have hS : va_S A s.heap s.heap [] := va_S.rf
  have hP : va_P D vwCl [(h0, .inr (0, [.null, .null, .null, .int 0]))] s.heap := hP
  have hl := lv_entry ([.ref h0]) (n := 1) (Nat.le_of_ble_eq_true rfl)
  rw [lg_entry_eq]
  generalize (lg_sl ([.ref h0]) ++ List.replicate (1 - (lg_sl ([.ref h0])).length) Slot.unset).toArray = ls at hl ⊢
  have hl : lv_has ls 1 [(0, .ref h0)] := hl
  refine lv_aload_n hx hb dX0_init_0 rfl (lv_at hl 0 rfl) ?_
  refine W.objInit hx hb hown (hts _ wm_X0_3) (hts _ wi_objectInit) (hts _ wo_objectInit) rfl (by rw [hml]; exact hl.1) rfl dX0_init_1 (Nat.le_of_ble_eq_true rfl) (Nat.le_of_ble_eq_true rfl) ?_
  refine W.eq (g2 := F0 m 4 ls []) rfl ?_
  refine lv_aload_n hx hb dX0_init_4 rfl (lv_at hl 0 rfl) ?_
  refine lv_bipush (v := 24) hx hb dX0_init_5 (by decide) ?_
  refine cn_newI hx hb (hts _ wa_int) hK hP hD hS hA htI (by decide) (N' := 24) (by decide) (by decide) (Nat.le_of_ble_eq_true rfl) (Nat.le_of_ble_eq_true rfl) dX0_init_7 (fun q1 H hP hD hS => ?_)
  have hP : va_P D vwCl [(h0, .inr (0, [.null, .null, .null, .int 0])), (q1, .inl (cI, 24, .inl (fun _ => 0)))] H := hP
  have hD : va_D A [(h0, .inr (0, [.null, .null, .null, .int 0])), (q1, .inl (cI, 24, .inl (fun _ => 0)))] := hD
  refine va_putF (D := D) (ci := 0) (v := .ref q1) (ty := .array .int) (C := RX0) (T := TX0) (N := 4) hx hb hts inX0 tyX0 tyX0_ok nmX0 hown hK hP hD hS 0 rfl rfl 0 (by decide) (hts _ wf_X0_11) (fun _ h9 => h9) rfl hin rfl (by decide +kernel) rfl rfl (Nat.le_of_ble_eq_true rfl) dX0_init_9 (fun H locs hP hD hS => ?_)
  have hP : va_P D vwCl [(h0, .inr (0, [.ref q1, .null, .null, .int 0])), (q1, .inl (cI, 24, .inl (fun _ => 0)))] H := hP
  have hD : va_D A [(h0, .inr (0, [.ref q1, .null, .null, .int 0])), (q1, .inl (cI, 24, .inl (fun _ => 0)))] := hD
  refine lv_aload_n hx hb dX0_init_12 rfl (lv_at hl 0 rfl) ?_
  refine lv_bipush (v := 24) hx hb dX0_init_13 (by decide) ?_
  refine cn_newI hx hb (hts _ wa_int) hK hP hD hS hA htI (by decide) (N' := 24) (by decide) (by decide) (Nat.le_of_ble_eq_true rfl) (Nat.le_of_ble_eq_true rfl) dX0_init_15 (fun q2 H hP hD hS => ?_)
  have hP : va_P D vwCl [(h0, .inr (0, [.ref q1, .null, .null, .int 0])), (q1, .inl (cI, 24, .inl (fun _ => 0))), (q2, .inl (cI, 24, .inl (fun _ => 0)))] H := hP
  have hD : va_D A [(h0, .inr (0, [.ref q1, .null, .null, .int 0])), (q1, .inl (cI, 24, .inl (fun _ => 0))), (q2, .inl (cI, 24, .inl (fun _ => 0)))] := hD
  refine va_putF (D := D) (ci := 0) (v := .ref q2) (ty := .array .int) (C := RX0) (T := TX0) (N := 4) hx hb hts inX0 tyX0 tyX0_ok nmX0 hown hK hP hD hS 0 rfl rfl 1 (by decide) (hts _ wf_X0_15) (fun _ h9 => h9) rfl hin rfl (by decide +kernel) rfl rfl (Nat.le_of_ble_eq_true rfl) dX0_init_17 (fun H locs hP hD hS => ?_)
  have hP : va_P D vwCl [(h0, .inr (0, [.ref q1, .ref q2, .null, .int 0])), (q1, .inl (cI, 24, .inl (fun _ => 0))), (q2, .inl (cI, 24, .inl (fun _ => 0)))] H := hP
  have hD : va_D A [(h0, .inr (0, [.ref q1, .ref q2, .null, .int 0])), (q1, .inl (cI, 24, .inl (fun _ => 0))), (q2, .inl (cI, 24, .inl (fun _ => 0)))] := hD
  refine lv_aload_n hx hb dX0_init_20 rfl (lv_at hl 0 rfl) ?_
  refine lv_bipush (v := 24) hx hb dX0_init_21 (by decide) ?_
  refine cn_newI hx hb (hts _ wa_int) hK hP hD hS hA htI (by decide) (N' := 24) (by decide) (by decide) (Nat.le_of_ble_eq_true rfl) (Nat.le_of_ble_eq_true rfl) dX0_init_23 (fun q3 H hP hD hS => ?_)
  have hP : va_P D vwCl [(h0, .inr (0, [.ref q1, .ref q2, .null, .int 0])), (q1, .inl (cI, 24, .inl (fun _ => 0))), (q2, .inl (cI, 24, .inl (fun _ => 0))), (q3, .inl (cI, 24, .inl (fun _ => 0)))] H := hP
  have hD : va_D A [(h0, .inr (0, [.ref q1, .ref q2, .null, .int 0])), (q1, .inl (cI, 24, .inl (fun _ => 0))), (q2, .inl (cI, 24, .inl (fun _ => 0))), (q3, .inl (cI, 24, .inl (fun _ => 0)))] := hD
  refine va_putF (D := D) (ci := 0) (v := .ref q3) (ty := .array .int) (C := RX0) (T := TX0) (N := 4) hx hb hts inX0 tyX0 tyX0_ok nmX0 hown hK hP hD hS 0 rfl rfl 2 (by decide) (hts _ wf_X0_18) (fun _ h9 => h9) rfl hin rfl (by decide +kernel) rfl rfl (Nat.le_of_ble_eq_true rfl) dX0_init_25 (fun H locs hP hD hS => ?_)
  have hP : va_P D vwCl [(h0, .inr (0, [.ref q1, .ref q2, .ref q3, .int 0])), (q1, .inl (cI, 24, .inl (fun _ => 0))), (q2, .inl (cI, 24, .inl (fun _ => 0))), (q3, .inl (cI, 24, .inl (fun _ => 0)))] H := hP
  have hD : va_D A [(h0, .inr (0, [.ref q1, .ref q2, .ref q3, .int 0])), (q1, .inl (cI, 24, .inl (fun _ => 0))), (q2, .inl (cI, 24, .inl (fun _ => 0))), (q3, .inl (cI, 24, .inl (fun _ => 0)))] := hD
  refine W.widen (k := 3) (n := 72) (Nat.le_of_ble_eq_true rfl) (Nat.le_of_ble_eq_true rfl) ?_
  exact W.vret hx hb hr (fun t ht hW => ⟨⟨(), rfl, trivial, q1, q2, q3, by rw [ht]; exact hP, hD⟩, hS.F ht⟩) hS.2.2 dX0_init_28 hlocks

abbrev kX2_init : MI := (yX2_init, cX2_init, 1, none, 1, 20)
set_option maxHeartbeats 4000000 in
set_option maxRecDepth 100000 in
theorem n_X2 (l : Launch) (D : va_G) (tys : List (ClassId × FieldType)) (cI cZ cS : ClassId) (htI : tys[0]? = some (cI, .int)) (htZ : tys[1]? = some (cZ, .boolean)) (htS : tys[2]? = some (cS, .object RX6)) (h0 sz : Nat) : Met l yX2_init (wsK kX2_init) ({ frames := 1, cells := 3, slots := 58, locals := 20 }) (va_Pc [.ref h0] (fun U => U.heap.size = sz ∧ va_P D vwCl [(h0, .inr (2, [.null, .null, .null, .int 0]))] U.heap ∧ va_K D vwCl tys U ∧ va_D (fun _ => True) [(h0, .inr (2, [.null, .null, .null, .int 0]))] ∧ NW U)) (va_Qv (fun _ : Unit => True) (fun _ t => ∃ (q1 : Nat) (q2 : Nat) (q3 : Nat), va_P D vwCl [(h0, .inr (2, [.ref q1, .ref q2, .ref q3, .int 0])), (q1, .inl (cI, 20, .inl (fun _ => 0))), (q2, .inl (cI, 20, .inl (fun _ => 0))), (q3, .inl (cI, 18, .inl (fun _ => 0)))] t.heap ∧ va_D (va_A [(h0, .inr (2, [.null, .null, .null, .int 0]))] sz) [(h0, .inr (2, [.ref q1, .ref q2, .ref q3, .int 0])), (q1, .inl (cI, 20, .inl (fun _ => 0))), (q2, .inl (cI, 20, .inl (fun _ => 0))), (q3, .inl (cI, 18, .inl (fun _ => 0)))]) (va_A [(h0, .inr (2, [.null, .null, .null, .int 0]))] sz)) 3 58 (va_A [(h0, .inr (2, [.null, .null, .null, .int 0]))] sz) := by
  refine Met.ofW (cc := cX2_init) (maxL := 1) (ret := none) (by decide +kernel) rfl ?_
  intro p e s m args below meth c s₁ B hml hv
  obtain ⟨rfl, hsz, hP, hK, hD0, hN⟩ := hv
  have hx := B.exec
  have hb := B.bytes
  have hr := B.returns
  have hts : ∀ w ∈ GW, w.before #[Value.ref h0] s = true := fun w hw => atoms_spec (ws := wsK kX2_init) B.pre w (List.mem_cons_of_mem _ hw)
  have hown : s.vm.findClass RX2 = some m.cls := findClass_of_methodNamed B.named
  have hlocks := B.notSynchronized
  have hin : meth.name = "<init>" := (name_of_methodNamed B.named B.method).1
  subst hsz
  have hD := hD0.self (sz := s.heap.size)
  generalize hAe : va_A [(h0, .inr (2, [.null, .null, .null, .int 0]))] s.heap.size = A at hD ⊢
  have hA : ∀ q : Nat, s.heap.size ≤ q → A q := fun q h => by rw [← hAe]; exact Or.inr h
  have hS : va_S A s.heap s.heap [] := va_S.rf
  have hP : va_P D vwCl [(h0, .inr (2, [.null, .null, .null, .int 0]))] s.heap := hP
  have hl := lv_entry ([.ref h0]) (n := 1) (Nat.le_of_ble_eq_true rfl)
  rw [lg_entry_eq]
  generalize (lg_sl ([.ref h0]) ++ List.replicate (1 - (lg_sl ([.ref h0])).length) Slot.unset).toArray = ls at hl ⊢
  have hl : lv_has ls 1 [(0, .ref h0)] := hl
  refine lv_aload_n hx hb dX2_init_0 rfl (lv_at hl 0 rfl) ?_
  refine W.objInit hx hb hown (hts _ wm_X2_3) (hts _ wi_objectInit) (hts _ wo_objectInit) rfl (by rw [hml]; exact hl.1) rfl dX2_init_1 (Nat.le_of_ble_eq_true rfl) (Nat.le_of_ble_eq_true rfl) ?_
  refine W.eq (g2 := F0 m 4 ls []) rfl ?_
  refine lv_aload_n hx hb dX2_init_4 rfl (lv_at hl 0 rfl) ?_
  refine lv_bipush (v := 20) hx hb dX2_init_5 (by decide) ?_
  refine cn_newI hx hb (hts _ wa_int) hK hP hD hS hA htI (by decide) (N' := 20) (by decide) (by decide) (Nat.le_of_ble_eq_true rfl) (Nat.le_of_ble_eq_true rfl) dX2_init_7 (fun q1 H hP hD hS => ?_)
  have hP : va_P D vwCl [(h0, .inr (2, [.null, .null, .null, .int 0])), (q1, .inl (cI, 20, .inl (fun _ => 0)))] H := hP
  have hD : va_D A [(h0, .inr (2, [.null, .null, .null, .int 0])), (q1, .inl (cI, 20, .inl (fun _ => 0)))] := hD
  refine va_putF (D := D) (ci := 2) (v := .ref q1) (ty := .array .int) (C := RX2) (T := TX2) (N := 4) hx hb hts inX2 tyX2 tyX2_ok nmX2 hown hK hP hD hS 0 rfl rfl 0 (by decide) (hts _ wf_X2_11) (fun _ h9 => h9) rfl hin rfl (by decide +kernel) rfl rfl (Nat.le_of_ble_eq_true rfl) dX2_init_9 (fun H locs hP hD hS => ?_)
  have hP : va_P D vwCl [(h0, .inr (2, [.ref q1, .null, .null, .int 0])), (q1, .inl (cI, 20, .inl (fun _ => 0)))] H := hP
  have hD : va_D A [(h0, .inr (2, [.ref q1, .null, .null, .int 0])), (q1, .inl (cI, 20, .inl (fun _ => 0)))] := hD
  refine lv_aload_n hx hb dX2_init_12 rfl (lv_at hl 0 rfl) ?_
  refine lv_bipush (v := 20) hx hb dX2_init_13 (by decide) ?_
  refine cn_newI hx hb (hts _ wa_int) hK hP hD hS hA htI (by decide) (N' := 20) (by decide) (by decide) (Nat.le_of_ble_eq_true rfl) (Nat.le_of_ble_eq_true rfl) dX2_init_15 (fun q2 H hP hD hS => ?_)
  have hP : va_P D vwCl [(h0, .inr (2, [.ref q1, .null, .null, .int 0])), (q1, .inl (cI, 20, .inl (fun _ => 0))), (q2, .inl (cI, 20, .inl (fun _ => 0)))] H := hP
  have hD : va_D A [(h0, .inr (2, [.ref q1, .null, .null, .int 0])), (q1, .inl (cI, 20, .inl (fun _ => 0))), (q2, .inl (cI, 20, .inl (fun _ => 0)))] := hD
  refine va_putF (D := D) (ci := 2) (v := .ref q2) (ty := .array .int) (C := RX2) (T := TX2) (N := 4) hx hb hts inX2 tyX2 tyX2_ok nmX2 hown hK hP hD hS 0 rfl rfl 1 (by decide) (hts _ wf_X2_17) (fun _ h9 => h9) rfl hin rfl (by decide +kernel) rfl rfl (Nat.le_of_ble_eq_true rfl) dX2_init_17 (fun H locs hP hD hS => ?_)
  have hP : va_P D vwCl [(h0, .inr (2, [.ref q1, .ref q2, .null, .int 0])), (q1, .inl (cI, 20, .inl (fun _ => 0))), (q2, .inl (cI, 20, .inl (fun _ => 0)))] H := hP
  have hD : va_D A [(h0, .inr (2, [.ref q1, .ref q2, .null, .int 0])), (q1, .inl (cI, 20, .inl (fun _ => 0))), (q2, .inl (cI, 20, .inl (fun _ => 0)))] := hD
  refine lv_aload_n hx hb dX2_init_20 rfl (lv_at hl 0 rfl) ?_
  refine lv_bipush (v := 18) hx hb dX2_init_21 (by decide) ?_
  refine cn_newI hx hb (hts _ wa_int) hK hP hD hS hA htI (by decide) (N' := 18) (by decide) (by decide) (Nat.le_of_ble_eq_true rfl) (Nat.le_of_ble_eq_true rfl) dX2_init_23 (fun q3 H hP hD hS => ?_)
  have hP : va_P D vwCl [(h0, .inr (2, [.ref q1, .ref q2, .null, .int 0])), (q1, .inl (cI, 20, .inl (fun _ => 0))), (q2, .inl (cI, 20, .inl (fun _ => 0))), (q3, .inl (cI, 18, .inl (fun _ => 0)))] H := hP
  have hD : va_D A [(h0, .inr (2, [.ref q1, .ref q2, .null, .int 0])), (q1, .inl (cI, 20, .inl (fun _ => 0))), (q2, .inl (cI, 20, .inl (fun _ => 0))), (q3, .inl (cI, 18, .inl (fun _ => 0)))] := hD
  refine va_putF (D := D) (ci := 2) (v := .ref q3) (ty := .array .int) (C := RX2) (T := TX2) (N := 4) hx hb hts inX2 tyX2 tyX2_ok nmX2 hown hK hP hD hS 0 rfl rfl 2 (by decide) (hts _ wf_X2_20) (fun _ h9 => h9) rfl hin rfl (by decide +kernel) rfl rfl (Nat.le_of_ble_eq_true rfl) dX2_init_25 (fun H locs hP hD hS => ?_)
  have hP : va_P D vwCl [(h0, .inr (2, [.ref q1, .ref q2, .ref q3, .int 0])), (q1, .inl (cI, 20, .inl (fun _ => 0))), (q2, .inl (cI, 20, .inl (fun _ => 0))), (q3, .inl (cI, 18, .inl (fun _ => 0)))] H := hP
  have hD : va_D A [(h0, .inr (2, [.ref q1, .ref q2, .ref q3, .int 0])), (q1, .inl (cI, 20, .inl (fun _ => 0))), (q2, .inl (cI, 20, .inl (fun _ => 0))), (q3, .inl (cI, 18, .inl (fun _ => 0)))] := hD
  refine W.widen (k := 3) (n := 58) (Nat.le_of_ble_eq_true rfl) (Nat.le_of_ble_eq_true rfl) ?_
  exact W.vret hx hb hr (fun t ht hW => ⟨⟨(), rfl, trivial, q1, q2, q3, by rw [ht]; exact hP, hD⟩, hS.F ht⟩) hS.2.2 dX2_init_28 hlocks

abbrev kX3_init : MI := (yX3_init, cX3_init, 1, none, 2, 62)
set_option maxHeartbeats 4000000 in
set_option maxRecDepth 100000 in
theorem n_X3 (l : Launch) (D : va_G) (tys : List (ClassId × FieldType)) (cI cZ cS : ClassId) (htI : tys[0]? = some (cI, .int)) (htZ : tys[1]? = some (cZ, .boolean)) (htS : tys[2]? = some (cS, .object RX6)) (h0 sz : Nat) : Met l yX3_init (wsK kX3_init) ({ frames := 2, cells := 4, slots := 62, locals := 62 }) (va_Pc [.ref h0] (fun U => U.heap.size = sz ∧ va_P D vwCl [(h0, .inr (3, [.null, .int 0, .int 0]))] U.heap ∧ va_K D vwCl tys U ∧ va_D (fun _ => True) [(h0, .inr (3, [.null, .int 0, .int 0]))] ∧ NW U)) (va_Qv (fun _ : Unit => True) (fun _ t => ∃ (q1 : Nat) (q2 : Nat) (q3 : Nat) (q4 : Nat), va_P D vwCl [(h0, .inr (3, [.ref q1, .int 0, .int 0])), (q1, .inr (2, [.ref q2, .ref q3, .ref q4, .int 0])), (q2, .inl (cI, 20, .inl (fun _ => 0))), (q3, .inl (cI, 20, .inl (fun _ => 0))), (q4, .inl (cI, 18, .inl (fun _ => 0)))] t.heap ∧ va_D (va_A [(h0, .inr (3, [.null, .int 0, .int 0]))] sz) [(h0, .inr (3, [.ref q1, .int 0, .int 0])), (q1, .inr (2, [.ref q2, .ref q3, .ref q4, .int 0])), (q2, .inl (cI, 20, .inl (fun _ => 0))), (q3, .inl (cI, 20, .inl (fun _ => 0))), (q4, .inl (cI, 18, .inl (fun _ => 0)))]) (va_A [(h0, .inr (3, [.null, .int 0, .int 0]))] sz)) 4 62 (va_A [(h0, .inr (3, [.null, .int 0, .int 0]))] sz) := by
  refine Met.ofW (cc := cX3_init) (maxL := 1) (ret := none) (by decide +kernel) rfl ?_
  intro p e s m args below meth c s₁ B hml hv
  obtain ⟨rfl, hsz, hP, hK, hD0, hN⟩ := hv
  have hx := B.exec
  have hb := B.bytes
  have hr := B.returns
  have hts : ∀ w ∈ GW, w.before #[Value.ref h0] s = true := fun w hw => atoms_spec (ws := wsK kX3_init) B.pre w (List.mem_cons_of_mem _ hw)
  have hown : s.vm.findClass RX3 = some m.cls := findClass_of_methodNamed B.named
  have hlocks := B.notSynchronized
  have hin : meth.name = "<init>" := (name_of_methodNamed B.named B.method).1
  subst hsz
  have hD := hD0.self (sz := s.heap.size)
  generalize hAe : va_A [(h0, .inr (3, [.null, .int 0, .int 0]))] s.heap.size = A at hD ⊢
  have hA : ∀ q : Nat, s.heap.size ≤ q → A q := fun q h => by rw [← hAe]; exact Or.inr h
  have hS : va_S A s.heap s.heap [] := va_S.rf
  have hP : va_P D vwCl [(h0, .inr (3, [.null, .int 0, .int 0]))] s.heap := hP
  have hl := lv_entry ([.ref h0]) (n := 1) (Nat.le_of_ble_eq_true rfl)
  rw [lg_entry_eq]
  generalize (lg_sl ([.ref h0]) ++ List.replicate (1 - (lg_sl ([.ref h0])).length) Slot.unset).toArray = ls at hl ⊢
  have hl : lv_has ls 1 [(0, .ref h0)] := hl
  refine lv_aload_n hx hb dX3_init_0 rfl (lv_at hl 0 rfl) ?_
  refine W.objInit hx hb hown (hts _ wm_X3_1) (hts _ wi_objectInit) (hts _ wo_objectInit) rfl (by rw [hml]; exact hl.1) rfl dX3_init_1 (Nat.le_of_ble_eq_true rfl) (Nat.le_of_ble_eq_true rfl) ?_
  refine W.eq (g2 := F0 m 4 ls []) rfl ?_
  refine lv_aload_n hx hb dX3_init_4 rfl (lv_at hl 0 rfl) ?_
  refine va_new (ci := 2) (fs := [.null, .null, .null, .int 0]) (C := RX2) (T := TX2) (N := 4) hx hb hts inX2 tyX2 tyX2_ok hown (hts _ wk_X3_7) (hts _ wx_X2) (hts _ wz_X2) hK hP hD hS hA rfl (fun j hj => by rcases (show j = 0 ∨ j = 1 ∨ j = 2 ∨ j = 3 by omega) with rfl | rfl | rfl | rfl <;> rfl) (Nat.le_of_ble_eq_true rfl) (Nat.le_of_ble_eq_true rfl) dX3_init_5 (fun q1 H hP hD hS => ?_)
  have hP : va_P D vwCl [(h0, .inr (3, [.null, .int 0, .int 0])), (q1, .inr (2, [.null, .null, .null, .int 0]))] H := hP
  have hD : va_D A [(h0, .inr (3, [.null, .int 0, .int 0])), (q1, .inr (2, [.null, .null, .null, .int 0]))] := hD
  refine lv_dup hx hb dX3_init_8 rfl ?_
  have hFc := cj_F (ws := [(h0, .inr (3, [.null, .int 0, .int 0]))]) hD hS hA
  have hPc := cj_P (ws := [(h0, .inr (3, [.null, .int 0, .int 0]))]) hP
  refine va_callv (va_runIN (As := []) (rest := [.ref q1, .ref h0]) ⟨hx, hb, hml, hown, hts⟩ (n_X2 l D tys cI cZ cS htI htZ htS q1 H.size) ⟨va_cnB 0 hts (gw_code wo_yX2_init) rfl rfl rfl hN.2.2.2.2.2.2.2.2 (hts _ wz_X2) (by decide +kernel) ⟨Nat.le_of_ble_eq_true rfl, Nat.le_of_ble_eq_true rfl⟩, rfl, hts _ wi_yX2_init⟩ ⟨fun a U g mk q => by obtain ⟨q1, q2, q3, q4, q5, q6⟩ := q; exact ⟨q1, q2, q3, va_K.moved (u := U) (U := U.calling g mk a) (Vm.Alike.refl U.vm) q4, q5, q6.same rfl⟩, fun U hU hW => ⟨rfl, by rw [hU], by rw [hU]; exact hPc, va_K.moved hW.alike hK, cj_D (ws := []), hN.warm hW⟩⟩ rfl rfl hl.1 rfl (lv_room (Nat.le_of_ble_eq_true rfl)) dX3_init_9 ⟨Nat.le_of_ble_eq_true rfl, Nat.le_of_ble_eq_true rfl⟩) hS (fun q _ h => hFc q h) hFc (fun u t H1 locs ht hvm hw hB hz1 hk1 hS => ?_)
  obtain ⟨q2, q3, q4, hP1, hD1⟩ := hB
  rw [ht] at hP1
  obtain ⟨hP, hD⟩ := cj (ws := [(h0, .inr (3, [.null, .int 0, .int 0]))]) hP hD hk1 hFc hP1 hD1
  generalize H1 = H at hP hS ⊢
  have hP : va_P D vwCl [(h0, .inr (3, [.null, .int 0, .int 0])), (q1, .inr (2, [.ref q2, .ref q3, .ref q4, .int 0])), (q2, .inl (cI, 20, .inl (fun _ => 0))), (q3, .inl (cI, 20, .inl (fun _ => 0))), (q4, .inl (cI, 18, .inl (fun _ => 0)))] H := hP
  have hD : va_D A [(h0, .inr (3, [.null, .int 0, .int 0])), (q1, .inr (2, [.ref q2, .ref q3, .ref q4, .int 0])), (q2, .inl (cI, 20, .inl (fun _ => 0))), (q3, .inl (cI, 20, .inl (fun _ => 0))), (q4, .inl (cI, 18, .inl (fun _ => 0)))] := hD
  refine va_putF (D := D) (ci := 3) (v := .ref q1) (ty := .object "StairTolls$Climb") (C := RX3) (T := TX3) (N := 3) hx hb hts inX3 tyX3 tyX3_ok nmX3 hown hK hP hD hS 0 rfl rfl 0 (by decide) (hts _ wf_X3_10) (fun _ h9 => h9) rfl hin rfl (by decide +kernel) rfl rfl (Nat.le_of_ble_eq_true rfl) dX3_init_12 (fun H locs hP hD hS => ?_)
  have hP : va_P D vwCl [(h0, .inr (3, [.ref q1, .int 0, .int 0])), (q1, .inr (2, [.ref q2, .ref q3, .ref q4, .int 0])), (q2, .inl (cI, 20, .inl (fun _ => 0))), (q3, .inl (cI, 20, .inl (fun _ => 0))), (q4, .inl (cI, 18, .inl (fun _ => 0)))] H := hP
  have hD : va_D A [(h0, .inr (3, [.ref q1, .int 0, .int 0])), (q1, .inr (2, [.ref q2, .ref q3, .ref q4, .int 0])), (q2, .inl (cI, 20, .inl (fun _ => 0))), (q3, .inl (cI, 20, .inl (fun _ => 0))), (q4, .inl (cI, 18, .inl (fun _ => 0)))] := hD
  refine W.widen (k := 4) (n := 62) (Nat.le_of_ble_eq_true rfl) (Nat.le_of_ble_eq_true rfl) ?_
  exact W.vret hx hb hr (fun t ht hW => ⟨⟨(), rfl, trivial, q1, q2, q3, q4, by rw [ht]; exact hP, hD⟩, hS.F ht⟩) hS.2.2 dX3_init_15 hlocks

abbrev kX7_init : MI := (yX7_init, cX7_init, 1, none, 1, 20)
set_option maxHeartbeats 4000000 in
set_option maxRecDepth 100000 in
theorem n_X7 (l : Launch) (D : va_G) (tys : List (ClassId × FieldType)) (cI cZ cS : ClassId) (htI : tys[0]? = some (cI, .int)) (htZ : tys[1]? = some (cZ, .boolean)) (htS : tys[2]? = some (cS, .object RX6)) (h0 sz : Nat) : Met l yX7_init (wsK kX7_init) ({ frames := 1, cells := 1, slots := 5, locals := 20 }) (va_Pc [.ref h0] (fun U => U.heap.size = sz ∧ va_P D vwCl [(h0, .inr (7, [.null, .int 0, .int 0]))] U.heap ∧ va_K D vwCl tys U ∧ va_D (fun _ => True) [(h0, .inr (7, [.null, .int 0, .int 0]))] ∧ NW U)) (va_Qv (fun _ : Unit => True) (fun _ t => ∃ (q1 : Nat), va_P D vwCl [(h0, .inr (7, [.ref q1, .int 0, .int 0])), (q1, .inl (cI, 5, .inl (fun _ => 0)))] t.heap ∧ va_D (va_A [(h0, .inr (7, [.null, .int 0, .int 0]))] sz) [(h0, .inr (7, [.ref q1, .int 0, .int 0])), (q1, .inl (cI, 5, .inl (fun _ => 0)))]) (va_A [(h0, .inr (7, [.null, .int 0, .int 0]))] sz)) 1 5 (va_A [(h0, .inr (7, [.null, .int 0, .int 0]))] sz) := by
  refine Met.ofW (cc := cX7_init) (maxL := 1) (ret := none) (by decide +kernel) rfl ?_
  intro p e s m args below meth c s₁ B hml hv
  obtain ⟨rfl, hsz, hP, hK, hD0, hN⟩ := hv
  have hx := B.exec
  have hb := B.bytes
  have hr := B.returns
  have hts : ∀ w ∈ GW, w.before #[Value.ref h0] s = true := fun w hw => atoms_spec (ws := wsK kX7_init) B.pre w (List.mem_cons_of_mem _ hw)
  have hown : s.vm.findClass RX7 = some m.cls := findClass_of_methodNamed B.named
  have hlocks := B.notSynchronized
  have hin : meth.name = "<init>" := (name_of_methodNamed B.named B.method).1
  subst hsz
  have hD := hD0.self (sz := s.heap.size)
  generalize hAe : va_A [(h0, .inr (7, [.null, .int 0, .int 0]))] s.heap.size = A at hD ⊢
  have hA : ∀ q : Nat, s.heap.size ≤ q → A q := fun q h => by rw [← hAe]; exact Or.inr h
  have hS : va_S A s.heap s.heap [] := va_S.rf
  have hP : va_P D vwCl [(h0, .inr (7, [.null, .int 0, .int 0]))] s.heap := hP
  have hl := lv_entry ([.ref h0]) (n := 1) (Nat.le_of_ble_eq_true rfl)
  rw [lg_entry_eq]
  generalize (lg_sl ([.ref h0]) ++ List.replicate (1 - (lg_sl ([.ref h0])).length) Slot.unset).toArray = ls at hl ⊢
  have hl : lv_has ls 1 [(0, .ref h0)] := hl
  refine lv_aload_n hx hb dX7_init_0 rfl (lv_at hl 0 rfl) ?_
  refine W.objInit hx hb hown (hts _ wm_X7_3) (hts _ wi_objectInit) (hts _ wo_objectInit) rfl (by rw [hml]; exact hl.1) rfl dX7_init_1 (Nat.le_of_ble_eq_true rfl) (Nat.le_of_ble_eq_true rfl) ?_
  refine W.eq (g2 := F0 m 4 ls []) rfl ?_
  refine lv_aload_n hx hb dX7_init_4 rfl (lv_at hl 0 rfl) ?_
  refine lv_iconst (v := 5) hx hb dX7_init_5 (by decide) ?_
  refine cn_newI hx hb (hts _ wa_int) hK hP hD hS hA htI (by decide) (N' := 5) (by decide) (by decide) (Nat.le_of_ble_eq_true rfl) (Nat.le_of_ble_eq_true rfl) dX7_init_6 (fun q1 H hP hD hS => ?_)
  have hP : va_P D vwCl [(h0, .inr (7, [.null, .int 0, .int 0])), (q1, .inl (cI, 5, .inl (fun _ => 0)))] H := hP
  have hD : va_D A [(h0, .inr (7, [.null, .int 0, .int 0])), (q1, .inl (cI, 5, .inl (fun _ => 0)))] := hD
  refine va_putF (D := D) (ci := 7) (v := .ref q1) (ty := .array .int) (C := RX7) (T := TX7) (N := 3) hx hb hts inX7 tyX7 tyX7_ok nmX7 hown hK hP hD hS 0 rfl rfl 0 (by decide) (hts _ wf_X7_11) (fun _ h9 => h9) rfl hin rfl (by decide +kernel) rfl rfl (Nat.le_of_ble_eq_true rfl) dX7_init_8 (fun H locs hP hD hS => ?_)
  have hP : va_P D vwCl [(h0, .inr (7, [.ref q1, .int 0, .int 0])), (q1, .inl (cI, 5, .inl (fun _ => 0)))] H := hP
  have hD : va_D A [(h0, .inr (7, [.ref q1, .int 0, .int 0])), (q1, .inl (cI, 5, .inl (fun _ => 0)))] := hD
  refine W.widen (k := 1) (n := 5) (Nat.le_of_ble_eq_true rfl) (Nat.le_of_ble_eq_true rfl) ?_
  exact W.vret hx hb hr (fun t ht hW => ⟨⟨(), rfl, trivial, q1, by rw [ht]; exact hP, hD⟩, hS.F ht⟩) hS.2.2 dX7_init_11 hlocks

abbrev kX1_init : MI := (yX1_init, cX1_init, 1, none, 1, 20)
set_option maxHeartbeats 4000000 in
set_option maxRecDepth 100000 in
theorem n_X1 (l : Launch) (D : va_G) (tys : List (ClassId × FieldType)) (cI cZ cS : ClassId) (htI : tys[0]? = some (cI, .int)) (htZ : tys[1]? = some (cZ, .boolean)) (htS : tys[2]? = some (cS, .object RX6)) (h0 sz : Nat) : Met l yX1_init (wsK kX1_init) ({ frames := 1, cells := 1, slots := 16, locals := 20 }) (va_Pc [.ref h0] (fun U => U.heap.size = sz ∧ va_P D vwCl [(h0, .inr (1, [.null, .int 0, .int 0, .int 0, .int 0, .int 0]))] U.heap ∧ va_K D vwCl tys U ∧ va_D (fun _ => True) [(h0, .inr (1, [.null, .int 0, .int 0, .int 0, .int 0, .int 0]))] ∧ NW U)) (va_Qv (fun _ : Unit => True) (fun _ t => ∃ (q1 : Nat), va_P D vwCl [(h0, .inr (1, [.ref q1, .int 0, .int 0, .int 0, .int 0, .int 0])), (q1, .inl (cI, 16, .inl (fun _ => 0)))] t.heap ∧ va_D (va_A [(h0, .inr (1, [.null, .int 0, .int 0, .int 0, .int 0, .int 0]))] sz) [(h0, .inr (1, [.ref q1, .int 0, .int 0, .int 0, .int 0, .int 0])), (q1, .inl (cI, 16, .inl (fun _ => 0)))]) (va_A [(h0, .inr (1, [.null, .int 0, .int 0, .int 0, .int 0, .int 0]))] sz)) 1 16 (va_A [(h0, .inr (1, [.null, .int 0, .int 0, .int 0, .int 0, .int 0]))] sz) := by
  refine Met.ofW (cc := cX1_init) (maxL := 1) (ret := none) (by decide +kernel) rfl ?_
  intro p e s m args below meth c s₁ B hml hv
  obtain ⟨rfl, hsz, hP, hK, hD0, hN⟩ := hv
  have hx := B.exec
  have hb := B.bytes
  have hr := B.returns
  have hts : ∀ w ∈ GW, w.before #[Value.ref h0] s = true := fun w hw => atoms_spec (ws := wsK kX1_init) B.pre w (List.mem_cons_of_mem _ hw)
  have hown : s.vm.findClass RX1 = some m.cls := findClass_of_methodNamed B.named
  have hlocks := B.notSynchronized
  have hin : meth.name = "<init>" := (name_of_methodNamed B.named B.method).1
  subst hsz
  have hD := hD0.self (sz := s.heap.size)
  generalize hAe : va_A [(h0, .inr (1, [.null, .int 0, .int 0, .int 0, .int 0, .int 0]))] s.heap.size = A at hD ⊢
  have hA : ∀ q : Nat, s.heap.size ≤ q → A q := fun q h => by rw [← hAe]; exact Or.inr h
  have hS : va_S A s.heap s.heap [] := va_S.rf
  have hP : va_P D vwCl [(h0, .inr (1, [.null, .int 0, .int 0, .int 0, .int 0, .int 0]))] s.heap := hP
  have hl := lv_entry ([.ref h0]) (n := 1) (Nat.le_of_ble_eq_true rfl)
  rw [lg_entry_eq]
  generalize (lg_sl ([.ref h0]) ++ List.replicate (1 - (lg_sl ([.ref h0])).length) Slot.unset).toArray = ls at hl ⊢
  have hl : lv_has ls 1 [(0, .ref h0)] := hl
  refine lv_aload_n hx hb dX1_init_0 rfl (lv_at hl 0 rfl) ?_
  refine W.objInit hx hb hown (hts _ wm_X1_3) (hts _ wi_objectInit) (hts _ wo_objectInit) rfl (by rw [hml]; exact hl.1) rfl dX1_init_1 (Nat.le_of_ble_eq_true rfl) (Nat.le_of_ble_eq_true rfl) ?_
  refine W.eq (g2 := F0 m 4 ls []) rfl ?_
  refine lv_aload_n hx hb dX1_init_4 rfl (lv_at hl 0 rfl) ?_
  refine lv_bipush (v := 16) hx hb dX1_init_5 (by decide) ?_
  refine cn_newI hx hb (hts _ wa_int) hK hP hD hS hA htI (by decide) (N' := 16) (by decide) (by decide) (Nat.le_of_ble_eq_true rfl) (Nat.le_of_ble_eq_true rfl) dX1_init_7 (fun q1 H hP hD hS => ?_)
  have hP : va_P D vwCl [(h0, .inr (1, [.null, .int 0, .int 0, .int 0, .int 0, .int 0])), (q1, .inl (cI, 16, .inl (fun _ => 0)))] H := hP
  have hD : va_D A [(h0, .inr (1, [.null, .int 0, .int 0, .int 0, .int 0, .int 0])), (q1, .inl (cI, 16, .inl (fun _ => 0)))] := hD
  refine va_putF (D := D) (ci := 1) (v := .ref q1) (ty := .array .int) (C := RX1) (T := TX1) (N := 6) hx hb hts inX1 tyX1 tyX1_ok nmX1 hown hK hP hD hS 0 rfl rfl 0 (by decide) (hts _ wf_X1_11) (fun _ h9 => h9) rfl hin rfl (by decide +kernel) rfl rfl (Nat.le_of_ble_eq_true rfl) dX1_init_9 (fun H locs hP hD hS => ?_)
  have hP : va_P D vwCl [(h0, .inr (1, [.ref q1, .int 0, .int 0, .int 0, .int 0, .int 0])), (q1, .inl (cI, 16, .inl (fun _ => 0)))] H := hP
  have hD : va_D A [(h0, .inr (1, [.ref q1, .int 0, .int 0, .int 0, .int 0, .int 0])), (q1, .inl (cI, 16, .inl (fun _ => 0)))] := hD
  refine W.widen (k := 1) (n := 16) (Nat.le_of_ble_eq_true rfl) (Nat.le_of_ble_eq_true rfl) ?_
  exact W.vret hx hb hr (fun t ht hW => ⟨⟨(), rfl, trivial, q1, by rw [ht]; exact hP, hD⟩, hS.F ht⟩) hS.2.2 dX1_init_12 hlocks
