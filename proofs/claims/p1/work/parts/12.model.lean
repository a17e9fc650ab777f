set_option maxHeartbeats 4000000 in
set_option maxRecDepth 100000 in
theorem mX12_fault (l : Launch) (dC : Nat → ClassId) (dI : Nat → Nat → Nat) (rm : Nat → Nat) (km : Nat → ClassId) (p1 : Int32) (sz : Nat) : Met l yX12_fault (Cond.code yX12_fault cX12_fault 2 (some .int) :: wA) ({ frames := 0, cells := 0, slots := 0, locals := 0 }) (va_Pc [.ref (rm 0), .int p1] (fun U => U.heap.size = sz ∧ va_P (dC, dI) vwCl (wd_758 rm km) U.heap ∧ va_K (dC, dI) vwCl [((km 0), .int), ((km 1), .int), ((km 2), .int), ((km 3), .int)] U ∧ va_D (fun _ => True) (wd_758 rm km))) (va_Qi (fun (r : Int32) (_ : Unit) => r = sp_1 p1) (fun _ t => True) (va_A (wd_758 rm km) sz)) 0 0 (va_A (wd_758 rm km) sz) := by
  refine Met.ofW (cc := cX12_fault) (maxL := 2) (ret := (some .int)) (by decide) rfl ?_
  intro p e s m args below meth c s₁ B hml hv
  obtain ⟨rfl, hsz, hP, hK, hD0⟩ := hv
  have hx := B.exec
  have hb := B.bytes
  have hr := B.returns
  have hts : ∀ w ∈ wA, w.before [.ref (rm 0), .int p1].toArray s = true := fun w h => atoms_spec (ws := Cond.code yX12_fault cX12_fault 2 (some .int) :: wA) B.pre w (List.mem_cons_of_mem _ h)
  have hown : s.vm.findClass RX12 = some m.cls := findClass_of_methodNamed B.named
  have hlocks := B.notSynchronized
  subst hsz
  have hD := hD0.self (sz := s.heap.size)
  generalize hAe : va_A (wd_758 rm km) s.heap.size = A at hD ⊢
  have hA : ∀ q : Nat, s.heap.size ≤ q → A q := fun q h => by rw [← hAe]; exact Or.inr h
  have hS : va_S A s.heap s.heap [] := va_S.rf
  have hl := lv_entry ([.ref (rm 0), .int p1]) (n := 2) (Nat.le_of_ble_eq_true rfl)
  rw [lg_entry_eq]
  generalize (lg_sl ([.ref (rm 0), .int p1]) ++ List.replicate (2 - (lg_sl ([.ref (rm 0), .int p1])).length) Slot.unset).toArray = ls at hl ⊢
  have hl : lv_has ls 2 [(0, .ref (rm 0)), (1, .int p1)] := hl
  rcases sw_1 p1 with rfl | ho
  · refine lv_iload_n hx hb dX12_fault_0 rfl (lv_at hl 1 rfl) ?_
    refine lv_if_ne (tgt := 11) hx hb dX12_fault_1 (by decide) (fun c_0 => absurd c_0 (by decide)) (fun c_0 => ?_)
    refine lv_aload_n hx hb dX12_fault_4 rfl (lv_at hl 0 rfl) ?_
    refine va_get (D := (dC, dI)) (ci := 12) (v := .int 0) (C := RX12) (T := TX12) (N := 84) hx hb hts i_X12 hown hK hP 0 rfl rfl 7 (by decide) (hts _ q_424) (fun _ h9 => h9) rfl dX12_fault_5 ?_
    refine lv_goto (tgt := 24) hx hb dX12_fault_8 (by decide) ?_
    refine W.widen (k := 0) (n := 0) (Nat.le_of_ble_eq_true rfl) (Nat.le_of_ble_eq_true rfl) ?_
    exact W.iret (v := 0) hx hb hr (fun t ht hW => ⟨⟨0, (), rfl, by decide, trivial⟩, hS.F ht⟩) hS.2.2 dX12_fault_24
  · refine lv_iload_n hx hb dX12_fault_0 rfl (lv_at hl 1 rfl) ?_
    refine lv_if_ne (tgt := 11) hx hb dX12_fault_1 (by decide) (fun c_1361 => ?_) (fun c_1361 => ((by have k_c_1361 : p1.toInt = (0 : Int) := congrArg Int32.toInt c_1361; omega : False).elim))
    refine lv_iload_n hx hb dX12_fault_11 rfl (lv_at hl 1 rfl) ?_
    refine lv_iconst (v := 1) hx hb dX12_fault_12 (by decide) ?_
    refine lv_icmp_ne (tgt := 23) hx hb dX12_fault_13 (by decide) (fun c_1362 => ?_) (fun c_1362 => ?_)
    · refine lv_iconst (v := (-1)) hx hb dX12_fault_23 (by decide) ?_
      refine W.widen (k := 0) (n := 0) (Nat.le_of_ble_eq_true rfl) (Nat.le_of_ble_eq_true rfl) ?_
      exact W.iret (v := (-1)) hx hb hr (fun t ht hW => ⟨⟨(-1), (), rfl, (if_pos ho).symm, trivial⟩, hS.F ht⟩) hS.2.2 dX12_fault_24
    · refine lv_aload_n hx hb dX12_fault_16 rfl (lv_at hl 0 rfl) ?_
      refine va_get (D := (dC, dI)) (ci := 12) (v := .int (-1)) (C := RX12) (T := TX12) (N := 84) hx hb hts i_X12 hown hK hP 0 rfl rfl 8 (by decide) (hts _ q_188) (fun _ h9 => h9) rfl dX12_fault_17 ?_
      refine lv_goto (tgt := 24) hx hb dX12_fault_20 (by decide) ?_
      refine W.widen (k := 0) (n := 0) (Nat.le_of_ble_eq_true rfl) (Nat.le_of_ble_eq_true rfl) ?_
      exact W.iret (v := (-1)) hx hb hr (fun t ht hW => ⟨⟨(-1), (), rfl, (if_pos ho).symm, trivial⟩, hS.F ht⟩) hS.2.2 dX12_fault_24
set_option maxHeartbeats 4000000 in
set_option maxRecDepth 100000 in
theorem c101_X12_laysCells (l : Launch) (dC : Nat → ClassId) (dI : Nat → Nat → Nat) (rm : Nat → Nat) (km : Nat → ClassId) (sz : Nat) : Met l yX12_laysCells (Cond.code yX12_laysCells cX12_laysCells 4 none :: wA) ({ frames := 0, cells := 0, slots := 0, locals := 0 }) (va_Pc [.ref (rm 0)] (fun U => U.heap.size = sz ∧ va_P (dC, dI) vwCl (wd_758 rm km) U.heap ∧ va_K (dC, dI) vwCl [((km 0), .int), ((km 1), .int), ((km 2), .int), ((km 3), .int)] U ∧ va_D (fun _ => True) (wd_758 rm km))) (va_Qv (fun (_ : Unit) => True) (fun _ t => va_P (dC, dI) vwCl (wd_758 rm km) t.heap ∧ va_K (dC, dI) vwCl [((km 0), .int), ((km 1), .int), ((km 2), .int), ((km 3), .int)] t ∧ va_D (va_A (wd_758 rm km) sz) (wd_758 rm km)) (va_A (wd_758 rm km) sz)) 0 0 (va_A (wd_758 rm km) sz) := by
  refine Met.ofW (cc := cX12_laysCells) (maxL := 4) (ret := none) (by decide) rfl ?_
  intro p e s m args below meth c s₁ B hml hv
  obtain ⟨rfl, hsz, hP, hK, hD0⟩ := hv
  have hx := B.exec
  have hb := B.bytes
  have hr := B.returns
  have hts : ∀ w ∈ wA, w.before [.ref (rm 0)].toArray s = true := fun w h => atoms_spec (ws := Cond.code yX12_laysCells cX12_laysCells 4 none :: wA) B.pre w (List.mem_cons_of_mem _ h)
  have hown : s.vm.findClass RX12 = some m.cls := findClass_of_methodNamed B.named
  have hlocks := B.notSynchronized
  subst hsz
  have hD := hD0.self (sz := s.heap.size)
  generalize hAe : va_A (wd_758 rm km) s.heap.size = A at hD ⊢
  have hA : ∀ q : Nat, s.heap.size ≤ q → A q := fun q h => by rw [← hAe]; exact Or.inr h
  have hS : va_S A s.heap s.heap [] := va_S.rf
  have hl := lv_entry ([.ref (rm 0)]) (n := 4) (Nat.le_of_ble_eq_true rfl)
  rw [lg_entry_eq]
  generalize (lg_sl ([.ref (rm 0)]) ++ List.replicate (4 - (lg_sl ([.ref (rm 0)])).length) Slot.unset).toArray = ls at hl ⊢
  have hl : lv_has ls 4 [(0, .ref (rm 0))] := hl
  refine lv_aload_n hx hb dX12_laysCells_0 rfl (lv_at hl 0 rfl) ?_
  refine lv_iconst (v := 0) hx hb dX12_laysCells_1 (by decide) ?_
  refine va_put (D := (dC, dI)) (ci := 12) (v := .int 0) (ty := tyX12 40) (C := RX12) (T := TX12) (N := 84) hx hb hts i_X12 tyX12 tyX12_ok nmX12 hown hK hP hD hS 0 rfl rfl 40 (by decide) (hts _ q_433) (fun _ h9 => h9) rfl (tyX12_ok 40 (by decide)) rfl rfl (Nat.le_of_ble_eq_true rfl) dX12_laysCells_2 (fun H locs hP hD hS => ?_)
  have hP : va_P (dC, dI) vwCl (wd_758 rm km) H := hP
  have hD : va_D A (wd_758 rm km) := hD
  refine lv_iconst (v := 0) hx hb dX12_laysCells_5 (by decide) ?_
  refine lv_istore_n (lv' := [(1, .int 0), (0, .ref (rm 0))]) hx hb dX12_laysCells_6 rfl hl (by decide) rfl (fun ls hl => ?_)
  refine lv_iload_n hx hb dX12_laysCells_7 rfl (lv_at hl 0 rfl) ?_
  refine lv_aload_n hx hb dX12_laysCells_8 rfl (lv_at hl 1 rfl) ?_
  refine va_get (D := (dC, dI)) (ci := 12) (v := .int 0) (C := RX12) (T := TX12) (N := 84) hx hb hts i_X12 hown hK hP 0 rfl rfl 25 (by decide) (hts _ q_431) (fun _ h9 => h9) rfl dX12_laysCells_9 ?_
  refine lv_icmp_ge (tgt := 28) hx hb dX12_laysCells_12 (by decide) (fun c_0 => ?_) (fun c_0 => absurd c_0 (by decide))
  refine lv_aload_n hx hb dX12_laysCells_28 rfl (lv_at hl 1 rfl) ?_
  refine va_get (D := (dC, dI)) (ci := 12) (v := .ref (rm 22)) (C := RX12) (T := TX12) (N := 84) hx hb hts i_X12 hown hK hP 0 rfl rfl 35 (by decide) (hts _ q_210) (fun _ h9 => h9) rfl dX12_laysCells_29 ?_
  refine lv_iconst (v := 1) hx hb dX12_laysCells_32 (by decide) ?_
  refine va_iald hx hb hK hP 3 2 rfl rfl (vpi (by decide)) dX12_laysCells_33 ?_
  refine lv_topi (fun x_1365 ex_1365 => ?_)
  obtain rfl : x_1365 = 0 := ex_1365
  refine lv_istore_n (lv' := [(1, .int 0), (0, .ref (rm 0))]) hx hb dX12_laysCells_34 rfl hl (by decide) rfl (fun ls hl => ?_)
  refine lv_iload_n hx hb dX12_laysCells_35 rfl (lv_at hl 0 rfl) ?_
  refine lv_aload_n hx hb dX12_laysCells_36 rfl (lv_at hl 1 rfl) ?_
  refine va_get (D := (dC, dI)) (ci := 12) (v := .int 0) (C := RX12) (T := TX12) (N := 84) hx hb hts i_X12 hown hK hP 0 rfl rfl 25 (by decide) (hts _ q_431) (fun _ h9 => h9) rfl dX12_laysCells_37 ?_
  refine lv_icmp_ge (tgt := 108) hx hb dX12_laysCells_40 (by decide) (fun c_0 => ?_) (fun c_0 => absurd c_0 (by decide))
  refine W.widen (k := 0) (n := 0) (Nat.le_of_ble_eq_true rfl) (Nat.le_of_ble_eq_true rfl) ?_
  have hP9 := hP.sub (ws' := (wd_758 rm km)) [0, 1, 2, 3, 4] rfl
  have hD9 := hD.sub (ws' := (wd_758 rm km)) [0, 1, 2, 3, 4] (by decide) rfl
  have hK9 := hK.sub (tys' := [((km 0), .int), ((km 1), .int), ((km 2), .int), ((km 3), .int)]) [0, 1, 2, 3] rfl
  exact W.vret hx hb hr (fun t ht hW => ⟨⟨(), rfl, trivial, by rw [ht]; exact hP9, va_K.moved hW.alike hK9, hD9⟩, hS.F ht⟩) hS.2.2 dX12_laysCells_108
set_option maxHeartbeats 4000000 in
set_option maxRecDepth 100000 in
theorem mX12_has (l : Launch) (dC : Nat → ClassId) (dI : Nat → Nat → Nat) (rm : Nat → Nat) (km : Nat → ClassId) (p1 : Int32) (sz : Nat) : Met l yX12_has (Cond.code yX12_has cX12_has 2 (some .int) :: wA) ({ frames := 1, cells := 0, slots := 0, locals := 23 }) (va_Pc [.ref (rm 0), .int p1] (fun U => U.heap.size = sz ∧ va_P (dC, dI) vwCl (wd_758 rm km) U.heap ∧ va_K (dC, dI) vwCl [((km 0), .int), ((km 1), .int), ((km 2), .int), ((km 3), .int)] U ∧ va_D (fun _ => True) (wd_758 rm km))) (va_Qi (fun (r : Int32) (_ : Unit) => r = sp_10 p1) (fun _ t => True) (va_A (wd_758 rm km) sz)) 0 0 (va_A (wd_758 rm km) sz) := by
  refine Met.ofW (cc := cX12_has) (maxL := 2) (ret := (some .int)) (by decide) rfl ?_
  intro p e s m args below meth c s₁ B hml hv
  obtain ⟨rfl, hsz, hP, hK, hD0⟩ := hv
  have hx := B.exec
  have hb := B.bytes
  have hr := B.returns
  have hts : ∀ w ∈ wA, w.before [.ref (rm 0), .int p1].toArray s = true := fun w h => atoms_spec (ws := Cond.code yX12_has cX12_has 2 (some .int) :: wA) B.pre w (List.mem_cons_of_mem _ h)
  have hown : s.vm.findClass RX12 = some m.cls := findClass_of_methodNamed B.named
  have hlocks := B.notSynchronized
  subst hsz
  have hD := hD0.self (sz := s.heap.size)
  generalize hAe : va_A (wd_758 rm km) s.heap.size = A at hD ⊢
  have hA : ∀ q : Nat, s.heap.size ≤ q → A q := fun q h => by rw [← hAe]; exact Or.inr h
  have hS : va_S A s.heap s.heap [] := va_S.rf
  have hl := lv_entry ([.ref (rm 0), .int p1]) (n := 2) (Nat.le_of_ble_eq_true rfl)
  rw [lg_entry_eq]
  generalize (lg_sl ([.ref (rm 0), .int p1]) ++ List.replicate (2 - (lg_sl ([.ref (rm 0), .int p1])).length) Slot.unset).toArray = ls at hl ⊢
  have hl : lv_has ls 2 [(0, .ref (rm 0)), (1, .int p1)] := hl
  rcases sw_10 p1 with rfl | rfl | rfl | rfl | rfl | rfl | rfl | rfl | rfl | rfl | ho
  · refine lv_iload_n hx hb dX12_has_0 rfl (lv_at hl 1 rfl) ?_
    refine lv_tableIn (off := 55) (tgt := 56) hx hb dX12_has_1 (by decide) (by decide) rfl (by decide) ?_
    refine lv_aload_n hx hb dX12_has_56 rfl (lv_at hl 0 rfl) ?_
    refine va_get (D := (dC, dI)) (ci := 12) (v := .int 0) (C := RX12) (T := TX12) (N := 84) hx hb hts i_X12 hown hK hP 0 rfl rfl 25 (by decide) (hts _ q_431) (fun _ h9 => h9) rfl dX12_has_57 ?_
    refine W.widen (k := 0) (n := 0) (Nat.le_of_ble_eq_true rfl) (Nat.le_of_ble_eq_true rfl) ?_
    exact W.iret (v := 0) hx hb hr (fun t ht hW => ⟨⟨0, (), rfl, by decide, trivial⟩, hS.F ht⟩) hS.2.2 dX12_has_60
  · refine lv_iload_n hx hb dX12_has_0 rfl (lv_at hl 1 rfl) ?_
    refine lv_tableIn (off := 60) (tgt := 61) hx hb dX12_has_1 (by decide) (by decide) rfl (by decide) ?_
    refine lv_aload_n hx hb dX12_has_61 rfl (lv_at hl 0 rfl) ?_
    refine va_get (D := (dC, dI)) (ci := 12) (v := .ref (rm 22)) (C := RX12) (T := TX12) (N := 84) hx hb hts i_X12 hown hK hP 0 rfl rfl 35 (by decide) (hts _ q_210) (fun _ h9 => h9) rfl dX12_has_62 ?_
    refine lv_iconst (v := 1) hx hb dX12_has_65 (by decide) ?_
    refine va_iald hx hb hK hP 3 2 rfl rfl (vpi (by decide)) dX12_has_66 ?_
    refine lv_topi (fun x_1370 ex_1370 => ?_)
    obtain rfl : x_1370 = 0 := ex_1370
    refine W.widen (k := 0) (n := 0) (Nat.le_of_ble_eq_true rfl) (Nat.le_of_ble_eq_true rfl) ?_
    exact W.iret (v := 0) hx hb hr (fun t ht hW => ⟨⟨0, (), rfl, by decide, trivial⟩, hS.F ht⟩) hS.2.2 dX12_has_67
  · refine lv_iload_n hx hb dX12_has_0 rfl (lv_at hl 1 rfl) ?_
    refine lv_tableIn (off := 67) (tgt := 68) hx hb dX12_has_1 (by decide) (by decide) rfl (by decide) ?_
    refine lv_aload_n hx hb dX12_has_68 rfl (lv_at hl 0 rfl) ?_
    have hPc := hP.sub (ws' := (wd_758 rm km)) [0, 1, 2, 3, 4] rfl
    have hDc := hD.sub (ws' := (wd_758 rm km)) [0, 1, 2, 3, 4] (by decide) rfl
    have hKc := hK.sub (tys' := [((km 0), .int), ((km 1), .int), ((km 2), .int), ((km 3), .int)]) [0, 1, 2, 3] rfl
    have hFc := va_free (wc := (wd_758 rm km)) hD hS hA [0, 1, 2, 3, 4] rfl
    refine va_callv (va_runV (As := []) (rest := []) ⟨hx, hb, hml, hown, hts⟩ (c101_X12_laysCells l dC dI rm km s.heap.size) (cwV 0 hts (gV q_434 q_435 q_436 q_372 q_432) rfl rfl rfl mdv_yX12_laysCells ⟨Nat.le_of_ble_eq_true rfl, Nat.le_of_ble_eq_true rfl⟩) ⟨fun a U g mk q => by obtain ⟨q0, q1, qP, qK, qD⟩ := q; exact ⟨q0, q1, qP, va_K.moved (u := U) (U := U.calling g mk a) (Vm.Alike.refl U.vm) qK, qD⟩, va_recv hKc hPc (ci := 12) (q0 := 0) rfl rfl, fun U hU hW => ⟨rfl, by rw [hU], by rw [hU]; exact hPc, va_K.moved hW.alike hKc, hDc.weaken (fun _ _ _ _ => trivial)⟩⟩ rfl rfl hl.1 rfl (lv_room (Nat.le_of_ble_eq_true rfl)) dX12_has_69 ⟨Nat.le_of_ble_eq_true rfl, Nat.le_of_ble_eq_true rfl⟩) hS (fun q _ h => hFc q h) hFc (fun u t H1 locs ht hvm hw hB hz1 hk1 hS => ?_)
    obtain ⟨hP1, hK1, hD1⟩ := hB
    rw [ht] at hP1
    have hK1 := va_K.moved hvm.symm hK1
    obtain ⟨hP, hD⟩ := va_join (wr := []) (w1 := (wd_758 rm km)) hP hD [0, 1, 2, 3, 4] [] rfl rfl (by decide) (by decide) hk1 hFc hP1 hD1
    generalize H1 = H at hP hS ⊢
    have hP : va_P (dC, dI) vwCl (wd_758 rm km) H := hP
    have hD : va_D A (wd_758 rm km) := hD
    refine lv_aload_n hx hb dX12_has_72 rfl (lv_at hl 0 rfl) ?_
    refine va_get (D := (dC, dI)) (ci := 12) (v := .int 0) (C := RX12) (T := TX12) (N := 84) hx hb hts i_X12 hown hK hP 0 rfl rfl 40 (by decide) (hts _ q_433) (fun _ h9 => h9) rfl dX12_has_73 ?_
    refine W.widen (k := 0) (n := 0) (Nat.le_of_ble_eq_true rfl) (Nat.le_of_ble_eq_true rfl) ?_
    exact W.iret (v := 0) hx hb hr (fun t ht hW => ⟨⟨0, (), rfl, by decide, trivial⟩, hS.F ht⟩) hS.2.2 dX12_has_76
  · refine lv_iload_n hx hb dX12_has_0 rfl (lv_at hl 1 rfl) ?_
    refine lv_tableIn (off := 76) (tgt := 77) hx hb dX12_has_1 (by decide) (by decide) rfl (by decide) ?_
    refine lv_aload_n hx hb dX12_has_77 rfl (lv_at hl 0 rfl) ?_
    refine va_get (D := (dC, dI)) (ci := 12) (v := .int 0) (C := RX12) (T := TX12) (N := 84) hx hb hts i_X12 hown hK hP 0 rfl rfl 27 (by decide) (hts _ q_437) (fun _ h9 => h9) rfl dX12_has_78 ?_
    refine W.widen (k := 0) (n := 0) (Nat.le_of_ble_eq_true rfl) (Nat.le_of_ble_eq_true rfl) ?_
    exact W.iret (v := 0) hx hb hr (fun t ht hW => ⟨⟨0, (), rfl, by decide, trivial⟩, hS.F ht⟩) hS.2.2 dX12_has_81
  · refine lv_iload_n hx hb dX12_has_0 rfl (lv_at hl 1 rfl) ?_
    refine lv_tableIn (off := 81) (tgt := 82) hx hb dX12_has_1 (by decide) (by decide) rfl (by decide) ?_
    refine lv_aload_n hx hb dX12_has_82 rfl (lv_at hl 0 rfl) ?_
    refine va_get (D := (dC, dI)) (ci := 12) (v := .ref (rm 22)) (C := RX12) (T := TX12) (N := 84) hx hb hts i_X12 hown hK hP 0 rfl rfl 35 (by decide) (hts _ q_210) (fun _ h9 => h9) rfl dX12_has_83 ?_
    refine lv_iconst (v := 0) hx hb dX12_has_86 (by decide) ?_
    refine va_iald hx hb hK hP 3 2 rfl rfl (vpi (by decide)) dX12_has_87 ?_
    refine lv_topi (fun x_1372 ex_1372 => ?_)
    obtain rfl : x_1372 = 0 := ex_1372
    refine W.widen (k := 0) (n := 0) (Nat.le_of_ble_eq_true rfl) (Nat.le_of_ble_eq_true rfl) ?_
    exact W.iret (v := 0) hx hb hr (fun t ht hW => ⟨⟨0, (), rfl, by decide, trivial⟩, hS.F ht⟩) hS.2.2 dX12_has_88
  · refine lv_iload_n hx hb dX12_has_0 rfl (lv_at hl 1 rfl) ?_
    refine lv_tableIn (off := 88) (tgt := 89) hx hb dX12_has_1 (by decide) (by decide) rfl (by decide) ?_
    refine lv_aload_n hx hb dX12_has_89 rfl (lv_at hl 0 rfl) ?_
    refine va_get (D := (dC, dI)) (ci := 12) (v := .ref (rm 22)) (C := RX12) (T := TX12) (N := 84) hx hb hts i_X12 hown hK hP 0 rfl rfl 35 (by decide) (hts _ q_210) (fun _ h9 => h9) rfl dX12_has_90 ?_
    refine lv_iconst (v := 2) hx hb dX12_has_93 (by decide) ?_
    refine va_iald hx hb hK hP 3 2 rfl rfl (vpi (by decide)) dX12_has_94 ?_
    refine lv_topi (fun x_1373 ex_1373 => ?_)
    obtain rfl : x_1373 = 0 := ex_1373
    refine W.widen (k := 0) (n := 0) (Nat.le_of_ble_eq_true rfl) (Nat.le_of_ble_eq_true rfl) ?_
    exact W.iret (v := 0) hx hb hr (fun t ht hW => ⟨⟨0, (), rfl, by decide, trivial⟩, hS.F ht⟩) hS.2.2 dX12_has_95
  · refine lv_iload_n hx hb dX12_has_0 rfl (lv_at hl 1 rfl) ?_
    refine lv_tableIn (off := 95) (tgt := 96) hx hb dX12_has_1 (by decide) (by decide) rfl (by decide) ?_
    refine lv_aload_n hx hb dX12_has_96 rfl (lv_at hl 0 rfl) ?_
    refine va_get (D := (dC, dI)) (ci := 12) (v := .ref (rm 22)) (C := RX12) (T := TX12) (N := 84) hx hb hts i_X12 hown hK hP 0 rfl rfl 35 (by decide) (hts _ q_210) (fun _ h9 => h9) rfl dX12_has_97 ?_
    refine lv_iconst (v := 5) hx hb dX12_has_100 (by decide) ?_
    refine va_iald hx hb hK hP 3 2 rfl rfl (vpi (by decide)) dX12_has_101 ?_
    refine lv_topi (fun x_1374 ex_1374 => ?_)
    obtain rfl : x_1374 = 0 := ex_1374
    refine W.widen (k := 0) (n := 0) (Nat.le_of_ble_eq_true rfl) (Nat.le_of_ble_eq_true rfl) ?_
    exact W.iret (v := 0) hx hb hr (fun t ht hW => ⟨⟨0, (), rfl, by decide, trivial⟩, hS.F ht⟩) hS.2.2 dX12_has_102
  · refine lv_iload_n hx hb dX12_has_0 rfl (lv_at hl 1 rfl) ?_
    refine lv_tableIn (off := 102) (tgt := 103) hx hb dX12_has_1 (by decide) (by decide) rfl (by decide) ?_
    refine lv_aload_n hx hb dX12_has_103 rfl (lv_at hl 0 rfl) ?_
    refine va_get (D := (dC, dI)) (ci := 12) (v := .int 0) (C := RX12) (T := TX12) (N := 84) hx hb hts i_X12 hown hK hP 0 rfl rfl 61 (by decide) (hts _ q_438) (fun _ h9 => h9) rfl dX12_has_104 ?_
    refine W.widen (k := 0) (n := 0) (Nat.le_of_ble_eq_true rfl) (Nat.le_of_ble_eq_true rfl) ?_
    exact W.iret (v := 0) hx hb hr (fun t ht hW => ⟨⟨0, (), rfl, by decide, trivial⟩, hS.F ht⟩) hS.2.2 dX12_has_107
  · refine lv_iload_n hx hb dX12_has_0 rfl (lv_at hl 1 rfl) ?_
    refine lv_tableIn (off := 107) (tgt := 108) hx hb dX12_has_1 (by decide) (by decide) rfl (by decide) ?_
    refine lv_aload_n hx hb dX12_has_108 rfl (lv_at hl 0 rfl) ?_
    refine va_get (D := (dC, dI)) (ci := 12) (v := .int 0) (C := RX12) (T := TX12) (N := 84) hx hb hts i_X12 hown hK hP 0 rfl rfl 68 (by decide) (hts _ q_439) (fun _ h9 => h9) rfl dX12_has_109 ?_
    refine W.widen (k := 0) (n := 0) (Nat.le_of_ble_eq_true rfl) (Nat.le_of_ble_eq_true rfl) ?_
    exact W.iret (v := 0) hx hb hr (fun t ht hW => ⟨⟨0, (), rfl, by decide, trivial⟩, hS.F ht⟩) hS.2.2 dX12_has_112
  · refine lv_iload_n hx hb dX12_has_0 rfl (lv_at hl 1 rfl) ?_
    refine lv_tableIn (off := 112) (tgt := 113) hx hb dX12_has_1 (by decide) (by decide) rfl (by decide) ?_
    refine lv_aload_n hx hb dX12_has_113 rfl (lv_at hl 0 rfl) ?_
    refine va_get (D := (dC, dI)) (ci := 12) (v := .int 0) (C := RX12) (T := TX12) (N := 84) hx hb hts i_X12 hown hK hP 0 rfl rfl 56 (by decide) (hts _ q_440) (fun _ h9 => h9) rfl dX12_has_114 ?_
    refine lv_if_eq (tgt := 124) hx hb dX12_has_117 (by decide) (fun c_0 => ?_) (fun c_0 => absurd c_0 (by decide))
    refine lv_iconst (v := 0) hx hb dX12_has_124 (by decide) ?_
    refine W.widen (k := 0) (n := 0) (Nat.le_of_ble_eq_true rfl) (Nat.le_of_ble_eq_true rfl) ?_
    exact W.iret (v := 0) hx hb hr (fun t ht hW => ⟨⟨0, (), rfl, by decide, trivial⟩, hS.F ht⟩) hS.2.2 dX12_has_125
  · refine lv_iload_n hx hb dX12_has_0 rfl (lv_at hl 1 rfl) ?_
    refine lv_tableOut (tgt := 126) hx hb dX12_has_1 ho (by decide) ?_
    refine lv_iconst (v := (-1)) hx hb dX12_has_126 (by decide) ?_
    refine W.widen (k := 0) (n := 0) (Nat.le_of_ble_eq_true rfl) (Nat.le_of_ble_eq_true rfl) ?_
    exact W.iret (v := (-1)) hx hb hr (fun t ht hW => ⟨⟨(-1), (), rfl, (if_pos ho).symm, trivial⟩, hS.F ht⟩) hS.2.2 dX12_has_127
set_option maxHeartbeats 4000000 in
set_option maxRecDepth 100000 in
theorem mX12_word (l : Launch) (dC : Nat → ClassId) (dI : Nat → Nat → Nat) (rm : Nat → Nat) (km : Nat → ClassId) (p1 : Int32) (p2 : Int32) (sz : Nat) : Met l yX12_word (Cond.code yX12_word cX12_word 3 (some .int) :: wA) ({ frames := 0, cells := 0, slots := 0, locals := 0 }) (va_Pc [.ref (rm 0), .int p1, .int p2] (fun U => U.heap.size = sz ∧ va_P (dC, dI) vwCl (wd_758 rm km) U.heap ∧ va_K (dC, dI) vwCl [((km 0), .int), ((km 1), .int), ((km 2), .int), ((km 3), .int)] U ∧ va_D (fun _ => True) (wd_758 rm km))) (va_Qi (fun (r : Int32) (_ : Unit) => r = (-1000000)) (fun _ t => True) (va_A (wd_758 rm km) sz)) 0 0 (va_A (wd_758 rm km) sz) := by
  refine Met.ofW (cc := cX12_word) (maxL := 3) (ret := (some .int)) (by decide) rfl ?_
  intro p e s m args below meth c s₁ B hml hv
  obtain ⟨rfl, hsz, hP, hK, hD0⟩ := hv
  have hx := B.exec
  have hb := B.bytes
  have hr := B.returns
  have hts : ∀ w ∈ wA, w.before [.ref (rm 0), .int p1, .int p2].toArray s = true := fun w h => atoms_spec (ws := Cond.code yX12_word cX12_word 3 (some .int) :: wA) B.pre w (List.mem_cons_of_mem _ h)
  have hown : s.vm.findClass RX12 = some m.cls := findClass_of_methodNamed B.named
  have hlocks := B.notSynchronized
  subst hsz
  have hD := hD0.self (sz := s.heap.size)
  generalize hAe : va_A (wd_758 rm km) s.heap.size = A at hD ⊢
  have hA : ∀ q : Nat, s.heap.size ≤ q → A q := fun q h => by rw [← hAe]; exact Or.inr h
  have hS : va_S A s.heap s.heap [] := va_S.rf
  have hl := lv_entry ([.ref (rm 0), .int p1, .int p2]) (n := 3) (Nat.le_of_ble_eq_true rfl)
  rw [lg_entry_eq]
  generalize (lg_sl ([.ref (rm 0), .int p1, .int p2]) ++ List.replicate (3 - (lg_sl ([.ref (rm 0), .int p1, .int p2])).length) Slot.unset).toArray = ls at hl ⊢
  have hl : lv_has ls 3 [(0, .ref (rm 0)), (1, .int p1), (2, .int p2)] := hl
  refine lv_aload_n hx hb dX12_word_0 rfl (lv_at hl 0 rfl) ?_
  refine va_get (D := (dC, dI)) (ci := 12) (v := .int 0) (C := RX12) (T := TX12) (N := 84) hx hb hts i_X12 hown hK hP 0 rfl rfl 38 (by decide) (hts _ q_442) (fun _ h9 => h9) rfl dX12_word_1 ?_
  refine lv_if_eq (tgt := 35) hx hb dX12_word_4 (by decide) (fun c_0 => ?_) (fun c_0 => absurd c_0 (by decide))
  refine lv_ldcw (v := (-1000000)) hx hb hown (hts _ q_443) dX12_word_35 ?_
  refine W.widen (k := 0) (n := 0) (Nat.le_of_ble_eq_true rfl) (Nat.le_of_ble_eq_true rfl) ?_
  exact W.iret (v := (-1000000)) hx hb hr (fun t ht hW => ⟨⟨(-1000000), (), rfl, rfl, trivial⟩, hS.F ht⟩) hS.2.2 dX12_word_38
set_option maxHeartbeats 4000000 in
set_option maxRecDepth 100000 in
theorem mX12_stage (l : Launch) (dC : Nat → ClassId) (dI : Nat → Nat → Nat) (rm : Nat → Nat) (km : Nat → ClassId) (p1 : Int32) (sz : Nat) : Met l yX12_stage (Cond.code yX12_stage cX12_stage 3 (some .int) :: wA) ({ frames := 0, cells := 0, slots := 0, locals := 0 }) (va_Pc [.ref (rm 0), .int p1] (fun U => U.heap.size = sz ∧ va_P (dC, dI) vwCl (wd_758 rm km) U.heap ∧ va_K (dC, dI) vwCl [((km 0), .int), ((km 1), .int), ((km 2), .int), ((km 3), .int)] U ∧ va_D (fun _ => True) (wd_758 rm km))) (va_Qi (fun (r : Int32) (_ : Unit) => r = (-1000000)) (fun _ t => True) (va_A (wd_758 rm km) sz)) 0 0 (va_A (wd_758 rm km) sz) := by
  refine Met.ofW (cc := cX12_stage) (maxL := 3) (ret := (some .int)) (by decide) rfl ?_
  intro p e s m args below meth c s₁ B hml hv
  obtain ⟨rfl, hsz, hP, hK, hD0⟩ := hv
  have hx := B.exec
  have hb := B.bytes
  have hr := B.returns
  have hts : ∀ w ∈ wA, w.before [.ref (rm 0), .int p1].toArray s = true := fun w h => atoms_spec (ws := Cond.code yX12_stage cX12_stage 3 (some .int) :: wA) B.pre w (List.mem_cons_of_mem _ h)
  have hown : s.vm.findClass RX12 = some m.cls := findClass_of_methodNamed B.named
  have hlocks := B.notSynchronized
  subst hsz
  have hD := hD0.self (sz := s.heap.size)
  generalize hAe : va_A (wd_758 rm km) s.heap.size = A at hD ⊢
  have hA : ∀ q : Nat, s.heap.size ≤ q → A q := fun q h => by rw [← hAe]; exact Or.inr h
  have hS : va_S A s.heap s.heap [] := va_S.rf
  have hl := lv_entry ([.ref (rm 0), .int p1]) (n := 3) (Nat.le_of_ble_eq_true rfl)
  rw [lg_entry_eq]
  generalize (lg_sl ([.ref (rm 0), .int p1]) ++ List.replicate (3 - (lg_sl ([.ref (rm 0), .int p1])).length) Slot.unset).toArray = ls at hl ⊢
  have hl : lv_has ls 3 [(0, .ref (rm 0)), (1, .int p1)] := hl
  refine lv_aload_n hx hb dX12_stage_0 rfl (lv_at hl 0 rfl) ?_
  refine va_get (D := (dC, dI)) (ci := 12) (v := .ref (rm 22)) (C := RX12) (T := TX12) (N := 84) hx hb hts i_X12 hown hK hP 0 rfl rfl 35 (by decide) (hts _ q_210) (fun _ h9 => h9) rfl dX12_stage_1 ?_
  refine lv_iconst (v := 3) hx hb dX12_stage_4 (by decide) ?_
  refine va_iald hx hb hK hP 3 2 rfl rfl (vpi (by decide)) dX12_stage_5 ?_
  refine lv_topi (fun x_1376 ex_1376 => ?_)
  obtain rfl : x_1376 = 0 := ex_1376
  refine lv_if_eq (tgt := 21) hx hb dX12_stage_6 (by decide) (fun c_0 => ?_) (fun c_0 => absurd c_0 (by decide))
  refine lv_ldcw (v := (-1000000)) hx hb hown (hts _ q_443) dX12_stage_21 ?_
  refine W.widen (k := 0) (n := 0) (Nat.le_of_ble_eq_true rfl) (Nat.le_of_ble_eq_true rfl) ?_
  exact W.iret (v := (-1000000)) hx hb hr (fun t ht hW => ⟨⟨(-1000000), (), rfl, rfl, trivial⟩, hS.F ht⟩) hS.2.2 dX12_stage_24
set_option maxHeartbeats 4000000 in
set_option maxRecDepth 100000 in
theorem mX12_kept (l : Launch) (dC : Nat → ClassId) (dI : Nat → Nat → Nat) (rm : Nat → Nat) (km : Nat → ClassId) (p1 : Int32) (p2 : Int32) (sz : Nat) : Met l yX12_kept (Cond.code yX12_kept cX12_kept 3 (some .int) :: wA) ({ frames := 1, cells := 0, slots := 0, locals := 25 }) (va_Pc [.ref (rm 0), .int p1, .int p2] (fun U => U.heap.size = sz ∧ va_P (dC, dI) vwCl (wd_758 rm km) U.heap ∧ va_K (dC, dI) vwCl [((km 0), .int), ((km 1), .int), ((km 2), .int), ((km 3), .int)] U ∧ va_D (fun _ => True) (wd_758 rm km))) (va_Qi (fun (r : Int32) (_ : Unit) => r = (-1)) (fun _ t => True) (va_A (wd_758 rm km) sz)) 0 0 (va_A (wd_758 rm km) sz) := by
  refine Met.ofW (cc := cX12_kept) (maxL := 3) (ret := (some .int)) (by decide) rfl ?_
  intro p e s m args below meth c s₁ B hml hv
  obtain ⟨rfl, hsz, hP, hK, hD0⟩ := hv
  have hx := B.exec
  have hb := B.bytes
  have hr := B.returns
  have hts : ∀ w ∈ wA, w.before [.ref (rm 0), .int p1, .int p2].toArray s = true := fun w h => atoms_spec (ws := Cond.code yX12_kept cX12_kept 3 (some .int) :: wA) B.pre w (List.mem_cons_of_mem _ h)
  have hown : s.vm.findClass RX12 = some m.cls := findClass_of_methodNamed B.named
  have hlocks := B.notSynchronized
  subst hsz
  have hD := hD0.self (sz := s.heap.size)
  generalize hAe : va_A (wd_758 rm km) s.heap.size = A at hD ⊢
  have hA : ∀ q : Nat, s.heap.size ≤ q → A q := fun q h => by rw [← hAe]; exact Or.inr h
  have hS : va_S A s.heap s.heap [] := va_S.rf
  have hl := lv_entry ([.ref (rm 0), .int p1, .int p2]) (n := 3) (Nat.le_of_ble_eq_true rfl)
  rw [lg_entry_eq]
  generalize (lg_sl ([.ref (rm 0), .int p1, .int p2]) ++ List.replicate (3 - (lg_sl ([.ref (rm 0), .int p1, .int p2])).length) Slot.unset).toArray = ls at hl ⊢
  have hl : lv_has ls 3 [(0, .ref (rm 0)), (1, .int p1), (2, .int p2)] := hl
  refine lv_iload_n hx hb dX12_kept_0 rfl (lv_at hl 1 rfl) ?_
  refine lv_i2l (v := p1.toInt64) hx hb dX12_kept_1 rfl ?_
  refine lv_lconst (v := 0) hx hb dX12_kept_2 (by decide) ?_
  refine lv_aload_n hx hb dX12_kept_3 rfl (lv_at hl 0 rfl) ?_
  refine va_get (D := (dC, dI)) (ci := 12) (v := .ref (rm 22)) (C := RX12) (T := TX12) (N := 84) hx hb hts i_X12 hown hK hP 0 rfl rfl 35 (by decide) (hts _ q_210) (fun _ h9 => h9) rfl dX12_kept_4 ?_
  refine lv_iconst (v := 5) hx hb dX12_kept_7 (by decide) ?_
  refine va_iald hx hb hK hP 3 2 rfl rfl (vpi (by decide)) dX12_kept_8 ?_
  refine lv_topi (fun x_1380 ex_1380 => ?_)
  obtain rfl : x_1380 = 0 := ex_1380
  refine lv_iconst (v := 1) hx hb dX12_kept_9 (by decide) ?_
  refine lv_isub hx hb dX12_kept_10 ?_
  refine lv_topi (fun x_1381 ex_1381 => ?_)
  obtain rfl : x_1381 = (-1) := ex_1381.trans (by decide)
  refine lv_i2l (v := (-1)) hx hb dX12_kept_11 (by decide) ?_
  have hPc := hP.sub (ws' := []) [] rfl
  have hDc := hD.sub (ws' := []) [] (by decide) rfl
  have hKc := hK.sub (tys' := []) [] rfl
  have hFc := va_free (wc := []) hD hS hA [] rfl
  refine va_calli (va_runS (As := [.long p1.toInt64, .long 0, .long (-1)]) (rest := []) ⟨hx, hb, hml, hown, hts⟩ (c_isInN l dC dI p1.toInt64 0 (-1) s.heap.size isin_k) (va_cwS 3 hts (gS q_446 q_447 q_372 q_364) rfl rfl rfl mds_yX12_isIn ⟨Nat.le_of_ble_eq_true rfl, Nat.le_of_ble_eq_true rfl⟩) ⟨fun a U g mk q => by obtain ⟨q0, q1, qP, qK, qD⟩ := q; exact ⟨q0, q1, qP, va_K.moved (u := U) (U := U.calling g mk a) (Vm.Alike.refl U.vm) qK, qD⟩, fun U hU hW => ⟨rfl, by rw [hU], by rw [hU]; exact hPc, va_K.moved hW.alike hKc, hDc.weaken (fun _ _ _ _ => trivial)⟩⟩ rfl rfl hl.1 rfl (lv_room (Nat.le_of_ble_eq_true rfl)) dX12_kept_12 ⟨Nat.le_of_ble_eq_true rfl, Nat.le_of_ble_eq_true rfl⟩) hS (fun q _ h => hFc q h) hFc (fun r_1382 u t H1 locs ht hvm hw hB hz1 hk1 hS => ?_)
  obtain ⟨hP1, hK1, hD1⟩ := hB
  rw [ht] at hP1
  have hK1 := va_K.moved hvm.symm hK1
  obtain ⟨hP, hD⟩ := va_join (wr := (wd_758 rm km)) (w1 := []) hP hD [] [0, 1, 2, 3, 4] rfl rfl (by decide) (by decide) hk1 hFc hP1 hD1
  generalize H1 = H at hP hS ⊢
  have hP : va_P (dC, dI) vwCl (wd_758 rm km) H := hP
  have hD : va_D A (wd_758 rm km) := hD
  obtain rfl : r_1382 = 0 := hw
  refine lv_if_eq (tgt := 46) hx hb dX12_kept_15 (by decide) (fun c_0 => ?_) (fun c_0 => absurd c_0 (by decide))
  refine lv_iconst (v := (-1)) hx hb dX12_kept_46 (by decide) ?_
  refine W.widen (k := 0) (n := 0) (Nat.le_of_ble_eq_true rfl) (Nat.le_of_ble_eq_true rfl) ?_
  exact W.iret (v := (-1)) hx hb hr (fun t ht hW => ⟨⟨(-1), (), rfl, rfl, trivial⟩, hS.F ht⟩) hS.2.2 dX12_kept_47
set_option maxHeartbeats 4000000 in
set_option maxRecDepth 100000 in
theorem c106_X12_isAsked (l : Launch) (dC : Nat → ClassId) (dI : Nat → Nat → Nat) (rm : Nat → Nat) (km : Nat → ClassId) (sz : Nat) : Met l yX12_isAsked (Cond.code yX12_isAsked cX12_isAsked 1 (some .boolean) :: wA) ({ frames := 0, cells := 0, slots := 0, locals := 0 }) (va_Pc [.ref (rm 0)] (fun U => U.heap.size = sz ∧ va_P (dC, dI) vwCl (wd_758 rm km) U.heap ∧ va_K (dC, dI) vwCl [((km 0), .int), ((km 1), .int), ((km 2), .int), ((km 3), .int)] U ∧ va_D (fun _ => True) (wd_758 rm km))) (va_Qi (fun (r : Int32) (_ : Unit) => r = 0) (fun _ t => va_P (dC, dI) vwCl (wd_758 rm km) t.heap ∧ va_K (dC, dI) vwCl [((km 0), .int), ((km 1), .int), ((km 2), .int), ((km 3), .int)] t ∧ va_D (va_A (wd_758 rm km) sz) (wd_758 rm km)) (va_A (wd_758 rm km) sz)) 0 0 (va_A (wd_758 rm km) sz) := by
  refine Met.ofW (cc := cX12_isAsked) (maxL := 1) (ret := (some .boolean)) (by decide) rfl ?_
  intro p e s m args below meth c s₁ B hml hv
  obtain ⟨rfl, hsz, hP, hK, hD0⟩ := hv
  have hx := B.exec
  have hb := B.bytes
  have hr := B.returns
  have hts : ∀ w ∈ wA, w.before [.ref (rm 0)].toArray s = true := fun w h => atoms_spec (ws := Cond.code yX12_isAsked cX12_isAsked 1 (some .boolean) :: wA) B.pre w (List.mem_cons_of_mem _ h)
  have hown : s.vm.findClass RX12 = some m.cls := findClass_of_methodNamed B.named
  have hlocks := B.notSynchronized
  subst hsz
  have hD := hD0.self (sz := s.heap.size)
  generalize hAe : va_A (wd_758 rm km) s.heap.size = A at hD ⊢
  have hA : ∀ q : Nat, s.heap.size ≤ q → A q := fun q h => by rw [← hAe]; exact Or.inr h
  have hS : va_S A s.heap s.heap [] := va_S.rf
  have hl := lv_entry ([.ref (rm 0)]) (n := 1) (Nat.le_of_ble_eq_true rfl)
  rw [lg_entry_eq]
  generalize (lg_sl ([.ref (rm 0)]) ++ List.replicate (1 - (lg_sl ([.ref (rm 0)])).length) Slot.unset).toArray = ls at hl ⊢
  have hl : lv_has ls 1 [(0, .ref (rm 0))] := hl
  refine lv_aload_n hx hb dX12_isAsked_0 rfl (lv_at hl 0 rfl) ?_
  refine va_get (D := (dC, dI)) (ci := 12) (v := .int 0) (C := RX12) (T := TX12) (N := 84) hx hb hts i_X12 hown hK hP 0 rfl rfl 38 (by decide) (hts _ q_442) (fun _ h9 => h9) rfl dX12_isAsked_1 ?_
  refine lv_if_eq (tgt := 17) hx hb dX12_isAsked_4 (by decide) (fun c_0 => ?_) (fun c_0 => absurd c_0 (by decide))
  refine lv_iconst (v := 0) hx hb dX12_isAsked_17 (by decide) ?_
  refine W.widen (k := 0) (n := 0) (Nat.le_of_ble_eq_true rfl) (Nat.le_of_ble_eq_true rfl) ?_
  have hP9 := hP.sub (ws' := (wd_758 rm km)) [0, 1, 2, 3, 4] rfl
  have hD9 := hD.sub (ws' := (wd_758 rm km)) [0, 1, 2, 3, 4] (by decide) rfl
  have hK9 := hK.sub (tys' := [((km 0), .int), ((km 1), .int), ((km 2), .int), ((km 3), .int)]) [0, 1, 2, 3] rfl
  exact W.zret (v := 0) hx hb hr rfl (fun t ht hW => ⟨⟨0, (), rfl, rfl, by rw [ht]; exact hP9, va_K.moved hW.alike hK9, hD9⟩, hS.F ht⟩) hS.2.2 dX12_isAsked_18
set_option maxHeartbeats 4000000 in
set_option maxRecDepth 100000 in
theorem mX12_cell (l : Launch) (dC : Nat → ClassId) (dI : Nat → Nat → Nat) (rm : Nat → Nat) (km : Nat → ClassId) (p1 : Int32) (p2 : Int32) (sz : Nat) : Met l yX12_cell (Cond.code yX12_cell cX12_cell 3 (some .int) :: wA) ({ frames := 1, cells := 0, slots := 0, locals := 20 }) (va_Pc [.ref (rm 0), .int p1, .int p2] (fun U => U.heap.size = sz ∧ va_P (dC, dI) vwCl (wd_758 rm km) U.heap ∧ va_K (dC, dI) vwCl [((km 0), .int), ((km 1), .int), ((km 2), .int), ((km 3), .int)] U ∧ va_D (fun _ => True) (wd_758 rm km))) (va_Qi (fun (r : Int32) (_ : Unit) => r = (-1)) (fun _ t => True) (va_A (wd_758 rm km) sz)) 0 0 (va_A (wd_758 rm km) sz) := by
  refine Met.ofW (cc := cX12_cell) (maxL := 3) (ret := (some .int)) (by decide) rfl ?_
  intro p e s m args below meth c s₁ B hml hv
  obtain ⟨rfl, hsz, hP, hK, hD0⟩ := hv
  have hx := B.exec
  have hb := B.bytes
  have hr := B.returns
  have hts : ∀ w ∈ wA, w.before [.ref (rm 0), .int p1, .int p2].toArray s = true := fun w h => atoms_spec (ws := Cond.code yX12_cell cX12_cell 3 (some .int) :: wA) B.pre w (List.mem_cons_of_mem _ h)
  have hown : s.vm.findClass RX12 = some m.cls := findClass_of_methodNamed B.named
  have hlocks := B.notSynchronized
  subst hsz
  have hD := hD0.self (sz := s.heap.size)
  generalize hAe : va_A (wd_758 rm km) s.heap.size = A at hD ⊢
  have hA : ∀ q : Nat, s.heap.size ≤ q → A q := fun q h => by rw [← hAe]; exact Or.inr h
  have hS : va_S A s.heap s.heap [] := va_S.rf
  have hl := lv_entry ([.ref (rm 0), .int p1, .int p2]) (n := 3) (Nat.le_of_ble_eq_true rfl)
  rw [lg_entry_eq]
  generalize (lg_sl ([.ref (rm 0), .int p1, .int p2]) ++ List.replicate (3 - (lg_sl ([.ref (rm 0), .int p1, .int p2])).length) Slot.unset).toArray = ls at hl ⊢
  have hl : lv_has ls 3 [(0, .ref (rm 0)), (1, .int p1), (2, .int p2)] := hl
  refine lv_aload_n hx hb dX12_cell_0 rfl (lv_at hl 0 rfl) ?_
  have hPc := hP.sub (ws' := (wd_758 rm km)) [0, 1, 2, 3, 4] rfl
  have hDc := hD.sub (ws' := (wd_758 rm km)) [0, 1, 2, 3, 4] (by decide) rfl
  have hKc := hK.sub (tys' := [((km 0), .int), ((km 1), .int), ((km 2), .int), ((km 3), .int)]) [0, 1, 2, 3] rfl
  have hFc := va_free (wc := (wd_758 rm km)) hD hS hA [0, 1, 2, 3, 4] rfl
  refine va_calli (va_runV (As := []) (rest := []) ⟨hx, hb, hml, hown, hts⟩ (c106_X12_isAsked l dC dI rm km s.heap.size) (cwV 0 hts (gV q_450 q_451 q_452 q_372 q_449) rfl rfl rfl mdv_yX12_isAsked ⟨Nat.le_of_ble_eq_true rfl, Nat.le_of_ble_eq_true rfl⟩) ⟨fun a U g mk q => by obtain ⟨q0, q1, qP, qK, qD⟩ := q; exact ⟨q0, q1, qP, va_K.moved (u := U) (U := U.calling g mk a) (Vm.Alike.refl U.vm) qK, qD⟩, va_recv hKc hPc (ci := 12) (q0 := 0) rfl rfl, fun U hU hW => ⟨rfl, by rw [hU], by rw [hU]; exact hPc, va_K.moved hW.alike hKc, hDc.weaken (fun _ _ _ _ => trivial)⟩⟩ rfl rfl hl.1 rfl (lv_room (Nat.le_of_ble_eq_true rfl)) dX12_cell_1 ⟨Nat.le_of_ble_eq_true rfl, Nat.le_of_ble_eq_true rfl⟩) hS (fun q _ h => hFc q h) hFc (fun r_1384 u t H1 locs ht hvm hw hB hz1 hk1 hS => ?_)
  obtain ⟨hP1, hK1, hD1⟩ := hB
  rw [ht] at hP1
  have hK1 := va_K.moved hvm.symm hK1
  obtain ⟨hP, hD⟩ := va_join (wr := []) (w1 := (wd_758 rm km)) hP hD [0, 1, 2, 3, 4] [] rfl rfl (by decide) (by decide) hk1 hFc hP1 hD1
  generalize H1 = H at hP hS ⊢
  have hP : va_P (dC, dI) vwCl (wd_758 rm km) H := hP
  have hD : va_D A (wd_758 rm km) := hD
  obtain rfl : r_1384 = 0 := hw
  refine lv_if_eq (tgt := 23) hx hb dX12_cell_4 (by decide) (fun c_0 => ?_) (fun c_0 => absurd c_0 (by decide))
  refine lv_iconst (v := (-1)) hx hb dX12_cell_23 (by decide) ?_
  refine W.widen (k := 0) (n := 0) (Nat.le_of_ble_eq_true rfl) (Nat.le_of_ble_eq_true rfl) ?_
  exact W.iret (v := (-1)) hx hb hr (fun t ht hW => ⟨⟨(-1), (), rfl, rfl, trivial⟩, hS.F ht⟩) hS.2.2 dX12_cell_24
set_option maxHeartbeats 4000000 in
set_option maxRecDepth 100000 in
theorem c108_X12_isAskedOf (l : Launch) (dC : Nat → ClassId) (dI : Nat → Nat → Nat) (rm : Nat → Nat) (km : Nat → ClassId) (p0 : Int32) (sz : Nat) : Met l yX12_isAskedOf (Cond.code yX12_isAskedOf cX12_isAskedOf 2 (some .boolean) :: wA) ({ frames := 1, cells := 0, slots := 0, locals := 20 }) (va_Pc [.ref (rm 0), .int p0] (fun U => U.heap.size = sz ∧ va_P (dC, dI) vwCl (wd_758 rm km) U.heap ∧ va_K (dC, dI) vwCl [((km 0), .int), ((km 1), .int), ((km 2), .int), ((km 3), .int)] U ∧ va_D (fun _ => True) (wd_758 rm km))) (va_Qi (fun (r : Int32) (_ : Unit) => r = 0) (fun _ t => va_P (dC, dI) vwCl (wd_758 rm km) t.heap ∧ va_K (dC, dI) vwCl [((km 0), .int), ((km 1), .int), ((km 2), .int), ((km 3), .int)] t ∧ va_D (va_A (wd_758 rm km) sz) (wd_758 rm km)) (va_A (wd_758 rm km) sz)) 0 0 (va_A (wd_758 rm km) sz) := by
  refine Met.ofW (cc := cX12_isAskedOf) (maxL := 2) (ret := (some .boolean)) (by decide) rfl ?_
  intro p e s m args below meth c s₁ B hml hv
  obtain ⟨rfl, hsz, hP, hK, hD0⟩ := hv
  have hx := B.exec
  have hb := B.bytes
  have hr := B.returns
  have hts : ∀ w ∈ wA, w.before [.ref (rm 0), .int p0].toArray s = true := fun w h => atoms_spec (ws := Cond.code yX12_isAskedOf cX12_isAskedOf 2 (some .boolean) :: wA) B.pre w (List.mem_cons_of_mem _ h)
  have hown : s.vm.findClass RX12 = some m.cls := findClass_of_methodNamed B.named
  have hlocks := B.notSynchronized
  subst hsz
  have hD := hD0.self (sz := s.heap.size)
  generalize hAe : va_A (wd_758 rm km) s.heap.size = A at hD ⊢
  have hA : ∀ q : Nat, s.heap.size ≤ q → A q := fun q h => by rw [← hAe]; exact Or.inr h
  have hS : va_S A s.heap s.heap [] := va_S.rf
  have hl := lv_entry ([.ref (rm 0), .int p0]) (n := 2) (Nat.le_of_ble_eq_true rfl)
  rw [lg_entry_eq]
  generalize (lg_sl ([.ref (rm 0), .int p0]) ++ List.replicate (2 - (lg_sl ([.ref (rm 0), .int p0])).length) Slot.unset).toArray = ls at hl ⊢
  have hl : lv_has ls 2 [(0, .ref (rm 0)), (1, .int p0)] := hl
  refine lv_aload_n hx hb dX12_isAskedOf_0 rfl (lv_at hl 0 rfl) ?_
  have hPc := hP.sub (ws' := (wd_758 rm km)) [0, 1, 2, 3, 4] rfl
  have hDc := hD.sub (ws' := (wd_758 rm km)) [0, 1, 2, 3, 4] (by decide) rfl
  have hKc := hK.sub (tys' := [((km 0), .int), ((km 1), .int), ((km 2), .int), ((km 3), .int)]) [0, 1, 2, 3] rfl
  have hFc := va_free (wc := (wd_758 rm km)) hD hS hA [0, 1, 2, 3, 4] rfl
  refine va_calli (va_runV (As := []) (rest := []) ⟨hx, hb, hml, hown, hts⟩ (c106_X12_isAsked l dC dI rm km s.heap.size) (cwV 0 hts (gV q_450 q_451 q_452 q_372 q_449) rfl rfl rfl mdv_yX12_isAsked ⟨Nat.le_of_ble_eq_true rfl, Nat.le_of_ble_eq_true rfl⟩) ⟨fun a U g mk q => by obtain ⟨q0, q1, qP, qK, qD⟩ := q; exact ⟨q0, q1, qP, va_K.moved (u := U) (U := U.calling g mk a) (Vm.Alike.refl U.vm) qK, qD⟩, va_recv hKc hPc (ci := 12) (q0 := 0) rfl rfl, fun U hU hW => ⟨rfl, by rw [hU], by rw [hU]; exact hPc, va_K.moved hW.alike hKc, hDc.weaken (fun _ _ _ _ => trivial)⟩⟩ rfl rfl hl.1 rfl (lv_room (Nat.le_of_ble_eq_true rfl)) dX12_isAskedOf_1 ⟨Nat.le_of_ble_eq_true rfl, Nat.le_of_ble_eq_true rfl⟩) hS (fun q _ h => hFc q h) hFc (fun r_1386 u t H1 locs ht hvm hw hB hz1 hk1 hS => ?_)
  obtain ⟨hP1, hK1, hD1⟩ := hB
  rw [ht] at hP1
  have hK1 := va_K.moved hvm.symm hK1
  obtain ⟨hP, hD⟩ := va_join (wr := []) (w1 := (wd_758 rm km)) hP hD [0, 1, 2, 3, 4] [] rfl rfl (by decide) (by decide) hk1 hFc hP1 hD1
  generalize H1 = H at hP hS ⊢
  have hP : va_P (dC, dI) vwCl (wd_758 rm km) H := hP
  have hD : va_D A (wd_758 rm km) := hD
  obtain rfl : r_1386 = 0 := hw
  refine lv_if_eq (tgt := 27) hx hb dX12_isAskedOf_4 (by decide) (fun c_0 => ?_) (fun c_0 => absurd c_0 (by decide))
  refine lv_iconst (v := 0) hx hb dX12_isAskedOf_27 (by decide) ?_
  refine W.widen (k := 0) (n := 0) (Nat.le_of_ble_eq_true rfl) (Nat.le_of_ble_eq_true rfl) ?_
  have hP9 := hP.sub (ws' := (wd_758 rm km)) [0, 1, 2, 3, 4] rfl
  have hD9 := hD.sub (ws' := (wd_758 rm km)) [0, 1, 2, 3, 4] (by decide) rfl
  have hK9 := hK.sub (tys' := [((km 0), .int), ((km 1), .int), ((km 2), .int), ((km 3), .int)]) [0, 1, 2, 3] rfl
  exact W.zret (v := 0) hx hb hr rfl (fun t ht hW => ⟨⟨0, (), rfl, rfl, by rw [ht]; exact hP9, va_K.moved hW.alike hK9, hD9⟩, hS.F ht⟩) hS.2.2 dX12_isAskedOf_28
set_option maxHeartbeats 4000000 in
set_option maxRecDepth 100000 in
theorem mX12_cellOf (l : Launch) (dC : Nat → ClassId) (dI : Nat → Nat → Nat) (rm : Nat → Nat) (km : Nat → ClassId) (p1 : Int32) (sz : Nat) : Met l yX12_cellOf (Cond.code yX12_cellOf cX12_cellOf 2 (some .int) :: wA) ({ frames := 2, cells := 0, slots := 0, locals := 41 }) (va_Pc [.ref (rm 0), .int p1] (fun U => U.heap.size = sz ∧ va_P (dC, dI) vwCl (wd_758 rm km) U.heap ∧ va_K (dC, dI) vwCl [((km 0), .int), ((km 1), .int), ((km 2), .int), ((km 3), .int)] U ∧ va_D (fun _ => True) (wd_758 rm km))) (va_Qi (fun (r : Int32) (_ : Unit) => r = (-1)) (fun _ t => True) (va_A (wd_758 rm km) sz)) 0 0 (va_A (wd_758 rm km) sz) := by
  refine Met.ofW (cc := cX12_cellOf) (maxL := 2) (ret := (some .int)) (by decide) rfl ?_
  intro p e s m args below meth c s₁ B hml hv
  obtain ⟨rfl, hsz, hP, hK, hD0⟩ := hv
  have hx := B.exec
  have hb := B.bytes
  have hr := B.returns
  have hts : ∀ w ∈ wA, w.before [.ref (rm 0), .int p1].toArray s = true := fun w h => atoms_spec (ws := Cond.code yX12_cellOf cX12_cellOf 2 (some .int) :: wA) B.pre w (List.mem_cons_of_mem _ h)
  have hown : s.vm.findClass RX12 = some m.cls := findClass_of_methodNamed B.named
  have hlocks := B.notSynchronized
  subst hsz
  have hD := hD0.self (sz := s.heap.size)
  generalize hAe : va_A (wd_758 rm km) s.heap.size = A at hD ⊢
  have hA : ∀ q : Nat, s.heap.size ≤ q → A q := fun q h => by rw [← hAe]; exact Or.inr h
  have hS : va_S A s.heap s.heap [] := va_S.rf
  have hl := lv_entry ([.ref (rm 0), .int p1]) (n := 2) (Nat.le_of_ble_eq_true rfl)
  rw [lg_entry_eq]
  generalize (lg_sl ([.ref (rm 0), .int p1]) ++ List.replicate (2 - (lg_sl ([.ref (rm 0), .int p1])).length) Slot.unset).toArray = ls at hl ⊢
  have hl : lv_has ls 2 [(0, .ref (rm 0)), (1, .int p1)] := hl
  refine lv_aload_n hx hb dX12_cellOf_0 rfl (lv_at hl 0 rfl) ?_
  refine lv_iload_n hx hb dX12_cellOf_1 rfl (lv_at hl 1 rfl) ?_
  have hPc := hP.sub (ws' := (wd_758 rm km)) [0, 1, 2, 3, 4] rfl
  have hDc := hD.sub (ws' := (wd_758 rm km)) [0, 1, 2, 3, 4] (by decide) rfl
  have hKc := hK.sub (tys' := [((km 0), .int), ((km 1), .int), ((km 2), .int), ((km 3), .int)]) [0, 1, 2, 3] rfl
  have hFc := va_free (wc := (wd_758 rm km)) hD hS hA [0, 1, 2, 3, 4] rfl
  refine va_calli (va_runV (As := [.int p1]) (rest := []) ⟨hx, hb, hml, hown, hts⟩ (c108_X12_isAskedOf l dC dI rm km p1 s.heap.size) (cwV 1 hts (gV q_455 q_456 q_457 q_372 q_454) rfl rfl rfl mdv_yX12_isAskedOf ⟨Nat.le_of_ble_eq_true rfl, Nat.le_of_ble_eq_true rfl⟩) ⟨fun a U g mk q => by obtain ⟨q0, q1, qP, qK, qD⟩ := q; exact ⟨q0, q1, qP, va_K.moved (u := U) (U := U.calling g mk a) (Vm.Alike.refl U.vm) qK, qD⟩, va_recv hKc hPc (ci := 12) (q0 := 0) rfl rfl, fun U hU hW => ⟨rfl, by rw [hU], by rw [hU]; exact hPc, va_K.moved hW.alike hKc, hDc.weaken (fun _ _ _ _ => trivial)⟩⟩ rfl rfl hl.1 rfl (lv_room (Nat.le_of_ble_eq_true rfl)) dX12_cellOf_2 ⟨Nat.le_of_ble_eq_true rfl, Nat.le_of_ble_eq_true rfl⟩) hS (fun q _ h => hFc q h) hFc (fun r_1388 u t H1 locs ht hvm hw hB hz1 hk1 hS => ?_)
  obtain ⟨hP1, hK1, hD1⟩ := hB
  rw [ht] at hP1
  have hK1 := va_K.moved hvm.symm hK1
  obtain ⟨hP, hD⟩ := va_join (wr := []) (w1 := (wd_758 rm km)) hP hD [0, 1, 2, 3, 4] [] rfl rfl (by decide) (by decide) hk1 hFc hP1 hD1
  generalize H1 = H at hP hS ⊢
  have hP : va_P (dC, dI) vwCl (wd_758 rm km) H := hP
  have hD : va_D A (wd_758 rm km) := hD
  obtain rfl : r_1388 = 0 := hw
  refine lv_if_eq (tgt := 32) hx hb dX12_cellOf_5 (by decide) (fun c_0 => ?_) (fun c_0 => absurd c_0 (by decide))
  refine lv_iconst (v := (-1)) hx hb dX12_cellOf_32 (by decide) ?_
  refine W.widen (k := 0) (n := 0) (Nat.le_of_ble_eq_true rfl) (Nat.le_of_ble_eq_true rfl) ?_
  exact W.iret (v := (-1)) hx hb hr (fun t ht hW => ⟨⟨(-1), (), rfl, rfl, trivial⟩, hS.F ht⟩) hS.2.2 dX12_cellOf_33
set_option maxHeartbeats 4000000 in
set_option maxRecDepth 100000 in
theorem mX12_goes (l : Launch) (dC : Nat → ClassId) (dI : Nat → Nat → Nat) (rm : Nat → Nat) (km : Nat → ClassId) (p1 : Int32) (sz : Nat) : Met l yX12_goes (Cond.code yX12_goes cX12_goes 2 (some .int) :: wA) ({ frames := 2, cells := 0, slots := 0, locals := 41 }) (va_Pc [.ref (rm 0), .int p1] (fun U => U.heap.size = sz ∧ va_P (dC, dI) vwCl (wd_758 rm km) U.heap ∧ va_K (dC, dI) vwCl [((km 0), .int), ((km 1), .int), ((km 2), .int), ((km 3), .int)] U ∧ va_D (fun _ => True) (wd_758 rm km))) (va_Qi (fun (r : Int32) (_ : Unit) => r = (-1)) (fun _ t => True) (va_A (wd_758 rm km) sz)) 0 0 (va_A (wd_758 rm km) sz) := by
  refine Met.ofW (cc := cX12_goes) (maxL := 2) (ret := (some .int)) (by decide) rfl ?_
  intro p e s m args below meth c s₁ B hml hv
  obtain ⟨rfl, hsz, hP, hK, hD0⟩ := hv
  have hx := B.exec
  have hb := B.bytes
  have hr := B.returns
  have hts : ∀ w ∈ wA, w.before [.ref (rm 0), .int p1].toArray s = true := fun w h => atoms_spec (ws := Cond.code yX12_goes cX12_goes 2 (some .int) :: wA) B.pre w (List.mem_cons_of_mem _ h)
  have hown : s.vm.findClass RX12 = some m.cls := findClass_of_methodNamed B.named
  have hlocks := B.notSynchronized
  subst hsz
  have hD := hD0.self (sz := s.heap.size)
  generalize hAe : va_A (wd_758 rm km) s.heap.size = A at hD ⊢
  have hA : ∀ q : Nat, s.heap.size ≤ q → A q := fun q h => by rw [← hAe]; exact Or.inr h
  have hS : va_S A s.heap s.heap [] := va_S.rf
  have hl := lv_entry ([.ref (rm 0), .int p1]) (n := 2) (Nat.le_of_ble_eq_true rfl)
  rw [lg_entry_eq]
  generalize (lg_sl ([.ref (rm 0), .int p1]) ++ List.replicate (2 - (lg_sl ([.ref (rm 0), .int p1])).length) Slot.unset).toArray = ls at hl ⊢
  have hl : lv_has ls 2 [(0, .ref (rm 0)), (1, .int p1)] := hl
  refine lv_aload_n hx hb dX12_goes_0 rfl (lv_at hl 0 rfl) ?_
  refine lv_iload_n hx hb dX12_goes_1 rfl (lv_at hl 1 rfl) ?_
  have hPc := hP.sub (ws' := (wd_758 rm km)) [0, 1, 2, 3, 4] rfl
  have hDc := hD.sub (ws' := (wd_758 rm km)) [0, 1, 2, 3, 4] (by decide) rfl
  have hKc := hK.sub (tys' := [((km 0), .int), ((km 1), .int), ((km 2), .int), ((km 3), .int)]) [0, 1, 2, 3] rfl
  have hFc := va_free (wc := (wd_758 rm km)) hD hS hA [0, 1, 2, 3, 4] rfl
  refine va_calli (va_runV (As := [.int p1]) (rest := []) ⟨hx, hb, hml, hown, hts⟩ (c108_X12_isAskedOf l dC dI rm km p1 s.heap.size) (cwV 1 hts (gV q_455 q_456 q_457 q_372 q_454) rfl rfl rfl mdv_yX12_isAskedOf ⟨Nat.le_of_ble_eq_true rfl, Nat.le_of_ble_eq_true rfl⟩) ⟨fun a U g mk q => by obtain ⟨q0, q1, qP, qK, qD⟩ := q; exact ⟨q0, q1, qP, va_K.moved (u := U) (U := U.calling g mk a) (Vm.Alike.refl U.vm) qK, qD⟩, va_recv hKc hPc (ci := 12) (q0 := 0) rfl rfl, fun U hU hW => ⟨rfl, by rw [hU], by rw [hU]; exact hPc, va_K.moved hW.alike hKc, hDc.weaken (fun _ _ _ _ => trivial)⟩⟩ rfl rfl hl.1 rfl (lv_room (Nat.le_of_ble_eq_true rfl)) dX12_goes_2 ⟨Nat.le_of_ble_eq_true rfl, Nat.le_of_ble_eq_true rfl⟩) hS (fun q _ h => hFc q h) hFc (fun r_1390 u t H1 locs ht hvm hw hB hz1 hk1 hS => ?_)
  obtain ⟨hP1, hK1, hD1⟩ := hB
  rw [ht] at hP1
  have hK1 := va_K.moved hvm.symm hK1
  obtain ⟨hP, hD⟩ := va_join (wr := []) (w1 := (wd_758 rm km)) hP hD [0, 1, 2, 3, 4] [] rfl rfl (by decide) (by decide) hk1 hFc hP1 hD1
  generalize H1 = H at hP hS ⊢
  have hP : va_P (dC, dI) vwCl (wd_758 rm km) H := hP
  have hD : va_D A (wd_758 rm km) := hD
  obtain rfl : r_1390 = 0 := hw
  refine lv_if_eq (tgt := 17) hx hb dX12_goes_5 (by decide) (fun c_0 => ?_) (fun c_0 => absurd c_0 (by decide))
  refine lv_iconst (v := (-1)) hx hb dX12_goes_17 (by decide) ?_
  refine W.widen (k := 0) (n := 0) (Nat.le_of_ble_eq_true rfl) (Nat.le_of_ble_eq_true rfl) ?_
  exact W.iret (v := (-1)) hx hb hr (fun t ht hW => ⟨⟨(-1), (), rfl, rfl, trivial⟩, hS.F ht⟩) hS.2.2 dX12_goes_18
set_option maxHeartbeats 4000000 in
set_option maxRecDepth 100000 in
theorem mX12_comes (l : Launch) (dC : Nat → ClassId) (dI : Nat → Nat → Nat) (rm : Nat → Nat) (km : Nat → ClassId) (p1 : Int32) (sz : Nat) : Met l yX12_comes (Cond.code yX12_comes cX12_comes 3 (some .int) :: wA) ({ frames := 2, cells := 0, slots := 0, locals := 41 }) (va_Pc [.ref (rm 0), .int p1] (fun U => U.heap.size = sz ∧ va_P (dC, dI) vwCl (wd_758 rm km) U.heap ∧ va_K (dC, dI) vwCl [((km 0), .int), ((km 1), .int), ((km 2), .int), ((km 3), .int)] U ∧ va_D (fun _ => True) (wd_758 rm km))) (va_Qi (fun (r : Int32) (_ : Unit) => r = (-1)) (fun _ t => True) (va_A (wd_758 rm km) sz)) 0 0 (va_A (wd_758 rm km) sz) := by
  refine Met.ofW (cc := cX12_comes) (maxL := 3) (ret := (some .int)) (by decide) rfl ?_
  intro p e s m args below meth c s₁ B hml hv
  obtain ⟨rfl, hsz, hP, hK, hD0⟩ := hv
  have hx := B.exec
  have hb := B.bytes
  have hr := B.returns
  have hts : ∀ w ∈ wA, w.before [.ref (rm 0), .int p1].toArray s = true := fun w h => atoms_spec (ws := Cond.code yX12_comes cX12_comes 3 (some .int) :: wA) B.pre w (List.mem_cons_of_mem _ h)
  have hown : s.vm.findClass RX12 = some m.cls := findClass_of_methodNamed B.named
  have hlocks := B.notSynchronized
  subst hsz
  have hD := hD0.self (sz := s.heap.size)
  generalize hAe : va_A (wd_758 rm km) s.heap.size = A at hD ⊢
  have hA : ∀ q : Nat, s.heap.size ≤ q → A q := fun q h => by rw [← hAe]; exact Or.inr h
  have hS : va_S A s.heap s.heap [] := va_S.rf
  have hl := lv_entry ([.ref (rm 0), .int p1]) (n := 3) (Nat.le_of_ble_eq_true rfl)
  rw [lg_entry_eq]
  generalize (lg_sl ([.ref (rm 0), .int p1]) ++ List.replicate (3 - (lg_sl ([.ref (rm 0), .int p1])).length) Slot.unset).toArray = ls at hl ⊢
  have hl : lv_has ls 3 [(0, .ref (rm 0)), (1, .int p1)] := hl
  refine lv_aload_n hx hb dX12_comes_0 rfl (lv_at hl 0 rfl) ?_
  refine lv_iload_n hx hb dX12_comes_1 rfl (lv_at hl 1 rfl) ?_
  have hPc := hP.sub (ws' := (wd_758 rm km)) [0, 1, 2, 3, 4] rfl
  have hDc := hD.sub (ws' := (wd_758 rm km)) [0, 1, 2, 3, 4] (by decide) rfl
  have hKc := hK.sub (tys' := [((km 0), .int), ((km 1), .int), ((km 2), .int), ((km 3), .int)]) [0, 1, 2, 3] rfl
  have hFc := va_free (wc := (wd_758 rm km)) hD hS hA [0, 1, 2, 3, 4] rfl
  refine va_calli (va_runV (As := [.int p1]) (rest := []) ⟨hx, hb, hml, hown, hts⟩ (c108_X12_isAskedOf l dC dI rm km p1 s.heap.size) (cwV 1 hts (gV q_455 q_456 q_457 q_372 q_454) rfl rfl rfl mdv_yX12_isAskedOf ⟨Nat.le_of_ble_eq_true rfl, Nat.le_of_ble_eq_true rfl⟩) ⟨fun a U g mk q => by obtain ⟨q0, q1, qP, qK, qD⟩ := q; exact ⟨q0, q1, qP, va_K.moved (u := U) (U := U.calling g mk a) (Vm.Alike.refl U.vm) qK, qD⟩, va_recv hKc hPc (ci := 12) (q0 := 0) rfl rfl, fun U hU hW => ⟨rfl, by rw [hU], by rw [hU]; exact hPc, va_K.moved hW.alike hKc, hDc.weaken (fun _ _ _ _ => trivial)⟩⟩ rfl rfl hl.1 rfl (lv_room (Nat.le_of_ble_eq_true rfl)) dX12_comes_2 ⟨Nat.le_of_ble_eq_true rfl, Nat.le_of_ble_eq_true rfl⟩) hS (fun q _ h => hFc q h) hFc (fun r_1392 u t H1 locs ht hvm hw hB hz1 hk1 hS => ?_)
  obtain ⟨hP1, hK1, hD1⟩ := hB
  rw [ht] at hP1
  have hK1 := va_K.moved hvm.symm hK1
  obtain ⟨hP, hD⟩ := va_join (wr := []) (w1 := (wd_758 rm km)) hP hD [0, 1, 2, 3, 4] [] rfl rfl (by decide) (by decide) hk1 hFc hP1 hD1
  generalize H1 = H at hP hS ⊢
  have hP : va_P (dC, dI) vwCl (wd_758 rm km) H := hP
  have hD : va_D A (wd_758 rm km) := hD
  obtain rfl : r_1392 = 0 := hw
  refine lv_if_ne (tgt := 10) hx hb dX12_comes_5 (by decide) (fun c_0 => absurd c_0 (by decide)) (fun c_0 => ?_)
  refine lv_iconst (v := (-1)) hx hb dX12_comes_8 (by decide) ?_
  refine W.widen (k := 0) (n := 0) (Nat.le_of_ble_eq_true rfl) (Nat.le_of_ble_eq_true rfl) ?_
  exact W.iret (v := (-1)) hx hb hr (fun t ht hW => ⟨⟨(-1), (), rfl, rfl, trivial⟩, hS.F ht⟩) hS.2.2 dX12_comes_9
set_option maxHeartbeats 4000000 in
set_option maxRecDepth 100000 in
theorem mX12_block (l : Launch) (dC : Nat → ClassId) (dI : Nat → Nat → Nat) (rm : Nat → Nat) (km : Nat → ClassId) (p1 : Int32) (p2 : Int32) (sz : Nat) : Met l yX12_block (Cond.code yX12_block cX12_block 3 (some .int) :: wA) ({ frames := 1, cells := 0, slots := 0, locals := 20 }) (va_Pc [.ref (rm 0), .int p1, .int p2] (fun U => U.heap.size = sz ∧ va_P (dC, dI) vwCl (wd_758 rm km) U.heap ∧ va_K (dC, dI) vwCl [((km 0), .int), ((km 1), .int), ((km 2), .int), ((km 3), .int)] U ∧ va_D (fun _ => True) (wd_758 rm km))) (va_Qi (fun (r : Int32) (_ : Unit) => r = (-1)) (fun _ t => True) (va_A (wd_758 rm km) sz)) 0 0 (va_A (wd_758 rm km) sz) := by
  refine Met.ofW (cc := cX12_block) (maxL := 3) (ret := (some .int)) (by decide) rfl ?_
  intro p e s m args below meth c s₁ B hml hv
  obtain ⟨rfl, hsz, hP, hK, hD0⟩ := hv
  have hx := B.exec
  have hb := B.bytes
  have hr := B.returns
  have hts : ∀ w ∈ wA, w.before [.ref (rm 0), .int p1, .int p2].toArray s = true := fun w h => atoms_spec (ws := Cond.code yX12_block cX12_block 3 (some .int) :: wA) B.pre w (List.mem_cons_of_mem _ h)
  have hown : s.vm.findClass RX12 = some m.cls := findClass_of_methodNamed B.named
  have hlocks := B.notSynchronized
  subst hsz
  have hD := hD0.self (sz := s.heap.size)
  generalize hAe : va_A (wd_758 rm km) s.heap.size = A at hD ⊢
  have hA : ∀ q : Nat, s.heap.size ≤ q → A q := fun q h => by rw [← hAe]; exact Or.inr h
  have hS : va_S A s.heap s.heap [] := va_S.rf
  have hl := lv_entry ([.ref (rm 0), .int p1, .int p2]) (n := 3) (Nat.le_of_ble_eq_true rfl)
  rw [lg_entry_eq]
  generalize (lg_sl ([.ref (rm 0), .int p1, .int p2]) ++ List.replicate (3 - (lg_sl ([.ref (rm 0), .int p1, .int p2])).length) Slot.unset).toArray = ls at hl ⊢
  have hl : lv_has ls 3 [(0, .ref (rm 0)), (1, .int p1), (2, .int p2)] := hl
  refine lv_aload_n hx hb dX12_block_0 rfl (lv_at hl 0 rfl) ?_
  have hPc := hP.sub (ws' := (wd_758 rm km)) [0, 1, 2, 3, 4] rfl
  have hDc := hD.sub (ws' := (wd_758 rm km)) [0, 1, 2, 3, 4] (by decide) rfl
  have hKc := hK.sub (tys' := [((km 0), .int), ((km 1), .int), ((km 2), .int), ((km 3), .int)]) [0, 1, 2, 3] rfl
  have hFc := va_free (wc := (wd_758 rm km)) hD hS hA [0, 1, 2, 3, 4] rfl
  refine va_calli (va_runV (As := []) (rest := []) ⟨hx, hb, hml, hown, hts⟩ (c106_X12_isAsked l dC dI rm km s.heap.size) (cwV 0 hts (gV q_450 q_451 q_452 q_372 q_449) rfl rfl rfl mdv_yX12_isAsked ⟨Nat.le_of_ble_eq_true rfl, Nat.le_of_ble_eq_true rfl⟩) ⟨fun a U g mk q => by obtain ⟨q0, q1, qP, qK, qD⟩ := q; exact ⟨q0, q1, qP, va_K.moved (u := U) (U := U.calling g mk a) (Vm.Alike.refl U.vm) qK, qD⟩, va_recv hKc hPc (ci := 12) (q0 := 0) rfl rfl, fun U hU hW => ⟨rfl, by rw [hU], by rw [hU]; exact hPc, va_K.moved hW.alike hKc, hDc.weaken (fun _ _ _ _ => trivial)⟩⟩ rfl rfl hl.1 rfl (lv_room (Nat.le_of_ble_eq_true rfl)) dX12_block_1 ⟨Nat.le_of_ble_eq_true rfl, Nat.le_of_ble_eq_true rfl⟩) hS (fun q _ h => hFc q h) hFc (fun r_1394 u t H1 locs ht hvm hw hB hz1 hk1 hS => ?_)
  obtain ⟨hP1, hK1, hD1⟩ := hB
  rw [ht] at hP1
  have hK1 := va_K.moved hvm.symm hK1
  obtain ⟨hP, hD⟩ := va_join (wr := []) (w1 := (wd_758 rm km)) hP hD [0, 1, 2, 3, 4] [] rfl rfl (by decide) (by decide) hk1 hFc hP1 hD1
  generalize H1 = H at hP hS ⊢
  have hP : va_P (dC, dI) vwCl (wd_758 rm km) H := hP
  have hD : va_D A (wd_758 rm km) := hD
  obtain rfl : r_1394 = 0 := hw
  refine lv_if_eq (tgt := 23) hx hb dX12_block_4 (by decide) (fun c_0 => ?_) (fun c_0 => absurd c_0 (by decide))
  refine lv_iconst (v := (-1)) hx hb dX12_block_23 (by decide) ?_
  refine W.widen (k := 0) (n := 0) (Nat.le_of_ble_eq_true rfl) (Nat.le_of_ble_eq_true rfl) ?_
  exact W.iret (v := (-1)) hx hb hr (fun t ht hW => ⟨⟨(-1), (), rfl, rfl, trivial⟩, hS.F ht⟩) hS.2.2 dX12_block_24
set_option maxHeartbeats 4000000 in
set_option maxRecDepth 100000 in
theorem mX12_chain (l : Launch) (dC : Nat → ClassId) (dI : Nat → Nat → Nat) (rm : Nat → Nat) (km : Nat → ClassId) (p1 : Int32) (p2 : Int32) (sz : Nat) : Met l yX12_chain (Cond.code yX12_chain cX12_chain 3 (some .int) :: wA) ({ frames := 2, cells := 0, slots := 0, locals := 41 }) (va_Pc [.ref (rm 0), .int p1, .int p2] (fun U => U.heap.size = sz ∧ va_P (dC, dI) vwCl (wd_758 rm km) U.heap ∧ va_K (dC, dI) vwCl [((km 0), .int), ((km 1), .int), ((km 2), .int), ((km 3), .int)] U ∧ va_D (fun _ => True) (wd_758 rm km))) (va_Qi (fun (r : Int32) (_ : Unit) => r = (-1)) (fun _ t => True) (va_A (wd_758 rm km) sz)) 0 0 (va_A (wd_758 rm km) sz) := by
  refine Met.ofW (cc := cX12_chain) (maxL := 3) (ret := (some .int)) (by decide) rfl ?_
  intro p e s m args below meth c s₁ B hml hv
  obtain ⟨rfl, hsz, hP, hK, hD0⟩ := hv
  have hx := B.exec
  have hb := B.bytes
  have hr := B.returns
  have hts : ∀ w ∈ wA, w.before [.ref (rm 0), .int p1, .int p2].toArray s = true := fun w h => atoms_spec (ws := Cond.code yX12_chain cX12_chain 3 (some .int) :: wA) B.pre w (List.mem_cons_of_mem _ h)
  have hown : s.vm.findClass RX12 = some m.cls := findClass_of_methodNamed B.named
  have hlocks := B.notSynchronized
  subst hsz
  have hD := hD0.self (sz := s.heap.size)
  generalize hAe : va_A (wd_758 rm km) s.heap.size = A at hD ⊢
  have hA : ∀ q : Nat, s.heap.size ≤ q → A q := fun q h => by rw [← hAe]; exact Or.inr h
  have hS : va_S A s.heap s.heap [] := va_S.rf
  have hl := lv_entry ([.ref (rm 0), .int p1, .int p2]) (n := 3) (Nat.le_of_ble_eq_true rfl)
  rw [lg_entry_eq]
  generalize (lg_sl ([.ref (rm 0), .int p1, .int p2]) ++ List.replicate (3 - (lg_sl ([.ref (rm 0), .int p1, .int p2])).length) Slot.unset).toArray = ls at hl ⊢
  have hl : lv_has ls 3 [(0, .ref (rm 0)), (1, .int p1), (2, .int p2)] := hl
  refine lv_aload_n hx hb dX12_chain_0 rfl (lv_at hl 0 rfl) ?_
  refine lv_iload_n hx hb dX12_chain_1 rfl (lv_at hl 1 rfl) ?_
  have hPc := hP.sub (ws' := (wd_758 rm km)) [0, 1, 2, 3, 4] rfl
  have hDc := hD.sub (ws' := (wd_758 rm km)) [0, 1, 2, 3, 4] (by decide) rfl
  have hKc := hK.sub (tys' := [((km 0), .int), ((km 1), .int), ((km 2), .int), ((km 3), .int)]) [0, 1, 2, 3] rfl
  have hFc := va_free (wc := (wd_758 rm km)) hD hS hA [0, 1, 2, 3, 4] rfl
  refine va_calli (va_runV (As := [.int p1]) (rest := []) ⟨hx, hb, hml, hown, hts⟩ (c108_X12_isAskedOf l dC dI rm km p1 s.heap.size) (cwV 1 hts (gV q_455 q_456 q_457 q_372 q_454) rfl rfl rfl mdv_yX12_isAskedOf ⟨Nat.le_of_ble_eq_true rfl, Nat.le_of_ble_eq_true rfl⟩) ⟨fun a U g mk q => by obtain ⟨q0, q1, qP, qK, qD⟩ := q; exact ⟨q0, q1, qP, va_K.moved (u := U) (U := U.calling g mk a) (Vm.Alike.refl U.vm) qK, qD⟩, va_recv hKc hPc (ci := 12) (q0 := 0) rfl rfl, fun U hU hW => ⟨rfl, by rw [hU], by rw [hU]; exact hPc, va_K.moved hW.alike hKc, hDc.weaken (fun _ _ _ _ => trivial)⟩⟩ rfl rfl hl.1 rfl (lv_room (Nat.le_of_ble_eq_true rfl)) dX12_chain_2 ⟨Nat.le_of_ble_eq_true rfl, Nat.le_of_ble_eq_true rfl⟩) hS (fun q _ h => hFc q h) hFc (fun r_1396 u t H1 locs ht hvm hw hB hz1 hk1 hS => ?_)
  obtain ⟨hP1, hK1, hD1⟩ := hB
  rw [ht] at hP1
  have hK1 := va_K.moved hvm.symm hK1
  obtain ⟨hP, hD⟩ := va_join (wr := []) (w1 := (wd_758 rm km)) hP hD [0, 1, 2, 3, 4] [] rfl rfl (by decide) (by decide) hk1 hFc hP1 hD1
  generalize H1 = H at hP hS ⊢
  have hP : va_P (dC, dI) vwCl (wd_758 rm km) H := hP
  have hD : va_D A (wd_758 rm km) := hD
  obtain rfl : r_1396 = 0 := hw
  refine lv_if_eq (tgt := 35) hx hb dX12_chain_5 (by decide) (fun c_0 => ?_) (fun c_0 => absurd c_0 (by decide))
  refine lv_iconst (v := (-1)) hx hb dX12_chain_35 (by decide) ?_
  refine W.widen (k := 0) (n := 0) (Nat.le_of_ble_eq_true rfl) (Nat.le_of_ble_eq_true rfl) ?_
  exact W.iret (v := (-1)) hx hb hr (fun t ht hW => ⟨⟨(-1), (), rfl, rfl, trivial⟩, hS.F ht⟩) hS.2.2 dX12_chain_36
set_option maxHeartbeats 4000000 in
set_option maxRecDepth 100000 in
theorem mX12_longest (l : Launch) (dC : Nat → ClassId) (dI : Nat → Nat → Nat) (rm : Nat → Nat) (km : Nat → ClassId) (p1 : Int32) (sz : Nat) : Met l yX12_longest (Cond.code yX12_longest cX12_longest 5 (some .int) :: wA) ({ frames := 1, cells := 0, slots := 0, locals := 20 }) (va_Pc [.ref (rm 0), .int p1] (fun U => U.heap.size = sz ∧ va_P (dC, dI) vwCl (wd_758 rm km) U.heap ∧ va_K (dC, dI) vwCl [((km 0), .int), ((km 1), .int), ((km 2), .int), ((km 3), .int)] U ∧ va_D (fun _ => True) (wd_758 rm km))) (va_Qi (fun (r : Int32) (_ : Unit) => r = (-1)) (fun _ t => True) (va_A (wd_758 rm km) sz)) 0 0 (va_A (wd_758 rm km) sz) := by
  refine Met.ofW (cc := cX12_longest) (maxL := 5) (ret := (some .int)) (by decide) rfl ?_
  intro p e s m args below meth c s₁ B hml hv
  obtain ⟨rfl, hsz, hP, hK, hD0⟩ := hv
  have hx := B.exec
  have hb := B.bytes
  have hr := B.returns
  have hts : ∀ w ∈ wA, w.before [.ref (rm 0), .int p1].toArray s = true := fun w h => atoms_spec (ws := Cond.code yX12_longest cX12_longest 5 (some .int) :: wA) B.pre w (List.mem_cons_of_mem _ h)
  have hown : s.vm.findClass RX12 = some m.cls := findClass_of_methodNamed B.named
  have hlocks := B.notSynchronized
  subst hsz
  have hD := hD0.self (sz := s.heap.size)
  generalize hAe : va_A (wd_758 rm km) s.heap.size = A at hD ⊢
  have hA : ∀ q : Nat, s.heap.size ≤ q → A q := fun q h => by rw [← hAe]; exact Or.inr h
  have hS : va_S A s.heap s.heap [] := va_S.rf
  have hl := lv_entry ([.ref (rm 0), .int p1]) (n := 5) (Nat.le_of_ble_eq_true rfl)
  rw [lg_entry_eq]
  generalize (lg_sl ([.ref (rm 0), .int p1]) ++ List.replicate (5 - (lg_sl ([.ref (rm 0), .int p1])).length) Slot.unset).toArray = ls at hl ⊢
  have hl : lv_has ls 5 [(0, .ref (rm 0)), (1, .int p1)] := hl
  refine lv_aload_n hx hb dX12_longest_0 rfl (lv_at hl 0 rfl) ?_
  have hPc := hP.sub (ws' := (wd_758 rm km)) [0, 1, 2, 3, 4] rfl
  have hDc := hD.sub (ws' := (wd_758 rm km)) [0, 1, 2, 3, 4] (by decide) rfl
  have hKc := hK.sub (tys' := [((km 0), .int), ((km 1), .int), ((km 2), .int), ((km 3), .int)]) [0, 1, 2, 3] rfl
  have hFc := va_free (wc := (wd_758 rm km)) hD hS hA [0, 1, 2, 3, 4] rfl
  refine va_calli (va_runV (As := []) (rest := []) ⟨hx, hb, hml, hown, hts⟩ (c106_X12_isAsked l dC dI rm km s.heap.size) (cwV 0 hts (gV q_450 q_451 q_452 q_372 q_449) rfl rfl rfl mdv_yX12_isAsked ⟨Nat.le_of_ble_eq_true rfl, Nat.le_of_ble_eq_true rfl⟩) ⟨fun a U g mk q => by obtain ⟨q0, q1, qP, qK, qD⟩ := q; exact ⟨q0, q1, qP, va_K.moved (u := U) (U := U.calling g mk a) (Vm.Alike.refl U.vm) qK, qD⟩, va_recv hKc hPc (ci := 12) (q0 := 0) rfl rfl, fun U hU hW => ⟨rfl, by rw [hU], by rw [hU]; exact hPc, va_K.moved hW.alike hKc, hDc.weaken (fun _ _ _ _ => trivial)⟩⟩ rfl rfl hl.1 rfl (lv_room (Nat.le_of_ble_eq_true rfl)) dX12_longest_1 ⟨Nat.le_of_ble_eq_true rfl, Nat.le_of_ble_eq_true rfl⟩) hS (fun q _ h => hFc q h) hFc (fun r_1398 u t H1 locs ht hvm hw hB hz1 hk1 hS => ?_)
  obtain ⟨hP1, hK1, hD1⟩ := hB
  rw [ht] at hP1
  have hK1 := va_K.moved hvm.symm hK1
  obtain ⟨hP, hD⟩ := va_join (wr := []) (w1 := (wd_758 rm km)) hP hD [0, 1, 2, 3, 4] [] rfl rfl (by decide) (by decide) hk1 hFc hP1 hD1
  generalize H1 = H at hP hS ⊢
  have hP : va_P (dC, dI) vwCl (wd_758 rm km) H := hP
  have hD : va_D A (wd_758 rm km) := hD
  obtain rfl : r_1398 = 0 := hw
  refine lv_if_eq (tgt := 17) hx hb dX12_longest_4 (by decide) (fun c_0 => ?_) (fun c_0 => absurd c_0 (by decide))
  refine lv_iconst (v := (-1)) hx hb dX12_longest_17 (by decide) ?_
  refine W.widen (k := 0) (n := 0) (Nat.le_of_ble_eq_true rfl) (Nat.le_of_ble_eq_true rfl) ?_
  exact W.iret (v := (-1)) hx hb hr (fun t ht hW => ⟨⟨(-1), (), rfl, rfl, trivial⟩, hS.F ht⟩) hS.2.2 dX12_longest_18
set_option maxHeartbeats 4000000 in
set_option maxRecDepth 100000 in
theorem mX12_steps (l : Launch) (dC : Nat → ClassId) (dI : Nat → Nat → Nat) (rm : Nat → Nat) (km : Nat → ClassId) (p1 : Int32) (sz : Nat) : Met l yX12_steps (Cond.code yX12_steps cX12_steps 2 (some .int) :: wA) ({ frames := 1, cells := 0, slots := 0, locals := 20 }) (va_Pc [.ref (rm 0), .int p1] (fun U => U.heap.size = sz ∧ va_P (dC, dI) vwCl (wd_758 rm km) U.heap ∧ va_K (dC, dI) vwCl [((km 0), .int), ((km 1), .int), ((km 2), .int), ((km 3), .int)] U ∧ va_D (fun _ => True) (wd_758 rm km))) (va_Qi (fun (r : Int32) (_ : Unit) => r = (-1)) (fun _ t => True) (va_A (wd_758 rm km) sz)) 0 0 (va_A (wd_758 rm km) sz) := by
  refine Met.ofW (cc := cX12_steps) (maxL := 2) (ret := (some .int)) (by decide) rfl ?_
  intro p e s m args below meth c s₁ B hml hv
  obtain ⟨rfl, hsz, hP, hK, hD0⟩ := hv
  have hx := B.exec
  have hb := B.bytes
  have hr := B.returns
  have hts : ∀ w ∈ wA, w.before [.ref (rm 0), .int p1].toArray s = true := fun w h => atoms_spec (ws := Cond.code yX12_steps cX12_steps 2 (some .int) :: wA) B.pre w (List.mem_cons_of_mem _ h)
  have hown : s.vm.findClass RX12 = some m.cls := findClass_of_methodNamed B.named
  have hlocks := B.notSynchronized
  subst hsz
  have hD := hD0.self (sz := s.heap.size)
  generalize hAe : va_A (wd_758 rm km) s.heap.size = A at hD ⊢
  have hA : ∀ q : Nat, s.heap.size ≤ q → A q := fun q h => by rw [← hAe]; exact Or.inr h
  have hS : va_S A s.heap s.heap [] := va_S.rf
  have hl := lv_entry ([.ref (rm 0), .int p1]) (n := 2) (Nat.le_of_ble_eq_true rfl)
  rw [lg_entry_eq]
  generalize (lg_sl ([.ref (rm 0), .int p1]) ++ List.replicate (2 - (lg_sl ([.ref (rm 0), .int p1])).length) Slot.unset).toArray = ls at hl ⊢
  have hl : lv_has ls 2 [(0, .ref (rm 0)), (1, .int p1)] := hl
  refine lv_aload_n hx hb dX12_steps_0 rfl (lv_at hl 0 rfl) ?_
  have hPc := hP.sub (ws' := (wd_758 rm km)) [0, 1, 2, 3, 4] rfl
  have hDc := hD.sub (ws' := (wd_758 rm km)) [0, 1, 2, 3, 4] (by decide) rfl
  have hKc := hK.sub (tys' := [((km 0), .int), ((km 1), .int), ((km 2), .int), ((km 3), .int)]) [0, 1, 2, 3] rfl
  have hFc := va_free (wc := (wd_758 rm km)) hD hS hA [0, 1, 2, 3, 4] rfl
  refine va_calli (va_runV (As := []) (rest := []) ⟨hx, hb, hml, hown, hts⟩ (c106_X12_isAsked l dC dI rm km s.heap.size) (cwV 0 hts (gV q_450 q_451 q_452 q_372 q_449) rfl rfl rfl mdv_yX12_isAsked ⟨Nat.le_of_ble_eq_true rfl, Nat.le_of_ble_eq_true rfl⟩) ⟨fun a U g mk q => by obtain ⟨q0, q1, qP, qK, qD⟩ := q; exact ⟨q0, q1, qP, va_K.moved (u := U) (U := U.calling g mk a) (Vm.Alike.refl U.vm) qK, qD⟩, va_recv hKc hPc (ci := 12) (q0 := 0) rfl rfl, fun U hU hW => ⟨rfl, by rw [hU], by rw [hU]; exact hPc, va_K.moved hW.alike hKc, hDc.weaken (fun _ _ _ _ => trivial)⟩⟩ rfl rfl hl.1 rfl (lv_room (Nat.le_of_ble_eq_true rfl)) dX12_steps_1 ⟨Nat.le_of_ble_eq_true rfl, Nat.le_of_ble_eq_true rfl⟩) hS (fun q _ h => hFc q h) hFc (fun r_1400 u t H1 locs ht hvm hw hB hz1 hk1 hS => ?_)
  obtain ⟨hP1, hK1, hD1⟩ := hB
  rw [ht] at hP1
  have hK1 := va_K.moved hvm.symm hK1
  obtain ⟨hP, hD⟩ := va_join (wr := []) (w1 := (wd_758 rm km)) hP hD [0, 1, 2, 3, 4] [] rfl rfl (by decide) (by decide) hk1 hFc hP1 hD1
  generalize H1 = H at hP hS ⊢
  have hP : va_P (dC, dI) vwCl (wd_758 rm km) H := hP
  have hD : va_D A (wd_758 rm km) := hD
  obtain rfl : r_1400 = 0 := hw
  refine lv_if_eq (tgt := 25) hx hb dX12_steps_4 (by decide) (fun c_0 => ?_) (fun c_0 => absurd c_0 (by decide))
  refine lv_iconst (v := (-1)) hx hb dX12_steps_25 (by decide) ?_
  refine W.widen (k := 0) (n := 0) (Nat.le_of_ble_eq_true rfl) (Nat.le_of_ble_eq_true rfl) ?_
  exact W.iret (v := (-1)) hx hb hr (fun t ht hW => ⟨⟨(-1), (), rfl, rfl, trivial⟩, hS.F ht⟩) hS.2.2 dX12_steps_26
set_option maxHeartbeats 4000000 in
set_option maxRecDepth 100000 in
theorem mX12_room (l : Launch) (dC : Nat → ClassId) (dI : Nat → Nat → Nat) (rm : Nat → Nat) (km : Nat → ClassId) (p1 : Int32) (p2 : Int32) (sz : Nat) : Met l yX12_room (Cond.code yX12_room cX12_room 3 (some .int) :: wA) ({ frames := 1, cells := 0, slots := 0, locals := 20 }) (va_Pc [.ref (rm 0), .int p1, .int p2] (fun U => U.heap.size = sz ∧ va_P (dC, dI) vwCl (wd_758 rm km) U.heap ∧ va_K (dC, dI) vwCl [((km 0), .int), ((km 1), .int), ((km 2), .int), ((km 3), .int)] U ∧ va_D (fun _ => True) (wd_758 rm km))) (va_Qi (fun (r : Int32) (_ : Unit) => r = (-1)) (fun _ t => True) (va_A (wd_758 rm km) sz)) 0 0 (va_A (wd_758 rm km) sz) := by
  refine Met.ofW (cc := cX12_room) (maxL := 3) (ret := (some .int)) (by decide) rfl ?_
  intro p e s m args below meth c s₁ B hml hv
  obtain ⟨rfl, hsz, hP, hK, hD0⟩ := hv
  have hx := B.exec
  have hb := B.bytes
  have hr := B.returns
  have hts : ∀ w ∈ wA, w.before [.ref (rm 0), .int p1, .int p2].toArray s = true := fun w h => atoms_spec (ws := Cond.code yX12_room cX12_room 3 (some .int) :: wA) B.pre w (List.mem_cons_of_mem _ h)
  have hown : s.vm.findClass RX12 = some m.cls := findClass_of_methodNamed B.named
  have hlocks := B.notSynchronized
  subst hsz
  have hD := hD0.self (sz := s.heap.size)
  generalize hAe : va_A (wd_758 rm km) s.heap.size = A at hD ⊢
  have hA : ∀ q : Nat, s.heap.size ≤ q → A q := fun q h => by rw [← hAe]; exact Or.inr h
  have hS : va_S A s.heap s.heap [] := va_S.rf
  have hl := lv_entry ([.ref (rm 0), .int p1, .int p2]) (n := 3) (Nat.le_of_ble_eq_true rfl)
  rw [lg_entry_eq]
  generalize (lg_sl ([.ref (rm 0), .int p1, .int p2]) ++ List.replicate (3 - (lg_sl ([.ref (rm 0), .int p1, .int p2])).length) Slot.unset).toArray = ls at hl ⊢
  have hl : lv_has ls 3 [(0, .ref (rm 0)), (1, .int p1), (2, .int p2)] := hl
  refine lv_aload_n hx hb dX12_room_0 rfl (lv_at hl 0 rfl) ?_
  have hPc := hP.sub (ws' := (wd_758 rm km)) [0, 1, 2, 3, 4] rfl
  have hDc := hD.sub (ws' := (wd_758 rm km)) [0, 1, 2, 3, 4] (by decide) rfl
  have hKc := hK.sub (tys' := [((km 0), .int), ((km 1), .int), ((km 2), .int), ((km 3), .int)]) [0, 1, 2, 3] rfl
  have hFc := va_free (wc := (wd_758 rm km)) hD hS hA [0, 1, 2, 3, 4] rfl
  refine va_calli (va_runV (As := []) (rest := []) ⟨hx, hb, hml, hown, hts⟩ (c106_X12_isAsked l dC dI rm km s.heap.size) (cwV 0 hts (gV q_450 q_451 q_452 q_372 q_449) rfl rfl rfl mdv_yX12_isAsked ⟨Nat.le_of_ble_eq_true rfl, Nat.le_of_ble_eq_true rfl⟩) ⟨fun a U g mk q => by obtain ⟨q0, q1, qP, qK, qD⟩ := q; exact ⟨q0, q1, qP, va_K.moved (u := U) (U := U.calling g mk a) (Vm.Alike.refl U.vm) qK, qD⟩, va_recv hKc hPc (ci := 12) (q0 := 0) rfl rfl, fun U hU hW => ⟨rfl, by rw [hU], by rw [hU]; exact hPc, va_K.moved hW.alike hKc, hDc.weaken (fun _ _ _ _ => trivial)⟩⟩ rfl rfl hl.1 rfl (lv_room (Nat.le_of_ble_eq_true rfl)) dX12_room_1 ⟨Nat.le_of_ble_eq_true rfl, Nat.le_of_ble_eq_true rfl⟩) hS (fun q _ h => hFc q h) hFc (fun r_1402 u t H1 locs ht hvm hw hB hz1 hk1 hS => ?_)
  obtain ⟨hP1, hK1, hD1⟩ := hB
  rw [ht] at hP1
  have hK1 := va_K.moved hvm.symm hK1
  obtain ⟨hP, hD⟩ := va_join (wr := []) (w1 := (wd_758 rm km)) hP hD [0, 1, 2, 3, 4] [] rfl rfl (by decide) (by decide) hk1 hFc hP1 hD1
  generalize H1 = H at hP hS ⊢
  have hP : va_P (dC, dI) vwCl (wd_758 rm km) H := hP
  have hD : va_D A (wd_758 rm km) := hD
  obtain rfl : r_1402 = 0 := hw
  refine lv_if_eq (tgt := 33) hx hb dX12_room_4 (by decide) (fun c_0 => ?_) (fun c_0 => absurd c_0 (by decide))
  refine lv_iconst (v := (-1)) hx hb dX12_room_33 (by decide) ?_
  refine W.widen (k := 0) (n := 0) (Nat.le_of_ble_eq_true rfl) (Nat.le_of_ble_eq_true rfl) ?_
  exact W.iret (v := (-1)) hx hb hr (fun t ht hW => ⟨⟨(-1), (), rfl, rfl, trivial⟩, hS.F ht⟩) hS.2.2 dX12_room_34
set_option maxHeartbeats 4000000 in
set_option maxRecDepth 100000 in
theorem mX12_far (l : Launch) (dC : Nat → ClassId) (dI : Nat → Nat → Nat) (rm : Nat → Nat) (km : Nat → ClassId) (p1 : Int32) (sz : Nat) : Met l yX12_far (Cond.code yX12_far cX12_far 2 (some .int) :: wA) ({ frames := 2, cells := 0, slots := 0, locals := 41 }) (va_Pc [.ref (rm 0), .int p1] (fun U => U.heap.size = sz ∧ va_P (dC, dI) vwCl (wd_758 rm km) U.heap ∧ va_K (dC, dI) vwCl [((km 0), .int), ((km 1), .int), ((km 2), .int), ((km 3), .int)] U ∧ va_D (fun _ => True) (wd_758 rm km))) (va_Qi (fun (r : Int32) (_ : Unit) => r = (-1)) (fun _ t => True) (va_A (wd_758 rm km) sz)) 0 0 (va_A (wd_758 rm km) sz) := by
  refine Met.ofW (cc := cX12_far) (maxL := 2) (ret := (some .int)) (by decide) rfl ?_
  intro p e s m args below meth c s₁ B hml hv
  obtain ⟨rfl, hsz, hP, hK, hD0⟩ := hv
  have hx := B.exec
  have hb := B.bytes
  have hr := B.returns
  have hts : ∀ w ∈ wA, w.before [.ref (rm 0), .int p1].toArray s = true := fun w h => atoms_spec (ws := Cond.code yX12_far cX12_far 2 (some .int) :: wA) B.pre w (List.mem_cons_of_mem _ h)
  have hown : s.vm.findClass RX12 = some m.cls := findClass_of_methodNamed B.named
  have hlocks := B.notSynchronized
  subst hsz
  have hD := hD0.self (sz := s.heap.size)
  generalize hAe : va_A (wd_758 rm km) s.heap.size = A at hD ⊢
  have hA : ∀ q : Nat, s.heap.size ≤ q → A q := fun q h => by rw [← hAe]; exact Or.inr h
  have hS : va_S A s.heap s.heap [] := va_S.rf
  have hl := lv_entry ([.ref (rm 0), .int p1]) (n := 2) (Nat.le_of_ble_eq_true rfl)
  rw [lg_entry_eq]
  generalize (lg_sl ([.ref (rm 0), .int p1]) ++ List.replicate (2 - (lg_sl ([.ref (rm 0), .int p1])).length) Slot.unset).toArray = ls at hl ⊢
  have hl : lv_has ls 2 [(0, .ref (rm 0)), (1, .int p1)] := hl
  refine lv_aload_n hx hb dX12_far_0 rfl (lv_at hl 0 rfl) ?_
  refine lv_iload_n hx hb dX12_far_1 rfl (lv_at hl 1 rfl) ?_
  have hPc := hP.sub (ws' := (wd_758 rm km)) [0, 1, 2, 3, 4] rfl
  have hDc := hD.sub (ws' := (wd_758 rm km)) [0, 1, 2, 3, 4] (by decide) rfl
  have hKc := hK.sub (tys' := [((km 0), .int), ((km 1), .int), ((km 2), .int), ((km 3), .int)]) [0, 1, 2, 3] rfl
  have hFc := va_free (wc := (wd_758 rm km)) hD hS hA [0, 1, 2, 3, 4] rfl
  refine va_calli (va_runV (As := [.int p1]) (rest := []) ⟨hx, hb, hml, hown, hts⟩ (c108_X12_isAskedOf l dC dI rm km p1 s.heap.size) (cwV 1 hts (gV q_455 q_456 q_457 q_372 q_454) rfl rfl rfl mdv_yX12_isAskedOf ⟨Nat.le_of_ble_eq_true rfl, Nat.le_of_ble_eq_true rfl⟩) ⟨fun a U g mk q => by obtain ⟨q0, q1, qP, qK, qD⟩ := q; exact ⟨q0, q1, qP, va_K.moved (u := U) (U := U.calling g mk a) (Vm.Alike.refl U.vm) qK, qD⟩, va_recv hKc hPc (ci := 12) (q0 := 0) rfl rfl, fun U hU hW => ⟨rfl, by rw [hU], by rw [hU]; exact hPc, va_K.moved hW.alike hKc, hDc.weaken (fun _ _ _ _ => trivial)⟩⟩ rfl rfl hl.1 rfl (lv_room (Nat.le_of_ble_eq_true rfl)) dX12_far_2 ⟨Nat.le_of_ble_eq_true rfl, Nat.le_of_ble_eq_true rfl⟩) hS (fun q _ h => hFc q h) hFc (fun r_1404 u t H1 locs ht hvm hw hB hz1 hk1 hS => ?_)
  obtain ⟨hP1, hK1, hD1⟩ := hB
  rw [ht] at hP1
  have hK1 := va_K.moved hvm.symm hK1
  obtain ⟨hP, hD⟩ := va_join (wr := []) (w1 := (wd_758 rm km)) hP hD [0, 1, 2, 3, 4] [] rfl rfl (by decide) (by decide) hk1 hFc hP1 hD1
  generalize H1 = H at hP hS ⊢
  have hP : va_P (dC, dI) vwCl (wd_758 rm km) H := hP
  have hD : va_D A (wd_758 rm km) := hD
  obtain rfl : r_1404 = 0 := hw
  refine lv_if_eq (tgt := 16) hx hb dX12_far_5 (by decide) (fun c_0 => ?_) (fun c_0 => absurd c_0 (by decide))
  refine lv_iconst (v := (-1)) hx hb dX12_far_16 (by decide) ?_
  refine W.widen (k := 0) (n := 0) (Nat.le_of_ble_eq_true rfl) (Nat.le_of_ble_eq_true rfl) ?_
  exact W.iret (v := (-1)) hx hb hr (fun t ht hW => ⟨⟨(-1), (), rfl, rfl, trivial⟩, hS.F ht⟩) hS.2.2 dX12_far_17
set_option maxHeartbeats 4000000 in
set_option maxRecDepth 100000 in
theorem mX12_way (l : Launch) (dC : Nat → ClassId) (dI : Nat → Nat → Nat) (rm : Nat → Nat) (km : Nat → ClassId) (p1 : Int32) (p2 : Int32) (sz : Nat) : Met l yX12_way (Cond.code yX12_way cX12_way 7 (some .int) :: wA) ({ frames := 2, cells := 0, slots := 0, locals := 41 }) (va_Pc [.ref (rm 0), .int p1, .int p2] (fun U => U.heap.size = sz ∧ va_P (dC, dI) vwCl (wd_758 rm km) U.heap ∧ va_K (dC, dI) vwCl [((km 0), .int), ((km 1), .int), ((km 2), .int), ((km 3), .int)] U ∧ va_D (fun _ => True) (wd_758 rm km))) (va_Qi (fun (r : Int32) (_ : Unit) => r = (-1)) (fun _ t => True) (va_A (wd_758 rm km) sz)) 0 0 (va_A (wd_758 rm km) sz) := by
  refine Met.ofW (cc := cX12_way) (maxL := 7) (ret := (some .int)) (by decide) rfl ?_
  intro p e s m args below meth c s₁ B hml hv
  obtain ⟨rfl, hsz, hP, hK, hD0⟩ := hv
  have hx := B.exec
  have hb := B.bytes
  have hr := B.returns
  have hts : ∀ w ∈ wA, w.before [.ref (rm 0), .int p1, .int p2].toArray s = true := fun w h => atoms_spec (ws := Cond.code yX12_way cX12_way 7 (some .int) :: wA) B.pre w (List.mem_cons_of_mem _ h)
  have hown : s.vm.findClass RX12 = some m.cls := findClass_of_methodNamed B.named
  have hlocks := B.notSynchronized
  subst hsz
  have hD := hD0.self (sz := s.heap.size)
  generalize hAe : va_A (wd_758 rm km) s.heap.size = A at hD ⊢
  have hA : ∀ q : Nat, s.heap.size ≤ q → A q := fun q h => by rw [← hAe]; exact Or.inr h
  have hS : va_S A s.heap s.heap [] := va_S.rf
  have hl := lv_entry ([.ref (rm 0), .int p1, .int p2]) (n := 7) (Nat.le_of_ble_eq_true rfl)
  rw [lg_entry_eq]
  generalize (lg_sl ([.ref (rm 0), .int p1, .int p2]) ++ List.replicate (7 - (lg_sl ([.ref (rm 0), .int p1, .int p2])).length) Slot.unset).toArray = ls at hl ⊢
  have hl : lv_has ls 7 [(0, .ref (rm 0)), (1, .int p1), (2, .int p2)] := hl
  refine lv_aload_n hx hb dX12_way_0 rfl (lv_at hl 0 rfl) ?_
  refine lv_iload_n hx hb dX12_way_1 rfl (lv_at hl 1 rfl) ?_
  have hPc := hP.sub (ws' := (wd_758 rm km)) [0, 1, 2, 3, 4] rfl
  have hDc := hD.sub (ws' := (wd_758 rm km)) [0, 1, 2, 3, 4] (by decide) rfl
  have hKc := hK.sub (tys' := [((km 0), .int), ((km 1), .int), ((km 2), .int), ((km 3), .int)]) [0, 1, 2, 3] rfl
  have hFc := va_free (wc := (wd_758 rm km)) hD hS hA [0, 1, 2, 3, 4] rfl
  refine va_calli (va_runV (As := [.int p1]) (rest := []) ⟨hx, hb, hml, hown, hts⟩ (c108_X12_isAskedOf l dC dI rm km p1 s.heap.size) (cwV 1 hts (gV q_455 q_456 q_457 q_372 q_454) rfl rfl rfl mdv_yX12_isAskedOf ⟨Nat.le_of_ble_eq_true rfl, Nat.le_of_ble_eq_true rfl⟩) ⟨fun a U g mk q => by obtain ⟨q0, q1, qP, qK, qD⟩ := q; exact ⟨q0, q1, qP, va_K.moved (u := U) (U := U.calling g mk a) (Vm.Alike.refl U.vm) qK, qD⟩, va_recv hKc hPc (ci := 12) (q0 := 0) rfl rfl, fun U hU hW => ⟨rfl, by rw [hU], by rw [hU]; exact hPc, va_K.moved hW.alike hKc, hDc.weaken (fun _ _ _ _ => trivial)⟩⟩ rfl rfl hl.1 rfl (lv_room (Nat.le_of_ble_eq_true rfl)) dX12_way_2 ⟨Nat.le_of_ble_eq_true rfl, Nat.le_of_ble_eq_true rfl⟩) hS (fun q _ h => hFc q h) hFc (fun r_1406 u t H1 locs ht hvm hw hB hz1 hk1 hS => ?_)
  obtain ⟨hP1, hK1, hD1⟩ := hB
  rw [ht] at hP1
  have hK1 := va_K.moved hvm.symm hK1
  obtain ⟨hP, hD⟩ := va_join (wr := []) (w1 := (wd_758 rm km)) hP hD [0, 1, 2, 3, 4] [] rfl rfl (by decide) (by decide) hk1 hFc hP1 hD1
  generalize H1 = H at hP hS ⊢
  have hP : va_P (dC, dI) vwCl (wd_758 rm km) H := hP
  have hD : va_D A (wd_758 rm km) := hD
  obtain rfl : r_1406 = 0 := hw
  refine lv_if_eq (tgt := 20) hx hb dX12_way_5 (by decide) (fun c_0 => ?_) (fun c_0 => absurd c_0 (by decide))
  refine lv_iconst (v := (-1)) hx hb dX12_way_20 (by decide) ?_
  refine W.widen (k := 0) (n := 0) (Nat.le_of_ble_eq_true rfl) (Nat.le_of_ble_eq_true rfl) ?_
  exact W.iret (v := (-1)) hx hb hr (fun t ht hW => ⟨⟨(-1), (), rfl, rfl, trivial⟩, hS.F ht⟩) hS.2.2 dX12_way_21
set_option maxHeartbeats 4000000 in
set_option maxRecDepth 100000 in
theorem mX12_keeps (l : Launch) (dC : Nat → ClassId) (dI : Nat → Nat → Nat) (rm : Nat → Nat) (km : Nat → ClassId) (p1 : Int32) (sz : Nat) : Met l yX12_keeps (Cond.code yX12_keeps cX12_keeps 2 (some .int) :: wA) ({ frames := 1, cells := 0, slots := 0, locals := 20 }) (va_Pc [.ref (rm 0), .int p1] (fun U => U.heap.size = sz ∧ va_P (dC, dI) vwCl (wd_758 rm km) U.heap ∧ va_K (dC, dI) vwCl [((km 0), .int), ((km 1), .int), ((km 2), .int), ((km 3), .int)] U ∧ va_D (fun _ => True) (wd_758 rm km))) (va_Qi (fun (r : Int32) (_ : Unit) => r = (-1)) (fun _ t => True) (va_A (wd_758 rm km) sz)) 0 0 (va_A (wd_758 rm km) sz) := by
  refine Met.ofW (cc := cX12_keeps) (maxL := 2) (ret := (some .int)) (by decide) rfl ?_
  intro p e s m args below meth c s₁ B hml hv
  obtain ⟨rfl, hsz, hP, hK, hD0⟩ := hv
  have hx := B.exec
  have hb := B.bytes
  have hr := B.returns
  have hts : ∀ w ∈ wA, w.before [.ref (rm 0), .int p1].toArray s = true := fun w h => atoms_spec (ws := Cond.code yX12_keeps cX12_keeps 2 (some .int) :: wA) B.pre w (List.mem_cons_of_mem _ h)
  have hown : s.vm.findClass RX12 = some m.cls := findClass_of_methodNamed B.named
  have hlocks := B.notSynchronized
  subst hsz
  have hD := hD0.self (sz := s.heap.size)
  generalize hAe : va_A (wd_758 rm km) s.heap.size = A at hD ⊢
  have hA : ∀ q : Nat, s.heap.size ≤ q → A q := fun q h => by rw [← hAe]; exact Or.inr h
  have hS : va_S A s.heap s.heap [] := va_S.rf
  have hl := lv_entry ([.ref (rm 0), .int p1]) (n := 2) (Nat.le_of_ble_eq_true rfl)
  rw [lg_entry_eq]
  generalize (lg_sl ([.ref (rm 0), .int p1]) ++ List.replicate (2 - (lg_sl ([.ref (rm 0), .int p1])).length) Slot.unset).toArray = ls at hl ⊢
  have hl : lv_has ls 2 [(0, .ref (rm 0)), (1, .int p1)] := hl
  refine lv_aload_n hx hb dX12_keeps_0 rfl (lv_at hl 0 rfl) ?_
  have hPc := hP.sub (ws' := (wd_758 rm km)) [0, 1, 2, 3, 4] rfl
  have hDc := hD.sub (ws' := (wd_758 rm km)) [0, 1, 2, 3, 4] (by decide) rfl
  have hKc := hK.sub (tys' := [((km 0), .int), ((km 1), .int), ((km 2), .int), ((km 3), .int)]) [0, 1, 2, 3] rfl
  have hFc := va_free (wc := (wd_758 rm km)) hD hS hA [0, 1, 2, 3, 4] rfl
  refine va_calli (va_runV (As := []) (rest := []) ⟨hx, hb, hml, hown, hts⟩ (c106_X12_isAsked l dC dI rm km s.heap.size) (cwV 0 hts (gV q_450 q_451 q_452 q_372 q_449) rfl rfl rfl mdv_yX12_isAsked ⟨Nat.le_of_ble_eq_true rfl, Nat.le_of_ble_eq_true rfl⟩) ⟨fun a U g mk q => by obtain ⟨q0, q1, qP, qK, qD⟩ := q; exact ⟨q0, q1, qP, va_K.moved (u := U) (U := U.calling g mk a) (Vm.Alike.refl U.vm) qK, qD⟩, va_recv hKc hPc (ci := 12) (q0 := 0) rfl rfl, fun U hU hW => ⟨rfl, by rw [hU], by rw [hU]; exact hPc, va_K.moved hW.alike hKc, hDc.weaken (fun _ _ _ _ => trivial)⟩⟩ rfl rfl hl.1 rfl (lv_room (Nat.le_of_ble_eq_true rfl)) dX12_keeps_1 ⟨Nat.le_of_ble_eq_true rfl, Nat.le_of_ble_eq_true rfl⟩) hS (fun q _ h => hFc q h) hFc (fun r_1408 u t H1 locs ht hvm hw hB hz1 hk1 hS => ?_)
  obtain ⟨hP1, hK1, hD1⟩ := hB
  rw [ht] at hP1
  have hK1 := va_K.moved hvm.symm hK1
  obtain ⟨hP, hD⟩ := va_join (wr := []) (w1 := (wd_758 rm km)) hP hD [0, 1, 2, 3, 4] [] rfl rfl (by decide) (by decide) hk1 hFc hP1 hD1
  generalize H1 = H at hP hS ⊢
  have hP : va_P (dC, dI) vwCl (wd_758 rm km) H := hP
  have hD : va_D A (wd_758 rm km) := hD
  obtain rfl : r_1408 = 0 := hw
  refine lv_if_eq (tgt := 28) hx hb dX12_keeps_4 (by decide) (fun c_0 => ?_) (fun c_0 => absurd c_0 (by decide))
  refine lv_iconst (v := (-1)) hx hb dX12_keeps_28 (by decide) ?_
  refine W.widen (k := 0) (n := 0) (Nat.le_of_ble_eq_true rfl) (Nat.le_of_ble_eq_true rfl) ?_
  exact W.iret (v := (-1)) hx hb hr (fun t ht hW => ⟨⟨(-1), (), rfl, rfl, trivial⟩, hS.F ht⟩) hS.2.2 dX12_keeps_29
set_option maxHeartbeats 4000000 in
set_option maxRecDepth 100000 in
theorem mX12_retains (l : Launch) (dC : Nat → ClassId) (dI : Nat → Nat → Nat) (rm : Nat → Nat) (km : Nat → ClassId) (p1 : Int32) (sz : Nat) : Met l yX12_retains (Cond.code yX12_retains cX12_retains 2 (some .int) :: wA) ({ frames := 2, cells := 0, slots := 0, locals := 41 }) (va_Pc [.ref (rm 0), .int p1] (fun U => U.heap.size = sz ∧ va_P (dC, dI) vwCl (wd_758 rm km) U.heap ∧ va_K (dC, dI) vwCl [((km 0), .int), ((km 1), .int), ((km 2), .int), ((km 3), .int)] U ∧ va_D (fun _ => True) (wd_758 rm km))) (va_Qi (fun (r : Int32) (_ : Unit) => r = (-1)) (fun _ t => True) (va_A (wd_758 rm km) sz)) 0 0 (va_A (wd_758 rm km) sz) := by
  refine Met.ofW (cc := cX12_retains) (maxL := 2) (ret := (some .int)) (by decide) rfl ?_
  intro p e s m args below meth c s₁ B hml hv
  obtain ⟨rfl, hsz, hP, hK, hD0⟩ := hv
  have hx := B.exec
  have hb := B.bytes
  have hr := B.returns
  have hts : ∀ w ∈ wA, w.before [.ref (rm 0), .int p1].toArray s = true := fun w h => atoms_spec (ws := Cond.code yX12_retains cX12_retains 2 (some .int) :: wA) B.pre w (List.mem_cons_of_mem _ h)
  have hown : s.vm.findClass RX12 = some m.cls := findClass_of_methodNamed B.named
  have hlocks := B.notSynchronized
  subst hsz
  have hD := hD0.self (sz := s.heap.size)
  generalize hAe : va_A (wd_758 rm km) s.heap.size = A at hD ⊢
  have hA : ∀ q : Nat, s.heap.size ≤ q → A q := fun q h => by rw [← hAe]; exact Or.inr h
  have hS : va_S A s.heap s.heap [] := va_S.rf
  have hl := lv_entry ([.ref (rm 0), .int p1]) (n := 2) (Nat.le_of_ble_eq_true rfl)
  rw [lg_entry_eq]
  generalize (lg_sl ([.ref (rm 0), .int p1]) ++ List.replicate (2 - (lg_sl ([.ref (rm 0), .int p1])).length) Slot.unset).toArray = ls at hl ⊢
  have hl : lv_has ls 2 [(0, .ref (rm 0)), (1, .int p1)] := hl
  refine lv_aload_n hx hb dX12_retains_0 rfl (lv_at hl 0 rfl) ?_
  refine lv_iload_n hx hb dX12_retains_1 rfl (lv_at hl 1 rfl) ?_
  have hPc := hP.sub (ws' := (wd_758 rm km)) [0, 1, 2, 3, 4] rfl
  have hDc := hD.sub (ws' := (wd_758 rm km)) [0, 1, 2, 3, 4] (by decide) rfl
  have hKc := hK.sub (tys' := [((km 0), .int), ((km 1), .int), ((km 2), .int), ((km 3), .int)]) [0, 1, 2, 3] rfl
  have hFc := va_free (wc := (wd_758 rm km)) hD hS hA [0, 1, 2, 3, 4] rfl
  refine va_calli (va_runV (As := [.int p1]) (rest := []) ⟨hx, hb, hml, hown, hts⟩ (c108_X12_isAskedOf l dC dI rm km p1 s.heap.size) (cwV 1 hts (gV q_455 q_456 q_457 q_372 q_454) rfl rfl rfl mdv_yX12_isAskedOf ⟨Nat.le_of_ble_eq_true rfl, Nat.le_of_ble_eq_true rfl⟩) ⟨fun a U g mk q => by obtain ⟨q0, q1, qP, qK, qD⟩ := q; exact ⟨q0, q1, qP, va_K.moved (u := U) (U := U.calling g mk a) (Vm.Alike.refl U.vm) qK, qD⟩, va_recv hKc hPc (ci := 12) (q0 := 0) rfl rfl, fun U hU hW => ⟨rfl, by rw [hU], by rw [hU]; exact hPc, va_K.moved hW.alike hKc, hDc.weaken (fun _ _ _ _ => trivial)⟩⟩ rfl rfl hl.1 rfl (lv_room (Nat.le_of_ble_eq_true rfl)) dX12_retains_2 ⟨Nat.le_of_ble_eq_true rfl, Nat.le_of_ble_eq_true rfl⟩) hS (fun q _ h => hFc q h) hFc (fun r_1410 u t H1 locs ht hvm hw hB hz1 hk1 hS => ?_)
  obtain ⟨hP1, hK1, hD1⟩ := hB
  rw [ht] at hP1
  have hK1 := va_K.moved hvm.symm hK1
  obtain ⟨hP, hD⟩ := va_join (wr := []) (w1 := (wd_758 rm km)) hP hD [0, 1, 2, 3, 4] [] rfl rfl (by decide) (by decide) hk1 hFc hP1 hD1
  generalize H1 = H at hP hS ⊢
  have hP : va_P (dC, dI) vwCl (wd_758 rm km) H := hP
  have hD : va_D A (wd_758 rm km) := hD
  obtain rfl : r_1410 = 0 := hw
  refine lv_if_eq (tgt := 18) hx hb dX12_retains_5 (by decide) (fun c_0 => ?_) (fun c_0 => absurd c_0 (by decide))
  refine lv_iconst (v := (-1)) hx hb dX12_retains_18 (by decide) ?_
  refine W.widen (k := 0) (n := 0) (Nat.le_of_ble_eq_true rfl) (Nat.le_of_ble_eq_true rfl) ?_
  exact W.iret (v := (-1)) hx hb hr (fun t ht hW => ⟨⟨(-1), (), rfl, rfl, trivial⟩, hS.F ht⟩) hS.2.2 dX12_retains_19
set_option maxHeartbeats 4000000 in
set_option maxRecDepth 100000 in
theorem mX12_best (l : Launch) (dC : Nat → ClassId) (dI : Nat → Nat → Nat) (rm : Nat → Nat) (km : Nat → ClassId) (p1 : Int32) (sz : Nat) : Met l yX12_best (Cond.code yX12_best cX12_best 4 (some .int) :: wA) ({ frames := 1, cells := 0, slots := 0, locals := 20 }) (va_Pc [.ref (rm 0), .int p1] (fun U => U.heap.size = sz ∧ va_P (dC, dI) vwCl (wd_758 rm km) U.heap ∧ va_K (dC, dI) vwCl [((km 0), .int), ((km 1), .int), ((km 2), .int), ((km 3), .int)] U ∧ va_D (fun _ => True) (wd_758 rm km))) (va_Qi (fun (r : Int32) (_ : Unit) => r = (-1)) (fun _ t => True) (va_A (wd_758 rm km) sz)) 0 0 (va_A (wd_758 rm km) sz) := by
  refine Met.ofW (cc := cX12_best) (maxL := 4) (ret := (some .int)) (by decide) rfl ?_
  intro p e s m args below meth c s₁ B hml hv
  obtain ⟨rfl, hsz, hP, hK, hD0⟩ := hv
  have hx := B.exec
  have hb := B.bytes
  have hr := B.returns
  have hts : ∀ w ∈ wA, w.before [.ref (rm 0), .int p1].toArray s = true := fun w h => atoms_spec (ws := Cond.code yX12_best cX12_best 4 (some .int) :: wA) B.pre w (List.mem_cons_of_mem _ h)
  have hown : s.vm.findClass RX12 = some m.cls := findClass_of_methodNamed B.named
  have hlocks := B.notSynchronized
  subst hsz
  have hD := hD0.self (sz := s.heap.size)
  generalize hAe : va_A (wd_758 rm km) s.heap.size = A at hD ⊢
  have hA : ∀ q : Nat, s.heap.size ≤ q → A q := fun q h => by rw [← hAe]; exact Or.inr h
  have hS : va_S A s.heap s.heap [] := va_S.rf
  have hl := lv_entry ([.ref (rm 0), .int p1]) (n := 4) (Nat.le_of_ble_eq_true rfl)
  rw [lg_entry_eq]
  generalize (lg_sl ([.ref (rm 0), .int p1]) ++ List.replicate (4 - (lg_sl ([.ref (rm 0), .int p1])).length) Slot.unset).toArray = ls at hl ⊢
  have hl : lv_has ls 4 [(0, .ref (rm 0)), (1, .int p1)] := hl
  refine lv_aload_n hx hb dX12_best_0 rfl (lv_at hl 0 rfl) ?_
  have hPc := hP.sub (ws' := (wd_758 rm km)) [0, 1, 2, 3, 4] rfl
  have hDc := hD.sub (ws' := (wd_758 rm km)) [0, 1, 2, 3, 4] (by decide) rfl
  have hKc := hK.sub (tys' := [((km 0), .int), ((km 1), .int), ((km 2), .int), ((km 3), .int)]) [0, 1, 2, 3] rfl
  have hFc := va_free (wc := (wd_758 rm km)) hD hS hA [0, 1, 2, 3, 4] rfl
  refine va_calli (va_runV (As := []) (rest := []) ⟨hx, hb, hml, hown, hts⟩ (c106_X12_isAsked l dC dI rm km s.heap.size) (cwV 0 hts (gV q_450 q_451 q_452 q_372 q_449) rfl rfl rfl mdv_yX12_isAsked ⟨Nat.le_of_ble_eq_true rfl, Nat.le_of_ble_eq_true rfl⟩) ⟨fun a U g mk q => by obtain ⟨q0, q1, qP, qK, qD⟩ := q; exact ⟨q0, q1, qP, va_K.moved (u := U) (U := U.calling g mk a) (Vm.Alike.refl U.vm) qK, qD⟩, va_recv hKc hPc (ci := 12) (q0 := 0) rfl rfl, fun U hU hW => ⟨rfl, by rw [hU], by rw [hU]; exact hPc, va_K.moved hW.alike hKc, hDc.weaken (fun _ _ _ _ => trivial)⟩⟩ rfl rfl hl.1 rfl (lv_room (Nat.le_of_ble_eq_true rfl)) dX12_best_1 ⟨Nat.le_of_ble_eq_true rfl, Nat.le_of_ble_eq_true rfl⟩) hS (fun q _ h => hFc q h) hFc (fun r_1412 u t H1 locs ht hvm hw hB hz1 hk1 hS => ?_)
  obtain ⟨hP1, hK1, hD1⟩ := hB
  rw [ht] at hP1
  have hK1 := va_K.moved hvm.symm hK1
  obtain ⟨hP, hD⟩ := va_join (wr := []) (w1 := (wd_758 rm km)) hP hD [0, 1, 2, 3, 4] [] rfl rfl (by decide) (by decide) hk1 hFc hP1 hD1
  generalize H1 = H at hP hS ⊢
  have hP : va_P (dC, dI) vwCl (wd_758 rm km) H := hP
  have hD : va_D A (wd_758 rm km) := hD
  obtain rfl : r_1412 = 0 := hw
  refine lv_if_eq (tgt := 17) hx hb dX12_best_4 (by decide) (fun c_0 => ?_) (fun c_0 => absurd c_0 (by decide))
  refine lv_iconst (v := (-1)) hx hb dX12_best_17 (by decide) ?_
  refine W.widen (k := 0) (n := 0) (Nat.le_of_ble_eq_true rfl) (Nat.le_of_ble_eq_true rfl) ?_
  exact W.iret (v := (-1)) hx hb hr (fun t ht hW => ⟨⟨(-1), (), rfl, rfl, trivial⟩, hS.F ht⟩) hS.2.2 dX12_best_18
set_option maxHeartbeats 4000000 in
set_option maxRecDepth 100000 in
theorem mX12_found (l : Launch) (dC : Nat → ClassId) (dI : Nat → Nat → Nat) (rm : Nat → Nat) (km : Nat → ClassId) (p1 : Int32) (sz : Nat) : Met l yX12_found (Cond.code yX12_found cX12_found 2 (some .int) :: wA) ({ frames := 1, cells := 0, slots := 0, locals := 20 }) (va_Pc [.ref (rm 0), .int p1] (fun U => U.heap.size = sz ∧ va_P (dC, dI) vwCl (wd_758 rm km) U.heap ∧ va_K (dC, dI) vwCl [((km 0), .int), ((km 1), .int), ((km 2), .int), ((km 3), .int)] U ∧ va_D (fun _ => True) (wd_758 rm km))) (va_Qi (fun (r : Int32) (_ : Unit) => r = (-1)) (fun _ t => True) (va_A (wd_758 rm km) sz)) 0 0 (va_A (wd_758 rm km) sz) := by
  refine Met.ofW (cc := cX12_found) (maxL := 2) (ret := (some .int)) (by decide) rfl ?_
  intro p e s m args below meth c s₁ B hml hv
  obtain ⟨rfl, hsz, hP, hK, hD0⟩ := hv
  have hx := B.exec
  have hb := B.bytes
  have hr := B.returns
  have hts : ∀ w ∈ wA, w.before [.ref (rm 0), .int p1].toArray s = true := fun w h => atoms_spec (ws := Cond.code yX12_found cX12_found 2 (some .int) :: wA) B.pre w (List.mem_cons_of_mem _ h)
  have hown : s.vm.findClass RX12 = some m.cls := findClass_of_methodNamed B.named
  have hlocks := B.notSynchronized
  subst hsz
  have hD := hD0.self (sz := s.heap.size)
  generalize hAe : va_A (wd_758 rm km) s.heap.size = A at hD ⊢
  have hA : ∀ q : Nat, s.heap.size ≤ q → A q := fun q h => by rw [← hAe]; exact Or.inr h
  have hS : va_S A s.heap s.heap [] := va_S.rf
  have hl := lv_entry ([.ref (rm 0), .int p1]) (n := 2) (Nat.le_of_ble_eq_true rfl)
  rw [lg_entry_eq]
  generalize (lg_sl ([.ref (rm 0), .int p1]) ++ List.replicate (2 - (lg_sl ([.ref (rm 0), .int p1])).length) Slot.unset).toArray = ls at hl ⊢
  have hl : lv_has ls 2 [(0, .ref (rm 0)), (1, .int p1)] := hl
  refine lv_aload_n hx hb dX12_found_0 rfl (lv_at hl 0 rfl) ?_
  have hPc := hP.sub (ws' := (wd_758 rm km)) [0, 1, 2, 3, 4] rfl
  have hDc := hD.sub (ws' := (wd_758 rm km)) [0, 1, 2, 3, 4] (by decide) rfl
  have hKc := hK.sub (tys' := [((km 0), .int), ((km 1), .int), ((km 2), .int), ((km 3), .int)]) [0, 1, 2, 3] rfl
  have hFc := va_free (wc := (wd_758 rm km)) hD hS hA [0, 1, 2, 3, 4] rfl
  refine va_calli (va_runV (As := []) (rest := []) ⟨hx, hb, hml, hown, hts⟩ (c106_X12_isAsked l dC dI rm km s.heap.size) (cwV 0 hts (gV q_450 q_451 q_452 q_372 q_449) rfl rfl rfl mdv_yX12_isAsked ⟨Nat.le_of_ble_eq_true rfl, Nat.le_of_ble_eq_true rfl⟩) ⟨fun a U g mk q => by obtain ⟨q0, q1, qP, qK, qD⟩ := q; exact ⟨q0, q1, qP, va_K.moved (u := U) (U := U.calling g mk a) (Vm.Alike.refl U.vm) qK, qD⟩, va_recv hKc hPc (ci := 12) (q0 := 0) rfl rfl, fun U hU hW => ⟨rfl, by rw [hU], by rw [hU]; exact hPc, va_K.moved hW.alike hKc, hDc.weaken (fun _ _ _ _ => trivial)⟩⟩ rfl rfl hl.1 rfl (lv_room (Nat.le_of_ble_eq_true rfl)) dX12_found_1 ⟨Nat.le_of_ble_eq_true rfl, Nat.le_of_ble_eq_true rfl⟩) hS (fun q _ h => hFc q h) hFc (fun r_1414 u t H1 locs ht hvm hw hB hz1 hk1 hS => ?_)
  obtain ⟨hP1, hK1, hD1⟩ := hB
  rw [ht] at hP1
  have hK1 := va_K.moved hvm.symm hK1
  obtain ⟨hP, hD⟩ := va_join (wr := []) (w1 := (wd_758 rm km)) hP hD [0, 1, 2, 3, 4] [] rfl rfl (by decide) (by decide) hk1 hFc hP1 hD1
  generalize H1 = H at hP hS ⊢
  have hP : va_P (dC, dI) vwCl (wd_758 rm km) H := hP
  have hD : va_D A (wd_758 rm km) := hD
  obtain rfl : r_1414 = 0 := hw
  refine lv_if_ne (tgt := 9) hx hb dX12_found_4 (by decide) (fun c_0 => absurd c_0 (by decide)) (fun c_0 => ?_)
  refine lv_iconst (v := (-1)) hx hb dX12_found_7 (by decide) ?_
  refine W.widen (k := 0) (n := 0) (Nat.le_of_ble_eq_true rfl) (Nat.le_of_ble_eq_true rfl) ?_
  exact W.iret (v := (-1)) hx hb hr (fun t ht hW => ⟨⟨(-1), (), rfl, rfl, trivial⟩, hS.F ht⟩) hS.2.2 dX12_found_8
def wd_860 (rm : Nat → Nat) (km : Nat → ClassId) (f1418 : Nat → Int32) : va_W := [((rm 0), .inr (12, [.ref (rm 1), .int 0, .int 0, .int 0, .int 0, .int 0, .int 0, .int 0, .int (-1), .ref (rm 2), .ref (rm 3), .ref (rm 4), .ref (rm 5), .ref (rm 6), .ref (rm 7), .ref (rm 8), .ref (rm 9), .ref (rm 10), .ref (rm 11), .ref (rm 12), .ref (rm 13), .ref (rm 14), .ref (rm 15), .ref (rm 16), .int 0, .int 0, .int 0, .int 0, .int 0, .ref (rm 17), .ref (rm 18), .ref (rm 19), .ref (rm 20), .ref (rm 21), .int 0, .ref (rm 22), .ref (rm 23), .ref (rm 24), .int 0, .int 0, .int 0, .ref (rm 25), .ref (rm 26), .ref (rm 27), .int 0, .ref (rm 28), .ref (rm 29), .int 0, .ref (rm 30), .ref (rm 31), .int 0, .ref (rm 32), .ref (rm 33), .int 0, .ref (rm 34), .ref (rm 35), .int 0, .int 0, .int 0, .ref (rm 36), .ref (rm 37), .int 0, .ref (rm 38), .ref (rm 39), .int 0, .ref (rm 40), .ref (rm 41), .ref (rm 42), .int 0, .int 0, .long 1, .ref (rm 43), .int 0, .int 0, .int (-1), .int 0, .int 0, .int 0, .int 0, .ref (rm 44), .ref (rm 45), .ref (rm 46), .ref (rm 47), .int 0])), ((rm 1), .inl ((km 0), 1600, .inl (fun _ => 0))), ((rm 2), .inl ((km 1), 7, .inl f1418)), ((rm 22), .inl ((km 2), 422, .inl (fun _ => 0))), ((rm 23), .inl ((km 3), 422, .inl (fun _ => 0)))]
def wd_861 (rm : Nat → Nat) (km : Nat → ClassId) (f1421 : Nat → Int32) : va_W := [((rm 0), .inr (12, [.ref (rm 1), .int 0, .int 0, .int 0, .int 0, .int 0, .int 0, .int 0, .int (-1), .ref (rm 2), .ref (rm 3), .ref (rm 4), .ref (rm 5), .ref (rm 6), .ref (rm 7), .ref (rm 8), .ref (rm 9), .ref (rm 10), .ref (rm 11), .ref (rm 12), .ref (rm 13), .ref (rm 14), .ref (rm 15), .ref (rm 16), .int 0, .int 0, .int 0, .int 0, .int 0, .ref (rm 17), .ref (rm 18), .ref (rm 19), .ref (rm 20), .ref (rm 21), .int 0, .ref (rm 22), .ref (rm 23), .ref (rm 24), .int 0, .int 0, .int 0, .ref (rm 25), .ref (rm 26), .ref (rm 27), .int 0, .ref (rm 28), .ref (rm 29), .int 0, .ref (rm 30), .ref (rm 31), .int 0, .ref (rm 32), .ref (rm 33), .int 0, .ref (rm 34), .ref (rm 35), .int 0, .int 0, .int 0, .ref (rm 36), .ref (rm 37), .int 0, .ref (rm 38), .ref (rm 39), .int 0, .ref (rm 40), .ref (rm 41), .ref (rm 42), .int 0, .int 0, .long 1, .ref (rm 43), .int 0, .int 0, .int (-1), .int 0, .int 0, .int 0, .int 0, .ref (rm 44), .ref (rm 45), .ref (rm 46), .ref (rm 47), .int 0])), ((rm 1), .inl ((km 0), 1600, .inl (fun _ => 0))), ((rm 2), .inl ((km 1), 7, .inl f1421)), ((rm 22), .inl ((km 2), 422, .inl (fun _ => 0))), ((rm 23), .inl ((km 3), 422, .inl (fun _ => 0)))]
set_option maxHeartbeats 4000000 in
set_option maxRecDepth 100000 in
theorem c123_X12_refuses (l : Launch) (dC : Nat → ClassId) (dI : Nat → Nat → Nat) (rm : Nat → Nat) (km : Nat → ClassId) (sz : Nat) : Met l yX12_refuses (Cond.code yX12_refuses cX12_refuses 2 (some .int) :: wA) ({ frames := 0, cells := 0, slots := 0, locals := 0 }) (va_Pc [.ref (rm 0), .int 2] (fun U => U.heap.size = sz ∧ va_P (dC, dI) vwCl (wd_758 rm km) U.heap ∧ va_K (dC, dI) vwCl [((km 0), .int), ((km 1), .int), ((km 2), .int), ((km 3), .int)] U ∧ va_D (fun _ => True) (wd_758 rm km))) (va_Qi (fun (r : Int32) (_ : Unit) => r = (-1)) (fun _ t => ∃ f1421 : Nat → Int32, va_P (dC, dI) vwCl (wd_861 rm km f1421) t.heap ∧ va_K (dC, dI) vwCl [((km 0), .int), ((km 1), .int), ((km 2), .int), ((km 3), .int)] t ∧ va_D (va_A (wd_758 rm km) sz) (wd_861 rm km f1421)) (va_A (wd_758 rm km) sz)) 0 0 (va_A (wd_758 rm km) sz) := by
  refine Met.ofW (cc := cX12_refuses) (maxL := 2) (ret := (some .int)) (by decide) rfl ?_
  intro p e s m args below meth c s₁ B hml hv
  obtain ⟨rfl, hsz, hP, hK, hD0⟩ := hv
  have hx := B.exec
  have hb := B.bytes
  have hr := B.returns
  have hts : ∀ w ∈ wA, w.before [.ref (rm 0), .int 2].toArray s = true := fun w h => atoms_spec (ws := Cond.code yX12_refuses cX12_refuses 2 (some .int) :: wA) B.pre w (List.mem_cons_of_mem _ h)
  have hown : s.vm.findClass RX12 = some m.cls := findClass_of_methodNamed B.named
  have hlocks := B.notSynchronized
  subst hsz
  have hD := hD0.self (sz := s.heap.size)
  generalize hAe : va_A (wd_758 rm km) s.heap.size = A at hD ⊢
  have hA : ∀ q : Nat, s.heap.size ≤ q → A q := fun q h => by rw [← hAe]; exact Or.inr h
  have hS : va_S A s.heap s.heap [] := va_S.rf
  have hl := lv_entry ([.ref (rm 0), .int 2]) (n := 2) (Nat.le_of_ble_eq_true rfl)
  rw [lg_entry_eq]
  generalize (lg_sl ([.ref (rm 0), .int 2]) ++ List.replicate (2 - (lg_sl ([.ref (rm 0), .int 2])).length) Slot.unset).toArray = ls at hl ⊢
  have hl : lv_has ls 2 [(0, .ref (rm 0)), (1, .int 2)] := hl
  refine lv_aload_n hx hb dX12_refuses_0 rfl (lv_at hl 0 rfl) ?_
  refine va_get (D := (dC, dI)) (ci := 12) (v := .ref (rm 2)) (C := RX12) (T := TX12) (N := 84) hx hb hts i_X12 hown hK hP 0 rfl rfl 9 (by decide) (hts _ q_189) (fun _ h9 => h9) rfl dX12_refuses_1 ?_
  refine lv_iload_n hx hb dX12_refuses_4 rfl (lv_at hl 1 rfl) ?_
  refine lv_dup2_11 hx hb dX12_refuses_5 rfl rfl ?_
  refine va_iald hx hb hK hP 2 1 rfl rfl (vpi (by decide)) dX12_refuses_6 ?_
  refine lv_topi (fun x_1419 ex_1419 => ?_)
  obtain rfl : x_1419 = 0 := ex_1419
  refine lv_iconst (v := 1) hx hb dX12_refuses_7 (by decide) ?_
  refine lv_iadd hx hb dX12_refuses_8 ?_
  refine lv_topi (fun x_1420 ex_1420 => ?_)
  obtain rfl : x_1420 = 1 := ex_1420.trans (by decide)
  refine va_iast hx hb hK hP hD hS 2 1 rfl rfl (vpi (by decide)) dX12_refuses_9 (fun H locs hP hD hS => ?_)
  obtain ⟨f1421, hP, hD⟩ : ∃ f : Nat → Int32, va_P (dC, dI) vwCl (wd_759 rm km f) H ∧ va_D A (wd_759 rm km f) := ⟨_, hP, hD⟩
  have hP : va_P (dC, dI) vwCl (wd_861 rm km f1421) H := hP
  have hD : va_D A (wd_861 rm km f1421) := hD
  refine lv_iconst (v := (-1)) hx hb dX12_refuses_10 (by decide) ?_
  refine W.widen (k := 0) (n := 0) (Nat.le_of_ble_eq_true rfl) (Nat.le_of_ble_eq_true rfl) ?_
  have hP9 := hP.sub (ws' := (wd_861 rm km f1421)) [0, 1, 2, 3, 4] rfl
  have hD9 := hD.sub (ws' := (wd_861 rm km f1421)) [0, 1, 2, 3, 4] (by decide) rfl
  have hK9 := hK.sub (tys' := [((km 0), .int), ((km 1), .int), ((km 2), .int), ((km 3), .int)]) [0, 1, 2, 3] rfl
  exact W.iret (v := (-1)) hx hb hr (fun t ht hW => ⟨⟨(-1), (), rfl, rfl, f1421, by rw [ht]; exact hP9, va_K.moved hW.alike hK9, hD9⟩, hS.F ht⟩) hS.2.2 dX12_refuses_11
def wd_862 (rm : Nat → Nat) (km : Nat → ClassId) (f1423 : Nat → Int32) : va_W := [((rm 0), .inr (12, [.ref (rm 1), .int 0, .int 0, .int 0, .int 0, .int 0, .int 0, .int 0, .int (-1), .ref (rm 2), .ref (rm 3), .ref (rm 4), .ref (rm 5), .ref (rm 6), .ref (rm 7), .ref (rm 8), .ref (rm 9), .ref (rm 10), .ref (rm 11), .ref (rm 12), .ref (rm 13), .ref (rm 14), .ref (rm 15), .ref (rm 16), .int 0, .int 0, .int 0, .int 0, .int 0, .ref (rm 17), .ref (rm 18), .ref (rm 19), .ref (rm 20), .ref (rm 21), .int 0, .ref (rm 22), .ref (rm 23), .ref (rm 24), .int 0, .int 0, .int 0, .ref (rm 25), .ref (rm 26), .ref (rm 27), .int 0, .ref (rm 28), .ref (rm 29), .int 0, .ref (rm 30), .ref (rm 31), .int 0, .ref (rm 32), .ref (rm 33), .int 0, .ref (rm 34), .ref (rm 35), .int 0, .int 0, .int 0, .ref (rm 36), .ref (rm 37), .int 0, .ref (rm 38), .ref (rm 39), .int 0, .ref (rm 40), .ref (rm 41), .ref (rm 42), .int 0, .int 0, .long 1, .ref (rm 43), .int 0, .int 0, .int (-1), .int 0, .int 0, .int 0, .int 0, .ref (rm 44), .ref (rm 45), .ref (rm 46), .ref (rm 47), .int 0])), ((rm 1), .inl ((km 0), 1600, .inl (fun _ => 0))), ((rm 2), .inl ((km 1), 7, .inl f1423)), ((rm 22), .inl ((km 2), 422, .inl (fun _ => 0))), ((rm 23), .inl ((km 3), 422, .inl (fun _ => 0)))]
def wd_863 (rm : Nat → Nat) (km : Nat → ClassId) (f1426 : Nat → Int32) : va_W := [((rm 0), .inr (12, [.ref (rm 1), .int 0, .int 0, .int 0, .int 0, .int 0, .int 0, .int 0, .int (-1), .ref (rm 2), .ref (rm 3), .ref (rm 4), .ref (rm 5), .ref (rm 6), .ref (rm 7), .ref (rm 8), .ref (rm 9), .ref (rm 10), .ref (rm 11), .ref (rm 12), .ref (rm 13), .ref (rm 14), .ref (rm 15), .ref (rm 16), .int 0, .int 0, .int 0, .int 0, .int 0, .ref (rm 17), .ref (rm 18), .ref (rm 19), .ref (rm 20), .ref (rm 21), .int 0, .ref (rm 22), .ref (rm 23), .ref (rm 24), .int 0, .int 0, .int 0, .ref (rm 25), .ref (rm 26), .ref (rm 27), .int 0, .ref (rm 28), .ref (rm 29), .int 0, .ref (rm 30), .ref (rm 31), .int 0, .ref (rm 32), .ref (rm 33), .int 0, .ref (rm 34), .ref (rm 35), .int 0, .int 0, .int 0, .ref (rm 36), .ref (rm 37), .int 0, .ref (rm 38), .ref (rm 39), .int 0, .ref (rm 40), .ref (rm 41), .ref (rm 42), .int 0, .int 0, .long 1, .ref (rm 43), .int 0, .int 0, .int (-1), .int 0, .int 0, .int 0, .int 0, .ref (rm 44), .ref (rm 45), .ref (rm 46), .ref (rm 47), .int 0])), ((rm 1), .inl ((km 0), 1600, .inl (fun _ => 0))), ((rm 2), .inl ((km 1), 7, .inl f1426)), ((rm 22), .inl ((km 2), 422, .inl (fun _ => 0))), ((rm 23), .inl ((km 3), 422, .inl (fun _ => 0)))]
set_option maxHeartbeats 4000000 in
set_option maxRecDepth 100000 in
theorem mX12_remember (l : Launch) (dC : Nat → ClassId) (dI : Nat → Nat → Nat) (rm : Nat → Nat) (km : Nat → ClassId) (sz : Nat) : Met l yX12_remember (Cond.code yX12_remember cX12_remember 2 (some .int) :: wA) ({ frames := 1, cells := 0, slots := 0, locals := 21 }) (va_Pc [.ref (rm 0)] (fun U => U.heap.size = sz ∧ va_P (dC, dI) vwCl (wd_758 rm km) U.heap ∧ va_K (dC, dI) vwCl [((km 0), .int), ((km 1), .int), ((km 2), .int), ((km 3), .int)] U ∧ va_D (fun _ => True) (wd_758 rm km))) (va_Qi (fun (r : Int32) (_ : Unit) => r = (-1)) (fun _ t => True) (va_A (wd_758 rm km) sz)) 0 0 (va_A (wd_758 rm km) sz) := by
  refine Met.ofW (cc := cX12_remember) (maxL := 2) (ret := (some .int)) (by decide) rfl ?_
  intro p e s m args below meth c s₁ B hml hv
  obtain ⟨rfl, hsz, hP, hK, hD0⟩ := hv
  have hx := B.exec
  have hb := B.bytes
  have hr := B.returns
  have hts : ∀ w ∈ wA, w.before [.ref (rm 0)].toArray s = true := fun w h => atoms_spec (ws := Cond.code yX12_remember cX12_remember 2 (some .int) :: wA) B.pre w (List.mem_cons_of_mem _ h)
  have hown : s.vm.findClass RX12 = some m.cls := findClass_of_methodNamed B.named
  have hlocks := B.notSynchronized
  subst hsz
  have hD := hD0.self (sz := s.heap.size)
  generalize hAe : va_A (wd_758 rm km) s.heap.size = A at hD ⊢
  have hA : ∀ q : Nat, s.heap.size ≤ q → A q := fun q h => by rw [← hAe]; exact Or.inr h
  have hS : va_S A s.heap s.heap [] := va_S.rf
  have hl := lv_entry ([.ref (rm 0)]) (n := 2) (Nat.le_of_ble_eq_true rfl)
  rw [lg_entry_eq]
  generalize (lg_sl ([.ref (rm 0)]) ++ List.replicate (2 - (lg_sl ([.ref (rm 0)])).length) Slot.unset).toArray = ls at hl ⊢
  have hl : lv_has ls 2 [(0, .ref (rm 0))] := hl
  refine lv_aload_n hx hb dX12_remember_0 rfl (lv_at hl 0 rfl) ?_
  have hPc := hP.sub (ws' := (wd_758 rm km)) [0, 1, 2, 3, 4] rfl
  have hDc := hD.sub (ws' := (wd_758 rm km)) [0, 1, 2, 3, 4] (by decide) rfl
  have hKc := hK.sub (tys' := [((km 0), .int), ((km 1), .int), ((km 2), .int), ((km 3), .int)]) [0, 1, 2, 3] rfl
  have hFc := va_free (wc := (wd_758 rm km)) hD hS hA [0, 1, 2, 3, 4] rfl
  refine va_calli (va_runV (As := []) (rest := []) ⟨hx, hb, hml, hown, hts⟩ (c106_X12_isAsked l dC dI rm km s.heap.size) (cwV 0 hts (gV q_450 q_451 q_452 q_372 q_449) rfl rfl rfl mdv_yX12_isAsked ⟨Nat.le_of_ble_eq_true rfl, Nat.le_of_ble_eq_true rfl⟩) ⟨fun a U g mk q => by obtain ⟨q0, q1, qP, qK, qD⟩ := q; exact ⟨q0, q1, qP, va_K.moved (u := U) (U := U.calling g mk a) (Vm.Alike.refl U.vm) qK, qD⟩, va_recv hKc hPc (ci := 12) (q0 := 0) rfl rfl, fun U hU hW => ⟨rfl, by rw [hU], by rw [hU]; exact hPc, va_K.moved hW.alike hKc, hDc.weaken (fun _ _ _ _ => trivial)⟩⟩ rfl rfl hl.1 rfl (lv_room (Nat.le_of_ble_eq_true rfl)) dX12_remember_1 ⟨Nat.le_of_ble_eq_true rfl, Nat.le_of_ble_eq_true rfl⟩) hS (fun q _ h => hFc q h) hFc (fun r_1424 u t H1 locs ht hvm hw hB hz1 hk1 hS => ?_)
  obtain ⟨hP1, hK1, hD1⟩ := hB
  rw [ht] at hP1
  have hK1 := va_K.moved hvm.symm hK1
  obtain ⟨hP, hD⟩ := va_join (wr := []) (w1 := (wd_758 rm km)) hP hD [0, 1, 2, 3, 4] [] rfl rfl (by decide) (by decide) hk1 hFc hP1 hD1
  generalize H1 = H at hP hS ⊢
  have hP : va_P (dC, dI) vwCl (wd_758 rm km) H := hP
  have hD : va_D A (wd_758 rm km) := hD
  obtain rfl : r_1424 = 0 := hw
  refine lv_if_ne (tgt := 13) hx hb dX12_remember_4 (by decide) (fun c_0 => absurd c_0 (by decide)) (fun c_0 => ?_)
  refine lv_aload_n hx hb dX12_remember_7 rfl (lv_at hl 0 rfl) ?_
  refine lv_iconst (v := 2) hx hb dX12_remember_8 (by decide) ?_
  have hPc := hP.sub (ws' := (wd_758 rm km)) [0, 1, 2, 3, 4] rfl
  have hDc := hD.sub (ws' := (wd_758 rm km)) [0, 1, 2, 3, 4] (by decide) rfl
  have hKc := hK.sub (tys' := [((km 0), .int), ((km 1), .int), ((km 2), .int), ((km 3), .int)]) [0, 1, 2, 3] rfl
  have hFc := va_free (wc := (wd_758 rm km)) hD hS hA [0, 1, 2, 3, 4] rfl
  refine va_calli (va_runV (As := [.int 2]) (rest := []) ⟨hx, hb, hml, hown, hts⟩ (c123_X12_refuses l dC dI rm km H.size) (cwV 1 hts (gV q_426 q_427 q_428 q_372 q_425) rfl rfl rfl mdv_yX12_refuses ⟨Nat.le_of_ble_eq_true rfl, Nat.le_of_ble_eq_true rfl⟩) ⟨fun a U g mk q => by obtain ⟨q0, q1, qP, qK, qD⟩ := q; exact ⟨q0, q1, qP, va_K.moved (u := U) (U := U.calling g mk a) (Vm.Alike.refl U.vm) qK, qD⟩, va_recv hKc hPc (ci := 12) (q0 := 0) rfl rfl, fun U hU hW => ⟨rfl, by rw [hU], by rw [hU]; exact hPc, va_K.moved hW.alike hKc, hDc.weaken (fun _ _ _ _ => trivial)⟩⟩ rfl rfl hl.1 rfl (lv_room (Nat.le_of_ble_eq_true rfl)) dX12_remember_9 ⟨Nat.le_of_ble_eq_true rfl, Nat.le_of_ble_eq_true rfl⟩) hS (fun q _ h => hFc q h) hFc (fun r_1425 u t H1 locs ht hvm hw hB hz1 hk1 hS => ?_)
  obtain ⟨f1426, hP1, hK1, hD1⟩ := hB
  rw [ht] at hP1
  have hK1 := va_K.moved hvm.symm hK1
  obtain ⟨hP, hD⟩ := va_join (wr := []) (w1 := (wd_863 rm km f1426)) hP hD [0, 1, 2, 3, 4] [] rfl rfl (by decide) (by decide) hk1 hFc hP1 hD1
  have hK := (hK.sub (tys' := []) [] rfl).app hK1
  have hK : va_K (dC, dI) vwCl [((km 0), .int), ((km 1), .int), ((km 2), .int), ((km 3), .int)] s := hK
  generalize H1 = H at hP hS ⊢
  have hP : va_P (dC, dI) vwCl (wd_863 rm km f1426) H := hP
  have hD : va_D A (wd_863 rm km f1426) := hD
  obtain rfl : r_1425 = (-1) := hw
  refine W.widen (k := 0) (n := 0) (Nat.le_of_ble_eq_true rfl) (Nat.le_of_ble_eq_true rfl) ?_
  exact W.iret (v := (-1)) hx hb hr (fun t ht hW => ⟨⟨(-1), (), rfl, rfl, trivial⟩, hS.F ht⟩) hS.2.2 dX12_remember_12
set_option maxHeartbeats 4000000 in
set_option maxRecDepth 100000 in
theorem mX12_alike (l : Launch) (dC : Nat → ClassId) (dI : Nat → Nat → Nat) (rm : Nat → Nat) (km : Nat → ClassId) (sz : Nat) : Met l yX12_alike (Cond.code yX12_alike cX12_alike 2 (some .int) :: wA) ({ frames := 0, cells := 0, slots := 0, locals := 0 }) (va_Pc [.ref (rm 0)] (fun U => U.heap.size = sz ∧ va_P (dC, dI) vwCl (wd_758 rm km) U.heap ∧ va_K (dC, dI) vwCl [((km 0), .int), ((km 1), .int), ((km 2), .int), ((km 3), .int)] U ∧ va_D (fun _ => True) (wd_758 rm km))) (va_Qi (fun (r : Int32) (_ : Unit) => r = (-1)) (fun _ t => True) (va_A (wd_758 rm km) sz)) 0 0 (va_A (wd_758 rm km) sz) := by
  refine Met.ofW (cc := cX12_alike) (maxL := 2) (ret := (some .int)) (by decide) rfl ?_
  intro p e s m args below meth c s₁ B hml hv
  obtain ⟨rfl, hsz, hP, hK, hD0⟩ := hv
  have hx := B.exec
  have hb := B.bytes
  have hr := B.returns
  have hts : ∀ w ∈ wA, w.before [.ref (rm 0)].toArray s = true := fun w h => atoms_spec (ws := Cond.code yX12_alike cX12_alike 2 (some .int) :: wA) B.pre w (List.mem_cons_of_mem _ h)
  have hown : s.vm.findClass RX12 = some m.cls := findClass_of_methodNamed B.named
  have hlocks := B.notSynchronized
  subst hsz
  have hD := hD0.self (sz := s.heap.size)
  generalize hAe : va_A (wd_758 rm km) s.heap.size = A at hD ⊢
  have hA : ∀ q : Nat, s.heap.size ≤ q → A q := fun q h => by rw [← hAe]; exact Or.inr h
  have hS : va_S A s.heap s.heap [] := va_S.rf
  have hl := lv_entry ([.ref (rm 0)]) (n := 2) (Nat.le_of_ble_eq_true rfl)
  rw [lg_entry_eq]
  generalize (lg_sl ([.ref (rm 0)]) ++ List.replicate (2 - (lg_sl ([.ref (rm 0)])).length) Slot.unset).toArray = ls at hl ⊢
  have hl : lv_has ls 2 [(0, .ref (rm 0))] := hl
  refine lv_aload_n hx hb dX12_alike_0 rfl (lv_at hl 0 rfl) ?_
  refine va_get (D := (dC, dI)) (ci := 12) (v := .int 0) (C := RX12) (T := TX12) (N := 84) hx hb hts i_X12 hown hK hP 0 rfl rfl 56 (by decide) (hts _ q_440) (fun _ h9 => h9) rfl dX12_alike_1 ?_
  refine lv_if_eq (tgt := 14) hx hb dX12_alike_4 (by decide) (fun c_0 => ?_) (fun c_0 => absurd c_0 (by decide))
  refine lv_iconst (v := (-1)) hx hb dX12_alike_14 (by decide) ?_
  refine W.widen (k := 0) (n := 0) (Nat.le_of_ble_eq_true rfl) (Nat.le_of_ble_eq_true rfl) ?_
  exact W.iret (v := (-1)) hx hb hr (fun t ht hW => ⟨⟨(-1), (), rfl, rfl, trivial⟩, hS.F ht⟩) hS.2.2 dX12_alike_15
def wd_864 (rm : Nat → Nat) (km : Nat → ClassId) (f1429 : Nat → Int32) : va_W := [((rm 0), .inr (12, [.ref (rm 1), .int 0, .int 0, .int 0, .int 0, .int 0, .int 0, .int 0, .int (-1), .ref (rm 2), .ref (rm 3), .ref (rm 4), .ref (rm 5), .ref (rm 6), .ref (rm 7), .ref (rm 8), .ref (rm 9), .ref (rm 10), .ref (rm 11), .ref (rm 12), .ref (rm 13), .ref (rm 14), .ref (rm 15), .ref (rm 16), .int 0, .int 0, .int 0, .int 0, .int 0, .ref (rm 17), .ref (rm 18), .ref (rm 19), .ref (rm 20), .ref (rm 21), .int 0, .ref (rm 22), .ref (rm 23), .ref (rm 24), .int 0, .int 0, .int 0, .ref (rm 25), .ref (rm 26), .ref (rm 27), .int 0, .ref (rm 28), .ref (rm 29), .int 0, .ref (rm 30), .ref (rm 31), .int 0, .ref (rm 32), .ref (rm 33), .int 0, .ref (rm 34), .ref (rm 35), .int 0, .int 0, .int 0, .ref (rm 36), .ref (rm 37), .int 0, .ref (rm 38), .ref (rm 39), .int 0, .ref (rm 40), .ref (rm 41), .ref (rm 42), .int 0, .int 0, .long 1, .ref (rm 43), .int 0, .int 0, .int (-1), .int 0, .int 0, .int 0, .int 0, .ref (rm 44), .ref (rm 45), .ref (rm 46), .ref (rm 47), .int 0])), ((rm 1), .inl ((km 0), 1600, .inl (fun _ => 0))), ((rm 2), .inl ((km 1), 7, .inl f1429)), ((rm 22), .inl ((km 2), 422, .inl (fun _ => 0))), ((rm 23), .inl ((km 3), 422, .inl (fun _ => 0)))]
def wd_865 (rm : Nat → Nat) (km : Nat → ClassId) (f1432 : Nat → Int32) : va_W := [((rm 0), .inr (12, [.ref (rm 1), .int 0, .int 0, .int 0, .int 0, .int 0, .int 0, .int 0, .int (-1), .ref (rm 2), .ref (rm 3), .ref (rm 4), .ref (rm 5), .ref (rm 6), .ref (rm 7), .ref (rm 8), .ref (rm 9), .ref (rm 10), .ref (rm 11), .ref (rm 12), .ref (rm 13), .ref (rm 14), .ref (rm 15), .ref (rm 16), .int 0, .int 0, .int 0, .int 0, .int 0, .ref (rm 17), .ref (rm 18), .ref (rm 19), .ref (rm 20), .ref (rm 21), .int 0, .ref (rm 22), .ref (rm 23), .ref (rm 24), .int 0, .int 0, .int 0, .ref (rm 25), .ref (rm 26), .ref (rm 27), .int 0, .ref (rm 28), .ref (rm 29), .int 0, .ref (rm 30), .ref (rm 31), .int 0, .ref (rm 32), .ref (rm 33), .int 0, .ref (rm 34), .ref (rm 35), .int 0, .int 0, .int 0, .ref (rm 36), .ref (rm 37), .int 0, .ref (rm 38), .ref (rm 39), .int 0, .ref (rm 40), .ref (rm 41), .ref (rm 42), .int 0, .int 0, .long 1, .ref (rm 43), .int 0, .int 0, .int (-1), .int 0, .int 0, .int 0, .int 0, .ref (rm 44), .ref (rm 45), .ref (rm 46), .ref (rm 47), .int 0])), ((rm 1), .inl ((km 0), 1600, .inl (fun _ => 0))), ((rm 2), .inl ((km 1), 7, .inl f1432)), ((rm 22), .inl ((km 2), 422, .inl (fun _ => 0))), ((rm 23), .inl ((km 3), 422, .inl (fun _ => 0)))]
set_option maxHeartbeats 4000000 in
set_option maxRecDepth 100000 in
theorem c126_X12_refuses (l : Launch) (dC : Nat → ClassId) (dI : Nat → Nat → Nat) (rm : Nat → Nat) (km : Nat → ClassId) (sz : Nat) : Met l yX12_refuses (Cond.code yX12_refuses cX12_refuses 2 (some .int) :: wA) ({ frames := 0, cells := 0, slots := 0, locals := 0 }) (va_Pc [.ref (rm 0), .int 1] (fun U => U.heap.size = sz ∧ va_P (dC, dI) vwCl (wd_758 rm km) U.heap ∧ va_K (dC, dI) vwCl [((km 0), .int), ((km 1), .int), ((km 2), .int), ((km 3), .int)] U ∧ va_D (fun _ => True) (wd_758 rm km))) (va_Qi (fun (r : Int32) (_ : Unit) => r = (-1)) (fun _ t => ∃ f1432 : Nat → Int32, va_P (dC, dI) vwCl (wd_865 rm km f1432) t.heap ∧ va_K (dC, dI) vwCl [((km 0), .int), ((km 1), .int), ((km 2), .int), ((km 3), .int)] t ∧ va_D (va_A (wd_758 rm km) sz) (wd_865 rm km f1432)) (va_A (wd_758 rm km) sz)) 0 0 (va_A (wd_758 rm km) sz) := by
  refine Met.ofW (cc := cX12_refuses) (maxL := 2) (ret := (some .int)) (by decide) rfl ?_
  intro p e s m args below meth c s₁ B hml hv
  obtain ⟨rfl, hsz, hP, hK, hD0⟩ := hv
  have hx := B.exec
  have hb := B.bytes
  have hr := B.returns
  have hts : ∀ w ∈ wA, w.before [.ref (rm 0), .int 1].toArray s = true := fun w h => atoms_spec (ws := Cond.code yX12_refuses cX12_refuses 2 (some .int) :: wA) B.pre w (List.mem_cons_of_mem _ h)
  have hown : s.vm.findClass RX12 = some m.cls := findClass_of_methodNamed B.named
  have hlocks := B.notSynchronized
  subst hsz
  have hD := hD0.self (sz := s.heap.size)
  generalize hAe : va_A (wd_758 rm km) s.heap.size = A at hD ⊢
  have hA : ∀ q : Nat, s.heap.size ≤ q → A q := fun q h => by rw [← hAe]; exact Or.inr h
  have hS : va_S A s.heap s.heap [] := va_S.rf
  have hl := lv_entry ([.ref (rm 0), .int 1]) (n := 2) (Nat.le_of_ble_eq_true rfl)
  rw [lg_entry_eq]
  generalize (lg_sl ([.ref (rm 0), .int 1]) ++ List.replicate (2 - (lg_sl ([.ref (rm 0), .int 1])).length) Slot.unset).toArray = ls at hl ⊢
  have hl : lv_has ls 2 [(0, .ref (rm 0)), (1, .int 1)] := hl
  refine lv_aload_n hx hb dX12_refuses_0 rfl (lv_at hl 0 rfl) ?_
  refine va_get (D := (dC, dI)) (ci := 12) (v := .ref (rm 2)) (C := RX12) (T := TX12) (N := 84) hx hb hts i_X12 hown hK hP 0 rfl rfl 9 (by decide) (hts _ q_189) (fun _ h9 => h9) rfl dX12_refuses_1 ?_
  refine lv_iload_n hx hb dX12_refuses_4 rfl (lv_at hl 1 rfl) ?_
  refine lv_dup2_11 hx hb dX12_refuses_5 rfl rfl ?_
  refine va_iald hx hb hK hP 2 1 rfl rfl (vpi (by decide)) dX12_refuses_6 ?_
  refine lv_topi (fun x_1430 ex_1430 => ?_)
  obtain rfl : x_1430 = 0 := ex_1430
  refine lv_iconst (v := 1) hx hb dX12_refuses_7 (by decide) ?_
  refine lv_iadd hx hb dX12_refuses_8 ?_
  refine lv_topi (fun x_1431 ex_1431 => ?_)
  obtain rfl : x_1431 = 1 := ex_1431.trans (by decide)
  refine va_iast hx hb hK hP hD hS 2 1 rfl rfl (vpi (by decide)) dX12_refuses_9 (fun H locs hP hD hS => ?_)
  obtain ⟨f1432, hP, hD⟩ : ∃ f : Nat → Int32, va_P (dC, dI) vwCl (wd_759 rm km f) H ∧ va_D A (wd_759 rm km f) := ⟨_, hP, hD⟩
  have hP : va_P (dC, dI) vwCl (wd_865 rm km f1432) H := hP
  have hD : va_D A (wd_865 rm km f1432) := hD
  refine lv_iconst (v := (-1)) hx hb dX12_refuses_10 (by decide) ?_
  refine W.widen (k := 0) (n := 0) (Nat.le_of_ble_eq_true rfl) (Nat.le_of_ble_eq_true rfl) ?_
  have hP9 := hP.sub (ws' := (wd_865 rm km f1432)) [0, 1, 2, 3, 4] rfl
  have hD9 := hD.sub (ws' := (wd_865 rm km f1432)) [0, 1, 2, 3, 4] (by decide) rfl
  have hK9 := hK.sub (tys' := [((km 0), .int), ((km 1), .int), ((km 2), .int), ((km 3), .int)]) [0, 1, 2, 3] rfl
  exact W.iret (v := (-1)) hx hb hr (fun t ht hW => ⟨⟨(-1), (), rfl, rfl, f1432, by rw [ht]; exact hP9, va_K.moved hW.alike hK9, hD9⟩, hS.F ht⟩) hS.2.2 dX12_refuses_11
def wd_866 (rm : Nat → Nat) (km : Nat → ClassId) (f1434 : Nat → Int32) : va_W := [((rm 0), .inr (12, [.ref (rm 1), .int 0, .int 0, .int 0, .int 0, .int 0, .int 0, .int 0, .int (-1), .ref (rm 2), .ref (rm 3), .ref (rm 4), .ref (rm 5), .ref (rm 6), .ref (rm 7), .ref (rm 8), .ref (rm 9), .ref (rm 10), .ref (rm 11), .ref (rm 12), .ref (rm 13), .ref (rm 14), .ref (rm 15), .ref (rm 16), .int 0, .int 0, .int 0, .int 0, .int 0, .ref (rm 17), .ref (rm 18), .ref (rm 19), .ref (rm 20), .ref (rm 21), .int 0, .ref (rm 22), .ref (rm 23), .ref (rm 24), .int 0, .int 0, .int 0, .ref (rm 25), .ref (rm 26), .ref (rm 27), .int 0, .ref (rm 28), .ref (rm 29), .int 0, .ref (rm 30), .ref (rm 31), .int 0, .ref (rm 32), .ref (rm 33), .int 0, .ref (rm 34), .ref (rm 35), .int 0, .int 0, .int 0, .ref (rm 36), .ref (rm 37), .int 0, .ref (rm 38), .ref (rm 39), .int 0, .ref (rm 40), .ref (rm 41), .ref (rm 42), .int 0, .int 0, .long 1, .ref (rm 43), .int 0, .int 0, .int (-1), .int 0, .int 0, .int 0, .int 0, .ref (rm 44), .ref (rm 45), .ref (rm 46), .ref (rm 47), .int 0])), ((rm 1), .inl ((km 0), 1600, .inl (fun _ => 0))), ((rm 2), .inl ((km 1), 7, .inl f1434)), ((rm 22), .inl ((km 2), 422, .inl (fun _ => 0))), ((rm 23), .inl ((km 3), 422, .inl (fun _ => 0)))]
def wd_867 (rm : Nat → Nat) (km : Nat → ClassId) (f1436 : Nat → Int32) : va_W := [((rm 0), .inr (12, [.ref (rm 1), .int 0, .int 0, .int 0, .int 0, .int 0, .int 0, .int 0, .int (-1), .ref (rm 2), .ref (rm 3), .ref (rm 4), .ref (rm 5), .ref (rm 6), .ref (rm 7), .ref (rm 8), .ref (rm 9), .ref (rm 10), .ref (rm 11), .ref (rm 12), .ref (rm 13), .ref (rm 14), .ref (rm 15), .ref (rm 16), .int 0, .int 0, .int 0, .int 0, .int 0, .ref (rm 17), .ref (rm 18), .ref (rm 19), .ref (rm 20), .ref (rm 21), .int 0, .ref (rm 22), .ref (rm 23), .ref (rm 24), .int 0, .int 0, .int 0, .ref (rm 25), .ref (rm 26), .ref (rm 27), .int 0, .ref (rm 28), .ref (rm 29), .int 0, .ref (rm 30), .ref (rm 31), .int 0, .ref (rm 32), .ref (rm 33), .int 0, .ref (rm 34), .ref (rm 35), .int 0, .int 0, .int 0, .ref (rm 36), .ref (rm 37), .int 0, .ref (rm 38), .ref (rm 39), .int 0, .ref (rm 40), .ref (rm 41), .ref (rm 42), .int 0, .int 0, .long 1, .ref (rm 43), .int 0, .int 0, .int (-1), .int 0, .int 0, .int 0, .int 0, .ref (rm 44), .ref (rm 45), .ref (rm 46), .ref (rm 47), .int 0])), ((rm 1), .inl ((km 0), 1600, .inl (fun _ => 0))), ((rm 2), .inl ((km 1), 7, .inl f1436)), ((rm 22), .inl ((km 2), 422, .inl (fun _ => 0))), ((rm 23), .inl ((km 3), 422, .inl (fun _ => 0)))]
set_option maxHeartbeats 4000000 in
set_option maxRecDepth 100000 in
theorem mX12_see (l : Launch) (dC : Nat → ClassId) (dI : Nat → Nat → Nat) (rm : Nat → Nat) (km : Nat → ClassId) (sz : Nat) : Met l yX12_see (Cond.code yX12_see cX12_see 4 (some .int) :: wA) ({ frames := 1, cells := 0, slots := 0, locals := 21 }) (va_Pc [.ref (rm 0)] (fun U => U.heap.size = sz ∧ va_P (dC, dI) vwCl (wd_758 rm km) U.heap ∧ va_K (dC, dI) vwCl [((km 0), .int), ((km 1), .int), ((km 2), .int), ((km 3), .int)] U ∧ va_D (fun _ => True) (wd_758 rm km))) (va_Qi (fun (r : Int32) (_ : Unit) => r = (-1)) (fun _ t => True) (va_A (wd_758 rm km) sz)) 0 0 (va_A (wd_758 rm km) sz) := by
  refine Met.ofW (cc := cX12_see) (maxL := 4) (ret := (some .int)) (by decide) rfl ?_
  intro p e s m args below meth c s₁ B hml hv
  obtain ⟨rfl, hsz, hP, hK, hD0⟩ := hv
  have hx := B.exec
  have hb := B.bytes
  have hr := B.returns
  have hts : ∀ w ∈ wA, w.before [.ref (rm 0)].toArray s = true := fun w h => atoms_spec (ws := Cond.code yX12_see cX12_see 4 (some .int) :: wA) B.pre w (List.mem_cons_of_mem _ h)
  have hown : s.vm.findClass RX12 = some m.cls := findClass_of_methodNamed B.named
  have hlocks := B.notSynchronized
  subst hsz
  have hD := hD0.self (sz := s.heap.size)
  generalize hAe : va_A (wd_758 rm km) s.heap.size = A at hD ⊢
  have hA : ∀ q : Nat, s.heap.size ≤ q → A q := fun q h => by rw [← hAe]; exact Or.inr h
  have hS : va_S A s.heap s.heap [] := va_S.rf
  have hl := lv_entry ([.ref (rm 0)]) (n := 4) (Nat.le_of_ble_eq_true rfl)
  rw [lg_entry_eq]
  generalize (lg_sl ([.ref (rm 0)]) ++ List.replicate (4 - (lg_sl ([.ref (rm 0)])).length) Slot.unset).toArray = ls at hl ⊢
  have hl : lv_has ls 4 [(0, .ref (rm 0))] := hl
  refine lv_aload_n hx hb dX12_see_0 rfl (lv_at hl 0 rfl) ?_
  refine va_get (D := (dC, dI)) (ci := 12) (v := .int 0) (C := RX12) (T := TX12) (N := 84) hx hb hts i_X12 hown hK hP 0 rfl rfl 1 (by decide) (hts _ q_366) (fun _ h9 => h9) rfl dX12_see_1 ?_
  refine lv_istore_n (lv' := [(1, .int 0), (0, .ref (rm 0))]) hx hb dX12_see_4 rfl hl (by decide) rfl (fun ls hl => ?_)
  refine lv_aload_n hx hb dX12_see_5 rfl (lv_at hl 1 rfl) ?_
  refine lv_iconst (v := 0) hx hb dX12_see_6 (by decide) ?_
  refine va_put (D := (dC, dI)) (ci := 12) (v := .int 0) (ty := tyX12 1) (C := RX12) (T := TX12) (N := 84) hx hb hts i_X12 tyX12 tyX12_ok nmX12 hown hK hP hD hS 0 rfl rfl 1 (by decide) (hts _ q_366) (fun _ h9 => h9) rfl (tyX12_ok 1 (by decide)) rfl rfl (Nat.le_of_ble_eq_true rfl) dX12_see_7 (fun H locs hP hD hS => ?_)
  have hP : va_P (dC, dI) vwCl (wd_758 rm km) H := hP
  have hD : va_D A (wd_758 rm km) := hD
  refine lv_aload_n hx hb dX12_see_10 rfl (lv_at hl 1 rfl) ?_
  refine va_get (D := (dC, dI)) (ci := 12) (v := .int 0) (C := RX12) (T := TX12) (N := 84) hx hb hts i_X12 hown hK hP 0 rfl rfl 38 (by decide) (hts _ q_442) (fun _ h9 => h9) rfl dX12_see_11 ?_
  refine lv_if_eq (tgt := 48) hx hb dX12_see_14 (by decide) (fun c_0 => ?_) (fun c_0 => absurd c_0 (by decide))
  refine lv_iconst (v := 0) hx hb dX12_see_48 (by decide) ?_
  refine lv_istore_n (lv' := [(2, .int 0), (1, .int 0), (0, .ref (rm 0))]) hx hb dX12_see_49 rfl hl (by decide) rfl (fun ls hl => ?_)
  refine lv_iconst (v := 0) hx hb dX12_see_50 (by decide) ?_
  refine lv_istore_n (lv' := [(3, .int 0), (2, .int 0), (1, .int 0), (0, .ref (rm 0))]) hx hb dX12_see_51 rfl hl (by decide) rfl (fun ls hl => ?_)
  refine lv_iload_n hx hb dX12_see_52 rfl (lv_at hl 0 rfl) ?_
  refine lv_iload_n hx hb dX12_see_53 rfl (lv_at hl 2 rfl) ?_
  refine lv_icmp_ge (tgt := 107) hx hb dX12_see_54 (by decide) (fun c_0 => ?_) (fun c_0 => absurd c_0 (by decide))
  refine lv_iload_n hx hb dX12_see_107 rfl (lv_at hl 1 rfl) ?_
  refine lv_if_ne (tgt := 117) hx hb dX12_see_108 (by decide) (fun c_0 => absurd c_0 (by decide)) (fun c_0 => ?_)
  refine lv_aload_n hx hb dX12_see_111 rfl (lv_at hl 3 rfl) ?_
  refine lv_iconst (v := 1) hx hb dX12_see_112 (by decide) ?_
  have hPc := hP.sub (ws' := (wd_758 rm km)) [0, 1, 2, 3, 4] rfl
  have hDc := hD.sub (ws' := (wd_758 rm km)) [0, 1, 2, 3, 4] (by decide) rfl
  have hKc := hK.sub (tys' := [((km 0), .int), ((km 1), .int), ((km 2), .int), ((km 3), .int)]) [0, 1, 2, 3] rfl
  have hFc := va_free (wc := (wd_758 rm km)) hD hS hA [0, 1, 2, 3, 4] rfl
  refine va_calli (va_runV (As := [.int 1]) (rest := []) ⟨hx, hb, hml, hown, hts⟩ (c126_X12_refuses l dC dI rm km H.size) (cwV 1 hts (gV q_426 q_427 q_428 q_372 q_425) rfl rfl rfl mdv_yX12_refuses ⟨Nat.le_of_ble_eq_true rfl, Nat.le_of_ble_eq_true rfl⟩) ⟨fun a U g mk q => by obtain ⟨q0, q1, qP, qK, qD⟩ := q; exact ⟨q0, q1, qP, va_K.moved (u := U) (U := U.calling g mk a) (Vm.Alike.refl U.vm) qK, qD⟩, va_recv hKc hPc (ci := 12) (q0 := 0) rfl rfl, fun U hU hW => ⟨rfl, by rw [hU], by rw [hU]; exact hPc, va_K.moved hW.alike hKc, hDc.weaken (fun _ _ _ _ => trivial)⟩⟩ rfl rfl hl.1 rfl (lv_room (Nat.le_of_ble_eq_true rfl)) dX12_see_113 ⟨Nat.le_of_ble_eq_true rfl, Nat.le_of_ble_eq_true rfl⟩) hS (fun q _ h => hFc q h) hFc (fun r_1435 u t H1 locs ht hvm hw hB hz1 hk1 hS => ?_)
  obtain ⟨f1436, hP1, hK1, hD1⟩ := hB
  rw [ht] at hP1
  have hK1 := va_K.moved hvm.symm hK1
  obtain ⟨hP, hD⟩ := va_join (wr := []) (w1 := (wd_867 rm km f1436)) hP hD [0, 1, 2, 3, 4] [] rfl rfl (by decide) (by decide) hk1 hFc hP1 hD1
  have hK := (hK.sub (tys' := []) [] rfl).app hK1
  have hK : va_K (dC, dI) vwCl [((km 0), .int), ((km 1), .int), ((km 2), .int), ((km 3), .int)] s := hK
  generalize H1 = H at hP hS ⊢
  have hP : va_P (dC, dI) vwCl (wd_867 rm km f1436) H := hP
  have hD : va_D A (wd_867 rm km f1436) := hD
  obtain rfl : r_1435 = (-1) := hw
  refine W.widen (k := 0) (n := 0) (Nat.le_of_ble_eq_true rfl) (Nat.le_of_ble_eq_true rfl) ?_
  exact W.iret (v := (-1)) hx hb hr (fun t ht hW => ⟨⟨(-1), (), rfl, rfl, trivial⟩, hS.F ht⟩) hS.2.2 dX12_see_116
set_option maxHeartbeats 4000000 in
set_option maxRecDepth 100000 in
theorem mX12_then (l : Launch) (dC : Nat → ClassId) (dI : Nat → Nat → Nat) (rm : Nat → Nat) (km : Nat → ClassId) (p1 : Int32) (sz : Nat) : Met l yX12_then (Cond.code yX12_then cX12_then 4 (some .int) :: wA) ({ frames := 1, cells := 0, slots := 0, locals := 20 }) (va_Pc [.ref (rm 0), .int p1] (fun U => U.heap.size = sz ∧ va_P (dC, dI) vwCl (wd_758 rm km) U.heap ∧ va_K (dC, dI) vwCl [((km 0), .int), ((km 1), .int), ((km 2), .int), ((km 3), .int)] U ∧ va_D (fun _ => True) (wd_758 rm km))) (va_Qi (fun (r : Int32) (_ : Unit) => r = (-1)) (fun _ t => True) (va_A (wd_758 rm km) sz)) 0 0 (va_A (wd_758 rm km) sz) := by
  refine Met.ofW (cc := cX12_then) (maxL := 4) (ret := (some .int)) (by decide) rfl ?_
  intro p e s m args below meth c s₁ B hml hv
  obtain ⟨rfl, hsz, hP, hK, hD0⟩ := hv
  have hx := B.exec
  have hb := B.bytes
  have hr := B.returns
  have hts : ∀ w ∈ wA, w.before [.ref (rm 0), .int p1].toArray s = true := fun w h => atoms_spec (ws := Cond.code yX12_then cX12_then 4 (some .int) :: wA) B.pre w (List.mem_cons_of_mem _ h)
  have hown : s.vm.findClass RX12 = some m.cls := findClass_of_methodNamed B.named
  have hlocks := B.notSynchronized
  subst hsz
  have hD := hD0.self (sz := s.heap.size)
  generalize hAe : va_A (wd_758 rm km) s.heap.size = A at hD ⊢
  have hA : ∀ q : Nat, s.heap.size ≤ q → A q := fun q h => by rw [← hAe]; exact Or.inr h
  have hS : va_S A s.heap s.heap [] := va_S.rf
  have hl := lv_entry ([.ref (rm 0), .int p1]) (n := 4) (Nat.le_of_ble_eq_true rfl)
  rw [lg_entry_eq]
  generalize (lg_sl ([.ref (rm 0), .int p1]) ++ List.replicate (4 - (lg_sl ([.ref (rm 0), .int p1])).length) Slot.unset).toArray = ls at hl ⊢
  have hl : lv_has ls 4 [(0, .ref (rm 0)), (1, .int p1)] := hl
  refine lv_aload_n hx hb dX12_then_0 rfl (lv_at hl 0 rfl) ?_
  have hPc := hP.sub (ws' := (wd_758 rm km)) [0, 1, 2, 3, 4] rfl
  have hDc := hD.sub (ws' := (wd_758 rm km)) [0, 1, 2, 3, 4] (by decide) rfl
  have hKc := hK.sub (tys' := [((km 0), .int), ((km 1), .int), ((km 2), .int), ((km 3), .int)]) [0, 1, 2, 3] rfl
  have hFc := va_free (wc := (wd_758 rm km)) hD hS hA [0, 1, 2, 3, 4] rfl
  refine va_calli (va_runV (As := []) (rest := []) ⟨hx, hb, hml, hown, hts⟩ (c106_X12_isAsked l dC dI rm km s.heap.size) (cwV 0 hts (gV q_450 q_451 q_452 q_372 q_449) rfl rfl rfl mdv_yX12_isAsked ⟨Nat.le_of_ble_eq_true rfl, Nat.le_of_ble_eq_true rfl⟩) ⟨fun a U g mk q => by obtain ⟨q0, q1, qP, qK, qD⟩ := q; exact ⟨q0, q1, qP, va_K.moved (u := U) (U := U.calling g mk a) (Vm.Alike.refl U.vm) qK, qD⟩, va_recv hKc hPc (ci := 12) (q0 := 0) rfl rfl, fun U hU hW => ⟨rfl, by rw [hU], by rw [hU]; exact hPc, va_K.moved hW.alike hKc, hDc.weaken (fun _ _ _ _ => trivial)⟩⟩ rfl rfl hl.1 rfl (lv_room (Nat.le_of_ble_eq_true rfl)) dX12_then_1 ⟨Nat.le_of_ble_eq_true rfl, Nat.le_of_ble_eq_true rfl⟩) hS (fun q _ h => hFc q h) hFc (fun r_1438 u t H1 locs ht hvm hw hB hz1 hk1 hS => ?_)
  obtain ⟨hP1, hK1, hD1⟩ := hB
  rw [ht] at hP1
  have hK1 := va_K.moved hvm.symm hK1
  obtain ⟨hP, hD⟩ := va_join (wr := []) (w1 := (wd_758 rm km)) hP hD [0, 1, 2, 3, 4] [] rfl rfl (by decide) (by decide) hk1 hFc hP1 hD1
  generalize H1 = H at hP hS ⊢
  have hP : va_P (dC, dI) vwCl (wd_758 rm km) H := hP
  have hD : va_D A (wd_758 rm km) := hD
  obtain rfl : r_1438 = 0 := hw
  refine lv_if_eq (tgt := 12) hx hb dX12_then_4 (by decide) (fun c_0 => ?_) (fun c_0 => absurd c_0 (by decide))
  refine lv_iconst (v := (-1)) hx hb dX12_then_12 (by decide) ?_
  refine W.widen (k := 0) (n := 0) (Nat.le_of_ble_eq_true rfl) (Nat.le_of_ble_eq_true rfl) ?_
  exact W.iret (v := (-1)) hx hb hr (fun t ht hW => ⟨⟨(-1), (), rfl, rfl, trivial⟩, hS.F ht⟩) hS.2.2 dX12_then_13
set_option maxHeartbeats 4000000 in
set_option maxRecDepth 100000 in
theorem mX12_tells (l : Launch) (dC : Nat → ClassId) (dI : Nat → Nat → Nat) (rm : Nat → Nat) (km : Nat → ClassId) (p1 : Int32) (sz : Nat) : Met l yX12_tells (Cond.code yX12_tells cX12_tells 6 (some .int) :: wA) ({ frames := 1, cells := 0, slots := 0, locals := 20 }) (va_Pc [.ref (rm 0), .int p1] (fun U => U.heap.size = sz ∧ va_P (dC, dI) vwCl (wd_758 rm km) U.heap ∧ va_K (dC, dI) vwCl [((km 0), .int), ((km 1), .int), ((km 2), .int), ((km 3), .int)] U ∧ va_D (fun _ => True) (wd_758 rm km))) (va_Qi (fun (r : Int32) (_ : Unit) => r = (-1)) (fun _ t => True) (va_A (wd_758 rm km) sz)) 0 0 (va_A (wd_758 rm km) sz) := by
  refine Met.ofW (cc := cX12_tells) (maxL := 6) (ret := (some .int)) (by decide) rfl ?_
  intro p e s m args below meth c s₁ B hml hv
  obtain ⟨rfl, hsz, hP, hK, hD0⟩ := hv
  have hx := B.exec
  have hb := B.bytes
  have hr := B.returns
  have hts : ∀ w ∈ wA, w.before [.ref (rm 0), .int p1].toArray s = true := fun w h => atoms_spec (ws := Cond.code yX12_tells cX12_tells 6 (some .int) :: wA) B.pre w (List.mem_cons_of_mem _ h)
  have hown : s.vm.findClass RX12 = some m.cls := findClass_of_methodNamed B.named
  have hlocks := B.notSynchronized
  subst hsz
  have hD := hD0.self (sz := s.heap.size)
  generalize hAe : va_A (wd_758 rm km) s.heap.size = A at hD ⊢
  have hA : ∀ q : Nat, s.heap.size ≤ q → A q := fun q h => by rw [← hAe]; exact Or.inr h
  have hS : va_S A s.heap s.heap [] := va_S.rf
  have hl := lv_entry ([.ref (rm 0), .int p1]) (n := 6) (Nat.le_of_ble_eq_true rfl)
  rw [lg_entry_eq]
  generalize (lg_sl ([.ref (rm 0), .int p1]) ++ List.replicate (6 - (lg_sl ([.ref (rm 0), .int p1])).length) Slot.unset).toArray = ls at hl ⊢
  have hl : lv_has ls 6 [(0, .ref (rm 0)), (1, .int p1)] := hl
  refine lv_aload_n hx hb dX12_tells_0 rfl (lv_at hl 0 rfl) ?_
  have hPc := hP.sub (ws' := (wd_758 rm km)) [0, 1, 2, 3, 4] rfl
  have hDc := hD.sub (ws' := (wd_758 rm km)) [0, 1, 2, 3, 4] (by decide) rfl
  have hKc := hK.sub (tys' := [((km 0), .int), ((km 1), .int), ((km 2), .int), ((km 3), .int)]) [0, 1, 2, 3] rfl
  have hFc := va_free (wc := (wd_758 rm km)) hD hS hA [0, 1, 2, 3, 4] rfl
  refine va_calli (va_runV (As := []) (rest := []) ⟨hx, hb, hml, hown, hts⟩ (c106_X12_isAsked l dC dI rm km s.heap.size) (cwV 0 hts (gV q_450 q_451 q_452 q_372 q_449) rfl rfl rfl mdv_yX12_isAsked ⟨Nat.le_of_ble_eq_true rfl, Nat.le_of_ble_eq_true rfl⟩) ⟨fun a U g mk q => by obtain ⟨q0, q1, qP, qK, qD⟩ := q; exact ⟨q0, q1, qP, va_K.moved (u := U) (U := U.calling g mk a) (Vm.Alike.refl U.vm) qK, qD⟩, va_recv hKc hPc (ci := 12) (q0 := 0) rfl rfl, fun U hU hW => ⟨rfl, by rw [hU], by rw [hU]; exact hPc, va_K.moved hW.alike hKc, hDc.weaken (fun _ _ _ _ => trivial)⟩⟩ rfl rfl hl.1 rfl (lv_room (Nat.le_of_ble_eq_true rfl)) dX12_tells_1 ⟨Nat.le_of_ble_eq_true rfl, Nat.le_of_ble_eq_true rfl⟩) hS (fun q _ h => hFc q h) hFc (fun r_1440 u t H1 locs ht hvm hw hB hz1 hk1 hS => ?_)
  obtain ⟨hP1, hK1, hD1⟩ := hB
  rw [ht] at hP1
  have hK1 := va_K.moved hvm.symm hK1
  obtain ⟨hP, hD⟩ := va_join (wr := []) (w1 := (wd_758 rm km)) hP hD [0, 1, 2, 3, 4] [] rfl rfl (by decide) (by decide) hk1 hFc hP1 hD1
  generalize H1 = H at hP hS ⊢
  have hP : va_P (dC, dI) vwCl (wd_758 rm km) H := hP
  have hD : va_D A (wd_758 rm km) := hD
  obtain rfl : r_1440 = 0 := hw
  refine lv_if_eq (tgt := 17) hx hb dX12_tells_4 (by decide) (fun c_0 => ?_) (fun c_0 => absurd c_0 (by decide))
  refine lv_iconst (v := (-1)) hx hb dX12_tells_17 (by decide) ?_
  refine W.widen (k := 0) (n := 0) (Nat.le_of_ble_eq_true rfl) (Nat.le_of_ble_eq_true rfl) ?_
  exact W.iret (v := (-1)) hx hb hr (fun t ht hW => ⟨⟨(-1), (), rfl, rfl, trivial⟩, hS.F ht⟩) hS.2.2 dX12_tells_18
set_option maxHeartbeats 4000000 in
set_option maxRecDepth 100000 in
theorem c130_X12_isStill (l : Launch) (dC : Nat → ClassId) (dI : Nat → Nat → Nat) (rm : Nat → Nat) (km : Nat → ClassId) (sz : Nat) : Met l yX12_isStill (Cond.code yX12_isStill cX12_isStill 1 (some .boolean) :: wA) ({ frames := 0, cells := 0, slots := 0, locals := 0 }) (va_Pc [.ref (rm 0)] (fun U => U.heap.size = sz ∧ va_P (dC, dI) vwCl (wd_758 rm km) U.heap ∧ va_K (dC, dI) vwCl [((km 0), .int), ((km 1), .int), ((km 2), .int), ((km 3), .int)] U ∧ va_D (fun _ => True) (wd_758 rm km))) (va_Qi (fun (r : Int32) (_ : Unit) => r = 0) (fun _ t => va_P (dC, dI) vwCl (wd_758 rm km) t.heap ∧ va_K (dC, dI) vwCl [((km 0), .int), ((km 1), .int), ((km 2), .int), ((km 3), .int)] t ∧ va_D (va_A (wd_758 rm km) sz) (wd_758 rm km)) (va_A (wd_758 rm km) sz)) 0 0 (va_A (wd_758 rm km) sz) := by
  refine Met.ofW (cc := cX12_isStill) (maxL := 1) (ret := (some .boolean)) (by decide) rfl ?_
  intro p e s m args below meth c s₁ B hml hv
  obtain ⟨rfl, hsz, hP, hK, hD0⟩ := hv
  have hx := B.exec
  have hb := B.bytes
  have hr := B.returns
  have hts : ∀ w ∈ wA, w.before [.ref (rm 0)].toArray s = true := fun w h => atoms_spec (ws := Cond.code yX12_isStill cX12_isStill 1 (some .boolean) :: wA) B.pre w (List.mem_cons_of_mem _ h)
  have hown : s.vm.findClass RX12 = some m.cls := findClass_of_methodNamed B.named
  have hlocks := B.notSynchronized
  subst hsz
  have hD := hD0.self (sz := s.heap.size)
  generalize hAe : va_A (wd_758 rm km) s.heap.size = A at hD ⊢
  have hA : ∀ q : Nat, s.heap.size ≤ q → A q := fun q h => by rw [← hAe]; exact Or.inr h
  have hS : va_S A s.heap s.heap [] := va_S.rf
  have hl := lv_entry ([.ref (rm 0)]) (n := 1) (Nat.le_of_ble_eq_true rfl)
  rw [lg_entry_eq]
  generalize (lg_sl ([.ref (rm 0)]) ++ List.replicate (1 - (lg_sl ([.ref (rm 0)])).length) Slot.unset).toArray = ls at hl ⊢
  have hl : lv_has ls 1 [(0, .ref (rm 0))] := hl
  refine lv_aload_n hx hb dX12_isStill_0 rfl (lv_at hl 0 rfl) ?_
  refine va_get (D := (dC, dI)) (ci := 12) (v := .int 0) (C := RX12) (T := TX12) (N := 84) hx hb hts i_X12 hown hK hP 0 rfl rfl 38 (by decide) (hts _ q_442) (fun _ h9 => h9) rfl dX12_isStill_1 ?_
  refine lv_if_eq (tgt := 20) hx hb dX12_isStill_4 (by decide) (fun c_0 => ?_) (fun c_0 => absurd c_0 (by decide))
  refine lv_iconst (v := 0) hx hb dX12_isStill_20 (by decide) ?_
  refine W.widen (k := 0) (n := 0) (Nat.le_of_ble_eq_true rfl) (Nat.le_of_ble_eq_true rfl) ?_
  have hP9 := hP.sub (ws' := (wd_758 rm km)) [0, 1, 2, 3, 4] rfl
  have hD9 := hD.sub (ws' := (wd_758 rm km)) [0, 1, 2, 3, 4] (by decide) rfl
  have hK9 := hK.sub (tys' := [((km 0), .int), ((km 1), .int), ((km 2), .int), ((km 3), .int)]) [0, 1, 2, 3] rfl
  exact W.zret (v := 0) hx hb hr rfl (fun t ht hW => ⟨⟨0, (), rfl, rfl, by rw [ht]; exact hP9, va_K.moved hW.alike hK9, hD9⟩, hS.F ht⟩) hS.2.2 dX12_isStill_21
def wd_868 (rm : Nat → Nat) (km : Nat → ClassId) (f1443 : Nat → Int32) : va_W := [((rm 0), .inr (12, [.ref (rm 1), .int 0, .int 0, .int 0, .int 0, .int 0, .int 0, .int 0, .int (-1), .ref (rm 2), .ref (rm 3), .ref (rm 4), .ref (rm 5), .ref (rm 6), .ref (rm 7), .ref (rm 8), .ref (rm 9), .ref (rm 10), .ref (rm 11), .ref (rm 12), .ref (rm 13), .ref (rm 14), .ref (rm 15), .ref (rm 16), .int 0, .int 0, .int 0, .int 0, .int 0, .ref (rm 17), .ref (rm 18), .ref (rm 19), .ref (rm 20), .ref (rm 21), .int 0, .ref (rm 22), .ref (rm 23), .ref (rm 24), .int 0, .int 0, .int 0, .ref (rm 25), .ref (rm 26), .ref (rm 27), .int 0, .ref (rm 28), .ref (rm 29), .int 0, .ref (rm 30), .ref (rm 31), .int 0, .ref (rm 32), .ref (rm 33), .int 0, .ref (rm 34), .ref (rm 35), .int 0, .int 0, .int 0, .ref (rm 36), .ref (rm 37), .int 0, .ref (rm 38), .ref (rm 39), .int 0, .ref (rm 40), .ref (rm 41), .ref (rm 42), .int 0, .int 0, .long 1, .ref (rm 43), .int 0, .int 0, .int (-1), .int 0, .int 0, .int 0, .int 0, .ref (rm 44), .ref (rm 45), .ref (rm 46), .ref (rm 47), .int 0])), ((rm 1), .inl ((km 0), 1600, .inl (fun _ => 0))), ((rm 2), .inl ((km 1), 7, .inl f1443)), ((rm 22), .inl ((km 2), 422, .inl (fun _ => 0))), ((rm 23), .inl ((km 3), 422, .inl (fun _ => 0)))]
def wd_869 (rm : Nat → Nat) (km : Nat → ClassId) (f1446 : Nat → Int32) : va_W := [((rm 0), .inr (12, [.ref (rm 1), .int 0, .int 0, .int 0, .int 0, .int 0, .int 0, .int 0, .int (-1), .ref (rm 2), .ref (rm 3), .ref (rm 4), .ref (rm 5), .ref (rm 6), .ref (rm 7), .ref (rm 8), .ref (rm 9), .ref (rm 10), .ref (rm 11), .ref (rm 12), .ref (rm 13), .ref (rm 14), .ref (rm 15), .ref (rm 16), .int 0, .int 0, .int 0, .int 0, .int 0, .ref (rm 17), .ref (rm 18), .ref (rm 19), .ref (rm 20), .ref (rm 21), .int 0, .ref (rm 22), .ref (rm 23), .ref (rm 24), .int 0, .int 0, .int 0, .ref (rm 25), .ref (rm 26), .ref (rm 27), .int 0, .ref (rm 28), .ref (rm 29), .int 0, .ref (rm 30), .ref (rm 31), .int 0, .ref (rm 32), .ref (rm 33), .int 0, .ref (rm 34), .ref (rm 35), .int 0, .int 0, .int 0, .ref (rm 36), .ref (rm 37), .int 0, .ref (rm 38), .ref (rm 39), .int 0, .ref (rm 40), .ref (rm 41), .ref (rm 42), .int 0, .int 0, .long 1, .ref (rm 43), .int 0, .int 0, .int (-1), .int 0, .int 0, .int 0, .int 0, .ref (rm 44), .ref (rm 45), .ref (rm 46), .ref (rm 47), .int 0])), ((rm 1), .inl ((km 0), 1600, .inl (fun _ => 0))), ((rm 2), .inl ((km 1), 7, .inl f1446)), ((rm 22), .inl ((km 2), 422, .inl (fun _ => 0))), ((rm 23), .inl ((km 3), 422, .inl (fun _ => 0)))]
set_option maxHeartbeats 4000000 in
set_option maxRecDepth 100000 in
theorem mX12_run (l : Launch) (dC : Nat → ClassId) (dI : Nat → Nat → Nat) (rm : Nat → Nat) (km : Nat → ClassId) (sz : Nat) : Met l yX12_run (Cond.code yX12_run cX12_run 1 (some .int) :: wA) ({ frames := 1, cells := 0, slots := 0, locals := 21 }) (va_Pc [.ref (rm 0)] (fun U => U.heap.size = sz ∧ va_P (dC, dI) vwCl (wd_758 rm km) U.heap ∧ va_K (dC, dI) vwCl [((km 0), .int), ((km 1), .int), ((km 2), .int), ((km 3), .int)] U ∧ va_D (fun _ => True) (wd_758 rm km))) (va_Qi (fun (r : Int32) (_ : Unit) => r = (-1)) (fun _ t => True) (va_A (wd_758 rm km) sz)) 0 0 (va_A (wd_758 rm km) sz) := by
  refine Met.ofW (cc := cX12_run) (maxL := 1) (ret := (some .int)) (by decide) rfl ?_
  intro p e s m args below meth c s₁ B hml hv
  obtain ⟨rfl, hsz, hP, hK, hD0⟩ := hv
  have hx := B.exec
  have hb := B.bytes
  have hr := B.returns
  have hts : ∀ w ∈ wA, w.before [.ref (rm 0)].toArray s = true := fun w h => atoms_spec (ws := Cond.code yX12_run cX12_run 1 (some .int) :: wA) B.pre w (List.mem_cons_of_mem _ h)
  have hown : s.vm.findClass RX12 = some m.cls := findClass_of_methodNamed B.named
  have hlocks := B.notSynchronized
  subst hsz
  have hD := hD0.self (sz := s.heap.size)
  generalize hAe : va_A (wd_758 rm km) s.heap.size = A at hD ⊢
  have hA : ∀ q : Nat, s.heap.size ≤ q → A q := fun q h => by rw [← hAe]; exact Or.inr h
  have hS : va_S A s.heap s.heap [] := va_S.rf
  have hl := lv_entry ([.ref (rm 0)]) (n := 1) (Nat.le_of_ble_eq_true rfl)
  rw [lg_entry_eq]
  generalize (lg_sl ([.ref (rm 0)]) ++ List.replicate (1 - (lg_sl ([.ref (rm 0)])).length) Slot.unset).toArray = ls at hl ⊢
  have hl : lv_has ls 1 [(0, .ref (rm 0))] := hl
  refine lv_aload_n hx hb dX12_run_0 rfl (lv_at hl 0 rfl) ?_
  have hPc := hP.sub (ws' := (wd_758 rm km)) [0, 1, 2, 3, 4] rfl
  have hDc := hD.sub (ws' := (wd_758 rm km)) [0, 1, 2, 3, 4] (by decide) rfl
  have hKc := hK.sub (tys' := [((km 0), .int), ((km 1), .int), ((km 2), .int), ((km 3), .int)]) [0, 1, 2, 3] rfl
  have hFc := va_free (wc := (wd_758 rm km)) hD hS hA [0, 1, 2, 3, 4] rfl
  refine va_calli (va_runV (As := []) (rest := []) ⟨hx, hb, hml, hown, hts⟩ (c130_X12_isStill l dC dI rm km s.heap.size) (cwV 0 hts (gV q_478 q_479 q_480 q_372 q_477) rfl rfl rfl mdv_yX12_isStill ⟨Nat.le_of_ble_eq_true rfl, Nat.le_of_ble_eq_true rfl⟩) ⟨fun a U g mk q => by obtain ⟨q0, q1, qP, qK, qD⟩ := q; exact ⟨q0, q1, qP, va_K.moved (u := U) (U := U.calling g mk a) (Vm.Alike.refl U.vm) qK, qD⟩, va_recv hKc hPc (ci := 12) (q0 := 0) rfl rfl, fun U hU hW => ⟨rfl, by rw [hU], by rw [hU]; exact hPc, va_K.moved hW.alike hKc, hDc.weaken (fun _ _ _ _ => trivial)⟩⟩ rfl rfl hl.1 rfl (lv_room (Nat.le_of_ble_eq_true rfl)) dX12_run_1 ⟨Nat.le_of_ble_eq_true rfl, Nat.le_of_ble_eq_true rfl⟩) hS (fun q _ h => hFc q h) hFc (fun r_1444 u t H1 locs ht hvm hw hB hz1 hk1 hS => ?_)
  obtain ⟨hP1, hK1, hD1⟩ := hB
  rw [ht] at hP1
  have hK1 := va_K.moved hvm.symm hK1
  obtain ⟨hP, hD⟩ := va_join (wr := []) (w1 := (wd_758 rm km)) hP hD [0, 1, 2, 3, 4] [] rfl rfl (by decide) (by decide) hk1 hFc hP1 hD1
  generalize H1 = H at hP hS ⊢
  have hP : va_P (dC, dI) vwCl (wd_758 rm km) H := hP
  have hD : va_D A (wd_758 rm km) := hD
  obtain rfl : r_1444 = 0 := hw
  refine lv_if_ne (tgt := 18) hx hb dX12_run_4 (by decide) (fun c_0 => absurd c_0 (by decide)) (fun c_0 => ?_)
  refine lv_aload_n hx hb dX12_run_7 rfl (lv_at hl 0 rfl) ?_
  refine lv_iconst (v := 0) hx hb dX12_run_8 (by decide) ?_
  refine va_put (D := (dC, dI)) (ci := 12) (v := .int 0) (ty := tyX12 1) (C := RX12) (T := TX12) (N := 84) hx hb hts i_X12 tyX12 tyX12_ok nmX12 hown hK hP hD hS 0 rfl rfl 1 (by decide) (hts _ q_366) (fun _ h9 => h9) rfl (tyX12_ok 1 (by decide)) rfl rfl (Nat.le_of_ble_eq_true rfl) dX12_run_9 (fun H locs hP hD hS => ?_)
  have hP : va_P (dC, dI) vwCl (wd_758 rm km) H := hP
  have hD : va_D A (wd_758 rm km) := hD
  refine lv_aload_n hx hb dX12_run_12 rfl (lv_at hl 0 rfl) ?_
  refine lv_iconst (v := 2) hx hb dX12_run_13 (by decide) ?_
  have hPc := hP.sub (ws' := (wd_758 rm km)) [0, 1, 2, 3, 4] rfl
  have hDc := hD.sub (ws' := (wd_758 rm km)) [0, 1, 2, 3, 4] (by decide) rfl
  have hKc := hK.sub (tys' := [((km 0), .int), ((km 1), .int), ((km 2), .int), ((km 3), .int)]) [0, 1, 2, 3] rfl
  have hFc := va_free (wc := (wd_758 rm km)) hD hS hA [0, 1, 2, 3, 4] rfl
  refine va_calli (va_runV (As := [.int 2]) (rest := []) ⟨hx, hb, hml, hown, hts⟩ (c123_X12_refuses l dC dI rm km H.size) (cwV 1 hts (gV q_426 q_427 q_428 q_372 q_425) rfl rfl rfl mdv_yX12_refuses ⟨Nat.le_of_ble_eq_true rfl, Nat.le_of_ble_eq_true rfl⟩) ⟨fun a U g mk q => by obtain ⟨q0, q1, qP, qK, qD⟩ := q; exact ⟨q0, q1, qP, va_K.moved (u := U) (U := U.calling g mk a) (Vm.Alike.refl U.vm) qK, qD⟩, va_recv hKc hPc (ci := 12) (q0 := 0) rfl rfl, fun U hU hW => ⟨rfl, by rw [hU], by rw [hU]; exact hPc, va_K.moved hW.alike hKc, hDc.weaken (fun _ _ _ _ => trivial)⟩⟩ rfl rfl hl.1 rfl (lv_room (Nat.le_of_ble_eq_true rfl)) dX12_run_14 ⟨Nat.le_of_ble_eq_true rfl, Nat.le_of_ble_eq_true rfl⟩) hS (fun q _ h => hFc q h) hFc (fun r_1445 u t H1 locs ht hvm hw hB hz1 hk1 hS => ?_)
  obtain ⟨f1446, hP1, hK1, hD1⟩ := hB
  rw [ht] at hP1
  have hK1 := va_K.moved hvm.symm hK1
  obtain ⟨hP, hD⟩ := va_join (wr := []) (w1 := (wd_869 rm km f1446)) hP hD [0, 1, 2, 3, 4] [] rfl rfl (by decide) (by decide) hk1 hFc hP1 hD1
  have hK := (hK.sub (tys' := []) [] rfl).app hK1
  have hK : va_K (dC, dI) vwCl [((km 0), .int), ((km 1), .int), ((km 2), .int), ((km 3), .int)] s := hK
  generalize H1 = H at hP hS ⊢
  have hP : va_P (dC, dI) vwCl (wd_869 rm km f1446) H := hP
  have hD : va_D A (wd_869 rm km f1446) := hD
  obtain rfl : r_1445 = (-1) := hw
  refine W.widen (k := 0) (n := 0) (Nat.le_of_ble_eq_true rfl) (Nat.le_of_ble_eq_true rfl) ?_
  exact W.iret (v := (-1)) hx hb hr (fun t ht hW => ⟨⟨(-1), (), rfl, rfl, trivial⟩, hS.F ht⟩) hS.2.2 dX12_run_17
set_option maxHeartbeats 4000000 in
set_option maxRecDepth 100000 in
theorem mX12_failed (l : Launch) (dC : Nat → ClassId) (dI : Nat → Nat → Nat) (rm : Nat → Nat) (km : Nat → ClassId) (p1 : Int32) (sz : Nat) : Met l yX12_failed (Cond.code yX12_failed cX12_failed 2 (some .int) :: wA) ({ frames := 0, cells := 0, slots := 0, locals := 0 }) (va_Pc [.ref (rm 0), .int p1] (fun U => U.heap.size = sz ∧ va_P (dC, dI) vwCl (wd_758 rm km) U.heap ∧ va_K (dC, dI) vwCl [((km 0), .int), ((km 1), .int), ((km 2), .int), ((km 3), .int)] U ∧ va_D (fun _ => True) (wd_758 rm km))) (va_Qi (fun (r : Int32) (_ : Unit) => r = sp_1 p1) (fun _ t => True) (va_A (wd_758 rm km) sz)) 0 0 (va_A (wd_758 rm km) sz) := by
  refine Met.ofW (cc := cX12_failed) (maxL := 2) (ret := (some .int)) (by decide) rfl ?_
  intro p e s m args below meth c s₁ B hml hv
  obtain ⟨rfl, hsz, hP, hK, hD0⟩ := hv
  have hx := B.exec
  have hb := B.bytes
  have hr := B.returns
  have hts : ∀ w ∈ wA, w.before [.ref (rm 0), .int p1].toArray s = true := fun w h => atoms_spec (ws := Cond.code yX12_failed cX12_failed 2 (some .int) :: wA) B.pre w (List.mem_cons_of_mem _ h)
  have hown : s.vm.findClass RX12 = some m.cls := findClass_of_methodNamed B.named
  have hlocks := B.notSynchronized
  subst hsz
  have hD := hD0.self (sz := s.heap.size)
  generalize hAe : va_A (wd_758 rm km) s.heap.size = A at hD ⊢
  have hA : ∀ q : Nat, s.heap.size ≤ q → A q := fun q h => by rw [← hAe]; exact Or.inr h
  have hS : va_S A s.heap s.heap [] := va_S.rf
  have hl := lv_entry ([.ref (rm 0), .int p1]) (n := 2) (Nat.le_of_ble_eq_true rfl)
  rw [lg_entry_eq]
  generalize (lg_sl ([.ref (rm 0), .int p1]) ++ List.replicate (2 - (lg_sl ([.ref (rm 0), .int p1])).length) Slot.unset).toArray = ls at hl ⊢
  have hl : lv_has ls 2 [(0, .ref (rm 0)), (1, .int p1)] := hl
  rcases sw_1 p1 with rfl | ho
  · refine lv_iload_n hx hb dX12_failed_0 rfl (lv_at hl 1 rfl) ?_
    refine lv_if_ne (tgt := 11) hx hb dX12_failed_1 (by decide) (fun c_0 => absurd c_0 (by decide)) (fun c_0 => ?_)
    refine lv_aload_n hx hb dX12_failed_4 rfl (lv_at hl 0 rfl) ?_
    refine va_get (D := (dC, dI)) (ci := 12) (v := .int 0) (C := RX12) (T := TX12) (N := 84) hx hb hts i_X12 hown hK hP 0 rfl rfl 73 (by decide) (hts _ q_482) (fun _ h9 => h9) rfl dX12_failed_5 ?_
    refine lv_goto (tgt := 24) hx hb dX12_failed_8 (by decide) ?_
    refine W.widen (k := 0) (n := 0) (Nat.le_of_ble_eq_true rfl) (Nat.le_of_ble_eq_true rfl) ?_
    exact W.iret (v := 0) hx hb hr (fun t ht hW => ⟨⟨0, (), rfl, by decide, trivial⟩, hS.F ht⟩) hS.2.2 dX12_failed_24
  · refine lv_iload_n hx hb dX12_failed_0 rfl (lv_at hl 1 rfl) ?_
    refine lv_if_ne (tgt := 11) hx hb dX12_failed_1 (by decide) (fun c_1449 => ?_) (fun c_1449 => ((by have k_c_1449 : p1.toInt = (0 : Int) := congrArg Int32.toInt c_1449; omega : False).elim))
    refine lv_iload_n hx hb dX12_failed_11 rfl (lv_at hl 1 rfl) ?_
    refine lv_iconst (v := 1) hx hb dX12_failed_12 (by decide) ?_
    refine lv_icmp_ne (tgt := 23) hx hb dX12_failed_13 (by decide) (fun c_1450 => ?_) (fun c_1450 => ?_)
    · refine lv_iconst (v := (-1)) hx hb dX12_failed_23 (by decide) ?_
      refine W.widen (k := 0) (n := 0) (Nat.le_of_ble_eq_true rfl) (Nat.le_of_ble_eq_true rfl) ?_
      exact W.iret (v := (-1)) hx hb hr (fun t ht hW => ⟨⟨(-1), (), rfl, (if_pos ho).symm, trivial⟩, hS.F ht⟩) hS.2.2 dX12_failed_24
    · refine lv_aload_n hx hb dX12_failed_16 rfl (lv_at hl 0 rfl) ?_
      refine va_get (D := (dC, dI)) (ci := 12) (v := .int (-1)) (C := RX12) (T := TX12) (N := 84) hx hb hts i_X12 hown hK hP 0 rfl rfl 74 (by decide) (hts _ q_235) (fun _ h9 => h9) rfl dX12_failed_17 ?_
      refine lv_goto (tgt := 24) hx hb dX12_failed_20 (by decide) ?_
      refine W.widen (k := 0) (n := 0) (Nat.le_of_ble_eq_true rfl) (Nat.le_of_ble_eq_true rfl) ?_
      exact W.iret (v := (-1)) hx hb hr (fun t ht hW => ⟨⟨(-1), (), rfl, (if_pos ho).symm, trivial⟩, hS.F ht⟩) hS.2.2 dX12_failed_24
def wd_870 (rm : Nat → Nat) (km : Nat → ClassId) (f1454 : Nat → Int32) : va_W := [((rm 0), .inr (12, [.ref (rm 1), .int 0, .int 0, .int 0, .int 0, .int 0, .int 0, .int 0, .int (-1), .ref (rm 2), .ref (rm 3), .ref (rm 4), .ref (rm 5), .ref (rm 6), .ref (rm 7), .ref (rm 8), .ref (rm 9), .ref (rm 10), .ref (rm 11), .ref (rm 12), .ref (rm 13), .ref (rm 14), .ref (rm 15), .ref (rm 16), .int 0, .int 0, .int 0, .int 0, .int 0, .ref (rm 17), .ref (rm 18), .ref (rm 19), .ref (rm 20), .ref (rm 21), .int 0, .ref (rm 22), .ref (rm 23), .ref (rm 24), .int 0, .int 0, .int 0, .ref (rm 25), .ref (rm 26), .ref (rm 27), .int 0, .ref (rm 28), .ref (rm 29), .int 0, .ref (rm 30), .ref (rm 31), .int 0, .ref (rm 32), .ref (rm 33), .int 0, .ref (rm 34), .ref (rm 35), .int 0, .int 0, .int 0, .ref (rm 36), .ref (rm 37), .int 0, .ref (rm 38), .ref (rm 39), .int 0, .ref (rm 40), .ref (rm 41), .ref (rm 42), .int 0, .int 0, .long 1, .ref (rm 43), .int 0, .int 0, .int (-1), .int 0, .int 0, .int 0, .int 0, .ref (rm 44), .ref (rm 45), .ref (rm 46), .ref (rm 47), .int 0])), ((rm 1), .inl ((km 0), 1600, .inl (fun _ => 0))), ((rm 2), .inl ((km 1), 7, .inl f1454)), ((rm 22), .inl ((km 2), 422, .inl (fun _ => 0))), ((rm 23), .inl ((km 3), 422, .inl (fun _ => 0)))]
def wd_871 (rm : Nat → Nat) (km : Nat → ClassId) (f1457 : Nat → Int32) : va_W := [((rm 0), .inr (12, [.ref (rm 1), .int 0, .int 0, .int 0, .int 0, .int 0, .int 0, .int 0, .int (-1), .ref (rm 2), .ref (rm 3), .ref (rm 4), .ref (rm 5), .ref (rm 6), .ref (rm 7), .ref (rm 8), .ref (rm 9), .ref (rm 10), .ref (rm 11), .ref (rm 12), .ref (rm 13), .ref (rm 14), .ref (rm 15), .ref (rm 16), .int 0, .int 0, .int 0, .int 0, .int 0, .ref (rm 17), .ref (rm 18), .ref (rm 19), .ref (rm 20), .ref (rm 21), .int 0, .ref (rm 22), .ref (rm 23), .ref (rm 24), .int 0, .int 0, .int 0, .ref (rm 25), .ref (rm 26), .ref (rm 27), .int 0, .ref (rm 28), .ref (rm 29), .int 0, .ref (rm 30), .ref (rm 31), .int 0, .ref (rm 32), .ref (rm 33), .int 0, .ref (rm 34), .ref (rm 35), .int 0, .int 0, .int 0, .ref (rm 36), .ref (rm 37), .int 0, .ref (rm 38), .ref (rm 39), .int 0, .ref (rm 40), .ref (rm 41), .ref (rm 42), .int 0, .int 0, .long 1, .ref (rm 43), .int 0, .int 0, .int (-1), .int 0, .int 0, .int 0, .int 0, .ref (rm 44), .ref (rm 45), .ref (rm 46), .ref (rm 47), .int 0])), ((rm 1), .inl ((km 0), 1600, .inl (fun _ => 0))), ((rm 2), .inl ((km 1), 7, .inl f1457)), ((rm 22), .inl ((km 2), 422, .inl (fun _ => 0))), ((rm 23), .inl ((km 3), 422, .inl (fun _ => 0)))]
set_option maxHeartbeats 4000000 in
set_option maxRecDepth 100000 in
theorem c133_X12_refuses (l : Launch) (dC : Nat → ClassId) (dI : Nat → Nat → Nat) (rm : Nat → Nat) (km : Nat → ClassId) (sz : Nat) : Met l yX12_refuses (Cond.code yX12_refuses cX12_refuses 2 (some .int) :: wA) ({ frames := 0, cells := 0, slots := 0, locals := 0 }) (va_Pc [.ref (rm 0), .int 3] (fun U => U.heap.size = sz ∧ va_P (dC, dI) vwCl (wd_758 rm km) U.heap ∧ va_K (dC, dI) vwCl [((km 0), .int), ((km 1), .int), ((km 2), .int), ((km 3), .int)] U ∧ va_D (fun _ => True) (wd_758 rm km))) (va_Qi (fun (r : Int32) (_ : Unit) => r = (-1)) (fun _ t => ∃ f1457 : Nat → Int32, va_P (dC, dI) vwCl (wd_871 rm km f1457) t.heap ∧ va_K (dC, dI) vwCl [((km 0), .int), ((km 1), .int), ((km 2), .int), ((km 3), .int)] t ∧ va_D (va_A (wd_758 rm km) sz) (wd_871 rm km f1457)) (va_A (wd_758 rm km) sz)) 0 0 (va_A (wd_758 rm km) sz) := by
  refine Met.ofW (cc := cX12_refuses) (maxL := 2) (ret := (some .int)) (by decide) rfl ?_
  intro p e s m args below meth c s₁ B hml hv
  obtain ⟨rfl, hsz, hP, hK, hD0⟩ := hv
  have hx := B.exec
  have hb := B.bytes
  have hr := B.returns
  have hts : ∀ w ∈ wA, w.before [.ref (rm 0), .int 3].toArray s = true := fun w h => atoms_spec (ws := Cond.code yX12_refuses cX12_refuses 2 (some .int) :: wA) B.pre w (List.mem_cons_of_mem _ h)
  have hown : s.vm.findClass RX12 = some m.cls := findClass_of_methodNamed B.named
  have hlocks := B.notSynchronized
  subst hsz
  have hD := hD0.self (sz := s.heap.size)
  generalize hAe : va_A (wd_758 rm km) s.heap.size = A at hD ⊢
  have hA : ∀ q : Nat, s.heap.size ≤ q → A q := fun q h => by rw [← hAe]; exact Or.inr h
  have hS : va_S A s.heap s.heap [] := va_S.rf
  have hl := lv_entry ([.ref (rm 0), .int 3]) (n := 2) (Nat.le_of_ble_eq_true rfl)
  rw [lg_entry_eq]
  generalize (lg_sl ([.ref (rm 0), .int 3]) ++ List.replicate (2 - (lg_sl ([.ref (rm 0), .int 3])).length) Slot.unset).toArray = ls at hl ⊢
  have hl : lv_has ls 2 [(0, .ref (rm 0)), (1, .int 3)] := hl
  refine lv_aload_n hx hb dX12_refuses_0 rfl (lv_at hl 0 rfl) ?_
  refine va_get (D := (dC, dI)) (ci := 12) (v := .ref (rm 2)) (C := RX12) (T := TX12) (N := 84) hx hb hts i_X12 hown hK hP 0 rfl rfl 9 (by decide) (hts _ q_189) (fun _ h9 => h9) rfl dX12_refuses_1 ?_
  refine lv_iload_n hx hb dX12_refuses_4 rfl (lv_at hl 1 rfl) ?_
  refine lv_dup2_11 hx hb dX12_refuses_5 rfl rfl ?_
  refine va_iald hx hb hK hP 2 1 rfl rfl (vpi (by decide)) dX12_refuses_6 ?_
  refine lv_topi (fun x_1455 ex_1455 => ?_)
  obtain rfl : x_1455 = 0 := ex_1455
  refine lv_iconst (v := 1) hx hb dX12_refuses_7 (by decide) ?_
  refine lv_iadd hx hb dX12_refuses_8 ?_
  refine lv_topi (fun x_1456 ex_1456 => ?_)
  obtain rfl : x_1456 = 1 := ex_1456.trans (by decide)
  refine va_iast hx hb hK hP hD hS 2 1 rfl rfl (vpi (by decide)) dX12_refuses_9 (fun H locs hP hD hS => ?_)
  obtain ⟨f1457, hP, hD⟩ : ∃ f : Nat → Int32, va_P (dC, dI) vwCl (wd_759 rm km f) H ∧ va_D A (wd_759 rm km f) := ⟨_, hP, hD⟩
  have hP : va_P (dC, dI) vwCl (wd_871 rm km f1457) H := hP
  have hD : va_D A (wd_871 rm km f1457) := hD
  refine lv_iconst (v := (-1)) hx hb dX12_refuses_10 (by decide) ?_
  refine W.widen (k := 0) (n := 0) (Nat.le_of_ble_eq_true rfl) (Nat.le_of_ble_eq_true rfl) ?_
  have hP9 := hP.sub (ws' := (wd_871 rm km f1457)) [0, 1, 2, 3, 4] rfl
  have hD9 := hD.sub (ws' := (wd_871 rm km f1457)) [0, 1, 2, 3, 4] (by decide) rfl
  have hK9 := hK.sub (tys' := [((km 0), .int), ((km 1), .int), ((km 2), .int), ((km 3), .int)]) [0, 1, 2, 3] rfl
  exact W.iret (v := (-1)) hx hb hr (fun t ht hW => ⟨⟨(-1), (), rfl, rfl, f1457, by rw [ht]; exact hP9, va_K.moved hW.alike hK9, hD9⟩, hS.F ht⟩) hS.2.2 dX12_refuses_11
def wd_872 (rm : Nat → Nat) (km : Nat → ClassId) (f1459 : Nat → Int32) : va_W := [((rm 0), .inr (12, [.ref (rm 1), .int 0, .int 0, .int 0, .int 0, .int 0, .int 0, .int 0, .int (-1), .ref (rm 2), .ref (rm 3), .ref (rm 4), .ref (rm 5), .ref (rm 6), .ref (rm 7), .ref (rm 8), .ref (rm 9), .ref (rm 10), .ref (rm 11), .ref (rm 12), .ref (rm 13), .ref (rm 14), .ref (rm 15), .ref (rm 16), .int 0, .int 0, .int 0, .int 0, .int 0, .ref (rm 17), .ref (rm 18), .ref (rm 19), .ref (rm 20), .ref (rm 21), .int 0, .ref (rm 22), .ref (rm 23), .ref (rm 24), .int 0, .int 0, .int 0, .ref (rm 25), .ref (rm 26), .ref (rm 27), .int 0, .ref (rm 28), .ref (rm 29), .int 0, .ref (rm 30), .ref (rm 31), .int 0, .ref (rm 32), .ref (rm 33), .int 0, .ref (rm 34), .ref (rm 35), .int 0, .int 0, .int 0, .ref (rm 36), .ref (rm 37), .int 0, .ref (rm 38), .ref (rm 39), .int 0, .ref (rm 40), .ref (rm 41), .ref (rm 42), .int 0, .int 0, .long 1, .ref (rm 43), .int 0, .int 0, .int (-1), .int 0, .int 0, .int 0, .int 0, .ref (rm 44), .ref (rm 45), .ref (rm 46), .ref (rm 47), .int 0])), ((rm 1), .inl ((km 0), 1600, .inl (fun _ => 0))), ((rm 2), .inl ((km 1), 7, .inl f1459)), ((rm 22), .inl ((km 2), 422, .inl (fun _ => 0))), ((rm 23), .inl ((km 3), 422, .inl (fun _ => 0)))]
def wd_873 (rm : Nat → Nat) (km : Nat → ClassId) (f1462 : Nat → Int32) : va_W := [((rm 0), .inr (12, [.ref (rm 1), .int 0, .int 0, .int 0, .int 0, .int 0, .int 0, .int 0, .int (-1), .ref (rm 2), .ref (rm 3), .ref (rm 4), .ref (rm 5), .ref (rm 6), .ref (rm 7), .ref (rm 8), .ref (rm 9), .ref (rm 10), .ref (rm 11), .ref (rm 12), .ref (rm 13), .ref (rm 14), .ref (rm 15), .ref (rm 16), .int 0, .int 0, .int 0, .int 0, .int 0, .ref (rm 17), .ref (rm 18), .ref (rm 19), .ref (rm 20), .ref (rm 21), .int 0, .ref (rm 22), .ref (rm 23), .ref (rm 24), .int 0, .int 0, .int 0, .ref (rm 25), .ref (rm 26), .ref (rm 27), .int 0, .ref (rm 28), .ref (rm 29), .int 0, .ref (rm 30), .ref (rm 31), .int 0, .ref (rm 32), .ref (rm 33), .int 0, .ref (rm 34), .ref (rm 35), .int 0, .int 0, .int 0, .ref (rm 36), .ref (rm 37), .int 0, .ref (rm 38), .ref (rm 39), .int 0, .ref (rm 40), .ref (rm 41), .ref (rm 42), .int 0, .int 0, .long 1, .ref (rm 43), .int 0, .int 0, .int (-1), .int 0, .int 0, .int 0, .int 0, .ref (rm 44), .ref (rm 45), .ref (rm 46), .ref (rm 47), .int 0])), ((rm 1), .inl ((km 0), 1600, .inl (fun _ => 0))), ((rm 2), .inl ((km 1), 7, .inl f1462)), ((rm 22), .inl ((km 2), 422, .inl (fun _ => 0))), ((rm 23), .inl ((km 3), 422, .inl (fun _ => 0)))]
set_option maxHeartbeats 4000000 in
set_option maxRecDepth 100000 in
theorem mX12_collect (l : Launch) (dC : Nat → ClassId) (dI : Nat → Nat → Nat) (rm : Nat → Nat) (km : Nat → ClassId) (sz : Nat) : Met l yX12_collect (Cond.code yX12_collect cX12_collect 1 (some .int) :: wA) ({ frames := 1, cells := 0, slots := 0, locals := 21 }) (va_Pc [.ref (rm 0)] (fun U => U.heap.size = sz ∧ va_P (dC, dI) vwCl (wd_758 rm km) U.heap ∧ va_K (dC, dI) vwCl [((km 0), .int), ((km 1), .int), ((km 2), .int), ((km 3), .int)] U ∧ va_D (fun _ => True) (wd_758 rm km))) (va_Qi (fun (r : Int32) (_ : Unit) => r = (-1)) (fun _ t => True) (va_A (wd_758 rm km) sz)) 0 0 (va_A (wd_758 rm km) sz) := by
  refine Met.ofW (cc := cX12_collect) (maxL := 1) (ret := (some .int)) (by decide) rfl ?_
  intro p e s m args below meth c s₁ B hml hv
  obtain ⟨rfl, hsz, hP, hK, hD0⟩ := hv
  have hx := B.exec
  have hb := B.bytes
  have hr := B.returns
  have hts : ∀ w ∈ wA, w.before [.ref (rm 0)].toArray s = true := fun w h => atoms_spec (ws := Cond.code yX12_collect cX12_collect 1 (some .int) :: wA) B.pre w (List.mem_cons_of_mem _ h)
  have hown : s.vm.findClass RX12 = some m.cls := findClass_of_methodNamed B.named
  have hlocks := B.notSynchronized
  subst hsz
  have hD := hD0.self (sz := s.heap.size)
  generalize hAe : va_A (wd_758 rm km) s.heap.size = A at hD ⊢
  have hA : ∀ q : Nat, s.heap.size ≤ q → A q := fun q h => by rw [← hAe]; exact Or.inr h
  have hS : va_S A s.heap s.heap [] := va_S.rf
  have hl := lv_entry ([.ref (rm 0)]) (n := 1) (Nat.le_of_ble_eq_true rfl)
  rw [lg_entry_eq]
  generalize (lg_sl ([.ref (rm 0)]) ++ List.replicate (1 - (lg_sl ([.ref (rm 0)])).length) Slot.unset).toArray = ls at hl ⊢
  have hl : lv_has ls 1 [(0, .ref (rm 0))] := hl
  refine lv_aload_n hx hb dX12_collect_0 rfl (lv_at hl 0 rfl) ?_
  have hPc := hP.sub (ws' := (wd_758 rm km)) [0, 1, 2, 3, 4] rfl
  have hDc := hD.sub (ws' := (wd_758 rm km)) [0, 1, 2, 3, 4] (by decide) rfl
  have hKc := hK.sub (tys' := [((km 0), .int), ((km 1), .int), ((km 2), .int), ((km 3), .int)]) [0, 1, 2, 3] rfl
  have hFc := va_free (wc := (wd_758 rm km)) hD hS hA [0, 1, 2, 3, 4] rfl
  refine va_calli (va_runV (As := []) (rest := []) ⟨hx, hb, hml, hown, hts⟩ (c130_X12_isStill l dC dI rm km s.heap.size) (cwV 0 hts (gV q_478 q_479 q_480 q_372 q_477) rfl rfl rfl mdv_yX12_isStill ⟨Nat.le_of_ble_eq_true rfl, Nat.le_of_ble_eq_true rfl⟩) ⟨fun a U g mk q => by obtain ⟨q0, q1, qP, qK, qD⟩ := q; exact ⟨q0, q1, qP, va_K.moved (u := U) (U := U.calling g mk a) (Vm.Alike.refl U.vm) qK, qD⟩, va_recv hKc hPc (ci := 12) (q0 := 0) rfl rfl, fun U hU hW => ⟨rfl, by rw [hU], by rw [hU]; exact hPc, va_K.moved hW.alike hKc, hDc.weaken (fun _ _ _ _ => trivial)⟩⟩ rfl rfl hl.1 rfl (lv_room (Nat.le_of_ble_eq_true rfl)) dX12_collect_1 ⟨Nat.le_of_ble_eq_true rfl, Nat.le_of_ble_eq_true rfl⟩) hS (fun q _ h => hFc q h) hFc (fun r_1460 u t H1 locs ht hvm hw hB hz1 hk1 hS => ?_)
  obtain ⟨hP1, hK1, hD1⟩ := hB
  rw [ht] at hP1
  have hK1 := va_K.moved hvm.symm hK1
  obtain ⟨hP, hD⟩ := va_join (wr := []) (w1 := (wd_758 rm km)) hP hD [0, 1, 2, 3, 4] [] rfl rfl (by decide) (by decide) hk1 hFc hP1 hD1
  generalize H1 = H at hP hS ⊢
  have hP : va_P (dC, dI) vwCl (wd_758 rm km) H := hP
  have hD : va_D A (wd_758 rm km) := hD
  obtain rfl : r_1460 = 0 := hw
  refine lv_if_ne (tgt := 13) hx hb dX12_collect_4 (by decide) (fun c_0 => absurd c_0 (by decide)) (fun c_0 => ?_)
  refine lv_aload_n hx hb dX12_collect_7 rfl (lv_at hl 0 rfl) ?_
  refine lv_iconst (v := 3) hx hb dX12_collect_8 (by decide) ?_
  have hPc := hP.sub (ws' := (wd_758 rm km)) [0, 1, 2, 3, 4] rfl
  have hDc := hD.sub (ws' := (wd_758 rm km)) [0, 1, 2, 3, 4] (by decide) rfl
  have hKc := hK.sub (tys' := [((km 0), .int), ((km 1), .int), ((km 2), .int), ((km 3), .int)]) [0, 1, 2, 3] rfl
  have hFc := va_free (wc := (wd_758 rm km)) hD hS hA [0, 1, 2, 3, 4] rfl
  refine va_calli (va_runV (As := [.int 3]) (rest := []) ⟨hx, hb, hml, hown, hts⟩ (c133_X12_refuses l dC dI rm km H.size) (cwV 1 hts (gV q_426 q_427 q_428 q_372 q_425) rfl rfl rfl mdv_yX12_refuses ⟨Nat.le_of_ble_eq_true rfl, Nat.le_of_ble_eq_true rfl⟩) ⟨fun a U g mk q => by obtain ⟨q0, q1, qP, qK, qD⟩ := q; exact ⟨q0, q1, qP, va_K.moved (u := U) (U := U.calling g mk a) (Vm.Alike.refl U.vm) qK, qD⟩, va_recv hKc hPc (ci := 12) (q0 := 0) rfl rfl, fun U hU hW => ⟨rfl, by rw [hU], by rw [hU]; exact hPc, va_K.moved hW.alike hKc, hDc.weaken (fun _ _ _ _ => trivial)⟩⟩ rfl rfl hl.1 rfl (lv_room (Nat.le_of_ble_eq_true rfl)) dX12_collect_9 ⟨Nat.le_of_ble_eq_true rfl, Nat.le_of_ble_eq_true rfl⟩) hS (fun q _ h => hFc q h) hFc (fun r_1461 u t H1 locs ht hvm hw hB hz1 hk1 hS => ?_)
  obtain ⟨f1462, hP1, hK1, hD1⟩ := hB
  rw [ht] at hP1
  have hK1 := va_K.moved hvm.symm hK1
  obtain ⟨hP, hD⟩ := va_join (wr := []) (w1 := (wd_873 rm km f1462)) hP hD [0, 1, 2, 3, 4] [] rfl rfl (by decide) (by decide) hk1 hFc hP1 hD1
  have hK := (hK.sub (tys' := []) [] rfl).app hK1
  have hK : va_K (dC, dI) vwCl [((km 0), .int), ((km 1), .int), ((km 2), .int), ((km 3), .int)] s := hK
  generalize H1 = H at hP hS ⊢
  have hP : va_P (dC, dI) vwCl (wd_873 rm km f1462) H := hP
  have hD : va_D A (wd_873 rm km f1462) := hD
  obtain rfl : r_1461 = (-1) := hw
  refine W.widen (k := 0) (n := 0) (Nat.le_of_ble_eq_true rfl) (Nat.le_of_ble_eq_true rfl) ?_
  exact W.iret (v := (-1)) hx hb hr (fun t ht hW => ⟨⟨(-1), (), rfl, rfl, trivial⟩, hS.F ht⟩) hS.2.2 dX12_collect_12
def wd_874 (rm : Nat → Nat) (km : Nat → ClassId) (f1465 : Nat → Int32) : va_W := [((rm 0), .inr (12, [.ref (rm 1), .int 0, .int 0, .int 0, .int 0, .int 0, .int 0, .int 0, .int (-1), .ref (rm 2), .ref (rm 3), .ref (rm 4), .ref (rm 5), .ref (rm 6), .ref (rm 7), .ref (rm 8), .ref (rm 9), .ref (rm 10), .ref (rm 11), .ref (rm 12), .ref (rm 13), .ref (rm 14), .ref (rm 15), .ref (rm 16), .int 0, .int 0, .int 0, .int 0, .int 0, .ref (rm 17), .ref (rm 18), .ref (rm 19), .ref (rm 20), .ref (rm 21), .int 0, .ref (rm 22), .ref (rm 23), .ref (rm 24), .int 0, .int 0, .int 0, .ref (rm 25), .ref (rm 26), .ref (rm 27), .int 0, .ref (rm 28), .ref (rm 29), .int 0, .ref (rm 30), .ref (rm 31), .int 0, .ref (rm 32), .ref (rm 33), .int 0, .ref (rm 34), .ref (rm 35), .int 0, .int 0, .int 0, .ref (rm 36), .ref (rm 37), .int 0, .ref (rm 38), .ref (rm 39), .int 0, .ref (rm 40), .ref (rm 41), .ref (rm 42), .int 0, .int 0, .long 1, .ref (rm 43), .int 0, .int 0, .int (-1), .int 0, .int 0, .int 0, .int 0, .ref (rm 44), .ref (rm 45), .ref (rm 46), .ref (rm 47), .int 0])), ((rm 1), .inl ((km 0), 1600, .inl (fun _ => 0))), ((rm 2), .inl ((km 1), 7, .inl f1465)), ((rm 22), .inl ((km 2), 422, .inl (fun _ => 0))), ((rm 23), .inl ((km 3), 422, .inl (fun _ => 0)))]
def wd_875 (rm : Nat → Nat) (km : Nat → ClassId) (f1468 : Nat → Int32) : va_W := [((rm 0), .inr (12, [.ref (rm 1), .int 0, .int 0, .int 0, .int 0, .int 0, .int 0, .int 0, .int (-1), .ref (rm 2), .ref (rm 3), .ref (rm 4), .ref (rm 5), .ref (rm 6), .ref (rm 7), .ref (rm 8), .ref (rm 9), .ref (rm 10), .ref (rm 11), .ref (rm 12), .ref (rm 13), .ref (rm 14), .ref (rm 15), .ref (rm 16), .int 0, .int 0, .int 0, .int 0, .int 0, .ref (rm 17), .ref (rm 18), .ref (rm 19), .ref (rm 20), .ref (rm 21), .int 0, .ref (rm 22), .ref (rm 23), .ref (rm 24), .int 0, .int 0, .int 0, .ref (rm 25), .ref (rm 26), .ref (rm 27), .int 0, .ref (rm 28), .ref (rm 29), .int 0, .ref (rm 30), .ref (rm 31), .int 0, .ref (rm 32), .ref (rm 33), .int 0, .ref (rm 34), .ref (rm 35), .int 0, .int 0, .int 0, .ref (rm 36), .ref (rm 37), .int 0, .ref (rm 38), .ref (rm 39), .int 0, .ref (rm 40), .ref (rm 41), .ref (rm 42), .int 0, .int 0, .long 1, .ref (rm 43), .int 0, .int 0, .int (-1), .int 0, .int 0, .int 0, .int 0, .ref (rm 44), .ref (rm 45), .ref (rm 46), .ref (rm 47), .int 0])), ((rm 1), .inl ((km 0), 1600, .inl (fun _ => 0))), ((rm 2), .inl ((km 1), 7, .inl f1468)), ((rm 22), .inl ((km 2), 422, .inl (fun _ => 0))), ((rm 23), .inl ((km 3), 422, .inl (fun _ => 0)))]
set_option maxHeartbeats 4000000 in
set_option maxRecDepth 100000 in
theorem mX12_begin (l : Launch) (dC : Nat → ClassId) (dI : Nat → Nat → Nat) (rm : Nat → Nat) (km : Nat → ClassId) (sz : Nat) : Met l yX12_begin (Cond.code yX12_begin cX12_begin 1 (some .int) :: wA) ({ frames := 1, cells := 0, slots := 0, locals := 21 }) (va_Pc [.ref (rm 0)] (fun U => U.heap.size = sz ∧ va_P (dC, dI) vwCl (wd_758 rm km) U.heap ∧ va_K (dC, dI) vwCl [((km 0), .int), ((km 1), .int), ((km 2), .int), ((km 3), .int)] U ∧ va_D (fun _ => True) (wd_758 rm km))) (va_Qi (fun (r : Int32) (_ : Unit) => r = (-1)) (fun _ t => True) (va_A (wd_758 rm km) sz)) 0 0 (va_A (wd_758 rm km) sz) := by
  refine Met.ofW (cc := cX12_begin) (maxL := 1) (ret := (some .int)) (by decide) rfl ?_
  intro p e s m args below meth c s₁ B hml hv
  obtain ⟨rfl, hsz, hP, hK, hD0⟩ := hv
  have hx := B.exec
  have hb := B.bytes
  have hr := B.returns
  have hts : ∀ w ∈ wA, w.before [.ref (rm 0)].toArray s = true := fun w h => atoms_spec (ws := Cond.code yX12_begin cX12_begin 1 (some .int) :: wA) B.pre w (List.mem_cons_of_mem _ h)
  have hown : s.vm.findClass RX12 = some m.cls := findClass_of_methodNamed B.named
  have hlocks := B.notSynchronized
  subst hsz
  have hD := hD0.self (sz := s.heap.size)
  generalize hAe : va_A (wd_758 rm km) s.heap.size = A at hD ⊢
  have hA : ∀ q : Nat, s.heap.size ≤ q → A q := fun q h => by rw [← hAe]; exact Or.inr h
  have hS : va_S A s.heap s.heap [] := va_S.rf
  have hl := lv_entry ([.ref (rm 0)]) (n := 1) (Nat.le_of_ble_eq_true rfl)
  rw [lg_entry_eq]
  generalize (lg_sl ([.ref (rm 0)]) ++ List.replicate (1 - (lg_sl ([.ref (rm 0)])).length) Slot.unset).toArray = ls at hl ⊢
  have hl : lv_has ls 1 [(0, .ref (rm 0))] := hl
  refine lv_aload_n hx hb dX12_begin_0 rfl (lv_at hl 0 rfl) ?_
  have hPc := hP.sub (ws' := (wd_758 rm km)) [0, 1, 2, 3, 4] rfl
  have hDc := hD.sub (ws' := (wd_758 rm km)) [0, 1, 2, 3, 4] (by decide) rfl
  have hKc := hK.sub (tys' := [((km 0), .int), ((km 1), .int), ((km 2), .int), ((km 3), .int)]) [0, 1, 2, 3] rfl
  have hFc := va_free (wc := (wd_758 rm km)) hD hS hA [0, 1, 2, 3, 4] rfl
  refine va_calli (va_runV (As := []) (rest := []) ⟨hx, hb, hml, hown, hts⟩ (c130_X12_isStill l dC dI rm km s.heap.size) (cwV 0 hts (gV q_478 q_479 q_480 q_372 q_477) rfl rfl rfl mdv_yX12_isStill ⟨Nat.le_of_ble_eq_true rfl, Nat.le_of_ble_eq_true rfl⟩) ⟨fun a U g mk q => by obtain ⟨q0, q1, qP, qK, qD⟩ := q; exact ⟨q0, q1, qP, va_K.moved (u := U) (U := U.calling g mk a) (Vm.Alike.refl U.vm) qK, qD⟩, va_recv hKc hPc (ci := 12) (q0 := 0) rfl rfl, fun U hU hW => ⟨rfl, by rw [hU], by rw [hU]; exact hPc, va_K.moved hW.alike hKc, hDc.weaken (fun _ _ _ _ => trivial)⟩⟩ rfl rfl hl.1 rfl (lv_room (Nat.le_of_ble_eq_true rfl)) dX12_begin_1 ⟨Nat.le_of_ble_eq_true rfl, Nat.le_of_ble_eq_true rfl⟩) hS (fun q _ h => hFc q h) hFc (fun r_1466 u t H1 locs ht hvm hw hB hz1 hk1 hS => ?_)
  obtain ⟨hP1, hK1, hD1⟩ := hB
  rw [ht] at hP1
  have hK1 := va_K.moved hvm.symm hK1
  obtain ⟨hP, hD⟩ := va_join (wr := []) (w1 := (wd_758 rm km)) hP hD [0, 1, 2, 3, 4] [] rfl rfl (by decide) (by decide) hk1 hFc hP1 hD1
  generalize H1 = H at hP hS ⊢
  have hP : va_P (dC, dI) vwCl (wd_758 rm km) H := hP
  have hD : va_D A (wd_758 rm km) := hD
  obtain rfl : r_1466 = 0 := hw
  refine lv_if_ne (tgt := 13) hx hb dX12_begin_4 (by decide) (fun c_0 => absurd c_0 (by decide)) (fun c_0 => ?_)
  refine lv_aload_n hx hb dX12_begin_7 rfl (lv_at hl 0 rfl) ?_
  refine lv_iconst (v := 3) hx hb dX12_begin_8 (by decide) ?_
  have hPc := hP.sub (ws' := (wd_758 rm km)) [0, 1, 2, 3, 4] rfl
  have hDc := hD.sub (ws' := (wd_758 rm km)) [0, 1, 2, 3, 4] (by decide) rfl
  have hKc := hK.sub (tys' := [((km 0), .int), ((km 1), .int), ((km 2), .int), ((km 3), .int)]) [0, 1, 2, 3] rfl
  have hFc := va_free (wc := (wd_758 rm km)) hD hS hA [0, 1, 2, 3, 4] rfl
  refine va_calli (va_runV (As := [.int 3]) (rest := []) ⟨hx, hb, hml, hown, hts⟩ (c133_X12_refuses l dC dI rm km H.size) (cwV 1 hts (gV q_426 q_427 q_428 q_372 q_425) rfl rfl rfl mdv_yX12_refuses ⟨Nat.le_of_ble_eq_true rfl, Nat.le_of_ble_eq_true rfl⟩) ⟨fun a U g mk q => by obtain ⟨q0, q1, qP, qK, qD⟩ := q; exact ⟨q0, q1, qP, va_K.moved (u := U) (U := U.calling g mk a) (Vm.Alike.refl U.vm) qK, qD⟩, va_recv hKc hPc (ci := 12) (q0 := 0) rfl rfl, fun U hU hW => ⟨rfl, by rw [hU], by rw [hU]; exact hPc, va_K.moved hW.alike hKc, hDc.weaken (fun _ _ _ _ => trivial)⟩⟩ rfl rfl hl.1 rfl (lv_room (Nat.le_of_ble_eq_true rfl)) dX12_begin_9 ⟨Nat.le_of_ble_eq_true rfl, Nat.le_of_ble_eq_true rfl⟩) hS (fun q _ h => hFc q h) hFc (fun r_1467 u t H1 locs ht hvm hw hB hz1 hk1 hS => ?_)
  obtain ⟨f1468, hP1, hK1, hD1⟩ := hB
  rw [ht] at hP1
  have hK1 := va_K.moved hvm.symm hK1
  obtain ⟨hP, hD⟩ := va_join (wr := []) (w1 := (wd_875 rm km f1468)) hP hD [0, 1, 2, 3, 4] [] rfl rfl (by decide) (by decide) hk1 hFc hP1 hD1
  have hK := (hK.sub (tys' := []) [] rfl).app hK1
  have hK : va_K (dC, dI) vwCl [((km 0), .int), ((km 1), .int), ((km 2), .int), ((km 3), .int)] s := hK
  generalize H1 = H at hP hS ⊢
  have hP : va_P (dC, dI) vwCl (wd_875 rm km f1468) H := hP
  have hD : va_D A (wd_875 rm km f1468) := hD
  obtain rfl : r_1467 = (-1) := hw
  refine W.widen (k := 0) (n := 0) (Nat.le_of_ble_eq_true rfl) (Nat.le_of_ble_eq_true rfl) ?_
  exact W.iret (v := (-1)) hx hb hr (fun t ht hW => ⟨⟨(-1), (), rfl, rfl, trivial⟩, hS.F ht⟩) hS.2.2 dX12_begin_12
def wd_876 (rm : Nat → Nat) (km : Nat → ClassId) (f1471 : Nat → Int32) : va_W := [((rm 0), .inr (12, [.ref (rm 1), .int 0, .int 0, .int 0, .int 0, .int 0, .int 0, .int 0, .int (-1), .ref (rm 2), .ref (rm 3), .ref (rm 4), .ref (rm 5), .ref (rm 6), .ref (rm 7), .ref (rm 8), .ref (rm 9), .ref (rm 10), .ref (rm 11), .ref (rm 12), .ref (rm 13), .ref (rm 14), .ref (rm 15), .ref (rm 16), .int 0, .int 0, .int 0, .int 0, .int 0, .ref (rm 17), .ref (rm 18), .ref (rm 19), .ref (rm 20), .ref (rm 21), .int 0, .ref (rm 22), .ref (rm 23), .ref (rm 24), .int 0, .int 0, .int 0, .ref (rm 25), .ref (rm 26), .ref (rm 27), .int 0, .ref (rm 28), .ref (rm 29), .int 0, .ref (rm 30), .ref (rm 31), .int 0, .ref (rm 32), .ref (rm 33), .int 0, .ref (rm 34), .ref (rm 35), .int 0, .int 0, .int 0, .ref (rm 36), .ref (rm 37), .int 0, .ref (rm 38), .ref (rm 39), .int 0, .ref (rm 40), .ref (rm 41), .ref (rm 42), .int 0, .int 0, .long 1, .ref (rm 43), .int 0, .int 0, .int (-1), .int 0, .int 0, .int 0, .int 0, .ref (rm 44), .ref (rm 45), .ref (rm 46), .ref (rm 47), .int 0])), ((rm 1), .inl ((km 0), 1600, .inl (fun _ => 0))), ((rm 2), .inl ((km 1), 7, .inl f1471)), ((rm 22), .inl ((km 2), 422, .inl (fun _ => 0))), ((rm 23), .inl ((km 3), 422, .inl (fun _ => 0)))]
def wd_877 (rm : Nat → Nat) (km : Nat → ClassId) (f1474 : Nat → Int32) : va_W := [((rm 0), .inr (12, [.ref (rm 1), .int 0, .int 0, .int 0, .int 0, .int 0, .int 0, .int 0, .int (-1), .ref (rm 2), .ref (rm 3), .ref (rm 4), .ref (rm 5), .ref (rm 6), .ref (rm 7), .ref (rm 8), .ref (rm 9), .ref (rm 10), .ref (rm 11), .ref (rm 12), .ref (rm 13), .ref (rm 14), .ref (rm 15), .ref (rm 16), .int 0, .int 0, .int 0, .int 0, .int 0, .ref (rm 17), .ref (rm 18), .ref (rm 19), .ref (rm 20), .ref (rm 21), .int 0, .ref (rm 22), .ref (rm 23), .ref (rm 24), .int 0, .int 0, .int 0, .ref (rm 25), .ref (rm 26), .ref (rm 27), .int 0, .ref (rm 28), .ref (rm 29), .int 0, .ref (rm 30), .ref (rm 31), .int 0, .ref (rm 32), .ref (rm 33), .int 0, .ref (rm 34), .ref (rm 35), .int 0, .int 0, .int 0, .ref (rm 36), .ref (rm 37), .int 0, .ref (rm 38), .ref (rm 39), .int 0, .ref (rm 40), .ref (rm 41), .ref (rm 42), .int 0, .int 0, .long 1, .ref (rm 43), .int 0, .int 0, .int (-1), .int 0, .int 0, .int 0, .int 0, .ref (rm 44), .ref (rm 45), .ref (rm 46), .ref (rm 47), .int 0])), ((rm 1), .inl ((km 0), 1600, .inl (fun _ => 0))), ((rm 2), .inl ((km 1), 7, .inl f1474)), ((rm 22), .inl ((km 2), 422, .inl (fun _ => 0))), ((rm 23), .inl ((km 3), 422, .inl (fun _ => 0)))]
set_option maxHeartbeats 4000000 in
set_option maxRecDepth 100000 in
theorem mX12_step (l : Launch) (dC : Nat → ClassId) (dI : Nat → Nat → Nat) (rm : Nat → Nat) (km : Nat → ClassId) (p1 : Int32) (sz : Nat) : Met l yX12_step (Cond.code yX12_step cX12_step 3 (some .int) :: wA) ({ frames := 1, cells := 0, slots := 0, locals := 21 }) (va_Pc [.ref (rm 0), .int p1] (fun U => U.heap.size = sz ∧ va_P (dC, dI) vwCl (wd_758 rm km) U.heap ∧ va_K (dC, dI) vwCl [((km 0), .int), ((km 1), .int), ((km 2), .int), ((km 3), .int)] U ∧ va_D (fun _ => True) (wd_758 rm km))) (va_Qi (fun (r : Int32) (_ : Unit) => r = (-1)) (fun _ t => True) (va_A (wd_758 rm km) sz)) 0 0 (va_A (wd_758 rm km) sz) := by
  refine Met.ofW (cc := cX12_step) (maxL := 3) (ret := (some .int)) (by decide) rfl ?_
  intro p e s m args below meth c s₁ B hml hv
  obtain ⟨rfl, hsz, hP, hK, hD0⟩ := hv
  have hx := B.exec
  have hb := B.bytes
  have hr := B.returns
  have hts : ∀ w ∈ wA, w.before [.ref (rm 0), .int p1].toArray s = true := fun w h => atoms_spec (ws := Cond.code yX12_step cX12_step 3 (some .int) :: wA) B.pre w (List.mem_cons_of_mem _ h)
  have hown : s.vm.findClass RX12 = some m.cls := findClass_of_methodNamed B.named
  have hlocks := B.notSynchronized
  subst hsz
  have hD := hD0.self (sz := s.heap.size)
  generalize hAe : va_A (wd_758 rm km) s.heap.size = A at hD ⊢
  have hA : ∀ q : Nat, s.heap.size ≤ q → A q := fun q h => by rw [← hAe]; exact Or.inr h
  have hS : va_S A s.heap s.heap [] := va_S.rf
  have hl := lv_entry ([.ref (rm 0), .int p1]) (n := 3) (Nat.le_of_ble_eq_true rfl)
  rw [lg_entry_eq]
  generalize (lg_sl ([.ref (rm 0), .int p1]) ++ List.replicate (3 - (lg_sl ([.ref (rm 0), .int p1])).length) Slot.unset).toArray = ls at hl ⊢
  have hl : lv_has ls 3 [(0, .ref (rm 0)), (1, .int p1)] := hl
  refine lv_aload_n hx hb dX12_step_0 rfl (lv_at hl 0 rfl) ?_
  refine va_get (D := (dC, dI)) (ci := 12) (v := .ref (rm 22)) (C := RX12) (T := TX12) (N := 84) hx hb hts i_X12 hown hK hP 0 rfl rfl 35 (by decide) (hts _ q_210) (fun _ h9 => h9) rfl dX12_step_1 ?_
  refine lv_iconst (v := 3) hx hb dX12_step_4 (by decide) ?_
  refine va_iald hx hb hK hP 3 2 rfl rfl (vpi (by decide)) dX12_step_5 ?_
  refine lv_topi (fun x_1472 ex_1472 => ?_)
  obtain rfl : x_1472 = 0 := ex_1472
  refine lv_if_eq (tgt := 21) hx hb dX12_step_6 (by decide) (fun c_0 => ?_) (fun c_0 => absurd c_0 (by decide))
  refine lv_aload_n hx hb dX12_step_21 rfl (lv_at hl 0 rfl) ?_
  refine lv_iconst (v := 3) hx hb dX12_step_22 (by decide) ?_
  have hPc := hP.sub (ws' := (wd_758 rm km)) [0, 1, 2, 3, 4] rfl
  have hDc := hD.sub (ws' := (wd_758 rm km)) [0, 1, 2, 3, 4] (by decide) rfl
  have hKc := hK.sub (tys' := [((km 0), .int), ((km 1), .int), ((km 2), .int), ((km 3), .int)]) [0, 1, 2, 3] rfl
  have hFc := va_free (wc := (wd_758 rm km)) hD hS hA [0, 1, 2, 3, 4] rfl
  refine va_calli (va_runV (As := [.int 3]) (rest := []) ⟨hx, hb, hml, hown, hts⟩ (c133_X12_refuses l dC dI rm km s.heap.size) (cwV 1 hts (gV q_426 q_427 q_428 q_372 q_425) rfl rfl rfl mdv_yX12_refuses ⟨Nat.le_of_ble_eq_true rfl, Nat.le_of_ble_eq_true rfl⟩) ⟨fun a U g mk q => by obtain ⟨q0, q1, qP, qK, qD⟩ := q; exact ⟨q0, q1, qP, va_K.moved (u := U) (U := U.calling g mk a) (Vm.Alike.refl U.vm) qK, qD⟩, va_recv hKc hPc (ci := 12) (q0 := 0) rfl rfl, fun U hU hW => ⟨rfl, by rw [hU], by rw [hU]; exact hPc, va_K.moved hW.alike hKc, hDc.weaken (fun _ _ _ _ => trivial)⟩⟩ rfl rfl hl.1 rfl (lv_room (Nat.le_of_ble_eq_true rfl)) dX12_step_23 ⟨Nat.le_of_ble_eq_true rfl, Nat.le_of_ble_eq_true rfl⟩) hS (fun q _ h => hFc q h) hFc (fun r_1473 u t H1 locs ht hvm hw hB hz1 hk1 hS => ?_)
  obtain ⟨f1474, hP1, hK1, hD1⟩ := hB
  rw [ht] at hP1
  have hK1 := va_K.moved hvm.symm hK1
  obtain ⟨hP, hD⟩ := va_join (wr := []) (w1 := (wd_877 rm km f1474)) hP hD [0, 1, 2, 3, 4] [] rfl rfl (by decide) (by decide) hk1 hFc hP1 hD1
  have hK := (hK.sub (tys' := []) [] rfl).app hK1
  have hK : va_K (dC, dI) vwCl [((km 0), .int), ((km 1), .int), ((km 2), .int), ((km 3), .int)] s := hK
  generalize H1 = H at hP hS ⊢
  have hP : va_P (dC, dI) vwCl (wd_877 rm km f1474) H := hP
  have hD : va_D A (wd_877 rm km f1474) := hD
  obtain rfl : r_1473 = (-1) := hw
  refine W.widen (k := 0) (n := 0) (Nat.le_of_ble_eq_true rfl) (Nat.le_of_ble_eq_true rfl) ?_
  exact W.iret (v := (-1)) hx hb hr (fun t ht hW => ⟨⟨(-1), (), rfl, rfl, trivial⟩, hS.F ht⟩) hS.2.2 dX12_step_26
def wd_878 (rm : Nat → Nat) (km : Nat → ClassId) (f1478 : Nat → Int32) : va_W := [((rm 0), .inr (12, [.ref (rm 1), .int 0, .int 0, .int 0, .int 0, .int 0, .int 0, .int 0, .int (-1), .ref (rm 2), .ref (rm 3), .ref (rm 4), .ref (rm 5), .ref (rm 6), .ref (rm 7), .ref (rm 8), .ref (rm 9), .ref (rm 10), .ref (rm 11), .ref (rm 12), .ref (rm 13), .ref (rm 14), .ref (rm 15), .ref (rm 16), .int 0, .int 0, .int 0, .int 0, .int 0, .ref (rm 17), .ref (rm 18), .ref (rm 19), .ref (rm 20), .ref (rm 21), .int 0, .ref (rm 22), .ref (rm 23), .ref (rm 24), .int 0, .int 0, .int 0, .ref (rm 25), .ref (rm 26), .ref (rm 27), .int 0, .ref (rm 28), .ref (rm 29), .int 0, .ref (rm 30), .ref (rm 31), .int 0, .ref (rm 32), .ref (rm 33), .int 0, .ref (rm 34), .ref (rm 35), .int 0, .int 0, .int 0, .ref (rm 36), .ref (rm 37), .int 0, .ref (rm 38), .ref (rm 39), .int 0, .ref (rm 40), .ref (rm 41), .ref (rm 42), .int 0, .int 0, .long 1, .ref (rm 43), .int 0, .int 0, .int (-1), .int 0, .int 0, .int 0, .int 0, .ref (rm 44), .ref (rm 45), .ref (rm 46), .ref (rm 47), .int 0])), ((rm 1), .inl ((km 0), 1600, .inl (fun _ => 0))), ((rm 2), .inl ((km 1), 7, .inl f1478)), ((rm 22), .inl ((km 2), 422, .inl (fun _ => 0))), ((rm 23), .inl ((km 3), 422, .inl (fun _ => 0)))]
def wd_879 (rm : Nat → Nat) (km : Nat → ClassId) (f1481 : Nat → Int32) : va_W := [((rm 0), .inr (12, [.ref (rm 1), .int 0, .int 0, .int 0, .int 0, .int 0, .int 0, .int 0, .int (-1), .ref (rm 2), .ref (rm 3), .ref (rm 4), .ref (rm 5), .ref (rm 6), .ref (rm 7), .ref (rm 8), .ref (rm 9), .ref (rm 10), .ref (rm 11), .ref (rm 12), .ref (rm 13), .ref (rm 14), .ref (rm 15), .ref (rm 16), .int 0, .int 0, .int 0, .int 0, .int 0, .ref (rm 17), .ref (rm 18), .ref (rm 19), .ref (rm 20), .ref (rm 21), .int 0, .ref (rm 22), .ref (rm 23), .ref (rm 24), .int 0, .int 0, .int 0, .ref (rm 25), .ref (rm 26), .ref (rm 27), .int 0, .ref (rm 28), .ref (rm 29), .int 0, .ref (rm 30), .ref (rm 31), .int 0, .ref (rm 32), .ref (rm 33), .int 0, .ref (rm 34), .ref (rm 35), .int 0, .int 0, .int 0, .ref (rm 36), .ref (rm 37), .int 0, .ref (rm 38), .ref (rm 39), .int 0, .ref (rm 40), .ref (rm 41), .ref (rm 42), .int 0, .int 0, .long 1, .ref (rm 43), .int 0, .int 0, .int (-1), .int 0, .int 0, .int 0, .int 0, .ref (rm 44), .ref (rm 45), .ref (rm 46), .ref (rm 47), .int 0])), ((rm 1), .inl ((km 0), 1600, .inl (fun _ => 0))), ((rm 2), .inl ((km 1), 7, .inl f1481)), ((rm 22), .inl ((km 2), 422, .inl (fun _ => 0))), ((rm 23), .inl ((km 3), 422, .inl (fun _ => 0)))]
set_option maxHeartbeats 4000000 in
set_option maxRecDepth 100000 in
theorem c137_X12_isRefused (l : Launch) (dC : Nat → ClassId) (dI : Nat → Nat → Nat) (rm : Nat → Nat) (km : Nat → ClassId) (sz : Nat) : Met l yX12_isRefused (Cond.code yX12_isRefused cX12_isRefused 2 (some .boolean) :: wA) ({ frames := 0, cells := 0, slots := 0, locals := 0 }) (va_Pc [.ref (rm 0), .int 3] (fun U => U.heap.size = sz ∧ va_P (dC, dI) vwCl (wd_758 rm km) U.heap ∧ va_K (dC, dI) vwCl [((km 0), .int), ((km 1), .int), ((km 2), .int), ((km 3), .int)] U ∧ va_D (fun _ => True) (wd_758 rm km))) (va_Qi (fun (r : Int32) (_ : Unit) => r = 0) (fun _ t => ∃ f1481 : Nat → Int32, va_P (dC, dI) vwCl (wd_879 rm km f1481) t.heap ∧ va_K (dC, dI) vwCl [((km 0), .int), ((km 1), .int), ((km 2), .int), ((km 3), .int)] t ∧ va_D (va_A (wd_758 rm km) sz) (wd_879 rm km f1481)) (va_A (wd_758 rm km) sz)) 0 0 (va_A (wd_758 rm km) sz) := by
  refine Met.ofW (cc := cX12_isRefused) (maxL := 2) (ret := (some .boolean)) (by decide) rfl ?_
  intro p e s m args below meth c s₁ B hml hv
  obtain ⟨rfl, hsz, hP, hK, hD0⟩ := hv
  have hx := B.exec
  have hb := B.bytes
  have hr := B.returns
  have hts : ∀ w ∈ wA, w.before [.ref (rm 0), .int 3].toArray s = true := fun w h => atoms_spec (ws := Cond.code yX12_isRefused cX12_isRefused 2 (some .boolean) :: wA) B.pre w (List.mem_cons_of_mem _ h)
  have hown : s.vm.findClass RX12 = some m.cls := findClass_of_methodNamed B.named
  have hlocks := B.notSynchronized
  subst hsz
  have hD := hD0.self (sz := s.heap.size)
  generalize hAe : va_A (wd_758 rm km) s.heap.size = A at hD ⊢
  have hA : ∀ q : Nat, s.heap.size ≤ q → A q := fun q h => by rw [← hAe]; exact Or.inr h
  have hS : va_S A s.heap s.heap [] := va_S.rf
  have hl := lv_entry ([.ref (rm 0), .int 3]) (n := 2) (Nat.le_of_ble_eq_true rfl)
  rw [lg_entry_eq]
  generalize (lg_sl ([.ref (rm 0), .int 3]) ++ List.replicate (2 - (lg_sl ([.ref (rm 0), .int 3])).length) Slot.unset).toArray = ls at hl ⊢
  have hl : lv_has ls 2 [(0, .ref (rm 0)), (1, .int 3)] := hl
  refine lv_aload_n hx hb dX12_isRefused_0 rfl (lv_at hl 0 rfl) ?_
  refine va_get (D := (dC, dI)) (ci := 12) (v := .ref (rm 2)) (C := RX12) (T := TX12) (N := 84) hx hb hts i_X12 hown hK hP 0 rfl rfl 9 (by decide) (hts _ q_189) (fun _ h9 => h9) rfl dX12_isRefused_1 ?_
  refine lv_iload_n hx hb dX12_isRefused_4 rfl (lv_at hl 1 rfl) ?_
  refine lv_dup2_11 hx hb dX12_isRefused_5 rfl rfl ?_
  refine va_iald hx hb hK hP 2 1 rfl rfl (vpi (by decide)) dX12_isRefused_6 ?_
  refine lv_topi (fun x_1479 ex_1479 => ?_)
  obtain rfl : x_1479 = 0 := ex_1479
  refine lv_iconst (v := 1) hx hb dX12_isRefused_7 (by decide) ?_
  refine lv_iadd hx hb dX12_isRefused_8 ?_
  refine lv_topi (fun x_1480 ex_1480 => ?_)
  obtain rfl : x_1480 = 1 := ex_1480.trans (by decide)
  refine va_iast hx hb hK hP hD hS 2 1 rfl rfl (vpi (by decide)) dX12_isRefused_9 (fun H locs hP hD hS => ?_)
  obtain ⟨f1481, hP, hD⟩ : ∃ f : Nat → Int32, va_P (dC, dI) vwCl (wd_759 rm km f) H ∧ va_D A (wd_759 rm km f) := ⟨_, hP, hD⟩
  have hP : va_P (dC, dI) vwCl (wd_879 rm km f1481) H := hP
  have hD : va_D A (wd_879 rm km f1481) := hD
  refine lv_iconst (v := 0) hx hb dX12_isRefused_10 (by decide) ?_
  refine W.widen (k := 0) (n := 0) (Nat.le_of_ble_eq_true rfl) (Nat.le_of_ble_eq_true rfl) ?_
  have hP9 := hP.sub (ws' := (wd_879 rm km f1481)) [0, 1, 2, 3, 4] rfl
  have hD9 := hD.sub (ws' := (wd_879 rm km f1481)) [0, 1, 2, 3, 4] (by decide) rfl
  have hK9 := hK.sub (tys' := [((km 0), .int), ((km 1), .int), ((km 2), .int), ((km 3), .int)]) [0, 1, 2, 3] rfl
  exact W.zret (v := 0) hx hb hr rfl (fun t ht hW => ⟨⟨0, (), rfl, rfl, f1481, by rw [ht]; exact hP9, va_K.moved hW.alike hK9, hD9⟩, hS.F ht⟩) hS.2.2 dX12_isRefused_11
def wd_880 (rm : Nat → Nat) (km : Nat → ClassId) (f1483 : Nat → Int32) : va_W := [((rm 0), .inr (12, [.ref (rm 1), .int 0, .int 0, .int 0, .int 0, .int 0, .int 0, .int 0, .int (-1), .ref (rm 2), .ref (rm 3), .ref (rm 4), .ref (rm 5), .ref (rm 6), .ref (rm 7), .ref (rm 8), .ref (rm 9), .ref (rm 10), .ref (rm 11), .ref (rm 12), .ref (rm 13), .ref (rm 14), .ref (rm 15), .ref (rm 16), .int 0, .int 0, .int 0, .int 0, .int 0, .ref (rm 17), .ref (rm 18), .ref (rm 19), .ref (rm 20), .ref (rm 21), .int 0, .ref (rm 22), .ref (rm 23), .ref (rm 24), .int 0, .int 0, .int 0, .ref (rm 25), .ref (rm 26), .ref (rm 27), .int 0, .ref (rm 28), .ref (rm 29), .int 0, .ref (rm 30), .ref (rm 31), .int 0, .ref (rm 32), .ref (rm 33), .int 0, .ref (rm 34), .ref (rm 35), .int 0, .int 0, .int 0, .ref (rm 36), .ref (rm 37), .int 0, .ref (rm 38), .ref (rm 39), .int 0, .ref (rm 40), .ref (rm 41), .ref (rm 42), .int 0, .int 0, .long 1, .ref (rm 43), .int 0, .int 0, .int (-1), .int 0, .int 0, .int 0, .int 0, .ref (rm 44), .ref (rm 45), .ref (rm 46), .ref (rm 47), .int 0])), ((rm 1), .inl ((km 0), 1600, .inl (fun _ => 0))), ((rm 2), .inl ((km 1), 7, .inl f1483)), ((rm 22), .inl ((km 2), 422, .inl (fun _ => 0))), ((rm 23), .inl ((km 3), 422, .inl (fun _ => 0)))]
def wd_881 (rm : Nat → Nat) (km : Nat → ClassId) (f1486 : Nat → Int32) : va_W := [((rm 0), .inr (12, [.ref (rm 1), .int 0, .int 0, .int 0, .int 0, .int 0, .int 0, .int 0, .int (-1), .ref (rm 2), .ref (rm 3), .ref (rm 4), .ref (rm 5), .ref (rm 6), .ref (rm 7), .ref (rm 8), .ref (rm 9), .ref (rm 10), .ref (rm 11), .ref (rm 12), .ref (rm 13), .ref (rm 14), .ref (rm 15), .ref (rm 16), .int 0, .int 0, .int 0, .int 0, .int 0, .ref (rm 17), .ref (rm 18), .ref (rm 19), .ref (rm 20), .ref (rm 21), .int 0, .ref (rm 22), .ref (rm 23), .ref (rm 24), .int 0, .int 0, .int 0, .ref (rm 25), .ref (rm 26), .ref (rm 27), .int 0, .ref (rm 28), .ref (rm 29), .int 0, .ref (rm 30), .ref (rm 31), .int 0, .ref (rm 32), .ref (rm 33), .int 0, .ref (rm 34), .ref (rm 35), .int 0, .int 0, .int 0, .ref (rm 36), .ref (rm 37), .int 0, .ref (rm 38), .ref (rm 39), .int 0, .ref (rm 40), .ref (rm 41), .ref (rm 42), .int 0, .int 0, .long 1, .ref (rm 43), .int 0, .int 0, .int (-1), .int 0, .int 0, .int 0, .int 0, .ref (rm 44), .ref (rm 45), .ref (rm 46), .ref (rm 47), .int 0])), ((rm 1), .inl ((km 0), 1600, .inl (fun _ => 0))), ((rm 2), .inl ((km 1), 7, .inl f1486)), ((rm 22), .inl ((km 2), 422, .inl (fun _ => 0))), ((rm 23), .inl ((km 3), 422, .inl (fun _ => 0)))]
set_option maxHeartbeats 4000000 in
set_option maxRecDepth 100000 in
theorem mX12_method (l : Launch) (dC : Nat → ClassId) (dI : Nat → Nat → Nat) (rm : Nat → Nat) (km : Nat → ClassId) (p1 : Int32) (sz : Nat) : Met l yX12_method (Cond.code yX12_method cX12_method 2 (some .boolean) :: wA) ({ frames := 1, cells := 0, slots := 0, locals := 21 }) (va_Pc [.ref (rm 0), .int p1] (fun U => U.heap.size = sz ∧ va_P (dC, dI) vwCl (wd_758 rm km) U.heap ∧ va_K (dC, dI) vwCl [((km 0), .int), ((km 1), .int), ((km 2), .int), ((km 3), .int)] U ∧ va_D (fun _ => True) (wd_758 rm km))) (va_Qi (fun (r : Int32) (_ : Unit) => r = 0) (fun _ t => True) (va_A (wd_758 rm km) sz)) 0 0 (va_A (wd_758 rm km) sz) := by
  refine Met.ofW (cc := cX12_method) (maxL := 2) (ret := (some .boolean)) (by decide) rfl ?_
  intro p e s m args below meth c s₁ B hml hv
  obtain ⟨rfl, hsz, hP, hK, hD0⟩ := hv
  have hx := B.exec
  have hb := B.bytes
  have hr := B.returns
  have hts : ∀ w ∈ wA, w.before [.ref (rm 0), .int p1].toArray s = true := fun w h => atoms_spec (ws := Cond.code yX12_method cX12_method 2 (some .boolean) :: wA) B.pre w (List.mem_cons_of_mem _ h)
  have hown : s.vm.findClass RX12 = some m.cls := findClass_of_methodNamed B.named
  have hlocks := B.notSynchronized
  subst hsz
  have hD := hD0.self (sz := s.heap.size)
  generalize hAe : va_A (wd_758 rm km) s.heap.size = A at hD ⊢
  have hA : ∀ q : Nat, s.heap.size ≤ q → A q := fun q h => by rw [← hAe]; exact Or.inr h
  have hS : va_S A s.heap s.heap [] := va_S.rf
  have hl := lv_entry ([.ref (rm 0), .int p1]) (n := 2) (Nat.le_of_ble_eq_true rfl)
  rw [lg_entry_eq]
  generalize (lg_sl ([.ref (rm 0), .int p1]) ++ List.replicate (2 - (lg_sl ([.ref (rm 0), .int p1])).length) Slot.unset).toArray = ls at hl ⊢
  have hl : lv_has ls 2 [(0, .ref (rm 0)), (1, .int p1)] := hl
  refine lv_aload_n hx hb dX12_method_0 rfl (lv_at hl 0 rfl) ?_
  have hPc := hP.sub (ws' := (wd_758 rm km)) [0, 1, 2, 3, 4] rfl
  have hDc := hD.sub (ws' := (wd_758 rm km)) [0, 1, 2, 3, 4] (by decide) rfl
  have hKc := hK.sub (tys' := [((km 0), .int), ((km 1), .int), ((km 2), .int), ((km 3), .int)]) [0, 1, 2, 3] rfl
  have hFc := va_free (wc := (wd_758 rm km)) hD hS hA [0, 1, 2, 3, 4] rfl
  refine va_calli (va_runV (As := []) (rest := []) ⟨hx, hb, hml, hown, hts⟩ (c130_X12_isStill l dC dI rm km s.heap.size) (cwV 0 hts (gV q_478 q_479 q_480 q_372 q_477) rfl rfl rfl mdv_yX12_isStill ⟨Nat.le_of_ble_eq_true rfl, Nat.le_of_ble_eq_true rfl⟩) ⟨fun a U g mk q => by obtain ⟨q0, q1, qP, qK, qD⟩ := q; exact ⟨q0, q1, qP, va_K.moved (u := U) (U := U.calling g mk a) (Vm.Alike.refl U.vm) qK, qD⟩, va_recv hKc hPc (ci := 12) (q0 := 0) rfl rfl, fun U hU hW => ⟨rfl, by rw [hU], by rw [hU]; exact hPc, va_K.moved hW.alike hKc, hDc.weaken (fun _ _ _ _ => trivial)⟩⟩ rfl rfl hl.1 rfl (lv_room (Nat.le_of_ble_eq_true rfl)) dX12_method_1 ⟨Nat.le_of_ble_eq_true rfl, Nat.le_of_ble_eq_true rfl⟩) hS (fun q _ h => hFc q h) hFc (fun r_1484 u t H1 locs ht hvm hw hB hz1 hk1 hS => ?_)
  obtain ⟨hP1, hK1, hD1⟩ := hB
  rw [ht] at hP1
  have hK1 := va_K.moved hvm.symm hK1
  obtain ⟨hP, hD⟩ := va_join (wr := []) (w1 := (wd_758 rm km)) hP hD [0, 1, 2, 3, 4] [] rfl rfl (by decide) (by decide) hk1 hFc hP1 hD1
  generalize H1 = H at hP hS ⊢
  have hP : va_P (dC, dI) vwCl (wd_758 rm km) H := hP
  have hD : va_D A (wd_758 rm km) := hD
  obtain rfl : r_1484 = 0 := hw
  refine lv_if_eq (tgt := 27) hx hb dX12_method_4 (by decide) (fun c_0 => ?_) (fun c_0 => absurd c_0 (by decide))
  refine lv_aload_n hx hb dX12_method_27 rfl (lv_at hl 0 rfl) ?_
  refine lv_iconst (v := 3) hx hb dX12_method_28 (by decide) ?_
  have hPc := hP.sub (ws' := (wd_758 rm km)) [0, 1, 2, 3, 4] rfl
  have hDc := hD.sub (ws' := (wd_758 rm km)) [0, 1, 2, 3, 4] (by decide) rfl
  have hKc := hK.sub (tys' := [((km 0), .int), ((km 1), .int), ((km 2), .int), ((km 3), .int)]) [0, 1, 2, 3] rfl
  have hFc := va_free (wc := (wd_758 rm km)) hD hS hA [0, 1, 2, 3, 4] rfl
  refine va_calli (va_runV (As := [.int 3]) (rest := []) ⟨hx, hb, hml, hown, hts⟩ (c137_X12_isRefused l dC dI rm km H.size) (cwV 1 hts (gV q_369 q_370 q_371 q_372 q_368) rfl rfl rfl mdv_yX12_isRefused ⟨Nat.le_of_ble_eq_true rfl, Nat.le_of_ble_eq_true rfl⟩) ⟨fun a U g mk q => by obtain ⟨q0, q1, qP, qK, qD⟩ := q; exact ⟨q0, q1, qP, va_K.moved (u := U) (U := U.calling g mk a) (Vm.Alike.refl U.vm) qK, qD⟩, va_recv hKc hPc (ci := 12) (q0 := 0) rfl rfl, fun U hU hW => ⟨rfl, by rw [hU], by rw [hU]; exact hPc, va_K.moved hW.alike hKc, hDc.weaken (fun _ _ _ _ => trivial)⟩⟩ rfl rfl hl.1 rfl (lv_room (Nat.le_of_ble_eq_true rfl)) dX12_method_29 ⟨Nat.le_of_ble_eq_true rfl, Nat.le_of_ble_eq_true rfl⟩) hS (fun q _ h => hFc q h) hFc (fun r_1485 u t H1 locs ht hvm hw hB hz1 hk1 hS => ?_)
  obtain ⟨f1486, hP1, hK1, hD1⟩ := hB
  rw [ht] at hP1
  have hK1 := va_K.moved hvm.symm hK1
  obtain ⟨hP, hD⟩ := va_join (wr := []) (w1 := (wd_881 rm km f1486)) hP hD [0, 1, 2, 3, 4] [] rfl rfl (by decide) (by decide) hk1 hFc hP1 hD1
  have hK := (hK.sub (tys' := []) [] rfl).app hK1
  have hK : va_K (dC, dI) vwCl [((km 0), .int), ((km 1), .int), ((km 2), .int), ((km 3), .int)] s := hK
  generalize H1 = H at hP hS ⊢
  have hP : va_P (dC, dI) vwCl (wd_881 rm km f1486) H := hP
  have hD : va_D A (wd_881 rm km f1486) := hD
  obtain rfl : r_1485 = 0 := hw
  refine W.widen (k := 0) (n := 0) (Nat.le_of_ble_eq_true rfl) (Nat.le_of_ble_eq_true rfl) ?_
  exact W.zret (v := 0) hx hb hr rfl (fun t ht hW => ⟨⟨0, (), rfl, rfl, trivial⟩, hS.F ht⟩) hS.2.2 dX12_method_32
def wd_882 (rm : Nat → Nat) (km : Nat → ClassId) (f1490 : Nat → Int32) : va_W := [((rm 0), .inr (12, [.ref (rm 1), .int 0, .int 0, .int 0, .int 0, .int 0, .int 0, .int 0, .int (-1), .ref (rm 2), .ref (rm 3), .ref (rm 4), .ref (rm 5), .ref (rm 6), .ref (rm 7), .ref (rm 8), .ref (rm 9), .ref (rm 10), .ref (rm 11), .ref (rm 12), .ref (rm 13), .ref (rm 14), .ref (rm 15), .ref (rm 16), .int 0, .int 0, .int 0, .int 0, .int 0, .ref (rm 17), .ref (rm 18), .ref (rm 19), .ref (rm 20), .ref (rm 21), .int 0, .ref (rm 22), .ref (rm 23), .ref (rm 24), .int 0, .int 0, .int 0, .ref (rm 25), .ref (rm 26), .ref (rm 27), .int 0, .ref (rm 28), .ref (rm 29), .int 0, .ref (rm 30), .ref (rm 31), .int 0, .ref (rm 32), .ref (rm 33), .int 0, .ref (rm 34), .ref (rm 35), .int 0, .int 0, .int 0, .ref (rm 36), .ref (rm 37), .int 0, .ref (rm 38), .ref (rm 39), .int 0, .ref (rm 40), .ref (rm 41), .ref (rm 42), .int 0, .int 0, .long 1, .ref (rm 43), .int 0, .int 0, .int (-1), .int 0, .int 0, .int 0, .int 0, .ref (rm 44), .ref (rm 45), .ref (rm 46), .ref (rm 47), .int 0])), ((rm 1), .inl ((km 0), 1600, .inl (fun _ => 0))), ((rm 2), .inl ((km 1), 7, .inl f1490)), ((rm 22), .inl ((km 2), 422, .inl (fun _ => 0))), ((rm 23), .inl ((km 3), 422, .inl (fun _ => 0)))]
def wd_883 (rm : Nat → Nat) (km : Nat → ClassId) (f1493 : Nat → Int32) : va_W := [((rm 0), .inr (12, [.ref (rm 1), .int 0, .int 0, .int 0, .int 0, .int 0, .int 0, .int 0, .int (-1), .ref (rm 2), .ref (rm 3), .ref (rm 4), .ref (rm 5), .ref (rm 6), .ref (rm 7), .ref (rm 8), .ref (rm 9), .ref (rm 10), .ref (rm 11), .ref (rm 12), .ref (rm 13), .ref (rm 14), .ref (rm 15), .ref (rm 16), .int 0, .int 0, .int 0, .int 0, .int 0, .ref (rm 17), .ref (rm 18), .ref (rm 19), .ref (rm 20), .ref (rm 21), .int 0, .ref (rm 22), .ref (rm 23), .ref (rm 24), .int 0, .int 0, .int 0, .ref (rm 25), .ref (rm 26), .ref (rm 27), .int 0, .ref (rm 28), .ref (rm 29), .int 0, .ref (rm 30), .ref (rm 31), .int 0, .ref (rm 32), .ref (rm 33), .int 0, .ref (rm 34), .ref (rm 35), .int 0, .int 0, .int 0, .ref (rm 36), .ref (rm 37), .int 0, .ref (rm 38), .ref (rm 39), .int 0, .ref (rm 40), .ref (rm 41), .ref (rm 42), .int 0, .int 0, .long 1, .ref (rm 43), .int 0, .int 0, .int (-1), .int 0, .int 0, .int 0, .int 0, .ref (rm 44), .ref (rm 45), .ref (rm 46), .ref (rm 47), .int 0])), ((rm 1), .inl ((km 0), 1600, .inl (fun _ => 0))), ((rm 2), .inl ((km 1), 7, .inl f1493)), ((rm 22), .inl ((km 2), 422, .inl (fun _ => 0))), ((rm 23), .inl ((km 3), 422, .inl (fun _ => 0)))]
set_option maxHeartbeats 4000000 in
set_option maxRecDepth 100000 in
theorem c139_X12_refuses (l : Launch) (dC : Nat → ClassId) (dI : Nat → Nat → Nat) (rm : Nat → Nat) (km : Nat → ClassId) (sz : Nat) : Met l yX12_refuses (Cond.code yX12_refuses cX12_refuses 2 (some .int) :: wA) ({ frames := 0, cells := 0, slots := 0, locals := 0 }) (va_Pc [.ref (rm 0), .int 4] (fun U => U.heap.size = sz ∧ va_P (dC, dI) vwCl (wd_758 rm km) U.heap ∧ va_K (dC, dI) vwCl [((km 0), .int), ((km 1), .int), ((km 2), .int), ((km 3), .int)] U ∧ va_D (fun _ => True) (wd_758 rm km))) (va_Qi (fun (r : Int32) (_ : Unit) => r = (-1)) (fun _ t => ∃ f1493 : Nat → Int32, va_P (dC, dI) vwCl (wd_883 rm km f1493) t.heap ∧ va_K (dC, dI) vwCl [((km 0), .int), ((km 1), .int), ((km 2), .int), ((km 3), .int)] t ∧ va_D (va_A (wd_758 rm km) sz) (wd_883 rm km f1493)) (va_A (wd_758 rm km) sz)) 0 0 (va_A (wd_758 rm km) sz) := by
  refine Met.ofW (cc := cX12_refuses) (maxL := 2) (ret := (some .int)) (by decide) rfl ?_
  intro p e s m args below meth c s₁ B hml hv
  obtain ⟨rfl, hsz, hP, hK, hD0⟩ := hv
  have hx := B.exec
  have hb := B.bytes
  have hr := B.returns
  have hts : ∀ w ∈ wA, w.before [.ref (rm 0), .int 4].toArray s = true := fun w h => atoms_spec (ws := Cond.code yX12_refuses cX12_refuses 2 (some .int) :: wA) B.pre w (List.mem_cons_of_mem _ h)
  have hown : s.vm.findClass RX12 = some m.cls := findClass_of_methodNamed B.named
  have hlocks := B.notSynchronized
  subst hsz
  have hD := hD0.self (sz := s.heap.size)
  generalize hAe : va_A (wd_758 rm km) s.heap.size = A at hD ⊢
  have hA : ∀ q : Nat, s.heap.size ≤ q → A q := fun q h => by rw [← hAe]; exact Or.inr h
  have hS : va_S A s.heap s.heap [] := va_S.rf
  have hl := lv_entry ([.ref (rm 0), .int 4]) (n := 2) (Nat.le_of_ble_eq_true rfl)
  rw [lg_entry_eq]
  generalize (lg_sl ([.ref (rm 0), .int 4]) ++ List.replicate (2 - (lg_sl ([.ref (rm 0), .int 4])).length) Slot.unset).toArray = ls at hl ⊢
  have hl : lv_has ls 2 [(0, .ref (rm 0)), (1, .int 4)] := hl
  refine lv_aload_n hx hb dX12_refuses_0 rfl (lv_at hl 0 rfl) ?_
  refine va_get (D := (dC, dI)) (ci := 12) (v := .ref (rm 2)) (C := RX12) (T := TX12) (N := 84) hx hb hts i_X12 hown hK hP 0 rfl rfl 9 (by decide) (hts _ q_189) (fun _ h9 => h9) rfl dX12_refuses_1 ?_
  refine lv_iload_n hx hb dX12_refuses_4 rfl (lv_at hl 1 rfl) ?_
  refine lv_dup2_11 hx hb dX12_refuses_5 rfl rfl ?_
  refine va_iald hx hb hK hP 2 1 rfl rfl (vpi (by decide)) dX12_refuses_6 ?_
  refine lv_topi (fun x_1491 ex_1491 => ?_)
  obtain rfl : x_1491 = 0 := ex_1491
  refine lv_iconst (v := 1) hx hb dX12_refuses_7 (by decide) ?_
  refine lv_iadd hx hb dX12_refuses_8 ?_
  refine lv_topi (fun x_1492 ex_1492 => ?_)
  obtain rfl : x_1492 = 1 := ex_1492.trans (by decide)
  refine va_iast hx hb hK hP hD hS 2 1 rfl rfl (vpi (by decide)) dX12_refuses_9 (fun H locs hP hD hS => ?_)
  obtain ⟨f1493, hP, hD⟩ : ∃ f : Nat → Int32, va_P (dC, dI) vwCl (wd_759 rm km f) H ∧ va_D A (wd_759 rm km f) := ⟨_, hP, hD⟩
  have hP : va_P (dC, dI) vwCl (wd_883 rm km f1493) H := hP
  have hD : va_D A (wd_883 rm km f1493) := hD
  refine lv_iconst (v := (-1)) hx hb dX12_refuses_10 (by decide) ?_
  refine W.widen (k := 0) (n := 0) (Nat.le_of_ble_eq_true rfl) (Nat.le_of_ble_eq_true rfl) ?_
  have hP9 := hP.sub (ws' := (wd_883 rm km f1493)) [0, 1, 2, 3, 4] rfl
  have hD9 := hD.sub (ws' := (wd_883 rm km f1493)) [0, 1, 2, 3, 4] (by decide) rfl
  have hK9 := hK.sub (tys' := [((km 0), .int), ((km 1), .int), ((km 2), .int), ((km 3), .int)]) [0, 1, 2, 3] rfl
  exact W.iret (v := (-1)) hx hb hr (fun t ht hW => ⟨⟨(-1), (), rfl, rfl, f1493, by rw [ht]; exact hP9, va_K.moved hW.alike hK9, hD9⟩, hS.F ht⟩) hS.2.2 dX12_refuses_11
def wd_884 (rm : Nat → Nat) (km : Nat → ClassId) (f1495 : Nat → Int32) : va_W := [((rm 0), .inr (12, [.ref (rm 1), .int 0, .int 0, .int 0, .int 0, .int 0, .int 0, .int 0, .int (-1), .ref (rm 2), .ref (rm 3), .ref (rm 4), .ref (rm 5), .ref (rm 6), .ref (rm 7), .ref (rm 8), .ref (rm 9), .ref (rm 10), .ref (rm 11), .ref (rm 12), .ref (rm 13), .ref (rm 14), .ref (rm 15), .ref (rm 16), .int 0, .int 0, .int 0, .int 0, .int 0, .ref (rm 17), .ref (rm 18), .ref (rm 19), .ref (rm 20), .ref (rm 21), .int 0, .ref (rm 22), .ref (rm 23), .ref (rm 24), .int 0, .int 0, .int 0, .ref (rm 25), .ref (rm 26), .ref (rm 27), .int 0, .ref (rm 28), .ref (rm 29), .int 0, .ref (rm 30), .ref (rm 31), .int 0, .ref (rm 32), .ref (rm 33), .int 0, .ref (rm 34), .ref (rm 35), .int 0, .int 0, .int 0, .ref (rm 36), .ref (rm 37), .int 0, .ref (rm 38), .ref (rm 39), .int 0, .ref (rm 40), .ref (rm 41), .ref (rm 42), .int 0, .int 0, .long 1, .ref (rm 43), .int 0, .int 0, .int (-1), .int 0, .int 0, .int 0, .int 0, .ref (rm 44), .ref (rm 45), .ref (rm 46), .ref (rm 47), .int 0])), ((rm 1), .inl ((km 0), 1600, .inl (fun _ => 0))), ((rm 2), .inl ((km 1), 7, .inl f1495)), ((rm 22), .inl ((km 2), 422, .inl (fun _ => 0))), ((rm 23), .inl ((km 3), 422, .inl (fun _ => 0)))]
def wd_885 (rm : Nat → Nat) (km : Nat → ClassId) (f1498 : Nat → Int32) : va_W := [((rm 0), .inr (12, [.ref (rm 1), .int 0, .int 0, .int 0, .int 0, .int 0, .int 0, .int 0, .int (-1), .ref (rm 2), .ref (rm 3), .ref (rm 4), .ref (rm 5), .ref (rm 6), .ref (rm 7), .ref (rm 8), .ref (rm 9), .ref (rm 10), .ref (rm 11), .ref (rm 12), .ref (rm 13), .ref (rm 14), .ref (rm 15), .ref (rm 16), .int 0, .int 0, .int 0, .int 0, .int 0, .ref (rm 17), .ref (rm 18), .ref (rm 19), .ref (rm 20), .ref (rm 21), .int 0, .ref (rm 22), .ref (rm 23), .ref (rm 24), .int 0, .int 0, .int 0, .ref (rm 25), .ref (rm 26), .ref (rm 27), .int 0, .ref (rm 28), .ref (rm 29), .int 0, .ref (rm 30), .ref (rm 31), .int 0, .ref (rm 32), .ref (rm 33), .int 0, .ref (rm 34), .ref (rm 35), .int 0, .int 0, .int 0, .ref (rm 36), .ref (rm 37), .int 0, .ref (rm 38), .ref (rm 39), .int 0, .ref (rm 40), .ref (rm 41), .ref (rm 42), .int 0, .int 0, .long 1, .ref (rm 43), .int 0, .int 0, .int (-1), .int 0, .int 0, .int 0, .int 0, .ref (rm 44), .ref (rm 45), .ref (rm 46), .ref (rm 47), .int 0])), ((rm 1), .inl ((km 0), 1600, .inl (fun _ => 0))), ((rm 2), .inl ((km 1), 7, .inl f1498)), ((rm 22), .inl ((km 2), 422, .inl (fun _ => 0))), ((rm 23), .inl ((km 3), 422, .inl (fun _ => 0)))]
set_option maxHeartbeats 4000000 in
set_option maxRecDepth 100000 in
theorem mX12_chance (l : Launch) (dC : Nat → ClassId) (dI : Nat → Nat → Nat) (rm : Nat → Nat) (km : Nat → ClassId) (p1 : Int32) (sz : Nat) : Met l yX12_chance (Cond.code yX12_chance cX12_chance 4 (some .int) :: wA) ({ frames := 1, cells := 0, slots := 0, locals := 21 }) (va_Pc [.ref (rm 0), .int p1] (fun U => U.heap.size = sz ∧ va_P (dC, dI) vwCl (wd_758 rm km) U.heap ∧ va_K (dC, dI) vwCl [((km 0), .int), ((km 1), .int), ((km 2), .int), ((km 3), .int)] U ∧ va_D (fun _ => True) (wd_758 rm km))) (va_Qi (fun (r : Int32) (_ : Unit) => r = (-1)) (fun _ t => True) (va_A (wd_758 rm km) sz)) 0 0 (va_A (wd_758 rm km) sz) := by
  refine Met.ofW (cc := cX12_chance) (maxL := 4) (ret := (some .int)) (by decide) rfl ?_
  intro p e s m args below meth c s₁ B hml hv
  obtain ⟨rfl, hsz, hP, hK, hD0⟩ := hv
  have hx := B.exec
  have hb := B.bytes
  have hr := B.returns
  have hts : ∀ w ∈ wA, w.before [.ref (rm 0), .int p1].toArray s = true := fun w h => atoms_spec (ws := Cond.code yX12_chance cX12_chance 4 (some .int) :: wA) B.pre w (List.mem_cons_of_mem _ h)
  have hown : s.vm.findClass RX12 = some m.cls := findClass_of_methodNamed B.named
  have hlocks := B.notSynchronized
  subst hsz
  have hD := hD0.self (sz := s.heap.size)
  generalize hAe : va_A (wd_758 rm km) s.heap.size = A at hD ⊢
  have hA : ∀ q : Nat, s.heap.size ≤ q → A q := fun q h => by rw [← hAe]; exact Or.inr h
  have hS : va_S A s.heap s.heap [] := va_S.rf
  have hl := lv_entry ([.ref (rm 0), .int p1]) (n := 4) (Nat.le_of_ble_eq_true rfl)
  rw [lg_entry_eq]
  generalize (lg_sl ([.ref (rm 0), .int p1]) ++ List.replicate (4 - (lg_sl ([.ref (rm 0), .int p1])).length) Slot.unset).toArray = ls at hl ⊢
  have hl : lv_has ls 4 [(0, .ref (rm 0)), (1, .int p1)] := hl
  refine lv_aload_n hx hb dX12_chance_0 rfl (lv_at hl 0 rfl) ?_
  have hPc := hP.sub (ws' := (wd_758 rm km)) [0, 1, 2, 3, 4] rfl
  have hDc := hD.sub (ws' := (wd_758 rm km)) [0, 1, 2, 3, 4] (by decide) rfl
  have hKc := hK.sub (tys' := [((km 0), .int), ((km 1), .int), ((km 2), .int), ((km 3), .int)]) [0, 1, 2, 3] rfl
  have hFc := va_free (wc := (wd_758 rm km)) hD hS hA [0, 1, 2, 3, 4] rfl
  refine va_calli (va_runV (As := []) (rest := []) ⟨hx, hb, hml, hown, hts⟩ (c130_X12_isStill l dC dI rm km s.heap.size) (cwV 0 hts (gV q_478 q_479 q_480 q_372 q_477) rfl rfl rfl mdv_yX12_isStill ⟨Nat.le_of_ble_eq_true rfl, Nat.le_of_ble_eq_true rfl⟩) ⟨fun a U g mk q => by obtain ⟨q0, q1, qP, qK, qD⟩ := q; exact ⟨q0, q1, qP, va_K.moved (u := U) (U := U.calling g mk a) (Vm.Alike.refl U.vm) qK, qD⟩, va_recv hKc hPc (ci := 12) (q0 := 0) rfl rfl, fun U hU hW => ⟨rfl, by rw [hU], by rw [hU]; exact hPc, va_K.moved hW.alike hKc, hDc.weaken (fun _ _ _ _ => trivial)⟩⟩ rfl rfl hl.1 rfl (lv_room (Nat.le_of_ble_eq_true rfl)) dX12_chance_1 ⟨Nat.le_of_ble_eq_true rfl, Nat.le_of_ble_eq_true rfl⟩) hS (fun q _ h => hFc q h) hFc (fun r_1496 u t H1 locs ht hvm hw hB hz1 hk1 hS => ?_)
  obtain ⟨hP1, hK1, hD1⟩ := hB
  rw [ht] at hP1
  have hK1 := va_K.moved hvm.symm hK1
  obtain ⟨hP, hD⟩ := va_join (wr := []) (w1 := (wd_758 rm km)) hP hD [0, 1, 2, 3, 4] [] rfl rfl (by decide) (by decide) hk1 hFc hP1 hD1
  generalize H1 = H at hP hS ⊢
  have hP : va_P (dC, dI) vwCl (wd_758 rm km) H := hP
  have hD : va_D A (wd_758 rm km) := hD
  obtain rfl : r_1496 = 0 := hw
  refine lv_if_eq (tgt := 26) hx hb dX12_chance_4 (by decide) (fun c_0 => ?_) (fun c_0 => absurd c_0 (by decide))
  refine lv_aload_n hx hb dX12_chance_26 rfl (lv_at hl 0 rfl) ?_
  refine lv_iconst (v := 4) hx hb dX12_chance_27 (by decide) ?_
  have hPc := hP.sub (ws' := (wd_758 rm km)) [0, 1, 2, 3, 4] rfl
  have hDc := hD.sub (ws' := (wd_758 rm km)) [0, 1, 2, 3, 4] (by decide) rfl
  have hKc := hK.sub (tys' := [((km 0), .int), ((km 1), .int), ((km 2), .int), ((km 3), .int)]) [0, 1, 2, 3] rfl
  have hFc := va_free (wc := (wd_758 rm km)) hD hS hA [0, 1, 2, 3, 4] rfl
  refine va_calli (va_runV (As := [.int 4]) (rest := []) ⟨hx, hb, hml, hown, hts⟩ (c139_X12_refuses l dC dI rm km H.size) (cwV 1 hts (gV q_426 q_427 q_428 q_372 q_425) rfl rfl rfl mdv_yX12_refuses ⟨Nat.le_of_ble_eq_true rfl, Nat.le_of_ble_eq_true rfl⟩) ⟨fun a U g mk q => by obtain ⟨q0, q1, qP, qK, qD⟩ := q; exact ⟨q0, q1, qP, va_K.moved (u := U) (U := U.calling g mk a) (Vm.Alike.refl U.vm) qK, qD⟩, va_recv hKc hPc (ci := 12) (q0 := 0) rfl rfl, fun U hU hW => ⟨rfl, by rw [hU], by rw [hU]; exact hPc, va_K.moved hW.alike hKc, hDc.weaken (fun _ _ _ _ => trivial)⟩⟩ rfl rfl hl.1 rfl (lv_room (Nat.le_of_ble_eq_true rfl)) dX12_chance_28 ⟨Nat.le_of_ble_eq_true rfl, Nat.le_of_ble_eq_true rfl⟩) hS (fun q _ h => hFc q h) hFc (fun r_1497 u t H1 locs ht hvm hw hB hz1 hk1 hS => ?_)
  obtain ⟨f1498, hP1, hK1, hD1⟩ := hB
  rw [ht] at hP1
  have hK1 := va_K.moved hvm.symm hK1
  obtain ⟨hP, hD⟩ := va_join (wr := []) (w1 := (wd_885 rm km f1498)) hP hD [0, 1, 2, 3, 4] [] rfl rfl (by decide) (by decide) hk1 hFc hP1 hD1
  have hK := (hK.sub (tys' := []) [] rfl).app hK1
  have hK : va_K (dC, dI) vwCl [((km 0), .int), ((km 1), .int), ((km 2), .int), ((km 3), .int)] s := hK
  generalize H1 = H at hP hS ⊢
  have hP : va_P (dC, dI) vwCl (wd_885 rm km f1498) H := hP
  have hD : va_D A (wd_885 rm km f1498) := hD
  obtain rfl : r_1497 = (-1) := hw
  refine W.widen (k := 0) (n := 0) (Nat.le_of_ble_eq_true rfl) (Nat.le_of_ble_eq_true rfl) ?_
  exact W.iret (v := (-1)) hx hb hr (fun t ht hW => ⟨⟨(-1), (), rfl, rfl, trivial⟩, hS.F ht⟩) hS.2.2 dX12_chance_31
def wd_886 (rm : Nat → Nat) (km : Nat → ClassId) (f1501 : Nat → Int32) : va_W := [((rm 0), .inr (12, [.ref (rm 1), .int 0, .int 0, .int 0, .int 0, .int 0, .int 0, .int 0, .int (-1), .ref (rm 2), .ref (rm 3), .ref (rm 4), .ref (rm 5), .ref (rm 6), .ref (rm 7), .ref (rm 8), .ref (rm 9), .ref (rm 10), .ref (rm 11), .ref (rm 12), .ref (rm 13), .ref (rm 14), .ref (rm 15), .ref (rm 16), .int 0, .int 0, .int 0, .int 0, .int 0, .ref (rm 17), .ref (rm 18), .ref (rm 19), .ref (rm 20), .ref (rm 21), .int 0, .ref (rm 22), .ref (rm 23), .ref (rm 24), .int 0, .int 0, .int 0, .ref (rm 25), .ref (rm 26), .ref (rm 27), .int 0, .ref (rm 28), .ref (rm 29), .int 0, .ref (rm 30), .ref (rm 31), .int 0, .ref (rm 32), .ref (rm 33), .int 0, .ref (rm 34), .ref (rm 35), .int 0, .int 0, .int 0, .ref (rm 36), .ref (rm 37), .int 0, .ref (rm 38), .ref (rm 39), .int 0, .ref (rm 40), .ref (rm 41), .ref (rm 42), .int 0, .int 0, .long 1, .ref (rm 43), .int 0, .int 0, .int (-1), .int 0, .int 0, .int 0, .int 0, .ref (rm 44), .ref (rm 45), .ref (rm 46), .ref (rm 47), .int 0])), ((rm 1), .inl ((km 0), 1600, .inl (fun _ => 0))), ((rm 2), .inl ((km 1), 7, .inl f1501)), ((rm 22), .inl ((km 2), 422, .inl (fun _ => 0))), ((rm 23), .inl ((km 3), 422, .inl (fun _ => 0)))]
def wd_887 (rm : Nat → Nat) (km : Nat → ClassId) (f1504 : Nat → Int32) : va_W := [((rm 0), .inr (12, [.ref (rm 1), .int 0, .int 0, .int 0, .int 0, .int 0, .int 0, .int 0, .int (-1), .ref (rm 2), .ref (rm 3), .ref (rm 4), .ref (rm 5), .ref (rm 6), .ref (rm 7), .ref (rm 8), .ref (rm 9), .ref (rm 10), .ref (rm 11), .ref (rm 12), .ref (rm 13), .ref (rm 14), .ref (rm 15), .ref (rm 16), .int 0, .int 0, .int 0, .int 0, .int 0, .ref (rm 17), .ref (rm 18), .ref (rm 19), .ref (rm 20), .ref (rm 21), .int 0, .ref (rm 22), .ref (rm 23), .ref (rm 24), .int 0, .int 0, .int 0, .ref (rm 25), .ref (rm 26), .ref (rm 27), .int 0, .ref (rm 28), .ref (rm 29), .int 0, .ref (rm 30), .ref (rm 31), .int 0, .ref (rm 32), .ref (rm 33), .int 0, .ref (rm 34), .ref (rm 35), .int 0, .int 0, .int 0, .ref (rm 36), .ref (rm 37), .int 0, .ref (rm 38), .ref (rm 39), .int 0, .ref (rm 40), .ref (rm 41), .ref (rm 42), .int 0, .int 0, .long 1, .ref (rm 43), .int 0, .int 0, .int (-1), .int 0, .int 0, .int 0, .int 0, .ref (rm 44), .ref (rm 45), .ref (rm 46), .ref (rm 47), .int 0])), ((rm 1), .inl ((km 0), 1600, .inl (fun _ => 0))), ((rm 2), .inl ((km 1), 7, .inl f1504)), ((rm 22), .inl ((km 2), 422, .inl (fun _ => 0))), ((rm 23), .inl ((km 3), 422, .inl (fun _ => 0)))]
set_option maxHeartbeats 4000000 in
set_option maxRecDepth 100000 in
theorem c141_X12_isRefused (l : Launch) (dC : Nat → ClassId) (dI : Nat → Nat → Nat) (rm : Nat → Nat) (km : Nat → ClassId) (sz : Nat) : Met l yX12_isRefused (Cond.code yX12_isRefused cX12_isRefused 2 (some .boolean) :: wA) ({ frames := 0, cells := 0, slots := 0, locals := 0 }) (va_Pc [.ref (rm 0), .int 5] (fun U => U.heap.size = sz ∧ va_P (dC, dI) vwCl (wd_758 rm km) U.heap ∧ va_K (dC, dI) vwCl [((km 0), .int), ((km 1), .int), ((km 2), .int), ((km 3), .int)] U ∧ va_D (fun _ => True) (wd_758 rm km))) (va_Qi (fun (r : Int32) (_ : Unit) => r = 0) (fun _ t => ∃ f1504 : Nat → Int32, va_P (dC, dI) vwCl (wd_887 rm km f1504) t.heap ∧ va_K (dC, dI) vwCl [((km 0), .int), ((km 1), .int), ((km 2), .int), ((km 3), .int)] t ∧ va_D (va_A (wd_758 rm km) sz) (wd_887 rm km f1504)) (va_A (wd_758 rm km) sz)) 0 0 (va_A (wd_758 rm km) sz) := by
  refine Met.ofW (cc := cX12_isRefused) (maxL := 2) (ret := (some .boolean)) (by decide) rfl ?_
  intro p e s m args below meth c s₁ B hml hv
  obtain ⟨rfl, hsz, hP, hK, hD0⟩ := hv
  have hx := B.exec
  have hb := B.bytes
  have hr := B.returns
  have hts : ∀ w ∈ wA, w.before [.ref (rm 0), .int 5].toArray s = true := fun w h => atoms_spec (ws := Cond.code yX12_isRefused cX12_isRefused 2 (some .boolean) :: wA) B.pre w (List.mem_cons_of_mem _ h)
  have hown : s.vm.findClass RX12 = some m.cls := findClass_of_methodNamed B.named
  have hlocks := B.notSynchronized
  subst hsz
  have hD := hD0.self (sz := s.heap.size)
  generalize hAe : va_A (wd_758 rm km) s.heap.size = A at hD ⊢
  have hA : ∀ q : Nat, s.heap.size ≤ q → A q := fun q h => by rw [← hAe]; exact Or.inr h
  have hS : va_S A s.heap s.heap [] := va_S.rf
  have hl := lv_entry ([.ref (rm 0), .int 5]) (n := 2) (Nat.le_of_ble_eq_true rfl)
  rw [lg_entry_eq]
  generalize (lg_sl ([.ref (rm 0), .int 5]) ++ List.replicate (2 - (lg_sl ([.ref (rm 0), .int 5])).length) Slot.unset).toArray = ls at hl ⊢
  have hl : lv_has ls 2 [(0, .ref (rm 0)), (1, .int 5)] := hl
  refine lv_aload_n hx hb dX12_isRefused_0 rfl (lv_at hl 0 rfl) ?_
  refine va_get (D := (dC, dI)) (ci := 12) (v := .ref (rm 2)) (C := RX12) (T := TX12) (N := 84) hx hb hts i_X12 hown hK hP 0 rfl rfl 9 (by decide) (hts _ q_189) (fun _ h9 => h9) rfl dX12_isRefused_1 ?_
  refine lv_iload_n hx hb dX12_isRefused_4 rfl (lv_at hl 1 rfl) ?_
  refine lv_dup2_11 hx hb dX12_isRefused_5 rfl rfl ?_
  refine va_iald hx hb hK hP 2 1 rfl rfl (vpi (by decide)) dX12_isRefused_6 ?_
  refine lv_topi (fun x_1502 ex_1502 => ?_)
  obtain rfl : x_1502 = 0 := ex_1502
  refine lv_iconst (v := 1) hx hb dX12_isRefused_7 (by decide) ?_
  refine lv_iadd hx hb dX12_isRefused_8 ?_
  refine lv_topi (fun x_1503 ex_1503 => ?_)
  obtain rfl : x_1503 = 1 := ex_1503.trans (by decide)
  refine va_iast hx hb hK hP hD hS 2 1 rfl rfl (vpi (by decide)) dX12_isRefused_9 (fun H locs hP hD hS => ?_)
  obtain ⟨f1504, hP, hD⟩ : ∃ f : Nat → Int32, va_P (dC, dI) vwCl (wd_759 rm km f) H ∧ va_D A (wd_759 rm km f) := ⟨_, hP, hD⟩
  have hP : va_P (dC, dI) vwCl (wd_887 rm km f1504) H := hP
  have hD : va_D A (wd_887 rm km f1504) := hD
  refine lv_iconst (v := 0) hx hb dX12_isRefused_10 (by decide) ?_
  refine W.widen (k := 0) (n := 0) (Nat.le_of_ble_eq_true rfl) (Nat.le_of_ble_eq_true rfl) ?_
  have hP9 := hP.sub (ws' := (wd_887 rm km f1504)) [0, 1, 2, 3, 4] rfl
  have hD9 := hD.sub (ws' := (wd_887 rm km f1504)) [0, 1, 2, 3, 4] (by decide) rfl
  have hK9 := hK.sub (tys' := [((km 0), .int), ((km 1), .int), ((km 2), .int), ((km 3), .int)]) [0, 1, 2, 3] rfl
  exact W.zret (v := 0) hx hb hr rfl (fun t ht hW => ⟨⟨0, (), rfl, rfl, f1504, by rw [ht]; exact hP9, va_K.moved hW.alike hK9, hD9⟩, hS.F ht⟩) hS.2.2 dX12_isRefused_11
def wd_888 (rm : Nat → Nat) (km : Nat → ClassId) (f1506 : Nat → Int32) : va_W := [((rm 0), .inr (12, [.ref (rm 1), .int 0, .int 0, .int 0, .int 0, .int 0, .int 0, .int 0, .int (-1), .ref (rm 2), .ref (rm 3), .ref (rm 4), .ref (rm 5), .ref (rm 6), .ref (rm 7), .ref (rm 8), .ref (rm 9), .ref (rm 10), .ref (rm 11), .ref (rm 12), .ref (rm 13), .ref (rm 14), .ref (rm 15), .ref (rm 16), .int 0, .int 0, .int 0, .int 0, .int 0, .ref (rm 17), .ref (rm 18), .ref (rm 19), .ref (rm 20), .ref (rm 21), .int 0, .ref (rm 22), .ref (rm 23), .ref (rm 24), .int 0, .int 0, .int 0, .ref (rm 25), .ref (rm 26), .ref (rm 27), .int 0, .ref (rm 28), .ref (rm 29), .int 0, .ref (rm 30), .ref (rm 31), .int 0, .ref (rm 32), .ref (rm 33), .int 0, .ref (rm 34), .ref (rm 35), .int 0, .int 0, .int 0, .ref (rm 36), .ref (rm 37), .int 0, .ref (rm 38), .ref (rm 39), .int 0, .ref (rm 40), .ref (rm 41), .ref (rm 42), .int 0, .int 0, .long 1, .ref (rm 43), .int 0, .int 0, .int (-1), .int 0, .int 0, .int 0, .int 0, .ref (rm 44), .ref (rm 45), .ref (rm 46), .ref (rm 47), .int 0])), ((rm 1), .inl ((km 0), 1600, .inl (fun _ => 0))), ((rm 2), .inl ((km 1), 7, .inl f1506)), ((rm 22), .inl ((km 2), 422, .inl (fun _ => 0))), ((rm 23), .inl ((km 3), 422, .inl (fun _ => 0)))]
def wd_889 (rm : Nat → Nat) (km : Nat → ClassId) (f1508 : Nat → Int32) : va_W := [((rm 0), .inr (12, [.ref (rm 1), .int 0, .int 0, .int 0, .int 0, .int 0, .int 0, .int 0, .int (-1), .ref (rm 2), .ref (rm 3), .ref (rm 4), .ref (rm 5), .ref (rm 6), .ref (rm 7), .ref (rm 8), .ref (rm 9), .ref (rm 10), .ref (rm 11), .ref (rm 12), .ref (rm 13), .ref (rm 14), .ref (rm 15), .ref (rm 16), .int 0, .int 0, .int 0, .int 0, .int 0, .ref (rm 17), .ref (rm 18), .ref (rm 19), .ref (rm 20), .ref (rm 21), .int 0, .ref (rm 22), .ref (rm 23), .ref (rm 24), .int 0, .int 0, .int 0, .ref (rm 25), .ref (rm 26), .ref (rm 27), .int 0, .ref (rm 28), .ref (rm 29), .int 0, .ref (rm 30), .ref (rm 31), .int 0, .ref (rm 32), .ref (rm 33), .int 0, .ref (rm 34), .ref (rm 35), .int 0, .int 0, .int 0, .ref (rm 36), .ref (rm 37), .int 0, .ref (rm 38), .ref (rm 39), .int 0, .ref (rm 40), .ref (rm 41), .ref (rm 42), .int 0, .int 0, .long 1, .ref (rm 43), .int 0, .int 0, .int (-1), .int 0, .int 0, .int 0, .int 0, .ref (rm 44), .ref (rm 45), .ref (rm 46), .ref (rm 47), .int 0])), ((rm 1), .inl ((km 0), 1600, .inl (fun _ => 0))), ((rm 2), .inl ((km 1), 7, .inl f1508)), ((rm 22), .inl ((km 2), 422, .inl (fun _ => 0))), ((rm 23), .inl ((km 3), 422, .inl (fun _ => 0)))]
set_option maxHeartbeats 4000000 in
set_option maxRecDepth 100000 in
theorem mX12_undo (l : Launch) (dC : Nat → ClassId) (dI : Nat → Nat → Nat) (rm : Nat → Nat) (km : Nat → ClassId) (sz : Nat) : Met l yX12_undo (Cond.code yX12_undo cX12_undo 2 (some .boolean) :: wA) ({ frames := 1, cells := 0, slots := 0, locals := 21 }) (va_Pc [.ref (rm 0)] (fun U => U.heap.size = sz ∧ va_P (dC, dI) vwCl (wd_758 rm km) U.heap ∧ va_K (dC, dI) vwCl [((km 0), .int), ((km 1), .int), ((km 2), .int), ((km 3), .int)] U ∧ va_D (fun _ => True) (wd_758 rm km))) (va_Qi (fun (r : Int32) (_ : Unit) => r = 0) (fun _ t => True) (va_A (wd_758 rm km) sz)) 0 0 (va_A (wd_758 rm km) sz) := by
  refine Met.ofW (cc := cX12_undo) (maxL := 2) (ret := (some .boolean)) (by decide) rfl ?_
  intro p e s m args below meth c s₁ B hml hv
  obtain ⟨rfl, hsz, hP, hK, hD0⟩ := hv
  have hx := B.exec
  have hb := B.bytes
  have hr := B.returns
  have hts : ∀ w ∈ wA, w.before [.ref (rm 0)].toArray s = true := fun w h => atoms_spec (ws := Cond.code yX12_undo cX12_undo 2 (some .boolean) :: wA) B.pre w (List.mem_cons_of_mem _ h)
  have hown : s.vm.findClass RX12 = some m.cls := findClass_of_methodNamed B.named
  have hlocks := B.notSynchronized
  subst hsz
  have hD := hD0.self (sz := s.heap.size)
  generalize hAe : va_A (wd_758 rm km) s.heap.size = A at hD ⊢
  have hA : ∀ q : Nat, s.heap.size ≤ q → A q := fun q h => by rw [← hAe]; exact Or.inr h
  have hS : va_S A s.heap s.heap [] := va_S.rf
  have hl := lv_entry ([.ref (rm 0)]) (n := 2) (Nat.le_of_ble_eq_true rfl)
  rw [lg_entry_eq]
  generalize (lg_sl ([.ref (rm 0)]) ++ List.replicate (2 - (lg_sl ([.ref (rm 0)])).length) Slot.unset).toArray = ls at hl ⊢
  have hl : lv_has ls 2 [(0, .ref (rm 0))] := hl
  refine lv_aload_n hx hb dX12_undo_0 rfl (lv_at hl 0 rfl) ?_
  refine va_get (D := (dC, dI)) (ci := 12) (v := .int 0) (C := RX12) (T := TX12) (N := 84) hx hb hts i_X12 hown hK hP 0 rfl rfl 68 (by decide) (hts _ q_439) (fun _ h9 => h9) rfl dX12_undo_1 ?_
  refine lv_if_ne (tgt := 13) hx hb dX12_undo_4 (by decide) (fun c_0 => absurd c_0 (by decide)) (fun c_0 => ?_)
  refine lv_aload_n hx hb dX12_undo_7 rfl (lv_at hl 0 rfl) ?_
  refine lv_iconst (v := 5) hx hb dX12_undo_8 (by decide) ?_
  have hPc := hP.sub (ws' := (wd_758 rm km)) [0, 1, 2, 3, 4] rfl
  have hDc := hD.sub (ws' := (wd_758 rm km)) [0, 1, 2, 3, 4] (by decide) rfl
  have hKc := hK.sub (tys' := [((km 0), .int), ((km 1), .int), ((km 2), .int), ((km 3), .int)]) [0, 1, 2, 3] rfl
  have hFc := va_free (wc := (wd_758 rm km)) hD hS hA [0, 1, 2, 3, 4] rfl
  refine va_calli (va_runV (As := [.int 5]) (rest := []) ⟨hx, hb, hml, hown, hts⟩ (c141_X12_isRefused l dC dI rm km s.heap.size) (cwV 1 hts (gV q_369 q_370 q_371 q_372 q_368) rfl rfl rfl mdv_yX12_isRefused ⟨Nat.le_of_ble_eq_true rfl, Nat.le_of_ble_eq_true rfl⟩) ⟨fun a U g mk q => by obtain ⟨q0, q1, qP, qK, qD⟩ := q; exact ⟨q0, q1, qP, va_K.moved (u := U) (U := U.calling g mk a) (Vm.Alike.refl U.vm) qK, qD⟩, va_recv hKc hPc (ci := 12) (q0 := 0) rfl rfl, fun U hU hW => ⟨rfl, by rw [hU], by rw [hU]; exact hPc, va_K.moved hW.alike hKc, hDc.weaken (fun _ _ _ _ => trivial)⟩⟩ rfl rfl hl.1 rfl (lv_room (Nat.le_of_ble_eq_true rfl)) dX12_undo_9 ⟨Nat.le_of_ble_eq_true rfl, Nat.le_of_ble_eq_true rfl⟩) hS (fun q _ h => hFc q h) hFc (fun r_1507 u t H1 locs ht hvm hw hB hz1 hk1 hS => ?_)
  obtain ⟨f1508, hP1, hK1, hD1⟩ := hB
  rw [ht] at hP1
  have hK1 := va_K.moved hvm.symm hK1
  obtain ⟨hP, hD⟩ := va_join (wr := []) (w1 := (wd_889 rm km f1508)) hP hD [0, 1, 2, 3, 4] [] rfl rfl (by decide) (by decide) hk1 hFc hP1 hD1
  have hK := (hK.sub (tys' := []) [] rfl).app hK1
  have hK : va_K (dC, dI) vwCl [((km 0), .int), ((km 1), .int), ((km 2), .int), ((km 3), .int)] s := hK
  generalize H1 = H at hP hS ⊢
  have hP : va_P (dC, dI) vwCl (wd_889 rm km f1508) H := hP
  have hD : va_D A (wd_889 rm km f1508) := hD
  obtain rfl : r_1507 = 0 := hw
  refine W.widen (k := 0) (n := 0) (Nat.le_of_ble_eq_true rfl) (Nat.le_of_ble_eq_true rfl) ?_
  exact W.zret (v := 0) hx hb hr rfl (fun t ht hW => ⟨⟨0, (), rfl, rfl, trivial⟩, hS.F ht⟩) hS.2.2 dX12_undo_12
def wd_890 (rm : Nat → Nat) (p1 : Int32) (km : Nat → ClassId) : va_W := [((rm 0), .inr (12, [.ref (rm 1), .int 0, .int 0, .int 0, .int 0, .int 0, .int 0, .int 0, .int (-1), .ref (rm 2), .ref (rm 3), .ref (rm 4), .ref (rm 5), .ref (rm 6), .ref (rm 7), .ref (rm 8), .ref (rm 9), .ref (rm 10), .ref (rm 11), .ref (rm 12), .ref (rm 13), .ref (rm 14), .ref (rm 15), .ref (rm 16), .int 0, .int 0, .int 0, .int 0, .int 0, .ref (rm 17), .ref (rm 18), .ref (rm 19), .ref (rm 20), .ref (rm 21), .int 0, .ref (rm 22), .ref (rm 23), .ref (rm 24), .int 0, .int 0, .int 0, .ref (rm 25), .ref (rm 26), .ref (rm 27), .int 0, .ref (rm 28), .ref (rm 29), .int 0, .ref (rm 30), .ref (rm 31), .int 0, .ref (rm 32), .ref (rm 33), .int 0, .ref (rm 34), .ref (rm 35), .int 0, .int 0, .int 0, .ref (rm 36), .ref (rm 37), .int 0, .ref (rm 38), .ref (rm 39), .int 0, .ref (rm 40), .ref (rm 41), .ref (rm 42), .int 0, .int 0, .long p1.toInt64, .ref (rm 43), .int 0, .int 0, .int (-1), .int 0, .int 0, .int 0, .int 0, .ref (rm 44), .ref (rm 45), .ref (rm 46), .ref (rm 47), .int 0])), ((rm 1), .inl ((km 0), 1600, .inl (fun _ => 0))), ((rm 2), .inl ((km 1), 7, .inl (fun _ => 0))), ((rm 22), .inl ((km 2), 422, .inl (fun _ => 0))), ((rm 23), .inl ((km 3), 422, .inl (fun _ => 0)))]
def wd_891 (rm : Nat → Nat) (km : Nat → ClassId) (f1512 : Nat → Int32) : va_W := [((rm 0), .inr (12, [.ref (rm 1), .int 0, .int 0, .int 0, .int 0, .int 0, .int 0, .int 0, .int (-1), .ref (rm 2), .ref (rm 3), .ref (rm 4), .ref (rm 5), .ref (rm 6), .ref (rm 7), .ref (rm 8), .ref (rm 9), .ref (rm 10), .ref (rm 11), .ref (rm 12), .ref (rm 13), .ref (rm 14), .ref (rm 15), .ref (rm 16), .int 0, .int 0, .int 0, .int 0, .int 0, .ref (rm 17), .ref (rm 18), .ref (rm 19), .ref (rm 20), .ref (rm 21), .int 0, .ref (rm 22), .ref (rm 23), .ref (rm 24), .int 0, .int 0, .int 0, .ref (rm 25), .ref (rm 26), .ref (rm 27), .int 0, .ref (rm 28), .ref (rm 29), .int 0, .ref (rm 30), .ref (rm 31), .int 0, .ref (rm 32), .ref (rm 33), .int 0, .ref (rm 34), .ref (rm 35), .int 0, .int 0, .int 0, .ref (rm 36), .ref (rm 37), .int 0, .ref (rm 38), .ref (rm 39), .int 0, .ref (rm 40), .ref (rm 41), .ref (rm 42), .int 0, .int 0, .long 1, .ref (rm 43), .int 0, .int 0, .int (-1), .int 0, .int 0, .int 0, .int 0, .ref (rm 44), .ref (rm 45), .ref (rm 46), .ref (rm 47), .int 0])), ((rm 1), .inl ((km 0), 1600, .inl (fun _ => 0))), ((rm 2), .inl ((km 1), 7, .inl f1512)), ((rm 22), .inl ((km 2), 422, .inl (fun _ => 0))), ((rm 23), .inl ((km 3), 422, .inl (fun _ => 0)))]
def wd_892 (rm : Nat → Nat) (km : Nat → ClassId) (f1515 : Nat → Int32) : va_W := [((rm 0), .inr (12, [.ref (rm 1), .int 0, .int 0, .int 0, .int 0, .int 0, .int 0, .int 0, .int (-1), .ref (rm 2), .ref (rm 3), .ref (rm 4), .ref (rm 5), .ref (rm 6), .ref (rm 7), .ref (rm 8), .ref (rm 9), .ref (rm 10), .ref (rm 11), .ref (rm 12), .ref (rm 13), .ref (rm 14), .ref (rm 15), .ref (rm 16), .int 0, .int 0, .int 0, .int 0, .int 0, .ref (rm 17), .ref (rm 18), .ref (rm 19), .ref (rm 20), .ref (rm 21), .int 0, .ref (rm 22), .ref (rm 23), .ref (rm 24), .int 0, .int 0, .int 0, .ref (rm 25), .ref (rm 26), .ref (rm 27), .int 0, .ref (rm 28), .ref (rm 29), .int 0, .ref (rm 30), .ref (rm 31), .int 0, .ref (rm 32), .ref (rm 33), .int 0, .ref (rm 34), .ref (rm 35), .int 0, .int 0, .int 0, .ref (rm 36), .ref (rm 37), .int 0, .ref (rm 38), .ref (rm 39), .int 0, .ref (rm 40), .ref (rm 41), .ref (rm 42), .int 0, .int 0, .long 1, .ref (rm 43), .int 0, .int 0, .int (-1), .int 0, .int 0, .int 0, .int 0, .ref (rm 44), .ref (rm 45), .ref (rm 46), .ref (rm 47), .int 0])), ((rm 1), .inl ((km 0), 1600, .inl (fun _ => 0))), ((rm 2), .inl ((km 1), 7, .inl f1515)), ((rm 22), .inl ((km 2), 422, .inl (fun _ => 0))), ((rm 23), .inl ((km 3), 422, .inl (fun _ => 0)))]
set_option maxHeartbeats 4000000 in
set_option maxRecDepth 100000 in
theorem c143_X12_isRefused (l : Launch) (dC : Nat → ClassId) (dI : Nat → Nat → Nat) (rm : Nat → Nat) (km : Nat → ClassId) (sz : Nat) : Met l yX12_isRefused (Cond.code yX12_isRefused cX12_isRefused 2 (some .boolean) :: wA) ({ frames := 0, cells := 0, slots := 0, locals := 0 }) (va_Pc [.ref (rm 0), .int 6] (fun U => U.heap.size = sz ∧ va_P (dC, dI) vwCl (wd_758 rm km) U.heap ∧ va_K (dC, dI) vwCl [((km 0), .int), ((km 1), .int), ((km 2), .int), ((km 3), .int)] U ∧ va_D (fun _ => True) (wd_758 rm km))) (va_Qi (fun (r : Int32) (_ : Unit) => r = 0) (fun _ t => ∃ f1515 : Nat → Int32, va_P (dC, dI) vwCl (wd_892 rm km f1515) t.heap ∧ va_K (dC, dI) vwCl [((km 0), .int), ((km 1), .int), ((km 2), .int), ((km 3), .int)] t ∧ va_D (va_A (wd_758 rm km) sz) (wd_892 rm km f1515)) (va_A (wd_758 rm km) sz)) 0 0 (va_A (wd_758 rm km) sz) := by
  refine Met.ofW (cc := cX12_isRefused) (maxL := 2) (ret := (some .boolean)) (by decide) rfl ?_
  intro p e s m args below meth c s₁ B hml hv
  obtain ⟨rfl, hsz, hP, hK, hD0⟩ := hv
  have hx := B.exec
  have hb := B.bytes
  have hr := B.returns
  have hts : ∀ w ∈ wA, w.before [.ref (rm 0), .int 6].toArray s = true := fun w h => atoms_spec (ws := Cond.code yX12_isRefused cX12_isRefused 2 (some .boolean) :: wA) B.pre w (List.mem_cons_of_mem _ h)
  have hown : s.vm.findClass RX12 = some m.cls := findClass_of_methodNamed B.named
  have hlocks := B.notSynchronized
  subst hsz
  have hD := hD0.self (sz := s.heap.size)
  generalize hAe : va_A (wd_758 rm km) s.heap.size = A at hD ⊢
  have hA : ∀ q : Nat, s.heap.size ≤ q → A q := fun q h => by rw [← hAe]; exact Or.inr h
  have hS : va_S A s.heap s.heap [] := va_S.rf
  have hl := lv_entry ([.ref (rm 0), .int 6]) (n := 2) (Nat.le_of_ble_eq_true rfl)
  rw [lg_entry_eq]
  generalize (lg_sl ([.ref (rm 0), .int 6]) ++ List.replicate (2 - (lg_sl ([.ref (rm 0), .int 6])).length) Slot.unset).toArray = ls at hl ⊢
  have hl : lv_has ls 2 [(0, .ref (rm 0)), (1, .int 6)] := hl
  refine lv_aload_n hx hb dX12_isRefused_0 rfl (lv_at hl 0 rfl) ?_
  refine va_get (D := (dC, dI)) (ci := 12) (v := .ref (rm 2)) (C := RX12) (T := TX12) (N := 84) hx hb hts i_X12 hown hK hP 0 rfl rfl 9 (by decide) (hts _ q_189) (fun _ h9 => h9) rfl dX12_isRefused_1 ?_
  refine lv_iload_n hx hb dX12_isRefused_4 rfl (lv_at hl 1 rfl) ?_
  refine lv_dup2_11 hx hb dX12_isRefused_5 rfl rfl ?_
  refine va_iald hx hb hK hP 2 1 rfl rfl (vpi (by decide)) dX12_isRefused_6 ?_
  refine lv_topi (fun x_1513 ex_1513 => ?_)
  obtain rfl : x_1513 = 0 := ex_1513
  refine lv_iconst (v := 1) hx hb dX12_isRefused_7 (by decide) ?_
  refine lv_iadd hx hb dX12_isRefused_8 ?_
  refine lv_topi (fun x_1514 ex_1514 => ?_)
  obtain rfl : x_1514 = 1 := ex_1514.trans (by decide)
  refine va_iast hx hb hK hP hD hS 2 1 rfl rfl (vpi (by decide)) dX12_isRefused_9 (fun H locs hP hD hS => ?_)
  obtain ⟨f1515, hP, hD⟩ : ∃ f : Nat → Int32, va_P (dC, dI) vwCl (wd_759 rm km f) H ∧ va_D A (wd_759 rm km f) := ⟨_, hP, hD⟩
  have hP : va_P (dC, dI) vwCl (wd_892 rm km f1515) H := hP
  have hD : va_D A (wd_892 rm km f1515) := hD
  refine lv_iconst (v := 0) hx hb dX12_isRefused_10 (by decide) ?_
  refine W.widen (k := 0) (n := 0) (Nat.le_of_ble_eq_true rfl) (Nat.le_of_ble_eq_true rfl) ?_
  have hP9 := hP.sub (ws' := (wd_892 rm km f1515)) [0, 1, 2, 3, 4] rfl
  have hD9 := hD.sub (ws' := (wd_892 rm km f1515)) [0, 1, 2, 3, 4] (by decide) rfl
  have hK9 := hK.sub (tys' := [((km 0), .int), ((km 1), .int), ((km 2), .int), ((km 3), .int)]) [0, 1, 2, 3] rfl
  exact W.zret (v := 0) hx hb hr rfl (fun t ht hW => ⟨⟨0, (), rfl, rfl, f1515, by rw [ht]; exact hP9, va_K.moved hW.alike hK9, hD9⟩, hS.F ht⟩) hS.2.2 dX12_isRefused_11
def wd_893 (rm : Nat → Nat) (km : Nat → ClassId) (f1517 : Nat → Int32) : va_W := [((rm 0), .inr (12, [.ref (rm 1), .int 0, .int 0, .int 0, .int 0, .int 0, .int 0, .int 0, .int (-1), .ref (rm 2), .ref (rm 3), .ref (rm 4), .ref (rm 5), .ref (rm 6), .ref (rm 7), .ref (rm 8), .ref (rm 9), .ref (rm 10), .ref (rm 11), .ref (rm 12), .ref (rm 13), .ref (rm 14), .ref (rm 15), .ref (rm 16), .int 0, .int 0, .int 0, .int 0, .int 0, .ref (rm 17), .ref (rm 18), .ref (rm 19), .ref (rm 20), .ref (rm 21), .int 0, .ref (rm 22), .ref (rm 23), .ref (rm 24), .int 0, .int 0, .int 0, .ref (rm 25), .ref (rm 26), .ref (rm 27), .int 0, .ref (rm 28), .ref (rm 29), .int 0, .ref (rm 30), .ref (rm 31), .int 0, .ref (rm 32), .ref (rm 33), .int 0, .ref (rm 34), .ref (rm 35), .int 0, .int 0, .int 0, .ref (rm 36), .ref (rm 37), .int 0, .ref (rm 38), .ref (rm 39), .int 0, .ref (rm 40), .ref (rm 41), .ref (rm 42), .int 0, .int 0, .long 1, .ref (rm 43), .int 0, .int 0, .int (-1), .int 0, .int 0, .int 0, .int 0, .ref (rm 44), .ref (rm 45), .ref (rm 46), .ref (rm 47), .int 0])), ((rm 1), .inl ((km 0), 1600, .inl (fun _ => 0))), ((rm 2), .inl ((km 1), 7, .inl f1517)), ((rm 22), .inl ((km 2), 422, .inl (fun _ => 0))), ((rm 23), .inl ((km 3), 422, .inl (fun _ => 0)))]
def wd_894 (rm : Nat → Nat) (km : Nat → ClassId) (f1520 : Nat → Int32) : va_W := [((rm 0), .inr (12, [.ref (rm 1), .int 0, .int 0, .int 0, .int 0, .int 0, .int 0, .int 0, .int (-1), .ref (rm 2), .ref (rm 3), .ref (rm 4), .ref (rm 5), .ref (rm 6), .ref (rm 7), .ref (rm 8), .ref (rm 9), .ref (rm 10), .ref (rm 11), .ref (rm 12), .ref (rm 13), .ref (rm 14), .ref (rm 15), .ref (rm 16), .int 0, .int 0, .int 0, .int 0, .int 0, .ref (rm 17), .ref (rm 18), .ref (rm 19), .ref (rm 20), .ref (rm 21), .int 0, .ref (rm 22), .ref (rm 23), .ref (rm 24), .int 0, .int 0, .int 0, .ref (rm 25), .ref (rm 26), .ref (rm 27), .int 0, .ref (rm 28), .ref (rm 29), .int 0, .ref (rm 30), .ref (rm 31), .int 0, .ref (rm 32), .ref (rm 33), .int 0, .ref (rm 34), .ref (rm 35), .int 0, .int 0, .int 0, .ref (rm 36), .ref (rm 37), .int 0, .ref (rm 38), .ref (rm 39), .int 0, .ref (rm 40), .ref (rm 41), .ref (rm 42), .int 0, .int 0, .long 1, .ref (rm 43), .int 0, .int 0, .int (-1), .int 0, .int 0, .int 0, .int 0, .ref (rm 44), .ref (rm 45), .ref (rm 46), .ref (rm 47), .int 0])), ((rm 1), .inl ((km 0), 1600, .inl (fun _ => 0))), ((rm 2), .inl ((km 1), 7, .inl f1520)), ((rm 22), .inl ((km 2), 422, .inl (fun _ => 0))), ((rm 23), .inl ((km 3), 422, .inl (fun _ => 0)))]
set_option maxHeartbeats 4000000 in
set_option maxRecDepth 100000 in
theorem mX12_seed (l : Launch) (dC : Nat → ClassId) (dI : Nat → Nat → Nat) (rm : Nat → Nat) (km : Nat → ClassId) (p1 : Int32) (sz : Nat) : Met l yX12_seed (Cond.code yX12_seed cX12_seed 2 (some .boolean) :: wA) ({ frames := 1, cells := 0, slots := 0, locals := 21 }) (va_Pc [.ref (rm 0), .int p1] (fun U => U.heap.size = sz ∧ va_P (dC, dI) vwCl (wd_758 rm km) U.heap ∧ va_K (dC, dI) vwCl [((km 0), .int), ((km 1), .int), ((km 2), .int), ((km 3), .int)] U ∧ va_D (fun _ => True) (wd_758 rm km))) (va_Qi (fun (r : Int32) (_ : Unit) => r = sp_s p1) (fun _ t => True) (va_A (wd_758 rm km) sz)) 0 0 (va_A (wd_758 rm km) sz) := by
  refine Met.ofW (cc := cX12_seed) (maxL := 2) (ret := (some .boolean)) (by decide) rfl ?_
  intro p e s m args below meth c s₁ B hml hv
  obtain ⟨rfl, hsz, hP, hK, hD0⟩ := hv
  have hx := B.exec
  have hb := B.bytes
  have hr := B.returns
  have hts : ∀ w ∈ wA, w.before [.ref (rm 0), .int p1].toArray s = true := fun w h => atoms_spec (ws := Cond.code yX12_seed cX12_seed 2 (some .boolean) :: wA) B.pre w (List.mem_cons_of_mem _ h)
  have hown : s.vm.findClass RX12 = some m.cls := findClass_of_methodNamed B.named
  have hlocks := B.notSynchronized
  subst hsz
  have hD := hD0.self (sz := s.heap.size)
  generalize hAe : va_A (wd_758 rm km) s.heap.size = A at hD ⊢
  have hA : ∀ q : Nat, s.heap.size ≤ q → A q := fun q h => by rw [← hAe]; exact Or.inr h
  have hS : va_S A s.heap s.heap [] := va_S.rf
  have hl := lv_entry ([.ref (rm 0), .int p1]) (n := 2) (Nat.le_of_ble_eq_true rfl)
  rw [lg_entry_eq]
  generalize (lg_sl ([.ref (rm 0), .int p1]) ++ List.replicate (2 - (lg_sl ([.ref (rm 0), .int p1])).length) Slot.unset).toArray = ls at hl ⊢
  have hl : lv_has ls 2 [(0, .ref (rm 0)), (1, .int p1)] := hl
  refine lv_iload_n hx hb dX12_seed_0 rfl (lv_at hl 1 rfl) ?_
  refine lv_if_ge (tgt := 11) hx hb dX12_seed_1 (by decide) (fun c_1518 => ?_) (fun c_1518 => ?_)
  · refine lv_aload_n hx hb dX12_seed_11 rfl (lv_at hl 0 rfl) ?_
    refine lv_iload_n hx hb dX12_seed_12 rfl (lv_at hl 1 rfl) ?_
    refine lv_i2l (v := p1.toInt64) hx hb dX12_seed_13 rfl ?_
    refine va_put (D := (dC, dI)) (ci := 12) (v := .long p1.toInt64) (ty := tyX12 70) (C := RX12) (T := TX12) (N := 84) hx hb hts i_X12 tyX12 tyX12_ok nmX12 hown hK hP hD hS 0 rfl rfl 70 (by decide) (hts _ q_233) (fun _ h9 => h9) rfl (tyX12_ok 70 (by decide)) rfl rfl (Nat.le_of_ble_eq_true rfl) dX12_seed_14 (fun H locs hP hD hS => ?_)
    have hP : va_P (dC, dI) vwCl (wd_890 rm p1 km) H := hP
    have hD : va_D A (wd_890 rm p1 km) := hD
    refine lv_iconst (v := 1) hx hb dX12_seed_17 (by decide) ?_
    refine W.widen (k := 0) (n := 0) (Nat.le_of_ble_eq_true rfl) (Nat.le_of_ble_eq_true rfl) ?_
    exact W.zret (v := 1) hx hb hr rfl (fun t ht hW => ⟨⟨1, (), rfl, (if_pos c_1518).symm, trivial⟩, hS.F ht⟩) hS.2.2 dX12_seed_18
  · refine lv_aload_n hx hb dX12_seed_4 rfl (lv_at hl 0 rfl) ?_
    refine lv_bipush (v := 6) hx hb dX12_seed_5 (by decide) ?_
    have hPc := hP.sub (ws' := (wd_758 rm km)) [0, 1, 2, 3, 4] rfl
    have hDc := hD.sub (ws' := (wd_758 rm km)) [0, 1, 2, 3, 4] (by decide) rfl
    have hKc := hK.sub (tys' := [((km 0), .int), ((km 1), .int), ((km 2), .int), ((km 3), .int)]) [0, 1, 2, 3] rfl
    have hFc := va_free (wc := (wd_758 rm km)) hD hS hA [0, 1, 2, 3, 4] rfl
    refine va_calli (va_runV (As := [.int 6]) (rest := []) ⟨hx, hb, hml, hown, hts⟩ (c143_X12_isRefused l dC dI rm km s.heap.size) (cwV 1 hts (gV q_369 q_370 q_371 q_372 q_368) rfl rfl rfl mdv_yX12_isRefused ⟨Nat.le_of_ble_eq_true rfl, Nat.le_of_ble_eq_true rfl⟩) ⟨fun a U g mk q => by obtain ⟨q0, q1, qP, qK, qD⟩ := q; exact ⟨q0, q1, qP, va_K.moved (u := U) (U := U.calling g mk a) (Vm.Alike.refl U.vm) qK, qD⟩, va_recv hKc hPc (ci := 12) (q0 := 0) rfl rfl, fun U hU hW => ⟨rfl, by rw [hU], by rw [hU]; exact hPc, va_K.moved hW.alike hKc, hDc.weaken (fun _ _ _ _ => trivial)⟩⟩ rfl rfl hl.1 rfl (lv_room (Nat.le_of_ble_eq_true rfl)) dX12_seed_7 ⟨Nat.le_of_ble_eq_true rfl, Nat.le_of_ble_eq_true rfl⟩) hS (fun q _ h => hFc q h) hFc (fun r_1519 u t H1 locs ht hvm hw hB hz1 hk1 hS => ?_)
    obtain ⟨f1520, hP1, hK1, hD1⟩ := hB
    rw [ht] at hP1
    have hK1 := va_K.moved hvm.symm hK1
    obtain ⟨hP, hD⟩ := va_join (wr := []) (w1 := (wd_894 rm km f1520)) hP hD [0, 1, 2, 3, 4] [] rfl rfl (by decide) (by decide) hk1 hFc hP1 hD1
    have hK := (hK.sub (tys' := []) [] rfl).app hK1
    have hK : va_K (dC, dI) vwCl [((km 0), .int), ((km 1), .int), ((km 2), .int), ((km 3), .int)] s := hK
    generalize H1 = H at hP hS ⊢
    have hP : va_P (dC, dI) vwCl (wd_894 rm km f1520) H := hP
    have hD : va_D A (wd_894 rm km f1520) := hD
    obtain rfl : r_1519 = 0 := hw
    refine W.widen (k := 0) (n := 0) (Nat.le_of_ble_eq_true rfl) (Nat.le_of_ble_eq_true rfl) ?_
    exact W.zret (v := 0) hx hb hr rfl (fun t ht hW => ⟨⟨0, (), rfl, (if_neg c_1518).symm, trivial⟩, hS.F ht⟩) hS.2.2 dX12_seed_10
set_option maxHeartbeats 4000000 in
set_option maxRecDepth 100000 in
theorem mX12_image (l : Launch) (dC : Nat → ClassId) (dI : Nat → Nat → Nat) (rm : Nat → Nat) (km : Nat → ClassId) (sz : Nat) : Met l yX12_image (Cond.code yX12_image cX12_image 2 (some .int) :: wA) ({ frames := 1, cells := 0, slots := 0, locals := 20 }) (va_Pc [.ref (rm 0)] (fun U => U.heap.size = sz ∧ va_P (dC, dI) vwCl (wd_758 rm km) U.heap ∧ va_K (dC, dI) vwCl [((km 0), .int), ((km 1), .int), ((km 2), .int), ((km 3), .int)] U ∧ va_D (fun _ => True) (wd_758 rm km))) (va_Qi (fun (r : Int32) (_ : Unit) => r = (-1)) (fun _ t => True) (va_A (wd_758 rm km) sz)) 0 0 (va_A (wd_758 rm km) sz) := by
  refine Met.ofW (cc := cX12_image) (maxL := 2) (ret := (some .int)) (by decide) rfl ?_
  intro p e s m args below meth c s₁ B hml hv
  obtain ⟨rfl, hsz, hP, hK, hD0⟩ := hv
  have hx := B.exec
  have hb := B.bytes
  have hr := B.returns
  have hts : ∀ w ∈ wA, w.before [.ref (rm 0)].toArray s = true := fun w h => atoms_spec (ws := Cond.code yX12_image cX12_image 2 (some .int) :: wA) B.pre w (List.mem_cons_of_mem _ h)
  have hown : s.vm.findClass RX12 = some m.cls := findClass_of_methodNamed B.named
  have hlocks := B.notSynchronized
  subst hsz
  have hD := hD0.self (sz := s.heap.size)
  generalize hAe : va_A (wd_758 rm km) s.heap.size = A at hD ⊢
  have hA : ∀ q : Nat, s.heap.size ≤ q → A q := fun q h => by rw [← hAe]; exact Or.inr h
  have hS : va_S A s.heap s.heap [] := va_S.rf
  have hl := lv_entry ([.ref (rm 0)]) (n := 2) (Nat.le_of_ble_eq_true rfl)
  rw [lg_entry_eq]
  generalize (lg_sl ([.ref (rm 0)]) ++ List.replicate (2 - (lg_sl ([.ref (rm 0)])).length) Slot.unset).toArray = ls at hl ⊢
  have hl : lv_has ls 2 [(0, .ref (rm 0))] := hl
  refine lv_aload_n hx hb dX12_image_0 rfl (lv_at hl 0 rfl) ?_
  have hPc := hP.sub (ws' := (wd_758 rm km)) [0, 1, 2, 3, 4] rfl
  have hDc := hD.sub (ws' := (wd_758 rm km)) [0, 1, 2, 3, 4] (by decide) rfl
  have hKc := hK.sub (tys' := [((km 0), .int), ((km 1), .int), ((km 2), .int), ((km 3), .int)]) [0, 1, 2, 3] rfl
  have hFc := va_free (wc := (wd_758 rm km)) hD hS hA [0, 1, 2, 3, 4] rfl
  refine va_calli (va_runV (As := []) (rest := []) ⟨hx, hb, hml, hown, hts⟩ (c130_X12_isStill l dC dI rm km s.heap.size) (cwV 0 hts (gV q_478 q_479 q_480 q_372 q_477) rfl rfl rfl mdv_yX12_isStill ⟨Nat.le_of_ble_eq_true rfl, Nat.le_of_ble_eq_true rfl⟩) ⟨fun a U g mk q => by obtain ⟨q0, q1, qP, qK, qD⟩ := q; exact ⟨q0, q1, qP, va_K.moved (u := U) (U := U.calling g mk a) (Vm.Alike.refl U.vm) qK, qD⟩, va_recv hKc hPc (ci := 12) (q0 := 0) rfl rfl, fun U hU hW => ⟨rfl, by rw [hU], by rw [hU]; exact hPc, va_K.moved hW.alike hKc, hDc.weaken (fun _ _ _ _ => trivial)⟩⟩ rfl rfl hl.1 rfl (lv_room (Nat.le_of_ble_eq_true rfl)) dX12_image_1 ⟨Nat.le_of_ble_eq_true rfl, Nat.le_of_ble_eq_true rfl⟩) hS (fun q _ h => hFc q h) hFc (fun r_1522 u t H1 locs ht hvm hw hB hz1 hk1 hS => ?_)
  obtain ⟨hP1, hK1, hD1⟩ := hB
  rw [ht] at hP1
  have hK1 := va_K.moved hvm.symm hK1
  obtain ⟨hP, hD⟩ := va_join (wr := []) (w1 := (wd_758 rm km)) hP hD [0, 1, 2, 3, 4] [] rfl rfl (by decide) (by decide) hk1 hFc hP1 hD1
  generalize H1 = H at hP hS ⊢
  have hP : va_P (dC, dI) vwCl (wd_758 rm km) H := hP
  have hD : va_D A (wd_758 rm km) := hD
  obtain rfl : r_1522 = 0 := hw
  refine lv_if_ne (tgt := 9) hx hb dX12_image_4 (by decide) (fun c_0 => absurd c_0 (by decide)) (fun c_0 => ?_)
  refine lv_iconst (v := (-1)) hx hb dX12_image_7 (by decide) ?_
  refine W.widen (k := 0) (n := 0) (Nat.le_of_ble_eq_true rfl) (Nat.le_of_ble_eq_true rfl) ?_
  exact W.iret (v := (-1)) hx hb hr (fun t ht hW => ⟨⟨(-1), (), rfl, rfl, trivial⟩, hS.F ht⟩) hS.2.2 dX12_image_8
set_option maxHeartbeats 4000000 in
set_option maxRecDepth 100000 in
theorem mX12_octet (l : Launch) (dC : Nat → ClassId) (dI : Nat → Nat → Nat) (rm : Nat → Nat) (km : Nat → ClassId) (p1 : Int32) (sz : Nat) : Met l yX12_octet (Cond.code yX12_octet cX12_octet 2 (some .int) :: wA) ({ frames := 0, cells := 0, slots := 0, locals := 0 }) (va_Pc [.ref (rm 0), .int p1] (fun U => U.heap.size = sz ∧ va_P (dC, dI) vwCl (wd_758 rm km) U.heap ∧ va_K (dC, dI) vwCl [((km 0), .int), ((km 1), .int), ((km 2), .int), ((km 3), .int)] U ∧ va_D (fun _ => True) (wd_758 rm km))) (va_Qi (fun (r : Int32) (_ : Unit) => r = (-1)) (fun _ t => True) (va_A (wd_758 rm km) sz)) 0 0 (va_A (wd_758 rm km) sz) := by
  refine Met.ofW (cc := cX12_octet) (maxL := 2) (ret := (some .int)) (by decide) rfl ?_
  intro p e s m args below meth c s₁ B hml hv
  obtain ⟨rfl, hsz, hP, hK, hD0⟩ := hv
  have hx := B.exec
  have hb := B.bytes
  have hr := B.returns
  have hts : ∀ w ∈ wA, w.before [.ref (rm 0), .int p1].toArray s = true := fun w h => atoms_spec (ws := Cond.code yX12_octet cX12_octet 2 (some .int) :: wA) B.pre w (List.mem_cons_of_mem _ h)
  have hown : s.vm.findClass RX12 = some m.cls := findClass_of_methodNamed B.named
  have hlocks := B.notSynchronized
  subst hsz
  have hD := hD0.self (sz := s.heap.size)
  generalize hAe : va_A (wd_758 rm km) s.heap.size = A at hD ⊢
  have hA : ∀ q : Nat, s.heap.size ≤ q → A q := fun q h => by rw [← hAe]; exact Or.inr h
  have hS : va_S A s.heap s.heap [] := va_S.rf
  have hl := lv_entry ([.ref (rm 0), .int p1]) (n := 2) (Nat.le_of_ble_eq_true rfl)
  rw [lg_entry_eq]
  generalize (lg_sl ([.ref (rm 0), .int p1]) ++ List.replicate (2 - (lg_sl ([.ref (rm 0), .int p1])).length) Slot.unset).toArray = ls at hl ⊢
  have hl : lv_has ls 2 [(0, .ref (rm 0)), (1, .int p1)] := hl
  refine lv_iload_n hx hb dX12_octet_0 rfl (lv_at hl 1 rfl) ?_
  refine lv_if_lt (tgt := 21) hx hb dX12_octet_1 (by decide) (fun c_1525 => ?_) (fun c_1525 => ?_)
  · refine lv_iconst (v := (-1)) hx hb dX12_octet_21 (by decide) ?_
    refine W.widen (k := 0) (n := 0) (Nat.le_of_ble_eq_true rfl) (Nat.le_of_ble_eq_true rfl) ?_
    exact W.iret (v := (-1)) hx hb hr (fun t ht hW => ⟨⟨(-1), (), rfl, rfl, trivial⟩, hS.F ht⟩) hS.2.2 dX12_octet_22
  · refine lv_iload_n hx hb dX12_octet_4 rfl (lv_at hl 1 rfl) ?_
    refine lv_aload_n hx hb dX12_octet_5 rfl (lv_at hl 0 rfl) ?_
    refine va_get (D := (dC, dI)) (ci := 12) (v := .int 0) (C := RX12) (T := TX12) (N := 84) hx hb hts i_X12 hown hK hP 0 rfl rfl 83 (by decide) (hts _ q_492) (fun _ h9 => h9) rfl dX12_octet_6 ?_
    refine lv_icmp_ge (tgt := 21) hx hb dX12_octet_9 (by decide) (fun c_1526 => ?_) (fun c_1526 => ((by have k_c_1525 : ¬ p1.toInt < (0 : Int) := fun h => c_1525 (Int32.lt_iff_toInt_lt.mpr h); have k_c_1526 : ¬ (0 : Int) ≤ p1.toInt := fun h => c_1526 (Int32.le_iff_toInt_le.mpr h); omega : False).elim))
    refine lv_iconst (v := (-1)) hx hb dX12_octet_21 (by decide) ?_
    refine W.widen (k := 0) (n := 0) (Nat.le_of_ble_eq_true rfl) (Nat.le_of_ble_eq_true rfl) ?_
    exact W.iret (v := (-1)) hx hb hr (fun t ht hW => ⟨⟨(-1), (), rfl, rfl, trivial⟩, hS.F ht⟩) hS.2.2 dX12_octet_22
set_option maxHeartbeats 4000000 in
set_option maxRecDepth 100000 in
theorem c147_X12_isImage (l : Launch) (dC : Nat → ClassId) (dI : Nat → Nat → Nat) (rm : Nat → Nat) (km : Nat → ClassId) (sz : Nat) : Met l yX12_isImage (Cond.code yX12_isImage cX12_isImage 3 (some .boolean) :: wA) ({ frames := 0, cells := 0, slots := 0, locals := 0 }) (va_Pc [.ref (rm 0), .int 0] (fun U => U.heap.size = sz ∧ va_P (dC, dI) vwCl (wd_758 rm km) U.heap ∧ va_K (dC, dI) vwCl [((km 0), .int), ((km 1), .int), ((km 2), .int), ((km 3), .int)] U ∧ va_D (fun _ => True) (wd_758 rm km))) (va_Qi (fun (r : Int32) (_ : Unit) => r = 0) (fun _ t => va_P (dC, dI) vwCl (wd_758 rm km) t.heap ∧ va_K (dC, dI) vwCl [((km 0), .int), ((km 1), .int), ((km 2), .int), ((km 3), .int)] t ∧ va_D (va_A (wd_758 rm km) sz) (wd_758 rm km)) (va_A (wd_758 rm km) sz)) 0 0 (va_A (wd_758 rm km) sz) := by
  refine Met.ofW (cc := cX12_isImage) (maxL := 3) (ret := (some .boolean)) (by decide) rfl ?_
  intro p e s m args below meth c s₁ B hml hv
  obtain ⟨rfl, hsz, hP, hK, hD0⟩ := hv
  have hx := B.exec
  have hb := B.bytes
  have hr := B.returns
  have hts : ∀ w ∈ wA, w.before [.ref (rm 0), .int 0].toArray s = true := fun w h => atoms_spec (ws := Cond.code yX12_isImage cX12_isImage 3 (some .boolean) :: wA) B.pre w (List.mem_cons_of_mem _ h)
  have hown : s.vm.findClass RX12 = some m.cls := findClass_of_methodNamed B.named
  have hlocks := B.notSynchronized
  subst hsz
  have hD := hD0.self (sz := s.heap.size)
  generalize hAe : va_A (wd_758 rm km) s.heap.size = A at hD ⊢
  have hA : ∀ q : Nat, s.heap.size ≤ q → A q := fun q h => by rw [← hAe]; exact Or.inr h
  have hS : va_S A s.heap s.heap [] := va_S.rf
  have hl := lv_entry ([.ref (rm 0), .int 0]) (n := 3) (Nat.le_of_ble_eq_true rfl)
  rw [lg_entry_eq]
  generalize (lg_sl ([.ref (rm 0), .int 0]) ++ List.replicate (3 - (lg_sl ([.ref (rm 0), .int 0])).length) Slot.unset).toArray = ls at hl ⊢
  have hl : lv_has ls 3 [(0, .ref (rm 0)), (1, .int 0)] := hl
  refine lv_aload_n hx hb dX12_isImage_0 rfl (lv_at hl 0 rfl) ?_
  refine va_get (D := (dC, dI)) (ci := 12) (v := .int 0) (C := RX12) (T := TX12) (N := 84) hx hb hts i_X12 hown hK hP 0 rfl rfl 38 (by decide) (hts _ q_442) (fun _ h9 => h9) rfl dX12_isImage_1 ?_
  refine lv_if_eq (tgt := 77) hx hb dX12_isImage_4 (by decide) (fun c_0 => ?_) (fun c_0 => absurd c_0 (by decide))
  refine lv_iconst (v := 0) hx hb dX12_isImage_77 (by decide) ?_
  refine W.widen (k := 0) (n := 0) (Nat.le_of_ble_eq_true rfl) (Nat.le_of_ble_eq_true rfl) ?_
  have hP9 := hP.sub (ws' := (wd_758 rm km)) [0, 1, 2, 3, 4] rfl
  have hD9 := hD.sub (ws' := (wd_758 rm km)) [0, 1, 2, 3, 4] (by decide) rfl
  have hK9 := hK.sub (tys' := [((km 0), .int), ((km 1), .int), ((km 2), .int), ((km 3), .int)]) [0, 1, 2, 3] rfl
  exact W.zret (v := 0) hx hb hr rfl (fun t ht hW => ⟨⟨0, (), rfl, rfl, by rw [ht]; exact hP9, va_K.moved hW.alike hK9, hD9⟩, hS.F ht⟩) hS.2.2 dX12_isImage_78
def wd_895 (rm : Nat → Nat) (km : Nat → ClassId) (f1529 : Nat → Int32) : va_W := [((rm 0), .inr (12, [.ref (rm 1), .int 0, .int 0, .int 0, .int 0, .int 0, .int 0, .int 0, .int (-1), .ref (rm 2), .ref (rm 3), .ref (rm 4), .ref (rm 5), .ref (rm 6), .ref (rm 7), .ref (rm 8), .ref (rm 9), .ref (rm 10), .ref (rm 11), .ref (rm 12), .ref (rm 13), .ref (rm 14), .ref (rm 15), .ref (rm 16), .int 0, .int 0, .int 0, .int 0, .int 0, .ref (rm 17), .ref (rm 18), .ref (rm 19), .ref (rm 20), .ref (rm 21), .int 0, .ref (rm 22), .ref (rm 23), .ref (rm 24), .int 0, .int 0, .int 0, .ref (rm 25), .ref (rm 26), .ref (rm 27), .int 0, .ref (rm 28), .ref (rm 29), .int 0, .ref (rm 30), .ref (rm 31), .int 0, .ref (rm 32), .ref (rm 33), .int 0, .ref (rm 34), .ref (rm 35), .int 0, .int 0, .int 0, .ref (rm 36), .ref (rm 37), .int 0, .ref (rm 38), .ref (rm 39), .int 0, .ref (rm 40), .ref (rm 41), .ref (rm 42), .int 0, .int 0, .long 1, .ref (rm 43), .int 0, .int 0, .int (-1), .int 0, .int 0, .int 0, .int 0, .ref (rm 44), .ref (rm 45), .ref (rm 46), .ref (rm 47), .int 0])), ((rm 1), .inl ((km 0), 1600, .inl (fun _ => 0))), ((rm 2), .inl ((km 1), 7, .inl f1529)), ((rm 22), .inl ((km 2), 422, .inl (fun _ => 0))), ((rm 23), .inl ((km 3), 422, .inl (fun _ => 0)))]
def wd_896 (rm : Nat → Nat) (km : Nat → ClassId) (f1532 : Nat → Int32) : va_W := [((rm 0), .inr (12, [.ref (rm 1), .int 0, .int 0, .int 0, .int 0, .int 0, .int 0, .int 0, .int (-1), .ref (rm 2), .ref (rm 3), .ref (rm 4), .ref (rm 5), .ref (rm 6), .ref (rm 7), .ref (rm 8), .ref (rm 9), .ref (rm 10), .ref (rm 11), .ref (rm 12), .ref (rm 13), .ref (rm 14), .ref (rm 15), .ref (rm 16), .int 0, .int 0, .int 0, .int 0, .int 0, .ref (rm 17), .ref (rm 18), .ref (rm 19), .ref (rm 20), .ref (rm 21), .int 0, .ref (rm 22), .ref (rm 23), .ref (rm 24), .int 0, .int 0, .int 0, .ref (rm 25), .ref (rm 26), .ref (rm 27), .int 0, .ref (rm 28), .ref (rm 29), .int 0, .ref (rm 30), .ref (rm 31), .int 0, .ref (rm 32), .ref (rm 33), .int 0, .ref (rm 34), .ref (rm 35), .int 0, .int 0, .int 0, .ref (rm 36), .ref (rm 37), .int 0, .ref (rm 38), .ref (rm 39), .int 0, .ref (rm 40), .ref (rm 41), .ref (rm 42), .int 0, .int 0, .long 1, .ref (rm 43), .int 0, .int 0, .int (-1), .int 0, .int 0, .int 0, .int 0, .ref (rm 44), .ref (rm 45), .ref (rm 46), .ref (rm 47), .int 0])), ((rm 1), .inl ((km 0), 1600, .inl (fun _ => 0))), ((rm 2), .inl ((km 1), 7, .inl f1532)), ((rm 22), .inl ((km 2), 422, .inl (fun _ => 0))), ((rm 23), .inl ((km 3), 422, .inl (fun _ => 0)))]
set_option maxHeartbeats 4000000 in
set_option maxRecDepth 100000 in
theorem mX12_on (l : Launch) (dC : Nat → ClassId) (dI : Nat → Nat → Nat) (rm : Nat → Nat) (km : Nat → ClassId) (sz : Nat) : Met l yX12_on (Cond.code yX12_on cX12_on 3 (some .boolean) :: wA) ({ frames := 1, cells := 0, slots := 0, locals := 22 }) (va_Pc [.ref (rm 0)] (fun U => U.heap.size = sz ∧ va_P (dC, dI) vwCl (wd_758 rm km) U.heap ∧ va_K (dC, dI) vwCl [((km 0), .int), ((km 1), .int), ((km 2), .int), ((km 3), .int)] U ∧ va_D (fun _ => True) (wd_758 rm km))) (va_Qi (fun (r : Int32) (_ : Unit) => r = 0) (fun _ t => True) (va_A (wd_758 rm km) sz)) 0 0 (va_A (wd_758 rm km) sz) := by
  refine Met.ofW (cc := cX12_on) (maxL := 3) (ret := (some .boolean)) (by decide) rfl ?_
  intro p e s m args below meth c s₁ B hml hv
  obtain ⟨rfl, hsz, hP, hK, hD0⟩ := hv
  have hx := B.exec
  have hb := B.bytes
  have hr := B.returns
  have hts : ∀ w ∈ wA, w.before [.ref (rm 0)].toArray s = true := fun w h => atoms_spec (ws := Cond.code yX12_on cX12_on 3 (some .boolean) :: wA) B.pre w (List.mem_cons_of_mem _ h)
  have hown : s.vm.findClass RX12 = some m.cls := findClass_of_methodNamed B.named
  have hlocks := B.notSynchronized
  subst hsz
  have hD := hD0.self (sz := s.heap.size)
  generalize hAe : va_A (wd_758 rm km) s.heap.size = A at hD ⊢
  have hA : ∀ q : Nat, s.heap.size ≤ q → A q := fun q h => by rw [← hAe]; exact Or.inr h
  have hS : va_S A s.heap s.heap [] := va_S.rf
  have hl := lv_entry ([.ref (rm 0)]) (n := 3) (Nat.le_of_ble_eq_true rfl)
  rw [lg_entry_eq]
  generalize (lg_sl ([.ref (rm 0)]) ++ List.replicate (3 - (lg_sl ([.ref (rm 0)])).length) Slot.unset).toArray = ls at hl ⊢
  have hl : lv_has ls 3 [(0, .ref (rm 0))] := hl
  refine lv_aload_n hx hb dX12_on_0 rfl (lv_at hl 0 rfl) ?_
  refine va_get (D := (dC, dI)) (ci := 12) (v := .int 0) (C := RX12) (T := TX12) (N := 84) hx hb hts i_X12 hown hK hP 0 rfl rfl 1 (by decide) (hts _ q_366) (fun _ h9 => h9) rfl dX12_on_1 ?_
  refine lv_istore_n (lv' := [(1, .int 0), (0, .ref (rm 0))]) hx hb dX12_on_4 rfl hl (by decide) rfl (fun ls hl => ?_)
  refine lv_aload_n hx hb dX12_on_5 rfl (lv_at hl 1 rfl) ?_
  refine lv_iconst (v := 0) hx hb dX12_on_6 (by decide) ?_
  refine va_put (D := (dC, dI)) (ci := 12) (v := .int 0) (ty := tyX12 1) (C := RX12) (T := TX12) (N := 84) hx hb hts i_X12 tyX12 tyX12_ok nmX12 hown hK hP hD hS 0 rfl rfl 1 (by decide) (hts _ q_366) (fun _ h9 => h9) rfl (tyX12_ok 1 (by decide)) rfl rfl (Nat.le_of_ble_eq_true rfl) dX12_on_7 (fun H locs hP hD hS => ?_)
  have hP : va_P (dC, dI) vwCl (wd_758 rm km) H := hP
  have hD : va_D A (wd_758 rm km) := hD
  refine lv_aload_n hx hb dX12_on_10 rfl (lv_at hl 1 rfl) ?_
  refine lv_iload_n hx hb dX12_on_11 rfl (lv_at hl 0 rfl) ?_
  have hPc := hP.sub (ws' := (wd_758 rm km)) [0, 1, 2, 3, 4] rfl
  have hDc := hD.sub (ws' := (wd_758 rm km)) [0, 1, 2, 3, 4] (by decide) rfl
  have hKc := hK.sub (tys' := [((km 0), .int), ((km 1), .int), ((km 2), .int), ((km 3), .int)]) [0, 1, 2, 3] rfl
  have hFc := va_free (wc := (wd_758 rm km)) hD hS hA [0, 1, 2, 3, 4] rfl
  refine va_calli (va_runV (As := [.int 0]) (rest := []) ⟨hx, hb, hml, hown, hts⟩ (c147_X12_isImage l dC dI rm km H.size) (cwV 1 hts (gV q_495 q_496 q_497 q_372 q_494) rfl rfl rfl mdv_yX12_isImage ⟨Nat.le_of_ble_eq_true rfl, Nat.le_of_ble_eq_true rfl⟩) ⟨fun a U g mk q => by obtain ⟨q0, q1, qP, qK, qD⟩ := q; exact ⟨q0, q1, qP, va_K.moved (u := U) (U := U.calling g mk a) (Vm.Alike.refl U.vm) qK, qD⟩, va_recv hKc hPc (ci := 12) (q0 := 0) rfl rfl, fun U hU hW => ⟨rfl, by rw [hU], by rw [hU]; exact hPc, va_K.moved hW.alike hKc, hDc.weaken (fun _ _ _ _ => trivial)⟩⟩ rfl rfl hl.1 rfl (lv_room (Nat.le_of_ble_eq_true rfl)) dX12_on_12 ⟨Nat.le_of_ble_eq_true rfl, Nat.le_of_ble_eq_true rfl⟩) hS (fun q _ h => hFc q h) hFc (fun r_1530 u t H1 locs ht hvm hw hB hz1 hk1 hS => ?_)
  obtain ⟨hP1, hK1, hD1⟩ := hB
  rw [ht] at hP1
  have hK1 := va_K.moved hvm.symm hK1
  obtain ⟨hP, hD⟩ := va_join (wr := []) (w1 := (wd_758 rm km)) hP hD [0, 1, 2, 3, 4] [] rfl rfl (by decide) (by decide) hk1 hFc hP1 hD1
  generalize H1 = H at hP hS ⊢
  have hP : va_P (dC, dI) vwCl (wd_758 rm km) H := hP
  have hD : va_D A (wd_758 rm km) := hD
  obtain rfl : r_1530 = 0 := hw
  refine lv_if_ne (tgt := 25) hx hb dX12_on_15 (by decide) (fun c_0 => absurd c_0 (by decide)) (fun c_0 => ?_)
  refine lv_aload_n hx hb dX12_on_18 rfl (lv_at hl 1 rfl) ?_
  refine lv_bipush (v := 6) hx hb dX12_on_19 (by decide) ?_
  have hPc := hP.sub (ws' := (wd_758 rm km)) [0, 1, 2, 3, 4] rfl
  have hDc := hD.sub (ws' := (wd_758 rm km)) [0, 1, 2, 3, 4] (by decide) rfl
  have hKc := hK.sub (tys' := [((km 0), .int), ((km 1), .int), ((km 2), .int), ((km 3), .int)]) [0, 1, 2, 3] rfl
  have hFc := va_free (wc := (wd_758 rm km)) hD hS hA [0, 1, 2, 3, 4] rfl
  refine va_calli (va_runV (As := [.int 6]) (rest := []) ⟨hx, hb, hml, hown, hts⟩ (c143_X12_isRefused l dC dI rm km H.size) (cwV 1 hts (gV q_369 q_370 q_371 q_372 q_368) rfl rfl rfl mdv_yX12_isRefused ⟨Nat.le_of_ble_eq_true rfl, Nat.le_of_ble_eq_true rfl⟩) ⟨fun a U g mk q => by obtain ⟨q0, q1, qP, qK, qD⟩ := q; exact ⟨q0, q1, qP, va_K.moved (u := U) (U := U.calling g mk a) (Vm.Alike.refl U.vm) qK, qD⟩, va_recv hKc hPc (ci := 12) (q0 := 0) rfl rfl, fun U hU hW => ⟨rfl, by rw [hU], by rw [hU]; exact hPc, va_K.moved hW.alike hKc, hDc.weaken (fun _ _ _ _ => trivial)⟩⟩ rfl rfl hl.1 rfl (lv_room (Nat.le_of_ble_eq_true rfl)) dX12_on_21 ⟨Nat.le_of_ble_eq_true rfl, Nat.le_of_ble_eq_true rfl⟩) hS (fun q _ h => hFc q h) hFc (fun r_1531 u t H1 locs ht hvm hw hB hz1 hk1 hS => ?_)
  obtain ⟨f1532, hP1, hK1, hD1⟩ := hB
  rw [ht] at hP1
  have hK1 := va_K.moved hvm.symm hK1
  obtain ⟨hP, hD⟩ := va_join (wr := []) (w1 := (wd_896 rm km f1532)) hP hD [0, 1, 2, 3, 4] [] rfl rfl (by decide) (by decide) hk1 hFc hP1 hD1
  have hK := (hK.sub (tys' := []) [] rfl).app hK1
  have hK : va_K (dC, dI) vwCl [((km 0), .int), ((km 1), .int), ((km 2), .int), ((km 3), .int)] s := hK
  generalize H1 = H at hP hS ⊢
  have hP : va_P (dC, dI) vwCl (wd_896 rm km f1532) H := hP
  have hD : va_D A (wd_896 rm km f1532) := hD
  obtain rfl : r_1531 = 0 := hw
  refine W.widen (k := 0) (n := 0) (Nat.le_of_ble_eq_true rfl) (Nat.le_of_ble_eq_true rfl) ?_
  exact W.zret (v := 0) hx hb hr rfl (fun t ht hW => ⟨⟨0, (), rfl, rfl, trivial⟩, hS.F ht⟩) hS.2.2 dX12_on_24
set_option maxHeartbeats 4000000 in
set_option maxRecDepth 100000 in
theorem c149_X12_isIn (l : Launch) (dC : Nat → ClassId) (dI : Nat → Nat → Nat) (sz : Nat) : Met l yX12_isIn (Cond.code yX12_isIn cX12_isIn 6 (some .boolean) :: wA) ({ frames := 0, cells := 0, slots := 0, locals := 0 }) (va_Pc [.long 0, .long 0, .long 6] (fun U => U.heap.size = sz ∧ va_P (dC, dI) vwCl [] U.heap ∧ va_K (dC, dI) vwCl [] U ∧ va_D (fun _ => True) [])) (va_Qi (fun (r : Int32) (_ : Unit) => r = 1) (fun _ t => va_P (dC, dI) vwCl [] t.heap ∧ va_K (dC, dI) vwCl [] t ∧ va_D (va_A [] sz) []) (va_A [] sz)) 0 0 (va_A [] sz) := by
  refine Met.ofW (cc := cX12_isIn) (maxL := 6) (ret := (some .boolean)) (by decide) rfl ?_
  intro p e s m args below meth c s₁ B hml hv
  obtain ⟨rfl, hsz, hP, hK, hD0⟩ := hv
  have hx := B.exec
  have hb := B.bytes
  have hr := B.returns
  have hts : ∀ w ∈ wA, w.before [.long 0, .long 0, .long 6].toArray s = true := fun w h => atoms_spec (ws := Cond.code yX12_isIn cX12_isIn 6 (some .boolean) :: wA) B.pre w (List.mem_cons_of_mem _ h)
  have hown : s.vm.findClass RX12 = some m.cls := findClass_of_methodNamed B.named
  have hlocks := B.notSynchronized
  subst hsz
  have hD := hD0.self (sz := s.heap.size)
  generalize hAe : va_A [] s.heap.size = A at hD ⊢
  have hA : ∀ q : Nat, s.heap.size ≤ q → A q := fun q h => by rw [← hAe]; exact Or.inr h
  have hS : va_S A s.heap s.heap [] := va_S.rf
  have hl := lv_entry ([.long 0, .long 0, .long 6]) (n := 6) (Nat.le_of_ble_eq_true rfl)
  rw [lg_entry_eq]
  generalize (lg_sl ([.long 0, .long 0, .long 6]) ++ List.replicate (6 - (lg_sl ([.long 0, .long 0, .long 6])).length) Slot.unset).toArray = ls at hl ⊢
  have hl : lv_has ls 6 [(0, .long 0), (2, .long 0), (4, .long 6)] := hl
  refine lv_lload_n hx hb dX12_isIn_0 rfl (lv_at hl 0 rfl) ?_
  refine lv_lload_n hx hb dX12_isIn_1 rfl (lv_at hl 1 rfl) ?_
  refine W.lcmp hx hb dX12_isIn_2 ?_
  refine lv_topi (fun x_1535 ex_1535 => ?_)
  obtain rfl : x_1535 = 0 := ex_1535.trans (by decide)
  refine lv_if_lt (tgt := 17) hx hb dX12_isIn_3 (by decide) (fun c_0 => absurd c_0 (by decide)) (fun c_0 => ?_)
  refine lv_lload_n hx hb dX12_isIn_6 rfl (lv_at hl 0 rfl) ?_
  refine lv_lload hx hb dX12_isIn_7 (lv_at hl 2 rfl) ?_
  refine W.lcmp hx hb dX12_isIn_9 ?_
  refine lv_topi (fun x_1536 ex_1536 => ?_)
  obtain rfl : x_1536 = (-1) := ex_1536.trans (by decide)
  refine lv_if_gt (tgt := 17) hx hb dX12_isIn_10 (by decide) (fun c_0 => absurd c_0 (by decide)) (fun c_0 => ?_)
  refine lv_iconst (v := 1) hx hb dX12_isIn_13 (by decide) ?_
  refine lv_goto (tgt := 18) hx hb dX12_isIn_14 (by decide) ?_
  refine W.widen (k := 0) (n := 0) (Nat.le_of_ble_eq_true rfl) (Nat.le_of_ble_eq_true rfl) ?_
  have hP9 := hP.sub (ws' := []) [] rfl
  have hD9 := hD.sub (ws' := []) [] (by decide) rfl
  have hK9 := hK.sub (tys' := []) [] rfl
  exact W.zret (v := 1) hx hb hr rfl (fun t ht hW => ⟨⟨1, (), rfl, rfl, by rw [ht]; exact hP9, va_K.moved hW.alike hK9, hD9⟩, hS.F ht⟩) hS.2.2 dX12_isIn_18
set_option maxHeartbeats 4000000 in
set_option maxRecDepth 100000 in
theorem c150_X12_isIn (l : Launch) (dC : Nat → ClassId) (dI : Nat → Nat → Nat) (sz : Nat) : Met l yX12_isIn (Cond.code yX12_isIn cX12_isIn 6 (some .boolean) :: wA) ({ frames := 0, cells := 0, slots := 0, locals := 0 }) (va_Pc [.long 1, .long 0, .long 6] (fun U => U.heap.size = sz ∧ va_P (dC, dI) vwCl [] U.heap ∧ va_K (dC, dI) vwCl [] U ∧ va_D (fun _ => True) [])) (va_Qi (fun (r : Int32) (_ : Unit) => r = 1) (fun _ t => va_P (dC, dI) vwCl [] t.heap ∧ va_K (dC, dI) vwCl [] t ∧ va_D (va_A [] sz) []) (va_A [] sz)) 0 0 (va_A [] sz) := by
  refine Met.ofW (cc := cX12_isIn) (maxL := 6) (ret := (some .boolean)) (by decide) rfl ?_
  intro p e s m args below meth c s₁ B hml hv
  obtain ⟨rfl, hsz, hP, hK, hD0⟩ := hv
  have hx := B.exec
  have hb := B.bytes
  have hr := B.returns
  have hts : ∀ w ∈ wA, w.before [.long 1, .long 0, .long 6].toArray s = true := fun w h => atoms_spec (ws := Cond.code yX12_isIn cX12_isIn 6 (some .boolean) :: wA) B.pre w (List.mem_cons_of_mem _ h)
  have hown : s.vm.findClass RX12 = some m.cls := findClass_of_methodNamed B.named
  have hlocks := B.notSynchronized
  subst hsz
  have hD := hD0.self (sz := s.heap.size)
  generalize hAe : va_A [] s.heap.size = A at hD ⊢
  have hA : ∀ q : Nat, s.heap.size ≤ q → A q := fun q h => by rw [← hAe]; exact Or.inr h
  have hS : va_S A s.heap s.heap [] := va_S.rf
  have hl := lv_entry ([.long 1, .long 0, .long 6]) (n := 6) (Nat.le_of_ble_eq_true rfl)
  rw [lg_entry_eq]
  generalize (lg_sl ([.long 1, .long 0, .long 6]) ++ List.replicate (6 - (lg_sl ([.long 1, .long 0, .long 6])).length) Slot.unset).toArray = ls at hl ⊢
  have hl : lv_has ls 6 [(0, .long 1), (2, .long 0), (4, .long 6)] := hl
  refine lv_lload_n hx hb dX12_isIn_0 rfl (lv_at hl 0 rfl) ?_
  refine lv_lload_n hx hb dX12_isIn_1 rfl (lv_at hl 1 rfl) ?_
  refine W.lcmp hx hb dX12_isIn_2 ?_
  refine lv_topi (fun x_1541 ex_1541 => ?_)
  obtain rfl : x_1541 = 1 := ex_1541.trans (by decide)
  refine lv_if_lt (tgt := 17) hx hb dX12_isIn_3 (by decide) (fun c_0 => absurd c_0 (by decide)) (fun c_0 => ?_)
  refine lv_lload_n hx hb dX12_isIn_6 rfl (lv_at hl 0 rfl) ?_
  refine lv_lload hx hb dX12_isIn_7 (lv_at hl 2 rfl) ?_
  refine W.lcmp hx hb dX12_isIn_9 ?_
  refine lv_topi (fun x_1542 ex_1542 => ?_)
  obtain rfl : x_1542 = (-1) := ex_1542.trans (by decide)
  refine lv_if_gt (tgt := 17) hx hb dX12_isIn_10 (by decide) (fun c_0 => absurd c_0 (by decide)) (fun c_0 => ?_)
  refine lv_iconst (v := 1) hx hb dX12_isIn_13 (by decide) ?_
  refine lv_goto (tgt := 18) hx hb dX12_isIn_14 (by decide) ?_
  refine W.widen (k := 0) (n := 0) (Nat.le_of_ble_eq_true rfl) (Nat.le_of_ble_eq_true rfl) ?_
  have hP9 := hP.sub (ws' := []) [] rfl
  have hD9 := hD.sub (ws' := []) [] (by decide) rfl
  have hK9 := hK.sub (tys' := []) [] rfl
  exact W.zret (v := 1) hx hb hr rfl (fun t ht hW => ⟨⟨1, (), rfl, rfl, by rw [ht]; exact hP9, va_K.moved hW.alike hK9, hD9⟩, hS.F ht⟩) hS.2.2 dX12_isIn_18
set_option maxHeartbeats 4000000 in
set_option maxRecDepth 100000 in
theorem c151_X12_isIn (l : Launch) (dC : Nat → ClassId) (dI : Nat → Nat → Nat) (sz : Nat) : Met l yX12_isIn (Cond.code yX12_isIn cX12_isIn 6 (some .boolean) :: wA) ({ frames := 0, cells := 0, slots := 0, locals := 0 }) (va_Pc [.long 2, .long 0, .long 6] (fun U => U.heap.size = sz ∧ va_P (dC, dI) vwCl [] U.heap ∧ va_K (dC, dI) vwCl [] U ∧ va_D (fun _ => True) [])) (va_Qi (fun (r : Int32) (_ : Unit) => r = 1) (fun _ t => va_P (dC, dI) vwCl [] t.heap ∧ va_K (dC, dI) vwCl [] t ∧ va_D (va_A [] sz) []) (va_A [] sz)) 0 0 (va_A [] sz) := by
  refine Met.ofW (cc := cX12_isIn) (maxL := 6) (ret := (some .boolean)) (by decide) rfl ?_
  intro p e s m args below meth c s₁ B hml hv
  obtain ⟨rfl, hsz, hP, hK, hD0⟩ := hv
  have hx := B.exec
  have hb := B.bytes
  have hr := B.returns
  have hts : ∀ w ∈ wA, w.before [.long 2, .long 0, .long 6].toArray s = true := fun w h => atoms_spec (ws := Cond.code yX12_isIn cX12_isIn 6 (some .boolean) :: wA) B.pre w (List.mem_cons_of_mem _ h)
  have hown : s.vm.findClass RX12 = some m.cls := findClass_of_methodNamed B.named
  have hlocks := B.notSynchronized
  subst hsz
  have hD := hD0.self (sz := s.heap.size)
  generalize hAe : va_A [] s.heap.size = A at hD ⊢
  have hA : ∀ q : Nat, s.heap.size ≤ q → A q := fun q h => by rw [← hAe]; exact Or.inr h
  have hS : va_S A s.heap s.heap [] := va_S.rf
  have hl := lv_entry ([.long 2, .long 0, .long 6]) (n := 6) (Nat.le_of_ble_eq_true rfl)
  rw [lg_entry_eq]
  generalize (lg_sl ([.long 2, .long 0, .long 6]) ++ List.replicate (6 - (lg_sl ([.long 2, .long 0, .long 6])).length) Slot.unset).toArray = ls at hl ⊢
  have hl : lv_has ls 6 [(0, .long 2), (2, .long 0), (4, .long 6)] := hl
  refine lv_lload_n hx hb dX12_isIn_0 rfl (lv_at hl 0 rfl) ?_
  refine lv_lload_n hx hb dX12_isIn_1 rfl (lv_at hl 1 rfl) ?_
  refine W.lcmp hx hb dX12_isIn_2 ?_
  refine lv_topi (fun x_1547 ex_1547 => ?_)
  obtain rfl : x_1547 = 1 := ex_1547.trans (by decide)
  refine lv_if_lt (tgt := 17) hx hb dX12_isIn_3 (by decide) (fun c_0 => absurd c_0 (by decide)) (fun c_0 => ?_)
  refine lv_lload_n hx hb dX12_isIn_6 rfl (lv_at hl 0 rfl) ?_
  refine lv_lload hx hb dX12_isIn_7 (lv_at hl 2 rfl) ?_
  refine W.lcmp hx hb dX12_isIn_9 ?_
  refine lv_topi (fun x_1548 ex_1548 => ?_)
  obtain rfl : x_1548 = (-1) := ex_1548.trans (by decide)
  refine lv_if_gt (tgt := 17) hx hb dX12_isIn_10 (by decide) (fun c_0 => absurd c_0 (by decide)) (fun c_0 => ?_)
  refine lv_iconst (v := 1) hx hb dX12_isIn_13 (by decide) ?_
  refine lv_goto (tgt := 18) hx hb dX12_isIn_14 (by decide) ?_
  refine W.widen (k := 0) (n := 0) (Nat.le_of_ble_eq_true rfl) (Nat.le_of_ble_eq_true rfl) ?_
  have hP9 := hP.sub (ws' := []) [] rfl
  have hD9 := hD.sub (ws' := []) [] (by decide) rfl
  have hK9 := hK.sub (tys' := []) [] rfl
  exact W.zret (v := 1) hx hb hr rfl (fun t ht hW => ⟨⟨1, (), rfl, rfl, by rw [ht]; exact hP9, va_K.moved hW.alike hK9, hD9⟩, hS.F ht⟩) hS.2.2 dX12_isIn_18
set_option maxHeartbeats 4000000 in
set_option maxRecDepth 100000 in
theorem c152_X12_isIn (l : Launch) (dC : Nat → ClassId) (dI : Nat → Nat → Nat) (sz : Nat) : Met l yX12_isIn (Cond.code yX12_isIn cX12_isIn 6 (some .boolean) :: wA) ({ frames := 0, cells := 0, slots := 0, locals := 0 }) (va_Pc [.long 3, .long 0, .long 6] (fun U => U.heap.size = sz ∧ va_P (dC, dI) vwCl [] U.heap ∧ va_K (dC, dI) vwCl [] U ∧ va_D (fun _ => True) [])) (va_Qi (fun (r : Int32) (_ : Unit) => r = 1) (fun _ t => va_P (dC, dI) vwCl [] t.heap ∧ va_K (dC, dI) vwCl [] t ∧ va_D (va_A [] sz) []) (va_A [] sz)) 0 0 (va_A [] sz) := by
  refine Met.ofW (cc := cX12_isIn) (maxL := 6) (ret := (some .boolean)) (by decide) rfl ?_
  intro p e s m args below meth c s₁ B hml hv
  obtain ⟨rfl, hsz, hP, hK, hD0⟩ := hv
  have hx := B.exec
  have hb := B.bytes
  have hr := B.returns
  have hts : ∀ w ∈ wA, w.before [.long 3, .long 0, .long 6].toArray s = true := fun w h => atoms_spec (ws := Cond.code yX12_isIn cX12_isIn 6 (some .boolean) :: wA) B.pre w (List.mem_cons_of_mem _ h)
  have hown : s.vm.findClass RX12 = some m.cls := findClass_of_methodNamed B.named
  have hlocks := B.notSynchronized
  subst hsz
  have hD := hD0.self (sz := s.heap.size)
  generalize hAe : va_A [] s.heap.size = A at hD ⊢
  have hA : ∀ q : Nat, s.heap.size ≤ q → A q := fun q h => by rw [← hAe]; exact Or.inr h
  have hS : va_S A s.heap s.heap [] := va_S.rf
  have hl := lv_entry ([.long 3, .long 0, .long 6]) (n := 6) (Nat.le_of_ble_eq_true rfl)
  rw [lg_entry_eq]
  generalize (lg_sl ([.long 3, .long 0, .long 6]) ++ List.replicate (6 - (lg_sl ([.long 3, .long 0, .long 6])).length) Slot.unset).toArray = ls at hl ⊢
  have hl : lv_has ls 6 [(0, .long 3), (2, .long 0), (4, .long 6)] := hl
  refine lv_lload_n hx hb dX12_isIn_0 rfl (lv_at hl 0 rfl) ?_
  refine lv_lload_n hx hb dX12_isIn_1 rfl (lv_at hl 1 rfl) ?_
  refine W.lcmp hx hb dX12_isIn_2 ?_
  refine lv_topi (fun x_1553 ex_1553 => ?_)
  obtain rfl : x_1553 = 1 := ex_1553.trans (by decide)
  refine lv_if_lt (tgt := 17) hx hb dX12_isIn_3 (by decide) (fun c_0 => absurd c_0 (by decide)) (fun c_0 => ?_)
  refine lv_lload_n hx hb dX12_isIn_6 rfl (lv_at hl 0 rfl) ?_
  refine lv_lload hx hb dX12_isIn_7 (lv_at hl 2 rfl) ?_
  refine W.lcmp hx hb dX12_isIn_9 ?_
  refine lv_topi (fun x_1554 ex_1554 => ?_)
  obtain rfl : x_1554 = (-1) := ex_1554.trans (by decide)
  refine lv_if_gt (tgt := 17) hx hb dX12_isIn_10 (by decide) (fun c_0 => absurd c_0 (by decide)) (fun c_0 => ?_)
  refine lv_iconst (v := 1) hx hb dX12_isIn_13 (by decide) ?_
  refine lv_goto (tgt := 18) hx hb dX12_isIn_14 (by decide) ?_
  refine W.widen (k := 0) (n := 0) (Nat.le_of_ble_eq_true rfl) (Nat.le_of_ble_eq_true rfl) ?_
  have hP9 := hP.sub (ws' := []) [] rfl
  have hD9 := hD.sub (ws' := []) [] (by decide) rfl
  have hK9 := hK.sub (tys' := []) [] rfl
  exact W.zret (v := 1) hx hb hr rfl (fun t ht hW => ⟨⟨1, (), rfl, rfl, by rw [ht]; exact hP9, va_K.moved hW.alike hK9, hD9⟩, hS.F ht⟩) hS.2.2 dX12_isIn_18
set_option maxHeartbeats 4000000 in
set_option maxRecDepth 100000 in
theorem c153_X12_isIn (l : Launch) (dC : Nat → ClassId) (dI : Nat → Nat → Nat) (sz : Nat) : Met l yX12_isIn (Cond.code yX12_isIn cX12_isIn 6 (some .boolean) :: wA) ({ frames := 0, cells := 0, slots := 0, locals := 0 }) (va_Pc [.long 4, .long 0, .long 6] (fun U => U.heap.size = sz ∧ va_P (dC, dI) vwCl [] U.heap ∧ va_K (dC, dI) vwCl [] U ∧ va_D (fun _ => True) [])) (va_Qi (fun (r : Int32) (_ : Unit) => r = 1) (fun _ t => va_P (dC, dI) vwCl [] t.heap ∧ va_K (dC, dI) vwCl [] t ∧ va_D (va_A [] sz) []) (va_A [] sz)) 0 0 (va_A [] sz) := by
  refine Met.ofW (cc := cX12_isIn) (maxL := 6) (ret := (some .boolean)) (by decide) rfl ?_
  intro p e s m args below meth c s₁ B hml hv
  obtain ⟨rfl, hsz, hP, hK, hD0⟩ := hv
  have hx := B.exec
  have hb := B.bytes
  have hr := B.returns
  have hts : ∀ w ∈ wA, w.before [.long 4, .long 0, .long 6].toArray s = true := fun w h => atoms_spec (ws := Cond.code yX12_isIn cX12_isIn 6 (some .boolean) :: wA) B.pre w (List.mem_cons_of_mem _ h)
  have hown : s.vm.findClass RX12 = some m.cls := findClass_of_methodNamed B.named
  have hlocks := B.notSynchronized
  subst hsz
  have hD := hD0.self (sz := s.heap.size)
  generalize hAe : va_A [] s.heap.size = A at hD ⊢
  have hA : ∀ q : Nat, s.heap.size ≤ q → A q := fun q h => by rw [← hAe]; exact Or.inr h
  have hS : va_S A s.heap s.heap [] := va_S.rf
  have hl := lv_entry ([.long 4, .long 0, .long 6]) (n := 6) (Nat.le_of_ble_eq_true rfl)
  rw [lg_entry_eq]
  generalize (lg_sl ([.long 4, .long 0, .long 6]) ++ List.replicate (6 - (lg_sl ([.long 4, .long 0, .long 6])).length) Slot.unset).toArray = ls at hl ⊢
  have hl : lv_has ls 6 [(0, .long 4), (2, .long 0), (4, .long 6)] := hl
  refine lv_lload_n hx hb dX12_isIn_0 rfl (lv_at hl 0 rfl) ?_
  refine lv_lload_n hx hb dX12_isIn_1 rfl (lv_at hl 1 rfl) ?_
  refine W.lcmp hx hb dX12_isIn_2 ?_
  refine lv_topi (fun x_1559 ex_1559 => ?_)
  obtain rfl : x_1559 = 1 := ex_1559.trans (by decide)
  refine lv_if_lt (tgt := 17) hx hb dX12_isIn_3 (by decide) (fun c_0 => absurd c_0 (by decide)) (fun c_0 => ?_)
  refine lv_lload_n hx hb dX12_isIn_6 rfl (lv_at hl 0 rfl) ?_
  refine lv_lload hx hb dX12_isIn_7 (lv_at hl 2 rfl) ?_
  refine W.lcmp hx hb dX12_isIn_9 ?_
  refine lv_topi (fun x_1560 ex_1560 => ?_)
  obtain rfl : x_1560 = (-1) := ex_1560.trans (by decide)
  refine lv_if_gt (tgt := 17) hx hb dX12_isIn_10 (by decide) (fun c_0 => absurd c_0 (by decide)) (fun c_0 => ?_)
  refine lv_iconst (v := 1) hx hb dX12_isIn_13 (by decide) ?_
  refine lv_goto (tgt := 18) hx hb dX12_isIn_14 (by decide) ?_
  refine W.widen (k := 0) (n := 0) (Nat.le_of_ble_eq_true rfl) (Nat.le_of_ble_eq_true rfl) ?_
  have hP9 := hP.sub (ws' := []) [] rfl
  have hD9 := hD.sub (ws' := []) [] (by decide) rfl
  have hK9 := hK.sub (tys' := []) [] rfl
  exact W.zret (v := 1) hx hb hr rfl (fun t ht hW => ⟨⟨1, (), rfl, rfl, by rw [ht]; exact hP9, va_K.moved hW.alike hK9, hD9⟩, hS.F ht⟩) hS.2.2 dX12_isIn_18
set_option maxHeartbeats 4000000 in
set_option maxRecDepth 100000 in
theorem c154_X12_isIn (l : Launch) (dC : Nat → ClassId) (dI : Nat → Nat → Nat) (sz : Nat) : Met l yX12_isIn (Cond.code yX12_isIn cX12_isIn 6 (some .boolean) :: wA) ({ frames := 0, cells := 0, slots := 0, locals := 0 }) (va_Pc [.long 5, .long 0, .long 6] (fun U => U.heap.size = sz ∧ va_P (dC, dI) vwCl [] U.heap ∧ va_K (dC, dI) vwCl [] U ∧ va_D (fun _ => True) [])) (va_Qi (fun (r : Int32) (_ : Unit) => r = 1) (fun _ t => va_P (dC, dI) vwCl [] t.heap ∧ va_K (dC, dI) vwCl [] t ∧ va_D (va_A [] sz) []) (va_A [] sz)) 0 0 (va_A [] sz) := by
  refine Met.ofW (cc := cX12_isIn) (maxL := 6) (ret := (some .boolean)) (by decide) rfl ?_
  intro p e s m args below meth c s₁ B hml hv
  obtain ⟨rfl, hsz, hP, hK, hD0⟩ := hv
  have hx := B.exec
  have hb := B.bytes
  have hr := B.returns
  have hts : ∀ w ∈ wA, w.before [.long 5, .long 0, .long 6].toArray s = true := fun w h => atoms_spec (ws := Cond.code yX12_isIn cX12_isIn 6 (some .boolean) :: wA) B.pre w (List.mem_cons_of_mem _ h)
  have hown : s.vm.findClass RX12 = some m.cls := findClass_of_methodNamed B.named
  have hlocks := B.notSynchronized
  subst hsz
  have hD := hD0.self (sz := s.heap.size)
  generalize hAe : va_A [] s.heap.size = A at hD ⊢
  have hA : ∀ q : Nat, s.heap.size ≤ q → A q := fun q h => by rw [← hAe]; exact Or.inr h
  have hS : va_S A s.heap s.heap [] := va_S.rf
  have hl := lv_entry ([.long 5, .long 0, .long 6]) (n := 6) (Nat.le_of_ble_eq_true rfl)
  rw [lg_entry_eq]
  generalize (lg_sl ([.long 5, .long 0, .long 6]) ++ List.replicate (6 - (lg_sl ([.long 5, .long 0, .long 6])).length) Slot.unset).toArray = ls at hl ⊢
  have hl : lv_has ls 6 [(0, .long 5), (2, .long 0), (4, .long 6)] := hl
  refine lv_lload_n hx hb dX12_isIn_0 rfl (lv_at hl 0 rfl) ?_
  refine lv_lload_n hx hb dX12_isIn_1 rfl (lv_at hl 1 rfl) ?_
  refine W.lcmp hx hb dX12_isIn_2 ?_
  refine lv_topi (fun x_1565 ex_1565 => ?_)
  obtain rfl : x_1565 = 1 := ex_1565.trans (by decide)
  refine lv_if_lt (tgt := 17) hx hb dX12_isIn_3 (by decide) (fun c_0 => absurd c_0 (by decide)) (fun c_0 => ?_)
  refine lv_lload_n hx hb dX12_isIn_6 rfl (lv_at hl 0 rfl) ?_
  refine lv_lload hx hb dX12_isIn_7 (lv_at hl 2 rfl) ?_
  refine W.lcmp hx hb dX12_isIn_9 ?_
  refine lv_topi (fun x_1566 ex_1566 => ?_)
  obtain rfl : x_1566 = (-1) := ex_1566.trans (by decide)
  refine lv_if_gt (tgt := 17) hx hb dX12_isIn_10 (by decide) (fun c_0 => absurd c_0 (by decide)) (fun c_0 => ?_)
  refine lv_iconst (v := 1) hx hb dX12_isIn_13 (by decide) ?_
  refine lv_goto (tgt := 18) hx hb dX12_isIn_14 (by decide) ?_
  refine W.widen (k := 0) (n := 0) (Nat.le_of_ble_eq_true rfl) (Nat.le_of_ble_eq_true rfl) ?_
  have hP9 := hP.sub (ws' := []) [] rfl
  have hD9 := hD.sub (ws' := []) [] (by decide) rfl
  have hK9 := hK.sub (tys' := []) [] rfl
  exact W.zret (v := 1) hx hb hr rfl (fun t ht hW => ⟨⟨1, (), rfl, rfl, by rw [ht]; exact hP9, va_K.moved hW.alike hK9, hD9⟩, hS.F ht⟩) hS.2.2 dX12_isIn_18
set_option maxHeartbeats 4000000 in
set_option maxRecDepth 100000 in
theorem c155_X12_isIn (l : Launch) (dC : Nat → ClassId) (dI : Nat → Nat → Nat) (sz : Nat) : Met l yX12_isIn (Cond.code yX12_isIn cX12_isIn 6 (some .boolean) :: wA) ({ frames := 0, cells := 0, slots := 0, locals := 0 }) (va_Pc [.long 6, .long 0, .long 6] (fun U => U.heap.size = sz ∧ va_P (dC, dI) vwCl [] U.heap ∧ va_K (dC, dI) vwCl [] U ∧ va_D (fun _ => True) [])) (va_Qi (fun (r : Int32) (_ : Unit) => r = 1) (fun _ t => va_P (dC, dI) vwCl [] t.heap ∧ va_K (dC, dI) vwCl [] t ∧ va_D (va_A [] sz) []) (va_A [] sz)) 0 0 (va_A [] sz) := by
  refine Met.ofW (cc := cX12_isIn) (maxL := 6) (ret := (some .boolean)) (by decide) rfl ?_
  intro p e s m args below meth c s₁ B hml hv
  obtain ⟨rfl, hsz, hP, hK, hD0⟩ := hv
  have hx := B.exec
  have hb := B.bytes
  have hr := B.returns
  have hts : ∀ w ∈ wA, w.before [.long 6, .long 0, .long 6].toArray s = true := fun w h => atoms_spec (ws := Cond.code yX12_isIn cX12_isIn 6 (some .boolean) :: wA) B.pre w (List.mem_cons_of_mem _ h)
  have hown : s.vm.findClass RX12 = some m.cls := findClass_of_methodNamed B.named
  have hlocks := B.notSynchronized
  subst hsz
  have hD := hD0.self (sz := s.heap.size)
  generalize hAe : va_A [] s.heap.size = A at hD ⊢
  have hA : ∀ q : Nat, s.heap.size ≤ q → A q := fun q h => by rw [← hAe]; exact Or.inr h
  have hS : va_S A s.heap s.heap [] := va_S.rf
  have hl := lv_entry ([.long 6, .long 0, .long 6]) (n := 6) (Nat.le_of_ble_eq_true rfl)
  rw [lg_entry_eq]
  generalize (lg_sl ([.long 6, .long 0, .long 6]) ++ List.replicate (6 - (lg_sl ([.long 6, .long 0, .long 6])).length) Slot.unset).toArray = ls at hl ⊢
  have hl : lv_has ls 6 [(0, .long 6), (2, .long 0), (4, .long 6)] := hl
  refine lv_lload_n hx hb dX12_isIn_0 rfl (lv_at hl 0 rfl) ?_
  refine lv_lload_n hx hb dX12_isIn_1 rfl (lv_at hl 1 rfl) ?_
  refine W.lcmp hx hb dX12_isIn_2 ?_
  refine lv_topi (fun x_1571 ex_1571 => ?_)
  obtain rfl : x_1571 = 1 := ex_1571.trans (by decide)
  refine lv_if_lt (tgt := 17) hx hb dX12_isIn_3 (by decide) (fun c_0 => absurd c_0 (by decide)) (fun c_0 => ?_)
  refine lv_lload_n hx hb dX12_isIn_6 rfl (lv_at hl 0 rfl) ?_
  refine lv_lload hx hb dX12_isIn_7 (lv_at hl 2 rfl) ?_
  refine W.lcmp hx hb dX12_isIn_9 ?_
  refine lv_topi (fun x_1572 ex_1572 => ?_)
  obtain rfl : x_1572 = 0 := ex_1572.trans (by decide)
  refine lv_if_gt (tgt := 17) hx hb dX12_isIn_10 (by decide) (fun c_0 => absurd c_0 (by decide)) (fun c_0 => ?_)
  refine lv_iconst (v := 1) hx hb dX12_isIn_13 (by decide) ?_
  refine lv_goto (tgt := 18) hx hb dX12_isIn_14 (by decide) ?_
  refine W.widen (k := 0) (n := 0) (Nat.le_of_ble_eq_true rfl) (Nat.le_of_ble_eq_true rfl) ?_
  have hP9 := hP.sub (ws' := []) [] rfl
  have hD9 := hD.sub (ws' := []) [] (by decide) rfl
  have hK9 := hK.sub (tys' := []) [] rfl
  exact W.zret (v := 1) hx hb hr rfl (fun t ht hW => ⟨⟨1, (), rfl, rfl, by rw [ht]; exact hP9, va_K.moved hW.alike hK9, hD9⟩, hS.F ht⟩) hS.2.2 dX12_isIn_18
set_option maxHeartbeats 4000000 in
set_option maxRecDepth 100000 in
theorem mX12_status (l : Launch) (dC : Nat → ClassId) (dI : Nat → Nat → Nat) (rm : Nat → Nat) (km : Nat → ClassId) (p1 : Int32) (sz : Nat) : Met l yX12_status (Cond.code yX12_status cX12_status 2 (some .int) :: wA) ({ frames := 1, cells := 0, slots := 0, locals := 25 }) (va_Pc [.ref (rm 0), .int p1] (fun U => U.heap.size = sz ∧ va_P (dC, dI) vwCl (wd_758 rm km) U.heap ∧ va_K (dC, dI) vwCl [((km 0), .int), ((km 1), .int), ((km 2), .int), ((km 3), .int)] U ∧ va_D (fun _ => True) (wd_758 rm km))) (va_Qi (fun (r : Int32) (_ : Unit) => r = sp_7 p1) (fun _ t => True) (va_A (wd_758 rm km) sz)) 0 0 (va_A (wd_758 rm km) sz) := by
  refine Met.ofW (cc := cX12_status) (maxL := 2) (ret := (some .int)) (by decide) rfl ?_
  intro p e s m args below meth c s₁ B hml hv
  obtain ⟨rfl, hsz, hP, hK, hD0⟩ := hv
  have hx := B.exec
  have hb := B.bytes
  have hr := B.returns
  have hts : ∀ w ∈ wA, w.before [.ref (rm 0), .int p1].toArray s = true := fun w h => atoms_spec (ws := Cond.code yX12_status cX12_status 2 (some .int) :: wA) B.pre w (List.mem_cons_of_mem _ h)
  have hown : s.vm.findClass RX12 = some m.cls := findClass_of_methodNamed B.named
  have hlocks := B.notSynchronized
  subst hsz
  have hD := hD0.self (sz := s.heap.size)
  generalize hAe : va_A (wd_758 rm km) s.heap.size = A at hD ⊢
  have hA : ∀ q : Nat, s.heap.size ≤ q → A q := fun q h => by rw [← hAe]; exact Or.inr h
  have hS : va_S A s.heap s.heap [] := va_S.rf
  have hl := lv_entry ([.ref (rm 0), .int p1]) (n := 2) (Nat.le_of_ble_eq_true rfl)
  rw [lg_entry_eq]
  generalize (lg_sl ([.ref (rm 0), .int p1]) ++ List.replicate (2 - (lg_sl ([.ref (rm 0), .int p1])).length) Slot.unset).toArray = ls at hl ⊢
  have hl : lv_has ls 2 [(0, .ref (rm 0)), (1, .int p1)] := hl
  rcases sw_7 p1 with rfl | rfl | rfl | rfl | rfl | rfl | rfl | ho
  · refine lv_iload_n hx hb dX12_status_0 rfl (lv_at hl 1 rfl) ?_
    refine lv_i2l (v := 0) hx hb dX12_status_1 (by decide) ?_
    refine lv_lconst (v := 0) hx hb dX12_status_2 (by decide) ?_
    refine lv_ldc2 (v := 6) hx hb hown (hts _ q_499) dX12_status_3 ?_
    have hPc := hP.sub (ws' := []) [] rfl
    have hDc := hD.sub (ws' := []) [] (by decide) rfl
    have hKc := hK.sub (tys' := []) [] rfl
    have hFc := va_free (wc := []) hD hS hA [] rfl
    refine va_calli (va_runS (As := [.long 0, .long 0, .long 6]) (rest := []) ⟨hx, hb, hml, hown, hts⟩ (c149_X12_isIn l dC dI s.heap.size) (va_cwS 3 hts (gS q_446 q_447 q_372 q_364) rfl rfl rfl mds_yX12_isIn ⟨Nat.le_of_ble_eq_true rfl, Nat.le_of_ble_eq_true rfl⟩) ⟨fun a U g mk q => by obtain ⟨q0, q1, qP, qK, qD⟩ := q; exact ⟨q0, q1, qP, va_K.moved (u := U) (U := U.calling g mk a) (Vm.Alike.refl U.vm) qK, qD⟩, fun U hU hW => ⟨rfl, by rw [hU], by rw [hU]; exact hPc, va_K.moved hW.alike hKc, hDc.weaken (fun _ _ _ _ => trivial)⟩⟩ rfl rfl hl.1 rfl (lv_room (Nat.le_of_ble_eq_true rfl)) dX12_status_6 ⟨Nat.le_of_ble_eq_true rfl, Nat.le_of_ble_eq_true rfl⟩) hS (fun q _ h => hFc q h) hFc (fun r_1576 u t H1 locs ht hvm hw hB hz1 hk1 hS => ?_)
    obtain ⟨hP1, hK1, hD1⟩ := hB
    rw [ht] at hP1
    have hK1 := va_K.moved hvm.symm hK1
    obtain ⟨hP, hD⟩ := va_join (wr := (wd_758 rm km)) (w1 := []) hP hD [] [0, 1, 2, 3, 4] rfl rfl (by decide) (by decide) hk1 hFc hP1 hD1
    generalize H1 = H at hP hS ⊢
    have hP : va_P (dC, dI) vwCl (wd_758 rm km) H := hP
    have hD : va_D A (wd_758 rm km) := hD
    obtain rfl : r_1576 = 1 := hw
    refine lv_if_eq (tgt := 21) hx hb dX12_status_9 (by decide) (fun c_0 => absurd c_0 (by decide)) (fun c_0 => ?_)
    refine lv_aload_n hx hb dX12_status_12 rfl (lv_at hl 0 rfl) ?_
    refine va_get (D := (dC, dI)) (ci := 12) (v := .ref (rm 2)) (C := RX12) (T := TX12) (N := 84) hx hb hts i_X12 hown hK hP 0 rfl rfl 9 (by decide) (hts _ q_189) (fun _ h9 => h9) rfl dX12_status_13 ?_
    refine lv_iload_n hx hb dX12_status_16 rfl (lv_at hl 1 rfl) ?_
    refine va_iald hx hb hK hP 2 1 rfl rfl (vpi (by decide)) dX12_status_17 ?_
    refine lv_topi (fun x_1577 ex_1577 => ?_)
    obtain rfl : x_1577 = 0 := ex_1577
    refine lv_goto (tgt := 22) hx hb dX12_status_18 (by decide) ?_
    refine W.widen (k := 0) (n := 0) (Nat.le_of_ble_eq_true rfl) (Nat.le_of_ble_eq_true rfl) ?_
    exact W.iret (v := 0) hx hb hr (fun t ht hW => ⟨⟨0, (), rfl, by decide, trivial⟩, hS.F ht⟩) hS.2.2 dX12_status_22
  · refine lv_iload_n hx hb dX12_status_0 rfl (lv_at hl 1 rfl) ?_
    refine lv_i2l (v := 1) hx hb dX12_status_1 (by decide) ?_
    refine lv_lconst (v := 0) hx hb dX12_status_2 (by decide) ?_
    refine lv_ldc2 (v := 6) hx hb hown (hts _ q_499) dX12_status_3 ?_
    have hPc := hP.sub (ws' := []) [] rfl
    have hDc := hD.sub (ws' := []) [] (by decide) rfl
    have hKc := hK.sub (tys' := []) [] rfl
    have hFc := va_free (wc := []) hD hS hA [] rfl
    refine va_calli (va_runS (As := [.long 1, .long 0, .long 6]) (rest := []) ⟨hx, hb, hml, hown, hts⟩ (c150_X12_isIn l dC dI s.heap.size) (va_cwS 3 hts (gS q_446 q_447 q_372 q_364) rfl rfl rfl mds_yX12_isIn ⟨Nat.le_of_ble_eq_true rfl, Nat.le_of_ble_eq_true rfl⟩) ⟨fun a U g mk q => by obtain ⟨q0, q1, qP, qK, qD⟩ := q; exact ⟨q0, q1, qP, va_K.moved (u := U) (U := U.calling g mk a) (Vm.Alike.refl U.vm) qK, qD⟩, fun U hU hW => ⟨rfl, by rw [hU], by rw [hU]; exact hPc, va_K.moved hW.alike hKc, hDc.weaken (fun _ _ _ _ => trivial)⟩⟩ rfl rfl hl.1 rfl (lv_room (Nat.le_of_ble_eq_true rfl)) dX12_status_6 ⟨Nat.le_of_ble_eq_true rfl, Nat.le_of_ble_eq_true rfl⟩) hS (fun q _ h => hFc q h) hFc (fun r_1578 u t H1 locs ht hvm hw hB hz1 hk1 hS => ?_)
    obtain ⟨hP1, hK1, hD1⟩ := hB
    rw [ht] at hP1
    have hK1 := va_K.moved hvm.symm hK1
    obtain ⟨hP, hD⟩ := va_join (wr := (wd_758 rm km)) (w1 := []) hP hD [] [0, 1, 2, 3, 4] rfl rfl (by decide) (by decide) hk1 hFc hP1 hD1
    generalize H1 = H at hP hS ⊢
    have hP : va_P (dC, dI) vwCl (wd_758 rm km) H := hP
    have hD : va_D A (wd_758 rm km) := hD
    obtain rfl : r_1578 = 1 := hw
    refine lv_if_eq (tgt := 21) hx hb dX12_status_9 (by decide) (fun c_0 => absurd c_0 (by decide)) (fun c_0 => ?_)
    refine lv_aload_n hx hb dX12_status_12 rfl (lv_at hl 0 rfl) ?_
    refine va_get (D := (dC, dI)) (ci := 12) (v := .ref (rm 2)) (C := RX12) (T := TX12) (N := 84) hx hb hts i_X12 hown hK hP 0 rfl rfl 9 (by decide) (hts _ q_189) (fun _ h9 => h9) rfl dX12_status_13 ?_
    refine lv_iload_n hx hb dX12_status_16 rfl (lv_at hl 1 rfl) ?_
    refine va_iald hx hb hK hP 2 1 rfl rfl (vpi (by decide)) dX12_status_17 ?_
    refine lv_topi (fun x_1579 ex_1579 => ?_)
    obtain rfl : x_1579 = 0 := ex_1579
    refine lv_goto (tgt := 22) hx hb dX12_status_18 (by decide) ?_
    refine W.widen (k := 0) (n := 0) (Nat.le_of_ble_eq_true rfl) (Nat.le_of_ble_eq_true rfl) ?_
    exact W.iret (v := 0) hx hb hr (fun t ht hW => ⟨⟨0, (), rfl, by decide, trivial⟩, hS.F ht⟩) hS.2.2 dX12_status_22
  · refine lv_iload_n hx hb dX12_status_0 rfl (lv_at hl 1 rfl) ?_
    refine lv_i2l (v := 2) hx hb dX12_status_1 (by decide) ?_
    refine lv_lconst (v := 0) hx hb dX12_status_2 (by decide) ?_
    refine lv_ldc2 (v := 6) hx hb hown (hts _ q_499) dX12_status_3 ?_
    have hPc := hP.sub (ws' := []) [] rfl
    have hDc := hD.sub (ws' := []) [] (by decide) rfl
    have hKc := hK.sub (tys' := []) [] rfl
    have hFc := va_free (wc := []) hD hS hA [] rfl
    refine va_calli (va_runS (As := [.long 2, .long 0, .long 6]) (rest := []) ⟨hx, hb, hml, hown, hts⟩ (c151_X12_isIn l dC dI s.heap.size) (va_cwS 3 hts (gS q_446 q_447 q_372 q_364) rfl rfl rfl mds_yX12_isIn ⟨Nat.le_of_ble_eq_true rfl, Nat.le_of_ble_eq_true rfl⟩) ⟨fun a U g mk q => by obtain ⟨q0, q1, qP, qK, qD⟩ := q; exact ⟨q0, q1, qP, va_K.moved (u := U) (U := U.calling g mk a) (Vm.Alike.refl U.vm) qK, qD⟩, fun U hU hW => ⟨rfl, by rw [hU], by rw [hU]; exact hPc, va_K.moved hW.alike hKc, hDc.weaken (fun _ _ _ _ => trivial)⟩⟩ rfl rfl hl.1 rfl (lv_room (Nat.le_of_ble_eq_true rfl)) dX12_status_6 ⟨Nat.le_of_ble_eq_true rfl, Nat.le_of_ble_eq_true rfl⟩) hS (fun q _ h => hFc q h) hFc (fun r_1580 u t H1 locs ht hvm hw hB hz1 hk1 hS => ?_)
    obtain ⟨hP1, hK1, hD1⟩ := hB
    rw [ht] at hP1
    have hK1 := va_K.moved hvm.symm hK1
    obtain ⟨hP, hD⟩ := va_join (wr := (wd_758 rm km)) (w1 := []) hP hD [] [0, 1, 2, 3, 4] rfl rfl (by decide) (by decide) hk1 hFc hP1 hD1
    generalize H1 = H at hP hS ⊢
    have hP : va_P (dC, dI) vwCl (wd_758 rm km) H := hP
    have hD : va_D A (wd_758 rm km) := hD
    obtain rfl : r_1580 = 1 := hw
    refine lv_if_eq (tgt := 21) hx hb dX12_status_9 (by decide) (fun c_0 => absurd c_0 (by decide)) (fun c_0 => ?_)
    refine lv_aload_n hx hb dX12_status_12 rfl (lv_at hl 0 rfl) ?_
    refine va_get (D := (dC, dI)) (ci := 12) (v := .ref (rm 2)) (C := RX12) (T := TX12) (N := 84) hx hb hts i_X12 hown hK hP 0 rfl rfl 9 (by decide) (hts _ q_189) (fun _ h9 => h9) rfl dX12_status_13 ?_
    refine lv_iload_n hx hb dX12_status_16 rfl (lv_at hl 1 rfl) ?_
    refine va_iald hx hb hK hP 2 1 rfl rfl (vpi (by decide)) dX12_status_17 ?_
    refine lv_topi (fun x_1581 ex_1581 => ?_)
    obtain rfl : x_1581 = 0 := ex_1581
    refine lv_goto (tgt := 22) hx hb dX12_status_18 (by decide) ?_
    refine W.widen (k := 0) (n := 0) (Nat.le_of_ble_eq_true rfl) (Nat.le_of_ble_eq_true rfl) ?_
    exact W.iret (v := 0) hx hb hr (fun t ht hW => ⟨⟨0, (), rfl, by decide, trivial⟩, hS.F ht⟩) hS.2.2 dX12_status_22
  · refine lv_iload_n hx hb dX12_status_0 rfl (lv_at hl 1 rfl) ?_
    refine lv_i2l (v := 3) hx hb dX12_status_1 (by decide) ?_
    refine lv_lconst (v := 0) hx hb dX12_status_2 (by decide) ?_
    refine lv_ldc2 (v := 6) hx hb hown (hts _ q_499) dX12_status_3 ?_
    have hPc := hP.sub (ws' := []) [] rfl
    have hDc := hD.sub (ws' := []) [] (by decide) rfl
    have hKc := hK.sub (tys' := []) [] rfl
    have hFc := va_free (wc := []) hD hS hA [] rfl
    refine va_calli (va_runS (As := [.long 3, .long 0, .long 6]) (rest := []) ⟨hx, hb, hml, hown, hts⟩ (c152_X12_isIn l dC dI s.heap.size) (va_cwS 3 hts (gS q_446 q_447 q_372 q_364) rfl rfl rfl mds_yX12_isIn ⟨Nat.le_of_ble_eq_true rfl, Nat.le_of_ble_eq_true rfl⟩) ⟨fun a U g mk q => by obtain ⟨q0, q1, qP, qK, qD⟩ := q; exact ⟨q0, q1, qP, va_K.moved (u := U) (U := U.calling g mk a) (Vm.Alike.refl U.vm) qK, qD⟩, fun U hU hW => ⟨rfl, by rw [hU], by rw [hU]; exact hPc, va_K.moved hW.alike hKc, hDc.weaken (fun _ _ _ _ => trivial)⟩⟩ rfl rfl hl.1 rfl (lv_room (Nat.le_of_ble_eq_true rfl)) dX12_status_6 ⟨Nat.le_of_ble_eq_true rfl, Nat.le_of_ble_eq_true rfl⟩) hS (fun q _ h => hFc q h) hFc (fun r_1582 u t H1 locs ht hvm hw hB hz1 hk1 hS => ?_)
    obtain ⟨hP1, hK1, hD1⟩ := hB
    rw [ht] at hP1
    have hK1 := va_K.moved hvm.symm hK1
    obtain ⟨hP, hD⟩ := va_join (wr := (wd_758 rm km)) (w1 := []) hP hD [] [0, 1, 2, 3, 4] rfl rfl (by decide) (by decide) hk1 hFc hP1 hD1
    generalize H1 = H at hP hS ⊢
    have hP : va_P (dC, dI) vwCl (wd_758 rm km) H := hP
    have hD : va_D A (wd_758 rm km) := hD
    obtain rfl : r_1582 = 1 := hw
    refine lv_if_eq (tgt := 21) hx hb dX12_status_9 (by decide) (fun c_0 => absurd c_0 (by decide)) (fun c_0 => ?_)
    refine lv_aload_n hx hb dX12_status_12 rfl (lv_at hl 0 rfl) ?_
    refine va_get (D := (dC, dI)) (ci := 12) (v := .ref (rm 2)) (C := RX12) (T := TX12) (N := 84) hx hb hts i_X12 hown hK hP 0 rfl rfl 9 (by decide) (hts _ q_189) (fun _ h9 => h9) rfl dX12_status_13 ?_
    refine lv_iload_n hx hb dX12_status_16 rfl (lv_at hl 1 rfl) ?_
    refine va_iald hx hb hK hP 2 1 rfl rfl (vpi (by decide)) dX12_status_17 ?_
    refine lv_topi (fun x_1583 ex_1583 => ?_)
    obtain rfl : x_1583 = 0 := ex_1583
    refine lv_goto (tgt := 22) hx hb dX12_status_18 (by decide) ?_
    refine W.widen (k := 0) (n := 0) (Nat.le_of_ble_eq_true rfl) (Nat.le_of_ble_eq_true rfl) ?_
    exact W.iret (v := 0) hx hb hr (fun t ht hW => ⟨⟨0, (), rfl, by decide, trivial⟩, hS.F ht⟩) hS.2.2 dX12_status_22
  · refine lv_iload_n hx hb dX12_status_0 rfl (lv_at hl 1 rfl) ?_
    refine lv_i2l (v := 4) hx hb dX12_status_1 (by decide) ?_
    refine lv_lconst (v := 0) hx hb dX12_status_2 (by decide) ?_
    refine lv_ldc2 (v := 6) hx hb hown (hts _ q_499) dX12_status_3 ?_
    have hPc := hP.sub (ws' := []) [] rfl
    have hDc := hD.sub (ws' := []) [] (by decide) rfl
    have hKc := hK.sub (tys' := []) [] rfl
    have hFc := va_free (wc := []) hD hS hA [] rfl
    refine va_calli (va_runS (As := [.long 4, .long 0, .long 6]) (rest := []) ⟨hx, hb, hml, hown, hts⟩ (c153_X12_isIn l dC dI s.heap.size) (va_cwS 3 hts (gS q_446 q_447 q_372 q_364) rfl rfl rfl mds_yX12_isIn ⟨Nat.le_of_ble_eq_true rfl, Nat.le_of_ble_eq_true rfl⟩) ⟨fun a U g mk q => by obtain ⟨q0, q1, qP, qK, qD⟩ := q; exact ⟨q0, q1, qP, va_K.moved (u := U) (U := U.calling g mk a) (Vm.Alike.refl U.vm) qK, qD⟩, fun U hU hW => ⟨rfl, by rw [hU], by rw [hU]; exact hPc, va_K.moved hW.alike hKc, hDc.weaken (fun _ _ _ _ => trivial)⟩⟩ rfl rfl hl.1 rfl (lv_room (Nat.le_of_ble_eq_true rfl)) dX12_status_6 ⟨Nat.le_of_ble_eq_true rfl, Nat.le_of_ble_eq_true rfl⟩) hS (fun q _ h => hFc q h) hFc (fun r_1584 u t H1 locs ht hvm hw hB hz1 hk1 hS => ?_)
    obtain ⟨hP1, hK1, hD1⟩ := hB
    rw [ht] at hP1
    have hK1 := va_K.moved hvm.symm hK1
    obtain ⟨hP, hD⟩ := va_join (wr := (wd_758 rm km)) (w1 := []) hP hD [] [0, 1, 2, 3, 4] rfl rfl (by decide) (by decide) hk1 hFc hP1 hD1
    generalize H1 = H at hP hS ⊢
    have hP : va_P (dC, dI) vwCl (wd_758 rm km) H := hP
    have hD : va_D A (wd_758 rm km) := hD
    obtain rfl : r_1584 = 1 := hw
    refine lv_if_eq (tgt := 21) hx hb dX12_status_9 (by decide) (fun c_0 => absurd c_0 (by decide)) (fun c_0 => ?_)
    refine lv_aload_n hx hb dX12_status_12 rfl (lv_at hl 0 rfl) ?_
    refine va_get (D := (dC, dI)) (ci := 12) (v := .ref (rm 2)) (C := RX12) (T := TX12) (N := 84) hx hb hts i_X12 hown hK hP 0 rfl rfl 9 (by decide) (hts _ q_189) (fun _ h9 => h9) rfl dX12_status_13 ?_
    refine lv_iload_n hx hb dX12_status_16 rfl (lv_at hl 1 rfl) ?_
    refine va_iald hx hb hK hP 2 1 rfl rfl (vpi (by decide)) dX12_status_17 ?_
    refine lv_topi (fun x_1585 ex_1585 => ?_)
    obtain rfl : x_1585 = 0 := ex_1585
    refine lv_goto (tgt := 22) hx hb dX12_status_18 (by decide) ?_
    refine W.widen (k := 0) (n := 0) (Nat.le_of_ble_eq_true rfl) (Nat.le_of_ble_eq_true rfl) ?_
    exact W.iret (v := 0) hx hb hr (fun t ht hW => ⟨⟨0, (), rfl, by decide, trivial⟩, hS.F ht⟩) hS.2.2 dX12_status_22
  · refine lv_iload_n hx hb dX12_status_0 rfl (lv_at hl 1 rfl) ?_
    refine lv_i2l (v := 5) hx hb dX12_status_1 (by decide) ?_
    refine lv_lconst (v := 0) hx hb dX12_status_2 (by decide) ?_
    refine lv_ldc2 (v := 6) hx hb hown (hts _ q_499) dX12_status_3 ?_
    have hPc := hP.sub (ws' := []) [] rfl
    have hDc := hD.sub (ws' := []) [] (by decide) rfl
    have hKc := hK.sub (tys' := []) [] rfl
    have hFc := va_free (wc := []) hD hS hA [] rfl
    refine va_calli (va_runS (As := [.long 5, .long 0, .long 6]) (rest := []) ⟨hx, hb, hml, hown, hts⟩ (c154_X12_isIn l dC dI s.heap.size) (va_cwS 3 hts (gS q_446 q_447 q_372 q_364) rfl rfl rfl mds_yX12_isIn ⟨Nat.le_of_ble_eq_true rfl, Nat.le_of_ble_eq_true rfl⟩) ⟨fun a U g mk q => by obtain ⟨q0, q1, qP, qK, qD⟩ := q; exact ⟨q0, q1, qP, va_K.moved (u := U) (U := U.calling g mk a) (Vm.Alike.refl U.vm) qK, qD⟩, fun U hU hW => ⟨rfl, by rw [hU], by rw [hU]; exact hPc, va_K.moved hW.alike hKc, hDc.weaken (fun _ _ _ _ => trivial)⟩⟩ rfl rfl hl.1 rfl (lv_room (Nat.le_of_ble_eq_true rfl)) dX12_status_6 ⟨Nat.le_of_ble_eq_true rfl, Nat.le_of_ble_eq_true rfl⟩) hS (fun q _ h => hFc q h) hFc (fun r_1586 u t H1 locs ht hvm hw hB hz1 hk1 hS => ?_)
    obtain ⟨hP1, hK1, hD1⟩ := hB
    rw [ht] at hP1
    have hK1 := va_K.moved hvm.symm hK1
    obtain ⟨hP, hD⟩ := va_join (wr := (wd_758 rm km)) (w1 := []) hP hD [] [0, 1, 2, 3, 4] rfl rfl (by decide) (by decide) hk1 hFc hP1 hD1
    generalize H1 = H at hP hS ⊢
    have hP : va_P (dC, dI) vwCl (wd_758 rm km) H := hP
    have hD : va_D A (wd_758 rm km) := hD
    obtain rfl : r_1586 = 1 := hw
    refine lv_if_eq (tgt := 21) hx hb dX12_status_9 (by decide) (fun c_0 => absurd c_0 (by decide)) (fun c_0 => ?_)
    refine lv_aload_n hx hb dX12_status_12 rfl (lv_at hl 0 rfl) ?_
    refine va_get (D := (dC, dI)) (ci := 12) (v := .ref (rm 2)) (C := RX12) (T := TX12) (N := 84) hx hb hts i_X12 hown hK hP 0 rfl rfl 9 (by decide) (hts _ q_189) (fun _ h9 => h9) rfl dX12_status_13 ?_
    refine lv_iload_n hx hb dX12_status_16 rfl (lv_at hl 1 rfl) ?_
    refine va_iald hx hb hK hP 2 1 rfl rfl (vpi (by decide)) dX12_status_17 ?_
    refine lv_topi (fun x_1587 ex_1587 => ?_)
    obtain rfl : x_1587 = 0 := ex_1587
    refine lv_goto (tgt := 22) hx hb dX12_status_18 (by decide) ?_
    refine W.widen (k := 0) (n := 0) (Nat.le_of_ble_eq_true rfl) (Nat.le_of_ble_eq_true rfl) ?_
    exact W.iret (v := 0) hx hb hr (fun t ht hW => ⟨⟨0, (), rfl, by decide, trivial⟩, hS.F ht⟩) hS.2.2 dX12_status_22
  · refine lv_iload_n hx hb dX12_status_0 rfl (lv_at hl 1 rfl) ?_
    refine lv_i2l (v := 6) hx hb dX12_status_1 (by decide) ?_
    refine lv_lconst (v := 0) hx hb dX12_status_2 (by decide) ?_
    refine lv_ldc2 (v := 6) hx hb hown (hts _ q_499) dX12_status_3 ?_
    have hPc := hP.sub (ws' := []) [] rfl
    have hDc := hD.sub (ws' := []) [] (by decide) rfl
    have hKc := hK.sub (tys' := []) [] rfl
    have hFc := va_free (wc := []) hD hS hA [] rfl
    refine va_calli (va_runS (As := [.long 6, .long 0, .long 6]) (rest := []) ⟨hx, hb, hml, hown, hts⟩ (c155_X12_isIn l dC dI s.heap.size) (va_cwS 3 hts (gS q_446 q_447 q_372 q_364) rfl rfl rfl mds_yX12_isIn ⟨Nat.le_of_ble_eq_true rfl, Nat.le_of_ble_eq_true rfl⟩) ⟨fun a U g mk q => by obtain ⟨q0, q1, qP, qK, qD⟩ := q; exact ⟨q0, q1, qP, va_K.moved (u := U) (U := U.calling g mk a) (Vm.Alike.refl U.vm) qK, qD⟩, fun U hU hW => ⟨rfl, by rw [hU], by rw [hU]; exact hPc, va_K.moved hW.alike hKc, hDc.weaken (fun _ _ _ _ => trivial)⟩⟩ rfl rfl hl.1 rfl (lv_room (Nat.le_of_ble_eq_true rfl)) dX12_status_6 ⟨Nat.le_of_ble_eq_true rfl, Nat.le_of_ble_eq_true rfl⟩) hS (fun q _ h => hFc q h) hFc (fun r_1588 u t H1 locs ht hvm hw hB hz1 hk1 hS => ?_)
    obtain ⟨hP1, hK1, hD1⟩ := hB
    rw [ht] at hP1
    have hK1 := va_K.moved hvm.symm hK1
    obtain ⟨hP, hD⟩ := va_join (wr := (wd_758 rm km)) (w1 := []) hP hD [] [0, 1, 2, 3, 4] rfl rfl (by decide) (by decide) hk1 hFc hP1 hD1
    generalize H1 = H at hP hS ⊢
    have hP : va_P (dC, dI) vwCl (wd_758 rm km) H := hP
    have hD : va_D A (wd_758 rm km) := hD
    obtain rfl : r_1588 = 1 := hw
    refine lv_if_eq (tgt := 21) hx hb dX12_status_9 (by decide) (fun c_0 => absurd c_0 (by decide)) (fun c_0 => ?_)
    refine lv_aload_n hx hb dX12_status_12 rfl (lv_at hl 0 rfl) ?_
    refine va_get (D := (dC, dI)) (ci := 12) (v := .ref (rm 2)) (C := RX12) (T := TX12) (N := 84) hx hb hts i_X12 hown hK hP 0 rfl rfl 9 (by decide) (hts _ q_189) (fun _ h9 => h9) rfl dX12_status_13 ?_
    refine lv_iload_n hx hb dX12_status_16 rfl (lv_at hl 1 rfl) ?_
    refine va_iald hx hb hK hP 2 1 rfl rfl (vpi (by decide)) dX12_status_17 ?_
    refine lv_topi (fun x_1589 ex_1589 => ?_)
    obtain rfl : x_1589 = 0 := ex_1589
    refine lv_goto (tgt := 22) hx hb dX12_status_18 (by decide) ?_
    refine W.widen (k := 0) (n := 0) (Nat.le_of_ble_eq_true rfl) (Nat.le_of_ble_eq_true rfl) ?_
    exact W.iret (v := 0) hx hb hr (fun t ht hW => ⟨⟨0, (), rfl, by decide, trivial⟩, hS.F ht⟩) hS.2.2 dX12_status_22
  · refine lv_iload_n hx hb dX12_status_0 rfl (lv_at hl 1 rfl) ?_
    refine lv_i2l (v := p1.toInt64) hx hb dX12_status_1 rfl ?_
    refine lv_lconst (v := 0) hx hb dX12_status_2 (by decide) ?_
    refine lv_ldc2 (v := 6) hx hb hown (hts _ q_499) dX12_status_3 ?_
    have hPc := hP.sub (ws' := []) [] rfl
    have hDc := hD.sub (ws' := []) [] (by decide) rfl
    have hKc := hK.sub (tys' := []) [] rfl
    have hFc := va_free (wc := []) hD hS hA [] rfl
    refine va_calli (va_runS (As := [.long p1.toInt64, .long 0, .long 6]) (rest := []) ⟨hx, hb, hml, hown, hts⟩ (c_isInN l dC dI p1.toInt64 0 6 s.heap.size (isin_o ho)) (va_cwS 3 hts (gS q_446 q_447 q_372 q_364) rfl rfl rfl mds_yX12_isIn ⟨Nat.le_of_ble_eq_true rfl, Nat.le_of_ble_eq_true rfl⟩) ⟨fun a U g mk q => by obtain ⟨q0, q1, qP, qK, qD⟩ := q; exact ⟨q0, q1, qP, va_K.moved (u := U) (U := U.calling g mk a) (Vm.Alike.refl U.vm) qK, qD⟩, fun U hU hW => ⟨rfl, by rw [hU], by rw [hU]; exact hPc, va_K.moved hW.alike hKc, hDc.weaken (fun _ _ _ _ => trivial)⟩⟩ rfl rfl hl.1 rfl (lv_room (Nat.le_of_ble_eq_true rfl)) dX12_status_6 ⟨Nat.le_of_ble_eq_true rfl, Nat.le_of_ble_eq_true rfl⟩) hS (fun q _ h => hFc q h) hFc (fun r_1590 u t H1 locs ht hvm hw hB hz1 hk1 hS => ?_)
    obtain ⟨hP1, hK1, hD1⟩ := hB
    rw [ht] at hP1
    have hK1 := va_K.moved hvm.symm hK1
    obtain ⟨hP, hD⟩ := va_join (wr := (wd_758 rm km)) (w1 := []) hP hD [] [0, 1, 2, 3, 4] rfl rfl (by decide) (by decide) hk1 hFc hP1 hD1
    generalize H1 = H at hP hS ⊢
    have hP : va_P (dC, dI) vwCl (wd_758 rm km) H := hP
    have hD : va_D A (wd_758 rm km) := hD
    obtain rfl : r_1590 = 0 := hw
    refine lv_if_eq (tgt := 21) hx hb dX12_status_9 (by decide) (fun c_0 => ?_) (fun c_0 => absurd c_0 (by decide))
    refine lv_iconst (v := (-1)) hx hb dX12_status_21 (by decide) ?_
    refine W.widen (k := 0) (n := 0) (Nat.le_of_ble_eq_true rfl) (Nat.le_of_ble_eq_true rfl) ?_
    exact W.iret (v := (-1)) hx hb hr (fun t ht hW => ⟨⟨(-1), (), rfl, (if_pos ho).symm, trivial⟩, hS.F ht⟩) hS.2.2 dX12_status_22
