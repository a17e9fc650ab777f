set_option maxHeartbeats 4000000 in
set_option maxRecDepth 100000 in
theorem z_X6_addressOf (l : Launch) (dC : Nat → ClassId) (dI : Nat → Nat → Nat) (p1 : Int) (sz : Nat) (b_p1 : 0 ≤ p1 ∧ p1 ≤ 255) : Met l yX6_addressOf (Cond.code yX6_addressOf cX6_addressOf 1 (some .int) :: wA) ({ frames := 0, cells := 0, slots := 0, locals := 0 }) (va_Pc [.int (iZ p1)] (fun U => U.heap.size = sz ∧ va_P (dC, dI) vwCl [] U.heap ∧ va_K (dC, dI) vwCl [] U ∧ va_D (fun _ => True) [] ∧ nwAll U)) (va_Qi (fun (r : Int32) (zR : Int) => r = iZ zR ∧ (-8 ≤ zR ∧ zR ≤ 247) ∧ ((248 ≤ p1 ∧ zR = p1 - 256) ∨ (p1 ≤ 247 ∧ zR = p1))) (fun zR t => va_P (dC, dI) vwCl [] t.heap ∧ va_K (dC, dI) vwCl [] t ∧ va_D (va_A [] sz) []) (va_A [] sz)) 0 0 (va_A [] sz) := by
  refine Met.ofW (cc := cX6_addressOf) (maxL := 1) (ret := (some .int)) (by decide) rfl ?_
  intro p e s m args below meth c s₁ B hml hv
  obtain ⟨rfl, hsz, hP, hK, hD0, hN⟩ := hv
  have hx := B.exec
  have hb := B.bytes
  have hr := B.returns
  have hts : ∀ w ∈ wA, w.before [.int (iZ p1)].toArray s = true := fun w h => atoms_spec (ws := Cond.code yX6_addressOf cX6_addressOf 1 (some .int) :: wA) B.pre w (List.mem_cons_of_mem _ h)
  have hown : s.vm.findClass RX6 = some m.cls := findClass_of_methodNamed B.named
  have hlocks := B.notSynchronized
  subst hsz
  have hD := hD0.self (sz := s.heap.size)
  generalize hQ : MQ below (va_Qi (fun (r : Int32) (zR : Int) => r = iZ zR ∧ (-8 ≤ zR ∧ zR ≤ 247) ∧ ((248 ≤ p1 ∧ zR = p1 - 256) ∨ (p1 ≤ 247 ∧ zR = p1))) (fun zR t => va_P (dC, dI) vwCl [] t.heap ∧ va_K (dC, dI) vwCl [] t ∧ va_D (va_A [] s.heap.size) []) (va_A [] s.heap.size)) [.int (iZ p1)].toArray s 0 0 (va_A [] s.heap.size) = Q
  have hA : ∀ q : Nat, s.heap.size ≤ q → va_A [] s.heap.size q := fun q h => Or.inr h
  generalize hAe : va_A [] s.heap.size = A at hD hA hQ
  have hS : va_S A s.heap s.heap [] := va_S.rf
  have hl := lv_entry ([.int (iZ p1)]) (n := 1) (Nat.le_of_ble_eq_true rfl)
  rw [lg_entry_eq]
  generalize (lg_sl ([.int (iZ p1)]) ++ List.replicate (1 - (lg_sl ([.int (iZ p1)])).length) Slot.unset).toArray = ls at hl ⊢
  have hl : lv_has ls 1 [(0, .int (iZ p1))] := hl
  refine lv_iload_n hx hb dX6_addressOf_0 rfl (lv_at hl 0 rfl) ?_
  refine lv_sipush (v := iZ 248) hx hb dX6_addressOf_1 (by decide) ?_
  refine zv_icmp_lt (tgt := 15) hx hb dX6_addressOf_4 (by decide) (by omega) (by omega) (fun c39663 => ?_) (fun c39663 => ?_)
  · refine lv_iload_n hx hb dX6_addressOf_15 rfl (lv_at hl 0 rfl) ?_
    subst hQ
    exact W.iret (v := iZ p1) hx hb hr (fun t ht hW => ⟨⟨iZ p1, p1, rfl, ⟨rfl, by omega, by omega⟩, by rw [ht]; exact hP, va_K.moved hW.alike hK, hD⟩, hS.F ht⟩) hS.2.2 dX6_addressOf_16
  · refine lv_iload_n hx hb dX6_addressOf_7 rfl (lv_at hl 0 rfl) ?_
    refine lv_sipush (v := iZ 256) hx hb dX6_addressOf_8 (by decide) ?_
    refine zv_isub hx hb (p1 - 256) (by omega) dX6_addressOf_11 ?_
    refine lv_goto (tgt := 16) hx hb dX6_addressOf_12 (by decide) ?_
    subst hQ
    exact W.iret (v := iZ (p1 - 256)) hx hb hr (fun t ht hW => ⟨⟨iZ (p1 - 256), (p1 - 256), rfl, ⟨rfl, by omega, by omega⟩, by rw [ht]; exact hP, va_K.moved hW.alike hK, hD⟩, hS.F ht⟩) hS.2.2 dX6_addressOf_16
set_option maxHeartbeats 4000000 in
set_option maxRecDepth 100000 in
theorem z_X6_rawNumber (l : Launch) (dC : Nat → ClassId) (dI : Nat → Nat → Nat) (q1 : Nat) (p2 : Int) (k1 : ClassId) (g1 : Nat → Int) (sz : Nat) (hb_g1 : ∀ j : Nat, j < 1600 → 0 ≤ g1 j ∧ g1 j ≤ 255) (b_p2 : 0 ≤ p2 ∧ p2 ≤ 1598) : Met l yX6_rawNumber (Cond.code yX6_rawNumber cX6_rawNumber 2 (some .int) :: wA) ({ frames := 0, cells := 0, slots := 0, locals := 0 }) (va_Pc [.ref q1, .int (iZ p2)] (fun U => U.heap.size = sz ∧ va_P (dC, dI) vwCl (wk_24 q1 k1 g1) U.heap ∧ va_K (dC, dI) vwCl [(k1, .int)] U ∧ va_D (fun _ => True) (wk_24 q1 k1 g1) ∧ nwAll U)) (va_Qi (fun (r : Int32) (zR : Int) => r = iZ zR ∧ (0 ≤ zR ∧ zR ≤ 65535)) (fun zR t => va_P (dC, dI) vwCl (wk_24 q1 k1 g1) t.heap ∧ va_K (dC, dI) vwCl [(k1, .int)] t ∧ va_D (va_A (wk_24 q1 k1 g1) sz) (wk_24 q1 k1 g1)) (va_A (wk_24 q1 k1 g1) sz)) 0 0 (va_A (wk_24 q1 k1 g1) sz) := by
  refine Met.ofW (cc := cX6_rawNumber) (maxL := 2) (ret := (some .int)) (by decide) rfl ?_
  intro p e s m args below meth c s₁ B hml hv
  obtain ⟨rfl, hsz, hP, hK, hD0, hN⟩ := hv
  have hx := B.exec
  have hb := B.bytes
  have hr := B.returns
  have hts : ∀ w ∈ wA, w.before [.ref q1, .int (iZ p2)].toArray s = true := fun w h => atoms_spec (ws := Cond.code yX6_rawNumber cX6_rawNumber 2 (some .int) :: wA) B.pre w (List.mem_cons_of_mem _ h)
  have hown : s.vm.findClass RX6 = some m.cls := findClass_of_methodNamed B.named
  have hlocks := B.notSynchronized
  subst hsz
  have hD := hD0.self (sz := s.heap.size)
  generalize hQ : MQ below (va_Qi (fun (r : Int32) (zR : Int) => r = iZ zR ∧ (0 ≤ zR ∧ zR ≤ 65535)) (fun zR t => va_P (dC, dI) vwCl (wk_24 q1 k1 g1) t.heap ∧ va_K (dC, dI) vwCl [(k1, .int)] t ∧ va_D (va_A (wk_24 q1 k1 g1) s.heap.size) (wk_24 q1 k1 g1)) (va_A (wk_24 q1 k1 g1) s.heap.size)) [.ref q1, .int (iZ p2)].toArray s 0 0 (va_A (wk_24 q1 k1 g1) s.heap.size) = Q
  have hA : ∀ q : Nat, s.heap.size ≤ q → va_A (wk_24 q1 k1 g1) s.heap.size q := fun q h => Or.inr h
  generalize hAe : va_A (wk_24 q1 k1 g1) s.heap.size = A at hD hA hQ
  have hS : va_S A s.heap s.heap [] := va_S.rf
  have hl := lv_entry ([.ref q1, .int (iZ p2)]) (n := 2) (Nat.le_of_ble_eq_true rfl)
  rw [lg_entry_eq]
  generalize (lg_sl ([.ref q1, .int (iZ p2)]) ++ List.replicate (2 - (lg_sl ([.ref q1, .int (iZ p2)])).length) Slot.unset).toArray = ls at hl ⊢
  have hl : lv_has ls 2 [(0, .ref q1), (1, .int (iZ p2))] := hl
  refine lv_aload_n hx hb dX6_rawNumber_0 rfl (lv_at hl 0 rfl) ?_
  refine lv_iload_n hx hb dX6_rawNumber_1 rfl (lv_at hl 1 rfl) ?_
  refine zv_iald hx hb hK hP 0 0 rfl rfl (by omega) (by omega) (by omega) dX6_rawNumber_2 (fun z39666 ez39666 => ?_)
  have bz39666 : 0 ≤ z39666 ∧ z39666 ≤ 255 := by rw [ez39666]; exact hb_g1 _ (by omega)
  refine lv_sipush (v := iZ 256) hx hb dX6_rawNumber_3 (by decide) ?_
  refine zv_imul hx hb (256 * z39666) (by omega) dX6_rawNumber_6 ?_
  refine lv_aload_n hx hb dX6_rawNumber_7 rfl (lv_at hl 0 rfl) ?_
  refine lv_iload_n hx hb dX6_rawNumber_8 rfl (lv_at hl 1 rfl) ?_
  refine lv_iconst (v := iZ 1) hx hb dX6_rawNumber_9 (by decide) ?_
  refine zv_iadd hx hb (p2 + 1) (by omega) dX6_rawNumber_10 ?_
  refine zv_iald hx hb hK hP 0 0 rfl rfl (by omega) (by omega) (by omega) dX6_rawNumber_11 (fun z39667 ez39667 => ?_)
  have bz39667 : 0 ≤ z39667 ∧ z39667 ≤ 255 := by rw [ez39667]; exact hb_g1 _ (by omega)
  refine zv_iadd hx hb (256 * z39666 + z39667) (by omega) dX6_rawNumber_12 ?_
  subst hQ
  exact W.iret (v := iZ (256 * z39666 + z39667)) hx hb hr (fun t ht hW => ⟨⟨iZ (256 * z39666 + z39667), (256 * z39666 + z39667), rfl, ⟨rfl, by omega⟩, by rw [ht]; exact hP, va_K.moved hW.alike hK, hD⟩, hS.F ht⟩) hS.2.2 dX6_rawNumber_13
set_option maxHeartbeats 4000000 in
set_option maxRecDepth 100000 in
theorem z_X6_isRow (l : Launch) (dC : Nat → ClassId) (dI : Nat → Nat → Nat) (q1 : Nat) (p2 : Int) (p3 : Int) (p4 : Int) (k1 : ClassId) (g1 : Nat → Int) (sz : Nat) (hb_g1 : ∀ j : Nat, j < 1600 → 0 ≤ g1 j ∧ g1 j ≤ 255) (b_p2 : 0 ≤ p2 ∧ p2 ≤ 1596) (b_p3 : 0 ≤ p3 ∧ p3 ≤ 160) (b_p4 : 0 ≤ p4 ∧ p4 ≤ 6) : Met l yX6_isRow (Cond.code yX6_isRow cX6_isRow 5 (some .boolean) :: wA) ({ frames := 1, cells := 0, slots := 0, locals := 21 }) (va_Pc [.ref q1, .int (iZ p2), .int (iZ p3), .int (iZ p4)] (fun U => U.heap.size = sz ∧ va_P (dC, dI) vwCl (wk_24 q1 k1 g1) U.heap ∧ va_K (dC, dI) vwCl [(k1, .int)] U ∧ va_D (fun _ => True) (wk_24 q1 k1 g1) ∧ nwAll U)) (va_Qi (fun (r : Int32) (zR : Int) => r = iZ zR ∧ (0 ≤ zR ∧ zR ≤ 1) ∧ (zR = 0 ∨ g1 p2.toNat < p3 ∨ 248 ≤ g1 p2.toNat)) (fun zR t => va_P (dC, dI) vwCl (wk_24 q1 k1 g1) t.heap ∧ va_K (dC, dI) vwCl [(k1, .int)] t ∧ va_D (va_A (wk_24 q1 k1 g1) sz) (wk_24 q1 k1 g1)) (va_A (wk_24 q1 k1 g1) sz)) 0 0 (va_A (wk_24 q1 k1 g1) sz) := by
  refine Met.ofW (cc := cX6_isRow) (maxL := 5) (ret := (some .boolean)) (by decide) rfl ?_
  intro p e s m args below meth c s₁ B hml hv
  obtain ⟨rfl, hsz, hP, hK, hD0, hN⟩ := hv
  have hx := B.exec
  have hb := B.bytes
  have hr := B.returns
  have hts : ∀ w ∈ wA, w.before [.ref q1, .int (iZ p2), .int (iZ p3), .int (iZ p4)].toArray s = true := fun w h => atoms_spec (ws := Cond.code yX6_isRow cX6_isRow 5 (some .boolean) :: wA) B.pre w (List.mem_cons_of_mem _ h)
  have hown : s.vm.findClass RX6 = some m.cls := findClass_of_methodNamed B.named
  have hlocks := B.notSynchronized
  subst hsz
  have hD := hD0.self (sz := s.heap.size)
  generalize hQ : MQ below (va_Qi (fun (r : Int32) (zR : Int) => r = iZ zR ∧ (0 ≤ zR ∧ zR ≤ 1) ∧ (zR = 0 ∨ g1 p2.toNat < p3 ∨ 248 ≤ g1 p2.toNat)) (fun zR t => va_P (dC, dI) vwCl (wk_24 q1 k1 g1) t.heap ∧ va_K (dC, dI) vwCl [(k1, .int)] t ∧ va_D (va_A (wk_24 q1 k1 g1) s.heap.size) (wk_24 q1 k1 g1)) (va_A (wk_24 q1 k1 g1) s.heap.size)) [.ref q1, .int (iZ p2), .int (iZ p3), .int (iZ p4)].toArray s 0 0 (va_A (wk_24 q1 k1 g1) s.heap.size) = Q
  have hA : ∀ q : Nat, s.heap.size ≤ q → va_A (wk_24 q1 k1 g1) s.heap.size q := fun q h => Or.inr h
  generalize hAe : va_A (wk_24 q1 k1 g1) s.heap.size = A at hD hA hQ
  have hS : va_S A s.heap s.heap [] := va_S.rf
  have hl := lv_entry ([.ref q1, .int (iZ p2), .int (iZ p3), .int (iZ p4)]) (n := 5) (Nat.le_of_ble_eq_true rfl)
  rw [lg_entry_eq]
  generalize (lg_sl ([.ref q1, .int (iZ p2), .int (iZ p3), .int (iZ p4)]) ++ List.replicate (5 - (lg_sl ([.ref q1, .int (iZ p2), .int (iZ p3), .int (iZ p4)])).length) Slot.unset).toArray = ls at hl ⊢
  have hl : lv_has ls 5 [(0, .ref q1), (1, .int (iZ p2)), (2, .int (iZ p3)), (3, .int (iZ p4))] := hl
  refine lv_aload_n hx hb dX6_isRow_0 rfl (lv_at hl 0 rfl) ?_
  refine lv_iload_n hx hb dX6_isRow_1 rfl (lv_at hl 1 rfl) ?_
  refine lv_iconst (v := iZ 2) hx hb dX6_isRow_2 (by decide) ?_
  refine zv_iadd hx hb (p2 + 2) (by omega) dX6_isRow_3 ?_
  have hPc := hP.sub (ws' := (wk_24 q1 k1 g1)) [0] rfl
  have hDc := hD.sub (ws' := (wk_24 q1 k1 g1)) [0] (by decide) rfl
  have hKc := hK.sub (tys' := [(k1, .int)]) [0] rfl
  have hFc := va_free (wc := (wk_24 q1 k1 g1)) hD hS hA [0] rfl
  refine va_calli (va_runS (As := [.ref q1, .int (iZ (p2 + 2))]) (rest := []) ⟨hx, hb, hml, hown, hts⟩ (z_X6_rawNumber l dC dI q1 (p2 + 2) k1 g1 s.heap.size hb_g1 (by omega)) (va_cwS 2 hts (gS q_1432 q_1433 q_388 q_1434) rfl rfl rfl mds_yX6_rawNumber ⟨Nat.le_of_ble_eq_true rfl, Nat.le_of_ble_eq_true rfl⟩) ⟨fun a U g mk q => by obtain ⟨q0, q1, qP, qK, qD, qN⟩ := q; exact ⟨q0, q1, qP, va_K.moved (u := U) (U := U.calling g mk a) (Vm.Alike.refl U.vm) qK, qD, nwAll_same (u := U) (U := U.calling g mk a) rfl qN⟩, fun U hU hW => ⟨rfl, by rw [hU], by rw [hU]; exact hPc, va_K.moved hW.alike hKc, hDc.weaken (fun _ _ _ _ => trivial), nwAll_warm hW hN⟩⟩ rfl rfl hl.1 rfl (lv_room (Nat.le_of_ble_eq_true rfl)) dX6_isRow_4 ⟨Nat.le_of_ble_eq_true rfl, Nat.le_of_ble_eq_true rfl⟩) hS (fun q _ h => hFc q h) hFc (fun r39687 z39688 t H1 locs ht hvm hw hB hz1 hk1 hS => ?_)
  obtain ⟨rfl, h39689⟩ := hw
  obtain ⟨hP1, hK1, hD1⟩ := hB
  rw [ht] at hP1
  obtain ⟨hP, hD⟩ := va_join (wr := []) (w1 := (wk_24 q1 k1 g1)) hP hD [0] [] rfl rfl (by decide) (by decide) hk1 hFc hP1 hD1
  generalize H1 = H at hP hS ⊢
  have hP : va_P (dC, dI) vwCl (wk_24 q1 k1 g1) H := hP
  have hD : va_D A (wk_24 q1 k1 g1) := hD
  refine lv_sipush (v := iZ 1000) hx hb dX6_isRow_7 (by decide) ?_
  refine zv_isub hx hb (z39688 - 1000) (by omega) dX6_isRow_10 ?_
  refine lv_istore (lv' := [(4, .int (iZ (z39688 - 1000))), (0, .ref q1), (1, .int (iZ p2)), (2, .int (iZ p3)), (3, .int (iZ p4))]) hx hb dX6_isRow_11 hl (by decide) rfl (fun ls hl => ?_)
  refine lv_aload_n hx hb dX6_isRow_13 rfl (lv_at hl 1 rfl) ?_
  refine lv_iload_n hx hb dX6_isRow_14 rfl (lv_at hl 2 rfl) ?_
  refine zv_iald hx hb hK hP 0 0 rfl rfl (by omega) (by omega) (by omega) dX6_isRow_15 (fun z39690 ez39690 => ?_)
  have bz39690 : 0 ≤ z39690 ∧ z39690 ≤ 255 := by rw [ez39690]; exact hb_g1 _ (by omega)
  have hPc := hP.sub (ws' := []) [] rfl
  have hDc := hD.sub (ws' := []) [] (by decide) rfl
  have hKc := hK.sub (tys' := []) [] rfl
  have hFc := va_free (wc := []) hD hS hA [] rfl
  refine va_calli (va_runS (As := [.int (iZ z39690)]) (rest := []) ⟨hx, hb, hml, hown, hts⟩ (z_X6_addressOf l dC dI z39690 H.size (by omega)) (va_cwS 1 hts (gS q_1435 q_1436 q_388 q_1415) rfl rfl rfl mds_yX6_addressOf ⟨Nat.le_of_ble_eq_true rfl, Nat.le_of_ble_eq_true rfl⟩) ⟨fun a U g mk q => by obtain ⟨q0, q1, qP, qK, qD, qN⟩ := q; exact ⟨q0, q1, qP, va_K.moved (u := U) (U := U.calling g mk a) (Vm.Alike.refl U.vm) qK, qD, nwAll_same (u := U) (U := U.calling g mk a) rfl qN⟩, fun U hU hW => ⟨rfl, by rw [hU], by rw [hU]; exact hPc, va_K.moved hW.alike hKc, hDc.weaken (fun _ _ _ _ => trivial), nwAll_warm hW hN⟩⟩ rfl rfl hl.1 rfl (lv_room (Nat.le_of_ble_eq_true rfl)) dX6_isRow_16 ⟨Nat.le_of_ble_eq_true rfl, Nat.le_of_ble_eq_true rfl⟩) hS (fun q _ h => hFc q h) hFc (fun r39691 z39692 t H1 locs ht hvm hw hB hz1 hk1 hS => ?_)
  obtain ⟨rfl, h39693, h39694⟩ := hw
  obtain ⟨hP1, hK1, hD1⟩ := hB
  rw [ht] at hP1
  obtain ⟨hP, hD⟩ := va_join (wr := (wk_24 q1 k1 g1)) (w1 := []) hP hD [] [0] rfl rfl (by decide) (by decide) hk1 hFc hP1 hD1
  generalize H1 = H at hP hS ⊢
  have hP : va_P (dC, dI) vwCl (wk_24 q1 k1 g1) H := hP
  have hD : va_D A (wk_24 q1 k1 g1) := hD
  refine lv_iload_n hx hb dX6_isRow_19 rfl (lv_at hl 3 rfl) ?_
  refine zv_icmp_lt (tgt := 25) hx hb dX6_isRow_20 (by decide) (by omega) (by omega) (fun c39695 => ?_) (fun c39695 => ?_)
  · refine lv_aload_n hx hb dX6_isRow_25 rfl (lv_at hl 1 rfl) ?_
    refine lv_iload_n hx hb dX6_isRow_26 rfl (lv_at hl 2 rfl) ?_
    refine lv_iconst (v := iZ 1) hx hb dX6_isRow_27 (by decide) ?_
    refine zv_iadd hx hb (p2 + 1) (by omega) dX6_isRow_28 ?_
    refine zv_iald hx hb hK hP 0 0 rfl rfl (by omega) (by omega) (by omega) dX6_isRow_29 (fun z39696 ez39696 => ?_)
    have bz39696 : 0 ≤ z39696 ∧ z39696 ≤ 255 := by rw [ez39696]; exact hb_g1 _ (by omega)
    rcases (by omega : z39696 = 0 ∨ z39696 = 1 ∨ z39696 = 2 ∨ z39696 = 3 ∨ (z39696 < 0 ∨ 3 < z39696)) with c39697 | c39697 | c39697 | c39697 | c39697
    · refine zv_tableIn (off := 30) (tgt := 60) hx hb (0) c39697 (by decide) dX6_isRow_30 (by decide) (by decide) rfl (by decide) ?_
      refine lv_iload hx hb dX6_isRow_60 (lv_at hl 0 rfl) ?_
      refine lv_sipush (v := iZ (-999)) hx hb dX6_isRow_62 (by decide) ?_
      refine zv_icmp_lt (tgt := 80) hx hb dX6_isRow_65 (by decide) (by omega) (by omega) (fun c39698 => ?_) (fun c39698 => ?_)
      · refine lv_iconst (v := iZ 0) hx hb dX6_isRow_80 (by decide) ?_
        subst hQ
        exact W.zret (v := iZ 0) hx hb hr rfl (fun t ht hW => ⟨⟨iZ 0, 0, rfl, ⟨rfl, by omega, Or.inl (by omega)⟩, by rw [ht]; exact hP, va_K.moved hW.alike hK, hD⟩, hS.F ht⟩) hS.2.2 dX6_isRow_81
      · refine lv_iload hx hb dX6_isRow_68 (lv_at hl 0 rfl) ?_
        refine lv_sipush (v := iZ 999) hx hb dX6_isRow_70 (by decide) ?_
        refine zv_icmp_gt (tgt := 80) hx hb dX6_isRow_73 (by decide) (by omega) (by omega) (fun c39699 => ?_) (fun c39699 => ?_)
        · refine lv_iconst (v := iZ 0) hx hb dX6_isRow_80 (by decide) ?_
          subst hQ
          exact W.zret (v := iZ 0) hx hb hr rfl (fun t ht hW => ⟨⟨iZ 0, 0, rfl, ⟨rfl, by omega, Or.inl (by omega)⟩, by rw [ht]; exact hP, va_K.moved hW.alike hK, hD⟩, hS.F ht⟩) hS.2.2 dX6_isRow_81
        · refine lv_iconst (v := iZ 1) hx hb dX6_isRow_76 (by decide) ?_
          refine lv_goto (tgt := 81) hx hb dX6_isRow_77 (by decide) ?_
          subst hQ
          exact W.zret (v := iZ 1) hx hb hr rfl (fun t ht hW => ⟨⟨iZ 1, 1, rfl, ⟨rfl, by omega, by omega⟩, by rw [ht]; exact hP, va_K.moved hW.alike hK, hD⟩, hS.F ht⟩) hS.2.2 dX6_isRow_81
    · refine zv_tableIn (off := 52) (tgt := 82) hx hb (1) c39697 (by decide) dX6_isRow_30 (by decide) (by decide) rfl (by decide) ?_
      refine lv_iload hx hb dX6_isRow_82 (lv_at hl 0 rfl) ?_
      refine lv_iconst (v := iZ (-1)) hx hb dX6_isRow_84 (by decide) ?_
      refine zv_icmp_lt (tgt := 98) hx hb dX6_isRow_85 (by decide) (by omega) (by omega) (fun c39700 => ?_) (fun c39700 => ?_)
      · refine lv_iconst (v := iZ 0) hx hb dX6_isRow_98 (by decide) ?_
        subst hQ
        exact W.zret (v := iZ 0) hx hb hr rfl (fun t ht hW => ⟨⟨iZ 0, 0, rfl, ⟨rfl, by omega, Or.inl (by omega)⟩, by rw [ht]; exact hP, va_K.moved hW.alike hK, hD⟩, hS.F ht⟩) hS.2.2 dX6_isRow_99
      · refine lv_iload hx hb dX6_isRow_88 (lv_at hl 0 rfl) ?_
        refine lv_iload_n hx hb dX6_isRow_90 rfl (lv_at hl 3 rfl) ?_
        refine zv_icmp_ge (tgt := 98) hx hb dX6_isRow_91 (by decide) (by omega) (by omega) (fun c39701 => ?_) (fun c39701 => ?_)
        · refine lv_iconst (v := iZ 0) hx hb dX6_isRow_98 (by decide) ?_
          subst hQ
          exact W.zret (v := iZ 0) hx hb hr rfl (fun t ht hW => ⟨⟨iZ 0, 0, rfl, ⟨rfl, by omega, Or.inl (by omega)⟩, by rw [ht]; exact hP, va_K.moved hW.alike hK, hD⟩, hS.F ht⟩) hS.2.2 dX6_isRow_99
        · refine lv_iconst (v := iZ 1) hx hb dX6_isRow_94 (by decide) ?_
          refine lv_goto (tgt := 99) hx hb dX6_isRow_95 (by decide) ?_
          subst hQ
          exact W.zret (v := iZ 1) hx hb hr rfl (fun t ht hW => ⟨⟨iZ 1, 1, rfl, ⟨rfl, by omega, by omega⟩, by rw [ht]; exact hP, va_K.moved hW.alike hK, hD⟩, hS.F ht⟩) hS.2.2 dX6_isRow_99
    · refine zv_tableIn (off := 70) (tgt := 100) hx hb (2) c39697 (by decide) dX6_isRow_30 (by decide) (by decide) rfl (by decide) ?_
      refine lv_iload hx hb dX6_isRow_100 (lv_at hl 0 rfl) ?_
      refine zv_if_lt (tgt := 115) hx hb dX6_isRow_102 (by decide) (by omega) (fun c39702 => ?_) (fun c39702 => ?_)
      · refine lv_iconst (v := iZ 0) hx hb dX6_isRow_115 (by decide) ?_
        subst hQ
        exact W.zret (v := iZ 0) hx hb hr rfl (fun t ht hW => ⟨⟨iZ 0, 0, rfl, ⟨rfl, by omega, Or.inl (by omega)⟩, by rw [ht]; exact hP, va_K.moved hW.alike hK, hD⟩, hS.F ht⟩) hS.2.2 dX6_isRow_116
      · refine lv_iload hx hb dX6_isRow_105 (lv_at hl 0 rfl) ?_
        refine lv_iload_n hx hb dX6_isRow_107 rfl (lv_at hl 4 rfl) ?_
        refine zv_icmp_ge (tgt := 115) hx hb dX6_isRow_108 (by decide) (by omega) (by omega) (fun c39703 => ?_) (fun c39703 => ?_)
        · refine lv_iconst (v := iZ 0) hx hb dX6_isRow_115 (by decide) ?_
          subst hQ
          exact W.zret (v := iZ 0) hx hb hr rfl (fun t ht hW => ⟨⟨iZ 0, 0, rfl, ⟨rfl, by omega, Or.inl (by omega)⟩, by rw [ht]; exact hP, va_K.moved hW.alike hK, hD⟩, hS.F ht⟩) hS.2.2 dX6_isRow_116
        · refine lv_iconst (v := iZ 1) hx hb dX6_isRow_111 (by decide) ?_
          refine lv_goto (tgt := 116) hx hb dX6_isRow_112 (by decide) ?_
          subst hQ
          exact W.zret (v := iZ 1) hx hb hr rfl (fun t ht hW => ⟨⟨iZ 1, 1, rfl, ⟨rfl, by omega, by omega⟩, by rw [ht]; exact hP, va_K.moved hW.alike hK, hD⟩, hS.F ht⟩) hS.2.2 dX6_isRow_116
    · refine zv_tableIn (off := 87) (tgt := 117) hx hb (3) c39697 (by decide) dX6_isRow_30 (by decide) (by decide) rfl (by decide) ?_
      refine lv_iload hx hb dX6_isRow_117 (lv_at hl 0 rfl) ?_
      refine lv_bipush (v := iZ (-8)) hx hb dX6_isRow_119 (by decide) ?_
      refine zv_icmp_lt (tgt := 134) hx hb dX6_isRow_121 (by decide) (by omega) (by omega) (fun c39704 => ?_) (fun c39704 => ?_)
      · refine lv_iconst (v := iZ 0) hx hb dX6_isRow_134 (by decide) ?_
        subst hQ
        exact W.zret (v := iZ 0) hx hb hr rfl (fun t ht hW => ⟨⟨iZ 0, 0, rfl, ⟨rfl, by omega, Or.inl (by omega)⟩, by rw [ht]; exact hP, va_K.moved hW.alike hK, hD⟩, hS.F ht⟩) hS.2.2 dX6_isRow_135
      · refine lv_iload hx hb dX6_isRow_124 (lv_at hl 0 rfl) ?_
        refine lv_iload_n hx hb dX6_isRow_126 rfl (lv_at hl 3 rfl) ?_
        refine zv_icmp_ge (tgt := 134) hx hb dX6_isRow_127 (by decide) (by omega) (by omega) (fun c39705 => ?_) (fun c39705 => ?_)
        · refine lv_iconst (v := iZ 0) hx hb dX6_isRow_134 (by decide) ?_
          subst hQ
          exact W.zret (v := iZ 0) hx hb hr rfl (fun t ht hW => ⟨⟨iZ 0, 0, rfl, ⟨rfl, by omega, Or.inl (by omega)⟩, by rw [ht]; exact hP, va_K.moved hW.alike hK, hD⟩, hS.F ht⟩) hS.2.2 dX6_isRow_135
        · refine lv_iconst (v := iZ 1) hx hb dX6_isRow_130 (by decide) ?_
          refine lv_goto (tgt := 135) hx hb dX6_isRow_131 (by decide) ?_
          subst hQ
          exact W.zret (v := iZ 1) hx hb hr rfl (fun t ht hW => ⟨⟨iZ 1, 1, rfl, ⟨rfl, by omega, by omega⟩, by rw [ht]; exact hP, va_K.moved hW.alike hK, hD⟩, hS.F ht⟩) hS.2.2 dX6_isRow_135
    · refine zv_tableOut (tgt := 136) hx hb (by omega) dX6_isRow_30 c39697 (by decide) ?_
      refine lv_iconst (v := iZ 0) hx hb dX6_isRow_136 (by decide) ?_
      subst hQ
      exact W.zret (v := iZ 0) hx hb hr rfl (fun t ht hW => ⟨⟨iZ 0, 0, rfl, ⟨rfl, by omega, Or.inl (by omega)⟩, by rw [ht]; exact hP, va_K.moved hW.alike hK, hD⟩, hS.F ht⟩) hS.2.2 dX6_isRow_137
  · refine lv_iconst (v := iZ 0) hx hb dX6_isRow_23 (by decide) ?_
    subst hQ
    exact W.zret (v := iZ 0) hx hb hr rfl (fun t ht hW => ⟨⟨iZ 0, 0, rfl, ⟨rfl, by omega, Or.inl (by omega)⟩, by rw [ht]; exact hP, va_K.moved hW.alike hK, hD⟩, hS.F ht⟩) hS.2.2 dX6_isRow_24
def wk_43 (a0 : Nat) (x0_0 : Nat) (x0_1 : Nat) (x0_2 : Nat) (x0_3 : Nat) (x0_4 : Int) (x0_5 : Nat) (x0_6 : Int) (x0_7 : Int) (x0_8 : Int) (x0_9 : Value) (x0_10 : Value) (a1 : Nat) (c1 : ClassId) (g1 : Nat → Int) (a2 : Nat) (c2 : ClassId) (g2 : Nat → Int) (a3 : Nat) (x3_0 : Nat) (x3_1 : Int) (x3_2 : Int) (x3_3 : Int) (x3_4 : Int) (x3_5 : Int) (x3_6 : Int64) (x3_7 : Int) (x3_8 : Int) (x3_9 : Int) (a4 : Nat) (c4 : ClassId) (g4 : Nat → Int) : va_W := [(a0, .inr (6, [.ref x0_0, .ref x0_1, .ref x0_2, .ref x0_3, .int (iZ x0_4), .ref x0_5, .int (iZ x0_6), .int (iZ x0_7), .int (iZ x0_8), x0_9, x0_10])), (a1, .inl (c1, 16, .inl (aZ g1))), (a2, .inl (c2, 16, .inl (aZ g2))), (a3, .inr (10, [.ref x3_0, .int (iZ x3_1), .int (iZ x3_2), .int (iZ x3_3), .int (iZ x3_4), .int (iZ x3_5), .long x3_6, .int (iZ x3_7), .int (iZ x3_8), .int (iZ x3_9)])), (a4, .inl (c4, 1600, .inl (aZ g4)))]
def wk_44 (a0 : Nat) (x0_0 : Nat) (x0_1 : Nat) (x0_2 : Nat) (x0_3 : Nat) (x0_4 : Int) (x0_5 : Nat) (x0_6 : Int) (x0_7 : Int) (x0_8 : Int) (x0_9 : Value) (x0_10 : Value) (a1 : Nat) (c1 : ClassId) (g1 : Nat → Int) (a2 : Nat) (c2 : ClassId) (g2 : Nat → Int) (a3 : Nat) (x3_0 : Nat) (x3_1 : Int) (x3_2 : Int) (x3_3 : Int) (x3_4 : Int) (x3_5 : Int) (x3_6 : Int64) (x3_7 : Int) (x3_8 : Int) (x3_9 : Int) : va_W := [(a0, .inr (6, [.ref x0_0, .ref x0_1, .ref x0_2, .ref x0_3, .int (iZ x0_4), .ref x0_5, .int (iZ x0_6), .int (iZ x0_7), .int (iZ x0_8), x0_9, x0_10])), (a1, .inl (c1, 16, .inl (aZ g1))), (a2, .inl (c2, 16, .inl (aZ g2))), (a3, .inr (10, [.ref x3_0, .int (iZ x3_1), .int (iZ x3_2), .int (iZ x3_3), .int (iZ x3_4), .int (iZ x3_5), .long x3_6, .int (iZ x3_7), .int (iZ x3_8), .int (iZ x3_9)]))]
set_option maxHeartbeats 4000000 in
set_option maxRecDepth 100000 in
theorem z_X6_readRows (l : Launch) (dC : Nat → ClassId) (dI : Nat → Nat → Nat) (a_t : Nat) (a_tp : Nat) (p2 : Int) (p3 : Int) (q_t_slide : Nat) (q_t_ghost : Nat) (q_t_addresses : Nat) (q_t_values : Nat) (t_rows : Int) (q_t_hits : Nat) (t_hitCount : Int) (t_telling : Int) (t_mostLeft : Int) (v_t_words : Value) (v_t_alike : Value) (k_t_addresses : ClassId) (g_t_addresses : Nat → Int) (k_t_values : ClassId) (g_t_values : Nat → Int) (q_tp_bytes : Nat) (tp_length : Int) (tp_at : Int) (tp_tokenAt : Int) (tp_tokenEnd : Int) (tp_own : Int) (tp_name : Int64) (tp_number : Int) (tp_fault : Int) (tp_place : Int) (k_tp_bytes : ClassId) (g_tp_bytes : Nat → Int) (sz : Nat) (hb_g_t_addresses : ∀ j : Nat, j < 16 → -8 ≤ g_t_addresses j ∧ g_t_addresses j ≤ 159) (b_t_rows : 0 ≤ t_rows ∧ t_rows ≤ 16) (b_t_hitCount : 0 ≤ t_hitCount ∧ t_hitCount ≤ 331) (b_t_telling : -1 ≤ t_telling ∧ t_telling ≤ 159) (b_t_mostLeft : -2147483648 ≤ t_mostLeft ∧ t_mostLeft ≤ 2147483647) (hb_g_tp_bytes : ∀ j : Nat, j < 1600 → 0 ≤ g_tp_bytes j ∧ g_tp_bytes j ≤ 255) (b_tp_length : 0 ≤ tp_length ∧ tp_length ≤ 1600) (b_tp_at : 0 ≤ tp_at ∧ tp_at ≤ 1600) (b_tp_tokenAt : 0 ≤ tp_tokenAt ∧ tp_tokenAt ≤ 1599) (b_tp_tokenEnd : -1 ≤ tp_tokenEnd ∧ tp_tokenEnd ≤ 1600) (b_tp_own : -1 ≤ tp_own ∧ tp_own ≤ 13) (b_tp_number : 0 ≤ tp_number ∧ tp_number ≤ 999) (b_tp_fault : -2147483648 ≤ tp_fault ∧ tp_fault ≤ 2147483647) (b_tp_place : -2147483648 ≤ tp_place ∧ tp_place ≤ 2147483647) (b_p2 : 0 ≤ p2 ∧ p2 ≤ 160) (b_p3 : 0 ≤ p3 ∧ p3 ≤ 6) : Met l yX6_readRows (Cond.code yX6_readRows cX6_readRows 6 (some .boolean) :: wA) ({ frames := 2, cells := 0, slots := 0, locals := 45 }) (va_Pc [.ref a_t, .ref a_tp, .int (iZ p2), .int (iZ p3)] (fun U => U.heap.size = sz ∧ va_P (dC, dI) vwCl (wk_43 a_t q_t_slide q_t_ghost q_t_addresses q_t_values t_rows q_t_hits t_hitCount t_telling t_mostLeft v_t_words v_t_alike q_t_addresses k_t_addresses g_t_addresses q_t_values k_t_values g_t_values a_tp q_tp_bytes tp_length tp_at tp_tokenAt tp_tokenEnd tp_own tp_name tp_number tp_fault tp_place q_tp_bytes k_tp_bytes g_tp_bytes) U.heap ∧ va_K (dC, dI) vwCl [(k_t_addresses, .int), (k_t_values, .int), (k_tp_bytes, .int)] U ∧ va_D (fun _ => True) (wk_43 a_t q_t_slide q_t_ghost q_t_addresses q_t_values t_rows q_t_hits t_hitCount t_telling t_mostLeft v_t_words v_t_alike q_t_addresses k_t_addresses g_t_addresses q_t_values k_t_values g_t_values a_tp q_tp_bytes tp_length tp_at tp_tokenAt tp_tokenEnd tp_own tp_name tp_number tp_fault tp_place q_tp_bytes k_tp_bytes g_tp_bytes) ∧ nwAll U)) (va_Qi (fun (r : Int32) (zR : Int) => r = iZ zR ∧ (0 ≤ zR ∧ zR ≤ 1)) (fun zR t => ∃ n_t_rows : Int, ∃ n_g_t_addresses : Nat → Int, ∃ n_g_t_values : Nat → Int, (0 ≤ n_t_rows ∧ n_t_rows ≤ 16) ∧ (∀ j : Nat, j < 16 → -8 ≤ n_g_t_addresses j ∧ n_g_t_addresses j ≤ 159) ∧ va_P (dC, dI) vwCl (wk_43 a_t q_t_slide q_t_ghost q_t_addresses q_t_values n_t_rows q_t_hits t_hitCount t_telling t_mostLeft v_t_words v_t_alike q_t_addresses k_t_addresses n_g_t_addresses q_t_values k_t_values n_g_t_values a_tp q_tp_bytes tp_length tp_at tp_tokenAt tp_tokenEnd tp_own tp_name tp_number tp_fault tp_place q_tp_bytes k_tp_bytes g_tp_bytes) t.heap ∧ va_K (dC, dI) vwCl [(k_t_addresses, .int), (k_t_values, .int), (k_tp_bytes, .int)] t ∧ va_D (va_A (wk_43 a_t q_t_slide q_t_ghost q_t_addresses q_t_values t_rows q_t_hits t_hitCount t_telling t_mostLeft v_t_words v_t_alike q_t_addresses k_t_addresses g_t_addresses q_t_values k_t_values g_t_values a_tp q_tp_bytes tp_length tp_at tp_tokenAt tp_tokenEnd tp_own tp_name tp_number tp_fault tp_place q_tp_bytes k_tp_bytes g_tp_bytes) sz) (wk_43 a_t q_t_slide q_t_ghost q_t_addresses q_t_values n_t_rows q_t_hits t_hitCount t_telling t_mostLeft v_t_words v_t_alike q_t_addresses k_t_addresses n_g_t_addresses q_t_values k_t_values n_g_t_values a_tp q_tp_bytes tp_length tp_at tp_tokenAt tp_tokenEnd tp_own tp_name tp_number tp_fault tp_place q_tp_bytes k_tp_bytes g_tp_bytes)) (va_A (wk_43 a_t q_t_slide q_t_ghost q_t_addresses q_t_values t_rows q_t_hits t_hitCount t_telling t_mostLeft v_t_words v_t_alike q_t_addresses k_t_addresses g_t_addresses q_t_values k_t_values g_t_values a_tp q_tp_bytes tp_length tp_at tp_tokenAt tp_tokenEnd tp_own tp_name tp_number tp_fault tp_place q_tp_bytes k_tp_bytes g_tp_bytes) sz)) 0 0 (va_A (wk_43 a_t q_t_slide q_t_ghost q_t_addresses q_t_values t_rows q_t_hits t_hitCount t_telling t_mostLeft v_t_words v_t_alike q_t_addresses k_t_addresses g_t_addresses q_t_values k_t_values g_t_values a_tp q_tp_bytes tp_length tp_at tp_tokenAt tp_tokenEnd tp_own tp_name tp_number tp_fault tp_place q_tp_bytes k_tp_bytes g_tp_bytes) sz) := by
  refine Met.ofW (cc := cX6_readRows) (maxL := 6) (ret := (some .boolean)) (by decide) rfl ?_
  intro p e s m args below meth c s₁ B hml hv
  obtain ⟨rfl, hsz, hP, hK, hD0, hN⟩ := hv
  have hx := B.exec
  have hb := B.bytes
  have hr := B.returns
  have hts : ∀ w ∈ wA, w.before [.ref a_t, .ref a_tp, .int (iZ p2), .int (iZ p3)].toArray s = true := fun w h => atoms_spec (ws := Cond.code yX6_readRows cX6_readRows 6 (some .boolean) :: wA) B.pre w (List.mem_cons_of_mem _ h)
  have hown : s.vm.findClass RX6 = some m.cls := findClass_of_methodNamed B.named
  have hlocks := B.notSynchronized
  subst hsz
  have hD := hD0.self (sz := s.heap.size)
  generalize hQ : MQ below (va_Qi (fun (r : Int32) (zR : Int) => r = iZ zR ∧ (0 ≤ zR ∧ zR ≤ 1)) (fun zR t => ∃ n_t_rows : Int, ∃ n_g_t_addresses : Nat → Int, ∃ n_g_t_values : Nat → Int, (0 ≤ n_t_rows ∧ n_t_rows ≤ 16) ∧ (∀ j : Nat, j < 16 → -8 ≤ n_g_t_addresses j ∧ n_g_t_addresses j ≤ 159) ∧ va_P (dC, dI) vwCl (wk_43 a_t q_t_slide q_t_ghost q_t_addresses q_t_values n_t_rows q_t_hits t_hitCount t_telling t_mostLeft v_t_words v_t_alike q_t_addresses k_t_addresses n_g_t_addresses q_t_values k_t_values n_g_t_values a_tp q_tp_bytes tp_length tp_at tp_tokenAt tp_tokenEnd tp_own tp_name tp_number tp_fault tp_place q_tp_bytes k_tp_bytes g_tp_bytes) t.heap ∧ va_K (dC, dI) vwCl [(k_t_addresses, .int), (k_t_values, .int), (k_tp_bytes, .int)] t ∧ va_D (va_A (wk_43 a_t q_t_slide q_t_ghost q_t_addresses q_t_values t_rows q_t_hits t_hitCount t_telling t_mostLeft v_t_words v_t_alike q_t_addresses k_t_addresses g_t_addresses q_t_values k_t_values g_t_values a_tp q_tp_bytes tp_length tp_at tp_tokenAt tp_tokenEnd tp_own tp_name tp_number tp_fault tp_place q_tp_bytes k_tp_bytes g_tp_bytes) s.heap.size) (wk_43 a_t q_t_slide q_t_ghost q_t_addresses q_t_values n_t_rows q_t_hits t_hitCount t_telling t_mostLeft v_t_words v_t_alike q_t_addresses k_t_addresses n_g_t_addresses q_t_values k_t_values n_g_t_values a_tp q_tp_bytes tp_length tp_at tp_tokenAt tp_tokenEnd tp_own tp_name tp_number tp_fault tp_place q_tp_bytes k_tp_bytes g_tp_bytes)) (va_A (wk_43 a_t q_t_slide q_t_ghost q_t_addresses q_t_values t_rows q_t_hits t_hitCount t_telling t_mostLeft v_t_words v_t_alike q_t_addresses k_t_addresses g_t_addresses q_t_values k_t_values g_t_values a_tp q_tp_bytes tp_length tp_at tp_tokenAt tp_tokenEnd tp_own tp_name tp_number tp_fault tp_place q_tp_bytes k_tp_bytes g_tp_bytes) s.heap.size)) [.ref a_t, .ref a_tp, .int (iZ p2), .int (iZ p3)].toArray s 0 0 (va_A (wk_43 a_t q_t_slide q_t_ghost q_t_addresses q_t_values t_rows q_t_hits t_hitCount t_telling t_mostLeft v_t_words v_t_alike q_t_addresses k_t_addresses g_t_addresses q_t_values k_t_values g_t_values a_tp q_tp_bytes tp_length tp_at tp_tokenAt tp_tokenEnd tp_own tp_name tp_number tp_fault tp_place q_tp_bytes k_tp_bytes g_tp_bytes) s.heap.size) = Q
  have hA : ∀ q : Nat, s.heap.size ≤ q → va_A (wk_43 a_t q_t_slide q_t_ghost q_t_addresses q_t_values t_rows q_t_hits t_hitCount t_telling t_mostLeft v_t_words v_t_alike q_t_addresses k_t_addresses g_t_addresses q_t_values k_t_values g_t_values a_tp q_tp_bytes tp_length tp_at tp_tokenAt tp_tokenEnd tp_own tp_name tp_number tp_fault tp_place q_tp_bytes k_tp_bytes g_tp_bytes) s.heap.size q := fun q h => Or.inr h
  generalize hAe : va_A (wk_43 a_t q_t_slide q_t_ghost q_t_addresses q_t_values t_rows q_t_hits t_hitCount t_telling t_mostLeft v_t_words v_t_alike q_t_addresses k_t_addresses g_t_addresses q_t_values k_t_values g_t_values a_tp q_tp_bytes tp_length tp_at tp_tokenAt tp_tokenEnd tp_own tp_name tp_number tp_fault tp_place q_tp_bytes k_tp_bytes g_tp_bytes) s.heap.size = A at hD hA hQ
  have hS : va_S A s.heap s.heap [] := va_S.rf
  have hl := lv_entry ([.ref a_t, .ref a_tp, .int (iZ p2), .int (iZ p3)]) (n := 6) (Nat.le_of_ble_eq_true rfl)
  rw [lg_entry_eq]
  generalize (lg_sl ([.ref a_t, .ref a_tp, .int (iZ p2), .int (iZ p3)]) ++ List.replicate (6 - (lg_sl ([.ref a_t, .ref a_tp, .int (iZ p2), .int (iZ p3)])).length) Slot.unset).toArray = ls at hl ⊢
  have hl : lv_has ls 6 [(0, .ref a_t), (1, .ref a_tp), (2, .int (iZ p2)), (3, .int (iZ p3))] := hl
  refine lv_aload_n hx hb dX6_readRows_0 rfl (lv_at hl 1 rfl) ?_
  refine va_get (D := (dC, dI)) (ci := 10) (v := .int (iZ tp_length)) (C := RX10) (T := TX10) (N := 10) hx hb hts i_X10 hown hK hP 3 rfl rfl 1 (by decide) (hts _ q_1441) (fun _ h9 => h9) rfl dX6_readRows_1 ?_
  refine lv_iconst (v := iZ 4) hx hb dX6_readRows_4 (by decide) ?_
  refine zv_idiv hx hb (by omega) (by omega) dX6_readRows_5 (fun z39877 ez39877 => ?_)
  refine lv_istore (lv' := [(4, .int (iZ z39877)), (0, .ref a_t), (1, .ref a_tp), (2, .int (iZ p2)), (3, .int (iZ p3))]) hx hb dX6_readRows_6 hl (by decide) rfl (fun ls hl => ?_)
  refine lv_aload_n hx hb dX6_readRows_8 rfl (lv_at hl 2 rfl) ?_
  refine va_get (D := (dC, dI)) (ci := 10) (v := .int (iZ tp_length)) (C := RX10) (T := TX10) (N := 10) hx hb hts i_X10 hown hK hP 3 rfl rfl 1 (by decide) (hts _ q_1441) (fun _ h9 => h9) rfl dX6_readRows_9 ?_
  refine lv_iconst (v := iZ 4) hx hb dX6_readRows_12 (by decide) ?_
  refine zv_irem hx hb (by omega) (by omega) dX6_readRows_13 (fun z39878 ez39878 => ?_)
  refine zv_if_ne (tgt := 30) hx hb dX6_readRows_14 (by decide) (by omega) (fun c39879 => ?_) (fun c39879 => ?_)
  · refine lv_iconst (v := iZ 0) hx hb dX6_readRows_30 (by decide) ?_
    subst hQ
    exact W.zret (v := iZ 0) hx hb hr rfl (fun t ht hW => ⟨⟨iZ 0, 0, rfl, ⟨rfl, by omega⟩, t_rows, g_t_addresses, g_t_values, by omega, hb_g_t_addresses, by rw [ht]; exact hP, va_K.moved hW.alike hK, hD⟩, hS.F ht⟩) hS.2.2 dX6_readRows_31
  · refine lv_iload hx hb dX6_readRows_17 (lv_at hl 0 rfl) ?_
    refine lv_iconst (v := iZ 1) hx hb dX6_readRows_19 (by decide) ?_
    refine zv_icmp_lt (tgt := 30) hx hb dX6_readRows_20 (by decide) (by omega) (by omega) (fun c39880 => ?_) (fun c39880 => ?_)
    · refine lv_iconst (v := iZ 0) hx hb dX6_readRows_30 (by decide) ?_
      subst hQ
      exact W.zret (v := iZ 0) hx hb hr rfl (fun t ht hW => ⟨⟨iZ 0, 0, rfl, ⟨rfl, by omega⟩, t_rows, g_t_addresses, g_t_values, by omega, hb_g_t_addresses, by rw [ht]; exact hP, va_K.moved hW.alike hK, hD⟩, hS.F ht⟩) hS.2.2 dX6_readRows_31
    · refine lv_iload hx hb dX6_readRows_23 (lv_at hl 0 rfl) ?_
      refine lv_bipush (v := iZ 16) hx hb dX6_readRows_25 (by decide) ?_
      refine zv_icmp_le (tgt := 32) hx hb dX6_readRows_27 (by decide) (by omega) (by omega) (fun c39881 => ?_) (fun c39881 => ?_)
      · refine lv_iconst (v := iZ 0) hx hb dX6_readRows_32 (by decide) ?_
        refine lv_istore (lv' := [(5, .int (iZ 0)), (4, .int (iZ z39877)), (0, .ref a_t), (1, .ref a_tp), (2, .int (iZ p2)), (3, .int (iZ p3))]) hx hb dX6_readRows_33 hl (by decide) rfl (fun ls hl => ?_)
        have hG39882 : RwC g_tp_bytes 0 := RwC_init
        have lp_35 : ∀ (N35 : Nat) (H : Heap) (locs : List Loc) (ls : Array Slot) (i39889 : Int), 0 ≤ i39889 → 0 ≤ -i39889 + z39877 → RwC g_tp_bytes i39889 → -i39889 + z39877 ≤ (N35 : Int) → va_P (dC, dI) vwCl (wk_43 a_t q_t_slide q_t_ghost q_t_addresses q_t_values t_rows q_t_hits t_hitCount t_telling t_mostLeft v_t_words v_t_alike q_t_addresses k_t_addresses g_t_addresses q_t_values k_t_values g_t_values a_tp q_tp_bytes tp_length tp_at tp_tokenAt tp_tokenEnd tp_own tp_name tp_number tp_fault tp_place q_tp_bytes k_tp_bytes g_tp_bytes) H → va_D A (wk_43 a_t q_t_slide q_t_ghost q_t_addresses q_t_values t_rows q_t_hits t_hitCount t_telling t_mostLeft v_t_words v_t_alike q_t_addresses k_t_addresses g_t_addresses q_t_values k_t_values g_t_values a_tp q_tp_bytes tp_length tp_at tp_tokenAt tp_tokenEnd tp_own tp_name tp_number tp_fault tp_place q_tp_bytes k_tp_bytes g_tp_bytes) → va_S A s.heap H locs → lv_has ls 6 [(0, .ref a_t), (1, .ref a_tp), (2, .int (iZ p2)), (3, .int (iZ p3)), (4, .int (iZ z39877)), (5, .int (iZ i39889))] → W p l e (headSpec (Cond.code yX6_readRows cX6_readRows 6 (some .boolean) :: wA) ({ frames := 2, cells := 0, slots := 0, locals := 45 })).room s m [.ref a_t, .ref a_tp, .int (iZ p2), .int (iZ p3)].toArray below meth c H locs 0 0 Q (F0 m 35 ls []) := by
          intro N35
          induction N35 using Nat.strongRecOn with
          | ind N35 ih_35 =>
            intro H locs ls i39889 k35_0 k35_1 hL35_0 hm35 hP hD hS hl
            refine lv_iload hx hb dX6_readRows_35 (lv_at hl 5 rfl) ?_
            refine lv_iload hx hb dX6_readRows_37 (lv_at hl 4 rfl) ?_
            refine zv_icmp_ge (tgt := 66) hx hb dX6_readRows_39 (by decide) (by omega) (by omega) (fun c39926 => ?_) (fun c39926 => ?_)
            · refine lv_iconst (v := iZ 0) hx hb dX6_readRows_66 (by decide) ?_
              refine lv_istore (lv' := [(5, .int (iZ 0)), (0, .ref a_t), (1, .ref a_tp), (2, .int (iZ p2)), (3, .int (iZ p3)), (4, .int (iZ z39877))]) hx hb dX6_readRows_67 hl (by decide) rfl (fun ls hl => ?_)
              have lp_69 : ∀ (N69 : Nat) (H : Heap) (locs : List Loc) (ls : Array Slot) (i39943 : Int) (g39941 : Nat → Int) (g39942 : Nat → Int), 0 ≤ i39943 → 0 ≤ -i39943 + z39877 → (∀ j : Nat, j < 16 → -8 ≤ g39941 j ∧ g39941 j ≤ 159) → -i39943 + z39877 ≤ (N69 : Int) → va_P (dC, dI) vwCl (wk_43 a_t q_t_slide q_t_ghost q_t_addresses q_t_values t_rows q_t_hits t_hitCount t_telling t_mostLeft v_t_words v_t_alike q_t_addresses k_t_addresses g39941 q_t_values k_t_values g39942 a_tp q_tp_bytes tp_length tp_at tp_tokenAt tp_tokenEnd tp_own tp_name tp_number tp_fault tp_place q_tp_bytes k_tp_bytes g_tp_bytes) H → va_D A (wk_43 a_t q_t_slide q_t_ghost q_t_addresses q_t_values t_rows q_t_hits t_hitCount t_telling t_mostLeft v_t_words v_t_alike q_t_addresses k_t_addresses g39941 q_t_values k_t_values g39942 a_tp q_tp_bytes tp_length tp_at tp_tokenAt tp_tokenEnd tp_own tp_name tp_number tp_fault tp_place q_tp_bytes k_tp_bytes g_tp_bytes) → va_S A s.heap H locs → lv_has ls 6 [(0, .ref a_t), (1, .ref a_tp), (2, .int (iZ p2)), (3, .int (iZ p3)), (4, .int (iZ z39877)), (5, .int (iZ i39943))] → W p l e (headSpec (Cond.code yX6_readRows cX6_readRows 6 (some .boolean) :: wA) ({ frames := 2, cells := 0, slots := 0, locals := 45 })).room s m [.ref a_t, .ref a_tp, .int (iZ p2), .int (iZ p3)].toArray below meth c H locs 0 0 Q (F0 m 69 ls []) := by
                intro N69
                induction N69 using Nat.strongRecOn with
                | ind N69 ih_69 =>
                  intro H locs ls i39943 g39941 g39942 k69_0 k69_1 hb_g39941 hm69 hP hD hS hl
                  refine lv_iload hx hb dX6_readRows_69 (lv_at hl 5 rfl) ?_
                  refine lv_iload hx hb dX6_readRows_71 (lv_at hl 4 rfl) ?_
                  refine zv_icmp_ge (tgt := 136) hx hb dX6_readRows_73 (by decide) (by omega) (by omega) (fun c40028 => ?_) (fun c40028 => ?_)
                  · refine lv_aload_n hx hb dX6_readRows_136 rfl (lv_at hl 0 rfl) ?_
                    refine lv_iload hx hb dX6_readRows_137 (lv_at hl 4 rfl) ?_
                    refine va_put (D := (dC, dI)) (ci := 6) (v := .int (iZ z39877)) (ty := tyX6 4) (C := RX6) (T := TX6) (N := 11) hx hb hts i_X6 tyX6 tyX6_ok nmX6 hown hK hP hD hS 0 rfl rfl 4 (by decide) (hts _ q_1421) (fun _ h9 => h9) rfl (tyX6_ok 4 (by decide)) rfl rfl (Nat.le_of_ble_eq_true rfl) dX6_readRows_139 (fun H locs hP hD hS => ?_)
                    have hP : va_P (dC, dI) vwCl (wk_43 a_t q_t_slide q_t_ghost q_t_addresses q_t_values z39877 q_t_hits t_hitCount t_telling t_mostLeft v_t_words v_t_alike q_t_addresses k_t_addresses g39941 q_t_values k_t_values g39942 a_tp q_tp_bytes tp_length tp_at tp_tokenAt tp_tokenEnd tp_own tp_name tp_number tp_fault tp_place q_tp_bytes k_tp_bytes g_tp_bytes) H := hP
                    have hD : va_D A (wk_43 a_t q_t_slide q_t_ghost q_t_addresses q_t_values z39877 q_t_hits t_hitCount t_telling t_mostLeft v_t_words v_t_alike q_t_addresses k_t_addresses g39941 q_t_values k_t_values g39942 a_tp q_tp_bytes tp_length tp_at tp_tokenAt tp_tokenEnd tp_own tp_name tp_number tp_fault tp_place q_tp_bytes k_tp_bytes g_tp_bytes) := hD
                    refine lv_iconst (v := iZ 1) hx hb dX6_readRows_142 (by decide) ?_
                    subst hQ
                    exact W.zret (v := iZ 1) hx hb hr rfl (fun t ht hW => ⟨⟨iZ 1, 1, rfl, ⟨rfl, by omega⟩, z39877, g39941, g39942, by omega, hb_g39941, by rw [ht]; exact hP, va_K.moved hW.alike hK, hD⟩, hS.F ht⟩) hS.2.2 dX6_readRows_143
                  · refine lv_aload_n hx hb dX6_readRows_76 rfl (lv_at hl 0 rfl) ?_
                    refine va_get (D := (dC, dI)) (ci := 6) (v := .ref q_t_addresses) (C := RX6) (T := TX6) (N := 11) hx hb hts i_X6 hown hK hP 0 rfl rfl 2 (by decide) (hts _ q_1419) (fun _ h9 => h9) rfl dX6_readRows_77 ?_
                    refine lv_iload hx hb dX6_readRows_80 (lv_at hl 5 rfl) ?_
                    refine lv_aload_n hx hb dX6_readRows_82 rfl (lv_at hl 1 rfl) ?_
                    refine va_get (D := (dC, dI)) (ci := 10) (v := .ref q_tp_bytes) (C := RX10) (T := TX10) (N := 10) hx hb hts i_X10 hown hK hP 3 rfl rfl 0 (by decide) (hts _ q_1442) (fun _ h9 => h9) rfl dX6_readRows_83 ?_
                    refine lv_iload hx hb dX6_readRows_86 (lv_at hl 5 rfl) ?_
                    refine lv_iconst (v := iZ 4) hx hb dX6_readRows_88 (by decide) ?_
                    refine zv_imul hx hb (4 * i39943) (by omega) dX6_readRows_89 ?_
                    refine zv_iald hx hb hK hP 4 2 rfl rfl (by omega) (by omega) (by omega) dX6_readRows_90 (fun z40029 ez40029 => ?_)
                    have bz40029 : 0 ≤ z40029 ∧ z40029 ≤ 255 := by rw [ez40029]; exact hb_g_tp_bytes _ (by omega)
                    have hq40030 := RwC_at (r := i39943) (i := 4 * i39943) hL35_0 (by omega) (by omega) (by omega) ez40029
                    have hPc := hP.sub (ws' := []) [] rfl
                    have hDc := hD.sub (ws' := []) [] (by decide) rfl
                    have hKc := hK.sub (tys' := []) [] rfl
                    have hFc := va_free (wc := []) hD hS hA [] rfl
                    refine va_calli (va_runS (As := [.int (iZ z40029)]) (rest := [.int (iZ i39943), .ref q_t_addresses]) ⟨hx, hb, hml, hown, hts⟩ (z_X6_addressOf l dC dI z40029 H.size (by omega)) (va_cwS 1 hts (gS q_1435 q_1436 q_388 q_1415) rfl rfl rfl mds_yX6_addressOf ⟨Nat.le_of_ble_eq_true rfl, Nat.le_of_ble_eq_true rfl⟩) ⟨fun a U g mk q => by obtain ⟨q0, q1, qP, qK, qD, qN⟩ := q; exact ⟨q0, q1, qP, va_K.moved (u := U) (U := U.calling g mk a) (Vm.Alike.refl U.vm) qK, qD, nwAll_same (u := U) (U := U.calling g mk a) rfl qN⟩, fun U hU hW => ⟨rfl, by rw [hU], by rw [hU]; exact hPc, va_K.moved hW.alike hKc, hDc.weaken (fun _ _ _ _ => trivial), nwAll_warm hW hN⟩⟩ rfl rfl hl.1 rfl (lv_room (Nat.le_of_ble_eq_true rfl)) dX6_readRows_91 ⟨Nat.le_of_ble_eq_true rfl, Nat.le_of_ble_eq_true rfl⟩) hS (fun q _ h => hFc q h) hFc (fun r40031 z40032 t H1 locs ht hvm hw hB hz1 hk1 hS => ?_)
                    obtain ⟨rfl, h40033, h40034⟩ := hw
                    obtain ⟨hP1, hK1, hD1⟩ := hB
                    rw [ht] at hP1
                    obtain ⟨hP, hD⟩ := va_join (wr := (wk_43 a_t q_t_slide q_t_ghost q_t_addresses q_t_values t_rows q_t_hits t_hitCount t_telling t_mostLeft v_t_words v_t_alike q_t_addresses k_t_addresses g39941 q_t_values k_t_values g39942 a_tp q_tp_bytes tp_length tp_at tp_tokenAt tp_tokenEnd tp_own tp_name tp_number tp_fault tp_place q_tp_bytes k_tp_bytes g_tp_bytes)) (w1 := []) hP hD [] [0, 1, 2, 3, 4] rfl rfl (by decide) (by decide) hk1 hFc hP1 hD1
                    generalize H1 = H at hP hS ⊢
                    have hP : va_P (dC, dI) vwCl (wk_43 a_t q_t_slide q_t_ghost q_t_addresses q_t_values t_rows q_t_hits t_hitCount t_telling t_mostLeft v_t_words v_t_alike q_t_addresses k_t_addresses g39941 q_t_values k_t_values g39942 a_tp q_tp_bytes tp_length tp_at tp_tokenAt tp_tokenEnd tp_own tp_name tp_number tp_fault tp_place q_tp_bytes k_tp_bytes g_tp_bytes) H := hP
                    have hD : va_D A (wk_43 a_t q_t_slide q_t_ghost q_t_addresses q_t_values t_rows q_t_hits t_hitCount t_telling t_mostLeft v_t_words v_t_alike q_t_addresses k_t_addresses g39941 q_t_values k_t_values g39942 a_tp q_tp_bytes tp_length tp_at tp_tokenAt tp_tokenEnd tp_own tp_name tp_number tp_fault tp_place q_tp_bytes k_tp_bytes g_tp_bytes) := hD
                    refine zv_iast hx hb hK hP hD hS 1 0 rfl rfl (by omega) (by omega) (by omega) dX6_readRows_94 (fun g40035 H locs eg40035 hP hD hS => ?_)
                    have hb_g40035 : ∀ j : Nat, j < 16 → -8 ≤ g40035 j ∧ g40035 j ≤ 159 := by rw [eg40035]; exact zb_upd (P := fun v => -8 ≤ v ∧ v ≤ 159) hb_g39941 (by omega)
                    have hP : va_P (dC, dI) vwCl (wk_43 a_t q_t_slide q_t_ghost q_t_addresses q_t_values t_rows q_t_hits t_hitCount t_telling t_mostLeft v_t_words v_t_alike q_t_addresses k_t_addresses g40035 q_t_values k_t_values g39942 a_tp q_tp_bytes tp_length tp_at tp_tokenAt tp_tokenEnd tp_own tp_name tp_number tp_fault tp_place q_tp_bytes k_tp_bytes g_tp_bytes) H := hP
                    have hD : va_D A (wk_43 a_t q_t_slide q_t_ghost q_t_addresses q_t_values t_rows q_t_hits t_hitCount t_telling t_mostLeft v_t_words v_t_alike q_t_addresses k_t_addresses g40035 q_t_values k_t_values g39942 a_tp q_tp_bytes tp_length tp_at tp_tokenAt tp_tokenEnd tp_own tp_name tp_number tp_fault tp_place q_tp_bytes k_tp_bytes g_tp_bytes) := hD
                    refine lv_aload_n hx hb dX6_readRows_95 rfl (lv_at hl 0 rfl) ?_
                    refine va_get (D := (dC, dI)) (ci := 6) (v := .ref q_t_values) (C := RX6) (T := TX6) (N := 11) hx hb hts i_X6 hown hK hP 0 rfl rfl 3 (by decide) (hts _ q_1420) (fun _ h9 => h9) rfl dX6_readRows_96 ?_
                    refine lv_iload hx hb dX6_readRows_99 (lv_at hl 5 rfl) ?_
                    refine lv_aload_n hx hb dX6_readRows_101 rfl (lv_at hl 1 rfl) ?_
                    refine va_get (D := (dC, dI)) (ci := 10) (v := .ref q_tp_bytes) (C := RX10) (T := TX10) (N := 10) hx hb hts i_X10 hown hK hP 3 rfl rfl 0 (by decide) (hts _ q_1442) (fun _ h9 => h9) rfl dX6_readRows_102 ?_
                    refine lv_iload hx hb dX6_readRows_105 (lv_at hl 5 rfl) ?_
                    refine lv_iconst (v := iZ 4) hx hb dX6_readRows_107 (by decide) ?_
                    refine zv_imul hx hb (4 * i39943) (by omega) dX6_readRows_108 ?_
                    refine lv_iconst (v := iZ 1) hx hb dX6_readRows_109 (by decide) ?_
                    refine zv_iadd hx hb (4 * i39943 + 1) (by omega) dX6_readRows_110 ?_
                    refine zv_iald hx hb hK hP 4 2 rfl rfl (by omega) (by omega) (by omega) dX6_readRows_111 (fun z40036 ez40036 => ?_)
                    have bz40036 : 0 ≤ z40036 ∧ z40036 ≤ 255 := by rw [ez40036]; exact hb_g_tp_bytes _ (by omega)
                    refine lv_bipush (v := iZ 11) hx hb dX6_readRows_112 (by decide) ?_
                    refine zv_sl11 hx hb (by omega) dX6_readRows_114 (fun z40037 ez40037 => ?_)
                    refine lv_aload_n hx hb dX6_readRows_115 rfl (lv_at hl 1 rfl) ?_
                    refine va_get (D := (dC, dI)) (ci := 10) (v := .ref q_tp_bytes) (C := RX10) (T := TX10) (N := 10) hx hb hts i_X10 hown hK hP 3 rfl rfl 0 (by decide) (hts _ q_1442) (fun _ h9 => h9) rfl dX6_readRows_116 ?_
                    refine lv_iload hx hb dX6_readRows_119 (lv_at hl 5 rfl) ?_
                    refine lv_iconst (v := iZ 4) hx hb dX6_readRows_121 (by decide) ?_
                    refine zv_imul hx hb (4 * i39943) (by omega) dX6_readRows_122 ?_
                    refine lv_iconst (v := iZ 2) hx hb dX6_readRows_123 (by decide) ?_
                    refine zv_iadd hx hb (4 * i39943 + 2) (by omega) dX6_readRows_124 ?_
                    have hPc := hP.sub (ws' := (wk_24 q_tp_bytes k_tp_bytes g_tp_bytes)) [4] rfl
                    have hDc := hD.sub (ws' := (wk_24 q_tp_bytes k_tp_bytes g_tp_bytes)) [4] (by decide) rfl
                    have hKc := hK.sub (tys' := [(k_tp_bytes, .int)]) [2] rfl
                    have hFc := va_free (wc := (wk_24 q_tp_bytes k_tp_bytes g_tp_bytes)) hD hS hA [4] rfl
                    refine va_calli (va_runS (As := [.ref q_tp_bytes, .int (iZ (4 * i39943 + 2))]) (rest := [.int (iZ z40037), .int (iZ i39943), .ref q_t_values]) ⟨hx, hb, hml, hown, hts⟩ (z_X6_rawNumber l dC dI q_tp_bytes (4 * i39943 + 2) k_tp_bytes g_tp_bytes H.size hb_g_tp_bytes (by omega)) (va_cwS 2 hts (gS q_1432 q_1433 q_388 q_1434) rfl rfl rfl mds_yX6_rawNumber ⟨Nat.le_of_ble_eq_true rfl, Nat.le_of_ble_eq_true rfl⟩) ⟨fun a U g mk q => by obtain ⟨q0, q1, qP, qK, qD, qN⟩ := q; exact ⟨q0, q1, qP, va_K.moved (u := U) (U := U.calling g mk a) (Vm.Alike.refl U.vm) qK, qD, nwAll_same (u := U) (U := U.calling g mk a) rfl qN⟩, fun U hU hW => ⟨rfl, by rw [hU], by rw [hU]; exact hPc, va_K.moved hW.alike hKc, hDc.weaken (fun _ _ _ _ => trivial), nwAll_warm hW hN⟩⟩ rfl rfl hl.1 rfl (lv_room (Nat.le_of_ble_eq_true rfl)) dX6_readRows_125 ⟨Nat.le_of_ble_eq_true rfl, Nat.le_of_ble_eq_true rfl⟩) hS (fun q _ h => hFc q h) hFc (fun r40038 z40039 t H1 locs ht hvm hw hB hz1 hk1 hS => ?_)
                    obtain ⟨rfl, h40040⟩ := hw
                    obtain ⟨hP1, hK1, hD1⟩ := hB
                    rw [ht] at hP1
                    obtain ⟨hP, hD⟩ := va_join (wr := (wk_44 a_t q_t_slide q_t_ghost q_t_addresses q_t_values t_rows q_t_hits t_hitCount t_telling t_mostLeft v_t_words v_t_alike q_t_addresses k_t_addresses g40035 q_t_values k_t_values g39942 a_tp q_tp_bytes tp_length tp_at tp_tokenAt tp_tokenEnd tp_own tp_name tp_number tp_fault tp_place)) (w1 := (wk_24 q_tp_bytes k_tp_bytes g_tp_bytes)) hP hD [4] [0, 1, 2, 3] rfl rfl (by decide) (by decide) hk1 hFc hP1 hD1
                    generalize H1 = H at hP hS ⊢
                    have hP : va_P (dC, dI) vwCl (wk_43 a_t q_t_slide q_t_ghost q_t_addresses q_t_values t_rows q_t_hits t_hitCount t_telling t_mostLeft v_t_words v_t_alike q_t_addresses k_t_addresses g40035 q_t_values k_t_values g39942 a_tp q_tp_bytes tp_length tp_at tp_tokenAt tp_tokenEnd tp_own tp_name tp_number tp_fault tp_place q_tp_bytes k_tp_bytes g_tp_bytes) H := hP
                    have hD : va_D A (wk_43 a_t q_t_slide q_t_ghost q_t_addresses q_t_values t_rows q_t_hits t_hitCount t_telling t_mostLeft v_t_words v_t_alike q_t_addresses k_t_addresses g40035 q_t_values k_t_values g39942 a_tp q_tp_bytes tp_length tp_at tp_tokenAt tp_tokenEnd tp_own tp_name tp_number tp_fault tp_place q_tp_bytes k_tp_bytes g_tp_bytes) := hD
                    refine zv_iadd hx hb (z40037 + z40039) (by omega) dX6_readRows_128 ?_
                    refine zv_iast hx hb hK hP hD hS 2 1 rfl rfl (by omega) (by omega) (by omega) dX6_readRows_129 (fun g40041 H locs eg40041 hP hD hS => ?_)
                    have hP : va_P (dC, dI) vwCl (wk_43 a_t q_t_slide q_t_ghost q_t_addresses q_t_values t_rows q_t_hits t_hitCount t_telling t_mostLeft v_t_words v_t_alike q_t_addresses k_t_addresses g40035 q_t_values k_t_values g40041 a_tp q_tp_bytes tp_length tp_at tp_tokenAt tp_tokenEnd tp_own tp_name tp_number tp_fault tp_place q_tp_bytes k_tp_bytes g_tp_bytes) H := hP
                    have hD : va_D A (wk_43 a_t q_t_slide q_t_ghost q_t_addresses q_t_values t_rows q_t_hits t_hitCount t_telling t_mostLeft v_t_words v_t_alike q_t_addresses k_t_addresses g40035 q_t_values k_t_values g40041 a_tp q_tp_bytes tp_length tp_at tp_tokenAt tp_tokenEnd tp_own tp_name tp_number tp_fault tp_place q_tp_bytes k_tp_bytes g_tp_bytes) := hD
                    refine lv_iinc (v := iZ (i39943 + 1)) (lv' := [(5, .int (iZ (i39943 + 1))), (0, .ref a_t), (1, .ref a_tp), (2, .int (iZ p2)), (3, .int (iZ p3)), (4, .int (iZ z39877))]) hx hb dX6_readRows_130 hl (k := 5) rfl (iZ_inc (by omega)) (by decide) rfl (fun ls hl => ?_)
                    refine lv_goto (tgt := 69) hx hb dX6_readRows_133 (by decide) ?_
                    exact ih_69 (N69 - 1) (by omega) _ _ _ (i39943 + 1) g40035 g40041 (by omega) (by omega) hb_g40035 (by omega) hP hD hS (lv_sub hl [1, 2, 3, 4, 5, 0] rfl)
              exact lp_69 ((z39877 : Int)).toNat _ _ _ 0 g_t_addresses g_t_values (by omega) (by omega) hb_g_t_addresses (by omega) hP hD hS (lv_sub hl [1, 2, 3, 4, 5, 0] rfl)
            · refine lv_aload_n hx hb dX6_readRows_42 rfl (lv_at hl 1 rfl) ?_
              refine va_get (D := (dC, dI)) (ci := 10) (v := .ref q_tp_bytes) (C := RX10) (T := TX10) (N := 10) hx hb hts i_X10 hown hK hP 3 rfl rfl 0 (by decide) (hts _ q_1442) (fun _ h9 => h9) rfl dX6_readRows_43 ?_
              refine lv_iload hx hb dX6_readRows_46 (lv_at hl 5 rfl) ?_
              refine lv_iconst (v := iZ 4) hx hb dX6_readRows_48 (by decide) ?_
              refine zv_imul hx hb (4 * i39889) (by omega) dX6_readRows_49 ?_
              refine lv_iload_n hx hb dX6_readRows_50 rfl (lv_at hl 2 rfl) ?_
              refine lv_iload_n hx hb dX6_readRows_51 rfl (lv_at hl 3 rfl) ?_
              have hPc := hP.sub (ws' := (wk_24 q_tp_bytes k_tp_bytes g_tp_bytes)) [4] rfl
              have hDc := hD.sub (ws' := (wk_24 q_tp_bytes k_tp_bytes g_tp_bytes)) [4] (by decide) rfl
              have hKc := hK.sub (tys' := [(k_tp_bytes, .int)]) [2] rfl
              have hFc := va_free (wc := (wk_24 q_tp_bytes k_tp_bytes g_tp_bytes)) hD hS hA [4] rfl
              refine va_calli (va_runS (As := [.ref q_tp_bytes, .int (iZ (4 * i39889)), .int (iZ p2), .int (iZ p3)]) (rest := []) ⟨hx, hb, hml, hown, hts⟩ (z_X6_isRow l dC dI q_tp_bytes (4 * i39889) p2 p3 k_tp_bytes g_tp_bytes H.size hb_g_tp_bytes (by omega) (by omega) (by omega)) (va_cwS 4 hts (gS q_1443 q_1444 q_388 q_1431) rfl rfl rfl mds_yX6_isRow ⟨Nat.le_of_ble_eq_true rfl, Nat.le_of_ble_eq_true rfl⟩) ⟨fun a U g mk q => by obtain ⟨q0, q1, qP, qK, qD, qN⟩ := q; exact ⟨q0, q1, qP, va_K.moved (u := U) (U := U.calling g mk a) (Vm.Alike.refl U.vm) qK, qD, nwAll_same (u := U) (U := U.calling g mk a) rfl qN⟩, fun U hU hW => ⟨rfl, by rw [hU], by rw [hU]; exact hPc, va_K.moved hW.alike hKc, hDc.weaken (fun _ _ _ _ => trivial), nwAll_warm hW hN⟩⟩ rfl rfl hl.1 rfl (lv_room (Nat.le_of_ble_eq_true rfl)) dX6_readRows_52 ⟨Nat.le_of_ble_eq_true rfl, Nat.le_of_ble_eq_true rfl⟩) hS (fun q _ h => hFc q h) hFc (fun r40042 z40043 t H1 locs ht hvm hw hB hz1 hk1 hS => ?_)
              obtain ⟨rfl, h40044, h40045⟩ := hw
              obtain ⟨hP1, hK1, hD1⟩ := hB
              rw [ht] at hP1
              obtain ⟨hP, hD⟩ := va_join (wr := (wk_44 a_t q_t_slide q_t_ghost q_t_addresses q_t_values t_rows q_t_hits t_hitCount t_telling t_mostLeft v_t_words v_t_alike q_t_addresses k_t_addresses g_t_addresses q_t_values k_t_values g_t_values a_tp q_tp_bytes tp_length tp_at tp_tokenAt tp_tokenEnd tp_own tp_name tp_number tp_fault tp_place)) (w1 := (wk_24 q_tp_bytes k_tp_bytes g_tp_bytes)) hP hD [4] [0, 1, 2, 3] rfl rfl (by decide) (by decide) hk1 hFc hP1 hD1
              generalize H1 = H at hP hS ⊢
              have hP : va_P (dC, dI) vwCl (wk_43 a_t q_t_slide q_t_ghost q_t_addresses q_t_values t_rows q_t_hits t_hitCount t_telling t_mostLeft v_t_words v_t_alike q_t_addresses k_t_addresses g_t_addresses q_t_values k_t_values g_t_values a_tp q_tp_bytes tp_length tp_at tp_tokenAt tp_tokenEnd tp_own tp_name tp_number tp_fault tp_place q_tp_bytes k_tp_bytes g_tp_bytes) H := hP
              have hD : va_D A (wk_43 a_t q_t_slide q_t_ghost q_t_addresses q_t_values t_rows q_t_hits t_hitCount t_telling t_mostLeft v_t_words v_t_alike q_t_addresses k_t_addresses g_t_addresses q_t_values k_t_values g_t_values a_tp q_tp_bytes tp_length tp_at tp_tokenAt tp_tokenEnd tp_own tp_name tp_number tp_fault tp_place q_tp_bytes k_tp_bytes g_tp_bytes) := hD
              refine zv_if_ne (tgt := 60) hx hb dX6_readRows_55 (by decide) (by omega) (fun c40046 => ?_) (fun c40046 => ?_)
              · refine lv_iinc (v := iZ (i39889 + 1)) (lv' := [(5, .int (iZ (i39889 + 1))), (0, .ref a_t), (1, .ref a_tp), (2, .int (iZ p2)), (3, .int (iZ p3)), (4, .int (iZ z39877))]) hx hb dX6_readRows_60 hl (k := 5) rfl (iZ_inc (by omega)) (by decide) rfl (fun ls hl => ?_)
                refine lv_goto (tgt := 35) hx hb dX6_readRows_63 (by decide) ?_
                have hG40047 : RwC g_tp_bytes (i39889 + 1) := RwC_step (i := 4 * i39889) hL35_0 (by omega) (by omega)
                exact ih_35 (N35 - 1) (by omega) _ _ _ (i39889 + 1) (by omega) (by omega) hG40047 (by omega) hP hD hS (lv_sub hl [1, 2, 3, 4, 5, 0] rfl)
              · refine lv_iconst (v := iZ 0) hx hb dX6_readRows_58 (by decide) ?_
                subst hQ
                exact W.zret (v := iZ 0) hx hb hr rfl (fun t ht hW => ⟨⟨iZ 0, 0, rfl, ⟨rfl, by omega⟩, t_rows, g_t_addresses, g_t_values, by omega, hb_g_t_addresses, by rw [ht]; exact hP, va_K.moved hW.alike hK, hD⟩, hS.F ht⟩) hS.2.2 dX6_readRows_59
        exact lp_35 ((z39877 : Int)).toNat _ _ _ 0 (by omega) (by omega) hG39882 (by omega) hP hD hS (lv_sub hl [2, 3, 4, 5, 1, 0] rfl)
      · refine lv_iconst (v := iZ 0) hx hb dX6_readRows_30 (by decide) ?_
        subst hQ
        exact W.zret (v := iZ 0) hx hb hr rfl (fun t ht hW => ⟨⟨iZ 0, 0, rfl, ⟨rfl, by omega⟩, t_rows, g_t_addresses, g_t_values, by omega, hb_g_t_addresses, by rw [ht]; exact hP, va_K.moved hW.alike hK, hD⟩, hS.F ht⟩) hS.2.2 dX6_readRows_31
def wk_45 (a0 : Nat) (x0_0 : Nat) (x0_1 : Nat) (x0_2 : Nat) (x0_3 : Nat) (x0_4 : Int) (x0_5 : Nat) (x0_6 : Int) (x0_7 : Int) (x0_8 : Int) (x0_9 : Value) (x0_10 : Value) (a1 : Nat) (x1_0 : Int) (x1_1 : Int) (x1_2 : Int) (x1_3 : Nat) (x1_4 : Int) (x1_5 : Int) (x1_6 : Nat) (x1_7 : Int) (x1_8 : Int) (x1_9 : Int) (x1_10 : Int) (x1_11 : Int) (x1_12 : Int) (x1_13 : Nat) (a2 : Nat) (c2 : ClassId) (g2 : Nat → Int) (a3 : Nat) (c3 : ClassId) (g3 : Nat → Int) (a4 : Nat) (c4 : ClassId) (g4 : Nat → Int) : va_W := [(a0, .inr (6, [.ref x0_0, .ref x0_1, .ref x0_2, .ref x0_3, .int (iZ x0_4), .ref x0_5, .int (iZ x0_6), .int (iZ x0_7), .int (iZ x0_8), x0_9, x0_10])), (a1, .inr (8, [.int (iZ x1_0), .int (iZ x1_1), .int (iZ x1_2), .ref x1_3, .int (iZ x1_4), .int (iZ x1_5), .ref x1_6, .int (iZ x1_7), .int (iZ x1_8), .int (iZ x1_9), .int (iZ x1_10), .int (iZ x1_11), .int (iZ x1_12), .ref x1_13])), (a2, .inl (c2, 168, .inl (aZ g2))), (a3, .inl (c3, 16, .inl (aZ g3))), (a4, .inl (c4, 16, .inl (aZ g4)))]
set_option maxHeartbeats 4000000 in
set_option maxRecDepth 100000 in
theorem z_X6_isAsSeen (l : Launch) (dC : Nat → ClassId) (dI : Nat → Nat → Nat) (a_t : Nat) (q_t_slide : Nat) (a_gs : Nat) (q_t_addresses : Nat) (q_t_values : Nat) (t_rows : Int) (q_t_hits : Nat) (t_hitCount : Int) (t_telling : Int) (t_mostLeft : Int) (v_t_words : Value) (v_t_alike : Value) (gs_words : Int) (gs_limit : Int) (gs_method : Int) (q_gs_held : Nat) (gs_going : Int) (gs_done : Int) (q_gs_live : Nat) (gs_liveCount : Int) (gs_blocks : Int) (gs_cells : Int) (gs_clearedWeak : Int) (gs_ended : Int) (gs_keptCount : Int) (q_gs_kept : Nat) (k_gs_held : ClassId) (g_gs_held : Nat → Int) (k_t_addresses : ClassId) (g_t_addresses : Nat → Int) (k_t_values : ClassId) (g_t_values : Nat → Int) (sz : Nat) (hb_g_t_addresses : ∀ j : Nat, j < 16 → -8 ≤ g_t_addresses j ∧ g_t_addresses j ≤ 159) (b_t_rows : 0 ≤ t_rows ∧ t_rows ≤ 16) (b_t_hitCount : 0 ≤ t_hitCount ∧ t_hitCount ≤ 331) (b_t_telling : -1 ≤ t_telling ∧ t_telling ≤ 159) (b_t_mostLeft : -2147483648 ≤ t_mostLeft ∧ t_mostLeft ≤ 2147483647) (b_gs_words : 0 ≤ gs_words ∧ gs_words ≤ 160) (b_gs_limit : 0 ≤ gs_limit ∧ gs_limit ≤ 160) (b_gs_method : 0 ≤ gs_method ∧ gs_method ≤ 1) (hb_g_gs_held : ∀ j : Nat, j < 168 → (0 ≤ g_gs_held j ∧ g_gs_held j ≤ 1999) ∨ (3047 ≤ g_gs_held j ∧ g_gs_held j ≤ 3207) ∨ (5096 ≤ g_gs_held j ∧ g_gs_held j ≤ 5101) ∨ (7136 ≤ g_gs_held j ∧ g_gs_held j ≤ 7303)) (b_gs_going : 0 ≤ gs_going ∧ gs_going ≤ 1) (b_gs_done : 0 ≤ gs_done ∧ gs_done ≤ 400) (b_gs_liveCount : 0 ≤ gs_liveCount ∧ gs_liveCount ≤ 160) (b_gs_blocks : 0 ≤ gs_blocks ∧ gs_blocks ≤ 160) (b_gs_cells : -2147483648 ≤ gs_cells ∧ gs_cells ≤ 2147483647) (b_gs_clearedWeak : -2147483648 ≤ gs_clearedWeak ∧ gs_clearedWeak ≤ 2147483647) (b_gs_ended : -2147483648 ≤ gs_ended ∧ gs_ended ≤ 2147483647) (b_gs_keptCount : 0 ≤ gs_keptCount ∧ gs_keptCount ≤ 20) : Met l yX6_isAsSeen (Cond.code yX6_isAsSeen cX6_isAsSeen 2 (some .boolean) :: wA) ({ frames := 0, cells := 0, slots := 0, locals := 0 }) (va_Pc [.ref a_t] (fun U => U.heap.size = sz ∧ va_P (dC, dI) vwCl (wk_45 a_t q_t_slide a_gs q_t_addresses q_t_values t_rows q_t_hits t_hitCount t_telling t_mostLeft v_t_words v_t_alike a_gs gs_words gs_limit gs_method q_gs_held gs_going gs_done q_gs_live gs_liveCount gs_blocks gs_cells gs_clearedWeak gs_ended gs_keptCount q_gs_kept q_gs_held k_gs_held g_gs_held q_t_addresses k_t_addresses g_t_addresses q_t_values k_t_values g_t_values) U.heap ∧ va_K (dC, dI) vwCl [(k_t_addresses, .int), (k_t_values, .int), (k_gs_held, .int)] U ∧ va_D (fun _ => True) (wk_45 a_t q_t_slide a_gs q_t_addresses q_t_values t_rows q_t_hits t_hitCount t_telling t_mostLeft v_t_words v_t_alike a_gs gs_words gs_limit gs_method q_gs_held gs_going gs_done q_gs_live gs_liveCount gs_blocks gs_cells gs_clearedWeak gs_ended gs_keptCount q_gs_kept q_gs_held k_gs_held g_gs_held q_t_addresses k_t_addresses g_t_addresses q_t_values k_t_values g_t_values) ∧ nwAll U)) (va_Qi (fun (r : Int32) (zR : Int) => r = iZ zR ∧ (0 ≤ zR ∧ zR ≤ 1)) (fun zR t => va_P (dC, dI) vwCl (wk_45 a_t q_t_slide a_gs q_t_addresses q_t_values t_rows q_t_hits t_hitCount t_telling t_mostLeft v_t_words v_t_alike a_gs gs_words gs_limit gs_method q_gs_held gs_going gs_done q_gs_live gs_liveCount gs_blocks gs_cells gs_clearedWeak gs_ended gs_keptCount q_gs_kept q_gs_held k_gs_held g_gs_held q_t_addresses k_t_addresses g_t_addresses q_t_values k_t_values g_t_values) t.heap ∧ va_K (dC, dI) vwCl [(k_t_addresses, .int), (k_t_values, .int), (k_gs_held, .int)] t ∧ va_D (va_A (wk_45 a_t q_t_slide a_gs q_t_addresses q_t_values t_rows q_t_hits t_hitCount t_telling t_mostLeft v_t_words v_t_alike a_gs gs_words gs_limit gs_method q_gs_held gs_going gs_done q_gs_live gs_liveCount gs_blocks gs_cells gs_clearedWeak gs_ended gs_keptCount q_gs_kept q_gs_held k_gs_held g_gs_held q_t_addresses k_t_addresses g_t_addresses q_t_values k_t_values g_t_values) sz) (wk_45 a_t q_t_slide a_gs q_t_addresses q_t_values t_rows q_t_hits t_hitCount t_telling t_mostLeft v_t_words v_t_alike a_gs gs_words gs_limit gs_method q_gs_held gs_going gs_done q_gs_live gs_liveCount gs_blocks gs_cells gs_clearedWeak gs_ended gs_keptCount q_gs_kept q_gs_held k_gs_held g_gs_held q_t_addresses k_t_addresses g_t_addresses q_t_values k_t_values g_t_values)) (va_A (wk_45 a_t q_t_slide a_gs q_t_addresses q_t_values t_rows q_t_hits t_hitCount t_telling t_mostLeft v_t_words v_t_alike a_gs gs_words gs_limit gs_method q_gs_held gs_going gs_done q_gs_live gs_liveCount gs_blocks gs_cells gs_clearedWeak gs_ended gs_keptCount q_gs_kept q_gs_held k_gs_held g_gs_held q_t_addresses k_t_addresses g_t_addresses q_t_values k_t_values g_t_values) sz)) 0 0 (va_A (wk_45 a_t q_t_slide a_gs q_t_addresses q_t_values t_rows q_t_hits t_hitCount t_telling t_mostLeft v_t_words v_t_alike a_gs gs_words gs_limit gs_method q_gs_held gs_going gs_done q_gs_live gs_liveCount gs_blocks gs_cells gs_clearedWeak gs_ended gs_keptCount q_gs_kept q_gs_held k_gs_held g_gs_held q_t_addresses k_t_addresses g_t_addresses q_t_values k_t_values g_t_values) sz) := by
  refine Met.ofW (cc := cX6_isAsSeen) (maxL := 2) (ret := (some .boolean)) (by decide) rfl ?_
  intro p e s m args below meth c s₁ B hml hv
  obtain ⟨rfl, hsz, hP, hK, hD0, hN⟩ := hv
  have hx := B.exec
  have hb := B.bytes
  have hr := B.returns
  have hts : ∀ w ∈ wA, w.before [.ref a_t].toArray s = true := fun w h => atoms_spec (ws := Cond.code yX6_isAsSeen cX6_isAsSeen 2 (some .boolean) :: wA) B.pre w (List.mem_cons_of_mem _ h)
  have hown : s.vm.findClass RX6 = some m.cls := findClass_of_methodNamed B.named
  have hlocks := B.notSynchronized
  subst hsz
  have hD := hD0.self (sz := s.heap.size)
  generalize hQ : MQ below (va_Qi (fun (r : Int32) (zR : Int) => r = iZ zR ∧ (0 ≤ zR ∧ zR ≤ 1)) (fun zR t => va_P (dC, dI) vwCl (wk_45 a_t q_t_slide a_gs q_t_addresses q_t_values t_rows q_t_hits t_hitCount t_telling t_mostLeft v_t_words v_t_alike a_gs gs_words gs_limit gs_method q_gs_held gs_going gs_done q_gs_live gs_liveCount gs_blocks gs_cells gs_clearedWeak gs_ended gs_keptCount q_gs_kept q_gs_held k_gs_held g_gs_held q_t_addresses k_t_addresses g_t_addresses q_t_values k_t_values g_t_values) t.heap ∧ va_K (dC, dI) vwCl [(k_t_addresses, .int), (k_t_values, .int), (k_gs_held, .int)] t ∧ va_D (va_A (wk_45 a_t q_t_slide a_gs q_t_addresses q_t_values t_rows q_t_hits t_hitCount t_telling t_mostLeft v_t_words v_t_alike a_gs gs_words gs_limit gs_method q_gs_held gs_going gs_done q_gs_live gs_liveCount gs_blocks gs_cells gs_clearedWeak gs_ended gs_keptCount q_gs_kept q_gs_held k_gs_held g_gs_held q_t_addresses k_t_addresses g_t_addresses q_t_values k_t_values g_t_values) s.heap.size) (wk_45 a_t q_t_slide a_gs q_t_addresses q_t_values t_rows q_t_hits t_hitCount t_telling t_mostLeft v_t_words v_t_alike a_gs gs_words gs_limit gs_method q_gs_held gs_going gs_done q_gs_live gs_liveCount gs_blocks gs_cells gs_clearedWeak gs_ended gs_keptCount q_gs_kept q_gs_held k_gs_held g_gs_held q_t_addresses k_t_addresses g_t_addresses q_t_values k_t_values g_t_values)) (va_A (wk_45 a_t q_t_slide a_gs q_t_addresses q_t_values t_rows q_t_hits t_hitCount t_telling t_mostLeft v_t_words v_t_alike a_gs gs_words gs_limit gs_method q_gs_held gs_going gs_done q_gs_live gs_liveCount gs_blocks gs_cells gs_clearedWeak gs_ended gs_keptCount q_gs_kept q_gs_held k_gs_held g_gs_held q_t_addresses k_t_addresses g_t_addresses q_t_values k_t_values g_t_values) s.heap.size)) [.ref a_t].toArray s 0 0 (va_A (wk_45 a_t q_t_slide a_gs q_t_addresses q_t_values t_rows q_t_hits t_hitCount t_telling t_mostLeft v_t_words v_t_alike a_gs gs_words gs_limit gs_method q_gs_held gs_going gs_done q_gs_live gs_liveCount gs_blocks gs_cells gs_clearedWeak gs_ended gs_keptCount q_gs_kept q_gs_held k_gs_held g_gs_held q_t_addresses k_t_addresses g_t_addresses q_t_values k_t_values g_t_values) s.heap.size) = Q
  have hA : ∀ q : Nat, s.heap.size ≤ q → va_A (wk_45 a_t q_t_slide a_gs q_t_addresses q_t_values t_rows q_t_hits t_hitCount t_telling t_mostLeft v_t_words v_t_alike a_gs gs_words gs_limit gs_method q_gs_held gs_going gs_done q_gs_live gs_liveCount gs_blocks gs_cells gs_clearedWeak gs_ended gs_keptCount q_gs_kept q_gs_held k_gs_held g_gs_held q_t_addresses k_t_addresses g_t_addresses q_t_values k_t_values g_t_values) s.heap.size q := fun q h => Or.inr h
  generalize hAe : va_A (wk_45 a_t q_t_slide a_gs q_t_addresses q_t_values t_rows q_t_hits t_hitCount t_telling t_mostLeft v_t_words v_t_alike a_gs gs_words gs_limit gs_method q_gs_held gs_going gs_done q_gs_live gs_liveCount gs_blocks gs_cells gs_clearedWeak gs_ended gs_keptCount q_gs_kept q_gs_held k_gs_held g_gs_held q_t_addresses k_t_addresses g_t_addresses q_t_values k_t_values g_t_values) s.heap.size = A at hD hA hQ
  have hS : va_S A s.heap s.heap [] := va_S.rf
  have hl := lv_entry ([.ref a_t]) (n := 2) (Nat.le_of_ble_eq_true rfl)
  rw [lg_entry_eq]
  generalize (lg_sl ([.ref a_t]) ++ List.replicate (2 - (lg_sl ([.ref a_t])).length) Slot.unset).toArray = ls at hl ⊢
  have hl : lv_has ls 2 [(0, .ref a_t)] := hl
  refine lv_iconst (v := iZ 0) hx hb dX6_isAsSeen_0 (by decide) ?_
  refine lv_istore_n (lv' := [(1, .int (iZ 0)), (0, .ref a_t)]) hx hb dX6_isAsSeen_1 rfl hl (by decide) rfl (fun ls hl => ?_)
  have lp_2 : ∀ (N2 : Nat) (H : Heap) (locs : List Loc) (ls : Array Slot) (i40097 : Int), 0 ≤ i40097 → 0 ≤ -i40097 + t_rows → -i40097 + t_rows ≤ (N2 : Int) → va_P (dC, dI) vwCl (wk_45 a_t q_t_slide a_gs q_t_addresses q_t_values t_rows q_t_hits t_hitCount t_telling t_mostLeft v_t_words v_t_alike a_gs gs_words gs_limit gs_method q_gs_held gs_going gs_done q_gs_live gs_liveCount gs_blocks gs_cells gs_clearedWeak gs_ended gs_keptCount q_gs_kept q_gs_held k_gs_held g_gs_held q_t_addresses k_t_addresses g_t_addresses q_t_values k_t_values g_t_values) H → va_D A (wk_45 a_t q_t_slide a_gs q_t_addresses q_t_values t_rows q_t_hits t_hitCount t_telling t_mostLeft v_t_words v_t_alike a_gs gs_words gs_limit gs_method q_gs_held gs_going gs_done q_gs_live gs_liveCount gs_blocks gs_cells gs_clearedWeak gs_ended gs_keptCount q_gs_kept q_gs_held k_gs_held g_gs_held q_t_addresses k_t_addresses g_t_addresses q_t_values k_t_values g_t_values) → va_S A s.heap H locs → lv_has ls 2 [(0, .ref a_t), (1, .int (iZ i40097))] → W p l e (headSpec (Cond.code yX6_isAsSeen cX6_isAsSeen 2 (some .boolean) :: wA) ({ frames := 0, cells := 0, slots := 0, locals := 0 })).room s m [.ref a_t].toArray below meth c H locs 0 0 Q (F0 m 2 ls []) := by
    intro N2
    induction N2 using Nat.strongRecOn with
    | ind N2 ih_2 =>
      intro H locs ls i40097 k2_0 k2_1 hm2 hP hD hS hl
      refine lv_iload_n hx hb dX6_isAsSeen_2 rfl (lv_at hl 1 rfl) ?_
      refine lv_aload_n hx hb dX6_isAsSeen_3 rfl (lv_at hl 0 rfl) ?_
      refine va_get (D := (dC, dI)) (ci := 6) (v := .int (iZ t_rows)) (C := RX6) (T := TX6) (N := 11) hx hb hts i_X6 hown hK hP 0 rfl rfl 4 (by decide) (hts _ q_1421) (fun _ h9 => h9) rfl dX6_isAsSeen_4 ?_
      refine zv_icmp_ge (tgt := 44) hx hb dX6_isAsSeen_7 (by decide) (by omega) (by omega) (fun c40128 => ?_) (fun c40128 => ?_)
      · refine lv_iconst (v := iZ 1) hx hb dX6_isAsSeen_44 (by decide) ?_
        subst hQ
        exact W.zret (v := iZ 1) hx hb hr rfl (fun t ht hW => ⟨⟨iZ 1, 1, rfl, ⟨rfl, by omega⟩, by rw [ht]; exact hP, va_K.moved hW.alike hK, hD⟩, hS.F ht⟩) hS.2.2 dX6_isAsSeen_45
      · refine lv_aload_n hx hb dX6_isAsSeen_10 rfl (lv_at hl 0 rfl) ?_
        refine va_get (D := (dC, dI)) (ci := 6) (v := .ref a_gs) (C := RX6) (T := TX6) (N := 11) hx hb hts i_X6 hown hK hP 0 rfl rfl 1 (by decide) (hts _ q_1418) (fun _ h9 => h9) rfl dX6_isAsSeen_11 ?_
        refine va_get (D := (dC, dI)) (ci := 8) (v := .ref q_gs_held) (C := RX8) (T := TX8) (N := 14) hx hb hts i_X8 hown hK hP 1 rfl rfl 3 (by decide) (hts _ q_1430) (fun _ h9 => h9) rfl dX6_isAsSeen_14 ?_
        refine lv_bipush (v := iZ 8) hx hb dX6_isAsSeen_17 (by decide) ?_
        refine lv_aload_n hx hb dX6_isAsSeen_19 rfl (lv_at hl 0 rfl) ?_
        refine va_get (D := (dC, dI)) (ci := 6) (v := .ref q_t_addresses) (C := RX6) (T := TX6) (N := 11) hx hb hts i_X6 hown hK hP 0 rfl rfl 2 (by decide) (hts _ q_1419) (fun _ h9 => h9) rfl dX6_isAsSeen_20 ?_
        refine lv_iload_n hx hb dX6_isAsSeen_23 rfl (lv_at hl 1 rfl) ?_
        refine zv_iald hx hb hK hP 3 0 rfl rfl (by omega) (by omega) (by omega) dX6_isAsSeen_24 (fun z40129 ez40129 => ?_)
        have bz40129 : -8 ≤ z40129 ∧ z40129 ≤ 159 := by rw [ez40129]; exact hb_g_t_addresses _ (by omega)
        refine zv_iadd hx hb (z40129 + 8) (by omega) dX6_isAsSeen_25 ?_
        refine zv_iald hx hb hK hP 2 2 rfl rfl (by omega) (by omega) (by omega) dX6_isAsSeen_26 (fun z40130 ez40130 => ?_)
        have bz40130 : (0 ≤ z40130 ∧ z40130 ≤ 1999) ∨ (3047 ≤ z40130 ∧ z40130 ≤ 3207) ∨ (5096 ≤ z40130 ∧ z40130 ≤ 5101) ∨ (7136 ≤ z40130 ∧ z40130 ≤ 7303) := by rw [ez40130]; exact hb_g_gs_held _ (by omega)
        refine lv_aload_n hx hb dX6_isAsSeen_27 rfl (lv_at hl 0 rfl) ?_
        refine va_get (D := (dC, dI)) (ci := 6) (v := .ref q_t_values) (C := RX6) (T := TX6) (N := 11) hx hb hts i_X6 hown hK hP 0 rfl rfl 3 (by decide) (hts _ q_1420) (fun _ h9 => h9) rfl dX6_isAsSeen_28 ?_
        refine lv_iload_n hx hb dX6_isAsSeen_31 rfl (lv_at hl 1 rfl) ?_
        refine zv_iald hx hb hK hP 4 1 rfl rfl (by omega) (by omega) (by omega) dX6_isAsSeen_32 (fun z40131 ez40131 => ?_)
        refine zv_norm (fun z40132 lz40132 uz40132 => ?_)
        refine zv_icmp_eq (tgt := 38) hx hb dX6_isAsSeen_33 (by decide) (by omega) (by omega) (fun c40133 => ?_) (fun c40133 => ?_)
        · refine lv_iinc (v := iZ (i40097 + 1)) (lv' := [(1, .int (iZ (i40097 + 1))), (0, .ref a_t)]) hx hb dX6_isAsSeen_38 hl (k := 1) rfl (iZ_inc (by omega)) (by decide) rfl (fun ls hl => ?_)
          refine lv_goto (tgt := 2) hx hb dX6_isAsSeen_41 (by decide) ?_
          exact ih_2 (N2 - 1) (by omega) _ _ _ (i40097 + 1) (by omega) (by omega) (by omega) hP hD hS (lv_sub hl [1, 0] rfl)
        · refine lv_iconst (v := iZ 0) hx hb dX6_isAsSeen_36 (by decide) ?_
          subst hQ
          exact W.zret (v := iZ 0) hx hb hr rfl (fun t ht hW => ⟨⟨iZ 0, 0, rfl, ⟨rfl, by omega⟩, by rw [ht]; exact hP, va_K.moved hW.alike hK, hD⟩, hS.F ht⟩) hS.2.2 dX6_isAsSeen_37
  exact lp_2 ((t_rows : Int)).toNat _ _ _ 0 (by omega) (by omega) (by omega) hP hD hS (lv_sub hl [1, 0] rfl)
