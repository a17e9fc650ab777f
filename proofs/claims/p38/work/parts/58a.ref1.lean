set_option maxHeartbeats 4000000 in
set_option maxRecDepth 100000 in
theorem z_isIn (l : Launch) (dC : Nat → ClassId) (dI : Nat → Nat → Nat) (v1 v2 v3 : Int64) (p1 p2 p3 : Int) (sz : Nat) (h1 : v1.toInt = p1) (h2 : v2.toInt = p2) (h3 : v3.toInt = p3) : Met l yX12_isIn (Cond.code yX12_isIn cX12_isIn 6 (some .boolean) :: wA) ({ frames := 0, cells := 0, slots := 0, locals := 0 }) (va_Pc [.long v1, .long v2, .long v3] (fun U => U.heap.size = sz)) (va_Qi (fun (r : Int32) (zR : Int) => r = iZ zR ∧ ((zR = 1 ∧ p2 ≤ p1 ∧ p1 ≤ p3) ∨ (zR = 0 ∧ p1 < p2) ∨ (zR = 0 ∧ p3 < p1))) (fun _ _ => True) (va_A [] sz)) 0 0 (va_A [] sz) := by
  refine Met.ofW (cc := cX12_isIn) (maxL := 6) (ret := (some .boolean)) (by decide) rfl ?_
  intro p e s m args below meth c s₁ B hml hv
  obtain ⟨rfl, hsz⟩ := hv
  have hx := B.exec
  have hb := B.bytes
  have hr := B.returns
  have hlocks := B.notSynchronized
  subst hsz
  generalize hAe : va_A [] s.heap.size = A
  have hS : va_S A s.heap s.heap [] := va_S.rf
  have hl := lv_entry ([.long v1, .long v2, .long v3]) (n := 6) (Nat.le_of_ble_eq_true rfl)
  rw [lg_entry_eq]
  generalize (lg_sl ([.long v1, .long v2, .long v3]) ++ List.replicate (6 - (lg_sl ([.long v1, .long v2, .long v3])).length) Slot.unset).toArray = ls at hl ⊢
  have hl : lv_has ls 6 [(0, .long v1), (2, .long v2), (4, .long v3)] := hl
  refine lv_lload_n hx hb dX12_isIn_0 rfl (lv_at hl 0 rfl) ?_
  refine lv_lload_n hx hb dX12_isIn_1 rfl (lv_at hl 1 rfl) ?_
  refine W.lcmp hx hb dX12_isIn_2 ?_
  refine lv_if_lt (tgt := 17) hx hb dX12_isIn_3 (by decide) (fun hc => ?_) (fun hc => ?_)
  · have hc := lg_lt.mp hc
    refine lv_iconst (v := iZ 0) hx hb dX12_isIn_17 (by decide) ?_
    exact W.zret (v := iZ 0) hx hb hr rfl (fun t ht hW => ⟨⟨iZ 0, 0, rfl, ⟨rfl, Or.inr (Or.inl ⟨rfl, by omega⟩)⟩, trivial⟩, hS.F ht⟩) hS.2.2 dX12_isIn_18
  · have hc : ¬ v1.toInt < v2.toInt := fun q => hc (lg_lt.mpr q)
    refine lv_lload_n hx hb dX12_isIn_6 rfl (lv_at hl 0 rfl) ?_
    refine lv_lload hx hb dX12_isIn_7 (lv_at hl 2 rfl) ?_
    refine W.lcmp hx hb dX12_isIn_9 ?_
    refine lv_if_gt (tgt := 17) hx hb dX12_isIn_10 (by decide) (fun hd => ?_) (fun hd => ?_)
    · have hd := lg_gt.mp hd
      refine lv_iconst (v := iZ 0) hx hb dX12_isIn_17 (by decide) ?_
      exact W.zret (v := iZ 0) hx hb hr rfl (fun t ht hW => ⟨⟨iZ 0, 0, rfl, ⟨rfl, Or.inr (Or.inr ⟨rfl, by omega⟩)⟩, trivial⟩, hS.F ht⟩) hS.2.2 dX12_isIn_18
    · have hd : ¬ v3.toInt < v1.toInt := fun q => hd (lg_gt.mpr q)
      refine lv_iconst (v := iZ 1) hx hb dX12_isIn_13 (by decide) ?_
      refine lv_goto (tgt := 18) hx hb dX12_isIn_14 (by decide) ?_
      exact W.zret (v := iZ 1) hx hb hr rfl (fun t ht hW => ⟨⟨iZ 1, 1, rfl, ⟨rfl, Or.inl ⟨rfl, by omega, by omega⟩⟩, trivial⟩, hS.F ht⟩) hS.2.2 dX12_isIn_18
set_option maxHeartbeats 4000000 in
set_option maxRecDepth 100000 in
theorem z_X12_cellAt (l : Launch) (dC : Nat → ClassId) (dI : Nat → Nat → Nat) (p1 : Int) (sz : Nat) (b_p1 : -9 ≤ p1 ∧ p1 ≤ 400) : Met l yX12_cellAt (Cond.code yX12_cellAt cX12_cellAt 1 (some .int) :: wA) ({ frames := 0, cells := 0, slots := 0, locals := 0 }) (va_Pc [.int (iZ p1)] (fun U => U.heap.size = sz ∧ va_P (dC, dI) vwCl [] U.heap ∧ va_K (dC, dI) vwCl [] U ∧ va_D (fun _ => True) [] ∧ nwAll U)) (va_Qi (fun (r : Int32) (zR : Int) => r = iZ zR ∧ (0 ≤ zR ∧ zR ≤ 1000) ∧ (zR = 2 * p1 + 102)) (fun zR t => va_P (dC, dI) vwCl [] t.heap ∧ va_K (dC, dI) vwCl [] t ∧ va_D (va_A [] sz) []) (va_A [] sz)) 0 0 (va_A [] sz) := by
  refine Met.ofW (cc := cX12_cellAt) (maxL := 1) (ret := (some .int)) (by decide) rfl ?_
  intro p e s m args below meth c s₁ B hml hv
  obtain ⟨rfl, hsz, hP, hK, hD0, hN⟩ := hv
  have hx := B.exec
  have hb := B.bytes
  have hr := B.returns
  have hts : ∀ w ∈ wA, w.before [.int (iZ p1)].toArray s = true := fun w h => atoms_spec (ws := Cond.code yX12_cellAt cX12_cellAt 1 (some .int) :: wA) B.pre w (List.mem_cons_of_mem _ h)
  have hown : s.vm.findClass RX12 = some m.cls := findClass_of_methodNamed B.named
  have hlocks := B.notSynchronized
  subst hsz
  have hD := hD0.self (sz := s.heap.size)
  generalize hQ : MQ below (va_Qi (fun (r : Int32) (zR : Int) => r = iZ zR ∧ (0 ≤ zR ∧ zR ≤ 1000) ∧ (zR = 2 * p1 + 102)) (fun zR t => va_P (dC, dI) vwCl [] t.heap ∧ va_K (dC, dI) vwCl [] t ∧ va_D (va_A [] s.heap.size) []) (va_A [] s.heap.size)) [.int (iZ p1)].toArray s 0 0 (va_A [] s.heap.size) = Q
  have hA : ∀ q : Nat, s.heap.size ≤ q → va_A [] s.heap.size q := fun q h => Or.inr h
  generalize hAe : va_A [] s.heap.size = A at hD hA hQ
  have hS : va_S A s.heap s.heap [] := va_S.rf
  have hl := lv_entry ([.int (iZ p1)]) (n := 1) (Nat.le_of_ble_eq_true rfl)
  rw [lg_entry_eq]
  generalize (lg_sl ([.int (iZ p1)]) ++ List.replicate (1 - (lg_sl ([.int (iZ p1)])).length) Slot.unset).toArray = ls at hl ⊢
  have hl : lv_has ls 1 [(0, .int (iZ p1))] := hl
  refine lv_bipush (v := iZ 86) hx hb dX12_cellAt_0 (by decide) ?_
  refine lv_iconst (v := iZ 2) hx hb dX12_cellAt_2 (by decide) ?_
  refine lv_iload_n hx hb dX12_cellAt_3 rfl (lv_at hl 0 rfl) ?_
  refine lv_bipush (v := iZ 8) hx hb dX12_cellAt_4 (by decide) ?_
  refine zv_iadd hx hb (p1 + 8) (by omega) dX12_cellAt_6 ?_
  refine zv_imul hx hb (2 * p1 + 16) (by omega) dX12_cellAt_7 ?_
  refine zv_iadd hx hb (2 * p1 + 102) (by omega) dX12_cellAt_8 ?_
  subst hQ
  exact W.iret (v := iZ (2 * p1 + 102)) hx hb hr (fun t ht hW => ⟨⟨iZ (2 * p1 + 102), (2 * p1 + 102), rfl, ⟨rfl, by omega, by omega⟩, by rw [ht]; exact hP, va_K.moved hW.alike hK, hD⟩, hS.F ht⟩) hS.2.2 dX12_cellAt_9
def wk_159 (a0 : Nat) (c0 : ClassId) (g0 : Nat → Int) : va_W := [(a0, .inl (c0, 422, .inl (aZ g0)))]
set_option maxHeartbeats 4000000 in
set_option maxRecDepth 100000 in
theorem z_X12_sortAt (l : Launch) (dC : Nat → ClassId) (dI : Nat → Nat → Nat) (q1 : Nat) (p2 : Int) (k1 : ClassId) (g1 : Nat → Int) (sz : Nat) (hb_g1 : ∀ j : Nat, j < 422 → -2147483648 ≤ g1 j ∧ g1 j ≤ 2147483647) (b_p2 : -8 ≤ p2 ∧ p2 ≤ 159) : Met l yX12_sortAt (Cond.code yX12_sortAt cX12_sortAt 2 (some .int) :: wA) ({ frames := 1, cells := 0, slots := 0, locals := 20 }) (va_Pc [.ref q1, .int (iZ p2)] (fun U => U.heap.size = sz ∧ va_P (dC, dI) vwCl (wk_159 q1 k1 g1) U.heap ∧ va_K (dC, dI) vwCl [(k1, .int)] U ∧ va_D (fun _ => True) (wk_159 q1 k1 g1) ∧ nwAll U)) (va_Qi (fun (r : Int32) (zR : Int) => r = iZ zR ∧ (-2147483648 ≤ zR ∧ zR ≤ 2147483647) ∧ (zR = g1 (2 * p2 + 102).toNat)) (fun zR t => va_P (dC, dI) vwCl (wk_159 q1 k1 g1) t.heap ∧ va_K (dC, dI) vwCl [(k1, .int)] t ∧ va_D (va_A (wk_159 q1 k1 g1) sz) (wk_159 q1 k1 g1)) (va_A (wk_159 q1 k1 g1) sz)) 0 0 (va_A (wk_159 q1 k1 g1) sz) := by
  refine Met.ofW (cc := cX12_sortAt) (maxL := 2) (ret := (some .int)) (by decide) rfl ?_
  intro p e s m args below meth c s₁ B hml hv
  obtain ⟨rfl, hsz, hP, hK, hD0, hN⟩ := hv
  have hx := B.exec
  have hb := B.bytes
  have hr := B.returns
  have hts : ∀ w ∈ wA, w.before [.ref q1, .int (iZ p2)].toArray s = true := fun w h => atoms_spec (ws := Cond.code yX12_sortAt cX12_sortAt 2 (some .int) :: wA) B.pre w (List.mem_cons_of_mem _ h)
  have hown : s.vm.findClass RX12 = some m.cls := findClass_of_methodNamed B.named
  have hlocks := B.notSynchronized
  subst hsz
  have hD := hD0.self (sz := s.heap.size)
  generalize hQ : MQ below (va_Qi (fun (r : Int32) (zR : Int) => r = iZ zR ∧ (-2147483648 ≤ zR ∧ zR ≤ 2147483647) ∧ (zR = g1 (2 * p2 + 102).toNat)) (fun zR t => va_P (dC, dI) vwCl (wk_159 q1 k1 g1) t.heap ∧ va_K (dC, dI) vwCl [(k1, .int)] t ∧ va_D (va_A (wk_159 q1 k1 g1) s.heap.size) (wk_159 q1 k1 g1)) (va_A (wk_159 q1 k1 g1) s.heap.size)) [.ref q1, .int (iZ p2)].toArray s 0 0 (va_A (wk_159 q1 k1 g1) s.heap.size) = Q
  have hA : ∀ q : Nat, s.heap.size ≤ q → va_A (wk_159 q1 k1 g1) s.heap.size q := fun q h => Or.inr h
  generalize hAe : va_A (wk_159 q1 k1 g1) s.heap.size = A at hD hA hQ
  have hS : va_S A s.heap s.heap [] := va_S.rf
  have hl := lv_entry ([.ref q1, .int (iZ p2)]) (n := 2) (Nat.le_of_ble_eq_true rfl)
  rw [lg_entry_eq]
  generalize (lg_sl ([.ref q1, .int (iZ p2)]) ++ List.replicate (2 - (lg_sl ([.ref q1, .int (iZ p2)])).length) Slot.unset).toArray = ls at hl ⊢
  have hl : lv_has ls 2 [(0, .ref q1), (1, .int (iZ p2))] := hl
  refine lv_aload_n hx hb dX12_sortAt_0 rfl (lv_at hl 0 rfl) ?_
  refine lv_iload_n hx hb dX12_sortAt_1 rfl (lv_at hl 1 rfl) ?_
  have hPc := hP.sub (ws' := []) [] rfl
  have hDc := hD.sub (ws' := []) [] (by decide) rfl
  have hKc := hK.sub (tys' := []) [] rfl
  have hFc := va_free (wc := []) hD hS hA [] rfl
  refine va_calli (va_runS (As := [.int (iZ p2)]) (rest := [.ref q1]) ⟨hx, hb, hml, hown, hts⟩ (z_X12_cellAt l dC dI p2 s.heap.size (by omega)) (va_cwS 1 hts (gS q_862 q_863 q_486 q_693) rfl rfl rfl mds_yX12_cellAt ⟨Nat.le_of_ble_eq_true rfl, Nat.le_of_ble_eq_true rfl⟩) ⟨fun a U g mk q => by obtain ⟨q0, q1, qP, qK, qD, qN⟩ := q; exact ⟨q0, q1, qP, va_K.moved (u := U) (U := U.calling g mk a) (Vm.Alike.refl U.vm) qK, qD, nwAll_same (u := U) (U := U.calling g mk a) rfl qN⟩, fun U hU hW => ⟨rfl, by rw [hU], by rw [hU]; exact hPc, va_K.moved hW.alike hKc, hDc.weaken (fun _ _ _ _ => trivial), nwAll_warm hW hN⟩⟩ rfl rfl hl.1 rfl (lv_room (Nat.le_of_ble_eq_true rfl)) dX12_sortAt_2 ⟨Nat.le_of_ble_eq_true rfl, Nat.le_of_ble_eq_true rfl⟩) hS (fun q _ h => hFc q h) hFc (fun r64746 z64747 t H1 locs ht hvm hw hB hz1 hk1 hS => ?_)
  obtain ⟨rfl, h64748, h64749⟩ := hw
  obtain ⟨hP1, hK1, hD1⟩ := hB
  rw [ht] at hP1
  obtain ⟨hP, hD⟩ := va_join (wr := (wk_159 q1 k1 g1)) (w1 := []) hP hD [] [0] rfl rfl (by decide) (by decide) hk1 hFc hP1 hD1
  generalize H1 = H at hP hS ⊢
  have hP : va_P (dC, dI) vwCl (wk_159 q1 k1 g1) H := hP
  have hD : va_D A (wk_159 q1 k1 g1) := hD
  obtain rfl : z64747 = 2 * p2 + 102 := by omega
  refine zv_iald hx hb hK hP 0 0 rfl rfl (by omega) (by omega) (by omega) dX12_sortAt_5 (fun z64750 ez64750 => ?_)
  have bz64750 : -2147483648 ≤ z64750 ∧ z64750 ≤ 2147483647 := by rw [ez64750]; exact hb_g1 _ (by omega)
  subst hQ
  exact W.iret (v := iZ z64750) hx hb hr (fun t ht hW => ⟨⟨iZ z64750, z64750, rfl, ⟨rfl, by omega, by omega⟩, by rw [ht]; exact hP, va_K.moved hW.alike hK, hD⟩, hS.F ht⟩) hS.2.2 dX12_sortAt_6
set_option maxHeartbeats 4000000 in
set_option maxRecDepth 100000 in
theorem z_X12_numberAt (l : Launch) (dC : Nat → ClassId) (dI : Nat → Nat → Nat) (q1 : Nat) (p2 : Int) (k1 : ClassId) (g1 : Nat → Int) (sz : Nat) (hb_g1 : ∀ j : Nat, j < 422 → -2147483648 ≤ g1 j ∧ g1 j ≤ 2147483647) (b_p2 : -8 ≤ p2 ∧ p2 ≤ 159) : Met l yX12_numberAt (Cond.code yX12_numberAt cX12_numberAt 2 (some .int) :: wA) ({ frames := 1, cells := 0, slots := 0, locals := 20 }) (va_Pc [.ref q1, .int (iZ p2)] (fun U => U.heap.size = sz ∧ va_P (dC, dI) vwCl (wk_159 q1 k1 g1) U.heap ∧ va_K (dC, dI) vwCl [(k1, .int)] U ∧ va_D (fun _ => True) (wk_159 q1 k1 g1) ∧ nwAll U)) (va_Qi (fun (r : Int32) (zR : Int) => r = iZ zR ∧ (-2147483648 ≤ zR ∧ zR ≤ 2147483647) ∧ (zR = g1 (2 * p2 + 103).toNat)) (fun zR t => va_P (dC, dI) vwCl (wk_159 q1 k1 g1) t.heap ∧ va_K (dC, dI) vwCl [(k1, .int)] t ∧ va_D (va_A (wk_159 q1 k1 g1) sz) (wk_159 q1 k1 g1)) (va_A (wk_159 q1 k1 g1) sz)) 0 0 (va_A (wk_159 q1 k1 g1) sz) := by
  refine Met.ofW (cc := cX12_numberAt) (maxL := 2) (ret := (some .int)) (by decide) rfl ?_
  intro p e s m args below meth c s₁ B hml hv
  obtain ⟨rfl, hsz, hP, hK, hD0, hN⟩ := hv
  have hx := B.exec
  have hb := B.bytes
  have hr := B.returns
  have hts : ∀ w ∈ wA, w.before [.ref q1, .int (iZ p2)].toArray s = true := fun w h => atoms_spec (ws := Cond.code yX12_numberAt cX12_numberAt 2 (some .int) :: wA) B.pre w (List.mem_cons_of_mem _ h)
  have hown : s.vm.findClass RX12 = some m.cls := findClass_of_methodNamed B.named
  have hlocks := B.notSynchronized
  subst hsz
  have hD := hD0.self (sz := s.heap.size)
  generalize hQ : MQ below (va_Qi (fun (r : Int32) (zR : Int) => r = iZ zR ∧ (-2147483648 ≤ zR ∧ zR ≤ 2147483647) ∧ (zR = g1 (2 * p2 + 103).toNat)) (fun zR t => va_P (dC, dI) vwCl (wk_159 q1 k1 g1) t.heap ∧ va_K (dC, dI) vwCl [(k1, .int)] t ∧ va_D (va_A (wk_159 q1 k1 g1) s.heap.size) (wk_159 q1 k1 g1)) (va_A (wk_159 q1 k1 g1) s.heap.size)) [.ref q1, .int (iZ p2)].toArray s 0 0 (va_A (wk_159 q1 k1 g1) s.heap.size) = Q
  have hA : ∀ q : Nat, s.heap.size ≤ q → va_A (wk_159 q1 k1 g1) s.heap.size q := fun q h => Or.inr h
  generalize hAe : va_A (wk_159 q1 k1 g1) s.heap.size = A at hD hA hQ
  have hS : va_S A s.heap s.heap [] := va_S.rf
  have hl := lv_entry ([.ref q1, .int (iZ p2)]) (n := 2) (Nat.le_of_ble_eq_true rfl)
  rw [lg_entry_eq]
  generalize (lg_sl ([.ref q1, .int (iZ p2)]) ++ List.replicate (2 - (lg_sl ([.ref q1, .int (iZ p2)])).length) Slot.unset).toArray = ls at hl ⊢
  have hl : lv_has ls 2 [(0, .ref q1), (1, .int (iZ p2))] := hl
  refine lv_aload_n hx hb dX12_numberAt_0 rfl (lv_at hl 0 rfl) ?_
  refine lv_iload_n hx hb dX12_numberAt_1 rfl (lv_at hl 1 rfl) ?_
  have hPc := hP.sub (ws' := []) [] rfl
  have hDc := hD.sub (ws' := []) [] (by decide) rfl
  have hKc := hK.sub (tys' := []) [] rfl
  have hFc := va_free (wc := []) hD hS hA [] rfl
  refine va_calli (va_runS (As := [.int (iZ p2)]) (rest := [.ref q1]) ⟨hx, hb, hml, hown, hts⟩ (z_X12_cellAt l dC dI p2 s.heap.size (by omega)) (va_cwS 1 hts (gS q_862 q_863 q_486 q_693) rfl rfl rfl mds_yX12_cellAt ⟨Nat.le_of_ble_eq_true rfl, Nat.le_of_ble_eq_true rfl⟩) ⟨fun a U g mk q => by obtain ⟨q0, q1, qP, qK, qD, qN⟩ := q; exact ⟨q0, q1, qP, va_K.moved (u := U) (U := U.calling g mk a) (Vm.Alike.refl U.vm) qK, qD, nwAll_same (u := U) (U := U.calling g mk a) rfl qN⟩, fun U hU hW => ⟨rfl, by rw [hU], by rw [hU]; exact hPc, va_K.moved hW.alike hKc, hDc.weaken (fun _ _ _ _ => trivial), nwAll_warm hW hN⟩⟩ rfl rfl hl.1 rfl (lv_room (Nat.le_of_ble_eq_true rfl)) dX12_numberAt_2 ⟨Nat.le_of_ble_eq_true rfl, Nat.le_of_ble_eq_true rfl⟩) hS (fun q _ h => hFc q h) hFc (fun r64756 z64757 t H1 locs ht hvm hw hB hz1 hk1 hS => ?_)
  obtain ⟨rfl, h64758, h64759⟩ := hw
  obtain ⟨hP1, hK1, hD1⟩ := hB
  rw [ht] at hP1
  obtain ⟨hP, hD⟩ := va_join (wr := (wk_159 q1 k1 g1)) (w1 := []) hP hD [] [0] rfl rfl (by decide) (by decide) hk1 hFc hP1 hD1
  generalize H1 = H at hP hS ⊢
  have hP : va_P (dC, dI) vwCl (wk_159 q1 k1 g1) H := hP
  have hD : va_D A (wk_159 q1 k1 g1) := hD
  obtain rfl : z64757 = 2 * p2 + 102 := by omega
  refine lv_iconst (v := iZ 1) hx hb dX12_numberAt_5 (by decide) ?_
  refine zv_iadd hx hb (2 * p2 + 103) (by omega) dX12_numberAt_6 ?_
  refine zv_iald hx hb hK hP 0 0 rfl rfl (by omega) (by omega) (by omega) dX12_numberAt_7 (fun z64760 ez64760 => ?_)
  have bz64760 : -2147483648 ≤ z64760 ∧ z64760 ≤ 2147483647 := by rw [ez64760]; exact hb_g1 _ (by omega)
  subst hQ
  exact W.iret (v := iZ z64760) hx hb hr (fun t ht hW => ⟨⟨iZ z64760, z64760, rfl, ⟨rfl, by omega, by omega⟩, by rw [ht]; exact hP, va_K.moved hW.alike hK, hD⟩, hS.F ht⟩) hS.2.2 dX12_numberAt_8
set_option maxHeartbeats 4000000 in
set_option maxRecDepth 100000 in
theorem z_X12_doesPoint (l : Launch) (dC : Nat → ClassId) (dI : Nat → Nat → Nat) (q1 : Nat) (p2 : Int) (k1 : ClassId) (g1 : Nat → Int) (sz : Nat) (hb_g1 : ∀ j : Nat, j < 422 → -2147483648 ≤ g1 j ∧ g1 j ≤ 2147483647) (b_p2 : -8 ≤ p2 ∧ p2 ≤ 159) : Met l yX12_doesPoint (Cond.code yX12_doesPoint cX12_doesPoint 2 (some .boolean) :: wA) ({ frames := 2, cells := 0, slots := 0, locals := 41 }) (va_Pc [.ref q1, .int (iZ p2)] (fun U => U.heap.size = sz ∧ va_P (dC, dI) vwCl (wk_159 q1 k1 g1) U.heap ∧ va_K (dC, dI) vwCl [(k1, .int)] U ∧ va_D (fun _ => True) (wk_159 q1 k1 g1) ∧ nwAll U)) (va_Qi (fun (r : Int32) (zR : Int) => r = iZ zR ∧ (0 ≤ zR ∧ zR ≤ 1) ∧ ((zR = 1 ∧ g1 (2 * p2 + 102).toNat = 1 ∧ g1 (2 * p2 + 103).toNat ≤ -2) ∨ (zR = 1 ∧ g1 (2 * p2 + 102).toNat = 1 ∧ 0 ≤ g1 (2 * p2 + 103).toNat) ∨ (zR = 0 ∧ g1 (2 * p2 + 102).toNat ≤ 0) ∨ (zR = 0 ∧ 2 ≤ g1 (2 * p2 + 102).toNat) ∨ (zR = 0 ∧ g1 (2 * p2 + 103).toNat = -1))) (fun zR t => va_P (dC, dI) vwCl (wk_159 q1 k1 g1) t.heap ∧ va_K (dC, dI) vwCl [(k1, .int)] t ∧ va_D (va_A (wk_159 q1 k1 g1) sz) (wk_159 q1 k1 g1)) (va_A (wk_159 q1 k1 g1) sz)) 0 0 (va_A (wk_159 q1 k1 g1) sz) := by
  refine Met.ofW (cc := cX12_doesPoint) (maxL := 2) (ret := (some .boolean)) (by decide) rfl ?_
  intro p e s m args below meth c s₁ B hml hv
  obtain ⟨rfl, hsz, hP, hK, hD0, hN⟩ := hv
  have hx := B.exec
  have hb := B.bytes
  have hr := B.returns
  have hts : ∀ w ∈ wA, w.before [.ref q1, .int (iZ p2)].toArray s = true := fun w h => atoms_spec (ws := Cond.code yX12_doesPoint cX12_doesPoint 2 (some .boolean) :: wA) B.pre w (List.mem_cons_of_mem _ h)
  have hown : s.vm.findClass RX12 = some m.cls := findClass_of_methodNamed B.named
  have hlocks := B.notSynchronized
  subst hsz
  have hD := hD0.self (sz := s.heap.size)
  generalize hQ : MQ below (va_Qi (fun (r : Int32) (zR : Int) => r = iZ zR ∧ (0 ≤ zR ∧ zR ≤ 1) ∧ ((zR = 1 ∧ g1 (2 * p2 + 102).toNat = 1 ∧ g1 (2 * p2 + 103).toNat ≤ -2) ∨ (zR = 1 ∧ g1 (2 * p2 + 102).toNat = 1 ∧ 0 ≤ g1 (2 * p2 + 103).toNat) ∨ (zR = 0 ∧ g1 (2 * p2 + 102).toNat ≤ 0) ∨ (zR = 0 ∧ 2 ≤ g1 (2 * p2 + 102).toNat) ∨ (zR = 0 ∧ g1 (2 * p2 + 103).toNat = -1))) (fun zR t => va_P (dC, dI) vwCl (wk_159 q1 k1 g1) t.heap ∧ va_K (dC, dI) vwCl [(k1, .int)] t ∧ va_D (va_A (wk_159 q1 k1 g1) s.heap.size) (wk_159 q1 k1 g1)) (va_A (wk_159 q1 k1 g1) s.heap.size)) [.ref q1, .int (iZ p2)].toArray s 0 0 (va_A (wk_159 q1 k1 g1) s.heap.size) = Q
  have hA : ∀ q : Nat, s.heap.size ≤ q → va_A (wk_159 q1 k1 g1) s.heap.size q := fun q h => Or.inr h
  generalize hAe : va_A (wk_159 q1 k1 g1) s.heap.size = A at hD hA hQ
  have hS : va_S A s.heap s.heap [] := va_S.rf
  have hl := lv_entry ([.ref q1, .int (iZ p2)]) (n := 2) (Nat.le_of_ble_eq_true rfl)
  rw [lg_entry_eq]
  generalize (lg_sl ([.ref q1, .int (iZ p2)]) ++ List.replicate (2 - (lg_sl ([.ref q1, .int (iZ p2)])).length) Slot.unset).toArray = ls at hl ⊢
  have hl : lv_has ls 2 [(0, .ref q1), (1, .int (iZ p2))] := hl
  refine lv_aload_n hx hb dX12_doesPoint_0 rfl (lv_at hl 0 rfl) ?_
  refine lv_iload_n hx hb dX12_doesPoint_1 rfl (lv_at hl 1 rfl) ?_
  have hPc := hP.sub (ws' := (wk_159 q1 k1 g1)) [0] rfl
  have hDc := hD.sub (ws' := (wk_159 q1 k1 g1)) [0] (by decide) rfl
  have hKc := hK.sub (tys' := [(k1, .int)]) [0] rfl
  have hFc := va_free (wc := (wk_159 q1 k1 g1)) hD hS hA [0] rfl
  refine va_calli (va_runS (As := [.ref q1, .int (iZ p2)]) (rest := []) ⟨hx, hb, hml, hown, hts⟩ (z_X12_sortAt l dC dI q1 p2 k1 g1 s.heap.size hb_g1 (by omega)) (va_cwS 2 hts (gS q_572 q_573 q_486 q_574) rfl rfl rfl mds_yX12_sortAt ⟨Nat.le_of_ble_eq_true rfl, Nat.le_of_ble_eq_true rfl⟩) ⟨fun a U g mk q => by obtain ⟨q0, q1, qP, qK, qD, qN⟩ := q; exact ⟨q0, q1, qP, va_K.moved (u := U) (U := U.calling g mk a) (Vm.Alike.refl U.vm) qK, qD, nwAll_same (u := U) (U := U.calling g mk a) rfl qN⟩, fun U hU hW => ⟨rfl, by rw [hU], by rw [hU]; exact hPc, va_K.moved hW.alike hKc, hDc.weaken (fun _ _ _ _ => trivial), nwAll_warm hW hN⟩⟩ rfl rfl hl.1 rfl (lv_room (Nat.le_of_ble_eq_true rfl)) dX12_doesPoint_2 ⟨Nat.le_of_ble_eq_true rfl, Nat.le_of_ble_eq_true rfl⟩) hS (fun q _ h => hFc q h) hFc (fun r64771 z64772 t H1 locs ht hvm hw hB hz1 hk1 hS => ?_)
  obtain ⟨rfl, h64773, h64774⟩ := hw
  obtain ⟨hP1, hK1, hD1⟩ := hB
  rw [ht] at hP1
  obtain ⟨hP, hD⟩ := va_join (wr := []) (w1 := (wk_159 q1 k1 g1)) hP hD [0] [] rfl rfl (by decide) (by decide) hk1 hFc hP1 hD1
  generalize H1 = H at hP hS ⊢
  have hP : va_P (dC, dI) vwCl (wk_159 q1 k1 g1) H := hP
  have hD : va_D A (wk_159 q1 k1 g1) := hD
  refine lv_iconst (v := iZ 1) hx hb dX12_doesPoint_5 (by decide) ?_
  refine zv_icmp_ne (tgt := 22) hx hb dX12_doesPoint_6 (by decide) (by omega) (by omega) (fun c64775 => ?_) (fun c64775 => ?_)
  · refine lv_iconst (v := iZ 0) hx hb dX12_doesPoint_22 (by decide) ?_
    subst hQ
    exact W.zret (v := iZ 0) hx hb hr rfl (fun t ht hW => ⟨⟨iZ 0, 0, rfl, ⟨rfl, by omega, by omega⟩, by rw [ht]; exact hP, va_K.moved hW.alike hK, hD⟩, hS.F ht⟩) hS.2.2 dX12_doesPoint_23
  · refine lv_aload_n hx hb dX12_doesPoint_9 rfl (lv_at hl 0 rfl) ?_
    refine lv_iload_n hx hb dX12_doesPoint_10 rfl (lv_at hl 1 rfl) ?_
    have hPc := hP.sub (ws' := (wk_159 q1 k1 g1)) [0] rfl
    have hDc := hD.sub (ws' := (wk_159 q1 k1 g1)) [0] (by decide) rfl
    have hKc := hK.sub (tys' := [(k1, .int)]) [0] rfl
    have hFc := va_free (wc := (wk_159 q1 k1 g1)) hD hS hA [0] rfl
    refine va_calli (va_runS (As := [.ref q1, .int (iZ p2)]) (rest := []) ⟨hx, hb, hml, hown, hts⟩ (z_X12_numberAt l dC dI q1 p2 k1 g1 H.size hb_g1 (by omega)) (va_cwS 2 hts (gS q_569 q_570 q_486 q_571) rfl rfl rfl mds_yX12_numberAt ⟨Nat.le_of_ble_eq_true rfl, Nat.le_of_ble_eq_true rfl⟩) ⟨fun a U g mk q => by obtain ⟨q0, q1, qP, qK, qD, qN⟩ := q; exact ⟨q0, q1, qP, va_K.moved (u := U) (U := U.calling g mk a) (Vm.Alike.refl U.vm) qK, qD, nwAll_same (u := U) (U := U.calling g mk a) rfl qN⟩, fun U hU hW => ⟨rfl, by rw [hU], by rw [hU]; exact hPc, va_K.moved hW.alike hKc, hDc.weaken (fun _ _ _ _ => trivial), nwAll_warm hW hN⟩⟩ rfl rfl hl.1 rfl (lv_room (Nat.le_of_ble_eq_true rfl)) dX12_doesPoint_11 ⟨Nat.le_of_ble_eq_true rfl, Nat.le_of_ble_eq_true rfl⟩) hS (fun q _ h => hFc q h) hFc (fun r64776 z64777 t H1 locs ht hvm hw hB hz1 hk1 hS => ?_)
    obtain ⟨rfl, h64778, h64779⟩ := hw
    obtain ⟨hP1, hK1, hD1⟩ := hB
    rw [ht] at hP1
    obtain ⟨hP, hD⟩ := va_join (wr := []) (w1 := (wk_159 q1 k1 g1)) hP hD [0] [] rfl rfl (by decide) (by decide) hk1 hFc hP1 hD1
    generalize H1 = H at hP hS ⊢
    have hP : va_P (dC, dI) vwCl (wk_159 q1 k1 g1) H := hP
    have hD : va_D A (wk_159 q1 k1 g1) := hD
    refine lv_iconst (v := iZ (-1)) hx hb dX12_doesPoint_14 (by decide) ?_
    refine zv_icmp_eq (tgt := 22) hx hb dX12_doesPoint_15 (by decide) (by omega) (by omega) (fun c64780 => ?_) (fun c64780 => ?_)
    · refine lv_iconst (v := iZ 0) hx hb dX12_doesPoint_22 (by decide) ?_
      subst hQ
      exact W.zret (v := iZ 0) hx hb hr rfl (fun t ht hW => ⟨⟨iZ 0, 0, rfl, ⟨rfl, by omega, Or.inr (Or.inr (Or.inr (Or.inr (by omega))))⟩, by rw [ht]; exact hP, va_K.moved hW.alike hK, hD⟩, hS.F ht⟩) hS.2.2 dX12_doesPoint_23
    · refine lv_iconst (v := iZ 1) hx hb dX12_doesPoint_18 (by decide) ?_
      refine lv_goto (tgt := 23) hx hb dX12_doesPoint_19 (by decide) ?_
      subst hQ
      exact W.zret (v := iZ 1) hx hb hr rfl (fun t ht hW => ⟨⟨iZ 1, 1, rfl, ⟨rfl, by omega, by omega⟩, by rw [ht]; exact hP, va_K.moved hW.alike hK, hD⟩, hS.F ht⟩) hS.2.2 dX12_doesPoint_23
set_option maxHeartbeats 4000000 in
set_option maxRecDepth 100000 in
theorem z_X12_holds (l : Launch) (dC : Nat → ClassId) (dI : Nat → Nat → Nat) (q1 : Nat) (p2 : Int) (p3 : Int) (p4 : Int) (k1 : ClassId) (g1 : Nat → Int) (sz : Nat) (hb_g1 : ∀ j : Nat, j < 422 → -2147483648 ≤ g1 j ∧ g1 j ≤ 2147483647) (b_p2 : -8 ≤ p2 ∧ p2 ≤ 159) (b_p3 : -2147483648 ≤ p3 ∧ p3 ≤ 2147483647) (b_p4 : -2147483648 ≤ p4 ∧ p4 ≤ 2147483647) : Met l yX12_holds (Cond.code yX12_holds cX12_holds 4 none :: wA) ({ frames := 1, cells := 0, slots := 0, locals := 20 }) (va_Pc [.ref q1, .int (iZ p2), .int (iZ p3), .int (iZ p4)] (fun U => U.heap.size = sz ∧ va_P (dC, dI) vwCl (wk_159 q1 k1 g1) U.heap ∧ va_K (dC, dI) vwCl [(k1, .int)] U ∧ va_D (fun _ => True) (wk_159 q1 k1 g1) ∧ nwAll U)) (va_Qv (fun (_ : Unit) => True) (fun _ t => (∀ j : Nat, j < 422 → -2147483648 ≤ (updI (updI g1 (2 * p2 + 102).toNat p3) (2 * p2 + 103).toNat p4) j ∧ (updI (updI g1 (2 * p2 + 102).toNat p3) (2 * p2 + 103).toNat p4) j ≤ 2147483647) ∧ (HldR g1 (updI (updI g1 (2 * p2 + 102).toNat p3) (2 * p2 + 103).toNat p4) p2 p3 p4) ∧ va_P (dC, dI) vwCl (wk_159 q1 k1 (updI (updI g1 (2 * p2 + 102).toNat p3) (2 * p2 + 103).toNat p4)) t.heap ∧ va_K (dC, dI) vwCl [(k1, .int)] t ∧ va_D (va_A (wk_159 q1 k1 g1) sz) (wk_159 q1 k1 (updI (updI g1 (2 * p2 + 102).toNat p3) (2 * p2 + 103).toNat p4))) (va_A (wk_159 q1 k1 g1) sz)) 0 0 (va_A (wk_159 q1 k1 g1) sz) := by
  refine Met.ofW (cc := cX12_holds) (maxL := 4) (ret := none) (by decide) rfl ?_
  intro p e s m args below meth c s₁ B hml hv
  obtain ⟨rfl, hsz, hP, hK, hD0, hN⟩ := hv
  have hx := B.exec
  have hb := B.bytes
  have hr := B.returns
  have hts : ∀ w ∈ wA, w.before [.ref q1, .int (iZ p2), .int (iZ p3), .int (iZ p4)].toArray s = true := fun w h => atoms_spec (ws := Cond.code yX12_holds cX12_holds 4 none :: wA) B.pre w (List.mem_cons_of_mem _ h)
  have hown : s.vm.findClass RX12 = some m.cls := findClass_of_methodNamed B.named
  have hlocks := B.notSynchronized
  subst hsz
  have hD := hD0.self (sz := s.heap.size)
  generalize hQ : MQ below (va_Qv (fun (_ : Unit) => True) (fun _ t => (∀ j : Nat, j < 422 → -2147483648 ≤ (updI (updI g1 (2 * p2 + 102).toNat p3) (2 * p2 + 103).toNat p4) j ∧ (updI (updI g1 (2 * p2 + 102).toNat p3) (2 * p2 + 103).toNat p4) j ≤ 2147483647) ∧ (HldR g1 (updI (updI g1 (2 * p2 + 102).toNat p3) (2 * p2 + 103).toNat p4) p2 p3 p4) ∧ va_P (dC, dI) vwCl (wk_159 q1 k1 (updI (updI g1 (2 * p2 + 102).toNat p3) (2 * p2 + 103).toNat p4)) t.heap ∧ va_K (dC, dI) vwCl [(k1, .int)] t ∧ va_D (va_A (wk_159 q1 k1 g1) s.heap.size) (wk_159 q1 k1 (updI (updI g1 (2 * p2 + 102).toNat p3) (2 * p2 + 103).toNat p4))) (va_A (wk_159 q1 k1 g1) s.heap.size)) [.ref q1, .int (iZ p2), .int (iZ p3), .int (iZ p4)].toArray s 0 0 (va_A (wk_159 q1 k1 g1) s.heap.size) = Q
  have hA : ∀ q : Nat, s.heap.size ≤ q → va_A (wk_159 q1 k1 g1) s.heap.size q := fun q h => Or.inr h
  generalize hAe : va_A (wk_159 q1 k1 g1) s.heap.size = A at hD hA hQ
  have hS : va_S A s.heap s.heap [] := va_S.rf
  have hl := lv_entry ([.ref q1, .int (iZ p2), .int (iZ p3), .int (iZ p4)]) (n := 4) (Nat.le_of_ble_eq_true rfl)
  rw [lg_entry_eq]
  generalize (lg_sl ([.ref q1, .int (iZ p2), .int (iZ p3), .int (iZ p4)]) ++ List.replicate (4 - (lg_sl ([.ref q1, .int (iZ p2), .int (iZ p3), .int (iZ p4)])).length) Slot.unset).toArray = ls at hl ⊢
  have hl : lv_has ls 4 [(0, .ref q1), (1, .int (iZ p2)), (2, .int (iZ p3)), (3, .int (iZ p4))] := hl
  refine lv_aload_n hx hb dX12_holds_0 rfl (lv_at hl 0 rfl) ?_
  refine lv_iload_n hx hb dX12_holds_1 rfl (lv_at hl 1 rfl) ?_
  have hPc := hP.sub (ws' := []) [] rfl
  have hDc := hD.sub (ws' := []) [] (by decide) rfl
  have hKc := hK.sub (tys' := []) [] rfl
  have hFc := va_free (wc := []) hD hS hA [] rfl
  refine va_calli (va_runS (As := [.int (iZ p2)]) (rest := [.ref q1]) ⟨hx, hb, hml, hown, hts⟩ (z_X12_cellAt l dC dI p2 s.heap.size (by omega)) (va_cwS 1 hts (gS q_862 q_863 q_486 q_693) rfl rfl rfl mds_yX12_cellAt ⟨Nat.le_of_ble_eq_true rfl, Nat.le_of_ble_eq_true rfl⟩) ⟨fun a U g mk q => by obtain ⟨q0, q1, qP, qK, qD, qN⟩ := q; exact ⟨q0, q1, qP, va_K.moved (u := U) (U := U.calling g mk a) (Vm.Alike.refl U.vm) qK, qD, nwAll_same (u := U) (U := U.calling g mk a) rfl qN⟩, fun U hU hW => ⟨rfl, by rw [hU], by rw [hU]; exact hPc, va_K.moved hW.alike hKc, hDc.weaken (fun _ _ _ _ => trivial), nwAll_warm hW hN⟩⟩ rfl rfl hl.1 rfl (lv_room (Nat.le_of_ble_eq_true rfl)) dX12_holds_2 ⟨Nat.le_of_ble_eq_true rfl, Nat.le_of_ble_eq_true rfl⟩) hS (fun q _ h => hFc q h) hFc (fun r64792 z64793 t H1 locs ht hvm hw hB hz1 hk1 hS => ?_)
  obtain ⟨rfl, h64794, h64795⟩ := hw
  obtain ⟨hP1, hK1, hD1⟩ := hB
  rw [ht] at hP1
  obtain ⟨hP, hD⟩ := va_join (wr := (wk_159 q1 k1 g1)) (w1 := []) hP hD [] [0] rfl rfl (by decide) (by decide) hk1 hFc hP1 hD1
  generalize H1 = H at hP hS ⊢
  have hP : va_P (dC, dI) vwCl (wk_159 q1 k1 g1) H := hP
  have hD : va_D A (wk_159 q1 k1 g1) := hD
  obtain rfl : z64793 = 2 * p2 + 102 := by omega
  refine lv_iload_n hx hb dX12_holds_5 rfl (lv_at hl 2 rfl) ?_
  refine zv_iast hx hb hK hP hD hS 0 0 rfl rfl (by omega) (by omega) (by omega) dX12_holds_6 (fun g64796 H locs eg64796 hP hD hS => ?_)
  subst eg64796
  have hb_g64796 : ∀ j : Nat, j < 422 → -2147483648 ≤ (updI g1 (2 * p2 + 102).toNat p3) j ∧ (updI g1 (2 * p2 + 102).toNat p3) j ≤ 2147483647 := by exact zb_upd (P := fun v => -2147483648 ≤ v ∧ v ≤ 2147483647) hb_g1 (by omega)
  have hP : va_P (dC, dI) vwCl (wk_159 q1 k1 (updI g1 (2 * p2 + 102).toNat p3)) H := hP
  have hD : va_D A (wk_159 q1 k1 (updI g1 (2 * p2 + 102).toNat p3)) := hD
  refine lv_aload_n hx hb dX12_holds_7 rfl (lv_at hl 0 rfl) ?_
  refine lv_iload_n hx hb dX12_holds_8 rfl (lv_at hl 1 rfl) ?_
  have hPc := hP.sub (ws' := []) [] rfl
  have hDc := hD.sub (ws' := []) [] (by decide) rfl
  have hKc := hK.sub (tys' := []) [] rfl
  have hFc := va_free (wc := []) hD hS hA [] rfl
  refine va_calli (va_runS (As := [.int (iZ p2)]) (rest := [.ref q1]) ⟨hx, hb, hml, hown, hts⟩ (z_X12_cellAt l dC dI p2 H.size (by omega)) (va_cwS 1 hts (gS q_862 q_863 q_486 q_693) rfl rfl rfl mds_yX12_cellAt ⟨Nat.le_of_ble_eq_true rfl, Nat.le_of_ble_eq_true rfl⟩) ⟨fun a U g mk q => by obtain ⟨q0, q1, qP, qK, qD, qN⟩ := q; exact ⟨q0, q1, qP, va_K.moved (u := U) (U := U.calling g mk a) (Vm.Alike.refl U.vm) qK, qD, nwAll_same (u := U) (U := U.calling g mk a) rfl qN⟩, fun U hU hW => ⟨rfl, by rw [hU], by rw [hU]; exact hPc, va_K.moved hW.alike hKc, hDc.weaken (fun _ _ _ _ => trivial), nwAll_warm hW hN⟩⟩ rfl rfl hl.1 rfl (lv_room (Nat.le_of_ble_eq_true rfl)) dX12_holds_9 ⟨Nat.le_of_ble_eq_true rfl, Nat.le_of_ble_eq_true rfl⟩) hS (fun q _ h => hFc q h) hFc (fun r64797 z64798 t H1 locs ht hvm hw hB hz1 hk1 hS => ?_)
  obtain ⟨rfl, h64799, h64800⟩ := hw
  obtain ⟨hP1, hK1, hD1⟩ := hB
  rw [ht] at hP1
  obtain ⟨hP, hD⟩ := va_join (wr := (wk_159 q1 k1 (updI g1 (2 * p2 + 102).toNat p3))) (w1 := []) hP hD [] [0] rfl rfl (by decide) (by decide) hk1 hFc hP1 hD1
  generalize H1 = H at hP hS ⊢
  have hP : va_P (dC, dI) vwCl (wk_159 q1 k1 (updI g1 (2 * p2 + 102).toNat p3)) H := hP
  have hD : va_D A (wk_159 q1 k1 (updI g1 (2 * p2 + 102).toNat p3)) := hD
  obtain rfl : z64798 = 2 * p2 + 102 := by omega
  refine lv_iconst (v := iZ 1) hx hb dX12_holds_12 (by decide) ?_
  refine zv_iadd hx hb (2 * p2 + 103) (by omega) dX12_holds_13 ?_
  refine lv_iload_n hx hb dX12_holds_14 rfl (lv_at hl 3 rfl) ?_
  refine zv_iast hx hb hK hP hD hS 0 0 rfl rfl (by omega) (by omega) (by omega) dX12_holds_15 (fun g64801 H locs eg64801 hP hD hS => ?_)
  subst eg64801
  have hb_g64801 : ∀ j : Nat, j < 422 → -2147483648 ≤ (updI (updI g1 (2 * p2 + 102).toNat p3) (2 * p2 + 103).toNat p4) j ∧ (updI (updI g1 (2 * p2 + 102).toNat p3) (2 * p2 + 103).toNat p4) j ≤ 2147483647 := by exact zb_upd (P := fun v => -2147483648 ≤ v ∧ v ≤ 2147483647) hb_g64796 (by omega)
  have hP : va_P (dC, dI) vwCl (wk_159 q1 k1 (updI (updI g1 (2 * p2 + 102).toNat p3) (2 * p2 + 103).toNat p4)) H := hP
  have hD : va_D A (wk_159 q1 k1 (updI (updI g1 (2 * p2 + 102).toNat p3) (2 * p2 + 103).toNat p4)) := hD
  have hG64802 : HldR g1 (updI (updI g1 (2 * p2 + 102).toNat p3) (2 * p2 + 103).toNat p4) p2 p3 p4 := HldR_mk rfl (by omega) rfl (by omega) (by omega)
  subst hQ
  exact W.vret hx hb hr (fun t ht hW => ⟨⟨(), rfl, trivial, hb_g64801, hG64802, by rw [ht]; exact hP, va_K.moved hW.alike hK, hD⟩, hS.F ht⟩) hS.2.2 dX12_holds_16
set_option maxHeartbeats 4000000 in
set_option maxRecDepth 100000 in
theorem z_X12_takesOver (l : Launch) (dC : Nat → ClassId) (dI : Nat → Nat → Nat) (q1 : Nat) (p2 : Int) (p3 : Int) (k1 : ClassId) (g1 : Nat → Int) (sz : Nat) (hb_g1 : ∀ j : Nat, j < 422 → -2147483648 ≤ g1 j ∧ g1 j ≤ 2147483647) (b_p2 : -8 ≤ p2 ∧ p2 ≤ 159) (b_p3 : -8 ≤ p3 ∧ p3 ≤ 159) : Met l yX12_takesOver (Cond.code yX12_takesOver cX12_takesOver 3 none :: wA) ({ frames := 2, cells := 0, slots := 0, locals := 43 }) (va_Pc [.ref q1, .int (iZ p2), .int (iZ p3)] (fun U => U.heap.size = sz ∧ va_P (dC, dI) vwCl (wk_159 q1 k1 g1) U.heap ∧ va_K (dC, dI) vwCl [(k1, .int)] U ∧ va_D (fun _ => True) (wk_159 q1 k1 g1) ∧ nwAll U)) (va_Qv (fun (_ : Unit) => True) (fun _ t => ∃ n_g1 : Nat → Int, (∀ j : Nat, j < 422 → -2147483648 ≤ n_g1 j ∧ n_g1 j ≤ 2147483647) ∧ (TkvR g1 n_g1 p2 p3) ∧ va_P (dC, dI) vwCl (wk_159 q1 k1 n_g1) t.heap ∧ va_K (dC, dI) vwCl [(k1, .int)] t ∧ va_D (va_A (wk_159 q1 k1 g1) sz) (wk_159 q1 k1 n_g1)) (va_A (wk_159 q1 k1 g1) sz)) 0 0 (va_A (wk_159 q1 k1 g1) sz) := by
  refine Met.ofW (cc := cX12_takesOver) (maxL := 3) (ret := none) (by decide) rfl ?_
  intro p e s m args below meth c s₁ B hml hv
  obtain ⟨rfl, hsz, hP, hK, hD0, hN⟩ := hv
  have hx := B.exec
  have hb := B.bytes
  have hr := B.returns
  have hts : ∀ w ∈ wA, w.before [.ref q1, .int (iZ p2), .int (iZ p3)].toArray s = true := fun w h => atoms_spec (ws := Cond.code yX12_takesOver cX12_takesOver 3 none :: wA) B.pre w (List.mem_cons_of_mem _ h)
  have hown : s.vm.findClass RX12 = some m.cls := findClass_of_methodNamed B.named
  have hlocks := B.notSynchronized
  subst hsz
  have hD := hD0.self (sz := s.heap.size)
  generalize hQ : MQ below (va_Qv (fun (_ : Unit) => True) (fun _ t => ∃ n_g1 : Nat → Int, (∀ j : Nat, j < 422 → -2147483648 ≤ n_g1 j ∧ n_g1 j ≤ 2147483647) ∧ (TkvR g1 n_g1 p2 p3) ∧ va_P (dC, dI) vwCl (wk_159 q1 k1 n_g1) t.heap ∧ va_K (dC, dI) vwCl [(k1, .int)] t ∧ va_D (va_A (wk_159 q1 k1 g1) s.heap.size) (wk_159 q1 k1 n_g1)) (va_A (wk_159 q1 k1 g1) s.heap.size)) [.ref q1, .int (iZ p2), .int (iZ p3)].toArray s 0 0 (va_A (wk_159 q1 k1 g1) s.heap.size) = Q
  have hA : ∀ q : Nat, s.heap.size ≤ q → va_A (wk_159 q1 k1 g1) s.heap.size q := fun q h => Or.inr h
  generalize hAe : va_A (wk_159 q1 k1 g1) s.heap.size = A at hD hA hQ
  have hS : va_S A s.heap s.heap [] := va_S.rf
  have hl := lv_entry ([.ref q1, .int (iZ p2), .int (iZ p3)]) (n := 3) (Nat.le_of_ble_eq_true rfl)
  rw [lg_entry_eq]
  generalize (lg_sl ([.ref q1, .int (iZ p2), .int (iZ p3)]) ++ List.replicate (3 - (lg_sl ([.ref q1, .int (iZ p2), .int (iZ p3)])).length) Slot.unset).toArray = ls at hl ⊢
  have hl : lv_has ls 3 [(0, .ref q1), (1, .int (iZ p2)), (2, .int (iZ p3))] := hl
  refine lv_aload_n hx hb dX12_takesOver_0 rfl (lv_at hl 0 rfl) ?_
  refine lv_iload_n hx hb dX12_takesOver_1 rfl (lv_at hl 1 rfl) ?_
  refine lv_aload_n hx hb dX12_takesOver_2 rfl (lv_at hl 0 rfl) ?_
  refine lv_iload_n hx hb dX12_takesOver_3 rfl (lv_at hl 2 rfl) ?_
  have hPc := hP.sub (ws' := (wk_159 q1 k1 g1)) [0] rfl
  have hDc := hD.sub (ws' := (wk_159 q1 k1 g1)) [0] (by decide) rfl
  have hKc := hK.sub (tys' := [(k1, .int)]) [0] rfl
  have hFc := va_free (wc := (wk_159 q1 k1 g1)) hD hS hA [0] rfl
  refine va_calli (va_runS (As := [.ref q1, .int (iZ p3)]) (rest := [.int (iZ p2), .ref q1]) ⟨hx, hb, hml, hown, hts⟩ (z_X12_sortAt l dC dI q1 p3 k1 g1 s.heap.size hb_g1 (by omega)) (va_cwS 2 hts (gS q_572 q_573 q_486 q_574) rfl rfl rfl mds_yX12_sortAt ⟨Nat.le_of_ble_eq_true rfl, Nat.le_of_ble_eq_true rfl⟩) ⟨fun a U g mk q => by obtain ⟨q0, q1, qP, qK, qD, qN⟩ := q; exact ⟨q0, q1, qP, va_K.moved (u := U) (U := U.calling g mk a) (Vm.Alike.refl U.vm) qK, qD, nwAll_same (u := U) (U := U.calling g mk a) rfl qN⟩, fun U hU hW => ⟨rfl, by rw [hU], by rw [hU]; exact hPc, va_K.moved hW.alike hKc, hDc.weaken (fun _ _ _ _ => trivial), nwAll_warm hW hN⟩⟩ rfl rfl hl.1 rfl (lv_room (Nat.le_of_ble_eq_true rfl)) dX12_takesOver_4 ⟨Nat.le_of_ble_eq_true rfl, Nat.le_of_ble_eq_true rfl⟩) hS (fun q _ h => hFc q h) hFc (fun r64816 z64817 t H1 locs ht hvm hw hB hz1 hk1 hS => ?_)
  obtain ⟨rfl, h64818, h64819⟩ := hw
  obtain ⟨hP1, hK1, hD1⟩ := hB
  rw [ht] at hP1
  obtain ⟨hP, hD⟩ := va_join (wr := []) (w1 := (wk_159 q1 k1 g1)) hP hD [0] [] rfl rfl (by decide) (by decide) hk1 hFc hP1 hD1
  generalize H1 = H at hP hS ⊢
  have hP : va_P (dC, dI) vwCl (wk_159 q1 k1 g1) H := hP
  have hD : va_D A (wk_159 q1 k1 g1) := hD
  refine lv_aload_n hx hb dX12_takesOver_7 rfl (lv_at hl 0 rfl) ?_
  refine lv_iload_n hx hb dX12_takesOver_8 rfl (lv_at hl 2 rfl) ?_
  have hPc := hP.sub (ws' := (wk_159 q1 k1 g1)) [0] rfl
  have hDc := hD.sub (ws' := (wk_159 q1 k1 g1)) [0] (by decide) rfl
  have hKc := hK.sub (tys' := [(k1, .int)]) [0] rfl
  have hFc := va_free (wc := (wk_159 q1 k1 g1)) hD hS hA [0] rfl
  refine va_calli (va_runS (As := [.ref q1, .int (iZ p3)]) (rest := [.int (iZ z64817), .int (iZ p2), .ref q1]) ⟨hx, hb, hml, hown, hts⟩ (z_X12_numberAt l dC dI q1 p3 k1 g1 H.size hb_g1 (by omega)) (va_cwS 2 hts (gS q_569 q_570 q_486 q_571) rfl rfl rfl mds_yX12_numberAt ⟨Nat.le_of_ble_eq_true rfl, Nat.le_of_ble_eq_true rfl⟩) ⟨fun a U g mk q => by obtain ⟨q0, q1, qP, qK, qD, qN⟩ := q; exact ⟨q0, q1, qP, va_K.moved (u := U) (U := U.calling g mk a) (Vm.Alike.refl U.vm) qK, qD, nwAll_same (u := U) (U := U.calling g mk a) rfl qN⟩, fun U hU hW => ⟨rfl, by rw [hU], by rw [hU]; exact hPc, va_K.moved hW.alike hKc, hDc.weaken (fun _ _ _ _ => trivial), nwAll_warm hW hN⟩⟩ rfl rfl hl.1 rfl (lv_room (Nat.le_of_ble_eq_true rfl)) dX12_takesOver_9 ⟨Nat.le_of_ble_eq_true rfl, Nat.le_of_ble_eq_true rfl⟩) hS (fun q _ h => hFc q h) hFc (fun r64820 z64821 t H1 locs ht hvm hw hB hz1 hk1 hS => ?_)
  obtain ⟨rfl, h64822, h64823⟩ := hw
  obtain ⟨hP1, hK1, hD1⟩ := hB
  rw [ht] at hP1
  obtain ⟨hP, hD⟩ := va_join (wr := []) (w1 := (wk_159 q1 k1 g1)) hP hD [0] [] rfl rfl (by decide) (by decide) hk1 hFc hP1 hD1
  generalize H1 = H at hP hS ⊢
  have hP : va_P (dC, dI) vwCl (wk_159 q1 k1 g1) H := hP
  have hD : va_D A (wk_159 q1 k1 g1) := hD
  have hPc := hP.sub (ws' := (wk_159 q1 k1 g1)) [0] rfl
  have hDc := hD.sub (ws' := (wk_159 q1 k1 g1)) [0] (by decide) rfl
  have hKc := hK.sub (tys' := [(k1, .int)]) [0] rfl
  have hFc := va_free (wc := (wk_159 q1 k1 g1)) hD hS hA [0] rfl
  refine va_callv (va_runS (As := [.ref q1, .int (iZ p2), .int (iZ z64817), .int (iZ z64821)]) (rest := []) ⟨hx, hb, hml, hown, hts⟩ (z_X12_holds l dC dI q1 p2 z64817 z64821 k1 g1 H.size hb_g1 (by omega) (by omega) (by omega)) (va_cwS 4 hts (gS q_678 q_679 q_486 q_680) rfl rfl rfl mds_yX12_holds ⟨Nat.le_of_ble_eq_true rfl, Nat.le_of_ble_eq_true rfl⟩) ⟨fun a U g mk q => by obtain ⟨q0, q1, qP, qK, qD, qN⟩ := q; exact ⟨q0, q1, qP, va_K.moved (u := U) (U := U.calling g mk a) (Vm.Alike.refl U.vm) qK, qD, nwAll_same (u := U) (U := U.calling g mk a) rfl qN⟩, fun U hU hW => ⟨rfl, by rw [hU], by rw [hU]; exact hPc, va_K.moved hW.alike hKc, hDc.weaken (fun _ _ _ _ => trivial), nwAll_warm hW hN⟩⟩ rfl rfl hl.1 rfl (lv_room (Nat.le_of_ble_eq_true rfl)) dX12_takesOver_12 ⟨Nat.le_of_ble_eq_true rfl, Nat.le_of_ble_eq_true rfl⟩) hS (fun q _ h => hFc q h) hFc (fun u t H1 locs ht hvm hw hB hz1 hk1 hS => ?_)
  obtain ⟨hb_64827, hG64826, hP1, hK1, hD1⟩ := hB
  rw [ht] at hP1
  obtain ⟨hP, hD⟩ := va_join (wr := []) (w1 := (wk_159 q1 k1 (updI (updI g1 (2 * p2 + 102).toNat z64817) (2 * p2 + 103).toNat z64821))) hP hD [0] [] rfl rfl (by decide) (by decide) hk1 hFc hP1 hD1
  generalize H1 = H at hP hS ⊢
  have hP : va_P (dC, dI) vwCl (wk_159 q1 k1 (updI (updI g1 (2 * p2 + 102).toNat z64817) (2 * p2 + 103).toNat z64821)) H := hP
  have hD : va_D A (wk_159 q1 k1 (updI (updI g1 (2 * p2 + 102).toNat z64817) (2 * p2 + 103).toNat z64821)) := hD
  have hG64828 : TkvR g1 (updI (updI g1 (2 * p2 + 102).toNat z64817) (2 * p2 + 103).toNat z64821) p2 p3 := TkvR_mk hG64826 (by omega) (by omega)
  subst hQ
  exact W.vret hx hb hr (fun t ht hW => ⟨⟨(), rfl, trivial, (updI (updI g1 (2 * p2 + 102).toNat z64817) (2 * p2 + 103).toNat z64821), hb_64827, hG64828, by rw [ht]; exact hP, va_K.moved hW.alike hK, hD⟩, hS.F ht⟩) hS.2.2 dX12_takesOver_15
set_option maxHeartbeats 4000000 in
set_option maxRecDepth 100000 in
theorem z_X12_isLetter (l : Launch) (dC : Nat → ClassId) (dI : Nat → Nat → Nat) (p1 : Int) (sz : Nat) (b_p1 : -1 ≤ p1 ∧ p1 ≤ 255) : Met l yX12_isLetter (Cond.code yX12_isLetter cX12_isLetter 1 (some .boolean) :: wA) ({ frames := 0, cells := 0, slots := 0, locals := 0 }) (va_Pc [.int (iZ p1)] (fun U => U.heap.size = sz ∧ va_P (dC, dI) vwCl [] U.heap ∧ va_K (dC, dI) vwCl [] U ∧ va_D (fun _ => True) [] ∧ nwAll U)) (va_Qi (fun (r : Int32) (zR : Int) => r = iZ zR ∧ (0 ≤ zR ∧ zR ≤ 1) ∧ ((zR = 1 ∧ 97 ≤ p1 ∧ p1 ≤ 122) ∨ (zR = 0 ∧ p1 ≤ 96) ∨ (zR = 0 ∧ 123 ≤ p1))) (fun zR t => va_P (dC, dI) vwCl [] t.heap ∧ va_K (dC, dI) vwCl [] t ∧ va_D (va_A [] sz) []) (va_A [] sz)) 0 0 (va_A [] sz) := by
  refine Met.ofW (cc := cX12_isLetter) (maxL := 1) (ret := (some .boolean)) (by decide) rfl ?_
  intro p e s m args below meth c s₁ B hml hv
  obtain ⟨rfl, hsz, hP, hK, hD0, hN⟩ := hv
  have hx := B.exec
  have hb := B.bytes
  have hr := B.returns
  have hts : ∀ w ∈ wA, w.before [.int (iZ p1)].toArray s = true := fun w h => atoms_spec (ws := Cond.code yX12_isLetter cX12_isLetter 1 (some .boolean) :: wA) B.pre w (List.mem_cons_of_mem _ h)
  have hown : s.vm.findClass RX12 = some m.cls := findClass_of_methodNamed B.named
  have hlocks := B.notSynchronized
  subst hsz
  have hD := hD0.self (sz := s.heap.size)
  generalize hQ : MQ below (va_Qi (fun (r : Int32) (zR : Int) => r = iZ zR ∧ (0 ≤ zR ∧ zR ≤ 1) ∧ ((zR = 1 ∧ 97 ≤ p1 ∧ p1 ≤ 122) ∨ (zR = 0 ∧ p1 ≤ 96) ∨ (zR = 0 ∧ 123 ≤ p1))) (fun zR t => va_P (dC, dI) vwCl [] t.heap ∧ va_K (dC, dI) vwCl [] t ∧ va_D (va_A [] s.heap.size) []) (va_A [] s.heap.size)) [.int (iZ p1)].toArray s 0 0 (va_A [] s.heap.size) = Q
  have hA : ∀ q : Nat, s.heap.size ≤ q → va_A [] s.heap.size q := fun q h => Or.inr h
  generalize hAe : va_A [] s.heap.size = A at hD hA hQ
  have hS : va_S A s.heap s.heap [] := va_S.rf
  have hl := lv_entry ([.int (iZ p1)]) (n := 1) (Nat.le_of_ble_eq_true rfl)
  rw [lg_entry_eq]
  generalize (lg_sl ([.int (iZ p1)]) ++ List.replicate (1 - (lg_sl ([.int (iZ p1)])).length) Slot.unset).toArray = ls at hl ⊢
  have hl : lv_has ls 1 [(0, .int (iZ p1))] := hl
  refine lv_iload_n hx hb dX12_isLetter_0 rfl (lv_at hl 0 rfl) ?_
  refine lv_bipush (v := iZ 97) hx hb dX12_isLetter_1 (by decide) ?_
  refine zv_icmp_lt (tgt := 16) hx hb dX12_isLetter_3 (by decide) (by omega) (by omega) (fun c64831 => ?_) (fun c64831 => ?_)
  · refine lv_iconst (v := iZ 0) hx hb dX12_isLetter_16 (by decide) ?_
    subst hQ
    exact W.zret (v := iZ 0) hx hb hr rfl (fun t ht hW => ⟨⟨iZ 0, 0, rfl, ⟨rfl, by omega, Or.inr (Or.inl (by omega))⟩, by rw [ht]; exact hP, va_K.moved hW.alike hK, hD⟩, hS.F ht⟩) hS.2.2 dX12_isLetter_17
  · refine lv_iload_n hx hb dX12_isLetter_6 rfl (lv_at hl 0 rfl) ?_
    refine lv_bipush (v := iZ 122) hx hb dX12_isLetter_7 (by decide) ?_
    refine zv_icmp_gt (tgt := 16) hx hb dX12_isLetter_9 (by decide) (by omega) (by omega) (fun c64832 => ?_) (fun c64832 => ?_)
    · refine lv_iconst (v := iZ 0) hx hb dX12_isLetter_16 (by decide) ?_
      subst hQ
      exact W.zret (v := iZ 0) hx hb hr rfl (fun t ht hW => ⟨⟨iZ 0, 0, rfl, ⟨rfl, by omega, Or.inr (Or.inr (by omega))⟩, by rw [ht]; exact hP, va_K.moved hW.alike hK, hD⟩, hS.F ht⟩) hS.2.2 dX12_isLetter_17
    · refine lv_iconst (v := iZ 1) hx hb dX12_isLetter_12 (by decide) ?_
      refine lv_goto (tgt := 17) hx hb dX12_isLetter_13 (by decide) ?_
      subst hQ
      exact W.zret (v := iZ 1) hx hb hr rfl (fun t ht hW => ⟨⟨iZ 1, 1, rfl, ⟨rfl, by omega, Or.inl (by omega)⟩, by rw [ht]; exact hP, va_K.moved hW.alike hK, hD⟩, hS.F ht⟩) hS.2.2 dX12_isLetter_17
set_option maxHeartbeats 4000000 in
set_option maxRecDepth 100000 in
theorem z_X12_isDigit (l : Launch) (dC : Nat → ClassId) (dI : Nat → Nat → Nat) (p1 : Int) (sz : Nat) (b_p1 : -1 ≤ p1 ∧ p1 ≤ 255) : Met l yX12_isDigit (Cond.code yX12_isDigit cX12_isDigit 1 (some .boolean) :: wA) ({ frames := 0, cells := 0, slots := 0, locals := 0 }) (va_Pc [.int (iZ p1)] (fun U => U.heap.size = sz ∧ va_P (dC, dI) vwCl [] U.heap ∧ va_K (dC, dI) vwCl [] U ∧ va_D (fun _ => True) [] ∧ nwAll U)) (va_Qi (fun (r : Int32) (zR : Int) => r = iZ zR ∧ (0 ≤ zR ∧ zR ≤ 1) ∧ ((zR = 1 ∧ 48 ≤ p1 ∧ p1 ≤ 57) ∨ (zR = 0 ∧ p1 ≤ 47) ∨ (zR = 0 ∧ 58 ≤ p1))) (fun zR t => va_P (dC, dI) vwCl [] t.heap ∧ va_K (dC, dI) vwCl [] t ∧ va_D (va_A [] sz) []) (va_A [] sz)) 0 0 (va_A [] sz) := by
  refine Met.ofW (cc := cX12_isDigit) (maxL := 1) (ret := (some .boolean)) (by decide) rfl ?_
  intro p e s m args below meth c s₁ B hml hv
  obtain ⟨rfl, hsz, hP, hK, hD0, hN⟩ := hv
  have hx := B.exec
  have hb := B.bytes
  have hr := B.returns
  have hts : ∀ w ∈ wA, w.before [.int (iZ p1)].toArray s = true := fun w h => atoms_spec (ws := Cond.code yX12_isDigit cX12_isDigit 1 (some .boolean) :: wA) B.pre w (List.mem_cons_of_mem _ h)
  have hown : s.vm.findClass RX12 = some m.cls := findClass_of_methodNamed B.named
  have hlocks := B.notSynchronized
  subst hsz
  have hD := hD0.self (sz := s.heap.size)
  generalize hQ : MQ below (va_Qi (fun (r : Int32) (zR : Int) => r = iZ zR ∧ (0 ≤ zR ∧ zR ≤ 1) ∧ ((zR = 1 ∧ 48 ≤ p1 ∧ p1 ≤ 57) ∨ (zR = 0 ∧ p1 ≤ 47) ∨ (zR = 0 ∧ 58 ≤ p1))) (fun zR t => va_P (dC, dI) vwCl [] t.heap ∧ va_K (dC, dI) vwCl [] t ∧ va_D (va_A [] s.heap.size) []) (va_A [] s.heap.size)) [.int (iZ p1)].toArray s 0 0 (va_A [] s.heap.size) = Q
  have hA : ∀ q : Nat, s.heap.size ≤ q → va_A [] s.heap.size q := fun q h => Or.inr h
  generalize hAe : va_A [] s.heap.size = A at hD hA hQ
  have hS : va_S A s.heap s.heap [] := va_S.rf
  have hl := lv_entry ([.int (iZ p1)]) (n := 1) (Nat.le_of_ble_eq_true rfl)
  rw [lg_entry_eq]
  generalize (lg_sl ([.int (iZ p1)]) ++ List.replicate (1 - (lg_sl ([.int (iZ p1)])).length) Slot.unset).toArray = ls at hl ⊢
  have hl : lv_has ls 1 [(0, .int (iZ p1))] := hl
  refine lv_iload_n hx hb dX12_isDigit_0 rfl (lv_at hl 0 rfl) ?_
  refine lv_bipush (v := iZ 48) hx hb dX12_isDigit_1 (by decide) ?_
  refine zv_icmp_lt (tgt := 16) hx hb dX12_isDigit_3 (by decide) (by omega) (by omega) (fun c64835 => ?_) (fun c64835 => ?_)
  · refine lv_iconst (v := iZ 0) hx hb dX12_isDigit_16 (by decide) ?_
    subst hQ
    exact W.zret (v := iZ 0) hx hb hr rfl (fun t ht hW => ⟨⟨iZ 0, 0, rfl, ⟨rfl, by omega, Or.inr (Or.inl (by omega))⟩, by rw [ht]; exact hP, va_K.moved hW.alike hK, hD⟩, hS.F ht⟩) hS.2.2 dX12_isDigit_17
  · refine lv_iload_n hx hb dX12_isDigit_6 rfl (lv_at hl 0 rfl) ?_
    refine lv_bipush (v := iZ 57) hx hb dX12_isDigit_7 (by decide) ?_
    refine zv_icmp_gt (tgt := 16) hx hb dX12_isDigit_9 (by decide) (by omega) (by omega) (fun c64836 => ?_) (fun c64836 => ?_)
    · refine lv_iconst (v := iZ 0) hx hb dX12_isDigit_16 (by decide) ?_
      subst hQ
      exact W.zret (v := iZ 0) hx hb hr rfl (fun t ht hW => ⟨⟨iZ 0, 0, rfl, ⟨rfl, by omega, Or.inr (Or.inr (by omega))⟩, by rw [ht]; exact hP, va_K.moved hW.alike hK, hD⟩, hS.F ht⟩) hS.2.2 dX12_isDigit_17
    · refine lv_iconst (v := iZ 1) hx hb dX12_isDigit_12 (by decide) ?_
      refine lv_goto (tgt := 17) hx hb dX12_isDigit_13 (by decide) ?_
      subst hQ
      exact W.zret (v := iZ 1) hx hb hr rfl (fun t ht hW => ⟨⟨iZ 1, 1, rfl, ⟨rfl, by omega, Or.inl (by omega)⟩, by rw [ht]; exact hP, va_K.moved hW.alike hK, hD⟩, hS.F ht⟩) hS.2.2 dX12_isDigit_17
def wk_160 (a0 : Nat) (x0_0 : Nat) (x0_1 : Int) (x0_2 : Int) (x0_3 : Int) (x0_4 : Int) (x0_5 : Int) (x0_6 : Int) (x0_7 : Int) (x0_8 : Int) (x0_9 : Nat) (x0_10 : Nat) (x0_11 : Nat) (x0_12 : Nat) (x0_13 : Nat) (x0_14 : Nat) (x0_15 : Nat) (x0_16 : Nat) (x0_17 : Nat) (x0_18 : Nat) (x0_19 : Nat) (x0_20 : Nat) (x0_21 : Nat) (x0_22 : Nat) (x0_23 : Nat) (x0_24 : Int) (x0_25 : Int) (x0_26 : Int) (x0_27 : Int) (x0_28 : Int) (x0_29 : Nat) (x0_30 : Nat) (x0_31 : Nat) (x0_32 : Nat) (x0_33 : Nat) (x0_34 : Int) (x0_35 : Nat) (x0_36 : Nat) (x0_37 : Nat) (x0_38 : Int) (x0_39 : Int) (x0_40 : Int) (x0_41 : Nat) (x0_42 : Nat) (x0_43 : Nat) (x0_44 : Int) (x0_45 : Nat) (x0_46 : Nat) (x0_47 : Int) (x0_48 : Nat) (x0_49 : Nat) (x0_50 : Int) (x0_51 : Nat) (x0_52 : Nat) (x0_53 : Int) (x0_54 : Nat) (x0_55 : Nat) (x0_56 : Int) (x0_57 : Int) (x0_58 : Int) (x0_59 : Nat) (x0_60 : Nat) (x0_61 : Int) (x0_62 : Nat) (x0_63 : Nat) (x0_64 : Int) (x0_65 : Nat) (x0_66 : Nat) (x0_67 : Nat) (x0_68 : Int) (x0_69 : Int) (x0_70 : Int64) (x0_71 : Nat) (x0_72 : Int) (x0_73 : Int) (x0_74 : Int) (x0_75 : Int) (x0_76 : Int) (x0_77 : Int) (x0_78 : Int) (x0_79 : Nat) (x0_80 : Nat) (x0_81 : Nat) (x0_82 : Nat) (x0_83 : Int) (a1 : Nat) (c1 : ClassId) (g1 : Nat → Int) : va_W := [(a0, .inr (12, [.ref x0_0, .int (iZ x0_1), .int (iZ x0_2), .int (iZ x0_3), .int (iZ x0_4), .int (iZ x0_5), .int (iZ x0_6), .int (iZ x0_7), .int (iZ x0_8), .ref x0_9, .ref x0_10, .ref x0_11, .ref x0_12, .ref x0_13, .ref x0_14, .ref x0_15, .ref x0_16, .ref x0_17, .ref x0_18, .ref x0_19, .ref x0_20, .ref x0_21, .ref x0_22, .ref x0_23, .int (iZ x0_24), .int (iZ x0_25), .int (iZ x0_26), .int (iZ x0_27), .int (iZ x0_28), .ref x0_29, .ref x0_30, .ref x0_31, .ref x0_32, .ref x0_33, .int (iZ x0_34), .ref x0_35, .ref x0_36, .ref x0_37, .int (iZ x0_38), .int (iZ x0_39), .int (iZ x0_40), .ref x0_41, .ref x0_42, .ref x0_43, .int (iZ x0_44), .ref x0_45, .ref x0_46, .int (iZ x0_47), .ref x0_48, .ref x0_49, .int (iZ x0_50), .ref x0_51, .ref x0_52, .int (iZ x0_53), .ref x0_54, .ref x0_55, .int (iZ x0_56), .int (iZ x0_57), .int (iZ x0_58), .ref x0_59, .ref x0_60, .int (iZ x0_61), .ref x0_62, .ref x0_63, .int (iZ x0_64), .ref x0_65, .ref x0_66, .ref x0_67, .int (iZ x0_68), .int (iZ x0_69), .long x0_70, .ref x0_71, .int (iZ x0_72), .int (iZ x0_73), .int (iZ x0_74), .int (iZ x0_75), .int (iZ x0_76), .int (iZ x0_77), .int (iZ x0_78), .ref x0_79, .ref x0_80, .ref x0_81, .ref x0_82, .int (iZ x0_83)])), (a1, .inl (c1, 7, .inl (aZ g1)))]
set_option maxHeartbeats 4000000 in
set_option maxRecDepth 100000 in
theorem z_X12_refuses (l : Launch) (dC : Nat → ClassId) (dI : Nat → Nat → Nat) (a_t : Nat) (p1 : Int) (q_t_tape : Nat) (t_taped : Int) (t_at : Int) (t_end : Int) (t_ended : Int) (t_bad : Int) (t_badPlace : Int) (t_fault : Int) (t_faultPlace : Int) (q_t_refused : Nat) (q_t_heapWord : Nat) (q_t_kindWord : Nat) (q_t_cellWord : Nat) (q_t_setWord : Nat) (q_t_rootWord : Nat) (q_t_methodWord : Nat) (q_t_numWord : Nat) (q_t_refWord : Nat) (q_t_weakWord : Nat) (q_t_nilWord : Nat) (q_t_newWord : Nat) (q_t_slideWord : Nat) (q_t_repeatWord : Nat) (q_t_whenWord : Nat) (t_namePlace : Int) (t_size : Int) (t_size0 : Int) (t_kindMany : Int) (t_kindMany0 : Int) (q_t_fields : Nat) (q_t_sorts : Nat) (q_t_kindName : Nat) (q_t_cellName : Nat) (q_t_cellFirst : Nat) (t_cellNames : Int) (q_t_now : Nat) (q_t_laid : Nat) (q_t_view : Nat) (t_isTold : Int) (t_statements : Int) (t_cellMany : Int) (q_t_firstOf : Nat) (q_t_cellOfWord : Nat) (q_t_live : Nat) (t_liveMany : Int) (q_t_liveAt : Nat) (q_t_goesTo : Nat) (t_blockMany : Int) (q_t_blockAt : Nat) (q_t_blockWords : Nat) (t_weakGone : Int) (q_t_far : Nat) (q_t_near : Nat) (t_foundMany : Int) (q_t_foundRow : Nat) (q_t_foundAs : Nat) (t_isRemembered : Int) (t_shapeMany : Int) (t_shapeMany0 : Int) (q_t_shape : Nat) (q_t_shape0 : Nat) (t_rowMany : Int) (q_t_rows : Nat) (q_t_fits : Nat) (t_fitMany : Int) (q_t_held : Nat) (q_t_like : Nat) (q_t_kept0 : Nat) (t_undoable : Int) (t_newest : Int) (t_seeded : Int64) (q_t_registerWord : Nat) (t_opened : Int) (t_failKind : Int) (t_failPlace : Int) (t_acts : Int) (t_valueSort : Int) (t_valueNumber : Int) (t_frameMany : Int) (q_t_framePlace : Nat) (q_t_frameBody : Nat) (q_t_frameLeft : Nat) (q_t_octet : Nat) (t_octets : Int) (k_t_refused : ClassId) (g_t_refused : Nat → Int) (sz : Nat) (b_t_taped : 0 ≤ t_taped ∧ t_taped ≤ 1600) (b_t_at : 0 ≤ t_at ∧ t_at ≤ 1600) (b_t_end : 0 ≤ t_end ∧ t_end ≤ 1600) (b_t_ended : -1 ≤ t_ended ∧ t_ended ≤ 1600) (b_t_bad : 0 ≤ t_bad ∧ t_bad ≤ 5) (b_t_badPlace : -1 ≤ t_badPlace ∧ t_badPlace ≤ 1600) (b_t_fault : 0 ≤ t_fault ∧ t_fault ≤ 5) (b_t_faultPlace : -1 ≤ t_faultPlace ∧ t_faultPlace ≤ 1600) (b_t_namePlace : 0 ≤ t_namePlace ∧ t_namePlace ≤ 1600) (b_t_size : 0 ≤ t_size ∧ t_size ≤ 160) (b_t_size0 : 0 ≤ t_size0 ∧ t_size0 ≤ 999) (b_t_kindMany : 0 ≤ t_kindMany ∧ t_kindMany ≤ 6) (b_t_kindMany0 : 0 ≤ t_kindMany0 ∧ t_kindMany0 ≤ 6) (b_t_cellNames : 0 ≤ t_cellNames ∧ t_cellNames ≤ 60) (b_t_isTold : 0 ≤ t_isTold ∧ t_isTold ≤ 1) (b_t_statements : 0 ≤ t_statements ∧ t_statements ≤ 60) (b_t_cellMany : 0 ≤ t_cellMany ∧ t_cellMany ≤ 80) (b_t_liveMany : 0 ≤ t_liveMany ∧ t_liveMany ≤ 160) (b_t_blockMany : 0 ≤ t_blockMany ∧ t_blockMany ≤ 80) (b_t_weakGone : -2147483648 ≤ t_weakGone ∧ t_weakGone ≤ 2147483647) (b_t_foundMany : 0 ≤ t_foundMany ∧ t_foundMany ≤ 80) (b_t_isRemembered : 0 ≤ t_isRemembered ∧ t_isRemembered ≤ 1) (b_t_shapeMany : 0 ≤ t_shapeMany ∧ t_shapeMany ≤ 600) (b_t_shapeMany0 : 0 ≤ t_shapeMany0 ∧ t_shapeMany0 ≤ 600) (b_t_rowMany : 0 ≤ t_rowMany ∧ t_rowMany ≤ 16) (b_t_fitMany : 0 ≤ t_fitMany ∧ t_fitMany ≤ 331) (b_t_undoable : 0 ≤ t_undoable ∧ t_undoable ≤ 20) (b_t_newest : 0 ≤ t_newest ∧ t_newest ≤ 19) (b_t_opened : 0 ≤ t_opened ∧ t_opened ≤ 5) (b_t_failKind : 0 ≤ t_failKind ∧ t_failKind ≤ 6) (b_t_failPlace : -1 ≤ t_failPlace ∧ t_failPlace ≤ 1600) (b_t_acts : 0 ≤ t_acts ∧ t_acts ≤ 400) (b_t_valueSort : -2147483648 ≤ t_valueSort ∧ t_valueSort ≤ 2147483647) (b_t_valueNumber : -2147483648 ≤ t_valueNumber ∧ t_valueNumber ≤ 2147483647) (b_t_frameMany : 0 ≤ t_frameMany ∧ t_frameMany ≤ 4) (b_t_octets : 0 ≤ t_octets ∧ t_octets ≤ 507) (b_p1 : 0 ≤ p1 ∧ p1 ≤ 6) : Met l yX12_refuses (Cond.code yX12_refuses cX12_refuses 2 (some .int) :: wA) ({ frames := 0, cells := 0, slots := 0, locals := 0 }) (va_Pc [.ref a_t, .int (iZ p1)] (fun U => U.heap.size = sz ∧ va_P (dC, dI) vwCl (wk_160 a_t q_t_tape t_taped t_at t_end t_ended t_bad t_badPlace t_fault t_faultPlace q_t_refused q_t_heapWord q_t_kindWord q_t_cellWord q_t_setWord q_t_rootWord q_t_methodWord q_t_numWord q_t_refWord q_t_weakWord q_t_nilWord q_t_newWord q_t_slideWord q_t_repeatWord q_t_whenWord t_namePlace t_size t_size0 t_kindMany t_kindMany0 q_t_fields q_t_sorts q_t_kindName q_t_cellName q_t_cellFirst t_cellNames q_t_now q_t_laid q_t_view t_isTold t_statements t_cellMany q_t_firstOf q_t_cellOfWord q_t_live t_liveMany q_t_liveAt q_t_goesTo t_blockMany q_t_blockAt q_t_blockWords t_weakGone q_t_far q_t_near t_foundMany q_t_foundRow q_t_foundAs t_isRemembered t_shapeMany t_shapeMany0 q_t_shape q_t_shape0 t_rowMany q_t_rows q_t_fits t_fitMany q_t_held q_t_like q_t_kept0 t_undoable t_newest t_seeded q_t_registerWord t_opened t_failKind t_failPlace t_acts t_valueSort t_valueNumber t_frameMany q_t_framePlace q_t_frameBody q_t_frameLeft q_t_octet t_octets q_t_refused k_t_refused g_t_refused) U.heap ∧ va_K (dC, dI) vwCl [(k_t_refused, .int)] U ∧ va_D (fun _ => True) (wk_160 a_t q_t_tape t_taped t_at t_end t_ended t_bad t_badPlace t_fault t_faultPlace q_t_refused q_t_heapWord q_t_kindWord q_t_cellWord q_t_setWord q_t_rootWord q_t_methodWord q_t_numWord q_t_refWord q_t_weakWord q_t_nilWord q_t_newWord q_t_slideWord q_t_repeatWord q_t_whenWord t_namePlace t_size t_size0 t_kindMany t_kindMany0 q_t_fields q_t_sorts q_t_kindName q_t_cellName q_t_cellFirst t_cellNames q_t_now q_t_laid q_t_view t_isTold t_statements t_cellMany q_t_firstOf q_t_cellOfWord q_t_live t_liveMany q_t_liveAt q_t_goesTo t_blockMany q_t_blockAt q_t_blockWords t_weakGone q_t_far q_t_near t_foundMany q_t_foundRow q_t_foundAs t_isRemembered t_shapeMany t_shapeMany0 q_t_shape q_t_shape0 t_rowMany q_t_rows q_t_fits t_fitMany q_t_held q_t_like q_t_kept0 t_undoable t_newest t_seeded q_t_registerWord t_opened t_failKind t_failPlace t_acts t_valueSort t_valueNumber t_frameMany q_t_framePlace q_t_frameBody q_t_frameLeft q_t_octet t_octets q_t_refused k_t_refused g_t_refused) ∧ nwAll U)) (va_Qi (fun (r : Int32) (zR : Int) => r = iZ zR ∧ (-1 ≤ zR ∧ zR ≤ -1)) (fun zR t => ∃ n_g_t_refused : Nat → Int, va_P (dC, dI) vwCl (wk_160 a_t q_t_tape t_taped t_at t_end t_ended t_bad t_badPlace t_fault t_faultPlace q_t_refused q_t_heapWord q_t_kindWord q_t_cellWord q_t_setWord q_t_rootWord q_t_methodWord q_t_numWord q_t_refWord q_t_weakWord q_t_nilWord q_t_newWord q_t_slideWord q_t_repeatWord q_t_whenWord t_namePlace t_size t_size0 t_kindMany t_kindMany0 q_t_fields q_t_sorts q_t_kindName q_t_cellName q_t_cellFirst t_cellNames q_t_now q_t_laid q_t_view t_isTold t_statements t_cellMany q_t_firstOf q_t_cellOfWord q_t_live t_liveMany q_t_liveAt q_t_goesTo t_blockMany q_t_blockAt q_t_blockWords t_weakGone q_t_far q_t_near t_foundMany q_t_foundRow q_t_foundAs t_isRemembered t_shapeMany t_shapeMany0 q_t_shape q_t_shape0 t_rowMany q_t_rows q_t_fits t_fitMany q_t_held q_t_like q_t_kept0 t_undoable t_newest t_seeded q_t_registerWord t_opened t_failKind t_failPlace t_acts t_valueSort t_valueNumber t_frameMany q_t_framePlace q_t_frameBody q_t_frameLeft q_t_octet t_octets q_t_refused k_t_refused n_g_t_refused) t.heap ∧ va_K (dC, dI) vwCl [(k_t_refused, .int)] t ∧ va_D (va_A (wk_160 a_t q_t_tape t_taped t_at t_end t_ended t_bad t_badPlace t_fault t_faultPlace q_t_refused q_t_heapWord q_t_kindWord q_t_cellWord q_t_setWord q_t_rootWord q_t_methodWord q_t_numWord q_t_refWord q_t_weakWord q_t_nilWord q_t_newWord q_t_slideWord q_t_repeatWord q_t_whenWord t_namePlace t_size t_size0 t_kindMany t_kindMany0 q_t_fields q_t_sorts q_t_kindName q_t_cellName q_t_cellFirst t_cellNames q_t_now q_t_laid q_t_view t_isTold t_statements t_cellMany q_t_firstOf q_t_cellOfWord q_t_live t_liveMany q_t_liveAt q_t_goesTo t_blockMany q_t_blockAt q_t_blockWords t_weakGone q_t_far q_t_near t_foundMany q_t_foundRow q_t_foundAs t_isRemembered t_shapeMany t_shapeMany0 q_t_shape q_t_shape0 t_rowMany q_t_rows q_t_fits t_fitMany q_t_held q_t_like q_t_kept0 t_undoable t_newest t_seeded q_t_registerWord t_opened t_failKind t_failPlace t_acts t_valueSort t_valueNumber t_frameMany q_t_framePlace q_t_frameBody q_t_frameLeft q_t_octet t_octets q_t_refused k_t_refused g_t_refused) sz) (wk_160 a_t q_t_tape t_taped t_at t_end t_ended t_bad t_badPlace t_fault t_faultPlace q_t_refused q_t_heapWord q_t_kindWord q_t_cellWord q_t_setWord q_t_rootWord q_t_methodWord q_t_numWord q_t_refWord q_t_weakWord q_t_nilWord q_t_newWord q_t_slideWord q_t_repeatWord q_t_whenWord t_namePlace t_size t_size0 t_kindMany t_kindMany0 q_t_fields q_t_sorts q_t_kindName q_t_cellName q_t_cellFirst t_cellNames q_t_now q_t_laid q_t_view t_isTold t_statements t_cellMany q_t_firstOf q_t_cellOfWord q_t_live t_liveMany q_t_liveAt q_t_goesTo t_blockMany q_t_blockAt q_t_blockWords t_weakGone q_t_far q_t_near t_foundMany q_t_foundRow q_t_foundAs t_isRemembered t_shapeMany t_shapeMany0 q_t_shape q_t_shape0 t_rowMany q_t_rows q_t_fits t_fitMany q_t_held q_t_like q_t_kept0 t_undoable t_newest t_seeded q_t_registerWord t_opened t_failKind t_failPlace t_acts t_valueSort t_valueNumber t_frameMany q_t_framePlace q_t_frameBody q_t_frameLeft q_t_octet t_octets q_t_refused k_t_refused n_g_t_refused)) (va_A (wk_160 a_t q_t_tape t_taped t_at t_end t_ended t_bad t_badPlace t_fault t_faultPlace q_t_refused q_t_heapWord q_t_kindWord q_t_cellWord q_t_setWord q_t_rootWord q_t_methodWord q_t_numWord q_t_refWord q_t_weakWord q_t_nilWord q_t_newWord q_t_slideWord q_t_repeatWord q_t_whenWord t_namePlace t_size t_size0 t_kindMany t_kindMany0 q_t_fields q_t_sorts q_t_kindName q_t_cellName q_t_cellFirst t_cellNames q_t_now q_t_laid q_t_view t_isTold t_statements t_cellMany q_t_firstOf q_t_cellOfWord q_t_live t_liveMany q_t_liveAt q_t_goesTo t_blockMany q_t_blockAt q_t_blockWords t_weakGone q_t_far q_t_near t_foundMany q_t_foundRow q_t_foundAs t_isRemembered t_shapeMany t_shapeMany0 q_t_shape q_t_shape0 t_rowMany q_t_rows q_t_fits t_fitMany q_t_held q_t_like q_t_kept0 t_undoable t_newest t_seeded q_t_registerWord t_opened t_failKind t_failPlace t_acts t_valueSort t_valueNumber t_frameMany q_t_framePlace q_t_frameBody q_t_frameLeft q_t_octet t_octets q_t_refused k_t_refused g_t_refused) sz)) 0 0 (va_A (wk_160 a_t q_t_tape t_taped t_at t_end t_ended t_bad t_badPlace t_fault t_faultPlace q_t_refused q_t_heapWord q_t_kindWord q_t_cellWord q_t_setWord q_t_rootWord q_t_methodWord q_t_numWord q_t_refWord q_t_weakWord q_t_nilWord q_t_newWord q_t_slideWord q_t_repeatWord q_t_whenWord t_namePlace t_size t_size0 t_kindMany t_kindMany0 q_t_fields q_t_sorts q_t_kindName q_t_cellName q_t_cellFirst t_cellNames q_t_now q_t_laid q_t_view t_isTold t_statements t_cellMany q_t_firstOf q_t_cellOfWord q_t_live t_liveMany q_t_liveAt q_t_goesTo t_blockMany q_t_blockAt q_t_blockWords t_weakGone q_t_far q_t_near t_foundMany q_t_foundRow q_t_foundAs t_isRemembered t_shapeMany t_shapeMany0 q_t_shape q_t_shape0 t_rowMany q_t_rows q_t_fits t_fitMany q_t_held q_t_like q_t_kept0 t_undoable t_newest t_seeded q_t_registerWord t_opened t_failKind t_failPlace t_acts t_valueSort t_valueNumber t_frameMany q_t_framePlace q_t_frameBody q_t_frameLeft q_t_octet t_octets q_t_refused k_t_refused g_t_refused) sz) := by
  refine Met.ofW (cc := cX12_refuses) (maxL := 2) (ret := (some .int)) (by decide) rfl ?_
  intro p e s m args below meth c s₁ B hml hv
  obtain ⟨rfl, hsz, hP, hK, hD0, hN⟩ := hv
  have hx := B.exec
  have hb := B.bytes
  have hr := B.returns
  have hts : ∀ w ∈ wA, w.before [.ref a_t, .int (iZ p1)].toArray s = true := fun w h => atoms_spec (ws := Cond.code yX12_refuses cX12_refuses 2 (some .int) :: wA) B.pre w (List.mem_cons_of_mem _ h)
  have hown : s.vm.findClass RX12 = some m.cls := findClass_of_methodNamed B.named
  have hlocks := B.notSynchronized
  subst hsz
  have hD := hD0.self (sz := s.heap.size)
  generalize hQ : MQ below (va_Qi (fun (r : Int32) (zR : Int) => r = iZ zR ∧ (-1 ≤ zR ∧ zR ≤ -1)) (fun zR t => ∃ n_g_t_refused : Nat → Int, va_P (dC, dI) vwCl (wk_160 a_t q_t_tape t_taped t_at t_end t_ended t_bad t_badPlace t_fault t_faultPlace q_t_refused q_t_heapWord q_t_kindWord q_t_cellWord q_t_setWord q_t_rootWord q_t_methodWord q_t_numWord q_t_refWord q_t_weakWord q_t_nilWord q_t_newWord q_t_slideWord q_t_repeatWord q_t_whenWord t_namePlace t_size t_size0 t_kindMany t_kindMany0 q_t_fields q_t_sorts q_t_kindName q_t_cellName q_t_cellFirst t_cellNames q_t_now q_t_laid q_t_view t_isTold t_statements t_cellMany q_t_firstOf q_t_cellOfWord q_t_live t_liveMany q_t_liveAt q_t_goesTo t_blockMany q_t_blockAt q_t_blockWords t_weakGone q_t_far q_t_near t_foundMany q_t_foundRow q_t_foundAs t_isRemembered t_shapeMany t_shapeMany0 q_t_shape q_t_shape0 t_rowMany q_t_rows q_t_fits t_fitMany q_t_held q_t_like q_t_kept0 t_undoable t_newest t_seeded q_t_registerWord t_opened t_failKind t_failPlace t_acts t_valueSort t_valueNumber t_frameMany q_t_framePlace q_t_frameBody q_t_frameLeft q_t_octet t_octets q_t_refused k_t_refused n_g_t_refused) t.heap ∧ va_K (dC, dI) vwCl [(k_t_refused, .int)] t ∧ va_D (va_A (wk_160 a_t q_t_tape t_taped t_at t_end t_ended t_bad t_badPlace t_fault t_faultPlace q_t_refused q_t_heapWord q_t_kindWord q_t_cellWord q_t_setWord q_t_rootWord q_t_methodWord q_t_numWord q_t_refWord q_t_weakWord q_t_nilWord q_t_newWord q_t_slideWord q_t_repeatWord q_t_whenWord t_namePlace t_size t_size0 t_kindMany t_kindMany0 q_t_fields q_t_sorts q_t_kindName q_t_cellName q_t_cellFirst t_cellNames q_t_now q_t_laid q_t_view t_isTold t_statements t_cellMany q_t_firstOf q_t_cellOfWord q_t_live t_liveMany q_t_liveAt q_t_goesTo t_blockMany q_t_blockAt q_t_blockWords t_weakGone q_t_far q_t_near t_foundMany q_t_foundRow q_t_foundAs t_isRemembered t_shapeMany t_shapeMany0 q_t_shape q_t_shape0 t_rowMany q_t_rows q_t_fits t_fitMany q_t_held q_t_like q_t_kept0 t_undoable t_newest t_seeded q_t_registerWord t_opened t_failKind t_failPlace t_acts t_valueSort t_valueNumber t_frameMany q_t_framePlace q_t_frameBody q_t_frameLeft q_t_octet t_octets q_t_refused k_t_refused g_t_refused) s.heap.size) (wk_160 a_t q_t_tape t_taped t_at t_end t_ended t_bad t_badPlace t_fault t_faultPlace q_t_refused q_t_heapWord q_t_kindWord q_t_cellWord q_t_setWord q_t_rootWord q_t_methodWord q_t_numWord q_t_refWord q_t_weakWord q_t_nilWord q_t_newWord q_t_slideWord q_t_repeatWord q_t_whenWord t_namePlace t_size t_size0 t_kindMany t_kindMany0 q_t_fields q_t_sorts q_t_kindName q_t_cellName q_t_cellFirst t_cellNames q_t_now q_t_laid q_t_view t_isTold t_statements t_cellMany q_t_firstOf q_t_cellOfWord q_t_live t_liveMany q_t_liveAt q_t_goesTo t_blockMany q_t_blockAt q_t_blockWords t_weakGone q_t_far q_t_near t_foundMany q_t_foundRow q_t_foundAs t_isRemembered t_shapeMany t_shapeMany0 q_t_shape q_t_shape0 t_rowMany q_t_rows q_t_fits t_fitMany q_t_held q_t_like q_t_kept0 t_undoable t_newest t_seeded q_t_registerWord t_opened t_failKind t_failPlace t_acts t_valueSort t_valueNumber t_frameMany q_t_framePlace q_t_frameBody q_t_frameLeft q_t_octet t_octets q_t_refused k_t_refused n_g_t_refused)) (va_A (wk_160 a_t q_t_tape t_taped t_at t_end t_ended t_bad t_badPlace t_fault t_faultPlace q_t_refused q_t_heapWord q_t_kindWord q_t_cellWord q_t_setWord q_t_rootWord q_t_methodWord q_t_numWord q_t_refWord q_t_weakWord q_t_nilWord q_t_newWord q_t_slideWord q_t_repeatWord q_t_whenWord t_namePlace t_size t_size0 t_kindMany t_kindMany0 q_t_fields q_t_sorts q_t_kindName q_t_cellName q_t_cellFirst t_cellNames q_t_now q_t_laid q_t_view t_isTold t_statements t_cellMany q_t_firstOf q_t_cellOfWord q_t_live t_liveMany q_t_liveAt q_t_goesTo t_blockMany q_t_blockAt q_t_blockWords t_weakGone q_t_far q_t_near t_foundMany q_t_foundRow q_t_foundAs t_isRemembered t_shapeMany t_shapeMany0 q_t_shape q_t_shape0 t_rowMany q_t_rows q_t_fits t_fitMany q_t_held q_t_like q_t_kept0 t_undoable t_newest t_seeded q_t_registerWord t_opened t_failKind t_failPlace t_acts t_valueSort t_valueNumber t_frameMany q_t_framePlace q_t_frameBody q_t_frameLeft q_t_octet t_octets q_t_refused k_t_refused g_t_refused) s.heap.size)) [.ref a_t, .int (iZ p1)].toArray s 0 0 (va_A (wk_160 a_t q_t_tape t_taped t_at t_end t_ended t_bad t_badPlace t_fault t_faultPlace q_t_refused q_t_heapWord q_t_kindWord q_t_cellWord q_t_setWord q_t_rootWord q_t_methodWord q_t_numWord q_t_refWord q_t_weakWord q_t_nilWord q_t_newWord q_t_slideWord q_t_repeatWord q_t_whenWord t_namePlace t_size t_size0 t_kindMany t_kindMany0 q_t_fields q_t_sorts q_t_kindName q_t_cellName q_t_cellFirst t_cellNames q_t_now q_t_laid q_t_view t_isTold t_statements t_cellMany q_t_firstOf q_t_cellOfWord q_t_live t_liveMany q_t_liveAt q_t_goesTo t_blockMany q_t_blockAt q_t_blockWords t_weakGone q_t_far q_t_near t_foundMany q_t_foundRow q_t_foundAs t_isRemembered t_shapeMany t_shapeMany0 q_t_shape q_t_shape0 t_rowMany q_t_rows q_t_fits t_fitMany q_t_held q_t_like q_t_kept0 t_undoable t_newest t_seeded q_t_registerWord t_opened t_failKind t_failPlace t_acts t_valueSort t_valueNumber t_frameMany q_t_framePlace q_t_frameBody q_t_frameLeft q_t_octet t_octets q_t_refused k_t_refused g_t_refused) s.heap.size) = Q
  have hA : ∀ q : Nat, s.heap.size ≤ q → va_A (wk_160 a_t q_t_tape t_taped t_at t_end t_ended t_bad t_badPlace t_fault t_faultPlace q_t_refused q_t_heapWord q_t_kindWord q_t_cellWord q_t_setWord q_t_rootWord q_t_methodWord q_t_numWord q_t_refWord q_t_weakWord q_t_nilWord q_t_newWord q_t_slideWord q_t_repeatWord q_t_whenWord t_namePlace t_size t_size0 t_kindMany t_kindMany0 q_t_fields q_t_sorts q_t_kindName q_t_cellName q_t_cellFirst t_cellNames q_t_now q_t_laid q_t_view t_isTold t_statements t_cellMany q_t_firstOf q_t_cellOfWord q_t_live t_liveMany q_t_liveAt q_t_goesTo t_blockMany q_t_blockAt q_t_blockWords t_weakGone q_t_far q_t_near t_foundMany q_t_foundRow q_t_foundAs t_isRemembered t_shapeMany t_shapeMany0 q_t_shape q_t_shape0 t_rowMany q_t_rows q_t_fits t_fitMany q_t_held q_t_like q_t_kept0 t_undoable t_newest t_seeded q_t_registerWord t_opened t_failKind t_failPlace t_acts t_valueSort t_valueNumber t_frameMany q_t_framePlace q_t_frameBody q_t_frameLeft q_t_octet t_octets q_t_refused k_t_refused g_t_refused) s.heap.size q := fun q h => Or.inr h
  generalize hAe : va_A (wk_160 a_t q_t_tape t_taped t_at t_end t_ended t_bad t_badPlace t_fault t_faultPlace q_t_refused q_t_heapWord q_t_kindWord q_t_cellWord q_t_setWord q_t_rootWord q_t_methodWord q_t_numWord q_t_refWord q_t_weakWord q_t_nilWord q_t_newWord q_t_slideWord q_t_repeatWord q_t_whenWord t_namePlace t_size t_size0 t_kindMany t_kindMany0 q_t_fields q_t_sorts q_t_kindName q_t_cellName q_t_cellFirst t_cellNames q_t_now q_t_laid q_t_view t_isTold t_statements t_cellMany q_t_firstOf q_t_cellOfWord q_t_live t_liveMany q_t_liveAt q_t_goesTo t_blockMany q_t_blockAt q_t_blockWords t_weakGone q_t_far q_t_near t_foundMany q_t_foundRow q_t_foundAs t_isRemembered t_shapeMany t_shapeMany0 q_t_shape q_t_shape0 t_rowMany q_t_rows q_t_fits t_fitMany q_t_held q_t_like q_t_kept0 t_undoable t_newest t_seeded q_t_registerWord t_opened t_failKind t_failPlace t_acts t_valueSort t_valueNumber t_frameMany q_t_framePlace q_t_frameBody q_t_frameLeft q_t_octet t_octets q_t_refused k_t_refused g_t_refused) s.heap.size = A at hD hA hQ
  have hS : va_S A s.heap s.heap [] := va_S.rf
  have hl := lv_entry ([.ref a_t, .int (iZ p1)]) (n := 2) (Nat.le_of_ble_eq_true rfl)
  rw [lg_entry_eq]
  generalize (lg_sl ([.ref a_t, .int (iZ p1)]) ++ List.replicate (2 - (lg_sl ([.ref a_t, .int (iZ p1)])).length) Slot.unset).toArray = ls at hl ⊢
  have hl : lv_has ls 2 [(0, .ref a_t), (1, .int (iZ p1))] := hl
  refine lv_aload_n hx hb dX12_refuses_0 rfl (lv_at hl 0 rfl) ?_
  refine va_get (D := (dC, dI)) (ci := 12) (v := .ref q_t_refused) (C := RX12) (T := TX12) (N := 84) hx hb hts i_X12 hown hK hP 0 rfl rfl 9 (by decide) (hts _ q_879) (fun _ h9 => h9) rfl dX12_refuses_1 ?_
  refine lv_iload_n hx hb dX12_refuses_4 rfl (lv_at hl 1 rfl) ?_
  refine lv_dup2_11 hx hb dX12_refuses_5 rfl rfl ?_
  refine zv_iald hx hb hK hP 1 0 rfl rfl (by omega) (by omega) (by omega) dX12_refuses_6 (fun z64841 ez64841 => ?_)
  refine zv_norm (fun z64842 lz64842 uz64842 => ?_)
  refine lv_iconst (v := iZ 1) hx hb dX12_refuses_7 (by decide) ?_
  refine zv_iadd hx hb (z64842 + 1) (by omega) dX12_refuses_8 ?_
  refine zv_norm (fun z64843 lz64843 uz64843 => ?_)
  refine zv_iast hx hb hK hP hD hS 1 0 rfl rfl (by omega) (by omega) (by omega) dX12_refuses_9 (fun g64844 H locs eg64844 hP hD hS => ?_)
  subst eg64844
  have hP : va_P (dC, dI) vwCl (wk_160 a_t q_t_tape t_taped t_at t_end t_ended t_bad t_badPlace t_fault t_faultPlace q_t_refused q_t_heapWord q_t_kindWord q_t_cellWord q_t_setWord q_t_rootWord q_t_methodWord q_t_numWord q_t_refWord q_t_weakWord q_t_nilWord q_t_newWord q_t_slideWord q_t_repeatWord q_t_whenWord t_namePlace t_size t_size0 t_kindMany t_kindMany0 q_t_fields q_t_sorts q_t_kindName q_t_cellName q_t_cellFirst t_cellNames q_t_now q_t_laid q_t_view t_isTold t_statements t_cellMany q_t_firstOf q_t_cellOfWord q_t_live t_liveMany q_t_liveAt q_t_goesTo t_blockMany q_t_blockAt q_t_blockWords t_weakGone q_t_far q_t_near t_foundMany q_t_foundRow q_t_foundAs t_isRemembered t_shapeMany t_shapeMany0 q_t_shape q_t_shape0 t_rowMany q_t_rows q_t_fits t_fitMany q_t_held q_t_like q_t_kept0 t_undoable t_newest t_seeded q_t_registerWord t_opened t_failKind t_failPlace t_acts t_valueSort t_valueNumber t_frameMany q_t_framePlace q_t_frameBody q_t_frameLeft q_t_octet t_octets q_t_refused k_t_refused (updI g_t_refused (p1).toNat z64843)) H := hP
  have hD : va_D A (wk_160 a_t q_t_tape t_taped t_at t_end t_ended t_bad t_badPlace t_fault t_faultPlace q_t_refused q_t_heapWord q_t_kindWord q_t_cellWord q_t_setWord q_t_rootWord q_t_methodWord q_t_numWord q_t_refWord q_t_weakWord q_t_nilWord q_t_newWord q_t_slideWord q_t_repeatWord q_t_whenWord t_namePlace t_size t_size0 t_kindMany t_kindMany0 q_t_fields q_t_sorts q_t_kindName q_t_cellName q_t_cellFirst t_cellNames q_t_now q_t_laid q_t_view t_isTold t_statements t_cellMany q_t_firstOf q_t_cellOfWord q_t_live t_liveMany q_t_liveAt q_t_goesTo t_blockMany q_t_blockAt q_t_blockWords t_weakGone q_t_far q_t_near t_foundMany q_t_foundRow q_t_foundAs t_isRemembered t_shapeMany t_shapeMany0 q_t_shape q_t_shape0 t_rowMany q_t_rows q_t_fits t_fitMany q_t_held q_t_like q_t_kept0 t_undoable t_newest t_seeded q_t_registerWord t_opened t_failKind t_failPlace t_acts t_valueSort t_valueNumber t_frameMany q_t_framePlace q_t_frameBody q_t_frameLeft q_t_octet t_octets q_t_refused k_t_refused (updI g_t_refused (p1).toNat z64843)) := hD
  refine lv_iconst (v := iZ (-1)) hx hb dX12_refuses_10 (by decide) ?_
  subst hQ
  exact W.iret (v := iZ (-1)) hx hb hr (fun t ht hW => ⟨⟨iZ (-1), (-1), rfl, ⟨rfl, by omega⟩, (updI g_t_refused (p1).toNat z64843), by rw [ht]; exact hP, va_K.moved hW.alike hK, hD⟩, hS.F ht⟩) hS.2.2 dX12_refuses_11
set_option maxHeartbeats 4000000 in
set_option maxRecDepth 100000 in
theorem z_X12_isRefused (l : Launch) (dC : Nat → ClassId) (dI : Nat → Nat → Nat) (a_t : Nat) (p1 : Int) (q_t_tape : Nat) (t_taped : Int) (t_at : Int) (t_end : Int) (t_ended : Int) (t_bad : Int) (t_badPlace : Int) (t_fault : Int) (t_faultPlace : Int) (q_t_refused : Nat) (q_t_heapWord : Nat) (q_t_kindWord : Nat) (q_t_cellWord : Nat) (q_t_setWord : Nat) (q_t_rootWord : Nat) (q_t_methodWord : Nat) (q_t_numWord : Nat) (q_t_refWord : Nat) (q_t_weakWord : Nat) (q_t_nilWord : Nat) (q_t_newWord : Nat) (q_t_slideWord : Nat) (q_t_repeatWord : Nat) (q_t_whenWord : Nat) (t_namePlace : Int) (t_size : Int) (t_size0 : Int) (t_kindMany : Int) (t_kindMany0 : Int) (q_t_fields : Nat) (q_t_sorts : Nat) (q_t_kindName : Nat) (q_t_cellName : Nat) (q_t_cellFirst : Nat) (t_cellNames : Int) (q_t_now : Nat) (q_t_laid : Nat) (q_t_view : Nat) (t_isTold : Int) (t_statements : Int) (t_cellMany : Int) (q_t_firstOf : Nat) (q_t_cellOfWord : Nat) (q_t_live : Nat) (t_liveMany : Int) (q_t_liveAt : Nat) (q_t_goesTo : Nat) (t_blockMany : Int) (q_t_blockAt : Nat) (q_t_blockWords : Nat) (t_weakGone : Int) (q_t_far : Nat) (q_t_near : Nat) (t_foundMany : Int) (q_t_foundRow : Nat) (q_t_foundAs : Nat) (t_isRemembered : Int) (t_shapeMany : Int) (t_shapeMany0 : Int) (q_t_shape : Nat) (q_t_shape0 : Nat) (t_rowMany : Int) (q_t_rows : Nat) (q_t_fits : Nat) (t_fitMany : Int) (q_t_held : Nat) (q_t_like : Nat) (q_t_kept0 : Nat) (t_undoable : Int) (t_newest : Int) (t_seeded : Int64) (q_t_registerWord : Nat) (t_opened : Int) (t_failKind : Int) (t_failPlace : Int) (t_acts : Int) (t_valueSort : Int) (t_valueNumber : Int) (t_frameMany : Int) (q_t_framePlace : Nat) (q_t_frameBody : Nat) (q_t_frameLeft : Nat) (q_t_octet : Nat) (t_octets : Int) (k_t_refused : ClassId) (g_t_refused : Nat → Int) (sz : Nat) (b_t_taped : 0 ≤ t_taped ∧ t_taped ≤ 1600) (b_t_at : 0 ≤ t_at ∧ t_at ≤ 1600) (b_t_end : 0 ≤ t_end ∧ t_end ≤ 1600) (b_t_ended : -1 ≤ t_ended ∧ t_ended ≤ 1600) (b_t_bad : 0 ≤ t_bad ∧ t_bad ≤ 5) (b_t_badPlace : -1 ≤ t_badPlace ∧ t_badPlace ≤ 1600) (b_t_fault : 0 ≤ t_fault ∧ t_fault ≤ 5) (b_t_faultPlace : -1 ≤ t_faultPlace ∧ t_faultPlace ≤ 1600) (b_t_namePlace : 0 ≤ t_namePlace ∧ t_namePlace ≤ 1600) (b_t_size : 0 ≤ t_size ∧ t_size ≤ 160) (b_t_size0 : 0 ≤ t_size0 ∧ t_size0 ≤ 999) (b_t_kindMany : 0 ≤ t_kindMany ∧ t_kindMany ≤ 6) (b_t_kindMany0 : 0 ≤ t_kindMany0 ∧ t_kindMany0 ≤ 6) (b_t_cellNames : 0 ≤ t_cellNames ∧ t_cellNames ≤ 60) (b_t_isTold : 0 ≤ t_isTold ∧ t_isTold ≤ 1) (b_t_statements : 0 ≤ t_statements ∧ t_statements ≤ 60) (b_t_cellMany : 0 ≤ t_cellMany ∧ t_cellMany ≤ 80) (b_t_liveMany : 0 ≤ t_liveMany ∧ t_liveMany ≤ 160) (b_t_blockMany : 0 ≤ t_blockMany ∧ t_blockMany ≤ 80) (b_t_weakGone : -2147483648 ≤ t_weakGone ∧ t_weakGone ≤ 2147483647) (b_t_foundMany : 0 ≤ t_foundMany ∧ t_foundMany ≤ 80) (b_t_isRemembered : 0 ≤ t_isRemembered ∧ t_isRemembered ≤ 1) (b_t_shapeMany : 0 ≤ t_shapeMany ∧ t_shapeMany ≤ 600) (b_t_shapeMany0 : 0 ≤ t_shapeMany0 ∧ t_shapeMany0 ≤ 600) (b_t_rowMany : 0 ≤ t_rowMany ∧ t_rowMany ≤ 16) (b_t_fitMany : 0 ≤ t_fitMany ∧ t_fitMany ≤ 331) (b_t_undoable : 0 ≤ t_undoable ∧ t_undoable ≤ 20) (b_t_newest : 0 ≤ t_newest ∧ t_newest ≤ 19) (b_t_opened : 0 ≤ t_opened ∧ t_opened ≤ 5) (b_t_failKind : 0 ≤ t_failKind ∧ t_failKind ≤ 6) (b_t_failPlace : -1 ≤ t_failPlace ∧ t_failPlace ≤ 1600) (b_t_acts : 0 ≤ t_acts ∧ t_acts ≤ 400) (b_t_valueSort : -2147483648 ≤ t_valueSort ∧ t_valueSort ≤ 2147483647) (b_t_valueNumber : -2147483648 ≤ t_valueNumber ∧ t_valueNumber ≤ 2147483647) (b_t_frameMany : 0 ≤ t_frameMany ∧ t_frameMany ≤ 4) (b_t_octets : 0 ≤ t_octets ∧ t_octets ≤ 507) (b_p1 : 0 ≤ p1 ∧ p1 ≤ 6) : Met l yX12_isRefused (Cond.code yX12_isRefused cX12_isRefused 2 (some .boolean) :: wA) ({ frames := 0, cells := 0, slots := 0, locals := 0 }) (va_Pc [.ref a_t, .int (iZ p1)] (fun U => U.heap.size = sz ∧ va_P (dC, dI) vwCl (wk_160 a_t q_t_tape t_taped t_at t_end t_ended t_bad t_badPlace t_fault t_faultPlace q_t_refused q_t_heapWord q_t_kindWord q_t_cellWord q_t_setWord q_t_rootWord q_t_methodWord q_t_numWord q_t_refWord q_t_weakWord q_t_nilWord q_t_newWord q_t_slideWord q_t_repeatWord q_t_whenWord t_namePlace t_size t_size0 t_kindMany t_kindMany0 q_t_fields q_t_sorts q_t_kindName q_t_cellName q_t_cellFirst t_cellNames q_t_now q_t_laid q_t_view t_isTold t_statements t_cellMany q_t_firstOf q_t_cellOfWord q_t_live t_liveMany q_t_liveAt q_t_goesTo t_blockMany q_t_blockAt q_t_blockWords t_weakGone q_t_far q_t_near t_foundMany q_t_foundRow q_t_foundAs t_isRemembered t_shapeMany t_shapeMany0 q_t_shape q_t_shape0 t_rowMany q_t_rows q_t_fits t_fitMany q_t_held q_t_like q_t_kept0 t_undoable t_newest t_seeded q_t_registerWord t_opened t_failKind t_failPlace t_acts t_valueSort t_valueNumber t_frameMany q_t_framePlace q_t_frameBody q_t_frameLeft q_t_octet t_octets q_t_refused k_t_refused g_t_refused) U.heap ∧ va_K (dC, dI) vwCl [(k_t_refused, .int)] U ∧ va_D (fun _ => True) (wk_160 a_t q_t_tape t_taped t_at t_end t_ended t_bad t_badPlace t_fault t_faultPlace q_t_refused q_t_heapWord q_t_kindWord q_t_cellWord q_t_setWord q_t_rootWord q_t_methodWord q_t_numWord q_t_refWord q_t_weakWord q_t_nilWord q_t_newWord q_t_slideWord q_t_repeatWord q_t_whenWord t_namePlace t_size t_size0 t_kindMany t_kindMany0 q_t_fields q_t_sorts q_t_kindName q_t_cellName q_t_cellFirst t_cellNames q_t_now q_t_laid q_t_view t_isTold t_statements t_cellMany q_t_firstOf q_t_cellOfWord q_t_live t_liveMany q_t_liveAt q_t_goesTo t_blockMany q_t_blockAt q_t_blockWords t_weakGone q_t_far q_t_near t_foundMany q_t_foundRow q_t_foundAs t_isRemembered t_shapeMany t_shapeMany0 q_t_shape q_t_shape0 t_rowMany q_t_rows q_t_fits t_fitMany q_t_held q_t_like q_t_kept0 t_undoable t_newest t_seeded q_t_registerWord t_opened t_failKind t_failPlace t_acts t_valueSort t_valueNumber t_frameMany q_t_framePlace q_t_frameBody q_t_frameLeft q_t_octet t_octets q_t_refused k_t_refused g_t_refused) ∧ nwAll U)) (va_Qi (fun (r : Int32) (zR : Int) => r = iZ zR ∧ (0 ≤ zR ∧ zR ≤ 0)) (fun zR t => ∃ n_g_t_refused : Nat → Int, va_P (dC, dI) vwCl (wk_160 a_t q_t_tape t_taped t_at t_end t_ended t_bad t_badPlace t_fault t_faultPlace q_t_refused q_t_heapWord q_t_kindWord q_t_cellWord q_t_setWord q_t_rootWord q_t_methodWord q_t_numWord q_t_refWord q_t_weakWord q_t_nilWord q_t_newWord q_t_slideWord q_t_repeatWord q_t_whenWord t_namePlace t_size t_size0 t_kindMany t_kindMany0 q_t_fields q_t_sorts q_t_kindName q_t_cellName q_t_cellFirst t_cellNames q_t_now q_t_laid q_t_view t_isTold t_statements t_cellMany q_t_firstOf q_t_cellOfWord q_t_live t_liveMany q_t_liveAt q_t_goesTo t_blockMany q_t_blockAt q_t_blockWords t_weakGone q_t_far q_t_near t_foundMany q_t_foundRow q_t_foundAs t_isRemembered t_shapeMany t_shapeMany0 q_t_shape q_t_shape0 t_rowMany q_t_rows q_t_fits t_fitMany q_t_held q_t_like q_t_kept0 t_undoable t_newest t_seeded q_t_registerWord t_opened t_failKind t_failPlace t_acts t_valueSort t_valueNumber t_frameMany q_t_framePlace q_t_frameBody q_t_frameLeft q_t_octet t_octets q_t_refused k_t_refused n_g_t_refused) t.heap ∧ va_K (dC, dI) vwCl [(k_t_refused, .int)] t ∧ va_D (va_A (wk_160 a_t q_t_tape t_taped t_at t_end t_ended t_bad t_badPlace t_fault t_faultPlace q_t_refused q_t_heapWord q_t_kindWord q_t_cellWord q_t_setWord q_t_rootWord q_t_methodWord q_t_numWord q_t_refWord q_t_weakWord q_t_nilWord q_t_newWord q_t_slideWord q_t_repeatWord q_t_whenWord t_namePlace t_size t_size0 t_kindMany t_kindMany0 q_t_fields q_t_sorts q_t_kindName q_t_cellName q_t_cellFirst t_cellNames q_t_now q_t_laid q_t_view t_isTold t_statements t_cellMany q_t_firstOf q_t_cellOfWord q_t_live t_liveMany q_t_liveAt q_t_goesTo t_blockMany q_t_blockAt q_t_blockWords t_weakGone q_t_far q_t_near t_foundMany q_t_foundRow q_t_foundAs t_isRemembered t_shapeMany t_shapeMany0 q_t_shape q_t_shape0 t_rowMany q_t_rows q_t_fits t_fitMany q_t_held q_t_like q_t_kept0 t_undoable t_newest t_seeded q_t_registerWord t_opened t_failKind t_failPlace t_acts t_valueSort t_valueNumber t_frameMany q_t_framePlace q_t_frameBody q_t_frameLeft q_t_octet t_octets q_t_refused k_t_refused g_t_refused) sz) (wk_160 a_t q_t_tape t_taped t_at t_end t_ended t_bad t_badPlace t_fault t_faultPlace q_t_refused q_t_heapWord q_t_kindWord q_t_cellWord q_t_setWord q_t_rootWord q_t_methodWord q_t_numWord q_t_refWord q_t_weakWord q_t_nilWord q_t_newWord q_t_slideWord q_t_repeatWord q_t_whenWord t_namePlace t_size t_size0 t_kindMany t_kindMany0 q_t_fields q_t_sorts q_t_kindName q_t_cellName q_t_cellFirst t_cellNames q_t_now q_t_laid q_t_view t_isTold t_statements t_cellMany q_t_firstOf q_t_cellOfWord q_t_live t_liveMany q_t_liveAt q_t_goesTo t_blockMany q_t_blockAt q_t_blockWords t_weakGone q_t_far q_t_near t_foundMany q_t_foundRow q_t_foundAs t_isRemembered t_shapeMany t_shapeMany0 q_t_shape q_t_shape0 t_rowMany q_t_rows q_t_fits t_fitMany q_t_held q_t_like q_t_kept0 t_undoable t_newest t_seeded q_t_registerWord t_opened t_failKind t_failPlace t_acts t_valueSort t_valueNumber t_frameMany q_t_framePlace q_t_frameBody q_t_frameLeft q_t_octet t_octets q_t_refused k_t_refused n_g_t_refused)) (va_A (wk_160 a_t q_t_tape t_taped t_at t_end t_ended t_bad t_badPlace t_fault t_faultPlace q_t_refused q_t_heapWord q_t_kindWord q_t_cellWord q_t_setWord q_t_rootWord q_t_methodWord q_t_numWord q_t_refWord q_t_weakWord q_t_nilWord q_t_newWord q_t_slideWord q_t_repeatWord q_t_whenWord t_namePlace t_size t_size0 t_kindMany t_kindMany0 q_t_fields q_t_sorts q_t_kindName q_t_cellName q_t_cellFirst t_cellNames q_t_now q_t_laid q_t_view t_isTold t_statements t_cellMany q_t_firstOf q_t_cellOfWord q_t_live t_liveMany q_t_liveAt q_t_goesTo t_blockMany q_t_blockAt q_t_blockWords t_weakGone q_t_far q_t_near t_foundMany q_t_foundRow q_t_foundAs t_isRemembered t_shapeMany t_shapeMany0 q_t_shape q_t_shape0 t_rowMany q_t_rows q_t_fits t_fitMany q_t_held q_t_like q_t_kept0 t_undoable t_newest t_seeded q_t_registerWord t_opened t_failKind t_failPlace t_acts t_valueSort t_valueNumber t_frameMany q_t_framePlace q_t_frameBody q_t_frameLeft q_t_octet t_octets q_t_refused k_t_refused g_t_refused) sz)) 0 0 (va_A (wk_160 a_t q_t_tape t_taped t_at t_end t_ended t_bad t_badPlace t_fault t_faultPlace q_t_refused q_t_heapWord q_t_kindWord q_t_cellWord q_t_setWord q_t_rootWord q_t_methodWord q_t_numWord q_t_refWord q_t_weakWord q_t_nilWord q_t_newWord q_t_slideWord q_t_repeatWord q_t_whenWord t_namePlace t_size t_size0 t_kindMany t_kindMany0 q_t_fields q_t_sorts q_t_kindName q_t_cellName q_t_cellFirst t_cellNames q_t_now q_t_laid q_t_view t_isTold t_statements t_cellMany q_t_firstOf q_t_cellOfWord q_t_live t_liveMany q_t_liveAt q_t_goesTo t_blockMany q_t_blockAt q_t_blockWords t_weakGone q_t_far q_t_near t_foundMany q_t_foundRow q_t_foundAs t_isRemembered t_shapeMany t_shapeMany0 q_t_shape q_t_shape0 t_rowMany q_t_rows q_t_fits t_fitMany q_t_held q_t_like q_t_kept0 t_undoable t_newest t_seeded q_t_registerWord t_opened t_failKind t_failPlace t_acts t_valueSort t_valueNumber t_frameMany q_t_framePlace q_t_frameBody q_t_frameLeft q_t_octet t_octets q_t_refused k_t_refused g_t_refused) sz) := by
  refine Met.ofW (cc := cX12_isRefused) (maxL := 2) (ret := (some .boolean)) (by decide) rfl ?_
  intro p e s m args below meth c s₁ B hml hv
  obtain ⟨rfl, hsz, hP, hK, hD0, hN⟩ := hv
  have hx := B.exec
  have hb := B.bytes
  have hr := B.returns
  have hts : ∀ w ∈ wA, w.before [.ref a_t, .int (iZ p1)].toArray s = true := fun w h => atoms_spec (ws := Cond.code yX12_isRefused cX12_isRefused 2 (some .boolean) :: wA) B.pre w (List.mem_cons_of_mem _ h)
  have hown : s.vm.findClass RX12 = some m.cls := findClass_of_methodNamed B.named
  have hlocks := B.notSynchronized
  subst hsz
  have hD := hD0.self (sz := s.heap.size)
  generalize hQ : MQ below (va_Qi (fun (r : Int32) (zR : Int) => r = iZ zR ∧ (0 ≤ zR ∧ zR ≤ 0)) (fun zR t => ∃ n_g_t_refused : Nat → Int, va_P (dC, dI) vwCl (wk_160 a_t q_t_tape t_taped t_at t_end t_ended t_bad t_badPlace t_fault t_faultPlace q_t_refused q_t_heapWord q_t_kindWord q_t_cellWord q_t_setWord q_t_rootWord q_t_methodWord q_t_numWord q_t_refWord q_t_weakWord q_t_nilWord q_t_newWord q_t_slideWord q_t_repeatWord q_t_whenWord t_namePlace t_size t_size0 t_kindMany t_kindMany0 q_t_fields q_t_sorts q_t_kindName q_t_cellName q_t_cellFirst t_cellNames q_t_now q_t_laid q_t_view t_isTold t_statements t_cellMany q_t_firstOf q_t_cellOfWord q_t_live t_liveMany q_t_liveAt q_t_goesTo t_blockMany q_t_blockAt q_t_blockWords t_weakGone q_t_far q_t_near t_foundMany q_t_foundRow q_t_foundAs t_isRemembered t_shapeMany t_shapeMany0 q_t_shape q_t_shape0 t_rowMany q_t_rows q_t_fits t_fitMany q_t_held q_t_like q_t_kept0 t_undoable t_newest t_seeded q_t_registerWord t_opened t_failKind t_failPlace t_acts t_valueSort t_valueNumber t_frameMany q_t_framePlace q_t_frameBody q_t_frameLeft q_t_octet t_octets q_t_refused k_t_refused n_g_t_refused) t.heap ∧ va_K (dC, dI) vwCl [(k_t_refused, .int)] t ∧ va_D (va_A (wk_160 a_t q_t_tape t_taped t_at t_end t_ended t_bad t_badPlace t_fault t_faultPlace q_t_refused q_t_heapWord q_t_kindWord q_t_cellWord q_t_setWord q_t_rootWord q_t_methodWord q_t_numWord q_t_refWord q_t_weakWord q_t_nilWord q_t_newWord q_t_slideWord q_t_repeatWord q_t_whenWord t_namePlace t_size t_size0 t_kindMany t_kindMany0 q_t_fields q_t_sorts q_t_kindName q_t_cellName q_t_cellFirst t_cellNames q_t_now q_t_laid q_t_view t_isTold t_statements t_cellMany q_t_firstOf q_t_cellOfWord q_t_live t_liveMany q_t_liveAt q_t_goesTo t_blockMany q_t_blockAt q_t_blockWords t_weakGone q_t_far q_t_near t_foundMany q_t_foundRow q_t_foundAs t_isRemembered t_shapeMany t_shapeMany0 q_t_shape q_t_shape0 t_rowMany q_t_rows q_t_fits t_fitMany q_t_held q_t_like q_t_kept0 t_undoable t_newest t_seeded q_t_registerWord t_opened t_failKind t_failPlace t_acts t_valueSort t_valueNumber t_frameMany q_t_framePlace q_t_frameBody q_t_frameLeft q_t_octet t_octets q_t_refused k_t_refused g_t_refused) s.heap.size) (wk_160 a_t q_t_tape t_taped t_at t_end t_ended t_bad t_badPlace t_fault t_faultPlace q_t_refused q_t_heapWord q_t_kindWord q_t_cellWord q_t_setWord q_t_rootWord q_t_methodWord q_t_numWord q_t_refWord q_t_weakWord q_t_nilWord q_t_newWord q_t_slideWord q_t_repeatWord q_t_whenWord t_namePlace t_size t_size0 t_kindMany t_kindMany0 q_t_fields q_t_sorts q_t_kindName q_t_cellName q_t_cellFirst t_cellNames q_t_now q_t_laid q_t_view t_isTold t_statements t_cellMany q_t_firstOf q_t_cellOfWord q_t_live t_liveMany q_t_liveAt q_t_goesTo t_blockMany q_t_blockAt q_t_blockWords t_weakGone q_t_far q_t_near t_foundMany q_t_foundRow q_t_foundAs t_isRemembered t_shapeMany t_shapeMany0 q_t_shape q_t_shape0 t_rowMany q_t_rows q_t_fits t_fitMany q_t_held q_t_like q_t_kept0 t_undoable t_newest t_seeded q_t_registerWord t_opened t_failKind t_failPlace t_acts t_valueSort t_valueNumber t_frameMany q_t_framePlace q_t_frameBody q_t_frameLeft q_t_octet t_octets q_t_refused k_t_refused n_g_t_refused)) (va_A (wk_160 a_t q_t_tape t_taped t_at t_end t_ended t_bad t_badPlace t_fault t_faultPlace q_t_refused q_t_heapWord q_t_kindWord q_t_cellWord q_t_setWord q_t_rootWord q_t_methodWord q_t_numWord q_t_refWord q_t_weakWord q_t_nilWord q_t_newWord q_t_slideWord q_t_repeatWord q_t_whenWord t_namePlace t_size t_size0 t_kindMany t_kindMany0 q_t_fields q_t_sorts q_t_kindName q_t_cellName q_t_cellFirst t_cellNames q_t_now q_t_laid q_t_view t_isTold t_statements t_cellMany q_t_firstOf q_t_cellOfWord q_t_live t_liveMany q_t_liveAt q_t_goesTo t_blockMany q_t_blockAt q_t_blockWords t_weakGone q_t_far q_t_near t_foundMany q_t_foundRow q_t_foundAs t_isRemembered t_shapeMany t_shapeMany0 q_t_shape q_t_shape0 t_rowMany q_t_rows q_t_fits t_fitMany q_t_held q_t_like q_t_kept0 t_undoable t_newest t_seeded q_t_registerWord t_opened t_failKind t_failPlace t_acts t_valueSort t_valueNumber t_frameMany q_t_framePlace q_t_frameBody q_t_frameLeft q_t_octet t_octets q_t_refused k_t_refused g_t_refused) s.heap.size)) [.ref a_t, .int (iZ p1)].toArray s 0 0 (va_A (wk_160 a_t q_t_tape t_taped t_at t_end t_ended t_bad t_badPlace t_fault t_faultPlace q_t_refused q_t_heapWord q_t_kindWord q_t_cellWord q_t_setWord q_t_rootWord q_t_methodWord q_t_numWord q_t_refWord q_t_weakWord q_t_nilWord q_t_newWord q_t_slideWord q_t_repeatWord q_t_whenWord t_namePlace t_size t_size0 t_kindMany t_kindMany0 q_t_fields q_t_sorts q_t_kindName q_t_cellName q_t_cellFirst t_cellNames q_t_now q_t_laid q_t_view t_isTold t_statements t_cellMany q_t_firstOf q_t_cellOfWord q_t_live t_liveMany q_t_liveAt q_t_goesTo t_blockMany q_t_blockAt q_t_blockWords t_weakGone q_t_far q_t_near t_foundMany q_t_foundRow q_t_foundAs t_isRemembered t_shapeMany t_shapeMany0 q_t_shape q_t_shape0 t_rowMany q_t_rows q_t_fits t_fitMany q_t_held q_t_like q_t_kept0 t_undoable t_newest t_seeded q_t_registerWord t_opened t_failKind t_failPlace t_acts t_valueSort t_valueNumber t_frameMany q_t_framePlace q_t_frameBody q_t_frameLeft q_t_octet t_octets q_t_refused k_t_refused g_t_refused) s.heap.size) = Q
  have hA : ∀ q : Nat, s.heap.size ≤ q → va_A (wk_160 a_t q_t_tape t_taped t_at t_end t_ended t_bad t_badPlace t_fault t_faultPlace q_t_refused q_t_heapWord q_t_kindWord q_t_cellWord q_t_setWord q_t_rootWord q_t_methodWord q_t_numWord q_t_refWord q_t_weakWord q_t_nilWord q_t_newWord q_t_slideWord q_t_repeatWord q_t_whenWord t_namePlace t_size t_size0 t_kindMany t_kindMany0 q_t_fields q_t_sorts q_t_kindName q_t_cellName q_t_cellFirst t_cellNames q_t_now q_t_laid q_t_view t_isTold t_statements t_cellMany q_t_firstOf q_t_cellOfWord q_t_live t_liveMany q_t_liveAt q_t_goesTo t_blockMany q_t_blockAt q_t_blockWords t_weakGone q_t_far q_t_near t_foundMany q_t_foundRow q_t_foundAs t_isRemembered t_shapeMany t_shapeMany0 q_t_shape q_t_shape0 t_rowMany q_t_rows q_t_fits t_fitMany q_t_held q_t_like q_t_kept0 t_undoable t_newest t_seeded q_t_registerWord t_opened t_failKind t_failPlace t_acts t_valueSort t_valueNumber t_frameMany q_t_framePlace q_t_frameBody q_t_frameLeft q_t_octet t_octets q_t_refused k_t_refused g_t_refused) s.heap.size q := fun q h => Or.inr h
  generalize hAe : va_A (wk_160 a_t q_t_tape t_taped t_at t_end t_ended t_bad t_badPlace t_fault t_faultPlace q_t_refused q_t_heapWord q_t_kindWord q_t_cellWord q_t_setWord q_t_rootWord q_t_methodWord q_t_numWord q_t_refWord q_t_weakWord q_t_nilWord q_t_newWord q_t_slideWord q_t_repeatWord q_t_whenWord t_namePlace t_size t_size0 t_kindMany t_kindMany0 q_t_fields q_t_sorts q_t_kindName q_t_cellName q_t_cellFirst t_cellNames q_t_now q_t_laid q_t_view t_isTold t_statements t_cellMany q_t_firstOf q_t_cellOfWord q_t_live t_liveMany q_t_liveAt q_t_goesTo t_blockMany q_t_blockAt q_t_blockWords t_weakGone q_t_far q_t_near t_foundMany q_t_foundRow q_t_foundAs t_isRemembered t_shapeMany t_shapeMany0 q_t_shape q_t_shape0 t_rowMany q_t_rows q_t_fits t_fitMany q_t_held q_t_like q_t_kept0 t_undoable t_newest t_seeded q_t_registerWord t_opened t_failKind t_failPlace t_acts t_valueSort t_valueNumber t_frameMany q_t_framePlace q_t_frameBody q_t_frameLeft q_t_octet t_octets q_t_refused k_t_refused g_t_refused) s.heap.size = A at hD hA hQ
  have hS : va_S A s.heap s.heap [] := va_S.rf
  have hl := lv_entry ([.ref a_t, .int (iZ p1)]) (n := 2) (Nat.le_of_ble_eq_true rfl)
  rw [lg_entry_eq]
  generalize (lg_sl ([.ref a_t, .int (iZ p1)]) ++ List.replicate (2 - (lg_sl ([.ref a_t, .int (iZ p1)])).length) Slot.unset).toArray = ls at hl ⊢
  have hl : lv_has ls 2 [(0, .ref a_t), (1, .int (iZ p1))] := hl
  refine lv_aload_n hx hb dX12_isRefused_0 rfl (lv_at hl 0 rfl) ?_
  refine va_get (D := (dC, dI)) (ci := 12) (v := .ref q_t_refused) (C := RX12) (T := TX12) (N := 84) hx hb hts i_X12 hown hK hP 0 rfl rfl 9 (by decide) (hts _ q_879) (fun _ h9 => h9) rfl dX12_isRefused_1 ?_
  refine lv_iload_n hx hb dX12_isRefused_4 rfl (lv_at hl 1 rfl) ?_
  refine lv_dup2_11 hx hb dX12_isRefused_5 rfl rfl ?_
  refine zv_iald hx hb hK hP 1 0 rfl rfl (by omega) (by omega) (by omega) dX12_isRefused_6 (fun z64849 ez64849 => ?_)
  refine zv_norm (fun z64850 lz64850 uz64850 => ?_)
  refine lv_iconst (v := iZ 1) hx hb dX12_isRefused_7 (by decide) ?_
  refine zv_iadd hx hb (z64850 + 1) (by omega) dX12_isRefused_8 ?_
  refine zv_norm (fun z64851 lz64851 uz64851 => ?_)
  refine zv_iast hx hb hK hP hD hS 1 0 rfl rfl (by omega) (by omega) (by omega) dX12_isRefused_9 (fun g64852 H locs eg64852 hP hD hS => ?_)
  subst eg64852
  have hP : va_P (dC, dI) vwCl (wk_160 a_t q_t_tape t_taped t_at t_end t_ended t_bad t_badPlace t_fault t_faultPlace q_t_refused q_t_heapWord q_t_kindWord q_t_cellWord q_t_setWord q_t_rootWord q_t_methodWord q_t_numWord q_t_refWord q_t_weakWord q_t_nilWord q_t_newWord q_t_slideWord q_t_repeatWord q_t_whenWord t_namePlace t_size t_size0 t_kindMany t_kindMany0 q_t_fields q_t_sorts q_t_kindName q_t_cellName q_t_cellFirst t_cellNames q_t_now q_t_laid q_t_view t_isTold t_statements t_cellMany q_t_firstOf q_t_cellOfWord q_t_live t_liveMany q_t_liveAt q_t_goesTo t_blockMany q_t_blockAt q_t_blockWords t_weakGone q_t_far q_t_near t_foundMany q_t_foundRow q_t_foundAs t_isRemembered t_shapeMany t_shapeMany0 q_t_shape q_t_shape0 t_rowMany q_t_rows q_t_fits t_fitMany q_t_held q_t_like q_t_kept0 t_undoable t_newest t_seeded q_t_registerWord t_opened t_failKind t_failPlace t_acts t_valueSort t_valueNumber t_frameMany q_t_framePlace q_t_frameBody q_t_frameLeft q_t_octet t_octets q_t_refused k_t_refused (updI g_t_refused (p1).toNat z64851)) H := hP
  have hD : va_D A (wk_160 a_t q_t_tape t_taped t_at t_end t_ended t_bad t_badPlace t_fault t_faultPlace q_t_refused q_t_heapWord q_t_kindWord q_t_cellWord q_t_setWord q_t_rootWord q_t_methodWord q_t_numWord q_t_refWord q_t_weakWord q_t_nilWord q_t_newWord q_t_slideWord q_t_repeatWord q_t_whenWord t_namePlace t_size t_size0 t_kindMany t_kindMany0 q_t_fields q_t_sorts q_t_kindName q_t_cellName q_t_cellFirst t_cellNames q_t_now q_t_laid q_t_view t_isTold t_statements t_cellMany q_t_firstOf q_t_cellOfWord q_t_live t_liveMany q_t_liveAt q_t_goesTo t_blockMany q_t_blockAt q_t_blockWords t_weakGone q_t_far q_t_near t_foundMany q_t_foundRow q_t_foundAs t_isRemembered t_shapeMany t_shapeMany0 q_t_shape q_t_shape0 t_rowMany q_t_rows q_t_fits t_fitMany q_t_held q_t_like q_t_kept0 t_undoable t_newest t_seeded q_t_registerWord t_opened t_failKind t_failPlace t_acts t_valueSort t_valueNumber t_frameMany q_t_framePlace q_t_frameBody q_t_frameLeft q_t_octet t_octets q_t_refused k_t_refused (updI g_t_refused (p1).toNat z64851)) := hD
  refine lv_iconst (v := iZ 0) hx hb dX12_isRefused_10 (by decide) ?_
  subst hQ
  exact W.zret (v := iZ 0) hx hb hr rfl (fun t ht hW => ⟨⟨iZ 0, 0, rfl, ⟨rfl, by omega⟩, (updI g_t_refused (p1).toNat z64851), by rw [ht]; exact hP, va_K.moved hW.alike hK, hD⟩, hS.F ht⟩) hS.2.2 dX12_isRefused_11
