def wk_23 (a0 : Nat) (c0 : ClassId) (g0 : Nat → Int) : va_W := [(a0, .inl (c0, 507, .inl (aZ g0)))]
set_option maxHeartbeats 4000000 in
set_option maxRecDepth 100000 in
theorem z_X3_sumOf_507 (l : Launch) (dC : Nat → ClassId) (dI : Nat → Nat → Nat) (q1 : Nat) (p2 : Int) (k1 : ClassId) (g1 : Nat → Int) (sz : Nat) (hb_g1 : ∀ j : Nat, j < 507 → 0 ≤ g1 j ∧ g1 j ≤ 255) (b_p2 : 0 ≤ p2 ∧ p2 ≤ 507) : Met l yX3_sumOf (Cond.code yX3_sumOf cX3_sumOf 4 (some .int) :: wA) ({ frames := 0, cells := 0, slots := 0, locals := 0 }) (va_Pc [.ref q1, .int (iZ p2)] (fun U => U.heap.size = sz ∧ va_P (dC, dI) vwCl (wk_23 q1 k1 g1) U.heap ∧ va_K (dC, dI) vwCl [(k1, .int)] U ∧ va_D (fun _ => True) (wk_23 q1 k1 g1) ∧ nwAll U)) (va_Qi (fun (r : Int32) (zR : Int) => r = iZ zR ∧ (0 ≤ zR ∧ zR ≤ 250)) (fun zR t => va_P (dC, dI) vwCl (wk_23 q1 k1 g1) t.heap ∧ va_K (dC, dI) vwCl [(k1, .int)] t ∧ va_D (va_A (wk_23 q1 k1 g1) sz) (wk_23 q1 k1 g1)) (va_A (wk_23 q1 k1 g1) sz)) 0 0 (va_A (wk_23 q1 k1 g1) sz) := by
  refine Met.ofW (cc := cX3_sumOf) (maxL := 4) (ret := (some .int)) (by decide) rfl ?_
  intro p e s m args below meth c s₁ B hml hv
  obtain ⟨rfl, hsz, hP, hK, hD0, hN⟩ := hv
  have hx := B.exec
  have hb := B.bytes
  have hr := B.returns
  have hts : ∀ w ∈ wA, w.before [.ref q1, .int (iZ p2)].toArray s = true := fun w h => atoms_spec (ws := Cond.code yX3_sumOf cX3_sumOf 4 (some .int) :: wA) B.pre w (List.mem_cons_of_mem _ h)
  have hown : s.vm.findClass RX3 = some m.cls := findClass_of_methodNamed B.named
  have hlocks := B.notSynchronized
  subst hsz
  have hD := hD0.self (sz := s.heap.size)
  generalize hQ : MQ below (va_Qi (fun (r : Int32) (zR : Int) => r = iZ zR ∧ (0 ≤ zR ∧ zR ≤ 250)) (fun zR t => va_P (dC, dI) vwCl (wk_23 q1 k1 g1) t.heap ∧ va_K (dC, dI) vwCl [(k1, .int)] t ∧ va_D (va_A (wk_23 q1 k1 g1) s.heap.size) (wk_23 q1 k1 g1)) (va_A (wk_23 q1 k1 g1) s.heap.size)) [.ref q1, .int (iZ p2)].toArray s 0 0 (va_A (wk_23 q1 k1 g1) s.heap.size) = Q
  have hA : ∀ q : Nat, s.heap.size ≤ q → va_A (wk_23 q1 k1 g1) s.heap.size q := fun q h => Or.inr h
  generalize hAe : va_A (wk_23 q1 k1 g1) s.heap.size = A at hD hA hQ
  have hS : va_S A s.heap s.heap [] := va_S.rf
  have hl := lv_entry ([.ref q1, .int (iZ p2)]) (n := 4) (Nat.le_of_ble_eq_true rfl)
  rw [lg_entry_eq]
  generalize (lg_sl ([.ref q1, .int (iZ p2)]) ++ List.replicate (4 - (lg_sl ([.ref q1, .int (iZ p2)])).length) Slot.unset).toArray = ls at hl ⊢
  have hl : lv_has ls 4 [(0, .ref q1), (1, .int (iZ p2))] := hl
  refine lv_sipush (v := iZ 173) hx hb dX3_sumOf_0 (by decide) ?_
  refine lv_istore_n (lv' := [(2, .int (iZ 173)), (0, .ref q1), (1, .int (iZ p2))]) hx hb dX3_sumOf_3 rfl hl (by decide) rfl (fun ls hl => ?_)
  refine lv_iconst (v := iZ 0) hx hb dX3_sumOf_4 (by decide) ?_
  refine lv_istore_n (lv' := [(3, .int (iZ 0)), (2, .int (iZ 173)), (0, .ref q1), (1, .int (iZ p2))]) hx hb dX3_sumOf_5 rfl hl (by decide) rfl (fun ls hl => ?_)
  have lp_6 : ∀ (N6 : Nat) (H : Heap) (locs : List Loc) (ls : Array Slot) (i13571 : Int) (i13572 : Int), 0 ≤ i13571 → 0 ≤ -i13571 + 250 → 0 ≤ i13572 → 0 ≤ -i13572 + p2 → -i13572 + p2 ≤ (N6 : Int) → va_P (dC, dI) vwCl (wk_23 q1 k1 g1) H → va_D A (wk_23 q1 k1 g1) → va_S A s.heap H locs → lv_has ls 4 [(0, .ref q1), (1, .int (iZ p2)), (2, .int (iZ i13571)), (3, .int (iZ i13572))] → W p l e (headSpec (Cond.code yX3_sumOf cX3_sumOf 4 (some .int) :: wA) ({ frames := 0, cells := 0, slots := 0, locals := 0 })).room s m [.ref q1, .int (iZ p2)].toArray below meth c H locs 0 0 Q (F0 m 6 ls []) := by
    intro N6
    induction N6 using Nat.strongRecOn with
    | ind N6 ih_6 =>
      intro H locs ls i13571 i13572 k6_0 k6_1 k6_2 k6_3 hm6 hP hD hS hl
      refine lv_iload_n hx hb dX3_sumOf_6 rfl (lv_at hl 3 rfl) ?_
      refine lv_iload_n hx hb dX3_sumOf_7 rfl (lv_at hl 1 rfl) ?_
      refine zv_icmp_ge (tgt := 29) hx hb dX3_sumOf_8 (by decide) (by omega) (by omega) (fun c13600 => ?_) (fun c13600 => ?_)
      · refine lv_iload_n hx hb dX3_sumOf_29 rfl (lv_at hl 2 rfl) ?_
        subst hQ
        exact W.iret (v := iZ i13571) hx hb hr (fun t ht hW => ⟨⟨iZ i13571, i13571, rfl, ⟨rfl, by omega⟩, by rw [ht]; exact hP, va_K.moved hW.alike hK, hD⟩, hS.F ht⟩) hS.2.2 dX3_sumOf_30
      · refine lv_iconst (v := iZ 3) hx hb dX3_sumOf_11 (by decide) ?_
        refine lv_iload_n hx hb dX3_sumOf_12 rfl (lv_at hl 2 rfl) ?_
        refine zv_imul hx hb (3 * i13571) (by omega) dX3_sumOf_13 ?_
        refine lv_aload_n hx hb dX3_sumOf_14 rfl (lv_at hl 0 rfl) ?_
        refine lv_iload_n hx hb dX3_sumOf_15 rfl (lv_at hl 3 rfl) ?_
        refine zv_iald hx hb hK hP 0 0 rfl rfl (by omega) (by omega) (by omega) dX3_sumOf_16 (fun z13601 ez13601 => ?_)
        have bz13601 : 0 ≤ z13601 ∧ z13601 ≤ 255 := by rw [ez13601]; exact hb_g1 _ (by omega)
        refine zv_iadd hx hb (3 * i13571 + z13601) (by omega) dX3_sumOf_17 ?_
        refine lv_sipush (v := iZ 251) hx hb dX3_sumOf_18 (by decide) ?_
        refine zv_irem hx hb (by omega) (by omega) dX3_sumOf_21 (fun z13602 ez13602 => ?_)
        refine lv_istore_n (lv' := [(2, .int (iZ z13602)), (0, .ref q1), (1, .int (iZ p2)), (3, .int (iZ i13572))]) hx hb dX3_sumOf_22 rfl hl (by decide) rfl (fun ls hl => ?_)
        refine lv_iinc (v := iZ (i13572 + 1)) (lv' := [(3, .int (iZ (i13572 + 1))), (2, .int (iZ z13602)), (0, .ref q1), (1, .int (iZ p2))]) hx hb dX3_sumOf_23 hl (k := 3) rfl (iZ_inc (by omega)) (by decide) rfl (fun ls hl => ?_)
        refine lv_goto (tgt := 6) hx hb dX3_sumOf_26 (by decide) ?_
        exact ih_6 (N6 - 1) (by omega) _ _ _ z13602 (i13572 + 1) (by omega) (by omega) (by omega) (by omega) (by omega) hP hD hS (lv_sub hl [2, 3, 1, 0] rfl)
  exact lp_6 ((p2 : Int)).toNat _ _ _ 173 0 (by omega) (by omega) (by omega) (by omega) (by omega) hP hD hS (lv_sub hl [2, 3, 1, 0] rfl)
def wk_24 (a0 : Nat) (c0 : ClassId) (g0 : Nat → Int) : va_W := [(a0, .inl (c0, 1600, .inl (aZ g0)))]
set_option maxHeartbeats 4000000 in
set_option maxRecDepth 100000 in
theorem z_X3_sumOf_1600 (l : Launch) (dC : Nat → ClassId) (dI : Nat → Nat → Nat) (q1 : Nat) (p2 : Int) (k1 : ClassId) (g1 : Nat → Int) (sz : Nat) (hb_g1 : ∀ j : Nat, j < 1600 → 0 ≤ g1 j ∧ g1 j ≤ 255) (b_p2 : 0 ≤ p2 ∧ p2 ≤ 1600) : Met l yX3_sumOf (Cond.code yX3_sumOf cX3_sumOf 4 (some .int) :: wA) ({ frames := 0, cells := 0, slots := 0, locals := 0 }) (va_Pc [.ref q1, .int (iZ p2)] (fun U => U.heap.size = sz ∧ va_P (dC, dI) vwCl (wk_24 q1 k1 g1) U.heap ∧ va_K (dC, dI) vwCl [(k1, .int)] U ∧ va_D (fun _ => True) (wk_24 q1 k1 g1) ∧ nwAll U)) (va_Qi (fun (r : Int32) (zR : Int) => r = iZ zR ∧ (0 ≤ zR ∧ zR ≤ 250)) (fun zR t => va_P (dC, dI) vwCl (wk_24 q1 k1 g1) t.heap ∧ va_K (dC, dI) vwCl [(k1, .int)] t ∧ va_D (va_A (wk_24 q1 k1 g1) sz) (wk_24 q1 k1 g1)) (va_A (wk_24 q1 k1 g1) sz)) 0 0 (va_A (wk_24 q1 k1 g1) sz) := by
  refine Met.ofW (cc := cX3_sumOf) (maxL := 4) (ret := (some .int)) (by decide) rfl ?_
  intro p e s m args below meth c s₁ B hml hv
  obtain ⟨rfl, hsz, hP, hK, hD0, hN⟩ := hv
  have hx := B.exec
  have hb := B.bytes
  have hr := B.returns
  have hts : ∀ w ∈ wA, w.before [.ref q1, .int (iZ p2)].toArray s = true := fun w h => atoms_spec (ws := Cond.code yX3_sumOf cX3_sumOf 4 (some .int) :: wA) B.pre w (List.mem_cons_of_mem _ h)
  have hown : s.vm.findClass RX3 = some m.cls := findClass_of_methodNamed B.named
  have hlocks := B.notSynchronized
  subst hsz
  have hD := hD0.self (sz := s.heap.size)
  generalize hQ : MQ below (va_Qi (fun (r : Int32) (zR : Int) => r = iZ zR ∧ (0 ≤ zR ∧ zR ≤ 250)) (fun zR t => va_P (dC, dI) vwCl (wk_24 q1 k1 g1) t.heap ∧ va_K (dC, dI) vwCl [(k1, .int)] t ∧ va_D (va_A (wk_24 q1 k1 g1) s.heap.size) (wk_24 q1 k1 g1)) (va_A (wk_24 q1 k1 g1) s.heap.size)) [.ref q1, .int (iZ p2)].toArray s 0 0 (va_A (wk_24 q1 k1 g1) s.heap.size) = Q
  have hA : ∀ q : Nat, s.heap.size ≤ q → va_A (wk_24 q1 k1 g1) s.heap.size q := fun q h => Or.inr h
  generalize hAe : va_A (wk_24 q1 k1 g1) s.heap.size = A at hD hA hQ
  have hS : va_S A s.heap s.heap [] := va_S.rf
  have hl := lv_entry ([.ref q1, .int (iZ p2)]) (n := 4) (Nat.le_of_ble_eq_true rfl)
  rw [lg_entry_eq]
  generalize (lg_sl ([.ref q1, .int (iZ p2)]) ++ List.replicate (4 - (lg_sl ([.ref q1, .int (iZ p2)])).length) Slot.unset).toArray = ls at hl ⊢
  have hl : lv_has ls 4 [(0, .ref q1), (1, .int (iZ p2))] := hl
  refine lv_sipush (v := iZ 173) hx hb dX3_sumOf_0 (by decide) ?_
  refine lv_istore_n (lv' := [(2, .int (iZ 173)), (0, .ref q1), (1, .int (iZ p2))]) hx hb dX3_sumOf_3 rfl hl (by decide) rfl (fun ls hl => ?_)
  refine lv_iconst (v := iZ 0) hx hb dX3_sumOf_4 (by decide) ?_
  refine lv_istore_n (lv' := [(3, .int (iZ 0)), (2, .int (iZ 173)), (0, .ref q1), (1, .int (iZ p2))]) hx hb dX3_sumOf_5 rfl hl (by decide) rfl (fun ls hl => ?_)
  have lp_6 : ∀ (N6 : Nat) (H : Heap) (locs : List Loc) (ls : Array Slot) (i13641 : Int) (i13642 : Int), 0 ≤ i13641 → 0 ≤ -i13641 + 250 → 0 ≤ i13642 → 0 ≤ -i13642 + p2 → -i13642 + p2 ≤ (N6 : Int) → va_P (dC, dI) vwCl (wk_24 q1 k1 g1) H → va_D A (wk_24 q1 k1 g1) → va_S A s.heap H locs → lv_has ls 4 [(0, .ref q1), (1, .int (iZ p2)), (2, .int (iZ i13641)), (3, .int (iZ i13642))] → W p l e (headSpec (Cond.code yX3_sumOf cX3_sumOf 4 (some .int) :: wA) ({ frames := 0, cells := 0, slots := 0, locals := 0 })).room s m [.ref q1, .int (iZ p2)].toArray below meth c H locs 0 0 Q (F0 m 6 ls []) := by
    intro N6
    induction N6 using Nat.strongRecOn with
    | ind N6 ih_6 =>
      intro H locs ls i13641 i13642 k6_0 k6_1 k6_2 k6_3 hm6 hP hD hS hl
      refine lv_iload_n hx hb dX3_sumOf_6 rfl (lv_at hl 3 rfl) ?_
      refine lv_iload_n hx hb dX3_sumOf_7 rfl (lv_at hl 1 rfl) ?_
      refine zv_icmp_ge (tgt := 29) hx hb dX3_sumOf_8 (by decide) (by omega) (by omega) (fun c13670 => ?_) (fun c13670 => ?_)
      · refine lv_iload_n hx hb dX3_sumOf_29 rfl (lv_at hl 2 rfl) ?_
        subst hQ
        exact W.iret (v := iZ i13641) hx hb hr (fun t ht hW => ⟨⟨iZ i13641, i13641, rfl, ⟨rfl, by omega⟩, by rw [ht]; exact hP, va_K.moved hW.alike hK, hD⟩, hS.F ht⟩) hS.2.2 dX3_sumOf_30
      · refine lv_iconst (v := iZ 3) hx hb dX3_sumOf_11 (by decide) ?_
        refine lv_iload_n hx hb dX3_sumOf_12 rfl (lv_at hl 2 rfl) ?_
        refine zv_imul hx hb (3 * i13641) (by omega) dX3_sumOf_13 ?_
        refine lv_aload_n hx hb dX3_sumOf_14 rfl (lv_at hl 0 rfl) ?_
        refine lv_iload_n hx hb dX3_sumOf_15 rfl (lv_at hl 3 rfl) ?_
        refine zv_iald hx hb hK hP 0 0 rfl rfl (by omega) (by omega) (by omega) dX3_sumOf_16 (fun z13671 ez13671 => ?_)
        have bz13671 : 0 ≤ z13671 ∧ z13671 ≤ 255 := by rw [ez13671]; exact hb_g1 _ (by omega)
        refine zv_iadd hx hb (3 * i13641 + z13671) (by omega) dX3_sumOf_17 ?_
        refine lv_sipush (v := iZ 251) hx hb dX3_sumOf_18 (by decide) ?_
        refine zv_irem hx hb (by omega) (by omega) dX3_sumOf_21 (fun z13672 ez13672 => ?_)
        refine lv_istore_n (lv' := [(2, .int (iZ z13672)), (0, .ref q1), (1, .int (iZ p2)), (3, .int (iZ i13642))]) hx hb dX3_sumOf_22 rfl hl (by decide) rfl (fun ls hl => ?_)
        refine lv_iinc (v := iZ (i13642 + 1)) (lv' := [(3, .int (iZ (i13642 + 1))), (2, .int (iZ z13672)), (0, .ref q1), (1, .int (iZ p2))]) hx hb dX3_sumOf_23 hl (k := 3) rfl (iZ_inc (by omega)) (by decide) rfl (fun ls hl => ?_)
        refine lv_goto (tgt := 6) hx hb dX3_sumOf_26 (by decide) ?_
        exact ih_6 (N6 - 1) (by omega) _ _ _ z13672 (i13642 + 1) (by omega) (by omega) (by omega) (by omega) (by omega) hP hD hS (lv_sub hl [2, 3, 1, 0] rfl)
  exact lp_6 ((p2 : Int)).toNat _ _ _ 173 0 (by omega) (by omega) (by omega) (by omega) (by omega) hP hD hS (lv_sub hl [2, 3, 1, 0] rfl)
set_option maxHeartbeats 4000000 in
set_option maxRecDepth 100000 in
theorem z_X3_isNumber (l : Launch) (dC : Nat → ClassId) (dI : Nat → Nat → Nat) (p1 : Int) (sz : Nat) (b_p1 : -1 ≤ p1 ∧ p1 ≤ 10000) : Met l yX3_isNumber (Cond.code yX3_isNumber cX3_isNumber 1 (some .boolean) :: wA) ({ frames := 0, cells := 0, slots := 0, locals := 0 }) (va_Pc [.int (iZ p1)] (fun U => U.heap.size = sz ∧ va_P (dC, dI) vwCl [] U.heap ∧ va_K (dC, dI) vwCl [] U ∧ va_D (fun _ => True) [] ∧ nwAll U)) (va_Qi (fun (r : Int32) (zR : Int) => r = iZ zR ∧ (0 ≤ zR ∧ zR ≤ 1) ∧ (zR = 0 ∨ (1 ≤ p1 ∧ p1 ≤ 1999))) (fun zR t => va_P (dC, dI) vwCl [] t.heap ∧ va_K (dC, dI) vwCl [] t ∧ va_D (va_A [] sz) []) (va_A [] sz)) 0 0 (va_A [] sz) := by
  refine Met.ofW (cc := cX3_isNumber) (maxL := 1) (ret := (some .boolean)) (by decide) rfl ?_
  intro p e s m args below meth c s₁ B hml hv
  obtain ⟨rfl, hsz, hP, hK, hD0, hN⟩ := hv
  have hx := B.exec
  have hb := B.bytes
  have hr := B.returns
  have hts : ∀ w ∈ wA, w.before [.int (iZ p1)].toArray s = true := fun w h => atoms_spec (ws := Cond.code yX3_isNumber cX3_isNumber 1 (some .boolean) :: wA) B.pre w (List.mem_cons_of_mem _ h)
  have hown : s.vm.findClass RX3 = some m.cls := findClass_of_methodNamed B.named
  have hlocks := B.notSynchronized
  subst hsz
  have hD := hD0.self (sz := s.heap.size)
  generalize hQ : MQ below (va_Qi (fun (r : Int32) (zR : Int) => r = iZ zR ∧ (0 ≤ zR ∧ zR ≤ 1) ∧ (zR = 0 ∨ (1 ≤ p1 ∧ p1 ≤ 1999))) (fun zR t => va_P (dC, dI) vwCl [] t.heap ∧ va_K (dC, dI) vwCl [] t ∧ va_D (va_A [] s.heap.size) []) (va_A [] s.heap.size)) [.int (iZ p1)].toArray s 0 0 (va_A [] s.heap.size) = Q
  have hA : ∀ q : Nat, s.heap.size ≤ q → va_A [] s.heap.size q := fun q h => Or.inr h
  generalize hAe : va_A [] s.heap.size = A at hD hA hQ
  have hS : va_S A s.heap s.heap [] := va_S.rf
  have hl := lv_entry ([.int (iZ p1)]) (n := 1) (Nat.le_of_ble_eq_true rfl)
  rw [lg_entry_eq]
  generalize (lg_sl ([.int (iZ p1)]) ++ List.replicate (1 - (lg_sl ([.int (iZ p1)])).length) Slot.unset).toArray = ls at hl ⊢
  have hl : lv_has ls 1 [(0, .int (iZ p1))] := hl
  refine lv_iload_n hx hb dX3_isNumber_0 rfl (lv_at hl 0 rfl) ?_
  refine lv_iconst (v := iZ 1) hx hb dX3_isNumber_1 (by decide) ?_
  refine zv_icmp_lt (tgt := 16) hx hb dX3_isNumber_2 (by decide) (by omega) (by omega) (fun c13675 => ?_) (fun c13675 => ?_)
  · refine lv_iconst (v := iZ 0) hx hb dX3_isNumber_16 (by decide) ?_
    subst hQ
    exact W.zret (v := iZ 0) hx hb hr rfl (fun t ht hW => ⟨⟨iZ 0, 0, rfl, ⟨rfl, by omega, by omega⟩, by rw [ht]; exact hP, va_K.moved hW.alike hK, hD⟩, hS.F ht⟩) hS.2.2 dX3_isNumber_17
  · refine lv_iload_n hx hb dX3_isNumber_5 rfl (lv_at hl 0 rfl) ?_
    refine lv_sipush (v := iZ 1999) hx hb dX3_isNumber_6 (by decide) ?_
    refine zv_icmp_gt (tgt := 16) hx hb dX3_isNumber_9 (by decide) (by omega) (by omega) (fun c13676 => ?_) (fun c13676 => ?_)
    · refine lv_iconst (v := iZ 0) hx hb dX3_isNumber_16 (by decide) ?_
      subst hQ
      exact W.zret (v := iZ 0) hx hb hr rfl (fun t ht hW => ⟨⟨iZ 0, 0, rfl, ⟨rfl, by omega, by omega⟩, by rw [ht]; exact hP, va_K.moved hW.alike hK, hD⟩, hS.F ht⟩) hS.2.2 dX3_isNumber_17
    · refine lv_iconst (v := iZ 1) hx hb dX3_isNumber_12 (by decide) ?_
      refine lv_goto (tgt := 17) hx hb dX3_isNumber_13 (by decide) ?_
      subst hQ
      exact W.zret (v := iZ 1) hx hb hr rfl (fun t ht hW => ⟨⟨iZ 1, 1, rfl, ⟨rfl, by omega, by omega⟩, by rw [ht]; exact hP, va_K.moved hW.alike hK, hD⟩, hS.F ht⟩) hS.2.2 dX3_isNumber_17
set_option maxHeartbeats 4000000 in
set_option maxRecDepth 100000 in
theorem z_X3_isPointer (l : Launch) (dC : Nat → ClassId) (dI : Nat → Nat → Nat) (p1 : Int) (a_s2 : Nat) (s2_words : Int) (s2_limit : Int) (s2_method : Int) (q_s2_held : Nat) (s2_going : Int) (s2_done : Int) (q_s2_live : Nat) (s2_liveCount : Int) (s2_blocks : Int) (s2_cells : Int) (s2_clearedWeak : Int) (s2_ended : Int) (s2_keptCount : Int) (q_s2_kept : Nat) (k_s2_held : ClassId) (g_s2_held : Nat → Int) (k_s2_live : ClassId) (g_s2_live : Nat → Int) (k_s2_kept : ClassId) (g_s2_kept : Nat → Int) (sz : Nat) (b_p1 : -1 ≤ p1 ∧ p1 ≤ 10000) (b_s2_words : 0 ≤ s2_words ∧ s2_words ≤ 160) (b_s2_limit : 0 ≤ s2_limit ∧ s2_limit ≤ 160) (b_s2_method : 0 ≤ s2_method ∧ s2_method ≤ 1) (hb_g_s2_held : ∀ j : Nat, j < 168 → (0 ≤ g_s2_held j ∧ g_s2_held j ≤ 1999) ∨ (3047 ≤ g_s2_held j ∧ g_s2_held j ≤ 3207) ∨ (5096 ≤ g_s2_held j ∧ g_s2_held j ≤ 5101) ∨ (7136 ≤ g_s2_held j ∧ g_s2_held j ≤ 7303)) (b_s2_going : 0 ≤ s2_going ∧ s2_going ≤ 1) (b_s2_done : 0 ≤ s2_done ∧ s2_done ≤ 400) (hb_g_s2_live : ∀ j : Nat, j < 160 → 0 ≤ g_s2_live j ∧ g_s2_live j ≤ 159) (b_s2_liveCount : 0 ≤ s2_liveCount ∧ s2_liveCount ≤ 160) (b_s2_blocks : 0 ≤ s2_blocks ∧ s2_blocks ≤ 160) (b_s2_cells : -2147483648 ≤ s2_cells ∧ s2_cells ≤ 2147483647) (b_s2_clearedWeak : -2147483648 ≤ s2_clearedWeak ∧ s2_clearedWeak ≤ 2147483647) (b_s2_ended : -2147483648 ≤ s2_ended ∧ s2_ended ≤ 2147483647) (b_s2_keptCount : 0 ≤ s2_keptCount ∧ s2_keptCount ≤ 20) : Met l yX3_isPointer (Cond.code yX3_isPointer cX3_isPointer 2 (some .boolean) :: wA) ({ frames := 0, cells := 0, slots := 0, locals := 0 }) (va_Pc [.int (iZ p1), .ref a_s2] (fun U => U.heap.size = sz ∧ va_P (dC, dI) vwCl (wk_1 a_s2 s2_words s2_limit s2_method q_s2_held s2_going s2_done q_s2_live s2_liveCount s2_blocks s2_cells s2_clearedWeak s2_ended s2_keptCount q_s2_kept q_s2_held k_s2_held g_s2_held q_s2_live k_s2_live g_s2_live q_s2_kept k_s2_kept g_s2_kept) U.heap ∧ va_K (dC, dI) vwCl [(k_s2_held, .int), (k_s2_live, .int), (k_s2_kept, .int)] U ∧ va_D (fun _ => True) (wk_1 a_s2 s2_words s2_limit s2_method q_s2_held s2_going s2_done q_s2_live s2_liveCount s2_blocks s2_cells s2_clearedWeak s2_ended s2_keptCount q_s2_kept q_s2_held k_s2_held g_s2_held q_s2_live k_s2_live g_s2_live q_s2_kept k_s2_kept g_s2_kept) ∧ nwAll U)) (va_Qi (fun (r : Int32) (zR : Int) => r = iZ zR ∧ (0 ≤ zR ∧ zR ≤ 1) ∧ (zR = 0 ∨ p1 = 3047 ∨ (3048 + s2_limit ≤ p1 ∧ p1 < 3048 + s2_words))) (fun zR t => va_P (dC, dI) vwCl (wk_1 a_s2 s2_words s2_limit s2_method q_s2_held s2_going s2_done q_s2_live s2_liveCount s2_blocks s2_cells s2_clearedWeak s2_ended s2_keptCount q_s2_kept q_s2_held k_s2_held g_s2_held q_s2_live k_s2_live g_s2_live q_s2_kept k_s2_kept g_s2_kept) t.heap ∧ va_K (dC, dI) vwCl [(k_s2_held, .int), (k_s2_live, .int), (k_s2_kept, .int)] t ∧ va_D (va_A (wk_1 a_s2 s2_words s2_limit s2_method q_s2_held s2_going s2_done q_s2_live s2_liveCount s2_blocks s2_cells s2_clearedWeak s2_ended s2_keptCount q_s2_kept q_s2_held k_s2_held g_s2_held q_s2_live k_s2_live g_s2_live q_s2_kept k_s2_kept g_s2_kept) sz) (wk_1 a_s2 s2_words s2_limit s2_method q_s2_held s2_going s2_done q_s2_live s2_liveCount s2_blocks s2_cells s2_clearedWeak s2_ended s2_keptCount q_s2_kept q_s2_held k_s2_held g_s2_held q_s2_live k_s2_live g_s2_live q_s2_kept k_s2_kept g_s2_kept)) (va_A (wk_1 a_s2 s2_words s2_limit s2_method q_s2_held s2_going s2_done q_s2_live s2_liveCount s2_blocks s2_cells s2_clearedWeak s2_ended s2_keptCount q_s2_kept q_s2_held k_s2_held g_s2_held q_s2_live k_s2_live g_s2_live q_s2_kept k_s2_kept g_s2_kept) sz)) 0 0 (va_A (wk_1 a_s2 s2_words s2_limit s2_method q_s2_held s2_going s2_done q_s2_live s2_liveCount s2_blocks s2_cells s2_clearedWeak s2_ended s2_keptCount q_s2_kept q_s2_held k_s2_held g_s2_held q_s2_live k_s2_live g_s2_live q_s2_kept k_s2_kept g_s2_kept) sz) := by
  refine Met.ofW (cc := cX3_isPointer) (maxL := 2) (ret := (some .boolean)) (by decide) rfl ?_
  intro p e s m args below meth c s₁ B hml hv
  obtain ⟨rfl, hsz, hP, hK, hD0, hN⟩ := hv
  have hx := B.exec
  have hb := B.bytes
  have hr := B.returns
  have hts : ∀ w ∈ wA, w.before [.int (iZ p1), .ref a_s2].toArray s = true := fun w h => atoms_spec (ws := Cond.code yX3_isPointer cX3_isPointer 2 (some .boolean) :: wA) B.pre w (List.mem_cons_of_mem _ h)
  have hown : s.vm.findClass RX3 = some m.cls := findClass_of_methodNamed B.named
  have hlocks := B.notSynchronized
  subst hsz
  have hD := hD0.self (sz := s.heap.size)
  generalize hQ : MQ below (va_Qi (fun (r : Int32) (zR : Int) => r = iZ zR ∧ (0 ≤ zR ∧ zR ≤ 1) ∧ (zR = 0 ∨ p1 = 3047 ∨ (3048 + s2_limit ≤ p1 ∧ p1 < 3048 + s2_words))) (fun zR t => va_P (dC, dI) vwCl (wk_1 a_s2 s2_words s2_limit s2_method q_s2_held s2_going s2_done q_s2_live s2_liveCount s2_blocks s2_cells s2_clearedWeak s2_ended s2_keptCount q_s2_kept q_s2_held k_s2_held g_s2_held q_s2_live k_s2_live g_s2_live q_s2_kept k_s2_kept g_s2_kept) t.heap ∧ va_K (dC, dI) vwCl [(k_s2_held, .int), (k_s2_live, .int), (k_s2_kept, .int)] t ∧ va_D (va_A (wk_1 a_s2 s2_words s2_limit s2_method q_s2_held s2_going s2_done q_s2_live s2_liveCount s2_blocks s2_cells s2_clearedWeak s2_ended s2_keptCount q_s2_kept q_s2_held k_s2_held g_s2_held q_s2_live k_s2_live g_s2_live q_s2_kept k_s2_kept g_s2_kept) s.heap.size) (wk_1 a_s2 s2_words s2_limit s2_method q_s2_held s2_going s2_done q_s2_live s2_liveCount s2_blocks s2_cells s2_clearedWeak s2_ended s2_keptCount q_s2_kept q_s2_held k_s2_held g_s2_held q_s2_live k_s2_live g_s2_live q_s2_kept k_s2_kept g_s2_kept)) (va_A (wk_1 a_s2 s2_words s2_limit s2_method q_s2_held s2_going s2_done q_s2_live s2_liveCount s2_blocks s2_cells s2_clearedWeak s2_ended s2_keptCount q_s2_kept q_s2_held k_s2_held g_s2_held q_s2_live k_s2_live g_s2_live q_s2_kept k_s2_kept g_s2_kept) s.heap.size)) [.int (iZ p1), .ref a_s2].toArray s 0 0 (va_A (wk_1 a_s2 s2_words s2_limit s2_method q_s2_held s2_going s2_done q_s2_live s2_liveCount s2_blocks s2_cells s2_clearedWeak s2_ended s2_keptCount q_s2_kept q_s2_held k_s2_held g_s2_held q_s2_live k_s2_live g_s2_live q_s2_kept k_s2_kept g_s2_kept) s.heap.size) = Q
  have hA : ∀ q : Nat, s.heap.size ≤ q → va_A (wk_1 a_s2 s2_words s2_limit s2_method q_s2_held s2_going s2_done q_s2_live s2_liveCount s2_blocks s2_cells s2_clearedWeak s2_ended s2_keptCount q_s2_kept q_s2_held k_s2_held g_s2_held q_s2_live k_s2_live g_s2_live q_s2_kept k_s2_kept g_s2_kept) s.heap.size q := fun q h => Or.inr h
  generalize hAe : va_A (wk_1 a_s2 s2_words s2_limit s2_method q_s2_held s2_going s2_done q_s2_live s2_liveCount s2_blocks s2_cells s2_clearedWeak s2_ended s2_keptCount q_s2_kept q_s2_held k_s2_held g_s2_held q_s2_live k_s2_live g_s2_live q_s2_kept k_s2_kept g_s2_kept) s.heap.size = A at hD hA hQ
  have hS : va_S A s.heap s.heap [] := va_S.rf
  have hl := lv_entry ([.int (iZ p1), .ref a_s2]) (n := 2) (Nat.le_of_ble_eq_true rfl)
  rw [lg_entry_eq]
  generalize (lg_sl ([.int (iZ p1), .ref a_s2]) ++ List.replicate (2 - (lg_sl ([.int (iZ p1), .ref a_s2])).length) Slot.unset).toArray = ls at hl ⊢
  have hl : lv_has ls 2 [(0, .int (iZ p1)), (1, .ref a_s2)] := hl
  refine lv_iload_n hx hb dX3_isPointer_0 rfl (lv_at hl 0 rfl) ?_
  refine lv_sipush (v := iZ 3047) hx hb dX3_isPointer_1 (by decide) ?_
  refine zv_icmp_eq (tgt := 31) hx hb dX3_isPointer_4 (by decide) (by omega) (by omega) (fun c13680 => ?_) (fun c13680 => ?_)
  · refine lv_iconst (v := iZ 1) hx hb dX3_isPointer_31 (by decide) ?_
    refine lv_goto (tgt := 36) hx hb dX3_isPointer_32 (by decide) ?_
    subst hQ
    exact W.zret (v := iZ 1) hx hb hr rfl (fun t ht hW => ⟨⟨iZ 1, 1, rfl, ⟨rfl, by omega, Or.inr (Or.inl (by omega))⟩, by rw [ht]; exact hP, va_K.moved hW.alike hK, hD⟩, hS.F ht⟩) hS.2.2 dX3_isPointer_36
  · refine lv_iload_n hx hb dX3_isPointer_7 rfl (lv_at hl 0 rfl) ?_
    refine lv_sipush (v := iZ 3048) hx hb dX3_isPointer_8 (by decide) ?_
    refine lv_aload_n hx hb dX3_isPointer_11 rfl (lv_at hl 1 rfl) ?_
    refine va_get (D := (dC, dI)) (ci := 8) (v := .int (iZ s2_limit)) (C := RX8) (T := TX8) (N := 14) hx hb hts i_X8 hown hK hP 0 rfl rfl 1 (by decide) (hts _ q_1245) (fun _ h9 => h9) rfl dX3_isPointer_12 ?_
    refine zv_iadd hx hb (s2_limit + 3048) (by omega) dX3_isPointer_15 ?_
    refine zv_icmp_lt (tgt := 35) hx hb dX3_isPointer_16 (by decide) (by omega) (by omega) (fun c13681 => ?_) (fun c13681 => ?_)
    · refine lv_iconst (v := iZ 0) hx hb dX3_isPointer_35 (by decide) ?_
      subst hQ
      exact W.zret (v := iZ 0) hx hb hr rfl (fun t ht hW => ⟨⟨iZ 0, 0, rfl, ⟨rfl, by omega, Or.inl (by omega)⟩, by rw [ht]; exact hP, va_K.moved hW.alike hK, hD⟩, hS.F ht⟩) hS.2.2 dX3_isPointer_36
    · refine lv_iload_n hx hb dX3_isPointer_19 rfl (lv_at hl 0 rfl) ?_
      refine lv_sipush (v := iZ 3048) hx hb dX3_isPointer_20 (by decide) ?_
      refine lv_aload_n hx hb dX3_isPointer_23 rfl (lv_at hl 1 rfl) ?_
      refine va_get (D := (dC, dI)) (ci := 8) (v := .int (iZ s2_words)) (C := RX8) (T := TX8) (N := 14) hx hb hts i_X8 hown hK hP 0 rfl rfl 0 (by decide) (hts _ q_1246) (fun _ h9 => h9) rfl dX3_isPointer_24 ?_
      refine zv_iadd hx hb (s2_words + 3048) (by omega) dX3_isPointer_27 ?_
      refine zv_icmp_ge (tgt := 35) hx hb dX3_isPointer_28 (by decide) (by omega) (by omega) (fun c13682 => ?_) (fun c13682 => ?_)
      · refine lv_iconst (v := iZ 0) hx hb dX3_isPointer_35 (by decide) ?_
        subst hQ
        exact W.zret (v := iZ 0) hx hb hr rfl (fun t ht hW => ⟨⟨iZ 0, 0, rfl, ⟨rfl, by omega, Or.inl (by omega)⟩, by rw [ht]; exact hP, va_K.moved hW.alike hK, hD⟩, hS.F ht⟩) hS.2.2 dX3_isPointer_36
      · refine lv_iconst (v := iZ 1) hx hb dX3_isPointer_31 (by decide) ?_
        refine lv_goto (tgt := 36) hx hb dX3_isPointer_32 (by decide) ?_
        subst hQ
        exact W.zret (v := iZ 1) hx hb hr rfl (fun t ht hW => ⟨⟨iZ 1, 1, rfl, ⟨rfl, by omega, Or.inr (Or.inr (by omega))⟩, by rw [ht]; exact hP, va_K.moved hW.alike hK, hD⟩, hS.F ht⟩) hS.2.2 dX3_isPointer_36
set_option maxHeartbeats 4000000 in
set_option maxRecDepth 100000 in
theorem z_X11_sortOf (l : Launch) (dC : Nat → ClassId) (dI : Nat → Nat → Nat) (p1 : Int) (sz : Nat) (b_p1 : 0 ≤ p1 ∧ p1 ≤ 7399) : Met l yX11_sortOf (Cond.code yX11_sortOf cX11_sortOf 1 (some .int) :: wA) ({ frames := 0, cells := 0, slots := 0, locals := 0 }) (va_Pc [.int (iZ p1)] (fun U => U.heap.size = sz ∧ va_P (dC, dI) vwCl [] U.heap ∧ va_K (dC, dI) vwCl [] U ∧ va_D (fun _ => True) [] ∧ nwAll U)) (va_Qi (fun (r : Int32) (zR : Int) => r = iZ zR ∧ (0 ≤ zR ∧ zR ≤ 3)) (fun zR t => va_P (dC, dI) vwCl [] t.heap ∧ va_K (dC, dI) vwCl [] t ∧ va_D (va_A [] sz) []) (va_A [] sz)) 0 0 (va_A [] sz) := by
  refine Met.ofW (cc := cX11_sortOf) (maxL := 1) (ret := (some .int)) (by decide) rfl ?_
  intro p e s m args below meth c s₁ B hml hv
  obtain ⟨rfl, hsz, hP, hK, hD0, hN⟩ := hv
  have hx := B.exec
  have hb := B.bytes
  have hr := B.returns
  have hts : ∀ w ∈ wA, w.before [.int (iZ p1)].toArray s = true := fun w h => atoms_spec (ws := Cond.code yX11_sortOf cX11_sortOf 1 (some .int) :: wA) B.pre w (List.mem_cons_of_mem _ h)
  have hown : s.vm.findClass RX11 = some m.cls := findClass_of_methodNamed B.named
  have hlocks := B.notSynchronized
  subst hsz
  have hD := hD0.self (sz := s.heap.size)
  generalize hQ : MQ below (va_Qi (fun (r : Int32) (zR : Int) => r = iZ zR ∧ (0 ≤ zR ∧ zR ≤ 3)) (fun zR t => va_P (dC, dI) vwCl [] t.heap ∧ va_K (dC, dI) vwCl [] t ∧ va_D (va_A [] s.heap.size) []) (va_A [] s.heap.size)) [.int (iZ p1)].toArray s 0 0 (va_A [] s.heap.size) = Q
  have hA : ∀ q : Nat, s.heap.size ≤ q → va_A [] s.heap.size q := fun q h => Or.inr h
  generalize hAe : va_A [] s.heap.size = A at hD hA hQ
  have hS : va_S A s.heap s.heap [] := va_S.rf
  have hl := lv_entry ([.int (iZ p1)]) (n := 1) (Nat.le_of_ble_eq_true rfl)
  rw [lg_entry_eq]
  generalize (lg_sl ([.int (iZ p1)]) ++ List.replicate (1 - (lg_sl ([.int (iZ p1)])).length) Slot.unset).toArray = ls at hl ⊢
  have hl : lv_has ls 1 [(0, .int (iZ p1))] := hl
  refine lv_iload_n hx hb dX11_sortOf_0 rfl (lv_at hl 0 rfl) ?_
  refine lv_bipush (v := iZ 11) hx hb dX11_sortOf_1 (by decide) ?_
  refine zv_sh11 hx hb (by omega) dX11_sortOf_3 (fun z13684 ez13684 => ?_)
  subst hQ
  exact W.iret (v := iZ z13684) hx hb hr (fun t ht hW => ⟨⟨iZ z13684, z13684, rfl, ⟨rfl, by omega⟩, by rw [ht]; exact hP, va_K.moved hW.alike hK, hD⟩, hS.F ht⟩) hS.2.2 dX11_sortOf_4
set_option maxHeartbeats 4000000 in
set_option maxRecDepth 100000 in
theorem z_X11_numberOf (l : Launch) (dC : Nat → ClassId) (dI : Nat → Nat → Nat) (p1 : Int) (sz : Nat) (b_p1 : -2147483648 ≤ p1 ∧ p1 ≤ 2147483647) : Met l yX11_numberOf (Cond.code yX11_numberOf cX11_numberOf 1 (some .int) :: wA) ({ frames := 0, cells := 0, slots := 0, locals := 0 }) (va_Pc [.int (iZ p1)] (fun U => U.heap.size = sz ∧ va_P (dC, dI) vwCl [] U.heap ∧ va_K (dC, dI) vwCl [] U ∧ va_D (fun _ => True) [] ∧ nwAll U)) (va_Qi (fun (r : Int32) (zR : Int) => r = iZ zR ∧ (-1000 ≤ zR ∧ zR ≤ 1047)) (fun zR t => va_P (dC, dI) vwCl [] t.heap ∧ va_K (dC, dI) vwCl [] t ∧ va_D (va_A [] sz) []) (va_A [] sz)) 0 0 (va_A [] sz) := by
  refine Met.ofW (cc := cX11_numberOf) (maxL := 1) (ret := (some .int)) (by decide) rfl ?_
  intro p e s m args below meth c s₁ B hml hv
  obtain ⟨rfl, hsz, hP, hK, hD0, hN⟩ := hv
  have hx := B.exec
  have hb := B.bytes
  have hr := B.returns
  have hts : ∀ w ∈ wA, w.before [.int (iZ p1)].toArray s = true := fun w h => atoms_spec (ws := Cond.code yX11_numberOf cX11_numberOf 1 (some .int) :: wA) B.pre w (List.mem_cons_of_mem _ h)
  have hown : s.vm.findClass RX11 = some m.cls := findClass_of_methodNamed B.named
  have hlocks := B.notSynchronized
  subst hsz
  have hD := hD0.self (sz := s.heap.size)
  generalize hQ : MQ below (va_Qi (fun (r : Int32) (zR : Int) => r = iZ zR ∧ (-1000 ≤ zR ∧ zR ≤ 1047)) (fun zR t => va_P (dC, dI) vwCl [] t.heap ∧ va_K (dC, dI) vwCl [] t ∧ va_D (va_A [] s.heap.size) []) (va_A [] s.heap.size)) [.int (iZ p1)].toArray s 0 0 (va_A [] s.heap.size) = Q
  have hA : ∀ q : Nat, s.heap.size ≤ q → va_A [] s.heap.size q := fun q h => Or.inr h
  generalize hAe : va_A [] s.heap.size = A at hD hA hQ
  have hS : va_S A s.heap s.heap [] := va_S.rf
  have hl := lv_entry ([.int (iZ p1)]) (n := 1) (Nat.le_of_ble_eq_true rfl)
  rw [lg_entry_eq]
  generalize (lg_sl ([.int (iZ p1)]) ++ List.replicate (1 - (lg_sl ([.int (iZ p1)])).length) Slot.unset).toArray = ls at hl ⊢
  have hl : lv_has ls 1 [(0, .int (iZ p1))] := hl
  refine lv_iload_n hx hb dX11_numberOf_0 rfl (lv_at hl 0 rfl) ?_
  refine lv_sipush (v := iZ 2047) hx hb dX11_numberOf_1 (by decide) ?_
  refine zv_ian hx hb (by omega) dX11_numberOf_4 (fun z13686 lz13686 uz13686 => ?_)
  refine lv_sipush (v := iZ 1000) hx hb dX11_numberOf_5 (by decide) ?_
  refine zv_isub hx hb (z13686 - 1000) (by omega) dX11_numberOf_8 ?_
  subst hQ
  exact W.iret (v := iZ (z13686 - 1000)) hx hb hr (fun t ht hW => ⟨⟨iZ (z13686 - 1000), (z13686 - 1000), rfl, ⟨rfl, by omega⟩, by rw [ht]; exact hP, va_K.moved hW.alike hK, hD⟩, hS.F ht⟩) hS.2.2 dX11_numberOf_9
set_option maxHeartbeats 4000000 in
set_option maxRecDepth 100000 in
theorem z_X3_heldAt (l : Launch) (dC : Nat → ClassId) (dI : Nat → Nat → Nat) (q1 : Nat) (p2 : Int) (k1 : ClassId) (g1 : Nat → Int) (sz : Nat) (hb_g1 : ∀ j : Nat, j < 1600 → 0 ≤ g1 j ∧ g1 j ≤ 255) (b_p2 : 0 ≤ p2 ∧ p2 ≤ 1597) : Met l yX3_heldAt (Cond.code yX3_heldAt cX3_heldAt 3 (some .int) :: wA) ({ frames := 0, cells := 0, slots := 0, locals := 0 }) (va_Pc [.ref q1, .int (iZ p2)] (fun U => U.heap.size = sz ∧ va_P (dC, dI) vwCl (wk_24 q1 k1 g1) U.heap ∧ va_K (dC, dI) vwCl [(k1, .int)] U ∧ va_D (fun _ => True) (wk_24 q1 k1 g1) ∧ nwAll U)) (va_Qi (fun (r : Int32) (zR : Int) => r = iZ zR ∧ (-1 ≤ zR ∧ zR ≤ 6143)) (fun zR t => va_P (dC, dI) vwCl (wk_24 q1 k1 g1) t.heap ∧ va_K (dC, dI) vwCl [(k1, .int)] t ∧ va_D (va_A (wk_24 q1 k1 g1) sz) (wk_24 q1 k1 g1)) (va_A (wk_24 q1 k1 g1) sz)) 0 0 (va_A (wk_24 q1 k1 g1) sz) := by
  refine Met.ofW (cc := cX3_heldAt) (maxL := 3) (ret := (some .int)) (by decide) rfl ?_
  intro p e s m args below meth c s₁ B hml hv
  obtain ⟨rfl, hsz, hP, hK, hD0, hN⟩ := hv
  have hx := B.exec
  have hb := B.bytes
  have hr := B.returns
  have hts : ∀ w ∈ wA, w.before [.ref q1, .int (iZ p2)].toArray s = true := fun w h => atoms_spec (ws := Cond.code yX3_heldAt cX3_heldAt 3 (some .int) :: wA) B.pre w (List.mem_cons_of_mem _ h)
  have hown : s.vm.findClass RX3 = some m.cls := findClass_of_methodNamed B.named
  have hlocks := B.notSynchronized
  subst hsz
  have hD := hD0.self (sz := s.heap.size)
  generalize hQ : MQ below (va_Qi (fun (r : Int32) (zR : Int) => r = iZ zR ∧ (-1 ≤ zR ∧ zR ≤ 6143)) (fun zR t => va_P (dC, dI) vwCl (wk_24 q1 k1 g1) t.heap ∧ va_K (dC, dI) vwCl [(k1, .int)] t ∧ va_D (va_A (wk_24 q1 k1 g1) s.heap.size) (wk_24 q1 k1 g1)) (va_A (wk_24 q1 k1 g1) s.heap.size)) [.ref q1, .int (iZ p2)].toArray s 0 0 (va_A (wk_24 q1 k1 g1) s.heap.size) = Q
  have hA : ∀ q : Nat, s.heap.size ≤ q → va_A (wk_24 q1 k1 g1) s.heap.size q := fun q h => Or.inr h
  generalize hAe : va_A (wk_24 q1 k1 g1) s.heap.size = A at hD hA hQ
  have hS : va_S A s.heap s.heap [] := va_S.rf
  have hl := lv_entry ([.ref q1, .int (iZ p2)]) (n := 3) (Nat.le_of_ble_eq_true rfl)
  rw [lg_entry_eq]
  generalize (lg_sl ([.ref q1, .int (iZ p2)]) ++ List.replicate (3 - (lg_sl ([.ref q1, .int (iZ p2)])).length) Slot.unset).toArray = ls at hl ⊢
  have hl : lv_has ls 3 [(0, .ref q1), (1, .int (iZ p2))] := hl
  refine lv_aload_n hx hb dX3_heldAt_0 rfl (lv_at hl 0 rfl) ?_
  refine lv_iload_n hx hb dX3_heldAt_1 rfl (lv_at hl 1 rfl) ?_
  refine lv_iconst (v := iZ 1) hx hb dX3_heldAt_2 (by decide) ?_
  refine zv_iadd hx hb (p2 + 1) (by omega) dX3_heldAt_3 ?_
  refine zv_iald hx hb hK hP 0 0 rfl rfl (by omega) (by omega) (by omega) dX3_heldAt_4 (fun z13694 ez13694 => ?_)
  have bz13694 : 0 ≤ z13694 ∧ z13694 ≤ 255 := by rw [ez13694]; exact hb_g1 _ (by omega)
  refine lv_sipush (v := iZ 256) hx hb dX3_heldAt_5 (by decide) ?_
  refine zv_imul hx hb (256 * z13694) (by omega) dX3_heldAt_8 ?_
  refine lv_aload_n hx hb dX3_heldAt_9 rfl (lv_at hl 0 rfl) ?_
  refine lv_iload_n hx hb dX3_heldAt_10 rfl (lv_at hl 1 rfl) ?_
  refine lv_iconst (v := iZ 2) hx hb dX3_heldAt_11 (by decide) ?_
  refine zv_iadd hx hb (p2 + 2) (by omega) dX3_heldAt_12 ?_
  refine zv_iald hx hb hK hP 0 0 rfl rfl (by omega) (by omega) (by omega) dX3_heldAt_13 (fun z13695 ez13695 => ?_)
  have bz13695 : 0 ≤ z13695 ∧ z13695 ≤ 255 := by rw [ez13695]; exact hb_g1 _ (by omega)
  refine zv_iadd hx hb (256 * z13694 + z13695) (by omega) dX3_heldAt_14 ?_
  refine lv_istore_n (lv' := [(2, .int (iZ (256 * z13694 + z13695))), (0, .ref q1), (1, .int (iZ p2))]) hx hb dX3_heldAt_15 rfl hl (by decide) rfl (fun ls hl => ?_)
  refine lv_aload_n hx hb dX3_heldAt_16 rfl (lv_at hl 1 rfl) ?_
  refine lv_iload_n hx hb dX3_heldAt_17 rfl (lv_at hl 2 rfl) ?_
  refine zv_iald hx hb hK hP 0 0 rfl rfl (by omega) (by omega) (by omega) dX3_heldAt_18 (fun z13696 ez13696 => ?_)
  have bz13696 : 0 ≤ z13696 ∧ z13696 ≤ 255 := by rw [ez13696]; exact hb_g1 _ (by omega)
  refine lv_iconst (v := iZ 2) hx hb dX3_heldAt_19 (by decide) ?_
  refine zv_icmp_gt (tgt := 30) hx hb dX3_heldAt_20 (by decide) (by omega) (by omega) (fun c13697 => ?_) (fun c13697 => ?_)
  · refine lv_iconst (v := iZ (-1)) hx hb dX3_heldAt_30 (by decide) ?_
    refine lv_goto (tgt := 42) hx hb dX3_heldAt_31 (by decide) ?_
    subst hQ
    exact W.iret (v := iZ (-1)) hx hb hr (fun t ht hW => ⟨⟨iZ (-1), (-1), rfl, ⟨rfl, by omega⟩, by rw [ht]; exact hP, va_K.moved hW.alike hK, hD⟩, hS.F ht⟩) hS.2.2 dX3_heldAt_42
  · refine lv_iload_n hx hb dX3_heldAt_23 rfl (lv_at hl 0 rfl) ?_
    refine lv_sipush (v := iZ 2047) hx hb dX3_heldAt_24 (by decide) ?_
    refine zv_icmp_le (tgt := 34) hx hb dX3_heldAt_27 (by decide) (by omega) (by omega) (fun c13698 => ?_) (fun c13698 => ?_)
    · refine lv_aload_n hx hb dX3_heldAt_34 rfl (lv_at hl 1 rfl) ?_
      refine lv_iload_n hx hb dX3_heldAt_35 rfl (lv_at hl 2 rfl) ?_
      refine zv_iald hx hb hK hP 0 0 rfl rfl (by omega) (by omega) (by omega) dX3_heldAt_36 (fun z13699 ez13699 => ?_)
      have bz13699 : 0 ≤ z13699 ∧ z13699 ≤ 255 := by rw [ez13699]; exact hb_g1 _ (by omega)
      refine lv_bipush (v := iZ 11) hx hb dX3_heldAt_37 (by decide) ?_
      refine zv_sl11 hx hb (by omega) dX3_heldAt_39 (fun z13700 ez13700 => ?_)
      refine lv_iload_n hx hb dX3_heldAt_40 rfl (lv_at hl 0 rfl) ?_
      refine zv_iadd hx hb (256 * z13694 + z13695 + z13700) (by omega) dX3_heldAt_41 ?_
      subst hQ
      exact W.iret (v := iZ (256 * z13694 + z13695 + z13700)) hx hb hr (fun t ht hW => ⟨⟨iZ (256 * z13694 + z13695 + z13700), (256 * z13694 + z13695 + z13700), rfl, ⟨rfl, by omega⟩, by rw [ht]; exact hP, va_K.moved hW.alike hK, hD⟩, hS.F ht⟩) hS.2.2 dX3_heldAt_42
    · refine lv_iconst (v := iZ (-1)) hx hb dX3_heldAt_30 (by decide) ?_
      refine lv_goto (tgt := 42) hx hb dX3_heldAt_31 (by decide) ?_
      subst hQ
      exact W.iret (v := iZ (-1)) hx hb hr (fun t ht hW => ⟨⟨iZ (-1), (-1), rfl, ⟨rfl, by omega⟩, by rw [ht]; exact hP, va_K.moved hW.alike hK, hD⟩, hS.F ht⟩) hS.2.2 dX3_heldAt_42
def wk_25 (a0 : Nat) (x0_0 : Nat) (x0_1 : Nat) (x0_2 : Int) (a1 : Nat) (x1_0 : Int) (x1_1 : Nat) (x1_2 : Nat) (x1_3 : Nat) (a2 : Nat) (c2 : ClassId) (g2 : Nat → Int64) (a3 : Nat) (c3 : ClassId) (g3 : Nat → Int) (a4 : Nat) (c4 : ClassId) (g4 : Nat → Int) (a5 : Nat) (c5 : ClassId) (g5 : Nat → Int) : va_W := [(a0, .inr (3, [.ref x0_0, .ref x0_1, .int (iZ x0_2)])), (a1, .inr (2, [.int (iZ x1_0), .ref x1_1, .ref x1_2, .ref x1_3])), (a2, .inl (c2, 6, .inr (.inl g2))), (a3, .inl (c3, 6, .inl (aZ g3))), (a4, .inl (c4, 36, .inl (aZ g4))), (a5, .inl (c5, 507, .inl (aZ g5)))]
set_option maxHeartbeats 4000000 in
set_option maxRecDepth 100000 in
theorem z_X3_writeHeld (l : Launch) (dC : Nat → ClassId) (dI : Nat → Nat → Nat) (a_t : Nat) (p1 : Int) (a_k : Nat) (q_t_bytes : Nat) (t_length : Int) (k_count : Int) (q_k_names : Nat) (q_k_fields : Nat) (q_k_sorts : Nat) (k_k_names : ClassId) (g_k_names : Nat → Int64) (k_k_fields : ClassId) (g_k_fields : Nat → Int) (k_k_sorts : ClassId) (g_k_sorts : Nat → Int) (k_t_bytes : ClassId) (g_t_bytes : Nat → Int) (sz : Nat) (hb_g_t_bytes : ∀ j : Nat, j < 507 → 0 ≤ g_t_bytes j ∧ g_t_bytes j ≤ 255) (b_t_length : 0 ≤ t_length ∧ t_length ≤ 507) (b_k_count : 0 ≤ k_count ∧ k_count ≤ 6) (hb_g_k_fields : ∀ j : Nat, j < 6 → 0 ≤ g_k_fields j ∧ g_k_fields j ≤ 6) (hb_g_k_sorts : ∀ j : Nat, j < 36 → 0 ≤ g_k_sorts j ∧ g_k_sorts j ≤ 2) (b_p1 : 0 ≤ p1 ∧ p1 ≤ 7303) (hp13701 : t_length ≤ 504) : Met l yX3_writeHeld (Cond.code yX3_writeHeld cX3_writeHeld 3 none :: wA) ({ frames := 1, cells := 0, slots := 0, locals := 20 }) (va_Pc [.ref a_t, .int (iZ p1)] (fun U => U.heap.size = sz ∧ va_P (dC, dI) vwCl (wk_25 a_t a_k q_t_bytes t_length a_k k_count q_k_names q_k_fields q_k_sorts q_k_names k_k_names g_k_names q_k_fields k_k_fields g_k_fields q_k_sorts k_k_sorts g_k_sorts q_t_bytes k_t_bytes g_t_bytes) U.heap ∧ va_K (dC, dI) vwCl [(k_t_bytes, .int), (k_k_names, .long), (k_k_fields, .int), (k_k_sorts, .int)] U ∧ va_D (fun _ => True) (wk_25 a_t a_k q_t_bytes t_length a_k k_count q_k_names q_k_fields q_k_sorts q_k_names k_k_names g_k_names q_k_fields k_k_fields g_k_fields q_k_sorts k_k_sorts g_k_sorts q_t_bytes k_t_bytes g_t_bytes) ∧ nwAll U)) (va_Qv (fun (_ : Unit) => True) (fun _ t => ∃ n_g_t_bytes : Nat → Int, (∀ j : Nat, j < 507 → 0 ≤ n_g_t_bytes j ∧ n_g_t_bytes j ≤ 255) ∧ va_P (dC, dI) vwCl (wk_25 a_t a_k q_t_bytes (t_length + 3) a_k k_count q_k_names q_k_fields q_k_sorts q_k_names k_k_names g_k_names q_k_fields k_k_fields g_k_fields q_k_sorts k_k_sorts g_k_sorts q_t_bytes k_t_bytes n_g_t_bytes) t.heap ∧ va_K (dC, dI) vwCl [(k_t_bytes, .int), (k_k_names, .long), (k_k_fields, .int), (k_k_sorts, .int)] t ∧ va_D (va_A (wk_25 a_t a_k q_t_bytes t_length a_k k_count q_k_names q_k_fields q_k_sorts q_k_names k_k_names g_k_names q_k_fields k_k_fields g_k_fields q_k_sorts k_k_sorts g_k_sorts q_t_bytes k_t_bytes g_t_bytes) sz) (wk_25 a_t a_k q_t_bytes (t_length + 3) a_k k_count q_k_names q_k_fields q_k_sorts q_k_names k_k_names g_k_names q_k_fields k_k_fields g_k_fields q_k_sorts k_k_sorts g_k_sorts q_t_bytes k_t_bytes n_g_t_bytes)) (va_A (wk_25 a_t a_k q_t_bytes t_length a_k k_count q_k_names q_k_fields q_k_sorts q_k_names k_k_names g_k_names q_k_fields k_k_fields g_k_fields q_k_sorts k_k_sorts g_k_sorts q_t_bytes k_t_bytes g_t_bytes) sz)) 0 0 (va_A (wk_25 a_t a_k q_t_bytes t_length a_k k_count q_k_names q_k_fields q_k_sorts q_k_names k_k_names g_k_names q_k_fields k_k_fields g_k_fields q_k_sorts k_k_sorts g_k_sorts q_t_bytes k_t_bytes g_t_bytes) sz) := by
  refine Met.ofW (cc := cX3_writeHeld) (maxL := 3) (ret := none) (by decide) rfl ?_
  intro p e s m args below meth c s₁ B hml hv
  obtain ⟨rfl, hsz, hP, hK, hD0, hN⟩ := hv
  have hx := B.exec
  have hb := B.bytes
  have hr := B.returns
  have hts : ∀ w ∈ wA, w.before [.ref a_t, .int (iZ p1)].toArray s = true := fun w h => atoms_spec (ws := Cond.code yX3_writeHeld cX3_writeHeld 3 none :: wA) B.pre w (List.mem_cons_of_mem _ h)
  have hown : s.vm.findClass RX3 = some m.cls := findClass_of_methodNamed B.named
  have hlocks := B.notSynchronized
  subst hsz
  have hD := hD0.self (sz := s.heap.size)
  generalize hQ : MQ below (va_Qv (fun (_ : Unit) => True) (fun _ t => ∃ n_g_t_bytes : Nat → Int, (∀ j : Nat, j < 507 → 0 ≤ n_g_t_bytes j ∧ n_g_t_bytes j ≤ 255) ∧ va_P (dC, dI) vwCl (wk_25 a_t a_k q_t_bytes (t_length + 3) a_k k_count q_k_names q_k_fields q_k_sorts q_k_names k_k_names g_k_names q_k_fields k_k_fields g_k_fields q_k_sorts k_k_sorts g_k_sorts q_t_bytes k_t_bytes n_g_t_bytes) t.heap ∧ va_K (dC, dI) vwCl [(k_t_bytes, .int), (k_k_names, .long), (k_k_fields, .int), (k_k_sorts, .int)] t ∧ va_D (va_A (wk_25 a_t a_k q_t_bytes t_length a_k k_count q_k_names q_k_fields q_k_sorts q_k_names k_k_names g_k_names q_k_fields k_k_fields g_k_fields q_k_sorts k_k_sorts g_k_sorts q_t_bytes k_t_bytes g_t_bytes) s.heap.size) (wk_25 a_t a_k q_t_bytes (t_length + 3) a_k k_count q_k_names q_k_fields q_k_sorts q_k_names k_k_names g_k_names q_k_fields k_k_fields g_k_fields q_k_sorts k_k_sorts g_k_sorts q_t_bytes k_t_bytes n_g_t_bytes)) (va_A (wk_25 a_t a_k q_t_bytes t_length a_k k_count q_k_names q_k_fields q_k_sorts q_k_names k_k_names g_k_names q_k_fields k_k_fields g_k_fields q_k_sorts k_k_sorts g_k_sorts q_t_bytes k_t_bytes g_t_bytes) s.heap.size)) [.ref a_t, .int (iZ p1)].toArray s 0 0 (va_A (wk_25 a_t a_k q_t_bytes t_length a_k k_count q_k_names q_k_fields q_k_sorts q_k_names k_k_names g_k_names q_k_fields k_k_fields g_k_fields q_k_sorts k_k_sorts g_k_sorts q_t_bytes k_t_bytes g_t_bytes) s.heap.size) = Q
  have hA : ∀ q : Nat, s.heap.size ≤ q → va_A (wk_25 a_t a_k q_t_bytes t_length a_k k_count q_k_names q_k_fields q_k_sorts q_k_names k_k_names g_k_names q_k_fields k_k_fields g_k_fields q_k_sorts k_k_sorts g_k_sorts q_t_bytes k_t_bytes g_t_bytes) s.heap.size q := fun q h => Or.inr h
  generalize hAe : va_A (wk_25 a_t a_k q_t_bytes t_length a_k k_count q_k_names q_k_fields q_k_sorts q_k_names k_k_names g_k_names q_k_fields k_k_fields g_k_fields q_k_sorts k_k_sorts g_k_sorts q_t_bytes k_t_bytes g_t_bytes) s.heap.size = A at hD hA hQ
  have hS : va_S A s.heap s.heap [] := va_S.rf
  have hl := lv_entry ([.ref a_t, .int (iZ p1)]) (n := 3) (Nat.le_of_ble_eq_true rfl)
  rw [lg_entry_eq]
  generalize (lg_sl ([.ref a_t, .int (iZ p1)]) ++ List.replicate (3 - (lg_sl ([.ref a_t, .int (iZ p1)])).length) Slot.unset).toArray = ls at hl ⊢
  have hl : lv_has ls 3 [(0, .ref a_t), (1, .int (iZ p1))] := hl
  refine lv_iload_n hx hb dX3_writeHeld_0 rfl (lv_at hl 1 rfl) ?_
  refine lv_sipush (v := iZ 2047) hx hb dX3_writeHeld_1 (by decide) ?_
  refine zv_ian hx hb (by omega) dX3_writeHeld_4 (fun z13711 lz13711 uz13711 => ?_)
  refine lv_istore_n (lv' := [(2, .int (iZ z13711)), (0, .ref a_t), (1, .int (iZ p1))]) hx hb dX3_writeHeld_5 rfl hl (by decide) rfl (fun ls hl => ?_)
  refine lv_aload_n hx hb dX3_writeHeld_6 rfl (lv_at hl 1 rfl) ?_
  refine va_get (D := (dC, dI)) (ci := 3) (v := .ref q_t_bytes) (C := RX3) (T := TX3) (N := 3) hx hb hts i_X3 hown hK hP 0 rfl rfl 1 (by decide) (hts _ q_1240) (fun _ h9 => h9) rfl dX3_writeHeld_7 ?_
  refine lv_aload_n hx hb dX3_writeHeld_10 rfl (lv_at hl 1 rfl) ?_
  refine va_get (D := (dC, dI)) (ci := 3) (v := .int (iZ t_length)) (C := RX3) (T := TX3) (N := 3) hx hb hts i_X3 hown hK hP 0 rfl rfl 2 (by decide) (hts _ q_1241) (fun _ h9 => h9) rfl dX3_writeHeld_11 ?_
  refine lv_iload_n hx hb dX3_writeHeld_14 rfl (lv_at hl 2 rfl) ?_
  have hPc := hP.sub (ws' := []) [] rfl
  have hDc := hD.sub (ws' := []) [] (by decide) rfl
  have hKc := hK.sub (tys' := []) [] rfl
  have hFc := va_free (wc := []) hD hS hA [] rfl
  refine va_calli (va_runSN (As := [.int (iZ p1)]) (rest := [.int (iZ t_length), .ref q_t_bytes]) ⟨hx, hb, hml, hown, hts⟩ (z_X11_sortOf l dC dI p1 s.heap.size (by omega)) ⟨va_cnB 1 hts (gk q_104) rfl rfl rfl hN.2.2.2.2.2.2.2.2.2.2.2 (hts _ q_83) mds_yX11_sortOf ⟨Nat.le_of_ble_eq_true rfl, Nat.le_of_ble_eq_true rfl⟩, hts _ q_103, trivial⟩ ⟨fun a U g mk q => by obtain ⟨q0, q1, qP, qK, qD, qN⟩ := q; exact ⟨q0, q1, qP, va_K.moved (u := U) (U := U.calling g mk a) (Vm.Alike.refl U.vm) qK, qD, nwAll_same (u := U) (U := U.calling g mk a) rfl qN⟩, fun U hU hW => ⟨rfl, by rw [hU], by rw [hU]; exact hPc, va_K.moved hW.alike hKc, hDc.weaken (fun _ _ _ _ => trivial), nwAll_warm hW hN⟩⟩ rfl rfl hl.1 rfl (lv_room (Nat.le_of_ble_eq_true rfl)) dX3_writeHeld_15 ⟨Nat.le_of_ble_eq_true rfl, Nat.le_of_ble_eq_true rfl⟩) hS (fun q _ h => hFc q h) hFc (fun r13712 z13713 t H1 locs ht hvm hw hB hz1 hk1 hS => ?_)
  obtain ⟨rfl, h13714⟩ := hw
  obtain ⟨hP1, hK1, hD1⟩ := hB
  rw [ht] at hP1
  obtain ⟨hP, hD⟩ := va_join (wr := (wk_25 a_t a_k q_t_bytes t_length a_k k_count q_k_names q_k_fields q_k_sorts q_k_names k_k_names g_k_names q_k_fields k_k_fields g_k_fields q_k_sorts k_k_sorts g_k_sorts q_t_bytes k_t_bytes g_t_bytes)) (w1 := []) hP hD [] [0, 1, 2, 3, 4, 5] rfl rfl (by decide) (by decide) hk1 hFc hP1 hD1
  generalize H1 = H at hP hS ⊢
  have hP : va_P (dC, dI) vwCl (wk_25 a_t a_k q_t_bytes t_length a_k k_count q_k_names q_k_fields q_k_sorts q_k_names k_k_names g_k_names q_k_fields k_k_fields g_k_fields q_k_sorts k_k_sorts g_k_sorts q_t_bytes k_t_bytes g_t_bytes) H := hP
  have hD : va_D A (wk_25 a_t a_k q_t_bytes t_length a_k k_count q_k_names q_k_fields q_k_sorts q_k_names k_k_names g_k_names q_k_fields k_k_fields g_k_fields q_k_sorts k_k_sorts g_k_sorts q_t_bytes k_t_bytes g_t_bytes) := hD
  refine zv_iast hx hb hK hP hD hS 5 0 rfl rfl (by omega) (by omega) (by omega) dX3_writeHeld_18 (fun g13715 H locs eg13715 hP hD hS => ?_)
  subst eg13715
  have hb_g13715 : ∀ j : Nat, j < 507 → 0 ≤ (updI g_t_bytes (t_length).toNat z13713) j ∧ (updI g_t_bytes (t_length).toNat z13713) j ≤ 255 := by exact zb_upd (P := fun v => 0 ≤ v ∧ v ≤ 255) hb_g_t_bytes (by omega)
  have hP : va_P (dC, dI) vwCl (wk_25 a_t a_k q_t_bytes t_length a_k k_count q_k_names q_k_fields q_k_sorts q_k_names k_k_names g_k_names q_k_fields k_k_fields g_k_fields q_k_sorts k_k_sorts g_k_sorts q_t_bytes k_t_bytes (updI g_t_bytes (t_length).toNat z13713)) H := hP
  have hD : va_D A (wk_25 a_t a_k q_t_bytes t_length a_k k_count q_k_names q_k_fields q_k_sorts q_k_names k_k_names g_k_names q_k_fields k_k_fields g_k_fields q_k_sorts k_k_sorts g_k_sorts q_t_bytes k_t_bytes (updI g_t_bytes (t_length).toNat z13713)) := hD
  refine lv_aload_n hx hb dX3_writeHeld_19 rfl (lv_at hl 1 rfl) ?_
  refine va_get (D := (dC, dI)) (ci := 3) (v := .ref q_t_bytes) (C := RX3) (T := TX3) (N := 3) hx hb hts i_X3 hown hK hP 0 rfl rfl 1 (by decide) (hts _ q_1240) (fun _ h9 => h9) rfl dX3_writeHeld_20 ?_
  refine lv_aload_n hx hb dX3_writeHeld_23 rfl (lv_at hl 1 rfl) ?_
  refine va_get (D := (dC, dI)) (ci := 3) (v := .int (iZ t_length)) (C := RX3) (T := TX3) (N := 3) hx hb hts i_X3 hown hK hP 0 rfl rfl 2 (by decide) (hts _ q_1241) (fun _ h9 => h9) rfl dX3_writeHeld_24 ?_
  refine lv_iconst (v := iZ 1) hx hb dX3_writeHeld_27 (by decide) ?_
  refine zv_iadd hx hb (t_length + 1) (by omega) dX3_writeHeld_28 ?_
  refine lv_iload_n hx hb dX3_writeHeld_29 rfl (lv_at hl 0 rfl) ?_
  refine lv_bipush (v := iZ 8) hx hb dX3_writeHeld_30 (by decide) ?_
  refine zv_sh8 hx hb (by omega) dX3_writeHeld_32 (fun z13716 ez13716 => ?_)
  refine zv_iast hx hb hK hP hD hS 5 0 rfl rfl (by omega) (by omega) (by omega) dX3_writeHeld_33 (fun g13717 H locs eg13717 hP hD hS => ?_)
  subst eg13717
  have hb_g13717 : ∀ j : Nat, j < 507 → 0 ≤ (updI (updI g_t_bytes (t_length).toNat z13713) (t_length + 1).toNat z13716) j ∧ (updI (updI g_t_bytes (t_length).toNat z13713) (t_length + 1).toNat z13716) j ≤ 255 := by exact zb_upd (P := fun v => 0 ≤ v ∧ v ≤ 255) hb_g13715 (by omega)
  have hP : va_P (dC, dI) vwCl (wk_25 a_t a_k q_t_bytes t_length a_k k_count q_k_names q_k_fields q_k_sorts q_k_names k_k_names g_k_names q_k_fields k_k_fields g_k_fields q_k_sorts k_k_sorts g_k_sorts q_t_bytes k_t_bytes (updI (updI g_t_bytes (t_length).toNat z13713) (t_length + 1).toNat z13716)) H := hP
  have hD : va_D A (wk_25 a_t a_k q_t_bytes t_length a_k k_count q_k_names q_k_fields q_k_sorts q_k_names k_k_names g_k_names q_k_fields k_k_fields g_k_fields q_k_sorts k_k_sorts g_k_sorts q_t_bytes k_t_bytes (updI (updI g_t_bytes (t_length).toNat z13713) (t_length + 1).toNat z13716)) := hD
  refine lv_aload_n hx hb dX3_writeHeld_34 rfl (lv_at hl 1 rfl) ?_
  refine va_get (D := (dC, dI)) (ci := 3) (v := .ref q_t_bytes) (C := RX3) (T := TX3) (N := 3) hx hb hts i_X3 hown hK hP 0 rfl rfl 1 (by decide) (hts _ q_1240) (fun _ h9 => h9) rfl dX3_writeHeld_35 ?_
  refine lv_aload_n hx hb dX3_writeHeld_38 rfl (lv_at hl 1 rfl) ?_
  refine va_get (D := (dC, dI)) (ci := 3) (v := .int (iZ t_length)) (C := RX3) (T := TX3) (N := 3) hx hb hts i_X3 hown hK hP 0 rfl rfl 2 (by decide) (hts _ q_1241) (fun _ h9 => h9) rfl dX3_writeHeld_39 ?_
  refine lv_iconst (v := iZ 2) hx hb dX3_writeHeld_42 (by decide) ?_
  refine zv_iadd hx hb (t_length + 2) (by omega) dX3_writeHeld_43 ?_
  refine lv_iload_n hx hb dX3_writeHeld_44 rfl (lv_at hl 0 rfl) ?_
  refine lv_sipush (v := iZ 255) hx hb dX3_writeHeld_45 (by decide) ?_
  refine zv_ian hx hb (by omega) dX3_writeHeld_48 (fun z13718 lz13718 uz13718 => ?_)
  refine zv_iast hx hb hK hP hD hS 5 0 rfl rfl (by omega) (by omega) (by omega) dX3_writeHeld_49 (fun g13719 H locs eg13719 hP hD hS => ?_)
  subst eg13719
  have hb_g13719 : ∀ j : Nat, j < 507 → 0 ≤ (updI (updI (updI g_t_bytes (t_length).toNat z13713) (t_length + 1).toNat z13716) (t_length + 2).toNat z13718) j ∧ (updI (updI (updI g_t_bytes (t_length).toNat z13713) (t_length + 1).toNat z13716) (t_length + 2).toNat z13718) j ≤ 255 := by exact zb_upd (P := fun v => 0 ≤ v ∧ v ≤ 255) hb_g13717 (by omega)
  have hP : va_P (dC, dI) vwCl (wk_25 a_t a_k q_t_bytes t_length a_k k_count q_k_names q_k_fields q_k_sorts q_k_names k_k_names g_k_names q_k_fields k_k_fields g_k_fields q_k_sorts k_k_sorts g_k_sorts q_t_bytes k_t_bytes (updI (updI (updI g_t_bytes (t_length).toNat z13713) (t_length + 1).toNat z13716) (t_length + 2).toNat z13718)) H := hP
  have hD : va_D A (wk_25 a_t a_k q_t_bytes t_length a_k k_count q_k_names q_k_fields q_k_sorts q_k_names k_k_names g_k_names q_k_fields k_k_fields g_k_fields q_k_sorts k_k_sorts g_k_sorts q_t_bytes k_t_bytes (updI (updI (updI g_t_bytes (t_length).toNat z13713) (t_length + 1).toNat z13716) (t_length + 2).toNat z13718)) := hD
  refine lv_aload_n hx hb dX3_writeHeld_50 rfl (lv_at hl 1 rfl) ?_
  refine lv_dup hx hb dX3_writeHeld_51 rfl ?_
  refine va_get (D := (dC, dI)) (ci := 3) (v := .int (iZ t_length)) (C := RX3) (T := TX3) (N := 3) hx hb hts i_X3 hown hK hP 0 rfl rfl 2 (by decide) (hts _ q_1241) (fun _ h9 => h9) rfl dX3_writeHeld_52 ?_
  refine lv_iconst (v := iZ 3) hx hb dX3_writeHeld_55 (by decide) ?_
  refine zv_iadd hx hb (t_length + 3) (by omega) dX3_writeHeld_56 ?_
  refine va_put (D := (dC, dI)) (ci := 3) (v := .int (iZ (t_length + 3))) (ty := tyX3 2) (C := RX3) (T := TX3) (N := 3) hx hb hts i_X3 tyX3 tyX3_ok nmX3 hown hK hP hD hS 0 rfl rfl 2 (by decide) (hts _ q_1241) (fun _ h9 => h9) rfl (tyX3_ok 2 (by decide)) rfl rfl (Nat.le_of_ble_eq_true rfl) dX3_writeHeld_57 (fun H locs hP hD hS => ?_)
  have hP : va_P (dC, dI) vwCl (wk_25 a_t a_k q_t_bytes (t_length + 3) a_k k_count q_k_names q_k_fields q_k_sorts q_k_names k_k_names g_k_names q_k_fields k_k_fields g_k_fields q_k_sorts k_k_sorts g_k_sorts q_t_bytes k_t_bytes (updI (updI (updI g_t_bytes (t_length).toNat z13713) (t_length + 1).toNat z13716) (t_length + 2).toNat z13718)) H := hP
  have hD : va_D A (wk_25 a_t a_k q_t_bytes (t_length + 3) a_k k_count q_k_names q_k_fields q_k_sorts q_k_names k_k_names g_k_names q_k_fields k_k_fields g_k_fields q_k_sorts k_k_sorts g_k_sorts q_t_bytes k_t_bytes (updI (updI (updI g_t_bytes (t_length).toNat z13713) (t_length + 1).toNat z13716) (t_length + 2).toNat z13718)) := hD
  subst hQ
  exact W.vret hx hb hr (fun t ht hW => ⟨⟨(), rfl, trivial, (updI (updI (updI g_t_bytes (t_length).toNat z13713) (t_length + 1).toNat z13716) (t_length + 2).toNat z13718), hb_g13719, by rw [ht]; exact hP, va_K.moved hW.alike hK, hD⟩, hS.F ht⟩) hS.2.2 dX3_writeHeld_60
def wk_26 (a0 : Nat) (x0_0 : Nat) (x0_1 : Nat) (x0_2 : Int) (a1 : Nat) (x1_0 : Int) (x1_1 : Nat) (x1_2 : Nat) (x1_3 : Nat) (a2 : Nat) (c2 : ClassId) (g2 : Nat → Int64) (a3 : Nat) (c3 : ClassId) (g3 : Nat → Int) (a4 : Nat) (c4 : ClassId) (g4 : Nat → Int) (a5 : Nat) (c5 : ClassId) (g5 : Nat → Int) (a6 : Nat) (x6_0 : Int) (x6_1 : Int) (x6_2 : Int) (x6_3 : Nat) (x6_4 : Int) (x6_5 : Int) (x6_6 : Nat) (x6_7 : Int) (x6_8 : Int) (x6_9 : Int) (x6_10 : Int) (x6_11 : Int) (x6_12 : Int) (x6_13 : Nat) (a7 : Nat) (c7 : ClassId) (g7 : Nat → Int) (a8 : Nat) (c8 : ClassId) (g8 : Nat → Int) (a9 : Nat) (c9 : ClassId) (g9 : Nat → Int) : va_W := [(a0, .inr (3, [.ref x0_0, .ref x0_1, .int (iZ x0_2)])), (a1, .inr (2, [.int (iZ x1_0), .ref x1_1, .ref x1_2, .ref x1_3])), (a2, .inl (c2, 6, .inr (.inl g2))), (a3, .inl (c3, 6, .inl (aZ g3))), (a4, .inl (c4, 36, .inl (aZ g4))), (a5, .inl (c5, 507, .inl (aZ g5))), (a6, .inr (8, [.int (iZ x6_0), .int (iZ x6_1), .int (iZ x6_2), .ref x6_3, .int (iZ x6_4), .int (iZ x6_5), .ref x6_6, .int (iZ x6_7), .int (iZ x6_8), .int (iZ x6_9), .int (iZ x6_10), .int (iZ x6_11), .int (iZ x6_12), .ref x6_13])), (a7, .inl (c7, 168, .inl (aZ g7))), (a8, .inl (c8, 160, .inl (aZ g8))), (a9, .inl (c9, 80, .inl (aZ g9)))]
def wk_27 (a0 : Nat) (x0_0 : Nat) (x0_1 : Nat) (x0_2 : Int) (a1 : Nat) (x1_0 : Int) (x1_1 : Nat) (x1_2 : Nat) (x1_3 : Nat) (a2 : Nat) (c2 : ClassId) (g2 : Nat → Int64) (a3 : Nat) (c3 : ClassId) (g3 : Nat → Int) (a4 : Nat) (c4 : ClassId) (g4 : Nat → Int) (a5 : Nat) (x5_0 : Int) (x5_1 : Int) (x5_2 : Int) (x5_3 : Nat) (x5_4 : Int) (x5_5 : Int) (x5_6 : Nat) (x5_7 : Int) (x5_8 : Int) (x5_9 : Int) (x5_10 : Int) (x5_11 : Int) (x5_12 : Int) (x5_13 : Nat) (a6 : Nat) (c6 : ClassId) (g6 : Nat → Int) (a7 : Nat) (c7 : ClassId) (g7 : Nat → Int) (a8 : Nat) (c8 : ClassId) (g8 : Nat → Int) : va_W := [(a0, .inr (3, [.ref x0_0, .ref x0_1, .int (iZ x0_2)])), (a1, .inr (2, [.int (iZ x1_0), .ref x1_1, .ref x1_2, .ref x1_3])), (a2, .inl (c2, 6, .inr (.inl g2))), (a3, .inl (c3, 6, .inl (aZ g3))), (a4, .inl (c4, 36, .inl (aZ g4))), (a5, .inr (8, [.int (iZ x5_0), .int (iZ x5_1), .int (iZ x5_2), .ref x5_3, .int (iZ x5_4), .int (iZ x5_5), .ref x5_6, .int (iZ x5_7), .int (iZ x5_8), .int (iZ x5_9), .int (iZ x5_10), .int (iZ x5_11), .int (iZ x5_12), .ref x5_13])), (a6, .inl (c6, 168, .inl (aZ g6))), (a7, .inl (c7, 160, .inl (aZ g7))), (a8, .inl (c8, 80, .inl (aZ g8)))]
set_option maxHeartbeats 4000000 in
set_option maxRecDepth 100000 in
theorem z_X3_write (l : Launch) (dC : Nat → ClassId) (dI : Nat → Nat → Nat) (a_t : Nat) (a_s1 : Nat) (a_k : Nat) (q_t_bytes : Nat) (t_length : Int) (k_count : Int) (q_k_names : Nat) (q_k_fields : Nat) (q_k_sorts : Nat) (k_k_names : ClassId) (g_k_names : Nat → Int64) (k_k_fields : ClassId) (g_k_fields : Nat → Int) (k_k_sorts : ClassId) (g_k_sorts : Nat → Int) (k_t_bytes : ClassId) (g_t_bytes : Nat → Int) (s1_words : Int) (s1_limit : Int) (s1_method : Int) (q_s1_held : Nat) (s1_going : Int) (s1_done : Int) (q_s1_live : Nat) (s1_liveCount : Int) (s1_blocks : Int) (s1_cells : Int) (s1_clearedWeak : Int) (s1_ended : Int) (s1_keptCount : Int) (q_s1_kept : Nat) (k_s1_held : ClassId) (g_s1_held : Nat → Int) (k_s1_live : ClassId) (g_s1_live : Nat → Int) (k_s1_kept : ClassId) (g_s1_kept : Nat → Int) (sz : Nat) (hb_g_t_bytes : ∀ j : Nat, j < 507 → 0 ≤ g_t_bytes j ∧ g_t_bytes j ≤ 255) (b_t_length : 0 ≤ t_length ∧ t_length ≤ 507) (b_k_count : 0 ≤ k_count ∧ k_count ≤ 6) (hb_g_k_fields : ∀ j : Nat, j < 6 → 0 ≤ g_k_fields j ∧ g_k_fields j ≤ 6) (hb_g_k_sorts : ∀ j : Nat, j < 36 → 0 ≤ g_k_sorts j ∧ g_k_sorts j ≤ 2) (b_s1_words : 0 ≤ s1_words ∧ s1_words ≤ 160) (b_s1_limit : 0 ≤ s1_limit ∧ s1_limit ≤ 160) (b_s1_method : 0 ≤ s1_method ∧ s1_method ≤ 1) (hb_g_s1_held : ∀ j : Nat, j < 168 → (0 ≤ g_s1_held j ∧ g_s1_held j ≤ 1999) ∨ (3047 ≤ g_s1_held j ∧ g_s1_held j ≤ 3207) ∨ (5096 ≤ g_s1_held j ∧ g_s1_held j ≤ 5101) ∨ (7136 ≤ g_s1_held j ∧ g_s1_held j ≤ 7303)) (b_s1_going : 0 ≤ s1_going ∧ s1_going ≤ 1) (b_s1_done : 0 ≤ s1_done ∧ s1_done ≤ 400) (hb_g_s1_live : ∀ j : Nat, j < 160 → 0 ≤ g_s1_live j ∧ g_s1_live j ≤ 159) (b_s1_liveCount : 0 ≤ s1_liveCount ∧ s1_liveCount ≤ 160) (b_s1_blocks : 0 ≤ s1_blocks ∧ s1_blocks ≤ 160) (b_s1_cells : -2147483648 ≤ s1_cells ∧ s1_cells ≤ 2147483647) (b_s1_clearedWeak : -2147483648 ≤ s1_clearedWeak ∧ s1_clearedWeak ≤ 2147483647) (b_s1_ended : -2147483648 ≤ s1_ended ∧ s1_ended ≤ 2147483647) (b_s1_keptCount : 0 ≤ s1_keptCount ∧ s1_keptCount ≤ 20) : Met l yX3_write (Cond.code yX3_write cX3_write 3 none :: wA) ({ frames := 2, cells := 0, slots := 0, locals := 42 }) (va_Pc [.ref a_t, .ref a_s1] (fun U => U.heap.size = sz ∧ va_P (dC, dI) vwCl (wk_26 a_t a_k q_t_bytes t_length a_k k_count q_k_names q_k_fields q_k_sorts q_k_names k_k_names g_k_names q_k_fields k_k_fields g_k_fields q_k_sorts k_k_sorts g_k_sorts q_t_bytes k_t_bytes g_t_bytes a_s1 s1_words s1_limit s1_method q_s1_held s1_going s1_done q_s1_live s1_liveCount s1_blocks s1_cells s1_clearedWeak s1_ended s1_keptCount q_s1_kept q_s1_held k_s1_held g_s1_held q_s1_live k_s1_live g_s1_live q_s1_kept k_s1_kept g_s1_kept) U.heap ∧ va_K (dC, dI) vwCl [(k_t_bytes, .int), (k_k_names, .long), (k_k_fields, .int), (k_k_sorts, .int), (k_s1_held, .int), (k_s1_live, .int), (k_s1_kept, .int)] U ∧ va_D (fun _ => True) (wk_26 a_t a_k q_t_bytes t_length a_k k_count q_k_names q_k_fields q_k_sorts q_k_names k_k_names g_k_names q_k_fields k_k_fields g_k_fields q_k_sorts k_k_sorts g_k_sorts q_t_bytes k_t_bytes g_t_bytes a_s1 s1_words s1_limit s1_method q_s1_held s1_going s1_done q_s1_live s1_liveCount s1_blocks s1_cells s1_clearedWeak s1_ended s1_keptCount q_s1_kept q_s1_held k_s1_held g_s1_held q_s1_live k_s1_live g_s1_live q_s1_kept k_s1_kept g_s1_kept) ∧ nwAll U)) (va_Qv (fun (_ : Unit) => True) (fun _ t => ∃ n_t_length : Int, ∃ n_g_t_bytes : Nat → Int, (0 ≤ n_t_length ∧ n_t_length ≤ 507) ∧ (∀ j : Nat, j < 507 → 0 ≤ n_g_t_bytes j ∧ n_g_t_bytes j ≤ 255) ∧ va_P (dC, dI) vwCl (wk_26 a_t a_k q_t_bytes n_t_length a_k k_count q_k_names q_k_fields q_k_sorts q_k_names k_k_names g_k_names q_k_fields k_k_fields g_k_fields q_k_sorts k_k_sorts g_k_sorts q_t_bytes k_t_bytes n_g_t_bytes a_s1 s1_words s1_limit s1_method q_s1_held s1_going s1_done q_s1_live s1_liveCount s1_blocks s1_cells s1_clearedWeak s1_ended s1_keptCount q_s1_kept q_s1_held k_s1_held g_s1_held q_s1_live k_s1_live g_s1_live q_s1_kept k_s1_kept g_s1_kept) t.heap ∧ va_K (dC, dI) vwCl [(k_t_bytes, .int), (k_k_names, .long), (k_k_fields, .int), (k_k_sorts, .int), (k_s1_held, .int), (k_s1_live, .int), (k_s1_kept, .int)] t ∧ va_D (va_A (wk_26 a_t a_k q_t_bytes t_length a_k k_count q_k_names q_k_fields q_k_sorts q_k_names k_k_names g_k_names q_k_fields k_k_fields g_k_fields q_k_sorts k_k_sorts g_k_sorts q_t_bytes k_t_bytes g_t_bytes a_s1 s1_words s1_limit s1_method q_s1_held s1_going s1_done q_s1_live s1_liveCount s1_blocks s1_cells s1_clearedWeak s1_ended s1_keptCount q_s1_kept q_s1_held k_s1_held g_s1_held q_s1_live k_s1_live g_s1_live q_s1_kept k_s1_kept g_s1_kept) sz) (wk_26 a_t a_k q_t_bytes n_t_length a_k k_count q_k_names q_k_fields q_k_sorts q_k_names k_k_names g_k_names q_k_fields k_k_fields g_k_fields q_k_sorts k_k_sorts g_k_sorts q_t_bytes k_t_bytes n_g_t_bytes a_s1 s1_words s1_limit s1_method q_s1_held s1_going s1_done q_s1_live s1_liveCount s1_blocks s1_cells s1_clearedWeak s1_ended s1_keptCount q_s1_kept q_s1_held k_s1_held g_s1_held q_s1_live k_s1_live g_s1_live q_s1_kept k_s1_kept g_s1_kept)) (va_A (wk_26 a_t a_k q_t_bytes t_length a_k k_count q_k_names q_k_fields q_k_sorts q_k_names k_k_names g_k_names q_k_fields k_k_fields g_k_fields q_k_sorts k_k_sorts g_k_sorts q_t_bytes k_t_bytes g_t_bytes a_s1 s1_words s1_limit s1_method q_s1_held s1_going s1_done q_s1_live s1_liveCount s1_blocks s1_cells s1_clearedWeak s1_ended s1_keptCount q_s1_kept q_s1_held k_s1_held g_s1_held q_s1_live k_s1_live g_s1_live q_s1_kept k_s1_kept g_s1_kept) sz)) 0 0 (va_A (wk_26 a_t a_k q_t_bytes t_length a_k k_count q_k_names q_k_fields q_k_sorts q_k_names k_k_names g_k_names q_k_fields k_k_fields g_k_fields q_k_sorts k_k_sorts g_k_sorts q_t_bytes k_t_bytes g_t_bytes a_s1 s1_words s1_limit s1_method q_s1_held s1_going s1_done q_s1_live s1_liveCount s1_blocks s1_cells s1_clearedWeak s1_ended s1_keptCount q_s1_kept q_s1_held k_s1_held g_s1_held q_s1_live k_s1_live g_s1_live q_s1_kept k_s1_kept g_s1_kept) sz) := by
  refine Met.ofW (cc := cX3_write) (maxL := 3) (ret := none) (by decide) rfl ?_
  intro p e s m args below meth c s₁ B hml hv
  obtain ⟨rfl, hsz, hP, hK, hD0, hN⟩ := hv
  have hx := B.exec
  have hb := B.bytes
  have hr := B.returns
  have hts : ∀ w ∈ wA, w.before [.ref a_t, .ref a_s1].toArray s = true := fun w h => atoms_spec (ws := Cond.code yX3_write cX3_write 3 none :: wA) B.pre w (List.mem_cons_of_mem _ h)
  have hown : s.vm.findClass RX3 = some m.cls := findClass_of_methodNamed B.named
  have hlocks := B.notSynchronized
  subst hsz
  have hD := hD0.self (sz := s.heap.size)
  generalize hQ : MQ below (va_Qv (fun (_ : Unit) => True) (fun _ t => ∃ n_t_length : Int, ∃ n_g_t_bytes : Nat → Int, (0 ≤ n_t_length ∧ n_t_length ≤ 507) ∧ (∀ j : Nat, j < 507 → 0 ≤ n_g_t_bytes j ∧ n_g_t_bytes j ≤ 255) ∧ va_P (dC, dI) vwCl (wk_26 a_t a_k q_t_bytes n_t_length a_k k_count q_k_names q_k_fields q_k_sorts q_k_names k_k_names g_k_names q_k_fields k_k_fields g_k_fields q_k_sorts k_k_sorts g_k_sorts q_t_bytes k_t_bytes n_g_t_bytes a_s1 s1_words s1_limit s1_method q_s1_held s1_going s1_done q_s1_live s1_liveCount s1_blocks s1_cells s1_clearedWeak s1_ended s1_keptCount q_s1_kept q_s1_held k_s1_held g_s1_held q_s1_live k_s1_live g_s1_live q_s1_kept k_s1_kept g_s1_kept) t.heap ∧ va_K (dC, dI) vwCl [(k_t_bytes, .int), (k_k_names, .long), (k_k_fields, .int), (k_k_sorts, .int), (k_s1_held, .int), (k_s1_live, .int), (k_s1_kept, .int)] t ∧ va_D (va_A (wk_26 a_t a_k q_t_bytes t_length a_k k_count q_k_names q_k_fields q_k_sorts q_k_names k_k_names g_k_names q_k_fields k_k_fields g_k_fields q_k_sorts k_k_sorts g_k_sorts q_t_bytes k_t_bytes g_t_bytes a_s1 s1_words s1_limit s1_method q_s1_held s1_going s1_done q_s1_live s1_liveCount s1_blocks s1_cells s1_clearedWeak s1_ended s1_keptCount q_s1_kept q_s1_held k_s1_held g_s1_held q_s1_live k_s1_live g_s1_live q_s1_kept k_s1_kept g_s1_kept) s.heap.size) (wk_26 a_t a_k q_t_bytes n_t_length a_k k_count q_k_names q_k_fields q_k_sorts q_k_names k_k_names g_k_names q_k_fields k_k_fields g_k_fields q_k_sorts k_k_sorts g_k_sorts q_t_bytes k_t_bytes n_g_t_bytes a_s1 s1_words s1_limit s1_method q_s1_held s1_going s1_done q_s1_live s1_liveCount s1_blocks s1_cells s1_clearedWeak s1_ended s1_keptCount q_s1_kept q_s1_held k_s1_held g_s1_held q_s1_live k_s1_live g_s1_live q_s1_kept k_s1_kept g_s1_kept)) (va_A (wk_26 a_t a_k q_t_bytes t_length a_k k_count q_k_names q_k_fields q_k_sorts q_k_names k_k_names g_k_names q_k_fields k_k_fields g_k_fields q_k_sorts k_k_sorts g_k_sorts q_t_bytes k_t_bytes g_t_bytes a_s1 s1_words s1_limit s1_method q_s1_held s1_going s1_done q_s1_live s1_liveCount s1_blocks s1_cells s1_clearedWeak s1_ended s1_keptCount q_s1_kept q_s1_held k_s1_held g_s1_held q_s1_live k_s1_live g_s1_live q_s1_kept k_s1_kept g_s1_kept) s.heap.size)) [.ref a_t, .ref a_s1].toArray s 0 0 (va_A (wk_26 a_t a_k q_t_bytes t_length a_k k_count q_k_names q_k_fields q_k_sorts q_k_names k_k_names g_k_names q_k_fields k_k_fields g_k_fields q_k_sorts k_k_sorts g_k_sorts q_t_bytes k_t_bytes g_t_bytes a_s1 s1_words s1_limit s1_method q_s1_held s1_going s1_done q_s1_live s1_liveCount s1_blocks s1_cells s1_clearedWeak s1_ended s1_keptCount q_s1_kept q_s1_held k_s1_held g_s1_held q_s1_live k_s1_live g_s1_live q_s1_kept k_s1_kept g_s1_kept) s.heap.size) = Q
  have hA : ∀ q : Nat, s.heap.size ≤ q → va_A (wk_26 a_t a_k q_t_bytes t_length a_k k_count q_k_names q_k_fields q_k_sorts q_k_names k_k_names g_k_names q_k_fields k_k_fields g_k_fields q_k_sorts k_k_sorts g_k_sorts q_t_bytes k_t_bytes g_t_bytes a_s1 s1_words s1_limit s1_method q_s1_held s1_going s1_done q_s1_live s1_liveCount s1_blocks s1_cells s1_clearedWeak s1_ended s1_keptCount q_s1_kept q_s1_held k_s1_held g_s1_held q_s1_live k_s1_live g_s1_live q_s1_kept k_s1_kept g_s1_kept) s.heap.size q := fun q h => Or.inr h
  generalize hAe : va_A (wk_26 a_t a_k q_t_bytes t_length a_k k_count q_k_names q_k_fields q_k_sorts q_k_names k_k_names g_k_names q_k_fields k_k_fields g_k_fields q_k_sorts k_k_sorts g_k_sorts q_t_bytes k_t_bytes g_t_bytes a_s1 s1_words s1_limit s1_method q_s1_held s1_going s1_done q_s1_live s1_liveCount s1_blocks s1_cells s1_clearedWeak s1_ended s1_keptCount q_s1_kept q_s1_held k_s1_held g_s1_held q_s1_live k_s1_live g_s1_live q_s1_kept k_s1_kept g_s1_kept) s.heap.size = A at hD hA hQ
  have hS : va_S A s.heap s.heap [] := va_S.rf
  have hl := lv_entry ([.ref a_t, .ref a_s1]) (n := 3) (Nat.le_of_ble_eq_true rfl)
  rw [lg_entry_eq]
  generalize (lg_sl ([.ref a_t, .ref a_s1]) ++ List.replicate (3 - (lg_sl ([.ref a_t, .ref a_s1])).length) Slot.unset).toArray = ls at hl ⊢
  have hl : lv_has ls 3 [(0, .ref a_t), (1, .ref a_s1)] := hl
  refine lv_aload_n hx hb dX3_write_0 rfl (lv_at hl 0 rfl) ?_
  refine va_get (D := (dC, dI)) (ci := 3) (v := .ref q_t_bytes) (C := RX3) (T := TX3) (N := 3) hx hb hts i_X3 hown hK hP 0 rfl rfl 1 (by decide) (hts _ q_1240) (fun _ h9 => h9) rfl dX3_write_1 ?_
  refine lv_iconst (v := iZ 0) hx hb dX3_write_4 (by decide) ?_
  refine lv_aload_n hx hb dX3_write_5 rfl (lv_at hl 1 rfl) ?_
  refine va_get (D := (dC, dI)) (ci := 8) (v := .int (iZ s1_method)) (C := RX8) (T := TX8) (N := 14) hx hb hts i_X8 hown hK hP 6 rfl rfl 2 (by decide) (hts _ q_1263) (fun _ h9 => h9) rfl dX3_write_6 ?_
  refine zv_iast hx hb hK hP hD hS 5 0 rfl rfl (by omega) (by omega) (by omega) dX3_write_9 (fun g13963 H locs eg13963 hP hD hS => ?_)
  subst eg13963
  have hb_g13963 : ∀ j : Nat, j < 507 → 0 ≤ (updI g_t_bytes (0 : Int).toNat s1_method) j ∧ (updI g_t_bytes (0 : Int).toNat s1_method) j ≤ 255 := by exact zb_upd (P := fun v => 0 ≤ v ∧ v ≤ 255) hb_g_t_bytes (by omega)
  have hP : va_P (dC, dI) vwCl (wk_26 a_t a_k q_t_bytes t_length a_k k_count q_k_names q_k_fields q_k_sorts q_k_names k_k_names g_k_names q_k_fields k_k_fields g_k_fields q_k_sorts k_k_sorts g_k_sorts q_t_bytes k_t_bytes (updI g_t_bytes (0 : Int).toNat s1_method) a_s1 s1_words s1_limit s1_method q_s1_held s1_going s1_done q_s1_live s1_liveCount s1_blocks s1_cells s1_clearedWeak s1_ended s1_keptCount q_s1_kept q_s1_held k_s1_held g_s1_held q_s1_live k_s1_live g_s1_live q_s1_kept k_s1_kept g_s1_kept) H := hP
  have hD : va_D A (wk_26 a_t a_k q_t_bytes t_length a_k k_count q_k_names q_k_fields q_k_sorts q_k_names k_k_names g_k_names q_k_fields k_k_fields g_k_fields q_k_sorts k_k_sorts g_k_sorts q_t_bytes k_t_bytes (updI g_t_bytes (0 : Int).toNat s1_method) a_s1 s1_words s1_limit s1_method q_s1_held s1_going s1_done q_s1_live s1_liveCount s1_blocks s1_cells s1_clearedWeak s1_ended s1_keptCount q_s1_kept q_s1_held k_s1_held g_s1_held q_s1_live k_s1_live g_s1_live q_s1_kept k_s1_kept g_s1_kept) := hD
  refine lv_aload_n hx hb dX3_write_10 rfl (lv_at hl 0 rfl) ?_
  refine va_get (D := (dC, dI)) (ci := 3) (v := .ref q_t_bytes) (C := RX3) (T := TX3) (N := 3) hx hb hts i_X3 hown hK hP 0 rfl rfl 1 (by decide) (hts _ q_1240) (fun _ h9 => h9) rfl dX3_write_11 ?_
  refine lv_iconst (v := iZ 1) hx hb dX3_write_14 (by decide) ?_
  refine lv_aload_n hx hb dX3_write_15 rfl (lv_at hl 1 rfl) ?_
  refine va_get (D := (dC, dI)) (ci := 8) (v := .int (iZ s1_limit)) (C := RX8) (T := TX8) (N := 14) hx hb hts i_X8 hown hK hP 6 rfl rfl 1 (by decide) (hts _ q_1245) (fun _ h9 => h9) rfl dX3_write_16 ?_
  refine zv_iast hx hb hK hP hD hS 5 0 rfl rfl (by omega) (by omega) (by omega) dX3_write_19 (fun g13964 H locs eg13964 hP hD hS => ?_)
  subst eg13964
  have hb_g13964 : ∀ j : Nat, j < 507 → 0 ≤ (updI (updI g_t_bytes (0 : Int).toNat s1_method) (1 : Int).toNat s1_limit) j ∧ (updI (updI g_t_bytes (0 : Int).toNat s1_method) (1 : Int).toNat s1_limit) j ≤ 255 := by exact zb_upd (P := fun v => 0 ≤ v ∧ v ≤ 255) hb_g13963 (by omega)
  have hP : va_P (dC, dI) vwCl (wk_26 a_t a_k q_t_bytes t_length a_k k_count q_k_names q_k_fields q_k_sorts q_k_names k_k_names g_k_names q_k_fields k_k_fields g_k_fields q_k_sorts k_k_sorts g_k_sorts q_t_bytes k_t_bytes (updI (updI g_t_bytes (0 : Int).toNat s1_method) (1 : Int).toNat s1_limit) a_s1 s1_words s1_limit s1_method q_s1_held s1_going s1_done q_s1_live s1_liveCount s1_blocks s1_cells s1_clearedWeak s1_ended s1_keptCount q_s1_kept q_s1_held k_s1_held g_s1_held q_s1_live k_s1_live g_s1_live q_s1_kept k_s1_kept g_s1_kept) H := hP
  have hD : va_D A (wk_26 a_t a_k q_t_bytes t_length a_k k_count q_k_names q_k_fields q_k_sorts q_k_names k_k_names g_k_names q_k_fields k_k_fields g_k_fields q_k_sorts k_k_sorts g_k_sorts q_t_bytes k_t_bytes (updI (updI g_t_bytes (0 : Int).toNat s1_method) (1 : Int).toNat s1_limit) a_s1 s1_words s1_limit s1_method q_s1_held s1_going s1_done q_s1_live s1_liveCount s1_blocks s1_cells s1_clearedWeak s1_ended s1_keptCount q_s1_kept q_s1_held k_s1_held g_s1_held q_s1_live k_s1_live g_s1_live q_s1_kept k_s1_kept g_s1_kept) := hD
  refine lv_aload_n hx hb dX3_write_20 rfl (lv_at hl 0 rfl) ?_
  refine lv_iconst (v := iZ 2) hx hb dX3_write_21 (by decide) ?_
  refine va_put (D := (dC, dI)) (ci := 3) (v := .int (iZ 2)) (ty := tyX3 2) (C := RX3) (T := TX3) (N := 3) hx hb hts i_X3 tyX3 tyX3_ok nmX3 hown hK hP hD hS 0 rfl rfl 2 (by decide) (hts _ q_1241) (fun _ h9 => h9) rfl (tyX3_ok 2 (by decide)) rfl rfl (Nat.le_of_ble_eq_true rfl) dX3_write_22 (fun H locs hP hD hS => ?_)
  have hP : va_P (dC, dI) vwCl (wk_26 a_t a_k q_t_bytes 2 a_k k_count q_k_names q_k_fields q_k_sorts q_k_names k_k_names g_k_names q_k_fields k_k_fields g_k_fields q_k_sorts k_k_sorts g_k_sorts q_t_bytes k_t_bytes (updI (updI g_t_bytes (0 : Int).toNat s1_method) (1 : Int).toNat s1_limit) a_s1 s1_words s1_limit s1_method q_s1_held s1_going s1_done q_s1_live s1_liveCount s1_blocks s1_cells s1_clearedWeak s1_ended s1_keptCount q_s1_kept q_s1_held k_s1_held g_s1_held q_s1_live k_s1_live g_s1_live q_s1_kept k_s1_kept g_s1_kept) H := hP
  have hD : va_D A (wk_26 a_t a_k q_t_bytes 2 a_k k_count q_k_names q_k_fields q_k_sorts q_k_names k_k_names g_k_names q_k_fields k_k_fields g_k_fields q_k_sorts k_k_sorts g_k_sorts q_t_bytes k_t_bytes (updI (updI g_t_bytes (0 : Int).toNat s1_method) (1 : Int).toNat s1_limit) a_s1 s1_words s1_limit s1_method q_s1_held s1_going s1_done q_s1_live s1_liveCount s1_blocks s1_cells s1_clearedWeak s1_ended s1_keptCount q_s1_kept q_s1_held k_s1_held g_s1_held q_s1_live k_s1_live g_s1_live q_s1_kept k_s1_kept g_s1_kept) := hD
  refine lv_bipush (v := iZ (-8)) hx hb dX3_write_25 (by decide) ?_
  refine lv_istore_n (lv' := [(2, .int (iZ (-8))), (0, .ref a_t), (1, .ref a_s1)]) hx hb dX3_write_27 rfl hl (by decide) rfl (fun ls hl => ?_)
  have lp_28 : ∀ (N28 : Nat) (H : Heap) (locs : List Loc) (ls : Array Slot) (f13976 : Int) (i13978 : Int) (g13977 : Nat → Int), 0 ≤ f13976 - 2 → 0 ≤ -i13978 + s1_words → 0 ≤ -f13976 + 3 * i13978 + 26 → (∀ j : Nat, j < 507 → 0 ≤ g13977 j ∧ g13977 j ≤ 255) → -i13978 + s1_words ≤ (N28 : Int) → va_P (dC, dI) vwCl (wk_26 a_t a_k q_t_bytes f13976 a_k k_count q_k_names q_k_fields q_k_sorts q_k_names k_k_names g_k_names q_k_fields k_k_fields g_k_fields q_k_sorts k_k_sorts g_k_sorts q_t_bytes k_t_bytes g13977 a_s1 s1_words s1_limit s1_method q_s1_held s1_going s1_done q_s1_live s1_liveCount s1_blocks s1_cells s1_clearedWeak s1_ended s1_keptCount q_s1_kept q_s1_held k_s1_held g_s1_held q_s1_live k_s1_live g_s1_live q_s1_kept k_s1_kept g_s1_kept) H → va_D A (wk_26 a_t a_k q_t_bytes f13976 a_k k_count q_k_names q_k_fields q_k_sorts q_k_names k_k_names g_k_names q_k_fields k_k_fields g_k_fields q_k_sorts k_k_sorts g_k_sorts q_t_bytes k_t_bytes g13977 a_s1 s1_words s1_limit s1_method q_s1_held s1_going s1_done q_s1_live s1_liveCount s1_blocks s1_cells s1_clearedWeak s1_ended s1_keptCount q_s1_kept q_s1_held k_s1_held g_s1_held q_s1_live k_s1_live g_s1_live q_s1_kept k_s1_kept g_s1_kept) → va_S A s.heap H locs → lv_has ls 3 [(0, .ref a_t), (1, .ref a_s1), (2, .int (iZ i13978))] → W p l e (headSpec (Cond.code yX3_write cX3_write 3 none :: wA) ({ frames := 2, cells := 0, slots := 0, locals := 42 })).room s m [.ref a_t, .ref a_s1].toArray below meth c H locs 0 0 Q (F0 m 28 ls []) := by
    intro N28
    induction N28 using Nat.strongRecOn with
    | ind N28 ih_28 =>
      intro H locs ls f13976 i13978 g13977 k28_0 k28_1 k28_2 hb_g13977 hm28 hP hD hS hl
      refine lv_iload_n hx hb dX3_write_28 rfl (lv_at hl 2 rfl) ?_
      refine lv_aload_n hx hb dX3_write_29 rfl (lv_at hl 1 rfl) ?_
      refine va_get (D := (dC, dI)) (ci := 8) (v := .int (iZ s1_words)) (C := RX8) (T := TX8) (N := 14) hx hb hts i_X8 hown hK hP 6 rfl rfl 0 (by decide) (hts _ q_1246) (fun _ h9 => h9) rfl dX3_write_30 ?_
      refine zv_icmp_ge (tgt := 63) hx hb dX3_write_33 (by decide) (by omega) (by omega) (fun c14181 => ?_) (fun c14181 => ?_)
      · refine lv_aload_n hx hb dX3_write_63 rfl (lv_at hl 0 rfl) ?_
        refine va_get (D := (dC, dI)) (ci := 3) (v := .ref q_t_bytes) (C := RX3) (T := TX3) (N := 3) hx hb hts i_X3 hown hK hP 0 rfl rfl 1 (by decide) (hts _ q_1240) (fun _ h9 => h9) rfl dX3_write_64 ?_
        refine lv_aload_n hx hb dX3_write_67 rfl (lv_at hl 0 rfl) ?_
        refine va_get (D := (dC, dI)) (ci := 3) (v := .int (iZ f13976)) (C := RX3) (T := TX3) (N := 3) hx hb hts i_X3 hown hK hP 0 rfl rfl 2 (by decide) (hts _ q_1241) (fun _ h9 => h9) rfl dX3_write_68 ?_
        refine lv_aload_n hx hb dX3_write_71 rfl (lv_at hl 0 rfl) ?_
        refine va_get (D := (dC, dI)) (ci := 3) (v := .ref q_t_bytes) (C := RX3) (T := TX3) (N := 3) hx hb hts i_X3 hown hK hP 0 rfl rfl 1 (by decide) (hts _ q_1240) (fun _ h9 => h9) rfl dX3_write_72 ?_
        refine lv_aload_n hx hb dX3_write_75 rfl (lv_at hl 0 rfl) ?_
        refine va_get (D := (dC, dI)) (ci := 3) (v := .int (iZ f13976)) (C := RX3) (T := TX3) (N := 3) hx hb hts i_X3 hown hK hP 0 rfl rfl 2 (by decide) (hts _ q_1241) (fun _ h9 => h9) rfl dX3_write_76 ?_
        have hPc := hP.sub (ws' := (wk_23 q_t_bytes k_t_bytes g13977)) [5] rfl
        have hDc := hD.sub (ws' := (wk_23 q_t_bytes k_t_bytes g13977)) [5] (by decide) rfl
        have hKc := hK.sub (tys' := [(k_t_bytes, .int)]) [0] rfl
        have hFc := va_free (wc := (wk_23 q_t_bytes k_t_bytes g13977)) hD hS hA [5] rfl
        refine va_calli (va_runS (As := [.ref q_t_bytes, .int (iZ f13976)]) (rest := [.int (iZ f13976), .ref q_t_bytes]) ⟨hx, hb, hml, hown, hts⟩ (z_X3_sumOf_507 l dC dI q_t_bytes f13976 k_t_bytes g13977 H.size hb_g13977 (by omega)) (va_cwS 2 hts (gS q_1259 q_1260 q_340 q_1261) rfl rfl rfl mds_yX3_sumOf ⟨Nat.le_of_ble_eq_true rfl, Nat.le_of_ble_eq_true rfl⟩) ⟨fun a U g mk q => by obtain ⟨q0, q1, qP, qK, qD, qN⟩ := q; exact ⟨q0, q1, qP, va_K.moved (u := U) (U := U.calling g mk a) (Vm.Alike.refl U.vm) qK, qD, nwAll_same (u := U) (U := U.calling g mk a) rfl qN⟩, fun U hU hW => ⟨rfl, by rw [hU], by rw [hU]; exact hPc, va_K.moved hW.alike hKc, hDc.weaken (fun _ _ _ _ => trivial), nwAll_warm hW hN⟩⟩ rfl rfl hl.1 rfl (lv_room (Nat.le_of_ble_eq_true rfl)) dX3_write_79 ⟨Nat.le_of_ble_eq_true rfl, Nat.le_of_ble_eq_true rfl⟩) hS (fun q _ h => hFc q h) hFc (fun r14182 z14183 t H1 locs ht hvm hw hB hz1 hk1 hS => ?_)
        obtain ⟨rfl, h14184⟩ := hw
        obtain ⟨hP1, hK1, hD1⟩ := hB
        rw [ht] at hP1
        obtain ⟨hP, hD⟩ := va_join (wr := (wk_27 a_t a_k q_t_bytes f13976 a_k k_count q_k_names q_k_fields q_k_sorts q_k_names k_k_names g_k_names q_k_fields k_k_fields g_k_fields q_k_sorts k_k_sorts g_k_sorts a_s1 s1_words s1_limit s1_method q_s1_held s1_going s1_done q_s1_live s1_liveCount s1_blocks s1_cells s1_clearedWeak s1_ended s1_keptCount q_s1_kept q_s1_held k_s1_held g_s1_held q_s1_live k_s1_live g_s1_live q_s1_kept k_s1_kept g_s1_kept)) (w1 := (wk_23 q_t_bytes k_t_bytes g13977)) hP hD [5] [0, 1, 2, 3, 4, 6, 7, 8, 9] rfl rfl (by decide) (by decide) hk1 hFc hP1 hD1
        generalize H1 = H at hP hS ⊢
        have hP : va_P (dC, dI) vwCl (wk_26 a_t a_k q_t_bytes f13976 a_k k_count q_k_names q_k_fields q_k_sorts q_k_names k_k_names g_k_names q_k_fields k_k_fields g_k_fields q_k_sorts k_k_sorts g_k_sorts q_t_bytes k_t_bytes g13977 a_s1 s1_words s1_limit s1_method q_s1_held s1_going s1_done q_s1_live s1_liveCount s1_blocks s1_cells s1_clearedWeak s1_ended s1_keptCount q_s1_kept q_s1_held k_s1_held g_s1_held q_s1_live k_s1_live g_s1_live q_s1_kept k_s1_kept g_s1_kept) H := hP.sub (ws' := (wk_26 a_t a_k q_t_bytes f13976 a_k k_count q_k_names q_k_fields q_k_sorts q_k_names k_k_names g_k_names q_k_fields k_k_fields g_k_fields q_k_sorts k_k_sorts g_k_sorts q_t_bytes k_t_bytes g13977 a_s1 s1_words s1_limit s1_method q_s1_held s1_going s1_done q_s1_live s1_liveCount s1_blocks s1_cells s1_clearedWeak s1_ended s1_keptCount q_s1_kept q_s1_held k_s1_held g_s1_held q_s1_live k_s1_live g_s1_live q_s1_kept k_s1_kept g_s1_kept)) [0, 1, 2, 3, 4, 9, 5, 6, 7, 8] rfl
        have hD : va_D A (wk_26 a_t a_k q_t_bytes f13976 a_k k_count q_k_names q_k_fields q_k_sorts q_k_names k_k_names g_k_names q_k_fields k_k_fields g_k_fields q_k_sorts k_k_sorts g_k_sorts q_t_bytes k_t_bytes g13977 a_s1 s1_words s1_limit s1_method q_s1_held s1_going s1_done q_s1_live s1_liveCount s1_blocks s1_cells s1_clearedWeak s1_ended s1_keptCount q_s1_kept q_s1_held k_s1_held g_s1_held q_s1_live k_s1_live g_s1_live q_s1_kept k_s1_kept g_s1_kept) := hD.sub (ws' := (wk_26 a_t a_k q_t_bytes f13976 a_k k_count q_k_names q_k_fields q_k_sorts q_k_names k_k_names g_k_names q_k_fields k_k_fields g_k_fields q_k_sorts k_k_sorts g_k_sorts q_t_bytes k_t_bytes g13977 a_s1 s1_words s1_limit s1_method q_s1_held s1_going s1_done q_s1_live s1_liveCount s1_blocks s1_cells s1_clearedWeak s1_ended s1_keptCount q_s1_kept q_s1_held k_s1_held g_s1_held q_s1_live k_s1_live g_s1_live q_s1_kept k_s1_kept g_s1_kept)) [0, 1, 2, 3, 4, 9, 5, 6, 7, 8] (by decide) rfl
        refine zv_iast hx hb hK hP hD hS 5 0 rfl rfl (by omega) (by omega) (by omega) dX3_write_82 (fun g14185 H locs eg14185 hP hD hS => ?_)
        have hb_g14185 : ∀ j : Nat, j < 507 → 0 ≤ g14185 j ∧ g14185 j ≤ 255 := by rw [eg14185]; exact zb_upd (P := fun v => 0 ≤ v ∧ v ≤ 255) hb_g13977 (by omega)
        have hP : va_P (dC, dI) vwCl (wk_26 a_t a_k q_t_bytes f13976 a_k k_count q_k_names q_k_fields q_k_sorts q_k_names k_k_names g_k_names q_k_fields k_k_fields g_k_fields q_k_sorts k_k_sorts g_k_sorts q_t_bytes k_t_bytes g14185 a_s1 s1_words s1_limit s1_method q_s1_held s1_going s1_done q_s1_live s1_liveCount s1_blocks s1_cells s1_clearedWeak s1_ended s1_keptCount q_s1_kept q_s1_held k_s1_held g_s1_held q_s1_live k_s1_live g_s1_live q_s1_kept k_s1_kept g_s1_kept) H := hP
        have hD : va_D A (wk_26 a_t a_k q_t_bytes f13976 a_k k_count q_k_names q_k_fields q_k_sorts q_k_names k_k_names g_k_names q_k_fields k_k_fields g_k_fields q_k_sorts k_k_sorts g_k_sorts q_t_bytes k_t_bytes g14185 a_s1 s1_words s1_limit s1_method q_s1_held s1_going s1_done q_s1_live s1_liveCount s1_blocks s1_cells s1_clearedWeak s1_ended s1_keptCount q_s1_kept q_s1_held k_s1_held g_s1_held q_s1_live k_s1_live g_s1_live q_s1_kept k_s1_kept g_s1_kept) := hD
        refine lv_aload_n hx hb dX3_write_83 rfl (lv_at hl 0 rfl) ?_
        refine lv_dup hx hb dX3_write_84 rfl ?_
        refine va_get (D := (dC, dI)) (ci := 3) (v := .int (iZ f13976)) (C := RX3) (T := TX3) (N := 3) hx hb hts i_X3 hown hK hP 0 rfl rfl 2 (by decide) (hts _ q_1241) (fun _ h9 => h9) rfl dX3_write_85 ?_
        refine lv_iconst (v := iZ 1) hx hb dX3_write_88 (by decide) ?_
        refine zv_iadd hx hb (f13976 + 1) (by omega) dX3_write_89 ?_
        refine va_put (D := (dC, dI)) (ci := 3) (v := .int (iZ (f13976 + 1))) (ty := tyX3 2) (C := RX3) (T := TX3) (N := 3) hx hb hts i_X3 tyX3 tyX3_ok nmX3 hown hK hP hD hS 0 rfl rfl 2 (by decide) (hts _ q_1241) (fun _ h9 => h9) rfl (tyX3_ok 2 (by decide)) rfl rfl (Nat.le_of_ble_eq_true rfl) dX3_write_90 (fun H locs hP hD hS => ?_)
        have hP : va_P (dC, dI) vwCl (wk_26 a_t a_k q_t_bytes (f13976 + 1) a_k k_count q_k_names q_k_fields q_k_sorts q_k_names k_k_names g_k_names q_k_fields k_k_fields g_k_fields q_k_sorts k_k_sorts g_k_sorts q_t_bytes k_t_bytes g14185 a_s1 s1_words s1_limit s1_method q_s1_held s1_going s1_done q_s1_live s1_liveCount s1_blocks s1_cells s1_clearedWeak s1_ended s1_keptCount q_s1_kept q_s1_held k_s1_held g_s1_held q_s1_live k_s1_live g_s1_live q_s1_kept k_s1_kept g_s1_kept) H := hP
        have hD : va_D A (wk_26 a_t a_k q_t_bytes (f13976 + 1) a_k k_count q_k_names q_k_fields q_k_sorts q_k_names k_k_names g_k_names q_k_fields k_k_fields g_k_fields q_k_sorts k_k_sorts g_k_sorts q_t_bytes k_t_bytes g14185 a_s1 s1_words s1_limit s1_method q_s1_held s1_going s1_done q_s1_live s1_liveCount s1_blocks s1_cells s1_clearedWeak s1_ended s1_keptCount q_s1_kept q_s1_held k_s1_held g_s1_held q_s1_live k_s1_live g_s1_live q_s1_kept k_s1_kept g_s1_kept) := hD
        subst hQ
        exact W.vret hx hb hr (fun t ht hW => ⟨⟨(), rfl, trivial, (f13976 + 1), g14185, by omega, hb_g14185, by rw [ht]; exact hP, va_K.moved hW.alike hK, hD⟩, hS.F ht⟩) hS.2.2 dX3_write_93
      · refine lv_iload_n hx hb dX3_write_36 rfl (lv_at hl 2 rfl) ?_
        refine zv_if_lt (tgt := 48) hx hb dX3_write_37 (by decide) (by omega) (fun c14186 => ?_) (fun c14186 => ?_)
        · refine lv_aload_n hx hb dX3_write_48 rfl (lv_at hl 0 rfl) ?_
          refine lv_aload_n hx hb dX3_write_49 rfl (lv_at hl 1 rfl) ?_
          refine lv_iload_n hx hb dX3_write_50 rfl (lv_at hl 2 rfl) ?_
          have hPc := hP.sub (ws' := (wk_1 a_s1 s1_words s1_limit s1_method q_s1_held s1_going s1_done q_s1_live s1_liveCount s1_blocks s1_cells s1_clearedWeak s1_ended s1_keptCount q_s1_kept q_s1_held k_s1_held g_s1_held q_s1_live k_s1_live g_s1_live q_s1_kept k_s1_kept g_s1_kept)) [6, 7, 8, 9] rfl
          have hDc := hD.sub (ws' := (wk_1 a_s1 s1_words s1_limit s1_method q_s1_held s1_going s1_done q_s1_live s1_liveCount s1_blocks s1_cells s1_clearedWeak s1_ended s1_keptCount q_s1_kept q_s1_held k_s1_held g_s1_held q_s1_live k_s1_live g_s1_live q_s1_kept k_s1_kept g_s1_kept)) [6, 7, 8, 9] (by decide) rfl
          have hKc := hK.sub (tys' := [(k_s1_held, .int), (k_s1_live, .int), (k_s1_kept, .int)]) [4, 5, 6] rfl
          have hFc := va_free (wc := (wk_1 a_s1 s1_words s1_limit s1_method q_s1_held s1_going s1_done q_s1_live s1_liveCount s1_blocks s1_cells s1_clearedWeak s1_ended s1_keptCount q_s1_kept q_s1_held k_s1_held g_s1_held q_s1_live k_s1_live g_s1_live q_s1_kept k_s1_kept g_s1_kept)) hD hS hA [6, 7, 8, 9] rfl
          refine va_calli (va_runV (As := [.int (iZ i13978)]) (rest := [.ref a_t]) ⟨hx, hb, hml, hown, hts⟩ (z_X8_at l dC dI a_s1 i13978 s1_words s1_limit s1_method q_s1_held s1_going s1_done q_s1_live s1_liveCount s1_blocks s1_cells s1_clearedWeak s1_ended s1_keptCount q_s1_kept k_s1_held g_s1_held k_s1_live g_s1_live k_s1_kept g_s1_kept H.size (by omega) (by omega) (by omega) hb_g_s1_held (by omega) (by omega) hb_g_s1_live (by omega) (by omega) (by omega) (by omega) (by omega) (by omega) (by omega)) (cwV 1 hts (gV q_1247 q_78 q_79 q_80 q_81) rfl rfl rfl mdv_yX8_at ⟨Nat.le_of_ble_eq_true rfl, Nat.le_of_ble_eq_true rfl⟩) ⟨fun a U g mk q => by obtain ⟨q0, q1, qP, qK, qD, qN⟩ := q; exact ⟨q0, q1, qP, va_K.moved (u := U) (U := U.calling g mk a) (Vm.Alike.refl U.vm) qK, qD, nwAll_same (u := U) (U := U.calling g mk a) rfl qN⟩, va_recv hKc hPc (ci := 8) (q0 := 0) rfl rfl, fun U hU hW => ⟨rfl, by rw [hU], by rw [hU]; exact hPc, va_K.moved hW.alike hKc, hDc.weaken (fun _ _ _ _ => trivial), nwAll_warm hW hN⟩⟩ rfl rfl hl.1 rfl (lv_room (Nat.le_of_ble_eq_true rfl)) dX3_write_51 ⟨Nat.le_of_ble_eq_true rfl, Nat.le_of_ble_eq_true rfl⟩) hS (fun q _ h => hFc q h) hFc (fun r14187 z14188 t H1 locs ht hvm hw hB hz1 hk1 hS => ?_)
          obtain ⟨rfl, h14189, h14190, h14191⟩ := hw
          obtain ⟨hP1, hK1, hD1⟩ := hB
          rw [ht] at hP1
          obtain ⟨hP, hD⟩ := va_join (wr := (wk_25 a_t a_k q_t_bytes f13976 a_k k_count q_k_names q_k_fields q_k_sorts q_k_names k_k_names g_k_names q_k_fields k_k_fields g_k_fields q_k_sorts k_k_sorts g_k_sorts q_t_bytes k_t_bytes g13977)) (w1 := (wk_1 a_s1 s1_words s1_limit s1_method q_s1_held s1_going s1_done q_s1_live s1_liveCount s1_blocks s1_cells s1_clearedWeak s1_ended s1_keptCount q_s1_kept q_s1_held k_s1_held g_s1_held q_s1_live k_s1_live g_s1_live q_s1_kept k_s1_kept g_s1_kept)) hP hD [6, 7, 8, 9] [0, 1, 2, 3, 4, 5] rfl rfl (by decide) (by decide) hk1 hFc hP1 hD1
          generalize H1 = H at hP hS ⊢
          have hP : va_P (dC, dI) vwCl (wk_26 a_t a_k q_t_bytes f13976 a_k k_count q_k_names q_k_fields q_k_sorts q_k_names k_k_names g_k_names q_k_fields k_k_fields g_k_fields q_k_sorts k_k_sorts g_k_sorts q_t_bytes k_t_bytes g13977 a_s1 s1_words s1_limit s1_method q_s1_held s1_going s1_done q_s1_live s1_liveCount s1_blocks s1_cells s1_clearedWeak s1_ended s1_keptCount q_s1_kept q_s1_held k_s1_held g_s1_held q_s1_live k_s1_live g_s1_live q_s1_kept k_s1_kept g_s1_kept) H := hP
          have hD : va_D A (wk_26 a_t a_k q_t_bytes f13976 a_k k_count q_k_names q_k_fields q_k_sorts q_k_names k_k_names g_k_names q_k_fields k_k_fields g_k_fields q_k_sorts k_k_sorts g_k_sorts q_t_bytes k_t_bytes g13977 a_s1 s1_words s1_limit s1_method q_s1_held s1_going s1_done q_s1_live s1_liveCount s1_blocks s1_cells s1_clearedWeak s1_ended s1_keptCount q_s1_kept q_s1_held k_s1_held g_s1_held q_s1_live k_s1_live g_s1_live q_s1_kept k_s1_kept g_s1_kept) := hD
          have hPc := hP.sub (ws' := (wk_25 a_t a_k q_t_bytes f13976 a_k k_count q_k_names q_k_fields q_k_sorts q_k_names k_k_names g_k_names q_k_fields k_k_fields g_k_fields q_k_sorts k_k_sorts g_k_sorts q_t_bytes k_t_bytes g13977)) [0, 1, 2, 3, 4, 5] rfl
          have hDc := hD.sub (ws' := (wk_25 a_t a_k q_t_bytes f13976 a_k k_count q_k_names q_k_fields q_k_sorts q_k_names k_k_names g_k_names q_k_fields k_k_fields g_k_fields q_k_sorts k_k_sorts g_k_sorts q_t_bytes k_t_bytes g13977)) [0, 1, 2, 3, 4, 5] (by decide) rfl
          have hKc := hK.sub (tys' := [(k_t_bytes, .int), (k_k_names, .long), (k_k_fields, .int), (k_k_sorts, .int)]) [0, 1, 2, 3] rfl
          have hFc := va_free (wc := (wk_25 a_t a_k q_t_bytes f13976 a_k k_count q_k_names q_k_fields q_k_sorts q_k_names k_k_names g_k_names q_k_fields k_k_fields g_k_fields q_k_sorts k_k_sorts g_k_sorts q_t_bytes k_t_bytes g13977)) hD hS hA [0, 1, 2, 3, 4, 5] rfl
          refine va_callv (va_runV (As := [.int (iZ z14188)]) (rest := []) ⟨hx, hb, hml, hown, hts⟩ (z_X3_writeHeld l dC dI a_t z14188 a_k q_t_bytes f13976 k_count q_k_names q_k_fields q_k_sorts k_k_names g_k_names k_k_fields g_k_fields k_k_sorts g_k_sorts k_t_bytes g13977 H.size hb_g13977 (by omega) (by omega) hb_g_k_fields hb_g_k_sorts (by omega) (by omega)) (cwV 1 hts (gV q_1271 q_1272 q_1273 q_340 q_1274) rfl rfl rfl mdv_yX3_writeHeld ⟨Nat.le_of_ble_eq_true rfl, Nat.le_of_ble_eq_true rfl⟩) ⟨fun a U g mk q => by obtain ⟨q0, q1, qP, qK, qD, qN⟩ := q; exact ⟨q0, q1, qP, va_K.moved (u := U) (U := U.calling g mk a) (Vm.Alike.refl U.vm) qK, qD, nwAll_same (u := U) (U := U.calling g mk a) rfl qN⟩, va_recv hKc hPc (ci := 3) (q0 := 0) rfl rfl, fun U hU hW => ⟨rfl, by rw [hU], by rw [hU]; exact hPc, va_K.moved hW.alike hKc, hDc.weaken (fun _ _ _ _ => trivial), nwAll_warm hW hN⟩⟩ rfl rfl hl.1 rfl (lv_room (Nat.le_of_ble_eq_true rfl)) dX3_write_54 ⟨Nat.le_of_ble_eq_true rfl, Nat.le_of_ble_eq_true rfl⟩) hS (fun q _ h => hFc q h) hFc (fun u t H1 locs ht hvm hw hB hz1 hk1 hS => ?_)
          obtain ⟨g14194, hb_14195, hP1, hK1, hD1⟩ := hB
          rw [ht] at hP1
          obtain ⟨hP, hD⟩ := va_join (wr := (wk_1 a_s1 s1_words s1_limit s1_method q_s1_held s1_going s1_done q_s1_live s1_liveCount s1_blocks s1_cells s1_clearedWeak s1_ended s1_keptCount q_s1_kept q_s1_held k_s1_held g_s1_held q_s1_live k_s1_live g_s1_live q_s1_kept k_s1_kept g_s1_kept)) (w1 := (wk_25 a_t a_k q_t_bytes (f13976 + 3) a_k k_count q_k_names q_k_fields q_k_sorts q_k_names k_k_names g_k_names q_k_fields k_k_fields g_k_fields q_k_sorts k_k_sorts g_k_sorts q_t_bytes k_t_bytes g14194)) hP hD [0, 1, 2, 3, 4, 5] [6, 7, 8, 9] rfl rfl (by decide) (by decide) hk1 hFc hP1 hD1
          generalize H1 = H at hP hS ⊢
          have hP : va_P (dC, dI) vwCl (wk_26 a_t a_k q_t_bytes (f13976 + 3) a_k k_count q_k_names q_k_fields q_k_sorts q_k_names k_k_names g_k_names q_k_fields k_k_fields g_k_fields q_k_sorts k_k_sorts g_k_sorts q_t_bytes k_t_bytes g14194 a_s1 s1_words s1_limit s1_method q_s1_held s1_going s1_done q_s1_live s1_liveCount s1_blocks s1_cells s1_clearedWeak s1_ended s1_keptCount q_s1_kept q_s1_held k_s1_held g_s1_held q_s1_live k_s1_live g_s1_live q_s1_kept k_s1_kept g_s1_kept) H := hP.sub (ws' := (wk_26 a_t a_k q_t_bytes (f13976 + 3) a_k k_count q_k_names q_k_fields q_k_sorts q_k_names k_k_names g_k_names q_k_fields k_k_fields g_k_fields q_k_sorts k_k_sorts g_k_sorts q_t_bytes k_t_bytes g14194 a_s1 s1_words s1_limit s1_method q_s1_held s1_going s1_done q_s1_live s1_liveCount s1_blocks s1_cells s1_clearedWeak s1_ended s1_keptCount q_s1_kept q_s1_held k_s1_held g_s1_held q_s1_live k_s1_live g_s1_live q_s1_kept k_s1_kept g_s1_kept)) [4, 5, 6, 7, 8, 9, 0, 1, 2, 3] rfl
          have hD : va_D A (wk_26 a_t a_k q_t_bytes (f13976 + 3) a_k k_count q_k_names q_k_fields q_k_sorts q_k_names k_k_names g_k_names q_k_fields k_k_fields g_k_fields q_k_sorts k_k_sorts g_k_sorts q_t_bytes k_t_bytes g14194 a_s1 s1_words s1_limit s1_method q_s1_held s1_going s1_done q_s1_live s1_liveCount s1_blocks s1_cells s1_clearedWeak s1_ended s1_keptCount q_s1_kept q_s1_held k_s1_held g_s1_held q_s1_live k_s1_live g_s1_live q_s1_kept k_s1_kept g_s1_kept) := hD.sub (ws' := (wk_26 a_t a_k q_t_bytes (f13976 + 3) a_k k_count q_k_names q_k_fields q_k_sorts q_k_names k_k_names g_k_names q_k_fields k_k_fields g_k_fields q_k_sorts k_k_sorts g_k_sorts q_t_bytes k_t_bytes g14194 a_s1 s1_words s1_limit s1_method q_s1_held s1_going s1_done q_s1_live s1_liveCount s1_blocks s1_cells s1_clearedWeak s1_ended s1_keptCount q_s1_kept q_s1_held k_s1_held g_s1_held q_s1_live k_s1_live g_s1_live q_s1_kept k_s1_kept g_s1_kept)) [4, 5, 6, 7, 8, 9, 0, 1, 2, 3] (by decide) rfl
          refine lv_iinc (v := iZ (i13978 + 1)) (lv' := [(2, .int (iZ (i13978 + 1))), (0, .ref a_t), (1, .ref a_s1)]) hx hb dX3_write_57 hl (k := 2) rfl (iZ_inc (by omega)) (by decide) rfl (fun ls hl => ?_)
          refine lv_goto (tgt := 28) hx hb dX3_write_60 (by decide) ?_
          exact ih_28 (N28 - 1) (by omega) _ _ _ (f13976 + 3) (i13978 + 1) g14194 (by omega) (by omega) (by omega) hb_14195 (by omega) hP hD hS (lv_sub hl [1, 2, 0] rfl)
        · refine lv_iload_n hx hb dX3_write_40 rfl (lv_at hl 2 rfl) ?_
          refine lv_aload_n hx hb dX3_write_41 rfl (lv_at hl 1 rfl) ?_
          refine va_get (D := (dC, dI)) (ci := 8) (v := .int (iZ s1_limit)) (C := RX8) (T := TX8) (N := 14) hx hb hts i_X8 hown hK hP 6 rfl rfl 1 (by decide) (hts _ q_1245) (fun _ h9 => h9) rfl dX3_write_42 ?_
          refine zv_icmp_lt (tgt := 57) hx hb dX3_write_45 (by decide) (by omega) (by omega) (fun c14196 => ?_) (fun c14196 => ?_)
          · refine lv_iinc (v := iZ (i13978 + 1)) (lv' := [(2, .int (iZ (i13978 + 1))), (0, .ref a_t), (1, .ref a_s1)]) hx hb dX3_write_57 hl (k := 2) rfl (iZ_inc (by omega)) (by decide) rfl (fun ls hl => ?_)
            refine lv_goto (tgt := 28) hx hb dX3_write_60 (by decide) ?_
            exact ih_28 (N28 - 1) (by omega) _ _ _ f13976 (i13978 + 1) g13977 (by omega) (by omega) (by omega) hb_g13977 (by omega) hP hD hS (lv_sub hl [1, 2, 0] rfl)
          · refine lv_aload_n hx hb dX3_write_48 rfl (lv_at hl 0 rfl) ?_
            refine lv_aload_n hx hb dX3_write_49 rfl (lv_at hl 1 rfl) ?_
            refine lv_iload_n hx hb dX3_write_50 rfl (lv_at hl 2 rfl) ?_
            have hPc := hP.sub (ws' := (wk_1 a_s1 s1_words s1_limit s1_method q_s1_held s1_going s1_done q_s1_live s1_liveCount s1_blocks s1_cells s1_clearedWeak s1_ended s1_keptCount q_s1_kept q_s1_held k_s1_held g_s1_held q_s1_live k_s1_live g_s1_live q_s1_kept k_s1_kept g_s1_kept)) [6, 7, 8, 9] rfl
            have hDc := hD.sub (ws' := (wk_1 a_s1 s1_words s1_limit s1_method q_s1_held s1_going s1_done q_s1_live s1_liveCount s1_blocks s1_cells s1_clearedWeak s1_ended s1_keptCount q_s1_kept q_s1_held k_s1_held g_s1_held q_s1_live k_s1_live g_s1_live q_s1_kept k_s1_kept g_s1_kept)) [6, 7, 8, 9] (by decide) rfl
            have hKc := hK.sub (tys' := [(k_s1_held, .int), (k_s1_live, .int), (k_s1_kept, .int)]) [4, 5, 6] rfl
            have hFc := va_free (wc := (wk_1 a_s1 s1_words s1_limit s1_method q_s1_held s1_going s1_done q_s1_live s1_liveCount s1_blocks s1_cells s1_clearedWeak s1_ended s1_keptCount q_s1_kept q_s1_held k_s1_held g_s1_held q_s1_live k_s1_live g_s1_live q_s1_kept k_s1_kept g_s1_kept)) hD hS hA [6, 7, 8, 9] rfl
            refine va_calli (va_runV (As := [.int (iZ i13978)]) (rest := [.ref a_t]) ⟨hx, hb, hml, hown, hts⟩ (z_X8_at l dC dI a_s1 i13978 s1_words s1_limit s1_method q_s1_held s1_going s1_done q_s1_live s1_liveCount s1_blocks s1_cells s1_clearedWeak s1_ended s1_keptCount q_s1_kept k_s1_held g_s1_held k_s1_live g_s1_live k_s1_kept g_s1_kept H.size (by omega) (by omega) (by omega) hb_g_s1_held (by omega) (by omega) hb_g_s1_live (by omega) (by omega) (by omega) (by omega) (by omega) (by omega) (by omega)) (cwV 1 hts (gV q_1247 q_78 q_79 q_80 q_81) rfl rfl rfl mdv_yX8_at ⟨Nat.le_of_ble_eq_true rfl, Nat.le_of_ble_eq_true rfl⟩) ⟨fun a U g mk q => by obtain ⟨q0, q1, qP, qK, qD, qN⟩ := q; exact ⟨q0, q1, qP, va_K.moved (u := U) (U := U.calling g mk a) (Vm.Alike.refl U.vm) qK, qD, nwAll_same (u := U) (U := U.calling g mk a) rfl qN⟩, va_recv hKc hPc (ci := 8) (q0 := 0) rfl rfl, fun U hU hW => ⟨rfl, by rw [hU], by rw [hU]; exact hPc, va_K.moved hW.alike hKc, hDc.weaken (fun _ _ _ _ => trivial), nwAll_warm hW hN⟩⟩ rfl rfl hl.1 rfl (lv_room (Nat.le_of_ble_eq_true rfl)) dX3_write_51 ⟨Nat.le_of_ble_eq_true rfl, Nat.le_of_ble_eq_true rfl⟩) hS (fun q _ h => hFc q h) hFc (fun r14197 z14198 t H1 locs ht hvm hw hB hz1 hk1 hS => ?_)
            obtain ⟨rfl, h14199, h14200, h14201⟩ := hw
            obtain ⟨hP1, hK1, hD1⟩ := hB
            rw [ht] at hP1
            obtain ⟨hP, hD⟩ := va_join (wr := (wk_25 a_t a_k q_t_bytes f13976 a_k k_count q_k_names q_k_fields q_k_sorts q_k_names k_k_names g_k_names q_k_fields k_k_fields g_k_fields q_k_sorts k_k_sorts g_k_sorts q_t_bytes k_t_bytes g13977)) (w1 := (wk_1 a_s1 s1_words s1_limit s1_method q_s1_held s1_going s1_done q_s1_live s1_liveCount s1_blocks s1_cells s1_clearedWeak s1_ended s1_keptCount q_s1_kept q_s1_held k_s1_held g_s1_held q_s1_live k_s1_live g_s1_live q_s1_kept k_s1_kept g_s1_kept)) hP hD [6, 7, 8, 9] [0, 1, 2, 3, 4, 5] rfl rfl (by decide) (by decide) hk1 hFc hP1 hD1
            generalize H1 = H at hP hS ⊢
            have hP : va_P (dC, dI) vwCl (wk_26 a_t a_k q_t_bytes f13976 a_k k_count q_k_names q_k_fields q_k_sorts q_k_names k_k_names g_k_names q_k_fields k_k_fields g_k_fields q_k_sorts k_k_sorts g_k_sorts q_t_bytes k_t_bytes g13977 a_s1 s1_words s1_limit s1_method q_s1_held s1_going s1_done q_s1_live s1_liveCount s1_blocks s1_cells s1_clearedWeak s1_ended s1_keptCount q_s1_kept q_s1_held k_s1_held g_s1_held q_s1_live k_s1_live g_s1_live q_s1_kept k_s1_kept g_s1_kept) H := hP
            have hD : va_D A (wk_26 a_t a_k q_t_bytes f13976 a_k k_count q_k_names q_k_fields q_k_sorts q_k_names k_k_names g_k_names q_k_fields k_k_fields g_k_fields q_k_sorts k_k_sorts g_k_sorts q_t_bytes k_t_bytes g13977 a_s1 s1_words s1_limit s1_method q_s1_held s1_going s1_done q_s1_live s1_liveCount s1_blocks s1_cells s1_clearedWeak s1_ended s1_keptCount q_s1_kept q_s1_held k_s1_held g_s1_held q_s1_live k_s1_live g_s1_live q_s1_kept k_s1_kept g_s1_kept) := hD
            have hPc := hP.sub (ws' := (wk_25 a_t a_k q_t_bytes f13976 a_k k_count q_k_names q_k_fields q_k_sorts q_k_names k_k_names g_k_names q_k_fields k_k_fields g_k_fields q_k_sorts k_k_sorts g_k_sorts q_t_bytes k_t_bytes g13977)) [0, 1, 2, 3, 4, 5] rfl
            have hDc := hD.sub (ws' := (wk_25 a_t a_k q_t_bytes f13976 a_k k_count q_k_names q_k_fields q_k_sorts q_k_names k_k_names g_k_names q_k_fields k_k_fields g_k_fields q_k_sorts k_k_sorts g_k_sorts q_t_bytes k_t_bytes g13977)) [0, 1, 2, 3, 4, 5] (by decide) rfl
            have hKc := hK.sub (tys' := [(k_t_bytes, .int), (k_k_names, .long), (k_k_fields, .int), (k_k_sorts, .int)]) [0, 1, 2, 3] rfl
            have hFc := va_free (wc := (wk_25 a_t a_k q_t_bytes f13976 a_k k_count q_k_names q_k_fields q_k_sorts q_k_names k_k_names g_k_names q_k_fields k_k_fields g_k_fields q_k_sorts k_k_sorts g_k_sorts q_t_bytes k_t_bytes g13977)) hD hS hA [0, 1, 2, 3, 4, 5] rfl
            refine va_callv (va_runV (As := [.int (iZ z14198)]) (rest := []) ⟨hx, hb, hml, hown, hts⟩ (z_X3_writeHeld l dC dI a_t z14198 a_k q_t_bytes f13976 k_count q_k_names q_k_fields q_k_sorts k_k_names g_k_names k_k_fields g_k_fields k_k_sorts g_k_sorts k_t_bytes g13977 H.size hb_g13977 (by omega) (by omega) hb_g_k_fields hb_g_k_sorts (by omega) (by omega)) (cwV 1 hts (gV q_1271 q_1272 q_1273 q_340 q_1274) rfl rfl rfl mdv_yX3_writeHeld ⟨Nat.le_of_ble_eq_true rfl, Nat.le_of_ble_eq_true rfl⟩) ⟨fun a U g mk q => by obtain ⟨q0, q1, qP, qK, qD, qN⟩ := q; exact ⟨q0, q1, qP, va_K.moved (u := U) (U := U.calling g mk a) (Vm.Alike.refl U.vm) qK, qD, nwAll_same (u := U) (U := U.calling g mk a) rfl qN⟩, va_recv hKc hPc (ci := 3) (q0 := 0) rfl rfl, fun U hU hW => ⟨rfl, by rw [hU], by rw [hU]; exact hPc, va_K.moved hW.alike hKc, hDc.weaken (fun _ _ _ _ => trivial), nwAll_warm hW hN⟩⟩ rfl rfl hl.1 rfl (lv_room (Nat.le_of_ble_eq_true rfl)) dX3_write_54 ⟨Nat.le_of_ble_eq_true rfl, Nat.le_of_ble_eq_true rfl⟩) hS (fun q _ h => hFc q h) hFc (fun u t H1 locs ht hvm hw hB hz1 hk1 hS => ?_)
            obtain ⟨g14204, hb_14205, hP1, hK1, hD1⟩ := hB
            rw [ht] at hP1
            obtain ⟨hP, hD⟩ := va_join (wr := (wk_1 a_s1 s1_words s1_limit s1_method q_s1_held s1_going s1_done q_s1_live s1_liveCount s1_blocks s1_cells s1_clearedWeak s1_ended s1_keptCount q_s1_kept q_s1_held k_s1_held g_s1_held q_s1_live k_s1_live g_s1_live q_s1_kept k_s1_kept g_s1_kept)) (w1 := (wk_25 a_t a_k q_t_bytes (f13976 + 3) a_k k_count q_k_names q_k_fields q_k_sorts q_k_names k_k_names g_k_names q_k_fields k_k_fields g_k_fields q_k_sorts k_k_sorts g_k_sorts q_t_bytes k_t_bytes g14204)) hP hD [0, 1, 2, 3, 4, 5] [6, 7, 8, 9] rfl rfl (by decide) (by decide) hk1 hFc hP1 hD1
            generalize H1 = H at hP hS ⊢
            have hP : va_P (dC, dI) vwCl (wk_26 a_t a_k q_t_bytes (f13976 + 3) a_k k_count q_k_names q_k_fields q_k_sorts q_k_names k_k_names g_k_names q_k_fields k_k_fields g_k_fields q_k_sorts k_k_sorts g_k_sorts q_t_bytes k_t_bytes g14204 a_s1 s1_words s1_limit s1_method q_s1_held s1_going s1_done q_s1_live s1_liveCount s1_blocks s1_cells s1_clearedWeak s1_ended s1_keptCount q_s1_kept q_s1_held k_s1_held g_s1_held q_s1_live k_s1_live g_s1_live q_s1_kept k_s1_kept g_s1_kept) H := hP.sub (ws' := (wk_26 a_t a_k q_t_bytes (f13976 + 3) a_k k_count q_k_names q_k_fields q_k_sorts q_k_names k_k_names g_k_names q_k_fields k_k_fields g_k_fields q_k_sorts k_k_sorts g_k_sorts q_t_bytes k_t_bytes g14204 a_s1 s1_words s1_limit s1_method q_s1_held s1_going s1_done q_s1_live s1_liveCount s1_blocks s1_cells s1_clearedWeak s1_ended s1_keptCount q_s1_kept q_s1_held k_s1_held g_s1_held q_s1_live k_s1_live g_s1_live q_s1_kept k_s1_kept g_s1_kept)) [4, 5, 6, 7, 8, 9, 0, 1, 2, 3] rfl
            have hD : va_D A (wk_26 a_t a_k q_t_bytes (f13976 + 3) a_k k_count q_k_names q_k_fields q_k_sorts q_k_names k_k_names g_k_names q_k_fields k_k_fields g_k_fields q_k_sorts k_k_sorts g_k_sorts q_t_bytes k_t_bytes g14204 a_s1 s1_words s1_limit s1_method q_s1_held s1_going s1_done q_s1_live s1_liveCount s1_blocks s1_cells s1_clearedWeak s1_ended s1_keptCount q_s1_kept q_s1_held k_s1_held g_s1_held q_s1_live k_s1_live g_s1_live q_s1_kept k_s1_kept g_s1_kept) := hD.sub (ws' := (wk_26 a_t a_k q_t_bytes (f13976 + 3) a_k k_count q_k_names q_k_fields q_k_sorts q_k_names k_k_names g_k_names q_k_fields k_k_fields g_k_fields q_k_sorts k_k_sorts g_k_sorts q_t_bytes k_t_bytes g14204 a_s1 s1_words s1_limit s1_method q_s1_held s1_going s1_done q_s1_live s1_liveCount s1_blocks s1_cells s1_clearedWeak s1_ended s1_keptCount q_s1_kept q_s1_held k_s1_held g_s1_held q_s1_live k_s1_live g_s1_live q_s1_kept k_s1_kept g_s1_kept)) [4, 5, 6, 7, 8, 9, 0, 1, 2, 3] (by decide) rfl
            refine lv_iinc (v := iZ (i13978 + 1)) (lv' := [(2, .int (iZ (i13978 + 1))), (0, .ref a_t), (1, .ref a_s1)]) hx hb dX3_write_57 hl (k := 2) rfl (iZ_inc (by omega)) (by decide) rfl (fun ls hl => ?_)
            refine lv_goto (tgt := 28) hx hb dX3_write_60 (by decide) ?_
            exact ih_28 (N28 - 1) (by omega) _ _ _ (f13976 + 3) (i13978 + 1) g14204 (by omega) (by omega) (by omega) hb_14205 (by omega) hP hD hS (lv_sub hl [1, 2, 0] rfl)
  exact lp_28 ((s1_words + 8 : Int)).toNat _ _ _ 2 (-8) (updI (updI g_t_bytes (0 : Int).toNat s1_method) (1 : Int).toNat s1_limit) (by omega) (by omega) (by omega) hb_g13964 (by omega) hP hD hS (lv_sub hl [1, 2, 0] rfl)
