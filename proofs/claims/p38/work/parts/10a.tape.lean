set_option maxHeartbeats 4000000 in
set_option maxRecDepth 100000 in
theorem z_X10_isDigit (l : Launch) (dC : Nat → ClassId) (dI : Nat → Nat → Nat) (p1 : Int) (sz : Nat) (b_p1 : -2147483648 ≤ p1 ∧ p1 ≤ 2147483647) : Met l yX10_isDigit (Cond.code yX10_isDigit cX10_isDigit 1 (some .boolean) :: wA) ({ frames := 0, cells := 0, slots := 0, locals := 0 }) (va_Pc [.int (iZ p1)] (fun U => U.heap.size = sz ∧ va_P (dC, dI) vwCl [] U.heap ∧ va_K (dC, dI) vwCl [] U ∧ va_D (fun _ => True) [] ∧ nwAll U)) (va_Qi (fun (r : Int32) (zR : Int) => r = iZ zR ∧ (0 ≤ zR ∧ zR ≤ 1) ∧ (zR = 0 ∨ (48 ≤ p1 ∧ p1 ≤ 57))) (fun zR t => va_P (dC, dI) vwCl [] t.heap ∧ va_K (dC, dI) vwCl [] t ∧ va_D (va_A [] sz) []) (va_A [] sz)) 0 0 (va_A [] sz) := by
  refine Met.ofW (cc := cX10_isDigit) (maxL := 1) (ret := (some .boolean)) (by decide) rfl ?_
  intro p e s m args below meth c s₁ B hml hv
  obtain ⟨rfl, hsz, hP, hK, hD0, hN⟩ := hv
  have hx := B.exec
  have hb := B.bytes
  have hr := B.returns
  have hts : ∀ w ∈ wA, w.before [.int (iZ p1)].toArray s = true := fun w h => atoms_spec (ws := Cond.code yX10_isDigit cX10_isDigit 1 (some .boolean) :: wA) B.pre w (List.mem_cons_of_mem _ h)
  have hown : s.vm.findClass RX10 = some m.cls := findClass_of_methodNamed B.named
  have hlocks := B.notSynchronized
  subst hsz
  have hD := hD0.self (sz := s.heap.size)
  generalize hQ : MQ below (va_Qi (fun (r : Int32) (zR : Int) => r = iZ zR ∧ (0 ≤ zR ∧ zR ≤ 1) ∧ (zR = 0 ∨ (48 ≤ p1 ∧ p1 ≤ 57))) (fun zR t => va_P (dC, dI) vwCl [] t.heap ∧ va_K (dC, dI) vwCl [] t ∧ va_D (va_A [] s.heap.size) []) (va_A [] s.heap.size)) [.int (iZ p1)].toArray s 0 0 (va_A [] s.heap.size) = Q
  have hA : ∀ q : Nat, s.heap.size ≤ q → va_A [] s.heap.size q := fun q h => Or.inr h
  generalize hAe : va_A [] s.heap.size = A at hD hA hQ
  have hS : va_S A s.heap s.heap [] := va_S.rf
  have hl := lv_entry ([.int (iZ p1)]) (n := 1) (Nat.le_of_ble_eq_true rfl)
  rw [lg_entry_eq]
  generalize (lg_sl ([.int (iZ p1)]) ++ List.replicate (1 - (lg_sl ([.int (iZ p1)])).length) Slot.unset).toArray = ls at hl ⊢
  have hl : lv_has ls 1 [(0, .int (iZ p1))] := hl
  refine lv_iload_n hx hb dX10_isDigit_0 rfl (lv_at hl 0 rfl) ?_
  refine lv_bipush (v := iZ 48) hx hb dX10_isDigit_1 (by decide) ?_
  refine zv_icmp_lt (tgt := 16) hx hb dX10_isDigit_3 (by decide) (by omega) (by omega) (fun c3 => ?_) (fun c3 => ?_)
  · refine lv_iconst (v := iZ 0) hx hb dX10_isDigit_16 (by decide) ?_
    subst hQ
    exact W.zret (v := iZ 0) hx hb hr rfl (fun t ht hW => ⟨⟨iZ 0, 0, rfl, ⟨rfl, by omega, by omega⟩, by rw [ht]; exact hP, va_K.moved hW.alike hK, hD⟩, hS.F ht⟩) hS.2.2 dX10_isDigit_17
  · refine lv_iload_n hx hb dX10_isDigit_6 rfl (lv_at hl 0 rfl) ?_
    refine lv_bipush (v := iZ 57) hx hb dX10_isDigit_7 (by decide) ?_
    refine zv_icmp_gt (tgt := 16) hx hb dX10_isDigit_9 (by decide) (by omega) (by omega) (fun c4 => ?_) (fun c4 => ?_)
    · refine lv_iconst (v := iZ 0) hx hb dX10_isDigit_16 (by decide) ?_
      subst hQ
      exact W.zret (v := iZ 0) hx hb hr rfl (fun t ht hW => ⟨⟨iZ 0, 0, rfl, ⟨rfl, by omega, by omega⟩, by rw [ht]; exact hP, va_K.moved hW.alike hK, hD⟩, hS.F ht⟩) hS.2.2 dX10_isDigit_17
    · refine lv_iconst (v := iZ 1) hx hb dX10_isDigit_12 (by decide) ?_
      refine lv_goto (tgt := 17) hx hb dX10_isDigit_13 (by decide) ?_
      subst hQ
      exact W.zret (v := iZ 1) hx hb hr rfl (fun t ht hW => ⟨⟨iZ 1, 1, rfl, ⟨rfl, by omega, by omega⟩, by rw [ht]; exact hP, va_K.moved hW.alike hK, hD⟩, hS.F ht⟩) hS.2.2 dX10_isDigit_17
set_option maxHeartbeats 4000000 in
set_option maxRecDepth 100000 in
theorem z_X10_isLetter (l : Launch) (dC : Nat → ClassId) (dI : Nat → Nat → Nat) (p1 : Int) (sz : Nat) (b_p1 : -2147483648 ≤ p1 ∧ p1 ≤ 2147483647) : Met l yX10_isLetter (Cond.code yX10_isLetter cX10_isLetter 1 (some .boolean) :: wA) ({ frames := 0, cells := 0, slots := 0, locals := 0 }) (va_Pc [.int (iZ p1)] (fun U => U.heap.size = sz ∧ va_P (dC, dI) vwCl [] U.heap ∧ va_K (dC, dI) vwCl [] U ∧ va_D (fun _ => True) [] ∧ nwAll U)) (va_Qi (fun (r : Int32) (zR : Int) => r = iZ zR ∧ (0 ≤ zR ∧ zR ≤ 1) ∧ (zR = 0 ∨ 65 ≤ p1)) (fun zR t => va_P (dC, dI) vwCl [] t.heap ∧ va_K (dC, dI) vwCl [] t ∧ va_D (va_A [] sz) []) (va_A [] sz)) 0 0 (va_A [] sz) := by
  refine Met.ofW (cc := cX10_isLetter) (maxL := 1) (ret := (some .boolean)) (by decide) rfl ?_
  intro p e s m args below meth c s₁ B hml hv
  obtain ⟨rfl, hsz, hP, hK, hD0, hN⟩ := hv
  have hx := B.exec
  have hb := B.bytes
  have hr := B.returns
  have hts : ∀ w ∈ wA, w.before [.int (iZ p1)].toArray s = true := fun w h => atoms_spec (ws := Cond.code yX10_isLetter cX10_isLetter 1 (some .boolean) :: wA) B.pre w (List.mem_cons_of_mem _ h)
  have hown : s.vm.findClass RX10 = some m.cls := findClass_of_methodNamed B.named
  have hlocks := B.notSynchronized
  subst hsz
  have hD := hD0.self (sz := s.heap.size)
  generalize hQ : MQ below (va_Qi (fun (r : Int32) (zR : Int) => r = iZ zR ∧ (0 ≤ zR ∧ zR ≤ 1) ∧ (zR = 0 ∨ 65 ≤ p1)) (fun zR t => va_P (dC, dI) vwCl [] t.heap ∧ va_K (dC, dI) vwCl [] t ∧ va_D (va_A [] s.heap.size) []) (va_A [] s.heap.size)) [.int (iZ p1)].toArray s 0 0 (va_A [] s.heap.size) = Q
  have hA : ∀ q : Nat, s.heap.size ≤ q → va_A [] s.heap.size q := fun q h => Or.inr h
  generalize hAe : va_A [] s.heap.size = A at hD hA hQ
  have hS : va_S A s.heap s.heap [] := va_S.rf
  have hl := lv_entry ([.int (iZ p1)]) (n := 1) (Nat.le_of_ble_eq_true rfl)
  rw [lg_entry_eq]
  generalize (lg_sl ([.int (iZ p1)]) ++ List.replicate (1 - (lg_sl ([.int (iZ p1)])).length) Slot.unset).toArray = ls at hl ⊢
  have hl : lv_has ls 1 [(0, .int (iZ p1))] := hl
  refine lv_iload_n hx hb dX10_isLetter_0 rfl (lv_at hl 0 rfl) ?_
  refine lv_bipush (v := iZ 97) hx hb dX10_isLetter_1 (by decide) ?_
  refine zv_icmp_lt (tgt := 12) hx hb dX10_isLetter_3 (by decide) (by omega) (by omega) (fun c11 => ?_) (fun c11 => ?_)
  · refine lv_iload_n hx hb dX10_isLetter_12 rfl (lv_at hl 0 rfl) ?_
    refine lv_bipush (v := iZ 65) hx hb dX10_isLetter_13 (by decide) ?_
    refine zv_icmp_lt (tgt := 28) hx hb dX10_isLetter_15 (by decide) (by omega) (by omega) (fun c12 => ?_) (fun c12 => ?_)
    · refine lv_iconst (v := iZ 0) hx hb dX10_isLetter_28 (by decide) ?_
      subst hQ
      exact W.zret (v := iZ 0) hx hb hr rfl (fun t ht hW => ⟨⟨iZ 0, 0, rfl, ⟨rfl, by omega, by omega⟩, by rw [ht]; exact hP, va_K.moved hW.alike hK, hD⟩, hS.F ht⟩) hS.2.2 dX10_isLetter_29
    · refine lv_iload_n hx hb dX10_isLetter_18 rfl (lv_at hl 0 rfl) ?_
      refine lv_bipush (v := iZ 90) hx hb dX10_isLetter_19 (by decide) ?_
      refine zv_icmp_gt (tgt := 28) hx hb dX10_isLetter_21 (by decide) (by omega) (by omega) (fun c13 => ?_) (fun c13 => ?_)
      · refine lv_iconst (v := iZ 0) hx hb dX10_isLetter_28 (by decide) ?_
        subst hQ
        exact W.zret (v := iZ 0) hx hb hr rfl (fun t ht hW => ⟨⟨iZ 0, 0, rfl, ⟨rfl, by omega, by omega⟩, by rw [ht]; exact hP, va_K.moved hW.alike hK, hD⟩, hS.F ht⟩) hS.2.2 dX10_isLetter_29
      · refine lv_iconst (v := iZ 1) hx hb dX10_isLetter_24 (by decide) ?_
        refine lv_goto (tgt := 29) hx hb dX10_isLetter_25 (by decide) ?_
        subst hQ
        exact W.zret (v := iZ 1) hx hb hr rfl (fun t ht hW => ⟨⟨iZ 1, 1, rfl, ⟨rfl, by omega, by omega⟩, by rw [ht]; exact hP, va_K.moved hW.alike hK, hD⟩, hS.F ht⟩) hS.2.2 dX10_isLetter_29
  · refine lv_iload_n hx hb dX10_isLetter_6 rfl (lv_at hl 0 rfl) ?_
    refine lv_bipush (v := iZ 122) hx hb dX10_isLetter_7 (by decide) ?_
    refine zv_icmp_le (tgt := 24) hx hb dX10_isLetter_9 (by decide) (by omega) (by omega) (fun c14 => ?_) (fun c14 => ?_)
    · refine lv_iconst (v := iZ 1) hx hb dX10_isLetter_24 (by decide) ?_
      refine lv_goto (tgt := 29) hx hb dX10_isLetter_25 (by decide) ?_
      subst hQ
      exact W.zret (v := iZ 1) hx hb hr rfl (fun t ht hW => ⟨⟨iZ 1, 1, rfl, ⟨rfl, by omega, by omega⟩, by rw [ht]; exact hP, va_K.moved hW.alike hK, hD⟩, hS.F ht⟩) hS.2.2 dX10_isLetter_29
    · refine lv_iload_n hx hb dX10_isLetter_12 rfl (lv_at hl 0 rfl) ?_
      refine lv_bipush (v := iZ 65) hx hb dX10_isLetter_13 (by decide) ?_
      refine zv_icmp_lt (tgt := 28) hx hb dX10_isLetter_15 (by decide) (by omega) (by omega) (fun c15 => (by omega : False).elim) (fun c15 => ?_)
      refine lv_iload_n hx hb dX10_isLetter_18 rfl (lv_at hl 0 rfl) ?_
      refine lv_bipush (v := iZ 90) hx hb dX10_isLetter_19 (by decide) ?_
      refine zv_icmp_gt (tgt := 28) hx hb dX10_isLetter_21 (by decide) (by omega) (by omega) (fun c16 => ?_) (fun c16 => (by omega : False).elim)
      refine lv_iconst (v := iZ 0) hx hb dX10_isLetter_28 (by decide) ?_
      subst hQ
      exact W.zret (v := iZ 0) hx hb hr rfl (fun t ht hW => ⟨⟨iZ 0, 0, rfl, ⟨rfl, by omega, by omega⟩, by rw [ht]; exact hP, va_K.moved hW.alike hK, hD⟩, hS.F ht⟩) hS.2.2 dX10_isLetter_29
def wk_0 (a0 : Nat) (x0_0 : Nat) (x0_1 : Int) (x0_2 : Int) (x0_3 : Int) (x0_4 : Int) (x0_5 : Int) (x0_6 : Int64) (x0_7 : Int) (x0_8 : Int) (x0_9 : Int) (a1 : Nat) (c1 : ClassId) (g1 : Nat → Int) : va_W := [(a0, .inr (10, [.ref x0_0, .int (iZ x0_1), .int (iZ x0_2), .int (iZ x0_3), .int (iZ x0_4), .int (iZ x0_5), .long x0_6, .int (iZ x0_7), .int (iZ x0_8), .int (iZ x0_9)])), (a1, .inl (c1, 1600, .inl (aZ g1)))]
set_option maxHeartbeats 4000000 in
set_option maxRecDepth 100000 in
theorem z_X10_rewind (l : Launch) (dC : Nat → ClassId) (dI : Nat → Nat → Nat) (a_t : Nat) (q_t_bytes : Nat) (t_length : Int) (t_at : Int) (t_tokenAt : Int) (t_tokenEnd : Int) (t_own : Int) (t_name : Int64) (t_number : Int) (t_fault : Int) (t_place : Int) (k_t_bytes : ClassId) (g_t_bytes : Nat → Int) (sz : Nat) (hb_g_t_bytes : ∀ j : Nat, j < 1600 → 0 ≤ g_t_bytes j ∧ g_t_bytes j ≤ 255) (b_t_length : 0 ≤ t_length ∧ t_length ≤ 1600) (b_t_at : 0 ≤ t_at ∧ t_at ≤ 1600) (b_t_tokenAt : 0 ≤ t_tokenAt ∧ t_tokenAt ≤ 1599) (b_t_tokenEnd : -1 ≤ t_tokenEnd ∧ t_tokenEnd ≤ 1600) (b_t_own : -1 ≤ t_own ∧ t_own ≤ 13) (b_t_number : -2147483648 ≤ t_number ∧ t_number ≤ 2147483647) (b_t_fault : -2147483648 ≤ t_fault ∧ t_fault ≤ 2147483647) (b_t_place : -2147483648 ≤ t_place ∧ t_place ≤ 2147483647) : Met l yX10_rewind (Cond.code yX10_rewind cX10_rewind 1 none :: wA) ({ frames := 0, cells := 0, slots := 0, locals := 0 }) (va_Pc [.ref a_t] (fun U => U.heap.size = sz ∧ va_P (dC, dI) vwCl (wk_0 a_t q_t_bytes t_length t_at t_tokenAt t_tokenEnd t_own t_name t_number t_fault t_place q_t_bytes k_t_bytes g_t_bytes) U.heap ∧ va_K (dC, dI) vwCl [(k_t_bytes, .int)] U ∧ va_D (fun _ => True) (wk_0 a_t q_t_bytes t_length t_at t_tokenAt t_tokenEnd t_own t_name t_number t_fault t_place q_t_bytes k_t_bytes g_t_bytes) ∧ nwAll U)) (va_Qv (fun (_ : Unit) => True) (fun _ t => va_P (dC, dI) vwCl (wk_0 a_t q_t_bytes t_length 0 t_tokenAt (-1) t_own t_name t_number 0 (-1) q_t_bytes k_t_bytes g_t_bytes) t.heap ∧ va_K (dC, dI) vwCl [(k_t_bytes, .int)] t ∧ va_D (va_A (wk_0 a_t q_t_bytes t_length t_at t_tokenAt t_tokenEnd t_own t_name t_number t_fault t_place q_t_bytes k_t_bytes g_t_bytes) sz) (wk_0 a_t q_t_bytes t_length 0 t_tokenAt (-1) t_own t_name t_number 0 (-1) q_t_bytes k_t_bytes g_t_bytes)) (va_A (wk_0 a_t q_t_bytes t_length t_at t_tokenAt t_tokenEnd t_own t_name t_number t_fault t_place q_t_bytes k_t_bytes g_t_bytes) sz)) 0 0 (va_A (wk_0 a_t q_t_bytes t_length t_at t_tokenAt t_tokenEnd t_own t_name t_number t_fault t_place q_t_bytes k_t_bytes g_t_bytes) sz) := by
  refine Met.ofW (cc := cX10_rewind) (maxL := 1) (ret := none) (by decide) rfl ?_
  intro p e s m args below meth c s₁ B hml hv
  obtain ⟨rfl, hsz, hP, hK, hD0, hN⟩ := hv
  have hx := B.exec
  have hb := B.bytes
  have hr := B.returns
  have hts : ∀ w ∈ wA, w.before [.ref a_t].toArray s = true := fun w h => atoms_spec (ws := Cond.code yX10_rewind cX10_rewind 1 none :: wA) B.pre w (List.mem_cons_of_mem _ h)
  have hown : s.vm.findClass RX10 = some m.cls := findClass_of_methodNamed B.named
  have hlocks := B.notSynchronized
  subst hsz
  have hD := hD0.self (sz := s.heap.size)
  generalize hQ : MQ below (va_Qv (fun (_ : Unit) => True) (fun _ t => va_P (dC, dI) vwCl (wk_0 a_t q_t_bytes t_length 0 t_tokenAt (-1) t_own t_name t_number 0 (-1) q_t_bytes k_t_bytes g_t_bytes) t.heap ∧ va_K (dC, dI) vwCl [(k_t_bytes, .int)] t ∧ va_D (va_A (wk_0 a_t q_t_bytes t_length t_at t_tokenAt t_tokenEnd t_own t_name t_number t_fault t_place q_t_bytes k_t_bytes g_t_bytes) s.heap.size) (wk_0 a_t q_t_bytes t_length 0 t_tokenAt (-1) t_own t_name t_number 0 (-1) q_t_bytes k_t_bytes g_t_bytes)) (va_A (wk_0 a_t q_t_bytes t_length t_at t_tokenAt t_tokenEnd t_own t_name t_number t_fault t_place q_t_bytes k_t_bytes g_t_bytes) s.heap.size)) [.ref a_t].toArray s 0 0 (va_A (wk_0 a_t q_t_bytes t_length t_at t_tokenAt t_tokenEnd t_own t_name t_number t_fault t_place q_t_bytes k_t_bytes g_t_bytes) s.heap.size) = Q
  have hA : ∀ q : Nat, s.heap.size ≤ q → va_A (wk_0 a_t q_t_bytes t_length t_at t_tokenAt t_tokenEnd t_own t_name t_number t_fault t_place q_t_bytes k_t_bytes g_t_bytes) s.heap.size q := fun q h => Or.inr h
  generalize hAe : va_A (wk_0 a_t q_t_bytes t_length t_at t_tokenAt t_tokenEnd t_own t_name t_number t_fault t_place q_t_bytes k_t_bytes g_t_bytes) s.heap.size = A at hD hA hQ
  have hS : va_S A s.heap s.heap [] := va_S.rf
  have hl := lv_entry ([.ref a_t]) (n := 1) (Nat.le_of_ble_eq_true rfl)
  rw [lg_entry_eq]
  generalize (lg_sl ([.ref a_t]) ++ List.replicate (1 - (lg_sl ([.ref a_t])).length) Slot.unset).toArray = ls at hl ⊢
  have hl : lv_has ls 1 [(0, .ref a_t)] := hl
  refine lv_aload_n hx hb dX10_rewind_0 rfl (lv_at hl 0 rfl) ?_
  refine lv_iconst (v := iZ 0) hx hb dX10_rewind_1 (by decide) ?_
  refine va_put (D := (dC, dI)) (ci := 10) (v := .int (iZ 0)) (ty := tyX10 2) (C := RX10) (T := TX10) (N := 10) hx hb hts i_X10 tyX10 tyX10_ok nmX10 hown hK hP hD hS 0 rfl rfl 2 (by decide) (hts _ q_122) (fun _ h9 => h9) rfl (tyX10_ok 2 (by decide)) rfl rfl (Nat.le_of_ble_eq_true rfl) dX10_rewind_2 (fun H locs hP hD hS => ?_)
  have hP : va_P (dC, dI) vwCl (wk_0 a_t q_t_bytes t_length 0 t_tokenAt t_tokenEnd t_own t_name t_number t_fault t_place q_t_bytes k_t_bytes g_t_bytes) H := hP
  have hD : va_D A (wk_0 a_t q_t_bytes t_length 0 t_tokenAt t_tokenEnd t_own t_name t_number t_fault t_place q_t_bytes k_t_bytes g_t_bytes) := hD
  refine lv_aload_n hx hb dX10_rewind_5 rfl (lv_at hl 0 rfl) ?_
  refine lv_iconst (v := iZ (-1)) hx hb dX10_rewind_6 (by decide) ?_
  refine va_put (D := (dC, dI)) (ci := 10) (v := .int (iZ (-1))) (ty := tyX10 4) (C := RX10) (T := TX10) (N := 10) hx hb hts i_X10 tyX10 tyX10_ok nmX10 hown hK hP hD hS 0 rfl rfl 4 (by decide) (hts _ q_124) (fun _ h9 => h9) rfl (tyX10_ok 4 (by decide)) rfl rfl (Nat.le_of_ble_eq_true rfl) dX10_rewind_7 (fun H locs hP hD hS => ?_)
  have hP : va_P (dC, dI) vwCl (wk_0 a_t q_t_bytes t_length 0 t_tokenAt (-1) t_own t_name t_number t_fault t_place q_t_bytes k_t_bytes g_t_bytes) H := hP
  have hD : va_D A (wk_0 a_t q_t_bytes t_length 0 t_tokenAt (-1) t_own t_name t_number t_fault t_place q_t_bytes k_t_bytes g_t_bytes) := hD
  refine lv_aload_n hx hb dX10_rewind_10 rfl (lv_at hl 0 rfl) ?_
  refine lv_iconst (v := iZ 0) hx hb dX10_rewind_11 (by decide) ?_
  refine va_put (D := (dC, dI)) (ci := 10) (v := .int (iZ 0)) (ty := tyX10 8) (C := RX10) (T := TX10) (N := 10) hx hb hts i_X10 tyX10 tyX10_ok nmX10 hown hK hP hD hS 0 rfl rfl 8 (by decide) (hts _ q_128) (fun _ h9 => h9) rfl (tyX10_ok 8 (by decide)) rfl rfl (Nat.le_of_ble_eq_true rfl) dX10_rewind_12 (fun H locs hP hD hS => ?_)
  have hP : va_P (dC, dI) vwCl (wk_0 a_t q_t_bytes t_length 0 t_tokenAt (-1) t_own t_name t_number 0 t_place q_t_bytes k_t_bytes g_t_bytes) H := hP
  have hD : va_D A (wk_0 a_t q_t_bytes t_length 0 t_tokenAt (-1) t_own t_name t_number 0 t_place q_t_bytes k_t_bytes g_t_bytes) := hD
  refine lv_aload_n hx hb dX10_rewind_15 rfl (lv_at hl 0 rfl) ?_
  refine lv_iconst (v := iZ (-1)) hx hb dX10_rewind_16 (by decide) ?_
  refine va_put (D := (dC, dI)) (ci := 10) (v := .int (iZ (-1))) (ty := tyX10 9) (C := RX10) (T := TX10) (N := 10) hx hb hts i_X10 tyX10 tyX10_ok nmX10 hown hK hP hD hS 0 rfl rfl 9 (by decide) (hts _ q_129) (fun _ h9 => h9) rfl (tyX10_ok 9 (by decide)) rfl rfl (Nat.le_of_ble_eq_true rfl) dX10_rewind_17 (fun H locs hP hD hS => ?_)
  have hP : va_P (dC, dI) vwCl (wk_0 a_t q_t_bytes t_length 0 t_tokenAt (-1) t_own t_name t_number 0 (-1) q_t_bytes k_t_bytes g_t_bytes) H := hP
  have hD : va_D A (wk_0 a_t q_t_bytes t_length 0 t_tokenAt (-1) t_own t_name t_number 0 (-1) q_t_bytes k_t_bytes g_t_bytes) := hD
  subst hQ
  exact W.vret hx hb hr (fun t ht hW => ⟨⟨(), rfl, trivial, by rw [ht]; exact hP, va_K.moved hW.alike hK, hD⟩, hS.F ht⟩) hS.2.2 dX10_rewind_20
set_option maxHeartbeats 4000000 in
set_option maxRecDepth 100000 in
theorem z_X10_wrong (l : Launch) (dC : Nat → ClassId) (dI : Nat → Nat → Nat) (a_t : Nat) (p1 : Int) (p2 : Int) (q_t_bytes : Nat) (t_length : Int) (t_at : Int) (t_tokenAt : Int) (t_tokenEnd : Int) (t_own : Int) (t_name : Int64) (t_number : Int) (t_fault : Int) (t_place : Int) (k_t_bytes : ClassId) (g_t_bytes : Nat → Int) (sz : Nat) (hb_g_t_bytes : ∀ j : Nat, j < 1600 → 0 ≤ g_t_bytes j ∧ g_t_bytes j ≤ 255) (b_t_length : 0 ≤ t_length ∧ t_length ≤ 1600) (b_t_at : 0 ≤ t_at ∧ t_at ≤ 1600) (b_t_tokenAt : 0 ≤ t_tokenAt ∧ t_tokenAt ≤ 1599) (b_t_tokenEnd : -1 ≤ t_tokenEnd ∧ t_tokenEnd ≤ 1600) (b_t_own : -1 ≤ t_own ∧ t_own ≤ 13) (b_t_number : -2147483648 ≤ t_number ∧ t_number ≤ 2147483647) (b_t_fault : -2147483648 ≤ t_fault ∧ t_fault ≤ 2147483647) (b_t_place : -2147483648 ≤ t_place ∧ t_place ≤ 2147483647) (b_p1 : -2147483648 ≤ p1 ∧ p1 ≤ 2147483647) (b_p2 : -2147483648 ≤ p2 ∧ p2 ≤ 2147483647) : Met l yX10_wrong (Cond.code yX10_wrong cX10_wrong 3 (some .boolean) :: wA) ({ frames := 0, cells := 0, slots := 0, locals := 0 }) (va_Pc [.ref a_t, .int (iZ p1), .int (iZ p2)] (fun U => U.heap.size = sz ∧ va_P (dC, dI) vwCl (wk_0 a_t q_t_bytes t_length t_at t_tokenAt t_tokenEnd t_own t_name t_number t_fault t_place q_t_bytes k_t_bytes g_t_bytes) U.heap ∧ va_K (dC, dI) vwCl [(k_t_bytes, .int)] U ∧ va_D (fun _ => True) (wk_0 a_t q_t_bytes t_length t_at t_tokenAt t_tokenEnd t_own t_name t_number t_fault t_place q_t_bytes k_t_bytes g_t_bytes) ∧ nwAll U)) (va_Qi (fun (r : Int32) (zR : Int) => r = iZ zR ∧ (0 ≤ zR ∧ zR ≤ 0)) (fun zR t => va_P (dC, dI) vwCl (wk_0 a_t q_t_bytes t_length t_at t_tokenAt t_tokenEnd t_own t_name t_number p1 p2 q_t_bytes k_t_bytes g_t_bytes) t.heap ∧ va_K (dC, dI) vwCl [(k_t_bytes, .int)] t ∧ va_D (va_A (wk_0 a_t q_t_bytes t_length t_at t_tokenAt t_tokenEnd t_own t_name t_number t_fault t_place q_t_bytes k_t_bytes g_t_bytes) sz) (wk_0 a_t q_t_bytes t_length t_at t_tokenAt t_tokenEnd t_own t_name t_number p1 p2 q_t_bytes k_t_bytes g_t_bytes)) (va_A (wk_0 a_t q_t_bytes t_length t_at t_tokenAt t_tokenEnd t_own t_name t_number t_fault t_place q_t_bytes k_t_bytes g_t_bytes) sz)) 0 0 (va_A (wk_0 a_t q_t_bytes t_length t_at t_tokenAt t_tokenEnd t_own t_name t_number t_fault t_place q_t_bytes k_t_bytes g_t_bytes) sz) := by
  refine Met.ofW (cc := cX10_wrong) (maxL := 3) (ret := (some .boolean)) (by decide) rfl ?_
  intro p e s m args below meth c s₁ B hml hv
  obtain ⟨rfl, hsz, hP, hK, hD0, hN⟩ := hv
  have hx := B.exec
  have hb := B.bytes
  have hr := B.returns
  have hts : ∀ w ∈ wA, w.before [.ref a_t, .int (iZ p1), .int (iZ p2)].toArray s = true := fun w h => atoms_spec (ws := Cond.code yX10_wrong cX10_wrong 3 (some .boolean) :: wA) B.pre w (List.mem_cons_of_mem _ h)
  have hown : s.vm.findClass RX10 = some m.cls := findClass_of_methodNamed B.named
  have hlocks := B.notSynchronized
  subst hsz
  have hD := hD0.self (sz := s.heap.size)
  generalize hQ : MQ below (va_Qi (fun (r : Int32) (zR : Int) => r = iZ zR ∧ (0 ≤ zR ∧ zR ≤ 0)) (fun zR t => va_P (dC, dI) vwCl (wk_0 a_t q_t_bytes t_length t_at t_tokenAt t_tokenEnd t_own t_name t_number p1 p2 q_t_bytes k_t_bytes g_t_bytes) t.heap ∧ va_K (dC, dI) vwCl [(k_t_bytes, .int)] t ∧ va_D (va_A (wk_0 a_t q_t_bytes t_length t_at t_tokenAt t_tokenEnd t_own t_name t_number t_fault t_place q_t_bytes k_t_bytes g_t_bytes) s.heap.size) (wk_0 a_t q_t_bytes t_length t_at t_tokenAt t_tokenEnd t_own t_name t_number p1 p2 q_t_bytes k_t_bytes g_t_bytes)) (va_A (wk_0 a_t q_t_bytes t_length t_at t_tokenAt t_tokenEnd t_own t_name t_number t_fault t_place q_t_bytes k_t_bytes g_t_bytes) s.heap.size)) [.ref a_t, .int (iZ p1), .int (iZ p2)].toArray s 0 0 (va_A (wk_0 a_t q_t_bytes t_length t_at t_tokenAt t_tokenEnd t_own t_name t_number t_fault t_place q_t_bytes k_t_bytes g_t_bytes) s.heap.size) = Q
  have hA : ∀ q : Nat, s.heap.size ≤ q → va_A (wk_0 a_t q_t_bytes t_length t_at t_tokenAt t_tokenEnd t_own t_name t_number t_fault t_place q_t_bytes k_t_bytes g_t_bytes) s.heap.size q := fun q h => Or.inr h
  generalize hAe : va_A (wk_0 a_t q_t_bytes t_length t_at t_tokenAt t_tokenEnd t_own t_name t_number t_fault t_place q_t_bytes k_t_bytes g_t_bytes) s.heap.size = A at hD hA hQ
  have hS : va_S A s.heap s.heap [] := va_S.rf
  have hl := lv_entry ([.ref a_t, .int (iZ p1), .int (iZ p2)]) (n := 3) (Nat.le_of_ble_eq_true rfl)
  rw [lg_entry_eq]
  generalize (lg_sl ([.ref a_t, .int (iZ p1), .int (iZ p2)]) ++ List.replicate (3 - (lg_sl ([.ref a_t, .int (iZ p1), .int (iZ p2)])).length) Slot.unset).toArray = ls at hl ⊢
  have hl : lv_has ls 3 [(0, .ref a_t), (1, .int (iZ p1)), (2, .int (iZ p2))] := hl
  refine lv_aload_n hx hb dX10_wrong_0 rfl (lv_at hl 0 rfl) ?_
  refine lv_iload_n hx hb dX10_wrong_1 rfl (lv_at hl 1 rfl) ?_
  refine va_put (D := (dC, dI)) (ci := 10) (v := .int (iZ p1)) (ty := tyX10 8) (C := RX10) (T := TX10) (N := 10) hx hb hts i_X10 tyX10 tyX10_ok nmX10 hown hK hP hD hS 0 rfl rfl 8 (by decide) (hts _ q_128) (fun _ h9 => h9) rfl (tyX10_ok 8 (by decide)) rfl rfl (Nat.le_of_ble_eq_true rfl) dX10_wrong_2 (fun H locs hP hD hS => ?_)
  have hP : va_P (dC, dI) vwCl (wk_0 a_t q_t_bytes t_length t_at t_tokenAt t_tokenEnd t_own t_name t_number p1 t_place q_t_bytes k_t_bytes g_t_bytes) H := hP
  have hD : va_D A (wk_0 a_t q_t_bytes t_length t_at t_tokenAt t_tokenEnd t_own t_name t_number p1 t_place q_t_bytes k_t_bytes g_t_bytes) := hD
  refine lv_aload_n hx hb dX10_wrong_5 rfl (lv_at hl 0 rfl) ?_
  refine lv_iload_n hx hb dX10_wrong_6 rfl (lv_at hl 2 rfl) ?_
  refine va_put (D := (dC, dI)) (ci := 10) (v := .int (iZ p2)) (ty := tyX10 9) (C := RX10) (T := TX10) (N := 10) hx hb hts i_X10 tyX10 tyX10_ok nmX10 hown hK hP hD hS 0 rfl rfl 9 (by decide) (hts _ q_129) (fun _ h9 => h9) rfl (tyX10_ok 9 (by decide)) rfl rfl (Nat.le_of_ble_eq_true rfl) dX10_wrong_7 (fun H locs hP hD hS => ?_)
  have hP : va_P (dC, dI) vwCl (wk_0 a_t q_t_bytes t_length t_at t_tokenAt t_tokenEnd t_own t_name t_number p1 p2 q_t_bytes k_t_bytes g_t_bytes) H := hP
  have hD : va_D A (wk_0 a_t q_t_bytes t_length t_at t_tokenAt t_tokenEnd t_own t_name t_number p1 p2 q_t_bytes k_t_bytes g_t_bytes) := hD
  refine lv_iconst (v := iZ 0) hx hb dX10_wrong_10 (by decide) ?_
  subst hQ
  exact W.zret (v := iZ 0) hx hb hr rfl (fun t ht hW => ⟨⟨iZ 0, 0, rfl, ⟨rfl, by omega⟩, by rw [ht]; exact hP, va_K.moved hW.alike hK, hD⟩, hS.F ht⟩) hS.2.2 dX10_wrong_11
set_option maxHeartbeats 4000000 in
set_option maxRecDepth 100000 in
theorem z_X10_peek (l : Launch) (dC : Nat → ClassId) (dI : Nat → Nat → Nat) (a_t : Nat) (q_t_bytes : Nat) (t_length : Int) (t_at : Int) (t_tokenAt : Int) (t_tokenEnd : Int) (t_own : Int) (t_name : Int64) (t_number : Int) (t_fault : Int) (t_place : Int) (k_t_bytes : ClassId) (g_t_bytes : Nat → Int) (sz : Nat) (hb_g_t_bytes : ∀ j : Nat, j < 1600 → 0 ≤ g_t_bytes j ∧ g_t_bytes j ≤ 255) (b_t_length : 0 ≤ t_length ∧ t_length ≤ 1600) (b_t_at : 0 ≤ t_at ∧ t_at ≤ 1600) (b_t_tokenAt : 0 ≤ t_tokenAt ∧ t_tokenAt ≤ 1599) (b_t_tokenEnd : -1 ≤ t_tokenEnd ∧ t_tokenEnd ≤ 1600) (b_t_own : -1 ≤ t_own ∧ t_own ≤ 13) (b_t_number : -2147483648 ≤ t_number ∧ t_number ≤ 2147483647) (b_t_fault : -2147483648 ≤ t_fault ∧ t_fault ≤ 2147483647) (b_t_place : -2147483648 ≤ t_place ∧ t_place ≤ 2147483647) : Met l yX10_peek (Cond.code yX10_peek cX10_peek 1 (some .int) :: wA) ({ frames := 0, cells := 0, slots := 0, locals := 0 }) (va_Pc [.ref a_t] (fun U => U.heap.size = sz ∧ va_P (dC, dI) vwCl (wk_0 a_t q_t_bytes t_length t_at t_tokenAt t_tokenEnd t_own t_name t_number t_fault t_place q_t_bytes k_t_bytes g_t_bytes) U.heap ∧ va_K (dC, dI) vwCl [(k_t_bytes, .int)] U ∧ va_D (fun _ => True) (wk_0 a_t q_t_bytes t_length t_at t_tokenAt t_tokenEnd t_own t_name t_number t_fault t_place q_t_bytes k_t_bytes g_t_bytes) ∧ nwAll U)) (va_Qi (fun (r : Int32) (zR : Int) => r = iZ zR ∧ (-1 ≤ zR ∧ zR ≤ 255)) (fun zR t => ∃ n_t_at : Int, (0 ≤ n_t_at ∧ n_t_at ≤ 1600) ∧ (zR = -1 ∨ n_t_at < t_length) ∧ va_P (dC, dI) vwCl (wk_0 a_t q_t_bytes t_length n_t_at t_tokenAt t_tokenEnd t_own t_name t_number t_fault t_place q_t_bytes k_t_bytes g_t_bytes) t.heap ∧ va_K (dC, dI) vwCl [(k_t_bytes, .int)] t ∧ va_D (va_A (wk_0 a_t q_t_bytes t_length t_at t_tokenAt t_tokenEnd t_own t_name t_number t_fault t_place q_t_bytes k_t_bytes g_t_bytes) sz) (wk_0 a_t q_t_bytes t_length n_t_at t_tokenAt t_tokenEnd t_own t_name t_number t_fault t_place q_t_bytes k_t_bytes g_t_bytes)) (va_A (wk_0 a_t q_t_bytes t_length t_at t_tokenAt t_tokenEnd t_own t_name t_number t_fault t_place q_t_bytes k_t_bytes g_t_bytes) sz)) 0 0 (va_A (wk_0 a_t q_t_bytes t_length t_at t_tokenAt t_tokenEnd t_own t_name t_number t_fault t_place q_t_bytes k_t_bytes g_t_bytes) sz) := by
  refine Met.ofW (cc := cX10_peek) (maxL := 1) (ret := (some .int)) (by decide) rfl ?_
  intro p e s m args below meth c s₁ B hml hv
  obtain ⟨rfl, hsz, hP, hK, hD0, hN⟩ := hv
  have hx := B.exec
  have hb := B.bytes
  have hr := B.returns
  have hts : ∀ w ∈ wA, w.before [.ref a_t].toArray s = true := fun w h => atoms_spec (ws := Cond.code yX10_peek cX10_peek 1 (some .int) :: wA) B.pre w (List.mem_cons_of_mem _ h)
  have hown : s.vm.findClass RX10 = some m.cls := findClass_of_methodNamed B.named
  have hlocks := B.notSynchronized
  subst hsz
  have hD := hD0.self (sz := s.heap.size)
  generalize hQ : MQ below (va_Qi (fun (r : Int32) (zR : Int) => r = iZ zR ∧ (-1 ≤ zR ∧ zR ≤ 255)) (fun zR t => ∃ n_t_at : Int, (0 ≤ n_t_at ∧ n_t_at ≤ 1600) ∧ (zR = -1 ∨ n_t_at < t_length) ∧ va_P (dC, dI) vwCl (wk_0 a_t q_t_bytes t_length n_t_at t_tokenAt t_tokenEnd t_own t_name t_number t_fault t_place q_t_bytes k_t_bytes g_t_bytes) t.heap ∧ va_K (dC, dI) vwCl [(k_t_bytes, .int)] t ∧ va_D (va_A (wk_0 a_t q_t_bytes t_length t_at t_tokenAt t_tokenEnd t_own t_name t_number t_fault t_place q_t_bytes k_t_bytes g_t_bytes) s.heap.size) (wk_0 a_t q_t_bytes t_length n_t_at t_tokenAt t_tokenEnd t_own t_name t_number t_fault t_place q_t_bytes k_t_bytes g_t_bytes)) (va_A (wk_0 a_t q_t_bytes t_length t_at t_tokenAt t_tokenEnd t_own t_name t_number t_fault t_place q_t_bytes k_t_bytes g_t_bytes) s.heap.size)) [.ref a_t].toArray s 0 0 (va_A (wk_0 a_t q_t_bytes t_length t_at t_tokenAt t_tokenEnd t_own t_name t_number t_fault t_place q_t_bytes k_t_bytes g_t_bytes) s.heap.size) = Q
  have hA : ∀ q : Nat, s.heap.size ≤ q → va_A (wk_0 a_t q_t_bytes t_length t_at t_tokenAt t_tokenEnd t_own t_name t_number t_fault t_place q_t_bytes k_t_bytes g_t_bytes) s.heap.size q := fun q h => Or.inr h
  generalize hAe : va_A (wk_0 a_t q_t_bytes t_length t_at t_tokenAt t_tokenEnd t_own t_name t_number t_fault t_place q_t_bytes k_t_bytes g_t_bytes) s.heap.size = A at hD hA hQ
  have hS : va_S A s.heap s.heap [] := va_S.rf
  have hl := lv_entry ([.ref a_t]) (n := 1) (Nat.le_of_ble_eq_true rfl)
  rw [lg_entry_eq]
  generalize (lg_sl ([.ref a_t]) ++ List.replicate (1 - (lg_sl ([.ref a_t])).length) Slot.unset).toArray = ls at hl ⊢
  have hl : lv_has ls 1 [(0, .ref a_t)] := hl
  have lp_0 : ∀ (N0 : Nat) (H : Heap) (locs : List Loc) (ls : Array Slot) (f53 : Int), 0 ≤ -f53 + 1600 → 0 ≤ f53 - t_at → -f53 + t_length ≤ (N0 : Int) → va_P (dC, dI) vwCl (wk_0 a_t q_t_bytes t_length f53 t_tokenAt t_tokenEnd t_own t_name t_number t_fault t_place q_t_bytes k_t_bytes g_t_bytes) H → va_D A (wk_0 a_t q_t_bytes t_length f53 t_tokenAt t_tokenEnd t_own t_name t_number t_fault t_place q_t_bytes k_t_bytes g_t_bytes) → va_S A s.heap H locs → lv_has ls 1 [(0, .ref a_t)] → W p l e (headSpec (Cond.code yX10_peek cX10_peek 1 (some .int) :: wA) ({ frames := 0, cells := 0, slots := 0, locals := 0 })).room s m [.ref a_t].toArray below meth c H locs 0 0 Q (F0 m 0 ls []) := by
    intro N0
    induction N0 using Nat.strongRecOn with
    | ind N0 ih_0 =>
      intro H locs ls f53 k0_0 k0_1 hm0 hP hD hS hl
      refine lv_aload_n hx hb dX10_peek_0 rfl (lv_at hl 0 rfl) ?_
      refine va_get (D := (dC, dI)) (ci := 10) (v := .int (iZ f53)) (C := RX10) (T := TX10) (N := 10) hx hb hts i_X10 hown hK hP 0 rfl rfl 2 (by decide) (hts _ q_122) (fun _ h9 => h9) rfl dX10_peek_1 ?_
      refine lv_aload_n hx hb dX10_peek_4 rfl (lv_at hl 0 rfl) ?_
      refine va_get (D := (dC, dI)) (ci := 10) (v := .int (iZ t_length)) (C := RX10) (T := TX10) (N := 10) hx hb hts i_X10 hown hK hP 0 rfl rfl 1 (by decide) (hts _ q_117) (fun _ h9 => h9) rfl dX10_peek_5 ?_
      refine zv_icmp_ge (tgt := 52) hx hb dX10_peek_8 (by decide) (by omega) (by omega) (fun c71 => ?_) (fun c71 => ?_)
      · refine lv_aload_n hx hb dX10_peek_52 rfl (lv_at hl 0 rfl) ?_
        refine va_get (D := (dC, dI)) (ci := 10) (v := .int (iZ f53)) (C := RX10) (T := TX10) (N := 10) hx hb hts i_X10 hown hK hP 0 rfl rfl 2 (by decide) (hts _ q_122) (fun _ h9 => h9) rfl dX10_peek_53 ?_
        refine lv_aload_n hx hb dX10_peek_56 rfl (lv_at hl 0 rfl) ?_
        refine va_get (D := (dC, dI)) (ci := 10) (v := .int (iZ t_length)) (C := RX10) (T := TX10) (N := 10) hx hb hts i_X10 hown hK hP 0 rfl rfl 1 (by decide) (hts _ q_117) (fun _ h9 => h9) rfl dX10_peek_57 ?_
        refine zv_icmp_ge (tgt := 75) hx hb dX10_peek_60 (by decide) (by omega) (by omega) (fun c72 => ?_) (fun c72 => (by omega : False).elim)
        refine lv_iconst (v := iZ (-1)) hx hb dX10_peek_75 (by decide) ?_
        subst hQ
        exact W.iret (v := iZ (-1)) hx hb hr (fun t ht hW => ⟨⟨iZ (-1), (-1), rfl, ⟨rfl, by omega⟩, f53, by omega, by omega, by rw [ht]; exact hP, va_K.moved hW.alike hK, hD⟩, hS.F ht⟩) hS.2.2 dX10_peek_76
      · refine lv_aload_n hx hb dX10_peek_11 rfl (lv_at hl 0 rfl) ?_
        refine va_get (D := (dC, dI)) (ci := 10) (v := .ref q_t_bytes) (C := RX10) (T := TX10) (N := 10) hx hb hts i_X10 hown hK hP 0 rfl rfl 0 (by decide) (hts _ q_118) (fun _ h9 => h9) rfl dX10_peek_12 ?_
        refine lv_aload_n hx hb dX10_peek_15 rfl (lv_at hl 0 rfl) ?_
        refine va_get (D := (dC, dI)) (ci := 10) (v := .int (iZ f53)) (C := RX10) (T := TX10) (N := 10) hx hb hts i_X10 hown hK hP 0 rfl rfl 2 (by decide) (hts _ q_122) (fun _ h9 => h9) rfl dX10_peek_16 ?_
        refine zv_iald hx hb hK hP 1 0 rfl rfl (by omega) (by omega) (by omega) dX10_peek_19 (fun z73 ez73 => ?_)
        have bz73 : 0 ≤ z73 ∧ z73 ≤ 255 := by rw [ez73]; exact hb_g_t_bytes _ (by omega)
        refine lv_bipush (v := iZ 32) hx hb dX10_peek_20 (by decide) ?_
        refine zv_icmp_eq (tgt := 39) hx hb dX10_peek_22 (by decide) (by omega) (by omega) (fun c74 => ?_) (fun c74 => ?_)
        · refine lv_aload_n hx hb dX10_peek_39 rfl (lv_at hl 0 rfl) ?_
          refine lv_dup hx hb dX10_peek_40 rfl ?_
          refine va_get (D := (dC, dI)) (ci := 10) (v := .int (iZ f53)) (C := RX10) (T := TX10) (N := 10) hx hb hts i_X10 hown hK hP 0 rfl rfl 2 (by decide) (hts _ q_122) (fun _ h9 => h9) rfl dX10_peek_41 ?_
          refine lv_iconst (v := iZ 1) hx hb dX10_peek_44 (by decide) ?_
          refine zv_iadd hx hb (f53 + 1) (by omega) dX10_peek_45 ?_
          refine va_put (D := (dC, dI)) (ci := 10) (v := .int (iZ (f53 + 1))) (ty := tyX10 2) (C := RX10) (T := TX10) (N := 10) hx hb hts i_X10 tyX10 tyX10_ok nmX10 hown hK hP hD hS 0 rfl rfl 2 (by decide) (hts _ q_122) (fun _ h9 => h9) rfl (tyX10_ok 2 (by decide)) rfl rfl (Nat.le_of_ble_eq_true rfl) dX10_peek_46 (fun H locs hP hD hS => ?_)
          have hP : va_P (dC, dI) vwCl (wk_0 a_t q_t_bytes t_length (f53 + 1) t_tokenAt t_tokenEnd t_own t_name t_number t_fault t_place q_t_bytes k_t_bytes g_t_bytes) H := hP
          have hD : va_D A (wk_0 a_t q_t_bytes t_length (f53 + 1) t_tokenAt t_tokenEnd t_own t_name t_number t_fault t_place q_t_bytes k_t_bytes g_t_bytes) := hD
          refine lv_goto (tgt := 0) hx hb dX10_peek_49 (by decide) ?_
          exact ih_0 (N0 - 1) (by omega) _ _ _ (f53 + 1) (by omega) (by omega) (by omega) hP hD hS (lv_sub hl [0] rfl)
        · refine lv_aload_n hx hb dX10_peek_25 rfl (lv_at hl 0 rfl) ?_
          refine va_get (D := (dC, dI)) (ci := 10) (v := .ref q_t_bytes) (C := RX10) (T := TX10) (N := 10) hx hb hts i_X10 hown hK hP 0 rfl rfl 0 (by decide) (hts _ q_118) (fun _ h9 => h9) rfl dX10_peek_26 ?_
          refine lv_aload_n hx hb dX10_peek_29 rfl (lv_at hl 0 rfl) ?_
          refine va_get (D := (dC, dI)) (ci := 10) (v := .int (iZ f53)) (C := RX10) (T := TX10) (N := 10) hx hb hts i_X10 hown hK hP 0 rfl rfl 2 (by decide) (hts _ q_122) (fun _ h9 => h9) rfl dX10_peek_30 ?_
          refine zv_iald hx hb hK hP 1 0 rfl rfl (by omega) (by omega) (by omega) dX10_peek_33 (fun z75 ez75 => ?_)
          have bz75 : 0 ≤ z75 ∧ z75 ≤ 255 := by rw [ez75]; exact hb_g_t_bytes _ (by omega)
          refine lv_bipush (v := iZ 10) hx hb dX10_peek_34 (by decide) ?_
          refine zv_icmp_ne (tgt := 52) hx hb dX10_peek_36 (by decide) (by omega) (by omega) (fun c76 => ?_) (fun c76 => ?_)
          · refine lv_aload_n hx hb dX10_peek_52 rfl (lv_at hl 0 rfl) ?_
            refine va_get (D := (dC, dI)) (ci := 10) (v := .int (iZ f53)) (C := RX10) (T := TX10) (N := 10) hx hb hts i_X10 hown hK hP 0 rfl rfl 2 (by decide) (hts _ q_122) (fun _ h9 => h9) rfl dX10_peek_53 ?_
            refine lv_aload_n hx hb dX10_peek_56 rfl (lv_at hl 0 rfl) ?_
            refine va_get (D := (dC, dI)) (ci := 10) (v := .int (iZ t_length)) (C := RX10) (T := TX10) (N := 10) hx hb hts i_X10 hown hK hP 0 rfl rfl 1 (by decide) (hts _ q_117) (fun _ h9 => h9) rfl dX10_peek_57 ?_
            refine zv_icmp_ge (tgt := 75) hx hb dX10_peek_60 (by decide) (by omega) (by omega) (fun c77 => (by omega : False).elim) (fun c77 => ?_)
            refine lv_aload_n hx hb dX10_peek_63 rfl (lv_at hl 0 rfl) ?_
            refine va_get (D := (dC, dI)) (ci := 10) (v := .ref q_t_bytes) (C := RX10) (T := TX10) (N := 10) hx hb hts i_X10 hown hK hP 0 rfl rfl 0 (by decide) (hts _ q_118) (fun _ h9 => h9) rfl dX10_peek_64 ?_
            refine lv_aload_n hx hb dX10_peek_67 rfl (lv_at hl 0 rfl) ?_
            refine va_get (D := (dC, dI)) (ci := 10) (v := .int (iZ f53)) (C := RX10) (T := TX10) (N := 10) hx hb hts i_X10 hown hK hP 0 rfl rfl 2 (by decide) (hts _ q_122) (fun _ h9 => h9) rfl dX10_peek_68 ?_
            refine zv_iald hx hb hK hP 1 0 rfl rfl (by omega) (by omega) (by omega) dX10_peek_71 (fun z78 ez78 => ?_)
            have bz78 : 0 ≤ z78 ∧ z78 ≤ 255 := by rw [ez78]; exact hb_g_t_bytes _ (by omega)
            refine lv_goto (tgt := 76) hx hb dX10_peek_72 (by decide) ?_
            subst hQ
            exact W.iret (v := iZ z78) hx hb hr (fun t ht hW => ⟨⟨iZ z78, z78, rfl, ⟨rfl, by omega⟩, f53, by omega, by omega, by rw [ht]; exact hP, va_K.moved hW.alike hK, hD⟩, hS.F ht⟩) hS.2.2 dX10_peek_76
          · refine lv_aload_n hx hb dX10_peek_39 rfl (lv_at hl 0 rfl) ?_
            refine lv_dup hx hb dX10_peek_40 rfl ?_
            refine va_get (D := (dC, dI)) (ci := 10) (v := .int (iZ f53)) (C := RX10) (T := TX10) (N := 10) hx hb hts i_X10 hown hK hP 0 rfl rfl 2 (by decide) (hts _ q_122) (fun _ h9 => h9) rfl dX10_peek_41 ?_
            refine lv_iconst (v := iZ 1) hx hb dX10_peek_44 (by decide) ?_
            refine zv_iadd hx hb (f53 + 1) (by omega) dX10_peek_45 ?_
            refine va_put (D := (dC, dI)) (ci := 10) (v := .int (iZ (f53 + 1))) (ty := tyX10 2) (C := RX10) (T := TX10) (N := 10) hx hb hts i_X10 tyX10 tyX10_ok nmX10 hown hK hP hD hS 0 rfl rfl 2 (by decide) (hts _ q_122) (fun _ h9 => h9) rfl (tyX10_ok 2 (by decide)) rfl rfl (Nat.le_of_ble_eq_true rfl) dX10_peek_46 (fun H locs hP hD hS => ?_)
            have hP : va_P (dC, dI) vwCl (wk_0 a_t q_t_bytes t_length (f53 + 1) t_tokenAt t_tokenEnd t_own t_name t_number t_fault t_place q_t_bytes k_t_bytes g_t_bytes) H := hP
            have hD : va_D A (wk_0 a_t q_t_bytes t_length (f53 + 1) t_tokenAt t_tokenEnd t_own t_name t_number t_fault t_place q_t_bytes k_t_bytes g_t_bytes) := hD
            refine lv_goto (tgt := 0) hx hb dX10_peek_49 (by decide) ?_
            exact ih_0 (N0 - 1) (by omega) _ _ _ (f53 + 1) (by omega) (by omega) (by omega) hP hD hS (lv_sub hl [0] rfl)
  exact lp_0 ((-t_at + t_length : Int)).toNat _ _ _ t_at (by omega) (by omega) (by omega) hP hD hS (lv_sub hl [0] rfl)
set_option maxHeartbeats 4000000 in
set_option maxRecDepth 100000 in
theorem z_X10_takesSign (l : Launch) (dC : Nat → ClassId) (dI : Nat → Nat → Nat) (a_t : Nat) (p1 : Int) (q_t_bytes : Nat) (t_length : Int) (t_at : Int) (t_tokenAt : Int) (t_tokenEnd : Int) (t_own : Int) (t_name : Int64) (t_number : Int) (t_fault : Int) (t_place : Int) (k_t_bytes : ClassId) (g_t_bytes : Nat → Int) (sz : Nat) (hb_g_t_bytes : ∀ j : Nat, j < 1600 → 0 ≤ g_t_bytes j ∧ g_t_bytes j ≤ 255) (b_t_length : 0 ≤ t_length ∧ t_length ≤ 1600) (b_t_at : 0 ≤ t_at ∧ t_at ≤ 1600) (b_t_tokenAt : 0 ≤ t_tokenAt ∧ t_tokenAt ≤ 1599) (b_t_tokenEnd : -1 ≤ t_tokenEnd ∧ t_tokenEnd ≤ 1600) (b_t_own : -1 ≤ t_own ∧ t_own ≤ 13) (b_t_number : -2147483648 ≤ t_number ∧ t_number ≤ 2147483647) (b_t_fault : -2147483648 ≤ t_fault ∧ t_fault ≤ 2147483647) (b_t_place : -2147483648 ≤ t_place ∧ t_place ≤ 2147483647) (b_p1 : 0 ≤ p1 ∧ p1 ≤ 255) : Met l yX10_takesSign (Cond.code yX10_takesSign cX10_takesSign 2 (some .boolean) :: wA) ({ frames := 1, cells := 0, slots := 0, locals := 20 }) (va_Pc [.ref a_t, .int (iZ p1)] (fun U => U.heap.size = sz ∧ va_P (dC, dI) vwCl (wk_0 a_t q_t_bytes t_length t_at t_tokenAt t_tokenEnd t_own t_name t_number t_fault t_place q_t_bytes k_t_bytes g_t_bytes) U.heap ∧ va_K (dC, dI) vwCl [(k_t_bytes, .int)] U ∧ va_D (fun _ => True) (wk_0 a_t q_t_bytes t_length t_at t_tokenAt t_tokenEnd t_own t_name t_number t_fault t_place q_t_bytes k_t_bytes g_t_bytes) ∧ nwAll U)) (va_Qi (fun (r : Int32) (zR : Int) => r = iZ zR ∧ (0 ≤ zR ∧ zR ≤ 1)) (fun zR t => ∃ n_t_at : Int, (0 ≤ n_t_at ∧ n_t_at ≤ 1600) ∧ va_P (dC, dI) vwCl (wk_0 a_t q_t_bytes t_length n_t_at t_tokenAt t_tokenEnd t_own t_name t_number t_fault t_place q_t_bytes k_t_bytes g_t_bytes) t.heap ∧ va_K (dC, dI) vwCl [(k_t_bytes, .int)] t ∧ va_D (va_A (wk_0 a_t q_t_bytes t_length t_at t_tokenAt t_tokenEnd t_own t_name t_number t_fault t_place q_t_bytes k_t_bytes g_t_bytes) sz) (wk_0 a_t q_t_bytes t_length n_t_at t_tokenAt t_tokenEnd t_own t_name t_number t_fault t_place q_t_bytes k_t_bytes g_t_bytes)) (va_A (wk_0 a_t q_t_bytes t_length t_at t_tokenAt t_tokenEnd t_own t_name t_number t_fault t_place q_t_bytes k_t_bytes g_t_bytes) sz)) 0 0 (va_A (wk_0 a_t q_t_bytes t_length t_at t_tokenAt t_tokenEnd t_own t_name t_number t_fault t_place q_t_bytes k_t_bytes g_t_bytes) sz) := by
  refine Met.ofW (cc := cX10_takesSign) (maxL := 2) (ret := (some .boolean)) (by decide) rfl ?_
  intro p e s m args below meth c s₁ B hml hv
  obtain ⟨rfl, hsz, hP, hK, hD0, hN⟩ := hv
  have hx := B.exec
  have hb := B.bytes
  have hr := B.returns
  have hts : ∀ w ∈ wA, w.before [.ref a_t, .int (iZ p1)].toArray s = true := fun w h => atoms_spec (ws := Cond.code yX10_takesSign cX10_takesSign 2 (some .boolean) :: wA) B.pre w (List.mem_cons_of_mem _ h)
  have hown : s.vm.findClass RX10 = some m.cls := findClass_of_methodNamed B.named
  have hlocks := B.notSynchronized
  subst hsz
  have hD := hD0.self (sz := s.heap.size)
  generalize hQ : MQ below (va_Qi (fun (r : Int32) (zR : Int) => r = iZ zR ∧ (0 ≤ zR ∧ zR ≤ 1)) (fun zR t => ∃ n_t_at : Int, (0 ≤ n_t_at ∧ n_t_at ≤ 1600) ∧ va_P (dC, dI) vwCl (wk_0 a_t q_t_bytes t_length n_t_at t_tokenAt t_tokenEnd t_own t_name t_number t_fault t_place q_t_bytes k_t_bytes g_t_bytes) t.heap ∧ va_K (dC, dI) vwCl [(k_t_bytes, .int)] t ∧ va_D (va_A (wk_0 a_t q_t_bytes t_length t_at t_tokenAt t_tokenEnd t_own t_name t_number t_fault t_place q_t_bytes k_t_bytes g_t_bytes) s.heap.size) (wk_0 a_t q_t_bytes t_length n_t_at t_tokenAt t_tokenEnd t_own t_name t_number t_fault t_place q_t_bytes k_t_bytes g_t_bytes)) (va_A (wk_0 a_t q_t_bytes t_length t_at t_tokenAt t_tokenEnd t_own t_name t_number t_fault t_place q_t_bytes k_t_bytes g_t_bytes) s.heap.size)) [.ref a_t, .int (iZ p1)].toArray s 0 0 (va_A (wk_0 a_t q_t_bytes t_length t_at t_tokenAt t_tokenEnd t_own t_name t_number t_fault t_place q_t_bytes k_t_bytes g_t_bytes) s.heap.size) = Q
  have hA : ∀ q : Nat, s.heap.size ≤ q → va_A (wk_0 a_t q_t_bytes t_length t_at t_tokenAt t_tokenEnd t_own t_name t_number t_fault t_place q_t_bytes k_t_bytes g_t_bytes) s.heap.size q := fun q h => Or.inr h
  generalize hAe : va_A (wk_0 a_t q_t_bytes t_length t_at t_tokenAt t_tokenEnd t_own t_name t_number t_fault t_place q_t_bytes k_t_bytes g_t_bytes) s.heap.size = A at hD hA hQ
  have hS : va_S A s.heap s.heap [] := va_S.rf
  have hl := lv_entry ([.ref a_t, .int (iZ p1)]) (n := 2) (Nat.le_of_ble_eq_true rfl)
  rw [lg_entry_eq]
  generalize (lg_sl ([.ref a_t, .int (iZ p1)]) ++ List.replicate (2 - (lg_sl ([.ref a_t, .int (iZ p1)])).length) Slot.unset).toArray = ls at hl ⊢
  have hl : lv_has ls 2 [(0, .ref a_t), (1, .int (iZ p1))] := hl
  refine lv_aload_n hx hb dX10_takesSign_0 rfl (lv_at hl 0 rfl) ?_
  have hPc := hP.sub (ws' := (wk_0 a_t q_t_bytes t_length t_at t_tokenAt t_tokenEnd t_own t_name t_number t_fault t_place q_t_bytes k_t_bytes g_t_bytes)) [0, 1] rfl
  have hDc := hD.sub (ws' := (wk_0 a_t q_t_bytes t_length t_at t_tokenAt t_tokenEnd t_own t_name t_number t_fault t_place q_t_bytes k_t_bytes g_t_bytes)) [0, 1] (by decide) rfl
  have hKc := hK.sub (tys' := [(k_t_bytes, .int)]) [0] rfl
  have hFc := va_free (wc := (wk_0 a_t q_t_bytes t_length t_at t_tokenAt t_tokenEnd t_own t_name t_number t_fault t_place q_t_bytes k_t_bytes g_t_bytes)) hD hS hA [0, 1] rfl
  refine va_calli (va_runV (As := []) (rest := []) ⟨hx, hb, hml, hown, hts⟩ (z_X10_peek l dC dI a_t q_t_bytes t_length t_at t_tokenAt t_tokenEnd t_own t_name t_number t_fault t_place k_t_bytes g_t_bytes s.heap.size hb_g_t_bytes (by omega) (by omega) (by omega) (by omega) (by omega) (by omega) (by omega) (by omega)) (cwV 0 hts (gV q_140 q_141 q_142 q_136 q_143) rfl rfl rfl mdv_yX10_peek ⟨Nat.le_of_ble_eq_true rfl, Nat.le_of_ble_eq_true rfl⟩) ⟨fun a U g mk q => by obtain ⟨q0, q1, qP, qK, qD, qN⟩ := q; exact ⟨q0, q1, qP, va_K.moved (u := U) (U := U.calling g mk a) (Vm.Alike.refl U.vm) qK, qD, nwAll_same (u := U) (U := U.calling g mk a) rfl qN⟩, va_recv hKc hPc (ci := 10) (q0 := 0) rfl rfl, fun U hU hW => ⟨rfl, by rw [hU], by rw [hU]; exact hPc, va_K.moved hW.alike hKc, hDc.weaken (fun _ _ _ _ => trivial), nwAll_warm hW hN⟩⟩ rfl rfl hl.1 rfl (lv_room (Nat.le_of_ble_eq_true rfl)) dX10_takesSign_1 ⟨Nat.le_of_ble_eq_true rfl, Nat.le_of_ble_eq_true rfl⟩) hS (fun q _ h => hFc q h) hFc (fun r86 z87 t H1 locs ht hvm hw hB hz1 hk1 hS => ?_)
  obtain ⟨rfl, h91⟩ := hw
  obtain ⟨z88, h89, h90, hP1, hK1, hD1⟩ := hB
  rw [ht] at hP1
  obtain ⟨hP, hD⟩ := va_join (wr := []) (w1 := (wk_0 a_t q_t_bytes t_length z88 t_tokenAt t_tokenEnd t_own t_name t_number t_fault t_place q_t_bytes k_t_bytes g_t_bytes)) hP hD [0, 1] [] rfl rfl (by decide) (by decide) hk1 hFc hP1 hD1
  generalize H1 = H at hP hS ⊢
  have hP : va_P (dC, dI) vwCl (wk_0 a_t q_t_bytes t_length z88 t_tokenAt t_tokenEnd t_own t_name t_number t_fault t_place q_t_bytes k_t_bytes g_t_bytes) H := hP
  have hD : va_D A (wk_0 a_t q_t_bytes t_length z88 t_tokenAt t_tokenEnd t_own t_name t_number t_fault t_place q_t_bytes k_t_bytes g_t_bytes) := hD
  refine lv_iload_n hx hb dX10_takesSign_4 rfl (lv_at hl 1 rfl) ?_
  refine zv_icmp_eq (tgt := 10) hx hb dX10_takesSign_5 (by decide) (by omega) (by omega) (fun c92 => ?_) (fun c92 => ?_)
  · refine lv_aload_n hx hb dX10_takesSign_10 rfl (lv_at hl 0 rfl) ?_
    refine lv_dup hx hb dX10_takesSign_11 rfl ?_
    refine va_get (D := (dC, dI)) (ci := 10) (v := .int (iZ z88)) (C := RX10) (T := TX10) (N := 10) hx hb hts i_X10 hown hK hP 0 rfl rfl 2 (by decide) (hts _ q_122) (fun _ h9 => h9) rfl dX10_takesSign_12 ?_
    refine lv_iconst (v := iZ 1) hx hb dX10_takesSign_15 (by decide) ?_
    refine zv_iadd hx hb (z88 + 1) (by omega) dX10_takesSign_16 ?_
    refine va_put (D := (dC, dI)) (ci := 10) (v := .int (iZ (z88 + 1))) (ty := tyX10 2) (C := RX10) (T := TX10) (N := 10) hx hb hts i_X10 tyX10 tyX10_ok nmX10 hown hK hP hD hS 0 rfl rfl 2 (by decide) (hts _ q_122) (fun _ h9 => h9) rfl (tyX10_ok 2 (by decide)) rfl rfl (Nat.le_of_ble_eq_true rfl) dX10_takesSign_17 (fun H locs hP hD hS => ?_)
    have hP : va_P (dC, dI) vwCl (wk_0 a_t q_t_bytes t_length (z88 + 1) t_tokenAt t_tokenEnd t_own t_name t_number t_fault t_place q_t_bytes k_t_bytes g_t_bytes) H := hP
    have hD : va_D A (wk_0 a_t q_t_bytes t_length (z88 + 1) t_tokenAt t_tokenEnd t_own t_name t_number t_fault t_place q_t_bytes k_t_bytes g_t_bytes) := hD
    refine lv_iconst (v := iZ 1) hx hb dX10_takesSign_20 (by decide) ?_
    subst hQ
    exact W.zret (v := iZ 1) hx hb hr rfl (fun t ht hW => ⟨⟨iZ 1, 1, rfl, ⟨rfl, by omega⟩, (z88 + 1), by omega, by rw [ht]; exact hP, va_K.moved hW.alike hK, hD⟩, hS.F ht⟩) hS.2.2 dX10_takesSign_21
  · refine lv_iconst (v := iZ 0) hx hb dX10_takesSign_8 (by decide) ?_
    subst hQ
    exact W.zret (v := iZ 0) hx hb hr rfl (fun t ht hW => ⟨⟨iZ 0, 0, rfl, ⟨rfl, by omega⟩, z88, by omega, by rw [ht]; exact hP, va_K.moved hW.alike hK, hD⟩, hS.F ht⟩) hS.2.2 dX10_takesSign_9
set_option maxHeartbeats 4000000 in
set_option maxRecDepth 100000 in
theorem z_X10_needsSign (l : Launch) (dC : Nat → ClassId) (dI : Nat → Nat → Nat) (a_t : Nat) (p1 : Int) (q_t_bytes : Nat) (t_length : Int) (t_at : Int) (t_tokenAt : Int) (t_tokenEnd : Int) (t_own : Int) (t_name : Int64) (t_number : Int) (t_fault : Int) (t_place : Int) (k_t_bytes : ClassId) (g_t_bytes : Nat → Int) (sz : Nat) (hb_g_t_bytes : ∀ j : Nat, j < 1600 → 0 ≤ g_t_bytes j ∧ g_t_bytes j ≤ 255) (b_t_length : 0 ≤ t_length ∧ t_length ≤ 1600) (b_t_at : 0 ≤ t_at ∧ t_at ≤ 1600) (b_t_tokenAt : 0 ≤ t_tokenAt ∧ t_tokenAt ≤ 1599) (b_t_tokenEnd : -1 ≤ t_tokenEnd ∧ t_tokenEnd ≤ 1600) (b_t_own : -1 ≤ t_own ∧ t_own ≤ 13) (b_t_number : -2147483648 ≤ t_number ∧ t_number ≤ 2147483647) (b_t_fault : -2147483648 ≤ t_fault ∧ t_fault ≤ 2147483647) (b_t_place : -2147483648 ≤ t_place ∧ t_place ≤ 2147483647) (b_p1 : 0 ≤ p1 ∧ p1 ≤ 255) : Met l yX10_needsSign (Cond.code yX10_needsSign cX10_needsSign 2 (some .boolean) :: wA) ({ frames := 1, cells := 0, slots := 0, locals := 22 }) (va_Pc [.ref a_t, .int (iZ p1)] (fun U => U.heap.size = sz ∧ va_P (dC, dI) vwCl (wk_0 a_t q_t_bytes t_length t_at t_tokenAt t_tokenEnd t_own t_name t_number t_fault t_place q_t_bytes k_t_bytes g_t_bytes) U.heap ∧ va_K (dC, dI) vwCl [(k_t_bytes, .int)] U ∧ va_D (fun _ => True) (wk_0 a_t q_t_bytes t_length t_at t_tokenAt t_tokenEnd t_own t_name t_number t_fault t_place q_t_bytes k_t_bytes g_t_bytes) ∧ nwAll U)) (va_Qi (fun (r : Int32) (zR : Int) => r = iZ zR ∧ (0 ≤ zR ∧ zR ≤ 1)) (fun zR t => ∃ n_t_at : Int, ∃ n_t_fault : Int, ∃ n_t_place : Int, (0 ≤ n_t_at ∧ n_t_at ≤ 1600) ∧ (-2147483648 ≤ n_t_fault ∧ n_t_fault ≤ 2147483647) ∧ (-2147483648 ≤ n_t_place ∧ n_t_place ≤ 2147483647) ∧ va_P (dC, dI) vwCl (wk_0 a_t q_t_bytes t_length n_t_at t_tokenAt t_tokenEnd t_own t_name t_number n_t_fault n_t_place q_t_bytes k_t_bytes g_t_bytes) t.heap ∧ va_K (dC, dI) vwCl [(k_t_bytes, .int)] t ∧ va_D (va_A (wk_0 a_t q_t_bytes t_length t_at t_tokenAt t_tokenEnd t_own t_name t_number t_fault t_place q_t_bytes k_t_bytes g_t_bytes) sz) (wk_0 a_t q_t_bytes t_length n_t_at t_tokenAt t_tokenEnd t_own t_name t_number n_t_fault n_t_place q_t_bytes k_t_bytes g_t_bytes)) (va_A (wk_0 a_t q_t_bytes t_length t_at t_tokenAt t_tokenEnd t_own t_name t_number t_fault t_place q_t_bytes k_t_bytes g_t_bytes) sz)) 0 0 (va_A (wk_0 a_t q_t_bytes t_length t_at t_tokenAt t_tokenEnd t_own t_name t_number t_fault t_place q_t_bytes k_t_bytes g_t_bytes) sz) := by
  refine Met.ofW (cc := cX10_needsSign) (maxL := 2) (ret := (some .boolean)) (by decide) rfl ?_
  intro p e s m args below meth c s₁ B hml hv
  obtain ⟨rfl, hsz, hP, hK, hD0, hN⟩ := hv
  have hx := B.exec
  have hb := B.bytes
  have hr := B.returns
  have hts : ∀ w ∈ wA, w.before [.ref a_t, .int (iZ p1)].toArray s = true := fun w h => atoms_spec (ws := Cond.code yX10_needsSign cX10_needsSign 2 (some .boolean) :: wA) B.pre w (List.mem_cons_of_mem _ h)
  have hown : s.vm.findClass RX10 = some m.cls := findClass_of_methodNamed B.named
  have hlocks := B.notSynchronized
  subst hsz
  have hD := hD0.self (sz := s.heap.size)
  generalize hQ : MQ below (va_Qi (fun (r : Int32) (zR : Int) => r = iZ zR ∧ (0 ≤ zR ∧ zR ≤ 1)) (fun zR t => ∃ n_t_at : Int, ∃ n_t_fault : Int, ∃ n_t_place : Int, (0 ≤ n_t_at ∧ n_t_at ≤ 1600) ∧ (-2147483648 ≤ n_t_fault ∧ n_t_fault ≤ 2147483647) ∧ (-2147483648 ≤ n_t_place ∧ n_t_place ≤ 2147483647) ∧ va_P (dC, dI) vwCl (wk_0 a_t q_t_bytes t_length n_t_at t_tokenAt t_tokenEnd t_own t_name t_number n_t_fault n_t_place q_t_bytes k_t_bytes g_t_bytes) t.heap ∧ va_K (dC, dI) vwCl [(k_t_bytes, .int)] t ∧ va_D (va_A (wk_0 a_t q_t_bytes t_length t_at t_tokenAt t_tokenEnd t_own t_name t_number t_fault t_place q_t_bytes k_t_bytes g_t_bytes) s.heap.size) (wk_0 a_t q_t_bytes t_length n_t_at t_tokenAt t_tokenEnd t_own t_name t_number n_t_fault n_t_place q_t_bytes k_t_bytes g_t_bytes)) (va_A (wk_0 a_t q_t_bytes t_length t_at t_tokenAt t_tokenEnd t_own t_name t_number t_fault t_place q_t_bytes k_t_bytes g_t_bytes) s.heap.size)) [.ref a_t, .int (iZ p1)].toArray s 0 0 (va_A (wk_0 a_t q_t_bytes t_length t_at t_tokenAt t_tokenEnd t_own t_name t_number t_fault t_place q_t_bytes k_t_bytes g_t_bytes) s.heap.size) = Q
  have hA : ∀ q : Nat, s.heap.size ≤ q → va_A (wk_0 a_t q_t_bytes t_length t_at t_tokenAt t_tokenEnd t_own t_name t_number t_fault t_place q_t_bytes k_t_bytes g_t_bytes) s.heap.size q := fun q h => Or.inr h
  generalize hAe : va_A (wk_0 a_t q_t_bytes t_length t_at t_tokenAt t_tokenEnd t_own t_name t_number t_fault t_place q_t_bytes k_t_bytes g_t_bytes) s.heap.size = A at hD hA hQ
  have hS : va_S A s.heap s.heap [] := va_S.rf
  have hl := lv_entry ([.ref a_t, .int (iZ p1)]) (n := 2) (Nat.le_of_ble_eq_true rfl)
  rw [lg_entry_eq]
  generalize (lg_sl ([.ref a_t, .int (iZ p1)]) ++ List.replicate (2 - (lg_sl ([.ref a_t, .int (iZ p1)])).length) Slot.unset).toArray = ls at hl ⊢
  have hl : lv_has ls 2 [(0, .ref a_t), (1, .int (iZ p1))] := hl
  refine lv_aload_n hx hb dX10_needsSign_0 rfl (lv_at hl 0 rfl) ?_
  have hPc := hP.sub (ws' := (wk_0 a_t q_t_bytes t_length t_at t_tokenAt t_tokenEnd t_own t_name t_number t_fault t_place q_t_bytes k_t_bytes g_t_bytes)) [0, 1] rfl
  have hDc := hD.sub (ws' := (wk_0 a_t q_t_bytes t_length t_at t_tokenAt t_tokenEnd t_own t_name t_number t_fault t_place q_t_bytes k_t_bytes g_t_bytes)) [0, 1] (by decide) rfl
  have hKc := hK.sub (tys' := [(k_t_bytes, .int)]) [0] rfl
  have hFc := va_free (wc := (wk_0 a_t q_t_bytes t_length t_at t_tokenAt t_tokenEnd t_own t_name t_number t_fault t_place q_t_bytes k_t_bytes g_t_bytes)) hD hS hA [0, 1] rfl
  refine va_calli (va_runV (As := []) (rest := []) ⟨hx, hb, hml, hown, hts⟩ (z_X10_peek l dC dI a_t q_t_bytes t_length t_at t_tokenAt t_tokenEnd t_own t_name t_number t_fault t_place k_t_bytes g_t_bytes s.heap.size hb_g_t_bytes (by omega) (by omega) (by omega) (by omega) (by omega) (by omega) (by omega) (by omega)) (cwV 0 hts (gV q_140 q_141 q_142 q_136 q_143) rfl rfl rfl mdv_yX10_peek ⟨Nat.le_of_ble_eq_true rfl, Nat.le_of_ble_eq_true rfl⟩) ⟨fun a U g mk q => by obtain ⟨q0, q1, qP, qK, qD, qN⟩ := q; exact ⟨q0, q1, qP, va_K.moved (u := U) (U := U.calling g mk a) (Vm.Alike.refl U.vm) qK, qD, nwAll_same (u := U) (U := U.calling g mk a) rfl qN⟩, va_recv hKc hPc (ci := 10) (q0 := 0) rfl rfl, fun U hU hW => ⟨rfl, by rw [hU], by rw [hU]; exact hPc, va_K.moved hW.alike hKc, hDc.weaken (fun _ _ _ _ => trivial), nwAll_warm hW hN⟩⟩ rfl rfl hl.1 rfl (lv_room (Nat.le_of_ble_eq_true rfl)) dX10_needsSign_1 ⟨Nat.le_of_ble_eq_true rfl, Nat.le_of_ble_eq_true rfl⟩) hS (fun q _ h => hFc q h) hFc (fun r103 z104 t H1 locs ht hvm hw hB hz1 hk1 hS => ?_)
  obtain ⟨rfl, h108⟩ := hw
  obtain ⟨z105, h106, h107, hP1, hK1, hD1⟩ := hB
  rw [ht] at hP1
  obtain ⟨hP, hD⟩ := va_join (wr := []) (w1 := (wk_0 a_t q_t_bytes t_length z105 t_tokenAt t_tokenEnd t_own t_name t_number t_fault t_place q_t_bytes k_t_bytes g_t_bytes)) hP hD [0, 1] [] rfl rfl (by decide) (by decide) hk1 hFc hP1 hD1
  generalize H1 = H at hP hS ⊢
  have hP : va_P (dC, dI) vwCl (wk_0 a_t q_t_bytes t_length z105 t_tokenAt t_tokenEnd t_own t_name t_number t_fault t_place q_t_bytes k_t_bytes g_t_bytes) H := hP
  have hD : va_D A (wk_0 a_t q_t_bytes t_length z105 t_tokenAt t_tokenEnd t_own t_name t_number t_fault t_place q_t_bytes k_t_bytes g_t_bytes) := hD
  refine lv_iload_n hx hb dX10_needsSign_4 rfl (lv_at hl 1 rfl) ?_
  refine zv_icmp_eq (tgt := 18) hx hb dX10_needsSign_5 (by decide) (by omega) (by omega) (fun c109 => ?_) (fun c109 => ?_)
  · refine lv_aload_n hx hb dX10_needsSign_18 rfl (lv_at hl 0 rfl) ?_
    refine lv_dup hx hb dX10_needsSign_19 rfl ?_
    refine va_get (D := (dC, dI)) (ci := 10) (v := .int (iZ z105)) (C := RX10) (T := TX10) (N := 10) hx hb hts i_X10 hown hK hP 0 rfl rfl 2 (by decide) (hts _ q_122) (fun _ h9 => h9) rfl dX10_needsSign_20 ?_
    refine lv_iconst (v := iZ 1) hx hb dX10_needsSign_23 (by decide) ?_
    refine zv_iadd hx hb (z105 + 1) (by omega) dX10_needsSign_24 ?_
    refine va_put (D := (dC, dI)) (ci := 10) (v := .int (iZ (z105 + 1))) (ty := tyX10 2) (C := RX10) (T := TX10) (N := 10) hx hb hts i_X10 tyX10 tyX10_ok nmX10 hown hK hP hD hS 0 rfl rfl 2 (by decide) (hts _ q_122) (fun _ h9 => h9) rfl (tyX10_ok 2 (by decide)) rfl rfl (Nat.le_of_ble_eq_true rfl) dX10_needsSign_25 (fun H locs hP hD hS => ?_)
    have hP : va_P (dC, dI) vwCl (wk_0 a_t q_t_bytes t_length (z105 + 1) t_tokenAt t_tokenEnd t_own t_name t_number t_fault t_place q_t_bytes k_t_bytes g_t_bytes) H := hP
    have hD : va_D A (wk_0 a_t q_t_bytes t_length (z105 + 1) t_tokenAt t_tokenEnd t_own t_name t_number t_fault t_place q_t_bytes k_t_bytes g_t_bytes) := hD
    refine lv_iconst (v := iZ 1) hx hb dX10_needsSign_28 (by decide) ?_
    subst hQ
    exact W.zret (v := iZ 1) hx hb hr rfl (fun t ht hW => ⟨⟨iZ 1, 1, rfl, ⟨rfl, by omega⟩, (z105 + 1), t_fault, t_place, by omega, by omega, by omega, by rw [ht]; exact hP, va_K.moved hW.alike hK, hD⟩, hS.F ht⟩) hS.2.2 dX10_needsSign_29
  · refine lv_aload_n hx hb dX10_needsSign_8 rfl (lv_at hl 0 rfl) ?_
    refine lv_iconst (v := iZ 1) hx hb dX10_needsSign_9 (by decide) ?_
    refine lv_aload_n hx hb dX10_needsSign_10 rfl (lv_at hl 0 rfl) ?_
    refine va_get (D := (dC, dI)) (ci := 10) (v := .int (iZ z105)) (C := RX10) (T := TX10) (N := 10) hx hb hts i_X10 hown hK hP 0 rfl rfl 2 (by decide) (hts _ q_122) (fun _ h9 => h9) rfl dX10_needsSign_11 ?_
    have hPc := hP.sub (ws' := (wk_0 a_t q_t_bytes t_length z105 t_tokenAt t_tokenEnd t_own t_name t_number t_fault t_place q_t_bytes k_t_bytes g_t_bytes)) [0, 1] rfl
    have hDc := hD.sub (ws' := (wk_0 a_t q_t_bytes t_length z105 t_tokenAt t_tokenEnd t_own t_name t_number t_fault t_place q_t_bytes k_t_bytes g_t_bytes)) [0, 1] (by decide) rfl
    have hKc := hK.sub (tys' := [(k_t_bytes, .int)]) [0] rfl
    have hFc := va_free (wc := (wk_0 a_t q_t_bytes t_length z105 t_tokenAt t_tokenEnd t_own t_name t_number t_fault t_place q_t_bytes k_t_bytes g_t_bytes)) hD hS hA [0, 1] rfl
    refine va_calli (va_runV (As := [.int (iZ 1), .int (iZ z105)]) (rest := []) ⟨hx, hb, hml, hown, hts⟩ (z_X10_wrong l dC dI a_t 1 z105 q_t_bytes t_length z105 t_tokenAt t_tokenEnd t_own t_name t_number t_fault t_place k_t_bytes g_t_bytes H.size hb_g_t_bytes (by omega) (by omega) (by omega) (by omega) (by omega) (by omega) (by omega) (by omega) (by omega) (by omega)) (cwV 2 hts (gV q_133 q_134 q_135 q_136 q_137) rfl rfl rfl mdv_yX10_wrong ⟨Nat.le_of_ble_eq_true rfl, Nat.le_of_ble_eq_true rfl⟩) ⟨fun a U g mk q => by obtain ⟨q0, q1, qP, qK, qD, qN⟩ := q; exact ⟨q0, q1, qP, va_K.moved (u := U) (U := U.calling g mk a) (Vm.Alike.refl U.vm) qK, qD, nwAll_same (u := U) (U := U.calling g mk a) rfl qN⟩, va_recv hKc hPc (ci := 10) (q0 := 0) rfl rfl, fun U hU hW => ⟨rfl, by rw [hU], by rw [hU]; exact hPc, va_K.moved hW.alike hKc, hDc.weaken (fun _ _ _ _ => trivial), nwAll_warm hW hN⟩⟩ rfl rfl hl.1 rfl (lv_room (Nat.le_of_ble_eq_true rfl)) dX10_needsSign_14 ⟨Nat.le_of_ble_eq_true rfl, Nat.le_of_ble_eq_true rfl⟩) hS (fun q _ h => hFc q h) hFc (fun r110 z111 t H1 locs ht hvm hw hB hz1 hk1 hS => ?_)
    obtain ⟨rfl, h112⟩ := hw
    obtain ⟨hP1, hK1, hD1⟩ := hB
    rw [ht] at hP1
    obtain ⟨hP, hD⟩ := va_join (wr := []) (w1 := (wk_0 a_t q_t_bytes t_length z105 t_tokenAt t_tokenEnd t_own t_name t_number 1 z105 q_t_bytes k_t_bytes g_t_bytes)) hP hD [0, 1] [] rfl rfl (by decide) (by decide) hk1 hFc hP1 hD1
    generalize H1 = H at hP hS ⊢
    have hP : va_P (dC, dI) vwCl (wk_0 a_t q_t_bytes t_length z105 t_tokenAt t_tokenEnd t_own t_name t_number 1 z105 q_t_bytes k_t_bytes g_t_bytes) H := hP
    have hD : va_D A (wk_0 a_t q_t_bytes t_length z105 t_tokenAt t_tokenEnd t_own t_name t_number 1 z105 q_t_bytes k_t_bytes g_t_bytes) := hD
    subst hQ
    exact W.zret (v := iZ z111) hx hb hr (zb_nar (by omega)) (fun t ht hW => ⟨⟨iZ z111, z111, rfl, ⟨rfl, by omega⟩, z105, 1, z105, by omega, by omega, by omega, by rw [ht]; exact hP, va_K.moved hW.alike hK, hD⟩, hS.F ht⟩) hS.2.2 dX10_needsSign_17
set_option maxHeartbeats 4000000 in
set_option maxRecDepth 100000 in
theorem z_X10_append (l : Launch) (dC : Nat → ClassId) (dI : Nat → Nat → Nat) (a_t : Nat) (p1 : Int) (q_t_bytes : Nat) (t_length : Int) (t_at : Int) (t_tokenAt : Int) (t_tokenEnd : Int) (t_own : Int) (t_name : Int64) (t_number : Int) (t_fault : Int) (t_place : Int) (k_t_bytes : ClassId) (g_t_bytes : Nat → Int) (sz : Nat) (hb_g_t_bytes : ∀ j : Nat, j < 1600 → 0 ≤ g_t_bytes j ∧ g_t_bytes j ≤ 255) (b_t_length : 0 ≤ t_length ∧ t_length ≤ 1600) (b_t_at : 0 ≤ t_at ∧ t_at ≤ 1600) (b_t_tokenAt : 0 ≤ t_tokenAt ∧ t_tokenAt ≤ 1599) (b_t_tokenEnd : -1 ≤ t_tokenEnd ∧ t_tokenEnd ≤ 1600) (b_t_own : -1 ≤ t_own ∧ t_own ≤ 13) (b_t_number : -2147483648 ≤ t_number ∧ t_number ≤ 2147483647) (b_t_fault : -2147483648 ≤ t_fault ∧ t_fault ≤ 2147483647) (b_t_place : -2147483648 ≤ t_place ∧ t_place ≤ 2147483647) (b_p1 : -2147483648 ≤ p1 ∧ p1 ≤ 2147483647) : Met l yX10_append (Cond.code yX10_append cX10_append 3 none :: wA) ({ frames := 0, cells := 0, slots := 0, locals := 0 }) (va_Pc [.ref a_t, .int (iZ p1)] (fun U => U.heap.size = sz ∧ va_P (dC, dI) vwCl (wk_0 a_t q_t_bytes t_length t_at t_tokenAt t_tokenEnd t_own t_name t_number t_fault t_place q_t_bytes k_t_bytes g_t_bytes) U.heap ∧ va_K (dC, dI) vwCl [(k_t_bytes, .int)] U ∧ va_D (fun _ => True) (wk_0 a_t q_t_bytes t_length t_at t_tokenAt t_tokenEnd t_own t_name t_number t_fault t_place q_t_bytes k_t_bytes g_t_bytes) ∧ nwAll U)) (va_Qv (fun (_ : Unit) => True) (fun _ t => ∃ n_t_length : Int, ∃ n_g_t_bytes : Nat → Int, (0 ≤ n_t_length ∧ n_t_length ≤ 1600) ∧ (∀ j : Nat, j < 1600 → 0 ≤ n_g_t_bytes j ∧ n_g_t_bytes j ≤ 255) ∧ va_P (dC, dI) vwCl (wk_0 a_t q_t_bytes n_t_length t_at t_tokenAt t_tokenEnd t_own t_name t_number t_fault t_place q_t_bytes k_t_bytes n_g_t_bytes) t.heap ∧ va_K (dC, dI) vwCl [(k_t_bytes, .int)] t ∧ va_D (va_A (wk_0 a_t q_t_bytes t_length t_at t_tokenAt t_tokenEnd t_own t_name t_number t_fault t_place q_t_bytes k_t_bytes g_t_bytes) sz) (wk_0 a_t q_t_bytes n_t_length t_at t_tokenAt t_tokenEnd t_own t_name t_number t_fault t_place q_t_bytes k_t_bytes n_g_t_bytes)) (va_A (wk_0 a_t q_t_bytes t_length t_at t_tokenAt t_tokenEnd t_own t_name t_number t_fault t_place q_t_bytes k_t_bytes g_t_bytes) sz)) 0 0 (va_A (wk_0 a_t q_t_bytes t_length t_at t_tokenAt t_tokenEnd t_own t_name t_number t_fault t_place q_t_bytes k_t_bytes g_t_bytes) sz) := by
  refine Met.ofW (cc := cX10_append) (maxL := 3) (ret := none) (by decide) rfl ?_
  intro p e s m args below meth c s₁ B hml hv
  obtain ⟨rfl, hsz, hP, hK, hD0, hN⟩ := hv
  have hx := B.exec
  have hb := B.bytes
  have hr := B.returns
  have hts : ∀ w ∈ wA, w.before [.ref a_t, .int (iZ p1)].toArray s = true := fun w h => atoms_spec (ws := Cond.code yX10_append cX10_append 3 none :: wA) B.pre w (List.mem_cons_of_mem _ h)
  have hown : s.vm.findClass RX10 = some m.cls := findClass_of_methodNamed B.named
  have hlocks := B.notSynchronized
  subst hsz
  have hD := hD0.self (sz := s.heap.size)
  generalize hQ : MQ below (va_Qv (fun (_ : Unit) => True) (fun _ t => ∃ n_t_length : Int, ∃ n_g_t_bytes : Nat → Int, (0 ≤ n_t_length ∧ n_t_length ≤ 1600) ∧ (∀ j : Nat, j < 1600 → 0 ≤ n_g_t_bytes j ∧ n_g_t_bytes j ≤ 255) ∧ va_P (dC, dI) vwCl (wk_0 a_t q_t_bytes n_t_length t_at t_tokenAt t_tokenEnd t_own t_name t_number t_fault t_place q_t_bytes k_t_bytes n_g_t_bytes) t.heap ∧ va_K (dC, dI) vwCl [(k_t_bytes, .int)] t ∧ va_D (va_A (wk_0 a_t q_t_bytes t_length t_at t_tokenAt t_tokenEnd t_own t_name t_number t_fault t_place q_t_bytes k_t_bytes g_t_bytes) s.heap.size) (wk_0 a_t q_t_bytes n_t_length t_at t_tokenAt t_tokenEnd t_own t_name t_number t_fault t_place q_t_bytes k_t_bytes n_g_t_bytes)) (va_A (wk_0 a_t q_t_bytes t_length t_at t_tokenAt t_tokenEnd t_own t_name t_number t_fault t_place q_t_bytes k_t_bytes g_t_bytes) s.heap.size)) [.ref a_t, .int (iZ p1)].toArray s 0 0 (va_A (wk_0 a_t q_t_bytes t_length t_at t_tokenAt t_tokenEnd t_own t_name t_number t_fault t_place q_t_bytes k_t_bytes g_t_bytes) s.heap.size) = Q
  have hA : ∀ q : Nat, s.heap.size ≤ q → va_A (wk_0 a_t q_t_bytes t_length t_at t_tokenAt t_tokenEnd t_own t_name t_number t_fault t_place q_t_bytes k_t_bytes g_t_bytes) s.heap.size q := fun q h => Or.inr h
  generalize hAe : va_A (wk_0 a_t q_t_bytes t_length t_at t_tokenAt t_tokenEnd t_own t_name t_number t_fault t_place q_t_bytes k_t_bytes g_t_bytes) s.heap.size = A at hD hA hQ
  have hS : va_S A s.heap s.heap [] := va_S.rf
  have hl := lv_entry ([.ref a_t, .int (iZ p1)]) (n := 3) (Nat.le_of_ble_eq_true rfl)
  rw [lg_entry_eq]
  generalize (lg_sl ([.ref a_t, .int (iZ p1)]) ++ List.replicate (3 - (lg_sl ([.ref a_t, .int (iZ p1)])).length) Slot.unset).toArray = ls at hl ⊢
  have hl : lv_has ls 3 [(0, .ref a_t), (1, .int (iZ p1))] := hl
  refine lv_bipush (v := iZ 24) hx hb dX10_append_0 (by decide) ?_
  refine lv_istore_n (lv' := [(2, .int (iZ 24)), (0, .ref a_t), (1, .int (iZ p1))]) hx hb dX10_append_2 rfl hl (by decide) rfl (fun ls hl => ?_)
  have lp_3 : ∀ (N3 : Nat) (H : Heap) (locs : List Loc) (ls : Array Slot) (f153 : Int) (i155 : Int) (g154 : Nat → Int), 0 ≤ -f153 + 1600 → 0 ≤ f153 - t_length → 0 ≤ i155 + 2147483648 → 0 ≤ -f153 - i155 + t_length + 24 → (∀ j : Nat, j < 1600 → 0 ≤ g154 j ∧ g154 j ≤ 255) → -f153 + 1600 ≤ (N3 : Int) → va_P (dC, dI) vwCl (wk_0 a_t q_t_bytes f153 t_at t_tokenAt t_tokenEnd t_own t_name t_number t_fault t_place q_t_bytes k_t_bytes g154) H → va_D A (wk_0 a_t q_t_bytes f153 t_at t_tokenAt t_tokenEnd t_own t_name t_number t_fault t_place q_t_bytes k_t_bytes g154) → va_S A s.heap H locs → lv_has ls 3 [(0, .ref a_t), (1, .int (iZ p1)), (2, .int (iZ i155))] → W p l e (headSpec (Cond.code yX10_append cX10_append 3 none :: wA) ({ frames := 0, cells := 0, slots := 0, locals := 0 })).room s m [.ref a_t, .int (iZ p1)].toArray below meth c H locs 0 0 Q (F0 m 3 ls []) := by
    intro N3
    induction N3 using Nat.strongRecOn with
    | ind N3 ih_3 =>
      intro H locs ls f153 i155 g154 k3_0 k3_1 k3_2 k3_3 hb_g154 hm3 hP hD hS hl
      refine lv_iload_n hx hb dX10_append_3 rfl (lv_at hl 2 rfl) ?_
      refine zv_if_lt (tgt := 49) hx hb dX10_append_4 (by decide) (by omega) (fun c178 => ?_) (fun c178 => ?_)
      · subst hQ
        exact W.vret hx hb hr (fun t ht hW => ⟨⟨(), rfl, trivial, f153, g154, by omega, hb_g154, by rw [ht]; exact hP, va_K.moved hW.alike hK, hD⟩, hS.F ht⟩) hS.2.2 dX10_append_49
      · refine lv_aload_n hx hb dX10_append_7 rfl (lv_at hl 0 rfl) ?_
        refine va_get (D := (dC, dI)) (ci := 10) (v := .int (iZ f153)) (C := RX10) (T := TX10) (N := 10) hx hb hts i_X10 hown hK hP 0 rfl rfl 1 (by decide) (hts _ q_117) (fun _ h9 => h9) rfl dX10_append_8 ?_
        refine lv_sipush (v := iZ 1600) hx hb dX10_append_11 (by decide) ?_
        refine zv_icmp_ge (tgt := 49) hx hb dX10_append_14 (by decide) (by omega) (by omega) (fun c179 => ?_) (fun c179 => ?_)
        · subst hQ
          exact W.vret hx hb hr (fun t ht hW => ⟨⟨(), rfl, trivial, f153, g154, by omega, hb_g154, by rw [ht]; exact hP, va_K.moved hW.alike hK, hD⟩, hS.F ht⟩) hS.2.2 dX10_append_49
        · refine lv_aload_n hx hb dX10_append_17 rfl (lv_at hl 0 rfl) ?_
          refine va_get (D := (dC, dI)) (ci := 10) (v := .ref q_t_bytes) (C := RX10) (T := TX10) (N := 10) hx hb hts i_X10 hown hK hP 0 rfl rfl 0 (by decide) (hts _ q_118) (fun _ h9 => h9) rfl dX10_append_18 ?_
          refine lv_aload_n hx hb dX10_append_21 rfl (lv_at hl 0 rfl) ?_
          refine va_get (D := (dC, dI)) (ci := 10) (v := .int (iZ f153)) (C := RX10) (T := TX10) (N := 10) hx hb hts i_X10 hown hK hP 0 rfl rfl 1 (by decide) (hts _ q_117) (fun _ h9 => h9) rfl dX10_append_22 ?_
          refine lv_iload_n hx hb dX10_append_25 rfl (lv_at hl 1 rfl) ?_
          refine lv_iload_n hx hb dX10_append_26 rfl (lv_at hl 2 rfl) ?_
          refine lv_ishr hx hb dX10_append_27 ?_
          refine zv_any (fun z180 lz180 uz180 => ?_)
          refine lv_sipush (v := iZ 255) hx hb dX10_append_28 (by decide) ?_
          refine zv_ian hx hb (by omega) dX10_append_31 (fun z181 lz181 uz181 => ?_)
          refine zv_iast hx hb hK hP hD hS 1 0 rfl rfl (by omega) (by omega) (by omega) dX10_append_32 (fun g182 H locs eg182 hP hD hS => ?_)
          have hb_g182 : ∀ j : Nat, j < 1600 → 0 ≤ g182 j ∧ g182 j ≤ 255 := by rw [eg182]; exact zb_upd (P := fun v => 0 ≤ v ∧ v ≤ 255) hb_g154 (by omega)
          have hP : va_P (dC, dI) vwCl (wk_0 a_t q_t_bytes f153 t_at t_tokenAt t_tokenEnd t_own t_name t_number t_fault t_place q_t_bytes k_t_bytes g182) H := hP
          have hD : va_D A (wk_0 a_t q_t_bytes f153 t_at t_tokenAt t_tokenEnd t_own t_name t_number t_fault t_place q_t_bytes k_t_bytes g182) := hD
          refine lv_aload_n hx hb dX10_append_33 rfl (lv_at hl 0 rfl) ?_
          refine lv_dup hx hb dX10_append_34 rfl ?_
          refine va_get (D := (dC, dI)) (ci := 10) (v := .int (iZ f153)) (C := RX10) (T := TX10) (N := 10) hx hb hts i_X10 hown hK hP 0 rfl rfl 1 (by decide) (hts _ q_117) (fun _ h9 => h9) rfl dX10_append_35 ?_
          refine lv_iconst (v := iZ 1) hx hb dX10_append_38 (by decide) ?_
          refine zv_iadd hx hb (f153 + 1) (by omega) dX10_append_39 ?_
          refine va_put (D := (dC, dI)) (ci := 10) (v := .int (iZ (f153 + 1))) (ty := tyX10 1) (C := RX10) (T := TX10) (N := 10) hx hb hts i_X10 tyX10 tyX10_ok nmX10 hown hK hP hD hS 0 rfl rfl 1 (by decide) (hts _ q_117) (fun _ h9 => h9) rfl (tyX10_ok 1 (by decide)) rfl rfl (Nat.le_of_ble_eq_true rfl) dX10_append_40 (fun H locs hP hD hS => ?_)
          have hP : va_P (dC, dI) vwCl (wk_0 a_t q_t_bytes (f153 + 1) t_at t_tokenAt t_tokenEnd t_own t_name t_number t_fault t_place q_t_bytes k_t_bytes g182) H := hP
          have hD : va_D A (wk_0 a_t q_t_bytes (f153 + 1) t_at t_tokenAt t_tokenEnd t_own t_name t_number t_fault t_place q_t_bytes k_t_bytes g182) := hD
          refine lv_iinc (v := iZ (i155 - 8)) (lv' := [(2, .int (iZ (i155 - 8))), (0, .ref a_t), (1, .int (iZ p1))]) hx hb dX10_append_43 hl (k := 2) rfl (iZ_inc (by omega)) (by decide) rfl (fun ls hl => ?_)
          refine lv_goto (tgt := 3) hx hb dX10_append_46 (by decide) ?_
          exact ih_3 (N3 - 1) (by omega) _ _ _ (f153 + 1) (i155 - 8) g182 (by omega) (by omega) (by omega) (by omega) hb_g182 (by omega) hP hD hS (lv_sub hl [1, 2, 0] rfl)
  exact lp_3 ((-t_length + 1600 : Int)).toNat _ _ _ t_length 24 g_t_bytes (by omega) (by omega) (by omega) (by omega) hb_g_t_bytes (by omega) hP hD hS (lv_sub hl [1, 2, 0] rfl)
set_option maxHeartbeats 4000000 in
set_option maxRecDepth 100000 in
theorem z_X10_takesNumber (l : Launch) (dC : Nat → ClassId) (dI : Nat → Nat → Nat) (a_t : Nat) (p1 : Int) (p2 : Int) (q_t_bytes : Nat) (t_length : Int) (t_at : Int) (t_tokenAt : Int) (t_tokenEnd : Int) (t_own : Int) (t_name : Int64) (t_number : Int) (t_fault : Int) (t_place : Int) (k_t_bytes : ClassId) (g_t_bytes : Nat → Int) (sz : Nat) (hb_g_t_bytes : ∀ j : Nat, j < 1600 → 0 ≤ g_t_bytes j ∧ g_t_bytes j ≤ 255) (b_t_length : 0 ≤ t_length ∧ t_length ≤ 1600) (b_t_at : 0 ≤ t_at ∧ t_at ≤ 1600) (b_t_tokenAt : 0 ≤ t_tokenAt ∧ t_tokenAt ≤ 1599) (b_t_tokenEnd : -1 ≤ t_tokenEnd ∧ t_tokenEnd ≤ 1600) (b_t_own : -1 ≤ t_own ∧ t_own ≤ 13) (b_t_number : -2147483648 ≤ t_number ∧ t_number ≤ 2147483647) (b_t_fault : -2147483648 ≤ t_fault ∧ t_fault ≤ 2147483647) (b_t_place : -2147483648 ≤ t_place ∧ t_place ≤ 2147483647) (b_p1 : -2147483648 ≤ p1 ∧ p1 ≤ 2147483647) (b_p2 : -2147483648 ≤ p2 ∧ p2 ≤ 2147483647) : Met l yX10_takesNumber (Cond.code yX10_takesNumber cX10_takesNumber 3 (some .boolean) :: wA) ({ frames := 1, cells := 0, slots := 0, locals := 22 }) (va_Pc [.ref a_t, .int (iZ p1), .int (iZ p2)] (fun U => U.heap.size = sz ∧ va_P (dC, dI) vwCl (wk_0 a_t q_t_bytes t_length t_at t_tokenAt t_tokenEnd t_own t_name t_number t_fault t_place q_t_bytes k_t_bytes g_t_bytes) U.heap ∧ va_K (dC, dI) vwCl [(k_t_bytes, .int)] U ∧ va_D (fun _ => True) (wk_0 a_t q_t_bytes t_length t_at t_tokenAt t_tokenEnd t_own t_name t_number t_fault t_place q_t_bytes k_t_bytes g_t_bytes) ∧ nwAll U)) (va_Qi (fun (r : Int32) (zR : Int) => r = iZ zR ∧ (0 ≤ zR ∧ zR ≤ 1)) (fun zR t => ∃ n_t_at : Int, ∃ n_t_tokenAt : Int, ∃ n_t_tokenEnd : Int, ∃ n_t_number : Int, ∃ n_t_fault : Int, ∃ n_t_place : Int, (0 ≤ n_t_at ∧ n_t_at ≤ 1600) ∧ (0 ≤ n_t_tokenAt ∧ n_t_tokenAt ≤ 1599) ∧ (-1 ≤ n_t_tokenEnd ∧ n_t_tokenEnd ≤ 1600) ∧ (-2147483648 ≤ n_t_number ∧ n_t_number ≤ 2147483647) ∧ (-2147483648 ≤ n_t_fault ∧ n_t_fault ≤ 2147483647) ∧ (-2147483648 ≤ n_t_place ∧ n_t_place ≤ 2147483647) ∧ (zR = 0 ∨ (p1 ≤ n_t_number ∧ n_t_number ≤ p2)) ∧ va_P (dC, dI) vwCl (wk_0 a_t q_t_bytes t_length n_t_at n_t_tokenAt n_t_tokenEnd t_own t_name n_t_number n_t_fault n_t_place q_t_bytes k_t_bytes g_t_bytes) t.heap ∧ va_K (dC, dI) vwCl [(k_t_bytes, .int)] t ∧ va_D (va_A (wk_0 a_t q_t_bytes t_length t_at t_tokenAt t_tokenEnd t_own t_name t_number t_fault t_place q_t_bytes k_t_bytes g_t_bytes) sz) (wk_0 a_t q_t_bytes t_length n_t_at n_t_tokenAt n_t_tokenEnd t_own t_name n_t_number n_t_fault n_t_place q_t_bytes k_t_bytes g_t_bytes)) (va_A (wk_0 a_t q_t_bytes t_length t_at t_tokenAt t_tokenEnd t_own t_name t_number t_fault t_place q_t_bytes k_t_bytes g_t_bytes) sz)) 0 0 (va_A (wk_0 a_t q_t_bytes t_length t_at t_tokenAt t_tokenEnd t_own t_name t_number t_fault t_place q_t_bytes k_t_bytes g_t_bytes) sz) := by
  refine Met.ofW (cc := cX10_takesNumber) (maxL := 3) (ret := (some .boolean)) (by decide) rfl ?_
  intro p e s m args below meth c s₁ B hml hv
  obtain ⟨rfl, hsz, hP, hK, hD0, hN⟩ := hv
  have hx := B.exec
  have hb := B.bytes
  have hr := B.returns
  have hts : ∀ w ∈ wA, w.before [.ref a_t, .int (iZ p1), .int (iZ p2)].toArray s = true := fun w h => atoms_spec (ws := Cond.code yX10_takesNumber cX10_takesNumber 3 (some .boolean) :: wA) B.pre w (List.mem_cons_of_mem _ h)
  have hown : s.vm.findClass RX10 = some m.cls := findClass_of_methodNamed B.named
  have hlocks := B.notSynchronized
  subst hsz
  have hD := hD0.self (sz := s.heap.size)
  generalize hQ : MQ below (va_Qi (fun (r : Int32) (zR : Int) => r = iZ zR ∧ (0 ≤ zR ∧ zR ≤ 1)) (fun zR t => ∃ n_t_at : Int, ∃ n_t_tokenAt : Int, ∃ n_t_tokenEnd : Int, ∃ n_t_number : Int, ∃ n_t_fault : Int, ∃ n_t_place : Int, (0 ≤ n_t_at ∧ n_t_at ≤ 1600) ∧ (0 ≤ n_t_tokenAt ∧ n_t_tokenAt ≤ 1599) ∧ (-1 ≤ n_t_tokenEnd ∧ n_t_tokenEnd ≤ 1600) ∧ (-2147483648 ≤ n_t_number ∧ n_t_number ≤ 2147483647) ∧ (-2147483648 ≤ n_t_fault ∧ n_t_fault ≤ 2147483647) ∧ (-2147483648 ≤ n_t_place ∧ n_t_place ≤ 2147483647) ∧ (zR = 0 ∨ (p1 ≤ n_t_number ∧ n_t_number ≤ p2)) ∧ va_P (dC, dI) vwCl (wk_0 a_t q_t_bytes t_length n_t_at n_t_tokenAt n_t_tokenEnd t_own t_name n_t_number n_t_fault n_t_place q_t_bytes k_t_bytes g_t_bytes) t.heap ∧ va_K (dC, dI) vwCl [(k_t_bytes, .int)] t ∧ va_D (va_A (wk_0 a_t q_t_bytes t_length t_at t_tokenAt t_tokenEnd t_own t_name t_number t_fault t_place q_t_bytes k_t_bytes g_t_bytes) s.heap.size) (wk_0 a_t q_t_bytes t_length n_t_at n_t_tokenAt n_t_tokenEnd t_own t_name n_t_number n_t_fault n_t_place q_t_bytes k_t_bytes g_t_bytes)) (va_A (wk_0 a_t q_t_bytes t_length t_at t_tokenAt t_tokenEnd t_own t_name t_number t_fault t_place q_t_bytes k_t_bytes g_t_bytes) s.heap.size)) [.ref a_t, .int (iZ p1), .int (iZ p2)].toArray s 0 0 (va_A (wk_0 a_t q_t_bytes t_length t_at t_tokenAt t_tokenEnd t_own t_name t_number t_fault t_place q_t_bytes k_t_bytes g_t_bytes) s.heap.size) = Q
  have hA : ∀ q : Nat, s.heap.size ≤ q → va_A (wk_0 a_t q_t_bytes t_length t_at t_tokenAt t_tokenEnd t_own t_name t_number t_fault t_place q_t_bytes k_t_bytes g_t_bytes) s.heap.size q := fun q h => Or.inr h
  generalize hAe : va_A (wk_0 a_t q_t_bytes t_length t_at t_tokenAt t_tokenEnd t_own t_name t_number t_fault t_place q_t_bytes k_t_bytes g_t_bytes) s.heap.size = A at hD hA hQ
  have hS : va_S A s.heap s.heap [] := va_S.rf
  have hl := lv_entry ([.ref a_t, .int (iZ p1), .int (iZ p2)]) (n := 3) (Nat.le_of_ble_eq_true rfl)
  rw [lg_entry_eq]
  generalize (lg_sl ([.ref a_t, .int (iZ p1), .int (iZ p2)]) ++ List.replicate (3 - (lg_sl ([.ref a_t, .int (iZ p1), .int (iZ p2)])).length) Slot.unset).toArray = ls at hl ⊢
  have hl : lv_has ls 3 [(0, .ref a_t), (1, .int (iZ p1)), (2, .int (iZ p2))] := hl
  refine lv_aload_n hx hb dX10_takesNumber_0 rfl (lv_at hl 0 rfl) ?_
  have hPc := hP.sub (ws' := (wk_0 a_t q_t_bytes t_length t_at t_tokenAt t_tokenEnd t_own t_name t_number t_fault t_place q_t_bytes k_t_bytes g_t_bytes)) [0, 1] rfl
  have hDc := hD.sub (ws' := (wk_0 a_t q_t_bytes t_length t_at t_tokenAt t_tokenEnd t_own t_name t_number t_fault t_place q_t_bytes k_t_bytes g_t_bytes)) [0, 1] (by decide) rfl
  have hKc := hK.sub (tys' := [(k_t_bytes, .int)]) [0] rfl
  have hFc := va_free (wc := (wk_0 a_t q_t_bytes t_length t_at t_tokenAt t_tokenEnd t_own t_name t_number t_fault t_place q_t_bytes k_t_bytes g_t_bytes)) hD hS hA [0, 1] rfl
  refine va_calli (va_runV (As := []) (rest := []) ⟨hx, hb, hml, hown, hts⟩ (z_X10_peek l dC dI a_t q_t_bytes t_length t_at t_tokenAt t_tokenEnd t_own t_name t_number t_fault t_place k_t_bytes g_t_bytes s.heap.size hb_g_t_bytes (by omega) (by omega) (by omega) (by omega) (by omega) (by omega) (by omega) (by omega)) (cwV 0 hts (gV q_140 q_141 q_142 q_136 q_143) rfl rfl rfl mdv_yX10_peek ⟨Nat.le_of_ble_eq_true rfl, Nat.le_of_ble_eq_true rfl⟩) ⟨fun a U g mk q => by obtain ⟨q0, q1, qP, qK, qD, qN⟩ := q; exact ⟨q0, q1, qP, va_K.moved (u := U) (U := U.calling g mk a) (Vm.Alike.refl U.vm) qK, qD, nwAll_same (u := U) (U := U.calling g mk a) rfl qN⟩, va_recv hKc hPc (ci := 10) (q0 := 0) rfl rfl, fun U hU hW => ⟨rfl, by rw [hU], by rw [hU]; exact hPc, va_K.moved hW.alike hKc, hDc.weaken (fun _ _ _ _ => trivial), nwAll_warm hW hN⟩⟩ rfl rfl hl.1 rfl (lv_room (Nat.le_of_ble_eq_true rfl)) dX10_takesNumber_1 ⟨Nat.le_of_ble_eq_true rfl, Nat.le_of_ble_eq_true rfl⟩) hS (fun q _ h => hFc q h) hFc (fun r322 z323 t H1 locs ht hvm hw hB hz1 hk1 hS => ?_)
  obtain ⟨rfl, h327⟩ := hw
  obtain ⟨z324, h325, h326, hP1, hK1, hD1⟩ := hB
  rw [ht] at hP1
  obtain ⟨hP, hD⟩ := va_join (wr := []) (w1 := (wk_0 a_t q_t_bytes t_length z324 t_tokenAt t_tokenEnd t_own t_name t_number t_fault t_place q_t_bytes k_t_bytes g_t_bytes)) hP hD [0, 1] [] rfl rfl (by decide) (by decide) hk1 hFc hP1 hD1
  generalize H1 = H at hP hS ⊢
  have hP : va_P (dC, dI) vwCl (wk_0 a_t q_t_bytes t_length z324 t_tokenAt t_tokenEnd t_own t_name t_number t_fault t_place q_t_bytes k_t_bytes g_t_bytes) H := hP
  have hD : va_D A (wk_0 a_t q_t_bytes t_length z324 t_tokenAt t_tokenEnd t_own t_name t_number t_fault t_place q_t_bytes k_t_bytes g_t_bytes) := hD
  have hPc := hP.sub (ws' := []) [] rfl
  have hDc := hD.sub (ws' := []) [] (by decide) rfl
  have hKc := hK.sub (tys' := []) [] rfl
  have hFc := va_free (wc := []) hD hS hA [] rfl
  refine va_calli (va_runS (As := [.int (iZ z323)]) (rest := []) ⟨hx, hb, hml, hown, hts⟩ (z_X10_isDigit l dC dI z323 H.size (by omega)) (va_cwS 1 hts (gS q_147 q_148 q_136 q_130) rfl rfl rfl mds_yX10_isDigit ⟨Nat.le_of_ble_eq_true rfl, Nat.le_of_ble_eq_true rfl⟩) ⟨fun a U g mk q => by obtain ⟨q0, q1, qP, qK, qD, qN⟩ := q; exact ⟨q0, q1, qP, va_K.moved (u := U) (U := U.calling g mk a) (Vm.Alike.refl U.vm) qK, qD, nwAll_same (u := U) (U := U.calling g mk a) rfl qN⟩, fun U hU hW => ⟨rfl, by rw [hU], by rw [hU]; exact hPc, va_K.moved hW.alike hKc, hDc.weaken (fun _ _ _ _ => trivial), nwAll_warm hW hN⟩⟩ rfl rfl hl.1 rfl (lv_room (Nat.le_of_ble_eq_true rfl)) dX10_takesNumber_4 ⟨Nat.le_of_ble_eq_true rfl, Nat.le_of_ble_eq_true rfl⟩) hS (fun q _ h => hFc q h) hFc (fun r328 z329 t H1 locs ht hvm hw hB hz1 hk1 hS => ?_)
  obtain ⟨rfl, h330, h331⟩ := hw
  obtain ⟨hP1, hK1, hD1⟩ := hB
  rw [ht] at hP1
  obtain ⟨hP, hD⟩ := va_join (wr := (wk_0 a_t q_t_bytes t_length z324 t_tokenAt t_tokenEnd t_own t_name t_number t_fault t_place q_t_bytes k_t_bytes g_t_bytes)) (w1 := []) hP hD [] [0, 1] rfl rfl (by decide) (by decide) hk1 hFc hP1 hD1
  generalize H1 = H at hP hS ⊢
  have hP : va_P (dC, dI) vwCl (wk_0 a_t q_t_bytes t_length z324 t_tokenAt t_tokenEnd t_own t_name t_number t_fault t_place q_t_bytes k_t_bytes g_t_bytes) H := hP
  have hD : va_D A (wk_0 a_t q_t_bytes t_length z324 t_tokenAt t_tokenEnd t_own t_name t_number t_fault t_place q_t_bytes k_t_bytes g_t_bytes) := hD
  refine zv_if_eq (tgt := 21) hx hb dX10_takesNumber_7 (by decide) (by omega) (fun c332 => ?_) (fun c332 => ?_)
  · refine lv_aload_n hx hb dX10_takesNumber_21 rfl (lv_at hl 0 rfl) ?_
    refine lv_iconst (v := iZ 1) hx hb dX10_takesNumber_22 (by decide) ?_
    refine lv_aload_n hx hb dX10_takesNumber_23 rfl (lv_at hl 0 rfl) ?_
    refine va_get (D := (dC, dI)) (ci := 10) (v := .int (iZ z324)) (C := RX10) (T := TX10) (N := 10) hx hb hts i_X10 hown hK hP 0 rfl rfl 2 (by decide) (hts _ q_122) (fun _ h9 => h9) rfl dX10_takesNumber_24 ?_
    have hPc := hP.sub (ws' := (wk_0 a_t q_t_bytes t_length z324 t_tokenAt t_tokenEnd t_own t_name t_number t_fault t_place q_t_bytes k_t_bytes g_t_bytes)) [0, 1] rfl
    have hDc := hD.sub (ws' := (wk_0 a_t q_t_bytes t_length z324 t_tokenAt t_tokenEnd t_own t_name t_number t_fault t_place q_t_bytes k_t_bytes g_t_bytes)) [0, 1] (by decide) rfl
    have hKc := hK.sub (tys' := [(k_t_bytes, .int)]) [0] rfl
    have hFc := va_free (wc := (wk_0 a_t q_t_bytes t_length z324 t_tokenAt t_tokenEnd t_own t_name t_number t_fault t_place q_t_bytes k_t_bytes g_t_bytes)) hD hS hA [0, 1] rfl
    refine va_calli (va_runV (As := [.int (iZ 1), .int (iZ z324)]) (rest := []) ⟨hx, hb, hml, hown, hts⟩ (z_X10_wrong l dC dI a_t 1 z324 q_t_bytes t_length z324 t_tokenAt t_tokenEnd t_own t_name t_number t_fault t_place k_t_bytes g_t_bytes H.size hb_g_t_bytes (by omega) (by omega) (by omega) (by omega) (by omega) (by omega) (by omega) (by omega) (by omega) (by omega)) (cwV 2 hts (gV q_133 q_134 q_135 q_136 q_137) rfl rfl rfl mdv_yX10_wrong ⟨Nat.le_of_ble_eq_true rfl, Nat.le_of_ble_eq_true rfl⟩) ⟨fun a U g mk q => by obtain ⟨q0, q1, qP, qK, qD, qN⟩ := q; exact ⟨q0, q1, qP, va_K.moved (u := U) (U := U.calling g mk a) (Vm.Alike.refl U.vm) qK, qD, nwAll_same (u := U) (U := U.calling g mk a) rfl qN⟩, va_recv hKc hPc (ci := 10) (q0 := 0) rfl rfl, fun U hU hW => ⟨rfl, by rw [hU], by rw [hU]; exact hPc, va_K.moved hW.alike hKc, hDc.weaken (fun _ _ _ _ => trivial), nwAll_warm hW hN⟩⟩ rfl rfl hl.1 rfl (lv_room (Nat.le_of_ble_eq_true rfl)) dX10_takesNumber_27 ⟨Nat.le_of_ble_eq_true rfl, Nat.le_of_ble_eq_true rfl⟩) hS (fun q _ h => hFc q h) hFc (fun r333 z334 t H1 locs ht hvm hw hB hz1 hk1 hS => ?_)
    obtain ⟨rfl, h335⟩ := hw
    obtain ⟨hP1, hK1, hD1⟩ := hB
    rw [ht] at hP1
    obtain ⟨hP, hD⟩ := va_join (wr := []) (w1 := (wk_0 a_t q_t_bytes t_length z324 t_tokenAt t_tokenEnd t_own t_name t_number 1 z324 q_t_bytes k_t_bytes g_t_bytes)) hP hD [0, 1] [] rfl rfl (by decide) (by decide) hk1 hFc hP1 hD1
    generalize H1 = H at hP hS ⊢
    have hP : va_P (dC, dI) vwCl (wk_0 a_t q_t_bytes t_length z324 t_tokenAt t_tokenEnd t_own t_name t_number 1 z324 q_t_bytes k_t_bytes g_t_bytes) H := hP
    have hD : va_D A (wk_0 a_t q_t_bytes t_length z324 t_tokenAt t_tokenEnd t_own t_name t_number 1 z324 q_t_bytes k_t_bytes g_t_bytes) := hD
    subst hQ
    exact W.zret (v := iZ z334) hx hb hr (zb_nar (by omega)) (fun t ht hW => ⟨⟨iZ z334, z334, rfl, ⟨rfl, by omega⟩, z324, t_tokenAt, t_tokenEnd, t_number, 1, z324, by omega, by omega, by omega, by omega, by omega, by omega, by omega, by rw [ht]; exact hP, va_K.moved hW.alike hK, hD⟩, hS.F ht⟩) hS.2.2 dX10_takesNumber_30
  · refine lv_aload_n hx hb dX10_takesNumber_10 rfl (lv_at hl 0 rfl) ?_
    refine va_get (D := (dC, dI)) (ci := 10) (v := .int (iZ z324)) (C := RX10) (T := TX10) (N := 10) hx hb hts i_X10 hown hK hP 0 rfl rfl 2 (by decide) (hts _ q_122) (fun _ h9 => h9) rfl dX10_takesNumber_11 ?_
    refine lv_aload_n hx hb dX10_takesNumber_14 rfl (lv_at hl 0 rfl) ?_
    refine va_get (D := (dC, dI)) (ci := 10) (v := .int (iZ t_tokenEnd)) (C := RX10) (T := TX10) (N := 10) hx hb hts i_X10 hown hK hP 0 rfl rfl 4 (by decide) (hts _ q_124) (fun _ h9 => h9) rfl dX10_takesNumber_15 ?_
    refine zv_icmp_ne (tgt := 31) hx hb dX10_takesNumber_18 (by decide) (by omega) (by omega) (fun c336 => ?_) (fun c336 => ?_)
    · refine lv_aload_n hx hb dX10_takesNumber_31 rfl (lv_at hl 0 rfl) ?_
      refine lv_aload_n hx hb dX10_takesNumber_32 rfl (lv_at hl 0 rfl) ?_
      refine va_get (D := (dC, dI)) (ci := 10) (v := .int (iZ z324)) (C := RX10) (T := TX10) (N := 10) hx hb hts i_X10 hown hK hP 0 rfl rfl 2 (by decide) (hts _ q_122) (fun _ h9 => h9) rfl dX10_takesNumber_33 ?_
      refine va_put (D := (dC, dI)) (ci := 10) (v := .int (iZ z324)) (ty := tyX10 3) (C := RX10) (T := TX10) (N := 10) hx hb hts i_X10 tyX10 tyX10_ok nmX10 hown hK hP hD hS 0 rfl rfl 3 (by decide) (hts _ q_123) (fun _ h9 => h9) rfl (tyX10_ok 3 (by decide)) rfl rfl (Nat.le_of_ble_eq_true rfl) dX10_takesNumber_36 (fun H locs hP hD hS => ?_)
      have hP : va_P (dC, dI) vwCl (wk_0 a_t q_t_bytes t_length z324 z324 t_tokenEnd t_own t_name t_number t_fault t_place q_t_bytes k_t_bytes g_t_bytes) H := hP
      have hD : va_D A (wk_0 a_t q_t_bytes t_length z324 z324 t_tokenEnd t_own t_name t_number t_fault t_place q_t_bytes k_t_bytes g_t_bytes) := hD
      refine lv_aload_n hx hb dX10_takesNumber_39 rfl (lv_at hl 0 rfl) ?_
      refine lv_iconst (v := iZ 0) hx hb dX10_takesNumber_40 (by decide) ?_
      refine va_put (D := (dC, dI)) (ci := 10) (v := .int (iZ 0)) (ty := tyX10 7) (C := RX10) (T := TX10) (N := 10) hx hb hts i_X10 tyX10 tyX10_ok nmX10 hown hK hP hD hS 0 rfl rfl 7 (by decide) (hts _ q_127) (fun _ h9 => h9) rfl (tyX10_ok 7 (by decide)) rfl rfl (Nat.le_of_ble_eq_true rfl) dX10_takesNumber_41 (fun H locs hP hD hS => ?_)
      have hP : va_P (dC, dI) vwCl (wk_0 a_t q_t_bytes t_length z324 z324 t_tokenEnd t_own t_name 0 t_fault t_place q_t_bytes k_t_bytes g_t_bytes) H := hP
      have hD : va_D A (wk_0 a_t q_t_bytes t_length z324 z324 t_tokenEnd t_own t_name 0 t_fault t_place q_t_bytes k_t_bytes g_t_bytes) := hD
      have lp_44 : ∀ (N44 : Nat) (H : Heap) (locs : List Loc) (ls : Array Slot) (f346 : Int) (f347 : Int), 0 ≤ f346 - z324 → 0 ≤ f347 + 2147483648 → 0 ≤ -f347 + 2147483647 → 0 ≤ -f346 + t_length → 0 ≤ -f346 + z324 + 3 → -f346 + t_length ≤ (N44 : Int) → va_P (dC, dI) vwCl (wk_0 a_t q_t_bytes t_length f346 z324 t_tokenEnd t_own t_name f347 t_fault t_place q_t_bytes k_t_bytes g_t_bytes) H → va_D A (wk_0 a_t q_t_bytes t_length f346 z324 t_tokenEnd t_own t_name f347 t_fault t_place q_t_bytes k_t_bytes g_t_bytes) → va_S A s.heap H locs → lv_has ls 3 [(0, .ref a_t), (1, .int (iZ p1)), (2, .int (iZ p2))] → W p l e (headSpec (Cond.code yX10_takesNumber cX10_takesNumber 3 (some .boolean) :: wA) ({ frames := 1, cells := 0, slots := 0, locals := 22 })).room s m [.ref a_t, .int (iZ p1), .int (iZ p2)].toArray below meth c H locs 0 0 Q (F0 m 44 ls []) := by
        intro N44
        induction N44 using Nat.strongRecOn with
        | ind N44 ih_44 =>
          intro H locs ls f346 f347 k44_0 k44_1 k44_2 k44_3 k44_4 hm44 hP hD hS hl
          refine lv_aload_n hx hb dX10_takesNumber_44 rfl (lv_at hl 0 rfl) ?_
          refine va_get (D := (dC, dI)) (ci := 10) (v := .int (iZ f346)) (C := RX10) (T := TX10) (N := 10) hx hb hts i_X10 hown hK hP 0 rfl rfl 2 (by decide) (hts _ q_122) (fun _ h9 => h9) rfl dX10_takesNumber_45 ?_
          refine lv_aload_n hx hb dX10_takesNumber_48 rfl (lv_at hl 0 rfl) ?_
          refine va_get (D := (dC, dI)) (ci := 10) (v := .int (iZ t_length)) (C := RX10) (T := TX10) (N := 10) hx hb hts i_X10 hown hK hP 0 rfl rfl 1 (by decide) (hts _ q_117) (fun _ h9 => h9) rfl dX10_takesNumber_49 ?_
          refine zv_icmp_ge (tgt := 120) hx hb dX10_takesNumber_52 (by decide) (by omega) (by omega) (fun c397 => ?_) (fun c397 => ?_)
          · refine lv_aload_n hx hb dX10_takesNumber_120 rfl (lv_at hl 0 rfl) ?_
            refine lv_aload_n hx hb dX10_takesNumber_121 rfl (lv_at hl 0 rfl) ?_
            refine va_get (D := (dC, dI)) (ci := 10) (v := .int (iZ f346)) (C := RX10) (T := TX10) (N := 10) hx hb hts i_X10 hown hK hP 0 rfl rfl 2 (by decide) (hts _ q_122) (fun _ h9 => h9) rfl dX10_takesNumber_122 ?_
            refine va_put (D := (dC, dI)) (ci := 10) (v := .int (iZ f346)) (ty := tyX10 4) (C := RX10) (T := TX10) (N := 10) hx hb hts i_X10 tyX10 tyX10_ok nmX10 hown hK hP hD hS 0 rfl rfl 4 (by decide) (hts _ q_124) (fun _ h9 => h9) rfl (tyX10_ok 4 (by decide)) rfl rfl (Nat.le_of_ble_eq_true rfl) dX10_takesNumber_125 (fun H locs hP hD hS => ?_)
            have hP : va_P (dC, dI) vwCl (wk_0 a_t q_t_bytes t_length f346 z324 f346 t_own t_name f347 t_fault t_place q_t_bytes k_t_bytes g_t_bytes) H := hP
            have hD : va_D A (wk_0 a_t q_t_bytes t_length f346 z324 f346 t_own t_name f347 t_fault t_place q_t_bytes k_t_bytes g_t_bytes) := hD
            refine lv_aload_n hx hb dX10_takesNumber_128 rfl (lv_at hl 0 rfl) ?_
            refine va_get (D := (dC, dI)) (ci := 10) (v := .int (iZ f346)) (C := RX10) (T := TX10) (N := 10) hx hb hts i_X10 hown hK hP 0 rfl rfl 2 (by decide) (hts _ q_122) (fun _ h9 => h9) rfl dX10_takesNumber_129 ?_
            refine lv_aload_n hx hb dX10_takesNumber_132 rfl (lv_at hl 0 rfl) ?_
            refine va_get (D := (dC, dI)) (ci := 10) (v := .int (iZ t_length)) (C := RX10) (T := TX10) (N := 10) hx hb hts i_X10 hown hK hP 0 rfl rfl 1 (by decide) (hts _ q_117) (fun _ h9 => h9) rfl dX10_takesNumber_133 ?_
            refine zv_icmp_ge (tgt := 164) hx hb dX10_takesNumber_136 (by decide) (by omega) (by omega) (fun c398 => ?_) (fun c398 => (by omega : False).elim)
            refine lv_aload_n hx hb dX10_takesNumber_164 rfl (lv_at hl 0 rfl) ?_
            refine va_get (D := (dC, dI)) (ci := 10) (v := .int (iZ f347)) (C := RX10) (T := TX10) (N := 10) hx hb hts i_X10 hown hK hP 0 rfl rfl 7 (by decide) (hts _ q_127) (fun _ h9 => h9) rfl dX10_takesNumber_165 ?_
            refine lv_iload_n hx hb dX10_takesNumber_168 rfl (lv_at hl 1 rfl) ?_
            refine zv_icmp_lt (tgt := 180) hx hb dX10_takesNumber_169 (by decide) (by omega) (by omega) (fun c399 => ?_) (fun c399 => ?_)
            · refine lv_aload_n hx hb dX10_takesNumber_180 rfl (lv_at hl 0 rfl) ?_
              refine lv_iconst (v := iZ 2) hx hb dX10_takesNumber_181 (by decide) ?_
              refine lv_aload_n hx hb dX10_takesNumber_182 rfl (lv_at hl 0 rfl) ?_
              refine va_get (D := (dC, dI)) (ci := 10) (v := .int (iZ z324)) (C := RX10) (T := TX10) (N := 10) hx hb hts i_X10 hown hK hP 0 rfl rfl 3 (by decide) (hts _ q_123) (fun _ h9 => h9) rfl dX10_takesNumber_183 ?_
              have hPc := hP.sub (ws' := (wk_0 a_t q_t_bytes t_length f346 z324 f346 t_own t_name f347 t_fault t_place q_t_bytes k_t_bytes g_t_bytes)) [0, 1] rfl
              have hDc := hD.sub (ws' := (wk_0 a_t q_t_bytes t_length f346 z324 f346 t_own t_name f347 t_fault t_place q_t_bytes k_t_bytes g_t_bytes)) [0, 1] (by decide) rfl
              have hKc := hK.sub (tys' := [(k_t_bytes, .int)]) [0] rfl
              have hFc := va_free (wc := (wk_0 a_t q_t_bytes t_length f346 z324 f346 t_own t_name f347 t_fault t_place q_t_bytes k_t_bytes g_t_bytes)) hD hS hA [0, 1] rfl
              refine va_calli (va_runV (As := [.int (iZ 2), .int (iZ z324)]) (rest := []) ⟨hx, hb, hml, hown, hts⟩ (z_X10_wrong l dC dI a_t 2 z324 q_t_bytes t_length f346 z324 f346 t_own t_name f347 t_fault t_place k_t_bytes g_t_bytes H.size hb_g_t_bytes (by omega) (by omega) (by omega) (by omega) (by omega) (by omega) (by omega) (by omega) (by omega) (by omega)) (cwV 2 hts (gV q_133 q_134 q_135 q_136 q_137) rfl rfl rfl mdv_yX10_wrong ⟨Nat.le_of_ble_eq_true rfl, Nat.le_of_ble_eq_true rfl⟩) ⟨fun a U g mk q => by obtain ⟨q0, q1, qP, qK, qD, qN⟩ := q; exact ⟨q0, q1, qP, va_K.moved (u := U) (U := U.calling g mk a) (Vm.Alike.refl U.vm) qK, qD, nwAll_same (u := U) (U := U.calling g mk a) rfl qN⟩, va_recv hKc hPc (ci := 10) (q0 := 0) rfl rfl, fun U hU hW => ⟨rfl, by rw [hU], by rw [hU]; exact hPc, va_K.moved hW.alike hKc, hDc.weaken (fun _ _ _ _ => trivial), nwAll_warm hW hN⟩⟩ rfl rfl hl.1 rfl (lv_room (Nat.le_of_ble_eq_true rfl)) dX10_takesNumber_186 ⟨Nat.le_of_ble_eq_true rfl, Nat.le_of_ble_eq_true rfl⟩) hS (fun q _ h => hFc q h) hFc (fun r400 z401 t H1 locs ht hvm hw hB hz1 hk1 hS => ?_)
              obtain ⟨rfl, h402⟩ := hw
              obtain ⟨hP1, hK1, hD1⟩ := hB
              rw [ht] at hP1
              obtain ⟨hP, hD⟩ := va_join (wr := []) (w1 := (wk_0 a_t q_t_bytes t_length f346 z324 f346 t_own t_name f347 2 z324 q_t_bytes k_t_bytes g_t_bytes)) hP hD [0, 1] [] rfl rfl (by decide) (by decide) hk1 hFc hP1 hD1
              generalize H1 = H at hP hS ⊢
              have hP : va_P (dC, dI) vwCl (wk_0 a_t q_t_bytes t_length f346 z324 f346 t_own t_name f347 2 z324 q_t_bytes k_t_bytes g_t_bytes) H := hP
              have hD : va_D A (wk_0 a_t q_t_bytes t_length f346 z324 f346 t_own t_name f347 2 z324 q_t_bytes k_t_bytes g_t_bytes) := hD
              refine zv_if_eq (tgt := 196) hx hb dX10_takesNumber_189 (by decide) (by omega) (fun c403 => ?_) (fun c403 => (by omega : False).elim)
              refine lv_iconst (v := iZ 0) hx hb dX10_takesNumber_196 (by decide) ?_
              subst hQ
              exact W.zret (v := iZ 0) hx hb hr rfl (fun t ht hW => ⟨⟨iZ 0, 0, rfl, ⟨rfl, by omega⟩, f346, z324, f346, f347, 2, z324, by omega, by omega, by omega, by omega, by omega, by omega, by omega, by rw [ht]; exact hP, va_K.moved hW.alike hK, hD⟩, hS.F ht⟩) hS.2.2 dX10_takesNumber_197
            · refine lv_aload_n hx hb dX10_takesNumber_172 rfl (lv_at hl 0 rfl) ?_
              refine va_get (D := (dC, dI)) (ci := 10) (v := .int (iZ f347)) (C := RX10) (T := TX10) (N := 10) hx hb hts i_X10 hown hK hP 0 rfl rfl 7 (by decide) (hts _ q_127) (fun _ h9 => h9) rfl dX10_takesNumber_173 ?_
              refine lv_iload_n hx hb dX10_takesNumber_176 rfl (lv_at hl 2 rfl) ?_
              refine zv_icmp_le (tgt := 192) hx hb dX10_takesNumber_177 (by decide) (by omega) (by omega) (fun c404 => ?_) (fun c404 => ?_)
              · refine lv_iconst (v := iZ 1) hx hb dX10_takesNumber_192 (by decide) ?_
                refine lv_goto (tgt := 197) hx hb dX10_takesNumber_193 (by decide) ?_
                subst hQ
                exact W.zret (v := iZ 1) hx hb hr rfl (fun t ht hW => ⟨⟨iZ 1, 1, rfl, ⟨rfl, by omega⟩, f346, z324, f346, f347, t_fault, t_place, by omega, by omega, by omega, by omega, by omega, by omega, by omega, by rw [ht]; exact hP, va_K.moved hW.alike hK, hD⟩, hS.F ht⟩) hS.2.2 dX10_takesNumber_197
              · refine lv_aload_n hx hb dX10_takesNumber_180 rfl (lv_at hl 0 rfl) ?_
                refine lv_iconst (v := iZ 2) hx hb dX10_takesNumber_181 (by decide) ?_
                refine lv_aload_n hx hb dX10_takesNumber_182 rfl (lv_at hl 0 rfl) ?_
                refine va_get (D := (dC, dI)) (ci := 10) (v := .int (iZ z324)) (C := RX10) (T := TX10) (N := 10) hx hb hts i_X10 hown hK hP 0 rfl rfl 3 (by decide) (hts _ q_123) (fun _ h9 => h9) rfl dX10_takesNumber_183 ?_
                have hPc := hP.sub (ws' := (wk_0 a_t q_t_bytes t_length f346 z324 f346 t_own t_name f347 t_fault t_place q_t_bytes k_t_bytes g_t_bytes)) [0, 1] rfl
                have hDc := hD.sub (ws' := (wk_0 a_t q_t_bytes t_length f346 z324 f346 t_own t_name f347 t_fault t_place q_t_bytes k_t_bytes g_t_bytes)) [0, 1] (by decide) rfl
                have hKc := hK.sub (tys' := [(k_t_bytes, .int)]) [0] rfl
                have hFc := va_free (wc := (wk_0 a_t q_t_bytes t_length f346 z324 f346 t_own t_name f347 t_fault t_place q_t_bytes k_t_bytes g_t_bytes)) hD hS hA [0, 1] rfl
                refine va_calli (va_runV (As := [.int (iZ 2), .int (iZ z324)]) (rest := []) ⟨hx, hb, hml, hown, hts⟩ (z_X10_wrong l dC dI a_t 2 z324 q_t_bytes t_length f346 z324 f346 t_own t_name f347 t_fault t_place k_t_bytes g_t_bytes H.size hb_g_t_bytes (by omega) (by omega) (by omega) (by omega) (by omega) (by omega) (by omega) (by omega) (by omega) (by omega)) (cwV 2 hts (gV q_133 q_134 q_135 q_136 q_137) rfl rfl rfl mdv_yX10_wrong ⟨Nat.le_of_ble_eq_true rfl, Nat.le_of_ble_eq_true rfl⟩) ⟨fun a U g mk q => by obtain ⟨q0, q1, qP, qK, qD, qN⟩ := q; exact ⟨q0, q1, qP, va_K.moved (u := U) (U := U.calling g mk a) (Vm.Alike.refl U.vm) qK, qD, nwAll_same (u := U) (U := U.calling g mk a) rfl qN⟩, va_recv hKc hPc (ci := 10) (q0 := 0) rfl rfl, fun U hU hW => ⟨rfl, by rw [hU], by rw [hU]; exact hPc, va_K.moved hW.alike hKc, hDc.weaken (fun _ _ _ _ => trivial), nwAll_warm hW hN⟩⟩ rfl rfl hl.1 rfl (lv_room (Nat.le_of_ble_eq_true rfl)) dX10_takesNumber_186 ⟨Nat.le_of_ble_eq_true rfl, Nat.le_of_ble_eq_true rfl⟩) hS (fun q _ h => hFc q h) hFc (fun r405 z406 t H1 locs ht hvm hw hB hz1 hk1 hS => ?_)
                obtain ⟨rfl, h407⟩ := hw
                obtain ⟨hP1, hK1, hD1⟩ := hB
                rw [ht] at hP1
                obtain ⟨hP, hD⟩ := va_join (wr := []) (w1 := (wk_0 a_t q_t_bytes t_length f346 z324 f346 t_own t_name f347 2 z324 q_t_bytes k_t_bytes g_t_bytes)) hP hD [0, 1] [] rfl rfl (by decide) (by decide) hk1 hFc hP1 hD1
                generalize H1 = H at hP hS ⊢
                have hP : va_P (dC, dI) vwCl (wk_0 a_t q_t_bytes t_length f346 z324 f346 t_own t_name f347 2 z324 q_t_bytes k_t_bytes g_t_bytes) H := hP
                have hD : va_D A (wk_0 a_t q_t_bytes t_length f346 z324 f346 t_own t_name f347 2 z324 q_t_bytes k_t_bytes g_t_bytes) := hD
                refine zv_if_eq (tgt := 196) hx hb dX10_takesNumber_189 (by decide) (by omega) (fun c408 => ?_) (fun c408 => (by omega : False).elim)
                refine lv_iconst (v := iZ 0) hx hb dX10_takesNumber_196 (by decide) ?_
                subst hQ
                exact W.zret (v := iZ 0) hx hb hr rfl (fun t ht hW => ⟨⟨iZ 0, 0, rfl, ⟨rfl, by omega⟩, f346, z324, f346, f347, 2, z324, by omega, by omega, by omega, by omega, by omega, by omega, by omega, by rw [ht]; exact hP, va_K.moved hW.alike hK, hD⟩, hS.F ht⟩) hS.2.2 dX10_takesNumber_197
          · refine lv_aload_n hx hb dX10_takesNumber_55 rfl (lv_at hl 0 rfl) ?_
            refine va_get (D := (dC, dI)) (ci := 10) (v := .int (iZ f346)) (C := RX10) (T := TX10) (N := 10) hx hb hts i_X10 hown hK hP 0 rfl rfl 2 (by decide) (hts _ q_122) (fun _ h9 => h9) rfl dX10_takesNumber_56 ?_
            refine lv_aload_n hx hb dX10_takesNumber_59 rfl (lv_at hl 0 rfl) ?_
            refine va_get (D := (dC, dI)) (ci := 10) (v := .int (iZ z324)) (C := RX10) (T := TX10) (N := 10) hx hb hts i_X10 hown hK hP 0 rfl rfl 3 (by decide) (hts _ q_123) (fun _ h9 => h9) rfl dX10_takesNumber_60 ?_
            refine lv_iconst (v := iZ 3) hx hb dX10_takesNumber_63 (by decide) ?_
            refine zv_iadd hx hb (z324 + 3) (by omega) dX10_takesNumber_64 ?_
            refine zv_icmp_ge (tgt := 120) hx hb dX10_takesNumber_65 (by decide) (by omega) (by omega) (fun c409 => ?_) (fun c409 => ?_)
            · refine lv_aload_n hx hb dX10_takesNumber_120 rfl (lv_at hl 0 rfl) ?_
              refine lv_aload_n hx hb dX10_takesNumber_121 rfl (lv_at hl 0 rfl) ?_
              refine va_get (D := (dC, dI)) (ci := 10) (v := .int (iZ f346)) (C := RX10) (T := TX10) (N := 10) hx hb hts i_X10 hown hK hP 0 rfl rfl 2 (by decide) (hts _ q_122) (fun _ h9 => h9) rfl dX10_takesNumber_122 ?_
              refine va_put (D := (dC, dI)) (ci := 10) (v := .int (iZ f346)) (ty := tyX10 4) (C := RX10) (T := TX10) (N := 10) hx hb hts i_X10 tyX10 tyX10_ok nmX10 hown hK hP hD hS 0 rfl rfl 4 (by decide) (hts _ q_124) (fun _ h9 => h9) rfl (tyX10_ok 4 (by decide)) rfl rfl (Nat.le_of_ble_eq_true rfl) dX10_takesNumber_125 (fun H locs hP hD hS => ?_)
              have hP : va_P (dC, dI) vwCl (wk_0 a_t q_t_bytes t_length f346 z324 f346 t_own t_name f347 t_fault t_place q_t_bytes k_t_bytes g_t_bytes) H := hP
              have hD : va_D A (wk_0 a_t q_t_bytes t_length f346 z324 f346 t_own t_name f347 t_fault t_place q_t_bytes k_t_bytes g_t_bytes) := hD
              refine lv_aload_n hx hb dX10_takesNumber_128 rfl (lv_at hl 0 rfl) ?_
              refine va_get (D := (dC, dI)) (ci := 10) (v := .int (iZ f346)) (C := RX10) (T := TX10) (N := 10) hx hb hts i_X10 hown hK hP 0 rfl rfl 2 (by decide) (hts _ q_122) (fun _ h9 => h9) rfl dX10_takesNumber_129 ?_
              refine lv_aload_n hx hb dX10_takesNumber_132 rfl (lv_at hl 0 rfl) ?_
              refine va_get (D := (dC, dI)) (ci := 10) (v := .int (iZ t_length)) (C := RX10) (T := TX10) (N := 10) hx hb hts i_X10 hown hK hP 0 rfl rfl 1 (by decide) (hts _ q_117) (fun _ h9 => h9) rfl dX10_takesNumber_133 ?_
              refine zv_icmp_ge (tgt := 164) hx hb dX10_takesNumber_136 (by decide) (by omega) (by omega) (fun c410 => (by omega : False).elim) (fun c410 => ?_)
              refine lv_aload_n hx hb dX10_takesNumber_139 rfl (lv_at hl 0 rfl) ?_
              refine va_get (D := (dC, dI)) (ci := 10) (v := .ref q_t_bytes) (C := RX10) (T := TX10) (N := 10) hx hb hts i_X10 hown hK hP 0 rfl rfl 0 (by decide) (hts _ q_118) (fun _ h9 => h9) rfl dX10_takesNumber_140 ?_
              refine lv_aload_n hx hb dX10_takesNumber_143 rfl (lv_at hl 0 rfl) ?_
              refine va_get (D := (dC, dI)) (ci := 10) (v := .int (iZ f346)) (C := RX10) (T := TX10) (N := 10) hx hb hts i_X10 hown hK hP 0 rfl rfl 2 (by decide) (hts _ q_122) (fun _ h9 => h9) rfl dX10_takesNumber_144 ?_
              refine zv_iald hx hb hK hP 1 0 rfl rfl (by omega) (by omega) (by omega) dX10_takesNumber_147 (fun z411 ez411 => ?_)
              have bz411 : 0 ≤ z411 ∧ z411 ≤ 255 := by rw [ez411]; exact hb_g_t_bytes _ (by omega)
              have hPc := hP.sub (ws' := []) [] rfl
              have hDc := hD.sub (ws' := []) [] (by decide) rfl
              have hKc := hK.sub (tys' := []) [] rfl
              have hFc := va_free (wc := []) hD hS hA [] rfl
              refine va_calli (va_runS (As := [.int (iZ z411)]) (rest := []) ⟨hx, hb, hml, hown, hts⟩ (z_X10_isDigit l dC dI z411 H.size (by omega)) (va_cwS 1 hts (gS q_147 q_148 q_136 q_130) rfl rfl rfl mds_yX10_isDigit ⟨Nat.le_of_ble_eq_true rfl, Nat.le_of_ble_eq_true rfl⟩) ⟨fun a U g mk q => by obtain ⟨q0, q1, qP, qK, qD, qN⟩ := q; exact ⟨q0, q1, qP, va_K.moved (u := U) (U := U.calling g mk a) (Vm.Alike.refl U.vm) qK, qD, nwAll_same (u := U) (U := U.calling g mk a) rfl qN⟩, fun U hU hW => ⟨rfl, by rw [hU], by rw [hU]; exact hPc, va_K.moved hW.alike hKc, hDc.weaken (fun _ _ _ _ => trivial), nwAll_warm hW hN⟩⟩ rfl rfl hl.1 rfl (lv_room (Nat.le_of_ble_eq_true rfl)) dX10_takesNumber_148 ⟨Nat.le_of_ble_eq_true rfl, Nat.le_of_ble_eq_true rfl⟩) hS (fun q _ h => hFc q h) hFc (fun r412 z413 t H1 locs ht hvm hw hB hz1 hk1 hS => ?_)
              obtain ⟨rfl, h414, h415⟩ := hw
              obtain ⟨hP1, hK1, hD1⟩ := hB
              rw [ht] at hP1
              obtain ⟨hP, hD⟩ := va_join (wr := (wk_0 a_t q_t_bytes t_length f346 z324 f346 t_own t_name f347 t_fault t_place q_t_bytes k_t_bytes g_t_bytes)) (w1 := []) hP hD [] [0, 1] rfl rfl (by decide) (by decide) hk1 hFc hP1 hD1
              generalize H1 = H at hP hS ⊢
              have hP : va_P (dC, dI) vwCl (wk_0 a_t q_t_bytes t_length f346 z324 f346 t_own t_name f347 t_fault t_place q_t_bytes k_t_bytes g_t_bytes) H := hP
              have hD : va_D A (wk_0 a_t q_t_bytes t_length f346 z324 f346 t_own t_name f347 t_fault t_place q_t_bytes k_t_bytes g_t_bytes) := hD
              refine zv_if_eq (tgt := 164) hx hb dX10_takesNumber_151 (by decide) (by omega) (fun c416 => ?_) (fun c416 => ?_)
              · refine lv_aload_n hx hb dX10_takesNumber_164 rfl (lv_at hl 0 rfl) ?_
                refine va_get (D := (dC, dI)) (ci := 10) (v := .int (iZ f347)) (C := RX10) (T := TX10) (N := 10) hx hb hts i_X10 hown hK hP 0 rfl rfl 7 (by decide) (hts _ q_127) (fun _ h9 => h9) rfl dX10_takesNumber_165 ?_
                refine lv_iload_n hx hb dX10_takesNumber_168 rfl (lv_at hl 1 rfl) ?_
                refine zv_icmp_lt (tgt := 180) hx hb dX10_takesNumber_169 (by decide) (by omega) (by omega) (fun c417 => ?_) (fun c417 => ?_)
                · refine lv_aload_n hx hb dX10_takesNumber_180 rfl (lv_at hl 0 rfl) ?_
                  refine lv_iconst (v := iZ 2) hx hb dX10_takesNumber_181 (by decide) ?_
                  refine lv_aload_n hx hb dX10_takesNumber_182 rfl (lv_at hl 0 rfl) ?_
                  refine va_get (D := (dC, dI)) (ci := 10) (v := .int (iZ z324)) (C := RX10) (T := TX10) (N := 10) hx hb hts i_X10 hown hK hP 0 rfl rfl 3 (by decide) (hts _ q_123) (fun _ h9 => h9) rfl dX10_takesNumber_183 ?_
                  have hPc := hP.sub (ws' := (wk_0 a_t q_t_bytes t_length f346 z324 f346 t_own t_name f347 t_fault t_place q_t_bytes k_t_bytes g_t_bytes)) [0, 1] rfl
                  have hDc := hD.sub (ws' := (wk_0 a_t q_t_bytes t_length f346 z324 f346 t_own t_name f347 t_fault t_place q_t_bytes k_t_bytes g_t_bytes)) [0, 1] (by decide) rfl
                  have hKc := hK.sub (tys' := [(k_t_bytes, .int)]) [0] rfl
                  have hFc := va_free (wc := (wk_0 a_t q_t_bytes t_length f346 z324 f346 t_own t_name f347 t_fault t_place q_t_bytes k_t_bytes g_t_bytes)) hD hS hA [0, 1] rfl
                  refine va_calli (va_runV (As := [.int (iZ 2), .int (iZ z324)]) (rest := []) ⟨hx, hb, hml, hown, hts⟩ (z_X10_wrong l dC dI a_t 2 z324 q_t_bytes t_length f346 z324 f346 t_own t_name f347 t_fault t_place k_t_bytes g_t_bytes H.size hb_g_t_bytes (by omega) (by omega) (by omega) (by omega) (by omega) (by omega) (by omega) (by omega) (by omega) (by omega)) (cwV 2 hts (gV q_133 q_134 q_135 q_136 q_137) rfl rfl rfl mdv_yX10_wrong ⟨Nat.le_of_ble_eq_true rfl, Nat.le_of_ble_eq_true rfl⟩) ⟨fun a U g mk q => by obtain ⟨q0, q1, qP, qK, qD, qN⟩ := q; exact ⟨q0, q1, qP, va_K.moved (u := U) (U := U.calling g mk a) (Vm.Alike.refl U.vm) qK, qD, nwAll_same (u := U) (U := U.calling g mk a) rfl qN⟩, va_recv hKc hPc (ci := 10) (q0 := 0) rfl rfl, fun U hU hW => ⟨rfl, by rw [hU], by rw [hU]; exact hPc, va_K.moved hW.alike hKc, hDc.weaken (fun _ _ _ _ => trivial), nwAll_warm hW hN⟩⟩ rfl rfl hl.1 rfl (lv_room (Nat.le_of_ble_eq_true rfl)) dX10_takesNumber_186 ⟨Nat.le_of_ble_eq_true rfl, Nat.le_of_ble_eq_true rfl⟩) hS (fun q _ h => hFc q h) hFc (fun r418 z419 t H1 locs ht hvm hw hB hz1 hk1 hS => ?_)
                  obtain ⟨rfl, h420⟩ := hw
                  obtain ⟨hP1, hK1, hD1⟩ := hB
                  rw [ht] at hP1
                  obtain ⟨hP, hD⟩ := va_join (wr := []) (w1 := (wk_0 a_t q_t_bytes t_length f346 z324 f346 t_own t_name f347 2 z324 q_t_bytes k_t_bytes g_t_bytes)) hP hD [0, 1] [] rfl rfl (by decide) (by decide) hk1 hFc hP1 hD1
                  generalize H1 = H at hP hS ⊢
                  have hP : va_P (dC, dI) vwCl (wk_0 a_t q_t_bytes t_length f346 z324 f346 t_own t_name f347 2 z324 q_t_bytes k_t_bytes g_t_bytes) H := hP
                  have hD : va_D A (wk_0 a_t q_t_bytes t_length f346 z324 f346 t_own t_name f347 2 z324 q_t_bytes k_t_bytes g_t_bytes) := hD
                  refine zv_if_eq (tgt := 196) hx hb dX10_takesNumber_189 (by decide) (by omega) (fun c421 => ?_) (fun c421 => (by omega : False).elim)
                  refine lv_iconst (v := iZ 0) hx hb dX10_takesNumber_196 (by decide) ?_
                  subst hQ
                  exact W.zret (v := iZ 0) hx hb hr rfl (fun t ht hW => ⟨⟨iZ 0, 0, rfl, ⟨rfl, by omega⟩, f346, z324, f346, f347, 2, z324, by omega, by omega, by omega, by omega, by omega, by omega, by omega, by rw [ht]; exact hP, va_K.moved hW.alike hK, hD⟩, hS.F ht⟩) hS.2.2 dX10_takesNumber_197
                · refine lv_aload_n hx hb dX10_takesNumber_172 rfl (lv_at hl 0 rfl) ?_
                  refine va_get (D := (dC, dI)) (ci := 10) (v := .int (iZ f347)) (C := RX10) (T := TX10) (N := 10) hx hb hts i_X10 hown hK hP 0 rfl rfl 7 (by decide) (hts _ q_127) (fun _ h9 => h9) rfl dX10_takesNumber_173 ?_
                  refine lv_iload_n hx hb dX10_takesNumber_176 rfl (lv_at hl 2 rfl) ?_
                  refine zv_icmp_le (tgt := 192) hx hb dX10_takesNumber_177 (by decide) (by omega) (by omega) (fun c422 => ?_) (fun c422 => ?_)
                  · refine lv_iconst (v := iZ 1) hx hb dX10_takesNumber_192 (by decide) ?_
                    refine lv_goto (tgt := 197) hx hb dX10_takesNumber_193 (by decide) ?_
                    subst hQ
                    exact W.zret (v := iZ 1) hx hb hr rfl (fun t ht hW => ⟨⟨iZ 1, 1, rfl, ⟨rfl, by omega⟩, f346, z324, f346, f347, t_fault, t_place, by omega, by omega, by omega, by omega, by omega, by omega, by omega, by rw [ht]; exact hP, va_K.moved hW.alike hK, hD⟩, hS.F ht⟩) hS.2.2 dX10_takesNumber_197
                  · refine lv_aload_n hx hb dX10_takesNumber_180 rfl (lv_at hl 0 rfl) ?_
                    refine lv_iconst (v := iZ 2) hx hb dX10_takesNumber_181 (by decide) ?_
                    refine lv_aload_n hx hb dX10_takesNumber_182 rfl (lv_at hl 0 rfl) ?_
                    refine va_get (D := (dC, dI)) (ci := 10) (v := .int (iZ z324)) (C := RX10) (T := TX10) (N := 10) hx hb hts i_X10 hown hK hP 0 rfl rfl 3 (by decide) (hts _ q_123) (fun _ h9 => h9) rfl dX10_takesNumber_183 ?_
                    have hPc := hP.sub (ws' := (wk_0 a_t q_t_bytes t_length f346 z324 f346 t_own t_name f347 t_fault t_place q_t_bytes k_t_bytes g_t_bytes)) [0, 1] rfl
                    have hDc := hD.sub (ws' := (wk_0 a_t q_t_bytes t_length f346 z324 f346 t_own t_name f347 t_fault t_place q_t_bytes k_t_bytes g_t_bytes)) [0, 1] (by decide) rfl
                    have hKc := hK.sub (tys' := [(k_t_bytes, .int)]) [0] rfl
                    have hFc := va_free (wc := (wk_0 a_t q_t_bytes t_length f346 z324 f346 t_own t_name f347 t_fault t_place q_t_bytes k_t_bytes g_t_bytes)) hD hS hA [0, 1] rfl
                    refine va_calli (va_runV (As := [.int (iZ 2), .int (iZ z324)]) (rest := []) ⟨hx, hb, hml, hown, hts⟩ (z_X10_wrong l dC dI a_t 2 z324 q_t_bytes t_length f346 z324 f346 t_own t_name f347 t_fault t_place k_t_bytes g_t_bytes H.size hb_g_t_bytes (by omega) (by omega) (by omega) (by omega) (by omega) (by omega) (by omega) (by omega) (by omega) (by omega)) (cwV 2 hts (gV q_133 q_134 q_135 q_136 q_137) rfl rfl rfl mdv_yX10_wrong ⟨Nat.le_of_ble_eq_true rfl, Nat.le_of_ble_eq_true rfl⟩) ⟨fun a U g mk q => by obtain ⟨q0, q1, qP, qK, qD, qN⟩ := q; exact ⟨q0, q1, qP, va_K.moved (u := U) (U := U.calling g mk a) (Vm.Alike.refl U.vm) qK, qD, nwAll_same (u := U) (U := U.calling g mk a) rfl qN⟩, va_recv hKc hPc (ci := 10) (q0 := 0) rfl rfl, fun U hU hW => ⟨rfl, by rw [hU], by rw [hU]; exact hPc, va_K.moved hW.alike hKc, hDc.weaken (fun _ _ _ _ => trivial), nwAll_warm hW hN⟩⟩ rfl rfl hl.1 rfl (lv_room (Nat.le_of_ble_eq_true rfl)) dX10_takesNumber_186 ⟨Nat.le_of_ble_eq_true rfl, Nat.le_of_ble_eq_true rfl⟩) hS (fun q _ h => hFc q h) hFc (fun r423 z424 t H1 locs ht hvm hw hB hz1 hk1 hS => ?_)
                    obtain ⟨rfl, h425⟩ := hw
                    obtain ⟨hP1, hK1, hD1⟩ := hB
                    rw [ht] at hP1
                    obtain ⟨hP, hD⟩ := va_join (wr := []) (w1 := (wk_0 a_t q_t_bytes t_length f346 z324 f346 t_own t_name f347 2 z324 q_t_bytes k_t_bytes g_t_bytes)) hP hD [0, 1] [] rfl rfl (by decide) (by decide) hk1 hFc hP1 hD1
                    generalize H1 = H at hP hS ⊢
                    have hP : va_P (dC, dI) vwCl (wk_0 a_t q_t_bytes t_length f346 z324 f346 t_own t_name f347 2 z324 q_t_bytes k_t_bytes g_t_bytes) H := hP
                    have hD : va_D A (wk_0 a_t q_t_bytes t_length f346 z324 f346 t_own t_name f347 2 z324 q_t_bytes k_t_bytes g_t_bytes) := hD
                    refine zv_if_eq (tgt := 196) hx hb dX10_takesNumber_189 (by decide) (by omega) (fun c426 => ?_) (fun c426 => (by omega : False).elim)
                    refine lv_iconst (v := iZ 0) hx hb dX10_takesNumber_196 (by decide) ?_
                    subst hQ
                    exact W.zret (v := iZ 0) hx hb hr rfl (fun t ht hW => ⟨⟨iZ 0, 0, rfl, ⟨rfl, by omega⟩, f346, z324, f346, f347, 2, z324, by omega, by omega, by omega, by omega, by omega, by omega, by omega, by rw [ht]; exact hP, va_K.moved hW.alike hK, hD⟩, hS.F ht⟩) hS.2.2 dX10_takesNumber_197
              · refine lv_aload_n hx hb dX10_takesNumber_154 rfl (lv_at hl 0 rfl) ?_
                refine lv_iconst (v := iZ 1) hx hb dX10_takesNumber_155 (by decide) ?_
                refine lv_aload_n hx hb dX10_takesNumber_156 rfl (lv_at hl 0 rfl) ?_
                refine va_get (D := (dC, dI)) (ci := 10) (v := .int (iZ f346)) (C := RX10) (T := TX10) (N := 10) hx hb hts i_X10 hown hK hP 0 rfl rfl 2 (by decide) (hts _ q_122) (fun _ h9 => h9) rfl dX10_takesNumber_157 ?_
                have hPc := hP.sub (ws' := (wk_0 a_t q_t_bytes t_length f346 z324 f346 t_own t_name f347 t_fault t_place q_t_bytes k_t_bytes g_t_bytes)) [0, 1] rfl
                have hDc := hD.sub (ws' := (wk_0 a_t q_t_bytes t_length f346 z324 f346 t_own t_name f347 t_fault t_place q_t_bytes k_t_bytes g_t_bytes)) [0, 1] (by decide) rfl
                have hKc := hK.sub (tys' := [(k_t_bytes, .int)]) [0] rfl
                have hFc := va_free (wc := (wk_0 a_t q_t_bytes t_length f346 z324 f346 t_own t_name f347 t_fault t_place q_t_bytes k_t_bytes g_t_bytes)) hD hS hA [0, 1] rfl
                refine va_calli (va_runV (As := [.int (iZ 1), .int (iZ f346)]) (rest := []) ⟨hx, hb, hml, hown, hts⟩ (z_X10_wrong l dC dI a_t 1 f346 q_t_bytes t_length f346 z324 f346 t_own t_name f347 t_fault t_place k_t_bytes g_t_bytes H.size hb_g_t_bytes (by omega) (by omega) (by omega) (by omega) (by omega) (by omega) (by omega) (by omega) (by omega) (by omega)) (cwV 2 hts (gV q_133 q_134 q_135 q_136 q_137) rfl rfl rfl mdv_yX10_wrong ⟨Nat.le_of_ble_eq_true rfl, Nat.le_of_ble_eq_true rfl⟩) ⟨fun a U g mk q => by obtain ⟨q0, q1, qP, qK, qD, qN⟩ := q; exact ⟨q0, q1, qP, va_K.moved (u := U) (U := U.calling g mk a) (Vm.Alike.refl U.vm) qK, qD, nwAll_same (u := U) (U := U.calling g mk a) rfl qN⟩, va_recv hKc hPc (ci := 10) (q0 := 0) rfl rfl, fun U hU hW => ⟨rfl, by rw [hU], by rw [hU]; exact hPc, va_K.moved hW.alike hKc, hDc.weaken (fun _ _ _ _ => trivial), nwAll_warm hW hN⟩⟩ rfl rfl hl.1 rfl (lv_room (Nat.le_of_ble_eq_true rfl)) dX10_takesNumber_160 ⟨Nat.le_of_ble_eq_true rfl, Nat.le_of_ble_eq_true rfl⟩) hS (fun q _ h => hFc q h) hFc (fun r427 z428 t H1 locs ht hvm hw hB hz1 hk1 hS => ?_)
                obtain ⟨rfl, h429⟩ := hw
                obtain ⟨hP1, hK1, hD1⟩ := hB
                rw [ht] at hP1
                obtain ⟨hP, hD⟩ := va_join (wr := []) (w1 := (wk_0 a_t q_t_bytes t_length f346 z324 f346 t_own t_name f347 1 f346 q_t_bytes k_t_bytes g_t_bytes)) hP hD [0, 1] [] rfl rfl (by decide) (by decide) hk1 hFc hP1 hD1
                generalize H1 = H at hP hS ⊢
                have hP : va_P (dC, dI) vwCl (wk_0 a_t q_t_bytes t_length f346 z324 f346 t_own t_name f347 1 f346 q_t_bytes k_t_bytes g_t_bytes) H := hP
                have hD : va_D A (wk_0 a_t q_t_bytes t_length f346 z324 f346 t_own t_name f347 1 f346 q_t_bytes k_t_bytes g_t_bytes) := hD
                subst hQ
                exact W.zret (v := iZ z428) hx hb hr (zb_nar (by omega)) (fun t ht hW => ⟨⟨iZ z428, z428, rfl, ⟨rfl, by omega⟩, f346, z324, f346, f347, 1, f346, by omega, by omega, by omega, by omega, by omega, by omega, by omega, by rw [ht]; exact hP, va_K.moved hW.alike hK, hD⟩, hS.F ht⟩) hS.2.2 dX10_takesNumber_163
            · refine lv_aload_n hx hb dX10_takesNumber_68 rfl (lv_at hl 0 rfl) ?_
              refine va_get (D := (dC, dI)) (ci := 10) (v := .ref q_t_bytes) (C := RX10) (T := TX10) (N := 10) hx hb hts i_X10 hown hK hP 0 rfl rfl 0 (by decide) (hts _ q_118) (fun _ h9 => h9) rfl dX10_takesNumber_69 ?_
              refine lv_aload_n hx hb dX10_takesNumber_72 rfl (lv_at hl 0 rfl) ?_
              refine va_get (D := (dC, dI)) (ci := 10) (v := .int (iZ f346)) (C := RX10) (T := TX10) (N := 10) hx hb hts i_X10 hown hK hP 0 rfl rfl 2 (by decide) (hts _ q_122) (fun _ h9 => h9) rfl dX10_takesNumber_73 ?_
              refine zv_iald hx hb hK hP 1 0 rfl rfl (by omega) (by omega) (by omega) dX10_takesNumber_76 (fun z430 ez430 => ?_)
              have bz430 : 0 ≤ z430 ∧ z430 ≤ 255 := by rw [ez430]; exact hb_g_t_bytes _ (by omega)
              have hPc := hP.sub (ws' := []) [] rfl
              have hDc := hD.sub (ws' := []) [] (by decide) rfl
              have hKc := hK.sub (tys' := []) [] rfl
              have hFc := va_free (wc := []) hD hS hA [] rfl
              refine va_calli (va_runS (As := [.int (iZ z430)]) (rest := []) ⟨hx, hb, hml, hown, hts⟩ (z_X10_isDigit l dC dI z430 H.size (by omega)) (va_cwS 1 hts (gS q_147 q_148 q_136 q_130) rfl rfl rfl mds_yX10_isDigit ⟨Nat.le_of_ble_eq_true rfl, Nat.le_of_ble_eq_true rfl⟩) ⟨fun a U g mk q => by obtain ⟨q0, q1, qP, qK, qD, qN⟩ := q; exact ⟨q0, q1, qP, va_K.moved (u := U) (U := U.calling g mk a) (Vm.Alike.refl U.vm) qK, qD, nwAll_same (u := U) (U := U.calling g mk a) rfl qN⟩, fun U hU hW => ⟨rfl, by rw [hU], by rw [hU]; exact hPc, va_K.moved hW.alike hKc, hDc.weaken (fun _ _ _ _ => trivial), nwAll_warm hW hN⟩⟩ rfl rfl hl.1 rfl (lv_room (Nat.le_of_ble_eq_true rfl)) dX10_takesNumber_77 ⟨Nat.le_of_ble_eq_true rfl, Nat.le_of_ble_eq_true rfl⟩) hS (fun q _ h => hFc q h) hFc (fun r431 z432 t H1 locs ht hvm hw hB hz1 hk1 hS => ?_)
              obtain ⟨rfl, h433, h434⟩ := hw
              obtain ⟨hP1, hK1, hD1⟩ := hB
              rw [ht] at hP1
              obtain ⟨hP, hD⟩ := va_join (wr := (wk_0 a_t q_t_bytes t_length f346 z324 t_tokenEnd t_own t_name f347 t_fault t_place q_t_bytes k_t_bytes g_t_bytes)) (w1 := []) hP hD [] [0, 1] rfl rfl (by decide) (by decide) hk1 hFc hP1 hD1
              generalize H1 = H at hP hS ⊢
              have hP : va_P (dC, dI) vwCl (wk_0 a_t q_t_bytes t_length f346 z324 t_tokenEnd t_own t_name f347 t_fault t_place q_t_bytes k_t_bytes g_t_bytes) H := hP
              have hD : va_D A (wk_0 a_t q_t_bytes t_length f346 z324 t_tokenEnd t_own t_name f347 t_fault t_place q_t_bytes k_t_bytes g_t_bytes) := hD
              refine zv_if_eq (tgt := 120) hx hb dX10_takesNumber_80 (by decide) (by omega) (fun c435 => ?_) (fun c435 => ?_)
              · refine lv_aload_n hx hb dX10_takesNumber_120 rfl (lv_at hl 0 rfl) ?_
                refine lv_aload_n hx hb dX10_takesNumber_121 rfl (lv_at hl 0 rfl) ?_
                refine va_get (D := (dC, dI)) (ci := 10) (v := .int (iZ f346)) (C := RX10) (T := TX10) (N := 10) hx hb hts i_X10 hown hK hP 0 rfl rfl 2 (by decide) (hts _ q_122) (fun _ h9 => h9) rfl dX10_takesNumber_122 ?_
                refine va_put (D := (dC, dI)) (ci := 10) (v := .int (iZ f346)) (ty := tyX10 4) (C := RX10) (T := TX10) (N := 10) hx hb hts i_X10 tyX10 tyX10_ok nmX10 hown hK hP hD hS 0 rfl rfl 4 (by decide) (hts _ q_124) (fun _ h9 => h9) rfl (tyX10_ok 4 (by decide)) rfl rfl (Nat.le_of_ble_eq_true rfl) dX10_takesNumber_125 (fun H locs hP hD hS => ?_)
                have hP : va_P (dC, dI) vwCl (wk_0 a_t q_t_bytes t_length f346 z324 f346 t_own t_name f347 t_fault t_place q_t_bytes k_t_bytes g_t_bytes) H := hP
                have hD : va_D A (wk_0 a_t q_t_bytes t_length f346 z324 f346 t_own t_name f347 t_fault t_place q_t_bytes k_t_bytes g_t_bytes) := hD
                refine lv_aload_n hx hb dX10_takesNumber_128 rfl (lv_at hl 0 rfl) ?_
                refine va_get (D := (dC, dI)) (ci := 10) (v := .int (iZ f346)) (C := RX10) (T := TX10) (N := 10) hx hb hts i_X10 hown hK hP 0 rfl rfl 2 (by decide) (hts _ q_122) (fun _ h9 => h9) rfl dX10_takesNumber_129 ?_
                refine lv_aload_n hx hb dX10_takesNumber_132 rfl (lv_at hl 0 rfl) ?_
                refine va_get (D := (dC, dI)) (ci := 10) (v := .int (iZ t_length)) (C := RX10) (T := TX10) (N := 10) hx hb hts i_X10 hown hK hP 0 rfl rfl 1 (by decide) (hts _ q_117) (fun _ h9 => h9) rfl dX10_takesNumber_133 ?_
                refine zv_icmp_ge (tgt := 164) hx hb dX10_takesNumber_136 (by decide) (by omega) (by omega) (fun c436 => (by omega : False).elim) (fun c436 => ?_)
                refine lv_aload_n hx hb dX10_takesNumber_139 rfl (lv_at hl 0 rfl) ?_
                refine va_get (D := (dC, dI)) (ci := 10) (v := .ref q_t_bytes) (C := RX10) (T := TX10) (N := 10) hx hb hts i_X10 hown hK hP 0 rfl rfl 0 (by decide) (hts _ q_118) (fun _ h9 => h9) rfl dX10_takesNumber_140 ?_
                refine lv_aload_n hx hb dX10_takesNumber_143 rfl (lv_at hl 0 rfl) ?_
                refine va_get (D := (dC, dI)) (ci := 10) (v := .int (iZ f346)) (C := RX10) (T := TX10) (N := 10) hx hb hts i_X10 hown hK hP 0 rfl rfl 2 (by decide) (hts _ q_122) (fun _ h9 => h9) rfl dX10_takesNumber_144 ?_
                refine zv_iald hx hb hK hP 1 0 rfl rfl (by omega) (by omega) (by omega) dX10_takesNumber_147 (fun z437 ez437 => ?_)
                have bz437 : 0 ≤ z437 ∧ z437 ≤ 255 := by rw [ez437]; exact hb_g_t_bytes _ (by omega)
                have hPc := hP.sub (ws' := []) [] rfl
                have hDc := hD.sub (ws' := []) [] (by decide) rfl
                have hKc := hK.sub (tys' := []) [] rfl
                have hFc := va_free (wc := []) hD hS hA [] rfl
                refine va_calli (va_runS (As := [.int (iZ z437)]) (rest := []) ⟨hx, hb, hml, hown, hts⟩ (z_X10_isDigit l dC dI z437 H.size (by omega)) (va_cwS 1 hts (gS q_147 q_148 q_136 q_130) rfl rfl rfl mds_yX10_isDigit ⟨Nat.le_of_ble_eq_true rfl, Nat.le_of_ble_eq_true rfl⟩) ⟨fun a U g mk q => by obtain ⟨q0, q1, qP, qK, qD, qN⟩ := q; exact ⟨q0, q1, qP, va_K.moved (u := U) (U := U.calling g mk a) (Vm.Alike.refl U.vm) qK, qD, nwAll_same (u := U) (U := U.calling g mk a) rfl qN⟩, fun U hU hW => ⟨rfl, by rw [hU], by rw [hU]; exact hPc, va_K.moved hW.alike hKc, hDc.weaken (fun _ _ _ _ => trivial), nwAll_warm hW hN⟩⟩ rfl rfl hl.1 rfl (lv_room (Nat.le_of_ble_eq_true rfl)) dX10_takesNumber_148 ⟨Nat.le_of_ble_eq_true rfl, Nat.le_of_ble_eq_true rfl⟩) hS (fun q _ h => hFc q h) hFc (fun r438 z439 t H1 locs ht hvm hw hB hz1 hk1 hS => ?_)
                obtain ⟨rfl, h440, h441⟩ := hw
                obtain ⟨hP1, hK1, hD1⟩ := hB
                rw [ht] at hP1
                obtain ⟨hP, hD⟩ := va_join (wr := (wk_0 a_t q_t_bytes t_length f346 z324 f346 t_own t_name f347 t_fault t_place q_t_bytes k_t_bytes g_t_bytes)) (w1 := []) hP hD [] [0, 1] rfl rfl (by decide) (by decide) hk1 hFc hP1 hD1
                generalize H1 = H at hP hS ⊢
                have hP : va_P (dC, dI) vwCl (wk_0 a_t q_t_bytes t_length f346 z324 f346 t_own t_name f347 t_fault t_place q_t_bytes k_t_bytes g_t_bytes) H := hP
                have hD : va_D A (wk_0 a_t q_t_bytes t_length f346 z324 f346 t_own t_name f347 t_fault t_place q_t_bytes k_t_bytes g_t_bytes) := hD
                refine zv_if_eq (tgt := 164) hx hb dX10_takesNumber_151 (by decide) (by omega) (fun c442 => ?_) (fun c442 => ?_)
                · refine lv_aload_n hx hb dX10_takesNumber_164 rfl (lv_at hl 0 rfl) ?_
                  refine va_get (D := (dC, dI)) (ci := 10) (v := .int (iZ f347)) (C := RX10) (T := TX10) (N := 10) hx hb hts i_X10 hown hK hP 0 rfl rfl 7 (by decide) (hts _ q_127) (fun _ h9 => h9) rfl dX10_takesNumber_165 ?_
                  refine lv_iload_n hx hb dX10_takesNumber_168 rfl (lv_at hl 1 rfl) ?_
                  refine zv_icmp_lt (tgt := 180) hx hb dX10_takesNumber_169 (by decide) (by omega) (by omega) (fun c443 => ?_) (fun c443 => ?_)
                  · refine lv_aload_n hx hb dX10_takesNumber_180 rfl (lv_at hl 0 rfl) ?_
                    refine lv_iconst (v := iZ 2) hx hb dX10_takesNumber_181 (by decide) ?_
                    refine lv_aload_n hx hb dX10_takesNumber_182 rfl (lv_at hl 0 rfl) ?_
                    refine va_get (D := (dC, dI)) (ci := 10) (v := .int (iZ z324)) (C := RX10) (T := TX10) (N := 10) hx hb hts i_X10 hown hK hP 0 rfl rfl 3 (by decide) (hts _ q_123) (fun _ h9 => h9) rfl dX10_takesNumber_183 ?_
                    have hPc := hP.sub (ws' := (wk_0 a_t q_t_bytes t_length f346 z324 f346 t_own t_name f347 t_fault t_place q_t_bytes k_t_bytes g_t_bytes)) [0, 1] rfl
                    have hDc := hD.sub (ws' := (wk_0 a_t q_t_bytes t_length f346 z324 f346 t_own t_name f347 t_fault t_place q_t_bytes k_t_bytes g_t_bytes)) [0, 1] (by decide) rfl
                    have hKc := hK.sub (tys' := [(k_t_bytes, .int)]) [0] rfl
                    have hFc := va_free (wc := (wk_0 a_t q_t_bytes t_length f346 z324 f346 t_own t_name f347 t_fault t_place q_t_bytes k_t_bytes g_t_bytes)) hD hS hA [0, 1] rfl
                    refine va_calli (va_runV (As := [.int (iZ 2), .int (iZ z324)]) (rest := []) ⟨hx, hb, hml, hown, hts⟩ (z_X10_wrong l dC dI a_t 2 z324 q_t_bytes t_length f346 z324 f346 t_own t_name f347 t_fault t_place k_t_bytes g_t_bytes H.size hb_g_t_bytes (by omega) (by omega) (by omega) (by omega) (by omega) (by omega) (by omega) (by omega) (by omega) (by omega)) (cwV 2 hts (gV q_133 q_134 q_135 q_136 q_137) rfl rfl rfl mdv_yX10_wrong ⟨Nat.le_of_ble_eq_true rfl, Nat.le_of_ble_eq_true rfl⟩) ⟨fun a U g mk q => by obtain ⟨q0, q1, qP, qK, qD, qN⟩ := q; exact ⟨q0, q1, qP, va_K.moved (u := U) (U := U.calling g mk a) (Vm.Alike.refl U.vm) qK, qD, nwAll_same (u := U) (U := U.calling g mk a) rfl qN⟩, va_recv hKc hPc (ci := 10) (q0 := 0) rfl rfl, fun U hU hW => ⟨rfl, by rw [hU], by rw [hU]; exact hPc, va_K.moved hW.alike hKc, hDc.weaken (fun _ _ _ _ => trivial), nwAll_warm hW hN⟩⟩ rfl rfl hl.1 rfl (lv_room (Nat.le_of_ble_eq_true rfl)) dX10_takesNumber_186 ⟨Nat.le_of_ble_eq_true rfl, Nat.le_of_ble_eq_true rfl⟩) hS (fun q _ h => hFc q h) hFc (fun r444 z445 t H1 locs ht hvm hw hB hz1 hk1 hS => ?_)
                    obtain ⟨rfl, h446⟩ := hw
                    obtain ⟨hP1, hK1, hD1⟩ := hB
                    rw [ht] at hP1
                    obtain ⟨hP, hD⟩ := va_join (wr := []) (w1 := (wk_0 a_t q_t_bytes t_length f346 z324 f346 t_own t_name f347 2 z324 q_t_bytes k_t_bytes g_t_bytes)) hP hD [0, 1] [] rfl rfl (by decide) (by decide) hk1 hFc hP1 hD1
                    generalize H1 = H at hP hS ⊢
                    have hP : va_P (dC, dI) vwCl (wk_0 a_t q_t_bytes t_length f346 z324 f346 t_own t_name f347 2 z324 q_t_bytes k_t_bytes g_t_bytes) H := hP
                    have hD : va_D A (wk_0 a_t q_t_bytes t_length f346 z324 f346 t_own t_name f347 2 z324 q_t_bytes k_t_bytes g_t_bytes) := hD
                    refine zv_if_eq (tgt := 196) hx hb dX10_takesNumber_189 (by decide) (by omega) (fun c447 => ?_) (fun c447 => (by omega : False).elim)
                    refine lv_iconst (v := iZ 0) hx hb dX10_takesNumber_196 (by decide) ?_
                    subst hQ
                    exact W.zret (v := iZ 0) hx hb hr rfl (fun t ht hW => ⟨⟨iZ 0, 0, rfl, ⟨rfl, by omega⟩, f346, z324, f346, f347, 2, z324, by omega, by omega, by omega, by omega, by omega, by omega, by omega, by rw [ht]; exact hP, va_K.moved hW.alike hK, hD⟩, hS.F ht⟩) hS.2.2 dX10_takesNumber_197
                  · refine lv_aload_n hx hb dX10_takesNumber_172 rfl (lv_at hl 0 rfl) ?_
                    refine va_get (D := (dC, dI)) (ci := 10) (v := .int (iZ f347)) (C := RX10) (T := TX10) (N := 10) hx hb hts i_X10 hown hK hP 0 rfl rfl 7 (by decide) (hts _ q_127) (fun _ h9 => h9) rfl dX10_takesNumber_173 ?_
                    refine lv_iload_n hx hb dX10_takesNumber_176 rfl (lv_at hl 2 rfl) ?_
                    refine zv_icmp_le (tgt := 192) hx hb dX10_takesNumber_177 (by decide) (by omega) (by omega) (fun c448 => ?_) (fun c448 => ?_)
                    · refine lv_iconst (v := iZ 1) hx hb dX10_takesNumber_192 (by decide) ?_
                      refine lv_goto (tgt := 197) hx hb dX10_takesNumber_193 (by decide) ?_
                      subst hQ
                      exact W.zret (v := iZ 1) hx hb hr rfl (fun t ht hW => ⟨⟨iZ 1, 1, rfl, ⟨rfl, by omega⟩, f346, z324, f346, f347, t_fault, t_place, by omega, by omega, by omega, by omega, by omega, by omega, by omega, by rw [ht]; exact hP, va_K.moved hW.alike hK, hD⟩, hS.F ht⟩) hS.2.2 dX10_takesNumber_197
                    · refine lv_aload_n hx hb dX10_takesNumber_180 rfl (lv_at hl 0 rfl) ?_
                      refine lv_iconst (v := iZ 2) hx hb dX10_takesNumber_181 (by decide) ?_
                      refine lv_aload_n hx hb dX10_takesNumber_182 rfl (lv_at hl 0 rfl) ?_
                      refine va_get (D := (dC, dI)) (ci := 10) (v := .int (iZ z324)) (C := RX10) (T := TX10) (N := 10) hx hb hts i_X10 hown hK hP 0 rfl rfl 3 (by decide) (hts _ q_123) (fun _ h9 => h9) rfl dX10_takesNumber_183 ?_
                      have hPc := hP.sub (ws' := (wk_0 a_t q_t_bytes t_length f346 z324 f346 t_own t_name f347 t_fault t_place q_t_bytes k_t_bytes g_t_bytes)) [0, 1] rfl
                      have hDc := hD.sub (ws' := (wk_0 a_t q_t_bytes t_length f346 z324 f346 t_own t_name f347 t_fault t_place q_t_bytes k_t_bytes g_t_bytes)) [0, 1] (by decide) rfl
                      have hKc := hK.sub (tys' := [(k_t_bytes, .int)]) [0] rfl
                      have hFc := va_free (wc := (wk_0 a_t q_t_bytes t_length f346 z324 f346 t_own t_name f347 t_fault t_place q_t_bytes k_t_bytes g_t_bytes)) hD hS hA [0, 1] rfl
                      refine va_calli (va_runV (As := [.int (iZ 2), .int (iZ z324)]) (rest := []) ⟨hx, hb, hml, hown, hts⟩ (z_X10_wrong l dC dI a_t 2 z324 q_t_bytes t_length f346 z324 f346 t_own t_name f347 t_fault t_place k_t_bytes g_t_bytes H.size hb_g_t_bytes (by omega) (by omega) (by omega) (by omega) (by omega) (by omega) (by omega) (by omega) (by omega) (by omega)) (cwV 2 hts (gV q_133 q_134 q_135 q_136 q_137) rfl rfl rfl mdv_yX10_wrong ⟨Nat.le_of_ble_eq_true rfl, Nat.le_of_ble_eq_true rfl⟩) ⟨fun a U g mk q => by obtain ⟨q0, q1, qP, qK, qD, qN⟩ := q; exact ⟨q0, q1, qP, va_K.moved (u := U) (U := U.calling g mk a) (Vm.Alike.refl U.vm) qK, qD, nwAll_same (u := U) (U := U.calling g mk a) rfl qN⟩, va_recv hKc hPc (ci := 10) (q0 := 0) rfl rfl, fun U hU hW => ⟨rfl, by rw [hU], by rw [hU]; exact hPc, va_K.moved hW.alike hKc, hDc.weaken (fun _ _ _ _ => trivial), nwAll_warm hW hN⟩⟩ rfl rfl hl.1 rfl (lv_room (Nat.le_of_ble_eq_true rfl)) dX10_takesNumber_186 ⟨Nat.le_of_ble_eq_true rfl, Nat.le_of_ble_eq_true rfl⟩) hS (fun q _ h => hFc q h) hFc (fun r449 z450 t H1 locs ht hvm hw hB hz1 hk1 hS => ?_)
                      obtain ⟨rfl, h451⟩ := hw
                      obtain ⟨hP1, hK1, hD1⟩ := hB
                      rw [ht] at hP1
                      obtain ⟨hP, hD⟩ := va_join (wr := []) (w1 := (wk_0 a_t q_t_bytes t_length f346 z324 f346 t_own t_name f347 2 z324 q_t_bytes k_t_bytes g_t_bytes)) hP hD [0, 1] [] rfl rfl (by decide) (by decide) hk1 hFc hP1 hD1
                      generalize H1 = H at hP hS ⊢
                      have hP : va_P (dC, dI) vwCl (wk_0 a_t q_t_bytes t_length f346 z324 f346 t_own t_name f347 2 z324 q_t_bytes k_t_bytes g_t_bytes) H := hP
                      have hD : va_D A (wk_0 a_t q_t_bytes t_length f346 z324 f346 t_own t_name f347 2 z324 q_t_bytes k_t_bytes g_t_bytes) := hD
                      refine zv_if_eq (tgt := 196) hx hb dX10_takesNumber_189 (by decide) (by omega) (fun c452 => ?_) (fun c452 => (by omega : False).elim)
                      refine lv_iconst (v := iZ 0) hx hb dX10_takesNumber_196 (by decide) ?_
                      subst hQ
                      exact W.zret (v := iZ 0) hx hb hr rfl (fun t ht hW => ⟨⟨iZ 0, 0, rfl, ⟨rfl, by omega⟩, f346, z324, f346, f347, 2, z324, by omega, by omega, by omega, by omega, by omega, by omega, by omega, by rw [ht]; exact hP, va_K.moved hW.alike hK, hD⟩, hS.F ht⟩) hS.2.2 dX10_takesNumber_197
                · refine lv_aload_n hx hb dX10_takesNumber_154 rfl (lv_at hl 0 rfl) ?_
                  refine lv_iconst (v := iZ 1) hx hb dX10_takesNumber_155 (by decide) ?_
                  refine lv_aload_n hx hb dX10_takesNumber_156 rfl (lv_at hl 0 rfl) ?_
                  refine va_get (D := (dC, dI)) (ci := 10) (v := .int (iZ f346)) (C := RX10) (T := TX10) (N := 10) hx hb hts i_X10 hown hK hP 0 rfl rfl 2 (by decide) (hts _ q_122) (fun _ h9 => h9) rfl dX10_takesNumber_157 ?_
                  have hPc := hP.sub (ws' := (wk_0 a_t q_t_bytes t_length f346 z324 f346 t_own t_name f347 t_fault t_place q_t_bytes k_t_bytes g_t_bytes)) [0, 1] rfl
                  have hDc := hD.sub (ws' := (wk_0 a_t q_t_bytes t_length f346 z324 f346 t_own t_name f347 t_fault t_place q_t_bytes k_t_bytes g_t_bytes)) [0, 1] (by decide) rfl
                  have hKc := hK.sub (tys' := [(k_t_bytes, .int)]) [0] rfl
                  have hFc := va_free (wc := (wk_0 a_t q_t_bytes t_length f346 z324 f346 t_own t_name f347 t_fault t_place q_t_bytes k_t_bytes g_t_bytes)) hD hS hA [0, 1] rfl
                  refine va_calli (va_runV (As := [.int (iZ 1), .int (iZ f346)]) (rest := []) ⟨hx, hb, hml, hown, hts⟩ (z_X10_wrong l dC dI a_t 1 f346 q_t_bytes t_length f346 z324 f346 t_own t_name f347 t_fault t_place k_t_bytes g_t_bytes H.size hb_g_t_bytes (by omega) (by omega) (by omega) (by omega) (by omega) (by omega) (by omega) (by omega) (by omega) (by omega)) (cwV 2 hts (gV q_133 q_134 q_135 q_136 q_137) rfl rfl rfl mdv_yX10_wrong ⟨Nat.le_of_ble_eq_true rfl, Nat.le_of_ble_eq_true rfl⟩) ⟨fun a U g mk q => by obtain ⟨q0, q1, qP, qK, qD, qN⟩ := q; exact ⟨q0, q1, qP, va_K.moved (u := U) (U := U.calling g mk a) (Vm.Alike.refl U.vm) qK, qD, nwAll_same (u := U) (U := U.calling g mk a) rfl qN⟩, va_recv hKc hPc (ci := 10) (q0 := 0) rfl rfl, fun U hU hW => ⟨rfl, by rw [hU], by rw [hU]; exact hPc, va_K.moved hW.alike hKc, hDc.weaken (fun _ _ _ _ => trivial), nwAll_warm hW hN⟩⟩ rfl rfl hl.1 rfl (lv_room (Nat.le_of_ble_eq_true rfl)) dX10_takesNumber_160 ⟨Nat.le_of_ble_eq_true rfl, Nat.le_of_ble_eq_true rfl⟩) hS (fun q _ h => hFc q h) hFc (fun r453 z454 t H1 locs ht hvm hw hB hz1 hk1 hS => ?_)
                  obtain ⟨rfl, h455⟩ := hw
                  obtain ⟨hP1, hK1, hD1⟩ := hB
                  rw [ht] at hP1
                  obtain ⟨hP, hD⟩ := va_join (wr := []) (w1 := (wk_0 a_t q_t_bytes t_length f346 z324 f346 t_own t_name f347 1 f346 q_t_bytes k_t_bytes g_t_bytes)) hP hD [0, 1] [] rfl rfl (by decide) (by decide) hk1 hFc hP1 hD1
                  generalize H1 = H at hP hS ⊢
                  have hP : va_P (dC, dI) vwCl (wk_0 a_t q_t_bytes t_length f346 z324 f346 t_own t_name f347 1 f346 q_t_bytes k_t_bytes g_t_bytes) H := hP
                  have hD : va_D A (wk_0 a_t q_t_bytes t_length f346 z324 f346 t_own t_name f347 1 f346 q_t_bytes k_t_bytes g_t_bytes) := hD
                  subst hQ
                  exact W.zret (v := iZ z454) hx hb hr (zb_nar (by omega)) (fun t ht hW => ⟨⟨iZ z454, z454, rfl, ⟨rfl, by omega⟩, f346, z324, f346, f347, 1, f346, by omega, by omega, by omega, by omega, by omega, by omega, by omega, by rw [ht]; exact hP, va_K.moved hW.alike hK, hD⟩, hS.F ht⟩) hS.2.2 dX10_takesNumber_163
              · refine lv_aload_n hx hb dX10_takesNumber_83 rfl (lv_at hl 0 rfl) ?_
                refine lv_aload_n hx hb dX10_takesNumber_84 rfl (lv_at hl 0 rfl) ?_
                refine va_get (D := (dC, dI)) (ci := 10) (v := .int (iZ f347)) (C := RX10) (T := TX10) (N := 10) hx hb hts i_X10 hown hK hP 0 rfl rfl 7 (by decide) (hts _ q_127) (fun _ h9 => h9) rfl dX10_takesNumber_85 ?_
                refine lv_bipush (v := iZ 10) hx hb dX10_takesNumber_88 (by decide) ?_
                refine zv_imul hx hb (10 * f347) (by omega) dX10_takesNumber_90 ?_
                refine lv_aload_n hx hb dX10_takesNumber_91 rfl (lv_at hl 0 rfl) ?_
                refine va_get (D := (dC, dI)) (ci := 10) (v := .ref q_t_bytes) (C := RX10) (T := TX10) (N := 10) hx hb hts i_X10 hown hK hP 0 rfl rfl 0 (by decide) (hts _ q_118) (fun _ h9 => h9) rfl dX10_takesNumber_92 ?_
                refine lv_aload_n hx hb dX10_takesNumber_95 rfl (lv_at hl 0 rfl) ?_
                refine va_get (D := (dC, dI)) (ci := 10) (v := .int (iZ f346)) (C := RX10) (T := TX10) (N := 10) hx hb hts i_X10 hown hK hP 0 rfl rfl 2 (by decide) (hts _ q_122) (fun _ h9 => h9) rfl dX10_takesNumber_96 ?_
                refine zv_iald hx hb hK hP 1 0 rfl rfl (by omega) (by omega) (by omega) dX10_takesNumber_99 (fun z456 ez456 => ?_)
                have bz456 : 0 ≤ z456 ∧ z456 ≤ 255 := by rw [ez456]; exact hb_g_t_bytes _ (by omega)
                refine zv_iadd hx hb (10 * f347 + z456) (by omega) dX10_takesNumber_100 ?_
                refine lv_bipush (v := iZ 48) hx hb dX10_takesNumber_101 (by decide) ?_
                refine zv_isub hx hb (10 * f347 + z456 - 48) (by omega) dX10_takesNumber_103 ?_
                refine zv_norm (fun z457 lz457 uz457 => ?_)
                refine va_put (D := (dC, dI)) (ci := 10) (v := .int (iZ z457)) (ty := tyX10 7) (C := RX10) (T := TX10) (N := 10) hx hb hts i_X10 tyX10 tyX10_ok nmX10 hown hK hP hD hS 0 rfl rfl 7 (by decide) (hts _ q_127) (fun _ h9 => h9) rfl (tyX10_ok 7 (by decide)) rfl rfl (Nat.le_of_ble_eq_true rfl) dX10_takesNumber_104 (fun H locs hP hD hS => ?_)
                have hP : va_P (dC, dI) vwCl (wk_0 a_t q_t_bytes t_length f346 z324 t_tokenEnd t_own t_name z457 t_fault t_place q_t_bytes k_t_bytes g_t_bytes) H := hP
                have hD : va_D A (wk_0 a_t q_t_bytes t_length f346 z324 t_tokenEnd t_own t_name z457 t_fault t_place q_t_bytes k_t_bytes g_t_bytes) := hD
                refine lv_aload_n hx hb dX10_takesNumber_107 rfl (lv_at hl 0 rfl) ?_
                refine lv_dup hx hb dX10_takesNumber_108 rfl ?_
                refine va_get (D := (dC, dI)) (ci := 10) (v := .int (iZ f346)) (C := RX10) (T := TX10) (N := 10) hx hb hts i_X10 hown hK hP 0 rfl rfl 2 (by decide) (hts _ q_122) (fun _ h9 => h9) rfl dX10_takesNumber_109 ?_
                refine lv_iconst (v := iZ 1) hx hb dX10_takesNumber_112 (by decide) ?_
                refine zv_iadd hx hb (f346 + 1) (by omega) dX10_takesNumber_113 ?_
                refine va_put (D := (dC, dI)) (ci := 10) (v := .int (iZ (f346 + 1))) (ty := tyX10 2) (C := RX10) (T := TX10) (N := 10) hx hb hts i_X10 tyX10 tyX10_ok nmX10 hown hK hP hD hS 0 rfl rfl 2 (by decide) (hts _ q_122) (fun _ h9 => h9) rfl (tyX10_ok 2 (by decide)) rfl rfl (Nat.le_of_ble_eq_true rfl) dX10_takesNumber_114 (fun H locs hP hD hS => ?_)
                have hP : va_P (dC, dI) vwCl (wk_0 a_t q_t_bytes t_length (f346 + 1) z324 t_tokenEnd t_own t_name z457 t_fault t_place q_t_bytes k_t_bytes g_t_bytes) H := hP
                have hD : va_D A (wk_0 a_t q_t_bytes t_length (f346 + 1) z324 t_tokenEnd t_own t_name z457 t_fault t_place q_t_bytes k_t_bytes g_t_bytes) := hD
                refine lv_goto (tgt := 44) hx hb dX10_takesNumber_117 (by decide) ?_
                exact ih_44 (N44 - 1) (by omega) _ _ _ (f346 + 1) z457 (by omega) (by omega) (by omega) (by omega) (by omega) (by omega) hP hD hS (lv_sub hl [0, 1, 2] rfl)
      exact lp_44 ((t_length - z324 : Int)).toNat _ _ _ z324 0 (by omega) (by omega) (by omega) (by omega) (by omega) (by omega) hP hD hS (lv_sub hl [0, 1, 2] rfl)
    · refine lv_aload_n hx hb dX10_takesNumber_21 rfl (lv_at hl 0 rfl) ?_
      refine lv_iconst (v := iZ 1) hx hb dX10_takesNumber_22 (by decide) ?_
      refine lv_aload_n hx hb dX10_takesNumber_23 rfl (lv_at hl 0 rfl) ?_
      refine va_get (D := (dC, dI)) (ci := 10) (v := .int (iZ z324)) (C := RX10) (T := TX10) (N := 10) hx hb hts i_X10 hown hK hP 0 rfl rfl 2 (by decide) (hts _ q_122) (fun _ h9 => h9) rfl dX10_takesNumber_24 ?_
      have hPc := hP.sub (ws' := (wk_0 a_t q_t_bytes t_length z324 t_tokenAt t_tokenEnd t_own t_name t_number t_fault t_place q_t_bytes k_t_bytes g_t_bytes)) [0, 1] rfl
      have hDc := hD.sub (ws' := (wk_0 a_t q_t_bytes t_length z324 t_tokenAt t_tokenEnd t_own t_name t_number t_fault t_place q_t_bytes k_t_bytes g_t_bytes)) [0, 1] (by decide) rfl
      have hKc := hK.sub (tys' := [(k_t_bytes, .int)]) [0] rfl
      have hFc := va_free (wc := (wk_0 a_t q_t_bytes t_length z324 t_tokenAt t_tokenEnd t_own t_name t_number t_fault t_place q_t_bytes k_t_bytes g_t_bytes)) hD hS hA [0, 1] rfl
      refine va_calli (va_runV (As := [.int (iZ 1), .int (iZ z324)]) (rest := []) ⟨hx, hb, hml, hown, hts⟩ (z_X10_wrong l dC dI a_t 1 z324 q_t_bytes t_length z324 t_tokenAt t_tokenEnd t_own t_name t_number t_fault t_place k_t_bytes g_t_bytes H.size hb_g_t_bytes (by omega) (by omega) (by omega) (by omega) (by omega) (by omega) (by omega) (by omega) (by omega) (by omega)) (cwV 2 hts (gV q_133 q_134 q_135 q_136 q_137) rfl rfl rfl mdv_yX10_wrong ⟨Nat.le_of_ble_eq_true rfl, Nat.le_of_ble_eq_true rfl⟩) ⟨fun a U g mk q => by obtain ⟨q0, q1, qP, qK, qD, qN⟩ := q; exact ⟨q0, q1, qP, va_K.moved (u := U) (U := U.calling g mk a) (Vm.Alike.refl U.vm) qK, qD, nwAll_same (u := U) (U := U.calling g mk a) rfl qN⟩, va_recv hKc hPc (ci := 10) (q0 := 0) rfl rfl, fun U hU hW => ⟨rfl, by rw [hU], by rw [hU]; exact hPc, va_K.moved hW.alike hKc, hDc.weaken (fun _ _ _ _ => trivial), nwAll_warm hW hN⟩⟩ rfl rfl hl.1 rfl (lv_room (Nat.le_of_ble_eq_true rfl)) dX10_takesNumber_27 ⟨Nat.le_of_ble_eq_true rfl, Nat.le_of_ble_eq_true rfl⟩) hS (fun q _ h => hFc q h) hFc (fun r458 z459 t H1 locs ht hvm hw hB hz1 hk1 hS => ?_)
      obtain ⟨rfl, h460⟩ := hw
      obtain ⟨hP1, hK1, hD1⟩ := hB
      rw [ht] at hP1
      obtain ⟨hP, hD⟩ := va_join (wr := []) (w1 := (wk_0 a_t q_t_bytes t_length z324 t_tokenAt t_tokenEnd t_own t_name t_number 1 z324 q_t_bytes k_t_bytes g_t_bytes)) hP hD [0, 1] [] rfl rfl (by decide) (by decide) hk1 hFc hP1 hD1
      generalize H1 = H at hP hS ⊢
      have hP : va_P (dC, dI) vwCl (wk_0 a_t q_t_bytes t_length z324 t_tokenAt t_tokenEnd t_own t_name t_number 1 z324 q_t_bytes k_t_bytes g_t_bytes) H := hP
      have hD : va_D A (wk_0 a_t q_t_bytes t_length z324 t_tokenAt t_tokenEnd t_own t_name t_number 1 z324 q_t_bytes k_t_bytes g_t_bytes) := hD
      subst hQ
      exact W.zret (v := iZ z459) hx hb hr (zb_nar (by omega)) (fun t ht hW => ⟨⟨iZ z459, z459, rfl, ⟨rfl, by omega⟩, z324, t_tokenAt, t_tokenEnd, t_number, 1, z324, by omega, by omega, by omega, by omega, by omega, by omega, by omega, by rw [ht]; exact hP, va_K.moved hW.alike hK, hD⟩, hS.F ht⟩) hS.2.2 dX10_takesNumber_30
set_option maxHeartbeats 4000000 in
set_option maxRecDepth 100000 in
theorem z_X10_register (l : Launch) (dC : Nat → ClassId) (dI : Nat → Nat → Nat) (a_t : Nat) (q_t_bytes : Nat) (t_length : Int) (t_at : Int) (t_tokenAt : Int) (t_tokenEnd : Int) (t_own : Int) (t_name : Int64) (t_number : Int) (t_fault : Int) (t_place : Int) (k_t_bytes : ClassId) (g_t_bytes : Nat → Int) (sz : Nat) (hb_g_t_bytes : ∀ j : Nat, j < 1600 → 0 ≤ g_t_bytes j ∧ g_t_bytes j ≤ 255) (b_t_length : 0 ≤ t_length ∧ t_length ≤ 1600) (b_t_at : 0 ≤ t_at ∧ t_at ≤ 1600) (b_t_tokenAt : 0 ≤ t_tokenAt ∧ t_tokenAt ≤ 1599) (b_t_tokenEnd : -1 ≤ t_tokenEnd ∧ t_tokenEnd ≤ 1600) (b_t_own : -1 ≤ t_own ∧ t_own ≤ 13) (b_t_number : -2147483648 ≤ t_number ∧ t_number ≤ 2147483647) (b_t_fault : -2147483648 ≤ t_fault ∧ t_fault ≤ 2147483647) (b_t_place : -2147483648 ≤ t_place ∧ t_place ≤ 2147483647) : Met l yX10_register (Cond.code yX10_register cX10_register 2 (some .int) :: wA) ({ frames := 0, cells := 0, slots := 0, locals := 0 }) (va_Pc [.ref a_t] (fun U => U.heap.size = sz ∧ va_P (dC, dI) vwCl (wk_0 a_t q_t_bytes t_length t_at t_tokenAt t_tokenEnd t_own t_name t_number t_fault t_place q_t_bytes k_t_bytes g_t_bytes) U.heap ∧ va_K (dC, dI) vwCl [(k_t_bytes, .int)] U ∧ va_D (fun _ => True) (wk_0 a_t q_t_bytes t_length t_at t_tokenAt t_tokenEnd t_own t_name t_number t_fault t_place q_t_bytes k_t_bytes g_t_bytes) ∧ nwAll U)) (va_Qi (fun (r : Int32) (zR : Int) => r = iZ zR ∧ (-1 ≤ zR ∧ zR ≤ 7)) (fun zR t => va_P (dC, dI) vwCl (wk_0 a_t q_t_bytes t_length t_at t_tokenAt t_tokenEnd t_own t_name t_number t_fault t_place q_t_bytes k_t_bytes g_t_bytes) t.heap ∧ va_K (dC, dI) vwCl [(k_t_bytes, .int)] t ∧ va_D (va_A (wk_0 a_t q_t_bytes t_length t_at t_tokenAt t_tokenEnd t_own t_name t_number t_fault t_place q_t_bytes k_t_bytes g_t_bytes) sz) (wk_0 a_t q_t_bytes t_length t_at t_tokenAt t_tokenEnd t_own t_name t_number t_fault t_place q_t_bytes k_t_bytes g_t_bytes)) (va_A (wk_0 a_t q_t_bytes t_length t_at t_tokenAt t_tokenEnd t_own t_name t_number t_fault t_place q_t_bytes k_t_bytes g_t_bytes) sz)) 0 0 (va_A (wk_0 a_t q_t_bytes t_length t_at t_tokenAt t_tokenEnd t_own t_name t_number t_fault t_place q_t_bytes k_t_bytes g_t_bytes) sz) := by
  refine Met.ofW (cc := cX10_register) (maxL := 2) (ret := (some .int)) (by decide) rfl ?_
  intro p e s m args below meth c s₁ B hml hv
  obtain ⟨rfl, hsz, hP, hK, hD0, hN⟩ := hv
  have hx := B.exec
  have hb := B.bytes
  have hr := B.returns
  have hts : ∀ w ∈ wA, w.before [.ref a_t].toArray s = true := fun w h => atoms_spec (ws := Cond.code yX10_register cX10_register 2 (some .int) :: wA) B.pre w (List.mem_cons_of_mem _ h)
  have hown : s.vm.findClass RX10 = some m.cls := findClass_of_methodNamed B.named
  have hlocks := B.notSynchronized
  subst hsz
  have hD := hD0.self (sz := s.heap.size)
  generalize hQ : MQ below (va_Qi (fun (r : Int32) (zR : Int) => r = iZ zR ∧ (-1 ≤ zR ∧ zR ≤ 7)) (fun zR t => va_P (dC, dI) vwCl (wk_0 a_t q_t_bytes t_length t_at t_tokenAt t_tokenEnd t_own t_name t_number t_fault t_place q_t_bytes k_t_bytes g_t_bytes) t.heap ∧ va_K (dC, dI) vwCl [(k_t_bytes, .int)] t ∧ va_D (va_A (wk_0 a_t q_t_bytes t_length t_at t_tokenAt t_tokenEnd t_own t_name t_number t_fault t_place q_t_bytes k_t_bytes g_t_bytes) s.heap.size) (wk_0 a_t q_t_bytes t_length t_at t_tokenAt t_tokenEnd t_own t_name t_number t_fault t_place q_t_bytes k_t_bytes g_t_bytes)) (va_A (wk_0 a_t q_t_bytes t_length t_at t_tokenAt t_tokenEnd t_own t_name t_number t_fault t_place q_t_bytes k_t_bytes g_t_bytes) s.heap.size)) [.ref a_t].toArray s 0 0 (va_A (wk_0 a_t q_t_bytes t_length t_at t_tokenAt t_tokenEnd t_own t_name t_number t_fault t_place q_t_bytes k_t_bytes g_t_bytes) s.heap.size) = Q
  have hA : ∀ q : Nat, s.heap.size ≤ q → va_A (wk_0 a_t q_t_bytes t_length t_at t_tokenAt t_tokenEnd t_own t_name t_number t_fault t_place q_t_bytes k_t_bytes g_t_bytes) s.heap.size q := fun q h => Or.inr h
  generalize hAe : va_A (wk_0 a_t q_t_bytes t_length t_at t_tokenAt t_tokenEnd t_own t_name t_number t_fault t_place q_t_bytes k_t_bytes g_t_bytes) s.heap.size = A at hD hA hQ
  have hS : va_S A s.heap s.heap [] := va_S.rf
  have hl := lv_entry ([.ref a_t]) (n := 2) (Nat.le_of_ble_eq_true rfl)
  rw [lg_entry_eq]
  generalize (lg_sl ([.ref a_t]) ++ List.replicate (2 - (lg_sl ([.ref a_t])).length) Slot.unset).toArray = ls at hl ⊢
  have hl : lv_has ls 2 [(0, .ref a_t)] := hl
  refine lv_aload_n hx hb dX10_register_0 rfl (lv_at hl 0 rfl) ?_
  refine va_get (D := (dC, dI)) (ci := 10) (v := .ref q_t_bytes) (C := RX10) (T := TX10) (N := 10) hx hb hts i_X10 hown hK hP 0 rfl rfl 0 (by decide) (hts _ q_118) (fun _ h9 => h9) rfl dX10_register_1 ?_
  refine lv_aload_n hx hb dX10_register_4 rfl (lv_at hl 0 rfl) ?_
  refine va_get (D := (dC, dI)) (ci := 10) (v := .int (iZ t_tokenAt)) (C := RX10) (T := TX10) (N := 10) hx hb hts i_X10 hown hK hP 0 rfl rfl 3 (by decide) (hts _ q_123) (fun _ h9 => h9) rfl dX10_register_5 ?_
  refine zv_iald hx hb hK hP 1 0 rfl rfl (by omega) (by omega) (by omega) dX10_register_8 (fun z465 ez465 => ?_)
  have bz465 : 0 ≤ z465 ∧ z465 ≤ 255 := by rw [ez465]; exact hb_g_t_bytes _ (by omega)
  refine lv_bipush (v := iZ 97) hx hb dX10_register_9 (by decide) ?_
  refine zv_isub hx hb (z465 - 97) (by omega) dX10_register_11 ?_
  refine lv_istore_n (lv' := [(1, .int (iZ (z465 - 97))), (0, .ref a_t)]) hx hb dX10_register_12 rfl hl (by decide) rfl (fun ls hl => ?_)
  refine lv_aload_n hx hb dX10_register_13 rfl (lv_at hl 1 rfl) ?_
  refine va_get (D := (dC, dI)) (ci := 10) (v := .int (iZ t_tokenEnd)) (C := RX10) (T := TX10) (N := 10) hx hb hts i_X10 hown hK hP 0 rfl rfl 4 (by decide) (hts _ q_124) (fun _ h9 => h9) rfl dX10_register_14 ?_
  refine lv_aload_n hx hb dX10_register_17 rfl (lv_at hl 1 rfl) ?_
  refine va_get (D := (dC, dI)) (ci := 10) (v := .int (iZ t_tokenAt)) (C := RX10) (T := TX10) (N := 10) hx hb hts i_X10 hown hK hP 0 rfl rfl 3 (by decide) (hts _ q_123) (fun _ h9 => h9) rfl dX10_register_18 ?_
  refine zv_isub hx hb (-t_tokenAt + t_tokenEnd) (by omega) dX10_register_21 ?_
  refine lv_iconst (v := iZ 1) hx hb dX10_register_22 (by decide) ?_
  refine zv_icmp_ne (tgt := 40) hx hb dX10_register_23 (by decide) (by omega) (by omega) (fun c466 => ?_) (fun c466 => ?_)
  · refine lv_iconst (v := iZ (-1)) hx hb dX10_register_40 (by decide) ?_
    subst hQ
    exact W.iret (v := iZ (-1)) hx hb hr (fun t ht hW => ⟨⟨iZ (-1), (-1), rfl, ⟨rfl, by omega⟩, by rw [ht]; exact hP, va_K.moved hW.alike hK, hD⟩, hS.F ht⟩) hS.2.2 dX10_register_41
  · refine lv_iload_n hx hb dX10_register_26 rfl (lv_at hl 0 rfl) ?_
    refine zv_if_lt (tgt := 40) hx hb dX10_register_27 (by decide) (by omega) (fun c467 => ?_) (fun c467 => ?_)
    · refine lv_iconst (v := iZ (-1)) hx hb dX10_register_40 (by decide) ?_
      subst hQ
      exact W.iret (v := iZ (-1)) hx hb hr (fun t ht hW => ⟨⟨iZ (-1), (-1), rfl, ⟨rfl, by omega⟩, by rw [ht]; exact hP, va_K.moved hW.alike hK, hD⟩, hS.F ht⟩) hS.2.2 dX10_register_41
    · refine lv_iload_n hx hb dX10_register_30 rfl (lv_at hl 0 rfl) ?_
      refine lv_bipush (v := iZ 8) hx hb dX10_register_31 (by decide) ?_
      refine zv_icmp_ge (tgt := 40) hx hb dX10_register_33 (by decide) (by omega) (by omega) (fun c468 => ?_) (fun c468 => ?_)
      · refine lv_iconst (v := iZ (-1)) hx hb dX10_register_40 (by decide) ?_
        subst hQ
        exact W.iret (v := iZ (-1)) hx hb hr (fun t ht hW => ⟨⟨iZ (-1), (-1), rfl, ⟨rfl, by omega⟩, by rw [ht]; exact hP, va_K.moved hW.alike hK, hD⟩, hS.F ht⟩) hS.2.2 dX10_register_41
      · refine lv_iload_n hx hb dX10_register_36 rfl (lv_at hl 0 rfl) ?_
        refine lv_goto (tgt := 41) hx hb dX10_register_37 (by decide) ?_
        subst hQ
        exact W.iret (v := iZ (z465 - 97)) hx hb hr (fun t ht hW => ⟨⟨iZ (z465 - 97), (z465 - 97), rfl, ⟨rfl, by omega⟩, by rw [ht]; exact hP, va_K.moved hW.alike hK, hD⟩, hS.F ht⟩) hS.2.2 dX10_register_41
set_option maxHeartbeats 4000000 in
set_option maxRecDepth 100000 in
theorem z_X10_isName (l : Launch) (dC : Nat → ClassId) (dI : Nat → Nat → Nat) (a_t : Nat) (q_t_bytes : Nat) (t_length : Int) (t_at : Int) (t_tokenAt : Int) (t_tokenEnd : Int) (t_own : Int) (t_name : Int64) (t_number : Int) (t_fault : Int) (t_place : Int) (k_t_bytes : ClassId) (g_t_bytes : Nat → Int) (sz : Nat) (hb_g_t_bytes : ∀ j : Nat, j < 1600 → 0 ≤ g_t_bytes j ∧ g_t_bytes j ≤ 255) (b_t_length : 0 ≤ t_length ∧ t_length ≤ 1600) (b_t_at : 0 ≤ t_at ∧ t_at ≤ 1600) (b_t_tokenAt : 0 ≤ t_tokenAt ∧ t_tokenAt ≤ 1599) (b_t_tokenEnd : -1 ≤ t_tokenEnd ∧ t_tokenEnd ≤ 1600) (b_t_own : -1 ≤ t_own ∧ t_own ≤ 13) (b_t_number : -2147483648 ≤ t_number ∧ t_number ≤ 2147483647) (b_t_fault : -2147483648 ≤ t_fault ∧ t_fault ≤ 2147483647) (b_t_place : -2147483648 ≤ t_place ∧ t_place ≤ 2147483647) : Met l yX10_isName (Cond.code yX10_isName cX10_isName 2 (some .boolean) :: wA) ({ frames := 1, cells := 0, slots := 0, locals := 22 }) (va_Pc [.ref a_t] (fun U => U.heap.size = sz ∧ va_P (dC, dI) vwCl (wk_0 a_t q_t_bytes t_length t_at t_tokenAt t_tokenEnd t_own t_name t_number t_fault t_place q_t_bytes k_t_bytes g_t_bytes) U.heap ∧ va_K (dC, dI) vwCl [(k_t_bytes, .int)] U ∧ va_D (fun _ => True) (wk_0 a_t q_t_bytes t_length t_at t_tokenAt t_tokenEnd t_own t_name t_number t_fault t_place q_t_bytes k_t_bytes g_t_bytes) ∧ nwAll U)) (va_Qi (fun (r : Int32) (zR : Int) => r = iZ zR ∧ (0 ≤ zR ∧ zR ≤ 1)) (fun zR t => ∃ n_t_name : Int64, ∃ n_t_fault : Int, ∃ n_t_place : Int, (-2147483648 ≤ n_t_fault ∧ n_t_fault ≤ 2147483647) ∧ (-2147483648 ≤ n_t_place ∧ n_t_place ≤ 2147483647) ∧ va_P (dC, dI) vwCl (wk_0 a_t q_t_bytes t_length t_at t_tokenAt t_tokenEnd t_own n_t_name t_number n_t_fault n_t_place q_t_bytes k_t_bytes g_t_bytes) t.heap ∧ va_K (dC, dI) vwCl [(k_t_bytes, .int)] t ∧ va_D (va_A (wk_0 a_t q_t_bytes t_length t_at t_tokenAt t_tokenEnd t_own t_name t_number t_fault t_place q_t_bytes k_t_bytes g_t_bytes) sz) (wk_0 a_t q_t_bytes t_length t_at t_tokenAt t_tokenEnd t_own n_t_name t_number n_t_fault n_t_place q_t_bytes k_t_bytes g_t_bytes)) (va_A (wk_0 a_t q_t_bytes t_length t_at t_tokenAt t_tokenEnd t_own t_name t_number t_fault t_place q_t_bytes k_t_bytes g_t_bytes) sz)) 0 0 (va_A (wk_0 a_t q_t_bytes t_length t_at t_tokenAt t_tokenEnd t_own t_name t_number t_fault t_place q_t_bytes k_t_bytes g_t_bytes) sz) := by
  refine Met.ofW (cc := cX10_isName) (maxL := 2) (ret := (some .boolean)) (by decide) rfl ?_
  intro p e s m args below meth c s₁ B hml hv
  obtain ⟨rfl, hsz, hP, hK, hD0, hN⟩ := hv
  have hx := B.exec
  have hb := B.bytes
  have hr := B.returns
  have hts : ∀ w ∈ wA, w.before [.ref a_t].toArray s = true := fun w h => atoms_spec (ws := Cond.code yX10_isName cX10_isName 2 (some .boolean) :: wA) B.pre w (List.mem_cons_of_mem _ h)
  have hown : s.vm.findClass RX10 = some m.cls := findClass_of_methodNamed B.named
  have hlocks := B.notSynchronized
  subst hsz
  have hD := hD0.self (sz := s.heap.size)
  generalize hQ : MQ below (va_Qi (fun (r : Int32) (zR : Int) => r = iZ zR ∧ (0 ≤ zR ∧ zR ≤ 1)) (fun zR t => ∃ n_t_name : Int64, ∃ n_t_fault : Int, ∃ n_t_place : Int, (-2147483648 ≤ n_t_fault ∧ n_t_fault ≤ 2147483647) ∧ (-2147483648 ≤ n_t_place ∧ n_t_place ≤ 2147483647) ∧ va_P (dC, dI) vwCl (wk_0 a_t q_t_bytes t_length t_at t_tokenAt t_tokenEnd t_own n_t_name t_number n_t_fault n_t_place q_t_bytes k_t_bytes g_t_bytes) t.heap ∧ va_K (dC, dI) vwCl [(k_t_bytes, .int)] t ∧ va_D (va_A (wk_0 a_t q_t_bytes t_length t_at t_tokenAt t_tokenEnd t_own t_name t_number t_fault t_place q_t_bytes k_t_bytes g_t_bytes) s.heap.size) (wk_0 a_t q_t_bytes t_length t_at t_tokenAt t_tokenEnd t_own n_t_name t_number n_t_fault n_t_place q_t_bytes k_t_bytes g_t_bytes)) (va_A (wk_0 a_t q_t_bytes t_length t_at t_tokenAt t_tokenEnd t_own t_name t_number t_fault t_place q_t_bytes k_t_bytes g_t_bytes) s.heap.size)) [.ref a_t].toArray s 0 0 (va_A (wk_0 a_t q_t_bytes t_length t_at t_tokenAt t_tokenEnd t_own t_name t_number t_fault t_place q_t_bytes k_t_bytes g_t_bytes) s.heap.size) = Q
  have hA : ∀ q : Nat, s.heap.size ≤ q → va_A (wk_0 a_t q_t_bytes t_length t_at t_tokenAt t_tokenEnd t_own t_name t_number t_fault t_place q_t_bytes k_t_bytes g_t_bytes) s.heap.size q := fun q h => Or.inr h
  generalize hAe : va_A (wk_0 a_t q_t_bytes t_length t_at t_tokenAt t_tokenEnd t_own t_name t_number t_fault t_place q_t_bytes k_t_bytes g_t_bytes) s.heap.size = A at hD hA hQ
  have hS : va_S A s.heap s.heap [] := va_S.rf
  have hl := lv_entry ([.ref a_t]) (n := 2) (Nat.le_of_ble_eq_true rfl)
  rw [lg_entry_eq]
  generalize (lg_sl ([.ref a_t]) ++ List.replicate (2 - (lg_sl ([.ref a_t])).length) Slot.unset).toArray = ls at hl ⊢
  have hl : lv_has ls 2 [(0, .ref a_t)] := hl
  refine lv_aload_n hx hb dX10_isName_0 rfl (lv_at hl 0 rfl) ?_
  refine va_get (D := (dC, dI)) (ci := 10) (v := .int (iZ t_own)) (C := RX10) (T := TX10) (N := 10) hx hb hts i_X10 hown hK hP 0 rfl rfl 5 (by decide) (hts _ q_125) (fun _ h9 => h9) rfl dX10_isName_1 ?_
  refine lv_iconst (v := iZ (-1)) hx hb dX10_isName_4 (by decide) ?_
  refine zv_icmp_eq (tgt := 18) hx hb dX10_isName_5 (by decide) (by omega) (by omega) (fun c510 => ?_) (fun c510 => ?_)
  · refine lv_aload_n hx hb dX10_isName_18 rfl (lv_at hl 0 rfl) ?_
    refine va_get (D := (dC, dI)) (ci := 10) (v := .int (iZ t_tokenEnd)) (C := RX10) (T := TX10) (N := 10) hx hb hts i_X10 hown hK hP 0 rfl rfl 4 (by decide) (hts _ q_124) (fun _ h9 => h9) rfl dX10_isName_19 ?_
    refine lv_aload_n hx hb dX10_isName_22 rfl (lv_at hl 0 rfl) ?_
    refine va_get (D := (dC, dI)) (ci := 10) (v := .int (iZ t_tokenAt)) (C := RX10) (T := TX10) (N := 10) hx hb hts i_X10 hown hK hP 0 rfl rfl 3 (by decide) (hts _ q_123) (fun _ h9 => h9) rfl dX10_isName_23 ?_
    refine zv_isub hx hb (-t_tokenAt + t_tokenEnd) (by omega) dX10_isName_26 ?_
    refine lv_bipush (v := iZ 6) hx hb dX10_isName_27 (by decide) ?_
    refine zv_icmp_le (tgt := 45) hx hb dX10_isName_29 (by decide) (by omega) (by omega) (fun c511 => ?_) (fun c511 => ?_)
    · refine lv_aload_n hx hb dX10_isName_45 rfl (lv_at hl 0 rfl) ?_
      refine lv_lconst hx hb dX10_isName_46 rfl ?_
      refine lv_topl (fun w512 ew512 => ?_)
      refine va_put (D := (dC, dI)) (ci := 10) (v := .long w512) (ty := tyX10 6) (C := RX10) (T := TX10) (N := 10) hx hb hts i_X10 tyX10 tyX10_ok nmX10 hown hK hP hD hS 0 rfl rfl 6 (by decide) (hts _ q_126) (fun _ h9 => h9) rfl (tyX10_ok 6 (by decide)) rfl rfl (Nat.le_of_ble_eq_true rfl) dX10_isName_47 (fun H locs hP hD hS => ?_)
      have hP : va_P (dC, dI) vwCl (wk_0 a_t q_t_bytes t_length t_at t_tokenAt t_tokenEnd t_own w512 t_number t_fault t_place q_t_bytes k_t_bytes g_t_bytes) H := hP
      have hD : va_D A (wk_0 a_t q_t_bytes t_length t_at t_tokenAt t_tokenEnd t_own w512 t_number t_fault t_place q_t_bytes k_t_bytes g_t_bytes) := hD
      refine lv_aload_n hx hb dX10_isName_50 rfl (lv_at hl 0 rfl) ?_
      refine va_get (D := (dC, dI)) (ci := 10) (v := .int (iZ t_tokenAt)) (C := RX10) (T := TX10) (N := 10) hx hb hts i_X10 hown hK hP 0 rfl rfl 3 (by decide) (hts _ q_123) (fun _ h9 => h9) rfl dX10_isName_51 ?_
      refine lv_istore_n (lv' := [(1, .int (iZ t_tokenAt)), (0, .ref a_t)]) hx hb dX10_isName_54 rfl hl (by decide) rfl (fun ls hl => ?_)
      have lp_55 : ∀ (N55 : Nat) (H : Heap) (locs : List Loc) (ls : Array Slot) (i520 : Int) (w519 : Int64), 0 ≤ i520 - t_tokenAt → 0 ≤ -i520 + 1600 → -i520 + t_tokenEnd ≤ (N55 : Int) → va_P (dC, dI) vwCl (wk_0 a_t q_t_bytes t_length t_at t_tokenAt t_tokenEnd t_own w519 t_number t_fault t_place q_t_bytes k_t_bytes g_t_bytes) H → va_D A (wk_0 a_t q_t_bytes t_length t_at t_tokenAt t_tokenEnd t_own w519 t_number t_fault t_place q_t_bytes k_t_bytes g_t_bytes) → va_S A s.heap H locs → lv_has ls 2 [(0, .ref a_t), (1, .int (iZ i520))] → W p l e (headSpec (Cond.code yX10_isName cX10_isName 2 (some .boolean) :: wA) ({ frames := 1, cells := 0, slots := 0, locals := 22 })).room s m [.ref a_t].toArray below meth c H locs 0 0 Q (F0 m 55 ls []) := by
        intro N55
        induction N55 using Nat.strongRecOn with
        | ind N55 ih_55 =>
          intro H locs ls i520 w519 k55_0 k55_1 hm55 hP hD hS hl
          refine lv_iload_n hx hb dX10_isName_55 rfl (lv_at hl 1 rfl) ?_
          refine lv_aload_n hx hb dX10_isName_56 rfl (lv_at hl 0 rfl) ?_
          refine va_get (D := (dC, dI)) (ci := 10) (v := .int (iZ t_tokenEnd)) (C := RX10) (T := TX10) (N := 10) hx hb hts i_X10 hown hK hP 0 rfl rfl 4 (by decide) (hts _ q_124) (fun _ h9 => h9) rfl dX10_isName_57 ?_
          refine zv_icmp_ge (tgt := 89) hx hb dX10_isName_60 (by decide) (by omega) (by omega) (fun c539 => ?_) (fun c539 => ?_)
          · refine lv_iconst (v := iZ 1) hx hb dX10_isName_89 (by decide) ?_
            subst hQ
            exact W.zret (v := iZ 1) hx hb hr rfl (fun t ht hW => ⟨⟨iZ 1, 1, rfl, ⟨rfl, by omega⟩, w519, t_fault, t_place, by omega, by omega, by rw [ht]; exact hP, va_K.moved hW.alike hK, hD⟩, hS.F ht⟩) hS.2.2 dX10_isName_90
          · refine lv_aload_n hx hb dX10_isName_63 rfl (lv_at hl 0 rfl) ?_
            refine lv_aload_n hx hb dX10_isName_64 rfl (lv_at hl 0 rfl) ?_
            refine va_get (D := (dC, dI)) (ci := 10) (v := .long w519) (C := RX10) (T := TX10) (N := 10) hx hb hts i_X10 hown hK hP 0 rfl rfl 6 (by decide) (hts _ q_126) (fun _ h9 => h9) rfl dX10_isName_65 ?_
            refine lv_ldc2 hx hb hown (hts _ q_138) dX10_isName_68 ?_
            refine lv_topl (fun w540 ew540 => ?_)
            refine lv_lmul hx hb dX10_isName_71 ?_
            refine lv_topl (fun w541 ew541 => ?_)
            refine lv_aload_n hx hb dX10_isName_72 rfl (lv_at hl 0 rfl) ?_
            refine va_get (D := (dC, dI)) (ci := 10) (v := .ref q_t_bytes) (C := RX10) (T := TX10) (N := 10) hx hb hts i_X10 hown hK hP 0 rfl rfl 0 (by decide) (hts _ q_118) (fun _ h9 => h9) rfl dX10_isName_73 ?_
            refine lv_iload_n hx hb dX10_isName_76 rfl (lv_at hl 1 rfl) ?_
            refine zv_iald hx hb hK hP 1 0 rfl rfl (by omega) (by omega) (by omega) dX10_isName_77 (fun z542 ez542 => ?_)
            have bz542 : 0 ≤ z542 ∧ z542 ≤ 255 := by rw [ez542]; exact hb_g_t_bytes _ (by omega)
            refine lv_i2l hx hb dX10_isName_78 rfl ?_
            refine lv_topl (fun w543 ew543 => ?_)
            refine lv_ladd hx hb dX10_isName_79 ?_
            refine lv_topl (fun w544 ew544 => ?_)
            refine va_put (D := (dC, dI)) (ci := 10) (v := .long w544) (ty := tyX10 6) (C := RX10) (T := TX10) (N := 10) hx hb hts i_X10 tyX10 tyX10_ok nmX10 hown hK hP hD hS 0 rfl rfl 6 (by decide) (hts _ q_126) (fun _ h9 => h9) rfl (tyX10_ok 6 (by decide)) rfl rfl (Nat.le_of_ble_eq_true rfl) dX10_isName_80 (fun H locs hP hD hS => ?_)
            have hP : va_P (dC, dI) vwCl (wk_0 a_t q_t_bytes t_length t_at t_tokenAt t_tokenEnd t_own w544 t_number t_fault t_place q_t_bytes k_t_bytes g_t_bytes) H := hP
            have hD : va_D A (wk_0 a_t q_t_bytes t_length t_at t_tokenAt t_tokenEnd t_own w544 t_number t_fault t_place q_t_bytes k_t_bytes g_t_bytes) := hD
            refine lv_iinc (v := iZ (i520 + 1)) (lv' := [(1, .int (iZ (i520 + 1))), (0, .ref a_t)]) hx hb dX10_isName_83 hl (k := 1) rfl (iZ_inc (by omega)) (by decide) rfl (fun ls hl => ?_)
            refine lv_goto (tgt := 55) hx hb dX10_isName_86 (by decide) ?_
            exact ih_55 (N55 - 1) (by omega) _ _ _ (i520 + 1) w544 (by omega) (by omega) (by omega) hP hD hS (lv_sub hl [1, 0] rfl)
      exact lp_55 ((-t_tokenAt + t_tokenEnd : Int)).toNat _ _ _ t_tokenAt w512 (by omega) (by omega) (by omega) hP hD hS (lv_sub hl [1, 0] rfl)
    · refine lv_aload_n hx hb dX10_isName_32 rfl (lv_at hl 0 rfl) ?_
      refine lv_iconst (v := iZ 1) hx hb dX10_isName_33 (by decide) ?_
      refine lv_aload_n hx hb dX10_isName_34 rfl (lv_at hl 0 rfl) ?_
      refine va_get (D := (dC, dI)) (ci := 10) (v := .int (iZ t_tokenAt)) (C := RX10) (T := TX10) (N := 10) hx hb hts i_X10 hown hK hP 0 rfl rfl 3 (by decide) (hts _ q_123) (fun _ h9 => h9) rfl dX10_isName_35 ?_
      refine lv_bipush (v := iZ 6) hx hb dX10_isName_38 (by decide) ?_
      refine zv_iadd hx hb (t_tokenAt + 6) (by omega) dX10_isName_40 ?_
      have hPc := hP.sub (ws' := (wk_0 a_t q_t_bytes t_length t_at t_tokenAt t_tokenEnd t_own t_name t_number t_fault t_place q_t_bytes k_t_bytes g_t_bytes)) [0, 1] rfl
      have hDc := hD.sub (ws' := (wk_0 a_t q_t_bytes t_length t_at t_tokenAt t_tokenEnd t_own t_name t_number t_fault t_place q_t_bytes k_t_bytes g_t_bytes)) [0, 1] (by decide) rfl
      have hKc := hK.sub (tys' := [(k_t_bytes, .int)]) [0] rfl
      have hFc := va_free (wc := (wk_0 a_t q_t_bytes t_length t_at t_tokenAt t_tokenEnd t_own t_name t_number t_fault t_place q_t_bytes k_t_bytes g_t_bytes)) hD hS hA [0, 1] rfl
      refine va_calli (va_runV (As := [.int (iZ 1), .int (iZ (t_tokenAt + 6))]) (rest := []) ⟨hx, hb, hml, hown, hts⟩ (z_X10_wrong l dC dI a_t 1 (t_tokenAt + 6) q_t_bytes t_length t_at t_tokenAt t_tokenEnd t_own t_name t_number t_fault t_place k_t_bytes g_t_bytes s.heap.size hb_g_t_bytes (by omega) (by omega) (by omega) (by omega) (by omega) (by omega) (by omega) (by omega) (by omega) (by omega)) (cwV 2 hts (gV q_133 q_134 q_135 q_136 q_137) rfl rfl rfl mdv_yX10_wrong ⟨Nat.le_of_ble_eq_true rfl, Nat.le_of_ble_eq_true rfl⟩) ⟨fun a U g mk q => by obtain ⟨q0, q1, qP, qK, qD, qN⟩ := q; exact ⟨q0, q1, qP, va_K.moved (u := U) (U := U.calling g mk a) (Vm.Alike.refl U.vm) qK, qD, nwAll_same (u := U) (U := U.calling g mk a) rfl qN⟩, va_recv hKc hPc (ci := 10) (q0 := 0) rfl rfl, fun U hU hW => ⟨rfl, by rw [hU], by rw [hU]; exact hPc, va_K.moved hW.alike hKc, hDc.weaken (fun _ _ _ _ => trivial), nwAll_warm hW hN⟩⟩ rfl rfl hl.1 rfl (lv_room (Nat.le_of_ble_eq_true rfl)) dX10_isName_41 ⟨Nat.le_of_ble_eq_true rfl, Nat.le_of_ble_eq_true rfl⟩) hS (fun q _ h => hFc q h) hFc (fun r545 z546 t H1 locs ht hvm hw hB hz1 hk1 hS => ?_)
      obtain ⟨rfl, h547⟩ := hw
      obtain ⟨hP1, hK1, hD1⟩ := hB
      rw [ht] at hP1
      obtain ⟨hP, hD⟩ := va_join (wr := []) (w1 := (wk_0 a_t q_t_bytes t_length t_at t_tokenAt t_tokenEnd t_own t_name t_number 1 (t_tokenAt + 6) q_t_bytes k_t_bytes g_t_bytes)) hP hD [0, 1] [] rfl rfl (by decide) (by decide) hk1 hFc hP1 hD1
      generalize H1 = H at hP hS ⊢
      have hP : va_P (dC, dI) vwCl (wk_0 a_t q_t_bytes t_length t_at t_tokenAt t_tokenEnd t_own t_name t_number 1 (t_tokenAt + 6) q_t_bytes k_t_bytes g_t_bytes) H := hP
      have hD : va_D A (wk_0 a_t q_t_bytes t_length t_at t_tokenAt t_tokenEnd t_own t_name t_number 1 (t_tokenAt + 6) q_t_bytes k_t_bytes g_t_bytes) := hD
      subst hQ
      exact W.zret (v := iZ z546) hx hb hr (zb_nar (by omega)) (fun t ht hW => ⟨⟨iZ z546, z546, rfl, ⟨rfl, by omega⟩, t_name, 1, (t_tokenAt + 6), by omega, by omega, by rw [ht]; exact hP, va_K.moved hW.alike hK, hD⟩, hS.F ht⟩) hS.2.2 dX10_isName_44
  · refine lv_aload_n hx hb dX10_isName_8 rfl (lv_at hl 0 rfl) ?_
    refine lv_iconst (v := iZ 1) hx hb dX10_isName_9 (by decide) ?_
    refine lv_aload_n hx hb dX10_isName_10 rfl (lv_at hl 0 rfl) ?_
    refine va_get (D := (dC, dI)) (ci := 10) (v := .int (iZ t_tokenAt)) (C := RX10) (T := TX10) (N := 10) hx hb hts i_X10 hown hK hP 0 rfl rfl 3 (by decide) (hts _ q_123) (fun _ h9 => h9) rfl dX10_isName_11 ?_
    have hPc := hP.sub (ws' := (wk_0 a_t q_t_bytes t_length t_at t_tokenAt t_tokenEnd t_own t_name t_number t_fault t_place q_t_bytes k_t_bytes g_t_bytes)) [0, 1] rfl
    have hDc := hD.sub (ws' := (wk_0 a_t q_t_bytes t_length t_at t_tokenAt t_tokenEnd t_own t_name t_number t_fault t_place q_t_bytes k_t_bytes g_t_bytes)) [0, 1] (by decide) rfl
    have hKc := hK.sub (tys' := [(k_t_bytes, .int)]) [0] rfl
    have hFc := va_free (wc := (wk_0 a_t q_t_bytes t_length t_at t_tokenAt t_tokenEnd t_own t_name t_number t_fault t_place q_t_bytes k_t_bytes g_t_bytes)) hD hS hA [0, 1] rfl
    refine va_calli (va_runV (As := [.int (iZ 1), .int (iZ t_tokenAt)]) (rest := []) ⟨hx, hb, hml, hown, hts⟩ (z_X10_wrong l dC dI a_t 1 t_tokenAt q_t_bytes t_length t_at t_tokenAt t_tokenEnd t_own t_name t_number t_fault t_place k_t_bytes g_t_bytes s.heap.size hb_g_t_bytes (by omega) (by omega) (by omega) (by omega) (by omega) (by omega) (by omega) (by omega) (by omega) (by omega)) (cwV 2 hts (gV q_133 q_134 q_135 q_136 q_137) rfl rfl rfl mdv_yX10_wrong ⟨Nat.le_of_ble_eq_true rfl, Nat.le_of_ble_eq_true rfl⟩) ⟨fun a U g mk q => by obtain ⟨q0, q1, qP, qK, qD, qN⟩ := q; exact ⟨q0, q1, qP, va_K.moved (u := U) (U := U.calling g mk a) (Vm.Alike.refl U.vm) qK, qD, nwAll_same (u := U) (U := U.calling g mk a) rfl qN⟩, va_recv hKc hPc (ci := 10) (q0 := 0) rfl rfl, fun U hU hW => ⟨rfl, by rw [hU], by rw [hU]; exact hPc, va_K.moved hW.alike hKc, hDc.weaken (fun _ _ _ _ => trivial), nwAll_warm hW hN⟩⟩ rfl rfl hl.1 rfl (lv_room (Nat.le_of_ble_eq_true rfl)) dX10_isName_14 ⟨Nat.le_of_ble_eq_true rfl, Nat.le_of_ble_eq_true rfl⟩) hS (fun q _ h => hFc q h) hFc (fun r548 z549 t H1 locs ht hvm hw hB hz1 hk1 hS => ?_)
    obtain ⟨rfl, h550⟩ := hw
    obtain ⟨hP1, hK1, hD1⟩ := hB
    rw [ht] at hP1
    obtain ⟨hP, hD⟩ := va_join (wr := []) (w1 := (wk_0 a_t q_t_bytes t_length t_at t_tokenAt t_tokenEnd t_own t_name t_number 1 t_tokenAt q_t_bytes k_t_bytes g_t_bytes)) hP hD [0, 1] [] rfl rfl (by decide) (by decide) hk1 hFc hP1 hD1
    generalize H1 = H at hP hS ⊢
    have hP : va_P (dC, dI) vwCl (wk_0 a_t q_t_bytes t_length t_at t_tokenAt t_tokenEnd t_own t_name t_number 1 t_tokenAt q_t_bytes k_t_bytes g_t_bytes) H := hP
    have hD : va_D A (wk_0 a_t q_t_bytes t_length t_at t_tokenAt t_tokenEnd t_own t_name t_number 1 t_tokenAt q_t_bytes k_t_bytes g_t_bytes) := hD
    subst hQ
    exact W.zret (v := iZ z549) hx hb hr (zb_nar (by omega)) (fun t ht hW => ⟨⟨iZ z549, z549, rfl, ⟨rfl, by omega⟩, t_name, 1, t_tokenAt, by omega, by omega, by rw [ht]; exact hP, va_K.moved hW.alike hK, hD⟩, hS.F ht⟩) hS.2.2 dX10_isName_17
