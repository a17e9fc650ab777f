set_option maxHeartbeats 4000000 in
set_option maxRecDepth 100000 in
theorem z_X10_takesWord_x (l : Launch) (dC : Nat → ClassId) (dI : Nat → Nat → Nat) (a_t : Nat) (q_t_bytes : Nat) (t_length : Int) (t_at : Int) (t_tokenAt : Int) (t_tokenEnd : Int) (t_own : Int) (t_name : Int64) (t_number : Int) (t_fault : Int) (t_place : Int) (k_t_bytes : ClassId) (g_t_bytes : Nat → Int) (sz : Nat) (hb_g_t_bytes : ∀ j : Nat, j < 1600 → 0 ≤ g_t_bytes j ∧ g_t_bytes j ≤ 255) (b_t_length : 0 ≤ t_length ∧ t_length ≤ 1600) (b_t_at : 0 ≤ t_at ∧ t_at ≤ 1600) (b_t_tokenAt : 0 ≤ t_tokenAt ∧ t_tokenAt ≤ 1599) (b_t_tokenEnd : -1 ≤ t_tokenEnd ∧ t_tokenEnd ≤ 1600) (b_t_own : -1 ≤ t_own ∧ t_own ≤ 13) (b_t_number : 0 ≤ t_number ∧ t_number ≤ 999) (b_t_fault : -2147483648 ≤ t_fault ∧ t_fault ≤ 2147483647) (b_t_place : -2147483648 ≤ t_place ∧ t_place ≤ 2147483647) : Met l yX10_takesWord (Cond.code yX10_takesWord cX10_takesWord 1 (some .boolean) :: wA) ({ frames := 5, cells := 0, slots := 0, locals := 167 }) (va_Pc [.ref a_t] (fun U => U.heap.size = sz ∧ va_P (dC, dI) vwCl (wk_0 a_t q_t_bytes t_length t_at t_tokenAt t_tokenEnd t_own t_name t_number t_fault t_place q_t_bytes k_t_bytes g_t_bytes) U.heap ∧ va_K (dC, dI) vwCl [(k_t_bytes, .int)] U ∧ va_D (fun _ => True) (wk_0 a_t q_t_bytes t_length t_at t_tokenAt t_tokenEnd t_own t_name t_number t_fault t_place q_t_bytes k_t_bytes g_t_bytes) ∧ nwAll U ∧ SWs (va_A (wk_0 a_t q_t_bytes t_length t_at t_tokenAt t_tokenEnd t_own t_name t_number t_fault t_place q_t_bytes k_t_bytes g_t_bytes) sz) U U.heap)) (va_Qi (fun (r : Int32) (zR : Int) => r = iZ zR ∧ (0 ≤ zR ∧ zR ≤ 1)) (fun zR t => ∃ n_t_at : Int, ∃ n_t_tokenAt : Int, ∃ n_t_tokenEnd : Int, ∃ n_t_own : Int, ∃ n_t_fault : Int, ∃ n_t_place : Int, (0 ≤ n_t_at ∧ n_t_at ≤ 1600) ∧ (0 ≤ n_t_tokenAt ∧ n_t_tokenAt ≤ 1599) ∧ (-1 ≤ n_t_tokenEnd ∧ n_t_tokenEnd ≤ 1600) ∧ (-1 ≤ n_t_own ∧ n_t_own ≤ 13) ∧ (-2147483648 ≤ n_t_fault ∧ n_t_fault ≤ 2147483647) ∧ (-2147483648 ≤ n_t_place ∧ n_t_place ≤ 2147483647) ∧ (zR = 0 ∨ (zR = 1 ∧ n_t_tokenAt < n_t_tokenEnd ∧ n_t_tokenEnd ≤ t_length ∧ n_t_at = n_t_tokenEnd ∧ t_at ≤ n_t_tokenAt)) ∧ (zR = 1 ∨ t_at ≤ n_t_at) ∧ va_P (dC, dI) vwCl (wk_0 a_t q_t_bytes t_length n_t_at n_t_tokenAt n_t_tokenEnd n_t_own t_name t_number n_t_fault n_t_place q_t_bytes k_t_bytes g_t_bytes) t.heap ∧ va_K (dC, dI) vwCl [(k_t_bytes, .int)] t ∧ va_D (va_A (wk_0 a_t q_t_bytes t_length t_at t_tokenAt t_tokenEnd t_own t_name t_number t_fault t_place q_t_bytes k_t_bytes g_t_bytes) sz) (wk_0 a_t q_t_bytes t_length n_t_at n_t_tokenAt n_t_tokenEnd n_t_own t_name t_number n_t_fault n_t_place q_t_bytes k_t_bytes g_t_bytes)) (va_A (wk_0 a_t q_t_bytes t_length t_at t_tokenAt t_tokenEnd t_own t_name t_number t_fault t_place q_t_bytes k_t_bytes g_t_bytes) sz)) 0 0 (va_A (wk_0 a_t q_t_bytes t_length t_at t_tokenAt t_tokenEnd t_own t_name t_number t_fault t_place q_t_bytes k_t_bytes g_t_bytes) sz) := by
  refine Met.ofW (cc := cX10_takesWord) (maxL := 1) (ret := (some .boolean)) (by decide) rfl ?_
  intro p e s m args below meth c s₁ B hml hv
  obtain ⟨rfl, hsz, hP, hK, hD0, hN, hSW⟩ := hv
  have hx := B.exec
  have hb := B.bytes
  have hr := B.returns
  have hts : ∀ w ∈ wA, w.before [.ref a_t].toArray s = true := fun w h => atoms_spec (ws := Cond.code yX10_takesWord cX10_takesWord 1 (some .boolean) :: wA) B.pre w (List.mem_cons_of_mem _ h)
  have hown : s.vm.findClass RX10 = some m.cls := findClass_of_methodNamed B.named
  have hlocks := B.notSynchronized
  subst hsz
  have hD := hD0.self (sz := s.heap.size)
  generalize hQ : MQ below (va_Qi (fun (r : Int32) (zR : Int) => r = iZ zR ∧ (0 ≤ zR ∧ zR ≤ 1)) (fun zR t => ∃ n_t_at : Int, ∃ n_t_tokenAt : Int, ∃ n_t_tokenEnd : Int, ∃ n_t_own : Int, ∃ n_t_fault : Int, ∃ n_t_place : Int, (0 ≤ n_t_at ∧ n_t_at ≤ 1600) ∧ (0 ≤ n_t_tokenAt ∧ n_t_tokenAt ≤ 1599) ∧ (-1 ≤ n_t_tokenEnd ∧ n_t_tokenEnd ≤ 1600) ∧ (-1 ≤ n_t_own ∧ n_t_own ≤ 13) ∧ (-2147483648 ≤ n_t_fault ∧ n_t_fault ≤ 2147483647) ∧ (-2147483648 ≤ n_t_place ∧ n_t_place ≤ 2147483647) ∧ (zR = 0 ∨ (zR = 1 ∧ n_t_tokenAt < n_t_tokenEnd ∧ n_t_tokenEnd ≤ t_length ∧ n_t_at = n_t_tokenEnd ∧ t_at ≤ n_t_tokenAt)) ∧ (zR = 1 ∨ t_at ≤ n_t_at) ∧ va_P (dC, dI) vwCl (wk_0 a_t q_t_bytes t_length n_t_at n_t_tokenAt n_t_tokenEnd n_t_own t_name t_number n_t_fault n_t_place q_t_bytes k_t_bytes g_t_bytes) t.heap ∧ va_K (dC, dI) vwCl [(k_t_bytes, .int)] t ∧ va_D (va_A (wk_0 a_t q_t_bytes t_length t_at t_tokenAt t_tokenEnd t_own t_name t_number t_fault t_place q_t_bytes k_t_bytes g_t_bytes) s.heap.size) (wk_0 a_t q_t_bytes t_length n_t_at n_t_tokenAt n_t_tokenEnd n_t_own t_name t_number n_t_fault n_t_place q_t_bytes k_t_bytes g_t_bytes)) (va_A (wk_0 a_t q_t_bytes t_length t_at t_tokenAt t_tokenEnd t_own t_name t_number t_fault t_place q_t_bytes k_t_bytes g_t_bytes) s.heap.size)) [.ref a_t].toArray s 0 0 (va_A (wk_0 a_t q_t_bytes t_length t_at t_tokenAt t_tokenEnd t_own t_name t_number t_fault t_place q_t_bytes k_t_bytes g_t_bytes) s.heap.size) = Q
  have hA : ∀ q : Nat, s.heap.size ≤ q → va_A (wk_0 a_t q_t_bytes t_length t_at t_tokenAt t_tokenEnd t_own t_name t_number t_fault t_place q_t_bytes k_t_bytes g_t_bytes) s.heap.size q := fun q h => Or.inr h
  generalize hAe : va_A (wk_0 a_t q_t_bytes t_length t_at t_tokenAt t_tokenEnd t_own t_name t_number t_fault t_place q_t_bytes k_t_bytes g_t_bytes) s.heap.size = A at hD hA hQ hSW
  have hS : va_S A s.heap s.heap [] := va_S.rf
  have hl := lv_entry ([.ref a_t]) (n := 1) (Nat.le_of_ble_eq_true rfl)
  rw [lg_entry_eq]
  generalize (lg_sl ([.ref a_t]) ++ List.replicate (1 - (lg_sl ([.ref a_t])).length) Slot.unset).toArray = ls at hl ⊢
  have hl : lv_has ls 1 [(0, .ref a_t)] := hl
  refine lv_aload_n hx hb dX10_takesWord_0 rfl (lv_at hl 0 rfl) ?_
  have hPc := hP.sub (ws' := (wk_0 a_t q_t_bytes t_length t_at t_tokenAt t_tokenEnd t_own t_name t_number t_fault t_place q_t_bytes k_t_bytes g_t_bytes)) [0, 1] rfl
  have hDc := hD.sub (ws' := (wk_0 a_t q_t_bytes t_length t_at t_tokenAt t_tokenEnd t_own t_name t_number t_fault t_place q_t_bytes k_t_bytes g_t_bytes)) [0, 1] (by decide) rfl
  have hKc := hK.sub (tys' := [(k_t_bytes, .int)]) [0] rfl
  have hFc := va_free (wc := (wk_0 a_t q_t_bytes t_length t_at t_tokenAt t_tokenEnd t_own t_name t_number t_fault t_place q_t_bytes k_t_bytes g_t_bytes)) hD hS hA [0, 1] rfl
  refine va_calli (va_runV (As := []) (rest := []) ⟨hx, hb, hml, hown, hts⟩ (z_X10_peek_x l dC dI a_t q_t_bytes t_length t_at t_tokenAt t_tokenEnd t_own t_name t_number t_fault t_place k_t_bytes g_t_bytes s.heap.size hb_g_t_bytes (by omega) (by omega) (by omega) (by omega) (by omega) (by omega) (by omega) (by omega)) (cwV 0 hts (gV q_140 q_141 q_142 q_136 q_143) rfl rfl rfl mdv_yX10_peek ⟨Nat.le_of_ble_eq_true rfl, Nat.le_of_ble_eq_true rfl⟩) ⟨fun a U g mk q => by obtain ⟨q0, q1, qP, qK, qD, qN⟩ := q; exact ⟨q0, q1, qP, va_K.moved (u := U) (U := U.calling g mk a) (Vm.Alike.refl U.vm) qK, qD, nwAll_same (u := U) (U := U.calling g mk a) rfl qN⟩, va_recv hKc hPc (ci := 10) (q0 := 0) rfl rfl, fun U hU hW => ⟨rfl, by rw [hU], by rw [hU]; exact hPc, va_K.moved hW.alike hKc, hDc.weaken (fun _ _ _ _ => trivial), nwAll_warm hW hN⟩⟩ rfl rfl hl.1 rfl (lv_room (Nat.le_of_ble_eq_true rfl)) dX10_takesWord_1 ⟨Nat.le_of_ble_eq_true rfl, Nat.le_of_ble_eq_true rfl⟩) hS (fun q _ h => hFc q h) hFc (fun r39597 z39598 t H1 locs ht hvm hw hB hz1 hk1 hS => ?_)
  obtain ⟨rfl, h39602⟩ := hw
  obtain ⟨z39599, h39600, h39601, hP1, hK1, hD1⟩ := hB
  rw [ht] at hP1
  obtain ⟨hP, hD⟩ := va_join (wr := []) (w1 := (wk_0 a_t q_t_bytes t_length z39599 t_tokenAt t_tokenEnd t_own t_name t_number t_fault t_place q_t_bytes k_t_bytes g_t_bytes)) hP hD [0, 1] [] rfl rfl (by decide) (by decide) hk1 hFc hP1 hD1
  generalize H1 = H at hP hS ⊢
  have hP : va_P (dC, dI) vwCl (wk_0 a_t q_t_bytes t_length z39599 t_tokenAt t_tokenEnd t_own t_name t_number t_fault t_place q_t_bytes k_t_bytes g_t_bytes) H := hP
  have hD : va_D A (wk_0 a_t q_t_bytes t_length z39599 t_tokenAt t_tokenEnd t_own t_name t_number t_fault t_place q_t_bytes k_t_bytes g_t_bytes) := hD
  have hPc := hP.sub (ws' := []) [] rfl
  have hDc := hD.sub (ws' := []) [] (by decide) rfl
  have hKc := hK.sub (tys' := []) [] rfl
  have hFc := va_free (wc := []) hD hS hA [] rfl
  refine va_calli (va_runS (As := [.int (iZ z39598)]) (rest := []) ⟨hx, hb, hml, hown, hts⟩ (z_X10_isLetter_x l dC dI z39598 H.size (by omega)) (va_cwS 1 hts (gS q_151 q_152 q_136 q_131) rfl rfl rfl mds_yX10_isLetter ⟨Nat.le_of_ble_eq_true rfl, Nat.le_of_ble_eq_true rfl⟩) ⟨fun a U g mk q => by obtain ⟨q0, q1, qP, qK, qD, qN⟩ := q; exact ⟨q0, q1, qP, va_K.moved (u := U) (U := U.calling g mk a) (Vm.Alike.refl U.vm) qK, qD, nwAll_same (u := U) (U := U.calling g mk a) rfl qN⟩, fun U hU hW => ⟨rfl, by rw [hU], by rw [hU]; exact hPc, va_K.moved hW.alike hKc, hDc.weaken (fun _ _ _ _ => trivial), nwAll_warm hW hN⟩⟩ rfl rfl hl.1 rfl (lv_room (Nat.le_of_ble_eq_true rfl)) dX10_takesWord_4 ⟨Nat.le_of_ble_eq_true rfl, Nat.le_of_ble_eq_true rfl⟩) hS (fun q _ h => hFc q h) hFc (fun r39603 z39604 t H1 locs ht hvm hw hB hz1 hk1 hS => ?_)
  obtain ⟨rfl, h39605, h39606⟩ := hw
  obtain ⟨hP1, hK1, hD1⟩ := hB
  rw [ht] at hP1
  obtain ⟨hP, hD⟩ := va_join (wr := (wk_0 a_t q_t_bytes t_length z39599 t_tokenAt t_tokenEnd t_own t_name t_number t_fault t_place q_t_bytes k_t_bytes g_t_bytes)) (w1 := []) hP hD [] [0, 1] rfl rfl (by decide) (by decide) hk1 hFc hP1 hD1
  generalize H1 = H at hP hS ⊢
  have hP : va_P (dC, dI) vwCl (wk_0 a_t q_t_bytes t_length z39599 t_tokenAt t_tokenEnd t_own t_name t_number t_fault t_place q_t_bytes k_t_bytes g_t_bytes) H := hP
  have hD : va_D A (wk_0 a_t q_t_bytes t_length z39599 t_tokenAt t_tokenEnd t_own t_name t_number t_fault t_place q_t_bytes k_t_bytes g_t_bytes) := hD
  refine zv_if_eq (tgt := 21) hx hb dX10_takesWord_7 (by decide) (by omega) (fun c39607 => ?_) (fun c39607 => ?_)
  · refine lv_aload_n hx hb dX10_takesWord_21 rfl (lv_at hl 0 rfl) ?_
    refine lv_iconst (v := iZ 1) hx hb dX10_takesWord_22 (by decide) ?_
    refine lv_aload_n hx hb dX10_takesWord_23 rfl (lv_at hl 0 rfl) ?_
    refine va_get (D := (dC, dI)) (ci := 10) (v := .int (iZ z39599)) (C := RX10) (T := TX10) (N := 10) hx hb hts i_X10 hown hK hP 0 rfl rfl 2 (by decide) (hts _ q_122) (fun _ h9 => h9) rfl dX10_takesWord_24 ?_
    have hPc := hP.sub (ws' := (wk_0 a_t q_t_bytes t_length z39599 t_tokenAt t_tokenEnd t_own t_name t_number t_fault t_place q_t_bytes k_t_bytes g_t_bytes)) [0, 1] rfl
    have hDc := hD.sub (ws' := (wk_0 a_t q_t_bytes t_length z39599 t_tokenAt t_tokenEnd t_own t_name t_number t_fault t_place q_t_bytes k_t_bytes g_t_bytes)) [0, 1] (by decide) rfl
    have hKc := hK.sub (tys' := [(k_t_bytes, .int)]) [0] rfl
    have hFc := va_free (wc := (wk_0 a_t q_t_bytes t_length z39599 t_tokenAt t_tokenEnd t_own t_name t_number t_fault t_place q_t_bytes k_t_bytes g_t_bytes)) hD hS hA [0, 1] rfl
    refine va_calli (va_runV (As := [.int (iZ 1), .int (iZ z39599)]) (rest := []) ⟨hx, hb, hml, hown, hts⟩ (z_X10_wrong l dC dI a_t 1 z39599 q_t_bytes t_length z39599 t_tokenAt t_tokenEnd t_own t_name t_number t_fault t_place k_t_bytes g_t_bytes H.size hb_g_t_bytes (by omega) (by omega) (by omega) (by omega) (by omega) (by omega) (by omega) (by omega) (by omega) (by omega)) (cwV 2 hts (gV q_133 q_134 q_135 q_136 q_137) rfl rfl rfl mdv_yX10_wrong ⟨Nat.le_of_ble_eq_true rfl, Nat.le_of_ble_eq_true rfl⟩) ⟨fun a U g mk q => by obtain ⟨q0, q1, qP, qK, qD, qN⟩ := q; exact ⟨q0, q1, qP, va_K.moved (u := U) (U := U.calling g mk a) (Vm.Alike.refl U.vm) qK, qD, nwAll_same (u := U) (U := U.calling g mk a) rfl qN⟩, va_recv hKc hPc (ci := 10) (q0 := 0) rfl rfl, fun U hU hW => ⟨rfl, by rw [hU], by rw [hU]; exact hPc, va_K.moved hW.alike hKc, hDc.weaken (fun _ _ _ _ => trivial), nwAll_warm hW hN⟩⟩ rfl rfl hl.1 rfl (lv_room (Nat.le_of_ble_eq_true rfl)) dX10_takesWord_27 ⟨Nat.le_of_ble_eq_true rfl, Nat.le_of_ble_eq_true rfl⟩) hS (fun q _ h => hFc q h) hFc (fun r39608 z39609 t H1 locs ht hvm hw hB hz1 hk1 hS => ?_)
    obtain ⟨rfl, h39610⟩ := hw
    obtain ⟨hP1, hK1, hD1⟩ := hB
    rw [ht] at hP1
    obtain ⟨hP, hD⟩ := va_join (wr := []) (w1 := (wk_0 a_t q_t_bytes t_length z39599 t_tokenAt t_tokenEnd t_own t_name t_number 1 z39599 q_t_bytes k_t_bytes g_t_bytes)) hP hD [0, 1] [] rfl rfl (by decide) (by decide) hk1 hFc hP1 hD1
    generalize H1 = H at hP hS ⊢
    have hP : va_P (dC, dI) vwCl (wk_0 a_t q_t_bytes t_length z39599 t_tokenAt t_tokenEnd t_own t_name t_number 1 z39599 q_t_bytes k_t_bytes g_t_bytes) H := hP
    have hD : va_D A (wk_0 a_t q_t_bytes t_length z39599 t_tokenAt t_tokenEnd t_own t_name t_number 1 z39599 q_t_bytes k_t_bytes g_t_bytes) := hD
    subst hQ
    exact W.zret (v := iZ z39609) hx hb hr (zb_nar (by omega)) (fun t ht hW => ⟨⟨iZ z39609, z39609, rfl, ⟨rfl, by omega⟩, z39599, t_tokenAt, t_tokenEnd, t_own, 1, z39599, by omega, by omega, by omega, by omega, by omega, by omega, by omega, by omega, by rw [ht]; exact hP, va_K.moved hW.alike hK, hD⟩, hS.F ht⟩) hS.2.2 dX10_takesWord_30
  · refine lv_aload_n hx hb dX10_takesWord_10 rfl (lv_at hl 0 rfl) ?_
    refine va_get (D := (dC, dI)) (ci := 10) (v := .int (iZ z39599)) (C := RX10) (T := TX10) (N := 10) hx hb hts i_X10 hown hK hP 0 rfl rfl 2 (by decide) (hts _ q_122) (fun _ h9 => h9) rfl dX10_takesWord_11 ?_
    refine lv_aload_n hx hb dX10_takesWord_14 rfl (lv_at hl 0 rfl) ?_
    refine va_get (D := (dC, dI)) (ci := 10) (v := .int (iZ t_tokenEnd)) (C := RX10) (T := TX10) (N := 10) hx hb hts i_X10 hown hK hP 0 rfl rfl 4 (by decide) (hts _ q_124) (fun _ h9 => h9) rfl dX10_takesWord_15 ?_
    refine zv_icmp_ne (tgt := 31) hx hb dX10_takesWord_18 (by decide) (by omega) (by omega) (fun c39611 => ?_) (fun c39611 => ?_)
    · refine lv_aload_n hx hb dX10_takesWord_31 rfl (lv_at hl 0 rfl) ?_
      refine lv_aload_n hx hb dX10_takesWord_32 rfl (lv_at hl 0 rfl) ?_
      refine va_get (D := (dC, dI)) (ci := 10) (v := .int (iZ z39599)) (C := RX10) (T := TX10) (N := 10) hx hb hts i_X10 hown hK hP 0 rfl rfl 2 (by decide) (hts _ q_122) (fun _ h9 => h9) rfl dX10_takesWord_33 ?_
      refine va_put (D := (dC, dI)) (ci := 10) (v := .int (iZ z39599)) (ty := tyX10 3) (C := RX10) (T := TX10) (N := 10) hx hb hts i_X10 tyX10 tyX10_ok nmX10 hown hK hP hD hS 0 rfl rfl 3 (by decide) (hts _ q_123) (fun _ h9 => h9) rfl (tyX10_ok 3 (by decide)) rfl rfl (Nat.le_of_ble_eq_true rfl) dX10_takesWord_36 (fun H locs hP hD hS => ?_)
      have hP : va_P (dC, dI) vwCl (wk_0 a_t q_t_bytes t_length z39599 z39599 t_tokenEnd t_own t_name t_number t_fault t_place q_t_bytes k_t_bytes g_t_bytes) H := hP
      have hD : va_D A (wk_0 a_t q_t_bytes t_length z39599 z39599 t_tokenEnd t_own t_name t_number t_fault t_place q_t_bytes k_t_bytes g_t_bytes) := hD
      have hG39612 : FstL g_t_bytes z39599 z39599 t_length := (Or.inr ⟨by omega, by omega, by omega⟩)
      have lp_39 : ∀ (N39 : Nat) (H : Heap) (locs : List Loc) (ls : Array Slot) (f39620 : Int), 0 ≤ f39620 - z39599 → 0 ≤ -f39620 + t_length → FstL g_t_bytes f39620 z39599 t_length → -f39620 + t_length ≤ (N39 : Int) → va_P (dC, dI) vwCl (wk_0 a_t q_t_bytes t_length f39620 z39599 t_tokenEnd t_own t_name t_number t_fault t_place q_t_bytes k_t_bytes g_t_bytes) H → va_D A (wk_0 a_t q_t_bytes t_length f39620 z39599 t_tokenEnd t_own t_name t_number t_fault t_place q_t_bytes k_t_bytes g_t_bytes) → va_S A s.heap H locs → lv_has ls 1 [(0, .ref a_t)] → W p l e (headSpec (Cond.code yX10_takesWord cX10_takesWord 1 (some .boolean) :: wA) ({ frames := 5, cells := 0, slots := 0, locals := 167 })).room s m [.ref a_t].toArray below meth c H locs 0 0 Q (F0 m 39 ls []) := by
        intro N39
        induction N39 using Nat.strongRecOn with
        | ind N39 ih_39 =>
          intro H locs ls f39620 k39_0 k39_1 hL39_0 hm39 hP hD hS hl
          refine lv_aload_n hx hb dX10_takesWord_39 rfl (lv_at hl 0 rfl) ?_
          refine va_get (D := (dC, dI)) (ci := 10) (v := .int (iZ f39620)) (C := RX10) (T := TX10) (N := 10) hx hb hts i_X10 hown hK hP 0 rfl rfl 2 (by decide) (hts _ q_122) (fun _ h9 => h9) rfl dX10_takesWord_40 ?_
          refine lv_aload_n hx hb dX10_takesWord_43 rfl (lv_at hl 0 rfl) ?_
          refine va_get (D := (dC, dI)) (ci := 10) (v := .int (iZ t_length)) (C := RX10) (T := TX10) (N := 10) hx hb hts i_X10 hown hK hP 0 rfl rfl 1 (by decide) (hts _ q_117) (fun _ h9 => h9) rfl dX10_takesWord_44 ?_
          refine zv_icmp_ge (tgt := 78) hx hb dX10_takesWord_47 (by decide) (by omega) (by omega) (fun c39643 => ?_) (fun c39643 => ?_)
          · have hq39644 := hL39_0
            unfold FstL at hq39644
            refine lv_aload_n hx hb dX10_takesWord_78 rfl (lv_at hl 0 rfl) ?_
            refine lv_aload_n hx hb dX10_takesWord_79 rfl (lv_at hl 0 rfl) ?_
            refine va_get (D := (dC, dI)) (ci := 10) (v := .int (iZ f39620)) (C := RX10) (T := TX10) (N := 10) hx hb hts i_X10 hown hK hP 0 rfl rfl 2 (by decide) (hts _ q_122) (fun _ h9 => h9) rfl dX10_takesWord_80 ?_
            refine va_put (D := (dC, dI)) (ci := 10) (v := .int (iZ f39620)) (ty := tyX10 4) (C := RX10) (T := TX10) (N := 10) hx hb hts i_X10 tyX10 tyX10_ok nmX10 hown hK hP hD hS 0 rfl rfl 4 (by decide) (hts _ q_124) (fun _ h9 => h9) rfl (tyX10_ok 4 (by decide)) rfl rfl (Nat.le_of_ble_eq_true rfl) dX10_takesWord_83 (fun H locs hP hD hS => ?_)
            have hP : va_P (dC, dI) vwCl (wk_0 a_t q_t_bytes t_length f39620 z39599 f39620 t_own t_name t_number t_fault t_place q_t_bytes k_t_bytes g_t_bytes) H := hP
            have hD : va_D A (wk_0 a_t q_t_bytes t_length f39620 z39599 f39620 t_own t_name t_number t_fault t_place q_t_bytes k_t_bytes g_t_bytes) := hD
            refine lv_aload_n hx hb dX10_takesWord_86 rfl (lv_at hl 0 rfl) ?_
            refine lv_aload_n hx hb dX10_takesWord_87 rfl (lv_at hl 0 rfl) ?_
            have hPc := hP.sub (ws' := (wk_0 a_t q_t_bytes t_length f39620 z39599 f39620 t_own t_name t_number t_fault t_place q_t_bytes k_t_bytes g_t_bytes)) [0, 1] rfl
            have hDc := hD.sub (ws' := (wk_0 a_t q_t_bytes t_length f39620 z39599 f39620 t_own t_name t_number t_fault t_place q_t_bytes k_t_bytes g_t_bytes)) [0, 1] (by decide) rfl
            have hKc := hK.sub (tys' := [(k_t_bytes, .int)]) [0] rfl
            have hFc := va_free (wc := (wk_0 a_t q_t_bytes t_length f39620 z39599 f39620 t_own t_name t_number t_fault t_place q_t_bytes k_t_bytes g_t_bytes)) hD hS hA [0, 1] rfl
            refine va_calli (va_runV (As := []) (rest := [.ref a_t]) ⟨hx, hb, hml, hown, hts⟩ (z_X10_whichOwnWord l dC dI a_t q_t_bytes t_length f39620 z39599 f39620 t_own t_name t_number t_fault t_place k_t_bytes g_t_bytes H.size hb_g_t_bytes (by omega) (by omega) (by omega) (by omega) (by omega) (by omega) (by omega) (by omega) (by omega)) (cwV 0 hts (gV q_153 q_154 q_155 q_136 q_156) rfl rfl rfl mdv_yX10_whichOwnWord ⟨Nat.le_of_ble_eq_true rfl, Nat.le_of_ble_eq_true rfl⟩) ⟨fun a U g mk q => by obtain ⟨q0, q1, qP, qK, qD, qN, qS⟩ := q; exact ⟨q0, q1, qP, va_K.moved (u := U) (U := U.calling g mk a) (Vm.Alike.refl U.vm) qK, qD, nwAll_same (u := U) (U := U.calling g mk a) rfl qN, qS.same (u := U) (U := U.calling g mk a) rfl⟩, va_recv hKc hPc (ci := 10) (q0 := 0) rfl rfl, fun U hU hW => ⟨rfl, by rw [hU], by rw [hU]; exact hPc, va_K.moved hW.alike hKc, hDc.weaken (fun _ _ _ _ => trivial), nwAll_warm hW hN, by rw [hU]; exact ((hSW.kept hS.2.1).narrow hFc).warm hW⟩⟩ rfl rfl hl.1 rfl (lv_room (Nat.le_of_ble_eq_true rfl)) dX10_takesWord_88 ⟨Nat.le_of_ble_eq_true rfl, Nat.le_of_ble_eq_true rfl⟩) hS (fun q _ h => hFc q h) hFc (fun r39645 z39646 t H1 locs ht hvm hw hB hz1 hk1 hS => ?_)
            obtain ⟨rfl, h39647⟩ := hw
            obtain ⟨hP1, hK1, hD1⟩ := hB
            rw [ht] at hP1
            obtain ⟨hP, hD⟩ := va_join (wr := []) (w1 := (wk_0 a_t q_t_bytes t_length f39620 z39599 f39620 t_own t_name t_number t_fault t_place q_t_bytes k_t_bytes g_t_bytes)) hP hD [0, 1] [] rfl rfl (by decide) (by decide) hk1 hFc hP1 hD1
            generalize H1 = H at hP hS ⊢
            have hP : va_P (dC, dI) vwCl (wk_0 a_t q_t_bytes t_length f39620 z39599 f39620 t_own t_name t_number t_fault t_place q_t_bytes k_t_bytes g_t_bytes) H := hP
            have hD : va_D A (wk_0 a_t q_t_bytes t_length f39620 z39599 f39620 t_own t_name t_number t_fault t_place q_t_bytes k_t_bytes g_t_bytes) := hD
            refine va_put (D := (dC, dI)) (ci := 10) (v := .int (iZ z39646)) (ty := tyX10 5) (C := RX10) (T := TX10) (N := 10) hx hb hts i_X10 tyX10 tyX10_ok nmX10 hown hK hP hD hS 0 rfl rfl 5 (by decide) (hts _ q_125) (fun _ h9 => h9) rfl (tyX10_ok 5 (by decide)) rfl rfl (Nat.le_of_ble_eq_true rfl) dX10_takesWord_91 (fun H locs hP hD hS => ?_)
            have hP : va_P (dC, dI) vwCl (wk_0 a_t q_t_bytes t_length f39620 z39599 f39620 z39646 t_name t_number t_fault t_place q_t_bytes k_t_bytes g_t_bytes) H := hP
            have hD : va_D A (wk_0 a_t q_t_bytes t_length f39620 z39599 f39620 z39646 t_name t_number t_fault t_place q_t_bytes k_t_bytes g_t_bytes) := hD
            refine lv_iconst (v := iZ 1) hx hb dX10_takesWord_94 (by decide) ?_
            subst hQ
            exact W.zret (v := iZ 1) hx hb hr rfl (fun t ht hW => ⟨⟨iZ 1, 1, rfl, ⟨rfl, by omega⟩, f39620, z39599, f39620, z39646, t_fault, t_place, by omega, by omega, by omega, by omega, by omega, by omega, by omega, by omega, by rw [ht]; exact hP, va_K.moved hW.alike hK, hD⟩, hS.F ht⟩) hS.2.2 dX10_takesWord_95
          · refine lv_aload_n hx hb dX10_takesWord_50 rfl (lv_at hl 0 rfl) ?_
            refine va_get (D := (dC, dI)) (ci := 10) (v := .ref q_t_bytes) (C := RX10) (T := TX10) (N := 10) hx hb hts i_X10 hown hK hP 0 rfl rfl 0 (by decide) (hts _ q_118) (fun _ h9 => h9) rfl dX10_takesWord_51 ?_
            refine lv_aload_n hx hb dX10_takesWord_54 rfl (lv_at hl 0 rfl) ?_
            refine va_get (D := (dC, dI)) (ci := 10) (v := .int (iZ f39620)) (C := RX10) (T := TX10) (N := 10) hx hb hts i_X10 hown hK hP 0 rfl rfl 2 (by decide) (hts _ q_122) (fun _ h9 => h9) rfl dX10_takesWord_55 ?_
            refine zv_iald hx hb hK hP 1 0 rfl rfl (by omega) (by omega) (by omega) dX10_takesWord_58 (fun z39648 ez39648 => ?_)
            have bz39648 : 0 ≤ z39648 ∧ z39648 ≤ 255 := by rw [ez39648]; exact hb_g_t_bytes _ (by omega)
            have hPc := hP.sub (ws' := []) [] rfl
            have hDc := hD.sub (ws' := []) [] (by decide) rfl
            have hKc := hK.sub (tys' := []) [] rfl
            have hFc := va_free (wc := []) hD hS hA [] rfl
            refine va_calli (va_runS (As := [.int (iZ z39648)]) (rest := []) ⟨hx, hb, hml, hown, hts⟩ (z_X10_isLetter_x l dC dI z39648 H.size (by omega)) (va_cwS 1 hts (gS q_151 q_152 q_136 q_131) rfl rfl rfl mds_yX10_isLetter ⟨Nat.le_of_ble_eq_true rfl, Nat.le_of_ble_eq_true rfl⟩) ⟨fun a U g mk q => by obtain ⟨q0, q1, qP, qK, qD, qN⟩ := q; exact ⟨q0, q1, qP, va_K.moved (u := U) (U := U.calling g mk a) (Vm.Alike.refl U.vm) qK, qD, nwAll_same (u := U) (U := U.calling g mk a) rfl qN⟩, fun U hU hW => ⟨rfl, by rw [hU], by rw [hU]; exact hPc, va_K.moved hW.alike hKc, hDc.weaken (fun _ _ _ _ => trivial), nwAll_warm hW hN⟩⟩ rfl rfl hl.1 rfl (lv_room (Nat.le_of_ble_eq_true rfl)) dX10_takesWord_59 ⟨Nat.le_of_ble_eq_true rfl, Nat.le_of_ble_eq_true rfl⟩) hS (fun q _ h => hFc q h) hFc (fun r39649 z39650 t H1 locs ht hvm hw hB hz1 hk1 hS => ?_)
            obtain ⟨rfl, h39651, h39652⟩ := hw
            obtain ⟨hP1, hK1, hD1⟩ := hB
            rw [ht] at hP1
            obtain ⟨hP, hD⟩ := va_join (wr := (wk_0 a_t q_t_bytes t_length f39620 z39599 t_tokenEnd t_own t_name t_number t_fault t_place q_t_bytes k_t_bytes g_t_bytes)) (w1 := []) hP hD [] [0, 1] rfl rfl (by decide) (by decide) hk1 hFc hP1 hD1
            generalize H1 = H at hP hS ⊢
            have hP : va_P (dC, dI) vwCl (wk_0 a_t q_t_bytes t_length f39620 z39599 t_tokenEnd t_own t_name t_number t_fault t_place q_t_bytes k_t_bytes g_t_bytes) H := hP
            have hD : va_D A (wk_0 a_t q_t_bytes t_length f39620 z39599 t_tokenEnd t_own t_name t_number t_fault t_place q_t_bytes k_t_bytes g_t_bytes) := hD
            refine zv_if_eq (tgt := 78) hx hb dX10_takesWord_62 (by decide) (by omega) (fun c39653 => ?_) (fun c39653 => ?_)
            · have hq39654 := hL39_0
              unfold FstL at hq39654
              refine lv_aload_n hx hb dX10_takesWord_78 rfl (lv_at hl 0 rfl) ?_
              refine lv_aload_n hx hb dX10_takesWord_79 rfl (lv_at hl 0 rfl) ?_
              refine va_get (D := (dC, dI)) (ci := 10) (v := .int (iZ f39620)) (C := RX10) (T := TX10) (N := 10) hx hb hts i_X10 hown hK hP 0 rfl rfl 2 (by decide) (hts _ q_122) (fun _ h9 => h9) rfl dX10_takesWord_80 ?_
              refine va_put (D := (dC, dI)) (ci := 10) (v := .int (iZ f39620)) (ty := tyX10 4) (C := RX10) (T := TX10) (N := 10) hx hb hts i_X10 tyX10 tyX10_ok nmX10 hown hK hP hD hS 0 rfl rfl 4 (by decide) (hts _ q_124) (fun _ h9 => h9) rfl (tyX10_ok 4 (by decide)) rfl rfl (Nat.le_of_ble_eq_true rfl) dX10_takesWord_83 (fun H locs hP hD hS => ?_)
              have hP : va_P (dC, dI) vwCl (wk_0 a_t q_t_bytes t_length f39620 z39599 f39620 t_own t_name t_number t_fault t_place q_t_bytes k_t_bytes g_t_bytes) H := hP
              have hD : va_D A (wk_0 a_t q_t_bytes t_length f39620 z39599 f39620 t_own t_name t_number t_fault t_place q_t_bytes k_t_bytes g_t_bytes) := hD
              refine lv_aload_n hx hb dX10_takesWord_86 rfl (lv_at hl 0 rfl) ?_
              refine lv_aload_n hx hb dX10_takesWord_87 rfl (lv_at hl 0 rfl) ?_
              have hPc := hP.sub (ws' := (wk_0 a_t q_t_bytes t_length f39620 z39599 f39620 t_own t_name t_number t_fault t_place q_t_bytes k_t_bytes g_t_bytes)) [0, 1] rfl
              have hDc := hD.sub (ws' := (wk_0 a_t q_t_bytes t_length f39620 z39599 f39620 t_own t_name t_number t_fault t_place q_t_bytes k_t_bytes g_t_bytes)) [0, 1] (by decide) rfl
              have hKc := hK.sub (tys' := [(k_t_bytes, .int)]) [0] rfl
              have hFc := va_free (wc := (wk_0 a_t q_t_bytes t_length f39620 z39599 f39620 t_own t_name t_number t_fault t_place q_t_bytes k_t_bytes g_t_bytes)) hD hS hA [0, 1] rfl
              refine va_calli (va_runV (As := []) (rest := [.ref a_t]) ⟨hx, hb, hml, hown, hts⟩ (z_X10_whichOwnWord l dC dI a_t q_t_bytes t_length f39620 z39599 f39620 t_own t_name t_number t_fault t_place k_t_bytes g_t_bytes H.size hb_g_t_bytes (by omega) (by omega) (by omega) (by omega) (by omega) (by omega) (by omega) (by omega) (by omega)) (cwV 0 hts (gV q_153 q_154 q_155 q_136 q_156) rfl rfl rfl mdv_yX10_whichOwnWord ⟨Nat.le_of_ble_eq_true rfl, Nat.le_of_ble_eq_true rfl⟩) ⟨fun a U g mk q => by obtain ⟨q0, q1, qP, qK, qD, qN, qS⟩ := q; exact ⟨q0, q1, qP, va_K.moved (u := U) (U := U.calling g mk a) (Vm.Alike.refl U.vm) qK, qD, nwAll_same (u := U) (U := U.calling g mk a) rfl qN, qS.same (u := U) (U := U.calling g mk a) rfl⟩, va_recv hKc hPc (ci := 10) (q0 := 0) rfl rfl, fun U hU hW => ⟨rfl, by rw [hU], by rw [hU]; exact hPc, va_K.moved hW.alike hKc, hDc.weaken (fun _ _ _ _ => trivial), nwAll_warm hW hN, by rw [hU]; exact ((hSW.kept hS.2.1).narrow hFc).warm hW⟩⟩ rfl rfl hl.1 rfl (lv_room (Nat.le_of_ble_eq_true rfl)) dX10_takesWord_88 ⟨Nat.le_of_ble_eq_true rfl, Nat.le_of_ble_eq_true rfl⟩) hS (fun q _ h => hFc q h) hFc (fun r39655 z39656 t H1 locs ht hvm hw hB hz1 hk1 hS => ?_)
              obtain ⟨rfl, h39657⟩ := hw
              obtain ⟨hP1, hK1, hD1⟩ := hB
              rw [ht] at hP1
              obtain ⟨hP, hD⟩ := va_join (wr := []) (w1 := (wk_0 a_t q_t_bytes t_length f39620 z39599 f39620 t_own t_name t_number t_fault t_place q_t_bytes k_t_bytes g_t_bytes)) hP hD [0, 1] [] rfl rfl (by decide) (by decide) hk1 hFc hP1 hD1
              generalize H1 = H at hP hS ⊢
              have hP : va_P (dC, dI) vwCl (wk_0 a_t q_t_bytes t_length f39620 z39599 f39620 t_own t_name t_number t_fault t_place q_t_bytes k_t_bytes g_t_bytes) H := hP
              have hD : va_D A (wk_0 a_t q_t_bytes t_length f39620 z39599 f39620 t_own t_name t_number t_fault t_place q_t_bytes k_t_bytes g_t_bytes) := hD
              refine va_put (D := (dC, dI)) (ci := 10) (v := .int (iZ z39656)) (ty := tyX10 5) (C := RX10) (T := TX10) (N := 10) hx hb hts i_X10 tyX10 tyX10_ok nmX10 hown hK hP hD hS 0 rfl rfl 5 (by decide) (hts _ q_125) (fun _ h9 => h9) rfl (tyX10_ok 5 (by decide)) rfl rfl (Nat.le_of_ble_eq_true rfl) dX10_takesWord_91 (fun H locs hP hD hS => ?_)
              have hP : va_P (dC, dI) vwCl (wk_0 a_t q_t_bytes t_length f39620 z39599 f39620 z39656 t_name t_number t_fault t_place q_t_bytes k_t_bytes g_t_bytes) H := hP
              have hD : va_D A (wk_0 a_t q_t_bytes t_length f39620 z39599 f39620 z39656 t_name t_number t_fault t_place q_t_bytes k_t_bytes g_t_bytes) := hD
              refine lv_iconst (v := iZ 1) hx hb dX10_takesWord_94 (by decide) ?_
              subst hQ
              exact W.zret (v := iZ 1) hx hb hr rfl (fun t ht hW => ⟨⟨iZ 1, 1, rfl, ⟨rfl, by omega⟩, f39620, z39599, f39620, z39656, t_fault, t_place, by omega, by omega, by omega, by omega, by omega, by omega, by omega, by omega, by rw [ht]; exact hP, va_K.moved hW.alike hK, hD⟩, hS.F ht⟩) hS.2.2 dX10_takesWord_95
            · refine lv_aload_n hx hb dX10_takesWord_65 rfl (lv_at hl 0 rfl) ?_
              refine lv_dup hx hb dX10_takesWord_66 rfl ?_
              refine va_get (D := (dC, dI)) (ci := 10) (v := .int (iZ f39620)) (C := RX10) (T := TX10) (N := 10) hx hb hts i_X10 hown hK hP 0 rfl rfl 2 (by decide) (hts _ q_122) (fun _ h9 => h9) rfl dX10_takesWord_67 ?_
              refine lv_iconst (v := iZ 1) hx hb dX10_takesWord_70 (by decide) ?_
              refine zv_iadd hx hb (f39620 + 1) (by omega) dX10_takesWord_71 ?_
              refine va_put (D := (dC, dI)) (ci := 10) (v := .int (iZ (f39620 + 1))) (ty := tyX10 2) (C := RX10) (T := TX10) (N := 10) hx hb hts i_X10 tyX10 tyX10_ok nmX10 hown hK hP hD hS 0 rfl rfl 2 (by decide) (hts _ q_122) (fun _ h9 => h9) rfl (tyX10_ok 2 (by decide)) rfl rfl (Nat.le_of_ble_eq_true rfl) dX10_takesWord_72 (fun H locs hP hD hS => ?_)
              have hP : va_P (dC, dI) vwCl (wk_0 a_t q_t_bytes t_length (f39620 + 1) z39599 t_tokenEnd t_own t_name t_number t_fault t_place q_t_bytes k_t_bytes g_t_bytes) H := hP
              have hD : va_D A (wk_0 a_t q_t_bytes t_length (f39620 + 1) z39599 t_tokenEnd t_own t_name t_number t_fault t_place q_t_bytes k_t_bytes g_t_bytes) := hD
              refine lv_goto (tgt := 39) hx hb dX10_takesWord_75 (by decide) ?_
              have hG39658 : FstL g_t_bytes (f39620 + 1) z39599 t_length := (Or.inl (by omega))
              exact ih_39 (N39 - 1) (by omega) _ _ _ (f39620 + 1) (by omega) (by omega) hG39658 (by omega) hP hD hS (lv_sub hl [0] rfl)
      exact lp_39 ((t_length - z39599 : Int)).toNat _ _ _ z39599 (by omega) (by omega) hG39612 (by omega) hP hD hS (lv_sub hl [0] rfl)
    · refine lv_aload_n hx hb dX10_takesWord_21 rfl (lv_at hl 0 rfl) ?_
      refine lv_iconst (v := iZ 1) hx hb dX10_takesWord_22 (by decide) ?_
      refine lv_aload_n hx hb dX10_takesWord_23 rfl (lv_at hl 0 rfl) ?_
      refine va_get (D := (dC, dI)) (ci := 10) (v := .int (iZ z39599)) (C := RX10) (T := TX10) (N := 10) hx hb hts i_X10 hown hK hP 0 rfl rfl 2 (by decide) (hts _ q_122) (fun _ h9 => h9) rfl dX10_takesWord_24 ?_
      have hPc := hP.sub (ws' := (wk_0 a_t q_t_bytes t_length z39599 t_tokenAt t_tokenEnd t_own t_name t_number t_fault t_place q_t_bytes k_t_bytes g_t_bytes)) [0, 1] rfl
      have hDc := hD.sub (ws' := (wk_0 a_t q_t_bytes t_length z39599 t_tokenAt t_tokenEnd t_own t_name t_number t_fault t_place q_t_bytes k_t_bytes g_t_bytes)) [0, 1] (by decide) rfl
      have hKc := hK.sub (tys' := [(k_t_bytes, .int)]) [0] rfl
      have hFc := va_free (wc := (wk_0 a_t q_t_bytes t_length z39599 t_tokenAt t_tokenEnd t_own t_name t_number t_fault t_place q_t_bytes k_t_bytes g_t_bytes)) hD hS hA [0, 1] rfl
      refine va_calli (va_runV (As := [.int (iZ 1), .int (iZ z39599)]) (rest := []) ⟨hx, hb, hml, hown, hts⟩ (z_X10_wrong l dC dI a_t 1 z39599 q_t_bytes t_length z39599 t_tokenAt t_tokenEnd t_own t_name t_number t_fault t_place k_t_bytes g_t_bytes H.size hb_g_t_bytes (by omega) (by omega) (by omega) (by omega) (by omega) (by omega) (by omega) (by omega) (by omega) (by omega)) (cwV 2 hts (gV q_133 q_134 q_135 q_136 q_137) rfl rfl rfl mdv_yX10_wrong ⟨Nat.le_of_ble_eq_true rfl, Nat.le_of_ble_eq_true rfl⟩) ⟨fun a U g mk q => by obtain ⟨q0, q1, qP, qK, qD, qN⟩ := q; exact ⟨q0, q1, qP, va_K.moved (u := U) (U := U.calling g mk a) (Vm.Alike.refl U.vm) qK, qD, nwAll_same (u := U) (U := U.calling g mk a) rfl qN⟩, va_recv hKc hPc (ci := 10) (q0 := 0) rfl rfl, fun U hU hW => ⟨rfl, by rw [hU], by rw [hU]; exact hPc, va_K.moved hW.alike hKc, hDc.weaken (fun _ _ _ _ => trivial), nwAll_warm hW hN⟩⟩ rfl rfl hl.1 rfl (lv_room (Nat.le_of_ble_eq_true rfl)) dX10_takesWord_27 ⟨Nat.le_of_ble_eq_true rfl, Nat.le_of_ble_eq_true rfl⟩) hS (fun q _ h => hFc q h) hFc (fun r39659 z39660 t H1 locs ht hvm hw hB hz1 hk1 hS => ?_)
      obtain ⟨rfl, h39661⟩ := hw
      obtain ⟨hP1, hK1, hD1⟩ := hB
      rw [ht] at hP1
      obtain ⟨hP, hD⟩ := va_join (wr := []) (w1 := (wk_0 a_t q_t_bytes t_length z39599 t_tokenAt t_tokenEnd t_own t_name t_number 1 z39599 q_t_bytes k_t_bytes g_t_bytes)) hP hD [0, 1] [] rfl rfl (by decide) (by decide) hk1 hFc hP1 hD1
      generalize H1 = H at hP hS ⊢
      have hP : va_P (dC, dI) vwCl (wk_0 a_t q_t_bytes t_length z39599 t_tokenAt t_tokenEnd t_own t_name t_number 1 z39599 q_t_bytes k_t_bytes g_t_bytes) H := hP
      have hD : va_D A (wk_0 a_t q_t_bytes t_length z39599 t_tokenAt t_tokenEnd t_own t_name t_number 1 z39599 q_t_bytes k_t_bytes g_t_bytes) := hD
      subst hQ
      exact W.zret (v := iZ z39660) hx hb hr (zb_nar (by omega)) (fun t ht hW => ⟨⟨iZ z39660, z39660, rfl, ⟨rfl, by omega⟩, z39599, t_tokenAt, t_tokenEnd, t_own, 1, z39599, by omega, by omega, by omega, by omega, by omega, by omega, by omega, by omega, by rw [ht]; exact hP, va_K.moved hW.alike hK, hD⟩, hS.F ht⟩) hS.2.2 dX10_takesWord_30
