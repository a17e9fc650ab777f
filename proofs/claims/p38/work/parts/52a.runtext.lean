set_option maxHeartbeats 4000000 in
set_option maxRecDepth 100000 in
theorem z_X10_whichOwnWord_m (l : Launch) (dC : Nat → ClassId) (dI : Nat → Nat → Nat) (a_t : Nat) (q_t_bytes : Nat) (t_length : Int) (t_at : Int) (t_tokenAt : Int) (t_tokenEnd : Int) (t_own : Int) (t_name : Int64) (t_number : Int) (t_fault : Int) (t_place : Int) (k_t_bytes : ClassId) (g_t_bytes : Nat → Int) (sz : Nat) (hb_g_t_bytes : ∀ j : Nat, j < 1600 → 0 ≤ g_t_bytes j ∧ g_t_bytes j ≤ 255) (b_t_length : 0 ≤ t_length ∧ t_length ≤ 1600) (b_t_at : 0 ≤ t_at ∧ t_at ≤ 1600) (b_t_tokenAt : 0 ≤ t_tokenAt ∧ t_tokenAt ≤ 1599) (b_t_tokenEnd : -1 ≤ t_tokenEnd ∧ t_tokenEnd ≤ 1600) (b_t_own : -1 ≤ t_own ∧ t_own ≤ 13) (b_t_number : 0 ≤ t_number ∧ t_number ≤ 999) (b_t_fault : -2147483648 ≤ t_fault ∧ t_fault ≤ 2147483647) (b_t_place : -2147483648 ≤ t_place ∧ t_place ≤ 2147483647) (hp51542 : t_tokenAt ≤ t_tokenEnd) : Met l yX10_whichOwnWord (Cond.code yX10_whichOwnWord cX10_whichOwnWord 7 (some .int) :: wA) ({ frames := 4, cells := 0, slots := 0, locals := 141 }) (va_Pc [.ref a_t] (fun U => U.heap.size = sz ∧ va_P (dC, dI) vwCl (wk_0 a_t q_t_bytes t_length t_at t_tokenAt t_tokenEnd t_own t_name t_number t_fault t_place q_t_bytes k_t_bytes g_t_bytes) U.heap ∧ va_K (dC, dI) vwCl [(k_t_bytes, .int)] U ∧ va_D (fun _ => True) (wk_0 a_t q_t_bytes t_length t_at t_tokenAt t_tokenEnd t_own t_name t_number t_fault t_place q_t_bytes k_t_bytes g_t_bytes) ∧ nwAll U ∧ SWs (va_A (wk_0 a_t q_t_bytes t_length t_at t_tokenAt t_tokenEnd t_own t_name t_number t_fault t_place q_t_bytes k_t_bytes g_t_bytes) sz) U U.heap)) (va_Qi (fun (r : Int32) (zR : Int) => r = iZ zR ∧ (-1 ≤ zR ∧ zR ≤ 13) ∧ (zR = -1 ∨ t_tokenAt + 3 ≤ t_tokenEnd)) (fun zR t => va_P (dC, dI) vwCl (wk_0 a_t q_t_bytes t_length t_at t_tokenAt t_tokenEnd t_own t_name t_number t_fault t_place q_t_bytes k_t_bytes g_t_bytes) t.heap ∧ va_K (dC, dI) vwCl [(k_t_bytes, .int)] t ∧ va_D (va_A (wk_0 a_t q_t_bytes t_length t_at t_tokenAt t_tokenEnd t_own t_name t_number t_fault t_place q_t_bytes k_t_bytes g_t_bytes) sz) (wk_0 a_t q_t_bytes t_length t_at t_tokenAt t_tokenEnd t_own t_name t_number t_fault t_place q_t_bytes k_t_bytes g_t_bytes)) (va_A (wk_0 a_t q_t_bytes t_length t_at t_tokenAt t_tokenEnd t_own t_name t_number t_fault t_place q_t_bytes k_t_bytes g_t_bytes) sz)) 0 0 (va_A (wk_0 a_t q_t_bytes t_length t_at t_tokenAt t_tokenEnd t_own t_name t_number t_fault t_place q_t_bytes k_t_bytes g_t_bytes) sz) := by
  refine Met.ofW (cc := cX10_whichOwnWord) (maxL := 7) (ret := (some .int)) (by decide) rfl ?_
  intro p e s m args below meth c s₁ B hml hv
  obtain ⟨rfl, hsz, hP, hK, hD0, hN, hSW⟩ := hv
  have hx := B.exec
  have hb := B.bytes
  have hr := B.returns
  have hts : ∀ w ∈ wA, w.before [.ref a_t].toArray s = true := fun w h => atoms_spec (ws := Cond.code yX10_whichOwnWord cX10_whichOwnWord 7 (some .int) :: wA) B.pre w (List.mem_cons_of_mem _ h)
  have hown : s.vm.findClass RX10 = some m.cls := findClass_of_methodNamed B.named
  have hlocks := B.notSynchronized
  subst hsz
  have hD := hD0.self (sz := s.heap.size)
  generalize hQ : MQ below (va_Qi (fun (r : Int32) (zR : Int) => r = iZ zR ∧ (-1 ≤ zR ∧ zR ≤ 13) ∧ (zR = -1 ∨ t_tokenAt + 3 ≤ t_tokenEnd)) (fun zR t => va_P (dC, dI) vwCl (wk_0 a_t q_t_bytes t_length t_at t_tokenAt t_tokenEnd t_own t_name t_number t_fault t_place q_t_bytes k_t_bytes g_t_bytes) t.heap ∧ va_K (dC, dI) vwCl [(k_t_bytes, .int)] t ∧ va_D (va_A (wk_0 a_t q_t_bytes t_length t_at t_tokenAt t_tokenEnd t_own t_name t_number t_fault t_place q_t_bytes k_t_bytes g_t_bytes) s.heap.size) (wk_0 a_t q_t_bytes t_length t_at t_tokenAt t_tokenEnd t_own t_name t_number t_fault t_place q_t_bytes k_t_bytes g_t_bytes)) (va_A (wk_0 a_t q_t_bytes t_length t_at t_tokenAt t_tokenEnd t_own t_name t_number t_fault t_place q_t_bytes k_t_bytes g_t_bytes) s.heap.size)) [.ref a_t].toArray s 0 0 (va_A (wk_0 a_t q_t_bytes t_length t_at t_tokenAt t_tokenEnd t_own t_name t_number t_fault t_place q_t_bytes k_t_bytes g_t_bytes) s.heap.size) = Q
  have hA : ∀ q : Nat, s.heap.size ≤ q → va_A (wk_0 a_t q_t_bytes t_length t_at t_tokenAt t_tokenEnd t_own t_name t_number t_fault t_place q_t_bytes k_t_bytes g_t_bytes) s.heap.size q := fun q h => Or.inr h
  generalize hAe : va_A (wk_0 a_t q_t_bytes t_length t_at t_tokenAt t_tokenEnd t_own t_name t_number t_fault t_place q_t_bytes k_t_bytes g_t_bytes) s.heap.size = A at hD hA hQ hSW
  have hS : va_S A s.heap s.heap [] := va_S.rf
  obtain ⟨sa, sv, hSA⟩ := id hSW
  have hl := lv_entry ([.ref a_t]) (n := 7) (Nat.le_of_ble_eq_true rfl)
  rw [lg_entry_eq]
  generalize (lg_sl ([.ref a_t]) ++ List.replicate (7 - (lg_sl ([.ref a_t])).length) Slot.unset).toArray = ls at hl ⊢
  have hl : lv_has ls 7 [(0, .ref a_t)] := hl
  refine lv_aload_n hx hb dX10_whichOwnWord_0 rfl (lv_at hl 0 rfl) ?_
  refine va_get (D := (dC, dI)) (ci := 10) (v := .int (iZ t_tokenEnd)) (C := RX10) (T := TX10) (N := 10) hx hb hts i_X10 hown hK hP 0 rfl rfl 4 (by decide) (hts _ q_124) (fun _ h9 => h9) rfl dX10_whichOwnWord_1 ?_
  refine lv_aload_n hx hb dX10_whichOwnWord_4 rfl (lv_at hl 0 rfl) ?_
  refine va_get (D := (dC, dI)) (ci := 10) (v := .int (iZ t_tokenAt)) (C := RX10) (T := TX10) (N := 10) hx hb hts i_X10 hown hK hP 0 rfl rfl 3 (by decide) (hts _ q_123) (fun _ h9 => h9) rfl dX10_whichOwnWord_5 ?_
  refine zv_isub hx hb (-t_tokenAt + t_tokenEnd) (by omega) dX10_whichOwnWord_8 ?_
  refine lv_istore_n (lv' := [(1, .int (iZ (-t_tokenAt + t_tokenEnd))), (0, .ref a_t)]) hx hb dX10_whichOwnWord_9 rfl hl (by decide) rfl (fun ls hl => ?_)
  refine lv_iconst (v := iZ 0) hx hb dX10_whichOwnWord_10 (by decide) ?_
  refine lv_istore_n (lv' := [(2, .int (iZ 0)), (1, .int (iZ (-t_tokenAt + t_tokenEnd))), (0, .ref a_t)]) hx hb dX10_whichOwnWord_11 rfl hl (by decide) rfl (fun ls hl => ?_)
  refine lv_iconst (v := iZ 0) hx hb dX10_whichOwnWord_12 (by decide) ?_
  refine lv_istore_n (lv' := [(3, .int (iZ 0)), (2, .int (iZ 0)), (1, .int (iZ (-t_tokenAt + t_tokenEnd))), (0, .ref a_t)]) hx hb dX10_whichOwnWord_13 rfl hl (by decide) rfl (fun ls hl => ?_)
  refine lv_iconst (v := iZ 1) hx hb dX10_whichOwnWord_14 (by decide) ?_
  refine lv_istore (lv' := [(4, .int (iZ 1)), (3, .int (iZ 0)), (2, .int (iZ 0)), (1, .int (iZ (-t_tokenAt + t_tokenEnd))), (0, .ref a_t)]) hx hb dX10_whichOwnWord_15 hl (by decide) rfl (fun ls hl => ?_)
  refine lv_iconst (v := iZ 0) hx hb dX10_whichOwnWord_17 (by decide) ?_
  refine lv_istore (lv' := [(5, .int (iZ 0)), (4, .int (iZ 1)), (3, .int (iZ 0)), (2, .int (iZ 0)), (1, .int (iZ (-t_tokenAt + t_tokenEnd))), (0, .ref a_t)]) hx hb dX10_whichOwnWord_18 hl (by decide) rfl (fun ls hl => ?_)
  have hG51741 : OwI 0 0 := OwI_init
  have hG51742 : OwJ 0 0 := OwJ_init
  have lp_20 : ∀ (N20 : Nat) (H : Heap) (locs : List Loc) (ls : Array Slot) (i51786 : Int) (i51762 : Int) (i51763 : Int) (i51764 : Int), 0 ≤ i51786 → 0 ≤ -i51786 + 31 → 0 ≤ -i51763 + 1 → 0 ≤ i51763 → 0 ≤ -i51764 + 255 → 0 ≤ i51762 + i51763 - 1 → 0 ≤ i51764 - i51786 → 0 ≤ -i51762 + i51764 → OwI i51764 i51786 → OwJ i51764 i51762 → -i51764 + 2147483647 ≤ (N20 : Int) → va_P (dC, dI) vwCl (wk_0 a_t q_t_bytes t_length t_at t_tokenAt t_tokenEnd t_own t_name t_number t_fault t_place q_t_bytes k_t_bytes g_t_bytes) H → va_D A (wk_0 a_t q_t_bytes t_length t_at t_tokenAt t_tokenEnd t_own t_name t_number t_fault t_place q_t_bytes k_t_bytes g_t_bytes) → va_S A s.heap H locs → lv_has ls 7 [(0, .ref a_t), (1, .int (iZ (-t_tokenAt + t_tokenEnd))), (2, .int (iZ i51786)), (3, .int (iZ i51762)), (4, .int (iZ i51763)), (5, .int (iZ i51764))] → W p l e (headSpec (Cond.code yX10_whichOwnWord cX10_whichOwnWord 7 (some .int) :: wA) ({ frames := 4, cells := 0, slots := 0, locals := 141 })).room s m [.ref a_t].toArray below meth c H locs 0 0 Q (F0 m 20 ls []) := by
    intro N20
    induction N20 using Nat.strongRecOn with
    | ind N20 ih_20 =>
      intro H locs ls i51786 i51762 i51763 i51764 k20_0 k20_1 k20_2 k20_3 k20_4 k20_5 k20_6 k20_7 hL20_0 hL20_1 hm20 hP hD hS hl
      refine lv_iload hx hb dX10_whichOwnWord_20 (lv_at hl 5 rfl) ?_
      refine va_ldcS hx hb hown hSA.2.2.1 dX10_whichOwnWord_22 ?_
      have hPc := hP.sub (ws' := []) [] rfl
      have hDc := hD.sub (ws' := []) [] (by decide) rfl
      have hKc := hK.sub (tys' := []) [] rfl
      have hFc := va_free (wc := []) hD hS hA [] rfl
      refine va_calli (va_runV (As := []) (rest := [.int (iZ i51764)]) ⟨hx, hb, hml, hown, hts⟩ (s_length l dC dI sa sv H.size) (cwV 0 hts (gV q_157 q_158 q_159 q_14 q_32) rfl rfl rfl mdv_yJ0_length_8abf5 ⟨Nat.le_of_ble_eq_true rfl, Nat.le_of_ble_eq_true rfl⟩) ⟨fun a U g mk q => by obtain ⟨q0, q1, qS⟩ := q; exact ⟨q0, q1, qS.same (u := U) (U := U.calling g mk a) rfl⟩, hSA.recv hS, fun U hU hW => ⟨rfl, by rw [hU], by rw [hU]; exact ((hSA.kept hS.2.1).narrow hFc).warm hW⟩⟩ rfl rfl hl.1 rfl (lv_room (Nat.le_of_ble_eq_true rfl)) dX10_whichOwnWord_24 ⟨Nat.le_of_ble_eq_true rfl, Nat.le_of_ble_eq_true rfl⟩) hS (fun q _ h => hFc q h) hFc (fun r51920 z51921 t H1 locs ht hvm hw hB hz1 hk1 hS => ?_)
      obtain ⟨rfl, h51922⟩ := hw
      have hP1 : va_P (dC, dI) vwCl [] H1 := fun k q h => by simp at h
      have hD1 : va_D (va_A [] H.size) [] := ⟨fun i j p q h => by simp at h, fun k q h => by simp at h⟩
      obtain ⟨hP, hD⟩ := va_join (wr := (wk_0 a_t q_t_bytes t_length t_at t_tokenAt t_tokenEnd t_own t_name t_number t_fault t_place q_t_bytes k_t_bytes g_t_bytes)) (w1 := []) hP hD [] [0, 1] rfl rfl (by decide) (by decide) hk1 hFc hP1 hD1
      generalize H1 = H at hP hS ⊢
      have hP : va_P (dC, dI) vwCl (wk_0 a_t q_t_bytes t_length t_at t_tokenAt t_tokenEnd t_own t_name t_number t_fault t_place q_t_bytes k_t_bytes g_t_bytes) H := hP
      have hD : va_D A (wk_0 a_t q_t_bytes t_length t_at t_tokenAt t_tokenEnd t_own t_name t_number t_fault t_place q_t_bytes k_t_bytes g_t_bytes) := hD
      refine zv_icmp_ge (tgt := 111) hx hb dX10_whichOwnWord_27 (by decide) (by omega) (by omega) (fun c51923 => ?_) (fun c51923 => ?_)
      · refine lv_iconst (v := iZ (-1)) hx hb dX10_whichOwnWord_111 (by decide) ?_
        subst hQ
        exact W.iret (v := iZ (-1)) hx hb hr (fun t ht hW => ⟨⟨iZ (-1), (-1), rfl, ⟨rfl, by omega, by omega⟩, by rw [ht]; exact hP, va_K.moved hW.alike hK, hD⟩, hS.F ht⟩) hS.2.2 dX10_whichOwnWord_112
      · refine va_ldcS hx hb hown hSA.2.2.1 dX10_whichOwnWord_30 ?_
        refine lv_iload hx hb dX10_whichOwnWord_32 (lv_at hl 5 rfl) ?_
        have hPc := hP.sub (ws' := []) [] rfl
        have hDc := hD.sub (ws' := []) [] (by decide) rfl
        have hKc := hK.sub (tys' := []) [] rfl
        have hFc := va_free (wc := []) hD hS hA [] rfl
        refine va_calli (va_runV (As := [.int (iZ i51764)]) (rest := []) ⟨hx, hb, hml, hown, hts⟩ (s_charAt l dC dI sa sv i51764 H.size (by omega) (by omega)) (cwV 1 hts (gV q_160 q_161 q_162 q_14 q_10) rfl rfl rfl mdv_yJ0_charAt_5068e ⟨Nat.le_of_ble_eq_true rfl, Nat.le_of_ble_eq_true rfl⟩) ⟨fun a U g mk q => by obtain ⟨q0, q1, qS⟩ := q; exact ⟨q0, q1, qS.same (u := U) (U := U.calling g mk a) rfl⟩, hSA.recv hS, fun U hU hW => ⟨rfl, by rw [hU], by rw [hU]; exact ((hSA.kept hS.2.1).narrow hFc).warm hW⟩⟩ rfl rfl hl.1 rfl (lv_room (Nat.le_of_ble_eq_true rfl)) dX10_whichOwnWord_34 ⟨Nat.le_of_ble_eq_true rfl, Nat.le_of_ble_eq_true rfl⟩) hS (fun q _ h => hFc q h) hFc (fun r51924 z51925 t H1 locs ht hvm hw hB hz1 hk1 hS => ?_)
        obtain ⟨rfl, h51926, h51927⟩ := hw
        have hP1 : va_P (dC, dI) vwCl [] H1 := fun k q h => by simp at h
        have hD1 : va_D (va_A [] H.size) [] := ⟨fun i j p q h => by simp at h, fun k q h => by simp at h⟩
        obtain ⟨hP, hD⟩ := va_join (wr := (wk_0 a_t q_t_bytes t_length t_at t_tokenAt t_tokenEnd t_own t_name t_number t_fault t_place q_t_bytes k_t_bytes g_t_bytes)) (w1 := []) hP hD [] [0, 1] rfl rfl (by decide) (by decide) hk1 hFc hP1 hD1
        generalize H1 = H at hP hS ⊢
        have hP : va_P (dC, dI) vwCl (wk_0 a_t q_t_bytes t_length t_at t_tokenAt t_tokenEnd t_own t_name t_number t_fault t_place q_t_bytes k_t_bytes g_t_bytes) H := hP
        have hD : va_D A (wk_0 a_t q_t_bytes t_length t_at t_tokenAt t_tokenEnd t_own t_name t_number t_fault t_place q_t_bytes k_t_bytes g_t_bytes) := hD
        refine lv_istore (lv' := [(6, .int (iZ z51925)), (0, .ref a_t), (1, .int (iZ (-t_tokenAt + t_tokenEnd))), (2, .int (iZ i51786)), (3, .int (iZ i51762)), (4, .int (iZ i51763)), (5, .int (iZ i51764))]) hx hb dX10_whichOwnWord_37 hl (by decide) rfl (fun ls hl => ?_)
        refine lv_iload hx hb dX10_whichOwnWord_39 (lv_at hl 0 rfl) ?_
        refine lv_bipush (v := iZ 32) hx hb dX10_whichOwnWord_41 (by decide) ?_
        refine zv_icmp_ne (tgt := 69) hx hb dX10_whichOwnWord_43 (by decide) (by omega) (by omega) (fun c51928 => ?_) (fun c51928 => ?_)
        · have hq51929 := OwJ_no hL20_1 (by omega) h51926 (by omega)
          have hq51930 := OwI_no hL20_0 (by omega) h51926 (by omega)
          refine lv_iload hx hb dX10_whichOwnWord_69 (lv_at hl 5 rfl) ?_
          refine zv_if_eq (tgt := 99) hx hb dX10_whichOwnWord_71 (by decide) (by omega) (fun c51931 => ?_) (fun c51931 => ?_)
          · refine lv_iconst (v := iZ 0) hx hb dX10_whichOwnWord_99 (by decide) ?_
            refine lv_istore (lv' := [(4, .int (iZ 0)), (6, .int (iZ z51925)), (0, .ref a_t), (1, .int (iZ (-t_tokenAt + t_tokenEnd))), (2, .int (iZ i51786)), (3, .int (iZ i51762)), (5, .int (iZ i51764))]) hx hb dX10_whichOwnWord_100 hl (by decide) rfl (fun ls hl => ?_)
            refine lv_iinc (v := iZ (i51762 + 1)) (lv' := [(3, .int (iZ (i51762 + 1))), (4, .int (iZ 0)), (6, .int (iZ z51925)), (0, .ref a_t), (1, .int (iZ (-t_tokenAt + t_tokenEnd))), (2, .int (iZ i51786)), (5, .int (iZ i51764))]) hx hb dX10_whichOwnWord_102 hl (k := 5) rfl (iZ_inc (by omega)) (by decide) rfl (fun ls hl => ?_)
            refine lv_iinc (v := iZ (i51764 + 1)) (lv' := [(5, .int (iZ (i51764 + 1))), (3, .int (iZ (i51762 + 1))), (4, .int (iZ 0)), (6, .int (iZ z51925)), (0, .ref a_t), (1, .int (iZ (-t_tokenAt + t_tokenEnd))), (2, .int (iZ i51786))]) hx hb dX10_whichOwnWord_105 hl (k := 6) rfl (iZ_inc (by omega)) (by decide) rfl (fun ls hl => ?_)
            refine lv_goto (tgt := 20) hx hb dX10_whichOwnWord_108 (by decide) ?_
            exact ih_20 (N20 - 1) (by omega) _ _ _ i51786 (i51762 + 1) 0 (i51764 + 1) (by omega) (by omega) (by omega) (by omega) (by omega) (by omega) (by omega) (by omega) hq51930 hq51929 (by omega) hP hD hS (lv_sub hl [4, 5, 6, 1, 2, 0] rfl)
          · refine lv_iload_n hx hb dX10_whichOwnWord_74 rfl (lv_at hl 4 rfl) ?_
            refine lv_iload_n hx hb dX10_whichOwnWord_75 rfl (lv_at hl 2 rfl) ?_
            refine zv_icmp_ge (tgt := 99) hx hb dX10_whichOwnWord_76 (by decide) (by omega) (by omega) (fun c51932 => ?_) (fun c51932 => ?_)
            · refine lv_iconst (v := iZ 0) hx hb dX10_whichOwnWord_99 (by decide) ?_
              refine lv_istore (lv' := [(4, .int (iZ 0)), (6, .int (iZ z51925)), (0, .ref a_t), (1, .int (iZ (-t_tokenAt + t_tokenEnd))), (2, .int (iZ i51786)), (3, .int (iZ i51762)), (5, .int (iZ i51764))]) hx hb dX10_whichOwnWord_100 hl (by decide) rfl (fun ls hl => ?_)
              refine lv_iinc (v := iZ (i51762 + 1)) (lv' := [(3, .int (iZ (i51762 + 1))), (4, .int (iZ 0)), (6, .int (iZ z51925)), (0, .ref a_t), (1, .int (iZ (-t_tokenAt + t_tokenEnd))), (2, .int (iZ i51786)), (5, .int (iZ i51764))]) hx hb dX10_whichOwnWord_102 hl (k := 5) rfl (iZ_inc (by omega)) (by decide) rfl (fun ls hl => ?_)
              refine lv_iinc (v := iZ (i51764 + 1)) (lv' := [(5, .int (iZ (i51764 + 1))), (3, .int (iZ (i51762 + 1))), (4, .int (iZ 0)), (6, .int (iZ z51925)), (0, .ref a_t), (1, .int (iZ (-t_tokenAt + t_tokenEnd))), (2, .int (iZ i51786))]) hx hb dX10_whichOwnWord_105 hl (k := 6) rfl (iZ_inc (by omega)) (by decide) rfl (fun ls hl => ?_)
              refine lv_goto (tgt := 20) hx hb dX10_whichOwnWord_108 (by decide) ?_
              exact ih_20 (N20 - 1) (by omega) _ _ _ i51786 (i51762 + 1) 0 (i51764 + 1) (by omega) (by omega) (by omega) (by omega) (by omega) (by omega) (by omega) (by omega) hq51930 hq51929 (by omega) hP hD hS (lv_sub hl [4, 5, 6, 1, 2, 0] rfl)
            · refine lv_aload_n hx hb dX10_whichOwnWord_79 rfl (lv_at hl 1 rfl) ?_
              refine va_get (D := (dC, dI)) (ci := 10) (v := .ref q_t_bytes) (C := RX10) (T := TX10) (N := 10) hx hb hts i_X10 hown hK hP 0 rfl rfl 0 (by decide) (hts _ q_118) (fun _ h9 => h9) rfl dX10_whichOwnWord_80 ?_
              refine lv_aload_n hx hb dX10_whichOwnWord_83 rfl (lv_at hl 1 rfl) ?_
              refine va_get (D := (dC, dI)) (ci := 10) (v := .int (iZ t_tokenAt)) (C := RX10) (T := TX10) (N := 10) hx hb hts i_X10 hown hK hP 0 rfl rfl 3 (by decide) (hts _ q_123) (fun _ h9 => h9) rfl dX10_whichOwnWord_84 ?_
              refine lv_iload_n hx hb dX10_whichOwnWord_87 rfl (lv_at hl 4 rfl) ?_
              refine zv_iadd hx hb (i51762 + t_tokenAt) (by omega) dX10_whichOwnWord_88 ?_
              refine zv_iald hx hb hK hP 1 0 rfl rfl (by omega) (by omega) (by omega) dX10_whichOwnWord_89 (fun z51933 ez51933 => ?_)
              have bz51933 : 0 ≤ z51933 ∧ z51933 ≤ 255 := by rw [ez51933]; exact hb_g_t_bytes _ (by omega)
              refine lv_iload hx hb dX10_whichOwnWord_90 (lv_at hl 0 rfl) ?_
              refine zv_icmp_ne (tgt := 99) hx hb dX10_whichOwnWord_92 (by decide) (by omega) (by omega) (fun c51934 => ?_) (fun c51934 => ?_)
              · refine lv_iconst (v := iZ 0) hx hb dX10_whichOwnWord_99 (by decide) ?_
                refine lv_istore (lv' := [(4, .int (iZ 0)), (6, .int (iZ z51925)), (0, .ref a_t), (1, .int (iZ (-t_tokenAt + t_tokenEnd))), (2, .int (iZ i51786)), (3, .int (iZ i51762)), (5, .int (iZ i51764))]) hx hb dX10_whichOwnWord_100 hl (by decide) rfl (fun ls hl => ?_)
                refine lv_iinc (v := iZ (i51762 + 1)) (lv' := [(3, .int (iZ (i51762 + 1))), (4, .int (iZ 0)), (6, .int (iZ z51925)), (0, .ref a_t), (1, .int (iZ (-t_tokenAt + t_tokenEnd))), (2, .int (iZ i51786)), (5, .int (iZ i51764))]) hx hb dX10_whichOwnWord_102 hl (k := 5) rfl (iZ_inc (by omega)) (by decide) rfl (fun ls hl => ?_)
                refine lv_iinc (v := iZ (i51764 + 1)) (lv' := [(5, .int (iZ (i51764 + 1))), (3, .int (iZ (i51762 + 1))), (4, .int (iZ 0)), (6, .int (iZ z51925)), (0, .ref a_t), (1, .int (iZ (-t_tokenAt + t_tokenEnd))), (2, .int (iZ i51786))]) hx hb dX10_whichOwnWord_105 hl (k := 6) rfl (iZ_inc (by omega)) (by decide) rfl (fun ls hl => ?_)
                refine lv_goto (tgt := 20) hx hb dX10_whichOwnWord_108 (by decide) ?_
                exact ih_20 (N20 - 1) (by omega) _ _ _ i51786 (i51762 + 1) 0 (i51764 + 1) (by omega) (by omega) (by omega) (by omega) (by omega) (by omega) (by omega) (by omega) hq51930 hq51929 (by omega) hP hD hS (lv_sub hl [4, 5, 6, 1, 2, 0] rfl)
              · refine lv_iconst (v := iZ 1) hx hb dX10_whichOwnWord_95 (by decide) ?_
                refine lv_goto (tgt := 100) hx hb dX10_whichOwnWord_96 (by decide) ?_
                refine lv_istore (lv' := [(4, .int (iZ 1)), (6, .int (iZ z51925)), (0, .ref a_t), (1, .int (iZ (-t_tokenAt + t_tokenEnd))), (2, .int (iZ i51786)), (3, .int (iZ i51762)), (5, .int (iZ i51764))]) hx hb dX10_whichOwnWord_100 hl (by decide) rfl (fun ls hl => ?_)
                refine lv_iinc (v := iZ (i51762 + 1)) (lv' := [(3, .int (iZ (i51762 + 1))), (4, .int (iZ 1)), (6, .int (iZ z51925)), (0, .ref a_t), (1, .int (iZ (-t_tokenAt + t_tokenEnd))), (2, .int (iZ i51786)), (5, .int (iZ i51764))]) hx hb dX10_whichOwnWord_102 hl (k := 5) rfl (iZ_inc (by omega)) (by decide) rfl (fun ls hl => ?_)
                refine lv_iinc (v := iZ (i51764 + 1)) (lv' := [(5, .int (iZ (i51764 + 1))), (3, .int (iZ (i51762 + 1))), (4, .int (iZ 1)), (6, .int (iZ z51925)), (0, .ref a_t), (1, .int (iZ (-t_tokenAt + t_tokenEnd))), (2, .int (iZ i51786))]) hx hb dX10_whichOwnWord_105 hl (k := 6) rfl (iZ_inc (by omega)) (by decide) rfl (fun ls hl => ?_)
                refine lv_goto (tgt := 20) hx hb dX10_whichOwnWord_108 (by decide) ?_
                exact ih_20 (N20 - 1) (by omega) _ _ _ i51786 (i51762 + 1) 1 (i51764 + 1) (by omega) (by omega) (by omega) (by omega) (by omega) (by omega) (by omega) (by omega) hq51930 hq51929 (by omega) hP hD hS (lv_sub hl [4, 5, 6, 1, 2, 0] rfl)
        · have hq51935 := OwJ_sp hL20_1 (by omega) h51926 (by omega)
          have hq51935a := hq51935.1
          have hq51936 := OwI_sp hL20_0 (by omega) h51926 (by omega)
          have hq51936a := hq51936.1
          refine lv_iload hx hb dX10_whichOwnWord_46 (lv_at hl 5 rfl) ?_
          refine zv_if_eq (tgt := 58) hx hb dX10_whichOwnWord_48 (by decide) (by omega) (fun c51937 => ?_) (fun c51937 => ?_)
          · refine lv_iinc (v := iZ (i51786 + 1)) (lv' := [(2, .int (iZ (i51786 + 1))), (6, .int (iZ z51925)), (0, .ref a_t), (1, .int (iZ (-t_tokenAt + t_tokenEnd))), (3, .int (iZ i51762)), (4, .int (iZ i51763)), (5, .int (iZ i51764))]) hx hb dX10_whichOwnWord_58 hl (k := 3) rfl (iZ_inc (by omega)) (by decide) rfl (fun ls hl => ?_)
            refine lv_iconst (v := iZ 0) hx hb dX10_whichOwnWord_61 (by decide) ?_
            refine lv_istore_n (lv' := [(3, .int (iZ 0)), (2, .int (iZ (i51786 + 1))), (6, .int (iZ z51925)), (0, .ref a_t), (1, .int (iZ (-t_tokenAt + t_tokenEnd))), (4, .int (iZ i51763)), (5, .int (iZ i51764))]) hx hb dX10_whichOwnWord_62 rfl hl (by decide) rfl (fun ls hl => ?_)
            refine lv_iconst (v := iZ 1) hx hb dX10_whichOwnWord_63 (by decide) ?_
            refine lv_istore (lv' := [(4, .int (iZ 1)), (3, .int (iZ 0)), (2, .int (iZ (i51786 + 1))), (6, .int (iZ z51925)), (0, .ref a_t), (1, .int (iZ (-t_tokenAt + t_tokenEnd))), (5, .int (iZ i51764))]) hx hb dX10_whichOwnWord_64 hl (by decide) rfl (fun ls hl => ?_)
            refine lv_goto (tgt := 105) hx hb dX10_whichOwnWord_66 (by decide) ?_
            refine lv_iinc (v := iZ (i51764 + 1)) (lv' := [(5, .int (iZ (i51764 + 1))), (4, .int (iZ 1)), (3, .int (iZ 0)), (2, .int (iZ (i51786 + 1))), (6, .int (iZ z51925)), (0, .ref a_t), (1, .int (iZ (-t_tokenAt + t_tokenEnd)))]) hx hb dX10_whichOwnWord_105 hl (k := 6) rfl (iZ_inc (by omega)) (by decide) rfl (fun ls hl => ?_)
            refine lv_goto (tgt := 20) hx hb dX10_whichOwnWord_108 (by decide) ?_
            exact ih_20 (N20 - 1) (by omega) _ _ _ (i51786 + 1) 0 1 (i51764 + 1) (by omega) (by omega) (by omega) (by omega) (by omega) (by omega) (by omega) (by omega) hq51936.2 hq51935.2 (by omega) hP hD hS (lv_sub hl [5, 6, 3, 2, 1, 0] rfl)
          · refine lv_iload_n hx hb dX10_whichOwnWord_51 rfl (lv_at hl 4 rfl) ?_
            refine lv_iload_n hx hb dX10_whichOwnWord_52 rfl (lv_at hl 2 rfl) ?_
            refine zv_icmp_ne (tgt := 58) hx hb dX10_whichOwnWord_53 (by decide) (by omega) (by omega) (fun c51938 => ?_) (fun c51938 => ?_)
            · refine lv_iinc (v := iZ (i51786 + 1)) (lv' := [(2, .int (iZ (i51786 + 1))), (6, .int (iZ z51925)), (0, .ref a_t), (1, .int (iZ (-t_tokenAt + t_tokenEnd))), (3, .int (iZ i51762)), (4, .int (iZ i51763)), (5, .int (iZ i51764))]) hx hb dX10_whichOwnWord_58 hl (k := 3) rfl (iZ_inc (by omega)) (by decide) rfl (fun ls hl => ?_)
              refine lv_iconst (v := iZ 0) hx hb dX10_whichOwnWord_61 (by decide) ?_
              refine lv_istore_n (lv' := [(3, .int (iZ 0)), (2, .int (iZ (i51786 + 1))), (6, .int (iZ z51925)), (0, .ref a_t), (1, .int (iZ (-t_tokenAt + t_tokenEnd))), (4, .int (iZ i51763)), (5, .int (iZ i51764))]) hx hb dX10_whichOwnWord_62 rfl hl (by decide) rfl (fun ls hl => ?_)
              refine lv_iconst (v := iZ 1) hx hb dX10_whichOwnWord_63 (by decide) ?_
              refine lv_istore (lv' := [(4, .int (iZ 1)), (3, .int (iZ 0)), (2, .int (iZ (i51786 + 1))), (6, .int (iZ z51925)), (0, .ref a_t), (1, .int (iZ (-t_tokenAt + t_tokenEnd))), (5, .int (iZ i51764))]) hx hb dX10_whichOwnWord_64 hl (by decide) rfl (fun ls hl => ?_)
              refine lv_goto (tgt := 105) hx hb dX10_whichOwnWord_66 (by decide) ?_
              refine lv_iinc (v := iZ (i51764 + 1)) (lv' := [(5, .int (iZ (i51764 + 1))), (4, .int (iZ 1)), (3, .int (iZ 0)), (2, .int (iZ (i51786 + 1))), (6, .int (iZ z51925)), (0, .ref a_t), (1, .int (iZ (-t_tokenAt + t_tokenEnd)))]) hx hb dX10_whichOwnWord_105 hl (k := 6) rfl (iZ_inc (by omega)) (by decide) rfl (fun ls hl => ?_)
              refine lv_goto (tgt := 20) hx hb dX10_whichOwnWord_108 (by decide) ?_
              exact ih_20 (N20 - 1) (by omega) _ _ _ (i51786 + 1) 0 1 (i51764 + 1) (by omega) (by omega) (by omega) (by omega) (by omega) (by omega) (by omega) (by omega) hq51936.2 hq51935.2 (by omega) hP hD hS (lv_sub hl [5, 6, 3, 2, 1, 0] rfl)
            · refine lv_iload_n hx hb dX10_whichOwnWord_56 rfl (lv_at hl 3 rfl) ?_
              subst hQ
              exact W.iret (v := iZ i51786) hx hb hr (fun t ht hW => ⟨⟨iZ i51786, i51786, rfl, ⟨rfl, by omega, by omega⟩, by rw [ht]; exact hP, va_K.moved hW.alike hK, hD⟩, hS.F ht⟩) hS.2.2 dX10_whichOwnWord_57
  exact lp_20 ((2147483647 : Int)).toNat _ _ _ 0 0 1 0 (by omega) (by omega) (by omega) (by omega) (by omega) (by omega) (by omega) (by omega) hG51741 hG51742 (by omega) hP hD hS (lv_sub hl [5, 4, 3, 2, 1, 0] rfl)
set_option maxHeartbeats 4000000 in
set_option maxRecDepth 100000 in
theorem z_X10_takesWord_m (l : Launch) (dC : Nat → ClassId) (dI : Nat → Nat → Nat) (a_t : Nat) (q_t_bytes : Nat) (t_length : Int) (t_at : Int) (t_tokenAt : Int) (t_tokenEnd : Int) (t_own : Int) (t_name : Int64) (t_number : Int) (t_fault : Int) (t_place : Int) (k_t_bytes : ClassId) (g_t_bytes : Nat → Int) (sz : Nat) (hb_g_t_bytes : ∀ j : Nat, j < 1600 → 0 ≤ g_t_bytes j ∧ g_t_bytes j ≤ 255) (b_t_length : 0 ≤ t_length ∧ t_length ≤ 1600) (b_t_at : 0 ≤ t_at ∧ t_at ≤ 1600) (b_t_tokenAt : 0 ≤ t_tokenAt ∧ t_tokenAt ≤ 1599) (b_t_tokenEnd : -1 ≤ t_tokenEnd ∧ t_tokenEnd ≤ 1600) (b_t_own : -1 ≤ t_own ∧ t_own ≤ 13) (b_t_number : 0 ≤ t_number ∧ t_number ≤ 999) (b_t_fault : -2147483648 ≤ t_fault ∧ t_fault ≤ 2147483647) (b_t_place : -2147483648 ≤ t_place ∧ t_place ≤ 2147483647) : Met l yX10_takesWord (Cond.code yX10_takesWord cX10_takesWord 1 (some .boolean) :: wA) ({ frames := 5, cells := 0, slots := 0, locals := 167 }) (va_Pc [.ref a_t] (fun U => U.heap.size = sz ∧ va_P (dC, dI) vwCl (wk_0 a_t q_t_bytes t_length t_at t_tokenAt t_tokenEnd t_own t_name t_number t_fault t_place q_t_bytes k_t_bytes g_t_bytes) U.heap ∧ va_K (dC, dI) vwCl [(k_t_bytes, .int)] U ∧ va_D (fun _ => True) (wk_0 a_t q_t_bytes t_length t_at t_tokenAt t_tokenEnd t_own t_name t_number t_fault t_place q_t_bytes k_t_bytes g_t_bytes) ∧ nwAll U ∧ SWs (va_A (wk_0 a_t q_t_bytes t_length t_at t_tokenAt t_tokenEnd t_own t_name t_number t_fault t_place q_t_bytes k_t_bytes g_t_bytes) sz) U U.heap)) (va_Qi (fun (r : Int32) (zR : Int) => r = iZ zR ∧ (0 ≤ zR ∧ zR ≤ 1)) (fun zR t => ∃ n_t_at : Int, ∃ n_t_tokenAt : Int, ∃ n_t_tokenEnd : Int, ∃ n_t_own : Int, ∃ n_t_fault : Int, ∃ n_t_place : Int, (0 ≤ n_t_at ∧ n_t_at ≤ 1600) ∧ (0 ≤ n_t_tokenAt ∧ n_t_tokenAt ≤ 1599) ∧ (-1 ≤ n_t_tokenEnd ∧ n_t_tokenEnd ≤ 1600) ∧ (-1 ≤ n_t_own ∧ n_t_own ≤ 13) ∧ (-2147483648 ≤ n_t_fault ∧ n_t_fault ≤ 2147483647) ∧ (-2147483648 ≤ n_t_place ∧ n_t_place ≤ 2147483647) ∧ (zR = 0 ∨ (zR = 1 ∧ n_t_tokenAt < n_t_tokenEnd ∧ n_t_tokenEnd ≤ t_length ∧ n_t_at = n_t_tokenEnd ∧ t_at ≤ n_t_tokenAt)) ∧ (zR = 1 ∨ t_at ≤ n_t_at) ∧ (zR = 0 ∨ n_t_own = -1 ∨ n_t_tokenAt + 3 ≤ n_t_tokenEnd) ∧ va_P (dC, dI) vwCl (wk_0 a_t q_t_bytes t_length n_t_at n_t_tokenAt n_t_tokenEnd n_t_own t_name t_number n_t_fault n_t_place q_t_bytes k_t_bytes g_t_bytes) t.heap ∧ va_K (dC, dI) vwCl [(k_t_bytes, .int)] t ∧ va_D (va_A (wk_0 a_t q_t_bytes t_length t_at t_tokenAt t_tokenEnd t_own t_name t_number t_fault t_place q_t_bytes k_t_bytes g_t_bytes) sz) (wk_0 a_t q_t_bytes t_length n_t_at n_t_tokenAt n_t_tokenEnd n_t_own t_name t_number n_t_fault n_t_place q_t_bytes k_t_bytes g_t_bytes)) (va_A (wk_0 a_t q_t_bytes t_length t_at t_tokenAt t_tokenEnd t_own t_name t_number t_fault t_place q_t_bytes k_t_bytes g_t_bytes) sz)) 0 0 (va_A (wk_0 a_t q_t_bytes t_length t_at t_tokenAt t_tokenEnd t_own t_name t_number t_fault t_place q_t_bytes k_t_bytes g_t_bytes) sz) := by
  refine Met.ofW (cc := cX10_takesWord) (maxL := 1) (ret := (some .boolean)) (by decide) rfl ?_
  intro p e s m args below meth c s₁ B hml hv
  obtain ⟨rfl, hsz, hP, hK, hD0, hN, hSW⟩ := hv
  have hx := B.exec
  have hb := B.bytes
  have hr := B.returns
  have hts : ∀ w ∈ wA, w.before [.ref a_t].toArray s = true := fun w h => atoms_spec (ws := Cond.code yX10_takesWord cX10_takesWord 1 (some .boolean) :: wA) B.pre w (List.mem_cons_of_mem _ h)
  have hown : s.vm.findClass RX10 = some m.cls := findClass_of_methodNamed B.named
  have hlocks := B.notSynchronized
  subst hsz
  have hD := hD0.self (sz := s.heap.size)
  generalize hQ : MQ below (va_Qi (fun (r : Int32) (zR : Int) => r = iZ zR ∧ (0 ≤ zR ∧ zR ≤ 1)) (fun zR t => ∃ n_t_at : Int, ∃ n_t_tokenAt : Int, ∃ n_t_tokenEnd : Int, ∃ n_t_own : Int, ∃ n_t_fault : Int, ∃ n_t_place : Int, (0 ≤ n_t_at ∧ n_t_at ≤ 1600) ∧ (0 ≤ n_t_tokenAt ∧ n_t_tokenAt ≤ 1599) ∧ (-1 ≤ n_t_tokenEnd ∧ n_t_tokenEnd ≤ 1600) ∧ (-1 ≤ n_t_own ∧ n_t_own ≤ 13) ∧ (-2147483648 ≤ n_t_fault ∧ n_t_fault ≤ 2147483647) ∧ (-2147483648 ≤ n_t_place ∧ n_t_place ≤ 2147483647) ∧ (zR = 0 ∨ (zR = 1 ∧ n_t_tokenAt < n_t_tokenEnd ∧ n_t_tokenEnd ≤ t_length ∧ n_t_at = n_t_tokenEnd ∧ t_at ≤ n_t_tokenAt)) ∧ (zR = 1 ∨ t_at ≤ n_t_at) ∧ (zR = 0 ∨ n_t_own = -1 ∨ n_t_tokenAt + 3 ≤ n_t_tokenEnd) ∧ va_P (dC, dI) vwCl (wk_0 a_t q_t_bytes t_length n_t_at n_t_tokenAt n_t_tokenEnd n_t_own t_name t_number n_t_fault n_t_place q_t_bytes k_t_bytes g_t_bytes) t.heap ∧ va_K (dC, dI) vwCl [(k_t_bytes, .int)] t ∧ va_D (va_A (wk_0 a_t q_t_bytes t_length t_at t_tokenAt t_tokenEnd t_own t_name t_number t_fault t_place q_t_bytes k_t_bytes g_t_bytes) s.heap.size) (wk_0 a_t q_t_bytes t_length n_t_at n_t_tokenAt n_t_tokenEnd n_t_own t_name t_number n_t_fault n_t_place q_t_bytes k_t_bytes g_t_bytes)) (va_A (wk_0 a_t q_t_bytes t_length t_at t_tokenAt t_tokenEnd t_own t_name t_number t_fault t_place q_t_bytes k_t_bytes g_t_bytes) s.heap.size)) [.ref a_t].toArray s 0 0 (va_A (wk_0 a_t q_t_bytes t_length t_at t_tokenAt t_tokenEnd t_own t_name t_number t_fault t_place q_t_bytes k_t_bytes g_t_bytes) s.heap.size) = Q
  have hA : ∀ q : Nat, s.heap.size ≤ q → va_A (wk_0 a_t q_t_bytes t_length t_at t_tokenAt t_tokenEnd t_own t_name t_number t_fault t_place q_t_bytes k_t_bytes g_t_bytes) s.heap.size q := fun q h => Or.inr h
  generalize hAe : va_A (wk_0 a_t q_t_bytes t_length t_at t_tokenAt t_tokenEnd t_own t_name t_number t_fault t_place q_t_bytes k_t_bytes g_t_bytes) s.heap.size = A at hD hA hQ hSW
  have hS : va_S A s.heap s.heap [] := va_S.rf
  have hl := lv_entry ([.ref a_t]) (n := 1) (Nat.le_of_ble_eq_true rfl)
  rw [lg_entry_eq]
  generalize (lg_sl ([.ref a_t]) ++ List.replicate (1 - (lg_sl ([.ref a_t])).length) Slot.unset).toArray = ls at hl ⊢
  have hl : lv_has ls 1 [(0, .ref a_t)] := hl
  refine lv_aload_n hx hb dX10_takesWord_0 rfl (lv_at hl 0 rfl) ?_
  have hPc := hP.sub (ws' := (wk_0 a_t q_t_bytes t_length t_at t_tokenAt t_tokenEnd t_own t_name t_number t_fault t_place q_t_bytes k_t_bytes g_t_bytes)) [0, 1] rfl
  have hDc := hD.sub (ws' := (wk_0 a_t q_t_bytes t_length t_at t_tokenAt t_tokenEnd t_own t_name t_number t_fault t_place q_t_bytes k_t_bytes g_t_bytes)) [0, 1] (by decide) rfl
  have hKc := hK.sub (tys' := [(k_t_bytes, .int)]) [0] rfl
  have hFc := va_free (wc := (wk_0 a_t q_t_bytes t_length t_at t_tokenAt t_tokenEnd t_own t_name t_number t_fault t_place q_t_bytes k_t_bytes g_t_bytes)) hD hS hA [0, 1] rfl
  refine va_calli (va_runV (As := []) (rest := []) ⟨hx, hb, hml, hown, hts⟩ (z_X10_peek_x l dC dI a_t q_t_bytes t_length t_at t_tokenAt t_tokenEnd t_own t_name t_number t_fault t_place k_t_bytes g_t_bytes s.heap.size hb_g_t_bytes (by omega) (by omega) (by omega) (by omega) (by omega) (by omega) (by omega) (by omega)) (cwV 0 hts (gV q_140 q_141 q_142 q_136 q_143) rfl rfl rfl mdv_yX10_peek ⟨Nat.le_of_ble_eq_true rfl, Nat.le_of_ble_eq_true rfl⟩) ⟨fun a U g mk q => by obtain ⟨q0, q1, qP, qK, qD, qN⟩ := q; exact ⟨q0, q1, qP, va_K.moved (u := U) (U := U.calling g mk a) (Vm.Alike.refl U.vm) qK, qD, nwAll_same (u := U) (U := U.calling g mk a) rfl qN⟩, va_recv hKc hPc (ci := 10) (q0 := 0) rfl rfl, fun U hU hW => ⟨rfl, by rw [hU], by rw [hU]; exact hPc, va_K.moved hW.alike hKc, hDc.weaken (fun _ _ _ _ => trivial), nwAll_warm hW hN⟩⟩ rfl rfl hl.1 rfl (lv_room (Nat.le_of_ble_eq_true rfl)) dX10_takesWord_1 ⟨Nat.le_of_ble_eq_true rfl, Nat.le_of_ble_eq_true rfl⟩) hS (fun q _ h => hFc q h) hFc (fun r52006 z52007 t H1 locs ht hvm hw hB hz1 hk1 hS => ?_)
  obtain ⟨rfl, h52011⟩ := hw
  obtain ⟨z52008, h52009, h52010, hP1, hK1, hD1⟩ := hB
  rw [ht] at hP1
  obtain ⟨hP, hD⟩ := va_join (wr := []) (w1 := (wk_0 a_t q_t_bytes t_length z52008 t_tokenAt t_tokenEnd t_own t_name t_number t_fault t_place q_t_bytes k_t_bytes g_t_bytes)) hP hD [0, 1] [] rfl rfl (by decide) (by decide) hk1 hFc hP1 hD1
  generalize H1 = H at hP hS ⊢
  have hP : va_P (dC, dI) vwCl (wk_0 a_t q_t_bytes t_length z52008 t_tokenAt t_tokenEnd t_own t_name t_number t_fault t_place q_t_bytes k_t_bytes g_t_bytes) H := hP
  have hD : va_D A (wk_0 a_t q_t_bytes t_length z52008 t_tokenAt t_tokenEnd t_own t_name t_number t_fault t_place q_t_bytes k_t_bytes g_t_bytes) := hD
  have hPc := hP.sub (ws' := []) [] rfl
  have hDc := hD.sub (ws' := []) [] (by decide) rfl
  have hKc := hK.sub (tys' := []) [] rfl
  have hFc := va_free (wc := []) hD hS hA [] rfl
  refine va_calli (va_runS (As := [.int (iZ z52007)]) (rest := []) ⟨hx, hb, hml, hown, hts⟩ (z_X10_isLetter_x l dC dI z52007 H.size (by omega)) (va_cwS 1 hts (gS q_151 q_152 q_136 q_131) rfl rfl rfl mds_yX10_isLetter ⟨Nat.le_of_ble_eq_true rfl, Nat.le_of_ble_eq_true rfl⟩) ⟨fun a U g mk q => by obtain ⟨q0, q1, qP, qK, qD, qN⟩ := q; exact ⟨q0, q1, qP, va_K.moved (u := U) (U := U.calling g mk a) (Vm.Alike.refl U.vm) qK, qD, nwAll_same (u := U) (U := U.calling g mk a) rfl qN⟩, fun U hU hW => ⟨rfl, by rw [hU], by rw [hU]; exact hPc, va_K.moved hW.alike hKc, hDc.weaken (fun _ _ _ _ => trivial), nwAll_warm hW hN⟩⟩ rfl rfl hl.1 rfl (lv_room (Nat.le_of_ble_eq_true rfl)) dX10_takesWord_4 ⟨Nat.le_of_ble_eq_true rfl, Nat.le_of_ble_eq_true rfl⟩) hS (fun q _ h => hFc q h) hFc (fun r52012 z52013 t H1 locs ht hvm hw hB hz1 hk1 hS => ?_)
  obtain ⟨rfl, h52014, h52015⟩ := hw
  obtain ⟨hP1, hK1, hD1⟩ := hB
  rw [ht] at hP1
  obtain ⟨hP, hD⟩ := va_join (wr := (wk_0 a_t q_t_bytes t_length z52008 t_tokenAt t_tokenEnd t_own t_name t_number t_fault t_place q_t_bytes k_t_bytes g_t_bytes)) (w1 := []) hP hD [] [0, 1] rfl rfl (by decide) (by decide) hk1 hFc hP1 hD1
  generalize H1 = H at hP hS ⊢
  have hP : va_P (dC, dI) vwCl (wk_0 a_t q_t_bytes t_length z52008 t_tokenAt t_tokenEnd t_own t_name t_number t_fault t_place q_t_bytes k_t_bytes g_t_bytes) H := hP
  have hD : va_D A (wk_0 a_t q_t_bytes t_length z52008 t_tokenAt t_tokenEnd t_own t_name t_number t_fault t_place q_t_bytes k_t_bytes g_t_bytes) := hD
  refine zv_if_eq (tgt := 21) hx hb dX10_takesWord_7 (by decide) (by omega) (fun c52016 => ?_) (fun c52016 => ?_)
  · refine lv_aload_n hx hb dX10_takesWord_21 rfl (lv_at hl 0 rfl) ?_
    refine lv_iconst (v := iZ 1) hx hb dX10_takesWord_22 (by decide) ?_
    refine lv_aload_n hx hb dX10_takesWord_23 rfl (lv_at hl 0 rfl) ?_
    refine va_get (D := (dC, dI)) (ci := 10) (v := .int (iZ z52008)) (C := RX10) (T := TX10) (N := 10) hx hb hts i_X10 hown hK hP 0 rfl rfl 2 (by decide) (hts _ q_122) (fun _ h9 => h9) rfl dX10_takesWord_24 ?_
    have hPc := hP.sub (ws' := (wk_0 a_t q_t_bytes t_length z52008 t_tokenAt t_tokenEnd t_own t_name t_number t_fault t_place q_t_bytes k_t_bytes g_t_bytes)) [0, 1] rfl
    have hDc := hD.sub (ws' := (wk_0 a_t q_t_bytes t_length z52008 t_tokenAt t_tokenEnd t_own t_name t_number t_fault t_place q_t_bytes k_t_bytes g_t_bytes)) [0, 1] (by decide) rfl
    have hKc := hK.sub (tys' := [(k_t_bytes, .int)]) [0] rfl
    have hFc := va_free (wc := (wk_0 a_t q_t_bytes t_length z52008 t_tokenAt t_tokenEnd t_own t_name t_number t_fault t_place q_t_bytes k_t_bytes g_t_bytes)) hD hS hA [0, 1] rfl
    refine va_calli (va_runV (As := [.int (iZ 1), .int (iZ z52008)]) (rest := []) ⟨hx, hb, hml, hown, hts⟩ (z_X10_wrong l dC dI a_t 1 z52008 q_t_bytes t_length z52008 t_tokenAt t_tokenEnd t_own t_name t_number t_fault t_place k_t_bytes g_t_bytes H.size hb_g_t_bytes (by omega) (by omega) (by omega) (by omega) (by omega) (by omega) (by omega) (by omega) (by omega) (by omega)) (cwV 2 hts (gV q_133 q_134 q_135 q_136 q_137) rfl rfl rfl mdv_yX10_wrong ⟨Nat.le_of_ble_eq_true rfl, Nat.le_of_ble_eq_true rfl⟩) ⟨fun a U g mk q => by obtain ⟨q0, q1, qP, qK, qD, qN⟩ := q; exact ⟨q0, q1, qP, va_K.moved (u := U) (U := U.calling g mk a) (Vm.Alike.refl U.vm) qK, qD, nwAll_same (u := U) (U := U.calling g mk a) rfl qN⟩, va_recv hKc hPc (ci := 10) (q0 := 0) rfl rfl, fun U hU hW => ⟨rfl, by rw [hU], by rw [hU]; exact hPc, va_K.moved hW.alike hKc, hDc.weaken (fun _ _ _ _ => trivial), nwAll_warm hW hN⟩⟩ rfl rfl hl.1 rfl (lv_room (Nat.le_of_ble_eq_true rfl)) dX10_takesWord_27 ⟨Nat.le_of_ble_eq_true rfl, Nat.le_of_ble_eq_true rfl⟩) hS (fun q _ h => hFc q h) hFc (fun r52017 z52018 t H1 locs ht hvm hw hB hz1 hk1 hS => ?_)
    obtain ⟨rfl, h52019⟩ := hw
    obtain ⟨hP1, hK1, hD1⟩ := hB
    rw [ht] at hP1
    obtain ⟨hP, hD⟩ := va_join (wr := []) (w1 := (wk_0 a_t q_t_bytes t_length z52008 t_tokenAt t_tokenEnd t_own t_name t_number 1 z52008 q_t_bytes k_t_bytes g_t_bytes)) hP hD [0, 1] [] rfl rfl (by decide) (by decide) hk1 hFc hP1 hD1
    generalize H1 = H at hP hS ⊢
    have hP : va_P (dC, dI) vwCl (wk_0 a_t q_t_bytes t_length z52008 t_tokenAt t_tokenEnd t_own t_name t_number 1 z52008 q_t_bytes k_t_bytes g_t_bytes) H := hP
    have hD : va_D A (wk_0 a_t q_t_bytes t_length z52008 t_tokenAt t_tokenEnd t_own t_name t_number 1 z52008 q_t_bytes k_t_bytes g_t_bytes) := hD
    subst hQ
    exact W.zret (v := iZ z52018) hx hb hr (zb_nar (by omega)) (fun t ht hW => ⟨⟨iZ z52018, z52018, rfl, ⟨rfl, by omega⟩, z52008, t_tokenAt, t_tokenEnd, t_own, 1, z52008, by omega, by omega, by omega, by omega, by omega, by omega, by omega, by omega, Or.inl (by omega), by rw [ht]; exact hP, va_K.moved hW.alike hK, hD⟩, hS.F ht⟩) hS.2.2 dX10_takesWord_30
  · refine lv_aload_n hx hb dX10_takesWord_10 rfl (lv_at hl 0 rfl) ?_
    refine va_get (D := (dC, dI)) (ci := 10) (v := .int (iZ z52008)) (C := RX10) (T := TX10) (N := 10) hx hb hts i_X10 hown hK hP 0 rfl rfl 2 (by decide) (hts _ q_122) (fun _ h9 => h9) rfl dX10_takesWord_11 ?_
    refine lv_aload_n hx hb dX10_takesWord_14 rfl (lv_at hl 0 rfl) ?_
    refine va_get (D := (dC, dI)) (ci := 10) (v := .int (iZ t_tokenEnd)) (C := RX10) (T := TX10) (N := 10) hx hb hts i_X10 hown hK hP 0 rfl rfl 4 (by decide) (hts _ q_124) (fun _ h9 => h9) rfl dX10_takesWord_15 ?_
    refine zv_icmp_ne (tgt := 31) hx hb dX10_takesWord_18 (by decide) (by omega) (by omega) (fun c52020 => ?_) (fun c52020 => ?_)
    · refine lv_aload_n hx hb dX10_takesWord_31 rfl (lv_at hl 0 rfl) ?_
      refine lv_aload_n hx hb dX10_takesWord_32 rfl (lv_at hl 0 rfl) ?_
      refine va_get (D := (dC, dI)) (ci := 10) (v := .int (iZ z52008)) (C := RX10) (T := TX10) (N := 10) hx hb hts i_X10 hown hK hP 0 rfl rfl 2 (by decide) (hts _ q_122) (fun _ h9 => h9) rfl dX10_takesWord_33 ?_
      refine va_put (D := (dC, dI)) (ci := 10) (v := .int (iZ z52008)) (ty := tyX10 3) (C := RX10) (T := TX10) (N := 10) hx hb hts i_X10 tyX10 tyX10_ok nmX10 hown hK hP hD hS 0 rfl rfl 3 (by decide) (hts _ q_123) (fun _ h9 => h9) rfl (tyX10_ok 3 (by decide)) rfl rfl (Nat.le_of_ble_eq_true rfl) dX10_takesWord_36 (fun H locs hP hD hS => ?_)
      have hP : va_P (dC, dI) vwCl (wk_0 a_t q_t_bytes t_length z52008 z52008 t_tokenEnd t_own t_name t_number t_fault t_place q_t_bytes k_t_bytes g_t_bytes) H := hP
      have hD : va_D A (wk_0 a_t q_t_bytes t_length z52008 z52008 t_tokenEnd t_own t_name t_number t_fault t_place q_t_bytes k_t_bytes g_t_bytes) := hD
      have hG52021 : FstL g_t_bytes z52008 z52008 t_length := (Or.inr ⟨by omega, by omega, by omega⟩)
      have lp_39 : ∀ (N39 : Nat) (H : Heap) (locs : List Loc) (ls : Array Slot) (f52029 : Int), 0 ≤ f52029 - z52008 → 0 ≤ -f52029 + t_length → FstL g_t_bytes f52029 z52008 t_length → -f52029 + t_length ≤ (N39 : Int) → va_P (dC, dI) vwCl (wk_0 a_t q_t_bytes t_length f52029 z52008 t_tokenEnd t_own t_name t_number t_fault t_place q_t_bytes k_t_bytes g_t_bytes) H → va_D A (wk_0 a_t q_t_bytes t_length f52029 z52008 t_tokenEnd t_own t_name t_number t_fault t_place q_t_bytes k_t_bytes g_t_bytes) → va_S A s.heap H locs → lv_has ls 1 [(0, .ref a_t)] → W p l e (headSpec (Cond.code yX10_takesWord cX10_takesWord 1 (some .boolean) :: wA) ({ frames := 5, cells := 0, slots := 0, locals := 167 })).room s m [.ref a_t].toArray below meth c H locs 0 0 Q (F0 m 39 ls []) := by
        intro N39
        induction N39 using Nat.strongRecOn with
        | ind N39 ih_39 =>
          intro H locs ls f52029 k39_0 k39_1 hL39_0 hm39 hP hD hS hl
          refine lv_aload_n hx hb dX10_takesWord_39 rfl (lv_at hl 0 rfl) ?_
          refine va_get (D := (dC, dI)) (ci := 10) (v := .int (iZ f52029)) (C := RX10) (T := TX10) (N := 10) hx hb hts i_X10 hown hK hP 0 rfl rfl 2 (by decide) (hts _ q_122) (fun _ h9 => h9) rfl dX10_takesWord_40 ?_
          refine lv_aload_n hx hb dX10_takesWord_43 rfl (lv_at hl 0 rfl) ?_
          refine va_get (D := (dC, dI)) (ci := 10) (v := .int (iZ t_length)) (C := RX10) (T := TX10) (N := 10) hx hb hts i_X10 hown hK hP 0 rfl rfl 1 (by decide) (hts _ q_117) (fun _ h9 => h9) rfl dX10_takesWord_44 ?_
          refine zv_icmp_ge (tgt := 78) hx hb dX10_takesWord_47 (by decide) (by omega) (by omega) (fun c52052 => ?_) (fun c52052 => ?_)
          · have hq52053 := hL39_0
            unfold FstL at hq52053
            refine lv_aload_n hx hb dX10_takesWord_78 rfl (lv_at hl 0 rfl) ?_
            refine lv_aload_n hx hb dX10_takesWord_79 rfl (lv_at hl 0 rfl) ?_
            refine va_get (D := (dC, dI)) (ci := 10) (v := .int (iZ f52029)) (C := RX10) (T := TX10) (N := 10) hx hb hts i_X10 hown hK hP 0 rfl rfl 2 (by decide) (hts _ q_122) (fun _ h9 => h9) rfl dX10_takesWord_80 ?_
            refine va_put (D := (dC, dI)) (ci := 10) (v := .int (iZ f52029)) (ty := tyX10 4) (C := RX10) (T := TX10) (N := 10) hx hb hts i_X10 tyX10 tyX10_ok nmX10 hown hK hP hD hS 0 rfl rfl 4 (by decide) (hts _ q_124) (fun _ h9 => h9) rfl (tyX10_ok 4 (by decide)) rfl rfl (Nat.le_of_ble_eq_true rfl) dX10_takesWord_83 (fun H locs hP hD hS => ?_)
            have hP : va_P (dC, dI) vwCl (wk_0 a_t q_t_bytes t_length f52029 z52008 f52029 t_own t_name t_number t_fault t_place q_t_bytes k_t_bytes g_t_bytes) H := hP
            have hD : va_D A (wk_0 a_t q_t_bytes t_length f52029 z52008 f52029 t_own t_name t_number t_fault t_place q_t_bytes k_t_bytes g_t_bytes) := hD
            refine lv_aload_n hx hb dX10_takesWord_86 rfl (lv_at hl 0 rfl) ?_
            refine lv_aload_n hx hb dX10_takesWord_87 rfl (lv_at hl 0 rfl) ?_
            have hPc := hP.sub (ws' := (wk_0 a_t q_t_bytes t_length f52029 z52008 f52029 t_own t_name t_number t_fault t_place q_t_bytes k_t_bytes g_t_bytes)) [0, 1] rfl
            have hDc := hD.sub (ws' := (wk_0 a_t q_t_bytes t_length f52029 z52008 f52029 t_own t_name t_number t_fault t_place q_t_bytes k_t_bytes g_t_bytes)) [0, 1] (by decide) rfl
            have hKc := hK.sub (tys' := [(k_t_bytes, .int)]) [0] rfl
            have hFc := va_free (wc := (wk_0 a_t q_t_bytes t_length f52029 z52008 f52029 t_own t_name t_number t_fault t_place q_t_bytes k_t_bytes g_t_bytes)) hD hS hA [0, 1] rfl
            refine va_calli (va_runV (As := []) (rest := [.ref a_t]) ⟨hx, hb, hml, hown, hts⟩ (z_X10_whichOwnWord_m l dC dI a_t q_t_bytes t_length f52029 z52008 f52029 t_own t_name t_number t_fault t_place k_t_bytes g_t_bytes H.size hb_g_t_bytes (by omega) (by omega) (by omega) (by omega) (by omega) (by omega) (by omega) (by omega) (by omega)) (cwV 0 hts (gV q_153 q_154 q_155 q_136 q_156) rfl rfl rfl mdv_yX10_whichOwnWord ⟨Nat.le_of_ble_eq_true rfl, Nat.le_of_ble_eq_true rfl⟩) ⟨fun a U g mk q => by obtain ⟨q0, q1, qP, qK, qD, qN, qS⟩ := q; exact ⟨q0, q1, qP, va_K.moved (u := U) (U := U.calling g mk a) (Vm.Alike.refl U.vm) qK, qD, nwAll_same (u := U) (U := U.calling g mk a) rfl qN, qS.same (u := U) (U := U.calling g mk a) rfl⟩, va_recv hKc hPc (ci := 10) (q0 := 0) rfl rfl, fun U hU hW => ⟨rfl, by rw [hU], by rw [hU]; exact hPc, va_K.moved hW.alike hKc, hDc.weaken (fun _ _ _ _ => trivial), nwAll_warm hW hN, by rw [hU]; exact ((hSW.kept hS.2.1).narrow hFc).warm hW⟩⟩ rfl rfl hl.1 rfl (lv_room (Nat.le_of_ble_eq_true rfl)) dX10_takesWord_88 ⟨Nat.le_of_ble_eq_true rfl, Nat.le_of_ble_eq_true rfl⟩) hS (fun q _ h => hFc q h) hFc (fun r52054 z52055 t H1 locs ht hvm hw hB hz1 hk1 hS => ?_)
            obtain ⟨rfl, h52056, h52057⟩ := hw
            obtain ⟨hP1, hK1, hD1⟩ := hB
            rw [ht] at hP1
            obtain ⟨hP, hD⟩ := va_join (wr := []) (w1 := (wk_0 a_t q_t_bytes t_length f52029 z52008 f52029 t_own t_name t_number t_fault t_place q_t_bytes k_t_bytes g_t_bytes)) hP hD [0, 1] [] rfl rfl (by decide) (by decide) hk1 hFc hP1 hD1
            generalize H1 = H at hP hS ⊢
            have hP : va_P (dC, dI) vwCl (wk_0 a_t q_t_bytes t_length f52029 z52008 f52029 t_own t_name t_number t_fault t_place q_t_bytes k_t_bytes g_t_bytes) H := hP
            have hD : va_D A (wk_0 a_t q_t_bytes t_length f52029 z52008 f52029 t_own t_name t_number t_fault t_place q_t_bytes k_t_bytes g_t_bytes) := hD
            refine va_put (D := (dC, dI)) (ci := 10) (v := .int (iZ z52055)) (ty := tyX10 5) (C := RX10) (T := TX10) (N := 10) hx hb hts i_X10 tyX10 tyX10_ok nmX10 hown hK hP hD hS 0 rfl rfl 5 (by decide) (hts _ q_125) (fun _ h9 => h9) rfl (tyX10_ok 5 (by decide)) rfl rfl (Nat.le_of_ble_eq_true rfl) dX10_takesWord_91 (fun H locs hP hD hS => ?_)
            have hP : va_P (dC, dI) vwCl (wk_0 a_t q_t_bytes t_length f52029 z52008 f52029 z52055 t_name t_number t_fault t_place q_t_bytes k_t_bytes g_t_bytes) H := hP
            have hD : va_D A (wk_0 a_t q_t_bytes t_length f52029 z52008 f52029 z52055 t_name t_number t_fault t_place q_t_bytes k_t_bytes g_t_bytes) := hD
            refine lv_iconst (v := iZ 1) hx hb dX10_takesWord_94 (by decide) ?_
            subst hQ
            exact W.zret (v := iZ 1) hx hb hr rfl (fun t ht hW => ⟨⟨iZ 1, 1, rfl, ⟨rfl, by omega⟩, f52029, z52008, f52029, z52055, t_fault, t_place, by omega, by omega, by omega, by omega, by omega, by omega, by omega, by omega, by omega, by rw [ht]; exact hP, va_K.moved hW.alike hK, hD⟩, hS.F ht⟩) hS.2.2 dX10_takesWord_95
          · refine lv_aload_n hx hb dX10_takesWord_50 rfl (lv_at hl 0 rfl) ?_
            refine va_get (D := (dC, dI)) (ci := 10) (v := .ref q_t_bytes) (C := RX10) (T := TX10) (N := 10) hx hb hts i_X10 hown hK hP 0 rfl rfl 0 (by decide) (hts _ q_118) (fun _ h9 => h9) rfl dX10_takesWord_51 ?_
            refine lv_aload_n hx hb dX10_takesWord_54 rfl (lv_at hl 0 rfl) ?_
            refine va_get (D := (dC, dI)) (ci := 10) (v := .int (iZ f52029)) (C := RX10) (T := TX10) (N := 10) hx hb hts i_X10 hown hK hP 0 rfl rfl 2 (by decide) (hts _ q_122) (fun _ h9 => h9) rfl dX10_takesWord_55 ?_
            refine zv_iald hx hb hK hP 1 0 rfl rfl (by omega) (by omega) (by omega) dX10_takesWord_58 (fun z52058 ez52058 => ?_)
            have bz52058 : 0 ≤ z52058 ∧ z52058 ≤ 255 := by rw [ez52058]; exact hb_g_t_bytes _ (by omega)
            have hPc := hP.sub (ws' := []) [] rfl
            have hDc := hD.sub (ws' := []) [] (by decide) rfl
            have hKc := hK.sub (tys' := []) [] rfl
            have hFc := va_free (wc := []) hD hS hA [] rfl
            refine va_calli (va_runS (As := [.int (iZ z52058)]) (rest := []) ⟨hx, hb, hml, hown, hts⟩ (z_X10_isLetter_x l dC dI z52058 H.size (by omega)) (va_cwS 1 hts (gS q_151 q_152 q_136 q_131) rfl rfl rfl mds_yX10_isLetter ⟨Nat.le_of_ble_eq_true rfl, Nat.le_of_ble_eq_true rfl⟩) ⟨fun a U g mk q => by obtain ⟨q0, q1, qP, qK, qD, qN⟩ := q; exact ⟨q0, q1, qP, va_K.moved (u := U) (U := U.calling g mk a) (Vm.Alike.refl U.vm) qK, qD, nwAll_same (u := U) (U := U.calling g mk a) rfl qN⟩, fun U hU hW => ⟨rfl, by rw [hU], by rw [hU]; exact hPc, va_K.moved hW.alike hKc, hDc.weaken (fun _ _ _ _ => trivial), nwAll_warm hW hN⟩⟩ rfl rfl hl.1 rfl (lv_room (Nat.le_of_ble_eq_true rfl)) dX10_takesWord_59 ⟨Nat.le_of_ble_eq_true rfl, Nat.le_of_ble_eq_true rfl⟩) hS (fun q _ h => hFc q h) hFc (fun r52059 z52060 t H1 locs ht hvm hw hB hz1 hk1 hS => ?_)
            obtain ⟨rfl, h52061, h52062⟩ := hw
            obtain ⟨hP1, hK1, hD1⟩ := hB
            rw [ht] at hP1
            obtain ⟨hP, hD⟩ := va_join (wr := (wk_0 a_t q_t_bytes t_length f52029 z52008 t_tokenEnd t_own t_name t_number t_fault t_place q_t_bytes k_t_bytes g_t_bytes)) (w1 := []) hP hD [] [0, 1] rfl rfl (by decide) (by decide) hk1 hFc hP1 hD1
            generalize H1 = H at hP hS ⊢
            have hP : va_P (dC, dI) vwCl (wk_0 a_t q_t_bytes t_length f52029 z52008 t_tokenEnd t_own t_name t_number t_fault t_place q_t_bytes k_t_bytes g_t_bytes) H := hP
            have hD : va_D A (wk_0 a_t q_t_bytes t_length f52029 z52008 t_tokenEnd t_own t_name t_number t_fault t_place q_t_bytes k_t_bytes g_t_bytes) := hD
            refine zv_if_eq (tgt := 78) hx hb dX10_takesWord_62 (by decide) (by omega) (fun c52063 => ?_) (fun c52063 => ?_)
            · have hq52064 := hL39_0
              unfold FstL at hq52064
              refine lv_aload_n hx hb dX10_takesWord_78 rfl (lv_at hl 0 rfl) ?_
              refine lv_aload_n hx hb dX10_takesWord_79 rfl (lv_at hl 0 rfl) ?_
              refine va_get (D := (dC, dI)) (ci := 10) (v := .int (iZ f52029)) (C := RX10) (T := TX10) (N := 10) hx hb hts i_X10 hown hK hP 0 rfl rfl 2 (by decide) (hts _ q_122) (fun _ h9 => h9) rfl dX10_takesWord_80 ?_
              refine va_put (D := (dC, dI)) (ci := 10) (v := .int (iZ f52029)) (ty := tyX10 4) (C := RX10) (T := TX10) (N := 10) hx hb hts i_X10 tyX10 tyX10_ok nmX10 hown hK hP hD hS 0 rfl rfl 4 (by decide) (hts _ q_124) (fun _ h9 => h9) rfl (tyX10_ok 4 (by decide)) rfl rfl (Nat.le_of_ble_eq_true rfl) dX10_takesWord_83 (fun H locs hP hD hS => ?_)
              have hP : va_P (dC, dI) vwCl (wk_0 a_t q_t_bytes t_length f52029 z52008 f52029 t_own t_name t_number t_fault t_place q_t_bytes k_t_bytes g_t_bytes) H := hP
              have hD : va_D A (wk_0 a_t q_t_bytes t_length f52029 z52008 f52029 t_own t_name t_number t_fault t_place q_t_bytes k_t_bytes g_t_bytes) := hD
              refine lv_aload_n hx hb dX10_takesWord_86 rfl (lv_at hl 0 rfl) ?_
              refine lv_aload_n hx hb dX10_takesWord_87 rfl (lv_at hl 0 rfl) ?_
              have hPc := hP.sub (ws' := (wk_0 a_t q_t_bytes t_length f52029 z52008 f52029 t_own t_name t_number t_fault t_place q_t_bytes k_t_bytes g_t_bytes)) [0, 1] rfl
              have hDc := hD.sub (ws' := (wk_0 a_t q_t_bytes t_length f52029 z52008 f52029 t_own t_name t_number t_fault t_place q_t_bytes k_t_bytes g_t_bytes)) [0, 1] (by decide) rfl
              have hKc := hK.sub (tys' := [(k_t_bytes, .int)]) [0] rfl
              have hFc := va_free (wc := (wk_0 a_t q_t_bytes t_length f52029 z52008 f52029 t_own t_name t_number t_fault t_place q_t_bytes k_t_bytes g_t_bytes)) hD hS hA [0, 1] rfl
              refine va_calli (va_runV (As := []) (rest := [.ref a_t]) ⟨hx, hb, hml, hown, hts⟩ (z_X10_whichOwnWord_m l dC dI a_t q_t_bytes t_length f52029 z52008 f52029 t_own t_name t_number t_fault t_place k_t_bytes g_t_bytes H.size hb_g_t_bytes (by omega) (by omega) (by omega) (by omega) (by omega) (by omega) (by omega) (by omega) (by omega)) (cwV 0 hts (gV q_153 q_154 q_155 q_136 q_156) rfl rfl rfl mdv_yX10_whichOwnWord ⟨Nat.le_of_ble_eq_true rfl, Nat.le_of_ble_eq_true rfl⟩) ⟨fun a U g mk q => by obtain ⟨q0, q1, qP, qK, qD, qN, qS⟩ := q; exact ⟨q0, q1, qP, va_K.moved (u := U) (U := U.calling g mk a) (Vm.Alike.refl U.vm) qK, qD, nwAll_same (u := U) (U := U.calling g mk a) rfl qN, qS.same (u := U) (U := U.calling g mk a) rfl⟩, va_recv hKc hPc (ci := 10) (q0 := 0) rfl rfl, fun U hU hW => ⟨rfl, by rw [hU], by rw [hU]; exact hPc, va_K.moved hW.alike hKc, hDc.weaken (fun _ _ _ _ => trivial), nwAll_warm hW hN, by rw [hU]; exact ((hSW.kept hS.2.1).narrow hFc).warm hW⟩⟩ rfl rfl hl.1 rfl (lv_room (Nat.le_of_ble_eq_true rfl)) dX10_takesWord_88 ⟨Nat.le_of_ble_eq_true rfl, Nat.le_of_ble_eq_true rfl⟩) hS (fun q _ h => hFc q h) hFc (fun r52065 z52066 t H1 locs ht hvm hw hB hz1 hk1 hS => ?_)
              obtain ⟨rfl, h52067, h52068⟩ := hw
              obtain ⟨hP1, hK1, hD1⟩ := hB
              rw [ht] at hP1
              obtain ⟨hP, hD⟩ := va_join (wr := []) (w1 := (wk_0 a_t q_t_bytes t_length f52029 z52008 f52029 t_own t_name t_number t_fault t_place q_t_bytes k_t_bytes g_t_bytes)) hP hD [0, 1] [] rfl rfl (by decide) (by decide) hk1 hFc hP1 hD1
              generalize H1 = H at hP hS ⊢
              have hP : va_P (dC, dI) vwCl (wk_0 a_t q_t_bytes t_length f52029 z52008 f52029 t_own t_name t_number t_fault t_place q_t_bytes k_t_bytes g_t_bytes) H := hP
              have hD : va_D A (wk_0 a_t q_t_bytes t_length f52029 z52008 f52029 t_own t_name t_number t_fault t_place q_t_bytes k_t_bytes g_t_bytes) := hD
              refine va_put (D := (dC, dI)) (ci := 10) (v := .int (iZ z52066)) (ty := tyX10 5) (C := RX10) (T := TX10) (N := 10) hx hb hts i_X10 tyX10 tyX10_ok nmX10 hown hK hP hD hS 0 rfl rfl 5 (by decide) (hts _ q_125) (fun _ h9 => h9) rfl (tyX10_ok 5 (by decide)) rfl rfl (Nat.le_of_ble_eq_true rfl) dX10_takesWord_91 (fun H locs hP hD hS => ?_)
              have hP : va_P (dC, dI) vwCl (wk_0 a_t q_t_bytes t_length f52029 z52008 f52029 z52066 t_name t_number t_fault t_place q_t_bytes k_t_bytes g_t_bytes) H := hP
              have hD : va_D A (wk_0 a_t q_t_bytes t_length f52029 z52008 f52029 z52066 t_name t_number t_fault t_place q_t_bytes k_t_bytes g_t_bytes) := hD
              refine lv_iconst (v := iZ 1) hx hb dX10_takesWord_94 (by decide) ?_
              subst hQ
              exact W.zret (v := iZ 1) hx hb hr rfl (fun t ht hW => ⟨⟨iZ 1, 1, rfl, ⟨rfl, by omega⟩, f52029, z52008, f52029, z52066, t_fault, t_place, by omega, by omega, by omega, by omega, by omega, by omega, by omega, by omega, by omega, by rw [ht]; exact hP, va_K.moved hW.alike hK, hD⟩, hS.F ht⟩) hS.2.2 dX10_takesWord_95
            · refine lv_aload_n hx hb dX10_takesWord_65 rfl (lv_at hl 0 rfl) ?_
              refine lv_dup hx hb dX10_takesWord_66 rfl ?_
              refine va_get (D := (dC, dI)) (ci := 10) (v := .int (iZ f52029)) (C := RX10) (T := TX10) (N := 10) hx hb hts i_X10 hown hK hP 0 rfl rfl 2 (by decide) (hts _ q_122) (fun _ h9 => h9) rfl dX10_takesWord_67 ?_
              refine lv_iconst (v := iZ 1) hx hb dX10_takesWord_70 (by decide) ?_
              refine zv_iadd hx hb (f52029 + 1) (by omega) dX10_takesWord_71 ?_
              refine va_put (D := (dC, dI)) (ci := 10) (v := .int (iZ (f52029 + 1))) (ty := tyX10 2) (C := RX10) (T := TX10) (N := 10) hx hb hts i_X10 tyX10 tyX10_ok nmX10 hown hK hP hD hS 0 rfl rfl 2 (by decide) (hts _ q_122) (fun _ h9 => h9) rfl (tyX10_ok 2 (by decide)) rfl rfl (Nat.le_of_ble_eq_true rfl) dX10_takesWord_72 (fun H locs hP hD hS => ?_)
              have hP : va_P (dC, dI) vwCl (wk_0 a_t q_t_bytes t_length (f52029 + 1) z52008 t_tokenEnd t_own t_name t_number t_fault t_place q_t_bytes k_t_bytes g_t_bytes) H := hP
              have hD : va_D A (wk_0 a_t q_t_bytes t_length (f52029 + 1) z52008 t_tokenEnd t_own t_name t_number t_fault t_place q_t_bytes k_t_bytes g_t_bytes) := hD
              refine lv_goto (tgt := 39) hx hb dX10_takesWord_75 (by decide) ?_
              have hG52069 : FstL g_t_bytes (f52029 + 1) z52008 t_length := (Or.inl (by omega))
              exact ih_39 (N39 - 1) (by omega) _ _ _ (f52029 + 1) (by omega) (by omega) hG52069 (by omega) hP hD hS (lv_sub hl [0] rfl)
      exact lp_39 ((t_length - z52008 : Int)).toNat _ _ _ z52008 (by omega) (by omega) hG52021 (by omega) hP hD hS (lv_sub hl [0] rfl)
    · refine lv_aload_n hx hb dX10_takesWord_21 rfl (lv_at hl 0 rfl) ?_
      refine lv_iconst (v := iZ 1) hx hb dX10_takesWord_22 (by decide) ?_
      refine lv_aload_n hx hb dX10_takesWord_23 rfl (lv_at hl 0 rfl) ?_
      refine va_get (D := (dC, dI)) (ci := 10) (v := .int (iZ z52008)) (C := RX10) (T := TX10) (N := 10) hx hb hts i_X10 hown hK hP 0 rfl rfl 2 (by decide) (hts _ q_122) (fun _ h9 => h9) rfl dX10_takesWord_24 ?_
      have hPc := hP.sub (ws' := (wk_0 a_t q_t_bytes t_length z52008 t_tokenAt t_tokenEnd t_own t_name t_number t_fault t_place q_t_bytes k_t_bytes g_t_bytes)) [0, 1] rfl
      have hDc := hD.sub (ws' := (wk_0 a_t q_t_bytes t_length z52008 t_tokenAt t_tokenEnd t_own t_name t_number t_fault t_place q_t_bytes k_t_bytes g_t_bytes)) [0, 1] (by decide) rfl
      have hKc := hK.sub (tys' := [(k_t_bytes, .int)]) [0] rfl
      have hFc := va_free (wc := (wk_0 a_t q_t_bytes t_length z52008 t_tokenAt t_tokenEnd t_own t_name t_number t_fault t_place q_t_bytes k_t_bytes g_t_bytes)) hD hS hA [0, 1] rfl
      refine va_calli (va_runV (As := [.int (iZ 1), .int (iZ z52008)]) (rest := []) ⟨hx, hb, hml, hown, hts⟩ (z_X10_wrong l dC dI a_t 1 z52008 q_t_bytes t_length z52008 t_tokenAt t_tokenEnd t_own t_name t_number t_fault t_place k_t_bytes g_t_bytes H.size hb_g_t_bytes (by omega) (by omega) (by omega) (by omega) (by omega) (by omega) (by omega) (by omega) (by omega) (by omega)) (cwV 2 hts (gV q_133 q_134 q_135 q_136 q_137) rfl rfl rfl mdv_yX10_wrong ⟨Nat.le_of_ble_eq_true rfl, Nat.le_of_ble_eq_true rfl⟩) ⟨fun a U g mk q => by obtain ⟨q0, q1, qP, qK, qD, qN⟩ := q; exact ⟨q0, q1, qP, va_K.moved (u := U) (U := U.calling g mk a) (Vm.Alike.refl U.vm) qK, qD, nwAll_same (u := U) (U := U.calling g mk a) rfl qN⟩, va_recv hKc hPc (ci := 10) (q0 := 0) rfl rfl, fun U hU hW => ⟨rfl, by rw [hU], by rw [hU]; exact hPc, va_K.moved hW.alike hKc, hDc.weaken (fun _ _ _ _ => trivial), nwAll_warm hW hN⟩⟩ rfl rfl hl.1 rfl (lv_room (Nat.le_of_ble_eq_true rfl)) dX10_takesWord_27 ⟨Nat.le_of_ble_eq_true rfl, Nat.le_of_ble_eq_true rfl⟩) hS (fun q _ h => hFc q h) hFc (fun r52070 z52071 t H1 locs ht hvm hw hB hz1 hk1 hS => ?_)
      obtain ⟨rfl, h52072⟩ := hw
      obtain ⟨hP1, hK1, hD1⟩ := hB
      rw [ht] at hP1
      obtain ⟨hP, hD⟩ := va_join (wr := []) (w1 := (wk_0 a_t q_t_bytes t_length z52008 t_tokenAt t_tokenEnd t_own t_name t_number 1 z52008 q_t_bytes k_t_bytes g_t_bytes)) hP hD [0, 1] [] rfl rfl (by decide) (by decide) hk1 hFc hP1 hD1
      generalize H1 = H at hP hS ⊢
      have hP : va_P (dC, dI) vwCl (wk_0 a_t q_t_bytes t_length z52008 t_tokenAt t_tokenEnd t_own t_name t_number 1 z52008 q_t_bytes k_t_bytes g_t_bytes) H := hP
      have hD : va_D A (wk_0 a_t q_t_bytes t_length z52008 t_tokenAt t_tokenEnd t_own t_name t_number 1 z52008 q_t_bytes k_t_bytes g_t_bytes) := hD
      subst hQ
      exact W.zret (v := iZ z52071) hx hb hr (zb_nar (by omega)) (fun t ht hW => ⟨⟨iZ z52071, z52071, rfl, ⟨rfl, by omega⟩, z52008, t_tokenAt, t_tokenEnd, t_own, 1, z52008, by omega, by omega, by omega, by omega, by omega, by omega, by omega, by omega, Or.inl (by omega), by rw [ht]; exact hP, va_K.moved hW.alike hK, hD⟩, hS.F ht⟩) hS.2.2 dX10_takesWord_30
set_option maxHeartbeats 4000000 in
set_option maxRecDepth 100000 in
theorem z_X10_peek_y (l : Launch) (dC : Nat → ClassId) (dI : Nat → Nat → Nat) (a_t : Nat) (q_t_bytes : Nat) (t_length : Int) (t_at : Int) (t_tokenAt : Int) (t_tokenEnd : Int) (t_own : Int) (t_name : Int64) (t_number : Int) (t_fault : Int) (t_place : Int) (k_t_bytes : ClassId) (g_t_bytes : Nat → Int) (sz : Nat) (hb_g_t_bytes : ∀ j : Nat, j < 1600 → 0 ≤ g_t_bytes j ∧ g_t_bytes j ≤ 255) (b_t_length : 0 ≤ t_length ∧ t_length ≤ 1600) (b_t_at : 0 ≤ t_at ∧ t_at ≤ 1600) (b_t_tokenAt : 0 ≤ t_tokenAt ∧ t_tokenAt ≤ 1599) (b_t_tokenEnd : -1 ≤ t_tokenEnd ∧ t_tokenEnd ≤ 1600) (b_t_own : -1 ≤ t_own ∧ t_own ≤ 13) (b_t_number : 0 ≤ t_number ∧ t_number ≤ 999) (b_t_fault : -2147483648 ≤ t_fault ∧ t_fault ≤ 2147483647) (b_t_place : -2147483648 ≤ t_place ∧ t_place ≤ 2147483647) : Met l yX10_peek (Cond.code yX10_peek cX10_peek 1 (some .int) :: wA) ({ frames := 0, cells := 0, slots := 0, locals := 0 }) (va_Pc [.ref a_t] (fun U => U.heap.size = sz ∧ va_P (dC, dI) vwCl (wk_0 a_t q_t_bytes t_length t_at t_tokenAt t_tokenEnd t_own t_name t_number t_fault t_place q_t_bytes k_t_bytes g_t_bytes) U.heap ∧ va_K (dC, dI) vwCl [(k_t_bytes, .int)] U ∧ va_D (fun _ => True) (wk_0 a_t q_t_bytes t_length t_at t_tokenAt t_tokenEnd t_own t_name t_number t_fault t_place q_t_bytes k_t_bytes g_t_bytes) ∧ nwAll U)) (va_Qi (fun (r : Int32) (zR : Int) => r = iZ zR ∧ (-1 ≤ zR ∧ zR ≤ 255) ∧ (zR ≤ 9 ∨ (11 ≤ zR ∧ zR ≤ 31) ∨ 33 ≤ zR)) (fun zR t => ∃ n_t_at : Int, (0 ≤ n_t_at ∧ n_t_at ≤ 1600) ∧ ((zR = -1 ∧ n_t_at = t_at) ∨ (n_t_at = t_at ∧ zR = g_t_bytes t_at.toNat) ∨ g_t_bytes t_at.toNat = 32 ∨ g_t_bytes t_at.toNat = 10) ∧ (t_at ≤ n_t_at) ∧ ((zR = -1 ∧ t_length ≤ n_t_at) ∨ (0 ≤ zR ∧ n_t_at < t_length ∧ zR = g_t_bytes n_t_at.toNat)) ∧ va_P (dC, dI) vwCl (wk_0 a_t q_t_bytes t_length n_t_at t_tokenAt t_tokenEnd t_own t_name t_number t_fault t_place q_t_bytes k_t_bytes g_t_bytes) t.heap ∧ va_K (dC, dI) vwCl [(k_t_bytes, .int)] t ∧ va_D (va_A (wk_0 a_t q_t_bytes t_length t_at t_tokenAt t_tokenEnd t_own t_name t_number t_fault t_place q_t_bytes k_t_bytes g_t_bytes) sz) (wk_0 a_t q_t_bytes t_length n_t_at t_tokenAt t_tokenEnd t_own t_name t_number t_fault t_place q_t_bytes k_t_bytes g_t_bytes)) (va_A (wk_0 a_t q_t_bytes t_length t_at t_tokenAt t_tokenEnd t_own t_name t_number t_fault t_place q_t_bytes k_t_bytes g_t_bytes) sz)) 0 0 (va_A (wk_0 a_t q_t_bytes t_length t_at t_tokenAt t_tokenEnd t_own t_name t_number t_fault t_place q_t_bytes k_t_bytes g_t_bytes) sz) := by
  refine Met.ofW (cc := cX10_peek) (maxL := 1) (ret := (some .int)) (by decide) rfl ?_
  intro p e s m args below meth c s₁ B hml hv
  obtain ⟨rfl, hsz, hP, hK, hD0, hN⟩ := hv
  have hx := B.exec
  have hb := B.bytes
  have hr := B.returns
  have hts : ∀ w ∈ wA, w.before [.ref a_t].toArray s = true := fun w h => atoms_spec (ws := Cond.code yX10_peek cX10_peek 1 (some .int) :: wA) B.pre w (List.mem_cons_of_mem _ h)
  have hown : s.vm.findClass RX10 = some m.cls := findClass_of_methodNamed B.named
  have hlocks := B.notSynchronized
  subst hsz
  have hD := hD0.self (sz := s.heap.size)
  generalize hQ : MQ below (va_Qi (fun (r : Int32) (zR : Int) => r = iZ zR ∧ (-1 ≤ zR ∧ zR ≤ 255) ∧ (zR ≤ 9 ∨ (11 ≤ zR ∧ zR ≤ 31) ∨ 33 ≤ zR)) (fun zR t => ∃ n_t_at : Int, (0 ≤ n_t_at ∧ n_t_at ≤ 1600) ∧ ((zR = -1 ∧ n_t_at = t_at) ∨ (n_t_at = t_at ∧ zR = g_t_bytes t_at.toNat) ∨ g_t_bytes t_at.toNat = 32 ∨ g_t_bytes t_at.toNat = 10) ∧ (t_at ≤ n_t_at) ∧ ((zR = -1 ∧ t_length ≤ n_t_at) ∨ (0 ≤ zR ∧ n_t_at < t_length ∧ zR = g_t_bytes n_t_at.toNat)) ∧ va_P (dC, dI) vwCl (wk_0 a_t q_t_bytes t_length n_t_at t_tokenAt t_tokenEnd t_own t_name t_number t_fault t_place q_t_bytes k_t_bytes g_t_bytes) t.heap ∧ va_K (dC, dI) vwCl [(k_t_bytes, .int)] t ∧ va_D (va_A (wk_0 a_t q_t_bytes t_length t_at t_tokenAt t_tokenEnd t_own t_name t_number t_fault t_place q_t_bytes k_t_bytes g_t_bytes) s.heap.size) (wk_0 a_t q_t_bytes t_length n_t_at t_tokenAt t_tokenEnd t_own t_name t_number t_fault t_place q_t_bytes k_t_bytes g_t_bytes)) (va_A (wk_0 a_t q_t_bytes t_length t_at t_tokenAt t_tokenEnd t_own t_name t_number t_fault t_place q_t_bytes k_t_bytes g_t_bytes) s.heap.size)) [.ref a_t].toArray s 0 0 (va_A (wk_0 a_t q_t_bytes t_length t_at t_tokenAt t_tokenEnd t_own t_name t_number t_fault t_place q_t_bytes k_t_bytes g_t_bytes) s.heap.size) = Q
  have hA : ∀ q : Nat, s.heap.size ≤ q → va_A (wk_0 a_t q_t_bytes t_length t_at t_tokenAt t_tokenEnd t_own t_name t_number t_fault t_place q_t_bytes k_t_bytes g_t_bytes) s.heap.size q := fun q h => Or.inr h
  generalize hAe : va_A (wk_0 a_t q_t_bytes t_length t_at t_tokenAt t_tokenEnd t_own t_name t_number t_fault t_place q_t_bytes k_t_bytes g_t_bytes) s.heap.size = A at hD hA hQ
  have hS : va_S A s.heap s.heap [] := va_S.rf
  have hl := lv_entry ([.ref a_t]) (n := 1) (Nat.le_of_ble_eq_true rfl)
  rw [lg_entry_eq]
  generalize (lg_sl ([.ref a_t]) ++ List.replicate (1 - (lg_sl ([.ref a_t])).length) Slot.unset).toArray = ls at hl ⊢
  have hl : lv_has ls 1 [(0, .ref a_t)] := hl
  have hG52109 : BlkI g_t_bytes t_at t_at := (Or.inl (by omega))
  have lp_0 : ∀ (N0 : Nat) (H : Heap) (locs : List Loc) (ls : Array Slot) (f52115 : Int), 0 ≤ -f52115 + 1600 → 0 ≤ f52115 - t_at → BlkI g_t_bytes t_at f52115 → -f52115 + t_length ≤ (N0 : Int) → va_P (dC, dI) vwCl (wk_0 a_t q_t_bytes t_length f52115 t_tokenAt t_tokenEnd t_own t_name t_number t_fault t_place q_t_bytes k_t_bytes g_t_bytes) H → va_D A (wk_0 a_t q_t_bytes t_length f52115 t_tokenAt t_tokenEnd t_own t_name t_number t_fault t_place q_t_bytes k_t_bytes g_t_bytes) → va_S A s.heap H locs → lv_has ls 1 [(0, .ref a_t)] → W p l e (headSpec (Cond.code yX10_peek cX10_peek 1 (some .int) :: wA) ({ frames := 0, cells := 0, slots := 0, locals := 0 })).room s m [.ref a_t].toArray below meth c H locs 0 0 Q (F0 m 0 ls []) := by
    intro N0
    induction N0 using Nat.strongRecOn with
    | ind N0 ih_0 =>
      intro H locs ls f52115 k0_0 k0_1 hL0_0 hm0 hP hD hS hl
      refine lv_aload_n hx hb dX10_peek_0 rfl (lv_at hl 0 rfl) ?_
      refine va_get (D := (dC, dI)) (ci := 10) (v := .int (iZ f52115)) (C := RX10) (T := TX10) (N := 10) hx hb hts i_X10 hown hK hP 0 rfl rfl 2 (by decide) (hts _ q_122) (fun _ h9 => h9) rfl dX10_peek_1 ?_
      refine lv_aload_n hx hb dX10_peek_4 rfl (lv_at hl 0 rfl) ?_
      refine va_get (D := (dC, dI)) (ci := 10) (v := .int (iZ t_length)) (C := RX10) (T := TX10) (N := 10) hx hb hts i_X10 hown hK hP 0 rfl rfl 1 (by decide) (hts _ q_117) (fun _ h9 => h9) rfl dX10_peek_5 ?_
      refine zv_icmp_ge (tgt := 52) hx hb dX10_peek_8 (by decide) (by omega) (by omega) (fun c52133 => ?_) (fun c52133 => ?_)
      · refine lv_aload_n hx hb dX10_peek_52 rfl (lv_at hl 0 rfl) ?_
        refine va_get (D := (dC, dI)) (ci := 10) (v := .int (iZ f52115)) (C := RX10) (T := TX10) (N := 10) hx hb hts i_X10 hown hK hP 0 rfl rfl 2 (by decide) (hts _ q_122) (fun _ h9 => h9) rfl dX10_peek_53 ?_
        refine lv_aload_n hx hb dX10_peek_56 rfl (lv_at hl 0 rfl) ?_
        refine va_get (D := (dC, dI)) (ci := 10) (v := .int (iZ t_length)) (C := RX10) (T := TX10) (N := 10) hx hb hts i_X10 hown hK hP 0 rfl rfl 1 (by decide) (hts _ q_117) (fun _ h9 => h9) rfl dX10_peek_57 ?_
        refine zv_icmp_ge (tgt := 75) hx hb dX10_peek_60 (by decide) (by omega) (by omega) (fun c52134 => ?_) (fun c52134 => (by omega : False).elim)
        have hq52135 := hL0_0
        unfold BlkI at hq52135
        refine lv_iconst (v := iZ (-1)) hx hb dX10_peek_75 (by decide) ?_
        subst hQ
        exact W.iret (v := iZ (-1)) hx hb hr (fun t ht hW => ⟨⟨iZ (-1), (-1), rfl, ⟨rfl, by omega, Or.inl (by omega)⟩, f52115, by omega, by omega, by omega, by omega, by rw [ht]; exact hP, va_K.moved hW.alike hK, hD⟩, hS.F ht⟩) hS.2.2 dX10_peek_76
      · refine lv_aload_n hx hb dX10_peek_11 rfl (lv_at hl 0 rfl) ?_
        refine va_get (D := (dC, dI)) (ci := 10) (v := .ref q_t_bytes) (C := RX10) (T := TX10) (N := 10) hx hb hts i_X10 hown hK hP 0 rfl rfl 0 (by decide) (hts _ q_118) (fun _ h9 => h9) rfl dX10_peek_12 ?_
        refine lv_aload_n hx hb dX10_peek_15 rfl (lv_at hl 0 rfl) ?_
        refine va_get (D := (dC, dI)) (ci := 10) (v := .int (iZ f52115)) (C := RX10) (T := TX10) (N := 10) hx hb hts i_X10 hown hK hP 0 rfl rfl 2 (by decide) (hts _ q_122) (fun _ h9 => h9) rfl dX10_peek_16 ?_
        refine zv_iald hx hb hK hP 1 0 rfl rfl (by omega) (by omega) (by omega) dX10_peek_19 (fun z52136 ez52136 => ?_)
        have bz52136 : 0 ≤ z52136 ∧ z52136 ≤ 255 := by rw [ez52136]; exact hb_g_t_bytes _ (by omega)
        refine lv_bipush (v := iZ 32) hx hb dX10_peek_20 (by decide) ?_
        refine zv_icmp_eq (tgt := 39) hx hb dX10_peek_22 (by decide) (by omega) (by omega) (fun c52137 => ?_) (fun c52137 => ?_)
        · refine lv_aload_n hx hb dX10_peek_39 rfl (lv_at hl 0 rfl) ?_
          refine lv_dup hx hb dX10_peek_40 rfl ?_
          refine va_get (D := (dC, dI)) (ci := 10) (v := .int (iZ f52115)) (C := RX10) (T := TX10) (N := 10) hx hb hts i_X10 hown hK hP 0 rfl rfl 2 (by decide) (hts _ q_122) (fun _ h9 => h9) rfl dX10_peek_41 ?_
          refine lv_iconst (v := iZ 1) hx hb dX10_peek_44 (by decide) ?_
          refine zv_iadd hx hb (f52115 + 1) (by omega) dX10_peek_45 ?_
          refine va_put (D := (dC, dI)) (ci := 10) (v := .int (iZ (f52115 + 1))) (ty := tyX10 2) (C := RX10) (T := TX10) (N := 10) hx hb hts i_X10 tyX10 tyX10_ok nmX10 hown hK hP hD hS 0 rfl rfl 2 (by decide) (hts _ q_122) (fun _ h9 => h9) rfl (tyX10_ok 2 (by decide)) rfl rfl (Nat.le_of_ble_eq_true rfl) dX10_peek_46 (fun H locs hP hD hS => ?_)
          have hP : va_P (dC, dI) vwCl (wk_0 a_t q_t_bytes t_length (f52115 + 1) t_tokenAt t_tokenEnd t_own t_name t_number t_fault t_place q_t_bytes k_t_bytes g_t_bytes) H := hP
          have hD : va_D A (wk_0 a_t q_t_bytes t_length (f52115 + 1) t_tokenAt t_tokenEnd t_own t_name t_number t_fault t_place q_t_bytes k_t_bytes g_t_bytes) := hD
          refine lv_goto (tgt := 0) hx hb dX10_peek_49 (by decide) ?_
          have hG52138 : BlkI g_t_bytes t_at (f52115 + 1) := BlkI_step hL0_0 ez52136 (by omega)
          exact ih_0 (N0 - 1) (by omega) _ _ _ (f52115 + 1) (by omega) (by omega) hG52138 (by omega) hP hD hS (lv_sub hl [0] rfl)
        · refine lv_aload_n hx hb dX10_peek_25 rfl (lv_at hl 0 rfl) ?_
          refine va_get (D := (dC, dI)) (ci := 10) (v := .ref q_t_bytes) (C := RX10) (T := TX10) (N := 10) hx hb hts i_X10 hown hK hP 0 rfl rfl 0 (by decide) (hts _ q_118) (fun _ h9 => h9) rfl dX10_peek_26 ?_
          refine lv_aload_n hx hb dX10_peek_29 rfl (lv_at hl 0 rfl) ?_
          refine va_get (D := (dC, dI)) (ci := 10) (v := .int (iZ f52115)) (C := RX10) (T := TX10) (N := 10) hx hb hts i_X10 hown hK hP 0 rfl rfl 2 (by decide) (hts _ q_122) (fun _ h9 => h9) rfl dX10_peek_30 ?_
          refine zv_iald hx hb hK hP 1 0 rfl rfl (by omega) (by omega) (by omega) dX10_peek_33 (fun z52139 ez52139 => ?_)
          have bz52139 : 0 ≤ z52139 ∧ z52139 ≤ 255 := by rw [ez52139]; exact hb_g_t_bytes _ (by omega)
          refine lv_bipush (v := iZ 10) hx hb dX10_peek_34 (by decide) ?_
          refine zv_icmp_ne (tgt := 52) hx hb dX10_peek_36 (by decide) (by omega) (by omega) (fun c52140 => ?_) (fun c52140 => ?_)
          · refine lv_aload_n hx hb dX10_peek_52 rfl (lv_at hl 0 rfl) ?_
            refine va_get (D := (dC, dI)) (ci := 10) (v := .int (iZ f52115)) (C := RX10) (T := TX10) (N := 10) hx hb hts i_X10 hown hK hP 0 rfl rfl 2 (by decide) (hts _ q_122) (fun _ h9 => h9) rfl dX10_peek_53 ?_
            refine lv_aload_n hx hb dX10_peek_56 rfl (lv_at hl 0 rfl) ?_
            refine va_get (D := (dC, dI)) (ci := 10) (v := .int (iZ t_length)) (C := RX10) (T := TX10) (N := 10) hx hb hts i_X10 hown hK hP 0 rfl rfl 1 (by decide) (hts _ q_117) (fun _ h9 => h9) rfl dX10_peek_57 ?_
            refine zv_icmp_ge (tgt := 75) hx hb dX10_peek_60 (by decide) (by omega) (by omega) (fun c52141 => (by omega : False).elim) (fun c52141 => ?_)
            refine lv_aload_n hx hb dX10_peek_63 rfl (lv_at hl 0 rfl) ?_
            refine va_get (D := (dC, dI)) (ci := 10) (v := .ref q_t_bytes) (C := RX10) (T := TX10) (N := 10) hx hb hts i_X10 hown hK hP 0 rfl rfl 0 (by decide) (hts _ q_118) (fun _ h9 => h9) rfl dX10_peek_64 ?_
            refine lv_aload_n hx hb dX10_peek_67 rfl (lv_at hl 0 rfl) ?_
            refine va_get (D := (dC, dI)) (ci := 10) (v := .int (iZ f52115)) (C := RX10) (T := TX10) (N := 10) hx hb hts i_X10 hown hK hP 0 rfl rfl 2 (by decide) (hts _ q_122) (fun _ h9 => h9) rfl dX10_peek_68 ?_
            refine zv_iald hx hb hK hP 1 0 rfl rfl (by omega) (by omega) (by omega) dX10_peek_71 (fun z52142 ez52142 => ?_)
            have bz52142 : 0 ≤ z52142 ∧ z52142 ≤ 255 := by rw [ez52142]; exact hb_g_t_bytes _ (by omega)
            have hq52143 := BlkI_v hL0_0 ez52142
            refine lv_goto (tgt := 76) hx hb dX10_peek_72 (by decide) ?_
            subst hQ
            exact W.iret (v := iZ z52142) hx hb hr (fun t ht hW => ⟨⟨iZ z52142, z52142, rfl, ⟨rfl, by omega, by omega⟩, f52115, by omega, by omega, by omega, by omega, by rw [ht]; exact hP, va_K.moved hW.alike hK, hD⟩, hS.F ht⟩) hS.2.2 dX10_peek_76
          · refine lv_aload_n hx hb dX10_peek_39 rfl (lv_at hl 0 rfl) ?_
            refine lv_dup hx hb dX10_peek_40 rfl ?_
            refine va_get (D := (dC, dI)) (ci := 10) (v := .int (iZ f52115)) (C := RX10) (T := TX10) (N := 10) hx hb hts i_X10 hown hK hP 0 rfl rfl 2 (by decide) (hts _ q_122) (fun _ h9 => h9) rfl dX10_peek_41 ?_
            refine lv_iconst (v := iZ 1) hx hb dX10_peek_44 (by decide) ?_
            refine zv_iadd hx hb (f52115 + 1) (by omega) dX10_peek_45 ?_
            refine va_put (D := (dC, dI)) (ci := 10) (v := .int (iZ (f52115 + 1))) (ty := tyX10 2) (C := RX10) (T := TX10) (N := 10) hx hb hts i_X10 tyX10 tyX10_ok nmX10 hown hK hP hD hS 0 rfl rfl 2 (by decide) (hts _ q_122) (fun _ h9 => h9) rfl (tyX10_ok 2 (by decide)) rfl rfl (Nat.le_of_ble_eq_true rfl) dX10_peek_46 (fun H locs hP hD hS => ?_)
            have hP : va_P (dC, dI) vwCl (wk_0 a_t q_t_bytes t_length (f52115 + 1) t_tokenAt t_tokenEnd t_own t_name t_number t_fault t_place q_t_bytes k_t_bytes g_t_bytes) H := hP
            have hD : va_D A (wk_0 a_t q_t_bytes t_length (f52115 + 1) t_tokenAt t_tokenEnd t_own t_name t_number t_fault t_place q_t_bytes k_t_bytes g_t_bytes) := hD
            refine lv_goto (tgt := 0) hx hb dX10_peek_49 (by decide) ?_
            have hG52144 : BlkI g_t_bytes t_at (f52115 + 1) := BlkI_step hL0_0 ez52139 (by omega)
            exact ih_0 (N0 - 1) (by omega) _ _ _ (f52115 + 1) (by omega) (by omega) hG52144 (by omega) hP hD hS (lv_sub hl [0] rfl)
  exact lp_0 ((-t_at + t_length : Int)).toNat _ _ _ t_at (by omega) (by omega) hG52109 (by omega) hP hD hS (lv_sub hl [0] rfl)
set_option maxHeartbeats 4000000 in
set_option maxRecDepth 100000 in
theorem z_X10_needsSign_y (l : Launch) (dC : Nat → ClassId) (dI : Nat → Nat → Nat) (a_t : Nat) (p1 : Int) (q_t_bytes : Nat) (t_length : Int) (t_at : Int) (t_tokenAt : Int) (t_tokenEnd : Int) (t_own : Int) (t_name : Int64) (t_number : Int) (t_fault : Int) (t_place : Int) (k_t_bytes : ClassId) (g_t_bytes : Nat → Int) (sz : Nat) (hb_g_t_bytes : ∀ j : Nat, j < 1600 → 0 ≤ g_t_bytes j ∧ g_t_bytes j ≤ 255) (b_t_length : 0 ≤ t_length ∧ t_length ≤ 1600) (b_t_at : 0 ≤ t_at ∧ t_at ≤ 1600) (b_t_tokenAt : 0 ≤ t_tokenAt ∧ t_tokenAt ≤ 1599) (b_t_tokenEnd : -1 ≤ t_tokenEnd ∧ t_tokenEnd ≤ 1600) (b_t_own : -1 ≤ t_own ∧ t_own ≤ 13) (b_t_number : 0 ≤ t_number ∧ t_number ≤ 999) (b_t_fault : -2147483648 ≤ t_fault ∧ t_fault ≤ 2147483647) (b_t_place : -2147483648 ≤ t_place ∧ t_place ≤ 2147483647) (b_p1 : 33 ≤ p1 ∧ p1 ≤ 255) : Met l yX10_needsSign (Cond.code yX10_needsSign cX10_needsSign 2 (some .boolean) :: wA) ({ frames := 1, cells := 0, slots := 0, locals := 22 }) (va_Pc [.ref a_t, .int (iZ p1)] (fun U => U.heap.size = sz ∧ va_P (dC, dI) vwCl (wk_0 a_t q_t_bytes t_length t_at t_tokenAt t_tokenEnd t_own t_name t_number t_fault t_place q_t_bytes k_t_bytes g_t_bytes) U.heap ∧ va_K (dC, dI) vwCl [(k_t_bytes, .int)] U ∧ va_D (fun _ => True) (wk_0 a_t q_t_bytes t_length t_at t_tokenAt t_tokenEnd t_own t_name t_number t_fault t_place q_t_bytes k_t_bytes g_t_bytes) ∧ nwAll U)) (va_Qi (fun (r : Int32) (zR : Int) => r = iZ zR ∧ (0 ≤ zR ∧ zR ≤ 1)) (fun zR t => ∃ n_t_at : Int, ∃ n_t_fault : Int, ∃ n_t_place : Int, (0 ≤ n_t_at ∧ n_t_at ≤ 1600) ∧ (-2147483648 ≤ n_t_fault ∧ n_t_fault ≤ 2147483647) ∧ (-2147483648 ≤ n_t_place ∧ n_t_place ≤ 2147483647) ∧ ((zR = 0 ∧ t_at ≤ n_t_at) ∨ (zR = 1 ∧ t_at + 1 ≤ n_t_at ∧ n_t_at ≤ t_length)) ∧ (zR = 0 ∨ (n_t_at = t_at + 1 ∧ g_t_bytes t_at.toNat = p1) ∨ g_t_bytes t_at.toNat = 32 ∨ g_t_bytes t_at.toNat = 10) ∧ va_P (dC, dI) vwCl (wk_0 a_t q_t_bytes t_length n_t_at t_tokenAt t_tokenEnd t_own t_name t_number n_t_fault n_t_place q_t_bytes k_t_bytes g_t_bytes) t.heap ∧ va_K (dC, dI) vwCl [(k_t_bytes, .int)] t ∧ va_D (va_A (wk_0 a_t q_t_bytes t_length t_at t_tokenAt t_tokenEnd t_own t_name t_number t_fault t_place q_t_bytes k_t_bytes g_t_bytes) sz) (wk_0 a_t q_t_bytes t_length n_t_at t_tokenAt t_tokenEnd t_own t_name t_number n_t_fault n_t_place q_t_bytes k_t_bytes g_t_bytes)) (va_A (wk_0 a_t q_t_bytes t_length t_at t_tokenAt t_tokenEnd t_own t_name t_number t_fault t_place q_t_bytes k_t_bytes g_t_bytes) sz)) 0 0 (va_A (wk_0 a_t q_t_bytes t_length t_at t_tokenAt t_tokenEnd t_own t_name t_number t_fault t_place q_t_bytes k_t_bytes g_t_bytes) sz) := by
  refine Met.ofW (cc := cX10_needsSign) (maxL := 2) (ret := (some .boolean)) (by decide) rfl ?_
  intro p e s m args below meth c s₁ B hml hv
  obtain ⟨rfl, hsz, hP, hK, hD0, hN⟩ := hv
  have hx := B.exec
  have hb := B.bytes
  have hr := B.returns
  have hts : ∀ w ∈ wA, w.before [.ref a_t, .int (iZ p1)].toArray s = true := fun w h => atoms_spec (ws := Cond.code yX10_needsSign cX10_needsSign 2 (some .boolean) :: wA) B.pre w (List.mem_cons_of_mem _ h)
  have hown : s.vm.findClass RX10 = some m.cls := findClass_of_methodNamed B.named
  have hlocks := B.notSynchronized
  subst hsz
  have hD := hD0.self (sz := s.heap.size)
  generalize hQ : MQ below (va_Qi (fun (r : Int32) (zR : Int) => r = iZ zR ∧ (0 ≤ zR ∧ zR ≤ 1)) (fun zR t => ∃ n_t_at : Int, ∃ n_t_fault : Int, ∃ n_t_place : Int, (0 ≤ n_t_at ∧ n_t_at ≤ 1600) ∧ (-2147483648 ≤ n_t_fault ∧ n_t_fault ≤ 2147483647) ∧ (-2147483648 ≤ n_t_place ∧ n_t_place ≤ 2147483647) ∧ ((zR = 0 ∧ t_at ≤ n_t_at) ∨ (zR = 1 ∧ t_at + 1 ≤ n_t_at ∧ n_t_at ≤ t_length)) ∧ (zR = 0 ∨ (n_t_at = t_at + 1 ∧ g_t_bytes t_at.toNat = p1) ∨ g_t_bytes t_at.toNat = 32 ∨ g_t_bytes t_at.toNat = 10) ∧ va_P (dC, dI) vwCl (wk_0 a_t q_t_bytes t_length n_t_at t_tokenAt t_tokenEnd t_own t_name t_number n_t_fault n_t_place q_t_bytes k_t_bytes g_t_bytes) t.heap ∧ va_K (dC, dI) vwCl [(k_t_bytes, .int)] t ∧ va_D (va_A (wk_0 a_t q_t_bytes t_length t_at t_tokenAt t_tokenEnd t_own t_name t_number t_fault t_place q_t_bytes k_t_bytes g_t_bytes) s.heap.size) (wk_0 a_t q_t_bytes t_length n_t_at t_tokenAt t_tokenEnd t_own t_name t_number n_t_fault n_t_place q_t_bytes k_t_bytes g_t_bytes)) (va_A (wk_0 a_t q_t_bytes t_length t_at t_tokenAt t_tokenEnd t_own t_name t_number t_fault t_place q_t_bytes k_t_bytes g_t_bytes) s.heap.size)) [.ref a_t, .int (iZ p1)].toArray s 0 0 (va_A (wk_0 a_t q_t_bytes t_length t_at t_tokenAt t_tokenEnd t_own t_name t_number t_fault t_place q_t_bytes k_t_bytes g_t_bytes) s.heap.size) = Q
  have hA : ∀ q : Nat, s.heap.size ≤ q → va_A (wk_0 a_t q_t_bytes t_length t_at t_tokenAt t_tokenEnd t_own t_name t_number t_fault t_place q_t_bytes k_t_bytes g_t_bytes) s.heap.size q := fun q h => Or.inr h
  generalize hAe : va_A (wk_0 a_t q_t_bytes t_length t_at t_tokenAt t_tokenEnd t_own t_name t_number t_fault t_place q_t_bytes k_t_bytes g_t_bytes) s.heap.size = A at hD hA hQ
  have hS : va_S A s.heap s.heap [] := va_S.rf
  have hl := lv_entry ([.ref a_t, .int (iZ p1)]) (n := 2) (Nat.le_of_ble_eq_true rfl)
  rw [lg_entry_eq]
  generalize (lg_sl ([.ref a_t, .int (iZ p1)]) ++ List.replicate (2 - (lg_sl ([.ref a_t, .int (iZ p1)])).length) Slot.unset).toArray = ls at hl ⊢
  have hl : lv_has ls 2 [(0, .ref a_t), (1, .int (iZ p1))] := hl
  refine lv_aload_n hx hb dX10_needsSign_0 rfl (lv_at hl 0 rfl) ?_
  have hPc := hP.sub (ws' := (wk_0 a_t q_t_bytes t_length t_at t_tokenAt t_tokenEnd t_own t_name t_number t_fault t_place q_t_bytes k_t_bytes g_t_bytes)) [0, 1] rfl
  have hDc := hD.sub (ws' := (wk_0 a_t q_t_bytes t_length t_at t_tokenAt t_tokenEnd t_own t_name t_number t_fault t_place q_t_bytes k_t_bytes g_t_bytes)) [0, 1] (by decide) rfl
  have hKc := hK.sub (tys' := [(k_t_bytes, .int)]) [0] rfl
  have hFc := va_free (wc := (wk_0 a_t q_t_bytes t_length t_at t_tokenAt t_tokenEnd t_own t_name t_number t_fault t_place q_t_bytes k_t_bytes g_t_bytes)) hD hS hA [0, 1] rfl
  refine va_calli (va_runV (As := []) (rest := []) ⟨hx, hb, hml, hown, hts⟩ (z_X10_peek_y l dC dI a_t q_t_bytes t_length t_at t_tokenAt t_tokenEnd t_own t_name t_number t_fault t_place k_t_bytes g_t_bytes s.heap.size hb_g_t_bytes (by omega) (by omega) (by omega) (by omega) (by omega) (by omega) (by omega) (by omega)) (cwV 0 hts (gV q_140 q_141 q_142 q_136 q_143) rfl rfl rfl mdv_yX10_peek ⟨Nat.le_of_ble_eq_true rfl, Nat.le_of_ble_eq_true rfl⟩) ⟨fun a U g mk q => by obtain ⟨q0, q1, qP, qK, qD, qN⟩ := q; exact ⟨q0, q1, qP, va_K.moved (u := U) (U := U.calling g mk a) (Vm.Alike.refl U.vm) qK, qD, nwAll_same (u := U) (U := U.calling g mk a) rfl qN⟩, va_recv hKc hPc (ci := 10) (q0 := 0) rfl rfl, fun U hU hW => ⟨rfl, by rw [hU], by rw [hU]; exact hPc, va_K.moved hW.alike hKc, hDc.weaken (fun _ _ _ _ => trivial), nwAll_warm hW hN⟩⟩ rfl rfl hl.1 rfl (lv_room (Nat.le_of_ble_eq_true rfl)) dX10_needsSign_1 ⟨Nat.le_of_ble_eq_true rfl, Nat.le_of_ble_eq_true rfl⟩) hS (fun q _ h => hFc q h) hFc (fun r52155 z52156 t H1 locs ht hvm hw hB hz1 hk1 hS => ?_)
  obtain ⟨rfl, h52162, h52163⟩ := hw
  obtain ⟨z52157, h52158, h52159, h52160, h52161, hP1, hK1, hD1⟩ := hB
  rw [ht] at hP1
  obtain ⟨hP, hD⟩ := va_join (wr := []) (w1 := (wk_0 a_t q_t_bytes t_length z52157 t_tokenAt t_tokenEnd t_own t_name t_number t_fault t_place q_t_bytes k_t_bytes g_t_bytes)) hP hD [0, 1] [] rfl rfl (by decide) (by decide) hk1 hFc hP1 hD1
  generalize H1 = H at hP hS ⊢
  have hP : va_P (dC, dI) vwCl (wk_0 a_t q_t_bytes t_length z52157 t_tokenAt t_tokenEnd t_own t_name t_number t_fault t_place q_t_bytes k_t_bytes g_t_bytes) H := hP
  have hD : va_D A (wk_0 a_t q_t_bytes t_length z52157 t_tokenAt t_tokenEnd t_own t_name t_number t_fault t_place q_t_bytes k_t_bytes g_t_bytes) := hD
  refine lv_iload_n hx hb dX10_needsSign_4 rfl (lv_at hl 1 rfl) ?_
  refine zv_icmp_eq (tgt := 18) hx hb dX10_needsSign_5 (by decide) (by omega) (by omega) (fun c52164 => ?_) (fun c52164 => ?_)
  · refine lv_aload_n hx hb dX10_needsSign_18 rfl (lv_at hl 0 rfl) ?_
    refine lv_dup hx hb dX10_needsSign_19 rfl ?_
    refine va_get (D := (dC, dI)) (ci := 10) (v := .int (iZ z52157)) (C := RX10) (T := TX10) (N := 10) hx hb hts i_X10 hown hK hP 0 rfl rfl 2 (by decide) (hts _ q_122) (fun _ h9 => h9) rfl dX10_needsSign_20 ?_
    refine lv_iconst (v := iZ 1) hx hb dX10_needsSign_23 (by decide) ?_
    refine zv_iadd hx hb (z52157 + 1) (by omega) dX10_needsSign_24 ?_
    refine va_put (D := (dC, dI)) (ci := 10) (v := .int (iZ (z52157 + 1))) (ty := tyX10 2) (C := RX10) (T := TX10) (N := 10) hx hb hts i_X10 tyX10 tyX10_ok nmX10 hown hK hP hD hS 0 rfl rfl 2 (by decide) (hts _ q_122) (fun _ h9 => h9) rfl (tyX10_ok 2 (by decide)) rfl rfl (Nat.le_of_ble_eq_true rfl) dX10_needsSign_25 (fun H locs hP hD hS => ?_)
    have hP : va_P (dC, dI) vwCl (wk_0 a_t q_t_bytes t_length (z52157 + 1) t_tokenAt t_tokenEnd t_own t_name t_number t_fault t_place q_t_bytes k_t_bytes g_t_bytes) H := hP
    have hD : va_D A (wk_0 a_t q_t_bytes t_length (z52157 + 1) t_tokenAt t_tokenEnd t_own t_name t_number t_fault t_place q_t_bytes k_t_bytes g_t_bytes) := hD
    refine lv_iconst (v := iZ 1) hx hb dX10_needsSign_28 (by decide) ?_
    subst hQ
    exact W.zret (v := iZ 1) hx hb hr rfl (fun t ht hW => ⟨⟨iZ 1, 1, rfl, ⟨rfl, by omega⟩, (z52157 + 1), t_fault, t_place, by omega, by omega, by omega, by omega, by omega, by rw [ht]; exact hP, va_K.moved hW.alike hK, hD⟩, hS.F ht⟩) hS.2.2 dX10_needsSign_29
  · refine lv_aload_n hx hb dX10_needsSign_8 rfl (lv_at hl 0 rfl) ?_
    refine lv_iconst (v := iZ 1) hx hb dX10_needsSign_9 (by decide) ?_
    refine lv_aload_n hx hb dX10_needsSign_10 rfl (lv_at hl 0 rfl) ?_
    refine va_get (D := (dC, dI)) (ci := 10) (v := .int (iZ z52157)) (C := RX10) (T := TX10) (N := 10) hx hb hts i_X10 hown hK hP 0 rfl rfl 2 (by decide) (hts _ q_122) (fun _ h9 => h9) rfl dX10_needsSign_11 ?_
    have hPc := hP.sub (ws' := (wk_0 a_t q_t_bytes t_length z52157 t_tokenAt t_tokenEnd t_own t_name t_number t_fault t_place q_t_bytes k_t_bytes g_t_bytes)) [0, 1] rfl
    have hDc := hD.sub (ws' := (wk_0 a_t q_t_bytes t_length z52157 t_tokenAt t_tokenEnd t_own t_name t_number t_fault t_place q_t_bytes k_t_bytes g_t_bytes)) [0, 1] (by decide) rfl
    have hKc := hK.sub (tys' := [(k_t_bytes, .int)]) [0] rfl
    have hFc := va_free (wc := (wk_0 a_t q_t_bytes t_length z52157 t_tokenAt t_tokenEnd t_own t_name t_number t_fault t_place q_t_bytes k_t_bytes g_t_bytes)) hD hS hA [0, 1] rfl
    refine va_calli (va_runV (As := [.int (iZ 1), .int (iZ z52157)]) (rest := []) ⟨hx, hb, hml, hown, hts⟩ (z_X10_wrong l dC dI a_t 1 z52157 q_t_bytes t_length z52157 t_tokenAt t_tokenEnd t_own t_name t_number t_fault t_place k_t_bytes g_t_bytes H.size hb_g_t_bytes (by omega) (by omega) (by omega) (by omega) (by omega) (by omega) (by omega) (by omega) (by omega) (by omega)) (cwV 2 hts (gV q_133 q_134 q_135 q_136 q_137) rfl rfl rfl mdv_yX10_wrong ⟨Nat.le_of_ble_eq_true rfl, Nat.le_of_ble_eq_true rfl⟩) ⟨fun a U g mk q => by obtain ⟨q0, q1, qP, qK, qD, qN⟩ := q; exact ⟨q0, q1, qP, va_K.moved (u := U) (U := U.calling g mk a) (Vm.Alike.refl U.vm) qK, qD, nwAll_same (u := U) (U := U.calling g mk a) rfl qN⟩, va_recv hKc hPc (ci := 10) (q0 := 0) rfl rfl, fun U hU hW => ⟨rfl, by rw [hU], by rw [hU]; exact hPc, va_K.moved hW.alike hKc, hDc.weaken (fun _ _ _ _ => trivial), nwAll_warm hW hN⟩⟩ rfl rfl hl.1 rfl (lv_room (Nat.le_of_ble_eq_true rfl)) dX10_needsSign_14 ⟨Nat.le_of_ble_eq_true rfl, Nat.le_of_ble_eq_true rfl⟩) hS (fun q _ h => hFc q h) hFc (fun r52165 z52166 t H1 locs ht hvm hw hB hz1 hk1 hS => ?_)
    obtain ⟨rfl, h52167⟩ := hw
    obtain ⟨hP1, hK1, hD1⟩ := hB
    rw [ht] at hP1
    obtain ⟨hP, hD⟩ := va_join (wr := []) (w1 := (wk_0 a_t q_t_bytes t_length z52157 t_tokenAt t_tokenEnd t_own t_name t_number 1 z52157 q_t_bytes k_t_bytes g_t_bytes)) hP hD [0, 1] [] rfl rfl (by decide) (by decide) hk1 hFc hP1 hD1
    generalize H1 = H at hP hS ⊢
    have hP : va_P (dC, dI) vwCl (wk_0 a_t q_t_bytes t_length z52157 t_tokenAt t_tokenEnd t_own t_name t_number 1 z52157 q_t_bytes k_t_bytes g_t_bytes) H := hP
    have hD : va_D A (wk_0 a_t q_t_bytes t_length z52157 t_tokenAt t_tokenEnd t_own t_name t_number 1 z52157 q_t_bytes k_t_bytes g_t_bytes) := hD
    subst hQ
    exact W.zret (v := iZ z52166) hx hb hr (zb_nar (by omega)) (fun t ht hW => ⟨⟨iZ z52166, z52166, rfl, ⟨rfl, by omega⟩, z52157, 1, z52157, by omega, by omega, by omega, by omega, Or.inl (by omega), by rw [ht]; exact hP, va_K.moved hW.alike hK, hD⟩, hS.F ht⟩) hS.2.2 dX10_needsSign_17
def wk_72 (a0 : Nat) (x0_0 : Nat) (x0_1 : Nat) (x0_2 : Nat) (x0_3 : Int) (x0_4 : Nat) (x0_5 : Int) (a1 : Nat) (c1 : ClassId) (g1 : Nat → Int) : va_W := [(a0, .inr (4, [.ref x0_0, .ref x0_1, .ref x0_2, .int (iZ x0_3), .ref x0_4, .int (iZ x0_5)])), (a1, .inl (c1, 4020, .inl (aZ g1)))]
set_option maxHeartbeats 4000000 in
set_option maxRecDepth 100000 in
theorem z_X4_emit (l : Launch) (dC : Nat → ClassId) (dI : Nat → Nat → Nat) (a_t : Nat) (p1 : Int) (q_t_tape : Nat) (q_t_kinds : Nat) (q_t_code : Nat) (t_size : Int) (q_t_open : Nat) (t_depth : Int) (k_t_code : ClassId) (g_t_code : Nat → Int) (sz : Nat) (hb_g_t_code : ∀ j : Nat, j < 4020 → -1000 ≤ g_t_code j ∧ g_t_code j ≤ 4100) (b_t_size : 0 ≤ t_size ∧ t_size ≤ 4020) (b_t_depth : 0 ≤ t_depth ∧ t_depth ≤ 4) (b_p1 : -1000 ≤ p1 ∧ p1 ≤ 4100) (hp52168 : t_size ≤ 4019) : Met l yX4_emit (Cond.code yX4_emit cX4_emit 2 none :: wA) ({ frames := 0, cells := 0, slots := 0, locals := 0 }) (va_Pc [.ref a_t, .int (iZ p1)] (fun U => U.heap.size = sz ∧ va_P (dC, dI) vwCl (wk_72 a_t q_t_tape q_t_kinds q_t_code t_size q_t_open t_depth q_t_code k_t_code g_t_code) U.heap ∧ va_K (dC, dI) vwCl [(k_t_code, .int)] U ∧ va_D (fun _ => True) (wk_72 a_t q_t_tape q_t_kinds q_t_code t_size q_t_open t_depth q_t_code k_t_code g_t_code) ∧ nwAll U)) (va_Qv (fun (_ : Unit) => True) (fun _ t => (∀ j : Nat, j < 4020 → -1000 ≤ (updI g_t_code (t_size).toNat p1) j ∧ (updI g_t_code (t_size).toNat p1) j ≤ 4100) ∧ va_P (dC, dI) vwCl (wk_72 a_t q_t_tape q_t_kinds q_t_code (t_size + 1) q_t_open t_depth q_t_code k_t_code (updI g_t_code (t_size).toNat p1)) t.heap ∧ va_K (dC, dI) vwCl [(k_t_code, .int)] t ∧ va_D (va_A (wk_72 a_t q_t_tape q_t_kinds q_t_code t_size q_t_open t_depth q_t_code k_t_code g_t_code) sz) (wk_72 a_t q_t_tape q_t_kinds q_t_code (t_size + 1) q_t_open t_depth q_t_code k_t_code (updI g_t_code (t_size).toNat p1))) (va_A (wk_72 a_t q_t_tape q_t_kinds q_t_code t_size q_t_open t_depth q_t_code k_t_code g_t_code) sz)) 0 0 (va_A (wk_72 a_t q_t_tape q_t_kinds q_t_code t_size q_t_open t_depth q_t_code k_t_code g_t_code) sz) := by
  refine Met.ofW (cc := cX4_emit) (maxL := 2) (ret := none) (by decide) rfl ?_
  intro p e s m args below meth c s₁ B hml hv
  obtain ⟨rfl, hsz, hP, hK, hD0, hN⟩ := hv
  have hx := B.exec
  have hb := B.bytes
  have hr := B.returns
  have hts : ∀ w ∈ wA, w.before [.ref a_t, .int (iZ p1)].toArray s = true := fun w h => atoms_spec (ws := Cond.code yX4_emit cX4_emit 2 none :: wA) B.pre w (List.mem_cons_of_mem _ h)
  have hown : s.vm.findClass RX4 = some m.cls := findClass_of_methodNamed B.named
  have hlocks := B.notSynchronized
  subst hsz
  have hD := hD0.self (sz := s.heap.size)
  generalize hQ : MQ below (va_Qv (fun (_ : Unit) => True) (fun _ t => (∀ j : Nat, j < 4020 → -1000 ≤ (updI g_t_code (t_size).toNat p1) j ∧ (updI g_t_code (t_size).toNat p1) j ≤ 4100) ∧ va_P (dC, dI) vwCl (wk_72 a_t q_t_tape q_t_kinds q_t_code (t_size + 1) q_t_open t_depth q_t_code k_t_code (updI g_t_code (t_size).toNat p1)) t.heap ∧ va_K (dC, dI) vwCl [(k_t_code, .int)] t ∧ va_D (va_A (wk_72 a_t q_t_tape q_t_kinds q_t_code t_size q_t_open t_depth q_t_code k_t_code g_t_code) s.heap.size) (wk_72 a_t q_t_tape q_t_kinds q_t_code (t_size + 1) q_t_open t_depth q_t_code k_t_code (updI g_t_code (t_size).toNat p1))) (va_A (wk_72 a_t q_t_tape q_t_kinds q_t_code t_size q_t_open t_depth q_t_code k_t_code g_t_code) s.heap.size)) [.ref a_t, .int (iZ p1)].toArray s 0 0 (va_A (wk_72 a_t q_t_tape q_t_kinds q_t_code t_size q_t_open t_depth q_t_code k_t_code g_t_code) s.heap.size) = Q
  have hA : ∀ q : Nat, s.heap.size ≤ q → va_A (wk_72 a_t q_t_tape q_t_kinds q_t_code t_size q_t_open t_depth q_t_code k_t_code g_t_code) s.heap.size q := fun q h => Or.inr h
  generalize hAe : va_A (wk_72 a_t q_t_tape q_t_kinds q_t_code t_size q_t_open t_depth q_t_code k_t_code g_t_code) s.heap.size = A at hD hA hQ
  have hS : va_S A s.heap s.heap [] := va_S.rf
  have hl := lv_entry ([.ref a_t, .int (iZ p1)]) (n := 2) (Nat.le_of_ble_eq_true rfl)
  rw [lg_entry_eq]
  generalize (lg_sl ([.ref a_t, .int (iZ p1)]) ++ List.replicate (2 - (lg_sl ([.ref a_t, .int (iZ p1)])).length) Slot.unset).toArray = ls at hl ⊢
  have hl : lv_has ls 2 [(0, .ref a_t), (1, .int (iZ p1))] := hl
  refine lv_aload_n hx hb dX4_emit_0 rfl (lv_at hl 0 rfl) ?_
  refine va_get (D := (dC, dI)) (ci := 4) (v := .int (iZ t_size)) (C := RX4) (T := TX4) (N := 6) hx hb hts i_X4 hown hK hP 0 rfl rfl 3 (by decide) (hts _ q_1283) (fun _ h9 => h9) rfl dX4_emit_1 ?_
  refine lv_sipush (v := iZ 4020) hx hb dX4_emit_4 (by decide) ?_
  refine zv_icmp_ge (tgt := 30) hx hb dX4_emit_7 (by decide) (by omega) (by omega) (fun c52171 => (by omega : False).elim) (fun c52171 => ?_)
  refine lv_aload_n hx hb dX4_emit_10 rfl (lv_at hl 0 rfl) ?_
  refine va_get (D := (dC, dI)) (ci := 4) (v := .ref q_t_code) (C := RX4) (T := TX4) (N := 6) hx hb hts i_X4 hown hK hP 0 rfl rfl 2 (by decide) (hts _ q_1278) (fun _ h9 => h9) rfl dX4_emit_11 ?_
  refine lv_aload_n hx hb dX4_emit_14 rfl (lv_at hl 0 rfl) ?_
  refine va_get (D := (dC, dI)) (ci := 4) (v := .int (iZ t_size)) (C := RX4) (T := TX4) (N := 6) hx hb hts i_X4 hown hK hP 0 rfl rfl 3 (by decide) (hts _ q_1283) (fun _ h9 => h9) rfl dX4_emit_15 ?_
  refine lv_iload_n hx hb dX4_emit_18 rfl (lv_at hl 1 rfl) ?_
  refine zv_iast hx hb hK hP hD hS 1 0 rfl rfl (by omega) (by omega) (by omega) dX4_emit_19 (fun g52172 H locs eg52172 hP hD hS => ?_)
  subst eg52172
  have hb_g52172 : ∀ j : Nat, j < 4020 → -1000 ≤ (updI g_t_code (t_size).toNat p1) j ∧ (updI g_t_code (t_size).toNat p1) j ≤ 4100 := by exact zb_upd (P := fun v => -1000 ≤ v ∧ v ≤ 4100) hb_g_t_code (by omega)
  have hP : va_P (dC, dI) vwCl (wk_72 a_t q_t_tape q_t_kinds q_t_code t_size q_t_open t_depth q_t_code k_t_code (updI g_t_code (t_size).toNat p1)) H := hP
  have hD : va_D A (wk_72 a_t q_t_tape q_t_kinds q_t_code t_size q_t_open t_depth q_t_code k_t_code (updI g_t_code (t_size).toNat p1)) := hD
  refine lv_aload_n hx hb dX4_emit_20 rfl (lv_at hl 0 rfl) ?_
  refine lv_dup hx hb dX4_emit_21 rfl ?_
  refine va_get (D := (dC, dI)) (ci := 4) (v := .int (iZ t_size)) (C := RX4) (T := TX4) (N := 6) hx hb hts i_X4 hown hK hP 0 rfl rfl 3 (by decide) (hts _ q_1283) (fun _ h9 => h9) rfl dX4_emit_22 ?_
  refine lv_iconst (v := iZ 1) hx hb dX4_emit_25 (by decide) ?_
  refine zv_iadd hx hb (t_size + 1) (by omega) dX4_emit_26 ?_
  refine va_put (D := (dC, dI)) (ci := 4) (v := .int (iZ (t_size + 1))) (ty := tyX4 3) (C := RX4) (T := TX4) (N := 6) hx hb hts i_X4 tyX4 tyX4_ok nmX4 hown hK hP hD hS 0 rfl rfl 3 (by decide) (hts _ q_1283) (fun _ h9 => h9) rfl (tyX4_ok 3 (by decide)) rfl rfl (Nat.le_of_ble_eq_true rfl) dX4_emit_27 (fun H locs hP hD hS => ?_)
  have hP : va_P (dC, dI) vwCl (wk_72 a_t q_t_tape q_t_kinds q_t_code (t_size + 1) q_t_open t_depth q_t_code k_t_code (updI g_t_code (t_size).toNat p1)) H := hP
  have hD : va_D A (wk_72 a_t q_t_tape q_t_kinds q_t_code (t_size + 1) q_t_open t_depth q_t_code k_t_code (updI g_t_code (t_size).toNat p1)) := hD
  subst hQ
  exact W.vret hx hb hr (fun t ht hW => ⟨⟨(), rfl, trivial, hb_g52172, by rw [ht]; exact hP, va_K.moved hW.alike hK, hD⟩, hS.F ht⟩) hS.2.2 dX4_emit_30
def wk_73 (a0 : Nat) (x0_0 : Nat) (x0_1 : Nat) (x0_2 : Nat) (x0_3 : Int) (x0_4 : Nat) (x0_5 : Int) (a1 : Nat) (x1_0 : Nat) (x1_1 : Int) (x1_2 : Int) (x1_3 : Int) (x1_4 : Int) (x1_5 : Int) (x1_6 : Int64) (x1_7 : Int) (x1_8 : Int) (x1_9 : Int) (a2 : Nat) (c2 : ClassId) (g2 : Nat → Int) (a3 : Nat) (c3 : ClassId) (g3 : Nat → Int) : va_W := [(a0, .inr (4, [.ref x0_0, .ref x0_1, .ref x0_2, .int (iZ x0_3), .ref x0_4, .int (iZ x0_5)])), (a1, .inr (10, [.ref x1_0, .int (iZ x1_1), .int (iZ x1_2), .int (iZ x1_3), .int (iZ x1_4), .int (iZ x1_5), .long x1_6, .int (iZ x1_7), .int (iZ x1_8), .int (iZ x1_9)])), (a2, .inl (c2, 1600, .inl (aZ g2))), (a3, .inl (c3, 4020, .inl (aZ g3)))]
set_option maxHeartbeats 4000000 in
set_option maxRecDepth 100000 in
theorem z_X4_moved (l : Launch) (dC : Nat → ClassId) (dI : Nat → Nat → Nat) (a_t : Nat) (a_tp : Nat) (q_t_kinds : Nat) (q_t_code : Nat) (t_size : Int) (q_t_open : Nat) (t_depth : Int) (q_tp_bytes : Nat) (tp_length : Int) (tp_at : Int) (tp_tokenAt : Int) (tp_tokenEnd : Int) (tp_own : Int) (tp_name : Int64) (tp_number : Int) (tp_fault : Int) (tp_place : Int) (k_tp_bytes : ClassId) (g_tp_bytes : Nat → Int) (k_t_code : ClassId) (g_t_code : Nat → Int) (sz : Nat) (hb_g_t_code : ∀ j : Nat, j < 4020 → -1000 ≤ g_t_code j ∧ g_t_code j ≤ 4100) (b_t_size : 0 ≤ t_size ∧ t_size ≤ 4020) (b_t_depth : 0 ≤ t_depth ∧ t_depth ≤ 4) (hb_g_tp_bytes : ∀ j : Nat, j < 1600 → 0 ≤ g_tp_bytes j ∧ g_tp_bytes j ≤ 255) (b_tp_length : 0 ≤ tp_length ∧ tp_length ≤ 1600) (b_tp_at : 0 ≤ tp_at ∧ tp_at ≤ 1600) (b_tp_tokenAt : 0 ≤ tp_tokenAt ∧ tp_tokenAt ≤ 1599) (b_tp_tokenEnd : -1 ≤ tp_tokenEnd ∧ tp_tokenEnd ≤ 1600) (b_tp_own : -1 ≤ tp_own ∧ tp_own ≤ 13) (b_tp_number : 0 ≤ tp_number ∧ tp_number ≤ 999) (b_tp_fault : -2147483648 ≤ tp_fault ∧ tp_fault ≤ 2147483647) (b_tp_place : -2147483648 ≤ tp_place ∧ tp_place ≤ 2147483647) (hp52173 : t_size ≤ 4018) : Met l yX4_moved (Cond.code yX4_moved cX4_moved 4 (some .boolean) :: wA) ({ frames := 2, cells := 0, slots := 0, locals := 44 }) (va_Pc [.ref a_t] (fun U => U.heap.size = sz ∧ va_P (dC, dI) vwCl (wk_73 a_t a_tp q_t_kinds q_t_code t_size q_t_open t_depth a_tp q_tp_bytes tp_length tp_at tp_tokenAt tp_tokenEnd tp_own tp_name tp_number tp_fault tp_place q_tp_bytes k_tp_bytes g_tp_bytes q_t_code k_t_code g_t_code) U.heap ∧ va_K (dC, dI) vwCl [(k_t_code, .int), (k_tp_bytes, .int)] U ∧ va_D (fun _ => True) (wk_73 a_t a_tp q_t_kinds q_t_code t_size q_t_open t_depth a_tp q_tp_bytes tp_length tp_at tp_tokenAt tp_tokenEnd tp_own tp_name tp_number tp_fault tp_place q_tp_bytes k_tp_bytes g_tp_bytes q_t_code k_t_code g_t_code) ∧ nwAll U)) (va_Qi (fun (r : Int32) (zR : Int) => r = iZ zR ∧ (0 ≤ zR ∧ zR ≤ 1)) (fun zR t => ∃ n_tp_at : Int, ∃ n_tp_tokenAt : Int, ∃ n_tp_tokenEnd : Int, ∃ n_tp_number : Int, ∃ n_tp_fault : Int, ∃ n_tp_place : Int, ∃ n_g_t_code : Nat → Int, (0 ≤ n_tp_at ∧ n_tp_at ≤ 1600) ∧ (0 ≤ n_tp_tokenAt ∧ n_tp_tokenAt ≤ 1599) ∧ (-1 ≤ n_tp_tokenEnd ∧ n_tp_tokenEnd ≤ 1600) ∧ (0 ≤ n_tp_number ∧ n_tp_number ≤ 999) ∧ (-2147483648 ≤ n_tp_fault ∧ n_tp_fault ≤ 2147483647) ∧ (-2147483648 ≤ n_tp_place ∧ n_tp_place ≤ 2147483647) ∧ ((t_size + 2) = t_size + 2) ∧ (tp_at ≤ n_tp_at) ∧ (∀ j : Nat, j < 4020 → -1000 ≤ n_g_t_code j ∧ n_g_t_code j ≤ 4100) ∧ (MvG g_t_code n_g_t_code t_size zR) ∧ va_P (dC, dI) vwCl (wk_73 a_t a_tp q_t_kinds q_t_code (t_size + 2) q_t_open t_depth a_tp q_tp_bytes tp_length n_tp_at n_tp_tokenAt n_tp_tokenEnd tp_own tp_name n_tp_number n_tp_fault n_tp_place q_tp_bytes k_tp_bytes g_tp_bytes q_t_code k_t_code n_g_t_code) t.heap ∧ va_K (dC, dI) vwCl [(k_t_code, .int), (k_tp_bytes, .int)] t ∧ va_D (va_A (wk_73 a_t a_tp q_t_kinds q_t_code t_size q_t_open t_depth a_tp q_tp_bytes tp_length tp_at tp_tokenAt tp_tokenEnd tp_own tp_name tp_number tp_fault tp_place q_tp_bytes k_tp_bytes g_tp_bytes q_t_code k_t_code g_t_code) sz) (wk_73 a_t a_tp q_t_kinds q_t_code (t_size + 2) q_t_open t_depth a_tp q_tp_bytes tp_length n_tp_at n_tp_tokenAt n_tp_tokenEnd tp_own tp_name n_tp_number n_tp_fault n_tp_place q_tp_bytes k_tp_bytes g_tp_bytes q_t_code k_t_code n_g_t_code)) (va_A (wk_73 a_t a_tp q_t_kinds q_t_code t_size q_t_open t_depth a_tp q_tp_bytes tp_length tp_at tp_tokenAt tp_tokenEnd tp_own tp_name tp_number tp_fault tp_place q_tp_bytes k_tp_bytes g_tp_bytes q_t_code k_t_code g_t_code) sz)) 0 0 (va_A (wk_73 a_t a_tp q_t_kinds q_t_code t_size q_t_open t_depth a_tp q_tp_bytes tp_length tp_at tp_tokenAt tp_tokenEnd tp_own tp_name tp_number tp_fault tp_place q_tp_bytes k_tp_bytes g_tp_bytes q_t_code k_t_code g_t_code) sz) := by
  refine Met.ofW (cc := cX4_moved) (maxL := 4) (ret := (some .boolean)) (by decide) rfl ?_
  intro p e s m args below meth c s₁ B hml hv
  obtain ⟨rfl, hsz, hP, hK, hD0, hN⟩ := hv
  have hx := B.exec
  have hb := B.bytes
  have hr := B.returns
  have hts : ∀ w ∈ wA, w.before [.ref a_t].toArray s = true := fun w h => atoms_spec (ws := Cond.code yX4_moved cX4_moved 4 (some .boolean) :: wA) B.pre w (List.mem_cons_of_mem _ h)
  have hown : s.vm.findClass RX4 = some m.cls := findClass_of_methodNamed B.named
  have hlocks := B.notSynchronized
  subst hsz
  have hD := hD0.self (sz := s.heap.size)
  generalize hQ : MQ below (va_Qi (fun (r : Int32) (zR : Int) => r = iZ zR ∧ (0 ≤ zR ∧ zR ≤ 1)) (fun zR t => ∃ n_tp_at : Int, ∃ n_tp_tokenAt : Int, ∃ n_tp_tokenEnd : Int, ∃ n_tp_number : Int, ∃ n_tp_fault : Int, ∃ n_tp_place : Int, ∃ n_g_t_code : Nat → Int, (0 ≤ n_tp_at ∧ n_tp_at ≤ 1600) ∧ (0 ≤ n_tp_tokenAt ∧ n_tp_tokenAt ≤ 1599) ∧ (-1 ≤ n_tp_tokenEnd ∧ n_tp_tokenEnd ≤ 1600) ∧ (0 ≤ n_tp_number ∧ n_tp_number ≤ 999) ∧ (-2147483648 ≤ n_tp_fault ∧ n_tp_fault ≤ 2147483647) ∧ (-2147483648 ≤ n_tp_place ∧ n_tp_place ≤ 2147483647) ∧ ((t_size + 2) = t_size + 2) ∧ (tp_at ≤ n_tp_at) ∧ (∀ j : Nat, j < 4020 → -1000 ≤ n_g_t_code j ∧ n_g_t_code j ≤ 4100) ∧ (MvG g_t_code n_g_t_code t_size zR) ∧ va_P (dC, dI) vwCl (wk_73 a_t a_tp q_t_kinds q_t_code (t_size + 2) q_t_open t_depth a_tp q_tp_bytes tp_length n_tp_at n_tp_tokenAt n_tp_tokenEnd tp_own tp_name n_tp_number n_tp_fault n_tp_place q_tp_bytes k_tp_bytes g_tp_bytes q_t_code k_t_code n_g_t_code) t.heap ∧ va_K (dC, dI) vwCl [(k_t_code, .int), (k_tp_bytes, .int)] t ∧ va_D (va_A (wk_73 a_t a_tp q_t_kinds q_t_code t_size q_t_open t_depth a_tp q_tp_bytes tp_length tp_at tp_tokenAt tp_tokenEnd tp_own tp_name tp_number tp_fault tp_place q_tp_bytes k_tp_bytes g_tp_bytes q_t_code k_t_code g_t_code) s.heap.size) (wk_73 a_t a_tp q_t_kinds q_t_code (t_size + 2) q_t_open t_depth a_tp q_tp_bytes tp_length n_tp_at n_tp_tokenAt n_tp_tokenEnd tp_own tp_name n_tp_number n_tp_fault n_tp_place q_tp_bytes k_tp_bytes g_tp_bytes q_t_code k_t_code n_g_t_code)) (va_A (wk_73 a_t a_tp q_t_kinds q_t_code t_size q_t_open t_depth a_tp q_tp_bytes tp_length tp_at tp_tokenAt tp_tokenEnd tp_own tp_name tp_number tp_fault tp_place q_tp_bytes k_tp_bytes g_tp_bytes q_t_code k_t_code g_t_code) s.heap.size)) [.ref a_t].toArray s 0 0 (va_A (wk_73 a_t a_tp q_t_kinds q_t_code t_size q_t_open t_depth a_tp q_tp_bytes tp_length tp_at tp_tokenAt tp_tokenEnd tp_own tp_name tp_number tp_fault tp_place q_tp_bytes k_tp_bytes g_tp_bytes q_t_code k_t_code g_t_code) s.heap.size) = Q
  have hA : ∀ q : Nat, s.heap.size ≤ q → va_A (wk_73 a_t a_tp q_t_kinds q_t_code t_size q_t_open t_depth a_tp q_tp_bytes tp_length tp_at tp_tokenAt tp_tokenEnd tp_own tp_name tp_number tp_fault tp_place q_tp_bytes k_tp_bytes g_tp_bytes q_t_code k_t_code g_t_code) s.heap.size q := fun q h => Or.inr h
  generalize hAe : va_A (wk_73 a_t a_tp q_t_kinds q_t_code t_size q_t_open t_depth a_tp q_tp_bytes tp_length tp_at tp_tokenAt tp_tokenEnd tp_own tp_name tp_number tp_fault tp_place q_tp_bytes k_tp_bytes g_tp_bytes q_t_code k_t_code g_t_code) s.heap.size = A at hD hA hQ
  have hS : va_S A s.heap s.heap [] := va_S.rf
  have hl := lv_entry ([.ref a_t]) (n := 4) (Nat.le_of_ble_eq_true rfl)
  rw [lg_entry_eq]
  generalize (lg_sl ([.ref a_t]) ++ List.replicate (4 - (lg_sl ([.ref a_t])).length) Slot.unset).toArray = ls at hl ⊢
  have hl : lv_has ls 4 [(0, .ref a_t)] := hl
  refine lv_aload_n hx hb dX4_moved_0 rfl (lv_at hl 0 rfl) ?_
  refine va_get (D := (dC, dI)) (ci := 4) (v := .ref a_tp) (C := RX4) (T := TX4) (N := 6) hx hb hts i_X4 hown hK hP 0 rfl rfl 0 (by decide) (hts _ q_1285) (fun _ h9 => h9) rfl dX4_moved_1 ?_
  refine lv_bipush (v := iZ 43) hx hb dX4_moved_4 (by decide) ?_
  have hPc := hP.sub (ws' := (wk_0 a_tp q_tp_bytes tp_length tp_at tp_tokenAt tp_tokenEnd tp_own tp_name tp_number tp_fault tp_place q_tp_bytes k_tp_bytes g_tp_bytes)) [1, 2] rfl
  have hDc := hD.sub (ws' := (wk_0 a_tp q_tp_bytes tp_length tp_at tp_tokenAt tp_tokenEnd tp_own tp_name tp_number tp_fault tp_place q_tp_bytes k_tp_bytes g_tp_bytes)) [1, 2] (by decide) rfl
  have hKc := hK.sub (tys' := [(k_tp_bytes, .int)]) [1] rfl
  have hFc := va_free (wc := (wk_0 a_tp q_tp_bytes tp_length tp_at tp_tokenAt tp_tokenEnd tp_own tp_name tp_number tp_fault tp_place q_tp_bytes k_tp_bytes g_tp_bytes)) hD hS hA [1, 2] rfl
  refine va_calli (va_runV (As := [.int (iZ 43)]) (rest := []) ⟨hx, hb, hml, hown, hts⟩ (z_X10_takesSign_x l dC dI a_tp 43 q_tp_bytes tp_length tp_at tp_tokenAt tp_tokenEnd tp_own tp_name tp_number tp_fault tp_place k_tp_bytes g_tp_bytes s.heap.size hb_g_tp_bytes (by omega) (by omega) (by omega) (by omega) (by omega) (by omega) (by omega) (by omega) (by omega)) (cwV 1 hts (gV q_1295 q_1182 q_1183 q_136 q_149) rfl rfl rfl mdv_yX10_takesSign ⟨Nat.le_of_ble_eq_true rfl, Nat.le_of_ble_eq_true rfl⟩) ⟨fun a U g mk q => by obtain ⟨q0, q1, qP, qK, qD, qN⟩ := q; exact ⟨q0, q1, qP, va_K.moved (u := U) (U := U.calling g mk a) (Vm.Alike.refl U.vm) qK, qD, nwAll_same (u := U) (U := U.calling g mk a) rfl qN⟩, va_recv hKc hPc (ci := 10) (q0 := 0) rfl rfl, fun U hU hW => ⟨rfl, by rw [hU], by rw [hU]; exact hPc, va_K.moved hW.alike hKc, hDc.weaken (fun _ _ _ _ => trivial), nwAll_warm hW hN⟩⟩ rfl rfl hl.1 rfl (lv_room (Nat.le_of_ble_eq_true rfl)) dX4_moved_6 ⟨Nat.le_of_ble_eq_true rfl, Nat.le_of_ble_eq_true rfl⟩) hS (fun q _ h => hFc q h) hFc (fun r52248 z52249 t H1 locs ht hvm hw hB hz1 hk1 hS => ?_)
  obtain ⟨rfl, h52253⟩ := hw
  obtain ⟨z52250, h52251, h52252, hP1, hK1, hD1⟩ := hB
  rw [ht] at hP1
  obtain ⟨hP, hD⟩ := va_join (wr := (wk_72 a_t a_tp q_t_kinds q_t_code t_size q_t_open t_depth q_t_code k_t_code g_t_code)) (w1 := (wk_0 a_tp q_tp_bytes tp_length z52250 tp_tokenAt tp_tokenEnd tp_own tp_name tp_number tp_fault tp_place q_tp_bytes k_tp_bytes g_tp_bytes)) hP hD [1, 2] [0, 3] rfl rfl (by decide) (by decide) hk1 hFc hP1 hD1
  generalize H1 = H at hP hS ⊢
  have hP : va_P (dC, dI) vwCl (wk_73 a_t a_tp q_t_kinds q_t_code t_size q_t_open t_depth a_tp q_tp_bytes tp_length z52250 tp_tokenAt tp_tokenEnd tp_own tp_name tp_number tp_fault tp_place q_tp_bytes k_tp_bytes g_tp_bytes q_t_code k_t_code g_t_code) H := hP.sub (ws' := (wk_73 a_t a_tp q_t_kinds q_t_code t_size q_t_open t_depth a_tp q_tp_bytes tp_length z52250 tp_tokenAt tp_tokenEnd tp_own tp_name tp_number tp_fault tp_place q_tp_bytes k_tp_bytes g_tp_bytes q_t_code k_t_code g_t_code)) [0, 2, 3, 1] rfl
  have hD : va_D A (wk_73 a_t a_tp q_t_kinds q_t_code t_size q_t_open t_depth a_tp q_tp_bytes tp_length z52250 tp_tokenAt tp_tokenEnd tp_own tp_name tp_number tp_fault tp_place q_tp_bytes k_tp_bytes g_tp_bytes q_t_code k_t_code g_t_code) := hD.sub (ws' := (wk_73 a_t a_tp q_t_kinds q_t_code t_size q_t_open t_depth a_tp q_tp_bytes tp_length z52250 tp_tokenAt tp_tokenEnd tp_own tp_name tp_number tp_fault tp_place q_tp_bytes k_tp_bytes g_tp_bytes q_t_code k_t_code g_t_code)) [0, 2, 3, 1] (by decide) rfl
  refine lv_istore_n (lv' := [(1, .int (iZ z52249)), (0, .ref a_t)]) hx hb dX4_moved_9 rfl hl (by decide) rfl (fun ls hl => ?_)
  refine lv_iload_n hx hb dX4_moved_10 rfl (lv_at hl 0 rfl) ?_
  refine zv_if_ne (tgt := 30) hx hb dX4_moved_11 (by decide) (by omega) (fun c52254 => ?_) (fun c52254 => ?_)
  · refine lv_iconst (v := iZ 0) hx hb dX4_moved_30 (by decide) ?_
    refine lv_istore_n (lv' := [(2, .int (iZ 0)), (1, .int (iZ z52249)), (0, .ref a_t)]) hx hb dX4_moved_31 rfl hl (by decide) rfl (fun ls hl => ?_)
    refine lv_iload_n hx hb dX4_moved_32 rfl (lv_at hl 1 rfl) ?_
    refine zv_if_ne (tgt := 52) hx hb dX4_moved_33 (by decide) (by omega) (fun c52255 => ?_) (fun c52255 => (by omega : False).elim)
    refine lv_aload_n hx hb dX4_moved_52 rfl (lv_at hl 2 rfl) ?_
    refine va_get (D := (dC, dI)) (ci := 4) (v := .ref a_tp) (C := RX4) (T := TX4) (N := 6) hx hb hts i_X4 hown hK hP 0 rfl rfl 0 (by decide) (hts _ q_1285) (fun _ h9 => h9) rfl dX4_moved_53 ?_
    refine lv_iconst (v := iZ 0) hx hb dX4_moved_56 (by decide) ?_
    refine lv_sipush (v := iZ 999) hx hb dX4_moved_57 (by decide) ?_
    have hPc := hP.sub (ws' := (wk_0 a_tp q_tp_bytes tp_length z52250 tp_tokenAt tp_tokenEnd tp_own tp_name tp_number tp_fault tp_place q_tp_bytes k_tp_bytes g_tp_bytes)) [1, 2] rfl
    have hDc := hD.sub (ws' := (wk_0 a_tp q_tp_bytes tp_length z52250 tp_tokenAt tp_tokenEnd tp_own tp_name tp_number tp_fault tp_place q_tp_bytes k_tp_bytes g_tp_bytes)) [1, 2] (by decide) rfl
    have hKc := hK.sub (tys' := [(k_tp_bytes, .int)]) [1] rfl
    have hFc := va_free (wc := (wk_0 a_tp q_tp_bytes tp_length z52250 tp_tokenAt tp_tokenEnd tp_own tp_name tp_number tp_fault tp_place q_tp_bytes k_tp_bytes g_tp_bytes)) hD hS hA [1, 2] rfl
    refine va_calli (va_runV (As := [.int (iZ 0), .int (iZ 999)]) (rest := []) ⟨hx, hb, hml, hown, hts⟩ (z_X10_takesNumber_x l dC dI a_tp 0 999 q_tp_bytes tp_length z52250 tp_tokenAt tp_tokenEnd tp_own tp_name tp_number tp_fault tp_place k_tp_bytes g_tp_bytes H.size hb_g_tp_bytes (by omega) (by omega) (by omega) (by omega) (by omega) (by omega) (by omega) (by omega) (by omega) (by omega)) (cwV 2 hts (gV q_1296 q_1166 q_1167 q_136 q_146) rfl rfl rfl mdv_yX10_takesNumber ⟨Nat.le_of_ble_eq_true rfl, Nat.le_of_ble_eq_true rfl⟩) ⟨fun a U g mk q => by obtain ⟨q0, q1, qP, qK, qD, qN⟩ := q; exact ⟨q0, q1, qP, va_K.moved (u := U) (U := U.calling g mk a) (Vm.Alike.refl U.vm) qK, qD, nwAll_same (u := U) (U := U.calling g mk a) rfl qN⟩, va_recv hKc hPc (ci := 10) (q0 := 0) rfl rfl, fun U hU hW => ⟨rfl, by rw [hU], by rw [hU]; exact hPc, va_K.moved hW.alike hKc, hDc.weaken (fun _ _ _ _ => trivial), nwAll_warm hW hN⟩⟩ rfl rfl hl.1 rfl (lv_room (Nat.le_of_ble_eq_true rfl)) dX4_moved_60 ⟨Nat.le_of_ble_eq_true rfl, Nat.le_of_ble_eq_true rfl⟩) hS (fun q _ h => hFc q h) hFc (fun r52256 z52257 t H1 locs ht hvm hw hB hz1 hk1 hS => ?_)
    obtain ⟨rfl, h52271⟩ := hw
    obtain ⟨z52258, z52259, z52260, z52261, z52262, z52263, h52264, h52265, h52266, h52267, h52268, h52269, h52270, hP1, hK1, hD1⟩ := hB
    rw [ht] at hP1
    obtain ⟨hP, hD⟩ := va_join (wr := (wk_72 a_t a_tp q_t_kinds q_t_code t_size q_t_open t_depth q_t_code k_t_code g_t_code)) (w1 := (wk_0 a_tp q_tp_bytes tp_length z52258 z52259 z52260 tp_own tp_name z52261 z52262 z52263 q_tp_bytes k_tp_bytes g_tp_bytes)) hP hD [1, 2] [0, 3] rfl rfl (by decide) (by decide) hk1 hFc hP1 hD1
    generalize H1 = H at hP hS ⊢
    have hP : va_P (dC, dI) vwCl (wk_73 a_t a_tp q_t_kinds q_t_code t_size q_t_open t_depth a_tp q_tp_bytes tp_length z52258 z52259 z52260 tp_own tp_name z52261 z52262 z52263 q_tp_bytes k_tp_bytes g_tp_bytes q_t_code k_t_code g_t_code) H := hP.sub (ws' := (wk_73 a_t a_tp q_t_kinds q_t_code t_size q_t_open t_depth a_tp q_tp_bytes tp_length z52258 z52259 z52260 tp_own tp_name z52261 z52262 z52263 q_tp_bytes k_tp_bytes g_tp_bytes q_t_code k_t_code g_t_code)) [0, 2, 3, 1] rfl
    have hD : va_D A (wk_73 a_t a_tp q_t_kinds q_t_code t_size q_t_open t_depth a_tp q_tp_bytes tp_length z52258 z52259 z52260 tp_own tp_name z52261 z52262 z52263 q_tp_bytes k_tp_bytes g_tp_bytes q_t_code k_t_code g_t_code) := hD.sub (ws' := (wk_73 a_t a_tp q_t_kinds q_t_code t_size q_t_open t_depth a_tp q_tp_bytes tp_length z52258 z52259 z52260 tp_own tp_name z52261 z52262 z52263 q_tp_bytes k_tp_bytes g_tp_bytes q_t_code k_t_code g_t_code)) [0, 2, 3, 1] (by decide) rfl
    refine lv_istore_n (lv' := [(3, .int (iZ z52257)), (2, .int (iZ 0)), (1, .int (iZ z52249)), (0, .ref a_t)]) hx hb dX4_moved_63 rfl hl (by decide) rfl (fun ls hl => ?_)
    refine lv_aload_n hx hb dX4_moved_64 rfl (lv_at hl 3 rfl) ?_
    refine lv_iconst (v := iZ 1) hx hb dX4_moved_65 (by decide) ?_
    have hPc := hP.sub (ws' := (wk_72 a_t a_tp q_t_kinds q_t_code t_size q_t_open t_depth q_t_code k_t_code g_t_code)) [0, 3] rfl
    have hDc := hD.sub (ws' := (wk_72 a_t a_tp q_t_kinds q_t_code t_size q_t_open t_depth q_t_code k_t_code g_t_code)) [0, 3] (by decide) rfl
    have hKc := hK.sub (tys' := [(k_t_code, .int)]) [0] rfl
    have hFc := va_free (wc := (wk_72 a_t a_tp q_t_kinds q_t_code t_size q_t_open t_depth q_t_code k_t_code g_t_code)) hD hS hA [0, 3] rfl
    refine va_callv (va_runV (As := [.int (iZ 1)]) (rest := []) ⟨hx, hb, hml, hown, hts⟩ (z_X4_emit l dC dI a_t 1 a_tp q_t_kinds q_t_code t_size q_t_open t_depth k_t_code g_t_code H.size hb_g_t_code (by omega) (by omega) (by omega) (by omega)) (cwV 1 hts (gV q_1279 q_1280 q_1281 q_372 q_1282) rfl rfl rfl mdv_yX4_emit ⟨Nat.le_of_ble_eq_true rfl, Nat.le_of_ble_eq_true rfl⟩) ⟨fun a U g mk q => by obtain ⟨q0, q1, qP, qK, qD, qN⟩ := q; exact ⟨q0, q1, qP, va_K.moved (u := U) (U := U.calling g mk a) (Vm.Alike.refl U.vm) qK, qD, nwAll_same (u := U) (U := U.calling g mk a) rfl qN⟩, va_recv hKc hPc (ci := 4) (q0 := 0) rfl rfl, fun U hU hW => ⟨rfl, by rw [hU], by rw [hU]; exact hPc, va_K.moved hW.alike hKc, hDc.weaken (fun _ _ _ _ => trivial), nwAll_warm hW hN⟩⟩ rfl rfl hl.1 rfl (lv_room (Nat.le_of_ble_eq_true rfl)) dX4_moved_66 ⟨Nat.le_of_ble_eq_true rfl, Nat.le_of_ble_eq_true rfl⟩) hS (fun q _ h => hFc q h) hFc (fun u t H1 locs ht hvm hw hB hz1 hk1 hS => ?_)
    obtain ⟨hb_52274, hP1, hK1, hD1⟩ := hB
    rw [ht] at hP1
    obtain ⟨hP, hD⟩ := va_join (wr := (wk_0 a_tp q_tp_bytes tp_length z52258 z52259 z52260 tp_own tp_name z52261 z52262 z52263 q_tp_bytes k_tp_bytes g_tp_bytes)) (w1 := (wk_72 a_t a_tp q_t_kinds q_t_code (t_size + 1) q_t_open t_depth q_t_code k_t_code (updI g_t_code (t_size).toNat 1))) hP hD [0, 3] [1, 2] rfl rfl (by decide) (by decide) hk1 hFc hP1 hD1
    generalize H1 = H at hP hS ⊢
    have hP : va_P (dC, dI) vwCl (wk_73 a_t a_tp q_t_kinds q_t_code (t_size + 1) q_t_open t_depth a_tp q_tp_bytes tp_length z52258 z52259 z52260 tp_own tp_name z52261 z52262 z52263 q_tp_bytes k_tp_bytes g_tp_bytes q_t_code k_t_code (updI g_t_code (t_size).toNat 1)) H := hP.sub (ws' := (wk_73 a_t a_tp q_t_kinds q_t_code (t_size + 1) q_t_open t_depth a_tp q_tp_bytes tp_length z52258 z52259 z52260 tp_own tp_name z52261 z52262 z52263 q_tp_bytes k_tp_bytes g_tp_bytes q_t_code k_t_code (updI g_t_code (t_size).toNat 1))) [2, 0, 1, 3] rfl
    have hD : va_D A (wk_73 a_t a_tp q_t_kinds q_t_code (t_size + 1) q_t_open t_depth a_tp q_tp_bytes tp_length z52258 z52259 z52260 tp_own tp_name z52261 z52262 z52263 q_tp_bytes k_tp_bytes g_tp_bytes q_t_code k_t_code (updI g_t_code (t_size).toNat 1)) := hD.sub (ws' := (wk_73 a_t a_tp q_t_kinds q_t_code (t_size + 1) q_t_open t_depth a_tp q_tp_bytes tp_length z52258 z52259 z52260 tp_own tp_name z52261 z52262 z52263 q_tp_bytes k_tp_bytes g_tp_bytes q_t_code k_t_code (updI g_t_code (t_size).toNat 1))) [2, 0, 1, 3] (by decide) rfl
    refine lv_aload_n hx hb dX4_moved_69 rfl (lv_at hl 3 rfl) ?_
    refine lv_iload_n hx hb dX4_moved_70 rfl (lv_at hl 2 rfl) ?_
    refine zv_if_eq (tgt := 84) hx hb dX4_moved_71 (by decide) (by omega) (fun c52275 => (by omega : False).elim) (fun c52275 => ?_)
    refine lv_aload_n hx hb dX4_moved_74 rfl (lv_at hl 3 rfl) ?_
    refine va_get (D := (dC, dI)) (ci := 4) (v := .ref a_tp) (C := RX4) (T := TX4) (N := 6) hx hb hts i_X4 hown hK hP 0 rfl rfl 0 (by decide) (hts _ q_1285) (fun _ h9 => h9) rfl dX4_moved_75 ?_
    refine va_get (D := (dC, dI)) (ci := 10) (v := .int (iZ z52261)) (C := RX10) (T := TX10) (N := 10) hx hb hts i_X10 hown hK hP 1 rfl rfl 7 (by decide) (hts _ q_1297) (fun _ h9 => h9) rfl dX4_moved_78 ?_
    refine lv_goto (tgt := 92) hx hb dX4_moved_81 (by decide) ?_
    have hPc := hP.sub (ws' := (wk_72 a_t a_tp q_t_kinds q_t_code (t_size + 1) q_t_open t_depth q_t_code k_t_code (updI g_t_code (t_size).toNat 1))) [0, 3] rfl
    have hDc := hD.sub (ws' := (wk_72 a_t a_tp q_t_kinds q_t_code (t_size + 1) q_t_open t_depth q_t_code k_t_code (updI g_t_code (t_size).toNat 1))) [0, 3] (by decide) rfl
    have hKc := hK.sub (tys' := [(k_t_code, .int)]) [0] rfl
    have hFc := va_free (wc := (wk_72 a_t a_tp q_t_kinds q_t_code (t_size + 1) q_t_open t_depth q_t_code k_t_code (updI g_t_code (t_size).toNat 1))) hD hS hA [0, 3] rfl
    refine va_callv (va_runV (As := [.int (iZ z52261)]) (rest := []) ⟨hx, hb, hml, hown, hts⟩ (z_X4_emit l dC dI a_t z52261 a_tp q_t_kinds q_t_code (t_size + 1) q_t_open t_depth k_t_code (updI g_t_code (t_size).toNat 1) H.size hb_52274 (by omega) (by omega) (by omega) (by omega)) (cwV 1 hts (gV q_1279 q_1280 q_1281 q_372 q_1282) rfl rfl rfl mdv_yX4_emit ⟨Nat.le_of_ble_eq_true rfl, Nat.le_of_ble_eq_true rfl⟩) ⟨fun a U g mk q => by obtain ⟨q0, q1, qP, qK, qD, qN⟩ := q; exact ⟨q0, q1, qP, va_K.moved (u := U) (U := U.calling g mk a) (Vm.Alike.refl U.vm) qK, qD, nwAll_same (u := U) (U := U.calling g mk a) rfl qN⟩, va_recv hKc hPc (ci := 4) (q0 := 0) rfl rfl, fun U hU hW => ⟨rfl, by rw [hU], by rw [hU]; exact hPc, va_K.moved hW.alike hKc, hDc.weaken (fun _ _ _ _ => trivial), nwAll_warm hW hN⟩⟩ rfl rfl hl.1 rfl (lv_room (Nat.le_of_ble_eq_true rfl)) dX4_moved_92 ⟨Nat.le_of_ble_eq_true rfl, Nat.le_of_ble_eq_true rfl⟩) hS (fun q _ h => hFc q h) hFc (fun u t H1 locs ht hvm hw hB hz1 hk1 hS => ?_)
    obtain ⟨hb_52278, hP1, hK1, hD1⟩ := hB
    rw [ht] at hP1
    rw [(by omega : ((t_size + 1) + 1 : Int) = (t_size + 2))] at hP1 hD1
    obtain ⟨hP, hD⟩ := va_join (wr := (wk_0 a_tp q_tp_bytes tp_length z52258 z52259 z52260 tp_own tp_name z52261 z52262 z52263 q_tp_bytes k_tp_bytes g_tp_bytes)) (w1 := (wk_72 a_t a_tp q_t_kinds q_t_code (t_size + 2) q_t_open t_depth q_t_code k_t_code (updI (updI g_t_code (t_size).toNat 1) ((t_size + 1)).toNat z52261))) hP hD [0, 3] [1, 2] rfl rfl (by decide) (by decide) hk1 hFc hP1 hD1
    generalize H1 = H at hP hS ⊢
    have hP : va_P (dC, dI) vwCl (wk_73 a_t a_tp q_t_kinds q_t_code (t_size + 2) q_t_open t_depth a_tp q_tp_bytes tp_length z52258 z52259 z52260 tp_own tp_name z52261 z52262 z52263 q_tp_bytes k_tp_bytes g_tp_bytes q_t_code k_t_code (updI (updI g_t_code (t_size).toNat 1) ((t_size + 1)).toNat z52261)) H := hP.sub (ws' := (wk_73 a_t a_tp q_t_kinds q_t_code (t_size + 2) q_t_open t_depth a_tp q_tp_bytes tp_length z52258 z52259 z52260 tp_own tp_name z52261 z52262 z52263 q_tp_bytes k_tp_bytes g_tp_bytes q_t_code k_t_code (updI (updI g_t_code (t_size).toNat 1) ((t_size + 1)).toNat z52261))) [2, 0, 1, 3] rfl
    have hD : va_D A (wk_73 a_t a_tp q_t_kinds q_t_code (t_size + 2) q_t_open t_depth a_tp q_tp_bytes tp_length z52258 z52259 z52260 tp_own tp_name z52261 z52262 z52263 q_tp_bytes k_tp_bytes g_tp_bytes q_t_code k_t_code (updI (updI g_t_code (t_size).toNat 1) ((t_size + 1)).toNat z52261)) := hD.sub (ws' := (wk_73 a_t a_tp q_t_kinds q_t_code (t_size + 2) q_t_open t_depth a_tp q_tp_bytes tp_length z52258 z52259 z52260 tp_own tp_name z52261 z52262 z52263 q_tp_bytes k_tp_bytes g_tp_bytes q_t_code k_t_code (updI (updI g_t_code (t_size).toNat 1) ((t_size + 1)).toNat z52261))) [2, 0, 1, 3] (by decide) rfl
    refine lv_iload_n hx hb dX4_moved_95 rfl (lv_at hl 0 rfl) ?_
    have hG52279 : MvG g_t_code (updI (updI g_t_code (t_size).toNat 1) ((t_size + 1)).toNat z52261) t_size z52257 := MvG_mk (by omega) rfl rfl (by omega) (by omega)
    subst hQ
    exact W.zret (v := iZ z52257) hx hb hr (zb_nar (by omega)) (fun t ht hW => ⟨⟨iZ z52257, z52257, rfl, ⟨rfl, by omega⟩, z52258, z52259, z52260, z52261, z52262, z52263, (updI (updI g_t_code (t_size).toNat 1) ((t_size + 1)).toNat z52261), by omega, by omega, by omega, by omega, by omega, by omega, by omega, by omega, hb_52278, hG52279, by rw [ht]; exact hP, va_K.moved hW.alike hK, hD⟩, hS.F ht⟩) hS.2.2 dX4_moved_96
  · refine lv_aload_n hx hb dX4_moved_14 rfl (lv_at hl 1 rfl) ?_
    refine va_get (D := (dC, dI)) (ci := 4) (v := .ref a_tp) (C := RX4) (T := TX4) (N := 6) hx hb hts i_X4 hown hK hP 0 rfl rfl 0 (by decide) (hts _ q_1285) (fun _ h9 => h9) rfl dX4_moved_15 ?_
    refine lv_bipush (v := iZ 45) hx hb dX4_moved_18 (by decide) ?_
    have hPc := hP.sub (ws' := (wk_0 a_tp q_tp_bytes tp_length z52250 tp_tokenAt tp_tokenEnd tp_own tp_name tp_number tp_fault tp_place q_tp_bytes k_tp_bytes g_tp_bytes)) [1, 2] rfl
    have hDc := hD.sub (ws' := (wk_0 a_tp q_tp_bytes tp_length z52250 tp_tokenAt tp_tokenEnd tp_own tp_name tp_number tp_fault tp_place q_tp_bytes k_tp_bytes g_tp_bytes)) [1, 2] (by decide) rfl
    have hKc := hK.sub (tys' := [(k_tp_bytes, .int)]) [1] rfl
    have hFc := va_free (wc := (wk_0 a_tp q_tp_bytes tp_length z52250 tp_tokenAt tp_tokenEnd tp_own tp_name tp_number tp_fault tp_place q_tp_bytes k_tp_bytes g_tp_bytes)) hD hS hA [1, 2] rfl
    refine va_calli (va_runV (As := [.int (iZ 45)]) (rest := []) ⟨hx, hb, hml, hown, hts⟩ (z_X10_takesSign_x l dC dI a_tp 45 q_tp_bytes tp_length z52250 tp_tokenAt tp_tokenEnd tp_own tp_name tp_number tp_fault tp_place k_tp_bytes g_tp_bytes H.size hb_g_tp_bytes (by omega) (by omega) (by omega) (by omega) (by omega) (by omega) (by omega) (by omega) (by omega)) (cwV 1 hts (gV q_1295 q_1182 q_1183 q_136 q_149) rfl rfl rfl mdv_yX10_takesSign ⟨Nat.le_of_ble_eq_true rfl, Nat.le_of_ble_eq_true rfl⟩) ⟨fun a U g mk q => by obtain ⟨q0, q1, qP, qK, qD, qN⟩ := q; exact ⟨q0, q1, qP, va_K.moved (u := U) (U := U.calling g mk a) (Vm.Alike.refl U.vm) qK, qD, nwAll_same (u := U) (U := U.calling g mk a) rfl qN⟩, va_recv hKc hPc (ci := 10) (q0 := 0) rfl rfl, fun U hU hW => ⟨rfl, by rw [hU], by rw [hU]; exact hPc, va_K.moved hW.alike hKc, hDc.weaken (fun _ _ _ _ => trivial), nwAll_warm hW hN⟩⟩ rfl rfl hl.1 rfl (lv_room (Nat.le_of_ble_eq_true rfl)) dX4_moved_20 ⟨Nat.le_of_ble_eq_true rfl, Nat.le_of_ble_eq_true rfl⟩) hS (fun q _ h => hFc q h) hFc (fun r52280 z52281 t H1 locs ht hvm hw hB hz1 hk1 hS => ?_)
    obtain ⟨rfl, h52285⟩ := hw
    obtain ⟨z52282, h52283, h52284, hP1, hK1, hD1⟩ := hB
    rw [ht] at hP1
    obtain ⟨hP, hD⟩ := va_join (wr := (wk_72 a_t a_tp q_t_kinds q_t_code t_size q_t_open t_depth q_t_code k_t_code g_t_code)) (w1 := (wk_0 a_tp q_tp_bytes tp_length z52282 tp_tokenAt tp_tokenEnd tp_own tp_name tp_number tp_fault tp_place q_tp_bytes k_tp_bytes g_tp_bytes)) hP hD [1, 2] [0, 3] rfl rfl (by decide) (by decide) hk1 hFc hP1 hD1
    generalize H1 = H at hP hS ⊢
    have hP : va_P (dC, dI) vwCl (wk_73 a_t a_tp q_t_kinds q_t_code t_size q_t_open t_depth a_tp q_tp_bytes tp_length z52282 tp_tokenAt tp_tokenEnd tp_own tp_name tp_number tp_fault tp_place q_tp_bytes k_tp_bytes g_tp_bytes q_t_code k_t_code g_t_code) H := hP.sub (ws' := (wk_73 a_t a_tp q_t_kinds q_t_code t_size q_t_open t_depth a_tp q_tp_bytes tp_length z52282 tp_tokenAt tp_tokenEnd tp_own tp_name tp_number tp_fault tp_place q_tp_bytes k_tp_bytes g_tp_bytes q_t_code k_t_code g_t_code)) [0, 2, 3, 1] rfl
    have hD : va_D A (wk_73 a_t a_tp q_t_kinds q_t_code t_size q_t_open t_depth a_tp q_tp_bytes tp_length z52282 tp_tokenAt tp_tokenEnd tp_own tp_name tp_number tp_fault tp_place q_tp_bytes k_tp_bytes g_tp_bytes q_t_code k_t_code g_t_code) := hD.sub (ws' := (wk_73 a_t a_tp q_t_kinds q_t_code t_size q_t_open t_depth a_tp q_tp_bytes tp_length z52282 tp_tokenAt tp_tokenEnd tp_own tp_name tp_number tp_fault tp_place q_tp_bytes k_tp_bytes g_tp_bytes q_t_code k_t_code g_t_code)) [0, 2, 3, 1] (by decide) rfl
    refine zv_if_eq (tgt := 30) hx hb dX4_moved_23 (by decide) (by omega) (fun c52286 => ?_) (fun c52286 => ?_)
    · refine lv_iconst (v := iZ 0) hx hb dX4_moved_30 (by decide) ?_
      refine lv_istore_n (lv' := [(2, .int (iZ 0)), (1, .int (iZ z52249)), (0, .ref a_t)]) hx hb dX4_moved_31 rfl hl (by decide) rfl (fun ls hl => ?_)
      refine lv_iload_n hx hb dX4_moved_32 rfl (lv_at hl 1 rfl) ?_
      refine zv_if_ne (tgt := 52) hx hb dX4_moved_33 (by decide) (by omega) (fun c52287 => (by omega : False).elim) (fun c52287 => ?_)
      refine lv_iload_n hx hb dX4_moved_36 rfl (lv_at hl 0 rfl) ?_
      refine zv_if_ne (tgt := 52) hx hb dX4_moved_37 (by decide) (by omega) (fun c52288 => (by omega : False).elim) (fun c52288 => ?_)
      refine lv_aload_n hx hb dX4_moved_40 rfl (lv_at hl 2 rfl) ?_
      refine lv_iconst (v := iZ 0) hx hb dX4_moved_41 (by decide) ?_
      have hPc := hP.sub (ws' := (wk_72 a_t a_tp q_t_kinds q_t_code t_size q_t_open t_depth q_t_code k_t_code g_t_code)) [0, 3] rfl
      have hDc := hD.sub (ws' := (wk_72 a_t a_tp q_t_kinds q_t_code t_size q_t_open t_depth q_t_code k_t_code g_t_code)) [0, 3] (by decide) rfl
      have hKc := hK.sub (tys' := [(k_t_code, .int)]) [0] rfl
      have hFc := va_free (wc := (wk_72 a_t a_tp q_t_kinds q_t_code t_size q_t_open t_depth q_t_code k_t_code g_t_code)) hD hS hA [0, 3] rfl
      refine va_callv (va_runV (As := [.int (iZ 0)]) (rest := []) ⟨hx, hb, hml, hown, hts⟩ (z_X4_emit l dC dI a_t 0 a_tp q_t_kinds q_t_code t_size q_t_open t_depth k_t_code g_t_code H.size hb_g_t_code (by omega) (by omega) (by omega) (by omega)) (cwV 1 hts (gV q_1279 q_1280 q_1281 q_372 q_1282) rfl rfl rfl mdv_yX4_emit ⟨Nat.le_of_ble_eq_true rfl, Nat.le_of_ble_eq_true rfl⟩) ⟨fun a U g mk q => by obtain ⟨q0, q1, qP, qK, qD, qN⟩ := q; exact ⟨q0, q1, qP, va_K.moved (u := U) (U := U.calling g mk a) (Vm.Alike.refl U.vm) qK, qD, nwAll_same (u := U) (U := U.calling g mk a) rfl qN⟩, va_recv hKc hPc (ci := 4) (q0 := 0) rfl rfl, fun U hU hW => ⟨rfl, by rw [hU], by rw [hU]; exact hPc, va_K.moved hW.alike hKc, hDc.weaken (fun _ _ _ _ => trivial), nwAll_warm hW hN⟩⟩ rfl rfl hl.1 rfl (lv_room (Nat.le_of_ble_eq_true rfl)) dX4_moved_42 ⟨Nat.le_of_ble_eq_true rfl, Nat.le_of_ble_eq_true rfl⟩) hS (fun q _ h => hFc q h) hFc (fun u t H1 locs ht hvm hw hB hz1 hk1 hS => ?_)
      obtain ⟨hb_52291, hP1, hK1, hD1⟩ := hB
      rw [ht] at hP1
      obtain ⟨hP, hD⟩ := va_join (wr := (wk_0 a_tp q_tp_bytes tp_length z52282 tp_tokenAt tp_tokenEnd tp_own tp_name tp_number tp_fault tp_place q_tp_bytes k_tp_bytes g_tp_bytes)) (w1 := (wk_72 a_t a_tp q_t_kinds q_t_code (t_size + 1) q_t_open t_depth q_t_code k_t_code (updI g_t_code (t_size).toNat 0))) hP hD [0, 3] [1, 2] rfl rfl (by decide) (by decide) hk1 hFc hP1 hD1
      generalize H1 = H at hP hS ⊢
      have hP : va_P (dC, dI) vwCl (wk_73 a_t a_tp q_t_kinds q_t_code (t_size + 1) q_t_open t_depth a_tp q_tp_bytes tp_length z52282 tp_tokenAt tp_tokenEnd tp_own tp_name tp_number tp_fault tp_place q_tp_bytes k_tp_bytes g_tp_bytes q_t_code k_t_code (updI g_t_code (t_size).toNat 0)) H := hP.sub (ws' := (wk_73 a_t a_tp q_t_kinds q_t_code (t_size + 1) q_t_open t_depth a_tp q_tp_bytes tp_length z52282 tp_tokenAt tp_tokenEnd tp_own tp_name tp_number tp_fault tp_place q_tp_bytes k_tp_bytes g_tp_bytes q_t_code k_t_code (updI g_t_code (t_size).toNat 0))) [2, 0, 1, 3] rfl
      have hD : va_D A (wk_73 a_t a_tp q_t_kinds q_t_code (t_size + 1) q_t_open t_depth a_tp q_tp_bytes tp_length z52282 tp_tokenAt tp_tokenEnd tp_own tp_name tp_number tp_fault tp_place q_tp_bytes k_tp_bytes g_tp_bytes q_t_code k_t_code (updI g_t_code (t_size).toNat 0)) := hD.sub (ws' := (wk_73 a_t a_tp q_t_kinds q_t_code (t_size + 1) q_t_open t_depth a_tp q_tp_bytes tp_length z52282 tp_tokenAt tp_tokenEnd tp_own tp_name tp_number tp_fault tp_place q_tp_bytes k_tp_bytes g_tp_bytes q_t_code k_t_code (updI g_t_code (t_size).toNat 0))) [2, 0, 1, 3] (by decide) rfl
      refine lv_aload_n hx hb dX4_moved_45 rfl (lv_at hl 2 rfl) ?_
      refine lv_iconst (v := iZ 0) hx hb dX4_moved_46 (by decide) ?_
      have hPc := hP.sub (ws' := (wk_72 a_t a_tp q_t_kinds q_t_code (t_size + 1) q_t_open t_depth q_t_code k_t_code (updI g_t_code (t_size).toNat 0))) [0, 3] rfl
      have hDc := hD.sub (ws' := (wk_72 a_t a_tp q_t_kinds q_t_code (t_size + 1) q_t_open t_depth q_t_code k_t_code (updI g_t_code (t_size).toNat 0))) [0, 3] (by decide) rfl
      have hKc := hK.sub (tys' := [(k_t_code, .int)]) [0] rfl
      have hFc := va_free (wc := (wk_72 a_t a_tp q_t_kinds q_t_code (t_size + 1) q_t_open t_depth q_t_code k_t_code (updI g_t_code (t_size).toNat 0))) hD hS hA [0, 3] rfl
      refine va_callv (va_runV (As := [.int (iZ 0)]) (rest := []) ⟨hx, hb, hml, hown, hts⟩ (z_X4_emit l dC dI a_t 0 a_tp q_t_kinds q_t_code (t_size + 1) q_t_open t_depth k_t_code (updI g_t_code (t_size).toNat 0) H.size hb_52291 (by omega) (by omega) (by omega) (by omega)) (cwV 1 hts (gV q_1279 q_1280 q_1281 q_372 q_1282) rfl rfl rfl mdv_yX4_emit ⟨Nat.le_of_ble_eq_true rfl, Nat.le_of_ble_eq_true rfl⟩) ⟨fun a U g mk q => by obtain ⟨q0, q1, qP, qK, qD, qN⟩ := q; exact ⟨q0, q1, qP, va_K.moved (u := U) (U := U.calling g mk a) (Vm.Alike.refl U.vm) qK, qD, nwAll_same (u := U) (U := U.calling g mk a) rfl qN⟩, va_recv hKc hPc (ci := 4) (q0 := 0) rfl rfl, fun U hU hW => ⟨rfl, by rw [hU], by rw [hU]; exact hPc, va_K.moved hW.alike hKc, hDc.weaken (fun _ _ _ _ => trivial), nwAll_warm hW hN⟩⟩ rfl rfl hl.1 rfl (lv_room (Nat.le_of_ble_eq_true rfl)) dX4_moved_47 ⟨Nat.le_of_ble_eq_true rfl, Nat.le_of_ble_eq_true rfl⟩) hS (fun q _ h => hFc q h) hFc (fun u t H1 locs ht hvm hw hB hz1 hk1 hS => ?_)
      obtain ⟨hb_52294, hP1, hK1, hD1⟩ := hB
      rw [ht] at hP1
      rw [(by omega : ((t_size + 1) + 1 : Int) = (t_size + 2))] at hP1 hD1
      obtain ⟨hP, hD⟩ := va_join (wr := (wk_0 a_tp q_tp_bytes tp_length z52282 tp_tokenAt tp_tokenEnd tp_own tp_name tp_number tp_fault tp_place q_tp_bytes k_tp_bytes g_tp_bytes)) (w1 := (wk_72 a_t a_tp q_t_kinds q_t_code (t_size + 2) q_t_open t_depth q_t_code k_t_code (updI (updI g_t_code (t_size).toNat 0) ((t_size + 1)).toNat 0))) hP hD [0, 3] [1, 2] rfl rfl (by decide) (by decide) hk1 hFc hP1 hD1
      generalize H1 = H at hP hS ⊢
      have hP : va_P (dC, dI) vwCl (wk_73 a_t a_tp q_t_kinds q_t_code (t_size + 2) q_t_open t_depth a_tp q_tp_bytes tp_length z52282 tp_tokenAt tp_tokenEnd tp_own tp_name tp_number tp_fault tp_place q_tp_bytes k_tp_bytes g_tp_bytes q_t_code k_t_code (updI (updI g_t_code (t_size).toNat 0) ((t_size + 1)).toNat 0)) H := hP.sub (ws' := (wk_73 a_t a_tp q_t_kinds q_t_code (t_size + 2) q_t_open t_depth a_tp q_tp_bytes tp_length z52282 tp_tokenAt tp_tokenEnd tp_own tp_name tp_number tp_fault tp_place q_tp_bytes k_tp_bytes g_tp_bytes q_t_code k_t_code (updI (updI g_t_code (t_size).toNat 0) ((t_size + 1)).toNat 0))) [2, 0, 1, 3] rfl
      have hD : va_D A (wk_73 a_t a_tp q_t_kinds q_t_code (t_size + 2) q_t_open t_depth a_tp q_tp_bytes tp_length z52282 tp_tokenAt tp_tokenEnd tp_own tp_name tp_number tp_fault tp_place q_tp_bytes k_tp_bytes g_tp_bytes q_t_code k_t_code (updI (updI g_t_code (t_size).toNat 0) ((t_size + 1)).toNat 0)) := hD.sub (ws' := (wk_73 a_t a_tp q_t_kinds q_t_code (t_size + 2) q_t_open t_depth a_tp q_tp_bytes tp_length z52282 tp_tokenAt tp_tokenEnd tp_own tp_name tp_number tp_fault tp_place q_tp_bytes k_tp_bytes g_tp_bytes q_t_code k_t_code (updI (updI g_t_code (t_size).toNat 0) ((t_size + 1)).toNat 0))) [2, 0, 1, 3] (by decide) rfl
      refine lv_iconst (v := iZ 1) hx hb dX4_moved_50 (by decide) ?_
      have hG52295 : MvG g_t_code (updI (updI g_t_code (t_size).toNat 0) ((t_size + 1)).toNat 0) t_size 1 := MvG_mk (by omega) rfl rfl (by omega) (by omega)
      subst hQ
      exact W.zret (v := iZ 1) hx hb hr rfl (fun t ht hW => ⟨⟨iZ 1, 1, rfl, ⟨rfl, by omega⟩, z52282, tp_tokenAt, tp_tokenEnd, tp_number, tp_fault, tp_place, (updI (updI g_t_code (t_size).toNat 0) ((t_size + 1)).toNat 0), by omega, by omega, by omega, by omega, by omega, by omega, by omega, by omega, hb_52294, hG52295, by rw [ht]; exact hP, va_K.moved hW.alike hK, hD⟩, hS.F ht⟩) hS.2.2 dX4_moved_51
    · refine lv_iconst (v := iZ 1) hx hb dX4_moved_26 (by decide) ?_
      refine lv_goto (tgt := 31) hx hb dX4_moved_27 (by decide) ?_
      refine lv_istore_n (lv' := [(2, .int (iZ 1)), (1, .int (iZ z52249)), (0, .ref a_t)]) hx hb dX4_moved_31 rfl hl (by decide) rfl (fun ls hl => ?_)
      refine lv_iload_n hx hb dX4_moved_32 rfl (lv_at hl 1 rfl) ?_
      refine zv_if_ne (tgt := 52) hx hb dX4_moved_33 (by decide) (by omega) (fun c52296 => (by omega : False).elim) (fun c52296 => ?_)
      refine lv_iload_n hx hb dX4_moved_36 rfl (lv_at hl 0 rfl) ?_
      refine zv_if_ne (tgt := 52) hx hb dX4_moved_37 (by decide) (by omega) (fun c52297 => ?_) (fun c52297 => (by omega : False).elim)
      refine lv_aload_n hx hb dX4_moved_52 rfl (lv_at hl 2 rfl) ?_
      refine va_get (D := (dC, dI)) (ci := 4) (v := .ref a_tp) (C := RX4) (T := TX4) (N := 6) hx hb hts i_X4 hown hK hP 0 rfl rfl 0 (by decide) (hts _ q_1285) (fun _ h9 => h9) rfl dX4_moved_53 ?_
      refine lv_iconst (v := iZ 0) hx hb dX4_moved_56 (by decide) ?_
      refine lv_sipush (v := iZ 999) hx hb dX4_moved_57 (by decide) ?_
      have hPc := hP.sub (ws' := (wk_0 a_tp q_tp_bytes tp_length z52282 tp_tokenAt tp_tokenEnd tp_own tp_name tp_number tp_fault tp_place q_tp_bytes k_tp_bytes g_tp_bytes)) [1, 2] rfl
      have hDc := hD.sub (ws' := (wk_0 a_tp q_tp_bytes tp_length z52282 tp_tokenAt tp_tokenEnd tp_own tp_name tp_number tp_fault tp_place q_tp_bytes k_tp_bytes g_tp_bytes)) [1, 2] (by decide) rfl
      have hKc := hK.sub (tys' := [(k_tp_bytes, .int)]) [1] rfl
      have hFc := va_free (wc := (wk_0 a_tp q_tp_bytes tp_length z52282 tp_tokenAt tp_tokenEnd tp_own tp_name tp_number tp_fault tp_place q_tp_bytes k_tp_bytes g_tp_bytes)) hD hS hA [1, 2] rfl
      refine va_calli (va_runV (As := [.int (iZ 0), .int (iZ 999)]) (rest := []) ⟨hx, hb, hml, hown, hts⟩ (z_X10_takesNumber_x l dC dI a_tp 0 999 q_tp_bytes tp_length z52282 tp_tokenAt tp_tokenEnd tp_own tp_name tp_number tp_fault tp_place k_tp_bytes g_tp_bytes H.size hb_g_tp_bytes (by omega) (by omega) (by omega) (by omega) (by omega) (by omega) (by omega) (by omega) (by omega) (by omega)) (cwV 2 hts (gV q_1296 q_1166 q_1167 q_136 q_146) rfl rfl rfl mdv_yX10_takesNumber ⟨Nat.le_of_ble_eq_true rfl, Nat.le_of_ble_eq_true rfl⟩) ⟨fun a U g mk q => by obtain ⟨q0, q1, qP, qK, qD, qN⟩ := q; exact ⟨q0, q1, qP, va_K.moved (u := U) (U := U.calling g mk a) (Vm.Alike.refl U.vm) qK, qD, nwAll_same (u := U) (U := U.calling g mk a) rfl qN⟩, va_recv hKc hPc (ci := 10) (q0 := 0) rfl rfl, fun U hU hW => ⟨rfl, by rw [hU], by rw [hU]; exact hPc, va_K.moved hW.alike hKc, hDc.weaken (fun _ _ _ _ => trivial), nwAll_warm hW hN⟩⟩ rfl rfl hl.1 rfl (lv_room (Nat.le_of_ble_eq_true rfl)) dX4_moved_60 ⟨Nat.le_of_ble_eq_true rfl, Nat.le_of_ble_eq_true rfl⟩) hS (fun q _ h => hFc q h) hFc (fun r52298 z52299 t H1 locs ht hvm hw hB hz1 hk1 hS => ?_)
      obtain ⟨rfl, h52313⟩ := hw
      obtain ⟨z52300, z52301, z52302, z52303, z52304, z52305, h52306, h52307, h52308, h52309, h52310, h52311, h52312, hP1, hK1, hD1⟩ := hB
      rw [ht] at hP1
      obtain ⟨hP, hD⟩ := va_join (wr := (wk_72 a_t a_tp q_t_kinds q_t_code t_size q_t_open t_depth q_t_code k_t_code g_t_code)) (w1 := (wk_0 a_tp q_tp_bytes tp_length z52300 z52301 z52302 tp_own tp_name z52303 z52304 z52305 q_tp_bytes k_tp_bytes g_tp_bytes)) hP hD [1, 2] [0, 3] rfl rfl (by decide) (by decide) hk1 hFc hP1 hD1
      generalize H1 = H at hP hS ⊢
      have hP : va_P (dC, dI) vwCl (wk_73 a_t a_tp q_t_kinds q_t_code t_size q_t_open t_depth a_tp q_tp_bytes tp_length z52300 z52301 z52302 tp_own tp_name z52303 z52304 z52305 q_tp_bytes k_tp_bytes g_tp_bytes q_t_code k_t_code g_t_code) H := hP.sub (ws' := (wk_73 a_t a_tp q_t_kinds q_t_code t_size q_t_open t_depth a_tp q_tp_bytes tp_length z52300 z52301 z52302 tp_own tp_name z52303 z52304 z52305 q_tp_bytes k_tp_bytes g_tp_bytes q_t_code k_t_code g_t_code)) [0, 2, 3, 1] rfl
      have hD : va_D A (wk_73 a_t a_tp q_t_kinds q_t_code t_size q_t_open t_depth a_tp q_tp_bytes tp_length z52300 z52301 z52302 tp_own tp_name z52303 z52304 z52305 q_tp_bytes k_tp_bytes g_tp_bytes q_t_code k_t_code g_t_code) := hD.sub (ws' := (wk_73 a_t a_tp q_t_kinds q_t_code t_size q_t_open t_depth a_tp q_tp_bytes tp_length z52300 z52301 z52302 tp_own tp_name z52303 z52304 z52305 q_tp_bytes k_tp_bytes g_tp_bytes q_t_code k_t_code g_t_code)) [0, 2, 3, 1] (by decide) rfl
      refine lv_istore_n (lv' := [(3, .int (iZ z52299)), (2, .int (iZ 1)), (1, .int (iZ z52249)), (0, .ref a_t)]) hx hb dX4_moved_63 rfl hl (by decide) rfl (fun ls hl => ?_)
      refine lv_aload_n hx hb dX4_moved_64 rfl (lv_at hl 3 rfl) ?_
      refine lv_iconst (v := iZ 1) hx hb dX4_moved_65 (by decide) ?_
      have hPc := hP.sub (ws' := (wk_72 a_t a_tp q_t_kinds q_t_code t_size q_t_open t_depth q_t_code k_t_code g_t_code)) [0, 3] rfl
      have hDc := hD.sub (ws' := (wk_72 a_t a_tp q_t_kinds q_t_code t_size q_t_open t_depth q_t_code k_t_code g_t_code)) [0, 3] (by decide) rfl
      have hKc := hK.sub (tys' := [(k_t_code, .int)]) [0] rfl
      have hFc := va_free (wc := (wk_72 a_t a_tp q_t_kinds q_t_code t_size q_t_open t_depth q_t_code k_t_code g_t_code)) hD hS hA [0, 3] rfl
      refine va_callv (va_runV (As := [.int (iZ 1)]) (rest := []) ⟨hx, hb, hml, hown, hts⟩ (z_X4_emit l dC dI a_t 1 a_tp q_t_kinds q_t_code t_size q_t_open t_depth k_t_code g_t_code H.size hb_g_t_code (by omega) (by omega) (by omega) (by omega)) (cwV 1 hts (gV q_1279 q_1280 q_1281 q_372 q_1282) rfl rfl rfl mdv_yX4_emit ⟨Nat.le_of_ble_eq_true rfl, Nat.le_of_ble_eq_true rfl⟩) ⟨fun a U g mk q => by obtain ⟨q0, q1, qP, qK, qD, qN⟩ := q; exact ⟨q0, q1, qP, va_K.moved (u := U) (U := U.calling g mk a) (Vm.Alike.refl U.vm) qK, qD, nwAll_same (u := U) (U := U.calling g mk a) rfl qN⟩, va_recv hKc hPc (ci := 4) (q0 := 0) rfl rfl, fun U hU hW => ⟨rfl, by rw [hU], by rw [hU]; exact hPc, va_K.moved hW.alike hKc, hDc.weaken (fun _ _ _ _ => trivial), nwAll_warm hW hN⟩⟩ rfl rfl hl.1 rfl (lv_room (Nat.le_of_ble_eq_true rfl)) dX4_moved_66 ⟨Nat.le_of_ble_eq_true rfl, Nat.le_of_ble_eq_true rfl⟩) hS (fun q _ h => hFc q h) hFc (fun u t H1 locs ht hvm hw hB hz1 hk1 hS => ?_)
      obtain ⟨hb_52316, hP1, hK1, hD1⟩ := hB
      rw [ht] at hP1
      obtain ⟨hP, hD⟩ := va_join (wr := (wk_0 a_tp q_tp_bytes tp_length z52300 z52301 z52302 tp_own tp_name z52303 z52304 z52305 q_tp_bytes k_tp_bytes g_tp_bytes)) (w1 := (wk_72 a_t a_tp q_t_kinds q_t_code (t_size + 1) q_t_open t_depth q_t_code k_t_code (updI g_t_code (t_size).toNat 1))) hP hD [0, 3] [1, 2] rfl rfl (by decide) (by decide) hk1 hFc hP1 hD1
      generalize H1 = H at hP hS ⊢
      have hP : va_P (dC, dI) vwCl (wk_73 a_t a_tp q_t_kinds q_t_code (t_size + 1) q_t_open t_depth a_tp q_tp_bytes tp_length z52300 z52301 z52302 tp_own tp_name z52303 z52304 z52305 q_tp_bytes k_tp_bytes g_tp_bytes q_t_code k_t_code (updI g_t_code (t_size).toNat 1)) H := hP.sub (ws' := (wk_73 a_t a_tp q_t_kinds q_t_code (t_size + 1) q_t_open t_depth a_tp q_tp_bytes tp_length z52300 z52301 z52302 tp_own tp_name z52303 z52304 z52305 q_tp_bytes k_tp_bytes g_tp_bytes q_t_code k_t_code (updI g_t_code (t_size).toNat 1))) [2, 0, 1, 3] rfl
      have hD : va_D A (wk_73 a_t a_tp q_t_kinds q_t_code (t_size + 1) q_t_open t_depth a_tp q_tp_bytes tp_length z52300 z52301 z52302 tp_own tp_name z52303 z52304 z52305 q_tp_bytes k_tp_bytes g_tp_bytes q_t_code k_t_code (updI g_t_code (t_size).toNat 1)) := hD.sub (ws' := (wk_73 a_t a_tp q_t_kinds q_t_code (t_size + 1) q_t_open t_depth a_tp q_tp_bytes tp_length z52300 z52301 z52302 tp_own tp_name z52303 z52304 z52305 q_tp_bytes k_tp_bytes g_tp_bytes q_t_code k_t_code (updI g_t_code (t_size).toNat 1))) [2, 0, 1, 3] (by decide) rfl
      refine lv_aload_n hx hb dX4_moved_69 rfl (lv_at hl 3 rfl) ?_
      refine lv_iload_n hx hb dX4_moved_70 rfl (lv_at hl 2 rfl) ?_
      refine zv_if_eq (tgt := 84) hx hb dX4_moved_71 (by decide) (by omega) (fun c52317 => ?_) (fun c52317 => (by omega : False).elim)
      refine lv_aload_n hx hb dX4_moved_84 rfl (lv_at hl 3 rfl) ?_
      refine va_get (D := (dC, dI)) (ci := 4) (v := .ref a_tp) (C := RX4) (T := TX4) (N := 6) hx hb hts i_X4 hown hK hP 0 rfl rfl 0 (by decide) (hts _ q_1285) (fun _ h9 => h9) rfl dX4_moved_85 ?_
      refine va_get (D := (dC, dI)) (ci := 10) (v := .int (iZ z52303)) (C := RX10) (T := TX10) (N := 10) hx hb hts i_X10 hown hK hP 1 rfl rfl 7 (by decide) (hts _ q_1297) (fun _ h9 => h9) rfl dX4_moved_88 ?_
      refine zv_ineg hx hb (-z52303) (by omega) dX4_moved_91 ?_
      have hPc := hP.sub (ws' := (wk_72 a_t a_tp q_t_kinds q_t_code (t_size + 1) q_t_open t_depth q_t_code k_t_code (updI g_t_code (t_size).toNat 1))) [0, 3] rfl
      have hDc := hD.sub (ws' := (wk_72 a_t a_tp q_t_kinds q_t_code (t_size + 1) q_t_open t_depth q_t_code k_t_code (updI g_t_code (t_size).toNat 1))) [0, 3] (by decide) rfl
      have hKc := hK.sub (tys' := [(k_t_code, .int)]) [0] rfl
      have hFc := va_free (wc := (wk_72 a_t a_tp q_t_kinds q_t_code (t_size + 1) q_t_open t_depth q_t_code k_t_code (updI g_t_code (t_size).toNat 1))) hD hS hA [0, 3] rfl
      refine va_callv (va_runV (As := [.int (iZ (-z52303))]) (rest := []) ⟨hx, hb, hml, hown, hts⟩ (z_X4_emit l dC dI a_t (-z52303) a_tp q_t_kinds q_t_code (t_size + 1) q_t_open t_depth k_t_code (updI g_t_code (t_size).toNat 1) H.size hb_52316 (by omega) (by omega) (by omega) (by omega)) (cwV 1 hts (gV q_1279 q_1280 q_1281 q_372 q_1282) rfl rfl rfl mdv_yX4_emit ⟨Nat.le_of_ble_eq_true rfl, Nat.le_of_ble_eq_true rfl⟩) ⟨fun a U g mk q => by obtain ⟨q0, q1, qP, qK, qD, qN⟩ := q; exact ⟨q0, q1, qP, va_K.moved (u := U) (U := U.calling g mk a) (Vm.Alike.refl U.vm) qK, qD, nwAll_same (u := U) (U := U.calling g mk a) rfl qN⟩, va_recv hKc hPc (ci := 4) (q0 := 0) rfl rfl, fun U hU hW => ⟨rfl, by rw [hU], by rw [hU]; exact hPc, va_K.moved hW.alike hKc, hDc.weaken (fun _ _ _ _ => trivial), nwAll_warm hW hN⟩⟩ rfl rfl hl.1 rfl (lv_room (Nat.le_of_ble_eq_true rfl)) dX4_moved_92 ⟨Nat.le_of_ble_eq_true rfl, Nat.le_of_ble_eq_true rfl⟩) hS (fun q _ h => hFc q h) hFc (fun u t H1 locs ht hvm hw hB hz1 hk1 hS => ?_)
      obtain ⟨hb_52320, hP1, hK1, hD1⟩ := hB
      rw [ht] at hP1
      rw [(by omega : ((t_size + 1) + 1 : Int) = (t_size + 2))] at hP1 hD1
      obtain ⟨hP, hD⟩ := va_join (wr := (wk_0 a_tp q_tp_bytes tp_length z52300 z52301 z52302 tp_own tp_name z52303 z52304 z52305 q_tp_bytes k_tp_bytes g_tp_bytes)) (w1 := (wk_72 a_t a_tp q_t_kinds q_t_code (t_size + 2) q_t_open t_depth q_t_code k_t_code (updI (updI g_t_code (t_size).toNat 1) ((t_size + 1)).toNat (-z52303)))) hP hD [0, 3] [1, 2] rfl rfl (by decide) (by decide) hk1 hFc hP1 hD1
      generalize H1 = H at hP hS ⊢
      have hP : va_P (dC, dI) vwCl (wk_73 a_t a_tp q_t_kinds q_t_code (t_size + 2) q_t_open t_depth a_tp q_tp_bytes tp_length z52300 z52301 z52302 tp_own tp_name z52303 z52304 z52305 q_tp_bytes k_tp_bytes g_tp_bytes q_t_code k_t_code (updI (updI g_t_code (t_size).toNat 1) ((t_size + 1)).toNat (-z52303))) H := hP.sub (ws' := (wk_73 a_t a_tp q_t_kinds q_t_code (t_size + 2) q_t_open t_depth a_tp q_tp_bytes tp_length z52300 z52301 z52302 tp_own tp_name z52303 z52304 z52305 q_tp_bytes k_tp_bytes g_tp_bytes q_t_code k_t_code (updI (updI g_t_code (t_size).toNat 1) ((t_size + 1)).toNat (-z52303)))) [2, 0, 1, 3] rfl
      have hD : va_D A (wk_73 a_t a_tp q_t_kinds q_t_code (t_size + 2) q_t_open t_depth a_tp q_tp_bytes tp_length z52300 z52301 z52302 tp_own tp_name z52303 z52304 z52305 q_tp_bytes k_tp_bytes g_tp_bytes q_t_code k_t_code (updI (updI g_t_code (t_size).toNat 1) ((t_size + 1)).toNat (-z52303))) := hD.sub (ws' := (wk_73 a_t a_tp q_t_kinds q_t_code (t_size + 2) q_t_open t_depth a_tp q_tp_bytes tp_length z52300 z52301 z52302 tp_own tp_name z52303 z52304 z52305 q_tp_bytes k_tp_bytes g_tp_bytes q_t_code k_t_code (updI (updI g_t_code (t_size).toNat 1) ((t_size + 1)).toNat (-z52303)))) [2, 0, 1, 3] (by decide) rfl
      refine lv_iload_n hx hb dX4_moved_95 rfl (lv_at hl 0 rfl) ?_
      have hG52321 : MvG g_t_code (updI (updI g_t_code (t_size).toNat 1) ((t_size + 1)).toNat (-z52303)) t_size z52299 := MvG_mk (by omega) rfl rfl (by omega) (by omega)
      subst hQ
      exact W.zret (v := iZ z52299) hx hb hr (zb_nar (by omega)) (fun t ht hW => ⟨⟨iZ z52299, z52299, rfl, ⟨rfl, by omega⟩, z52300, z52301, z52302, z52303, z52304, z52305, (updI (updI g_t_code (t_size).toNat 1) ((t_size + 1)).toNat (-z52303)), by omega, by omega, by omega, by omega, by omega, by omega, by omega, by omega, hb_52320, hG52321, by rw [ht]; exact hP, va_K.moved hW.alike hK, hD⟩, hS.F ht⟩) hS.2.2 dX4_moved_96
