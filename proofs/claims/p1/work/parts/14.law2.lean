set_option maxHeartbeats 4000000 in
set_option maxRecDepth 100000 in
theorem law_c20 {p : Program} {l : Launch} {e : Env} {s : State} {m : MethodId} {below : List Frame} {meth : Method} {c : Code} {b : Nat} {xs : Nat → Int32} {A : Nat → Prop} {H : Heap} {locs : List Loc} {ls : Array Slot} {dC : Nat → ClassId} {dI : Nat → Nat → Nat} {r : Nat → Nat} {k : Nat → ClassId} {rm : Nat → Nat} {km : Nat → ClassId} (C1 : lw_C p s m meth c b 6 xs A) (hP : va_P (dC, dI) vwCl (wd_897 r k rm km) H) (hD : va_D A (wd_897 r k rm km)) (hK : va_K (dC, dI) vwCl [((k 0), .int), ((k 1), .int), ((k 2), .int), ((km 0), .int), ((km 1), .int), ((km 2), .int), ((km 3), .int)] s) (hS : va_S A s.heap H locs) (hl : lv_has ls 4 [(3, .int 0), (2, .ref (rm 0)), (1, .ref (r 0)), (0, .ref b)]) : W p l e room_1 s m #[Value.ref b] below meth c H locs 179 95325 (lw_Z below #[Value.ref b] s) (F0 m 772 ls []) := by
  obtain ⟨hx, hb, hr, hml, hown, hts, hlocks, hX, hbl, hA, hAl, hbA⟩ := id C1
  refine lv_aload_n hx hb dL_law_772 rfl (lv_at hl 2 rfl) ?_
  refine lv_aload_n hx hb dL_law_773 rfl (lv_at hl 3 rfl) ?_
  refine lv_iload_n hx hb dL_law_774 rfl (lv_at hl 0 rfl) ?_
  refine lv_iconst (v := 1) hx hb dL_law_775 (by decide) ?_
  refine lv_iadd hx hb dL_law_776 ?_
  refine lv_topi (fun x_1753 ex_1753 => ?_)
  obtain rfl : x_1753 = 1 := ex_1753.trans (by decide)
  refine va_sld hx hb hX hbl hbA hS (vpi (by decide)) dL_law_777 ?_
  refine lv_topi (fun x_1754 ex_1754 => ?_)
  obtain rfl : x_1754 = xs 1 := ex_1754
  have hPc := hP.sub (ws' := (wd_495 r k)) [0, 1, 2, 3, 4, 5, 6, 7, 8, 9, 10, 11, 12, 13] rfl
  have hDc := hD.sub (ws' := (wd_495 r k)) [0, 1, 2, 3, 4, 5, 6, 7, 8, 9, 10, 11, 12, 13] (by decide) rfl
  have hKc := hK.sub (tys' := [((k 0), .int), ((k 1), .int), ((k 2), .int)]) [0, 1, 2] rfl
  have hFc := va_free (wc := (wd_495 r k)) hD hS hA [0, 1, 2, 3, 4, 5, 6, 7, 8, 9, 10, 11, 12, 13] rfl
  refine va_calli (va_runV (As := [.int (xs 1)]) (rest := []) ⟨hx, hb, hml, hown, hts⟩ (mX11_retains l dC dI r k (xs 1) H.size) (cwV 1 hts (gV q_620 q_621 q_622 q_257 q_339) rfl rfl rfl mdv_yX11_retains ⟨Nat.le_of_ble_eq_true rfl, Nat.le_of_ble_eq_true rfl⟩) ⟨fun a U g mk q => by obtain ⟨q0, q1, qP, qK, qD⟩ := q; exact ⟨q0, q1, qP, va_K.moved (u := U) (U := U.calling g mk a) (Vm.Alike.refl U.vm) qK, qD⟩, va_recv hKc hPc (ci := 11) (q0 := 0) rfl rfl, fun U hU hW => ⟨rfl, by rw [hU], by rw [hU]; exact hPc, va_K.moved hW.alike hKc, hDc.weaken (fun _ _ _ _ => trivial)⟩⟩ rfl rfl hl.1 rfl (lv_room (Nat.le_of_ble_eq_true rfl)) dL_law_778 ⟨Nat.le_of_ble_eq_true rfl, Nat.le_of_ble_eq_true rfl⟩) hS (fun q _ h => hFc q h) hFc (fun r_1755 u t H1 locs ht hvm hw hB hz1 hk1 hS => ?_)
  have hP1 : va_P (dC, dI) vwCl [] H1 := fun k q h => by simp at h
  have hD1 : va_D (va_A (wd_495 r k) H.size) [] := ⟨fun i j p q h => by simp at h, fun k q h => by simp at h⟩
  obtain ⟨hP, hD⟩ := va_join (wr := (wd_758 rm km)) (w1 := []) hP hD [0, 1, 2, 3, 4, 5, 6, 7, 8, 9, 10, 11, 12, 13] [14, 15, 16, 17, 18] rfl rfl (by decide) (by decide) hk1 hFc hP1 hD1
  generalize H1 = H at hP hS ⊢
  have hP : va_P (dC, dI) vwCl (wd_758 rm km) H := hP
  have hD : va_D A (wd_758 rm km) := hD
  obtain rfl : r_1755 = (-1) := hw
  refine lv_aload_n hx hb dL_law_781 rfl (lv_at hl 1 rfl) ?_
  refine lv_aload_n hx hb dL_law_782 rfl (lv_at hl 3 rfl) ?_
  refine lv_iload_n hx hb dL_law_783 rfl (lv_at hl 0 rfl) ?_
  refine lv_iconst (v := 1) hx hb dL_law_784 (by decide) ?_
  refine lv_iadd hx hb dL_law_785 ?_
  refine lv_topi (fun x_1756 ex_1756 => ?_)
  obtain rfl : x_1756 = 1 := ex_1756.trans (by decide)
  refine va_sld hx hb hX hbl hbA hS (vpi (by decide)) dL_law_786 ?_
  refine lv_topi (fun x_1757 ex_1757 => ?_)
  obtain rfl : x_1757 = xs 1 := ex_1757
  have hPc := hP.sub (ws' := (wd_758 rm km)) [0, 1, 2, 3, 4] rfl
  have hDc := hD.sub (ws' := (wd_758 rm km)) [0, 1, 2, 3, 4] (by decide) rfl
  have hKc := hK.sub (tys' := [((km 0), .int), ((km 1), .int), ((km 2), .int), ((km 3), .int)]) [3, 4, 5, 6] rfl
  have hFc := va_free (wc := (wd_758 rm km)) hD hS hA [0, 1, 2, 3, 4] rfl
  refine va_calli (va_runV (As := [.int (xs 1)]) (rest := [.int (-1)]) ⟨hx, hb, hml, hown, hts⟩ (mX12_retains l dC dI rm km (xs 1) H.size) (cwV 1 hts (gV q_623 q_624 q_625 q_372 q_468) rfl rfl rfl mdv_yX12_retains ⟨Nat.le_of_ble_eq_true rfl, Nat.le_of_ble_eq_true rfl⟩) ⟨fun a U g mk q => by obtain ⟨q0, q1, qP, qK, qD⟩ := q; exact ⟨q0, q1, qP, va_K.moved (u := U) (U := U.calling g mk a) (Vm.Alike.refl U.vm) qK, qD⟩, va_recv hKc hPc (ci := 12) (q0 := 0) rfl rfl, fun U hU hW => ⟨rfl, by rw [hU], by rw [hU]; exact hPc, va_K.moved hW.alike hKc, hDc.weaken (fun _ _ _ _ => trivial)⟩⟩ rfl rfl hl.1 rfl (lv_room (Nat.le_of_ble_eq_true rfl)) dL_law_787 ⟨Nat.le_of_ble_eq_true rfl, Nat.le_of_ble_eq_true rfl⟩) hS (fun q _ h => hFc q h) hFc (fun r_1758 u t H1 locs ht hvm hw hB hz1 hk1 hS => ?_)
  have hP1 : va_P (dC, dI) vwCl [] H1 := fun k q h => by simp at h
  have hD1 : va_D (va_A (wd_758 rm km) H.size) [] := ⟨fun i j p q h => by simp at h, fun k q h => by simp at h⟩
  obtain ⟨hP, hD⟩ := va_join (wr := []) (w1 := []) hP hD [0, 1, 2, 3, 4] [] rfl rfl (by decide) (by decide) hk1 hFc hP1 hD1
  generalize H1 = H at hP hS ⊢
  have hP : va_P (dC, dI) vwCl [] H := hP
  have hD : va_D A [] := hD
  obtain rfl : r_1758 = (-1) := hw
  refine lv_icmp_eq (tgt := 1165) hx hb dL_law_790 (by decide) (fun c_0 => ?_) (fun c_0 => absurd c_0 (by decide))
  exact law_tail C1 hS (lv_sub hl [0, 3] rfl)
set_option maxHeartbeats 4000000 in
set_option maxRecDepth 100000 in
theorem law_c21 {p : Program} {l : Launch} {e : Env} {s : State} {m : MethodId} {below : List Frame} {meth : Method} {c : Code} {b : Nat} {xs : Nat → Int32} {A : Nat → Prop} {H : Heap} {locs : List Loc} {ls : Array Slot} {dC : Nat → ClassId} {dI : Nat → Nat → Nat} {r : Nat → Nat} {k : Nat → ClassId} {rm : Nat → Nat} {km : Nat → ClassId} (C1 : lw_C p s m meth c b 6 xs A) (hP : va_P (dC, dI) vwCl (wd_897 r k rm km) H) (hD : va_D A (wd_897 r k rm km)) (hK : va_K (dC, dI) vwCl [((k 0), .int), ((k 1), .int), ((k 2), .int), ((km 0), .int), ((km 1), .int), ((km 2), .int), ((km 3), .int)] s) (hS : va_S A s.heap H locs) (hl : lv_has ls 4 [(3, .int 0), (2, .ref (rm 0)), (1, .ref (r 0)), (0, .ref b)]) : W p l e room_1 s m #[Value.ref b] below meth c H locs 179 95325 (lw_Z below #[Value.ref b] s) (F0 m 795 ls []) := by
  obtain ⟨hx, hb, hr, hml, hown, hts, hlocks, hX, hbl, hA, hAl, hbA⟩ := id C1
  refine lv_aload_n hx hb dL_law_795 rfl (lv_at hl 2 rfl) ?_
  refine lv_aload_n hx hb dL_law_796 rfl (lv_at hl 3 rfl) ?_
  refine lv_iload_n hx hb dL_law_797 rfl (lv_at hl 0 rfl) ?_
  refine lv_iconst (v := 1) hx hb dL_law_798 (by decide) ?_
  refine lv_iadd hx hb dL_law_799 ?_
  refine lv_topi (fun x_1759 ex_1759 => ?_)
  obtain rfl : x_1759 = 1 := ex_1759.trans (by decide)
  refine va_sld hx hb hX hbl hbA hS (vpi (by decide)) dL_law_800 ?_
  refine lv_topi (fun x_1760 ex_1760 => ?_)
  obtain rfl : x_1760 = xs 1 := ex_1760
  have hPc := hP.sub (ws' := (wd_495 r k)) [0, 1, 2, 3, 4, 5, 6, 7, 8, 9, 10, 11, 12, 13] rfl
  have hDc := hD.sub (ws' := (wd_495 r k)) [0, 1, 2, 3, 4, 5, 6, 7, 8, 9, 10, 11, 12, 13] (by decide) rfl
  have hKc := hK.sub (tys' := [((k 0), .int), ((k 1), .int), ((k 2), .int)]) [0, 1, 2] rfl
  have hFc := va_free (wc := (wd_495 r k)) hD hS hA [0, 1, 2, 3, 4, 5, 6, 7, 8, 9, 10, 11, 12, 13] rfl
  refine va_calli (va_runV (As := [.int (xs 1)]) (rest := []) ⟨hx, hb, hml, hown, hts⟩ (mX11_best l dC dI r k (xs 1) H.size) (cwV 1 hts (gV q_626 q_627 q_628 q_257 q_340) rfl rfl rfl mdv_yX11_best ⟨Nat.le_of_ble_eq_true rfl, Nat.le_of_ble_eq_true rfl⟩) ⟨fun a U g mk q => by obtain ⟨q0, q1, qP, qK, qD⟩ := q; exact ⟨q0, q1, qP, va_K.moved (u := U) (U := U.calling g mk a) (Vm.Alike.refl U.vm) qK, qD⟩, va_recv hKc hPc (ci := 11) (q0 := 0) rfl rfl, fun U hU hW => ⟨rfl, by rw [hU], by rw [hU]; exact hPc, va_K.moved hW.alike hKc, hDc.weaken (fun _ _ _ _ => trivial)⟩⟩ rfl rfl hl.1 rfl (lv_room (Nat.le_of_ble_eq_true rfl)) dL_law_801 ⟨Nat.le_of_ble_eq_true rfl, Nat.le_of_ble_eq_true rfl⟩) hS (fun q _ h => hFc q h) hFc (fun r_1761 u t H1 locs ht hvm hw hB hz1 hk1 hS => ?_)
  have hP1 : va_P (dC, dI) vwCl [] H1 := fun k q h => by simp at h
  have hD1 : va_D (va_A (wd_495 r k) H.size) [] := ⟨fun i j p q h => by simp at h, fun k q h => by simp at h⟩
  obtain ⟨hP, hD⟩ := va_join (wr := (wd_758 rm km)) (w1 := []) hP hD [0, 1, 2, 3, 4, 5, 6, 7, 8, 9, 10, 11, 12, 13] [14, 15, 16, 17, 18] rfl rfl (by decide) (by decide) hk1 hFc hP1 hD1
  generalize H1 = H at hP hS ⊢
  have hP : va_P (dC, dI) vwCl (wd_758 rm km) H := hP
  have hD : va_D A (wd_758 rm km) := hD
  obtain rfl : r_1761 = (-1) := hw
  refine lv_aload_n hx hb dL_law_804 rfl (lv_at hl 1 rfl) ?_
  refine lv_aload_n hx hb dL_law_805 rfl (lv_at hl 3 rfl) ?_
  refine lv_iload_n hx hb dL_law_806 rfl (lv_at hl 0 rfl) ?_
  refine lv_iconst (v := 1) hx hb dL_law_807 (by decide) ?_
  refine lv_iadd hx hb dL_law_808 ?_
  refine lv_topi (fun x_1762 ex_1762 => ?_)
  obtain rfl : x_1762 = 1 := ex_1762.trans (by decide)
  refine va_sld hx hb hX hbl hbA hS (vpi (by decide)) dL_law_809 ?_
  refine lv_topi (fun x_1763 ex_1763 => ?_)
  obtain rfl : x_1763 = xs 1 := ex_1763
  have hPc := hP.sub (ws' := (wd_758 rm km)) [0, 1, 2, 3, 4] rfl
  have hDc := hD.sub (ws' := (wd_758 rm km)) [0, 1, 2, 3, 4] (by decide) rfl
  have hKc := hK.sub (tys' := [((km 0), .int), ((km 1), .int), ((km 2), .int), ((km 3), .int)]) [3, 4, 5, 6] rfl
  have hFc := va_free (wc := (wd_758 rm km)) hD hS hA [0, 1, 2, 3, 4] rfl
  refine va_calli (va_runV (As := [.int (xs 1)]) (rest := [.int (-1)]) ⟨hx, hb, hml, hown, hts⟩ (mX12_best l dC dI rm km (xs 1) H.size) (cwV 1 hts (gV q_629 q_630 q_631 q_372 q_469) rfl rfl rfl mdv_yX12_best ⟨Nat.le_of_ble_eq_true rfl, Nat.le_of_ble_eq_true rfl⟩) ⟨fun a U g mk q => by obtain ⟨q0, q1, qP, qK, qD⟩ := q; exact ⟨q0, q1, qP, va_K.moved (u := U) (U := U.calling g mk a) (Vm.Alike.refl U.vm) qK, qD⟩, va_recv hKc hPc (ci := 12) (q0 := 0) rfl rfl, fun U hU hW => ⟨rfl, by rw [hU], by rw [hU]; exact hPc, va_K.moved hW.alike hKc, hDc.weaken (fun _ _ _ _ => trivial)⟩⟩ rfl rfl hl.1 rfl (lv_room (Nat.le_of_ble_eq_true rfl)) dL_law_810 ⟨Nat.le_of_ble_eq_true rfl, Nat.le_of_ble_eq_true rfl⟩) hS (fun q _ h => hFc q h) hFc (fun r_1764 u t H1 locs ht hvm hw hB hz1 hk1 hS => ?_)
  have hP1 : va_P (dC, dI) vwCl [] H1 := fun k q h => by simp at h
  have hD1 : va_D (va_A (wd_758 rm km) H.size) [] := ⟨fun i j p q h => by simp at h, fun k q h => by simp at h⟩
  obtain ⟨hP, hD⟩ := va_join (wr := []) (w1 := []) hP hD [0, 1, 2, 3, 4] [] rfl rfl (by decide) (by decide) hk1 hFc hP1 hD1
  generalize H1 = H at hP hS ⊢
  have hP : va_P (dC, dI) vwCl [] H := hP
  have hD : va_D A [] := hD
  obtain rfl : r_1764 = (-1) := hw
  refine lv_icmp_eq (tgt := 1165) hx hb dL_law_813 (by decide) (fun c_0 => ?_) (fun c_0 => absurd c_0 (by decide))
  exact law_tail C1 hS (lv_sub hl [0, 3] rfl)
set_option maxHeartbeats 4000000 in
set_option maxRecDepth 100000 in
theorem law_c22 {p : Program} {l : Launch} {e : Env} {s : State} {m : MethodId} {below : List Frame} {meth : Method} {c : Code} {b : Nat} {xs : Nat → Int32} {A : Nat → Prop} {H : Heap} {locs : List Loc} {ls : Array Slot} {dC : Nat → ClassId} {dI : Nat → Nat → Nat} {r : Nat → Nat} {k : Nat → ClassId} {rm : Nat → Nat} {km : Nat → ClassId} (C1 : lw_C p s m meth c b 6 xs A) (hP : va_P (dC, dI) vwCl (wd_897 r k rm km) H) (hD : va_D A (wd_897 r k rm km)) (hK : va_K (dC, dI) vwCl [((k 0), .int), ((k 1), .int), ((k 2), .int), ((km 0), .int), ((km 1), .int), ((km 2), .int), ((km 3), .int)] s) (hS : va_S A s.heap H locs) (hl : lv_has ls 4 [(3, .int 0), (2, .ref (rm 0)), (1, .ref (r 0)), (0, .ref b)]) : W p l e room_1 s m #[Value.ref b] below meth c H locs 179 95325 (lw_Z below #[Value.ref b] s) (F0 m 818 ls []) := by
  obtain ⟨hx, hb, hr, hml, hown, hts, hlocks, hX, hbl, hA, hAl, hbA⟩ := id C1
  refine lv_aload_n hx hb dL_law_818 rfl (lv_at hl 2 rfl) ?_
  refine lv_aload_n hx hb dL_law_819 rfl (lv_at hl 3 rfl) ?_
  refine lv_iload_n hx hb dL_law_820 rfl (lv_at hl 0 rfl) ?_
  refine lv_iconst (v := 1) hx hb dL_law_821 (by decide) ?_
  refine lv_iadd hx hb dL_law_822 ?_
  refine lv_topi (fun x_1765 ex_1765 => ?_)
  obtain rfl : x_1765 = 1 := ex_1765.trans (by decide)
  refine va_sld hx hb hX hbl hbA hS (vpi (by decide)) dL_law_823 ?_
  refine lv_topi (fun x_1766 ex_1766 => ?_)
  obtain rfl : x_1766 = xs 1 := ex_1766
  have hPc := hP.sub (ws' := (wd_495 r k)) [0, 1, 2, 3, 4, 5, 6, 7, 8, 9, 10, 11, 12, 13] rfl
  have hDc := hD.sub (ws' := (wd_495 r k)) [0, 1, 2, 3, 4, 5, 6, 7, 8, 9, 10, 11, 12, 13] (by decide) rfl
  have hKc := hK.sub (tys' := [((k 0), .int), ((k 1), .int), ((k 2), .int)]) [0, 1, 2] rfl
  have hFc := va_free (wc := (wd_495 r k)) hD hS hA [0, 1, 2, 3, 4, 5, 6, 7, 8, 9, 10, 11, 12, 13] rfl
  refine va_calli (va_runV (As := [.int (xs 1)]) (rest := []) ⟨hx, hb, hml, hown, hts⟩ (mX11_found l dC dI r k (xs 1) H.size) (cwV 1 hts (gV q_632 q_633 q_634 q_257 q_341) rfl rfl rfl mdv_yX11_found ⟨Nat.le_of_ble_eq_true rfl, Nat.le_of_ble_eq_true rfl⟩) ⟨fun a U g mk q => by obtain ⟨q0, q1, qP, qK, qD⟩ := q; exact ⟨q0, q1, qP, va_K.moved (u := U) (U := U.calling g mk a) (Vm.Alike.refl U.vm) qK, qD⟩, va_recv hKc hPc (ci := 11) (q0 := 0) rfl rfl, fun U hU hW => ⟨rfl, by rw [hU], by rw [hU]; exact hPc, va_K.moved hW.alike hKc, hDc.weaken (fun _ _ _ _ => trivial)⟩⟩ rfl rfl hl.1 rfl (lv_room (Nat.le_of_ble_eq_true rfl)) dL_law_824 ⟨Nat.le_of_ble_eq_true rfl, Nat.le_of_ble_eq_true rfl⟩) hS (fun q _ h => hFc q h) hFc (fun r_1767 u t H1 locs ht hvm hw hB hz1 hk1 hS => ?_)
  have hP1 : va_P (dC, dI) vwCl [] H1 := fun k q h => by simp at h
  have hD1 : va_D (va_A (wd_495 r k) H.size) [] := ⟨fun i j p q h => by simp at h, fun k q h => by simp at h⟩
  obtain ⟨hP, hD⟩ := va_join (wr := (wd_758 rm km)) (w1 := []) hP hD [0, 1, 2, 3, 4, 5, 6, 7, 8, 9, 10, 11, 12, 13] [14, 15, 16, 17, 18] rfl rfl (by decide) (by decide) hk1 hFc hP1 hD1
  generalize H1 = H at hP hS ⊢
  have hP : va_P (dC, dI) vwCl (wd_758 rm km) H := hP
  have hD : va_D A (wd_758 rm km) := hD
  obtain rfl : r_1767 = (-1) := hw
  refine lv_aload_n hx hb dL_law_827 rfl (lv_at hl 1 rfl) ?_
  refine lv_aload_n hx hb dL_law_828 rfl (lv_at hl 3 rfl) ?_
  refine lv_iload_n hx hb dL_law_829 rfl (lv_at hl 0 rfl) ?_
  refine lv_iconst (v := 1) hx hb dL_law_830 (by decide) ?_
  refine lv_iadd hx hb dL_law_831 ?_
  refine lv_topi (fun x_1768 ex_1768 => ?_)
  obtain rfl : x_1768 = 1 := ex_1768.trans (by decide)
  refine va_sld hx hb hX hbl hbA hS (vpi (by decide)) dL_law_832 ?_
  refine lv_topi (fun x_1769 ex_1769 => ?_)
  obtain rfl : x_1769 = xs 1 := ex_1769
  have hPc := hP.sub (ws' := (wd_758 rm km)) [0, 1, 2, 3, 4] rfl
  have hDc := hD.sub (ws' := (wd_758 rm km)) [0, 1, 2, 3, 4] (by decide) rfl
  have hKc := hK.sub (tys' := [((km 0), .int), ((km 1), .int), ((km 2), .int), ((km 3), .int)]) [3, 4, 5, 6] rfl
  have hFc := va_free (wc := (wd_758 rm km)) hD hS hA [0, 1, 2, 3, 4] rfl
  refine va_calli (va_runV (As := [.int (xs 1)]) (rest := [.int (-1)]) ⟨hx, hb, hml, hown, hts⟩ (mX12_found l dC dI rm km (xs 1) H.size) (cwV 1 hts (gV q_635 q_636 q_637 q_372 q_470) rfl rfl rfl mdv_yX12_found ⟨Nat.le_of_ble_eq_true rfl, Nat.le_of_ble_eq_true rfl⟩) ⟨fun a U g mk q => by obtain ⟨q0, q1, qP, qK, qD⟩ := q; exact ⟨q0, q1, qP, va_K.moved (u := U) (U := U.calling g mk a) (Vm.Alike.refl U.vm) qK, qD⟩, va_recv hKc hPc (ci := 12) (q0 := 0) rfl rfl, fun U hU hW => ⟨rfl, by rw [hU], by rw [hU]; exact hPc, va_K.moved hW.alike hKc, hDc.weaken (fun _ _ _ _ => trivial)⟩⟩ rfl rfl hl.1 rfl (lv_room (Nat.le_of_ble_eq_true rfl)) dL_law_833 ⟨Nat.le_of_ble_eq_true rfl, Nat.le_of_ble_eq_true rfl⟩) hS (fun q _ h => hFc q h) hFc (fun r_1770 u t H1 locs ht hvm hw hB hz1 hk1 hS => ?_)
  have hP1 : va_P (dC, dI) vwCl [] H1 := fun k q h => by simp at h
  have hD1 : va_D (va_A (wd_758 rm km) H.size) [] := ⟨fun i j p q h => by simp at h, fun k q h => by simp at h⟩
  obtain ⟨hP, hD⟩ := va_join (wr := []) (w1 := []) hP hD [0, 1, 2, 3, 4] [] rfl rfl (by decide) (by decide) hk1 hFc hP1 hD1
  generalize H1 = H at hP hS ⊢
  have hP : va_P (dC, dI) vwCl [] H := hP
  have hD : va_D A [] := hD
  obtain rfl : r_1770 = (-1) := hw
  refine lv_icmp_eq (tgt := 1165) hx hb dL_law_836 (by decide) (fun c_0 => ?_) (fun c_0 => absurd c_0 (by decide))
  exact law_tail C1 hS (lv_sub hl [0, 3] rfl)
set_option maxHeartbeats 4000000 in
set_option maxRecDepth 100000 in
theorem law_c23 {p : Program} {l : Launch} {e : Env} {s : State} {m : MethodId} {below : List Frame} {meth : Method} {c : Code} {b : Nat} {xs : Nat → Int32} {A : Nat → Prop} {H : Heap} {locs : List Loc} {ls : Array Slot} {dC : Nat → ClassId} {dI : Nat → Nat → Nat} {r : Nat → Nat} {k : Nat → ClassId} {rm : Nat → Nat} {km : Nat → ClassId} (C1 : lw_C p s m meth c b 6 xs A) (hP : va_P (dC, dI) vwCl (wd_897 r k rm km) H) (hD : va_D A (wd_897 r k rm km)) (hK : va_K (dC, dI) vwCl [((k 0), .int), ((k 1), .int), ((k 2), .int), ((km 0), .int), ((km 1), .int), ((km 2), .int), ((km 3), .int)] s) (hS : va_S A s.heap H locs) (hl : lv_has ls 4 [(3, .int 0), (2, .ref (rm 0)), (1, .ref (r 0)), (0, .ref b)]) : W p l e room_1 s m #[Value.ref b] below meth c H locs 179 95325 (lw_Z below #[Value.ref b] s) (F0 m 841 ls []) := by
  obtain ⟨hx, hb, hr, hml, hown, hts, hlocks, hX, hbl, hA, hAl, hbA⟩ := id C1
  refine lv_aload_n hx hb dL_law_841 rfl (lv_at hl 2 rfl) ?_
  have hPc := hP.sub (ws' := (wd_495 r k)) [0, 1, 2, 3, 4, 5, 6, 7, 8, 9, 10, 11, 12, 13] rfl
  have hDc := hD.sub (ws' := (wd_495 r k)) [0, 1, 2, 3, 4, 5, 6, 7, 8, 9, 10, 11, 12, 13] (by decide) rfl
  have hKc := hK.sub (tys' := [((k 0), .int), ((k 1), .int), ((k 2), .int)]) [0, 1, 2] rfl
  have hFc := va_free (wc := (wd_495 r k)) hD hS hA [0, 1, 2, 3, 4, 5, 6, 7, 8, 9, 10, 11, 12, 13] rfl
  refine va_calli (va_runV (As := []) (rest := []) ⟨hx, hb, hml, hown, hts⟩ (mX11_remember l dC dI r k H.size) (cwV 0 hts (gV q_638 q_639 q_640 q_257 q_342) rfl rfl rfl mdv_yX11_remember ⟨Nat.le_of_ble_eq_true rfl, Nat.le_of_ble_eq_true rfl⟩) ⟨fun a U g mk q => by obtain ⟨q0, q1, qP, qK, qD⟩ := q; exact ⟨q0, q1, qP, va_K.moved (u := U) (U := U.calling g mk a) (Vm.Alike.refl U.vm) qK, qD⟩, va_recv hKc hPc (ci := 11) (q0 := 0) rfl rfl, fun U hU hW => ⟨rfl, by rw [hU], by rw [hU]; exact hPc, va_K.moved hW.alike hKc, hDc.weaken (fun _ _ _ _ => trivial)⟩⟩ rfl rfl hl.1 rfl (lv_room (Nat.le_of_ble_eq_true rfl)) dL_law_842 ⟨Nat.le_of_ble_eq_true rfl, Nat.le_of_ble_eq_true rfl⟩) hS (fun q _ h => hFc q h) hFc (fun r_1771 u t H1 locs ht hvm hw hB hz1 hk1 hS => ?_)
  have hP1 : va_P (dC, dI) vwCl [] H1 := fun k q h => by simp at h
  have hD1 : va_D (va_A (wd_495 r k) H.size) [] := ⟨fun i j p q h => by simp at h, fun k q h => by simp at h⟩
  obtain ⟨hP, hD⟩ := va_join (wr := (wd_758 rm km)) (w1 := []) hP hD [0, 1, 2, 3, 4, 5, 6, 7, 8, 9, 10, 11, 12, 13] [14, 15, 16, 17, 18] rfl rfl (by decide) (by decide) hk1 hFc hP1 hD1
  generalize H1 = H at hP hS ⊢
  have hP : va_P (dC, dI) vwCl (wd_758 rm km) H := hP
  have hD : va_D A (wd_758 rm km) := hD
  obtain rfl : r_1771 = (-1) := hw
  refine lv_aload_n hx hb dL_law_845 rfl (lv_at hl 1 rfl) ?_
  have hPc := hP.sub (ws' := (wd_758 rm km)) [0, 1, 2, 3, 4] rfl
  have hDc := hD.sub (ws' := (wd_758 rm km)) [0, 1, 2, 3, 4] (by decide) rfl
  have hKc := hK.sub (tys' := [((km 0), .int), ((km 1), .int), ((km 2), .int), ((km 3), .int)]) [3, 4, 5, 6] rfl
  have hFc := va_free (wc := (wd_758 rm km)) hD hS hA [0, 1, 2, 3, 4] rfl
  refine va_calli (va_runV (As := []) (rest := [.int (-1)]) ⟨hx, hb, hml, hown, hts⟩ (mX12_remember l dC dI rm km H.size) (cwV 0 hts (gV q_641 q_642 q_643 q_372 q_471) rfl rfl rfl mdv_yX12_remember ⟨Nat.le_of_ble_eq_true rfl, Nat.le_of_ble_eq_true rfl⟩) ⟨fun a U g mk q => by obtain ⟨q0, q1, qP, qK, qD⟩ := q; exact ⟨q0, q1, qP, va_K.moved (u := U) (U := U.calling g mk a) (Vm.Alike.refl U.vm) qK, qD⟩, va_recv hKc hPc (ci := 12) (q0 := 0) rfl rfl, fun U hU hW => ⟨rfl, by rw [hU], by rw [hU]; exact hPc, va_K.moved hW.alike hKc, hDc.weaken (fun _ _ _ _ => trivial)⟩⟩ rfl rfl hl.1 rfl (lv_room (Nat.le_of_ble_eq_true rfl)) dL_law_846 ⟨Nat.le_of_ble_eq_true rfl, Nat.le_of_ble_eq_true rfl⟩) hS (fun q _ h => hFc q h) hFc (fun r_1772 u t H1 locs ht hvm hw hB hz1 hk1 hS => ?_)
  have hP1 : va_P (dC, dI) vwCl [] H1 := fun k q h => by simp at h
  have hD1 : va_D (va_A (wd_758 rm km) H.size) [] := ⟨fun i j p q h => by simp at h, fun k q h => by simp at h⟩
  obtain ⟨hP, hD⟩ := va_join (wr := []) (w1 := []) hP hD [0, 1, 2, 3, 4] [] rfl rfl (by decide) (by decide) hk1 hFc hP1 hD1
  generalize H1 = H at hP hS ⊢
  have hP : va_P (dC, dI) vwCl [] H := hP
  have hD : va_D A [] := hD
  obtain rfl : r_1772 = (-1) := hw
  refine lv_icmp_eq (tgt := 1165) hx hb dL_law_849 (by decide) (fun c_0 => ?_) (fun c_0 => absurd c_0 (by decide))
  exact law_tail C1 hS (lv_sub hl [0, 3] rfl)
set_option maxHeartbeats 4000000 in
set_option maxRecDepth 100000 in
theorem law_c24 {p : Program} {l : Launch} {e : Env} {s : State} {m : MethodId} {below : List Frame} {meth : Method} {c : Code} {b : Nat} {xs : Nat → Int32} {A : Nat → Prop} {H : Heap} {locs : List Loc} {ls : Array Slot} {dC : Nat → ClassId} {dI : Nat → Nat → Nat} {r : Nat → Nat} {k : Nat → ClassId} {rm : Nat → Nat} {km : Nat → ClassId} (C1 : lw_C p s m meth c b 6 xs A) (hP : va_P (dC, dI) vwCl (wd_897 r k rm km) H) (hD : va_D A (wd_897 r k rm km)) (hK : va_K (dC, dI) vwCl [((k 0), .int), ((k 1), .int), ((k 2), .int), ((km 0), .int), ((km 1), .int), ((km 2), .int), ((km 3), .int)] s) (hS : va_S A s.heap H locs) (hl : lv_has ls 4 [(3, .int 0), (2, .ref (rm 0)), (1, .ref (r 0)), (0, .ref b)]) : W p l e room_1 s m #[Value.ref b] below meth c H locs 179 95325 (lw_Z below #[Value.ref b] s) (F0 m 854 ls []) := by
  obtain ⟨hx, hb, hr, hml, hown, hts, hlocks, hX, hbl, hA, hAl, hbA⟩ := id C1
  refine lv_aload_n hx hb dL_law_854 rfl (lv_at hl 2 rfl) ?_
  have hPc := hP.sub (ws' := (wd_495 r k)) [0, 1, 2, 3, 4, 5, 6, 7, 8, 9, 10, 11, 12, 13] rfl
  have hDc := hD.sub (ws' := (wd_495 r k)) [0, 1, 2, 3, 4, 5, 6, 7, 8, 9, 10, 11, 12, 13] (by decide) rfl
  have hKc := hK.sub (tys' := [((k 0), .int), ((k 1), .int), ((k 2), .int)]) [0, 1, 2] rfl
  have hFc := va_free (wc := (wd_495 r k)) hD hS hA [0, 1, 2, 3, 4, 5, 6, 7, 8, 9, 10, 11, 12, 13] rfl
  refine va_calli (va_runV (As := []) (rest := []) ⟨hx, hb, hml, hown, hts⟩ (mX11_alike l dC dI r k H.size) (cwV 0 hts (gV q_644 q_645 q_646 q_257 q_343) rfl rfl rfl mdv_yX11_alike ⟨Nat.le_of_ble_eq_true rfl, Nat.le_of_ble_eq_true rfl⟩) ⟨fun a U g mk q => by obtain ⟨q0, q1, qP, qK, qD⟩ := q; exact ⟨q0, q1, qP, va_K.moved (u := U) (U := U.calling g mk a) (Vm.Alike.refl U.vm) qK, qD⟩, va_recv hKc hPc (ci := 11) (q0 := 0) rfl rfl, fun U hU hW => ⟨rfl, by rw [hU], by rw [hU]; exact hPc, va_K.moved hW.alike hKc, hDc.weaken (fun _ _ _ _ => trivial)⟩⟩ rfl rfl hl.1 rfl (lv_room (Nat.le_of_ble_eq_true rfl)) dL_law_855 ⟨Nat.le_of_ble_eq_true rfl, Nat.le_of_ble_eq_true rfl⟩) hS (fun q _ h => hFc q h) hFc (fun r_1773 u t H1 locs ht hvm hw hB hz1 hk1 hS => ?_)
  have hP1 : va_P (dC, dI) vwCl [] H1 := fun k q h => by simp at h
  have hD1 : va_D (va_A (wd_495 r k) H.size) [] := ⟨fun i j p q h => by simp at h, fun k q h => by simp at h⟩
  obtain ⟨hP, hD⟩ := va_join (wr := (wd_758 rm km)) (w1 := []) hP hD [0, 1, 2, 3, 4, 5, 6, 7, 8, 9, 10, 11, 12, 13] [14, 15, 16, 17, 18] rfl rfl (by decide) (by decide) hk1 hFc hP1 hD1
  generalize H1 = H at hP hS ⊢
  have hP : va_P (dC, dI) vwCl (wd_758 rm km) H := hP
  have hD : va_D A (wd_758 rm km) := hD
  obtain rfl : r_1773 = (-1) := hw
  refine lv_aload_n hx hb dL_law_858 rfl (lv_at hl 1 rfl) ?_
  have hPc := hP.sub (ws' := (wd_758 rm km)) [0, 1, 2, 3, 4] rfl
  have hDc := hD.sub (ws' := (wd_758 rm km)) [0, 1, 2, 3, 4] (by decide) rfl
  have hKc := hK.sub (tys' := [((km 0), .int), ((km 1), .int), ((km 2), .int), ((km 3), .int)]) [3, 4, 5, 6] rfl
  have hFc := va_free (wc := (wd_758 rm km)) hD hS hA [0, 1, 2, 3, 4] rfl
  refine va_calli (va_runV (As := []) (rest := [.int (-1)]) ⟨hx, hb, hml, hown, hts⟩ (mX12_alike l dC dI rm km H.size) (cwV 0 hts (gV q_647 q_648 q_649 q_372 q_472) rfl rfl rfl mdv_yX12_alike ⟨Nat.le_of_ble_eq_true rfl, Nat.le_of_ble_eq_true rfl⟩) ⟨fun a U g mk q => by obtain ⟨q0, q1, qP, qK, qD⟩ := q; exact ⟨q0, q1, qP, va_K.moved (u := U) (U := U.calling g mk a) (Vm.Alike.refl U.vm) qK, qD⟩, va_recv hKc hPc (ci := 12) (q0 := 0) rfl rfl, fun U hU hW => ⟨rfl, by rw [hU], by rw [hU]; exact hPc, va_K.moved hW.alike hKc, hDc.weaken (fun _ _ _ _ => trivial)⟩⟩ rfl rfl hl.1 rfl (lv_room (Nat.le_of_ble_eq_true rfl)) dL_law_859 ⟨Nat.le_of_ble_eq_true rfl, Nat.le_of_ble_eq_true rfl⟩) hS (fun q _ h => hFc q h) hFc (fun r_1774 u t H1 locs ht hvm hw hB hz1 hk1 hS => ?_)
  have hP1 : va_P (dC, dI) vwCl [] H1 := fun k q h => by simp at h
  have hD1 : va_D (va_A (wd_758 rm km) H.size) [] := ⟨fun i j p q h => by simp at h, fun k q h => by simp at h⟩
  obtain ⟨hP, hD⟩ := va_join (wr := []) (w1 := []) hP hD [0, 1, 2, 3, 4] [] rfl rfl (by decide) (by decide) hk1 hFc hP1 hD1
  generalize H1 = H at hP hS ⊢
  have hP : va_P (dC, dI) vwCl [] H := hP
  have hD : va_D A [] := hD
  obtain rfl : r_1774 = (-1) := hw
  refine lv_icmp_eq (tgt := 1165) hx hb dL_law_862 (by decide) (fun c_0 => ?_) (fun c_0 => absurd c_0 (by decide))
  exact law_tail C1 hS (lv_sub hl [0, 3] rfl)
set_option maxHeartbeats 4000000 in
set_option maxRecDepth 100000 in
theorem law_c25 {p : Program} {l : Launch} {e : Env} {s : State} {m : MethodId} {below : List Frame} {meth : Method} {c : Code} {b : Nat} {xs : Nat → Int32} {A : Nat → Prop} {H : Heap} {locs : List Loc} {ls : Array Slot} {dC : Nat → ClassId} {dI : Nat → Nat → Nat} {r : Nat → Nat} {k : Nat → ClassId} {rm : Nat → Nat} {km : Nat → ClassId} (C1 : lw_C p s m meth c b 6 xs A) (hP : va_P (dC, dI) vwCl (wd_897 r k rm km) H) (hD : va_D A (wd_897 r k rm km)) (hK : va_K (dC, dI) vwCl [((k 0), .int), ((k 1), .int), ((k 2), .int), ((km 0), .int), ((km 1), .int), ((km 2), .int), ((km 3), .int)] s) (hS : va_S A s.heap H locs) (hl : lv_has ls 4 [(3, .int 0), (2, .ref (rm 0)), (1, .ref (r 0)), (0, .ref b)]) : W p l e room_1 s m #[Value.ref b] below meth c H locs 179 95325 (lw_Z below #[Value.ref b] s) (F0 m 867 ls []) := by
  obtain ⟨hx, hb, hr, hml, hown, hts, hlocks, hX, hbl, hA, hAl, hbA⟩ := id C1
  refine lv_aload_n hx hb dL_law_867 rfl (lv_at hl 2 rfl) ?_
  have hPc := hP.sub (ws' := (wd_495 r k)) [0, 1, 2, 3, 4, 5, 6, 7, 8, 9, 10, 11, 12, 13] rfl
  have hDc := hD.sub (ws' := (wd_495 r k)) [0, 1, 2, 3, 4, 5, 6, 7, 8, 9, 10, 11, 12, 13] (by decide) rfl
  have hKc := hK.sub (tys' := [((k 0), .int), ((k 1), .int), ((k 2), .int)]) [0, 1, 2] rfl
  have hFc := va_free (wc := (wd_495 r k)) hD hS hA [0, 1, 2, 3, 4, 5, 6, 7, 8, 9, 10, 11, 12, 13] rfl
  refine va_calli (va_runV (As := []) (rest := []) ⟨hx, hb, hml, hown, hts⟩ (mX11_see l dC dI r k H.size) (cwV 0 hts (gV q_650 q_651 q_652 q_257 q_344) rfl rfl rfl mdv_yX11_see ⟨Nat.le_of_ble_eq_true rfl, Nat.le_of_ble_eq_true rfl⟩) ⟨fun a U g mk q => by obtain ⟨q0, q1, qP, qK, qD⟩ := q; exact ⟨q0, q1, qP, va_K.moved (u := U) (U := U.calling g mk a) (Vm.Alike.refl U.vm) qK, qD⟩, va_recv hKc hPc (ci := 11) (q0 := 0) rfl rfl, fun U hU hW => ⟨rfl, by rw [hU], by rw [hU]; exact hPc, va_K.moved hW.alike hKc, hDc.weaken (fun _ _ _ _ => trivial)⟩⟩ rfl rfl hl.1 rfl (lv_room (Nat.le_of_ble_eq_true rfl)) dL_law_868 ⟨Nat.le_of_ble_eq_true rfl, Nat.le_of_ble_eq_true rfl⟩) hS (fun q _ h => hFc q h) hFc (fun r_1775 u t H1 locs ht hvm hw hB hz1 hk1 hS => ?_)
  have hP1 : va_P (dC, dI) vwCl [] H1 := fun k q h => by simp at h
  have hD1 : va_D (va_A (wd_495 r k) H.size) [] := ⟨fun i j p q h => by simp at h, fun k q h => by simp at h⟩
  obtain ⟨hP, hD⟩ := va_join (wr := (wd_758 rm km)) (w1 := []) hP hD [0, 1, 2, 3, 4, 5, 6, 7, 8, 9, 10, 11, 12, 13] [14, 15, 16, 17, 18] rfl rfl (by decide) (by decide) hk1 hFc hP1 hD1
  generalize H1 = H at hP hS ⊢
  have hP : va_P (dC, dI) vwCl (wd_758 rm km) H := hP
  have hD : va_D A (wd_758 rm km) := hD
  obtain rfl : r_1775 = (-1) := hw
  refine lv_aload_n hx hb dL_law_871 rfl (lv_at hl 1 rfl) ?_
  have hPc := hP.sub (ws' := (wd_758 rm km)) [0, 1, 2, 3, 4] rfl
  have hDc := hD.sub (ws' := (wd_758 rm km)) [0, 1, 2, 3, 4] (by decide) rfl
  have hKc := hK.sub (tys' := [((km 0), .int), ((km 1), .int), ((km 2), .int), ((km 3), .int)]) [3, 4, 5, 6] rfl
  have hFc := va_free (wc := (wd_758 rm km)) hD hS hA [0, 1, 2, 3, 4] rfl
  refine va_calli (va_runV (As := []) (rest := [.int (-1)]) ⟨hx, hb, hml, hown, hts⟩ (mX12_see l dC dI rm km H.size) (cwV 0 hts (gV q_653 q_654 q_655 q_372 q_473) rfl rfl rfl mdv_yX12_see ⟨Nat.le_of_ble_eq_true rfl, Nat.le_of_ble_eq_true rfl⟩) ⟨fun a U g mk q => by obtain ⟨q0, q1, qP, qK, qD⟩ := q; exact ⟨q0, q1, qP, va_K.moved (u := U) (U := U.calling g mk a) (Vm.Alike.refl U.vm) qK, qD⟩, va_recv hKc hPc (ci := 12) (q0 := 0) rfl rfl, fun U hU hW => ⟨rfl, by rw [hU], by rw [hU]; exact hPc, va_K.moved hW.alike hKc, hDc.weaken (fun _ _ _ _ => trivial)⟩⟩ rfl rfl hl.1 rfl (lv_room (Nat.le_of_ble_eq_true rfl)) dL_law_872 ⟨Nat.le_of_ble_eq_true rfl, Nat.le_of_ble_eq_true rfl⟩) hS (fun q _ h => hFc q h) hFc (fun r_1776 u t H1 locs ht hvm hw hB hz1 hk1 hS => ?_)
  have hP1 : va_P (dC, dI) vwCl [] H1 := fun k q h => by simp at h
  have hD1 : va_D (va_A (wd_758 rm km) H.size) [] := ⟨fun i j p q h => by simp at h, fun k q h => by simp at h⟩
  obtain ⟨hP, hD⟩ := va_join (wr := []) (w1 := []) hP hD [0, 1, 2, 3, 4] [] rfl rfl (by decide) (by decide) hk1 hFc hP1 hD1
  generalize H1 = H at hP hS ⊢
  have hP : va_P (dC, dI) vwCl [] H := hP
  have hD : va_D A [] := hD
  obtain rfl : r_1776 = (-1) := hw
  refine lv_icmp_eq (tgt := 1165) hx hb dL_law_875 (by decide) (fun c_0 => ?_) (fun c_0 => absurd c_0 (by decide))
  exact law_tail C1 hS (lv_sub hl [0, 3] rfl)
set_option maxHeartbeats 4000000 in
set_option maxRecDepth 100000 in
theorem law_c26 {p : Program} {l : Launch} {e : Env} {s : State} {m : MethodId} {below : List Frame} {meth : Method} {c : Code} {b : Nat} {xs : Nat → Int32} {A : Nat → Prop} {H : Heap} {locs : List Loc} {ls : Array Slot} {dC : Nat → ClassId} {dI : Nat → Nat → Nat} {r : Nat → Nat} {k : Nat → ClassId} {rm : Nat → Nat} {km : Nat → ClassId} (C1 : lw_C p s m meth c b 6 xs A) (hP : va_P (dC, dI) vwCl (wd_897 r k rm km) H) (hD : va_D A (wd_897 r k rm km)) (hK : va_K (dC, dI) vwCl [((k 0), .int), ((k 1), .int), ((k 2), .int), ((km 0), .int), ((km 1), .int), ((km 2), .int), ((km 3), .int)] s) (hS : va_S A s.heap H locs) (hl : lv_has ls 4 [(3, .int 0), (2, .ref (rm 0)), (1, .ref (r 0)), (0, .ref b)]) : W p l e room_1 s m #[Value.ref b] below meth c H locs 179 95325 (lw_Z below #[Value.ref b] s) (F0 m 880 ls []) := by
  obtain ⟨hx, hb, hr, hml, hown, hts, hlocks, hX, hbl, hA, hAl, hbA⟩ := id C1
  refine lv_aload_n hx hb dL_law_880 rfl (lv_at hl 2 rfl) ?_
  refine lv_aload_n hx hb dL_law_881 rfl (lv_at hl 3 rfl) ?_
  refine lv_iload_n hx hb dL_law_882 rfl (lv_at hl 0 rfl) ?_
  refine lv_iconst (v := 1) hx hb dL_law_883 (by decide) ?_
  refine lv_iadd hx hb dL_law_884 ?_
  refine lv_topi (fun x_1777 ex_1777 => ?_)
  obtain rfl : x_1777 = 1 := ex_1777.trans (by decide)
  refine va_sld hx hb hX hbl hbA hS (vpi (by decide)) dL_law_885 ?_
  refine lv_topi (fun x_1778 ex_1778 => ?_)
  obtain rfl : x_1778 = xs 1 := ex_1778
  have hPc := hP.sub (ws' := (wd_495 r k)) [0, 1, 2, 3, 4, 5, 6, 7, 8, 9, 10, 11, 12, 13] rfl
  have hDc := hD.sub (ws' := (wd_495 r k)) [0, 1, 2, 3, 4, 5, 6, 7, 8, 9, 10, 11, 12, 13] (by decide) rfl
  have hKc := hK.sub (tys' := [((k 0), .int), ((k 1), .int), ((k 2), .int)]) [0, 1, 2] rfl
  have hFc := va_free (wc := (wd_495 r k)) hD hS hA [0, 1, 2, 3, 4, 5, 6, 7, 8, 9, 10, 11, 12, 13] rfl
  refine va_calli (va_runV (As := [.int (xs 1)]) (rest := []) ⟨hx, hb, hml, hown, hts⟩ (mX11_then l dC dI r k (xs 1) H.size) (cwV 1 hts (gV q_656 q_657 q_658 q_257 q_345) rfl rfl rfl mdv_yX11_then ⟨Nat.le_of_ble_eq_true rfl, Nat.le_of_ble_eq_true rfl⟩) ⟨fun a U g mk q => by obtain ⟨q0, q1, qP, qK, qD⟩ := q; exact ⟨q0, q1, qP, va_K.moved (u := U) (U := U.calling g mk a) (Vm.Alike.refl U.vm) qK, qD⟩, va_recv hKc hPc (ci := 11) (q0 := 0) rfl rfl, fun U hU hW => ⟨rfl, by rw [hU], by rw [hU]; exact hPc, va_K.moved hW.alike hKc, hDc.weaken (fun _ _ _ _ => trivial)⟩⟩ rfl rfl hl.1 rfl (lv_room (Nat.le_of_ble_eq_true rfl)) dL_law_886 ⟨Nat.le_of_ble_eq_true rfl, Nat.le_of_ble_eq_true rfl⟩) hS (fun q _ h => hFc q h) hFc (fun r_1779 u t H1 locs ht hvm hw hB hz1 hk1 hS => ?_)
  have hP1 : va_P (dC, dI) vwCl [] H1 := fun k q h => by simp at h
  have hD1 : va_D (va_A (wd_495 r k) H.size) [] := ⟨fun i j p q h => by simp at h, fun k q h => by simp at h⟩
  obtain ⟨hP, hD⟩ := va_join (wr := (wd_758 rm km)) (w1 := []) hP hD [0, 1, 2, 3, 4, 5, 6, 7, 8, 9, 10, 11, 12, 13] [14, 15, 16, 17, 18] rfl rfl (by decide) (by decide) hk1 hFc hP1 hD1
  generalize H1 = H at hP hS ⊢
  have hP : va_P (dC, dI) vwCl (wd_758 rm km) H := hP
  have hD : va_D A (wd_758 rm km) := hD
  obtain rfl : r_1779 = (-1) := hw
  refine lv_aload_n hx hb dL_law_889 rfl (lv_at hl 1 rfl) ?_
  refine lv_aload_n hx hb dL_law_890 rfl (lv_at hl 3 rfl) ?_
  refine lv_iload_n hx hb dL_law_891 rfl (lv_at hl 0 rfl) ?_
  refine lv_iconst (v := 1) hx hb dL_law_892 (by decide) ?_
  refine lv_iadd hx hb dL_law_893 ?_
  refine lv_topi (fun x_1780 ex_1780 => ?_)
  obtain rfl : x_1780 = 1 := ex_1780.trans (by decide)
  refine va_sld hx hb hX hbl hbA hS (vpi (by decide)) dL_law_894 ?_
  refine lv_topi (fun x_1781 ex_1781 => ?_)
  obtain rfl : x_1781 = xs 1 := ex_1781
  have hPc := hP.sub (ws' := (wd_758 rm km)) [0, 1, 2, 3, 4] rfl
  have hDc := hD.sub (ws' := (wd_758 rm km)) [0, 1, 2, 3, 4] (by decide) rfl
  have hKc := hK.sub (tys' := [((km 0), .int), ((km 1), .int), ((km 2), .int), ((km 3), .int)]) [3, 4, 5, 6] rfl
  have hFc := va_free (wc := (wd_758 rm km)) hD hS hA [0, 1, 2, 3, 4] rfl
  refine va_calli (va_runV (As := [.int (xs 1)]) (rest := [.int (-1)]) ⟨hx, hb, hml, hown, hts⟩ (mX12_then l dC dI rm km (xs 1) H.size) (cwV 1 hts (gV q_659 q_660 q_661 q_372 q_474) rfl rfl rfl mdv_yX12_then ⟨Nat.le_of_ble_eq_true rfl, Nat.le_of_ble_eq_true rfl⟩) ⟨fun a U g mk q => by obtain ⟨q0, q1, qP, qK, qD⟩ := q; exact ⟨q0, q1, qP, va_K.moved (u := U) (U := U.calling g mk a) (Vm.Alike.refl U.vm) qK, qD⟩, va_recv hKc hPc (ci := 12) (q0 := 0) rfl rfl, fun U hU hW => ⟨rfl, by rw [hU], by rw [hU]; exact hPc, va_K.moved hW.alike hKc, hDc.weaken (fun _ _ _ _ => trivial)⟩⟩ rfl rfl hl.1 rfl (lv_room (Nat.le_of_ble_eq_true rfl)) dL_law_895 ⟨Nat.le_of_ble_eq_true rfl, Nat.le_of_ble_eq_true rfl⟩) hS (fun q _ h => hFc q h) hFc (fun r_1782 u t H1 locs ht hvm hw hB hz1 hk1 hS => ?_)
  have hP1 : va_P (dC, dI) vwCl [] H1 := fun k q h => by simp at h
  have hD1 : va_D (va_A (wd_758 rm km) H.size) [] := ⟨fun i j p q h => by simp at h, fun k q h => by simp at h⟩
  obtain ⟨hP, hD⟩ := va_join (wr := []) (w1 := []) hP hD [0, 1, 2, 3, 4] [] rfl rfl (by decide) (by decide) hk1 hFc hP1 hD1
  generalize H1 = H at hP hS ⊢
  have hP : va_P (dC, dI) vwCl [] H := hP
  have hD : va_D A [] := hD
  obtain rfl : r_1782 = (-1) := hw
  refine lv_icmp_eq (tgt := 1165) hx hb dL_law_898 (by decide) (fun c_0 => ?_) (fun c_0 => absurd c_0 (by decide))
  exact law_tail C1 hS (lv_sub hl [0, 3] rfl)
set_option maxHeartbeats 4000000 in
set_option maxRecDepth 100000 in
theorem law_c27 {p : Program} {l : Launch} {e : Env} {s : State} {m : MethodId} {below : List Frame} {meth : Method} {c : Code} {b : Nat} {xs : Nat → Int32} {A : Nat → Prop} {H : Heap} {locs : List Loc} {ls : Array Slot} {dC : Nat → ClassId} {dI : Nat → Nat → Nat} {r : Nat → Nat} {k : Nat → ClassId} {rm : Nat → Nat} {km : Nat → ClassId} (C1 : lw_C p s m meth c b 6 xs A) (hP : va_P (dC, dI) vwCl (wd_897 r k rm km) H) (hD : va_D A (wd_897 r k rm km)) (hK : va_K (dC, dI) vwCl [((k 0), .int), ((k 1), .int), ((k 2), .int), ((km 0), .int), ((km 1), .int), ((km 2), .int), ((km 3), .int)] s) (hS : va_S A s.heap H locs) (hl : lv_has ls 4 [(3, .int 0), (2, .ref (rm 0)), (1, .ref (r 0)), (0, .ref b)]) : W p l e room_1 s m #[Value.ref b] below meth c H locs 179 95325 (lw_Z below #[Value.ref b] s) (F0 m 903 ls []) := by
  obtain ⟨hx, hb, hr, hml, hown, hts, hlocks, hX, hbl, hA, hAl, hbA⟩ := id C1
  refine lv_aload_n hx hb dL_law_903 rfl (lv_at hl 2 rfl) ?_
  refine lv_aload_n hx hb dL_law_904 rfl (lv_at hl 3 rfl) ?_
  refine lv_iload_n hx hb dL_law_905 rfl (lv_at hl 0 rfl) ?_
  refine lv_iconst (v := 1) hx hb dL_law_906 (by decide) ?_
  refine lv_iadd hx hb dL_law_907 ?_
  refine lv_topi (fun x_1783 ex_1783 => ?_)
  obtain rfl : x_1783 = 1 := ex_1783.trans (by decide)
  refine va_sld hx hb hX hbl hbA hS (vpi (by decide)) dL_law_908 ?_
  refine lv_topi (fun x_1784 ex_1784 => ?_)
  obtain rfl : x_1784 = xs 1 := ex_1784
  have hPc := hP.sub (ws' := (wd_495 r k)) [0, 1, 2, 3, 4, 5, 6, 7, 8, 9, 10, 11, 12, 13] rfl
  have hDc := hD.sub (ws' := (wd_495 r k)) [0, 1, 2, 3, 4, 5, 6, 7, 8, 9, 10, 11, 12, 13] (by decide) rfl
  have hKc := hK.sub (tys' := [((k 0), .int), ((k 1), .int), ((k 2), .int)]) [0, 1, 2] rfl
  have hFc := va_free (wc := (wd_495 r k)) hD hS hA [0, 1, 2, 3, 4, 5, 6, 7, 8, 9, 10, 11, 12, 13] rfl
  refine va_calli (va_runV (As := [.int (xs 1)]) (rest := []) ⟨hx, hb, hml, hown, hts⟩ (mX11_tells l dC dI r k (xs 1) H.size) (cwV 1 hts (gV q_662 q_663 q_664 q_257 q_346) rfl rfl rfl mdv_yX11_tells ⟨Nat.le_of_ble_eq_true rfl, Nat.le_of_ble_eq_true rfl⟩) ⟨fun a U g mk q => by obtain ⟨q0, q1, qP, qK, qD⟩ := q; exact ⟨q0, q1, qP, va_K.moved (u := U) (U := U.calling g mk a) (Vm.Alike.refl U.vm) qK, qD⟩, va_recv hKc hPc (ci := 11) (q0 := 0) rfl rfl, fun U hU hW => ⟨rfl, by rw [hU], by rw [hU]; exact hPc, va_K.moved hW.alike hKc, hDc.weaken (fun _ _ _ _ => trivial)⟩⟩ rfl rfl hl.1 rfl (lv_room (Nat.le_of_ble_eq_true rfl)) dL_law_909 ⟨Nat.le_of_ble_eq_true rfl, Nat.le_of_ble_eq_true rfl⟩) hS (fun q _ h => hFc q h) hFc (fun r_1785 u t H1 locs ht hvm hw hB hz1 hk1 hS => ?_)
  have hP1 : va_P (dC, dI) vwCl [] H1 := fun k q h => by simp at h
  have hD1 : va_D (va_A (wd_495 r k) H.size) [] := ⟨fun i j p q h => by simp at h, fun k q h => by simp at h⟩
  obtain ⟨hP, hD⟩ := va_join (wr := (wd_758 rm km)) (w1 := []) hP hD [0, 1, 2, 3, 4, 5, 6, 7, 8, 9, 10, 11, 12, 13] [14, 15, 16, 17, 18] rfl rfl (by decide) (by decide) hk1 hFc hP1 hD1
  generalize H1 = H at hP hS ⊢
  have hP : va_P (dC, dI) vwCl (wd_758 rm km) H := hP
  have hD : va_D A (wd_758 rm km) := hD
  obtain rfl : r_1785 = (-1) := hw
  refine lv_aload_n hx hb dL_law_912 rfl (lv_at hl 1 rfl) ?_
  refine lv_aload_n hx hb dL_law_913 rfl (lv_at hl 3 rfl) ?_
  refine lv_iload_n hx hb dL_law_914 rfl (lv_at hl 0 rfl) ?_
  refine lv_iconst (v := 1) hx hb dL_law_915 (by decide) ?_
  refine lv_iadd hx hb dL_law_916 ?_
  refine lv_topi (fun x_1786 ex_1786 => ?_)
  obtain rfl : x_1786 = 1 := ex_1786.trans (by decide)
  refine va_sld hx hb hX hbl hbA hS (vpi (by decide)) dL_law_917 ?_
  refine lv_topi (fun x_1787 ex_1787 => ?_)
  obtain rfl : x_1787 = xs 1 := ex_1787
  have hPc := hP.sub (ws' := (wd_758 rm km)) [0, 1, 2, 3, 4] rfl
  have hDc := hD.sub (ws' := (wd_758 rm km)) [0, 1, 2, 3, 4] (by decide) rfl
  have hKc := hK.sub (tys' := [((km 0), .int), ((km 1), .int), ((km 2), .int), ((km 3), .int)]) [3, 4, 5, 6] rfl
  have hFc := va_free (wc := (wd_758 rm km)) hD hS hA [0, 1, 2, 3, 4] rfl
  refine va_calli (va_runV (As := [.int (xs 1)]) (rest := [.int (-1)]) ⟨hx, hb, hml, hown, hts⟩ (mX12_tells l dC dI rm km (xs 1) H.size) (cwV 1 hts (gV q_665 q_666 q_667 q_372 q_475) rfl rfl rfl mdv_yX12_tells ⟨Nat.le_of_ble_eq_true rfl, Nat.le_of_ble_eq_true rfl⟩) ⟨fun a U g mk q => by obtain ⟨q0, q1, qP, qK, qD⟩ := q; exact ⟨q0, q1, qP, va_K.moved (u := U) (U := U.calling g mk a) (Vm.Alike.refl U.vm) qK, qD⟩, va_recv hKc hPc (ci := 12) (q0 := 0) rfl rfl, fun U hU hW => ⟨rfl, by rw [hU], by rw [hU]; exact hPc, va_K.moved hW.alike hKc, hDc.weaken (fun _ _ _ _ => trivial)⟩⟩ rfl rfl hl.1 rfl (lv_room (Nat.le_of_ble_eq_true rfl)) dL_law_918 ⟨Nat.le_of_ble_eq_true rfl, Nat.le_of_ble_eq_true rfl⟩) hS (fun q _ h => hFc q h) hFc (fun r_1788 u t H1 locs ht hvm hw hB hz1 hk1 hS => ?_)
  have hP1 : va_P (dC, dI) vwCl [] H1 := fun k q h => by simp at h
  have hD1 : va_D (va_A (wd_758 rm km) H.size) [] := ⟨fun i j p q h => by simp at h, fun k q h => by simp at h⟩
  obtain ⟨hP, hD⟩ := va_join (wr := []) (w1 := []) hP hD [0, 1, 2, 3, 4] [] rfl rfl (by decide) (by decide) hk1 hFc hP1 hD1
  generalize H1 = H at hP hS ⊢
  have hP : va_P (dC, dI) vwCl [] H := hP
  have hD : va_D A [] := hD
  obtain rfl : r_1788 = (-1) := hw
  refine lv_icmp_eq (tgt := 1165) hx hb dL_law_921 (by decide) (fun c_0 => ?_) (fun c_0 => absurd c_0 (by decide))
  exact law_tail C1 hS (lv_sub hl [0, 3] rfl)
set_option maxHeartbeats 4000000 in
set_option maxRecDepth 100000 in
theorem law_c28 {p : Program} {l : Launch} {e : Env} {s : State} {m : MethodId} {below : List Frame} {meth : Method} {c : Code} {b : Nat} {xs : Nat → Int32} {A : Nat → Prop} {H : Heap} {locs : List Loc} {ls : Array Slot} {dC : Nat → ClassId} {dI : Nat → Nat → Nat} {r : Nat → Nat} {k : Nat → ClassId} {rm : Nat → Nat} {km : Nat → ClassId} (C1 : lw_C p s m meth c b 6 xs A) (hP : va_P (dC, dI) vwCl (wd_897 r k rm km) H) (hD : va_D A (wd_897 r k rm km)) (hK : va_K (dC, dI) vwCl [((k 0), .int), ((k 1), .int), ((k 2), .int), ((km 0), .int), ((km 1), .int), ((km 2), .int), ((km 3), .int)] s) (hS : va_S A s.heap H locs) (hl : lv_has ls 4 [(3, .int 0), (2, .ref (rm 0)), (1, .ref (r 0)), (0, .ref b)]) : W p l e room_1 s m #[Value.ref b] below meth c H locs 179 95325 (lw_Z below #[Value.ref b] s) (F0 m 926 ls []) := by
  obtain ⟨hx, hb, hr, hml, hown, hts, hlocks, hX, hbl, hA, hAl, hbA⟩ := id C1
  refine lv_aload_n hx hb dL_law_926 rfl (lv_at hl 2 rfl) ?_
  have hPc := hP.sub (ws' := (wd_495 r k)) [0, 1, 2, 3, 4, 5, 6, 7, 8, 9, 10, 11, 12, 13] rfl
  have hDc := hD.sub (ws' := (wd_495 r k)) [0, 1, 2, 3, 4, 5, 6, 7, 8, 9, 10, 11, 12, 13] (by decide) rfl
  have hKc := hK.sub (tys' := [((k 0), .int), ((k 1), .int), ((k 2), .int)]) [0, 1, 2] rfl
  have hFc := va_free (wc := (wd_495 r k)) hD hS hA [0, 1, 2, 3, 4, 5, 6, 7, 8, 9, 10, 11, 12, 13] rfl
  refine va_calli (va_runV (As := []) (rest := []) ⟨hx, hb, hml, hown, hts⟩ (mX11_run l dC dI r k H.size) (cwV 0 hts (gV q_668 q_669 q_670 q_257 q_347) rfl rfl rfl mdv_yX11_run ⟨Nat.le_of_ble_eq_true rfl, Nat.le_of_ble_eq_true rfl⟩) ⟨fun a U g mk q => by obtain ⟨q0, q1, qP, qK, qD⟩ := q; exact ⟨q0, q1, qP, va_K.moved (u := U) (U := U.calling g mk a) (Vm.Alike.refl U.vm) qK, qD⟩, va_recv hKc hPc (ci := 11) (q0 := 0) rfl rfl, fun U hU hW => ⟨rfl, by rw [hU], by rw [hU]; exact hPc, va_K.moved hW.alike hKc, hDc.weaken (fun _ _ _ _ => trivial)⟩⟩ rfl rfl hl.1 rfl (lv_room (Nat.le_of_ble_eq_true rfl)) dL_law_927 ⟨Nat.le_of_ble_eq_true rfl, Nat.le_of_ble_eq_true rfl⟩) hS (fun q _ h => hFc q h) hFc (fun r_1789 u t H1 locs ht hvm hw hB hz1 hk1 hS => ?_)
  have hP1 : va_P (dC, dI) vwCl [] H1 := fun k q h => by simp at h
  have hD1 : va_D (va_A (wd_495 r k) H.size) [] := ⟨fun i j p q h => by simp at h, fun k q h => by simp at h⟩
  obtain ⟨hP, hD⟩ := va_join (wr := (wd_758 rm km)) (w1 := []) hP hD [0, 1, 2, 3, 4, 5, 6, 7, 8, 9, 10, 11, 12, 13] [14, 15, 16, 17, 18] rfl rfl (by decide) (by decide) hk1 hFc hP1 hD1
  generalize H1 = H at hP hS ⊢
  have hP : va_P (dC, dI) vwCl (wd_758 rm km) H := hP
  have hD : va_D A (wd_758 rm km) := hD
  obtain rfl : r_1789 = (-1) := hw
  refine lv_aload_n hx hb dL_law_930 rfl (lv_at hl 1 rfl) ?_
  have hPc := hP.sub (ws' := (wd_758 rm km)) [0, 1, 2, 3, 4] rfl
  have hDc := hD.sub (ws' := (wd_758 rm km)) [0, 1, 2, 3, 4] (by decide) rfl
  have hKc := hK.sub (tys' := [((km 0), .int), ((km 1), .int), ((km 2), .int), ((km 3), .int)]) [3, 4, 5, 6] rfl
  have hFc := va_free (wc := (wd_758 rm km)) hD hS hA [0, 1, 2, 3, 4] rfl
  refine va_calli (va_runV (As := []) (rest := [.int (-1)]) ⟨hx, hb, hml, hown, hts⟩ (mX12_run l dC dI rm km H.size) (cwV 0 hts (gV q_671 q_672 q_673 q_372 q_476) rfl rfl rfl mdv_yX12_run ⟨Nat.le_of_ble_eq_true rfl, Nat.le_of_ble_eq_true rfl⟩) ⟨fun a U g mk q => by obtain ⟨q0, q1, qP, qK, qD⟩ := q; exact ⟨q0, q1, qP, va_K.moved (u := U) (U := U.calling g mk a) (Vm.Alike.refl U.vm) qK, qD⟩, va_recv hKc hPc (ci := 12) (q0 := 0) rfl rfl, fun U hU hW => ⟨rfl, by rw [hU], by rw [hU]; exact hPc, va_K.moved hW.alike hKc, hDc.weaken (fun _ _ _ _ => trivial)⟩⟩ rfl rfl hl.1 rfl (lv_room (Nat.le_of_ble_eq_true rfl)) dL_law_931 ⟨Nat.le_of_ble_eq_true rfl, Nat.le_of_ble_eq_true rfl⟩) hS (fun q _ h => hFc q h) hFc (fun r_1790 u t H1 locs ht hvm hw hB hz1 hk1 hS => ?_)
  have hP1 : va_P (dC, dI) vwCl [] H1 := fun k q h => by simp at h
  have hD1 : va_D (va_A (wd_758 rm km) H.size) [] := ⟨fun i j p q h => by simp at h, fun k q h => by simp at h⟩
  obtain ⟨hP, hD⟩ := va_join (wr := []) (w1 := []) hP hD [0, 1, 2, 3, 4] [] rfl rfl (by decide) (by decide) hk1 hFc hP1 hD1
  generalize H1 = H at hP hS ⊢
  have hP : va_P (dC, dI) vwCl [] H := hP
  have hD : va_D A [] := hD
  obtain rfl : r_1790 = (-1) := hw
  refine lv_icmp_eq (tgt := 1165) hx hb dL_law_934 (by decide) (fun c_0 => ?_) (fun c_0 => absurd c_0 (by decide))
  exact law_tail C1 hS (lv_sub hl [0, 3] rfl)
set_option maxHeartbeats 4000000 in
set_option maxRecDepth 100000 in
theorem law_c29 {p : Program} {l : Launch} {e : Env} {s : State} {m : MethodId} {below : List Frame} {meth : Method} {c : Code} {b : Nat} {xs : Nat → Int32} {A : Nat → Prop} {H : Heap} {locs : List Loc} {ls : Array Slot} {dC : Nat → ClassId} {dI : Nat → Nat → Nat} {r : Nat → Nat} {k : Nat → ClassId} {rm : Nat → Nat} {km : Nat → ClassId} (C1 : lw_C p s m meth c b 6 xs A) (hP : va_P (dC, dI) vwCl (wd_897 r k rm km) H) (hD : va_D A (wd_897 r k rm km)) (hK : va_K (dC, dI) vwCl [((k 0), .int), ((k 1), .int), ((k 2), .int), ((km 0), .int), ((km 1), .int), ((km 2), .int), ((km 3), .int)] s) (hS : va_S A s.heap H locs) (hl : lv_has ls 4 [(3, .int 0), (2, .ref (rm 0)), (1, .ref (r 0)), (0, .ref b)]) : W p l e room_1 s m #[Value.ref b] below meth c H locs 179 95325 (lw_Z below #[Value.ref b] s) (F0 m 939 ls []) := by
  obtain ⟨hx, hb, hr, hml, hown, hts, hlocks, hX, hbl, hA, hAl, hbA⟩ := id C1
  refine lv_aload_n hx hb dL_law_939 rfl (lv_at hl 2 rfl) ?_
  refine lv_aload_n hx hb dL_law_940 rfl (lv_at hl 3 rfl) ?_
  refine lv_iload_n hx hb dL_law_941 rfl (lv_at hl 0 rfl) ?_
  refine lv_iconst (v := 1) hx hb dL_law_942 (by decide) ?_
  refine lv_iadd hx hb dL_law_943 ?_
  refine lv_topi (fun x_1791 ex_1791 => ?_)
  obtain rfl : x_1791 = 1 := ex_1791.trans (by decide)
  refine va_sld hx hb hX hbl hbA hS (vpi (by decide)) dL_law_944 ?_
  refine lv_topi (fun x_1792 ex_1792 => ?_)
  obtain rfl : x_1792 = xs 1 := ex_1792
  have hPc := hP.sub (ws' := (wd_495 r k)) [0, 1, 2, 3, 4, 5, 6, 7, 8, 9, 10, 11, 12, 13] rfl
  have hDc := hD.sub (ws' := (wd_495 r k)) [0, 1, 2, 3, 4, 5, 6, 7, 8, 9, 10, 11, 12, 13] (by decide) rfl
  have hKc := hK.sub (tys' := [((k 0), .int), ((k 1), .int), ((k 2), .int)]) [0, 1, 2] rfl
  have hFc := va_free (wc := (wd_495 r k)) hD hS hA [0, 1, 2, 3, 4, 5, 6, 7, 8, 9, 10, 11, 12, 13] rfl
  refine va_calli (va_runV (As := [.int (xs 1)]) (rest := []) ⟨hx, hb, hml, hown, hts⟩ (mX11_failed l dC dI r k (xs 1) H.size) (cwV 1 hts (gV q_674 q_675 q_676 q_257 q_348) rfl rfl rfl mdv_yX11_failed ⟨Nat.le_of_ble_eq_true rfl, Nat.le_of_ble_eq_true rfl⟩) ⟨fun a U g mk q => by obtain ⟨q0, q1, qP, qK, qD⟩ := q; exact ⟨q0, q1, qP, va_K.moved (u := U) (U := U.calling g mk a) (Vm.Alike.refl U.vm) qK, qD⟩, va_recv hKc hPc (ci := 11) (q0 := 0) rfl rfl, fun U hU hW => ⟨rfl, by rw [hU], by rw [hU]; exact hPc, va_K.moved hW.alike hKc, hDc.weaken (fun _ _ _ _ => trivial)⟩⟩ rfl rfl hl.1 rfl (lv_room (Nat.le_of_ble_eq_true rfl)) dL_law_945 ⟨Nat.le_of_ble_eq_true rfl, Nat.le_of_ble_eq_true rfl⟩) hS (fun q _ h => hFc q h) hFc (fun r_1793 u t H1 locs ht hvm hw hB hz1 hk1 hS => ?_)
  have hP1 : va_P (dC, dI) vwCl [] H1 := fun k q h => by simp at h
  have hD1 : va_D (va_A (wd_495 r k) H.size) [] := ⟨fun i j p q h => by simp at h, fun k q h => by simp at h⟩
  obtain ⟨hP, hD⟩ := va_join (wr := (wd_758 rm km)) (w1 := []) hP hD [0, 1, 2, 3, 4, 5, 6, 7, 8, 9, 10, 11, 12, 13] [14, 15, 16, 17, 18] rfl rfl (by decide) (by decide) hk1 hFc hP1 hD1
  generalize H1 = H at hP hS ⊢
  have hP : va_P (dC, dI) vwCl (wd_758 rm km) H := hP
  have hD : va_D A (wd_758 rm km) := hD
  obtain rfl : r_1793 = (sp_1 (xs 1)) := hw
  refine lv_aload_n hx hb dL_law_948 rfl (lv_at hl 1 rfl) ?_
  refine lv_aload_n hx hb dL_law_949 rfl (lv_at hl 3 rfl) ?_
  refine lv_iload_n hx hb dL_law_950 rfl (lv_at hl 0 rfl) ?_
  refine lv_iconst (v := 1) hx hb dL_law_951 (by decide) ?_
  refine lv_iadd hx hb dL_law_952 ?_
  refine lv_topi (fun x_1794 ex_1794 => ?_)
  obtain rfl : x_1794 = 1 := ex_1794.trans (by decide)
  refine va_sld hx hb hX hbl hbA hS (vpi (by decide)) dL_law_953 ?_
  refine lv_topi (fun x_1795 ex_1795 => ?_)
  obtain rfl : x_1795 = xs 1 := ex_1795
  have hPc := hP.sub (ws' := (wd_758 rm km)) [0, 1, 2, 3, 4] rfl
  have hDc := hD.sub (ws' := (wd_758 rm km)) [0, 1, 2, 3, 4] (by decide) rfl
  have hKc := hK.sub (tys' := [((km 0), .int), ((km 1), .int), ((km 2), .int), ((km 3), .int)]) [3, 4, 5, 6] rfl
  have hFc := va_free (wc := (wd_758 rm km)) hD hS hA [0, 1, 2, 3, 4] rfl
  refine va_calli (va_runV (As := [.int (xs 1)]) (rest := [.int (sp_1 (xs 1))]) ⟨hx, hb, hml, hown, hts⟩ (mX12_failed l dC dI rm km (xs 1) H.size) (cwV 1 hts (gV q_677 q_678 q_679 q_372 q_481) rfl rfl rfl mdv_yX12_failed ⟨Nat.le_of_ble_eq_true rfl, Nat.le_of_ble_eq_true rfl⟩) ⟨fun a U g mk q => by obtain ⟨q0, q1, qP, qK, qD⟩ := q; exact ⟨q0, q1, qP, va_K.moved (u := U) (U := U.calling g mk a) (Vm.Alike.refl U.vm) qK, qD⟩, va_recv hKc hPc (ci := 12) (q0 := 0) rfl rfl, fun U hU hW => ⟨rfl, by rw [hU], by rw [hU]; exact hPc, va_K.moved hW.alike hKc, hDc.weaken (fun _ _ _ _ => trivial)⟩⟩ rfl rfl hl.1 rfl (lv_room (Nat.le_of_ble_eq_true rfl)) dL_law_954 ⟨Nat.le_of_ble_eq_true rfl, Nat.le_of_ble_eq_true rfl⟩) hS (fun q _ h => hFc q h) hFc (fun r_1796 u t H1 locs ht hvm hw hB hz1 hk1 hS => ?_)
  have hP1 : va_P (dC, dI) vwCl [] H1 := fun k q h => by simp at h
  have hD1 : va_D (va_A (wd_758 rm km) H.size) [] := ⟨fun i j p q h => by simp at h, fun k q h => by simp at h⟩
  obtain ⟨hP, hD⟩ := va_join (wr := []) (w1 := []) hP hD [0, 1, 2, 3, 4] [] rfl rfl (by decide) (by decide) hk1 hFc hP1 hD1
  generalize H1 = H at hP hS ⊢
  have hP : va_P (dC, dI) vwCl [] H := hP
  have hD : va_D A [] := hD
  obtain rfl : r_1796 = (sp_1 (xs 1)) := hw
  refine lv_icmp_eq (tgt := 1165) hx hb dL_law_957 (by decide) (fun c_0 => ?_) (fun c_0 => absurd rfl c_0)
  exact law_tail C1 hS (lv_sub hl [0, 3] rfl)
set_option maxHeartbeats 4000000 in
set_option maxRecDepth 100000 in
theorem law_c30 {p : Program} {l : Launch} {e : Env} {s : State} {m : MethodId} {below : List Frame} {meth : Method} {c : Code} {b : Nat} {xs : Nat → Int32} {A : Nat → Prop} {H : Heap} {locs : List Loc} {ls : Array Slot} {dC : Nat → ClassId} {dI : Nat → Nat → Nat} {r : Nat → Nat} {k : Nat → ClassId} {rm : Nat → Nat} {km : Nat → ClassId} (C1 : lw_C p s m meth c b 6 xs A) (hP : va_P (dC, dI) vwCl (wd_897 r k rm km) H) (hD : va_D A (wd_897 r k rm km)) (hK : va_K (dC, dI) vwCl [((k 0), .int), ((k 1), .int), ((k 2), .int), ((km 0), .int), ((km 1), .int), ((km 2), .int), ((km 3), .int)] s) (hS : va_S A s.heap H locs) (hl : lv_has ls 4 [(3, .int 0), (2, .ref (rm 0)), (1, .ref (r 0)), (0, .ref b)]) : W p l e room_1 s m #[Value.ref b] below meth c H locs 179 95325 (lw_Z below #[Value.ref b] s) (F0 m 962 ls []) := by
  obtain ⟨hx, hb, hr, hml, hown, hts, hlocks, hX, hbl, hA, hAl, hbA⟩ := id C1
  refine lv_aload_n hx hb dL_law_962 rfl (lv_at hl 2 rfl) ?_
  have hPc := hP.sub (ws' := (wd_495 r k)) [0, 1, 2, 3, 4, 5, 6, 7, 8, 9, 10, 11, 12, 13] rfl
  have hDc := hD.sub (ws' := (wd_495 r k)) [0, 1, 2, 3, 4, 5, 6, 7, 8, 9, 10, 11, 12, 13] (by decide) rfl
  have hKc := hK.sub (tys' := [((k 0), .int), ((k 1), .int), ((k 2), .int)]) [0, 1, 2] rfl
  have hFc := va_free (wc := (wd_495 r k)) hD hS hA [0, 1, 2, 3, 4, 5, 6, 7, 8, 9, 10, 11, 12, 13] rfl
  refine va_calli (va_runV (As := []) (rest := []) ⟨hx, hb, hml, hown, hts⟩ (mX11_collect l dC dI r k H.size) (cwV 0 hts (gV q_680 q_681 q_682 q_257 q_351) rfl rfl rfl mdv_yX11_collect ⟨Nat.le_of_ble_eq_true rfl, Nat.le_of_ble_eq_true rfl⟩) ⟨fun a U g mk q => by obtain ⟨q0, q1, qP, qK, qD⟩ := q; exact ⟨q0, q1, qP, va_K.moved (u := U) (U := U.calling g mk a) (Vm.Alike.refl U.vm) qK, qD⟩, va_recv hKc hPc (ci := 11) (q0 := 0) rfl rfl, fun U hU hW => ⟨rfl, by rw [hU], by rw [hU]; exact hPc, va_K.moved hW.alike hKc, hDc.weaken (fun _ _ _ _ => trivial)⟩⟩ rfl rfl hl.1 rfl (lv_room (Nat.le_of_ble_eq_true rfl)) dL_law_963 ⟨Nat.le_of_ble_eq_true rfl, Nat.le_of_ble_eq_true rfl⟩) hS (fun q _ h => hFc q h) hFc (fun r_1797 u t H1 locs ht hvm hw hB hz1 hk1 hS => ?_)
  have hP1 : va_P (dC, dI) vwCl [] H1 := fun k q h => by simp at h
  have hD1 : va_D (va_A (wd_495 r k) H.size) [] := ⟨fun i j p q h => by simp at h, fun k q h => by simp at h⟩
  obtain ⟨hP, hD⟩ := va_join (wr := (wd_758 rm km)) (w1 := []) hP hD [0, 1, 2, 3, 4, 5, 6, 7, 8, 9, 10, 11, 12, 13] [14, 15, 16, 17, 18] rfl rfl (by decide) (by decide) hk1 hFc hP1 hD1
  generalize H1 = H at hP hS ⊢
  have hP : va_P (dC, dI) vwCl (wd_758 rm km) H := hP
  have hD : va_D A (wd_758 rm km) := hD
  obtain rfl : r_1797 = (-1) := hw
  refine lv_aload_n hx hb dL_law_966 rfl (lv_at hl 1 rfl) ?_
  have hPc := hP.sub (ws' := (wd_758 rm km)) [0, 1, 2, 3, 4] rfl
  have hDc := hD.sub (ws' := (wd_758 rm km)) [0, 1, 2, 3, 4] (by decide) rfl
  have hKc := hK.sub (tys' := [((km 0), .int), ((km 1), .int), ((km 2), .int), ((km 3), .int)]) [3, 4, 5, 6] rfl
  have hFc := va_free (wc := (wd_758 rm km)) hD hS hA [0, 1, 2, 3, 4] rfl
  refine va_calli (va_runV (As := []) (rest := [.int (-1)]) ⟨hx, hb, hml, hown, hts⟩ (mX12_collect l dC dI rm km H.size) (cwV 0 hts (gV q_683 q_684 q_685 q_372 q_483) rfl rfl rfl mdv_yX12_collect ⟨Nat.le_of_ble_eq_true rfl, Nat.le_of_ble_eq_true rfl⟩) ⟨fun a U g mk q => by obtain ⟨q0, q1, qP, qK, qD⟩ := q; exact ⟨q0, q1, qP, va_K.moved (u := U) (U := U.calling g mk a) (Vm.Alike.refl U.vm) qK, qD⟩, va_recv hKc hPc (ci := 12) (q0 := 0) rfl rfl, fun U hU hW => ⟨rfl, by rw [hU], by rw [hU]; exact hPc, va_K.moved hW.alike hKc, hDc.weaken (fun _ _ _ _ => trivial)⟩⟩ rfl rfl hl.1 rfl (lv_room (Nat.le_of_ble_eq_true rfl)) dL_law_967 ⟨Nat.le_of_ble_eq_true rfl, Nat.le_of_ble_eq_true rfl⟩) hS (fun q _ h => hFc q h) hFc (fun r_1798 u t H1 locs ht hvm hw hB hz1 hk1 hS => ?_)
  have hP1 : va_P (dC, dI) vwCl [] H1 := fun k q h => by simp at h
  have hD1 : va_D (va_A (wd_758 rm km) H.size) [] := ⟨fun i j p q h => by simp at h, fun k q h => by simp at h⟩
  obtain ⟨hP, hD⟩ := va_join (wr := []) (w1 := []) hP hD [0, 1, 2, 3, 4] [] rfl rfl (by decide) (by decide) hk1 hFc hP1 hD1
  generalize H1 = H at hP hS ⊢
  have hP : va_P (dC, dI) vwCl [] H := hP
  have hD : va_D A [] := hD
  obtain rfl : r_1798 = (-1) := hw
  refine lv_icmp_eq (tgt := 1165) hx hb dL_law_970 (by decide) (fun c_0 => ?_) (fun c_0 => absurd c_0 (by decide))
  exact law_tail C1 hS (lv_sub hl [0, 3] rfl)
set_option maxHeartbeats 4000000 in
set_option maxRecDepth 100000 in
theorem law_c31 {p : Program} {l : Launch} {e : Env} {s : State} {m : MethodId} {below : List Frame} {meth : Method} {c : Code} {b : Nat} {xs : Nat → Int32} {A : Nat → Prop} {H : Heap} {locs : List Loc} {ls : Array Slot} {dC : Nat → ClassId} {dI : Nat → Nat → Nat} {r : Nat → Nat} {k : Nat → ClassId} {rm : Nat → Nat} {km : Nat → ClassId} (C1 : lw_C p s m meth c b 6 xs A) (hP : va_P (dC, dI) vwCl (wd_897 r k rm km) H) (hD : va_D A (wd_897 r k rm km)) (hK : va_K (dC, dI) vwCl [((k 0), .int), ((k 1), .int), ((k 2), .int), ((km 0), .int), ((km 1), .int), ((km 2), .int), ((km 3), .int)] s) (hS : va_S A s.heap H locs) (hl : lv_has ls 4 [(3, .int 0), (2, .ref (rm 0)), (1, .ref (r 0)), (0, .ref b)]) : W p l e room_1 s m #[Value.ref b] below meth c H locs 179 95325 (lw_Z below #[Value.ref b] s) (F0 m 975 ls []) := by
  obtain ⟨hx, hb, hr, hml, hown, hts, hlocks, hX, hbl, hA, hAl, hbA⟩ := id C1
  refine lv_aload_n hx hb dL_law_975 rfl (lv_at hl 2 rfl) ?_
  have hPc := hP.sub (ws' := (wd_495 r k)) [0, 1, 2, 3, 4, 5, 6, 7, 8, 9, 10, 11, 12, 13] rfl
  have hDc := hD.sub (ws' := (wd_495 r k)) [0, 1, 2, 3, 4, 5, 6, 7, 8, 9, 10, 11, 12, 13] (by decide) rfl
  have hKc := hK.sub (tys' := [((k 0), .int), ((k 1), .int), ((k 2), .int)]) [0, 1, 2] rfl
  have hFc := va_free (wc := (wd_495 r k)) hD hS hA [0, 1, 2, 3, 4, 5, 6, 7, 8, 9, 10, 11, 12, 13] rfl
  refine va_calli (va_runV (As := []) (rest := []) ⟨hx, hb, hml, hown, hts⟩ (mX11_begin l dC dI r k H.size) (cwV 0 hts (gV q_686 q_687 q_688 q_257 q_352) rfl rfl rfl mdv_yX11_begin ⟨Nat.le_of_ble_eq_true rfl, Nat.le_of_ble_eq_true rfl⟩) ⟨fun a U g mk q => by obtain ⟨q0, q1, qP, qK, qD⟩ := q; exact ⟨q0, q1, qP, va_K.moved (u := U) (U := U.calling g mk a) (Vm.Alike.refl U.vm) qK, qD⟩, va_recv hKc hPc (ci := 11) (q0 := 0) rfl rfl, fun U hU hW => ⟨rfl, by rw [hU], by rw [hU]; exact hPc, va_K.moved hW.alike hKc, hDc.weaken (fun _ _ _ _ => trivial)⟩⟩ rfl rfl hl.1 rfl (lv_room (Nat.le_of_ble_eq_true rfl)) dL_law_976 ⟨Nat.le_of_ble_eq_true rfl, Nat.le_of_ble_eq_true rfl⟩) hS (fun q _ h => hFc q h) hFc (fun r_1799 u t H1 locs ht hvm hw hB hz1 hk1 hS => ?_)
  have hP1 : va_P (dC, dI) vwCl [] H1 := fun k q h => by simp at h
  have hD1 : va_D (va_A (wd_495 r k) H.size) [] := ⟨fun i j p q h => by simp at h, fun k q h => by simp at h⟩
  obtain ⟨hP, hD⟩ := va_join (wr := (wd_758 rm km)) (w1 := []) hP hD [0, 1, 2, 3, 4, 5, 6, 7, 8, 9, 10, 11, 12, 13] [14, 15, 16, 17, 18] rfl rfl (by decide) (by decide) hk1 hFc hP1 hD1
  generalize H1 = H at hP hS ⊢
  have hP : va_P (dC, dI) vwCl (wd_758 rm km) H := hP
  have hD : va_D A (wd_758 rm km) := hD
  obtain rfl : r_1799 = (-1) := hw
  refine lv_aload_n hx hb dL_law_979 rfl (lv_at hl 1 rfl) ?_
  have hPc := hP.sub (ws' := (wd_758 rm km)) [0, 1, 2, 3, 4] rfl
  have hDc := hD.sub (ws' := (wd_758 rm km)) [0, 1, 2, 3, 4] (by decide) rfl
  have hKc := hK.sub (tys' := [((km 0), .int), ((km 1), .int), ((km 2), .int), ((km 3), .int)]) [3, 4, 5, 6] rfl
  have hFc := va_free (wc := (wd_758 rm km)) hD hS hA [0, 1, 2, 3, 4] rfl
  refine va_calli (va_runV (As := []) (rest := [.int (-1)]) ⟨hx, hb, hml, hown, hts⟩ (mX12_begin l dC dI rm km H.size) (cwV 0 hts (gV q_689 q_690 q_691 q_372 q_484) rfl rfl rfl mdv_yX12_begin ⟨Nat.le_of_ble_eq_true rfl, Nat.le_of_ble_eq_true rfl⟩) ⟨fun a U g mk q => by obtain ⟨q0, q1, qP, qK, qD⟩ := q; exact ⟨q0, q1, qP, va_K.moved (u := U) (U := U.calling g mk a) (Vm.Alike.refl U.vm) qK, qD⟩, va_recv hKc hPc (ci := 12) (q0 := 0) rfl rfl, fun U hU hW => ⟨rfl, by rw [hU], by rw [hU]; exact hPc, va_K.moved hW.alike hKc, hDc.weaken (fun _ _ _ _ => trivial)⟩⟩ rfl rfl hl.1 rfl (lv_room (Nat.le_of_ble_eq_true rfl)) dL_law_980 ⟨Nat.le_of_ble_eq_true rfl, Nat.le_of_ble_eq_true rfl⟩) hS (fun q _ h => hFc q h) hFc (fun r_1800 u t H1 locs ht hvm hw hB hz1 hk1 hS => ?_)
  have hP1 : va_P (dC, dI) vwCl [] H1 := fun k q h => by simp at h
  have hD1 : va_D (va_A (wd_758 rm km) H.size) [] := ⟨fun i j p q h => by simp at h, fun k q h => by simp at h⟩
  obtain ⟨hP, hD⟩ := va_join (wr := []) (w1 := []) hP hD [0, 1, 2, 3, 4] [] rfl rfl (by decide) (by decide) hk1 hFc hP1 hD1
  generalize H1 = H at hP hS ⊢
  have hP : va_P (dC, dI) vwCl [] H := hP
  have hD : va_D A [] := hD
  obtain rfl : r_1800 = (-1) := hw
  refine lv_icmp_eq (tgt := 1165) hx hb dL_law_983 (by decide) (fun c_0 => ?_) (fun c_0 => absurd c_0 (by decide))
  exact law_tail C1 hS (lv_sub hl [0, 3] rfl)
set_option maxHeartbeats 4000000 in
set_option maxRecDepth 100000 in
theorem law_c32 {p : Program} {l : Launch} {e : Env} {s : State} {m : MethodId} {below : List Frame} {meth : Method} {c : Code} {b : Nat} {xs : Nat → Int32} {A : Nat → Prop} {H : Heap} {locs : List Loc} {ls : Array Slot} {dC : Nat → ClassId} {dI : Nat → Nat → Nat} {r : Nat → Nat} {k : Nat → ClassId} {rm : Nat → Nat} {km : Nat → ClassId} (C1 : lw_C p s m meth c b 6 xs A) (hP : va_P (dC, dI) vwCl (wd_897 r k rm km) H) (hD : va_D A (wd_897 r k rm km)) (hK : va_K (dC, dI) vwCl [((k 0), .int), ((k 1), .int), ((k 2), .int), ((km 0), .int), ((km 1), .int), ((km 2), .int), ((km 3), .int)] s) (hS : va_S A s.heap H locs) (hl : lv_has ls 4 [(3, .int 0), (2, .ref (rm 0)), (1, .ref (r 0)), (0, .ref b)]) : W p l e room_1 s m #[Value.ref b] below meth c H locs 179 95325 (lw_Z below #[Value.ref b] s) (F0 m 988 ls []) := by
  obtain ⟨hx, hb, hr, hml, hown, hts, hlocks, hX, hbl, hA, hAl, hbA⟩ := id C1
  refine lv_aload_n hx hb dL_law_988 rfl (lv_at hl 2 rfl) ?_
  refine lv_aload_n hx hb dL_law_989 rfl (lv_at hl 3 rfl) ?_
  refine lv_iload_n hx hb dL_law_990 rfl (lv_at hl 0 rfl) ?_
  refine lv_iconst (v := 1) hx hb dL_law_991 (by decide) ?_
  refine lv_iadd hx hb dL_law_992 ?_
  refine lv_topi (fun x_1801 ex_1801 => ?_)
  obtain rfl : x_1801 = 1 := ex_1801.trans (by decide)
  refine va_sld hx hb hX hbl hbA hS (vpi (by decide)) dL_law_993 ?_
  refine lv_topi (fun x_1802 ex_1802 => ?_)
  obtain rfl : x_1802 = xs 1 := ex_1802
  have hPc := hP.sub (ws' := (wd_495 r k)) [0, 1, 2, 3, 4, 5, 6, 7, 8, 9, 10, 11, 12, 13] rfl
  have hDc := hD.sub (ws' := (wd_495 r k)) [0, 1, 2, 3, 4, 5, 6, 7, 8, 9, 10, 11, 12, 13] (by decide) rfl
  have hKc := hK.sub (tys' := [((k 0), .int), ((k 1), .int), ((k 2), .int)]) [0, 1, 2] rfl
  have hFc := va_free (wc := (wd_495 r k)) hD hS hA [0, 1, 2, 3, 4, 5, 6, 7, 8, 9, 10, 11, 12, 13] rfl
  refine va_calli (va_runV (As := [.int (xs 1)]) (rest := []) ⟨hx, hb, hml, hown, hts⟩ (mX11_step l dC dI r k (xs 1) H.size) (cwV 1 hts (gV q_692 q_693 q_694 q_257 q_353) rfl rfl rfl mdv_yX11_step ⟨Nat.le_of_ble_eq_true rfl, Nat.le_of_ble_eq_true rfl⟩) ⟨fun a U g mk q => by obtain ⟨q0, q1, qP, qK, qD⟩ := q; exact ⟨q0, q1, qP, va_K.moved (u := U) (U := U.calling g mk a) (Vm.Alike.refl U.vm) qK, qD⟩, va_recv hKc hPc (ci := 11) (q0 := 0) rfl rfl, fun U hU hW => ⟨rfl, by rw [hU], by rw [hU]; exact hPc, va_K.moved hW.alike hKc, hDc.weaken (fun _ _ _ _ => trivial)⟩⟩ rfl rfl hl.1 rfl (lv_room (Nat.le_of_ble_eq_true rfl)) dL_law_994 ⟨Nat.le_of_ble_eq_true rfl, Nat.le_of_ble_eq_true rfl⟩) hS (fun q _ h => hFc q h) hFc (fun r_1803 u t H1 locs ht hvm hw hB hz1 hk1 hS => ?_)
  have hP1 : va_P (dC, dI) vwCl [] H1 := fun k q h => by simp at h
  have hD1 : va_D (va_A (wd_495 r k) H.size) [] := ⟨fun i j p q h => by simp at h, fun k q h => by simp at h⟩
  obtain ⟨hP, hD⟩ := va_join (wr := (wd_758 rm km)) (w1 := []) hP hD [0, 1, 2, 3, 4, 5, 6, 7, 8, 9, 10, 11, 12, 13] [14, 15, 16, 17, 18] rfl rfl (by decide) (by decide) hk1 hFc hP1 hD1
  generalize H1 = H at hP hS ⊢
  have hP : va_P (dC, dI) vwCl (wd_758 rm km) H := hP
  have hD : va_D A (wd_758 rm km) := hD
  obtain rfl : r_1803 = (-1) := hw
  refine lv_aload_n hx hb dL_law_997 rfl (lv_at hl 1 rfl) ?_
  refine lv_aload_n hx hb dL_law_998 rfl (lv_at hl 3 rfl) ?_
  refine lv_iload_n hx hb dL_law_999 rfl (lv_at hl 0 rfl) ?_
  refine lv_iconst (v := 1) hx hb dL_law_1000 (by decide) ?_
  refine lv_iadd hx hb dL_law_1001 ?_
  refine lv_topi (fun x_1804 ex_1804 => ?_)
  obtain rfl : x_1804 = 1 := ex_1804.trans (by decide)
  refine va_sld hx hb hX hbl hbA hS (vpi (by decide)) dL_law_1002 ?_
  refine lv_topi (fun x_1805 ex_1805 => ?_)
  obtain rfl : x_1805 = xs 1 := ex_1805
  have hPc := hP.sub (ws' := (wd_758 rm km)) [0, 1, 2, 3, 4] rfl
  have hDc := hD.sub (ws' := (wd_758 rm km)) [0, 1, 2, 3, 4] (by decide) rfl
  have hKc := hK.sub (tys' := [((km 0), .int), ((km 1), .int), ((km 2), .int), ((km 3), .int)]) [3, 4, 5, 6] rfl
  have hFc := va_free (wc := (wd_758 rm km)) hD hS hA [0, 1, 2, 3, 4] rfl
  refine va_calli (va_runV (As := [.int (xs 1)]) (rest := [.int (-1)]) ⟨hx, hb, hml, hown, hts⟩ (mX12_step l dC dI rm km (xs 1) H.size) (cwV 1 hts (gV q_695 q_696 q_697 q_372 q_485) rfl rfl rfl mdv_yX12_step ⟨Nat.le_of_ble_eq_true rfl, Nat.le_of_ble_eq_true rfl⟩) ⟨fun a U g mk q => by obtain ⟨q0, q1, qP, qK, qD⟩ := q; exact ⟨q0, q1, qP, va_K.moved (u := U) (U := U.calling g mk a) (Vm.Alike.refl U.vm) qK, qD⟩, va_recv hKc hPc (ci := 12) (q0 := 0) rfl rfl, fun U hU hW => ⟨rfl, by rw [hU], by rw [hU]; exact hPc, va_K.moved hW.alike hKc, hDc.weaken (fun _ _ _ _ => trivial)⟩⟩ rfl rfl hl.1 rfl (lv_room (Nat.le_of_ble_eq_true rfl)) dL_law_1003 ⟨Nat.le_of_ble_eq_true rfl, Nat.le_of_ble_eq_true rfl⟩) hS (fun q _ h => hFc q h) hFc (fun r_1806 u t H1 locs ht hvm hw hB hz1 hk1 hS => ?_)
  have hP1 : va_P (dC, dI) vwCl [] H1 := fun k q h => by simp at h
  have hD1 : va_D (va_A (wd_758 rm km) H.size) [] := ⟨fun i j p q h => by simp at h, fun k q h => by simp at h⟩
  obtain ⟨hP, hD⟩ := va_join (wr := []) (w1 := []) hP hD [0, 1, 2, 3, 4] [] rfl rfl (by decide) (by decide) hk1 hFc hP1 hD1
  generalize H1 = H at hP hS ⊢
  have hP : va_P (dC, dI) vwCl [] H := hP
  have hD : va_D A [] := hD
  obtain rfl : r_1806 = (-1) := hw
  refine lv_icmp_eq (tgt := 1165) hx hb dL_law_1006 (by decide) (fun c_0 => ?_) (fun c_0 => absurd c_0 (by decide))
  exact law_tail C1 hS (lv_sub hl [0, 3] rfl)
set_option maxHeartbeats 4000000 in
set_option maxRecDepth 100000 in
theorem law_c33 {p : Program} {l : Launch} {e : Env} {s : State} {m : MethodId} {below : List Frame} {meth : Method} {c : Code} {b : Nat} {xs : Nat → Int32} {A : Nat → Prop} {H : Heap} {locs : List Loc} {ls : Array Slot} {dC : Nat → ClassId} {dI : Nat → Nat → Nat} {r : Nat → Nat} {k : Nat → ClassId} {rm : Nat → Nat} {km : Nat → ClassId} (C1 : lw_C p s m meth c b 6 xs A) (hP : va_P (dC, dI) vwCl (wd_897 r k rm km) H) (hD : va_D A (wd_897 r k rm km)) (hK : va_K (dC, dI) vwCl [((k 0), .int), ((k 1), .int), ((k 2), .int), ((km 0), .int), ((km 1), .int), ((km 2), .int), ((km 3), .int)] s) (hS : va_S A s.heap H locs) (hl : lv_has ls 4 [(3, .int 0), (2, .ref (rm 0)), (1, .ref (r 0)), (0, .ref b)]) : W p l e room_1 s m #[Value.ref b] below meth c H locs 179 95325 (lw_Z below #[Value.ref b] s) (F0 m 1011 ls []) := by
  obtain ⟨hx, hb, hr, hml, hown, hts, hlocks, hX, hbl, hA, hAl, hbA⟩ := id C1
  refine lv_aload_n hx hb dL_law_1011 rfl (lv_at hl 2 rfl) ?_
  refine lv_aload_n hx hb dL_law_1012 rfl (lv_at hl 3 rfl) ?_
  refine lv_iload_n hx hb dL_law_1013 rfl (lv_at hl 0 rfl) ?_
  refine lv_iconst (v := 1) hx hb dL_law_1014 (by decide) ?_
  refine lv_iadd hx hb dL_law_1015 ?_
  refine lv_topi (fun x_1807 ex_1807 => ?_)
  obtain rfl : x_1807 = 1 := ex_1807.trans (by decide)
  refine va_sld hx hb hX hbl hbA hS (vpi (by decide)) dL_law_1016 ?_
  refine lv_topi (fun x_1808 ex_1808 => ?_)
  obtain rfl : x_1808 = xs 1 := ex_1808
  have hPc := hP.sub (ws' := (wd_495 r k)) [0, 1, 2, 3, 4, 5, 6, 7, 8, 9, 10, 11, 12, 13] rfl
  have hDc := hD.sub (ws' := (wd_495 r k)) [0, 1, 2, 3, 4, 5, 6, 7, 8, 9, 10, 11, 12, 13] (by decide) rfl
  have hKc := hK.sub (tys' := [((k 0), .int), ((k 1), .int), ((k 2), .int)]) [0, 1, 2] rfl
  have hFc := va_free (wc := (wd_495 r k)) hD hS hA [0, 1, 2, 3, 4, 5, 6, 7, 8, 9, 10, 11, 12, 13] rfl
  refine va_calli (va_runV (As := [.int (xs 1)]) (rest := []) ⟨hx, hb, hml, hown, hts⟩ (mX11_method l dC dI r k (xs 1) H.size) (cwV 1 hts (gV q_698 q_699 q_700 q_257 q_354) rfl rfl rfl mdv_yX11_method ⟨Nat.le_of_ble_eq_true rfl, Nat.le_of_ble_eq_true rfl⟩) ⟨fun a U g mk q => by obtain ⟨q0, q1, qP, qK, qD⟩ := q; exact ⟨q0, q1, qP, va_K.moved (u := U) (U := U.calling g mk a) (Vm.Alike.refl U.vm) qK, qD⟩, va_recv hKc hPc (ci := 11) (q0 := 0) rfl rfl, fun U hU hW => ⟨rfl, by rw [hU], by rw [hU]; exact hPc, va_K.moved hW.alike hKc, hDc.weaken (fun _ _ _ _ => trivial)⟩⟩ rfl rfl hl.1 rfl (lv_room (Nat.le_of_ble_eq_true rfl)) dL_law_1017 ⟨Nat.le_of_ble_eq_true rfl, Nat.le_of_ble_eq_true rfl⟩) hS (fun q _ h => hFc q h) hFc (fun r_1809 u t H1 locs ht hvm hw hB hz1 hk1 hS => ?_)
  have hP1 : va_P (dC, dI) vwCl [] H1 := fun k q h => by simp at h
  have hD1 : va_D (va_A (wd_495 r k) H.size) [] := ⟨fun i j p q h => by simp at h, fun k q h => by simp at h⟩
  obtain ⟨hP, hD⟩ := va_join (wr := (wd_758 rm km)) (w1 := []) hP hD [0, 1, 2, 3, 4, 5, 6, 7, 8, 9, 10, 11, 12, 13] [14, 15, 16, 17, 18] rfl rfl (by decide) (by decide) hk1 hFc hP1 hD1
  generalize H1 = H at hP hS ⊢
  have hP : va_P (dC, dI) vwCl (wd_758 rm km) H := hP
  have hD : va_D A (wd_758 rm km) := hD
  obtain rfl : r_1809 = 0 := hw
  refine lv_aload_n hx hb dL_law_1020 rfl (lv_at hl 1 rfl) ?_
  refine lv_aload_n hx hb dL_law_1021 rfl (lv_at hl 3 rfl) ?_
  refine lv_iload_n hx hb dL_law_1022 rfl (lv_at hl 0 rfl) ?_
  refine lv_iconst (v := 1) hx hb dL_law_1023 (by decide) ?_
  refine lv_iadd hx hb dL_law_1024 ?_
  refine lv_topi (fun x_1810 ex_1810 => ?_)
  obtain rfl : x_1810 = 1 := ex_1810.trans (by decide)
  refine va_sld hx hb hX hbl hbA hS (vpi (by decide)) dL_law_1025 ?_
  refine lv_topi (fun x_1811 ex_1811 => ?_)
  obtain rfl : x_1811 = xs 1 := ex_1811
  have hPc := hP.sub (ws' := (wd_758 rm km)) [0, 1, 2, 3, 4] rfl
  have hDc := hD.sub (ws' := (wd_758 rm km)) [0, 1, 2, 3, 4] (by decide) rfl
  have hKc := hK.sub (tys' := [((km 0), .int), ((km 1), .int), ((km 2), .int), ((km 3), .int)]) [3, 4, 5, 6] rfl
  have hFc := va_free (wc := (wd_758 rm km)) hD hS hA [0, 1, 2, 3, 4] rfl
  refine va_calli (va_runV (As := [.int (xs 1)]) (rest := [.int 0]) ⟨hx, hb, hml, hown, hts⟩ (mX12_method l dC dI rm km (xs 1) H.size) (cwV 1 hts (gV q_701 q_702 q_703 q_372 q_486) rfl rfl rfl mdv_yX12_method ⟨Nat.le_of_ble_eq_true rfl, Nat.le_of_ble_eq_true rfl⟩) ⟨fun a U g mk q => by obtain ⟨q0, q1, qP, qK, qD⟩ := q; exact ⟨q0, q1, qP, va_K.moved (u := U) (U := U.calling g mk a) (Vm.Alike.refl U.vm) qK, qD⟩, va_recv hKc hPc (ci := 12) (q0 := 0) rfl rfl, fun U hU hW => ⟨rfl, by rw [hU], by rw [hU]; exact hPc, va_K.moved hW.alike hKc, hDc.weaken (fun _ _ _ _ => trivial)⟩⟩ rfl rfl hl.1 rfl (lv_room (Nat.le_of_ble_eq_true rfl)) dL_law_1026 ⟨Nat.le_of_ble_eq_true rfl, Nat.le_of_ble_eq_true rfl⟩) hS (fun q _ h => hFc q h) hFc (fun r_1812 u t H1 locs ht hvm hw hB hz1 hk1 hS => ?_)
  have hP1 : va_P (dC, dI) vwCl [] H1 := fun k q h => by simp at h
  have hD1 : va_D (va_A (wd_758 rm km) H.size) [] := ⟨fun i j p q h => by simp at h, fun k q h => by simp at h⟩
  obtain ⟨hP, hD⟩ := va_join (wr := []) (w1 := []) hP hD [0, 1, 2, 3, 4] [] rfl rfl (by decide) (by decide) hk1 hFc hP1 hD1
  generalize H1 = H at hP hS ⊢
  have hP : va_P (dC, dI) vwCl [] H := hP
  have hD : va_D A [] := hD
  obtain rfl : r_1812 = 0 := hw
  refine lv_icmp_eq (tgt := 1165) hx hb dL_law_1029 (by decide) (fun c_0 => ?_) (fun c_0 => absurd c_0 (by decide))
  exact law_tail C1 hS (lv_sub hl [0, 3] rfl)
set_option maxHeartbeats 4000000 in
set_option maxRecDepth 100000 in
theorem law_c34 {p : Program} {l : Launch} {e : Env} {s : State} {m : MethodId} {below : List Frame} {meth : Method} {c : Code} {b : Nat} {xs : Nat → Int32} {A : Nat → Prop} {H : Heap} {locs : List Loc} {ls : Array Slot} {dC : Nat → ClassId} {dI : Nat → Nat → Nat} {r : Nat → Nat} {k : Nat → ClassId} {rm : Nat → Nat} {km : Nat → ClassId} (C1 : lw_C p s m meth c b 6 xs A) (hP : va_P (dC, dI) vwCl (wd_897 r k rm km) H) (hD : va_D A (wd_897 r k rm km)) (hK : va_K (dC, dI) vwCl [((k 0), .int), ((k 1), .int), ((k 2), .int), ((km 0), .int), ((km 1), .int), ((km 2), .int), ((km 3), .int)] s) (hS : va_S A s.heap H locs) (hl : lv_has ls 4 [(3, .int 0), (2, .ref (rm 0)), (1, .ref (r 0)), (0, .ref b)]) : W p l e room_1 s m #[Value.ref b] below meth c H locs 179 95325 (lw_Z below #[Value.ref b] s) (F0 m 1034 ls []) := by
  obtain ⟨hx, hb, hr, hml, hown, hts, hlocks, hX, hbl, hA, hAl, hbA⟩ := id C1
  refine lv_aload_n hx hb dL_law_1034 rfl (lv_at hl 2 rfl) ?_
  refine lv_aload_n hx hb dL_law_1035 rfl (lv_at hl 3 rfl) ?_
  refine lv_iload_n hx hb dL_law_1036 rfl (lv_at hl 0 rfl) ?_
  refine lv_iconst (v := 1) hx hb dL_law_1037 (by decide) ?_
  refine lv_iadd hx hb dL_law_1038 ?_
  refine lv_topi (fun x_1813 ex_1813 => ?_)
  obtain rfl : x_1813 = 1 := ex_1813.trans (by decide)
  refine va_sld hx hb hX hbl hbA hS (vpi (by decide)) dL_law_1039 ?_
  refine lv_topi (fun x_1814 ex_1814 => ?_)
  obtain rfl : x_1814 = xs 1 := ex_1814
  have hPc := hP.sub (ws' := (wd_495 r k)) [0, 1, 2, 3, 4, 5, 6, 7, 8, 9, 10, 11, 12, 13] rfl
  have hDc := hD.sub (ws' := (wd_495 r k)) [0, 1, 2, 3, 4, 5, 6, 7, 8, 9, 10, 11, 12, 13] (by decide) rfl
  have hKc := hK.sub (tys' := [((k 0), .int), ((k 1), .int), ((k 2), .int)]) [0, 1, 2] rfl
  have hFc := va_free (wc := (wd_495 r k)) hD hS hA [0, 1, 2, 3, 4, 5, 6, 7, 8, 9, 10, 11, 12, 13] rfl
  refine va_calli (va_runV (As := [.int (xs 1)]) (rest := []) ⟨hx, hb, hml, hown, hts⟩ (mX11_chance l dC dI r k (xs 1) H.size) (cwV 1 hts (gV q_704 q_705 q_706 q_257 q_355) rfl rfl rfl mdv_yX11_chance ⟨Nat.le_of_ble_eq_true rfl, Nat.le_of_ble_eq_true rfl⟩) ⟨fun a U g mk q => by obtain ⟨q0, q1, qP, qK, qD⟩ := q; exact ⟨q0, q1, qP, va_K.moved (u := U) (U := U.calling g mk a) (Vm.Alike.refl U.vm) qK, qD⟩, va_recv hKc hPc (ci := 11) (q0 := 0) rfl rfl, fun U hU hW => ⟨rfl, by rw [hU], by rw [hU]; exact hPc, va_K.moved hW.alike hKc, hDc.weaken (fun _ _ _ _ => trivial)⟩⟩ rfl rfl hl.1 rfl (lv_room (Nat.le_of_ble_eq_true rfl)) dL_law_1040 ⟨Nat.le_of_ble_eq_true rfl, Nat.le_of_ble_eq_true rfl⟩) hS (fun q _ h => hFc q h) hFc (fun r_1815 u t H1 locs ht hvm hw hB hz1 hk1 hS => ?_)
  have hP1 : va_P (dC, dI) vwCl [] H1 := fun k q h => by simp at h
  have hD1 : va_D (va_A (wd_495 r k) H.size) [] := ⟨fun i j p q h => by simp at h, fun k q h => by simp at h⟩
  obtain ⟨hP, hD⟩ := va_join (wr := (wd_758 rm km)) (w1 := []) hP hD [0, 1, 2, 3, 4, 5, 6, 7, 8, 9, 10, 11, 12, 13] [14, 15, 16, 17, 18] rfl rfl (by decide) (by decide) hk1 hFc hP1 hD1
  generalize H1 = H at hP hS ⊢
  have hP : va_P (dC, dI) vwCl (wd_758 rm km) H := hP
  have hD : va_D A (wd_758 rm km) := hD
  obtain rfl : r_1815 = (-1) := hw
  refine lv_aload_n hx hb dL_law_1043 rfl (lv_at hl 1 rfl) ?_
  refine lv_aload_n hx hb dL_law_1044 rfl (lv_at hl 3 rfl) ?_
  refine lv_iload_n hx hb dL_law_1045 rfl (lv_at hl 0 rfl) ?_
  refine lv_iconst (v := 1) hx hb dL_law_1046 (by decide) ?_
  refine lv_iadd hx hb dL_law_1047 ?_
  refine lv_topi (fun x_1816 ex_1816 => ?_)
  obtain rfl : x_1816 = 1 := ex_1816.trans (by decide)
  refine va_sld hx hb hX hbl hbA hS (vpi (by decide)) dL_law_1048 ?_
  refine lv_topi (fun x_1817 ex_1817 => ?_)
  obtain rfl : x_1817 = xs 1 := ex_1817
  have hPc := hP.sub (ws' := (wd_758 rm km)) [0, 1, 2, 3, 4] rfl
  have hDc := hD.sub (ws' := (wd_758 rm km)) [0, 1, 2, 3, 4] (by decide) rfl
  have hKc := hK.sub (tys' := [((km 0), .int), ((km 1), .int), ((km 2), .int), ((km 3), .int)]) [3, 4, 5, 6] rfl
  have hFc := va_free (wc := (wd_758 rm km)) hD hS hA [0, 1, 2, 3, 4] rfl
  refine va_calli (va_runV (As := [.int (xs 1)]) (rest := [.int (-1)]) ⟨hx, hb, hml, hown, hts⟩ (mX12_chance l dC dI rm km (xs 1) H.size) (cwV 1 hts (gV q_707 q_708 q_709 q_372 q_487) rfl rfl rfl mdv_yX12_chance ⟨Nat.le_of_ble_eq_true rfl, Nat.le_of_ble_eq_true rfl⟩) ⟨fun a U g mk q => by obtain ⟨q0, q1, qP, qK, qD⟩ := q; exact ⟨q0, q1, qP, va_K.moved (u := U) (U := U.calling g mk a) (Vm.Alike.refl U.vm) qK, qD⟩, va_recv hKc hPc (ci := 12) (q0 := 0) rfl rfl, fun U hU hW => ⟨rfl, by rw [hU], by rw [hU]; exact hPc, va_K.moved hW.alike hKc, hDc.weaken (fun _ _ _ _ => trivial)⟩⟩ rfl rfl hl.1 rfl (lv_room (Nat.le_of_ble_eq_true rfl)) dL_law_1049 ⟨Nat.le_of_ble_eq_true rfl, Nat.le_of_ble_eq_true rfl⟩) hS (fun q _ h => hFc q h) hFc (fun r_1818 u t H1 locs ht hvm hw hB hz1 hk1 hS => ?_)
  have hP1 : va_P (dC, dI) vwCl [] H1 := fun k q h => by simp at h
  have hD1 : va_D (va_A (wd_758 rm km) H.size) [] := ⟨fun i j p q h => by simp at h, fun k q h => by simp at h⟩
  obtain ⟨hP, hD⟩ := va_join (wr := []) (w1 := []) hP hD [0, 1, 2, 3, 4] [] rfl rfl (by decide) (by decide) hk1 hFc hP1 hD1
  generalize H1 = H at hP hS ⊢
  have hP : va_P (dC, dI) vwCl [] H := hP
  have hD : va_D A [] := hD
  obtain rfl : r_1818 = (-1) := hw
  refine lv_icmp_eq (tgt := 1165) hx hb dL_law_1052 (by decide) (fun c_0 => ?_) (fun c_0 => absurd c_0 (by decide))
  exact law_tail C1 hS (lv_sub hl [0, 3] rfl)
set_option maxHeartbeats 4000000 in
set_option maxRecDepth 100000 in
theorem law_c35 {p : Program} {l : Launch} {e : Env} {s : State} {m : MethodId} {below : List Frame} {meth : Method} {c : Code} {b : Nat} {xs : Nat → Int32} {A : Nat → Prop} {H : Heap} {locs : List Loc} {ls : Array Slot} {dC : Nat → ClassId} {dI : Nat → Nat → Nat} {r : Nat → Nat} {k : Nat → ClassId} {rm : Nat → Nat} {km : Nat → ClassId} (C1 : lw_C p s m meth c b 6 xs A) (hP : va_P (dC, dI) vwCl (wd_897 r k rm km) H) (hD : va_D A (wd_897 r k rm km)) (hK : va_K (dC, dI) vwCl [((k 0), .int), ((k 1), .int), ((k 2), .int), ((km 0), .int), ((km 1), .int), ((km 2), .int), ((km 3), .int)] s) (hS : va_S A s.heap H locs) (hl : lv_has ls 4 [(3, .int 0), (2, .ref (rm 0)), (1, .ref (r 0)), (0, .ref b)]) : W p l e room_1 s m #[Value.ref b] below meth c H locs 179 95325 (lw_Z below #[Value.ref b] s) (F0 m 1057 ls []) := by
  obtain ⟨hx, hb, hr, hml, hown, hts, hlocks, hX, hbl, hA, hAl, hbA⟩ := id C1
  refine lv_aload_n hx hb dL_law_1057 rfl (lv_at hl 2 rfl) ?_
  have hPc := hP.sub (ws' := (wd_495 r k)) [0, 1, 2, 3, 4, 5, 6, 7, 8, 9, 10, 11, 12, 13] rfl
  have hDc := hD.sub (ws' := (wd_495 r k)) [0, 1, 2, 3, 4, 5, 6, 7, 8, 9, 10, 11, 12, 13] (by decide) rfl
  have hKc := hK.sub (tys' := [((k 0), .int), ((k 1), .int), ((k 2), .int)]) [0, 1, 2] rfl
  have hFc := va_free (wc := (wd_495 r k)) hD hS hA [0, 1, 2, 3, 4, 5, 6, 7, 8, 9, 10, 11, 12, 13] rfl
  refine va_calli (va_runV (As := []) (rest := []) ⟨hx, hb, hml, hown, hts⟩ (mX11_undo l dC dI r k H.size) (cwV 0 hts (gV q_710 q_711 q_712 q_257 q_356) rfl rfl rfl mdv_yX11_undo ⟨Nat.le_of_ble_eq_true rfl, Nat.le_of_ble_eq_true rfl⟩) ⟨fun a U g mk q => by obtain ⟨q0, q1, qP, qK, qD⟩ := q; exact ⟨q0, q1, qP, va_K.moved (u := U) (U := U.calling g mk a) (Vm.Alike.refl U.vm) qK, qD⟩, va_recv hKc hPc (ci := 11) (q0 := 0) rfl rfl, fun U hU hW => ⟨rfl, by rw [hU], by rw [hU]; exact hPc, va_K.moved hW.alike hKc, hDc.weaken (fun _ _ _ _ => trivial)⟩⟩ rfl rfl hl.1 rfl (lv_room (Nat.le_of_ble_eq_true rfl)) dL_law_1058 ⟨Nat.le_of_ble_eq_true rfl, Nat.le_of_ble_eq_true rfl⟩) hS (fun q _ h => hFc q h) hFc (fun r_1819 u t H1 locs ht hvm hw hB hz1 hk1 hS => ?_)
  have hP1 : va_P (dC, dI) vwCl [] H1 := fun k q h => by simp at h
  have hD1 : va_D (va_A (wd_495 r k) H.size) [] := ⟨fun i j p q h => by simp at h, fun k q h => by simp at h⟩
  obtain ⟨hP, hD⟩ := va_join (wr := (wd_758 rm km)) (w1 := []) hP hD [0, 1, 2, 3, 4, 5, 6, 7, 8, 9, 10, 11, 12, 13] [14, 15, 16, 17, 18] rfl rfl (by decide) (by decide) hk1 hFc hP1 hD1
  generalize H1 = H at hP hS ⊢
  have hP : va_P (dC, dI) vwCl (wd_758 rm km) H := hP
  have hD : va_D A (wd_758 rm km) := hD
  obtain rfl : r_1819 = 0 := hw
  refine lv_aload_n hx hb dL_law_1061 rfl (lv_at hl 1 rfl) ?_
  have hPc := hP.sub (ws' := (wd_758 rm km)) [0, 1, 2, 3, 4] rfl
  have hDc := hD.sub (ws' := (wd_758 rm km)) [0, 1, 2, 3, 4] (by decide) rfl
  have hKc := hK.sub (tys' := [((km 0), .int), ((km 1), .int), ((km 2), .int), ((km 3), .int)]) [3, 4, 5, 6] rfl
  have hFc := va_free (wc := (wd_758 rm km)) hD hS hA [0, 1, 2, 3, 4] rfl
  refine va_calli (va_runV (As := []) (rest := [.int 0]) ⟨hx, hb, hml, hown, hts⟩ (mX12_undo l dC dI rm km H.size) (cwV 0 hts (gV q_713 q_714 q_715 q_372 q_488) rfl rfl rfl mdv_yX12_undo ⟨Nat.le_of_ble_eq_true rfl, Nat.le_of_ble_eq_true rfl⟩) ⟨fun a U g mk q => by obtain ⟨q0, q1, qP, qK, qD⟩ := q; exact ⟨q0, q1, qP, va_K.moved (u := U) (U := U.calling g mk a) (Vm.Alike.refl U.vm) qK, qD⟩, va_recv hKc hPc (ci := 12) (q0 := 0) rfl rfl, fun U hU hW => ⟨rfl, by rw [hU], by rw [hU]; exact hPc, va_K.moved hW.alike hKc, hDc.weaken (fun _ _ _ _ => trivial)⟩⟩ rfl rfl hl.1 rfl (lv_room (Nat.le_of_ble_eq_true rfl)) dL_law_1062 ⟨Nat.le_of_ble_eq_true rfl, Nat.le_of_ble_eq_true rfl⟩) hS (fun q _ h => hFc q h) hFc (fun r_1820 u t H1 locs ht hvm hw hB hz1 hk1 hS => ?_)
  have hP1 : va_P (dC, dI) vwCl [] H1 := fun k q h => by simp at h
  have hD1 : va_D (va_A (wd_758 rm km) H.size) [] := ⟨fun i j p q h => by simp at h, fun k q h => by simp at h⟩
  obtain ⟨hP, hD⟩ := va_join (wr := []) (w1 := []) hP hD [0, 1, 2, 3, 4] [] rfl rfl (by decide) (by decide) hk1 hFc hP1 hD1
  generalize H1 = H at hP hS ⊢
  have hP : va_P (dC, dI) vwCl [] H := hP
  have hD : va_D A [] := hD
  obtain rfl : r_1820 = 0 := hw
  refine lv_icmp_eq (tgt := 1165) hx hb dL_law_1065 (by decide) (fun c_0 => ?_) (fun c_0 => absurd c_0 (by decide))
  exact law_tail C1 hS (lv_sub hl [0, 3] rfl)
set_option maxHeartbeats 4000000 in
set_option maxRecDepth 100000 in
theorem law_c36 {p : Program} {l : Launch} {e : Env} {s : State} {m : MethodId} {below : List Frame} {meth : Method} {c : Code} {b : Nat} {xs : Nat → Int32} {A : Nat → Prop} {H : Heap} {locs : List Loc} {ls : Array Slot} {dC : Nat → ClassId} {dI : Nat → Nat → Nat} {r : Nat → Nat} {k : Nat → ClassId} {rm : Nat → Nat} {km : Nat → ClassId} (C1 : lw_C p s m meth c b 6 xs A) (hP : va_P (dC, dI) vwCl (wd_897 r k rm km) H) (hD : va_D A (wd_897 r k rm km)) (hK : va_K (dC, dI) vwCl [((k 0), .int), ((k 1), .int), ((k 2), .int), ((km 0), .int), ((km 1), .int), ((km 2), .int), ((km 3), .int)] s) (hS : va_S A s.heap H locs) (hl : lv_has ls 4 [(3, .int 0), (2, .ref (rm 0)), (1, .ref (r 0)), (0, .ref b)]) : W p l e room_1 s m #[Value.ref b] below meth c H locs 179 95325 (lw_Z below #[Value.ref b] s) (F0 m 1070 ls []) := by
  obtain ⟨hx, hb, hr, hml, hown, hts, hlocks, hX, hbl, hA, hAl, hbA⟩ := id C1
  refine lv_aload_n hx hb dL_law_1070 rfl (lv_at hl 2 rfl) ?_
  refine lv_aload_n hx hb dL_law_1071 rfl (lv_at hl 3 rfl) ?_
  refine lv_iload_n hx hb dL_law_1072 rfl (lv_at hl 0 rfl) ?_
  refine lv_iconst (v := 1) hx hb dL_law_1073 (by decide) ?_
  refine lv_iadd hx hb dL_law_1074 ?_
  refine lv_topi (fun x_1821 ex_1821 => ?_)
  obtain rfl : x_1821 = 1 := ex_1821.trans (by decide)
  refine va_sld hx hb hX hbl hbA hS (vpi (by decide)) dL_law_1075 ?_
  refine lv_topi (fun x_1822 ex_1822 => ?_)
  obtain rfl : x_1822 = xs 1 := ex_1822
  have hPc := hP.sub (ws' := (wd_495 r k)) [0, 1, 2, 3, 4, 5, 6, 7, 8, 9, 10, 11, 12, 13] rfl
  have hDc := hD.sub (ws' := (wd_495 r k)) [0, 1, 2, 3, 4, 5, 6, 7, 8, 9, 10, 11, 12, 13] (by decide) rfl
  have hKc := hK.sub (tys' := [((k 0), .int), ((k 1), .int), ((k 2), .int)]) [0, 1, 2] rfl
  have hFc := va_free (wc := (wd_495 r k)) hD hS hA [0, 1, 2, 3, 4, 5, 6, 7, 8, 9, 10, 11, 12, 13] rfl
  refine va_calli (va_runV (As := [.int (xs 1)]) (rest := []) ⟨hx, hb, hml, hown, hts⟩ (mX11_seed l dC dI r k (xs 1) H.size) (cwV 1 hts (gV q_716 q_717 q_718 q_257 q_357) rfl rfl rfl mdv_yX11_seed ⟨Nat.le_of_ble_eq_true rfl, Nat.le_of_ble_eq_true rfl⟩) ⟨fun a U g mk q => by obtain ⟨q0, q1, qP, qK, qD⟩ := q; exact ⟨q0, q1, qP, va_K.moved (u := U) (U := U.calling g mk a) (Vm.Alike.refl U.vm) qK, qD⟩, va_recv hKc hPc (ci := 11) (q0 := 0) rfl rfl, fun U hU hW => ⟨rfl, by rw [hU], by rw [hU]; exact hPc, va_K.moved hW.alike hKc, hDc.weaken (fun _ _ _ _ => trivial)⟩⟩ rfl rfl hl.1 rfl (lv_room (Nat.le_of_ble_eq_true rfl)) dL_law_1076 ⟨Nat.le_of_ble_eq_true rfl, Nat.le_of_ble_eq_true rfl⟩) hS (fun q _ h => hFc q h) hFc (fun r_1823 u t H1 locs ht hvm hw hB hz1 hk1 hS => ?_)
  have hP1 : va_P (dC, dI) vwCl [] H1 := fun k q h => by simp at h
  have hD1 : va_D (va_A (wd_495 r k) H.size) [] := ⟨fun i j p q h => by simp at h, fun k q h => by simp at h⟩
  obtain ⟨hP, hD⟩ := va_join (wr := (wd_758 rm km)) (w1 := []) hP hD [0, 1, 2, 3, 4, 5, 6, 7, 8, 9, 10, 11, 12, 13] [14, 15, 16, 17, 18] rfl rfl (by decide) (by decide) hk1 hFc hP1 hD1
  generalize H1 = H at hP hS ⊢
  have hP : va_P (dC, dI) vwCl (wd_758 rm km) H := hP
  have hD : va_D A (wd_758 rm km) := hD
  obtain rfl : r_1823 = (sp_s (xs 1)) := hw
  refine lv_aload_n hx hb dL_law_1079 rfl (lv_at hl 1 rfl) ?_
  refine lv_aload_n hx hb dL_law_1080 rfl (lv_at hl 3 rfl) ?_
  refine lv_iload_n hx hb dL_law_1081 rfl (lv_at hl 0 rfl) ?_
  refine lv_iconst (v := 1) hx hb dL_law_1082 (by decide) ?_
  refine lv_iadd hx hb dL_law_1083 ?_
  refine lv_topi (fun x_1824 ex_1824 => ?_)
  obtain rfl : x_1824 = 1 := ex_1824.trans (by decide)
  refine va_sld hx hb hX hbl hbA hS (vpi (by decide)) dL_law_1084 ?_
  refine lv_topi (fun x_1825 ex_1825 => ?_)
  obtain rfl : x_1825 = xs 1 := ex_1825
  have hPc := hP.sub (ws' := (wd_758 rm km)) [0, 1, 2, 3, 4] rfl
  have hDc := hD.sub (ws' := (wd_758 rm km)) [0, 1, 2, 3, 4] (by decide) rfl
  have hKc := hK.sub (tys' := [((km 0), .int), ((km 1), .int), ((km 2), .int), ((km 3), .int)]) [3, 4, 5, 6] rfl
  have hFc := va_free (wc := (wd_758 rm km)) hD hS hA [0, 1, 2, 3, 4] rfl
  refine va_calli (va_runV (As := [.int (xs 1)]) (rest := [.int (sp_s (xs 1))]) ⟨hx, hb, hml, hown, hts⟩ (mX12_seed l dC dI rm km (xs 1) H.size) (cwV 1 hts (gV q_719 q_720 q_721 q_372 q_489) rfl rfl rfl mdv_yX12_seed ⟨Nat.le_of_ble_eq_true rfl, Nat.le_of_ble_eq_true rfl⟩) ⟨fun a U g mk q => by obtain ⟨q0, q1, qP, qK, qD⟩ := q; exact ⟨q0, q1, qP, va_K.moved (u := U) (U := U.calling g mk a) (Vm.Alike.refl U.vm) qK, qD⟩, va_recv hKc hPc (ci := 12) (q0 := 0) rfl rfl, fun U hU hW => ⟨rfl, by rw [hU], by rw [hU]; exact hPc, va_K.moved hW.alike hKc, hDc.weaken (fun _ _ _ _ => trivial)⟩⟩ rfl rfl hl.1 rfl (lv_room (Nat.le_of_ble_eq_true rfl)) dL_law_1085 ⟨Nat.le_of_ble_eq_true rfl, Nat.le_of_ble_eq_true rfl⟩) hS (fun q _ h => hFc q h) hFc (fun r_1826 u t H1 locs ht hvm hw hB hz1 hk1 hS => ?_)
  have hP1 : va_P (dC, dI) vwCl [] H1 := fun k q h => by simp at h
  have hD1 : va_D (va_A (wd_758 rm km) H.size) [] := ⟨fun i j p q h => by simp at h, fun k q h => by simp at h⟩
  obtain ⟨hP, hD⟩ := va_join (wr := []) (w1 := []) hP hD [0, 1, 2, 3, 4] [] rfl rfl (by decide) (by decide) hk1 hFc hP1 hD1
  generalize H1 = H at hP hS ⊢
  have hP : va_P (dC, dI) vwCl [] H := hP
  have hD : va_D A [] := hD
  obtain rfl : r_1826 = (sp_s (xs 1)) := hw
  refine lv_icmp_eq (tgt := 1165) hx hb dL_law_1088 (by decide) (fun c_0 => ?_) (fun c_0 => absurd rfl c_0)
  exact law_tail C1 hS (lv_sub hl [0, 3] rfl)
set_option maxHeartbeats 4000000 in
set_option maxRecDepth 100000 in
theorem law_c37 {p : Program} {l : Launch} {e : Env} {s : State} {m : MethodId} {below : List Frame} {meth : Method} {c : Code} {b : Nat} {xs : Nat → Int32} {A : Nat → Prop} {H : Heap} {locs : List Loc} {ls : Array Slot} {dC : Nat → ClassId} {dI : Nat → Nat → Nat} {r : Nat → Nat} {k : Nat → ClassId} {rm : Nat → Nat} {km : Nat → ClassId} (C1 : lw_C p s m meth c b 6 xs A) (hP : va_P (dC, dI) vwCl (wd_897 r k rm km) H) (hD : va_D A (wd_897 r k rm km)) (hK : va_K (dC, dI) vwCl [((k 0), .int), ((k 1), .int), ((k 2), .int), ((km 0), .int), ((km 1), .int), ((km 2), .int), ((km 3), .int)] s) (hS : va_S A s.heap H locs) (hl : lv_has ls 4 [(3, .int 0), (2, .ref (rm 0)), (1, .ref (r 0)), (0, .ref b)]) : W p l e room_1 s m #[Value.ref b] below meth c H locs 179 95325 (lw_Z below #[Value.ref b] s) (F0 m 1093 ls []) := by
  obtain ⟨hx, hb, hr, hml, hown, hts, hlocks, hX, hbl, hA, hAl, hbA⟩ := id C1
  refine lv_aload_n hx hb dL_law_1093 rfl (lv_at hl 2 rfl) ?_
  have hPc := hP.sub (ws' := (wd_495 r k)) [0, 1, 2, 3, 4, 5, 6, 7, 8, 9, 10, 11, 12, 13] rfl
  have hDc := hD.sub (ws' := (wd_495 r k)) [0, 1, 2, 3, 4, 5, 6, 7, 8, 9, 10, 11, 12, 13] (by decide) rfl
  have hKc := hK.sub (tys' := [((k 0), .int), ((k 1), .int), ((k 2), .int)]) [0, 1, 2] rfl
  have hFc := va_free (wc := (wd_495 r k)) hD hS hA [0, 1, 2, 3, 4, 5, 6, 7, 8, 9, 10, 11, 12, 13] rfl
  refine va_calli (va_runV (As := []) (rest := []) ⟨hx, hb, hml, hown, hts⟩ (mX11_image l dC dI r k H.size) (cwV 0 hts (gV q_722 q_723 q_724 q_257 q_359) rfl rfl rfl mdv_yX11_image ⟨Nat.le_of_ble_eq_true rfl, Nat.le_of_ble_eq_true rfl⟩) ⟨fun a U g mk q => by obtain ⟨q0, q1, qP, qK, qD⟩ := q; exact ⟨q0, q1, qP, va_K.moved (u := U) (U := U.calling g mk a) (Vm.Alike.refl U.vm) qK, qD⟩, va_recv hKc hPc (ci := 11) (q0 := 0) rfl rfl, fun U hU hW => ⟨rfl, by rw [hU], by rw [hU]; exact hPc, va_K.moved hW.alike hKc, hDc.weaken (fun _ _ _ _ => trivial)⟩⟩ rfl rfl hl.1 rfl (lv_room (Nat.le_of_ble_eq_true rfl)) dL_law_1094 ⟨Nat.le_of_ble_eq_true rfl, Nat.le_of_ble_eq_true rfl⟩) hS (fun q _ h => hFc q h) hFc (fun r_1827 u t H1 locs ht hvm hw hB hz1 hk1 hS => ?_)
  have hP1 : va_P (dC, dI) vwCl [] H1 := fun k q h => by simp at h
  have hD1 : va_D (va_A (wd_495 r k) H.size) [] := ⟨fun i j p q h => by simp at h, fun k q h => by simp at h⟩
  obtain ⟨hP, hD⟩ := va_join (wr := (wd_758 rm km)) (w1 := []) hP hD [0, 1, 2, 3, 4, 5, 6, 7, 8, 9, 10, 11, 12, 13] [14, 15, 16, 17, 18] rfl rfl (by decide) (by decide) hk1 hFc hP1 hD1
  generalize H1 = H at hP hS ⊢
  have hP : va_P (dC, dI) vwCl (wd_758 rm km) H := hP
  have hD : va_D A (wd_758 rm km) := hD
  obtain rfl : r_1827 = (-1) := hw
  refine lv_aload_n hx hb dL_law_1097 rfl (lv_at hl 1 rfl) ?_
  have hPc := hP.sub (ws' := (wd_758 rm km)) [0, 1, 2, 3, 4] rfl
  have hDc := hD.sub (ws' := (wd_758 rm km)) [0, 1, 2, 3, 4] (by decide) rfl
  have hKc := hK.sub (tys' := [((km 0), .int), ((km 1), .int), ((km 2), .int), ((km 3), .int)]) [3, 4, 5, 6] rfl
  have hFc := va_free (wc := (wd_758 rm km)) hD hS hA [0, 1, 2, 3, 4] rfl
  refine va_calli (va_runV (As := []) (rest := [.int (-1)]) ⟨hx, hb, hml, hown, hts⟩ (mX12_image l dC dI rm km H.size) (cwV 0 hts (gV q_725 q_726 q_727 q_372 q_490) rfl rfl rfl mdv_yX12_image ⟨Nat.le_of_ble_eq_true rfl, Nat.le_of_ble_eq_true rfl⟩) ⟨fun a U g mk q => by obtain ⟨q0, q1, qP, qK, qD⟩ := q; exact ⟨q0, q1, qP, va_K.moved (u := U) (U := U.calling g mk a) (Vm.Alike.refl U.vm) qK, qD⟩, va_recv hKc hPc (ci := 12) (q0 := 0) rfl rfl, fun U hU hW => ⟨rfl, by rw [hU], by rw [hU]; exact hPc, va_K.moved hW.alike hKc, hDc.weaken (fun _ _ _ _ => trivial)⟩⟩ rfl rfl hl.1 rfl (lv_room (Nat.le_of_ble_eq_true rfl)) dL_law_1098 ⟨Nat.le_of_ble_eq_true rfl, Nat.le_of_ble_eq_true rfl⟩) hS (fun q _ h => hFc q h) hFc (fun r_1828 u t H1 locs ht hvm hw hB hz1 hk1 hS => ?_)
  have hP1 : va_P (dC, dI) vwCl [] H1 := fun k q h => by simp at h
  have hD1 : va_D (va_A (wd_758 rm km) H.size) [] := ⟨fun i j p q h => by simp at h, fun k q h => by simp at h⟩
  obtain ⟨hP, hD⟩ := va_join (wr := []) (w1 := []) hP hD [0, 1, 2, 3, 4] [] rfl rfl (by decide) (by decide) hk1 hFc hP1 hD1
  generalize H1 = H at hP hS ⊢
  have hP : va_P (dC, dI) vwCl [] H := hP
  have hD : va_D A [] := hD
  obtain rfl : r_1828 = (-1) := hw
  refine lv_icmp_eq (tgt := 1165) hx hb dL_law_1101 (by decide) (fun c_0 => ?_) (fun c_0 => absurd c_0 (by decide))
  exact law_tail C1 hS (lv_sub hl [0, 3] rfl)
set_option maxHeartbeats 4000000 in
set_option maxRecDepth 100000 in
theorem law_c38 {p : Program} {l : Launch} {e : Env} {s : State} {m : MethodId} {below : List Frame} {meth : Method} {c : Code} {b : Nat} {xs : Nat → Int32} {A : Nat → Prop} {H : Heap} {locs : List Loc} {ls : Array Slot} {dC : Nat → ClassId} {dI : Nat → Nat → Nat} {r : Nat → Nat} {k : Nat → ClassId} {rm : Nat → Nat} {km : Nat → ClassId} (C1 : lw_C p s m meth c b 6 xs A) (hP : va_P (dC, dI) vwCl (wd_897 r k rm km) H) (hD : va_D A (wd_897 r k rm km)) (hK : va_K (dC, dI) vwCl [((k 0), .int), ((k 1), .int), ((k 2), .int), ((km 0), .int), ((km 1), .int), ((km 2), .int), ((km 3), .int)] s) (hS : va_S A s.heap H locs) (hl : lv_has ls 4 [(3, .int 0), (2, .ref (rm 0)), (1, .ref (r 0)), (0, .ref b)]) : W p l e room_1 s m #[Value.ref b] below meth c H locs 179 95325 (lw_Z below #[Value.ref b] s) (F0 m 1106 ls []) := by
  obtain ⟨hx, hb, hr, hml, hown, hts, hlocks, hX, hbl, hA, hAl, hbA⟩ := id C1
  refine lv_aload_n hx hb dL_law_1106 rfl (lv_at hl 2 rfl) ?_
  refine lv_aload_n hx hb dL_law_1107 rfl (lv_at hl 3 rfl) ?_
  refine lv_iload_n hx hb dL_law_1108 rfl (lv_at hl 0 rfl) ?_
  refine lv_iconst (v := 1) hx hb dL_law_1109 (by decide) ?_
  refine lv_iadd hx hb dL_law_1110 ?_
  refine lv_topi (fun x_1829 ex_1829 => ?_)
  obtain rfl : x_1829 = 1 := ex_1829.trans (by decide)
  refine va_sld hx hb hX hbl hbA hS (vpi (by decide)) dL_law_1111 ?_
  refine lv_topi (fun x_1830 ex_1830 => ?_)
  obtain rfl : x_1830 = xs 1 := ex_1830
  have hPc := hP.sub (ws' := (wd_495 r k)) [0, 1, 2, 3, 4, 5, 6, 7, 8, 9, 10, 11, 12, 13] rfl
  have hDc := hD.sub (ws' := (wd_495 r k)) [0, 1, 2, 3, 4, 5, 6, 7, 8, 9, 10, 11, 12, 13] (by decide) rfl
  have hKc := hK.sub (tys' := [((k 0), .int), ((k 1), .int), ((k 2), .int)]) [0, 1, 2] rfl
  have hFc := va_free (wc := (wd_495 r k)) hD hS hA [0, 1, 2, 3, 4, 5, 6, 7, 8, 9, 10, 11, 12, 13] rfl
  refine va_calli (va_runV (As := [.int (xs 1)]) (rest := []) ⟨hx, hb, hml, hown, hts⟩ (mX11_octet l dC dI r k (xs 1) H.size) (cwV 1 hts (gV q_728 q_729 q_730 q_257 q_360) rfl rfl rfl mdv_yX11_octet ⟨Nat.le_of_ble_eq_true rfl, Nat.le_of_ble_eq_true rfl⟩) ⟨fun a U g mk q => by obtain ⟨q0, q1, qP, qK, qD⟩ := q; exact ⟨q0, q1, qP, va_K.moved (u := U) (U := U.calling g mk a) (Vm.Alike.refl U.vm) qK, qD⟩, va_recv hKc hPc (ci := 11) (q0 := 0) rfl rfl, fun U hU hW => ⟨rfl, by rw [hU], by rw [hU]; exact hPc, va_K.moved hW.alike hKc, hDc.weaken (fun _ _ _ _ => trivial)⟩⟩ rfl rfl hl.1 rfl (lv_room (Nat.le_of_ble_eq_true rfl)) dL_law_1112 ⟨Nat.le_of_ble_eq_true rfl, Nat.le_of_ble_eq_true rfl⟩) hS (fun q _ h => hFc q h) hFc (fun r_1831 u t H1 locs ht hvm hw hB hz1 hk1 hS => ?_)
  have hP1 : va_P (dC, dI) vwCl [] H1 := fun k q h => by simp at h
  have hD1 : va_D (va_A (wd_495 r k) H.size) [] := ⟨fun i j p q h => by simp at h, fun k q h => by simp at h⟩
  obtain ⟨hP, hD⟩ := va_join (wr := (wd_758 rm km)) (w1 := []) hP hD [0, 1, 2, 3, 4, 5, 6, 7, 8, 9, 10, 11, 12, 13] [14, 15, 16, 17, 18] rfl rfl (by decide) (by decide) hk1 hFc hP1 hD1
  generalize H1 = H at hP hS ⊢
  have hP : va_P (dC, dI) vwCl (wd_758 rm km) H := hP
  have hD : va_D A (wd_758 rm km) := hD
  obtain rfl : r_1831 = (-1) := hw
  refine lv_aload_n hx hb dL_law_1115 rfl (lv_at hl 1 rfl) ?_
  refine lv_aload_n hx hb dL_law_1116 rfl (lv_at hl 3 rfl) ?_
  refine lv_iload_n hx hb dL_law_1117 rfl (lv_at hl 0 rfl) ?_
  refine lv_iconst (v := 1) hx hb dL_law_1118 (by decide) ?_
  refine lv_iadd hx hb dL_law_1119 ?_
  refine lv_topi (fun x_1832 ex_1832 => ?_)
  obtain rfl : x_1832 = 1 := ex_1832.trans (by decide)
  refine va_sld hx hb hX hbl hbA hS (vpi (by decide)) dL_law_1120 ?_
  refine lv_topi (fun x_1833 ex_1833 => ?_)
  obtain rfl : x_1833 = xs 1 := ex_1833
  have hPc := hP.sub (ws' := (wd_758 rm km)) [0, 1, 2, 3, 4] rfl
  have hDc := hD.sub (ws' := (wd_758 rm km)) [0, 1, 2, 3, 4] (by decide) rfl
  have hKc := hK.sub (tys' := [((km 0), .int), ((km 1), .int), ((km 2), .int), ((km 3), .int)]) [3, 4, 5, 6] rfl
  have hFc := va_free (wc := (wd_758 rm km)) hD hS hA [0, 1, 2, 3, 4] rfl
  refine va_calli (va_runV (As := [.int (xs 1)]) (rest := [.int (-1)]) ⟨hx, hb, hml, hown, hts⟩ (mX12_octet l dC dI rm km (xs 1) H.size) (cwV 1 hts (gV q_731 q_732 q_733 q_372 q_491) rfl rfl rfl mdv_yX12_octet ⟨Nat.le_of_ble_eq_true rfl, Nat.le_of_ble_eq_true rfl⟩) ⟨fun a U g mk q => by obtain ⟨q0, q1, qP, qK, qD⟩ := q; exact ⟨q0, q1, qP, va_K.moved (u := U) (U := U.calling g mk a) (Vm.Alike.refl U.vm) qK, qD⟩, va_recv hKc hPc (ci := 12) (q0 := 0) rfl rfl, fun U hU hW => ⟨rfl, by rw [hU], by rw [hU]; exact hPc, va_K.moved hW.alike hKc, hDc.weaken (fun _ _ _ _ => trivial)⟩⟩ rfl rfl hl.1 rfl (lv_room (Nat.le_of_ble_eq_true rfl)) dL_law_1121 ⟨Nat.le_of_ble_eq_true rfl, Nat.le_of_ble_eq_true rfl⟩) hS (fun q _ h => hFc q h) hFc (fun r_1834 u t H1 locs ht hvm hw hB hz1 hk1 hS => ?_)
  have hP1 : va_P (dC, dI) vwCl [] H1 := fun k q h => by simp at h
  have hD1 : va_D (va_A (wd_758 rm km) H.size) [] := ⟨fun i j p q h => by simp at h, fun k q h => by simp at h⟩
  obtain ⟨hP, hD⟩ := va_join (wr := []) (w1 := []) hP hD [0, 1, 2, 3, 4] [] rfl rfl (by decide) (by decide) hk1 hFc hP1 hD1
  generalize H1 = H at hP hS ⊢
  have hP : va_P (dC, dI) vwCl [] H := hP
  have hD : va_D A [] := hD
  obtain rfl : r_1834 = (-1) := hw
  refine lv_icmp_eq (tgt := 1165) hx hb dL_law_1124 (by decide) (fun c_0 => ?_) (fun c_0 => absurd c_0 (by decide))
  exact law_tail C1 hS (lv_sub hl [0, 3] rfl)
set_option maxHeartbeats 4000000 in
set_option maxRecDepth 100000 in
theorem law_c39 {p : Program} {l : Launch} {e : Env} {s : State} {m : MethodId} {below : List Frame} {meth : Method} {c : Code} {b : Nat} {xs : Nat → Int32} {A : Nat → Prop} {H : Heap} {locs : List Loc} {ls : Array Slot} {dC : Nat → ClassId} {dI : Nat → Nat → Nat} {r : Nat → Nat} {k : Nat → ClassId} {rm : Nat → Nat} {km : Nat → ClassId} (C1 : lw_C p s m meth c b 6 xs A) (hP : va_P (dC, dI) vwCl (wd_897 r k rm km) H) (hD : va_D A (wd_897 r k rm km)) (hK : va_K (dC, dI) vwCl [((k 0), .int), ((k 1), .int), ((k 2), .int), ((km 0), .int), ((km 1), .int), ((km 2), .int), ((km 3), .int)] s) (hS : va_S A s.heap H locs) (hl : lv_has ls 4 [(3, .int 0), (2, .ref (rm 0)), (1, .ref (r 0)), (0, .ref b)]) : W p l e room_1 s m #[Value.ref b] below meth c H locs 179 95325 (lw_Z below #[Value.ref b] s) (F0 m 1129 ls []) := by
  obtain ⟨hx, hb, hr, hml, hown, hts, hlocks, hX, hbl, hA, hAl, hbA⟩ := id C1
  refine lv_aload_n hx hb dL_law_1129 rfl (lv_at hl 2 rfl) ?_
  have hPc := hP.sub (ws' := (wd_495 r k)) [0, 1, 2, 3, 4, 5, 6, 7, 8, 9, 10, 11, 12, 13] rfl
  have hDc := hD.sub (ws' := (wd_495 r k)) [0, 1, 2, 3, 4, 5, 6, 7, 8, 9, 10, 11, 12, 13] (by decide) rfl
  have hKc := hK.sub (tys' := [((k 0), .int), ((k 1), .int), ((k 2), .int)]) [0, 1, 2] rfl
  have hFc := va_free (wc := (wd_495 r k)) hD hS hA [0, 1, 2, 3, 4, 5, 6, 7, 8, 9, 10, 11, 12, 13] rfl
  refine va_calli (va_runV (As := []) (rest := []) ⟨hx, hb, hml, hown, hts⟩ (mX11_on l dC dI r k H.size) (cwV 0 hts (gV q_734 q_735 q_736 q_257 q_362) rfl rfl rfl mdv_yX11_on ⟨Nat.le_of_ble_eq_true rfl, Nat.le_of_ble_eq_true rfl⟩) ⟨fun a U g mk q => by obtain ⟨q0, q1, qP, qK, qD⟩ := q; exact ⟨q0, q1, qP, va_K.moved (u := U) (U := U.calling g mk a) (Vm.Alike.refl U.vm) qK, qD⟩, va_recv hKc hPc (ci := 11) (q0 := 0) rfl rfl, fun U hU hW => ⟨rfl, by rw [hU], by rw [hU]; exact hPc, va_K.moved hW.alike hKc, hDc.weaken (fun _ _ _ _ => trivial)⟩⟩ rfl rfl hl.1 rfl (lv_room (Nat.le_of_ble_eq_true rfl)) dL_law_1130 ⟨Nat.le_of_ble_eq_true rfl, Nat.le_of_ble_eq_true rfl⟩) hS (fun q _ h => hFc q h) hFc (fun r_1835 u t H1 locs ht hvm hw hB hz1 hk1 hS => ?_)
  have hP1 : va_P (dC, dI) vwCl [] H1 := fun k q h => by simp at h
  have hD1 : va_D (va_A (wd_495 r k) H.size) [] := ⟨fun i j p q h => by simp at h, fun k q h => by simp at h⟩
  obtain ⟨hP, hD⟩ := va_join (wr := (wd_758 rm km)) (w1 := []) hP hD [0, 1, 2, 3, 4, 5, 6, 7, 8, 9, 10, 11, 12, 13] [14, 15, 16, 17, 18] rfl rfl (by decide) (by decide) hk1 hFc hP1 hD1
  generalize H1 = H at hP hS ⊢
  have hP : va_P (dC, dI) vwCl (wd_758 rm km) H := hP
  have hD : va_D A (wd_758 rm km) := hD
  obtain rfl : r_1835 = 0 := hw
  refine lv_aload_n hx hb dL_law_1133 rfl (lv_at hl 1 rfl) ?_
  have hPc := hP.sub (ws' := (wd_758 rm km)) [0, 1, 2, 3, 4] rfl
  have hDc := hD.sub (ws' := (wd_758 rm km)) [0, 1, 2, 3, 4] (by decide) rfl
  have hKc := hK.sub (tys' := [((km 0), .int), ((km 1), .int), ((km 2), .int), ((km 3), .int)]) [3, 4, 5, 6] rfl
  have hFc := va_free (wc := (wd_758 rm km)) hD hS hA [0, 1, 2, 3, 4] rfl
  refine va_calli (va_runV (As := []) (rest := [.int 0]) ⟨hx, hb, hml, hown, hts⟩ (mX12_on l dC dI rm km H.size) (cwV 0 hts (gV q_737 q_738 q_739 q_372 q_493) rfl rfl rfl mdv_yX12_on ⟨Nat.le_of_ble_eq_true rfl, Nat.le_of_ble_eq_true rfl⟩) ⟨fun a U g mk q => by obtain ⟨q0, q1, qP, qK, qD⟩ := q; exact ⟨q0, q1, qP, va_K.moved (u := U) (U := U.calling g mk a) (Vm.Alike.refl U.vm) qK, qD⟩, va_recv hKc hPc (ci := 12) (q0 := 0) rfl rfl, fun U hU hW => ⟨rfl, by rw [hU], by rw [hU]; exact hPc, va_K.moved hW.alike hKc, hDc.weaken (fun _ _ _ _ => trivial)⟩⟩ rfl rfl hl.1 rfl (lv_room (Nat.le_of_ble_eq_true rfl)) dL_law_1134 ⟨Nat.le_of_ble_eq_true rfl, Nat.le_of_ble_eq_true rfl⟩) hS (fun q _ h => hFc q h) hFc (fun r_1836 u t H1 locs ht hvm hw hB hz1 hk1 hS => ?_)
  have hP1 : va_P (dC, dI) vwCl [] H1 := fun k q h => by simp at h
  have hD1 : va_D (va_A (wd_758 rm km) H.size) [] := ⟨fun i j p q h => by simp at h, fun k q h => by simp at h⟩
  obtain ⟨hP, hD⟩ := va_join (wr := []) (w1 := []) hP hD [0, 1, 2, 3, 4] [] rfl rfl (by decide) (by decide) hk1 hFc hP1 hD1
  generalize H1 = H at hP hS ⊢
  have hP : va_P (dC, dI) vwCl [] H := hP
  have hD : va_D A [] := hD
  obtain rfl : r_1836 = 0 := hw
  refine lv_icmp_eq (tgt := 1165) hx hb dL_law_1137 (by decide) (fun c_0 => ?_) (fun c_0 => absurd c_0 (by decide))
  exact law_tail C1 hS (lv_sub hl [0, 3] rfl)
set_option maxHeartbeats 4000000 in
set_option maxRecDepth 100000 in
theorem law_c40 {p : Program} {l : Launch} {e : Env} {s : State} {m : MethodId} {below : List Frame} {meth : Method} {c : Code} {b : Nat} {xs : Nat → Int32} {A : Nat → Prop} {H : Heap} {locs : List Loc} {ls : Array Slot} {dC : Nat → ClassId} {dI : Nat → Nat → Nat} {r : Nat → Nat} {k : Nat → ClassId} {rm : Nat → Nat} {km : Nat → ClassId} (C1 : lw_C p s m meth c b 6 xs A) (hP : va_P (dC, dI) vwCl (wd_897 r k rm km) H) (hD : va_D A (wd_897 r k rm km)) (hK : va_K (dC, dI) vwCl [((k 0), .int), ((k 1), .int), ((k 2), .int), ((km 0), .int), ((km 1), .int), ((km 2), .int), ((km 3), .int)] s) (hS : va_S A s.heap H locs) (hl : lv_has ls 4 [(3, .int 0), (2, .ref (rm 0)), (1, .ref (r 0)), (0, .ref b)]) : W p l e room_1 s m #[Value.ref b] below meth c H locs 179 95325 (lw_Z below #[Value.ref b] s) (F0 m 1142 ls []) := by
  obtain ⟨hx, hb, hr, hml, hown, hts, hlocks, hX, hbl, hA, hAl, hbA⟩ := id C1
  refine lv_aload_n hx hb dL_law_1142 rfl (lv_at hl 2 rfl) ?_
  refine lv_aload_n hx hb dL_law_1143 rfl (lv_at hl 3 rfl) ?_
  refine lv_iload_n hx hb dL_law_1144 rfl (lv_at hl 0 rfl) ?_
  refine lv_iconst (v := 1) hx hb dL_law_1145 (by decide) ?_
  refine lv_iadd hx hb dL_law_1146 ?_
  refine lv_topi (fun x_1837 ex_1837 => ?_)
  obtain rfl : x_1837 = 1 := ex_1837.trans (by decide)
  refine va_sld hx hb hX hbl hbA hS (vpi (by decide)) dL_law_1147 ?_
  refine lv_topi (fun x_1838 ex_1838 => ?_)
  obtain rfl : x_1838 = xs 1 := ex_1838
  have hPc := hP.sub (ws' := (wd_495 r k)) [0, 1, 2, 3, 4, 5, 6, 7, 8, 9, 10, 11, 12, 13] rfl
  have hDc := hD.sub (ws' := (wd_495 r k)) [0, 1, 2, 3, 4, 5, 6, 7, 8, 9, 10, 11, 12, 13] (by decide) rfl
  have hKc := hK.sub (tys' := [((k 0), .int), ((k 1), .int), ((k 2), .int)]) [0, 1, 2] rfl
  have hFc := va_free (wc := (wd_495 r k)) hD hS hA [0, 1, 2, 3, 4, 5, 6, 7, 8, 9, 10, 11, 12, 13] rfl
  refine va_calli (va_runV (As := [.int (xs 1)]) (rest := []) ⟨hx, hb, hml, hown, hts⟩ (mX11_status l dC dI r k (xs 1) H.size) (cwV 1 hts (gV q_740 q_741 q_742 q_257 q_363) rfl rfl rfl mdv_yX11_status ⟨Nat.le_of_ble_eq_true rfl, Nat.le_of_ble_eq_true rfl⟩) ⟨fun a U g mk q => by obtain ⟨q0, q1, qP, qK, qD⟩ := q; exact ⟨q0, q1, qP, va_K.moved (u := U) (U := U.calling g mk a) (Vm.Alike.refl U.vm) qK, qD⟩, va_recv hKc hPc (ci := 11) (q0 := 0) rfl rfl, fun U hU hW => ⟨rfl, by rw [hU], by rw [hU]; exact hPc, va_K.moved hW.alike hKc, hDc.weaken (fun _ _ _ _ => trivial)⟩⟩ rfl rfl hl.1 rfl (lv_room (Nat.le_of_ble_eq_true rfl)) dL_law_1148 ⟨Nat.le_of_ble_eq_true rfl, Nat.le_of_ble_eq_true rfl⟩) hS (fun q _ h => hFc q h) hFc (fun r_1839 u t H1 locs ht hvm hw hB hz1 hk1 hS => ?_)
  have hP1 : va_P (dC, dI) vwCl [] H1 := fun k q h => by simp at h
  have hD1 : va_D (va_A (wd_495 r k) H.size) [] := ⟨fun i j p q h => by simp at h, fun k q h => by simp at h⟩
  obtain ⟨hP, hD⟩ := va_join (wr := (wd_758 rm km)) (w1 := []) hP hD [0, 1, 2, 3, 4, 5, 6, 7, 8, 9, 10, 11, 12, 13] [14, 15, 16, 17, 18] rfl rfl (by decide) (by decide) hk1 hFc hP1 hD1
  generalize H1 = H at hP hS ⊢
  have hP : va_P (dC, dI) vwCl (wd_758 rm km) H := hP
  have hD : va_D A (wd_758 rm km) := hD
  obtain rfl : r_1839 = (sp_7 (xs 1)) := hw
  refine lv_aload_n hx hb dL_law_1151 rfl (lv_at hl 1 rfl) ?_
  refine lv_aload_n hx hb dL_law_1152 rfl (lv_at hl 3 rfl) ?_
  refine lv_iload_n hx hb dL_law_1153 rfl (lv_at hl 0 rfl) ?_
  refine lv_iconst (v := 1) hx hb dL_law_1154 (by decide) ?_
  refine lv_iadd hx hb dL_law_1155 ?_
  refine lv_topi (fun x_1840 ex_1840 => ?_)
  obtain rfl : x_1840 = 1 := ex_1840.trans (by decide)
  refine va_sld hx hb hX hbl hbA hS (vpi (by decide)) dL_law_1156 ?_
  refine lv_topi (fun x_1841 ex_1841 => ?_)
  obtain rfl : x_1841 = xs 1 := ex_1841
  have hPc := hP.sub (ws' := (wd_758 rm km)) [0, 1, 2, 3, 4] rfl
  have hDc := hD.sub (ws' := (wd_758 rm km)) [0, 1, 2, 3, 4] (by decide) rfl
  have hKc := hK.sub (tys' := [((km 0), .int), ((km 1), .int), ((km 2), .int), ((km 3), .int)]) [3, 4, 5, 6] rfl
  have hFc := va_free (wc := (wd_758 rm km)) hD hS hA [0, 1, 2, 3, 4] rfl
  refine va_calli (va_runV (As := [.int (xs 1)]) (rest := [.int (sp_7 (xs 1))]) ⟨hx, hb, hml, hown, hts⟩ (mX12_status l dC dI rm km (xs 1) H.size) (cwV 1 hts (gV q_743 q_744 q_745 q_372 q_498) rfl rfl rfl mdv_yX12_status ⟨Nat.le_of_ble_eq_true rfl, Nat.le_of_ble_eq_true rfl⟩) ⟨fun a U g mk q => by obtain ⟨q0, q1, qP, qK, qD⟩ := q; exact ⟨q0, q1, qP, va_K.moved (u := U) (U := U.calling g mk a) (Vm.Alike.refl U.vm) qK, qD⟩, va_recv hKc hPc (ci := 12) (q0 := 0) rfl rfl, fun U hU hW => ⟨rfl, by rw [hU], by rw [hU]; exact hPc, va_K.moved hW.alike hKc, hDc.weaken (fun _ _ _ _ => trivial)⟩⟩ rfl rfl hl.1 rfl (lv_room (Nat.le_of_ble_eq_true rfl)) dL_law_1157 ⟨Nat.le_of_ble_eq_true rfl, Nat.le_of_ble_eq_true rfl⟩) hS (fun q _ h => hFc q h) hFc (fun r_1842 u t H1 locs ht hvm hw hB hz1 hk1 hS => ?_)
  have hP1 : va_P (dC, dI) vwCl [] H1 := fun k q h => by simp at h
  have hD1 : va_D (va_A (wd_758 rm km) H.size) [] := ⟨fun i j p q h => by simp at h, fun k q h => by simp at h⟩
  obtain ⟨hP, hD⟩ := va_join (wr := []) (w1 := []) hP hD [0, 1, 2, 3, 4] [] rfl rfl (by decide) (by decide) hk1 hFc hP1 hD1
  generalize H1 = H at hP hS ⊢
  have hP : va_P (dC, dI) vwCl [] H := hP
  have hD : va_D A [] := hD
  obtain rfl : r_1842 = (sp_7 (xs 1)) := hw
  refine lv_icmp_eq (tgt := 1165) hx hb dL_law_1160 (by decide) (fun c_0 => ?_) (fun c_0 => absurd rfl c_0)
  exact law_tail C1 hS (lv_sub hl [0, 3] rfl)
set_option maxHeartbeats 4000000 in
set_option maxRecDepth 100000 in
theorem law_body {p : Program} {l : Launch} {e : Env} {s : State} {m : MethodId} {below : List Frame} {meth : Method} {c : Code} {b : Nat} {xs : Nat → Int32} {A : Nat → Prop} {H : Heap} {locs : List Loc} {ls : Array Slot} {L : Nat} (hL : L ≤ 6) {dC : Nat → ClassId} {dI : Nat → Nat → Nat} {r : Nat → Nat} {k : Nat → ClassId} {rm : Nat → Nat} {km : Nat → ClassId} (C1 : lw_C p s m meth c b L xs A) (hP : va_P (dC, dI) vwCl (wd_897 r k rm km) H) (hD : va_D A (wd_897 r k rm km)) (hK : va_K (dC, dI) vwCl [((k 0), .int), ((k 1), .int), ((k 2), .int), ((km 0), .int), ((km 1), .int), ((km 2), .int), ((km 3), .int)] s) (hS : va_S A s.heap H locs) (hl : lv_has ls 4 [(3, .int 0), (2, .ref (rm 0)), (1, .ref (r 0)), (0, .ref b)]) : W p l e room_1 s m #[Value.ref b] below meth c H locs 179 95325 (lw_Z below #[Value.ref b] s) (F0 m 18 ls []) := by
  rcases (by omega : L = 0 ∨ L = 1 ∨ L = 2 ∨ L = 3 ∨ L = 4 ∨ L = 5 ∨ L = 6) with rfl | rfl | rfl | rfl | rfl | rfl | rfl
  · obtain ⟨hx, hb, hr, hml, hown, hts, hlocks, hX, hbl, hA, hAl, hbA⟩ := id C1
    refine lv_iload_n hx hb dL_law_18 rfl (lv_at hl 0 rfl) ?_
    refine lv_aload_n hx hb dL_law_19 rfl (lv_at hl 3 rfl) ?_
    refine va_slen hx hb hX hbl hbA hS dL_law_20 ?_
    refine lv_topi (fun x_1843 ex_1843 => ?_)
    obtain rfl : x_1843 = 0 := ex_1843.trans (by decide)
    refine lv_bipush (v := 6) hx hb dL_law_21 (by decide) ?_
    refine lv_isub hx hb dL_law_23 ?_
    refine lv_topi (fun x_1844 ex_1844 => ?_)
    obtain rfl : x_1844 = (-6) := ex_1844.trans (by decide)
    refine lv_icmp_gt (tgt := 1171) hx hb dL_law_24 (by decide) (fun c_0 => ?_) (fun c_0 => absurd c_0 (by decide))
    exact law_exit C1 hS
  · obtain ⟨hx, hb, hr, hml, hown, hts, hlocks, hX, hbl, hA, hAl, hbA⟩ := id C1
    refine lv_iload_n hx hb dL_law_18 rfl (lv_at hl 0 rfl) ?_
    refine lv_aload_n hx hb dL_law_19 rfl (lv_at hl 3 rfl) ?_
    refine va_slen hx hb hX hbl hbA hS dL_law_20 ?_
    refine lv_topi (fun x_1845 ex_1845 => ?_)
    obtain rfl : x_1845 = 1 := ex_1845.trans (by decide)
    refine lv_bipush (v := 6) hx hb dL_law_21 (by decide) ?_
    refine lv_isub hx hb dL_law_23 ?_
    refine lv_topi (fun x_1846 ex_1846 => ?_)
    obtain rfl : x_1846 = (-5) := ex_1846.trans (by decide)
    refine lv_icmp_gt (tgt := 1171) hx hb dL_law_24 (by decide) (fun c_0 => ?_) (fun c_0 => absurd c_0 (by decide))
    exact law_exit C1 hS
  · obtain ⟨hx, hb, hr, hml, hown, hts, hlocks, hX, hbl, hA, hAl, hbA⟩ := id C1
    refine lv_iload_n hx hb dL_law_18 rfl (lv_at hl 0 rfl) ?_
    refine lv_aload_n hx hb dL_law_19 rfl (lv_at hl 3 rfl) ?_
    refine va_slen hx hb hX hbl hbA hS dL_law_20 ?_
    refine lv_topi (fun x_1847 ex_1847 => ?_)
    obtain rfl : x_1847 = 2 := ex_1847.trans (by decide)
    refine lv_bipush (v := 6) hx hb dL_law_21 (by decide) ?_
    refine lv_isub hx hb dL_law_23 ?_
    refine lv_topi (fun x_1848 ex_1848 => ?_)
    obtain rfl : x_1848 = (-4) := ex_1848.trans (by decide)
    refine lv_icmp_gt (tgt := 1171) hx hb dL_law_24 (by decide) (fun c_0 => ?_) (fun c_0 => absurd c_0 (by decide))
    exact law_exit C1 hS
  · obtain ⟨hx, hb, hr, hml, hown, hts, hlocks, hX, hbl, hA, hAl, hbA⟩ := id C1
    refine lv_iload_n hx hb dL_law_18 rfl (lv_at hl 0 rfl) ?_
    refine lv_aload_n hx hb dL_law_19 rfl (lv_at hl 3 rfl) ?_
    refine va_slen hx hb hX hbl hbA hS dL_law_20 ?_
    refine lv_topi (fun x_1849 ex_1849 => ?_)
    obtain rfl : x_1849 = 3 := ex_1849.trans (by decide)
    refine lv_bipush (v := 6) hx hb dL_law_21 (by decide) ?_
    refine lv_isub hx hb dL_law_23 ?_
    refine lv_topi (fun x_1850 ex_1850 => ?_)
    obtain rfl : x_1850 = (-3) := ex_1850.trans (by decide)
    refine lv_icmp_gt (tgt := 1171) hx hb dL_law_24 (by decide) (fun c_0 => ?_) (fun c_0 => absurd c_0 (by decide))
    exact law_exit C1 hS
  · obtain ⟨hx, hb, hr, hml, hown, hts, hlocks, hX, hbl, hA, hAl, hbA⟩ := id C1
    refine lv_iload_n hx hb dL_law_18 rfl (lv_at hl 0 rfl) ?_
    refine lv_aload_n hx hb dL_law_19 rfl (lv_at hl 3 rfl) ?_
    refine va_slen hx hb hX hbl hbA hS dL_law_20 ?_
    refine lv_topi (fun x_1851 ex_1851 => ?_)
    obtain rfl : x_1851 = 4 := ex_1851.trans (by decide)
    refine lv_bipush (v := 6) hx hb dL_law_21 (by decide) ?_
    refine lv_isub hx hb dL_law_23 ?_
    refine lv_topi (fun x_1852 ex_1852 => ?_)
    obtain rfl : x_1852 = (-2) := ex_1852.trans (by decide)
    refine lv_icmp_gt (tgt := 1171) hx hb dL_law_24 (by decide) (fun c_0 => ?_) (fun c_0 => absurd c_0 (by decide))
    exact law_exit C1 hS
  · obtain ⟨hx, hb, hr, hml, hown, hts, hlocks, hX, hbl, hA, hAl, hbA⟩ := id C1
    refine lv_iload_n hx hb dL_law_18 rfl (lv_at hl 0 rfl) ?_
    refine lv_aload_n hx hb dL_law_19 rfl (lv_at hl 3 rfl) ?_
    refine va_slen hx hb hX hbl hbA hS dL_law_20 ?_
    refine lv_topi (fun x_1853 ex_1853 => ?_)
    obtain rfl : x_1853 = 5 := ex_1853.trans (by decide)
    refine lv_bipush (v := 6) hx hb dL_law_21 (by decide) ?_
    refine lv_isub hx hb dL_law_23 ?_
    refine lv_topi (fun x_1854 ex_1854 => ?_)
    obtain rfl : x_1854 = (-1) := ex_1854.trans (by decide)
    refine lv_icmp_gt (tgt := 1171) hx hb dL_law_24 (by decide) (fun c_0 => ?_) (fun c_0 => absurd c_0 (by decide))
    exact law_exit C1 hS
  · obtain ⟨hx, hb, hr, hml, hown, hts, hlocks, hX, hbl, hA, hAl, hbA⟩ := id C1
    refine lv_iload_n hx hb dL_law_18 rfl (lv_at hl 0 rfl) ?_
    refine lv_aload_n hx hb dL_law_19 rfl (lv_at hl 3 rfl) ?_
    refine va_slen hx hb hX hbl hbA hS dL_law_20 ?_
    refine lv_topi (fun x_1855 ex_1855 => ?_)
    obtain rfl : x_1855 = 6 := ex_1855.trans (by decide)
    refine lv_bipush (v := 6) hx hb dL_law_21 (by decide) ?_
    refine lv_isub hx hb dL_law_23 ?_
    refine lv_topi (fun x_1856 ex_1856 => ?_)
    obtain rfl : x_1856 = 0 := ex_1856.trans (by decide)
    refine lv_icmp_gt (tgt := 1171) hx hb dL_law_24 (by decide) (fun c_0 => absurd c_0 (by decide)) (fun c_0 => ?_)
    refine lv_aload_n hx hb dL_law_27 rfl (lv_at hl 3 rfl) ?_
    refine lv_iload_n hx hb dL_law_28 rfl (lv_at hl 0 rfl) ?_
    refine va_sld hx hb hX hbl hbA hS (vpi (by decide)) dL_law_29 ?_
    refine lv_topi (fun x_1857 ex_1857 => ?_)
    obtain rfl : x_1857 = xs 0 := ex_1857
    refine lv_bipush (v := 63) hx hb dL_law_30 (by decide) ?_
    refine lv_iand hx hb dL_law_32 ?_
    refine lv_topi (fun x_1858 ex_1858 => ?_)
    rcases sw_41 x_1858 with rfl | rfl | rfl | rfl | rfl | rfl | rfl | rfl | rfl | rfl | rfl | rfl | rfl | rfl | rfl | rfl | rfl | rfl | rfl | rfl | rfl | rfl | rfl | rfl | rfl | rfl | rfl | rfl | rfl | rfl | rfl | rfl | rfl | rfl | rfl | rfl | rfl | rfl | rfl | rfl | rfl | ho
    · refine lv_tableIn (off := 179) (tgt := 212) hx hb dL_law_33 (by decide) (by decide) rfl (by decide) ?_
      exact law_c0 C1 hP hD hK hS hl
    · refine lv_tableIn (off := 242) (tgt := 275) hx hb dL_law_33 (by decide) (by decide) rfl (by decide) ?_
      exact law_c1 C1 hP hD hK hS hl
    · refine lv_tableIn (off := 265) (tgt := 298) hx hb dL_law_33 (by decide) (by decide) rfl (by decide) ?_
      exact law_c2 C1 hP hD hK hS hl
    · refine lv_tableIn (off := 278) (tgt := 311) hx hb dL_law_33 (by decide) (by decide) rfl (by decide) ?_
      exact law_c3 C1 hP hD hK hS hl
    · refine lv_tableIn (off := 301) (tgt := 334) hx hb dL_law_33 (by decide) (by decide) rfl (by decide) ?_
      exact law_c4 C1 hP hD hK hS hl
    · refine lv_tableIn (off := 324) (tgt := 357) hx hb dL_law_33 (by decide) (by decide) rfl (by decide) ?_
      exact law_c5 C1 hP hD hK hS hl
    · refine lv_tableIn (off := 357) (tgt := 390) hx hb dL_law_33 (by decide) (by decide) rfl (by decide) ?_
      exact law_c6 C1 hP hD hK hS hl
    · refine lv_tableIn (off := 380) (tgt := 413) hx hb dL_law_33 (by decide) (by decide) rfl (by decide) ?_
      exact law_c7 C1 hP hD hK hS hl
    · refine lv_tableIn (off := 413) (tgt := 446) hx hb dL_law_33 (by decide) (by decide) rfl (by decide) ?_
      exact law_c8 C1 hP hD hK hS hl
    · refine lv_tableIn (off := 446) (tgt := 479) hx hb dL_law_33 (by decide) (by decide) rfl (by decide) ?_
      exact law_c9 C1 hP hD hK hS hl
    · refine lv_tableIn (off := 469) (tgt := 502) hx hb dL_law_33 (by decide) (by decide) rfl (by decide) ?_
      exact law_c10 C1 hP hD hK hS hl
    · refine lv_tableIn (off := 492) (tgt := 525) hx hb dL_law_33 (by decide) (by decide) rfl (by decide) ?_
      exact law_c11 C1 hP hD hK hS hl
    · refine lv_tableIn (off := 515) (tgt := 548) hx hb dL_law_33 (by decide) (by decide) rfl (by decide) ?_
      exact law_c12 C1 hP hD hK hS hl
    · refine lv_tableIn (off := 548) (tgt := 581) hx hb dL_law_33 (by decide) (by decide) rfl (by decide) ?_
      exact law_c13 C1 hP hD hK hS hl
    · refine lv_tableIn (off := 581) (tgt := 614) hx hb dL_law_33 (by decide) (by decide) rfl (by decide) ?_
      exact law_c14 C1 hP hD hK hS hl
    · refine lv_tableIn (off := 604) (tgt := 637) hx hb dL_law_33 (by decide) (by decide) rfl (by decide) ?_
      exact law_c15 C1 hP hD hK hS hl
    · refine lv_tableIn (off := 627) (tgt := 660) hx hb dL_law_33 (by decide) (by decide) rfl (by decide) ?_
      exact law_c16 C1 hP hD hK hS hl
    · refine lv_tableIn (off := 660) (tgt := 693) hx hb dL_law_33 (by decide) (by decide) rfl (by decide) ?_
      exact law_c17 C1 hP hD hK hS hl
    · refine lv_tableIn (off := 683) (tgt := 716) hx hb dL_law_33 (by decide) (by decide) rfl (by decide) ?_
      exact law_c18 C1 hP hD hK hS hl
    · refine lv_tableIn (off := 716) (tgt := 749) hx hb dL_law_33 (by decide) (by decide) rfl (by decide) ?_
      exact law_c19 C1 hP hD hK hS hl
    · refine lv_tableIn (off := 739) (tgt := 772) hx hb dL_law_33 (by decide) (by decide) rfl (by decide) ?_
      exact law_c20 C1 hP hD hK hS hl
    · refine lv_tableIn (off := 762) (tgt := 795) hx hb dL_law_33 (by decide) (by decide) rfl (by decide) ?_
      exact law_c21 C1 hP hD hK hS hl
    · refine lv_tableIn (off := 785) (tgt := 818) hx hb dL_law_33 (by decide) (by decide) rfl (by decide) ?_
      exact law_c22 C1 hP hD hK hS hl
    · refine lv_tableIn (off := 808) (tgt := 841) hx hb dL_law_33 (by decide) (by decide) rfl (by decide) ?_
      exact law_c23 C1 hP hD hK hS hl
    · refine lv_tableIn (off := 821) (tgt := 854) hx hb dL_law_33 (by decide) (by decide) rfl (by decide) ?_
      exact law_c24 C1 hP hD hK hS hl
    · refine lv_tableIn (off := 834) (tgt := 867) hx hb dL_law_33 (by decide) (by decide) rfl (by decide) ?_
      exact law_c25 C1 hP hD hK hS hl
    · refine lv_tableIn (off := 847) (tgt := 880) hx hb dL_law_33 (by decide) (by decide) rfl (by decide) ?_
      exact law_c26 C1 hP hD hK hS hl
    · refine lv_tableIn (off := 870) (tgt := 903) hx hb dL_law_33 (by decide) (by decide) rfl (by decide) ?_
      exact law_c27 C1 hP hD hK hS hl
    · refine lv_tableIn (off := 893) (tgt := 926) hx hb dL_law_33 (by decide) (by decide) rfl (by decide) ?_
      exact law_c28 C1 hP hD hK hS hl
    · refine lv_tableIn (off := 906) (tgt := 939) hx hb dL_law_33 (by decide) (by decide) rfl (by decide) ?_
      exact law_c29 C1 hP hD hK hS hl
    · refine lv_tableIn (off := 929) (tgt := 962) hx hb dL_law_33 (by decide) (by decide) rfl (by decide) ?_
      exact law_c30 C1 hP hD hK hS hl
    · refine lv_tableIn (off := 942) (tgt := 975) hx hb dL_law_33 (by decide) (by decide) rfl (by decide) ?_
      exact law_c31 C1 hP hD hK hS hl
    · refine lv_tableIn (off := 955) (tgt := 988) hx hb dL_law_33 (by decide) (by decide) rfl (by decide) ?_
      exact law_c32 C1 hP hD hK hS hl
    · refine lv_tableIn (off := 978) (tgt := 1011) hx hb dL_law_33 (by decide) (by decide) rfl (by decide) ?_
      exact law_c33 C1 hP hD hK hS hl
    · refine lv_tableIn (off := 1001) (tgt := 1034) hx hb dL_law_33 (by decide) (by decide) rfl (by decide) ?_
      exact law_c34 C1 hP hD hK hS hl
    · refine lv_tableIn (off := 1024) (tgt := 1057) hx hb dL_law_33 (by decide) (by decide) rfl (by decide) ?_
      exact law_c35 C1 hP hD hK hS hl
    · refine lv_tableIn (off := 1037) (tgt := 1070) hx hb dL_law_33 (by decide) (by decide) rfl (by decide) ?_
      exact law_c36 C1 hP hD hK hS hl
    · refine lv_tableIn (off := 1060) (tgt := 1093) hx hb dL_law_33 (by decide) (by decide) rfl (by decide) ?_
      exact law_c37 C1 hP hD hK hS hl
    · refine lv_tableIn (off := 1073) (tgt := 1106) hx hb dL_law_33 (by decide) (by decide) rfl (by decide) ?_
      exact law_c38 C1 hP hD hK hS hl
    · refine lv_tableIn (off := 1096) (tgt := 1129) hx hb dL_law_33 (by decide) (by decide) rfl (by decide) ?_
      exact law_c39 C1 hP hD hK hS hl
    · refine lv_tableIn (off := 1109) (tgt := 1142) hx hb dL_law_33 (by decide) (by decide) rfl (by decide) ?_
      exact law_c40 C1 hP hD hK hS hl
    · refine lv_tableOut (tgt := 1165) hx hb dL_law_33 ho (by decide) ?_
      exact law_tail C1 hS (lv_sub hl [0, 3] rfl)
