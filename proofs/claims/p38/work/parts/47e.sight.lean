def wk_62 (a0 : Nat) (x0_0 : Nat) (x0_1 : Nat) (x0_2 : Nat) (x0_3 : Nat) (x0_4 : Int) (x0_5 : Nat) (x0_6 : Int) (x0_7 : Int) (x0_8 : Int) (x0_9 : Nat) (x0_10 : Nat) (a1 : Nat) (c1 : ClassId) (g1 : Nat → Int) (a2 : Nat) (c2 : ClassId) (g2 : Nat → Int) : va_W := [(a0, .inr (6, [.ref x0_0, .ref x0_1, .ref x0_2, .ref x0_3, .int (iZ x0_4), .ref x0_5, .int (iZ x0_6), .int (iZ x0_7), .int (iZ x0_8), .ref x0_9, .ref x0_10])), (a1, .inl (c1, 52960, .inl (aZ g1))), (a2, .inl (c2, 8192, .inl (aZ g2)))]
set_option maxHeartbeats 4000000 in
set_option maxRecDepth 100000 in
theorem z_X6_mostAlike_a (l : Launch) (dC : Nat → ClassId) (dI : Nat → Nat → Nat) (a_t : Nat) (p1 : Int) (q_t_slide : Nat) (q_t_ghost : Nat) (q_t_addresses : Nat) (q_t_values : Nat) (t_rows : Int) (q_t_hits : Nat) (t_hitCount : Int) (t_telling : Int) (t_mostLeft : Int) (q_t_words : Nat) (q_t_alike : Nat) (k_t_words : ClassId) (g_t_words : Nat → Int) (k_t_alike : ClassId) (g_t_alike : Nat → Int) (sz : Nat) (b_t_rows : 0 ≤ t_rows ∧ t_rows ≤ 16) (b_t_hitCount : 0 ≤ t_hitCount ∧ t_hitCount ≤ 331) (b_t_telling : -1 ≤ t_telling ∧ t_telling ≤ 159) (b_t_mostLeft : -2147483648 ≤ t_mostLeft ∧ t_mostLeft ≤ 2147483647) (hb_g_t_words : ∀ j : Nat, j < 52960 → (0 ≤ g_t_words j ∧ g_t_words j ≤ 1999) ∨ (3047 ≤ g_t_words j ∧ g_t_words j ≤ 3207) ∨ (5096 ≤ g_t_words j ∧ g_t_words j ≤ 5101) ∨ (7136 ≤ g_t_words j ∧ g_t_words j ≤ 7303)) (b_p1 : 0 ≤ p1 ∧ p1 ≤ 159) : Met l yX6_mostAlike (Cond.code yX6_mostAlike cX6_mostAlike 5 (some .int) :: wA) ({ frames := 1, cells := 0, slots := 0, locals := 40 }) (va_Pc [.ref a_t, .int (iZ p1)] (fun U => U.heap.size = sz ∧ va_P (dC, dI) vwCl (wk_62 a_t q_t_slide q_t_ghost q_t_addresses q_t_values t_rows q_t_hits t_hitCount t_telling t_mostLeft q_t_words q_t_alike q_t_words k_t_words g_t_words q_t_alike k_t_alike g_t_alike) U.heap ∧ va_K (dC, dI) vwCl [(k_t_words, .int), (k_t_alike, .int)] U ∧ va_D (fun _ => True) (wk_62 a_t q_t_slide q_t_ghost q_t_addresses q_t_values t_rows q_t_hits t_hitCount t_telling t_mostLeft q_t_words q_t_alike q_t_words k_t_words g_t_words q_t_alike k_t_alike g_t_alike) ∧ nwAll U)) (va_Qi (fun (r : Int32) (zR : Int) => r = iZ zR ∧ (-2147483648 ≤ zR ∧ zR ≤ 2147483647)) (fun zR t => ∃ n_g_t_alike : Nat → Int, va_P (dC, dI) vwCl (wk_62 a_t q_t_slide q_t_ghost q_t_addresses q_t_values t_rows q_t_hits t_hitCount t_telling t_mostLeft q_t_words q_t_alike q_t_words k_t_words g_t_words q_t_alike k_t_alike n_g_t_alike) t.heap ∧ va_K (dC, dI) vwCl [(k_t_words, .int), (k_t_alike, .int)] t ∧ va_D (va_A (wk_62 a_t q_t_slide q_t_ghost q_t_addresses q_t_values t_rows q_t_hits t_hitCount t_telling t_mostLeft q_t_words q_t_alike q_t_words k_t_words g_t_words q_t_alike k_t_alike g_t_alike) sz) (wk_62 a_t q_t_slide q_t_ghost q_t_addresses q_t_values t_rows q_t_hits t_hitCount t_telling t_mostLeft q_t_words q_t_alike q_t_words k_t_words g_t_words q_t_alike k_t_alike n_g_t_alike)) (va_A (wk_62 a_t q_t_slide q_t_ghost q_t_addresses q_t_values t_rows q_t_hits t_hitCount t_telling t_mostLeft q_t_words q_t_alike q_t_words k_t_words g_t_words q_t_alike k_t_alike g_t_alike) sz)) 0 0 (va_A (wk_62 a_t q_t_slide q_t_ghost q_t_addresses q_t_values t_rows q_t_hits t_hitCount t_telling t_mostLeft q_t_words q_t_alike q_t_words k_t_words g_t_words q_t_alike k_t_alike g_t_alike) sz) := by
  refine Met.ofW (cc := cX6_mostAlike) (maxL := 5) (ret := (some .int)) (by decide) rfl ?_
  intro p e s m args below meth c s₁ B hml hv
  obtain ⟨rfl, hsz, hP, hK, hD0, hN⟩ := hv
  have hx := B.exec
  have hb := B.bytes
  have hr := B.returns
  have hts : ∀ w ∈ wA, w.before [.ref a_t, .int (iZ p1)].toArray s = true := fun w h => atoms_spec (ws := Cond.code yX6_mostAlike cX6_mostAlike 5 (some .int) :: wA) B.pre w (List.mem_cons_of_mem _ h)
  have hown : s.vm.findClass RX6 = some m.cls := findClass_of_methodNamed B.named
  have hlocks := B.notSynchronized
  subst hsz
  have hD := hD0.self (sz := s.heap.size)
  generalize hQ : MQ below (va_Qi (fun (r : Int32) (zR : Int) => r = iZ zR ∧ (-2147483648 ≤ zR ∧ zR ≤ 2147483647)) (fun zR t => ∃ n_g_t_alike : Nat → Int, va_P (dC, dI) vwCl (wk_62 a_t q_t_slide q_t_ghost q_t_addresses q_t_values t_rows q_t_hits t_hitCount t_telling t_mostLeft q_t_words q_t_alike q_t_words k_t_words g_t_words q_t_alike k_t_alike n_g_t_alike) t.heap ∧ va_K (dC, dI) vwCl [(k_t_words, .int), (k_t_alike, .int)] t ∧ va_D (va_A (wk_62 a_t q_t_slide q_t_ghost q_t_addresses q_t_values t_rows q_t_hits t_hitCount t_telling t_mostLeft q_t_words q_t_alike q_t_words k_t_words g_t_words q_t_alike k_t_alike g_t_alike) s.heap.size) (wk_62 a_t q_t_slide q_t_ghost q_t_addresses q_t_values t_rows q_t_hits t_hitCount t_telling t_mostLeft q_t_words q_t_alike q_t_words k_t_words g_t_words q_t_alike k_t_alike n_g_t_alike)) (va_A (wk_62 a_t q_t_slide q_t_ghost q_t_addresses q_t_values t_rows q_t_hits t_hitCount t_telling t_mostLeft q_t_words q_t_alike q_t_words k_t_words g_t_words q_t_alike k_t_alike g_t_alike) s.heap.size)) [.ref a_t, .int (iZ p1)].toArray s 0 0 (va_A (wk_62 a_t q_t_slide q_t_ghost q_t_addresses q_t_values t_rows q_t_hits t_hitCount t_telling t_mostLeft q_t_words q_t_alike q_t_words k_t_words g_t_words q_t_alike k_t_alike g_t_alike) s.heap.size) = Q
  have hA : ∀ q : Nat, s.heap.size ≤ q → va_A (wk_62 a_t q_t_slide q_t_ghost q_t_addresses q_t_values t_rows q_t_hits t_hitCount t_telling t_mostLeft q_t_words q_t_alike q_t_words k_t_words g_t_words q_t_alike k_t_alike g_t_alike) s.heap.size q := fun q h => Or.inr h
  generalize hAe : va_A (wk_62 a_t q_t_slide q_t_ghost q_t_addresses q_t_values t_rows q_t_hits t_hitCount t_telling t_mostLeft q_t_words q_t_alike q_t_words k_t_words g_t_words q_t_alike k_t_alike g_t_alike) s.heap.size = A at hD hA hQ
  have hS : va_S A s.heap s.heap [] := va_S.rf
  have hl := lv_entry ([.ref a_t, .int (iZ p1)]) (n := 5) (Nat.le_of_ble_eq_true rfl)
  rw [lg_entry_eq]
  generalize (lg_sl ([.ref a_t, .int (iZ p1)]) ++ List.replicate (5 - (lg_sl ([.ref a_t, .int (iZ p1)])).length) Slot.unset).toArray = ls at hl ⊢
  have hl : lv_has ls 5 [(0, .ref a_t), (1, .int (iZ p1))] := hl
  refine lv_aload_n hx hb dX6_mostAlike_0 rfl (lv_at hl 0 rfl) ?_
  refine va_get (D := (dC, dI)) (ci := 6) (v := .ref q_t_words) (C := RX6) (T := TX6) (N := 11) hx hb hts i_X6 hown hK hP 0 rfl rfl 9 (by decide) (hts _ q_1426) (fun _ h9 => h9) rfl dX6_mostAlike_1 ?_
  refine lv_ifnull hx hb dX6_mostAlike_4 ?_
  refine lv_aload_n hx hb dX6_mostAlike_7 rfl (lv_at hl 0 rfl) ?_
  refine va_get (D := (dC, dI)) (ci := 6) (v := .ref q_t_alike) (C := RX6) (T := TX6) (N := 11) hx hb hts i_X6 hown hK hP 0 rfl rfl 10 (by decide) (hts _ q_1427) (fun _ h9 => h9) rfl dX6_mostAlike_8 ?_
  refine lv_ifnonnull (tgt := 16) hx hb dX6_mostAlike_11 (by decide) ?_
  refine lv_iconst (v := iZ 0) hx hb dX6_mostAlike_16 (by decide) ?_
  refine lv_istore_n (lv' := [(2, .int (iZ 0)), (0, .ref a_t), (1, .int (iZ p1))]) hx hb dX6_mostAlike_17 rfl hl (by decide) rfl (fun ls hl => ?_)
  refine lv_iconst (v := iZ 0) hx hb dX6_mostAlike_18 (by decide) ?_
  refine lv_istore_n (lv' := [(3, .int (iZ 0)), (2, .int (iZ 0)), (0, .ref a_t), (1, .int (iZ p1))]) hx hb dX6_mostAlike_19 rfl hl (by decide) rfl (fun ls hl => ?_)
  have lp_20 : ∀ (N20 : Nat) (H : Heap) (locs : List Loc) (ls : Array Slot) (i46766 : Int) (i46767 : Int) (g46765 : Nat → Int), 0 ≤ i46766 → 0 ≤ -i46766 + 2147483647 → 0 ≤ i46767 → 0 ≤ -i46767 + t_hitCount → -i46767 + t_hitCount ≤ (N20 : Int) → va_P (dC, dI) vwCl (wk_62 a_t q_t_slide q_t_ghost q_t_addresses q_t_values t_rows q_t_hits t_hitCount t_telling t_mostLeft q_t_words q_t_alike q_t_words k_t_words g_t_words q_t_alike k_t_alike g46765) H → va_D A (wk_62 a_t q_t_slide q_t_ghost q_t_addresses q_t_values t_rows q_t_hits t_hitCount t_telling t_mostLeft q_t_words q_t_alike q_t_words k_t_words g_t_words q_t_alike k_t_alike g46765) → va_S A s.heap H locs → lv_has ls 5 [(0, .ref a_t), (1, .int (iZ p1)), (2, .int (iZ i46766)), (3, .int (iZ i46767))] → W p l e (headSpec (Cond.code yX6_mostAlike cX6_mostAlike 5 (some .int) :: wA) ({ frames := 1, cells := 0, slots := 0, locals := 40 })).room s m [.ref a_t, .int (iZ p1)].toArray below meth c H locs 0 0 Q (F0 m 20 ls []) := by
    intro N20
    induction N20 using Nat.strongRecOn with
    | ind N20 ih_20 =>
      intro H locs ls i46766 i46767 g46765 k20_0 k20_1 k20_2 k20_3 hm20 hP hD hS hl
      refine lv_iload_n hx hb dX6_mostAlike_20 rfl (lv_at hl 3 rfl) ?_
      refine lv_aload_n hx hb dX6_mostAlike_21 rfl (lv_at hl 0 rfl) ?_
      refine va_get (D := (dC, dI)) (ci := 6) (v := .int (iZ t_hitCount)) (C := RX6) (T := TX6) (N := 11) hx hb hts i_X6 hown hK hP 0 rfl rfl 6 (by decide) (hts _ q_1423) (fun _ h9 => h9) rfl dX6_mostAlike_22 ?_
      refine zv_icmp_ge (tgt := 71) hx hb dX6_mostAlike_25 (by decide) (by omega) (by omega) (fun c46814 => ?_) (fun c46814 => ?_)
      · refine lv_iconst (v := iZ 0) hx hb dX6_mostAlike_71 (by decide) ?_
        refine lv_istore_n (lv' := [(3, .int (iZ 0)), (0, .ref a_t), (1, .int (iZ p1)), (2, .int (iZ i46766))]) hx hb dX6_mostAlike_72 rfl hl (by decide) rfl (fun ls hl => ?_)
        have lp_73 : ∀ (N73 : Nat) (H : Heap) (locs : List Loc) (ls : Array Slot) (i46819 : Int) (g46818 : Nat → Int), 0 ≤ i46819 → 0 ≤ -i46819 + t_hitCount → -i46819 + t_hitCount ≤ (N73 : Int) → va_P (dC, dI) vwCl (wk_62 a_t q_t_slide q_t_ghost q_t_addresses q_t_values t_rows q_t_hits t_hitCount t_telling t_mostLeft q_t_words q_t_alike q_t_words k_t_words g_t_words q_t_alike k_t_alike g46818) H → va_D A (wk_62 a_t q_t_slide q_t_ghost q_t_addresses q_t_values t_rows q_t_hits t_hitCount t_telling t_mostLeft q_t_words q_t_alike q_t_words k_t_words g_t_words q_t_alike k_t_alike g46818) → va_S A s.heap H locs → lv_has ls 5 [(0, .ref a_t), (1, .int (iZ p1)), (2, .int (iZ i46766)), (3, .int (iZ i46819))] → W p l e (headSpec (Cond.code yX6_mostAlike cX6_mostAlike 5 (some .int) :: wA) ({ frames := 1, cells := 0, slots := 0, locals := 40 })).room s m [.ref a_t, .int (iZ p1)].toArray below meth c H locs 0 0 Q (F0 m 73 ls []) := by
          intro N73
          induction N73 using Nat.strongRecOn with
          | ind N73 ih_73 =>
            intro H locs ls i46819 g46818 k73_0 k73_1 hm73 hP hD hS hl
            refine lv_iload_n hx hb dX6_mostAlike_73 rfl (lv_at hl 3 rfl) ?_
            refine lv_aload_n hx hb dX6_mostAlike_74 rfl (lv_at hl 0 rfl) ?_
            refine va_get (D := (dC, dI)) (ci := 6) (v := .int (iZ t_hitCount)) (C := RX6) (T := TX6) (N := 11) hx hb hts i_X6 hown hK hP 0 rfl rfl 6 (by decide) (hts _ q_1423) (fun _ h9 => h9) rfl dX6_mostAlike_75 ?_
            refine zv_icmp_ge (tgt := 105) hx hb dX6_mostAlike_78 (by decide) (by omega) (by omega) (fun c46835 => ?_) (fun c46835 => ?_)
            · refine lv_iload_n hx hb dX6_mostAlike_105 rfl (lv_at hl 2 rfl) ?_
              subst hQ
              exact W.iret (v := iZ i46766) hx hb hr (fun t ht hW => ⟨⟨iZ i46766, i46766, rfl, ⟨rfl, by omega⟩, g46818, by rw [ht]; exact hP, va_K.moved hW.alike hK, hD⟩, hS.F ht⟩) hS.2.2 dX6_mostAlike_106
            · refine lv_aload_n hx hb dX6_mostAlike_81 rfl (lv_at hl 0 rfl) ?_
              refine va_get (D := (dC, dI)) (ci := 6) (v := .ref q_t_alike) (C := RX6) (T := TX6) (N := 11) hx hb hts i_X6 hown hK hP 0 rfl rfl 10 (by decide) (hts _ q_1427) (fun _ h9 => h9) rfl dX6_mostAlike_82 ?_
              refine lv_aload_n hx hb dX6_mostAlike_85 rfl (lv_at hl 0 rfl) ?_
              refine va_get (D := (dC, dI)) (ci := 6) (v := .ref q_t_words) (C := RX6) (T := TX6) (N := 11) hx hb hts i_X6 hown hK hP 0 rfl rfl 9 (by decide) (hts _ q_1426) (fun _ h9 => h9) rfl dX6_mostAlike_86 ?_
              refine lv_iload_n hx hb dX6_mostAlike_89 rfl (lv_at hl 3 rfl) ?_
              refine lv_sipush (v := iZ 160) hx hb dX6_mostAlike_90 (by decide) ?_
              refine zv_imul hx hb (160 * i46819) (by omega) dX6_mostAlike_93 ?_
              refine lv_iload_n hx hb dX6_mostAlike_94 rfl (lv_at hl 1 rfl) ?_
              refine zv_iadd hx hb (160 * i46819 + p1) (by omega) dX6_mostAlike_95 ?_
              refine zv_iald hx hb hK hP 1 0 rfl rfl (by omega) (by omega) (by omega) dX6_mostAlike_96 (fun z46836 ez46836 => ?_)
              have bz46836 : (0 ≤ z46836 ∧ z46836 ≤ 1999) ∨ (3047 ≤ z46836 ∧ z46836 ≤ 3207) ∨ (5096 ≤ z46836 ∧ z46836 ≤ 5101) ∨ (7136 ≤ z46836 ∧ z46836 ≤ 7303) := by rw [ez46836]; exact hb_g_t_words _ (by omega)
              refine lv_iconst (v := iZ 0) hx hb dX6_mostAlike_97 (by decide) ?_
              refine zv_iast hx hb hK hP hD hS 2 1 rfl rfl (by omega) (by omega) (by omega) dX6_mostAlike_98 (fun g46837 H locs eg46837 hP hD hS => ?_)
              have hP : va_P (dC, dI) vwCl (wk_62 a_t q_t_slide q_t_ghost q_t_addresses q_t_values t_rows q_t_hits t_hitCount t_telling t_mostLeft q_t_words q_t_alike q_t_words k_t_words g_t_words q_t_alike k_t_alike g46837) H := hP
              have hD : va_D A (wk_62 a_t q_t_slide q_t_ghost q_t_addresses q_t_values t_rows q_t_hits t_hitCount t_telling t_mostLeft q_t_words q_t_alike q_t_words k_t_words g_t_words q_t_alike k_t_alike g46837) := hD
              refine lv_iinc (v := iZ (i46819 + 1)) (lv' := [(3, .int (iZ (i46819 + 1))), (0, .ref a_t), (1, .int (iZ p1)), (2, .int (iZ i46766))]) hx hb dX6_mostAlike_99 hl (k := 3) rfl (iZ_inc (by omega)) (by decide) rfl (fun ls hl => ?_)
              refine lv_goto (tgt := 73) hx hb dX6_mostAlike_102 (by decide) ?_
              exact ih_73 (N73 - 1) (by omega) _ _ _ (i46819 + 1) g46837 (by omega) (by omega) (by omega) hP hD hS (lv_sub hl [1, 2, 3, 0] rfl)
        exact lp_73 ((t_hitCount : Int)).toNat _ _ _ 0 g46765 (by omega) (by omega) (by omega) hP hD hS (lv_sub hl [1, 2, 3, 0] rfl)
      · refine lv_aload_n hx hb dX6_mostAlike_28 rfl (lv_at hl 0 rfl) ?_
        refine va_get (D := (dC, dI)) (ci := 6) (v := .ref q_t_words) (C := RX6) (T := TX6) (N := 11) hx hb hts i_X6 hown hK hP 0 rfl rfl 9 (by decide) (hts _ q_1426) (fun _ h9 => h9) rfl dX6_mostAlike_29 ?_
        refine lv_iload_n hx hb dX6_mostAlike_32 rfl (lv_at hl 3 rfl) ?_
        refine lv_sipush (v := iZ 160) hx hb dX6_mostAlike_33 (by decide) ?_
        refine zv_imul hx hb (160 * i46767) (by omega) dX6_mostAlike_36 ?_
        refine lv_iload_n hx hb dX6_mostAlike_37 rfl (lv_at hl 1 rfl) ?_
        refine zv_iadd hx hb (160 * i46767 + p1) (by omega) dX6_mostAlike_38 ?_
        refine zv_iald hx hb hK hP 1 0 rfl rfl (by omega) (by omega) (by omega) dX6_mostAlike_39 (fun z46838 ez46838 => ?_)
        have bz46838 : (0 ≤ z46838 ∧ z46838 ≤ 1999) ∨ (3047 ≤ z46838 ∧ z46838 ≤ 3207) ∨ (5096 ≤ z46838 ∧ z46838 ≤ 5101) ∨ (7136 ≤ z46838 ∧ z46838 ≤ 7303) := by rw [ez46838]; exact hb_g_t_words _ (by omega)
        refine lv_istore (lv' := [(4, .int (iZ z46838)), (0, .ref a_t), (1, .int (iZ p1)), (2, .int (iZ i46766)), (3, .int (iZ i46767))]) hx hb dX6_mostAlike_40 hl (by decide) rfl (fun ls hl => ?_)
        refine lv_aload_n hx hb dX6_mostAlike_42 rfl (lv_at hl 1 rfl) ?_
        refine va_get (D := (dC, dI)) (ci := 6) (v := .ref q_t_alike) (C := RX6) (T := TX6) (N := 11) hx hb hts i_X6 hown hK hP 0 rfl rfl 10 (by decide) (hts _ q_1427) (fun _ h9 => h9) rfl dX6_mostAlike_43 ?_
        refine lv_iload hx hb dX6_mostAlike_46 (lv_at hl 0 rfl) ?_
        refine lv_dup2_11 hx hb dX6_mostAlike_48 rfl rfl ?_
        refine zv_iald hx hb hK hP 2 1 rfl rfl (by omega) (by omega) (by omega) dX6_mostAlike_49 (fun z46839 ez46839 => ?_)
        refine zv_norm (fun z46840 lz46840 uz46840 => ?_)
        refine lv_iconst (v := iZ 1) hx hb dX6_mostAlike_50 (by decide) ?_
        refine zv_iadd hx hb (z46840 + 1) (by omega) dX6_mostAlike_51 ?_
        refine zv_norm (fun z46841 lz46841 uz46841 => ?_)
        refine zv_iast hx hb hK hP hD hS 2 1 rfl rfl (by omega) (by omega) (by omega) dX6_mostAlike_52 (fun g46842 H locs eg46842 hP hD hS => ?_)
        have hP : va_P (dC, dI) vwCl (wk_62 a_t q_t_slide q_t_ghost q_t_addresses q_t_values t_rows q_t_hits t_hitCount t_telling t_mostLeft q_t_words q_t_alike q_t_words k_t_words g_t_words q_t_alike k_t_alike g46842) H := hP
        have hD : va_D A (wk_62 a_t q_t_slide q_t_ghost q_t_addresses q_t_values t_rows q_t_hits t_hitCount t_telling t_mostLeft q_t_words q_t_alike q_t_words k_t_words g_t_words q_t_alike k_t_alike g46842) := hD
        refine lv_iload_n hx hb dX6_mostAlike_53 rfl (lv_at hl 3 rfl) ?_
        refine lv_aload_n hx hb dX6_mostAlike_54 rfl (lv_at hl 1 rfl) ?_
        refine va_get (D := (dC, dI)) (ci := 6) (v := .ref q_t_alike) (C := RX6) (T := TX6) (N := 11) hx hb hts i_X6 hown hK hP 0 rfl rfl 10 (by decide) (hts _ q_1427) (fun _ h9 => h9) rfl dX6_mostAlike_55 ?_
        refine lv_iload hx hb dX6_mostAlike_58 (lv_at hl 0 rfl) ?_
        refine zv_iald hx hb hK hP 2 1 rfl rfl (by omega) (by omega) (by omega) dX6_mostAlike_60 (fun z46843 ez46843 => ?_)
        refine zv_norm (fun z46844 lz46844 uz46844 => ?_)
        refine zv_mmax hx hb (hml.trans hl.1.symm) hown (hts _ q_9) (hts _ q_1) (hts _ q_2) (hts _ q_3) (Nat.le_of_ble_eq_true rfl) (Nat.le_of_ble_eq_true rfl) (Nat.le_of_ble_eq_true rfl) (Nat.le_of_ble_eq_true rfl) (by omega) (by omega) dX6_mostAlike_61 (fun z46845 ez46845 => ?_)
        refine lv_istore_n (lv' := [(2, .int (iZ z46845)), (4, .int (iZ z46838)), (0, .ref a_t), (1, .int (iZ p1)), (3, .int (iZ i46767))]) hx hb dX6_mostAlike_64 rfl hl (by decide) rfl (fun ls hl => ?_)
        refine lv_iinc (v := iZ (i46767 + 1)) (lv' := [(3, .int (iZ (i46767 + 1))), (2, .int (iZ z46845)), (4, .int (iZ z46838)), (0, .ref a_t), (1, .int (iZ p1))]) hx hb dX6_mostAlike_65 hl (k := 4) rfl (iZ_inc (by omega)) (by decide) rfl (fun ls hl => ?_)
        refine lv_goto (tgt := 20) hx hb dX6_mostAlike_68 (by decide) ?_
        exact ih_20 (N20 - 1) (by omega) _ _ _ z46845 (i46767 + 1) g46842 (by omega) (by omega) (by omega) (by omega) (by omega) hP hD hS (lv_sub hl [3, 4, 1, 0] rfl)
  exact lp_20 ((t_hitCount : Int)).toNat _ _ _ 0 0 g_t_alike (by omega) (by omega) (by omega) (by omega) (by omega) hP hD hS (lv_sub hl [2, 3, 1, 0] rfl)
set_option maxHeartbeats 4000000 in
set_option maxRecDepth 100000 in
theorem z_X6_pickTelling_a (l : Launch) (dC : Nat → ClassId) (dI : Nat → Nat → Nat) (a_t : Nat) (p1 : Int) (q_t_slide : Nat) (q_t_ghost : Nat) (q_t_addresses : Nat) (q_t_values : Nat) (t_rows : Int) (q_t_hits : Nat) (t_hitCount : Int) (t_telling : Int) (t_mostLeft : Int) (q_t_words : Nat) (q_t_alike : Nat) (k_t_words : ClassId) (g_t_words : Nat → Int) (k_t_alike : ClassId) (g_t_alike : Nat → Int) (sz : Nat) (b_t_rows : 0 ≤ t_rows ∧ t_rows ≤ 16) (b_t_hitCount : 0 ≤ t_hitCount ∧ t_hitCount ≤ 331) (b_t_telling : -1 ≤ t_telling ∧ t_telling ≤ 159) (b_t_mostLeft : -2147483648 ≤ t_mostLeft ∧ t_mostLeft ≤ 2147483647) (hb_g_t_words : ∀ j : Nat, j < 52960 → (0 ≤ g_t_words j ∧ g_t_words j ≤ 1999) ∨ (3047 ≤ g_t_words j ∧ g_t_words j ≤ 3207) ∨ (5096 ≤ g_t_words j ∧ g_t_words j ≤ 5101) ∨ (7136 ≤ g_t_words j ∧ g_t_words j ≤ 7303)) (b_p1 : 0 ≤ p1 ∧ p1 ≤ 160) : Met l yX6_pickTelling (Cond.code yX6_pickTelling cX6_pickTelling 4 none :: wA) ({ frames := 2, cells := 0, slots := 0, locals := 64 }) (va_Pc [.ref a_t, .int (iZ p1)] (fun U => U.heap.size = sz ∧ va_P (dC, dI) vwCl (wk_62 a_t q_t_slide q_t_ghost q_t_addresses q_t_values t_rows q_t_hits t_hitCount t_telling t_mostLeft q_t_words q_t_alike q_t_words k_t_words g_t_words q_t_alike k_t_alike g_t_alike) U.heap ∧ va_K (dC, dI) vwCl [(k_t_words, .int), (k_t_alike, .int)] U ∧ va_D (fun _ => True) (wk_62 a_t q_t_slide q_t_ghost q_t_addresses q_t_values t_rows q_t_hits t_hitCount t_telling t_mostLeft q_t_words q_t_alike q_t_words k_t_words g_t_words q_t_alike k_t_alike g_t_alike) ∧ nwAll U)) (va_Qv (fun (_ : Unit) => True) (fun _ t => ∃ n_t_telling : Int, ∃ n_t_mostLeft : Int, ∃ n_g_t_alike : Nat → Int, (-1 ≤ n_t_telling ∧ n_t_telling ≤ 159) ∧ (-2147483648 ≤ n_t_mostLeft ∧ n_t_mostLeft ≤ 2147483647) ∧ va_P (dC, dI) vwCl (wk_62 a_t q_t_slide q_t_ghost q_t_addresses q_t_values t_rows q_t_hits t_hitCount n_t_telling n_t_mostLeft q_t_words q_t_alike q_t_words k_t_words g_t_words q_t_alike k_t_alike n_g_t_alike) t.heap ∧ va_K (dC, dI) vwCl [(k_t_words, .int), (k_t_alike, .int)] t ∧ va_D (va_A (wk_62 a_t q_t_slide q_t_ghost q_t_addresses q_t_values t_rows q_t_hits t_hitCount t_telling t_mostLeft q_t_words q_t_alike q_t_words k_t_words g_t_words q_t_alike k_t_alike g_t_alike) sz) (wk_62 a_t q_t_slide q_t_ghost q_t_addresses q_t_values t_rows q_t_hits t_hitCount n_t_telling n_t_mostLeft q_t_words q_t_alike q_t_words k_t_words g_t_words q_t_alike k_t_alike n_g_t_alike)) (va_A (wk_62 a_t q_t_slide q_t_ghost q_t_addresses q_t_values t_rows q_t_hits t_hitCount t_telling t_mostLeft q_t_words q_t_alike q_t_words k_t_words g_t_words q_t_alike k_t_alike g_t_alike) sz)) 0 0 (va_A (wk_62 a_t q_t_slide q_t_ghost q_t_addresses q_t_values t_rows q_t_hits t_hitCount t_telling t_mostLeft q_t_words q_t_alike q_t_words k_t_words g_t_words q_t_alike k_t_alike g_t_alike) sz) := by
  refine Met.ofW (cc := cX6_pickTelling) (maxL := 4) (ret := none) (by decide) rfl ?_
  intro p e s m args below meth c s₁ B hml hv
  obtain ⟨rfl, hsz, hP, hK, hD0, hN⟩ := hv
  have hx := B.exec
  have hb := B.bytes
  have hr := B.returns
  have hts : ∀ w ∈ wA, w.before [.ref a_t, .int (iZ p1)].toArray s = true := fun w h => atoms_spec (ws := Cond.code yX6_pickTelling cX6_pickTelling 4 none :: wA) B.pre w (List.mem_cons_of_mem _ h)
  have hown : s.vm.findClass RX6 = some m.cls := findClass_of_methodNamed B.named
  have hlocks := B.notSynchronized
  subst hsz
  have hD := hD0.self (sz := s.heap.size)
  generalize hQ : MQ below (va_Qv (fun (_ : Unit) => True) (fun _ t => ∃ n_t_telling : Int, ∃ n_t_mostLeft : Int, ∃ n_g_t_alike : Nat → Int, (-1 ≤ n_t_telling ∧ n_t_telling ≤ 159) ∧ (-2147483648 ≤ n_t_mostLeft ∧ n_t_mostLeft ≤ 2147483647) ∧ va_P (dC, dI) vwCl (wk_62 a_t q_t_slide q_t_ghost q_t_addresses q_t_values t_rows q_t_hits t_hitCount n_t_telling n_t_mostLeft q_t_words q_t_alike q_t_words k_t_words g_t_words q_t_alike k_t_alike n_g_t_alike) t.heap ∧ va_K (dC, dI) vwCl [(k_t_words, .int), (k_t_alike, .int)] t ∧ va_D (va_A (wk_62 a_t q_t_slide q_t_ghost q_t_addresses q_t_values t_rows q_t_hits t_hitCount t_telling t_mostLeft q_t_words q_t_alike q_t_words k_t_words g_t_words q_t_alike k_t_alike g_t_alike) s.heap.size) (wk_62 a_t q_t_slide q_t_ghost q_t_addresses q_t_values t_rows q_t_hits t_hitCount n_t_telling n_t_mostLeft q_t_words q_t_alike q_t_words k_t_words g_t_words q_t_alike k_t_alike n_g_t_alike)) (va_A (wk_62 a_t q_t_slide q_t_ghost q_t_addresses q_t_values t_rows q_t_hits t_hitCount t_telling t_mostLeft q_t_words q_t_alike q_t_words k_t_words g_t_words q_t_alike k_t_alike g_t_alike) s.heap.size)) [.ref a_t, .int (iZ p1)].toArray s 0 0 (va_A (wk_62 a_t q_t_slide q_t_ghost q_t_addresses q_t_values t_rows q_t_hits t_hitCount t_telling t_mostLeft q_t_words q_t_alike q_t_words k_t_words g_t_words q_t_alike k_t_alike g_t_alike) s.heap.size) = Q
  have hA : ∀ q : Nat, s.heap.size ≤ q → va_A (wk_62 a_t q_t_slide q_t_ghost q_t_addresses q_t_values t_rows q_t_hits t_hitCount t_telling t_mostLeft q_t_words q_t_alike q_t_words k_t_words g_t_words q_t_alike k_t_alike g_t_alike) s.heap.size q := fun q h => Or.inr h
  generalize hAe : va_A (wk_62 a_t q_t_slide q_t_ghost q_t_addresses q_t_values t_rows q_t_hits t_hitCount t_telling t_mostLeft q_t_words q_t_alike q_t_words k_t_words g_t_words q_t_alike k_t_alike g_t_alike) s.heap.size = A at hD hA hQ
  have hS : va_S A s.heap s.heap [] := va_S.rf
  have hl := lv_entry ([.ref a_t, .int (iZ p1)]) (n := 4) (Nat.le_of_ble_eq_true rfl)
  rw [lg_entry_eq]
  generalize (lg_sl ([.ref a_t, .int (iZ p1)]) ++ List.replicate (4 - (lg_sl ([.ref a_t, .int (iZ p1)])).length) Slot.unset).toArray = ls at hl ⊢
  have hl : lv_has ls 4 [(0, .ref a_t), (1, .int (iZ p1))] := hl
  refine lv_aload_n hx hb dX6_pickTelling_0 rfl (lv_at hl 0 rfl) ?_
  refine lv_iconst (v := iZ (-1)) hx hb dX6_pickTelling_1 (by decide) ?_
  refine va_put (D := (dC, dI)) (ci := 6) (v := .int (iZ (-1))) (ty := tyX6 7) (C := RX6) (T := TX6) (N := 11) hx hb hts i_X6 tyX6 tyX6_ok nmX6 hown hK hP hD hS 0 rfl rfl 7 (by decide) (hts _ q_1424) (fun _ h9 => h9) rfl (tyX6_ok 7 (by decide)) rfl rfl (Nat.le_of_ble_eq_true rfl) dX6_pickTelling_2 (fun H locs hP hD hS => ?_)
  have hP : va_P (dC, dI) vwCl (wk_62 a_t q_t_slide q_t_ghost q_t_addresses q_t_values t_rows q_t_hits t_hitCount (-1) t_mostLeft q_t_words q_t_alike q_t_words k_t_words g_t_words q_t_alike k_t_alike g_t_alike) H := hP
  have hD : va_D A (wk_62 a_t q_t_slide q_t_ghost q_t_addresses q_t_values t_rows q_t_hits t_hitCount (-1) t_mostLeft q_t_words q_t_alike q_t_words k_t_words g_t_words q_t_alike k_t_alike g_t_alike) := hD
  refine lv_aload_n hx hb dX6_pickTelling_5 rfl (lv_at hl 0 rfl) ?_
  refine lv_iconst (v := iZ (-1)) hx hb dX6_pickTelling_6 (by decide) ?_
  refine va_put (D := (dC, dI)) (ci := 6) (v := .int (iZ (-1))) (ty := tyX6 8) (C := RX6) (T := TX6) (N := 11) hx hb hts i_X6 tyX6 tyX6_ok nmX6 hown hK hP hD hS 0 rfl rfl 8 (by decide) (hts _ q_1425) (fun _ h9 => h9) rfl (tyX6_ok 8 (by decide)) rfl rfl (Nat.le_of_ble_eq_true rfl) dX6_pickTelling_7 (fun H locs hP hD hS => ?_)
  have hP : va_P (dC, dI) vwCl (wk_62 a_t q_t_slide q_t_ghost q_t_addresses q_t_values t_rows q_t_hits t_hitCount (-1) (-1) q_t_words q_t_alike q_t_words k_t_words g_t_words q_t_alike k_t_alike g_t_alike) H := hP
  have hD : va_D A (wk_62 a_t q_t_slide q_t_ghost q_t_addresses q_t_values t_rows q_t_hits t_hitCount (-1) (-1) q_t_words q_t_alike q_t_words k_t_words g_t_words q_t_alike k_t_alike g_t_alike) := hD
  refine lv_aload_n hx hb dX6_pickTelling_10 rfl (lv_at hl 0 rfl) ?_
  refine va_get (D := (dC, dI)) (ci := 6) (v := .int (iZ t_hitCount)) (C := RX6) (T := TX6) (N := 11) hx hb hts i_X6 hown hK hP 0 rfl rfl 6 (by decide) (hts _ q_1423) (fun _ h9 => h9) rfl dX6_pickTelling_11 ?_
  refine zv_if_ne (tgt := 18) hx hb dX6_pickTelling_14 (by decide) (by omega) (fun c46901 => ?_) (fun c46901 => ?_)
  · refine lv_iconst (v := iZ 0) hx hb dX6_pickTelling_18 (by decide) ?_
    refine lv_istore_n (lv' := [(2, .int (iZ 0)), (0, .ref a_t), (1, .int (iZ p1))]) hx hb dX6_pickTelling_19 rfl hl (by decide) rfl (fun ls hl => ?_)
    have lp_20 : ∀ (N20 : Nat) (H : Heap) (locs : List Loc) (ls : Array Slot) (f46908 : Int) (f46909 : Int) (i46911 : Int) (g46910 : Nat → Int), 0 ≤ f46908 + 1 → 0 ≤ f46909 + 2147483648 → 0 ≤ -f46909 + 2147483647 → 0 ≤ -i46911 + p1 → 0 ≤ -f46908 + i46911 - 1 → -i46911 + p1 ≤ (N20 : Int) → va_P (dC, dI) vwCl (wk_62 a_t q_t_slide q_t_ghost q_t_addresses q_t_values t_rows q_t_hits t_hitCount f46908 f46909 q_t_words q_t_alike q_t_words k_t_words g_t_words q_t_alike k_t_alike g46910) H → va_D A (wk_62 a_t q_t_slide q_t_ghost q_t_addresses q_t_values t_rows q_t_hits t_hitCount f46908 f46909 q_t_words q_t_alike q_t_words k_t_words g_t_words q_t_alike k_t_alike g46910) → va_S A s.heap H locs → lv_has ls 4 [(0, .ref a_t), (1, .int (iZ p1)), (2, .int (iZ i46911))] → W p l e (headSpec (Cond.code yX6_pickTelling cX6_pickTelling 4 none :: wA) ({ frames := 2, cells := 0, slots := 0, locals := 64 })).room s m [.ref a_t, .int (iZ p1)].toArray below meth c H locs 0 0 Q (F0 m 20 ls []) := by
      intro N20
      induction N20 using Nat.strongRecOn with
      | ind N20 ih_20 =>
        intro H locs ls f46908 f46909 i46911 g46910 k20_0 k20_1 k20_2 k20_3 k20_4 hm20 hP hD hS hl
        refine lv_iload_n hx hb dX6_pickTelling_20 rfl (lv_at hl 2 rfl) ?_
        refine lv_iload_n hx hb dX6_pickTelling_21 rfl (lv_at hl 1 rfl) ?_
        refine zv_icmp_ge (tgt := 63) hx hb dX6_pickTelling_22 (by decide) (by omega) (by omega) (fun c46949 => ?_) (fun c46949 => ?_)
        · subst hQ
          exact W.vret hx hb hr (fun t ht hW => ⟨⟨(), rfl, trivial, f46908, f46909, g46910, by omega, by omega, by rw [ht]; exact hP, va_K.moved hW.alike hK, hD⟩, hS.F ht⟩) hS.2.2 dX6_pickTelling_63
        · refine lv_aload_n hx hb dX6_pickTelling_25 rfl (lv_at hl 0 rfl) ?_
          refine lv_iload_n hx hb dX6_pickTelling_26 rfl (lv_at hl 2 rfl) ?_
          have hPc := hP.sub (ws' := (wk_62 a_t q_t_slide q_t_ghost q_t_addresses q_t_values t_rows q_t_hits t_hitCount f46908 f46909 q_t_words q_t_alike q_t_words k_t_words g_t_words q_t_alike k_t_alike g46910)) [0, 1, 2] rfl
          have hDc := hD.sub (ws' := (wk_62 a_t q_t_slide q_t_ghost q_t_addresses q_t_values t_rows q_t_hits t_hitCount f46908 f46909 q_t_words q_t_alike q_t_words k_t_words g_t_words q_t_alike k_t_alike g46910)) [0, 1, 2] (by decide) rfl
          have hKc := hK.sub (tys' := [(k_t_words, .int), (k_t_alike, .int)]) [0, 1] rfl
          have hFc := va_free (wc := (wk_62 a_t q_t_slide q_t_ghost q_t_addresses q_t_values t_rows q_t_hits t_hitCount f46908 f46909 q_t_words q_t_alike q_t_words k_t_words g_t_words q_t_alike k_t_alike g46910)) hD hS hA [0, 1, 2] rfl
          refine va_calli (va_runV (As := [.int (iZ i46911)]) (rest := []) ⟨hx, hb, hml, hown, hts⟩ (z_X6_mostAlike_a l dC dI a_t i46911 q_t_slide q_t_ghost q_t_addresses q_t_values t_rows q_t_hits t_hitCount f46908 f46909 q_t_words q_t_alike k_t_words g_t_words k_t_alike g46910 H.size (by omega) (by omega) (by omega) (by omega) hb_g_t_words (by omega)) (cwV 1 hts (gV q_1438 q_1439 q_1440 q_388 q_1437) rfl rfl rfl mdv_yX6_mostAlike ⟨Nat.le_of_ble_eq_true rfl, Nat.le_of_ble_eq_true rfl⟩) ⟨fun a U g mk q => by obtain ⟨q0, q1, qP, qK, qD, qN⟩ := q; exact ⟨q0, q1, qP, va_K.moved (u := U) (U := U.calling g mk a) (Vm.Alike.refl U.vm) qK, qD, nwAll_same (u := U) (U := U.calling g mk a) rfl qN⟩, va_recv hKc hPc (ci := 6) (q0 := 0) rfl rfl, fun U hU hW => ⟨rfl, by rw [hU], by rw [hU]; exact hPc, va_K.moved hW.alike hKc, hDc.weaken (fun _ _ _ _ => trivial), nwAll_warm hW hN⟩⟩ rfl rfl hl.1 rfl (lv_room (Nat.le_of_ble_eq_true rfl)) dX6_pickTelling_27 ⟨Nat.le_of_ble_eq_true rfl, Nat.le_of_ble_eq_true rfl⟩) hS (fun q _ h => hFc q h) hFc (fun r46950 z46951 t H1 locs ht hvm hw hB hz1 hk1 hS => ?_)
          obtain ⟨rfl, h46953⟩ := hw
          obtain ⟨g46952, hP1, hK1, hD1⟩ := hB
          rw [ht] at hP1
          obtain ⟨hP, hD⟩ := va_join (wr := []) (w1 := (wk_62 a_t q_t_slide q_t_ghost q_t_addresses q_t_values t_rows q_t_hits t_hitCount f46908 f46909 q_t_words q_t_alike q_t_words k_t_words g_t_words q_t_alike k_t_alike g46952)) hP hD [0, 1, 2] [] rfl rfl (by decide) (by decide) hk1 hFc hP1 hD1
          generalize H1 = H at hP hS ⊢
          have hP : va_P (dC, dI) vwCl (wk_62 a_t q_t_slide q_t_ghost q_t_addresses q_t_values t_rows q_t_hits t_hitCount f46908 f46909 q_t_words q_t_alike q_t_words k_t_words g_t_words q_t_alike k_t_alike g46952) H := hP
          have hD : va_D A (wk_62 a_t q_t_slide q_t_ghost q_t_addresses q_t_values t_rows q_t_hits t_hitCount f46908 f46909 q_t_words q_t_alike q_t_words k_t_words g_t_words q_t_alike k_t_alike g46952) := hD
          refine lv_istore_n (lv' := [(3, .int (iZ z46951)), (0, .ref a_t), (1, .int (iZ p1)), (2, .int (iZ i46911))]) hx hb dX6_pickTelling_30 rfl hl (by decide) rfl (fun ls hl => ?_)
          refine lv_aload_n hx hb dX6_pickTelling_31 rfl (lv_at hl 1 rfl) ?_
          refine va_get (D := (dC, dI)) (ci := 6) (v := .int (iZ f46908)) (C := RX6) (T := TX6) (N := 11) hx hb hts i_X6 hown hK hP 0 rfl rfl 7 (by decide) (hts _ q_1424) (fun _ h9 => h9) rfl dX6_pickTelling_32 ?_
          refine lv_iconst (v := iZ (-1)) hx hb dX6_pickTelling_35 (by decide) ?_
          refine zv_icmp_eq (tgt := 47) hx hb dX6_pickTelling_36 (by decide) (by omega) (by omega) (fun c46954 => ?_) (fun c46954 => ?_)
          · refine lv_aload_n hx hb dX6_pickTelling_47 rfl (lv_at hl 1 rfl) ?_
            refine lv_iload_n hx hb dX6_pickTelling_48 rfl (lv_at hl 3 rfl) ?_
            refine va_put (D := (dC, dI)) (ci := 6) (v := .int (iZ i46911)) (ty := tyX6 7) (C := RX6) (T := TX6) (N := 11) hx hb hts i_X6 tyX6 tyX6_ok nmX6 hown hK hP hD hS 0 rfl rfl 7 (by decide) (hts _ q_1424) (fun _ h9 => h9) rfl (tyX6_ok 7 (by decide)) rfl rfl (Nat.le_of_ble_eq_true rfl) dX6_pickTelling_49 (fun H locs hP hD hS => ?_)
            have hP : va_P (dC, dI) vwCl (wk_62 a_t q_t_slide q_t_ghost q_t_addresses q_t_values t_rows q_t_hits t_hitCount i46911 f46909 q_t_words q_t_alike q_t_words k_t_words g_t_words q_t_alike k_t_alike g46952) H := hP
            have hD : va_D A (wk_62 a_t q_t_slide q_t_ghost q_t_addresses q_t_values t_rows q_t_hits t_hitCount i46911 f46909 q_t_words q_t_alike q_t_words k_t_words g_t_words q_t_alike k_t_alike g46952) := hD
            refine lv_aload_n hx hb dX6_pickTelling_52 rfl (lv_at hl 1 rfl) ?_
            refine lv_iload_n hx hb dX6_pickTelling_53 rfl (lv_at hl 0 rfl) ?_
            refine va_put (D := (dC, dI)) (ci := 6) (v := .int (iZ z46951)) (ty := tyX6 8) (C := RX6) (T := TX6) (N := 11) hx hb hts i_X6 tyX6 tyX6_ok nmX6 hown hK hP hD hS 0 rfl rfl 8 (by decide) (hts _ q_1425) (fun _ h9 => h9) rfl (tyX6_ok 8 (by decide)) rfl rfl (Nat.le_of_ble_eq_true rfl) dX6_pickTelling_54 (fun H locs hP hD hS => ?_)
            have hP : va_P (dC, dI) vwCl (wk_62 a_t q_t_slide q_t_ghost q_t_addresses q_t_values t_rows q_t_hits t_hitCount i46911 z46951 q_t_words q_t_alike q_t_words k_t_words g_t_words q_t_alike k_t_alike g46952) H := hP
            have hD : va_D A (wk_62 a_t q_t_slide q_t_ghost q_t_addresses q_t_values t_rows q_t_hits t_hitCount i46911 z46951 q_t_words q_t_alike q_t_words k_t_words g_t_words q_t_alike k_t_alike g46952) := hD
            refine lv_iinc (v := iZ (i46911 + 1)) (lv' := [(2, .int (iZ (i46911 + 1))), (3, .int (iZ z46951)), (0, .ref a_t), (1, .int (iZ p1))]) hx hb dX6_pickTelling_57 hl (k := 3) rfl (iZ_inc (by omega)) (by decide) rfl (fun ls hl => ?_)
            refine lv_goto (tgt := 20) hx hb dX6_pickTelling_60 (by decide) ?_
            exact ih_20 (N20 - 1) (by omega) _ _ _ i46911 z46951 (i46911 + 1) g46952 (by omega) (by omega) (by omega) (by omega) (by omega) (by omega) hP hD hS (lv_sub hl [2, 3, 0] rfl)
          · refine lv_iload_n hx hb dX6_pickTelling_39 rfl (lv_at hl 0 rfl) ?_
            refine lv_aload_n hx hb dX6_pickTelling_40 rfl (lv_at hl 1 rfl) ?_
            refine va_get (D := (dC, dI)) (ci := 6) (v := .int (iZ f46909)) (C := RX6) (T := TX6) (N := 11) hx hb hts i_X6 hown hK hP 0 rfl rfl 8 (by decide) (hts _ q_1425) (fun _ h9 => h9) rfl dX6_pickTelling_41 ?_
            refine zv_icmp_ge (tgt := 57) hx hb dX6_pickTelling_44 (by decide) (by omega) (by omega) (fun c46955 => ?_) (fun c46955 => ?_)
            · refine lv_iinc (v := iZ (i46911 + 1)) (lv' := [(2, .int (iZ (i46911 + 1))), (3, .int (iZ z46951)), (0, .ref a_t), (1, .int (iZ p1))]) hx hb dX6_pickTelling_57 hl (k := 3) rfl (iZ_inc (by omega)) (by decide) rfl (fun ls hl => ?_)
              refine lv_goto (tgt := 20) hx hb dX6_pickTelling_60 (by decide) ?_
              exact ih_20 (N20 - 1) (by omega) _ _ _ f46908 f46909 (i46911 + 1) g46952 (by omega) (by omega) (by omega) (by omega) (by omega) (by omega) hP hD hS (lv_sub hl [2, 3, 0] rfl)
            · refine lv_aload_n hx hb dX6_pickTelling_47 rfl (lv_at hl 1 rfl) ?_
              refine lv_iload_n hx hb dX6_pickTelling_48 rfl (lv_at hl 3 rfl) ?_
              refine va_put (D := (dC, dI)) (ci := 6) (v := .int (iZ i46911)) (ty := tyX6 7) (C := RX6) (T := TX6) (N := 11) hx hb hts i_X6 tyX6 tyX6_ok nmX6 hown hK hP hD hS 0 rfl rfl 7 (by decide) (hts _ q_1424) (fun _ h9 => h9) rfl (tyX6_ok 7 (by decide)) rfl rfl (Nat.le_of_ble_eq_true rfl) dX6_pickTelling_49 (fun H locs hP hD hS => ?_)
              have hP : va_P (dC, dI) vwCl (wk_62 a_t q_t_slide q_t_ghost q_t_addresses q_t_values t_rows q_t_hits t_hitCount i46911 f46909 q_t_words q_t_alike q_t_words k_t_words g_t_words q_t_alike k_t_alike g46952) H := hP
              have hD : va_D A (wk_62 a_t q_t_slide q_t_ghost q_t_addresses q_t_values t_rows q_t_hits t_hitCount i46911 f46909 q_t_words q_t_alike q_t_words k_t_words g_t_words q_t_alike k_t_alike g46952) := hD
              refine lv_aload_n hx hb dX6_pickTelling_52 rfl (lv_at hl 1 rfl) ?_
              refine lv_iload_n hx hb dX6_pickTelling_53 rfl (lv_at hl 0 rfl) ?_
              refine va_put (D := (dC, dI)) (ci := 6) (v := .int (iZ z46951)) (ty := tyX6 8) (C := RX6) (T := TX6) (N := 11) hx hb hts i_X6 tyX6 tyX6_ok nmX6 hown hK hP hD hS 0 rfl rfl 8 (by decide) (hts _ q_1425) (fun _ h9 => h9) rfl (tyX6_ok 8 (by decide)) rfl rfl (Nat.le_of_ble_eq_true rfl) dX6_pickTelling_54 (fun H locs hP hD hS => ?_)
              have hP : va_P (dC, dI) vwCl (wk_62 a_t q_t_slide q_t_ghost q_t_addresses q_t_values t_rows q_t_hits t_hitCount i46911 z46951 q_t_words q_t_alike q_t_words k_t_words g_t_words q_t_alike k_t_alike g46952) H := hP
              have hD : va_D A (wk_62 a_t q_t_slide q_t_ghost q_t_addresses q_t_values t_rows q_t_hits t_hitCount i46911 z46951 q_t_words q_t_alike q_t_words k_t_words g_t_words q_t_alike k_t_alike g46952) := hD
              refine lv_iinc (v := iZ (i46911 + 1)) (lv' := [(2, .int (iZ (i46911 + 1))), (3, .int (iZ z46951)), (0, .ref a_t), (1, .int (iZ p1))]) hx hb dX6_pickTelling_57 hl (k := 3) rfl (iZ_inc (by omega)) (by decide) rfl (fun ls hl => ?_)
              refine lv_goto (tgt := 20) hx hb dX6_pickTelling_60 (by decide) ?_
              exact ih_20 (N20 - 1) (by omega) _ _ _ i46911 z46951 (i46911 + 1) g46952 (by omega) (by omega) (by omega) (by omega) (by omega) (by omega) hP hD hS (lv_sub hl [2, 3, 0] rfl)
    exact lp_20 ((p1 : Int)).toNat _ _ _ (-1) (-1) 0 g_t_alike (by omega) (by omega) (by omega) (by omega) (by omega) (by omega) hP hD hS (lv_sub hl [1, 2, 0] rfl)
  · subst hQ
    exact W.vret hx hb hr (fun t ht hW => ⟨⟨(), rfl, trivial, (-1), (-1), g_t_alike, by omega, by omega, by rw [ht]; exact hP, va_K.moved hW.alike hK, hD⟩, hS.F ht⟩) hS.2.2 dX6_pickTelling_17
