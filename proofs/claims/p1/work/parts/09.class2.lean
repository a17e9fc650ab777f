set_option maxHeartbeats 4000000 in
set_option maxRecDepth 100000 in
theorem mX11_has (l : Launch) (dC : Nat → ClassId) (dI : Nat → Nat → Nat) (r : Nat → Nat) (k : Nat → ClassId) (p1 : Int32) (sz : Nat) : Met l yX11_has (Cond.code yX11_has cX11_has 2 (some .int) :: wA) ({ frames := 1, cells := 0, slots := 0, locals := 23 }) (va_Pc [.ref (r 0), .int p1] (fun U => U.heap.size = sz ∧ va_P (dC, dI) vwCl (wd_495 r k) U.heap ∧ va_K (dC, dI) vwCl [((k 0), .int), ((k 1), .int), ((k 2), .int)] U ∧ va_D (fun _ => True) (wd_495 r k))) (va_Qi (fun (r : Int32) (_ : Unit) => r = sp_10 p1) (fun _ t => True) (va_A (wd_495 r k) sz)) 0 0 (va_A (wd_495 r k) sz) := by
  refine Met.ofW (cc := cX11_has) (maxL := 2) (ret := (some .int)) (by decide) rfl ?_
  intro p e s m args below meth c s₁ B hml hv
  obtain ⟨rfl, hsz, hP, hK, hD0⟩ := hv
  have hx := B.exec
  have hb := B.bytes
  have hr := B.returns
  have hts : ∀ w ∈ wA, w.before [.ref (r 0), .int p1].toArray s = true := fun w h => atoms_spec (ws := Cond.code yX11_has cX11_has 2 (some .int) :: wA) B.pre w (List.mem_cons_of_mem _ h)
  have hown : s.vm.findClass RX11 = some m.cls := findClass_of_methodNamed B.named
  have hlocks := B.notSynchronized
  subst hsz
  have hD := hD0.self (sz := s.heap.size)
  generalize hAe : va_A (wd_495 r k) s.heap.size = A at hD ⊢
  have hA : ∀ q : Nat, s.heap.size ≤ q → A q := fun q h => by rw [← hAe]; exact Or.inr h
  have hS : va_S A s.heap s.heap [] := va_S.rf
  have hl := lv_entry ([.ref (r 0), .int p1]) (n := 2) (Nat.le_of_ble_eq_true rfl)
  rw [lg_entry_eq]
  generalize (lg_sl ([.ref (r 0), .int p1]) ++ List.replicate (2 - (lg_sl ([.ref (r 0), .int p1])).length) Slot.unset).toArray = ls at hl ⊢
  have hl : lv_has ls 2 [(0, .ref (r 0)), (1, .int p1)] := hl
  rcases sw_10 p1 with rfl | rfl | rfl | rfl | rfl | rfl | rfl | rfl | rfl | rfl | ho
  · refine lv_iload_n hx hb dX11_has_0 rfl (lv_at hl 1 rfl) ?_
    refine lv_tableIn (off := 55) (tgt := 56) hx hb dX11_has_1 (by decide) (by decide) rfl (by decide) ?_
    refine lv_aload_n hx hb dX11_has_56 rfl (lv_at hl 0 rfl) ?_
    refine va_get (D := (dC, dI)) (ci := 11) (v := .ref (r 4)) (C := RX11) (T := TX11) (N := 20) hx hb hts i_X11 hown hK hP 0 rfl rfl 3 (by decide) (hts _ q_128) (fun _ h9 => h9) rfl dX11_has_57 ?_
    refine va_get (D := (dC, dI)) (ci := 8) (v := .int 0) (C := RX8) (T := TX8) (N := 14) hx hb hts i_X8 hown hK hP 4 rfl rfl 0 (by decide) (hts _ q_293) (fun _ h9 => h9) rfl dX11_has_60 ?_
    refine W.widen (k := 0) (n := 0) (Nat.le_of_ble_eq_true rfl) (Nat.le_of_ble_eq_true rfl) ?_
    exact W.iret (v := 0) hx hb hr (fun t ht hW => ⟨⟨0, (), rfl, by decide, trivial⟩, hS.F ht⟩) hS.2.2 dX11_has_63
  · refine lv_iload_n hx hb dX11_has_0 rfl (lv_at hl 1 rfl) ?_
    refine lv_tableIn (off := 63) (tgt := 64) hx hb dX11_has_1 (by decide) (by decide) rfl (by decide) ?_
    refine lv_aload_n hx hb dX11_has_64 rfl (lv_at hl 0 rfl) ?_
    refine va_get (D := (dC, dI)) (ci := 11) (v := .ref (r 4)) (C := RX11) (T := TX11) (N := 20) hx hb hts i_X11 hown hK hP 0 rfl rfl 3 (by decide) (hts _ q_128) (fun _ h9 => h9) rfl dX11_has_65 ?_
    refine va_get (D := (dC, dI)) (ci := 8) (v := .int 0) (C := RX8) (T := TX8) (N := 14) hx hb hts i_X8 hown hK hP 4 rfl rfl 1 (by decide) (hts _ q_294) (fun _ h9 => h9) rfl dX11_has_68 ?_
    refine W.widen (k := 0) (n := 0) (Nat.le_of_ble_eq_true rfl) (Nat.le_of_ble_eq_true rfl) ?_
    exact W.iret (v := 0) hx hb hr (fun t ht hW => ⟨⟨0, (), rfl, by decide, trivial⟩, hS.F ht⟩) hS.2.2 dX11_has_71
  · refine lv_iload_n hx hb dX11_has_0 rfl (lv_at hl 1 rfl) ?_
    refine lv_tableIn (off := 71) (tgt := 72) hx hb dX11_has_1 (by decide) (by decide) rfl (by decide) ?_
    refine lv_aload_n hx hb dX11_has_72 rfl (lv_at hl 0 rfl) ?_
    refine va_get (D := (dC, dI)) (ci := 11) (v := .ref (r 4)) (C := RX11) (T := TX11) (N := 20) hx hb hts i_X11 hown hK hP 0 rfl rfl 3 (by decide) (hts _ q_128) (fun _ h9 => h9) rfl dX11_has_73 ?_
    refine va_get (D := (dC, dI)) (ci := 8) (v := .int 0) (C := RX8) (T := TX8) (N := 14) hx hb hts i_X8 hown hK hP 4 rfl rfl 4 (by decide) (hts _ q_295) (fun _ h9 => h9) rfl dX11_has_76 ?_
    refine lv_if_eq (tgt := 92) hx hb dX11_has_79 (by decide) (fun c_0 => ?_) (fun c_0 => absurd c_0 (by decide))
    refine lv_aload_n hx hb dX11_has_92 rfl (lv_at hl 0 rfl) ?_
    refine va_get (D := (dC, dI)) (ci := 11) (v := .ref (r 2)) (C := RX11) (T := TX11) (N := 20) hx hb hts i_X11 hown hK hP 0 rfl rfl 1 (by decide) (hts _ q_125) (fun _ h9 => h9) rfl dX11_has_93 ?_
    refine lv_aload_n hx hb dX11_has_96 rfl (lv_at hl 0 rfl) ?_
    refine va_get (D := (dC, dI)) (ci := 11) (v := .ref (r 4)) (C := RX11) (T := TX11) (N := 20) hx hb hts i_X11 hown hK hP 0 rfl rfl 3 (by decide) (hts _ q_128) (fun _ h9 => h9) rfl dX11_has_97 ?_
    have hPc := hP.sub (ws' := (wd_495 r k)) [0, 1, 2, 3, 4, 5, 6, 7, 8, 9, 10, 11, 12, 13] rfl
    have hDc := hD.sub (ws' := (wd_495 r k)) [0, 1, 2, 3, 4, 5, 6, 7, 8, 9, 10, 11, 12, 13] (by decide) rfl
    have hKc := hK.sub (tys' := [((k 0), .int), ((k 1), .int), ((k 2), .int)]) [0, 1, 2] rfl
    have hFc := va_free (wc := (wd_495 r k)) hD hS hA [0, 1, 2, 3, 4, 5, 6, 7, 8, 9, 10, 11, 12, 13] rfl
    refine va_calli (va_runV (As := [.ref (r 4)]) (rest := []) ⟨hx, hb, hml, hown, hts⟩ (c20_X2_countCells l dC dI r k s.heap.size) (cwV 1 hts (gV q_299 q_300 q_301 q_123 q_296) rfl rfl rfl mdv_yX2_countCells ⟨Nat.le_of_ble_eq_true rfl, Nat.le_of_ble_eq_true rfl⟩) ⟨fun a U g mk q => by obtain ⟨q0, q1, qP, qK, qD⟩ := q; exact ⟨q0, q1, qP, va_K.moved (u := U) (U := U.calling g mk a) (Vm.Alike.refl U.vm) qK, qD⟩, va_recv hKc hPc (ci := 2) (q0 := 5) rfl rfl, fun U hU hW => ⟨rfl, by rw [hU], by rw [hU]; exact hPc, va_K.moved hW.alike hKc, hDc.weaken (fun _ _ _ _ => trivial)⟩⟩ rfl rfl hl.1 rfl (lv_room (Nat.le_of_ble_eq_true rfl)) dX11_has_100 ⟨Nat.le_of_ble_eq_true rfl, Nat.le_of_ble_eq_true rfl⟩) hS (fun q _ h => hFc q h) hFc (fun r_668 u t H1 locs ht hvm hw hB hz1 hk1 hS => ?_)
    obtain ⟨hP1, hK1, hD1⟩ := hB
    rw [ht] at hP1
    have hK1 := va_K.moved hvm.symm hK1
    obtain ⟨hP, hD⟩ := va_join (wr := []) (w1 := (wd_495 r k)) hP hD [0, 1, 2, 3, 4, 5, 6, 7, 8, 9, 10, 11, 12, 13] [] rfl rfl (by decide) (by decide) hk1 hFc hP1 hD1
    generalize H1 = H at hP hS ⊢
    have hP : va_P (dC, dI) vwCl (wd_495 r k) H := hP
    have hD : va_D A (wd_495 r k) := hD
    obtain rfl : r_668 = 0 := hw
    refine W.widen (k := 0) (n := 0) (Nat.le_of_ble_eq_true rfl) (Nat.le_of_ble_eq_true rfl) ?_
    exact W.iret (v := 0) hx hb hr (fun t ht hW => ⟨⟨0, (), rfl, by decide, trivial⟩, hS.F ht⟩) hS.2.2 dX11_has_103
  · refine lv_iload_n hx hb dX11_has_0 rfl (lv_at hl 1 rfl) ?_
    refine lv_tableIn (off := 103) (tgt := 104) hx hb dX11_has_1 (by decide) (by decide) rfl (by decide) ?_
    refine lv_aload_n hx hb dX11_has_104 rfl (lv_at hl 0 rfl) ?_
    refine va_get (D := (dC, dI)) (ci := 11) (v := .ref (r 2)) (C := RX11) (T := TX11) (N := 20) hx hb hts i_X11 hown hK hP 0 rfl rfl 1 (by decide) (hts _ q_125) (fun _ h9 => h9) rfl dX11_has_105 ?_
    refine va_get (D := (dC, dI)) (ci := 2) (v := .int 0) (C := RX2) (T := TX2) (N := 4) hx hb hts i_X2 hown hK hP 5 rfl rfl 0 (by decide) (hts _ q_302) (fun _ h9 => h9) rfl dX11_has_108 ?_
    refine W.widen (k := 0) (n := 0) (Nat.le_of_ble_eq_true rfl) (Nat.le_of_ble_eq_true rfl) ?_
    exact W.iret (v := 0) hx hb hr (fun t ht hW => ⟨⟨0, (), rfl, by decide, trivial⟩, hS.F ht⟩) hS.2.2 dX11_has_111
  · refine lv_iload_n hx hb dX11_has_0 rfl (lv_at hl 1 rfl) ?_
    refine lv_tableIn (off := 111) (tgt := 112) hx hb dX11_has_1 (by decide) (by decide) rfl (by decide) ?_
    refine lv_aload_n hx hb dX11_has_112 rfl (lv_at hl 0 rfl) ?_
    refine va_get (D := (dC, dI)) (ci := 11) (v := .ref (r 4)) (C := RX11) (T := TX11) (N := 20) hx hb hts i_X11 hown hK hP 0 rfl rfl 3 (by decide) (hts _ q_128) (fun _ h9 => h9) rfl dX11_has_113 ?_
    refine va_get (D := (dC, dI)) (ci := 8) (v := .int 0) (C := RX8) (T := TX8) (N := 14) hx hb hts i_X8 hown hK hP 4 rfl rfl 2 (by decide) (hts _ q_303) (fun _ h9 => h9) rfl dX11_has_116 ?_
    refine W.widen (k := 0) (n := 0) (Nat.le_of_ble_eq_true rfl) (Nat.le_of_ble_eq_true rfl) ?_
    exact W.iret (v := 0) hx hb hr (fun t ht hW => ⟨⟨0, (), rfl, by decide, trivial⟩, hS.F ht⟩) hS.2.2 dX11_has_119
  · refine lv_iload_n hx hb dX11_has_0 rfl (lv_at hl 1 rfl) ?_
    refine lv_tableIn (off := 119) (tgt := 120) hx hb dX11_has_1 (by decide) (by decide) rfl (by decide) ?_
    refine lv_aload_n hx hb dX11_has_120 rfl (lv_at hl 0 rfl) ?_
    refine va_get (D := (dC, dI)) (ci := 11) (v := .ref (r 4)) (C := RX11) (T := TX11) (N := 20) hx hb hts i_X11 hown hK hP 0 rfl rfl 3 (by decide) (hts _ q_128) (fun _ h9 => h9) rfl dX11_has_121 ?_
    refine va_get (D := (dC, dI)) (ci := 8) (v := .int 0) (C := RX8) (T := TX8) (N := 14) hx hb hts i_X8 hown hK hP 4 rfl rfl 11 (by decide) (hts _ q_304) (fun _ h9 => h9) rfl dX11_has_124 ?_
    refine W.widen (k := 0) (n := 0) (Nat.le_of_ble_eq_true rfl) (Nat.le_of_ble_eq_true rfl) ?_
    exact W.iret (v := 0) hx hb hr (fun t ht hW => ⟨⟨0, (), rfl, by decide, trivial⟩, hS.F ht⟩) hS.2.2 dX11_has_127
  · refine lv_iload_n hx hb dX11_has_0 rfl (lv_at hl 1 rfl) ?_
    refine lv_tableIn (off := 127) (tgt := 128) hx hb dX11_has_1 (by decide) (by decide) rfl (by decide) ?_
    refine lv_aload_n hx hb dX11_has_128 rfl (lv_at hl 0 rfl) ?_
    refine va_get (D := (dC, dI)) (ci := 11) (v := .ref (r 4)) (C := RX11) (T := TX11) (N := 20) hx hb hts i_X11 hown hK hP 0 rfl rfl 3 (by decide) (hts _ q_128) (fun _ h9 => h9) rfl dX11_has_129 ?_
    refine va_get (D := (dC, dI)) (ci := 8) (v := .int 0) (C := RX8) (T := TX8) (N := 14) hx hb hts i_X8 hown hK hP 4 rfl rfl 12 (by decide) (hts _ q_305) (fun _ h9 => h9) rfl dX11_has_132 ?_
    refine W.widen (k := 0) (n := 0) (Nat.le_of_ble_eq_true rfl) (Nat.le_of_ble_eq_true rfl) ?_
    exact W.iret (v := 0) hx hb hr (fun t ht hW => ⟨⟨0, (), rfl, by decide, trivial⟩, hS.F ht⟩) hS.2.2 dX11_has_135
  · refine lv_iload_n hx hb dX11_has_0 rfl (lv_at hl 1 rfl) ?_
    refine lv_tableIn (off := 135) (tgt := 136) hx hb dX11_has_1 (by decide) (by decide) rfl (by decide) ?_
    refine lv_aload_n hx hb dX11_has_136 rfl (lv_at hl 0 rfl) ?_
    refine va_get (D := (dC, dI)) (ci := 11) (v := .ref (r 12)) (C := RX11) (T := TX11) (N := 20) hx hb hts i_X11 hown hK hP 0 rfl rfl 11 (by decide) (hts _ q_171) (fun _ h9 => h9) rfl dX11_has_137 ?_
    refine va_get (D := (dC, dI)) (ci := 6) (v := .int 0) (C := RX6) (T := TX6) (N := 11) hx hb hts i_X6 hown hK hP 12 rfl rfl 4 (by decide) (hts _ q_306) (fun _ h9 => h9) rfl dX11_has_140 ?_
    refine W.widen (k := 0) (n := 0) (Nat.le_of_ble_eq_true rfl) (Nat.le_of_ble_eq_true rfl) ?_
    exact W.iret (v := 0) hx hb hr (fun t ht hW => ⟨⟨0, (), rfl, by decide, trivial⟩, hS.F ht⟩) hS.2.2 dX11_has_143
  · refine lv_iload_n hx hb dX11_has_0 rfl (lv_at hl 1 rfl) ?_
    refine lv_tableIn (off := 143) (tgt := 144) hx hb dX11_has_1 (by decide) (by decide) rfl (by decide) ?_
    refine lv_aload_n hx hb dX11_has_144 rfl (lv_at hl 0 rfl) ?_
    refine va_get (D := (dC, dI)) (ci := 11) (v := .int 0) (C := RX11) (T := TX11) (N := 20) hx hb hts i_X11 hown hK hP 0 rfl rfl 15 (by decide) (hts _ q_180) (fun _ h9 => h9) rfl dX11_has_145 ?_
    refine W.widen (k := 0) (n := 0) (Nat.le_of_ble_eq_true rfl) (Nat.le_of_ble_eq_true rfl) ?_
    exact W.iret (v := 0) hx hb hr (fun t ht hW => ⟨⟨0, (), rfl, by decide, trivial⟩, hS.F ht⟩) hS.2.2 dX11_has_148
  · refine lv_iload_n hx hb dX11_has_0 rfl (lv_at hl 1 rfl) ?_
    refine lv_tableIn (off := 148) (tgt := 149) hx hb dX11_has_1 (by decide) (by decide) rfl (by decide) ?_
    refine lv_aload_n hx hb dX11_has_149 rfl (lv_at hl 0 rfl) ?_
    refine va_get (D := (dC, dI)) (ci := 11) (v := .int (-1)) (C := RX11) (T := TX11) (N := 20) hx hb hts i_X11 hown hK hP 0 rfl rfl 18 (by decide) (hts _ q_183) (fun _ h9 => h9) rfl dX11_has_150 ?_
    refine lv_iconst (v := (-1)) hx hb dX11_has_153 (by decide) ?_
    refine lv_icmp_ne (tgt := 161) hx hb dX11_has_154 (by decide) (fun c_0 => absurd c_0 (by decide)) (fun c_0 => ?_)
    refine lv_iconst (v := 0) hx hb dX11_has_157 (by decide) ?_
    refine lv_goto (tgt := 162) hx hb dX11_has_158 (by decide) ?_
    refine W.widen (k := 0) (n := 0) (Nat.le_of_ble_eq_true rfl) (Nat.le_of_ble_eq_true rfl) ?_
    exact W.iret (v := 0) hx hb hr (fun t ht hW => ⟨⟨0, (), rfl, by decide, trivial⟩, hS.F ht⟩) hS.2.2 dX11_has_162
  · refine lv_iload_n hx hb dX11_has_0 rfl (lv_at hl 1 rfl) ?_
    refine lv_tableOut (tgt := 163) hx hb dX11_has_1 ho (by decide) ?_
    refine lv_iconst (v := (-1)) hx hb dX11_has_163 (by decide) ?_
    refine W.widen (k := 0) (n := 0) (Nat.le_of_ble_eq_true rfl) (Nat.le_of_ble_eq_true rfl) ?_
    exact W.iret (v := (-1)) hx hb hr (fun t ht hW => ⟨⟨(-1), (), rfl, (if_pos ho).symm, trivial⟩, hS.F ht⟩) hS.2.2 dX11_has_164
set_option maxHeartbeats 4000000 in
set_option maxRecDepth 100000 in
theorem mX11_word (l : Launch) (dC : Nat → ClassId) (dI : Nat → Nat → Nat) (r : Nat → Nat) (k : Nat → ClassId) (p1 : Int32) (p2 : Int32) (sz : Nat) : Met l yX11_word (Cond.code yX11_word cX11_word 4 (some .int) :: wA) ({ frames := 0, cells := 0, slots := 0, locals := 0 }) (va_Pc [.ref (r 0), .int p1, .int p2] (fun U => U.heap.size = sz ∧ va_P (dC, dI) vwCl (wd_495 r k) U.heap ∧ va_K (dC, dI) vwCl [((k 0), .int), ((k 1), .int), ((k 2), .int)] U ∧ va_D (fun _ => True) (wd_495 r k))) (va_Qi (fun (r : Int32) (_ : Unit) => r = (-1000000)) (fun _ t => True) (va_A (wd_495 r k) sz)) 0 0 (va_A (wd_495 r k) sz) := by
  refine Met.ofW (cc := cX11_word) (maxL := 4) (ret := (some .int)) (by decide) rfl ?_
  intro p e s m args below meth c s₁ B hml hv
  obtain ⟨rfl, hsz, hP, hK, hD0⟩ := hv
  have hx := B.exec
  have hb := B.bytes
  have hr := B.returns
  have hts : ∀ w ∈ wA, w.before [.ref (r 0), .int p1, .int p2].toArray s = true := fun w h => atoms_spec (ws := Cond.code yX11_word cX11_word 4 (some .int) :: wA) B.pre w (List.mem_cons_of_mem _ h)
  have hown : s.vm.findClass RX11 = some m.cls := findClass_of_methodNamed B.named
  have hlocks := B.notSynchronized
  subst hsz
  have hD := hD0.self (sz := s.heap.size)
  generalize hAe : va_A (wd_495 r k) s.heap.size = A at hD ⊢
  have hA : ∀ q : Nat, s.heap.size ≤ q → A q := fun q h => by rw [← hAe]; exact Or.inr h
  have hS : va_S A s.heap s.heap [] := va_S.rf
  have hl := lv_entry ([.ref (r 0), .int p1, .int p2]) (n := 4) (Nat.le_of_ble_eq_true rfl)
  rw [lg_entry_eq]
  generalize (lg_sl ([.ref (r 0), .int p1, .int p2]) ++ List.replicate (4 - (lg_sl ([.ref (r 0), .int p1, .int p2])).length) Slot.unset).toArray = ls at hl ⊢
  have hl : lv_has ls 4 [(0, .ref (r 0)), (1, .int p1), (2, .int p2)] := hl
  refine lv_iload_n hx hb dX11_word_0 rfl (lv_at hl 1 rfl) ?_
  refine lv_bipush (v := (-8)) hx hb dX11_word_1 (by decide) ?_
  refine lv_icmp_lt (tgt := 27) hx hb dX11_word_3 (by decide) (fun c_671 => ?_) (fun c_671 => ?_)
  · refine lv_ldc (v := (-1000000)) hx hb hown (hts _ q_308) dX11_word_27 ?_
    refine W.widen (k := 0) (n := 0) (Nat.le_of_ble_eq_true rfl) (Nat.le_of_ble_eq_true rfl) ?_
    exact W.iret (v := (-1000000)) hx hb hr (fun t ht hW => ⟨⟨(-1000000), (), rfl, rfl, trivial⟩, hS.F ht⟩) hS.2.2 dX11_word_29
  · refine lv_iload_n hx hb dX11_word_6 rfl (lv_at hl 1 rfl) ?_
    refine lv_aload_n hx hb dX11_word_7 rfl (lv_at hl 0 rfl) ?_
    refine va_get (D := (dC, dI)) (ci := 11) (v := .ref (r 4)) (C := RX11) (T := TX11) (N := 20) hx hb hts i_X11 hown hK hP 0 rfl rfl 3 (by decide) (hts _ q_128) (fun _ h9 => h9) rfl dX11_word_8 ?_
    refine va_get (D := (dC, dI)) (ci := 8) (v := .int 0) (C := RX8) (T := TX8) (N := 14) hx hb hts i_X8 hown hK hP 4 rfl rfl 0 (by decide) (hts _ q_293) (fun _ h9 => h9) rfl dX11_word_11 ?_
    refine lv_icmp_ge (tgt := 27) hx hb dX11_word_14 (by decide) (fun c_672 => ?_) (fun c_672 => ?_)
    · refine lv_ldc (v := (-1000000)) hx hb hown (hts _ q_308) dX11_word_27 ?_
      refine W.widen (k := 0) (n := 0) (Nat.le_of_ble_eq_true rfl) (Nat.le_of_ble_eq_true rfl) ?_
      exact W.iret (v := (-1000000)) hx hb hr (fun t ht hW => ⟨⟨(-1000000), (), rfl, rfl, trivial⟩, hS.F ht⟩) hS.2.2 dX11_word_29
    · refine lv_aload_n hx hb dX11_word_17 rfl (lv_at hl 0 rfl) ?_
      refine va_get (D := (dC, dI)) (ci := 11) (v := .ref (r 4)) (C := RX11) (T := TX11) (N := 20) hx hb hts i_X11 hown hK hP 0 rfl rfl 3 (by decide) (hts _ q_128) (fun _ h9 => h9) rfl dX11_word_18 ?_
      refine va_get (D := (dC, dI)) (ci := 8) (v := .int 0) (C := RX8) (T := TX8) (N := 14) hx hb hts i_X8 hown hK hP 4 rfl rfl 0 (by decide) (hts _ q_293) (fun _ h9 => h9) rfl dX11_word_21 ?_
      refine lv_if_ne (tgt := 30) hx hb dX11_word_24 (by decide) (fun c_0 => absurd c_0 (by decide)) (fun c_0 => ?_)
      refine lv_ldc (v := (-1000000)) hx hb hown (hts _ q_308) dX11_word_27 ?_
      refine W.widen (k := 0) (n := 0) (Nat.le_of_ble_eq_true rfl) (Nat.le_of_ble_eq_true rfl) ?_
      exact W.iret (v := (-1000000)) hx hb hr (fun t ht hW => ⟨⟨(-1000000), (), rfl, rfl, trivial⟩, hS.F ht⟩) hS.2.2 dX11_word_29
set_option maxHeartbeats 4000000 in
set_option maxRecDepth 100000 in
theorem mX11_stage (l : Launch) (dC : Nat → ClassId) (dI : Nat → Nat → Nat) (r : Nat → Nat) (k : Nat → ClassId) (p1 : Int32) (sz : Nat) : Met l yX11_stage (Cond.code yX11_stage cX11_stage 2 (some .int) :: wA) ({ frames := 0, cells := 0, slots := 0, locals := 0 }) (va_Pc [.ref (r 0), .int p1] (fun U => U.heap.size = sz ∧ va_P (dC, dI) vwCl (wd_495 r k) U.heap ∧ va_K (dC, dI) vwCl [((k 0), .int), ((k 1), .int), ((k 2), .int)] U ∧ va_D (fun _ => True) (wd_495 r k))) (va_Qi (fun (r : Int32) (_ : Unit) => r = (-1000000)) (fun _ t => True) (va_A (wd_495 r k) sz)) 0 0 (va_A (wd_495 r k) sz) := by
  refine Met.ofW (cc := cX11_stage) (maxL := 2) (ret := (some .int)) (by decide) rfl ?_
  intro p e s m args below meth c s₁ B hml hv
  obtain ⟨rfl, hsz, hP, hK, hD0⟩ := hv
  have hx := B.exec
  have hb := B.bytes
  have hr := B.returns
  have hts : ∀ w ∈ wA, w.before [.ref (r 0), .int p1].toArray s = true := fun w h => atoms_spec (ws := Cond.code yX11_stage cX11_stage 2 (some .int) :: wA) B.pre w (List.mem_cons_of_mem _ h)
  have hown : s.vm.findClass RX11 = some m.cls := findClass_of_methodNamed B.named
  have hlocks := B.notSynchronized
  subst hsz
  have hD := hD0.self (sz := s.heap.size)
  generalize hAe : va_A (wd_495 r k) s.heap.size = A at hD ⊢
  have hA : ∀ q : Nat, s.heap.size ≤ q → A q := fun q h => by rw [← hAe]; exact Or.inr h
  have hS : va_S A s.heap s.heap [] := va_S.rf
  have hl := lv_entry ([.ref (r 0), .int p1]) (n := 2) (Nat.le_of_ble_eq_true rfl)
  rw [lg_entry_eq]
  generalize (lg_sl ([.ref (r 0), .int p1]) ++ List.replicate (2 - (lg_sl ([.ref (r 0), .int p1])).length) Slot.unset).toArray = ls at hl ⊢
  have hl : lv_has ls 2 [(0, .ref (r 0)), (1, .int p1)] := hl
  refine lv_aload_n hx hb dX11_stage_0 rfl (lv_at hl 0 rfl) ?_
  refine va_get (D := (dC, dI)) (ci := 11) (v := .ref (r 4)) (C := RX11) (T := TX11) (N := 20) hx hb hts i_X11 hown hK hP 0 rfl rfl 3 (by decide) (hts _ q_128) (fun _ h9 => h9) rfl dX11_stage_1 ?_
  refine va_get (D := (dC, dI)) (ci := 8) (v := .int 0) (C := RX8) (T := TX8) (N := 14) hx hb hts i_X8 hown hK hP 4 rfl rfl 4 (by decide) (hts _ q_295) (fun _ h9 => h9) rfl dX11_stage_4 ?_
  refine lv_if_ne (tgt := 13) hx hb dX11_stage_7 (by decide) (fun c_0 => absurd c_0 (by decide)) (fun c_0 => ?_)
  refine lv_ldc (v := (-1000000)) hx hb hown (hts _ q_308) dX11_stage_10 ?_
  refine W.widen (k := 0) (n := 0) (Nat.le_of_ble_eq_true rfl) (Nat.le_of_ble_eq_true rfl) ?_
  exact W.iret (v := (-1000000)) hx hb hr (fun t ht hW => ⟨⟨(-1000000), (), rfl, rfl, trivial⟩, hS.F ht⟩) hS.2.2 dX11_stage_12
set_option maxHeartbeats 4000000 in
set_option maxRecDepth 100000 in
theorem mX11_kept (l : Launch) (dC : Nat → ClassId) (dI : Nat → Nat → Nat) (r : Nat → Nat) (k : Nat → ClassId) (p1 : Int32) (p2 : Int32) (sz : Nat) : Met l yX11_kept (Cond.code yX11_kept cX11_kept 3 (some .int) :: wA) ({ frames := 0, cells := 0, slots := 0, locals := 0 }) (va_Pc [.ref (r 0), .int p1, .int p2] (fun U => U.heap.size = sz ∧ va_P (dC, dI) vwCl (wd_495 r k) U.heap ∧ va_K (dC, dI) vwCl [((k 0), .int), ((k 1), .int), ((k 2), .int)] U ∧ va_D (fun _ => True) (wd_495 r k))) (va_Qi (fun (r : Int32) (_ : Unit) => r = (-1)) (fun _ t => True) (va_A (wd_495 r k) sz)) 0 0 (va_A (wd_495 r k) sz) := by
  refine Met.ofW (cc := cX11_kept) (maxL := 3) (ret := (some .int)) (by decide) rfl ?_
  intro p e s m args below meth c s₁ B hml hv
  obtain ⟨rfl, hsz, hP, hK, hD0⟩ := hv
  have hx := B.exec
  have hb := B.bytes
  have hr := B.returns
  have hts : ∀ w ∈ wA, w.before [.ref (r 0), .int p1, .int p2].toArray s = true := fun w h => atoms_spec (ws := Cond.code yX11_kept cX11_kept 3 (some .int) :: wA) B.pre w (List.mem_cons_of_mem _ h)
  have hown : s.vm.findClass RX11 = some m.cls := findClass_of_methodNamed B.named
  have hlocks := B.notSynchronized
  subst hsz
  have hD := hD0.self (sz := s.heap.size)
  generalize hAe : va_A (wd_495 r k) s.heap.size = A at hD ⊢
  have hA : ∀ q : Nat, s.heap.size ≤ q → A q := fun q h => by rw [← hAe]; exact Or.inr h
  have hS : va_S A s.heap s.heap [] := va_S.rf
  have hl := lv_entry ([.ref (r 0), .int p1, .int p2]) (n := 3) (Nat.le_of_ble_eq_true rfl)
  rw [lg_entry_eq]
  generalize (lg_sl ([.ref (r 0), .int p1, .int p2]) ++ List.replicate (3 - (lg_sl ([.ref (r 0), .int p1, .int p2])).length) Slot.unset).toArray = ls at hl ⊢
  have hl : lv_has ls 3 [(0, .ref (r 0)), (1, .int p1), (2, .int p2)] := hl
  refine lv_iload_n hx hb dX11_kept_0 rfl (lv_at hl 1 rfl) ?_
  refine lv_if_lt (tgt := 24) hx hb dX11_kept_1 (by decide) (fun c_675 => ?_) (fun c_675 => ?_)
  · refine lv_iconst (v := (-1)) hx hb dX11_kept_24 (by decide) ?_
    refine W.widen (k := 0) (n := 0) (Nat.le_of_ble_eq_true rfl) (Nat.le_of_ble_eq_true rfl) ?_
    exact W.iret (v := (-1)) hx hb hr (fun t ht hW => ⟨⟨(-1), (), rfl, rfl, trivial⟩, hS.F ht⟩) hS.2.2 dX11_kept_25
  · refine lv_iload_n hx hb dX11_kept_4 rfl (lv_at hl 1 rfl) ?_
    refine lv_aload_n hx hb dX11_kept_5 rfl (lv_at hl 0 rfl) ?_
    refine va_get (D := (dC, dI)) (ci := 11) (v := .ref (r 4)) (C := RX11) (T := TX11) (N := 20) hx hb hts i_X11 hown hK hP 0 rfl rfl 3 (by decide) (hts _ q_128) (fun _ h9 => h9) rfl dX11_kept_6 ?_
    refine va_get (D := (dC, dI)) (ci := 8) (v := .int 0) (C := RX8) (T := TX8) (N := 14) hx hb hts i_X8 hown hK hP 4 rfl rfl 12 (by decide) (hts _ q_305) (fun _ h9 => h9) rfl dX11_kept_9 ?_
    refine lv_icmp_ge (tgt := 24) hx hb dX11_kept_12 (by decide) (fun c_676 => ?_) (fun c_676 => ((by have k_c_675 : ¬ p1.toInt < (0 : Int) := fun h => c_675 (Int32.lt_iff_toInt_lt.mpr h); have k_c_676 : ¬ (0 : Int) ≤ p1.toInt := fun h => c_676 (Int32.le_iff_toInt_le.mpr h); omega : False).elim))
    refine lv_iconst (v := (-1)) hx hb dX11_kept_24 (by decide) ?_
    refine W.widen (k := 0) (n := 0) (Nat.le_of_ble_eq_true rfl) (Nat.le_of_ble_eq_true rfl) ?_
    exact W.iret (v := (-1)) hx hb hr (fun t ht hW => ⟨⟨(-1), (), rfl, rfl, trivial⟩, hS.F ht⟩) hS.2.2 dX11_kept_25
set_option maxHeartbeats 4000000 in
set_option maxRecDepth 100000 in
theorem c25_X11_ready (l : Launch) (dC : Nat → ClassId) (dI : Nat → Nat → Nat) (r : Nat → Nat) (k : Nat → ClassId) (sz : Nat) : Met l yX11_ready (Cond.code yX11_ready cX11_ready 1 (some .boolean) :: wA) ({ frames := 0, cells := 0, slots := 0, locals := 0 }) (va_Pc [.ref (r 0)] (fun U => U.heap.size = sz ∧ va_P (dC, dI) vwCl (wd_495 r k) U.heap ∧ va_K (dC, dI) vwCl [((k 0), .int), ((k 1), .int), ((k 2), .int)] U ∧ va_D (fun _ => True) (wd_495 r k))) (va_Qi (fun (r : Int32) (_ : Unit) => r = 0) (fun _ t => va_P (dC, dI) vwCl (wd_495 r k) t.heap ∧ va_K (dC, dI) vwCl [((k 0), .int), ((k 1), .int), ((k 2), .int)] t ∧ va_D (va_A (wd_495 r k) sz) (wd_495 r k)) (va_A (wd_495 r k) sz)) 0 0 (va_A (wd_495 r k) sz) := by
  refine Met.ofW (cc := cX11_ready) (maxL := 1) (ret := (some .boolean)) (by decide) rfl ?_
  intro p e s m args below meth c s₁ B hml hv
  obtain ⟨rfl, hsz, hP, hK, hD0⟩ := hv
  have hx := B.exec
  have hb := B.bytes
  have hr := B.returns
  have hts : ∀ w ∈ wA, w.before [.ref (r 0)].toArray s = true := fun w h => atoms_spec (ws := Cond.code yX11_ready cX11_ready 1 (some .boolean) :: wA) B.pre w (List.mem_cons_of_mem _ h)
  have hown : s.vm.findClass RX11 = some m.cls := findClass_of_methodNamed B.named
  have hlocks := B.notSynchronized
  subst hsz
  have hD := hD0.self (sz := s.heap.size)
  generalize hAe : va_A (wd_495 r k) s.heap.size = A at hD ⊢
  have hA : ∀ q : Nat, s.heap.size ≤ q → A q := fun q h => by rw [← hAe]; exact Or.inr h
  have hS : va_S A s.heap s.heap [] := va_S.rf
  have hl := lv_entry ([.ref (r 0)]) (n := 1) (Nat.le_of_ble_eq_true rfl)
  rw [lg_entry_eq]
  generalize (lg_sl ([.ref (r 0)]) ++ List.replicate (1 - (lg_sl ([.ref (r 0)])).length) Slot.unset).toArray = ls at hl ⊢
  have hl : lv_has ls 1 [(0, .ref (r 0))] := hl
  refine lv_aload_n hx hb dX11_ready_0 rfl (lv_at hl 0 rfl) ?_
  refine va_get (D := (dC, dI)) (ci := 11) (v := .ref (r 4)) (C := RX11) (T := TX11) (N := 20) hx hb hts i_X11 hown hK hP 0 rfl rfl 3 (by decide) (hts _ q_128) (fun _ h9 => h9) rfl dX11_ready_1 ?_
  refine va_get (D := (dC, dI)) (ci := 8) (v := .int 0) (C := RX8) (T := TX8) (N := 14) hx hb hts i_X8 hown hK hP 4 rfl rfl 0 (by decide) (hts _ q_293) (fun _ h9 => h9) rfl dX11_ready_4 ?_
  refine lv_if_le (tgt := 24) hx hb dX11_ready_7 (by decide) (fun c_0 => ?_) (fun c_0 => absurd c_0 (by decide))
  refine lv_iconst (v := 0) hx hb dX11_ready_24 (by decide) ?_
  refine W.widen (k := 0) (n := 0) (Nat.le_of_ble_eq_true rfl) (Nat.le_of_ble_eq_true rfl) ?_
  have hP9 := hP.sub (ws' := (wd_495 r k)) [0, 1, 2, 3, 4, 5, 6, 7, 8, 9, 10, 11, 12, 13] rfl
  have hD9 := hD.sub (ws' := (wd_495 r k)) [0, 1, 2, 3, 4, 5, 6, 7, 8, 9, 10, 11, 12, 13] (by decide) rfl
  have hK9 := hK.sub (tys' := [((k 0), .int), ((k 1), .int), ((k 2), .int)]) [0, 1, 2] rfl
  exact W.zret (v := 0) hx hb hr rfl (fun t ht hW => ⟨⟨0, (), rfl, rfl, by rw [ht]; exact hP9, va_K.moved hW.alike hK9, hD9⟩, hS.F ht⟩) hS.2.2 dX11_ready_25
set_option maxHeartbeats 4000000 in
set_option maxRecDepth 100000 in
theorem mX11_cell (l : Launch) (dC : Nat → ClassId) (dI : Nat → Nat → Nat) (r : Nat → Nat) (k : Nat → ClassId) (p1 : Int32) (p2 : Int32) (sz : Nat) : Met l yX11_cell (Cond.code yX11_cell cX11_cell 5 (some .int) :: wA) ({ frames := 1, cells := 0, slots := 0, locals := 20 }) (va_Pc [.ref (r 0), .int p1, .int p2] (fun U => U.heap.size = sz ∧ va_P (dC, dI) vwCl (wd_495 r k) U.heap ∧ va_K (dC, dI) vwCl [((k 0), .int), ((k 1), .int), ((k 2), .int)] U ∧ va_D (fun _ => True) (wd_495 r k))) (va_Qi (fun (r : Int32) (_ : Unit) => r = (-1)) (fun _ t => True) (va_A (wd_495 r k) sz)) 0 0 (va_A (wd_495 r k) sz) := by
  refine Met.ofW (cc := cX11_cell) (maxL := 5) (ret := (some .int)) (by decide) rfl ?_
  intro p e s m args below meth c s₁ B hml hv
  obtain ⟨rfl, hsz, hP, hK, hD0⟩ := hv
  have hx := B.exec
  have hb := B.bytes
  have hr := B.returns
  have hts : ∀ w ∈ wA, w.before [.ref (r 0), .int p1, .int p2].toArray s = true := fun w h => atoms_spec (ws := Cond.code yX11_cell cX11_cell 5 (some .int) :: wA) B.pre w (List.mem_cons_of_mem _ h)
  have hown : s.vm.findClass RX11 = some m.cls := findClass_of_methodNamed B.named
  have hlocks := B.notSynchronized
  subst hsz
  have hD := hD0.self (sz := s.heap.size)
  generalize hAe : va_A (wd_495 r k) s.heap.size = A at hD ⊢
  have hA : ∀ q : Nat, s.heap.size ≤ q → A q := fun q h => by rw [← hAe]; exact Or.inr h
  have hS : va_S A s.heap s.heap [] := va_S.rf
  have hl := lv_entry ([.ref (r 0), .int p1, .int p2]) (n := 5) (Nat.le_of_ble_eq_true rfl)
  rw [lg_entry_eq]
  generalize (lg_sl ([.ref (r 0), .int p1, .int p2]) ++ List.replicate (5 - (lg_sl ([.ref (r 0), .int p1, .int p2])).length) Slot.unset).toArray = ls at hl ⊢
  have hl : lv_has ls 5 [(0, .ref (r 0)), (1, .int p1), (2, .int p2)] := hl
  refine lv_aload_n hx hb dX11_cell_0 rfl (lv_at hl 0 rfl) ?_
  have hPc := hP.sub (ws' := (wd_495 r k)) [0, 1, 2, 3, 4, 5, 6, 7, 8, 9, 10, 11, 12, 13] rfl
  have hDc := hD.sub (ws' := (wd_495 r k)) [0, 1, 2, 3, 4, 5, 6, 7, 8, 9, 10, 11, 12, 13] (by decide) rfl
  have hKc := hK.sub (tys' := [((k 0), .int), ((k 1), .int), ((k 2), .int)]) [0, 1, 2] rfl
  have hFc := va_free (wc := (wd_495 r k)) hD hS hA [0, 1, 2, 3, 4, 5, 6, 7, 8, 9, 10, 11, 12, 13] rfl
  refine va_calli (va_runV (As := []) (rest := []) ⟨hx, hb, hml, hown, hts⟩ (c25_X11_ready l dC dI r k s.heap.size) (cwV 0 hts (gV q_313 q_314 q_315 q_257 q_312) rfl rfl rfl mdv_yX11_ready ⟨Nat.le_of_ble_eq_true rfl, Nat.le_of_ble_eq_true rfl⟩) ⟨fun a U g mk q => by obtain ⟨q0, q1, qP, qK, qD⟩ := q; exact ⟨q0, q1, qP, va_K.moved (u := U) (U := U.calling g mk a) (Vm.Alike.refl U.vm) qK, qD⟩, va_recv hKc hPc (ci := 11) (q0 := 0) rfl rfl, fun U hU hW => ⟨rfl, by rw [hU], by rw [hU]; exact hPc, va_K.moved hW.alike hKc, hDc.weaken (fun _ _ _ _ => trivial)⟩⟩ rfl rfl hl.1 rfl (lv_room (Nat.le_of_ble_eq_true rfl)) dX11_cell_1 ⟨Nat.le_of_ble_eq_true rfl, Nat.le_of_ble_eq_true rfl⟩) hS (fun q _ h => hFc q h) hFc (fun r_678 u t H1 locs ht hvm hw hB hz1 hk1 hS => ?_)
  obtain ⟨hP1, hK1, hD1⟩ := hB
  rw [ht] at hP1
  have hK1 := va_K.moved hvm.symm hK1
  obtain ⟨hP, hD⟩ := va_join (wr := []) (w1 := (wd_495 r k)) hP hD [0, 1, 2, 3, 4, 5, 6, 7, 8, 9, 10, 11, 12, 13] [] rfl rfl (by decide) (by decide) hk1 hFc hP1 hD1
  generalize H1 = H at hP hS ⊢
  have hP : va_P (dC, dI) vwCl (wd_495 r k) H := hP
  have hD : va_D A (wd_495 r k) := hD
  obtain rfl : r_678 = 0 := hw
  refine lv_if_eq (tgt := 22) hx hb dX11_cell_4 (by decide) (fun c_0 => ?_) (fun c_0 => absurd c_0 (by decide))
  refine lv_iconst (v := (-1)) hx hb dX11_cell_22 (by decide) ?_
  refine lv_istore_n (lv' := [(3, .int (-1)), (0, .ref (r 0)), (1, .int p1), (2, .int p2)]) hx hb dX11_cell_23 rfl hl (by decide) rfl (fun ls hl => ?_)
  refine lv_iload_n hx hb dX11_cell_24 rfl (lv_at hl 0 rfl) ?_
  refine lv_iconst (v := (-1)) hx hb dX11_cell_25 (by decide) ?_
  refine lv_icmp_ne (tgt := 31) hx hb dX11_cell_26 (by decide) (fun c_0 => absurd c_0 (by decide)) (fun c_0 => ?_)
  refine lv_iconst (v := (-1)) hx hb dX11_cell_29 (by decide) ?_
  refine W.widen (k := 0) (n := 0) (Nat.le_of_ble_eq_true rfl) (Nat.le_of_ble_eq_true rfl) ?_
  exact W.iret (v := (-1)) hx hb hr (fun t ht hW => ⟨⟨(-1), (), rfl, rfl, trivial⟩, hS.F ht⟩) hS.2.2 dX11_cell_30
set_option maxHeartbeats 4000000 in
set_option maxRecDepth 100000 in
theorem c27_X11_inHeap (l : Launch) (dC : Nat → ClassId) (dI : Nat → Nat → Nat) (r : Nat → Nat) (k : Nat → ClassId) (p0 : Int32) (sz : Nat) : Met l yX11_inHeap (Cond.code yX11_inHeap cX11_inHeap 2 (some .boolean) :: wA) ({ frames := 1, cells := 0, slots := 0, locals := 20 }) (va_Pc [.ref (r 0), .int p0] (fun U => U.heap.size = sz ∧ va_P (dC, dI) vwCl (wd_495 r k) U.heap ∧ va_K (dC, dI) vwCl [((k 0), .int), ((k 1), .int), ((k 2), .int)] U ∧ va_D (fun _ => True) (wd_495 r k))) (va_Qi (fun (r : Int32) (_ : Unit) => r = 0) (fun _ t => va_P (dC, dI) vwCl (wd_495 r k) t.heap ∧ va_K (dC, dI) vwCl [((k 0), .int), ((k 1), .int), ((k 2), .int)] t ∧ va_D (va_A (wd_495 r k) sz) (wd_495 r k)) (va_A (wd_495 r k) sz)) 0 0 (va_A (wd_495 r k) sz) := by
  refine Met.ofW (cc := cX11_inHeap) (maxL := 2) (ret := (some .boolean)) (by decide) rfl ?_
  intro p e s m args below meth c s₁ B hml hv
  obtain ⟨rfl, hsz, hP, hK, hD0⟩ := hv
  have hx := B.exec
  have hb := B.bytes
  have hr := B.returns
  have hts : ∀ w ∈ wA, w.before [.ref (r 0), .int p0].toArray s = true := fun w h => atoms_spec (ws := Cond.code yX11_inHeap cX11_inHeap 2 (some .boolean) :: wA) B.pre w (List.mem_cons_of_mem _ h)
  have hown : s.vm.findClass RX11 = some m.cls := findClass_of_methodNamed B.named
  have hlocks := B.notSynchronized
  subst hsz
  have hD := hD0.self (sz := s.heap.size)
  generalize hAe : va_A (wd_495 r k) s.heap.size = A at hD ⊢
  have hA : ∀ q : Nat, s.heap.size ≤ q → A q := fun q h => by rw [← hAe]; exact Or.inr h
  have hS : va_S A s.heap s.heap [] := va_S.rf
  have hl := lv_entry ([.ref (r 0), .int p0]) (n := 2) (Nat.le_of_ble_eq_true rfl)
  rw [lg_entry_eq]
  generalize (lg_sl ([.ref (r 0), .int p0]) ++ List.replicate (2 - (lg_sl ([.ref (r 0), .int p0])).length) Slot.unset).toArray = ls at hl ⊢
  have hl : lv_has ls 2 [(0, .ref (r 0)), (1, .int p0)] := hl
  refine lv_aload_n hx hb dX11_inHeap_0 rfl (lv_at hl 0 rfl) ?_
  have hPc := hP.sub (ws' := (wd_495 r k)) [0, 1, 2, 3, 4, 5, 6, 7, 8, 9, 10, 11, 12, 13] rfl
  have hDc := hD.sub (ws' := (wd_495 r k)) [0, 1, 2, 3, 4, 5, 6, 7, 8, 9, 10, 11, 12, 13] (by decide) rfl
  have hKc := hK.sub (tys' := [((k 0), .int), ((k 1), .int), ((k 2), .int)]) [0, 1, 2] rfl
  have hFc := va_free (wc := (wd_495 r k)) hD hS hA [0, 1, 2, 3, 4, 5, 6, 7, 8, 9, 10, 11, 12, 13] rfl
  refine va_calli (va_runV (As := []) (rest := []) ⟨hx, hb, hml, hown, hts⟩ (c25_X11_ready l dC dI r k s.heap.size) (cwV 0 hts (gV q_313 q_314 q_315 q_257 q_312) rfl rfl rfl mdv_yX11_ready ⟨Nat.le_of_ble_eq_true rfl, Nat.le_of_ble_eq_true rfl⟩) ⟨fun a U g mk q => by obtain ⟨q0, q1, qP, qK, qD⟩ := q; exact ⟨q0, q1, qP, va_K.moved (u := U) (U := U.calling g mk a) (Vm.Alike.refl U.vm) qK, qD⟩, va_recv hKc hPc (ci := 11) (q0 := 0) rfl rfl, fun U hU hW => ⟨rfl, by rw [hU], by rw [hU]; exact hPc, va_K.moved hW.alike hKc, hDc.weaken (fun _ _ _ _ => trivial)⟩⟩ rfl rfl hl.1 rfl (lv_room (Nat.le_of_ble_eq_true rfl)) dX11_inHeap_1 ⟨Nat.le_of_ble_eq_true rfl, Nat.le_of_ble_eq_true rfl⟩) hS (fun q _ h => hFc q h) hFc (fun r_680 u t H1 locs ht hvm hw hB hz1 hk1 hS => ?_)
  obtain ⟨hP1, hK1, hD1⟩ := hB
  rw [ht] at hP1
  have hK1 := va_K.moved hvm.symm hK1
  obtain ⟨hP, hD⟩ := va_join (wr := []) (w1 := (wd_495 r k)) hP hD [0, 1, 2, 3, 4, 5, 6, 7, 8, 9, 10, 11, 12, 13] [] rfl rfl (by decide) (by decide) hk1 hFc hP1 hD1
  generalize H1 = H at hP hS ⊢
  have hP : va_P (dC, dI) vwCl (wd_495 r k) H := hP
  have hD : va_D A (wd_495 r k) := hD
  obtain rfl : r_680 = 0 := hw
  refine lv_if_eq (tgt := 26) hx hb dX11_inHeap_4 (by decide) (fun c_0 => ?_) (fun c_0 => absurd c_0 (by decide))
  refine lv_iconst (v := 0) hx hb dX11_inHeap_26 (by decide) ?_
  refine W.widen (k := 0) (n := 0) (Nat.le_of_ble_eq_true rfl) (Nat.le_of_ble_eq_true rfl) ?_
  have hP9 := hP.sub (ws' := (wd_495 r k)) [0, 1, 2, 3, 4, 5, 6, 7, 8, 9, 10, 11, 12, 13] rfl
  have hD9 := hD.sub (ws' := (wd_495 r k)) [0, 1, 2, 3, 4, 5, 6, 7, 8, 9, 10, 11, 12, 13] (by decide) rfl
  have hK9 := hK.sub (tys' := [((k 0), .int), ((k 1), .int), ((k 2), .int)]) [0, 1, 2] rfl
  exact W.zret (v := 0) hx hb hr rfl (fun t ht hW => ⟨⟨0, (), rfl, rfl, by rw [ht]; exact hP9, va_K.moved hW.alike hK9, hD9⟩, hS.F ht⟩) hS.2.2 dX11_inHeap_27
set_option maxHeartbeats 4000000 in
set_option maxRecDepth 100000 in
theorem c28_X11_inCell (l : Launch) (dC : Nat → ClassId) (dI : Nat → Nat → Nat) (r : Nat → Nat) (k : Nat → ClassId) (p0 : Int32) (sz : Nat) : Met l yX11_inCell (Cond.code yX11_inCell cX11_inCell 2 (some .boolean) :: wA) ({ frames := 2, cells := 0, slots := 0, locals := 41 }) (va_Pc [.ref (r 0), .int p0] (fun U => U.heap.size = sz ∧ va_P (dC, dI) vwCl (wd_495 r k) U.heap ∧ va_K (dC, dI) vwCl [((k 0), .int), ((k 1), .int), ((k 2), .int)] U ∧ va_D (fun _ => True) (wd_495 r k))) (va_Qi (fun (r : Int32) (_ : Unit) => r = 0) (fun _ t => va_P (dC, dI) vwCl (wd_495 r k) t.heap ∧ va_K (dC, dI) vwCl [((k 0), .int), ((k 1), .int), ((k 2), .int)] t ∧ va_D (va_A (wd_495 r k) sz) (wd_495 r k)) (va_A (wd_495 r k) sz)) 0 0 (va_A (wd_495 r k) sz) := by
  refine Met.ofW (cc := cX11_inCell) (maxL := 2) (ret := (some .boolean)) (by decide) rfl ?_
  intro p e s m args below meth c s₁ B hml hv
  obtain ⟨rfl, hsz, hP, hK, hD0⟩ := hv
  have hx := B.exec
  have hb := B.bytes
  have hr := B.returns
  have hts : ∀ w ∈ wA, w.before [.ref (r 0), .int p0].toArray s = true := fun w h => atoms_spec (ws := Cond.code yX11_inCell cX11_inCell 2 (some .boolean) :: wA) B.pre w (List.mem_cons_of_mem _ h)
  have hown : s.vm.findClass RX11 = some m.cls := findClass_of_methodNamed B.named
  have hlocks := B.notSynchronized
  subst hsz
  have hD := hD0.self (sz := s.heap.size)
  generalize hAe : va_A (wd_495 r k) s.heap.size = A at hD ⊢
  have hA : ∀ q : Nat, s.heap.size ≤ q → A q := fun q h => by rw [← hAe]; exact Or.inr h
  have hS : va_S A s.heap s.heap [] := va_S.rf
  have hl := lv_entry ([.ref (r 0), .int p0]) (n := 2) (Nat.le_of_ble_eq_true rfl)
  rw [lg_entry_eq]
  generalize (lg_sl ([.ref (r 0), .int p0]) ++ List.replicate (2 - (lg_sl ([.ref (r 0), .int p0])).length) Slot.unset).toArray = ls at hl ⊢
  have hl : lv_has ls 2 [(0, .ref (r 0)), (1, .int p0)] := hl
  refine lv_aload_n hx hb dX11_inCell_0 rfl (lv_at hl 0 rfl) ?_
  refine lv_iload_n hx hb dX11_inCell_1 rfl (lv_at hl 1 rfl) ?_
  have hPc := hP.sub (ws' := (wd_495 r k)) [0, 1, 2, 3, 4, 5, 6, 7, 8, 9, 10, 11, 12, 13] rfl
  have hDc := hD.sub (ws' := (wd_495 r k)) [0, 1, 2, 3, 4, 5, 6, 7, 8, 9, 10, 11, 12, 13] (by decide) rfl
  have hKc := hK.sub (tys' := [((k 0), .int), ((k 1), .int), ((k 2), .int)]) [0, 1, 2] rfl
  have hFc := va_free (wc := (wd_495 r k)) hD hS hA [0, 1, 2, 3, 4, 5, 6, 7, 8, 9, 10, 11, 12, 13] rfl
  refine va_calli (va_runV (As := [.int p0]) (rest := []) ⟨hx, hb, hml, hown, hts⟩ (c27_X11_inHeap l dC dI r k p0 s.heap.size) (cwV 1 hts (gV q_319 q_320 q_321 q_257 q_318) rfl rfl rfl mdv_yX11_inHeap ⟨Nat.le_of_ble_eq_true rfl, Nat.le_of_ble_eq_true rfl⟩) ⟨fun a U g mk q => by obtain ⟨q0, q1, qP, qK, qD⟩ := q; exact ⟨q0, q1, qP, va_K.moved (u := U) (U := U.calling g mk a) (Vm.Alike.refl U.vm) qK, qD⟩, va_recv hKc hPc (ci := 11) (q0 := 0) rfl rfl, fun U hU hW => ⟨rfl, by rw [hU], by rw [hU]; exact hPc, va_K.moved hW.alike hKc, hDc.weaken (fun _ _ _ _ => trivial)⟩⟩ rfl rfl hl.1 rfl (lv_room (Nat.le_of_ble_eq_true rfl)) dX11_inCell_2 ⟨Nat.le_of_ble_eq_true rfl, Nat.le_of_ble_eq_true rfl⟩) hS (fun q _ h => hFc q h) hFc (fun r_682 u t H1 locs ht hvm hw hB hz1 hk1 hS => ?_)
  obtain ⟨hP1, hK1, hD1⟩ := hB
  rw [ht] at hP1
  have hK1 := va_K.moved hvm.symm hK1
  obtain ⟨hP, hD⟩ := va_join (wr := []) (w1 := (wd_495 r k)) hP hD [0, 1, 2, 3, 4, 5, 6, 7, 8, 9, 10, 11, 12, 13] [] rfl rfl (by decide) (by decide) hk1 hFc hP1 hD1
  generalize H1 = H at hP hS ⊢
  have hP : va_P (dC, dI) vwCl (wd_495 r k) H := hP
  have hD : va_D A (wd_495 r k) := hD
  obtain rfl : r_682 = 0 := hw
  refine lv_if_eq (tgt := 23) hx hb dX11_inCell_5 (by decide) (fun c_0 => ?_) (fun c_0 => absurd c_0 (by decide))
  refine lv_iconst (v := 0) hx hb dX11_inCell_23 (by decide) ?_
  refine W.widen (k := 0) (n := 0) (Nat.le_of_ble_eq_true rfl) (Nat.le_of_ble_eq_true rfl) ?_
  have hP9 := hP.sub (ws' := (wd_495 r k)) [0, 1, 2, 3, 4, 5, 6, 7, 8, 9, 10, 11, 12, 13] rfl
  have hD9 := hD.sub (ws' := (wd_495 r k)) [0, 1, 2, 3, 4, 5, 6, 7, 8, 9, 10, 11, 12, 13] (by decide) rfl
  have hK9 := hK.sub (tys' := [((k 0), .int), ((k 1), .int), ((k 2), .int)]) [0, 1, 2] rfl
  exact W.zret (v := 0) hx hb hr rfl (fun t ht hW => ⟨⟨0, (), rfl, rfl, by rw [ht]; exact hP9, va_K.moved hW.alike hK9, hD9⟩, hS.F ht⟩) hS.2.2 dX11_inCell_24
set_option maxHeartbeats 4000000 in
set_option maxRecDepth 100000 in
theorem mX11_cellOf (l : Launch) (dC : Nat → ClassId) (dI : Nat → Nat → Nat) (r : Nat → Nat) (k : Nat → ClassId) (p1 : Int32) (sz : Nat) : Met l yX11_cellOf (Cond.code yX11_cellOf cX11_cellOf 2 (some .int) :: wA) ({ frames := 3, cells := 0, slots := 0, locals := 62 }) (va_Pc [.ref (r 0), .int p1] (fun U => U.heap.size = sz ∧ va_P (dC, dI) vwCl (wd_495 r k) U.heap ∧ va_K (dC, dI) vwCl [((k 0), .int), ((k 1), .int), ((k 2), .int)] U ∧ va_D (fun _ => True) (wd_495 r k))) (va_Qi (fun (r : Int32) (_ : Unit) => r = (-1)) (fun _ t => True) (va_A (wd_495 r k) sz)) 0 0 (va_A (wd_495 r k) sz) := by
  refine Met.ofW (cc := cX11_cellOf) (maxL := 2) (ret := (some .int)) (by decide) rfl ?_
  intro p e s m args below meth c s₁ B hml hv
  obtain ⟨rfl, hsz, hP, hK, hD0⟩ := hv
  have hx := B.exec
  have hb := B.bytes
  have hr := B.returns
  have hts : ∀ w ∈ wA, w.before [.ref (r 0), .int p1].toArray s = true := fun w h => atoms_spec (ws := Cond.code yX11_cellOf cX11_cellOf 2 (some .int) :: wA) B.pre w (List.mem_cons_of_mem _ h)
  have hown : s.vm.findClass RX11 = some m.cls := findClass_of_methodNamed B.named
  have hlocks := B.notSynchronized
  subst hsz
  have hD := hD0.self (sz := s.heap.size)
  generalize hAe : va_A (wd_495 r k) s.heap.size = A at hD ⊢
  have hA : ∀ q : Nat, s.heap.size ≤ q → A q := fun q h => by rw [← hAe]; exact Or.inr h
  have hS : va_S A s.heap s.heap [] := va_S.rf
  have hl := lv_entry ([.ref (r 0), .int p1]) (n := 2) (Nat.le_of_ble_eq_true rfl)
  rw [lg_entry_eq]
  generalize (lg_sl ([.ref (r 0), .int p1]) ++ List.replicate (2 - (lg_sl ([.ref (r 0), .int p1])).length) Slot.unset).toArray = ls at hl ⊢
  have hl : lv_has ls 2 [(0, .ref (r 0)), (1, .int p1)] := hl
  refine lv_aload_n hx hb dX11_cellOf_0 rfl (lv_at hl 0 rfl) ?_
  refine lv_iload_n hx hb dX11_cellOf_1 rfl (lv_at hl 1 rfl) ?_
  have hPc := hP.sub (ws' := (wd_495 r k)) [0, 1, 2, 3, 4, 5, 6, 7, 8, 9, 10, 11, 12, 13] rfl
  have hDc := hD.sub (ws' := (wd_495 r k)) [0, 1, 2, 3, 4, 5, 6, 7, 8, 9, 10, 11, 12, 13] (by decide) rfl
  have hKc := hK.sub (tys' := [((k 0), .int), ((k 1), .int), ((k 2), .int)]) [0, 1, 2] rfl
  have hFc := va_free (wc := (wd_495 r k)) hD hS hA [0, 1, 2, 3, 4, 5, 6, 7, 8, 9, 10, 11, 12, 13] rfl
  refine va_calli (va_runV (As := [.int p1]) (rest := []) ⟨hx, hb, hml, hown, hts⟩ (c28_X11_inCell l dC dI r k p1 s.heap.size) (cwV 1 hts (gV q_322 q_323 q_324 q_257 q_317) rfl rfl rfl mdv_yX11_inCell ⟨Nat.le_of_ble_eq_true rfl, Nat.le_of_ble_eq_true rfl⟩) ⟨fun a U g mk q => by obtain ⟨q0, q1, qP, qK, qD⟩ := q; exact ⟨q0, q1, qP, va_K.moved (u := U) (U := U.calling g mk a) (Vm.Alike.refl U.vm) qK, qD⟩, va_recv hKc hPc (ci := 11) (q0 := 0) rfl rfl, fun U hU hW => ⟨rfl, by rw [hU], by rw [hU]; exact hPc, va_K.moved hW.alike hKc, hDc.weaken (fun _ _ _ _ => trivial)⟩⟩ rfl rfl hl.1 rfl (lv_room (Nat.le_of_ble_eq_true rfl)) dX11_cellOf_2 ⟨Nat.le_of_ble_eq_true rfl, Nat.le_of_ble_eq_true rfl⟩) hS (fun q _ h => hFc q h) hFc (fun r_684 u t H1 locs ht hvm hw hB hz1 hk1 hS => ?_)
  obtain ⟨hP1, hK1, hD1⟩ := hB
  rw [ht] at hP1
  have hK1 := va_K.moved hvm.symm hK1
  obtain ⟨hP, hD⟩ := va_join (wr := []) (w1 := (wd_495 r k)) hP hD [0, 1, 2, 3, 4, 5, 6, 7, 8, 9, 10, 11, 12, 13] [] rfl rfl (by decide) (by decide) hk1 hFc hP1 hD1
  generalize H1 = H at hP hS ⊢
  have hP : va_P (dC, dI) vwCl (wd_495 r k) H := hP
  have hD : va_D A (wd_495 r k) := hD
  obtain rfl : r_684 = 0 := hw
  refine lv_if_eq (tgt := 19) hx hb dX11_cellOf_5 (by decide) (fun c_0 => ?_) (fun c_0 => absurd c_0 (by decide))
  refine lv_iconst (v := (-1)) hx hb dX11_cellOf_19 (by decide) ?_
  refine W.widen (k := 0) (n := 0) (Nat.le_of_ble_eq_true rfl) (Nat.le_of_ble_eq_true rfl) ?_
  exact W.iret (v := (-1)) hx hb hr (fun t ht hW => ⟨⟨(-1), (), rfl, rfl, trivial⟩, hS.F ht⟩) hS.2.2 dX11_cellOf_20
set_option maxHeartbeats 4000000 in
set_option maxRecDepth 100000 in
theorem mX11_goes (l : Launch) (dC : Nat → ClassId) (dI : Nat → Nat → Nat) (r : Nat → Nat) (k : Nat → ClassId) (p1 : Int32) (sz : Nat) : Met l yX11_goes (Cond.code yX11_goes cX11_goes 2 (some .int) :: wA) ({ frames := 3, cells := 0, slots := 0, locals := 62 }) (va_Pc [.ref (r 0), .int p1] (fun U => U.heap.size = sz ∧ va_P (dC, dI) vwCl (wd_495 r k) U.heap ∧ va_K (dC, dI) vwCl [((k 0), .int), ((k 1), .int), ((k 2), .int)] U ∧ va_D (fun _ => True) (wd_495 r k))) (va_Qi (fun (r : Int32) (_ : Unit) => r = (-1)) (fun _ t => True) (va_A (wd_495 r k) sz)) 0 0 (va_A (wd_495 r k) sz) := by
  refine Met.ofW (cc := cX11_goes) (maxL := 2) (ret := (some .int)) (by decide) rfl ?_
  intro p e s m args below meth c s₁ B hml hv
  obtain ⟨rfl, hsz, hP, hK, hD0⟩ := hv
  have hx := B.exec
  have hb := B.bytes
  have hr := B.returns
  have hts : ∀ w ∈ wA, w.before [.ref (r 0), .int p1].toArray s = true := fun w h => atoms_spec (ws := Cond.code yX11_goes cX11_goes 2 (some .int) :: wA) B.pre w (List.mem_cons_of_mem _ h)
  have hown : s.vm.findClass RX11 = some m.cls := findClass_of_methodNamed B.named
  have hlocks := B.notSynchronized
  subst hsz
  have hD := hD0.self (sz := s.heap.size)
  generalize hAe : va_A (wd_495 r k) s.heap.size = A at hD ⊢
  have hA : ∀ q : Nat, s.heap.size ≤ q → A q := fun q h => by rw [← hAe]; exact Or.inr h
  have hS : va_S A s.heap s.heap [] := va_S.rf
  have hl := lv_entry ([.ref (r 0), .int p1]) (n := 2) (Nat.le_of_ble_eq_true rfl)
  rw [lg_entry_eq]
  generalize (lg_sl ([.ref (r 0), .int p1]) ++ List.replicate (2 - (lg_sl ([.ref (r 0), .int p1])).length) Slot.unset).toArray = ls at hl ⊢
  have hl : lv_has ls 2 [(0, .ref (r 0)), (1, .int p1)] := hl
  refine lv_aload_n hx hb dX11_goes_0 rfl (lv_at hl 0 rfl) ?_
  refine lv_iload_n hx hb dX11_goes_1 rfl (lv_at hl 1 rfl) ?_
  have hPc := hP.sub (ws' := (wd_495 r k)) [0, 1, 2, 3, 4, 5, 6, 7, 8, 9, 10, 11, 12, 13] rfl
  have hDc := hD.sub (ws' := (wd_495 r k)) [0, 1, 2, 3, 4, 5, 6, 7, 8, 9, 10, 11, 12, 13] (by decide) rfl
  have hKc := hK.sub (tys' := [((k 0), .int), ((k 1), .int), ((k 2), .int)]) [0, 1, 2] rfl
  have hFc := va_free (wc := (wd_495 r k)) hD hS hA [0, 1, 2, 3, 4, 5, 6, 7, 8, 9, 10, 11, 12, 13] rfl
  refine va_calli (va_runV (As := [.int p1]) (rest := []) ⟨hx, hb, hml, hown, hts⟩ (c28_X11_inCell l dC dI r k p1 s.heap.size) (cwV 1 hts (gV q_322 q_323 q_324 q_257 q_317) rfl rfl rfl mdv_yX11_inCell ⟨Nat.le_of_ble_eq_true rfl, Nat.le_of_ble_eq_true rfl⟩) ⟨fun a U g mk q => by obtain ⟨q0, q1, qP, qK, qD⟩ := q; exact ⟨q0, q1, qP, va_K.moved (u := U) (U := U.calling g mk a) (Vm.Alike.refl U.vm) qK, qD⟩, va_recv hKc hPc (ci := 11) (q0 := 0) rfl rfl, fun U hU hW => ⟨rfl, by rw [hU], by rw [hU]; exact hPc, va_K.moved hW.alike hKc, hDc.weaken (fun _ _ _ _ => trivial)⟩⟩ rfl rfl hl.1 rfl (lv_room (Nat.le_of_ble_eq_true rfl)) dX11_goes_2 ⟨Nat.le_of_ble_eq_true rfl, Nat.le_of_ble_eq_true rfl⟩) hS (fun q _ h => hFc q h) hFc (fun r_686 u t H1 locs ht hvm hw hB hz1 hk1 hS => ?_)
  obtain ⟨hP1, hK1, hD1⟩ := hB
  rw [ht] at hP1
  have hK1 := va_K.moved hvm.symm hK1
  obtain ⟨hP, hD⟩ := va_join (wr := []) (w1 := (wd_495 r k)) hP hD [0, 1, 2, 3, 4, 5, 6, 7, 8, 9, 10, 11, 12, 13] [] rfl rfl (by decide) (by decide) hk1 hFc hP1 hD1
  generalize H1 = H at hP hS ⊢
  have hP : va_P (dC, dI) vwCl (wd_495 r k) H := hP
  have hD : va_D A (wd_495 r k) := hD
  obtain rfl : r_686 = 0 := hw
  refine lv_if_ne (tgt := 10) hx hb dX11_goes_5 (by decide) (fun c_0 => absurd c_0 (by decide)) (fun c_0 => ?_)
  refine lv_iconst (v := (-1)) hx hb dX11_goes_8 (by decide) ?_
  refine W.widen (k := 0) (n := 0) (Nat.le_of_ble_eq_true rfl) (Nat.le_of_ble_eq_true rfl) ?_
  exact W.iret (v := (-1)) hx hb hr (fun t ht hW => ⟨⟨(-1), (), rfl, rfl, trivial⟩, hS.F ht⟩) hS.2.2 dX11_goes_9
set_option maxHeartbeats 4000000 in
set_option maxRecDepth 100000 in
theorem mX11_comes (l : Launch) (dC : Nat → ClassId) (dI : Nat → Nat → Nat) (r : Nat → Nat) (k : Nat → ClassId) (p1 : Int32) (sz : Nat) : Met l yX11_comes (Cond.code yX11_comes cX11_comes 3 (some .int) :: wA) ({ frames := 2, cells := 0, slots := 0, locals := 41 }) (va_Pc [.ref (r 0), .int p1] (fun U => U.heap.size = sz ∧ va_P (dC, dI) vwCl (wd_495 r k) U.heap ∧ va_K (dC, dI) vwCl [((k 0), .int), ((k 1), .int), ((k 2), .int)] U ∧ va_D (fun _ => True) (wd_495 r k))) (va_Qi (fun (r : Int32) (_ : Unit) => r = (-1)) (fun _ t => True) (va_A (wd_495 r k) sz)) 0 0 (va_A (wd_495 r k) sz) := by
  refine Met.ofW (cc := cX11_comes) (maxL := 3) (ret := (some .int)) (by decide) rfl ?_
  intro p e s m args below meth c s₁ B hml hv
  obtain ⟨rfl, hsz, hP, hK, hD0⟩ := hv
  have hx := B.exec
  have hb := B.bytes
  have hr := B.returns
  have hts : ∀ w ∈ wA, w.before [.ref (r 0), .int p1].toArray s = true := fun w h => atoms_spec (ws := Cond.code yX11_comes cX11_comes 3 (some .int) :: wA) B.pre w (List.mem_cons_of_mem _ h)
  have hown : s.vm.findClass RX11 = some m.cls := findClass_of_methodNamed B.named
  have hlocks := B.notSynchronized
  subst hsz
  have hD := hD0.self (sz := s.heap.size)
  generalize hAe : va_A (wd_495 r k) s.heap.size = A at hD ⊢
  have hA : ∀ q : Nat, s.heap.size ≤ q → A q := fun q h => by rw [← hAe]; exact Or.inr h
  have hS : va_S A s.heap s.heap [] := va_S.rf
  have hl := lv_entry ([.ref (r 0), .int p1]) (n := 3) (Nat.le_of_ble_eq_true rfl)
  rw [lg_entry_eq]
  generalize (lg_sl ([.ref (r 0), .int p1]) ++ List.replicate (3 - (lg_sl ([.ref (r 0), .int p1])).length) Slot.unset).toArray = ls at hl ⊢
  have hl : lv_has ls 3 [(0, .ref (r 0)), (1, .int p1)] := hl
  refine lv_aload_n hx hb dX11_comes_0 rfl (lv_at hl 0 rfl) ?_
  refine lv_iload_n hx hb dX11_comes_1 rfl (lv_at hl 1 rfl) ?_
  have hPc := hP.sub (ws' := (wd_495 r k)) [0, 1, 2, 3, 4, 5, 6, 7, 8, 9, 10, 11, 12, 13] rfl
  have hDc := hD.sub (ws' := (wd_495 r k)) [0, 1, 2, 3, 4, 5, 6, 7, 8, 9, 10, 11, 12, 13] (by decide) rfl
  have hKc := hK.sub (tys' := [((k 0), .int), ((k 1), .int), ((k 2), .int)]) [0, 1, 2] rfl
  have hFc := va_free (wc := (wd_495 r k)) hD hS hA [0, 1, 2, 3, 4, 5, 6, 7, 8, 9, 10, 11, 12, 13] rfl
  refine va_calli (va_runV (As := [.int p1]) (rest := []) ⟨hx, hb, hml, hown, hts⟩ (c27_X11_inHeap l dC dI r k p1 s.heap.size) (cwV 1 hts (gV q_319 q_320 q_321 q_257 q_318) rfl rfl rfl mdv_yX11_inHeap ⟨Nat.le_of_ble_eq_true rfl, Nat.le_of_ble_eq_true rfl⟩) ⟨fun a U g mk q => by obtain ⟨q0, q1, qP, qK, qD⟩ := q; exact ⟨q0, q1, qP, va_K.moved (u := U) (U := U.calling g mk a) (Vm.Alike.refl U.vm) qK, qD⟩, va_recv hKc hPc (ci := 11) (q0 := 0) rfl rfl, fun U hU hW => ⟨rfl, by rw [hU], by rw [hU]; exact hPc, va_K.moved hW.alike hKc, hDc.weaken (fun _ _ _ _ => trivial)⟩⟩ rfl rfl hl.1 rfl (lv_room (Nat.le_of_ble_eq_true rfl)) dX11_comes_2 ⟨Nat.le_of_ble_eq_true rfl, Nat.le_of_ble_eq_true rfl⟩) hS (fun q _ h => hFc q h) hFc (fun r_688 u t H1 locs ht hvm hw hB hz1 hk1 hS => ?_)
  obtain ⟨hP1, hK1, hD1⟩ := hB
  rw [ht] at hP1
  have hK1 := va_K.moved hvm.symm hK1
  obtain ⟨hP, hD⟩ := va_join (wr := []) (w1 := (wd_495 r k)) hP hD [0, 1, 2, 3, 4, 5, 6, 7, 8, 9, 10, 11, 12, 13] [] rfl rfl (by decide) (by decide) hk1 hFc hP1 hD1
  generalize H1 = H at hP hS ⊢
  have hP : va_P (dC, dI) vwCl (wd_495 r k) H := hP
  have hD : va_D A (wd_495 r k) := hD
  obtain rfl : r_688 = 0 := hw
  refine lv_if_ne (tgt := 10) hx hb dX11_comes_5 (by decide) (fun c_0 => absurd c_0 (by decide)) (fun c_0 => ?_)
  refine lv_iconst (v := (-1)) hx hb dX11_comes_8 (by decide) ?_
  refine W.widen (k := 0) (n := 0) (Nat.le_of_ble_eq_true rfl) (Nat.le_of_ble_eq_true rfl) ?_
  exact W.iret (v := (-1)) hx hb hr (fun t ht hW => ⟨⟨(-1), (), rfl, rfl, trivial⟩, hS.F ht⟩) hS.2.2 dX11_comes_9
set_option maxHeartbeats 4000000 in
set_option maxRecDepth 100000 in
theorem mX11_block (l : Launch) (dC : Nat → ClassId) (dI : Nat → Nat → Nat) (r : Nat → Nat) (k : Nat → ClassId) (p1 : Int32) (p2 : Int32) (sz : Nat) : Met l yX11_block (Cond.code yX11_block cX11_block 4 (some .int) :: wA) ({ frames := 1, cells := 0, slots := 0, locals := 20 }) (va_Pc [.ref (r 0), .int p1, .int p2] (fun U => U.heap.size = sz ∧ va_P (dC, dI) vwCl (wd_495 r k) U.heap ∧ va_K (dC, dI) vwCl [((k 0), .int), ((k 1), .int), ((k 2), .int)] U ∧ va_D (fun _ => True) (wd_495 r k))) (va_Qi (fun (r : Int32) (_ : Unit) => r = (-1)) (fun _ t => True) (va_A (wd_495 r k) sz)) 0 0 (va_A (wd_495 r k) sz) := by
  refine Met.ofW (cc := cX11_block) (maxL := 4) (ret := (some .int)) (by decide) rfl ?_
  intro p e s m args below meth c s₁ B hml hv
  obtain ⟨rfl, hsz, hP, hK, hD0⟩ := hv
  have hx := B.exec
  have hb := B.bytes
  have hr := B.returns
  have hts : ∀ w ∈ wA, w.before [.ref (r 0), .int p1, .int p2].toArray s = true := fun w h => atoms_spec (ws := Cond.code yX11_block cX11_block 4 (some .int) :: wA) B.pre w (List.mem_cons_of_mem _ h)
  have hown : s.vm.findClass RX11 = some m.cls := findClass_of_methodNamed B.named
  have hlocks := B.notSynchronized
  subst hsz
  have hD := hD0.self (sz := s.heap.size)
  generalize hAe : va_A (wd_495 r k) s.heap.size = A at hD ⊢
  have hA : ∀ q : Nat, s.heap.size ≤ q → A q := fun q h => by rw [← hAe]; exact Or.inr h
  have hS : va_S A s.heap s.heap [] := va_S.rf
  have hl := lv_entry ([.ref (r 0), .int p1, .int p2]) (n := 4) (Nat.le_of_ble_eq_true rfl)
  rw [lg_entry_eq]
  generalize (lg_sl ([.ref (r 0), .int p1, .int p2]) ++ List.replicate (4 - (lg_sl ([.ref (r 0), .int p1, .int p2])).length) Slot.unset).toArray = ls at hl ⊢
  have hl : lv_has ls 4 [(0, .ref (r 0)), (1, .int p1), (2, .int p2)] := hl
  refine lv_aload_n hx hb dX11_block_0 rfl (lv_at hl 0 rfl) ?_
  have hPc := hP.sub (ws' := (wd_495 r k)) [0, 1, 2, 3, 4, 5, 6, 7, 8, 9, 10, 11, 12, 13] rfl
  have hDc := hD.sub (ws' := (wd_495 r k)) [0, 1, 2, 3, 4, 5, 6, 7, 8, 9, 10, 11, 12, 13] (by decide) rfl
  have hKc := hK.sub (tys' := [((k 0), .int), ((k 1), .int), ((k 2), .int)]) [0, 1, 2] rfl
  have hFc := va_free (wc := (wd_495 r k)) hD hS hA [0, 1, 2, 3, 4, 5, 6, 7, 8, 9, 10, 11, 12, 13] rfl
  refine va_calli (va_runV (As := []) (rest := []) ⟨hx, hb, hml, hown, hts⟩ (c25_X11_ready l dC dI r k s.heap.size) (cwV 0 hts (gV q_313 q_314 q_315 q_257 q_312) rfl rfl rfl mdv_yX11_ready ⟨Nat.le_of_ble_eq_true rfl, Nat.le_of_ble_eq_true rfl⟩) ⟨fun a U g mk q => by obtain ⟨q0, q1, qP, qK, qD⟩ := q; exact ⟨q0, q1, qP, va_K.moved (u := U) (U := U.calling g mk a) (Vm.Alike.refl U.vm) qK, qD⟩, va_recv hKc hPc (ci := 11) (q0 := 0) rfl rfl, fun U hU hW => ⟨rfl, by rw [hU], by rw [hU]; exact hPc, va_K.moved hW.alike hKc, hDc.weaken (fun _ _ _ _ => trivial)⟩⟩ rfl rfl hl.1 rfl (lv_room (Nat.le_of_ble_eq_true rfl)) dX11_block_1 ⟨Nat.le_of_ble_eq_true rfl, Nat.le_of_ble_eq_true rfl⟩) hS (fun q _ h => hFc q h) hFc (fun r_690 u t H1 locs ht hvm hw hB hz1 hk1 hS => ?_)
  obtain ⟨hP1, hK1, hD1⟩ := hB
  rw [ht] at hP1
  have hK1 := va_K.moved hvm.symm hK1
  obtain ⟨hP, hD⟩ := va_join (wr := []) (w1 := (wd_495 r k)) hP hD [0, 1, 2, 3, 4, 5, 6, 7, 8, 9, 10, 11, 12, 13] [] rfl rfl (by decide) (by decide) hk1 hFc hP1 hD1
  generalize H1 = H at hP hS ⊢
  have hP : va_P (dC, dI) vwCl (wd_495 r k) H := hP
  have hD : va_D A (wd_495 r k) := hD
  obtain rfl : r_690 = 0 := hw
  refine lv_if_ne (tgt := 9) hx hb dX11_block_4 (by decide) (fun c_0 => absurd c_0 (by decide)) (fun c_0 => ?_)
  refine lv_iconst (v := (-1)) hx hb dX11_block_7 (by decide) ?_
  refine W.widen (k := 0) (n := 0) (Nat.le_of_ble_eq_true rfl) (Nat.le_of_ble_eq_true rfl) ?_
  exact W.iret (v := (-1)) hx hb hr (fun t ht hW => ⟨⟨(-1), (), rfl, rfl, trivial⟩, hS.F ht⟩) hS.2.2 dX11_block_8
set_option maxHeartbeats 4000000 in
set_option maxRecDepth 100000 in
theorem c33_X11_isLive (l : Launch) (dC : Nat → ClassId) (dI : Nat → Nat → Nat) (r : Nat → Nat) (k : Nat → ClassId) (p0 : Int32) (sz : Nat) : Met l yX11_isLive (Cond.code yX11_isLive cX11_isLive 2 (some .boolean) :: wA) ({ frames := 3, cells := 0, slots := 0, locals := 62 }) (va_Pc [.ref (r 0), .int p0] (fun U => U.heap.size = sz ∧ va_P (dC, dI) vwCl (wd_495 r k) U.heap ∧ va_K (dC, dI) vwCl [((k 0), .int), ((k 1), .int), ((k 2), .int)] U ∧ va_D (fun _ => True) (wd_495 r k))) (va_Qi (fun (r : Int32) (_ : Unit) => r = 0) (fun _ t => va_P (dC, dI) vwCl (wd_495 r k) t.heap ∧ va_K (dC, dI) vwCl [((k 0), .int), ((k 1), .int), ((k 2), .int)] t ∧ va_D (va_A (wd_495 r k) sz) (wd_495 r k)) (va_A (wd_495 r k) sz)) 0 0 (va_A (wd_495 r k) sz) := by
  refine Met.ofW (cc := cX11_isLive) (maxL := 2) (ret := (some .boolean)) (by decide) rfl ?_
  intro p e s m args below meth c s₁ B hml hv
  obtain ⟨rfl, hsz, hP, hK, hD0⟩ := hv
  have hx := B.exec
  have hb := B.bytes
  have hr := B.returns
  have hts : ∀ w ∈ wA, w.before [.ref (r 0), .int p0].toArray s = true := fun w h => atoms_spec (ws := Cond.code yX11_isLive cX11_isLive 2 (some .boolean) :: wA) B.pre w (List.mem_cons_of_mem _ h)
  have hown : s.vm.findClass RX11 = some m.cls := findClass_of_methodNamed B.named
  have hlocks := B.notSynchronized
  subst hsz
  have hD := hD0.self (sz := s.heap.size)
  generalize hAe : va_A (wd_495 r k) s.heap.size = A at hD ⊢
  have hA : ∀ q : Nat, s.heap.size ≤ q → A q := fun q h => by rw [← hAe]; exact Or.inr h
  have hS : va_S A s.heap s.heap [] := va_S.rf
  have hl := lv_entry ([.ref (r 0), .int p0]) (n := 2) (Nat.le_of_ble_eq_true rfl)
  rw [lg_entry_eq]
  generalize (lg_sl ([.ref (r 0), .int p0]) ++ List.replicate (2 - (lg_sl ([.ref (r 0), .int p0])).length) Slot.unset).toArray = ls at hl ⊢
  have hl : lv_has ls 2 [(0, .ref (r 0)), (1, .int p0)] := hl
  refine lv_aload_n hx hb dX11_isLive_0 rfl (lv_at hl 0 rfl) ?_
  refine lv_iload_n hx hb dX11_isLive_1 rfl (lv_at hl 1 rfl) ?_
  have hPc := hP.sub (ws' := (wd_495 r k)) [0, 1, 2, 3, 4, 5, 6, 7, 8, 9, 10, 11, 12, 13] rfl
  have hDc := hD.sub (ws' := (wd_495 r k)) [0, 1, 2, 3, 4, 5, 6, 7, 8, 9, 10, 11, 12, 13] (by decide) rfl
  have hKc := hK.sub (tys' := [((k 0), .int), ((k 1), .int), ((k 2), .int)]) [0, 1, 2] rfl
  have hFc := va_free (wc := (wd_495 r k)) hD hS hA [0, 1, 2, 3, 4, 5, 6, 7, 8, 9, 10, 11, 12, 13] rfl
  refine va_calli (va_runV (As := [.int p0]) (rest := []) ⟨hx, hb, hml, hown, hts⟩ (c28_X11_inCell l dC dI r k p0 s.heap.size) (cwV 1 hts (gV q_322 q_323 q_324 q_257 q_317) rfl rfl rfl mdv_yX11_inCell ⟨Nat.le_of_ble_eq_true rfl, Nat.le_of_ble_eq_true rfl⟩) ⟨fun a U g mk q => by obtain ⟨q0, q1, qP, qK, qD⟩ := q; exact ⟨q0, q1, qP, va_K.moved (u := U) (U := U.calling g mk a) (Vm.Alike.refl U.vm) qK, qD⟩, va_recv hKc hPc (ci := 11) (q0 := 0) rfl rfl, fun U hU hW => ⟨rfl, by rw [hU], by rw [hU]; exact hPc, va_K.moved hW.alike hKc, hDc.weaken (fun _ _ _ _ => trivial)⟩⟩ rfl rfl hl.1 rfl (lv_room (Nat.le_of_ble_eq_true rfl)) dX11_isLive_2 ⟨Nat.le_of_ble_eq_true rfl, Nat.le_of_ble_eq_true rfl⟩) hS (fun q _ h => hFc q h) hFc (fun r_694 u t H1 locs ht hvm hw hB hz1 hk1 hS => ?_)
  obtain ⟨hP1, hK1, hD1⟩ := hB
  rw [ht] at hP1
  have hK1 := va_K.moved hvm.symm hK1
  obtain ⟨hP, hD⟩ := va_join (wr := []) (w1 := (wd_495 r k)) hP hD [0, 1, 2, 3, 4, 5, 6, 7, 8, 9, 10, 11, 12, 13] [] rfl rfl (by decide) (by decide) hk1 hFc hP1 hD1
  generalize H1 = H at hP hS ⊢
  have hP : va_P (dC, dI) vwCl (wd_495 r k) H := hP
  have hD : va_D A (wd_495 r k) := hD
  obtain rfl : r_694 = 0 := hw
  refine lv_if_ne (tgt := 10) hx hb dX11_isLive_5 (by decide) (fun c_0 => absurd c_0 (by decide)) (fun c_0 => ?_)
  refine lv_iconst (v := 0) hx hb dX11_isLive_8 (by decide) ?_
  refine W.widen (k := 0) (n := 0) (Nat.le_of_ble_eq_true rfl) (Nat.le_of_ble_eq_true rfl) ?_
  have hP9 := hP.sub (ws' := (wd_495 r k)) [0, 1, 2, 3, 4, 5, 6, 7, 8, 9, 10, 11, 12, 13] rfl
  have hD9 := hD.sub (ws' := (wd_495 r k)) [0, 1, 2, 3, 4, 5, 6, 7, 8, 9, 10, 11, 12, 13] (by decide) rfl
  have hK9 := hK.sub (tys' := [((k 0), .int), ((k 1), .int), ((k 2), .int)]) [0, 1, 2] rfl
  exact W.zret (v := 0) hx hb hr rfl (fun t ht hW => ⟨⟨0, (), rfl, rfl, by rw [ht]; exact hP9, va_K.moved hW.alike hK9, hD9⟩, hS.F ht⟩) hS.2.2 dX11_isLive_9
set_option maxHeartbeats 4000000 in
set_option maxRecDepth 100000 in
theorem mX11_chain (l : Launch) (dC : Nat → ClassId) (dI : Nat → Nat → Nat) (r : Nat → Nat) (k : Nat → ClassId) (p1 : Int32) (p2 : Int32) (sz : Nat) : Met l yX11_chain (Cond.code yX11_chain cX11_chain 3 (some .int) :: wA) ({ frames := 4, cells := 0, slots := 0, locals := 83 }) (va_Pc [.ref (r 0), .int p1, .int p2] (fun U => U.heap.size = sz ∧ va_P (dC, dI) vwCl (wd_495 r k) U.heap ∧ va_K (dC, dI) vwCl [((k 0), .int), ((k 1), .int), ((k 2), .int)] U ∧ va_D (fun _ => True) (wd_495 r k))) (va_Qi (fun (r : Int32) (_ : Unit) => r = (-1)) (fun _ t => True) (va_A (wd_495 r k) sz)) 0 0 (va_A (wd_495 r k) sz) := by
  refine Met.ofW (cc := cX11_chain) (maxL := 3) (ret := (some .int)) (by decide) rfl ?_
  intro p e s m args below meth c s₁ B hml hv
  obtain ⟨rfl, hsz, hP, hK, hD0⟩ := hv
  have hx := B.exec
  have hb := B.bytes
  have hr := B.returns
  have hts : ∀ w ∈ wA, w.before [.ref (r 0), .int p1, .int p2].toArray s = true := fun w h => atoms_spec (ws := Cond.code yX11_chain cX11_chain 3 (some .int) :: wA) B.pre w (List.mem_cons_of_mem _ h)
  have hown : s.vm.findClass RX11 = some m.cls := findClass_of_methodNamed B.named
  have hlocks := B.notSynchronized
  subst hsz
  have hD := hD0.self (sz := s.heap.size)
  generalize hAe : va_A (wd_495 r k) s.heap.size = A at hD ⊢
  have hA : ∀ q : Nat, s.heap.size ≤ q → A q := fun q h => by rw [← hAe]; exact Or.inr h
  have hS : va_S A s.heap s.heap [] := va_S.rf
  have hl := lv_entry ([.ref (r 0), .int p1, .int p2]) (n := 3) (Nat.le_of_ble_eq_true rfl)
  rw [lg_entry_eq]
  generalize (lg_sl ([.ref (r 0), .int p1, .int p2]) ++ List.replicate (3 - (lg_sl ([.ref (r 0), .int p1, .int p2])).length) Slot.unset).toArray = ls at hl ⊢
  have hl : lv_has ls 3 [(0, .ref (r 0)), (1, .int p1), (2, .int p2)] := hl
  refine lv_iload_n hx hb dX11_chain_0 rfl (lv_at hl 2 rfl) ?_
  refine lv_if_lt (tgt := 17) hx hb dX11_chain_1 (by decide) (fun c_696 => ?_) (fun c_696 => ?_)
  · refine lv_iconst (v := (-1)) hx hb dX11_chain_17 (by decide) ?_
    refine W.widen (k := 0) (n := 0) (Nat.le_of_ble_eq_true rfl) (Nat.le_of_ble_eq_true rfl) ?_
    exact W.iret (v := (-1)) hx hb hr (fun t ht hW => ⟨⟨(-1), (), rfl, rfl, trivial⟩, hS.F ht⟩) hS.2.2 dX11_chain_18
  · refine lv_iload_n hx hb dX11_chain_4 rfl (lv_at hl 2 rfl) ?_
    refine lv_iconst (v := 1) hx hb dX11_chain_5 (by decide) ?_
    refine lv_icmp_gt (tgt := 17) hx hb dX11_chain_6 (by decide) (fun c_697 => ?_) (fun c_697 => ?_)
    · refine lv_iconst (v := (-1)) hx hb dX11_chain_17 (by decide) ?_
      refine W.widen (k := 0) (n := 0) (Nat.le_of_ble_eq_true rfl) (Nat.le_of_ble_eq_true rfl) ?_
      exact W.iret (v := (-1)) hx hb hr (fun t ht hW => ⟨⟨(-1), (), rfl, rfl, trivial⟩, hS.F ht⟩) hS.2.2 dX11_chain_18
    · refine lv_aload_n hx hb dX11_chain_9 rfl (lv_at hl 0 rfl) ?_
      refine lv_iload_n hx hb dX11_chain_10 rfl (lv_at hl 1 rfl) ?_
      have hPc := hP.sub (ws' := (wd_495 r k)) [0, 1, 2, 3, 4, 5, 6, 7, 8, 9, 10, 11, 12, 13] rfl
      have hDc := hD.sub (ws' := (wd_495 r k)) [0, 1, 2, 3, 4, 5, 6, 7, 8, 9, 10, 11, 12, 13] (by decide) rfl
      have hKc := hK.sub (tys' := [((k 0), .int), ((k 1), .int), ((k 2), .int)]) [0, 1, 2] rfl
      have hFc := va_free (wc := (wd_495 r k)) hD hS hA [0, 1, 2, 3, 4, 5, 6, 7, 8, 9, 10, 11, 12, 13] rfl
      refine va_calli (va_runV (As := [.int p1]) (rest := []) ⟨hx, hb, hml, hown, hts⟩ (c33_X11_isLive l dC dI r k p1 s.heap.size) (cwV 1 hts (gV q_330 q_331 q_332 q_257 q_329) rfl rfl rfl mdv_yX11_isLive ⟨Nat.le_of_ble_eq_true rfl, Nat.le_of_ble_eq_true rfl⟩) ⟨fun a U g mk q => by obtain ⟨q0, q1, qP, qK, qD⟩ := q; exact ⟨q0, q1, qP, va_K.moved (u := U) (U := U.calling g mk a) (Vm.Alike.refl U.vm) qK, qD⟩, va_recv hKc hPc (ci := 11) (q0 := 0) rfl rfl, fun U hU hW => ⟨rfl, by rw [hU], by rw [hU]; exact hPc, va_K.moved hW.alike hKc, hDc.weaken (fun _ _ _ _ => trivial)⟩⟩ rfl rfl hl.1 rfl (lv_room (Nat.le_of_ble_eq_true rfl)) dX11_chain_11 ⟨Nat.le_of_ble_eq_true rfl, Nat.le_of_ble_eq_true rfl⟩) hS (fun q _ h => hFc q h) hFc (fun r_698 u t H1 locs ht hvm hw hB hz1 hk1 hS => ?_)
      obtain ⟨hP1, hK1, hD1⟩ := hB
      rw [ht] at hP1
      have hK1 := va_K.moved hvm.symm hK1
      obtain ⟨hP, hD⟩ := va_join (wr := []) (w1 := (wd_495 r k)) hP hD [0, 1, 2, 3, 4, 5, 6, 7, 8, 9, 10, 11, 12, 13] [] rfl rfl (by decide) (by decide) hk1 hFc hP1 hD1
      generalize H1 = H at hP hS ⊢
      have hP : va_P (dC, dI) vwCl (wd_495 r k) H := hP
      have hD : va_D A (wd_495 r k) := hD
      obtain rfl : r_698 = 0 := hw
      refine lv_if_ne (tgt := 19) hx hb dX11_chain_14 (by decide) (fun c_0 => absurd c_0 (by decide)) (fun c_0 => ?_)
      refine lv_iconst (v := (-1)) hx hb dX11_chain_17 (by decide) ?_
      refine W.widen (k := 0) (n := 0) (Nat.le_of_ble_eq_true rfl) (Nat.le_of_ble_eq_true rfl) ?_
      exact W.iret (v := (-1)) hx hb hr (fun t ht hW => ⟨⟨(-1), (), rfl, rfl, trivial⟩, hS.F ht⟩) hS.2.2 dX11_chain_18
set_option maxHeartbeats 4000000 in
set_option maxRecDepth 100000 in
theorem mX11_longest (l : Launch) (dC : Nat → ClassId) (dI : Nat → Nat → Nat) (r : Nat → Nat) (k : Nat → ClassId) (p1 : Int32) (sz : Nat) : Met l yX11_longest (Cond.code yX11_longest cX11_longest 4 (some .int) :: wA) ({ frames := 1, cells := 0, slots := 0, locals := 20 }) (va_Pc [.ref (r 0), .int p1] (fun U => U.heap.size = sz ∧ va_P (dC, dI) vwCl (wd_495 r k) U.heap ∧ va_K (dC, dI) vwCl [((k 0), .int), ((k 1), .int), ((k 2), .int)] U ∧ va_D (fun _ => True) (wd_495 r k))) (va_Qi (fun (r : Int32) (_ : Unit) => r = (-1)) (fun _ t => True) (va_A (wd_495 r k) sz)) 0 0 (va_A (wd_495 r k) sz) := by
  refine Met.ofW (cc := cX11_longest) (maxL := 4) (ret := (some .int)) (by decide) rfl ?_
  intro p e s m args below meth c s₁ B hml hv
  obtain ⟨rfl, hsz, hP, hK, hD0⟩ := hv
  have hx := B.exec
  have hb := B.bytes
  have hr := B.returns
  have hts : ∀ w ∈ wA, w.before [.ref (r 0), .int p1].toArray s = true := fun w h => atoms_spec (ws := Cond.code yX11_longest cX11_longest 4 (some .int) :: wA) B.pre w (List.mem_cons_of_mem _ h)
  have hown : s.vm.findClass RX11 = some m.cls := findClass_of_methodNamed B.named
  have hlocks := B.notSynchronized
  subst hsz
  have hD := hD0.self (sz := s.heap.size)
  generalize hAe : va_A (wd_495 r k) s.heap.size = A at hD ⊢
  have hA : ∀ q : Nat, s.heap.size ≤ q → A q := fun q h => by rw [← hAe]; exact Or.inr h
  have hS : va_S A s.heap s.heap [] := va_S.rf
  have hl := lv_entry ([.ref (r 0), .int p1]) (n := 4) (Nat.le_of_ble_eq_true rfl)
  rw [lg_entry_eq]
  generalize (lg_sl ([.ref (r 0), .int p1]) ++ List.replicate (4 - (lg_sl ([.ref (r 0), .int p1])).length) Slot.unset).toArray = ls at hl ⊢
  have hl : lv_has ls 4 [(0, .ref (r 0)), (1, .int p1)] := hl
  refine lv_iload_n hx hb dX11_longest_0 rfl (lv_at hl 1 rfl) ?_
  refine lv_if_lt (tgt := 16) hx hb dX11_longest_1 (by decide) (fun c_702 => ?_) (fun c_702 => ?_)
  · refine lv_iconst (v := (-1)) hx hb dX11_longest_16 (by decide) ?_
    refine W.widen (k := 0) (n := 0) (Nat.le_of_ble_eq_true rfl) (Nat.le_of_ble_eq_true rfl) ?_
    exact W.iret (v := (-1)) hx hb hr (fun t ht hW => ⟨⟨(-1), (), rfl, rfl, trivial⟩, hS.F ht⟩) hS.2.2 dX11_longest_17
  · refine lv_iload_n hx hb dX11_longest_4 rfl (lv_at hl 1 rfl) ?_
    refine lv_iconst (v := 1) hx hb dX11_longest_5 (by decide) ?_
    refine lv_icmp_gt (tgt := 16) hx hb dX11_longest_6 (by decide) (fun c_703 => ?_) (fun c_703 => ?_)
    · refine lv_iconst (v := (-1)) hx hb dX11_longest_16 (by decide) ?_
      refine W.widen (k := 0) (n := 0) (Nat.le_of_ble_eq_true rfl) (Nat.le_of_ble_eq_true rfl) ?_
      exact W.iret (v := (-1)) hx hb hr (fun t ht hW => ⟨⟨(-1), (), rfl, rfl, trivial⟩, hS.F ht⟩) hS.2.2 dX11_longest_17
    · refine lv_aload_n hx hb dX11_longest_9 rfl (lv_at hl 0 rfl) ?_
      have hPc := hP.sub (ws' := (wd_495 r k)) [0, 1, 2, 3, 4, 5, 6, 7, 8, 9, 10, 11, 12, 13] rfl
      have hDc := hD.sub (ws' := (wd_495 r k)) [0, 1, 2, 3, 4, 5, 6, 7, 8, 9, 10, 11, 12, 13] (by decide) rfl
      have hKc := hK.sub (tys' := [((k 0), .int), ((k 1), .int), ((k 2), .int)]) [0, 1, 2] rfl
      have hFc := va_free (wc := (wd_495 r k)) hD hS hA [0, 1, 2, 3, 4, 5, 6, 7, 8, 9, 10, 11, 12, 13] rfl
      refine va_calli (va_runV (As := []) (rest := []) ⟨hx, hb, hml, hown, hts⟩ (c25_X11_ready l dC dI r k s.heap.size) (cwV 0 hts (gV q_313 q_314 q_315 q_257 q_312) rfl rfl rfl mdv_yX11_ready ⟨Nat.le_of_ble_eq_true rfl, Nat.le_of_ble_eq_true rfl⟩) ⟨fun a U g mk q => by obtain ⟨q0, q1, qP, qK, qD⟩ := q; exact ⟨q0, q1, qP, va_K.moved (u := U) (U := U.calling g mk a) (Vm.Alike.refl U.vm) qK, qD⟩, va_recv hKc hPc (ci := 11) (q0 := 0) rfl rfl, fun U hU hW => ⟨rfl, by rw [hU], by rw [hU]; exact hPc, va_K.moved hW.alike hKc, hDc.weaken (fun _ _ _ _ => trivial)⟩⟩ rfl rfl hl.1 rfl (lv_room (Nat.le_of_ble_eq_true rfl)) dX11_longest_10 ⟨Nat.le_of_ble_eq_true rfl, Nat.le_of_ble_eq_true rfl⟩) hS (fun q _ h => hFc q h) hFc (fun r_704 u t H1 locs ht hvm hw hB hz1 hk1 hS => ?_)
      obtain ⟨hP1, hK1, hD1⟩ := hB
      rw [ht] at hP1
      have hK1 := va_K.moved hvm.symm hK1
      obtain ⟨hP, hD⟩ := va_join (wr := []) (w1 := (wd_495 r k)) hP hD [0, 1, 2, 3, 4, 5, 6, 7, 8, 9, 10, 11, 12, 13] [] rfl rfl (by decide) (by decide) hk1 hFc hP1 hD1
      generalize H1 = H at hP hS ⊢
      have hP : va_P (dC, dI) vwCl (wd_495 r k) H := hP
      have hD : va_D A (wd_495 r k) := hD
      obtain rfl : r_704 = 0 := hw
      refine lv_if_ne (tgt := 18) hx hb dX11_longest_13 (by decide) (fun c_0 => absurd c_0 (by decide)) (fun c_0 => ?_)
      refine lv_iconst (v := (-1)) hx hb dX11_longest_16 (by decide) ?_
      refine W.widen (k := 0) (n := 0) (Nat.le_of_ble_eq_true rfl) (Nat.le_of_ble_eq_true rfl) ?_
      exact W.iret (v := (-1)) hx hb hr (fun t ht hW => ⟨⟨(-1), (), rfl, rfl, trivial⟩, hS.F ht⟩) hS.2.2 dX11_longest_17
set_option maxHeartbeats 4000000 in
set_option maxRecDepth 100000 in
theorem mX11_steps (l : Launch) (dC : Nat → ClassId) (dI : Nat → Nat → Nat) (r : Nat → Nat) (k : Nat → ClassId) (p1 : Int32) (sz : Nat) : Met l yX11_steps (Cond.code yX11_steps cX11_steps 2 (some .int) :: wA) ({ frames := 1, cells := 0, slots := 0, locals := 20 }) (va_Pc [.ref (r 0), .int p1] (fun U => U.heap.size = sz ∧ va_P (dC, dI) vwCl (wd_495 r k) U.heap ∧ va_K (dC, dI) vwCl [((k 0), .int), ((k 1), .int), ((k 2), .int)] U ∧ va_D (fun _ => True) (wd_495 r k))) (va_Qi (fun (r : Int32) (_ : Unit) => r = (-1)) (fun _ t => True) (va_A (wd_495 r k) sz)) 0 0 (va_A (wd_495 r k) sz) := by
  refine Met.ofW (cc := cX11_steps) (maxL := 2) (ret := (some .int)) (by decide) rfl ?_
  intro p e s m args below meth c s₁ B hml hv
  obtain ⟨rfl, hsz, hP, hK, hD0⟩ := hv
  have hx := B.exec
  have hb := B.bytes
  have hr := B.returns
  have hts : ∀ w ∈ wA, w.before [.ref (r 0), .int p1].toArray s = true := fun w h => atoms_spec (ws := Cond.code yX11_steps cX11_steps 2 (some .int) :: wA) B.pre w (List.mem_cons_of_mem _ h)
  have hown : s.vm.findClass RX11 = some m.cls := findClass_of_methodNamed B.named
  have hlocks := B.notSynchronized
  subst hsz
  have hD := hD0.self (sz := s.heap.size)
  generalize hAe : va_A (wd_495 r k) s.heap.size = A at hD ⊢
  have hA : ∀ q : Nat, s.heap.size ≤ q → A q := fun q h => by rw [← hAe]; exact Or.inr h
  have hS : va_S A s.heap s.heap [] := va_S.rf
  have hl := lv_entry ([.ref (r 0), .int p1]) (n := 2) (Nat.le_of_ble_eq_true rfl)
  rw [lg_entry_eq]
  generalize (lg_sl ([.ref (r 0), .int p1]) ++ List.replicate (2 - (lg_sl ([.ref (r 0), .int p1])).length) Slot.unset).toArray = ls at hl ⊢
  have hl : lv_has ls 2 [(0, .ref (r 0)), (1, .int p1)] := hl
  refine lv_iload_n hx hb dX11_steps_0 rfl (lv_at hl 1 rfl) ?_
  refine lv_if_lt (tgt := 16) hx hb dX11_steps_1 (by decide) (fun c_708 => ?_) (fun c_708 => ?_)
  · refine lv_iconst (v := (-1)) hx hb dX11_steps_16 (by decide) ?_
    refine W.widen (k := 0) (n := 0) (Nat.le_of_ble_eq_true rfl) (Nat.le_of_ble_eq_true rfl) ?_
    exact W.iret (v := (-1)) hx hb hr (fun t ht hW => ⟨⟨(-1), (), rfl, rfl, trivial⟩, hS.F ht⟩) hS.2.2 dX11_steps_17
  · refine lv_iload_n hx hb dX11_steps_4 rfl (lv_at hl 1 rfl) ?_
    refine lv_iconst (v := 1) hx hb dX11_steps_5 (by decide) ?_
    refine lv_icmp_gt (tgt := 16) hx hb dX11_steps_6 (by decide) (fun c_709 => ?_) (fun c_709 => ?_)
    · refine lv_iconst (v := (-1)) hx hb dX11_steps_16 (by decide) ?_
      refine W.widen (k := 0) (n := 0) (Nat.le_of_ble_eq_true rfl) (Nat.le_of_ble_eq_true rfl) ?_
      exact W.iret (v := (-1)) hx hb hr (fun t ht hW => ⟨⟨(-1), (), rfl, rfl, trivial⟩, hS.F ht⟩) hS.2.2 dX11_steps_17
    · refine lv_aload_n hx hb dX11_steps_9 rfl (lv_at hl 0 rfl) ?_
      have hPc := hP.sub (ws' := (wd_495 r k)) [0, 1, 2, 3, 4, 5, 6, 7, 8, 9, 10, 11, 12, 13] rfl
      have hDc := hD.sub (ws' := (wd_495 r k)) [0, 1, 2, 3, 4, 5, 6, 7, 8, 9, 10, 11, 12, 13] (by decide) rfl
      have hKc := hK.sub (tys' := [((k 0), .int), ((k 1), .int), ((k 2), .int)]) [0, 1, 2] rfl
      have hFc := va_free (wc := (wd_495 r k)) hD hS hA [0, 1, 2, 3, 4, 5, 6, 7, 8, 9, 10, 11, 12, 13] rfl
      refine va_calli (va_runV (As := []) (rest := []) ⟨hx, hb, hml, hown, hts⟩ (c25_X11_ready l dC dI r k s.heap.size) (cwV 0 hts (gV q_313 q_314 q_315 q_257 q_312) rfl rfl rfl mdv_yX11_ready ⟨Nat.le_of_ble_eq_true rfl, Nat.le_of_ble_eq_true rfl⟩) ⟨fun a U g mk q => by obtain ⟨q0, q1, qP, qK, qD⟩ := q; exact ⟨q0, q1, qP, va_K.moved (u := U) (U := U.calling g mk a) (Vm.Alike.refl U.vm) qK, qD⟩, va_recv hKc hPc (ci := 11) (q0 := 0) rfl rfl, fun U hU hW => ⟨rfl, by rw [hU], by rw [hU]; exact hPc, va_K.moved hW.alike hKc, hDc.weaken (fun _ _ _ _ => trivial)⟩⟩ rfl rfl hl.1 rfl (lv_room (Nat.le_of_ble_eq_true rfl)) dX11_steps_10 ⟨Nat.le_of_ble_eq_true rfl, Nat.le_of_ble_eq_true rfl⟩) hS (fun q _ h => hFc q h) hFc (fun r_710 u t H1 locs ht hvm hw hB hz1 hk1 hS => ?_)
      obtain ⟨hP1, hK1, hD1⟩ := hB
      rw [ht] at hP1
      have hK1 := va_K.moved hvm.symm hK1
      obtain ⟨hP, hD⟩ := va_join (wr := []) (w1 := (wd_495 r k)) hP hD [0, 1, 2, 3, 4, 5, 6, 7, 8, 9, 10, 11, 12, 13] [] rfl rfl (by decide) (by decide) hk1 hFc hP1 hD1
      generalize H1 = H at hP hS ⊢
      have hP : va_P (dC, dI) vwCl (wd_495 r k) H := hP
      have hD : va_D A (wd_495 r k) := hD
      obtain rfl : r_710 = 0 := hw
      refine lv_if_ne (tgt := 18) hx hb dX11_steps_13 (by decide) (fun c_0 => absurd c_0 (by decide)) (fun c_0 => ?_)
      refine lv_iconst (v := (-1)) hx hb dX11_steps_16 (by decide) ?_
      refine W.widen (k := 0) (n := 0) (Nat.le_of_ble_eq_true rfl) (Nat.le_of_ble_eq_true rfl) ?_
      exact W.iret (v := (-1)) hx hb hr (fun t ht hW => ⟨⟨(-1), (), rfl, rfl, trivial⟩, hS.F ht⟩) hS.2.2 dX11_steps_17
set_option maxHeartbeats 4000000 in
set_option maxRecDepth 100000 in
theorem mX11_room (l : Launch) (dC : Nat → ClassId) (dI : Nat → Nat → Nat) (r : Nat → Nat) (k : Nat → ClassId) (p1 : Int32) (p2 : Int32) (sz : Nat) : Met l yX11_room (Cond.code yX11_room cX11_room 4 (some .int) :: wA) ({ frames := 1, cells := 0, slots := 0, locals := 20 }) (va_Pc [.ref (r 0), .int p1, .int p2] (fun U => U.heap.size = sz ∧ va_P (dC, dI) vwCl (wd_495 r k) U.heap ∧ va_K (dC, dI) vwCl [((k 0), .int), ((k 1), .int), ((k 2), .int)] U ∧ va_D (fun _ => True) (wd_495 r k))) (va_Qi (fun (r : Int32) (_ : Unit) => r = (-1)) (fun _ t => True) (va_A (wd_495 r k) sz)) 0 0 (va_A (wd_495 r k) sz) := by
  refine Met.ofW (cc := cX11_room) (maxL := 4) (ret := (some .int)) (by decide) rfl ?_
  intro p e s m args below meth c s₁ B hml hv
  obtain ⟨rfl, hsz, hP, hK, hD0⟩ := hv
  have hx := B.exec
  have hb := B.bytes
  have hr := B.returns
  have hts : ∀ w ∈ wA, w.before [.ref (r 0), .int p1, .int p2].toArray s = true := fun w h => atoms_spec (ws := Cond.code yX11_room cX11_room 4 (some .int) :: wA) B.pre w (List.mem_cons_of_mem _ h)
  have hown : s.vm.findClass RX11 = some m.cls := findClass_of_methodNamed B.named
  have hlocks := B.notSynchronized
  subst hsz
  have hD := hD0.self (sz := s.heap.size)
  generalize hAe : va_A (wd_495 r k) s.heap.size = A at hD ⊢
  have hA : ∀ q : Nat, s.heap.size ≤ q → A q := fun q h => by rw [← hAe]; exact Or.inr h
  have hS : va_S A s.heap s.heap [] := va_S.rf
  have hl := lv_entry ([.ref (r 0), .int p1, .int p2]) (n := 4) (Nat.le_of_ble_eq_true rfl)
  rw [lg_entry_eq]
  generalize (lg_sl ([.ref (r 0), .int p1, .int p2]) ++ List.replicate (4 - (lg_sl ([.ref (r 0), .int p1, .int p2])).length) Slot.unset).toArray = ls at hl ⊢
  have hl : lv_has ls 4 [(0, .ref (r 0)), (1, .int p1), (2, .int p2)] := hl
  refine lv_aload_n hx hb dX11_room_0 rfl (lv_at hl 0 rfl) ?_
  have hPc := hP.sub (ws' := (wd_495 r k)) [0, 1, 2, 3, 4, 5, 6, 7, 8, 9, 10, 11, 12, 13] rfl
  have hDc := hD.sub (ws' := (wd_495 r k)) [0, 1, 2, 3, 4, 5, 6, 7, 8, 9, 10, 11, 12, 13] (by decide) rfl
  have hKc := hK.sub (tys' := [((k 0), .int), ((k 1), .int), ((k 2), .int)]) [0, 1, 2] rfl
  have hFc := va_free (wc := (wd_495 r k)) hD hS hA [0, 1, 2, 3, 4, 5, 6, 7, 8, 9, 10, 11, 12, 13] rfl
  refine va_calli (va_runV (As := []) (rest := []) ⟨hx, hb, hml, hown, hts⟩ (c25_X11_ready l dC dI r k s.heap.size) (cwV 0 hts (gV q_313 q_314 q_315 q_257 q_312) rfl rfl rfl mdv_yX11_ready ⟨Nat.le_of_ble_eq_true rfl, Nat.le_of_ble_eq_true rfl⟩) ⟨fun a U g mk q => by obtain ⟨q0, q1, qP, qK, qD⟩ := q; exact ⟨q0, q1, qP, va_K.moved (u := U) (U := U.calling g mk a) (Vm.Alike.refl U.vm) qK, qD⟩, va_recv hKc hPc (ci := 11) (q0 := 0) rfl rfl, fun U hU hW => ⟨rfl, by rw [hU], by rw [hU]; exact hPc, va_K.moved hW.alike hKc, hDc.weaken (fun _ _ _ _ => trivial)⟩⟩ rfl rfl hl.1 rfl (lv_room (Nat.le_of_ble_eq_true rfl)) dX11_room_1 ⟨Nat.le_of_ble_eq_true rfl, Nat.le_of_ble_eq_true rfl⟩) hS (fun q _ h => hFc q h) hFc (fun r_712 u t H1 locs ht hvm hw hB hz1 hk1 hS => ?_)
  obtain ⟨hP1, hK1, hD1⟩ := hB
  rw [ht] at hP1
  have hK1 := va_K.moved hvm.symm hK1
  obtain ⟨hP, hD⟩ := va_join (wr := []) (w1 := (wd_495 r k)) hP hD [0, 1, 2, 3, 4, 5, 6, 7, 8, 9, 10, 11, 12, 13] [] rfl rfl (by decide) (by decide) hk1 hFc hP1 hD1
  generalize H1 = H at hP hS ⊢
  have hP : va_P (dC, dI) vwCl (wd_495 r k) H := hP
  have hD : va_D A (wd_495 r k) := hD
  obtain rfl : r_712 = 0 := hw
  refine lv_if_eq (tgt := 31) hx hb dX11_room_4 (by decide) (fun c_0 => ?_) (fun c_0 => absurd c_0 (by decide))
  refine lv_iconst (v := (-1)) hx hb dX11_room_31 (by decide) ?_
  refine W.widen (k := 0) (n := 0) (Nat.le_of_ble_eq_true rfl) (Nat.le_of_ble_eq_true rfl) ?_
  exact W.iret (v := (-1)) hx hb hr (fun t ht hW => ⟨⟨(-1), (), rfl, rfl, trivial⟩, hS.F ht⟩) hS.2.2 dX11_room_32
set_option maxHeartbeats 4000000 in
set_option maxRecDepth 100000 in
theorem mX11_far (l : Launch) (dC : Nat → ClassId) (dI : Nat → Nat → Nat) (r : Nat → Nat) (k : Nat → ClassId) (p1 : Int32) (sz : Nat) : Met l yX11_far (Cond.code yX11_far cX11_far 2 (some .int) :: wA) ({ frames := 4, cells := 0, slots := 0, locals := 83 }) (va_Pc [.ref (r 0), .int p1] (fun U => U.heap.size = sz ∧ va_P (dC, dI) vwCl (wd_495 r k) U.heap ∧ va_K (dC, dI) vwCl [((k 0), .int), ((k 1), .int), ((k 2), .int)] U ∧ va_D (fun _ => True) (wd_495 r k))) (va_Qi (fun (r : Int32) (_ : Unit) => r = (-1)) (fun _ t => True) (va_A (wd_495 r k) sz)) 0 0 (va_A (wd_495 r k) sz) := by
  refine Met.ofW (cc := cX11_far) (maxL := 2) (ret := (some .int)) (by decide) rfl ?_
  intro p e s m args below meth c s₁ B hml hv
  obtain ⟨rfl, hsz, hP, hK, hD0⟩ := hv
  have hx := B.exec
  have hb := B.bytes
  have hr := B.returns
  have hts : ∀ w ∈ wA, w.before [.ref (r 0), .int p1].toArray s = true := fun w h => atoms_spec (ws := Cond.code yX11_far cX11_far 2 (some .int) :: wA) B.pre w (List.mem_cons_of_mem _ h)
  have hown : s.vm.findClass RX11 = some m.cls := findClass_of_methodNamed B.named
  have hlocks := B.notSynchronized
  subst hsz
  have hD := hD0.self (sz := s.heap.size)
  generalize hAe : va_A (wd_495 r k) s.heap.size = A at hD ⊢
  have hA : ∀ q : Nat, s.heap.size ≤ q → A q := fun q h => by rw [← hAe]; exact Or.inr h
  have hS : va_S A s.heap s.heap [] := va_S.rf
  have hl := lv_entry ([.ref (r 0), .int p1]) (n := 2) (Nat.le_of_ble_eq_true rfl)
  rw [lg_entry_eq]
  generalize (lg_sl ([.ref (r 0), .int p1]) ++ List.replicate (2 - (lg_sl ([.ref (r 0), .int p1])).length) Slot.unset).toArray = ls at hl ⊢
  have hl : lv_has ls 2 [(0, .ref (r 0)), (1, .int p1)] := hl
  refine lv_aload_n hx hb dX11_far_0 rfl (lv_at hl 0 rfl) ?_
  refine lv_iload_n hx hb dX11_far_1 rfl (lv_at hl 1 rfl) ?_
  have hPc := hP.sub (ws' := (wd_495 r k)) [0, 1, 2, 3, 4, 5, 6, 7, 8, 9, 10, 11, 12, 13] rfl
  have hDc := hD.sub (ws' := (wd_495 r k)) [0, 1, 2, 3, 4, 5, 6, 7, 8, 9, 10, 11, 12, 13] (by decide) rfl
  have hKc := hK.sub (tys' := [((k 0), .int), ((k 1), .int), ((k 2), .int)]) [0, 1, 2] rfl
  have hFc := va_free (wc := (wd_495 r k)) hD hS hA [0, 1, 2, 3, 4, 5, 6, 7, 8, 9, 10, 11, 12, 13] rfl
  refine va_calli (va_runV (As := [.int p1]) (rest := []) ⟨hx, hb, hml, hown, hts⟩ (c33_X11_isLive l dC dI r k p1 s.heap.size) (cwV 1 hts (gV q_330 q_331 q_332 q_257 q_329) rfl rfl rfl mdv_yX11_isLive ⟨Nat.le_of_ble_eq_true rfl, Nat.le_of_ble_eq_true rfl⟩) ⟨fun a U g mk q => by obtain ⟨q0, q1, qP, qK, qD⟩ := q; exact ⟨q0, q1, qP, va_K.moved (u := U) (U := U.calling g mk a) (Vm.Alike.refl U.vm) qK, qD⟩, va_recv hKc hPc (ci := 11) (q0 := 0) rfl rfl, fun U hU hW => ⟨rfl, by rw [hU], by rw [hU]; exact hPc, va_K.moved hW.alike hKc, hDc.weaken (fun _ _ _ _ => trivial)⟩⟩ rfl rfl hl.1 rfl (lv_room (Nat.le_of_ble_eq_true rfl)) dX11_far_2 ⟨Nat.le_of_ble_eq_true rfl, Nat.le_of_ble_eq_true rfl⟩) hS (fun q _ h => hFc q h) hFc (fun r_714 u t H1 locs ht hvm hw hB hz1 hk1 hS => ?_)
  obtain ⟨hP1, hK1, hD1⟩ := hB
  rw [ht] at hP1
  have hK1 := va_K.moved hvm.symm hK1
  obtain ⟨hP, hD⟩ := va_join (wr := []) (w1 := (wd_495 r k)) hP hD [0, 1, 2, 3, 4, 5, 6, 7, 8, 9, 10, 11, 12, 13] [] rfl rfl (by decide) (by decide) hk1 hFc hP1 hD1
  generalize H1 = H at hP hS ⊢
  have hP : va_P (dC, dI) vwCl (wd_495 r k) H := hP
  have hD : va_D A (wd_495 r k) := hD
  obtain rfl : r_714 = 0 := hw
  refine lv_if_eq (tgt := 27) hx hb dX11_far_5 (by decide) (fun c_0 => ?_) (fun c_0 => absurd c_0 (by decide))
  refine lv_iconst (v := (-1)) hx hb dX11_far_27 (by decide) ?_
  refine W.widen (k := 0) (n := 0) (Nat.le_of_ble_eq_true rfl) (Nat.le_of_ble_eq_true rfl) ?_
  exact W.iret (v := (-1)) hx hb hr (fun t ht hW => ⟨⟨(-1), (), rfl, rfl, trivial⟩, hS.F ht⟩) hS.2.2 dX11_far_28
set_option maxHeartbeats 4000000 in
set_option maxRecDepth 100000 in
theorem mX11_way (l : Launch) (dC : Nat → ClassId) (dI : Nat → Nat → Nat) (r : Nat → Nat) (k : Nat → ClassId) (p1 : Int32) (p2 : Int32) (sz : Nat) : Met l yX11_way (Cond.code yX11_way cX11_way 3 (some .int) :: wA) ({ frames := 4, cells := 0, slots := 0, locals := 83 }) (va_Pc [.ref (r 0), .int p1, .int p2] (fun U => U.heap.size = sz ∧ va_P (dC, dI) vwCl (wd_495 r k) U.heap ∧ va_K (dC, dI) vwCl [((k 0), .int), ((k 1), .int), ((k 2), .int)] U ∧ va_D (fun _ => True) (wd_495 r k))) (va_Qi (fun (r : Int32) (_ : Unit) => r = (-1)) (fun _ t => True) (va_A (wd_495 r k) sz)) 0 0 (va_A (wd_495 r k) sz) := by
  refine Met.ofW (cc := cX11_way) (maxL := 3) (ret := (some .int)) (by decide) rfl ?_
  intro p e s m args below meth c s₁ B hml hv
  obtain ⟨rfl, hsz, hP, hK, hD0⟩ := hv
  have hx := B.exec
  have hb := B.bytes
  have hr := B.returns
  have hts : ∀ w ∈ wA, w.before [.ref (r 0), .int p1, .int p2].toArray s = true := fun w h => atoms_spec (ws := Cond.code yX11_way cX11_way 3 (some .int) :: wA) B.pre w (List.mem_cons_of_mem _ h)
  have hown : s.vm.findClass RX11 = some m.cls := findClass_of_methodNamed B.named
  have hlocks := B.notSynchronized
  subst hsz
  have hD := hD0.self (sz := s.heap.size)
  generalize hAe : va_A (wd_495 r k) s.heap.size = A at hD ⊢
  have hA : ∀ q : Nat, s.heap.size ≤ q → A q := fun q h => by rw [← hAe]; exact Or.inr h
  have hS : va_S A s.heap s.heap [] := va_S.rf
  have hl := lv_entry ([.ref (r 0), .int p1, .int p2]) (n := 3) (Nat.le_of_ble_eq_true rfl)
  rw [lg_entry_eq]
  generalize (lg_sl ([.ref (r 0), .int p1, .int p2]) ++ List.replicate (3 - (lg_sl ([.ref (r 0), .int p1, .int p2])).length) Slot.unset).toArray = ls at hl ⊢
  have hl : lv_has ls 3 [(0, .ref (r 0)), (1, .int p1), (2, .int p2)] := hl
  refine lv_iload_n hx hb dX11_way_0 rfl (lv_at hl 2 rfl) ?_
  refine lv_if_lt (tgt := 12) hx hb dX11_way_1 (by decide) (fun c_717 => ?_) (fun c_717 => ?_)
  · refine lv_iconst (v := (-1)) hx hb dX11_way_12 (by decide) ?_
    refine W.widen (k := 0) (n := 0) (Nat.le_of_ble_eq_true rfl) (Nat.le_of_ble_eq_true rfl) ?_
    exact W.iret (v := (-1)) hx hb hr (fun t ht hW => ⟨⟨(-1), (), rfl, rfl, trivial⟩, hS.F ht⟩) hS.2.2 dX11_way_13
  · refine lv_aload_n hx hb dX11_way_4 rfl (lv_at hl 0 rfl) ?_
    refine lv_iload_n hx hb dX11_way_5 rfl (lv_at hl 1 rfl) ?_
    have hPc := hP.sub (ws' := (wd_495 r k)) [0, 1, 2, 3, 4, 5, 6, 7, 8, 9, 10, 11, 12, 13] rfl
    have hDc := hD.sub (ws' := (wd_495 r k)) [0, 1, 2, 3, 4, 5, 6, 7, 8, 9, 10, 11, 12, 13] (by decide) rfl
    have hKc := hK.sub (tys' := [((k 0), .int), ((k 1), .int), ((k 2), .int)]) [0, 1, 2] rfl
    have hFc := va_free (wc := (wd_495 r k)) hD hS hA [0, 1, 2, 3, 4, 5, 6, 7, 8, 9, 10, 11, 12, 13] rfl
    refine va_calli (va_runV (As := [.int p1]) (rest := []) ⟨hx, hb, hml, hown, hts⟩ (c33_X11_isLive l dC dI r k p1 s.heap.size) (cwV 1 hts (gV q_330 q_331 q_332 q_257 q_329) rfl rfl rfl mdv_yX11_isLive ⟨Nat.le_of_ble_eq_true rfl, Nat.le_of_ble_eq_true rfl⟩) ⟨fun a U g mk q => by obtain ⟨q0, q1, qP, qK, qD⟩ := q; exact ⟨q0, q1, qP, va_K.moved (u := U) (U := U.calling g mk a) (Vm.Alike.refl U.vm) qK, qD⟩, va_recv hKc hPc (ci := 11) (q0 := 0) rfl rfl, fun U hU hW => ⟨rfl, by rw [hU], by rw [hU]; exact hPc, va_K.moved hW.alike hKc, hDc.weaken (fun _ _ _ _ => trivial)⟩⟩ rfl rfl hl.1 rfl (lv_room (Nat.le_of_ble_eq_true rfl)) dX11_way_6 ⟨Nat.le_of_ble_eq_true rfl, Nat.le_of_ble_eq_true rfl⟩) hS (fun q _ h => hFc q h) hFc (fun r_718 u t H1 locs ht hvm hw hB hz1 hk1 hS => ?_)
    obtain ⟨hP1, hK1, hD1⟩ := hB
    rw [ht] at hP1
    have hK1 := va_K.moved hvm.symm hK1
    obtain ⟨hP, hD⟩ := va_join (wr := []) (w1 := (wd_495 r k)) hP hD [0, 1, 2, 3, 4, 5, 6, 7, 8, 9, 10, 11, 12, 13] [] rfl rfl (by decide) (by decide) hk1 hFc hP1 hD1
    generalize H1 = H at hP hS ⊢
    have hP : va_P (dC, dI) vwCl (wd_495 r k) H := hP
    have hD : va_D A (wd_495 r k) := hD
    obtain rfl : r_718 = 0 := hw
    refine lv_if_ne (tgt := 14) hx hb dX11_way_9 (by decide) (fun c_0 => absurd c_0 (by decide)) (fun c_0 => ?_)
    refine lv_iconst (v := (-1)) hx hb dX11_way_12 (by decide) ?_
    refine W.widen (k := 0) (n := 0) (Nat.le_of_ble_eq_true rfl) (Nat.le_of_ble_eq_true rfl) ?_
    exact W.iret (v := (-1)) hx hb hr (fun t ht hW => ⟨⟨(-1), (), rfl, rfl, trivial⟩, hS.F ht⟩) hS.2.2 dX11_way_13
set_option maxHeartbeats 4000000 in
set_option maxRecDepth 100000 in
theorem mX11_keeps (l : Launch) (dC : Nat → ClassId) (dI : Nat → Nat → Nat) (r : Nat → Nat) (k : Nat → ClassId) (p1 : Int32) (sz : Nat) : Met l yX11_keeps (Cond.code yX11_keeps cX11_keeps 2 (some .int) :: wA) ({ frames := 1, cells := 0, slots := 0, locals := 20 }) (va_Pc [.ref (r 0), .int p1] (fun U => U.heap.size = sz ∧ va_P (dC, dI) vwCl (wd_495 r k) U.heap ∧ va_K (dC, dI) vwCl [((k 0), .int), ((k 1), .int), ((k 2), .int)] U ∧ va_D (fun _ => True) (wd_495 r k))) (va_Qi (fun (r : Int32) (_ : Unit) => r = (-1)) (fun _ t => True) (va_A (wd_495 r k) sz)) 0 0 (va_A (wd_495 r k) sz) := by
  refine Met.ofW (cc := cX11_keeps) (maxL := 2) (ret := (some .int)) (by decide) rfl ?_
  intro p e s m args below meth c s₁ B hml hv
  obtain ⟨rfl, hsz, hP, hK, hD0⟩ := hv
  have hx := B.exec
  have hb := B.bytes
  have hr := B.returns
  have hts : ∀ w ∈ wA, w.before [.ref (r 0), .int p1].toArray s = true := fun w h => atoms_spec (ws := Cond.code yX11_keeps cX11_keeps 2 (some .int) :: wA) B.pre w (List.mem_cons_of_mem _ h)
  have hown : s.vm.findClass RX11 = some m.cls := findClass_of_methodNamed B.named
  have hlocks := B.notSynchronized
  subst hsz
  have hD := hD0.self (sz := s.heap.size)
  generalize hAe : va_A (wd_495 r k) s.heap.size = A at hD ⊢
  have hA : ∀ q : Nat, s.heap.size ≤ q → A q := fun q h => by rw [← hAe]; exact Or.inr h
  have hS : va_S A s.heap s.heap [] := va_S.rf
  have hl := lv_entry ([.ref (r 0), .int p1]) (n := 2) (Nat.le_of_ble_eq_true rfl)
  rw [lg_entry_eq]
  generalize (lg_sl ([.ref (r 0), .int p1]) ++ List.replicate (2 - (lg_sl ([.ref (r 0), .int p1])).length) Slot.unset).toArray = ls at hl ⊢
  have hl : lv_has ls 2 [(0, .ref (r 0)), (1, .int p1)] := hl
  refine lv_aload_n hx hb dX11_keeps_0 rfl (lv_at hl 0 rfl) ?_
  have hPc := hP.sub (ws' := (wd_495 r k)) [0, 1, 2, 3, 4, 5, 6, 7, 8, 9, 10, 11, 12, 13] rfl
  have hDc := hD.sub (ws' := (wd_495 r k)) [0, 1, 2, 3, 4, 5, 6, 7, 8, 9, 10, 11, 12, 13] (by decide) rfl
  have hKc := hK.sub (tys' := [((k 0), .int), ((k 1), .int), ((k 2), .int)]) [0, 1, 2] rfl
  have hFc := va_free (wc := (wd_495 r k)) hD hS hA [0, 1, 2, 3, 4, 5, 6, 7, 8, 9, 10, 11, 12, 13] rfl
  refine va_calli (va_runV (As := []) (rest := []) ⟨hx, hb, hml, hown, hts⟩ (c25_X11_ready l dC dI r k s.heap.size) (cwV 0 hts (gV q_313 q_314 q_315 q_257 q_312) rfl rfl rfl mdv_yX11_ready ⟨Nat.le_of_ble_eq_true rfl, Nat.le_of_ble_eq_true rfl⟩) ⟨fun a U g mk q => by obtain ⟨q0, q1, qP, qK, qD⟩ := q; exact ⟨q0, q1, qP, va_K.moved (u := U) (U := U.calling g mk a) (Vm.Alike.refl U.vm) qK, qD⟩, va_recv hKc hPc (ci := 11) (q0 := 0) rfl rfl, fun U hU hW => ⟨rfl, by rw [hU], by rw [hU]; exact hPc, va_K.moved hW.alike hKc, hDc.weaken (fun _ _ _ _ => trivial)⟩⟩ rfl rfl hl.1 rfl (lv_room (Nat.le_of_ble_eq_true rfl)) dX11_keeps_1 ⟨Nat.le_of_ble_eq_true rfl, Nat.le_of_ble_eq_true rfl⟩) hS (fun q _ h => hFc q h) hFc (fun r_720 u t H1 locs ht hvm hw hB hz1 hk1 hS => ?_)
  obtain ⟨hP1, hK1, hD1⟩ := hB
  rw [ht] at hP1
  have hK1 := va_K.moved hvm.symm hK1
  obtain ⟨hP, hD⟩ := va_join (wr := []) (w1 := (wd_495 r k)) hP hD [0, 1, 2, 3, 4, 5, 6, 7, 8, 9, 10, 11, 12, 13] [] rfl rfl (by decide) (by decide) hk1 hFc hP1 hD1
  generalize H1 = H at hP hS ⊢
  have hP : va_P (dC, dI) vwCl (wd_495 r k) H := hP
  have hD : va_D A (wd_495 r k) := hD
  obtain rfl : r_720 = 0 := hw
  refine lv_if_eq (tgt := 17) hx hb dX11_keeps_4 (by decide) (fun c_0 => ?_) (fun c_0 => absurd c_0 (by decide))
  refine lv_iconst (v := (-1)) hx hb dX11_keeps_17 (by decide) ?_
  refine W.widen (k := 0) (n := 0) (Nat.le_of_ble_eq_true rfl) (Nat.le_of_ble_eq_true rfl) ?_
  exact W.iret (v := (-1)) hx hb hr (fun t ht hW => ⟨⟨(-1), (), rfl, rfl, trivial⟩, hS.F ht⟩) hS.2.2 dX11_keeps_18
set_option maxHeartbeats 4000000 in
set_option maxRecDepth 100000 in
theorem mX11_retains (l : Launch) (dC : Nat → ClassId) (dI : Nat → Nat → Nat) (r : Nat → Nat) (k : Nat → ClassId) (p1 : Int32) (sz : Nat) : Met l yX11_retains (Cond.code yX11_retains cX11_retains 2 (some .int) :: wA) ({ frames := 3, cells := 0, slots := 0, locals := 62 }) (va_Pc [.ref (r 0), .int p1] (fun U => U.heap.size = sz ∧ va_P (dC, dI) vwCl (wd_495 r k) U.heap ∧ va_K (dC, dI) vwCl [((k 0), .int), ((k 1), .int), ((k 2), .int)] U ∧ va_D (fun _ => True) (wd_495 r k))) (va_Qi (fun (r : Int32) (_ : Unit) => r = (-1)) (fun _ t => True) (va_A (wd_495 r k) sz)) 0 0 (va_A (wd_495 r k) sz) := by
  refine Met.ofW (cc := cX11_retains) (maxL := 2) (ret := (some .int)) (by decide) rfl ?_
  intro p e s m args below meth c s₁ B hml hv
  obtain ⟨rfl, hsz, hP, hK, hD0⟩ := hv
  have hx := B.exec
  have hb := B.bytes
  have hr := B.returns
  have hts : ∀ w ∈ wA, w.before [.ref (r 0), .int p1].toArray s = true := fun w h => atoms_spec (ws := Cond.code yX11_retains cX11_retains 2 (some .int) :: wA) B.pre w (List.mem_cons_of_mem _ h)
  have hown : s.vm.findClass RX11 = some m.cls := findClass_of_methodNamed B.named
  have hlocks := B.notSynchronized
  subst hsz
  have hD := hD0.self (sz := s.heap.size)
  generalize hAe : va_A (wd_495 r k) s.heap.size = A at hD ⊢
  have hA : ∀ q : Nat, s.heap.size ≤ q → A q := fun q h => by rw [← hAe]; exact Or.inr h
  have hS : va_S A s.heap s.heap [] := va_S.rf
  have hl := lv_entry ([.ref (r 0), .int p1]) (n := 2) (Nat.le_of_ble_eq_true rfl)
  rw [lg_entry_eq]
  generalize (lg_sl ([.ref (r 0), .int p1]) ++ List.replicate (2 - (lg_sl ([.ref (r 0), .int p1])).length) Slot.unset).toArray = ls at hl ⊢
  have hl : lv_has ls 2 [(0, .ref (r 0)), (1, .int p1)] := hl
  refine lv_aload_n hx hb dX11_retains_0 rfl (lv_at hl 0 rfl) ?_
  refine lv_iload_n hx hb dX11_retains_1 rfl (lv_at hl 1 rfl) ?_
  have hPc := hP.sub (ws' := (wd_495 r k)) [0, 1, 2, 3, 4, 5, 6, 7, 8, 9, 10, 11, 12, 13] rfl
  have hDc := hD.sub (ws' := (wd_495 r k)) [0, 1, 2, 3, 4, 5, 6, 7, 8, 9, 10, 11, 12, 13] (by decide) rfl
  have hKc := hK.sub (tys' := [((k 0), .int), ((k 1), .int), ((k 2), .int)]) [0, 1, 2] rfl
  have hFc := va_free (wc := (wd_495 r k)) hD hS hA [0, 1, 2, 3, 4, 5, 6, 7, 8, 9, 10, 11, 12, 13] rfl
  refine va_calli (va_runV (As := [.int p1]) (rest := []) ⟨hx, hb, hml, hown, hts⟩ (c28_X11_inCell l dC dI r k p1 s.heap.size) (cwV 1 hts (gV q_322 q_323 q_324 q_257 q_317) rfl rfl rfl mdv_yX11_inCell ⟨Nat.le_of_ble_eq_true rfl, Nat.le_of_ble_eq_true rfl⟩) ⟨fun a U g mk q => by obtain ⟨q0, q1, qP, qK, qD⟩ := q; exact ⟨q0, q1, qP, va_K.moved (u := U) (U := U.calling g mk a) (Vm.Alike.refl U.vm) qK, qD⟩, va_recv hKc hPc (ci := 11) (q0 := 0) rfl rfl, fun U hU hW => ⟨rfl, by rw [hU], by rw [hU]; exact hPc, va_K.moved hW.alike hKc, hDc.weaken (fun _ _ _ _ => trivial)⟩⟩ rfl rfl hl.1 rfl (lv_room (Nat.le_of_ble_eq_true rfl)) dX11_retains_2 ⟨Nat.le_of_ble_eq_true rfl, Nat.le_of_ble_eq_true rfl⟩) hS (fun q _ h => hFc q h) hFc (fun r_722 u t H1 locs ht hvm hw hB hz1 hk1 hS => ?_)
  obtain ⟨hP1, hK1, hD1⟩ := hB
  rw [ht] at hP1
  have hK1 := va_K.moved hvm.symm hK1
  obtain ⟨hP, hD⟩ := va_join (wr := []) (w1 := (wd_495 r k)) hP hD [0, 1, 2, 3, 4, 5, 6, 7, 8, 9, 10, 11, 12, 13] [] rfl rfl (by decide) (by decide) hk1 hFc hP1 hD1
  generalize H1 = H at hP hS ⊢
  have hP : va_P (dC, dI) vwCl (wd_495 r k) H := hP
  have hD : va_D A (wd_495 r k) := hD
  obtain rfl : r_722 = 0 := hw
  refine lv_if_ne (tgt := 10) hx hb dX11_retains_5 (by decide) (fun c_0 => absurd c_0 (by decide)) (fun c_0 => ?_)
  refine lv_iconst (v := (-1)) hx hb dX11_retains_8 (by decide) ?_
  refine W.widen (k := 0) (n := 0) (Nat.le_of_ble_eq_true rfl) (Nat.le_of_ble_eq_true rfl) ?_
  exact W.iret (v := (-1)) hx hb hr (fun t ht hW => ⟨⟨(-1), (), rfl, rfl, trivial⟩, hS.F ht⟩) hS.2.2 dX11_retains_9
set_option maxHeartbeats 4000000 in
set_option maxRecDepth 100000 in
theorem mX11_best (l : Launch) (dC : Nat → ClassId) (dI : Nat → Nat → Nat) (r : Nat → Nat) (k : Nat → ClassId) (p1 : Int32) (sz : Nat) : Met l yX11_best (Cond.code yX11_best cX11_best 6 (some .int) :: wA) ({ frames := 1, cells := 0, slots := 0, locals := 20 }) (va_Pc [.ref (r 0), .int p1] (fun U => U.heap.size = sz ∧ va_P (dC, dI) vwCl (wd_495 r k) U.heap ∧ va_K (dC, dI) vwCl [((k 0), .int), ((k 1), .int), ((k 2), .int)] U ∧ va_D (fun _ => True) (wd_495 r k))) (va_Qi (fun (r : Int32) (_ : Unit) => r = (-1)) (fun _ t => True) (va_A (wd_495 r k) sz)) 0 0 (va_A (wd_495 r k) sz) := by
  refine Met.ofW (cc := cX11_best) (maxL := 6) (ret := (some .int)) (by decide) rfl ?_
  intro p e s m args below meth c s₁ B hml hv
  obtain ⟨rfl, hsz, hP, hK, hD0⟩ := hv
  have hx := B.exec
  have hb := B.bytes
  have hr := B.returns
  have hts : ∀ w ∈ wA, w.before [.ref (r 0), .int p1].toArray s = true := fun w h => atoms_spec (ws := Cond.code yX11_best cX11_best 6 (some .int) :: wA) B.pre w (List.mem_cons_of_mem _ h)
  have hown : s.vm.findClass RX11 = some m.cls := findClass_of_methodNamed B.named
  have hlocks := B.notSynchronized
  subst hsz
  have hD := hD0.self (sz := s.heap.size)
  generalize hAe : va_A (wd_495 r k) s.heap.size = A at hD ⊢
  have hA : ∀ q : Nat, s.heap.size ≤ q → A q := fun q h => by rw [← hAe]; exact Or.inr h
  have hS : va_S A s.heap s.heap [] := va_S.rf
  have hl := lv_entry ([.ref (r 0), .int p1]) (n := 6) (Nat.le_of_ble_eq_true rfl)
  rw [lg_entry_eq]
  generalize (lg_sl ([.ref (r 0), .int p1]) ++ List.replicate (6 - (lg_sl ([.ref (r 0), .int p1])).length) Slot.unset).toArray = ls at hl ⊢
  have hl : lv_has ls 6 [(0, .ref (r 0)), (1, .int p1)] := hl
  refine lv_aload_n hx hb dX11_best_0 rfl (lv_at hl 0 rfl) ?_
  have hPc := hP.sub (ws' := (wd_495 r k)) [0, 1, 2, 3, 4, 5, 6, 7, 8, 9, 10, 11, 12, 13] rfl
  have hDc := hD.sub (ws' := (wd_495 r k)) [0, 1, 2, 3, 4, 5, 6, 7, 8, 9, 10, 11, 12, 13] (by decide) rfl
  have hKc := hK.sub (tys' := [((k 0), .int), ((k 1), .int), ((k 2), .int)]) [0, 1, 2] rfl
  have hFc := va_free (wc := (wd_495 r k)) hD hS hA [0, 1, 2, 3, 4, 5, 6, 7, 8, 9, 10, 11, 12, 13] rfl
  refine va_calli (va_runV (As := []) (rest := []) ⟨hx, hb, hml, hown, hts⟩ (c25_X11_ready l dC dI r k s.heap.size) (cwV 0 hts (gV q_313 q_314 q_315 q_257 q_312) rfl rfl rfl mdv_yX11_ready ⟨Nat.le_of_ble_eq_true rfl, Nat.le_of_ble_eq_true rfl⟩) ⟨fun a U g mk q => by obtain ⟨q0, q1, qP, qK, qD⟩ := q; exact ⟨q0, q1, qP, va_K.moved (u := U) (U := U.calling g mk a) (Vm.Alike.refl U.vm) qK, qD⟩, va_recv hKc hPc (ci := 11) (q0 := 0) rfl rfl, fun U hU hW => ⟨rfl, by rw [hU], by rw [hU]; exact hPc, va_K.moved hW.alike hKc, hDc.weaken (fun _ _ _ _ => trivial)⟩⟩ rfl rfl hl.1 rfl (lv_room (Nat.le_of_ble_eq_true rfl)) dX11_best_1 ⟨Nat.le_of_ble_eq_true rfl, Nat.le_of_ble_eq_true rfl⟩) hS (fun q _ h => hFc q h) hFc (fun r_724 u t H1 locs ht hvm hw hB hz1 hk1 hS => ?_)
  obtain ⟨hP1, hK1, hD1⟩ := hB
  rw [ht] at hP1
  have hK1 := va_K.moved hvm.symm hK1
  obtain ⟨hP, hD⟩ := va_join (wr := []) (w1 := (wd_495 r k)) hP hD [0, 1, 2, 3, 4, 5, 6, 7, 8, 9, 10, 11, 12, 13] [] rfl rfl (by decide) (by decide) hk1 hFc hP1 hD1
  generalize H1 = H at hP hS ⊢
  have hP : va_P (dC, dI) vwCl (wd_495 r k) H := hP
  have hD : va_D A (wd_495 r k) := hD
  obtain rfl : r_724 = 0 := hw
  refine lv_if_eq (tgt := 16) hx hb dX11_best_4 (by decide) (fun c_0 => ?_) (fun c_0 => absurd c_0 (by decide))
  refine lv_iconst (v := (-1)) hx hb dX11_best_16 (by decide) ?_
  refine W.widen (k := 0) (n := 0) (Nat.le_of_ble_eq_true rfl) (Nat.le_of_ble_eq_true rfl) ?_
  exact W.iret (v := (-1)) hx hb hr (fun t ht hW => ⟨⟨(-1), (), rfl, rfl, trivial⟩, hS.F ht⟩) hS.2.2 dX11_best_17
set_option maxHeartbeats 4000000 in
set_option maxRecDepth 100000 in
theorem mX11_found (l : Launch) (dC : Nat → ClassId) (dI : Nat → Nat → Nat) (r : Nat → Nat) (k : Nat → ClassId) (p1 : Int32) (sz : Nat) : Met l yX11_found (Cond.code yX11_found cX11_found 2 (some .int) :: wA) ({ frames := 1, cells := 0, slots := 0, locals := 20 }) (va_Pc [.ref (r 0), .int p1] (fun U => U.heap.size = sz ∧ va_P (dC, dI) vwCl (wd_495 r k) U.heap ∧ va_K (dC, dI) vwCl [((k 0), .int), ((k 1), .int), ((k 2), .int)] U ∧ va_D (fun _ => True) (wd_495 r k))) (va_Qi (fun (r : Int32) (_ : Unit) => r = (-1)) (fun _ t => True) (va_A (wd_495 r k) sz)) 0 0 (va_A (wd_495 r k) sz) := by
  refine Met.ofW (cc := cX11_found) (maxL := 2) (ret := (some .int)) (by decide) rfl ?_
  intro p e s m args below meth c s₁ B hml hv
  obtain ⟨rfl, hsz, hP, hK, hD0⟩ := hv
  have hx := B.exec
  have hb := B.bytes
  have hr := B.returns
  have hts : ∀ w ∈ wA, w.before [.ref (r 0), .int p1].toArray s = true := fun w h => atoms_spec (ws := Cond.code yX11_found cX11_found 2 (some .int) :: wA) B.pre w (List.mem_cons_of_mem _ h)
  have hown : s.vm.findClass RX11 = some m.cls := findClass_of_methodNamed B.named
  have hlocks := B.notSynchronized
  subst hsz
  have hD := hD0.self (sz := s.heap.size)
  generalize hAe : va_A (wd_495 r k) s.heap.size = A at hD ⊢
  have hA : ∀ q : Nat, s.heap.size ≤ q → A q := fun q h => by rw [← hAe]; exact Or.inr h
  have hS : va_S A s.heap s.heap [] := va_S.rf
  have hl := lv_entry ([.ref (r 0), .int p1]) (n := 2) (Nat.le_of_ble_eq_true rfl)
  rw [lg_entry_eq]
  generalize (lg_sl ([.ref (r 0), .int p1]) ++ List.replicate (2 - (lg_sl ([.ref (r 0), .int p1])).length) Slot.unset).toArray = ls at hl ⊢
  have hl : lv_has ls 2 [(0, .ref (r 0)), (1, .int p1)] := hl
  refine lv_aload_n hx hb dX11_found_0 rfl (lv_at hl 0 rfl) ?_
  have hPc := hP.sub (ws' := (wd_495 r k)) [0, 1, 2, 3, 4, 5, 6, 7, 8, 9, 10, 11, 12, 13] rfl
  have hDc := hD.sub (ws' := (wd_495 r k)) [0, 1, 2, 3, 4, 5, 6, 7, 8, 9, 10, 11, 12, 13] (by decide) rfl
  have hKc := hK.sub (tys' := [((k 0), .int), ((k 1), .int), ((k 2), .int)]) [0, 1, 2] rfl
  have hFc := va_free (wc := (wd_495 r k)) hD hS hA [0, 1, 2, 3, 4, 5, 6, 7, 8, 9, 10, 11, 12, 13] rfl
  refine va_calli (va_runV (As := []) (rest := []) ⟨hx, hb, hml, hown, hts⟩ (c25_X11_ready l dC dI r k s.heap.size) (cwV 0 hts (gV q_313 q_314 q_315 q_257 q_312) rfl rfl rfl mdv_yX11_ready ⟨Nat.le_of_ble_eq_true rfl, Nat.le_of_ble_eq_true rfl⟩) ⟨fun a U g mk q => by obtain ⟨q0, q1, qP, qK, qD⟩ := q; exact ⟨q0, q1, qP, va_K.moved (u := U) (U := U.calling g mk a) (Vm.Alike.refl U.vm) qK, qD⟩, va_recv hKc hPc (ci := 11) (q0 := 0) rfl rfl, fun U hU hW => ⟨rfl, by rw [hU], by rw [hU]; exact hPc, va_K.moved hW.alike hKc, hDc.weaken (fun _ _ _ _ => trivial)⟩⟩ rfl rfl hl.1 rfl (lv_room (Nat.le_of_ble_eq_true rfl)) dX11_found_1 ⟨Nat.le_of_ble_eq_true rfl, Nat.le_of_ble_eq_true rfl⟩) hS (fun q _ h => hFc q h) hFc (fun r_726 u t H1 locs ht hvm hw hB hz1 hk1 hS => ?_)
  obtain ⟨hP1, hK1, hD1⟩ := hB
  rw [ht] at hP1
  have hK1 := va_K.moved hvm.symm hK1
  obtain ⟨hP, hD⟩ := va_join (wr := []) (w1 := (wd_495 r k)) hP hD [0, 1, 2, 3, 4, 5, 6, 7, 8, 9, 10, 11, 12, 13] [] rfl rfl (by decide) (by decide) hk1 hFc hP1 hD1
  generalize H1 = H at hP hS ⊢
  have hP : va_P (dC, dI) vwCl (wd_495 r k) H := hP
  have hD : va_D A (wd_495 r k) := hD
  obtain rfl : r_726 = 0 := hw
  refine lv_if_ne (tgt := 9) hx hb dX11_found_4 (by decide) (fun c_0 => absurd c_0 (by decide)) (fun c_0 => ?_)
  refine lv_iconst (v := (-1)) hx hb dX11_found_7 (by decide) ?_
  refine W.widen (k := 0) (n := 0) (Nat.le_of_ble_eq_true rfl) (Nat.le_of_ble_eq_true rfl) ?_
  exact W.iret (v := (-1)) hx hb hr (fun t ht hW => ⟨⟨(-1), (), rfl, rfl, trivial⟩, hS.F ht⟩) hS.2.2 dX11_found_8
def wd_621 (r : Nat → Nat) (k : Nat → ClassId) (f730 : Nat → Int32) : va_W := [((r 0), .inr (11, [.ref (r 1), .ref (r 2), .ref (r 3), .ref (r 4), .ref (r 5), .ref (r 6), .ref (r 7), .ref (r 8), .ref (r 9), .ref (r 10), .ref (r 11), .ref (r 12), .ref (r 13), .ref (r 14), .ref (r 15), .int 0, .int 0, .ref (r 16), .int (-1), .ref (r 17)])), ((r 1), .inr (10, [.ref (r 18), .int 0, .int 0, .int 0, .int (-1), .int (-1), .long 0, .int 0, .int 0, .int (-1)])), ((r 18), .inl ((k 0), 1600, .inl (fun _ => 0))), ((r 14), .inl ((k 1), 7, .inl f730)), ((r 4), .inr (8, [.int 0, .int 0, .int 0, .ref (r 19), .int 0, .int 0, .ref (r 20), .int 0, .int 0, .int 0, .int 0, .int 0, .int 0, .ref (r 21)])), ((r 2), .inr (2, [.int 0, .ref (r 22), .ref (r 23), .ref (r 24)])), ((r 3), .inr (2, [.int 0, .ref (r 25), .ref (r 26), .ref (r 27)])), ((r 5), .inr (8, [.int 0, .int 0, .int 0, .ref (r 28), .int 0, .int 0, .ref (r 29), .int 0, .int 0, .int 0, .int 0, .int 0, .int 0, .ref (r 30)])), ((r 28), .inl ((k 2), 168, .inl (fun _ => 0))), ((r 8), .inr (1, [.ref (r 1), .ref (r 3), .ref (r 5), .ref (r 31), .ref (r 32), .int 0, .int 0, .int 3047])), ((r 10), .inr (5, [.ref (r 4), .ref (r 2), .ref (r 7), .ref (r 9), .ref (r 33), .ref (r 34), .int 0, .int 0, .int 0, .int 0, .int (-1)])), ((r 11), .inr (0, [.ref (r 2), .ref (r 7), .long 1])), ((r 12), .inr (6, [.ref (r 7), .ref (r 35), .ref (r 36), .ref (r 37), .int 0, .ref (r 38), .int 0, .int (-1), .int (-1), .null, .null])), ((r 13), .inr (3, [.ref (r 2), .ref (r 39), .int 0]))]
def wd_622 (r : Nat → Nat) (k : Nat → ClassId) (f733 : Nat → Int32) : va_W := [((r 0), .inr (11, [.ref (r 1), .ref (r 2), .ref (r 3), .ref (r 4), .ref (r 5), .ref (r 6), .ref (r 7), .ref (r 8), .ref (r 9), .ref (r 10), .ref (r 11), .ref (r 12), .ref (r 13), .ref (r 14), .ref (r 15), .int 0, .int 0, .ref (r 16), .int (-1), .ref (r 17)])), ((r 1), .inr (10, [.ref (r 18), .int 0, .int 0, .int 0, .int (-1), .int (-1), .long 0, .int 0, .int 0, .int (-1)])), ((r 18), .inl ((k 0), 1600, .inl (fun _ => 0))), ((r 14), .inl ((k 1), 7, .inl f733)), ((r 4), .inr (8, [.int 0, .int 0, .int 0, .ref (r 19), .int 0, .int 0, .ref (r 20), .int 0, .int 0, .int 0, .int 0, .int 0, .int 0, .ref (r 21)])), ((r 2), .inr (2, [.int 0, .ref (r 22), .ref (r 23), .ref (r 24)])), ((r 3), .inr (2, [.int 0, .ref (r 25), .ref (r 26), .ref (r 27)])), ((r 5), .inr (8, [.int 0, .int 0, .int 0, .ref (r 28), .int 0, .int 0, .ref (r 29), .int 0, .int 0, .int 0, .int 0, .int 0, .int 0, .ref (r 30)])), ((r 28), .inl ((k 2), 168, .inl (fun _ => 0))), ((r 8), .inr (1, [.ref (r 1), .ref (r 3), .ref (r 5), .ref (r 31), .ref (r 32), .int 0, .int 0, .int 3047])), ((r 10), .inr (5, [.ref (r 4), .ref (r 2), .ref (r 7), .ref (r 9), .ref (r 33), .ref (r 34), .int 0, .int 0, .int 0, .int 0, .int (-1)])), ((r 11), .inr (0, [.ref (r 2), .ref (r 7), .long 1])), ((r 12), .inr (6, [.ref (r 7), .ref (r 35), .ref (r 36), .ref (r 37), .int 0, .ref (r 38), .int 0, .int (-1), .int (-1), .null, .null])), ((r 13), .inr (3, [.ref (r 2), .ref (r 39), .int 0]))]
set_option maxHeartbeats 4000000 in
set_option maxRecDepth 100000 in
theorem c44_X11_refuse (l : Launch) (dC : Nat → ClassId) (dI : Nat → Nat → Nat) (r : Nat → Nat) (k : Nat → ClassId) (sz : Nat) : Met l yX11_refuse (Cond.code yX11_refuse cX11_refuse 2 (some .int) :: wA) ({ frames := 0, cells := 0, slots := 0, locals := 0 }) (va_Pc [.ref (r 0), .int 2] (fun U => U.heap.size = sz ∧ va_P (dC, dI) vwCl (wd_495 r k) U.heap ∧ va_K (dC, dI) vwCl [((k 0), .int), ((k 1), .int), ((k 2), .int)] U ∧ va_D (fun _ => True) (wd_495 r k))) (va_Qi (fun (r : Int32) (_ : Unit) => r = (-1)) (fun _ t => ∃ f733 : Nat → Int32, va_P (dC, dI) vwCl (wd_622 r k f733) t.heap ∧ va_K (dC, dI) vwCl [((k 0), .int), ((k 1), .int), ((k 2), .int)] t ∧ va_D (va_A (wd_495 r k) sz) (wd_622 r k f733)) (va_A (wd_495 r k) sz)) 0 0 (va_A (wd_495 r k) sz) := by
  refine Met.ofW (cc := cX11_refuse) (maxL := 2) (ret := (some .int)) (by decide) rfl ?_
  intro p e s m args below meth c s₁ B hml hv
  obtain ⟨rfl, hsz, hP, hK, hD0⟩ := hv
  have hx := B.exec
  have hb := B.bytes
  have hr := B.returns
  have hts : ∀ w ∈ wA, w.before [.ref (r 0), .int 2].toArray s = true := fun w h => atoms_spec (ws := Cond.code yX11_refuse cX11_refuse 2 (some .int) :: wA) B.pre w (List.mem_cons_of_mem _ h)
  have hown : s.vm.findClass RX11 = some m.cls := findClass_of_methodNamed B.named
  have hlocks := B.notSynchronized
  subst hsz
  have hD := hD0.self (sz := s.heap.size)
  generalize hAe : va_A (wd_495 r k) s.heap.size = A at hD ⊢
  have hA : ∀ q : Nat, s.heap.size ≤ q → A q := fun q h => by rw [← hAe]; exact Or.inr h
  have hS : va_S A s.heap s.heap [] := va_S.rf
  have hl := lv_entry ([.ref (r 0), .int 2]) (n := 2) (Nat.le_of_ble_eq_true rfl)
  rw [lg_entry_eq]
  generalize (lg_sl ([.ref (r 0), .int 2]) ++ List.replicate (2 - (lg_sl ([.ref (r 0), .int 2])).length) Slot.unset).toArray = ls at hl ⊢
  have hl : lv_has ls 2 [(0, .ref (r 0)), (1, .int 2)] := hl
  refine lv_aload_n hx hb dX11_refuse_0 rfl (lv_at hl 0 rfl) ?_
  refine va_get (D := (dC, dI)) (ci := 11) (v := .ref (r 14)) (C := RX11) (T := TX11) (N := 20) hx hb hts i_X11 hown hK hP 0 rfl rfl 13 (by decide) (hts _ q_178) (fun _ h9 => h9) rfl dX11_refuse_1 ?_
  refine lv_iload_n hx hb dX11_refuse_4 rfl (lv_at hl 1 rfl) ?_
  refine lv_dup2_11 hx hb dX11_refuse_5 rfl rfl ?_
  refine va_iald hx hb hK hP 3 1 rfl rfl (vpi (by decide)) dX11_refuse_6 ?_
  refine lv_topi (fun x_731 ex_731 => ?_)
  obtain rfl : x_731 = 0 := ex_731
  refine lv_iconst (v := 1) hx hb dX11_refuse_7 (by decide) ?_
  refine lv_iadd hx hb dX11_refuse_8 ?_
  refine lv_topi (fun x_732 ex_732 => ?_)
  obtain rfl : x_732 = 1 := ex_732.trans (by decide)
  refine va_iast hx hb hK hP hD hS 3 1 rfl rfl (vpi (by decide)) dX11_refuse_9 (fun H locs hP hD hS => ?_)
  obtain ⟨f733, hP, hD⟩ : ∃ f : Nat → Int32, va_P (dC, dI) vwCl (wd_590 r k f) H ∧ va_D A (wd_590 r k f) := ⟨_, hP, hD⟩
  have hP : va_P (dC, dI) vwCl (wd_622 r k f733) H := hP
  have hD : va_D A (wd_622 r k f733) := hD
  refine lv_iconst (v := (-1)) hx hb dX11_refuse_10 (by decide) ?_
  refine W.widen (k := 0) (n := 0) (Nat.le_of_ble_eq_true rfl) (Nat.le_of_ble_eq_true rfl) ?_
  have hP9 := hP.sub (ws' := (wd_622 r k f733)) [0, 1, 2, 3, 4, 5, 6, 7, 8, 9, 10, 11, 12, 13] rfl
  have hD9 := hD.sub (ws' := (wd_622 r k f733)) [0, 1, 2, 3, 4, 5, 6, 7, 8, 9, 10, 11, 12, 13] (by decide) rfl
  have hK9 := hK.sub (tys' := [((k 0), .int), ((k 1), .int), ((k 2), .int)]) [0, 1, 2] rfl
  exact W.iret (v := (-1)) hx hb hr (fun t ht hW => ⟨⟨(-1), (), rfl, rfl, f733, by rw [ht]; exact hP9, va_K.moved hW.alike hK9, hD9⟩, hS.F ht⟩) hS.2.2 dX11_refuse_11
def wd_623 (r : Nat → Nat) (k : Nat → ClassId) (f735 : Nat → Int32) : va_W := [((r 0), .inr (11, [.ref (r 1), .ref (r 2), .ref (r 3), .ref (r 4), .ref (r 5), .ref (r 6), .ref (r 7), .ref (r 8), .ref (r 9), .ref (r 10), .ref (r 11), .ref (r 12), .ref (r 13), .ref (r 14), .ref (r 15), .int 0, .int 0, .ref (r 16), .int (-1), .ref (r 17)])), ((r 1), .inr (10, [.ref (r 18), .int 0, .int 0, .int 0, .int (-1), .int (-1), .long 0, .int 0, .int 0, .int (-1)])), ((r 18), .inl ((k 0), 1600, .inl (fun _ => 0))), ((r 14), .inl ((k 1), 7, .inl f735)), ((r 4), .inr (8, [.int 0, .int 0, .int 0, .ref (r 19), .int 0, .int 0, .ref (r 20), .int 0, .int 0, .int 0, .int 0, .int 0, .int 0, .ref (r 21)])), ((r 2), .inr (2, [.int 0, .ref (r 22), .ref (r 23), .ref (r 24)])), ((r 3), .inr (2, [.int 0, .ref (r 25), .ref (r 26), .ref (r 27)])), ((r 5), .inr (8, [.int 0, .int 0, .int 0, .ref (r 28), .int 0, .int 0, .ref (r 29), .int 0, .int 0, .int 0, .int 0, .int 0, .int 0, .ref (r 30)])), ((r 28), .inl ((k 2), 168, .inl (fun _ => 0))), ((r 8), .inr (1, [.ref (r 1), .ref (r 3), .ref (r 5), .ref (r 31), .ref (r 32), .int 0, .int 0, .int 3047])), ((r 10), .inr (5, [.ref (r 4), .ref (r 2), .ref (r 7), .ref (r 9), .ref (r 33), .ref (r 34), .int 0, .int 0, .int 0, .int 0, .int (-1)])), ((r 11), .inr (0, [.ref (r 2), .ref (r 7), .long 1])), ((r 12), .inr (6, [.ref (r 7), .ref (r 35), .ref (r 36), .ref (r 37), .int 0, .ref (r 38), .int 0, .int (-1), .int (-1), .null, .null])), ((r 13), .inr (3, [.ref (r 2), .ref (r 39), .int 0]))]
def wd_624 (r : Nat → Nat) (k : Nat → ClassId) (f738 : Nat → Int32) : va_W := [((r 0), .inr (11, [.ref (r 1), .ref (r 2), .ref (r 3), .ref (r 4), .ref (r 5), .ref (r 6), .ref (r 7), .ref (r 8), .ref (r 9), .ref (r 10), .ref (r 11), .ref (r 12), .ref (r 13), .ref (r 14), .ref (r 15), .int 0, .int 0, .ref (r 16), .int (-1), .ref (r 17)])), ((r 1), .inr (10, [.ref (r 18), .int 0, .int 0, .int 0, .int (-1), .int (-1), .long 0, .int 0, .int 0, .int (-1)])), ((r 18), .inl ((k 0), 1600, .inl (fun _ => 0))), ((r 14), .inl ((k 1), 7, .inl f738)), ((r 4), .inr (8, [.int 0, .int 0, .int 0, .ref (r 19), .int 0, .int 0, .ref (r 20), .int 0, .int 0, .int 0, .int 0, .int 0, .int 0, .ref (r 21)])), ((r 2), .inr (2, [.int 0, .ref (r 22), .ref (r 23), .ref (r 24)])), ((r 3), .inr (2, [.int 0, .ref (r 25), .ref (r 26), .ref (r 27)])), ((r 5), .inr (8, [.int 0, .int 0, .int 0, .ref (r 28), .int 0, .int 0, .ref (r 29), .int 0, .int 0, .int 0, .int 0, .int 0, .int 0, .ref (r 30)])), ((r 28), .inl ((k 2), 168, .inl (fun _ => 0))), ((r 8), .inr (1, [.ref (r 1), .ref (r 3), .ref (r 5), .ref (r 31), .ref (r 32), .int 0, .int 0, .int 3047])), ((r 10), .inr (5, [.ref (r 4), .ref (r 2), .ref (r 7), .ref (r 9), .ref (r 33), .ref (r 34), .int 0, .int 0, .int 0, .int 0, .int (-1)])), ((r 11), .inr (0, [.ref (r 2), .ref (r 7), .long 1])), ((r 12), .inr (6, [.ref (r 7), .ref (r 35), .ref (r 36), .ref (r 37), .int 0, .ref (r 38), .int 0, .int (-1), .int (-1), .null, .null])), ((r 13), .inr (3, [.ref (r 2), .ref (r 39), .int 0]))]
set_option maxHeartbeats 4000000 in
set_option maxRecDepth 100000 in
theorem mX11_remember (l : Launch) (dC : Nat → ClassId) (dI : Nat → Nat → Nat) (r : Nat → Nat) (k : Nat → ClassId) (sz : Nat) : Met l yX11_remember (Cond.code yX11_remember cX11_remember 1 (some .int) :: wA) ({ frames := 1, cells := 0, slots := 0, locals := 21 }) (va_Pc [.ref (r 0)] (fun U => U.heap.size = sz ∧ va_P (dC, dI) vwCl (wd_495 r k) U.heap ∧ va_K (dC, dI) vwCl [((k 0), .int), ((k 1), .int), ((k 2), .int)] U ∧ va_D (fun _ => True) (wd_495 r k))) (va_Qi (fun (r : Int32) (_ : Unit) => r = (-1)) (fun _ t => True) (va_A (wd_495 r k) sz)) 0 0 (va_A (wd_495 r k) sz) := by
  refine Met.ofW (cc := cX11_remember) (maxL := 1) (ret := (some .int)) (by decide) rfl ?_
  intro p e s m args below meth c s₁ B hml hv
  obtain ⟨rfl, hsz, hP, hK, hD0⟩ := hv
  have hx := B.exec
  have hb := B.bytes
  have hr := B.returns
  have hts : ∀ w ∈ wA, w.before [.ref (r 0)].toArray s = true := fun w h => atoms_spec (ws := Cond.code yX11_remember cX11_remember 1 (some .int) :: wA) B.pre w (List.mem_cons_of_mem _ h)
  have hown : s.vm.findClass RX11 = some m.cls := findClass_of_methodNamed B.named
  have hlocks := B.notSynchronized
  subst hsz
  have hD := hD0.self (sz := s.heap.size)
  generalize hAe : va_A (wd_495 r k) s.heap.size = A at hD ⊢
  have hA : ∀ q : Nat, s.heap.size ≤ q → A q := fun q h => by rw [← hAe]; exact Or.inr h
  have hS : va_S A s.heap s.heap [] := va_S.rf
  have hl := lv_entry ([.ref (r 0)]) (n := 1) (Nat.le_of_ble_eq_true rfl)
  rw [lg_entry_eq]
  generalize (lg_sl ([.ref (r 0)]) ++ List.replicate (1 - (lg_sl ([.ref (r 0)])).length) Slot.unset).toArray = ls at hl ⊢
  have hl : lv_has ls 1 [(0, .ref (r 0))] := hl
  refine lv_aload_n hx hb dX11_remember_0 rfl (lv_at hl 0 rfl) ?_
  have hPc := hP.sub (ws' := (wd_495 r k)) [0, 1, 2, 3, 4, 5, 6, 7, 8, 9, 10, 11, 12, 13] rfl
  have hDc := hD.sub (ws' := (wd_495 r k)) [0, 1, 2, 3, 4, 5, 6, 7, 8, 9, 10, 11, 12, 13] (by decide) rfl
  have hKc := hK.sub (tys' := [((k 0), .int), ((k 1), .int), ((k 2), .int)]) [0, 1, 2] rfl
  have hFc := va_free (wc := (wd_495 r k)) hD hS hA [0, 1, 2, 3, 4, 5, 6, 7, 8, 9, 10, 11, 12, 13] rfl
  refine va_calli (va_runV (As := []) (rest := []) ⟨hx, hb, hml, hown, hts⟩ (c25_X11_ready l dC dI r k s.heap.size) (cwV 0 hts (gV q_313 q_314 q_315 q_257 q_312) rfl rfl rfl mdv_yX11_ready ⟨Nat.le_of_ble_eq_true rfl, Nat.le_of_ble_eq_true rfl⟩) ⟨fun a U g mk q => by obtain ⟨q0, q1, qP, qK, qD⟩ := q; exact ⟨q0, q1, qP, va_K.moved (u := U) (U := U.calling g mk a) (Vm.Alike.refl U.vm) qK, qD⟩, va_recv hKc hPc (ci := 11) (q0 := 0) rfl rfl, fun U hU hW => ⟨rfl, by rw [hU], by rw [hU]; exact hPc, va_K.moved hW.alike hKc, hDc.weaken (fun _ _ _ _ => trivial)⟩⟩ rfl rfl hl.1 rfl (lv_room (Nat.le_of_ble_eq_true rfl)) dX11_remember_1 ⟨Nat.le_of_ble_eq_true rfl, Nat.le_of_ble_eq_true rfl⟩) hS (fun q _ h => hFc q h) hFc (fun r_736 u t H1 locs ht hvm hw hB hz1 hk1 hS => ?_)
  obtain ⟨hP1, hK1, hD1⟩ := hB
  rw [ht] at hP1
  have hK1 := va_K.moved hvm.symm hK1
  obtain ⟨hP, hD⟩ := va_join (wr := []) (w1 := (wd_495 r k)) hP hD [0, 1, 2, 3, 4, 5, 6, 7, 8, 9, 10, 11, 12, 13] [] rfl rfl (by decide) (by decide) hk1 hFc hP1 hD1
  generalize H1 = H at hP hS ⊢
  have hP : va_P (dC, dI) vwCl (wd_495 r k) H := hP
  have hD : va_D A (wd_495 r k) := hD
  obtain rfl : r_736 = 0 := hw
  refine lv_if_ne (tgt := 13) hx hb dX11_remember_4 (by decide) (fun c_0 => absurd c_0 (by decide)) (fun c_0 => ?_)
  refine lv_aload_n hx hb dX11_remember_7 rfl (lv_at hl 0 rfl) ?_
  refine lv_iconst (v := 2) hx hb dX11_remember_8 (by decide) ?_
  have hPc := hP.sub (ws' := (wd_495 r k)) [0, 1, 2, 3, 4, 5, 6, 7, 8, 9, 10, 11, 12, 13] rfl
  have hDc := hD.sub (ws' := (wd_495 r k)) [0, 1, 2, 3, 4, 5, 6, 7, 8, 9, 10, 11, 12, 13] (by decide) rfl
  have hKc := hK.sub (tys' := [((k 0), .int), ((k 1), .int), ((k 2), .int)]) [0, 1, 2] rfl
  have hFc := va_free (wc := (wd_495 r k)) hD hS hA [0, 1, 2, 3, 4, 5, 6, 7, 8, 9, 10, 11, 12, 13] rfl
  refine va_calli (va_runV (As := [.int 2]) (rest := []) ⟨hx, hb, hml, hown, hts⟩ (c44_X11_refuse l dC dI r k H.size) (cwV 1 hts (gV q_286 q_287 q_288 q_257 q_285) rfl rfl rfl mdv_yX11_refuse ⟨Nat.le_of_ble_eq_true rfl, Nat.le_of_ble_eq_true rfl⟩) ⟨fun a U g mk q => by obtain ⟨q0, q1, qP, qK, qD⟩ := q; exact ⟨q0, q1, qP, va_K.moved (u := U) (U := U.calling g mk a) (Vm.Alike.refl U.vm) qK, qD⟩, va_recv hKc hPc (ci := 11) (q0 := 0) rfl rfl, fun U hU hW => ⟨rfl, by rw [hU], by rw [hU]; exact hPc, va_K.moved hW.alike hKc, hDc.weaken (fun _ _ _ _ => trivial)⟩⟩ rfl rfl hl.1 rfl (lv_room (Nat.le_of_ble_eq_true rfl)) dX11_remember_9 ⟨Nat.le_of_ble_eq_true rfl, Nat.le_of_ble_eq_true rfl⟩) hS (fun q _ h => hFc q h) hFc (fun r_737 u t H1 locs ht hvm hw hB hz1 hk1 hS => ?_)
  obtain ⟨f738, hP1, hK1, hD1⟩ := hB
  rw [ht] at hP1
  have hK1 := va_K.moved hvm.symm hK1
  obtain ⟨hP, hD⟩ := va_join (wr := []) (w1 := (wd_624 r k f738)) hP hD [0, 1, 2, 3, 4, 5, 6, 7, 8, 9, 10, 11, 12, 13] [] rfl rfl (by decide) (by decide) hk1 hFc hP1 hD1
  have hK := (hK.sub (tys' := []) [] rfl).app hK1
  have hK : va_K (dC, dI) vwCl [((k 0), .int), ((k 1), .int), ((k 2), .int)] s := hK
  generalize H1 = H at hP hS ⊢
  have hP : va_P (dC, dI) vwCl (wd_624 r k f738) H := hP
  have hD : va_D A (wd_624 r k f738) := hD
  obtain rfl : r_737 = (-1) := hw
  refine W.widen (k := 0) (n := 0) (Nat.le_of_ble_eq_true rfl) (Nat.le_of_ble_eq_true rfl) ?_
  exact W.iret (v := (-1)) hx hb hr (fun t ht hW => ⟨⟨(-1), (), rfl, rfl, trivial⟩, hS.F ht⟩) hS.2.2 dX11_remember_12
set_option maxHeartbeats 4000000 in
set_option maxRecDepth 100000 in
theorem mX11_alike (l : Launch) (dC : Nat → ClassId) (dI : Nat → Nat → Nat) (r : Nat → Nat) (k : Nat → ClassId) (sz : Nat) : Met l yX11_alike (Cond.code yX11_alike cX11_alike 2 (some .int) :: wA) ({ frames := 1, cells := 0, slots := 0, locals := 20 }) (va_Pc [.ref (r 0)] (fun U => U.heap.size = sz ∧ va_P (dC, dI) vwCl (wd_495 r k) U.heap ∧ va_K (dC, dI) vwCl [((k 0), .int), ((k 1), .int), ((k 2), .int)] U ∧ va_D (fun _ => True) (wd_495 r k))) (va_Qi (fun (r : Int32) (_ : Unit) => r = (-1)) (fun _ t => True) (va_A (wd_495 r k) sz)) 0 0 (va_A (wd_495 r k) sz) := by
  refine Met.ofW (cc := cX11_alike) (maxL := 2) (ret := (some .int)) (by decide) rfl ?_
  intro p e s m args below meth c s₁ B hml hv
  obtain ⟨rfl, hsz, hP, hK, hD0⟩ := hv
  have hx := B.exec
  have hb := B.bytes
  have hr := B.returns
  have hts : ∀ w ∈ wA, w.before [.ref (r 0)].toArray s = true := fun w h => atoms_spec (ws := Cond.code yX11_alike cX11_alike 2 (some .int) :: wA) B.pre w (List.mem_cons_of_mem _ h)
  have hown : s.vm.findClass RX11 = some m.cls := findClass_of_methodNamed B.named
  have hlocks := B.notSynchronized
  subst hsz
  have hD := hD0.self (sz := s.heap.size)
  generalize hAe : va_A (wd_495 r k) s.heap.size = A at hD ⊢
  have hA : ∀ q : Nat, s.heap.size ≤ q → A q := fun q h => by rw [← hAe]; exact Or.inr h
  have hS : va_S A s.heap s.heap [] := va_S.rf
  have hl := lv_entry ([.ref (r 0)]) (n := 2) (Nat.le_of_ble_eq_true rfl)
  rw [lg_entry_eq]
  generalize (lg_sl ([.ref (r 0)]) ++ List.replicate (2 - (lg_sl ([.ref (r 0)])).length) Slot.unset).toArray = ls at hl ⊢
  have hl : lv_has ls 2 [(0, .ref (r 0))] := hl
  refine lv_aload_n hx hb dX11_alike_0 rfl (lv_at hl 0 rfl) ?_
  have hPc := hP.sub (ws' := (wd_495 r k)) [0, 1, 2, 3, 4, 5, 6, 7, 8, 9, 10, 11, 12, 13] rfl
  have hDc := hD.sub (ws' := (wd_495 r k)) [0, 1, 2, 3, 4, 5, 6, 7, 8, 9, 10, 11, 12, 13] (by decide) rfl
  have hKc := hK.sub (tys' := [((k 0), .int), ((k 1), .int), ((k 2), .int)]) [0, 1, 2] rfl
  have hFc := va_free (wc := (wd_495 r k)) hD hS hA [0, 1, 2, 3, 4, 5, 6, 7, 8, 9, 10, 11, 12, 13] rfl
  refine va_calli (va_runV (As := []) (rest := []) ⟨hx, hb, hml, hown, hts⟩ (c25_X11_ready l dC dI r k s.heap.size) (cwV 0 hts (gV q_313 q_314 q_315 q_257 q_312) rfl rfl rfl mdv_yX11_ready ⟨Nat.le_of_ble_eq_true rfl, Nat.le_of_ble_eq_true rfl⟩) ⟨fun a U g mk q => by obtain ⟨q0, q1, qP, qK, qD⟩ := q; exact ⟨q0, q1, qP, va_K.moved (u := U) (U := U.calling g mk a) (Vm.Alike.refl U.vm) qK, qD⟩, va_recv hKc hPc (ci := 11) (q0 := 0) rfl rfl, fun U hU hW => ⟨rfl, by rw [hU], by rw [hU]; exact hPc, va_K.moved hW.alike hKc, hDc.weaken (fun _ _ _ _ => trivial)⟩⟩ rfl rfl hl.1 rfl (lv_room (Nat.le_of_ble_eq_true rfl)) dX11_alike_1 ⟨Nat.le_of_ble_eq_true rfl, Nat.le_of_ble_eq_true rfl⟩) hS (fun q _ h => hFc q h) hFc (fun r_740 u t H1 locs ht hvm hw hB hz1 hk1 hS => ?_)
  obtain ⟨hP1, hK1, hD1⟩ := hB
  rw [ht] at hP1
  have hK1 := va_K.moved hvm.symm hK1
  obtain ⟨hP, hD⟩ := va_join (wr := []) (w1 := (wd_495 r k)) hP hD [0, 1, 2, 3, 4, 5, 6, 7, 8, 9, 10, 11, 12, 13] [] rfl rfl (by decide) (by decide) hk1 hFc hP1 hD1
  generalize H1 = H at hP hS ⊢
  have hP : va_P (dC, dI) vwCl (wd_495 r k) H := hP
  have hD : va_D A (wd_495 r k) := hD
  obtain rfl : r_740 = 0 := hw
  refine lv_if_eq (tgt := 15) hx hb dX11_alike_4 (by decide) (fun c_0 => ?_) (fun c_0 => absurd c_0 (by decide))
  refine lv_iconst (v := (-1)) hx hb dX11_alike_15 (by decide) ?_
  refine W.widen (k := 0) (n := 0) (Nat.le_of_ble_eq_true rfl) (Nat.le_of_ble_eq_true rfl) ?_
  exact W.iret (v := (-1)) hx hb hr (fun t ht hW => ⟨⟨(-1), (), rfl, rfl, trivial⟩, hS.F ht⟩) hS.2.2 dX11_alike_16
def wd_625 (r : Nat → Nat) (k : Nat → ClassId) (f744 : Nat → Int32) : va_W := [((r 0), .inr (11, [.ref (r 1), .ref (r 2), .ref (r 3), .ref (r 4), .ref (r 5), .ref (r 6), .ref (r 7), .ref (r 8), .ref (r 9), .ref (r 10), .ref (r 11), .ref (r 12), .ref (r 13), .ref (r 14), .ref (r 15), .int 0, .int 0, .ref (r 16), .int (-1), .ref (r 17)])), ((r 1), .inr (10, [.ref (r 18), .int 0, .int 0, .int 0, .int (-1), .int (-1), .long 0, .int 0, .int 0, .int (-1)])), ((r 18), .inl ((k 0), 1600, .inl (fun _ => 0))), ((r 14), .inl ((k 1), 7, .inl f744)), ((r 4), .inr (8, [.int 0, .int 0, .int 0, .ref (r 19), .int 0, .int 0, .ref (r 20), .int 0, .int 0, .int 0, .int 0, .int 0, .int 0, .ref (r 21)])), ((r 2), .inr (2, [.int 0, .ref (r 22), .ref (r 23), .ref (r 24)])), ((r 3), .inr (2, [.int 0, .ref (r 25), .ref (r 26), .ref (r 27)])), ((r 5), .inr (8, [.int 0, .int 0, .int 0, .ref (r 28), .int 0, .int 0, .ref (r 29), .int 0, .int 0, .int 0, .int 0, .int 0, .int 0, .ref (r 30)])), ((r 28), .inl ((k 2), 168, .inl (fun _ => 0))), ((r 8), .inr (1, [.ref (r 1), .ref (r 3), .ref (r 5), .ref (r 31), .ref (r 32), .int 0, .int 0, .int 3047])), ((r 10), .inr (5, [.ref (r 4), .ref (r 2), .ref (r 7), .ref (r 9), .ref (r 33), .ref (r 34), .int 0, .int 0, .int 0, .int 0, .int (-1)])), ((r 11), .inr (0, [.ref (r 2), .ref (r 7), .long 1])), ((r 12), .inr (6, [.ref (r 7), .ref (r 35), .ref (r 36), .ref (r 37), .int 0, .ref (r 38), .int 0, .int (-1), .int (-1), .null, .null])), ((r 13), .inr (3, [.ref (r 2), .ref (r 39), .int 0]))]
def wd_626 (r : Nat → Nat) (k : Nat → ClassId) (f747 : Nat → Int32) : va_W := [((r 0), .inr (11, [.ref (r 1), .ref (r 2), .ref (r 3), .ref (r 4), .ref (r 5), .ref (r 6), .ref (r 7), .ref (r 8), .ref (r 9), .ref (r 10), .ref (r 11), .ref (r 12), .ref (r 13), .ref (r 14), .ref (r 15), .int 0, .int 0, .ref (r 16), .int (-1), .ref (r 17)])), ((r 1), .inr (10, [.ref (r 18), .int 0, .int 0, .int 0, .int (-1), .int (-1), .long 0, .int 0, .int 0, .int (-1)])), ((r 18), .inl ((k 0), 1600, .inl (fun _ => 0))), ((r 14), .inl ((k 1), 7, .inl f747)), ((r 4), .inr (8, [.int 0, .int 0, .int 0, .ref (r 19), .int 0, .int 0, .ref (r 20), .int 0, .int 0, .int 0, .int 0, .int 0, .int 0, .ref (r 21)])), ((r 2), .inr (2, [.int 0, .ref (r 22), .ref (r 23), .ref (r 24)])), ((r 3), .inr (2, [.int 0, .ref (r 25), .ref (r 26), .ref (r 27)])), ((r 5), .inr (8, [.int 0, .int 0, .int 0, .ref (r 28), .int 0, .int 0, .ref (r 29), .int 0, .int 0, .int 0, .int 0, .int 0, .int 0, .ref (r 30)])), ((r 28), .inl ((k 2), 168, .inl (fun _ => 0))), ((r 8), .inr (1, [.ref (r 1), .ref (r 3), .ref (r 5), .ref (r 31), .ref (r 32), .int 0, .int 0, .int 3047])), ((r 10), .inr (5, [.ref (r 4), .ref (r 2), .ref (r 7), .ref (r 9), .ref (r 33), .ref (r 34), .int 0, .int 0, .int 0, .int 0, .int (-1)])), ((r 11), .inr (0, [.ref (r 2), .ref (r 7), .long 1])), ((r 12), .inr (6, [.ref (r 7), .ref (r 35), .ref (r 36), .ref (r 37), .int 0, .ref (r 38), .int 0, .int (-1), .int (-1), .null, .null])), ((r 13), .inr (3, [.ref (r 2), .ref (r 39), .int 0]))]
set_option maxHeartbeats 4000000 in
set_option maxRecDepth 100000 in
theorem c47_X11_refuse (l : Launch) (dC : Nat → ClassId) (dI : Nat → Nat → Nat) (r : Nat → Nat) (k : Nat → ClassId) (sz : Nat) : Met l yX11_refuse (Cond.code yX11_refuse cX11_refuse 2 (some .int) :: wA) ({ frames := 0, cells := 0, slots := 0, locals := 0 }) (va_Pc [.ref (r 0), .int 1] (fun U => U.heap.size = sz ∧ va_P (dC, dI) vwCl (wd_495 r k) U.heap ∧ va_K (dC, dI) vwCl [((k 0), .int), ((k 1), .int), ((k 2), .int)] U ∧ va_D (fun _ => True) (wd_495 r k))) (va_Qi (fun (r : Int32) (_ : Unit) => r = (-1)) (fun _ t => ∃ f747 : Nat → Int32, va_P (dC, dI) vwCl (wd_626 r k f747) t.heap ∧ va_K (dC, dI) vwCl [((k 0), .int), ((k 1), .int), ((k 2), .int)] t ∧ va_D (va_A (wd_495 r k) sz) (wd_626 r k f747)) (va_A (wd_495 r k) sz)) 0 0 (va_A (wd_495 r k) sz) := by
  refine Met.ofW (cc := cX11_refuse) (maxL := 2) (ret := (some .int)) (by decide) rfl ?_
  intro p e s m args below meth c s₁ B hml hv
  obtain ⟨rfl, hsz, hP, hK, hD0⟩ := hv
  have hx := B.exec
  have hb := B.bytes
  have hr := B.returns
  have hts : ∀ w ∈ wA, w.before [.ref (r 0), .int 1].toArray s = true := fun w h => atoms_spec (ws := Cond.code yX11_refuse cX11_refuse 2 (some .int) :: wA) B.pre w (List.mem_cons_of_mem _ h)
  have hown : s.vm.findClass RX11 = some m.cls := findClass_of_methodNamed B.named
  have hlocks := B.notSynchronized
  subst hsz
  have hD := hD0.self (sz := s.heap.size)
  generalize hAe : va_A (wd_495 r k) s.heap.size = A at hD ⊢
  have hA : ∀ q : Nat, s.heap.size ≤ q → A q := fun q h => by rw [← hAe]; exact Or.inr h
  have hS : va_S A s.heap s.heap [] := va_S.rf
  have hl := lv_entry ([.ref (r 0), .int 1]) (n := 2) (Nat.le_of_ble_eq_true rfl)
  rw [lg_entry_eq]
  generalize (lg_sl ([.ref (r 0), .int 1]) ++ List.replicate (2 - (lg_sl ([.ref (r 0), .int 1])).length) Slot.unset).toArray = ls at hl ⊢
  have hl : lv_has ls 2 [(0, .ref (r 0)), (1, .int 1)] := hl
  refine lv_aload_n hx hb dX11_refuse_0 rfl (lv_at hl 0 rfl) ?_
  refine va_get (D := (dC, dI)) (ci := 11) (v := .ref (r 14)) (C := RX11) (T := TX11) (N := 20) hx hb hts i_X11 hown hK hP 0 rfl rfl 13 (by decide) (hts _ q_178) (fun _ h9 => h9) rfl dX11_refuse_1 ?_
  refine lv_iload_n hx hb dX11_refuse_4 rfl (lv_at hl 1 rfl) ?_
  refine lv_dup2_11 hx hb dX11_refuse_5 rfl rfl ?_
  refine va_iald hx hb hK hP 3 1 rfl rfl (vpi (by decide)) dX11_refuse_6 ?_
  refine lv_topi (fun x_745 ex_745 => ?_)
  obtain rfl : x_745 = 0 := ex_745
  refine lv_iconst (v := 1) hx hb dX11_refuse_7 (by decide) ?_
  refine lv_iadd hx hb dX11_refuse_8 ?_
  refine lv_topi (fun x_746 ex_746 => ?_)
  obtain rfl : x_746 = 1 := ex_746.trans (by decide)
  refine va_iast hx hb hK hP hD hS 3 1 rfl rfl (vpi (by decide)) dX11_refuse_9 (fun H locs hP hD hS => ?_)
  obtain ⟨f747, hP, hD⟩ : ∃ f : Nat → Int32, va_P (dC, dI) vwCl (wd_590 r k f) H ∧ va_D A (wd_590 r k f) := ⟨_, hP, hD⟩
  have hP : va_P (dC, dI) vwCl (wd_626 r k f747) H := hP
  have hD : va_D A (wd_626 r k f747) := hD
  refine lv_iconst (v := (-1)) hx hb dX11_refuse_10 (by decide) ?_
  refine W.widen (k := 0) (n := 0) (Nat.le_of_ble_eq_true rfl) (Nat.le_of_ble_eq_true rfl) ?_
  have hP9 := hP.sub (ws' := (wd_626 r k f747)) [0, 1, 2, 3, 4, 5, 6, 7, 8, 9, 10, 11, 12, 13] rfl
  have hD9 := hD.sub (ws' := (wd_626 r k f747)) [0, 1, 2, 3, 4, 5, 6, 7, 8, 9, 10, 11, 12, 13] (by decide) rfl
  have hK9 := hK.sub (tys' := [((k 0), .int), ((k 1), .int), ((k 2), .int)]) [0, 1, 2] rfl
  exact W.iret (v := (-1)) hx hb hr (fun t ht hW => ⟨⟨(-1), (), rfl, rfl, f747, by rw [ht]; exact hP9, va_K.moved hW.alike hK9, hD9⟩, hS.F ht⟩) hS.2.2 dX11_refuse_11
def wd_627 (r : Nat → Nat) (k : Nat → ClassId) (f749 : Nat → Int32) : va_W := [((r 0), .inr (11, [.ref (r 1), .ref (r 2), .ref (r 3), .ref (r 4), .ref (r 5), .ref (r 6), .ref (r 7), .ref (r 8), .ref (r 9), .ref (r 10), .ref (r 11), .ref (r 12), .ref (r 13), .ref (r 14), .ref (r 15), .int 0, .int 0, .ref (r 16), .int (-1), .ref (r 17)])), ((r 1), .inr (10, [.ref (r 18), .int 0, .int 0, .int 0, .int (-1), .int (-1), .long 0, .int 0, .int 0, .int (-1)])), ((r 18), .inl ((k 0), 1600, .inl (fun _ => 0))), ((r 14), .inl ((k 1), 7, .inl f749)), ((r 4), .inr (8, [.int 0, .int 0, .int 0, .ref (r 19), .int 0, .int 0, .ref (r 20), .int 0, .int 0, .int 0, .int 0, .int 0, .int 0, .ref (r 21)])), ((r 2), .inr (2, [.int 0, .ref (r 22), .ref (r 23), .ref (r 24)])), ((r 3), .inr (2, [.int 0, .ref (r 25), .ref (r 26), .ref (r 27)])), ((r 5), .inr (8, [.int 0, .int 0, .int 0, .ref (r 28), .int 0, .int 0, .ref (r 29), .int 0, .int 0, .int 0, .int 0, .int 0, .int 0, .ref (r 30)])), ((r 28), .inl ((k 2), 168, .inl (fun _ => 0))), ((r 8), .inr (1, [.ref (r 1), .ref (r 3), .ref (r 5), .ref (r 31), .ref (r 32), .int 0, .int 0, .int 3047])), ((r 10), .inr (5, [.ref (r 4), .ref (r 2), .ref (r 7), .ref (r 9), .ref (r 33), .ref (r 34), .int 0, .int 0, .int 0, .int 0, .int (-1)])), ((r 11), .inr (0, [.ref (r 2), .ref (r 7), .long 1])), ((r 12), .inr (6, [.ref (r 7), .ref (r 35), .ref (r 36), .ref (r 37), .int 0, .ref (r 38), .int 0, .int (-1), .int (-1), .null, .null])), ((r 13), .inr (3, [.ref (r 2), .ref (r 39), .int 0]))]
def wd_628 (r : Nat → Nat) (k : Nat → ClassId) (f752 : Nat → Int32) : va_W := [((r 0), .inr (11, [.ref (r 1), .ref (r 2), .ref (r 3), .ref (r 4), .ref (r 5), .ref (r 6), .ref (r 7), .ref (r 8), .ref (r 9), .ref (r 10), .ref (r 11), .ref (r 12), .ref (r 13), .ref (r 14), .ref (r 15), .int 0, .int 0, .ref (r 16), .int (-1), .ref (r 17)])), ((r 1), .inr (10, [.ref (r 18), .int 0, .int 0, .int 0, .int (-1), .int (-1), .long 0, .int 0, .int 0, .int (-1)])), ((r 18), .inl ((k 0), 1600, .inl (fun _ => 0))), ((r 14), .inl ((k 1), 7, .inl f752)), ((r 4), .inr (8, [.int 0, .int 0, .int 0, .ref (r 19), .int 0, .int 0, .ref (r 20), .int 0, .int 0, .int 0, .int 0, .int 0, .int 0, .ref (r 21)])), ((r 2), .inr (2, [.int 0, .ref (r 22), .ref (r 23), .ref (r 24)])), ((r 3), .inr (2, [.int 0, .ref (r 25), .ref (r 26), .ref (r 27)])), ((r 5), .inr (8, [.int 0, .int 0, .int 0, .ref (r 28), .int 0, .int 0, .ref (r 29), .int 0, .int 0, .int 0, .int 0, .int 0, .int 0, .ref (r 30)])), ((r 28), .inl ((k 2), 168, .inl (fun _ => 0))), ((r 8), .inr (1, [.ref (r 1), .ref (r 3), .ref (r 5), .ref (r 31), .ref (r 32), .int 0, .int 0, .int 3047])), ((r 10), .inr (5, [.ref (r 4), .ref (r 2), .ref (r 7), .ref (r 9), .ref (r 33), .ref (r 34), .int 0, .int 0, .int 0, .int 0, .int (-1)])), ((r 11), .inr (0, [.ref (r 2), .ref (r 7), .long 1])), ((r 12), .inr (6, [.ref (r 7), .ref (r 35), .ref (r 36), .ref (r 37), .int 0, .ref (r 38), .int 0, .int (-1), .int (-1), .null, .null])), ((r 13), .inr (3, [.ref (r 2), .ref (r 39), .int 0]))]
set_option maxHeartbeats 4000000 in
set_option maxRecDepth 100000 in
theorem mX11_see (l : Launch) (dC : Nat → ClassId) (dI : Nat → Nat → Nat) (r : Nat → Nat) (k : Nat → ClassId) (sz : Nat) : Met l yX11_see (Cond.code yX11_see cX11_see 2 (some .int) :: wA) ({ frames := 1, cells := 0, slots := 0, locals := 21 }) (va_Pc [.ref (r 0)] (fun U => U.heap.size = sz ∧ va_P (dC, dI) vwCl (wd_495 r k) U.heap ∧ va_K (dC, dI) vwCl [((k 0), .int), ((k 1), .int), ((k 2), .int)] U ∧ va_D (fun _ => True) (wd_495 r k))) (va_Qi (fun (r : Int32) (_ : Unit) => r = (-1)) (fun _ t => True) (va_A (wd_495 r k) sz)) 0 0 (va_A (wd_495 r k) sz) := by
  refine Met.ofW (cc := cX11_see) (maxL := 2) (ret := (some .int)) (by decide) rfl ?_
  intro p e s m args below meth c s₁ B hml hv
  obtain ⟨rfl, hsz, hP, hK, hD0⟩ := hv
  have hx := B.exec
  have hb := B.bytes
  have hr := B.returns
  have hts : ∀ w ∈ wA, w.before [.ref (r 0)].toArray s = true := fun w h => atoms_spec (ws := Cond.code yX11_see cX11_see 2 (some .int) :: wA) B.pre w (List.mem_cons_of_mem _ h)
  have hown : s.vm.findClass RX11 = some m.cls := findClass_of_methodNamed B.named
  have hlocks := B.notSynchronized
  subst hsz
  have hD := hD0.self (sz := s.heap.size)
  generalize hAe : va_A (wd_495 r k) s.heap.size = A at hD ⊢
  have hA : ∀ q : Nat, s.heap.size ≤ q → A q := fun q h => by rw [← hAe]; exact Or.inr h
  have hS : va_S A s.heap s.heap [] := va_S.rf
  have hl := lv_entry ([.ref (r 0)]) (n := 2) (Nat.le_of_ble_eq_true rfl)
  rw [lg_entry_eq]
  generalize (lg_sl ([.ref (r 0)]) ++ List.replicate (2 - (lg_sl ([.ref (r 0)])).length) Slot.unset).toArray = ls at hl ⊢
  have hl : lv_has ls 2 [(0, .ref (r 0))] := hl
  refine lv_aload_n hx hb dX11_see_0 rfl (lv_at hl 0 rfl) ?_
  have hPc := hP.sub (ws' := (wd_495 r k)) [0, 1, 2, 3, 4, 5, 6, 7, 8, 9, 10, 11, 12, 13] rfl
  have hDc := hD.sub (ws' := (wd_495 r k)) [0, 1, 2, 3, 4, 5, 6, 7, 8, 9, 10, 11, 12, 13] (by decide) rfl
  have hKc := hK.sub (tys' := [((k 0), .int), ((k 1), .int), ((k 2), .int)]) [0, 1, 2] rfl
  have hFc := va_free (wc := (wd_495 r k)) hD hS hA [0, 1, 2, 3, 4, 5, 6, 7, 8, 9, 10, 11, 12, 13] rfl
  refine va_calli (va_runV (As := []) (rest := []) ⟨hx, hb, hml, hown, hts⟩ (c25_X11_ready l dC dI r k s.heap.size) (cwV 0 hts (gV q_313 q_314 q_315 q_257 q_312) rfl rfl rfl mdv_yX11_ready ⟨Nat.le_of_ble_eq_true rfl, Nat.le_of_ble_eq_true rfl⟩) ⟨fun a U g mk q => by obtain ⟨q0, q1, qP, qK, qD⟩ := q; exact ⟨q0, q1, qP, va_K.moved (u := U) (U := U.calling g mk a) (Vm.Alike.refl U.vm) qK, qD⟩, va_recv hKc hPc (ci := 11) (q0 := 0) rfl rfl, fun U hU hW => ⟨rfl, by rw [hU], by rw [hU]; exact hPc, va_K.moved hW.alike hKc, hDc.weaken (fun _ _ _ _ => trivial)⟩⟩ rfl rfl hl.1 rfl (lv_room (Nat.le_of_ble_eq_true rfl)) dX11_see_1 ⟨Nat.le_of_ble_eq_true rfl, Nat.le_of_ble_eq_true rfl⟩) hS (fun q _ h => hFc q h) hFc (fun r_750 u t H1 locs ht hvm hw hB hz1 hk1 hS => ?_)
  obtain ⟨hP1, hK1, hD1⟩ := hB
  rw [ht] at hP1
  have hK1 := va_K.moved hvm.symm hK1
  obtain ⟨hP, hD⟩ := va_join (wr := []) (w1 := (wd_495 r k)) hP hD [0, 1, 2, 3, 4, 5, 6, 7, 8, 9, 10, 11, 12, 13] [] rfl rfl (by decide) (by decide) hk1 hFc hP1 hD1
  generalize H1 = H at hP hS ⊢
  have hP : va_P (dC, dI) vwCl (wd_495 r k) H := hP
  have hD : va_D A (wd_495 r k) := hD
  obtain rfl : r_750 = 0 := hw
  refine lv_if_eq (tgt := 39) hx hb dX11_see_4 (by decide) (fun c_0 => ?_) (fun c_0 => absurd c_0 (by decide))
  refine lv_iconst (v := 0) hx hb dX11_see_39 (by decide) ?_
  refine lv_istore_n (lv' := [(1, .int 0), (0, .ref (r 0))]) hx hb dX11_see_40 rfl hl (by decide) rfl (fun ls hl => ?_)
  refine lv_aload_n hx hb dX11_see_41 rfl (lv_at hl 1 rfl) ?_
  refine va_get (D := (dC, dI)) (ci := 11) (v := .ref (r 1)) (C := RX11) (T := TX11) (N := 20) hx hb hts i_X11 hown hK hP 0 rfl rfl 0 (by decide) (hts _ q_120) (fun _ h9 => h9) rfl dX11_see_42 ?_
  refine lv_iconst (v := 0) hx hb dX11_see_45 (by decide) ?_
  refine va_put (D := (dC, dI)) (ci := 10) (v := .int 0) (ty := tyX10 1) (C := RX10) (T := TX10) (N := 10) hx hb hts i_X10 tyX10 tyX10_ok nmX10 hown hK hP hD hS 1 rfl rfl 1 (by decide) (hts _ q_247) (fun _ h9 => h9) rfl (tyX10_ok 1 (by decide)) rfl rfl (Nat.le_of_ble_eq_true rfl) dX11_see_46 (fun H locs hP hD hS => ?_)
  have hP : va_P (dC, dI) vwCl (wd_495 r k) H := hP
  have hD : va_D A (wd_495 r k) := hD
  refine lv_iload_n hx hb dX11_see_49 rfl (lv_at hl 0 rfl) ?_
  refine lv_if_eq (tgt := 63) hx hb dX11_see_50 (by decide) (fun c_0 => ?_) (fun c_0 => absurd c_0 (by decide))
  refine lv_aload_n hx hb dX11_see_63 rfl (lv_at hl 1 rfl) ?_
  refine lv_iconst (v := 1) hx hb dX11_see_64 (by decide) ?_
  have hPc := hP.sub (ws' := (wd_495 r k)) [0, 1, 2, 3, 4, 5, 6, 7, 8, 9, 10, 11, 12, 13] rfl
  have hDc := hD.sub (ws' := (wd_495 r k)) [0, 1, 2, 3, 4, 5, 6, 7, 8, 9, 10, 11, 12, 13] (by decide) rfl
  have hKc := hK.sub (tys' := [((k 0), .int), ((k 1), .int), ((k 2), .int)]) [0, 1, 2] rfl
  have hFc := va_free (wc := (wd_495 r k)) hD hS hA [0, 1, 2, 3, 4, 5, 6, 7, 8, 9, 10, 11, 12, 13] rfl
  refine va_calli (va_runV (As := [.int 1]) (rest := []) ⟨hx, hb, hml, hown, hts⟩ (c47_X11_refuse l dC dI r k H.size) (cwV 1 hts (gV q_286 q_287 q_288 q_257 q_285) rfl rfl rfl mdv_yX11_refuse ⟨Nat.le_of_ble_eq_true rfl, Nat.le_of_ble_eq_true rfl⟩) ⟨fun a U g mk q => by obtain ⟨q0, q1, qP, qK, qD⟩ := q; exact ⟨q0, q1, qP, va_K.moved (u := U) (U := U.calling g mk a) (Vm.Alike.refl U.vm) qK, qD⟩, va_recv hKc hPc (ci := 11) (q0 := 0) rfl rfl, fun U hU hW => ⟨rfl, by rw [hU], by rw [hU]; exact hPc, va_K.moved hW.alike hKc, hDc.weaken (fun _ _ _ _ => trivial)⟩⟩ rfl rfl hl.1 rfl (lv_room (Nat.le_of_ble_eq_true rfl)) dX11_see_65 ⟨Nat.le_of_ble_eq_true rfl, Nat.le_of_ble_eq_true rfl⟩) hS (fun q _ h => hFc q h) hFc (fun r_751 u t H1 locs ht hvm hw hB hz1 hk1 hS => ?_)
  obtain ⟨f752, hP1, hK1, hD1⟩ := hB
  rw [ht] at hP1
  have hK1 := va_K.moved hvm.symm hK1
  obtain ⟨hP, hD⟩ := va_join (wr := []) (w1 := (wd_628 r k f752)) hP hD [0, 1, 2, 3, 4, 5, 6, 7, 8, 9, 10, 11, 12, 13] [] rfl rfl (by decide) (by decide) hk1 hFc hP1 hD1
  have hK := (hK.sub (tys' := []) [] rfl).app hK1
  have hK : va_K (dC, dI) vwCl [((k 0), .int), ((k 1), .int), ((k 2), .int)] s := hK
  generalize H1 = H at hP hS ⊢
  have hP : va_P (dC, dI) vwCl (wd_628 r k f752) H := hP
  have hD : va_D A (wd_628 r k f752) := hD
  obtain rfl : r_751 = (-1) := hw
  refine W.widen (k := 0) (n := 0) (Nat.le_of_ble_eq_true rfl) (Nat.le_of_ble_eq_true rfl) ?_
  exact W.iret (v := (-1)) hx hb hr (fun t ht hW => ⟨⟨(-1), (), rfl, rfl, trivial⟩, hS.F ht⟩) hS.2.2 dX11_see_68
set_option maxHeartbeats 4000000 in
set_option maxRecDepth 100000 in
theorem mX11_then (l : Launch) (dC : Nat → ClassId) (dI : Nat → Nat → Nat) (r : Nat → Nat) (k : Nat → ClassId) (p1 : Int32) (sz : Nat) : Met l yX11_then (Cond.code yX11_then cX11_then 2 (some .int) :: wA) ({ frames := 1, cells := 0, slots := 0, locals := 20 }) (va_Pc [.ref (r 0), .int p1] (fun U => U.heap.size = sz ∧ va_P (dC, dI) vwCl (wd_495 r k) U.heap ∧ va_K (dC, dI) vwCl [((k 0), .int), ((k 1), .int), ((k 2), .int)] U ∧ va_D (fun _ => True) (wd_495 r k))) (va_Qi (fun (r : Int32) (_ : Unit) => r = (-1)) (fun _ t => True) (va_A (wd_495 r k) sz)) 0 0 (va_A (wd_495 r k) sz) := by
  refine Met.ofW (cc := cX11_then) (maxL := 2) (ret := (some .int)) (by decide) rfl ?_
  intro p e s m args below meth c s₁ B hml hv
  obtain ⟨rfl, hsz, hP, hK, hD0⟩ := hv
  have hx := B.exec
  have hb := B.bytes
  have hr := B.returns
  have hts : ∀ w ∈ wA, w.before [.ref (r 0), .int p1].toArray s = true := fun w h => atoms_spec (ws := Cond.code yX11_then cX11_then 2 (some .int) :: wA) B.pre w (List.mem_cons_of_mem _ h)
  have hown : s.vm.findClass RX11 = some m.cls := findClass_of_methodNamed B.named
  have hlocks := B.notSynchronized
  subst hsz
  have hD := hD0.self (sz := s.heap.size)
  generalize hAe : va_A (wd_495 r k) s.heap.size = A at hD ⊢
  have hA : ∀ q : Nat, s.heap.size ≤ q → A q := fun q h => by rw [← hAe]; exact Or.inr h
  have hS : va_S A s.heap s.heap [] := va_S.rf
  have hl := lv_entry ([.ref (r 0), .int p1]) (n := 2) (Nat.le_of_ble_eq_true rfl)
  rw [lg_entry_eq]
  generalize (lg_sl ([.ref (r 0), .int p1]) ++ List.replicate (2 - (lg_sl ([.ref (r 0), .int p1])).length) Slot.unset).toArray = ls at hl ⊢
  have hl : lv_has ls 2 [(0, .ref (r 0)), (1, .int p1)] := hl
  refine lv_aload_n hx hb dX11_then_0 rfl (lv_at hl 0 rfl) ?_
  have hPc := hP.sub (ws' := (wd_495 r k)) [0, 1, 2, 3, 4, 5, 6, 7, 8, 9, 10, 11, 12, 13] rfl
  have hDc := hD.sub (ws' := (wd_495 r k)) [0, 1, 2, 3, 4, 5, 6, 7, 8, 9, 10, 11, 12, 13] (by decide) rfl
  have hKc := hK.sub (tys' := [((k 0), .int), ((k 1), .int), ((k 2), .int)]) [0, 1, 2] rfl
  have hFc := va_free (wc := (wd_495 r k)) hD hS hA [0, 1, 2, 3, 4, 5, 6, 7, 8, 9, 10, 11, 12, 13] rfl
  refine va_calli (va_runV (As := []) (rest := []) ⟨hx, hb, hml, hown, hts⟩ (c25_X11_ready l dC dI r k s.heap.size) (cwV 0 hts (gV q_313 q_314 q_315 q_257 q_312) rfl rfl rfl mdv_yX11_ready ⟨Nat.le_of_ble_eq_true rfl, Nat.le_of_ble_eq_true rfl⟩) ⟨fun a U g mk q => by obtain ⟨q0, q1, qP, qK, qD⟩ := q; exact ⟨q0, q1, qP, va_K.moved (u := U) (U := U.calling g mk a) (Vm.Alike.refl U.vm) qK, qD⟩, va_recv hKc hPc (ci := 11) (q0 := 0) rfl rfl, fun U hU hW => ⟨rfl, by rw [hU], by rw [hU]; exact hPc, va_K.moved hW.alike hKc, hDc.weaken (fun _ _ _ _ => trivial)⟩⟩ rfl rfl hl.1 rfl (lv_room (Nat.le_of_ble_eq_true rfl)) dX11_then_1 ⟨Nat.le_of_ble_eq_true rfl, Nat.le_of_ble_eq_true rfl⟩) hS (fun q _ h => hFc q h) hFc (fun r_754 u t H1 locs ht hvm hw hB hz1 hk1 hS => ?_)
  obtain ⟨hP1, hK1, hD1⟩ := hB
  rw [ht] at hP1
  have hK1 := va_K.moved hvm.symm hK1
  obtain ⟨hP, hD⟩ := va_join (wr := []) (w1 := (wd_495 r k)) hP hD [0, 1, 2, 3, 4, 5, 6, 7, 8, 9, 10, 11, 12, 13] [] rfl rfl (by decide) (by decide) hk1 hFc hP1 hD1
  generalize H1 = H at hP hS ⊢
  have hP : va_P (dC, dI) vwCl (wd_495 r k) H := hP
  have hD : va_D A (wd_495 r k) := hD
  obtain rfl : r_754 = 0 := hw
  refine lv_if_eq (tgt := 12) hx hb dX11_then_4 (by decide) (fun c_0 => ?_) (fun c_0 => absurd c_0 (by decide))
  refine lv_iconst (v := (-1)) hx hb dX11_then_12 (by decide) ?_
  refine W.widen (k := 0) (n := 0) (Nat.le_of_ble_eq_true rfl) (Nat.le_of_ble_eq_true rfl) ?_
  exact W.iret (v := (-1)) hx hb hr (fun t ht hW => ⟨⟨(-1), (), rfl, rfl, trivial⟩, hS.F ht⟩) hS.2.2 dX11_then_13
set_option maxHeartbeats 4000000 in
set_option maxRecDepth 100000 in
theorem mX11_tells (l : Launch) (dC : Nat → ClassId) (dI : Nat → Nat → Nat) (r : Nat → Nat) (k : Nat → ClassId) (p1 : Int32) (sz : Nat) : Met l yX11_tells (Cond.code yX11_tells cX11_tells 2 (some .int) :: wA) ({ frames := 1, cells := 0, slots := 0, locals := 20 }) (va_Pc [.ref (r 0), .int p1] (fun U => U.heap.size = sz ∧ va_P (dC, dI) vwCl (wd_495 r k) U.heap ∧ va_K (dC, dI) vwCl [((k 0), .int), ((k 1), .int), ((k 2), .int)] U ∧ va_D (fun _ => True) (wd_495 r k))) (va_Qi (fun (r : Int32) (_ : Unit) => r = (-1)) (fun _ t => True) (va_A (wd_495 r k) sz)) 0 0 (va_A (wd_495 r k) sz) := by
  refine Met.ofW (cc := cX11_tells) (maxL := 2) (ret := (some .int)) (by decide) rfl ?_
  intro p e s m args below meth c s₁ B hml hv
  obtain ⟨rfl, hsz, hP, hK, hD0⟩ := hv
  have hx := B.exec
  have hb := B.bytes
  have hr := B.returns
  have hts : ∀ w ∈ wA, w.before [.ref (r 0), .int p1].toArray s = true := fun w h => atoms_spec (ws := Cond.code yX11_tells cX11_tells 2 (some .int) :: wA) B.pre w (List.mem_cons_of_mem _ h)
  have hown : s.vm.findClass RX11 = some m.cls := findClass_of_methodNamed B.named
  have hlocks := B.notSynchronized
  subst hsz
  have hD := hD0.self (sz := s.heap.size)
  generalize hAe : va_A (wd_495 r k) s.heap.size = A at hD ⊢
  have hA : ∀ q : Nat, s.heap.size ≤ q → A q := fun q h => by rw [← hAe]; exact Or.inr h
  have hS : va_S A s.heap s.heap [] := va_S.rf
  have hl := lv_entry ([.ref (r 0), .int p1]) (n := 2) (Nat.le_of_ble_eq_true rfl)
  rw [lg_entry_eq]
  generalize (lg_sl ([.ref (r 0), .int p1]) ++ List.replicate (2 - (lg_sl ([.ref (r 0), .int p1])).length) Slot.unset).toArray = ls at hl ⊢
  have hl : lv_has ls 2 [(0, .ref (r 0)), (1, .int p1)] := hl
  refine lv_aload_n hx hb dX11_tells_0 rfl (lv_at hl 0 rfl) ?_
  have hPc := hP.sub (ws' := (wd_495 r k)) [0, 1, 2, 3, 4, 5, 6, 7, 8, 9, 10, 11, 12, 13] rfl
  have hDc := hD.sub (ws' := (wd_495 r k)) [0, 1, 2, 3, 4, 5, 6, 7, 8, 9, 10, 11, 12, 13] (by decide) rfl
  have hKc := hK.sub (tys' := [((k 0), .int), ((k 1), .int), ((k 2), .int)]) [0, 1, 2] rfl
  have hFc := va_free (wc := (wd_495 r k)) hD hS hA [0, 1, 2, 3, 4, 5, 6, 7, 8, 9, 10, 11, 12, 13] rfl
  refine va_calli (va_runV (As := []) (rest := []) ⟨hx, hb, hml, hown, hts⟩ (c25_X11_ready l dC dI r k s.heap.size) (cwV 0 hts (gV q_313 q_314 q_315 q_257 q_312) rfl rfl rfl mdv_yX11_ready ⟨Nat.le_of_ble_eq_true rfl, Nat.le_of_ble_eq_true rfl⟩) ⟨fun a U g mk q => by obtain ⟨q0, q1, qP, qK, qD⟩ := q; exact ⟨q0, q1, qP, va_K.moved (u := U) (U := U.calling g mk a) (Vm.Alike.refl U.vm) qK, qD⟩, va_recv hKc hPc (ci := 11) (q0 := 0) rfl rfl, fun U hU hW => ⟨rfl, by rw [hU], by rw [hU]; exact hPc, va_K.moved hW.alike hKc, hDc.weaken (fun _ _ _ _ => trivial)⟩⟩ rfl rfl hl.1 rfl (lv_room (Nat.le_of_ble_eq_true rfl)) dX11_tells_1 ⟨Nat.le_of_ble_eq_true rfl, Nat.le_of_ble_eq_true rfl⟩) hS (fun q _ h => hFc q h) hFc (fun r_756 u t H1 locs ht hvm hw hB hz1 hk1 hS => ?_)
  obtain ⟨hP1, hK1, hD1⟩ := hB
  rw [ht] at hP1
  have hK1 := va_K.moved hvm.symm hK1
  obtain ⟨hP, hD⟩ := va_join (wr := []) (w1 := (wd_495 r k)) hP hD [0, 1, 2, 3, 4, 5, 6, 7, 8, 9, 10, 11, 12, 13] [] rfl rfl (by decide) (by decide) hk1 hFc hP1 hD1
  generalize H1 = H at hP hS ⊢
  have hP : va_P (dC, dI) vwCl (wd_495 r k) H := hP
  have hD : va_D A (wd_495 r k) := hD
  obtain rfl : r_756 = 0 := hw
  refine lv_if_eq (tgt := 16) hx hb dX11_tells_4 (by decide) (fun c_0 => ?_) (fun c_0 => absurd c_0 (by decide))
  refine lv_iconst (v := (-1)) hx hb dX11_tells_16 (by decide) ?_
  refine W.widen (k := 0) (n := 0) (Nat.le_of_ble_eq_true rfl) (Nat.le_of_ble_eq_true rfl) ?_
  exact W.iret (v := (-1)) hx hb hr (fun t ht hW => ⟨⟨(-1), (), rfl, rfl, trivial⟩, hS.F ht⟩) hS.2.2 dX11_tells_17
def wd_629 (r : Nat → Nat) (k : Nat → ClassId) (f759 : Nat → Int32) : va_W := [((r 0), .inr (11, [.ref (r 1), .ref (r 2), .ref (r 3), .ref (r 4), .ref (r 5), .ref (r 6), .ref (r 7), .ref (r 8), .ref (r 9), .ref (r 10), .ref (r 11), .ref (r 12), .ref (r 13), .ref (r 14), .ref (r 15), .int 0, .int 0, .ref (r 16), .int (-1), .ref (r 17)])), ((r 1), .inr (10, [.ref (r 18), .int 0, .int 0, .int 0, .int (-1), .int (-1), .long 0, .int 0, .int 0, .int (-1)])), ((r 18), .inl ((k 0), 1600, .inl (fun _ => 0))), ((r 14), .inl ((k 1), 7, .inl f759)), ((r 4), .inr (8, [.int 0, .int 0, .int 0, .ref (r 19), .int 0, .int 0, .ref (r 20), .int 0, .int 0, .int 0, .int 0, .int 0, .int 0, .ref (r 21)])), ((r 2), .inr (2, [.int 0, .ref (r 22), .ref (r 23), .ref (r 24)])), ((r 3), .inr (2, [.int 0, .ref (r 25), .ref (r 26), .ref (r 27)])), ((r 5), .inr (8, [.int 0, .int 0, .int 0, .ref (r 28), .int 0, .int 0, .ref (r 29), .int 0, .int 0, .int 0, .int 0, .int 0, .int 0, .ref (r 30)])), ((r 28), .inl ((k 2), 168, .inl (fun _ => 0))), ((r 8), .inr (1, [.ref (r 1), .ref (r 3), .ref (r 5), .ref (r 31), .ref (r 32), .int 0, .int 0, .int 3047])), ((r 10), .inr (5, [.ref (r 4), .ref (r 2), .ref (r 7), .ref (r 9), .ref (r 33), .ref (r 34), .int 0, .int 0, .int 0, .int 0, .int (-1)])), ((r 11), .inr (0, [.ref (r 2), .ref (r 7), .long 1])), ((r 12), .inr (6, [.ref (r 7), .ref (r 35), .ref (r 36), .ref (r 37), .int 0, .ref (r 38), .int 0, .int (-1), .int (-1), .null, .null])), ((r 13), .inr (3, [.ref (r 2), .ref (r 39), .int 0]))]
def wd_630 (r : Nat → Nat) (k : Nat → ClassId) (f762 : Nat → Int32) : va_W := [((r 0), .inr (11, [.ref (r 1), .ref (r 2), .ref (r 3), .ref (r 4), .ref (r 5), .ref (r 6), .ref (r 7), .ref (r 8), .ref (r 9), .ref (r 10), .ref (r 11), .ref (r 12), .ref (r 13), .ref (r 14), .ref (r 15), .int 0, .int 0, .ref (r 16), .int (-1), .ref (r 17)])), ((r 1), .inr (10, [.ref (r 18), .int 0, .int 0, .int 0, .int (-1), .int (-1), .long 0, .int 0, .int 0, .int (-1)])), ((r 18), .inl ((k 0), 1600, .inl (fun _ => 0))), ((r 14), .inl ((k 1), 7, .inl f762)), ((r 4), .inr (8, [.int 0, .int 0, .int 0, .ref (r 19), .int 0, .int 0, .ref (r 20), .int 0, .int 0, .int 0, .int 0, .int 0, .int 0, .ref (r 21)])), ((r 2), .inr (2, [.int 0, .ref (r 22), .ref (r 23), .ref (r 24)])), ((r 3), .inr (2, [.int 0, .ref (r 25), .ref (r 26), .ref (r 27)])), ((r 5), .inr (8, [.int 0, .int 0, .int 0, .ref (r 28), .int 0, .int 0, .ref (r 29), .int 0, .int 0, .int 0, .int 0, .int 0, .int 0, .ref (r 30)])), ((r 28), .inl ((k 2), 168, .inl (fun _ => 0))), ((r 8), .inr (1, [.ref (r 1), .ref (r 3), .ref (r 5), .ref (r 31), .ref (r 32), .int 0, .int 0, .int 3047])), ((r 10), .inr (5, [.ref (r 4), .ref (r 2), .ref (r 7), .ref (r 9), .ref (r 33), .ref (r 34), .int 0, .int 0, .int 0, .int 0, .int (-1)])), ((r 11), .inr (0, [.ref (r 2), .ref (r 7), .long 1])), ((r 12), .inr (6, [.ref (r 7), .ref (r 35), .ref (r 36), .ref (r 37), .int 0, .ref (r 38), .int 0, .int (-1), .int (-1), .null, .null])), ((r 13), .inr (3, [.ref (r 2), .ref (r 39), .int 0]))]
set_option maxHeartbeats 4000000 in
set_option maxRecDepth 100000 in
theorem mX11_run (l : Launch) (dC : Nat → ClassId) (dI : Nat → Nat → Nat) (r : Nat → Nat) (k : Nat → ClassId) (sz : Nat) : Met l yX11_run (Cond.code yX11_run cX11_run 2 (some .int) :: wA) ({ frames := 1, cells := 0, slots := 0, locals := 21 }) (va_Pc [.ref (r 0)] (fun U => U.heap.size = sz ∧ va_P (dC, dI) vwCl (wd_495 r k) U.heap ∧ va_K (dC, dI) vwCl [((k 0), .int), ((k 1), .int), ((k 2), .int)] U ∧ va_D (fun _ => True) (wd_495 r k))) (va_Qi (fun (r : Int32) (_ : Unit) => r = (-1)) (fun _ t => True) (va_A (wd_495 r k) sz)) 0 0 (va_A (wd_495 r k) sz) := by
  refine Met.ofW (cc := cX11_run) (maxL := 2) (ret := (some .int)) (by decide) rfl ?_
  intro p e s m args below meth c s₁ B hml hv
  obtain ⟨rfl, hsz, hP, hK, hD0⟩ := hv
  have hx := B.exec
  have hb := B.bytes
  have hr := B.returns
  have hts : ∀ w ∈ wA, w.before [.ref (r 0)].toArray s = true := fun w h => atoms_spec (ws := Cond.code yX11_run cX11_run 2 (some .int) :: wA) B.pre w (List.mem_cons_of_mem _ h)
  have hown : s.vm.findClass RX11 = some m.cls := findClass_of_methodNamed B.named
  have hlocks := B.notSynchronized
  subst hsz
  have hD := hD0.self (sz := s.heap.size)
  generalize hAe : va_A (wd_495 r k) s.heap.size = A at hD ⊢
  have hA : ∀ q : Nat, s.heap.size ≤ q → A q := fun q h => by rw [← hAe]; exact Or.inr h
  have hS : va_S A s.heap s.heap [] := va_S.rf
  have hl := lv_entry ([.ref (r 0)]) (n := 2) (Nat.le_of_ble_eq_true rfl)
  rw [lg_entry_eq]
  generalize (lg_sl ([.ref (r 0)]) ++ List.replicate (2 - (lg_sl ([.ref (r 0)])).length) Slot.unset).toArray = ls at hl ⊢
  have hl : lv_has ls 2 [(0, .ref (r 0))] := hl
  refine lv_aload_n hx hb dX11_run_0 rfl (lv_at hl 0 rfl) ?_
  have hPc := hP.sub (ws' := (wd_495 r k)) [0, 1, 2, 3, 4, 5, 6, 7, 8, 9, 10, 11, 12, 13] rfl
  have hDc := hD.sub (ws' := (wd_495 r k)) [0, 1, 2, 3, 4, 5, 6, 7, 8, 9, 10, 11, 12, 13] (by decide) rfl
  have hKc := hK.sub (tys' := [((k 0), .int), ((k 1), .int), ((k 2), .int)]) [0, 1, 2] rfl
  have hFc := va_free (wc := (wd_495 r k)) hD hS hA [0, 1, 2, 3, 4, 5, 6, 7, 8, 9, 10, 11, 12, 13] rfl
  refine va_calli (va_runV (As := []) (rest := []) ⟨hx, hb, hml, hown, hts⟩ (c25_X11_ready l dC dI r k s.heap.size) (cwV 0 hts (gV q_313 q_314 q_315 q_257 q_312) rfl rfl rfl mdv_yX11_ready ⟨Nat.le_of_ble_eq_true rfl, Nat.le_of_ble_eq_true rfl⟩) ⟨fun a U g mk q => by obtain ⟨q0, q1, qP, qK, qD⟩ := q; exact ⟨q0, q1, qP, va_K.moved (u := U) (U := U.calling g mk a) (Vm.Alike.refl U.vm) qK, qD⟩, va_recv hKc hPc (ci := 11) (q0 := 0) rfl rfl, fun U hU hW => ⟨rfl, by rw [hU], by rw [hU]; exact hPc, va_K.moved hW.alike hKc, hDc.weaken (fun _ _ _ _ => trivial)⟩⟩ rfl rfl hl.1 rfl (lv_room (Nat.le_of_ble_eq_true rfl)) dX11_run_1 ⟨Nat.le_of_ble_eq_true rfl, Nat.le_of_ble_eq_true rfl⟩) hS (fun q _ h => hFc q h) hFc (fun r_760 u t H1 locs ht hvm hw hB hz1 hk1 hS => ?_)
  obtain ⟨hP1, hK1, hD1⟩ := hB
  rw [ht] at hP1
  have hK1 := va_K.moved hvm.symm hK1
  obtain ⟨hP, hD⟩ := va_join (wr := []) (w1 := (wd_495 r k)) hP hD [0, 1, 2, 3, 4, 5, 6, 7, 8, 9, 10, 11, 12, 13] [] rfl rfl (by decide) (by decide) hk1 hFc hP1 hD1
  generalize H1 = H at hP hS ⊢
  have hP : va_P (dC, dI) vwCl (wd_495 r k) H := hP
  have hD : va_D A (wd_495 r k) := hD
  obtain rfl : r_760 = 0 := hw
  refine lv_if_eq (tgt := 21) hx hb dX11_run_4 (by decide) (fun c_0 => ?_) (fun c_0 => absurd c_0 (by decide))
  refine lv_iconst (v := 0) hx hb dX11_run_21 (by decide) ?_
  refine lv_istore_n (lv' := [(1, .int 0), (0, .ref (r 0))]) hx hb dX11_run_22 rfl hl (by decide) rfl (fun ls hl => ?_)
  refine lv_aload_n hx hb dX11_run_23 rfl (lv_at hl 1 rfl) ?_
  refine va_get (D := (dC, dI)) (ci := 11) (v := .ref (r 1)) (C := RX11) (T := TX11) (N := 20) hx hb hts i_X11 hown hK hP 0 rfl rfl 0 (by decide) (hts _ q_120) (fun _ h9 => h9) rfl dX11_run_24 ?_
  refine lv_iconst (v := 0) hx hb dX11_run_27 (by decide) ?_
  refine va_put (D := (dC, dI)) (ci := 10) (v := .int 0) (ty := tyX10 1) (C := RX10) (T := TX10) (N := 10) hx hb hts i_X10 tyX10 tyX10_ok nmX10 hown hK hP hD hS 1 rfl rfl 1 (by decide) (hts _ q_247) (fun _ h9 => h9) rfl (tyX10_ok 1 (by decide)) rfl rfl (Nat.le_of_ble_eq_true rfl) dX11_run_28 (fun H locs hP hD hS => ?_)
  have hP : va_P (dC, dI) vwCl (wd_495 r k) H := hP
  have hD : va_D A (wd_495 r k) := hD
  refine lv_iload_n hx hb dX11_run_31 rfl (lv_at hl 0 rfl) ?_
  refine lv_if_ne (tgt := 41) hx hb dX11_run_32 (by decide) (fun c_0 => absurd c_0 (by decide)) (fun c_0 => ?_)
  refine lv_aload_n hx hb dX11_run_35 rfl (lv_at hl 1 rfl) ?_
  refine lv_iconst (v := 2) hx hb dX11_run_36 (by decide) ?_
  have hPc := hP.sub (ws' := (wd_495 r k)) [0, 1, 2, 3, 4, 5, 6, 7, 8, 9, 10, 11, 12, 13] rfl
  have hDc := hD.sub (ws' := (wd_495 r k)) [0, 1, 2, 3, 4, 5, 6, 7, 8, 9, 10, 11, 12, 13] (by decide) rfl
  have hKc := hK.sub (tys' := [((k 0), .int), ((k 1), .int), ((k 2), .int)]) [0, 1, 2] rfl
  have hFc := va_free (wc := (wd_495 r k)) hD hS hA [0, 1, 2, 3, 4, 5, 6, 7, 8, 9, 10, 11, 12, 13] rfl
  refine va_calli (va_runV (As := [.int 2]) (rest := []) ⟨hx, hb, hml, hown, hts⟩ (c44_X11_refuse l dC dI r k H.size) (cwV 1 hts (gV q_286 q_287 q_288 q_257 q_285) rfl rfl rfl mdv_yX11_refuse ⟨Nat.le_of_ble_eq_true rfl, Nat.le_of_ble_eq_true rfl⟩) ⟨fun a U g mk q => by obtain ⟨q0, q1, qP, qK, qD⟩ := q; exact ⟨q0, q1, qP, va_K.moved (u := U) (U := U.calling g mk a) (Vm.Alike.refl U.vm) qK, qD⟩, va_recv hKc hPc (ci := 11) (q0 := 0) rfl rfl, fun U hU hW => ⟨rfl, by rw [hU], by rw [hU]; exact hPc, va_K.moved hW.alike hKc, hDc.weaken (fun _ _ _ _ => trivial)⟩⟩ rfl rfl hl.1 rfl (lv_room (Nat.le_of_ble_eq_true rfl)) dX11_run_37 ⟨Nat.le_of_ble_eq_true rfl, Nat.le_of_ble_eq_true rfl⟩) hS (fun q _ h => hFc q h) hFc (fun r_761 u t H1 locs ht hvm hw hB hz1 hk1 hS => ?_)
  obtain ⟨f762, hP1, hK1, hD1⟩ := hB
  rw [ht] at hP1
  have hK1 := va_K.moved hvm.symm hK1
  obtain ⟨hP, hD⟩ := va_join (wr := []) (w1 := (wd_630 r k f762)) hP hD [0, 1, 2, 3, 4, 5, 6, 7, 8, 9, 10, 11, 12, 13] [] rfl rfl (by decide) (by decide) hk1 hFc hP1 hD1
  have hK := (hK.sub (tys' := []) [] rfl).app hK1
  have hK : va_K (dC, dI) vwCl [((k 0), .int), ((k 1), .int), ((k 2), .int)] s := hK
  generalize H1 = H at hP hS ⊢
  have hP : va_P (dC, dI) vwCl (wd_630 r k f762) H := hP
  have hD : va_D A (wd_630 r k f762) := hD
  obtain rfl : r_761 = (-1) := hw
  refine W.widen (k := 0) (n := 0) (Nat.le_of_ble_eq_true rfl) (Nat.le_of_ble_eq_true rfl) ?_
  exact W.iret (v := (-1)) hx hb hr (fun t ht hW => ⟨⟨(-1), (), rfl, rfl, trivial⟩, hS.F ht⟩) hS.2.2 dX11_run_40
set_option maxHeartbeats 4000000 in
set_option maxRecDepth 100000 in
theorem mX11_failed (l : Launch) (dC : Nat → ClassId) (dI : Nat → Nat → Nat) (r : Nat → Nat) (k : Nat → ClassId) (p1 : Int32) (sz : Nat) : Met l yX11_failed (Cond.code yX11_failed cX11_failed 2 (some .int) :: wA) ({ frames := 0, cells := 0, slots := 0, locals := 0 }) (va_Pc [.ref (r 0), .int p1] (fun U => U.heap.size = sz ∧ va_P (dC, dI) vwCl (wd_495 r k) U.heap ∧ va_K (dC, dI) vwCl [((k 0), .int), ((k 1), .int), ((k 2), .int)] U ∧ va_D (fun _ => True) (wd_495 r k))) (va_Qi (fun (r : Int32) (_ : Unit) => r = sp_1 p1) (fun _ t => True) (va_A (wd_495 r k) sz)) 0 0 (va_A (wd_495 r k) sz) := by
  refine Met.ofW (cc := cX11_failed) (maxL := 2) (ret := (some .int)) (by decide) rfl ?_
  intro p e s m args below meth c s₁ B hml hv
  obtain ⟨rfl, hsz, hP, hK, hD0⟩ := hv
  have hx := B.exec
  have hb := B.bytes
  have hr := B.returns
  have hts : ∀ w ∈ wA, w.before [.ref (r 0), .int p1].toArray s = true := fun w h => atoms_spec (ws := Cond.code yX11_failed cX11_failed 2 (some .int) :: wA) B.pre w (List.mem_cons_of_mem _ h)
  have hown : s.vm.findClass RX11 = some m.cls := findClass_of_methodNamed B.named
  have hlocks := B.notSynchronized
  subst hsz
  have hD := hD0.self (sz := s.heap.size)
  generalize hAe : va_A (wd_495 r k) s.heap.size = A at hD ⊢
  have hA : ∀ q : Nat, s.heap.size ≤ q → A q := fun q h => by rw [← hAe]; exact Or.inr h
  have hS : va_S A s.heap s.heap [] := va_S.rf
  have hl := lv_entry ([.ref (r 0), .int p1]) (n := 2) (Nat.le_of_ble_eq_true rfl)
  rw [lg_entry_eq]
  generalize (lg_sl ([.ref (r 0), .int p1]) ++ List.replicate (2 - (lg_sl ([.ref (r 0), .int p1])).length) Slot.unset).toArray = ls at hl ⊢
  have hl : lv_has ls 2 [(0, .ref (r 0)), (1, .int p1)] := hl
  rcases sw_1 p1 with rfl | ho
  · refine lv_iload_n hx hb dX11_failed_0 rfl (lv_at hl 1 rfl) ?_
    refine lv_if_ne (tgt := 14) hx hb dX11_failed_1 (by decide) (fun c_0 => absurd c_0 (by decide)) (fun c_0 => ?_)
    refine lv_aload_n hx hb dX11_failed_4 rfl (lv_at hl 0 rfl) ?_
    refine va_get (D := (dC, dI)) (ci := 11) (v := .ref (r 10)) (C := RX11) (T := TX11) (N := 20) hx hb hts i_X11 hown hK hP 0 rfl rfl 9 (by decide) (hts _ q_159) (fun _ h9 => h9) rfl dX11_failed_5 ?_
    refine va_get (D := (dC, dI)) (ci := 5) (v := .int 0) (C := RX5) (T := TX5) (N := 11) hx hb hts i_X5 hown hK hP 10 rfl rfl 9 (by decide) (hts _ q_349) (fun _ h9 => h9) rfl dX11_failed_8 ?_
    refine lv_goto (tgt := 30) hx hb dX11_failed_11 (by decide) ?_
    refine W.widen (k := 0) (n := 0) (Nat.le_of_ble_eq_true rfl) (Nat.le_of_ble_eq_true rfl) ?_
    exact W.iret (v := 0) hx hb hr (fun t ht hW => ⟨⟨0, (), rfl, by decide, trivial⟩, hS.F ht⟩) hS.2.2 dX11_failed_30
  · refine lv_iload_n hx hb dX11_failed_0 rfl (lv_at hl 1 rfl) ?_
    refine lv_if_ne (tgt := 14) hx hb dX11_failed_1 (by decide) (fun c_765 => ?_) (fun c_765 => ((by have k_c_765 : p1.toInt = (0 : Int) := congrArg Int32.toInt c_765; omega : False).elim))
    refine lv_iload_n hx hb dX11_failed_14 rfl (lv_at hl 1 rfl) ?_
    refine lv_iconst (v := 1) hx hb dX11_failed_15 (by decide) ?_
    refine lv_icmp_ne (tgt := 29) hx hb dX11_failed_16 (by decide) (fun c_766 => ?_) (fun c_766 => ?_)
    · refine lv_iconst (v := (-1)) hx hb dX11_failed_29 (by decide) ?_
      refine W.widen (k := 0) (n := 0) (Nat.le_of_ble_eq_true rfl) (Nat.le_of_ble_eq_true rfl) ?_
      exact W.iret (v := (-1)) hx hb hr (fun t ht hW => ⟨⟨(-1), (), rfl, (if_pos ho).symm, trivial⟩, hS.F ht⟩) hS.2.2 dX11_failed_30
    · refine lv_aload_n hx hb dX11_failed_19 rfl (lv_at hl 0 rfl) ?_
      refine va_get (D := (dC, dI)) (ci := 11) (v := .ref (r 10)) (C := RX11) (T := TX11) (N := 20) hx hb hts i_X11 hown hK hP 0 rfl rfl 9 (by decide) (hts _ q_159) (fun _ h9 => h9) rfl dX11_failed_20 ?_
      refine va_get (D := (dC, dI)) (ci := 5) (v := .int (-1)) (C := RX5) (T := TX5) (N := 11) hx hb hts i_X5 hown hK hP 10 rfl rfl 10 (by decide) (hts _ q_350) (fun _ h9 => h9) rfl dX11_failed_23 ?_
      refine lv_goto (tgt := 30) hx hb dX11_failed_26 (by decide) ?_
      refine W.widen (k := 0) (n := 0) (Nat.le_of_ble_eq_true rfl) (Nat.le_of_ble_eq_true rfl) ?_
      exact W.iret (v := (-1)) hx hb hr (fun t ht hW => ⟨⟨(-1), (), rfl, (if_pos ho).symm, trivial⟩, hS.F ht⟩) hS.2.2 dX11_failed_30
def wd_631 (r : Nat → Nat) (k : Nat → ClassId) (f770 : Nat → Int32) : va_W := [((r 0), .inr (11, [.ref (r 1), .ref (r 2), .ref (r 3), .ref (r 4), .ref (r 5), .ref (r 6), .ref (r 7), .ref (r 8), .ref (r 9), .ref (r 10), .ref (r 11), .ref (r 12), .ref (r 13), .ref (r 14), .ref (r 15), .int 0, .int 0, .ref (r 16), .int (-1), .ref (r 17)])), ((r 1), .inr (10, [.ref (r 18), .int 0, .int 0, .int 0, .int (-1), .int (-1), .long 0, .int 0, .int 0, .int (-1)])), ((r 18), .inl ((k 0), 1600, .inl (fun _ => 0))), ((r 14), .inl ((k 1), 7, .inl f770)), ((r 4), .inr (8, [.int 0, .int 0, .int 0, .ref (r 19), .int 0, .int 0, .ref (r 20), .int 0, .int 0, .int 0, .int 0, .int 0, .int 0, .ref (r 21)])), ((r 2), .inr (2, [.int 0, .ref (r 22), .ref (r 23), .ref (r 24)])), ((r 3), .inr (2, [.int 0, .ref (r 25), .ref (r 26), .ref (r 27)])), ((r 5), .inr (8, [.int 0, .int 0, .int 0, .ref (r 28), .int 0, .int 0, .ref (r 29), .int 0, .int 0, .int 0, .int 0, .int 0, .int 0, .ref (r 30)])), ((r 28), .inl ((k 2), 168, .inl (fun _ => 0))), ((r 8), .inr (1, [.ref (r 1), .ref (r 3), .ref (r 5), .ref (r 31), .ref (r 32), .int 0, .int 0, .int 3047])), ((r 10), .inr (5, [.ref (r 4), .ref (r 2), .ref (r 7), .ref (r 9), .ref (r 33), .ref (r 34), .int 0, .int 0, .int 0, .int 0, .int (-1)])), ((r 11), .inr (0, [.ref (r 2), .ref (r 7), .long 1])), ((r 12), .inr (6, [.ref (r 7), .ref (r 35), .ref (r 36), .ref (r 37), .int 0, .ref (r 38), .int 0, .int (-1), .int (-1), .null, .null])), ((r 13), .inr (3, [.ref (r 2), .ref (r 39), .int 0]))]
def wd_632 (r : Nat → Nat) (k : Nat → ClassId) (f773 : Nat → Int32) : va_W := [((r 0), .inr (11, [.ref (r 1), .ref (r 2), .ref (r 3), .ref (r 4), .ref (r 5), .ref (r 6), .ref (r 7), .ref (r 8), .ref (r 9), .ref (r 10), .ref (r 11), .ref (r 12), .ref (r 13), .ref (r 14), .ref (r 15), .int 0, .int 0, .ref (r 16), .int (-1), .ref (r 17)])), ((r 1), .inr (10, [.ref (r 18), .int 0, .int 0, .int 0, .int (-1), .int (-1), .long 0, .int 0, .int 0, .int (-1)])), ((r 18), .inl ((k 0), 1600, .inl (fun _ => 0))), ((r 14), .inl ((k 1), 7, .inl f773)), ((r 4), .inr (8, [.int 0, .int 0, .int 0, .ref (r 19), .int 0, .int 0, .ref (r 20), .int 0, .int 0, .int 0, .int 0, .int 0, .int 0, .ref (r 21)])), ((r 2), .inr (2, [.int 0, .ref (r 22), .ref (r 23), .ref (r 24)])), ((r 3), .inr (2, [.int 0, .ref (r 25), .ref (r 26), .ref (r 27)])), ((r 5), .inr (8, [.int 0, .int 0, .int 0, .ref (r 28), .int 0, .int 0, .ref (r 29), .int 0, .int 0, .int 0, .int 0, .int 0, .int 0, .ref (r 30)])), ((r 28), .inl ((k 2), 168, .inl (fun _ => 0))), ((r 8), .inr (1, [.ref (r 1), .ref (r 3), .ref (r 5), .ref (r 31), .ref (r 32), .int 0, .int 0, .int 3047])), ((r 10), .inr (5, [.ref (r 4), .ref (r 2), .ref (r 7), .ref (r 9), .ref (r 33), .ref (r 34), .int 0, .int 0, .int 0, .int 0, .int (-1)])), ((r 11), .inr (0, [.ref (r 2), .ref (r 7), .long 1])), ((r 12), .inr (6, [.ref (r 7), .ref (r 35), .ref (r 36), .ref (r 37), .int 0, .ref (r 38), .int 0, .int (-1), .int (-1), .null, .null])), ((r 13), .inr (3, [.ref (r 2), .ref (r 39), .int 0]))]
set_option maxHeartbeats 4000000 in
set_option maxRecDepth 100000 in
theorem c53_X11_refuse (l : Launch) (dC : Nat → ClassId) (dI : Nat → Nat → Nat) (r : Nat → Nat) (k : Nat → ClassId) (sz : Nat) : Met l yX11_refuse (Cond.code yX11_refuse cX11_refuse 2 (some .int) :: wA) ({ frames := 0, cells := 0, slots := 0, locals := 0 }) (va_Pc [.ref (r 0), .int 3] (fun U => U.heap.size = sz ∧ va_P (dC, dI) vwCl (wd_495 r k) U.heap ∧ va_K (dC, dI) vwCl [((k 0), .int), ((k 1), .int), ((k 2), .int)] U ∧ va_D (fun _ => True) (wd_495 r k))) (va_Qi (fun (r : Int32) (_ : Unit) => r = (-1)) (fun _ t => ∃ f773 : Nat → Int32, va_P (dC, dI) vwCl (wd_632 r k f773) t.heap ∧ va_K (dC, dI) vwCl [((k 0), .int), ((k 1), .int), ((k 2), .int)] t ∧ va_D (va_A (wd_495 r k) sz) (wd_632 r k f773)) (va_A (wd_495 r k) sz)) 0 0 (va_A (wd_495 r k) sz) := by
  refine Met.ofW (cc := cX11_refuse) (maxL := 2) (ret := (some .int)) (by decide) rfl ?_
  intro p e s m args below meth c s₁ B hml hv
  obtain ⟨rfl, hsz, hP, hK, hD0⟩ := hv
  have hx := B.exec
  have hb := B.bytes
  have hr := B.returns
  have hts : ∀ w ∈ wA, w.before [.ref (r 0), .int 3].toArray s = true := fun w h => atoms_spec (ws := Cond.code yX11_refuse cX11_refuse 2 (some .int) :: wA) B.pre w (List.mem_cons_of_mem _ h)
  have hown : s.vm.findClass RX11 = some m.cls := findClass_of_methodNamed B.named
  have hlocks := B.notSynchronized
  subst hsz
  have hD := hD0.self (sz := s.heap.size)
  generalize hAe : va_A (wd_495 r k) s.heap.size = A at hD ⊢
  have hA : ∀ q : Nat, s.heap.size ≤ q → A q := fun q h => by rw [← hAe]; exact Or.inr h
  have hS : va_S A s.heap s.heap [] := va_S.rf
  have hl := lv_entry ([.ref (r 0), .int 3]) (n := 2) (Nat.le_of_ble_eq_true rfl)
  rw [lg_entry_eq]
  generalize (lg_sl ([.ref (r 0), .int 3]) ++ List.replicate (2 - (lg_sl ([.ref (r 0), .int 3])).length) Slot.unset).toArray = ls at hl ⊢
  have hl : lv_has ls 2 [(0, .ref (r 0)), (1, .int 3)] := hl
  refine lv_aload_n hx hb dX11_refuse_0 rfl (lv_at hl 0 rfl) ?_
  refine va_get (D := (dC, dI)) (ci := 11) (v := .ref (r 14)) (C := RX11) (T := TX11) (N := 20) hx hb hts i_X11 hown hK hP 0 rfl rfl 13 (by decide) (hts _ q_178) (fun _ h9 => h9) rfl dX11_refuse_1 ?_
  refine lv_iload_n hx hb dX11_refuse_4 rfl (lv_at hl 1 rfl) ?_
  refine lv_dup2_11 hx hb dX11_refuse_5 rfl rfl ?_
  refine va_iald hx hb hK hP 3 1 rfl rfl (vpi (by decide)) dX11_refuse_6 ?_
  refine lv_topi (fun x_771 ex_771 => ?_)
  obtain rfl : x_771 = 0 := ex_771
  refine lv_iconst (v := 1) hx hb dX11_refuse_7 (by decide) ?_
  refine lv_iadd hx hb dX11_refuse_8 ?_
  refine lv_topi (fun x_772 ex_772 => ?_)
  obtain rfl : x_772 = 1 := ex_772.trans (by decide)
  refine va_iast hx hb hK hP hD hS 3 1 rfl rfl (vpi (by decide)) dX11_refuse_9 (fun H locs hP hD hS => ?_)
  obtain ⟨f773, hP, hD⟩ : ∃ f : Nat → Int32, va_P (dC, dI) vwCl (wd_590 r k f) H ∧ va_D A (wd_590 r k f) := ⟨_, hP, hD⟩
  have hP : va_P (dC, dI) vwCl (wd_632 r k f773) H := hP
  have hD : va_D A (wd_632 r k f773) := hD
  refine lv_iconst (v := (-1)) hx hb dX11_refuse_10 (by decide) ?_
  refine W.widen (k := 0) (n := 0) (Nat.le_of_ble_eq_true rfl) (Nat.le_of_ble_eq_true rfl) ?_
  have hP9 := hP.sub (ws' := (wd_632 r k f773)) [0, 1, 2, 3, 4, 5, 6, 7, 8, 9, 10, 11, 12, 13] rfl
  have hD9 := hD.sub (ws' := (wd_632 r k f773)) [0, 1, 2, 3, 4, 5, 6, 7, 8, 9, 10, 11, 12, 13] (by decide) rfl
  have hK9 := hK.sub (tys' := [((k 0), .int), ((k 1), .int), ((k 2), .int)]) [0, 1, 2] rfl
  exact W.iret (v := (-1)) hx hb hr (fun t ht hW => ⟨⟨(-1), (), rfl, rfl, f773, by rw [ht]; exact hP9, va_K.moved hW.alike hK9, hD9⟩, hS.F ht⟩) hS.2.2 dX11_refuse_11
def wd_633 (r : Nat → Nat) (k : Nat → ClassId) (f775 : Nat → Int32) : va_W := [((r 0), .inr (11, [.ref (r 1), .ref (r 2), .ref (r 3), .ref (r 4), .ref (r 5), .ref (r 6), .ref (r 7), .ref (r 8), .ref (r 9), .ref (r 10), .ref (r 11), .ref (r 12), .ref (r 13), .ref (r 14), .ref (r 15), .int 0, .int 0, .ref (r 16), .int (-1), .ref (r 17)])), ((r 1), .inr (10, [.ref (r 18), .int 0, .int 0, .int 0, .int (-1), .int (-1), .long 0, .int 0, .int 0, .int (-1)])), ((r 18), .inl ((k 0), 1600, .inl (fun _ => 0))), ((r 14), .inl ((k 1), 7, .inl f775)), ((r 4), .inr (8, [.int 0, .int 0, .int 0, .ref (r 19), .int 0, .int 0, .ref (r 20), .int 0, .int 0, .int 0, .int 0, .int 0, .int 0, .ref (r 21)])), ((r 2), .inr (2, [.int 0, .ref (r 22), .ref (r 23), .ref (r 24)])), ((r 3), .inr (2, [.int 0, .ref (r 25), .ref (r 26), .ref (r 27)])), ((r 5), .inr (8, [.int 0, .int 0, .int 0, .ref (r 28), .int 0, .int 0, .ref (r 29), .int 0, .int 0, .int 0, .int 0, .int 0, .int 0, .ref (r 30)])), ((r 28), .inl ((k 2), 168, .inl (fun _ => 0))), ((r 8), .inr (1, [.ref (r 1), .ref (r 3), .ref (r 5), .ref (r 31), .ref (r 32), .int 0, .int 0, .int 3047])), ((r 10), .inr (5, [.ref (r 4), .ref (r 2), .ref (r 7), .ref (r 9), .ref (r 33), .ref (r 34), .int 0, .int 0, .int 0, .int 0, .int (-1)])), ((r 11), .inr (0, [.ref (r 2), .ref (r 7), .long 1])), ((r 12), .inr (6, [.ref (r 7), .ref (r 35), .ref (r 36), .ref (r 37), .int 0, .ref (r 38), .int 0, .int (-1), .int (-1), .null, .null])), ((r 13), .inr (3, [.ref (r 2), .ref (r 39), .int 0]))]
def wd_634 (r : Nat → Nat) (k : Nat → ClassId) (f778 : Nat → Int32) : va_W := [((r 0), .inr (11, [.ref (r 1), .ref (r 2), .ref (r 3), .ref (r 4), .ref (r 5), .ref (r 6), .ref (r 7), .ref (r 8), .ref (r 9), .ref (r 10), .ref (r 11), .ref (r 12), .ref (r 13), .ref (r 14), .ref (r 15), .int 0, .int 0, .ref (r 16), .int (-1), .ref (r 17)])), ((r 1), .inr (10, [.ref (r 18), .int 0, .int 0, .int 0, .int (-1), .int (-1), .long 0, .int 0, .int 0, .int (-1)])), ((r 18), .inl ((k 0), 1600, .inl (fun _ => 0))), ((r 14), .inl ((k 1), 7, .inl f778)), ((r 4), .inr (8, [.int 0, .int 0, .int 0, .ref (r 19), .int 0, .int 0, .ref (r 20), .int 0, .int 0, .int 0, .int 0, .int 0, .int 0, .ref (r 21)])), ((r 2), .inr (2, [.int 0, .ref (r 22), .ref (r 23), .ref (r 24)])), ((r 3), .inr (2, [.int 0, .ref (r 25), .ref (r 26), .ref (r 27)])), ((r 5), .inr (8, [.int 0, .int 0, .int 0, .ref (r 28), .int 0, .int 0, .ref (r 29), .int 0, .int 0, .int 0, .int 0, .int 0, .int 0, .ref (r 30)])), ((r 28), .inl ((k 2), 168, .inl (fun _ => 0))), ((r 8), .inr (1, [.ref (r 1), .ref (r 3), .ref (r 5), .ref (r 31), .ref (r 32), .int 0, .int 0, .int 3047])), ((r 10), .inr (5, [.ref (r 4), .ref (r 2), .ref (r 7), .ref (r 9), .ref (r 33), .ref (r 34), .int 0, .int 0, .int 0, .int 0, .int (-1)])), ((r 11), .inr (0, [.ref (r 2), .ref (r 7), .long 1])), ((r 12), .inr (6, [.ref (r 7), .ref (r 35), .ref (r 36), .ref (r 37), .int 0, .ref (r 38), .int 0, .int (-1), .int (-1), .null, .null])), ((r 13), .inr (3, [.ref (r 2), .ref (r 39), .int 0]))]
set_option maxHeartbeats 4000000 in
set_option maxRecDepth 100000 in
theorem mX11_collect (l : Launch) (dC : Nat → ClassId) (dI : Nat → Nat → Nat) (r : Nat → Nat) (k : Nat → ClassId) (sz : Nat) : Met l yX11_collect (Cond.code yX11_collect cX11_collect 1 (some .int) :: wA) ({ frames := 1, cells := 0, slots := 0, locals := 21 }) (va_Pc [.ref (r 0)] (fun U => U.heap.size = sz ∧ va_P (dC, dI) vwCl (wd_495 r k) U.heap ∧ va_K (dC, dI) vwCl [((k 0), .int), ((k 1), .int), ((k 2), .int)] U ∧ va_D (fun _ => True) (wd_495 r k))) (va_Qi (fun (r : Int32) (_ : Unit) => r = (-1)) (fun _ t => True) (va_A (wd_495 r k) sz)) 0 0 (va_A (wd_495 r k) sz) := by
  refine Met.ofW (cc := cX11_collect) (maxL := 1) (ret := (some .int)) (by decide) rfl ?_
  intro p e s m args below meth c s₁ B hml hv
  obtain ⟨rfl, hsz, hP, hK, hD0⟩ := hv
  have hx := B.exec
  have hb := B.bytes
  have hr := B.returns
  have hts : ∀ w ∈ wA, w.before [.ref (r 0)].toArray s = true := fun w h => atoms_spec (ws := Cond.code yX11_collect cX11_collect 1 (some .int) :: wA) B.pre w (List.mem_cons_of_mem _ h)
  have hown : s.vm.findClass RX11 = some m.cls := findClass_of_methodNamed B.named
  have hlocks := B.notSynchronized
  subst hsz
  have hD := hD0.self (sz := s.heap.size)
  generalize hAe : va_A (wd_495 r k) s.heap.size = A at hD ⊢
  have hA : ∀ q : Nat, s.heap.size ≤ q → A q := fun q h => by rw [← hAe]; exact Or.inr h
  have hS : va_S A s.heap s.heap [] := va_S.rf
  have hl := lv_entry ([.ref (r 0)]) (n := 1) (Nat.le_of_ble_eq_true rfl)
  rw [lg_entry_eq]
  generalize (lg_sl ([.ref (r 0)]) ++ List.replicate (1 - (lg_sl ([.ref (r 0)])).length) Slot.unset).toArray = ls at hl ⊢
  have hl : lv_has ls 1 [(0, .ref (r 0))] := hl
  refine lv_aload_n hx hb dX11_collect_0 rfl (lv_at hl 0 rfl) ?_
  have hPc := hP.sub (ws' := (wd_495 r k)) [0, 1, 2, 3, 4, 5, 6, 7, 8, 9, 10, 11, 12, 13] rfl
  have hDc := hD.sub (ws' := (wd_495 r k)) [0, 1, 2, 3, 4, 5, 6, 7, 8, 9, 10, 11, 12, 13] (by decide) rfl
  have hKc := hK.sub (tys' := [((k 0), .int), ((k 1), .int), ((k 2), .int)]) [0, 1, 2] rfl
  have hFc := va_free (wc := (wd_495 r k)) hD hS hA [0, 1, 2, 3, 4, 5, 6, 7, 8, 9, 10, 11, 12, 13] rfl
  refine va_calli (va_runV (As := []) (rest := []) ⟨hx, hb, hml, hown, hts⟩ (c25_X11_ready l dC dI r k s.heap.size) (cwV 0 hts (gV q_313 q_314 q_315 q_257 q_312) rfl rfl rfl mdv_yX11_ready ⟨Nat.le_of_ble_eq_true rfl, Nat.le_of_ble_eq_true rfl⟩) ⟨fun a U g mk q => by obtain ⟨q0, q1, qP, qK, qD⟩ := q; exact ⟨q0, q1, qP, va_K.moved (u := U) (U := U.calling g mk a) (Vm.Alike.refl U.vm) qK, qD⟩, va_recv hKc hPc (ci := 11) (q0 := 0) rfl rfl, fun U hU hW => ⟨rfl, by rw [hU], by rw [hU]; exact hPc, va_K.moved hW.alike hKc, hDc.weaken (fun _ _ _ _ => trivial)⟩⟩ rfl rfl hl.1 rfl (lv_room (Nat.le_of_ble_eq_true rfl)) dX11_collect_1 ⟨Nat.le_of_ble_eq_true rfl, Nat.le_of_ble_eq_true rfl⟩) hS (fun q _ h => hFc q h) hFc (fun r_776 u t H1 locs ht hvm hw hB hz1 hk1 hS => ?_)
  obtain ⟨hP1, hK1, hD1⟩ := hB
  rw [ht] at hP1
  have hK1 := va_K.moved hvm.symm hK1
  obtain ⟨hP, hD⟩ := va_join (wr := []) (w1 := (wd_495 r k)) hP hD [0, 1, 2, 3, 4, 5, 6, 7, 8, 9, 10, 11, 12, 13] [] rfl rfl (by decide) (by decide) hk1 hFc hP1 hD1
  generalize H1 = H at hP hS ⊢
  have hP : va_P (dC, dI) vwCl (wd_495 r k) H := hP
  have hD : va_D A (wd_495 r k) := hD
  obtain rfl : r_776 = 0 := hw
  refine lv_if_ne (tgt := 13) hx hb dX11_collect_4 (by decide) (fun c_0 => absurd c_0 (by decide)) (fun c_0 => ?_)
  refine lv_aload_n hx hb dX11_collect_7 rfl (lv_at hl 0 rfl) ?_
  refine lv_iconst (v := 3) hx hb dX11_collect_8 (by decide) ?_
  have hPc := hP.sub (ws' := (wd_495 r k)) [0, 1, 2, 3, 4, 5, 6, 7, 8, 9, 10, 11, 12, 13] rfl
  have hDc := hD.sub (ws' := (wd_495 r k)) [0, 1, 2, 3, 4, 5, 6, 7, 8, 9, 10, 11, 12, 13] (by decide) rfl
  have hKc := hK.sub (tys' := [((k 0), .int), ((k 1), .int), ((k 2), .int)]) [0, 1, 2] rfl
  have hFc := va_free (wc := (wd_495 r k)) hD hS hA [0, 1, 2, 3, 4, 5, 6, 7, 8, 9, 10, 11, 12, 13] rfl
  refine va_calli (va_runV (As := [.int 3]) (rest := []) ⟨hx, hb, hml, hown, hts⟩ (c53_X11_refuse l dC dI r k H.size) (cwV 1 hts (gV q_286 q_287 q_288 q_257 q_285) rfl rfl rfl mdv_yX11_refuse ⟨Nat.le_of_ble_eq_true rfl, Nat.le_of_ble_eq_true rfl⟩) ⟨fun a U g mk q => by obtain ⟨q0, q1, qP, qK, qD⟩ := q; exact ⟨q0, q1, qP, va_K.moved (u := U) (U := U.calling g mk a) (Vm.Alike.refl U.vm) qK, qD⟩, va_recv hKc hPc (ci := 11) (q0 := 0) rfl rfl, fun U hU hW => ⟨rfl, by rw [hU], by rw [hU]; exact hPc, va_K.moved hW.alike hKc, hDc.weaken (fun _ _ _ _ => trivial)⟩⟩ rfl rfl hl.1 rfl (lv_room (Nat.le_of_ble_eq_true rfl)) dX11_collect_9 ⟨Nat.le_of_ble_eq_true rfl, Nat.le_of_ble_eq_true rfl⟩) hS (fun q _ h => hFc q h) hFc (fun r_777 u t H1 locs ht hvm hw hB hz1 hk1 hS => ?_)
  obtain ⟨f778, hP1, hK1, hD1⟩ := hB
  rw [ht] at hP1
  have hK1 := va_K.moved hvm.symm hK1
  obtain ⟨hP, hD⟩ := va_join (wr := []) (w1 := (wd_634 r k f778)) hP hD [0, 1, 2, 3, 4, 5, 6, 7, 8, 9, 10, 11, 12, 13] [] rfl rfl (by decide) (by decide) hk1 hFc hP1 hD1
  have hK := (hK.sub (tys' := []) [] rfl).app hK1
  have hK : va_K (dC, dI) vwCl [((k 0), .int), ((k 1), .int), ((k 2), .int)] s := hK
  generalize H1 = H at hP hS ⊢
  have hP : va_P (dC, dI) vwCl (wd_634 r k f778) H := hP
  have hD : va_D A (wd_634 r k f778) := hD
  obtain rfl : r_777 = (-1) := hw
  refine W.widen (k := 0) (n := 0) (Nat.le_of_ble_eq_true rfl) (Nat.le_of_ble_eq_true rfl) ?_
  exact W.iret (v := (-1)) hx hb hr (fun t ht hW => ⟨⟨(-1), (), rfl, rfl, trivial⟩, hS.F ht⟩) hS.2.2 dX11_collect_12
def wd_635 (r : Nat → Nat) (k : Nat → ClassId) (f781 : Nat → Int32) : va_W := [((r 0), .inr (11, [.ref (r 1), .ref (r 2), .ref (r 3), .ref (r 4), .ref (r 5), .ref (r 6), .ref (r 7), .ref (r 8), .ref (r 9), .ref (r 10), .ref (r 11), .ref (r 12), .ref (r 13), .ref (r 14), .ref (r 15), .int 0, .int 0, .ref (r 16), .int (-1), .ref (r 17)])), ((r 1), .inr (10, [.ref (r 18), .int 0, .int 0, .int 0, .int (-1), .int (-1), .long 0, .int 0, .int 0, .int (-1)])), ((r 18), .inl ((k 0), 1600, .inl (fun _ => 0))), ((r 14), .inl ((k 1), 7, .inl f781)), ((r 4), .inr (8, [.int 0, .int 0, .int 0, .ref (r 19), .int 0, .int 0, .ref (r 20), .int 0, .int 0, .int 0, .int 0, .int 0, .int 0, .ref (r 21)])), ((r 2), .inr (2, [.int 0, .ref (r 22), .ref (r 23), .ref (r 24)])), ((r 3), .inr (2, [.int 0, .ref (r 25), .ref (r 26), .ref (r 27)])), ((r 5), .inr (8, [.int 0, .int 0, .int 0, .ref (r 28), .int 0, .int 0, .ref (r 29), .int 0, .int 0, .int 0, .int 0, .int 0, .int 0, .ref (r 30)])), ((r 28), .inl ((k 2), 168, .inl (fun _ => 0))), ((r 8), .inr (1, [.ref (r 1), .ref (r 3), .ref (r 5), .ref (r 31), .ref (r 32), .int 0, .int 0, .int 3047])), ((r 10), .inr (5, [.ref (r 4), .ref (r 2), .ref (r 7), .ref (r 9), .ref (r 33), .ref (r 34), .int 0, .int 0, .int 0, .int 0, .int (-1)])), ((r 11), .inr (0, [.ref (r 2), .ref (r 7), .long 1])), ((r 12), .inr (6, [.ref (r 7), .ref (r 35), .ref (r 36), .ref (r 37), .int 0, .ref (r 38), .int 0, .int (-1), .int (-1), .null, .null])), ((r 13), .inr (3, [.ref (r 2), .ref (r 39), .int 0]))]
def wd_636 (r : Nat → Nat) (k : Nat → ClassId) (f784 : Nat → Int32) : va_W := [((r 0), .inr (11, [.ref (r 1), .ref (r 2), .ref (r 3), .ref (r 4), .ref (r 5), .ref (r 6), .ref (r 7), .ref (r 8), .ref (r 9), .ref (r 10), .ref (r 11), .ref (r 12), .ref (r 13), .ref (r 14), .ref (r 15), .int 0, .int 0, .ref (r 16), .int (-1), .ref (r 17)])), ((r 1), .inr (10, [.ref (r 18), .int 0, .int 0, .int 0, .int (-1), .int (-1), .long 0, .int 0, .int 0, .int (-1)])), ((r 18), .inl ((k 0), 1600, .inl (fun _ => 0))), ((r 14), .inl ((k 1), 7, .inl f784)), ((r 4), .inr (8, [.int 0, .int 0, .int 0, .ref (r 19), .int 0, .int 0, .ref (r 20), .int 0, .int 0, .int 0, .int 0, .int 0, .int 0, .ref (r 21)])), ((r 2), .inr (2, [.int 0, .ref (r 22), .ref (r 23), .ref (r 24)])), ((r 3), .inr (2, [.int 0, .ref (r 25), .ref (r 26), .ref (r 27)])), ((r 5), .inr (8, [.int 0, .int 0, .int 0, .ref (r 28), .int 0, .int 0, .ref (r 29), .int 0, .int 0, .int 0, .int 0, .int 0, .int 0, .ref (r 30)])), ((r 28), .inl ((k 2), 168, .inl (fun _ => 0))), ((r 8), .inr (1, [.ref (r 1), .ref (r 3), .ref (r 5), .ref (r 31), .ref (r 32), .int 0, .int 0, .int 3047])), ((r 10), .inr (5, [.ref (r 4), .ref (r 2), .ref (r 7), .ref (r 9), .ref (r 33), .ref (r 34), .int 0, .int 0, .int 0, .int 0, .int (-1)])), ((r 11), .inr (0, [.ref (r 2), .ref (r 7), .long 1])), ((r 12), .inr (6, [.ref (r 7), .ref (r 35), .ref (r 36), .ref (r 37), .int 0, .ref (r 38), .int 0, .int (-1), .int (-1), .null, .null])), ((r 13), .inr (3, [.ref (r 2), .ref (r 39), .int 0]))]
set_option maxHeartbeats 4000000 in
set_option maxRecDepth 100000 in
theorem mX11_begin (l : Launch) (dC : Nat → ClassId) (dI : Nat → Nat → Nat) (r : Nat → Nat) (k : Nat → ClassId) (sz : Nat) : Met l yX11_begin (Cond.code yX11_begin cX11_begin 1 (some .int) :: wA) ({ frames := 1, cells := 0, slots := 0, locals := 21 }) (va_Pc [.ref (r 0)] (fun U => U.heap.size = sz ∧ va_P (dC, dI) vwCl (wd_495 r k) U.heap ∧ va_K (dC, dI) vwCl [((k 0), .int), ((k 1), .int), ((k 2), .int)] U ∧ va_D (fun _ => True) (wd_495 r k))) (va_Qi (fun (r : Int32) (_ : Unit) => r = (-1)) (fun _ t => True) (va_A (wd_495 r k) sz)) 0 0 (va_A (wd_495 r k) sz) := by
  refine Met.ofW (cc := cX11_begin) (maxL := 1) (ret := (some .int)) (by decide) rfl ?_
  intro p e s m args below meth c s₁ B hml hv
  obtain ⟨rfl, hsz, hP, hK, hD0⟩ := hv
  have hx := B.exec
  have hb := B.bytes
  have hr := B.returns
  have hts : ∀ w ∈ wA, w.before [.ref (r 0)].toArray s = true := fun w h => atoms_spec (ws := Cond.code yX11_begin cX11_begin 1 (some .int) :: wA) B.pre w (List.mem_cons_of_mem _ h)
  have hown : s.vm.findClass RX11 = some m.cls := findClass_of_methodNamed B.named
  have hlocks := B.notSynchronized
  subst hsz
  have hD := hD0.self (sz := s.heap.size)
  generalize hAe : va_A (wd_495 r k) s.heap.size = A at hD ⊢
  have hA : ∀ q : Nat, s.heap.size ≤ q → A q := fun q h => by rw [← hAe]; exact Or.inr h
  have hS : va_S A s.heap s.heap [] := va_S.rf
  have hl := lv_entry ([.ref (r 0)]) (n := 1) (Nat.le_of_ble_eq_true rfl)
  rw [lg_entry_eq]
  generalize (lg_sl ([.ref (r 0)]) ++ List.replicate (1 - (lg_sl ([.ref (r 0)])).length) Slot.unset).toArray = ls at hl ⊢
  have hl : lv_has ls 1 [(0, .ref (r 0))] := hl
  refine lv_aload_n hx hb dX11_begin_0 rfl (lv_at hl 0 rfl) ?_
  have hPc := hP.sub (ws' := (wd_495 r k)) [0, 1, 2, 3, 4, 5, 6, 7, 8, 9, 10, 11, 12, 13] rfl
  have hDc := hD.sub (ws' := (wd_495 r k)) [0, 1, 2, 3, 4, 5, 6, 7, 8, 9, 10, 11, 12, 13] (by decide) rfl
  have hKc := hK.sub (tys' := [((k 0), .int), ((k 1), .int), ((k 2), .int)]) [0, 1, 2] rfl
  have hFc := va_free (wc := (wd_495 r k)) hD hS hA [0, 1, 2, 3, 4, 5, 6, 7, 8, 9, 10, 11, 12, 13] rfl
  refine va_calli (va_runV (As := []) (rest := []) ⟨hx, hb, hml, hown, hts⟩ (c25_X11_ready l dC dI r k s.heap.size) (cwV 0 hts (gV q_313 q_314 q_315 q_257 q_312) rfl rfl rfl mdv_yX11_ready ⟨Nat.le_of_ble_eq_true rfl, Nat.le_of_ble_eq_true rfl⟩) ⟨fun a U g mk q => by obtain ⟨q0, q1, qP, qK, qD⟩ := q; exact ⟨q0, q1, qP, va_K.moved (u := U) (U := U.calling g mk a) (Vm.Alike.refl U.vm) qK, qD⟩, va_recv hKc hPc (ci := 11) (q0 := 0) rfl rfl, fun U hU hW => ⟨rfl, by rw [hU], by rw [hU]; exact hPc, va_K.moved hW.alike hKc, hDc.weaken (fun _ _ _ _ => trivial)⟩⟩ rfl rfl hl.1 rfl (lv_room (Nat.le_of_ble_eq_true rfl)) dX11_begin_1 ⟨Nat.le_of_ble_eq_true rfl, Nat.le_of_ble_eq_true rfl⟩) hS (fun q _ h => hFc q h) hFc (fun r_782 u t H1 locs ht hvm hw hB hz1 hk1 hS => ?_)
  obtain ⟨hP1, hK1, hD1⟩ := hB
  rw [ht] at hP1
  have hK1 := va_K.moved hvm.symm hK1
  obtain ⟨hP, hD⟩ := va_join (wr := []) (w1 := (wd_495 r k)) hP hD [0, 1, 2, 3, 4, 5, 6, 7, 8, 9, 10, 11, 12, 13] [] rfl rfl (by decide) (by decide) hk1 hFc hP1 hD1
  generalize H1 = H at hP hS ⊢
  have hP : va_P (dC, dI) vwCl (wd_495 r k) H := hP
  have hD : va_D A (wd_495 r k) := hD
  obtain rfl : r_782 = 0 := hw
  refine lv_if_ne (tgt := 13) hx hb dX11_begin_4 (by decide) (fun c_0 => absurd c_0 (by decide)) (fun c_0 => ?_)
  refine lv_aload_n hx hb dX11_begin_7 rfl (lv_at hl 0 rfl) ?_
  refine lv_iconst (v := 3) hx hb dX11_begin_8 (by decide) ?_
  have hPc := hP.sub (ws' := (wd_495 r k)) [0, 1, 2, 3, 4, 5, 6, 7, 8, 9, 10, 11, 12, 13] rfl
  have hDc := hD.sub (ws' := (wd_495 r k)) [0, 1, 2, 3, 4, 5, 6, 7, 8, 9, 10, 11, 12, 13] (by decide) rfl
  have hKc := hK.sub (tys' := [((k 0), .int), ((k 1), .int), ((k 2), .int)]) [0, 1, 2] rfl
  have hFc := va_free (wc := (wd_495 r k)) hD hS hA [0, 1, 2, 3, 4, 5, 6, 7, 8, 9, 10, 11, 12, 13] rfl
  refine va_calli (va_runV (As := [.int 3]) (rest := []) ⟨hx, hb, hml, hown, hts⟩ (c53_X11_refuse l dC dI r k H.size) (cwV 1 hts (gV q_286 q_287 q_288 q_257 q_285) rfl rfl rfl mdv_yX11_refuse ⟨Nat.le_of_ble_eq_true rfl, Nat.le_of_ble_eq_true rfl⟩) ⟨fun a U g mk q => by obtain ⟨q0, q1, qP, qK, qD⟩ := q; exact ⟨q0, q1, qP, va_K.moved (u := U) (U := U.calling g mk a) (Vm.Alike.refl U.vm) qK, qD⟩, va_recv hKc hPc (ci := 11) (q0 := 0) rfl rfl, fun U hU hW => ⟨rfl, by rw [hU], by rw [hU]; exact hPc, va_K.moved hW.alike hKc, hDc.weaken (fun _ _ _ _ => trivial)⟩⟩ rfl rfl hl.1 rfl (lv_room (Nat.le_of_ble_eq_true rfl)) dX11_begin_9 ⟨Nat.le_of_ble_eq_true rfl, Nat.le_of_ble_eq_true rfl⟩) hS (fun q _ h => hFc q h) hFc (fun r_783 u t H1 locs ht hvm hw hB hz1 hk1 hS => ?_)
  obtain ⟨f784, hP1, hK1, hD1⟩ := hB
  rw [ht] at hP1
  have hK1 := va_K.moved hvm.symm hK1
  obtain ⟨hP, hD⟩ := va_join (wr := []) (w1 := (wd_636 r k f784)) hP hD [0, 1, 2, 3, 4, 5, 6, 7, 8, 9, 10, 11, 12, 13] [] rfl rfl (by decide) (by decide) hk1 hFc hP1 hD1
  have hK := (hK.sub (tys' := []) [] rfl).app hK1
  have hK : va_K (dC, dI) vwCl [((k 0), .int), ((k 1), .int), ((k 2), .int)] s := hK
  generalize H1 = H at hP hS ⊢
  have hP : va_P (dC, dI) vwCl (wd_636 r k f784) H := hP
  have hD : va_D A (wd_636 r k f784) := hD
  obtain rfl : r_783 = (-1) := hw
  refine W.widen (k := 0) (n := 0) (Nat.le_of_ble_eq_true rfl) (Nat.le_of_ble_eq_true rfl) ?_
  exact W.iret (v := (-1)) hx hb hr (fun t ht hW => ⟨⟨(-1), (), rfl, rfl, trivial⟩, hS.F ht⟩) hS.2.2 dX11_begin_12
def wd_637 (r : Nat → Nat) (k : Nat → ClassId) (f786 : Nat → Int32) : va_W := [((r 0), .inr (11, [.ref (r 1), .ref (r 2), .ref (r 3), .ref (r 4), .ref (r 5), .ref (r 6), .ref (r 7), .ref (r 8), .ref (r 9), .ref (r 10), .ref (r 11), .ref (r 12), .ref (r 13), .ref (r 14), .ref (r 15), .int 0, .int 0, .ref (r 16), .int (-1), .ref (r 17)])), ((r 1), .inr (10, [.ref (r 18), .int 0, .int 0, .int 0, .int (-1), .int (-1), .long 0, .int 0, .int 0, .int (-1)])), ((r 18), .inl ((k 0), 1600, .inl (fun _ => 0))), ((r 14), .inl ((k 1), 7, .inl f786)), ((r 4), .inr (8, [.int 0, .int 0, .int 0, .ref (r 19), .int 0, .int 0, .ref (r 20), .int 0, .int 0, .int 0, .int 0, .int 0, .int 0, .ref (r 21)])), ((r 2), .inr (2, [.int 0, .ref (r 22), .ref (r 23), .ref (r 24)])), ((r 3), .inr (2, [.int 0, .ref (r 25), .ref (r 26), .ref (r 27)])), ((r 5), .inr (8, [.int 0, .int 0, .int 0, .ref (r 28), .int 0, .int 0, .ref (r 29), .int 0, .int 0, .int 0, .int 0, .int 0, .int 0, .ref (r 30)])), ((r 28), .inl ((k 2), 168, .inl (fun _ => 0))), ((r 8), .inr (1, [.ref (r 1), .ref (r 3), .ref (r 5), .ref (r 31), .ref (r 32), .int 0, .int 0, .int 3047])), ((r 10), .inr (5, [.ref (r 4), .ref (r 2), .ref (r 7), .ref (r 9), .ref (r 33), .ref (r 34), .int 0, .int 0, .int 0, .int 0, .int (-1)])), ((r 11), .inr (0, [.ref (r 2), .ref (r 7), .long 1])), ((r 12), .inr (6, [.ref (r 7), .ref (r 35), .ref (r 36), .ref (r 37), .int 0, .ref (r 38), .int 0, .int (-1), .int (-1), .null, .null])), ((r 13), .inr (3, [.ref (r 2), .ref (r 39), .int 0]))]
def wd_638 (r : Nat → Nat) (k : Nat → ClassId) (f788 : Nat → Int32) : va_W := [((r 0), .inr (11, [.ref (r 1), .ref (r 2), .ref (r 3), .ref (r 4), .ref (r 5), .ref (r 6), .ref (r 7), .ref (r 8), .ref (r 9), .ref (r 10), .ref (r 11), .ref (r 12), .ref (r 13), .ref (r 14), .ref (r 15), .int 0, .int 0, .ref (r 16), .int (-1), .ref (r 17)])), ((r 1), .inr (10, [.ref (r 18), .int 0, .int 0, .int 0, .int (-1), .int (-1), .long 0, .int 0, .int 0, .int (-1)])), ((r 18), .inl ((k 0), 1600, .inl (fun _ => 0))), ((r 14), .inl ((k 1), 7, .inl f788)), ((r 4), .inr (8, [.int 0, .int 0, .int 0, .ref (r 19), .int 0, .int 0, .ref (r 20), .int 0, .int 0, .int 0, .int 0, .int 0, .int 0, .ref (r 21)])), ((r 2), .inr (2, [.int 0, .ref (r 22), .ref (r 23), .ref (r 24)])), ((r 3), .inr (2, [.int 0, .ref (r 25), .ref (r 26), .ref (r 27)])), ((r 5), .inr (8, [.int 0, .int 0, .int 0, .ref (r 28), .int 0, .int 0, .ref (r 29), .int 0, .int 0, .int 0, .int 0, .int 0, .int 0, .ref (r 30)])), ((r 28), .inl ((k 2), 168, .inl (fun _ => 0))), ((r 8), .inr (1, [.ref (r 1), .ref (r 3), .ref (r 5), .ref (r 31), .ref (r 32), .int 0, .int 0, .int 3047])), ((r 10), .inr (5, [.ref (r 4), .ref (r 2), .ref (r 7), .ref (r 9), .ref (r 33), .ref (r 34), .int 0, .int 0, .int 0, .int 0, .int (-1)])), ((r 11), .inr (0, [.ref (r 2), .ref (r 7), .long 1])), ((r 12), .inr (6, [.ref (r 7), .ref (r 35), .ref (r 36), .ref (r 37), .int 0, .ref (r 38), .int 0, .int (-1), .int (-1), .null, .null])), ((r 13), .inr (3, [.ref (r 2), .ref (r 39), .int 0]))]
set_option maxHeartbeats 4000000 in
set_option maxRecDepth 100000 in
theorem mX11_step (l : Launch) (dC : Nat → ClassId) (dI : Nat → Nat → Nat) (r : Nat → Nat) (k : Nat → ClassId) (p1 : Int32) (sz : Nat) : Met l yX11_step (Cond.code yX11_step cX11_step 3 (some .int) :: wA) ({ frames := 1, cells := 0, slots := 0, locals := 21 }) (va_Pc [.ref (r 0), .int p1] (fun U => U.heap.size = sz ∧ va_P (dC, dI) vwCl (wd_495 r k) U.heap ∧ va_K (dC, dI) vwCl [((k 0), .int), ((k 1), .int), ((k 2), .int)] U ∧ va_D (fun _ => True) (wd_495 r k))) (va_Qi (fun (r : Int32) (_ : Unit) => r = (-1)) (fun _ t => True) (va_A (wd_495 r k) sz)) 0 0 (va_A (wd_495 r k) sz) := by
  refine Met.ofW (cc := cX11_step) (maxL := 3) (ret := (some .int)) (by decide) rfl ?_
  intro p e s m args below meth c s₁ B hml hv
  obtain ⟨rfl, hsz, hP, hK, hD0⟩ := hv
  have hx := B.exec
  have hb := B.bytes
  have hr := B.returns
  have hts : ∀ w ∈ wA, w.before [.ref (r 0), .int p1].toArray s = true := fun w h => atoms_spec (ws := Cond.code yX11_step cX11_step 3 (some .int) :: wA) B.pre w (List.mem_cons_of_mem _ h)
  have hown : s.vm.findClass RX11 = some m.cls := findClass_of_methodNamed B.named
  have hlocks := B.notSynchronized
  subst hsz
  have hD := hD0.self (sz := s.heap.size)
  generalize hAe : va_A (wd_495 r k) s.heap.size = A at hD ⊢
  have hA : ∀ q : Nat, s.heap.size ≤ q → A q := fun q h => by rw [← hAe]; exact Or.inr h
  have hS : va_S A s.heap s.heap [] := va_S.rf
  have hl := lv_entry ([.ref (r 0), .int p1]) (n := 3) (Nat.le_of_ble_eq_true rfl)
  rw [lg_entry_eq]
  generalize (lg_sl ([.ref (r 0), .int p1]) ++ List.replicate (3 - (lg_sl ([.ref (r 0), .int p1])).length) Slot.unset).toArray = ls at hl ⊢
  have hl : lv_has ls 3 [(0, .ref (r 0)), (1, .int p1)] := hl
  refine lv_aload_n hx hb dX11_step_0 rfl (lv_at hl 0 rfl) ?_
  refine va_get (D := (dC, dI)) (ci := 11) (v := .ref (r 4)) (C := RX11) (T := TX11) (N := 20) hx hb hts i_X11 hown hK hP 0 rfl rfl 3 (by decide) (hts _ q_128) (fun _ h9 => h9) rfl dX11_step_1 ?_
  refine va_get (D := (dC, dI)) (ci := 8) (v := .int 0) (C := RX8) (T := TX8) (N := 14) hx hb hts i_X8 hown hK hP 4 rfl rfl 4 (by decide) (hts _ q_295) (fun _ h9 => h9) rfl dX11_step_4 ?_
  refine lv_if_eq (tgt := 22) hx hb dX11_step_7 (by decide) (fun c_0 => ?_) (fun c_0 => absurd c_0 (by decide))
  refine lv_aload_n hx hb dX11_step_22 rfl (lv_at hl 0 rfl) ?_
  refine lv_iconst (v := 3) hx hb dX11_step_23 (by decide) ?_
  have hPc := hP.sub (ws' := (wd_495 r k)) [0, 1, 2, 3, 4, 5, 6, 7, 8, 9, 10, 11, 12, 13] rfl
  have hDc := hD.sub (ws' := (wd_495 r k)) [0, 1, 2, 3, 4, 5, 6, 7, 8, 9, 10, 11, 12, 13] (by decide) rfl
  have hKc := hK.sub (tys' := [((k 0), .int), ((k 1), .int), ((k 2), .int)]) [0, 1, 2] rfl
  have hFc := va_free (wc := (wd_495 r k)) hD hS hA [0, 1, 2, 3, 4, 5, 6, 7, 8, 9, 10, 11, 12, 13] rfl
  refine va_calli (va_runV (As := [.int 3]) (rest := []) ⟨hx, hb, hml, hown, hts⟩ (c53_X11_refuse l dC dI r k s.heap.size) (cwV 1 hts (gV q_286 q_287 q_288 q_257 q_285) rfl rfl rfl mdv_yX11_refuse ⟨Nat.le_of_ble_eq_true rfl, Nat.le_of_ble_eq_true rfl⟩) ⟨fun a U g mk q => by obtain ⟨q0, q1, qP, qK, qD⟩ := q; exact ⟨q0, q1, qP, va_K.moved (u := U) (U := U.calling g mk a) (Vm.Alike.refl U.vm) qK, qD⟩, va_recv hKc hPc (ci := 11) (q0 := 0) rfl rfl, fun U hU hW => ⟨rfl, by rw [hU], by rw [hU]; exact hPc, va_K.moved hW.alike hKc, hDc.weaken (fun _ _ _ _ => trivial)⟩⟩ rfl rfl hl.1 rfl (lv_room (Nat.le_of_ble_eq_true rfl)) dX11_step_24 ⟨Nat.le_of_ble_eq_true rfl, Nat.le_of_ble_eq_true rfl⟩) hS (fun q _ h => hFc q h) hFc (fun r_787 u t H1 locs ht hvm hw hB hz1 hk1 hS => ?_)
  obtain ⟨f788, hP1, hK1, hD1⟩ := hB
  rw [ht] at hP1
  have hK1 := va_K.moved hvm.symm hK1
  obtain ⟨hP, hD⟩ := va_join (wr := []) (w1 := (wd_638 r k f788)) hP hD [0, 1, 2, 3, 4, 5, 6, 7, 8, 9, 10, 11, 12, 13] [] rfl rfl (by decide) (by decide) hk1 hFc hP1 hD1
  have hK := (hK.sub (tys' := []) [] rfl).app hK1
  have hK : va_K (dC, dI) vwCl [((k 0), .int), ((k 1), .int), ((k 2), .int)] s := hK
  generalize H1 = H at hP hS ⊢
  have hP : va_P (dC, dI) vwCl (wd_638 r k f788) H := hP
  have hD : va_D A (wd_638 r k f788) := hD
  obtain rfl : r_787 = (-1) := hw
  refine W.widen (k := 0) (n := 0) (Nat.le_of_ble_eq_true rfl) (Nat.le_of_ble_eq_true rfl) ?_
  exact W.iret (v := (-1)) hx hb hr (fun t ht hW => ⟨⟨(-1), (), rfl, rfl, trivial⟩, hS.F ht⟩) hS.2.2 dX11_step_27
def wd_639 (r : Nat → Nat) (k : Nat → ClassId) (f792 : Nat → Int32) : va_W := [((r 0), .inr (11, [.ref (r 1), .ref (r 2), .ref (r 3), .ref (r 4), .ref (r 5), .ref (r 6), .ref (r 7), .ref (r 8), .ref (r 9), .ref (r 10), .ref (r 11), .ref (r 12), .ref (r 13), .ref (r 14), .ref (r 15), .int 0, .int 0, .ref (r 16), .int (-1), .ref (r 17)])), ((r 1), .inr (10, [.ref (r 18), .int 0, .int 0, .int 0, .int (-1), .int (-1), .long 0, .int 0, .int 0, .int (-1)])), ((r 18), .inl ((k 0), 1600, .inl (fun _ => 0))), ((r 14), .inl ((k 1), 7, .inl f792)), ((r 4), .inr (8, [.int 0, .int 0, .int 0, .ref (r 19), .int 0, .int 0, .ref (r 20), .int 0, .int 0, .int 0, .int 0, .int 0, .int 0, .ref (r 21)])), ((r 2), .inr (2, [.int 0, .ref (r 22), .ref (r 23), .ref (r 24)])), ((r 3), .inr (2, [.int 0, .ref (r 25), .ref (r 26), .ref (r 27)])), ((r 5), .inr (8, [.int 0, .int 0, .int 0, .ref (r 28), .int 0, .int 0, .ref (r 29), .int 0, .int 0, .int 0, .int 0, .int 0, .int 0, .ref (r 30)])), ((r 28), .inl ((k 2), 168, .inl (fun _ => 0))), ((r 8), .inr (1, [.ref (r 1), .ref (r 3), .ref (r 5), .ref (r 31), .ref (r 32), .int 0, .int 0, .int 3047])), ((r 10), .inr (5, [.ref (r 4), .ref (r 2), .ref (r 7), .ref (r 9), .ref (r 33), .ref (r 34), .int 0, .int 0, .int 0, .int 0, .int (-1)])), ((r 11), .inr (0, [.ref (r 2), .ref (r 7), .long 1])), ((r 12), .inr (6, [.ref (r 7), .ref (r 35), .ref (r 36), .ref (r 37), .int 0, .ref (r 38), .int 0, .int (-1), .int (-1), .null, .null])), ((r 13), .inr (3, [.ref (r 2), .ref (r 39), .int 0]))]
def wd_640 (r : Nat → Nat) (k : Nat → ClassId) (f795 : Nat → Int32) : va_W := [((r 0), .inr (11, [.ref (r 1), .ref (r 2), .ref (r 3), .ref (r 4), .ref (r 5), .ref (r 6), .ref (r 7), .ref (r 8), .ref (r 9), .ref (r 10), .ref (r 11), .ref (r 12), .ref (r 13), .ref (r 14), .ref (r 15), .int 0, .int 0, .ref (r 16), .int (-1), .ref (r 17)])), ((r 1), .inr (10, [.ref (r 18), .int 0, .int 0, .int 0, .int (-1), .int (-1), .long 0, .int 0, .int 0, .int (-1)])), ((r 18), .inl ((k 0), 1600, .inl (fun _ => 0))), ((r 14), .inl ((k 1), 7, .inl f795)), ((r 4), .inr (8, [.int 0, .int 0, .int 0, .ref (r 19), .int 0, .int 0, .ref (r 20), .int 0, .int 0, .int 0, .int 0, .int 0, .int 0, .ref (r 21)])), ((r 2), .inr (2, [.int 0, .ref (r 22), .ref (r 23), .ref (r 24)])), ((r 3), .inr (2, [.int 0, .ref (r 25), .ref (r 26), .ref (r 27)])), ((r 5), .inr (8, [.int 0, .int 0, .int 0, .ref (r 28), .int 0, .int 0, .ref (r 29), .int 0, .int 0, .int 0, .int 0, .int 0, .int 0, .ref (r 30)])), ((r 28), .inl ((k 2), 168, .inl (fun _ => 0))), ((r 8), .inr (1, [.ref (r 1), .ref (r 3), .ref (r 5), .ref (r 31), .ref (r 32), .int 0, .int 0, .int 3047])), ((r 10), .inr (5, [.ref (r 4), .ref (r 2), .ref (r 7), .ref (r 9), .ref (r 33), .ref (r 34), .int 0, .int 0, .int 0, .int 0, .int (-1)])), ((r 11), .inr (0, [.ref (r 2), .ref (r 7), .long 1])), ((r 12), .inr (6, [.ref (r 7), .ref (r 35), .ref (r 36), .ref (r 37), .int 0, .ref (r 38), .int 0, .int (-1), .int (-1), .null, .null])), ((r 13), .inr (3, [.ref (r 2), .ref (r 39), .int 0]))]
set_option maxHeartbeats 4000000 in
set_option maxRecDepth 100000 in
theorem c57_X11_deny (l : Launch) (dC : Nat → ClassId) (dI : Nat → Nat → Nat) (r : Nat → Nat) (k : Nat → ClassId) (sz : Nat) : Met l yX11_deny (Cond.code yX11_deny cX11_deny 2 (some .boolean) :: wA) ({ frames := 0, cells := 0, slots := 0, locals := 0 }) (va_Pc [.ref (r 0), .int 3] (fun U => U.heap.size = sz ∧ va_P (dC, dI) vwCl (wd_495 r k) U.heap ∧ va_K (dC, dI) vwCl [((k 0), .int), ((k 1), .int), ((k 2), .int)] U ∧ va_D (fun _ => True) (wd_495 r k))) (va_Qi (fun (r : Int32) (_ : Unit) => r = 0) (fun _ t => ∃ f795 : Nat → Int32, va_P (dC, dI) vwCl (wd_640 r k f795) t.heap ∧ va_K (dC, dI) vwCl [((k 0), .int), ((k 1), .int), ((k 2), .int)] t ∧ va_D (va_A (wd_495 r k) sz) (wd_640 r k f795)) (va_A (wd_495 r k) sz)) 0 0 (va_A (wd_495 r k) sz) := by
  refine Met.ofW (cc := cX11_deny) (maxL := 2) (ret := (some .boolean)) (by decide) rfl ?_
  intro p e s m args below meth c s₁ B hml hv
  obtain ⟨rfl, hsz, hP, hK, hD0⟩ := hv
  have hx := B.exec
  have hb := B.bytes
  have hr := B.returns
  have hts : ∀ w ∈ wA, w.before [.ref (r 0), .int 3].toArray s = true := fun w h => atoms_spec (ws := Cond.code yX11_deny cX11_deny 2 (some .boolean) :: wA) B.pre w (List.mem_cons_of_mem _ h)
  have hown : s.vm.findClass RX11 = some m.cls := findClass_of_methodNamed B.named
  have hlocks := B.notSynchronized
  subst hsz
  have hD := hD0.self (sz := s.heap.size)
  generalize hAe : va_A (wd_495 r k) s.heap.size = A at hD ⊢
  have hA : ∀ q : Nat, s.heap.size ≤ q → A q := fun q h => by rw [← hAe]; exact Or.inr h
  have hS : va_S A s.heap s.heap [] := va_S.rf
  have hl := lv_entry ([.ref (r 0), .int 3]) (n := 2) (Nat.le_of_ble_eq_true rfl)
  rw [lg_entry_eq]
  generalize (lg_sl ([.ref (r 0), .int 3]) ++ List.replicate (2 - (lg_sl ([.ref (r 0), .int 3])).length) Slot.unset).toArray = ls at hl ⊢
  have hl : lv_has ls 2 [(0, .ref (r 0)), (1, .int 3)] := hl
  refine lv_aload_n hx hb dX11_deny_0 rfl (lv_at hl 0 rfl) ?_
  refine va_get (D := (dC, dI)) (ci := 11) (v := .ref (r 14)) (C := RX11) (T := TX11) (N := 20) hx hb hts i_X11 hown hK hP 0 rfl rfl 13 (by decide) (hts _ q_178) (fun _ h9 => h9) rfl dX11_deny_1 ?_
  refine lv_iload_n hx hb dX11_deny_4 rfl (lv_at hl 1 rfl) ?_
  refine lv_dup2_11 hx hb dX11_deny_5 rfl rfl ?_
  refine va_iald hx hb hK hP 3 1 rfl rfl (vpi (by decide)) dX11_deny_6 ?_
  refine lv_topi (fun x_793 ex_793 => ?_)
  obtain rfl : x_793 = 0 := ex_793
  refine lv_iconst (v := 1) hx hb dX11_deny_7 (by decide) ?_
  refine lv_iadd hx hb dX11_deny_8 ?_
  refine lv_topi (fun x_794 ex_794 => ?_)
  obtain rfl : x_794 = 1 := ex_794.trans (by decide)
  refine va_iast hx hb hK hP hD hS 3 1 rfl rfl (vpi (by decide)) dX11_deny_9 (fun H locs hP hD hS => ?_)
  obtain ⟨f795, hP, hD⟩ : ∃ f : Nat → Int32, va_P (dC, dI) vwCl (wd_590 r k f) H ∧ va_D A (wd_590 r k f) := ⟨_, hP, hD⟩
  have hP : va_P (dC, dI) vwCl (wd_640 r k f795) H := hP
  have hD : va_D A (wd_640 r k f795) := hD
  refine lv_iconst (v := 0) hx hb dX11_deny_10 (by decide) ?_
  refine W.widen (k := 0) (n := 0) (Nat.le_of_ble_eq_true rfl) (Nat.le_of_ble_eq_true rfl) ?_
  have hP9 := hP.sub (ws' := (wd_640 r k f795)) [0, 1, 2, 3, 4, 5, 6, 7, 8, 9, 10, 11, 12, 13] rfl
  have hD9 := hD.sub (ws' := (wd_640 r k f795)) [0, 1, 2, 3, 4, 5, 6, 7, 8, 9, 10, 11, 12, 13] (by decide) rfl
  have hK9 := hK.sub (tys' := [((k 0), .int), ((k 1), .int), ((k 2), .int)]) [0, 1, 2] rfl
  exact W.zret (v := 0) hx hb hr rfl (fun t ht hW => ⟨⟨0, (), rfl, rfl, f795, by rw [ht]; exact hP9, va_K.moved hW.alike hK9, hD9⟩, hS.F ht⟩) hS.2.2 dX11_deny_11
def wd_641 (r : Nat → Nat) (k : Nat → ClassId) (f797 : Nat → Int32) : va_W := [((r 0), .inr (11, [.ref (r 1), .ref (r 2), .ref (r 3), .ref (r 4), .ref (r 5), .ref (r 6), .ref (r 7), .ref (r 8), .ref (r 9), .ref (r 10), .ref (r 11), .ref (r 12), .ref (r 13), .ref (r 14), .ref (r 15), .int 0, .int 0, .ref (r 16), .int (-1), .ref (r 17)])), ((r 1), .inr (10, [.ref (r 18), .int 0, .int 0, .int 0, .int (-1), .int (-1), .long 0, .int 0, .int 0, .int (-1)])), ((r 18), .inl ((k 0), 1600, .inl (fun _ => 0))), ((r 14), .inl ((k 1), 7, .inl f797)), ((r 4), .inr (8, [.int 0, .int 0, .int 0, .ref (r 19), .int 0, .int 0, .ref (r 20), .int 0, .int 0, .int 0, .int 0, .int 0, .int 0, .ref (r 21)])), ((r 2), .inr (2, [.int 0, .ref (r 22), .ref (r 23), .ref (r 24)])), ((r 3), .inr (2, [.int 0, .ref (r 25), .ref (r 26), .ref (r 27)])), ((r 5), .inr (8, [.int 0, .int 0, .int 0, .ref (r 28), .int 0, .int 0, .ref (r 29), .int 0, .int 0, .int 0, .int 0, .int 0, .int 0, .ref (r 30)])), ((r 28), .inl ((k 2), 168, .inl (fun _ => 0))), ((r 8), .inr (1, [.ref (r 1), .ref (r 3), .ref (r 5), .ref (r 31), .ref (r 32), .int 0, .int 0, .int 3047])), ((r 10), .inr (5, [.ref (r 4), .ref (r 2), .ref (r 7), .ref (r 9), .ref (r 33), .ref (r 34), .int 0, .int 0, .int 0, .int 0, .int (-1)])), ((r 11), .inr (0, [.ref (r 2), .ref (r 7), .long 1])), ((r 12), .inr (6, [.ref (r 7), .ref (r 35), .ref (r 36), .ref (r 37), .int 0, .ref (r 38), .int 0, .int (-1), .int (-1), .null, .null])), ((r 13), .inr (3, [.ref (r 2), .ref (r 39), .int 0]))]
def wd_642 (r : Nat → Nat) (k : Nat → ClassId) (f800 : Nat → Int32) : va_W := [((r 0), .inr (11, [.ref (r 1), .ref (r 2), .ref (r 3), .ref (r 4), .ref (r 5), .ref (r 6), .ref (r 7), .ref (r 8), .ref (r 9), .ref (r 10), .ref (r 11), .ref (r 12), .ref (r 13), .ref (r 14), .ref (r 15), .int 0, .int 0, .ref (r 16), .int (-1), .ref (r 17)])), ((r 1), .inr (10, [.ref (r 18), .int 0, .int 0, .int 0, .int (-1), .int (-1), .long 0, .int 0, .int 0, .int (-1)])), ((r 18), .inl ((k 0), 1600, .inl (fun _ => 0))), ((r 14), .inl ((k 1), 7, .inl f800)), ((r 4), .inr (8, [.int 0, .int 0, .int 0, .ref (r 19), .int 0, .int 0, .ref (r 20), .int 0, .int 0, .int 0, .int 0, .int 0, .int 0, .ref (r 21)])), ((r 2), .inr (2, [.int 0, .ref (r 22), .ref (r 23), .ref (r 24)])), ((r 3), .inr (2, [.int 0, .ref (r 25), .ref (r 26), .ref (r 27)])), ((r 5), .inr (8, [.int 0, .int 0, .int 0, .ref (r 28), .int 0, .int 0, .ref (r 29), .int 0, .int 0, .int 0, .int 0, .int 0, .int 0, .ref (r 30)])), ((r 28), .inl ((k 2), 168, .inl (fun _ => 0))), ((r 8), .inr (1, [.ref (r 1), .ref (r 3), .ref (r 5), .ref (r 31), .ref (r 32), .int 0, .int 0, .int 3047])), ((r 10), .inr (5, [.ref (r 4), .ref (r 2), .ref (r 7), .ref (r 9), .ref (r 33), .ref (r 34), .int 0, .int 0, .int 0, .int 0, .int (-1)])), ((r 11), .inr (0, [.ref (r 2), .ref (r 7), .long 1])), ((r 12), .inr (6, [.ref (r 7), .ref (r 35), .ref (r 36), .ref (r 37), .int 0, .ref (r 38), .int 0, .int (-1), .int (-1), .null, .null])), ((r 13), .inr (3, [.ref (r 2), .ref (r 39), .int 0]))]
set_option maxHeartbeats 4000000 in
set_option maxRecDepth 100000 in
theorem mX11_method (l : Launch) (dC : Nat → ClassId) (dI : Nat → Nat → Nat) (r : Nat → Nat) (k : Nat → ClassId) (p1 : Int32) (sz : Nat) : Met l yX11_method (Cond.code yX11_method cX11_method 2 (some .boolean) :: wA) ({ frames := 1, cells := 0, slots := 0, locals := 21 }) (va_Pc [.ref (r 0), .int p1] (fun U => U.heap.size = sz ∧ va_P (dC, dI) vwCl (wd_495 r k) U.heap ∧ va_K (dC, dI) vwCl [((k 0), .int), ((k 1), .int), ((k 2), .int)] U ∧ va_D (fun _ => True) (wd_495 r k))) (va_Qi (fun (r : Int32) (_ : Unit) => r = 0) (fun _ t => True) (va_A (wd_495 r k) sz)) 0 0 (va_A (wd_495 r k) sz) := by
  refine Met.ofW (cc := cX11_method) (maxL := 2) (ret := (some .boolean)) (by decide) rfl ?_
  intro p e s m args below meth c s₁ B hml hv
  obtain ⟨rfl, hsz, hP, hK, hD0⟩ := hv
  have hx := B.exec
  have hb := B.bytes
  have hr := B.returns
  have hts : ∀ w ∈ wA, w.before [.ref (r 0), .int p1].toArray s = true := fun w h => atoms_spec (ws := Cond.code yX11_method cX11_method 2 (some .boolean) :: wA) B.pre w (List.mem_cons_of_mem _ h)
  have hown : s.vm.findClass RX11 = some m.cls := findClass_of_methodNamed B.named
  have hlocks := B.notSynchronized
  subst hsz
  have hD := hD0.self (sz := s.heap.size)
  generalize hAe : va_A (wd_495 r k) s.heap.size = A at hD ⊢
  have hA : ∀ q : Nat, s.heap.size ≤ q → A q := fun q h => by rw [← hAe]; exact Or.inr h
  have hS : va_S A s.heap s.heap [] := va_S.rf
  have hl := lv_entry ([.ref (r 0), .int p1]) (n := 2) (Nat.le_of_ble_eq_true rfl)
  rw [lg_entry_eq]
  generalize (lg_sl ([.ref (r 0), .int p1]) ++ List.replicate (2 - (lg_sl ([.ref (r 0), .int p1])).length) Slot.unset).toArray = ls at hl ⊢
  have hl : lv_has ls 2 [(0, .ref (r 0)), (1, .int p1)] := hl
  refine lv_aload_n hx hb dX11_method_0 rfl (lv_at hl 0 rfl) ?_
  have hPc := hP.sub (ws' := (wd_495 r k)) [0, 1, 2, 3, 4, 5, 6, 7, 8, 9, 10, 11, 12, 13] rfl
  have hDc := hD.sub (ws' := (wd_495 r k)) [0, 1, 2, 3, 4, 5, 6, 7, 8, 9, 10, 11, 12, 13] (by decide) rfl
  have hKc := hK.sub (tys' := [((k 0), .int), ((k 1), .int), ((k 2), .int)]) [0, 1, 2] rfl
  have hFc := va_free (wc := (wd_495 r k)) hD hS hA [0, 1, 2, 3, 4, 5, 6, 7, 8, 9, 10, 11, 12, 13] rfl
  refine va_calli (va_runV (As := []) (rest := []) ⟨hx, hb, hml, hown, hts⟩ (c25_X11_ready l dC dI r k s.heap.size) (cwV 0 hts (gV q_313 q_314 q_315 q_257 q_312) rfl rfl rfl mdv_yX11_ready ⟨Nat.le_of_ble_eq_true rfl, Nat.le_of_ble_eq_true rfl⟩) ⟨fun a U g mk q => by obtain ⟨q0, q1, qP, qK, qD⟩ := q; exact ⟨q0, q1, qP, va_K.moved (u := U) (U := U.calling g mk a) (Vm.Alike.refl U.vm) qK, qD⟩, va_recv hKc hPc (ci := 11) (q0 := 0) rfl rfl, fun U hU hW => ⟨rfl, by rw [hU], by rw [hU]; exact hPc, va_K.moved hW.alike hKc, hDc.weaken (fun _ _ _ _ => trivial)⟩⟩ rfl rfl hl.1 rfl (lv_room (Nat.le_of_ble_eq_true rfl)) dX11_method_1 ⟨Nat.le_of_ble_eq_true rfl, Nat.le_of_ble_eq_true rfl⟩) hS (fun q _ h => hFc q h) hFc (fun r_798 u t H1 locs ht hvm hw hB hz1 hk1 hS => ?_)
  obtain ⟨hP1, hK1, hD1⟩ := hB
  rw [ht] at hP1
  have hK1 := va_K.moved hvm.symm hK1
  obtain ⟨hP, hD⟩ := va_join (wr := []) (w1 := (wd_495 r k)) hP hD [0, 1, 2, 3, 4, 5, 6, 7, 8, 9, 10, 11, 12, 13] [] rfl rfl (by decide) (by decide) hk1 hFc hP1 hD1
  generalize H1 = H at hP hS ⊢
  have hP : va_P (dC, dI) vwCl (wd_495 r k) H := hP
  have hD : va_D A (wd_495 r k) := hD
  obtain rfl : r_798 = 0 := hw
  refine lv_if_eq (tgt := 27) hx hb dX11_method_4 (by decide) (fun c_0 => ?_) (fun c_0 => absurd c_0 (by decide))
  refine lv_aload_n hx hb dX11_method_27 rfl (lv_at hl 0 rfl) ?_
  refine lv_iconst (v := 3) hx hb dX11_method_28 (by decide) ?_
  have hPc := hP.sub (ws' := (wd_495 r k)) [0, 1, 2, 3, 4, 5, 6, 7, 8, 9, 10, 11, 12, 13] rfl
  have hDc := hD.sub (ws' := (wd_495 r k)) [0, 1, 2, 3, 4, 5, 6, 7, 8, 9, 10, 11, 12, 13] (by decide) rfl
  have hKc := hK.sub (tys' := [((k 0), .int), ((k 1), .int), ((k 2), .int)]) [0, 1, 2] rfl
  have hFc := va_free (wc := (wd_495 r k)) hD hS hA [0, 1, 2, 3, 4, 5, 6, 7, 8, 9, 10, 11, 12, 13] rfl
  refine va_calli (va_runV (As := [.int 3]) (rest := []) ⟨hx, hb, hml, hown, hts⟩ (c57_X11_deny l dC dI r k H.size) (cwV 1 hts (gV q_254 q_255 q_256 q_257 q_253) rfl rfl rfl mdv_yX11_deny ⟨Nat.le_of_ble_eq_true rfl, Nat.le_of_ble_eq_true rfl⟩) ⟨fun a U g mk q => by obtain ⟨q0, q1, qP, qK, qD⟩ := q; exact ⟨q0, q1, qP, va_K.moved (u := U) (U := U.calling g mk a) (Vm.Alike.refl U.vm) qK, qD⟩, va_recv hKc hPc (ci := 11) (q0 := 0) rfl rfl, fun U hU hW => ⟨rfl, by rw [hU], by rw [hU]; exact hPc, va_K.moved hW.alike hKc, hDc.weaken (fun _ _ _ _ => trivial)⟩⟩ rfl rfl hl.1 rfl (lv_room (Nat.le_of_ble_eq_true rfl)) dX11_method_29 ⟨Nat.le_of_ble_eq_true rfl, Nat.le_of_ble_eq_true rfl⟩) hS (fun q _ h => hFc q h) hFc (fun r_799 u t H1 locs ht hvm hw hB hz1 hk1 hS => ?_)
  obtain ⟨f800, hP1, hK1, hD1⟩ := hB
  rw [ht] at hP1
  have hK1 := va_K.moved hvm.symm hK1
  obtain ⟨hP, hD⟩ := va_join (wr := []) (w1 := (wd_642 r k f800)) hP hD [0, 1, 2, 3, 4, 5, 6, 7, 8, 9, 10, 11, 12, 13] [] rfl rfl (by decide) (by decide) hk1 hFc hP1 hD1
  have hK := (hK.sub (tys' := []) [] rfl).app hK1
  have hK : va_K (dC, dI) vwCl [((k 0), .int), ((k 1), .int), ((k 2), .int)] s := hK
  generalize H1 = H at hP hS ⊢
  have hP : va_P (dC, dI) vwCl (wd_642 r k f800) H := hP
  have hD : va_D A (wd_642 r k f800) := hD
  obtain rfl : r_799 = 0 := hw
  refine W.widen (k := 0) (n := 0) (Nat.le_of_ble_eq_true rfl) (Nat.le_of_ble_eq_true rfl) ?_
  exact W.zret (v := 0) hx hb hr rfl (fun t ht hW => ⟨⟨0, (), rfl, rfl, trivial⟩, hS.F ht⟩) hS.2.2 dX11_method_32
def wd_643 (r : Nat → Nat) (k : Nat → ClassId) (f804 : Nat → Int32) : va_W := [((r 0), .inr (11, [.ref (r 1), .ref (r 2), .ref (r 3), .ref (r 4), .ref (r 5), .ref (r 6), .ref (r 7), .ref (r 8), .ref (r 9), .ref (r 10), .ref (r 11), .ref (r 12), .ref (r 13), .ref (r 14), .ref (r 15), .int 0, .int 0, .ref (r 16), .int (-1), .ref (r 17)])), ((r 1), .inr (10, [.ref (r 18), .int 0, .int 0, .int 0, .int (-1), .int (-1), .long 0, .int 0, .int 0, .int (-1)])), ((r 18), .inl ((k 0), 1600, .inl (fun _ => 0))), ((r 14), .inl ((k 1), 7, .inl f804)), ((r 4), .inr (8, [.int 0, .int 0, .int 0, .ref (r 19), .int 0, .int 0, .ref (r 20), .int 0, .int 0, .int 0, .int 0, .int 0, .int 0, .ref (r 21)])), ((r 2), .inr (2, [.int 0, .ref (r 22), .ref (r 23), .ref (r 24)])), ((r 3), .inr (2, [.int 0, .ref (r 25), .ref (r 26), .ref (r 27)])), ((r 5), .inr (8, [.int 0, .int 0, .int 0, .ref (r 28), .int 0, .int 0, .ref (r 29), .int 0, .int 0, .int 0, .int 0, .int 0, .int 0, .ref (r 30)])), ((r 28), .inl ((k 2), 168, .inl (fun _ => 0))), ((r 8), .inr (1, [.ref (r 1), .ref (r 3), .ref (r 5), .ref (r 31), .ref (r 32), .int 0, .int 0, .int 3047])), ((r 10), .inr (5, [.ref (r 4), .ref (r 2), .ref (r 7), .ref (r 9), .ref (r 33), .ref (r 34), .int 0, .int 0, .int 0, .int 0, .int (-1)])), ((r 11), .inr (0, [.ref (r 2), .ref (r 7), .long 1])), ((r 12), .inr (6, [.ref (r 7), .ref (r 35), .ref (r 36), .ref (r 37), .int 0, .ref (r 38), .int 0, .int (-1), .int (-1), .null, .null])), ((r 13), .inr (3, [.ref (r 2), .ref (r 39), .int 0]))]
def wd_644 (r : Nat → Nat) (k : Nat → ClassId) (f807 : Nat → Int32) : va_W := [((r 0), .inr (11, [.ref (r 1), .ref (r 2), .ref (r 3), .ref (r 4), .ref (r 5), .ref (r 6), .ref (r 7), .ref (r 8), .ref (r 9), .ref (r 10), .ref (r 11), .ref (r 12), .ref (r 13), .ref (r 14), .ref (r 15), .int 0, .int 0, .ref (r 16), .int (-1), .ref (r 17)])), ((r 1), .inr (10, [.ref (r 18), .int 0, .int 0, .int 0, .int (-1), .int (-1), .long 0, .int 0, .int 0, .int (-1)])), ((r 18), .inl ((k 0), 1600, .inl (fun _ => 0))), ((r 14), .inl ((k 1), 7, .inl f807)), ((r 4), .inr (8, [.int 0, .int 0, .int 0, .ref (r 19), .int 0, .int 0, .ref (r 20), .int 0, .int 0, .int 0, .int 0, .int 0, .int 0, .ref (r 21)])), ((r 2), .inr (2, [.int 0, .ref (r 22), .ref (r 23), .ref (r 24)])), ((r 3), .inr (2, [.int 0, .ref (r 25), .ref (r 26), .ref (r 27)])), ((r 5), .inr (8, [.int 0, .int 0, .int 0, .ref (r 28), .int 0, .int 0, .ref (r 29), .int 0, .int 0, .int 0, .int 0, .int 0, .int 0, .ref (r 30)])), ((r 28), .inl ((k 2), 168, .inl (fun _ => 0))), ((r 8), .inr (1, [.ref (r 1), .ref (r 3), .ref (r 5), .ref (r 31), .ref (r 32), .int 0, .int 0, .int 3047])), ((r 10), .inr (5, [.ref (r 4), .ref (r 2), .ref (r 7), .ref (r 9), .ref (r 33), .ref (r 34), .int 0, .int 0, .int 0, .int 0, .int (-1)])), ((r 11), .inr (0, [.ref (r 2), .ref (r 7), .long 1])), ((r 12), .inr (6, [.ref (r 7), .ref (r 35), .ref (r 36), .ref (r 37), .int 0, .ref (r 38), .int 0, .int (-1), .int (-1), .null, .null])), ((r 13), .inr (3, [.ref (r 2), .ref (r 39), .int 0]))]
set_option maxHeartbeats 4000000 in
set_option maxRecDepth 100000 in
theorem c59_X11_refuse (l : Launch) (dC : Nat → ClassId) (dI : Nat → Nat → Nat) (r : Nat → Nat) (k : Nat → ClassId) (sz : Nat) : Met l yX11_refuse (Cond.code yX11_refuse cX11_refuse 2 (some .int) :: wA) ({ frames := 0, cells := 0, slots := 0, locals := 0 }) (va_Pc [.ref (r 0), .int 4] (fun U => U.heap.size = sz ∧ va_P (dC, dI) vwCl (wd_495 r k) U.heap ∧ va_K (dC, dI) vwCl [((k 0), .int), ((k 1), .int), ((k 2), .int)] U ∧ va_D (fun _ => True) (wd_495 r k))) (va_Qi (fun (r : Int32) (_ : Unit) => r = (-1)) (fun _ t => ∃ f807 : Nat → Int32, va_P (dC, dI) vwCl (wd_644 r k f807) t.heap ∧ va_K (dC, dI) vwCl [((k 0), .int), ((k 1), .int), ((k 2), .int)] t ∧ va_D (va_A (wd_495 r k) sz) (wd_644 r k f807)) (va_A (wd_495 r k) sz)) 0 0 (va_A (wd_495 r k) sz) := by
  refine Met.ofW (cc := cX11_refuse) (maxL := 2) (ret := (some .int)) (by decide) rfl ?_
  intro p e s m args below meth c s₁ B hml hv
  obtain ⟨rfl, hsz, hP, hK, hD0⟩ := hv
  have hx := B.exec
  have hb := B.bytes
  have hr := B.returns
  have hts : ∀ w ∈ wA, w.before [.ref (r 0), .int 4].toArray s = true := fun w h => atoms_spec (ws := Cond.code yX11_refuse cX11_refuse 2 (some .int) :: wA) B.pre w (List.mem_cons_of_mem _ h)
  have hown : s.vm.findClass RX11 = some m.cls := findClass_of_methodNamed B.named
  have hlocks := B.notSynchronized
  subst hsz
  have hD := hD0.self (sz := s.heap.size)
  generalize hAe : va_A (wd_495 r k) s.heap.size = A at hD ⊢
  have hA : ∀ q : Nat, s.heap.size ≤ q → A q := fun q h => by rw [← hAe]; exact Or.inr h
  have hS : va_S A s.heap s.heap [] := va_S.rf
  have hl := lv_entry ([.ref (r 0), .int 4]) (n := 2) (Nat.le_of_ble_eq_true rfl)
  rw [lg_entry_eq]
  generalize (lg_sl ([.ref (r 0), .int 4]) ++ List.replicate (2 - (lg_sl ([.ref (r 0), .int 4])).length) Slot.unset).toArray = ls at hl ⊢
  have hl : lv_has ls 2 [(0, .ref (r 0)), (1, .int 4)] := hl
  refine lv_aload_n hx hb dX11_refuse_0 rfl (lv_at hl 0 rfl) ?_
  refine va_get (D := (dC, dI)) (ci := 11) (v := .ref (r 14)) (C := RX11) (T := TX11) (N := 20) hx hb hts i_X11 hown hK hP 0 rfl rfl 13 (by decide) (hts _ q_178) (fun _ h9 => h9) rfl dX11_refuse_1 ?_
  refine lv_iload_n hx hb dX11_refuse_4 rfl (lv_at hl 1 rfl) ?_
  refine lv_dup2_11 hx hb dX11_refuse_5 rfl rfl ?_
  refine va_iald hx hb hK hP 3 1 rfl rfl (vpi (by decide)) dX11_refuse_6 ?_
  refine lv_topi (fun x_805 ex_805 => ?_)
  obtain rfl : x_805 = 0 := ex_805
  refine lv_iconst (v := 1) hx hb dX11_refuse_7 (by decide) ?_
  refine lv_iadd hx hb dX11_refuse_8 ?_
  refine lv_topi (fun x_806 ex_806 => ?_)
  obtain rfl : x_806 = 1 := ex_806.trans (by decide)
  refine va_iast hx hb hK hP hD hS 3 1 rfl rfl (vpi (by decide)) dX11_refuse_9 (fun H locs hP hD hS => ?_)
  obtain ⟨f807, hP, hD⟩ : ∃ f : Nat → Int32, va_P (dC, dI) vwCl (wd_590 r k f) H ∧ va_D A (wd_590 r k f) := ⟨_, hP, hD⟩
  have hP : va_P (dC, dI) vwCl (wd_644 r k f807) H := hP
  have hD : va_D A (wd_644 r k f807) := hD
  refine lv_iconst (v := (-1)) hx hb dX11_refuse_10 (by decide) ?_
  refine W.widen (k := 0) (n := 0) (Nat.le_of_ble_eq_true rfl) (Nat.le_of_ble_eq_true rfl) ?_
  have hP9 := hP.sub (ws' := (wd_644 r k f807)) [0, 1, 2, 3, 4, 5, 6, 7, 8, 9, 10, 11, 12, 13] rfl
  have hD9 := hD.sub (ws' := (wd_644 r k f807)) [0, 1, 2, 3, 4, 5, 6, 7, 8, 9, 10, 11, 12, 13] (by decide) rfl
  have hK9 := hK.sub (tys' := [((k 0), .int), ((k 1), .int), ((k 2), .int)]) [0, 1, 2] rfl
  exact W.iret (v := (-1)) hx hb hr (fun t ht hW => ⟨⟨(-1), (), rfl, rfl, f807, by rw [ht]; exact hP9, va_K.moved hW.alike hK9, hD9⟩, hS.F ht⟩) hS.2.2 dX11_refuse_11
def wd_645 (r : Nat → Nat) (k : Nat → ClassId) (f809 : Nat → Int32) : va_W := [((r 0), .inr (11, [.ref (r 1), .ref (r 2), .ref (r 3), .ref (r 4), .ref (r 5), .ref (r 6), .ref (r 7), .ref (r 8), .ref (r 9), .ref (r 10), .ref (r 11), .ref (r 12), .ref (r 13), .ref (r 14), .ref (r 15), .int 0, .int 0, .ref (r 16), .int (-1), .ref (r 17)])), ((r 1), .inr (10, [.ref (r 18), .int 0, .int 0, .int 0, .int (-1), .int (-1), .long 0, .int 0, .int 0, .int (-1)])), ((r 18), .inl ((k 0), 1600, .inl (fun _ => 0))), ((r 14), .inl ((k 1), 7, .inl f809)), ((r 4), .inr (8, [.int 0, .int 0, .int 0, .ref (r 19), .int 0, .int 0, .ref (r 20), .int 0, .int 0, .int 0, .int 0, .int 0, .int 0, .ref (r 21)])), ((r 2), .inr (2, [.int 0, .ref (r 22), .ref (r 23), .ref (r 24)])), ((r 3), .inr (2, [.int 0, .ref (r 25), .ref (r 26), .ref (r 27)])), ((r 5), .inr (8, [.int 0, .int 0, .int 0, .ref (r 28), .int 0, .int 0, .ref (r 29), .int 0, .int 0, .int 0, .int 0, .int 0, .int 0, .ref (r 30)])), ((r 28), .inl ((k 2), 168, .inl (fun _ => 0))), ((r 8), .inr (1, [.ref (r 1), .ref (r 3), .ref (r 5), .ref (r 31), .ref (r 32), .int 0, .int 0, .int 3047])), ((r 10), .inr (5, [.ref (r 4), .ref (r 2), .ref (r 7), .ref (r 9), .ref (r 33), .ref (r 34), .int 0, .int 0, .int 0, .int 0, .int (-1)])), ((r 11), .inr (0, [.ref (r 2), .ref (r 7), .long 1])), ((r 12), .inr (6, [.ref (r 7), .ref (r 35), .ref (r 36), .ref (r 37), .int 0, .ref (r 38), .int 0, .int (-1), .int (-1), .null, .null])), ((r 13), .inr (3, [.ref (r 2), .ref (r 39), .int 0]))]
def wd_646 (r : Nat → Nat) (k : Nat → ClassId) (f812 : Nat → Int32) : va_W := [((r 0), .inr (11, [.ref (r 1), .ref (r 2), .ref (r 3), .ref (r 4), .ref (r 5), .ref (r 6), .ref (r 7), .ref (r 8), .ref (r 9), .ref (r 10), .ref (r 11), .ref (r 12), .ref (r 13), .ref (r 14), .ref (r 15), .int 0, .int 0, .ref (r 16), .int (-1), .ref (r 17)])), ((r 1), .inr (10, [.ref (r 18), .int 0, .int 0, .int 0, .int (-1), .int (-1), .long 0, .int 0, .int 0, .int (-1)])), ((r 18), .inl ((k 0), 1600, .inl (fun _ => 0))), ((r 14), .inl ((k 1), 7, .inl f812)), ((r 4), .inr (8, [.int 0, .int 0, .int 0, .ref (r 19), .int 0, .int 0, .ref (r 20), .int 0, .int 0, .int 0, .int 0, .int 0, .int 0, .ref (r 21)])), ((r 2), .inr (2, [.int 0, .ref (r 22), .ref (r 23), .ref (r 24)])), ((r 3), .inr (2, [.int 0, .ref (r 25), .ref (r 26), .ref (r 27)])), ((r 5), .inr (8, [.int 0, .int 0, .int 0, .ref (r 28), .int 0, .int 0, .ref (r 29), .int 0, .int 0, .int 0, .int 0, .int 0, .int 0, .ref (r 30)])), ((r 28), .inl ((k 2), 168, .inl (fun _ => 0))), ((r 8), .inr (1, [.ref (r 1), .ref (r 3), .ref (r 5), .ref (r 31), .ref (r 32), .int 0, .int 0, .int 3047])), ((r 10), .inr (5, [.ref (r 4), .ref (r 2), .ref (r 7), .ref (r 9), .ref (r 33), .ref (r 34), .int 0, .int 0, .int 0, .int 0, .int (-1)])), ((r 11), .inr (0, [.ref (r 2), .ref (r 7), .long 1])), ((r 12), .inr (6, [.ref (r 7), .ref (r 35), .ref (r 36), .ref (r 37), .int 0, .ref (r 38), .int 0, .int (-1), .int (-1), .null, .null])), ((r 13), .inr (3, [.ref (r 2), .ref (r 39), .int 0]))]
set_option maxHeartbeats 4000000 in
set_option maxRecDepth 100000 in
theorem mX11_chance (l : Launch) (dC : Nat → ClassId) (dI : Nat → Nat → Nat) (r : Nat → Nat) (k : Nat → ClassId) (p1 : Int32) (sz : Nat) : Met l yX11_chance (Cond.code yX11_chance cX11_chance 4 (some .int) :: wA) ({ frames := 1, cells := 0, slots := 0, locals := 21 }) (va_Pc [.ref (r 0), .int p1] (fun U => U.heap.size = sz ∧ va_P (dC, dI) vwCl (wd_495 r k) U.heap ∧ va_K (dC, dI) vwCl [((k 0), .int), ((k 1), .int), ((k 2), .int)] U ∧ va_D (fun _ => True) (wd_495 r k))) (va_Qi (fun (r : Int32) (_ : Unit) => r = (-1)) (fun _ t => True) (va_A (wd_495 r k) sz)) 0 0 (va_A (wd_495 r k) sz) := by
  refine Met.ofW (cc := cX11_chance) (maxL := 4) (ret := (some .int)) (by decide) rfl ?_
  intro p e s m args below meth c s₁ B hml hv
  obtain ⟨rfl, hsz, hP, hK, hD0⟩ := hv
  have hx := B.exec
  have hb := B.bytes
  have hr := B.returns
  have hts : ∀ w ∈ wA, w.before [.ref (r 0), .int p1].toArray s = true := fun w h => atoms_spec (ws := Cond.code yX11_chance cX11_chance 4 (some .int) :: wA) B.pre w (List.mem_cons_of_mem _ h)
  have hown : s.vm.findClass RX11 = some m.cls := findClass_of_methodNamed B.named
  have hlocks := B.notSynchronized
  subst hsz
  have hD := hD0.self (sz := s.heap.size)
  generalize hAe : va_A (wd_495 r k) s.heap.size = A at hD ⊢
  have hA : ∀ q : Nat, s.heap.size ≤ q → A q := fun q h => by rw [← hAe]; exact Or.inr h
  have hS : va_S A s.heap s.heap [] := va_S.rf
  have hl := lv_entry ([.ref (r 0), .int p1]) (n := 4) (Nat.le_of_ble_eq_true rfl)
  rw [lg_entry_eq]
  generalize (lg_sl ([.ref (r 0), .int p1]) ++ List.replicate (4 - (lg_sl ([.ref (r 0), .int p1])).length) Slot.unset).toArray = ls at hl ⊢
  have hl : lv_has ls 4 [(0, .ref (r 0)), (1, .int p1)] := hl
  refine lv_aload_n hx hb dX11_chance_0 rfl (lv_at hl 0 rfl) ?_
  have hPc := hP.sub (ws' := (wd_495 r k)) [0, 1, 2, 3, 4, 5, 6, 7, 8, 9, 10, 11, 12, 13] rfl
  have hDc := hD.sub (ws' := (wd_495 r k)) [0, 1, 2, 3, 4, 5, 6, 7, 8, 9, 10, 11, 12, 13] (by decide) rfl
  have hKc := hK.sub (tys' := [((k 0), .int), ((k 1), .int), ((k 2), .int)]) [0, 1, 2] rfl
  have hFc := va_free (wc := (wd_495 r k)) hD hS hA [0, 1, 2, 3, 4, 5, 6, 7, 8, 9, 10, 11, 12, 13] rfl
  refine va_calli (va_runV (As := []) (rest := []) ⟨hx, hb, hml, hown, hts⟩ (c25_X11_ready l dC dI r k s.heap.size) (cwV 0 hts (gV q_313 q_314 q_315 q_257 q_312) rfl rfl rfl mdv_yX11_ready ⟨Nat.le_of_ble_eq_true rfl, Nat.le_of_ble_eq_true rfl⟩) ⟨fun a U g mk q => by obtain ⟨q0, q1, qP, qK, qD⟩ := q; exact ⟨q0, q1, qP, va_K.moved (u := U) (U := U.calling g mk a) (Vm.Alike.refl U.vm) qK, qD⟩, va_recv hKc hPc (ci := 11) (q0 := 0) rfl rfl, fun U hU hW => ⟨rfl, by rw [hU], by rw [hU]; exact hPc, va_K.moved hW.alike hKc, hDc.weaken (fun _ _ _ _ => trivial)⟩⟩ rfl rfl hl.1 rfl (lv_room (Nat.le_of_ble_eq_true rfl)) dX11_chance_1 ⟨Nat.le_of_ble_eq_true rfl, Nat.le_of_ble_eq_true rfl⟩) hS (fun q _ h => hFc q h) hFc (fun r_810 u t H1 locs ht hvm hw hB hz1 hk1 hS => ?_)
  obtain ⟨hP1, hK1, hD1⟩ := hB
  rw [ht] at hP1
  have hK1 := va_K.moved hvm.symm hK1
  obtain ⟨hP, hD⟩ := va_join (wr := []) (w1 := (wd_495 r k)) hP hD [0, 1, 2, 3, 4, 5, 6, 7, 8, 9, 10, 11, 12, 13] [] rfl rfl (by decide) (by decide) hk1 hFc hP1 hD1
  generalize H1 = H at hP hS ⊢
  have hP : va_P (dC, dI) vwCl (wd_495 r k) H := hP
  have hD : va_D A (wd_495 r k) := hD
  obtain rfl : r_810 = 0 := hw
  refine lv_if_eq (tgt := 28) hx hb dX11_chance_4 (by decide) (fun c_0 => ?_) (fun c_0 => absurd c_0 (by decide))
  refine lv_aload_n hx hb dX11_chance_28 rfl (lv_at hl 0 rfl) ?_
  refine lv_iconst (v := 4) hx hb dX11_chance_29 (by decide) ?_
  have hPc := hP.sub (ws' := (wd_495 r k)) [0, 1, 2, 3, 4, 5, 6, 7, 8, 9, 10, 11, 12, 13] rfl
  have hDc := hD.sub (ws' := (wd_495 r k)) [0, 1, 2, 3, 4, 5, 6, 7, 8, 9, 10, 11, 12, 13] (by decide) rfl
  have hKc := hK.sub (tys' := [((k 0), .int), ((k 1), .int), ((k 2), .int)]) [0, 1, 2] rfl
  have hFc := va_free (wc := (wd_495 r k)) hD hS hA [0, 1, 2, 3, 4, 5, 6, 7, 8, 9, 10, 11, 12, 13] rfl
  refine va_calli (va_runV (As := [.int 4]) (rest := []) ⟨hx, hb, hml, hown, hts⟩ (c59_X11_refuse l dC dI r k H.size) (cwV 1 hts (gV q_286 q_287 q_288 q_257 q_285) rfl rfl rfl mdv_yX11_refuse ⟨Nat.le_of_ble_eq_true rfl, Nat.le_of_ble_eq_true rfl⟩) ⟨fun a U g mk q => by obtain ⟨q0, q1, qP, qK, qD⟩ := q; exact ⟨q0, q1, qP, va_K.moved (u := U) (U := U.calling g mk a) (Vm.Alike.refl U.vm) qK, qD⟩, va_recv hKc hPc (ci := 11) (q0 := 0) rfl rfl, fun U hU hW => ⟨rfl, by rw [hU], by rw [hU]; exact hPc, va_K.moved hW.alike hKc, hDc.weaken (fun _ _ _ _ => trivial)⟩⟩ rfl rfl hl.1 rfl (lv_room (Nat.le_of_ble_eq_true rfl)) dX11_chance_30 ⟨Nat.le_of_ble_eq_true rfl, Nat.le_of_ble_eq_true rfl⟩) hS (fun q _ h => hFc q h) hFc (fun r_811 u t H1 locs ht hvm hw hB hz1 hk1 hS => ?_)
  obtain ⟨f812, hP1, hK1, hD1⟩ := hB
  rw [ht] at hP1
  have hK1 := va_K.moved hvm.symm hK1
  obtain ⟨hP, hD⟩ := va_join (wr := []) (w1 := (wd_646 r k f812)) hP hD [0, 1, 2, 3, 4, 5, 6, 7, 8, 9, 10, 11, 12, 13] [] rfl rfl (by decide) (by decide) hk1 hFc hP1 hD1
  have hK := (hK.sub (tys' := []) [] rfl).app hK1
  have hK : va_K (dC, dI) vwCl [((k 0), .int), ((k 1), .int), ((k 2), .int)] s := hK
  generalize H1 = H at hP hS ⊢
  have hP : va_P (dC, dI) vwCl (wd_646 r k f812) H := hP
  have hD : va_D A (wd_646 r k f812) := hD
  obtain rfl : r_811 = (-1) := hw
  refine W.widen (k := 0) (n := 0) (Nat.le_of_ble_eq_true rfl) (Nat.le_of_ble_eq_true rfl) ?_
  exact W.iret (v := (-1)) hx hb hr (fun t ht hW => ⟨⟨(-1), (), rfl, rfl, trivial⟩, hS.F ht⟩) hS.2.2 dX11_chance_33
def wd_647 (r : Nat → Nat) (k : Nat → ClassId) (f815 : Nat → Int32) : va_W := [((r 0), .inr (11, [.ref (r 1), .ref (r 2), .ref (r 3), .ref (r 4), .ref (r 5), .ref (r 6), .ref (r 7), .ref (r 8), .ref (r 9), .ref (r 10), .ref (r 11), .ref (r 12), .ref (r 13), .ref (r 14), .ref (r 15), .int 0, .int 0, .ref (r 16), .int (-1), .ref (r 17)])), ((r 1), .inr (10, [.ref (r 18), .int 0, .int 0, .int 0, .int (-1), .int (-1), .long 0, .int 0, .int 0, .int (-1)])), ((r 18), .inl ((k 0), 1600, .inl (fun _ => 0))), ((r 14), .inl ((k 1), 7, .inl f815)), ((r 4), .inr (8, [.int 0, .int 0, .int 0, .ref (r 19), .int 0, .int 0, .ref (r 20), .int 0, .int 0, .int 0, .int 0, .int 0, .int 0, .ref (r 21)])), ((r 2), .inr (2, [.int 0, .ref (r 22), .ref (r 23), .ref (r 24)])), ((r 3), .inr (2, [.int 0, .ref (r 25), .ref (r 26), .ref (r 27)])), ((r 5), .inr (8, [.int 0, .int 0, .int 0, .ref (r 28), .int 0, .int 0, .ref (r 29), .int 0, .int 0, .int 0, .int 0, .int 0, .int 0, .ref (r 30)])), ((r 28), .inl ((k 2), 168, .inl (fun _ => 0))), ((r 8), .inr (1, [.ref (r 1), .ref (r 3), .ref (r 5), .ref (r 31), .ref (r 32), .int 0, .int 0, .int 3047])), ((r 10), .inr (5, [.ref (r 4), .ref (r 2), .ref (r 7), .ref (r 9), .ref (r 33), .ref (r 34), .int 0, .int 0, .int 0, .int 0, .int (-1)])), ((r 11), .inr (0, [.ref (r 2), .ref (r 7), .long 1])), ((r 12), .inr (6, [.ref (r 7), .ref (r 35), .ref (r 36), .ref (r 37), .int 0, .ref (r 38), .int 0, .int (-1), .int (-1), .null, .null])), ((r 13), .inr (3, [.ref (r 2), .ref (r 39), .int 0]))]
def wd_648 (r : Nat → Nat) (k : Nat → ClassId) (f818 : Nat → Int32) : va_W := [((r 0), .inr (11, [.ref (r 1), .ref (r 2), .ref (r 3), .ref (r 4), .ref (r 5), .ref (r 6), .ref (r 7), .ref (r 8), .ref (r 9), .ref (r 10), .ref (r 11), .ref (r 12), .ref (r 13), .ref (r 14), .ref (r 15), .int 0, .int 0, .ref (r 16), .int (-1), .ref (r 17)])), ((r 1), .inr (10, [.ref (r 18), .int 0, .int 0, .int 0, .int (-1), .int (-1), .long 0, .int 0, .int 0, .int (-1)])), ((r 18), .inl ((k 0), 1600, .inl (fun _ => 0))), ((r 14), .inl ((k 1), 7, .inl f818)), ((r 4), .inr (8, [.int 0, .int 0, .int 0, .ref (r 19), .int 0, .int 0, .ref (r 20), .int 0, .int 0, .int 0, .int 0, .int 0, .int 0, .ref (r 21)])), ((r 2), .inr (2, [.int 0, .ref (r 22), .ref (r 23), .ref (r 24)])), ((r 3), .inr (2, [.int 0, .ref (r 25), .ref (r 26), .ref (r 27)])), ((r 5), .inr (8, [.int 0, .int 0, .int 0, .ref (r 28), .int 0, .int 0, .ref (r 29), .int 0, .int 0, .int 0, .int 0, .int 0, .int 0, .ref (r 30)])), ((r 28), .inl ((k 2), 168, .inl (fun _ => 0))), ((r 8), .inr (1, [.ref (r 1), .ref (r 3), .ref (r 5), .ref (r 31), .ref (r 32), .int 0, .int 0, .int 3047])), ((r 10), .inr (5, [.ref (r 4), .ref (r 2), .ref (r 7), .ref (r 9), .ref (r 33), .ref (r 34), .int 0, .int 0, .int 0, .int 0, .int (-1)])), ((r 11), .inr (0, [.ref (r 2), .ref (r 7), .long 1])), ((r 12), .inr (6, [.ref (r 7), .ref (r 35), .ref (r 36), .ref (r 37), .int 0, .ref (r 38), .int 0, .int (-1), .int (-1), .null, .null])), ((r 13), .inr (3, [.ref (r 2), .ref (r 39), .int 0]))]
set_option maxHeartbeats 4000000 in
set_option maxRecDepth 100000 in
theorem c61_X11_deny (l : Launch) (dC : Nat → ClassId) (dI : Nat → Nat → Nat) (r : Nat → Nat) (k : Nat → ClassId) (sz : Nat) : Met l yX11_deny (Cond.code yX11_deny cX11_deny 2 (some .boolean) :: wA) ({ frames := 0, cells := 0, slots := 0, locals := 0 }) (va_Pc [.ref (r 0), .int 5] (fun U => U.heap.size = sz ∧ va_P (dC, dI) vwCl (wd_495 r k) U.heap ∧ va_K (dC, dI) vwCl [((k 0), .int), ((k 1), .int), ((k 2), .int)] U ∧ va_D (fun _ => True) (wd_495 r k))) (va_Qi (fun (r : Int32) (_ : Unit) => r = 0) (fun _ t => ∃ f818 : Nat → Int32, va_P (dC, dI) vwCl (wd_648 r k f818) t.heap ∧ va_K (dC, dI) vwCl [((k 0), .int), ((k 1), .int), ((k 2), .int)] t ∧ va_D (va_A (wd_495 r k) sz) (wd_648 r k f818)) (va_A (wd_495 r k) sz)) 0 0 (va_A (wd_495 r k) sz) := by
  refine Met.ofW (cc := cX11_deny) (maxL := 2) (ret := (some .boolean)) (by decide) rfl ?_
  intro p e s m args below meth c s₁ B hml hv
  obtain ⟨rfl, hsz, hP, hK, hD0⟩ := hv
  have hx := B.exec
  have hb := B.bytes
  have hr := B.returns
  have hts : ∀ w ∈ wA, w.before [.ref (r 0), .int 5].toArray s = true := fun w h => atoms_spec (ws := Cond.code yX11_deny cX11_deny 2 (some .boolean) :: wA) B.pre w (List.mem_cons_of_mem _ h)
  have hown : s.vm.findClass RX11 = some m.cls := findClass_of_methodNamed B.named
  have hlocks := B.notSynchronized
  subst hsz
  have hD := hD0.self (sz := s.heap.size)
  generalize hAe : va_A (wd_495 r k) s.heap.size = A at hD ⊢
  have hA : ∀ q : Nat, s.heap.size ≤ q → A q := fun q h => by rw [← hAe]; exact Or.inr h
  have hS : va_S A s.heap s.heap [] := va_S.rf
  have hl := lv_entry ([.ref (r 0), .int 5]) (n := 2) (Nat.le_of_ble_eq_true rfl)
  rw [lg_entry_eq]
  generalize (lg_sl ([.ref (r 0), .int 5]) ++ List.replicate (2 - (lg_sl ([.ref (r 0), .int 5])).length) Slot.unset).toArray = ls at hl ⊢
  have hl : lv_has ls 2 [(0, .ref (r 0)), (1, .int 5)] := hl
  refine lv_aload_n hx hb dX11_deny_0 rfl (lv_at hl 0 rfl) ?_
  refine va_get (D := (dC, dI)) (ci := 11) (v := .ref (r 14)) (C := RX11) (T := TX11) (N := 20) hx hb hts i_X11 hown hK hP 0 rfl rfl 13 (by decide) (hts _ q_178) (fun _ h9 => h9) rfl dX11_deny_1 ?_
  refine lv_iload_n hx hb dX11_deny_4 rfl (lv_at hl 1 rfl) ?_
  refine lv_dup2_11 hx hb dX11_deny_5 rfl rfl ?_
  refine va_iald hx hb hK hP 3 1 rfl rfl (vpi (by decide)) dX11_deny_6 ?_
  refine lv_topi (fun x_816 ex_816 => ?_)
  obtain rfl : x_816 = 0 := ex_816
  refine lv_iconst (v := 1) hx hb dX11_deny_7 (by decide) ?_
  refine lv_iadd hx hb dX11_deny_8 ?_
  refine lv_topi (fun x_817 ex_817 => ?_)
  obtain rfl : x_817 = 1 := ex_817.trans (by decide)
  refine va_iast hx hb hK hP hD hS 3 1 rfl rfl (vpi (by decide)) dX11_deny_9 (fun H locs hP hD hS => ?_)
  obtain ⟨f818, hP, hD⟩ : ∃ f : Nat → Int32, va_P (dC, dI) vwCl (wd_590 r k f) H ∧ va_D A (wd_590 r k f) := ⟨_, hP, hD⟩
  have hP : va_P (dC, dI) vwCl (wd_648 r k f818) H := hP
  have hD : va_D A (wd_648 r k f818) := hD
  refine lv_iconst (v := 0) hx hb dX11_deny_10 (by decide) ?_
  refine W.widen (k := 0) (n := 0) (Nat.le_of_ble_eq_true rfl) (Nat.le_of_ble_eq_true rfl) ?_
  have hP9 := hP.sub (ws' := (wd_648 r k f818)) [0, 1, 2, 3, 4, 5, 6, 7, 8, 9, 10, 11, 12, 13] rfl
  have hD9 := hD.sub (ws' := (wd_648 r k f818)) [0, 1, 2, 3, 4, 5, 6, 7, 8, 9, 10, 11, 12, 13] (by decide) rfl
  have hK9 := hK.sub (tys' := [((k 0), .int), ((k 1), .int), ((k 2), .int)]) [0, 1, 2] rfl
  exact W.zret (v := 0) hx hb hr rfl (fun t ht hW => ⟨⟨0, (), rfl, rfl, f818, by rw [ht]; exact hP9, va_K.moved hW.alike hK9, hD9⟩, hS.F ht⟩) hS.2.2 dX11_deny_11
def wd_649 (r : Nat → Nat) (k : Nat → ClassId) (f820 : Nat → Int32) : va_W := [((r 0), .inr (11, [.ref (r 1), .ref (r 2), .ref (r 3), .ref (r 4), .ref (r 5), .ref (r 6), .ref (r 7), .ref (r 8), .ref (r 9), .ref (r 10), .ref (r 11), .ref (r 12), .ref (r 13), .ref (r 14), .ref (r 15), .int 0, .int 0, .ref (r 16), .int (-1), .ref (r 17)])), ((r 1), .inr (10, [.ref (r 18), .int 0, .int 0, .int 0, .int (-1), .int (-1), .long 0, .int 0, .int 0, .int (-1)])), ((r 18), .inl ((k 0), 1600, .inl (fun _ => 0))), ((r 14), .inl ((k 1), 7, .inl f820)), ((r 4), .inr (8, [.int 0, .int 0, .int 0, .ref (r 19), .int 0, .int 0, .ref (r 20), .int 0, .int 0, .int 0, .int 0, .int 0, .int 0, .ref (r 21)])), ((r 2), .inr (2, [.int 0, .ref (r 22), .ref (r 23), .ref (r 24)])), ((r 3), .inr (2, [.int 0, .ref (r 25), .ref (r 26), .ref (r 27)])), ((r 5), .inr (8, [.int 0, .int 0, .int 0, .ref (r 28), .int 0, .int 0, .ref (r 29), .int 0, .int 0, .int 0, .int 0, .int 0, .int 0, .ref (r 30)])), ((r 28), .inl ((k 2), 168, .inl (fun _ => 0))), ((r 8), .inr (1, [.ref (r 1), .ref (r 3), .ref (r 5), .ref (r 31), .ref (r 32), .int 0, .int 0, .int 3047])), ((r 10), .inr (5, [.ref (r 4), .ref (r 2), .ref (r 7), .ref (r 9), .ref (r 33), .ref (r 34), .int 0, .int 0, .int 0, .int 0, .int (-1)])), ((r 11), .inr (0, [.ref (r 2), .ref (r 7), .long 1])), ((r 12), .inr (6, [.ref (r 7), .ref (r 35), .ref (r 36), .ref (r 37), .int 0, .ref (r 38), .int 0, .int (-1), .int (-1), .null, .null])), ((r 13), .inr (3, [.ref (r 2), .ref (r 39), .int 0]))]
def wd_650 (r : Nat → Nat) (k : Nat → ClassId) (f822 : Nat → Int32) : va_W := [((r 0), .inr (11, [.ref (r 1), .ref (r 2), .ref (r 3), .ref (r 4), .ref (r 5), .ref (r 6), .ref (r 7), .ref (r 8), .ref (r 9), .ref (r 10), .ref (r 11), .ref (r 12), .ref (r 13), .ref (r 14), .ref (r 15), .int 0, .int 0, .ref (r 16), .int (-1), .ref (r 17)])), ((r 1), .inr (10, [.ref (r 18), .int 0, .int 0, .int 0, .int (-1), .int (-1), .long 0, .int 0, .int 0, .int (-1)])), ((r 18), .inl ((k 0), 1600, .inl (fun _ => 0))), ((r 14), .inl ((k 1), 7, .inl f822)), ((r 4), .inr (8, [.int 0, .int 0, .int 0, .ref (r 19), .int 0, .int 0, .ref (r 20), .int 0, .int 0, .int 0, .int 0, .int 0, .int 0, .ref (r 21)])), ((r 2), .inr (2, [.int 0, .ref (r 22), .ref (r 23), .ref (r 24)])), ((r 3), .inr (2, [.int 0, .ref (r 25), .ref (r 26), .ref (r 27)])), ((r 5), .inr (8, [.int 0, .int 0, .int 0, .ref (r 28), .int 0, .int 0, .ref (r 29), .int 0, .int 0, .int 0, .int 0, .int 0, .int 0, .ref (r 30)])), ((r 28), .inl ((k 2), 168, .inl (fun _ => 0))), ((r 8), .inr (1, [.ref (r 1), .ref (r 3), .ref (r 5), .ref (r 31), .ref (r 32), .int 0, .int 0, .int 3047])), ((r 10), .inr (5, [.ref (r 4), .ref (r 2), .ref (r 7), .ref (r 9), .ref (r 33), .ref (r 34), .int 0, .int 0, .int 0, .int 0, .int (-1)])), ((r 11), .inr (0, [.ref (r 2), .ref (r 7), .long 1])), ((r 12), .inr (6, [.ref (r 7), .ref (r 35), .ref (r 36), .ref (r 37), .int 0, .ref (r 38), .int 0, .int (-1), .int (-1), .null, .null])), ((r 13), .inr (3, [.ref (r 2), .ref (r 39), .int 0]))]
set_option maxHeartbeats 4000000 in
set_option maxRecDepth 100000 in
theorem mX11_undo (l : Launch) (dC : Nat → ClassId) (dI : Nat → Nat → Nat) (r : Nat → Nat) (k : Nat → ClassId) (sz : Nat) : Met l yX11_undo (Cond.code yX11_undo cX11_undo 1 (some .boolean) :: wA) ({ frames := 1, cells := 0, slots := 0, locals := 21 }) (va_Pc [.ref (r 0)] (fun U => U.heap.size = sz ∧ va_P (dC, dI) vwCl (wd_495 r k) U.heap ∧ va_K (dC, dI) vwCl [((k 0), .int), ((k 1), .int), ((k 2), .int)] U ∧ va_D (fun _ => True) (wd_495 r k))) (va_Qi (fun (r : Int32) (_ : Unit) => r = 0) (fun _ t => True) (va_A (wd_495 r k) sz)) 0 0 (va_A (wd_495 r k) sz) := by
  refine Met.ofW (cc := cX11_undo) (maxL := 1) (ret := (some .boolean)) (by decide) rfl ?_
  intro p e s m args below meth c s₁ B hml hv
  obtain ⟨rfl, hsz, hP, hK, hD0⟩ := hv
  have hx := B.exec
  have hb := B.bytes
  have hr := B.returns
  have hts : ∀ w ∈ wA, w.before [.ref (r 0)].toArray s = true := fun w h => atoms_spec (ws := Cond.code yX11_undo cX11_undo 1 (some .boolean) :: wA) B.pre w (List.mem_cons_of_mem _ h)
  have hown : s.vm.findClass RX11 = some m.cls := findClass_of_methodNamed B.named
  have hlocks := B.notSynchronized
  subst hsz
  have hD := hD0.self (sz := s.heap.size)
  generalize hAe : va_A (wd_495 r k) s.heap.size = A at hD ⊢
  have hA : ∀ q : Nat, s.heap.size ≤ q → A q := fun q h => by rw [← hAe]; exact Or.inr h
  have hS : va_S A s.heap s.heap [] := va_S.rf
  have hl := lv_entry ([.ref (r 0)]) (n := 1) (Nat.le_of_ble_eq_true rfl)
  rw [lg_entry_eq]
  generalize (lg_sl ([.ref (r 0)]) ++ List.replicate (1 - (lg_sl ([.ref (r 0)])).length) Slot.unset).toArray = ls at hl ⊢
  have hl : lv_has ls 1 [(0, .ref (r 0))] := hl
  refine lv_aload_n hx hb dX11_undo_0 rfl (lv_at hl 0 rfl) ?_
  refine va_get (D := (dC, dI)) (ci := 11) (v := .int 0) (C := RX11) (T := TX11) (N := 20) hx hb hts i_X11 hown hK hP 0 rfl rfl 15 (by decide) (hts _ q_180) (fun _ h9 => h9) rfl dX11_undo_1 ?_
  refine lv_if_ne (tgt := 13) hx hb dX11_undo_4 (by decide) (fun c_0 => absurd c_0 (by decide)) (fun c_0 => ?_)
  refine lv_aload_n hx hb dX11_undo_7 rfl (lv_at hl 0 rfl) ?_
  refine lv_iconst (v := 5) hx hb dX11_undo_8 (by decide) ?_
  have hPc := hP.sub (ws' := (wd_495 r k)) [0, 1, 2, 3, 4, 5, 6, 7, 8, 9, 10, 11, 12, 13] rfl
  have hDc := hD.sub (ws' := (wd_495 r k)) [0, 1, 2, 3, 4, 5, 6, 7, 8, 9, 10, 11, 12, 13] (by decide) rfl
  have hKc := hK.sub (tys' := [((k 0), .int), ((k 1), .int), ((k 2), .int)]) [0, 1, 2] rfl
  have hFc := va_free (wc := (wd_495 r k)) hD hS hA [0, 1, 2, 3, 4, 5, 6, 7, 8, 9, 10, 11, 12, 13] rfl
  refine va_calli (va_runV (As := [.int 5]) (rest := []) ⟨hx, hb, hml, hown, hts⟩ (c61_X11_deny l dC dI r k s.heap.size) (cwV 1 hts (gV q_254 q_255 q_256 q_257 q_253) rfl rfl rfl mdv_yX11_deny ⟨Nat.le_of_ble_eq_true rfl, Nat.le_of_ble_eq_true rfl⟩) ⟨fun a U g mk q => by obtain ⟨q0, q1, qP, qK, qD⟩ := q; exact ⟨q0, q1, qP, va_K.moved (u := U) (U := U.calling g mk a) (Vm.Alike.refl U.vm) qK, qD⟩, va_recv hKc hPc (ci := 11) (q0 := 0) rfl rfl, fun U hU hW => ⟨rfl, by rw [hU], by rw [hU]; exact hPc, va_K.moved hW.alike hKc, hDc.weaken (fun _ _ _ _ => trivial)⟩⟩ rfl rfl hl.1 rfl (lv_room (Nat.le_of_ble_eq_true rfl)) dX11_undo_9 ⟨Nat.le_of_ble_eq_true rfl, Nat.le_of_ble_eq_true rfl⟩) hS (fun q _ h => hFc q h) hFc (fun r_821 u t H1 locs ht hvm hw hB hz1 hk1 hS => ?_)
  obtain ⟨f822, hP1, hK1, hD1⟩ := hB
  rw [ht] at hP1
  have hK1 := va_K.moved hvm.symm hK1
  obtain ⟨hP, hD⟩ := va_join (wr := []) (w1 := (wd_650 r k f822)) hP hD [0, 1, 2, 3, 4, 5, 6, 7, 8, 9, 10, 11, 12, 13] [] rfl rfl (by decide) (by decide) hk1 hFc hP1 hD1
  have hK := (hK.sub (tys' := []) [] rfl).app hK1
  have hK : va_K (dC, dI) vwCl [((k 0), .int), ((k 1), .int), ((k 2), .int)] s := hK
  generalize H1 = H at hP hS ⊢
  have hP : va_P (dC, dI) vwCl (wd_650 r k f822) H := hP
  have hD : va_D A (wd_650 r k f822) := hD
  obtain rfl : r_821 = 0 := hw
  refine W.widen (k := 0) (n := 0) (Nat.le_of_ble_eq_true rfl) (Nat.le_of_ble_eq_true rfl) ?_
  exact W.zret (v := 0) hx hb hr rfl (fun t ht hW => ⟨⟨0, (), rfl, rfl, trivial⟩, hS.F ht⟩) hS.2.2 dX11_undo_12
def wd_651 (r : Nat → Nat) (k : Nat → ClassId) (p1 : Int32) : va_W := [((r 0), .inr (11, [.ref (r 1), .ref (r 2), .ref (r 3), .ref (r 4), .ref (r 5), .ref (r 6), .ref (r 7), .ref (r 8), .ref (r 9), .ref (r 10), .ref (r 11), .ref (r 12), .ref (r 13), .ref (r 14), .ref (r 15), .int 0, .int 0, .ref (r 16), .int (-1), .ref (r 17)])), ((r 1), .inr (10, [.ref (r 18), .int 0, .int 0, .int 0, .int (-1), .int (-1), .long 0, .int 0, .int 0, .int (-1)])), ((r 18), .inl ((k 0), 1600, .inl (fun _ => 0))), ((r 14), .inl ((k 1), 7, .inl (fun _ => 0))), ((r 4), .inr (8, [.int 0, .int 0, .int 0, .ref (r 19), .int 0, .int 0, .ref (r 20), .int 0, .int 0, .int 0, .int 0, .int 0, .int 0, .ref (r 21)])), ((r 2), .inr (2, [.int 0, .ref (r 22), .ref (r 23), .ref (r 24)])), ((r 3), .inr (2, [.int 0, .ref (r 25), .ref (r 26), .ref (r 27)])), ((r 5), .inr (8, [.int 0, .int 0, .int 0, .ref (r 28), .int 0, .int 0, .ref (r 29), .int 0, .int 0, .int 0, .int 0, .int 0, .int 0, .ref (r 30)])), ((r 28), .inl ((k 2), 168, .inl (fun _ => 0))), ((r 8), .inr (1, [.ref (r 1), .ref (r 3), .ref (r 5), .ref (r 31), .ref (r 32), .int 0, .int 0, .int 3047])), ((r 10), .inr (5, [.ref (r 4), .ref (r 2), .ref (r 7), .ref (r 9), .ref (r 33), .ref (r 34), .int 0, .int 0, .int 0, .int 0, .int (-1)])), ((r 11), .inr (0, [.ref (r 2), .ref (r 7), .long p1.toInt64])), ((r 12), .inr (6, [.ref (r 7), .ref (r 35), .ref (r 36), .ref (r 37), .int 0, .ref (r 38), .int 0, .int (-1), .int (-1), .null, .null])), ((r 13), .inr (3, [.ref (r 2), .ref (r 39), .int 0]))]
def wd_652 (r : Nat → Nat) (k : Nat → ClassId) (f826 : Nat → Int32) : va_W := [((r 0), .inr (11, [.ref (r 1), .ref (r 2), .ref (r 3), .ref (r 4), .ref (r 5), .ref (r 6), .ref (r 7), .ref (r 8), .ref (r 9), .ref (r 10), .ref (r 11), .ref (r 12), .ref (r 13), .ref (r 14), .ref (r 15), .int 0, .int 0, .ref (r 16), .int (-1), .ref (r 17)])), ((r 1), .inr (10, [.ref (r 18), .int 0, .int 0, .int 0, .int (-1), .int (-1), .long 0, .int 0, .int 0, .int (-1)])), ((r 18), .inl ((k 0), 1600, .inl (fun _ => 0))), ((r 14), .inl ((k 1), 7, .inl f826)), ((r 4), .inr (8, [.int 0, .int 0, .int 0, .ref (r 19), .int 0, .int 0, .ref (r 20), .int 0, .int 0, .int 0, .int 0, .int 0, .int 0, .ref (r 21)])), ((r 2), .inr (2, [.int 0, .ref (r 22), .ref (r 23), .ref (r 24)])), ((r 3), .inr (2, [.int 0, .ref (r 25), .ref (r 26), .ref (r 27)])), ((r 5), .inr (8, [.int 0, .int 0, .int 0, .ref (r 28), .int 0, .int 0, .ref (r 29), .int 0, .int 0, .int 0, .int 0, .int 0, .int 0, .ref (r 30)])), ((r 28), .inl ((k 2), 168, .inl (fun _ => 0))), ((r 8), .inr (1, [.ref (r 1), .ref (r 3), .ref (r 5), .ref (r 31), .ref (r 32), .int 0, .int 0, .int 3047])), ((r 10), .inr (5, [.ref (r 4), .ref (r 2), .ref (r 7), .ref (r 9), .ref (r 33), .ref (r 34), .int 0, .int 0, .int 0, .int 0, .int (-1)])), ((r 11), .inr (0, [.ref (r 2), .ref (r 7), .long 1])), ((r 12), .inr (6, [.ref (r 7), .ref (r 35), .ref (r 36), .ref (r 37), .int 0, .ref (r 38), .int 0, .int (-1), .int (-1), .null, .null])), ((r 13), .inr (3, [.ref (r 2), .ref (r 39), .int 0]))]
def wd_653 (r : Nat → Nat) (k : Nat → ClassId) (f829 : Nat → Int32) : va_W := [((r 0), .inr (11, [.ref (r 1), .ref (r 2), .ref (r 3), .ref (r 4), .ref (r 5), .ref (r 6), .ref (r 7), .ref (r 8), .ref (r 9), .ref (r 10), .ref (r 11), .ref (r 12), .ref (r 13), .ref (r 14), .ref (r 15), .int 0, .int 0, .ref (r 16), .int (-1), .ref (r 17)])), ((r 1), .inr (10, [.ref (r 18), .int 0, .int 0, .int 0, .int (-1), .int (-1), .long 0, .int 0, .int 0, .int (-1)])), ((r 18), .inl ((k 0), 1600, .inl (fun _ => 0))), ((r 14), .inl ((k 1), 7, .inl f829)), ((r 4), .inr (8, [.int 0, .int 0, .int 0, .ref (r 19), .int 0, .int 0, .ref (r 20), .int 0, .int 0, .int 0, .int 0, .int 0, .int 0, .ref (r 21)])), ((r 2), .inr (2, [.int 0, .ref (r 22), .ref (r 23), .ref (r 24)])), ((r 3), .inr (2, [.int 0, .ref (r 25), .ref (r 26), .ref (r 27)])), ((r 5), .inr (8, [.int 0, .int 0, .int 0, .ref (r 28), .int 0, .int 0, .ref (r 29), .int 0, .int 0, .int 0, .int 0, .int 0, .int 0, .ref (r 30)])), ((r 28), .inl ((k 2), 168, .inl (fun _ => 0))), ((r 8), .inr (1, [.ref (r 1), .ref (r 3), .ref (r 5), .ref (r 31), .ref (r 32), .int 0, .int 0, .int 3047])), ((r 10), .inr (5, [.ref (r 4), .ref (r 2), .ref (r 7), .ref (r 9), .ref (r 33), .ref (r 34), .int 0, .int 0, .int 0, .int 0, .int (-1)])), ((r 11), .inr (0, [.ref (r 2), .ref (r 7), .long 1])), ((r 12), .inr (6, [.ref (r 7), .ref (r 35), .ref (r 36), .ref (r 37), .int 0, .ref (r 38), .int 0, .int (-1), .int (-1), .null, .null])), ((r 13), .inr (3, [.ref (r 2), .ref (r 39), .int 0]))]
set_option maxHeartbeats 4000000 in
set_option maxRecDepth 100000 in
theorem c63_X11_deny (l : Launch) (dC : Nat → ClassId) (dI : Nat → Nat → Nat) (r : Nat → Nat) (k : Nat → ClassId) (sz : Nat) : Met l yX11_deny (Cond.code yX11_deny cX11_deny 2 (some .boolean) :: wA) ({ frames := 0, cells := 0, slots := 0, locals := 0 }) (va_Pc [.ref (r 0), .int 6] (fun U => U.heap.size = sz ∧ va_P (dC, dI) vwCl (wd_495 r k) U.heap ∧ va_K (dC, dI) vwCl [((k 0), .int), ((k 1), .int), ((k 2), .int)] U ∧ va_D (fun _ => True) (wd_495 r k))) (va_Qi (fun (r : Int32) (_ : Unit) => r = 0) (fun _ t => ∃ f829 : Nat → Int32, va_P (dC, dI) vwCl (wd_653 r k f829) t.heap ∧ va_K (dC, dI) vwCl [((k 0), .int), ((k 1), .int), ((k 2), .int)] t ∧ va_D (va_A (wd_495 r k) sz) (wd_653 r k f829)) (va_A (wd_495 r k) sz)) 0 0 (va_A (wd_495 r k) sz) := by
  refine Met.ofW (cc := cX11_deny) (maxL := 2) (ret := (some .boolean)) (by decide) rfl ?_
  intro p e s m args below meth c s₁ B hml hv
  obtain ⟨rfl, hsz, hP, hK, hD0⟩ := hv
  have hx := B.exec
  have hb := B.bytes
  have hr := B.returns
  have hts : ∀ w ∈ wA, w.before [.ref (r 0), .int 6].toArray s = true := fun w h => atoms_spec (ws := Cond.code yX11_deny cX11_deny 2 (some .boolean) :: wA) B.pre w (List.mem_cons_of_mem _ h)
  have hown : s.vm.findClass RX11 = some m.cls := findClass_of_methodNamed B.named
  have hlocks := B.notSynchronized
  subst hsz
  have hD := hD0.self (sz := s.heap.size)
  generalize hAe : va_A (wd_495 r k) s.heap.size = A at hD ⊢
  have hA : ∀ q : Nat, s.heap.size ≤ q → A q := fun q h => by rw [← hAe]; exact Or.inr h
  have hS : va_S A s.heap s.heap [] := va_S.rf
  have hl := lv_entry ([.ref (r 0), .int 6]) (n := 2) (Nat.le_of_ble_eq_true rfl)
  rw [lg_entry_eq]
  generalize (lg_sl ([.ref (r 0), .int 6]) ++ List.replicate (2 - (lg_sl ([.ref (r 0), .int 6])).length) Slot.unset).toArray = ls at hl ⊢
  have hl : lv_has ls 2 [(0, .ref (r 0)), (1, .int 6)] := hl
  refine lv_aload_n hx hb dX11_deny_0 rfl (lv_at hl 0 rfl) ?_
  refine va_get (D := (dC, dI)) (ci := 11) (v := .ref (r 14)) (C := RX11) (T := TX11) (N := 20) hx hb hts i_X11 hown hK hP 0 rfl rfl 13 (by decide) (hts _ q_178) (fun _ h9 => h9) rfl dX11_deny_1 ?_
  refine lv_iload_n hx hb dX11_deny_4 rfl (lv_at hl 1 rfl) ?_
  refine lv_dup2_11 hx hb dX11_deny_5 rfl rfl ?_
  refine va_iald hx hb hK hP 3 1 rfl rfl (vpi (by decide)) dX11_deny_6 ?_
  refine lv_topi (fun x_827 ex_827 => ?_)
  obtain rfl : x_827 = 0 := ex_827
  refine lv_iconst (v := 1) hx hb dX11_deny_7 (by decide) ?_
  refine lv_iadd hx hb dX11_deny_8 ?_
  refine lv_topi (fun x_828 ex_828 => ?_)
  obtain rfl : x_828 = 1 := ex_828.trans (by decide)
  refine va_iast hx hb hK hP hD hS 3 1 rfl rfl (vpi (by decide)) dX11_deny_9 (fun H locs hP hD hS => ?_)
  obtain ⟨f829, hP, hD⟩ : ∃ f : Nat → Int32, va_P (dC, dI) vwCl (wd_590 r k f) H ∧ va_D A (wd_590 r k f) := ⟨_, hP, hD⟩
  have hP : va_P (dC, dI) vwCl (wd_653 r k f829) H := hP
  have hD : va_D A (wd_653 r k f829) := hD
  refine lv_iconst (v := 0) hx hb dX11_deny_10 (by decide) ?_
  refine W.widen (k := 0) (n := 0) (Nat.le_of_ble_eq_true rfl) (Nat.le_of_ble_eq_true rfl) ?_
  have hP9 := hP.sub (ws' := (wd_653 r k f829)) [0, 1, 2, 3, 4, 5, 6, 7, 8, 9, 10, 11, 12, 13] rfl
  have hD9 := hD.sub (ws' := (wd_653 r k f829)) [0, 1, 2, 3, 4, 5, 6, 7, 8, 9, 10, 11, 12, 13] (by decide) rfl
  have hK9 := hK.sub (tys' := [((k 0), .int), ((k 1), .int), ((k 2), .int)]) [0, 1, 2] rfl
  exact W.zret (v := 0) hx hb hr rfl (fun t ht hW => ⟨⟨0, (), rfl, rfl, f829, by rw [ht]; exact hP9, va_K.moved hW.alike hK9, hD9⟩, hS.F ht⟩) hS.2.2 dX11_deny_11
def wd_654 (r : Nat → Nat) (k : Nat → ClassId) (f831 : Nat → Int32) : va_W := [((r 0), .inr (11, [.ref (r 1), .ref (r 2), .ref (r 3), .ref (r 4), .ref (r 5), .ref (r 6), .ref (r 7), .ref (r 8), .ref (r 9), .ref (r 10), .ref (r 11), .ref (r 12), .ref (r 13), .ref (r 14), .ref (r 15), .int 0, .int 0, .ref (r 16), .int (-1), .ref (r 17)])), ((r 1), .inr (10, [.ref (r 18), .int 0, .int 0, .int 0, .int (-1), .int (-1), .long 0, .int 0, .int 0, .int (-1)])), ((r 18), .inl ((k 0), 1600, .inl (fun _ => 0))), ((r 14), .inl ((k 1), 7, .inl f831)), ((r 4), .inr (8, [.int 0, .int 0, .int 0, .ref (r 19), .int 0, .int 0, .ref (r 20), .int 0, .int 0, .int 0, .int 0, .int 0, .int 0, .ref (r 21)])), ((r 2), .inr (2, [.int 0, .ref (r 22), .ref (r 23), .ref (r 24)])), ((r 3), .inr (2, [.int 0, .ref (r 25), .ref (r 26), .ref (r 27)])), ((r 5), .inr (8, [.int 0, .int 0, .int 0, .ref (r 28), .int 0, .int 0, .ref (r 29), .int 0, .int 0, .int 0, .int 0, .int 0, .int 0, .ref (r 30)])), ((r 28), .inl ((k 2), 168, .inl (fun _ => 0))), ((r 8), .inr (1, [.ref (r 1), .ref (r 3), .ref (r 5), .ref (r 31), .ref (r 32), .int 0, .int 0, .int 3047])), ((r 10), .inr (5, [.ref (r 4), .ref (r 2), .ref (r 7), .ref (r 9), .ref (r 33), .ref (r 34), .int 0, .int 0, .int 0, .int 0, .int (-1)])), ((r 11), .inr (0, [.ref (r 2), .ref (r 7), .long 1])), ((r 12), .inr (6, [.ref (r 7), .ref (r 35), .ref (r 36), .ref (r 37), .int 0, .ref (r 38), .int 0, .int (-1), .int (-1), .null, .null])), ((r 13), .inr (3, [.ref (r 2), .ref (r 39), .int 0]))]
def wd_655 (r : Nat → Nat) (k : Nat → ClassId) (f834 : Nat → Int32) : va_W := [((r 0), .inr (11, [.ref (r 1), .ref (r 2), .ref (r 3), .ref (r 4), .ref (r 5), .ref (r 6), .ref (r 7), .ref (r 8), .ref (r 9), .ref (r 10), .ref (r 11), .ref (r 12), .ref (r 13), .ref (r 14), .ref (r 15), .int 0, .int 0, .ref (r 16), .int (-1), .ref (r 17)])), ((r 1), .inr (10, [.ref (r 18), .int 0, .int 0, .int 0, .int (-1), .int (-1), .long 0, .int 0, .int 0, .int (-1)])), ((r 18), .inl ((k 0), 1600, .inl (fun _ => 0))), ((r 14), .inl ((k 1), 7, .inl f834)), ((r 4), .inr (8, [.int 0, .int 0, .int 0, .ref (r 19), .int 0, .int 0, .ref (r 20), .int 0, .int 0, .int 0, .int 0, .int 0, .int 0, .ref (r 21)])), ((r 2), .inr (2, [.int 0, .ref (r 22), .ref (r 23), .ref (r 24)])), ((r 3), .inr (2, [.int 0, .ref (r 25), .ref (r 26), .ref (r 27)])), ((r 5), .inr (8, [.int 0, .int 0, .int 0, .ref (r 28), .int 0, .int 0, .ref (r 29), .int 0, .int 0, .int 0, .int 0, .int 0, .int 0, .ref (r 30)])), ((r 28), .inl ((k 2), 168, .inl (fun _ => 0))), ((r 8), .inr (1, [.ref (r 1), .ref (r 3), .ref (r 5), .ref (r 31), .ref (r 32), .int 0, .int 0, .int 3047])), ((r 10), .inr (5, [.ref (r 4), .ref (r 2), .ref (r 7), .ref (r 9), .ref (r 33), .ref (r 34), .int 0, .int 0, .int 0, .int 0, .int (-1)])), ((r 11), .inr (0, [.ref (r 2), .ref (r 7), .long 1])), ((r 12), .inr (6, [.ref (r 7), .ref (r 35), .ref (r 36), .ref (r 37), .int 0, .ref (r 38), .int 0, .int (-1), .int (-1), .null, .null])), ((r 13), .inr (3, [.ref (r 2), .ref (r 39), .int 0]))]
set_option maxHeartbeats 4000000 in
set_option maxRecDepth 100000 in
theorem mX11_seed (l : Launch) (dC : Nat → ClassId) (dI : Nat → Nat → Nat) (r : Nat → Nat) (k : Nat → ClassId) (p1 : Int32) (sz : Nat) : Met l yX11_seed (Cond.code yX11_seed cX11_seed 2 (some .boolean) :: wA) ({ frames := 1, cells := 0, slots := 0, locals := 21 }) (va_Pc [.ref (r 0), .int p1] (fun U => U.heap.size = sz ∧ va_P (dC, dI) vwCl (wd_495 r k) U.heap ∧ va_K (dC, dI) vwCl [((k 0), .int), ((k 1), .int), ((k 2), .int)] U ∧ va_D (fun _ => True) (wd_495 r k))) (va_Qi (fun (r : Int32) (_ : Unit) => r = sp_s p1) (fun _ t => True) (va_A (wd_495 r k) sz)) 0 0 (va_A (wd_495 r k) sz) := by
  refine Met.ofW (cc := cX11_seed) (maxL := 2) (ret := (some .boolean)) (by decide) rfl ?_
  intro p e s m args below meth c s₁ B hml hv
  obtain ⟨rfl, hsz, hP, hK, hD0⟩ := hv
  have hx := B.exec
  have hb := B.bytes
  have hr := B.returns
  have hts : ∀ w ∈ wA, w.before [.ref (r 0), .int p1].toArray s = true := fun w h => atoms_spec (ws := Cond.code yX11_seed cX11_seed 2 (some .boolean) :: wA) B.pre w (List.mem_cons_of_mem _ h)
  have hown : s.vm.findClass RX11 = some m.cls := findClass_of_methodNamed B.named
  have hlocks := B.notSynchronized
  subst hsz
  have hD := hD0.self (sz := s.heap.size)
  generalize hAe : va_A (wd_495 r k) s.heap.size = A at hD ⊢
  have hA : ∀ q : Nat, s.heap.size ≤ q → A q := fun q h => by rw [← hAe]; exact Or.inr h
  have hS : va_S A s.heap s.heap [] := va_S.rf
  have hl := lv_entry ([.ref (r 0), .int p1]) (n := 2) (Nat.le_of_ble_eq_true rfl)
  rw [lg_entry_eq]
  generalize (lg_sl ([.ref (r 0), .int p1]) ++ List.replicate (2 - (lg_sl ([.ref (r 0), .int p1])).length) Slot.unset).toArray = ls at hl ⊢
  have hl : lv_has ls 2 [(0, .ref (r 0)), (1, .int p1)] := hl
  refine lv_iload_n hx hb dX11_seed_0 rfl (lv_at hl 1 rfl) ?_
  refine lv_if_ge (tgt := 11) hx hb dX11_seed_1 (by decide) (fun c_832 => ?_) (fun c_832 => ?_)
  · refine lv_aload_n hx hb dX11_seed_11 rfl (lv_at hl 0 rfl) ?_
    refine va_get (D := (dC, dI)) (ci := 11) (v := .ref (r 11)) (C := RX11) (T := TX11) (N := 20) hx hb hts i_X11 hown hK hP 0 rfl rfl 10 (by decide) (hts _ q_165) (fun _ h9 => h9) rfl dX11_seed_12 ?_
    refine lv_iload_n hx hb dX11_seed_15 rfl (lv_at hl 1 rfl) ?_
    refine lv_i2l (v := p1.toInt64) hx hb dX11_seed_16 rfl ?_
    refine va_put (D := (dC, dI)) (ci := 0) (v := .long p1.toInt64) (ty := tyX0 2) (C := RX0) (T := TX0) (N := 3) hx hb hts i_X0 tyX0 tyX0_ok nmX0 hown hK hP hD hS 11 rfl rfl 2 (by decide) (hts _ q_358) (fun _ h9 => h9) rfl (tyX0_ok 2 (by decide)) rfl rfl (Nat.le_of_ble_eq_true rfl) dX11_seed_17 (fun H locs hP hD hS => ?_)
    have hP : va_P (dC, dI) vwCl (wd_651 r k p1) H := hP
    have hD : va_D A (wd_651 r k p1) := hD
    refine lv_iconst (v := 1) hx hb dX11_seed_20 (by decide) ?_
    refine W.widen (k := 0) (n := 0) (Nat.le_of_ble_eq_true rfl) (Nat.le_of_ble_eq_true rfl) ?_
    exact W.zret (v := 1) hx hb hr rfl (fun t ht hW => ⟨⟨1, (), rfl, (if_pos c_832).symm, trivial⟩, hS.F ht⟩) hS.2.2 dX11_seed_21
  · refine lv_aload_n hx hb dX11_seed_4 rfl (lv_at hl 0 rfl) ?_
    refine lv_bipush (v := 6) hx hb dX11_seed_5 (by decide) ?_
    have hPc := hP.sub (ws' := (wd_495 r k)) [0, 1, 2, 3, 4, 5, 6, 7, 8, 9, 10, 11, 12, 13] rfl
    have hDc := hD.sub (ws' := (wd_495 r k)) [0, 1, 2, 3, 4, 5, 6, 7, 8, 9, 10, 11, 12, 13] (by decide) rfl
    have hKc := hK.sub (tys' := [((k 0), .int), ((k 1), .int), ((k 2), .int)]) [0, 1, 2] rfl
    have hFc := va_free (wc := (wd_495 r k)) hD hS hA [0, 1, 2, 3, 4, 5, 6, 7, 8, 9, 10, 11, 12, 13] rfl
    refine va_calli (va_runV (As := [.int 6]) (rest := []) ⟨hx, hb, hml, hown, hts⟩ (c63_X11_deny l dC dI r k s.heap.size) (cwV 1 hts (gV q_254 q_255 q_256 q_257 q_253) rfl rfl rfl mdv_yX11_deny ⟨Nat.le_of_ble_eq_true rfl, Nat.le_of_ble_eq_true rfl⟩) ⟨fun a U g mk q => by obtain ⟨q0, q1, qP, qK, qD⟩ := q; exact ⟨q0, q1, qP, va_K.moved (u := U) (U := U.calling g mk a) (Vm.Alike.refl U.vm) qK, qD⟩, va_recv hKc hPc (ci := 11) (q0 := 0) rfl rfl, fun U hU hW => ⟨rfl, by rw [hU], by rw [hU]; exact hPc, va_K.moved hW.alike hKc, hDc.weaken (fun _ _ _ _ => trivial)⟩⟩ rfl rfl hl.1 rfl (lv_room (Nat.le_of_ble_eq_true rfl)) dX11_seed_7 ⟨Nat.le_of_ble_eq_true rfl, Nat.le_of_ble_eq_true rfl⟩) hS (fun q _ h => hFc q h) hFc (fun r_833 u t H1 locs ht hvm hw hB hz1 hk1 hS => ?_)
    obtain ⟨f834, hP1, hK1, hD1⟩ := hB
    rw [ht] at hP1
    have hK1 := va_K.moved hvm.symm hK1
    obtain ⟨hP, hD⟩ := va_join (wr := []) (w1 := (wd_655 r k f834)) hP hD [0, 1, 2, 3, 4, 5, 6, 7, 8, 9, 10, 11, 12, 13] [] rfl rfl (by decide) (by decide) hk1 hFc hP1 hD1
    have hK := (hK.sub (tys' := []) [] rfl).app hK1
    have hK : va_K (dC, dI) vwCl [((k 0), .int), ((k 1), .int), ((k 2), .int)] s := hK
    generalize H1 = H at hP hS ⊢
    have hP : va_P (dC, dI) vwCl (wd_655 r k f834) H := hP
    have hD : va_D A (wd_655 r k f834) := hD
    obtain rfl : r_833 = 0 := hw
    refine W.widen (k := 0) (n := 0) (Nat.le_of_ble_eq_true rfl) (Nat.le_of_ble_eq_true rfl) ?_
    exact W.zret (v := 0) hx hb hr rfl (fun t ht hW => ⟨⟨0, (), rfl, (if_neg c_832).symm, trivial⟩, hS.F ht⟩) hS.2.2 dX11_seed_10
set_option maxHeartbeats 4000000 in
set_option maxRecDepth 100000 in
theorem mX11_image (l : Launch) (dC : Nat → ClassId) (dI : Nat → Nat → Nat) (r : Nat → Nat) (k : Nat → ClassId) (sz : Nat) : Met l yX11_image (Cond.code yX11_image cX11_image 1 (some .int) :: wA) ({ frames := 1, cells := 0, slots := 0, locals := 20 }) (va_Pc [.ref (r 0)] (fun U => U.heap.size = sz ∧ va_P (dC, dI) vwCl (wd_495 r k) U.heap ∧ va_K (dC, dI) vwCl [((k 0), .int), ((k 1), .int), ((k 2), .int)] U ∧ va_D (fun _ => True) (wd_495 r k))) (va_Qi (fun (r : Int32) (_ : Unit) => r = (-1)) (fun _ t => True) (va_A (wd_495 r k) sz)) 0 0 (va_A (wd_495 r k) sz) := by
  refine Met.ofW (cc := cX11_image) (maxL := 1) (ret := (some .int)) (by decide) rfl ?_
  intro p e s m args below meth c s₁ B hml hv
  obtain ⟨rfl, hsz, hP, hK, hD0⟩ := hv
  have hx := B.exec
  have hb := B.bytes
  have hr := B.returns
  have hts : ∀ w ∈ wA, w.before [.ref (r 0)].toArray s = true := fun w h => atoms_spec (ws := Cond.code yX11_image cX11_image 1 (some .int) :: wA) B.pre w (List.mem_cons_of_mem _ h)
  have hown : s.vm.findClass RX11 = some m.cls := findClass_of_methodNamed B.named
  have hlocks := B.notSynchronized
  subst hsz
  have hD := hD0.self (sz := s.heap.size)
  generalize hAe : va_A (wd_495 r k) s.heap.size = A at hD ⊢
  have hA : ∀ q : Nat, s.heap.size ≤ q → A q := fun q h => by rw [← hAe]; exact Or.inr h
  have hS : va_S A s.heap s.heap [] := va_S.rf
  have hl := lv_entry ([.ref (r 0)]) (n := 1) (Nat.le_of_ble_eq_true rfl)
  rw [lg_entry_eq]
  generalize (lg_sl ([.ref (r 0)]) ++ List.replicate (1 - (lg_sl ([.ref (r 0)])).length) Slot.unset).toArray = ls at hl ⊢
  have hl : lv_has ls 1 [(0, .ref (r 0))] := hl
  refine lv_aload_n hx hb dX11_image_0 rfl (lv_at hl 0 rfl) ?_
  have hPc := hP.sub (ws' := (wd_495 r k)) [0, 1, 2, 3, 4, 5, 6, 7, 8, 9, 10, 11, 12, 13] rfl
  have hDc := hD.sub (ws' := (wd_495 r k)) [0, 1, 2, 3, 4, 5, 6, 7, 8, 9, 10, 11, 12, 13] (by decide) rfl
  have hKc := hK.sub (tys' := [((k 0), .int), ((k 1), .int), ((k 2), .int)]) [0, 1, 2] rfl
  have hFc := va_free (wc := (wd_495 r k)) hD hS hA [0, 1, 2, 3, 4, 5, 6, 7, 8, 9, 10, 11, 12, 13] rfl
  refine va_calli (va_runV (As := []) (rest := []) ⟨hx, hb, hml, hown, hts⟩ (c25_X11_ready l dC dI r k s.heap.size) (cwV 0 hts (gV q_313 q_314 q_315 q_257 q_312) rfl rfl rfl mdv_yX11_ready ⟨Nat.le_of_ble_eq_true rfl, Nat.le_of_ble_eq_true rfl⟩) ⟨fun a U g mk q => by obtain ⟨q0, q1, qP, qK, qD⟩ := q; exact ⟨q0, q1, qP, va_K.moved (u := U) (U := U.calling g mk a) (Vm.Alike.refl U.vm) qK, qD⟩, va_recv hKc hPc (ci := 11) (q0 := 0) rfl rfl, fun U hU hW => ⟨rfl, by rw [hU], by rw [hU]; exact hPc, va_K.moved hW.alike hKc, hDc.weaken (fun _ _ _ _ => trivial)⟩⟩ rfl rfl hl.1 rfl (lv_room (Nat.le_of_ble_eq_true rfl)) dX11_image_1 ⟨Nat.le_of_ble_eq_true rfl, Nat.le_of_ble_eq_true rfl⟩) hS (fun q _ h => hFc q h) hFc (fun r_836 u t H1 locs ht hvm hw hB hz1 hk1 hS => ?_)
  obtain ⟨hP1, hK1, hD1⟩ := hB
  rw [ht] at hP1
  have hK1 := va_K.moved hvm.symm hK1
  obtain ⟨hP, hD⟩ := va_join (wr := []) (w1 := (wd_495 r k)) hP hD [0, 1, 2, 3, 4, 5, 6, 7, 8, 9, 10, 11, 12, 13] [] rfl rfl (by decide) (by decide) hk1 hFc hP1 hD1
  generalize H1 = H at hP hS ⊢
  have hP : va_P (dC, dI) vwCl (wd_495 r k) H := hP
  have hD : va_D A (wd_495 r k) := hD
  obtain rfl : r_836 = 0 := hw
  refine lv_if_ne (tgt := 9) hx hb dX11_image_4 (by decide) (fun c_0 => absurd c_0 (by decide)) (fun c_0 => ?_)
  refine lv_iconst (v := (-1)) hx hb dX11_image_7 (by decide) ?_
  refine W.widen (k := 0) (n := 0) (Nat.le_of_ble_eq_true rfl) (Nat.le_of_ble_eq_true rfl) ?_
  exact W.iret (v := (-1)) hx hb hr (fun t ht hW => ⟨⟨(-1), (), rfl, rfl, trivial⟩, hS.F ht⟩) hS.2.2 dX11_image_8
set_option maxHeartbeats 4000000 in
set_option maxRecDepth 100000 in
theorem mX11_octet (l : Launch) (dC : Nat → ClassId) (dI : Nat → Nat → Nat) (r : Nat → Nat) (k : Nat → ClassId) (p1 : Int32) (sz : Nat) : Met l yX11_octet (Cond.code yX11_octet cX11_octet 2 (some .int) :: wA) ({ frames := 0, cells := 0, slots := 0, locals := 0 }) (va_Pc [.ref (r 0), .int p1] (fun U => U.heap.size = sz ∧ va_P (dC, dI) vwCl (wd_495 r k) U.heap ∧ va_K (dC, dI) vwCl [((k 0), .int), ((k 1), .int), ((k 2), .int)] U ∧ va_D (fun _ => True) (wd_495 r k))) (va_Qi (fun (r : Int32) (_ : Unit) => r = (-1)) (fun _ t => True) (va_A (wd_495 r k) sz)) 0 0 (va_A (wd_495 r k) sz) := by
  refine Met.ofW (cc := cX11_octet) (maxL := 2) (ret := (some .int)) (by decide) rfl ?_
  intro p e s m args below meth c s₁ B hml hv
  obtain ⟨rfl, hsz, hP, hK, hD0⟩ := hv
  have hx := B.exec
  have hb := B.bytes
  have hr := B.returns
  have hts : ∀ w ∈ wA, w.before [.ref (r 0), .int p1].toArray s = true := fun w h => atoms_spec (ws := Cond.code yX11_octet cX11_octet 2 (some .int) :: wA) B.pre w (List.mem_cons_of_mem _ h)
  have hown : s.vm.findClass RX11 = some m.cls := findClass_of_methodNamed B.named
  have hlocks := B.notSynchronized
  subst hsz
  have hD := hD0.self (sz := s.heap.size)
  generalize hAe : va_A (wd_495 r k) s.heap.size = A at hD ⊢
  have hA : ∀ q : Nat, s.heap.size ≤ q → A q := fun q h => by rw [← hAe]; exact Or.inr h
  have hS : va_S A s.heap s.heap [] := va_S.rf
  have hl := lv_entry ([.ref (r 0), .int p1]) (n := 2) (Nat.le_of_ble_eq_true rfl)
  rw [lg_entry_eq]
  generalize (lg_sl ([.ref (r 0), .int p1]) ++ List.replicate (2 - (lg_sl ([.ref (r 0), .int p1])).length) Slot.unset).toArray = ls at hl ⊢
  have hl : lv_has ls 2 [(0, .ref (r 0)), (1, .int p1)] := hl
  refine lv_iload_n hx hb dX11_octet_0 rfl (lv_at hl 1 rfl) ?_
  refine lv_if_lt (tgt := 15) hx hb dX11_octet_1 (by decide) (fun c_839 => ?_) (fun c_839 => ?_)
  · refine lv_iconst (v := (-1)) hx hb dX11_octet_15 (by decide) ?_
    refine lv_goto (tgt := 28) hx hb dX11_octet_16 (by decide) ?_
    refine W.widen (k := 0) (n := 0) (Nat.le_of_ble_eq_true rfl) (Nat.le_of_ble_eq_true rfl) ?_
    exact W.iret (v := (-1)) hx hb hr (fun t ht hW => ⟨⟨(-1), (), rfl, rfl, trivial⟩, hS.F ht⟩) hS.2.2 dX11_octet_28
  · refine lv_iload_n hx hb dX11_octet_4 rfl (lv_at hl 1 rfl) ?_
    refine lv_aload_n hx hb dX11_octet_5 rfl (lv_at hl 0 rfl) ?_
    refine va_get (D := (dC, dI)) (ci := 11) (v := .ref (r 13)) (C := RX11) (T := TX11) (N := 20) hx hb hts i_X11 hown hK hP 0 rfl rfl 12 (by decide) (hts _ q_177) (fun _ h9 => h9) rfl dX11_octet_6 ?_
    refine va_get (D := (dC, dI)) (ci := 3) (v := .int 0) (C := RX3) (T := TX3) (N := 3) hx hb hts i_X3 hown hK hP 13 rfl rfl 2 (by decide) (hts _ q_361) (fun _ h9 => h9) rfl dX11_octet_9 ?_
    refine lv_icmp_lt (tgt := 19) hx hb dX11_octet_12 (by decide) (fun c_840 => ((by have k_c_839 : ¬ p1.toInt < (0 : Int) := fun h => c_839 (Int32.lt_iff_toInt_lt.mpr h); have k_c_840 : p1.toInt < (0 : Int) := Int32.lt_iff_toInt_lt.mp c_840; omega : False).elim)) (fun c_840 => ?_)
    refine lv_iconst (v := (-1)) hx hb dX11_octet_15 (by decide) ?_
    refine lv_goto (tgt := 28) hx hb dX11_octet_16 (by decide) ?_
    refine W.widen (k := 0) (n := 0) (Nat.le_of_ble_eq_true rfl) (Nat.le_of_ble_eq_true rfl) ?_
    exact W.iret (v := (-1)) hx hb hr (fun t ht hW => ⟨⟨(-1), (), rfl, rfl, trivial⟩, hS.F ht⟩) hS.2.2 dX11_octet_28
def wd_656 (r : Nat → Nat) (k : Nat → ClassId) (f842 : Nat → Int32) : va_W := [((r 0), .inr (11, [.ref (r 1), .ref (r 2), .ref (r 3), .ref (r 4), .ref (r 5), .ref (r 6), .ref (r 7), .ref (r 8), .ref (r 9), .ref (r 10), .ref (r 11), .ref (r 12), .ref (r 13), .ref (r 14), .ref (r 15), .int 0, .int 0, .ref (r 16), .int (-1), .ref (r 17)])), ((r 1), .inr (10, [.ref (r 18), .int 0, .int 0, .int 0, .int (-1), .int (-1), .long 0, .int 0, .int 0, .int (-1)])), ((r 18), .inl ((k 0), 1600, .inl (fun _ => 0))), ((r 14), .inl ((k 1), 7, .inl f842)), ((r 4), .inr (8, [.int 0, .int 0, .int 0, .ref (r 19), .int 0, .int 0, .ref (r 20), .int 0, .int 0, .int 0, .int 0, .int 0, .int 0, .ref (r 21)])), ((r 2), .inr (2, [.int 0, .ref (r 22), .ref (r 23), .ref (r 24)])), ((r 3), .inr (2, [.int 0, .ref (r 25), .ref (r 26), .ref (r 27)])), ((r 5), .inr (8, [.int 0, .int 0, .int 0, .ref (r 28), .int 0, .int 0, .ref (r 29), .int 0, .int 0, .int 0, .int 0, .int 0, .int 0, .ref (r 30)])), ((r 28), .inl ((k 2), 168, .inl (fun _ => 0))), ((r 8), .inr (1, [.ref (r 1), .ref (r 3), .ref (r 5), .ref (r 31), .ref (r 32), .int 0, .int 0, .int 3047])), ((r 10), .inr (5, [.ref (r 4), .ref (r 2), .ref (r 7), .ref (r 9), .ref (r 33), .ref (r 34), .int 0, .int 0, .int 0, .int 0, .int (-1)])), ((r 11), .inr (0, [.ref (r 2), .ref (r 7), .long 1])), ((r 12), .inr (6, [.ref (r 7), .ref (r 35), .ref (r 36), .ref (r 37), .int 0, .ref (r 38), .int 0, .int (-1), .int (-1), .null, .null])), ((r 13), .inr (3, [.ref (r 2), .ref (r 39), .int 0]))]
def wd_657 (r : Nat → Nat) (k : Nat → ClassId) (f844 : Nat → Int32) : va_W := [((r 0), .inr (11, [.ref (r 1), .ref (r 2), .ref (r 3), .ref (r 4), .ref (r 5), .ref (r 6), .ref (r 7), .ref (r 8), .ref (r 9), .ref (r 10), .ref (r 11), .ref (r 12), .ref (r 13), .ref (r 14), .ref (r 15), .int 0, .int 0, .ref (r 16), .int (-1), .ref (r 17)])), ((r 1), .inr (10, [.ref (r 18), .int 0, .int 0, .int 0, .int (-1), .int (-1), .long 0, .int 0, .int 0, .int (-1)])), ((r 18), .inl ((k 0), 1600, .inl (fun _ => 0))), ((r 14), .inl ((k 1), 7, .inl f844)), ((r 4), .inr (8, [.int 0, .int 0, .int 0, .ref (r 19), .int 0, .int 0, .ref (r 20), .int 0, .int 0, .int 0, .int 0, .int 0, .int 0, .ref (r 21)])), ((r 2), .inr (2, [.int 0, .ref (r 22), .ref (r 23), .ref (r 24)])), ((r 3), .inr (2, [.int 0, .ref (r 25), .ref (r 26), .ref (r 27)])), ((r 5), .inr (8, [.int 0, .int 0, .int 0, .ref (r 28), .int 0, .int 0, .ref (r 29), .int 0, .int 0, .int 0, .int 0, .int 0, .int 0, .ref (r 30)])), ((r 28), .inl ((k 2), 168, .inl (fun _ => 0))), ((r 8), .inr (1, [.ref (r 1), .ref (r 3), .ref (r 5), .ref (r 31), .ref (r 32), .int 0, .int 0, .int 3047])), ((r 10), .inr (5, [.ref (r 4), .ref (r 2), .ref (r 7), .ref (r 9), .ref (r 33), .ref (r 34), .int 0, .int 0, .int 0, .int 0, .int (-1)])), ((r 11), .inr (0, [.ref (r 2), .ref (r 7), .long 1])), ((r 12), .inr (6, [.ref (r 7), .ref (r 35), .ref (r 36), .ref (r 37), .int 0, .ref (r 38), .int 0, .int (-1), .int (-1), .null, .null])), ((r 13), .inr (3, [.ref (r 2), .ref (r 39), .int 0]))]
set_option maxHeartbeats 4000000 in
set_option maxRecDepth 100000 in
theorem mX11_on (l : Launch) (dC : Nat → ClassId) (dI : Nat → Nat → Nat) (r : Nat → Nat) (k : Nat → ClassId) (sz : Nat) : Met l yX11_on (Cond.code yX11_on cX11_on 2 (some .boolean) :: wA) ({ frames := 1, cells := 0, slots := 0, locals := 21 }) (va_Pc [.ref (r 0)] (fun U => U.heap.size = sz ∧ va_P (dC, dI) vwCl (wd_495 r k) U.heap ∧ va_K (dC, dI) vwCl [((k 0), .int), ((k 1), .int), ((k 2), .int)] U ∧ va_D (fun _ => True) (wd_495 r k))) (va_Qi (fun (r : Int32) (_ : Unit) => r = 0) (fun _ t => True) (va_A (wd_495 r k) sz)) 0 0 (va_A (wd_495 r k) sz) := by
  refine Met.ofW (cc := cX11_on) (maxL := 2) (ret := (some .boolean)) (by decide) rfl ?_
  intro p e s m args below meth c s₁ B hml hv
  obtain ⟨rfl, hsz, hP, hK, hD0⟩ := hv
  have hx := B.exec
  have hb := B.bytes
  have hr := B.returns
  have hts : ∀ w ∈ wA, w.before [.ref (r 0)].toArray s = true := fun w h => atoms_spec (ws := Cond.code yX11_on cX11_on 2 (some .boolean) :: wA) B.pre w (List.mem_cons_of_mem _ h)
  have hown : s.vm.findClass RX11 = some m.cls := findClass_of_methodNamed B.named
  have hlocks := B.notSynchronized
  subst hsz
  have hD := hD0.self (sz := s.heap.size)
  generalize hAe : va_A (wd_495 r k) s.heap.size = A at hD ⊢
  have hA : ∀ q : Nat, s.heap.size ≤ q → A q := fun q h => by rw [← hAe]; exact Or.inr h
  have hS : va_S A s.heap s.heap [] := va_S.rf
  have hl := lv_entry ([.ref (r 0)]) (n := 2) (Nat.le_of_ble_eq_true rfl)
  rw [lg_entry_eq]
  generalize (lg_sl ([.ref (r 0)]) ++ List.replicate (2 - (lg_sl ([.ref (r 0)])).length) Slot.unset).toArray = ls at hl ⊢
  have hl : lv_has ls 2 [(0, .ref (r 0))] := hl
  refine lv_aload_n hx hb dX11_on_0 rfl (lv_at hl 0 rfl) ?_
  refine va_get (D := (dC, dI)) (ci := 11) (v := .ref (r 4)) (C := RX11) (T := TX11) (N := 20) hx hb hts i_X11 hown hK hP 0 rfl rfl 3 (by decide) (hts _ q_128) (fun _ h9 => h9) rfl dX11_on_1 ?_
  refine va_get (D := (dC, dI)) (ci := 8) (v := .int 0) (C := RX8) (T := TX8) (N := 14) hx hb hts i_X8 hown hK hP 4 rfl rfl 0 (by decide) (hts _ q_293) (fun _ h9 => h9) rfl dX11_on_4 ?_
  refine lv_if_le (tgt := 39) hx hb dX11_on_7 (by decide) (fun c_0 => ?_) (fun c_0 => absurd c_0 (by decide))
  refine lv_iconst (v := 0) hx hb dX11_on_39 (by decide) ?_
  refine lv_istore_n (lv' := [(1, .int 0), (0, .ref (r 0))]) hx hb dX11_on_40 rfl hl (by decide) rfl (fun ls hl => ?_)
  refine lv_aload_n hx hb dX11_on_41 rfl (lv_at hl 1 rfl) ?_
  refine va_get (D := (dC, dI)) (ci := 11) (v := .ref (r 1)) (C := RX11) (T := TX11) (N := 20) hx hb hts i_X11 hown hK hP 0 rfl rfl 0 (by decide) (hts _ q_120) (fun _ h9 => h9) rfl dX11_on_42 ?_
  refine lv_iconst (v := 0) hx hb dX11_on_45 (by decide) ?_
  refine va_put (D := (dC, dI)) (ci := 10) (v := .int 0) (ty := tyX10 1) (C := RX10) (T := TX10) (N := 10) hx hb hts i_X10 tyX10 tyX10_ok nmX10 hown hK hP hD hS 1 rfl rfl 1 (by decide) (hts _ q_247) (fun _ h9 => h9) rfl (tyX10_ok 1 (by decide)) rfl rfl (Nat.le_of_ble_eq_true rfl) dX11_on_46 (fun H locs hP hD hS => ?_)
  have hP : va_P (dC, dI) vwCl (wd_495 r k) H := hP
  have hD : va_D A (wd_495 r k) := hD
  refine lv_iload_n hx hb dX11_on_49 rfl (lv_at hl 0 rfl) ?_
  refine lv_if_ne (tgt := 60) hx hb dX11_on_50 (by decide) (fun c_0 => absurd c_0 (by decide)) (fun c_0 => ?_)
  refine lv_aload_n hx hb dX11_on_53 rfl (lv_at hl 1 rfl) ?_
  refine lv_bipush (v := 6) hx hb dX11_on_54 (by decide) ?_
  have hPc := hP.sub (ws' := (wd_495 r k)) [0, 1, 2, 3, 4, 5, 6, 7, 8, 9, 10, 11, 12, 13] rfl
  have hDc := hD.sub (ws' := (wd_495 r k)) [0, 1, 2, 3, 4, 5, 6, 7, 8, 9, 10, 11, 12, 13] (by decide) rfl
  have hKc := hK.sub (tys' := [((k 0), .int), ((k 1), .int), ((k 2), .int)]) [0, 1, 2] rfl
  have hFc := va_free (wc := (wd_495 r k)) hD hS hA [0, 1, 2, 3, 4, 5, 6, 7, 8, 9, 10, 11, 12, 13] rfl
  refine va_calli (va_runV (As := [.int 6]) (rest := []) ⟨hx, hb, hml, hown, hts⟩ (c63_X11_deny l dC dI r k H.size) (cwV 1 hts (gV q_254 q_255 q_256 q_257 q_253) rfl rfl rfl mdv_yX11_deny ⟨Nat.le_of_ble_eq_true rfl, Nat.le_of_ble_eq_true rfl⟩) ⟨fun a U g mk q => by obtain ⟨q0, q1, qP, qK, qD⟩ := q; exact ⟨q0, q1, qP, va_K.moved (u := U) (U := U.calling g mk a) (Vm.Alike.refl U.vm) qK, qD⟩, va_recv hKc hPc (ci := 11) (q0 := 0) rfl rfl, fun U hU hW => ⟨rfl, by rw [hU], by rw [hU]; exact hPc, va_K.moved hW.alike hKc, hDc.weaken (fun _ _ _ _ => trivial)⟩⟩ rfl rfl hl.1 rfl (lv_room (Nat.le_of_ble_eq_true rfl)) dX11_on_56 ⟨Nat.le_of_ble_eq_true rfl, Nat.le_of_ble_eq_true rfl⟩) hS (fun q _ h => hFc q h) hFc (fun r_843 u t H1 locs ht hvm hw hB hz1 hk1 hS => ?_)
  obtain ⟨f844, hP1, hK1, hD1⟩ := hB
  rw [ht] at hP1
  have hK1 := va_K.moved hvm.symm hK1
  obtain ⟨hP, hD⟩ := va_join (wr := []) (w1 := (wd_657 r k f844)) hP hD [0, 1, 2, 3, 4, 5, 6, 7, 8, 9, 10, 11, 12, 13] [] rfl rfl (by decide) (by decide) hk1 hFc hP1 hD1
  have hK := (hK.sub (tys' := []) [] rfl).app hK1
  have hK : va_K (dC, dI) vwCl [((k 0), .int), ((k 1), .int), ((k 2), .int)] s := hK
  generalize H1 = H at hP hS ⊢
  have hP : va_P (dC, dI) vwCl (wd_657 r k f844) H := hP
  have hD : va_D A (wd_657 r k f844) := hD
  obtain rfl : r_843 = 0 := hw
  refine W.widen (k := 0) (n := 0) (Nat.le_of_ble_eq_true rfl) (Nat.le_of_ble_eq_true rfl) ?_
  exact W.zret (v := 0) hx hb hr rfl (fun t ht hW => ⟨⟨0, (), rfl, rfl, trivial⟩, hS.F ht⟩) hS.2.2 dX11_on_59
set_option maxHeartbeats 4000000 in
set_option maxRecDepth 100000 in
theorem mX11_status (l : Launch) (dC : Nat → ClassId) (dI : Nat → Nat → Nat) (r : Nat → Nat) (k : Nat → ClassId) (p1 : Int32) (sz : Nat) : Met l yX11_status (Cond.code yX11_status cX11_status 2 (some .int) :: wA) ({ frames := 0, cells := 0, slots := 0, locals := 0 }) (va_Pc [.ref (r 0), .int p1] (fun U => U.heap.size = sz ∧ va_P (dC, dI) vwCl (wd_495 r k) U.heap ∧ va_K (dC, dI) vwCl [((k 0), .int), ((k 1), .int), ((k 2), .int)] U ∧ va_D (fun _ => True) (wd_495 r k))) (va_Qi (fun (r : Int32) (_ : Unit) => r = sp_7 p1) (fun _ t => True) (va_A (wd_495 r k) sz)) 0 0 (va_A (wd_495 r k) sz) := by
  refine Met.ofW (cc := cX11_status) (maxL := 2) (ret := (some .int)) (by decide) rfl ?_
  intro p e s m args below meth c s₁ B hml hv
  obtain ⟨rfl, hsz, hP, hK, hD0⟩ := hv
  have hx := B.exec
  have hb := B.bytes
  have hr := B.returns
  have hts : ∀ w ∈ wA, w.before [.ref (r 0), .int p1].toArray s = true := fun w h => atoms_spec (ws := Cond.code yX11_status cX11_status 2 (some .int) :: wA) B.pre w (List.mem_cons_of_mem _ h)
  have hown : s.vm.findClass RX11 = some m.cls := findClass_of_methodNamed B.named
  have hlocks := B.notSynchronized
  subst hsz
  have hD := hD0.self (sz := s.heap.size)
  generalize hAe : va_A (wd_495 r k) s.heap.size = A at hD ⊢
  have hA : ∀ q : Nat, s.heap.size ≤ q → A q := fun q h => by rw [← hAe]; exact Or.inr h
  have hS : va_S A s.heap s.heap [] := va_S.rf
  have hl := lv_entry ([.ref (r 0), .int p1]) (n := 2) (Nat.le_of_ble_eq_true rfl)
  rw [lg_entry_eq]
  generalize (lg_sl ([.ref (r 0), .int p1]) ++ List.replicate (2 - (lg_sl ([.ref (r 0), .int p1])).length) Slot.unset).toArray = ls at hl ⊢
  have hl : lv_has ls 2 [(0, .ref (r 0)), (1, .int p1)] := hl
  rcases sw_7 p1 with rfl | rfl | rfl | rfl | rfl | rfl | rfl | ho
  · refine lv_iload_n hx hb dX11_status_0 rfl (lv_at hl 1 rfl) ?_
    refine lv_if_lt (tgt := 13) hx hb dX11_status_1 (by decide) (fun c_0 => absurd c_0 (by decide)) (fun c_0 => ?_)
    refine lv_iload_n hx hb dX11_status_4 rfl (lv_at hl 1 rfl) ?_
    refine lv_aload_n hx hb dX11_status_5 rfl (lv_at hl 0 rfl) ?_
    refine va_get (D := (dC, dI)) (ci := 11) (v := .ref (r 14)) (C := RX11) (T := TX11) (N := 20) hx hb hts i_X11 hown hK hP 0 rfl rfl 13 (by decide) (hts _ q_178) (fun _ h9 => h9) rfl dX11_status_6 ?_
    refine va_alen (v := 7) hx hb hK hP 3 1 rfl rfl rfl dX11_status_9 ?_
    refine lv_icmp_lt (tgt := 17) hx hb dX11_status_10 (by decide) (fun c_0 => ?_) (fun c_0 => absurd c_0 (by decide))
    refine lv_aload_n hx hb dX11_status_17 rfl (lv_at hl 0 rfl) ?_
    refine va_get (D := (dC, dI)) (ci := 11) (v := .ref (r 14)) (C := RX11) (T := TX11) (N := 20) hx hb hts i_X11 hown hK hP 0 rfl rfl 13 (by decide) (hts _ q_178) (fun _ h9 => h9) rfl dX11_status_18 ?_
    refine lv_iload_n hx hb dX11_status_21 rfl (lv_at hl 1 rfl) ?_
    refine va_iald hx hb hK hP 3 1 rfl rfl (vpi (by decide)) dX11_status_22 ?_
    refine lv_topi (fun x_854 ex_854 => ?_)
    obtain rfl : x_854 = 0 := ex_854
    refine W.widen (k := 0) (n := 0) (Nat.le_of_ble_eq_true rfl) (Nat.le_of_ble_eq_true rfl) ?_
    exact W.iret (v := 0) hx hb hr (fun t ht hW => ⟨⟨0, (), rfl, by decide, trivial⟩, hS.F ht⟩) hS.2.2 dX11_status_23
  · refine lv_iload_n hx hb dX11_status_0 rfl (lv_at hl 1 rfl) ?_
    refine lv_if_lt (tgt := 13) hx hb dX11_status_1 (by decide) (fun c_0 => absurd c_0 (by decide)) (fun c_0 => ?_)
    refine lv_iload_n hx hb dX11_status_4 rfl (lv_at hl 1 rfl) ?_
    refine lv_aload_n hx hb dX11_status_5 rfl (lv_at hl 0 rfl) ?_
    refine va_get (D := (dC, dI)) (ci := 11) (v := .ref (r 14)) (C := RX11) (T := TX11) (N := 20) hx hb hts i_X11 hown hK hP 0 rfl rfl 13 (by decide) (hts _ q_178) (fun _ h9 => h9) rfl dX11_status_6 ?_
    refine va_alen (v := 7) hx hb hK hP 3 1 rfl rfl rfl dX11_status_9 ?_
    refine lv_icmp_lt (tgt := 17) hx hb dX11_status_10 (by decide) (fun c_0 => ?_) (fun c_0 => absurd c_0 (by decide))
    refine lv_aload_n hx hb dX11_status_17 rfl (lv_at hl 0 rfl) ?_
    refine va_get (D := (dC, dI)) (ci := 11) (v := .ref (r 14)) (C := RX11) (T := TX11) (N := 20) hx hb hts i_X11 hown hK hP 0 rfl rfl 13 (by decide) (hts _ q_178) (fun _ h9 => h9) rfl dX11_status_18 ?_
    refine lv_iload_n hx hb dX11_status_21 rfl (lv_at hl 1 rfl) ?_
    refine va_iald hx hb hK hP 3 1 rfl rfl (vpi (by decide)) dX11_status_22 ?_
    refine lv_topi (fun x_855 ex_855 => ?_)
    obtain rfl : x_855 = 0 := ex_855
    refine W.widen (k := 0) (n := 0) (Nat.le_of_ble_eq_true rfl) (Nat.le_of_ble_eq_true rfl) ?_
    exact W.iret (v := 0) hx hb hr (fun t ht hW => ⟨⟨0, (), rfl, by decide, trivial⟩, hS.F ht⟩) hS.2.2 dX11_status_23
  · refine lv_iload_n hx hb dX11_status_0 rfl (lv_at hl 1 rfl) ?_
    refine lv_if_lt (tgt := 13) hx hb dX11_status_1 (by decide) (fun c_0 => absurd c_0 (by decide)) (fun c_0 => ?_)
    refine lv_iload_n hx hb dX11_status_4 rfl (lv_at hl 1 rfl) ?_
    refine lv_aload_n hx hb dX11_status_5 rfl (lv_at hl 0 rfl) ?_
    refine va_get (D := (dC, dI)) (ci := 11) (v := .ref (r 14)) (C := RX11) (T := TX11) (N := 20) hx hb hts i_X11 hown hK hP 0 rfl rfl 13 (by decide) (hts _ q_178) (fun _ h9 => h9) rfl dX11_status_6 ?_
    refine va_alen (v := 7) hx hb hK hP 3 1 rfl rfl rfl dX11_status_9 ?_
    refine lv_icmp_lt (tgt := 17) hx hb dX11_status_10 (by decide) (fun c_0 => ?_) (fun c_0 => absurd c_0 (by decide))
    refine lv_aload_n hx hb dX11_status_17 rfl (lv_at hl 0 rfl) ?_
    refine va_get (D := (dC, dI)) (ci := 11) (v := .ref (r 14)) (C := RX11) (T := TX11) (N := 20) hx hb hts i_X11 hown hK hP 0 rfl rfl 13 (by decide) (hts _ q_178) (fun _ h9 => h9) rfl dX11_status_18 ?_
    refine lv_iload_n hx hb dX11_status_21 rfl (lv_at hl 1 rfl) ?_
    refine va_iald hx hb hK hP 3 1 rfl rfl (vpi (by decide)) dX11_status_22 ?_
    refine lv_topi (fun x_856 ex_856 => ?_)
    obtain rfl : x_856 = 0 := ex_856
    refine W.widen (k := 0) (n := 0) (Nat.le_of_ble_eq_true rfl) (Nat.le_of_ble_eq_true rfl) ?_
    exact W.iret (v := 0) hx hb hr (fun t ht hW => ⟨⟨0, (), rfl, by decide, trivial⟩, hS.F ht⟩) hS.2.2 dX11_status_23
  · refine lv_iload_n hx hb dX11_status_0 rfl (lv_at hl 1 rfl) ?_
    refine lv_if_lt (tgt := 13) hx hb dX11_status_1 (by decide) (fun c_0 => absurd c_0 (by decide)) (fun c_0 => ?_)
    refine lv_iload_n hx hb dX11_status_4 rfl (lv_at hl 1 rfl) ?_
    refine lv_aload_n hx hb dX11_status_5 rfl (lv_at hl 0 rfl) ?_
    refine va_get (D := (dC, dI)) (ci := 11) (v := .ref (r 14)) (C := RX11) (T := TX11) (N := 20) hx hb hts i_X11 hown hK hP 0 rfl rfl 13 (by decide) (hts _ q_178) (fun _ h9 => h9) rfl dX11_status_6 ?_
    refine va_alen (v := 7) hx hb hK hP 3 1 rfl rfl rfl dX11_status_9 ?_
    refine lv_icmp_lt (tgt := 17) hx hb dX11_status_10 (by decide) (fun c_0 => ?_) (fun c_0 => absurd c_0 (by decide))
    refine lv_aload_n hx hb dX11_status_17 rfl (lv_at hl 0 rfl) ?_
    refine va_get (D := (dC, dI)) (ci := 11) (v := .ref (r 14)) (C := RX11) (T := TX11) (N := 20) hx hb hts i_X11 hown hK hP 0 rfl rfl 13 (by decide) (hts _ q_178) (fun _ h9 => h9) rfl dX11_status_18 ?_
    refine lv_iload_n hx hb dX11_status_21 rfl (lv_at hl 1 rfl) ?_
    refine va_iald hx hb hK hP 3 1 rfl rfl (vpi (by decide)) dX11_status_22 ?_
    refine lv_topi (fun x_857 ex_857 => ?_)
    obtain rfl : x_857 = 0 := ex_857
    refine W.widen (k := 0) (n := 0) (Nat.le_of_ble_eq_true rfl) (Nat.le_of_ble_eq_true rfl) ?_
    exact W.iret (v := 0) hx hb hr (fun t ht hW => ⟨⟨0, (), rfl, by decide, trivial⟩, hS.F ht⟩) hS.2.2 dX11_status_23
  · refine lv_iload_n hx hb dX11_status_0 rfl (lv_at hl 1 rfl) ?_
    refine lv_if_lt (tgt := 13) hx hb dX11_status_1 (by decide) (fun c_0 => absurd c_0 (by decide)) (fun c_0 => ?_)
    refine lv_iload_n hx hb dX11_status_4 rfl (lv_at hl 1 rfl) ?_
    refine lv_aload_n hx hb dX11_status_5 rfl (lv_at hl 0 rfl) ?_
    refine va_get (D := (dC, dI)) (ci := 11) (v := .ref (r 14)) (C := RX11) (T := TX11) (N := 20) hx hb hts i_X11 hown hK hP 0 rfl rfl 13 (by decide) (hts _ q_178) (fun _ h9 => h9) rfl dX11_status_6 ?_
    refine va_alen (v := 7) hx hb hK hP 3 1 rfl rfl rfl dX11_status_9 ?_
    refine lv_icmp_lt (tgt := 17) hx hb dX11_status_10 (by decide) (fun c_0 => ?_) (fun c_0 => absurd c_0 (by decide))
    refine lv_aload_n hx hb dX11_status_17 rfl (lv_at hl 0 rfl) ?_
    refine va_get (D := (dC, dI)) (ci := 11) (v := .ref (r 14)) (C := RX11) (T := TX11) (N := 20) hx hb hts i_X11 hown hK hP 0 rfl rfl 13 (by decide) (hts _ q_178) (fun _ h9 => h9) rfl dX11_status_18 ?_
    refine lv_iload_n hx hb dX11_status_21 rfl (lv_at hl 1 rfl) ?_
    refine va_iald hx hb hK hP 3 1 rfl rfl (vpi (by decide)) dX11_status_22 ?_
    refine lv_topi (fun x_858 ex_858 => ?_)
    obtain rfl : x_858 = 0 := ex_858
    refine W.widen (k := 0) (n := 0) (Nat.le_of_ble_eq_true rfl) (Nat.le_of_ble_eq_true rfl) ?_
    exact W.iret (v := 0) hx hb hr (fun t ht hW => ⟨⟨0, (), rfl, by decide, trivial⟩, hS.F ht⟩) hS.2.2 dX11_status_23
  · refine lv_iload_n hx hb dX11_status_0 rfl (lv_at hl 1 rfl) ?_
    refine lv_if_lt (tgt := 13) hx hb dX11_status_1 (by decide) (fun c_0 => absurd c_0 (by decide)) (fun c_0 => ?_)
    refine lv_iload_n hx hb dX11_status_4 rfl (lv_at hl 1 rfl) ?_
    refine lv_aload_n hx hb dX11_status_5 rfl (lv_at hl 0 rfl) ?_
    refine va_get (D := (dC, dI)) (ci := 11) (v := .ref (r 14)) (C := RX11) (T := TX11) (N := 20) hx hb hts i_X11 hown hK hP 0 rfl rfl 13 (by decide) (hts _ q_178) (fun _ h9 => h9) rfl dX11_status_6 ?_
    refine va_alen (v := 7) hx hb hK hP 3 1 rfl rfl rfl dX11_status_9 ?_
    refine lv_icmp_lt (tgt := 17) hx hb dX11_status_10 (by decide) (fun c_0 => ?_) (fun c_0 => absurd c_0 (by decide))
    refine lv_aload_n hx hb dX11_status_17 rfl (lv_at hl 0 rfl) ?_
    refine va_get (D := (dC, dI)) (ci := 11) (v := .ref (r 14)) (C := RX11) (T := TX11) (N := 20) hx hb hts i_X11 hown hK hP 0 rfl rfl 13 (by decide) (hts _ q_178) (fun _ h9 => h9) rfl dX11_status_18 ?_
    refine lv_iload_n hx hb dX11_status_21 rfl (lv_at hl 1 rfl) ?_
    refine va_iald hx hb hK hP 3 1 rfl rfl (vpi (by decide)) dX11_status_22 ?_
    refine lv_topi (fun x_859 ex_859 => ?_)
    obtain rfl : x_859 = 0 := ex_859
    refine W.widen (k := 0) (n := 0) (Nat.le_of_ble_eq_true rfl) (Nat.le_of_ble_eq_true rfl) ?_
    exact W.iret (v := 0) hx hb hr (fun t ht hW => ⟨⟨0, (), rfl, by decide, trivial⟩, hS.F ht⟩) hS.2.2 dX11_status_23
  · refine lv_iload_n hx hb dX11_status_0 rfl (lv_at hl 1 rfl) ?_
    refine lv_if_lt (tgt := 13) hx hb dX11_status_1 (by decide) (fun c_0 => absurd c_0 (by decide)) (fun c_0 => ?_)
    refine lv_iload_n hx hb dX11_status_4 rfl (lv_at hl 1 rfl) ?_
    refine lv_aload_n hx hb dX11_status_5 rfl (lv_at hl 0 rfl) ?_
    refine va_get (D := (dC, dI)) (ci := 11) (v := .ref (r 14)) (C := RX11) (T := TX11) (N := 20) hx hb hts i_X11 hown hK hP 0 rfl rfl 13 (by decide) (hts _ q_178) (fun _ h9 => h9) rfl dX11_status_6 ?_
    refine va_alen (v := 7) hx hb hK hP 3 1 rfl rfl rfl dX11_status_9 ?_
    refine lv_icmp_lt (tgt := 17) hx hb dX11_status_10 (by decide) (fun c_0 => ?_) (fun c_0 => absurd c_0 (by decide))
    refine lv_aload_n hx hb dX11_status_17 rfl (lv_at hl 0 rfl) ?_
    refine va_get (D := (dC, dI)) (ci := 11) (v := .ref (r 14)) (C := RX11) (T := TX11) (N := 20) hx hb hts i_X11 hown hK hP 0 rfl rfl 13 (by decide) (hts _ q_178) (fun _ h9 => h9) rfl dX11_status_18 ?_
    refine lv_iload_n hx hb dX11_status_21 rfl (lv_at hl 1 rfl) ?_
    refine va_iald hx hb hK hP 3 1 rfl rfl (vpi (by decide)) dX11_status_22 ?_
    refine lv_topi (fun x_860 ex_860 => ?_)
    obtain rfl : x_860 = 0 := ex_860
    refine W.widen (k := 0) (n := 0) (Nat.le_of_ble_eq_true rfl) (Nat.le_of_ble_eq_true rfl) ?_
    exact W.iret (v := 0) hx hb hr (fun t ht hW => ⟨⟨0, (), rfl, by decide, trivial⟩, hS.F ht⟩) hS.2.2 dX11_status_23
  · refine lv_iload_n hx hb dX11_status_0 rfl (lv_at hl 1 rfl) ?_
    refine lv_if_lt (tgt := 13) hx hb dX11_status_1 (by decide) (fun c_861 => ?_) (fun c_861 => ?_)
    · refine lv_iconst (v := (-1)) hx hb dX11_status_13 (by decide) ?_
      refine lv_goto (tgt := 23) hx hb dX11_status_14 (by decide) ?_
      refine W.widen (k := 0) (n := 0) (Nat.le_of_ble_eq_true rfl) (Nat.le_of_ble_eq_true rfl) ?_
      exact W.iret (v := (-1)) hx hb hr (fun t ht hW => ⟨⟨(-1), (), rfl, (if_pos ho).symm, trivial⟩, hS.F ht⟩) hS.2.2 dX11_status_23
    · refine lv_iload_n hx hb dX11_status_4 rfl (lv_at hl 1 rfl) ?_
      refine lv_aload_n hx hb dX11_status_5 rfl (lv_at hl 0 rfl) ?_
      refine va_get (D := (dC, dI)) (ci := 11) (v := .ref (r 14)) (C := RX11) (T := TX11) (N := 20) hx hb hts i_X11 hown hK hP 0 rfl rfl 13 (by decide) (hts _ q_178) (fun _ h9 => h9) rfl dX11_status_6 ?_
      refine va_alen (v := 7) hx hb hK hP 3 1 rfl rfl rfl dX11_status_9 ?_
      refine lv_icmp_lt (tgt := 17) hx hb dX11_status_10 (by decide) (fun c_862 => ((by have k_c_861 : ¬ p1.toInt < (0 : Int) := fun h => c_861 (Int32.lt_iff_toInt_lt.mpr h); have k_c_862 : p1.toInt < (7 : Int) := Int32.lt_iff_toInt_lt.mp c_862; omega : False).elim)) (fun c_862 => ?_)
      refine lv_iconst (v := (-1)) hx hb dX11_status_13 (by decide) ?_
      refine lv_goto (tgt := 23) hx hb dX11_status_14 (by decide) ?_
      refine W.widen (k := 0) (n := 0) (Nat.le_of_ble_eq_true rfl) (Nat.le_of_ble_eq_true rfl) ?_
      exact W.iret (v := (-1)) hx hb hr (fun t ht hW => ⟨⟨(-1), (), rfl, (if_pos ho).symm, trivial⟩, hS.F ht⟩) hS.2.2 dX11_status_23
