theorem nd_X0 : ∀ j, j < 3 → defaultValue (tyX0 j) = vp_V [.null, .null, .long 0] j := by decide
theorem nd_X1 : ∀ j, j < 8 → defaultValue (tyX1 j) = vp_V [.null, .null, .null, .null, .null, .int 0, .int 0, .int 0] j := by decide
theorem nd_X10 : ∀ j, j < 10 → defaultValue (tyX10 j) = vp_V [.null, .int 0, .int 0, .int 0, .int 0, .int 0, .long 0, .int 0, .int 0, .int 0] j := by decide
theorem nd_X2 : ∀ j, j < 4 → defaultValue (tyX2 j) = vp_V [.int 0, .null, .null, .null] j := by decide
theorem nd_X3 : ∀ j, j < 3 → defaultValue (tyX3 j) = vp_V [.null, .null, .int 0] j := by decide
theorem nd_X4 : ∀ j, j < 6 → defaultValue (tyX4 j) = vp_V [.null, .null, .null, .int 0, .null, .int 0] j := by decide
theorem nd_X5 : ∀ j, j < 11 → defaultValue (tyX5 j) = vp_V [.null, .null, .null, .null, .null, .null, .int 0, .int 0, .int 0, .int 0, .int 0] j := by decide
theorem nd_X6 : ∀ j, j < 11 → defaultValue (tyX6 j) = vp_V [.null, .null, .null, .null, .int 0, .null, .int 0, .int 0, .int 0, .null, .null] j := by decide
theorem nd_X7 : ∀ j, j < 2 → defaultValue (tyX7 j) = vp_V [.null, .null] j := by decide
theorem nd_X8 : ∀ j, j < 14 → defaultValue (tyX8 j) = vp_V [.int 0, .int 0, .int 0, .null, .int 0, .int 0, .null, .int 0, .int 0, .int 0, .int 0, .int 0, .int 0, .null] j := by decide
theorem nd_X9 : ∀ j, j < 11 → defaultValue (tyX9 j) = vp_V [.null, .null, .null, .null, .null, .null, .null, .null, .int 0, .int 0, .int 0] j := by decide
def wd_0 (h0 : Nat) (q1 : Nat) (cA2 : ClassId) : va_W := [(h0, .inr (10, [.null, .int 0, .int 0, .int 0, .int 0, .int 0, .long 0, .int 0, .int 0, .int 0])), (q1, .inl (cA2, 1600, .inl (fun _ => 0)))]
def wd_1 (h0 : Nat) (q1 : Nat) (cA2 : ClassId) : va_W := [(h0, .inr (10, [.ref q1, .int 0, .int 0, .int 0, .int 0, .int 0, .long 0, .int 0, .int 0, .int 0])), (q1, .inl (cA2, 1600, .inl (fun _ => 0)))]
def wd_2 (h0 : Nat) (q1 : Nat) (cA2 : ClassId) : va_W := [(h0, .inr (10, [.ref q1, .int 0, .int 0, .int 0, .int (-1), .int 0, .long 0, .int 0, .int 0, .int 0])), (q1, .inl (cA2, 1600, .inl (fun _ => 0)))]
def wd_3 (h0 : Nat) (q1 : Nat) (cA2 : ClassId) : va_W := [(h0, .inr (10, [.ref q1, .int 0, .int 0, .int 0, .int (-1), .int (-1), .long 0, .int 0, .int 0, .int 0])), (q1, .inl (cA2, 1600, .inl (fun _ => 0)))]
def wd_4 (h0 : Nat) (q1 : Nat) (cA2 : ClassId) : va_W := [(h0, .inr (10, [.ref q1, .int 0, .int 0, .int 0, .int (-1), .int (-1), .long 0, .int 0, .int 0, .int (-1)])), (q1, .inl (cA2, 1600, .inl (fun _ => 0)))]
def wd_5 (h0 : Nat) : va_W := [(h0, .inr (10, [.null, .int 0, .int 0, .int 0, .int 0, .int 0, .long 0, .int 0, .int 0, .int 0]))]
set_option maxHeartbeats 4000000 in
set_option maxRecDepth 100000 in
theorem K_X10_init (l : Launch) (dC : Nat → ClassId) (dI : Nat → Nat → Nat) (h0 : Nat) (sz : Nat) : Met l yX10_init (Cond.code yX10_init cX10_init 1 none :: wA) ({ frames := 1, cells := 1, slots := 1600, locals := 12 }) (va_Pc [.ref h0] (fun U => U.heap.size = sz ∧ va_P (dC, dI) vwCl (wd_5 h0) U.heap ∧ va_K (dC, dI) vwCl [] U ∧ va_D (fun _ => True) (wd_5 h0))) (va_Qv (fun (_ : Unit) => True) (fun _ t => ∃ q1 : Nat, ∃ cA2 : ClassId, va_P (dC, dI) vwCl (wd_4 h0 q1 cA2) t.heap ∧ va_K (dC, dI) vwCl [(cA2, .int)] t ∧ va_D (va_A (wd_5 h0) sz) (wd_4 h0 q1 cA2)) (va_A (wd_5 h0) sz)) 1 1600 (va_A (wd_5 h0) sz) := by
  refine Met.ofW (cc := cX10_init) (maxL := 1) (ret := none) (by decide) rfl ?_
  intro p e s m args below meth c s₁ B hml hv
  obtain ⟨rfl, hsz, hP, hK, hD0⟩ := hv
  have hx := B.exec
  have hb := B.bytes
  have hr := B.returns
  have hts : ∀ w ∈ wA, w.before [.ref h0].toArray s = true := fun w h => atoms_spec (ws := Cond.code yX10_init cX10_init 1 none :: wA) B.pre w (List.mem_cons_of_mem _ h)
  have hown : s.vm.findClass RX10 = some m.cls := findClass_of_methodNamed B.named
  have hlocks := B.notSynchronized
  have hin : meth.name = "<init>" := (name_of_methodNamed B.named B.method).1
  subst hsz
  have hD := hD0.self (sz := s.heap.size)
  generalize hAe : va_A (wd_5 h0) s.heap.size = A at hD ⊢
  have hA : ∀ q : Nat, s.heap.size ≤ q → A q := fun q h => by rw [← hAe]; exact Or.inr h
  have hS : va_S A s.heap s.heap [] := va_S.rf
  have hl := lv_entry ([.ref h0]) (n := 1) (Nat.le_of_ble_eq_true rfl)
  rw [lg_entry_eq]
  generalize (lg_sl ([.ref h0]) ++ List.replicate (1 - (lg_sl ([.ref h0])).length) Slot.unset).toArray = ls at hl ⊢
  have hl : lv_has ls 1 [(0, .ref h0)] := hl
  refine lv_aload_n hx hb dX10_init_0 rfl (lv_at hl 0 rfl) ?_
  refine W.objInit hx hb hown (hts _ q_120) (hts _ q_108) (hts _ q_107) rfl (by rw [hml]; exact hl.1) rfl dX10_init_1 (Nat.le_of_ble_eq_true rfl) (Nat.le_of_ble_eq_true rfl) ?_
  refine W.eq (g2 := F0 m 4 ls []) rfl ?_
  refine lv_aload_n hx hb dX10_init_4 rfl (lv_at hl 0 rfl) ?_
  refine lv_sipush (v := 1600) hx hb dX10_init_5 (by decide) ?_
  refine va_newa (atype := .int) (ty := .int) (n := 1600) (N' := 1600) (a0 := (1600, .inl fun _ => 0)) hx hb (hts _ q_121) rfl hK hP hD hS hA (fun _ => rfl) (by decide) (by decide) (Nat.le_of_ble_eq_true rfl) (Nat.le_of_ble_eq_true rfl) (Nat.le_of_ble_eq_true rfl) dX10_init_8 (fun q1 cA2 H hK hP hD hS => ?_)
  have hK : va_K (dC, dI) vwCl [(cA2, .int)] s := hK
  have hP : va_P (dC, dI) vwCl (wd_0 h0 q1 cA2) H := hP
  have hD : va_D A (wd_0 h0 q1 cA2) := hD
  refine W.widen (k := 1) (n := 1600) (Nat.le_of_ble_eq_true rfl) (Nat.le_of_ble_eq_true rfl) ?_
  refine va_putF (D := (dC, dI)) (ci := 10) (v := .ref q1) (ty := tyX10 0) (C := RX10) (T := TX10) (N := 10) hx hb hts i_X10 tyX10 tyX10_ok nmX10 hown hK hP hD hS 0 rfl rfl 0 (by decide) (hts _ q_118) (fun _ h9 => h9) rfl hin rfl (tyX10_ok 0 (by decide)) rfl rfl (Nat.le_of_ble_eq_true rfl) dX10_init_10 (fun H locs hP hD hS => ?_)
  have hP : va_P (dC, dI) vwCl (wd_1 h0 q1 cA2) H := hP
  have hD : va_D A (wd_1 h0 q1 cA2) := hD
  refine lv_aload_n hx hb dX10_init_13 rfl (lv_at hl 0 rfl) ?_
  refine lv_iconst (v := 0) hx hb dX10_init_14 (by decide) ?_
  refine va_put (D := (dC, dI)) (ci := 10) (v := .int 0) (ty := tyX10 1) (C := RX10) (T := TX10) (N := 10) hx hb hts i_X10 tyX10 tyX10_ok nmX10 hown hK hP hD hS 0 rfl rfl 1 (by decide) (hts _ q_117) (fun _ h9 => h9) rfl (tyX10_ok 1 (by decide)) rfl rfl (Nat.le_of_ble_eq_true rfl) dX10_init_15 (fun H locs hP hD hS => ?_)
  have hP : va_P (dC, dI) vwCl (wd_1 h0 q1 cA2) H := hP
  have hD : va_D A (wd_1 h0 q1 cA2) := hD
  refine lv_aload_n hx hb dX10_init_18 rfl (lv_at hl 0 rfl) ?_
  refine lv_iconst (v := 0) hx hb dX10_init_19 (by decide) ?_
  refine va_put (D := (dC, dI)) (ci := 10) (v := .int 0) (ty := tyX10 2) (C := RX10) (T := TX10) (N := 10) hx hb hts i_X10 tyX10 tyX10_ok nmX10 hown hK hP hD hS 0 rfl rfl 2 (by decide) (hts _ q_122) (fun _ h9 => h9) rfl (tyX10_ok 2 (by decide)) rfl rfl (Nat.le_of_ble_eq_true rfl) dX10_init_20 (fun H locs hP hD hS => ?_)
  have hP : va_P (dC, dI) vwCl (wd_1 h0 q1 cA2) H := hP
  have hD : va_D A (wd_1 h0 q1 cA2) := hD
  refine lv_aload_n hx hb dX10_init_23 rfl (lv_at hl 0 rfl) ?_
  refine lv_iconst (v := 0) hx hb dX10_init_24 (by decide) ?_
  refine va_put (D := (dC, dI)) (ci := 10) (v := .int 0) (ty := tyX10 3) (C := RX10) (T := TX10) (N := 10) hx hb hts i_X10 tyX10 tyX10_ok nmX10 hown hK hP hD hS 0 rfl rfl 3 (by decide) (hts _ q_123) (fun _ h9 => h9) rfl (tyX10_ok 3 (by decide)) rfl rfl (Nat.le_of_ble_eq_true rfl) dX10_init_25 (fun H locs hP hD hS => ?_)
  have hP : va_P (dC, dI) vwCl (wd_1 h0 q1 cA2) H := hP
  have hD : va_D A (wd_1 h0 q1 cA2) := hD
  refine lv_aload_n hx hb dX10_init_28 rfl (lv_at hl 0 rfl) ?_
  refine lv_iconst (v := (-1)) hx hb dX10_init_29 (by decide) ?_
  refine va_put (D := (dC, dI)) (ci := 10) (v := .int (-1)) (ty := tyX10 4) (C := RX10) (T := TX10) (N := 10) hx hb hts i_X10 tyX10 tyX10_ok nmX10 hown hK hP hD hS 0 rfl rfl 4 (by decide) (hts _ q_124) (fun _ h9 => h9) rfl (tyX10_ok 4 (by decide)) rfl rfl (Nat.le_of_ble_eq_true rfl) dX10_init_30 (fun H locs hP hD hS => ?_)
  have hP : va_P (dC, dI) vwCl (wd_2 h0 q1 cA2) H := hP
  have hD : va_D A (wd_2 h0 q1 cA2) := hD
  refine lv_aload_n hx hb dX10_init_33 rfl (lv_at hl 0 rfl) ?_
  refine lv_iconst (v := (-1)) hx hb dX10_init_34 (by decide) ?_
  refine va_put (D := (dC, dI)) (ci := 10) (v := .int (-1)) (ty := tyX10 5) (C := RX10) (T := TX10) (N := 10) hx hb hts i_X10 tyX10 tyX10_ok nmX10 hown hK hP hD hS 0 rfl rfl 5 (by decide) (hts _ q_125) (fun _ h9 => h9) rfl (tyX10_ok 5 (by decide)) rfl rfl (Nat.le_of_ble_eq_true rfl) dX10_init_35 (fun H locs hP hD hS => ?_)
  have hP : va_P (dC, dI) vwCl (wd_3 h0 q1 cA2) H := hP
  have hD : va_D A (wd_3 h0 q1 cA2) := hD
  refine lv_aload_n hx hb dX10_init_38 rfl (lv_at hl 0 rfl) ?_
  refine lv_lconst (v := 0) hx hb dX10_init_39 (by decide) ?_
  refine va_put (D := (dC, dI)) (ci := 10) (v := .long 0) (ty := tyX10 6) (C := RX10) (T := TX10) (N := 10) hx hb hts i_X10 tyX10 tyX10_ok nmX10 hown hK hP hD hS 0 rfl rfl 6 (by decide) (hts _ q_126) (fun _ h9 => h9) rfl (tyX10_ok 6 (by decide)) rfl rfl (Nat.le_of_ble_eq_true rfl) dX10_init_40 (fun H locs hP hD hS => ?_)
  have hP : va_P (dC, dI) vwCl (wd_3 h0 q1 cA2) H := hP
  have hD : va_D A (wd_3 h0 q1 cA2) := hD
  refine lv_aload_n hx hb dX10_init_43 rfl (lv_at hl 0 rfl) ?_
  refine lv_iconst (v := 0) hx hb dX10_init_44 (by decide) ?_
  refine va_put (D := (dC, dI)) (ci := 10) (v := .int 0) (ty := tyX10 7) (C := RX10) (T := TX10) (N := 10) hx hb hts i_X10 tyX10 tyX10_ok nmX10 hown hK hP hD hS 0 rfl rfl 7 (by decide) (hts _ q_127) (fun _ h9 => h9) rfl (tyX10_ok 7 (by decide)) rfl rfl (Nat.le_of_ble_eq_true rfl) dX10_init_45 (fun H locs hP hD hS => ?_)
  have hP : va_P (dC, dI) vwCl (wd_3 h0 q1 cA2) H := hP
  have hD : va_D A (wd_3 h0 q1 cA2) := hD
  refine lv_aload_n hx hb dX10_init_48 rfl (lv_at hl 0 rfl) ?_
  refine lv_iconst (v := 0) hx hb dX10_init_49 (by decide) ?_
  refine va_put (D := (dC, dI)) (ci := 10) (v := .int 0) (ty := tyX10 8) (C := RX10) (T := TX10) (N := 10) hx hb hts i_X10 tyX10 tyX10_ok nmX10 hown hK hP hD hS 0 rfl rfl 8 (by decide) (hts _ q_128) (fun _ h9 => h9) rfl (tyX10_ok 8 (by decide)) rfl rfl (Nat.le_of_ble_eq_true rfl) dX10_init_50 (fun H locs hP hD hS => ?_)
  have hP : va_P (dC, dI) vwCl (wd_3 h0 q1 cA2) H := hP
  have hD : va_D A (wd_3 h0 q1 cA2) := hD
  refine lv_aload_n hx hb dX10_init_53 rfl (lv_at hl 0 rfl) ?_
  refine lv_iconst (v := (-1)) hx hb dX10_init_54 (by decide) ?_
  refine va_put (D := (dC, dI)) (ci := 10) (v := .int (-1)) (ty := tyX10 9) (C := RX10) (T := TX10) (N := 10) hx hb hts i_X10 tyX10 tyX10_ok nmX10 hown hK hP hD hS 0 rfl rfl 9 (by decide) (hts _ q_129) (fun _ h9 => h9) rfl (tyX10_ok 9 (by decide)) rfl rfl (Nat.le_of_ble_eq_true rfl) dX10_init_55 (fun H locs hP hD hS => ?_)
  have hP : va_P (dC, dI) vwCl (wd_4 h0 q1 cA2) H := hP
  have hD : va_D A (wd_4 h0 q1 cA2) := hD
  refine W.widen (k := 1) (n := 1600) (Nat.le_of_ble_eq_true rfl) (Nat.le_of_ble_eq_true rfl) ?_
  have hP9 := hP.sub (ws' := (wd_4 h0 q1 cA2)) [0, 1] rfl
  have hD9 := hD.sub (ws' := (wd_4 h0 q1 cA2)) [0, 1] (by decide) rfl
  have hK9 := hK.sub (tys' := [(cA2, .int)]) [0] rfl
  exact W.vret hx hb hr (fun t ht hW => ⟨⟨(), rfl, trivial, q1, cA2, by rw [ht]; exact hP9, va_K.moved hW.alike hK9, hD9⟩, hS.F ht⟩) hS.2.2 dX10_init_58
def wd_6 (h0 : Nat) : va_W := [(h0, .inr (2, [.int 0, .null, .null, .null]))]
def wd_7 (h0 : Nat) (q3 : Nat) (cA4 : ClassId) : va_W := [(h0, .inr (2, [.int 0, .null, .null, .null])), (q3, .inl (cA4, 6, .inr (.inl (fun _ => 0))))]
def wd_8 (h0 : Nat) (q3 : Nat) (cA4 : ClassId) : va_W := [(h0, .inr (2, [.int 0, .ref q3, .null, .null])), (q3, .inl (cA4, 6, .inr (.inl (fun _ => 0))))]
def wd_9 (h0 : Nat) (q3 : Nat) (cA4 : ClassId) (q5 : Nat) (cA6 : ClassId) : va_W := [(h0, .inr (2, [.int 0, .ref q3, .null, .null])), (q3, .inl (cA4, 6, .inr (.inl (fun _ => 0)))), (q5, .inl (cA6, 6, .inl (fun _ => 0)))]
def wd_10 (h0 : Nat) (q3 : Nat) (q5 : Nat) (cA4 : ClassId) (cA6 : ClassId) : va_W := [(h0, .inr (2, [.int 0, .ref q3, .ref q5, .null])), (q3, .inl (cA4, 6, .inr (.inl (fun _ => 0)))), (q5, .inl (cA6, 6, .inl (fun _ => 0)))]
def wd_11 (h0 : Nat) (q3 : Nat) (q5 : Nat) (cA4 : ClassId) (cA6 : ClassId) (q7 : Nat) (cA8 : ClassId) : va_W := [(h0, .inr (2, [.int 0, .ref q3, .ref q5, .null])), (q3, .inl (cA4, 6, .inr (.inl (fun _ => 0)))), (q5, .inl (cA6, 6, .inl (fun _ => 0))), (q7, .inl (cA8, 36, .inl (fun _ => 0)))]
def wd_12 (h0 : Nat) (q3 : Nat) (q5 : Nat) (q7 : Nat) (cA4 : ClassId) (cA6 : ClassId) (cA8 : ClassId) : va_W := [(h0, .inr (2, [.int 0, .ref q3, .ref q5, .ref q7])), (q3, .inl (cA4, 6, .inr (.inl (fun _ => 0)))), (q5, .inl (cA6, 6, .inl (fun _ => 0))), (q7, .inl (cA8, 36, .inl (fun _ => 0)))]
set_option maxHeartbeats 4000000 in
set_option maxRecDepth 100000 in
theorem K_X2_init (l : Launch) (dC : Nat → ClassId) (dI : Nat → Nat → Nat) (h0 : Nat) (sz : Nat) : Met l yX2_init (Cond.code yX2_init cX2_init 1 none :: wA) ({ frames := 1, cells := 3, slots := 48, locals := 12 }) (va_Pc [.ref h0] (fun U => U.heap.size = sz ∧ va_P (dC, dI) vwCl (wd_6 h0) U.heap ∧ va_K (dC, dI) vwCl [] U ∧ va_D (fun _ => True) (wd_6 h0))) (va_Qv (fun (_ : Unit) => True) (fun _ t => ∃ q3 : Nat, ∃ q5 : Nat, ∃ q7 : Nat, ∃ cA4 : ClassId, ∃ cA6 : ClassId, ∃ cA8 : ClassId, va_P (dC, dI) vwCl (wd_12 h0 q3 q5 q7 cA4 cA6 cA8) t.heap ∧ va_K (dC, dI) vwCl [(cA4, .long), (cA6, .int), (cA8, .int)] t ∧ va_D (va_A (wd_6 h0) sz) (wd_12 h0 q3 q5 q7 cA4 cA6 cA8)) (va_A (wd_6 h0) sz)) 3 48 (va_A (wd_6 h0) sz) := by
  refine Met.ofW (cc := cX2_init) (maxL := 1) (ret := none) (by decide) rfl ?_
  intro p e s m args below meth c s₁ B hml hv
  obtain ⟨rfl, hsz, hP, hK, hD0⟩ := hv
  have hx := B.exec
  have hb := B.bytes
  have hr := B.returns
  have hts : ∀ w ∈ wA, w.before [.ref h0].toArray s = true := fun w h => atoms_spec (ws := Cond.code yX2_init cX2_init 1 none :: wA) B.pre w (List.mem_cons_of_mem _ h)
  have hown : s.vm.findClass RX2 = some m.cls := findClass_of_methodNamed B.named
  have hlocks := B.notSynchronized
  have hin : meth.name = "<init>" := (name_of_methodNamed B.named B.method).1
  subst hsz
  have hD := hD0.self (sz := s.heap.size)
  generalize hAe : va_A (wd_6 h0) s.heap.size = A at hD ⊢
  have hA : ∀ q : Nat, s.heap.size ≤ q → A q := fun q h => by rw [← hAe]; exact Or.inr h
  have hS : va_S A s.heap s.heap [] := va_S.rf
  have hl := lv_entry ([.ref h0]) (n := 1) (Nat.le_of_ble_eq_true rfl)
  rw [lg_entry_eq]
  generalize (lg_sl ([.ref h0]) ++ List.replicate (1 - (lg_sl ([.ref h0])).length) Slot.unset).toArray = ls at hl ⊢
  have hl : lv_has ls 1 [(0, .ref h0)] := hl
  refine lv_aload_n hx hb dX2_init_0 rfl (lv_at hl 0 rfl) ?_
  refine W.objInit hx hb hown (hts _ q_1237) (hts _ q_108) (hts _ q_107) rfl (by rw [hml]; exact hl.1) rfl dX2_init_1 (Nat.le_of_ble_eq_true rfl) (Nat.le_of_ble_eq_true rfl) ?_
  refine W.eq (g2 := F0 m 4 ls []) rfl ?_
  refine lv_aload_n hx hb dX2_init_4 rfl (lv_at hl 0 rfl) ?_
  refine lv_iconst (v := 0) hx hb dX2_init_5 (by decide) ?_
  refine va_put (D := (dC, dI)) (ci := 2) (v := .int 0) (ty := tyX2 0) (C := RX2) (T := TX2) (N := 4) hx hb hts i_X2 tyX2 tyX2_ok nmX2 hown hK hP hD hS 0 rfl rfl 0 (by decide) (hts _ q_1229) (fun _ h9 => h9) rfl (tyX2_ok 0 (by decide)) rfl rfl (Nat.le_of_ble_eq_true rfl) dX2_init_6 (fun H locs hP hD hS => ?_)
  have hP : va_P (dC, dI) vwCl (wd_6 h0) H := hP
  have hD : va_D A (wd_6 h0) := hD
  refine lv_aload_n hx hb dX2_init_9 rfl (lv_at hl 0 rfl) ?_
  refine lv_bipush (v := 6) hx hb dX2_init_10 (by decide) ?_
  refine va_newa (atype := .long) (ty := .long) (n := 6) (N' := 6) (a0 := (6, .inr (.inl fun _ => 0))) hx hb (hts _ q_1174) rfl hK hP hD hS hA (fun _ => rfl) (by decide) (by decide) (Nat.le_of_ble_eq_true rfl) (Nat.le_of_ble_eq_true rfl) (Nat.le_of_ble_eq_true rfl) dX2_init_12 (fun q3 cA4 H hK hP hD hS => ?_)
  have hK : va_K (dC, dI) vwCl [(cA4, .long)] s := hK
  have hP : va_P (dC, dI) vwCl (wd_7 h0 q3 cA4) H := hP
  have hD : va_D A (wd_7 h0 q3 cA4) := hD
  refine W.widen (k := 1) (n := 6) (Nat.le_of_ble_eq_true rfl) (Nat.le_of_ble_eq_true rfl) ?_
  refine va_putF (D := (dC, dI)) (ci := 2) (v := .ref q3) (ty := tyX2 1) (C := RX2) (T := TX2) (N := 4) hx hb hts i_X2 tyX2 tyX2_ok nmX2 hown hK hP hD hS 0 rfl rfl 1 (by decide) (hts _ q_1230) (fun _ h9 => h9) rfl hin rfl (tyX2_ok 1 (by decide)) rfl rfl (Nat.le_of_ble_eq_true rfl) dX2_init_14 (fun H locs hP hD hS => ?_)
  have hP : va_P (dC, dI) vwCl (wd_8 h0 q3 cA4) H := hP
  have hD : va_D A (wd_8 h0 q3 cA4) := hD
  refine lv_aload_n hx hb dX2_init_17 rfl (lv_at hl 0 rfl) ?_
  refine lv_bipush (v := 6) hx hb dX2_init_18 (by decide) ?_
  refine va_newa (atype := .int) (ty := .int) (n := 6) (N' := 6) (a0 := (6, .inl fun _ => 0)) hx hb (hts _ q_121) rfl hK hP hD hS hA (fun _ => rfl) (by decide) (by decide) (Nat.le_of_ble_eq_true rfl) (Nat.le_of_ble_eq_true rfl) (Nat.le_of_ble_eq_true rfl) dX2_init_20 (fun q5 cA6 H hK hP hD hS => ?_)
  have hK : va_K (dC, dI) vwCl [(cA4, .long), (cA6, .int)] s := hK
  have hP : va_P (dC, dI) vwCl (wd_9 h0 q3 cA4 q5 cA6) H := hP
  have hD : va_D A (wd_9 h0 q3 cA4 q5 cA6) := hD
  refine W.widen (k := 2) (n := 12) (Nat.le_of_ble_eq_true rfl) (Nat.le_of_ble_eq_true rfl) ?_
  refine va_putF (D := (dC, dI)) (ci := 2) (v := .ref q5) (ty := tyX2 2) (C := RX2) (T := TX2) (N := 4) hx hb hts i_X2 tyX2 tyX2_ok nmX2 hown hK hP hD hS 0 rfl rfl 2 (by decide) (hts _ q_1235) (fun _ h9 => h9) rfl hin rfl (tyX2_ok 2 (by decide)) rfl rfl (Nat.le_of_ble_eq_true rfl) dX2_init_22 (fun H locs hP hD hS => ?_)
  have hP : va_P (dC, dI) vwCl (wd_10 h0 q3 q5 cA4 cA6) H := hP
  have hD : va_D A (wd_10 h0 q3 q5 cA4 cA6) := hD
  refine lv_aload_n hx hb dX2_init_25 rfl (lv_at hl 0 rfl) ?_
  refine lv_bipush (v := 36) hx hb dX2_init_26 (by decide) ?_
  refine va_newa (atype := .int) (ty := .int) (n := 36) (N' := 36) (a0 := (36, .inl fun _ => 0)) hx hb (hts _ q_121) rfl hK hP hD hS hA (fun _ => rfl) (by decide) (by decide) (Nat.le_of_ble_eq_true rfl) (Nat.le_of_ble_eq_true rfl) (Nat.le_of_ble_eq_true rfl) dX2_init_28 (fun q7 cA8 H hK hP hD hS => ?_)
  have hK : va_K (dC, dI) vwCl [(cA4, .long), (cA6, .int), (cA8, .int)] s := hK
  have hP : va_P (dC, dI) vwCl (wd_11 h0 q3 q5 cA4 cA6 q7 cA8) H := hP
  have hD : va_D A (wd_11 h0 q3 q5 cA4 cA6 q7 cA8) := hD
  refine W.widen (k := 3) (n := 48) (Nat.le_of_ble_eq_true rfl) (Nat.le_of_ble_eq_true rfl) ?_
  refine va_putF (D := (dC, dI)) (ci := 2) (v := .ref q7) (ty := tyX2 3) (C := RX2) (T := TX2) (N := 4) hx hb hts i_X2 tyX2 tyX2_ok nmX2 hown hK hP hD hS 0 rfl rfl 3 (by decide) (hts _ q_1236) (fun _ h9 => h9) rfl hin rfl (tyX2_ok 3 (by decide)) rfl rfl (Nat.le_of_ble_eq_true rfl) dX2_init_30 (fun H locs hP hD hS => ?_)
  have hP : va_P (dC, dI) vwCl (wd_12 h0 q3 q5 q7 cA4 cA6 cA8) H := hP
  have hD : va_D A (wd_12 h0 q3 q5 q7 cA4 cA6 cA8) := hD
  refine W.widen (k := 3) (n := 48) (Nat.le_of_ble_eq_true rfl) (Nat.le_of_ble_eq_true rfl) ?_
  have hP9 := hP.sub (ws' := (wd_12 h0 q3 q5 q7 cA4 cA6 cA8)) [0, 1, 2, 3] rfl
  have hD9 := hD.sub (ws' := (wd_12 h0 q3 q5 q7 cA4 cA6 cA8)) [0, 1, 2, 3] (by decide) rfl
  have hK9 := hK.sub (tys' := [(cA4, .long), (cA6, .int), (cA8, .int)]) [0, 1, 2] rfl
  exact W.vret hx hb hr (fun t ht hW => ⟨⟨(), rfl, trivial, q3, q5, q7, cA4, cA6, cA8, by rw [ht]; exact hP9, va_K.moved hW.alike hK9, hD9⟩, hS.F ht⟩) hS.2.2 dX2_init_33
def wd_13 (h0 : Nat) : va_W := [(h0, .inr (8, [.int 0, .int 0, .int 0, .null, .int 0, .int 0, .null, .int 0, .int 0, .int 0, .int 0, .int 0, .int 0, .null]))]
def wd_14 (h0 : Nat) (q9 : Nat) (cA10 : ClassId) : va_W := [(h0, .inr (8, [.int 0, .int 0, .int 0, .null, .int 0, .int 0, .null, .int 0, .int 0, .int 0, .int 0, .int 0, .int 0, .null])), (q9, .inl (cA10, 168, .inl (fun _ => 0)))]
def wd_15 (h0 : Nat) (q9 : Nat) (cA10 : ClassId) : va_W := [(h0, .inr (8, [.int 0, .int 0, .int 0, .ref q9, .int 0, .int 0, .null, .int 0, .int 0, .int 0, .int 0, .int 0, .int 0, .null])), (q9, .inl (cA10, 168, .inl (fun _ => 0)))]
def wd_16 (h0 : Nat) (q9 : Nat) (cA10 : ClassId) (q11 : Nat) (cA12 : ClassId) : va_W := [(h0, .inr (8, [.int 0, .int 0, .int 0, .ref q9, .int 0, .int 0, .null, .int 0, .int 0, .int 0, .int 0, .int 0, .int 0, .null])), (q9, .inl (cA10, 168, .inl (fun _ => 0))), (q11, .inl (cA12, 160, .inl (fun _ => 0)))]
def wd_17 (h0 : Nat) (q9 : Nat) (q11 : Nat) (cA10 : ClassId) (cA12 : ClassId) : va_W := [(h0, .inr (8, [.int 0, .int 0, .int 0, .ref q9, .int 0, .int 0, .ref q11, .int 0, .int 0, .int 0, .int 0, .int 0, .int 0, .null])), (q9, .inl (cA10, 168, .inl (fun _ => 0))), (q11, .inl (cA12, 160, .inl (fun _ => 0)))]
def wd_18 (h0 : Nat) (q9 : Nat) (q11 : Nat) (cA10 : ClassId) (cA12 : ClassId) (q13 : Nat) (cA14 : ClassId) : va_W := [(h0, .inr (8, [.int 0, .int 0, .int 0, .ref q9, .int 0, .int 0, .ref q11, .int 0, .int 0, .int 0, .int 0, .int 0, .int 0, .null])), (q9, .inl (cA10, 168, .inl (fun _ => 0))), (q11, .inl (cA12, 160, .inl (fun _ => 0))), (q13, .inl (cA14, 80, .inl (fun _ => 0)))]
def wd_19 (h0 : Nat) (q9 : Nat) (q11 : Nat) (q13 : Nat) (cA10 : ClassId) (cA12 : ClassId) (cA14 : ClassId) : va_W := [(h0, .inr (8, [.int 0, .int 0, .int 0, .ref q9, .int 0, .int 0, .ref q11, .int 0, .int 0, .int 0, .int 0, .int 0, .int 0, .ref q13])), (q9, .inl (cA10, 168, .inl (fun _ => 0))), (q11, .inl (cA12, 160, .inl (fun _ => 0))), (q13, .inl (cA14, 80, .inl (fun _ => 0)))]
set_option maxHeartbeats 4000000 in
set_option maxRecDepth 100000 in
theorem K_X8_init (l : Launch) (dC : Nat → ClassId) (dI : Nat → Nat → Nat) (h0 : Nat) (sz : Nat) : Met l yX8_init (Cond.code yX8_init cX8_init 1 none :: wA) ({ frames := 1, cells := 3, slots := 408, locals := 12 }) (va_Pc [.ref h0] (fun U => U.heap.size = sz ∧ va_P (dC, dI) vwCl (wd_13 h0) U.heap ∧ va_K (dC, dI) vwCl [] U ∧ va_D (fun _ => True) (wd_13 h0))) (va_Qv (fun (_ : Unit) => True) (fun _ t => ∃ q9 : Nat, ∃ q11 : Nat, ∃ q13 : Nat, ∃ cA10 : ClassId, ∃ cA12 : ClassId, ∃ cA14 : ClassId, va_P (dC, dI) vwCl (wd_19 h0 q9 q11 q13 cA10 cA12 cA14) t.heap ∧ va_K (dC, dI) vwCl [(cA10, .int), (cA12, .int), (cA14, .int)] t ∧ va_D (va_A (wd_13 h0) sz) (wd_19 h0 q9 q11 q13 cA10 cA12 cA14)) (va_A (wd_13 h0) sz)) 3 408 (va_A (wd_13 h0) sz) := by
  refine Met.ofW (cc := cX8_init) (maxL := 1) (ret := none) (by decide) rfl ?_
  intro p e s m args below meth c s₁ B hml hv
  obtain ⟨rfl, hsz, hP, hK, hD0⟩ := hv
  have hx := B.exec
  have hb := B.bytes
  have hr := B.returns
  have hts : ∀ w ∈ wA, w.before [.ref h0].toArray s = true := fun w h => atoms_spec (ws := Cond.code yX8_init cX8_init 1 none :: wA) B.pre w (List.mem_cons_of_mem _ h)
  have hown : s.vm.findClass RX8 = some m.cls := findClass_of_methodNamed B.named
  have hlocks := B.notSynchronized
  have hin : meth.name = "<init>" := (name_of_methodNamed B.named B.method).1
  subst hsz
  have hD := hD0.self (sz := s.heap.size)
  generalize hAe : va_A (wd_13 h0) s.heap.size = A at hD ⊢
  have hA : ∀ q : Nat, s.heap.size ≤ q → A q := fun q h => by rw [← hAe]; exact Or.inr h
  have hS : va_S A s.heap s.heap [] := va_S.rf
  have hl := lv_entry ([.ref h0]) (n := 1) (Nat.le_of_ble_eq_true rfl)
  rw [lg_entry_eq]
  generalize (lg_sl ([.ref h0]) ++ List.replicate (1 - (lg_sl ([.ref h0])).length) Slot.unset).toArray = ls at hl ⊢
  have hl : lv_has ls 1 [(0, .ref h0)] := hl
  refine lv_aload_n hx hb dX8_init_0 rfl (lv_at hl 0 rfl) ?_
  refine W.objInit hx hb hown (hts _ q_1544) (hts _ q_108) (hts _ q_107) rfl (by rw [hml]; exact hl.1) rfl dX8_init_1 (Nat.le_of_ble_eq_true rfl) (Nat.le_of_ble_eq_true rfl) ?_
  refine W.eq (g2 := F0 m 4 ls []) rfl ?_
  refine lv_aload_n hx hb dX8_init_4 rfl (lv_at hl 0 rfl) ?_
  refine lv_iconst (v := 0) hx hb dX8_init_5 (by decide) ?_
  refine va_put (D := (dC, dI)) (ci := 8) (v := .int 0) (ty := tyX8 0) (C := RX8) (T := TX8) (N := 14) hx hb hts i_X8 tyX8 tyX8_ok nmX8 hown hK hP hD hS 0 rfl rfl 0 (by decide) (hts _ q_1528) (fun _ h9 => h9) rfl (tyX8_ok 0 (by decide)) rfl rfl (Nat.le_of_ble_eq_true rfl) dX8_init_6 (fun H locs hP hD hS => ?_)
  have hP : va_P (dC, dI) vwCl (wd_13 h0) H := hP
  have hD : va_D A (wd_13 h0) := hD
  refine lv_aload_n hx hb dX8_init_9 rfl (lv_at hl 0 rfl) ?_
  refine lv_iconst (v := 0) hx hb dX8_init_10 (by decide) ?_
  refine va_put (D := (dC, dI)) (ci := 8) (v := .int 0) (ty := tyX8 1) (C := RX8) (T := TX8) (N := 14) hx hb hts i_X8 tyX8 tyX8_ok nmX8 hown hK hP hD hS 0 rfl rfl 1 (by decide) (hts _ q_1524) (fun _ h9 => h9) rfl (tyX8_ok 1 (by decide)) rfl rfl (Nat.le_of_ble_eq_true rfl) dX8_init_11 (fun H locs hP hD hS => ?_)
  have hP : va_P (dC, dI) vwCl (wd_13 h0) H := hP
  have hD : va_D A (wd_13 h0) := hD
  refine lv_aload_n hx hb dX8_init_14 rfl (lv_at hl 0 rfl) ?_
  refine lv_iconst (v := 0) hx hb dX8_init_15 (by decide) ?_
  refine va_put (D := (dC, dI)) (ci := 8) (v := .int 0) (ty := tyX8 2) (C := RX8) (T := TX8) (N := 14) hx hb hts i_X8 tyX8 tyX8_ok nmX8 hown hK hP hD hS 0 rfl rfl 2 (by decide) (hts _ q_1529) (fun _ h9 => h9) rfl (tyX8_ok 2 (by decide)) rfl rfl (Nat.le_of_ble_eq_true rfl) dX8_init_16 (fun H locs hP hD hS => ?_)
  have hP : va_P (dC, dI) vwCl (wd_13 h0) H := hP
  have hD : va_D A (wd_13 h0) := hD
  refine lv_aload_n hx hb dX8_init_19 rfl (lv_at hl 0 rfl) ?_
  refine lv_sipush (v := 168) hx hb dX8_init_20 (by decide) ?_
  refine va_newa (atype := .int) (ty := .int) (n := 168) (N' := 168) (a0 := (168, .inl fun _ => 0)) hx hb (hts _ q_121) rfl hK hP hD hS hA (fun _ => rfl) (by decide) (by decide) (Nat.le_of_ble_eq_true rfl) (Nat.le_of_ble_eq_true rfl) (Nat.le_of_ble_eq_true rfl) dX8_init_23 (fun q9 cA10 H hK hP hD hS => ?_)
  have hK : va_K (dC, dI) vwCl [(cA10, .int)] s := hK
  have hP : va_P (dC, dI) vwCl (wd_14 h0 q9 cA10) H := hP
  have hD : va_D A (wd_14 h0 q9 cA10) := hD
  refine W.widen (k := 1) (n := 168) (Nat.le_of_ble_eq_true rfl) (Nat.le_of_ble_eq_true rfl) ?_
  refine va_putF (D := (dC, dI)) (ci := 8) (v := .ref q9) (ty := tyX8 3) (C := RX8) (T := TX8) (N := 14) hx hb hts i_X8 tyX8 tyX8_ok nmX8 hown hK hP hD hS 0 rfl rfl 3 (by decide) (hts _ q_1527) (fun _ h9 => h9) rfl hin rfl (tyX8_ok 3 (by decide)) rfl rfl (Nat.le_of_ble_eq_true rfl) dX8_init_25 (fun H locs hP hD hS => ?_)
  have hP : va_P (dC, dI) vwCl (wd_15 h0 q9 cA10) H := hP
  have hD : va_D A (wd_15 h0 q9 cA10) := hD
  refine lv_aload_n hx hb dX8_init_28 rfl (lv_at hl 0 rfl) ?_
  refine lv_iconst (v := 0) hx hb dX8_init_29 (by decide) ?_
  refine va_put (D := (dC, dI)) (ci := 8) (v := .int 0) (ty := tyX8 4) (C := RX8) (T := TX8) (N := 14) hx hb hts i_X8 tyX8 tyX8_ok nmX8 hown hK hP hD hS 0 rfl rfl 4 (by decide) (hts _ q_1530) (fun _ h9 => h9) rfl (tyX8_ok 4 (by decide)) rfl rfl (Nat.le_of_ble_eq_true rfl) dX8_init_30 (fun H locs hP hD hS => ?_)
  have hP : va_P (dC, dI) vwCl (wd_15 h0 q9 cA10) H := hP
  have hD : va_D A (wd_15 h0 q9 cA10) := hD
  refine lv_aload_n hx hb dX8_init_33 rfl (lv_at hl 0 rfl) ?_
  refine lv_iconst (v := 0) hx hb dX8_init_34 (by decide) ?_
  refine va_put (D := (dC, dI)) (ci := 8) (v := .int 0) (ty := tyX8 5) (C := RX8) (T := TX8) (N := 14) hx hb hts i_X8 tyX8 tyX8_ok nmX8 hown hK hP hD hS 0 rfl rfl 5 (by decide) (hts _ q_1537) (fun _ h9 => h9) rfl (tyX8_ok 5 (by decide)) rfl rfl (Nat.le_of_ble_eq_true rfl) dX8_init_35 (fun H locs hP hD hS => ?_)
  have hP : va_P (dC, dI) vwCl (wd_15 h0 q9 cA10) H := hP
  have hD : va_D A (wd_15 h0 q9 cA10) := hD
  refine lv_aload_n hx hb dX8_init_38 rfl (lv_at hl 0 rfl) ?_
  refine lv_sipush (v := 160) hx hb dX8_init_39 (by decide) ?_
  refine va_newa (atype := .int) (ty := .int) (n := 160) (N' := 160) (a0 := (160, .inl fun _ => 0)) hx hb (hts _ q_121) rfl hK hP hD hS hA (fun _ => rfl) (by decide) (by decide) (Nat.le_of_ble_eq_true rfl) (Nat.le_of_ble_eq_true rfl) (Nat.le_of_ble_eq_true rfl) dX8_init_42 (fun q11 cA12 H hK hP hD hS => ?_)
  have hK : va_K (dC, dI) vwCl [(cA10, .int), (cA12, .int)] s := hK
  have hP : va_P (dC, dI) vwCl (wd_16 h0 q9 cA10 q11 cA12) H := hP
  have hD : va_D A (wd_16 h0 q9 cA10 q11 cA12) := hD
  refine W.widen (k := 2) (n := 328) (Nat.le_of_ble_eq_true rfl) (Nat.le_of_ble_eq_true rfl) ?_
  refine va_putF (D := (dC, dI)) (ci := 8) (v := .ref q11) (ty := tyX8 6) (C := RX8) (T := TX8) (N := 14) hx hb hts i_X8 tyX8 tyX8_ok nmX8 hown hK hP hD hS 0 rfl rfl 6 (by decide) (hts _ q_1538) (fun _ h9 => h9) rfl hin rfl (tyX8_ok 6 (by decide)) rfl rfl (Nat.le_of_ble_eq_true rfl) dX8_init_44 (fun H locs hP hD hS => ?_)
  have hP : va_P (dC, dI) vwCl (wd_17 h0 q9 q11 cA10 cA12) H := hP
  have hD : va_D A (wd_17 h0 q9 q11 cA10 cA12) := hD
  refine lv_aload_n hx hb dX8_init_47 rfl (lv_at hl 0 rfl) ?_
  refine lv_iconst (v := 0) hx hb dX8_init_48 (by decide) ?_
  refine va_put (D := (dC, dI)) (ci := 8) (v := .int 0) (ty := tyX8 7) (C := RX8) (T := TX8) (N := 14) hx hb hts i_X8 tyX8 tyX8_ok nmX8 hown hK hP hD hS 0 rfl rfl 7 (by decide) (hts _ q_1539) (fun _ h9 => h9) rfl (tyX8_ok 7 (by decide)) rfl rfl (Nat.le_of_ble_eq_true rfl) dX8_init_49 (fun H locs hP hD hS => ?_)
  have hP : va_P (dC, dI) vwCl (wd_17 h0 q9 q11 cA10 cA12) H := hP
  have hD : va_D A (wd_17 h0 q9 q11 cA10 cA12) := hD
  refine lv_aload_n hx hb dX8_init_52 rfl (lv_at hl 0 rfl) ?_
  refine lv_iconst (v := 0) hx hb dX8_init_53 (by decide) ?_
  refine va_put (D := (dC, dI)) (ci := 8) (v := .int 0) (ty := tyX8 8) (C := RX8) (T := TX8) (N := 14) hx hb hts i_X8 tyX8 tyX8_ok nmX8 hown hK hP hD hS 0 rfl rfl 8 (by decide) (hts _ q_1540) (fun _ h9 => h9) rfl (tyX8_ok 8 (by decide)) rfl rfl (Nat.le_of_ble_eq_true rfl) dX8_init_54 (fun H locs hP hD hS => ?_)
  have hP : va_P (dC, dI) vwCl (wd_17 h0 q9 q11 cA10 cA12) H := hP
  have hD : va_D A (wd_17 h0 q9 q11 cA10 cA12) := hD
  refine lv_aload_n hx hb dX8_init_57 rfl (lv_at hl 0 rfl) ?_
  refine lv_iconst (v := 0) hx hb dX8_init_58 (by decide) ?_
  refine va_put (D := (dC, dI)) (ci := 8) (v := .int 0) (ty := tyX8 9) (C := RX8) (T := TX8) (N := 14) hx hb hts i_X8 tyX8 tyX8_ok nmX8 hown hK hP hD hS 0 rfl rfl 9 (by decide) (hts _ q_1541) (fun _ h9 => h9) rfl (tyX8_ok 9 (by decide)) rfl rfl (Nat.le_of_ble_eq_true rfl) dX8_init_59 (fun H locs hP hD hS => ?_)
  have hP : va_P (dC, dI) vwCl (wd_17 h0 q9 q11 cA10 cA12) H := hP
  have hD : va_D A (wd_17 h0 q9 q11 cA10 cA12) := hD
  refine lv_aload_n hx hb dX8_init_62 rfl (lv_at hl 0 rfl) ?_
  refine lv_iconst (v := 0) hx hb dX8_init_63 (by decide) ?_
  refine va_put (D := (dC, dI)) (ci := 8) (v := .int 0) (ty := tyX8 10) (C := RX8) (T := TX8) (N := 14) hx hb hts i_X8 tyX8 tyX8_ok nmX8 hown hK hP hD hS 0 rfl rfl 10 (by decide) (hts _ q_1542) (fun _ h9 => h9) rfl (tyX8_ok 10 (by decide)) rfl rfl (Nat.le_of_ble_eq_true rfl) dX8_init_64 (fun H locs hP hD hS => ?_)
  have hP : va_P (dC, dI) vwCl (wd_17 h0 q9 q11 cA10 cA12) H := hP
  have hD : va_D A (wd_17 h0 q9 q11 cA10 cA12) := hD
  refine lv_aload_n hx hb dX8_init_67 rfl (lv_at hl 0 rfl) ?_
  refine lv_iconst (v := 0) hx hb dX8_init_68 (by decide) ?_
  refine va_put (D := (dC, dI)) (ci := 8) (v := .int 0) (ty := tyX8 11) (C := RX8) (T := TX8) (N := 14) hx hb hts i_X8 tyX8 tyX8_ok nmX8 hown hK hP hD hS 0 rfl rfl 11 (by decide) (hts _ q_1531) (fun _ h9 => h9) rfl (tyX8_ok 11 (by decide)) rfl rfl (Nat.le_of_ble_eq_true rfl) dX8_init_69 (fun H locs hP hD hS => ?_)
  have hP : va_P (dC, dI) vwCl (wd_17 h0 q9 q11 cA10 cA12) H := hP
  have hD : va_D A (wd_17 h0 q9 q11 cA10 cA12) := hD
  refine lv_aload_n hx hb dX8_init_72 rfl (lv_at hl 0 rfl) ?_
  refine lv_iconst (v := 0) hx hb dX8_init_73 (by decide) ?_
  refine va_put (D := (dC, dI)) (ci := 8) (v := .int 0) (ty := tyX8 12) (C := RX8) (T := TX8) (N := 14) hx hb hts i_X8 tyX8 tyX8_ok nmX8 hown hK hP hD hS 0 rfl rfl 12 (by decide) (hts _ q_1532) (fun _ h9 => h9) rfl (tyX8_ok 12 (by decide)) rfl rfl (Nat.le_of_ble_eq_true rfl) dX8_init_74 (fun H locs hP hD hS => ?_)
  have hP : va_P (dC, dI) vwCl (wd_17 h0 q9 q11 cA10 cA12) H := hP
  have hD : va_D A (wd_17 h0 q9 q11 cA10 cA12) := hD
  refine lv_aload_n hx hb dX8_init_77 rfl (lv_at hl 0 rfl) ?_
  refine lv_bipush (v := 80) hx hb dX8_init_78 (by decide) ?_
  refine va_newa (atype := .int) (ty := .int) (n := 80) (N' := 80) (a0 := (80, .inl fun _ => 0)) hx hb (hts _ q_121) rfl hK hP hD hS hA (fun _ => rfl) (by decide) (by decide) (Nat.le_of_ble_eq_true rfl) (Nat.le_of_ble_eq_true rfl) (Nat.le_of_ble_eq_true rfl) dX8_init_80 (fun q13 cA14 H hK hP hD hS => ?_)
  have hK : va_K (dC, dI) vwCl [(cA10, .int), (cA12, .int), (cA14, .int)] s := hK
  have hP : va_P (dC, dI) vwCl (wd_18 h0 q9 q11 cA10 cA12 q13 cA14) H := hP
  have hD : va_D A (wd_18 h0 q9 q11 cA10 cA12 q13 cA14) := hD
  refine W.widen (k := 3) (n := 408) (Nat.le_of_ble_eq_true rfl) (Nat.le_of_ble_eq_true rfl) ?_
  refine va_putF (D := (dC, dI)) (ci := 8) (v := .ref q13) (ty := tyX8 13) (C := RX8) (T := TX8) (N := 14) hx hb hts i_X8 tyX8 tyX8_ok nmX8 hown hK hP hD hS 0 rfl rfl 13 (by decide) (hts _ q_1543) (fun _ h9 => h9) rfl hin rfl (tyX8_ok 13 (by decide)) rfl rfl (Nat.le_of_ble_eq_true rfl) dX8_init_82 (fun H locs hP hD hS => ?_)
  have hP : va_P (dC, dI) vwCl (wd_19 h0 q9 q11 q13 cA10 cA12 cA14) H := hP
  have hD : va_D A (wd_19 h0 q9 q11 q13 cA10 cA12 cA14) := hD
  refine W.widen (k := 3) (n := 408) (Nat.le_of_ble_eq_true rfl) (Nat.le_of_ble_eq_true rfl) ?_
  have hP9 := hP.sub (ws' := (wd_19 h0 q9 q11 q13 cA10 cA12 cA14)) [0, 1, 2, 3] rfl
  have hD9 := hD.sub (ws' := (wd_19 h0 q9 q11 q13 cA10 cA12 cA14)) [0, 1, 2, 3] (by decide) rfl
  have hK9 := hK.sub (tys' := [(cA10, .int), (cA12, .int), (cA14, .int)]) [0, 1, 2] rfl
  exact W.vret hx hb hr (fun t ht hW => ⟨⟨(), rfl, trivial, q9, q11, q13, cA10, cA12, cA14, by rw [ht]; exact hP9, va_K.moved hW.alike hK9, hD9⟩, hS.F ht⟩) hS.2.2 dX8_init_85
def wd_20 (h0 : Nat) (q15 : Nat) (cA16 : ClassId) : va_W := [(h0, .inr (9, [.null, .null, .null, .null, .null, .null, .null, .null, .int 0, .int 0, .int 0])), (q15, .inl (cA16, 160, .inl (fun _ => 0)))]
def wd_21 (h0 : Nat) (q15 : Nat) (cA16 : ClassId) : va_W := [(h0, .inr (9, [.null, .ref q15, .null, .null, .null, .null, .null, .null, .int 0, .int 0, .int 0])), (q15, .inl (cA16, 160, .inl (fun _ => 0)))]
def wd_22 (h0 : Nat) (q15 : Nat) (cA16 : ClassId) (q17 : Nat) (cA18 : ClassId) : va_W := [(h0, .inr (9, [.null, .ref q15, .null, .null, .null, .null, .null, .null, .int 0, .int 0, .int 0])), (q15, .inl (cA16, 160, .inl (fun _ => 0))), (q17, .inl (cA18, 160, .inl (fun _ => 0)))]
def wd_23 (h0 : Nat) (q15 : Nat) (q17 : Nat) (cA16 : ClassId) (cA18 : ClassId) : va_W := [(h0, .inr (9, [.null, .ref q15, .ref q17, .null, .null, .null, .null, .null, .int 0, .int 0, .int 0])), (q15, .inl (cA16, 160, .inl (fun _ => 0))), (q17, .inl (cA18, 160, .inl (fun _ => 0)))]
def wd_24 (h0 : Nat) (q15 : Nat) (q17 : Nat) (cA16 : ClassId) (cA18 : ClassId) (q19 : Nat) (cA20 : ClassId) : va_W := [(h0, .inr (9, [.null, .ref q15, .ref q17, .null, .null, .null, .null, .null, .int 0, .int 0, .int 0])), (q15, .inl (cA16, 160, .inl (fun _ => 0))), (q17, .inl (cA18, 160, .inl (fun _ => 0))), (q19, .inl (cA20, 80, .inl (fun _ => 0)))]
def wd_25 (h0 : Nat) (q15 : Nat) (q17 : Nat) (q19 : Nat) (cA16 : ClassId) (cA18 : ClassId) (cA20 : ClassId) : va_W := [(h0, .inr (9, [.null, .ref q15, .ref q17, .ref q19, .null, .null, .null, .null, .int 0, .int 0, .int 0])), (q15, .inl (cA16, 160, .inl (fun _ => 0))), (q17, .inl (cA18, 160, .inl (fun _ => 0))), (q19, .inl (cA20, 80, .inl (fun _ => 0)))]
def wd_26 (h0 : Nat) (q15 : Nat) (q17 : Nat) (q19 : Nat) (cA16 : ClassId) (cA18 : ClassId) (cA20 : ClassId) (q21 : Nat) (cA22 : ClassId) : va_W := [(h0, .inr (9, [.null, .ref q15, .ref q17, .ref q19, .null, .null, .null, .null, .int 0, .int 0, .int 0])), (q15, .inl (cA16, 160, .inl (fun _ => 0))), (q17, .inl (cA18, 160, .inl (fun _ => 0))), (q19, .inl (cA20, 80, .inl (fun _ => 0))), (q21, .inl (cA22, 80, .inl (fun _ => 0)))]
def wd_27 (h0 : Nat) (q15 : Nat) (q17 : Nat) (q19 : Nat) (q21 : Nat) (cA16 : ClassId) (cA18 : ClassId) (cA20 : ClassId) (cA22 : ClassId) : va_W := [(h0, .inr (9, [.null, .ref q15, .ref q17, .ref q19, .ref q21, .null, .null, .null, .int 0, .int 0, .int 0])), (q15, .inl (cA16, 160, .inl (fun _ => 0))), (q17, .inl (cA18, 160, .inl (fun _ => 0))), (q19, .inl (cA20, 80, .inl (fun _ => 0))), (q21, .inl (cA22, 80, .inl (fun _ => 0)))]
def wd_28 (h0 : Nat) (q15 : Nat) (q17 : Nat) (q19 : Nat) (q21 : Nat) (cA16 : ClassId) (cA18 : ClassId) (cA20 : ClassId) (cA22 : ClassId) (q23 : Nat) (cA24 : ClassId) : va_W := [(h0, .inr (9, [.null, .ref q15, .ref q17, .ref q19, .ref q21, .null, .null, .null, .int 0, .int 0, .int 0])), (q15, .inl (cA16, 160, .inl (fun _ => 0))), (q17, .inl (cA18, 160, .inl (fun _ => 0))), (q19, .inl (cA20, 80, .inl (fun _ => 0))), (q21, .inl (cA22, 80, .inl (fun _ => 0))), (q23, .inl (cA24, 80, .inl (fun _ => 0)))]
def wd_29 (h0 : Nat) (q15 : Nat) (q17 : Nat) (q19 : Nat) (q21 : Nat) (q23 : Nat) (cA16 : ClassId) (cA18 : ClassId) (cA20 : ClassId) (cA22 : ClassId) (cA24 : ClassId) : va_W := [(h0, .inr (9, [.null, .ref q15, .ref q17, .ref q19, .ref q21, .ref q23, .null, .null, .int 0, .int 0, .int 0])), (q15, .inl (cA16, 160, .inl (fun _ => 0))), (q17, .inl (cA18, 160, .inl (fun _ => 0))), (q19, .inl (cA20, 80, .inl (fun _ => 0))), (q21, .inl (cA22, 80, .inl (fun _ => 0))), (q23, .inl (cA24, 80, .inl (fun _ => 0)))]
def wd_30 (h0 : Nat) (q15 : Nat) (q17 : Nat) (q19 : Nat) (q21 : Nat) (q23 : Nat) (cA16 : ClassId) (cA18 : ClassId) (cA20 : ClassId) (cA22 : ClassId) (cA24 : ClassId) (q25 : Nat) (cA26 : ClassId) : va_W := [(h0, .inr (9, [.null, .ref q15, .ref q17, .ref q19, .ref q21, .ref q23, .null, .null, .int 0, .int 0, .int 0])), (q15, .inl (cA16, 160, .inl (fun _ => 0))), (q17, .inl (cA18, 160, .inl (fun _ => 0))), (q19, .inl (cA20, 80, .inl (fun _ => 0))), (q21, .inl (cA22, 80, .inl (fun _ => 0))), (q23, .inl (cA24, 80, .inl (fun _ => 0))), (q25, .inl (cA26, 80, .inl (fun _ => 0)))]
def wd_31 (h0 : Nat) (q15 : Nat) (q17 : Nat) (q19 : Nat) (q21 : Nat) (q23 : Nat) (q25 : Nat) (cA16 : ClassId) (cA18 : ClassId) (cA20 : ClassId) (cA22 : ClassId) (cA24 : ClassId) (cA26 : ClassId) : va_W := [(h0, .inr (9, [.null, .ref q15, .ref q17, .ref q19, .ref q21, .ref q23, .ref q25, .null, .int 0, .int 0, .int 0])), (q15, .inl (cA16, 160, .inl (fun _ => 0))), (q17, .inl (cA18, 160, .inl (fun _ => 0))), (q19, .inl (cA20, 80, .inl (fun _ => 0))), (q21, .inl (cA22, 80, .inl (fun _ => 0))), (q23, .inl (cA24, 80, .inl (fun _ => 0))), (q25, .inl (cA26, 80, .inl (fun _ => 0)))]
def wd_32 (h0 : Nat) (q15 : Nat) (q17 : Nat) (q19 : Nat) (q21 : Nat) (q23 : Nat) (q25 : Nat) (cA16 : ClassId) (cA18 : ClassId) (cA20 : ClassId) (cA22 : ClassId) (cA24 : ClassId) (cA26 : ClassId) (q27 : Nat) (cA28 : ClassId) : va_W := [(h0, .inr (9, [.null, .ref q15, .ref q17, .ref q19, .ref q21, .ref q23, .ref q25, .null, .int 0, .int 0, .int 0])), (q15, .inl (cA16, 160, .inl (fun _ => 0))), (q17, .inl (cA18, 160, .inl (fun _ => 0))), (q19, .inl (cA20, 80, .inl (fun _ => 0))), (q21, .inl (cA22, 80, .inl (fun _ => 0))), (q23, .inl (cA24, 80, .inl (fun _ => 0))), (q25, .inl (cA26, 80, .inl (fun _ => 0))), (q27, .inl (cA28, 160, .inl (fun _ => 0)))]
def wd_33 (h0 : Nat) (q15 : Nat) (q17 : Nat) (q19 : Nat) (q21 : Nat) (q23 : Nat) (q25 : Nat) (q27 : Nat) (cA16 : ClassId) (cA18 : ClassId) (cA20 : ClassId) (cA22 : ClassId) (cA24 : ClassId) (cA26 : ClassId) (cA28 : ClassId) : va_W := [(h0, .inr (9, [.null, .ref q15, .ref q17, .ref q19, .ref q21, .ref q23, .ref q25, .ref q27, .int 0, .int 0, .int 0])), (q15, .inl (cA16, 160, .inl (fun _ => 0))), (q17, .inl (cA18, 160, .inl (fun _ => 0))), (q19, .inl (cA20, 80, .inl (fun _ => 0))), (q21, .inl (cA22, 80, .inl (fun _ => 0))), (q23, .inl (cA24, 80, .inl (fun _ => 0))), (q25, .inl (cA26, 80, .inl (fun _ => 0))), (q27, .inl (cA28, 160, .inl (fun _ => 0)))]
def wd_34 (h0 : Nat) (q15 : Nat) (q17 : Nat) (q19 : Nat) (q21 : Nat) (q23 : Nat) (q25 : Nat) (q27 : Nat) (cA16 : ClassId) (cA18 : ClassId) (cA20 : ClassId) (cA22 : ClassId) (cA24 : ClassId) (cA26 : ClassId) (cA28 : ClassId) : va_W := [(h0, .inr (9, [.null, .ref q15, .ref q17, .ref q19, .ref q21, .ref q23, .ref q25, .ref q27, .int 0, .int 0, .int (-1)])), (q15, .inl (cA16, 160, .inl (fun _ => 0))), (q17, .inl (cA18, 160, .inl (fun _ => 0))), (q19, .inl (cA20, 80, .inl (fun _ => 0))), (q21, .inl (cA22, 80, .inl (fun _ => 0))), (q23, .inl (cA24, 80, .inl (fun _ => 0))), (q25, .inl (cA26, 80, .inl (fun _ => 0))), (q27, .inl (cA28, 160, .inl (fun _ => 0)))]
def wd_35 (h0 : Nat) (a1 : Nat) (q15 : Nat) (q17 : Nat) (q19 : Nat) (q21 : Nat) (q23 : Nat) (q25 : Nat) (q27 : Nat) (cA16 : ClassId) (cA18 : ClassId) (cA20 : ClassId) (cA22 : ClassId) (cA24 : ClassId) (cA26 : ClassId) (cA28 : ClassId) : va_W := [(h0, .inr (9, [.ref a1, .ref q15, .ref q17, .ref q19, .ref q21, .ref q23, .ref q25, .ref q27, .int 0, .int 0, .int (-1)])), (q15, .inl (cA16, 160, .inl (fun _ => 0))), (q17, .inl (cA18, 160, .inl (fun _ => 0))), (q19, .inl (cA20, 80, .inl (fun _ => 0))), (q21, .inl (cA22, 80, .inl (fun _ => 0))), (q23, .inl (cA24, 80, .inl (fun _ => 0))), (q25, .inl (cA26, 80, .inl (fun _ => 0))), (q27, .inl (cA28, 160, .inl (fun _ => 0)))]
def wd_36 (h0 : Nat) : va_W := [(h0, .inr (9, [.null, .null, .null, .null, .null, .null, .null, .null, .int 0, .int 0, .int 0]))]
set_option maxHeartbeats 4000000 in
set_option maxRecDepth 100000 in
theorem K_X9_init (l : Launch) (dC : Nat → ClassId) (dI : Nat → Nat → Nat) (h0 : Nat) (a1 : Nat) (sz : Nat) : Met l yX9_init (Cond.code yX9_init cX9_init 2 none :: wA) ({ frames := 1, cells := 7, slots := 800, locals := 12 }) (va_Pc [.ref h0, .ref a1] (fun U => U.heap.size = sz ∧ va_P (dC, dI) vwCl (wd_36 h0) U.heap ∧ va_K (dC, dI) vwCl [] U ∧ va_D (fun _ => True) (wd_36 h0))) (va_Qv (fun (_ : Unit) => True) (fun _ t => ∃ q15 : Nat, ∃ q17 : Nat, ∃ q19 : Nat, ∃ q21 : Nat, ∃ q23 : Nat, ∃ q25 : Nat, ∃ q27 : Nat, ∃ cA16 : ClassId, ∃ cA18 : ClassId, ∃ cA20 : ClassId, ∃ cA22 : ClassId, ∃ cA24 : ClassId, ∃ cA26 : ClassId, ∃ cA28 : ClassId, va_P (dC, dI) vwCl (wd_35 h0 a1 q15 q17 q19 q21 q23 q25 q27 cA16 cA18 cA20 cA22 cA24 cA26 cA28) t.heap ∧ va_K (dC, dI) vwCl [(cA16, .int), (cA18, .int), (cA20, .int), (cA22, .int), (cA24, .int), (cA26, .int), (cA28, .int)] t ∧ va_D (va_A (wd_36 h0) sz) (wd_35 h0 a1 q15 q17 q19 q21 q23 q25 q27 cA16 cA18 cA20 cA22 cA24 cA26 cA28)) (va_A (wd_36 h0) sz)) 7 800 (va_A (wd_36 h0) sz) := by
  refine Met.ofW (cc := cX9_init) (maxL := 2) (ret := none) (by decide) rfl ?_
  intro p e s m args below meth c s₁ B hml hv
  obtain ⟨rfl, hsz, hP, hK, hD0⟩ := hv
  have hx := B.exec
  have hb := B.bytes
  have hr := B.returns
  have hts : ∀ w ∈ wA, w.before [.ref h0, .ref a1].toArray s = true := fun w h => atoms_spec (ws := Cond.code yX9_init cX9_init 2 none :: wA) B.pre w (List.mem_cons_of_mem _ h)
  have hown : s.vm.findClass RX9 = some m.cls := findClass_of_methodNamed B.named
  have hlocks := B.notSynchronized
  have hin : meth.name = "<init>" := (name_of_methodNamed B.named B.method).1
  subst hsz
  have hD := hD0.self (sz := s.heap.size)
  generalize hAe : va_A (wd_36 h0) s.heap.size = A at hD ⊢
  have hA : ∀ q : Nat, s.heap.size ≤ q → A q := fun q h => by rw [← hAe]; exact Or.inr h
  have hS : va_S A s.heap s.heap [] := va_S.rf
  have hl := lv_entry ([.ref h0, .ref a1]) (n := 2) (Nat.le_of_ble_eq_true rfl)
  rw [lg_entry_eq]
  generalize (lg_sl ([.ref h0, .ref a1]) ++ List.replicate (2 - (lg_sl ([.ref h0, .ref a1])).length) Slot.unset).toArray = ls at hl ⊢
  have hl : lv_has ls 2 [(0, .ref h0), (1, .ref a1)] := hl
  refine lv_aload_n hx hb dX9_init_0 rfl (lv_at hl 0 rfl) ?_
  refine W.objInit hx hb hown (hts _ q_1553) (hts _ q_108) (hts _ q_107) rfl (by rw [hml]; exact hl.1) rfl dX9_init_1 (Nat.le_of_ble_eq_true rfl) (Nat.le_of_ble_eq_true rfl) ?_
  refine W.eq (g2 := F0 m 4 ls []) rfl ?_
  refine lv_aload_n hx hb dX9_init_4 rfl (lv_at hl 0 rfl) ?_
  refine lv_sipush (v := 160) hx hb dX9_init_5 (by decide) ?_
  refine va_newa (atype := .int) (ty := .int) (n := 160) (N' := 160) (a0 := (160, .inl fun _ => 0)) hx hb (hts _ q_121) rfl hK hP hD hS hA (fun _ => rfl) (by decide) (by decide) (Nat.le_of_ble_eq_true rfl) (Nat.le_of_ble_eq_true rfl) (Nat.le_of_ble_eq_true rfl) dX9_init_8 (fun q15 cA16 H hK hP hD hS => ?_)
  have hK : va_K (dC, dI) vwCl [(cA16, .int)] s := hK
  have hP : va_P (dC, dI) vwCl (wd_20 h0 q15 cA16) H := hP
  have hD : va_D A (wd_20 h0 q15 cA16) := hD
  refine W.widen (k := 1) (n := 160) (Nat.le_of_ble_eq_true rfl) (Nat.le_of_ble_eq_true rfl) ?_
  refine va_putF (D := (dC, dI)) (ci := 9) (v := .ref q15) (ty := tyX9 1) (C := RX9) (T := TX9) (N := 11) hx hb hts i_X9 tyX9 tyX9_ok nmX9 hown hK hP hD hS 0 rfl rfl 1 (by decide) (hts _ q_1552) (fun _ h9 => h9) rfl hin rfl (tyX9_ok 1 (by decide)) rfl rfl (Nat.le_of_ble_eq_true rfl) dX9_init_10 (fun H locs hP hD hS => ?_)
  have hP : va_P (dC, dI) vwCl (wd_21 h0 q15 cA16) H := hP
  have hD : va_D A (wd_21 h0 q15 cA16) := hD
  refine lv_aload_n hx hb dX9_init_13 rfl (lv_at hl 0 rfl) ?_
  refine lv_sipush (v := 160) hx hb dX9_init_14 (by decide) ?_
  refine va_newa (atype := .int) (ty := .int) (n := 160) (N' := 160) (a0 := (160, .inl fun _ => 0)) hx hb (hts _ q_121) rfl hK hP hD hS hA (fun _ => rfl) (by decide) (by decide) (Nat.le_of_ble_eq_true rfl) (Nat.le_of_ble_eq_true rfl) (Nat.le_of_ble_eq_true rfl) dX9_init_17 (fun q17 cA18 H hK hP hD hS => ?_)
  have hK : va_K (dC, dI) vwCl [(cA16, .int), (cA18, .int)] s := hK
  have hP : va_P (dC, dI) vwCl (wd_22 h0 q15 cA16 q17 cA18) H := hP
  have hD : va_D A (wd_22 h0 q15 cA16 q17 cA18) := hD
  refine W.widen (k := 2) (n := 320) (Nat.le_of_ble_eq_true rfl) (Nat.le_of_ble_eq_true rfl) ?_
  refine va_putF (D := (dC, dI)) (ci := 9) (v := .ref q17) (ty := tyX9 2) (C := RX9) (T := TX9) (N := 11) hx hb hts i_X9 tyX9 tyX9_ok nmX9 hown hK hP hD hS 0 rfl rfl 2 (by decide) (hts _ q_1551) (fun _ h9 => h9) rfl hin rfl (tyX9_ok 2 (by decide)) rfl rfl (Nat.le_of_ble_eq_true rfl) dX9_init_19 (fun H locs hP hD hS => ?_)
  have hP : va_P (dC, dI) vwCl (wd_23 h0 q15 q17 cA16 cA18) H := hP
  have hD : va_D A (wd_23 h0 q15 q17 cA16 cA18) := hD
  refine lv_aload_n hx hb dX9_init_22 rfl (lv_at hl 0 rfl) ?_
  refine lv_bipush (v := 80) hx hb dX9_init_23 (by decide) ?_
  refine va_newa (atype := .int) (ty := .int) (n := 80) (N' := 80) (a0 := (80, .inl fun _ => 0)) hx hb (hts _ q_121) rfl hK hP hD hS hA (fun _ => rfl) (by decide) (by decide) (Nat.le_of_ble_eq_true rfl) (Nat.le_of_ble_eq_true rfl) (Nat.le_of_ble_eq_true rfl) dX9_init_25 (fun q19 cA20 H hK hP hD hS => ?_)
  have hK : va_K (dC, dI) vwCl [(cA16, .int), (cA18, .int), (cA20, .int)] s := hK
  have hP : va_P (dC, dI) vwCl (wd_24 h0 q15 q17 cA16 cA18 q19 cA20) H := hP
  have hD : va_D A (wd_24 h0 q15 q17 cA16 cA18 q19 cA20) := hD
  refine W.widen (k := 3) (n := 400) (Nat.le_of_ble_eq_true rfl) (Nat.le_of_ble_eq_true rfl) ?_
  refine va_putF (D := (dC, dI)) (ci := 9) (v := .ref q19) (ty := tyX9 3) (C := RX9) (T := TX9) (N := 11) hx hb hts i_X9 tyX9 tyX9_ok nmX9 hown hK hP hD hS 0 rfl rfl 3 (by decide) (hts _ q_1554) (fun _ h9 => h9) rfl hin rfl (tyX9_ok 3 (by decide)) rfl rfl (Nat.le_of_ble_eq_true rfl) dX9_init_27 (fun H locs hP hD hS => ?_)
  have hP : va_P (dC, dI) vwCl (wd_25 h0 q15 q17 q19 cA16 cA18 cA20) H := hP
  have hD : va_D A (wd_25 h0 q15 q17 q19 cA16 cA18 cA20) := hD
  refine lv_aload_n hx hb dX9_init_30 rfl (lv_at hl 0 rfl) ?_
  refine lv_bipush (v := 80) hx hb dX9_init_31 (by decide) ?_
  refine va_newa (atype := .int) (ty := .int) (n := 80) (N' := 80) (a0 := (80, .inl fun _ => 0)) hx hb (hts _ q_121) rfl hK hP hD hS hA (fun _ => rfl) (by decide) (by decide) (Nat.le_of_ble_eq_true rfl) (Nat.le_of_ble_eq_true rfl) (Nat.le_of_ble_eq_true rfl) dX9_init_33 (fun q21 cA22 H hK hP hD hS => ?_)
  have hK : va_K (dC, dI) vwCl [(cA16, .int), (cA18, .int), (cA20, .int), (cA22, .int)] s := hK
  have hP : va_P (dC, dI) vwCl (wd_26 h0 q15 q17 q19 cA16 cA18 cA20 q21 cA22) H := hP
  have hD : va_D A (wd_26 h0 q15 q17 q19 cA16 cA18 cA20 q21 cA22) := hD
  refine W.widen (k := 4) (n := 480) (Nat.le_of_ble_eq_true rfl) (Nat.le_of_ble_eq_true rfl) ?_
  refine va_putF (D := (dC, dI)) (ci := 9) (v := .ref q21) (ty := tyX9 4) (C := RX9) (T := TX9) (N := 11) hx hb hts i_X9 tyX9 tyX9_ok nmX9 hown hK hP hD hS 0 rfl rfl 4 (by decide) (hts _ q_1555) (fun _ h9 => h9) rfl hin rfl (tyX9_ok 4 (by decide)) rfl rfl (Nat.le_of_ble_eq_true rfl) dX9_init_35 (fun H locs hP hD hS => ?_)
  have hP : va_P (dC, dI) vwCl (wd_27 h0 q15 q17 q19 q21 cA16 cA18 cA20 cA22) H := hP
  have hD : va_D A (wd_27 h0 q15 q17 q19 q21 cA16 cA18 cA20 cA22) := hD
  refine lv_aload_n hx hb dX9_init_38 rfl (lv_at hl 0 rfl) ?_
  refine lv_bipush (v := 80) hx hb dX9_init_39 (by decide) ?_
  refine va_newa (atype := .int) (ty := .int) (n := 80) (N' := 80) (a0 := (80, .inl fun _ => 0)) hx hb (hts _ q_121) rfl hK hP hD hS hA (fun _ => rfl) (by decide) (by decide) (Nat.le_of_ble_eq_true rfl) (Nat.le_of_ble_eq_true rfl) (Nat.le_of_ble_eq_true rfl) dX9_init_41 (fun q23 cA24 H hK hP hD hS => ?_)
  have hK : va_K (dC, dI) vwCl [(cA16, .int), (cA18, .int), (cA20, .int), (cA22, .int), (cA24, .int)] s := hK
  have hP : va_P (dC, dI) vwCl (wd_28 h0 q15 q17 q19 q21 cA16 cA18 cA20 cA22 q23 cA24) H := hP
  have hD : va_D A (wd_28 h0 q15 q17 q19 q21 cA16 cA18 cA20 cA22 q23 cA24) := hD
  refine W.widen (k := 5) (n := 560) (Nat.le_of_ble_eq_true rfl) (Nat.le_of_ble_eq_true rfl) ?_
  refine va_putF (D := (dC, dI)) (ci := 9) (v := .ref q23) (ty := tyX9 5) (C := RX9) (T := TX9) (N := 11) hx hb hts i_X9 tyX9 tyX9_ok nmX9 hown hK hP hD hS 0 rfl rfl 5 (by decide) (hts _ q_1556) (fun _ h9 => h9) rfl hin rfl (tyX9_ok 5 (by decide)) rfl rfl (Nat.le_of_ble_eq_true rfl) dX9_init_43 (fun H locs hP hD hS => ?_)
  have hP : va_P (dC, dI) vwCl (wd_29 h0 q15 q17 q19 q21 q23 cA16 cA18 cA20 cA22 cA24) H := hP
  have hD : va_D A (wd_29 h0 q15 q17 q19 q21 q23 cA16 cA18 cA20 cA22 cA24) := hD
  refine lv_aload_n hx hb dX9_init_46 rfl (lv_at hl 0 rfl) ?_
  refine lv_bipush (v := 80) hx hb dX9_init_47 (by decide) ?_
  refine va_newa (atype := .int) (ty := .int) (n := 80) (N' := 80) (a0 := (80, .inl fun _ => 0)) hx hb (hts _ q_121) rfl hK hP hD hS hA (fun _ => rfl) (by decide) (by decide) (Nat.le_of_ble_eq_true rfl) (Nat.le_of_ble_eq_true rfl) (Nat.le_of_ble_eq_true rfl) dX9_init_49 (fun q25 cA26 H hK hP hD hS => ?_)
  have hK : va_K (dC, dI) vwCl [(cA16, .int), (cA18, .int), (cA20, .int), (cA22, .int), (cA24, .int), (cA26, .int)] s := hK
  have hP : va_P (dC, dI) vwCl (wd_30 h0 q15 q17 q19 q21 q23 cA16 cA18 cA20 cA22 cA24 q25 cA26) H := hP
  have hD : va_D A (wd_30 h0 q15 q17 q19 q21 q23 cA16 cA18 cA20 cA22 cA24 q25 cA26) := hD
  refine W.widen (k := 6) (n := 640) (Nat.le_of_ble_eq_true rfl) (Nat.le_of_ble_eq_true rfl) ?_
  refine va_putF (D := (dC, dI)) (ci := 9) (v := .ref q25) (ty := tyX9 6) (C := RX9) (T := TX9) (N := 11) hx hb hts i_X9 tyX9 tyX9_ok nmX9 hown hK hP hD hS 0 rfl rfl 6 (by decide) (hts _ q_1557) (fun _ h9 => h9) rfl hin rfl (tyX9_ok 6 (by decide)) rfl rfl (Nat.le_of_ble_eq_true rfl) dX9_init_51 (fun H locs hP hD hS => ?_)
  have hP : va_P (dC, dI) vwCl (wd_31 h0 q15 q17 q19 q21 q23 q25 cA16 cA18 cA20 cA22 cA24 cA26) H := hP
  have hD : va_D A (wd_31 h0 q15 q17 q19 q21 q23 q25 cA16 cA18 cA20 cA22 cA24 cA26) := hD
  refine lv_aload_n hx hb dX9_init_54 rfl (lv_at hl 0 rfl) ?_
  refine lv_sipush (v := 160) hx hb dX9_init_55 (by decide) ?_
  refine va_newa (atype := .int) (ty := .int) (n := 160) (N' := 160) (a0 := (160, .inl fun _ => 0)) hx hb (hts _ q_121) rfl hK hP hD hS hA (fun _ => rfl) (by decide) (by decide) (Nat.le_of_ble_eq_true rfl) (Nat.le_of_ble_eq_true rfl) (Nat.le_of_ble_eq_true rfl) dX9_init_58 (fun q27 cA28 H hK hP hD hS => ?_)
  have hK : va_K (dC, dI) vwCl [(cA16, .int), (cA18, .int), (cA20, .int), (cA22, .int), (cA24, .int), (cA26, .int), (cA28, .int)] s := hK
  have hP : va_P (dC, dI) vwCl (wd_32 h0 q15 q17 q19 q21 q23 q25 cA16 cA18 cA20 cA22 cA24 cA26 q27 cA28) H := hP
  have hD : va_D A (wd_32 h0 q15 q17 q19 q21 q23 q25 cA16 cA18 cA20 cA22 cA24 cA26 q27 cA28) := hD
  refine W.widen (k := 7) (n := 800) (Nat.le_of_ble_eq_true rfl) (Nat.le_of_ble_eq_true rfl) ?_
  refine va_putF (D := (dC, dI)) (ci := 9) (v := .ref q27) (ty := tyX9 7) (C := RX9) (T := TX9) (N := 11) hx hb hts i_X9 tyX9 tyX9_ok nmX9 hown hK hP hD hS 0 rfl rfl 7 (by decide) (hts _ q_1545) (fun _ h9 => h9) rfl hin rfl (tyX9_ok 7 (by decide)) rfl rfl (Nat.le_of_ble_eq_true rfl) dX9_init_60 (fun H locs hP hD hS => ?_)
  have hP : va_P (dC, dI) vwCl (wd_33 h0 q15 q17 q19 q21 q23 q25 q27 cA16 cA18 cA20 cA22 cA24 cA26 cA28) H := hP
  have hD : va_D A (wd_33 h0 q15 q17 q19 q21 q23 q25 q27 cA16 cA18 cA20 cA22 cA24 cA26 cA28) := hD
  refine lv_aload_n hx hb dX9_init_63 rfl (lv_at hl 0 rfl) ?_
  refine lv_iconst (v := 0) hx hb dX9_init_64 (by decide) ?_
  refine va_put (D := (dC, dI)) (ci := 9) (v := .int 0) (ty := tyX9 8) (C := RX9) (T := TX9) (N := 11) hx hb hts i_X9 tyX9 tyX9_ok nmX9 hown hK hP hD hS 0 rfl rfl 8 (by decide) (hts _ q_1558) (fun _ h9 => h9) rfl (tyX9_ok 8 (by decide)) rfl rfl (Nat.le_of_ble_eq_true rfl) dX9_init_65 (fun H locs hP hD hS => ?_)
  have hP : va_P (dC, dI) vwCl (wd_33 h0 q15 q17 q19 q21 q23 q25 q27 cA16 cA18 cA20 cA22 cA24 cA26 cA28) H := hP
  have hD : va_D A (wd_33 h0 q15 q17 q19 q21 q23 q25 q27 cA16 cA18 cA20 cA22 cA24 cA26 cA28) := hD
  refine lv_aload_n hx hb dX9_init_68 rfl (lv_at hl 0 rfl) ?_
  refine lv_iconst (v := 0) hx hb dX9_init_69 (by decide) ?_
  refine va_put (D := (dC, dI)) (ci := 9) (v := .int 0) (ty := tyX9 9) (C := RX9) (T := TX9) (N := 11) hx hb hts i_X9 tyX9 tyX9_ok nmX9 hown hK hP hD hS 0 rfl rfl 9 (by decide) (hts _ q_1559) (fun _ h9 => h9) rfl (tyX9_ok 9 (by decide)) rfl rfl (Nat.le_of_ble_eq_true rfl) dX9_init_70 (fun H locs hP hD hS => ?_)
  have hP : va_P (dC, dI) vwCl (wd_33 h0 q15 q17 q19 q21 q23 q25 q27 cA16 cA18 cA20 cA22 cA24 cA26 cA28) H := hP
  have hD : va_D A (wd_33 h0 q15 q17 q19 q21 q23 q25 q27 cA16 cA18 cA20 cA22 cA24 cA26 cA28) := hD
  refine lv_aload_n hx hb dX9_init_73 rfl (lv_at hl 0 rfl) ?_
  refine lv_iconst (v := (-1)) hx hb dX9_init_74 (by decide) ?_
  refine va_put (D := (dC, dI)) (ci := 9) (v := .int (-1)) (ty := tyX9 10) (C := RX9) (T := TX9) (N := 11) hx hb hts i_X9 tyX9 tyX9_ok nmX9 hown hK hP hD hS 0 rfl rfl 10 (by decide) (hts _ q_1560) (fun _ h9 => h9) rfl (tyX9_ok 10 (by decide)) rfl rfl (Nat.le_of_ble_eq_true rfl) dX9_init_75 (fun H locs hP hD hS => ?_)
  have hP : va_P (dC, dI) vwCl (wd_34 h0 q15 q17 q19 q21 q23 q25 q27 cA16 cA18 cA20 cA22 cA24 cA26 cA28) H := hP
  have hD : va_D A (wd_34 h0 q15 q17 q19 q21 q23 q25 q27 cA16 cA18 cA20 cA22 cA24 cA26 cA28) := hD
  refine lv_aload_n hx hb dX9_init_78 rfl (lv_at hl 0 rfl) ?_
  refine lv_aload_n hx hb dX9_init_79 rfl (lv_at hl 1 rfl) ?_
  refine va_putF (D := (dC, dI)) (ci := 9) (v := .ref a1) (ty := tyX9 0) (C := RX9) (T := TX9) (N := 11) hx hb hts i_X9 tyX9 tyX9_ok nmX9 hown hK hP hD hS 0 rfl rfl 0 (by decide) (hts _ q_1561) (fun _ h9 => h9) rfl hin rfl (tyX9_ok 0 (by decide)) rfl rfl (Nat.le_of_ble_eq_true rfl) dX9_init_80 (fun H locs hP hD hS => ?_)
  have hP : va_P (dC, dI) vwCl (wd_35 h0 a1 q15 q17 q19 q21 q23 q25 q27 cA16 cA18 cA20 cA22 cA24 cA26 cA28) H := hP
  have hD : va_D A (wd_35 h0 a1 q15 q17 q19 q21 q23 q25 q27 cA16 cA18 cA20 cA22 cA24 cA26 cA28) := hD
  refine W.widen (k := 7) (n := 800) (Nat.le_of_ble_eq_true rfl) (Nat.le_of_ble_eq_true rfl) ?_
  have hP9 := hP.sub (ws' := (wd_35 h0 a1 q15 q17 q19 q21 q23 q25 q27 cA16 cA18 cA20 cA22 cA24 cA26 cA28)) [0, 1, 2, 3, 4, 5, 6, 7] rfl
  have hD9 := hD.sub (ws' := (wd_35 h0 a1 q15 q17 q19 q21 q23 q25 q27 cA16 cA18 cA20 cA22 cA24 cA26 cA28)) [0, 1, 2, 3, 4, 5, 6, 7] (by decide) rfl
  have hK9 := hK.sub (tys' := [(cA16, .int), (cA18, .int), (cA20, .int), (cA22, .int), (cA24, .int), (cA26, .int), (cA28, .int)]) [0, 1, 2, 3, 4, 5, 6] rfl
  exact W.vret hx hb hr (fun t ht hW => ⟨⟨(), rfl, trivial, q15, q17, q19, q21, q23, q25, q27, cA16, cA18, cA20, cA22, cA24, cA26, cA28, by rw [ht]; exact hP9, va_K.moved hW.alike hK9, hD9⟩, hS.F ht⟩) hS.2.2 dX9_init_83
def wd_37 (h0 : Nat) (a1 : Nat) : va_W := [(h0, .inr (7, [.ref a1, .null]))]
def wd_38 (h0 : Nat) (a1 : Nat) (a2 : Nat) : va_W := [(h0, .inr (7, [.ref a1, .ref a2]))]
def wd_39 (h0 : Nat) : va_W := [(h0, .inr (7, [.null, .null]))]
set_option maxHeartbeats 4000000 in
set_option maxRecDepth 100000 in
theorem K_X7_init (l : Launch) (dC : Nat → ClassId) (dI : Nat → Nat → Nat) (h0 : Nat) (a1 : Nat) (a2 : Nat) (sz : Nat) : Met l yX7_init (Cond.code yX7_init cX7_init 3 none :: wA) ({ frames := 1, cells := 0, slots := 0, locals := 12 }) (va_Pc [.ref h0, .ref a1, .ref a2] (fun U => U.heap.size = sz ∧ va_P (dC, dI) vwCl (wd_39 h0) U.heap ∧ va_K (dC, dI) vwCl [] U ∧ va_D (fun _ => True) (wd_39 h0))) (va_Qv (fun (_ : Unit) => True) (fun _ t => va_P (dC, dI) vwCl (wd_38 h0 a1 a2) t.heap ∧ va_K (dC, dI) vwCl [] t ∧ va_D (va_A (wd_39 h0) sz) (wd_38 h0 a1 a2)) (va_A (wd_39 h0) sz)) 0 0 (va_A (wd_39 h0) sz) := by
  refine Met.ofW (cc := cX7_init) (maxL := 3) (ret := none) (by decide) rfl ?_
  intro p e s m args below meth c s₁ B hml hv
  obtain ⟨rfl, hsz, hP, hK, hD0⟩ := hv
  have hx := B.exec
  have hb := B.bytes
  have hr := B.returns
  have hts : ∀ w ∈ wA, w.before [.ref h0, .ref a1, .ref a2].toArray s = true := fun w h => atoms_spec (ws := Cond.code yX7_init cX7_init 3 none :: wA) B.pre w (List.mem_cons_of_mem _ h)
  have hown : s.vm.findClass RX7 = some m.cls := findClass_of_methodNamed B.named
  have hlocks := B.notSynchronized
  have hin : meth.name = "<init>" := (name_of_methodNamed B.named B.method).1
  subst hsz
  have hD := hD0.self (sz := s.heap.size)
  generalize hAe : va_A (wd_39 h0) s.heap.size = A at hD ⊢
  have hA : ∀ q : Nat, s.heap.size ≤ q → A q := fun q h => by rw [← hAe]; exact Or.inr h
  have hS : va_S A s.heap s.heap [] := va_S.rf
  have hl := lv_entry ([.ref h0, .ref a1, .ref a2]) (n := 3) (Nat.le_of_ble_eq_true rfl)
  rw [lg_entry_eq]
  generalize (lg_sl ([.ref h0, .ref a1, .ref a2]) ++ List.replicate (3 - (lg_sl ([.ref h0, .ref a1, .ref a2])).length) Slot.unset).toArray = ls at hl ⊢
  have hl : lv_has ls 3 [(0, .ref h0), (1, .ref a1), (2, .ref a2)] := hl
  refine lv_aload_n hx hb dX7_init_0 rfl (lv_at hl 0 rfl) ?_
  refine W.objInit hx hb hown (hts _ q_1507) (hts _ q_108) (hts _ q_107) rfl (by rw [hml]; exact hl.1) rfl dX7_init_1 (Nat.le_of_ble_eq_true rfl) (Nat.le_of_ble_eq_true rfl) ?_
  refine W.eq (g2 := F0 m 4 ls []) rfl ?_
  refine lv_aload_n hx hb dX7_init_4 rfl (lv_at hl 0 rfl) ?_
  refine lv_aload_n hx hb dX7_init_5 rfl (lv_at hl 1 rfl) ?_
  refine va_putF (D := (dC, dI)) (ci := 7) (v := .ref a1) (ty := tyX7 0) (C := RX7) (T := TX7) (N := 2) hx hb hts i_X7 tyX7 tyX7_ok nmX7 hown hK hP hD hS 0 rfl rfl 0 (by decide) (hts _ q_1501) (fun _ h9 => h9) rfl hin rfl (tyX7_ok 0 (by decide)) rfl rfl (Nat.le_of_ble_eq_true rfl) dX7_init_6 (fun H locs hP hD hS => ?_)
  have hP : va_P (dC, dI) vwCl (wd_37 h0 a1) H := hP
  have hD : va_D A (wd_37 h0 a1) := hD
  refine lv_aload_n hx hb dX7_init_9 rfl (lv_at hl 0 rfl) ?_
  refine lv_aload_n hx hb dX7_init_10 rfl (lv_at hl 2 rfl) ?_
  refine va_putF (D := (dC, dI)) (ci := 7) (v := .ref a2) (ty := tyX7 1) (C := RX7) (T := TX7) (N := 2) hx hb hts i_X7 tyX7 tyX7_ok nmX7 hown hK hP hD hS 0 rfl rfl 1 (by decide) (hts _ q_1508) (fun _ h9 => h9) rfl hin rfl (tyX7_ok 1 (by decide)) rfl rfl (Nat.le_of_ble_eq_true rfl) dX7_init_11 (fun H locs hP hD hS => ?_)
  have hP : va_P (dC, dI) vwCl (wd_38 h0 a1 a2) H := hP
  have hD : va_D A (wd_38 h0 a1 a2) := hD
  refine W.widen (k := 0) (n := 0) (Nat.le_of_ble_eq_true rfl) (Nat.le_of_ble_eq_true rfl) ?_
  have hP9 := hP.sub (ws' := (wd_38 h0 a1 a2)) [0] rfl
  have hD9 := hD.sub (ws' := (wd_38 h0 a1 a2)) [0] (by decide) rfl
  have hK9 := hK.sub (tys' := []) [] rfl
  exact W.vret hx hb hr (fun t ht hW => ⟨⟨(), rfl, trivial, by rw [ht]; exact hP9, va_K.moved hW.alike hK9, hD9⟩, hS.F ht⟩) hS.2.2 dX7_init_14
def wd_40 (h0 : Nat) (q29 : Nat) (cA30 : ClassId) : va_W := [(h0, .inr (1, [.null, .null, .null, .null, .null, .int 0, .int 0, .int 0])), (q29, .inl (cA30, 80, .inr (.inl (fun _ => 0))))]
def wd_41 (h0 : Nat) (q29 : Nat) (cA30 : ClassId) : va_W := [(h0, .inr (1, [.null, .null, .null, .ref q29, .null, .int 0, .int 0, .int 0])), (q29, .inl (cA30, 80, .inr (.inl (fun _ => 0))))]
def wd_42 (h0 : Nat) (q29 : Nat) (cA30 : ClassId) (q31 : Nat) (cA32 : ClassId) : va_W := [(h0, .inr (1, [.null, .null, .null, .ref q29, .null, .int 0, .int 0, .int 0])), (q29, .inl (cA30, 80, .inr (.inl (fun _ => 0)))), (q31, .inl (cA32, 80, .inl (fun _ => 0)))]
def wd_43 (h0 : Nat) (q29 : Nat) (q31 : Nat) (cA30 : ClassId) (cA32 : ClassId) : va_W := [(h0, .inr (1, [.null, .null, .null, .ref q29, .ref q31, .int 0, .int 0, .int 0])), (q29, .inl (cA30, 80, .inr (.inl (fun _ => 0)))), (q31, .inl (cA32, 80, .inl (fun _ => 0)))]
def wd_44 (h0 : Nat) (q29 : Nat) (q31 : Nat) (cA30 : ClassId) (cA32 : ClassId) : va_W := [(h0, .inr (1, [.null, .null, .null, .ref q29, .ref q31, .int 0, .int 0, .int 3047])), (q29, .inl (cA30, 80, .inr (.inl (fun _ => 0)))), (q31, .inl (cA32, 80, .inl (fun _ => 0)))]
def wd_45 (h0 : Nat) (a1 : Nat) (q29 : Nat) (q31 : Nat) (cA30 : ClassId) (cA32 : ClassId) : va_W := [(h0, .inr (1, [.ref a1, .null, .null, .ref q29, .ref q31, .int 0, .int 0, .int 3047])), (q29, .inl (cA30, 80, .inr (.inl (fun _ => 0)))), (q31, .inl (cA32, 80, .inl (fun _ => 0)))]
def wd_46 (h0 : Nat) (a1 : Nat) (a2 : Nat) (q29 : Nat) (q31 : Nat) (cA30 : ClassId) (cA32 : ClassId) : va_W := [(h0, .inr (1, [.ref a1, .ref a2, .null, .ref q29, .ref q31, .int 0, .int 0, .int 3047])), (q29, .inl (cA30, 80, .inr (.inl (fun _ => 0)))), (q31, .inl (cA32, 80, .inl (fun _ => 0)))]
def wd_47 (h0 : Nat) (a1 : Nat) (a2 : Nat) (a3 : Nat) (q29 : Nat) (q31 : Nat) (cA30 : ClassId) (cA32 : ClassId) : va_W := [(h0, .inr (1, [.ref a1, .ref a2, .ref a3, .ref q29, .ref q31, .int 0, .int 0, .int 3047])), (q29, .inl (cA30, 80, .inr (.inl (fun _ => 0)))), (q31, .inl (cA32, 80, .inl (fun _ => 0)))]
def wd_48 (h0 : Nat) : va_W := [(h0, .inr (1, [.null, .null, .null, .null, .null, .int 0, .int 0, .int 0]))]
set_option maxHeartbeats 4000000 in
set_option maxRecDepth 100000 in
theorem K_X1_init (l : Launch) (dC : Nat → ClassId) (dI : Nat → Nat → Nat) (h0 : Nat) (a1 : Nat) (a2 : Nat) (a3 : Nat) (sz : Nat) : Met l yX1_init (Cond.code yX1_init cX1_init 4 none :: wA) ({ frames := 1, cells := 2, slots := 160, locals := 12 }) (va_Pc [.ref h0, .ref a1, .ref a2, .ref a3] (fun U => U.heap.size = sz ∧ va_P (dC, dI) vwCl (wd_48 h0) U.heap ∧ va_K (dC, dI) vwCl [] U ∧ va_D (fun _ => True) (wd_48 h0))) (va_Qv (fun (_ : Unit) => True) (fun _ t => ∃ q29 : Nat, ∃ q31 : Nat, ∃ cA30 : ClassId, ∃ cA32 : ClassId, va_P (dC, dI) vwCl (wd_47 h0 a1 a2 a3 q29 q31 cA30 cA32) t.heap ∧ va_K (dC, dI) vwCl [(cA30, .long), (cA32, .int)] t ∧ va_D (va_A (wd_48 h0) sz) (wd_47 h0 a1 a2 a3 q29 q31 cA30 cA32)) (va_A (wd_48 h0) sz)) 2 160 (va_A (wd_48 h0) sz) := by
  refine Met.ofW (cc := cX1_init) (maxL := 4) (ret := none) (by decide) rfl ?_
  intro p e s m args below meth c s₁ B hml hv
  obtain ⟨rfl, hsz, hP, hK, hD0⟩ := hv
  have hx := B.exec
  have hb := B.bytes
  have hr := B.returns
  have hts : ∀ w ∈ wA, w.before [.ref h0, .ref a1, .ref a2, .ref a3].toArray s = true := fun w h => atoms_spec (ws := Cond.code yX1_init cX1_init 4 none :: wA) B.pre w (List.mem_cons_of_mem _ h)
  have hown : s.vm.findClass RX1 = some m.cls := findClass_of_methodNamed B.named
  have hlocks := B.notSynchronized
  have hin : meth.name = "<init>" := (name_of_methodNamed B.named B.method).1
  subst hsz
  have hD := hD0.self (sz := s.heap.size)
  generalize hAe : va_A (wd_48 h0) s.heap.size = A at hD ⊢
  have hA : ∀ q : Nat, s.heap.size ≤ q → A q := fun q h => by rw [← hAe]; exact Or.inr h
  have hS : va_S A s.heap s.heap [] := va_S.rf
  have hl := lv_entry ([.ref h0, .ref a1, .ref a2, .ref a3]) (n := 4) (Nat.le_of_ble_eq_true rfl)
  rw [lg_entry_eq]
  generalize (lg_sl ([.ref h0, .ref a1, .ref a2, .ref a3]) ++ List.replicate (4 - (lg_sl ([.ref h0, .ref a1, .ref a2, .ref a3])).length) Slot.unset).toArray = ls at hl ⊢
  have hl : lv_has ls 4 [(0, .ref h0), (1, .ref a1), (2, .ref a2), (3, .ref a3)] := hl
  refine lv_aload_n hx hb dX1_init_0 rfl (lv_at hl 0 rfl) ?_
  refine W.objInit hx hb hown (hts _ q_1173) (hts _ q_108) (hts _ q_107) rfl (by rw [hml]; exact hl.1) rfl dX1_init_1 (Nat.le_of_ble_eq_true rfl) (Nat.le_of_ble_eq_true rfl) ?_
  refine W.eq (g2 := F0 m 4 ls []) rfl ?_
  refine lv_aload_n hx hb dX1_init_4 rfl (lv_at hl 0 rfl) ?_
  refine lv_bipush (v := 80) hx hb dX1_init_5 (by decide) ?_
  refine va_newa (atype := .long) (ty := .long) (n := 80) (N' := 80) (a0 := (80, .inr (.inl fun _ => 0))) hx hb (hts _ q_1174) rfl hK hP hD hS hA (fun _ => rfl) (by decide) (by decide) (Nat.le_of_ble_eq_true rfl) (Nat.le_of_ble_eq_true rfl) (Nat.le_of_ble_eq_true rfl) dX1_init_7 (fun q29 cA30 H hK hP hD hS => ?_)
  have hK : va_K (dC, dI) vwCl [(cA30, .long)] s := hK
  have hP : va_P (dC, dI) vwCl (wd_40 h0 q29 cA30) H := hP
  have hD : va_D A (wd_40 h0 q29 cA30) := hD
  refine W.widen (k := 1) (n := 80) (Nat.le_of_ble_eq_true rfl) (Nat.le_of_ble_eq_true rfl) ?_
  refine va_putF (D := (dC, dI)) (ci := 1) (v := .ref q29) (ty := tyX1 3) (C := RX1) (T := TX1) (N := 8) hx hb hts i_X1 tyX1 tyX1_ok nmX1 hown hK hP hD hS 0 rfl rfl 3 (by decide) (hts _ q_1125) (fun _ h9 => h9) rfl hin rfl (tyX1_ok 3 (by decide)) rfl rfl (Nat.le_of_ble_eq_true rfl) dX1_init_9 (fun H locs hP hD hS => ?_)
  have hP : va_P (dC, dI) vwCl (wd_41 h0 q29 cA30) H := hP
  have hD : va_D A (wd_41 h0 q29 cA30) := hD
  refine lv_aload_n hx hb dX1_init_12 rfl (lv_at hl 0 rfl) ?_
  refine lv_bipush (v := 80) hx hb dX1_init_13 (by decide) ?_
  refine va_newa (atype := .int) (ty := .int) (n := 80) (N' := 80) (a0 := (80, .inl fun _ => 0)) hx hb (hts _ q_121) rfl hK hP hD hS hA (fun _ => rfl) (by decide) (by decide) (Nat.le_of_ble_eq_true rfl) (Nat.le_of_ble_eq_true rfl) (Nat.le_of_ble_eq_true rfl) dX1_init_15 (fun q31 cA32 H hK hP hD hS => ?_)
  have hK : va_K (dC, dI) vwCl [(cA30, .long), (cA32, .int)] s := hK
  have hP : va_P (dC, dI) vwCl (wd_42 h0 q29 cA30 q31 cA32) H := hP
  have hD : va_D A (wd_42 h0 q29 cA30 q31 cA32) := hD
  refine W.widen (k := 2) (n := 160) (Nat.le_of_ble_eq_true rfl) (Nat.le_of_ble_eq_true rfl) ?_
  refine va_putF (D := (dC, dI)) (ci := 1) (v := .ref q31) (ty := tyX1 4) (C := RX1) (T := TX1) (N := 8) hx hb hts i_X1 tyX1 tyX1_ok nmX1 hown hK hP hD hS 0 rfl rfl 4 (by decide) (hts _ q_1126) (fun _ h9 => h9) rfl hin rfl (tyX1_ok 4 (by decide)) rfl rfl (Nat.le_of_ble_eq_true rfl) dX1_init_17 (fun H locs hP hD hS => ?_)
  have hP : va_P (dC, dI) vwCl (wd_43 h0 q29 q31 cA30 cA32) H := hP
  have hD : va_D A (wd_43 h0 q29 q31 cA30 cA32) := hD
  refine lv_aload_n hx hb dX1_init_20 rfl (lv_at hl 0 rfl) ?_
  refine lv_iconst (v := 0) hx hb dX1_init_21 (by decide) ?_
  refine va_put (D := (dC, dI)) (ci := 1) (v := .int 0) (ty := tyX1 5) (C := RX1) (T := TX1) (N := 8) hx hb hts i_X1 tyX1 tyX1_ok nmX1 hown hK hP hD hS 0 rfl rfl 5 (by decide) (hts _ q_1124) (fun _ h9 => h9) rfl (tyX1_ok 5 (by decide)) rfl rfl (Nat.le_of_ble_eq_true rfl) dX1_init_22 (fun H locs hP hD hS => ?_)
  have hP : va_P (dC, dI) vwCl (wd_43 h0 q29 q31 cA30 cA32) H := hP
  have hD : va_D A (wd_43 h0 q29 q31 cA30 cA32) := hD
  refine lv_aload_n hx hb dX1_init_25 rfl (lv_at hl 0 rfl) ?_
  refine lv_iconst (v := 0) hx hb dX1_init_26 (by decide) ?_
  refine va_put (D := (dC, dI)) (ci := 1) (v := .int 0) (ty := tyX1 6) (C := RX1) (T := TX1) (N := 8) hx hb hts i_X1 tyX1 tyX1_ok nmX1 hown hK hP hD hS 0 rfl rfl 6 (by decide) (hts _ q_1175) (fun _ h9 => h9) rfl (tyX1_ok 6 (by decide)) rfl rfl (Nat.le_of_ble_eq_true rfl) dX1_init_27 (fun H locs hP hD hS => ?_)
  have hP : va_P (dC, dI) vwCl (wd_43 h0 q29 q31 cA30 cA32) H := hP
  have hD : va_D A (wd_43 h0 q29 q31 cA30 cA32) := hD
  refine lv_aload_n hx hb dX1_init_30 rfl (lv_at hl 0 rfl) ?_
  refine lv_sipush (v := 3047) hx hb dX1_init_31 (by decide) ?_
  refine va_put (D := (dC, dI)) (ci := 1) (v := .int 3047) (ty := tyX1 7) (C := RX1) (T := TX1) (N := 8) hx hb hts i_X1 tyX1 tyX1_ok nmX1 hown hK hP hD hS 0 rfl rfl 7 (by decide) (hts _ q_1162) (fun _ h9 => h9) rfl (tyX1_ok 7 (by decide)) rfl rfl (Nat.le_of_ble_eq_true rfl) dX1_init_34 (fun H locs hP hD hS => ?_)
  have hP : va_P (dC, dI) vwCl (wd_44 h0 q29 q31 cA30 cA32) H := hP
  have hD : va_D A (wd_44 h0 q29 q31 cA30 cA32) := hD
  refine lv_aload_n hx hb dX1_init_37 rfl (lv_at hl 0 rfl) ?_
  refine lv_aload_n hx hb dX1_init_38 rfl (lv_at hl 1 rfl) ?_
  refine va_putF (D := (dC, dI)) (ci := 1) (v := .ref a1) (ty := tyX1 0) (C := RX1) (T := TX1) (N := 8) hx hb hts i_X1 tyX1 tyX1_ok nmX1 hown hK hP hD hS 0 rfl rfl 0 (by decide) (hts _ q_1132) (fun _ h9 => h9) rfl hin rfl (tyX1_ok 0 (by decide)) rfl rfl (Nat.le_of_ble_eq_true rfl) dX1_init_39 (fun H locs hP hD hS => ?_)
  have hP : va_P (dC, dI) vwCl (wd_45 h0 a1 q29 q31 cA30 cA32) H := hP
  have hD : va_D A (wd_45 h0 a1 q29 q31 cA30 cA32) := hD
  refine lv_aload_n hx hb dX1_init_42 rfl (lv_at hl 0 rfl) ?_
  refine lv_aload_n hx hb dX1_init_43 rfl (lv_at hl 2 rfl) ?_
  refine va_putF (D := (dC, dI)) (ci := 1) (v := .ref a2) (ty := tyX1 1) (C := RX1) (T := TX1) (N := 8) hx hb hts i_X1 tyX1 tyX1_ok nmX1 hown hK hP hD hS 0 rfl rfl 1 (by decide) (hts _ q_1140) (fun _ h9 => h9) rfl hin rfl (tyX1_ok 1 (by decide)) rfl rfl (Nat.le_of_ble_eq_true rfl) dX1_init_44 (fun H locs hP hD hS => ?_)
  have hP : va_P (dC, dI) vwCl (wd_46 h0 a1 a2 q29 q31 cA30 cA32) H := hP
  have hD : va_D A (wd_46 h0 a1 a2 q29 q31 cA30 cA32) := hD
  refine lv_aload_n hx hb dX1_init_47 rfl (lv_at hl 0 rfl) ?_
  refine lv_aload_n hx hb dX1_init_48 rfl (lv_at hl 3 rfl) ?_
  refine va_putF (D := (dC, dI)) (ci := 1) (v := .ref a3) (ty := tyX1 2) (C := RX1) (T := TX1) (N := 8) hx hb hts i_X1 tyX1 tyX1_ok nmX1 hown hK hP hD hS 0 rfl rfl 2 (by decide) (hts _ q_1147) (fun _ h9 => h9) rfl hin rfl (tyX1_ok 2 (by decide)) rfl rfl (Nat.le_of_ble_eq_true rfl) dX1_init_49 (fun H locs hP hD hS => ?_)
  have hP : va_P (dC, dI) vwCl (wd_47 h0 a1 a2 a3 q29 q31 cA30 cA32) H := hP
  have hD : va_D A (wd_47 h0 a1 a2 a3 q29 q31 cA30 cA32) := hD
  refine W.widen (k := 2) (n := 160) (Nat.le_of_ble_eq_true rfl) (Nat.le_of_ble_eq_true rfl) ?_
  have hP9 := hP.sub (ws' := (wd_47 h0 a1 a2 a3 q29 q31 cA30 cA32)) [0, 1, 2] rfl
  have hD9 := hD.sub (ws' := (wd_47 h0 a1 a2 a3 q29 q31 cA30 cA32)) [0, 1, 2] (by decide) rfl
  have hK9 := hK.sub (tys' := [(cA30, .long), (cA32, .int)]) [0, 1] rfl
  exact W.vret hx hb hr (fun t ht hW => ⟨⟨(), rfl, trivial, q29, q31, cA30, cA32, by rw [ht]; exact hP9, va_K.moved hW.alike hK9, hD9⟩, hS.F ht⟩) hS.2.2 dX1_init_52
def wd_49 (h0 : Nat) (q33 : Nat) (cA34 : ClassId) : va_W := [(h0, .inr (4, [.null, .null, .null, .int 0, .null, .int 0])), (q33, .inl (cA34, 4020, .inl (fun _ => 0)))]
def wd_50 (h0 : Nat) (q33 : Nat) (cA34 : ClassId) : va_W := [(h0, .inr (4, [.null, .null, .ref q33, .int 0, .null, .int 0])), (q33, .inl (cA34, 4020, .inl (fun _ => 0)))]
def wd_51 (h0 : Nat) (q33 : Nat) (cA34 : ClassId) (q35 : Nat) (cA36 : ClassId) : va_W := [(h0, .inr (4, [.null, .null, .ref q33, .int 0, .null, .int 0])), (q33, .inl (cA34, 4020, .inl (fun _ => 0))), (q35, .inl (cA36, 4, .inl (fun _ => 0)))]
def wd_52 (h0 : Nat) (q33 : Nat) (q35 : Nat) (cA34 : ClassId) (cA36 : ClassId) : va_W := [(h0, .inr (4, [.null, .null, .ref q33, .int 0, .ref q35, .int 0])), (q33, .inl (cA34, 4020, .inl (fun _ => 0))), (q35, .inl (cA36, 4, .inl (fun _ => 0)))]
def wd_53 (h0 : Nat) (a1 : Nat) (q33 : Nat) (q35 : Nat) (cA34 : ClassId) (cA36 : ClassId) : va_W := [(h0, .inr (4, [.ref a1, .null, .ref q33, .int 0, .ref q35, .int 0])), (q33, .inl (cA34, 4020, .inl (fun _ => 0))), (q35, .inl (cA36, 4, .inl (fun _ => 0)))]
def wd_54 (h0 : Nat) (a1 : Nat) (a2 : Nat) (q33 : Nat) (q35 : Nat) (cA34 : ClassId) (cA36 : ClassId) : va_W := [(h0, .inr (4, [.ref a1, .ref a2, .ref q33, .int 0, .ref q35, .int 0])), (q33, .inl (cA34, 4020, .inl (fun _ => 0))), (q35, .inl (cA36, 4, .inl (fun _ => 0)))]
def wd_55 (h0 : Nat) : va_W := [(h0, .inr (4, [.null, .null, .null, .int 0, .null, .int 0]))]
set_option maxHeartbeats 4000000 in
set_option maxRecDepth 100000 in
theorem K_X4_init (l : Launch) (dC : Nat → ClassId) (dI : Nat → Nat → Nat) (h0 : Nat) (a1 : Nat) (a2 : Nat) (sz : Nat) : Met l yX4_init (Cond.code yX4_init cX4_init 3 none :: wA) ({ frames := 1, cells := 2, slots := 4024, locals := 12 }) (va_Pc [.ref h0, .ref a1, .ref a2] (fun U => U.heap.size = sz ∧ va_P (dC, dI) vwCl (wd_55 h0) U.heap ∧ va_K (dC, dI) vwCl [] U ∧ va_D (fun _ => True) (wd_55 h0))) (va_Qv (fun (_ : Unit) => True) (fun _ t => ∃ q33 : Nat, ∃ q35 : Nat, ∃ cA34 : ClassId, ∃ cA36 : ClassId, va_P (dC, dI) vwCl (wd_54 h0 a1 a2 q33 q35 cA34 cA36) t.heap ∧ va_K (dC, dI) vwCl [(cA34, .int), (cA36, .int)] t ∧ va_D (va_A (wd_55 h0) sz) (wd_54 h0 a1 a2 q33 q35 cA34 cA36)) (va_A (wd_55 h0) sz)) 2 4024 (va_A (wd_55 h0) sz) := by
  refine Met.ofW (cc := cX4_init) (maxL := 3) (ret := none) (by decide) rfl ?_
  intro p e s m args below meth c s₁ B hml hv
  obtain ⟨rfl, hsz, hP, hK, hD0⟩ := hv
  have hx := B.exec
  have hb := B.bytes
  have hr := B.returns
  have hts : ∀ w ∈ wA, w.before [.ref h0, .ref a1, .ref a2].toArray s = true := fun w h => atoms_spec (ws := Cond.code yX4_init cX4_init 3 none :: wA) B.pre w (List.mem_cons_of_mem _ h)
  have hown : s.vm.findClass RX4 = some m.cls := findClass_of_methodNamed B.named
  have hlocks := B.notSynchronized
  have hin : meth.name = "<init>" := (name_of_methodNamed B.named B.method).1
  subst hsz
  have hD := hD0.self (sz := s.heap.size)
  generalize hAe : va_A (wd_55 h0) s.heap.size = A at hD ⊢
  have hA : ∀ q : Nat, s.heap.size ≤ q → A q := fun q h => by rw [← hAe]; exact Or.inr h
  have hS : va_S A s.heap s.heap [] := va_S.rf
  have hl := lv_entry ([.ref h0, .ref a1, .ref a2]) (n := 3) (Nat.le_of_ble_eq_true rfl)
  rw [lg_entry_eq]
  generalize (lg_sl ([.ref h0, .ref a1, .ref a2]) ++ List.replicate (3 - (lg_sl ([.ref h0, .ref a1, .ref a2])).length) Slot.unset).toArray = ls at hl ⊢
  have hl : lv_has ls 3 [(0, .ref h0), (1, .ref a1), (2, .ref a2)] := hl
  refine lv_aload_n hx hb dX4_init_0 rfl (lv_at hl 0 rfl) ?_
  refine W.objInit hx hb hown (hts _ q_1284) (hts _ q_108) (hts _ q_107) rfl (by rw [hml]; exact hl.1) rfl dX4_init_1 (Nat.le_of_ble_eq_true rfl) (Nat.le_of_ble_eq_true rfl) ?_
  refine W.eq (g2 := F0 m 4 ls []) rfl ?_
  refine lv_aload_n hx hb dX4_init_4 rfl (lv_at hl 0 rfl) ?_
  refine lv_sipush (v := 4020) hx hb dX4_init_5 (by decide) ?_
  refine va_newa (atype := .int) (ty := .int) (n := 4020) (N' := 4020) (a0 := (4020, .inl fun _ => 0)) hx hb (hts _ q_121) rfl hK hP hD hS hA (fun _ => rfl) (by decide) (by decide) (Nat.le_of_ble_eq_true rfl) (Nat.le_of_ble_eq_true rfl) (Nat.le_of_ble_eq_true rfl) dX4_init_8 (fun q33 cA34 H hK hP hD hS => ?_)
  have hK : va_K (dC, dI) vwCl [(cA34, .int)] s := hK
  have hP : va_P (dC, dI) vwCl (wd_49 h0 q33 cA34) H := hP
  have hD : va_D A (wd_49 h0 q33 cA34) := hD
  refine W.widen (k := 1) (n := 4020) (Nat.le_of_ble_eq_true rfl) (Nat.le_of_ble_eq_true rfl) ?_
  refine va_putF (D := (dC, dI)) (ci := 4) (v := .ref q33) (ty := tyX4 2) (C := RX4) (T := TX4) (N := 6) hx hb hts i_X4 tyX4 tyX4_ok nmX4 hown hK hP hD hS 0 rfl rfl 2 (by decide) (hts _ q_1278) (fun _ h9 => h9) rfl hin rfl (tyX4_ok 2 (by decide)) rfl rfl (Nat.le_of_ble_eq_true rfl) dX4_init_10 (fun H locs hP hD hS => ?_)
  have hP : va_P (dC, dI) vwCl (wd_50 h0 q33 cA34) H := hP
  have hD : va_D A (wd_50 h0 q33 cA34) := hD
  refine lv_aload_n hx hb dX4_init_13 rfl (lv_at hl 0 rfl) ?_
  refine lv_iconst (v := 0) hx hb dX4_init_14 (by decide) ?_
  refine va_put (D := (dC, dI)) (ci := 4) (v := .int 0) (ty := tyX4 3) (C := RX4) (T := TX4) (N := 6) hx hb hts i_X4 tyX4 tyX4_ok nmX4 hown hK hP hD hS 0 rfl rfl 3 (by decide) (hts _ q_1283) (fun _ h9 => h9) rfl (tyX4_ok 3 (by decide)) rfl rfl (Nat.le_of_ble_eq_true rfl) dX4_init_15 (fun H locs hP hD hS => ?_)
  have hP : va_P (dC, dI) vwCl (wd_50 h0 q33 cA34) H := hP
  have hD : va_D A (wd_50 h0 q33 cA34) := hD
  refine lv_aload_n hx hb dX4_init_18 rfl (lv_at hl 0 rfl) ?_
  refine lv_iconst (v := 4) hx hb dX4_init_19 (by decide) ?_
  refine va_newa (atype := .int) (ty := .int) (n := 4) (N' := 4) (a0 := (4, .inl fun _ => 0)) hx hb (hts _ q_121) rfl hK hP hD hS hA (fun _ => rfl) (by decide) (by decide) (Nat.le_of_ble_eq_true rfl) (Nat.le_of_ble_eq_true rfl) (Nat.le_of_ble_eq_true rfl) dX4_init_20 (fun q35 cA36 H hK hP hD hS => ?_)
  have hK : va_K (dC, dI) vwCl [(cA34, .int), (cA36, .int)] s := hK
  have hP : va_P (dC, dI) vwCl (wd_51 h0 q33 cA34 q35 cA36) H := hP
  have hD : va_D A (wd_51 h0 q33 cA34 q35 cA36) := hD
  refine W.widen (k := 2) (n := 4024) (Nat.le_of_ble_eq_true rfl) (Nat.le_of_ble_eq_true rfl) ?_
  refine va_putF (D := (dC, dI)) (ci := 4) (v := .ref q35) (ty := tyX4 4) (C := RX4) (T := TX4) (N := 6) hx hb hts i_X4 tyX4 tyX4_ok nmX4 hown hK hP hD hS 0 rfl rfl 4 (by decide) (hts _ q_1277) (fun _ h9 => h9) rfl hin rfl (tyX4_ok 4 (by decide)) rfl rfl (Nat.le_of_ble_eq_true rfl) dX4_init_22 (fun H locs hP hD hS => ?_)
  have hP : va_P (dC, dI) vwCl (wd_52 h0 q33 q35 cA34 cA36) H := hP
  have hD : va_D A (wd_52 h0 q33 q35 cA34 cA36) := hD
  refine lv_aload_n hx hb dX4_init_25 rfl (lv_at hl 0 rfl) ?_
  refine lv_iconst (v := 0) hx hb dX4_init_26 (by decide) ?_
  refine va_put (D := (dC, dI)) (ci := 4) (v := .int 0) (ty := tyX4 5) (C := RX4) (T := TX4) (N := 6) hx hb hts i_X4 tyX4 tyX4_ok nmX4 hown hK hP hD hS 0 rfl rfl 5 (by decide) (hts _ q_1276) (fun _ h9 => h9) rfl (tyX4_ok 5 (by decide)) rfl rfl (Nat.le_of_ble_eq_true rfl) dX4_init_27 (fun H locs hP hD hS => ?_)
  have hP : va_P (dC, dI) vwCl (wd_52 h0 q33 q35 cA34 cA36) H := hP
  have hD : va_D A (wd_52 h0 q33 q35 cA34 cA36) := hD
  refine lv_aload_n hx hb dX4_init_30 rfl (lv_at hl 0 rfl) ?_
  refine lv_aload_n hx hb dX4_init_31 rfl (lv_at hl 1 rfl) ?_
  refine va_putF (D := (dC, dI)) (ci := 4) (v := .ref a1) (ty := tyX4 0) (C := RX4) (T := TX4) (N := 6) hx hb hts i_X4 tyX4 tyX4_ok nmX4 hown hK hP hD hS 0 rfl rfl 0 (by decide) (hts _ q_1285) (fun _ h9 => h9) rfl hin rfl (tyX4_ok 0 (by decide)) rfl rfl (Nat.le_of_ble_eq_true rfl) dX4_init_32 (fun H locs hP hD hS => ?_)
  have hP : va_P (dC, dI) vwCl (wd_53 h0 a1 q33 q35 cA34 cA36) H := hP
  have hD : va_D A (wd_53 h0 a1 q33 q35 cA34 cA36) := hD
  refine lv_aload_n hx hb dX4_init_35 rfl (lv_at hl 0 rfl) ?_
  refine lv_aload_n hx hb dX4_init_36 rfl (lv_at hl 2 rfl) ?_
  refine va_putF (D := (dC, dI)) (ci := 4) (v := .ref a2) (ty := tyX4 1) (C := RX4) (T := TX4) (N := 6) hx hb hts i_X4 tyX4 tyX4_ok nmX4 hown hK hP hD hS 0 rfl rfl 1 (by decide) (hts _ q_1286) (fun _ h9 => h9) rfl hin rfl (tyX4_ok 1 (by decide)) rfl rfl (Nat.le_of_ble_eq_true rfl) dX4_init_37 (fun H locs hP hD hS => ?_)
  have hP : va_P (dC, dI) vwCl (wd_54 h0 a1 a2 q33 q35 cA34 cA36) H := hP
  have hD : va_D A (wd_54 h0 a1 a2 q33 q35 cA34 cA36) := hD
  refine W.widen (k := 2) (n := 4024) (Nat.le_of_ble_eq_true rfl) (Nat.le_of_ble_eq_true rfl) ?_
  have hP9 := hP.sub (ws' := (wd_54 h0 a1 a2 q33 q35 cA34 cA36)) [0, 1, 2] rfl
  have hD9 := hD.sub (ws' := (wd_54 h0 a1 a2 q33 q35 cA34 cA36)) [0, 1, 2] (by decide) rfl
  have hK9 := hK.sub (tys' := [(cA34, .int), (cA36, .int)]) [0, 1] rfl
  exact W.vret hx hb hr (fun t ht hW => ⟨⟨(), rfl, trivial, q33, q35, cA34, cA36, by rw [ht]; exact hP9, va_K.moved hW.alike hK9, hD9⟩, hS.F ht⟩) hS.2.2 dX4_init_40
def wd_56 (h0 : Nat) : va_W := [(h0, .inr (0, [.null, .null, .long 1]))]
def wd_57 (h0 : Nat) (a1 : Nat) : va_W := [(h0, .inr (0, [.ref a1, .null, .long 1]))]
def wd_58 (h0 : Nat) (a1 : Nat) (a2 : Nat) : va_W := [(h0, .inr (0, [.ref a1, .ref a2, .long 1]))]
def wd_59 (h0 : Nat) : va_W := [(h0, .inr (0, [.null, .null, .long 0]))]
set_option maxHeartbeats 4000000 in
set_option maxRecDepth 100000 in
theorem K_X0_init (l : Launch) (dC : Nat → ClassId) (dI : Nat → Nat → Nat) (h0 : Nat) (a1 : Nat) (a2 : Nat) (sz : Nat) : Met l yX0_init (Cond.code yX0_init cX0_init 3 none :: wA) ({ frames := 1, cells := 0, slots := 0, locals := 12 }) (va_Pc [.ref h0, .ref a1, .ref a2] (fun U => U.heap.size = sz ∧ va_P (dC, dI) vwCl (wd_59 h0) U.heap ∧ va_K (dC, dI) vwCl [] U ∧ va_D (fun _ => True) (wd_59 h0))) (va_Qv (fun (_ : Unit) => True) (fun _ t => va_P (dC, dI) vwCl (wd_58 h0 a1 a2) t.heap ∧ va_K (dC, dI) vwCl [] t ∧ va_D (va_A (wd_59 h0) sz) (wd_58 h0 a1 a2)) (va_A (wd_59 h0) sz)) 0 0 (va_A (wd_59 h0) sz) := by
  refine Met.ofW (cc := cX0_init) (maxL := 3) (ret := none) (by decide) rfl ?_
  intro p e s m args below meth c s₁ B hml hv
  obtain ⟨rfl, hsz, hP, hK, hD0⟩ := hv
  have hx := B.exec
  have hb := B.bytes
  have hr := B.returns
  have hts : ∀ w ∈ wA, w.before [.ref h0, .ref a1, .ref a2].toArray s = true := fun w h => atoms_spec (ws := Cond.code yX0_init cX0_init 3 none :: wA) B.pre w (List.mem_cons_of_mem _ h)
  have hown : s.vm.findClass RX0 = some m.cls := findClass_of_methodNamed B.named
  have hlocks := B.notSynchronized
  have hin : meth.name = "<init>" := (name_of_methodNamed B.named B.method).1
  subst hsz
  have hD := hD0.self (sz := s.heap.size)
  generalize hAe : va_A (wd_59 h0) s.heap.size = A at hD ⊢
  have hA : ∀ q : Nat, s.heap.size ≤ q → A q := fun q h => by rw [← hAe]; exact Or.inr h
  have hS : va_S A s.heap s.heap [] := va_S.rf
  have hl := lv_entry ([.ref h0, .ref a1, .ref a2]) (n := 3) (Nat.le_of_ble_eq_true rfl)
  rw [lg_entry_eq]
  generalize (lg_sl ([.ref h0, .ref a1, .ref a2]) ++ List.replicate (3 - (lg_sl ([.ref h0, .ref a1, .ref a2])).length) Slot.unset).toArray = ls at hl ⊢
  have hl : lv_has ls 3 [(0, .ref h0), (1, .ref a1), (2, .ref a2)] := hl
  refine lv_aload_n hx hb dX0_init_0 rfl (lv_at hl 0 rfl) ?_
  refine W.objInit hx hb hown (hts _ q_106) (hts _ q_108) (hts _ q_107) rfl (by rw [hml]; exact hl.1) rfl dX0_init_1 (Nat.le_of_ble_eq_true rfl) (Nat.le_of_ble_eq_true rfl) ?_
  refine W.eq (g2 := F0 m 4 ls []) rfl ?_
  refine lv_aload_n hx hb dX0_init_4 rfl (lv_at hl 0 rfl) ?_
  refine lv_lconst (v := 1) hx hb dX0_init_5 (by decide) ?_
  refine va_put (D := (dC, dI)) (ci := 0) (v := .long 1) (ty := tyX0 2) (C := RX0) (T := TX0) (N := 3) hx hb hts i_X0 tyX0 tyX0_ok nmX0 hown hK hP hD hS 0 rfl rfl 2 (by decide) (hts _ q_73) (fun _ h9 => h9) rfl (tyX0_ok 2 (by decide)) rfl rfl (Nat.le_of_ble_eq_true rfl) dX0_init_6 (fun H locs hP hD hS => ?_)
  have hP : va_P (dC, dI) vwCl (wd_56 h0) H := hP
  have hD : va_D A (wd_56 h0) := hD
  refine lv_aload_n hx hb dX0_init_9 rfl (lv_at hl 0 rfl) ?_
  refine lv_aload_n hx hb dX0_init_10 rfl (lv_at hl 1 rfl) ?_
  refine va_putF (D := (dC, dI)) (ci := 0) (v := .ref a1) (ty := tyX0 0) (C := RX0) (T := TX0) (N := 3) hx hb hts i_X0 tyX0 tyX0_ok nmX0 hown hK hP hD hS 0 rfl rfl 0 (by decide) (hts _ q_89) (fun _ h9 => h9) rfl hin rfl (tyX0_ok 0 (by decide)) rfl rfl (Nat.le_of_ble_eq_true rfl) dX0_init_11 (fun H locs hP hD hS => ?_)
  have hP : va_P (dC, dI) vwCl (wd_57 h0 a1) H := hP
  have hD : va_D A (wd_57 h0 a1) := hD
  refine lv_aload_n hx hb dX0_init_14 rfl (lv_at hl 0 rfl) ?_
  refine lv_aload_n hx hb dX0_init_15 rfl (lv_at hl 2 rfl) ?_
  refine va_putF (D := (dC, dI)) (ci := 0) (v := .ref a2) (ty := tyX0 1) (C := RX0) (T := TX0) (N := 3) hx hb hts i_X0 tyX0 tyX0_ok nmX0 hown hK hP hD hS 0 rfl rfl 1 (by decide) (hts _ q_109) (fun _ h9 => h9) rfl hin rfl (tyX0_ok 1 (by decide)) rfl rfl (Nat.le_of_ble_eq_true rfl) dX0_init_16 (fun H locs hP hD hS => ?_)
  have hP : va_P (dC, dI) vwCl (wd_58 h0 a1 a2) H := hP
  have hD : va_D A (wd_58 h0 a1 a2) := hD
  refine W.widen (k := 0) (n := 0) (Nat.le_of_ble_eq_true rfl) (Nat.le_of_ble_eq_true rfl) ?_
  have hP9 := hP.sub (ws' := (wd_58 h0 a1 a2)) [0] rfl
  have hD9 := hD.sub (ws' := (wd_58 h0 a1 a2)) [0] (by decide) rfl
  have hK9 := hK.sub (tys' := []) [] rfl
  exact W.vret hx hb hr (fun t ht hW => ⟨⟨(), rfl, trivial, by rw [ht]; exact hP9, va_K.moved hW.alike hK9, hD9⟩, hS.F ht⟩) hS.2.2 dX0_init_19
def wd_60 (h0 : Nat) (q37 : Nat) (cA38 : ClassId) : va_W := [(h0, .inr (3, [.null, .null, .int 0])), (q37, .inl (cA38, 507, .inl (fun _ => 0)))]
def wd_61 (h0 : Nat) (q37 : Nat) (cA38 : ClassId) : va_W := [(h0, .inr (3, [.null, .ref q37, .int 0])), (q37, .inl (cA38, 507, .inl (fun _ => 0)))]
def wd_62 (h0 : Nat) (a1 : Nat) (q37 : Nat) (cA38 : ClassId) : va_W := [(h0, .inr (3, [.ref a1, .ref q37, .int 0])), (q37, .inl (cA38, 507, .inl (fun _ => 0)))]
def wd_63 (h0 : Nat) : va_W := [(h0, .inr (3, [.null, .null, .int 0]))]
set_option maxHeartbeats 4000000 in
set_option maxRecDepth 100000 in
theorem K_X3_init (l : Launch) (dC : Nat → ClassId) (dI : Nat → Nat → Nat) (h0 : Nat) (a1 : Nat) (sz : Nat) : Met l yX3_init (Cond.code yX3_init cX3_init 2 none :: wA) ({ frames := 1, cells := 1, slots := 507, locals := 12 }) (va_Pc [.ref h0, .ref a1] (fun U => U.heap.size = sz ∧ va_P (dC, dI) vwCl (wd_63 h0) U.heap ∧ va_K (dC, dI) vwCl [] U ∧ va_D (fun _ => True) (wd_63 h0))) (va_Qv (fun (_ : Unit) => True) (fun _ t => ∃ q37 : Nat, ∃ cA38 : ClassId, va_P (dC, dI) vwCl (wd_62 h0 a1 q37 cA38) t.heap ∧ va_K (dC, dI) vwCl [(cA38, .int)] t ∧ va_D (va_A (wd_63 h0) sz) (wd_62 h0 a1 q37 cA38)) (va_A (wd_63 h0) sz)) 1 507 (va_A (wd_63 h0) sz) := by
  refine Met.ofW (cc := cX3_init) (maxL := 2) (ret := none) (by decide) rfl ?_
  intro p e s m args below meth c s₁ B hml hv
  obtain ⟨rfl, hsz, hP, hK, hD0⟩ := hv
  have hx := B.exec
  have hb := B.bytes
  have hr := B.returns
  have hts : ∀ w ∈ wA, w.before [.ref h0, .ref a1].toArray s = true := fun w h => atoms_spec (ws := Cond.code yX3_init cX3_init 2 none :: wA) B.pre w (List.mem_cons_of_mem _ h)
  have hown : s.vm.findClass RX3 = some m.cls := findClass_of_methodNamed B.named
  have hlocks := B.notSynchronized
  have hin : meth.name = "<init>" := (name_of_methodNamed B.named B.method).1
  subst hsz
  have hD := hD0.self (sz := s.heap.size)
  generalize hAe : va_A (wd_63 h0) s.heap.size = A at hD ⊢
  have hA : ∀ q : Nat, s.heap.size ≤ q → A q := fun q h => by rw [← hAe]; exact Or.inr h
  have hS : va_S A s.heap s.heap [] := va_S.rf
  have hl := lv_entry ([.ref h0, .ref a1]) (n := 2) (Nat.le_of_ble_eq_true rfl)
  rw [lg_entry_eq]
  generalize (lg_sl ([.ref h0, .ref a1]) ++ List.replicate (2 - (lg_sl ([.ref h0, .ref a1])).length) Slot.unset).toArray = ls at hl ⊢
  have hl : lv_has ls 2 [(0, .ref h0), (1, .ref a1)] := hl
  refine lv_aload_n hx hb dX3_init_0 rfl (lv_at hl 0 rfl) ?_
  refine W.objInit hx hb hown (hts _ q_1239) (hts _ q_108) (hts _ q_107) rfl (by rw [hml]; exact hl.1) rfl dX3_init_1 (Nat.le_of_ble_eq_true rfl) (Nat.le_of_ble_eq_true rfl) ?_
  refine W.eq (g2 := F0 m 4 ls []) rfl ?_
  refine lv_aload_n hx hb dX3_init_4 rfl (lv_at hl 0 rfl) ?_
  refine lv_sipush (v := 507) hx hb dX3_init_5 (by decide) ?_
  refine va_newa (atype := .int) (ty := .int) (n := 507) (N' := 507) (a0 := (507, .inl fun _ => 0)) hx hb (hts _ q_121) rfl hK hP hD hS hA (fun _ => rfl) (by decide) (by decide) (Nat.le_of_ble_eq_true rfl) (Nat.le_of_ble_eq_true rfl) (Nat.le_of_ble_eq_true rfl) dX3_init_8 (fun q37 cA38 H hK hP hD hS => ?_)
  have hK : va_K (dC, dI) vwCl [(cA38, .int)] s := hK
  have hP : va_P (dC, dI) vwCl (wd_60 h0 q37 cA38) H := hP
  have hD : va_D A (wd_60 h0 q37 cA38) := hD
  refine W.widen (k := 1) (n := 507) (Nat.le_of_ble_eq_true rfl) (Nat.le_of_ble_eq_true rfl) ?_
  refine va_putF (D := (dC, dI)) (ci := 3) (v := .ref q37) (ty := tyX3 1) (C := RX3) (T := TX3) (N := 3) hx hb hts i_X3 tyX3 tyX3_ok nmX3 hown hK hP hD hS 0 rfl rfl 1 (by decide) (hts _ q_1240) (fun _ h9 => h9) rfl hin rfl (tyX3_ok 1 (by decide)) rfl rfl (Nat.le_of_ble_eq_true rfl) dX3_init_10 (fun H locs hP hD hS => ?_)
  have hP : va_P (dC, dI) vwCl (wd_61 h0 q37 cA38) H := hP
  have hD : va_D A (wd_61 h0 q37 cA38) := hD
  refine lv_aload_n hx hb dX3_init_13 rfl (lv_at hl 0 rfl) ?_
  refine lv_iconst (v := 0) hx hb dX3_init_14 (by decide) ?_
  refine va_put (D := (dC, dI)) (ci := 3) (v := .int 0) (ty := tyX3 2) (C := RX3) (T := TX3) (N := 3) hx hb hts i_X3 tyX3 tyX3_ok nmX3 hown hK hP hD hS 0 rfl rfl 2 (by decide) (hts _ q_1241) (fun _ h9 => h9) rfl (tyX3_ok 2 (by decide)) rfl rfl (Nat.le_of_ble_eq_true rfl) dX3_init_15 (fun H locs hP hD hS => ?_)
  have hP : va_P (dC, dI) vwCl (wd_61 h0 q37 cA38) H := hP
  have hD : va_D A (wd_61 h0 q37 cA38) := hD
  refine lv_aload_n hx hb dX3_init_18 rfl (lv_at hl 0 rfl) ?_
  refine lv_aload_n hx hb dX3_init_19 rfl (lv_at hl 1 rfl) ?_
  refine va_putF (D := (dC, dI)) (ci := 3) (v := .ref a1) (ty := tyX3 0) (C := RX3) (T := TX3) (N := 3) hx hb hts i_X3 tyX3 tyX3_ok nmX3 hown hK hP hD hS 0 rfl rfl 0 (by decide) (hts _ q_1242) (fun _ h9 => h9) rfl hin rfl (tyX3_ok 0 (by decide)) rfl rfl (Nat.le_of_ble_eq_true rfl) dX3_init_20 (fun H locs hP hD hS => ?_)
  have hP : va_P (dC, dI) vwCl (wd_62 h0 a1 q37 cA38) H := hP
  have hD : va_D A (wd_62 h0 a1 q37 cA38) := hD
  refine W.widen (k := 1) (n := 507) (Nat.le_of_ble_eq_true rfl) (Nat.le_of_ble_eq_true rfl) ?_
  have hP9 := hP.sub (ws' := (wd_62 h0 a1 q37 cA38)) [0, 1] rfl
  have hD9 := hD.sub (ws' := (wd_62 h0 a1 q37 cA38)) [0, 1] (by decide) rfl
  have hK9 := hK.sub (tys' := [(cA38, .int)]) [0] rfl
  exact W.vret hx hb hr (fun t ht hW => ⟨⟨(), rfl, trivial, q37, cA38, by rw [ht]; exact hP9, va_K.moved hW.alike hK9, hD9⟩, hS.F ht⟩) hS.2.2 dX3_init_23
def wd_64 (h0 : Nat) (a4 : Nat) (b0 : Nat) (b1 : Nat) (b2 : Nat) (b3 : Nat) (q39 : Nat) (cA40 : ClassId) : va_W := [(h0, .inr (5, [.null, .null, .null, .null, .null, .null, .int 0, .int 0, .int 0, .int 0, .int 0])), (a4, .inr (4, [.ref b0, .ref b1, .ref b2, .int 0, .ref b3, .int 0])), (q39, .inl (cA40, 4, .inl (fun _ => 0)))]
def wd_65 (h0 : Nat) (q39 : Nat) (a4 : Nat) (b0 : Nat) (b1 : Nat) (b2 : Nat) (b3 : Nat) (cA40 : ClassId) : va_W := [(h0, .inr (5, [.null, .null, .null, .null, .null, .ref q39, .int 0, .int 0, .int 0, .int 0, .int 0])), (a4, .inr (4, [.ref b0, .ref b1, .ref b2, .int 0, .ref b3, .int 0])), (q39, .inl (cA40, 4, .inl (fun _ => 0)))]
def wd_66 (h0 : Nat) (q39 : Nat) (a4 : Nat) (b0 : Nat) (b1 : Nat) (b2 : Nat) (b3 : Nat) (cA40 : ClassId) : va_W := [(h0, .inr (5, [.null, .null, .null, .null, .null, .ref q39, .int 0, .int 0, .int 0, .int 0, .int (-1)])), (a4, .inr (4, [.ref b0, .ref b1, .ref b2, .int 0, .ref b3, .int 0])), (q39, .inl (cA40, 4, .inl (fun _ => 0)))]
def wd_67 (h0 : Nat) (a1 : Nat) (q39 : Nat) (a4 : Nat) (b0 : Nat) (b1 : Nat) (b2 : Nat) (b3 : Nat) (cA40 : ClassId) : va_W := [(h0, .inr (5, [.ref a1, .null, .null, .null, .null, .ref q39, .int 0, .int 0, .int 0, .int 0, .int (-1)])), (a4, .inr (4, [.ref b0, .ref b1, .ref b2, .int 0, .ref b3, .int 0])), (q39, .inl (cA40, 4, .inl (fun _ => 0)))]
def wd_68 (h0 : Nat) (a1 : Nat) (a2 : Nat) (q39 : Nat) (a4 : Nat) (b0 : Nat) (b1 : Nat) (b2 : Nat) (b3 : Nat) (cA40 : ClassId) : va_W := [(h0, .inr (5, [.ref a1, .ref a2, .null, .null, .null, .ref q39, .int 0, .int 0, .int 0, .int 0, .int (-1)])), (a4, .inr (4, [.ref b0, .ref b1, .ref b2, .int 0, .ref b3, .int 0])), (q39, .inl (cA40, 4, .inl (fun _ => 0)))]
def wd_69 (h0 : Nat) (a1 : Nat) (a2 : Nat) (a3 : Nat) (q39 : Nat) (a4 : Nat) (b0 : Nat) (b1 : Nat) (b2 : Nat) (b3 : Nat) (cA40 : ClassId) : va_W := [(h0, .inr (5, [.ref a1, .ref a2, .ref a3, .null, .null, .ref q39, .int 0, .int 0, .int 0, .int 0, .int (-1)])), (a4, .inr (4, [.ref b0, .ref b1, .ref b2, .int 0, .ref b3, .int 0])), (q39, .inl (cA40, 4, .inl (fun _ => 0)))]
def wd_70 (h0 : Nat) (a1 : Nat) (a2 : Nat) (a3 : Nat) (a4 : Nat) (q39 : Nat) (b0 : Nat) (b1 : Nat) (b2 : Nat) (b3 : Nat) (cA40 : ClassId) : va_W := [(h0, .inr (5, [.ref a1, .ref a2, .ref a3, .ref a4, .null, .ref q39, .int 0, .int 0, .int 0, .int 0, .int (-1)])), (a4, .inr (4, [.ref b0, .ref b1, .ref b2, .int 0, .ref b3, .int 0])), (q39, .inl (cA40, 4, .inl (fun _ => 0)))]
def wd_71 (h0 : Nat) (a1 : Nat) (a2 : Nat) (a3 : Nat) (a4 : Nat) (b2 : Nat) (q39 : Nat) (b0 : Nat) (b1 : Nat) (b3 : Nat) (cA40 : ClassId) : va_W := [(h0, .inr (5, [.ref a1, .ref a2, .ref a3, .ref a4, .ref b2, .ref q39, .int 0, .int 0, .int 0, .int 0, .int (-1)])), (a4, .inr (4, [.ref b0, .ref b1, .ref b2, .int 0, .ref b3, .int 0])), (q39, .inl (cA40, 4, .inl (fun _ => 0)))]
def wd_72 (h0 : Nat) (a4 : Nat) (b0 : Nat) (b1 : Nat) (b2 : Nat) (b3 : Nat) : va_W := [(h0, .inr (5, [.null, .null, .null, .null, .null, .null, .int 0, .int 0, .int 0, .int 0, .int 0])), (a4, .inr (4, [.ref b0, .ref b1, .ref b2, .int 0, .ref b3, .int 0]))]
set_option maxHeartbeats 4000000 in
set_option maxRecDepth 100000 in
theorem K_X5_init (l : Launch) (dC : Nat → ClassId) (dI : Nat → Nat → Nat) (h0 : Nat) (a4 : Nat) (b0 : Nat) (b1 : Nat) (b2 : Nat) (b3 : Nat) (a1 : Nat) (a2 : Nat) (a3 : Nat) (sz : Nat) : Met l yX5_init (Cond.code yX5_init cX5_init 5 none :: wA) ({ frames := 1, cells := 1, slots := 4, locals := 12 }) (va_Pc [.ref h0, .ref a1, .ref a2, .ref a3, .ref a4] (fun U => U.heap.size = sz ∧ va_P (dC, dI) vwCl (wd_72 h0 a4 b0 b1 b2 b3) U.heap ∧ va_K (dC, dI) vwCl [] U ∧ va_D (fun _ => True) (wd_72 h0 a4 b0 b1 b2 b3))) (va_Qv (fun (_ : Unit) => True) (fun _ t => ∃ q39 : Nat, ∃ cA40 : ClassId, va_P (dC, dI) vwCl (wd_71 h0 a1 a2 a3 a4 b2 q39 b0 b1 b3 cA40) t.heap ∧ va_K (dC, dI) vwCl [(cA40, .int)] t ∧ va_D (va_A (wd_72 h0 a4 b0 b1 b2 b3) sz) (wd_71 h0 a1 a2 a3 a4 b2 q39 b0 b1 b3 cA40)) (va_A (wd_72 h0 a4 b0 b1 b2 b3) sz)) 1 4 (va_A (wd_72 h0 a4 b0 b1 b2 b3) sz) := by
  refine Met.ofW (cc := cX5_init) (maxL := 5) (ret := none) (by decide) rfl ?_
  intro p e s m args below meth c s₁ B hml hv
  obtain ⟨rfl, hsz, hP, hK, hD0⟩ := hv
  have hx := B.exec
  have hb := B.bytes
  have hr := B.returns
  have hts : ∀ w ∈ wA, w.before [.ref h0, .ref a1, .ref a2, .ref a3, .ref a4].toArray s = true := fun w h => atoms_spec (ws := Cond.code yX5_init cX5_init 5 none :: wA) B.pre w (List.mem_cons_of_mem _ h)
  have hown : s.vm.findClass RX5 = some m.cls := findClass_of_methodNamed B.named
  have hlocks := B.notSynchronized
  have hin : meth.name = "<init>" := (name_of_methodNamed B.named B.method).1
  subst hsz
  have hD := hD0.self (sz := s.heap.size)
  generalize hAe : va_A (wd_72 h0 a4 b0 b1 b2 b3) s.heap.size = A at hD ⊢
  have hA : ∀ q : Nat, s.heap.size ≤ q → A q := fun q h => by rw [← hAe]; exact Or.inr h
  have hS : va_S A s.heap s.heap [] := va_S.rf
  have hl := lv_entry ([.ref h0, .ref a1, .ref a2, .ref a3, .ref a4]) (n := 5) (Nat.le_of_ble_eq_true rfl)
  rw [lg_entry_eq]
  generalize (lg_sl ([.ref h0, .ref a1, .ref a2, .ref a3, .ref a4]) ++ List.replicate (5 - (lg_sl ([.ref h0, .ref a1, .ref a2, .ref a3, .ref a4])).length) Slot.unset).toArray = ls at hl ⊢
  have hl : lv_has ls 5 [(0, .ref h0), (1, .ref a1), (2, .ref a2), (3, .ref a3), (4, .ref a4)] := hl
  refine lv_aload_n hx hb dX5_init_0 rfl (lv_at hl 0 rfl) ?_
  refine W.objInit hx hb hown (hts _ q_1366) (hts _ q_108) (hts _ q_107) rfl (by rw [hml]; exact hl.1) rfl dX5_init_1 (Nat.le_of_ble_eq_true rfl) (Nat.le_of_ble_eq_true rfl) ?_
  refine W.eq (g2 := F0 m 4 ls []) rfl ?_
  refine lv_aload_n hx hb dX5_init_4 rfl (lv_at hl 0 rfl) ?_
  refine lv_iconst (v := 4) hx hb dX5_init_5 (by decide) ?_
  refine va_newa (atype := .int) (ty := .int) (n := 4) (N' := 4) (a0 := (4, .inl fun _ => 0)) hx hb (hts _ q_121) rfl hK hP hD hS hA (fun _ => rfl) (by decide) (by decide) (Nat.le_of_ble_eq_true rfl) (Nat.le_of_ble_eq_true rfl) (Nat.le_of_ble_eq_true rfl) dX5_init_6 (fun q39 cA40 H hK hP hD hS => ?_)
  have hK : va_K (dC, dI) vwCl [(cA40, .int)] s := hK
  have hP : va_P (dC, dI) vwCl (wd_64 h0 a4 b0 b1 b2 b3 q39 cA40) H := hP
  have hD : va_D A (wd_64 h0 a4 b0 b1 b2 b3 q39 cA40) := hD
  refine W.widen (k := 1) (n := 4) (Nat.le_of_ble_eq_true rfl) (Nat.le_of_ble_eq_true rfl) ?_
  refine va_putF (D := (dC, dI)) (ci := 5) (v := .ref q39) (ty := tyX5 5) (C := RX5) (T := TX5) (N := 11) hx hb hts i_X5 tyX5 tyX5_ok nmX5 hown hK hP hD hS 0 rfl rfl 5 (by decide) (hts _ q_1346) (fun _ h9 => h9) rfl hin rfl (tyX5_ok 5 (by decide)) rfl rfl (Nat.le_of_ble_eq_true rfl) dX5_init_8 (fun H locs hP hD hS => ?_)
  have hP : va_P (dC, dI) vwCl (wd_65 h0 q39 a4 b0 b1 b2 b3 cA40) H := hP
  have hD : va_D A (wd_65 h0 q39 a4 b0 b1 b2 b3 cA40) := hD
  refine lv_aload_n hx hb dX5_init_11 rfl (lv_at hl 0 rfl) ?_
  refine lv_iconst (v := 0) hx hb dX5_init_12 (by decide) ?_
  refine va_put (D := (dC, dI)) (ci := 5) (v := .int 0) (ty := tyX5 6) (C := RX5) (T := TX5) (N := 11) hx hb hts i_X5 tyX5 tyX5_ok nmX5 hown hK hP hD hS 0 rfl rfl 6 (by decide) (hts _ q_1345) (fun _ h9 => h9) rfl (tyX5_ok 6 (by decide)) rfl rfl (Nat.le_of_ble_eq_true rfl) dX5_init_13 (fun H locs hP hD hS => ?_)
  have hP : va_P (dC, dI) vwCl (wd_65 h0 q39 a4 b0 b1 b2 b3 cA40) H := hP
  have hD : va_D A (wd_65 h0 q39 a4 b0 b1 b2 b3 cA40) := hD
  refine lv_aload_n hx hb dX5_init_16 rfl (lv_at hl 0 rfl) ?_
  refine lv_iconst (v := 0) hx hb dX5_init_17 (by decide) ?_
  refine va_put (D := (dC, dI)) (ci := 5) (v := .int 0) (ty := tyX5 7) (C := RX5) (T := TX5) (N := 11) hx hb hts i_X5 tyX5 tyX5_ok nmX5 hown hK hP hD hS 0 rfl rfl 7 (by decide) (hts _ q_1367) (fun _ h9 => h9) rfl (tyX5_ok 7 (by decide)) rfl rfl (Nat.le_of_ble_eq_true rfl) dX5_init_18 (fun H locs hP hD hS => ?_)
  have hP : va_P (dC, dI) vwCl (wd_65 h0 q39 a4 b0 b1 b2 b3 cA40) H := hP
  have hD : va_D A (wd_65 h0 q39 a4 b0 b1 b2 b3 cA40) := hD
  refine lv_aload_n hx hb dX5_init_21 rfl (lv_at hl 0 rfl) ?_
  refine lv_iconst (v := 0) hx hb dX5_init_22 (by decide) ?_
  refine va_put (D := (dC, dI)) (ci := 5) (v := .int 0) (ty := tyX5 8) (C := RX5) (T := TX5) (N := 11) hx hb hts i_X5 tyX5 tyX5_ok nmX5 hown hK hP hD hS 0 rfl rfl 8 (by decide) (hts _ q_1368) (fun _ h9 => h9) rfl (tyX5_ok 8 (by decide)) rfl rfl (Nat.le_of_ble_eq_true rfl) dX5_init_23 (fun H locs hP hD hS => ?_)
  have hP : va_P (dC, dI) vwCl (wd_65 h0 q39 a4 b0 b1 b2 b3 cA40) H := hP
  have hD : va_D A (wd_65 h0 q39 a4 b0 b1 b2 b3 cA40) := hD
  refine lv_aload_n hx hb dX5_init_26 rfl (lv_at hl 0 rfl) ?_
  refine lv_iconst (v := 0) hx hb dX5_init_27 (by decide) ?_
  refine va_put (D := (dC, dI)) (ci := 5) (v := .int 0) (ty := tyX5 9) (C := RX5) (T := TX5) (N := 11) hx hb hts i_X5 tyX5 tyX5_ok nmX5 hown hK hP hD hS 0 rfl rfl 9 (by decide) (hts _ q_1353) (fun _ h9 => h9) rfl (tyX5_ok 9 (by decide)) rfl rfl (Nat.le_of_ble_eq_true rfl) dX5_init_28 (fun H locs hP hD hS => ?_)
  have hP : va_P (dC, dI) vwCl (wd_65 h0 q39 a4 b0 b1 b2 b3 cA40) H := hP
  have hD : va_D A (wd_65 h0 q39 a4 b0 b1 b2 b3 cA40) := hD
  refine lv_aload_n hx hb dX5_init_31 rfl (lv_at hl 0 rfl) ?_
  refine lv_iconst (v := (-1)) hx hb dX5_init_32 (by decide) ?_
  refine va_put (D := (dC, dI)) (ci := 5) (v := .int (-1)) (ty := tyX5 10) (C := RX5) (T := TX5) (N := 11) hx hb hts i_X5 tyX5 tyX5_ok nmX5 hown hK hP hD hS 0 rfl rfl 10 (by decide) (hts _ q_1354) (fun _ h9 => h9) rfl (tyX5_ok 10 (by decide)) rfl rfl (Nat.le_of_ble_eq_true rfl) dX5_init_33 (fun H locs hP hD hS => ?_)
  have hP : va_P (dC, dI) vwCl (wd_66 h0 q39 a4 b0 b1 b2 b3 cA40) H := hP
  have hD : va_D A (wd_66 h0 q39 a4 b0 b1 b2 b3 cA40) := hD
  refine lv_aload_n hx hb dX5_init_36 rfl (lv_at hl 0 rfl) ?_
  refine lv_aload_n hx hb dX5_init_37 rfl (lv_at hl 1 rfl) ?_
  refine va_putF (D := (dC, dI)) (ci := 5) (v := .ref a1) (ty := tyX5 0) (C := RX5) (T := TX5) (N := 11) hx hb hts i_X5 tyX5 tyX5_ok nmX5 hown hK hP hD hS 0 rfl rfl 0 (by decide) (hts _ q_1359) (fun _ h9 => h9) rfl hin rfl (tyX5_ok 0 (by decide)) rfl rfl (Nat.le_of_ble_eq_true rfl) dX5_init_38 (fun H locs hP hD hS => ?_)
  have hP : va_P (dC, dI) vwCl (wd_67 h0 a1 q39 a4 b0 b1 b2 b3 cA40) H := hP
  have hD : va_D A (wd_67 h0 a1 q39 a4 b0 b1 b2 b3 cA40) := hD
  refine lv_aload_n hx hb dX5_init_41 rfl (lv_at hl 0 rfl) ?_
  refine lv_aload_n hx hb dX5_init_42 rfl (lv_at hl 2 rfl) ?_
  refine va_putF (D := (dC, dI)) (ci := 5) (v := .ref a2) (ty := tyX5 1) (C := RX5) (T := TX5) (N := 11) hx hb hts i_X5 tyX5 tyX5_ok nmX5 hown hK hP hD hS 0 rfl rfl 1 (by decide) (hts _ q_1361) (fun _ h9 => h9) rfl hin rfl (tyX5_ok 1 (by decide)) rfl rfl (Nat.le_of_ble_eq_true rfl) dX5_init_43 (fun H locs hP hD hS => ?_)
  have hP : va_P (dC, dI) vwCl (wd_68 h0 a1 a2 q39 a4 b0 b1 b2 b3 cA40) H := hP
  have hD : va_D A (wd_68 h0 a1 a2 q39 a4 b0 b1 b2 b3 cA40) := hD
  refine lv_aload_n hx hb dX5_init_46 rfl (lv_at hl 0 rfl) ?_
  refine lv_aload_n hx hb dX5_init_47 rfl (lv_at hl 3 rfl) ?_
  refine va_putF (D := (dC, dI)) (ci := 5) (v := .ref a3) (ty := tyX5 2) (C := RX5) (T := TX5) (N := 11) hx hb hts i_X5 tyX5 tyX5_ok nmX5 hown hK hP hD hS 0 rfl rfl 2 (by decide) (hts _ q_1369) (fun _ h9 => h9) rfl hin rfl (tyX5_ok 2 (by decide)) rfl rfl (Nat.le_of_ble_eq_true rfl) dX5_init_48 (fun H locs hP hD hS => ?_)
  have hP : va_P (dC, dI) vwCl (wd_69 h0 a1 a2 a3 q39 a4 b0 b1 b2 b3 cA40) H := hP
  have hD : va_D A (wd_69 h0 a1 a2 a3 q39 a4 b0 b1 b2 b3 cA40) := hD
  refine lv_aload_n hx hb dX5_init_51 rfl (lv_at hl 0 rfl) ?_
  refine lv_aload hx hb dX5_init_52 (lv_at hl 4 rfl) ?_
  refine va_putF (D := (dC, dI)) (ci := 5) (v := .ref a4) (ty := tyX5 3) (C := RX5) (T := TX5) (N := 11) hx hb hts i_X5 tyX5 tyX5_ok nmX5 hown hK hP hD hS 0 rfl rfl 3 (by decide) (hts _ q_1370) (fun _ h9 => h9) rfl hin rfl (tyX5_ok 3 (by decide)) rfl rfl (Nat.le_of_ble_eq_true rfl) dX5_init_54 (fun H locs hP hD hS => ?_)
  have hP : va_P (dC, dI) vwCl (wd_70 h0 a1 a2 a3 a4 q39 b0 b1 b2 b3 cA40) H := hP
  have hD : va_D A (wd_70 h0 a1 a2 a3 a4 q39 b0 b1 b2 b3 cA40) := hD
  refine lv_aload_n hx hb dX5_init_57 rfl (lv_at hl 0 rfl) ?_
  refine lv_aload hx hb dX5_init_58 (lv_at hl 4 rfl) ?_
  refine va_get (D := (dC, dI)) (ci := 4) (v := .ref b2) (C := RX4) (T := TX4) (N := 6) hx hb hts i_X4 hown hK hP 1 rfl rfl 2 (by decide) (hts _ q_1371) (fun _ h9 => h9) rfl dX5_init_60 ?_
  refine va_putF (D := (dC, dI)) (ci := 5) (v := .ref b2) (ty := tyX5 4) (C := RX5) (T := TX5) (N := 11) hx hb hts i_X5 tyX5 tyX5_ok nmX5 hown hK hP hD hS 0 rfl rfl 4 (by decide) (hts _ q_1347) (fun _ h9 => h9) rfl hin rfl (tyX5_ok 4 (by decide)) rfl rfl (Nat.le_of_ble_eq_true rfl) dX5_init_63 (fun H locs hP hD hS => ?_)
  have hP : va_P (dC, dI) vwCl (wd_71 h0 a1 a2 a3 a4 b2 q39 b0 b1 b3 cA40) H := hP
  have hD : va_D A (wd_71 h0 a1 a2 a3 a4 b2 q39 b0 b1 b3 cA40) := hD
  refine W.widen (k := 1) (n := 4) (Nat.le_of_ble_eq_true rfl) (Nat.le_of_ble_eq_true rfl) ?_
  have hP9 := hP.sub (ws' := (wd_71 h0 a1 a2 a3 a4 b2 q39 b0 b1 b3 cA40)) [0, 1, 2] rfl
  have hD9 := hD.sub (ws' := (wd_71 h0 a1 a2 a3 a4 b2 q39 b0 b1 b3 cA40)) [0, 1, 2] (by decide) rfl
  have hK9 := hK.sub (tys' := [(cA40, .int)]) [0] rfl
  exact W.vret hx hb hr (fun t ht hW => ⟨⟨(), rfl, trivial, q39, cA40, by rw [ht]; exact hP9, va_K.moved hW.alike hK9, hD9⟩, hS.F ht⟩) hS.2.2 dX5_init_66
def wd_73 (h0 : Nat) (q41 : Nat) : va_W := [(h0, .inr (6, [.null, .null, .null, .null, .int 0, .null, .int 0, .int 0, .int 0, .null, .null])), (q41, .inr (8, [.int 0, .int 0, .int 0, .null, .int 0, .int 0, .null, .int 0, .int 0, .int 0, .int 0, .int 0, .int 0, .null]))]
def wd_74 (q41 : Nat) : va_W := [(q41, .inr (8, [.int 0, .int 0, .int 0, .null, .int 0, .int 0, .null, .int 0, .int 0, .int 0, .int 0, .int 0, .int 0, .null]))]
def wd_75 (h0 : Nat) : va_W := [(h0, .inr (6, [.null, .null, .null, .null, .int 0, .null, .int 0, .int 0, .int 0, .null, .null]))]
def wd_76 (q41 : Nat) (q43 : Nat) (q44 : Nat) (q45 : Nat) (cA46 : ClassId) (cA47 : ClassId) (cA48 : ClassId) : va_W := [(q41, .inr (8, [.int 0, .int 0, .int 0, .ref q43, .int 0, .int 0, .ref q44, .int 0, .int 0, .int 0, .int 0, .int 0, .int 0, .ref q45])), (q43, .inl (cA46, 168, .inl (fun _ => 0))), (q44, .inl (cA47, 160, .inl (fun _ => 0))), (q45, .inl (cA48, 80, .inl (fun _ => 0)))]
def wd_77 (h0 : Nat) (q41 : Nat) (q43 : Nat) (q44 : Nat) (q45 : Nat) (cA46 : ClassId) (cA47 : ClassId) (cA48 : ClassId) : va_W := [(h0, .inr (6, [.null, .null, .null, .null, .int 0, .null, .int 0, .int 0, .int 0, .null, .null])), (q41, .inr (8, [.int 0, .int 0, .int 0, .ref q43, .int 0, .int 0, .ref q44, .int 0, .int 0, .int 0, .int 0, .int 0, .int 0, .ref q45])), (q43, .inl (cA46, 168, .inl (fun _ => 0))), (q44, .inl (cA47, 160, .inl (fun _ => 0))), (q45, .inl (cA48, 80, .inl (fun _ => 0)))]
def wd_78 (h0 : Nat) (q41 : Nat) (q43 : Nat) (q44 : Nat) (q45 : Nat) (cA46 : ClassId) (cA47 : ClassId) (cA48 : ClassId) : va_W := [(h0, .inr (6, [.null, .ref q41, .null, .null, .int 0, .null, .int 0, .int 0, .int 0, .null, .null])), (q41, .inr (8, [.int 0, .int 0, .int 0, .ref q43, .int 0, .int 0, .ref q44, .int 0, .int 0, .int 0, .int 0, .int 0, .int 0, .ref q45])), (q43, .inl (cA46, 168, .inl (fun _ => 0))), (q44, .inl (cA47, 160, .inl (fun _ => 0))), (q45, .inl (cA48, 80, .inl (fun _ => 0)))]
def wd_79 (h0 : Nat) (q41 : Nat) (q43 : Nat) (q44 : Nat) (q45 : Nat) (cA46 : ClassId) (cA47 : ClassId) (cA48 : ClassId) (q49 : Nat) (cA50 : ClassId) : va_W := [(h0, .inr (6, [.null, .ref q41, .null, .null, .int 0, .null, .int 0, .int 0, .int 0, .null, .null])), (q41, .inr (8, [.int 0, .int 0, .int 0, .ref q43, .int 0, .int 0, .ref q44, .int 0, .int 0, .int 0, .int 0, .int 0, .int 0, .ref q45])), (q43, .inl (cA46, 168, .inl (fun _ => 0))), (q44, .inl (cA47, 160, .inl (fun _ => 0))), (q45, .inl (cA48, 80, .inl (fun _ => 0))), (q49, .inl (cA50, 16, .inl (fun _ => 0)))]
def wd_80 (h0 : Nat) (q41 : Nat) (q49 : Nat) (q43 : Nat) (q44 : Nat) (q45 : Nat) (cA46 : ClassId) (cA47 : ClassId) (cA48 : ClassId) (cA50 : ClassId) : va_W := [(h0, .inr (6, [.null, .ref q41, .ref q49, .null, .int 0, .null, .int 0, .int 0, .int 0, .null, .null])), (q41, .inr (8, [.int 0, .int 0, .int 0, .ref q43, .int 0, .int 0, .ref q44, .int 0, .int 0, .int 0, .int 0, .int 0, .int 0, .ref q45])), (q43, .inl (cA46, 168, .inl (fun _ => 0))), (q44, .inl (cA47, 160, .inl (fun _ => 0))), (q45, .inl (cA48, 80, .inl (fun _ => 0))), (q49, .inl (cA50, 16, .inl (fun _ => 0)))]
def wd_81 (h0 : Nat) (q41 : Nat) (q49 : Nat) (q43 : Nat) (q44 : Nat) (q45 : Nat) (cA46 : ClassId) (cA47 : ClassId) (cA48 : ClassId) (cA50 : ClassId) (q51 : Nat) (cA52 : ClassId) : va_W := [(h0, .inr (6, [.null, .ref q41, .ref q49, .null, .int 0, .null, .int 0, .int 0, .int 0, .null, .null])), (q41, .inr (8, [.int 0, .int 0, .int 0, .ref q43, .int 0, .int 0, .ref q44, .int 0, .int 0, .int 0, .int 0, .int 0, .int 0, .ref q45])), (q43, .inl (cA46, 168, .inl (fun _ => 0))), (q44, .inl (cA47, 160, .inl (fun _ => 0))), (q45, .inl (cA48, 80, .inl (fun _ => 0))), (q49, .inl (cA50, 16, .inl (fun _ => 0))), (q51, .inl (cA52, 16, .inl (fun _ => 0)))]
def wd_82 (h0 : Nat) (q41 : Nat) (q49 : Nat) (q51 : Nat) (q43 : Nat) (q44 : Nat) (q45 : Nat) (cA46 : ClassId) (cA47 : ClassId) (cA48 : ClassId) (cA50 : ClassId) (cA52 : ClassId) : va_W := [(h0, .inr (6, [.null, .ref q41, .ref q49, .ref q51, .int 0, .null, .int 0, .int 0, .int 0, .null, .null])), (q41, .inr (8, [.int 0, .int 0, .int 0, .ref q43, .int 0, .int 0, .ref q44, .int 0, .int 0, .int 0, .int 0, .int 0, .int 0, .ref q45])), (q43, .inl (cA46, 168, .inl (fun _ => 0))), (q44, .inl (cA47, 160, .inl (fun _ => 0))), (q45, .inl (cA48, 80, .inl (fun _ => 0))), (q49, .inl (cA50, 16, .inl (fun _ => 0))), (q51, .inl (cA52, 16, .inl (fun _ => 0)))]
def wd_83 (h0 : Nat) (q41 : Nat) (q49 : Nat) (q51 : Nat) (q43 : Nat) (q44 : Nat) (q45 : Nat) (cA46 : ClassId) (cA47 : ClassId) (cA48 : ClassId) (cA50 : ClassId) (cA52 : ClassId) (q53 : Nat) (cA54 : ClassId) : va_W := [(h0, .inr (6, [.null, .ref q41, .ref q49, .ref q51, .int 0, .null, .int 0, .int 0, .int 0, .null, .null])), (q41, .inr (8, [.int 0, .int 0, .int 0, .ref q43, .int 0, .int 0, .ref q44, .int 0, .int 0, .int 0, .int 0, .int 0, .int 0, .ref q45])), (q43, .inl (cA46, 168, .inl (fun _ => 0))), (q44, .inl (cA47, 160, .inl (fun _ => 0))), (q45, .inl (cA48, 80, .inl (fun _ => 0))), (q49, .inl (cA50, 16, .inl (fun _ => 0))), (q51, .inl (cA52, 16, .inl (fun _ => 0))), (q53, .inl (cA54, 331, .inl (fun _ => 0)))]
def wd_84 (h0 : Nat) (q41 : Nat) (q49 : Nat) (q51 : Nat) (q53 : Nat) (q43 : Nat) (q44 : Nat) (q45 : Nat) (cA46 : ClassId) (cA47 : ClassId) (cA48 : ClassId) (cA50 : ClassId) (cA52 : ClassId) (cA54 : ClassId) : va_W := [(h0, .inr (6, [.null, .ref q41, .ref q49, .ref q51, .int 0, .ref q53, .int 0, .int 0, .int 0, .null, .null])), (q41, .inr (8, [.int 0, .int 0, .int 0, .ref q43, .int 0, .int 0, .ref q44, .int 0, .int 0, .int 0, .int 0, .int 0, .int 0, .ref q45])), (q43, .inl (cA46, 168, .inl (fun _ => 0))), (q44, .inl (cA47, 160, .inl (fun _ => 0))), (q45, .inl (cA48, 80, .inl (fun _ => 0))), (q49, .inl (cA50, 16, .inl (fun _ => 0))), (q51, .inl (cA52, 16, .inl (fun _ => 0))), (q53, .inl (cA54, 331, .inl (fun _ => 0)))]
def wd_85 (h0 : Nat) (q41 : Nat) (q49 : Nat) (q51 : Nat) (q53 : Nat) (q43 : Nat) (q44 : Nat) (q45 : Nat) (cA46 : ClassId) (cA47 : ClassId) (cA48 : ClassId) (cA50 : ClassId) (cA52 : ClassId) (cA54 : ClassId) : va_W := [(h0, .inr (6, [.null, .ref q41, .ref q49, .ref q51, .int 0, .ref q53, .int 0, .int (-1), .int 0, .null, .null])), (q41, .inr (8, [.int 0, .int 0, .int 0, .ref q43, .int 0, .int 0, .ref q44, .int 0, .int 0, .int 0, .int 0, .int 0, .int 0, .ref q45])), (q43, .inl (cA46, 168, .inl (fun _ => 0))), (q44, .inl (cA47, 160, .inl (fun _ => 0))), (q45, .inl (cA48, 80, .inl (fun _ => 0))), (q49, .inl (cA50, 16, .inl (fun _ => 0))), (q51, .inl (cA52, 16, .inl (fun _ => 0))), (q53, .inl (cA54, 331, .inl (fun _ => 0)))]
def wd_86 (h0 : Nat) (q41 : Nat) (q49 : Nat) (q51 : Nat) (q53 : Nat) (q43 : Nat) (q44 : Nat) (q45 : Nat) (cA46 : ClassId) (cA47 : ClassId) (cA48 : ClassId) (cA50 : ClassId) (cA52 : ClassId) (cA54 : ClassId) : va_W := [(h0, .inr (6, [.null, .ref q41, .ref q49, .ref q51, .int 0, .ref q53, .int 0, .int (-1), .int (-1), .null, .null])), (q41, .inr (8, [.int 0, .int 0, .int 0, .ref q43, .int 0, .int 0, .ref q44, .int 0, .int 0, .int 0, .int 0, .int 0, .int 0, .ref q45])), (q43, .inl (cA46, 168, .inl (fun _ => 0))), (q44, .inl (cA47, 160, .inl (fun _ => 0))), (q45, .inl (cA48, 80, .inl (fun _ => 0))), (q49, .inl (cA50, 16, .inl (fun _ => 0))), (q51, .inl (cA52, 16, .inl (fun _ => 0))), (q53, .inl (cA54, 331, .inl (fun _ => 0)))]
def wd_87 (h0 : Nat) (a1 : Nat) (q41 : Nat) (q49 : Nat) (q51 : Nat) (q53 : Nat) (q43 : Nat) (q44 : Nat) (q45 : Nat) (cA46 : ClassId) (cA47 : ClassId) (cA48 : ClassId) (cA50 : ClassId) (cA52 : ClassId) (cA54 : ClassId) : va_W := [(h0, .inr (6, [.ref a1, .ref q41, .ref q49, .ref q51, .int 0, .ref q53, .int 0, .int (-1), .int (-1), .null, .null])), (q41, .inr (8, [.int 0, .int 0, .int 0, .ref q43, .int 0, .int 0, .ref q44, .int 0, .int 0, .int 0, .int 0, .int 0, .int 0, .ref q45])), (q43, .inl (cA46, 168, .inl (fun _ => 0))), (q44, .inl (cA47, 160, .inl (fun _ => 0))), (q45, .inl (cA48, 80, .inl (fun _ => 0))), (q49, .inl (cA50, 16, .inl (fun _ => 0))), (q51, .inl (cA52, 16, .inl (fun _ => 0))), (q53, .inl (cA54, 331, .inl (fun _ => 0)))]
set_option maxHeartbeats 4000000 in
set_option maxRecDepth 100000 in
theorem K_X6_init (l : Launch) (dC : Nat → ClassId) (dI : Nat → Nat → Nat) (h0 : Nat) (a1 : Nat) (sz : Nat) : Met l yX6_init (Cond.code yX6_init cX6_init 2 none :: wA) ({ frames := 2, cells := 7, slots := 785, locals := 32 }) (va_Pc [.ref h0, .ref a1] (fun U => U.heap.size = sz ∧ va_P (dC, dI) vwCl (wd_75 h0) U.heap ∧ va_K (dC, dI) vwCl [] U ∧ va_D (fun _ => True) (wd_75 h0) ∧ va_Nw (.methodLinkNest RX6 11 yX8_init "CellSlide") U)) (va_Qv (fun (_ : Unit) => True) (fun _ t => ∃ q41 : Nat, ∃ q49 : Nat, ∃ q51 : Nat, ∃ q53 : Nat, ∃ q43 : Nat, ∃ q44 : Nat, ∃ q45 : Nat, ∃ cA46 : ClassId, ∃ cA47 : ClassId, ∃ cA48 : ClassId, ∃ cA50 : ClassId, ∃ cA52 : ClassId, ∃ cA54 : ClassId, va_P (dC, dI) vwCl (wd_87 h0 a1 q41 q49 q51 q53 q43 q44 q45 cA46 cA47 cA48 cA50 cA52 cA54) t.heap ∧ va_K (dC, dI) vwCl [(cA46, .int), (cA47, .int), (cA48, .int), (cA50, .int), (cA52, .int), (cA54, .int)] t ∧ va_D (va_A (wd_75 h0) sz) (wd_87 h0 a1 q41 q49 q51 q53 q43 q44 q45 cA46 cA47 cA48 cA50 cA52 cA54)) (va_A (wd_75 h0) sz)) 7 785 (va_A (wd_75 h0) sz) := by
  refine Met.ofW (cc := cX6_init) (maxL := 2) (ret := none) (by decide) rfl ?_
  intro p e s m args below meth c s₁ B hml hv
  obtain ⟨rfl, hsz, hP, hK, hD0, hN⟩ := hv
  have hx := B.exec
  have hb := B.bytes
  have hr := B.returns
  have hts : ∀ w ∈ wA, w.before [.ref h0, .ref a1].toArray s = true := fun w h => atoms_spec (ws := Cond.code yX6_init cX6_init 2 none :: wA) B.pre w (List.mem_cons_of_mem _ h)
  have hown : s.vm.findClass RX6 = some m.cls := findClass_of_methodNamed B.named
  have hlocks := B.notSynchronized
  have hin : meth.name = "<init>" := (name_of_methodNamed B.named B.method).1
  subst hsz
  have hD := hD0.self (sz := s.heap.size)
  generalize hAe : va_A (wd_75 h0) s.heap.size = A at hD ⊢
  have hA : ∀ q : Nat, s.heap.size ≤ q → A q := fun q h => by rw [← hAe]; exact Or.inr h
  have hS : va_S A s.heap s.heap [] := va_S.rf
  have hl := lv_entry ([.ref h0, .ref a1]) (n := 2) (Nat.le_of_ble_eq_true rfl)
  rw [lg_entry_eq]
  generalize (lg_sl ([.ref h0, .ref a1]) ++ List.replicate (2 - (lg_sl ([.ref h0, .ref a1])).length) Slot.unset).toArray = ls at hl ⊢
  have hl : lv_has ls 2 [(0, .ref h0), (1, .ref a1)] := hl
  refine lv_aload_n hx hb dX6_init_0 rfl (lv_at hl 0 rfl) ?_
  refine W.objInit hx hb hown (hts _ q_1416) (hts _ q_108) (hts _ q_107) rfl (by rw [hml]; exact hl.1) rfl dX6_init_1 (Nat.le_of_ble_eq_true rfl) (Nat.le_of_ble_eq_true rfl) ?_
  refine W.eq (g2 := F0 m 4 ls []) rfl ?_
  refine lv_aload_n hx hb dX6_init_4 rfl (lv_at hl 0 rfl) ?_
  refine va_new (ci := 8) (fs := [.int 0, .int 0, .int 0, .null, .int 0, .int 0, .null, .int 0, .int 0, .int 0, .int 0, .int 0, .int 0, .null]) (C := RX8) (T := TX8) (N := 14) hx hb hts i_X8 tyX8 tyX8_ok hown (hts _ q_1417) (hts _ q_353) (hts _ q_80) hK hP hD hS hA rfl (fun j hj => nd_X8 j hj) (Nat.le_of_ble_eq_true rfl) (Nat.le_of_ble_eq_true rfl) dX6_init_5 (fun q41 H hP hD hS => ?_)
  have hP : va_P (dC, dI) vwCl (wd_73 h0 q41) H := hP
  have hD : va_D A (wd_73 h0 q41) := hD
  refine W.widen (k := 1) (n := 14) (Nat.le_of_ble_eq_true rfl) (Nat.le_of_ble_eq_true rfl) ?_
  refine lv_dup hx hb dX6_init_8 rfl ?_
  have hPc := hP.sub (ws' := (wd_74 q41)) [1] rfl
  have hDc := hD.sub (ws' := (wd_74 q41)) [1] (by decide) rfl
  have hKc := hK.sub (tys' := []) [] rfl
  have hFc := va_free (wc := (wd_74 q41)) hD hS hA [1] rfl
  refine va_callv (va_runIN (As := []) (rest := [.ref q41, .ref h0]) ⟨hx, hb, hml, hown, hts⟩ (K_X8_init l dC dI q41 H.size) ⟨va_cnB 0 hts (gk q_355) rfl rfl rfl hN (hts _ q_80) mds_yX8_init ⟨Nat.le_of_ble_eq_true rfl, Nat.le_of_ble_eq_true rfl⟩, rfl, hts _ q_354⟩ ⟨fun a U g mk q => by obtain ⟨q0, q1, qP, qK, qD⟩ := q; exact ⟨q0, q1, qP, va_K.moved (u := U) (U := U.calling g mk a) (Vm.Alike.refl U.vm) qK, qD⟩, fun U hU hW => ⟨rfl, by rw [hU], by rw [hU]; exact hPc, va_K.moved hW.alike hKc, hDc.weaken (fun _ _ _ _ => trivial)⟩⟩ rfl rfl hl.1 rfl (lv_room (Nat.le_of_ble_eq_true rfl)) dX6_init_9 ⟨Nat.le_of_ble_eq_true rfl, Nat.le_of_ble_eq_true rfl⟩) hS (fun q _ h => hFc q h) hFc (fun u t H1 locs ht hvm hw hB hz1 hk1 hS => ?_)
  obtain ⟨q43, q44, q45, cA46, cA47, cA48, hP1, hK1, hD1⟩ := hB
  rw [ht] at hP1
  have hK1 := va_K.moved hvm.symm hK1
  obtain ⟨hP, hD⟩ := va_join (wr := (wd_75 h0)) (w1 := (wd_76 q41 q43 q44 q45 cA46 cA47 cA48)) hP hD [1] [0] rfl rfl (by decide) (by decide) hk1 hFc hP1 hD1
  have hK := (hK.sub (tys' := []) [] rfl).app hK1
  have hK : va_K (dC, dI) vwCl [(cA46, .int), (cA47, .int), (cA48, .int)] s := hK
  generalize H1 = H at hP hS ⊢
  have hP : va_P (dC, dI) vwCl (wd_77 h0 q41 q43 q44 q45 cA46 cA47 cA48) H := hP
  have hD : va_D A (wd_77 h0 q41 q43 q44 q45 cA46 cA47 cA48) := hD
  refine W.widen (k := 4) (n := 422) (Nat.le_of_ble_eq_true rfl) (Nat.le_of_ble_eq_true rfl) ?_
  refine va_putF (D := (dC, dI)) (ci := 6) (v := .ref q41) (ty := tyX6 1) (C := RX6) (T := TX6) (N := 11) hx hb hts i_X6 tyX6 tyX6_ok nmX6 hown hK hP hD hS 0 rfl rfl 1 (by decide) (hts _ q_1418) (fun _ h9 => h9) rfl hin rfl (tyX6_ok 1 (by decide)) rfl rfl (Nat.le_of_ble_eq_true rfl) dX6_init_12 (fun H locs hP hD hS => ?_)
  have hP : va_P (dC, dI) vwCl (wd_78 h0 q41 q43 q44 q45 cA46 cA47 cA48) H := hP
  have hD : va_D A (wd_78 h0 q41 q43 q44 q45 cA46 cA47 cA48) := hD
  refine lv_aload_n hx hb dX6_init_15 rfl (lv_at hl 0 rfl) ?_
  refine lv_bipush (v := 16) hx hb dX6_init_16 (by decide) ?_
  refine va_newa (atype := .int) (ty := .int) (n := 16) (N' := 16) (a0 := (16, .inl fun _ => 0)) hx hb (hts _ q_121) rfl hK hP hD hS hA (fun _ => rfl) (by decide) (by decide) (Nat.le_of_ble_eq_true rfl) (Nat.le_of_ble_eq_true rfl) (Nat.le_of_ble_eq_true rfl) dX6_init_18 (fun q49 cA50 H hK hP hD hS => ?_)
  have hK : va_K (dC, dI) vwCl [(cA46, .int), (cA47, .int), (cA48, .int), (cA50, .int)] s := hK
  have hP : va_P (dC, dI) vwCl (wd_79 h0 q41 q43 q44 q45 cA46 cA47 cA48 q49 cA50) H := hP
  have hD : va_D A (wd_79 h0 q41 q43 q44 q45 cA46 cA47 cA48 q49 cA50) := hD
  refine W.widen (k := 5) (n := 438) (Nat.le_of_ble_eq_true rfl) (Nat.le_of_ble_eq_true rfl) ?_
  refine va_putF (D := (dC, dI)) (ci := 6) (v := .ref q49) (ty := tyX6 2) (C := RX6) (T := TX6) (N := 11) hx hb hts i_X6 tyX6 tyX6_ok nmX6 hown hK hP hD hS 0 rfl rfl 2 (by decide) (hts _ q_1419) (fun _ h9 => h9) rfl hin rfl (tyX6_ok 2 (by decide)) rfl rfl (Nat.le_of_ble_eq_true rfl) dX6_init_20 (fun H locs hP hD hS => ?_)
  have hP : va_P (dC, dI) vwCl (wd_80 h0 q41 q49 q43 q44 q45 cA46 cA47 cA48 cA50) H := hP
  have hD : va_D A (wd_80 h0 q41 q49 q43 q44 q45 cA46 cA47 cA48 cA50) := hD
  refine lv_aload_n hx hb dX6_init_23 rfl (lv_at hl 0 rfl) ?_
  refine lv_bipush (v := 16) hx hb dX6_init_24 (by decide) ?_
  refine va_newa (atype := .int) (ty := .int) (n := 16) (N' := 16) (a0 := (16, .inl fun _ => 0)) hx hb (hts _ q_121) rfl hK hP hD hS hA (fun _ => rfl) (by decide) (by decide) (Nat.le_of_ble_eq_true rfl) (Nat.le_of_ble_eq_true rfl) (Nat.le_of_ble_eq_true rfl) dX6_init_26 (fun q51 cA52 H hK hP hD hS => ?_)
  have hK : va_K (dC, dI) vwCl [(cA46, .int), (cA47, .int), (cA48, .int), (cA50, .int), (cA52, .int)] s := hK
  have hP : va_P (dC, dI) vwCl (wd_81 h0 q41 q49 q43 q44 q45 cA46 cA47 cA48 cA50 q51 cA52) H := hP
  have hD : va_D A (wd_81 h0 q41 q49 q43 q44 q45 cA46 cA47 cA48 cA50 q51 cA52) := hD
  refine W.widen (k := 6) (n := 454) (Nat.le_of_ble_eq_true rfl) (Nat.le_of_ble_eq_true rfl) ?_
  refine va_putF (D := (dC, dI)) (ci := 6) (v := .ref q51) (ty := tyX6 3) (C := RX6) (T := TX6) (N := 11) hx hb hts i_X6 tyX6 tyX6_ok nmX6 hown hK hP hD hS 0 rfl rfl 3 (by decide) (hts _ q_1420) (fun _ h9 => h9) rfl hin rfl (tyX6_ok 3 (by decide)) rfl rfl (Nat.le_of_ble_eq_true rfl) dX6_init_28 (fun H locs hP hD hS => ?_)
  have hP : va_P (dC, dI) vwCl (wd_82 h0 q41 q49 q51 q43 q44 q45 cA46 cA47 cA48 cA50 cA52) H := hP
  have hD : va_D A (wd_82 h0 q41 q49 q51 q43 q44 q45 cA46 cA47 cA48 cA50 cA52) := hD
  refine lv_aload_n hx hb dX6_init_31 rfl (lv_at hl 0 rfl) ?_
  refine lv_iconst (v := 0) hx hb dX6_init_32 (by decide) ?_
  refine va_put (D := (dC, dI)) (ci := 6) (v := .int 0) (ty := tyX6 4) (C := RX6) (T := TX6) (N := 11) hx hb hts i_X6 tyX6 tyX6_ok nmX6 hown hK hP hD hS 0 rfl rfl 4 (by decide) (hts _ q_1421) (fun _ h9 => h9) rfl (tyX6_ok 4 (by decide)) rfl rfl (Nat.le_of_ble_eq_true rfl) dX6_init_33 (fun H locs hP hD hS => ?_)
  have hP : va_P (dC, dI) vwCl (wd_82 h0 q41 q49 q51 q43 q44 q45 cA46 cA47 cA48 cA50 cA52) H := hP
  have hD : va_D A (wd_82 h0 q41 q49 q51 q43 q44 q45 cA46 cA47 cA48 cA50 cA52) := hD
  refine lv_aload_n hx hb dX6_init_36 rfl (lv_at hl 0 rfl) ?_
  refine lv_sipush (v := 331) hx hb dX6_init_37 (by decide) ?_
  refine va_newa (atype := .int) (ty := .int) (n := 331) (N' := 331) (a0 := (331, .inl fun _ => 0)) hx hb (hts _ q_121) rfl hK hP hD hS hA (fun _ => rfl) (by decide) (by decide) (Nat.le_of_ble_eq_true rfl) (Nat.le_of_ble_eq_true rfl) (Nat.le_of_ble_eq_true rfl) dX6_init_40 (fun q53 cA54 H hK hP hD hS => ?_)
  have hK : va_K (dC, dI) vwCl [(cA46, .int), (cA47, .int), (cA48, .int), (cA50, .int), (cA52, .int), (cA54, .int)] s := hK
  have hP : va_P (dC, dI) vwCl (wd_83 h0 q41 q49 q51 q43 q44 q45 cA46 cA47 cA48 cA50 cA52 q53 cA54) H := hP
  have hD : va_D A (wd_83 h0 q41 q49 q51 q43 q44 q45 cA46 cA47 cA48 cA50 cA52 q53 cA54) := hD
  refine W.widen (k := 7) (n := 785) (Nat.le_of_ble_eq_true rfl) (Nat.le_of_ble_eq_true rfl) ?_
  refine va_putF (D := (dC, dI)) (ci := 6) (v := .ref q53) (ty := tyX6 5) (C := RX6) (T := TX6) (N := 11) hx hb hts i_X6 tyX6 tyX6_ok nmX6 hown hK hP hD hS 0 rfl rfl 5 (by decide) (hts _ q_1422) (fun _ h9 => h9) rfl hin rfl (tyX6_ok 5 (by decide)) rfl rfl (Nat.le_of_ble_eq_true rfl) dX6_init_42 (fun H locs hP hD hS => ?_)
  have hP : va_P (dC, dI) vwCl (wd_84 h0 q41 q49 q51 q53 q43 q44 q45 cA46 cA47 cA48 cA50 cA52 cA54) H := hP
  have hD : va_D A (wd_84 h0 q41 q49 q51 q53 q43 q44 q45 cA46 cA47 cA48 cA50 cA52 cA54) := hD
  refine lv_aload_n hx hb dX6_init_45 rfl (lv_at hl 0 rfl) ?_
  refine lv_iconst (v := 0) hx hb dX6_init_46 (by decide) ?_
  refine va_put (D := (dC, dI)) (ci := 6) (v := .int 0) (ty := tyX6 6) (C := RX6) (T := TX6) (N := 11) hx hb hts i_X6 tyX6 tyX6_ok nmX6 hown hK hP hD hS 0 rfl rfl 6 (by decide) (hts _ q_1423) (fun _ h9 => h9) rfl (tyX6_ok 6 (by decide)) rfl rfl (Nat.le_of_ble_eq_true rfl) dX6_init_47 (fun H locs hP hD hS => ?_)
  have hP : va_P (dC, dI) vwCl (wd_84 h0 q41 q49 q51 q53 q43 q44 q45 cA46 cA47 cA48 cA50 cA52 cA54) H := hP
  have hD : va_D A (wd_84 h0 q41 q49 q51 q53 q43 q44 q45 cA46 cA47 cA48 cA50 cA52 cA54) := hD
  refine lv_aload_n hx hb dX6_init_50 rfl (lv_at hl 0 rfl) ?_
  refine lv_iconst (v := (-1)) hx hb dX6_init_51 (by decide) ?_
  refine va_put (D := (dC, dI)) (ci := 6) (v := .int (-1)) (ty := tyX6 7) (C := RX6) (T := TX6) (N := 11) hx hb hts i_X6 tyX6 tyX6_ok nmX6 hown hK hP hD hS 0 rfl rfl 7 (by decide) (hts _ q_1424) (fun _ h9 => h9) rfl (tyX6_ok 7 (by decide)) rfl rfl (Nat.le_of_ble_eq_true rfl) dX6_init_52 (fun H locs hP hD hS => ?_)
  have hP : va_P (dC, dI) vwCl (wd_85 h0 q41 q49 q51 q53 q43 q44 q45 cA46 cA47 cA48 cA50 cA52 cA54) H := hP
  have hD : va_D A (wd_85 h0 q41 q49 q51 q53 q43 q44 q45 cA46 cA47 cA48 cA50 cA52 cA54) := hD
  refine lv_aload_n hx hb dX6_init_55 rfl (lv_at hl 0 rfl) ?_
  refine lv_iconst (v := (-1)) hx hb dX6_init_56 (by decide) ?_
  refine va_put (D := (dC, dI)) (ci := 6) (v := .int (-1)) (ty := tyX6 8) (C := RX6) (T := TX6) (N := 11) hx hb hts i_X6 tyX6 tyX6_ok nmX6 hown hK hP hD hS 0 rfl rfl 8 (by decide) (hts _ q_1425) (fun _ h9 => h9) rfl (tyX6_ok 8 (by decide)) rfl rfl (Nat.le_of_ble_eq_true rfl) dX6_init_57 (fun H locs hP hD hS => ?_)
  have hP : va_P (dC, dI) vwCl (wd_86 h0 q41 q49 q51 q53 q43 q44 q45 cA46 cA47 cA48 cA50 cA52 cA54) H := hP
  have hD : va_D A (wd_86 h0 q41 q49 q51 q53 q43 q44 q45 cA46 cA47 cA48 cA50 cA52 cA54) := hD
  refine lv_aload_n hx hb dX6_init_60 rfl (lv_at hl 0 rfl) ?_
  refine lv_null hx hb dX6_init_61 ?_
  refine va_put (D := (dC, dI)) (ci := 6) (v := .null) (ty := tyX6 9) (C := RX6) (T := TX6) (N := 11) hx hb hts i_X6 tyX6 tyX6_ok nmX6 hown hK hP hD hS 0 rfl rfl 9 (by decide) (hts _ q_1426) (fun _ h9 => h9) rfl (tyX6_ok 9 (by decide)) rfl rfl (Nat.le_of_ble_eq_true rfl) dX6_init_62 (fun H locs hP hD hS => ?_)
  have hP : va_P (dC, dI) vwCl (wd_86 h0 q41 q49 q51 q53 q43 q44 q45 cA46 cA47 cA48 cA50 cA52 cA54) H := hP
  have hD : va_D A (wd_86 h0 q41 q49 q51 q53 q43 q44 q45 cA46 cA47 cA48 cA50 cA52 cA54) := hD
  refine lv_aload_n hx hb dX6_init_65 rfl (lv_at hl 0 rfl) ?_
  refine lv_null hx hb dX6_init_66 ?_
  refine va_put (D := (dC, dI)) (ci := 6) (v := .null) (ty := tyX6 10) (C := RX6) (T := TX6) (N := 11) hx hb hts i_X6 tyX6 tyX6_ok nmX6 hown hK hP hD hS 0 rfl rfl 10 (by decide) (hts _ q_1427) (fun _ h9 => h9) rfl (tyX6_ok 10 (by decide)) rfl rfl (Nat.le_of_ble_eq_true rfl) dX6_init_67 (fun H locs hP hD hS => ?_)
  have hP : va_P (dC, dI) vwCl (wd_86 h0 q41 q49 q51 q53 q43 q44 q45 cA46 cA47 cA48 cA50 cA52 cA54) H := hP
  have hD : va_D A (wd_86 h0 q41 q49 q51 q53 q43 q44 q45 cA46 cA47 cA48 cA50 cA52 cA54) := hD
  refine lv_aload_n hx hb dX6_init_70 rfl (lv_at hl 0 rfl) ?_
  refine lv_aload_n hx hb dX6_init_71 rfl (lv_at hl 1 rfl) ?_
  refine va_putF (D := (dC, dI)) (ci := 6) (v := .ref a1) (ty := tyX6 0) (C := RX6) (T := TX6) (N := 11) hx hb hts i_X6 tyX6 tyX6_ok nmX6 hown hK hP hD hS 0 rfl rfl 0 (by decide) (hts _ q_1428) (fun _ h9 => h9) rfl hin rfl (tyX6_ok 0 (by decide)) rfl rfl (Nat.le_of_ble_eq_true rfl) dX6_init_72 (fun H locs hP hD hS => ?_)
  have hP : va_P (dC, dI) vwCl (wd_87 h0 a1 q41 q49 q51 q53 q43 q44 q45 cA46 cA47 cA48 cA50 cA52 cA54) H := hP
  have hD : va_D A (wd_87 h0 a1 q41 q49 q51 q53 q43 q44 q45 cA46 cA47 cA48 cA50 cA52 cA54) := hD
  refine W.widen (k := 7) (n := 785) (Nat.le_of_ble_eq_true rfl) (Nat.le_of_ble_eq_true rfl) ?_
  have hP9 := hP.sub (ws' := (wd_87 h0 a1 q41 q49 q51 q53 q43 q44 q45 cA46 cA47 cA48 cA50 cA52 cA54)) [0, 1, 2, 3, 4, 5, 6, 7] rfl
  have hD9 := hD.sub (ws' := (wd_87 h0 a1 q41 q49 q51 q53 q43 q44 q45 cA46 cA47 cA48 cA50 cA52 cA54)) [0, 1, 2, 3, 4, 5, 6, 7] (by decide) rfl
  have hK9 := hK.sub (tys' := [(cA46, .int), (cA47, .int), (cA48, .int), (cA50, .int), (cA52, .int), (cA54, .int)]) [0, 1, 2, 3, 4, 5] rfl
  exact W.vret hx hb hr (fun t ht hW => ⟨⟨(), rfl, trivial, q41, q49, q51, q53, q43, q44, q45, cA46, cA47, cA48, cA50, cA52, cA54, by rw [ht]; exact hP9, va_K.moved hW.alike hK9, hD9⟩, hS.F ht⟩) hS.2.2 dX6_init_75
