def wd_759 (rm : Nat → Nat) (km : Nat → ClassId) (f : Nat → Int32) : va_W := [((rm 0), .inr (12, [.ref (rm 1), .int 0, .int 0, .int 0, .int 0, .int 0, .int 0, .int 0, .int (-1), .ref (rm 2), .ref (rm 3), .ref (rm 4), .ref (rm 5), .ref (rm 6), .ref (rm 7), .ref (rm 8), .ref (rm 9), .ref (rm 10), .ref (rm 11), .ref (rm 12), .ref (rm 13), .ref (rm 14), .ref (rm 15), .ref (rm 16), .int 0, .int 0, .int 0, .int 0, .int 0, .ref (rm 17), .ref (rm 18), .ref (rm 19), .ref (rm 20), .ref (rm 21), .int 0, .ref (rm 22), .ref (rm 23), .ref (rm 24), .int 0, .int 0, .int 0, .ref (rm 25), .ref (rm 26), .ref (rm 27), .int 0, .ref (rm 28), .ref (rm 29), .int 0, .ref (rm 30), .ref (rm 31), .int 0, .ref (rm 32), .ref (rm 33), .int 0, .ref (rm 34), .ref (rm 35), .int 0, .int 0, .int 0, .ref (rm 36), .ref (rm 37), .int 0, .ref (rm 38), .ref (rm 39), .int 0, .ref (rm 40), .ref (rm 41), .ref (rm 42), .int 0, .int 0, .long 1, .ref (rm 43), .int 0, .int 0, .int (-1), .int 0, .int 0, .int 0, .int 0, .ref (rm 44), .ref (rm 45), .ref (rm 46), .ref (rm 47), .int 0])), ((rm 1), .inl ((km 0), 1600, .inl (fun _ => 0))), ((rm 2), .inl ((km 1), 7, .inl f)), ((rm 22), .inl ((km 2), 422, .inl (fun _ => 0))), ((rm 23), .inl ((km 3), 422, .inl (fun _ => 0)))]
def wd_760 (rm : Nat → Nat) (km : Nat → ClassId) (f1152 : Nat → Int32) : va_W := [((rm 0), .inr (12, [.ref (rm 1), .int 0, .int 0, .int 0, .int 0, .int 0, .int 0, .int 0, .int (-1), .ref (rm 2), .ref (rm 3), .ref (rm 4), .ref (rm 5), .ref (rm 6), .ref (rm 7), .ref (rm 8), .ref (rm 9), .ref (rm 10), .ref (rm 11), .ref (rm 12), .ref (rm 13), .ref (rm 14), .ref (rm 15), .ref (rm 16), .int 0, .int 0, .int 0, .int 0, .int 0, .ref (rm 17), .ref (rm 18), .ref (rm 19), .ref (rm 20), .ref (rm 21), .int 0, .ref (rm 22), .ref (rm 23), .ref (rm 24), .int 0, .int 0, .int 0, .ref (rm 25), .ref (rm 26), .ref (rm 27), .int 0, .ref (rm 28), .ref (rm 29), .int 0, .ref (rm 30), .ref (rm 31), .int 0, .ref (rm 32), .ref (rm 33), .int 0, .ref (rm 34), .ref (rm 35), .int 0, .int 0, .int 0, .ref (rm 36), .ref (rm 37), .int 0, .ref (rm 38), .ref (rm 39), .int 0, .ref (rm 40), .ref (rm 41), .ref (rm 42), .int 0, .int 0, .long 1, .ref (rm 43), .int 0, .int 0, .int (-1), .int 0, .int 0, .int 0, .int 0, .ref (rm 44), .ref (rm 45), .ref (rm 46), .ref (rm 47), .int 0])), ((rm 1), .inl ((km 0), 1600, .inl (fun _ => 0))), ((rm 2), .inl ((km 1), 7, .inl f1152)), ((rm 22), .inl ((km 2), 422, .inl (fun _ => 0))), ((rm 23), .inl ((km 3), 422, .inl (fun _ => 0)))]
def wd_761 (rm : Nat → Nat) (km : Nat → ClassId) (f1155 : Nat → Int32) : va_W := [((rm 0), .inr (12, [.ref (rm 1), .int 0, .int 0, .int 0, .int 0, .int 0, .int 0, .int 0, .int (-1), .ref (rm 2), .ref (rm 3), .ref (rm 4), .ref (rm 5), .ref (rm 6), .ref (rm 7), .ref (rm 8), .ref (rm 9), .ref (rm 10), .ref (rm 11), .ref (rm 12), .ref (rm 13), .ref (rm 14), .ref (rm 15), .ref (rm 16), .int 0, .int 0, .int 0, .int 0, .int 0, .ref (rm 17), .ref (rm 18), .ref (rm 19), .ref (rm 20), .ref (rm 21), .int 0, .ref (rm 22), .ref (rm 23), .ref (rm 24), .int 0, .int 0, .int 0, .ref (rm 25), .ref (rm 26), .ref (rm 27), .int 0, .ref (rm 28), .ref (rm 29), .int 0, .ref (rm 30), .ref (rm 31), .int 0, .ref (rm 32), .ref (rm 33), .int 0, .ref (rm 34), .ref (rm 35), .int 0, .int 0, .int 0, .ref (rm 36), .ref (rm 37), .int 0, .ref (rm 38), .ref (rm 39), .int 0, .ref (rm 40), .ref (rm 41), .ref (rm 42), .int 0, .int 0, .long 1, .ref (rm 43), .int 0, .int 0, .int (-1), .int 0, .int 0, .int 0, .int 0, .ref (rm 44), .ref (rm 45), .ref (rm 46), .ref (rm 47), .int 0])), ((rm 1), .inl ((km 0), 1600, .inl (fun _ => 0))), ((rm 2), .inl ((km 1), 7, .inl f1155)), ((rm 22), .inl ((km 2), 422, .inl (fun _ => 0))), ((rm 23), .inl ((km 3), 422, .inl (fun _ => 0)))]
set_option maxHeartbeats 4000000 in
set_option maxRecDepth 100000 in
theorem c71_X12_isRefused (l : Launch) (dC : Nat → ClassId) (dI : Nat → Nat → Nat) (rm : Nat → Nat) (km : Nat → ClassId) (sz : Nat) : Met l yX12_isRefused (Cond.code yX12_isRefused cX12_isRefused 2 (some .boolean) :: wA) ({ frames := 0, cells := 0, slots := 0, locals := 0 }) (va_Pc [.ref (rm 0), .int 0] (fun U => U.heap.size = sz ∧ va_P (dC, dI) vwCl (wd_758 rm km) U.heap ∧ va_K (dC, dI) vwCl [((km 0), .int), ((km 1), .int), ((km 2), .int), ((km 3), .int)] U ∧ va_D (fun _ => True) (wd_758 rm km))) (va_Qi (fun (r : Int32) (_ : Unit) => r = 0) (fun _ t => ∃ f1155 : Nat → Int32, va_P (dC, dI) vwCl (wd_761 rm km f1155) t.heap ∧ va_K (dC, dI) vwCl [((km 0), .int), ((km 1), .int), ((km 2), .int), ((km 3), .int)] t ∧ va_D (va_A (wd_758 rm km) sz) (wd_761 rm km f1155)) (va_A (wd_758 rm km) sz)) 0 0 (va_A (wd_758 rm km) sz) := by
  refine Met.ofW (cc := cX12_isRefused) (maxL := 2) (ret := (some .boolean)) (by decide) rfl ?_
  intro p e s m args below meth c s₁ B hml hv
  obtain ⟨rfl, hsz, hP, hK, hD0⟩ := hv
  have hx := B.exec
  have hb := B.bytes
  have hr := B.returns
  have hts : ∀ w ∈ wA, w.before [.ref (rm 0), .int 0].toArray s = true := fun w h => atoms_spec (ws := Cond.code yX12_isRefused cX12_isRefused 2 (some .boolean) :: wA) B.pre w (List.mem_cons_of_mem _ h)
  have hown : s.vm.findClass RX12 = some m.cls := findClass_of_methodNamed B.named
  have hlocks := B.notSynchronized
  subst hsz
  have hD := hD0.self (sz := s.heap.size)
  generalize hAe : va_A (wd_758 rm km) s.heap.size = A at hD ⊢
  have hA : ∀ q : Nat, s.heap.size ≤ q → A q := fun q h => by rw [← hAe]; exact Or.inr h
  have hS : va_S A s.heap s.heap [] := va_S.rf
  have hl := lv_entry ([.ref (rm 0), .int 0]) (n := 2) (Nat.le_of_ble_eq_true rfl)
  rw [lg_entry_eq]
  generalize (lg_sl ([.ref (rm 0), .int 0]) ++ List.replicate (2 - (lg_sl ([.ref (rm 0), .int 0])).length) Slot.unset).toArray = ls at hl ⊢
  have hl : lv_has ls 2 [(0, .ref (rm 0)), (1, .int 0)] := hl
  refine lv_aload_n hx hb dX12_isRefused_0 rfl (lv_at hl 0 rfl) ?_
  refine va_get (D := (dC, dI)) (ci := 12) (v := .ref (rm 2)) (C := RX12) (T := TX12) (N := 84) hx hb hts i_X12 hown hK hP 0 rfl rfl 9 (by decide) (hts _ q_189) (fun _ h9 => h9) rfl dX12_isRefused_1 ?_
  refine lv_iload_n hx hb dX12_isRefused_4 rfl (lv_at hl 1 rfl) ?_
  refine lv_dup2_11 hx hb dX12_isRefused_5 rfl rfl ?_
  refine va_iald hx hb hK hP 2 1 rfl rfl (vpi (by decide)) dX12_isRefused_6 ?_
  refine lv_topi (fun x_1153 ex_1153 => ?_)
  obtain rfl : x_1153 = 0 := ex_1153
  refine lv_iconst (v := 1) hx hb dX12_isRefused_7 (by decide) ?_
  refine lv_iadd hx hb dX12_isRefused_8 ?_
  refine lv_topi (fun x_1154 ex_1154 => ?_)
  obtain rfl : x_1154 = 1 := ex_1154.trans (by decide)
  refine va_iast hx hb hK hP hD hS 2 1 rfl rfl (vpi (by decide)) dX12_isRefused_9 (fun H locs hP hD hS => ?_)
  obtain ⟨f1155, hP, hD⟩ : ∃ f : Nat → Int32, va_P (dC, dI) vwCl (wd_759 rm km f) H ∧ va_D A (wd_759 rm km f) := ⟨_, hP, hD⟩
  have hP : va_P (dC, dI) vwCl (wd_761 rm km f1155) H := hP
  have hD : va_D A (wd_761 rm km f1155) := hD
  refine lv_iconst (v := 0) hx hb dX12_isRefused_10 (by decide) ?_
  refine W.widen (k := 0) (n := 0) (Nat.le_of_ble_eq_true rfl) (Nat.le_of_ble_eq_true rfl) ?_
  have hP9 := hP.sub (ws' := (wd_761 rm km f1155)) [0, 1, 2, 3, 4] rfl
  have hD9 := hD.sub (ws' := (wd_761 rm km f1155)) [0, 1, 2, 3, 4] (by decide) rfl
  have hK9 := hK.sub (tys' := [((km 0), .int), ((km 1), .int), ((km 2), .int), ((km 3), .int)]) [0, 1, 2, 3] rfl
  exact W.zret (v := 0) hx hb hr rfl (fun t ht hW => ⟨⟨0, (), rfl, rfl, f1155, by rw [ht]; exact hP9, va_K.moved hW.alike hK9, hD9⟩, hS.F ht⟩) hS.2.2 dX12_isRefused_11
def wd_762 (rm : Nat → Nat) (km : Nat → ClassId) (f1157 : Nat → Int32) : va_W := [((rm 0), .inr (12, [.ref (rm 1), .int 0, .int 0, .int 0, .int 0, .int 0, .int 0, .int 0, .int (-1), .ref (rm 2), .ref (rm 3), .ref (rm 4), .ref (rm 5), .ref (rm 6), .ref (rm 7), .ref (rm 8), .ref (rm 9), .ref (rm 10), .ref (rm 11), .ref (rm 12), .ref (rm 13), .ref (rm 14), .ref (rm 15), .ref (rm 16), .int 0, .int 0, .int 0, .int 0, .int 0, .ref (rm 17), .ref (rm 18), .ref (rm 19), .ref (rm 20), .ref (rm 21), .int 0, .ref (rm 22), .ref (rm 23), .ref (rm 24), .int 0, .int 0, .int 0, .ref (rm 25), .ref (rm 26), .ref (rm 27), .int 0, .ref (rm 28), .ref (rm 29), .int 0, .ref (rm 30), .ref (rm 31), .int 0, .ref (rm 32), .ref (rm 33), .int 0, .ref (rm 34), .ref (rm 35), .int 0, .int 0, .int 0, .ref (rm 36), .ref (rm 37), .int 0, .ref (rm 38), .ref (rm 39), .int 0, .ref (rm 40), .ref (rm 41), .ref (rm 42), .int 0, .int 0, .long 1, .ref (rm 43), .int 0, .int 0, .int (-1), .int 0, .int 0, .int 0, .int 0, .ref (rm 44), .ref (rm 45), .ref (rm 46), .ref (rm 47), .int 0])), ((rm 1), .inl ((km 0), 1600, .inl (fun _ => 0))), ((rm 2), .inl ((km 1), 7, .inl f1157)), ((rm 22), .inl ((km 2), 422, .inl (fun _ => 0))), ((rm 23), .inl ((km 3), 422, .inl (fun _ => 0)))]
def wd_763 (rm : Nat → Nat) (km : Nat → ClassId) (f1160 : Nat → Int32) : va_W := [((rm 0), .inr (12, [.ref (rm 1), .int 0, .int 0, .int 0, .int 0, .int 0, .int 0, .int 0, .int (-1), .ref (rm 2), .ref (rm 3), .ref (rm 4), .ref (rm 5), .ref (rm 6), .ref (rm 7), .ref (rm 8), .ref (rm 9), .ref (rm 10), .ref (rm 11), .ref (rm 12), .ref (rm 13), .ref (rm 14), .ref (rm 15), .ref (rm 16), .int 0, .int 0, .int 0, .int 0, .int 0, .ref (rm 17), .ref (rm 18), .ref (rm 19), .ref (rm 20), .ref (rm 21), .int 0, .ref (rm 22), .ref (rm 23), .ref (rm 24), .int 0, .int 0, .int 0, .ref (rm 25), .ref (rm 26), .ref (rm 27), .int 0, .ref (rm 28), .ref (rm 29), .int 0, .ref (rm 30), .ref (rm 31), .int 0, .ref (rm 32), .ref (rm 33), .int 0, .ref (rm 34), .ref (rm 35), .int 0, .int 0, .int 0, .ref (rm 36), .ref (rm 37), .int 0, .ref (rm 38), .ref (rm 39), .int 0, .ref (rm 40), .ref (rm 41), .ref (rm 42), .int 0, .int 0, .long 1, .ref (rm 43), .int 0, .int 0, .int (-1), .int 0, .int 0, .int 0, .int 0, .ref (rm 44), .ref (rm 45), .ref (rm 46), .ref (rm 47), .int 0])), ((rm 1), .inl ((km 0), 1600, .inl (fun _ => 0))), ((rm 2), .inl ((km 1), 7, .inl f1160)), ((rm 22), .inl ((km 2), 422, .inl (fun _ => 0))), ((rm 23), .inl ((km 3), 422, .inl (fun _ => 0)))]
def wd_764 (rm : Nat → Nat) (km : Nat → ClassId) (f1163 : Nat → Int32) : va_W := [((rm 0), .inr (12, [.ref (rm 1), .int 0, .int 0, .int 0, .int 0, .int 0, .int 0, .int 0, .int (-1), .ref (rm 2), .ref (rm 3), .ref (rm 4), .ref (rm 5), .ref (rm 6), .ref (rm 7), .ref (rm 8), .ref (rm 9), .ref (rm 10), .ref (rm 11), .ref (rm 12), .ref (rm 13), .ref (rm 14), .ref (rm 15), .ref (rm 16), .int 0, .int 0, .int 0, .int 0, .int 0, .ref (rm 17), .ref (rm 18), .ref (rm 19), .ref (rm 20), .ref (rm 21), .int 0, .ref (rm 22), .ref (rm 23), .ref (rm 24), .int 0, .int 0, .int 0, .ref (rm 25), .ref (rm 26), .ref (rm 27), .int 0, .ref (rm 28), .ref (rm 29), .int 0, .ref (rm 30), .ref (rm 31), .int 0, .ref (rm 32), .ref (rm 33), .int 0, .ref (rm 34), .ref (rm 35), .int 0, .int 0, .int 0, .ref (rm 36), .ref (rm 37), .int 0, .ref (rm 38), .ref (rm 39), .int 0, .ref (rm 40), .ref (rm 41), .ref (rm 42), .int 0, .int 0, .long 1, .ref (rm 43), .int 0, .int 0, .int (-1), .int 0, .int 0, .int 0, .int 0, .ref (rm 44), .ref (rm 45), .ref (rm 46), .ref (rm 47), .int 0])), ((rm 1), .inl ((km 0), 1600, .inl (fun _ => 0))), ((rm 2), .inl ((km 1), 7, .inl f1163)), ((rm 22), .inl ((km 2), 422, .inl (fun _ => 0))), ((rm 23), .inl ((km 3), 422, .inl (fun _ => 0)))]
def wd_765 (rm : Nat → Nat) (km : Nat → ClassId) (f1166 : Nat → Int32) : va_W := [((rm 0), .inr (12, [.ref (rm 1), .int 0, .int 0, .int 0, .int 0, .int 0, .int 0, .int 0, .int (-1), .ref (rm 2), .ref (rm 3), .ref (rm 4), .ref (rm 5), .ref (rm 6), .ref (rm 7), .ref (rm 8), .ref (rm 9), .ref (rm 10), .ref (rm 11), .ref (rm 12), .ref (rm 13), .ref (rm 14), .ref (rm 15), .ref (rm 16), .int 0, .int 0, .int 0, .int 0, .int 0, .ref (rm 17), .ref (rm 18), .ref (rm 19), .ref (rm 20), .ref (rm 21), .int 0, .ref (rm 22), .ref (rm 23), .ref (rm 24), .int 0, .int 0, .int 0, .ref (rm 25), .ref (rm 26), .ref (rm 27), .int 0, .ref (rm 28), .ref (rm 29), .int 0, .ref (rm 30), .ref (rm 31), .int 0, .ref (rm 32), .ref (rm 33), .int 0, .ref (rm 34), .ref (rm 35), .int 0, .int 0, .int 0, .ref (rm 36), .ref (rm 37), .int 0, .ref (rm 38), .ref (rm 39), .int 0, .ref (rm 40), .ref (rm 41), .ref (rm 42), .int 0, .int 0, .long 1, .ref (rm 43), .int 0, .int 0, .int (-1), .int 0, .int 0, .int 0, .int 0, .ref (rm 44), .ref (rm 45), .ref (rm 46), .ref (rm 47), .int 0])), ((rm 1), .inl ((km 0), 1600, .inl (fun _ => 0))), ((rm 2), .inl ((km 1), 7, .inl f1166)), ((rm 22), .inl ((km 2), 422, .inl (fun _ => 0))), ((rm 23), .inl ((km 3), 422, .inl (fun _ => 0)))]
set_option maxHeartbeats 4000000 in
set_option maxRecDepth 100000 in
theorem mX12_end (l : Launch) (dC : Nat → ClassId) (dI : Nat → Nat → Nat) (rm : Nat → Nat) (km : Nat → ClassId) (p1 : Int32) (sz : Nat) : Met l yX12_end (Cond.code yX12_end cX12_end 2 (some .boolean) :: wA) ({ frames := 1, cells := 0, slots := 0, locals := 21 }) (va_Pc [.ref (rm 0), .int p1] (fun U => U.heap.size = sz ∧ va_P (dC, dI) vwCl (wd_758 rm km) U.heap ∧ va_K (dC, dI) vwCl [((km 0), .int), ((km 1), .int), ((km 2), .int), ((km 3), .int)] U ∧ va_D (fun _ => True) (wd_758 rm km))) (va_Qi (fun (r : Int32) (_ : Unit) => r = sp_e p1) (fun _ t => True) (va_A (wd_758 rm km) sz)) 0 0 (va_A (wd_758 rm km) sz) := by
  refine Met.ofW (cc := cX12_end) (maxL := 2) (ret := (some .boolean)) (by decide) rfl ?_
  intro p e s m args below meth c s₁ B hml hv
  obtain ⟨rfl, hsz, hP, hK, hD0⟩ := hv
  have hx := B.exec
  have hb := B.bytes
  have hr := B.returns
  have hts : ∀ w ∈ wA, w.before [.ref (rm 0), .int p1].toArray s = true := fun w h => atoms_spec (ws := Cond.code yX12_end cX12_end 2 (some .boolean) :: wA) B.pre w (List.mem_cons_of_mem _ h)
  have hown : s.vm.findClass RX12 = some m.cls := findClass_of_methodNamed B.named
  have hlocks := B.notSynchronized
  subst hsz
  have hD := hD0.self (sz := s.heap.size)
  generalize hAe : va_A (wd_758 rm km) s.heap.size = A at hD ⊢
  have hA : ∀ q : Nat, s.heap.size ≤ q → A q := fun q h => by rw [← hAe]; exact Or.inr h
  have hS : va_S A s.heap s.heap [] := va_S.rf
  have hl := lv_entry ([.ref (rm 0), .int p1]) (n := 2) (Nat.le_of_ble_eq_true rfl)
  rw [lg_entry_eq]
  generalize (lg_sl ([.ref (rm 0), .int p1]) ++ List.replicate (2 - (lg_sl ([.ref (rm 0), .int p1])).length) Slot.unset).toArray = ls at hl ⊢
  have hl : lv_has ls 2 [(0, .ref (rm 0)), (1, .int p1)] := hl
  rcases sw_1 p1 with rfl | ho
  · refine lv_iload_n hx hb dX12_end_0 rfl (lv_at hl 1 rfl) ?_
    refine lv_if_lt (tgt := 12) hx hb dX12_end_1 (by decide) (fun c_0 => absurd c_0 (by decide)) (fun c_0 => ?_)
    refine lv_iload_n hx hb dX12_end_4 rfl (lv_at hl 1 rfl) ?_
    refine lv_aload_n hx hb dX12_end_5 rfl (lv_at hl 0 rfl) ?_
    refine va_get (D := (dC, dI)) (ci := 12) (v := .int 0) (C := RX12) (T := TX12) (N := 84) hx hb hts i_X12 hown hK hP 0 rfl rfl 1 (by decide) (hts _ q_366) (fun _ h9 => h9) rfl dX12_end_6 ?_
    refine lv_icmp_le (tgt := 18) hx hb dX12_end_9 (by decide) (fun c_0 => ?_) (fun c_0 => absurd c_0 (by decide))
    refine lv_aload_n hx hb dX12_end_18 rfl (lv_at hl 0 rfl) ?_
    refine lv_iload_n hx hb dX12_end_19 rfl (lv_at hl 1 rfl) ?_
    refine va_put (D := (dC, dI)) (ci := 12) (v := .int 0) (ty := tyX12 1) (C := RX12) (T := TX12) (N := 84) hx hb hts i_X12 tyX12 tyX12_ok nmX12 hown hK hP hD hS 0 rfl rfl 1 (by decide) (hts _ q_366) (fun _ h9 => h9) rfl (tyX12_ok 1 (by decide)) rfl rfl (Nat.le_of_ble_eq_true rfl) dX12_end_20 (fun H locs hP hD hS => ?_)
    have hP : va_P (dC, dI) vwCl (wd_758 rm km) H := hP
    have hD : va_D A (wd_758 rm km) := hD
    refine lv_iconst (v := 1) hx hb dX12_end_23 (by decide) ?_
    refine W.widen (k := 0) (n := 0) (Nat.le_of_ble_eq_true rfl) (Nat.le_of_ble_eq_true rfl) ?_
    exact W.zret (v := 1) hx hb hr rfl (fun t ht hW => ⟨⟨1, (), rfl, by decide, trivial⟩, hS.F ht⟩) hS.2.2 dX12_end_24
  · refine lv_iload_n hx hb dX12_end_0 rfl (lv_at hl 1 rfl) ?_
    refine lv_if_lt (tgt := 12) hx hb dX12_end_1 (by decide) (fun c_1161 => ?_) (fun c_1161 => ?_)
    · refine lv_aload_n hx hb dX12_end_12 rfl (lv_at hl 0 rfl) ?_
      refine lv_iconst (v := 0) hx hb dX12_end_13 (by decide) ?_
      have hPc := hP.sub (ws' := (wd_758 rm km)) [0, 1, 2, 3, 4] rfl
      have hDc := hD.sub (ws' := (wd_758 rm km)) [0, 1, 2, 3, 4] (by decide) rfl
      have hKc := hK.sub (tys' := [((km 0), .int), ((km 1), .int), ((km 2), .int), ((km 3), .int)]) [0, 1, 2, 3] rfl
      have hFc := va_free (wc := (wd_758 rm km)) hD hS hA [0, 1, 2, 3, 4] rfl
      refine va_calli (va_runV (As := [.int 0]) (rest := []) ⟨hx, hb, hml, hown, hts⟩ (c71_X12_isRefused l dC dI rm km s.heap.size) (cwV 1 hts (gV q_369 q_370 q_371 q_372 q_368) rfl rfl rfl mdv_yX12_isRefused ⟨Nat.le_of_ble_eq_true rfl, Nat.le_of_ble_eq_true rfl⟩) ⟨fun a U g mk q => by obtain ⟨q0, q1, qP, qK, qD⟩ := q; exact ⟨q0, q1, qP, va_K.moved (u := U) (U := U.calling g mk a) (Vm.Alike.refl U.vm) qK, qD⟩, va_recv hKc hPc (ci := 12) (q0 := 0) rfl rfl, fun U hU hW => ⟨rfl, by rw [hU], by rw [hU]; exact hPc, va_K.moved hW.alike hKc, hDc.weaken (fun _ _ _ _ => trivial)⟩⟩ rfl rfl hl.1 rfl (lv_room (Nat.le_of_ble_eq_true rfl)) dX12_end_14 ⟨Nat.le_of_ble_eq_true rfl, Nat.le_of_ble_eq_true rfl⟩) hS (fun q _ h => hFc q h) hFc (fun r_1162 u t H1 locs ht hvm hw hB hz1 hk1 hS => ?_)
      obtain ⟨f1163, hP1, hK1, hD1⟩ := hB
      rw [ht] at hP1
      have hK1 := va_K.moved hvm.symm hK1
      obtain ⟨hP, hD⟩ := va_join (wr := []) (w1 := (wd_764 rm km f1163)) hP hD [0, 1, 2, 3, 4] [] rfl rfl (by decide) (by decide) hk1 hFc hP1 hD1
      have hK := (hK.sub (tys' := []) [] rfl).app hK1
      have hK : va_K (dC, dI) vwCl [((km 0), .int), ((km 1), .int), ((km 2), .int), ((km 3), .int)] s := hK
      generalize H1 = H at hP hS ⊢
      have hP : va_P (dC, dI) vwCl (wd_764 rm km f1163) H := hP
      have hD : va_D A (wd_764 rm km f1163) := hD
      obtain rfl : r_1162 = 0 := hw
      refine W.widen (k := 0) (n := 0) (Nat.le_of_ble_eq_true rfl) (Nat.le_of_ble_eq_true rfl) ?_
      exact W.zret (v := 0) hx hb hr rfl (fun t ht hW => ⟨⟨0, (), rfl, (if_pos ho).symm, trivial⟩, hS.F ht⟩) hS.2.2 dX12_end_17
    · refine lv_iload_n hx hb dX12_end_4 rfl (lv_at hl 1 rfl) ?_
      refine lv_aload_n hx hb dX12_end_5 rfl (lv_at hl 0 rfl) ?_
      refine va_get (D := (dC, dI)) (ci := 12) (v := .int 0) (C := RX12) (T := TX12) (N := 84) hx hb hts i_X12 hown hK hP 0 rfl rfl 1 (by decide) (hts _ q_366) (fun _ h9 => h9) rfl dX12_end_6 ?_
      refine lv_icmp_le (tgt := 18) hx hb dX12_end_9 (by decide) (fun c_1164 => ((by have k_c_1161 : ¬ p1.toInt < (0 : Int) := fun h => c_1161 (Int32.lt_iff_toInt_lt.mpr h); have k_c_1164 : p1.toInt ≤ (0 : Int) := Int32.le_iff_toInt_le.mp c_1164; omega : False).elim)) (fun c_1164 => ?_)
      refine lv_aload_n hx hb dX12_end_12 rfl (lv_at hl 0 rfl) ?_
      refine lv_iconst (v := 0) hx hb dX12_end_13 (by decide) ?_
      have hPc := hP.sub (ws' := (wd_758 rm km)) [0, 1, 2, 3, 4] rfl
      have hDc := hD.sub (ws' := (wd_758 rm km)) [0, 1, 2, 3, 4] (by decide) rfl
      have hKc := hK.sub (tys' := [((km 0), .int), ((km 1), .int), ((km 2), .int), ((km 3), .int)]) [0, 1, 2, 3] rfl
      have hFc := va_free (wc := (wd_758 rm km)) hD hS hA [0, 1, 2, 3, 4] rfl
      refine va_calli (va_runV (As := [.int 0]) (rest := []) ⟨hx, hb, hml, hown, hts⟩ (c71_X12_isRefused l dC dI rm km s.heap.size) (cwV 1 hts (gV q_369 q_370 q_371 q_372 q_368) rfl rfl rfl mdv_yX12_isRefused ⟨Nat.le_of_ble_eq_true rfl, Nat.le_of_ble_eq_true rfl⟩) ⟨fun a U g mk q => by obtain ⟨q0, q1, qP, qK, qD⟩ := q; exact ⟨q0, q1, qP, va_K.moved (u := U) (U := U.calling g mk a) (Vm.Alike.refl U.vm) qK, qD⟩, va_recv hKc hPc (ci := 12) (q0 := 0) rfl rfl, fun U hU hW => ⟨rfl, by rw [hU], by rw [hU]; exact hPc, va_K.moved hW.alike hKc, hDc.weaken (fun _ _ _ _ => trivial)⟩⟩ rfl rfl hl.1 rfl (lv_room (Nat.le_of_ble_eq_true rfl)) dX12_end_14 ⟨Nat.le_of_ble_eq_true rfl, Nat.le_of_ble_eq_true rfl⟩) hS (fun q _ h => hFc q h) hFc (fun r_1165 u t H1 locs ht hvm hw hB hz1 hk1 hS => ?_)
      obtain ⟨f1166, hP1, hK1, hD1⟩ := hB
      rw [ht] at hP1
      have hK1 := va_K.moved hvm.symm hK1
      obtain ⟨hP, hD⟩ := va_join (wr := []) (w1 := (wd_765 rm km f1166)) hP hD [0, 1, 2, 3, 4] [] rfl rfl (by decide) (by decide) hk1 hFc hP1 hD1
      have hK := (hK.sub (tys' := []) [] rfl).app hK1
      have hK : va_K (dC, dI) vwCl [((km 0), .int), ((km 1), .int), ((km 2), .int), ((km 3), .int)] s := hK
      generalize H1 = H at hP hS ⊢
      have hP : va_P (dC, dI) vwCl (wd_765 rm km f1166) H := hP
      have hD : va_D A (wd_765 rm km f1166) := hD
      obtain rfl : r_1165 = 0 := hw
      refine W.widen (k := 0) (n := 0) (Nat.le_of_ble_eq_true rfl) (Nat.le_of_ble_eq_true rfl) ?_
      exact W.zret (v := 0) hx hb hr rfl (fun t ht hW => ⟨⟨0, (), rfl, (if_pos ho).symm, trivial⟩, hS.F ht⟩) hS.2.2 dX12_end_17
def wd_766 (rm : Nat → Nat) (km : Nat → ClassId) : va_W := [((rm 0), .inr (12, [.ref (rm 1), .int 0, .int 0, .int 0, .int (-1), .int 0, .int 0, .int 0, .int (-1), .ref (rm 2), .ref (rm 3), .ref (rm 4), .ref (rm 5), .ref (rm 6), .ref (rm 7), .ref (rm 8), .ref (rm 9), .ref (rm 10), .ref (rm 11), .ref (rm 12), .ref (rm 13), .ref (rm 14), .ref (rm 15), .ref (rm 16), .int 0, .int 0, .int 0, .int 0, .int 0, .ref (rm 17), .ref (rm 18), .ref (rm 19), .ref (rm 20), .ref (rm 21), .int 0, .ref (rm 22), .ref (rm 23), .ref (rm 24), .int 0, .int 0, .int 0, .ref (rm 25), .ref (rm 26), .ref (rm 27), .int 0, .ref (rm 28), .ref (rm 29), .int 0, .ref (rm 30), .ref (rm 31), .int 0, .ref (rm 32), .ref (rm 33), .int 0, .ref (rm 34), .ref (rm 35), .int 0, .int 0, .int 0, .ref (rm 36), .ref (rm 37), .int 0, .ref (rm 38), .ref (rm 39), .int 0, .ref (rm 40), .ref (rm 41), .ref (rm 42), .int 0, .int 0, .long 1, .ref (rm 43), .int 0, .int 0, .int (-1), .int 0, .int 0, .int 0, .int 0, .ref (rm 44), .ref (rm 45), .ref (rm 46), .ref (rm 47), .int 0])), ((rm 1), .inl ((km 0), 1600, .inl (fun _ => 0))), ((rm 2), .inl ((km 1), 7, .inl (fun _ => 0))), ((rm 22), .inl ((km 2), 422, .inl (fun _ => 0))), ((rm 23), .inl ((km 3), 422, .inl (fun _ => 0)))]
def wd_767 (rm : Nat → Nat) (km : Nat → ClassId) : va_W := [((rm 0), .inr (12, [.ref (rm 1), .int 0, .int 0, .int 0, .int (-1), .int 0, .int (-1), .int 0, .int (-1), .ref (rm 2), .ref (rm 3), .ref (rm 4), .ref (rm 5), .ref (rm 6), .ref (rm 7), .ref (rm 8), .ref (rm 9), .ref (rm 10), .ref (rm 11), .ref (rm 12), .ref (rm 13), .ref (rm 14), .ref (rm 15), .ref (rm 16), .int 0, .int 0, .int 0, .int 0, .int 0, .ref (rm 17), .ref (rm 18), .ref (rm 19), .ref (rm 20), .ref (rm 21), .int 0, .ref (rm 22), .ref (rm 23), .ref (rm 24), .int 0, .int 0, .int 0, .ref (rm 25), .ref (rm 26), .ref (rm 27), .int 0, .ref (rm 28), .ref (rm 29), .int 0, .ref (rm 30), .ref (rm 31), .int 0, .ref (rm 32), .ref (rm 33), .int 0, .ref (rm 34), .ref (rm 35), .int 0, .int 0, .int 0, .ref (rm 36), .ref (rm 37), .int 0, .ref (rm 38), .ref (rm 39), .int 0, .ref (rm 40), .ref (rm 41), .ref (rm 42), .int 0, .int 0, .long 1, .ref (rm 43), .int 0, .int 0, .int (-1), .int 0, .int 0, .int 0, .int 0, .ref (rm 44), .ref (rm 45), .ref (rm 46), .ref (rm 47), .int 0])), ((rm 1), .inl ((km 0), 1600, .inl (fun _ => 0))), ((rm 2), .inl ((km 1), 7, .inl (fun _ => 0))), ((rm 22), .inl ((km 2), 422, .inl (fun _ => 0))), ((rm 23), .inl ((km 3), 422, .inl (fun _ => 0)))]
set_option maxHeartbeats 4000000 in
set_option maxRecDepth 100000 in
theorem c73_X12_begins (l : Launch) (dC : Nat → ClassId) (dI : Nat → Nat → Nat) (rm : Nat → Nat) (km : Nat → ClassId) (sz : Nat) : Met l yX12_begins (Cond.code yX12_begins cX12_begins 1 none :: wA) ({ frames := 0, cells := 0, slots := 0, locals := 0 }) (va_Pc [.ref (rm 0)] (fun U => U.heap.size = sz ∧ va_P (dC, dI) vwCl (wd_758 rm km) U.heap ∧ va_K (dC, dI) vwCl [((km 0), .int), ((km 1), .int), ((km 2), .int), ((km 3), .int)] U ∧ va_D (fun _ => True) (wd_758 rm km))) (va_Qv (fun (_ : Unit) => True) (fun _ t => va_P (dC, dI) vwCl (wd_767 rm km) t.heap ∧ va_K (dC, dI) vwCl [((km 0), .int), ((km 1), .int), ((km 2), .int), ((km 3), .int)] t ∧ va_D (va_A (wd_758 rm km) sz) (wd_767 rm km)) (va_A (wd_758 rm km) sz)) 0 0 (va_A (wd_758 rm km) sz) := by
  refine Met.ofW (cc := cX12_begins) (maxL := 1) (ret := none) (by decide) rfl ?_
  intro p e s m args below meth c s₁ B hml hv
  obtain ⟨rfl, hsz, hP, hK, hD0⟩ := hv
  have hx := B.exec
  have hb := B.bytes
  have hr := B.returns
  have hts : ∀ w ∈ wA, w.before [.ref (rm 0)].toArray s = true := fun w h => atoms_spec (ws := Cond.code yX12_begins cX12_begins 1 none :: wA) B.pre w (List.mem_cons_of_mem _ h)
  have hown : s.vm.findClass RX12 = some m.cls := findClass_of_methodNamed B.named
  have hlocks := B.notSynchronized
  subst hsz
  have hD := hD0.self (sz := s.heap.size)
  generalize hAe : va_A (wd_758 rm km) s.heap.size = A at hD ⊢
  have hA : ∀ q : Nat, s.heap.size ≤ q → A q := fun q h => by rw [← hAe]; exact Or.inr h
  have hS : va_S A s.heap s.heap [] := va_S.rf
  have hl := lv_entry ([.ref (rm 0)]) (n := 1) (Nat.le_of_ble_eq_true rfl)
  rw [lg_entry_eq]
  generalize (lg_sl ([.ref (rm 0)]) ++ List.replicate (1 - (lg_sl ([.ref (rm 0)])).length) Slot.unset).toArray = ls at hl ⊢
  have hl : lv_has ls 1 [(0, .ref (rm 0))] := hl
  refine lv_aload_n hx hb dX12_begins_0 rfl (lv_at hl 0 rfl) ?_
  refine lv_aload_n hx hb dX12_begins_1 rfl (lv_at hl 0 rfl) ?_
  refine va_get (D := (dC, dI)) (ci := 12) (v := .int 0) (C := RX12) (T := TX12) (N := 84) hx hb hts i_X12 hown hK hP 0 rfl rfl 1 (by decide) (hts _ q_366) (fun _ h9 => h9) rfl dX12_begins_2 ?_
  refine va_put (D := (dC, dI)) (ci := 12) (v := .int 0) (ty := tyX12 3) (C := RX12) (T := TX12) (N := 84) hx hb hts i_X12 tyX12 tyX12_ok nmX12 hown hK hP hD hS 0 rfl rfl 3 (by decide) (hts _ q_375) (fun _ h9 => h9) rfl (tyX12_ok 3 (by decide)) rfl rfl (Nat.le_of_ble_eq_true rfl) dX12_begins_5 (fun H locs hP hD hS => ?_)
  have hP : va_P (dC, dI) vwCl (wd_758 rm km) H := hP
  have hD : va_D A (wd_758 rm km) := hD
  refine lv_aload_n hx hb dX12_begins_8 rfl (lv_at hl 0 rfl) ?_
  refine lv_iconst (v := 0) hx hb dX12_begins_9 (by decide) ?_
  refine va_put (D := (dC, dI)) (ci := 12) (v := .int 0) (ty := tyX12 1) (C := RX12) (T := TX12) (N := 84) hx hb hts i_X12 tyX12 tyX12_ok nmX12 hown hK hP hD hS 0 rfl rfl 1 (by decide) (hts _ q_366) (fun _ h9 => h9) rfl (tyX12_ok 1 (by decide)) rfl rfl (Nat.le_of_ble_eq_true rfl) dX12_begins_10 (fun H locs hP hD hS => ?_)
  have hP : va_P (dC, dI) vwCl (wd_758 rm km) H := hP
  have hD : va_D A (wd_758 rm km) := hD
  refine lv_aload_n hx hb dX12_begins_13 rfl (lv_at hl 0 rfl) ?_
  refine lv_iconst (v := 0) hx hb dX12_begins_14 (by decide) ?_
  refine va_put (D := (dC, dI)) (ci := 12) (v := .int 0) (ty := tyX12 2) (C := RX12) (T := TX12) (N := 84) hx hb hts i_X12 tyX12 tyX12_ok nmX12 hown hK hP hD hS 0 rfl rfl 2 (by decide) (hts _ q_376) (fun _ h9 => h9) rfl (tyX12_ok 2 (by decide)) rfl rfl (Nat.le_of_ble_eq_true rfl) dX12_begins_15 (fun H locs hP hD hS => ?_)
  have hP : va_P (dC, dI) vwCl (wd_758 rm km) H := hP
  have hD : va_D A (wd_758 rm km) := hD
  refine lv_aload_n hx hb dX12_begins_18 rfl (lv_at hl 0 rfl) ?_
  refine lv_iconst (v := (-1)) hx hb dX12_begins_19 (by decide) ?_
  refine va_put (D := (dC, dI)) (ci := 12) (v := .int (-1)) (ty := tyX12 4) (C := RX12) (T := TX12) (N := 84) hx hb hts i_X12 tyX12 tyX12_ok nmX12 hown hK hP hD hS 0 rfl rfl 4 (by decide) (hts _ q_377) (fun _ h9 => h9) rfl (tyX12_ok 4 (by decide)) rfl rfl (Nat.le_of_ble_eq_true rfl) dX12_begins_20 (fun H locs hP hD hS => ?_)
  have hP : va_P (dC, dI) vwCl (wd_766 rm km) H := hP
  have hD : va_D A (wd_766 rm km) := hD
  refine lv_aload_n hx hb dX12_begins_23 rfl (lv_at hl 0 rfl) ?_
  refine lv_iconst (v := 0) hx hb dX12_begins_24 (by decide) ?_
  refine va_put (D := (dC, dI)) (ci := 12) (v := .int 0) (ty := tyX12 5) (C := RX12) (T := TX12) (N := 84) hx hb hts i_X12 tyX12 tyX12_ok nmX12 hown hK hP hD hS 0 rfl rfl 5 (by decide) (hts _ q_378) (fun _ h9 => h9) rfl (tyX12_ok 5 (by decide)) rfl rfl (Nat.le_of_ble_eq_true rfl) dX12_begins_25 (fun H locs hP hD hS => ?_)
  have hP : va_P (dC, dI) vwCl (wd_766 rm km) H := hP
  have hD : va_D A (wd_766 rm km) := hD
  refine lv_aload_n hx hb dX12_begins_28 rfl (lv_at hl 0 rfl) ?_
  refine lv_iconst (v := (-1)) hx hb dX12_begins_29 (by decide) ?_
  refine va_put (D := (dC, dI)) (ci := 12) (v := .int (-1)) (ty := tyX12 6) (C := RX12) (T := TX12) (N := 84) hx hb hts i_X12 tyX12 tyX12_ok nmX12 hown hK hP hD hS 0 rfl rfl 6 (by decide) (hts _ q_379) (fun _ h9 => h9) rfl (tyX12_ok 6 (by decide)) rfl rfl (Nat.le_of_ble_eq_true rfl) dX12_begins_30 (fun H locs hP hD hS => ?_)
  have hP : va_P (dC, dI) vwCl (wd_767 rm km) H := hP
  have hD : va_D A (wd_767 rm km) := hD
  refine W.widen (k := 0) (n := 0) (Nat.le_of_ble_eq_true rfl) (Nat.le_of_ble_eq_true rfl) ?_
  have hP9 := hP.sub (ws' := (wd_767 rm km)) [0, 1, 2, 3, 4] rfl
  have hD9 := hD.sub (ws' := (wd_767 rm km)) [0, 1, 2, 3, 4] (by decide) rfl
  have hK9 := hK.sub (tys' := [((km 0), .int), ((km 1), .int), ((km 2), .int), ((km 3), .int)]) [0, 1, 2, 3] rfl
  exact W.vret hx hb hr (fun t ht hW => ⟨⟨(), rfl, trivial, by rw [ht]; exact hP9, va_K.moved hW.alike hK9, hD9⟩, hS.F ht⟩) hS.2.2 dX12_begins_33
def wd_768 (rm : Nat → Nat) (km : Nat → ClassId) (f : Nat → Int32) : va_W := [((rm 0), .inr (12, [.ref (rm 1), .int 0, .int 0, .int 0, .int (-1), .int 0, .int (-1), .int 0, .int (-1), .ref (rm 2), .ref (rm 3), .ref (rm 4), .ref (rm 5), .ref (rm 6), .ref (rm 7), .ref (rm 8), .ref (rm 9), .ref (rm 10), .ref (rm 11), .ref (rm 12), .ref (rm 13), .ref (rm 14), .ref (rm 15), .ref (rm 16), .int 0, .int 0, .int 0, .int 0, .int 0, .ref (rm 17), .ref (rm 18), .ref (rm 19), .ref (rm 20), .ref (rm 21), .int 0, .ref (rm 22), .ref (rm 23), .ref (rm 24), .int 0, .int 0, .int 0, .ref (rm 25), .ref (rm 26), .ref (rm 27), .int 0, .ref (rm 28), .ref (rm 29), .int 0, .ref (rm 30), .ref (rm 31), .int 0, .ref (rm 32), .ref (rm 33), .int 0, .ref (rm 34), .ref (rm 35), .int 0, .int 0, .int 0, .ref (rm 36), .ref (rm 37), .int 0, .ref (rm 38), .ref (rm 39), .int 0, .ref (rm 40), .ref (rm 41), .ref (rm 42), .int 0, .int 0, .long 1, .ref (rm 43), .int 0, .int 0, .int (-1), .int 0, .int 0, .int 0, .int 0, .ref (rm 44), .ref (rm 45), .ref (rm 46), .ref (rm 47), .int 0])), ((rm 1), .inl ((km 0), 1600, .inl (fun _ => 0))), ((rm 2), .inl ((km 1), 7, .inl (fun _ => 0))), ((rm 22), .inl ((km 2), 422, .inl (fun _ => 0))), ((rm 23), .inl ((km 3), 422, .inl f))]
theorem lp_m0 {p : Program} {l : Launch} {e : Env} {R : Room} {s : State} {m : MethodId} {args : Array Value} {below : List Frame} {meth : Method} {c : Code} {Q : State → Prop} {A : Nat → Prop} {H0 : Heap} {cells slots : Nat} {dC : Nat → ClassId} {dI : Nat → Nat → Nat} {rm : Nat → Nat} {km : Nat → ClassId} (hx : p.tables.exec = Jvm.exec) (hb : c.code = cX12_heap) (hts : ∀ w ∈ wA, w.before args s = true) (hown : s.vm.findClass RX12 = some m.cls) (hK : va_K (dC, dI) vwCl [((km 0), .int), ((km 1), .int), ((km 2), .int), ((km 3), .int)] s) (kk : ∀ (H : Heap) (locs : List Loc) (ls : Array Slot) (f : Nat → Int32), va_P (dC, dI) vwCl (wd_768 rm km f) H → va_D A (wd_768 rm km f) → va_S A H0 H locs → lv_has ls 2 [(0, .ref (rm 0))] → W p l e R s m args below meth c H locs cells slots Q (F0 m 36 ls [])) : ∀ (n i : Nat) (H : Heap) (locs : List Loc) (ls : Array Slot) (f : Nat → Int32), i + n = 422 → va_P (dC, dI) vwCl (wd_768 rm km f) H → va_D A (wd_768 rm km f) → va_S A H0 H locs → lv_has ls 2 [(1, .int (nI i)), (0, .ref (rm 0))] → W p l e R s m args below meth c H locs cells slots Q (F0 m 16 ls []) := by
  intro n
  induction n with
  | zero =>
    intro i H locs ls f hi hP hD hS hl
    obtain rfl : i = 422 := by omega
    refine lv_iload_n hx hb dX12_heap_16 rfl (lv_at hl 0 rfl) ?_
    refine lv_sipush (v := 422) hx hb dX12_heap_17 (by decide) ?_
    refine lv_icmp_ge (tgt := 36) hx hb dX12_heap_20 (by decide) (fun c_0 => ?_) (fun c_0 => absurd (show (422 : Int32) ≤ nI 422 by decide) c_0)
    exact kk H locs ls f hP hD hS (lv_sub hl [1] rfl)
  | succ n ih =>
    intro i H locs ls f hi hP hD hS hl
    refine lv_iload_n hx hb dX12_heap_16 rfl (lv_at hl 0 rfl) ?_
    refine lv_sipush (v := 422) hx hb dX12_heap_17 (by decide) ?_
    refine lv_icmp_ge (tgt := 36) hx hb dX12_heap_20 (by decide) (fun c_0 => absurd c_0 (nI_ge (a := i) (b := 422) (by omega) (by decide))) (fun c_0 => ?_)
    refine lv_aload_n hx hb dX12_heap_23 rfl (lv_at hl 1 rfl) ?_
    refine va_get (D := (dC, dI)) (ci := 12) (v := .ref (rm 23)) (C := RX12) (T := TX12) (N := 84) hx hb hts i_X12 hown hK hP 0 rfl rfl 36 (by decide) (hts _ q_211) (fun _ h9 => h9) rfl dX12_heap_24 ?_
    refine lv_iload_n hx hb dX12_heap_27 rfl (lv_at hl 0 rfl) ?_
    refine lv_iconst (v := 0) hx hb dX12_heap_28 (by decide) ?_
    refine va_iast hx hb hK hP hD hS 4 3 rfl rfl (vp_in_nI (by omega) (by decide)) dX12_heap_29 (fun H locs hP hD hS => ?_)
    refine lv_iinc (v := nI (i + 1)) (lv' := [(1, .int (nI (i + 1))), (0, .ref (rm 0))]) hx hb dX12_heap_30 hl (k := 0) rfl (nI_1 i) (by decide) rfl (fun ls hl => ?_)
    refine lv_goto (tgt := 16) hx hb dX12_heap_33 (by decide) ?_
    exact ih (i + 1) H locs ls _ (by omega) hP hD hS hl
def wd_769 (rm : Nat → Nat) (km : Nat → ClassId) (f1168 : Nat → Int32) : va_W := [((rm 0), .inr (12, [.ref (rm 1), .int 0, .int 0, .int 0, .int (-1), .int 0, .int (-1), .int 0, .int (-1), .ref (rm 2), .ref (rm 3), .ref (rm 4), .ref (rm 5), .ref (rm 6), .ref (rm 7), .ref (rm 8), .ref (rm 9), .ref (rm 10), .ref (rm 11), .ref (rm 12), .ref (rm 13), .ref (rm 14), .ref (rm 15), .ref (rm 16), .int 0, .int 0, .int 0, .int 0, .int 0, .ref (rm 17), .ref (rm 18), .ref (rm 19), .ref (rm 20), .ref (rm 21), .int 0, .ref (rm 22), .ref (rm 23), .ref (rm 24), .int 0, .int 0, .int 0, .ref (rm 25), .ref (rm 26), .ref (rm 27), .int 0, .ref (rm 28), .ref (rm 29), .int 0, .ref (rm 30), .ref (rm 31), .int 0, .ref (rm 32), .ref (rm 33), .int 0, .ref (rm 34), .ref (rm 35), .int 0, .int 0, .int 0, .ref (rm 36), .ref (rm 37), .int 0, .ref (rm 38), .ref (rm 39), .int 0, .ref (rm 40), .ref (rm 41), .ref (rm 42), .int 0, .int 0, .long 1, .ref (rm 43), .int 0, .int 0, .int (-1), .int 0, .int 0, .int 0, .int 0, .ref (rm 44), .ref (rm 45), .ref (rm 46), .ref (rm 47), .int 0])), ((rm 1), .inl ((km 0), 1600, .inl (fun _ => 0))), ((rm 2), .inl ((km 1), 7, .inl (fun _ => 0))), ((rm 22), .inl ((km 2), 422, .inl (fun _ => 0))), ((rm 23), .inl ((km 3), 422, .inl f1168))]
set_option maxHeartbeats 4000000 in
set_option maxRecDepth 100000 in
theorem c74_X12_cellAt (l : Launch) (dC : Nat → ClassId) (dI : Nat → Nat → Nat) (sz : Nat) : Met l yX12_cellAt (Cond.code yX12_cellAt cX12_cellAt 1 (some .int) :: wA) ({ frames := 0, cells := 0, slots := 0, locals := 0 }) (va_Pc [.int (-8)] (fun U => U.heap.size = sz ∧ va_P (dC, dI) vwCl [] U.heap ∧ va_K (dC, dI) vwCl [] U ∧ va_D (fun _ => True) [])) (va_Qi (fun (r : Int32) (_ : Unit) => r = 86) (fun _ t => va_P (dC, dI) vwCl [] t.heap ∧ va_K (dC, dI) vwCl [] t ∧ va_D (va_A [] sz) []) (va_A [] sz)) 0 0 (va_A [] sz) := by
  refine Met.ofW (cc := cX12_cellAt) (maxL := 1) (ret := (some .int)) (by decide) rfl ?_
  intro p e s m args below meth c s₁ B hml hv
  obtain ⟨rfl, hsz, hP, hK, hD0⟩ := hv
  have hx := B.exec
  have hb := B.bytes
  have hr := B.returns
  have hts : ∀ w ∈ wA, w.before [.int (-8)].toArray s = true := fun w h => atoms_spec (ws := Cond.code yX12_cellAt cX12_cellAt 1 (some .int) :: wA) B.pre w (List.mem_cons_of_mem _ h)
  have hown : s.vm.findClass RX12 = some m.cls := findClass_of_methodNamed B.named
  have hlocks := B.notSynchronized
  subst hsz
  have hD := hD0.self (sz := s.heap.size)
  generalize hAe : va_A [] s.heap.size = A at hD ⊢
  have hA : ∀ q : Nat, s.heap.size ≤ q → A q := fun q h => by rw [← hAe]; exact Or.inr h
  have hS : va_S A s.heap s.heap [] := va_S.rf
  have hl := lv_entry ([.int (-8)]) (n := 1) (Nat.le_of_ble_eq_true rfl)
  rw [lg_entry_eq]
  generalize (lg_sl ([.int (-8)]) ++ List.replicate (1 - (lg_sl ([.int (-8)])).length) Slot.unset).toArray = ls at hl ⊢
  have hl : lv_has ls 1 [(0, .int (-8))] := hl
  refine lv_bipush (v := 86) hx hb dX12_cellAt_0 (by decide) ?_
  refine lv_iconst (v := 2) hx hb dX12_cellAt_2 (by decide) ?_
  refine lv_iload_n hx hb dX12_cellAt_3 rfl (lv_at hl 0 rfl) ?_
  refine lv_bipush (v := 8) hx hb dX12_cellAt_4 (by decide) ?_
  refine lv_iadd hx hb dX12_cellAt_6 ?_
  refine lv_topi (fun x_1172 ex_1172 => ?_)
  obtain rfl : x_1172 = 0 := ex_1172.trans (by decide)
  refine lv_imul hx hb dX12_cellAt_7 ?_
  refine lv_topi (fun x_1173 ex_1173 => ?_)
  obtain rfl : x_1173 = 0 := ex_1173.trans (by decide)
  refine lv_iadd hx hb dX12_cellAt_8 ?_
  refine lv_topi (fun x_1174 ex_1174 => ?_)
  obtain rfl : x_1174 = 86 := ex_1174.trans (by decide)
  refine W.widen (k := 0) (n := 0) (Nat.le_of_ble_eq_true rfl) (Nat.le_of_ble_eq_true rfl) ?_
  have hP9 := hP.sub (ws' := []) [] rfl
  have hD9 := hD.sub (ws' := []) [] (by decide) rfl
  have hK9 := hK.sub (tys' := []) [] rfl
  exact W.iret (v := 86) hx hb hr (fun t ht hW => ⟨⟨86, (), rfl, rfl, by rw [ht]; exact hP9, va_K.moved hW.alike hK9, hD9⟩, hS.F ht⟩) hS.2.2 dX12_cellAt_9
def wd_770 (rm : Nat → Nat) (km : Nat → ClassId) (fz0 : Nat → Int32) : va_W := [((rm 23), .inl ((km 3), 422, .inl fz0))]
def wd_771 (rm : Nat → Nat) (km : Nat → ClassId) (f : Nat → Int32) : va_W := [((rm 23), .inl ((km 3), 422, .inl f))]
def wd_772 (rm : Nat → Nat) (km : Nat → ClassId) (f1176 : Nat → Int32) : va_W := [((rm 23), .inl ((km 3), 422, .inl f1176))]
def wd_773 (rm : Nat → Nat) (km : Nat → ClassId) (f1179 : Nat → Int32) : va_W := [((rm 23), .inl ((km 3), 422, .inl f1179))]
def wd_774 (rm : Nat → Nat) (km : Nat → ClassId) (f1181 : Nat → Int32) : va_W := [((rm 23), .inl ((km 3), 422, .inl f1181))]
def wd_775 (rm : Nat → Nat) (km : Nat → ClassId) (f1184 : Nat → Int32) : va_W := [((rm 23), .inl ((km 3), 422, .inl f1184))]
set_option maxHeartbeats 4000000 in
set_option maxRecDepth 100000 in
theorem c75_X12_holds (l : Launch) (dC : Nat → ClassId) (dI : Nat → Nat → Nat) (rm : Nat → Nat) (km : Nat → ClassId) (fz0 : Nat → Int32) (sz : Nat) : Met l yX12_holds (Cond.code yX12_holds cX12_holds 4 none :: wA) ({ frames := 1, cells := 0, slots := 0, locals := 20 }) (va_Pc [.ref (rm 23), .int (-8), .int 1, .int (-1)] (fun U => U.heap.size = sz ∧ va_P (dC, dI) vwCl (wd_770 rm km fz0) U.heap ∧ va_K (dC, dI) vwCl [((km 3), .int)] U ∧ va_D (fun _ => True) (wd_770 rm km fz0))) (va_Qv (fun (_ : Unit) => True) (fun _ t => ∃ f1184 : Nat → Int32, va_P (dC, dI) vwCl (wd_775 rm km f1184) t.heap ∧ va_K (dC, dI) vwCl [((km 3), .int)] t ∧ va_D (va_A (wd_770 rm km fz0) sz) (wd_775 rm km f1184)) (va_A (wd_770 rm km fz0) sz)) 0 0 (va_A (wd_770 rm km fz0) sz) := by
  refine Met.ofW (cc := cX12_holds) (maxL := 4) (ret := none) (by decide) rfl ?_
  intro p e s m args below meth c s₁ B hml hv
  obtain ⟨rfl, hsz, hP, hK, hD0⟩ := hv
  have hx := B.exec
  have hb := B.bytes
  have hr := B.returns
  have hts : ∀ w ∈ wA, w.before [.ref (rm 23), .int (-8), .int 1, .int (-1)].toArray s = true := fun w h => atoms_spec (ws := Cond.code yX12_holds cX12_holds 4 none :: wA) B.pre w (List.mem_cons_of_mem _ h)
  have hown : s.vm.findClass RX12 = some m.cls := findClass_of_methodNamed B.named
  have hlocks := B.notSynchronized
  subst hsz
  have hD := hD0.self (sz := s.heap.size)
  generalize hAe : va_A (wd_770 rm km fz0) s.heap.size = A at hD ⊢
  have hA : ∀ q : Nat, s.heap.size ≤ q → A q := fun q h => by rw [← hAe]; exact Or.inr h
  have hS : va_S A s.heap s.heap [] := va_S.rf
  have hl := lv_entry ([.ref (rm 23), .int (-8), .int 1, .int (-1)]) (n := 4) (Nat.le_of_ble_eq_true rfl)
  rw [lg_entry_eq]
  generalize (lg_sl ([.ref (rm 23), .int (-8), .int 1, .int (-1)]) ++ List.replicate (4 - (lg_sl ([.ref (rm 23), .int (-8), .int 1, .int (-1)])).length) Slot.unset).toArray = ls at hl ⊢
  have hl : lv_has ls 4 [(0, .ref (rm 23)), (1, .int (-8)), (2, .int 1), (3, .int (-1))] := hl
  refine lv_aload_n hx hb dX12_holds_0 rfl (lv_at hl 0 rfl) ?_
  refine lv_iload_n hx hb dX12_holds_1 rfl (lv_at hl 1 rfl) ?_
  have hPc := hP.sub (ws' := []) [] rfl
  have hDc := hD.sub (ws' := []) [] (by decide) rfl
  have hKc := hK.sub (tys' := []) [] rfl
  have hFc := va_free (wc := []) hD hS hA [] rfl
  refine va_calli (va_runS (As := [.int (-8)]) (rest := [.ref (rm 23)]) ⟨hx, hb, hml, hown, hts⟩ (c74_X12_cellAt l dC dI s.heap.size) (va_cwS 1 hts (gS q_387 q_388 q_372 q_386) rfl rfl rfl mds_yX12_cellAt ⟨Nat.le_of_ble_eq_true rfl, Nat.le_of_ble_eq_true rfl⟩) ⟨fun a U g mk q => by obtain ⟨q0, q1, qP, qK, qD⟩ := q; exact ⟨q0, q1, qP, va_K.moved (u := U) (U := U.calling g mk a) (Vm.Alike.refl U.vm) qK, qD⟩, fun U hU hW => ⟨rfl, by rw [hU], by rw [hU]; exact hPc, va_K.moved hW.alike hKc, hDc.weaken (fun _ _ _ _ => trivial)⟩⟩ rfl rfl hl.1 rfl (lv_room (Nat.le_of_ble_eq_true rfl)) dX12_holds_2 ⟨Nat.le_of_ble_eq_true rfl, Nat.le_of_ble_eq_true rfl⟩) hS (fun q _ h => hFc q h) hFc (fun r_1180 u t H1 locs ht hvm hw hB hz1 hk1 hS => ?_)
  obtain ⟨hP1, hK1, hD1⟩ := hB
  rw [ht] at hP1
  have hK1 := va_K.moved hvm.symm hK1
  obtain ⟨hP, hD⟩ := va_join (wr := (wd_770 rm km fz0)) (w1 := []) hP hD [] [0] rfl rfl (by decide) (by decide) hk1 hFc hP1 hD1
  generalize H1 = H at hP hS ⊢
  have hP : va_P (dC, dI) vwCl (wd_770 rm km fz0) H := hP
  have hD : va_D A (wd_770 rm km fz0) := hD
  obtain rfl : r_1180 = 86 := hw
  refine lv_iload_n hx hb dX12_holds_5 rfl (lv_at hl 2 rfl) ?_
  refine va_iast hx hb hK hP hD hS 0 0 rfl rfl (vpi (by decide)) dX12_holds_6 (fun H locs hP hD hS => ?_)
  obtain ⟨f1181, hP, hD⟩ : ∃ f : Nat → Int32, va_P (dC, dI) vwCl (wd_771 rm km f) H ∧ va_D A (wd_771 rm km f) := ⟨_, hP, hD⟩
  have hP : va_P (dC, dI) vwCl (wd_774 rm km f1181) H := hP
  have hD : va_D A (wd_774 rm km f1181) := hD
  refine lv_aload_n hx hb dX12_holds_7 rfl (lv_at hl 0 rfl) ?_
  refine lv_iload_n hx hb dX12_holds_8 rfl (lv_at hl 1 rfl) ?_
  have hPc := hP.sub (ws' := []) [] rfl
  have hDc := hD.sub (ws' := []) [] (by decide) rfl
  have hKc := hK.sub (tys' := []) [] rfl
  have hFc := va_free (wc := []) hD hS hA [] rfl
  refine va_calli (va_runS (As := [.int (-8)]) (rest := [.ref (rm 23)]) ⟨hx, hb, hml, hown, hts⟩ (c74_X12_cellAt l dC dI H.size) (va_cwS 1 hts (gS q_387 q_388 q_372 q_386) rfl rfl rfl mds_yX12_cellAt ⟨Nat.le_of_ble_eq_true rfl, Nat.le_of_ble_eq_true rfl⟩) ⟨fun a U g mk q => by obtain ⟨q0, q1, qP, qK, qD⟩ := q; exact ⟨q0, q1, qP, va_K.moved (u := U) (U := U.calling g mk a) (Vm.Alike.refl U.vm) qK, qD⟩, fun U hU hW => ⟨rfl, by rw [hU], by rw [hU]; exact hPc, va_K.moved hW.alike hKc, hDc.weaken (fun _ _ _ _ => trivial)⟩⟩ rfl rfl hl.1 rfl (lv_room (Nat.le_of_ble_eq_true rfl)) dX12_holds_9 ⟨Nat.le_of_ble_eq_true rfl, Nat.le_of_ble_eq_true rfl⟩) hS (fun q _ h => hFc q h) hFc (fun r_1182 u t H1 locs ht hvm hw hB hz1 hk1 hS => ?_)
  obtain ⟨hP1, hK1, hD1⟩ := hB
  rw [ht] at hP1
  have hK1 := va_K.moved hvm.symm hK1
  obtain ⟨hP, hD⟩ := va_join (wr := (wd_774 rm km f1181)) (w1 := []) hP hD [] [0] rfl rfl (by decide) (by decide) hk1 hFc hP1 hD1
  generalize H1 = H at hP hS ⊢
  have hP : va_P (dC, dI) vwCl (wd_774 rm km f1181) H := hP
  have hD : va_D A (wd_774 rm km f1181) := hD
  obtain rfl : r_1182 = 86 := hw
  refine lv_iconst (v := 1) hx hb dX12_holds_12 (by decide) ?_
  refine lv_iadd hx hb dX12_holds_13 ?_
  refine lv_topi (fun x_1183 ex_1183 => ?_)
  obtain rfl : x_1183 = 87 := ex_1183.trans (by decide)
  refine lv_iload_n hx hb dX12_holds_14 rfl (lv_at hl 3 rfl) ?_
  refine va_iast hx hb hK hP hD hS 0 0 rfl rfl (vpi (by decide)) dX12_holds_15 (fun H locs hP hD hS => ?_)
  obtain ⟨f1184, hP, hD⟩ : ∃ f : Nat → Int32, va_P (dC, dI) vwCl (wd_771 rm km f) H ∧ va_D A (wd_771 rm km f) := ⟨_, hP, hD⟩
  have hP : va_P (dC, dI) vwCl (wd_775 rm km f1184) H := hP
  have hD : va_D A (wd_775 rm km f1184) := hD
  refine W.widen (k := 0) (n := 0) (Nat.le_of_ble_eq_true rfl) (Nat.le_of_ble_eq_true rfl) ?_
  have hP9 := hP.sub (ws' := (wd_775 rm km f1184)) [0] rfl
  have hD9 := hD.sub (ws' := (wd_775 rm km f1184)) [0] (by decide) rfl
  have hK9 := hK.sub (tys' := [((km 3), .int)]) [0] rfl
  exact W.vret hx hb hr (fun t ht hW => ⟨⟨(), rfl, trivial, f1184, by rw [ht]; exact hP9, va_K.moved hW.alike hK9, hD9⟩, hS.F ht⟩) hS.2.2 dX12_holds_16
def wd_776 (rm : Nat → Nat) (km : Nat → ClassId) (f1168 : Nat → Int32) : va_W := [((rm 23), .inl ((km 3), 422, .inl f1168))]
def wd_777 (rm : Nat → Nat) (km : Nat → ClassId) : va_W := [((rm 0), .inr (12, [.ref (rm 1), .int 0, .int 0, .int 0, .int (-1), .int 0, .int (-1), .int 0, .int (-1), .ref (rm 2), .ref (rm 3), .ref (rm 4), .ref (rm 5), .ref (rm 6), .ref (rm 7), .ref (rm 8), .ref (rm 9), .ref (rm 10), .ref (rm 11), .ref (rm 12), .ref (rm 13), .ref (rm 14), .ref (rm 15), .ref (rm 16), .int 0, .int 0, .int 0, .int 0, .int 0, .ref (rm 17), .ref (rm 18), .ref (rm 19), .ref (rm 20), .ref (rm 21), .int 0, .ref (rm 22), .ref (rm 23), .ref (rm 24), .int 0, .int 0, .int 0, .ref (rm 25), .ref (rm 26), .ref (rm 27), .int 0, .ref (rm 28), .ref (rm 29), .int 0, .ref (rm 30), .ref (rm 31), .int 0, .ref (rm 32), .ref (rm 33), .int 0, .ref (rm 34), .ref (rm 35), .int 0, .int 0, .int 0, .ref (rm 36), .ref (rm 37), .int 0, .ref (rm 38), .ref (rm 39), .int 0, .ref (rm 40), .ref (rm 41), .ref (rm 42), .int 0, .int 0, .long 1, .ref (rm 43), .int 0, .int 0, .int (-1), .int 0, .int 0, .int 0, .int 0, .ref (rm 44), .ref (rm 45), .ref (rm 46), .ref (rm 47), .int 0])), ((rm 1), .inl ((km 0), 1600, .inl (fun _ => 0))), ((rm 2), .inl ((km 1), 7, .inl (fun _ => 0))), ((rm 22), .inl ((km 2), 422, .inl (fun _ => 0)))]
def wd_778 (rm : Nat → Nat) (km : Nat → ClassId) (f1186 : Nat → Int32) : va_W := [((rm 23), .inl ((km 3), 422, .inl f1186))]
def wd_779 (rm : Nat → Nat) (km : Nat → ClassId) (f1186 : Nat → Int32) : va_W := [((rm 0), .inr (12, [.ref (rm 1), .int 0, .int 0, .int 0, .int (-1), .int 0, .int (-1), .int 0, .int (-1), .ref (rm 2), .ref (rm 3), .ref (rm 4), .ref (rm 5), .ref (rm 6), .ref (rm 7), .ref (rm 8), .ref (rm 9), .ref (rm 10), .ref (rm 11), .ref (rm 12), .ref (rm 13), .ref (rm 14), .ref (rm 15), .ref (rm 16), .int 0, .int 0, .int 0, .int 0, .int 0, .ref (rm 17), .ref (rm 18), .ref (rm 19), .ref (rm 20), .ref (rm 21), .int 0, .ref (rm 22), .ref (rm 23), .ref (rm 24), .int 0, .int 0, .int 0, .ref (rm 25), .ref (rm 26), .ref (rm 27), .int 0, .ref (rm 28), .ref (rm 29), .int 0, .ref (rm 30), .ref (rm 31), .int 0, .ref (rm 32), .ref (rm 33), .int 0, .ref (rm 34), .ref (rm 35), .int 0, .int 0, .int 0, .ref (rm 36), .ref (rm 37), .int 0, .ref (rm 38), .ref (rm 39), .int 0, .ref (rm 40), .ref (rm 41), .ref (rm 42), .int 0, .int 0, .long 1, .ref (rm 43), .int 0, .int 0, .int (-1), .int 0, .int 0, .int 0, .int 0, .ref (rm 44), .ref (rm 45), .ref (rm 46), .ref (rm 47), .int 0])), ((rm 1), .inl ((km 0), 1600, .inl (fun _ => 0))), ((rm 2), .inl ((km 1), 7, .inl (fun _ => 0))), ((rm 22), .inl ((km 2), 422, .inl (fun _ => 0))), ((rm 23), .inl ((km 3), 422, .inl f1186))]
set_option maxHeartbeats 4000000 in
set_option maxRecDepth 100000 in
theorem c76_X12_cellAt (l : Launch) (dC : Nat → ClassId) (dI : Nat → Nat → Nat) (sz : Nat) : Met l yX12_cellAt (Cond.code yX12_cellAt cX12_cellAt 1 (some .int) :: wA) ({ frames := 0, cells := 0, slots := 0, locals := 0 }) (va_Pc [.int (-7)] (fun U => U.heap.size = sz ∧ va_P (dC, dI) vwCl [] U.heap ∧ va_K (dC, dI) vwCl [] U ∧ va_D (fun _ => True) [])) (va_Qi (fun (r : Int32) (_ : Unit) => r = 88) (fun _ t => va_P (dC, dI) vwCl [] t.heap ∧ va_K (dC, dI) vwCl [] t ∧ va_D (va_A [] sz) []) (va_A [] sz)) 0 0 (va_A [] sz) := by
  refine Met.ofW (cc := cX12_cellAt) (maxL := 1) (ret := (some .int)) (by decide) rfl ?_
  intro p e s m args below meth c s₁ B hml hv
  obtain ⟨rfl, hsz, hP, hK, hD0⟩ := hv
  have hx := B.exec
  have hb := B.bytes
  have hr := B.returns
  have hts : ∀ w ∈ wA, w.before [.int (-7)].toArray s = true := fun w h => atoms_spec (ws := Cond.code yX12_cellAt cX12_cellAt 1 (some .int) :: wA) B.pre w (List.mem_cons_of_mem _ h)
  have hown : s.vm.findClass RX12 = some m.cls := findClass_of_methodNamed B.named
  have hlocks := B.notSynchronized
  subst hsz
  have hD := hD0.self (sz := s.heap.size)
  generalize hAe : va_A [] s.heap.size = A at hD ⊢
  have hA : ∀ q : Nat, s.heap.size ≤ q → A q := fun q h => by rw [← hAe]; exact Or.inr h
  have hS : va_S A s.heap s.heap [] := va_S.rf
  have hl := lv_entry ([.int (-7)]) (n := 1) (Nat.le_of_ble_eq_true rfl)
  rw [lg_entry_eq]
  generalize (lg_sl ([.int (-7)]) ++ List.replicate (1 - (lg_sl ([.int (-7)])).length) Slot.unset).toArray = ls at hl ⊢
  have hl : lv_has ls 1 [(0, .int (-7))] := hl
  refine lv_bipush (v := 86) hx hb dX12_cellAt_0 (by decide) ?_
  refine lv_iconst (v := 2) hx hb dX12_cellAt_2 (by decide) ?_
  refine lv_iload_n hx hb dX12_cellAt_3 rfl (lv_at hl 0 rfl) ?_
  refine lv_bipush (v := 8) hx hb dX12_cellAt_4 (by decide) ?_
  refine lv_iadd hx hb dX12_cellAt_6 ?_
  refine lv_topi (fun x_1190 ex_1190 => ?_)
  obtain rfl : x_1190 = 1 := ex_1190.trans (by decide)
  refine lv_imul hx hb dX12_cellAt_7 ?_
  refine lv_topi (fun x_1191 ex_1191 => ?_)
  obtain rfl : x_1191 = 2 := ex_1191.trans (by decide)
  refine lv_iadd hx hb dX12_cellAt_8 ?_
  refine lv_topi (fun x_1192 ex_1192 => ?_)
  obtain rfl : x_1192 = 88 := ex_1192.trans (by decide)
  refine W.widen (k := 0) (n := 0) (Nat.le_of_ble_eq_true rfl) (Nat.le_of_ble_eq_true rfl) ?_
  have hP9 := hP.sub (ws' := []) [] rfl
  have hD9 := hD.sub (ws' := []) [] (by decide) rfl
  have hK9 := hK.sub (tys' := []) [] rfl
  exact W.iret (v := 88) hx hb hr (fun t ht hW => ⟨⟨88, (), rfl, rfl, by rw [ht]; exact hP9, va_K.moved hW.alike hK9, hD9⟩, hS.F ht⟩) hS.2.2 dX12_cellAt_9
def wd_780 (rm : Nat → Nat) (km : Nat → ClassId) (f1194 : Nat → Int32) : va_W := [((rm 23), .inl ((km 3), 422, .inl f1194))]
def wd_781 (rm : Nat → Nat) (km : Nat → ClassId) (f1197 : Nat → Int32) : va_W := [((rm 23), .inl ((km 3), 422, .inl f1197))]
def wd_782 (rm : Nat → Nat) (km : Nat → ClassId) (f1199 : Nat → Int32) : va_W := [((rm 23), .inl ((km 3), 422, .inl f1199))]
def wd_783 (rm : Nat → Nat) (km : Nat → ClassId) (f1202 : Nat → Int32) : va_W := [((rm 23), .inl ((km 3), 422, .inl f1202))]
set_option maxHeartbeats 4000000 in
set_option maxRecDepth 100000 in
theorem c77_X12_holds (l : Launch) (dC : Nat → ClassId) (dI : Nat → Nat → Nat) (rm : Nat → Nat) (km : Nat → ClassId) (fz0 : Nat → Int32) (sz : Nat) : Met l yX12_holds (Cond.code yX12_holds cX12_holds 4 none :: wA) ({ frames := 1, cells := 0, slots := 0, locals := 20 }) (va_Pc [.ref (rm 23), .int (-7), .int 1, .int (-1)] (fun U => U.heap.size = sz ∧ va_P (dC, dI) vwCl (wd_770 rm km fz0) U.heap ∧ va_K (dC, dI) vwCl [((km 3), .int)] U ∧ va_D (fun _ => True) (wd_770 rm km fz0))) (va_Qv (fun (_ : Unit) => True) (fun _ t => ∃ f1202 : Nat → Int32, va_P (dC, dI) vwCl (wd_783 rm km f1202) t.heap ∧ va_K (dC, dI) vwCl [((km 3), .int)] t ∧ va_D (va_A (wd_770 rm km fz0) sz) (wd_783 rm km f1202)) (va_A (wd_770 rm km fz0) sz)) 0 0 (va_A (wd_770 rm km fz0) sz) := by
  refine Met.ofW (cc := cX12_holds) (maxL := 4) (ret := none) (by decide) rfl ?_
  intro p e s m args below meth c s₁ B hml hv
  obtain ⟨rfl, hsz, hP, hK, hD0⟩ := hv
  have hx := B.exec
  have hb := B.bytes
  have hr := B.returns
  have hts : ∀ w ∈ wA, w.before [.ref (rm 23), .int (-7), .int 1, .int (-1)].toArray s = true := fun w h => atoms_spec (ws := Cond.code yX12_holds cX12_holds 4 none :: wA) B.pre w (List.mem_cons_of_mem _ h)
  have hown : s.vm.findClass RX12 = some m.cls := findClass_of_methodNamed B.named
  have hlocks := B.notSynchronized
  subst hsz
  have hD := hD0.self (sz := s.heap.size)
  generalize hAe : va_A (wd_770 rm km fz0) s.heap.size = A at hD ⊢
  have hA : ∀ q : Nat, s.heap.size ≤ q → A q := fun q h => by rw [← hAe]; exact Or.inr h
  have hS : va_S A s.heap s.heap [] := va_S.rf
  have hl := lv_entry ([.ref (rm 23), .int (-7), .int 1, .int (-1)]) (n := 4) (Nat.le_of_ble_eq_true rfl)
  rw [lg_entry_eq]
  generalize (lg_sl ([.ref (rm 23), .int (-7), .int 1, .int (-1)]) ++ List.replicate (4 - (lg_sl ([.ref (rm 23), .int (-7), .int 1, .int (-1)])).length) Slot.unset).toArray = ls at hl ⊢
  have hl : lv_has ls 4 [(0, .ref (rm 23)), (1, .int (-7)), (2, .int 1), (3, .int (-1))] := hl
  refine lv_aload_n hx hb dX12_holds_0 rfl (lv_at hl 0 rfl) ?_
  refine lv_iload_n hx hb dX12_holds_1 rfl (lv_at hl 1 rfl) ?_
  have hPc := hP.sub (ws' := []) [] rfl
  have hDc := hD.sub (ws' := []) [] (by decide) rfl
  have hKc := hK.sub (tys' := []) [] rfl
  have hFc := va_free (wc := []) hD hS hA [] rfl
  refine va_calli (va_runS (As := [.int (-7)]) (rest := [.ref (rm 23)]) ⟨hx, hb, hml, hown, hts⟩ (c76_X12_cellAt l dC dI s.heap.size) (va_cwS 1 hts (gS q_387 q_388 q_372 q_386) rfl rfl rfl mds_yX12_cellAt ⟨Nat.le_of_ble_eq_true rfl, Nat.le_of_ble_eq_true rfl⟩) ⟨fun a U g mk q => by obtain ⟨q0, q1, qP, qK, qD⟩ := q; exact ⟨q0, q1, qP, va_K.moved (u := U) (U := U.calling g mk a) (Vm.Alike.refl U.vm) qK, qD⟩, fun U hU hW => ⟨rfl, by rw [hU], by rw [hU]; exact hPc, va_K.moved hW.alike hKc, hDc.weaken (fun _ _ _ _ => trivial)⟩⟩ rfl rfl hl.1 rfl (lv_room (Nat.le_of_ble_eq_true rfl)) dX12_holds_2 ⟨Nat.le_of_ble_eq_true rfl, Nat.le_of_ble_eq_true rfl⟩) hS (fun q _ h => hFc q h) hFc (fun r_1198 u t H1 locs ht hvm hw hB hz1 hk1 hS => ?_)
  obtain ⟨hP1, hK1, hD1⟩ := hB
  rw [ht] at hP1
  have hK1 := va_K.moved hvm.symm hK1
  obtain ⟨hP, hD⟩ := va_join (wr := (wd_770 rm km fz0)) (w1 := []) hP hD [] [0] rfl rfl (by decide) (by decide) hk1 hFc hP1 hD1
  generalize H1 = H at hP hS ⊢
  have hP : va_P (dC, dI) vwCl (wd_770 rm km fz0) H := hP
  have hD : va_D A (wd_770 rm km fz0) := hD
  obtain rfl : r_1198 = 88 := hw
  refine lv_iload_n hx hb dX12_holds_5 rfl (lv_at hl 2 rfl) ?_
  refine va_iast hx hb hK hP hD hS 0 0 rfl rfl (vpi (by decide)) dX12_holds_6 (fun H locs hP hD hS => ?_)
  obtain ⟨f1199, hP, hD⟩ : ∃ f : Nat → Int32, va_P (dC, dI) vwCl (wd_771 rm km f) H ∧ va_D A (wd_771 rm km f) := ⟨_, hP, hD⟩
  have hP : va_P (dC, dI) vwCl (wd_782 rm km f1199) H := hP
  have hD : va_D A (wd_782 rm km f1199) := hD
  refine lv_aload_n hx hb dX12_holds_7 rfl (lv_at hl 0 rfl) ?_
  refine lv_iload_n hx hb dX12_holds_8 rfl (lv_at hl 1 rfl) ?_
  have hPc := hP.sub (ws' := []) [] rfl
  have hDc := hD.sub (ws' := []) [] (by decide) rfl
  have hKc := hK.sub (tys' := []) [] rfl
  have hFc := va_free (wc := []) hD hS hA [] rfl
  refine va_calli (va_runS (As := [.int (-7)]) (rest := [.ref (rm 23)]) ⟨hx, hb, hml, hown, hts⟩ (c76_X12_cellAt l dC dI H.size) (va_cwS 1 hts (gS q_387 q_388 q_372 q_386) rfl rfl rfl mds_yX12_cellAt ⟨Nat.le_of_ble_eq_true rfl, Nat.le_of_ble_eq_true rfl⟩) ⟨fun a U g mk q => by obtain ⟨q0, q1, qP, qK, qD⟩ := q; exact ⟨q0, q1, qP, va_K.moved (u := U) (U := U.calling g mk a) (Vm.Alike.refl U.vm) qK, qD⟩, fun U hU hW => ⟨rfl, by rw [hU], by rw [hU]; exact hPc, va_K.moved hW.alike hKc, hDc.weaken (fun _ _ _ _ => trivial)⟩⟩ rfl rfl hl.1 rfl (lv_room (Nat.le_of_ble_eq_true rfl)) dX12_holds_9 ⟨Nat.le_of_ble_eq_true rfl, Nat.le_of_ble_eq_true rfl⟩) hS (fun q _ h => hFc q h) hFc (fun r_1200 u t H1 locs ht hvm hw hB hz1 hk1 hS => ?_)
  obtain ⟨hP1, hK1, hD1⟩ := hB
  rw [ht] at hP1
  have hK1 := va_K.moved hvm.symm hK1
  obtain ⟨hP, hD⟩ := va_join (wr := (wd_782 rm km f1199)) (w1 := []) hP hD [] [0] rfl rfl (by decide) (by decide) hk1 hFc hP1 hD1
  generalize H1 = H at hP hS ⊢
  have hP : va_P (dC, dI) vwCl (wd_782 rm km f1199) H := hP
  have hD : va_D A (wd_782 rm km f1199) := hD
  obtain rfl : r_1200 = 88 := hw
  refine lv_iconst (v := 1) hx hb dX12_holds_12 (by decide) ?_
  refine lv_iadd hx hb dX12_holds_13 ?_
  refine lv_topi (fun x_1201 ex_1201 => ?_)
  obtain rfl : x_1201 = 89 := ex_1201.trans (by decide)
  refine lv_iload_n hx hb dX12_holds_14 rfl (lv_at hl 3 rfl) ?_
  refine va_iast hx hb hK hP hD hS 0 0 rfl rfl (vpi (by decide)) dX12_holds_15 (fun H locs hP hD hS => ?_)
  obtain ⟨f1202, hP, hD⟩ : ∃ f : Nat → Int32, va_P (dC, dI) vwCl (wd_771 rm km f) H ∧ va_D A (wd_771 rm km f) := ⟨_, hP, hD⟩
  have hP : va_P (dC, dI) vwCl (wd_783 rm km f1202) H := hP
  have hD : va_D A (wd_783 rm km f1202) := hD
  refine W.widen (k := 0) (n := 0) (Nat.le_of_ble_eq_true rfl) (Nat.le_of_ble_eq_true rfl) ?_
  have hP9 := hP.sub (ws' := (wd_783 rm km f1202)) [0] rfl
  have hD9 := hD.sub (ws' := (wd_783 rm km f1202)) [0] (by decide) rfl
  have hK9 := hK.sub (tys' := [((km 3), .int)]) [0] rfl
  exact W.vret hx hb hr (fun t ht hW => ⟨⟨(), rfl, trivial, f1202, by rw [ht]; exact hP9, va_K.moved hW.alike hK9, hD9⟩, hS.F ht⟩) hS.2.2 dX12_holds_16
def wd_784 (rm : Nat → Nat) (km : Nat → ClassId) (f1204 : Nat → Int32) : va_W := [((rm 23), .inl ((km 3), 422, .inl f1204))]
def wd_785 (rm : Nat → Nat) (km : Nat → ClassId) (f1204 : Nat → Int32) : va_W := [((rm 0), .inr (12, [.ref (rm 1), .int 0, .int 0, .int 0, .int (-1), .int 0, .int (-1), .int 0, .int (-1), .ref (rm 2), .ref (rm 3), .ref (rm 4), .ref (rm 5), .ref (rm 6), .ref (rm 7), .ref (rm 8), .ref (rm 9), .ref (rm 10), .ref (rm 11), .ref (rm 12), .ref (rm 13), .ref (rm 14), .ref (rm 15), .ref (rm 16), .int 0, .int 0, .int 0, .int 0, .int 0, .ref (rm 17), .ref (rm 18), .ref (rm 19), .ref (rm 20), .ref (rm 21), .int 0, .ref (rm 22), .ref (rm 23), .ref (rm 24), .int 0, .int 0, .int 0, .ref (rm 25), .ref (rm 26), .ref (rm 27), .int 0, .ref (rm 28), .ref (rm 29), .int 0, .ref (rm 30), .ref (rm 31), .int 0, .ref (rm 32), .ref (rm 33), .int 0, .ref (rm 34), .ref (rm 35), .int 0, .int 0, .int 0, .ref (rm 36), .ref (rm 37), .int 0, .ref (rm 38), .ref (rm 39), .int 0, .ref (rm 40), .ref (rm 41), .ref (rm 42), .int 0, .int 0, .long 1, .ref (rm 43), .int 0, .int 0, .int (-1), .int 0, .int 0, .int 0, .int 0, .ref (rm 44), .ref (rm 45), .ref (rm 46), .ref (rm 47), .int 0])), ((rm 1), .inl ((km 0), 1600, .inl (fun _ => 0))), ((rm 2), .inl ((km 1), 7, .inl (fun _ => 0))), ((rm 22), .inl ((km 2), 422, .inl (fun _ => 0))), ((rm 23), .inl ((km 3), 422, .inl f1204))]
set_option maxHeartbeats 4000000 in
set_option maxRecDepth 100000 in
theorem c78_X12_cellAt (l : Launch) (dC : Nat → ClassId) (dI : Nat → Nat → Nat) (sz : Nat) : Met l yX12_cellAt (Cond.code yX12_cellAt cX12_cellAt 1 (some .int) :: wA) ({ frames := 0, cells := 0, slots := 0, locals := 0 }) (va_Pc [.int (-6)] (fun U => U.heap.size = sz ∧ va_P (dC, dI) vwCl [] U.heap ∧ va_K (dC, dI) vwCl [] U ∧ va_D (fun _ => True) [])) (va_Qi (fun (r : Int32) (_ : Unit) => r = 90) (fun _ t => va_P (dC, dI) vwCl [] t.heap ∧ va_K (dC, dI) vwCl [] t ∧ va_D (va_A [] sz) []) (va_A [] sz)) 0 0 (va_A [] sz) := by
  refine Met.ofW (cc := cX12_cellAt) (maxL := 1) (ret := (some .int)) (by decide) rfl ?_
  intro p e s m args below meth c s₁ B hml hv
  obtain ⟨rfl, hsz, hP, hK, hD0⟩ := hv
  have hx := B.exec
  have hb := B.bytes
  have hr := B.returns
  have hts : ∀ w ∈ wA, w.before [.int (-6)].toArray s = true := fun w h => atoms_spec (ws := Cond.code yX12_cellAt cX12_cellAt 1 (some .int) :: wA) B.pre w (List.mem_cons_of_mem _ h)
  have hown : s.vm.findClass RX12 = some m.cls := findClass_of_methodNamed B.named
  have hlocks := B.notSynchronized
  subst hsz
  have hD := hD0.self (sz := s.heap.size)
  generalize hAe : va_A [] s.heap.size = A at hD ⊢
  have hA : ∀ q : Nat, s.heap.size ≤ q → A q := fun q h => by rw [← hAe]; exact Or.inr h
  have hS : va_S A s.heap s.heap [] := va_S.rf
  have hl := lv_entry ([.int (-6)]) (n := 1) (Nat.le_of_ble_eq_true rfl)
  rw [lg_entry_eq]
  generalize (lg_sl ([.int (-6)]) ++ List.replicate (1 - (lg_sl ([.int (-6)])).length) Slot.unset).toArray = ls at hl ⊢
  have hl : lv_has ls 1 [(0, .int (-6))] := hl
  refine lv_bipush (v := 86) hx hb dX12_cellAt_0 (by decide) ?_
  refine lv_iconst (v := 2) hx hb dX12_cellAt_2 (by decide) ?_
  refine lv_iload_n hx hb dX12_cellAt_3 rfl (lv_at hl 0 rfl) ?_
  refine lv_bipush (v := 8) hx hb dX12_cellAt_4 (by decide) ?_
  refine lv_iadd hx hb dX12_cellAt_6 ?_
  refine lv_topi (fun x_1208 ex_1208 => ?_)
  obtain rfl : x_1208 = 2 := ex_1208.trans (by decide)
  refine lv_imul hx hb dX12_cellAt_7 ?_
  refine lv_topi (fun x_1209 ex_1209 => ?_)
  obtain rfl : x_1209 = 4 := ex_1209.trans (by decide)
  refine lv_iadd hx hb dX12_cellAt_8 ?_
  refine lv_topi (fun x_1210 ex_1210 => ?_)
  obtain rfl : x_1210 = 90 := ex_1210.trans (by decide)
  refine W.widen (k := 0) (n := 0) (Nat.le_of_ble_eq_true rfl) (Nat.le_of_ble_eq_true rfl) ?_
  have hP9 := hP.sub (ws' := []) [] rfl
  have hD9 := hD.sub (ws' := []) [] (by decide) rfl
  have hK9 := hK.sub (tys' := []) [] rfl
  exact W.iret (v := 90) hx hb hr (fun t ht hW => ⟨⟨90, (), rfl, rfl, by rw [ht]; exact hP9, va_K.moved hW.alike hK9, hD9⟩, hS.F ht⟩) hS.2.2 dX12_cellAt_9
def wd_786 (rm : Nat → Nat) (km : Nat → ClassId) (f1212 : Nat → Int32) : va_W := [((rm 23), .inl ((km 3), 422, .inl f1212))]
def wd_787 (rm : Nat → Nat) (km : Nat → ClassId) (f1215 : Nat → Int32) : va_W := [((rm 23), .inl ((km 3), 422, .inl f1215))]
def wd_788 (rm : Nat → Nat) (km : Nat → ClassId) (f1217 : Nat → Int32) : va_W := [((rm 23), .inl ((km 3), 422, .inl f1217))]
def wd_789 (rm : Nat → Nat) (km : Nat → ClassId) (f1220 : Nat → Int32) : va_W := [((rm 23), .inl ((km 3), 422, .inl f1220))]
set_option maxHeartbeats 4000000 in
set_option maxRecDepth 100000 in
theorem c79_X12_holds (l : Launch) (dC : Nat → ClassId) (dI : Nat → Nat → Nat) (rm : Nat → Nat) (km : Nat → ClassId) (fz0 : Nat → Int32) (sz : Nat) : Met l yX12_holds (Cond.code yX12_holds cX12_holds 4 none :: wA) ({ frames := 1, cells := 0, slots := 0, locals := 20 }) (va_Pc [.ref (rm 23), .int (-6), .int 1, .int (-1)] (fun U => U.heap.size = sz ∧ va_P (dC, dI) vwCl (wd_770 rm km fz0) U.heap ∧ va_K (dC, dI) vwCl [((km 3), .int)] U ∧ va_D (fun _ => True) (wd_770 rm km fz0))) (va_Qv (fun (_ : Unit) => True) (fun _ t => ∃ f1220 : Nat → Int32, va_P (dC, dI) vwCl (wd_789 rm km f1220) t.heap ∧ va_K (dC, dI) vwCl [((km 3), .int)] t ∧ va_D (va_A (wd_770 rm km fz0) sz) (wd_789 rm km f1220)) (va_A (wd_770 rm km fz0) sz)) 0 0 (va_A (wd_770 rm km fz0) sz) := by
  refine Met.ofW (cc := cX12_holds) (maxL := 4) (ret := none) (by decide) rfl ?_
  intro p e s m args below meth c s₁ B hml hv
  obtain ⟨rfl, hsz, hP, hK, hD0⟩ := hv
  have hx := B.exec
  have hb := B.bytes
  have hr := B.returns
  have hts : ∀ w ∈ wA, w.before [.ref (rm 23), .int (-6), .int 1, .int (-1)].toArray s = true := fun w h => atoms_spec (ws := Cond.code yX12_holds cX12_holds 4 none :: wA) B.pre w (List.mem_cons_of_mem _ h)
  have hown : s.vm.findClass RX12 = some m.cls := findClass_of_methodNamed B.named
  have hlocks := B.notSynchronized
  subst hsz
  have hD := hD0.self (sz := s.heap.size)
  generalize hAe : va_A (wd_770 rm km fz0) s.heap.size = A at hD ⊢
  have hA : ∀ q : Nat, s.heap.size ≤ q → A q := fun q h => by rw [← hAe]; exact Or.inr h
  have hS : va_S A s.heap s.heap [] := va_S.rf
  have hl := lv_entry ([.ref (rm 23), .int (-6), .int 1, .int (-1)]) (n := 4) (Nat.le_of_ble_eq_true rfl)
  rw [lg_entry_eq]
  generalize (lg_sl ([.ref (rm 23), .int (-6), .int 1, .int (-1)]) ++ List.replicate (4 - (lg_sl ([.ref (rm 23), .int (-6), .int 1, .int (-1)])).length) Slot.unset).toArray = ls at hl ⊢
  have hl : lv_has ls 4 [(0, .ref (rm 23)), (1, .int (-6)), (2, .int 1), (3, .int (-1))] := hl
  refine lv_aload_n hx hb dX12_holds_0 rfl (lv_at hl 0 rfl) ?_
  refine lv_iload_n hx hb dX12_holds_1 rfl (lv_at hl 1 rfl) ?_
  have hPc := hP.sub (ws' := []) [] rfl
  have hDc := hD.sub (ws' := []) [] (by decide) rfl
  have hKc := hK.sub (tys' := []) [] rfl
  have hFc := va_free (wc := []) hD hS hA [] rfl
  refine va_calli (va_runS (As := [.int (-6)]) (rest := [.ref (rm 23)]) ⟨hx, hb, hml, hown, hts⟩ (c78_X12_cellAt l dC dI s.heap.size) (va_cwS 1 hts (gS q_387 q_388 q_372 q_386) rfl rfl rfl mds_yX12_cellAt ⟨Nat.le_of_ble_eq_true rfl, Nat.le_of_ble_eq_true rfl⟩) ⟨fun a U g mk q => by obtain ⟨q0, q1, qP, qK, qD⟩ := q; exact ⟨q0, q1, qP, va_K.moved (u := U) (U := U.calling g mk a) (Vm.Alike.refl U.vm) qK, qD⟩, fun U hU hW => ⟨rfl, by rw [hU], by rw [hU]; exact hPc, va_K.moved hW.alike hKc, hDc.weaken (fun _ _ _ _ => trivial)⟩⟩ rfl rfl hl.1 rfl (lv_room (Nat.le_of_ble_eq_true rfl)) dX12_holds_2 ⟨Nat.le_of_ble_eq_true rfl, Nat.le_of_ble_eq_true rfl⟩) hS (fun q _ h => hFc q h) hFc (fun r_1216 u t H1 locs ht hvm hw hB hz1 hk1 hS => ?_)
  obtain ⟨hP1, hK1, hD1⟩ := hB
  rw [ht] at hP1
  have hK1 := va_K.moved hvm.symm hK1
  obtain ⟨hP, hD⟩ := va_join (wr := (wd_770 rm km fz0)) (w1 := []) hP hD [] [0] rfl rfl (by decide) (by decide) hk1 hFc hP1 hD1
  generalize H1 = H at hP hS ⊢
  have hP : va_P (dC, dI) vwCl (wd_770 rm km fz0) H := hP
  have hD : va_D A (wd_770 rm km fz0) := hD
  obtain rfl : r_1216 = 90 := hw
  refine lv_iload_n hx hb dX12_holds_5 rfl (lv_at hl 2 rfl) ?_
  refine va_iast hx hb hK hP hD hS 0 0 rfl rfl (vpi (by decide)) dX12_holds_6 (fun H locs hP hD hS => ?_)
  obtain ⟨f1217, hP, hD⟩ : ∃ f : Nat → Int32, va_P (dC, dI) vwCl (wd_771 rm km f) H ∧ va_D A (wd_771 rm km f) := ⟨_, hP, hD⟩
  have hP : va_P (dC, dI) vwCl (wd_788 rm km f1217) H := hP
  have hD : va_D A (wd_788 rm km f1217) := hD
  refine lv_aload_n hx hb dX12_holds_7 rfl (lv_at hl 0 rfl) ?_
  refine lv_iload_n hx hb dX12_holds_8 rfl (lv_at hl 1 rfl) ?_
  have hPc := hP.sub (ws' := []) [] rfl
  have hDc := hD.sub (ws' := []) [] (by decide) rfl
  have hKc := hK.sub (tys' := []) [] rfl
  have hFc := va_free (wc := []) hD hS hA [] rfl
  refine va_calli (va_runS (As := [.int (-6)]) (rest := [.ref (rm 23)]) ⟨hx, hb, hml, hown, hts⟩ (c78_X12_cellAt l dC dI H.size) (va_cwS 1 hts (gS q_387 q_388 q_372 q_386) rfl rfl rfl mds_yX12_cellAt ⟨Nat.le_of_ble_eq_true rfl, Nat.le_of_ble_eq_true rfl⟩) ⟨fun a U g mk q => by obtain ⟨q0, q1, qP, qK, qD⟩ := q; exact ⟨q0, q1, qP, va_K.moved (u := U) (U := U.calling g mk a) (Vm.Alike.refl U.vm) qK, qD⟩, fun U hU hW => ⟨rfl, by rw [hU], by rw [hU]; exact hPc, va_K.moved hW.alike hKc, hDc.weaken (fun _ _ _ _ => trivial)⟩⟩ rfl rfl hl.1 rfl (lv_room (Nat.le_of_ble_eq_true rfl)) dX12_holds_9 ⟨Nat.le_of_ble_eq_true rfl, Nat.le_of_ble_eq_true rfl⟩) hS (fun q _ h => hFc q h) hFc (fun r_1218 u t H1 locs ht hvm hw hB hz1 hk1 hS => ?_)
  obtain ⟨hP1, hK1, hD1⟩ := hB
  rw [ht] at hP1
  have hK1 := va_K.moved hvm.symm hK1
  obtain ⟨hP, hD⟩ := va_join (wr := (wd_788 rm km f1217)) (w1 := []) hP hD [] [0] rfl rfl (by decide) (by decide) hk1 hFc hP1 hD1
  generalize H1 = H at hP hS ⊢
  have hP : va_P (dC, dI) vwCl (wd_788 rm km f1217) H := hP
  have hD : va_D A (wd_788 rm km f1217) := hD
  obtain rfl : r_1218 = 90 := hw
  refine lv_iconst (v := 1) hx hb dX12_holds_12 (by decide) ?_
  refine lv_iadd hx hb dX12_holds_13 ?_
  refine lv_topi (fun x_1219 ex_1219 => ?_)
  obtain rfl : x_1219 = 91 := ex_1219.trans (by decide)
  refine lv_iload_n hx hb dX12_holds_14 rfl (lv_at hl 3 rfl) ?_
  refine va_iast hx hb hK hP hD hS 0 0 rfl rfl (vpi (by decide)) dX12_holds_15 (fun H locs hP hD hS => ?_)
  obtain ⟨f1220, hP, hD⟩ : ∃ f : Nat → Int32, va_P (dC, dI) vwCl (wd_771 rm km f) H ∧ va_D A (wd_771 rm km f) := ⟨_, hP, hD⟩
  have hP : va_P (dC, dI) vwCl (wd_789 rm km f1220) H := hP
  have hD : va_D A (wd_789 rm km f1220) := hD
  refine W.widen (k := 0) (n := 0) (Nat.le_of_ble_eq_true rfl) (Nat.le_of_ble_eq_true rfl) ?_
  have hP9 := hP.sub (ws' := (wd_789 rm km f1220)) [0] rfl
  have hD9 := hD.sub (ws' := (wd_789 rm km f1220)) [0] (by decide) rfl
  have hK9 := hK.sub (tys' := [((km 3), .int)]) [0] rfl
  exact W.vret hx hb hr (fun t ht hW => ⟨⟨(), rfl, trivial, f1220, by rw [ht]; exact hP9, va_K.moved hW.alike hK9, hD9⟩, hS.F ht⟩) hS.2.2 dX12_holds_16
def wd_790 (rm : Nat → Nat) (km : Nat → ClassId) (f1222 : Nat → Int32) : va_W := [((rm 23), .inl ((km 3), 422, .inl f1222))]
def wd_791 (rm : Nat → Nat) (km : Nat → ClassId) (f1222 : Nat → Int32) : va_W := [((rm 0), .inr (12, [.ref (rm 1), .int 0, .int 0, .int 0, .int (-1), .int 0, .int (-1), .int 0, .int (-1), .ref (rm 2), .ref (rm 3), .ref (rm 4), .ref (rm 5), .ref (rm 6), .ref (rm 7), .ref (rm 8), .ref (rm 9), .ref (rm 10), .ref (rm 11), .ref (rm 12), .ref (rm 13), .ref (rm 14), .ref (rm 15), .ref (rm 16), .int 0, .int 0, .int 0, .int 0, .int 0, .ref (rm 17), .ref (rm 18), .ref (rm 19), .ref (rm 20), .ref (rm 21), .int 0, .ref (rm 22), .ref (rm 23), .ref (rm 24), .int 0, .int 0, .int 0, .ref (rm 25), .ref (rm 26), .ref (rm 27), .int 0, .ref (rm 28), .ref (rm 29), .int 0, .ref (rm 30), .ref (rm 31), .int 0, .ref (rm 32), .ref (rm 33), .int 0, .ref (rm 34), .ref (rm 35), .int 0, .int 0, .int 0, .ref (rm 36), .ref (rm 37), .int 0, .ref (rm 38), .ref (rm 39), .int 0, .ref (rm 40), .ref (rm 41), .ref (rm 42), .int 0, .int 0, .long 1, .ref (rm 43), .int 0, .int 0, .int (-1), .int 0, .int 0, .int 0, .int 0, .ref (rm 44), .ref (rm 45), .ref (rm 46), .ref (rm 47), .int 0])), ((rm 1), .inl ((km 0), 1600, .inl (fun _ => 0))), ((rm 2), .inl ((km 1), 7, .inl (fun _ => 0))), ((rm 22), .inl ((km 2), 422, .inl (fun _ => 0))), ((rm 23), .inl ((km 3), 422, .inl f1222))]
set_option maxHeartbeats 4000000 in
set_option maxRecDepth 100000 in
theorem c80_X12_cellAt (l : Launch) (dC : Nat → ClassId) (dI : Nat → Nat → Nat) (sz : Nat) : Met l yX12_cellAt (Cond.code yX12_cellAt cX12_cellAt 1 (some .int) :: wA) ({ frames := 0, cells := 0, slots := 0, locals := 0 }) (va_Pc [.int (-5)] (fun U => U.heap.size = sz ∧ va_P (dC, dI) vwCl [] U.heap ∧ va_K (dC, dI) vwCl [] U ∧ va_D (fun _ => True) [])) (va_Qi (fun (r : Int32) (_ : Unit) => r = 92) (fun _ t => va_P (dC, dI) vwCl [] t.heap ∧ va_K (dC, dI) vwCl [] t ∧ va_D (va_A [] sz) []) (va_A [] sz)) 0 0 (va_A [] sz) := by
  refine Met.ofW (cc := cX12_cellAt) (maxL := 1) (ret := (some .int)) (by decide) rfl ?_
  intro p e s m args below meth c s₁ B hml hv
  obtain ⟨rfl, hsz, hP, hK, hD0⟩ := hv
  have hx := B.exec
  have hb := B.bytes
  have hr := B.returns
  have hts : ∀ w ∈ wA, w.before [.int (-5)].toArray s = true := fun w h => atoms_spec (ws := Cond.code yX12_cellAt cX12_cellAt 1 (some .int) :: wA) B.pre w (List.mem_cons_of_mem _ h)
  have hown : s.vm.findClass RX12 = some m.cls := findClass_of_methodNamed B.named
  have hlocks := B.notSynchronized
  subst hsz
  have hD := hD0.self (sz := s.heap.size)
  generalize hAe : va_A [] s.heap.size = A at hD ⊢
  have hA : ∀ q : Nat, s.heap.size ≤ q → A q := fun q h => by rw [← hAe]; exact Or.inr h
  have hS : va_S A s.heap s.heap [] := va_S.rf
  have hl := lv_entry ([.int (-5)]) (n := 1) (Nat.le_of_ble_eq_true rfl)
  rw [lg_entry_eq]
  generalize (lg_sl ([.int (-5)]) ++ List.replicate (1 - (lg_sl ([.int (-5)])).length) Slot.unset).toArray = ls at hl ⊢
  have hl : lv_has ls 1 [(0, .int (-5))] := hl
  refine lv_bipush (v := 86) hx hb dX12_cellAt_0 (by decide) ?_
  refine lv_iconst (v := 2) hx hb dX12_cellAt_2 (by decide) ?_
  refine lv_iload_n hx hb dX12_cellAt_3 rfl (lv_at hl 0 rfl) ?_
  refine lv_bipush (v := 8) hx hb dX12_cellAt_4 (by decide) ?_
  refine lv_iadd hx hb dX12_cellAt_6 ?_
  refine lv_topi (fun x_1226 ex_1226 => ?_)
  obtain rfl : x_1226 = 3 := ex_1226.trans (by decide)
  refine lv_imul hx hb dX12_cellAt_7 ?_
  refine lv_topi (fun x_1227 ex_1227 => ?_)
  obtain rfl : x_1227 = 6 := ex_1227.trans (by decide)
  refine lv_iadd hx hb dX12_cellAt_8 ?_
  refine lv_topi (fun x_1228 ex_1228 => ?_)
  obtain rfl : x_1228 = 92 := ex_1228.trans (by decide)
  refine W.widen (k := 0) (n := 0) (Nat.le_of_ble_eq_true rfl) (Nat.le_of_ble_eq_true rfl) ?_
  have hP9 := hP.sub (ws' := []) [] rfl
  have hD9 := hD.sub (ws' := []) [] (by decide) rfl
  have hK9 := hK.sub (tys' := []) [] rfl
  exact W.iret (v := 92) hx hb hr (fun t ht hW => ⟨⟨92, (), rfl, rfl, by rw [ht]; exact hP9, va_K.moved hW.alike hK9, hD9⟩, hS.F ht⟩) hS.2.2 dX12_cellAt_9
def wd_792 (rm : Nat → Nat) (km : Nat → ClassId) (f1230 : Nat → Int32) : va_W := [((rm 23), .inl ((km 3), 422, .inl f1230))]
def wd_793 (rm : Nat → Nat) (km : Nat → ClassId) (f1233 : Nat → Int32) : va_W := [((rm 23), .inl ((km 3), 422, .inl f1233))]
def wd_794 (rm : Nat → Nat) (km : Nat → ClassId) (f1235 : Nat → Int32) : va_W := [((rm 23), .inl ((km 3), 422, .inl f1235))]
def wd_795 (rm : Nat → Nat) (km : Nat → ClassId) (f1238 : Nat → Int32) : va_W := [((rm 23), .inl ((km 3), 422, .inl f1238))]
set_option maxHeartbeats 4000000 in
set_option maxRecDepth 100000 in
theorem c81_X12_holds (l : Launch) (dC : Nat → ClassId) (dI : Nat → Nat → Nat) (rm : Nat → Nat) (km : Nat → ClassId) (fz0 : Nat → Int32) (sz : Nat) : Met l yX12_holds (Cond.code yX12_holds cX12_holds 4 none :: wA) ({ frames := 1, cells := 0, slots := 0, locals := 20 }) (va_Pc [.ref (rm 23), .int (-5), .int 1, .int (-1)] (fun U => U.heap.size = sz ∧ va_P (dC, dI) vwCl (wd_770 rm km fz0) U.heap ∧ va_K (dC, dI) vwCl [((km 3), .int)] U ∧ va_D (fun _ => True) (wd_770 rm km fz0))) (va_Qv (fun (_ : Unit) => True) (fun _ t => ∃ f1238 : Nat → Int32, va_P (dC, dI) vwCl (wd_795 rm km f1238) t.heap ∧ va_K (dC, dI) vwCl [((km 3), .int)] t ∧ va_D (va_A (wd_770 rm km fz0) sz) (wd_795 rm km f1238)) (va_A (wd_770 rm km fz0) sz)) 0 0 (va_A (wd_770 rm km fz0) sz) := by
  refine Met.ofW (cc := cX12_holds) (maxL := 4) (ret := none) (by decide) rfl ?_
  intro p e s m args below meth c s₁ B hml hv
  obtain ⟨rfl, hsz, hP, hK, hD0⟩ := hv
  have hx := B.exec
  have hb := B.bytes
  have hr := B.returns
  have hts : ∀ w ∈ wA, w.before [.ref (rm 23), .int (-5), .int 1, .int (-1)].toArray s = true := fun w h => atoms_spec (ws := Cond.code yX12_holds cX12_holds 4 none :: wA) B.pre w (List.mem_cons_of_mem _ h)
  have hown : s.vm.findClass RX12 = some m.cls := findClass_of_methodNamed B.named
  have hlocks := B.notSynchronized
  subst hsz
  have hD := hD0.self (sz := s.heap.size)
  generalize hAe : va_A (wd_770 rm km fz0) s.heap.size = A at hD ⊢
  have hA : ∀ q : Nat, s.heap.size ≤ q → A q := fun q h => by rw [← hAe]; exact Or.inr h
  have hS : va_S A s.heap s.heap [] := va_S.rf
  have hl := lv_entry ([.ref (rm 23), .int (-5), .int 1, .int (-1)]) (n := 4) (Nat.le_of_ble_eq_true rfl)
  rw [lg_entry_eq]
  generalize (lg_sl ([.ref (rm 23), .int (-5), .int 1, .int (-1)]) ++ List.replicate (4 - (lg_sl ([.ref (rm 23), .int (-5), .int 1, .int (-1)])).length) Slot.unset).toArray = ls at hl ⊢
  have hl : lv_has ls 4 [(0, .ref (rm 23)), (1, .int (-5)), (2, .int 1), (3, .int (-1))] := hl
  refine lv_aload_n hx hb dX12_holds_0 rfl (lv_at hl 0 rfl) ?_
  refine lv_iload_n hx hb dX12_holds_1 rfl (lv_at hl 1 rfl) ?_
  have hPc := hP.sub (ws' := []) [] rfl
  have hDc := hD.sub (ws' := []) [] (by decide) rfl
  have hKc := hK.sub (tys' := []) [] rfl
  have hFc := va_free (wc := []) hD hS hA [] rfl
  refine va_calli (va_runS (As := [.int (-5)]) (rest := [.ref (rm 23)]) ⟨hx, hb, hml, hown, hts⟩ (c80_X12_cellAt l dC dI s.heap.size) (va_cwS 1 hts (gS q_387 q_388 q_372 q_386) rfl rfl rfl mds_yX12_cellAt ⟨Nat.le_of_ble_eq_true rfl, Nat.le_of_ble_eq_true rfl⟩) ⟨fun a U g mk q => by obtain ⟨q0, q1, qP, qK, qD⟩ := q; exact ⟨q0, q1, qP, va_K.moved (u := U) (U := U.calling g mk a) (Vm.Alike.refl U.vm) qK, qD⟩, fun U hU hW => ⟨rfl, by rw [hU], by rw [hU]; exact hPc, va_K.moved hW.alike hKc, hDc.weaken (fun _ _ _ _ => trivial)⟩⟩ rfl rfl hl.1 rfl (lv_room (Nat.le_of_ble_eq_true rfl)) dX12_holds_2 ⟨Nat.le_of_ble_eq_true rfl, Nat.le_of_ble_eq_true rfl⟩) hS (fun q _ h => hFc q h) hFc (fun r_1234 u t H1 locs ht hvm hw hB hz1 hk1 hS => ?_)
  obtain ⟨hP1, hK1, hD1⟩ := hB
  rw [ht] at hP1
  have hK1 := va_K.moved hvm.symm hK1
  obtain ⟨hP, hD⟩ := va_join (wr := (wd_770 rm km fz0)) (w1 := []) hP hD [] [0] rfl rfl (by decide) (by decide) hk1 hFc hP1 hD1
  generalize H1 = H at hP hS ⊢
  have hP : va_P (dC, dI) vwCl (wd_770 rm km fz0) H := hP
  have hD : va_D A (wd_770 rm km fz0) := hD
  obtain rfl : r_1234 = 92 := hw
  refine lv_iload_n hx hb dX12_holds_5 rfl (lv_at hl 2 rfl) ?_
  refine va_iast hx hb hK hP hD hS 0 0 rfl rfl (vpi (by decide)) dX12_holds_6 (fun H locs hP hD hS => ?_)
  obtain ⟨f1235, hP, hD⟩ : ∃ f : Nat → Int32, va_P (dC, dI) vwCl (wd_771 rm km f) H ∧ va_D A (wd_771 rm km f) := ⟨_, hP, hD⟩
  have hP : va_P (dC, dI) vwCl (wd_794 rm km f1235) H := hP
  have hD : va_D A (wd_794 rm km f1235) := hD
  refine lv_aload_n hx hb dX12_holds_7 rfl (lv_at hl 0 rfl) ?_
  refine lv_iload_n hx hb dX12_holds_8 rfl (lv_at hl 1 rfl) ?_
  have hPc := hP.sub (ws' := []) [] rfl
  have hDc := hD.sub (ws' := []) [] (by decide) rfl
  have hKc := hK.sub (tys' := []) [] rfl
  have hFc := va_free (wc := []) hD hS hA [] rfl
  refine va_calli (va_runS (As := [.int (-5)]) (rest := [.ref (rm 23)]) ⟨hx, hb, hml, hown, hts⟩ (c80_X12_cellAt l dC dI H.size) (va_cwS 1 hts (gS q_387 q_388 q_372 q_386) rfl rfl rfl mds_yX12_cellAt ⟨Nat.le_of_ble_eq_true rfl, Nat.le_of_ble_eq_true rfl⟩) ⟨fun a U g mk q => by obtain ⟨q0, q1, qP, qK, qD⟩ := q; exact ⟨q0, q1, qP, va_K.moved (u := U) (U := U.calling g mk a) (Vm.Alike.refl U.vm) qK, qD⟩, fun U hU hW => ⟨rfl, by rw [hU], by rw [hU]; exact hPc, va_K.moved hW.alike hKc, hDc.weaken (fun _ _ _ _ => trivial)⟩⟩ rfl rfl hl.1 rfl (lv_room (Nat.le_of_ble_eq_true rfl)) dX12_holds_9 ⟨Nat.le_of_ble_eq_true rfl, Nat.le_of_ble_eq_true rfl⟩) hS (fun q _ h => hFc q h) hFc (fun r_1236 u t H1 locs ht hvm hw hB hz1 hk1 hS => ?_)
  obtain ⟨hP1, hK1, hD1⟩ := hB
  rw [ht] at hP1
  have hK1 := va_K.moved hvm.symm hK1
  obtain ⟨hP, hD⟩ := va_join (wr := (wd_794 rm km f1235)) (w1 := []) hP hD [] [0] rfl rfl (by decide) (by decide) hk1 hFc hP1 hD1
  generalize H1 = H at hP hS ⊢
  have hP : va_P (dC, dI) vwCl (wd_794 rm km f1235) H := hP
  have hD : va_D A (wd_794 rm km f1235) := hD
  obtain rfl : r_1236 = 92 := hw
  refine lv_iconst (v := 1) hx hb dX12_holds_12 (by decide) ?_
  refine lv_iadd hx hb dX12_holds_13 ?_
  refine lv_topi (fun x_1237 ex_1237 => ?_)
  obtain rfl : x_1237 = 93 := ex_1237.trans (by decide)
  refine lv_iload_n hx hb dX12_holds_14 rfl (lv_at hl 3 rfl) ?_
  refine va_iast hx hb hK hP hD hS 0 0 rfl rfl (vpi (by decide)) dX12_holds_15 (fun H locs hP hD hS => ?_)
  obtain ⟨f1238, hP, hD⟩ : ∃ f : Nat → Int32, va_P (dC, dI) vwCl (wd_771 rm km f) H ∧ va_D A (wd_771 rm km f) := ⟨_, hP, hD⟩
  have hP : va_P (dC, dI) vwCl (wd_795 rm km f1238) H := hP
  have hD : va_D A (wd_795 rm km f1238) := hD
  refine W.widen (k := 0) (n := 0) (Nat.le_of_ble_eq_true rfl) (Nat.le_of_ble_eq_true rfl) ?_
  have hP9 := hP.sub (ws' := (wd_795 rm km f1238)) [0] rfl
  have hD9 := hD.sub (ws' := (wd_795 rm km f1238)) [0] (by decide) rfl
  have hK9 := hK.sub (tys' := [((km 3), .int)]) [0] rfl
  exact W.vret hx hb hr (fun t ht hW => ⟨⟨(), rfl, trivial, f1238, by rw [ht]; exact hP9, va_K.moved hW.alike hK9, hD9⟩, hS.F ht⟩) hS.2.2 dX12_holds_16
def wd_796 (rm : Nat → Nat) (km : Nat → ClassId) (f1240 : Nat → Int32) : va_W := [((rm 23), .inl ((km 3), 422, .inl f1240))]
def wd_797 (rm : Nat → Nat) (km : Nat → ClassId) (f1240 : Nat → Int32) : va_W := [((rm 0), .inr (12, [.ref (rm 1), .int 0, .int 0, .int 0, .int (-1), .int 0, .int (-1), .int 0, .int (-1), .ref (rm 2), .ref (rm 3), .ref (rm 4), .ref (rm 5), .ref (rm 6), .ref (rm 7), .ref (rm 8), .ref (rm 9), .ref (rm 10), .ref (rm 11), .ref (rm 12), .ref (rm 13), .ref (rm 14), .ref (rm 15), .ref (rm 16), .int 0, .int 0, .int 0, .int 0, .int 0, .ref (rm 17), .ref (rm 18), .ref (rm 19), .ref (rm 20), .ref (rm 21), .int 0, .ref (rm 22), .ref (rm 23), .ref (rm 24), .int 0, .int 0, .int 0, .ref (rm 25), .ref (rm 26), .ref (rm 27), .int 0, .ref (rm 28), .ref (rm 29), .int 0, .ref (rm 30), .ref (rm 31), .int 0, .ref (rm 32), .ref (rm 33), .int 0, .ref (rm 34), .ref (rm 35), .int 0, .int 0, .int 0, .ref (rm 36), .ref (rm 37), .int 0, .ref (rm 38), .ref (rm 39), .int 0, .ref (rm 40), .ref (rm 41), .ref (rm 42), .int 0, .int 0, .long 1, .ref (rm 43), .int 0, .int 0, .int (-1), .int 0, .int 0, .int 0, .int 0, .ref (rm 44), .ref (rm 45), .ref (rm 46), .ref (rm 47), .int 0])), ((rm 1), .inl ((km 0), 1600, .inl (fun _ => 0))), ((rm 2), .inl ((km 1), 7, .inl (fun _ => 0))), ((rm 22), .inl ((km 2), 422, .inl (fun _ => 0))), ((rm 23), .inl ((km 3), 422, .inl f1240))]
set_option maxHeartbeats 4000000 in
set_option maxRecDepth 100000 in
theorem c82_X12_cellAt (l : Launch) (dC : Nat → ClassId) (dI : Nat → Nat → Nat) (sz : Nat) : Met l yX12_cellAt (Cond.code yX12_cellAt cX12_cellAt 1 (some .int) :: wA) ({ frames := 0, cells := 0, slots := 0, locals := 0 }) (va_Pc [.int (-4)] (fun U => U.heap.size = sz ∧ va_P (dC, dI) vwCl [] U.heap ∧ va_K (dC, dI) vwCl [] U ∧ va_D (fun _ => True) [])) (va_Qi (fun (r : Int32) (_ : Unit) => r = 94) (fun _ t => va_P (dC, dI) vwCl [] t.heap ∧ va_K (dC, dI) vwCl [] t ∧ va_D (va_A [] sz) []) (va_A [] sz)) 0 0 (va_A [] sz) := by
  refine Met.ofW (cc := cX12_cellAt) (maxL := 1) (ret := (some .int)) (by decide) rfl ?_
  intro p e s m args below meth c s₁ B hml hv
  obtain ⟨rfl, hsz, hP, hK, hD0⟩ := hv
  have hx := B.exec
  have hb := B.bytes
  have hr := B.returns
  have hts : ∀ w ∈ wA, w.before [.int (-4)].toArray s = true := fun w h => atoms_spec (ws := Cond.code yX12_cellAt cX12_cellAt 1 (some .int) :: wA) B.pre w (List.mem_cons_of_mem _ h)
  have hown : s.vm.findClass RX12 = some m.cls := findClass_of_methodNamed B.named
  have hlocks := B.notSynchronized
  subst hsz
  have hD := hD0.self (sz := s.heap.size)
  generalize hAe : va_A [] s.heap.size = A at hD ⊢
  have hA : ∀ q : Nat, s.heap.size ≤ q → A q := fun q h => by rw [← hAe]; exact Or.inr h
  have hS : va_S A s.heap s.heap [] := va_S.rf
  have hl := lv_entry ([.int (-4)]) (n := 1) (Nat.le_of_ble_eq_true rfl)
  rw [lg_entry_eq]
  generalize (lg_sl ([.int (-4)]) ++ List.replicate (1 - (lg_sl ([.int (-4)])).length) Slot.unset).toArray = ls at hl ⊢
  have hl : lv_has ls 1 [(0, .int (-4))] := hl
  refine lv_bipush (v := 86) hx hb dX12_cellAt_0 (by decide) ?_
  refine lv_iconst (v := 2) hx hb dX12_cellAt_2 (by decide) ?_
  refine lv_iload_n hx hb dX12_cellAt_3 rfl (lv_at hl 0 rfl) ?_
  refine lv_bipush (v := 8) hx hb dX12_cellAt_4 (by decide) ?_
  refine lv_iadd hx hb dX12_cellAt_6 ?_
  refine lv_topi (fun x_1244 ex_1244 => ?_)
  obtain rfl : x_1244 = 4 := ex_1244.trans (by decide)
  refine lv_imul hx hb dX12_cellAt_7 ?_
  refine lv_topi (fun x_1245 ex_1245 => ?_)
  obtain rfl : x_1245 = 8 := ex_1245.trans (by decide)
  refine lv_iadd hx hb dX12_cellAt_8 ?_
  refine lv_topi (fun x_1246 ex_1246 => ?_)
  obtain rfl : x_1246 = 94 := ex_1246.trans (by decide)
  refine W.widen (k := 0) (n := 0) (Nat.le_of_ble_eq_true rfl) (Nat.le_of_ble_eq_true rfl) ?_
  have hP9 := hP.sub (ws' := []) [] rfl
  have hD9 := hD.sub (ws' := []) [] (by decide) rfl
  have hK9 := hK.sub (tys' := []) [] rfl
  exact W.iret (v := 94) hx hb hr (fun t ht hW => ⟨⟨94, (), rfl, rfl, by rw [ht]; exact hP9, va_K.moved hW.alike hK9, hD9⟩, hS.F ht⟩) hS.2.2 dX12_cellAt_9
def wd_798 (rm : Nat → Nat) (km : Nat → ClassId) (f1248 : Nat → Int32) : va_W := [((rm 23), .inl ((km 3), 422, .inl f1248))]
def wd_799 (rm : Nat → Nat) (km : Nat → ClassId) (f1251 : Nat → Int32) : va_W := [((rm 23), .inl ((km 3), 422, .inl f1251))]
def wd_800 (rm : Nat → Nat) (km : Nat → ClassId) (f1253 : Nat → Int32) : va_W := [((rm 23), .inl ((km 3), 422, .inl f1253))]
def wd_801 (rm : Nat → Nat) (km : Nat → ClassId) (f1256 : Nat → Int32) : va_W := [((rm 23), .inl ((km 3), 422, .inl f1256))]
set_option maxHeartbeats 4000000 in
set_option maxRecDepth 100000 in
theorem c83_X12_holds (l : Launch) (dC : Nat → ClassId) (dI : Nat → Nat → Nat) (rm : Nat → Nat) (km : Nat → ClassId) (fz0 : Nat → Int32) (sz : Nat) : Met l yX12_holds (Cond.code yX12_holds cX12_holds 4 none :: wA) ({ frames := 1, cells := 0, slots := 0, locals := 20 }) (va_Pc [.ref (rm 23), .int (-4), .int 1, .int (-1)] (fun U => U.heap.size = sz ∧ va_P (dC, dI) vwCl (wd_770 rm km fz0) U.heap ∧ va_K (dC, dI) vwCl [((km 3), .int)] U ∧ va_D (fun _ => True) (wd_770 rm km fz0))) (va_Qv (fun (_ : Unit) => True) (fun _ t => ∃ f1256 : Nat → Int32, va_P (dC, dI) vwCl (wd_801 rm km f1256) t.heap ∧ va_K (dC, dI) vwCl [((km 3), .int)] t ∧ va_D (va_A (wd_770 rm km fz0) sz) (wd_801 rm km f1256)) (va_A (wd_770 rm km fz0) sz)) 0 0 (va_A (wd_770 rm km fz0) sz) := by
  refine Met.ofW (cc := cX12_holds) (maxL := 4) (ret := none) (by decide) rfl ?_
  intro p e s m args below meth c s₁ B hml hv
  obtain ⟨rfl, hsz, hP, hK, hD0⟩ := hv
  have hx := B.exec
  have hb := B.bytes
  have hr := B.returns
  have hts : ∀ w ∈ wA, w.before [.ref (rm 23), .int (-4), .int 1, .int (-1)].toArray s = true := fun w h => atoms_spec (ws := Cond.code yX12_holds cX12_holds 4 none :: wA) B.pre w (List.mem_cons_of_mem _ h)
  have hown : s.vm.findClass RX12 = some m.cls := findClass_of_methodNamed B.named
  have hlocks := B.notSynchronized
  subst hsz
  have hD := hD0.self (sz := s.heap.size)
  generalize hAe : va_A (wd_770 rm km fz0) s.heap.size = A at hD ⊢
  have hA : ∀ q : Nat, s.heap.size ≤ q → A q := fun q h => by rw [← hAe]; exact Or.inr h
  have hS : va_S A s.heap s.heap [] := va_S.rf
  have hl := lv_entry ([.ref (rm 23), .int (-4), .int 1, .int (-1)]) (n := 4) (Nat.le_of_ble_eq_true rfl)
  rw [lg_entry_eq]
  generalize (lg_sl ([.ref (rm 23), .int (-4), .int 1, .int (-1)]) ++ List.replicate (4 - (lg_sl ([.ref (rm 23), .int (-4), .int 1, .int (-1)])).length) Slot.unset).toArray = ls at hl ⊢
  have hl : lv_has ls 4 [(0, .ref (rm 23)), (1, .int (-4)), (2, .int 1), (3, .int (-1))] := hl
  refine lv_aload_n hx hb dX12_holds_0 rfl (lv_at hl 0 rfl) ?_
  refine lv_iload_n hx hb dX12_holds_1 rfl (lv_at hl 1 rfl) ?_
  have hPc := hP.sub (ws' := []) [] rfl
  have hDc := hD.sub (ws' := []) [] (by decide) rfl
  have hKc := hK.sub (tys' := []) [] rfl
  have hFc := va_free (wc := []) hD hS hA [] rfl
  refine va_calli (va_runS (As := [.int (-4)]) (rest := [.ref (rm 23)]) ⟨hx, hb, hml, hown, hts⟩ (c82_X12_cellAt l dC dI s.heap.size) (va_cwS 1 hts (gS q_387 q_388 q_372 q_386) rfl rfl rfl mds_yX12_cellAt ⟨Nat.le_of_ble_eq_true rfl, Nat.le_of_ble_eq_true rfl⟩) ⟨fun a U g mk q => by obtain ⟨q0, q1, qP, qK, qD⟩ := q; exact ⟨q0, q1, qP, va_K.moved (u := U) (U := U.calling g mk a) (Vm.Alike.refl U.vm) qK, qD⟩, fun U hU hW => ⟨rfl, by rw [hU], by rw [hU]; exact hPc, va_K.moved hW.alike hKc, hDc.weaken (fun _ _ _ _ => trivial)⟩⟩ rfl rfl hl.1 rfl (lv_room (Nat.le_of_ble_eq_true rfl)) dX12_holds_2 ⟨Nat.le_of_ble_eq_true rfl, Nat.le_of_ble_eq_true rfl⟩) hS (fun q _ h => hFc q h) hFc (fun r_1252 u t H1 locs ht hvm hw hB hz1 hk1 hS => ?_)
  obtain ⟨hP1, hK1, hD1⟩ := hB
  rw [ht] at hP1
  have hK1 := va_K.moved hvm.symm hK1
  obtain ⟨hP, hD⟩ := va_join (wr := (wd_770 rm km fz0)) (w1 := []) hP hD [] [0] rfl rfl (by decide) (by decide) hk1 hFc hP1 hD1
  generalize H1 = H at hP hS ⊢
  have hP : va_P (dC, dI) vwCl (wd_770 rm km fz0) H := hP
  have hD : va_D A (wd_770 rm km fz0) := hD
  obtain rfl : r_1252 = 94 := hw
  refine lv_iload_n hx hb dX12_holds_5 rfl (lv_at hl 2 rfl) ?_
  refine va_iast hx hb hK hP hD hS 0 0 rfl rfl (vpi (by decide)) dX12_holds_6 (fun H locs hP hD hS => ?_)
  obtain ⟨f1253, hP, hD⟩ : ∃ f : Nat → Int32, va_P (dC, dI) vwCl (wd_771 rm km f) H ∧ va_D A (wd_771 rm km f) := ⟨_, hP, hD⟩
  have hP : va_P (dC, dI) vwCl (wd_800 rm km f1253) H := hP
  have hD : va_D A (wd_800 rm km f1253) := hD
  refine lv_aload_n hx hb dX12_holds_7 rfl (lv_at hl 0 rfl) ?_
  refine lv_iload_n hx hb dX12_holds_8 rfl (lv_at hl 1 rfl) ?_
  have hPc := hP.sub (ws' := []) [] rfl
  have hDc := hD.sub (ws' := []) [] (by decide) rfl
  have hKc := hK.sub (tys' := []) [] rfl
  have hFc := va_free (wc := []) hD hS hA [] rfl
  refine va_calli (va_runS (As := [.int (-4)]) (rest := [.ref (rm 23)]) ⟨hx, hb, hml, hown, hts⟩ (c82_X12_cellAt l dC dI H.size) (va_cwS 1 hts (gS q_387 q_388 q_372 q_386) rfl rfl rfl mds_yX12_cellAt ⟨Nat.le_of_ble_eq_true rfl, Nat.le_of_ble_eq_true rfl⟩) ⟨fun a U g mk q => by obtain ⟨q0, q1, qP, qK, qD⟩ := q; exact ⟨q0, q1, qP, va_K.moved (u := U) (U := U.calling g mk a) (Vm.Alike.refl U.vm) qK, qD⟩, fun U hU hW => ⟨rfl, by rw [hU], by rw [hU]; exact hPc, va_K.moved hW.alike hKc, hDc.weaken (fun _ _ _ _ => trivial)⟩⟩ rfl rfl hl.1 rfl (lv_room (Nat.le_of_ble_eq_true rfl)) dX12_holds_9 ⟨Nat.le_of_ble_eq_true rfl, Nat.le_of_ble_eq_true rfl⟩) hS (fun q _ h => hFc q h) hFc (fun r_1254 u t H1 locs ht hvm hw hB hz1 hk1 hS => ?_)
  obtain ⟨hP1, hK1, hD1⟩ := hB
  rw [ht] at hP1
  have hK1 := va_K.moved hvm.symm hK1
  obtain ⟨hP, hD⟩ := va_join (wr := (wd_800 rm km f1253)) (w1 := []) hP hD [] [0] rfl rfl (by decide) (by decide) hk1 hFc hP1 hD1
  generalize H1 = H at hP hS ⊢
  have hP : va_P (dC, dI) vwCl (wd_800 rm km f1253) H := hP
  have hD : va_D A (wd_800 rm km f1253) := hD
  obtain rfl : r_1254 = 94 := hw
  refine lv_iconst (v := 1) hx hb dX12_holds_12 (by decide) ?_
  refine lv_iadd hx hb dX12_holds_13 ?_
  refine lv_topi (fun x_1255 ex_1255 => ?_)
  obtain rfl : x_1255 = 95 := ex_1255.trans (by decide)
  refine lv_iload_n hx hb dX12_holds_14 rfl (lv_at hl 3 rfl) ?_
  refine va_iast hx hb hK hP hD hS 0 0 rfl rfl (vpi (by decide)) dX12_holds_15 (fun H locs hP hD hS => ?_)
  obtain ⟨f1256, hP, hD⟩ : ∃ f : Nat → Int32, va_P (dC, dI) vwCl (wd_771 rm km f) H ∧ va_D A (wd_771 rm km f) := ⟨_, hP, hD⟩
  have hP : va_P (dC, dI) vwCl (wd_801 rm km f1256) H := hP
  have hD : va_D A (wd_801 rm km f1256) := hD
  refine W.widen (k := 0) (n := 0) (Nat.le_of_ble_eq_true rfl) (Nat.le_of_ble_eq_true rfl) ?_
  have hP9 := hP.sub (ws' := (wd_801 rm km f1256)) [0] rfl
  have hD9 := hD.sub (ws' := (wd_801 rm km f1256)) [0] (by decide) rfl
  have hK9 := hK.sub (tys' := [((km 3), .int)]) [0] rfl
  exact W.vret hx hb hr (fun t ht hW => ⟨⟨(), rfl, trivial, f1256, by rw [ht]; exact hP9, va_K.moved hW.alike hK9, hD9⟩, hS.F ht⟩) hS.2.2 dX12_holds_16
def wd_802 (rm : Nat → Nat) (km : Nat → ClassId) (f1258 : Nat → Int32) : va_W := [((rm 23), .inl ((km 3), 422, .inl f1258))]
def wd_803 (rm : Nat → Nat) (km : Nat → ClassId) (f1258 : Nat → Int32) : va_W := [((rm 0), .inr (12, [.ref (rm 1), .int 0, .int 0, .int 0, .int (-1), .int 0, .int (-1), .int 0, .int (-1), .ref (rm 2), .ref (rm 3), .ref (rm 4), .ref (rm 5), .ref (rm 6), .ref (rm 7), .ref (rm 8), .ref (rm 9), .ref (rm 10), .ref (rm 11), .ref (rm 12), .ref (rm 13), .ref (rm 14), .ref (rm 15), .ref (rm 16), .int 0, .int 0, .int 0, .int 0, .int 0, .ref (rm 17), .ref (rm 18), .ref (rm 19), .ref (rm 20), .ref (rm 21), .int 0, .ref (rm 22), .ref (rm 23), .ref (rm 24), .int 0, .int 0, .int 0, .ref (rm 25), .ref (rm 26), .ref (rm 27), .int 0, .ref (rm 28), .ref (rm 29), .int 0, .ref (rm 30), .ref (rm 31), .int 0, .ref (rm 32), .ref (rm 33), .int 0, .ref (rm 34), .ref (rm 35), .int 0, .int 0, .int 0, .ref (rm 36), .ref (rm 37), .int 0, .ref (rm 38), .ref (rm 39), .int 0, .ref (rm 40), .ref (rm 41), .ref (rm 42), .int 0, .int 0, .long 1, .ref (rm 43), .int 0, .int 0, .int (-1), .int 0, .int 0, .int 0, .int 0, .ref (rm 44), .ref (rm 45), .ref (rm 46), .ref (rm 47), .int 0])), ((rm 1), .inl ((km 0), 1600, .inl (fun _ => 0))), ((rm 2), .inl ((km 1), 7, .inl (fun _ => 0))), ((rm 22), .inl ((km 2), 422, .inl (fun _ => 0))), ((rm 23), .inl ((km 3), 422, .inl f1258))]
set_option maxHeartbeats 4000000 in
set_option maxRecDepth 100000 in
theorem c84_X12_cellAt (l : Launch) (dC : Nat → ClassId) (dI : Nat → Nat → Nat) (sz : Nat) : Met l yX12_cellAt (Cond.code yX12_cellAt cX12_cellAt 1 (some .int) :: wA) ({ frames := 0, cells := 0, slots := 0, locals := 0 }) (va_Pc [.int (-3)] (fun U => U.heap.size = sz ∧ va_P (dC, dI) vwCl [] U.heap ∧ va_K (dC, dI) vwCl [] U ∧ va_D (fun _ => True) [])) (va_Qi (fun (r : Int32) (_ : Unit) => r = 96) (fun _ t => va_P (dC, dI) vwCl [] t.heap ∧ va_K (dC, dI) vwCl [] t ∧ va_D (va_A [] sz) []) (va_A [] sz)) 0 0 (va_A [] sz) := by
  refine Met.ofW (cc := cX12_cellAt) (maxL := 1) (ret := (some .int)) (by decide) rfl ?_
  intro p e s m args below meth c s₁ B hml hv
  obtain ⟨rfl, hsz, hP, hK, hD0⟩ := hv
  have hx := B.exec
  have hb := B.bytes
  have hr := B.returns
  have hts : ∀ w ∈ wA, w.before [.int (-3)].toArray s = true := fun w h => atoms_spec (ws := Cond.code yX12_cellAt cX12_cellAt 1 (some .int) :: wA) B.pre w (List.mem_cons_of_mem _ h)
  have hown : s.vm.findClass RX12 = some m.cls := findClass_of_methodNamed B.named
  have hlocks := B.notSynchronized
  subst hsz
  have hD := hD0.self (sz := s.heap.size)
  generalize hAe : va_A [] s.heap.size = A at hD ⊢
  have hA : ∀ q : Nat, s.heap.size ≤ q → A q := fun q h => by rw [← hAe]; exact Or.inr h
  have hS : va_S A s.heap s.heap [] := va_S.rf
  have hl := lv_entry ([.int (-3)]) (n := 1) (Nat.le_of_ble_eq_true rfl)
  rw [lg_entry_eq]
  generalize (lg_sl ([.int (-3)]) ++ List.replicate (1 - (lg_sl ([.int (-3)])).length) Slot.unset).toArray = ls at hl ⊢
  have hl : lv_has ls 1 [(0, .int (-3))] := hl
  refine lv_bipush (v := 86) hx hb dX12_cellAt_0 (by decide) ?_
  refine lv_iconst (v := 2) hx hb dX12_cellAt_2 (by decide) ?_
  refine lv_iload_n hx hb dX12_cellAt_3 rfl (lv_at hl 0 rfl) ?_
  refine lv_bipush (v := 8) hx hb dX12_cellAt_4 (by decide) ?_
  refine lv_iadd hx hb dX12_cellAt_6 ?_
  refine lv_topi (fun x_1262 ex_1262 => ?_)
  obtain rfl : x_1262 = 5 := ex_1262.trans (by decide)
  refine lv_imul hx hb dX12_cellAt_7 ?_
  refine lv_topi (fun x_1263 ex_1263 => ?_)
  obtain rfl : x_1263 = 10 := ex_1263.trans (by decide)
  refine lv_iadd hx hb dX12_cellAt_8 ?_
  refine lv_topi (fun x_1264 ex_1264 => ?_)
  obtain rfl : x_1264 = 96 := ex_1264.trans (by decide)
  refine W.widen (k := 0) (n := 0) (Nat.le_of_ble_eq_true rfl) (Nat.le_of_ble_eq_true rfl) ?_
  have hP9 := hP.sub (ws' := []) [] rfl
  have hD9 := hD.sub (ws' := []) [] (by decide) rfl
  have hK9 := hK.sub (tys' := []) [] rfl
  exact W.iret (v := 96) hx hb hr (fun t ht hW => ⟨⟨96, (), rfl, rfl, by rw [ht]; exact hP9, va_K.moved hW.alike hK9, hD9⟩, hS.F ht⟩) hS.2.2 dX12_cellAt_9
def wd_804 (rm : Nat → Nat) (km : Nat → ClassId) (f1266 : Nat → Int32) : va_W := [((rm 23), .inl ((km 3), 422, .inl f1266))]
def wd_805 (rm : Nat → Nat) (km : Nat → ClassId) (f1269 : Nat → Int32) : va_W := [((rm 23), .inl ((km 3), 422, .inl f1269))]
def wd_806 (rm : Nat → Nat) (km : Nat → ClassId) (f1271 : Nat → Int32) : va_W := [((rm 23), .inl ((km 3), 422, .inl f1271))]
def wd_807 (rm : Nat → Nat) (km : Nat → ClassId) (f1274 : Nat → Int32) : va_W := [((rm 23), .inl ((km 3), 422, .inl f1274))]
set_option maxHeartbeats 4000000 in
set_option maxRecDepth 100000 in
theorem c85_X12_holds (l : Launch) (dC : Nat → ClassId) (dI : Nat → Nat → Nat) (rm : Nat → Nat) (km : Nat → ClassId) (fz0 : Nat → Int32) (sz : Nat) : Met l yX12_holds (Cond.code yX12_holds cX12_holds 4 none :: wA) ({ frames := 1, cells := 0, slots := 0, locals := 20 }) (va_Pc [.ref (rm 23), .int (-3), .int 1, .int (-1)] (fun U => U.heap.size = sz ∧ va_P (dC, dI) vwCl (wd_770 rm km fz0) U.heap ∧ va_K (dC, dI) vwCl [((km 3), .int)] U ∧ va_D (fun _ => True) (wd_770 rm km fz0))) (va_Qv (fun (_ : Unit) => True) (fun _ t => ∃ f1274 : Nat → Int32, va_P (dC, dI) vwCl (wd_807 rm km f1274) t.heap ∧ va_K (dC, dI) vwCl [((km 3), .int)] t ∧ va_D (va_A (wd_770 rm km fz0) sz) (wd_807 rm km f1274)) (va_A (wd_770 rm km fz0) sz)) 0 0 (va_A (wd_770 rm km fz0) sz) := by
  refine Met.ofW (cc := cX12_holds) (maxL := 4) (ret := none) (by decide) rfl ?_
  intro p e s m args below meth c s₁ B hml hv
  obtain ⟨rfl, hsz, hP, hK, hD0⟩ := hv
  have hx := B.exec
  have hb := B.bytes
  have hr := B.returns
  have hts : ∀ w ∈ wA, w.before [.ref (rm 23), .int (-3), .int 1, .int (-1)].toArray s = true := fun w h => atoms_spec (ws := Cond.code yX12_holds cX12_holds 4 none :: wA) B.pre w (List.mem_cons_of_mem _ h)
  have hown : s.vm.findClass RX12 = some m.cls := findClass_of_methodNamed B.named
  have hlocks := B.notSynchronized
  subst hsz
  have hD := hD0.self (sz := s.heap.size)
  generalize hAe : va_A (wd_770 rm km fz0) s.heap.size = A at hD ⊢
  have hA : ∀ q : Nat, s.heap.size ≤ q → A q := fun q h => by rw [← hAe]; exact Or.inr h
  have hS : va_S A s.heap s.heap [] := va_S.rf
  have hl := lv_entry ([.ref (rm 23), .int (-3), .int 1, .int (-1)]) (n := 4) (Nat.le_of_ble_eq_true rfl)
  rw [lg_entry_eq]
  generalize (lg_sl ([.ref (rm 23), .int (-3), .int 1, .int (-1)]) ++ List.replicate (4 - (lg_sl ([.ref (rm 23), .int (-3), .int 1, .int (-1)])).length) Slot.unset).toArray = ls at hl ⊢
  have hl : lv_has ls 4 [(0, .ref (rm 23)), (1, .int (-3)), (2, .int 1), (3, .int (-1))] := hl
  refine lv_aload_n hx hb dX12_holds_0 rfl (lv_at hl 0 rfl) ?_
  refine lv_iload_n hx hb dX12_holds_1 rfl (lv_at hl 1 rfl) ?_
  have hPc := hP.sub (ws' := []) [] rfl
  have hDc := hD.sub (ws' := []) [] (by decide) rfl
  have hKc := hK.sub (tys' := []) [] rfl
  have hFc := va_free (wc := []) hD hS hA [] rfl
  refine va_calli (va_runS (As := [.int (-3)]) (rest := [.ref (rm 23)]) ⟨hx, hb, hml, hown, hts⟩ (c84_X12_cellAt l dC dI s.heap.size) (va_cwS 1 hts (gS q_387 q_388 q_372 q_386) rfl rfl rfl mds_yX12_cellAt ⟨Nat.le_of_ble_eq_true rfl, Nat.le_of_ble_eq_true rfl⟩) ⟨fun a U g mk q => by obtain ⟨q0, q1, qP, qK, qD⟩ := q; exact ⟨q0, q1, qP, va_K.moved (u := U) (U := U.calling g mk a) (Vm.Alike.refl U.vm) qK, qD⟩, fun U hU hW => ⟨rfl, by rw [hU], by rw [hU]; exact hPc, va_K.moved hW.alike hKc, hDc.weaken (fun _ _ _ _ => trivial)⟩⟩ rfl rfl hl.1 rfl (lv_room (Nat.le_of_ble_eq_true rfl)) dX12_holds_2 ⟨Nat.le_of_ble_eq_true rfl, Nat.le_of_ble_eq_true rfl⟩) hS (fun q _ h => hFc q h) hFc (fun r_1270 u t H1 locs ht hvm hw hB hz1 hk1 hS => ?_)
  obtain ⟨hP1, hK1, hD1⟩ := hB
  rw [ht] at hP1
  have hK1 := va_K.moved hvm.symm hK1
  obtain ⟨hP, hD⟩ := va_join (wr := (wd_770 rm km fz0)) (w1 := []) hP hD [] [0] rfl rfl (by decide) (by decide) hk1 hFc hP1 hD1
  generalize H1 = H at hP hS ⊢
  have hP : va_P (dC, dI) vwCl (wd_770 rm km fz0) H := hP
  have hD : va_D A (wd_770 rm km fz0) := hD
  obtain rfl : r_1270 = 96 := hw
  refine lv_iload_n hx hb dX12_holds_5 rfl (lv_at hl 2 rfl) ?_
  refine va_iast hx hb hK hP hD hS 0 0 rfl rfl (vpi (by decide)) dX12_holds_6 (fun H locs hP hD hS => ?_)
  obtain ⟨f1271, hP, hD⟩ : ∃ f : Nat → Int32, va_P (dC, dI) vwCl (wd_771 rm km f) H ∧ va_D A (wd_771 rm km f) := ⟨_, hP, hD⟩
  have hP : va_P (dC, dI) vwCl (wd_806 rm km f1271) H := hP
  have hD : va_D A (wd_806 rm km f1271) := hD
  refine lv_aload_n hx hb dX12_holds_7 rfl (lv_at hl 0 rfl) ?_
  refine lv_iload_n hx hb dX12_holds_8 rfl (lv_at hl 1 rfl) ?_
  have hPc := hP.sub (ws' := []) [] rfl
  have hDc := hD.sub (ws' := []) [] (by decide) rfl
  have hKc := hK.sub (tys' := []) [] rfl
  have hFc := va_free (wc := []) hD hS hA [] rfl
  refine va_calli (va_runS (As := [.int (-3)]) (rest := [.ref (rm 23)]) ⟨hx, hb, hml, hown, hts⟩ (c84_X12_cellAt l dC dI H.size) (va_cwS 1 hts (gS q_387 q_388 q_372 q_386) rfl rfl rfl mds_yX12_cellAt ⟨Nat.le_of_ble_eq_true rfl, Nat.le_of_ble_eq_true rfl⟩) ⟨fun a U g mk q => by obtain ⟨q0, q1, qP, qK, qD⟩ := q; exact ⟨q0, q1, qP, va_K.moved (u := U) (U := U.calling g mk a) (Vm.Alike.refl U.vm) qK, qD⟩, fun U hU hW => ⟨rfl, by rw [hU], by rw [hU]; exact hPc, va_K.moved hW.alike hKc, hDc.weaken (fun _ _ _ _ => trivial)⟩⟩ rfl rfl hl.1 rfl (lv_room (Nat.le_of_ble_eq_true rfl)) dX12_holds_9 ⟨Nat.le_of_ble_eq_true rfl, Nat.le_of_ble_eq_true rfl⟩) hS (fun q _ h => hFc q h) hFc (fun r_1272 u t H1 locs ht hvm hw hB hz1 hk1 hS => ?_)
  obtain ⟨hP1, hK1, hD1⟩ := hB
  rw [ht] at hP1
  have hK1 := va_K.moved hvm.symm hK1
  obtain ⟨hP, hD⟩ := va_join (wr := (wd_806 rm km f1271)) (w1 := []) hP hD [] [0] rfl rfl (by decide) (by decide) hk1 hFc hP1 hD1
  generalize H1 = H at hP hS ⊢
  have hP : va_P (dC, dI) vwCl (wd_806 rm km f1271) H := hP
  have hD : va_D A (wd_806 rm km f1271) := hD
  obtain rfl : r_1272 = 96 := hw
  refine lv_iconst (v := 1) hx hb dX12_holds_12 (by decide) ?_
  refine lv_iadd hx hb dX12_holds_13 ?_
  refine lv_topi (fun x_1273 ex_1273 => ?_)
  obtain rfl : x_1273 = 97 := ex_1273.trans (by decide)
  refine lv_iload_n hx hb dX12_holds_14 rfl (lv_at hl 3 rfl) ?_
  refine va_iast hx hb hK hP hD hS 0 0 rfl rfl (vpi (by decide)) dX12_holds_15 (fun H locs hP hD hS => ?_)
  obtain ⟨f1274, hP, hD⟩ : ∃ f : Nat → Int32, va_P (dC, dI) vwCl (wd_771 rm km f) H ∧ va_D A (wd_771 rm km f) := ⟨_, hP, hD⟩
  have hP : va_P (dC, dI) vwCl (wd_807 rm km f1274) H := hP
  have hD : va_D A (wd_807 rm km f1274) := hD
  refine W.widen (k := 0) (n := 0) (Nat.le_of_ble_eq_true rfl) (Nat.le_of_ble_eq_true rfl) ?_
  have hP9 := hP.sub (ws' := (wd_807 rm km f1274)) [0] rfl
  have hD9 := hD.sub (ws' := (wd_807 rm km f1274)) [0] (by decide) rfl
  have hK9 := hK.sub (tys' := [((km 3), .int)]) [0] rfl
  exact W.vret hx hb hr (fun t ht hW => ⟨⟨(), rfl, trivial, f1274, by rw [ht]; exact hP9, va_K.moved hW.alike hK9, hD9⟩, hS.F ht⟩) hS.2.2 dX12_holds_16
def wd_808 (rm : Nat → Nat) (km : Nat → ClassId) (f1276 : Nat → Int32) : va_W := [((rm 23), .inl ((km 3), 422, .inl f1276))]
def wd_809 (rm : Nat → Nat) (km : Nat → ClassId) (f1276 : Nat → Int32) : va_W := [((rm 0), .inr (12, [.ref (rm 1), .int 0, .int 0, .int 0, .int (-1), .int 0, .int (-1), .int 0, .int (-1), .ref (rm 2), .ref (rm 3), .ref (rm 4), .ref (rm 5), .ref (rm 6), .ref (rm 7), .ref (rm 8), .ref (rm 9), .ref (rm 10), .ref (rm 11), .ref (rm 12), .ref (rm 13), .ref (rm 14), .ref (rm 15), .ref (rm 16), .int 0, .int 0, .int 0, .int 0, .int 0, .ref (rm 17), .ref (rm 18), .ref (rm 19), .ref (rm 20), .ref (rm 21), .int 0, .ref (rm 22), .ref (rm 23), .ref (rm 24), .int 0, .int 0, .int 0, .ref (rm 25), .ref (rm 26), .ref (rm 27), .int 0, .ref (rm 28), .ref (rm 29), .int 0, .ref (rm 30), .ref (rm 31), .int 0, .ref (rm 32), .ref (rm 33), .int 0, .ref (rm 34), .ref (rm 35), .int 0, .int 0, .int 0, .ref (rm 36), .ref (rm 37), .int 0, .ref (rm 38), .ref (rm 39), .int 0, .ref (rm 40), .ref (rm 41), .ref (rm 42), .int 0, .int 0, .long 1, .ref (rm 43), .int 0, .int 0, .int (-1), .int 0, .int 0, .int 0, .int 0, .ref (rm 44), .ref (rm 45), .ref (rm 46), .ref (rm 47), .int 0])), ((rm 1), .inl ((km 0), 1600, .inl (fun _ => 0))), ((rm 2), .inl ((km 1), 7, .inl (fun _ => 0))), ((rm 22), .inl ((km 2), 422, .inl (fun _ => 0))), ((rm 23), .inl ((km 3), 422, .inl f1276))]
set_option maxHeartbeats 4000000 in
set_option maxRecDepth 100000 in
theorem c86_X12_cellAt (l : Launch) (dC : Nat → ClassId) (dI : Nat → Nat → Nat) (sz : Nat) : Met l yX12_cellAt (Cond.code yX12_cellAt cX12_cellAt 1 (some .int) :: wA) ({ frames := 0, cells := 0, slots := 0, locals := 0 }) (va_Pc [.int (-2)] (fun U => U.heap.size = sz ∧ va_P (dC, dI) vwCl [] U.heap ∧ va_K (dC, dI) vwCl [] U ∧ va_D (fun _ => True) [])) (va_Qi (fun (r : Int32) (_ : Unit) => r = 98) (fun _ t => va_P (dC, dI) vwCl [] t.heap ∧ va_K (dC, dI) vwCl [] t ∧ va_D (va_A [] sz) []) (va_A [] sz)) 0 0 (va_A [] sz) := by
  refine Met.ofW (cc := cX12_cellAt) (maxL := 1) (ret := (some .int)) (by decide) rfl ?_
  intro p e s m args below meth c s₁ B hml hv
  obtain ⟨rfl, hsz, hP, hK, hD0⟩ := hv
  have hx := B.exec
  have hb := B.bytes
  have hr := B.returns
  have hts : ∀ w ∈ wA, w.before [.int (-2)].toArray s = true := fun w h => atoms_spec (ws := Cond.code yX12_cellAt cX12_cellAt 1 (some .int) :: wA) B.pre w (List.mem_cons_of_mem _ h)
  have hown : s.vm.findClass RX12 = some m.cls := findClass_of_methodNamed B.named
  have hlocks := B.notSynchronized
  subst hsz
  have hD := hD0.self (sz := s.heap.size)
  generalize hAe : va_A [] s.heap.size = A at hD ⊢
  have hA : ∀ q : Nat, s.heap.size ≤ q → A q := fun q h => by rw [← hAe]; exact Or.inr h
  have hS : va_S A s.heap s.heap [] := va_S.rf
  have hl := lv_entry ([.int (-2)]) (n := 1) (Nat.le_of_ble_eq_true rfl)
  rw [lg_entry_eq]
  generalize (lg_sl ([.int (-2)]) ++ List.replicate (1 - (lg_sl ([.int (-2)])).length) Slot.unset).toArray = ls at hl ⊢
  have hl : lv_has ls 1 [(0, .int (-2))] := hl
  refine lv_bipush (v := 86) hx hb dX12_cellAt_0 (by decide) ?_
  refine lv_iconst (v := 2) hx hb dX12_cellAt_2 (by decide) ?_
  refine lv_iload_n hx hb dX12_cellAt_3 rfl (lv_at hl 0 rfl) ?_
  refine lv_bipush (v := 8) hx hb dX12_cellAt_4 (by decide) ?_
  refine lv_iadd hx hb dX12_cellAt_6 ?_
  refine lv_topi (fun x_1280 ex_1280 => ?_)
  obtain rfl : x_1280 = 6 := ex_1280.trans (by decide)
  refine lv_imul hx hb dX12_cellAt_7 ?_
  refine lv_topi (fun x_1281 ex_1281 => ?_)
  obtain rfl : x_1281 = 12 := ex_1281.trans (by decide)
  refine lv_iadd hx hb dX12_cellAt_8 ?_
  refine lv_topi (fun x_1282 ex_1282 => ?_)
  obtain rfl : x_1282 = 98 := ex_1282.trans (by decide)
  refine W.widen (k := 0) (n := 0) (Nat.le_of_ble_eq_true rfl) (Nat.le_of_ble_eq_true rfl) ?_
  have hP9 := hP.sub (ws' := []) [] rfl
  have hD9 := hD.sub (ws' := []) [] (by decide) rfl
  have hK9 := hK.sub (tys' := []) [] rfl
  exact W.iret (v := 98) hx hb hr (fun t ht hW => ⟨⟨98, (), rfl, rfl, by rw [ht]; exact hP9, va_K.moved hW.alike hK9, hD9⟩, hS.F ht⟩) hS.2.2 dX12_cellAt_9
def wd_810 (rm : Nat → Nat) (km : Nat → ClassId) (f1284 : Nat → Int32) : va_W := [((rm 23), .inl ((km 3), 422, .inl f1284))]
def wd_811 (rm : Nat → Nat) (km : Nat → ClassId) (f1287 : Nat → Int32) : va_W := [((rm 23), .inl ((km 3), 422, .inl f1287))]
def wd_812 (rm : Nat → Nat) (km : Nat → ClassId) (f1289 : Nat → Int32) : va_W := [((rm 23), .inl ((km 3), 422, .inl f1289))]
def wd_813 (rm : Nat → Nat) (km : Nat → ClassId) (f1292 : Nat → Int32) : va_W := [((rm 23), .inl ((km 3), 422, .inl f1292))]
set_option maxHeartbeats 4000000 in
set_option maxRecDepth 100000 in
theorem c87_X12_holds (l : Launch) (dC : Nat → ClassId) (dI : Nat → Nat → Nat) (rm : Nat → Nat) (km : Nat → ClassId) (fz0 : Nat → Int32) (sz : Nat) : Met l yX12_holds (Cond.code yX12_holds cX12_holds 4 none :: wA) ({ frames := 1, cells := 0, slots := 0, locals := 20 }) (va_Pc [.ref (rm 23), .int (-2), .int 1, .int (-1)] (fun U => U.heap.size = sz ∧ va_P (dC, dI) vwCl (wd_770 rm km fz0) U.heap ∧ va_K (dC, dI) vwCl [((km 3), .int)] U ∧ va_D (fun _ => True) (wd_770 rm km fz0))) (va_Qv (fun (_ : Unit) => True) (fun _ t => ∃ f1292 : Nat → Int32, va_P (dC, dI) vwCl (wd_813 rm km f1292) t.heap ∧ va_K (dC, dI) vwCl [((km 3), .int)] t ∧ va_D (va_A (wd_770 rm km fz0) sz) (wd_813 rm km f1292)) (va_A (wd_770 rm km fz0) sz)) 0 0 (va_A (wd_770 rm km fz0) sz) := by
  refine Met.ofW (cc := cX12_holds) (maxL := 4) (ret := none) (by decide) rfl ?_
  intro p e s m args below meth c s₁ B hml hv
  obtain ⟨rfl, hsz, hP, hK, hD0⟩ := hv
  have hx := B.exec
  have hb := B.bytes
  have hr := B.returns
  have hts : ∀ w ∈ wA, w.before [.ref (rm 23), .int (-2), .int 1, .int (-1)].toArray s = true := fun w h => atoms_spec (ws := Cond.code yX12_holds cX12_holds 4 none :: wA) B.pre w (List.mem_cons_of_mem _ h)
  have hown : s.vm.findClass RX12 = some m.cls := findClass_of_methodNamed B.named
  have hlocks := B.notSynchronized
  subst hsz
  have hD := hD0.self (sz := s.heap.size)
  generalize hAe : va_A (wd_770 rm km fz0) s.heap.size = A at hD ⊢
  have hA : ∀ q : Nat, s.heap.size ≤ q → A q := fun q h => by rw [← hAe]; exact Or.inr h
  have hS : va_S A s.heap s.heap [] := va_S.rf
  have hl := lv_entry ([.ref (rm 23), .int (-2), .int 1, .int (-1)]) (n := 4) (Nat.le_of_ble_eq_true rfl)
  rw [lg_entry_eq]
  generalize (lg_sl ([.ref (rm 23), .int (-2), .int 1, .int (-1)]) ++ List.replicate (4 - (lg_sl ([.ref (rm 23), .int (-2), .int 1, .int (-1)])).length) Slot.unset).toArray = ls at hl ⊢
  have hl : lv_has ls 4 [(0, .ref (rm 23)), (1, .int (-2)), (2, .int 1), (3, .int (-1))] := hl
  refine lv_aload_n hx hb dX12_holds_0 rfl (lv_at hl 0 rfl) ?_
  refine lv_iload_n hx hb dX12_holds_1 rfl (lv_at hl 1 rfl) ?_
  have hPc := hP.sub (ws' := []) [] rfl
  have hDc := hD.sub (ws' := []) [] (by decide) rfl
  have hKc := hK.sub (tys' := []) [] rfl
  have hFc := va_free (wc := []) hD hS hA [] rfl
  refine va_calli (va_runS (As := [.int (-2)]) (rest := [.ref (rm 23)]) ⟨hx, hb, hml, hown, hts⟩ (c86_X12_cellAt l dC dI s.heap.size) (va_cwS 1 hts (gS q_387 q_388 q_372 q_386) rfl rfl rfl mds_yX12_cellAt ⟨Nat.le_of_ble_eq_true rfl, Nat.le_of_ble_eq_true rfl⟩) ⟨fun a U g mk q => by obtain ⟨q0, q1, qP, qK, qD⟩ := q; exact ⟨q0, q1, qP, va_K.moved (u := U) (U := U.calling g mk a) (Vm.Alike.refl U.vm) qK, qD⟩, fun U hU hW => ⟨rfl, by rw [hU], by rw [hU]; exact hPc, va_K.moved hW.alike hKc, hDc.weaken (fun _ _ _ _ => trivial)⟩⟩ rfl rfl hl.1 rfl (lv_room (Nat.le_of_ble_eq_true rfl)) dX12_holds_2 ⟨Nat.le_of_ble_eq_true rfl, Nat.le_of_ble_eq_true rfl⟩) hS (fun q _ h => hFc q h) hFc (fun r_1288 u t H1 locs ht hvm hw hB hz1 hk1 hS => ?_)
  obtain ⟨hP1, hK1, hD1⟩ := hB
  rw [ht] at hP1
  have hK1 := va_K.moved hvm.symm hK1
  obtain ⟨hP, hD⟩ := va_join (wr := (wd_770 rm km fz0)) (w1 := []) hP hD [] [0] rfl rfl (by decide) (by decide) hk1 hFc hP1 hD1
  generalize H1 = H at hP hS ⊢
  have hP : va_P (dC, dI) vwCl (wd_770 rm km fz0) H := hP
  have hD : va_D A (wd_770 rm km fz0) := hD
  obtain rfl : r_1288 = 98 := hw
  refine lv_iload_n hx hb dX12_holds_5 rfl (lv_at hl 2 rfl) ?_
  refine va_iast hx hb hK hP hD hS 0 0 rfl rfl (vpi (by decide)) dX12_holds_6 (fun H locs hP hD hS => ?_)
  obtain ⟨f1289, hP, hD⟩ : ∃ f : Nat → Int32, va_P (dC, dI) vwCl (wd_771 rm km f) H ∧ va_D A (wd_771 rm km f) := ⟨_, hP, hD⟩
  have hP : va_P (dC, dI) vwCl (wd_812 rm km f1289) H := hP
  have hD : va_D A (wd_812 rm km f1289) := hD
  refine lv_aload_n hx hb dX12_holds_7 rfl (lv_at hl 0 rfl) ?_
  refine lv_iload_n hx hb dX12_holds_8 rfl (lv_at hl 1 rfl) ?_
  have hPc := hP.sub (ws' := []) [] rfl
  have hDc := hD.sub (ws' := []) [] (by decide) rfl
  have hKc := hK.sub (tys' := []) [] rfl
  have hFc := va_free (wc := []) hD hS hA [] rfl
  refine va_calli (va_runS (As := [.int (-2)]) (rest := [.ref (rm 23)]) ⟨hx, hb, hml, hown, hts⟩ (c86_X12_cellAt l dC dI H.size) (va_cwS 1 hts (gS q_387 q_388 q_372 q_386) rfl rfl rfl mds_yX12_cellAt ⟨Nat.le_of_ble_eq_true rfl, Nat.le_of_ble_eq_true rfl⟩) ⟨fun a U g mk q => by obtain ⟨q0, q1, qP, qK, qD⟩ := q; exact ⟨q0, q1, qP, va_K.moved (u := U) (U := U.calling g mk a) (Vm.Alike.refl U.vm) qK, qD⟩, fun U hU hW => ⟨rfl, by rw [hU], by rw [hU]; exact hPc, va_K.moved hW.alike hKc, hDc.weaken (fun _ _ _ _ => trivial)⟩⟩ rfl rfl hl.1 rfl (lv_room (Nat.le_of_ble_eq_true rfl)) dX12_holds_9 ⟨Nat.le_of_ble_eq_true rfl, Nat.le_of_ble_eq_true rfl⟩) hS (fun q _ h => hFc q h) hFc (fun r_1290 u t H1 locs ht hvm hw hB hz1 hk1 hS => ?_)
  obtain ⟨hP1, hK1, hD1⟩ := hB
  rw [ht] at hP1
  have hK1 := va_K.moved hvm.symm hK1
  obtain ⟨hP, hD⟩ := va_join (wr := (wd_812 rm km f1289)) (w1 := []) hP hD [] [0] rfl rfl (by decide) (by decide) hk1 hFc hP1 hD1
  generalize H1 = H at hP hS ⊢
  have hP : va_P (dC, dI) vwCl (wd_812 rm km f1289) H := hP
  have hD : va_D A (wd_812 rm km f1289) := hD
  obtain rfl : r_1290 = 98 := hw
  refine lv_iconst (v := 1) hx hb dX12_holds_12 (by decide) ?_
  refine lv_iadd hx hb dX12_holds_13 ?_
  refine lv_topi (fun x_1291 ex_1291 => ?_)
  obtain rfl : x_1291 = 99 := ex_1291.trans (by decide)
  refine lv_iload_n hx hb dX12_holds_14 rfl (lv_at hl 3 rfl) ?_
  refine va_iast hx hb hK hP hD hS 0 0 rfl rfl (vpi (by decide)) dX12_holds_15 (fun H locs hP hD hS => ?_)
  obtain ⟨f1292, hP, hD⟩ : ∃ f : Nat → Int32, va_P (dC, dI) vwCl (wd_771 rm km f) H ∧ va_D A (wd_771 rm km f) := ⟨_, hP, hD⟩
  have hP : va_P (dC, dI) vwCl (wd_813 rm km f1292) H := hP
  have hD : va_D A (wd_813 rm km f1292) := hD
  refine W.widen (k := 0) (n := 0) (Nat.le_of_ble_eq_true rfl) (Nat.le_of_ble_eq_true rfl) ?_
  have hP9 := hP.sub (ws' := (wd_813 rm km f1292)) [0] rfl
  have hD9 := hD.sub (ws' := (wd_813 rm km f1292)) [0] (by decide) rfl
  have hK9 := hK.sub (tys' := [((km 3), .int)]) [0] rfl
  exact W.vret hx hb hr (fun t ht hW => ⟨⟨(), rfl, trivial, f1292, by rw [ht]; exact hP9, va_K.moved hW.alike hK9, hD9⟩, hS.F ht⟩) hS.2.2 dX12_holds_16
def wd_814 (rm : Nat → Nat) (km : Nat → ClassId) (f1294 : Nat → Int32) : va_W := [((rm 23), .inl ((km 3), 422, .inl f1294))]
def wd_815 (rm : Nat → Nat) (km : Nat → ClassId) (f1294 : Nat → Int32) : va_W := [((rm 0), .inr (12, [.ref (rm 1), .int 0, .int 0, .int 0, .int (-1), .int 0, .int (-1), .int 0, .int (-1), .ref (rm 2), .ref (rm 3), .ref (rm 4), .ref (rm 5), .ref (rm 6), .ref (rm 7), .ref (rm 8), .ref (rm 9), .ref (rm 10), .ref (rm 11), .ref (rm 12), .ref (rm 13), .ref (rm 14), .ref (rm 15), .ref (rm 16), .int 0, .int 0, .int 0, .int 0, .int 0, .ref (rm 17), .ref (rm 18), .ref (rm 19), .ref (rm 20), .ref (rm 21), .int 0, .ref (rm 22), .ref (rm 23), .ref (rm 24), .int 0, .int 0, .int 0, .ref (rm 25), .ref (rm 26), .ref (rm 27), .int 0, .ref (rm 28), .ref (rm 29), .int 0, .ref (rm 30), .ref (rm 31), .int 0, .ref (rm 32), .ref (rm 33), .int 0, .ref (rm 34), .ref (rm 35), .int 0, .int 0, .int 0, .ref (rm 36), .ref (rm 37), .int 0, .ref (rm 38), .ref (rm 39), .int 0, .ref (rm 40), .ref (rm 41), .ref (rm 42), .int 0, .int 0, .long 1, .ref (rm 43), .int 0, .int 0, .int (-1), .int 0, .int 0, .int 0, .int 0, .ref (rm 44), .ref (rm 45), .ref (rm 46), .ref (rm 47), .int 0])), ((rm 1), .inl ((km 0), 1600, .inl (fun _ => 0))), ((rm 2), .inl ((km 1), 7, .inl (fun _ => 0))), ((rm 22), .inl ((km 2), 422, .inl (fun _ => 0))), ((rm 23), .inl ((km 3), 422, .inl f1294))]
set_option maxHeartbeats 4000000 in
set_option maxRecDepth 100000 in
theorem c88_X12_cellAt (l : Launch) (dC : Nat → ClassId) (dI : Nat → Nat → Nat) (sz : Nat) : Met l yX12_cellAt (Cond.code yX12_cellAt cX12_cellAt 1 (some .int) :: wA) ({ frames := 0, cells := 0, slots := 0, locals := 0 }) (va_Pc [.int (-1)] (fun U => U.heap.size = sz ∧ va_P (dC, dI) vwCl [] U.heap ∧ va_K (dC, dI) vwCl [] U ∧ va_D (fun _ => True) [])) (va_Qi (fun (r : Int32) (_ : Unit) => r = 100) (fun _ t => va_P (dC, dI) vwCl [] t.heap ∧ va_K (dC, dI) vwCl [] t ∧ va_D (va_A [] sz) []) (va_A [] sz)) 0 0 (va_A [] sz) := by
  refine Met.ofW (cc := cX12_cellAt) (maxL := 1) (ret := (some .int)) (by decide) rfl ?_
  intro p e s m args below meth c s₁ B hml hv
  obtain ⟨rfl, hsz, hP, hK, hD0⟩ := hv
  have hx := B.exec
  have hb := B.bytes
  have hr := B.returns
  have hts : ∀ w ∈ wA, w.before [.int (-1)].toArray s = true := fun w h => atoms_spec (ws := Cond.code yX12_cellAt cX12_cellAt 1 (some .int) :: wA) B.pre w (List.mem_cons_of_mem _ h)
  have hown : s.vm.findClass RX12 = some m.cls := findClass_of_methodNamed B.named
  have hlocks := B.notSynchronized
  subst hsz
  have hD := hD0.self (sz := s.heap.size)
  generalize hAe : va_A [] s.heap.size = A at hD ⊢
  have hA : ∀ q : Nat, s.heap.size ≤ q → A q := fun q h => by rw [← hAe]; exact Or.inr h
  have hS : va_S A s.heap s.heap [] := va_S.rf
  have hl := lv_entry ([.int (-1)]) (n := 1) (Nat.le_of_ble_eq_true rfl)
  rw [lg_entry_eq]
  generalize (lg_sl ([.int (-1)]) ++ List.replicate (1 - (lg_sl ([.int (-1)])).length) Slot.unset).toArray = ls at hl ⊢
  have hl : lv_has ls 1 [(0, .int (-1))] := hl
  refine lv_bipush (v := 86) hx hb dX12_cellAt_0 (by decide) ?_
  refine lv_iconst (v := 2) hx hb dX12_cellAt_2 (by decide) ?_
  refine lv_iload_n hx hb dX12_cellAt_3 rfl (lv_at hl 0 rfl) ?_
  refine lv_bipush (v := 8) hx hb dX12_cellAt_4 (by decide) ?_
  refine lv_iadd hx hb dX12_cellAt_6 ?_
  refine lv_topi (fun x_1298 ex_1298 => ?_)
  obtain rfl : x_1298 = 7 := ex_1298.trans (by decide)
  refine lv_imul hx hb dX12_cellAt_7 ?_
  refine lv_topi (fun x_1299 ex_1299 => ?_)
  obtain rfl : x_1299 = 14 := ex_1299.trans (by decide)
  refine lv_iadd hx hb dX12_cellAt_8 ?_
  refine lv_topi (fun x_1300 ex_1300 => ?_)
  obtain rfl : x_1300 = 100 := ex_1300.trans (by decide)
  refine W.widen (k := 0) (n := 0) (Nat.le_of_ble_eq_true rfl) (Nat.le_of_ble_eq_true rfl) ?_
  have hP9 := hP.sub (ws' := []) [] rfl
  have hD9 := hD.sub (ws' := []) [] (by decide) rfl
  have hK9 := hK.sub (tys' := []) [] rfl
  exact W.iret (v := 100) hx hb hr (fun t ht hW => ⟨⟨100, (), rfl, rfl, by rw [ht]; exact hP9, va_K.moved hW.alike hK9, hD9⟩, hS.F ht⟩) hS.2.2 dX12_cellAt_9
def wd_816 (rm : Nat → Nat) (km : Nat → ClassId) (f1302 : Nat → Int32) : va_W := [((rm 23), .inl ((km 3), 422, .inl f1302))]
def wd_817 (rm : Nat → Nat) (km : Nat → ClassId) (f1305 : Nat → Int32) : va_W := [((rm 23), .inl ((km 3), 422, .inl f1305))]
def wd_818 (rm : Nat → Nat) (km : Nat → ClassId) (f1307 : Nat → Int32) : va_W := [((rm 23), .inl ((km 3), 422, .inl f1307))]
def wd_819 (rm : Nat → Nat) (km : Nat → ClassId) (f1310 : Nat → Int32) : va_W := [((rm 23), .inl ((km 3), 422, .inl f1310))]
set_option maxHeartbeats 4000000 in
set_option maxRecDepth 100000 in
theorem c89_X12_holds (l : Launch) (dC : Nat → ClassId) (dI : Nat → Nat → Nat) (rm : Nat → Nat) (km : Nat → ClassId) (fz0 : Nat → Int32) (sz : Nat) : Met l yX12_holds (Cond.code yX12_holds cX12_holds 4 none :: wA) ({ frames := 1, cells := 0, slots := 0, locals := 20 }) (va_Pc [.ref (rm 23), .int (-1), .int 1, .int (-1)] (fun U => U.heap.size = sz ∧ va_P (dC, dI) vwCl (wd_770 rm km fz0) U.heap ∧ va_K (dC, dI) vwCl [((km 3), .int)] U ∧ va_D (fun _ => True) (wd_770 rm km fz0))) (va_Qv (fun (_ : Unit) => True) (fun _ t => ∃ f1310 : Nat → Int32, va_P (dC, dI) vwCl (wd_819 rm km f1310) t.heap ∧ va_K (dC, dI) vwCl [((km 3), .int)] t ∧ va_D (va_A (wd_770 rm km fz0) sz) (wd_819 rm km f1310)) (va_A (wd_770 rm km fz0) sz)) 0 0 (va_A (wd_770 rm km fz0) sz) := by
  refine Met.ofW (cc := cX12_holds) (maxL := 4) (ret := none) (by decide) rfl ?_
  intro p e s m args below meth c s₁ B hml hv
  obtain ⟨rfl, hsz, hP, hK, hD0⟩ := hv
  have hx := B.exec
  have hb := B.bytes
  have hr := B.returns
  have hts : ∀ w ∈ wA, w.before [.ref (rm 23), .int (-1), .int 1, .int (-1)].toArray s = true := fun w h => atoms_spec (ws := Cond.code yX12_holds cX12_holds 4 none :: wA) B.pre w (List.mem_cons_of_mem _ h)
  have hown : s.vm.findClass RX12 = some m.cls := findClass_of_methodNamed B.named
  have hlocks := B.notSynchronized
  subst hsz
  have hD := hD0.self (sz := s.heap.size)
  generalize hAe : va_A (wd_770 rm km fz0) s.heap.size = A at hD ⊢
  have hA : ∀ q : Nat, s.heap.size ≤ q → A q := fun q h => by rw [← hAe]; exact Or.inr h
  have hS : va_S A s.heap s.heap [] := va_S.rf
  have hl := lv_entry ([.ref (rm 23), .int (-1), .int 1, .int (-1)]) (n := 4) (Nat.le_of_ble_eq_true rfl)
  rw [lg_entry_eq]
  generalize (lg_sl ([.ref (rm 23), .int (-1), .int 1, .int (-1)]) ++ List.replicate (4 - (lg_sl ([.ref (rm 23), .int (-1), .int 1, .int (-1)])).length) Slot.unset).toArray = ls at hl ⊢
  have hl : lv_has ls 4 [(0, .ref (rm 23)), (1, .int (-1)), (2, .int 1), (3, .int (-1))] := hl
  refine lv_aload_n hx hb dX12_holds_0 rfl (lv_at hl 0 rfl) ?_
  refine lv_iload_n hx hb dX12_holds_1 rfl (lv_at hl 1 rfl) ?_
  have hPc := hP.sub (ws' := []) [] rfl
  have hDc := hD.sub (ws' := []) [] (by decide) rfl
  have hKc := hK.sub (tys' := []) [] rfl
  have hFc := va_free (wc := []) hD hS hA [] rfl
  refine va_calli (va_runS (As := [.int (-1)]) (rest := [.ref (rm 23)]) ⟨hx, hb, hml, hown, hts⟩ (c88_X12_cellAt l dC dI s.heap.size) (va_cwS 1 hts (gS q_387 q_388 q_372 q_386) rfl rfl rfl mds_yX12_cellAt ⟨Nat.le_of_ble_eq_true rfl, Nat.le_of_ble_eq_true rfl⟩) ⟨fun a U g mk q => by obtain ⟨q0, q1, qP, qK, qD⟩ := q; exact ⟨q0, q1, qP, va_K.moved (u := U) (U := U.calling g mk a) (Vm.Alike.refl U.vm) qK, qD⟩, fun U hU hW => ⟨rfl, by rw [hU], by rw [hU]; exact hPc, va_K.moved hW.alike hKc, hDc.weaken (fun _ _ _ _ => trivial)⟩⟩ rfl rfl hl.1 rfl (lv_room (Nat.le_of_ble_eq_true rfl)) dX12_holds_2 ⟨Nat.le_of_ble_eq_true rfl, Nat.le_of_ble_eq_true rfl⟩) hS (fun q _ h => hFc q h) hFc (fun r_1306 u t H1 locs ht hvm hw hB hz1 hk1 hS => ?_)
  obtain ⟨hP1, hK1, hD1⟩ := hB
  rw [ht] at hP1
  have hK1 := va_K.moved hvm.symm hK1
  obtain ⟨hP, hD⟩ := va_join (wr := (wd_770 rm km fz0)) (w1 := []) hP hD [] [0] rfl rfl (by decide) (by decide) hk1 hFc hP1 hD1
  generalize H1 = H at hP hS ⊢
  have hP : va_P (dC, dI) vwCl (wd_770 rm km fz0) H := hP
  have hD : va_D A (wd_770 rm km fz0) := hD
  obtain rfl : r_1306 = 100 := hw
  refine lv_iload_n hx hb dX12_holds_5 rfl (lv_at hl 2 rfl) ?_
  refine va_iast hx hb hK hP hD hS 0 0 rfl rfl (vpi (by decide)) dX12_holds_6 (fun H locs hP hD hS => ?_)
  obtain ⟨f1307, hP, hD⟩ : ∃ f : Nat → Int32, va_P (dC, dI) vwCl (wd_771 rm km f) H ∧ va_D A (wd_771 rm km f) := ⟨_, hP, hD⟩
  have hP : va_P (dC, dI) vwCl (wd_818 rm km f1307) H := hP
  have hD : va_D A (wd_818 rm km f1307) := hD
  refine lv_aload_n hx hb dX12_holds_7 rfl (lv_at hl 0 rfl) ?_
  refine lv_iload_n hx hb dX12_holds_8 rfl (lv_at hl 1 rfl) ?_
  have hPc := hP.sub (ws' := []) [] rfl
  have hDc := hD.sub (ws' := []) [] (by decide) rfl
  have hKc := hK.sub (tys' := []) [] rfl
  have hFc := va_free (wc := []) hD hS hA [] rfl
  refine va_calli (va_runS (As := [.int (-1)]) (rest := [.ref (rm 23)]) ⟨hx, hb, hml, hown, hts⟩ (c88_X12_cellAt l dC dI H.size) (va_cwS 1 hts (gS q_387 q_388 q_372 q_386) rfl rfl rfl mds_yX12_cellAt ⟨Nat.le_of_ble_eq_true rfl, Nat.le_of_ble_eq_true rfl⟩) ⟨fun a U g mk q => by obtain ⟨q0, q1, qP, qK, qD⟩ := q; exact ⟨q0, q1, qP, va_K.moved (u := U) (U := U.calling g mk a) (Vm.Alike.refl U.vm) qK, qD⟩, fun U hU hW => ⟨rfl, by rw [hU], by rw [hU]; exact hPc, va_K.moved hW.alike hKc, hDc.weaken (fun _ _ _ _ => trivial)⟩⟩ rfl rfl hl.1 rfl (lv_room (Nat.le_of_ble_eq_true rfl)) dX12_holds_9 ⟨Nat.le_of_ble_eq_true rfl, Nat.le_of_ble_eq_true rfl⟩) hS (fun q _ h => hFc q h) hFc (fun r_1308 u t H1 locs ht hvm hw hB hz1 hk1 hS => ?_)
  obtain ⟨hP1, hK1, hD1⟩ := hB
  rw [ht] at hP1
  have hK1 := va_K.moved hvm.symm hK1
  obtain ⟨hP, hD⟩ := va_join (wr := (wd_818 rm km f1307)) (w1 := []) hP hD [] [0] rfl rfl (by decide) (by decide) hk1 hFc hP1 hD1
  generalize H1 = H at hP hS ⊢
  have hP : va_P (dC, dI) vwCl (wd_818 rm km f1307) H := hP
  have hD : va_D A (wd_818 rm km f1307) := hD
  obtain rfl : r_1308 = 100 := hw
  refine lv_iconst (v := 1) hx hb dX12_holds_12 (by decide) ?_
  refine lv_iadd hx hb dX12_holds_13 ?_
  refine lv_topi (fun x_1309 ex_1309 => ?_)
  obtain rfl : x_1309 = 101 := ex_1309.trans (by decide)
  refine lv_iload_n hx hb dX12_holds_14 rfl (lv_at hl 3 rfl) ?_
  refine va_iast hx hb hK hP hD hS 0 0 rfl rfl (vpi (by decide)) dX12_holds_15 (fun H locs hP hD hS => ?_)
  obtain ⟨f1310, hP, hD⟩ : ∃ f : Nat → Int32, va_P (dC, dI) vwCl (wd_771 rm km f) H ∧ va_D A (wd_771 rm km f) := ⟨_, hP, hD⟩
  have hP : va_P (dC, dI) vwCl (wd_819 rm km f1310) H := hP
  have hD : va_D A (wd_819 rm km f1310) := hD
  refine W.widen (k := 0) (n := 0) (Nat.le_of_ble_eq_true rfl) (Nat.le_of_ble_eq_true rfl) ?_
  have hP9 := hP.sub (ws' := (wd_819 rm km f1310)) [0] rfl
  have hD9 := hD.sub (ws' := (wd_819 rm km f1310)) [0] (by decide) rfl
  have hK9 := hK.sub (tys' := [((km 3), .int)]) [0] rfl
  exact W.vret hx hb hr (fun t ht hW => ⟨⟨(), rfl, trivial, f1310, by rw [ht]; exact hP9, va_K.moved hW.alike hK9, hD9⟩, hS.F ht⟩) hS.2.2 dX12_holds_16
def wd_820 (rm : Nat → Nat) (km : Nat → ClassId) (f1312 : Nat → Int32) : va_W := [((rm 23), .inl ((km 3), 422, .inl f1312))]
def wd_821 (rm : Nat → Nat) (km : Nat → ClassId) (f1312 : Nat → Int32) : va_W := [((rm 0), .inr (12, [.ref (rm 1), .int 0, .int 0, .int 0, .int (-1), .int 0, .int (-1), .int 0, .int (-1), .ref (rm 2), .ref (rm 3), .ref (rm 4), .ref (rm 5), .ref (rm 6), .ref (rm 7), .ref (rm 8), .ref (rm 9), .ref (rm 10), .ref (rm 11), .ref (rm 12), .ref (rm 13), .ref (rm 14), .ref (rm 15), .ref (rm 16), .int 0, .int 0, .int 0, .int 0, .int 0, .ref (rm 17), .ref (rm 18), .ref (rm 19), .ref (rm 20), .ref (rm 21), .int 0, .ref (rm 22), .ref (rm 23), .ref (rm 24), .int 0, .int 0, .int 0, .ref (rm 25), .ref (rm 26), .ref (rm 27), .int 0, .ref (rm 28), .ref (rm 29), .int 0, .ref (rm 30), .ref (rm 31), .int 0, .ref (rm 32), .ref (rm 33), .int 0, .ref (rm 34), .ref (rm 35), .int 0, .int 0, .int 0, .ref (rm 36), .ref (rm 37), .int 0, .ref (rm 38), .ref (rm 39), .int 0, .ref (rm 40), .ref (rm 41), .ref (rm 42), .int 0, .int 0, .long 1, .ref (rm 43), .int 0, .int 0, .int (-1), .int 0, .int 0, .int 0, .int 0, .ref (rm 44), .ref (rm 45), .ref (rm 46), .ref (rm 47), .int 0])), ((rm 1), .inl ((km 0), 1600, .inl (fun _ => 0))), ((rm 2), .inl ((km 1), 7, .inl (fun _ => 0))), ((rm 22), .inl ((km 2), 422, .inl (fun _ => 0))), ((rm 23), .inl ((km 3), 422, .inl f1312))]
def wd_822 (rm : Nat → Nat) (km : Nat → ClassId) (fz0 : Nat → Int32) : va_W := [((rm 0), .inr (12, [.ref (rm 1), .int 0, .int 0, .int 0, .int (-1), .int 0, .int (-1), .int 0, .int (-1), .ref (rm 2), .ref (rm 3), .ref (rm 4), .ref (rm 5), .ref (rm 6), .ref (rm 7), .ref (rm 8), .ref (rm 9), .ref (rm 10), .ref (rm 11), .ref (rm 12), .ref (rm 13), .ref (rm 14), .ref (rm 15), .ref (rm 16), .int 0, .int 0, .int 0, .int 0, .int 0, .ref (rm 17), .ref (rm 18), .ref (rm 19), .ref (rm 20), .ref (rm 21), .int 0, .ref (rm 22), .ref (rm 23), .ref (rm 24), .int 0, .int 0, .int 0, .ref (rm 25), .ref (rm 26), .ref (rm 27), .int 0, .ref (rm 28), .ref (rm 29), .int 0, .ref (rm 30), .ref (rm 31), .int 0, .ref (rm 32), .ref (rm 33), .int 0, .ref (rm 34), .ref (rm 35), .int 0, .int 0, .int 0, .ref (rm 36), .ref (rm 37), .int 0, .ref (rm 38), .ref (rm 39), .int 0, .ref (rm 40), .ref (rm 41), .ref (rm 42), .int 0, .int 0, .long 1, .ref (rm 43), .int 0, .int 0, .int (-1), .int 0, .int 0, .int 0, .int 0, .ref (rm 44), .ref (rm 45), .ref (rm 46), .ref (rm 47), .int 0])), ((rm 1), .inl ((km 0), 1600, .inl (fun _ => 0))), ((rm 2), .inl ((km 1), 7, .inl (fun _ => 0))), ((rm 22), .inl ((km 2), 422, .inl (fun _ => 0))), ((rm 23), .inl ((km 3), 422, .inl fz0))]
set_option maxHeartbeats 4000000 in
set_option maxRecDepth 100000 in
theorem c90_X12_look (l : Launch) (dC : Nat → ClassId) (dI : Nat → Nat → Nat) (rm : Nat → Nat) (km : Nat → ClassId) (fz0 : Nat → Int32) (sz : Nat) : Met l yX12_look (Cond.code yX12_look cX12_look 1 (some .int) :: wA) ({ frames := 0, cells := 0, slots := 0, locals := 0 }) (va_Pc [.ref (rm 0)] (fun U => U.heap.size = sz ∧ va_P (dC, dI) vwCl (wd_822 rm km fz0) U.heap ∧ va_K (dC, dI) vwCl [((km 0), .int), ((km 1), .int), ((km 2), .int), ((km 3), .int)] U ∧ va_D (fun _ => True) (wd_822 rm km fz0))) (va_Qi (fun (r : Int32) (_ : Unit) => r = (-1)) (fun _ t => va_P (dC, dI) vwCl (wd_822 rm km fz0) t.heap ∧ va_K (dC, dI) vwCl [((km 0), .int), ((km 1), .int), ((km 2), .int), ((km 3), .int)] t ∧ va_D (va_A (wd_822 rm km fz0) sz) (wd_822 rm km fz0)) (va_A (wd_822 rm km fz0) sz)) 0 0 (va_A (wd_822 rm km fz0) sz) := by
  refine Met.ofW (cc := cX12_look) (maxL := 1) (ret := (some .int)) (by decide) rfl ?_
  intro p e s m args below meth c s₁ B hml hv
  obtain ⟨rfl, hsz, hP, hK, hD0⟩ := hv
  have hx := B.exec
  have hb := B.bytes
  have hr := B.returns
  have hts : ∀ w ∈ wA, w.before [.ref (rm 0)].toArray s = true := fun w h => atoms_spec (ws := Cond.code yX12_look cX12_look 1 (some .int) :: wA) B.pre w (List.mem_cons_of_mem _ h)
  have hown : s.vm.findClass RX12 = some m.cls := findClass_of_methodNamed B.named
  have hlocks := B.notSynchronized
  subst hsz
  have hD := hD0.self (sz := s.heap.size)
  generalize hAe : va_A (wd_822 rm km fz0) s.heap.size = A at hD ⊢
  have hA : ∀ q : Nat, s.heap.size ≤ q → A q := fun q h => by rw [← hAe]; exact Or.inr h
  have hS : va_S A s.heap s.heap [] := va_S.rf
  have hl := lv_entry ([.ref (rm 0)]) (n := 1) (Nat.le_of_ble_eq_true rfl)
  rw [lg_entry_eq]
  generalize (lg_sl ([.ref (rm 0)]) ++ List.replicate (1 - (lg_sl ([.ref (rm 0)])).length) Slot.unset).toArray = ls at hl ⊢
  have hl : lv_has ls 1 [(0, .ref (rm 0))] := hl
  refine lv_aload_n hx hb dX12_look_0 rfl (lv_at hl 0 rfl) ?_
  refine va_get (D := (dC, dI)) (ci := 12) (v := .int 0) (C := RX12) (T := TX12) (N := 84) hx hb hts i_X12 hown hK hP 0 rfl rfl 2 (by decide) (hts _ q_376) (fun _ h9 => h9) rfl dX12_look_1 ?_
  refine lv_aload_n hx hb dX12_look_4 rfl (lv_at hl 0 rfl) ?_
  refine va_get (D := (dC, dI)) (ci := 12) (v := .int 0) (C := RX12) (T := TX12) (N := 84) hx hb hts i_X12 hown hK hP 0 rfl rfl 3 (by decide) (hts _ q_375) (fun _ h9 => h9) rfl dX12_look_5 ?_
  refine lv_icmp_ge (tgt := 52) hx hb dX12_look_8 (by decide) (fun c_0 => ?_) (fun c_0 => absurd c_0 (by decide))
  refine lv_aload_n hx hb dX12_look_52 rfl (lv_at hl 0 rfl) ?_
  refine va_get (D := (dC, dI)) (ci := 12) (v := .int 0) (C := RX12) (T := TX12) (N := 84) hx hb hts i_X12 hown hK hP 0 rfl rfl 2 (by decide) (hts _ q_376) (fun _ h9 => h9) rfl dX12_look_53 ?_
  refine lv_aload_n hx hb dX12_look_56 rfl (lv_at hl 0 rfl) ?_
  refine va_get (D := (dC, dI)) (ci := 12) (v := .int 0) (C := RX12) (T := TX12) (N := 84) hx hb hts i_X12 hown hK hP 0 rfl rfl 3 (by decide) (hts _ q_375) (fun _ h9 => h9) rfl dX12_look_57 ?_
  refine lv_icmp_ge (tgt := 75) hx hb dX12_look_60 (by decide) (fun c_0 => ?_) (fun c_0 => absurd c_0 (by decide))
  refine lv_iconst (v := (-1)) hx hb dX12_look_75 (by decide) ?_
  refine W.widen (k := 0) (n := 0) (Nat.le_of_ble_eq_true rfl) (Nat.le_of_ble_eq_true rfl) ?_
  have hP9 := hP.sub (ws' := (wd_822 rm km fz0)) [0, 1, 2, 3, 4] rfl
  have hD9 := hD.sub (ws' := (wd_822 rm km fz0)) [0, 1, 2, 3, 4] (by decide) rfl
  have hK9 := hK.sub (tys' := [((km 0), .int), ((km 1), .int), ((km 2), .int), ((km 3), .int)]) [0, 1, 2, 3] rfl
  exact W.iret (v := (-1)) hx hb hr (fun t ht hW => ⟨⟨(-1), (), rfl, rfl, by rw [ht]; exact hP9, va_K.moved hW.alike hK9, hD9⟩, hS.F ht⟩) hS.2.2 dX12_look_76
set_option maxHeartbeats 4000000 in
set_option maxRecDepth 100000 in
theorem c91_X12_isLetter (l : Launch) (dC : Nat → ClassId) (dI : Nat → Nat → Nat) (sz : Nat) : Met l yX12_isLetter (Cond.code yX12_isLetter cX12_isLetter 1 (some .boolean) :: wA) ({ frames := 0, cells := 0, slots := 0, locals := 0 }) (va_Pc [.int (-1)] (fun U => U.heap.size = sz ∧ va_P (dC, dI) vwCl [] U.heap ∧ va_K (dC, dI) vwCl [] U ∧ va_D (fun _ => True) [])) (va_Qi (fun (r : Int32) (_ : Unit) => r = 0) (fun _ t => va_P (dC, dI) vwCl [] t.heap ∧ va_K (dC, dI) vwCl [] t ∧ va_D (va_A [] sz) []) (va_A [] sz)) 0 0 (va_A [] sz) := by
  refine Met.ofW (cc := cX12_isLetter) (maxL := 1) (ret := (some .boolean)) (by decide) rfl ?_
  intro p e s m args below meth c s₁ B hml hv
  obtain ⟨rfl, hsz, hP, hK, hD0⟩ := hv
  have hx := B.exec
  have hb := B.bytes
  have hr := B.returns
  have hts : ∀ w ∈ wA, w.before [.int (-1)].toArray s = true := fun w h => atoms_spec (ws := Cond.code yX12_isLetter cX12_isLetter 1 (some .boolean) :: wA) B.pre w (List.mem_cons_of_mem _ h)
  have hown : s.vm.findClass RX12 = some m.cls := findClass_of_methodNamed B.named
  have hlocks := B.notSynchronized
  subst hsz
  have hD := hD0.self (sz := s.heap.size)
  generalize hAe : va_A [] s.heap.size = A at hD ⊢
  have hA : ∀ q : Nat, s.heap.size ≤ q → A q := fun q h => by rw [← hAe]; exact Or.inr h
  have hS : va_S A s.heap s.heap [] := va_S.rf
  have hl := lv_entry ([.int (-1)]) (n := 1) (Nat.le_of_ble_eq_true rfl)
  rw [lg_entry_eq]
  generalize (lg_sl ([.int (-1)]) ++ List.replicate (1 - (lg_sl ([.int (-1)])).length) Slot.unset).toArray = ls at hl ⊢
  have hl : lv_has ls 1 [(0, .int (-1))] := hl
  refine lv_iload_n hx hb dX12_isLetter_0 rfl (lv_at hl 0 rfl) ?_
  refine lv_bipush (v := 97) hx hb dX12_isLetter_1 (by decide) ?_
  refine lv_icmp_lt (tgt := 16) hx hb dX12_isLetter_3 (by decide) (fun c_0 => ?_) (fun c_0 => absurd c_0 (by decide))
  refine lv_iconst (v := 0) hx hb dX12_isLetter_16 (by decide) ?_
  refine W.widen (k := 0) (n := 0) (Nat.le_of_ble_eq_true rfl) (Nat.le_of_ble_eq_true rfl) ?_
  have hP9 := hP.sub (ws' := []) [] rfl
  have hD9 := hD.sub (ws' := []) [] (by decide) rfl
  have hK9 := hK.sub (tys' := []) [] rfl
  exact W.zret (v := 0) hx hb hr rfl (fun t ht hW => ⟨⟨0, (), rfl, rfl, by rw [ht]; exact hP9, va_K.moved hW.alike hK9, hD9⟩, hS.F ht⟩) hS.2.2 dX12_isLetter_17
set_option maxHeartbeats 4000000 in
set_option maxRecDepth 100000 in
theorem c92_X12_isHere (l : Launch) (dC : Nat → ClassId) (dI : Nat → Nat → Nat) (rm : Nat → Nat) (km : Nat → ClassId) (fz0 : Nat → Int32) (sz : Nat) : Met l yX12_isHere (Cond.code yX12_isHere cX12_isHere 4 (some .boolean) :: wA) ({ frames := 1, cells := 0, slots := 0, locals := 20 }) (va_Pc [.ref (rm 0), .ref (rm 3)] (fun U => U.heap.size = sz ∧ va_P (dC, dI) vwCl (wd_822 rm km fz0) U.heap ∧ va_K (dC, dI) vwCl [((km 0), .int), ((km 1), .int), ((km 2), .int), ((km 3), .int)] U ∧ va_D (fun _ => True) (wd_822 rm km fz0))) (va_Qi (fun (r : Int32) (_ : Unit) => r = 0) (fun _ t => va_P (dC, dI) vwCl (wd_822 rm km fz0) t.heap ∧ va_K (dC, dI) vwCl [((km 0), .int), ((km 1), .int), ((km 2), .int), ((km 3), .int)] t ∧ va_D (va_A (wd_822 rm km fz0) sz) (wd_822 rm km fz0)) (va_A (wd_822 rm km fz0) sz)) 0 0 (va_A (wd_822 rm km fz0) sz) := by
  refine Met.ofW (cc := cX12_isHere) (maxL := 4) (ret := (some .boolean)) (by decide) rfl ?_
  intro p e s m args below meth c s₁ B hml hv
  obtain ⟨rfl, hsz, hP, hK, hD0⟩ := hv
  have hx := B.exec
  have hb := B.bytes
  have hr := B.returns
  have hts : ∀ w ∈ wA, w.before [.ref (rm 0), .ref (rm 3)].toArray s = true := fun w h => atoms_spec (ws := Cond.code yX12_isHere cX12_isHere 4 (some .boolean) :: wA) B.pre w (List.mem_cons_of_mem _ h)
  have hown : s.vm.findClass RX12 = some m.cls := findClass_of_methodNamed B.named
  have hlocks := B.notSynchronized
  subst hsz
  have hD := hD0.self (sz := s.heap.size)
  generalize hAe : va_A (wd_822 rm km fz0) s.heap.size = A at hD ⊢
  have hA : ∀ q : Nat, s.heap.size ≤ q → A q := fun q h => by rw [← hAe]; exact Or.inr h
  have hS : va_S A s.heap s.heap [] := va_S.rf
  have hl := lv_entry ([.ref (rm 0), .ref (rm 3)]) (n := 4) (Nat.le_of_ble_eq_true rfl)
  rw [lg_entry_eq]
  generalize (lg_sl ([.ref (rm 0), .ref (rm 3)]) ++ List.replicate (4 - (lg_sl ([.ref (rm 0), .ref (rm 3)])).length) Slot.unset).toArray = ls at hl ⊢
  have hl : lv_has ls 4 [(0, .ref (rm 0)), (1, .ref (rm 3))] := hl
  refine lv_aload_n hx hb dX12_isHere_0 rfl (lv_at hl 0 rfl) ?_
  refine va_get (D := (dC, dI)) (ci := 12) (v := .int 0) (C := RX12) (T := TX12) (N := 84) hx hb hts i_X12 hown hK hP 0 rfl rfl 5 (by decide) (hts _ q_378) (fun _ h9 => h9) rfl dX12_isHere_1 ?_
  refine lv_if_ne (tgt := 28) hx hb dX12_isHere_4 (by decide) (fun c_0 => absurd c_0 (by decide)) (fun c_0 => ?_)
  refine lv_aload_n hx hb dX12_isHere_7 rfl (lv_at hl 0 rfl) ?_
  have hPc := hP.sub (ws' := (wd_822 rm km fz0)) [0, 1, 2, 3, 4] rfl
  have hDc := hD.sub (ws' := (wd_822 rm km fz0)) [0, 1, 2, 3, 4] (by decide) rfl
  have hKc := hK.sub (tys' := [((km 0), .int), ((km 1), .int), ((km 2), .int), ((km 3), .int)]) [0, 1, 2, 3] rfl
  have hFc := va_free (wc := (wd_822 rm km fz0)) hD hS hA [0, 1, 2, 3, 4] rfl
  refine va_calli (va_runV (As := []) (rest := []) ⟨hx, hb, hml, hown, hts⟩ (c90_X12_look l dC dI rm km fz0 s.heap.size) (cwV 0 hts (gV q_395 q_396 q_397 q_372 q_394) rfl rfl rfl mdv_yX12_look ⟨Nat.le_of_ble_eq_true rfl, Nat.le_of_ble_eq_true rfl⟩) ⟨fun a U g mk q => by obtain ⟨q0, q1, qP, qK, qD⟩ := q; exact ⟨q0, q1, qP, va_K.moved (u := U) (U := U.calling g mk a) (Vm.Alike.refl U.vm) qK, qD⟩, va_recv hKc hPc (ci := 12) (q0 := 0) rfl rfl, fun U hU hW => ⟨rfl, by rw [hU], by rw [hU]; exact hPc, va_K.moved hW.alike hKc, hDc.weaken (fun _ _ _ _ => trivial)⟩⟩ rfl rfl hl.1 rfl (lv_room (Nat.le_of_ble_eq_true rfl)) dX12_isHere_8 ⟨Nat.le_of_ble_eq_true rfl, Nat.le_of_ble_eq_true rfl⟩) hS (fun q _ h => hFc q h) hFc (fun r_1315 u t H1 locs ht hvm hw hB hz1 hk1 hS => ?_)
  obtain ⟨hP1, hK1, hD1⟩ := hB
  rw [ht] at hP1
  have hK1 := va_K.moved hvm.symm hK1
  obtain ⟨hP, hD⟩ := va_join (wr := []) (w1 := (wd_822 rm km fz0)) hP hD [0, 1, 2, 3, 4] [] rfl rfl (by decide) (by decide) hk1 hFc hP1 hD1
  generalize H1 = H at hP hS ⊢
  have hP : va_P (dC, dI) vwCl (wd_822 rm km fz0) H := hP
  have hD : va_D A (wd_822 rm km fz0) := hD
  obtain rfl : r_1315 = (-1) := hw
  have hPc := hP.sub (ws' := []) [] rfl
  have hDc := hD.sub (ws' := []) [] (by decide) rfl
  have hKc := hK.sub (tys' := []) [] rfl
  have hFc := va_free (wc := []) hD hS hA [] rfl
  refine va_calli (va_runS (As := [.int (-1)]) (rest := []) ⟨hx, hb, hml, hown, hts⟩ (c91_X12_isLetter l dC dI H.size) (va_cwS 1 hts (gS q_399 q_400 q_372 q_398) rfl rfl rfl mds_yX12_isLetter ⟨Nat.le_of_ble_eq_true rfl, Nat.le_of_ble_eq_true rfl⟩) ⟨fun a U g mk q => by obtain ⟨q0, q1, qP, qK, qD⟩ := q; exact ⟨q0, q1, qP, va_K.moved (u := U) (U := U.calling g mk a) (Vm.Alike.refl U.vm) qK, qD⟩, fun U hU hW => ⟨rfl, by rw [hU], by rw [hU]; exact hPc, va_K.moved hW.alike hKc, hDc.weaken (fun _ _ _ _ => trivial)⟩⟩ rfl rfl hl.1 rfl (lv_room (Nat.le_of_ble_eq_true rfl)) dX12_isHere_11 ⟨Nat.le_of_ble_eq_true rfl, Nat.le_of_ble_eq_true rfl⟩) hS (fun q _ h => hFc q h) hFc (fun r_1316 u t H1 locs ht hvm hw hB hz1 hk1 hS => ?_)
  obtain ⟨hP1, hK1, hD1⟩ := hB
  rw [ht] at hP1
  have hK1 := va_K.moved hvm.symm hK1
  obtain ⟨hP, hD⟩ := va_join (wr := (wd_822 rm km fz0)) (w1 := []) hP hD [] [0, 1, 2, 3, 4] rfl rfl (by decide) (by decide) hk1 hFc hP1 hD1
  generalize H1 = H at hP hS ⊢
  have hP : va_P (dC, dI) vwCl (wd_822 rm km fz0) H := hP
  have hD : va_D A (wd_822 rm km fz0) := hD
  obtain rfl : r_1316 = 0 := hw
  refine lv_if_eq (tgt := 28) hx hb dX12_isHere_14 (by decide) (fun c_0 => ?_) (fun c_0 => absurd c_0 (by decide))
  refine lv_iconst (v := 0) hx hb dX12_isHere_28 (by decide) ?_
  refine W.widen (k := 0) (n := 0) (Nat.le_of_ble_eq_true rfl) (Nat.le_of_ble_eq_true rfl) ?_
  have hP9 := hP.sub (ws' := (wd_822 rm km fz0)) [0, 1, 2, 3, 4] rfl
  have hD9 := hD.sub (ws' := (wd_822 rm km fz0)) [0, 1, 2, 3, 4] (by decide) rfl
  have hK9 := hK.sub (tys' := [((km 0), .int), ((km 1), .int), ((km 2), .int), ((km 3), .int)]) [0, 1, 2, 3] rfl
  exact W.zret (v := 0) hx hb hr rfl (fun t ht hW => ⟨⟨0, (), rfl, rfl, by rw [ht]; exact hP9, va_K.moved hW.alike hK9, hD9⟩, hS.F ht⟩) hS.2.2 dX12_isHere_29
set_option maxHeartbeats 4000000 in
set_option maxRecDepth 100000 in
theorem c93_X12_takes (l : Launch) (dC : Nat → ClassId) (dI : Nat → Nat → Nat) (rm : Nat → Nat) (km : Nat → ClassId) (fz0 : Nat → Int32) (sz : Nat) : Met l yX12_takes (Cond.code yX12_takes cX12_takes 2 (some .boolean) :: wA) ({ frames := 2, cells := 0, slots := 0, locals := 43 }) (va_Pc [.ref (rm 0), .ref (rm 3)] (fun U => U.heap.size = sz ∧ va_P (dC, dI) vwCl (wd_822 rm km fz0) U.heap ∧ va_K (dC, dI) vwCl [((km 0), .int), ((km 1), .int), ((km 2), .int), ((km 3), .int)] U ∧ va_D (fun _ => True) (wd_822 rm km fz0))) (va_Qi (fun (r : Int32) (_ : Unit) => r = 0) (fun _ t => va_P (dC, dI) vwCl (wd_822 rm km fz0) t.heap ∧ va_K (dC, dI) vwCl [((km 0), .int), ((km 1), .int), ((km 2), .int), ((km 3), .int)] t ∧ va_D (va_A (wd_822 rm km fz0) sz) (wd_822 rm km fz0)) (va_A (wd_822 rm km fz0) sz)) 0 0 (va_A (wd_822 rm km fz0) sz) := by
  refine Met.ofW (cc := cX12_takes) (maxL := 2) (ret := (some .boolean)) (by decide) rfl ?_
  intro p e s m args below meth c s₁ B hml hv
  obtain ⟨rfl, hsz, hP, hK, hD0⟩ := hv
  have hx := B.exec
  have hb := B.bytes
  have hr := B.returns
  have hts : ∀ w ∈ wA, w.before [.ref (rm 0), .ref (rm 3)].toArray s = true := fun w h => atoms_spec (ws := Cond.code yX12_takes cX12_takes 2 (some .boolean) :: wA) B.pre w (List.mem_cons_of_mem _ h)
  have hown : s.vm.findClass RX12 = some m.cls := findClass_of_methodNamed B.named
  have hlocks := B.notSynchronized
  subst hsz
  have hD := hD0.self (sz := s.heap.size)
  generalize hAe : va_A (wd_822 rm km fz0) s.heap.size = A at hD ⊢
  have hA : ∀ q : Nat, s.heap.size ≤ q → A q := fun q h => by rw [← hAe]; exact Or.inr h
  have hS : va_S A s.heap s.heap [] := va_S.rf
  have hl := lv_entry ([.ref (rm 0), .ref (rm 3)]) (n := 2) (Nat.le_of_ble_eq_true rfl)
  rw [lg_entry_eq]
  generalize (lg_sl ([.ref (rm 0), .ref (rm 3)]) ++ List.replicate (2 - (lg_sl ([.ref (rm 0), .ref (rm 3)])).length) Slot.unset).toArray = ls at hl ⊢
  have hl : lv_has ls 2 [(0, .ref (rm 0)), (1, .ref (rm 3))] := hl
  refine lv_aload_n hx hb dX12_takes_0 rfl (lv_at hl 0 rfl) ?_
  refine lv_aload_n hx hb dX12_takes_1 rfl (lv_at hl 1 rfl) ?_
  have hPc := hP.sub (ws' := (wd_822 rm km fz0)) [0, 1, 2, 3, 4] rfl
  have hDc := hD.sub (ws' := (wd_822 rm km fz0)) [0, 1, 2, 3, 4] (by decide) rfl
  have hKc := hK.sub (tys' := [((km 0), .int), ((km 1), .int), ((km 2), .int), ((km 3), .int)]) [0, 1, 2, 3] rfl
  have hFc := va_free (wc := (wd_822 rm km fz0)) hD hS hA [0, 1, 2, 3, 4] rfl
  refine va_calli (va_runV (As := [.ref (rm 3)]) (rest := []) ⟨hx, hb, hml, hown, hts⟩ (c92_X12_isHere l dC dI rm km fz0 s.heap.size) (cwV 1 hts (gV q_401 q_402 q_403 q_372 q_393) rfl rfl rfl mdv_yX12_isHere ⟨Nat.le_of_ble_eq_true rfl, Nat.le_of_ble_eq_true rfl⟩) ⟨fun a U g mk q => by obtain ⟨q0, q1, qP, qK, qD⟩ := q; exact ⟨q0, q1, qP, va_K.moved (u := U) (U := U.calling g mk a) (Vm.Alike.refl U.vm) qK, qD⟩, va_recv hKc hPc (ci := 12) (q0 := 0) rfl rfl, fun U hU hW => ⟨rfl, by rw [hU], by rw [hU]; exact hPc, va_K.moved hW.alike hKc, hDc.weaken (fun _ _ _ _ => trivial)⟩⟩ rfl rfl hl.1 rfl (lv_room (Nat.le_of_ble_eq_true rfl)) dX12_takes_2 ⟨Nat.le_of_ble_eq_true rfl, Nat.le_of_ble_eq_true rfl⟩) hS (fun q _ h => hFc q h) hFc (fun r_1318 u t H1 locs ht hvm hw hB hz1 hk1 hS => ?_)
  obtain ⟨hP1, hK1, hD1⟩ := hB
  rw [ht] at hP1
  have hK1 := va_K.moved hvm.symm hK1
  obtain ⟨hP, hD⟩ := va_join (wr := []) (w1 := (wd_822 rm km fz0)) hP hD [0, 1, 2, 3, 4] [] rfl rfl (by decide) (by decide) hk1 hFc hP1 hD1
  generalize H1 = H at hP hS ⊢
  have hP : va_P (dC, dI) vwCl (wd_822 rm km fz0) H := hP
  have hD : va_D A (wd_822 rm km fz0) := hD
  obtain rfl : r_1318 = 0 := hw
  refine lv_if_ne (tgt := 10) hx hb dX12_takes_5 (by decide) (fun c_0 => absurd c_0 (by decide)) (fun c_0 => ?_)
  refine lv_iconst (v := 0) hx hb dX12_takes_8 (by decide) ?_
  refine W.widen (k := 0) (n := 0) (Nat.le_of_ble_eq_true rfl) (Nat.le_of_ble_eq_true rfl) ?_
  have hP9 := hP.sub (ws' := (wd_822 rm km fz0)) [0, 1, 2, 3, 4] rfl
  have hD9 := hD.sub (ws' := (wd_822 rm km fz0)) [0, 1, 2, 3, 4] (by decide) rfl
  have hK9 := hK.sub (tys' := [((km 0), .int), ((km 1), .int), ((km 2), .int), ((km 3), .int)]) [0, 1, 2, 3] rfl
  exact W.zret (v := 0) hx hb hr rfl (fun t ht hW => ⟨⟨0, (), rfl, rfl, by rw [ht]; exact hP9, va_K.moved hW.alike hK9, hD9⟩, hS.F ht⟩) hS.2.2 dX12_takes_9
def wd_823 (rm : Nat → Nat) (km : Nat → ClassId) (fz0 : Nat → Int32) : va_W := [((rm 0), .inr (12, [.ref (rm 1), .int 0, .int 0, .int 0, .int (-1), .int 1, .int (-1), .int 0, .int (-1), .ref (rm 2), .ref (rm 3), .ref (rm 4), .ref (rm 5), .ref (rm 6), .ref (rm 7), .ref (rm 8), .ref (rm 9), .ref (rm 10), .ref (rm 11), .ref (rm 12), .ref (rm 13), .ref (rm 14), .ref (rm 15), .ref (rm 16), .int 0, .int 0, .int 0, .int 0, .int 0, .ref (rm 17), .ref (rm 18), .ref (rm 19), .ref (rm 20), .ref (rm 21), .int 0, .ref (rm 22), .ref (rm 23), .ref (rm 24), .int 0, .int 0, .int 0, .ref (rm 25), .ref (rm 26), .ref (rm 27), .int 0, .ref (rm 28), .ref (rm 29), .int 0, .ref (rm 30), .ref (rm 31), .int 0, .ref (rm 32), .ref (rm 33), .int 0, .ref (rm 34), .ref (rm 35), .int 0, .int 0, .int 0, .ref (rm 36), .ref (rm 37), .int 0, .ref (rm 38), .ref (rm 39), .int 0, .ref (rm 40), .ref (rm 41), .ref (rm 42), .int 0, .int 0, .long 1, .ref (rm 43), .int 0, .int 0, .int (-1), .int 0, .int 0, .int 0, .int 0, .ref (rm 44), .ref (rm 45), .ref (rm 46), .ref (rm 47), .int 0])), ((rm 1), .inl ((km 0), 1600, .inl (fun _ => 0))), ((rm 2), .inl ((km 1), 7, .inl (fun _ => 0))), ((rm 22), .inl ((km 2), 422, .inl (fun _ => 0))), ((rm 23), .inl ((km 3), 422, .inl fz0))]
def wd_824 (rm : Nat → Nat) (km : Nat → ClassId) (fz0 : Nat → Int32) : va_W := [((rm 0), .inr (12, [.ref (rm 1), .int 0, .int 0, .int 0, .int (-1), .int 1, .int 0, .int 0, .int (-1), .ref (rm 2), .ref (rm 3), .ref (rm 4), .ref (rm 5), .ref (rm 6), .ref (rm 7), .ref (rm 8), .ref (rm 9), .ref (rm 10), .ref (rm 11), .ref (rm 12), .ref (rm 13), .ref (rm 14), .ref (rm 15), .ref (rm 16), .int 0, .int 0, .int 0, .int 0, .int 0, .ref (rm 17), .ref (rm 18), .ref (rm 19), .ref (rm 20), .ref (rm 21), .int 0, .ref (rm 22), .ref (rm 23), .ref (rm 24), .int 0, .int 0, .int 0, .ref (rm 25), .ref (rm 26), .ref (rm 27), .int 0, .ref (rm 28), .ref (rm 29), .int 0, .ref (rm 30), .ref (rm 31), .int 0, .ref (rm 32), .ref (rm 33), .int 0, .ref (rm 34), .ref (rm 35), .int 0, .int 0, .int 0, .ref (rm 36), .ref (rm 37), .int 0, .ref (rm 38), .ref (rm 39), .int 0, .ref (rm 40), .ref (rm 41), .ref (rm 42), .int 0, .int 0, .long 1, .ref (rm 43), .int 0, .int 0, .int (-1), .int 0, .int 0, .int 0, .int 0, .ref (rm 44), .ref (rm 45), .ref (rm 46), .ref (rm 47), .int 0])), ((rm 1), .inl ((km 0), 1600, .inl (fun _ => 0))), ((rm 2), .inl ((km 1), 7, .inl (fun _ => 0))), ((rm 22), .inl ((km 2), 422, .inl (fun _ => 0))), ((rm 23), .inl ((km 3), 422, .inl fz0))]
set_option maxHeartbeats 4000000 in
set_option maxRecDepth 100000 in
theorem c94_X12_fail (l : Launch) (dC : Nat → ClassId) (dI : Nat → Nat → Nat) (rm : Nat → Nat) (km : Nat → ClassId) (fz0 : Nat → Int32) (sz : Nat) : Met l yX12_fail (Cond.code yX12_fail cX12_fail 3 none :: wA) ({ frames := 0, cells := 0, slots := 0, locals := 0 }) (va_Pc [.ref (rm 0), .int 1, .int 0] (fun U => U.heap.size = sz ∧ va_P (dC, dI) vwCl (wd_822 rm km fz0) U.heap ∧ va_K (dC, dI) vwCl [((km 0), .int), ((km 1), .int), ((km 2), .int), ((km 3), .int)] U ∧ va_D (fun _ => True) (wd_822 rm km fz0))) (va_Qv (fun (_ : Unit) => True) (fun _ t => va_P (dC, dI) vwCl (wd_824 rm km fz0) t.heap ∧ va_K (dC, dI) vwCl [((km 0), .int), ((km 1), .int), ((km 2), .int), ((km 3), .int)] t ∧ va_D (va_A (wd_822 rm km fz0) sz) (wd_824 rm km fz0)) (va_A (wd_822 rm km fz0) sz)) 0 0 (va_A (wd_822 rm km fz0) sz) := by
  refine Met.ofW (cc := cX12_fail) (maxL := 3) (ret := none) (by decide) rfl ?_
  intro p e s m args below meth c s₁ B hml hv
  obtain ⟨rfl, hsz, hP, hK, hD0⟩ := hv
  have hx := B.exec
  have hb := B.bytes
  have hr := B.returns
  have hts : ∀ w ∈ wA, w.before [.ref (rm 0), .int 1, .int 0].toArray s = true := fun w h => atoms_spec (ws := Cond.code yX12_fail cX12_fail 3 none :: wA) B.pre w (List.mem_cons_of_mem _ h)
  have hown : s.vm.findClass RX12 = some m.cls := findClass_of_methodNamed B.named
  have hlocks := B.notSynchronized
  subst hsz
  have hD := hD0.self (sz := s.heap.size)
  generalize hAe : va_A (wd_822 rm km fz0) s.heap.size = A at hD ⊢
  have hA : ∀ q : Nat, s.heap.size ≤ q → A q := fun q h => by rw [← hAe]; exact Or.inr h
  have hS : va_S A s.heap s.heap [] := va_S.rf
  have hl := lv_entry ([.ref (rm 0), .int 1, .int 0]) (n := 3) (Nat.le_of_ble_eq_true rfl)
  rw [lg_entry_eq]
  generalize (lg_sl ([.ref (rm 0), .int 1, .int 0]) ++ List.replicate (3 - (lg_sl ([.ref (rm 0), .int 1, .int 0])).length) Slot.unset).toArray = ls at hl ⊢
  have hl : lv_has ls 3 [(0, .ref (rm 0)), (1, .int 1), (2, .int 0)] := hl
  refine lv_aload_n hx hb dX12_fail_0 rfl (lv_at hl 0 rfl) ?_
  refine va_get (D := (dC, dI)) (ci := 12) (v := .int 0) (C := RX12) (T := TX12) (N := 84) hx hb hts i_X12 hown hK hP 0 rfl rfl 5 (by decide) (hts _ q_378) (fun _ h9 => h9) rfl dX12_fail_1 ?_
  refine lv_if_eq (tgt := 8) hx hb dX12_fail_4 (by decide) (fun c_0 => ?_) (fun c_0 => absurd c_0 (by decide))
  refine lv_aload_n hx hb dX12_fail_8 rfl (lv_at hl 0 rfl) ?_
  refine lv_iload_n hx hb dX12_fail_9 rfl (lv_at hl 1 rfl) ?_
  refine va_put (D := (dC, dI)) (ci := 12) (v := .int 1) (ty := tyX12 5) (C := RX12) (T := TX12) (N := 84) hx hb hts i_X12 tyX12 tyX12_ok nmX12 hown hK hP hD hS 0 rfl rfl 5 (by decide) (hts _ q_378) (fun _ h9 => h9) rfl (tyX12_ok 5 (by decide)) rfl rfl (Nat.le_of_ble_eq_true rfl) dX12_fail_10 (fun H locs hP hD hS => ?_)
  have hP : va_P (dC, dI) vwCl (wd_823 rm km fz0) H := hP
  have hD : va_D A (wd_823 rm km fz0) := hD
  refine lv_aload_n hx hb dX12_fail_13 rfl (lv_at hl 0 rfl) ?_
  refine lv_iload_n hx hb dX12_fail_14 rfl (lv_at hl 2 rfl) ?_
  refine va_put (D := (dC, dI)) (ci := 12) (v := .int 0) (ty := tyX12 6) (C := RX12) (T := TX12) (N := 84) hx hb hts i_X12 tyX12 tyX12_ok nmX12 hown hK hP hD hS 0 rfl rfl 6 (by decide) (hts _ q_379) (fun _ h9 => h9) rfl (tyX12_ok 6 (by decide)) rfl rfl (Nat.le_of_ble_eq_true rfl) dX12_fail_15 (fun H locs hP hD hS => ?_)
  have hP : va_P (dC, dI) vwCl (wd_824 rm km fz0) H := hP
  have hD : va_D A (wd_824 rm km fz0) := hD
  refine W.widen (k := 0) (n := 0) (Nat.le_of_ble_eq_true rfl) (Nat.le_of_ble_eq_true rfl) ?_
  have hP9 := hP.sub (ws' := (wd_824 rm km fz0)) [0, 1, 2, 3, 4] rfl
  have hD9 := hD.sub (ws' := (wd_824 rm km fz0)) [0, 1, 2, 3, 4] (by decide) rfl
  have hK9 := hK.sub (tys' := [((km 0), .int), ((km 1), .int), ((km 2), .int), ((km 3), .int)]) [0, 1, 2, 3] rfl
  exact W.vret hx hb hr (fun t ht hW => ⟨⟨(), rfl, trivial, by rw [ht]; exact hP9, va_K.moved hW.alike hK9, hD9⟩, hS.F ht⟩) hS.2.2 dX12_fail_18
set_option maxHeartbeats 4000000 in
set_option maxRecDepth 100000 in
theorem c95_X12_asks (l : Launch) (dC : Nat → ClassId) (dI : Nat → Nat → Nat) (rm : Nat → Nat) (km : Nat → ClassId) (fz0 : Nat → Int32) (sz : Nat) : Met l yX12_asks (Cond.code yX12_asks cX12_asks 2 none :: wA) ({ frames := 3, cells := 0, slots := 0, locals := 64 }) (va_Pc [.ref (rm 0), .ref (rm 3)] (fun U => U.heap.size = sz ∧ va_P (dC, dI) vwCl (wd_822 rm km fz0) U.heap ∧ va_K (dC, dI) vwCl [((km 0), .int), ((km 1), .int), ((km 2), .int), ((km 3), .int)] U ∧ va_D (fun _ => True) (wd_822 rm km fz0))) (va_Qv (fun (_ : Unit) => True) (fun _ t => va_P (dC, dI) vwCl (wd_824 rm km fz0) t.heap ∧ va_K (dC, dI) vwCl [((km 0), .int), ((km 1), .int), ((km 2), .int), ((km 3), .int)] t ∧ va_D (va_A (wd_822 rm km fz0) sz) (wd_824 rm km fz0)) (va_A (wd_822 rm km fz0) sz)) 0 0 (va_A (wd_822 rm km fz0) sz) := by
  refine Met.ofW (cc := cX12_asks) (maxL := 2) (ret := none) (by decide) rfl ?_
  intro p e s m args below meth c s₁ B hml hv
  obtain ⟨rfl, hsz, hP, hK, hD0⟩ := hv
  have hx := B.exec
  have hb := B.bytes
  have hr := B.returns
  have hts : ∀ w ∈ wA, w.before [.ref (rm 0), .ref (rm 3)].toArray s = true := fun w h => atoms_spec (ws := Cond.code yX12_asks cX12_asks 2 none :: wA) B.pre w (List.mem_cons_of_mem _ h)
  have hown : s.vm.findClass RX12 = some m.cls := findClass_of_methodNamed B.named
  have hlocks := B.notSynchronized
  subst hsz
  have hD := hD0.self (sz := s.heap.size)
  generalize hAe : va_A (wd_822 rm km fz0) s.heap.size = A at hD ⊢
  have hA : ∀ q : Nat, s.heap.size ≤ q → A q := fun q h => by rw [← hAe]; exact Or.inr h
  have hS : va_S A s.heap s.heap [] := va_S.rf
  have hl := lv_entry ([.ref (rm 0), .ref (rm 3)]) (n := 2) (Nat.le_of_ble_eq_true rfl)
  rw [lg_entry_eq]
  generalize (lg_sl ([.ref (rm 0), .ref (rm 3)]) ++ List.replicate (2 - (lg_sl ([.ref (rm 0), .ref (rm 3)])).length) Slot.unset).toArray = ls at hl ⊢
  have hl : lv_has ls 2 [(0, .ref (rm 0)), (1, .ref (rm 3))] := hl
  refine lv_aload_n hx hb dX12_asks_0 rfl (lv_at hl 0 rfl) ?_
  refine va_get (D := (dC, dI)) (ci := 12) (v := .int 0) (C := RX12) (T := TX12) (N := 84) hx hb hts i_X12 hown hK hP 0 rfl rfl 5 (by decide) (hts _ q_378) (fun _ h9 => h9) rfl dX12_asks_1 ?_
  refine lv_if_ne (tgt := 24) hx hb dX12_asks_4 (by decide) (fun c_0 => absurd c_0 (by decide)) (fun c_0 => ?_)
  refine lv_aload_n hx hb dX12_asks_7 rfl (lv_at hl 0 rfl) ?_
  refine lv_aload_n hx hb dX12_asks_8 rfl (lv_at hl 1 rfl) ?_
  have hPc := hP.sub (ws' := (wd_822 rm km fz0)) [0, 1, 2, 3, 4] rfl
  have hDc := hD.sub (ws' := (wd_822 rm km fz0)) [0, 1, 2, 3, 4] (by decide) rfl
  have hKc := hK.sub (tys' := [((km 0), .int), ((km 1), .int), ((km 2), .int), ((km 3), .int)]) [0, 1, 2, 3] rfl
  have hFc := va_free (wc := (wd_822 rm km fz0)) hD hS hA [0, 1, 2, 3, 4] rfl
  refine va_calli (va_runV (As := [.ref (rm 3)]) (rest := []) ⟨hx, hb, hml, hown, hts⟩ (c93_X12_takes l dC dI rm km fz0 s.heap.size) (cwV 1 hts (gV q_404 q_405 q_406 q_372 q_392) rfl rfl rfl mdv_yX12_takes ⟨Nat.le_of_ble_eq_true rfl, Nat.le_of_ble_eq_true rfl⟩) ⟨fun a U g mk q => by obtain ⟨q0, q1, qP, qK, qD⟩ := q; exact ⟨q0, q1, qP, va_K.moved (u := U) (U := U.calling g mk a) (Vm.Alike.refl U.vm) qK, qD⟩, va_recv hKc hPc (ci := 12) (q0 := 0) rfl rfl, fun U hU hW => ⟨rfl, by rw [hU], by rw [hU]; exact hPc, va_K.moved hW.alike hKc, hDc.weaken (fun _ _ _ _ => trivial)⟩⟩ rfl rfl hl.1 rfl (lv_room (Nat.le_of_ble_eq_true rfl)) dX12_asks_9 ⟨Nat.le_of_ble_eq_true rfl, Nat.le_of_ble_eq_true rfl⟩) hS (fun q _ h => hFc q h) hFc (fun r_1321 u t H1 locs ht hvm hw hB hz1 hk1 hS => ?_)
  obtain ⟨hP1, hK1, hD1⟩ := hB
  rw [ht] at hP1
  have hK1 := va_K.moved hvm.symm hK1
  obtain ⟨hP, hD⟩ := va_join (wr := []) (w1 := (wd_822 rm km fz0)) hP hD [0, 1, 2, 3, 4] [] rfl rfl (by decide) (by decide) hk1 hFc hP1 hD1
  generalize H1 = H at hP hS ⊢
  have hP : va_P (dC, dI) vwCl (wd_822 rm km fz0) H := hP
  have hD : va_D A (wd_822 rm km fz0) := hD
  obtain rfl : r_1321 = 0 := hw
  refine lv_if_ne (tgt := 24) hx hb dX12_asks_12 (by decide) (fun c_0 => absurd c_0 (by decide)) (fun c_0 => ?_)
  refine lv_aload_n hx hb dX12_asks_15 rfl (lv_at hl 0 rfl) ?_
  refine lv_iconst (v := 1) hx hb dX12_asks_16 (by decide) ?_
  refine lv_aload_n hx hb dX12_asks_17 rfl (lv_at hl 0 rfl) ?_
  refine va_get (D := (dC, dI)) (ci := 12) (v := .int 0) (C := RX12) (T := TX12) (N := 84) hx hb hts i_X12 hown hK hP 0 rfl rfl 2 (by decide) (hts _ q_376) (fun _ h9 => h9) rfl dX12_asks_18 ?_
  have hPc := hP.sub (ws' := (wd_822 rm km fz0)) [0, 1, 2, 3, 4] rfl
  have hDc := hD.sub (ws' := (wd_822 rm km fz0)) [0, 1, 2, 3, 4] (by decide) rfl
  have hKc := hK.sub (tys' := [((km 0), .int), ((km 1), .int), ((km 2), .int), ((km 3), .int)]) [0, 1, 2, 3] rfl
  have hFc := va_free (wc := (wd_822 rm km fz0)) hD hS hA [0, 1, 2, 3, 4] rfl
  refine va_callv (va_runV (As := [.int 1, .int 0]) (rest := []) ⟨hx, hb, hml, hown, hts⟩ (c94_X12_fail l dC dI rm km fz0 H.size) (cwV 2 hts (gV q_408 q_409 q_410 q_372 q_407) rfl rfl rfl mdv_yX12_fail ⟨Nat.le_of_ble_eq_true rfl, Nat.le_of_ble_eq_true rfl⟩) ⟨fun a U g mk q => by obtain ⟨q0, q1, qP, qK, qD⟩ := q; exact ⟨q0, q1, qP, va_K.moved (u := U) (U := U.calling g mk a) (Vm.Alike.refl U.vm) qK, qD⟩, va_recv hKc hPc (ci := 12) (q0 := 0) rfl rfl, fun U hU hW => ⟨rfl, by rw [hU], by rw [hU]; exact hPc, va_K.moved hW.alike hKc, hDc.weaken (fun _ _ _ _ => trivial)⟩⟩ rfl rfl hl.1 rfl (lv_room (Nat.le_of_ble_eq_true rfl)) dX12_asks_21 ⟨Nat.le_of_ble_eq_true rfl, Nat.le_of_ble_eq_true rfl⟩) hS (fun q _ h => hFc q h) hFc (fun u t H1 locs ht hvm hw hB hz1 hk1 hS => ?_)
  obtain ⟨hP1, hK1, hD1⟩ := hB
  rw [ht] at hP1
  have hK1 := va_K.moved hvm.symm hK1
  obtain ⟨hP, hD⟩ := va_join (wr := []) (w1 := (wd_824 rm km fz0)) hP hD [0, 1, 2, 3, 4] [] rfl rfl (by decide) (by decide) hk1 hFc hP1 hD1
  generalize H1 = H at hP hS ⊢
  have hP : va_P (dC, dI) vwCl (wd_824 rm km fz0) H := hP
  have hD : va_D A (wd_824 rm km fz0) := hD
  refine W.widen (k := 0) (n := 0) (Nat.le_of_ble_eq_true rfl) (Nat.le_of_ble_eq_true rfl) ?_
  have hP9 := hP.sub (ws' := (wd_824 rm km fz0)) [0, 1, 2, 3, 4] rfl
  have hD9 := hD.sub (ws' := (wd_824 rm km fz0)) [0, 1, 2, 3, 4] (by decide) rfl
  have hK9 := hK.sub (tys' := [((km 0), .int), ((km 1), .int), ((km 2), .int), ((km 3), .int)]) [0, 1, 2, 3] rfl
  exact W.vret hx hb hr (fun t ht hW => ⟨⟨(), rfl, trivial, by rw [ht]; exact hP9, va_K.moved hW.alike hK9, hD9⟩, hS.F ht⟩) hS.2.2 dX12_asks_24
def wd_825 (rm : Nat → Nat) (km : Nat → ClassId) (f1312 : Nat → Int32) : va_W := [((rm 0), .inr (12, [.ref (rm 1), .int 0, .int 0, .int 0, .int (-1), .int 1, .int 0, .int 0, .int (-1), .ref (rm 2), .ref (rm 3), .ref (rm 4), .ref (rm 5), .ref (rm 6), .ref (rm 7), .ref (rm 8), .ref (rm 9), .ref (rm 10), .ref (rm 11), .ref (rm 12), .ref (rm 13), .ref (rm 14), .ref (rm 15), .ref (rm 16), .int 0, .int 0, .int 0, .int 0, .int 0, .ref (rm 17), .ref (rm 18), .ref (rm 19), .ref (rm 20), .ref (rm 21), .int 0, .ref (rm 22), .ref (rm 23), .ref (rm 24), .int 0, .int 0, .int 0, .ref (rm 25), .ref (rm 26), .ref (rm 27), .int 0, .ref (rm 28), .ref (rm 29), .int 0, .ref (rm 30), .ref (rm 31), .int 0, .ref (rm 32), .ref (rm 33), .int 0, .ref (rm 34), .ref (rm 35), .int 0, .int 0, .int 0, .ref (rm 36), .ref (rm 37), .int 0, .ref (rm 38), .ref (rm 39), .int 0, .ref (rm 40), .ref (rm 41), .ref (rm 42), .int 0, .int 0, .long 1, .ref (rm 43), .int 0, .int 0, .int (-1), .int 0, .int 0, .int 0, .int 0, .ref (rm 44), .ref (rm 45), .ref (rm 46), .ref (rm 47), .int 0])), ((rm 1), .inl ((km 0), 1600, .inl (fun _ => 0))), ((rm 2), .inl ((km 1), 7, .inl (fun _ => 0))), ((rm 22), .inl ((km 2), 422, .inl (fun _ => 0))), ((rm 23), .inl ((km 3), 422, .inl f1312))]
set_option maxHeartbeats 4000000 in
set_option maxRecDepth 100000 in
theorem c96_X12_number (l : Launch) (dC : Nat → ClassId) (dI : Nat → Nat → Nat) (rm : Nat → Nat) (km : Nat → ClassId) (fz0 : Nat → Int32) (sz : Nat) : Met l yX12_number (Cond.code yX12_number cX12_number 5 (some .int) :: wA) ({ frames := 0, cells := 0, slots := 0, locals := 0 }) (va_Pc [.ref (rm 0), .int 16, .int 160] (fun U => U.heap.size = sz ∧ va_P (dC, dI) vwCl (wd_824 rm km fz0) U.heap ∧ va_K (dC, dI) vwCl [((km 0), .int), ((km 1), .int), ((km 2), .int), ((km 3), .int)] U ∧ va_D (fun _ => True) (wd_824 rm km fz0))) (va_Qi (fun (r : Int32) (_ : Unit) => r = 0) (fun _ t => va_P (dC, dI) vwCl (wd_824 rm km fz0) t.heap ∧ va_K (dC, dI) vwCl [((km 0), .int), ((km 1), .int), ((km 2), .int), ((km 3), .int)] t ∧ va_D (va_A (wd_824 rm km fz0) sz) (wd_824 rm km fz0)) (va_A (wd_824 rm km fz0) sz)) 0 0 (va_A (wd_824 rm km fz0) sz) := by
  refine Met.ofW (cc := cX12_number) (maxL := 5) (ret := (some .int)) (by decide) rfl ?_
  intro p e s m args below meth c s₁ B hml hv
  obtain ⟨rfl, hsz, hP, hK, hD0⟩ := hv
  have hx := B.exec
  have hb := B.bytes
  have hr := B.returns
  have hts : ∀ w ∈ wA, w.before [.ref (rm 0), .int 16, .int 160].toArray s = true := fun w h => atoms_spec (ws := Cond.code yX12_number cX12_number 5 (some .int) :: wA) B.pre w (List.mem_cons_of_mem _ h)
  have hown : s.vm.findClass RX12 = some m.cls := findClass_of_methodNamed B.named
  have hlocks := B.notSynchronized
  subst hsz
  have hD := hD0.self (sz := s.heap.size)
  generalize hAe : va_A (wd_824 rm km fz0) s.heap.size = A at hD ⊢
  have hA : ∀ q : Nat, s.heap.size ≤ q → A q := fun q h => by rw [← hAe]; exact Or.inr h
  have hS : va_S A s.heap s.heap [] := va_S.rf
  have hl := lv_entry ([.ref (rm 0), .int 16, .int 160]) (n := 5) (Nat.le_of_ble_eq_true rfl)
  rw [lg_entry_eq]
  generalize (lg_sl ([.ref (rm 0), .int 16, .int 160]) ++ List.replicate (5 - (lg_sl ([.ref (rm 0), .int 16, .int 160])).length) Slot.unset).toArray = ls at hl ⊢
  have hl : lv_has ls 5 [(0, .ref (rm 0)), (1, .int 16), (2, .int 160)] := hl
  refine lv_aload_n hx hb dX12_number_0 rfl (lv_at hl 0 rfl) ?_
  refine va_get (D := (dC, dI)) (ci := 12) (v := .int 1) (C := RX12) (T := TX12) (N := 84) hx hb hts i_X12 hown hK hP 0 rfl rfl 5 (by decide) (hts _ q_378) (fun _ h9 => h9) rfl dX12_number_1 ?_
  refine lv_if_eq (tgt := 9) hx hb dX12_number_4 (by decide) (fun c_0 => absurd c_0 (by decide)) (fun c_0 => ?_)
  refine lv_iconst (v := 0) hx hb dX12_number_7 (by decide) ?_
  refine W.widen (k := 0) (n := 0) (Nat.le_of_ble_eq_true rfl) (Nat.le_of_ble_eq_true rfl) ?_
  have hP9 := hP.sub (ws' := (wd_824 rm km fz0)) [0, 1, 2, 3, 4] rfl
  have hD9 := hD.sub (ws' := (wd_824 rm km fz0)) [0, 1, 2, 3, 4] (by decide) rfl
  have hK9 := hK.sub (tys' := [((km 0), .int), ((km 1), .int), ((km 2), .int), ((km 3), .int)]) [0, 1, 2, 3] rfl
  exact W.iret (v := 0) hx hb hr (fun t ht hW => ⟨⟨0, (), rfl, rfl, by rw [ht]; exact hP9, va_K.moved hW.alike hK9, hD9⟩, hS.F ht⟩) hS.2.2 dX12_number_8
set_option maxHeartbeats 4000000 in
set_option maxRecDepth 100000 in
theorem c97_X12_asksSign (l : Launch) (dC : Nat → ClassId) (dI : Nat → Nat → Nat) (rm : Nat → Nat) (km : Nat → ClassId) (fz0 : Nat → Int32) (sz : Nat) : Met l yX12_asksSign (Cond.code yX12_asksSign cX12_asksSign 2 none :: wA) ({ frames := 0, cells := 0, slots := 0, locals := 0 }) (va_Pc [.ref (rm 0), .int 59] (fun U => U.heap.size = sz ∧ va_P (dC, dI) vwCl (wd_824 rm km fz0) U.heap ∧ va_K (dC, dI) vwCl [((km 0), .int), ((km 1), .int), ((km 2), .int), ((km 3), .int)] U ∧ va_D (fun _ => True) (wd_824 rm km fz0))) (va_Qv (fun (_ : Unit) => True) (fun _ t => va_P (dC, dI) vwCl (wd_824 rm km fz0) t.heap ∧ va_K (dC, dI) vwCl [((km 0), .int), ((km 1), .int), ((km 2), .int), ((km 3), .int)] t ∧ va_D (va_A (wd_824 rm km fz0) sz) (wd_824 rm km fz0)) (va_A (wd_824 rm km fz0) sz)) 0 0 (va_A (wd_824 rm km fz0) sz) := by
  refine Met.ofW (cc := cX12_asksSign) (maxL := 2) (ret := none) (by decide) rfl ?_
  intro p e s m args below meth c s₁ B hml hv
  obtain ⟨rfl, hsz, hP, hK, hD0⟩ := hv
  have hx := B.exec
  have hb := B.bytes
  have hr := B.returns
  have hts : ∀ w ∈ wA, w.before [.ref (rm 0), .int 59].toArray s = true := fun w h => atoms_spec (ws := Cond.code yX12_asksSign cX12_asksSign 2 none :: wA) B.pre w (List.mem_cons_of_mem _ h)
  have hown : s.vm.findClass RX12 = some m.cls := findClass_of_methodNamed B.named
  have hlocks := B.notSynchronized
  subst hsz
  have hD := hD0.self (sz := s.heap.size)
  generalize hAe : va_A (wd_824 rm km fz0) s.heap.size = A at hD ⊢
  have hA : ∀ q : Nat, s.heap.size ≤ q → A q := fun q h => by rw [← hAe]; exact Or.inr h
  have hS : va_S A s.heap s.heap [] := va_S.rf
  have hl := lv_entry ([.ref (rm 0), .int 59]) (n := 2) (Nat.le_of_ble_eq_true rfl)
  rw [lg_entry_eq]
  generalize (lg_sl ([.ref (rm 0), .int 59]) ++ List.replicate (2 - (lg_sl ([.ref (rm 0), .int 59])).length) Slot.unset).toArray = ls at hl ⊢
  have hl : lv_has ls 2 [(0, .ref (rm 0)), (1, .int 59)] := hl
  refine lv_aload_n hx hb dX12_asksSign_0 rfl (lv_at hl 0 rfl) ?_
  refine va_get (D := (dC, dI)) (ci := 12) (v := .int 1) (C := RX12) (T := TX12) (N := 84) hx hb hts i_X12 hown hK hP 0 rfl rfl 5 (by decide) (hts _ q_378) (fun _ h9 => h9) rfl dX12_asksSign_1 ?_
  refine lv_if_ne (tgt := 24) hx hb dX12_asksSign_4 (by decide) (fun c_0 => ?_) (fun c_0 => absurd c_0 (by decide))
  refine W.widen (k := 0) (n := 0) (Nat.le_of_ble_eq_true rfl) (Nat.le_of_ble_eq_true rfl) ?_
  have hP9 := hP.sub (ws' := (wd_824 rm km fz0)) [0, 1, 2, 3, 4] rfl
  have hD9 := hD.sub (ws' := (wd_824 rm km fz0)) [0, 1, 2, 3, 4] (by decide) rfl
  have hK9 := hK.sub (tys' := [((km 0), .int), ((km 1), .int), ((km 2), .int), ((km 3), .int)]) [0, 1, 2, 3] rfl
  exact W.vret hx hb hr (fun t ht hW => ⟨⟨(), rfl, trivial, by rw [ht]; exact hP9, va_K.moved hW.alike hK9, hD9⟩, hS.F ht⟩) hS.2.2 dX12_asksSign_24
def wd_826 (rm : Nat → Nat) (km : Nat → ClassId) (f : Nat → Int32) : va_W := [((rm 0), .inr (12, [.ref (rm 1), .int 0, .int 0, .int 0, .int (-1), .int 1, .int 0, .int 0, .int (-1), .ref (rm 2), .ref (rm 3), .ref (rm 4), .ref (rm 5), .ref (rm 6), .ref (rm 7), .ref (rm 8), .ref (rm 9), .ref (rm 10), .ref (rm 11), .ref (rm 12), .ref (rm 13), .ref (rm 14), .ref (rm 15), .ref (rm 16), .int 0, .int 0, .int 0, .int 0, .int 0, .ref (rm 17), .ref (rm 18), .ref (rm 19), .ref (rm 20), .ref (rm 21), .int 0, .ref (rm 22), .ref (rm 23), .ref (rm 24), .int 0, .int 0, .int 0, .ref (rm 25), .ref (rm 26), .ref (rm 27), .int 0, .ref (rm 28), .ref (rm 29), .int 0, .ref (rm 30), .ref (rm 31), .int 0, .ref (rm 32), .ref (rm 33), .int 0, .ref (rm 34), .ref (rm 35), .int 0, .int 0, .int 0, .ref (rm 36), .ref (rm 37), .int 0, .ref (rm 38), .ref (rm 39), .int 0, .ref (rm 40), .ref (rm 41), .ref (rm 42), .int 0, .int 0, .long 1, .ref (rm 43), .int 0, .int 0, .int (-1), .int 0, .int 0, .int 0, .int 0, .ref (rm 44), .ref (rm 45), .ref (rm 46), .ref (rm 47), .int 0])), ((rm 1), .inl ((km 0), 1600, .inl (fun _ => 0))), ((rm 2), .inl ((km 1), 7, .inl (fun _ => 0))), ((rm 22), .inl ((km 2), 422, .inl (fun _ => 0))), ((rm 23), .inl ((km 3), 422, .inl f))]
def wd_827 (rm : Nat → Nat) (km : Nat → ClassId) (f1326 : Nat → Int32) : va_W := [((rm 0), .inr (12, [.ref (rm 1), .int 0, .int 0, .int 0, .int (-1), .int 1, .int 0, .int 0, .int (-1), .ref (rm 2), .ref (rm 3), .ref (rm 4), .ref (rm 5), .ref (rm 6), .ref (rm 7), .ref (rm 8), .ref (rm 9), .ref (rm 10), .ref (rm 11), .ref (rm 12), .ref (rm 13), .ref (rm 14), .ref (rm 15), .ref (rm 16), .int 0, .int 0, .int 0, .int 0, .int 0, .ref (rm 17), .ref (rm 18), .ref (rm 19), .ref (rm 20), .ref (rm 21), .int 0, .ref (rm 22), .ref (rm 23), .ref (rm 24), .int 0, .int 0, .int 0, .ref (rm 25), .ref (rm 26), .ref (rm 27), .int 0, .ref (rm 28), .ref (rm 29), .int 0, .ref (rm 30), .ref (rm 31), .int 0, .ref (rm 32), .ref (rm 33), .int 0, .ref (rm 34), .ref (rm 35), .int 0, .int 0, .int 0, .ref (rm 36), .ref (rm 37), .int 0, .ref (rm 38), .ref (rm 39), .int 0, .ref (rm 40), .ref (rm 41), .ref (rm 42), .int 0, .int 0, .long 1, .ref (rm 43), .int 0, .int 0, .int (-1), .int 0, .int 0, .int 0, .int 0, .ref (rm 44), .ref (rm 45), .ref (rm 46), .ref (rm 47), .int 0])), ((rm 1), .inl ((km 0), 1600, .inl (fun _ => 0))), ((rm 2), .inl ((km 1), 7, .inl (fun _ => 0))), ((rm 22), .inl ((km 2), 422, .inl (fun _ => 0))), ((rm 23), .inl ((km 3), 422, .inl f1326))]
def wd_828 (rm : Nat → Nat) (km : Nat → ClassId) (f1326 : Nat → Int32) : va_W := [((rm 0), .inr (12, [.ref (rm 1), .int 0, .int 0, .int 0, .int (-1), .int 1, .int 0, .int 0, .int (-1), .ref (rm 2), .ref (rm 3), .ref (rm 4), .ref (rm 5), .ref (rm 6), .ref (rm 7), .ref (rm 8), .ref (rm 9), .ref (rm 10), .ref (rm 11), .ref (rm 12), .ref (rm 13), .ref (rm 14), .ref (rm 15), .ref (rm 16), .int 0, .int 0, .int 0, .int 0, .int 0, .ref (rm 17), .ref (rm 18), .ref (rm 19), .ref (rm 20), .ref (rm 21), .int 0, .ref (rm 22), .ref (rm 23), .ref (rm 24), .int 0, .int 1, .int 0, .ref (rm 25), .ref (rm 26), .ref (rm 27), .int 0, .ref (rm 28), .ref (rm 29), .int 0, .ref (rm 30), .ref (rm 31), .int 0, .ref (rm 32), .ref (rm 33), .int 0, .ref (rm 34), .ref (rm 35), .int 0, .int 0, .int 0, .ref (rm 36), .ref (rm 37), .int 0, .ref (rm 38), .ref (rm 39), .int 0, .ref (rm 40), .ref (rm 41), .ref (rm 42), .int 0, .int 0, .long 1, .ref (rm 43), .int 0, .int 0, .int (-1), .int 0, .int 0, .int 0, .int 0, .ref (rm 44), .ref (rm 45), .ref (rm 46), .ref (rm 47), .int 0])), ((rm 1), .inl ((km 0), 1600, .inl (fun _ => 0))), ((rm 2), .inl ((km 1), 7, .inl (fun _ => 0))), ((rm 22), .inl ((km 2), 422, .inl (fun _ => 0))), ((rm 23), .inl ((km 3), 422, .inl f1326))]
def wd_829 (rm : Nat → Nat) (km : Nat → ClassId) (f1326 : Nat → Int32) : va_W := [((rm 0), .inr (12, [.ref (rm 1), .int 0, .int 0, .int 0, .int (-1), .int 1, .int 0, .int 1, .int (-1), .ref (rm 2), .ref (rm 3), .ref (rm 4), .ref (rm 5), .ref (rm 6), .ref (rm 7), .ref (rm 8), .ref (rm 9), .ref (rm 10), .ref (rm 11), .ref (rm 12), .ref (rm 13), .ref (rm 14), .ref (rm 15), .ref (rm 16), .int 0, .int 0, .int 0, .int 0, .int 0, .ref (rm 17), .ref (rm 18), .ref (rm 19), .ref (rm 20), .ref (rm 21), .int 0, .ref (rm 22), .ref (rm 23), .ref (rm 24), .int 0, .int 1, .int 0, .ref (rm 25), .ref (rm 26), .ref (rm 27), .int 0, .ref (rm 28), .ref (rm 29), .int 0, .ref (rm 30), .ref (rm 31), .int 0, .ref (rm 32), .ref (rm 33), .int 0, .ref (rm 34), .ref (rm 35), .int 0, .int 0, .int 0, .ref (rm 36), .ref (rm 37), .int 0, .ref (rm 38), .ref (rm 39), .int 0, .ref (rm 40), .ref (rm 41), .ref (rm 42), .int 0, .int 0, .long 1, .ref (rm 43), .int 0, .int 0, .int (-1), .int 0, .int 0, .int 0, .int 0, .ref (rm 44), .ref (rm 45), .ref (rm 46), .ref (rm 47), .int 0])), ((rm 1), .inl ((km 0), 1600, .inl (fun _ => 0))), ((rm 2), .inl ((km 1), 7, .inl (fun _ => 0))), ((rm 22), .inl ((km 2), 422, .inl (fun _ => 0))), ((rm 23), .inl ((km 3), 422, .inl f1326))]
def wd_830 (rm : Nat → Nat) (km : Nat → ClassId) (f1326 : Nat → Int32) : va_W := [((rm 0), .inr (12, [.ref (rm 1), .int 0, .int 0, .int 0, .int (-1), .int 1, .int 0, .int 1, .int 0, .ref (rm 2), .ref (rm 3), .ref (rm 4), .ref (rm 5), .ref (rm 6), .ref (rm 7), .ref (rm 8), .ref (rm 9), .ref (rm 10), .ref (rm 11), .ref (rm 12), .ref (rm 13), .ref (rm 14), .ref (rm 15), .ref (rm 16), .int 0, .int 0, .int 0, .int 0, .int 0, .ref (rm 17), .ref (rm 18), .ref (rm 19), .ref (rm 20), .ref (rm 21), .int 0, .ref (rm 22), .ref (rm 23), .ref (rm 24), .int 0, .int 1, .int 0, .ref (rm 25), .ref (rm 26), .ref (rm 27), .int 0, .ref (rm 28), .ref (rm 29), .int 0, .ref (rm 30), .ref (rm 31), .int 0, .ref (rm 32), .ref (rm 33), .int 0, .ref (rm 34), .ref (rm 35), .int 0, .int 0, .int 0, .ref (rm 36), .ref (rm 37), .int 0, .ref (rm 38), .ref (rm 39), .int 0, .ref (rm 40), .ref (rm 41), .ref (rm 42), .int 0, .int 0, .long 1, .ref (rm 43), .int 0, .int 0, .int (-1), .int 0, .int 0, .int 0, .int 0, .ref (rm 44), .ref (rm 45), .ref (rm 46), .ref (rm 47), .int 0])), ((rm 1), .inl ((km 0), 1600, .inl (fun _ => 0))), ((rm 2), .inl ((km 1), 7, .inl (fun _ => 0))), ((rm 22), .inl ((km 2), 422, .inl (fun _ => 0))), ((rm 23), .inl ((km 3), 422, .inl f1326))]
def wd_831 (rm : Nat → Nat) (km : Nat → ClassId) (f : Nat → Int32) (fz0 : Nat → Int32) : va_W := [((rm 0), .inr (12, [.ref (rm 1), .int 0, .int 0, .int 0, .int (-1), .int 1, .int 0, .int 1, .int 0, .ref (rm 2), .ref (rm 3), .ref (rm 4), .ref (rm 5), .ref (rm 6), .ref (rm 7), .ref (rm 8), .ref (rm 9), .ref (rm 10), .ref (rm 11), .ref (rm 12), .ref (rm 13), .ref (rm 14), .ref (rm 15), .ref (rm 16), .int 0, .int 0, .int 0, .int 0, .int 0, .ref (rm 17), .ref (rm 18), .ref (rm 19), .ref (rm 20), .ref (rm 21), .int 0, .ref (rm 22), .ref (rm 23), .ref (rm 24), .int 0, .int 1, .int 0, .ref (rm 25), .ref (rm 26), .ref (rm 27), .int 0, .ref (rm 28), .ref (rm 29), .int 0, .ref (rm 30), .ref (rm 31), .int 0, .ref (rm 32), .ref (rm 33), .int 0, .ref (rm 34), .ref (rm 35), .int 0, .int 0, .int 0, .ref (rm 36), .ref (rm 37), .int 0, .ref (rm 38), .ref (rm 39), .int 0, .ref (rm 40), .ref (rm 41), .ref (rm 42), .int 0, .int 0, .long 1, .ref (rm 43), .int 0, .int 0, .int (-1), .int 0, .int 0, .int 0, .int 0, .ref (rm 44), .ref (rm 45), .ref (rm 46), .ref (rm 47), .int 0])), ((rm 1), .inl ((km 0), 1600, .inl (fun _ => 0))), ((rm 2), .inl ((km 1), 7, .inl f)), ((rm 22), .inl ((km 2), 422, .inl (fun _ => 0))), ((rm 23), .inl ((km 3), 422, .inl fz0))]
def wd_832 (rm : Nat → Nat) (km : Nat → ClassId) (f1329 : Nat → Int32) (fz0 : Nat → Int32) : va_W := [((rm 0), .inr (12, [.ref (rm 1), .int 0, .int 0, .int 0, .int (-1), .int 1, .int 0, .int 1, .int 0, .ref (rm 2), .ref (rm 3), .ref (rm 4), .ref (rm 5), .ref (rm 6), .ref (rm 7), .ref (rm 8), .ref (rm 9), .ref (rm 10), .ref (rm 11), .ref (rm 12), .ref (rm 13), .ref (rm 14), .ref (rm 15), .ref (rm 16), .int 0, .int 0, .int 0, .int 0, .int 0, .ref (rm 17), .ref (rm 18), .ref (rm 19), .ref (rm 20), .ref (rm 21), .int 0, .ref (rm 22), .ref (rm 23), .ref (rm 24), .int 0, .int 1, .int 0, .ref (rm 25), .ref (rm 26), .ref (rm 27), .int 0, .ref (rm 28), .ref (rm 29), .int 0, .ref (rm 30), .ref (rm 31), .int 0, .ref (rm 32), .ref (rm 33), .int 0, .ref (rm 34), .ref (rm 35), .int 0, .int 0, .int 0, .ref (rm 36), .ref (rm 37), .int 0, .ref (rm 38), .ref (rm 39), .int 0, .ref (rm 40), .ref (rm 41), .ref (rm 42), .int 0, .int 0, .long 1, .ref (rm 43), .int 0, .int 0, .int (-1), .int 0, .int 0, .int 0, .int 0, .ref (rm 44), .ref (rm 45), .ref (rm 46), .ref (rm 47), .int 0])), ((rm 1), .inl ((km 0), 1600, .inl (fun _ => 0))), ((rm 2), .inl ((km 1), 7, .inl f1329)), ((rm 22), .inl ((km 2), 422, .inl (fun _ => 0))), ((rm 23), .inl ((km 3), 422, .inl fz0))]
def wd_833 (rm : Nat → Nat) (km : Nat → ClassId) (f1332 : Nat → Int32) (fz0 : Nat → Int32) : va_W := [((rm 0), .inr (12, [.ref (rm 1), .int 0, .int 0, .int 0, .int (-1), .int 1, .int 0, .int 1, .int 0, .ref (rm 2), .ref (rm 3), .ref (rm 4), .ref (rm 5), .ref (rm 6), .ref (rm 7), .ref (rm 8), .ref (rm 9), .ref (rm 10), .ref (rm 11), .ref (rm 12), .ref (rm 13), .ref (rm 14), .ref (rm 15), .ref (rm 16), .int 0, .int 0, .int 0, .int 0, .int 0, .ref (rm 17), .ref (rm 18), .ref (rm 19), .ref (rm 20), .ref (rm 21), .int 0, .ref (rm 22), .ref (rm 23), .ref (rm 24), .int 0, .int 1, .int 0, .ref (rm 25), .ref (rm 26), .ref (rm 27), .int 0, .ref (rm 28), .ref (rm 29), .int 0, .ref (rm 30), .ref (rm 31), .int 0, .ref (rm 32), .ref (rm 33), .int 0, .ref (rm 34), .ref (rm 35), .int 0, .int 0, .int 0, .ref (rm 36), .ref (rm 37), .int 0, .ref (rm 38), .ref (rm 39), .int 0, .ref (rm 40), .ref (rm 41), .ref (rm 42), .int 0, .int 0, .long 1, .ref (rm 43), .int 0, .int 0, .int (-1), .int 0, .int 0, .int 0, .int 0, .ref (rm 44), .ref (rm 45), .ref (rm 46), .ref (rm 47), .int 0])), ((rm 1), .inl ((km 0), 1600, .inl (fun _ => 0))), ((rm 2), .inl ((km 1), 7, .inl f1332)), ((rm 22), .inl ((km 2), 422, .inl (fun _ => 0))), ((rm 23), .inl ((km 3), 422, .inl fz0))]
def wd_834 (rm : Nat → Nat) (km : Nat → ClassId) (fz0 : Nat → Int32) : va_W := [((rm 0), .inr (12, [.ref (rm 1), .int 0, .int 0, .int 0, .int (-1), .int 1, .int 0, .int 1, .int 0, .ref (rm 2), .ref (rm 3), .ref (rm 4), .ref (rm 5), .ref (rm 6), .ref (rm 7), .ref (rm 8), .ref (rm 9), .ref (rm 10), .ref (rm 11), .ref (rm 12), .ref (rm 13), .ref (rm 14), .ref (rm 15), .ref (rm 16), .int 0, .int 0, .int 0, .int 0, .int 0, .ref (rm 17), .ref (rm 18), .ref (rm 19), .ref (rm 20), .ref (rm 21), .int 0, .ref (rm 22), .ref (rm 23), .ref (rm 24), .int 0, .int 1, .int 0, .ref (rm 25), .ref (rm 26), .ref (rm 27), .int 0, .ref (rm 28), .ref (rm 29), .int 0, .ref (rm 30), .ref (rm 31), .int 0, .ref (rm 32), .ref (rm 33), .int 0, .ref (rm 34), .ref (rm 35), .int 0, .int 0, .int 0, .ref (rm 36), .ref (rm 37), .int 0, .ref (rm 38), .ref (rm 39), .int 0, .ref (rm 40), .ref (rm 41), .ref (rm 42), .int 0, .int 0, .long 1, .ref (rm 43), .int 0, .int 0, .int (-1), .int 0, .int 0, .int 0, .int 0, .ref (rm 44), .ref (rm 45), .ref (rm 46), .ref (rm 47), .int 0])), ((rm 1), .inl ((km 0), 1600, .inl (fun _ => 0))), ((rm 2), .inl ((km 1), 7, .inl (fun _ => 0))), ((rm 22), .inl ((km 2), 422, .inl (fun _ => 0))), ((rm 23), .inl ((km 3), 422, .inl fz0))]
set_option maxHeartbeats 4000000 in
set_option maxRecDepth 100000 in
theorem c98_X12_refuses (l : Launch) (dC : Nat → ClassId) (dI : Nat → Nat → Nat) (rm : Nat → Nat) (km : Nat → ClassId) (fz0 : Nat → Int32) (sz : Nat) : Met l yX12_refuses (Cond.code yX12_refuses cX12_refuses 2 (some .int) :: wA) ({ frames := 0, cells := 0, slots := 0, locals := 0 }) (va_Pc [.ref (rm 0), .int 1] (fun U => U.heap.size = sz ∧ va_P (dC, dI) vwCl (wd_834 rm km fz0) U.heap ∧ va_K (dC, dI) vwCl [((km 0), .int), ((km 1), .int), ((km 2), .int), ((km 3), .int)] U ∧ va_D (fun _ => True) (wd_834 rm km fz0))) (va_Qi (fun (r : Int32) (_ : Unit) => r = (-1)) (fun _ t => ∃ f1332 : Nat → Int32, va_P (dC, dI) vwCl (wd_833 rm km f1332 fz0) t.heap ∧ va_K (dC, dI) vwCl [((km 0), .int), ((km 1), .int), ((km 2), .int), ((km 3), .int)] t ∧ va_D (va_A (wd_834 rm km fz0) sz) (wd_833 rm km f1332 fz0)) (va_A (wd_834 rm km fz0) sz)) 0 0 (va_A (wd_834 rm km fz0) sz) := by
  refine Met.ofW (cc := cX12_refuses) (maxL := 2) (ret := (some .int)) (by decide) rfl ?_
  intro p e s m args below meth c s₁ B hml hv
  obtain ⟨rfl, hsz, hP, hK, hD0⟩ := hv
  have hx := B.exec
  have hb := B.bytes
  have hr := B.returns
  have hts : ∀ w ∈ wA, w.before [.ref (rm 0), .int 1].toArray s = true := fun w h => atoms_spec (ws := Cond.code yX12_refuses cX12_refuses 2 (some .int) :: wA) B.pre w (List.mem_cons_of_mem _ h)
  have hown : s.vm.findClass RX12 = some m.cls := findClass_of_methodNamed B.named
  have hlocks := B.notSynchronized
  subst hsz
  have hD := hD0.self (sz := s.heap.size)
  generalize hAe : va_A (wd_834 rm km fz0) s.heap.size = A at hD ⊢
  have hA : ∀ q : Nat, s.heap.size ≤ q → A q := fun q h => by rw [← hAe]; exact Or.inr h
  have hS : va_S A s.heap s.heap [] := va_S.rf
  have hl := lv_entry ([.ref (rm 0), .int 1]) (n := 2) (Nat.le_of_ble_eq_true rfl)
  rw [lg_entry_eq]
  generalize (lg_sl ([.ref (rm 0), .int 1]) ++ List.replicate (2 - (lg_sl ([.ref (rm 0), .int 1])).length) Slot.unset).toArray = ls at hl ⊢
  have hl : lv_has ls 2 [(0, .ref (rm 0)), (1, .int 1)] := hl
  refine lv_aload_n hx hb dX12_refuses_0 rfl (lv_at hl 0 rfl) ?_
  refine va_get (D := (dC, dI)) (ci := 12) (v := .ref (rm 2)) (C := RX12) (T := TX12) (N := 84) hx hb hts i_X12 hown hK hP 0 rfl rfl 9 (by decide) (hts _ q_189) (fun _ h9 => h9) rfl dX12_refuses_1 ?_
  refine lv_iload_n hx hb dX12_refuses_4 rfl (lv_at hl 1 rfl) ?_
  refine lv_dup2_11 hx hb dX12_refuses_5 rfl rfl ?_
  refine va_iald hx hb hK hP 2 1 rfl rfl (vpi (by decide)) dX12_refuses_6 ?_
  refine lv_topi (fun x_1330 ex_1330 => ?_)
  obtain rfl : x_1330 = 0 := ex_1330
  refine lv_iconst (v := 1) hx hb dX12_refuses_7 (by decide) ?_
  refine lv_iadd hx hb dX12_refuses_8 ?_
  refine lv_topi (fun x_1331 ex_1331 => ?_)
  obtain rfl : x_1331 = 1 := ex_1331.trans (by decide)
  refine va_iast hx hb hK hP hD hS 2 1 rfl rfl (vpi (by decide)) dX12_refuses_9 (fun H locs hP hD hS => ?_)
  obtain ⟨f1332, hP, hD⟩ : ∃ f : Nat → Int32, va_P (dC, dI) vwCl (wd_831 rm km f fz0) H ∧ va_D A (wd_831 rm km f fz0) := ⟨_, hP, hD⟩
  have hP : va_P (dC, dI) vwCl (wd_833 rm km f1332 fz0) H := hP
  have hD : va_D A (wd_833 rm km f1332 fz0) := hD
  refine lv_iconst (v := (-1)) hx hb dX12_refuses_10 (by decide) ?_
  refine W.widen (k := 0) (n := 0) (Nat.le_of_ble_eq_true rfl) (Nat.le_of_ble_eq_true rfl) ?_
  have hP9 := hP.sub (ws' := (wd_833 rm km f1332 fz0)) [0, 1, 2, 3, 4] rfl
  have hD9 := hD.sub (ws' := (wd_833 rm km f1332 fz0)) [0, 1, 2, 3, 4] (by decide) rfl
  have hK9 := hK.sub (tys' := [((km 0), .int), ((km 1), .int), ((km 2), .int), ((km 3), .int)]) [0, 1, 2, 3] rfl
  exact W.iret (v := (-1)) hx hb hr (fun t ht hW => ⟨⟨(-1), (), rfl, rfl, f1332, by rw [ht]; exact hP9, va_K.moved hW.alike hK9, hD9⟩, hS.F ht⟩) hS.2.2 dX12_refuses_11
def wd_835 (rm : Nat → Nat) (km : Nat → ClassId) (f1334 : Nat → Int32) (f1326 : Nat → Int32) : va_W := [((rm 0), .inr (12, [.ref (rm 1), .int 0, .int 0, .int 0, .int (-1), .int 1, .int 0, .int 1, .int 0, .ref (rm 2), .ref (rm 3), .ref (rm 4), .ref (rm 5), .ref (rm 6), .ref (rm 7), .ref (rm 8), .ref (rm 9), .ref (rm 10), .ref (rm 11), .ref (rm 12), .ref (rm 13), .ref (rm 14), .ref (rm 15), .ref (rm 16), .int 0, .int 0, .int 0, .int 0, .int 0, .ref (rm 17), .ref (rm 18), .ref (rm 19), .ref (rm 20), .ref (rm 21), .int 0, .ref (rm 22), .ref (rm 23), .ref (rm 24), .int 0, .int 1, .int 0, .ref (rm 25), .ref (rm 26), .ref (rm 27), .int 0, .ref (rm 28), .ref (rm 29), .int 0, .ref (rm 30), .ref (rm 31), .int 0, .ref (rm 32), .ref (rm 33), .int 0, .ref (rm 34), .ref (rm 35), .int 0, .int 0, .int 0, .ref (rm 36), .ref (rm 37), .int 0, .ref (rm 38), .ref (rm 39), .int 0, .ref (rm 40), .ref (rm 41), .ref (rm 42), .int 0, .int 0, .long 1, .ref (rm 43), .int 0, .int 0, .int (-1), .int 0, .int 0, .int 0, .int 0, .ref (rm 44), .ref (rm 45), .ref (rm 46), .ref (rm 47), .int 0])), ((rm 1), .inl ((km 0), 1600, .inl (fun _ => 0))), ((rm 2), .inl ((km 1), 7, .inl f1334)), ((rm 22), .inl ((km 2), 422, .inl (fun _ => 0))), ((rm 23), .inl ((km 3), 422, .inl f1326))]
def wd_836 (rm : Nat → Nat) (km : Nat → ClassId) (f1336 : Nat → Int32) : va_W := [((rm 0), .inr (12, [.ref (rm 1), .int 0, .int 0, .int 0, .int (-1), .int 0, .int (-1), .int 0, .int (-1), .ref (rm 2), .ref (rm 3), .ref (rm 4), .ref (rm 5), .ref (rm 6), .ref (rm 7), .ref (rm 8), .ref (rm 9), .ref (rm 10), .ref (rm 11), .ref (rm 12), .ref (rm 13), .ref (rm 14), .ref (rm 15), .ref (rm 16), .int 0, .int 0, .int 0, .int 0, .int 0, .ref (rm 17), .ref (rm 18), .ref (rm 19), .ref (rm 20), .ref (rm 21), .int 0, .ref (rm 22), .ref (rm 23), .ref (rm 24), .int 0, .int 0, .int 0, .ref (rm 25), .ref (rm 26), .ref (rm 27), .int 0, .ref (rm 28), .ref (rm 29), .int 0, .ref (rm 30), .ref (rm 31), .int 0, .ref (rm 32), .ref (rm 33), .int 0, .ref (rm 34), .ref (rm 35), .int 0, .int 0, .int 0, .ref (rm 36), .ref (rm 37), .int 0, .ref (rm 38), .ref (rm 39), .int 0, .ref (rm 40), .ref (rm 41), .ref (rm 42), .int 0, .int 0, .long 1, .ref (rm 43), .int 0, .int 0, .int (-1), .int 0, .int 0, .int 0, .int 0, .ref (rm 44), .ref (rm 45), .ref (rm 46), .ref (rm 47), .int 0])), ((rm 1), .inl ((km 0), 1600, .inl (fun _ => 0))), ((rm 2), .inl ((km 1), 7, .inl (fun _ => 0))), ((rm 22), .inl ((km 2), 422, .inl (fun _ => 0))), ((rm 23), .inl ((km 3), 422, .inl f1336))]
def wd_837 (rm : Nat → Nat) (km : Nat → ClassId) (f1336 : Nat → Int32) : va_W := [((rm 23), .inl ((km 3), 422, .inl f1336))]
def wd_838 (rm : Nat → Nat) (km : Nat → ClassId) (f1338 : Nat → Int32) : va_W := [((rm 23), .inl ((km 3), 422, .inl f1338))]
def wd_839 (rm : Nat → Nat) (km : Nat → ClassId) (f1338 : Nat → Int32) : va_W := [((rm 0), .inr (12, [.ref (rm 1), .int 0, .int 0, .int 0, .int (-1), .int 0, .int (-1), .int 0, .int (-1), .ref (rm 2), .ref (rm 3), .ref (rm 4), .ref (rm 5), .ref (rm 6), .ref (rm 7), .ref (rm 8), .ref (rm 9), .ref (rm 10), .ref (rm 11), .ref (rm 12), .ref (rm 13), .ref (rm 14), .ref (rm 15), .ref (rm 16), .int 0, .int 0, .int 0, .int 0, .int 0, .ref (rm 17), .ref (rm 18), .ref (rm 19), .ref (rm 20), .ref (rm 21), .int 0, .ref (rm 22), .ref (rm 23), .ref (rm 24), .int 0, .int 0, .int 0, .ref (rm 25), .ref (rm 26), .ref (rm 27), .int 0, .ref (rm 28), .ref (rm 29), .int 0, .ref (rm 30), .ref (rm 31), .int 0, .ref (rm 32), .ref (rm 33), .int 0, .ref (rm 34), .ref (rm 35), .int 0, .int 0, .int 0, .ref (rm 36), .ref (rm 37), .int 0, .ref (rm 38), .ref (rm 39), .int 0, .ref (rm 40), .ref (rm 41), .ref (rm 42), .int 0, .int 0, .long 1, .ref (rm 43), .int 0, .int 0, .int (-1), .int 0, .int 0, .int 0, .int 0, .ref (rm 44), .ref (rm 45), .ref (rm 46), .ref (rm 47), .int 0])), ((rm 1), .inl ((km 0), 1600, .inl (fun _ => 0))), ((rm 2), .inl ((km 1), 7, .inl (fun _ => 0))), ((rm 22), .inl ((km 2), 422, .inl (fun _ => 0))), ((rm 23), .inl ((km 3), 422, .inl f1338))]
def wd_840 (rm : Nat → Nat) (km : Nat → ClassId) (f1340 : Nat → Int32) : va_W := [((rm 23), .inl ((km 3), 422, .inl f1340))]
def wd_841 (rm : Nat → Nat) (km : Nat → ClassId) (f1340 : Nat → Int32) : va_W := [((rm 0), .inr (12, [.ref (rm 1), .int 0, .int 0, .int 0, .int (-1), .int 0, .int (-1), .int 0, .int (-1), .ref (rm 2), .ref (rm 3), .ref (rm 4), .ref (rm 5), .ref (rm 6), .ref (rm 7), .ref (rm 8), .ref (rm 9), .ref (rm 10), .ref (rm 11), .ref (rm 12), .ref (rm 13), .ref (rm 14), .ref (rm 15), .ref (rm 16), .int 0, .int 0, .int 0, .int 0, .int 0, .ref (rm 17), .ref (rm 18), .ref (rm 19), .ref (rm 20), .ref (rm 21), .int 0, .ref (rm 22), .ref (rm 23), .ref (rm 24), .int 0, .int 0, .int 0, .ref (rm 25), .ref (rm 26), .ref (rm 27), .int 0, .ref (rm 28), .ref (rm 29), .int 0, .ref (rm 30), .ref (rm 31), .int 0, .ref (rm 32), .ref (rm 33), .int 0, .ref (rm 34), .ref (rm 35), .int 0, .int 0, .int 0, .ref (rm 36), .ref (rm 37), .int 0, .ref (rm 38), .ref (rm 39), .int 0, .ref (rm 40), .ref (rm 41), .ref (rm 42), .int 0, .int 0, .long 1, .ref (rm 43), .int 0, .int 0, .int (-1), .int 0, .int 0, .int 0, .int 0, .ref (rm 44), .ref (rm 45), .ref (rm 46), .ref (rm 47), .int 0])), ((rm 1), .inl ((km 0), 1600, .inl (fun _ => 0))), ((rm 2), .inl ((km 1), 7, .inl (fun _ => 0))), ((rm 22), .inl ((km 2), 422, .inl (fun _ => 0))), ((rm 23), .inl ((km 3), 422, .inl f1340))]
def wd_842 (rm : Nat → Nat) (km : Nat → ClassId) (f1342 : Nat → Int32) : va_W := [((rm 23), .inl ((km 3), 422, .inl f1342))]
def wd_843 (rm : Nat → Nat) (km : Nat → ClassId) (f1342 : Nat → Int32) : va_W := [((rm 0), .inr (12, [.ref (rm 1), .int 0, .int 0, .int 0, .int (-1), .int 0, .int (-1), .int 0, .int (-1), .ref (rm 2), .ref (rm 3), .ref (rm 4), .ref (rm 5), .ref (rm 6), .ref (rm 7), .ref (rm 8), .ref (rm 9), .ref (rm 10), .ref (rm 11), .ref (rm 12), .ref (rm 13), .ref (rm 14), .ref (rm 15), .ref (rm 16), .int 0, .int 0, .int 0, .int 0, .int 0, .ref (rm 17), .ref (rm 18), .ref (rm 19), .ref (rm 20), .ref (rm 21), .int 0, .ref (rm 22), .ref (rm 23), .ref (rm 24), .int 0, .int 0, .int 0, .ref (rm 25), .ref (rm 26), .ref (rm 27), .int 0, .ref (rm 28), .ref (rm 29), .int 0, .ref (rm 30), .ref (rm 31), .int 0, .ref (rm 32), .ref (rm 33), .int 0, .ref (rm 34), .ref (rm 35), .int 0, .int 0, .int 0, .ref (rm 36), .ref (rm 37), .int 0, .ref (rm 38), .ref (rm 39), .int 0, .ref (rm 40), .ref (rm 41), .ref (rm 42), .int 0, .int 0, .long 1, .ref (rm 43), .int 0, .int 0, .int (-1), .int 0, .int 0, .int 0, .int 0, .ref (rm 44), .ref (rm 45), .ref (rm 46), .ref (rm 47), .int 0])), ((rm 1), .inl ((km 0), 1600, .inl (fun _ => 0))), ((rm 2), .inl ((km 1), 7, .inl (fun _ => 0))), ((rm 22), .inl ((km 2), 422, .inl (fun _ => 0))), ((rm 23), .inl ((km 3), 422, .inl f1342))]
def wd_844 (rm : Nat → Nat) (km : Nat → ClassId) (f1344 : Nat → Int32) : va_W := [((rm 23), .inl ((km 3), 422, .inl f1344))]
def wd_845 (rm : Nat → Nat) (km : Nat → ClassId) (f1344 : Nat → Int32) : va_W := [((rm 0), .inr (12, [.ref (rm 1), .int 0, .int 0, .int 0, .int (-1), .int 0, .int (-1), .int 0, .int (-1), .ref (rm 2), .ref (rm 3), .ref (rm 4), .ref (rm 5), .ref (rm 6), .ref (rm 7), .ref (rm 8), .ref (rm 9), .ref (rm 10), .ref (rm 11), .ref (rm 12), .ref (rm 13), .ref (rm 14), .ref (rm 15), .ref (rm 16), .int 0, .int 0, .int 0, .int 0, .int 0, .ref (rm 17), .ref (rm 18), .ref (rm 19), .ref (rm 20), .ref (rm 21), .int 0, .ref (rm 22), .ref (rm 23), .ref (rm 24), .int 0, .int 0, .int 0, .ref (rm 25), .ref (rm 26), .ref (rm 27), .int 0, .ref (rm 28), .ref (rm 29), .int 0, .ref (rm 30), .ref (rm 31), .int 0, .ref (rm 32), .ref (rm 33), .int 0, .ref (rm 34), .ref (rm 35), .int 0, .int 0, .int 0, .ref (rm 36), .ref (rm 37), .int 0, .ref (rm 38), .ref (rm 39), .int 0, .ref (rm 40), .ref (rm 41), .ref (rm 42), .int 0, .int 0, .long 1, .ref (rm 43), .int 0, .int 0, .int (-1), .int 0, .int 0, .int 0, .int 0, .ref (rm 44), .ref (rm 45), .ref (rm 46), .ref (rm 47), .int 0])), ((rm 1), .inl ((km 0), 1600, .inl (fun _ => 0))), ((rm 2), .inl ((km 1), 7, .inl (fun _ => 0))), ((rm 22), .inl ((km 2), 422, .inl (fun _ => 0))), ((rm 23), .inl ((km 3), 422, .inl f1344))]
def wd_846 (rm : Nat → Nat) (km : Nat → ClassId) (f1346 : Nat → Int32) : va_W := [((rm 23), .inl ((km 3), 422, .inl f1346))]
def wd_847 (rm : Nat → Nat) (km : Nat → ClassId) (f1346 : Nat → Int32) : va_W := [((rm 0), .inr (12, [.ref (rm 1), .int 0, .int 0, .int 0, .int (-1), .int 0, .int (-1), .int 0, .int (-1), .ref (rm 2), .ref (rm 3), .ref (rm 4), .ref (rm 5), .ref (rm 6), .ref (rm 7), .ref (rm 8), .ref (rm 9), .ref (rm 10), .ref (rm 11), .ref (rm 12), .ref (rm 13), .ref (rm 14), .ref (rm 15), .ref (rm 16), .int 0, .int 0, .int 0, .int 0, .int 0, .ref (rm 17), .ref (rm 18), .ref (rm 19), .ref (rm 20), .ref (rm 21), .int 0, .ref (rm 22), .ref (rm 23), .ref (rm 24), .int 0, .int 0, .int 0, .ref (rm 25), .ref (rm 26), .ref (rm 27), .int 0, .ref (rm 28), .ref (rm 29), .int 0, .ref (rm 30), .ref (rm 31), .int 0, .ref (rm 32), .ref (rm 33), .int 0, .ref (rm 34), .ref (rm 35), .int 0, .int 0, .int 0, .ref (rm 36), .ref (rm 37), .int 0, .ref (rm 38), .ref (rm 39), .int 0, .ref (rm 40), .ref (rm 41), .ref (rm 42), .int 0, .int 0, .long 1, .ref (rm 43), .int 0, .int 0, .int (-1), .int 0, .int 0, .int 0, .int 0, .ref (rm 44), .ref (rm 45), .ref (rm 46), .ref (rm 47), .int 0])), ((rm 1), .inl ((km 0), 1600, .inl (fun _ => 0))), ((rm 2), .inl ((km 1), 7, .inl (fun _ => 0))), ((rm 22), .inl ((km 2), 422, .inl (fun _ => 0))), ((rm 23), .inl ((km 3), 422, .inl f1346))]
def wd_848 (rm : Nat → Nat) (km : Nat → ClassId) (f1348 : Nat → Int32) : va_W := [((rm 23), .inl ((km 3), 422, .inl f1348))]
def wd_849 (rm : Nat → Nat) (km : Nat → ClassId) (f1348 : Nat → Int32) : va_W := [((rm 0), .inr (12, [.ref (rm 1), .int 0, .int 0, .int 0, .int (-1), .int 0, .int (-1), .int 0, .int (-1), .ref (rm 2), .ref (rm 3), .ref (rm 4), .ref (rm 5), .ref (rm 6), .ref (rm 7), .ref (rm 8), .ref (rm 9), .ref (rm 10), .ref (rm 11), .ref (rm 12), .ref (rm 13), .ref (rm 14), .ref (rm 15), .ref (rm 16), .int 0, .int 0, .int 0, .int 0, .int 0, .ref (rm 17), .ref (rm 18), .ref (rm 19), .ref (rm 20), .ref (rm 21), .int 0, .ref (rm 22), .ref (rm 23), .ref (rm 24), .int 0, .int 0, .int 0, .ref (rm 25), .ref (rm 26), .ref (rm 27), .int 0, .ref (rm 28), .ref (rm 29), .int 0, .ref (rm 30), .ref (rm 31), .int 0, .ref (rm 32), .ref (rm 33), .int 0, .ref (rm 34), .ref (rm 35), .int 0, .int 0, .int 0, .ref (rm 36), .ref (rm 37), .int 0, .ref (rm 38), .ref (rm 39), .int 0, .ref (rm 40), .ref (rm 41), .ref (rm 42), .int 0, .int 0, .long 1, .ref (rm 43), .int 0, .int 0, .int (-1), .int 0, .int 0, .int 0, .int 0, .ref (rm 44), .ref (rm 45), .ref (rm 46), .ref (rm 47), .int 0])), ((rm 1), .inl ((km 0), 1600, .inl (fun _ => 0))), ((rm 2), .inl ((km 1), 7, .inl (fun _ => 0))), ((rm 22), .inl ((km 2), 422, .inl (fun _ => 0))), ((rm 23), .inl ((km 3), 422, .inl f1348))]
def wd_850 (rm : Nat → Nat) (km : Nat → ClassId) (f1350 : Nat → Int32) : va_W := [((rm 23), .inl ((km 3), 422, .inl f1350))]
def wd_851 (rm : Nat → Nat) (km : Nat → ClassId) (f1350 : Nat → Int32) : va_W := [((rm 0), .inr (12, [.ref (rm 1), .int 0, .int 0, .int 0, .int (-1), .int 0, .int (-1), .int 0, .int (-1), .ref (rm 2), .ref (rm 3), .ref (rm 4), .ref (rm 5), .ref (rm 6), .ref (rm 7), .ref (rm 8), .ref (rm 9), .ref (rm 10), .ref (rm 11), .ref (rm 12), .ref (rm 13), .ref (rm 14), .ref (rm 15), .ref (rm 16), .int 0, .int 0, .int 0, .int 0, .int 0, .ref (rm 17), .ref (rm 18), .ref (rm 19), .ref (rm 20), .ref (rm 21), .int 0, .ref (rm 22), .ref (rm 23), .ref (rm 24), .int 0, .int 0, .int 0, .ref (rm 25), .ref (rm 26), .ref (rm 27), .int 0, .ref (rm 28), .ref (rm 29), .int 0, .ref (rm 30), .ref (rm 31), .int 0, .ref (rm 32), .ref (rm 33), .int 0, .ref (rm 34), .ref (rm 35), .int 0, .int 0, .int 0, .ref (rm 36), .ref (rm 37), .int 0, .ref (rm 38), .ref (rm 39), .int 0, .ref (rm 40), .ref (rm 41), .ref (rm 42), .int 0, .int 0, .long 1, .ref (rm 43), .int 0, .int 0, .int (-1), .int 0, .int 0, .int 0, .int 0, .ref (rm 44), .ref (rm 45), .ref (rm 46), .ref (rm 47), .int 0])), ((rm 1), .inl ((km 0), 1600, .inl (fun _ => 0))), ((rm 2), .inl ((km 1), 7, .inl (fun _ => 0))), ((rm 22), .inl ((km 2), 422, .inl (fun _ => 0))), ((rm 23), .inl ((km 3), 422, .inl f1350))]
def wd_852 (rm : Nat → Nat) (km : Nat → ClassId) (f1352 : Nat → Int32) : va_W := [((rm 23), .inl ((km 3), 422, .inl f1352))]
def wd_853 (rm : Nat → Nat) (km : Nat → ClassId) (f1352 : Nat → Int32) : va_W := [((rm 0), .inr (12, [.ref (rm 1), .int 0, .int 0, .int 0, .int (-1), .int 0, .int (-1), .int 0, .int (-1), .ref (rm 2), .ref (rm 3), .ref (rm 4), .ref (rm 5), .ref (rm 6), .ref (rm 7), .ref (rm 8), .ref (rm 9), .ref (rm 10), .ref (rm 11), .ref (rm 12), .ref (rm 13), .ref (rm 14), .ref (rm 15), .ref (rm 16), .int 0, .int 0, .int 0, .int 0, .int 0, .ref (rm 17), .ref (rm 18), .ref (rm 19), .ref (rm 20), .ref (rm 21), .int 0, .ref (rm 22), .ref (rm 23), .ref (rm 24), .int 0, .int 0, .int 0, .ref (rm 25), .ref (rm 26), .ref (rm 27), .int 0, .ref (rm 28), .ref (rm 29), .int 0, .ref (rm 30), .ref (rm 31), .int 0, .ref (rm 32), .ref (rm 33), .int 0, .ref (rm 34), .ref (rm 35), .int 0, .int 0, .int 0, .ref (rm 36), .ref (rm 37), .int 0, .ref (rm 38), .ref (rm 39), .int 0, .ref (rm 40), .ref (rm 41), .ref (rm 42), .int 0, .int 0, .long 1, .ref (rm 43), .int 0, .int 0, .int (-1), .int 0, .int 0, .int 0, .int 0, .ref (rm 44), .ref (rm 45), .ref (rm 46), .ref (rm 47), .int 0])), ((rm 1), .inl ((km 0), 1600, .inl (fun _ => 0))), ((rm 2), .inl ((km 1), 7, .inl (fun _ => 0))), ((rm 22), .inl ((km 2), 422, .inl (fun _ => 0))), ((rm 23), .inl ((km 3), 422, .inl f1352))]
def wd_854 (rm : Nat → Nat) (km : Nat → ClassId) (f1352 : Nat → Int32) : va_W := [((rm 0), .inr (12, [.ref (rm 1), .int 0, .int 0, .int 0, .int (-1), .int 1, .int 0, .int 0, .int (-1), .ref (rm 2), .ref (rm 3), .ref (rm 4), .ref (rm 5), .ref (rm 6), .ref (rm 7), .ref (rm 8), .ref (rm 9), .ref (rm 10), .ref (rm 11), .ref (rm 12), .ref (rm 13), .ref (rm 14), .ref (rm 15), .ref (rm 16), .int 0, .int 0, .int 0, .int 0, .int 0, .ref (rm 17), .ref (rm 18), .ref (rm 19), .ref (rm 20), .ref (rm 21), .int 0, .ref (rm 22), .ref (rm 23), .ref (rm 24), .int 0, .int 0, .int 0, .ref (rm 25), .ref (rm 26), .ref (rm 27), .int 0, .ref (rm 28), .ref (rm 29), .int 0, .ref (rm 30), .ref (rm 31), .int 0, .ref (rm 32), .ref (rm 33), .int 0, .ref (rm 34), .ref (rm 35), .int 0, .int 0, .int 0, .ref (rm 36), .ref (rm 37), .int 0, .ref (rm 38), .ref (rm 39), .int 0, .ref (rm 40), .ref (rm 41), .ref (rm 42), .int 0, .int 0, .long 1, .ref (rm 43), .int 0, .int 0, .int (-1), .int 0, .int 0, .int 0, .int 0, .ref (rm 44), .ref (rm 45), .ref (rm 46), .ref (rm 47), .int 0])), ((rm 1), .inl ((km 0), 1600, .inl (fun _ => 0))), ((rm 2), .inl ((km 1), 7, .inl (fun _ => 0))), ((rm 22), .inl ((km 2), 422, .inl (fun _ => 0))), ((rm 23), .inl ((km 3), 422, .inl f1352))]
def wd_855 (rm : Nat → Nat) (km : Nat → ClassId) (f1356 : Nat → Int32) : va_W := [((rm 0), .inr (12, [.ref (rm 1), .int 0, .int 0, .int 0, .int (-1), .int 1, .int 0, .int 0, .int (-1), .ref (rm 2), .ref (rm 3), .ref (rm 4), .ref (rm 5), .ref (rm 6), .ref (rm 7), .ref (rm 8), .ref (rm 9), .ref (rm 10), .ref (rm 11), .ref (rm 12), .ref (rm 13), .ref (rm 14), .ref (rm 15), .ref (rm 16), .int 0, .int 0, .int 0, .int 0, .int 0, .ref (rm 17), .ref (rm 18), .ref (rm 19), .ref (rm 20), .ref (rm 21), .int 0, .ref (rm 22), .ref (rm 23), .ref (rm 24), .int 0, .int 0, .int 0, .ref (rm 25), .ref (rm 26), .ref (rm 27), .int 0, .ref (rm 28), .ref (rm 29), .int 0, .ref (rm 30), .ref (rm 31), .int 0, .ref (rm 32), .ref (rm 33), .int 0, .ref (rm 34), .ref (rm 35), .int 0, .int 0, .int 0, .ref (rm 36), .ref (rm 37), .int 0, .ref (rm 38), .ref (rm 39), .int 0, .ref (rm 40), .ref (rm 41), .ref (rm 42), .int 0, .int 0, .long 1, .ref (rm 43), .int 0, .int 0, .int (-1), .int 0, .int 0, .int 0, .int 0, .ref (rm 44), .ref (rm 45), .ref (rm 46), .ref (rm 47), .int 0])), ((rm 1), .inl ((km 0), 1600, .inl (fun _ => 0))), ((rm 2), .inl ((km 1), 7, .inl (fun _ => 0))), ((rm 22), .inl ((km 2), 422, .inl (fun _ => 0))), ((rm 23), .inl ((km 3), 422, .inl f1356))]
def wd_856 (rm : Nat → Nat) (km : Nat → ClassId) (f1356 : Nat → Int32) : va_W := [((rm 0), .inr (12, [.ref (rm 1), .int 0, .int 0, .int 0, .int (-1), .int 1, .int 0, .int 0, .int (-1), .ref (rm 2), .ref (rm 3), .ref (rm 4), .ref (rm 5), .ref (rm 6), .ref (rm 7), .ref (rm 8), .ref (rm 9), .ref (rm 10), .ref (rm 11), .ref (rm 12), .ref (rm 13), .ref (rm 14), .ref (rm 15), .ref (rm 16), .int 0, .int 0, .int 0, .int 0, .int 0, .ref (rm 17), .ref (rm 18), .ref (rm 19), .ref (rm 20), .ref (rm 21), .int 0, .ref (rm 22), .ref (rm 23), .ref (rm 24), .int 0, .int 1, .int 0, .ref (rm 25), .ref (rm 26), .ref (rm 27), .int 0, .ref (rm 28), .ref (rm 29), .int 0, .ref (rm 30), .ref (rm 31), .int 0, .ref (rm 32), .ref (rm 33), .int 0, .ref (rm 34), .ref (rm 35), .int 0, .int 0, .int 0, .ref (rm 36), .ref (rm 37), .int 0, .ref (rm 38), .ref (rm 39), .int 0, .ref (rm 40), .ref (rm 41), .ref (rm 42), .int 0, .int 0, .long 1, .ref (rm 43), .int 0, .int 0, .int (-1), .int 0, .int 0, .int 0, .int 0, .ref (rm 44), .ref (rm 45), .ref (rm 46), .ref (rm 47), .int 0])), ((rm 1), .inl ((km 0), 1600, .inl (fun _ => 0))), ((rm 2), .inl ((km 1), 7, .inl (fun _ => 0))), ((rm 22), .inl ((km 2), 422, .inl (fun _ => 0))), ((rm 23), .inl ((km 3), 422, .inl f1356))]
def wd_857 (rm : Nat → Nat) (km : Nat → ClassId) (f1356 : Nat → Int32) : va_W := [((rm 0), .inr (12, [.ref (rm 1), .int 0, .int 0, .int 0, .int (-1), .int 1, .int 0, .int 1, .int (-1), .ref (rm 2), .ref (rm 3), .ref (rm 4), .ref (rm 5), .ref (rm 6), .ref (rm 7), .ref (rm 8), .ref (rm 9), .ref (rm 10), .ref (rm 11), .ref (rm 12), .ref (rm 13), .ref (rm 14), .ref (rm 15), .ref (rm 16), .int 0, .int 0, .int 0, .int 0, .int 0, .ref (rm 17), .ref (rm 18), .ref (rm 19), .ref (rm 20), .ref (rm 21), .int 0, .ref (rm 22), .ref (rm 23), .ref (rm 24), .int 0, .int 1, .int 0, .ref (rm 25), .ref (rm 26), .ref (rm 27), .int 0, .ref (rm 28), .ref (rm 29), .int 0, .ref (rm 30), .ref (rm 31), .int 0, .ref (rm 32), .ref (rm 33), .int 0, .ref (rm 34), .ref (rm 35), .int 0, .int 0, .int 0, .ref (rm 36), .ref (rm 37), .int 0, .ref (rm 38), .ref (rm 39), .int 0, .ref (rm 40), .ref (rm 41), .ref (rm 42), .int 0, .int 0, .long 1, .ref (rm 43), .int 0, .int 0, .int (-1), .int 0, .int 0, .int 0, .int 0, .ref (rm 44), .ref (rm 45), .ref (rm 46), .ref (rm 47), .int 0])), ((rm 1), .inl ((km 0), 1600, .inl (fun _ => 0))), ((rm 2), .inl ((km 1), 7, .inl (fun _ => 0))), ((rm 22), .inl ((km 2), 422, .inl (fun _ => 0))), ((rm 23), .inl ((km 3), 422, .inl f1356))]
def wd_858 (rm : Nat → Nat) (km : Nat → ClassId) (f1356 : Nat → Int32) : va_W := [((rm 0), .inr (12, [.ref (rm 1), .int 0, .int 0, .int 0, .int (-1), .int 1, .int 0, .int 1, .int 0, .ref (rm 2), .ref (rm 3), .ref (rm 4), .ref (rm 5), .ref (rm 6), .ref (rm 7), .ref (rm 8), .ref (rm 9), .ref (rm 10), .ref (rm 11), .ref (rm 12), .ref (rm 13), .ref (rm 14), .ref (rm 15), .ref (rm 16), .int 0, .int 0, .int 0, .int 0, .int 0, .ref (rm 17), .ref (rm 18), .ref (rm 19), .ref (rm 20), .ref (rm 21), .int 0, .ref (rm 22), .ref (rm 23), .ref (rm 24), .int 0, .int 1, .int 0, .ref (rm 25), .ref (rm 26), .ref (rm 27), .int 0, .ref (rm 28), .ref (rm 29), .int 0, .ref (rm 30), .ref (rm 31), .int 0, .ref (rm 32), .ref (rm 33), .int 0, .ref (rm 34), .ref (rm 35), .int 0, .int 0, .int 0, .ref (rm 36), .ref (rm 37), .int 0, .ref (rm 38), .ref (rm 39), .int 0, .ref (rm 40), .ref (rm 41), .ref (rm 42), .int 0, .int 0, .long 1, .ref (rm 43), .int 0, .int 0, .int (-1), .int 0, .int 0, .int 0, .int 0, .ref (rm 44), .ref (rm 45), .ref (rm 46), .ref (rm 47), .int 0])), ((rm 1), .inl ((km 0), 1600, .inl (fun _ => 0))), ((rm 2), .inl ((km 1), 7, .inl (fun _ => 0))), ((rm 22), .inl ((km 2), 422, .inl (fun _ => 0))), ((rm 23), .inl ((km 3), 422, .inl f1356))]
def wd_859 (rm : Nat → Nat) (km : Nat → ClassId) (f1358 : Nat → Int32) (f1356 : Nat → Int32) : va_W := [((rm 0), .inr (12, [.ref (rm 1), .int 0, .int 0, .int 0, .int (-1), .int 1, .int 0, .int 1, .int 0, .ref (rm 2), .ref (rm 3), .ref (rm 4), .ref (rm 5), .ref (rm 6), .ref (rm 7), .ref (rm 8), .ref (rm 9), .ref (rm 10), .ref (rm 11), .ref (rm 12), .ref (rm 13), .ref (rm 14), .ref (rm 15), .ref (rm 16), .int 0, .int 0, .int 0, .int 0, .int 0, .ref (rm 17), .ref (rm 18), .ref (rm 19), .ref (rm 20), .ref (rm 21), .int 0, .ref (rm 22), .ref (rm 23), .ref (rm 24), .int 0, .int 1, .int 0, .ref (rm 25), .ref (rm 26), .ref (rm 27), .int 0, .ref (rm 28), .ref (rm 29), .int 0, .ref (rm 30), .ref (rm 31), .int 0, .ref (rm 32), .ref (rm 33), .int 0, .ref (rm 34), .ref (rm 35), .int 0, .int 0, .int 0, .ref (rm 36), .ref (rm 37), .int 0, .ref (rm 38), .ref (rm 39), .int 0, .ref (rm 40), .ref (rm 41), .ref (rm 42), .int 0, .int 0, .long 1, .ref (rm 43), .int 0, .int 0, .int (-1), .int 0, .int 0, .int 0, .int 0, .ref (rm 44), .ref (rm 45), .ref (rm 46), .ref (rm 47), .int 0])), ((rm 1), .inl ((km 0), 1600, .inl (fun _ => 0))), ((rm 2), .inl ((km 1), 7, .inl f1358)), ((rm 22), .inl ((km 2), 422, .inl (fun _ => 0))), ((rm 23), .inl ((km 3), 422, .inl f1356))]
set_option maxHeartbeats 4000000 in
set_option maxRecDepth 100000 in
theorem mX12_heap (l : Launch) (dC : Nat → ClassId) (dI : Nat → Nat → Nat) (rm : Nat → Nat) (km : Nat → ClassId) (sz : Nat) : Met l yX12_heap (Cond.code yX12_heap cX12_heap 2 (some .int) :: wA) ({ frames := 4, cells := 0, slots := 0, locals := 85 }) (va_Pc [.ref (rm 0)] (fun U => U.heap.size = sz ∧ va_P (dC, dI) vwCl (wd_758 rm km) U.heap ∧ va_K (dC, dI) vwCl [((km 0), .int), ((km 1), .int), ((km 2), .int), ((km 3), .int)] U ∧ va_D (fun _ => True) (wd_758 rm km))) (va_Qi (fun (r : Int32) (_ : Unit) => r = (-1)) (fun _ t => True) (va_A (wd_758 rm km) sz)) 0 0 (va_A (wd_758 rm km) sz) := by
  refine Met.ofW (cc := cX12_heap) (maxL := 2) (ret := (some .int)) (by decide) rfl ?_
  intro p e s m args below meth c s₁ B hml hv
  obtain ⟨rfl, hsz, hP, hK, hD0⟩ := hv
  have hx := B.exec
  have hb := B.bytes
  have hr := B.returns
  have hts : ∀ w ∈ wA, w.before [.ref (rm 0)].toArray s = true := fun w h => atoms_spec (ws := Cond.code yX12_heap cX12_heap 2 (some .int) :: wA) B.pre w (List.mem_cons_of_mem _ h)
  have hown : s.vm.findClass RX12 = some m.cls := findClass_of_methodNamed B.named
  have hlocks := B.notSynchronized
  subst hsz
  have hD := hD0.self (sz := s.heap.size)
  generalize hAe : va_A (wd_758 rm km) s.heap.size = A at hD ⊢
  have hA : ∀ q : Nat, s.heap.size ≤ q → A q := fun q h => by rw [← hAe]; exact Or.inr h
  have hS : va_S A s.heap s.heap [] := va_S.rf
  have hl := lv_entry ([.ref (rm 0)]) (n := 2) (Nat.le_of_ble_eq_true rfl)
  rw [lg_entry_eq]
  generalize (lg_sl ([.ref (rm 0)]) ++ List.replicate (2 - (lg_sl ([.ref (rm 0)])).length) Slot.unset).toArray = ls at hl ⊢
  have hl : lv_has ls 2 [(0, .ref (rm 0))] := hl
  refine lv_aload_n hx hb dX12_heap_0 rfl (lv_at hl 0 rfl) ?_
  have hPc := hP.sub (ws' := (wd_758 rm km)) [0, 1, 2, 3, 4] rfl
  have hDc := hD.sub (ws' := (wd_758 rm km)) [0, 1, 2, 3, 4] (by decide) rfl
  have hKc := hK.sub (tys' := [((km 0), .int), ((km 1), .int), ((km 2), .int), ((km 3), .int)]) [0, 1, 2, 3] rfl
  have hFc := va_free (wc := (wd_758 rm km)) hD hS hA [0, 1, 2, 3, 4] rfl
  refine va_callv (va_runV (As := []) (rest := []) ⟨hx, hb, hml, hown, hts⟩ (c73_X12_begins l dC dI rm km s.heap.size) (cwV 0 hts (gV q_380 q_381 q_382 q_372 q_374) rfl rfl rfl mdv_yX12_begins ⟨Nat.le_of_ble_eq_true rfl, Nat.le_of_ble_eq_true rfl⟩) ⟨fun a U g mk q => by obtain ⟨q0, q1, qP, qK, qD⟩ := q; exact ⟨q0, q1, qP, va_K.moved (u := U) (U := U.calling g mk a) (Vm.Alike.refl U.vm) qK, qD⟩, va_recv hKc hPc (ci := 12) (q0 := 0) rfl rfl, fun U hU hW => ⟨rfl, by rw [hU], by rw [hU]; exact hPc, va_K.moved hW.alike hKc, hDc.weaken (fun _ _ _ _ => trivial)⟩⟩ rfl rfl hl.1 rfl (lv_room (Nat.le_of_ble_eq_true rfl)) dX12_heap_1 ⟨Nat.le_of_ble_eq_true rfl, Nat.le_of_ble_eq_true rfl⟩) hS (fun q _ h => hFc q h) hFc (fun u t H1 locs ht hvm hw hB hz1 hk1 hS => ?_)
  obtain ⟨hP1, hK1, hD1⟩ := hB
  rw [ht] at hP1
  have hK1 := va_K.moved hvm.symm hK1
  obtain ⟨hP, hD⟩ := va_join (wr := []) (w1 := (wd_767 rm km)) hP hD [0, 1, 2, 3, 4] [] rfl rfl (by decide) (by decide) hk1 hFc hP1 hD1
  generalize H1 = H at hP hS ⊢
  have hP : va_P (dC, dI) vwCl (wd_767 rm km) H := hP
  have hD : va_D A (wd_767 rm km) := hD
  refine lv_aload_n hx hb dX12_heap_4 rfl (lv_at hl 0 rfl) ?_
  refine lv_iconst (v := 0) hx hb dX12_heap_5 (by decide) ?_
  refine va_put (D := (dC, dI)) (ci := 12) (v := .int 0) (ty := tyX12 28) (C := RX12) (T := TX12) (N := 84) hx hb hts i_X12 tyX12 tyX12_ok nmX12 hown hK hP hD hS 0 rfl rfl 28 (by decide) (hts _ q_383) (fun _ h9 => h9) rfl (tyX12_ok 28 (by decide)) rfl rfl (Nat.le_of_ble_eq_true rfl) dX12_heap_6 (fun H locs hP hD hS => ?_)
  have hP : va_P (dC, dI) vwCl (wd_767 rm km) H := hP
  have hD : va_D A (wd_767 rm km) := hD
  refine lv_aload_n hx hb dX12_heap_9 rfl (lv_at hl 0 rfl) ?_
  refine lv_iconst (v := 0) hx hb dX12_heap_10 (by decide) ?_
  refine va_put (D := (dC, dI)) (ci := 12) (v := .int 0) (ty := tyX12 34) (C := RX12) (T := TX12) (N := 84) hx hb hts i_X12 tyX12 tyX12_ok nmX12 hown hK hP hD hS 0 rfl rfl 34 (by decide) (hts _ q_384) (fun _ h9 => h9) rfl (tyX12_ok 34 (by decide)) rfl rfl (Nat.le_of_ble_eq_true rfl) dX12_heap_11 (fun H locs hP hD hS => ?_)
  have hP : va_P (dC, dI) vwCl (wd_767 rm km) H := hP
  have hD : va_D A (wd_767 rm km) := hD
  refine lv_iconst (v := 0) hx hb dX12_heap_14 (by decide) ?_
  refine lv_istore_n (lv' := [(1, .int 0), (0, .ref (rm 0))]) hx hb dX12_heap_15 rfl hl (by decide) rfl (fun ls hl => ?_)
  refine lp_m0 hx hb hts hown hK (fun H locs ls f1336 hP hD hS hl => ?_) 422 0 _ _ _ _ rfl hP hD hS (lv_sub hl [0, 1] rfl)
  have hP : va_P (dC, dI) vwCl (wd_836 rm km f1336) H := hP
  have hD : va_D A (wd_836 rm km f1336) := hD
  refine lv_bipush (v := (-8)) hx hb dX12_heap_36 (by decide) ?_
  refine lv_istore_n (lv' := [(1, .int (-8)), (0, .ref (rm 0))]) hx hb dX12_heap_38 rfl hl (by decide) rfl (fun ls hl => ?_)
  refine lv_iload_n hx hb dX12_heap_39 rfl (lv_at hl 0 rfl) ?_
  refine lv_if_ge (tgt := 59) hx hb dX12_heap_40 (by decide) (fun c_0 => absurd c_0 (by decide)) (fun c_0 => ?_)
  refine lv_aload_n hx hb dX12_heap_43 rfl (lv_at hl 1 rfl) ?_
  refine va_get (D := (dC, dI)) (ci := 12) (v := .ref (rm 23)) (C := RX12) (T := TX12) (N := 84) hx hb hts i_X12 hown hK hP 0 rfl rfl 36 (by decide) (hts _ q_211) (fun _ h9 => h9) rfl dX12_heap_44 ?_
  refine lv_iload_n hx hb dX12_heap_47 rfl (lv_at hl 0 rfl) ?_
  refine lv_iconst (v := 1) hx hb dX12_heap_48 (by decide) ?_
  refine lv_iconst (v := (-1)) hx hb dX12_heap_49 (by decide) ?_
  have hPc := hP.sub (ws' := (wd_837 rm km f1336)) [4] rfl
  have hDc := hD.sub (ws' := (wd_837 rm km f1336)) [4] (by decide) rfl
  have hKc := hK.sub (tys' := [((km 3), .int)]) [3] rfl
  have hFc := va_free (wc := (wd_837 rm km f1336)) hD hS hA [4] rfl
  refine va_callv (va_runS (As := [.ref (rm 23), .int (-8), .int 1, .int (-1)]) (rest := []) ⟨hx, hb, hml, hown, hts⟩ (c75_X12_holds l dC dI rm km f1336 H.size) (va_cwS 4 hts (gS q_389 q_390 q_372 q_385) rfl rfl rfl mds_yX12_holds ⟨Nat.le_of_ble_eq_true rfl, Nat.le_of_ble_eq_true rfl⟩) ⟨fun a U g mk q => by obtain ⟨q0, q1, qP, qK, qD⟩ := q; exact ⟨q0, q1, qP, va_K.moved (u := U) (U := U.calling g mk a) (Vm.Alike.refl U.vm) qK, qD⟩, fun U hU hW => ⟨rfl, by rw [hU], by rw [hU]; exact hPc, va_K.moved hW.alike hKc, hDc.weaken (fun _ _ _ _ => trivial)⟩⟩ rfl rfl hl.1 rfl (lv_room (Nat.le_of_ble_eq_true rfl)) dX12_heap_50 ⟨Nat.le_of_ble_eq_true rfl, Nat.le_of_ble_eq_true rfl⟩) hS (fun q _ h => hFc q h) hFc (fun u t H1 locs ht hvm hw hB hz1 hk1 hS => ?_)
  obtain ⟨f1338, hP1, hK1, hD1⟩ := hB
  rw [ht] at hP1
  have hK1 := va_K.moved hvm.symm hK1
  obtain ⟨hP, hD⟩ := va_join (wr := (wd_777 rm km)) (w1 := (wd_838 rm km f1338)) hP hD [4] [0, 1, 2, 3] rfl rfl (by decide) (by decide) hk1 hFc hP1 hD1
  have hK := (hK.sub (tys' := [((km 0), .int), ((km 1), .int), ((km 2), .int)]) [0, 1, 2] rfl).app hK1
  have hK : va_K (dC, dI) vwCl [((km 0), .int), ((km 1), .int), ((km 2), .int), ((km 3), .int)] s := hK
  generalize H1 = H at hP hS ⊢
  have hP : va_P (dC, dI) vwCl (wd_839 rm km f1338) H := hP
  have hD : va_D A (wd_839 rm km f1338) := hD
  refine lv_iinc (v := (-7)) (lv' := [(1, .int (-7)), (0, .ref (rm 0))]) hx hb dX12_heap_53 hl (k := 0) rfl (by decide) (by decide) rfl (fun ls hl => ?_)
  refine lv_goto (tgt := 39) hx hb dX12_heap_56 (by decide) ?_
  refine lv_iload_n hx hb dX12_heap_39 rfl (lv_at hl 0 rfl) ?_
  refine lv_if_ge (tgt := 59) hx hb dX12_heap_40 (by decide) (fun c_0 => absurd c_0 (by decide)) (fun c_0 => ?_)
  refine lv_aload_n hx hb dX12_heap_43 rfl (lv_at hl 1 rfl) ?_
  refine va_get (D := (dC, dI)) (ci := 12) (v := .ref (rm 23)) (C := RX12) (T := TX12) (N := 84) hx hb hts i_X12 hown hK hP 0 rfl rfl 36 (by decide) (hts _ q_211) (fun _ h9 => h9) rfl dX12_heap_44 ?_
  refine lv_iload_n hx hb dX12_heap_47 rfl (lv_at hl 0 rfl) ?_
  refine lv_iconst (v := 1) hx hb dX12_heap_48 (by decide) ?_
  refine lv_iconst (v := (-1)) hx hb dX12_heap_49 (by decide) ?_
  have hPc := hP.sub (ws' := (wd_838 rm km f1338)) [4] rfl
  have hDc := hD.sub (ws' := (wd_838 rm km f1338)) [4] (by decide) rfl
  have hKc := hK.sub (tys' := [((km 3), .int)]) [3] rfl
  have hFc := va_free (wc := (wd_838 rm km f1338)) hD hS hA [4] rfl
  refine va_callv (va_runS (As := [.ref (rm 23), .int (-7), .int 1, .int (-1)]) (rest := []) ⟨hx, hb, hml, hown, hts⟩ (c77_X12_holds l dC dI rm km f1338 H.size) (va_cwS 4 hts (gS q_389 q_390 q_372 q_385) rfl rfl rfl mds_yX12_holds ⟨Nat.le_of_ble_eq_true rfl, Nat.le_of_ble_eq_true rfl⟩) ⟨fun a U g mk q => by obtain ⟨q0, q1, qP, qK, qD⟩ := q; exact ⟨q0, q1, qP, va_K.moved (u := U) (U := U.calling g mk a) (Vm.Alike.refl U.vm) qK, qD⟩, fun U hU hW => ⟨rfl, by rw [hU], by rw [hU]; exact hPc, va_K.moved hW.alike hKc, hDc.weaken (fun _ _ _ _ => trivial)⟩⟩ rfl rfl hl.1 rfl (lv_room (Nat.le_of_ble_eq_true rfl)) dX12_heap_50 ⟨Nat.le_of_ble_eq_true rfl, Nat.le_of_ble_eq_true rfl⟩) hS (fun q _ h => hFc q h) hFc (fun u t H1 locs ht hvm hw hB hz1 hk1 hS => ?_)
  obtain ⟨f1340, hP1, hK1, hD1⟩ := hB
  rw [ht] at hP1
  have hK1 := va_K.moved hvm.symm hK1
  obtain ⟨hP, hD⟩ := va_join (wr := (wd_777 rm km)) (w1 := (wd_840 rm km f1340)) hP hD [4] [0, 1, 2, 3] rfl rfl (by decide) (by decide) hk1 hFc hP1 hD1
  have hK := (hK.sub (tys' := [((km 0), .int), ((km 1), .int), ((km 2), .int)]) [0, 1, 2] rfl).app hK1
  have hK : va_K (dC, dI) vwCl [((km 0), .int), ((km 1), .int), ((km 2), .int), ((km 3), .int)] s := hK
  generalize H1 = H at hP hS ⊢
  have hP : va_P (dC, dI) vwCl (wd_841 rm km f1340) H := hP
  have hD : va_D A (wd_841 rm km f1340) := hD
  refine lv_iinc (v := (-6)) (lv' := [(1, .int (-6)), (0, .ref (rm 0))]) hx hb dX12_heap_53 hl (k := 0) rfl (by decide) (by decide) rfl (fun ls hl => ?_)
  refine lv_goto (tgt := 39) hx hb dX12_heap_56 (by decide) ?_
  refine lv_iload_n hx hb dX12_heap_39 rfl (lv_at hl 0 rfl) ?_
  refine lv_if_ge (tgt := 59) hx hb dX12_heap_40 (by decide) (fun c_0 => absurd c_0 (by decide)) (fun c_0 => ?_)
  refine lv_aload_n hx hb dX12_heap_43 rfl (lv_at hl 1 rfl) ?_
  refine va_get (D := (dC, dI)) (ci := 12) (v := .ref (rm 23)) (C := RX12) (T := TX12) (N := 84) hx hb hts i_X12 hown hK hP 0 rfl rfl 36 (by decide) (hts _ q_211) (fun _ h9 => h9) rfl dX12_heap_44 ?_
  refine lv_iload_n hx hb dX12_heap_47 rfl (lv_at hl 0 rfl) ?_
  refine lv_iconst (v := 1) hx hb dX12_heap_48 (by decide) ?_
  refine lv_iconst (v := (-1)) hx hb dX12_heap_49 (by decide) ?_
  have hPc := hP.sub (ws' := (wd_840 rm km f1340)) [4] rfl
  have hDc := hD.sub (ws' := (wd_840 rm km f1340)) [4] (by decide) rfl
  have hKc := hK.sub (tys' := [((km 3), .int)]) [3] rfl
  have hFc := va_free (wc := (wd_840 rm km f1340)) hD hS hA [4] rfl
  refine va_callv (va_runS (As := [.ref (rm 23), .int (-6), .int 1, .int (-1)]) (rest := []) ⟨hx, hb, hml, hown, hts⟩ (c79_X12_holds l dC dI rm km f1340 H.size) (va_cwS 4 hts (gS q_389 q_390 q_372 q_385) rfl rfl rfl mds_yX12_holds ⟨Nat.le_of_ble_eq_true rfl, Nat.le_of_ble_eq_true rfl⟩) ⟨fun a U g mk q => by obtain ⟨q0, q1, qP, qK, qD⟩ := q; exact ⟨q0, q1, qP, va_K.moved (u := U) (U := U.calling g mk a) (Vm.Alike.refl U.vm) qK, qD⟩, fun U hU hW => ⟨rfl, by rw [hU], by rw [hU]; exact hPc, va_K.moved hW.alike hKc, hDc.weaken (fun _ _ _ _ => trivial)⟩⟩ rfl rfl hl.1 rfl (lv_room (Nat.le_of_ble_eq_true rfl)) dX12_heap_50 ⟨Nat.le_of_ble_eq_true rfl, Nat.le_of_ble_eq_true rfl⟩) hS (fun q _ h => hFc q h) hFc (fun u t H1 locs ht hvm hw hB hz1 hk1 hS => ?_)
  obtain ⟨f1342, hP1, hK1, hD1⟩ := hB
  rw [ht] at hP1
  have hK1 := va_K.moved hvm.symm hK1
  obtain ⟨hP, hD⟩ := va_join (wr := (wd_777 rm km)) (w1 := (wd_842 rm km f1342)) hP hD [4] [0, 1, 2, 3] rfl rfl (by decide) (by decide) hk1 hFc hP1 hD1
  have hK := (hK.sub (tys' := [((km 0), .int), ((km 1), .int), ((km 2), .int)]) [0, 1, 2] rfl).app hK1
  have hK : va_K (dC, dI) vwCl [((km 0), .int), ((km 1), .int), ((km 2), .int), ((km 3), .int)] s := hK
  generalize H1 = H at hP hS ⊢
  have hP : va_P (dC, dI) vwCl (wd_843 rm km f1342) H := hP
  have hD : va_D A (wd_843 rm km f1342) := hD
  refine lv_iinc (v := (-5)) (lv' := [(1, .int (-5)), (0, .ref (rm 0))]) hx hb dX12_heap_53 hl (k := 0) rfl (by decide) (by decide) rfl (fun ls hl => ?_)
  refine lv_goto (tgt := 39) hx hb dX12_heap_56 (by decide) ?_
  refine lv_iload_n hx hb dX12_heap_39 rfl (lv_at hl 0 rfl) ?_
  refine lv_if_ge (tgt := 59) hx hb dX12_heap_40 (by decide) (fun c_0 => absurd c_0 (by decide)) (fun c_0 => ?_)
  refine lv_aload_n hx hb dX12_heap_43 rfl (lv_at hl 1 rfl) ?_
  refine va_get (D := (dC, dI)) (ci := 12) (v := .ref (rm 23)) (C := RX12) (T := TX12) (N := 84) hx hb hts i_X12 hown hK hP 0 rfl rfl 36 (by decide) (hts _ q_211) (fun _ h9 => h9) rfl dX12_heap_44 ?_
  refine lv_iload_n hx hb dX12_heap_47 rfl (lv_at hl 0 rfl) ?_
  refine lv_iconst (v := 1) hx hb dX12_heap_48 (by decide) ?_
  refine lv_iconst (v := (-1)) hx hb dX12_heap_49 (by decide) ?_
  have hPc := hP.sub (ws' := (wd_842 rm km f1342)) [4] rfl
  have hDc := hD.sub (ws' := (wd_842 rm km f1342)) [4] (by decide) rfl
  have hKc := hK.sub (tys' := [((km 3), .int)]) [3] rfl
  have hFc := va_free (wc := (wd_842 rm km f1342)) hD hS hA [4] rfl
  refine va_callv (va_runS (As := [.ref (rm 23), .int (-5), .int 1, .int (-1)]) (rest := []) ⟨hx, hb, hml, hown, hts⟩ (c81_X12_holds l dC dI rm km f1342 H.size) (va_cwS 4 hts (gS q_389 q_390 q_372 q_385) rfl rfl rfl mds_yX12_holds ⟨Nat.le_of_ble_eq_true rfl, Nat.le_of_ble_eq_true rfl⟩) ⟨fun a U g mk q => by obtain ⟨q0, q1, qP, qK, qD⟩ := q; exact ⟨q0, q1, qP, va_K.moved (u := U) (U := U.calling g mk a) (Vm.Alike.refl U.vm) qK, qD⟩, fun U hU hW => ⟨rfl, by rw [hU], by rw [hU]; exact hPc, va_K.moved hW.alike hKc, hDc.weaken (fun _ _ _ _ => trivial)⟩⟩ rfl rfl hl.1 rfl (lv_room (Nat.le_of_ble_eq_true rfl)) dX12_heap_50 ⟨Nat.le_of_ble_eq_true rfl, Nat.le_of_ble_eq_true rfl⟩) hS (fun q _ h => hFc q h) hFc (fun u t H1 locs ht hvm hw hB hz1 hk1 hS => ?_)
  obtain ⟨f1344, hP1, hK1, hD1⟩ := hB
  rw [ht] at hP1
  have hK1 := va_K.moved hvm.symm hK1
  obtain ⟨hP, hD⟩ := va_join (wr := (wd_777 rm km)) (w1 := (wd_844 rm km f1344)) hP hD [4] [0, 1, 2, 3] rfl rfl (by decide) (by decide) hk1 hFc hP1 hD1
  have hK := (hK.sub (tys' := [((km 0), .int), ((km 1), .int), ((km 2), .int)]) [0, 1, 2] rfl).app hK1
  have hK : va_K (dC, dI) vwCl [((km 0), .int), ((km 1), .int), ((km 2), .int), ((km 3), .int)] s := hK
  generalize H1 = H at hP hS ⊢
  have hP : va_P (dC, dI) vwCl (wd_845 rm km f1344) H := hP
  have hD : va_D A (wd_845 rm km f1344) := hD
  refine lv_iinc (v := (-4)) (lv' := [(1, .int (-4)), (0, .ref (rm 0))]) hx hb dX12_heap_53 hl (k := 0) rfl (by decide) (by decide) rfl (fun ls hl => ?_)
  refine lv_goto (tgt := 39) hx hb dX12_heap_56 (by decide) ?_
  refine lv_iload_n hx hb dX12_heap_39 rfl (lv_at hl 0 rfl) ?_
  refine lv_if_ge (tgt := 59) hx hb dX12_heap_40 (by decide) (fun c_0 => absurd c_0 (by decide)) (fun c_0 => ?_)
  refine lv_aload_n hx hb dX12_heap_43 rfl (lv_at hl 1 rfl) ?_
  refine va_get (D := (dC, dI)) (ci := 12) (v := .ref (rm 23)) (C := RX12) (T := TX12) (N := 84) hx hb hts i_X12 hown hK hP 0 rfl rfl 36 (by decide) (hts _ q_211) (fun _ h9 => h9) rfl dX12_heap_44 ?_
  refine lv_iload_n hx hb dX12_heap_47 rfl (lv_at hl 0 rfl) ?_
  refine lv_iconst (v := 1) hx hb dX12_heap_48 (by decide) ?_
  refine lv_iconst (v := (-1)) hx hb dX12_heap_49 (by decide) ?_
  have hPc := hP.sub (ws' := (wd_844 rm km f1344)) [4] rfl
  have hDc := hD.sub (ws' := (wd_844 rm km f1344)) [4] (by decide) rfl
  have hKc := hK.sub (tys' := [((km 3), .int)]) [3] rfl
  have hFc := va_free (wc := (wd_844 rm km f1344)) hD hS hA [4] rfl
  refine va_callv (va_runS (As := [.ref (rm 23), .int (-4), .int 1, .int (-1)]) (rest := []) ⟨hx, hb, hml, hown, hts⟩ (c83_X12_holds l dC dI rm km f1344 H.size) (va_cwS 4 hts (gS q_389 q_390 q_372 q_385) rfl rfl rfl mds_yX12_holds ⟨Nat.le_of_ble_eq_true rfl, Nat.le_of_ble_eq_true rfl⟩) ⟨fun a U g mk q => by obtain ⟨q0, q1, qP, qK, qD⟩ := q; exact ⟨q0, q1, qP, va_K.moved (u := U) (U := U.calling g mk a) (Vm.Alike.refl U.vm) qK, qD⟩, fun U hU hW => ⟨rfl, by rw [hU], by rw [hU]; exact hPc, va_K.moved hW.alike hKc, hDc.weaken (fun _ _ _ _ => trivial)⟩⟩ rfl rfl hl.1 rfl (lv_room (Nat.le_of_ble_eq_true rfl)) dX12_heap_50 ⟨Nat.le_of_ble_eq_true rfl, Nat.le_of_ble_eq_true rfl⟩) hS (fun q _ h => hFc q h) hFc (fun u t H1 locs ht hvm hw hB hz1 hk1 hS => ?_)
  obtain ⟨f1346, hP1, hK1, hD1⟩ := hB
  rw [ht] at hP1
  have hK1 := va_K.moved hvm.symm hK1
  obtain ⟨hP, hD⟩ := va_join (wr := (wd_777 rm km)) (w1 := (wd_846 rm km f1346)) hP hD [4] [0, 1, 2, 3] rfl rfl (by decide) (by decide) hk1 hFc hP1 hD1
  have hK := (hK.sub (tys' := [((km 0), .int), ((km 1), .int), ((km 2), .int)]) [0, 1, 2] rfl).app hK1
  have hK : va_K (dC, dI) vwCl [((km 0), .int), ((km 1), .int), ((km 2), .int), ((km 3), .int)] s := hK
  generalize H1 = H at hP hS ⊢
  have hP : va_P (dC, dI) vwCl (wd_847 rm km f1346) H := hP
  have hD : va_D A (wd_847 rm km f1346) := hD
  refine lv_iinc (v := (-3)) (lv' := [(1, .int (-3)), (0, .ref (rm 0))]) hx hb dX12_heap_53 hl (k := 0) rfl (by decide) (by decide) rfl (fun ls hl => ?_)
  refine lv_goto (tgt := 39) hx hb dX12_heap_56 (by decide) ?_
  refine lv_iload_n hx hb dX12_heap_39 rfl (lv_at hl 0 rfl) ?_
  refine lv_if_ge (tgt := 59) hx hb dX12_heap_40 (by decide) (fun c_0 => absurd c_0 (by decide)) (fun c_0 => ?_)
  refine lv_aload_n hx hb dX12_heap_43 rfl (lv_at hl 1 rfl) ?_
  refine va_get (D := (dC, dI)) (ci := 12) (v := .ref (rm 23)) (C := RX12) (T := TX12) (N := 84) hx hb hts i_X12 hown hK hP 0 rfl rfl 36 (by decide) (hts _ q_211) (fun _ h9 => h9) rfl dX12_heap_44 ?_
  refine lv_iload_n hx hb dX12_heap_47 rfl (lv_at hl 0 rfl) ?_
  refine lv_iconst (v := 1) hx hb dX12_heap_48 (by decide) ?_
  refine lv_iconst (v := (-1)) hx hb dX12_heap_49 (by decide) ?_
  have hPc := hP.sub (ws' := (wd_846 rm km f1346)) [4] rfl
  have hDc := hD.sub (ws' := (wd_846 rm km f1346)) [4] (by decide) rfl
  have hKc := hK.sub (tys' := [((km 3), .int)]) [3] rfl
  have hFc := va_free (wc := (wd_846 rm km f1346)) hD hS hA [4] rfl
  refine va_callv (va_runS (As := [.ref (rm 23), .int (-3), .int 1, .int (-1)]) (rest := []) ⟨hx, hb, hml, hown, hts⟩ (c85_X12_holds l dC dI rm km f1346 H.size) (va_cwS 4 hts (gS q_389 q_390 q_372 q_385) rfl rfl rfl mds_yX12_holds ⟨Nat.le_of_ble_eq_true rfl, Nat.le_of_ble_eq_true rfl⟩) ⟨fun a U g mk q => by obtain ⟨q0, q1, qP, qK, qD⟩ := q; exact ⟨q0, q1, qP, va_K.moved (u := U) (U := U.calling g mk a) (Vm.Alike.refl U.vm) qK, qD⟩, fun U hU hW => ⟨rfl, by rw [hU], by rw [hU]; exact hPc, va_K.moved hW.alike hKc, hDc.weaken (fun _ _ _ _ => trivial)⟩⟩ rfl rfl hl.1 rfl (lv_room (Nat.le_of_ble_eq_true rfl)) dX12_heap_50 ⟨Nat.le_of_ble_eq_true rfl, Nat.le_of_ble_eq_true rfl⟩) hS (fun q _ h => hFc q h) hFc (fun u t H1 locs ht hvm hw hB hz1 hk1 hS => ?_)
  obtain ⟨f1348, hP1, hK1, hD1⟩ := hB
  rw [ht] at hP1
  have hK1 := va_K.moved hvm.symm hK1
  obtain ⟨hP, hD⟩ := va_join (wr := (wd_777 rm km)) (w1 := (wd_848 rm km f1348)) hP hD [4] [0, 1, 2, 3] rfl rfl (by decide) (by decide) hk1 hFc hP1 hD1
  have hK := (hK.sub (tys' := [((km 0), .int), ((km 1), .int), ((km 2), .int)]) [0, 1, 2] rfl).app hK1
  have hK : va_K (dC, dI) vwCl [((km 0), .int), ((km 1), .int), ((km 2), .int), ((km 3), .int)] s := hK
  generalize H1 = H at hP hS ⊢
  have hP : va_P (dC, dI) vwCl (wd_849 rm km f1348) H := hP
  have hD : va_D A (wd_849 rm km f1348) := hD
  refine lv_iinc (v := (-2)) (lv' := [(1, .int (-2)), (0, .ref (rm 0))]) hx hb dX12_heap_53 hl (k := 0) rfl (by decide) (by decide) rfl (fun ls hl => ?_)
  refine lv_goto (tgt := 39) hx hb dX12_heap_56 (by decide) ?_
  refine lv_iload_n hx hb dX12_heap_39 rfl (lv_at hl 0 rfl) ?_
  refine lv_if_ge (tgt := 59) hx hb dX12_heap_40 (by decide) (fun c_0 => absurd c_0 (by decide)) (fun c_0 => ?_)
  refine lv_aload_n hx hb dX12_heap_43 rfl (lv_at hl 1 rfl) ?_
  refine va_get (D := (dC, dI)) (ci := 12) (v := .ref (rm 23)) (C := RX12) (T := TX12) (N := 84) hx hb hts i_X12 hown hK hP 0 rfl rfl 36 (by decide) (hts _ q_211) (fun _ h9 => h9) rfl dX12_heap_44 ?_
  refine lv_iload_n hx hb dX12_heap_47 rfl (lv_at hl 0 rfl) ?_
  refine lv_iconst (v := 1) hx hb dX12_heap_48 (by decide) ?_
  refine lv_iconst (v := (-1)) hx hb dX12_heap_49 (by decide) ?_
  have hPc := hP.sub (ws' := (wd_848 rm km f1348)) [4] rfl
  have hDc := hD.sub (ws' := (wd_848 rm km f1348)) [4] (by decide) rfl
  have hKc := hK.sub (tys' := [((km 3), .int)]) [3] rfl
  have hFc := va_free (wc := (wd_848 rm km f1348)) hD hS hA [4] rfl
  refine va_callv (va_runS (As := [.ref (rm 23), .int (-2), .int 1, .int (-1)]) (rest := []) ⟨hx, hb, hml, hown, hts⟩ (c87_X12_holds l dC dI rm km f1348 H.size) (va_cwS 4 hts (gS q_389 q_390 q_372 q_385) rfl rfl rfl mds_yX12_holds ⟨Nat.le_of_ble_eq_true rfl, Nat.le_of_ble_eq_true rfl⟩) ⟨fun a U g mk q => by obtain ⟨q0, q1, qP, qK, qD⟩ := q; exact ⟨q0, q1, qP, va_K.moved (u := U) (U := U.calling g mk a) (Vm.Alike.refl U.vm) qK, qD⟩, fun U hU hW => ⟨rfl, by rw [hU], by rw [hU]; exact hPc, va_K.moved hW.alike hKc, hDc.weaken (fun _ _ _ _ => trivial)⟩⟩ rfl rfl hl.1 rfl (lv_room (Nat.le_of_ble_eq_true rfl)) dX12_heap_50 ⟨Nat.le_of_ble_eq_true rfl, Nat.le_of_ble_eq_true rfl⟩) hS (fun q _ h => hFc q h) hFc (fun u t H1 locs ht hvm hw hB hz1 hk1 hS => ?_)
  obtain ⟨f1350, hP1, hK1, hD1⟩ := hB
  rw [ht] at hP1
  have hK1 := va_K.moved hvm.symm hK1
  obtain ⟨hP, hD⟩ := va_join (wr := (wd_777 rm km)) (w1 := (wd_850 rm km f1350)) hP hD [4] [0, 1, 2, 3] rfl rfl (by decide) (by decide) hk1 hFc hP1 hD1
  have hK := (hK.sub (tys' := [((km 0), .int), ((km 1), .int), ((km 2), .int)]) [0, 1, 2] rfl).app hK1
  have hK : va_K (dC, dI) vwCl [((km 0), .int), ((km 1), .int), ((km 2), .int), ((km 3), .int)] s := hK
  generalize H1 = H at hP hS ⊢
  have hP : va_P (dC, dI) vwCl (wd_851 rm km f1350) H := hP
  have hD : va_D A (wd_851 rm km f1350) := hD
  refine lv_iinc (v := (-1)) (lv' := [(1, .int (-1)), (0, .ref (rm 0))]) hx hb dX12_heap_53 hl (k := 0) rfl (by decide) (by decide) rfl (fun ls hl => ?_)
  refine lv_goto (tgt := 39) hx hb dX12_heap_56 (by decide) ?_
  refine lv_iload_n hx hb dX12_heap_39 rfl (lv_at hl 0 rfl) ?_
  refine lv_if_ge (tgt := 59) hx hb dX12_heap_40 (by decide) (fun c_0 => absurd c_0 (by decide)) (fun c_0 => ?_)
  refine lv_aload_n hx hb dX12_heap_43 rfl (lv_at hl 1 rfl) ?_
  refine va_get (D := (dC, dI)) (ci := 12) (v := .ref (rm 23)) (C := RX12) (T := TX12) (N := 84) hx hb hts i_X12 hown hK hP 0 rfl rfl 36 (by decide) (hts _ q_211) (fun _ h9 => h9) rfl dX12_heap_44 ?_
  refine lv_iload_n hx hb dX12_heap_47 rfl (lv_at hl 0 rfl) ?_
  refine lv_iconst (v := 1) hx hb dX12_heap_48 (by decide) ?_
  refine lv_iconst (v := (-1)) hx hb dX12_heap_49 (by decide) ?_
  have hPc := hP.sub (ws' := (wd_850 rm km f1350)) [4] rfl
  have hDc := hD.sub (ws' := (wd_850 rm km f1350)) [4] (by decide) rfl
  have hKc := hK.sub (tys' := [((km 3), .int)]) [3] rfl
  have hFc := va_free (wc := (wd_850 rm km f1350)) hD hS hA [4] rfl
  refine va_callv (va_runS (As := [.ref (rm 23), .int (-1), .int 1, .int (-1)]) (rest := []) ⟨hx, hb, hml, hown, hts⟩ (c89_X12_holds l dC dI rm km f1350 H.size) (va_cwS 4 hts (gS q_389 q_390 q_372 q_385) rfl rfl rfl mds_yX12_holds ⟨Nat.le_of_ble_eq_true rfl, Nat.le_of_ble_eq_true rfl⟩) ⟨fun a U g mk q => by obtain ⟨q0, q1, qP, qK, qD⟩ := q; exact ⟨q0, q1, qP, va_K.moved (u := U) (U := U.calling g mk a) (Vm.Alike.refl U.vm) qK, qD⟩, fun U hU hW => ⟨rfl, by rw [hU], by rw [hU]; exact hPc, va_K.moved hW.alike hKc, hDc.weaken (fun _ _ _ _ => trivial)⟩⟩ rfl rfl hl.1 rfl (lv_room (Nat.le_of_ble_eq_true rfl)) dX12_heap_50 ⟨Nat.le_of_ble_eq_true rfl, Nat.le_of_ble_eq_true rfl⟩) hS (fun q _ h => hFc q h) hFc (fun u t H1 locs ht hvm hw hB hz1 hk1 hS => ?_)
  obtain ⟨f1352, hP1, hK1, hD1⟩ := hB
  rw [ht] at hP1
  have hK1 := va_K.moved hvm.symm hK1
  obtain ⟨hP, hD⟩ := va_join (wr := (wd_777 rm km)) (w1 := (wd_852 rm km f1352)) hP hD [4] [0, 1, 2, 3] rfl rfl (by decide) (by decide) hk1 hFc hP1 hD1
  have hK := (hK.sub (tys' := [((km 0), .int), ((km 1), .int), ((km 2), .int)]) [0, 1, 2] rfl).app hK1
  have hK : va_K (dC, dI) vwCl [((km 0), .int), ((km 1), .int), ((km 2), .int), ((km 3), .int)] s := hK
  generalize H1 = H at hP hS ⊢
  have hP : va_P (dC, dI) vwCl (wd_853 rm km f1352) H := hP
  have hD : va_D A (wd_853 rm km f1352) := hD
  refine lv_iinc (v := 0) (lv' := [(1, .int 0), (0, .ref (rm 0))]) hx hb dX12_heap_53 hl (k := 0) rfl (by decide) (by decide) rfl (fun ls hl => ?_)
  refine lv_goto (tgt := 39) hx hb dX12_heap_56 (by decide) ?_
  refine lv_iload_n hx hb dX12_heap_39 rfl (lv_at hl 0 rfl) ?_
  refine lv_if_ge (tgt := 59) hx hb dX12_heap_40 (by decide) (fun c_0 => ?_) (fun c_0 => absurd c_0 (by decide))
  refine lv_aload_n hx hb dX12_heap_59 rfl (lv_at hl 1 rfl) ?_
  refine lv_aload_n hx hb dX12_heap_60 rfl (lv_at hl 1 rfl) ?_
  refine va_get (D := (dC, dI)) (ci := 12) (v := .ref (rm 3)) (C := RX12) (T := TX12) (N := 84) hx hb hts i_X12 hown hK hP 0 rfl rfl 10 (by decide) (hts _ q_191) (fun _ h9 => h9) rfl dX12_heap_61 ?_
  have hPc := hP.sub (ws' := (wd_853 rm km f1352)) [0, 1, 2, 3, 4] rfl
  have hDc := hD.sub (ws' := (wd_853 rm km f1352)) [0, 1, 2, 3, 4] (by decide) rfl
  have hKc := hK.sub (tys' := [((km 0), .int), ((km 1), .int), ((km 2), .int), ((km 3), .int)]) [0, 1, 2, 3] rfl
  have hFc := va_free (wc := (wd_853 rm km f1352)) hD hS hA [0, 1, 2, 3, 4] rfl
  refine va_callv (va_runV (As := [.ref (rm 3)]) (rest := []) ⟨hx, hb, hml, hown, hts⟩ (c95_X12_asks l dC dI rm km f1352 H.size) (cwV 1 hts (gV q_411 q_412 q_413 q_372 q_391) rfl rfl rfl mdv_yX12_asks ⟨Nat.le_of_ble_eq_true rfl, Nat.le_of_ble_eq_true rfl⟩) ⟨fun a U g mk q => by obtain ⟨q0, q1, qP, qK, qD⟩ := q; exact ⟨q0, q1, qP, va_K.moved (u := U) (U := U.calling g mk a) (Vm.Alike.refl U.vm) qK, qD⟩, va_recv hKc hPc (ci := 12) (q0 := 0) rfl rfl, fun U hU hW => ⟨rfl, by rw [hU], by rw [hU]; exact hPc, va_K.moved hW.alike hKc, hDc.weaken (fun _ _ _ _ => trivial)⟩⟩ rfl rfl hl.1 rfl (lv_room (Nat.le_of_ble_eq_true rfl)) dX12_heap_64 ⟨Nat.le_of_ble_eq_true rfl, Nat.le_of_ble_eq_true rfl⟩) hS (fun q _ h => hFc q h) hFc (fun u t H1 locs ht hvm hw hB hz1 hk1 hS => ?_)
  obtain ⟨hP1, hK1, hD1⟩ := hB
  rw [ht] at hP1
  have hK1 := va_K.moved hvm.symm hK1
  obtain ⟨hP, hD⟩ := va_join (wr := []) (w1 := (wd_854 rm km f1352)) hP hD [0, 1, 2, 3, 4] [] rfl rfl (by decide) (by decide) hk1 hFc hP1 hD1
  generalize H1 = H at hP hS ⊢
  have hP : va_P (dC, dI) vwCl (wd_854 rm km f1352) H := hP
  have hD : va_D A (wd_854 rm km f1352) := hD
  refine lv_aload_n hx hb dX12_heap_67 rfl (lv_at hl 1 rfl) ?_
  refine lv_aload_n hx hb dX12_heap_68 rfl (lv_at hl 1 rfl) ?_
  refine lv_bipush (v := 16) hx hb dX12_heap_69 (by decide) ?_
  refine lv_sipush (v := 160) hx hb dX12_heap_71 (by decide) ?_
  have hPc := hP.sub (ws' := (wd_854 rm km f1352)) [0, 1, 2, 3, 4] rfl
  have hDc := hD.sub (ws' := (wd_854 rm km f1352)) [0, 1, 2, 3, 4] (by decide) rfl
  have hKc := hK.sub (tys' := [((km 0), .int), ((km 1), .int), ((km 2), .int), ((km 3), .int)]) [0, 1, 2, 3] rfl
  have hFc := va_free (wc := (wd_854 rm km f1352)) hD hS hA [0, 1, 2, 3, 4] rfl
  refine va_calli (va_runV (As := [.int 16, .int 160]) (rest := [.ref (rm 0)]) ⟨hx, hb, hml, hown, hts⟩ (c96_X12_number l dC dI rm km f1352 H.size) (cwV 2 hts (gV q_415 q_416 q_417 q_372 q_414) rfl rfl rfl mdv_yX12_number ⟨Nat.le_of_ble_eq_true rfl, Nat.le_of_ble_eq_true rfl⟩) ⟨fun a U g mk q => by obtain ⟨q0, q1, qP, qK, qD⟩ := q; exact ⟨q0, q1, qP, va_K.moved (u := U) (U := U.calling g mk a) (Vm.Alike.refl U.vm) qK, qD⟩, va_recv hKc hPc (ci := 12) (q0 := 0) rfl rfl, fun U hU hW => ⟨rfl, by rw [hU], by rw [hU]; exact hPc, va_K.moved hW.alike hKc, hDc.weaken (fun _ _ _ _ => trivial)⟩⟩ rfl rfl hl.1 rfl (lv_room (Nat.le_of_ble_eq_true rfl)) dX12_heap_74 ⟨Nat.le_of_ble_eq_true rfl, Nat.le_of_ble_eq_true rfl⟩) hS (fun q _ h => hFc q h) hFc (fun r_1354 u t H1 locs ht hvm hw hB hz1 hk1 hS => ?_)
  obtain ⟨hP1, hK1, hD1⟩ := hB
  rw [ht] at hP1
  have hK1 := va_K.moved hvm.symm hK1
  obtain ⟨hP, hD⟩ := va_join (wr := []) (w1 := (wd_854 rm km f1352)) hP hD [0, 1, 2, 3, 4] [] rfl rfl (by decide) (by decide) hk1 hFc hP1 hD1
  generalize H1 = H at hP hS ⊢
  have hP : va_P (dC, dI) vwCl (wd_854 rm km f1352) H := hP
  have hD : va_D A (wd_854 rm km f1352) := hD
  obtain rfl : r_1354 = 0 := hw
  refine va_put (D := (dC, dI)) (ci := 12) (v := .int 0) (ty := tyX12 26) (C := RX12) (T := TX12) (N := 84) hx hb hts i_X12 tyX12 tyX12_ok nmX12 hown hK hP hD hS 0 rfl rfl 26 (by decide) (hts _ q_418) (fun _ h9 => h9) rfl (tyX12_ok 26 (by decide)) rfl rfl (Nat.le_of_ble_eq_true rfl) dX12_heap_77 (fun H locs hP hD hS => ?_)
  have hP : va_P (dC, dI) vwCl (wd_854 rm km f1352) H := hP
  have hD : va_D A (wd_854 rm km f1352) := hD
  refine lv_aload_n hx hb dX12_heap_80 rfl (lv_at hl 1 rfl) ?_
  refine lv_bipush (v := 59) hx hb dX12_heap_81 (by decide) ?_
  have hPc := hP.sub (ws' := (wd_854 rm km f1352)) [0, 1, 2, 3, 4] rfl
  have hDc := hD.sub (ws' := (wd_854 rm km f1352)) [0, 1, 2, 3, 4] (by decide) rfl
  have hKc := hK.sub (tys' := [((km 0), .int), ((km 1), .int), ((km 2), .int), ((km 3), .int)]) [0, 1, 2, 3] rfl
  have hFc := va_free (wc := (wd_854 rm km f1352)) hD hS hA [0, 1, 2, 3, 4] rfl
  refine va_callv (va_runV (As := [.int 59]) (rest := []) ⟨hx, hb, hml, hown, hts⟩ (c97_X12_asksSign l dC dI rm km f1352 H.size) (cwV 1 hts (gV q_420 q_421 q_422 q_372 q_419) rfl rfl rfl mdv_yX12_asksSign ⟨Nat.le_of_ble_eq_true rfl, Nat.le_of_ble_eq_true rfl⟩) ⟨fun a U g mk q => by obtain ⟨q0, q1, qP, qK, qD⟩ := q; exact ⟨q0, q1, qP, va_K.moved (u := U) (U := U.calling g mk a) (Vm.Alike.refl U.vm) qK, qD⟩, va_recv hKc hPc (ci := 12) (q0 := 0) rfl rfl, fun U hU hW => ⟨rfl, by rw [hU], by rw [hU]; exact hPc, va_K.moved hW.alike hKc, hDc.weaken (fun _ _ _ _ => trivial)⟩⟩ rfl rfl hl.1 rfl (lv_room (Nat.le_of_ble_eq_true rfl)) dX12_heap_83 ⟨Nat.le_of_ble_eq_true rfl, Nat.le_of_ble_eq_true rfl⟩) hS (fun q _ h => hFc q h) hFc (fun u t H1 locs ht hvm hw hB hz1 hk1 hS => ?_)
  obtain ⟨hP1, hK1, hD1⟩ := hB
  rw [ht] at hP1
  have hK1 := va_K.moved hvm.symm hK1
  obtain ⟨hP, hD⟩ := va_join (wr := []) (w1 := (wd_854 rm km f1352)) hP hD [0, 1, 2, 3, 4] [] rfl rfl (by decide) (by decide) hk1 hFc hP1 hD1
  generalize H1 = H at hP hS ⊢
  have hP : va_P (dC, dI) vwCl (wd_854 rm km f1352) H := hP
  have hD : va_D A (wd_854 rm km f1352) := hD
  refine lv_aload_n hx hb dX12_heap_86 rfl (lv_at hl 1 rfl) ?_
  refine va_get (D := (dC, dI)) (ci := 12) (v := .ref (rm 23)) (C := RX12) (T := TX12) (N := 84) hx hb hts i_X12 hown hK hP 0 rfl rfl 36 (by decide) (hts _ q_211) (fun _ h9 => h9) rfl dX12_heap_87 ?_
  refine lv_iconst (v := 1) hx hb dX12_heap_90 (by decide) ?_
  refine lv_aload_n hx hb dX12_heap_91 rfl (lv_at hl 1 rfl) ?_
  refine va_get (D := (dC, dI)) (ci := 12) (v := .int 0) (C := RX12) (T := TX12) (N := 84) hx hb hts i_X12 hown hK hP 0 rfl rfl 26 (by decide) (hts _ q_418) (fun _ h9 => h9) rfl dX12_heap_92 ?_
  refine va_iast hx hb hK hP hD hS 4 3 rfl rfl (vpi (by decide)) dX12_heap_95 (fun H locs hP hD hS => ?_)
  obtain ⟨f1356, hP, hD⟩ : ∃ f : Nat → Int32, va_P (dC, dI) vwCl (wd_826 rm km f) H ∧ va_D A (wd_826 rm km f) := ⟨_, hP, hD⟩
  have hP : va_P (dC, dI) vwCl (wd_855 rm km f1356) H := hP
  have hD : va_D A (wd_855 rm km f1356) := hD
  refine lv_aload_n hx hb dX12_heap_96 rfl (lv_at hl 1 rfl) ?_
  refine lv_iconst (v := 1) hx hb dX12_heap_97 (by decide) ?_
  refine va_put (D := (dC, dI)) (ci := 12) (v := .int 1) (ty := tyX12 39) (C := RX12) (T := TX12) (N := 84) hx hb hts i_X12 tyX12 tyX12_ok nmX12 hown hK hP hD hS 0 rfl rfl 39 (by decide) (hts _ q_423) (fun _ h9 => h9) rfl (tyX12_ok 39 (by decide)) rfl rfl (Nat.le_of_ble_eq_true rfl) dX12_heap_98 (fun H locs hP hD hS => ?_)
  have hP : va_P (dC, dI) vwCl (wd_856 rm km f1356) H := hP
  have hD : va_D A (wd_856 rm km f1356) := hD
  refine lv_aload_n hx hb dX12_heap_101 rfl (lv_at hl 1 rfl) ?_
  refine va_get (D := (dC, dI)) (ci := 12) (v := .int 1) (C := RX12) (T := TX12) (N := 84) hx hb hts i_X12 hown hK hP 0 rfl rfl 5 (by decide) (hts _ q_378) (fun _ h9 => h9) rfl dX12_heap_102 ?_
  refine lv_if_ne (tgt := 123) hx hb dX12_heap_105 (by decide) (fun c_0 => ?_) (fun c_0 => absurd c_0 (by decide))
  refine lv_aload_n hx hb dX12_heap_123 rfl (lv_at hl 1 rfl) ?_
  refine lv_aload_n hx hb dX12_heap_124 rfl (lv_at hl 1 rfl) ?_
  refine va_get (D := (dC, dI)) (ci := 12) (v := .int 1) (C := RX12) (T := TX12) (N := 84) hx hb hts i_X12 hown hK hP 0 rfl rfl 5 (by decide) (hts _ q_378) (fun _ h9 => h9) rfl dX12_heap_125 ?_
  refine va_put (D := (dC, dI)) (ci := 12) (v := .int 1) (ty := tyX12 7) (C := RX12) (T := TX12) (N := 84) hx hb hts i_X12 tyX12 tyX12_ok nmX12 hown hK hP hD hS 0 rfl rfl 7 (by decide) (hts _ q_424) (fun _ h9 => h9) rfl (tyX12_ok 7 (by decide)) rfl rfl (Nat.le_of_ble_eq_true rfl) dX12_heap_128 (fun H locs hP hD hS => ?_)
  have hP : va_P (dC, dI) vwCl (wd_857 rm km f1356) H := hP
  have hD : va_D A (wd_857 rm km f1356) := hD
  refine lv_aload_n hx hb dX12_heap_131 rfl (lv_at hl 1 rfl) ?_
  refine lv_aload_n hx hb dX12_heap_132 rfl (lv_at hl 1 rfl) ?_
  refine va_get (D := (dC, dI)) (ci := 12) (v := .int 0) (C := RX12) (T := TX12) (N := 84) hx hb hts i_X12 hown hK hP 0 rfl rfl 6 (by decide) (hts _ q_379) (fun _ h9 => h9) rfl dX12_heap_133 ?_
  refine va_put (D := (dC, dI)) (ci := 12) (v := .int 0) (ty := tyX12 8) (C := RX12) (T := TX12) (N := 84) hx hb hts i_X12 tyX12 tyX12_ok nmX12 hown hK hP hD hS 0 rfl rfl 8 (by decide) (hts _ q_188) (fun _ h9 => h9) rfl (tyX12_ok 8 (by decide)) rfl rfl (Nat.le_of_ble_eq_true rfl) dX12_heap_136 (fun H locs hP hD hS => ?_)
  have hP : va_P (dC, dI) vwCl (wd_858 rm km f1356) H := hP
  have hD : va_D A (wd_858 rm km f1356) := hD
  refine lv_aload_n hx hb dX12_heap_139 rfl (lv_at hl 1 rfl) ?_
  refine va_get (D := (dC, dI)) (ci := 12) (v := .int 1) (C := RX12) (T := TX12) (N := 84) hx hb hts i_X12 hown hK hP 0 rfl rfl 5 (by decide) (hts _ q_378) (fun _ h9 => h9) rfl dX12_heap_140 ?_
  refine lv_if_eq (tgt := 152) hx hb dX12_heap_143 (by decide) (fun c_0 => absurd c_0 (by decide)) (fun c_0 => ?_)
  refine lv_aload_n hx hb dX12_heap_146 rfl (lv_at hl 1 rfl) ?_
  refine lv_iconst (v := 1) hx hb dX12_heap_147 (by decide) ?_
  have hPc := hP.sub (ws' := (wd_858 rm km f1356)) [0, 1, 2, 3, 4] rfl
  have hDc := hD.sub (ws' := (wd_858 rm km f1356)) [0, 1, 2, 3, 4] (by decide) rfl
  have hKc := hK.sub (tys' := [((km 0), .int), ((km 1), .int), ((km 2), .int), ((km 3), .int)]) [0, 1, 2, 3] rfl
  have hFc := va_free (wc := (wd_858 rm km f1356)) hD hS hA [0, 1, 2, 3, 4] rfl
  refine va_calli (va_runV (As := [.int 1]) (rest := []) ⟨hx, hb, hml, hown, hts⟩ (c98_X12_refuses l dC dI rm km f1356 H.size) (cwV 1 hts (gV q_426 q_427 q_428 q_372 q_425) rfl rfl rfl mdv_yX12_refuses ⟨Nat.le_of_ble_eq_true rfl, Nat.le_of_ble_eq_true rfl⟩) ⟨fun a U g mk q => by obtain ⟨q0, q1, qP, qK, qD⟩ := q; exact ⟨q0, q1, qP, va_K.moved (u := U) (U := U.calling g mk a) (Vm.Alike.refl U.vm) qK, qD⟩, va_recv hKc hPc (ci := 12) (q0 := 0) rfl rfl, fun U hU hW => ⟨rfl, by rw [hU], by rw [hU]; exact hPc, va_K.moved hW.alike hKc, hDc.weaken (fun _ _ _ _ => trivial)⟩⟩ rfl rfl hl.1 rfl (lv_room (Nat.le_of_ble_eq_true rfl)) dX12_heap_148 ⟨Nat.le_of_ble_eq_true rfl, Nat.le_of_ble_eq_true rfl⟩) hS (fun q _ h => hFc q h) hFc (fun r_1357 u t H1 locs ht hvm hw hB hz1 hk1 hS => ?_)
  obtain ⟨f1358, hP1, hK1, hD1⟩ := hB
  rw [ht] at hP1
  have hK1 := va_K.moved hvm.symm hK1
  obtain ⟨hP, hD⟩ := va_join (wr := []) (w1 := (wd_859 rm km f1358 f1356)) hP hD [0, 1, 2, 3, 4] [] rfl rfl (by decide) (by decide) hk1 hFc hP1 hD1
  have hK := (hK.sub (tys' := []) [] rfl).app hK1
  have hK : va_K (dC, dI) vwCl [((km 0), .int), ((km 1), .int), ((km 2), .int), ((km 3), .int)] s := hK
  generalize H1 = H at hP hS ⊢
  have hP : va_P (dC, dI) vwCl (wd_859 rm km f1358 f1356) H := hP
  have hD : va_D A (wd_859 rm km f1358 f1356) := hD
  obtain rfl : r_1357 = (-1) := hw
  refine W.widen (k := 0) (n := 0) (Nat.le_of_ble_eq_true rfl) (Nat.le_of_ble_eq_true rfl) ?_
  exact W.iret (v := (-1)) hx hb hr (fun t ht hW => ⟨⟨(-1), (), rfl, rfl, trivial⟩, hS.F ht⟩) hS.2.2 dX12_heap_151
