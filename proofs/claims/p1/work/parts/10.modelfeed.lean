set_option maxHeartbeats 4000000 in
set_option maxRecDepth 100000 in
theorem c_isInN (l : Launch) (dC : Nat → ClassId) (dI : Nat → Nat → Nat) (v0 : Int64) (v1 : Int64) (v2 : Int64) (sz : Nat) (hno : ¬ (v1 ≤ v0 ∧ v0 ≤ v2)) : Met l yX12_isIn (Cond.code yX12_isIn cX12_isIn 6 (some .boolean) :: wA) ({ frames := 0, cells := 0, slots := 0, locals := 0 }) (va_Pc [.long v0, .long v1, .long v2] (fun U => U.heap.size = sz ∧ va_P (dC, dI) vwCl [] U.heap ∧ va_K (dC, dI) vwCl [] U ∧ va_D (fun _ => True) [])) (va_Qi (fun (r : Int32) (_ : Unit) => r = 0) (fun _ t => va_P (dC, dI) vwCl [] t.heap ∧ va_K (dC, dI) vwCl [] t ∧ va_D (va_A [] sz) []) (va_A [] sz)) 0 0 (va_A [] sz) := by
  refine Met.ofW (cc := cX12_isIn) (maxL := 6) (ret := (some .boolean)) (by decide) rfl ?_
  intro p e s m args below meth c s₁ B hml hv
  obtain ⟨rfl, hsz, hP, hK, hD0⟩ := hv
  have hx := B.exec
  have hb := B.bytes
  have hr := B.returns
  have hts : ∀ w ∈ wA, w.before [.long v0, .long v1, .long v2].toArray s = true := fun w h => atoms_spec (ws := Cond.code yX12_isIn cX12_isIn 6 (some .boolean) :: wA) B.pre w (List.mem_cons_of_mem _ h)
  have hown : s.vm.findClass RX12 = some m.cls := findClass_of_methodNamed B.named
  have hlocks := B.notSynchronized
  subst hsz
  have hD := hD0.self (sz := s.heap.size)
  generalize hAe : va_A [] s.heap.size = A at hD ⊢
  have hA : ∀ q : Nat, s.heap.size ≤ q → A q := fun q h => by rw [← hAe]; exact Or.inr h
  have hS : va_S A s.heap s.heap [] := va_S.rf
  have hl := lv_entry ([.long v0, .long v1, .long v2]) (n := 6) (Nat.le_of_ble_eq_true rfl)
  rw [lg_entry_eq]
  generalize (lg_sl ([.long v0, .long v1, .long v2]) ++ List.replicate (6 - (lg_sl ([.long v0, .long v1, .long v2])).length) Slot.unset).toArray = ls at hl ⊢
  have hl : lv_has ls 6 [(0, .long v0), (2, .long v1), (4, .long v2)] := hl
  refine lv_lload_n hx hb dX12_isIn_0 rfl (lv_at hl 0 rfl) ?_
  refine lv_lload_n hx hb dX12_isIn_1 rfl (lv_at hl 1 rfl) ?_
  refine W.lcmp hx hb dX12_isIn_2 ?_
  refine lv_if_lt (tgt := 17) hx hb dX12_isIn_3 (by decide) (fun c_865 => ?_) (fun c_865 => ?_)
  · refine lv_iconst (v := 0) hx hb dX12_isIn_17 (by decide) ?_
    refine W.widen (k := 0) (n := 0) (Nat.le_of_ble_eq_true rfl) (Nat.le_of_ble_eq_true rfl) ?_
    have hP9 := hP.sub (ws' := []) [] rfl
    have hD9 := hD.sub (ws' := []) [] (by decide) rfl
    have hK9 := hK.sub (tys' := []) [] rfl
    exact W.zret (v := 0) hx hb hr rfl (fun t ht hW => ⟨⟨0, (), rfl, rfl, by rw [ht]; exact hP9, va_K.moved hW.alike hK9, hD9⟩, hS.F ht⟩) hS.2.2 dX12_isIn_18
  · refine lv_lload_n hx hb dX12_isIn_6 rfl (lv_at hl 0 rfl) ?_
    refine lv_lload hx hb dX12_isIn_7 (lv_at hl 2 rfl) ?_
    refine W.lcmp hx hb dX12_isIn_9 ?_
    refine lv_if_gt (tgt := 17) hx hb dX12_isIn_10 (by decide) (fun c_866 => ?_) (fun c_866 => ?_)
    · refine lv_iconst (v := 0) hx hb dX12_isIn_17 (by decide) ?_
      refine W.widen (k := 0) (n := 0) (Nat.le_of_ble_eq_true rfl) (Nat.le_of_ble_eq_true rfl) ?_
      have hP9 := hP.sub (ws' := []) [] rfl
      have hD9 := hD.sub (ws' := []) [] (by decide) rfl
      have hK9 := hK.sub (tys' := []) [] rfl
      exact W.zret (v := 0) hx hb hr rfl (fun t ht hW => ⟨⟨0, (), rfl, rfl, by rw [ht]; exact hP9, va_K.moved hW.alike hK9, hD9⟩, hS.F ht⟩) hS.2.2 dX12_isIn_18
    · refine lv_iconst (v := 1) hx hb dX12_isIn_13 (by decide) ?_
      refine lv_goto (tgt := 18) hx hb dX12_isIn_14 (by decide) ?_
      refine W.widen (k := 0) (n := 0) (Nat.le_of_ble_eq_true rfl) (Nat.le_of_ble_eq_true rfl) ?_
      have hP9 := hP.sub (ws' := []) [] rfl
      have hD9 := hD.sub (ws' := []) [] (by decide) rfl
      have hK9 := hK.sub (tys' := []) [] rfl
      exact W.zret (v := 1) hx hb hr rfl (fun t ht hW => ⟨⟨1, (), rfl, (absurd (And.intro (Int64.not_lt.mp (fun q => c_865 ((lg_cmp_lt _ _).mpr q))) (Int64.not_lt.mp (fun q => c_866 ((lg_cmp_gt _ _).mpr q)))) hno), by rw [ht]; exact hP9, va_K.moved hW.alike hK9, hD9⟩, hS.F ht⟩) hS.2.2 dX12_isIn_18
def wd_658 (rm : Nat → Nat) (km : Nat → ClassId) (f : Nat → Int32) : va_W := [((rm 0), .inr (12, [.ref (rm 1), .int 0, .int 0, .int 0, .int 0, .int 0, .int 0, .int 0, .int (-1), .ref (rm 2), .ref (rm 3), .ref (rm 4), .ref (rm 5), .ref (rm 6), .ref (rm 7), .ref (rm 8), .ref (rm 9), .ref (rm 10), .ref (rm 11), .ref (rm 12), .ref (rm 13), .ref (rm 14), .ref (rm 15), .ref (rm 16), .int 0, .int 0, .int 0, .int 0, .int 0, .ref (rm 17), .ref (rm 18), .ref (rm 19), .ref (rm 20), .ref (rm 21), .int 0, .ref (rm 22), .ref (rm 23), .ref (rm 24), .int 0, .int 0, .int 0, .ref (rm 25), .ref (rm 26), .ref (rm 27), .int 0, .ref (rm 28), .ref (rm 29), .int 0, .ref (rm 30), .ref (rm 31), .int 0, .ref (rm 32), .ref (rm 33), .int 0, .ref (rm 34), .ref (rm 35), .int 0, .int 0, .int 0, .ref (rm 36), .ref (rm 37), .int 0, .ref (rm 38), .ref (rm 39), .int 0, .ref (rm 40), .ref (rm 41), .ref (rm 42), .int 0, .int 0, .long 1, .ref (rm 43), .int 0, .int 0, .int (-1), .int 0, .int 0, .int 0, .int 0, .ref (rm 44), .ref (rm 45), .ref (rm 46), .ref (rm 47), .int 0])), ((rm 1), .inl ((km 0), 1600, .inl f)), ((rm 2), .inl ((km 1), 7, .inl (fun _ => 0))), ((rm 22), .inl ((km 2), 422, .inl (fun _ => 0))), ((rm 23), .inl ((km 3), 422, .inl (fun _ => 0)))]
def wd_659 (rm : Nat → Nat) (km : Nat → ClassId) (f873 : Nat → Int32) : va_W := [((rm 0), .inr (12, [.ref (rm 1), .int 0, .int 0, .int 0, .int 0, .int 0, .int 0, .int 0, .int (-1), .ref (rm 2), .ref (rm 3), .ref (rm 4), .ref (rm 5), .ref (rm 6), .ref (rm 7), .ref (rm 8), .ref (rm 9), .ref (rm 10), .ref (rm 11), .ref (rm 12), .ref (rm 13), .ref (rm 14), .ref (rm 15), .ref (rm 16), .int 0, .int 0, .int 0, .int 0, .int 0, .ref (rm 17), .ref (rm 18), .ref (rm 19), .ref (rm 20), .ref (rm 21), .int 0, .ref (rm 22), .ref (rm 23), .ref (rm 24), .int 0, .int 0, .int 0, .ref (rm 25), .ref (rm 26), .ref (rm 27), .int 0, .ref (rm 28), .ref (rm 29), .int 0, .ref (rm 30), .ref (rm 31), .int 0, .ref (rm 32), .ref (rm 33), .int 0, .ref (rm 34), .ref (rm 35), .int 0, .int 0, .int 0, .ref (rm 36), .ref (rm 37), .int 0, .ref (rm 38), .ref (rm 39), .int 0, .ref (rm 40), .ref (rm 41), .ref (rm 42), .int 0, .int 0, .long 1, .ref (rm 43), .int 0, .int 0, .int (-1), .int 0, .int 0, .int 0, .int 0, .ref (rm 44), .ref (rm 45), .ref (rm 46), .ref (rm 47), .int 0])), ((rm 1), .inl ((km 0), 1600, .inl f873)), ((rm 2), .inl ((km 1), 7, .inl (fun _ => 0))), ((rm 22), .inl ((km 2), 422, .inl (fun _ => 0))), ((rm 23), .inl ((km 3), 422, .inl (fun _ => 0)))]
def wd_660 (rm : Nat → Nat) (km : Nat → ClassId) (f873 : Nat → Int32) : va_W := [((rm 0), .inr (12, [.ref (rm 1), .int 1, .int 0, .int 0, .int 0, .int 0, .int 0, .int 0, .int (-1), .ref (rm 2), .ref (rm 3), .ref (rm 4), .ref (rm 5), .ref (rm 6), .ref (rm 7), .ref (rm 8), .ref (rm 9), .ref (rm 10), .ref (rm 11), .ref (rm 12), .ref (rm 13), .ref (rm 14), .ref (rm 15), .ref (rm 16), .int 0, .int 0, .int 0, .int 0, .int 0, .ref (rm 17), .ref (rm 18), .ref (rm 19), .ref (rm 20), .ref (rm 21), .int 0, .ref (rm 22), .ref (rm 23), .ref (rm 24), .int 0, .int 0, .int 0, .ref (rm 25), .ref (rm 26), .ref (rm 27), .int 0, .ref (rm 28), .ref (rm 29), .int 0, .ref (rm 30), .ref (rm 31), .int 0, .ref (rm 32), .ref (rm 33), .int 0, .ref (rm 34), .ref (rm 35), .int 0, .int 0, .int 0, .ref (rm 36), .ref (rm 37), .int 0, .ref (rm 38), .ref (rm 39), .int 0, .ref (rm 40), .ref (rm 41), .ref (rm 42), .int 0, .int 0, .long 1, .ref (rm 43), .int 0, .int 0, .int (-1), .int 0, .int 0, .int 0, .int 0, .ref (rm 44), .ref (rm 45), .ref (rm 46), .ref (rm 47), .int 0])), ((rm 1), .inl ((km 0), 1600, .inl f873)), ((rm 2), .inl ((km 1), 7, .inl (fun _ => 0))), ((rm 22), .inl ((km 2), 422, .inl (fun _ => 0))), ((rm 23), .inl ((km 3), 422, .inl (fun _ => 0)))]
def wd_661 (rm : Nat → Nat) (km : Nat → ClassId) (f : Nat → Int32) : va_W := [((rm 0), .inr (12, [.ref (rm 1), .int 1, .int 0, .int 0, .int 0, .int 0, .int 0, .int 0, .int (-1), .ref (rm 2), .ref (rm 3), .ref (rm 4), .ref (rm 5), .ref (rm 6), .ref (rm 7), .ref (rm 8), .ref (rm 9), .ref (rm 10), .ref (rm 11), .ref (rm 12), .ref (rm 13), .ref (rm 14), .ref (rm 15), .ref (rm 16), .int 0, .int 0, .int 0, .int 0, .int 0, .ref (rm 17), .ref (rm 18), .ref (rm 19), .ref (rm 20), .ref (rm 21), .int 0, .ref (rm 22), .ref (rm 23), .ref (rm 24), .int 0, .int 0, .int 0, .ref (rm 25), .ref (rm 26), .ref (rm 27), .int 0, .ref (rm 28), .ref (rm 29), .int 0, .ref (rm 30), .ref (rm 31), .int 0, .ref (rm 32), .ref (rm 33), .int 0, .ref (rm 34), .ref (rm 35), .int 0, .int 0, .int 0, .ref (rm 36), .ref (rm 37), .int 0, .ref (rm 38), .ref (rm 39), .int 0, .ref (rm 40), .ref (rm 41), .ref (rm 42), .int 0, .int 0, .long 1, .ref (rm 43), .int 0, .int 0, .int (-1), .int 0, .int 0, .int 0, .int 0, .ref (rm 44), .ref (rm 45), .ref (rm 46), .ref (rm 47), .int 0])), ((rm 1), .inl ((km 0), 1600, .inl f)), ((rm 2), .inl ((km 1), 7, .inl (fun _ => 0))), ((rm 22), .inl ((km 2), 422, .inl (fun _ => 0))), ((rm 23), .inl ((km 3), 422, .inl (fun _ => 0)))]
def wd_662 (rm : Nat → Nat) (km : Nat → ClassId) (f880 : Nat → Int32) : va_W := [((rm 0), .inr (12, [.ref (rm 1), .int 1, .int 0, .int 0, .int 0, .int 0, .int 0, .int 0, .int (-1), .ref (rm 2), .ref (rm 3), .ref (rm 4), .ref (rm 5), .ref (rm 6), .ref (rm 7), .ref (rm 8), .ref (rm 9), .ref (rm 10), .ref (rm 11), .ref (rm 12), .ref (rm 13), .ref (rm 14), .ref (rm 15), .ref (rm 16), .int 0, .int 0, .int 0, .int 0, .int 0, .ref (rm 17), .ref (rm 18), .ref (rm 19), .ref (rm 20), .ref (rm 21), .int 0, .ref (rm 22), .ref (rm 23), .ref (rm 24), .int 0, .int 0, .int 0, .ref (rm 25), .ref (rm 26), .ref (rm 27), .int 0, .ref (rm 28), .ref (rm 29), .int 0, .ref (rm 30), .ref (rm 31), .int 0, .ref (rm 32), .ref (rm 33), .int 0, .ref (rm 34), .ref (rm 35), .int 0, .int 0, .int 0, .ref (rm 36), .ref (rm 37), .int 0, .ref (rm 38), .ref (rm 39), .int 0, .ref (rm 40), .ref (rm 41), .ref (rm 42), .int 0, .int 0, .long 1, .ref (rm 43), .int 0, .int 0, .int (-1), .int 0, .int 0, .int 0, .int 0, .ref (rm 44), .ref (rm 45), .ref (rm 46), .ref (rm 47), .int 0])), ((rm 1), .inl ((km 0), 1600, .inl f880)), ((rm 2), .inl ((km 1), 7, .inl (fun _ => 0))), ((rm 22), .inl ((km 2), 422, .inl (fun _ => 0))), ((rm 23), .inl ((km 3), 422, .inl (fun _ => 0)))]
def wd_663 (rm : Nat → Nat) (km : Nat → ClassId) (f880 : Nat → Int32) : va_W := [((rm 0), .inr (12, [.ref (rm 1), .int 2, .int 0, .int 0, .int 0, .int 0, .int 0, .int 0, .int (-1), .ref (rm 2), .ref (rm 3), .ref (rm 4), .ref (rm 5), .ref (rm 6), .ref (rm 7), .ref (rm 8), .ref (rm 9), .ref (rm 10), .ref (rm 11), .ref (rm 12), .ref (rm 13), .ref (rm 14), .ref (rm 15), .ref (rm 16), .int 0, .int 0, .int 0, .int 0, .int 0, .ref (rm 17), .ref (rm 18), .ref (rm 19), .ref (rm 20), .ref (rm 21), .int 0, .ref (rm 22), .ref (rm 23), .ref (rm 24), .int 0, .int 0, .int 0, .ref (rm 25), .ref (rm 26), .ref (rm 27), .int 0, .ref (rm 28), .ref (rm 29), .int 0, .ref (rm 30), .ref (rm 31), .int 0, .ref (rm 32), .ref (rm 33), .int 0, .ref (rm 34), .ref (rm 35), .int 0, .int 0, .int 0, .ref (rm 36), .ref (rm 37), .int 0, .ref (rm 38), .ref (rm 39), .int 0, .ref (rm 40), .ref (rm 41), .ref (rm 42), .int 0, .int 0, .long 1, .ref (rm 43), .int 0, .int 0, .int (-1), .int 0, .int 0, .int 0, .int 0, .ref (rm 44), .ref (rm 45), .ref (rm 46), .ref (rm 47), .int 0])), ((rm 1), .inl ((km 0), 1600, .inl f880)), ((rm 2), .inl ((km 1), 7, .inl (fun _ => 0))), ((rm 22), .inl ((km 2), 422, .inl (fun _ => 0))), ((rm 23), .inl ((km 3), 422, .inl (fun _ => 0)))]
def wd_664 (rm : Nat → Nat) (km : Nat → ClassId) (f : Nat → Int32) : va_W := [((rm 0), .inr (12, [.ref (rm 1), .int 2, .int 0, .int 0, .int 0, .int 0, .int 0, .int 0, .int (-1), .ref (rm 2), .ref (rm 3), .ref (rm 4), .ref (rm 5), .ref (rm 6), .ref (rm 7), .ref (rm 8), .ref (rm 9), .ref (rm 10), .ref (rm 11), .ref (rm 12), .ref (rm 13), .ref (rm 14), .ref (rm 15), .ref (rm 16), .int 0, .int 0, .int 0, .int 0, .int 0, .ref (rm 17), .ref (rm 18), .ref (rm 19), .ref (rm 20), .ref (rm 21), .int 0, .ref (rm 22), .ref (rm 23), .ref (rm 24), .int 0, .int 0, .int 0, .ref (rm 25), .ref (rm 26), .ref (rm 27), .int 0, .ref (rm 28), .ref (rm 29), .int 0, .ref (rm 30), .ref (rm 31), .int 0, .ref (rm 32), .ref (rm 33), .int 0, .ref (rm 34), .ref (rm 35), .int 0, .int 0, .int 0, .ref (rm 36), .ref (rm 37), .int 0, .ref (rm 38), .ref (rm 39), .int 0, .ref (rm 40), .ref (rm 41), .ref (rm 42), .int 0, .int 0, .long 1, .ref (rm 43), .int 0, .int 0, .int (-1), .int 0, .int 0, .int 0, .int 0, .ref (rm 44), .ref (rm 45), .ref (rm 46), .ref (rm 47), .int 0])), ((rm 1), .inl ((km 0), 1600, .inl f)), ((rm 2), .inl ((km 1), 7, .inl (fun _ => 0))), ((rm 22), .inl ((km 2), 422, .inl (fun _ => 0))), ((rm 23), .inl ((km 3), 422, .inl (fun _ => 0)))]
def wd_665 (rm : Nat → Nat) (km : Nat → ClassId) (f887 : Nat → Int32) : va_W := [((rm 0), .inr (12, [.ref (rm 1), .int 2, .int 0, .int 0, .int 0, .int 0, .int 0, .int 0, .int (-1), .ref (rm 2), .ref (rm 3), .ref (rm 4), .ref (rm 5), .ref (rm 6), .ref (rm 7), .ref (rm 8), .ref (rm 9), .ref (rm 10), .ref (rm 11), .ref (rm 12), .ref (rm 13), .ref (rm 14), .ref (rm 15), .ref (rm 16), .int 0, .int 0, .int 0, .int 0, .int 0, .ref (rm 17), .ref (rm 18), .ref (rm 19), .ref (rm 20), .ref (rm 21), .int 0, .ref (rm 22), .ref (rm 23), .ref (rm 24), .int 0, .int 0, .int 0, .ref (rm 25), .ref (rm 26), .ref (rm 27), .int 0, .ref (rm 28), .ref (rm 29), .int 0, .ref (rm 30), .ref (rm 31), .int 0, .ref (rm 32), .ref (rm 33), .int 0, .ref (rm 34), .ref (rm 35), .int 0, .int 0, .int 0, .ref (rm 36), .ref (rm 37), .int 0, .ref (rm 38), .ref (rm 39), .int 0, .ref (rm 40), .ref (rm 41), .ref (rm 42), .int 0, .int 0, .long 1, .ref (rm 43), .int 0, .int 0, .int (-1), .int 0, .int 0, .int 0, .int 0, .ref (rm 44), .ref (rm 45), .ref (rm 46), .ref (rm 47), .int 0])), ((rm 1), .inl ((km 0), 1600, .inl f887)), ((rm 2), .inl ((km 1), 7, .inl (fun _ => 0))), ((rm 22), .inl ((km 2), 422, .inl (fun _ => 0))), ((rm 23), .inl ((km 3), 422, .inl (fun _ => 0)))]
def wd_666 (rm : Nat → Nat) (km : Nat → ClassId) (f887 : Nat → Int32) : va_W := [((rm 0), .inr (12, [.ref (rm 1), .int 3, .int 0, .int 0, .int 0, .int 0, .int 0, .int 0, .int (-1), .ref (rm 2), .ref (rm 3), .ref (rm 4), .ref (rm 5), .ref (rm 6), .ref (rm 7), .ref (rm 8), .ref (rm 9), .ref (rm 10), .ref (rm 11), .ref (rm 12), .ref (rm 13), .ref (rm 14), .ref (rm 15), .ref (rm 16), .int 0, .int 0, .int 0, .int 0, .int 0, .ref (rm 17), .ref (rm 18), .ref (rm 19), .ref (rm 20), .ref (rm 21), .int 0, .ref (rm 22), .ref (rm 23), .ref (rm 24), .int 0, .int 0, .int 0, .ref (rm 25), .ref (rm 26), .ref (rm 27), .int 0, .ref (rm 28), .ref (rm 29), .int 0, .ref (rm 30), .ref (rm 31), .int 0, .ref (rm 32), .ref (rm 33), .int 0, .ref (rm 34), .ref (rm 35), .int 0, .int 0, .int 0, .ref (rm 36), .ref (rm 37), .int 0, .ref (rm 38), .ref (rm 39), .int 0, .ref (rm 40), .ref (rm 41), .ref (rm 42), .int 0, .int 0, .long 1, .ref (rm 43), .int 0, .int 0, .int (-1), .int 0, .int 0, .int 0, .int 0, .ref (rm 44), .ref (rm 45), .ref (rm 46), .ref (rm 47), .int 0])), ((rm 1), .inl ((km 0), 1600, .inl f887)), ((rm 2), .inl ((km 1), 7, .inl (fun _ => 0))), ((rm 22), .inl ((km 2), 422, .inl (fun _ => 0))), ((rm 23), .inl ((km 3), 422, .inl (fun _ => 0)))]
def wd_667 (rm : Nat → Nat) (km : Nat → ClassId) (f : Nat → Int32) : va_W := [((rm 0), .inr (12, [.ref (rm 1), .int 3, .int 0, .int 0, .int 0, .int 0, .int 0, .int 0, .int (-1), .ref (rm 2), .ref (rm 3), .ref (rm 4), .ref (rm 5), .ref (rm 6), .ref (rm 7), .ref (rm 8), .ref (rm 9), .ref (rm 10), .ref (rm 11), .ref (rm 12), .ref (rm 13), .ref (rm 14), .ref (rm 15), .ref (rm 16), .int 0, .int 0, .int 0, .int 0, .int 0, .ref (rm 17), .ref (rm 18), .ref (rm 19), .ref (rm 20), .ref (rm 21), .int 0, .ref (rm 22), .ref (rm 23), .ref (rm 24), .int 0, .int 0, .int 0, .ref (rm 25), .ref (rm 26), .ref (rm 27), .int 0, .ref (rm 28), .ref (rm 29), .int 0, .ref (rm 30), .ref (rm 31), .int 0, .ref (rm 32), .ref (rm 33), .int 0, .ref (rm 34), .ref (rm 35), .int 0, .int 0, .int 0, .ref (rm 36), .ref (rm 37), .int 0, .ref (rm 38), .ref (rm 39), .int 0, .ref (rm 40), .ref (rm 41), .ref (rm 42), .int 0, .int 0, .long 1, .ref (rm 43), .int 0, .int 0, .int (-1), .int 0, .int 0, .int 0, .int 0, .ref (rm 44), .ref (rm 45), .ref (rm 46), .ref (rm 47), .int 0])), ((rm 1), .inl ((km 0), 1600, .inl f)), ((rm 2), .inl ((km 1), 7, .inl (fun _ => 0))), ((rm 22), .inl ((km 2), 422, .inl (fun _ => 0))), ((rm 23), .inl ((km 3), 422, .inl (fun _ => 0)))]
def wd_668 (rm : Nat → Nat) (km : Nat → ClassId) (f894 : Nat → Int32) : va_W := [((rm 0), .inr (12, [.ref (rm 1), .int 3, .int 0, .int 0, .int 0, .int 0, .int 0, .int 0, .int (-1), .ref (rm 2), .ref (rm 3), .ref (rm 4), .ref (rm 5), .ref (rm 6), .ref (rm 7), .ref (rm 8), .ref (rm 9), .ref (rm 10), .ref (rm 11), .ref (rm 12), .ref (rm 13), .ref (rm 14), .ref (rm 15), .ref (rm 16), .int 0, .int 0, .int 0, .int 0, .int 0, .ref (rm 17), .ref (rm 18), .ref (rm 19), .ref (rm 20), .ref (rm 21), .int 0, .ref (rm 22), .ref (rm 23), .ref (rm 24), .int 0, .int 0, .int 0, .ref (rm 25), .ref (rm 26), .ref (rm 27), .int 0, .ref (rm 28), .ref (rm 29), .int 0, .ref (rm 30), .ref (rm 31), .int 0, .ref (rm 32), .ref (rm 33), .int 0, .ref (rm 34), .ref (rm 35), .int 0, .int 0, .int 0, .ref (rm 36), .ref (rm 37), .int 0, .ref (rm 38), .ref (rm 39), .int 0, .ref (rm 40), .ref (rm 41), .ref (rm 42), .int 0, .int 0, .long 1, .ref (rm 43), .int 0, .int 0, .int (-1), .int 0, .int 0, .int 0, .int 0, .ref (rm 44), .ref (rm 45), .ref (rm 46), .ref (rm 47), .int 0])), ((rm 1), .inl ((km 0), 1600, .inl f894)), ((rm 2), .inl ((km 1), 7, .inl (fun _ => 0))), ((rm 22), .inl ((km 2), 422, .inl (fun _ => 0))), ((rm 23), .inl ((km 3), 422, .inl (fun _ => 0)))]
def wd_669 (rm : Nat → Nat) (km : Nat → ClassId) (f894 : Nat → Int32) : va_W := [((rm 0), .inr (12, [.ref (rm 1), .int 4, .int 0, .int 0, .int 0, .int 0, .int 0, .int 0, .int (-1), .ref (rm 2), .ref (rm 3), .ref (rm 4), .ref (rm 5), .ref (rm 6), .ref (rm 7), .ref (rm 8), .ref (rm 9), .ref (rm 10), .ref (rm 11), .ref (rm 12), .ref (rm 13), .ref (rm 14), .ref (rm 15), .ref (rm 16), .int 0, .int 0, .int 0, .int 0, .int 0, .ref (rm 17), .ref (rm 18), .ref (rm 19), .ref (rm 20), .ref (rm 21), .int 0, .ref (rm 22), .ref (rm 23), .ref (rm 24), .int 0, .int 0, .int 0, .ref (rm 25), .ref (rm 26), .ref (rm 27), .int 0, .ref (rm 28), .ref (rm 29), .int 0, .ref (rm 30), .ref (rm 31), .int 0, .ref (rm 32), .ref (rm 33), .int 0, .ref (rm 34), .ref (rm 35), .int 0, .int 0, .int 0, .ref (rm 36), .ref (rm 37), .int 0, .ref (rm 38), .ref (rm 39), .int 0, .ref (rm 40), .ref (rm 41), .ref (rm 42), .int 0, .int 0, .long 1, .ref (rm 43), .int 0, .int 0, .int (-1), .int 0, .int 0, .int 0, .int 0, .ref (rm 44), .ref (rm 45), .ref (rm 46), .ref (rm 47), .int 0])), ((rm 1), .inl ((km 0), 1600, .inl f894)), ((rm 2), .inl ((km 1), 7, .inl (fun _ => 0))), ((rm 22), .inl ((km 2), 422, .inl (fun _ => 0))), ((rm 23), .inl ((km 3), 422, .inl (fun _ => 0)))]
def wd_670 (rm : Nat → Nat) (km : Nat → ClassId) (f : Nat → Int32) : va_W := [((rm 0), .inr (12, [.ref (rm 1), .int 4, .int 0, .int 0, .int 0, .int 0, .int 0, .int 0, .int (-1), .ref (rm 2), .ref (rm 3), .ref (rm 4), .ref (rm 5), .ref (rm 6), .ref (rm 7), .ref (rm 8), .ref (rm 9), .ref (rm 10), .ref (rm 11), .ref (rm 12), .ref (rm 13), .ref (rm 14), .ref (rm 15), .ref (rm 16), .int 0, .int 0, .int 0, .int 0, .int 0, .ref (rm 17), .ref (rm 18), .ref (rm 19), .ref (rm 20), .ref (rm 21), .int 0, .ref (rm 22), .ref (rm 23), .ref (rm 24), .int 0, .int 0, .int 0, .ref (rm 25), .ref (rm 26), .ref (rm 27), .int 0, .ref (rm 28), .ref (rm 29), .int 0, .ref (rm 30), .ref (rm 31), .int 0, .ref (rm 32), .ref (rm 33), .int 0, .ref (rm 34), .ref (rm 35), .int 0, .int 0, .int 0, .ref (rm 36), .ref (rm 37), .int 0, .ref (rm 38), .ref (rm 39), .int 0, .ref (rm 40), .ref (rm 41), .ref (rm 42), .int 0, .int 0, .long 1, .ref (rm 43), .int 0, .int 0, .int (-1), .int 0, .int 0, .int 0, .int 0, .ref (rm 44), .ref (rm 45), .ref (rm 46), .ref (rm 47), .int 0])), ((rm 1), .inl ((km 0), 1600, .inl f)), ((rm 2), .inl ((km 1), 7, .inl (fun _ => 0))), ((rm 22), .inl ((km 2), 422, .inl (fun _ => 0))), ((rm 23), .inl ((km 3), 422, .inl (fun _ => 0)))]
def wd_671 (rm : Nat → Nat) (km : Nat → ClassId) (f901 : Nat → Int32) : va_W := [((rm 0), .inr (12, [.ref (rm 1), .int 4, .int 0, .int 0, .int 0, .int 0, .int 0, .int 0, .int (-1), .ref (rm 2), .ref (rm 3), .ref (rm 4), .ref (rm 5), .ref (rm 6), .ref (rm 7), .ref (rm 8), .ref (rm 9), .ref (rm 10), .ref (rm 11), .ref (rm 12), .ref (rm 13), .ref (rm 14), .ref (rm 15), .ref (rm 16), .int 0, .int 0, .int 0, .int 0, .int 0, .ref (rm 17), .ref (rm 18), .ref (rm 19), .ref (rm 20), .ref (rm 21), .int 0, .ref (rm 22), .ref (rm 23), .ref (rm 24), .int 0, .int 0, .int 0, .ref (rm 25), .ref (rm 26), .ref (rm 27), .int 0, .ref (rm 28), .ref (rm 29), .int 0, .ref (rm 30), .ref (rm 31), .int 0, .ref (rm 32), .ref (rm 33), .int 0, .ref (rm 34), .ref (rm 35), .int 0, .int 0, .int 0, .ref (rm 36), .ref (rm 37), .int 0, .ref (rm 38), .ref (rm 39), .int 0, .ref (rm 40), .ref (rm 41), .ref (rm 42), .int 0, .int 0, .long 1, .ref (rm 43), .int 0, .int 0, .int (-1), .int 0, .int 0, .int 0, .int 0, .ref (rm 44), .ref (rm 45), .ref (rm 46), .ref (rm 47), .int 0])), ((rm 1), .inl ((km 0), 1600, .inl f901)), ((rm 2), .inl ((km 1), 7, .inl (fun _ => 0))), ((rm 22), .inl ((km 2), 422, .inl (fun _ => 0))), ((rm 23), .inl ((km 3), 422, .inl (fun _ => 0)))]
def wd_672 (rm : Nat → Nat) (km : Nat → ClassId) (f901 : Nat → Int32) : va_W := [((rm 0), .inr (12, [.ref (rm 1), .int 5, .int 0, .int 0, .int 0, .int 0, .int 0, .int 0, .int (-1), .ref (rm 2), .ref (rm 3), .ref (rm 4), .ref (rm 5), .ref (rm 6), .ref (rm 7), .ref (rm 8), .ref (rm 9), .ref (rm 10), .ref (rm 11), .ref (rm 12), .ref (rm 13), .ref (rm 14), .ref (rm 15), .ref (rm 16), .int 0, .int 0, .int 0, .int 0, .int 0, .ref (rm 17), .ref (rm 18), .ref (rm 19), .ref (rm 20), .ref (rm 21), .int 0, .ref (rm 22), .ref (rm 23), .ref (rm 24), .int 0, .int 0, .int 0, .ref (rm 25), .ref (rm 26), .ref (rm 27), .int 0, .ref (rm 28), .ref (rm 29), .int 0, .ref (rm 30), .ref (rm 31), .int 0, .ref (rm 32), .ref (rm 33), .int 0, .ref (rm 34), .ref (rm 35), .int 0, .int 0, .int 0, .ref (rm 36), .ref (rm 37), .int 0, .ref (rm 38), .ref (rm 39), .int 0, .ref (rm 40), .ref (rm 41), .ref (rm 42), .int 0, .int 0, .long 1, .ref (rm 43), .int 0, .int 0, .int (-1), .int 0, .int 0, .int 0, .int 0, .ref (rm 44), .ref (rm 45), .ref (rm 46), .ref (rm 47), .int 0])), ((rm 1), .inl ((km 0), 1600, .inl f901)), ((rm 2), .inl ((km 1), 7, .inl (fun _ => 0))), ((rm 22), .inl ((km 2), 422, .inl (fun _ => 0))), ((rm 23), .inl ((km 3), 422, .inl (fun _ => 0)))]
def wd_673 (rm : Nat → Nat) (km : Nat → ClassId) (f : Nat → Int32) : va_W := [((rm 0), .inr (12, [.ref (rm 1), .int 5, .int 0, .int 0, .int 0, .int 0, .int 0, .int 0, .int (-1), .ref (rm 2), .ref (rm 3), .ref (rm 4), .ref (rm 5), .ref (rm 6), .ref (rm 7), .ref (rm 8), .ref (rm 9), .ref (rm 10), .ref (rm 11), .ref (rm 12), .ref (rm 13), .ref (rm 14), .ref (rm 15), .ref (rm 16), .int 0, .int 0, .int 0, .int 0, .int 0, .ref (rm 17), .ref (rm 18), .ref (rm 19), .ref (rm 20), .ref (rm 21), .int 0, .ref (rm 22), .ref (rm 23), .ref (rm 24), .int 0, .int 0, .int 0, .ref (rm 25), .ref (rm 26), .ref (rm 27), .int 0, .ref (rm 28), .ref (rm 29), .int 0, .ref (rm 30), .ref (rm 31), .int 0, .ref (rm 32), .ref (rm 33), .int 0, .ref (rm 34), .ref (rm 35), .int 0, .int 0, .int 0, .ref (rm 36), .ref (rm 37), .int 0, .ref (rm 38), .ref (rm 39), .int 0, .ref (rm 40), .ref (rm 41), .ref (rm 42), .int 0, .int 0, .long 1, .ref (rm 43), .int 0, .int 0, .int (-1), .int 0, .int 0, .int 0, .int 0, .ref (rm 44), .ref (rm 45), .ref (rm 46), .ref (rm 47), .int 0])), ((rm 1), .inl ((km 0), 1600, .inl f)), ((rm 2), .inl ((km 1), 7, .inl (fun _ => 0))), ((rm 22), .inl ((km 2), 422, .inl (fun _ => 0))), ((rm 23), .inl ((km 3), 422, .inl (fun _ => 0)))]
def wd_674 (rm : Nat → Nat) (km : Nat → ClassId) (f908 : Nat → Int32) : va_W := [((rm 0), .inr (12, [.ref (rm 1), .int 5, .int 0, .int 0, .int 0, .int 0, .int 0, .int 0, .int (-1), .ref (rm 2), .ref (rm 3), .ref (rm 4), .ref (rm 5), .ref (rm 6), .ref (rm 7), .ref (rm 8), .ref (rm 9), .ref (rm 10), .ref (rm 11), .ref (rm 12), .ref (rm 13), .ref (rm 14), .ref (rm 15), .ref (rm 16), .int 0, .int 0, .int 0, .int 0, .int 0, .ref (rm 17), .ref (rm 18), .ref (rm 19), .ref (rm 20), .ref (rm 21), .int 0, .ref (rm 22), .ref (rm 23), .ref (rm 24), .int 0, .int 0, .int 0, .ref (rm 25), .ref (rm 26), .ref (rm 27), .int 0, .ref (rm 28), .ref (rm 29), .int 0, .ref (rm 30), .ref (rm 31), .int 0, .ref (rm 32), .ref (rm 33), .int 0, .ref (rm 34), .ref (rm 35), .int 0, .int 0, .int 0, .ref (rm 36), .ref (rm 37), .int 0, .ref (rm 38), .ref (rm 39), .int 0, .ref (rm 40), .ref (rm 41), .ref (rm 42), .int 0, .int 0, .long 1, .ref (rm 43), .int 0, .int 0, .int (-1), .int 0, .int 0, .int 0, .int 0, .ref (rm 44), .ref (rm 45), .ref (rm 46), .ref (rm 47), .int 0])), ((rm 1), .inl ((km 0), 1600, .inl f908)), ((rm 2), .inl ((km 1), 7, .inl (fun _ => 0))), ((rm 22), .inl ((km 2), 422, .inl (fun _ => 0))), ((rm 23), .inl ((km 3), 422, .inl (fun _ => 0)))]
def wd_675 (rm : Nat → Nat) (km : Nat → ClassId) (f908 : Nat → Int32) : va_W := [((rm 0), .inr (12, [.ref (rm 1), .int 6, .int 0, .int 0, .int 0, .int 0, .int 0, .int 0, .int (-1), .ref (rm 2), .ref (rm 3), .ref (rm 4), .ref (rm 5), .ref (rm 6), .ref (rm 7), .ref (rm 8), .ref (rm 9), .ref (rm 10), .ref (rm 11), .ref (rm 12), .ref (rm 13), .ref (rm 14), .ref (rm 15), .ref (rm 16), .int 0, .int 0, .int 0, .int 0, .int 0, .ref (rm 17), .ref (rm 18), .ref (rm 19), .ref (rm 20), .ref (rm 21), .int 0, .ref (rm 22), .ref (rm 23), .ref (rm 24), .int 0, .int 0, .int 0, .ref (rm 25), .ref (rm 26), .ref (rm 27), .int 0, .ref (rm 28), .ref (rm 29), .int 0, .ref (rm 30), .ref (rm 31), .int 0, .ref (rm 32), .ref (rm 33), .int 0, .ref (rm 34), .ref (rm 35), .int 0, .int 0, .int 0, .ref (rm 36), .ref (rm 37), .int 0, .ref (rm 38), .ref (rm 39), .int 0, .ref (rm 40), .ref (rm 41), .ref (rm 42), .int 0, .int 0, .long 1, .ref (rm 43), .int 0, .int 0, .int (-1), .int 0, .int 0, .int 0, .int 0, .ref (rm 44), .ref (rm 45), .ref (rm 46), .ref (rm 47), .int 0])), ((rm 1), .inl ((km 0), 1600, .inl f908)), ((rm 2), .inl ((km 1), 7, .inl (fun _ => 0))), ((rm 22), .inl ((km 2), 422, .inl (fun _ => 0))), ((rm 23), .inl ((km 3), 422, .inl (fun _ => 0)))]
def wd_676 (rm : Nat → Nat) (km : Nat → ClassId) (f : Nat → Int32) : va_W := [((rm 0), .inr (12, [.ref (rm 1), .int 6, .int 0, .int 0, .int 0, .int 0, .int 0, .int 0, .int (-1), .ref (rm 2), .ref (rm 3), .ref (rm 4), .ref (rm 5), .ref (rm 6), .ref (rm 7), .ref (rm 8), .ref (rm 9), .ref (rm 10), .ref (rm 11), .ref (rm 12), .ref (rm 13), .ref (rm 14), .ref (rm 15), .ref (rm 16), .int 0, .int 0, .int 0, .int 0, .int 0, .ref (rm 17), .ref (rm 18), .ref (rm 19), .ref (rm 20), .ref (rm 21), .int 0, .ref (rm 22), .ref (rm 23), .ref (rm 24), .int 0, .int 0, .int 0, .ref (rm 25), .ref (rm 26), .ref (rm 27), .int 0, .ref (rm 28), .ref (rm 29), .int 0, .ref (rm 30), .ref (rm 31), .int 0, .ref (rm 32), .ref (rm 33), .int 0, .ref (rm 34), .ref (rm 35), .int 0, .int 0, .int 0, .ref (rm 36), .ref (rm 37), .int 0, .ref (rm 38), .ref (rm 39), .int 0, .ref (rm 40), .ref (rm 41), .ref (rm 42), .int 0, .int 0, .long 1, .ref (rm 43), .int 0, .int 0, .int (-1), .int 0, .int 0, .int 0, .int 0, .ref (rm 44), .ref (rm 45), .ref (rm 46), .ref (rm 47), .int 0])), ((rm 1), .inl ((km 0), 1600, .inl f)), ((rm 2), .inl ((km 1), 7, .inl (fun _ => 0))), ((rm 22), .inl ((km 2), 422, .inl (fun _ => 0))), ((rm 23), .inl ((km 3), 422, .inl (fun _ => 0)))]
def wd_677 (rm : Nat → Nat) (km : Nat → ClassId) (f915 : Nat → Int32) : va_W := [((rm 0), .inr (12, [.ref (rm 1), .int 6, .int 0, .int 0, .int 0, .int 0, .int 0, .int 0, .int (-1), .ref (rm 2), .ref (rm 3), .ref (rm 4), .ref (rm 5), .ref (rm 6), .ref (rm 7), .ref (rm 8), .ref (rm 9), .ref (rm 10), .ref (rm 11), .ref (rm 12), .ref (rm 13), .ref (rm 14), .ref (rm 15), .ref (rm 16), .int 0, .int 0, .int 0, .int 0, .int 0, .ref (rm 17), .ref (rm 18), .ref (rm 19), .ref (rm 20), .ref (rm 21), .int 0, .ref (rm 22), .ref (rm 23), .ref (rm 24), .int 0, .int 0, .int 0, .ref (rm 25), .ref (rm 26), .ref (rm 27), .int 0, .ref (rm 28), .ref (rm 29), .int 0, .ref (rm 30), .ref (rm 31), .int 0, .ref (rm 32), .ref (rm 33), .int 0, .ref (rm 34), .ref (rm 35), .int 0, .int 0, .int 0, .ref (rm 36), .ref (rm 37), .int 0, .ref (rm 38), .ref (rm 39), .int 0, .ref (rm 40), .ref (rm 41), .ref (rm 42), .int 0, .int 0, .long 1, .ref (rm 43), .int 0, .int 0, .int (-1), .int 0, .int 0, .int 0, .int 0, .ref (rm 44), .ref (rm 45), .ref (rm 46), .ref (rm 47), .int 0])), ((rm 1), .inl ((km 0), 1600, .inl f915)), ((rm 2), .inl ((km 1), 7, .inl (fun _ => 0))), ((rm 22), .inl ((km 2), 422, .inl (fun _ => 0))), ((rm 23), .inl ((km 3), 422, .inl (fun _ => 0)))]
def wd_678 (rm : Nat → Nat) (km : Nat → ClassId) (f915 : Nat → Int32) : va_W := [((rm 0), .inr (12, [.ref (rm 1), .int 7, .int 0, .int 0, .int 0, .int 0, .int 0, .int 0, .int (-1), .ref (rm 2), .ref (rm 3), .ref (rm 4), .ref (rm 5), .ref (rm 6), .ref (rm 7), .ref (rm 8), .ref (rm 9), .ref (rm 10), .ref (rm 11), .ref (rm 12), .ref (rm 13), .ref (rm 14), .ref (rm 15), .ref (rm 16), .int 0, .int 0, .int 0, .int 0, .int 0, .ref (rm 17), .ref (rm 18), .ref (rm 19), .ref (rm 20), .ref (rm 21), .int 0, .ref (rm 22), .ref (rm 23), .ref (rm 24), .int 0, .int 0, .int 0, .ref (rm 25), .ref (rm 26), .ref (rm 27), .int 0, .ref (rm 28), .ref (rm 29), .int 0, .ref (rm 30), .ref (rm 31), .int 0, .ref (rm 32), .ref (rm 33), .int 0, .ref (rm 34), .ref (rm 35), .int 0, .int 0, .int 0, .ref (rm 36), .ref (rm 37), .int 0, .ref (rm 38), .ref (rm 39), .int 0, .ref (rm 40), .ref (rm 41), .ref (rm 42), .int 0, .int 0, .long 1, .ref (rm 43), .int 0, .int 0, .int (-1), .int 0, .int 0, .int 0, .int 0, .ref (rm 44), .ref (rm 45), .ref (rm 46), .ref (rm 47), .int 0])), ((rm 1), .inl ((km 0), 1600, .inl f915)), ((rm 2), .inl ((km 1), 7, .inl (fun _ => 0))), ((rm 22), .inl ((km 2), 422, .inl (fun _ => 0))), ((rm 23), .inl ((km 3), 422, .inl (fun _ => 0)))]
def wd_679 (rm : Nat → Nat) (km : Nat → ClassId) (f : Nat → Int32) : va_W := [((rm 0), .inr (12, [.ref (rm 1), .int 7, .int 0, .int 0, .int 0, .int 0, .int 0, .int 0, .int (-1), .ref (rm 2), .ref (rm 3), .ref (rm 4), .ref (rm 5), .ref (rm 6), .ref (rm 7), .ref (rm 8), .ref (rm 9), .ref (rm 10), .ref (rm 11), .ref (rm 12), .ref (rm 13), .ref (rm 14), .ref (rm 15), .ref (rm 16), .int 0, .int 0, .int 0, .int 0, .int 0, .ref (rm 17), .ref (rm 18), .ref (rm 19), .ref (rm 20), .ref (rm 21), .int 0, .ref (rm 22), .ref (rm 23), .ref (rm 24), .int 0, .int 0, .int 0, .ref (rm 25), .ref (rm 26), .ref (rm 27), .int 0, .ref (rm 28), .ref (rm 29), .int 0, .ref (rm 30), .ref (rm 31), .int 0, .ref (rm 32), .ref (rm 33), .int 0, .ref (rm 34), .ref (rm 35), .int 0, .int 0, .int 0, .ref (rm 36), .ref (rm 37), .int 0, .ref (rm 38), .ref (rm 39), .int 0, .ref (rm 40), .ref (rm 41), .ref (rm 42), .int 0, .int 0, .long 1, .ref (rm 43), .int 0, .int 0, .int (-1), .int 0, .int 0, .int 0, .int 0, .ref (rm 44), .ref (rm 45), .ref (rm 46), .ref (rm 47), .int 0])), ((rm 1), .inl ((km 0), 1600, .inl f)), ((rm 2), .inl ((km 1), 7, .inl (fun _ => 0))), ((rm 22), .inl ((km 2), 422, .inl (fun _ => 0))), ((rm 23), .inl ((km 3), 422, .inl (fun _ => 0)))]
def wd_680 (rm : Nat → Nat) (km : Nat → ClassId) (f922 : Nat → Int32) : va_W := [((rm 0), .inr (12, [.ref (rm 1), .int 7, .int 0, .int 0, .int 0, .int 0, .int 0, .int 0, .int (-1), .ref (rm 2), .ref (rm 3), .ref (rm 4), .ref (rm 5), .ref (rm 6), .ref (rm 7), .ref (rm 8), .ref (rm 9), .ref (rm 10), .ref (rm 11), .ref (rm 12), .ref (rm 13), .ref (rm 14), .ref (rm 15), .ref (rm 16), .int 0, .int 0, .int 0, .int 0, .int 0, .ref (rm 17), .ref (rm 18), .ref (rm 19), .ref (rm 20), .ref (rm 21), .int 0, .ref (rm 22), .ref (rm 23), .ref (rm 24), .int 0, .int 0, .int 0, .ref (rm 25), .ref (rm 26), .ref (rm 27), .int 0, .ref (rm 28), .ref (rm 29), .int 0, .ref (rm 30), .ref (rm 31), .int 0, .ref (rm 32), .ref (rm 33), .int 0, .ref (rm 34), .ref (rm 35), .int 0, .int 0, .int 0, .ref (rm 36), .ref (rm 37), .int 0, .ref (rm 38), .ref (rm 39), .int 0, .ref (rm 40), .ref (rm 41), .ref (rm 42), .int 0, .int 0, .long 1, .ref (rm 43), .int 0, .int 0, .int (-1), .int 0, .int 0, .int 0, .int 0, .ref (rm 44), .ref (rm 45), .ref (rm 46), .ref (rm 47), .int 0])), ((rm 1), .inl ((km 0), 1600, .inl f922)), ((rm 2), .inl ((km 1), 7, .inl (fun _ => 0))), ((rm 22), .inl ((km 2), 422, .inl (fun _ => 0))), ((rm 23), .inl ((km 3), 422, .inl (fun _ => 0)))]
def wd_681 (rm : Nat → Nat) (km : Nat → ClassId) (f922 : Nat → Int32) : va_W := [((rm 0), .inr (12, [.ref (rm 1), .int 8, .int 0, .int 0, .int 0, .int 0, .int 0, .int 0, .int (-1), .ref (rm 2), .ref (rm 3), .ref (rm 4), .ref (rm 5), .ref (rm 6), .ref (rm 7), .ref (rm 8), .ref (rm 9), .ref (rm 10), .ref (rm 11), .ref (rm 12), .ref (rm 13), .ref (rm 14), .ref (rm 15), .ref (rm 16), .int 0, .int 0, .int 0, .int 0, .int 0, .ref (rm 17), .ref (rm 18), .ref (rm 19), .ref (rm 20), .ref (rm 21), .int 0, .ref (rm 22), .ref (rm 23), .ref (rm 24), .int 0, .int 0, .int 0, .ref (rm 25), .ref (rm 26), .ref (rm 27), .int 0, .ref (rm 28), .ref (rm 29), .int 0, .ref (rm 30), .ref (rm 31), .int 0, .ref (rm 32), .ref (rm 33), .int 0, .ref (rm 34), .ref (rm 35), .int 0, .int 0, .int 0, .ref (rm 36), .ref (rm 37), .int 0, .ref (rm 38), .ref (rm 39), .int 0, .ref (rm 40), .ref (rm 41), .ref (rm 42), .int 0, .int 0, .long 1, .ref (rm 43), .int 0, .int 0, .int (-1), .int 0, .int 0, .int 0, .int 0, .ref (rm 44), .ref (rm 45), .ref (rm 46), .ref (rm 47), .int 0])), ((rm 1), .inl ((km 0), 1600, .inl f922)), ((rm 2), .inl ((km 1), 7, .inl (fun _ => 0))), ((rm 22), .inl ((km 2), 422, .inl (fun _ => 0))), ((rm 23), .inl ((km 3), 422, .inl (fun _ => 0)))]
def wd_682 (rm : Nat → Nat) (km : Nat → ClassId) (f : Nat → Int32) : va_W := [((rm 0), .inr (12, [.ref (rm 1), .int 8, .int 0, .int 0, .int 0, .int 0, .int 0, .int 0, .int (-1), .ref (rm 2), .ref (rm 3), .ref (rm 4), .ref (rm 5), .ref (rm 6), .ref (rm 7), .ref (rm 8), .ref (rm 9), .ref (rm 10), .ref (rm 11), .ref (rm 12), .ref (rm 13), .ref (rm 14), .ref (rm 15), .ref (rm 16), .int 0, .int 0, .int 0, .int 0, .int 0, .ref (rm 17), .ref (rm 18), .ref (rm 19), .ref (rm 20), .ref (rm 21), .int 0, .ref (rm 22), .ref (rm 23), .ref (rm 24), .int 0, .int 0, .int 0, .ref (rm 25), .ref (rm 26), .ref (rm 27), .int 0, .ref (rm 28), .ref (rm 29), .int 0, .ref (rm 30), .ref (rm 31), .int 0, .ref (rm 32), .ref (rm 33), .int 0, .ref (rm 34), .ref (rm 35), .int 0, .int 0, .int 0, .ref (rm 36), .ref (rm 37), .int 0, .ref (rm 38), .ref (rm 39), .int 0, .ref (rm 40), .ref (rm 41), .ref (rm 42), .int 0, .int 0, .long 1, .ref (rm 43), .int 0, .int 0, .int (-1), .int 0, .int 0, .int 0, .int 0, .ref (rm 44), .ref (rm 45), .ref (rm 46), .ref (rm 47), .int 0])), ((rm 1), .inl ((km 0), 1600, .inl f)), ((rm 2), .inl ((km 1), 7, .inl (fun _ => 0))), ((rm 22), .inl ((km 2), 422, .inl (fun _ => 0))), ((rm 23), .inl ((km 3), 422, .inl (fun _ => 0)))]
def wd_683 (rm : Nat → Nat) (km : Nat → ClassId) (f929 : Nat → Int32) : va_W := [((rm 0), .inr (12, [.ref (rm 1), .int 8, .int 0, .int 0, .int 0, .int 0, .int 0, .int 0, .int (-1), .ref (rm 2), .ref (rm 3), .ref (rm 4), .ref (rm 5), .ref (rm 6), .ref (rm 7), .ref (rm 8), .ref (rm 9), .ref (rm 10), .ref (rm 11), .ref (rm 12), .ref (rm 13), .ref (rm 14), .ref (rm 15), .ref (rm 16), .int 0, .int 0, .int 0, .int 0, .int 0, .ref (rm 17), .ref (rm 18), .ref (rm 19), .ref (rm 20), .ref (rm 21), .int 0, .ref (rm 22), .ref (rm 23), .ref (rm 24), .int 0, .int 0, .int 0, .ref (rm 25), .ref (rm 26), .ref (rm 27), .int 0, .ref (rm 28), .ref (rm 29), .int 0, .ref (rm 30), .ref (rm 31), .int 0, .ref (rm 32), .ref (rm 33), .int 0, .ref (rm 34), .ref (rm 35), .int 0, .int 0, .int 0, .ref (rm 36), .ref (rm 37), .int 0, .ref (rm 38), .ref (rm 39), .int 0, .ref (rm 40), .ref (rm 41), .ref (rm 42), .int 0, .int 0, .long 1, .ref (rm 43), .int 0, .int 0, .int (-1), .int 0, .int 0, .int 0, .int 0, .ref (rm 44), .ref (rm 45), .ref (rm 46), .ref (rm 47), .int 0])), ((rm 1), .inl ((km 0), 1600, .inl f929)), ((rm 2), .inl ((km 1), 7, .inl (fun _ => 0))), ((rm 22), .inl ((km 2), 422, .inl (fun _ => 0))), ((rm 23), .inl ((km 3), 422, .inl (fun _ => 0)))]
def wd_684 (rm : Nat → Nat) (km : Nat → ClassId) (f929 : Nat → Int32) : va_W := [((rm 0), .inr (12, [.ref (rm 1), .int 9, .int 0, .int 0, .int 0, .int 0, .int 0, .int 0, .int (-1), .ref (rm 2), .ref (rm 3), .ref (rm 4), .ref (rm 5), .ref (rm 6), .ref (rm 7), .ref (rm 8), .ref (rm 9), .ref (rm 10), .ref (rm 11), .ref (rm 12), .ref (rm 13), .ref (rm 14), .ref (rm 15), .ref (rm 16), .int 0, .int 0, .int 0, .int 0, .int 0, .ref (rm 17), .ref (rm 18), .ref (rm 19), .ref (rm 20), .ref (rm 21), .int 0, .ref (rm 22), .ref (rm 23), .ref (rm 24), .int 0, .int 0, .int 0, .ref (rm 25), .ref (rm 26), .ref (rm 27), .int 0, .ref (rm 28), .ref (rm 29), .int 0, .ref (rm 30), .ref (rm 31), .int 0, .ref (rm 32), .ref (rm 33), .int 0, .ref (rm 34), .ref (rm 35), .int 0, .int 0, .int 0, .ref (rm 36), .ref (rm 37), .int 0, .ref (rm 38), .ref (rm 39), .int 0, .ref (rm 40), .ref (rm 41), .ref (rm 42), .int 0, .int 0, .long 1, .ref (rm 43), .int 0, .int 0, .int (-1), .int 0, .int 0, .int 0, .int 0, .ref (rm 44), .ref (rm 45), .ref (rm 46), .ref (rm 47), .int 0])), ((rm 1), .inl ((km 0), 1600, .inl f929)), ((rm 2), .inl ((km 1), 7, .inl (fun _ => 0))), ((rm 22), .inl ((km 2), 422, .inl (fun _ => 0))), ((rm 23), .inl ((km 3), 422, .inl (fun _ => 0)))]
def wd_685 (rm : Nat → Nat) (km : Nat → ClassId) (f : Nat → Int32) : va_W := [((rm 0), .inr (12, [.ref (rm 1), .int 9, .int 0, .int 0, .int 0, .int 0, .int 0, .int 0, .int (-1), .ref (rm 2), .ref (rm 3), .ref (rm 4), .ref (rm 5), .ref (rm 6), .ref (rm 7), .ref (rm 8), .ref (rm 9), .ref (rm 10), .ref (rm 11), .ref (rm 12), .ref (rm 13), .ref (rm 14), .ref (rm 15), .ref (rm 16), .int 0, .int 0, .int 0, .int 0, .int 0, .ref (rm 17), .ref (rm 18), .ref (rm 19), .ref (rm 20), .ref (rm 21), .int 0, .ref (rm 22), .ref (rm 23), .ref (rm 24), .int 0, .int 0, .int 0, .ref (rm 25), .ref (rm 26), .ref (rm 27), .int 0, .ref (rm 28), .ref (rm 29), .int 0, .ref (rm 30), .ref (rm 31), .int 0, .ref (rm 32), .ref (rm 33), .int 0, .ref (rm 34), .ref (rm 35), .int 0, .int 0, .int 0, .ref (rm 36), .ref (rm 37), .int 0, .ref (rm 38), .ref (rm 39), .int 0, .ref (rm 40), .ref (rm 41), .ref (rm 42), .int 0, .int 0, .long 1, .ref (rm 43), .int 0, .int 0, .int (-1), .int 0, .int 0, .int 0, .int 0, .ref (rm 44), .ref (rm 45), .ref (rm 46), .ref (rm 47), .int 0])), ((rm 1), .inl ((km 0), 1600, .inl f)), ((rm 2), .inl ((km 1), 7, .inl (fun _ => 0))), ((rm 22), .inl ((km 2), 422, .inl (fun _ => 0))), ((rm 23), .inl ((km 3), 422, .inl (fun _ => 0)))]
def wd_686 (rm : Nat → Nat) (km : Nat → ClassId) (f936 : Nat → Int32) : va_W := [((rm 0), .inr (12, [.ref (rm 1), .int 9, .int 0, .int 0, .int 0, .int 0, .int 0, .int 0, .int (-1), .ref (rm 2), .ref (rm 3), .ref (rm 4), .ref (rm 5), .ref (rm 6), .ref (rm 7), .ref (rm 8), .ref (rm 9), .ref (rm 10), .ref (rm 11), .ref (rm 12), .ref (rm 13), .ref (rm 14), .ref (rm 15), .ref (rm 16), .int 0, .int 0, .int 0, .int 0, .int 0, .ref (rm 17), .ref (rm 18), .ref (rm 19), .ref (rm 20), .ref (rm 21), .int 0, .ref (rm 22), .ref (rm 23), .ref (rm 24), .int 0, .int 0, .int 0, .ref (rm 25), .ref (rm 26), .ref (rm 27), .int 0, .ref (rm 28), .ref (rm 29), .int 0, .ref (rm 30), .ref (rm 31), .int 0, .ref (rm 32), .ref (rm 33), .int 0, .ref (rm 34), .ref (rm 35), .int 0, .int 0, .int 0, .ref (rm 36), .ref (rm 37), .int 0, .ref (rm 38), .ref (rm 39), .int 0, .ref (rm 40), .ref (rm 41), .ref (rm 42), .int 0, .int 0, .long 1, .ref (rm 43), .int 0, .int 0, .int (-1), .int 0, .int 0, .int 0, .int 0, .ref (rm 44), .ref (rm 45), .ref (rm 46), .ref (rm 47), .int 0])), ((rm 1), .inl ((km 0), 1600, .inl f936)), ((rm 2), .inl ((km 1), 7, .inl (fun _ => 0))), ((rm 22), .inl ((km 2), 422, .inl (fun _ => 0))), ((rm 23), .inl ((km 3), 422, .inl (fun _ => 0)))]
def wd_687 (rm : Nat → Nat) (km : Nat → ClassId) (f936 : Nat → Int32) : va_W := [((rm 0), .inr (12, [.ref (rm 1), .int 10, .int 0, .int 0, .int 0, .int 0, .int 0, .int 0, .int (-1), .ref (rm 2), .ref (rm 3), .ref (rm 4), .ref (rm 5), .ref (rm 6), .ref (rm 7), .ref (rm 8), .ref (rm 9), .ref (rm 10), .ref (rm 11), .ref (rm 12), .ref (rm 13), .ref (rm 14), .ref (rm 15), .ref (rm 16), .int 0, .int 0, .int 0, .int 0, .int 0, .ref (rm 17), .ref (rm 18), .ref (rm 19), .ref (rm 20), .ref (rm 21), .int 0, .ref (rm 22), .ref (rm 23), .ref (rm 24), .int 0, .int 0, .int 0, .ref (rm 25), .ref (rm 26), .ref (rm 27), .int 0, .ref (rm 28), .ref (rm 29), .int 0, .ref (rm 30), .ref (rm 31), .int 0, .ref (rm 32), .ref (rm 33), .int 0, .ref (rm 34), .ref (rm 35), .int 0, .int 0, .int 0, .ref (rm 36), .ref (rm 37), .int 0, .ref (rm 38), .ref (rm 39), .int 0, .ref (rm 40), .ref (rm 41), .ref (rm 42), .int 0, .int 0, .long 1, .ref (rm 43), .int 0, .int 0, .int (-1), .int 0, .int 0, .int 0, .int 0, .ref (rm 44), .ref (rm 45), .ref (rm 46), .ref (rm 47), .int 0])), ((rm 1), .inl ((km 0), 1600, .inl f936)), ((rm 2), .inl ((km 1), 7, .inl (fun _ => 0))), ((rm 22), .inl ((km 2), 422, .inl (fun _ => 0))), ((rm 23), .inl ((km 3), 422, .inl (fun _ => 0)))]
def wd_688 (rm : Nat → Nat) (km : Nat → ClassId) (f : Nat → Int32) : va_W := [((rm 0), .inr (12, [.ref (rm 1), .int 10, .int 0, .int 0, .int 0, .int 0, .int 0, .int 0, .int (-1), .ref (rm 2), .ref (rm 3), .ref (rm 4), .ref (rm 5), .ref (rm 6), .ref (rm 7), .ref (rm 8), .ref (rm 9), .ref (rm 10), .ref (rm 11), .ref (rm 12), .ref (rm 13), .ref (rm 14), .ref (rm 15), .ref (rm 16), .int 0, .int 0, .int 0, .int 0, .int 0, .ref (rm 17), .ref (rm 18), .ref (rm 19), .ref (rm 20), .ref (rm 21), .int 0, .ref (rm 22), .ref (rm 23), .ref (rm 24), .int 0, .int 0, .int 0, .ref (rm 25), .ref (rm 26), .ref (rm 27), .int 0, .ref (rm 28), .ref (rm 29), .int 0, .ref (rm 30), .ref (rm 31), .int 0, .ref (rm 32), .ref (rm 33), .int 0, .ref (rm 34), .ref (rm 35), .int 0, .int 0, .int 0, .ref (rm 36), .ref (rm 37), .int 0, .ref (rm 38), .ref (rm 39), .int 0, .ref (rm 40), .ref (rm 41), .ref (rm 42), .int 0, .int 0, .long 1, .ref (rm 43), .int 0, .int 0, .int (-1), .int 0, .int 0, .int 0, .int 0, .ref (rm 44), .ref (rm 45), .ref (rm 46), .ref (rm 47), .int 0])), ((rm 1), .inl ((km 0), 1600, .inl f)), ((rm 2), .inl ((km 1), 7, .inl (fun _ => 0))), ((rm 22), .inl ((km 2), 422, .inl (fun _ => 0))), ((rm 23), .inl ((km 3), 422, .inl (fun _ => 0)))]
def wd_689 (rm : Nat → Nat) (km : Nat → ClassId) (f943 : Nat → Int32) : va_W := [((rm 0), .inr (12, [.ref (rm 1), .int 10, .int 0, .int 0, .int 0, .int 0, .int 0, .int 0, .int (-1), .ref (rm 2), .ref (rm 3), .ref (rm 4), .ref (rm 5), .ref (rm 6), .ref (rm 7), .ref (rm 8), .ref (rm 9), .ref (rm 10), .ref (rm 11), .ref (rm 12), .ref (rm 13), .ref (rm 14), .ref (rm 15), .ref (rm 16), .int 0, .int 0, .int 0, .int 0, .int 0, .ref (rm 17), .ref (rm 18), .ref (rm 19), .ref (rm 20), .ref (rm 21), .int 0, .ref (rm 22), .ref (rm 23), .ref (rm 24), .int 0, .int 0, .int 0, .ref (rm 25), .ref (rm 26), .ref (rm 27), .int 0, .ref (rm 28), .ref (rm 29), .int 0, .ref (rm 30), .ref (rm 31), .int 0, .ref (rm 32), .ref (rm 33), .int 0, .ref (rm 34), .ref (rm 35), .int 0, .int 0, .int 0, .ref (rm 36), .ref (rm 37), .int 0, .ref (rm 38), .ref (rm 39), .int 0, .ref (rm 40), .ref (rm 41), .ref (rm 42), .int 0, .int 0, .long 1, .ref (rm 43), .int 0, .int 0, .int (-1), .int 0, .int 0, .int 0, .int 0, .ref (rm 44), .ref (rm 45), .ref (rm 46), .ref (rm 47), .int 0])), ((rm 1), .inl ((km 0), 1600, .inl f943)), ((rm 2), .inl ((km 1), 7, .inl (fun _ => 0))), ((rm 22), .inl ((km 2), 422, .inl (fun _ => 0))), ((rm 23), .inl ((km 3), 422, .inl (fun _ => 0)))]
def wd_690 (rm : Nat → Nat) (km : Nat → ClassId) (f943 : Nat → Int32) : va_W := [((rm 0), .inr (12, [.ref (rm 1), .int 11, .int 0, .int 0, .int 0, .int 0, .int 0, .int 0, .int (-1), .ref (rm 2), .ref (rm 3), .ref (rm 4), .ref (rm 5), .ref (rm 6), .ref (rm 7), .ref (rm 8), .ref (rm 9), .ref (rm 10), .ref (rm 11), .ref (rm 12), .ref (rm 13), .ref (rm 14), .ref (rm 15), .ref (rm 16), .int 0, .int 0, .int 0, .int 0, .int 0, .ref (rm 17), .ref (rm 18), .ref (rm 19), .ref (rm 20), .ref (rm 21), .int 0, .ref (rm 22), .ref (rm 23), .ref (rm 24), .int 0, .int 0, .int 0, .ref (rm 25), .ref (rm 26), .ref (rm 27), .int 0, .ref (rm 28), .ref (rm 29), .int 0, .ref (rm 30), .ref (rm 31), .int 0, .ref (rm 32), .ref (rm 33), .int 0, .ref (rm 34), .ref (rm 35), .int 0, .int 0, .int 0, .ref (rm 36), .ref (rm 37), .int 0, .ref (rm 38), .ref (rm 39), .int 0, .ref (rm 40), .ref (rm 41), .ref (rm 42), .int 0, .int 0, .long 1, .ref (rm 43), .int 0, .int 0, .int (-1), .int 0, .int 0, .int 0, .int 0, .ref (rm 44), .ref (rm 45), .ref (rm 46), .ref (rm 47), .int 0])), ((rm 1), .inl ((km 0), 1600, .inl f943)), ((rm 2), .inl ((km 1), 7, .inl (fun _ => 0))), ((rm 22), .inl ((km 2), 422, .inl (fun _ => 0))), ((rm 23), .inl ((km 3), 422, .inl (fun _ => 0)))]
def wd_691 (rm : Nat → Nat) (km : Nat → ClassId) (f : Nat → Int32) : va_W := [((rm 0), .inr (12, [.ref (rm 1), .int 11, .int 0, .int 0, .int 0, .int 0, .int 0, .int 0, .int (-1), .ref (rm 2), .ref (rm 3), .ref (rm 4), .ref (rm 5), .ref (rm 6), .ref (rm 7), .ref (rm 8), .ref (rm 9), .ref (rm 10), .ref (rm 11), .ref (rm 12), .ref (rm 13), .ref (rm 14), .ref (rm 15), .ref (rm 16), .int 0, .int 0, .int 0, .int 0, .int 0, .ref (rm 17), .ref (rm 18), .ref (rm 19), .ref (rm 20), .ref (rm 21), .int 0, .ref (rm 22), .ref (rm 23), .ref (rm 24), .int 0, .int 0, .int 0, .ref (rm 25), .ref (rm 26), .ref (rm 27), .int 0, .ref (rm 28), .ref (rm 29), .int 0, .ref (rm 30), .ref (rm 31), .int 0, .ref (rm 32), .ref (rm 33), .int 0, .ref (rm 34), .ref (rm 35), .int 0, .int 0, .int 0, .ref (rm 36), .ref (rm 37), .int 0, .ref (rm 38), .ref (rm 39), .int 0, .ref (rm 40), .ref (rm 41), .ref (rm 42), .int 0, .int 0, .long 1, .ref (rm 43), .int 0, .int 0, .int (-1), .int 0, .int 0, .int 0, .int 0, .ref (rm 44), .ref (rm 45), .ref (rm 46), .ref (rm 47), .int 0])), ((rm 1), .inl ((km 0), 1600, .inl f)), ((rm 2), .inl ((km 1), 7, .inl (fun _ => 0))), ((rm 22), .inl ((km 2), 422, .inl (fun _ => 0))), ((rm 23), .inl ((km 3), 422, .inl (fun _ => 0)))]
def wd_692 (rm : Nat → Nat) (km : Nat → ClassId) (f950 : Nat → Int32) : va_W := [((rm 0), .inr (12, [.ref (rm 1), .int 11, .int 0, .int 0, .int 0, .int 0, .int 0, .int 0, .int (-1), .ref (rm 2), .ref (rm 3), .ref (rm 4), .ref (rm 5), .ref (rm 6), .ref (rm 7), .ref (rm 8), .ref (rm 9), .ref (rm 10), .ref (rm 11), .ref (rm 12), .ref (rm 13), .ref (rm 14), .ref (rm 15), .ref (rm 16), .int 0, .int 0, .int 0, .int 0, .int 0, .ref (rm 17), .ref (rm 18), .ref (rm 19), .ref (rm 20), .ref (rm 21), .int 0, .ref (rm 22), .ref (rm 23), .ref (rm 24), .int 0, .int 0, .int 0, .ref (rm 25), .ref (rm 26), .ref (rm 27), .int 0, .ref (rm 28), .ref (rm 29), .int 0, .ref (rm 30), .ref (rm 31), .int 0, .ref (rm 32), .ref (rm 33), .int 0, .ref (rm 34), .ref (rm 35), .int 0, .int 0, .int 0, .ref (rm 36), .ref (rm 37), .int 0, .ref (rm 38), .ref (rm 39), .int 0, .ref (rm 40), .ref (rm 41), .ref (rm 42), .int 0, .int 0, .long 1, .ref (rm 43), .int 0, .int 0, .int (-1), .int 0, .int 0, .int 0, .int 0, .ref (rm 44), .ref (rm 45), .ref (rm 46), .ref (rm 47), .int 0])), ((rm 1), .inl ((km 0), 1600, .inl f950)), ((rm 2), .inl ((km 1), 7, .inl (fun _ => 0))), ((rm 22), .inl ((km 2), 422, .inl (fun _ => 0))), ((rm 23), .inl ((km 3), 422, .inl (fun _ => 0)))]
def wd_693 (rm : Nat → Nat) (km : Nat → ClassId) (f950 : Nat → Int32) : va_W := [((rm 0), .inr (12, [.ref (rm 1), .int 12, .int 0, .int 0, .int 0, .int 0, .int 0, .int 0, .int (-1), .ref (rm 2), .ref (rm 3), .ref (rm 4), .ref (rm 5), .ref (rm 6), .ref (rm 7), .ref (rm 8), .ref (rm 9), .ref (rm 10), .ref (rm 11), .ref (rm 12), .ref (rm 13), .ref (rm 14), .ref (rm 15), .ref (rm 16), .int 0, .int 0, .int 0, .int 0, .int 0, .ref (rm 17), .ref (rm 18), .ref (rm 19), .ref (rm 20), .ref (rm 21), .int 0, .ref (rm 22), .ref (rm 23), .ref (rm 24), .int 0, .int 0, .int 0, .ref (rm 25), .ref (rm 26), .ref (rm 27), .int 0, .ref (rm 28), .ref (rm 29), .int 0, .ref (rm 30), .ref (rm 31), .int 0, .ref (rm 32), .ref (rm 33), .int 0, .ref (rm 34), .ref (rm 35), .int 0, .int 0, .int 0, .ref (rm 36), .ref (rm 37), .int 0, .ref (rm 38), .ref (rm 39), .int 0, .ref (rm 40), .ref (rm 41), .ref (rm 42), .int 0, .int 0, .long 1, .ref (rm 43), .int 0, .int 0, .int (-1), .int 0, .int 0, .int 0, .int 0, .ref (rm 44), .ref (rm 45), .ref (rm 46), .ref (rm 47), .int 0])), ((rm 1), .inl ((km 0), 1600, .inl f950)), ((rm 2), .inl ((km 1), 7, .inl (fun _ => 0))), ((rm 22), .inl ((km 2), 422, .inl (fun _ => 0))), ((rm 23), .inl ((km 3), 422, .inl (fun _ => 0)))]
def wd_694 (rm : Nat → Nat) (km : Nat → ClassId) (f : Nat → Int32) : va_W := [((rm 0), .inr (12, [.ref (rm 1), .int 12, .int 0, .int 0, .int 0, .int 0, .int 0, .int 0, .int (-1), .ref (rm 2), .ref (rm 3), .ref (rm 4), .ref (rm 5), .ref (rm 6), .ref (rm 7), .ref (rm 8), .ref (rm 9), .ref (rm 10), .ref (rm 11), .ref (rm 12), .ref (rm 13), .ref (rm 14), .ref (rm 15), .ref (rm 16), .int 0, .int 0, .int 0, .int 0, .int 0, .ref (rm 17), .ref (rm 18), .ref (rm 19), .ref (rm 20), .ref (rm 21), .int 0, .ref (rm 22), .ref (rm 23), .ref (rm 24), .int 0, .int 0, .int 0, .ref (rm 25), .ref (rm 26), .ref (rm 27), .int 0, .ref (rm 28), .ref (rm 29), .int 0, .ref (rm 30), .ref (rm 31), .int 0, .ref (rm 32), .ref (rm 33), .int 0, .ref (rm 34), .ref (rm 35), .int 0, .int 0, .int 0, .ref (rm 36), .ref (rm 37), .int 0, .ref (rm 38), .ref (rm 39), .int 0, .ref (rm 40), .ref (rm 41), .ref (rm 42), .int 0, .int 0, .long 1, .ref (rm 43), .int 0, .int 0, .int (-1), .int 0, .int 0, .int 0, .int 0, .ref (rm 44), .ref (rm 45), .ref (rm 46), .ref (rm 47), .int 0])), ((rm 1), .inl ((km 0), 1600, .inl f)), ((rm 2), .inl ((km 1), 7, .inl (fun _ => 0))), ((rm 22), .inl ((km 2), 422, .inl (fun _ => 0))), ((rm 23), .inl ((km 3), 422, .inl (fun _ => 0)))]
def wd_695 (rm : Nat → Nat) (km : Nat → ClassId) (f957 : Nat → Int32) : va_W := [((rm 0), .inr (12, [.ref (rm 1), .int 12, .int 0, .int 0, .int 0, .int 0, .int 0, .int 0, .int (-1), .ref (rm 2), .ref (rm 3), .ref (rm 4), .ref (rm 5), .ref (rm 6), .ref (rm 7), .ref (rm 8), .ref (rm 9), .ref (rm 10), .ref (rm 11), .ref (rm 12), .ref (rm 13), .ref (rm 14), .ref (rm 15), .ref (rm 16), .int 0, .int 0, .int 0, .int 0, .int 0, .ref (rm 17), .ref (rm 18), .ref (rm 19), .ref (rm 20), .ref (rm 21), .int 0, .ref (rm 22), .ref (rm 23), .ref (rm 24), .int 0, .int 0, .int 0, .ref (rm 25), .ref (rm 26), .ref (rm 27), .int 0, .ref (rm 28), .ref (rm 29), .int 0, .ref (rm 30), .ref (rm 31), .int 0, .ref (rm 32), .ref (rm 33), .int 0, .ref (rm 34), .ref (rm 35), .int 0, .int 0, .int 0, .ref (rm 36), .ref (rm 37), .int 0, .ref (rm 38), .ref (rm 39), .int 0, .ref (rm 40), .ref (rm 41), .ref (rm 42), .int 0, .int 0, .long 1, .ref (rm 43), .int 0, .int 0, .int (-1), .int 0, .int 0, .int 0, .int 0, .ref (rm 44), .ref (rm 45), .ref (rm 46), .ref (rm 47), .int 0])), ((rm 1), .inl ((km 0), 1600, .inl f957)), ((rm 2), .inl ((km 1), 7, .inl (fun _ => 0))), ((rm 22), .inl ((km 2), 422, .inl (fun _ => 0))), ((rm 23), .inl ((km 3), 422, .inl (fun _ => 0)))]
def wd_696 (rm : Nat → Nat) (km : Nat → ClassId) (f957 : Nat → Int32) : va_W := [((rm 0), .inr (12, [.ref (rm 1), .int 13, .int 0, .int 0, .int 0, .int 0, .int 0, .int 0, .int (-1), .ref (rm 2), .ref (rm 3), .ref (rm 4), .ref (rm 5), .ref (rm 6), .ref (rm 7), .ref (rm 8), .ref (rm 9), .ref (rm 10), .ref (rm 11), .ref (rm 12), .ref (rm 13), .ref (rm 14), .ref (rm 15), .ref (rm 16), .int 0, .int 0, .int 0, .int 0, .int 0, .ref (rm 17), .ref (rm 18), .ref (rm 19), .ref (rm 20), .ref (rm 21), .int 0, .ref (rm 22), .ref (rm 23), .ref (rm 24), .int 0, .int 0, .int 0, .ref (rm 25), .ref (rm 26), .ref (rm 27), .int 0, .ref (rm 28), .ref (rm 29), .int 0, .ref (rm 30), .ref (rm 31), .int 0, .ref (rm 32), .ref (rm 33), .int 0, .ref (rm 34), .ref (rm 35), .int 0, .int 0, .int 0, .ref (rm 36), .ref (rm 37), .int 0, .ref (rm 38), .ref (rm 39), .int 0, .ref (rm 40), .ref (rm 41), .ref (rm 42), .int 0, .int 0, .long 1, .ref (rm 43), .int 0, .int 0, .int (-1), .int 0, .int 0, .int 0, .int 0, .ref (rm 44), .ref (rm 45), .ref (rm 46), .ref (rm 47), .int 0])), ((rm 1), .inl ((km 0), 1600, .inl f957)), ((rm 2), .inl ((km 1), 7, .inl (fun _ => 0))), ((rm 22), .inl ((km 2), 422, .inl (fun _ => 0))), ((rm 23), .inl ((km 3), 422, .inl (fun _ => 0)))]
def wd_697 (rm : Nat → Nat) (km : Nat → ClassId) (f : Nat → Int32) : va_W := [((rm 0), .inr (12, [.ref (rm 1), .int 13, .int 0, .int 0, .int 0, .int 0, .int 0, .int 0, .int (-1), .ref (rm 2), .ref (rm 3), .ref (rm 4), .ref (rm 5), .ref (rm 6), .ref (rm 7), .ref (rm 8), .ref (rm 9), .ref (rm 10), .ref (rm 11), .ref (rm 12), .ref (rm 13), .ref (rm 14), .ref (rm 15), .ref (rm 16), .int 0, .int 0, .int 0, .int 0, .int 0, .ref (rm 17), .ref (rm 18), .ref (rm 19), .ref (rm 20), .ref (rm 21), .int 0, .ref (rm 22), .ref (rm 23), .ref (rm 24), .int 0, .int 0, .int 0, .ref (rm 25), .ref (rm 26), .ref (rm 27), .int 0, .ref (rm 28), .ref (rm 29), .int 0, .ref (rm 30), .ref (rm 31), .int 0, .ref (rm 32), .ref (rm 33), .int 0, .ref (rm 34), .ref (rm 35), .int 0, .int 0, .int 0, .ref (rm 36), .ref (rm 37), .int 0, .ref (rm 38), .ref (rm 39), .int 0, .ref (rm 40), .ref (rm 41), .ref (rm 42), .int 0, .int 0, .long 1, .ref (rm 43), .int 0, .int 0, .int (-1), .int 0, .int 0, .int 0, .int 0, .ref (rm 44), .ref (rm 45), .ref (rm 46), .ref (rm 47), .int 0])), ((rm 1), .inl ((km 0), 1600, .inl f)), ((rm 2), .inl ((km 1), 7, .inl (fun _ => 0))), ((rm 22), .inl ((km 2), 422, .inl (fun _ => 0))), ((rm 23), .inl ((km 3), 422, .inl (fun _ => 0)))]
def wd_698 (rm : Nat → Nat) (km : Nat → ClassId) (f964 : Nat → Int32) : va_W := [((rm 0), .inr (12, [.ref (rm 1), .int 13, .int 0, .int 0, .int 0, .int 0, .int 0, .int 0, .int (-1), .ref (rm 2), .ref (rm 3), .ref (rm 4), .ref (rm 5), .ref (rm 6), .ref (rm 7), .ref (rm 8), .ref (rm 9), .ref (rm 10), .ref (rm 11), .ref (rm 12), .ref (rm 13), .ref (rm 14), .ref (rm 15), .ref (rm 16), .int 0, .int 0, .int 0, .int 0, .int 0, .ref (rm 17), .ref (rm 18), .ref (rm 19), .ref (rm 20), .ref (rm 21), .int 0, .ref (rm 22), .ref (rm 23), .ref (rm 24), .int 0, .int 0, .int 0, .ref (rm 25), .ref (rm 26), .ref (rm 27), .int 0, .ref (rm 28), .ref (rm 29), .int 0, .ref (rm 30), .ref (rm 31), .int 0, .ref (rm 32), .ref (rm 33), .int 0, .ref (rm 34), .ref (rm 35), .int 0, .int 0, .int 0, .ref (rm 36), .ref (rm 37), .int 0, .ref (rm 38), .ref (rm 39), .int 0, .ref (rm 40), .ref (rm 41), .ref (rm 42), .int 0, .int 0, .long 1, .ref (rm 43), .int 0, .int 0, .int (-1), .int 0, .int 0, .int 0, .int 0, .ref (rm 44), .ref (rm 45), .ref (rm 46), .ref (rm 47), .int 0])), ((rm 1), .inl ((km 0), 1600, .inl f964)), ((rm 2), .inl ((km 1), 7, .inl (fun _ => 0))), ((rm 22), .inl ((km 2), 422, .inl (fun _ => 0))), ((rm 23), .inl ((km 3), 422, .inl (fun _ => 0)))]
def wd_699 (rm : Nat → Nat) (km : Nat → ClassId) (f964 : Nat → Int32) : va_W := [((rm 0), .inr (12, [.ref (rm 1), .int 14, .int 0, .int 0, .int 0, .int 0, .int 0, .int 0, .int (-1), .ref (rm 2), .ref (rm 3), .ref (rm 4), .ref (rm 5), .ref (rm 6), .ref (rm 7), .ref (rm 8), .ref (rm 9), .ref (rm 10), .ref (rm 11), .ref (rm 12), .ref (rm 13), .ref (rm 14), .ref (rm 15), .ref (rm 16), .int 0, .int 0, .int 0, .int 0, .int 0, .ref (rm 17), .ref (rm 18), .ref (rm 19), .ref (rm 20), .ref (rm 21), .int 0, .ref (rm 22), .ref (rm 23), .ref (rm 24), .int 0, .int 0, .int 0, .ref (rm 25), .ref (rm 26), .ref (rm 27), .int 0, .ref (rm 28), .ref (rm 29), .int 0, .ref (rm 30), .ref (rm 31), .int 0, .ref (rm 32), .ref (rm 33), .int 0, .ref (rm 34), .ref (rm 35), .int 0, .int 0, .int 0, .ref (rm 36), .ref (rm 37), .int 0, .ref (rm 38), .ref (rm 39), .int 0, .ref (rm 40), .ref (rm 41), .ref (rm 42), .int 0, .int 0, .long 1, .ref (rm 43), .int 0, .int 0, .int (-1), .int 0, .int 0, .int 0, .int 0, .ref (rm 44), .ref (rm 45), .ref (rm 46), .ref (rm 47), .int 0])), ((rm 1), .inl ((km 0), 1600, .inl f964)), ((rm 2), .inl ((km 1), 7, .inl (fun _ => 0))), ((rm 22), .inl ((km 2), 422, .inl (fun _ => 0))), ((rm 23), .inl ((km 3), 422, .inl (fun _ => 0)))]
def wd_700 (rm : Nat → Nat) (km : Nat → ClassId) (f : Nat → Int32) : va_W := [((rm 0), .inr (12, [.ref (rm 1), .int 14, .int 0, .int 0, .int 0, .int 0, .int 0, .int 0, .int (-1), .ref (rm 2), .ref (rm 3), .ref (rm 4), .ref (rm 5), .ref (rm 6), .ref (rm 7), .ref (rm 8), .ref (rm 9), .ref (rm 10), .ref (rm 11), .ref (rm 12), .ref (rm 13), .ref (rm 14), .ref (rm 15), .ref (rm 16), .int 0, .int 0, .int 0, .int 0, .int 0, .ref (rm 17), .ref (rm 18), .ref (rm 19), .ref (rm 20), .ref (rm 21), .int 0, .ref (rm 22), .ref (rm 23), .ref (rm 24), .int 0, .int 0, .int 0, .ref (rm 25), .ref (rm 26), .ref (rm 27), .int 0, .ref (rm 28), .ref (rm 29), .int 0, .ref (rm 30), .ref (rm 31), .int 0, .ref (rm 32), .ref (rm 33), .int 0, .ref (rm 34), .ref (rm 35), .int 0, .int 0, .int 0, .ref (rm 36), .ref (rm 37), .int 0, .ref (rm 38), .ref (rm 39), .int 0, .ref (rm 40), .ref (rm 41), .ref (rm 42), .int 0, .int 0, .long 1, .ref (rm 43), .int 0, .int 0, .int (-1), .int 0, .int 0, .int 0, .int 0, .ref (rm 44), .ref (rm 45), .ref (rm 46), .ref (rm 47), .int 0])), ((rm 1), .inl ((km 0), 1600, .inl f)), ((rm 2), .inl ((km 1), 7, .inl (fun _ => 0))), ((rm 22), .inl ((km 2), 422, .inl (fun _ => 0))), ((rm 23), .inl ((km 3), 422, .inl (fun _ => 0)))]
def wd_701 (rm : Nat → Nat) (km : Nat → ClassId) (f971 : Nat → Int32) : va_W := [((rm 0), .inr (12, [.ref (rm 1), .int 14, .int 0, .int 0, .int 0, .int 0, .int 0, .int 0, .int (-1), .ref (rm 2), .ref (rm 3), .ref (rm 4), .ref (rm 5), .ref (rm 6), .ref (rm 7), .ref (rm 8), .ref (rm 9), .ref (rm 10), .ref (rm 11), .ref (rm 12), .ref (rm 13), .ref (rm 14), .ref (rm 15), .ref (rm 16), .int 0, .int 0, .int 0, .int 0, .int 0, .ref (rm 17), .ref (rm 18), .ref (rm 19), .ref (rm 20), .ref (rm 21), .int 0, .ref (rm 22), .ref (rm 23), .ref (rm 24), .int 0, .int 0, .int 0, .ref (rm 25), .ref (rm 26), .ref (rm 27), .int 0, .ref (rm 28), .ref (rm 29), .int 0, .ref (rm 30), .ref (rm 31), .int 0, .ref (rm 32), .ref (rm 33), .int 0, .ref (rm 34), .ref (rm 35), .int 0, .int 0, .int 0, .ref (rm 36), .ref (rm 37), .int 0, .ref (rm 38), .ref (rm 39), .int 0, .ref (rm 40), .ref (rm 41), .ref (rm 42), .int 0, .int 0, .long 1, .ref (rm 43), .int 0, .int 0, .int (-1), .int 0, .int 0, .int 0, .int 0, .ref (rm 44), .ref (rm 45), .ref (rm 46), .ref (rm 47), .int 0])), ((rm 1), .inl ((km 0), 1600, .inl f971)), ((rm 2), .inl ((km 1), 7, .inl (fun _ => 0))), ((rm 22), .inl ((km 2), 422, .inl (fun _ => 0))), ((rm 23), .inl ((km 3), 422, .inl (fun _ => 0)))]
def wd_702 (rm : Nat → Nat) (km : Nat → ClassId) (f971 : Nat → Int32) : va_W := [((rm 0), .inr (12, [.ref (rm 1), .int 15, .int 0, .int 0, .int 0, .int 0, .int 0, .int 0, .int (-1), .ref (rm 2), .ref (rm 3), .ref (rm 4), .ref (rm 5), .ref (rm 6), .ref (rm 7), .ref (rm 8), .ref (rm 9), .ref (rm 10), .ref (rm 11), .ref (rm 12), .ref (rm 13), .ref (rm 14), .ref (rm 15), .ref (rm 16), .int 0, .int 0, .int 0, .int 0, .int 0, .ref (rm 17), .ref (rm 18), .ref (rm 19), .ref (rm 20), .ref (rm 21), .int 0, .ref (rm 22), .ref (rm 23), .ref (rm 24), .int 0, .int 0, .int 0, .ref (rm 25), .ref (rm 26), .ref (rm 27), .int 0, .ref (rm 28), .ref (rm 29), .int 0, .ref (rm 30), .ref (rm 31), .int 0, .ref (rm 32), .ref (rm 33), .int 0, .ref (rm 34), .ref (rm 35), .int 0, .int 0, .int 0, .ref (rm 36), .ref (rm 37), .int 0, .ref (rm 38), .ref (rm 39), .int 0, .ref (rm 40), .ref (rm 41), .ref (rm 42), .int 0, .int 0, .long 1, .ref (rm 43), .int 0, .int 0, .int (-1), .int 0, .int 0, .int 0, .int 0, .ref (rm 44), .ref (rm 45), .ref (rm 46), .ref (rm 47), .int 0])), ((rm 1), .inl ((km 0), 1600, .inl f971)), ((rm 2), .inl ((km 1), 7, .inl (fun _ => 0))), ((rm 22), .inl ((km 2), 422, .inl (fun _ => 0))), ((rm 23), .inl ((km 3), 422, .inl (fun _ => 0)))]
def wd_703 (rm : Nat → Nat) (km : Nat → ClassId) (f : Nat → Int32) : va_W := [((rm 0), .inr (12, [.ref (rm 1), .int 15, .int 0, .int 0, .int 0, .int 0, .int 0, .int 0, .int (-1), .ref (rm 2), .ref (rm 3), .ref (rm 4), .ref (rm 5), .ref (rm 6), .ref (rm 7), .ref (rm 8), .ref (rm 9), .ref (rm 10), .ref (rm 11), .ref (rm 12), .ref (rm 13), .ref (rm 14), .ref (rm 15), .ref (rm 16), .int 0, .int 0, .int 0, .int 0, .int 0, .ref (rm 17), .ref (rm 18), .ref (rm 19), .ref (rm 20), .ref (rm 21), .int 0, .ref (rm 22), .ref (rm 23), .ref (rm 24), .int 0, .int 0, .int 0, .ref (rm 25), .ref (rm 26), .ref (rm 27), .int 0, .ref (rm 28), .ref (rm 29), .int 0, .ref (rm 30), .ref (rm 31), .int 0, .ref (rm 32), .ref (rm 33), .int 0, .ref (rm 34), .ref (rm 35), .int 0, .int 0, .int 0, .ref (rm 36), .ref (rm 37), .int 0, .ref (rm 38), .ref (rm 39), .int 0, .ref (rm 40), .ref (rm 41), .ref (rm 42), .int 0, .int 0, .long 1, .ref (rm 43), .int 0, .int 0, .int (-1), .int 0, .int 0, .int 0, .int 0, .ref (rm 44), .ref (rm 45), .ref (rm 46), .ref (rm 47), .int 0])), ((rm 1), .inl ((km 0), 1600, .inl f)), ((rm 2), .inl ((km 1), 7, .inl (fun _ => 0))), ((rm 22), .inl ((km 2), 422, .inl (fun _ => 0))), ((rm 23), .inl ((km 3), 422, .inl (fun _ => 0)))]
def wd_704 (rm : Nat → Nat) (km : Nat → ClassId) (f978 : Nat → Int32) : va_W := [((rm 0), .inr (12, [.ref (rm 1), .int 15, .int 0, .int 0, .int 0, .int 0, .int 0, .int 0, .int (-1), .ref (rm 2), .ref (rm 3), .ref (rm 4), .ref (rm 5), .ref (rm 6), .ref (rm 7), .ref (rm 8), .ref (rm 9), .ref (rm 10), .ref (rm 11), .ref (rm 12), .ref (rm 13), .ref (rm 14), .ref (rm 15), .ref (rm 16), .int 0, .int 0, .int 0, .int 0, .int 0, .ref (rm 17), .ref (rm 18), .ref (rm 19), .ref (rm 20), .ref (rm 21), .int 0, .ref (rm 22), .ref (rm 23), .ref (rm 24), .int 0, .int 0, .int 0, .ref (rm 25), .ref (rm 26), .ref (rm 27), .int 0, .ref (rm 28), .ref (rm 29), .int 0, .ref (rm 30), .ref (rm 31), .int 0, .ref (rm 32), .ref (rm 33), .int 0, .ref (rm 34), .ref (rm 35), .int 0, .int 0, .int 0, .ref (rm 36), .ref (rm 37), .int 0, .ref (rm 38), .ref (rm 39), .int 0, .ref (rm 40), .ref (rm 41), .ref (rm 42), .int 0, .int 0, .long 1, .ref (rm 43), .int 0, .int 0, .int (-1), .int 0, .int 0, .int 0, .int 0, .ref (rm 44), .ref (rm 45), .ref (rm 46), .ref (rm 47), .int 0])), ((rm 1), .inl ((km 0), 1600, .inl f978)), ((rm 2), .inl ((km 1), 7, .inl (fun _ => 0))), ((rm 22), .inl ((km 2), 422, .inl (fun _ => 0))), ((rm 23), .inl ((km 3), 422, .inl (fun _ => 0)))]
def wd_705 (rm : Nat → Nat) (km : Nat → ClassId) (f978 : Nat → Int32) : va_W := [((rm 0), .inr (12, [.ref (rm 1), .int 16, .int 0, .int 0, .int 0, .int 0, .int 0, .int 0, .int (-1), .ref (rm 2), .ref (rm 3), .ref (rm 4), .ref (rm 5), .ref (rm 6), .ref (rm 7), .ref (rm 8), .ref (rm 9), .ref (rm 10), .ref (rm 11), .ref (rm 12), .ref (rm 13), .ref (rm 14), .ref (rm 15), .ref (rm 16), .int 0, .int 0, .int 0, .int 0, .int 0, .ref (rm 17), .ref (rm 18), .ref (rm 19), .ref (rm 20), .ref (rm 21), .int 0, .ref (rm 22), .ref (rm 23), .ref (rm 24), .int 0, .int 0, .int 0, .ref (rm 25), .ref (rm 26), .ref (rm 27), .int 0, .ref (rm 28), .ref (rm 29), .int 0, .ref (rm 30), .ref (rm 31), .int 0, .ref (rm 32), .ref (rm 33), .int 0, .ref (rm 34), .ref (rm 35), .int 0, .int 0, .int 0, .ref (rm 36), .ref (rm 37), .int 0, .ref (rm 38), .ref (rm 39), .int 0, .ref (rm 40), .ref (rm 41), .ref (rm 42), .int 0, .int 0, .long 1, .ref (rm 43), .int 0, .int 0, .int (-1), .int 0, .int 0, .int 0, .int 0, .ref (rm 44), .ref (rm 45), .ref (rm 46), .ref (rm 47), .int 0])), ((rm 1), .inl ((km 0), 1600, .inl f978)), ((rm 2), .inl ((km 1), 7, .inl (fun _ => 0))), ((rm 22), .inl ((km 2), 422, .inl (fun _ => 0))), ((rm 23), .inl ((km 3), 422, .inl (fun _ => 0)))]
def wd_706 (rm : Nat → Nat) (km : Nat → ClassId) (f : Nat → Int32) : va_W := [((rm 0), .inr (12, [.ref (rm 1), .int 16, .int 0, .int 0, .int 0, .int 0, .int 0, .int 0, .int (-1), .ref (rm 2), .ref (rm 3), .ref (rm 4), .ref (rm 5), .ref (rm 6), .ref (rm 7), .ref (rm 8), .ref (rm 9), .ref (rm 10), .ref (rm 11), .ref (rm 12), .ref (rm 13), .ref (rm 14), .ref (rm 15), .ref (rm 16), .int 0, .int 0, .int 0, .int 0, .int 0, .ref (rm 17), .ref (rm 18), .ref (rm 19), .ref (rm 20), .ref (rm 21), .int 0, .ref (rm 22), .ref (rm 23), .ref (rm 24), .int 0, .int 0, .int 0, .ref (rm 25), .ref (rm 26), .ref (rm 27), .int 0, .ref (rm 28), .ref (rm 29), .int 0, .ref (rm 30), .ref (rm 31), .int 0, .ref (rm 32), .ref (rm 33), .int 0, .ref (rm 34), .ref (rm 35), .int 0, .int 0, .int 0, .ref (rm 36), .ref (rm 37), .int 0, .ref (rm 38), .ref (rm 39), .int 0, .ref (rm 40), .ref (rm 41), .ref (rm 42), .int 0, .int 0, .long 1, .ref (rm 43), .int 0, .int 0, .int (-1), .int 0, .int 0, .int 0, .int 0, .ref (rm 44), .ref (rm 45), .ref (rm 46), .ref (rm 47), .int 0])), ((rm 1), .inl ((km 0), 1600, .inl f)), ((rm 2), .inl ((km 1), 7, .inl (fun _ => 0))), ((rm 22), .inl ((km 2), 422, .inl (fun _ => 0))), ((rm 23), .inl ((km 3), 422, .inl (fun _ => 0)))]
def wd_707 (rm : Nat → Nat) (km : Nat → ClassId) (f985 : Nat → Int32) : va_W := [((rm 0), .inr (12, [.ref (rm 1), .int 16, .int 0, .int 0, .int 0, .int 0, .int 0, .int 0, .int (-1), .ref (rm 2), .ref (rm 3), .ref (rm 4), .ref (rm 5), .ref (rm 6), .ref (rm 7), .ref (rm 8), .ref (rm 9), .ref (rm 10), .ref (rm 11), .ref (rm 12), .ref (rm 13), .ref (rm 14), .ref (rm 15), .ref (rm 16), .int 0, .int 0, .int 0, .int 0, .int 0, .ref (rm 17), .ref (rm 18), .ref (rm 19), .ref (rm 20), .ref (rm 21), .int 0, .ref (rm 22), .ref (rm 23), .ref (rm 24), .int 0, .int 0, .int 0, .ref (rm 25), .ref (rm 26), .ref (rm 27), .int 0, .ref (rm 28), .ref (rm 29), .int 0, .ref (rm 30), .ref (rm 31), .int 0, .ref (rm 32), .ref (rm 33), .int 0, .ref (rm 34), .ref (rm 35), .int 0, .int 0, .int 0, .ref (rm 36), .ref (rm 37), .int 0, .ref (rm 38), .ref (rm 39), .int 0, .ref (rm 40), .ref (rm 41), .ref (rm 42), .int 0, .int 0, .long 1, .ref (rm 43), .int 0, .int 0, .int (-1), .int 0, .int 0, .int 0, .int 0, .ref (rm 44), .ref (rm 45), .ref (rm 46), .ref (rm 47), .int 0])), ((rm 1), .inl ((km 0), 1600, .inl f985)), ((rm 2), .inl ((km 1), 7, .inl (fun _ => 0))), ((rm 22), .inl ((km 2), 422, .inl (fun _ => 0))), ((rm 23), .inl ((km 3), 422, .inl (fun _ => 0)))]
def wd_708 (rm : Nat → Nat) (km : Nat → ClassId) (f985 : Nat → Int32) : va_W := [((rm 0), .inr (12, [.ref (rm 1), .int 17, .int 0, .int 0, .int 0, .int 0, .int 0, .int 0, .int (-1), .ref (rm 2), .ref (rm 3), .ref (rm 4), .ref (rm 5), .ref (rm 6), .ref (rm 7), .ref (rm 8), .ref (rm 9), .ref (rm 10), .ref (rm 11), .ref (rm 12), .ref (rm 13), .ref (rm 14), .ref (rm 15), .ref (rm 16), .int 0, .int 0, .int 0, .int 0, .int 0, .ref (rm 17), .ref (rm 18), .ref (rm 19), .ref (rm 20), .ref (rm 21), .int 0, .ref (rm 22), .ref (rm 23), .ref (rm 24), .int 0, .int 0, .int 0, .ref (rm 25), .ref (rm 26), .ref (rm 27), .int 0, .ref (rm 28), .ref (rm 29), .int 0, .ref (rm 30), .ref (rm 31), .int 0, .ref (rm 32), .ref (rm 33), .int 0, .ref (rm 34), .ref (rm 35), .int 0, .int 0, .int 0, .ref (rm 36), .ref (rm 37), .int 0, .ref (rm 38), .ref (rm 39), .int 0, .ref (rm 40), .ref (rm 41), .ref (rm 42), .int 0, .int 0, .long 1, .ref (rm 43), .int 0, .int 0, .int (-1), .int 0, .int 0, .int 0, .int 0, .ref (rm 44), .ref (rm 45), .ref (rm 46), .ref (rm 47), .int 0])), ((rm 1), .inl ((km 0), 1600, .inl f985)), ((rm 2), .inl ((km 1), 7, .inl (fun _ => 0))), ((rm 22), .inl ((km 2), 422, .inl (fun _ => 0))), ((rm 23), .inl ((km 3), 422, .inl (fun _ => 0)))]
def wd_709 (rm : Nat → Nat) (km : Nat → ClassId) (f : Nat → Int32) : va_W := [((rm 0), .inr (12, [.ref (rm 1), .int 17, .int 0, .int 0, .int 0, .int 0, .int 0, .int 0, .int (-1), .ref (rm 2), .ref (rm 3), .ref (rm 4), .ref (rm 5), .ref (rm 6), .ref (rm 7), .ref (rm 8), .ref (rm 9), .ref (rm 10), .ref (rm 11), .ref (rm 12), .ref (rm 13), .ref (rm 14), .ref (rm 15), .ref (rm 16), .int 0, .int 0, .int 0, .int 0, .int 0, .ref (rm 17), .ref (rm 18), .ref (rm 19), .ref (rm 20), .ref (rm 21), .int 0, .ref (rm 22), .ref (rm 23), .ref (rm 24), .int 0, .int 0, .int 0, .ref (rm 25), .ref (rm 26), .ref (rm 27), .int 0, .ref (rm 28), .ref (rm 29), .int 0, .ref (rm 30), .ref (rm 31), .int 0, .ref (rm 32), .ref (rm 33), .int 0, .ref (rm 34), .ref (rm 35), .int 0, .int 0, .int 0, .ref (rm 36), .ref (rm 37), .int 0, .ref (rm 38), .ref (rm 39), .int 0, .ref (rm 40), .ref (rm 41), .ref (rm 42), .int 0, .int 0, .long 1, .ref (rm 43), .int 0, .int 0, .int (-1), .int 0, .int 0, .int 0, .int 0, .ref (rm 44), .ref (rm 45), .ref (rm 46), .ref (rm 47), .int 0])), ((rm 1), .inl ((km 0), 1600, .inl f)), ((rm 2), .inl ((km 1), 7, .inl (fun _ => 0))), ((rm 22), .inl ((km 2), 422, .inl (fun _ => 0))), ((rm 23), .inl ((km 3), 422, .inl (fun _ => 0)))]
def wd_710 (rm : Nat → Nat) (km : Nat → ClassId) (f992 : Nat → Int32) : va_W := [((rm 0), .inr (12, [.ref (rm 1), .int 17, .int 0, .int 0, .int 0, .int 0, .int 0, .int 0, .int (-1), .ref (rm 2), .ref (rm 3), .ref (rm 4), .ref (rm 5), .ref (rm 6), .ref (rm 7), .ref (rm 8), .ref (rm 9), .ref (rm 10), .ref (rm 11), .ref (rm 12), .ref (rm 13), .ref (rm 14), .ref (rm 15), .ref (rm 16), .int 0, .int 0, .int 0, .int 0, .int 0, .ref (rm 17), .ref (rm 18), .ref (rm 19), .ref (rm 20), .ref (rm 21), .int 0, .ref (rm 22), .ref (rm 23), .ref (rm 24), .int 0, .int 0, .int 0, .ref (rm 25), .ref (rm 26), .ref (rm 27), .int 0, .ref (rm 28), .ref (rm 29), .int 0, .ref (rm 30), .ref (rm 31), .int 0, .ref (rm 32), .ref (rm 33), .int 0, .ref (rm 34), .ref (rm 35), .int 0, .int 0, .int 0, .ref (rm 36), .ref (rm 37), .int 0, .ref (rm 38), .ref (rm 39), .int 0, .ref (rm 40), .ref (rm 41), .ref (rm 42), .int 0, .int 0, .long 1, .ref (rm 43), .int 0, .int 0, .int (-1), .int 0, .int 0, .int 0, .int 0, .ref (rm 44), .ref (rm 45), .ref (rm 46), .ref (rm 47), .int 0])), ((rm 1), .inl ((km 0), 1600, .inl f992)), ((rm 2), .inl ((km 1), 7, .inl (fun _ => 0))), ((rm 22), .inl ((km 2), 422, .inl (fun _ => 0))), ((rm 23), .inl ((km 3), 422, .inl (fun _ => 0)))]
def wd_711 (rm : Nat → Nat) (km : Nat → ClassId) (f992 : Nat → Int32) : va_W := [((rm 0), .inr (12, [.ref (rm 1), .int 18, .int 0, .int 0, .int 0, .int 0, .int 0, .int 0, .int (-1), .ref (rm 2), .ref (rm 3), .ref (rm 4), .ref (rm 5), .ref (rm 6), .ref (rm 7), .ref (rm 8), .ref (rm 9), .ref (rm 10), .ref (rm 11), .ref (rm 12), .ref (rm 13), .ref (rm 14), .ref (rm 15), .ref (rm 16), .int 0, .int 0, .int 0, .int 0, .int 0, .ref (rm 17), .ref (rm 18), .ref (rm 19), .ref (rm 20), .ref (rm 21), .int 0, .ref (rm 22), .ref (rm 23), .ref (rm 24), .int 0, .int 0, .int 0, .ref (rm 25), .ref (rm 26), .ref (rm 27), .int 0, .ref (rm 28), .ref (rm 29), .int 0, .ref (rm 30), .ref (rm 31), .int 0, .ref (rm 32), .ref (rm 33), .int 0, .ref (rm 34), .ref (rm 35), .int 0, .int 0, .int 0, .ref (rm 36), .ref (rm 37), .int 0, .ref (rm 38), .ref (rm 39), .int 0, .ref (rm 40), .ref (rm 41), .ref (rm 42), .int 0, .int 0, .long 1, .ref (rm 43), .int 0, .int 0, .int (-1), .int 0, .int 0, .int 0, .int 0, .ref (rm 44), .ref (rm 45), .ref (rm 46), .ref (rm 47), .int 0])), ((rm 1), .inl ((km 0), 1600, .inl f992)), ((rm 2), .inl ((km 1), 7, .inl (fun _ => 0))), ((rm 22), .inl ((km 2), 422, .inl (fun _ => 0))), ((rm 23), .inl ((km 3), 422, .inl (fun _ => 0)))]
def wd_712 (rm : Nat → Nat) (km : Nat → ClassId) (f : Nat → Int32) : va_W := [((rm 0), .inr (12, [.ref (rm 1), .int 18, .int 0, .int 0, .int 0, .int 0, .int 0, .int 0, .int (-1), .ref (rm 2), .ref (rm 3), .ref (rm 4), .ref (rm 5), .ref (rm 6), .ref (rm 7), .ref (rm 8), .ref (rm 9), .ref (rm 10), .ref (rm 11), .ref (rm 12), .ref (rm 13), .ref (rm 14), .ref (rm 15), .ref (rm 16), .int 0, .int 0, .int 0, .int 0, .int 0, .ref (rm 17), .ref (rm 18), .ref (rm 19), .ref (rm 20), .ref (rm 21), .int 0, .ref (rm 22), .ref (rm 23), .ref (rm 24), .int 0, .int 0, .int 0, .ref (rm 25), .ref (rm 26), .ref (rm 27), .int 0, .ref (rm 28), .ref (rm 29), .int 0, .ref (rm 30), .ref (rm 31), .int 0, .ref (rm 32), .ref (rm 33), .int 0, .ref (rm 34), .ref (rm 35), .int 0, .int 0, .int 0, .ref (rm 36), .ref (rm 37), .int 0, .ref (rm 38), .ref (rm 39), .int 0, .ref (rm 40), .ref (rm 41), .ref (rm 42), .int 0, .int 0, .long 1, .ref (rm 43), .int 0, .int 0, .int (-1), .int 0, .int 0, .int 0, .int 0, .ref (rm 44), .ref (rm 45), .ref (rm 46), .ref (rm 47), .int 0])), ((rm 1), .inl ((km 0), 1600, .inl f)), ((rm 2), .inl ((km 1), 7, .inl (fun _ => 0))), ((rm 22), .inl ((km 2), 422, .inl (fun _ => 0))), ((rm 23), .inl ((km 3), 422, .inl (fun _ => 0)))]
def wd_713 (rm : Nat → Nat) (km : Nat → ClassId) (f999 : Nat → Int32) : va_W := [((rm 0), .inr (12, [.ref (rm 1), .int 18, .int 0, .int 0, .int 0, .int 0, .int 0, .int 0, .int (-1), .ref (rm 2), .ref (rm 3), .ref (rm 4), .ref (rm 5), .ref (rm 6), .ref (rm 7), .ref (rm 8), .ref (rm 9), .ref (rm 10), .ref (rm 11), .ref (rm 12), .ref (rm 13), .ref (rm 14), .ref (rm 15), .ref (rm 16), .int 0, .int 0, .int 0, .int 0, .int 0, .ref (rm 17), .ref (rm 18), .ref (rm 19), .ref (rm 20), .ref (rm 21), .int 0, .ref (rm 22), .ref (rm 23), .ref (rm 24), .int 0, .int 0, .int 0, .ref (rm 25), .ref (rm 26), .ref (rm 27), .int 0, .ref (rm 28), .ref (rm 29), .int 0, .ref (rm 30), .ref (rm 31), .int 0, .ref (rm 32), .ref (rm 33), .int 0, .ref (rm 34), .ref (rm 35), .int 0, .int 0, .int 0, .ref (rm 36), .ref (rm 37), .int 0, .ref (rm 38), .ref (rm 39), .int 0, .ref (rm 40), .ref (rm 41), .ref (rm 42), .int 0, .int 0, .long 1, .ref (rm 43), .int 0, .int 0, .int (-1), .int 0, .int 0, .int 0, .int 0, .ref (rm 44), .ref (rm 45), .ref (rm 46), .ref (rm 47), .int 0])), ((rm 1), .inl ((km 0), 1600, .inl f999)), ((rm 2), .inl ((km 1), 7, .inl (fun _ => 0))), ((rm 22), .inl ((km 2), 422, .inl (fun _ => 0))), ((rm 23), .inl ((km 3), 422, .inl (fun _ => 0)))]
def wd_714 (rm : Nat → Nat) (km : Nat → ClassId) (f999 : Nat → Int32) : va_W := [((rm 0), .inr (12, [.ref (rm 1), .int 19, .int 0, .int 0, .int 0, .int 0, .int 0, .int 0, .int (-1), .ref (rm 2), .ref (rm 3), .ref (rm 4), .ref (rm 5), .ref (rm 6), .ref (rm 7), .ref (rm 8), .ref (rm 9), .ref (rm 10), .ref (rm 11), .ref (rm 12), .ref (rm 13), .ref (rm 14), .ref (rm 15), .ref (rm 16), .int 0, .int 0, .int 0, .int 0, .int 0, .ref (rm 17), .ref (rm 18), .ref (rm 19), .ref (rm 20), .ref (rm 21), .int 0, .ref (rm 22), .ref (rm 23), .ref (rm 24), .int 0, .int 0, .int 0, .ref (rm 25), .ref (rm 26), .ref (rm 27), .int 0, .ref (rm 28), .ref (rm 29), .int 0, .ref (rm 30), .ref (rm 31), .int 0, .ref (rm 32), .ref (rm 33), .int 0, .ref (rm 34), .ref (rm 35), .int 0, .int 0, .int 0, .ref (rm 36), .ref (rm 37), .int 0, .ref (rm 38), .ref (rm 39), .int 0, .ref (rm 40), .ref (rm 41), .ref (rm 42), .int 0, .int 0, .long 1, .ref (rm 43), .int 0, .int 0, .int (-1), .int 0, .int 0, .int 0, .int 0, .ref (rm 44), .ref (rm 45), .ref (rm 46), .ref (rm 47), .int 0])), ((rm 1), .inl ((km 0), 1600, .inl f999)), ((rm 2), .inl ((km 1), 7, .inl (fun _ => 0))), ((rm 22), .inl ((km 2), 422, .inl (fun _ => 0))), ((rm 23), .inl ((km 3), 422, .inl (fun _ => 0)))]
def wd_715 (rm : Nat → Nat) (km : Nat → ClassId) (f : Nat → Int32) : va_W := [((rm 0), .inr (12, [.ref (rm 1), .int 19, .int 0, .int 0, .int 0, .int 0, .int 0, .int 0, .int (-1), .ref (rm 2), .ref (rm 3), .ref (rm 4), .ref (rm 5), .ref (rm 6), .ref (rm 7), .ref (rm 8), .ref (rm 9), .ref (rm 10), .ref (rm 11), .ref (rm 12), .ref (rm 13), .ref (rm 14), .ref (rm 15), .ref (rm 16), .int 0, .int 0, .int 0, .int 0, .int 0, .ref (rm 17), .ref (rm 18), .ref (rm 19), .ref (rm 20), .ref (rm 21), .int 0, .ref (rm 22), .ref (rm 23), .ref (rm 24), .int 0, .int 0, .int 0, .ref (rm 25), .ref (rm 26), .ref (rm 27), .int 0, .ref (rm 28), .ref (rm 29), .int 0, .ref (rm 30), .ref (rm 31), .int 0, .ref (rm 32), .ref (rm 33), .int 0, .ref (rm 34), .ref (rm 35), .int 0, .int 0, .int 0, .ref (rm 36), .ref (rm 37), .int 0, .ref (rm 38), .ref (rm 39), .int 0, .ref (rm 40), .ref (rm 41), .ref (rm 42), .int 0, .int 0, .long 1, .ref (rm 43), .int 0, .int 0, .int (-1), .int 0, .int 0, .int 0, .int 0, .ref (rm 44), .ref (rm 45), .ref (rm 46), .ref (rm 47), .int 0])), ((rm 1), .inl ((km 0), 1600, .inl f)), ((rm 2), .inl ((km 1), 7, .inl (fun _ => 0))), ((rm 22), .inl ((km 2), 422, .inl (fun _ => 0))), ((rm 23), .inl ((km 3), 422, .inl (fun _ => 0)))]
def wd_716 (rm : Nat → Nat) (km : Nat → ClassId) (f1006 : Nat → Int32) : va_W := [((rm 0), .inr (12, [.ref (rm 1), .int 19, .int 0, .int 0, .int 0, .int 0, .int 0, .int 0, .int (-1), .ref (rm 2), .ref (rm 3), .ref (rm 4), .ref (rm 5), .ref (rm 6), .ref (rm 7), .ref (rm 8), .ref (rm 9), .ref (rm 10), .ref (rm 11), .ref (rm 12), .ref (rm 13), .ref (rm 14), .ref (rm 15), .ref (rm 16), .int 0, .int 0, .int 0, .int 0, .int 0, .ref (rm 17), .ref (rm 18), .ref (rm 19), .ref (rm 20), .ref (rm 21), .int 0, .ref (rm 22), .ref (rm 23), .ref (rm 24), .int 0, .int 0, .int 0, .ref (rm 25), .ref (rm 26), .ref (rm 27), .int 0, .ref (rm 28), .ref (rm 29), .int 0, .ref (rm 30), .ref (rm 31), .int 0, .ref (rm 32), .ref (rm 33), .int 0, .ref (rm 34), .ref (rm 35), .int 0, .int 0, .int 0, .ref (rm 36), .ref (rm 37), .int 0, .ref (rm 38), .ref (rm 39), .int 0, .ref (rm 40), .ref (rm 41), .ref (rm 42), .int 0, .int 0, .long 1, .ref (rm 43), .int 0, .int 0, .int (-1), .int 0, .int 0, .int 0, .int 0, .ref (rm 44), .ref (rm 45), .ref (rm 46), .ref (rm 47), .int 0])), ((rm 1), .inl ((km 0), 1600, .inl f1006)), ((rm 2), .inl ((km 1), 7, .inl (fun _ => 0))), ((rm 22), .inl ((km 2), 422, .inl (fun _ => 0))), ((rm 23), .inl ((km 3), 422, .inl (fun _ => 0)))]
def wd_717 (rm : Nat → Nat) (km : Nat → ClassId) (f1006 : Nat → Int32) : va_W := [((rm 0), .inr (12, [.ref (rm 1), .int 20, .int 0, .int 0, .int 0, .int 0, .int 0, .int 0, .int (-1), .ref (rm 2), .ref (rm 3), .ref (rm 4), .ref (rm 5), .ref (rm 6), .ref (rm 7), .ref (rm 8), .ref (rm 9), .ref (rm 10), .ref (rm 11), .ref (rm 12), .ref (rm 13), .ref (rm 14), .ref (rm 15), .ref (rm 16), .int 0, .int 0, .int 0, .int 0, .int 0, .ref (rm 17), .ref (rm 18), .ref (rm 19), .ref (rm 20), .ref (rm 21), .int 0, .ref (rm 22), .ref (rm 23), .ref (rm 24), .int 0, .int 0, .int 0, .ref (rm 25), .ref (rm 26), .ref (rm 27), .int 0, .ref (rm 28), .ref (rm 29), .int 0, .ref (rm 30), .ref (rm 31), .int 0, .ref (rm 32), .ref (rm 33), .int 0, .ref (rm 34), .ref (rm 35), .int 0, .int 0, .int 0, .ref (rm 36), .ref (rm 37), .int 0, .ref (rm 38), .ref (rm 39), .int 0, .ref (rm 40), .ref (rm 41), .ref (rm 42), .int 0, .int 0, .long 1, .ref (rm 43), .int 0, .int 0, .int (-1), .int 0, .int 0, .int 0, .int 0, .ref (rm 44), .ref (rm 45), .ref (rm 46), .ref (rm 47), .int 0])), ((rm 1), .inl ((km 0), 1600, .inl f1006)), ((rm 2), .inl ((km 1), 7, .inl (fun _ => 0))), ((rm 22), .inl ((km 2), 422, .inl (fun _ => 0))), ((rm 23), .inl ((km 3), 422, .inl (fun _ => 0)))]
def wd_718 (rm : Nat → Nat) (km : Nat → ClassId) (f1014 : Nat → Int32) : va_W := [((rm 0), .inr (12, [.ref (rm 1), .int 0, .int 0, .int 0, .int 0, .int 0, .int 0, .int 0, .int (-1), .ref (rm 2), .ref (rm 3), .ref (rm 4), .ref (rm 5), .ref (rm 6), .ref (rm 7), .ref (rm 8), .ref (rm 9), .ref (rm 10), .ref (rm 11), .ref (rm 12), .ref (rm 13), .ref (rm 14), .ref (rm 15), .ref (rm 16), .int 0, .int 0, .int 0, .int 0, .int 0, .ref (rm 17), .ref (rm 18), .ref (rm 19), .ref (rm 20), .ref (rm 21), .int 0, .ref (rm 22), .ref (rm 23), .ref (rm 24), .int 0, .int 0, .int 0, .ref (rm 25), .ref (rm 26), .ref (rm 27), .int 0, .ref (rm 28), .ref (rm 29), .int 0, .ref (rm 30), .ref (rm 31), .int 0, .ref (rm 32), .ref (rm 33), .int 0, .ref (rm 34), .ref (rm 35), .int 0, .int 0, .int 0, .ref (rm 36), .ref (rm 37), .int 0, .ref (rm 38), .ref (rm 39), .int 0, .ref (rm 40), .ref (rm 41), .ref (rm 42), .int 0, .int 0, .long 1, .ref (rm 43), .int 0, .int 0, .int (-1), .int 0, .int 0, .int 0, .int 0, .ref (rm 44), .ref (rm 45), .ref (rm 46), .ref (rm 47), .int 0])), ((rm 1), .inl ((km 0), 1600, .inl f1014)), ((rm 2), .inl ((km 1), 7, .inl (fun _ => 0))), ((rm 22), .inl ((km 2), 422, .inl (fun _ => 0))), ((rm 23), .inl ((km 3), 422, .inl (fun _ => 0)))]
def wd_719 (rm : Nat → Nat) (km : Nat → ClassId) (f1014 : Nat → Int32) : va_W := [((rm 0), .inr (12, [.ref (rm 1), .int 1, .int 0, .int 0, .int 0, .int 0, .int 0, .int 0, .int (-1), .ref (rm 2), .ref (rm 3), .ref (rm 4), .ref (rm 5), .ref (rm 6), .ref (rm 7), .ref (rm 8), .ref (rm 9), .ref (rm 10), .ref (rm 11), .ref (rm 12), .ref (rm 13), .ref (rm 14), .ref (rm 15), .ref (rm 16), .int 0, .int 0, .int 0, .int 0, .int 0, .ref (rm 17), .ref (rm 18), .ref (rm 19), .ref (rm 20), .ref (rm 21), .int 0, .ref (rm 22), .ref (rm 23), .ref (rm 24), .int 0, .int 0, .int 0, .ref (rm 25), .ref (rm 26), .ref (rm 27), .int 0, .ref (rm 28), .ref (rm 29), .int 0, .ref (rm 30), .ref (rm 31), .int 0, .ref (rm 32), .ref (rm 33), .int 0, .ref (rm 34), .ref (rm 35), .int 0, .int 0, .int 0, .ref (rm 36), .ref (rm 37), .int 0, .ref (rm 38), .ref (rm 39), .int 0, .ref (rm 40), .ref (rm 41), .ref (rm 42), .int 0, .int 0, .long 1, .ref (rm 43), .int 0, .int 0, .int (-1), .int 0, .int 0, .int 0, .int 0, .ref (rm 44), .ref (rm 45), .ref (rm 46), .ref (rm 47), .int 0])), ((rm 1), .inl ((km 0), 1600, .inl f1014)), ((rm 2), .inl ((km 1), 7, .inl (fun _ => 0))), ((rm 22), .inl ((km 2), 422, .inl (fun _ => 0))), ((rm 23), .inl ((km 3), 422, .inl (fun _ => 0)))]
def wd_720 (rm : Nat → Nat) (km : Nat → ClassId) (f1021 : Nat → Int32) : va_W := [((rm 0), .inr (12, [.ref (rm 1), .int 1, .int 0, .int 0, .int 0, .int 0, .int 0, .int 0, .int (-1), .ref (rm 2), .ref (rm 3), .ref (rm 4), .ref (rm 5), .ref (rm 6), .ref (rm 7), .ref (rm 8), .ref (rm 9), .ref (rm 10), .ref (rm 11), .ref (rm 12), .ref (rm 13), .ref (rm 14), .ref (rm 15), .ref (rm 16), .int 0, .int 0, .int 0, .int 0, .int 0, .ref (rm 17), .ref (rm 18), .ref (rm 19), .ref (rm 20), .ref (rm 21), .int 0, .ref (rm 22), .ref (rm 23), .ref (rm 24), .int 0, .int 0, .int 0, .ref (rm 25), .ref (rm 26), .ref (rm 27), .int 0, .ref (rm 28), .ref (rm 29), .int 0, .ref (rm 30), .ref (rm 31), .int 0, .ref (rm 32), .ref (rm 33), .int 0, .ref (rm 34), .ref (rm 35), .int 0, .int 0, .int 0, .ref (rm 36), .ref (rm 37), .int 0, .ref (rm 38), .ref (rm 39), .int 0, .ref (rm 40), .ref (rm 41), .ref (rm 42), .int 0, .int 0, .long 1, .ref (rm 43), .int 0, .int 0, .int (-1), .int 0, .int 0, .int 0, .int 0, .ref (rm 44), .ref (rm 45), .ref (rm 46), .ref (rm 47), .int 0])), ((rm 1), .inl ((km 0), 1600, .inl f1021)), ((rm 2), .inl ((km 1), 7, .inl (fun _ => 0))), ((rm 22), .inl ((km 2), 422, .inl (fun _ => 0))), ((rm 23), .inl ((km 3), 422, .inl (fun _ => 0)))]
def wd_721 (rm : Nat → Nat) (km : Nat → ClassId) (f1021 : Nat → Int32) : va_W := [((rm 0), .inr (12, [.ref (rm 1), .int 2, .int 0, .int 0, .int 0, .int 0, .int 0, .int 0, .int (-1), .ref (rm 2), .ref (rm 3), .ref (rm 4), .ref (rm 5), .ref (rm 6), .ref (rm 7), .ref (rm 8), .ref (rm 9), .ref (rm 10), .ref (rm 11), .ref (rm 12), .ref (rm 13), .ref (rm 14), .ref (rm 15), .ref (rm 16), .int 0, .int 0, .int 0, .int 0, .int 0, .ref (rm 17), .ref (rm 18), .ref (rm 19), .ref (rm 20), .ref (rm 21), .int 0, .ref (rm 22), .ref (rm 23), .ref (rm 24), .int 0, .int 0, .int 0, .ref (rm 25), .ref (rm 26), .ref (rm 27), .int 0, .ref (rm 28), .ref (rm 29), .int 0, .ref (rm 30), .ref (rm 31), .int 0, .ref (rm 32), .ref (rm 33), .int 0, .ref (rm 34), .ref (rm 35), .int 0, .int 0, .int 0, .ref (rm 36), .ref (rm 37), .int 0, .ref (rm 38), .ref (rm 39), .int 0, .ref (rm 40), .ref (rm 41), .ref (rm 42), .int 0, .int 0, .long 1, .ref (rm 43), .int 0, .int 0, .int (-1), .int 0, .int 0, .int 0, .int 0, .ref (rm 44), .ref (rm 45), .ref (rm 46), .ref (rm 47), .int 0])), ((rm 1), .inl ((km 0), 1600, .inl f1021)), ((rm 2), .inl ((km 1), 7, .inl (fun _ => 0))), ((rm 22), .inl ((km 2), 422, .inl (fun _ => 0))), ((rm 23), .inl ((km 3), 422, .inl (fun _ => 0)))]
def wd_722 (rm : Nat → Nat) (km : Nat → ClassId) (f1028 : Nat → Int32) : va_W := [((rm 0), .inr (12, [.ref (rm 1), .int 2, .int 0, .int 0, .int 0, .int 0, .int 0, .int 0, .int (-1), .ref (rm 2), .ref (rm 3), .ref (rm 4), .ref (rm 5), .ref (rm 6), .ref (rm 7), .ref (rm 8), .ref (rm 9), .ref (rm 10), .ref (rm 11), .ref (rm 12), .ref (rm 13), .ref (rm 14), .ref (rm 15), .ref (rm 16), .int 0, .int 0, .int 0, .int 0, .int 0, .ref (rm 17), .ref (rm 18), .ref (rm 19), .ref (rm 20), .ref (rm 21), .int 0, .ref (rm 22), .ref (rm 23), .ref (rm 24), .int 0, .int 0, .int 0, .ref (rm 25), .ref (rm 26), .ref (rm 27), .int 0, .ref (rm 28), .ref (rm 29), .int 0, .ref (rm 30), .ref (rm 31), .int 0, .ref (rm 32), .ref (rm 33), .int 0, .ref (rm 34), .ref (rm 35), .int 0, .int 0, .int 0, .ref (rm 36), .ref (rm 37), .int 0, .ref (rm 38), .ref (rm 39), .int 0, .ref (rm 40), .ref (rm 41), .ref (rm 42), .int 0, .int 0, .long 1, .ref (rm 43), .int 0, .int 0, .int (-1), .int 0, .int 0, .int 0, .int 0, .ref (rm 44), .ref (rm 45), .ref (rm 46), .ref (rm 47), .int 0])), ((rm 1), .inl ((km 0), 1600, .inl f1028)), ((rm 2), .inl ((km 1), 7, .inl (fun _ => 0))), ((rm 22), .inl ((km 2), 422, .inl (fun _ => 0))), ((rm 23), .inl ((km 3), 422, .inl (fun _ => 0)))]
def wd_723 (rm : Nat → Nat) (km : Nat → ClassId) (f1028 : Nat → Int32) : va_W := [((rm 0), .inr (12, [.ref (rm 1), .int 3, .int 0, .int 0, .int 0, .int 0, .int 0, .int 0, .int (-1), .ref (rm 2), .ref (rm 3), .ref (rm 4), .ref (rm 5), .ref (rm 6), .ref (rm 7), .ref (rm 8), .ref (rm 9), .ref (rm 10), .ref (rm 11), .ref (rm 12), .ref (rm 13), .ref (rm 14), .ref (rm 15), .ref (rm 16), .int 0, .int 0, .int 0, .int 0, .int 0, .ref (rm 17), .ref (rm 18), .ref (rm 19), .ref (rm 20), .ref (rm 21), .int 0, .ref (rm 22), .ref (rm 23), .ref (rm 24), .int 0, .int 0, .int 0, .ref (rm 25), .ref (rm 26), .ref (rm 27), .int 0, .ref (rm 28), .ref (rm 29), .int 0, .ref (rm 30), .ref (rm 31), .int 0, .ref (rm 32), .ref (rm 33), .int 0, .ref (rm 34), .ref (rm 35), .int 0, .int 0, .int 0, .ref (rm 36), .ref (rm 37), .int 0, .ref (rm 38), .ref (rm 39), .int 0, .ref (rm 40), .ref (rm 41), .ref (rm 42), .int 0, .int 0, .long 1, .ref (rm 43), .int 0, .int 0, .int (-1), .int 0, .int 0, .int 0, .int 0, .ref (rm 44), .ref (rm 45), .ref (rm 46), .ref (rm 47), .int 0])), ((rm 1), .inl ((km 0), 1600, .inl f1028)), ((rm 2), .inl ((km 1), 7, .inl (fun _ => 0))), ((rm 22), .inl ((km 2), 422, .inl (fun _ => 0))), ((rm 23), .inl ((km 3), 422, .inl (fun _ => 0)))]
def wd_724 (rm : Nat → Nat) (km : Nat → ClassId) (f1035 : Nat → Int32) : va_W := [((rm 0), .inr (12, [.ref (rm 1), .int 3, .int 0, .int 0, .int 0, .int 0, .int 0, .int 0, .int (-1), .ref (rm 2), .ref (rm 3), .ref (rm 4), .ref (rm 5), .ref (rm 6), .ref (rm 7), .ref (rm 8), .ref (rm 9), .ref (rm 10), .ref (rm 11), .ref (rm 12), .ref (rm 13), .ref (rm 14), .ref (rm 15), .ref (rm 16), .int 0, .int 0, .int 0, .int 0, .int 0, .ref (rm 17), .ref (rm 18), .ref (rm 19), .ref (rm 20), .ref (rm 21), .int 0, .ref (rm 22), .ref (rm 23), .ref (rm 24), .int 0, .int 0, .int 0, .ref (rm 25), .ref (rm 26), .ref (rm 27), .int 0, .ref (rm 28), .ref (rm 29), .int 0, .ref (rm 30), .ref (rm 31), .int 0, .ref (rm 32), .ref (rm 33), .int 0, .ref (rm 34), .ref (rm 35), .int 0, .int 0, .int 0, .ref (rm 36), .ref (rm 37), .int 0, .ref (rm 38), .ref (rm 39), .int 0, .ref (rm 40), .ref (rm 41), .ref (rm 42), .int 0, .int 0, .long 1, .ref (rm 43), .int 0, .int 0, .int (-1), .int 0, .int 0, .int 0, .int 0, .ref (rm 44), .ref (rm 45), .ref (rm 46), .ref (rm 47), .int 0])), ((rm 1), .inl ((km 0), 1600, .inl f1035)), ((rm 2), .inl ((km 1), 7, .inl (fun _ => 0))), ((rm 22), .inl ((km 2), 422, .inl (fun _ => 0))), ((rm 23), .inl ((km 3), 422, .inl (fun _ => 0)))]
def wd_725 (rm : Nat → Nat) (km : Nat → ClassId) (f1035 : Nat → Int32) : va_W := [((rm 0), .inr (12, [.ref (rm 1), .int 4, .int 0, .int 0, .int 0, .int 0, .int 0, .int 0, .int (-1), .ref (rm 2), .ref (rm 3), .ref (rm 4), .ref (rm 5), .ref (rm 6), .ref (rm 7), .ref (rm 8), .ref (rm 9), .ref (rm 10), .ref (rm 11), .ref (rm 12), .ref (rm 13), .ref (rm 14), .ref (rm 15), .ref (rm 16), .int 0, .int 0, .int 0, .int 0, .int 0, .ref (rm 17), .ref (rm 18), .ref (rm 19), .ref (rm 20), .ref (rm 21), .int 0, .ref (rm 22), .ref (rm 23), .ref (rm 24), .int 0, .int 0, .int 0, .ref (rm 25), .ref (rm 26), .ref (rm 27), .int 0, .ref (rm 28), .ref (rm 29), .int 0, .ref (rm 30), .ref (rm 31), .int 0, .ref (rm 32), .ref (rm 33), .int 0, .ref (rm 34), .ref (rm 35), .int 0, .int 0, .int 0, .ref (rm 36), .ref (rm 37), .int 0, .ref (rm 38), .ref (rm 39), .int 0, .ref (rm 40), .ref (rm 41), .ref (rm 42), .int 0, .int 0, .long 1, .ref (rm 43), .int 0, .int 0, .int (-1), .int 0, .int 0, .int 0, .int 0, .ref (rm 44), .ref (rm 45), .ref (rm 46), .ref (rm 47), .int 0])), ((rm 1), .inl ((km 0), 1600, .inl f1035)), ((rm 2), .inl ((km 1), 7, .inl (fun _ => 0))), ((rm 22), .inl ((km 2), 422, .inl (fun _ => 0))), ((rm 23), .inl ((km 3), 422, .inl (fun _ => 0)))]
def wd_726 (rm : Nat → Nat) (km : Nat → ClassId) (f1042 : Nat → Int32) : va_W := [((rm 0), .inr (12, [.ref (rm 1), .int 4, .int 0, .int 0, .int 0, .int 0, .int 0, .int 0, .int (-1), .ref (rm 2), .ref (rm 3), .ref (rm 4), .ref (rm 5), .ref (rm 6), .ref (rm 7), .ref (rm 8), .ref (rm 9), .ref (rm 10), .ref (rm 11), .ref (rm 12), .ref (rm 13), .ref (rm 14), .ref (rm 15), .ref (rm 16), .int 0, .int 0, .int 0, .int 0, .int 0, .ref (rm 17), .ref (rm 18), .ref (rm 19), .ref (rm 20), .ref (rm 21), .int 0, .ref (rm 22), .ref (rm 23), .ref (rm 24), .int 0, .int 0, .int 0, .ref (rm 25), .ref (rm 26), .ref (rm 27), .int 0, .ref (rm 28), .ref (rm 29), .int 0, .ref (rm 30), .ref (rm 31), .int 0, .ref (rm 32), .ref (rm 33), .int 0, .ref (rm 34), .ref (rm 35), .int 0, .int 0, .int 0, .ref (rm 36), .ref (rm 37), .int 0, .ref (rm 38), .ref (rm 39), .int 0, .ref (rm 40), .ref (rm 41), .ref (rm 42), .int 0, .int 0, .long 1, .ref (rm 43), .int 0, .int 0, .int (-1), .int 0, .int 0, .int 0, .int 0, .ref (rm 44), .ref (rm 45), .ref (rm 46), .ref (rm 47), .int 0])), ((rm 1), .inl ((km 0), 1600, .inl f1042)), ((rm 2), .inl ((km 1), 7, .inl (fun _ => 0))), ((rm 22), .inl ((km 2), 422, .inl (fun _ => 0))), ((rm 23), .inl ((km 3), 422, .inl (fun _ => 0)))]
def wd_727 (rm : Nat → Nat) (km : Nat → ClassId) (f1042 : Nat → Int32) : va_W := [((rm 0), .inr (12, [.ref (rm 1), .int 5, .int 0, .int 0, .int 0, .int 0, .int 0, .int 0, .int (-1), .ref (rm 2), .ref (rm 3), .ref (rm 4), .ref (rm 5), .ref (rm 6), .ref (rm 7), .ref (rm 8), .ref (rm 9), .ref (rm 10), .ref (rm 11), .ref (rm 12), .ref (rm 13), .ref (rm 14), .ref (rm 15), .ref (rm 16), .int 0, .int 0, .int 0, .int 0, .int 0, .ref (rm 17), .ref (rm 18), .ref (rm 19), .ref (rm 20), .ref (rm 21), .int 0, .ref (rm 22), .ref (rm 23), .ref (rm 24), .int 0, .int 0, .int 0, .ref (rm 25), .ref (rm 26), .ref (rm 27), .int 0, .ref (rm 28), .ref (rm 29), .int 0, .ref (rm 30), .ref (rm 31), .int 0, .ref (rm 32), .ref (rm 33), .int 0, .ref (rm 34), .ref (rm 35), .int 0, .int 0, .int 0, .ref (rm 36), .ref (rm 37), .int 0, .ref (rm 38), .ref (rm 39), .int 0, .ref (rm 40), .ref (rm 41), .ref (rm 42), .int 0, .int 0, .long 1, .ref (rm 43), .int 0, .int 0, .int (-1), .int 0, .int 0, .int 0, .int 0, .ref (rm 44), .ref (rm 45), .ref (rm 46), .ref (rm 47), .int 0])), ((rm 1), .inl ((km 0), 1600, .inl f1042)), ((rm 2), .inl ((km 1), 7, .inl (fun _ => 0))), ((rm 22), .inl ((km 2), 422, .inl (fun _ => 0))), ((rm 23), .inl ((km 3), 422, .inl (fun _ => 0)))]
def wd_728 (rm : Nat → Nat) (km : Nat → ClassId) (f1049 : Nat → Int32) : va_W := [((rm 0), .inr (12, [.ref (rm 1), .int 5, .int 0, .int 0, .int 0, .int 0, .int 0, .int 0, .int (-1), .ref (rm 2), .ref (rm 3), .ref (rm 4), .ref (rm 5), .ref (rm 6), .ref (rm 7), .ref (rm 8), .ref (rm 9), .ref (rm 10), .ref (rm 11), .ref (rm 12), .ref (rm 13), .ref (rm 14), .ref (rm 15), .ref (rm 16), .int 0, .int 0, .int 0, .int 0, .int 0, .ref (rm 17), .ref (rm 18), .ref (rm 19), .ref (rm 20), .ref (rm 21), .int 0, .ref (rm 22), .ref (rm 23), .ref (rm 24), .int 0, .int 0, .int 0, .ref (rm 25), .ref (rm 26), .ref (rm 27), .int 0, .ref (rm 28), .ref (rm 29), .int 0, .ref (rm 30), .ref (rm 31), .int 0, .ref (rm 32), .ref (rm 33), .int 0, .ref (rm 34), .ref (rm 35), .int 0, .int 0, .int 0, .ref (rm 36), .ref (rm 37), .int 0, .ref (rm 38), .ref (rm 39), .int 0, .ref (rm 40), .ref (rm 41), .ref (rm 42), .int 0, .int 0, .long 1, .ref (rm 43), .int 0, .int 0, .int (-1), .int 0, .int 0, .int 0, .int 0, .ref (rm 44), .ref (rm 45), .ref (rm 46), .ref (rm 47), .int 0])), ((rm 1), .inl ((km 0), 1600, .inl f1049)), ((rm 2), .inl ((km 1), 7, .inl (fun _ => 0))), ((rm 22), .inl ((km 2), 422, .inl (fun _ => 0))), ((rm 23), .inl ((km 3), 422, .inl (fun _ => 0)))]
def wd_729 (rm : Nat → Nat) (km : Nat → ClassId) (f1049 : Nat → Int32) : va_W := [((rm 0), .inr (12, [.ref (rm 1), .int 6, .int 0, .int 0, .int 0, .int 0, .int 0, .int 0, .int (-1), .ref (rm 2), .ref (rm 3), .ref (rm 4), .ref (rm 5), .ref (rm 6), .ref (rm 7), .ref (rm 8), .ref (rm 9), .ref (rm 10), .ref (rm 11), .ref (rm 12), .ref (rm 13), .ref (rm 14), .ref (rm 15), .ref (rm 16), .int 0, .int 0, .int 0, .int 0, .int 0, .ref (rm 17), .ref (rm 18), .ref (rm 19), .ref (rm 20), .ref (rm 21), .int 0, .ref (rm 22), .ref (rm 23), .ref (rm 24), .int 0, .int 0, .int 0, .ref (rm 25), .ref (rm 26), .ref (rm 27), .int 0, .ref (rm 28), .ref (rm 29), .int 0, .ref (rm 30), .ref (rm 31), .int 0, .ref (rm 32), .ref (rm 33), .int 0, .ref (rm 34), .ref (rm 35), .int 0, .int 0, .int 0, .ref (rm 36), .ref (rm 37), .int 0, .ref (rm 38), .ref (rm 39), .int 0, .ref (rm 40), .ref (rm 41), .ref (rm 42), .int 0, .int 0, .long 1, .ref (rm 43), .int 0, .int 0, .int (-1), .int 0, .int 0, .int 0, .int 0, .ref (rm 44), .ref (rm 45), .ref (rm 46), .ref (rm 47), .int 0])), ((rm 1), .inl ((km 0), 1600, .inl f1049)), ((rm 2), .inl ((km 1), 7, .inl (fun _ => 0))), ((rm 22), .inl ((km 2), 422, .inl (fun _ => 0))), ((rm 23), .inl ((km 3), 422, .inl (fun _ => 0)))]
def wd_730 (rm : Nat → Nat) (km : Nat → ClassId) (f1056 : Nat → Int32) : va_W := [((rm 0), .inr (12, [.ref (rm 1), .int 6, .int 0, .int 0, .int 0, .int 0, .int 0, .int 0, .int (-1), .ref (rm 2), .ref (rm 3), .ref (rm 4), .ref (rm 5), .ref (rm 6), .ref (rm 7), .ref (rm 8), .ref (rm 9), .ref (rm 10), .ref (rm 11), .ref (rm 12), .ref (rm 13), .ref (rm 14), .ref (rm 15), .ref (rm 16), .int 0, .int 0, .int 0, .int 0, .int 0, .ref (rm 17), .ref (rm 18), .ref (rm 19), .ref (rm 20), .ref (rm 21), .int 0, .ref (rm 22), .ref (rm 23), .ref (rm 24), .int 0, .int 0, .int 0, .ref (rm 25), .ref (rm 26), .ref (rm 27), .int 0, .ref (rm 28), .ref (rm 29), .int 0, .ref (rm 30), .ref (rm 31), .int 0, .ref (rm 32), .ref (rm 33), .int 0, .ref (rm 34), .ref (rm 35), .int 0, .int 0, .int 0, .ref (rm 36), .ref (rm 37), .int 0, .ref (rm 38), .ref (rm 39), .int 0, .ref (rm 40), .ref (rm 41), .ref (rm 42), .int 0, .int 0, .long 1, .ref (rm 43), .int 0, .int 0, .int (-1), .int 0, .int 0, .int 0, .int 0, .ref (rm 44), .ref (rm 45), .ref (rm 46), .ref (rm 47), .int 0])), ((rm 1), .inl ((km 0), 1600, .inl f1056)), ((rm 2), .inl ((km 1), 7, .inl (fun _ => 0))), ((rm 22), .inl ((km 2), 422, .inl (fun _ => 0))), ((rm 23), .inl ((km 3), 422, .inl (fun _ => 0)))]
def wd_731 (rm : Nat → Nat) (km : Nat → ClassId) (f1056 : Nat → Int32) : va_W := [((rm 0), .inr (12, [.ref (rm 1), .int 7, .int 0, .int 0, .int 0, .int 0, .int 0, .int 0, .int (-1), .ref (rm 2), .ref (rm 3), .ref (rm 4), .ref (rm 5), .ref (rm 6), .ref (rm 7), .ref (rm 8), .ref (rm 9), .ref (rm 10), .ref (rm 11), .ref (rm 12), .ref (rm 13), .ref (rm 14), .ref (rm 15), .ref (rm 16), .int 0, .int 0, .int 0, .int 0, .int 0, .ref (rm 17), .ref (rm 18), .ref (rm 19), .ref (rm 20), .ref (rm 21), .int 0, .ref (rm 22), .ref (rm 23), .ref (rm 24), .int 0, .int 0, .int 0, .ref (rm 25), .ref (rm 26), .ref (rm 27), .int 0, .ref (rm 28), .ref (rm 29), .int 0, .ref (rm 30), .ref (rm 31), .int 0, .ref (rm 32), .ref (rm 33), .int 0, .ref (rm 34), .ref (rm 35), .int 0, .int 0, .int 0, .ref (rm 36), .ref (rm 37), .int 0, .ref (rm 38), .ref (rm 39), .int 0, .ref (rm 40), .ref (rm 41), .ref (rm 42), .int 0, .int 0, .long 1, .ref (rm 43), .int 0, .int 0, .int (-1), .int 0, .int 0, .int 0, .int 0, .ref (rm 44), .ref (rm 45), .ref (rm 46), .ref (rm 47), .int 0])), ((rm 1), .inl ((km 0), 1600, .inl f1056)), ((rm 2), .inl ((km 1), 7, .inl (fun _ => 0))), ((rm 22), .inl ((km 2), 422, .inl (fun _ => 0))), ((rm 23), .inl ((km 3), 422, .inl (fun _ => 0)))]
def wd_732 (rm : Nat → Nat) (km : Nat → ClassId) (f1063 : Nat → Int32) : va_W := [((rm 0), .inr (12, [.ref (rm 1), .int 7, .int 0, .int 0, .int 0, .int 0, .int 0, .int 0, .int (-1), .ref (rm 2), .ref (rm 3), .ref (rm 4), .ref (rm 5), .ref (rm 6), .ref (rm 7), .ref (rm 8), .ref (rm 9), .ref (rm 10), .ref (rm 11), .ref (rm 12), .ref (rm 13), .ref (rm 14), .ref (rm 15), .ref (rm 16), .int 0, .int 0, .int 0, .int 0, .int 0, .ref (rm 17), .ref (rm 18), .ref (rm 19), .ref (rm 20), .ref (rm 21), .int 0, .ref (rm 22), .ref (rm 23), .ref (rm 24), .int 0, .int 0, .int 0, .ref (rm 25), .ref (rm 26), .ref (rm 27), .int 0, .ref (rm 28), .ref (rm 29), .int 0, .ref (rm 30), .ref (rm 31), .int 0, .ref (rm 32), .ref (rm 33), .int 0, .ref (rm 34), .ref (rm 35), .int 0, .int 0, .int 0, .ref (rm 36), .ref (rm 37), .int 0, .ref (rm 38), .ref (rm 39), .int 0, .ref (rm 40), .ref (rm 41), .ref (rm 42), .int 0, .int 0, .long 1, .ref (rm 43), .int 0, .int 0, .int (-1), .int 0, .int 0, .int 0, .int 0, .ref (rm 44), .ref (rm 45), .ref (rm 46), .ref (rm 47), .int 0])), ((rm 1), .inl ((km 0), 1600, .inl f1063)), ((rm 2), .inl ((km 1), 7, .inl (fun _ => 0))), ((rm 22), .inl ((km 2), 422, .inl (fun _ => 0))), ((rm 23), .inl ((km 3), 422, .inl (fun _ => 0)))]
def wd_733 (rm : Nat → Nat) (km : Nat → ClassId) (f1063 : Nat → Int32) : va_W := [((rm 0), .inr (12, [.ref (rm 1), .int 8, .int 0, .int 0, .int 0, .int 0, .int 0, .int 0, .int (-1), .ref (rm 2), .ref (rm 3), .ref (rm 4), .ref (rm 5), .ref (rm 6), .ref (rm 7), .ref (rm 8), .ref (rm 9), .ref (rm 10), .ref (rm 11), .ref (rm 12), .ref (rm 13), .ref (rm 14), .ref (rm 15), .ref (rm 16), .int 0, .int 0, .int 0, .int 0, .int 0, .ref (rm 17), .ref (rm 18), .ref (rm 19), .ref (rm 20), .ref (rm 21), .int 0, .ref (rm 22), .ref (rm 23), .ref (rm 24), .int 0, .int 0, .int 0, .ref (rm 25), .ref (rm 26), .ref (rm 27), .int 0, .ref (rm 28), .ref (rm 29), .int 0, .ref (rm 30), .ref (rm 31), .int 0, .ref (rm 32), .ref (rm 33), .int 0, .ref (rm 34), .ref (rm 35), .int 0, .int 0, .int 0, .ref (rm 36), .ref (rm 37), .int 0, .ref (rm 38), .ref (rm 39), .int 0, .ref (rm 40), .ref (rm 41), .ref (rm 42), .int 0, .int 0, .long 1, .ref (rm 43), .int 0, .int 0, .int (-1), .int 0, .int 0, .int 0, .int 0, .ref (rm 44), .ref (rm 45), .ref (rm 46), .ref (rm 47), .int 0])), ((rm 1), .inl ((km 0), 1600, .inl f1063)), ((rm 2), .inl ((km 1), 7, .inl (fun _ => 0))), ((rm 22), .inl ((km 2), 422, .inl (fun _ => 0))), ((rm 23), .inl ((km 3), 422, .inl (fun _ => 0)))]
def wd_734 (rm : Nat → Nat) (km : Nat → ClassId) (f1070 : Nat → Int32) : va_W := [((rm 0), .inr (12, [.ref (rm 1), .int 8, .int 0, .int 0, .int 0, .int 0, .int 0, .int 0, .int (-1), .ref (rm 2), .ref (rm 3), .ref (rm 4), .ref (rm 5), .ref (rm 6), .ref (rm 7), .ref (rm 8), .ref (rm 9), .ref (rm 10), .ref (rm 11), .ref (rm 12), .ref (rm 13), .ref (rm 14), .ref (rm 15), .ref (rm 16), .int 0, .int 0, .int 0, .int 0, .int 0, .ref (rm 17), .ref (rm 18), .ref (rm 19), .ref (rm 20), .ref (rm 21), .int 0, .ref (rm 22), .ref (rm 23), .ref (rm 24), .int 0, .int 0, .int 0, .ref (rm 25), .ref (rm 26), .ref (rm 27), .int 0, .ref (rm 28), .ref (rm 29), .int 0, .ref (rm 30), .ref (rm 31), .int 0, .ref (rm 32), .ref (rm 33), .int 0, .ref (rm 34), .ref (rm 35), .int 0, .int 0, .int 0, .ref (rm 36), .ref (rm 37), .int 0, .ref (rm 38), .ref (rm 39), .int 0, .ref (rm 40), .ref (rm 41), .ref (rm 42), .int 0, .int 0, .long 1, .ref (rm 43), .int 0, .int 0, .int (-1), .int 0, .int 0, .int 0, .int 0, .ref (rm 44), .ref (rm 45), .ref (rm 46), .ref (rm 47), .int 0])), ((rm 1), .inl ((km 0), 1600, .inl f1070)), ((rm 2), .inl ((km 1), 7, .inl (fun _ => 0))), ((rm 22), .inl ((km 2), 422, .inl (fun _ => 0))), ((rm 23), .inl ((km 3), 422, .inl (fun _ => 0)))]
def wd_735 (rm : Nat → Nat) (km : Nat → ClassId) (f1070 : Nat → Int32) : va_W := [((rm 0), .inr (12, [.ref (rm 1), .int 9, .int 0, .int 0, .int 0, .int 0, .int 0, .int 0, .int (-1), .ref (rm 2), .ref (rm 3), .ref (rm 4), .ref (rm 5), .ref (rm 6), .ref (rm 7), .ref (rm 8), .ref (rm 9), .ref (rm 10), .ref (rm 11), .ref (rm 12), .ref (rm 13), .ref (rm 14), .ref (rm 15), .ref (rm 16), .int 0, .int 0, .int 0, .int 0, .int 0, .ref (rm 17), .ref (rm 18), .ref (rm 19), .ref (rm 20), .ref (rm 21), .int 0, .ref (rm 22), .ref (rm 23), .ref (rm 24), .int 0, .int 0, .int 0, .ref (rm 25), .ref (rm 26), .ref (rm 27), .int 0, .ref (rm 28), .ref (rm 29), .int 0, .ref (rm 30), .ref (rm 31), .int 0, .ref (rm 32), .ref (rm 33), .int 0, .ref (rm 34), .ref (rm 35), .int 0, .int 0, .int 0, .ref (rm 36), .ref (rm 37), .int 0, .ref (rm 38), .ref (rm 39), .int 0, .ref (rm 40), .ref (rm 41), .ref (rm 42), .int 0, .int 0, .long 1, .ref (rm 43), .int 0, .int 0, .int (-1), .int 0, .int 0, .int 0, .int 0, .ref (rm 44), .ref (rm 45), .ref (rm 46), .ref (rm 47), .int 0])), ((rm 1), .inl ((km 0), 1600, .inl f1070)), ((rm 2), .inl ((km 1), 7, .inl (fun _ => 0))), ((rm 22), .inl ((km 2), 422, .inl (fun _ => 0))), ((rm 23), .inl ((km 3), 422, .inl (fun _ => 0)))]
def wd_736 (rm : Nat → Nat) (km : Nat → ClassId) (f1077 : Nat → Int32) : va_W := [((rm 0), .inr (12, [.ref (rm 1), .int 9, .int 0, .int 0, .int 0, .int 0, .int 0, .int 0, .int (-1), .ref (rm 2), .ref (rm 3), .ref (rm 4), .ref (rm 5), .ref (rm 6), .ref (rm 7), .ref (rm 8), .ref (rm 9), .ref (rm 10), .ref (rm 11), .ref (rm 12), .ref (rm 13), .ref (rm 14), .ref (rm 15), .ref (rm 16), .int 0, .int 0, .int 0, .int 0, .int 0, .ref (rm 17), .ref (rm 18), .ref (rm 19), .ref (rm 20), .ref (rm 21), .int 0, .ref (rm 22), .ref (rm 23), .ref (rm 24), .int 0, .int 0, .int 0, .ref (rm 25), .ref (rm 26), .ref (rm 27), .int 0, .ref (rm 28), .ref (rm 29), .int 0, .ref (rm 30), .ref (rm 31), .int 0, .ref (rm 32), .ref (rm 33), .int 0, .ref (rm 34), .ref (rm 35), .int 0, .int 0, .int 0, .ref (rm 36), .ref (rm 37), .int 0, .ref (rm 38), .ref (rm 39), .int 0, .ref (rm 40), .ref (rm 41), .ref (rm 42), .int 0, .int 0, .long 1, .ref (rm 43), .int 0, .int 0, .int (-1), .int 0, .int 0, .int 0, .int 0, .ref (rm 44), .ref (rm 45), .ref (rm 46), .ref (rm 47), .int 0])), ((rm 1), .inl ((km 0), 1600, .inl f1077)), ((rm 2), .inl ((km 1), 7, .inl (fun _ => 0))), ((rm 22), .inl ((km 2), 422, .inl (fun _ => 0))), ((rm 23), .inl ((km 3), 422, .inl (fun _ => 0)))]
def wd_737 (rm : Nat → Nat) (km : Nat → ClassId) (f1077 : Nat → Int32) : va_W := [((rm 0), .inr (12, [.ref (rm 1), .int 10, .int 0, .int 0, .int 0, .int 0, .int 0, .int 0, .int (-1), .ref (rm 2), .ref (rm 3), .ref (rm 4), .ref (rm 5), .ref (rm 6), .ref (rm 7), .ref (rm 8), .ref (rm 9), .ref (rm 10), .ref (rm 11), .ref (rm 12), .ref (rm 13), .ref (rm 14), .ref (rm 15), .ref (rm 16), .int 0, .int 0, .int 0, .int 0, .int 0, .ref (rm 17), .ref (rm 18), .ref (rm 19), .ref (rm 20), .ref (rm 21), .int 0, .ref (rm 22), .ref (rm 23), .ref (rm 24), .int 0, .int 0, .int 0, .ref (rm 25), .ref (rm 26), .ref (rm 27), .int 0, .ref (rm 28), .ref (rm 29), .int 0, .ref (rm 30), .ref (rm 31), .int 0, .ref (rm 32), .ref (rm 33), .int 0, .ref (rm 34), .ref (rm 35), .int 0, .int 0, .int 0, .ref (rm 36), .ref (rm 37), .int 0, .ref (rm 38), .ref (rm 39), .int 0, .ref (rm 40), .ref (rm 41), .ref (rm 42), .int 0, .int 0, .long 1, .ref (rm 43), .int 0, .int 0, .int (-1), .int 0, .int 0, .int 0, .int 0, .ref (rm 44), .ref (rm 45), .ref (rm 46), .ref (rm 47), .int 0])), ((rm 1), .inl ((km 0), 1600, .inl f1077)), ((rm 2), .inl ((km 1), 7, .inl (fun _ => 0))), ((rm 22), .inl ((km 2), 422, .inl (fun _ => 0))), ((rm 23), .inl ((km 3), 422, .inl (fun _ => 0)))]
def wd_738 (rm : Nat → Nat) (km : Nat → ClassId) (f1084 : Nat → Int32) : va_W := [((rm 0), .inr (12, [.ref (rm 1), .int 10, .int 0, .int 0, .int 0, .int 0, .int 0, .int 0, .int (-1), .ref (rm 2), .ref (rm 3), .ref (rm 4), .ref (rm 5), .ref (rm 6), .ref (rm 7), .ref (rm 8), .ref (rm 9), .ref (rm 10), .ref (rm 11), .ref (rm 12), .ref (rm 13), .ref (rm 14), .ref (rm 15), .ref (rm 16), .int 0, .int 0, .int 0, .int 0, .int 0, .ref (rm 17), .ref (rm 18), .ref (rm 19), .ref (rm 20), .ref (rm 21), .int 0, .ref (rm 22), .ref (rm 23), .ref (rm 24), .int 0, .int 0, .int 0, .ref (rm 25), .ref (rm 26), .ref (rm 27), .int 0, .ref (rm 28), .ref (rm 29), .int 0, .ref (rm 30), .ref (rm 31), .int 0, .ref (rm 32), .ref (rm 33), .int 0, .ref (rm 34), .ref (rm 35), .int 0, .int 0, .int 0, .ref (rm 36), .ref (rm 37), .int 0, .ref (rm 38), .ref (rm 39), .int 0, .ref (rm 40), .ref (rm 41), .ref (rm 42), .int 0, .int 0, .long 1, .ref (rm 43), .int 0, .int 0, .int (-1), .int 0, .int 0, .int 0, .int 0, .ref (rm 44), .ref (rm 45), .ref (rm 46), .ref (rm 47), .int 0])), ((rm 1), .inl ((km 0), 1600, .inl f1084)), ((rm 2), .inl ((km 1), 7, .inl (fun _ => 0))), ((rm 22), .inl ((km 2), 422, .inl (fun _ => 0))), ((rm 23), .inl ((km 3), 422, .inl (fun _ => 0)))]
def wd_739 (rm : Nat → Nat) (km : Nat → ClassId) (f1084 : Nat → Int32) : va_W := [((rm 0), .inr (12, [.ref (rm 1), .int 11, .int 0, .int 0, .int 0, .int 0, .int 0, .int 0, .int (-1), .ref (rm 2), .ref (rm 3), .ref (rm 4), .ref (rm 5), .ref (rm 6), .ref (rm 7), .ref (rm 8), .ref (rm 9), .ref (rm 10), .ref (rm 11), .ref (rm 12), .ref (rm 13), .ref (rm 14), .ref (rm 15), .ref (rm 16), .int 0, .int 0, .int 0, .int 0, .int 0, .ref (rm 17), .ref (rm 18), .ref (rm 19), .ref (rm 20), .ref (rm 21), .int 0, .ref (rm 22), .ref (rm 23), .ref (rm 24), .int 0, .int 0, .int 0, .ref (rm 25), .ref (rm 26), .ref (rm 27), .int 0, .ref (rm 28), .ref (rm 29), .int 0, .ref (rm 30), .ref (rm 31), .int 0, .ref (rm 32), .ref (rm 33), .int 0, .ref (rm 34), .ref (rm 35), .int 0, .int 0, .int 0, .ref (rm 36), .ref (rm 37), .int 0, .ref (rm 38), .ref (rm 39), .int 0, .ref (rm 40), .ref (rm 41), .ref (rm 42), .int 0, .int 0, .long 1, .ref (rm 43), .int 0, .int 0, .int (-1), .int 0, .int 0, .int 0, .int 0, .ref (rm 44), .ref (rm 45), .ref (rm 46), .ref (rm 47), .int 0])), ((rm 1), .inl ((km 0), 1600, .inl f1084)), ((rm 2), .inl ((km 1), 7, .inl (fun _ => 0))), ((rm 22), .inl ((km 2), 422, .inl (fun _ => 0))), ((rm 23), .inl ((km 3), 422, .inl (fun _ => 0)))]
def wd_740 (rm : Nat → Nat) (km : Nat → ClassId) (f1091 : Nat → Int32) : va_W := [((rm 0), .inr (12, [.ref (rm 1), .int 11, .int 0, .int 0, .int 0, .int 0, .int 0, .int 0, .int (-1), .ref (rm 2), .ref (rm 3), .ref (rm 4), .ref (rm 5), .ref (rm 6), .ref (rm 7), .ref (rm 8), .ref (rm 9), .ref (rm 10), .ref (rm 11), .ref (rm 12), .ref (rm 13), .ref (rm 14), .ref (rm 15), .ref (rm 16), .int 0, .int 0, .int 0, .int 0, .int 0, .ref (rm 17), .ref (rm 18), .ref (rm 19), .ref (rm 20), .ref (rm 21), .int 0, .ref (rm 22), .ref (rm 23), .ref (rm 24), .int 0, .int 0, .int 0, .ref (rm 25), .ref (rm 26), .ref (rm 27), .int 0, .ref (rm 28), .ref (rm 29), .int 0, .ref (rm 30), .ref (rm 31), .int 0, .ref (rm 32), .ref (rm 33), .int 0, .ref (rm 34), .ref (rm 35), .int 0, .int 0, .int 0, .ref (rm 36), .ref (rm 37), .int 0, .ref (rm 38), .ref (rm 39), .int 0, .ref (rm 40), .ref (rm 41), .ref (rm 42), .int 0, .int 0, .long 1, .ref (rm 43), .int 0, .int 0, .int (-1), .int 0, .int 0, .int 0, .int 0, .ref (rm 44), .ref (rm 45), .ref (rm 46), .ref (rm 47), .int 0])), ((rm 1), .inl ((km 0), 1600, .inl f1091)), ((rm 2), .inl ((km 1), 7, .inl (fun _ => 0))), ((rm 22), .inl ((km 2), 422, .inl (fun _ => 0))), ((rm 23), .inl ((km 3), 422, .inl (fun _ => 0)))]
def wd_741 (rm : Nat → Nat) (km : Nat → ClassId) (f1091 : Nat → Int32) : va_W := [((rm 0), .inr (12, [.ref (rm 1), .int 12, .int 0, .int 0, .int 0, .int 0, .int 0, .int 0, .int (-1), .ref (rm 2), .ref (rm 3), .ref (rm 4), .ref (rm 5), .ref (rm 6), .ref (rm 7), .ref (rm 8), .ref (rm 9), .ref (rm 10), .ref (rm 11), .ref (rm 12), .ref (rm 13), .ref (rm 14), .ref (rm 15), .ref (rm 16), .int 0, .int 0, .int 0, .int 0, .int 0, .ref (rm 17), .ref (rm 18), .ref (rm 19), .ref (rm 20), .ref (rm 21), .int 0, .ref (rm 22), .ref (rm 23), .ref (rm 24), .int 0, .int 0, .int 0, .ref (rm 25), .ref (rm 26), .ref (rm 27), .int 0, .ref (rm 28), .ref (rm 29), .int 0, .ref (rm 30), .ref (rm 31), .int 0, .ref (rm 32), .ref (rm 33), .int 0, .ref (rm 34), .ref (rm 35), .int 0, .int 0, .int 0, .ref (rm 36), .ref (rm 37), .int 0, .ref (rm 38), .ref (rm 39), .int 0, .ref (rm 40), .ref (rm 41), .ref (rm 42), .int 0, .int 0, .long 1, .ref (rm 43), .int 0, .int 0, .int (-1), .int 0, .int 0, .int 0, .int 0, .ref (rm 44), .ref (rm 45), .ref (rm 46), .ref (rm 47), .int 0])), ((rm 1), .inl ((km 0), 1600, .inl f1091)), ((rm 2), .inl ((km 1), 7, .inl (fun _ => 0))), ((rm 22), .inl ((km 2), 422, .inl (fun _ => 0))), ((rm 23), .inl ((km 3), 422, .inl (fun _ => 0)))]
def wd_742 (rm : Nat → Nat) (km : Nat → ClassId) (f1098 : Nat → Int32) : va_W := [((rm 0), .inr (12, [.ref (rm 1), .int 12, .int 0, .int 0, .int 0, .int 0, .int 0, .int 0, .int (-1), .ref (rm 2), .ref (rm 3), .ref (rm 4), .ref (rm 5), .ref (rm 6), .ref (rm 7), .ref (rm 8), .ref (rm 9), .ref (rm 10), .ref (rm 11), .ref (rm 12), .ref (rm 13), .ref (rm 14), .ref (rm 15), .ref (rm 16), .int 0, .int 0, .int 0, .int 0, .int 0, .ref (rm 17), .ref (rm 18), .ref (rm 19), .ref (rm 20), .ref (rm 21), .int 0, .ref (rm 22), .ref (rm 23), .ref (rm 24), .int 0, .int 0, .int 0, .ref (rm 25), .ref (rm 26), .ref (rm 27), .int 0, .ref (rm 28), .ref (rm 29), .int 0, .ref (rm 30), .ref (rm 31), .int 0, .ref (rm 32), .ref (rm 33), .int 0, .ref (rm 34), .ref (rm 35), .int 0, .int 0, .int 0, .ref (rm 36), .ref (rm 37), .int 0, .ref (rm 38), .ref (rm 39), .int 0, .ref (rm 40), .ref (rm 41), .ref (rm 42), .int 0, .int 0, .long 1, .ref (rm 43), .int 0, .int 0, .int (-1), .int 0, .int 0, .int 0, .int 0, .ref (rm 44), .ref (rm 45), .ref (rm 46), .ref (rm 47), .int 0])), ((rm 1), .inl ((km 0), 1600, .inl f1098)), ((rm 2), .inl ((km 1), 7, .inl (fun _ => 0))), ((rm 22), .inl ((km 2), 422, .inl (fun _ => 0))), ((rm 23), .inl ((km 3), 422, .inl (fun _ => 0)))]
def wd_743 (rm : Nat → Nat) (km : Nat → ClassId) (f1098 : Nat → Int32) : va_W := [((rm 0), .inr (12, [.ref (rm 1), .int 13, .int 0, .int 0, .int 0, .int 0, .int 0, .int 0, .int (-1), .ref (rm 2), .ref (rm 3), .ref (rm 4), .ref (rm 5), .ref (rm 6), .ref (rm 7), .ref (rm 8), .ref (rm 9), .ref (rm 10), .ref (rm 11), .ref (rm 12), .ref (rm 13), .ref (rm 14), .ref (rm 15), .ref (rm 16), .int 0, .int 0, .int 0, .int 0, .int 0, .ref (rm 17), .ref (rm 18), .ref (rm 19), .ref (rm 20), .ref (rm 21), .int 0, .ref (rm 22), .ref (rm 23), .ref (rm 24), .int 0, .int 0, .int 0, .ref (rm 25), .ref (rm 26), .ref (rm 27), .int 0, .ref (rm 28), .ref (rm 29), .int 0, .ref (rm 30), .ref (rm 31), .int 0, .ref (rm 32), .ref (rm 33), .int 0, .ref (rm 34), .ref (rm 35), .int 0, .int 0, .int 0, .ref (rm 36), .ref (rm 37), .int 0, .ref (rm 38), .ref (rm 39), .int 0, .ref (rm 40), .ref (rm 41), .ref (rm 42), .int 0, .int 0, .long 1, .ref (rm 43), .int 0, .int 0, .int (-1), .int 0, .int 0, .int 0, .int 0, .ref (rm 44), .ref (rm 45), .ref (rm 46), .ref (rm 47), .int 0])), ((rm 1), .inl ((km 0), 1600, .inl f1098)), ((rm 2), .inl ((km 1), 7, .inl (fun _ => 0))), ((rm 22), .inl ((km 2), 422, .inl (fun _ => 0))), ((rm 23), .inl ((km 3), 422, .inl (fun _ => 0)))]
def wd_744 (rm : Nat → Nat) (km : Nat → ClassId) (f1105 : Nat → Int32) : va_W := [((rm 0), .inr (12, [.ref (rm 1), .int 13, .int 0, .int 0, .int 0, .int 0, .int 0, .int 0, .int (-1), .ref (rm 2), .ref (rm 3), .ref (rm 4), .ref (rm 5), .ref (rm 6), .ref (rm 7), .ref (rm 8), .ref (rm 9), .ref (rm 10), .ref (rm 11), .ref (rm 12), .ref (rm 13), .ref (rm 14), .ref (rm 15), .ref (rm 16), .int 0, .int 0, .int 0, .int 0, .int 0, .ref (rm 17), .ref (rm 18), .ref (rm 19), .ref (rm 20), .ref (rm 21), .int 0, .ref (rm 22), .ref (rm 23), .ref (rm 24), .int 0, .int 0, .int 0, .ref (rm 25), .ref (rm 26), .ref (rm 27), .int 0, .ref (rm 28), .ref (rm 29), .int 0, .ref (rm 30), .ref (rm 31), .int 0, .ref (rm 32), .ref (rm 33), .int 0, .ref (rm 34), .ref (rm 35), .int 0, .int 0, .int 0, .ref (rm 36), .ref (rm 37), .int 0, .ref (rm 38), .ref (rm 39), .int 0, .ref (rm 40), .ref (rm 41), .ref (rm 42), .int 0, .int 0, .long 1, .ref (rm 43), .int 0, .int 0, .int (-1), .int 0, .int 0, .int 0, .int 0, .ref (rm 44), .ref (rm 45), .ref (rm 46), .ref (rm 47), .int 0])), ((rm 1), .inl ((km 0), 1600, .inl f1105)), ((rm 2), .inl ((km 1), 7, .inl (fun _ => 0))), ((rm 22), .inl ((km 2), 422, .inl (fun _ => 0))), ((rm 23), .inl ((km 3), 422, .inl (fun _ => 0)))]
def wd_745 (rm : Nat → Nat) (km : Nat → ClassId) (f1105 : Nat → Int32) : va_W := [((rm 0), .inr (12, [.ref (rm 1), .int 14, .int 0, .int 0, .int 0, .int 0, .int 0, .int 0, .int (-1), .ref (rm 2), .ref (rm 3), .ref (rm 4), .ref (rm 5), .ref (rm 6), .ref (rm 7), .ref (rm 8), .ref (rm 9), .ref (rm 10), .ref (rm 11), .ref (rm 12), .ref (rm 13), .ref (rm 14), .ref (rm 15), .ref (rm 16), .int 0, .int 0, .int 0, .int 0, .int 0, .ref (rm 17), .ref (rm 18), .ref (rm 19), .ref (rm 20), .ref (rm 21), .int 0, .ref (rm 22), .ref (rm 23), .ref (rm 24), .int 0, .int 0, .int 0, .ref (rm 25), .ref (rm 26), .ref (rm 27), .int 0, .ref (rm 28), .ref (rm 29), .int 0, .ref (rm 30), .ref (rm 31), .int 0, .ref (rm 32), .ref (rm 33), .int 0, .ref (rm 34), .ref (rm 35), .int 0, .int 0, .int 0, .ref (rm 36), .ref (rm 37), .int 0, .ref (rm 38), .ref (rm 39), .int 0, .ref (rm 40), .ref (rm 41), .ref (rm 42), .int 0, .int 0, .long 1, .ref (rm 43), .int 0, .int 0, .int (-1), .int 0, .int 0, .int 0, .int 0, .ref (rm 44), .ref (rm 45), .ref (rm 46), .ref (rm 47), .int 0])), ((rm 1), .inl ((km 0), 1600, .inl f1105)), ((rm 2), .inl ((km 1), 7, .inl (fun _ => 0))), ((rm 22), .inl ((km 2), 422, .inl (fun _ => 0))), ((rm 23), .inl ((km 3), 422, .inl (fun _ => 0)))]
def wd_746 (rm : Nat → Nat) (km : Nat → ClassId) (f1112 : Nat → Int32) : va_W := [((rm 0), .inr (12, [.ref (rm 1), .int 14, .int 0, .int 0, .int 0, .int 0, .int 0, .int 0, .int (-1), .ref (rm 2), .ref (rm 3), .ref (rm 4), .ref (rm 5), .ref (rm 6), .ref (rm 7), .ref (rm 8), .ref (rm 9), .ref (rm 10), .ref (rm 11), .ref (rm 12), .ref (rm 13), .ref (rm 14), .ref (rm 15), .ref (rm 16), .int 0, .int 0, .int 0, .int 0, .int 0, .ref (rm 17), .ref (rm 18), .ref (rm 19), .ref (rm 20), .ref (rm 21), .int 0, .ref (rm 22), .ref (rm 23), .ref (rm 24), .int 0, .int 0, .int 0, .ref (rm 25), .ref (rm 26), .ref (rm 27), .int 0, .ref (rm 28), .ref (rm 29), .int 0, .ref (rm 30), .ref (rm 31), .int 0, .ref (rm 32), .ref (rm 33), .int 0, .ref (rm 34), .ref (rm 35), .int 0, .int 0, .int 0, .ref (rm 36), .ref (rm 37), .int 0, .ref (rm 38), .ref (rm 39), .int 0, .ref (rm 40), .ref (rm 41), .ref (rm 42), .int 0, .int 0, .long 1, .ref (rm 43), .int 0, .int 0, .int (-1), .int 0, .int 0, .int 0, .int 0, .ref (rm 44), .ref (rm 45), .ref (rm 46), .ref (rm 47), .int 0])), ((rm 1), .inl ((km 0), 1600, .inl f1112)), ((rm 2), .inl ((km 1), 7, .inl (fun _ => 0))), ((rm 22), .inl ((km 2), 422, .inl (fun _ => 0))), ((rm 23), .inl ((km 3), 422, .inl (fun _ => 0)))]
def wd_747 (rm : Nat → Nat) (km : Nat → ClassId) (f1112 : Nat → Int32) : va_W := [((rm 0), .inr (12, [.ref (rm 1), .int 15, .int 0, .int 0, .int 0, .int 0, .int 0, .int 0, .int (-1), .ref (rm 2), .ref (rm 3), .ref (rm 4), .ref (rm 5), .ref (rm 6), .ref (rm 7), .ref (rm 8), .ref (rm 9), .ref (rm 10), .ref (rm 11), .ref (rm 12), .ref (rm 13), .ref (rm 14), .ref (rm 15), .ref (rm 16), .int 0, .int 0, .int 0, .int 0, .int 0, .ref (rm 17), .ref (rm 18), .ref (rm 19), .ref (rm 20), .ref (rm 21), .int 0, .ref (rm 22), .ref (rm 23), .ref (rm 24), .int 0, .int 0, .int 0, .ref (rm 25), .ref (rm 26), .ref (rm 27), .int 0, .ref (rm 28), .ref (rm 29), .int 0, .ref (rm 30), .ref (rm 31), .int 0, .ref (rm 32), .ref (rm 33), .int 0, .ref (rm 34), .ref (rm 35), .int 0, .int 0, .int 0, .ref (rm 36), .ref (rm 37), .int 0, .ref (rm 38), .ref (rm 39), .int 0, .ref (rm 40), .ref (rm 41), .ref (rm 42), .int 0, .int 0, .long 1, .ref (rm 43), .int 0, .int 0, .int (-1), .int 0, .int 0, .int 0, .int 0, .ref (rm 44), .ref (rm 45), .ref (rm 46), .ref (rm 47), .int 0])), ((rm 1), .inl ((km 0), 1600, .inl f1112)), ((rm 2), .inl ((km 1), 7, .inl (fun _ => 0))), ((rm 22), .inl ((km 2), 422, .inl (fun _ => 0))), ((rm 23), .inl ((km 3), 422, .inl (fun _ => 0)))]
def wd_748 (rm : Nat → Nat) (km : Nat → ClassId) (f1119 : Nat → Int32) : va_W := [((rm 0), .inr (12, [.ref (rm 1), .int 15, .int 0, .int 0, .int 0, .int 0, .int 0, .int 0, .int (-1), .ref (rm 2), .ref (rm 3), .ref (rm 4), .ref (rm 5), .ref (rm 6), .ref (rm 7), .ref (rm 8), .ref (rm 9), .ref (rm 10), .ref (rm 11), .ref (rm 12), .ref (rm 13), .ref (rm 14), .ref (rm 15), .ref (rm 16), .int 0, .int 0, .int 0, .int 0, .int 0, .ref (rm 17), .ref (rm 18), .ref (rm 19), .ref (rm 20), .ref (rm 21), .int 0, .ref (rm 22), .ref (rm 23), .ref (rm 24), .int 0, .int 0, .int 0, .ref (rm 25), .ref (rm 26), .ref (rm 27), .int 0, .ref (rm 28), .ref (rm 29), .int 0, .ref (rm 30), .ref (rm 31), .int 0, .ref (rm 32), .ref (rm 33), .int 0, .ref (rm 34), .ref (rm 35), .int 0, .int 0, .int 0, .ref (rm 36), .ref (rm 37), .int 0, .ref (rm 38), .ref (rm 39), .int 0, .ref (rm 40), .ref (rm 41), .ref (rm 42), .int 0, .int 0, .long 1, .ref (rm 43), .int 0, .int 0, .int (-1), .int 0, .int 0, .int 0, .int 0, .ref (rm 44), .ref (rm 45), .ref (rm 46), .ref (rm 47), .int 0])), ((rm 1), .inl ((km 0), 1600, .inl f1119)), ((rm 2), .inl ((km 1), 7, .inl (fun _ => 0))), ((rm 22), .inl ((km 2), 422, .inl (fun _ => 0))), ((rm 23), .inl ((km 3), 422, .inl (fun _ => 0)))]
def wd_749 (rm : Nat → Nat) (km : Nat → ClassId) (f1119 : Nat → Int32) : va_W := [((rm 0), .inr (12, [.ref (rm 1), .int 16, .int 0, .int 0, .int 0, .int 0, .int 0, .int 0, .int (-1), .ref (rm 2), .ref (rm 3), .ref (rm 4), .ref (rm 5), .ref (rm 6), .ref (rm 7), .ref (rm 8), .ref (rm 9), .ref (rm 10), .ref (rm 11), .ref (rm 12), .ref (rm 13), .ref (rm 14), .ref (rm 15), .ref (rm 16), .int 0, .int 0, .int 0, .int 0, .int 0, .ref (rm 17), .ref (rm 18), .ref (rm 19), .ref (rm 20), .ref (rm 21), .int 0, .ref (rm 22), .ref (rm 23), .ref (rm 24), .int 0, .int 0, .int 0, .ref (rm 25), .ref (rm 26), .ref (rm 27), .int 0, .ref (rm 28), .ref (rm 29), .int 0, .ref (rm 30), .ref (rm 31), .int 0, .ref (rm 32), .ref (rm 33), .int 0, .ref (rm 34), .ref (rm 35), .int 0, .int 0, .int 0, .ref (rm 36), .ref (rm 37), .int 0, .ref (rm 38), .ref (rm 39), .int 0, .ref (rm 40), .ref (rm 41), .ref (rm 42), .int 0, .int 0, .long 1, .ref (rm 43), .int 0, .int 0, .int (-1), .int 0, .int 0, .int 0, .int 0, .ref (rm 44), .ref (rm 45), .ref (rm 46), .ref (rm 47), .int 0])), ((rm 1), .inl ((km 0), 1600, .inl f1119)), ((rm 2), .inl ((km 1), 7, .inl (fun _ => 0))), ((rm 22), .inl ((km 2), 422, .inl (fun _ => 0))), ((rm 23), .inl ((km 3), 422, .inl (fun _ => 0)))]
def wd_750 (rm : Nat → Nat) (km : Nat → ClassId) (f1126 : Nat → Int32) : va_W := [((rm 0), .inr (12, [.ref (rm 1), .int 16, .int 0, .int 0, .int 0, .int 0, .int 0, .int 0, .int (-1), .ref (rm 2), .ref (rm 3), .ref (rm 4), .ref (rm 5), .ref (rm 6), .ref (rm 7), .ref (rm 8), .ref (rm 9), .ref (rm 10), .ref (rm 11), .ref (rm 12), .ref (rm 13), .ref (rm 14), .ref (rm 15), .ref (rm 16), .int 0, .int 0, .int 0, .int 0, .int 0, .ref (rm 17), .ref (rm 18), .ref (rm 19), .ref (rm 20), .ref (rm 21), .int 0, .ref (rm 22), .ref (rm 23), .ref (rm 24), .int 0, .int 0, .int 0, .ref (rm 25), .ref (rm 26), .ref (rm 27), .int 0, .ref (rm 28), .ref (rm 29), .int 0, .ref (rm 30), .ref (rm 31), .int 0, .ref (rm 32), .ref (rm 33), .int 0, .ref (rm 34), .ref (rm 35), .int 0, .int 0, .int 0, .ref (rm 36), .ref (rm 37), .int 0, .ref (rm 38), .ref (rm 39), .int 0, .ref (rm 40), .ref (rm 41), .ref (rm 42), .int 0, .int 0, .long 1, .ref (rm 43), .int 0, .int 0, .int (-1), .int 0, .int 0, .int 0, .int 0, .ref (rm 44), .ref (rm 45), .ref (rm 46), .ref (rm 47), .int 0])), ((rm 1), .inl ((km 0), 1600, .inl f1126)), ((rm 2), .inl ((km 1), 7, .inl (fun _ => 0))), ((rm 22), .inl ((km 2), 422, .inl (fun _ => 0))), ((rm 23), .inl ((km 3), 422, .inl (fun _ => 0)))]
def wd_751 (rm : Nat → Nat) (km : Nat → ClassId) (f1126 : Nat → Int32) : va_W := [((rm 0), .inr (12, [.ref (rm 1), .int 17, .int 0, .int 0, .int 0, .int 0, .int 0, .int 0, .int (-1), .ref (rm 2), .ref (rm 3), .ref (rm 4), .ref (rm 5), .ref (rm 6), .ref (rm 7), .ref (rm 8), .ref (rm 9), .ref (rm 10), .ref (rm 11), .ref (rm 12), .ref (rm 13), .ref (rm 14), .ref (rm 15), .ref (rm 16), .int 0, .int 0, .int 0, .int 0, .int 0, .ref (rm 17), .ref (rm 18), .ref (rm 19), .ref (rm 20), .ref (rm 21), .int 0, .ref (rm 22), .ref (rm 23), .ref (rm 24), .int 0, .int 0, .int 0, .ref (rm 25), .ref (rm 26), .ref (rm 27), .int 0, .ref (rm 28), .ref (rm 29), .int 0, .ref (rm 30), .ref (rm 31), .int 0, .ref (rm 32), .ref (rm 33), .int 0, .ref (rm 34), .ref (rm 35), .int 0, .int 0, .int 0, .ref (rm 36), .ref (rm 37), .int 0, .ref (rm 38), .ref (rm 39), .int 0, .ref (rm 40), .ref (rm 41), .ref (rm 42), .int 0, .int 0, .long 1, .ref (rm 43), .int 0, .int 0, .int (-1), .int 0, .int 0, .int 0, .int 0, .ref (rm 44), .ref (rm 45), .ref (rm 46), .ref (rm 47), .int 0])), ((rm 1), .inl ((km 0), 1600, .inl f1126)), ((rm 2), .inl ((km 1), 7, .inl (fun _ => 0))), ((rm 22), .inl ((km 2), 422, .inl (fun _ => 0))), ((rm 23), .inl ((km 3), 422, .inl (fun _ => 0)))]
def wd_752 (rm : Nat → Nat) (km : Nat → ClassId) (f1133 : Nat → Int32) : va_W := [((rm 0), .inr (12, [.ref (rm 1), .int 17, .int 0, .int 0, .int 0, .int 0, .int 0, .int 0, .int (-1), .ref (rm 2), .ref (rm 3), .ref (rm 4), .ref (rm 5), .ref (rm 6), .ref (rm 7), .ref (rm 8), .ref (rm 9), .ref (rm 10), .ref (rm 11), .ref (rm 12), .ref (rm 13), .ref (rm 14), .ref (rm 15), .ref (rm 16), .int 0, .int 0, .int 0, .int 0, .int 0, .ref (rm 17), .ref (rm 18), .ref (rm 19), .ref (rm 20), .ref (rm 21), .int 0, .ref (rm 22), .ref (rm 23), .ref (rm 24), .int 0, .int 0, .int 0, .ref (rm 25), .ref (rm 26), .ref (rm 27), .int 0, .ref (rm 28), .ref (rm 29), .int 0, .ref (rm 30), .ref (rm 31), .int 0, .ref (rm 32), .ref (rm 33), .int 0, .ref (rm 34), .ref (rm 35), .int 0, .int 0, .int 0, .ref (rm 36), .ref (rm 37), .int 0, .ref (rm 38), .ref (rm 39), .int 0, .ref (rm 40), .ref (rm 41), .ref (rm 42), .int 0, .int 0, .long 1, .ref (rm 43), .int 0, .int 0, .int (-1), .int 0, .int 0, .int 0, .int 0, .ref (rm 44), .ref (rm 45), .ref (rm 46), .ref (rm 47), .int 0])), ((rm 1), .inl ((km 0), 1600, .inl f1133)), ((rm 2), .inl ((km 1), 7, .inl (fun _ => 0))), ((rm 22), .inl ((km 2), 422, .inl (fun _ => 0))), ((rm 23), .inl ((km 3), 422, .inl (fun _ => 0)))]
def wd_753 (rm : Nat → Nat) (km : Nat → ClassId) (f1133 : Nat → Int32) : va_W := [((rm 0), .inr (12, [.ref (rm 1), .int 18, .int 0, .int 0, .int 0, .int 0, .int 0, .int 0, .int (-1), .ref (rm 2), .ref (rm 3), .ref (rm 4), .ref (rm 5), .ref (rm 6), .ref (rm 7), .ref (rm 8), .ref (rm 9), .ref (rm 10), .ref (rm 11), .ref (rm 12), .ref (rm 13), .ref (rm 14), .ref (rm 15), .ref (rm 16), .int 0, .int 0, .int 0, .int 0, .int 0, .ref (rm 17), .ref (rm 18), .ref (rm 19), .ref (rm 20), .ref (rm 21), .int 0, .ref (rm 22), .ref (rm 23), .ref (rm 24), .int 0, .int 0, .int 0, .ref (rm 25), .ref (rm 26), .ref (rm 27), .int 0, .ref (rm 28), .ref (rm 29), .int 0, .ref (rm 30), .ref (rm 31), .int 0, .ref (rm 32), .ref (rm 33), .int 0, .ref (rm 34), .ref (rm 35), .int 0, .int 0, .int 0, .ref (rm 36), .ref (rm 37), .int 0, .ref (rm 38), .ref (rm 39), .int 0, .ref (rm 40), .ref (rm 41), .ref (rm 42), .int 0, .int 0, .long 1, .ref (rm 43), .int 0, .int 0, .int (-1), .int 0, .int 0, .int 0, .int 0, .ref (rm 44), .ref (rm 45), .ref (rm 46), .ref (rm 47), .int 0])), ((rm 1), .inl ((km 0), 1600, .inl f1133)), ((rm 2), .inl ((km 1), 7, .inl (fun _ => 0))), ((rm 22), .inl ((km 2), 422, .inl (fun _ => 0))), ((rm 23), .inl ((km 3), 422, .inl (fun _ => 0)))]
def wd_754 (rm : Nat → Nat) (km : Nat → ClassId) (f1140 : Nat → Int32) : va_W := [((rm 0), .inr (12, [.ref (rm 1), .int 18, .int 0, .int 0, .int 0, .int 0, .int 0, .int 0, .int (-1), .ref (rm 2), .ref (rm 3), .ref (rm 4), .ref (rm 5), .ref (rm 6), .ref (rm 7), .ref (rm 8), .ref (rm 9), .ref (rm 10), .ref (rm 11), .ref (rm 12), .ref (rm 13), .ref (rm 14), .ref (rm 15), .ref (rm 16), .int 0, .int 0, .int 0, .int 0, .int 0, .ref (rm 17), .ref (rm 18), .ref (rm 19), .ref (rm 20), .ref (rm 21), .int 0, .ref (rm 22), .ref (rm 23), .ref (rm 24), .int 0, .int 0, .int 0, .ref (rm 25), .ref (rm 26), .ref (rm 27), .int 0, .ref (rm 28), .ref (rm 29), .int 0, .ref (rm 30), .ref (rm 31), .int 0, .ref (rm 32), .ref (rm 33), .int 0, .ref (rm 34), .ref (rm 35), .int 0, .int 0, .int 0, .ref (rm 36), .ref (rm 37), .int 0, .ref (rm 38), .ref (rm 39), .int 0, .ref (rm 40), .ref (rm 41), .ref (rm 42), .int 0, .int 0, .long 1, .ref (rm 43), .int 0, .int 0, .int (-1), .int 0, .int 0, .int 0, .int 0, .ref (rm 44), .ref (rm 45), .ref (rm 46), .ref (rm 47), .int 0])), ((rm 1), .inl ((km 0), 1600, .inl f1140)), ((rm 2), .inl ((km 1), 7, .inl (fun _ => 0))), ((rm 22), .inl ((km 2), 422, .inl (fun _ => 0))), ((rm 23), .inl ((km 3), 422, .inl (fun _ => 0)))]
def wd_755 (rm : Nat → Nat) (km : Nat → ClassId) (f1140 : Nat → Int32) : va_W := [((rm 0), .inr (12, [.ref (rm 1), .int 19, .int 0, .int 0, .int 0, .int 0, .int 0, .int 0, .int (-1), .ref (rm 2), .ref (rm 3), .ref (rm 4), .ref (rm 5), .ref (rm 6), .ref (rm 7), .ref (rm 8), .ref (rm 9), .ref (rm 10), .ref (rm 11), .ref (rm 12), .ref (rm 13), .ref (rm 14), .ref (rm 15), .ref (rm 16), .int 0, .int 0, .int 0, .int 0, .int 0, .ref (rm 17), .ref (rm 18), .ref (rm 19), .ref (rm 20), .ref (rm 21), .int 0, .ref (rm 22), .ref (rm 23), .ref (rm 24), .int 0, .int 0, .int 0, .ref (rm 25), .ref (rm 26), .ref (rm 27), .int 0, .ref (rm 28), .ref (rm 29), .int 0, .ref (rm 30), .ref (rm 31), .int 0, .ref (rm 32), .ref (rm 33), .int 0, .ref (rm 34), .ref (rm 35), .int 0, .int 0, .int 0, .ref (rm 36), .ref (rm 37), .int 0, .ref (rm 38), .ref (rm 39), .int 0, .ref (rm 40), .ref (rm 41), .ref (rm 42), .int 0, .int 0, .long 1, .ref (rm 43), .int 0, .int 0, .int (-1), .int 0, .int 0, .int 0, .int 0, .ref (rm 44), .ref (rm 45), .ref (rm 46), .ref (rm 47), .int 0])), ((rm 1), .inl ((km 0), 1600, .inl f1140)), ((rm 2), .inl ((km 1), 7, .inl (fun _ => 0))), ((rm 22), .inl ((km 2), 422, .inl (fun _ => 0))), ((rm 23), .inl ((km 3), 422, .inl (fun _ => 0)))]
def wd_756 (rm : Nat → Nat) (km : Nat → ClassId) (f1147 : Nat → Int32) : va_W := [((rm 0), .inr (12, [.ref (rm 1), .int 19, .int 0, .int 0, .int 0, .int 0, .int 0, .int 0, .int (-1), .ref (rm 2), .ref (rm 3), .ref (rm 4), .ref (rm 5), .ref (rm 6), .ref (rm 7), .ref (rm 8), .ref (rm 9), .ref (rm 10), .ref (rm 11), .ref (rm 12), .ref (rm 13), .ref (rm 14), .ref (rm 15), .ref (rm 16), .int 0, .int 0, .int 0, .int 0, .int 0, .ref (rm 17), .ref (rm 18), .ref (rm 19), .ref (rm 20), .ref (rm 21), .int 0, .ref (rm 22), .ref (rm 23), .ref (rm 24), .int 0, .int 0, .int 0, .ref (rm 25), .ref (rm 26), .ref (rm 27), .int 0, .ref (rm 28), .ref (rm 29), .int 0, .ref (rm 30), .ref (rm 31), .int 0, .ref (rm 32), .ref (rm 33), .int 0, .ref (rm 34), .ref (rm 35), .int 0, .int 0, .int 0, .ref (rm 36), .ref (rm 37), .int 0, .ref (rm 38), .ref (rm 39), .int 0, .ref (rm 40), .ref (rm 41), .ref (rm 42), .int 0, .int 0, .long 1, .ref (rm 43), .int 0, .int 0, .int (-1), .int 0, .int 0, .int 0, .int 0, .ref (rm 44), .ref (rm 45), .ref (rm 46), .ref (rm 47), .int 0])), ((rm 1), .inl ((km 0), 1600, .inl f1147)), ((rm 2), .inl ((km 1), 7, .inl (fun _ => 0))), ((rm 22), .inl ((km 2), 422, .inl (fun _ => 0))), ((rm 23), .inl ((km 3), 422, .inl (fun _ => 0)))]
def wd_757 (rm : Nat → Nat) (km : Nat → ClassId) (f1147 : Nat → Int32) : va_W := [((rm 0), .inr (12, [.ref (rm 1), .int 20, .int 0, .int 0, .int 0, .int 0, .int 0, .int 0, .int (-1), .ref (rm 2), .ref (rm 3), .ref (rm 4), .ref (rm 5), .ref (rm 6), .ref (rm 7), .ref (rm 8), .ref (rm 9), .ref (rm 10), .ref (rm 11), .ref (rm 12), .ref (rm 13), .ref (rm 14), .ref (rm 15), .ref (rm 16), .int 0, .int 0, .int 0, .int 0, .int 0, .ref (rm 17), .ref (rm 18), .ref (rm 19), .ref (rm 20), .ref (rm 21), .int 0, .ref (rm 22), .ref (rm 23), .ref (rm 24), .int 0, .int 0, .int 0, .ref (rm 25), .ref (rm 26), .ref (rm 27), .int 0, .ref (rm 28), .ref (rm 29), .int 0, .ref (rm 30), .ref (rm 31), .int 0, .ref (rm 32), .ref (rm 33), .int 0, .ref (rm 34), .ref (rm 35), .int 0, .int 0, .int 0, .ref (rm 36), .ref (rm 37), .int 0, .ref (rm 38), .ref (rm 39), .int 0, .ref (rm 40), .ref (rm 41), .ref (rm 42), .int 0, .int 0, .long 1, .ref (rm 43), .int 0, .int 0, .int (-1), .int 0, .int 0, .int 0, .int 0, .ref (rm 44), .ref (rm 45), .ref (rm 46), .ref (rm 47), .int 0])), ((rm 1), .inl ((km 0), 1600, .inl f1147)), ((rm 2), .inl ((km 1), 7, .inl (fun _ => 0))), ((rm 22), .inl ((km 2), 422, .inl (fun _ => 0))), ((rm 23), .inl ((km 3), 422, .inl (fun _ => 0)))]
def wd_758 (rm : Nat → Nat) (km : Nat → ClassId) : va_W := [((rm 0), .inr (12, [.ref (rm 1), .int 0, .int 0, .int 0, .int 0, .int 0, .int 0, .int 0, .int (-1), .ref (rm 2), .ref (rm 3), .ref (rm 4), .ref (rm 5), .ref (rm 6), .ref (rm 7), .ref (rm 8), .ref (rm 9), .ref (rm 10), .ref (rm 11), .ref (rm 12), .ref (rm 13), .ref (rm 14), .ref (rm 15), .ref (rm 16), .int 0, .int 0, .int 0, .int 0, .int 0, .ref (rm 17), .ref (rm 18), .ref (rm 19), .ref (rm 20), .ref (rm 21), .int 0, .ref (rm 22), .ref (rm 23), .ref (rm 24), .int 0, .int 0, .int 0, .ref (rm 25), .ref (rm 26), .ref (rm 27), .int 0, .ref (rm 28), .ref (rm 29), .int 0, .ref (rm 30), .ref (rm 31), .int 0, .ref (rm 32), .ref (rm 33), .int 0, .ref (rm 34), .ref (rm 35), .int 0, .int 0, .int 0, .ref (rm 36), .ref (rm 37), .int 0, .ref (rm 38), .ref (rm 39), .int 0, .ref (rm 40), .ref (rm 41), .ref (rm 42), .int 0, .int 0, .long 1, .ref (rm 43), .int 0, .int 0, .int (-1), .int 0, .int 0, .int 0, .int 0, .ref (rm 44), .ref (rm 45), .ref (rm 46), .ref (rm 47), .int 0])), ((rm 1), .inl ((km 0), 1600, .inl (fun _ => 0))), ((rm 2), .inl ((km 1), 7, .inl (fun _ => 0))), ((rm 22), .inl ((km 2), 422, .inl (fun _ => 0))), ((rm 23), .inl ((km 3), 422, .inl (fun _ => 0)))]
set_option maxHeartbeats 4000000 in
set_option maxRecDepth 100000 in
theorem mX12_feed (l : Launch) (dC : Nat → ClassId) (dI : Nat → Nat → Nat) (rm : Nat → Nat) (km : Nat → ClassId) (p1 : Int32) (p2 : Int32) (p3 : Int32) (p4 : Int32) (p5 : Int32) (sz : Nat) : Met l yX12_feed (Cond.code yX12_feed cX12_feed 8 (some .int) :: wA) ({ frames := 0, cells := 0, slots := 0, locals := 0 }) (va_Pc [.ref (rm 0), .int p1, .int p2, .int p3, .int p4, .int p5] (fun U => U.heap.size = sz ∧ va_P (dC, dI) vwCl (wd_758 rm km) U.heap ∧ va_K (dC, dI) vwCl [((km 0), .int), ((km 1), .int), ((km 2), .int), ((km 3), .int)] U ∧ va_D (fun _ => True) (wd_758 rm km))) (va_Qi (fun (r : Int32) (_ : Unit) => r = 20) (fun _ t => True) (va_A (wd_758 rm km) sz)) 0 0 (va_A (wd_758 rm km) sz) := by
  refine Met.ofW (cc := cX12_feed) (maxL := 8) (ret := (some .int)) (by decide) rfl ?_
  intro p e s m args below meth c s₁ B hml hv
  obtain ⟨rfl, hsz, hP, hK, hD0⟩ := hv
  have hx := B.exec
  have hb := B.bytes
  have hr := B.returns
  have hts : ∀ w ∈ wA, w.before [.ref (rm 0), .int p1, .int p2, .int p3, .int p4, .int p5].toArray s = true := fun w h => atoms_spec (ws := Cond.code yX12_feed cX12_feed 8 (some .int) :: wA) B.pre w (List.mem_cons_of_mem _ h)
  have hown : s.vm.findClass RX12 = some m.cls := findClass_of_methodNamed B.named
  have hlocks := B.notSynchronized
  subst hsz
  have hD := hD0.self (sz := s.heap.size)
  generalize hAe : va_A (wd_758 rm km) s.heap.size = A at hD ⊢
  have hA : ∀ q : Nat, s.heap.size ≤ q → A q := fun q h => by rw [← hAe]; exact Or.inr h
  have hS : va_S A s.heap s.heap [] := va_S.rf
  have hl := lv_entry ([.ref (rm 0), .int p1, .int p2, .int p3, .int p4, .int p5]) (n := 8) (Nat.le_of_ble_eq_true rfl)
  rw [lg_entry_eq]
  generalize (lg_sl ([.ref (rm 0), .int p1, .int p2, .int p3, .int p4, .int p5]) ++ List.replicate (8 - (lg_sl ([.ref (rm 0), .int p1, .int p2, .int p3, .int p4, .int p5])).length) Slot.unset).toArray = ls at hl ⊢
  have hl : lv_has ls 8 [(0, .ref (rm 0)), (1, .int p1), (2, .int p2), (3, .int p3), (4, .int p4), (5, .int p5)] := hl
  refine lv_aload_n hx hb dX12_feed_0 rfl (lv_at hl 0 rfl) ?_
  refine va_get (D := (dC, dI)) (ci := 12) (v := .int 0) (C := RX12) (T := TX12) (N := 84) hx hb hts i_X12 hown hK hP 0 rfl rfl 1 (by decide) (hts _ q_366) (fun _ h9 => h9) rfl dX12_feed_1 ?_
  refine lv_bipush (v := 20) hx hb dX12_feed_4 (by decide) ?_
  refine lv_iadd hx hb dX12_feed_6 ?_
  refine lv_topi (fun x_1008 ex_1008 => ?_)
  obtain rfl : x_1008 = 20 := ex_1008.trans (by decide)
  refine lv_sipush (v := 1600) hx hb dX12_feed_7 (by decide) ?_
  refine lv_icmp_le (tgt := 19) hx hb dX12_feed_10 (by decide) (fun c_0 => ?_) (fun c_0 => absurd c_0 (by decide))
  refine lv_iconst (v := 0) hx hb dX12_feed_19 (by decide) ?_
  refine lv_istore (lv' := [(6, .int 0), (0, .ref (rm 0)), (1, .int p1), (2, .int p2), (3, .int p3), (4, .int p4), (5, .int p5)]) hx hb dX12_feed_20 hl (by decide) rfl (fun ls hl => ?_)
  refine lv_iload hx hb dX12_feed_22 (lv_at hl 0 rfl) ?_
  refine lv_bipush (v := 20) hx hb dX12_feed_24 (by decide) ?_
  refine lv_icmp_ge (tgt := 118) hx hb dX12_feed_26 (by decide) (fun c_0 => absurd c_0 (by decide)) (fun c_0 => ?_)
  refine lv_iload hx hb dX12_feed_29 (lv_at hl 0 rfl) ?_
  refine lv_iconst (v := 4) hx hb dX12_feed_31 (by decide) ?_
  refine lv_icmp_ge (tgt := 39) hx hb dX12_feed_32 (by decide) (fun c_0 => absurd c_0 (by decide)) (fun c_0 => ?_)
  refine lv_iload_n hx hb dX12_feed_35 rfl (lv_at hl 2 rfl) ?_
  refine lv_goto (tgt := 75) hx hb dX12_feed_36 (by decide) ?_
  refine lv_istore (lv' := [(7, .int p1), (6, .int 0), (0, .ref (rm 0)), (1, .int p1), (2, .int p2), (3, .int p3), (4, .int p4), (5, .int p5)]) hx hb dX12_feed_75 hl (by decide) rfl (fun ls hl => ?_)
  refine lv_aload_n hx hb dX12_feed_77 rfl (lv_at hl 2 rfl) ?_
  refine va_get (D := (dC, dI)) (ci := 12) (v := .ref (rm 1)) (C := RX12) (T := TX12) (N := 84) hx hb hts i_X12 hown hK hP 0 rfl rfl 0 (by decide) (hts _ q_187) (fun _ h9 => h9) rfl dX12_feed_78 ?_
  refine lv_aload_n hx hb dX12_feed_81 rfl (lv_at hl 2 rfl) ?_
  refine va_get (D := (dC, dI)) (ci := 12) (v := .int 0) (C := RX12) (T := TX12) (N := 84) hx hb hts i_X12 hown hK hP 0 rfl rfl 1 (by decide) (hts _ q_366) (fun _ h9 => h9) rfl dX12_feed_82 ?_
  refine lv_iload hx hb dX12_feed_85 (lv_at hl 0 rfl) ?_
  refine lv_bipush (v := 8) hx hb dX12_feed_87 (by decide) ?_
  refine lv_iconst (v := 3) hx hb dX12_feed_89 (by decide) ?_
  refine lv_iload hx hb dX12_feed_90 (lv_at hl 1 rfl) ?_
  refine lv_iconst (v := 4) hx hb dX12_feed_92 (by decide) ?_
  refine lv_irem hx hb dX12_feed_93 (by decide) ?_
  refine lv_topi (fun x_1009 ex_1009 => ?_)
  obtain rfl : x_1009 = 0 := ex_1009.trans (by decide)
  refine lv_isub hx hb dX12_feed_94 ?_
  refine lv_topi (fun x_1010 ex_1010 => ?_)
  obtain rfl : x_1010 = 3 := ex_1010.trans (by decide)
  refine lv_imul hx hb dX12_feed_95 ?_
  refine lv_topi (fun x_1011 ex_1011 => ?_)
  obtain rfl : x_1011 = 24 := ex_1011.trans (by decide)
  refine lv_ishr hx hb dX12_feed_96 ?_
  refine lv_topi (fun x_1012 ex_1012 => ?_)
  refine lv_sipush (v := 255) hx hb dX12_feed_97 (by decide) ?_
  refine lv_iand hx hb dX12_feed_100 ?_
  refine lv_topi (fun x_1013 ex_1013 => ?_)
  refine va_iast hx hb hK hP hD hS 1 0 rfl rfl (vpi (by decide)) dX12_feed_101 (fun H locs hP hD hS => ?_)
  obtain ⟨f1014, hP, hD⟩ : ∃ f : Nat → Int32, va_P (dC, dI) vwCl (wd_658 rm km f) H ∧ va_D A (wd_658 rm km f) := ⟨_, hP, hD⟩
  have hP : va_P (dC, dI) vwCl (wd_718 rm km f1014) H := hP
  have hD : va_D A (wd_718 rm km f1014) := hD
  refine lv_aload_n hx hb dX12_feed_102 rfl (lv_at hl 2 rfl) ?_
  refine lv_dup hx hb dX12_feed_103 rfl ?_
  refine va_get (D := (dC, dI)) (ci := 12) (v := .int 0) (C := RX12) (T := TX12) (N := 84) hx hb hts i_X12 hown hK hP 0 rfl rfl 1 (by decide) (hts _ q_366) (fun _ h9 => h9) rfl dX12_feed_104 ?_
  refine lv_iconst (v := 1) hx hb dX12_feed_107 (by decide) ?_
  refine lv_iadd hx hb dX12_feed_108 ?_
  refine lv_topi (fun x_1015 ex_1015 => ?_)
  obtain rfl : x_1015 = 1 := ex_1015.trans (by decide)
  refine va_put (D := (dC, dI)) (ci := 12) (v := .int 1) (ty := tyX12 1) (C := RX12) (T := TX12) (N := 84) hx hb hts i_X12 tyX12 tyX12_ok nmX12 hown hK hP hD hS 0 rfl rfl 1 (by decide) (hts _ q_366) (fun _ h9 => h9) rfl (tyX12_ok 1 (by decide)) rfl rfl (Nat.le_of_ble_eq_true rfl) dX12_feed_109 (fun H locs hP hD hS => ?_)
  have hP : va_P (dC, dI) vwCl (wd_719 rm km f1014) H := hP
  have hD : va_D A (wd_719 rm km f1014) := hD
  refine lv_iinc (v := 1) (lv' := [(6, .int 1), (7, .int p1), (0, .ref (rm 0)), (1, .int p1), (2, .int p2), (3, .int p3), (4, .int p4), (5, .int p5)]) hx hb dX12_feed_112 hl (k := 1) rfl (by decide) (by decide) rfl (fun ls hl => ?_)
  refine lv_goto (tgt := 22) hx hb dX12_feed_115 (by decide) ?_
  refine lv_iload hx hb dX12_feed_22 (lv_at hl 0 rfl) ?_
  refine lv_bipush (v := 20) hx hb dX12_feed_24 (by decide) ?_
  refine lv_icmp_ge (tgt := 118) hx hb dX12_feed_26 (by decide) (fun c_0 => absurd c_0 (by decide)) (fun c_0 => ?_)
  refine lv_iload hx hb dX12_feed_29 (lv_at hl 0 rfl) ?_
  refine lv_iconst (v := 4) hx hb dX12_feed_31 (by decide) ?_
  refine lv_icmp_ge (tgt := 39) hx hb dX12_feed_32 (by decide) (fun c_0 => absurd c_0 (by decide)) (fun c_0 => ?_)
  refine lv_iload_n hx hb dX12_feed_35 rfl (lv_at hl 3 rfl) ?_
  refine lv_goto (tgt := 75) hx hb dX12_feed_36 (by decide) ?_
  refine lv_istore (lv' := [(7, .int p1), (6, .int 1), (0, .ref (rm 0)), (1, .int p1), (2, .int p2), (3, .int p3), (4, .int p4), (5, .int p5)]) hx hb dX12_feed_75 hl (by decide) rfl (fun ls hl => ?_)
  refine lv_aload_n hx hb dX12_feed_77 rfl (lv_at hl 2 rfl) ?_
  refine va_get (D := (dC, dI)) (ci := 12) (v := .ref (rm 1)) (C := RX12) (T := TX12) (N := 84) hx hb hts i_X12 hown hK hP 0 rfl rfl 0 (by decide) (hts _ q_187) (fun _ h9 => h9) rfl dX12_feed_78 ?_
  refine lv_aload_n hx hb dX12_feed_81 rfl (lv_at hl 2 rfl) ?_
  refine va_get (D := (dC, dI)) (ci := 12) (v := .int 1) (C := RX12) (T := TX12) (N := 84) hx hb hts i_X12 hown hK hP 0 rfl rfl 1 (by decide) (hts _ q_366) (fun _ h9 => h9) rfl dX12_feed_82 ?_
  refine lv_iload hx hb dX12_feed_85 (lv_at hl 0 rfl) ?_
  refine lv_bipush (v := 8) hx hb dX12_feed_87 (by decide) ?_
  refine lv_iconst (v := 3) hx hb dX12_feed_89 (by decide) ?_
  refine lv_iload hx hb dX12_feed_90 (lv_at hl 1 rfl) ?_
  refine lv_iconst (v := 4) hx hb dX12_feed_92 (by decide) ?_
  refine lv_irem hx hb dX12_feed_93 (by decide) ?_
  refine lv_topi (fun x_1016 ex_1016 => ?_)
  obtain rfl : x_1016 = 1 := ex_1016.trans (by decide)
  refine lv_isub hx hb dX12_feed_94 ?_
  refine lv_topi (fun x_1017 ex_1017 => ?_)
  obtain rfl : x_1017 = 2 := ex_1017.trans (by decide)
  refine lv_imul hx hb dX12_feed_95 ?_
  refine lv_topi (fun x_1018 ex_1018 => ?_)
  obtain rfl : x_1018 = 16 := ex_1018.trans (by decide)
  refine lv_ishr hx hb dX12_feed_96 ?_
  refine lv_topi (fun x_1019 ex_1019 => ?_)
  refine lv_sipush (v := 255) hx hb dX12_feed_97 (by decide) ?_
  refine lv_iand hx hb dX12_feed_100 ?_
  refine lv_topi (fun x_1020 ex_1020 => ?_)
  refine va_iast hx hb hK hP hD hS 1 0 rfl rfl (vpi (by decide)) dX12_feed_101 (fun H locs hP hD hS => ?_)
  obtain ⟨f1021, hP, hD⟩ : ∃ f : Nat → Int32, va_P (dC, dI) vwCl (wd_661 rm km f) H ∧ va_D A (wd_661 rm km f) := ⟨_, hP, hD⟩
  have hP : va_P (dC, dI) vwCl (wd_720 rm km f1021) H := hP
  have hD : va_D A (wd_720 rm km f1021) := hD
  refine lv_aload_n hx hb dX12_feed_102 rfl (lv_at hl 2 rfl) ?_
  refine lv_dup hx hb dX12_feed_103 rfl ?_
  refine va_get (D := (dC, dI)) (ci := 12) (v := .int 1) (C := RX12) (T := TX12) (N := 84) hx hb hts i_X12 hown hK hP 0 rfl rfl 1 (by decide) (hts _ q_366) (fun _ h9 => h9) rfl dX12_feed_104 ?_
  refine lv_iconst (v := 1) hx hb dX12_feed_107 (by decide) ?_
  refine lv_iadd hx hb dX12_feed_108 ?_
  refine lv_topi (fun x_1022 ex_1022 => ?_)
  obtain rfl : x_1022 = 2 := ex_1022.trans (by decide)
  refine va_put (D := (dC, dI)) (ci := 12) (v := .int 2) (ty := tyX12 1) (C := RX12) (T := TX12) (N := 84) hx hb hts i_X12 tyX12 tyX12_ok nmX12 hown hK hP hD hS 0 rfl rfl 1 (by decide) (hts _ q_366) (fun _ h9 => h9) rfl (tyX12_ok 1 (by decide)) rfl rfl (Nat.le_of_ble_eq_true rfl) dX12_feed_109 (fun H locs hP hD hS => ?_)
  have hP : va_P (dC, dI) vwCl (wd_721 rm km f1021) H := hP
  have hD : va_D A (wd_721 rm km f1021) := hD
  refine lv_iinc (v := 2) (lv' := [(6, .int 2), (7, .int p1), (0, .ref (rm 0)), (1, .int p1), (2, .int p2), (3, .int p3), (4, .int p4), (5, .int p5)]) hx hb dX12_feed_112 hl (k := 1) rfl (by decide) (by decide) rfl (fun ls hl => ?_)
  refine lv_goto (tgt := 22) hx hb dX12_feed_115 (by decide) ?_
  refine lv_iload hx hb dX12_feed_22 (lv_at hl 0 rfl) ?_
  refine lv_bipush (v := 20) hx hb dX12_feed_24 (by decide) ?_
  refine lv_icmp_ge (tgt := 118) hx hb dX12_feed_26 (by decide) (fun c_0 => absurd c_0 (by decide)) (fun c_0 => ?_)
  refine lv_iload hx hb dX12_feed_29 (lv_at hl 0 rfl) ?_
  refine lv_iconst (v := 4) hx hb dX12_feed_31 (by decide) ?_
  refine lv_icmp_ge (tgt := 39) hx hb dX12_feed_32 (by decide) (fun c_0 => absurd c_0 (by decide)) (fun c_0 => ?_)
  refine lv_iload_n hx hb dX12_feed_35 rfl (lv_at hl 3 rfl) ?_
  refine lv_goto (tgt := 75) hx hb dX12_feed_36 (by decide) ?_
  refine lv_istore (lv' := [(7, .int p1), (6, .int 2), (0, .ref (rm 0)), (1, .int p1), (2, .int p2), (3, .int p3), (4, .int p4), (5, .int p5)]) hx hb dX12_feed_75 hl (by decide) rfl (fun ls hl => ?_)
  refine lv_aload_n hx hb dX12_feed_77 rfl (lv_at hl 2 rfl) ?_
  refine va_get (D := (dC, dI)) (ci := 12) (v := .ref (rm 1)) (C := RX12) (T := TX12) (N := 84) hx hb hts i_X12 hown hK hP 0 rfl rfl 0 (by decide) (hts _ q_187) (fun _ h9 => h9) rfl dX12_feed_78 ?_
  refine lv_aload_n hx hb dX12_feed_81 rfl (lv_at hl 2 rfl) ?_
  refine va_get (D := (dC, dI)) (ci := 12) (v := .int 2) (C := RX12) (T := TX12) (N := 84) hx hb hts i_X12 hown hK hP 0 rfl rfl 1 (by decide) (hts _ q_366) (fun _ h9 => h9) rfl dX12_feed_82 ?_
  refine lv_iload hx hb dX12_feed_85 (lv_at hl 0 rfl) ?_
  refine lv_bipush (v := 8) hx hb dX12_feed_87 (by decide) ?_
  refine lv_iconst (v := 3) hx hb dX12_feed_89 (by decide) ?_
  refine lv_iload hx hb dX12_feed_90 (lv_at hl 1 rfl) ?_
  refine lv_iconst (v := 4) hx hb dX12_feed_92 (by decide) ?_
  refine lv_irem hx hb dX12_feed_93 (by decide) ?_
  refine lv_topi (fun x_1023 ex_1023 => ?_)
  obtain rfl : x_1023 = 2 := ex_1023.trans (by decide)
  refine lv_isub hx hb dX12_feed_94 ?_
  refine lv_topi (fun x_1024 ex_1024 => ?_)
  obtain rfl : x_1024 = 1 := ex_1024.trans (by decide)
  refine lv_imul hx hb dX12_feed_95 ?_
  refine lv_topi (fun x_1025 ex_1025 => ?_)
  obtain rfl : x_1025 = 8 := ex_1025.trans (by decide)
  refine lv_ishr hx hb dX12_feed_96 ?_
  refine lv_topi (fun x_1026 ex_1026 => ?_)
  refine lv_sipush (v := 255) hx hb dX12_feed_97 (by decide) ?_
  refine lv_iand hx hb dX12_feed_100 ?_
  refine lv_topi (fun x_1027 ex_1027 => ?_)
  refine va_iast hx hb hK hP hD hS 1 0 rfl rfl (vpi (by decide)) dX12_feed_101 (fun H locs hP hD hS => ?_)
  obtain ⟨f1028, hP, hD⟩ : ∃ f : Nat → Int32, va_P (dC, dI) vwCl (wd_664 rm km f) H ∧ va_D A (wd_664 rm km f) := ⟨_, hP, hD⟩
  have hP : va_P (dC, dI) vwCl (wd_722 rm km f1028) H := hP
  have hD : va_D A (wd_722 rm km f1028) := hD
  refine lv_aload_n hx hb dX12_feed_102 rfl (lv_at hl 2 rfl) ?_
  refine lv_dup hx hb dX12_feed_103 rfl ?_
  refine va_get (D := (dC, dI)) (ci := 12) (v := .int 2) (C := RX12) (T := TX12) (N := 84) hx hb hts i_X12 hown hK hP 0 rfl rfl 1 (by decide) (hts _ q_366) (fun _ h9 => h9) rfl dX12_feed_104 ?_
  refine lv_iconst (v := 1) hx hb dX12_feed_107 (by decide) ?_
  refine lv_iadd hx hb dX12_feed_108 ?_
  refine lv_topi (fun x_1029 ex_1029 => ?_)
  obtain rfl : x_1029 = 3 := ex_1029.trans (by decide)
  refine va_put (D := (dC, dI)) (ci := 12) (v := .int 3) (ty := tyX12 1) (C := RX12) (T := TX12) (N := 84) hx hb hts i_X12 tyX12 tyX12_ok nmX12 hown hK hP hD hS 0 rfl rfl 1 (by decide) (hts _ q_366) (fun _ h9 => h9) rfl (tyX12_ok 1 (by decide)) rfl rfl (Nat.le_of_ble_eq_true rfl) dX12_feed_109 (fun H locs hP hD hS => ?_)
  have hP : va_P (dC, dI) vwCl (wd_723 rm km f1028) H := hP
  have hD : va_D A (wd_723 rm km f1028) := hD
  refine lv_iinc (v := 3) (lv' := [(6, .int 3), (7, .int p1), (0, .ref (rm 0)), (1, .int p1), (2, .int p2), (3, .int p3), (4, .int p4), (5, .int p5)]) hx hb dX12_feed_112 hl (k := 1) rfl (by decide) (by decide) rfl (fun ls hl => ?_)
  refine lv_goto (tgt := 22) hx hb dX12_feed_115 (by decide) ?_
  refine lv_iload hx hb dX12_feed_22 (lv_at hl 0 rfl) ?_
  refine lv_bipush (v := 20) hx hb dX12_feed_24 (by decide) ?_
  refine lv_icmp_ge (tgt := 118) hx hb dX12_feed_26 (by decide) (fun c_0 => absurd c_0 (by decide)) (fun c_0 => ?_)
  refine lv_iload hx hb dX12_feed_29 (lv_at hl 0 rfl) ?_
  refine lv_iconst (v := 4) hx hb dX12_feed_31 (by decide) ?_
  refine lv_icmp_ge (tgt := 39) hx hb dX12_feed_32 (by decide) (fun c_0 => absurd c_0 (by decide)) (fun c_0 => ?_)
  refine lv_iload_n hx hb dX12_feed_35 rfl (lv_at hl 3 rfl) ?_
  refine lv_goto (tgt := 75) hx hb dX12_feed_36 (by decide) ?_
  refine lv_istore (lv' := [(7, .int p1), (6, .int 3), (0, .ref (rm 0)), (1, .int p1), (2, .int p2), (3, .int p3), (4, .int p4), (5, .int p5)]) hx hb dX12_feed_75 hl (by decide) rfl (fun ls hl => ?_)
  refine lv_aload_n hx hb dX12_feed_77 rfl (lv_at hl 2 rfl) ?_
  refine va_get (D := (dC, dI)) (ci := 12) (v := .ref (rm 1)) (C := RX12) (T := TX12) (N := 84) hx hb hts i_X12 hown hK hP 0 rfl rfl 0 (by decide) (hts _ q_187) (fun _ h9 => h9) rfl dX12_feed_78 ?_
  refine lv_aload_n hx hb dX12_feed_81 rfl (lv_at hl 2 rfl) ?_
  refine va_get (D := (dC, dI)) (ci := 12) (v := .int 3) (C := RX12) (T := TX12) (N := 84) hx hb hts i_X12 hown hK hP 0 rfl rfl 1 (by decide) (hts _ q_366) (fun _ h9 => h9) rfl dX12_feed_82 ?_
  refine lv_iload hx hb dX12_feed_85 (lv_at hl 0 rfl) ?_
  refine lv_bipush (v := 8) hx hb dX12_feed_87 (by decide) ?_
  refine lv_iconst (v := 3) hx hb dX12_feed_89 (by decide) ?_
  refine lv_iload hx hb dX12_feed_90 (lv_at hl 1 rfl) ?_
  refine lv_iconst (v := 4) hx hb dX12_feed_92 (by decide) ?_
  refine lv_irem hx hb dX12_feed_93 (by decide) ?_
  refine lv_topi (fun x_1030 ex_1030 => ?_)
  obtain rfl : x_1030 = 3 := ex_1030.trans (by decide)
  refine lv_isub hx hb dX12_feed_94 ?_
  refine lv_topi (fun x_1031 ex_1031 => ?_)
  obtain rfl : x_1031 = 0 := ex_1031.trans (by decide)
  refine lv_imul hx hb dX12_feed_95 ?_
  refine lv_topi (fun x_1032 ex_1032 => ?_)
  obtain rfl : x_1032 = 0 := ex_1032.trans (by decide)
  refine lv_ishr hx hb dX12_feed_96 ?_
  refine lv_topi (fun x_1033 ex_1033 => ?_)
  refine lv_sipush (v := 255) hx hb dX12_feed_97 (by decide) ?_
  refine lv_iand hx hb dX12_feed_100 ?_
  refine lv_topi (fun x_1034 ex_1034 => ?_)
  refine va_iast hx hb hK hP hD hS 1 0 rfl rfl (vpi (by decide)) dX12_feed_101 (fun H locs hP hD hS => ?_)
  obtain ⟨f1035, hP, hD⟩ : ∃ f : Nat → Int32, va_P (dC, dI) vwCl (wd_667 rm km f) H ∧ va_D A (wd_667 rm km f) := ⟨_, hP, hD⟩
  have hP : va_P (dC, dI) vwCl (wd_724 rm km f1035) H := hP
  have hD : va_D A (wd_724 rm km f1035) := hD
  refine lv_aload_n hx hb dX12_feed_102 rfl (lv_at hl 2 rfl) ?_
  refine lv_dup hx hb dX12_feed_103 rfl ?_
  refine va_get (D := (dC, dI)) (ci := 12) (v := .int 3) (C := RX12) (T := TX12) (N := 84) hx hb hts i_X12 hown hK hP 0 rfl rfl 1 (by decide) (hts _ q_366) (fun _ h9 => h9) rfl dX12_feed_104 ?_
  refine lv_iconst (v := 1) hx hb dX12_feed_107 (by decide) ?_
  refine lv_iadd hx hb dX12_feed_108 ?_
  refine lv_topi (fun x_1036 ex_1036 => ?_)
  obtain rfl : x_1036 = 4 := ex_1036.trans (by decide)
  refine va_put (D := (dC, dI)) (ci := 12) (v := .int 4) (ty := tyX12 1) (C := RX12) (T := TX12) (N := 84) hx hb hts i_X12 tyX12 tyX12_ok nmX12 hown hK hP hD hS 0 rfl rfl 1 (by decide) (hts _ q_366) (fun _ h9 => h9) rfl (tyX12_ok 1 (by decide)) rfl rfl (Nat.le_of_ble_eq_true rfl) dX12_feed_109 (fun H locs hP hD hS => ?_)
  have hP : va_P (dC, dI) vwCl (wd_725 rm km f1035) H := hP
  have hD : va_D A (wd_725 rm km f1035) := hD
  refine lv_iinc (v := 4) (lv' := [(6, .int 4), (7, .int p1), (0, .ref (rm 0)), (1, .int p1), (2, .int p2), (3, .int p3), (4, .int p4), (5, .int p5)]) hx hb dX12_feed_112 hl (k := 1) rfl (by decide) (by decide) rfl (fun ls hl => ?_)
  refine lv_goto (tgt := 22) hx hb dX12_feed_115 (by decide) ?_
  refine lv_iload hx hb dX12_feed_22 (lv_at hl 0 rfl) ?_
  refine lv_bipush (v := 20) hx hb dX12_feed_24 (by decide) ?_
  refine lv_icmp_ge (tgt := 118) hx hb dX12_feed_26 (by decide) (fun c_0 => absurd c_0 (by decide)) (fun c_0 => ?_)
  refine lv_iload hx hb dX12_feed_29 (lv_at hl 0 rfl) ?_
  refine lv_iconst (v := 4) hx hb dX12_feed_31 (by decide) ?_
  refine lv_icmp_ge (tgt := 39) hx hb dX12_feed_32 (by decide) (fun c_0 => ?_) (fun c_0 => absurd c_0 (by decide))
  refine lv_iload hx hb dX12_feed_39 (lv_at hl 0 rfl) ?_
  refine lv_bipush (v := 8) hx hb dX12_feed_41 (by decide) ?_
  refine lv_icmp_ge (tgt := 50) hx hb dX12_feed_43 (by decide) (fun c_0 => absurd c_0 (by decide)) (fun c_0 => ?_)
  refine lv_iload_n hx hb dX12_feed_46 rfl (lv_at hl 4 rfl) ?_
  refine lv_goto (tgt := 75) hx hb dX12_feed_47 (by decide) ?_
  refine lv_istore (lv' := [(7, .int p2), (6, .int 4), (0, .ref (rm 0)), (1, .int p1), (2, .int p2), (3, .int p3), (4, .int p4), (5, .int p5)]) hx hb dX12_feed_75 hl (by decide) rfl (fun ls hl => ?_)
  refine lv_aload_n hx hb dX12_feed_77 rfl (lv_at hl 2 rfl) ?_
  refine va_get (D := (dC, dI)) (ci := 12) (v := .ref (rm 1)) (C := RX12) (T := TX12) (N := 84) hx hb hts i_X12 hown hK hP 0 rfl rfl 0 (by decide) (hts _ q_187) (fun _ h9 => h9) rfl dX12_feed_78 ?_
  refine lv_aload_n hx hb dX12_feed_81 rfl (lv_at hl 2 rfl) ?_
  refine va_get (D := (dC, dI)) (ci := 12) (v := .int 4) (C := RX12) (T := TX12) (N := 84) hx hb hts i_X12 hown hK hP 0 rfl rfl 1 (by decide) (hts _ q_366) (fun _ h9 => h9) rfl dX12_feed_82 ?_
  refine lv_iload hx hb dX12_feed_85 (lv_at hl 0 rfl) ?_
  refine lv_bipush (v := 8) hx hb dX12_feed_87 (by decide) ?_
  refine lv_iconst (v := 3) hx hb dX12_feed_89 (by decide) ?_
  refine lv_iload hx hb dX12_feed_90 (lv_at hl 1 rfl) ?_
  refine lv_iconst (v := 4) hx hb dX12_feed_92 (by decide) ?_
  refine lv_irem hx hb dX12_feed_93 (by decide) ?_
  refine lv_topi (fun x_1037 ex_1037 => ?_)
  obtain rfl : x_1037 = 0 := ex_1037.trans (by decide)
  refine lv_isub hx hb dX12_feed_94 ?_
  refine lv_topi (fun x_1038 ex_1038 => ?_)
  obtain rfl : x_1038 = 3 := ex_1038.trans (by decide)
  refine lv_imul hx hb dX12_feed_95 ?_
  refine lv_topi (fun x_1039 ex_1039 => ?_)
  obtain rfl : x_1039 = 24 := ex_1039.trans (by decide)
  refine lv_ishr hx hb dX12_feed_96 ?_
  refine lv_topi (fun x_1040 ex_1040 => ?_)
  refine lv_sipush (v := 255) hx hb dX12_feed_97 (by decide) ?_
  refine lv_iand hx hb dX12_feed_100 ?_
  refine lv_topi (fun x_1041 ex_1041 => ?_)
  refine va_iast hx hb hK hP hD hS 1 0 rfl rfl (vpi (by decide)) dX12_feed_101 (fun H locs hP hD hS => ?_)
  obtain ⟨f1042, hP, hD⟩ : ∃ f : Nat → Int32, va_P (dC, dI) vwCl (wd_670 rm km f) H ∧ va_D A (wd_670 rm km f) := ⟨_, hP, hD⟩
  have hP : va_P (dC, dI) vwCl (wd_726 rm km f1042) H := hP
  have hD : va_D A (wd_726 rm km f1042) := hD
  refine lv_aload_n hx hb dX12_feed_102 rfl (lv_at hl 2 rfl) ?_
  refine lv_dup hx hb dX12_feed_103 rfl ?_
  refine va_get (D := (dC, dI)) (ci := 12) (v := .int 4) (C := RX12) (T := TX12) (N := 84) hx hb hts i_X12 hown hK hP 0 rfl rfl 1 (by decide) (hts _ q_366) (fun _ h9 => h9) rfl dX12_feed_104 ?_
  refine lv_iconst (v := 1) hx hb dX12_feed_107 (by decide) ?_
  refine lv_iadd hx hb dX12_feed_108 ?_
  refine lv_topi (fun x_1043 ex_1043 => ?_)
  obtain rfl : x_1043 = 5 := ex_1043.trans (by decide)
  refine va_put (D := (dC, dI)) (ci := 12) (v := .int 5) (ty := tyX12 1) (C := RX12) (T := TX12) (N := 84) hx hb hts i_X12 tyX12 tyX12_ok nmX12 hown hK hP hD hS 0 rfl rfl 1 (by decide) (hts _ q_366) (fun _ h9 => h9) rfl (tyX12_ok 1 (by decide)) rfl rfl (Nat.le_of_ble_eq_true rfl) dX12_feed_109 (fun H locs hP hD hS => ?_)
  have hP : va_P (dC, dI) vwCl (wd_727 rm km f1042) H := hP
  have hD : va_D A (wd_727 rm km f1042) := hD
  refine lv_iinc (v := 5) (lv' := [(6, .int 5), (7, .int p2), (0, .ref (rm 0)), (1, .int p1), (2, .int p2), (3, .int p3), (4, .int p4), (5, .int p5)]) hx hb dX12_feed_112 hl (k := 1) rfl (by decide) (by decide) rfl (fun ls hl => ?_)
  refine lv_goto (tgt := 22) hx hb dX12_feed_115 (by decide) ?_
  refine lv_iload hx hb dX12_feed_22 (lv_at hl 0 rfl) ?_
  refine lv_bipush (v := 20) hx hb dX12_feed_24 (by decide) ?_
  refine lv_icmp_ge (tgt := 118) hx hb dX12_feed_26 (by decide) (fun c_0 => absurd c_0 (by decide)) (fun c_0 => ?_)
  refine lv_iload hx hb dX12_feed_29 (lv_at hl 0 rfl) ?_
  refine lv_iconst (v := 4) hx hb dX12_feed_31 (by decide) ?_
  refine lv_icmp_ge (tgt := 39) hx hb dX12_feed_32 (by decide) (fun c_0 => ?_) (fun c_0 => absurd c_0 (by decide))
  refine lv_iload hx hb dX12_feed_39 (lv_at hl 0 rfl) ?_
  refine lv_bipush (v := 8) hx hb dX12_feed_41 (by decide) ?_
  refine lv_icmp_ge (tgt := 50) hx hb dX12_feed_43 (by decide) (fun c_0 => absurd c_0 (by decide)) (fun c_0 => ?_)
  refine lv_iload_n hx hb dX12_feed_46 rfl (lv_at hl 4 rfl) ?_
  refine lv_goto (tgt := 75) hx hb dX12_feed_47 (by decide) ?_
  refine lv_istore (lv' := [(7, .int p2), (6, .int 5), (0, .ref (rm 0)), (1, .int p1), (2, .int p2), (3, .int p3), (4, .int p4), (5, .int p5)]) hx hb dX12_feed_75 hl (by decide) rfl (fun ls hl => ?_)
  refine lv_aload_n hx hb dX12_feed_77 rfl (lv_at hl 2 rfl) ?_
  refine va_get (D := (dC, dI)) (ci := 12) (v := .ref (rm 1)) (C := RX12) (T := TX12) (N := 84) hx hb hts i_X12 hown hK hP 0 rfl rfl 0 (by decide) (hts _ q_187) (fun _ h9 => h9) rfl dX12_feed_78 ?_
  refine lv_aload_n hx hb dX12_feed_81 rfl (lv_at hl 2 rfl) ?_
  refine va_get (D := (dC, dI)) (ci := 12) (v := .int 5) (C := RX12) (T := TX12) (N := 84) hx hb hts i_X12 hown hK hP 0 rfl rfl 1 (by decide) (hts _ q_366) (fun _ h9 => h9) rfl dX12_feed_82 ?_
  refine lv_iload hx hb dX12_feed_85 (lv_at hl 0 rfl) ?_
  refine lv_bipush (v := 8) hx hb dX12_feed_87 (by decide) ?_
  refine lv_iconst (v := 3) hx hb dX12_feed_89 (by decide) ?_
  refine lv_iload hx hb dX12_feed_90 (lv_at hl 1 rfl) ?_
  refine lv_iconst (v := 4) hx hb dX12_feed_92 (by decide) ?_
  refine lv_irem hx hb dX12_feed_93 (by decide) ?_
  refine lv_topi (fun x_1044 ex_1044 => ?_)
  obtain rfl : x_1044 = 1 := ex_1044.trans (by decide)
  refine lv_isub hx hb dX12_feed_94 ?_
  refine lv_topi (fun x_1045 ex_1045 => ?_)
  obtain rfl : x_1045 = 2 := ex_1045.trans (by decide)
  refine lv_imul hx hb dX12_feed_95 ?_
  refine lv_topi (fun x_1046 ex_1046 => ?_)
  obtain rfl : x_1046 = 16 := ex_1046.trans (by decide)
  refine lv_ishr hx hb dX12_feed_96 ?_
  refine lv_topi (fun x_1047 ex_1047 => ?_)
  refine lv_sipush (v := 255) hx hb dX12_feed_97 (by decide) ?_
  refine lv_iand hx hb dX12_feed_100 ?_
  refine lv_topi (fun x_1048 ex_1048 => ?_)
  refine va_iast hx hb hK hP hD hS 1 0 rfl rfl (vpi (by decide)) dX12_feed_101 (fun H locs hP hD hS => ?_)
  obtain ⟨f1049, hP, hD⟩ : ∃ f : Nat → Int32, va_P (dC, dI) vwCl (wd_673 rm km f) H ∧ va_D A (wd_673 rm km f) := ⟨_, hP, hD⟩
  have hP : va_P (dC, dI) vwCl (wd_728 rm km f1049) H := hP
  have hD : va_D A (wd_728 rm km f1049) := hD
  refine lv_aload_n hx hb dX12_feed_102 rfl (lv_at hl 2 rfl) ?_
  refine lv_dup hx hb dX12_feed_103 rfl ?_
  refine va_get (D := (dC, dI)) (ci := 12) (v := .int 5) (C := RX12) (T := TX12) (N := 84) hx hb hts i_X12 hown hK hP 0 rfl rfl 1 (by decide) (hts _ q_366) (fun _ h9 => h9) rfl dX12_feed_104 ?_
  refine lv_iconst (v := 1) hx hb dX12_feed_107 (by decide) ?_
  refine lv_iadd hx hb dX12_feed_108 ?_
  refine lv_topi (fun x_1050 ex_1050 => ?_)
  obtain rfl : x_1050 = 6 := ex_1050.trans (by decide)
  refine va_put (D := (dC, dI)) (ci := 12) (v := .int 6) (ty := tyX12 1) (C := RX12) (T := TX12) (N := 84) hx hb hts i_X12 tyX12 tyX12_ok nmX12 hown hK hP hD hS 0 rfl rfl 1 (by decide) (hts _ q_366) (fun _ h9 => h9) rfl (tyX12_ok 1 (by decide)) rfl rfl (Nat.le_of_ble_eq_true rfl) dX12_feed_109 (fun H locs hP hD hS => ?_)
  have hP : va_P (dC, dI) vwCl (wd_729 rm km f1049) H := hP
  have hD : va_D A (wd_729 rm km f1049) := hD
  refine lv_iinc (v := 6) (lv' := [(6, .int 6), (7, .int p2), (0, .ref (rm 0)), (1, .int p1), (2, .int p2), (3, .int p3), (4, .int p4), (5, .int p5)]) hx hb dX12_feed_112 hl (k := 1) rfl (by decide) (by decide) rfl (fun ls hl => ?_)
  refine lv_goto (tgt := 22) hx hb dX12_feed_115 (by decide) ?_
  refine lv_iload hx hb dX12_feed_22 (lv_at hl 0 rfl) ?_
  refine lv_bipush (v := 20) hx hb dX12_feed_24 (by decide) ?_
  refine lv_icmp_ge (tgt := 118) hx hb dX12_feed_26 (by decide) (fun c_0 => absurd c_0 (by decide)) (fun c_0 => ?_)
  refine lv_iload hx hb dX12_feed_29 (lv_at hl 0 rfl) ?_
  refine lv_iconst (v := 4) hx hb dX12_feed_31 (by decide) ?_
  refine lv_icmp_ge (tgt := 39) hx hb dX12_feed_32 (by decide) (fun c_0 => ?_) (fun c_0 => absurd c_0 (by decide))
  refine lv_iload hx hb dX12_feed_39 (lv_at hl 0 rfl) ?_
  refine lv_bipush (v := 8) hx hb dX12_feed_41 (by decide) ?_
  refine lv_icmp_ge (tgt := 50) hx hb dX12_feed_43 (by decide) (fun c_0 => absurd c_0 (by decide)) (fun c_0 => ?_)
  refine lv_iload_n hx hb dX12_feed_46 rfl (lv_at hl 4 rfl) ?_
  refine lv_goto (tgt := 75) hx hb dX12_feed_47 (by decide) ?_
  refine lv_istore (lv' := [(7, .int p2), (6, .int 6), (0, .ref (rm 0)), (1, .int p1), (2, .int p2), (3, .int p3), (4, .int p4), (5, .int p5)]) hx hb dX12_feed_75 hl (by decide) rfl (fun ls hl => ?_)
  refine lv_aload_n hx hb dX12_feed_77 rfl (lv_at hl 2 rfl) ?_
  refine va_get (D := (dC, dI)) (ci := 12) (v := .ref (rm 1)) (C := RX12) (T := TX12) (N := 84) hx hb hts i_X12 hown hK hP 0 rfl rfl 0 (by decide) (hts _ q_187) (fun _ h9 => h9) rfl dX12_feed_78 ?_
  refine lv_aload_n hx hb dX12_feed_81 rfl (lv_at hl 2 rfl) ?_
  refine va_get (D := (dC, dI)) (ci := 12) (v := .int 6) (C := RX12) (T := TX12) (N := 84) hx hb hts i_X12 hown hK hP 0 rfl rfl 1 (by decide) (hts _ q_366) (fun _ h9 => h9) rfl dX12_feed_82 ?_
  refine lv_iload hx hb dX12_feed_85 (lv_at hl 0 rfl) ?_
  refine lv_bipush (v := 8) hx hb dX12_feed_87 (by decide) ?_
  refine lv_iconst (v := 3) hx hb dX12_feed_89 (by decide) ?_
  refine lv_iload hx hb dX12_feed_90 (lv_at hl 1 rfl) ?_
  refine lv_iconst (v := 4) hx hb dX12_feed_92 (by decide) ?_
  refine lv_irem hx hb dX12_feed_93 (by decide) ?_
  refine lv_topi (fun x_1051 ex_1051 => ?_)
  obtain rfl : x_1051 = 2 := ex_1051.trans (by decide)
  refine lv_isub hx hb dX12_feed_94 ?_
  refine lv_topi (fun x_1052 ex_1052 => ?_)
  obtain rfl : x_1052 = 1 := ex_1052.trans (by decide)
  refine lv_imul hx hb dX12_feed_95 ?_
  refine lv_topi (fun x_1053 ex_1053 => ?_)
  obtain rfl : x_1053 = 8 := ex_1053.trans (by decide)
  refine lv_ishr hx hb dX12_feed_96 ?_
  refine lv_topi (fun x_1054 ex_1054 => ?_)
  refine lv_sipush (v := 255) hx hb dX12_feed_97 (by decide) ?_
  refine lv_iand hx hb dX12_feed_100 ?_
  refine lv_topi (fun x_1055 ex_1055 => ?_)
  refine va_iast hx hb hK hP hD hS 1 0 rfl rfl (vpi (by decide)) dX12_feed_101 (fun H locs hP hD hS => ?_)
  obtain ⟨f1056, hP, hD⟩ : ∃ f : Nat → Int32, va_P (dC, dI) vwCl (wd_676 rm km f) H ∧ va_D A (wd_676 rm km f) := ⟨_, hP, hD⟩
  have hP : va_P (dC, dI) vwCl (wd_730 rm km f1056) H := hP
  have hD : va_D A (wd_730 rm km f1056) := hD
  refine lv_aload_n hx hb dX12_feed_102 rfl (lv_at hl 2 rfl) ?_
  refine lv_dup hx hb dX12_feed_103 rfl ?_
  refine va_get (D := (dC, dI)) (ci := 12) (v := .int 6) (C := RX12) (T := TX12) (N := 84) hx hb hts i_X12 hown hK hP 0 rfl rfl 1 (by decide) (hts _ q_366) (fun _ h9 => h9) rfl dX12_feed_104 ?_
  refine lv_iconst (v := 1) hx hb dX12_feed_107 (by decide) ?_
  refine lv_iadd hx hb dX12_feed_108 ?_
  refine lv_topi (fun x_1057 ex_1057 => ?_)
  obtain rfl : x_1057 = 7 := ex_1057.trans (by decide)
  refine va_put (D := (dC, dI)) (ci := 12) (v := .int 7) (ty := tyX12 1) (C := RX12) (T := TX12) (N := 84) hx hb hts i_X12 tyX12 tyX12_ok nmX12 hown hK hP hD hS 0 rfl rfl 1 (by decide) (hts _ q_366) (fun _ h9 => h9) rfl (tyX12_ok 1 (by decide)) rfl rfl (Nat.le_of_ble_eq_true rfl) dX12_feed_109 (fun H locs hP hD hS => ?_)
  have hP : va_P (dC, dI) vwCl (wd_731 rm km f1056) H := hP
  have hD : va_D A (wd_731 rm km f1056) := hD
  refine lv_iinc (v := 7) (lv' := [(6, .int 7), (7, .int p2), (0, .ref (rm 0)), (1, .int p1), (2, .int p2), (3, .int p3), (4, .int p4), (5, .int p5)]) hx hb dX12_feed_112 hl (k := 1) rfl (by decide) (by decide) rfl (fun ls hl => ?_)
  refine lv_goto (tgt := 22) hx hb dX12_feed_115 (by decide) ?_
  refine lv_iload hx hb dX12_feed_22 (lv_at hl 0 rfl) ?_
  refine lv_bipush (v := 20) hx hb dX12_feed_24 (by decide) ?_
  refine lv_icmp_ge (tgt := 118) hx hb dX12_feed_26 (by decide) (fun c_0 => absurd c_0 (by decide)) (fun c_0 => ?_)
  refine lv_iload hx hb dX12_feed_29 (lv_at hl 0 rfl) ?_
  refine lv_iconst (v := 4) hx hb dX12_feed_31 (by decide) ?_
  refine lv_icmp_ge (tgt := 39) hx hb dX12_feed_32 (by decide) (fun c_0 => ?_) (fun c_0 => absurd c_0 (by decide))
  refine lv_iload hx hb dX12_feed_39 (lv_at hl 0 rfl) ?_
  refine lv_bipush (v := 8) hx hb dX12_feed_41 (by decide) ?_
  refine lv_icmp_ge (tgt := 50) hx hb dX12_feed_43 (by decide) (fun c_0 => absurd c_0 (by decide)) (fun c_0 => ?_)
  refine lv_iload_n hx hb dX12_feed_46 rfl (lv_at hl 4 rfl) ?_
  refine lv_goto (tgt := 75) hx hb dX12_feed_47 (by decide) ?_
  refine lv_istore (lv' := [(7, .int p2), (6, .int 7), (0, .ref (rm 0)), (1, .int p1), (2, .int p2), (3, .int p3), (4, .int p4), (5, .int p5)]) hx hb dX12_feed_75 hl (by decide) rfl (fun ls hl => ?_)
  refine lv_aload_n hx hb dX12_feed_77 rfl (lv_at hl 2 rfl) ?_
  refine va_get (D := (dC, dI)) (ci := 12) (v := .ref (rm 1)) (C := RX12) (T := TX12) (N := 84) hx hb hts i_X12 hown hK hP 0 rfl rfl 0 (by decide) (hts _ q_187) (fun _ h9 => h9) rfl dX12_feed_78 ?_
  refine lv_aload_n hx hb dX12_feed_81 rfl (lv_at hl 2 rfl) ?_
  refine va_get (D := (dC, dI)) (ci := 12) (v := .int 7) (C := RX12) (T := TX12) (N := 84) hx hb hts i_X12 hown hK hP 0 rfl rfl 1 (by decide) (hts _ q_366) (fun _ h9 => h9) rfl dX12_feed_82 ?_
  refine lv_iload hx hb dX12_feed_85 (lv_at hl 0 rfl) ?_
  refine lv_bipush (v := 8) hx hb dX12_feed_87 (by decide) ?_
  refine lv_iconst (v := 3) hx hb dX12_feed_89 (by decide) ?_
  refine lv_iload hx hb dX12_feed_90 (lv_at hl 1 rfl) ?_
  refine lv_iconst (v := 4) hx hb dX12_feed_92 (by decide) ?_
  refine lv_irem hx hb dX12_feed_93 (by decide) ?_
  refine lv_topi (fun x_1058 ex_1058 => ?_)
  obtain rfl : x_1058 = 3 := ex_1058.trans (by decide)
  refine lv_isub hx hb dX12_feed_94 ?_
  refine lv_topi (fun x_1059 ex_1059 => ?_)
  obtain rfl : x_1059 = 0 := ex_1059.trans (by decide)
  refine lv_imul hx hb dX12_feed_95 ?_
  refine lv_topi (fun x_1060 ex_1060 => ?_)
  obtain rfl : x_1060 = 0 := ex_1060.trans (by decide)
  refine lv_ishr hx hb dX12_feed_96 ?_
  refine lv_topi (fun x_1061 ex_1061 => ?_)
  refine lv_sipush (v := 255) hx hb dX12_feed_97 (by decide) ?_
  refine lv_iand hx hb dX12_feed_100 ?_
  refine lv_topi (fun x_1062 ex_1062 => ?_)
  refine va_iast hx hb hK hP hD hS 1 0 rfl rfl (vpi (by decide)) dX12_feed_101 (fun H locs hP hD hS => ?_)
  obtain ⟨f1063, hP, hD⟩ : ∃ f : Nat → Int32, va_P (dC, dI) vwCl (wd_679 rm km f) H ∧ va_D A (wd_679 rm km f) := ⟨_, hP, hD⟩
  have hP : va_P (dC, dI) vwCl (wd_732 rm km f1063) H := hP
  have hD : va_D A (wd_732 rm km f1063) := hD
  refine lv_aload_n hx hb dX12_feed_102 rfl (lv_at hl 2 rfl) ?_
  refine lv_dup hx hb dX12_feed_103 rfl ?_
  refine va_get (D := (dC, dI)) (ci := 12) (v := .int 7) (C := RX12) (T := TX12) (N := 84) hx hb hts i_X12 hown hK hP 0 rfl rfl 1 (by decide) (hts _ q_366) (fun _ h9 => h9) rfl dX12_feed_104 ?_
  refine lv_iconst (v := 1) hx hb dX12_feed_107 (by decide) ?_
  refine lv_iadd hx hb dX12_feed_108 ?_
  refine lv_topi (fun x_1064 ex_1064 => ?_)
  obtain rfl : x_1064 = 8 := ex_1064.trans (by decide)
  refine va_put (D := (dC, dI)) (ci := 12) (v := .int 8) (ty := tyX12 1) (C := RX12) (T := TX12) (N := 84) hx hb hts i_X12 tyX12 tyX12_ok nmX12 hown hK hP hD hS 0 rfl rfl 1 (by decide) (hts _ q_366) (fun _ h9 => h9) rfl (tyX12_ok 1 (by decide)) rfl rfl (Nat.le_of_ble_eq_true rfl) dX12_feed_109 (fun H locs hP hD hS => ?_)
  have hP : va_P (dC, dI) vwCl (wd_733 rm km f1063) H := hP
  have hD : va_D A (wd_733 rm km f1063) := hD
  refine lv_iinc (v := 8) (lv' := [(6, .int 8), (7, .int p2), (0, .ref (rm 0)), (1, .int p1), (2, .int p2), (3, .int p3), (4, .int p4), (5, .int p5)]) hx hb dX12_feed_112 hl (k := 1) rfl (by decide) (by decide) rfl (fun ls hl => ?_)
  refine lv_goto (tgt := 22) hx hb dX12_feed_115 (by decide) ?_
  refine lv_iload hx hb dX12_feed_22 (lv_at hl 0 rfl) ?_
  refine lv_bipush (v := 20) hx hb dX12_feed_24 (by decide) ?_
  refine lv_icmp_ge (tgt := 118) hx hb dX12_feed_26 (by decide) (fun c_0 => absurd c_0 (by decide)) (fun c_0 => ?_)
  refine lv_iload hx hb dX12_feed_29 (lv_at hl 0 rfl) ?_
  refine lv_iconst (v := 4) hx hb dX12_feed_31 (by decide) ?_
  refine lv_icmp_ge (tgt := 39) hx hb dX12_feed_32 (by decide) (fun c_0 => ?_) (fun c_0 => absurd c_0 (by decide))
  refine lv_iload hx hb dX12_feed_39 (lv_at hl 0 rfl) ?_
  refine lv_bipush (v := 8) hx hb dX12_feed_41 (by decide) ?_
  refine lv_icmp_ge (tgt := 50) hx hb dX12_feed_43 (by decide) (fun c_0 => ?_) (fun c_0 => absurd c_0 (by decide))
  refine lv_iload hx hb dX12_feed_50 (lv_at hl 0 rfl) ?_
  refine lv_bipush (v := 12) hx hb dX12_feed_52 (by decide) ?_
  refine lv_icmp_ge (tgt := 61) hx hb dX12_feed_54 (by decide) (fun c_0 => absurd c_0 (by decide)) (fun c_0 => ?_)
  refine lv_iload_n hx hb dX12_feed_57 rfl (lv_at hl 5 rfl) ?_
  refine lv_goto (tgt := 75) hx hb dX12_feed_58 (by decide) ?_
  refine lv_istore (lv' := [(7, .int p3), (6, .int 8), (0, .ref (rm 0)), (1, .int p1), (2, .int p2), (3, .int p3), (4, .int p4), (5, .int p5)]) hx hb dX12_feed_75 hl (by decide) rfl (fun ls hl => ?_)
  refine lv_aload_n hx hb dX12_feed_77 rfl (lv_at hl 2 rfl) ?_
  refine va_get (D := (dC, dI)) (ci := 12) (v := .ref (rm 1)) (C := RX12) (T := TX12) (N := 84) hx hb hts i_X12 hown hK hP 0 rfl rfl 0 (by decide) (hts _ q_187) (fun _ h9 => h9) rfl dX12_feed_78 ?_
  refine lv_aload_n hx hb dX12_feed_81 rfl (lv_at hl 2 rfl) ?_
  refine va_get (D := (dC, dI)) (ci := 12) (v := .int 8) (C := RX12) (T := TX12) (N := 84) hx hb hts i_X12 hown hK hP 0 rfl rfl 1 (by decide) (hts _ q_366) (fun _ h9 => h9) rfl dX12_feed_82 ?_
  refine lv_iload hx hb dX12_feed_85 (lv_at hl 0 rfl) ?_
  refine lv_bipush (v := 8) hx hb dX12_feed_87 (by decide) ?_
  refine lv_iconst (v := 3) hx hb dX12_feed_89 (by decide) ?_
  refine lv_iload hx hb dX12_feed_90 (lv_at hl 1 rfl) ?_
  refine lv_iconst (v := 4) hx hb dX12_feed_92 (by decide) ?_
  refine lv_irem hx hb dX12_feed_93 (by decide) ?_
  refine lv_topi (fun x_1065 ex_1065 => ?_)
  obtain rfl : x_1065 = 0 := ex_1065.trans (by decide)
  refine lv_isub hx hb dX12_feed_94 ?_
  refine lv_topi (fun x_1066 ex_1066 => ?_)
  obtain rfl : x_1066 = 3 := ex_1066.trans (by decide)
  refine lv_imul hx hb dX12_feed_95 ?_
  refine lv_topi (fun x_1067 ex_1067 => ?_)
  obtain rfl : x_1067 = 24 := ex_1067.trans (by decide)
  refine lv_ishr hx hb dX12_feed_96 ?_
  refine lv_topi (fun x_1068 ex_1068 => ?_)
  refine lv_sipush (v := 255) hx hb dX12_feed_97 (by decide) ?_
  refine lv_iand hx hb dX12_feed_100 ?_
  refine lv_topi (fun x_1069 ex_1069 => ?_)
  refine va_iast hx hb hK hP hD hS 1 0 rfl rfl (vpi (by decide)) dX12_feed_101 (fun H locs hP hD hS => ?_)
  obtain ⟨f1070, hP, hD⟩ : ∃ f : Nat → Int32, va_P (dC, dI) vwCl (wd_682 rm km f) H ∧ va_D A (wd_682 rm km f) := ⟨_, hP, hD⟩
  have hP : va_P (dC, dI) vwCl (wd_734 rm km f1070) H := hP
  have hD : va_D A (wd_734 rm km f1070) := hD
  refine lv_aload_n hx hb dX12_feed_102 rfl (lv_at hl 2 rfl) ?_
  refine lv_dup hx hb dX12_feed_103 rfl ?_
  refine va_get (D := (dC, dI)) (ci := 12) (v := .int 8) (C := RX12) (T := TX12) (N := 84) hx hb hts i_X12 hown hK hP 0 rfl rfl 1 (by decide) (hts _ q_366) (fun _ h9 => h9) rfl dX12_feed_104 ?_
  refine lv_iconst (v := 1) hx hb dX12_feed_107 (by decide) ?_
  refine lv_iadd hx hb dX12_feed_108 ?_
  refine lv_topi (fun x_1071 ex_1071 => ?_)
  obtain rfl : x_1071 = 9 := ex_1071.trans (by decide)
  refine va_put (D := (dC, dI)) (ci := 12) (v := .int 9) (ty := tyX12 1) (C := RX12) (T := TX12) (N := 84) hx hb hts i_X12 tyX12 tyX12_ok nmX12 hown hK hP hD hS 0 rfl rfl 1 (by decide) (hts _ q_366) (fun _ h9 => h9) rfl (tyX12_ok 1 (by decide)) rfl rfl (Nat.le_of_ble_eq_true rfl) dX12_feed_109 (fun H locs hP hD hS => ?_)
  have hP : va_P (dC, dI) vwCl (wd_735 rm km f1070) H := hP
  have hD : va_D A (wd_735 rm km f1070) := hD
  refine lv_iinc (v := 9) (lv' := [(6, .int 9), (7, .int p3), (0, .ref (rm 0)), (1, .int p1), (2, .int p2), (3, .int p3), (4, .int p4), (5, .int p5)]) hx hb dX12_feed_112 hl (k := 1) rfl (by decide) (by decide) rfl (fun ls hl => ?_)
  refine lv_goto (tgt := 22) hx hb dX12_feed_115 (by decide) ?_
  refine lv_iload hx hb dX12_feed_22 (lv_at hl 0 rfl) ?_
  refine lv_bipush (v := 20) hx hb dX12_feed_24 (by decide) ?_
  refine lv_icmp_ge (tgt := 118) hx hb dX12_feed_26 (by decide) (fun c_0 => absurd c_0 (by decide)) (fun c_0 => ?_)
  refine lv_iload hx hb dX12_feed_29 (lv_at hl 0 rfl) ?_
  refine lv_iconst (v := 4) hx hb dX12_feed_31 (by decide) ?_
  refine lv_icmp_ge (tgt := 39) hx hb dX12_feed_32 (by decide) (fun c_0 => ?_) (fun c_0 => absurd c_0 (by decide))
  refine lv_iload hx hb dX12_feed_39 (lv_at hl 0 rfl) ?_
  refine lv_bipush (v := 8) hx hb dX12_feed_41 (by decide) ?_
  refine lv_icmp_ge (tgt := 50) hx hb dX12_feed_43 (by decide) (fun c_0 => ?_) (fun c_0 => absurd c_0 (by decide))
  refine lv_iload hx hb dX12_feed_50 (lv_at hl 0 rfl) ?_
  refine lv_bipush (v := 12) hx hb dX12_feed_52 (by decide) ?_
  refine lv_icmp_ge (tgt := 61) hx hb dX12_feed_54 (by decide) (fun c_0 => absurd c_0 (by decide)) (fun c_0 => ?_)
  refine lv_iload_n hx hb dX12_feed_57 rfl (lv_at hl 5 rfl) ?_
  refine lv_goto (tgt := 75) hx hb dX12_feed_58 (by decide) ?_
  refine lv_istore (lv' := [(7, .int p3), (6, .int 9), (0, .ref (rm 0)), (1, .int p1), (2, .int p2), (3, .int p3), (4, .int p4), (5, .int p5)]) hx hb dX12_feed_75 hl (by decide) rfl (fun ls hl => ?_)
  refine lv_aload_n hx hb dX12_feed_77 rfl (lv_at hl 2 rfl) ?_
  refine va_get (D := (dC, dI)) (ci := 12) (v := .ref (rm 1)) (C := RX12) (T := TX12) (N := 84) hx hb hts i_X12 hown hK hP 0 rfl rfl 0 (by decide) (hts _ q_187) (fun _ h9 => h9) rfl dX12_feed_78 ?_
  refine lv_aload_n hx hb dX12_feed_81 rfl (lv_at hl 2 rfl) ?_
  refine va_get (D := (dC, dI)) (ci := 12) (v := .int 9) (C := RX12) (T := TX12) (N := 84) hx hb hts i_X12 hown hK hP 0 rfl rfl 1 (by decide) (hts _ q_366) (fun _ h9 => h9) rfl dX12_feed_82 ?_
  refine lv_iload hx hb dX12_feed_85 (lv_at hl 0 rfl) ?_
  refine lv_bipush (v := 8) hx hb dX12_feed_87 (by decide) ?_
  refine lv_iconst (v := 3) hx hb dX12_feed_89 (by decide) ?_
  refine lv_iload hx hb dX12_feed_90 (lv_at hl 1 rfl) ?_
  refine lv_iconst (v := 4) hx hb dX12_feed_92 (by decide) ?_
  refine lv_irem hx hb dX12_feed_93 (by decide) ?_
  refine lv_topi (fun x_1072 ex_1072 => ?_)
  obtain rfl : x_1072 = 1 := ex_1072.trans (by decide)
  refine lv_isub hx hb dX12_feed_94 ?_
  refine lv_topi (fun x_1073 ex_1073 => ?_)
  obtain rfl : x_1073 = 2 := ex_1073.trans (by decide)
  refine lv_imul hx hb dX12_feed_95 ?_
  refine lv_topi (fun x_1074 ex_1074 => ?_)
  obtain rfl : x_1074 = 16 := ex_1074.trans (by decide)
  refine lv_ishr hx hb dX12_feed_96 ?_
  refine lv_topi (fun x_1075 ex_1075 => ?_)
  refine lv_sipush (v := 255) hx hb dX12_feed_97 (by decide) ?_
  refine lv_iand hx hb dX12_feed_100 ?_
  refine lv_topi (fun x_1076 ex_1076 => ?_)
  refine va_iast hx hb hK hP hD hS 1 0 rfl rfl (vpi (by decide)) dX12_feed_101 (fun H locs hP hD hS => ?_)
  obtain ⟨f1077, hP, hD⟩ : ∃ f : Nat → Int32, va_P (dC, dI) vwCl (wd_685 rm km f) H ∧ va_D A (wd_685 rm km f) := ⟨_, hP, hD⟩
  have hP : va_P (dC, dI) vwCl (wd_736 rm km f1077) H := hP
  have hD : va_D A (wd_736 rm km f1077) := hD
  refine lv_aload_n hx hb dX12_feed_102 rfl (lv_at hl 2 rfl) ?_
  refine lv_dup hx hb dX12_feed_103 rfl ?_
  refine va_get (D := (dC, dI)) (ci := 12) (v := .int 9) (C := RX12) (T := TX12) (N := 84) hx hb hts i_X12 hown hK hP 0 rfl rfl 1 (by decide) (hts _ q_366) (fun _ h9 => h9) rfl dX12_feed_104 ?_
  refine lv_iconst (v := 1) hx hb dX12_feed_107 (by decide) ?_
  refine lv_iadd hx hb dX12_feed_108 ?_
  refine lv_topi (fun x_1078 ex_1078 => ?_)
  obtain rfl : x_1078 = 10 := ex_1078.trans (by decide)
  refine va_put (D := (dC, dI)) (ci := 12) (v := .int 10) (ty := tyX12 1) (C := RX12) (T := TX12) (N := 84) hx hb hts i_X12 tyX12 tyX12_ok nmX12 hown hK hP hD hS 0 rfl rfl 1 (by decide) (hts _ q_366) (fun _ h9 => h9) rfl (tyX12_ok 1 (by decide)) rfl rfl (Nat.le_of_ble_eq_true rfl) dX12_feed_109 (fun H locs hP hD hS => ?_)
  have hP : va_P (dC, dI) vwCl (wd_737 rm km f1077) H := hP
  have hD : va_D A (wd_737 rm km f1077) := hD
  refine lv_iinc (v := 10) (lv' := [(6, .int 10), (7, .int p3), (0, .ref (rm 0)), (1, .int p1), (2, .int p2), (3, .int p3), (4, .int p4), (5, .int p5)]) hx hb dX12_feed_112 hl (k := 1) rfl (by decide) (by decide) rfl (fun ls hl => ?_)
  refine lv_goto (tgt := 22) hx hb dX12_feed_115 (by decide) ?_
  refine lv_iload hx hb dX12_feed_22 (lv_at hl 0 rfl) ?_
  refine lv_bipush (v := 20) hx hb dX12_feed_24 (by decide) ?_
  refine lv_icmp_ge (tgt := 118) hx hb dX12_feed_26 (by decide) (fun c_0 => absurd c_0 (by decide)) (fun c_0 => ?_)
  refine lv_iload hx hb dX12_feed_29 (lv_at hl 0 rfl) ?_
  refine lv_iconst (v := 4) hx hb dX12_feed_31 (by decide) ?_
  refine lv_icmp_ge (tgt := 39) hx hb dX12_feed_32 (by decide) (fun c_0 => ?_) (fun c_0 => absurd c_0 (by decide))
  refine lv_iload hx hb dX12_feed_39 (lv_at hl 0 rfl) ?_
  refine lv_bipush (v := 8) hx hb dX12_feed_41 (by decide) ?_
  refine lv_icmp_ge (tgt := 50) hx hb dX12_feed_43 (by decide) (fun c_0 => ?_) (fun c_0 => absurd c_0 (by decide))
  refine lv_iload hx hb dX12_feed_50 (lv_at hl 0 rfl) ?_
  refine lv_bipush (v := 12) hx hb dX12_feed_52 (by decide) ?_
  refine lv_icmp_ge (tgt := 61) hx hb dX12_feed_54 (by decide) (fun c_0 => absurd c_0 (by decide)) (fun c_0 => ?_)
  refine lv_iload_n hx hb dX12_feed_57 rfl (lv_at hl 5 rfl) ?_
  refine lv_goto (tgt := 75) hx hb dX12_feed_58 (by decide) ?_
  refine lv_istore (lv' := [(7, .int p3), (6, .int 10), (0, .ref (rm 0)), (1, .int p1), (2, .int p2), (3, .int p3), (4, .int p4), (5, .int p5)]) hx hb dX12_feed_75 hl (by decide) rfl (fun ls hl => ?_)
  refine lv_aload_n hx hb dX12_feed_77 rfl (lv_at hl 2 rfl) ?_
  refine va_get (D := (dC, dI)) (ci := 12) (v := .ref (rm 1)) (C := RX12) (T := TX12) (N := 84) hx hb hts i_X12 hown hK hP 0 rfl rfl 0 (by decide) (hts _ q_187) (fun _ h9 => h9) rfl dX12_feed_78 ?_
  refine lv_aload_n hx hb dX12_feed_81 rfl (lv_at hl 2 rfl) ?_
  refine va_get (D := (dC, dI)) (ci := 12) (v := .int 10) (C := RX12) (T := TX12) (N := 84) hx hb hts i_X12 hown hK hP 0 rfl rfl 1 (by decide) (hts _ q_366) (fun _ h9 => h9) rfl dX12_feed_82 ?_
  refine lv_iload hx hb dX12_feed_85 (lv_at hl 0 rfl) ?_
  refine lv_bipush (v := 8) hx hb dX12_feed_87 (by decide) ?_
  refine lv_iconst (v := 3) hx hb dX12_feed_89 (by decide) ?_
  refine lv_iload hx hb dX12_feed_90 (lv_at hl 1 rfl) ?_
  refine lv_iconst (v := 4) hx hb dX12_feed_92 (by decide) ?_
  refine lv_irem hx hb dX12_feed_93 (by decide) ?_
  refine lv_topi (fun x_1079 ex_1079 => ?_)
  obtain rfl : x_1079 = 2 := ex_1079.trans (by decide)
  refine lv_isub hx hb dX12_feed_94 ?_
  refine lv_topi (fun x_1080 ex_1080 => ?_)
  obtain rfl : x_1080 = 1 := ex_1080.trans (by decide)
  refine lv_imul hx hb dX12_feed_95 ?_
  refine lv_topi (fun x_1081 ex_1081 => ?_)
  obtain rfl : x_1081 = 8 := ex_1081.trans (by decide)
  refine lv_ishr hx hb dX12_feed_96 ?_
  refine lv_topi (fun x_1082 ex_1082 => ?_)
  refine lv_sipush (v := 255) hx hb dX12_feed_97 (by decide) ?_
  refine lv_iand hx hb dX12_feed_100 ?_
  refine lv_topi (fun x_1083 ex_1083 => ?_)
  refine va_iast hx hb hK hP hD hS 1 0 rfl rfl (vpi (by decide)) dX12_feed_101 (fun H locs hP hD hS => ?_)
  obtain ⟨f1084, hP, hD⟩ : ∃ f : Nat → Int32, va_P (dC, dI) vwCl (wd_688 rm km f) H ∧ va_D A (wd_688 rm km f) := ⟨_, hP, hD⟩
  have hP : va_P (dC, dI) vwCl (wd_738 rm km f1084) H := hP
  have hD : va_D A (wd_738 rm km f1084) := hD
  refine lv_aload_n hx hb dX12_feed_102 rfl (lv_at hl 2 rfl) ?_
  refine lv_dup hx hb dX12_feed_103 rfl ?_
  refine va_get (D := (dC, dI)) (ci := 12) (v := .int 10) (C := RX12) (T := TX12) (N := 84) hx hb hts i_X12 hown hK hP 0 rfl rfl 1 (by decide) (hts _ q_366) (fun _ h9 => h9) rfl dX12_feed_104 ?_
  refine lv_iconst (v := 1) hx hb dX12_feed_107 (by decide) ?_
  refine lv_iadd hx hb dX12_feed_108 ?_
  refine lv_topi (fun x_1085 ex_1085 => ?_)
  obtain rfl : x_1085 = 11 := ex_1085.trans (by decide)
  refine va_put (D := (dC, dI)) (ci := 12) (v := .int 11) (ty := tyX12 1) (C := RX12) (T := TX12) (N := 84) hx hb hts i_X12 tyX12 tyX12_ok nmX12 hown hK hP hD hS 0 rfl rfl 1 (by decide) (hts _ q_366) (fun _ h9 => h9) rfl (tyX12_ok 1 (by decide)) rfl rfl (Nat.le_of_ble_eq_true rfl) dX12_feed_109 (fun H locs hP hD hS => ?_)
  have hP : va_P (dC, dI) vwCl (wd_739 rm km f1084) H := hP
  have hD : va_D A (wd_739 rm km f1084) := hD
  refine lv_iinc (v := 11) (lv' := [(6, .int 11), (7, .int p3), (0, .ref (rm 0)), (1, .int p1), (2, .int p2), (3, .int p3), (4, .int p4), (5, .int p5)]) hx hb dX12_feed_112 hl (k := 1) rfl (by decide) (by decide) rfl (fun ls hl => ?_)
  refine lv_goto (tgt := 22) hx hb dX12_feed_115 (by decide) ?_
  refine lv_iload hx hb dX12_feed_22 (lv_at hl 0 rfl) ?_
  refine lv_bipush (v := 20) hx hb dX12_feed_24 (by decide) ?_
  refine lv_icmp_ge (tgt := 118) hx hb dX12_feed_26 (by decide) (fun c_0 => absurd c_0 (by decide)) (fun c_0 => ?_)
  refine lv_iload hx hb dX12_feed_29 (lv_at hl 0 rfl) ?_
  refine lv_iconst (v := 4) hx hb dX12_feed_31 (by decide) ?_
  refine lv_icmp_ge (tgt := 39) hx hb dX12_feed_32 (by decide) (fun c_0 => ?_) (fun c_0 => absurd c_0 (by decide))
  refine lv_iload hx hb dX12_feed_39 (lv_at hl 0 rfl) ?_
  refine lv_bipush (v := 8) hx hb dX12_feed_41 (by decide) ?_
  refine lv_icmp_ge (tgt := 50) hx hb dX12_feed_43 (by decide) (fun c_0 => ?_) (fun c_0 => absurd c_0 (by decide))
  refine lv_iload hx hb dX12_feed_50 (lv_at hl 0 rfl) ?_
  refine lv_bipush (v := 12) hx hb dX12_feed_52 (by decide) ?_
  refine lv_icmp_ge (tgt := 61) hx hb dX12_feed_54 (by decide) (fun c_0 => absurd c_0 (by decide)) (fun c_0 => ?_)
  refine lv_iload_n hx hb dX12_feed_57 rfl (lv_at hl 5 rfl) ?_
  refine lv_goto (tgt := 75) hx hb dX12_feed_58 (by decide) ?_
  refine lv_istore (lv' := [(7, .int p3), (6, .int 11), (0, .ref (rm 0)), (1, .int p1), (2, .int p2), (3, .int p3), (4, .int p4), (5, .int p5)]) hx hb dX12_feed_75 hl (by decide) rfl (fun ls hl => ?_)
  refine lv_aload_n hx hb dX12_feed_77 rfl (lv_at hl 2 rfl) ?_
  refine va_get (D := (dC, dI)) (ci := 12) (v := .ref (rm 1)) (C := RX12) (T := TX12) (N := 84) hx hb hts i_X12 hown hK hP 0 rfl rfl 0 (by decide) (hts _ q_187) (fun _ h9 => h9) rfl dX12_feed_78 ?_
  refine lv_aload_n hx hb dX12_feed_81 rfl (lv_at hl 2 rfl) ?_
  refine va_get (D := (dC, dI)) (ci := 12) (v := .int 11) (C := RX12) (T := TX12) (N := 84) hx hb hts i_X12 hown hK hP 0 rfl rfl 1 (by decide) (hts _ q_366) (fun _ h9 => h9) rfl dX12_feed_82 ?_
  refine lv_iload hx hb dX12_feed_85 (lv_at hl 0 rfl) ?_
  refine lv_bipush (v := 8) hx hb dX12_feed_87 (by decide) ?_
  refine lv_iconst (v := 3) hx hb dX12_feed_89 (by decide) ?_
  refine lv_iload hx hb dX12_feed_90 (lv_at hl 1 rfl) ?_
  refine lv_iconst (v := 4) hx hb dX12_feed_92 (by decide) ?_
  refine lv_irem hx hb dX12_feed_93 (by decide) ?_
  refine lv_topi (fun x_1086 ex_1086 => ?_)
  obtain rfl : x_1086 = 3 := ex_1086.trans (by decide)
  refine lv_isub hx hb dX12_feed_94 ?_
  refine lv_topi (fun x_1087 ex_1087 => ?_)
  obtain rfl : x_1087 = 0 := ex_1087.trans (by decide)
  refine lv_imul hx hb dX12_feed_95 ?_
  refine lv_topi (fun x_1088 ex_1088 => ?_)
  obtain rfl : x_1088 = 0 := ex_1088.trans (by decide)
  refine lv_ishr hx hb dX12_feed_96 ?_
  refine lv_topi (fun x_1089 ex_1089 => ?_)
  refine lv_sipush (v := 255) hx hb dX12_feed_97 (by decide) ?_
  refine lv_iand hx hb dX12_feed_100 ?_
  refine lv_topi (fun x_1090 ex_1090 => ?_)
  refine va_iast hx hb hK hP hD hS 1 0 rfl rfl (vpi (by decide)) dX12_feed_101 (fun H locs hP hD hS => ?_)
  obtain ⟨f1091, hP, hD⟩ : ∃ f : Nat → Int32, va_P (dC, dI) vwCl (wd_691 rm km f) H ∧ va_D A (wd_691 rm km f) := ⟨_, hP, hD⟩
  have hP : va_P (dC, dI) vwCl (wd_740 rm km f1091) H := hP
  have hD : va_D A (wd_740 rm km f1091) := hD
  refine lv_aload_n hx hb dX12_feed_102 rfl (lv_at hl 2 rfl) ?_
  refine lv_dup hx hb dX12_feed_103 rfl ?_
  refine va_get (D := (dC, dI)) (ci := 12) (v := .int 11) (C := RX12) (T := TX12) (N := 84) hx hb hts i_X12 hown hK hP 0 rfl rfl 1 (by decide) (hts _ q_366) (fun _ h9 => h9) rfl dX12_feed_104 ?_
  refine lv_iconst (v := 1) hx hb dX12_feed_107 (by decide) ?_
  refine lv_iadd hx hb dX12_feed_108 ?_
  refine lv_topi (fun x_1092 ex_1092 => ?_)
  obtain rfl : x_1092 = 12 := ex_1092.trans (by decide)
  refine va_put (D := (dC, dI)) (ci := 12) (v := .int 12) (ty := tyX12 1) (C := RX12) (T := TX12) (N := 84) hx hb hts i_X12 tyX12 tyX12_ok nmX12 hown hK hP hD hS 0 rfl rfl 1 (by decide) (hts _ q_366) (fun _ h9 => h9) rfl (tyX12_ok 1 (by decide)) rfl rfl (Nat.le_of_ble_eq_true rfl) dX12_feed_109 (fun H locs hP hD hS => ?_)
  have hP : va_P (dC, dI) vwCl (wd_741 rm km f1091) H := hP
  have hD : va_D A (wd_741 rm km f1091) := hD
  refine lv_iinc (v := 12) (lv' := [(6, .int 12), (7, .int p3), (0, .ref (rm 0)), (1, .int p1), (2, .int p2), (3, .int p3), (4, .int p4), (5, .int p5)]) hx hb dX12_feed_112 hl (k := 1) rfl (by decide) (by decide) rfl (fun ls hl => ?_)
  refine lv_goto (tgt := 22) hx hb dX12_feed_115 (by decide) ?_
  refine lv_iload hx hb dX12_feed_22 (lv_at hl 0 rfl) ?_
  refine lv_bipush (v := 20) hx hb dX12_feed_24 (by decide) ?_
  refine lv_icmp_ge (tgt := 118) hx hb dX12_feed_26 (by decide) (fun c_0 => absurd c_0 (by decide)) (fun c_0 => ?_)
  refine lv_iload hx hb dX12_feed_29 (lv_at hl 0 rfl) ?_
  refine lv_iconst (v := 4) hx hb dX12_feed_31 (by decide) ?_
  refine lv_icmp_ge (tgt := 39) hx hb dX12_feed_32 (by decide) (fun c_0 => ?_) (fun c_0 => absurd c_0 (by decide))
  refine lv_iload hx hb dX12_feed_39 (lv_at hl 0 rfl) ?_
  refine lv_bipush (v := 8) hx hb dX12_feed_41 (by decide) ?_
  refine lv_icmp_ge (tgt := 50) hx hb dX12_feed_43 (by decide) (fun c_0 => ?_) (fun c_0 => absurd c_0 (by decide))
  refine lv_iload hx hb dX12_feed_50 (lv_at hl 0 rfl) ?_
  refine lv_bipush (v := 12) hx hb dX12_feed_52 (by decide) ?_
  refine lv_icmp_ge (tgt := 61) hx hb dX12_feed_54 (by decide) (fun c_0 => ?_) (fun c_0 => absurd c_0 (by decide))
  refine lv_iload hx hb dX12_feed_61 (lv_at hl 0 rfl) ?_
  refine lv_bipush (v := 16) hx hb dX12_feed_63 (by decide) ?_
  refine lv_icmp_ge (tgt := 73) hx hb dX12_feed_65 (by decide) (fun c_0 => absurd c_0 (by decide)) (fun c_0 => ?_)
  refine lv_iload hx hb dX12_feed_68 (lv_at hl 6 rfl) ?_
  refine lv_goto (tgt := 75) hx hb dX12_feed_70 (by decide) ?_
  refine lv_istore (lv' := [(7, .int p4), (6, .int 12), (0, .ref (rm 0)), (1, .int p1), (2, .int p2), (3, .int p3), (4, .int p4), (5, .int p5)]) hx hb dX12_feed_75 hl (by decide) rfl (fun ls hl => ?_)
  refine lv_aload_n hx hb dX12_feed_77 rfl (lv_at hl 2 rfl) ?_
  refine va_get (D := (dC, dI)) (ci := 12) (v := .ref (rm 1)) (C := RX12) (T := TX12) (N := 84) hx hb hts i_X12 hown hK hP 0 rfl rfl 0 (by decide) (hts _ q_187) (fun _ h9 => h9) rfl dX12_feed_78 ?_
  refine lv_aload_n hx hb dX12_feed_81 rfl (lv_at hl 2 rfl) ?_
  refine va_get (D := (dC, dI)) (ci := 12) (v := .int 12) (C := RX12) (T := TX12) (N := 84) hx hb hts i_X12 hown hK hP 0 rfl rfl 1 (by decide) (hts _ q_366) (fun _ h9 => h9) rfl dX12_feed_82 ?_
  refine lv_iload hx hb dX12_feed_85 (lv_at hl 0 rfl) ?_
  refine lv_bipush (v := 8) hx hb dX12_feed_87 (by decide) ?_
  refine lv_iconst (v := 3) hx hb dX12_feed_89 (by decide) ?_
  refine lv_iload hx hb dX12_feed_90 (lv_at hl 1 rfl) ?_
  refine lv_iconst (v := 4) hx hb dX12_feed_92 (by decide) ?_
  refine lv_irem hx hb dX12_feed_93 (by decide) ?_
  refine lv_topi (fun x_1093 ex_1093 => ?_)
  obtain rfl : x_1093 = 0 := ex_1093.trans (by decide)
  refine lv_isub hx hb dX12_feed_94 ?_
  refine lv_topi (fun x_1094 ex_1094 => ?_)
  obtain rfl : x_1094 = 3 := ex_1094.trans (by decide)
  refine lv_imul hx hb dX12_feed_95 ?_
  refine lv_topi (fun x_1095 ex_1095 => ?_)
  obtain rfl : x_1095 = 24 := ex_1095.trans (by decide)
  refine lv_ishr hx hb dX12_feed_96 ?_
  refine lv_topi (fun x_1096 ex_1096 => ?_)
  refine lv_sipush (v := 255) hx hb dX12_feed_97 (by decide) ?_
  refine lv_iand hx hb dX12_feed_100 ?_
  refine lv_topi (fun x_1097 ex_1097 => ?_)
  refine va_iast hx hb hK hP hD hS 1 0 rfl rfl (vpi (by decide)) dX12_feed_101 (fun H locs hP hD hS => ?_)
  obtain ⟨f1098, hP, hD⟩ : ∃ f : Nat → Int32, va_P (dC, dI) vwCl (wd_694 rm km f) H ∧ va_D A (wd_694 rm km f) := ⟨_, hP, hD⟩
  have hP : va_P (dC, dI) vwCl (wd_742 rm km f1098) H := hP
  have hD : va_D A (wd_742 rm km f1098) := hD
  refine lv_aload_n hx hb dX12_feed_102 rfl (lv_at hl 2 rfl) ?_
  refine lv_dup hx hb dX12_feed_103 rfl ?_
  refine va_get (D := (dC, dI)) (ci := 12) (v := .int 12) (C := RX12) (T := TX12) (N := 84) hx hb hts i_X12 hown hK hP 0 rfl rfl 1 (by decide) (hts _ q_366) (fun _ h9 => h9) rfl dX12_feed_104 ?_
  refine lv_iconst (v := 1) hx hb dX12_feed_107 (by decide) ?_
  refine lv_iadd hx hb dX12_feed_108 ?_
  refine lv_topi (fun x_1099 ex_1099 => ?_)
  obtain rfl : x_1099 = 13 := ex_1099.trans (by decide)
  refine va_put (D := (dC, dI)) (ci := 12) (v := .int 13) (ty := tyX12 1) (C := RX12) (T := TX12) (N := 84) hx hb hts i_X12 tyX12 tyX12_ok nmX12 hown hK hP hD hS 0 rfl rfl 1 (by decide) (hts _ q_366) (fun _ h9 => h9) rfl (tyX12_ok 1 (by decide)) rfl rfl (Nat.le_of_ble_eq_true rfl) dX12_feed_109 (fun H locs hP hD hS => ?_)
  have hP : va_P (dC, dI) vwCl (wd_743 rm km f1098) H := hP
  have hD : va_D A (wd_743 rm km f1098) := hD
  refine lv_iinc (v := 13) (lv' := [(6, .int 13), (7, .int p4), (0, .ref (rm 0)), (1, .int p1), (2, .int p2), (3, .int p3), (4, .int p4), (5, .int p5)]) hx hb dX12_feed_112 hl (k := 1) rfl (by decide) (by decide) rfl (fun ls hl => ?_)
  refine lv_goto (tgt := 22) hx hb dX12_feed_115 (by decide) ?_
  refine lv_iload hx hb dX12_feed_22 (lv_at hl 0 rfl) ?_
  refine lv_bipush (v := 20) hx hb dX12_feed_24 (by decide) ?_
  refine lv_icmp_ge (tgt := 118) hx hb dX12_feed_26 (by decide) (fun c_0 => absurd c_0 (by decide)) (fun c_0 => ?_)
  refine lv_iload hx hb dX12_feed_29 (lv_at hl 0 rfl) ?_
  refine lv_iconst (v := 4) hx hb dX12_feed_31 (by decide) ?_
  refine lv_icmp_ge (tgt := 39) hx hb dX12_feed_32 (by decide) (fun c_0 => ?_) (fun c_0 => absurd c_0 (by decide))
  refine lv_iload hx hb dX12_feed_39 (lv_at hl 0 rfl) ?_
  refine lv_bipush (v := 8) hx hb dX12_feed_41 (by decide) ?_
  refine lv_icmp_ge (tgt := 50) hx hb dX12_feed_43 (by decide) (fun c_0 => ?_) (fun c_0 => absurd c_0 (by decide))
  refine lv_iload hx hb dX12_feed_50 (lv_at hl 0 rfl) ?_
  refine lv_bipush (v := 12) hx hb dX12_feed_52 (by decide) ?_
  refine lv_icmp_ge (tgt := 61) hx hb dX12_feed_54 (by decide) (fun c_0 => ?_) (fun c_0 => absurd c_0 (by decide))
  refine lv_iload hx hb dX12_feed_61 (lv_at hl 0 rfl) ?_
  refine lv_bipush (v := 16) hx hb dX12_feed_63 (by decide) ?_
  refine lv_icmp_ge (tgt := 73) hx hb dX12_feed_65 (by decide) (fun c_0 => absurd c_0 (by decide)) (fun c_0 => ?_)
  refine lv_iload hx hb dX12_feed_68 (lv_at hl 6 rfl) ?_
  refine lv_goto (tgt := 75) hx hb dX12_feed_70 (by decide) ?_
  refine lv_istore (lv' := [(7, .int p4), (6, .int 13), (0, .ref (rm 0)), (1, .int p1), (2, .int p2), (3, .int p3), (4, .int p4), (5, .int p5)]) hx hb dX12_feed_75 hl (by decide) rfl (fun ls hl => ?_)
  refine lv_aload_n hx hb dX12_feed_77 rfl (lv_at hl 2 rfl) ?_
  refine va_get (D := (dC, dI)) (ci := 12) (v := .ref (rm 1)) (C := RX12) (T := TX12) (N := 84) hx hb hts i_X12 hown hK hP 0 rfl rfl 0 (by decide) (hts _ q_187) (fun _ h9 => h9) rfl dX12_feed_78 ?_
  refine lv_aload_n hx hb dX12_feed_81 rfl (lv_at hl 2 rfl) ?_
  refine va_get (D := (dC, dI)) (ci := 12) (v := .int 13) (C := RX12) (T := TX12) (N := 84) hx hb hts i_X12 hown hK hP 0 rfl rfl 1 (by decide) (hts _ q_366) (fun _ h9 => h9) rfl dX12_feed_82 ?_
  refine lv_iload hx hb dX12_feed_85 (lv_at hl 0 rfl) ?_
  refine lv_bipush (v := 8) hx hb dX12_feed_87 (by decide) ?_
  refine lv_iconst (v := 3) hx hb dX12_feed_89 (by decide) ?_
  refine lv_iload hx hb dX12_feed_90 (lv_at hl 1 rfl) ?_
  refine lv_iconst (v := 4) hx hb dX12_feed_92 (by decide) ?_
  refine lv_irem hx hb dX12_feed_93 (by decide) ?_
  refine lv_topi (fun x_1100 ex_1100 => ?_)
  obtain rfl : x_1100 = 1 := ex_1100.trans (by decide)
  refine lv_isub hx hb dX12_feed_94 ?_
  refine lv_topi (fun x_1101 ex_1101 => ?_)
  obtain rfl : x_1101 = 2 := ex_1101.trans (by decide)
  refine lv_imul hx hb dX12_feed_95 ?_
  refine lv_topi (fun x_1102 ex_1102 => ?_)
  obtain rfl : x_1102 = 16 := ex_1102.trans (by decide)
  refine lv_ishr hx hb dX12_feed_96 ?_
  refine lv_topi (fun x_1103 ex_1103 => ?_)
  refine lv_sipush (v := 255) hx hb dX12_feed_97 (by decide) ?_
  refine lv_iand hx hb dX12_feed_100 ?_
  refine lv_topi (fun x_1104 ex_1104 => ?_)
  refine va_iast hx hb hK hP hD hS 1 0 rfl rfl (vpi (by decide)) dX12_feed_101 (fun H locs hP hD hS => ?_)
  obtain ⟨f1105, hP, hD⟩ : ∃ f : Nat → Int32, va_P (dC, dI) vwCl (wd_697 rm km f) H ∧ va_D A (wd_697 rm km f) := ⟨_, hP, hD⟩
  have hP : va_P (dC, dI) vwCl (wd_744 rm km f1105) H := hP
  have hD : va_D A (wd_744 rm km f1105) := hD
  refine lv_aload_n hx hb dX12_feed_102 rfl (lv_at hl 2 rfl) ?_
  refine lv_dup hx hb dX12_feed_103 rfl ?_
  refine va_get (D := (dC, dI)) (ci := 12) (v := .int 13) (C := RX12) (T := TX12) (N := 84) hx hb hts i_X12 hown hK hP 0 rfl rfl 1 (by decide) (hts _ q_366) (fun _ h9 => h9) rfl dX12_feed_104 ?_
  refine lv_iconst (v := 1) hx hb dX12_feed_107 (by decide) ?_
  refine lv_iadd hx hb dX12_feed_108 ?_
  refine lv_topi (fun x_1106 ex_1106 => ?_)
  obtain rfl : x_1106 = 14 := ex_1106.trans (by decide)
  refine va_put (D := (dC, dI)) (ci := 12) (v := .int 14) (ty := tyX12 1) (C := RX12) (T := TX12) (N := 84) hx hb hts i_X12 tyX12 tyX12_ok nmX12 hown hK hP hD hS 0 rfl rfl 1 (by decide) (hts _ q_366) (fun _ h9 => h9) rfl (tyX12_ok 1 (by decide)) rfl rfl (Nat.le_of_ble_eq_true rfl) dX12_feed_109 (fun H locs hP hD hS => ?_)
  have hP : va_P (dC, dI) vwCl (wd_745 rm km f1105) H := hP
  have hD : va_D A (wd_745 rm km f1105) := hD
  refine lv_iinc (v := 14) (lv' := [(6, .int 14), (7, .int p4), (0, .ref (rm 0)), (1, .int p1), (2, .int p2), (3, .int p3), (4, .int p4), (5, .int p5)]) hx hb dX12_feed_112 hl (k := 1) rfl (by decide) (by decide) rfl (fun ls hl => ?_)
  refine lv_goto (tgt := 22) hx hb dX12_feed_115 (by decide) ?_
  refine lv_iload hx hb dX12_feed_22 (lv_at hl 0 rfl) ?_
  refine lv_bipush (v := 20) hx hb dX12_feed_24 (by decide) ?_
  refine lv_icmp_ge (tgt := 118) hx hb dX12_feed_26 (by decide) (fun c_0 => absurd c_0 (by decide)) (fun c_0 => ?_)
  refine lv_iload hx hb dX12_feed_29 (lv_at hl 0 rfl) ?_
  refine lv_iconst (v := 4) hx hb dX12_feed_31 (by decide) ?_
  refine lv_icmp_ge (tgt := 39) hx hb dX12_feed_32 (by decide) (fun c_0 => ?_) (fun c_0 => absurd c_0 (by decide))
  refine lv_iload hx hb dX12_feed_39 (lv_at hl 0 rfl) ?_
  refine lv_bipush (v := 8) hx hb dX12_feed_41 (by decide) ?_
  refine lv_icmp_ge (tgt := 50) hx hb dX12_feed_43 (by decide) (fun c_0 => ?_) (fun c_0 => absurd c_0 (by decide))
  refine lv_iload hx hb dX12_feed_50 (lv_at hl 0 rfl) ?_
  refine lv_bipush (v := 12) hx hb dX12_feed_52 (by decide) ?_
  refine lv_icmp_ge (tgt := 61) hx hb dX12_feed_54 (by decide) (fun c_0 => ?_) (fun c_0 => absurd c_0 (by decide))
  refine lv_iload hx hb dX12_feed_61 (lv_at hl 0 rfl) ?_
  refine lv_bipush (v := 16) hx hb dX12_feed_63 (by decide) ?_
  refine lv_icmp_ge (tgt := 73) hx hb dX12_feed_65 (by decide) (fun c_0 => absurd c_0 (by decide)) (fun c_0 => ?_)
  refine lv_iload hx hb dX12_feed_68 (lv_at hl 6 rfl) ?_
  refine lv_goto (tgt := 75) hx hb dX12_feed_70 (by decide) ?_
  refine lv_istore (lv' := [(7, .int p4), (6, .int 14), (0, .ref (rm 0)), (1, .int p1), (2, .int p2), (3, .int p3), (4, .int p4), (5, .int p5)]) hx hb dX12_feed_75 hl (by decide) rfl (fun ls hl => ?_)
  refine lv_aload_n hx hb dX12_feed_77 rfl (lv_at hl 2 rfl) ?_
  refine va_get (D := (dC, dI)) (ci := 12) (v := .ref (rm 1)) (C := RX12) (T := TX12) (N := 84) hx hb hts i_X12 hown hK hP 0 rfl rfl 0 (by decide) (hts _ q_187) (fun _ h9 => h9) rfl dX12_feed_78 ?_
  refine lv_aload_n hx hb dX12_feed_81 rfl (lv_at hl 2 rfl) ?_
  refine va_get (D := (dC, dI)) (ci := 12) (v := .int 14) (C := RX12) (T := TX12) (N := 84) hx hb hts i_X12 hown hK hP 0 rfl rfl 1 (by decide) (hts _ q_366) (fun _ h9 => h9) rfl dX12_feed_82 ?_
  refine lv_iload hx hb dX12_feed_85 (lv_at hl 0 rfl) ?_
  refine lv_bipush (v := 8) hx hb dX12_feed_87 (by decide) ?_
  refine lv_iconst (v := 3) hx hb dX12_feed_89 (by decide) ?_
  refine lv_iload hx hb dX12_feed_90 (lv_at hl 1 rfl) ?_
  refine lv_iconst (v := 4) hx hb dX12_feed_92 (by decide) ?_
  refine lv_irem hx hb dX12_feed_93 (by decide) ?_
  refine lv_topi (fun x_1107 ex_1107 => ?_)
  obtain rfl : x_1107 = 2 := ex_1107.trans (by decide)
  refine lv_isub hx hb dX12_feed_94 ?_
  refine lv_topi (fun x_1108 ex_1108 => ?_)
  obtain rfl : x_1108 = 1 := ex_1108.trans (by decide)
  refine lv_imul hx hb dX12_feed_95 ?_
  refine lv_topi (fun x_1109 ex_1109 => ?_)
  obtain rfl : x_1109 = 8 := ex_1109.trans (by decide)
  refine lv_ishr hx hb dX12_feed_96 ?_
  refine lv_topi (fun x_1110 ex_1110 => ?_)
  refine lv_sipush (v := 255) hx hb dX12_feed_97 (by decide) ?_
  refine lv_iand hx hb dX12_feed_100 ?_
  refine lv_topi (fun x_1111 ex_1111 => ?_)
  refine va_iast hx hb hK hP hD hS 1 0 rfl rfl (vpi (by decide)) dX12_feed_101 (fun H locs hP hD hS => ?_)
  obtain ⟨f1112, hP, hD⟩ : ∃ f : Nat → Int32, va_P (dC, dI) vwCl (wd_700 rm km f) H ∧ va_D A (wd_700 rm km f) := ⟨_, hP, hD⟩
  have hP : va_P (dC, dI) vwCl (wd_746 rm km f1112) H := hP
  have hD : va_D A (wd_746 rm km f1112) := hD
  refine lv_aload_n hx hb dX12_feed_102 rfl (lv_at hl 2 rfl) ?_
  refine lv_dup hx hb dX12_feed_103 rfl ?_
  refine va_get (D := (dC, dI)) (ci := 12) (v := .int 14) (C := RX12) (T := TX12) (N := 84) hx hb hts i_X12 hown hK hP 0 rfl rfl 1 (by decide) (hts _ q_366) (fun _ h9 => h9) rfl dX12_feed_104 ?_
  refine lv_iconst (v := 1) hx hb dX12_feed_107 (by decide) ?_
  refine lv_iadd hx hb dX12_feed_108 ?_
  refine lv_topi (fun x_1113 ex_1113 => ?_)
  obtain rfl : x_1113 = 15 := ex_1113.trans (by decide)
  refine va_put (D := (dC, dI)) (ci := 12) (v := .int 15) (ty := tyX12 1) (C := RX12) (T := TX12) (N := 84) hx hb hts i_X12 tyX12 tyX12_ok nmX12 hown hK hP hD hS 0 rfl rfl 1 (by decide) (hts _ q_366) (fun _ h9 => h9) rfl (tyX12_ok 1 (by decide)) rfl rfl (Nat.le_of_ble_eq_true rfl) dX12_feed_109 (fun H locs hP hD hS => ?_)
  have hP : va_P (dC, dI) vwCl (wd_747 rm km f1112) H := hP
  have hD : va_D A (wd_747 rm km f1112) := hD
  refine lv_iinc (v := 15) (lv' := [(6, .int 15), (7, .int p4), (0, .ref (rm 0)), (1, .int p1), (2, .int p2), (3, .int p3), (4, .int p4), (5, .int p5)]) hx hb dX12_feed_112 hl (k := 1) rfl (by decide) (by decide) rfl (fun ls hl => ?_)
  refine lv_goto (tgt := 22) hx hb dX12_feed_115 (by decide) ?_
  refine lv_iload hx hb dX12_feed_22 (lv_at hl 0 rfl) ?_
  refine lv_bipush (v := 20) hx hb dX12_feed_24 (by decide) ?_
  refine lv_icmp_ge (tgt := 118) hx hb dX12_feed_26 (by decide) (fun c_0 => absurd c_0 (by decide)) (fun c_0 => ?_)
  refine lv_iload hx hb dX12_feed_29 (lv_at hl 0 rfl) ?_
  refine lv_iconst (v := 4) hx hb dX12_feed_31 (by decide) ?_
  refine lv_icmp_ge (tgt := 39) hx hb dX12_feed_32 (by decide) (fun c_0 => ?_) (fun c_0 => absurd c_0 (by decide))
  refine lv_iload hx hb dX12_feed_39 (lv_at hl 0 rfl) ?_
  refine lv_bipush (v := 8) hx hb dX12_feed_41 (by decide) ?_
  refine lv_icmp_ge (tgt := 50) hx hb dX12_feed_43 (by decide) (fun c_0 => ?_) (fun c_0 => absurd c_0 (by decide))
  refine lv_iload hx hb dX12_feed_50 (lv_at hl 0 rfl) ?_
  refine lv_bipush (v := 12) hx hb dX12_feed_52 (by decide) ?_
  refine lv_icmp_ge (tgt := 61) hx hb dX12_feed_54 (by decide) (fun c_0 => ?_) (fun c_0 => absurd c_0 (by decide))
  refine lv_iload hx hb dX12_feed_61 (lv_at hl 0 rfl) ?_
  refine lv_bipush (v := 16) hx hb dX12_feed_63 (by decide) ?_
  refine lv_icmp_ge (tgt := 73) hx hb dX12_feed_65 (by decide) (fun c_0 => absurd c_0 (by decide)) (fun c_0 => ?_)
  refine lv_iload hx hb dX12_feed_68 (lv_at hl 6 rfl) ?_
  refine lv_goto (tgt := 75) hx hb dX12_feed_70 (by decide) ?_
  refine lv_istore (lv' := [(7, .int p4), (6, .int 15), (0, .ref (rm 0)), (1, .int p1), (2, .int p2), (3, .int p3), (4, .int p4), (5, .int p5)]) hx hb dX12_feed_75 hl (by decide) rfl (fun ls hl => ?_)
  refine lv_aload_n hx hb dX12_feed_77 rfl (lv_at hl 2 rfl) ?_
  refine va_get (D := (dC, dI)) (ci := 12) (v := .ref (rm 1)) (C := RX12) (T := TX12) (N := 84) hx hb hts i_X12 hown hK hP 0 rfl rfl 0 (by decide) (hts _ q_187) (fun _ h9 => h9) rfl dX12_feed_78 ?_
  refine lv_aload_n hx hb dX12_feed_81 rfl (lv_at hl 2 rfl) ?_
  refine va_get (D := (dC, dI)) (ci := 12) (v := .int 15) (C := RX12) (T := TX12) (N := 84) hx hb hts i_X12 hown hK hP 0 rfl rfl 1 (by decide) (hts _ q_366) (fun _ h9 => h9) rfl dX12_feed_82 ?_
  refine lv_iload hx hb dX12_feed_85 (lv_at hl 0 rfl) ?_
  refine lv_bipush (v := 8) hx hb dX12_feed_87 (by decide) ?_
  refine lv_iconst (v := 3) hx hb dX12_feed_89 (by decide) ?_
  refine lv_iload hx hb dX12_feed_90 (lv_at hl 1 rfl) ?_
  refine lv_iconst (v := 4) hx hb dX12_feed_92 (by decide) ?_
  refine lv_irem hx hb dX12_feed_93 (by decide) ?_
  refine lv_topi (fun x_1114 ex_1114 => ?_)
  obtain rfl : x_1114 = 3 := ex_1114.trans (by decide)
  refine lv_isub hx hb dX12_feed_94 ?_
  refine lv_topi (fun x_1115 ex_1115 => ?_)
  obtain rfl : x_1115 = 0 := ex_1115.trans (by decide)
  refine lv_imul hx hb dX12_feed_95 ?_
  refine lv_topi (fun x_1116 ex_1116 => ?_)
  obtain rfl : x_1116 = 0 := ex_1116.trans (by decide)
  refine lv_ishr hx hb dX12_feed_96 ?_
  refine lv_topi (fun x_1117 ex_1117 => ?_)
  refine lv_sipush (v := 255) hx hb dX12_feed_97 (by decide) ?_
  refine lv_iand hx hb dX12_feed_100 ?_
  refine lv_topi (fun x_1118 ex_1118 => ?_)
  refine va_iast hx hb hK hP hD hS 1 0 rfl rfl (vpi (by decide)) dX12_feed_101 (fun H locs hP hD hS => ?_)
  obtain ⟨f1119, hP, hD⟩ : ∃ f : Nat → Int32, va_P (dC, dI) vwCl (wd_703 rm km f) H ∧ va_D A (wd_703 rm km f) := ⟨_, hP, hD⟩
  have hP : va_P (dC, dI) vwCl (wd_748 rm km f1119) H := hP
  have hD : va_D A (wd_748 rm km f1119) := hD
  refine lv_aload_n hx hb dX12_feed_102 rfl (lv_at hl 2 rfl) ?_
  refine lv_dup hx hb dX12_feed_103 rfl ?_
  refine va_get (D := (dC, dI)) (ci := 12) (v := .int 15) (C := RX12) (T := TX12) (N := 84) hx hb hts i_X12 hown hK hP 0 rfl rfl 1 (by decide) (hts _ q_366) (fun _ h9 => h9) rfl dX12_feed_104 ?_
  refine lv_iconst (v := 1) hx hb dX12_feed_107 (by decide) ?_
  refine lv_iadd hx hb dX12_feed_108 ?_
  refine lv_topi (fun x_1120 ex_1120 => ?_)
  obtain rfl : x_1120 = 16 := ex_1120.trans (by decide)
  refine va_put (D := (dC, dI)) (ci := 12) (v := .int 16) (ty := tyX12 1) (C := RX12) (T := TX12) (N := 84) hx hb hts i_X12 tyX12 tyX12_ok nmX12 hown hK hP hD hS 0 rfl rfl 1 (by decide) (hts _ q_366) (fun _ h9 => h9) rfl (tyX12_ok 1 (by decide)) rfl rfl (Nat.le_of_ble_eq_true rfl) dX12_feed_109 (fun H locs hP hD hS => ?_)
  have hP : va_P (dC, dI) vwCl (wd_749 rm km f1119) H := hP
  have hD : va_D A (wd_749 rm km f1119) := hD
  refine lv_iinc (v := 16) (lv' := [(6, .int 16), (7, .int p4), (0, .ref (rm 0)), (1, .int p1), (2, .int p2), (3, .int p3), (4, .int p4), (5, .int p5)]) hx hb dX12_feed_112 hl (k := 1) rfl (by decide) (by decide) rfl (fun ls hl => ?_)
  refine lv_goto (tgt := 22) hx hb dX12_feed_115 (by decide) ?_
  refine lv_iload hx hb dX12_feed_22 (lv_at hl 0 rfl) ?_
  refine lv_bipush (v := 20) hx hb dX12_feed_24 (by decide) ?_
  refine lv_icmp_ge (tgt := 118) hx hb dX12_feed_26 (by decide) (fun c_0 => absurd c_0 (by decide)) (fun c_0 => ?_)
  refine lv_iload hx hb dX12_feed_29 (lv_at hl 0 rfl) ?_
  refine lv_iconst (v := 4) hx hb dX12_feed_31 (by decide) ?_
  refine lv_icmp_ge (tgt := 39) hx hb dX12_feed_32 (by decide) (fun c_0 => ?_) (fun c_0 => absurd c_0 (by decide))
  refine lv_iload hx hb dX12_feed_39 (lv_at hl 0 rfl) ?_
  refine lv_bipush (v := 8) hx hb dX12_feed_41 (by decide) ?_
  refine lv_icmp_ge (tgt := 50) hx hb dX12_feed_43 (by decide) (fun c_0 => ?_) (fun c_0 => absurd c_0 (by decide))
  refine lv_iload hx hb dX12_feed_50 (lv_at hl 0 rfl) ?_
  refine lv_bipush (v := 12) hx hb dX12_feed_52 (by decide) ?_
  refine lv_icmp_ge (tgt := 61) hx hb dX12_feed_54 (by decide) (fun c_0 => ?_) (fun c_0 => absurd c_0 (by decide))
  refine lv_iload hx hb dX12_feed_61 (lv_at hl 0 rfl) ?_
  refine lv_bipush (v := 16) hx hb dX12_feed_63 (by decide) ?_
  refine lv_icmp_ge (tgt := 73) hx hb dX12_feed_65 (by decide) (fun c_0 => ?_) (fun c_0 => absurd c_0 (by decide))
  refine lv_iload hx hb dX12_feed_73 (lv_at hl 7 rfl) ?_
  refine lv_istore (lv' := [(7, .int p5), (6, .int 16), (0, .ref (rm 0)), (1, .int p1), (2, .int p2), (3, .int p3), (4, .int p4), (5, .int p5)]) hx hb dX12_feed_75 hl (by decide) rfl (fun ls hl => ?_)
  refine lv_aload_n hx hb dX12_feed_77 rfl (lv_at hl 2 rfl) ?_
  refine va_get (D := (dC, dI)) (ci := 12) (v := .ref (rm 1)) (C := RX12) (T := TX12) (N := 84) hx hb hts i_X12 hown hK hP 0 rfl rfl 0 (by decide) (hts _ q_187) (fun _ h9 => h9) rfl dX12_feed_78 ?_
  refine lv_aload_n hx hb dX12_feed_81 rfl (lv_at hl 2 rfl) ?_
  refine va_get (D := (dC, dI)) (ci := 12) (v := .int 16) (C := RX12) (T := TX12) (N := 84) hx hb hts i_X12 hown hK hP 0 rfl rfl 1 (by decide) (hts _ q_366) (fun _ h9 => h9) rfl dX12_feed_82 ?_
  refine lv_iload hx hb dX12_feed_85 (lv_at hl 0 rfl) ?_
  refine lv_bipush (v := 8) hx hb dX12_feed_87 (by decide) ?_
  refine lv_iconst (v := 3) hx hb dX12_feed_89 (by decide) ?_
  refine lv_iload hx hb dX12_feed_90 (lv_at hl 1 rfl) ?_
  refine lv_iconst (v := 4) hx hb dX12_feed_92 (by decide) ?_
  refine lv_irem hx hb dX12_feed_93 (by decide) ?_
  refine lv_topi (fun x_1121 ex_1121 => ?_)
  obtain rfl : x_1121 = 0 := ex_1121.trans (by decide)
  refine lv_isub hx hb dX12_feed_94 ?_
  refine lv_topi (fun x_1122 ex_1122 => ?_)
  obtain rfl : x_1122 = 3 := ex_1122.trans (by decide)
  refine lv_imul hx hb dX12_feed_95 ?_
  refine lv_topi (fun x_1123 ex_1123 => ?_)
  obtain rfl : x_1123 = 24 := ex_1123.trans (by decide)
  refine lv_ishr hx hb dX12_feed_96 ?_
  refine lv_topi (fun x_1124 ex_1124 => ?_)
  refine lv_sipush (v := 255) hx hb dX12_feed_97 (by decide) ?_
  refine lv_iand hx hb dX12_feed_100 ?_
  refine lv_topi (fun x_1125 ex_1125 => ?_)
  refine va_iast hx hb hK hP hD hS 1 0 rfl rfl (vpi (by decide)) dX12_feed_101 (fun H locs hP hD hS => ?_)
  obtain ⟨f1126, hP, hD⟩ : ∃ f : Nat → Int32, va_P (dC, dI) vwCl (wd_706 rm km f) H ∧ va_D A (wd_706 rm km f) := ⟨_, hP, hD⟩
  have hP : va_P (dC, dI) vwCl (wd_750 rm km f1126) H := hP
  have hD : va_D A (wd_750 rm km f1126) := hD
  refine lv_aload_n hx hb dX12_feed_102 rfl (lv_at hl 2 rfl) ?_
  refine lv_dup hx hb dX12_feed_103 rfl ?_
  refine va_get (D := (dC, dI)) (ci := 12) (v := .int 16) (C := RX12) (T := TX12) (N := 84) hx hb hts i_X12 hown hK hP 0 rfl rfl 1 (by decide) (hts _ q_366) (fun _ h9 => h9) rfl dX12_feed_104 ?_
  refine lv_iconst (v := 1) hx hb dX12_feed_107 (by decide) ?_
  refine lv_iadd hx hb dX12_feed_108 ?_
  refine lv_topi (fun x_1127 ex_1127 => ?_)
  obtain rfl : x_1127 = 17 := ex_1127.trans (by decide)
  refine va_put (D := (dC, dI)) (ci := 12) (v := .int 17) (ty := tyX12 1) (C := RX12) (T := TX12) (N := 84) hx hb hts i_X12 tyX12 tyX12_ok nmX12 hown hK hP hD hS 0 rfl rfl 1 (by decide) (hts _ q_366) (fun _ h9 => h9) rfl (tyX12_ok 1 (by decide)) rfl rfl (Nat.le_of_ble_eq_true rfl) dX12_feed_109 (fun H locs hP hD hS => ?_)
  have hP : va_P (dC, dI) vwCl (wd_751 rm km f1126) H := hP
  have hD : va_D A (wd_751 rm km f1126) := hD
  refine lv_iinc (v := 17) (lv' := [(6, .int 17), (7, .int p5), (0, .ref (rm 0)), (1, .int p1), (2, .int p2), (3, .int p3), (4, .int p4), (5, .int p5)]) hx hb dX12_feed_112 hl (k := 1) rfl (by decide) (by decide) rfl (fun ls hl => ?_)
  refine lv_goto (tgt := 22) hx hb dX12_feed_115 (by decide) ?_
  refine lv_iload hx hb dX12_feed_22 (lv_at hl 0 rfl) ?_
  refine lv_bipush (v := 20) hx hb dX12_feed_24 (by decide) ?_
  refine lv_icmp_ge (tgt := 118) hx hb dX12_feed_26 (by decide) (fun c_0 => absurd c_0 (by decide)) (fun c_0 => ?_)
  refine lv_iload hx hb dX12_feed_29 (lv_at hl 0 rfl) ?_
  refine lv_iconst (v := 4) hx hb dX12_feed_31 (by decide) ?_
  refine lv_icmp_ge (tgt := 39) hx hb dX12_feed_32 (by decide) (fun c_0 => ?_) (fun c_0 => absurd c_0 (by decide))
  refine lv_iload hx hb dX12_feed_39 (lv_at hl 0 rfl) ?_
  refine lv_bipush (v := 8) hx hb dX12_feed_41 (by decide) ?_
  refine lv_icmp_ge (tgt := 50) hx hb dX12_feed_43 (by decide) (fun c_0 => ?_) (fun c_0 => absurd c_0 (by decide))
  refine lv_iload hx hb dX12_feed_50 (lv_at hl 0 rfl) ?_
  refine lv_bipush (v := 12) hx hb dX12_feed_52 (by decide) ?_
  refine lv_icmp_ge (tgt := 61) hx hb dX12_feed_54 (by decide) (fun c_0 => ?_) (fun c_0 => absurd c_0 (by decide))
  refine lv_iload hx hb dX12_feed_61 (lv_at hl 0 rfl) ?_
  refine lv_bipush (v := 16) hx hb dX12_feed_63 (by decide) ?_
  refine lv_icmp_ge (tgt := 73) hx hb dX12_feed_65 (by decide) (fun c_0 => ?_) (fun c_0 => absurd c_0 (by decide))
  refine lv_iload hx hb dX12_feed_73 (lv_at hl 7 rfl) ?_
  refine lv_istore (lv' := [(7, .int p5), (6, .int 17), (0, .ref (rm 0)), (1, .int p1), (2, .int p2), (3, .int p3), (4, .int p4), (5, .int p5)]) hx hb dX12_feed_75 hl (by decide) rfl (fun ls hl => ?_)
  refine lv_aload_n hx hb dX12_feed_77 rfl (lv_at hl 2 rfl) ?_
  refine va_get (D := (dC, dI)) (ci := 12) (v := .ref (rm 1)) (C := RX12) (T := TX12) (N := 84) hx hb hts i_X12 hown hK hP 0 rfl rfl 0 (by decide) (hts _ q_187) (fun _ h9 => h9) rfl dX12_feed_78 ?_
  refine lv_aload_n hx hb dX12_feed_81 rfl (lv_at hl 2 rfl) ?_
  refine va_get (D := (dC, dI)) (ci := 12) (v := .int 17) (C := RX12) (T := TX12) (N := 84) hx hb hts i_X12 hown hK hP 0 rfl rfl 1 (by decide) (hts _ q_366) (fun _ h9 => h9) rfl dX12_feed_82 ?_
  refine lv_iload hx hb dX12_feed_85 (lv_at hl 0 rfl) ?_
  refine lv_bipush (v := 8) hx hb dX12_feed_87 (by decide) ?_
  refine lv_iconst (v := 3) hx hb dX12_feed_89 (by decide) ?_
  refine lv_iload hx hb dX12_feed_90 (lv_at hl 1 rfl) ?_
  refine lv_iconst (v := 4) hx hb dX12_feed_92 (by decide) ?_
  refine lv_irem hx hb dX12_feed_93 (by decide) ?_
  refine lv_topi (fun x_1128 ex_1128 => ?_)
  obtain rfl : x_1128 = 1 := ex_1128.trans (by decide)
  refine lv_isub hx hb dX12_feed_94 ?_
  refine lv_topi (fun x_1129 ex_1129 => ?_)
  obtain rfl : x_1129 = 2 := ex_1129.trans (by decide)
  refine lv_imul hx hb dX12_feed_95 ?_
  refine lv_topi (fun x_1130 ex_1130 => ?_)
  obtain rfl : x_1130 = 16 := ex_1130.trans (by decide)
  refine lv_ishr hx hb dX12_feed_96 ?_
  refine lv_topi (fun x_1131 ex_1131 => ?_)
  refine lv_sipush (v := 255) hx hb dX12_feed_97 (by decide) ?_
  refine lv_iand hx hb dX12_feed_100 ?_
  refine lv_topi (fun x_1132 ex_1132 => ?_)
  refine va_iast hx hb hK hP hD hS 1 0 rfl rfl (vpi (by decide)) dX12_feed_101 (fun H locs hP hD hS => ?_)
  obtain ⟨f1133, hP, hD⟩ : ∃ f : Nat → Int32, va_P (dC, dI) vwCl (wd_709 rm km f) H ∧ va_D A (wd_709 rm km f) := ⟨_, hP, hD⟩
  have hP : va_P (dC, dI) vwCl (wd_752 rm km f1133) H := hP
  have hD : va_D A (wd_752 rm km f1133) := hD
  refine lv_aload_n hx hb dX12_feed_102 rfl (lv_at hl 2 rfl) ?_
  refine lv_dup hx hb dX12_feed_103 rfl ?_
  refine va_get (D := (dC, dI)) (ci := 12) (v := .int 17) (C := RX12) (T := TX12) (N := 84) hx hb hts i_X12 hown hK hP 0 rfl rfl 1 (by decide) (hts _ q_366) (fun _ h9 => h9) rfl dX12_feed_104 ?_
  refine lv_iconst (v := 1) hx hb dX12_feed_107 (by decide) ?_
  refine lv_iadd hx hb dX12_feed_108 ?_
  refine lv_topi (fun x_1134 ex_1134 => ?_)
  obtain rfl : x_1134 = 18 := ex_1134.trans (by decide)
  refine va_put (D := (dC, dI)) (ci := 12) (v := .int 18) (ty := tyX12 1) (C := RX12) (T := TX12) (N := 84) hx hb hts i_X12 tyX12 tyX12_ok nmX12 hown hK hP hD hS 0 rfl rfl 1 (by decide) (hts _ q_366) (fun _ h9 => h9) rfl (tyX12_ok 1 (by decide)) rfl rfl (Nat.le_of_ble_eq_true rfl) dX12_feed_109 (fun H locs hP hD hS => ?_)
  have hP : va_P (dC, dI) vwCl (wd_753 rm km f1133) H := hP
  have hD : va_D A (wd_753 rm km f1133) := hD
  refine lv_iinc (v := 18) (lv' := [(6, .int 18), (7, .int p5), (0, .ref (rm 0)), (1, .int p1), (2, .int p2), (3, .int p3), (4, .int p4), (5, .int p5)]) hx hb dX12_feed_112 hl (k := 1) rfl (by decide) (by decide) rfl (fun ls hl => ?_)
  refine lv_goto (tgt := 22) hx hb dX12_feed_115 (by decide) ?_
  refine lv_iload hx hb dX12_feed_22 (lv_at hl 0 rfl) ?_
  refine lv_bipush (v := 20) hx hb dX12_feed_24 (by decide) ?_
  refine lv_icmp_ge (tgt := 118) hx hb dX12_feed_26 (by decide) (fun c_0 => absurd c_0 (by decide)) (fun c_0 => ?_)
  refine lv_iload hx hb dX12_feed_29 (lv_at hl 0 rfl) ?_
  refine lv_iconst (v := 4) hx hb dX12_feed_31 (by decide) ?_
  refine lv_icmp_ge (tgt := 39) hx hb dX12_feed_32 (by decide) (fun c_0 => ?_) (fun c_0 => absurd c_0 (by decide))
  refine lv_iload hx hb dX12_feed_39 (lv_at hl 0 rfl) ?_
  refine lv_bipush (v := 8) hx hb dX12_feed_41 (by decide) ?_
  refine lv_icmp_ge (tgt := 50) hx hb dX12_feed_43 (by decide) (fun c_0 => ?_) (fun c_0 => absurd c_0 (by decide))
  refine lv_iload hx hb dX12_feed_50 (lv_at hl 0 rfl) ?_
  refine lv_bipush (v := 12) hx hb dX12_feed_52 (by decide) ?_
  refine lv_icmp_ge (tgt := 61) hx hb dX12_feed_54 (by decide) (fun c_0 => ?_) (fun c_0 => absurd c_0 (by decide))
  refine lv_iload hx hb dX12_feed_61 (lv_at hl 0 rfl) ?_
  refine lv_bipush (v := 16) hx hb dX12_feed_63 (by decide) ?_
  refine lv_icmp_ge (tgt := 73) hx hb dX12_feed_65 (by decide) (fun c_0 => ?_) (fun c_0 => absurd c_0 (by decide))
  refine lv_iload hx hb dX12_feed_73 (lv_at hl 7 rfl) ?_
  refine lv_istore (lv' := [(7, .int p5), (6, .int 18), (0, .ref (rm 0)), (1, .int p1), (2, .int p2), (3, .int p3), (4, .int p4), (5, .int p5)]) hx hb dX12_feed_75 hl (by decide) rfl (fun ls hl => ?_)
  refine lv_aload_n hx hb dX12_feed_77 rfl (lv_at hl 2 rfl) ?_
  refine va_get (D := (dC, dI)) (ci := 12) (v := .ref (rm 1)) (C := RX12) (T := TX12) (N := 84) hx hb hts i_X12 hown hK hP 0 rfl rfl 0 (by decide) (hts _ q_187) (fun _ h9 => h9) rfl dX12_feed_78 ?_
  refine lv_aload_n hx hb dX12_feed_81 rfl (lv_at hl 2 rfl) ?_
  refine va_get (D := (dC, dI)) (ci := 12) (v := .int 18) (C := RX12) (T := TX12) (N := 84) hx hb hts i_X12 hown hK hP 0 rfl rfl 1 (by decide) (hts _ q_366) (fun _ h9 => h9) rfl dX12_feed_82 ?_
  refine lv_iload hx hb dX12_feed_85 (lv_at hl 0 rfl) ?_
  refine lv_bipush (v := 8) hx hb dX12_feed_87 (by decide) ?_
  refine lv_iconst (v := 3) hx hb dX12_feed_89 (by decide) ?_
  refine lv_iload hx hb dX12_feed_90 (lv_at hl 1 rfl) ?_
  refine lv_iconst (v := 4) hx hb dX12_feed_92 (by decide) ?_
  refine lv_irem hx hb dX12_feed_93 (by decide) ?_
  refine lv_topi (fun x_1135 ex_1135 => ?_)
  obtain rfl : x_1135 = 2 := ex_1135.trans (by decide)
  refine lv_isub hx hb dX12_feed_94 ?_
  refine lv_topi (fun x_1136 ex_1136 => ?_)
  obtain rfl : x_1136 = 1 := ex_1136.trans (by decide)
  refine lv_imul hx hb dX12_feed_95 ?_
  refine lv_topi (fun x_1137 ex_1137 => ?_)
  obtain rfl : x_1137 = 8 := ex_1137.trans (by decide)
  refine lv_ishr hx hb dX12_feed_96 ?_
  refine lv_topi (fun x_1138 ex_1138 => ?_)
  refine lv_sipush (v := 255) hx hb dX12_feed_97 (by decide) ?_
  refine lv_iand hx hb dX12_feed_100 ?_
  refine lv_topi (fun x_1139 ex_1139 => ?_)
  refine va_iast hx hb hK hP hD hS 1 0 rfl rfl (vpi (by decide)) dX12_feed_101 (fun H locs hP hD hS => ?_)
  obtain ⟨f1140, hP, hD⟩ : ∃ f : Nat → Int32, va_P (dC, dI) vwCl (wd_712 rm km f) H ∧ va_D A (wd_712 rm km f) := ⟨_, hP, hD⟩
  have hP : va_P (dC, dI) vwCl (wd_754 rm km f1140) H := hP
  have hD : va_D A (wd_754 rm km f1140) := hD
  refine lv_aload_n hx hb dX12_feed_102 rfl (lv_at hl 2 rfl) ?_
  refine lv_dup hx hb dX12_feed_103 rfl ?_
  refine va_get (D := (dC, dI)) (ci := 12) (v := .int 18) (C := RX12) (T := TX12) (N := 84) hx hb hts i_X12 hown hK hP 0 rfl rfl 1 (by decide) (hts _ q_366) (fun _ h9 => h9) rfl dX12_feed_104 ?_
  refine lv_iconst (v := 1) hx hb dX12_feed_107 (by decide) ?_
  refine lv_iadd hx hb dX12_feed_108 ?_
  refine lv_topi (fun x_1141 ex_1141 => ?_)
  obtain rfl : x_1141 = 19 := ex_1141.trans (by decide)
  refine va_put (D := (dC, dI)) (ci := 12) (v := .int 19) (ty := tyX12 1) (C := RX12) (T := TX12) (N := 84) hx hb hts i_X12 tyX12 tyX12_ok nmX12 hown hK hP hD hS 0 rfl rfl 1 (by decide) (hts _ q_366) (fun _ h9 => h9) rfl (tyX12_ok 1 (by decide)) rfl rfl (Nat.le_of_ble_eq_true rfl) dX12_feed_109 (fun H locs hP hD hS => ?_)
  have hP : va_P (dC, dI) vwCl (wd_755 rm km f1140) H := hP
  have hD : va_D A (wd_755 rm km f1140) := hD
  refine lv_iinc (v := 19) (lv' := [(6, .int 19), (7, .int p5), (0, .ref (rm 0)), (1, .int p1), (2, .int p2), (3, .int p3), (4, .int p4), (5, .int p5)]) hx hb dX12_feed_112 hl (k := 1) rfl (by decide) (by decide) rfl (fun ls hl => ?_)
  refine lv_goto (tgt := 22) hx hb dX12_feed_115 (by decide) ?_
  refine lv_iload hx hb dX12_feed_22 (lv_at hl 0 rfl) ?_
  refine lv_bipush (v := 20) hx hb dX12_feed_24 (by decide) ?_
  refine lv_icmp_ge (tgt := 118) hx hb dX12_feed_26 (by decide) (fun c_0 => absurd c_0 (by decide)) (fun c_0 => ?_)
  refine lv_iload hx hb dX12_feed_29 (lv_at hl 0 rfl) ?_
  refine lv_iconst (v := 4) hx hb dX12_feed_31 (by decide) ?_
  refine lv_icmp_ge (tgt := 39) hx hb dX12_feed_32 (by decide) (fun c_0 => ?_) (fun c_0 => absurd c_0 (by decide))
  refine lv_iload hx hb dX12_feed_39 (lv_at hl 0 rfl) ?_
  refine lv_bipush (v := 8) hx hb dX12_feed_41 (by decide) ?_
  refine lv_icmp_ge (tgt := 50) hx hb dX12_feed_43 (by decide) (fun c_0 => ?_) (fun c_0 => absurd c_0 (by decide))
  refine lv_iload hx hb dX12_feed_50 (lv_at hl 0 rfl) ?_
  refine lv_bipush (v := 12) hx hb dX12_feed_52 (by decide) ?_
  refine lv_icmp_ge (tgt := 61) hx hb dX12_feed_54 (by decide) (fun c_0 => ?_) (fun c_0 => absurd c_0 (by decide))
  refine lv_iload hx hb dX12_feed_61 (lv_at hl 0 rfl) ?_
  refine lv_bipush (v := 16) hx hb dX12_feed_63 (by decide) ?_
  refine lv_icmp_ge (tgt := 73) hx hb dX12_feed_65 (by decide) (fun c_0 => ?_) (fun c_0 => absurd c_0 (by decide))
  refine lv_iload hx hb dX12_feed_73 (lv_at hl 7 rfl) ?_
  refine lv_istore (lv' := [(7, .int p5), (6, .int 19), (0, .ref (rm 0)), (1, .int p1), (2, .int p2), (3, .int p3), (4, .int p4), (5, .int p5)]) hx hb dX12_feed_75 hl (by decide) rfl (fun ls hl => ?_)
  refine lv_aload_n hx hb dX12_feed_77 rfl (lv_at hl 2 rfl) ?_
  refine va_get (D := (dC, dI)) (ci := 12) (v := .ref (rm 1)) (C := RX12) (T := TX12) (N := 84) hx hb hts i_X12 hown hK hP 0 rfl rfl 0 (by decide) (hts _ q_187) (fun _ h9 => h9) rfl dX12_feed_78 ?_
  refine lv_aload_n hx hb dX12_feed_81 rfl (lv_at hl 2 rfl) ?_
  refine va_get (D := (dC, dI)) (ci := 12) (v := .int 19) (C := RX12) (T := TX12) (N := 84) hx hb hts i_X12 hown hK hP 0 rfl rfl 1 (by decide) (hts _ q_366) (fun _ h9 => h9) rfl dX12_feed_82 ?_
  refine lv_iload hx hb dX12_feed_85 (lv_at hl 0 rfl) ?_
  refine lv_bipush (v := 8) hx hb dX12_feed_87 (by decide) ?_
  refine lv_iconst (v := 3) hx hb dX12_feed_89 (by decide) ?_
  refine lv_iload hx hb dX12_feed_90 (lv_at hl 1 rfl) ?_
  refine lv_iconst (v := 4) hx hb dX12_feed_92 (by decide) ?_
  refine lv_irem hx hb dX12_feed_93 (by decide) ?_
  refine lv_topi (fun x_1142 ex_1142 => ?_)
  obtain rfl : x_1142 = 3 := ex_1142.trans (by decide)
  refine lv_isub hx hb dX12_feed_94 ?_
  refine lv_topi (fun x_1143 ex_1143 => ?_)
  obtain rfl : x_1143 = 0 := ex_1143.trans (by decide)
  refine lv_imul hx hb dX12_feed_95 ?_
  refine lv_topi (fun x_1144 ex_1144 => ?_)
  obtain rfl : x_1144 = 0 := ex_1144.trans (by decide)
  refine lv_ishr hx hb dX12_feed_96 ?_
  refine lv_topi (fun x_1145 ex_1145 => ?_)
  refine lv_sipush (v := 255) hx hb dX12_feed_97 (by decide) ?_
  refine lv_iand hx hb dX12_feed_100 ?_
  refine lv_topi (fun x_1146 ex_1146 => ?_)
  refine va_iast hx hb hK hP hD hS 1 0 rfl rfl (vpi (by decide)) dX12_feed_101 (fun H locs hP hD hS => ?_)
  obtain ⟨f1147, hP, hD⟩ : ∃ f : Nat → Int32, va_P (dC, dI) vwCl (wd_715 rm km f) H ∧ va_D A (wd_715 rm km f) := ⟨_, hP, hD⟩
  have hP : va_P (dC, dI) vwCl (wd_756 rm km f1147) H := hP
  have hD : va_D A (wd_756 rm km f1147) := hD
  refine lv_aload_n hx hb dX12_feed_102 rfl (lv_at hl 2 rfl) ?_
  refine lv_dup hx hb dX12_feed_103 rfl ?_
  refine va_get (D := (dC, dI)) (ci := 12) (v := .int 19) (C := RX12) (T := TX12) (N := 84) hx hb hts i_X12 hown hK hP 0 rfl rfl 1 (by decide) (hts _ q_366) (fun _ h9 => h9) rfl dX12_feed_104 ?_
  refine lv_iconst (v := 1) hx hb dX12_feed_107 (by decide) ?_
  refine lv_iadd hx hb dX12_feed_108 ?_
  refine lv_topi (fun x_1148 ex_1148 => ?_)
  obtain rfl : x_1148 = 20 := ex_1148.trans (by decide)
  refine va_put (D := (dC, dI)) (ci := 12) (v := .int 20) (ty := tyX12 1) (C := RX12) (T := TX12) (N := 84) hx hb hts i_X12 tyX12 tyX12_ok nmX12 hown hK hP hD hS 0 rfl rfl 1 (by decide) (hts _ q_366) (fun _ h9 => h9) rfl (tyX12_ok 1 (by decide)) rfl rfl (Nat.le_of_ble_eq_true rfl) dX12_feed_109 (fun H locs hP hD hS => ?_)
  have hP : va_P (dC, dI) vwCl (wd_757 rm km f1147) H := hP
  have hD : va_D A (wd_757 rm km f1147) := hD
  refine lv_iinc (v := 20) (lv' := [(6, .int 20), (7, .int p5), (0, .ref (rm 0)), (1, .int p1), (2, .int p2), (3, .int p3), (4, .int p4), (5, .int p5)]) hx hb dX12_feed_112 hl (k := 1) rfl (by decide) (by decide) rfl (fun ls hl => ?_)
  refine lv_goto (tgt := 22) hx hb dX12_feed_115 (by decide) ?_
  refine lv_iload hx hb dX12_feed_22 (lv_at hl 0 rfl) ?_
  refine lv_bipush (v := 20) hx hb dX12_feed_24 (by decide) ?_
  refine lv_icmp_ge (tgt := 118) hx hb dX12_feed_26 (by decide) (fun c_0 => ?_) (fun c_0 => absurd c_0 (by decide))
  refine lv_aload_n hx hb dX12_feed_118 rfl (lv_at hl 2 rfl) ?_
  refine va_get (D := (dC, dI)) (ci := 12) (v := .int 20) (C := RX12) (T := TX12) (N := 84) hx hb hts i_X12 hown hK hP 0 rfl rfl 1 (by decide) (hts _ q_366) (fun _ h9 => h9) rfl dX12_feed_119 ?_
  refine W.widen (k := 0) (n := 0) (Nat.le_of_ble_eq_true rfl) (Nat.le_of_ble_eq_true rfl) ?_
  exact W.iret (v := 20) hx hb hr (fun t ht hW => ⟨⟨20, (), rfl, rfl, trivial⟩, hS.F ht⟩) hS.2.2 dX12_feed_122
