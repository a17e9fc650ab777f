set_option maxHeartbeats 4000000 in
set_option maxRecDepth 100000 in
theorem s_coder (l : Launch) (dC : Nat → ClassId) (dI : Nat → Nat → Nat) (sa sv : Nat) (sz : Nat) : Met l yJ0_coder_7d493 (Cond.code yJ0_coder_7d493 cJ0_coder_7d493 1 (some .byte) :: wA) ({ frames := 0, cells := 0, slots := 0, locals := 0 }) (va_Pc [.ref sa] (fun U => U.heap.size = sz ∧ SWa sa sv (va_A [] sz) U U.heap)) (va_Qi (fun (r : Int32) (_ : Unit) => r = 0) (fun _ _ => True) (va_A [] sz)) 0 0 (va_A [] sz) := by
  refine Met.ofW (cc := cJ0_coder_7d493) (maxL := 1) (ret := (some .byte)) (by decide) rfl ?_
  intro p e s m args below meth c s₁ B hml hv
  obtain ⟨rfl, hsz, hSA⟩ := hv
  have hx := B.exec
  have hb := B.bytes
  have hr := B.returns
  have hts : ∀ w ∈ wA, w.before [.ref sa].toArray s = true := fun w h => atoms_spec (ws := Cond.code yJ0_coder_7d493 cJ0_coder_7d493 1 (some .byte) :: wA) B.pre w (List.mem_cons_of_mem _ h)
  have hown : s.vm.findClass RJ0 = some m.cls := findClass_of_methodNamed B.named
  have hlocks := B.notSynchronized
  subst hsz
  have hA : ∀ q : Nat, s.heap.size ≤ q → va_A [] s.heap.size q := fun q h => Or.inr h
  generalize hAe : va_A [] s.heap.size = A at hSA hA ⊢
  have hS : va_S A s.heap s.heap [] := va_S.rf
  have hD : va_D A [] := ⟨fun i j p q h => by simp at h, fun k q h => by simp at h⟩
  have hl := lv_entry ([.ref sa]) (n := 1) (Nat.le_of_ble_eq_true rfl)
  rw [lg_entry_eq]
  generalize (lg_sl ([.ref sa]) ++ List.replicate (1 - (lg_sl ([.ref sa])).length) Slot.unset).toArray = ls at hl ⊢
  have hl : lv_has ls 1 [(0, .ref sa)] := hl
  refine va_gets hx hb hSA.2.2.2.2.2.2.2.1 hS hown (va_Nw.use rfl hSA.1) (fun _ h9 => h9) dJ0_coder_7d493_0 ?_
  refine lv_if_eq (tgt := 13) hx hb dJ0_coder_7d493_3 (by decide) (fun h => absurd h (by decide)) (fun _ => ?_)
  refine lv_aload_n hx hb dJ0_coder_7d493_6 rfl (lv_at hl 0 rfl) ?_
  refine vk_getf hx hb hSA.2.2.2.2.1 hS hown (hts _ q_31) (fun _ h9 => h9) dJ0_coder_7d493_7 ?_
  refine lv_goto (tgt := 14) hx hb dJ0_coder_7d493_10 (by decide) ?_
  exact W.zret (v := 0) hx hb hr rfl (fun t ht hW => ⟨⟨0, (), rfl, rfl, trivial⟩, hS.F ht⟩) hS.2.2 dJ0_coder_7d493_14
set_option maxHeartbeats 4000000 in
set_option maxRecDepth 100000 in
theorem s_isLatin1 (l : Launch) (dC : Nat → ClassId) (dI : Nat → Nat → Nat) (sa sv : Nat) (sz : Nat) : Met l yJ0_isLatin1_aae02 (Cond.code yJ0_isLatin1_aae02 cJ0_isLatin1_aae02 1 (some .boolean) :: wA) ({ frames := 0, cells := 0, slots := 0, locals := 0 }) (va_Pc [.ref sa] (fun U => U.heap.size = sz ∧ SWa sa sv (va_A [] sz) U U.heap)) (va_Qi (fun (r : Int32) (_ : Unit) => r = 1) (fun _ _ => True) (va_A [] sz)) 0 0 (va_A [] sz) := by
  refine Met.ofW (cc := cJ0_isLatin1_aae02) (maxL := 1) (ret := (some .boolean)) (by decide) rfl ?_
  intro p e s m args below meth c s₁ B hml hv
  obtain ⟨rfl, hsz, hSA⟩ := hv
  have hx := B.exec
  have hb := B.bytes
  have hr := B.returns
  have hts : ∀ w ∈ wA, w.before [.ref sa].toArray s = true := fun w h => atoms_spec (ws := Cond.code yJ0_isLatin1_aae02 cJ0_isLatin1_aae02 1 (some .boolean) :: wA) B.pre w (List.mem_cons_of_mem _ h)
  have hown : s.vm.findClass RJ0 = some m.cls := findClass_of_methodNamed B.named
  have hlocks := B.notSynchronized
  subst hsz
  have hA : ∀ q : Nat, s.heap.size ≤ q → va_A [] s.heap.size q := fun q h => Or.inr h
  generalize hAe : va_A [] s.heap.size = A at hSA hA ⊢
  have hS : va_S A s.heap s.heap [] := va_S.rf
  have hD : va_D A [] := ⟨fun i j p q h => by simp at h, fun k q h => by simp at h⟩
  have hl := lv_entry ([.ref sa]) (n := 1) (Nat.le_of_ble_eq_true rfl)
  rw [lg_entry_eq]
  generalize (lg_sl ([.ref sa]) ++ List.replicate (1 - (lg_sl ([.ref sa])).length) Slot.unset).toArray = ls at hl ⊢
  have hl : lv_has ls 1 [(0, .ref sa)] := hl
  refine va_gets hx hb hSA.2.2.2.2.2.2.2.1 hS hown (va_Nw.use rfl hSA.1) (fun _ h9 => h9) dJ0_isLatin1_aae02_0 ?_
  refine lv_if_eq (tgt := 17) hx hb dJ0_isLatin1_aae02_3 (by decide) (fun h => absurd h (by decide)) (fun _ => ?_)
  refine lv_aload_n hx hb dJ0_isLatin1_aae02_6 rfl (lv_at hl 0 rfl) ?_
  refine vk_getf hx hb hSA.2.2.2.2.1 hS hown (hts _ q_31) (fun _ h9 => h9) dJ0_isLatin1_aae02_7 ?_
  refine lv_if_ne (tgt := 17) hx hb dJ0_isLatin1_aae02_10 (by decide) (fun h => absurd rfl h) (fun _ => ?_)
  refine lv_iconst (v := 1) hx hb dJ0_isLatin1_aae02_13 (by decide) ?_
  refine lv_goto (tgt := 18) hx hb dJ0_isLatin1_aae02_14 (by decide) ?_
  exact W.zret (v := 1) hx hb hr rfl (fun t ht hW => ⟨⟨1, (), rfl, rfl, trivial⟩, hS.F ht⟩) hS.2.2 dJ0_isLatin1_aae02_18
set_option maxHeartbeats 4000000 in
set_option maxRecDepth 100000 in
theorem s_length (l : Launch) (dC : Nat → ClassId) (dI : Nat → Nat → Nat) (sa sv : Nat) (sz : Nat) : Met l yJ0_length_8abf5 (Cond.code yJ0_length_8abf5 cJ0_length_8abf5 1 (some .int) :: wA) ({ frames := 1, cells := 0, slots := 0, locals := 40 }) (va_Pc [.ref sa] (fun U => U.heap.size = sz ∧ SWa sa sv (va_A [] sz) U U.heap)) (va_Qi (fun (r : Int32) (zR : Int) => r = iZ zR ∧ (zR = 70)) (fun _ _ => True) (va_A [] sz)) 0 0 (va_A [] sz) := by
  refine Met.ofW (cc := cJ0_length_8abf5) (maxL := 1) (ret := (some .int)) (by decide) rfl ?_
  intro p e s m args below meth c s₁ B hml hv
  obtain ⟨rfl, hsz, hSA⟩ := hv
  have hx := B.exec
  have hb := B.bytes
  have hr := B.returns
  have hts : ∀ w ∈ wA, w.before [.ref sa].toArray s = true := fun w h => atoms_spec (ws := Cond.code yJ0_length_8abf5 cJ0_length_8abf5 1 (some .int) :: wA) B.pre w (List.mem_cons_of_mem _ h)
  have hown : s.vm.findClass RJ0 = some m.cls := findClass_of_methodNamed B.named
  have hlocks := B.notSynchronized
  subst hsz
  have hA : ∀ q : Nat, s.heap.size ≤ q → va_A [] s.heap.size q := fun q h => Or.inr h
  generalize hAe : va_A [] s.heap.size = A at hSA hA ⊢
  have hS : va_S A s.heap s.heap [] := va_S.rf
  have hD : va_D A [] := ⟨fun i j p q h => by simp at h, fun k q h => by simp at h⟩
  have hl := lv_entry ([.ref sa]) (n := 1) (Nat.le_of_ble_eq_true rfl)
  rw [lg_entry_eq]
  generalize (lg_sl ([.ref sa]) ++ List.replicate (1 - (lg_sl ([.ref sa])).length) Slot.unset).toArray = ls at hl ⊢
  have hl : lv_has ls 1 [(0, .ref sa)] := hl
  refine lv_aload_n hx hb dJ0_length_8abf5_0 rfl (lv_at hl 0 rfl) ?_
  refine vk_getf hx hb hSA.2.2.2.2.2.1 hS hown (hts _ q_16) (fun _ h9 => h9) dJ0_length_8abf5_1 ?_
  refine va_tlen (v := 70) hx hb hSA.2.2.2.2.2.2.1 hS (by decide) dJ0_length_8abf5_4 ?_
  refine lv_aload_n hx hb dJ0_length_8abf5_5 rfl (lv_at hl 0 rfl) ?_
  have hFc := va_free (wc := []) hD hS hA [] rfl
  refine va_calli (va_runV (As := []) (rest := [.int 70]) ⟨hx, hb, hml, hown, hts⟩ (s_coder l dC dI sa sv s.heap.size) (cwV 0 hts (gV q_33 q_34 q_35 q_14 q_30) rfl rfl rfl mdv_yJ0_coder_7d493 ⟨Nat.le_of_ble_eq_true rfl, Nat.le_of_ble_eq_true rfl⟩) ⟨fun a U g mk q => by obtain ⟨q0, q1, qS⟩ := q; exact ⟨q0, q1, qS.same (u := U) (U := U.calling g mk a) rfl⟩, hSA.recv hS, fun U hU hW => ⟨rfl, by rw [hU], by rw [hU]; exact ((hSA.kept hS.2.1).narrow hFc).warm hW⟩⟩ rfl rfl hl.1 rfl (lv_room (Nat.le_of_ble_eq_true rfl)) dJ0_length_8abf5_6 ⟨Nat.le_of_ble_eq_true rfl, Nat.le_of_ble_eq_true rfl⟩) hS (fun q _ h => hFc q h) hFc (fun r u t H locs ht hvm hw hB hz1 hk1 hS => ?_)
  obtain rfl : r = 0 := hw
  refine lv_ishr hx hb dJ0_length_8abf5_9 ?_
  exact W.iret (v := _) hx hb hr (fun t ht hW => ⟨⟨_, 70, rfl, ⟨by decide, rfl⟩, trivial⟩, hS.F ht⟩) hS.2.2 dJ0_length_8abf5_10
set_option maxHeartbeats 4000000 in
set_option maxRecDepth 100000 in
theorem s_ckN (l : Launch) (dC : Nat → ClassId) (dI : Nat → Nat → Nat) (sa sv : Nat) (i : Int) (n : Int) (sz : Nat) (h0 : 0 ≤ i) (h1 : i < n) (h2 : n ≤ 1000) : Met l yJ3_checkIndex_8e157 (Cond.code yJ3_checkIndex_8e157 cJ3_checkIndex_8e157 3 (some .int) :: wA) ({ frames := 0, cells := 0, slots := 0, locals := 0 }) (va_Pc [.int (iZ i), .int (iZ n), .null] (fun U => U.heap.size = sz ∧ SWa sa sv (va_A [] sz) U U.heap)) (va_Qi (fun (r : Int32) (_ : Unit) => True) (fun _ _ => True) (va_A [] sz)) 0 0 (va_A [] sz) := by
  refine Met.ofW (cc := cJ3_checkIndex_8e157) (maxL := 3) (ret := (some .int)) (by decide) rfl ?_
  intro p e s m args below meth c s₁ B hml hv
  obtain ⟨rfl, hsz, hSA⟩ := hv
  have hx := B.exec
  have hb := B.bytes
  have hr := B.returns
  have hts : ∀ w ∈ wA, w.before [.int (iZ i), .int (iZ n), .null].toArray s = true := fun w h => atoms_spec (ws := Cond.code yJ3_checkIndex_8e157 cJ3_checkIndex_8e157 3 (some .int) :: wA) B.pre w (List.mem_cons_of_mem _ h)
  have hown : s.vm.findClass RJ3 = some m.cls := findClass_of_methodNamed B.named
  have hlocks := B.notSynchronized
  subst hsz
  have hA : ∀ q : Nat, s.heap.size ≤ q → va_A [] s.heap.size q := fun q h => Or.inr h
  generalize hAe : va_A [] s.heap.size = A at hSA hA ⊢
  have hS : va_S A s.heap s.heap [] := va_S.rf
  have hD : va_D A [] := ⟨fun i j p q h => by simp at h, fun k q h => by simp at h⟩
  have hl := lv_entry ([.int (iZ i), .int (iZ n), .null]) (n := 3) (Nat.le_of_ble_eq_true rfl)
  rw [lg_entry_eq]
  generalize (lg_sl ([.int (iZ i), .int (iZ n), .null]) ++ List.replicate (3 - (lg_sl ([.int (iZ i), .int (iZ n), .null])).length) Slot.unset).toArray = ls at hl ⊢
  have hl : lv_has ls 3 [(0, .int (iZ i)), (1, .int (iZ n)), (2, .null)] := hl
  refine lv_iload_n hx hb dJ3_checkIndex_8e157_0 rfl (lv_at hl 0 rfl) ?_
  refine zv_if_lt (tgt := 9) hx hb dJ3_checkIndex_8e157_1 (by decide) (by omega) (fun h => (by omega : False).elim) (fun _ => ?_)
  refine lv_iload_n hx hb dJ3_checkIndex_8e157_4 rfl (lv_at hl 0 rfl) ?_
  refine lv_iload_n hx hb dJ3_checkIndex_8e157_5 rfl (lv_at hl 1 rfl) ?_
  refine zv_icmp_lt (tgt := 16) hx hb dJ3_checkIndex_8e157_6 (by decide) (by omega) (by omega) (fun _ => ?_) (fun h => (by omega : False).elim)
  refine lv_iload_n hx hb dJ3_checkIndex_8e157_16 rfl (lv_at hl 0 rfl) ?_
  exact W.iret (v := iZ i) hx hb hr (fun t ht hW => ⟨⟨iZ i, (), rfl, trivial, trivial⟩, hS.F ht⟩) hS.2.2 dJ3_checkIndex_8e157_17
set_option maxHeartbeats 4000000 in
set_option maxRecDepth 100000 in
theorem s_ckR (l : Launch) (dC : Nat → ClassId) (dI : Nat → Nat → Nat) (sa sv : Nat) (i : Int) (n : Int) (fq : Nat) (sz : Nat) (h0 : 0 ≤ i) (h1 : i < n) (h2 : n ≤ 1000) : Met l yJ3_checkIndex_8e157 (Cond.code yJ3_checkIndex_8e157 cJ3_checkIndex_8e157 3 (some .int) :: wA) ({ frames := 0, cells := 0, slots := 0, locals := 0 }) (va_Pc [.int (iZ i), .int (iZ n), .ref fq] (fun U => U.heap.size = sz ∧ SWa sa sv (va_A [] sz) U U.heap)) (va_Qi (fun (r : Int32) (_ : Unit) => True) (fun _ _ => True) (va_A [] sz)) 0 0 (va_A [] sz) := by
  refine Met.ofW (cc := cJ3_checkIndex_8e157) (maxL := 3) (ret := (some .int)) (by decide) rfl ?_
  intro p e s m args below meth c s₁ B hml hv
  obtain ⟨rfl, hsz, hSA⟩ := hv
  have hx := B.exec
  have hb := B.bytes
  have hr := B.returns
  have hts : ∀ w ∈ wA, w.before [.int (iZ i), .int (iZ n), .ref fq].toArray s = true := fun w h => atoms_spec (ws := Cond.code yJ3_checkIndex_8e157 cJ3_checkIndex_8e157 3 (some .int) :: wA) B.pre w (List.mem_cons_of_mem _ h)
  have hown : s.vm.findClass RJ3 = some m.cls := findClass_of_methodNamed B.named
  have hlocks := B.notSynchronized
  subst hsz
  have hA : ∀ q : Nat, s.heap.size ≤ q → va_A [] s.heap.size q := fun q h => Or.inr h
  generalize hAe : va_A [] s.heap.size = A at hSA hA ⊢
  have hS : va_S A s.heap s.heap [] := va_S.rf
  have hD : va_D A [] := ⟨fun i j p q h => by simp at h, fun k q h => by simp at h⟩
  have hl := lv_entry ([.int (iZ i), .int (iZ n), .ref fq]) (n := 3) (Nat.le_of_ble_eq_true rfl)
  rw [lg_entry_eq]
  generalize (lg_sl ([.int (iZ i), .int (iZ n), .ref fq]) ++ List.replicate (3 - (lg_sl ([.int (iZ i), .int (iZ n), .ref fq])).length) Slot.unset).toArray = ls at hl ⊢
  have hl : lv_has ls 3 [(0, .int (iZ i)), (1, .int (iZ n)), (2, .ref fq)] := hl
  refine lv_iload_n hx hb dJ3_checkIndex_8e157_0 rfl (lv_at hl 0 rfl) ?_
  refine zv_if_lt (tgt := 9) hx hb dJ3_checkIndex_8e157_1 (by decide) (by omega) (fun h => (by omega : False).elim) (fun _ => ?_)
  refine lv_iload_n hx hb dJ3_checkIndex_8e157_4 rfl (lv_at hl 0 rfl) ?_
  refine lv_iload_n hx hb dJ3_checkIndex_8e157_5 rfl (lv_at hl 1 rfl) ?_
  refine zv_icmp_lt (tgt := 16) hx hb dJ3_checkIndex_8e157_6 (by decide) (by omega) (by omega) (fun _ => ?_) (fun h => (by omega : False).elim)
  refine lv_iload_n hx hb dJ3_checkIndex_8e157_16 rfl (lv_at hl 0 rfl) ?_
  exact W.iret (v := iZ i) hx hb hr (fun t ht hW => ⟨⟨iZ i, (), rfl, trivial, trivial⟩, hS.F ht⟩) hS.2.2 dJ3_checkIndex_8e157_17
set_option maxHeartbeats 4000000 in
set_option maxRecDepth 100000 in
theorem s_ck0 (l : Launch) (dC : Nat → ClassId) (dI : Nat → Nat → Nat) (sa sv : Nat) (i : Int) (n : Int) (sz : Nat) (h0 : 0 ≤ i) (h1 : i < n) (h2 : n ≤ 1000) : Met l yJ0_checkIndex_df160 (Cond.code yJ0_checkIndex_df160 cJ0_checkIndex_df160 2 none :: wA) ({ frames := 1, cells := 0, slots := 0, locals := 40 }) (va_Pc [.int (iZ i), .int (iZ n)] (fun U => U.heap.size = sz ∧ SWa sa sv (va_A [] sz) U U.heap)) (va_Qv (fun (_ : Unit) => True) (fun _ _ => True) (va_A [] sz)) 0 0 (va_A [] sz) := by
  refine Met.ofW (cc := cJ0_checkIndex_df160) (maxL := 2) (ret := none) (by decide) rfl ?_
  intro p e s m args below meth c s₁ B hml hv
  obtain ⟨rfl, hsz, hSA⟩ := hv
  have hx := B.exec
  have hb := B.bytes
  have hr := B.returns
  have hts : ∀ w ∈ wA, w.before [.int (iZ i), .int (iZ n)].toArray s = true := fun w h => atoms_spec (ws := Cond.code yJ0_checkIndex_df160 cJ0_checkIndex_df160 2 none :: wA) B.pre w (List.mem_cons_of_mem _ h)
  have hown : s.vm.findClass RJ0 = some m.cls := findClass_of_methodNamed B.named
  have hlocks := B.notSynchronized
  subst hsz
  have hA : ∀ q : Nat, s.heap.size ≤ q → va_A [] s.heap.size q := fun q h => Or.inr h
  generalize hAe : va_A [] s.heap.size = A at hSA hA ⊢
  have hS : va_S A s.heap s.heap [] := va_S.rf
  have hD : va_D A [] := ⟨fun i j p q h => by simp at h, fun k q h => by simp at h⟩
  have hl := lv_entry ([.int (iZ i), .int (iZ n)]) (n := 2) (Nat.le_of_ble_eq_true rfl)
  rw [lg_entry_eq]
  generalize (lg_sl ([.int (iZ i), .int (iZ n)]) ++ List.replicate (2 - (lg_sl ([.int (iZ i), .int (iZ n)])).length) Slot.unset).toArray = ls at hl ⊢
  have hl : lv_has ls 2 [(0, .int (iZ i)), (1, .int (iZ n))] := hl
  refine lv_iload_n hx hb dJ0_checkIndex_df160_0 rfl (lv_at hl 0 rfl) ?_
  refine lv_iload_n hx hb dJ0_checkIndex_df160_1 rfl (lv_at hl 1 rfl) ?_
  rcases hSA.2.2.2.2.2.2.2.2 with hZ | ⟨fq, hZ⟩
  · refine va_gets hx hb hZ hS hown (va_Nw.use rfl hSA.2.1) (fun _ h9 => h9) dJ0_checkIndex_df160_2 ?_
    have hFc := va_free (wc := []) hD hS hA [] rfl
    refine va_calli (va_runS (As := [.int (iZ i), .int (iZ n), .null]) (rest := []) ⟨hx, hb, hml, hown, hts⟩ (s_ckN l dC dI sa sv i n s.heap.size h0 h1 h2) (va_cwS 3 hts (gS q_26 q_27 q_28 q_29) rfl rfl rfl mds_yJ3_checkIndex_8e157 ⟨Nat.le_of_ble_eq_true rfl, Nat.le_of_ble_eq_true rfl⟩) ⟨fun a U g mk q => by obtain ⟨q0, q1, qS⟩ := q; exact ⟨q0, q1, qS.same (u := U) (U := U.calling g mk a) rfl⟩, fun U hU hW => ⟨rfl, by rw [hU], by rw [hU]; exact ((hSA.kept hS.2.1).narrow hFc).warm hW⟩⟩ rfl rfl hl.1 rfl (lv_room (Nat.le_of_ble_eq_true rfl)) dJ0_checkIndex_df160_5 ⟨Nat.le_of_ble_eq_true rfl, Nat.le_of_ble_eq_true rfl⟩) hS (fun q _ h => hFc q h) hFc (fun r u t H locs ht hvm hw hB hz1 hk1 hS => ?_)
    refine lv_pop hx hb dJ0_checkIndex_df160_8 rfl ?_
    exact W.vret hx hb hr (fun t ht hW => ⟨⟨(), rfl, trivial, trivial⟩, hS.F ht⟩) hS.2.2 dJ0_checkIndex_df160_9
  · refine va_gets hx hb hZ hS hown (va_Nw.use rfl hSA.2.1) (fun _ h9 => h9) dJ0_checkIndex_df160_2 ?_
    have hFc := va_free (wc := []) hD hS hA [] rfl
    refine va_calli (va_runS (As := [.int (iZ i), .int (iZ n), .ref fq]) (rest := []) ⟨hx, hb, hml, hown, hts⟩ (s_ckR l dC dI sa sv i n fq s.heap.size h0 h1 h2) (va_cwS 3 hts (gS q_26 q_27 q_28 q_29) rfl rfl rfl mds_yJ3_checkIndex_8e157 ⟨Nat.le_of_ble_eq_true rfl, Nat.le_of_ble_eq_true rfl⟩) ⟨fun a U g mk q => by obtain ⟨q0, q1, qS⟩ := q; exact ⟨q0, q1, qS.same (u := U) (U := U.calling g mk a) rfl⟩, fun U hU hW => ⟨rfl, by rw [hU], by rw [hU]; exact ((hSA.kept hS.2.1).narrow hFc).warm hW⟩⟩ rfl rfl hl.1 rfl (lv_room (Nat.le_of_ble_eq_true rfl)) dJ0_checkIndex_df160_5 ⟨Nat.le_of_ble_eq_true rfl, Nat.le_of_ble_eq_true rfl⟩) hS (fun q _ h => hFc q h) hFc (fun r u t H locs ht hvm hw hB hz1 hk1 hS => ?_)
    refine lv_pop hx hb dJ0_checkIndex_df160_8 rfl ?_
    exact W.vret hx hb hr (fun t ht hW => ⟨⟨(), rfl, trivial, trivial⟩, hS.F ht⟩) hS.2.2 dJ0_checkIndex_df160_9
set_option maxHeartbeats 4000000 in
set_option maxRecDepth 100000 in
theorem s_charAt1 (l : Launch) (dC : Nat → ClassId) (dI : Nat → Nat → Nat) (sa sv : Nat) (i : Int) (sz : Nat) (h0 : 0 ≤ i) (h1 : i < 70) : Met l yJ1_charAt_3b067 (Cond.code yJ1_charAt_3b067 cJ1_charAt_3b067 2 (some .char) :: wA) ({ frames := 2, cells := 0, slots := 0, locals := 80 }) (va_Pc [.ref sv, .int (iZ i)] (fun U => U.heap.size = sz ∧ SWa sa sv (va_A [] sz) U U.heap)) (va_Qi (fun (r : Int32) (zR : Int) => r = iZ zR ∧ (zR = owZ i) ∧ (0 ≤ zR ∧ zR ≤ 255)) (fun _ _ => True) (va_A [] sz)) 0 0 (va_A [] sz) := by
  refine Met.ofW (cc := cJ1_charAt_3b067) (maxL := 2) (ret := (some .char)) (by decide) rfl ?_
  intro p e s m args below meth c s₁ B hml hv
  obtain ⟨rfl, hsz, hSA⟩ := hv
  have hx := B.exec
  have hb := B.bytes
  have hr := B.returns
  have hts : ∀ w ∈ wA, w.before [.ref sv, .int (iZ i)].toArray s = true := fun w h => atoms_spec (ws := Cond.code yJ1_charAt_3b067 cJ1_charAt_3b067 2 (some .char) :: wA) B.pre w (List.mem_cons_of_mem _ h)
  have hown : s.vm.findClass RJ1 = some m.cls := findClass_of_methodNamed B.named
  have hlocks := B.notSynchronized
  subst hsz
  have hA : ∀ q : Nat, s.heap.size ≤ q → va_A [] s.heap.size q := fun q h => Or.inr h
  generalize hAe : va_A [] s.heap.size = A at hSA hA ⊢
  have hS : va_S A s.heap s.heap [] := va_S.rf
  have hD : va_D A [] := ⟨fun i j p q h => by simp at h, fun k q h => by simp at h⟩
  have hl := lv_entry ([.ref sv, .int (iZ i)]) (n := 2) (Nat.le_of_ble_eq_true rfl)
  rw [lg_entry_eq]
  generalize (lg_sl ([.ref sv, .int (iZ i)]) ++ List.replicate (2 - (lg_sl ([.ref sv, .int (iZ i)])).length) Slot.unset).toArray = ls at hl ⊢
  have hl : lv_has ls 2 [(0, .ref sv), (1, .int (iZ i))] := hl
  refine lv_iload_n hx hb dJ1_charAt_3b067_0 rfl (lv_at hl 1 rfl) ?_
  refine lv_aload_n hx hb dJ1_charAt_3b067_1 rfl (lv_at hl 0 rfl) ?_
  refine va_tlen (v := iZ 70) hx hb hSA.2.2.2.2.2.2.1 hS (by decide) dJ1_charAt_3b067_2 ?_
  have hFc := va_free (wc := []) hD hS hA [] rfl
  refine va_callv (va_runS (As := [.int (iZ i), .int (iZ 70)]) (rest := []) ⟨hx, hb, hml, hown, hts⟩ (s_ck0 l dC dI sa sv i 70 s.heap.size h0 h1 (by omega)) (va_cwS 2 hts (gS q_36 q_37 q_14 q_25) rfl rfl rfl mds_yJ0_checkIndex_df160 ⟨Nat.le_of_ble_eq_true rfl, Nat.le_of_ble_eq_true rfl⟩) ⟨fun a U g mk q => by obtain ⟨q0, q1, qS⟩ := q; exact ⟨q0, q1, qS.same (u := U) (U := U.calling g mk a) rfl⟩, fun U hU hW => ⟨rfl, by rw [hU], by rw [hU]; exact ((hSA.kept hS.2.1).narrow hFc).warm hW⟩⟩ rfl rfl hl.1 rfl (lv_room (Nat.le_of_ble_eq_true rfl)) dJ1_charAt_3b067_3 ⟨Nat.le_of_ble_eq_true rfl, Nat.le_of_ble_eq_true rfl⟩) hS (fun q _ h => hFc q h) hFc (fun u t H locs ht hvm hw hB hz1 hk1 hS => ?_)
  refine lv_aload_n hx hb dJ1_charAt_3b067_6 rfl (lv_at hl 0 rfl) ?_
  refine lv_iload_n hx hb dJ1_charAt_3b067_7 rfl (lv_at hl 1 rfl) ?_
  refine va_tb (v := .int (owB.getD i.toNat 0)) hx hb hSA.2.2.2.2.2.2.1 hS (iZ_in h0 (by omega) (by omega)) (by rw [iZ_clamp h0 (by omega)]) dJ1_charAt_3b067_8 ?_
  refine lv_sipush (v := 255) hx hb dJ1_charAt_3b067_9 (by decide) ?_
  refine lv_iand hx hb dJ1_charAt_3b067_12 ?_
  refine lv_i2c (v := iZ (owZ i)) hx hb dJ1_charAt_3b067_13 (ow_at h0 h1).1 ?_
  have h9 := (ow_at h0 h1).2
  exact W.zret (v := iZ (owZ i)) hx hb hr (nar_c (by omega)) (fun t ht hW => ⟨⟨iZ (owZ i), owZ i, rfl, ⟨rfl, rfl, by omega⟩, trivial⟩, hS.F ht⟩) hS.2.2 dJ1_charAt_3b067_14
set_option maxHeartbeats 4000000 in
set_option maxRecDepth 100000 in
theorem s_charAt (l : Launch) (dC : Nat → ClassId) (dI : Nat → Nat → Nat) (sa sv : Nat) (i : Int) (sz : Nat) (h0 : 0 ≤ i) (h1 : i < 70) : Met l yJ0_charAt_5068e (Cond.code yJ0_charAt_5068e cJ0_charAt_5068e 2 (some .char) :: wA) ({ frames := 3, cells := 0, slots := 0, locals := 120 }) (va_Pc [.ref sa, .int (iZ i)] (fun U => U.heap.size = sz ∧ SWa sa sv (va_A [] sz) U U.heap)) (va_Qi (fun (r : Int32) (zR : Int) => r = iZ zR ∧ (zR = owZ i) ∧ (0 ≤ zR ∧ zR ≤ 255)) (fun _ _ => True) (va_A [] sz)) 0 0 (va_A [] sz) := by
  refine Met.ofW (cc := cJ0_charAt_5068e) (maxL := 2) (ret := (some .char)) (by decide) rfl ?_
  intro p e s m args below meth c s₁ B hml hv
  obtain ⟨rfl, hsz, hSA⟩ := hv
  have hx := B.exec
  have hb := B.bytes
  have hr := B.returns
  have hts : ∀ w ∈ wA, w.before [.ref sa, .int (iZ i)].toArray s = true := fun w h => atoms_spec (ws := Cond.code yJ0_charAt_5068e cJ0_charAt_5068e 2 (some .char) :: wA) B.pre w (List.mem_cons_of_mem _ h)
  have hown : s.vm.findClass RJ0 = some m.cls := findClass_of_methodNamed B.named
  have hlocks := B.notSynchronized
  subst hsz
  have hA : ∀ q : Nat, s.heap.size ≤ q → va_A [] s.heap.size q := fun q h => Or.inr h
  generalize hAe : va_A [] s.heap.size = A at hSA hA ⊢
  have hS : va_S A s.heap s.heap [] := va_S.rf
  have hD : va_D A [] := ⟨fun i j p q h => by simp at h, fun k q h => by simp at h⟩
  have hl := lv_entry ([.ref sa, .int (iZ i)]) (n := 2) (Nat.le_of_ble_eq_true rfl)
  rw [lg_entry_eq]
  generalize (lg_sl ([.ref sa, .int (iZ i)]) ++ List.replicate (2 - (lg_sl ([.ref sa, .int (iZ i)])).length) Slot.unset).toArray = ls at hl ⊢
  have hl : lv_has ls 2 [(0, .ref sa), (1, .int (iZ i))] := hl
  refine lv_aload_n hx hb dJ0_charAt_5068e_0 rfl (lv_at hl 0 rfl) ?_
  have hFc := va_free (wc := []) hD hS hA [] rfl
  refine va_calli (va_runV (As := []) (rest := []) ⟨hx, hb, hml, hown, hts⟩ (s_isLatin1 l dC dI sa sv s.heap.size) (cwV 0 hts (gV q_11 q_12 q_13 q_14 q_15) rfl rfl rfl mdv_yJ0_isLatin1_aae02 ⟨Nat.le_of_ble_eq_true rfl, Nat.le_of_ble_eq_true rfl⟩) ⟨fun a U g mk q => by obtain ⟨q0, q1, qS⟩ := q; exact ⟨q0, q1, qS.same (u := U) (U := U.calling g mk a) rfl⟩, hSA.recv hS, fun U hU hW => ⟨rfl, by rw [hU], by rw [hU]; exact ((hSA.kept hS.2.1).narrow hFc).warm hW⟩⟩ rfl rfl hl.1 rfl (lv_room (Nat.le_of_ble_eq_true rfl)) dJ0_charAt_5068e_1 ⟨Nat.le_of_ble_eq_true rfl, Nat.le_of_ble_eq_true rfl⟩) hS (fun q _ h => hFc q h) hFc (fun r u t H locs ht hvm hw hB hz1 hk1 hS => ?_)
  obtain rfl : r = 1 := hw
  refine lv_if_eq (tgt := 16) hx hb dJ0_charAt_5068e_4 (by decide) (fun h => absurd h (by decide)) (fun _ => ?_)
  refine lv_aload_n hx hb dJ0_charAt_5068e_7 rfl (lv_at hl 0 rfl) ?_
  refine vk_getf hx hb hSA.2.2.2.2.2.1 hS hown (hts _ q_16) (fun _ h9 => h9) dJ0_charAt_5068e_8 ?_
  refine lv_iload_n hx hb dJ0_charAt_5068e_11 rfl (lv_at hl 1 rfl) ?_
  have hFc := va_free (wc := []) hD hS hA [] rfl
  refine va_calli (va_runS (As := [.ref sv, .int (iZ i)]) (rest := []) ⟨hx, hb, hml, hown, hts⟩ (s_charAt1 l dC dI sa sv i H.size h0 h1) (va_cwS 2 hts (gS q_17 q_18 q_19 q_20) rfl rfl rfl mds_yJ1_charAt_3b067 ⟨Nat.le_of_ble_eq_true rfl, Nat.le_of_ble_eq_true rfl⟩) ⟨fun a U g mk q => by obtain ⟨q0, q1, qS⟩ := q; exact ⟨q0, q1, qS.same (u := U) (U := U.calling g mk a) rfl⟩, fun U hU hW => ⟨rfl, by rw [hU], by rw [hU]; exact ((hSA.kept hS.2.1).narrow hFc).warm hW⟩⟩ rfl rfl hl.1 rfl (lv_room (Nat.le_of_ble_eq_true rfl)) dJ0_charAt_5068e_12 ⟨Nat.le_of_ble_eq_true rfl, Nat.le_of_ble_eq_true rfl⟩) hS (fun q _ h => hFc q h) hFc (fun r u t H locs ht hvm hw hB hz1 hk1 hS => ?_)
  obtain ⟨rfl, rfl, -⟩ := hw
  have h9 := (ow_at h0 h1).2
  exact W.zret (v := iZ (owZ i)) hx hb hr (nar_c (by omega)) (fun t ht hW => ⟨⟨iZ (owZ i), owZ i, rfl, ⟨rfl, rfl, by omega⟩, trivial⟩, hS.F ht⟩) hS.2.2 dJ0_charAt_5068e_15
set_option maxHeartbeats 4000000 in
set_option maxRecDepth 100000 in
theorem z_X10_whichOwnWord (l : Launch) (dC : Nat → ClassId) (dI : Nat → Nat → Nat) (a_t : Nat) (q_t_bytes : Nat) (t_length : Int) (t_at : Int) (t_tokenAt : Int) (t_tokenEnd : Int) (t_own : Int) (t_name : Int64) (t_number : Int) (t_fault : Int) (t_place : Int) (k_t_bytes : ClassId) (g_t_bytes : Nat → Int) (sz : Nat) (hb_g_t_bytes : ∀ j : Nat, j < 1600 → 0 ≤ g_t_bytes j ∧ g_t_bytes j ≤ 255) (b_t_length : 0 ≤ t_length ∧ t_length ≤ 1600) (b_t_at : 0 ≤ t_at ∧ t_at ≤ 1600) (b_t_tokenAt : 0 ≤ t_tokenAt ∧ t_tokenAt ≤ 1599) (b_t_tokenEnd : -1 ≤ t_tokenEnd ∧ t_tokenEnd ≤ 1600) (b_t_own : -1 ≤ t_own ∧ t_own ≤ 13) (b_t_number : 0 ≤ t_number ∧ t_number ≤ 999) (b_t_fault : -2147483648 ≤ t_fault ∧ t_fault ≤ 2147483647) (b_t_place : -2147483648 ≤ t_place ∧ t_place ≤ 2147483647) (hp38831 : t_tokenAt ≤ t_tokenEnd) : Met l yX10_whichOwnWord (Cond.code yX10_whichOwnWord cX10_whichOwnWord 7 (some .int) :: wA) ({ frames := 4, cells := 0, slots := 0, locals := 141 }) (va_Pc [.ref a_t] (fun U => U.heap.size = sz ∧ va_P (dC, dI) vwCl (wk_0 a_t q_t_bytes t_length t_at t_tokenAt t_tokenEnd t_own t_name t_number t_fault t_place q_t_bytes k_t_bytes g_t_bytes) U.heap ∧ va_K (dC, dI) vwCl [(k_t_bytes, .int)] U ∧ va_D (fun _ => True) (wk_0 a_t q_t_bytes t_length t_at t_tokenAt t_tokenEnd t_own t_name t_number t_fault t_place q_t_bytes k_t_bytes g_t_bytes) ∧ nwAll U ∧ SWs (va_A (wk_0 a_t q_t_bytes t_length t_at t_tokenAt t_tokenEnd t_own t_name t_number t_fault t_place q_t_bytes k_t_bytes g_t_bytes) sz) U U.heap)) (va_Qi (fun (r : Int32) (zR : Int) => r = iZ zR ∧ (-1 ≤ zR ∧ zR ≤ 13)) (fun zR t => va_P (dC, dI) vwCl (wk_0 a_t q_t_bytes t_length t_at t_tokenAt t_tokenEnd t_own t_name t_number t_fault t_place q_t_bytes k_t_bytes g_t_bytes) t.heap ∧ va_K (dC, dI) vwCl [(k_t_bytes, .int)] t ∧ va_D (va_A (wk_0 a_t q_t_bytes t_length t_at t_tokenAt t_tokenEnd t_own t_name t_number t_fault t_place q_t_bytes k_t_bytes g_t_bytes) sz) (wk_0 a_t q_t_bytes t_length t_at t_tokenAt t_tokenEnd t_own t_name t_number t_fault t_place q_t_bytes k_t_bytes g_t_bytes)) (va_A (wk_0 a_t q_t_bytes t_length t_at t_tokenAt t_tokenEnd t_own t_name t_number t_fault t_place q_t_bytes k_t_bytes g_t_bytes) sz)) 0 0 (va_A (wk_0 a_t q_t_bytes t_length t_at t_tokenAt t_tokenEnd t_own t_name t_number t_fault t_place q_t_bytes k_t_bytes g_t_bytes) sz) := by
  refine Met.ofW (cc := cX10_whichOwnWord) (maxL := 7) (ret := (some .int)) (by decide) rfl ?_
  intro p e s m args below meth c s₁ B hml hv
  obtain ⟨rfl, hsz, hP, hK, hD0, hN, hSW⟩ := hv
  have hx := B.exec
  have hb := B.bytes
  have hr := B.returns
  have hts : ∀ w ∈ wA, w.before [.ref a_t].toArray s = true := fun w h => atoms_spec (ws := Cond.code yX10_whichOwnWord cX10_whichOwnWord 7 (some .int) :: wA) B.pre w (List.mem_cons_of_mem _ h)
  have hown : s.vm.findClass RX10 = some m.cls := findClass_of_methodNamed B.named
  have hlocks := B.notSynchronized
  subst hsz
  have hD := hD0.self (sz := s.heap.size)
  generalize hQ : MQ below (va_Qi (fun (r : Int32) (zR : Int) => r = iZ zR ∧ (-1 ≤ zR ∧ zR ≤ 13)) (fun zR t => va_P (dC, dI) vwCl (wk_0 a_t q_t_bytes t_length t_at t_tokenAt t_tokenEnd t_own t_name t_number t_fault t_place q_t_bytes k_t_bytes g_t_bytes) t.heap ∧ va_K (dC, dI) vwCl [(k_t_bytes, .int)] t ∧ va_D (va_A (wk_0 a_t q_t_bytes t_length t_at t_tokenAt t_tokenEnd t_own t_name t_number t_fault t_place q_t_bytes k_t_bytes g_t_bytes) s.heap.size) (wk_0 a_t q_t_bytes t_length t_at t_tokenAt t_tokenEnd t_own t_name t_number t_fault t_place q_t_bytes k_t_bytes g_t_bytes)) (va_A (wk_0 a_t q_t_bytes t_length t_at t_tokenAt t_tokenEnd t_own t_name t_number t_fault t_place q_t_bytes k_t_bytes g_t_bytes) s.heap.size)) [.ref a_t].toArray s 0 0 (va_A (wk_0 a_t q_t_bytes t_length t_at t_tokenAt t_tokenEnd t_own t_name t_number t_fault t_place q_t_bytes k_t_bytes g_t_bytes) s.heap.size) = Q
  have hA : ∀ q : Nat, s.heap.size ≤ q → va_A (wk_0 a_t q_t_bytes t_length t_at t_tokenAt t_tokenEnd t_own t_name t_number t_fault t_place q_t_bytes k_t_bytes g_t_bytes) s.heap.size q := fun q h => Or.inr h
  generalize hAe : va_A (wk_0 a_t q_t_bytes t_length t_at t_tokenAt t_tokenEnd t_own t_name t_number t_fault t_place q_t_bytes k_t_bytes g_t_bytes) s.heap.size = A at hD hA hQ hSW
  have hS : va_S A s.heap s.heap [] := va_S.rf
  obtain ⟨sa, sv, hSA⟩ := id hSW
  have hl := lv_entry ([.ref a_t]) (n := 7) (Nat.le_of_ble_eq_true rfl)
  rw [lg_entry_eq]
  generalize (lg_sl ([.ref a_t]) ++ List.replicate (7 - (lg_sl ([.ref a_t])).length) Slot.unset).toArray = ls at hl ⊢
  have hl : lv_has ls 7 [(0, .ref a_t)] := hl
  refine lv_aload_n hx hb dX10_whichOwnWord_0 rfl (lv_at hl 0 rfl) ?_
  refine va_get (D := (dC, dI)) (ci := 10) (v := .int (iZ t_tokenEnd)) (C := RX10) (T := TX10) (N := 10) hx hb hts i_X10 hown hK hP 0 rfl rfl 4 (by decide) (hts _ q_124) (fun _ h9 => h9) rfl dX10_whichOwnWord_1 ?_
  refine lv_aload_n hx hb dX10_whichOwnWord_4 rfl (lv_at hl 0 rfl) ?_
  refine va_get (D := (dC, dI)) (ci := 10) (v := .int (iZ t_tokenAt)) (C := RX10) (T := TX10) (N := 10) hx hb hts i_X10 hown hK hP 0 rfl rfl 3 (by decide) (hts _ q_123) (fun _ h9 => h9) rfl dX10_whichOwnWord_5 ?_
  refine zv_isub hx hb (-t_tokenAt + t_tokenEnd) (by omega) dX10_whichOwnWord_8 ?_
  refine lv_istore_n (lv' := [(1, .int (iZ (-t_tokenAt + t_tokenEnd))), (0, .ref a_t)]) hx hb dX10_whichOwnWord_9 rfl hl (by decide) rfl (fun ls hl => ?_)
  refine lv_iconst (v := iZ 0) hx hb dX10_whichOwnWord_10 (by decide) ?_
  refine lv_istore_n (lv' := [(2, .int (iZ 0)), (1, .int (iZ (-t_tokenAt + t_tokenEnd))), (0, .ref a_t)]) hx hb dX10_whichOwnWord_11 rfl hl (by decide) rfl (fun ls hl => ?_)
  refine lv_iconst (v := iZ 0) hx hb dX10_whichOwnWord_12 (by decide) ?_
  refine lv_istore_n (lv' := [(3, .int (iZ 0)), (2, .int (iZ 0)), (1, .int (iZ (-t_tokenAt + t_tokenEnd))), (0, .ref a_t)]) hx hb dX10_whichOwnWord_13 rfl hl (by decide) rfl (fun ls hl => ?_)
  refine lv_iconst (v := iZ 1) hx hb dX10_whichOwnWord_14 (by decide) ?_
  refine lv_istore (lv' := [(4, .int (iZ 1)), (3, .int (iZ 0)), (2, .int (iZ 0)), (1, .int (iZ (-t_tokenAt + t_tokenEnd))), (0, .ref a_t)]) hx hb dX10_whichOwnWord_15 hl (by decide) rfl (fun ls hl => ?_)
  refine lv_iconst (v := iZ 0) hx hb dX10_whichOwnWord_17 (by decide) ?_
  refine lv_istore (lv' := [(5, .int (iZ 0)), (4, .int (iZ 1)), (3, .int (iZ 0)), (2, .int (iZ 0)), (1, .int (iZ (-t_tokenAt + t_tokenEnd))), (0, .ref a_t)]) hx hb dX10_whichOwnWord_18 hl (by decide) rfl (fun ls hl => ?_)
  have hG38992 : OwI 0 0 := OwI_init
  have lp_20 : ∀ (N20 : Nat) (H : Heap) (locs : List Loc) (ls : Array Slot) (i39010 : Int) (i39011 : Int) (i39012 : Int) (i39013 : Int), 0 ≤ i39010 → 0 ≤ -i39010 + 31 → 0 ≤ -i39012 + 1 → 0 ≤ i39012 → 0 ≤ -i39013 + 255 → 0 ≤ i39011 + i39012 - 1 → 0 ≤ -i39010 + i39013 → 0 ≤ -i39011 + i39013 → OwI i39013 i39010 → -i39013 + 2147483647 ≤ (N20 : Int) → va_P (dC, dI) vwCl (wk_0 a_t q_t_bytes t_length t_at t_tokenAt t_tokenEnd t_own t_name t_number t_fault t_place q_t_bytes k_t_bytes g_t_bytes) H → va_D A (wk_0 a_t q_t_bytes t_length t_at t_tokenAt t_tokenEnd t_own t_name t_number t_fault t_place q_t_bytes k_t_bytes g_t_bytes) → va_S A s.heap H locs → lv_has ls 7 [(0, .ref a_t), (1, .int (iZ (-t_tokenAt + t_tokenEnd))), (2, .int (iZ i39010)), (3, .int (iZ i39011)), (4, .int (iZ i39012)), (5, .int (iZ i39013))] → W p l e (headSpec (Cond.code yX10_whichOwnWord cX10_whichOwnWord 7 (some .int) :: wA) ({ frames := 4, cells := 0, slots := 0, locals := 141 })).room s m [.ref a_t].toArray below meth c H locs 0 0 Q (F0 m 20 ls []) := by
    intro N20
    induction N20 using Nat.strongRecOn with
    | ind N20 ih_20 =>
      intro H locs ls i39010 i39011 i39012 i39013 k20_0 k20_1 k20_2 k20_3 k20_4 k20_5 k20_6 k20_7 hL20_0 hm20 hP hD hS hl
      refine lv_iload hx hb dX10_whichOwnWord_20 (lv_at hl 5 rfl) ?_
      refine va_ldcS hx hb hown hSA.2.2.1 dX10_whichOwnWord_22 ?_
      have hPc := hP.sub (ws' := []) [] rfl
      have hDc := hD.sub (ws' := []) [] (by decide) rfl
      have hKc := hK.sub (tys' := []) [] rfl
      have hFc := va_free (wc := []) hD hS hA [] rfl
      refine va_calli (va_runV (As := []) (rest := [.int (iZ i39013)]) ⟨hx, hb, hml, hown, hts⟩ (s_length l dC dI sa sv H.size) (cwV 0 hts (gV q_157 q_158 q_159 q_14 q_32) rfl rfl rfl mdv_yJ0_length_8abf5 ⟨Nat.le_of_ble_eq_true rfl, Nat.le_of_ble_eq_true rfl⟩) ⟨fun a U g mk q => by obtain ⟨q0, q1, qS⟩ := q; exact ⟨q0, q1, qS.same (u := U) (U := U.calling g mk a) rfl⟩, hSA.recv hS, fun U hU hW => ⟨rfl, by rw [hU], by rw [hU]; exact ((hSA.kept hS.2.1).narrow hFc).warm hW⟩⟩ rfl rfl hl.1 rfl (lv_room (Nat.le_of_ble_eq_true rfl)) dX10_whichOwnWord_24 ⟨Nat.le_of_ble_eq_true rfl, Nat.le_of_ble_eq_true rfl⟩) hS (fun q _ h => hFc q h) hFc (fun r39135 z39136 t H1 locs ht hvm hw hB hz1 hk1 hS => ?_)
      obtain ⟨rfl, h39137⟩ := hw
      have hP1 : va_P (dC, dI) vwCl [] H1 := fun k q h => by simp at h
      have hD1 : va_D (va_A [] H.size) [] := ⟨fun i j p q h => by simp at h, fun k q h => by simp at h⟩
      obtain ⟨hP, hD⟩ := va_join (wr := (wk_0 a_t q_t_bytes t_length t_at t_tokenAt t_tokenEnd t_own t_name t_number t_fault t_place q_t_bytes k_t_bytes g_t_bytes)) (w1 := []) hP hD [] [0, 1] rfl rfl (by decide) (by decide) hk1 hFc hP1 hD1
      generalize H1 = H at hP hS ⊢
      have hP : va_P (dC, dI) vwCl (wk_0 a_t q_t_bytes t_length t_at t_tokenAt t_tokenEnd t_own t_name t_number t_fault t_place q_t_bytes k_t_bytes g_t_bytes) H := hP
      have hD : va_D A (wk_0 a_t q_t_bytes t_length t_at t_tokenAt t_tokenEnd t_own t_name t_number t_fault t_place q_t_bytes k_t_bytes g_t_bytes) := hD
      refine zv_icmp_ge (tgt := 111) hx hb dX10_whichOwnWord_27 (by decide) (by omega) (by omega) (fun c39138 => ?_) (fun c39138 => ?_)
      · refine lv_iconst (v := iZ (-1)) hx hb dX10_whichOwnWord_111 (by decide) ?_
        subst hQ
        exact W.iret (v := iZ (-1)) hx hb hr (fun t ht hW => ⟨⟨iZ (-1), (-1), rfl, ⟨rfl, by omega⟩, by rw [ht]; exact hP, va_K.moved hW.alike hK, hD⟩, hS.F ht⟩) hS.2.2 dX10_whichOwnWord_112
      · refine va_ldcS hx hb hown hSA.2.2.1 dX10_whichOwnWord_30 ?_
        refine lv_iload hx hb dX10_whichOwnWord_32 (lv_at hl 5 rfl) ?_
        have hPc := hP.sub (ws' := []) [] rfl
        have hDc := hD.sub (ws' := []) [] (by decide) rfl
        have hKc := hK.sub (tys' := []) [] rfl
        have hFc := va_free (wc := []) hD hS hA [] rfl
        refine va_calli (va_runV (As := [.int (iZ i39013)]) (rest := []) ⟨hx, hb, hml, hown, hts⟩ (s_charAt l dC dI sa sv i39013 H.size (by omega) (by omega)) (cwV 1 hts (gV q_160 q_161 q_162 q_14 q_10) rfl rfl rfl mdv_yJ0_charAt_5068e ⟨Nat.le_of_ble_eq_true rfl, Nat.le_of_ble_eq_true rfl⟩) ⟨fun a U g mk q => by obtain ⟨q0, q1, qS⟩ := q; exact ⟨q0, q1, qS.same (u := U) (U := U.calling g mk a) rfl⟩, hSA.recv hS, fun U hU hW => ⟨rfl, by rw [hU], by rw [hU]; exact ((hSA.kept hS.2.1).narrow hFc).warm hW⟩⟩ rfl rfl hl.1 rfl (lv_room (Nat.le_of_ble_eq_true rfl)) dX10_whichOwnWord_34 ⟨Nat.le_of_ble_eq_true rfl, Nat.le_of_ble_eq_true rfl⟩) hS (fun q _ h => hFc q h) hFc (fun r39139 z39140 t H1 locs ht hvm hw hB hz1 hk1 hS => ?_)
        obtain ⟨rfl, h39141, h39142⟩ := hw
        have hP1 : va_P (dC, dI) vwCl [] H1 := fun k q h => by simp at h
        have hD1 : va_D (va_A [] H.size) [] := ⟨fun i j p q h => by simp at h, fun k q h => by simp at h⟩
        obtain ⟨hP, hD⟩ := va_join (wr := (wk_0 a_t q_t_bytes t_length t_at t_tokenAt t_tokenEnd t_own t_name t_number t_fault t_place q_t_bytes k_t_bytes g_t_bytes)) (w1 := []) hP hD [] [0, 1] rfl rfl (by decide) (by decide) hk1 hFc hP1 hD1
        generalize H1 = H at hP hS ⊢
        have hP : va_P (dC, dI) vwCl (wk_0 a_t q_t_bytes t_length t_at t_tokenAt t_tokenEnd t_own t_name t_number t_fault t_place q_t_bytes k_t_bytes g_t_bytes) H := hP
        have hD : va_D A (wk_0 a_t q_t_bytes t_length t_at t_tokenAt t_tokenEnd t_own t_name t_number t_fault t_place q_t_bytes k_t_bytes g_t_bytes) := hD
        refine lv_istore (lv' := [(6, .int (iZ z39140)), (0, .ref a_t), (1, .int (iZ (-t_tokenAt + t_tokenEnd))), (2, .int (iZ i39010)), (3, .int (iZ i39011)), (4, .int (iZ i39012)), (5, .int (iZ i39013))]) hx hb dX10_whichOwnWord_37 hl (by decide) rfl (fun ls hl => ?_)
        refine lv_iload hx hb dX10_whichOwnWord_39 (lv_at hl 0 rfl) ?_
        refine lv_bipush (v := iZ 32) hx hb dX10_whichOwnWord_41 (by decide) ?_
        refine zv_icmp_ne (tgt := 69) hx hb dX10_whichOwnWord_43 (by decide) (by omega) (by omega) (fun c39143 => ?_) (fun c39143 => ?_)
        · have hq39144 := OwI_no hL20_0 (by omega) h39141 (by omega)
          refine lv_iload hx hb dX10_whichOwnWord_69 (lv_at hl 5 rfl) ?_
          refine zv_if_eq (tgt := 99) hx hb dX10_whichOwnWord_71 (by decide) (by omega) (fun c39145 => ?_) (fun c39145 => ?_)
          · refine lv_iconst (v := iZ 0) hx hb dX10_whichOwnWord_99 (by decide) ?_
            refine lv_istore (lv' := [(4, .int (iZ 0)), (6, .int (iZ z39140)), (0, .ref a_t), (1, .int (iZ (-t_tokenAt + t_tokenEnd))), (2, .int (iZ i39010)), (3, .int (iZ i39011)), (5, .int (iZ i39013))]) hx hb dX10_whichOwnWord_100 hl (by decide) rfl (fun ls hl => ?_)
            refine lv_iinc (v := iZ (i39011 + 1)) (lv' := [(3, .int (iZ (i39011 + 1))), (4, .int (iZ 0)), (6, .int (iZ z39140)), (0, .ref a_t), (1, .int (iZ (-t_tokenAt + t_tokenEnd))), (2, .int (iZ i39010)), (5, .int (iZ i39013))]) hx hb dX10_whichOwnWord_102 hl (k := 5) rfl (iZ_inc (by omega)) (by decide) rfl (fun ls hl => ?_)
            refine lv_iinc (v := iZ (i39013 + 1)) (lv' := [(5, .int (iZ (i39013 + 1))), (3, .int (iZ (i39011 + 1))), (4, .int (iZ 0)), (6, .int (iZ z39140)), (0, .ref a_t), (1, .int (iZ (-t_tokenAt + t_tokenEnd))), (2, .int (iZ i39010))]) hx hb dX10_whichOwnWord_105 hl (k := 6) rfl (iZ_inc (by omega)) (by decide) rfl (fun ls hl => ?_)
            refine lv_goto (tgt := 20) hx hb dX10_whichOwnWord_108 (by decide) ?_
            exact ih_20 (N20 - 1) (by omega) _ _ _ i39010 (i39011 + 1) 0 (i39013 + 1) (by omega) (by omega) (by omega) (by omega) (by omega) (by omega) (by omega) (by omega) hq39144 (by omega) hP hD hS (lv_sub hl [4, 5, 6, 1, 2, 0] rfl)
          · refine lv_iload_n hx hb dX10_whichOwnWord_74 rfl (lv_at hl 4 rfl) ?_
            refine lv_iload_n hx hb dX10_whichOwnWord_75 rfl (lv_at hl 2 rfl) ?_
            refine zv_icmp_ge (tgt := 99) hx hb dX10_whichOwnWord_76 (by decide) (by omega) (by omega) (fun c39146 => ?_) (fun c39146 => ?_)
            · refine lv_iconst (v := iZ 0) hx hb dX10_whichOwnWord_99 (by decide) ?_
              refine lv_istore (lv' := [(4, .int (iZ 0)), (6, .int (iZ z39140)), (0, .ref a_t), (1, .int (iZ (-t_tokenAt + t_tokenEnd))), (2, .int (iZ i39010)), (3, .int (iZ i39011)), (5, .int (iZ i39013))]) hx hb dX10_whichOwnWord_100 hl (by decide) rfl (fun ls hl => ?_)
              refine lv_iinc (v := iZ (i39011 + 1)) (lv' := [(3, .int (iZ (i39011 + 1))), (4, .int (iZ 0)), (6, .int (iZ z39140)), (0, .ref a_t), (1, .int (iZ (-t_tokenAt + t_tokenEnd))), (2, .int (iZ i39010)), (5, .int (iZ i39013))]) hx hb dX10_whichOwnWord_102 hl (k := 5) rfl (iZ_inc (by omega)) (by decide) rfl (fun ls hl => ?_)
              refine lv_iinc (v := iZ (i39013 + 1)) (lv' := [(5, .int (iZ (i39013 + 1))), (3, .int (iZ (i39011 + 1))), (4, .int (iZ 0)), (6, .int (iZ z39140)), (0, .ref a_t), (1, .int (iZ (-t_tokenAt + t_tokenEnd))), (2, .int (iZ i39010))]) hx hb dX10_whichOwnWord_105 hl (k := 6) rfl (iZ_inc (by omega)) (by decide) rfl (fun ls hl => ?_)
              refine lv_goto (tgt := 20) hx hb dX10_whichOwnWord_108 (by decide) ?_
              exact ih_20 (N20 - 1) (by omega) _ _ _ i39010 (i39011 + 1) 0 (i39013 + 1) (by omega) (by omega) (by omega) (by omega) (by omega) (by omega) (by omega) (by omega) hq39144 (by omega) hP hD hS (lv_sub hl [4, 5, 6, 1, 2, 0] rfl)
            · refine lv_aload_n hx hb dX10_whichOwnWord_79 rfl (lv_at hl 1 rfl) ?_
              refine va_get (D := (dC, dI)) (ci := 10) (v := .ref q_t_bytes) (C := RX10) (T := TX10) (N := 10) hx hb hts i_X10 hown hK hP 0 rfl rfl 0 (by decide) (hts _ q_118) (fun _ h9 => h9) rfl dX10_whichOwnWord_80 ?_
              refine lv_aload_n hx hb dX10_whichOwnWord_83 rfl (lv_at hl 1 rfl) ?_
              refine va_get (D := (dC, dI)) (ci := 10) (v := .int (iZ t_tokenAt)) (C := RX10) (T := TX10) (N := 10) hx hb hts i_X10 hown hK hP 0 rfl rfl 3 (by decide) (hts _ q_123) (fun _ h9 => h9) rfl dX10_whichOwnWord_84 ?_
              refine lv_iload_n hx hb dX10_whichOwnWord_87 rfl (lv_at hl 4 rfl) ?_
              refine zv_iadd hx hb (i39011 + t_tokenAt) (by omega) dX10_whichOwnWord_88 ?_
              refine zv_iald hx hb hK hP 1 0 rfl rfl (by omega) (by omega) (by omega) dX10_whichOwnWord_89 (fun z39147 ez39147 => ?_)
              have bz39147 : 0 ≤ z39147 ∧ z39147 ≤ 255 := by rw [ez39147]; exact hb_g_t_bytes _ (by omega)
              refine lv_iload hx hb dX10_whichOwnWord_90 (lv_at hl 0 rfl) ?_
              refine zv_icmp_ne (tgt := 99) hx hb dX10_whichOwnWord_92 (by decide) (by omega) (by omega) (fun c39148 => ?_) (fun c39148 => ?_)
              · refine lv_iconst (v := iZ 0) hx hb dX10_whichOwnWord_99 (by decide) ?_
                refine lv_istore (lv' := [(4, .int (iZ 0)), (6, .int (iZ z39140)), (0, .ref a_t), (1, .int (iZ (-t_tokenAt + t_tokenEnd))), (2, .int (iZ i39010)), (3, .int (iZ i39011)), (5, .int (iZ i39013))]) hx hb dX10_whichOwnWord_100 hl (by decide) rfl (fun ls hl => ?_)
                refine lv_iinc (v := iZ (i39011 + 1)) (lv' := [(3, .int (iZ (i39011 + 1))), (4, .int (iZ 0)), (6, .int (iZ z39140)), (0, .ref a_t), (1, .int (iZ (-t_tokenAt + t_tokenEnd))), (2, .int (iZ i39010)), (5, .int (iZ i39013))]) hx hb dX10_whichOwnWord_102 hl (k := 5) rfl (iZ_inc (by omega)) (by decide) rfl (fun ls hl => ?_)
                refine lv_iinc (v := iZ (i39013 + 1)) (lv' := [(5, .int (iZ (i39013 + 1))), (3, .int (iZ (i39011 + 1))), (4, .int (iZ 0)), (6, .int (iZ z39140)), (0, .ref a_t), (1, .int (iZ (-t_tokenAt + t_tokenEnd))), (2, .int (iZ i39010))]) hx hb dX10_whichOwnWord_105 hl (k := 6) rfl (iZ_inc (by omega)) (by decide) rfl (fun ls hl => ?_)
                refine lv_goto (tgt := 20) hx hb dX10_whichOwnWord_108 (by decide) ?_
                exact ih_20 (N20 - 1) (by omega) _ _ _ i39010 (i39011 + 1) 0 (i39013 + 1) (by omega) (by omega) (by omega) (by omega) (by omega) (by omega) (by omega) (by omega) hq39144 (by omega) hP hD hS (lv_sub hl [4, 5, 6, 1, 2, 0] rfl)
              · refine lv_iconst (v := iZ 1) hx hb dX10_whichOwnWord_95 (by decide) ?_
                refine lv_goto (tgt := 100) hx hb dX10_whichOwnWord_96 (by decide) ?_
                refine lv_istore (lv' := [(4, .int (iZ 1)), (6, .int (iZ z39140)), (0, .ref a_t), (1, .int (iZ (-t_tokenAt + t_tokenEnd))), (2, .int (iZ i39010)), (3, .int (iZ i39011)), (5, .int (iZ i39013))]) hx hb dX10_whichOwnWord_100 hl (by decide) rfl (fun ls hl => ?_)
                refine lv_iinc (v := iZ (i39011 + 1)) (lv' := [(3, .int (iZ (i39011 + 1))), (4, .int (iZ 1)), (6, .int (iZ z39140)), (0, .ref a_t), (1, .int (iZ (-t_tokenAt + t_tokenEnd))), (2, .int (iZ i39010)), (5, .int (iZ i39013))]) hx hb dX10_whichOwnWord_102 hl (k := 5) rfl (iZ_inc (by omega)) (by decide) rfl (fun ls hl => ?_)
                refine lv_iinc (v := iZ (i39013 + 1)) (lv' := [(5, .int (iZ (i39013 + 1))), (3, .int (iZ (i39011 + 1))), (4, .int (iZ 1)), (6, .int (iZ z39140)), (0, .ref a_t), (1, .int (iZ (-t_tokenAt + t_tokenEnd))), (2, .int (iZ i39010))]) hx hb dX10_whichOwnWord_105 hl (k := 6) rfl (iZ_inc (by omega)) (by decide) rfl (fun ls hl => ?_)
                refine lv_goto (tgt := 20) hx hb dX10_whichOwnWord_108 (by decide) ?_
                exact ih_20 (N20 - 1) (by omega) _ _ _ i39010 (i39011 + 1) 1 (i39013 + 1) (by omega) (by omega) (by omega) (by omega) (by omega) (by omega) (by omega) (by omega) hq39144 (by omega) hP hD hS (lv_sub hl [4, 5, 6, 1, 2, 0] rfl)
        · have hq39149 := OwI_sp hL20_0 (by omega) h39141 (by omega)
          have hq39149a := hq39149.1
          refine lv_iload hx hb dX10_whichOwnWord_46 (lv_at hl 5 rfl) ?_
          refine zv_if_eq (tgt := 58) hx hb dX10_whichOwnWord_48 (by decide) (by omega) (fun c39150 => ?_) (fun c39150 => ?_)
          · refine lv_iinc (v := iZ (i39010 + 1)) (lv' := [(2, .int (iZ (i39010 + 1))), (6, .int (iZ z39140)), (0, .ref a_t), (1, .int (iZ (-t_tokenAt + t_tokenEnd))), (3, .int (iZ i39011)), (4, .int (iZ i39012)), (5, .int (iZ i39013))]) hx hb dX10_whichOwnWord_58 hl (k := 3) rfl (iZ_inc (by omega)) (by decide) rfl (fun ls hl => ?_)
            refine lv_iconst (v := iZ 0) hx hb dX10_whichOwnWord_61 (by decide) ?_
            refine lv_istore_n (lv' := [(3, .int (iZ 0)), (2, .int (iZ (i39010 + 1))), (6, .int (iZ z39140)), (0, .ref a_t), (1, .int (iZ (-t_tokenAt + t_tokenEnd))), (4, .int (iZ i39012)), (5, .int (iZ i39013))]) hx hb dX10_whichOwnWord_62 rfl hl (by decide) rfl (fun ls hl => ?_)
            refine lv_iconst (v := iZ 1) hx hb dX10_whichOwnWord_63 (by decide) ?_
            refine lv_istore (lv' := [(4, .int (iZ 1)), (3, .int (iZ 0)), (2, .int (iZ (i39010 + 1))), (6, .int (iZ z39140)), (0, .ref a_t), (1, .int (iZ (-t_tokenAt + t_tokenEnd))), (5, .int (iZ i39013))]) hx hb dX10_whichOwnWord_64 hl (by decide) rfl (fun ls hl => ?_)
            refine lv_goto (tgt := 105) hx hb dX10_whichOwnWord_66 (by decide) ?_
            refine lv_iinc (v := iZ (i39013 + 1)) (lv' := [(5, .int (iZ (i39013 + 1))), (4, .int (iZ 1)), (3, .int (iZ 0)), (2, .int (iZ (i39010 + 1))), (6, .int (iZ z39140)), (0, .ref a_t), (1, .int (iZ (-t_tokenAt + t_tokenEnd)))]) hx hb dX10_whichOwnWord_105 hl (k := 6) rfl (iZ_inc (by omega)) (by decide) rfl (fun ls hl => ?_)
            refine lv_goto (tgt := 20) hx hb dX10_whichOwnWord_108 (by decide) ?_
            exact ih_20 (N20 - 1) (by omega) _ _ _ (i39010 + 1) 0 1 (i39013 + 1) (by omega) (by omega) (by omega) (by omega) (by omega) (by omega) (by omega) (by omega) hq39149.2 (by omega) hP hD hS (lv_sub hl [5, 6, 3, 2, 1, 0] rfl)
          · refine lv_iload_n hx hb dX10_whichOwnWord_51 rfl (lv_at hl 4 rfl) ?_
            refine lv_iload_n hx hb dX10_whichOwnWord_52 rfl (lv_at hl 2 rfl) ?_
            refine zv_icmp_ne (tgt := 58) hx hb dX10_whichOwnWord_53 (by decide) (by omega) (by omega) (fun c39151 => ?_) (fun c39151 => ?_)
            · refine lv_iinc (v := iZ (i39010 + 1)) (lv' := [(2, .int (iZ (i39010 + 1))), (6, .int (iZ z39140)), (0, .ref a_t), (1, .int (iZ (-t_tokenAt + t_tokenEnd))), (3, .int (iZ i39011)), (4, .int (iZ i39012)), (5, .int (iZ i39013))]) hx hb dX10_whichOwnWord_58 hl (k := 3) rfl (iZ_inc (by omega)) (by decide) rfl (fun ls hl => ?_)
              refine lv_iconst (v := iZ 0) hx hb dX10_whichOwnWord_61 (by decide) ?_
              refine lv_istore_n (lv' := [(3, .int (iZ 0)), (2, .int (iZ (i39010 + 1))), (6, .int (iZ z39140)), (0, .ref a_t), (1, .int (iZ (-t_tokenAt + t_tokenEnd))), (4, .int (iZ i39012)), (5, .int (iZ i39013))]) hx hb dX10_whichOwnWord_62 rfl hl (by decide) rfl (fun ls hl => ?_)
              refine lv_iconst (v := iZ 1) hx hb dX10_whichOwnWord_63 (by decide) ?_
              refine lv_istore (lv' := [(4, .int (iZ 1)), (3, .int (iZ 0)), (2, .int (iZ (i39010 + 1))), (6, .int (iZ z39140)), (0, .ref a_t), (1, .int (iZ (-t_tokenAt + t_tokenEnd))), (5, .int (iZ i39013))]) hx hb dX10_whichOwnWord_64 hl (by decide) rfl (fun ls hl => ?_)
              refine lv_goto (tgt := 105) hx hb dX10_whichOwnWord_66 (by decide) ?_
              refine lv_iinc (v := iZ (i39013 + 1)) (lv' := [(5, .int (iZ (i39013 + 1))), (4, .int (iZ 1)), (3, .int (iZ 0)), (2, .int (iZ (i39010 + 1))), (6, .int (iZ z39140)), (0, .ref a_t), (1, .int (iZ (-t_tokenAt + t_tokenEnd)))]) hx hb dX10_whichOwnWord_105 hl (k := 6) rfl (iZ_inc (by omega)) (by decide) rfl (fun ls hl => ?_)
              refine lv_goto (tgt := 20) hx hb dX10_whichOwnWord_108 (by decide) ?_
              exact ih_20 (N20 - 1) (by omega) _ _ _ (i39010 + 1) 0 1 (i39013 + 1) (by omega) (by omega) (by omega) (by omega) (by omega) (by omega) (by omega) (by omega) hq39149.2 (by omega) hP hD hS (lv_sub hl [5, 6, 3, 2, 1, 0] rfl)
            · refine lv_iload_n hx hb dX10_whichOwnWord_56 rfl (lv_at hl 3 rfl) ?_
              subst hQ
              exact W.iret (v := iZ i39010) hx hb hr (fun t ht hW => ⟨⟨iZ i39010, i39010, rfl, ⟨rfl, by omega⟩, by rw [ht]; exact hP, va_K.moved hW.alike hK, hD⟩, hS.F ht⟩) hS.2.2 dX10_whichOwnWord_57
  exact lp_20 ((2147483647 : Int)).toNat _ _ _ 0 0 1 0 (by omega) (by omega) (by omega) (by omega) (by omega) (by omega) (by omega) (by omega) hG38992 (by omega) hP hD hS (lv_sub hl [5, 4, 3, 2, 1, 0] rfl)
set_option maxHeartbeats 4000000 in
set_option maxRecDepth 100000 in
theorem z_X10_isLetter_x (l : Launch) (dC : Nat → ClassId) (dI : Nat → Nat → Nat) (p1 : Int) (sz : Nat) (b_p1 : -1 ≤ p1 ∧ p1 ≤ 255) : Met l yX10_isLetter (Cond.code yX10_isLetter cX10_isLetter 1 (some .boolean) :: wA) ({ frames := 0, cells := 0, slots := 0, locals := 0 }) (va_Pc [.int (iZ p1)] (fun U => U.heap.size = sz ∧ va_P (dC, dI) vwCl [] U.heap ∧ va_K (dC, dI) vwCl [] U ∧ va_D (fun _ => True) [] ∧ nwAll U)) (va_Qi (fun (r : Int32) (zR : Int) => r = iZ zR ∧ (0 ≤ zR ∧ zR ≤ 1) ∧ ((zR = 1 ∧ 97 ≤ p1 ∧ p1 ≤ 122) ∨ (zR = 1 ∧ 65 ≤ p1 ∧ p1 ≤ 90) ∨ (zR = 0 ∧ p1 ≤ 64) ∨ (zR = 0 ∧ 91 ≤ p1 ∧ p1 ≤ 96) ∨ (zR = 0 ∧ 123 ≤ p1))) (fun zR t => va_P (dC, dI) vwCl [] t.heap ∧ va_K (dC, dI) vwCl [] t ∧ va_D (va_A [] sz) []) (va_A [] sz)) 0 0 (va_A [] sz) := by
  refine Met.ofW (cc := cX10_isLetter) (maxL := 1) (ret := (some .boolean)) (by decide) rfl ?_
  intro p e s m args below meth c s₁ B hml hv
  obtain ⟨rfl, hsz, hP, hK, hD0, hN⟩ := hv
  have hx := B.exec
  have hb := B.bytes
  have hr := B.returns
  have hts : ∀ w ∈ wA, w.before [.int (iZ p1)].toArray s = true := fun w h => atoms_spec (ws := Cond.code yX10_isLetter cX10_isLetter 1 (some .boolean) :: wA) B.pre w (List.mem_cons_of_mem _ h)
  have hown : s.vm.findClass RX10 = some m.cls := findClass_of_methodNamed B.named
  have hlocks := B.notSynchronized
  subst hsz
  have hD := hD0.self (sz := s.heap.size)
  generalize hQ : MQ below (va_Qi (fun (r : Int32) (zR : Int) => r = iZ zR ∧ (0 ≤ zR ∧ zR ≤ 1) ∧ ((zR = 1 ∧ 97 ≤ p1 ∧ p1 ≤ 122) ∨ (zR = 1 ∧ 65 ≤ p1 ∧ p1 ≤ 90) ∨ (zR = 0 ∧ p1 ≤ 64) ∨ (zR = 0 ∧ 91 ≤ p1 ∧ p1 ≤ 96) ∨ (zR = 0 ∧ 123 ≤ p1))) (fun zR t => va_P (dC, dI) vwCl [] t.heap ∧ va_K (dC, dI) vwCl [] t ∧ va_D (va_A [] s.heap.size) []) (va_A [] s.heap.size)) [.int (iZ p1)].toArray s 0 0 (va_A [] s.heap.size) = Q
  have hA : ∀ q : Nat, s.heap.size ≤ q → va_A [] s.heap.size q := fun q h => Or.inr h
  generalize hAe : va_A [] s.heap.size = A at hD hA hQ
  have hS : va_S A s.heap s.heap [] := va_S.rf
  have hl := lv_entry ([.int (iZ p1)]) (n := 1) (Nat.le_of_ble_eq_true rfl)
  rw [lg_entry_eq]
  generalize (lg_sl ([.int (iZ p1)]) ++ List.replicate (1 - (lg_sl ([.int (iZ p1)])).length) Slot.unset).toArray = ls at hl ⊢
  have hl : lv_has ls 1 [(0, .int (iZ p1))] := hl
  refine lv_iload_n hx hb dX10_isLetter_0 rfl (lv_at hl 0 rfl) ?_
  refine lv_bipush (v := iZ 97) hx hb dX10_isLetter_1 (by decide) ?_
  refine zv_icmp_lt (tgt := 12) hx hb dX10_isLetter_3 (by decide) (by omega) (by omega) (fun c39158 => ?_) (fun c39158 => ?_)
  · refine lv_iload_n hx hb dX10_isLetter_12 rfl (lv_at hl 0 rfl) ?_
    refine lv_bipush (v := iZ 65) hx hb dX10_isLetter_13 (by decide) ?_
    refine zv_icmp_lt (tgt := 28) hx hb dX10_isLetter_15 (by decide) (by omega) (by omega) (fun c39159 => ?_) (fun c39159 => ?_)
    · refine lv_iconst (v := iZ 0) hx hb dX10_isLetter_28 (by decide) ?_
      subst hQ
      exact W.zret (v := iZ 0) hx hb hr rfl (fun t ht hW => ⟨⟨iZ 0, 0, rfl, ⟨rfl, by omega, Or.inr (Or.inr (Or.inl (by omega)))⟩, by rw [ht]; exact hP, va_K.moved hW.alike hK, hD⟩, hS.F ht⟩) hS.2.2 dX10_isLetter_29
    · refine lv_iload_n hx hb dX10_isLetter_18 rfl (lv_at hl 0 rfl) ?_
      refine lv_bipush (v := iZ 90) hx hb dX10_isLetter_19 (by decide) ?_
      refine zv_icmp_gt (tgt := 28) hx hb dX10_isLetter_21 (by decide) (by omega) (by omega) (fun c39160 => ?_) (fun c39160 => ?_)
      · refine lv_iconst (v := iZ 0) hx hb dX10_isLetter_28 (by decide) ?_
        subst hQ
        exact W.zret (v := iZ 0) hx hb hr rfl (fun t ht hW => ⟨⟨iZ 0, 0, rfl, ⟨rfl, by omega, Or.inr (Or.inr (Or.inr (Or.inl (by omega))))⟩, by rw [ht]; exact hP, va_K.moved hW.alike hK, hD⟩, hS.F ht⟩) hS.2.2 dX10_isLetter_29
      · refine lv_iconst (v := iZ 1) hx hb dX10_isLetter_24 (by decide) ?_
        refine lv_goto (tgt := 29) hx hb dX10_isLetter_25 (by decide) ?_
        subst hQ
        exact W.zret (v := iZ 1) hx hb hr rfl (fun t ht hW => ⟨⟨iZ 1, 1, rfl, ⟨rfl, by omega, Or.inr (Or.inl (by omega))⟩, by rw [ht]; exact hP, va_K.moved hW.alike hK, hD⟩, hS.F ht⟩) hS.2.2 dX10_isLetter_29
  · refine lv_iload_n hx hb dX10_isLetter_6 rfl (lv_at hl 0 rfl) ?_
    refine lv_bipush (v := iZ 122) hx hb dX10_isLetter_7 (by decide) ?_
    refine zv_icmp_le (tgt := 24) hx hb dX10_isLetter_9 (by decide) (by omega) (by omega) (fun c39161 => ?_) (fun c39161 => ?_)
    · refine lv_iconst (v := iZ 1) hx hb dX10_isLetter_24 (by decide) ?_
      refine lv_goto (tgt := 29) hx hb dX10_isLetter_25 (by decide) ?_
      subst hQ
      exact W.zret (v := iZ 1) hx hb hr rfl (fun t ht hW => ⟨⟨iZ 1, 1, rfl, ⟨rfl, by omega, Or.inl (by omega)⟩, by rw [ht]; exact hP, va_K.moved hW.alike hK, hD⟩, hS.F ht⟩) hS.2.2 dX10_isLetter_29
    · refine lv_iload_n hx hb dX10_isLetter_12 rfl (lv_at hl 0 rfl) ?_
      refine lv_bipush (v := iZ 65) hx hb dX10_isLetter_13 (by decide) ?_
      refine zv_icmp_lt (tgt := 28) hx hb dX10_isLetter_15 (by decide) (by omega) (by omega) (fun c39162 => (by omega : False).elim) (fun c39162 => ?_)
      refine lv_iload_n hx hb dX10_isLetter_18 rfl (lv_at hl 0 rfl) ?_
      refine lv_bipush (v := iZ 90) hx hb dX10_isLetter_19 (by decide) ?_
      refine zv_icmp_gt (tgt := 28) hx hb dX10_isLetter_21 (by decide) (by omega) (by omega) (fun c39163 => ?_) (fun c39163 => (by omega : False).elim)
      refine lv_iconst (v := iZ 0) hx hb dX10_isLetter_28 (by decide) ?_
      subst hQ
      exact W.zret (v := iZ 0) hx hb hr rfl (fun t ht hW => ⟨⟨iZ 0, 0, rfl, ⟨rfl, by omega, Or.inr (Or.inr (Or.inr (Or.inr (by omega))))⟩, by rw [ht]; exact hP, va_K.moved hW.alike hK, hD⟩, hS.F ht⟩) hS.2.2 dX10_isLetter_29
set_option maxHeartbeats 4000000 in
set_option maxRecDepth 100000 in
theorem z_X10_isDigit_x (l : Launch) (dC : Nat → ClassId) (dI : Nat → Nat → Nat) (p1 : Int) (sz : Nat) (b_p1 : -1 ≤ p1 ∧ p1 ≤ 255) : Met l yX10_isDigit (Cond.code yX10_isDigit cX10_isDigit 1 (some .boolean) :: wA) ({ frames := 0, cells := 0, slots := 0, locals := 0 }) (va_Pc [.int (iZ p1)] (fun U => U.heap.size = sz ∧ va_P (dC, dI) vwCl [] U.heap ∧ va_K (dC, dI) vwCl [] U ∧ va_D (fun _ => True) [] ∧ nwAll U)) (va_Qi (fun (r : Int32) (zR : Int) => r = iZ zR ∧ (0 ≤ zR ∧ zR ≤ 1) ∧ ((zR = 1 ∧ 48 ≤ p1 ∧ p1 ≤ 57) ∨ (zR = 0 ∧ p1 ≤ 47) ∨ (zR = 0 ∧ 58 ≤ p1))) (fun zR t => va_P (dC, dI) vwCl [] t.heap ∧ va_K (dC, dI) vwCl [] t ∧ va_D (va_A [] sz) []) (va_A [] sz)) 0 0 (va_A [] sz) := by
  refine Met.ofW (cc := cX10_isDigit) (maxL := 1) (ret := (some .boolean)) (by decide) rfl ?_
  intro p e s m args below meth c s₁ B hml hv
  obtain ⟨rfl, hsz, hP, hK, hD0, hN⟩ := hv
  have hx := B.exec
  have hb := B.bytes
  have hr := B.returns
  have hts : ∀ w ∈ wA, w.before [.int (iZ p1)].toArray s = true := fun w h => atoms_spec (ws := Cond.code yX10_isDigit cX10_isDigit 1 (some .boolean) :: wA) B.pre w (List.mem_cons_of_mem _ h)
  have hown : s.vm.findClass RX10 = some m.cls := findClass_of_methodNamed B.named
  have hlocks := B.notSynchronized
  subst hsz
  have hD := hD0.self (sz := s.heap.size)
  generalize hQ : MQ below (va_Qi (fun (r : Int32) (zR : Int) => r = iZ zR ∧ (0 ≤ zR ∧ zR ≤ 1) ∧ ((zR = 1 ∧ 48 ≤ p1 ∧ p1 ≤ 57) ∨ (zR = 0 ∧ p1 ≤ 47) ∨ (zR = 0 ∧ 58 ≤ p1))) (fun zR t => va_P (dC, dI) vwCl [] t.heap ∧ va_K (dC, dI) vwCl [] t ∧ va_D (va_A [] s.heap.size) []) (va_A [] s.heap.size)) [.int (iZ p1)].toArray s 0 0 (va_A [] s.heap.size) = Q
  have hA : ∀ q : Nat, s.heap.size ≤ q → va_A [] s.heap.size q := fun q h => Or.inr h
  generalize hAe : va_A [] s.heap.size = A at hD hA hQ
  have hS : va_S A s.heap s.heap [] := va_S.rf
  have hl := lv_entry ([.int (iZ p1)]) (n := 1) (Nat.le_of_ble_eq_true rfl)
  rw [lg_entry_eq]
  generalize (lg_sl ([.int (iZ p1)]) ++ List.replicate (1 - (lg_sl ([.int (iZ p1)])).length) Slot.unset).toArray = ls at hl ⊢
  have hl : lv_has ls 1 [(0, .int (iZ p1))] := hl
  refine lv_iload_n hx hb dX10_isDigit_0 rfl (lv_at hl 0 rfl) ?_
  refine lv_bipush (v := iZ 48) hx hb dX10_isDigit_1 (by decide) ?_
  refine zv_icmp_lt (tgt := 16) hx hb dX10_isDigit_3 (by decide) (by omega) (by omega) (fun c39166 => ?_) (fun c39166 => ?_)
  · refine lv_iconst (v := iZ 0) hx hb dX10_isDigit_16 (by decide) ?_
    subst hQ
    exact W.zret (v := iZ 0) hx hb hr rfl (fun t ht hW => ⟨⟨iZ 0, 0, rfl, ⟨rfl, by omega, Or.inr (Or.inl (by omega))⟩, by rw [ht]; exact hP, va_K.moved hW.alike hK, hD⟩, hS.F ht⟩) hS.2.2 dX10_isDigit_17
  · refine lv_iload_n hx hb dX10_isDigit_6 rfl (lv_at hl 0 rfl) ?_
    refine lv_bipush (v := iZ 57) hx hb dX10_isDigit_7 (by decide) ?_
    refine zv_icmp_gt (tgt := 16) hx hb dX10_isDigit_9 (by decide) (by omega) (by omega) (fun c39167 => ?_) (fun c39167 => ?_)
    · refine lv_iconst (v := iZ 0) hx hb dX10_isDigit_16 (by decide) ?_
      subst hQ
      exact W.zret (v := iZ 0) hx hb hr rfl (fun t ht hW => ⟨⟨iZ 0, 0, rfl, ⟨rfl, by omega, Or.inr (Or.inr (by omega))⟩, by rw [ht]; exact hP, va_K.moved hW.alike hK, hD⟩, hS.F ht⟩) hS.2.2 dX10_isDigit_17
    · refine lv_iconst (v := iZ 1) hx hb dX10_isDigit_12 (by decide) ?_
      refine lv_goto (tgt := 17) hx hb dX10_isDigit_13 (by decide) ?_
      subst hQ
      exact W.zret (v := iZ 1) hx hb hr rfl (fun t ht hW => ⟨⟨iZ 1, 1, rfl, ⟨rfl, by omega, Or.inl (by omega)⟩, by rw [ht]; exact hP, va_K.moved hW.alike hK, hD⟩, hS.F ht⟩) hS.2.2 dX10_isDigit_17
set_option maxHeartbeats 4000000 in
set_option maxRecDepth 100000 in
theorem z_X10_peek_x (l : Launch) (dC : Nat → ClassId) (dI : Nat → Nat → Nat) (a_t : Nat) (q_t_bytes : Nat) (t_length : Int) (t_at : Int) (t_tokenAt : Int) (t_tokenEnd : Int) (t_own : Int) (t_name : Int64) (t_number : Int) (t_fault : Int) (t_place : Int) (k_t_bytes : ClassId) (g_t_bytes : Nat → Int) (sz : Nat) (hb_g_t_bytes : ∀ j : Nat, j < 1600 → 0 ≤ g_t_bytes j ∧ g_t_bytes j ≤ 255) (b_t_length : 0 ≤ t_length ∧ t_length ≤ 1600) (b_t_at : 0 ≤ t_at ∧ t_at ≤ 1600) (b_t_tokenAt : 0 ≤ t_tokenAt ∧ t_tokenAt ≤ 1599) (b_t_tokenEnd : -1 ≤ t_tokenEnd ∧ t_tokenEnd ≤ 1600) (b_t_own : -1 ≤ t_own ∧ t_own ≤ 13) (b_t_number : 0 ≤ t_number ∧ t_number ≤ 999) (b_t_fault : -2147483648 ≤ t_fault ∧ t_fault ≤ 2147483647) (b_t_place : -2147483648 ≤ t_place ∧ t_place ≤ 2147483647) : Met l yX10_peek (Cond.code yX10_peek cX10_peek 1 (some .int) :: wA) ({ frames := 0, cells := 0, slots := 0, locals := 0 }) (va_Pc [.ref a_t] (fun U => U.heap.size = sz ∧ va_P (dC, dI) vwCl (wk_0 a_t q_t_bytes t_length t_at t_tokenAt t_tokenEnd t_own t_name t_number t_fault t_place q_t_bytes k_t_bytes g_t_bytes) U.heap ∧ va_K (dC, dI) vwCl [(k_t_bytes, .int)] U ∧ va_D (fun _ => True) (wk_0 a_t q_t_bytes t_length t_at t_tokenAt t_tokenEnd t_own t_name t_number t_fault t_place q_t_bytes k_t_bytes g_t_bytes) ∧ nwAll U)) (va_Qi (fun (r : Int32) (zR : Int) => r = iZ zR ∧ (-1 ≤ zR ∧ zR ≤ 255)) (fun zR t => ∃ n_t_at : Int, (0 ≤ n_t_at ∧ n_t_at ≤ 1600) ∧ ((zR = -1 ∧ t_at ≤ n_t_at ∧ t_length ≤ n_t_at) ∨ (0 ≤ zR ∧ t_at ≤ n_t_at ∧ n_t_at < t_length ∧ zR = g_t_bytes n_t_at.toNat)) ∧ va_P (dC, dI) vwCl (wk_0 a_t q_t_bytes t_length n_t_at t_tokenAt t_tokenEnd t_own t_name t_number t_fault t_place q_t_bytes k_t_bytes g_t_bytes) t.heap ∧ va_K (dC, dI) vwCl [(k_t_bytes, .int)] t ∧ va_D (va_A (wk_0 a_t q_t_bytes t_length t_at t_tokenAt t_tokenEnd t_own t_name t_number t_fault t_place q_t_bytes k_t_bytes g_t_bytes) sz) (wk_0 a_t q_t_bytes t_length n_t_at t_tokenAt t_tokenEnd t_own t_name t_number t_fault t_place q_t_bytes k_t_bytes g_t_bytes)) (va_A (wk_0 a_t q_t_bytes t_length t_at t_tokenAt t_tokenEnd t_own t_name t_number t_fault t_place q_t_bytes k_t_bytes g_t_bytes) sz)) 0 0 (va_A (wk_0 a_t q_t_bytes t_length t_at t_tokenAt t_tokenEnd t_own t_name t_number t_fault t_place q_t_bytes k_t_bytes g_t_bytes) sz) := by
  refine Met.ofW (cc := cX10_peek) (maxL := 1) (ret := (some .int)) (by decide) rfl ?_
  intro p e s m args below meth c s₁ B hml hv
  obtain ⟨rfl, hsz, hP, hK, hD0, hN⟩ := hv
  have hx := B.exec
  have hb := B.bytes
  have hr := B.returns
  have hts : ∀ w ∈ wA, w.before [.ref a_t].toArray s = true := fun w h => atoms_spec (ws := Cond.code yX10_peek cX10_peek 1 (some .int) :: wA) B.pre w (List.mem_cons_of_mem _ h)
  have hown : s.vm.findClass RX10 = some m.cls := findClass_of_methodNamed B.named
  have hlocks := B.notSynchronized
  subst hsz
  have hD := hD0.self (sz := s.heap.size)
  generalize hQ : MQ below (va_Qi (fun (r : Int32) (zR : Int) => r = iZ zR ∧ (-1 ≤ zR ∧ zR ≤ 255)) (fun zR t => ∃ n_t_at : Int, (0 ≤ n_t_at ∧ n_t_at ≤ 1600) ∧ ((zR = -1 ∧ t_at ≤ n_t_at ∧ t_length ≤ n_t_at) ∨ (0 ≤ zR ∧ t_at ≤ n_t_at ∧ n_t_at < t_length ∧ zR = g_t_bytes n_t_at.toNat)) ∧ va_P (dC, dI) vwCl (wk_0 a_t q_t_bytes t_length n_t_at t_tokenAt t_tokenEnd t_own t_name t_number t_fault t_place q_t_bytes k_t_bytes g_t_bytes) t.heap ∧ va_K (dC, dI) vwCl [(k_t_bytes, .int)] t ∧ va_D (va_A (wk_0 a_t q_t_bytes t_length t_at t_tokenAt t_tokenEnd t_own t_name t_number t_fault t_place q_t_bytes k_t_bytes g_t_bytes) s.heap.size) (wk_0 a_t q_t_bytes t_length n_t_at t_tokenAt t_tokenEnd t_own t_name t_number t_fault t_place q_t_bytes k_t_bytes g_t_bytes)) (va_A (wk_0 a_t q_t_bytes t_length t_at t_tokenAt t_tokenEnd t_own t_name t_number t_fault t_place q_t_bytes k_t_bytes g_t_bytes) s.heap.size)) [.ref a_t].toArray s 0 0 (va_A (wk_0 a_t q_t_bytes t_length t_at t_tokenAt t_tokenEnd t_own t_name t_number t_fault t_place q_t_bytes k_t_bytes g_t_bytes) s.heap.size) = Q
  have hA : ∀ q : Nat, s.heap.size ≤ q → va_A (wk_0 a_t q_t_bytes t_length t_at t_tokenAt t_tokenEnd t_own t_name t_number t_fault t_place q_t_bytes k_t_bytes g_t_bytes) s.heap.size q := fun q h => Or.inr h
  generalize hAe : va_A (wk_0 a_t q_t_bytes t_length t_at t_tokenAt t_tokenEnd t_own t_name t_number t_fault t_place q_t_bytes k_t_bytes g_t_bytes) s.heap.size = A at hD hA hQ
  have hS : va_S A s.heap s.heap [] := va_S.rf
  have hl := lv_entry ([.ref a_t]) (n := 1) (Nat.le_of_ble_eq_true rfl)
  rw [lg_entry_eq]
  generalize (lg_sl ([.ref a_t]) ++ List.replicate (1 - (lg_sl ([.ref a_t])).length) Slot.unset).toArray = ls at hl ⊢
  have hl : lv_has ls 1 [(0, .ref a_t)] := hl
  have lp_0 : ∀ (N0 : Nat) (H : Heap) (locs : List Loc) (ls : Array Slot) (f39204 : Int), 0 ≤ -f39204 + 1600 → 0 ≤ f39204 - t_at → -f39204 + t_length ≤ (N0 : Int) → va_P (dC, dI) vwCl (wk_0 a_t q_t_bytes t_length f39204 t_tokenAt t_tokenEnd t_own t_name t_number t_fault t_place q_t_bytes k_t_bytes g_t_bytes) H → va_D A (wk_0 a_t q_t_bytes t_length f39204 t_tokenAt t_tokenEnd t_own t_name t_number t_fault t_place q_t_bytes k_t_bytes g_t_bytes) → va_S A s.heap H locs → lv_has ls 1 [(0, .ref a_t)] → W p l e (headSpec (Cond.code yX10_peek cX10_peek 1 (some .int) :: wA) ({ frames := 0, cells := 0, slots := 0, locals := 0 })).room s m [.ref a_t].toArray below meth c H locs 0 0 Q (F0 m 0 ls []) := by
    intro N0
    induction N0 using Nat.strongRecOn with
    | ind N0 ih_0 =>
      intro H locs ls f39204 k0_0 k0_1 hm0 hP hD hS hl
      refine lv_aload_n hx hb dX10_peek_0 rfl (lv_at hl 0 rfl) ?_
      refine va_get (D := (dC, dI)) (ci := 10) (v := .int (iZ f39204)) (C := RX10) (T := TX10) (N := 10) hx hb hts i_X10 hown hK hP 0 rfl rfl 2 (by decide) (hts _ q_122) (fun _ h9 => h9) rfl dX10_peek_1 ?_
      refine lv_aload_n hx hb dX10_peek_4 rfl (lv_at hl 0 rfl) ?_
      refine va_get (D := (dC, dI)) (ci := 10) (v := .int (iZ t_length)) (C := RX10) (T := TX10) (N := 10) hx hb hts i_X10 hown hK hP 0 rfl rfl 1 (by decide) (hts _ q_117) (fun _ h9 => h9) rfl dX10_peek_5 ?_
      refine zv_icmp_ge (tgt := 52) hx hb dX10_peek_8 (by decide) (by omega) (by omega) (fun c39222 => ?_) (fun c39222 => ?_)
      · refine lv_aload_n hx hb dX10_peek_52 rfl (lv_at hl 0 rfl) ?_
        refine va_get (D := (dC, dI)) (ci := 10) (v := .int (iZ f39204)) (C := RX10) (T := TX10) (N := 10) hx hb hts i_X10 hown hK hP 0 rfl rfl 2 (by decide) (hts _ q_122) (fun _ h9 => h9) rfl dX10_peek_53 ?_
        refine lv_aload_n hx hb dX10_peek_56 rfl (lv_at hl 0 rfl) ?_
        refine va_get (D := (dC, dI)) (ci := 10) (v := .int (iZ t_length)) (C := RX10) (T := TX10) (N := 10) hx hb hts i_X10 hown hK hP 0 rfl rfl 1 (by decide) (hts _ q_117) (fun _ h9 => h9) rfl dX10_peek_57 ?_
        refine zv_icmp_ge (tgt := 75) hx hb dX10_peek_60 (by decide) (by omega) (by omega) (fun c39223 => ?_) (fun c39223 => (by omega : False).elim)
        refine lv_iconst (v := iZ (-1)) hx hb dX10_peek_75 (by decide) ?_
        subst hQ
        exact W.iret (v := iZ (-1)) hx hb hr (fun t ht hW => ⟨⟨iZ (-1), (-1), rfl, ⟨rfl, by omega⟩, f39204, by omega, by omega, by rw [ht]; exact hP, va_K.moved hW.alike hK, hD⟩, hS.F ht⟩) hS.2.2 dX10_peek_76
      · refine lv_aload_n hx hb dX10_peek_11 rfl (lv_at hl 0 rfl) ?_
        refine va_get (D := (dC, dI)) (ci := 10) (v := .ref q_t_bytes) (C := RX10) (T := TX10) (N := 10) hx hb hts i_X10 hown hK hP 0 rfl rfl 0 (by decide) (hts _ q_118) (fun _ h9 => h9) rfl dX10_peek_12 ?_
        refine lv_aload_n hx hb dX10_peek_15 rfl (lv_at hl 0 rfl) ?_
        refine va_get (D := (dC, dI)) (ci := 10) (v := .int (iZ f39204)) (C := RX10) (T := TX10) (N := 10) hx hb hts i_X10 hown hK hP 0 rfl rfl 2 (by decide) (hts _ q_122) (fun _ h9 => h9) rfl dX10_peek_16 ?_
        refine zv_iald hx hb hK hP 1 0 rfl rfl (by omega) (by omega) (by omega) dX10_peek_19 (fun z39224 ez39224 => ?_)
        have bz39224 : 0 ≤ z39224 ∧ z39224 ≤ 255 := by rw [ez39224]; exact hb_g_t_bytes _ (by omega)
        refine lv_bipush (v := iZ 32) hx hb dX10_peek_20 (by decide) ?_
        refine zv_icmp_eq (tgt := 39) hx hb dX10_peek_22 (by decide) (by omega) (by omega) (fun c39225 => ?_) (fun c39225 => ?_)
        · refine lv_aload_n hx hb dX10_peek_39 rfl (lv_at hl 0 rfl) ?_
          refine lv_dup hx hb dX10_peek_40 rfl ?_
          refine va_get (D := (dC, dI)) (ci := 10) (v := .int (iZ f39204)) (C := RX10) (T := TX10) (N := 10) hx hb hts i_X10 hown hK hP 0 rfl rfl 2 (by decide) (hts _ q_122) (fun _ h9 => h9) rfl dX10_peek_41 ?_
          refine lv_iconst (v := iZ 1) hx hb dX10_peek_44 (by decide) ?_
          refine zv_iadd hx hb (f39204 + 1) (by omega) dX10_peek_45 ?_
          refine va_put (D := (dC, dI)) (ci := 10) (v := .int (iZ (f39204 + 1))) (ty := tyX10 2) (C := RX10) (T := TX10) (N := 10) hx hb hts i_X10 tyX10 tyX10_ok nmX10 hown hK hP hD hS 0 rfl rfl 2 (by decide) (hts _ q_122) (fun _ h9 => h9) rfl (tyX10_ok 2 (by decide)) rfl rfl (Nat.le_of_ble_eq_true rfl) dX10_peek_46 (fun H locs hP hD hS => ?_)
          have hP : va_P (dC, dI) vwCl (wk_0 a_t q_t_bytes t_length (f39204 + 1) t_tokenAt t_tokenEnd t_own t_name t_number t_fault t_place q_t_bytes k_t_bytes g_t_bytes) H := hP
          have hD : va_D A (wk_0 a_t q_t_bytes t_length (f39204 + 1) t_tokenAt t_tokenEnd t_own t_name t_number t_fault t_place q_t_bytes k_t_bytes g_t_bytes) := hD
          refine lv_goto (tgt := 0) hx hb dX10_peek_49 (by decide) ?_
          exact ih_0 (N0 - 1) (by omega) _ _ _ (f39204 + 1) (by omega) (by omega) (by omega) hP hD hS (lv_sub hl [0] rfl)
        · refine lv_aload_n hx hb dX10_peek_25 rfl (lv_at hl 0 rfl) ?_
          refine va_get (D := (dC, dI)) (ci := 10) (v := .ref q_t_bytes) (C := RX10) (T := TX10) (N := 10) hx hb hts i_X10 hown hK hP 0 rfl rfl 0 (by decide) (hts _ q_118) (fun _ h9 => h9) rfl dX10_peek_26 ?_
          refine lv_aload_n hx hb dX10_peek_29 rfl (lv_at hl 0 rfl) ?_
          refine va_get (D := (dC, dI)) (ci := 10) (v := .int (iZ f39204)) (C := RX10) (T := TX10) (N := 10) hx hb hts i_X10 hown hK hP 0 rfl rfl 2 (by decide) (hts _ q_122) (fun _ h9 => h9) rfl dX10_peek_30 ?_
          refine zv_iald hx hb hK hP 1 0 rfl rfl (by omega) (by omega) (by omega) dX10_peek_33 (fun z39226 ez39226 => ?_)
          have bz39226 : 0 ≤ z39226 ∧ z39226 ≤ 255 := by rw [ez39226]; exact hb_g_t_bytes _ (by omega)
          refine lv_bipush (v := iZ 10) hx hb dX10_peek_34 (by decide) ?_
          refine zv_icmp_ne (tgt := 52) hx hb dX10_peek_36 (by decide) (by omega) (by omega) (fun c39227 => ?_) (fun c39227 => ?_)
          · refine lv_aload_n hx hb dX10_peek_52 rfl (lv_at hl 0 rfl) ?_
            refine va_get (D := (dC, dI)) (ci := 10) (v := .int (iZ f39204)) (C := RX10) (T := TX10) (N := 10) hx hb hts i_X10 hown hK hP 0 rfl rfl 2 (by decide) (hts _ q_122) (fun _ h9 => h9) rfl dX10_peek_53 ?_
            refine lv_aload_n hx hb dX10_peek_56 rfl (lv_at hl 0 rfl) ?_
            refine va_get (D := (dC, dI)) (ci := 10) (v := .int (iZ t_length)) (C := RX10) (T := TX10) (N := 10) hx hb hts i_X10 hown hK hP 0 rfl rfl 1 (by decide) (hts _ q_117) (fun _ h9 => h9) rfl dX10_peek_57 ?_
            refine zv_icmp_ge (tgt := 75) hx hb dX10_peek_60 (by decide) (by omega) (by omega) (fun c39228 => (by omega : False).elim) (fun c39228 => ?_)
            refine lv_aload_n hx hb dX10_peek_63 rfl (lv_at hl 0 rfl) ?_
            refine va_get (D := (dC, dI)) (ci := 10) (v := .ref q_t_bytes) (C := RX10) (T := TX10) (N := 10) hx hb hts i_X10 hown hK hP 0 rfl rfl 0 (by decide) (hts _ q_118) (fun _ h9 => h9) rfl dX10_peek_64 ?_
            refine lv_aload_n hx hb dX10_peek_67 rfl (lv_at hl 0 rfl) ?_
            refine va_get (D := (dC, dI)) (ci := 10) (v := .int (iZ f39204)) (C := RX10) (T := TX10) (N := 10) hx hb hts i_X10 hown hK hP 0 rfl rfl 2 (by decide) (hts _ q_122) (fun _ h9 => h9) rfl dX10_peek_68 ?_
            refine zv_iald hx hb hK hP 1 0 rfl rfl (by omega) (by omega) (by omega) dX10_peek_71 (fun z39229 ez39229 => ?_)
            have bz39229 : 0 ≤ z39229 ∧ z39229 ≤ 255 := by rw [ez39229]; exact hb_g_t_bytes _ (by omega)
            refine lv_goto (tgt := 76) hx hb dX10_peek_72 (by decide) ?_
            subst hQ
            exact W.iret (v := iZ z39229) hx hb hr (fun t ht hW => ⟨⟨iZ z39229, z39229, rfl, ⟨rfl, by omega⟩, f39204, by omega, by omega, by rw [ht]; exact hP, va_K.moved hW.alike hK, hD⟩, hS.F ht⟩) hS.2.2 dX10_peek_76
          · refine lv_aload_n hx hb dX10_peek_39 rfl (lv_at hl 0 rfl) ?_
            refine lv_dup hx hb dX10_peek_40 rfl ?_
            refine va_get (D := (dC, dI)) (ci := 10) (v := .int (iZ f39204)) (C := RX10) (T := TX10) (N := 10) hx hb hts i_X10 hown hK hP 0 rfl rfl 2 (by decide) (hts _ q_122) (fun _ h9 => h9) rfl dX10_peek_41 ?_
            refine lv_iconst (v := iZ 1) hx hb dX10_peek_44 (by decide) ?_
            refine zv_iadd hx hb (f39204 + 1) (by omega) dX10_peek_45 ?_
            refine va_put (D := (dC, dI)) (ci := 10) (v := .int (iZ (f39204 + 1))) (ty := tyX10 2) (C := RX10) (T := TX10) (N := 10) hx hb hts i_X10 tyX10 tyX10_ok nmX10 hown hK hP hD hS 0 rfl rfl 2 (by decide) (hts _ q_122) (fun _ h9 => h9) rfl (tyX10_ok 2 (by decide)) rfl rfl (Nat.le_of_ble_eq_true rfl) dX10_peek_46 (fun H locs hP hD hS => ?_)
            have hP : va_P (dC, dI) vwCl (wk_0 a_t q_t_bytes t_length (f39204 + 1) t_tokenAt t_tokenEnd t_own t_name t_number t_fault t_place q_t_bytes k_t_bytes g_t_bytes) H := hP
            have hD : va_D A (wk_0 a_t q_t_bytes t_length (f39204 + 1) t_tokenAt t_tokenEnd t_own t_name t_number t_fault t_place q_t_bytes k_t_bytes g_t_bytes) := hD
            refine lv_goto (tgt := 0) hx hb dX10_peek_49 (by decide) ?_
            exact ih_0 (N0 - 1) (by omega) _ _ _ (f39204 + 1) (by omega) (by omega) (by omega) hP hD hS (lv_sub hl [0] rfl)
  exact lp_0 ((-t_at + t_length : Int)).toNat _ _ _ t_at (by omega) (by omega) (by omega) hP hD hS (lv_sub hl [0] rfl)
set_option maxHeartbeats 4000000 in
set_option maxRecDepth 100000 in
theorem z_X10_takesSign_x (l : Launch) (dC : Nat → ClassId) (dI : Nat → Nat → Nat) (a_t : Nat) (p1 : Int) (q_t_bytes : Nat) (t_length : Int) (t_at : Int) (t_tokenAt : Int) (t_tokenEnd : Int) (t_own : Int) (t_name : Int64) (t_number : Int) (t_fault : Int) (t_place : Int) (k_t_bytes : ClassId) (g_t_bytes : Nat → Int) (sz : Nat) (hb_g_t_bytes : ∀ j : Nat, j < 1600 → 0 ≤ g_t_bytes j ∧ g_t_bytes j ≤ 255) (b_t_length : 0 ≤ t_length ∧ t_length ≤ 1600) (b_t_at : 0 ≤ t_at ∧ t_at ≤ 1600) (b_t_tokenAt : 0 ≤ t_tokenAt ∧ t_tokenAt ≤ 1599) (b_t_tokenEnd : -1 ≤ t_tokenEnd ∧ t_tokenEnd ≤ 1600) (b_t_own : -1 ≤ t_own ∧ t_own ≤ 13) (b_t_number : 0 ≤ t_number ∧ t_number ≤ 999) (b_t_fault : -2147483648 ≤ t_fault ∧ t_fault ≤ 2147483647) (b_t_place : -2147483648 ≤ t_place ∧ t_place ≤ 2147483647) (b_p1 : 0 ≤ p1 ∧ p1 ≤ 255) : Met l yX10_takesSign (Cond.code yX10_takesSign cX10_takesSign 2 (some .boolean) :: wA) ({ frames := 1, cells := 0, slots := 0, locals := 20 }) (va_Pc [.ref a_t, .int (iZ p1)] (fun U => U.heap.size = sz ∧ va_P (dC, dI) vwCl (wk_0 a_t q_t_bytes t_length t_at t_tokenAt t_tokenEnd t_own t_name t_number t_fault t_place q_t_bytes k_t_bytes g_t_bytes) U.heap ∧ va_K (dC, dI) vwCl [(k_t_bytes, .int)] U ∧ va_D (fun _ => True) (wk_0 a_t q_t_bytes t_length t_at t_tokenAt t_tokenEnd t_own t_name t_number t_fault t_place q_t_bytes k_t_bytes g_t_bytes) ∧ nwAll U)) (va_Qi (fun (r : Int32) (zR : Int) => r = iZ zR ∧ (0 ≤ zR ∧ zR ≤ 1)) (fun zR t => ∃ n_t_at : Int, (0 ≤ n_t_at ∧ n_t_at ≤ 1600) ∧ ((zR = 0 ∧ t_at ≤ n_t_at) ∨ (zR = 1 ∧ t_at + 1 ≤ n_t_at ∧ n_t_at ≤ t_length)) ∧ va_P (dC, dI) vwCl (wk_0 a_t q_t_bytes t_length n_t_at t_tokenAt t_tokenEnd t_own t_name t_number t_fault t_place q_t_bytes k_t_bytes g_t_bytes) t.heap ∧ va_K (dC, dI) vwCl [(k_t_bytes, .int)] t ∧ va_D (va_A (wk_0 a_t q_t_bytes t_length t_at t_tokenAt t_tokenEnd t_own t_name t_number t_fault t_place q_t_bytes k_t_bytes g_t_bytes) sz) (wk_0 a_t q_t_bytes t_length n_t_at t_tokenAt t_tokenEnd t_own t_name t_number t_fault t_place q_t_bytes k_t_bytes g_t_bytes)) (va_A (wk_0 a_t q_t_bytes t_length t_at t_tokenAt t_tokenEnd t_own t_name t_number t_fault t_place q_t_bytes k_t_bytes g_t_bytes) sz)) 0 0 (va_A (wk_0 a_t q_t_bytes t_length t_at t_tokenAt t_tokenEnd t_own t_name t_number t_fault t_place q_t_bytes k_t_bytes g_t_bytes) sz) := by
  refine Met.ofW (cc := cX10_takesSign) (maxL := 2) (ret := (some .boolean)) (by decide) rfl ?_
  intro p e s m args below meth c s₁ B hml hv
  obtain ⟨rfl, hsz, hP, hK, hD0, hN⟩ := hv
  have hx := B.exec
  have hb := B.bytes
  have hr := B.returns
  have hts : ∀ w ∈ wA, w.before [.ref a_t, .int (iZ p1)].toArray s = true := fun w h => atoms_spec (ws := Cond.code yX10_takesSign cX10_takesSign 2 (some .boolean) :: wA) B.pre w (List.mem_cons_of_mem _ h)
  have hown : s.vm.findClass RX10 = some m.cls := findClass_of_methodNamed B.named
  have hlocks := B.notSynchronized
  subst hsz
  have hD := hD0.self (sz := s.heap.size)
  generalize hQ : MQ below (va_Qi (fun (r : Int32) (zR : Int) => r = iZ zR ∧ (0 ≤ zR ∧ zR ≤ 1)) (fun zR t => ∃ n_t_at : Int, (0 ≤ n_t_at ∧ n_t_at ≤ 1600) ∧ ((zR = 0 ∧ t_at ≤ n_t_at) ∨ (zR = 1 ∧ t_at + 1 ≤ n_t_at ∧ n_t_at ≤ t_length)) ∧ va_P (dC, dI) vwCl (wk_0 a_t q_t_bytes t_length n_t_at t_tokenAt t_tokenEnd t_own t_name t_number t_fault t_place q_t_bytes k_t_bytes g_t_bytes) t.heap ∧ va_K (dC, dI) vwCl [(k_t_bytes, .int)] t ∧ va_D (va_A (wk_0 a_t q_t_bytes t_length t_at t_tokenAt t_tokenEnd t_own t_name t_number t_fault t_place q_t_bytes k_t_bytes g_t_bytes) s.heap.size) (wk_0 a_t q_t_bytes t_length n_t_at t_tokenAt t_tokenEnd t_own t_name t_number t_fault t_place q_t_bytes k_t_bytes g_t_bytes)) (va_A (wk_0 a_t q_t_bytes t_length t_at t_tokenAt t_tokenEnd t_own t_name t_number t_fault t_place q_t_bytes k_t_bytes g_t_bytes) s.heap.size)) [.ref a_t, .int (iZ p1)].toArray s 0 0 (va_A (wk_0 a_t q_t_bytes t_length t_at t_tokenAt t_tokenEnd t_own t_name t_number t_fault t_place q_t_bytes k_t_bytes g_t_bytes) s.heap.size) = Q
  have hA : ∀ q : Nat, s.heap.size ≤ q → va_A (wk_0 a_t q_t_bytes t_length t_at t_tokenAt t_tokenEnd t_own t_name t_number t_fault t_place q_t_bytes k_t_bytes g_t_bytes) s.heap.size q := fun q h => Or.inr h
  generalize hAe : va_A (wk_0 a_t q_t_bytes t_length t_at t_tokenAt t_tokenEnd t_own t_name t_number t_fault t_place q_t_bytes k_t_bytes g_t_bytes) s.heap.size = A at hD hA hQ
  have hS : va_S A s.heap s.heap [] := va_S.rf
  have hl := lv_entry ([.ref a_t, .int (iZ p1)]) (n := 2) (Nat.le_of_ble_eq_true rfl)
  rw [lg_entry_eq]
  generalize (lg_sl ([.ref a_t, .int (iZ p1)]) ++ List.replicate (2 - (lg_sl ([.ref a_t, .int (iZ p1)])).length) Slot.unset).toArray = ls at hl ⊢
  have hl : lv_has ls 2 [(0, .ref a_t), (1, .int (iZ p1))] := hl
  refine lv_aload_n hx hb dX10_takesSign_0 rfl (lv_at hl 0 rfl) ?_
  have hPc := hP.sub (ws' := (wk_0 a_t q_t_bytes t_length t_at t_tokenAt t_tokenEnd t_own t_name t_number t_fault t_place q_t_bytes k_t_bytes g_t_bytes)) [0, 1] rfl
  have hDc := hD.sub (ws' := (wk_0 a_t q_t_bytes t_length t_at t_tokenAt t_tokenEnd t_own t_name t_number t_fault t_place q_t_bytes k_t_bytes g_t_bytes)) [0, 1] (by decide) rfl
  have hKc := hK.sub (tys' := [(k_t_bytes, .int)]) [0] rfl
  have hFc := va_free (wc := (wk_0 a_t q_t_bytes t_length t_at t_tokenAt t_tokenEnd t_own t_name t_number t_fault t_place q_t_bytes k_t_bytes g_t_bytes)) hD hS hA [0, 1] rfl
  refine va_calli (va_runV (As := []) (rest := []) ⟨hx, hb, hml, hown, hts⟩ (z_X10_peek_x l dC dI a_t q_t_bytes t_length t_at t_tokenAt t_tokenEnd t_own t_name t_number t_fault t_place k_t_bytes g_t_bytes s.heap.size hb_g_t_bytes (by omega) (by omega) (by omega) (by omega) (by omega) (by omega) (by omega) (by omega)) (cwV 0 hts (gV q_140 q_141 q_142 q_136 q_143) rfl rfl rfl mdv_yX10_peek ⟨Nat.le_of_ble_eq_true rfl, Nat.le_of_ble_eq_true rfl⟩) ⟨fun a U g mk q => by obtain ⟨q0, q1, qP, qK, qD, qN⟩ := q; exact ⟨q0, q1, qP, va_K.moved (u := U) (U := U.calling g mk a) (Vm.Alike.refl U.vm) qK, qD, nwAll_same (u := U) (U := U.calling g mk a) rfl qN⟩, va_recv hKc hPc (ci := 10) (q0 := 0) rfl rfl, fun U hU hW => ⟨rfl, by rw [hU], by rw [hU]; exact hPc, va_K.moved hW.alike hKc, hDc.weaken (fun _ _ _ _ => trivial), nwAll_warm hW hN⟩⟩ rfl rfl hl.1 rfl (lv_room (Nat.le_of_ble_eq_true rfl)) dX10_takesSign_1 ⟨Nat.le_of_ble_eq_true rfl, Nat.le_of_ble_eq_true rfl⟩) hS (fun q _ h => hFc q h) hFc (fun r39237 z39238 t H1 locs ht hvm hw hB hz1 hk1 hS => ?_)
  obtain ⟨rfl, h39242⟩ := hw
  obtain ⟨z39239, h39240, h39241, hP1, hK1, hD1⟩ := hB
  rw [ht] at hP1
  obtain ⟨hP, hD⟩ := va_join (wr := []) (w1 := (wk_0 a_t q_t_bytes t_length z39239 t_tokenAt t_tokenEnd t_own t_name t_number t_fault t_place q_t_bytes k_t_bytes g_t_bytes)) hP hD [0, 1] [] rfl rfl (by decide) (by decide) hk1 hFc hP1 hD1
  generalize H1 = H at hP hS ⊢
  have hP : va_P (dC, dI) vwCl (wk_0 a_t q_t_bytes t_length z39239 t_tokenAt t_tokenEnd t_own t_name t_number t_fault t_place q_t_bytes k_t_bytes g_t_bytes) H := hP
  have hD : va_D A (wk_0 a_t q_t_bytes t_length z39239 t_tokenAt t_tokenEnd t_own t_name t_number t_fault t_place q_t_bytes k_t_bytes g_t_bytes) := hD
  refine lv_iload_n hx hb dX10_takesSign_4 rfl (lv_at hl 1 rfl) ?_
  refine zv_icmp_eq (tgt := 10) hx hb dX10_takesSign_5 (by decide) (by omega) (by omega) (fun c39243 => ?_) (fun c39243 => ?_)
  · refine lv_aload_n hx hb dX10_takesSign_10 rfl (lv_at hl 0 rfl) ?_
    refine lv_dup hx hb dX10_takesSign_11 rfl ?_
    refine va_get (D := (dC, dI)) (ci := 10) (v := .int (iZ z39239)) (C := RX10) (T := TX10) (N := 10) hx hb hts i_X10 hown hK hP 0 rfl rfl 2 (by decide) (hts _ q_122) (fun _ h9 => h9) rfl dX10_takesSign_12 ?_
    refine lv_iconst (v := iZ 1) hx hb dX10_takesSign_15 (by decide) ?_
    refine zv_iadd hx hb (z39239 + 1) (by omega) dX10_takesSign_16 ?_
    refine va_put (D := (dC, dI)) (ci := 10) (v := .int (iZ (z39239 + 1))) (ty := tyX10 2) (C := RX10) (T := TX10) (N := 10) hx hb hts i_X10 tyX10 tyX10_ok nmX10 hown hK hP hD hS 0 rfl rfl 2 (by decide) (hts _ q_122) (fun _ h9 => h9) rfl (tyX10_ok 2 (by decide)) rfl rfl (Nat.le_of_ble_eq_true rfl) dX10_takesSign_17 (fun H locs hP hD hS => ?_)
    have hP : va_P (dC, dI) vwCl (wk_0 a_t q_t_bytes t_length (z39239 + 1) t_tokenAt t_tokenEnd t_own t_name t_number t_fault t_place q_t_bytes k_t_bytes g_t_bytes) H := hP
    have hD : va_D A (wk_0 a_t q_t_bytes t_length (z39239 + 1) t_tokenAt t_tokenEnd t_own t_name t_number t_fault t_place q_t_bytes k_t_bytes g_t_bytes) := hD
    refine lv_iconst (v := iZ 1) hx hb dX10_takesSign_20 (by decide) ?_
    subst hQ
    exact W.zret (v := iZ 1) hx hb hr rfl (fun t ht hW => ⟨⟨iZ 1, 1, rfl, ⟨rfl, by omega⟩, (z39239 + 1), by omega, by omega, by rw [ht]; exact hP, va_K.moved hW.alike hK, hD⟩, hS.F ht⟩) hS.2.2 dX10_takesSign_21
  · refine lv_iconst (v := iZ 0) hx hb dX10_takesSign_8 (by decide) ?_
    subst hQ
    exact W.zret (v := iZ 0) hx hb hr rfl (fun t ht hW => ⟨⟨iZ 0, 0, rfl, ⟨rfl, by omega⟩, z39239, by omega, by omega, by rw [ht]; exact hP, va_K.moved hW.alike hK, hD⟩, hS.F ht⟩) hS.2.2 dX10_takesSign_9
set_option maxHeartbeats 4000000 in
set_option maxRecDepth 100000 in
theorem z_X10_needsSign_x (l : Launch) (dC : Nat → ClassId) (dI : Nat → Nat → Nat) (a_t : Nat) (p1 : Int) (q_t_bytes : Nat) (t_length : Int) (t_at : Int) (t_tokenAt : Int) (t_tokenEnd : Int) (t_own : Int) (t_name : Int64) (t_number : Int) (t_fault : Int) (t_place : Int) (k_t_bytes : ClassId) (g_t_bytes : Nat → Int) (sz : Nat) (hb_g_t_bytes : ∀ j : Nat, j < 1600 → 0 ≤ g_t_bytes j ∧ g_t_bytes j ≤ 255) (b_t_length : 0 ≤ t_length ∧ t_length ≤ 1600) (b_t_at : 0 ≤ t_at ∧ t_at ≤ 1600) (b_t_tokenAt : 0 ≤ t_tokenAt ∧ t_tokenAt ≤ 1599) (b_t_tokenEnd : -1 ≤ t_tokenEnd ∧ t_tokenEnd ≤ 1600) (b_t_own : -1 ≤ t_own ∧ t_own ≤ 13) (b_t_number : 0 ≤ t_number ∧ t_number ≤ 999) (b_t_fault : -2147483648 ≤ t_fault ∧ t_fault ≤ 2147483647) (b_t_place : -2147483648 ≤ t_place ∧ t_place ≤ 2147483647) (b_p1 : 0 ≤ p1 ∧ p1 ≤ 255) : Met l yX10_needsSign (Cond.code yX10_needsSign cX10_needsSign 2 (some .boolean) :: wA) ({ frames := 1, cells := 0, slots := 0, locals := 22 }) (va_Pc [.ref a_t, .int (iZ p1)] (fun U => U.heap.size = sz ∧ va_P (dC, dI) vwCl (wk_0 a_t q_t_bytes t_length t_at t_tokenAt t_tokenEnd t_own t_name t_number t_fault t_place q_t_bytes k_t_bytes g_t_bytes) U.heap ∧ va_K (dC, dI) vwCl [(k_t_bytes, .int)] U ∧ va_D (fun _ => True) (wk_0 a_t q_t_bytes t_length t_at t_tokenAt t_tokenEnd t_own t_name t_number t_fault t_place q_t_bytes k_t_bytes g_t_bytes) ∧ nwAll U)) (va_Qi (fun (r : Int32) (zR : Int) => r = iZ zR ∧ (0 ≤ zR ∧ zR ≤ 1)) (fun zR t => ∃ n_t_at : Int, ∃ n_t_fault : Int, ∃ n_t_place : Int, (0 ≤ n_t_at ∧ n_t_at ≤ 1600) ∧ (-2147483648 ≤ n_t_fault ∧ n_t_fault ≤ 2147483647) ∧ (-2147483648 ≤ n_t_place ∧ n_t_place ≤ 2147483647) ∧ ((zR = 0 ∧ t_at ≤ n_t_at) ∨ (zR = 1 ∧ t_at + 1 ≤ n_t_at ∧ n_t_at ≤ t_length)) ∧ va_P (dC, dI) vwCl (wk_0 a_t q_t_bytes t_length n_t_at t_tokenAt t_tokenEnd t_own t_name t_number n_t_fault n_t_place q_t_bytes k_t_bytes g_t_bytes) t.heap ∧ va_K (dC, dI) vwCl [(k_t_bytes, .int)] t ∧ va_D (va_A (wk_0 a_t q_t_bytes t_length t_at t_tokenAt t_tokenEnd t_own t_name t_number t_fault t_place q_t_bytes k_t_bytes g_t_bytes) sz) (wk_0 a_t q_t_bytes t_length n_t_at t_tokenAt t_tokenEnd t_own t_name t_number n_t_fault n_t_place q_t_bytes k_t_bytes g_t_bytes)) (va_A (wk_0 a_t q_t_bytes t_length t_at t_tokenAt t_tokenEnd t_own t_name t_number t_fault t_place q_t_bytes k_t_bytes g_t_bytes) sz)) 0 0 (va_A (wk_0 a_t q_t_bytes t_length t_at t_tokenAt t_tokenEnd t_own t_name t_number t_fault t_place q_t_bytes k_t_bytes g_t_bytes) sz) := by
  refine Met.ofW (cc := cX10_needsSign) (maxL := 2) (ret := (some .boolean)) (by decide) rfl ?_
  intro p e s m args below meth c s₁ B hml hv
  obtain ⟨rfl, hsz, hP, hK, hD0, hN⟩ := hv
  have hx := B.exec
  have hb := B.bytes
  have hr := B.returns
  have hts : ∀ w ∈ wA, w.before [.ref a_t, .int (iZ p1)].toArray s = true := fun w h => atoms_spec (ws := Cond.code yX10_needsSign cX10_needsSign 2 (some .boolean) :: wA) B.pre w (List.mem_cons_of_mem _ h)
  have hown : s.vm.findClass RX10 = some m.cls := findClass_of_methodNamed B.named
  have hlocks := B.notSynchronized
  subst hsz
  have hD := hD0.self (sz := s.heap.size)
  generalize hQ : MQ below (va_Qi (fun (r : Int32) (zR : Int) => r = iZ zR ∧ (0 ≤ zR ∧ zR ≤ 1)) (fun zR t => ∃ n_t_at : Int, ∃ n_t_fault : Int, ∃ n_t_place : Int, (0 ≤ n_t_at ∧ n_t_at ≤ 1600) ∧ (-2147483648 ≤ n_t_fault ∧ n_t_fault ≤ 2147483647) ∧ (-2147483648 ≤ n_t_place ∧ n_t_place ≤ 2147483647) ∧ ((zR = 0 ∧ t_at ≤ n_t_at) ∨ (zR = 1 ∧ t_at + 1 ≤ n_t_at ∧ n_t_at ≤ t_length)) ∧ va_P (dC, dI) vwCl (wk_0 a_t q_t_bytes t_length n_t_at t_tokenAt t_tokenEnd t_own t_name t_number n_t_fault n_t_place q_t_bytes k_t_bytes g_t_bytes) t.heap ∧ va_K (dC, dI) vwCl [(k_t_bytes, .int)] t ∧ va_D (va_A (wk_0 a_t q_t_bytes t_length t_at t_tokenAt t_tokenEnd t_own t_name t_number t_fault t_place q_t_bytes k_t_bytes g_t_bytes) s.heap.size) (wk_0 a_t q_t_bytes t_length n_t_at t_tokenAt t_tokenEnd t_own t_name t_number n_t_fault n_t_place q_t_bytes k_t_bytes g_t_bytes)) (va_A (wk_0 a_t q_t_bytes t_length t_at t_tokenAt t_tokenEnd t_own t_name t_number t_fault t_place q_t_bytes k_t_bytes g_t_bytes) s.heap.size)) [.ref a_t, .int (iZ p1)].toArray s 0 0 (va_A (wk_0 a_t q_t_bytes t_length t_at t_tokenAt t_tokenEnd t_own t_name t_number t_fault t_place q_t_bytes k_t_bytes g_t_bytes) s.heap.size) = Q
  have hA : ∀ q : Nat, s.heap.size ≤ q → va_A (wk_0 a_t q_t_bytes t_length t_at t_tokenAt t_tokenEnd t_own t_name t_number t_fault t_place q_t_bytes k_t_bytes g_t_bytes) s.heap.size q := fun q h => Or.inr h
  generalize hAe : va_A (wk_0 a_t q_t_bytes t_length t_at t_tokenAt t_tokenEnd t_own t_name t_number t_fault t_place q_t_bytes k_t_bytes g_t_bytes) s.heap.size = A at hD hA hQ
  have hS : va_S A s.heap s.heap [] := va_S.rf
  have hl := lv_entry ([.ref a_t, .int (iZ p1)]) (n := 2) (Nat.le_of_ble_eq_true rfl)
  rw [lg_entry_eq]
  generalize (lg_sl ([.ref a_t, .int (iZ p1)]) ++ List.replicate (2 - (lg_sl ([.ref a_t, .int (iZ p1)])).length) Slot.unset).toArray = ls at hl ⊢
  have hl : lv_has ls 2 [(0, .ref a_t), (1, .int (iZ p1))] := hl
  refine lv_aload_n hx hb dX10_needsSign_0 rfl (lv_at hl 0 rfl) ?_
  have hPc := hP.sub (ws' := (wk_0 a_t q_t_bytes t_length t_at t_tokenAt t_tokenEnd t_own t_name t_number t_fault t_place q_t_bytes k_t_bytes g_t_bytes)) [0, 1] rfl
  have hDc := hD.sub (ws' := (wk_0 a_t q_t_bytes t_length t_at t_tokenAt t_tokenEnd t_own t_name t_number t_fault t_place q_t_bytes k_t_bytes g_t_bytes)) [0, 1] (by decide) rfl
  have hKc := hK.sub (tys' := [(k_t_bytes, .int)]) [0] rfl
  have hFc := va_free (wc := (wk_0 a_t q_t_bytes t_length t_at t_tokenAt t_tokenEnd t_own t_name t_number t_fault t_place q_t_bytes k_t_bytes g_t_bytes)) hD hS hA [0, 1] rfl
  refine va_calli (va_runV (As := []) (rest := []) ⟨hx, hb, hml, hown, hts⟩ (z_X10_peek_x l dC dI a_t q_t_bytes t_length t_at t_tokenAt t_tokenEnd t_own t_name t_number t_fault t_place k_t_bytes g_t_bytes s.heap.size hb_g_t_bytes (by omega) (by omega) (by omega) (by omega) (by omega) (by omega) (by omega) (by omega)) (cwV 0 hts (gV q_140 q_141 q_142 q_136 q_143) rfl rfl rfl mdv_yX10_peek ⟨Nat.le_of_ble_eq_true rfl, Nat.le_of_ble_eq_true rfl⟩) ⟨fun a U g mk q => by obtain ⟨q0, q1, qP, qK, qD, qN⟩ := q; exact ⟨q0, q1, qP, va_K.moved (u := U) (U := U.calling g mk a) (Vm.Alike.refl U.vm) qK, qD, nwAll_same (u := U) (U := U.calling g mk a) rfl qN⟩, va_recv hKc hPc (ci := 10) (q0 := 0) rfl rfl, fun U hU hW => ⟨rfl, by rw [hU], by rw [hU]; exact hPc, va_K.moved hW.alike hKc, hDc.weaken (fun _ _ _ _ => trivial), nwAll_warm hW hN⟩⟩ rfl rfl hl.1 rfl (lv_room (Nat.le_of_ble_eq_true rfl)) dX10_needsSign_1 ⟨Nat.le_of_ble_eq_true rfl, Nat.le_of_ble_eq_true rfl⟩) hS (fun q _ h => hFc q h) hFc (fun r39254 z39255 t H1 locs ht hvm hw hB hz1 hk1 hS => ?_)
  obtain ⟨rfl, h39259⟩ := hw
  obtain ⟨z39256, h39257, h39258, hP1, hK1, hD1⟩ := hB
  rw [ht] at hP1
  obtain ⟨hP, hD⟩ := va_join (wr := []) (w1 := (wk_0 a_t q_t_bytes t_length z39256 t_tokenAt t_tokenEnd t_own t_name t_number t_fault t_place q_t_bytes k_t_bytes g_t_bytes)) hP hD [0, 1] [] rfl rfl (by decide) (by decide) hk1 hFc hP1 hD1
  generalize H1 = H at hP hS ⊢
  have hP : va_P (dC, dI) vwCl (wk_0 a_t q_t_bytes t_length z39256 t_tokenAt t_tokenEnd t_own t_name t_number t_fault t_place q_t_bytes k_t_bytes g_t_bytes) H := hP
  have hD : va_D A (wk_0 a_t q_t_bytes t_length z39256 t_tokenAt t_tokenEnd t_own t_name t_number t_fault t_place q_t_bytes k_t_bytes g_t_bytes) := hD
  refine lv_iload_n hx hb dX10_needsSign_4 rfl (lv_at hl 1 rfl) ?_
  refine zv_icmp_eq (tgt := 18) hx hb dX10_needsSign_5 (by decide) (by omega) (by omega) (fun c39260 => ?_) (fun c39260 => ?_)
  · refine lv_aload_n hx hb dX10_needsSign_18 rfl (lv_at hl 0 rfl) ?_
    refine lv_dup hx hb dX10_needsSign_19 rfl ?_
    refine va_get (D := (dC, dI)) (ci := 10) (v := .int (iZ z39256)) (C := RX10) (T := TX10) (N := 10) hx hb hts i_X10 hown hK hP 0 rfl rfl 2 (by decide) (hts _ q_122) (fun _ h9 => h9) rfl dX10_needsSign_20 ?_
    refine lv_iconst (v := iZ 1) hx hb dX10_needsSign_23 (by decide) ?_
    refine zv_iadd hx hb (z39256 + 1) (by omega) dX10_needsSign_24 ?_
    refine va_put (D := (dC, dI)) (ci := 10) (v := .int (iZ (z39256 + 1))) (ty := tyX10 2) (C := RX10) (T := TX10) (N := 10) hx hb hts i_X10 tyX10 tyX10_ok nmX10 hown hK hP hD hS 0 rfl rfl 2 (by decide) (hts _ q_122) (fun _ h9 => h9) rfl (tyX10_ok 2 (by decide)) rfl rfl (Nat.le_of_ble_eq_true rfl) dX10_needsSign_25 (fun H locs hP hD hS => ?_)
    have hP : va_P (dC, dI) vwCl (wk_0 a_t q_t_bytes t_length (z39256 + 1) t_tokenAt t_tokenEnd t_own t_name t_number t_fault t_place q_t_bytes k_t_bytes g_t_bytes) H := hP
    have hD : va_D A (wk_0 a_t q_t_bytes t_length (z39256 + 1) t_tokenAt t_tokenEnd t_own t_name t_number t_fault t_place q_t_bytes k_t_bytes g_t_bytes) := hD
    refine lv_iconst (v := iZ 1) hx hb dX10_needsSign_28 (by decide) ?_
    subst hQ
    exact W.zret (v := iZ 1) hx hb hr rfl (fun t ht hW => ⟨⟨iZ 1, 1, rfl, ⟨rfl, by omega⟩, (z39256 + 1), t_fault, t_place, by omega, by omega, by omega, by omega, by rw [ht]; exact hP, va_K.moved hW.alike hK, hD⟩, hS.F ht⟩) hS.2.2 dX10_needsSign_29
  · refine lv_aload_n hx hb dX10_needsSign_8 rfl (lv_at hl 0 rfl) ?_
    refine lv_iconst (v := iZ 1) hx hb dX10_needsSign_9 (by decide) ?_
    refine lv_aload_n hx hb dX10_needsSign_10 rfl (lv_at hl 0 rfl) ?_
    refine va_get (D := (dC, dI)) (ci := 10) (v := .int (iZ z39256)) (C := RX10) (T := TX10) (N := 10) hx hb hts i_X10 hown hK hP 0 rfl rfl 2 (by decide) (hts _ q_122) (fun _ h9 => h9) rfl dX10_needsSign_11 ?_
    have hPc := hP.sub (ws' := (wk_0 a_t q_t_bytes t_length z39256 t_tokenAt t_tokenEnd t_own t_name t_number t_fault t_place q_t_bytes k_t_bytes g_t_bytes)) [0, 1] rfl
    have hDc := hD.sub (ws' := (wk_0 a_t q_t_bytes t_length z39256 t_tokenAt t_tokenEnd t_own t_name t_number t_fault t_place q_t_bytes k_t_bytes g_t_bytes)) [0, 1] (by decide) rfl
    have hKc := hK.sub (tys' := [(k_t_bytes, .int)]) [0] rfl
    have hFc := va_free (wc := (wk_0 a_t q_t_bytes t_length z39256 t_tokenAt t_tokenEnd t_own t_name t_number t_fault t_place q_t_bytes k_t_bytes g_t_bytes)) hD hS hA [0, 1] rfl
    refine va_calli (va_runV (As := [.int (iZ 1), .int (iZ z39256)]) (rest := []) ⟨hx, hb, hml, hown, hts⟩ (z_X10_wrong l dC dI a_t 1 z39256 q_t_bytes t_length z39256 t_tokenAt t_tokenEnd t_own t_name t_number t_fault t_place k_t_bytes g_t_bytes H.size hb_g_t_bytes (by omega) (by omega) (by omega) (by omega) (by omega) (by omega) (by omega) (by omega) (by omega) (by omega)) (cwV 2 hts (gV q_133 q_134 q_135 q_136 q_137) rfl rfl rfl mdv_yX10_wrong ⟨Nat.le_of_ble_eq_true rfl, Nat.le_of_ble_eq_true rfl⟩) ⟨fun a U g mk q => by obtain ⟨q0, q1, qP, qK, qD, qN⟩ := q; exact ⟨q0, q1, qP, va_K.moved (u := U) (U := U.calling g mk a) (Vm.Alike.refl U.vm) qK, qD, nwAll_same (u := U) (U := U.calling g mk a) rfl qN⟩, va_recv hKc hPc (ci := 10) (q0 := 0) rfl rfl, fun U hU hW => ⟨rfl, by rw [hU], by rw [hU]; exact hPc, va_K.moved hW.alike hKc, hDc.weaken (fun _ _ _ _ => trivial), nwAll_warm hW hN⟩⟩ rfl rfl hl.1 rfl (lv_room (Nat.le_of_ble_eq_true rfl)) dX10_needsSign_14 ⟨Nat.le_of_ble_eq_true rfl, Nat.le_of_ble_eq_true rfl⟩) hS (fun q _ h => hFc q h) hFc (fun r39261 z39262 t H1 locs ht hvm hw hB hz1 hk1 hS => ?_)
    obtain ⟨rfl, h39263⟩ := hw
    obtain ⟨hP1, hK1, hD1⟩ := hB
    rw [ht] at hP1
    obtain ⟨hP, hD⟩ := va_join (wr := []) (w1 := (wk_0 a_t q_t_bytes t_length z39256 t_tokenAt t_tokenEnd t_own t_name t_number 1 z39256 q_t_bytes k_t_bytes g_t_bytes)) hP hD [0, 1] [] rfl rfl (by decide) (by decide) hk1 hFc hP1 hD1
    generalize H1 = H at hP hS ⊢
    have hP : va_P (dC, dI) vwCl (wk_0 a_t q_t_bytes t_length z39256 t_tokenAt t_tokenEnd t_own t_name t_number 1 z39256 q_t_bytes k_t_bytes g_t_bytes) H := hP
    have hD : va_D A (wk_0 a_t q_t_bytes t_length z39256 t_tokenAt t_tokenEnd t_own t_name t_number 1 z39256 q_t_bytes k_t_bytes g_t_bytes) := hD
    subst hQ
    exact W.zret (v := iZ z39262) hx hb hr (zb_nar (by omega)) (fun t ht hW => ⟨⟨iZ z39262, z39262, rfl, ⟨rfl, by omega⟩, z39256, 1, z39256, by omega, by omega, by omega, by omega, by rw [ht]; exact hP, va_K.moved hW.alike hK, hD⟩, hS.F ht⟩) hS.2.2 dX10_needsSign_17
set_option maxHeartbeats 4000000 in
set_option maxRecDepth 100000 in
theorem z_X10_takesNumber_x (l : Launch) (dC : Nat → ClassId) (dI : Nat → Nat → Nat) (a_t : Nat) (p1 : Int) (p2 : Int) (q_t_bytes : Nat) (t_length : Int) (t_at : Int) (t_tokenAt : Int) (t_tokenEnd : Int) (t_own : Int) (t_name : Int64) (t_number : Int) (t_fault : Int) (t_place : Int) (k_t_bytes : ClassId) (g_t_bytes : Nat → Int) (sz : Nat) (hb_g_t_bytes : ∀ j : Nat, j < 1600 → 0 ≤ g_t_bytes j ∧ g_t_bytes j ≤ 255) (b_t_length : 0 ≤ t_length ∧ t_length ≤ 1600) (b_t_at : 0 ≤ t_at ∧ t_at ≤ 1600) (b_t_tokenAt : 0 ≤ t_tokenAt ∧ t_tokenAt ≤ 1599) (b_t_tokenEnd : -1 ≤ t_tokenEnd ∧ t_tokenEnd ≤ 1600) (b_t_own : -1 ≤ t_own ∧ t_own ≤ 13) (b_t_number : 0 ≤ t_number ∧ t_number ≤ 999) (b_t_fault : -2147483648 ≤ t_fault ∧ t_fault ≤ 2147483647) (b_t_place : -2147483648 ≤ t_place ∧ t_place ≤ 2147483647) (b_p1 : -2147483648 ≤ p1 ∧ p1 ≤ 2147483647) (b_p2 : -2147483648 ≤ p2 ∧ p2 ≤ 2147483647) : Met l yX10_takesNumber (Cond.code yX10_takesNumber cX10_takesNumber 3 (some .boolean) :: wA) ({ frames := 1, cells := 0, slots := 0, locals := 22 }) (va_Pc [.ref a_t, .int (iZ p1), .int (iZ p2)] (fun U => U.heap.size = sz ∧ va_P (dC, dI) vwCl (wk_0 a_t q_t_bytes t_length t_at t_tokenAt t_tokenEnd t_own t_name t_number t_fault t_place q_t_bytes k_t_bytes g_t_bytes) U.heap ∧ va_K (dC, dI) vwCl [(k_t_bytes, .int)] U ∧ va_D (fun _ => True) (wk_0 a_t q_t_bytes t_length t_at t_tokenAt t_tokenEnd t_own t_name t_number t_fault t_place q_t_bytes k_t_bytes g_t_bytes) ∧ nwAll U)) (va_Qi (fun (r : Int32) (zR : Int) => r = iZ zR ∧ (0 ≤ zR ∧ zR ≤ 1)) (fun zR t => ∃ n_t_at : Int, ∃ n_t_tokenAt : Int, ∃ n_t_tokenEnd : Int, ∃ n_t_number : Int, ∃ n_t_fault : Int, ∃ n_t_place : Int, (0 ≤ n_t_at ∧ n_t_at ≤ 1600) ∧ (0 ≤ n_t_tokenAt ∧ n_t_tokenAt ≤ 1599) ∧ (-1 ≤ n_t_tokenEnd ∧ n_t_tokenEnd ≤ 1600) ∧ (0 ≤ n_t_number ∧ n_t_number ≤ 999) ∧ (-2147483648 ≤ n_t_fault ∧ n_t_fault ≤ 2147483647) ∧ (-2147483648 ≤ n_t_place ∧ n_t_place ≤ 2147483647) ∧ ((zR = 0 ∧ t_at ≤ n_t_at) ∨ (zR = 1 ∧ p1 ≤ n_t_number ∧ n_t_number ≤ p2 ∧ t_at + 1 ≤ n_t_at ∧ n_t_at ≤ t_length)) ∧ va_P (dC, dI) vwCl (wk_0 a_t q_t_bytes t_length n_t_at n_t_tokenAt n_t_tokenEnd t_own t_name n_t_number n_t_fault n_t_place q_t_bytes k_t_bytes g_t_bytes) t.heap ∧ va_K (dC, dI) vwCl [(k_t_bytes, .int)] t ∧ va_D (va_A (wk_0 a_t q_t_bytes t_length t_at t_tokenAt t_tokenEnd t_own t_name t_number t_fault t_place q_t_bytes k_t_bytes g_t_bytes) sz) (wk_0 a_t q_t_bytes t_length n_t_at n_t_tokenAt n_t_tokenEnd t_own t_name n_t_number n_t_fault n_t_place q_t_bytes k_t_bytes g_t_bytes)) (va_A (wk_0 a_t q_t_bytes t_length t_at t_tokenAt t_tokenEnd t_own t_name t_number t_fault t_place q_t_bytes k_t_bytes g_t_bytes) sz)) 0 0 (va_A (wk_0 a_t q_t_bytes t_length t_at t_tokenAt t_tokenEnd t_own t_name t_number t_fault t_place q_t_bytes k_t_bytes g_t_bytes) sz) := by
  refine Met.ofW (cc := cX10_takesNumber) (maxL := 3) (ret := (some .boolean)) (by decide) rfl ?_
  intro p e s m args below meth c s₁ B hml hv
  obtain ⟨rfl, hsz, hP, hK, hD0, hN⟩ := hv
  have hx := B.exec
  have hb := B.bytes
  have hr := B.returns
  have hts : ∀ w ∈ wA, w.before [.ref a_t, .int (iZ p1), .int (iZ p2)].toArray s = true := fun w h => atoms_spec (ws := Cond.code yX10_takesNumber cX10_takesNumber 3 (some .boolean) :: wA) B.pre w (List.mem_cons_of_mem _ h)
  have hown : s.vm.findClass RX10 = some m.cls := findClass_of_methodNamed B.named
  have hlocks := B.notSynchronized
  subst hsz
  have hD := hD0.self (sz := s.heap.size)
  generalize hQ : MQ below (va_Qi (fun (r : Int32) (zR : Int) => r = iZ zR ∧ (0 ≤ zR ∧ zR ≤ 1)) (fun zR t => ∃ n_t_at : Int, ∃ n_t_tokenAt : Int, ∃ n_t_tokenEnd : Int, ∃ n_t_number : Int, ∃ n_t_fault : Int, ∃ n_t_place : Int, (0 ≤ n_t_at ∧ n_t_at ≤ 1600) ∧ (0 ≤ n_t_tokenAt ∧ n_t_tokenAt ≤ 1599) ∧ (-1 ≤ n_t_tokenEnd ∧ n_t_tokenEnd ≤ 1600) ∧ (0 ≤ n_t_number ∧ n_t_number ≤ 999) ∧ (-2147483648 ≤ n_t_fault ∧ n_t_fault ≤ 2147483647) ∧ (-2147483648 ≤ n_t_place ∧ n_t_place ≤ 2147483647) ∧ ((zR = 0 ∧ t_at ≤ n_t_at) ∨ (zR = 1 ∧ p1 ≤ n_t_number ∧ n_t_number ≤ p2 ∧ t_at + 1 ≤ n_t_at ∧ n_t_at ≤ t_length)) ∧ va_P (dC, dI) vwCl (wk_0 a_t q_t_bytes t_length n_t_at n_t_tokenAt n_t_tokenEnd t_own t_name n_t_number n_t_fault n_t_place q_t_bytes k_t_bytes g_t_bytes) t.heap ∧ va_K (dC, dI) vwCl [(k_t_bytes, .int)] t ∧ va_D (va_A (wk_0 a_t q_t_bytes t_length t_at t_tokenAt t_tokenEnd t_own t_name t_number t_fault t_place q_t_bytes k_t_bytes g_t_bytes) s.heap.size) (wk_0 a_t q_t_bytes t_length n_t_at n_t_tokenAt n_t_tokenEnd t_own t_name n_t_number n_t_fault n_t_place q_t_bytes k_t_bytes g_t_bytes)) (va_A (wk_0 a_t q_t_bytes t_length t_at t_tokenAt t_tokenEnd t_own t_name t_number t_fault t_place q_t_bytes k_t_bytes g_t_bytes) s.heap.size)) [.ref a_t, .int (iZ p1), .int (iZ p2)].toArray s 0 0 (va_A (wk_0 a_t q_t_bytes t_length t_at t_tokenAt t_tokenEnd t_own t_name t_number t_fault t_place q_t_bytes k_t_bytes g_t_bytes) s.heap.size) = Q
  have hA : ∀ q : Nat, s.heap.size ≤ q → va_A (wk_0 a_t q_t_bytes t_length t_at t_tokenAt t_tokenEnd t_own t_name t_number t_fault t_place q_t_bytes k_t_bytes g_t_bytes) s.heap.size q := fun q h => Or.inr h
  generalize hAe : va_A (wk_0 a_t q_t_bytes t_length t_at t_tokenAt t_tokenEnd t_own t_name t_number t_fault t_place q_t_bytes k_t_bytes g_t_bytes) s.heap.size = A at hD hA hQ
  have hS : va_S A s.heap s.heap [] := va_S.rf
  have hl := lv_entry ([.ref a_t, .int (iZ p1), .int (iZ p2)]) (n := 3) (Nat.le_of_ble_eq_true rfl)
  rw [lg_entry_eq]
  generalize (lg_sl ([.ref a_t, .int (iZ p1), .int (iZ p2)]) ++ List.replicate (3 - (lg_sl ([.ref a_t, .int (iZ p1), .int (iZ p2)])).length) Slot.unset).toArray = ls at hl ⊢
  have hl : lv_has ls 3 [(0, .ref a_t), (1, .int (iZ p1)), (2, .int (iZ p2))] := hl
  refine lv_aload_n hx hb dX10_takesNumber_0 rfl (lv_at hl 0 rfl) ?_
  have hPc := hP.sub (ws' := (wk_0 a_t q_t_bytes t_length t_at t_tokenAt t_tokenEnd t_own t_name t_number t_fault t_place q_t_bytes k_t_bytes g_t_bytes)) [0, 1] rfl
  have hDc := hD.sub (ws' := (wk_0 a_t q_t_bytes t_length t_at t_tokenAt t_tokenEnd t_own t_name t_number t_fault t_place q_t_bytes k_t_bytes g_t_bytes)) [0, 1] (by decide) rfl
  have hKc := hK.sub (tys' := [(k_t_bytes, .int)]) [0] rfl
  have hFc := va_free (wc := (wk_0 a_t q_t_bytes t_length t_at t_tokenAt t_tokenEnd t_own t_name t_number t_fault t_place q_t_bytes k_t_bytes g_t_bytes)) hD hS hA [0, 1] rfl
  refine va_calli (va_runV (As := []) (rest := []) ⟨hx, hb, hml, hown, hts⟩ (z_X10_peek_x l dC dI a_t q_t_bytes t_length t_at t_tokenAt t_tokenEnd t_own t_name t_number t_fault t_place k_t_bytes g_t_bytes s.heap.size hb_g_t_bytes (by omega) (by omega) (by omega) (by omega) (by omega) (by omega) (by omega) (by omega)) (cwV 0 hts (gV q_140 q_141 q_142 q_136 q_143) rfl rfl rfl mdv_yX10_peek ⟨Nat.le_of_ble_eq_true rfl, Nat.le_of_ble_eq_true rfl⟩) ⟨fun a U g mk q => by obtain ⟨q0, q1, qP, qK, qD, qN⟩ := q; exact ⟨q0, q1, qP, va_K.moved (u := U) (U := U.calling g mk a) (Vm.Alike.refl U.vm) qK, qD, nwAll_same (u := U) (U := U.calling g mk a) rfl qN⟩, va_recv hKc hPc (ci := 10) (q0 := 0) rfl rfl, fun U hU hW => ⟨rfl, by rw [hU], by rw [hU]; exact hPc, va_K.moved hW.alike hKc, hDc.weaken (fun _ _ _ _ => trivial), nwAll_warm hW hN⟩⟩ rfl rfl hl.1 rfl (lv_room (Nat.le_of_ble_eq_true rfl)) dX10_takesNumber_1 ⟨Nat.le_of_ble_eq_true rfl, Nat.le_of_ble_eq_true rfl⟩) hS (fun q _ h => hFc q h) hFc (fun r39398 z39399 t H1 locs ht hvm hw hB hz1 hk1 hS => ?_)
  obtain ⟨rfl, h39403⟩ := hw
  obtain ⟨z39400, h39401, h39402, hP1, hK1, hD1⟩ := hB
  rw [ht] at hP1
  obtain ⟨hP, hD⟩ := va_join (wr := []) (w1 := (wk_0 a_t q_t_bytes t_length z39400 t_tokenAt t_tokenEnd t_own t_name t_number t_fault t_place q_t_bytes k_t_bytes g_t_bytes)) hP hD [0, 1] [] rfl rfl (by decide) (by decide) hk1 hFc hP1 hD1
  generalize H1 = H at hP hS ⊢
  have hP : va_P (dC, dI) vwCl (wk_0 a_t q_t_bytes t_length z39400 t_tokenAt t_tokenEnd t_own t_name t_number t_fault t_place q_t_bytes k_t_bytes g_t_bytes) H := hP
  have hD : va_D A (wk_0 a_t q_t_bytes t_length z39400 t_tokenAt t_tokenEnd t_own t_name t_number t_fault t_place q_t_bytes k_t_bytes g_t_bytes) := hD
  have hPc := hP.sub (ws' := []) [] rfl
  have hDc := hD.sub (ws' := []) [] (by decide) rfl
  have hKc := hK.sub (tys' := []) [] rfl
  have hFc := va_free (wc := []) hD hS hA [] rfl
  refine va_calli (va_runS (As := [.int (iZ z39399)]) (rest := []) ⟨hx, hb, hml, hown, hts⟩ (z_X10_isDigit_x l dC dI z39399 H.size (by omega)) (va_cwS 1 hts (gS q_147 q_148 q_136 q_130) rfl rfl rfl mds_yX10_isDigit ⟨Nat.le_of_ble_eq_true rfl, Nat.le_of_ble_eq_true rfl⟩) ⟨fun a U g mk q => by obtain ⟨q0, q1, qP, qK, qD, qN⟩ := q; exact ⟨q0, q1, qP, va_K.moved (u := U) (U := U.calling g mk a) (Vm.Alike.refl U.vm) qK, qD, nwAll_same (u := U) (U := U.calling g mk a) rfl qN⟩, fun U hU hW => ⟨rfl, by rw [hU], by rw [hU]; exact hPc, va_K.moved hW.alike hKc, hDc.weaken (fun _ _ _ _ => trivial), nwAll_warm hW hN⟩⟩ rfl rfl hl.1 rfl (lv_room (Nat.le_of_ble_eq_true rfl)) dX10_takesNumber_4 ⟨Nat.le_of_ble_eq_true rfl, Nat.le_of_ble_eq_true rfl⟩) hS (fun q _ h => hFc q h) hFc (fun r39404 z39405 t H1 locs ht hvm hw hB hz1 hk1 hS => ?_)
  obtain ⟨rfl, h39406, h39407⟩ := hw
  obtain ⟨hP1, hK1, hD1⟩ := hB
  rw [ht] at hP1
  obtain ⟨hP, hD⟩ := va_join (wr := (wk_0 a_t q_t_bytes t_length z39400 t_tokenAt t_tokenEnd t_own t_name t_number t_fault t_place q_t_bytes k_t_bytes g_t_bytes)) (w1 := []) hP hD [] [0, 1] rfl rfl (by decide) (by decide) hk1 hFc hP1 hD1
  generalize H1 = H at hP hS ⊢
  have hP : va_P (dC, dI) vwCl (wk_0 a_t q_t_bytes t_length z39400 t_tokenAt t_tokenEnd t_own t_name t_number t_fault t_place q_t_bytes k_t_bytes g_t_bytes) H := hP
  have hD : va_D A (wk_0 a_t q_t_bytes t_length z39400 t_tokenAt t_tokenEnd t_own t_name t_number t_fault t_place q_t_bytes k_t_bytes g_t_bytes) := hD
  refine zv_if_eq (tgt := 21) hx hb dX10_takesNumber_7 (by decide) (by omega) (fun c39408 => ?_) (fun c39408 => ?_)
  · refine lv_aload_n hx hb dX10_takesNumber_21 rfl (lv_at hl 0 rfl) ?_
    refine lv_iconst (v := iZ 1) hx hb dX10_takesNumber_22 (by decide) ?_
    refine lv_aload_n hx hb dX10_takesNumber_23 rfl (lv_at hl 0 rfl) ?_
    refine va_get (D := (dC, dI)) (ci := 10) (v := .int (iZ z39400)) (C := RX10) (T := TX10) (N := 10) hx hb hts i_X10 hown hK hP 0 rfl rfl 2 (by decide) (hts _ q_122) (fun _ h9 => h9) rfl dX10_takesNumber_24 ?_
    have hPc := hP.sub (ws' := (wk_0 a_t q_t_bytes t_length z39400 t_tokenAt t_tokenEnd t_own t_name t_number t_fault t_place q_t_bytes k_t_bytes g_t_bytes)) [0, 1] rfl
    have hDc := hD.sub (ws' := (wk_0 a_t q_t_bytes t_length z39400 t_tokenAt t_tokenEnd t_own t_name t_number t_fault t_place q_t_bytes k_t_bytes g_t_bytes)) [0, 1] (by decide) rfl
    have hKc := hK.sub (tys' := [(k_t_bytes, .int)]) [0] rfl
    have hFc := va_free (wc := (wk_0 a_t q_t_bytes t_length z39400 t_tokenAt t_tokenEnd t_own t_name t_number t_fault t_place q_t_bytes k_t_bytes g_t_bytes)) hD hS hA [0, 1] rfl
    refine va_calli (va_runV (As := [.int (iZ 1), .int (iZ z39400)]) (rest := []) ⟨hx, hb, hml, hown, hts⟩ (z_X10_wrong l dC dI a_t 1 z39400 q_t_bytes t_length z39400 t_tokenAt t_tokenEnd t_own t_name t_number t_fault t_place k_t_bytes g_t_bytes H.size hb_g_t_bytes (by omega) (by omega) (by omega) (by omega) (by omega) (by omega) (by omega) (by omega) (by omega) (by omega)) (cwV 2 hts (gV q_133 q_134 q_135 q_136 q_137) rfl rfl rfl mdv_yX10_wrong ⟨Nat.le_of_ble_eq_true rfl, Nat.le_of_ble_eq_true rfl⟩) ⟨fun a U g mk q => by obtain ⟨q0, q1, qP, qK, qD, qN⟩ := q; exact ⟨q0, q1, qP, va_K.moved (u := U) (U := U.calling g mk a) (Vm.Alike.refl U.vm) qK, qD, nwAll_same (u := U) (U := U.calling g mk a) rfl qN⟩, va_recv hKc hPc (ci := 10) (q0 := 0) rfl rfl, fun U hU hW => ⟨rfl, by rw [hU], by rw [hU]; exact hPc, va_K.moved hW.alike hKc, hDc.weaken (fun _ _ _ _ => trivial), nwAll_warm hW hN⟩⟩ rfl rfl hl.1 rfl (lv_room (Nat.le_of_ble_eq_true rfl)) dX10_takesNumber_27 ⟨Nat.le_of_ble_eq_true rfl, Nat.le_of_ble_eq_true rfl⟩) hS (fun q _ h => hFc q h) hFc (fun r39409 z39410 t H1 locs ht hvm hw hB hz1 hk1 hS => ?_)
    obtain ⟨rfl, h39411⟩ := hw
    obtain ⟨hP1, hK1, hD1⟩ := hB
    rw [ht] at hP1
    obtain ⟨hP, hD⟩ := va_join (wr := []) (w1 := (wk_0 a_t q_t_bytes t_length z39400 t_tokenAt t_tokenEnd t_own t_name t_number 1 z39400 q_t_bytes k_t_bytes g_t_bytes)) hP hD [0, 1] [] rfl rfl (by decide) (by decide) hk1 hFc hP1 hD1
    generalize H1 = H at hP hS ⊢
    have hP : va_P (dC, dI) vwCl (wk_0 a_t q_t_bytes t_length z39400 t_tokenAt t_tokenEnd t_own t_name t_number 1 z39400 q_t_bytes k_t_bytes g_t_bytes) H := hP
    have hD : va_D A (wk_0 a_t q_t_bytes t_length z39400 t_tokenAt t_tokenEnd t_own t_name t_number 1 z39400 q_t_bytes k_t_bytes g_t_bytes) := hD
    subst hQ
    exact W.zret (v := iZ z39410) hx hb hr (zb_nar (by omega)) (fun t ht hW => ⟨⟨iZ z39410, z39410, rfl, ⟨rfl, by omega⟩, z39400, t_tokenAt, t_tokenEnd, t_number, 1, z39400, by omega, by omega, by omega, by omega, by omega, by omega, by omega, by rw [ht]; exact hP, va_K.moved hW.alike hK, hD⟩, hS.F ht⟩) hS.2.2 dX10_takesNumber_30
  · refine lv_aload_n hx hb dX10_takesNumber_10 rfl (lv_at hl 0 rfl) ?_
    refine va_get (D := (dC, dI)) (ci := 10) (v := .int (iZ z39400)) (C := RX10) (T := TX10) (N := 10) hx hb hts i_X10 hown hK hP 0 rfl rfl 2 (by decide) (hts _ q_122) (fun _ h9 => h9) rfl dX10_takesNumber_11 ?_
    refine lv_aload_n hx hb dX10_takesNumber_14 rfl (lv_at hl 0 rfl) ?_
    refine va_get (D := (dC, dI)) (ci := 10) (v := .int (iZ t_tokenEnd)) (C := RX10) (T := TX10) (N := 10) hx hb hts i_X10 hown hK hP 0 rfl rfl 4 (by decide) (hts _ q_124) (fun _ h9 => h9) rfl dX10_takesNumber_15 ?_
    refine zv_icmp_ne (tgt := 31) hx hb dX10_takesNumber_18 (by decide) (by omega) (by omega) (fun c39412 => ?_) (fun c39412 => ?_)
    · refine lv_aload_n hx hb dX10_takesNumber_31 rfl (lv_at hl 0 rfl) ?_
      refine lv_aload_n hx hb dX10_takesNumber_32 rfl (lv_at hl 0 rfl) ?_
      refine va_get (D := (dC, dI)) (ci := 10) (v := .int (iZ z39400)) (C := RX10) (T := TX10) (N := 10) hx hb hts i_X10 hown hK hP 0 rfl rfl 2 (by decide) (hts _ q_122) (fun _ h9 => h9) rfl dX10_takesNumber_33 ?_
      refine va_put (D := (dC, dI)) (ci := 10) (v := .int (iZ z39400)) (ty := tyX10 3) (C := RX10) (T := TX10) (N := 10) hx hb hts i_X10 tyX10 tyX10_ok nmX10 hown hK hP hD hS 0 rfl rfl 3 (by decide) (hts _ q_123) (fun _ h9 => h9) rfl (tyX10_ok 3 (by decide)) rfl rfl (Nat.le_of_ble_eq_true rfl) dX10_takesNumber_36 (fun H locs hP hD hS => ?_)
      have hP : va_P (dC, dI) vwCl (wk_0 a_t q_t_bytes t_length z39400 z39400 t_tokenEnd t_own t_name t_number t_fault t_place q_t_bytes k_t_bytes g_t_bytes) H := hP
      have hD : va_D A (wk_0 a_t q_t_bytes t_length z39400 z39400 t_tokenEnd t_own t_name t_number t_fault t_place q_t_bytes k_t_bytes g_t_bytes) := hD
      refine lv_aload_n hx hb dX10_takesNumber_39 rfl (lv_at hl 0 rfl) ?_
      refine lv_iconst (v := iZ 0) hx hb dX10_takesNumber_40 (by decide) ?_
      refine va_put (D := (dC, dI)) (ci := 10) (v := .int (iZ 0)) (ty := tyX10 7) (C := RX10) (T := TX10) (N := 10) hx hb hts i_X10 tyX10 tyX10_ok nmX10 hown hK hP hD hS 0 rfl rfl 7 (by decide) (hts _ q_127) (fun _ h9 => h9) rfl (tyX10_ok 7 (by decide)) rfl rfl (Nat.le_of_ble_eq_true rfl) dX10_takesNumber_41 (fun H locs hP hD hS => ?_)
      have hP : va_P (dC, dI) vwCl (wk_0 a_t q_t_bytes t_length z39400 z39400 t_tokenEnd t_own t_name 0 t_fault t_place q_t_bytes k_t_bytes g_t_bytes) H := hP
      have hD : va_D A (wk_0 a_t q_t_bytes t_length z39400 z39400 t_tokenEnd t_own t_name 0 t_fault t_place q_t_bytes k_t_bytes g_t_bytes) := hD
      have hG39413 : NumI g_t_bytes z39400 z39400 t_length 0 := (Or.inl ⟨by omega, by omega, by omega, by omega⟩)
      have lp_44 : ∀ (N44 : Nat) (H : Heap) (locs : List Loc) (ls : Array Slot) (f39424 : Int) (f39425 : Int), 0 ≤ f39424 - z39400 → 0 ≤ f39425 → 0 ≤ -f39425 + 999 → 0 ≤ -f39424 + t_length → 0 ≤ -f39424 + z39400 + 3 → NumI g_t_bytes f39424 z39400 t_length f39425 → -f39424 + t_length ≤ (N44 : Int) → va_P (dC, dI) vwCl (wk_0 a_t q_t_bytes t_length f39424 z39400 t_tokenEnd t_own t_name f39425 t_fault t_place q_t_bytes k_t_bytes g_t_bytes) H → va_D A (wk_0 a_t q_t_bytes t_length f39424 z39400 t_tokenEnd t_own t_name f39425 t_fault t_place q_t_bytes k_t_bytes g_t_bytes) → va_S A s.heap H locs → lv_has ls 3 [(0, .ref a_t), (1, .int (iZ p1)), (2, .int (iZ p2))] → W p l e (headSpec (Cond.code yX10_takesNumber cX10_takesNumber 3 (some .boolean) :: wA) ({ frames := 1, cells := 0, slots := 0, locals := 22 })).room s m [.ref a_t, .int (iZ p1), .int (iZ p2)].toArray below meth c H locs 0 0 Q (F0 m 44 ls []) := by
        intro N44
        induction N44 using Nat.strongRecOn with
        | ind N44 ih_44 =>
          intro H locs ls f39424 f39425 k44_0 k44_1 k44_2 k44_3 k44_4 hL44_0 hm44 hP hD hS hl
          refine lv_aload_n hx hb dX10_takesNumber_44 rfl (lv_at hl 0 rfl) ?_
          refine va_get (D := (dC, dI)) (ci := 10) (v := .int (iZ f39424)) (C := RX10) (T := TX10) (N := 10) hx hb hts i_X10 hown hK hP 0 rfl rfl 2 (by decide) (hts _ q_122) (fun _ h9 => h9) rfl dX10_takesNumber_45 ?_
          refine lv_aload_n hx hb dX10_takesNumber_48 rfl (lv_at hl 0 rfl) ?_
          refine va_get (D := (dC, dI)) (ci := 10) (v := .int (iZ t_length)) (C := RX10) (T := TX10) (N := 10) hx hb hts i_X10 hown hK hP 0 rfl rfl 1 (by decide) (hts _ q_117) (fun _ h9 => h9) rfl dX10_takesNumber_49 ?_
          refine zv_icmp_ge (tgt := 120) hx hb dX10_takesNumber_52 (by decide) (by omega) (by omega) (fun c39466 => ?_) (fun c39466 => ?_)
          · have hq39467 := hL44_0
            unfold NumI at hq39467
            refine lv_aload_n hx hb dX10_takesNumber_120 rfl (lv_at hl 0 rfl) ?_
            refine lv_aload_n hx hb dX10_takesNumber_121 rfl (lv_at hl 0 rfl) ?_
            refine va_get (D := (dC, dI)) (ci := 10) (v := .int (iZ f39424)) (C := RX10) (T := TX10) (N := 10) hx hb hts i_X10 hown hK hP 0 rfl rfl 2 (by decide) (hts _ q_122) (fun _ h9 => h9) rfl dX10_takesNumber_122 ?_
            refine va_put (D := (dC, dI)) (ci := 10) (v := .int (iZ f39424)) (ty := tyX10 4) (C := RX10) (T := TX10) (N := 10) hx hb hts i_X10 tyX10 tyX10_ok nmX10 hown hK hP hD hS 0 rfl rfl 4 (by decide) (hts _ q_124) (fun _ h9 => h9) rfl (tyX10_ok 4 (by decide)) rfl rfl (Nat.le_of_ble_eq_true rfl) dX10_takesNumber_125 (fun H locs hP hD hS => ?_)
            have hP : va_P (dC, dI) vwCl (wk_0 a_t q_t_bytes t_length f39424 z39400 f39424 t_own t_name f39425 t_fault t_place q_t_bytes k_t_bytes g_t_bytes) H := hP
            have hD : va_D A (wk_0 a_t q_t_bytes t_length f39424 z39400 f39424 t_own t_name f39425 t_fault t_place q_t_bytes k_t_bytes g_t_bytes) := hD
            refine lv_aload_n hx hb dX10_takesNumber_128 rfl (lv_at hl 0 rfl) ?_
            refine va_get (D := (dC, dI)) (ci := 10) (v := .int (iZ f39424)) (C := RX10) (T := TX10) (N := 10) hx hb hts i_X10 hown hK hP 0 rfl rfl 2 (by decide) (hts _ q_122) (fun _ h9 => h9) rfl dX10_takesNumber_129 ?_
            refine lv_aload_n hx hb dX10_takesNumber_132 rfl (lv_at hl 0 rfl) ?_
            refine va_get (D := (dC, dI)) (ci := 10) (v := .int (iZ t_length)) (C := RX10) (T := TX10) (N := 10) hx hb hts i_X10 hown hK hP 0 rfl rfl 1 (by decide) (hts _ q_117) (fun _ h9 => h9) rfl dX10_takesNumber_133 ?_
            refine zv_icmp_ge (tgt := 164) hx hb dX10_takesNumber_136 (by decide) (by omega) (by omega) (fun c39468 => ?_) (fun c39468 => (by omega : False).elim)
            refine lv_aload_n hx hb dX10_takesNumber_164 rfl (lv_at hl 0 rfl) ?_
            refine va_get (D := (dC, dI)) (ci := 10) (v := .int (iZ f39425)) (C := RX10) (T := TX10) (N := 10) hx hb hts i_X10 hown hK hP 0 rfl rfl 7 (by decide) (hts _ q_127) (fun _ h9 => h9) rfl dX10_takesNumber_165 ?_
            refine lv_iload_n hx hb dX10_takesNumber_168 rfl (lv_at hl 1 rfl) ?_
            refine zv_icmp_lt (tgt := 180) hx hb dX10_takesNumber_169 (by decide) (by omega) (by omega) (fun c39469 => ?_) (fun c39469 => ?_)
            · refine lv_aload_n hx hb dX10_takesNumber_180 rfl (lv_at hl 0 rfl) ?_
              refine lv_iconst (v := iZ 2) hx hb dX10_takesNumber_181 (by decide) ?_
              refine lv_aload_n hx hb dX10_takesNumber_182 rfl (lv_at hl 0 rfl) ?_
              refine va_get (D := (dC, dI)) (ci := 10) (v := .int (iZ z39400)) (C := RX10) (T := TX10) (N := 10) hx hb hts i_X10 hown hK hP 0 rfl rfl 3 (by decide) (hts _ q_123) (fun _ h9 => h9) rfl dX10_takesNumber_183 ?_
              have hPc := hP.sub (ws' := (wk_0 a_t q_t_bytes t_length f39424 z39400 f39424 t_own t_name f39425 t_fault t_place q_t_bytes k_t_bytes g_t_bytes)) [0, 1] rfl
              have hDc := hD.sub (ws' := (wk_0 a_t q_t_bytes t_length f39424 z39400 f39424 t_own t_name f39425 t_fault t_place q_t_bytes k_t_bytes g_t_bytes)) [0, 1] (by decide) rfl
              have hKc := hK.sub (tys' := [(k_t_bytes, .int)]) [0] rfl
              have hFc := va_free (wc := (wk_0 a_t q_t_bytes t_length f39424 z39400 f39424 t_own t_name f39425 t_fault t_place q_t_bytes k_t_bytes g_t_bytes)) hD hS hA [0, 1] rfl
              refine va_calli (va_runV (As := [.int (iZ 2), .int (iZ z39400)]) (rest := []) ⟨hx, hb, hml, hown, hts⟩ (z_X10_wrong l dC dI a_t 2 z39400 q_t_bytes t_length f39424 z39400 f39424 t_own t_name f39425 t_fault t_place k_t_bytes g_t_bytes H.size hb_g_t_bytes (by omega) (by omega) (by omega) (by omega) (by omega) (by omega) (by omega) (by omega) (by omega) (by omega)) (cwV 2 hts (gV q_133 q_134 q_135 q_136 q_137) rfl rfl rfl mdv_yX10_wrong ⟨Nat.le_of_ble_eq_true rfl, Nat.le_of_ble_eq_true rfl⟩) ⟨fun a U g mk q => by obtain ⟨q0, q1, qP, qK, qD, qN⟩ := q; exact ⟨q0, q1, qP, va_K.moved (u := U) (U := U.calling g mk a) (Vm.Alike.refl U.vm) qK, qD, nwAll_same (u := U) (U := U.calling g mk a) rfl qN⟩, va_recv hKc hPc (ci := 10) (q0 := 0) rfl rfl, fun U hU hW => ⟨rfl, by rw [hU], by rw [hU]; exact hPc, va_K.moved hW.alike hKc, hDc.weaken (fun _ _ _ _ => trivial), nwAll_warm hW hN⟩⟩ rfl rfl hl.1 rfl (lv_room (Nat.le_of_ble_eq_true rfl)) dX10_takesNumber_186 ⟨Nat.le_of_ble_eq_true rfl, Nat.le_of_ble_eq_true rfl⟩) hS (fun q _ h => hFc q h) hFc (fun r39470 z39471 t H1 locs ht hvm hw hB hz1 hk1 hS => ?_)
              obtain ⟨rfl, h39472⟩ := hw
              obtain ⟨hP1, hK1, hD1⟩ := hB
              rw [ht] at hP1
              obtain ⟨hP, hD⟩ := va_join (wr := []) (w1 := (wk_0 a_t q_t_bytes t_length f39424 z39400 f39424 t_own t_name f39425 2 z39400 q_t_bytes k_t_bytes g_t_bytes)) hP hD [0, 1] [] rfl rfl (by decide) (by decide) hk1 hFc hP1 hD1
              generalize H1 = H at hP hS ⊢
              have hP : va_P (dC, dI) vwCl (wk_0 a_t q_t_bytes t_length f39424 z39400 f39424 t_own t_name f39425 2 z39400 q_t_bytes k_t_bytes g_t_bytes) H := hP
              have hD : va_D A (wk_0 a_t q_t_bytes t_length f39424 z39400 f39424 t_own t_name f39425 2 z39400 q_t_bytes k_t_bytes g_t_bytes) := hD
              refine zv_if_eq (tgt := 196) hx hb dX10_takesNumber_189 (by decide) (by omega) (fun c39473 => ?_) (fun c39473 => (by omega : False).elim)
              refine lv_iconst (v := iZ 0) hx hb dX10_takesNumber_196 (by decide) ?_
              subst hQ
              exact W.zret (v := iZ 0) hx hb hr rfl (fun t ht hW => ⟨⟨iZ 0, 0, rfl, ⟨rfl, by omega⟩, f39424, z39400, f39424, f39425, 2, z39400, by omega, by omega, by omega, by omega, by omega, by omega, by omega, by rw [ht]; exact hP, va_K.moved hW.alike hK, hD⟩, hS.F ht⟩) hS.2.2 dX10_takesNumber_197
            · refine lv_aload_n hx hb dX10_takesNumber_172 rfl (lv_at hl 0 rfl) ?_
              refine va_get (D := (dC, dI)) (ci := 10) (v := .int (iZ f39425)) (C := RX10) (T := TX10) (N := 10) hx hb hts i_X10 hown hK hP 0 rfl rfl 7 (by decide) (hts _ q_127) (fun _ h9 => h9) rfl dX10_takesNumber_173 ?_
              refine lv_iload_n hx hb dX10_takesNumber_176 rfl (lv_at hl 2 rfl) ?_
              refine zv_icmp_le (tgt := 192) hx hb dX10_takesNumber_177 (by decide) (by omega) (by omega) (fun c39474 => ?_) (fun c39474 => ?_)
              · refine lv_iconst (v := iZ 1) hx hb dX10_takesNumber_192 (by decide) ?_
                refine lv_goto (tgt := 197) hx hb dX10_takesNumber_193 (by decide) ?_
                subst hQ
                exact W.zret (v := iZ 1) hx hb hr rfl (fun t ht hW => ⟨⟨iZ 1, 1, rfl, ⟨rfl, by omega⟩, f39424, z39400, f39424, f39425, t_fault, t_place, by omega, by omega, by omega, by omega, by omega, by omega, by omega, by rw [ht]; exact hP, va_K.moved hW.alike hK, hD⟩, hS.F ht⟩) hS.2.2 dX10_takesNumber_197
              · refine lv_aload_n hx hb dX10_takesNumber_180 rfl (lv_at hl 0 rfl) ?_
                refine lv_iconst (v := iZ 2) hx hb dX10_takesNumber_181 (by decide) ?_
                refine lv_aload_n hx hb dX10_takesNumber_182 rfl (lv_at hl 0 rfl) ?_
                refine va_get (D := (dC, dI)) (ci := 10) (v := .int (iZ z39400)) (C := RX10) (T := TX10) (N := 10) hx hb hts i_X10 hown hK hP 0 rfl rfl 3 (by decide) (hts _ q_123) (fun _ h9 => h9) rfl dX10_takesNumber_183 ?_
                have hPc := hP.sub (ws' := (wk_0 a_t q_t_bytes t_length f39424 z39400 f39424 t_own t_name f39425 t_fault t_place q_t_bytes k_t_bytes g_t_bytes)) [0, 1] rfl
                have hDc := hD.sub (ws' := (wk_0 a_t q_t_bytes t_length f39424 z39400 f39424 t_own t_name f39425 t_fault t_place q_t_bytes k_t_bytes g_t_bytes)) [0, 1] (by decide) rfl
                have hKc := hK.sub (tys' := [(k_t_bytes, .int)]) [0] rfl
                have hFc := va_free (wc := (wk_0 a_t q_t_bytes t_length f39424 z39400 f39424 t_own t_name f39425 t_fault t_place q_t_bytes k_t_bytes g_t_bytes)) hD hS hA [0, 1] rfl
                refine va_calli (va_runV (As := [.int (iZ 2), .int (iZ z39400)]) (rest := []) ⟨hx, hb, hml, hown, hts⟩ (z_X10_wrong l dC dI a_t 2 z39400 q_t_bytes t_length f39424 z39400 f39424 t_own t_name f39425 t_fault t_place k_t_bytes g_t_bytes H.size hb_g_t_bytes (by omega) (by omega) (by omega) (by omega) (by omega) (by omega) (by omega) (by omega) (by omega) (by omega)) (cwV 2 hts (gV q_133 q_134 q_135 q_136 q_137) rfl rfl rfl mdv_yX10_wrong ⟨Nat.le_of_ble_eq_true rfl, Nat.le_of_ble_eq_true rfl⟩) ⟨fun a U g mk q => by obtain ⟨q0, q1, qP, qK, qD, qN⟩ := q; exact ⟨q0, q1, qP, va_K.moved (u := U) (U := U.calling g mk a) (Vm.Alike.refl U.vm) qK, qD, nwAll_same (u := U) (U := U.calling g mk a) rfl qN⟩, va_recv hKc hPc (ci := 10) (q0 := 0) rfl rfl, fun U hU hW => ⟨rfl, by rw [hU], by rw [hU]; exact hPc, va_K.moved hW.alike hKc, hDc.weaken (fun _ _ _ _ => trivial), nwAll_warm hW hN⟩⟩ rfl rfl hl.1 rfl (lv_room (Nat.le_of_ble_eq_true rfl)) dX10_takesNumber_186 ⟨Nat.le_of_ble_eq_true rfl, Nat.le_of_ble_eq_true rfl⟩) hS (fun q _ h => hFc q h) hFc (fun r39475 z39476 t H1 locs ht hvm hw hB hz1 hk1 hS => ?_)
                obtain ⟨rfl, h39477⟩ := hw
                obtain ⟨hP1, hK1, hD1⟩ := hB
                rw [ht] at hP1
                obtain ⟨hP, hD⟩ := va_join (wr := []) (w1 := (wk_0 a_t q_t_bytes t_length f39424 z39400 f39424 t_own t_name f39425 2 z39400 q_t_bytes k_t_bytes g_t_bytes)) hP hD [0, 1] [] rfl rfl (by decide) (by decide) hk1 hFc hP1 hD1
                generalize H1 = H at hP hS ⊢
                have hP : va_P (dC, dI) vwCl (wk_0 a_t q_t_bytes t_length f39424 z39400 f39424 t_own t_name f39425 2 z39400 q_t_bytes k_t_bytes g_t_bytes) H := hP
                have hD : va_D A (wk_0 a_t q_t_bytes t_length f39424 z39400 f39424 t_own t_name f39425 2 z39400 q_t_bytes k_t_bytes g_t_bytes) := hD
                refine zv_if_eq (tgt := 196) hx hb dX10_takesNumber_189 (by decide) (by omega) (fun c39478 => ?_) (fun c39478 => (by omega : False).elim)
                refine lv_iconst (v := iZ 0) hx hb dX10_takesNumber_196 (by decide) ?_
                subst hQ
                exact W.zret (v := iZ 0) hx hb hr rfl (fun t ht hW => ⟨⟨iZ 0, 0, rfl, ⟨rfl, by omega⟩, f39424, z39400, f39424, f39425, 2, z39400, by omega, by omega, by omega, by omega, by omega, by omega, by omega, by rw [ht]; exact hP, va_K.moved hW.alike hK, hD⟩, hS.F ht⟩) hS.2.2 dX10_takesNumber_197
          · refine lv_aload_n hx hb dX10_takesNumber_55 rfl (lv_at hl 0 rfl) ?_
            refine va_get (D := (dC, dI)) (ci := 10) (v := .int (iZ f39424)) (C := RX10) (T := TX10) (N := 10) hx hb hts i_X10 hown hK hP 0 rfl rfl 2 (by decide) (hts _ q_122) (fun _ h9 => h9) rfl dX10_takesNumber_56 ?_
            refine lv_aload_n hx hb dX10_takesNumber_59 rfl (lv_at hl 0 rfl) ?_
            refine va_get (D := (dC, dI)) (ci := 10) (v := .int (iZ z39400)) (C := RX10) (T := TX10) (N := 10) hx hb hts i_X10 hown hK hP 0 rfl rfl 3 (by decide) (hts _ q_123) (fun _ h9 => h9) rfl dX10_takesNumber_60 ?_
            refine lv_iconst (v := iZ 3) hx hb dX10_takesNumber_63 (by decide) ?_
            refine zv_iadd hx hb (z39400 + 3) (by omega) dX10_takesNumber_64 ?_
            refine zv_icmp_ge (tgt := 120) hx hb dX10_takesNumber_65 (by decide) (by omega) (by omega) (fun c39479 => ?_) (fun c39479 => ?_)
            · have hq39480 := hL44_0
              unfold NumI at hq39480
              refine lv_aload_n hx hb dX10_takesNumber_120 rfl (lv_at hl 0 rfl) ?_
              refine lv_aload_n hx hb dX10_takesNumber_121 rfl (lv_at hl 0 rfl) ?_
              refine va_get (D := (dC, dI)) (ci := 10) (v := .int (iZ f39424)) (C := RX10) (T := TX10) (N := 10) hx hb hts i_X10 hown hK hP 0 rfl rfl 2 (by decide) (hts _ q_122) (fun _ h9 => h9) rfl dX10_takesNumber_122 ?_
              refine va_put (D := (dC, dI)) (ci := 10) (v := .int (iZ f39424)) (ty := tyX10 4) (C := RX10) (T := TX10) (N := 10) hx hb hts i_X10 tyX10 tyX10_ok nmX10 hown hK hP hD hS 0 rfl rfl 4 (by decide) (hts _ q_124) (fun _ h9 => h9) rfl (tyX10_ok 4 (by decide)) rfl rfl (Nat.le_of_ble_eq_true rfl) dX10_takesNumber_125 (fun H locs hP hD hS => ?_)
              have hP : va_P (dC, dI) vwCl (wk_0 a_t q_t_bytes t_length f39424 z39400 f39424 t_own t_name f39425 t_fault t_place q_t_bytes k_t_bytes g_t_bytes) H := hP
              have hD : va_D A (wk_0 a_t q_t_bytes t_length f39424 z39400 f39424 t_own t_name f39425 t_fault t_place q_t_bytes k_t_bytes g_t_bytes) := hD
              refine lv_aload_n hx hb dX10_takesNumber_128 rfl (lv_at hl 0 rfl) ?_
              refine va_get (D := (dC, dI)) (ci := 10) (v := .int (iZ f39424)) (C := RX10) (T := TX10) (N := 10) hx hb hts i_X10 hown hK hP 0 rfl rfl 2 (by decide) (hts _ q_122) (fun _ h9 => h9) rfl dX10_takesNumber_129 ?_
              refine lv_aload_n hx hb dX10_takesNumber_132 rfl (lv_at hl 0 rfl) ?_
              refine va_get (D := (dC, dI)) (ci := 10) (v := .int (iZ t_length)) (C := RX10) (T := TX10) (N := 10) hx hb hts i_X10 hown hK hP 0 rfl rfl 1 (by decide) (hts _ q_117) (fun _ h9 => h9) rfl dX10_takesNumber_133 ?_
              refine zv_icmp_ge (tgt := 164) hx hb dX10_takesNumber_136 (by decide) (by omega) (by omega) (fun c39481 => (by omega : False).elim) (fun c39481 => ?_)
              have hr39482 : 0 ≤ f39424 - z39400 - 3 ∧ 0 ≤ -f39424 + z39400 + 3 ∧ 0 ≤ f39425 ∧ 0 ≤ -f39425 + 999 := by omega
              refine lv_aload_n hx hb dX10_takesNumber_139 rfl (lv_at hl 0 rfl) ?_
              refine va_get (D := (dC, dI)) (ci := 10) (v := .ref q_t_bytes) (C := RX10) (T := TX10) (N := 10) hx hb hts i_X10 hown hK hP 0 rfl rfl 0 (by decide) (hts _ q_118) (fun _ h9 => h9) rfl dX10_takesNumber_140 ?_
              refine lv_aload_n hx hb dX10_takesNumber_143 rfl (lv_at hl 0 rfl) ?_
              refine va_get (D := (dC, dI)) (ci := 10) (v := .int (iZ f39424)) (C := RX10) (T := TX10) (N := 10) hx hb hts i_X10 hown hK hP 0 rfl rfl 2 (by decide) (hts _ q_122) (fun _ h9 => h9) rfl dX10_takesNumber_144 ?_
              refine zv_iald hx hb hK hP 1 0 rfl rfl (by omega) (by omega) (by omega) dX10_takesNumber_147 (fun z39483 ez39483 => ?_)
              have bz39483 : 0 ≤ z39483 ∧ z39483 ≤ 255 := by rw [ez39483]; exact hb_g_t_bytes _ (by omega)
              have hPc := hP.sub (ws' := []) [] rfl
              have hDc := hD.sub (ws' := []) [] (by decide) rfl
              have hKc := hK.sub (tys' := []) [] rfl
              have hFc := va_free (wc := []) hD hS hA [] rfl
              refine va_calli (va_runS (As := [.int (iZ z39483)]) (rest := []) ⟨hx, hb, hml, hown, hts⟩ (z_X10_isDigit_x l dC dI z39483 H.size (by omega)) (va_cwS 1 hts (gS q_147 q_148 q_136 q_130) rfl rfl rfl mds_yX10_isDigit ⟨Nat.le_of_ble_eq_true rfl, Nat.le_of_ble_eq_true rfl⟩) ⟨fun a U g mk q => by obtain ⟨q0, q1, qP, qK, qD, qN⟩ := q; exact ⟨q0, q1, qP, va_K.moved (u := U) (U := U.calling g mk a) (Vm.Alike.refl U.vm) qK, qD, nwAll_same (u := U) (U := U.calling g mk a) rfl qN⟩, fun U hU hW => ⟨rfl, by rw [hU], by rw [hU]; exact hPc, va_K.moved hW.alike hKc, hDc.weaken (fun _ _ _ _ => trivial), nwAll_warm hW hN⟩⟩ rfl rfl hl.1 rfl (lv_room (Nat.le_of_ble_eq_true rfl)) dX10_takesNumber_148 ⟨Nat.le_of_ble_eq_true rfl, Nat.le_of_ble_eq_true rfl⟩) hS (fun q _ h => hFc q h) hFc (fun r39484 z39485 t H1 locs ht hvm hw hB hz1 hk1 hS => ?_)
              obtain ⟨rfl, h39486, h39487⟩ := hw
              obtain ⟨hP1, hK1, hD1⟩ := hB
              rw [ht] at hP1
              obtain ⟨hP, hD⟩ := va_join (wr := (wk_0 a_t q_t_bytes t_length f39424 z39400 f39424 t_own t_name f39425 t_fault t_place q_t_bytes k_t_bytes g_t_bytes)) (w1 := []) hP hD [] [0, 1] rfl rfl (by decide) (by decide) hk1 hFc hP1 hD1
              generalize H1 = H at hP hS ⊢
              have hP : va_P (dC, dI) vwCl (wk_0 a_t q_t_bytes t_length f39424 z39400 f39424 t_own t_name f39425 t_fault t_place q_t_bytes k_t_bytes g_t_bytes) H := hP
              have hD : va_D A (wk_0 a_t q_t_bytes t_length f39424 z39400 f39424 t_own t_name f39425 t_fault t_place q_t_bytes k_t_bytes g_t_bytes) := hD
              refine zv_if_eq (tgt := 164) hx hb dX10_takesNumber_151 (by decide) (by omega) (fun c39488 => ?_) (fun c39488 => ?_)
              · refine lv_aload_n hx hb dX10_takesNumber_164 rfl (lv_at hl 0 rfl) ?_
                refine va_get (D := (dC, dI)) (ci := 10) (v := .int (iZ f39425)) (C := RX10) (T := TX10) (N := 10) hx hb hts i_X10 hown hK hP 0 rfl rfl 7 (by decide) (hts _ q_127) (fun _ h9 => h9) rfl dX10_takesNumber_165 ?_
                refine lv_iload_n hx hb dX10_takesNumber_168 rfl (lv_at hl 1 rfl) ?_
                refine zv_icmp_lt (tgt := 180) hx hb dX10_takesNumber_169 (by decide) (by omega) (by omega) (fun c39489 => ?_) (fun c39489 => ?_)
                · refine lv_aload_n hx hb dX10_takesNumber_180 rfl (lv_at hl 0 rfl) ?_
                  refine lv_iconst (v := iZ 2) hx hb dX10_takesNumber_181 (by decide) ?_
                  refine lv_aload_n hx hb dX10_takesNumber_182 rfl (lv_at hl 0 rfl) ?_
                  refine va_get (D := (dC, dI)) (ci := 10) (v := .int (iZ z39400)) (C := RX10) (T := TX10) (N := 10) hx hb hts i_X10 hown hK hP 0 rfl rfl 3 (by decide) (hts _ q_123) (fun _ h9 => h9) rfl dX10_takesNumber_183 ?_
                  have hPc := hP.sub (ws' := (wk_0 a_t q_t_bytes t_length f39424 z39400 f39424 t_own t_name f39425 t_fault t_place q_t_bytes k_t_bytes g_t_bytes)) [0, 1] rfl
                  have hDc := hD.sub (ws' := (wk_0 a_t q_t_bytes t_length f39424 z39400 f39424 t_own t_name f39425 t_fault t_place q_t_bytes k_t_bytes g_t_bytes)) [0, 1] (by decide) rfl
                  have hKc := hK.sub (tys' := [(k_t_bytes, .int)]) [0] rfl
                  have hFc := va_free (wc := (wk_0 a_t q_t_bytes t_length f39424 z39400 f39424 t_own t_name f39425 t_fault t_place q_t_bytes k_t_bytes g_t_bytes)) hD hS hA [0, 1] rfl
                  refine va_calli (va_runV (As := [.int (iZ 2), .int (iZ z39400)]) (rest := []) ⟨hx, hb, hml, hown, hts⟩ (z_X10_wrong l dC dI a_t 2 z39400 q_t_bytes t_length f39424 z39400 f39424 t_own t_name f39425 t_fault t_place k_t_bytes g_t_bytes H.size hb_g_t_bytes (by omega) (by omega) (by omega) (by omega) (by omega) (by omega) (by omega) (by omega) (by omega) (by omega)) (cwV 2 hts (gV q_133 q_134 q_135 q_136 q_137) rfl rfl rfl mdv_yX10_wrong ⟨Nat.le_of_ble_eq_true rfl, Nat.le_of_ble_eq_true rfl⟩) ⟨fun a U g mk q => by obtain ⟨q0, q1, qP, qK, qD, qN⟩ := q; exact ⟨q0, q1, qP, va_K.moved (u := U) (U := U.calling g mk a) (Vm.Alike.refl U.vm) qK, qD, nwAll_same (u := U) (U := U.calling g mk a) rfl qN⟩, va_recv hKc hPc (ci := 10) (q0 := 0) rfl rfl, fun U hU hW => ⟨rfl, by rw [hU], by rw [hU]; exact hPc, va_K.moved hW.alike hKc, hDc.weaken (fun _ _ _ _ => trivial), nwAll_warm hW hN⟩⟩ rfl rfl hl.1 rfl (lv_room (Nat.le_of_ble_eq_true rfl)) dX10_takesNumber_186 ⟨Nat.le_of_ble_eq_true rfl, Nat.le_of_ble_eq_true rfl⟩) hS (fun q _ h => hFc q h) hFc (fun r39490 z39491 t H1 locs ht hvm hw hB hz1 hk1 hS => ?_)
                  obtain ⟨rfl, h39492⟩ := hw
                  obtain ⟨hP1, hK1, hD1⟩ := hB
                  rw [ht] at hP1
                  obtain ⟨hP, hD⟩ := va_join (wr := []) (w1 := (wk_0 a_t q_t_bytes t_length f39424 z39400 f39424 t_own t_name f39425 2 z39400 q_t_bytes k_t_bytes g_t_bytes)) hP hD [0, 1] [] rfl rfl (by decide) (by decide) hk1 hFc hP1 hD1
                  generalize H1 = H at hP hS ⊢
                  have hP : va_P (dC, dI) vwCl (wk_0 a_t q_t_bytes t_length f39424 z39400 f39424 t_own t_name f39425 2 z39400 q_t_bytes k_t_bytes g_t_bytes) H := hP
                  have hD : va_D A (wk_0 a_t q_t_bytes t_length f39424 z39400 f39424 t_own t_name f39425 2 z39400 q_t_bytes k_t_bytes g_t_bytes) := hD
                  refine zv_if_eq (tgt := 196) hx hb dX10_takesNumber_189 (by decide) (by omega) (fun c39493 => ?_) (fun c39493 => (by omega : False).elim)
                  refine lv_iconst (v := iZ 0) hx hb dX10_takesNumber_196 (by decide) ?_
                  subst hQ
                  exact W.zret (v := iZ 0) hx hb hr rfl (fun t ht hW => ⟨⟨iZ 0, 0, rfl, ⟨rfl, by omega⟩, f39424, z39400, f39424, f39425, 2, z39400, by omega, by omega, by omega, by omega, by omega, by omega, by omega, by rw [ht]; exact hP, va_K.moved hW.alike hK, hD⟩, hS.F ht⟩) hS.2.2 dX10_takesNumber_197
                · refine lv_aload_n hx hb dX10_takesNumber_172 rfl (lv_at hl 0 rfl) ?_
                  refine va_get (D := (dC, dI)) (ci := 10) (v := .int (iZ f39425)) (C := RX10) (T := TX10) (N := 10) hx hb hts i_X10 hown hK hP 0 rfl rfl 7 (by decide) (hts _ q_127) (fun _ h9 => h9) rfl dX10_takesNumber_173 ?_
                  refine lv_iload_n hx hb dX10_takesNumber_176 rfl (lv_at hl 2 rfl) ?_
                  refine zv_icmp_le (tgt := 192) hx hb dX10_takesNumber_177 (by decide) (by omega) (by omega) (fun c39494 => ?_) (fun c39494 => ?_)
                  · refine lv_iconst (v := iZ 1) hx hb dX10_takesNumber_192 (by decide) ?_
                    refine lv_goto (tgt := 197) hx hb dX10_takesNumber_193 (by decide) ?_
                    subst hQ
                    exact W.zret (v := iZ 1) hx hb hr rfl (fun t ht hW => ⟨⟨iZ 1, 1, rfl, ⟨rfl, by omega⟩, f39424, z39400, f39424, f39425, t_fault, t_place, by omega, by omega, by omega, by omega, by omega, by omega, by omega, by rw [ht]; exact hP, va_K.moved hW.alike hK, hD⟩, hS.F ht⟩) hS.2.2 dX10_takesNumber_197
                  · refine lv_aload_n hx hb dX10_takesNumber_180 rfl (lv_at hl 0 rfl) ?_
                    refine lv_iconst (v := iZ 2) hx hb dX10_takesNumber_181 (by decide) ?_
                    refine lv_aload_n hx hb dX10_takesNumber_182 rfl (lv_at hl 0 rfl) ?_
                    refine va_get (D := (dC, dI)) (ci := 10) (v := .int (iZ z39400)) (C := RX10) (T := TX10) (N := 10) hx hb hts i_X10 hown hK hP 0 rfl rfl 3 (by decide) (hts _ q_123) (fun _ h9 => h9) rfl dX10_takesNumber_183 ?_
                    have hPc := hP.sub (ws' := (wk_0 a_t q_t_bytes t_length f39424 z39400 f39424 t_own t_name f39425 t_fault t_place q_t_bytes k_t_bytes g_t_bytes)) [0, 1] rfl
                    have hDc := hD.sub (ws' := (wk_0 a_t q_t_bytes t_length f39424 z39400 f39424 t_own t_name f39425 t_fault t_place q_t_bytes k_t_bytes g_t_bytes)) [0, 1] (by decide) rfl
                    have hKc := hK.sub (tys' := [(k_t_bytes, .int)]) [0] rfl
                    have hFc := va_free (wc := (wk_0 a_t q_t_bytes t_length f39424 z39400 f39424 t_own t_name f39425 t_fault t_place q_t_bytes k_t_bytes g_t_bytes)) hD hS hA [0, 1] rfl
                    refine va_calli (va_runV (As := [.int (iZ 2), .int (iZ z39400)]) (rest := []) ⟨hx, hb, hml, hown, hts⟩ (z_X10_wrong l dC dI a_t 2 z39400 q_t_bytes t_length f39424 z39400 f39424 t_own t_name f39425 t_fault t_place k_t_bytes g_t_bytes H.size hb_g_t_bytes (by omega) (by omega) (by omega) (by omega) (by omega) (by omega) (by omega) (by omega) (by omega) (by omega)) (cwV 2 hts (gV q_133 q_134 q_135 q_136 q_137) rfl rfl rfl mdv_yX10_wrong ⟨Nat.le_of_ble_eq_true rfl, Nat.le_of_ble_eq_true rfl⟩) ⟨fun a U g mk q => by obtain ⟨q0, q1, qP, qK, qD, qN⟩ := q; exact ⟨q0, q1, qP, va_K.moved (u := U) (U := U.calling g mk a) (Vm.Alike.refl U.vm) qK, qD, nwAll_same (u := U) (U := U.calling g mk a) rfl qN⟩, va_recv hKc hPc (ci := 10) (q0 := 0) rfl rfl, fun U hU hW => ⟨rfl, by rw [hU], by rw [hU]; exact hPc, va_K.moved hW.alike hKc, hDc.weaken (fun _ _ _ _ => trivial), nwAll_warm hW hN⟩⟩ rfl rfl hl.1 rfl (lv_room (Nat.le_of_ble_eq_true rfl)) dX10_takesNumber_186 ⟨Nat.le_of_ble_eq_true rfl, Nat.le_of_ble_eq_true rfl⟩) hS (fun q _ h => hFc q h) hFc (fun r39495 z39496 t H1 locs ht hvm hw hB hz1 hk1 hS => ?_)
                    obtain ⟨rfl, h39497⟩ := hw
                    obtain ⟨hP1, hK1, hD1⟩ := hB
                    rw [ht] at hP1
                    obtain ⟨hP, hD⟩ := va_join (wr := []) (w1 := (wk_0 a_t q_t_bytes t_length f39424 z39400 f39424 t_own t_name f39425 2 z39400 q_t_bytes k_t_bytes g_t_bytes)) hP hD [0, 1] [] rfl rfl (by decide) (by decide) hk1 hFc hP1 hD1
                    generalize H1 = H at hP hS ⊢
                    have hP : va_P (dC, dI) vwCl (wk_0 a_t q_t_bytes t_length f39424 z39400 f39424 t_own t_name f39425 2 z39400 q_t_bytes k_t_bytes g_t_bytes) H := hP
                    have hD : va_D A (wk_0 a_t q_t_bytes t_length f39424 z39400 f39424 t_own t_name f39425 2 z39400 q_t_bytes k_t_bytes g_t_bytes) := hD
                    refine zv_if_eq (tgt := 196) hx hb dX10_takesNumber_189 (by decide) (by omega) (fun c39498 => ?_) (fun c39498 => (by omega : False).elim)
                    refine lv_iconst (v := iZ 0) hx hb dX10_takesNumber_196 (by decide) ?_
                    subst hQ
                    exact W.zret (v := iZ 0) hx hb hr rfl (fun t ht hW => ⟨⟨iZ 0, 0, rfl, ⟨rfl, by omega⟩, f39424, z39400, f39424, f39425, 2, z39400, by omega, by omega, by omega, by omega, by omega, by omega, by omega, by rw [ht]; exact hP, va_K.moved hW.alike hK, hD⟩, hS.F ht⟩) hS.2.2 dX10_takesNumber_197
              · refine lv_aload_n hx hb dX10_takesNumber_154 rfl (lv_at hl 0 rfl) ?_
                refine lv_iconst (v := iZ 1) hx hb dX10_takesNumber_155 (by decide) ?_
                refine lv_aload_n hx hb dX10_takesNumber_156 rfl (lv_at hl 0 rfl) ?_
                refine va_get (D := (dC, dI)) (ci := 10) (v := .int (iZ f39424)) (C := RX10) (T := TX10) (N := 10) hx hb hts i_X10 hown hK hP 0 rfl rfl 2 (by decide) (hts _ q_122) (fun _ h9 => h9) rfl dX10_takesNumber_157 ?_
                have hPc := hP.sub (ws' := (wk_0 a_t q_t_bytes t_length f39424 z39400 f39424 t_own t_name f39425 t_fault t_place q_t_bytes k_t_bytes g_t_bytes)) [0, 1] rfl
                have hDc := hD.sub (ws' := (wk_0 a_t q_t_bytes t_length f39424 z39400 f39424 t_own t_name f39425 t_fault t_place q_t_bytes k_t_bytes g_t_bytes)) [0, 1] (by decide) rfl
                have hKc := hK.sub (tys' := [(k_t_bytes, .int)]) [0] rfl
                have hFc := va_free (wc := (wk_0 a_t q_t_bytes t_length f39424 z39400 f39424 t_own t_name f39425 t_fault t_place q_t_bytes k_t_bytes g_t_bytes)) hD hS hA [0, 1] rfl
                refine va_calli (va_runV (As := [.int (iZ 1), .int (iZ f39424)]) (rest := []) ⟨hx, hb, hml, hown, hts⟩ (z_X10_wrong l dC dI a_t 1 f39424 q_t_bytes t_length f39424 z39400 f39424 t_own t_name f39425 t_fault t_place k_t_bytes g_t_bytes H.size hb_g_t_bytes (by omega) (by omega) (by omega) (by omega) (by omega) (by omega) (by omega) (by omega) (by omega) (by omega)) (cwV 2 hts (gV q_133 q_134 q_135 q_136 q_137) rfl rfl rfl mdv_yX10_wrong ⟨Nat.le_of_ble_eq_true rfl, Nat.le_of_ble_eq_true rfl⟩) ⟨fun a U g mk q => by obtain ⟨q0, q1, qP, qK, qD, qN⟩ := q; exact ⟨q0, q1, qP, va_K.moved (u := U) (U := U.calling g mk a) (Vm.Alike.refl U.vm) qK, qD, nwAll_same (u := U) (U := U.calling g mk a) rfl qN⟩, va_recv hKc hPc (ci := 10) (q0 := 0) rfl rfl, fun U hU hW => ⟨rfl, by rw [hU], by rw [hU]; exact hPc, va_K.moved hW.alike hKc, hDc.weaken (fun _ _ _ _ => trivial), nwAll_warm hW hN⟩⟩ rfl rfl hl.1 rfl (lv_room (Nat.le_of_ble_eq_true rfl)) dX10_takesNumber_160 ⟨Nat.le_of_ble_eq_true rfl, Nat.le_of_ble_eq_true rfl⟩) hS (fun q _ h => hFc q h) hFc (fun r39499 z39500 t H1 locs ht hvm hw hB hz1 hk1 hS => ?_)
                obtain ⟨rfl, h39501⟩ := hw
                obtain ⟨hP1, hK1, hD1⟩ := hB
                rw [ht] at hP1
                obtain ⟨hP, hD⟩ := va_join (wr := []) (w1 := (wk_0 a_t q_t_bytes t_length f39424 z39400 f39424 t_own t_name f39425 1 f39424 q_t_bytes k_t_bytes g_t_bytes)) hP hD [0, 1] [] rfl rfl (by decide) (by decide) hk1 hFc hP1 hD1
                generalize H1 = H at hP hS ⊢
                have hP : va_P (dC, dI) vwCl (wk_0 a_t q_t_bytes t_length f39424 z39400 f39424 t_own t_name f39425 1 f39424 q_t_bytes k_t_bytes g_t_bytes) H := hP
                have hD : va_D A (wk_0 a_t q_t_bytes t_length f39424 z39400 f39424 t_own t_name f39425 1 f39424 q_t_bytes k_t_bytes g_t_bytes) := hD
                subst hQ
                exact W.zret (v := iZ z39500) hx hb hr (zb_nar (by omega)) (fun t ht hW => ⟨⟨iZ z39500, z39500, rfl, ⟨rfl, by omega⟩, f39424, z39400, f39424, f39425, 1, f39424, by omega, by omega, by omega, by omega, by omega, by omega, by omega, by rw [ht]; exact hP, va_K.moved hW.alike hK, hD⟩, hS.F ht⟩) hS.2.2 dX10_takesNumber_163
            · refine lv_aload_n hx hb dX10_takesNumber_68 rfl (lv_at hl 0 rfl) ?_
              refine va_get (D := (dC, dI)) (ci := 10) (v := .ref q_t_bytes) (C := RX10) (T := TX10) (N := 10) hx hb hts i_X10 hown hK hP 0 rfl rfl 0 (by decide) (hts _ q_118) (fun _ h9 => h9) rfl dX10_takesNumber_69 ?_
              refine lv_aload_n hx hb dX10_takesNumber_72 rfl (lv_at hl 0 rfl) ?_
              refine va_get (D := (dC, dI)) (ci := 10) (v := .int (iZ f39424)) (C := RX10) (T := TX10) (N := 10) hx hb hts i_X10 hown hK hP 0 rfl rfl 2 (by decide) (hts _ q_122) (fun _ h9 => h9) rfl dX10_takesNumber_73 ?_
              refine zv_iald hx hb hK hP 1 0 rfl rfl (by omega) (by omega) (by omega) dX10_takesNumber_76 (fun z39502 ez39502 => ?_)
              have bz39502 : 0 ≤ z39502 ∧ z39502 ≤ 255 := by rw [ez39502]; exact hb_g_t_bytes _ (by omega)
              have hPc := hP.sub (ws' := []) [] rfl
              have hDc := hD.sub (ws' := []) [] (by decide) rfl
              have hKc := hK.sub (tys' := []) [] rfl
              have hFc := va_free (wc := []) hD hS hA [] rfl
              refine va_calli (va_runS (As := [.int (iZ z39502)]) (rest := []) ⟨hx, hb, hml, hown, hts⟩ (z_X10_isDigit_x l dC dI z39502 H.size (by omega)) (va_cwS 1 hts (gS q_147 q_148 q_136 q_130) rfl rfl rfl mds_yX10_isDigit ⟨Nat.le_of_ble_eq_true rfl, Nat.le_of_ble_eq_true rfl⟩) ⟨fun a U g mk q => by obtain ⟨q0, q1, qP, qK, qD, qN⟩ := q; exact ⟨q0, q1, qP, va_K.moved (u := U) (U := U.calling g mk a) (Vm.Alike.refl U.vm) qK, qD, nwAll_same (u := U) (U := U.calling g mk a) rfl qN⟩, fun U hU hW => ⟨rfl, by rw [hU], by rw [hU]; exact hPc, va_K.moved hW.alike hKc, hDc.weaken (fun _ _ _ _ => trivial), nwAll_warm hW hN⟩⟩ rfl rfl hl.1 rfl (lv_room (Nat.le_of_ble_eq_true rfl)) dX10_takesNumber_77 ⟨Nat.le_of_ble_eq_true rfl, Nat.le_of_ble_eq_true rfl⟩) hS (fun q _ h => hFc q h) hFc (fun r39503 z39504 t H1 locs ht hvm hw hB hz1 hk1 hS => ?_)
              obtain ⟨rfl, h39505, h39506⟩ := hw
              obtain ⟨hP1, hK1, hD1⟩ := hB
              rw [ht] at hP1
              obtain ⟨hP, hD⟩ := va_join (wr := (wk_0 a_t q_t_bytes t_length f39424 z39400 t_tokenEnd t_own t_name f39425 t_fault t_place q_t_bytes k_t_bytes g_t_bytes)) (w1 := []) hP hD [] [0, 1] rfl rfl (by decide) (by decide) hk1 hFc hP1 hD1
              generalize H1 = H at hP hS ⊢
              have hP : va_P (dC, dI) vwCl (wk_0 a_t q_t_bytes t_length f39424 z39400 t_tokenEnd t_own t_name f39425 t_fault t_place q_t_bytes k_t_bytes g_t_bytes) H := hP
              have hD : va_D A (wk_0 a_t q_t_bytes t_length f39424 z39400 t_tokenEnd t_own t_name f39425 t_fault t_place q_t_bytes k_t_bytes g_t_bytes) := hD
              refine zv_if_eq (tgt := 120) hx hb dX10_takesNumber_80 (by decide) (by omega) (fun c39507 => ?_) (fun c39507 => ?_)
              · have hq39508 := hL44_0
                unfold NumI at hq39508
                refine lv_aload_n hx hb dX10_takesNumber_120 rfl (lv_at hl 0 rfl) ?_
                refine lv_aload_n hx hb dX10_takesNumber_121 rfl (lv_at hl 0 rfl) ?_
                refine va_get (D := (dC, dI)) (ci := 10) (v := .int (iZ f39424)) (C := RX10) (T := TX10) (N := 10) hx hb hts i_X10 hown hK hP 0 rfl rfl 2 (by decide) (hts _ q_122) (fun _ h9 => h9) rfl dX10_takesNumber_122 ?_
                refine va_put (D := (dC, dI)) (ci := 10) (v := .int (iZ f39424)) (ty := tyX10 4) (C := RX10) (T := TX10) (N := 10) hx hb hts i_X10 tyX10 tyX10_ok nmX10 hown hK hP hD hS 0 rfl rfl 4 (by decide) (hts _ q_124) (fun _ h9 => h9) rfl (tyX10_ok 4 (by decide)) rfl rfl (Nat.le_of_ble_eq_true rfl) dX10_takesNumber_125 (fun H locs hP hD hS => ?_)
                have hP : va_P (dC, dI) vwCl (wk_0 a_t q_t_bytes t_length f39424 z39400 f39424 t_own t_name f39425 t_fault t_place q_t_bytes k_t_bytes g_t_bytes) H := hP
                have hD : va_D A (wk_0 a_t q_t_bytes t_length f39424 z39400 f39424 t_own t_name f39425 t_fault t_place q_t_bytes k_t_bytes g_t_bytes) := hD
                refine lv_aload_n hx hb dX10_takesNumber_128 rfl (lv_at hl 0 rfl) ?_
                refine va_get (D := (dC, dI)) (ci := 10) (v := .int (iZ f39424)) (C := RX10) (T := TX10) (N := 10) hx hb hts i_X10 hown hK hP 0 rfl rfl 2 (by decide) (hts _ q_122) (fun _ h9 => h9) rfl dX10_takesNumber_129 ?_
                refine lv_aload_n hx hb dX10_takesNumber_132 rfl (lv_at hl 0 rfl) ?_
                refine va_get (D := (dC, dI)) (ci := 10) (v := .int (iZ t_length)) (C := RX10) (T := TX10) (N := 10) hx hb hts i_X10 hown hK hP 0 rfl rfl 1 (by decide) (hts _ q_117) (fun _ h9 => h9) rfl dX10_takesNumber_133 ?_
                refine zv_icmp_ge (tgt := 164) hx hb dX10_takesNumber_136 (by decide) (by omega) (by omega) (fun c39509 => (by omega : False).elim) (fun c39509 => ?_)
                refine lv_aload_n hx hb dX10_takesNumber_139 rfl (lv_at hl 0 rfl) ?_
                refine va_get (D := (dC, dI)) (ci := 10) (v := .ref q_t_bytes) (C := RX10) (T := TX10) (N := 10) hx hb hts i_X10 hown hK hP 0 rfl rfl 0 (by decide) (hts _ q_118) (fun _ h9 => h9) rfl dX10_takesNumber_140 ?_
                refine lv_aload_n hx hb dX10_takesNumber_143 rfl (lv_at hl 0 rfl) ?_
                refine va_get (D := (dC, dI)) (ci := 10) (v := .int (iZ f39424)) (C := RX10) (T := TX10) (N := 10) hx hb hts i_X10 hown hK hP 0 rfl rfl 2 (by decide) (hts _ q_122) (fun _ h9 => h9) rfl dX10_takesNumber_144 ?_
                refine zv_iald hx hb hK hP 1 0 rfl rfl (by omega) (by omega) (by omega) dX10_takesNumber_147 (fun z39510 ez39510 => ?_)
                have bz39510 : 0 ≤ z39510 ∧ z39510 ≤ 255 := by rw [ez39510]; exact hb_g_t_bytes _ (by omega)
                have hPc := hP.sub (ws' := []) [] rfl
                have hDc := hD.sub (ws' := []) [] (by decide) rfl
                have hKc := hK.sub (tys' := []) [] rfl
                have hFc := va_free (wc := []) hD hS hA [] rfl
                refine va_calli (va_runS (As := [.int (iZ z39510)]) (rest := []) ⟨hx, hb, hml, hown, hts⟩ (z_X10_isDigit_x l dC dI z39510 H.size (by omega)) (va_cwS 1 hts (gS q_147 q_148 q_136 q_130) rfl rfl rfl mds_yX10_isDigit ⟨Nat.le_of_ble_eq_true rfl, Nat.le_of_ble_eq_true rfl⟩) ⟨fun a U g mk q => by obtain ⟨q0, q1, qP, qK, qD, qN⟩ := q; exact ⟨q0, q1, qP, va_K.moved (u := U) (U := U.calling g mk a) (Vm.Alike.refl U.vm) qK, qD, nwAll_same (u := U) (U := U.calling g mk a) rfl qN⟩, fun U hU hW => ⟨rfl, by rw [hU], by rw [hU]; exact hPc, va_K.moved hW.alike hKc, hDc.weaken (fun _ _ _ _ => trivial), nwAll_warm hW hN⟩⟩ rfl rfl hl.1 rfl (lv_room (Nat.le_of_ble_eq_true rfl)) dX10_takesNumber_148 ⟨Nat.le_of_ble_eq_true rfl, Nat.le_of_ble_eq_true rfl⟩) hS (fun q _ h => hFc q h) hFc (fun r39511 z39512 t H1 locs ht hvm hw hB hz1 hk1 hS => ?_)
                obtain ⟨rfl, h39513, h39514⟩ := hw
                obtain ⟨hP1, hK1, hD1⟩ := hB
                rw [ht] at hP1
                obtain ⟨hP, hD⟩ := va_join (wr := (wk_0 a_t q_t_bytes t_length f39424 z39400 f39424 t_own t_name f39425 t_fault t_place q_t_bytes k_t_bytes g_t_bytes)) (w1 := []) hP hD [] [0, 1] rfl rfl (by decide) (by decide) hk1 hFc hP1 hD1
                generalize H1 = H at hP hS ⊢
                have hP : va_P (dC, dI) vwCl (wk_0 a_t q_t_bytes t_length f39424 z39400 f39424 t_own t_name f39425 t_fault t_place q_t_bytes k_t_bytes g_t_bytes) H := hP
                have hD : va_D A (wk_0 a_t q_t_bytes t_length f39424 z39400 f39424 t_own t_name f39425 t_fault t_place q_t_bytes k_t_bytes g_t_bytes) := hD
                refine zv_if_eq (tgt := 164) hx hb dX10_takesNumber_151 (by decide) (by omega) (fun c39515 => ?_) (fun c39515 => (by omega : False).elim)
                refine lv_aload_n hx hb dX10_takesNumber_164 rfl (lv_at hl 0 rfl) ?_
                refine va_get (D := (dC, dI)) (ci := 10) (v := .int (iZ f39425)) (C := RX10) (T := TX10) (N := 10) hx hb hts i_X10 hown hK hP 0 rfl rfl 7 (by decide) (hts _ q_127) (fun _ h9 => h9) rfl dX10_takesNumber_165 ?_
                refine lv_iload_n hx hb dX10_takesNumber_168 rfl (lv_at hl 1 rfl) ?_
                refine zv_icmp_lt (tgt := 180) hx hb dX10_takesNumber_169 (by decide) (by omega) (by omega) (fun c39516 => ?_) (fun c39516 => ?_)
                · refine lv_aload_n hx hb dX10_takesNumber_180 rfl (lv_at hl 0 rfl) ?_
                  refine lv_iconst (v := iZ 2) hx hb dX10_takesNumber_181 (by decide) ?_
                  refine lv_aload_n hx hb dX10_takesNumber_182 rfl (lv_at hl 0 rfl) ?_
                  refine va_get (D := (dC, dI)) (ci := 10) (v := .int (iZ z39400)) (C := RX10) (T := TX10) (N := 10) hx hb hts i_X10 hown hK hP 0 rfl rfl 3 (by decide) (hts _ q_123) (fun _ h9 => h9) rfl dX10_takesNumber_183 ?_
                  have hPc := hP.sub (ws' := (wk_0 a_t q_t_bytes t_length f39424 z39400 f39424 t_own t_name f39425 t_fault t_place q_t_bytes k_t_bytes g_t_bytes)) [0, 1] rfl
                  have hDc := hD.sub (ws' := (wk_0 a_t q_t_bytes t_length f39424 z39400 f39424 t_own t_name f39425 t_fault t_place q_t_bytes k_t_bytes g_t_bytes)) [0, 1] (by decide) rfl
                  have hKc := hK.sub (tys' := [(k_t_bytes, .int)]) [0] rfl
                  have hFc := va_free (wc := (wk_0 a_t q_t_bytes t_length f39424 z39400 f39424 t_own t_name f39425 t_fault t_place q_t_bytes k_t_bytes g_t_bytes)) hD hS hA [0, 1] rfl
                  refine va_calli (va_runV (As := [.int (iZ 2), .int (iZ z39400)]) (rest := []) ⟨hx, hb, hml, hown, hts⟩ (z_X10_wrong l dC dI a_t 2 z39400 q_t_bytes t_length f39424 z39400 f39424 t_own t_name f39425 t_fault t_place k_t_bytes g_t_bytes H.size hb_g_t_bytes (by omega) (by omega) (by omega) (by omega) (by omega) (by omega) (by omega) (by omega) (by omega) (by omega)) (cwV 2 hts (gV q_133 q_134 q_135 q_136 q_137) rfl rfl rfl mdv_yX10_wrong ⟨Nat.le_of_ble_eq_true rfl, Nat.le_of_ble_eq_true rfl⟩) ⟨fun a U g mk q => by obtain ⟨q0, q1, qP, qK, qD, qN⟩ := q; exact ⟨q0, q1, qP, va_K.moved (u := U) (U := U.calling g mk a) (Vm.Alike.refl U.vm) qK, qD, nwAll_same (u := U) (U := U.calling g mk a) rfl qN⟩, va_recv hKc hPc (ci := 10) (q0 := 0) rfl rfl, fun U hU hW => ⟨rfl, by rw [hU], by rw [hU]; exact hPc, va_K.moved hW.alike hKc, hDc.weaken (fun _ _ _ _ => trivial), nwAll_warm hW hN⟩⟩ rfl rfl hl.1 rfl (lv_room (Nat.le_of_ble_eq_true rfl)) dX10_takesNumber_186 ⟨Nat.le_of_ble_eq_true rfl, Nat.le_of_ble_eq_true rfl⟩) hS (fun q _ h => hFc q h) hFc (fun r39517 z39518 t H1 locs ht hvm hw hB hz1 hk1 hS => ?_)
                  obtain ⟨rfl, h39519⟩ := hw
                  obtain ⟨hP1, hK1, hD1⟩ := hB
                  rw [ht] at hP1
                  obtain ⟨hP, hD⟩ := va_join (wr := []) (w1 := (wk_0 a_t q_t_bytes t_length f39424 z39400 f39424 t_own t_name f39425 2 z39400 q_t_bytes k_t_bytes g_t_bytes)) hP hD [0, 1] [] rfl rfl (by decide) (by decide) hk1 hFc hP1 hD1
                  generalize H1 = H at hP hS ⊢
                  have hP : va_P (dC, dI) vwCl (wk_0 a_t q_t_bytes t_length f39424 z39400 f39424 t_own t_name f39425 2 z39400 q_t_bytes k_t_bytes g_t_bytes) H := hP
                  have hD : va_D A (wk_0 a_t q_t_bytes t_length f39424 z39400 f39424 t_own t_name f39425 2 z39400 q_t_bytes k_t_bytes g_t_bytes) := hD
                  refine zv_if_eq (tgt := 196) hx hb dX10_takesNumber_189 (by decide) (by omega) (fun c39520 => ?_) (fun c39520 => (by omega : False).elim)
                  refine lv_iconst (v := iZ 0) hx hb dX10_takesNumber_196 (by decide) ?_
                  subst hQ
                  exact W.zret (v := iZ 0) hx hb hr rfl (fun t ht hW => ⟨⟨iZ 0, 0, rfl, ⟨rfl, by omega⟩, f39424, z39400, f39424, f39425, 2, z39400, by omega, by omega, by omega, by omega, by omega, by omega, by omega, by rw [ht]; exact hP, va_K.moved hW.alike hK, hD⟩, hS.F ht⟩) hS.2.2 dX10_takesNumber_197
                · refine lv_aload_n hx hb dX10_takesNumber_172 rfl (lv_at hl 0 rfl) ?_
                  refine va_get (D := (dC, dI)) (ci := 10) (v := .int (iZ f39425)) (C := RX10) (T := TX10) (N := 10) hx hb hts i_X10 hown hK hP 0 rfl rfl 7 (by decide) (hts _ q_127) (fun _ h9 => h9) rfl dX10_takesNumber_173 ?_
                  refine lv_iload_n hx hb dX10_takesNumber_176 rfl (lv_at hl 2 rfl) ?_
                  refine zv_icmp_le (tgt := 192) hx hb dX10_takesNumber_177 (by decide) (by omega) (by omega) (fun c39521 => ?_) (fun c39521 => ?_)
                  · refine lv_iconst (v := iZ 1) hx hb dX10_takesNumber_192 (by decide) ?_
                    refine lv_goto (tgt := 197) hx hb dX10_takesNumber_193 (by decide) ?_
                    subst hQ
                    exact W.zret (v := iZ 1) hx hb hr rfl (fun t ht hW => ⟨⟨iZ 1, 1, rfl, ⟨rfl, by omega⟩, f39424, z39400, f39424, f39425, t_fault, t_place, by omega, by omega, by omega, by omega, by omega, by omega, by omega, by rw [ht]; exact hP, va_K.moved hW.alike hK, hD⟩, hS.F ht⟩) hS.2.2 dX10_takesNumber_197
                  · refine lv_aload_n hx hb dX10_takesNumber_180 rfl (lv_at hl 0 rfl) ?_
                    refine lv_iconst (v := iZ 2) hx hb dX10_takesNumber_181 (by decide) ?_
                    refine lv_aload_n hx hb dX10_takesNumber_182 rfl (lv_at hl 0 rfl) ?_
                    refine va_get (D := (dC, dI)) (ci := 10) (v := .int (iZ z39400)) (C := RX10) (T := TX10) (N := 10) hx hb hts i_X10 hown hK hP 0 rfl rfl 3 (by decide) (hts _ q_123) (fun _ h9 => h9) rfl dX10_takesNumber_183 ?_
                    have hPc := hP.sub (ws' := (wk_0 a_t q_t_bytes t_length f39424 z39400 f39424 t_own t_name f39425 t_fault t_place q_t_bytes k_t_bytes g_t_bytes)) [0, 1] rfl
                    have hDc := hD.sub (ws' := (wk_0 a_t q_t_bytes t_length f39424 z39400 f39424 t_own t_name f39425 t_fault t_place q_t_bytes k_t_bytes g_t_bytes)) [0, 1] (by decide) rfl
                    have hKc := hK.sub (tys' := [(k_t_bytes, .int)]) [0] rfl
                    have hFc := va_free (wc := (wk_0 a_t q_t_bytes t_length f39424 z39400 f39424 t_own t_name f39425 t_fault t_place q_t_bytes k_t_bytes g_t_bytes)) hD hS hA [0, 1] rfl
                    refine va_calli (va_runV (As := [.int (iZ 2), .int (iZ z39400)]) (rest := []) ⟨hx, hb, hml, hown, hts⟩ (z_X10_wrong l dC dI a_t 2 z39400 q_t_bytes t_length f39424 z39400 f39424 t_own t_name f39425 t_fault t_place k_t_bytes g_t_bytes H.size hb_g_t_bytes (by omega) (by omega) (by omega) (by omega) (by omega) (by omega) (by omega) (by omega) (by omega) (by omega)) (cwV 2 hts (gV q_133 q_134 q_135 q_136 q_137) rfl rfl rfl mdv_yX10_wrong ⟨Nat.le_of_ble_eq_true rfl, Nat.le_of_ble_eq_true rfl⟩) ⟨fun a U g mk q => by obtain ⟨q0, q1, qP, qK, qD, qN⟩ := q; exact ⟨q0, q1, qP, va_K.moved (u := U) (U := U.calling g mk a) (Vm.Alike.refl U.vm) qK, qD, nwAll_same (u := U) (U := U.calling g mk a) rfl qN⟩, va_recv hKc hPc (ci := 10) (q0 := 0) rfl rfl, fun U hU hW => ⟨rfl, by rw [hU], by rw [hU]; exact hPc, va_K.moved hW.alike hKc, hDc.weaken (fun _ _ _ _ => trivial), nwAll_warm hW hN⟩⟩ rfl rfl hl.1 rfl (lv_room (Nat.le_of_ble_eq_true rfl)) dX10_takesNumber_186 ⟨Nat.le_of_ble_eq_true rfl, Nat.le_of_ble_eq_true rfl⟩) hS (fun q _ h => hFc q h) hFc (fun r39522 z39523 t H1 locs ht hvm hw hB hz1 hk1 hS => ?_)
                    obtain ⟨rfl, h39524⟩ := hw
                    obtain ⟨hP1, hK1, hD1⟩ := hB
                    rw [ht] at hP1
                    obtain ⟨hP, hD⟩ := va_join (wr := []) (w1 := (wk_0 a_t q_t_bytes t_length f39424 z39400 f39424 t_own t_name f39425 2 z39400 q_t_bytes k_t_bytes g_t_bytes)) hP hD [0, 1] [] rfl rfl (by decide) (by decide) hk1 hFc hP1 hD1
                    generalize H1 = H at hP hS ⊢
                    have hP : va_P (dC, dI) vwCl (wk_0 a_t q_t_bytes t_length f39424 z39400 f39424 t_own t_name f39425 2 z39400 q_t_bytes k_t_bytes g_t_bytes) H := hP
                    have hD : va_D A (wk_0 a_t q_t_bytes t_length f39424 z39400 f39424 t_own t_name f39425 2 z39400 q_t_bytes k_t_bytes g_t_bytes) := hD
                    refine zv_if_eq (tgt := 196) hx hb dX10_takesNumber_189 (by decide) (by omega) (fun c39525 => ?_) (fun c39525 => (by omega : False).elim)
                    refine lv_iconst (v := iZ 0) hx hb dX10_takesNumber_196 (by decide) ?_
                    subst hQ
                    exact W.zret (v := iZ 0) hx hb hr rfl (fun t ht hW => ⟨⟨iZ 0, 0, rfl, ⟨rfl, by omega⟩, f39424, z39400, f39424, f39425, 2, z39400, by omega, by omega, by omega, by omega, by omega, by omega, by omega, by rw [ht]; exact hP, va_K.moved hW.alike hK, hD⟩, hS.F ht⟩) hS.2.2 dX10_takesNumber_197
              · have hq39526 := hL44_0
                unfold NumI at hq39526
                refine lv_aload_n hx hb dX10_takesNumber_83 rfl (lv_at hl 0 rfl) ?_
                refine lv_aload_n hx hb dX10_takesNumber_84 rfl (lv_at hl 0 rfl) ?_
                refine va_get (D := (dC, dI)) (ci := 10) (v := .int (iZ f39425)) (C := RX10) (T := TX10) (N := 10) hx hb hts i_X10 hown hK hP 0 rfl rfl 7 (by decide) (hts _ q_127) (fun _ h9 => h9) rfl dX10_takesNumber_85 ?_
                refine lv_bipush (v := iZ 10) hx hb dX10_takesNumber_88 (by decide) ?_
                refine zv_imul hx hb (10 * f39425) (by omega) dX10_takesNumber_90 ?_
                refine lv_aload_n hx hb dX10_takesNumber_91 rfl (lv_at hl 0 rfl) ?_
                refine va_get (D := (dC, dI)) (ci := 10) (v := .ref q_t_bytes) (C := RX10) (T := TX10) (N := 10) hx hb hts i_X10 hown hK hP 0 rfl rfl 0 (by decide) (hts _ q_118) (fun _ h9 => h9) rfl dX10_takesNumber_92 ?_
                refine lv_aload_n hx hb dX10_takesNumber_95 rfl (lv_at hl 0 rfl) ?_
                refine va_get (D := (dC, dI)) (ci := 10) (v := .int (iZ f39424)) (C := RX10) (T := TX10) (N := 10) hx hb hts i_X10 hown hK hP 0 rfl rfl 2 (by decide) (hts _ q_122) (fun _ h9 => h9) rfl dX10_takesNumber_96 ?_
                refine zv_iald hx hb hK hP 1 0 rfl rfl (by omega) (by omega) (by omega) dX10_takesNumber_99 (fun z39527 ez39527 => ?_)
                have bz39527 : 0 ≤ z39527 ∧ z39527 ≤ 255 := by rw [ez39527]; exact hb_g_t_bytes _ (by omega)
                refine zv_iadd hx hb (10 * f39425 + z39527) (by omega) dX10_takesNumber_100 ?_
                refine lv_bipush (v := iZ 48) hx hb dX10_takesNumber_101 (by decide) ?_
                refine zv_isub hx hb (10 * f39425 + z39527 - 48) (by omega) dX10_takesNumber_103 ?_
                refine va_put (D := (dC, dI)) (ci := 10) (v := .int (iZ (10 * f39425 + z39527 - 48))) (ty := tyX10 7) (C := RX10) (T := TX10) (N := 10) hx hb hts i_X10 tyX10 tyX10_ok nmX10 hown hK hP hD hS 0 rfl rfl 7 (by decide) (hts _ q_127) (fun _ h9 => h9) rfl (tyX10_ok 7 (by decide)) rfl rfl (Nat.le_of_ble_eq_true rfl) dX10_takesNumber_104 (fun H locs hP hD hS => ?_)
                have hP : va_P (dC, dI) vwCl (wk_0 a_t q_t_bytes t_length f39424 z39400 t_tokenEnd t_own t_name (10 * f39425 + z39527 - 48) t_fault t_place q_t_bytes k_t_bytes g_t_bytes) H := hP
                have hD : va_D A (wk_0 a_t q_t_bytes t_length f39424 z39400 t_tokenEnd t_own t_name (10 * f39425 + z39527 - 48) t_fault t_place q_t_bytes k_t_bytes g_t_bytes) := hD
                refine lv_aload_n hx hb dX10_takesNumber_107 rfl (lv_at hl 0 rfl) ?_
                refine lv_dup hx hb dX10_takesNumber_108 rfl ?_
                refine va_get (D := (dC, dI)) (ci := 10) (v := .int (iZ f39424)) (C := RX10) (T := TX10) (N := 10) hx hb hts i_X10 hown hK hP 0 rfl rfl 2 (by decide) (hts _ q_122) (fun _ h9 => h9) rfl dX10_takesNumber_109 ?_
                refine lv_iconst (v := iZ 1) hx hb dX10_takesNumber_112 (by decide) ?_
                refine zv_iadd hx hb (f39424 + 1) (by omega) dX10_takesNumber_113 ?_
                refine va_put (D := (dC, dI)) (ci := 10) (v := .int (iZ (f39424 + 1))) (ty := tyX10 2) (C := RX10) (T := TX10) (N := 10) hx hb hts i_X10 tyX10 tyX10_ok nmX10 hown hK hP hD hS 0 rfl rfl 2 (by decide) (hts _ q_122) (fun _ h9 => h9) rfl (tyX10_ok 2 (by decide)) rfl rfl (Nat.le_of_ble_eq_true rfl) dX10_takesNumber_114 (fun H locs hP hD hS => ?_)
                have hP : va_P (dC, dI) vwCl (wk_0 a_t q_t_bytes t_length (f39424 + 1) z39400 t_tokenEnd t_own t_name (10 * f39425 + z39527 - 48) t_fault t_place q_t_bytes k_t_bytes g_t_bytes) H := hP
                have hD : va_D A (wk_0 a_t q_t_bytes t_length (f39424 + 1) z39400 t_tokenEnd t_own t_name (10 * f39425 + z39527 - 48) t_fault t_place q_t_bytes k_t_bytes g_t_bytes) := hD
                refine lv_goto (tgt := 44) hx hb dX10_takesNumber_117 (by decide) ?_
                have hG39528 : NumI g_t_bytes (f39424 + 1) z39400 t_length (10 * f39425 + z39527 - 48) := (by unfold NumI; omega)
                exact ih_44 (N44 - 1) (by omega) _ _ _ (f39424 + 1) (10 * f39425 + z39527 - 48) (by omega) (by omega) (by omega) (by omega) (by omega) hG39528 (by omega) hP hD hS (lv_sub hl [0, 1, 2] rfl)
      exact lp_44 ((t_length - z39400 : Int)).toNat _ _ _ z39400 0 (by omega) (by omega) (by omega) (by omega) (by omega) hG39413 (by omega) hP hD hS (lv_sub hl [0, 1, 2] rfl)
    · refine lv_aload_n hx hb dX10_takesNumber_21 rfl (lv_at hl 0 rfl) ?_
      refine lv_iconst (v := iZ 1) hx hb dX10_takesNumber_22 (by decide) ?_
      refine lv_aload_n hx hb dX10_takesNumber_23 rfl (lv_at hl 0 rfl) ?_
      refine va_get (D := (dC, dI)) (ci := 10) (v := .int (iZ z39400)) (C := RX10) (T := TX10) (N := 10) hx hb hts i_X10 hown hK hP 0 rfl rfl 2 (by decide) (hts _ q_122) (fun _ h9 => h9) rfl dX10_takesNumber_24 ?_
      have hPc := hP.sub (ws' := (wk_0 a_t q_t_bytes t_length z39400 t_tokenAt t_tokenEnd t_own t_name t_number t_fault t_place q_t_bytes k_t_bytes g_t_bytes)) [0, 1] rfl
      have hDc := hD.sub (ws' := (wk_0 a_t q_t_bytes t_length z39400 t_tokenAt t_tokenEnd t_own t_name t_number t_fault t_place q_t_bytes k_t_bytes g_t_bytes)) [0, 1] (by decide) rfl
      have hKc := hK.sub (tys' := [(k_t_bytes, .int)]) [0] rfl
      have hFc := va_free (wc := (wk_0 a_t q_t_bytes t_length z39400 t_tokenAt t_tokenEnd t_own t_name t_number t_fault t_place q_t_bytes k_t_bytes g_t_bytes)) hD hS hA [0, 1] rfl
      refine va_calli (va_runV (As := [.int (iZ 1), .int (iZ z39400)]) (rest := []) ⟨hx, hb, hml, hown, hts⟩ (z_X10_wrong l dC dI a_t 1 z39400 q_t_bytes t_length z39400 t_tokenAt t_tokenEnd t_own t_name t_number t_fault t_place k_t_bytes g_t_bytes H.size hb_g_t_bytes (by omega) (by omega) (by omega) (by omega) (by omega) (by omega) (by omega) (by omega) (by omega) (by omega)) (cwV 2 hts (gV q_133 q_134 q_135 q_136 q_137) rfl rfl rfl mdv_yX10_wrong ⟨Nat.le_of_ble_eq_true rfl, Nat.le_of_ble_eq_true rfl⟩) ⟨fun a U g mk q => by obtain ⟨q0, q1, qP, qK, qD, qN⟩ := q; exact ⟨q0, q1, qP, va_K.moved (u := U) (U := U.calling g mk a) (Vm.Alike.refl U.vm) qK, qD, nwAll_same (u := U) (U := U.calling g mk a) rfl qN⟩, va_recv hKc hPc (ci := 10) (q0 := 0) rfl rfl, fun U hU hW => ⟨rfl, by rw [hU], by rw [hU]; exact hPc, va_K.moved hW.alike hKc, hDc.weaken (fun _ _ _ _ => trivial), nwAll_warm hW hN⟩⟩ rfl rfl hl.1 rfl (lv_room (Nat.le_of_ble_eq_true rfl)) dX10_takesNumber_27 ⟨Nat.le_of_ble_eq_true rfl, Nat.le_of_ble_eq_true rfl⟩) hS (fun q _ h => hFc q h) hFc (fun r39529 z39530 t H1 locs ht hvm hw hB hz1 hk1 hS => ?_)
      obtain ⟨rfl, h39531⟩ := hw
      obtain ⟨hP1, hK1, hD1⟩ := hB
      rw [ht] at hP1
      obtain ⟨hP, hD⟩ := va_join (wr := []) (w1 := (wk_0 a_t q_t_bytes t_length z39400 t_tokenAt t_tokenEnd t_own t_name t_number 1 z39400 q_t_bytes k_t_bytes g_t_bytes)) hP hD [0, 1] [] rfl rfl (by decide) (by decide) hk1 hFc hP1 hD1
      generalize H1 = H at hP hS ⊢
      have hP : va_P (dC, dI) vwCl (wk_0 a_t q_t_bytes t_length z39400 t_tokenAt t_tokenEnd t_own t_name t_number 1 z39400 q_t_bytes k_t_bytes g_t_bytes) H := hP
      have hD : va_D A (wk_0 a_t q_t_bytes t_length z39400 t_tokenAt t_tokenEnd t_own t_name t_number 1 z39400 q_t_bytes k_t_bytes g_t_bytes) := hD
      subst hQ
      exact W.zret (v := iZ z39530) hx hb hr (zb_nar (by omega)) (fun t ht hW => ⟨⟨iZ z39530, z39530, rfl, ⟨rfl, by omega⟩, z39400, t_tokenAt, t_tokenEnd, t_number, 1, z39400, by omega, by omega, by omega, by omega, by omega, by omega, by omega, by rw [ht]; exact hP, va_K.moved hW.alike hK, hD⟩, hS.F ht⟩) hS.2.2 dX10_takesNumber_30
