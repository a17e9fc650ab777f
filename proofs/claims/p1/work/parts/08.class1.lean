def wd_456 (a1 : Nat) (cA0 : ClassId) (f : Nat → Int32) : va_W := [(a1, .inl (cA0, 168, .inl f))]
theorem lp_fill {p : Program} {l : Launch} {e : Env} {R : Room} {s : State} {m : MethodId} {args : Array Value} {below : List Frame} {meth : Method} {c : Code} {Q : State → Prop} {A : Nat → Prop} {H0 : Heap} {cells slots : Nat} {dC : Nat → ClassId} {dI : Nat → Nat → Nat} {a1 : Nat} {cA0 : ClassId} {v : Int32} (hx : p.tables.exec = Jvm.exec) (hb : c.code = cJ7_fill_53178) (hK : va_K (dC, dI) vwCl [(cA0, .int)] s) (kk : ∀ (H : Heap) (locs : List Loc) (ls : Array Slot) (f : Nat → Int32), va_P (dC, dI) vwCl (wd_456 a1 cA0 f) H → va_D A (wd_456 a1 cA0 f) → va_S A H0 H locs → lv_has ls 4 [] → W p l e R s m args below meth c H locs cells slots Q (F0 m 20 ls [])) : ∀ (n i : Nat) (H : Heap) (locs : List Loc) (ls : Array Slot) (f : Nat → Int32), i + n = 168 → va_P (dC, dI) vwCl (wd_456 a1 cA0 f) H → va_D A (wd_456 a1 cA0 f) → va_S A H0 H locs → lv_has ls 4 [(2, .int (nI i)), (3, .int 168), (0, .ref a1), (1, .int v)] → W p l e R s m args below meth c H locs cells slots Q (F0 m 5 ls []) := by
  intro n
  induction n with
  | zero =>
    intro i H locs ls f hi hP hD hS hl
    obtain rfl : i = 168 := by omega
    refine lv_iload_n hx hb dJ7_fill_53178_5 rfl (lv_at hl 0 rfl) ?_
    refine lv_iload_n hx hb dJ7_fill_53178_6 rfl (lv_at hl 1 rfl) ?_
    refine lv_icmp_ge (tgt := 20) hx hb dJ7_fill_53178_7 (by decide) (fun c_0 => ?_) (fun c_0 => absurd (show (168 : Int32) ≤ nI 168 by decide) c_0)
    exact kk H locs ls f hP hD hS (lv_sub hl [] rfl)
  | succ n ih =>
    intro i H locs ls f hi hP hD hS hl
    refine lv_iload_n hx hb dJ7_fill_53178_5 rfl (lv_at hl 0 rfl) ?_
    refine lv_iload_n hx hb dJ7_fill_53178_6 rfl (lv_at hl 1 rfl) ?_
    refine lv_icmp_ge (tgt := 20) hx hb dJ7_fill_53178_7 (by decide) (fun c_0 => absurd c_0 (nI_ge (a := i) (b := 168) (by omega) (by decide))) (fun c_0 => ?_)
    refine lv_aload_n hx hb dJ7_fill_53178_10 rfl (lv_at hl 2 rfl) ?_
    refine lv_iload_n hx hb dJ7_fill_53178_11 rfl (lv_at hl 0 rfl) ?_
    refine lv_iload_n hx hb dJ7_fill_53178_12 rfl (lv_at hl 3 rfl) ?_
    refine va_iast hx hb hK hP hD hS 0 0 rfl rfl (vp_in_nI (by omega) (by decide)) dJ7_fill_53178_13 (fun H locs hP hD hS => ?_)
    refine lv_iinc (v := nI (i + 1)) (lv' := [(2, .int (nI (i + 1))), (3, .int 168), (0, .ref a1), (1, .int v)]) hx hb dJ7_fill_53178_14 hl (k := 0) rfl (nI_1 i) (by decide) rfl (fun ls hl => ?_)
    refine lv_goto (tgt := 5) hx hb dJ7_fill_53178_17 (by decide) ?_
    exact ih (i + 1) H locs ls _ (by omega) hP hD hS hl
def wd_457 (a1 : Nat) (cA0 : ClassId) (f412 : Nat → Int32) : va_W := [(a1, .inl (cA0, 168, .inl f412))]
def wd_458 (a1 : Nat) (cA0 : ClassId) (f0 : Nat → Int32) : va_W := [(a1, .inl (cA0, 168, .inl f0))]
set_option maxHeartbeats 4000000 in
set_option maxRecDepth 100000 in
theorem c_fill (l : Launch) (dC : Nat → ClassId) (dI : Nat → Nat → Nat) (a1 : Nat) (cA0 : ClassId) (f0 : Nat → Int32) (p1 : Int32) (sz : Nat) : Met l yJ7_fill_53178 (Cond.code yJ7_fill_53178 cJ7_fill_53178 4 none :: wA) ({ frames := 0, cells := 0, slots := 0, locals := 0 }) (va_Pc [.ref a1, .int p1] (fun U => U.heap.size = sz ∧ va_P (dC, dI) vwCl (wd_458 a1 cA0 f0) U.heap ∧ va_K (dC, dI) vwCl [(cA0, .int)] U ∧ va_D (fun _ => True) (wd_458 a1 cA0 f0))) (va_Qv (fun (_ : Unit) => True) (fun _ t => ∃ f412 : Nat → Int32, va_P (dC, dI) vwCl (wd_457 a1 cA0 f412) t.heap ∧ va_K (dC, dI) vwCl [(cA0, .int)] t ∧ va_D (va_A (wd_458 a1 cA0 f0) sz) (wd_457 a1 cA0 f412)) (va_A (wd_458 a1 cA0 f0) sz)) 0 0 (va_A (wd_458 a1 cA0 f0) sz) := by
  refine Met.ofW (cc := cJ7_fill_53178) (maxL := 4) (ret := none) (by decide) rfl ?_
  intro p e s m args below meth c s₁ B hml hv
  obtain ⟨rfl, hsz, hP, hK, hD0⟩ := hv
  have hx := B.exec
  have hb := B.bytes
  have hr := B.returns
  have hts : ∀ w ∈ wA, w.before [.ref a1, .int p1].toArray s = true := fun w h => atoms_spec (ws := Cond.code yJ7_fill_53178 cJ7_fill_53178 4 none :: wA) B.pre w (List.mem_cons_of_mem _ h)
  have hown : s.vm.findClass RJ7 = some m.cls := findClass_of_methodNamed B.named
  have hlocks := B.notSynchronized
  subst hsz
  have hD := hD0.self (sz := s.heap.size)
  generalize hAe : va_A (wd_458 a1 cA0 f0) s.heap.size = A at hD ⊢
  have hA : ∀ q : Nat, s.heap.size ≤ q → A q := fun q h => by rw [← hAe]; exact Or.inr h
  have hS : va_S A s.heap s.heap [] := va_S.rf
  have hl := lv_entry ([.ref a1, .int p1]) (n := 4) (Nat.le_of_ble_eq_true rfl)
  rw [lg_entry_eq]
  generalize (lg_sl ([.ref a1, .int p1]) ++ List.replicate (4 - (lg_sl ([.ref a1, .int p1])).length) Slot.unset).toArray = ls at hl ⊢
  have hl : lv_has ls 4 [(0, .ref a1), (1, .int p1)] := hl
  refine lv_iconst (v := 0) hx hb dJ7_fill_53178_0 (by decide) ?_
  refine lv_istore_n (lv' := [(2, .int 0), (0, .ref a1), (1, .int p1)]) hx hb dJ7_fill_53178_1 rfl hl (by decide) rfl (fun ls hl => ?_)
  refine lv_aload_n hx hb dJ7_fill_53178_2 rfl (lv_at hl 1 rfl) ?_
  refine va_alen (v := 168) hx hb hK hP 0 0 rfl rfl rfl dJ7_fill_53178_3 ?_
  refine lv_istore_n (lv' := [(3, .int 168), (2, .int 0), (0, .ref a1), (1, .int p1)]) hx hb dJ7_fill_53178_4 rfl hl (by decide) rfl (fun ls hl => ?_)
  refine lp_fill hx hb hK (fun H locs ls f412 hP hD hS hl => ?_) 168 0 _ _ _ _ rfl hP hD hS (lv_sub hl [1, 0, 2, 3] rfl)
  refine W.widen (k := 0) (n := 0) (Nat.le_of_ble_eq_true rfl) (Nat.le_of_ble_eq_true rfl) ?_
  have hP9 := hP.sub (ws' := (wd_457 a1 cA0 f412)) [0] rfl
  have hD9 := hD.sub (ws' := (wd_457 a1 cA0 f412)) [0] (by decide) rfl
  have hK9 := hK.sub (tys' := [(cA0, .int)]) [0] rfl
  exact W.vret hx hb hr (fun t ht hW => ⟨⟨(), rfl, trivial, f412, by rw [ht]; exact hP9, va_K.moved hW.alike hK9, hD9⟩, hS.F ht⟩) hS.2.2 dJ7_fill_53178_20
set_option maxHeartbeats 4000000 in
set_option maxRecDepth 100000 in
theorem c2_J7_rangeCheck_23922 (l : Launch) (dC : Nat → ClassId) (dI : Nat → Nat → Nat) (sz : Nat) : Met l yJ7_rangeCheck_23922 (Cond.code yJ7_rangeCheck_23922 cJ7_rangeCheck_23922 3 none :: wA) ({ frames := 0, cells := 0, slots := 0, locals := 0 }) (va_Pc [.int 168, .int 0, .int 8] (fun U => U.heap.size = sz ∧ va_P (dC, dI) vwCl [] U.heap ∧ va_K (dC, dI) vwCl [] U ∧ va_D (fun _ => True) [])) (va_Qv (fun (_ : Unit) => True) (fun _ t => va_P (dC, dI) vwCl [] t.heap ∧ va_K (dC, dI) vwCl [] t ∧ va_D (va_A [] sz) []) (va_A [] sz)) 0 0 (va_A [] sz) := by
  refine Met.ofW (cc := cJ7_rangeCheck_23922) (maxL := 3) (ret := none) (by decide) rfl ?_
  intro p e s m args below meth c s₁ B hml hv
  obtain ⟨rfl, hsz, hP, hK, hD0⟩ := hv
  have hx := B.exec
  have hb := B.bytes
  have hr := B.returns
  have hts : ∀ w ∈ wA, w.before [.int 168, .int 0, .int 8].toArray s = true := fun w h => atoms_spec (ws := Cond.code yJ7_rangeCheck_23922 cJ7_rangeCheck_23922 3 none :: wA) B.pre w (List.mem_cons_of_mem _ h)
  have hown : s.vm.findClass RJ7 = some m.cls := findClass_of_methodNamed B.named
  have hlocks := B.notSynchronized
  subst hsz
  have hD := hD0.self (sz := s.heap.size)
  generalize hAe : va_A [] s.heap.size = A at hD ⊢
  have hA : ∀ q : Nat, s.heap.size ≤ q → A q := fun q h => by rw [← hAe]; exact Or.inr h
  have hS : va_S A s.heap s.heap [] := va_S.rf
  have hl := lv_entry ([.int 168, .int 0, .int 8]) (n := 3) (Nat.le_of_ble_eq_true rfl)
  rw [lg_entry_eq]
  generalize (lg_sl ([.int 168, .int 0, .int 8]) ++ List.replicate (3 - (lg_sl ([.int 168, .int 0, .int 8])).length) Slot.unset).toArray = ls at hl ⊢
  have hl : lv_has ls 3 [(0, .int 168), (1, .int 0), (2, .int 8)] := hl
  refine lv_iload_n hx hb dJ7_rangeCheck_23922_0 rfl (lv_at hl 1 rfl) ?_
  refine lv_iload_n hx hb dJ7_rangeCheck_23922_1 rfl (lv_at hl 2 rfl) ?_
  refine lv_icmp_le (tgt := 46) hx hb dJ7_rangeCheck_23922_2 (by decide) (fun c_0 => ?_) (fun c_0 => absurd c_0 (by decide))
  refine lv_iload_n hx hb dJ7_rangeCheck_23922_46 rfl (lv_at hl 1 rfl) ?_
  refine lv_if_ge (tgt := 59) hx hb dJ7_rangeCheck_23922_47 (by decide) (fun c_0 => ?_) (fun c_0 => absurd c_0 (by decide))
  refine lv_iload_n hx hb dJ7_rangeCheck_23922_59 rfl (lv_at hl 2 rfl) ?_
  refine lv_iload_n hx hb dJ7_rangeCheck_23922_60 rfl (lv_at hl 0 rfl) ?_
  refine lv_icmp_le (tgt := 73) hx hb dJ7_rangeCheck_23922_61 (by decide) (fun c_0 => ?_) (fun c_0 => absurd c_0 (by decide))
  refine W.widen (k := 0) (n := 0) (Nat.le_of_ble_eq_true rfl) (Nat.le_of_ble_eq_true rfl) ?_
  have hP9 := hP.sub (ws' := []) [] rfl
  have hD9 := hD.sub (ws' := []) [] (by decide) rfl
  have hK9 := hK.sub (tys' := []) [] rfl
  exact W.vret hx hb hr (fun t ht hW => ⟨⟨(), rfl, trivial, by rw [ht]; exact hP9, va_K.moved hW.alike hK9, hD9⟩, hS.F ht⟩) hS.2.2 dJ7_rangeCheck_23922_73
def wd_459 (a1 : Nat) (cA0 : ClassId) (f414 : Nat → Int32) : va_W := [(a1, .inl (cA0, 168, .inl f414))]
def wd_460 (a1 : Nat) (cA0 : ClassId) (f415 : Nat → Int32) : va_W := [(a1, .inl (cA0, 168, .inl f415))]
def wd_461 (a1 : Nat) (cA0 : ClassId) (f416 : Nat → Int32) : va_W := [(a1, .inl (cA0, 168, .inl f416))]
def wd_462 (a1 : Nat) (cA0 : ClassId) (f417 : Nat → Int32) : va_W := [(a1, .inl (cA0, 168, .inl f417))]
def wd_463 (a1 : Nat) (cA0 : ClassId) (f418 : Nat → Int32) : va_W := [(a1, .inl (cA0, 168, .inl f418))]
def wd_464 (a1 : Nat) (cA0 : ClassId) (f419 : Nat → Int32) : va_W := [(a1, .inl (cA0, 168, .inl f419))]
def wd_465 (a1 : Nat) (cA0 : ClassId) (f420 : Nat → Int32) : va_W := [(a1, .inl (cA0, 168, .inl f420))]
def wd_466 (a1 : Nat) (cA0 : ClassId) (f421 : Nat → Int32) : va_W := [(a1, .inl (cA0, 168, .inl f421))]
def wd_467 (a1 : Nat) (cA0 : ClassId) (f423 : Nat → Int32) : va_W := [(a1, .inl (cA0, 168, .inl f423))]
def wd_468 (a1 : Nat) (cA0 : ClassId) (f424 : Nat → Int32) : va_W := [(a1, .inl (cA0, 168, .inl f424))]
def wd_469 (a1 : Nat) (cA0 : ClassId) (f425 : Nat → Int32) : va_W := [(a1, .inl (cA0, 168, .inl f425))]
def wd_470 (a1 : Nat) (cA0 : ClassId) (f426 : Nat → Int32) : va_W := [(a1, .inl (cA0, 168, .inl f426))]
def wd_471 (a1 : Nat) (cA0 : ClassId) (f427 : Nat → Int32) : va_W := [(a1, .inl (cA0, 168, .inl f427))]
def wd_472 (a1 : Nat) (cA0 : ClassId) (f428 : Nat → Int32) : va_W := [(a1, .inl (cA0, 168, .inl f428))]
def wd_473 (a1 : Nat) (cA0 : ClassId) (f429 : Nat → Int32) : va_W := [(a1, .inl (cA0, 168, .inl f429))]
def wd_474 (a1 : Nat) (cA0 : ClassId) (f430 : Nat → Int32) : va_W := [(a1, .inl (cA0, 168, .inl f430))]
set_option maxHeartbeats 4000000 in
set_option maxRecDepth 100000 in
theorem c_fill4 (l : Launch) (dC : Nat → ClassId) (dI : Nat → Nat → Nat) (a1 : Nat) (cA0 : ClassId) (f0 : Nat → Int32) (p3 : Int32) (sz : Nat) : Met l yJ7_fill_fda19 (Cond.code yJ7_fill_fda19 cJ7_fill_fda19 5 none :: wA) ({ frames := 1, cells := 0, slots := 0, locals := 22 }) (va_Pc [.ref a1, .int 0, .int 8, .int p3] (fun U => U.heap.size = sz ∧ va_P (dC, dI) vwCl (wd_458 a1 cA0 f0) U.heap ∧ va_K (dC, dI) vwCl [(cA0, .int)] U ∧ va_D (fun _ => True) (wd_458 a1 cA0 f0))) (va_Qv (fun (_ : Unit) => True) (fun _ t => ∃ f430 : Nat → Int32, va_P (dC, dI) vwCl (wd_474 a1 cA0 f430) t.heap ∧ va_K (dC, dI) vwCl [(cA0, .int)] t ∧ va_D (va_A (wd_458 a1 cA0 f0) sz) (wd_474 a1 cA0 f430)) (va_A (wd_458 a1 cA0 f0) sz)) 0 0 (va_A (wd_458 a1 cA0 f0) sz) := by
  refine Met.ofW (cc := cJ7_fill_fda19) (maxL := 5) (ret := none) (by decide) rfl ?_
  intro p e s m args below meth c s₁ B hml hv
  obtain ⟨rfl, hsz, hP, hK, hD0⟩ := hv
  have hx := B.exec
  have hb := B.bytes
  have hr := B.returns
  have hts : ∀ w ∈ wA, w.before [.ref a1, .int 0, .int 8, .int p3].toArray s = true := fun w h => atoms_spec (ws := Cond.code yJ7_fill_fda19 cJ7_fill_fda19 5 none :: wA) B.pre w (List.mem_cons_of_mem _ h)
  have hown : s.vm.findClass RJ7 = some m.cls := findClass_of_methodNamed B.named
  have hlocks := B.notSynchronized
  subst hsz
  have hD := hD0.self (sz := s.heap.size)
  generalize hAe : va_A (wd_458 a1 cA0 f0) s.heap.size = A at hD ⊢
  have hA : ∀ q : Nat, s.heap.size ≤ q → A q := fun q h => by rw [← hAe]; exact Or.inr h
  have hS : va_S A s.heap s.heap [] := va_S.rf
  have hl := lv_entry ([.ref a1, .int 0, .int 8, .int p3]) (n := 5) (Nat.le_of_ble_eq_true rfl)
  rw [lg_entry_eq]
  generalize (lg_sl ([.ref a1, .int 0, .int 8, .int p3]) ++ List.replicate (5 - (lg_sl ([.ref a1, .int 0, .int 8, .int p3])).length) Slot.unset).toArray = ls at hl ⊢
  have hl : lv_has ls 5 [(0, .ref a1), (1, .int 0), (2, .int 8), (3, .int p3)] := hl
  refine lv_aload_n hx hb dJ7_fill_fda19_0 rfl (lv_at hl 0 rfl) ?_
  refine va_alen (v := 168) hx hb hK hP 0 0 rfl rfl rfl dJ7_fill_fda19_1 ?_
  refine lv_iload_n hx hb dJ7_fill_fda19_2 rfl (lv_at hl 1 rfl) ?_
  refine lv_iload_n hx hb dJ7_fill_fda19_3 rfl (lv_at hl 2 rfl) ?_
  have hPc := hP.sub (ws' := []) [] rfl
  have hDc := hD.sub (ws' := []) [] (by decide) rfl
  have hKc := hK.sub (tys' := []) [] rfl
  have hFc := va_free (wc := []) hD hS hA [] rfl
  refine va_callv (va_runS (As := [.int 168, .int 0, .int 8]) (rest := []) ⟨hx, hb, hml, hown, hts⟩ (c2_J7_rangeCheck_23922 l dC dI s.heap.size) (va_cwS 3 hts (gS q_243 q_244 q_245 q_242) rfl rfl rfl mds_yJ7_rangeCheck_23922 ⟨Nat.le_of_ble_eq_true rfl, Nat.le_of_ble_eq_true rfl⟩) ⟨fun a U g mk q => by obtain ⟨q0, q1, qP, qK, qD⟩ := q; exact ⟨q0, q1, qP, va_K.moved (u := U) (U := U.calling g mk a) (Vm.Alike.refl U.vm) qK, qD⟩, fun U hU hW => ⟨rfl, by rw [hU], by rw [hU]; exact hPc, va_K.moved hW.alike hKc, hDc.weaken (fun _ _ _ _ => trivial)⟩⟩ rfl rfl hl.1 rfl (lv_room (Nat.le_of_ble_eq_true rfl)) dJ7_fill_fda19_4 ⟨Nat.le_of_ble_eq_true rfl, Nat.le_of_ble_eq_true rfl⟩) hS (fun q _ h => hFc q h) hFc (fun u t H1 locs ht hvm hw hB hz1 hk1 hS => ?_)
  obtain ⟨hP1, hK1, hD1⟩ := hB
  rw [ht] at hP1
  have hK1 := va_K.moved hvm.symm hK1
  obtain ⟨hP, hD⟩ := va_join (wr := (wd_458 a1 cA0 f0)) (w1 := []) hP hD [] [0] rfl rfl (by decide) (by decide) hk1 hFc hP1 hD1
  generalize H1 = H at hP hS ⊢
  have hP : va_P (dC, dI) vwCl (wd_458 a1 cA0 f0) H := hP
  have hD : va_D A (wd_458 a1 cA0 f0) := hD
  refine lv_iload_n hx hb dJ7_fill_fda19_7 rfl (lv_at hl 1 rfl) ?_
  refine lv_istore (lv' := [(4, .int 0), (0, .ref a1), (1, .int 0), (2, .int 8), (3, .int p3)]) hx hb dJ7_fill_fda19_8 hl (by decide) rfl (fun ls hl => ?_)
  refine lv_iload hx hb dJ7_fill_fda19_10 (lv_at hl 0 rfl) ?_
  refine lv_iload_n hx hb dJ7_fill_fda19_12 rfl (lv_at hl 3 rfl) ?_
  refine lv_icmp_ge (tgt := 27) hx hb dJ7_fill_fda19_13 (by decide) (fun c_0 => absurd c_0 (by decide)) (fun c_0 => ?_)
  refine lv_aload_n hx hb dJ7_fill_fda19_16 rfl (lv_at hl 1 rfl) ?_
  refine lv_iload hx hb dJ7_fill_fda19_17 (lv_at hl 0 rfl) ?_
  refine lv_iload_n hx hb dJ7_fill_fda19_19 rfl (lv_at hl 4 rfl) ?_
  refine va_iast hx hb hK hP hD hS 0 0 rfl rfl (vpi (by decide)) dJ7_fill_fda19_20 (fun H locs hP hD hS => ?_)
  obtain ⟨f423, hP, hD⟩ : ∃ f : Nat → Int32, va_P (dC, dI) vwCl (wd_456 a1 cA0 f) H ∧ va_D A (wd_456 a1 cA0 f) := ⟨_, hP, hD⟩
  have hP : va_P (dC, dI) vwCl (wd_467 a1 cA0 f423) H := hP
  have hD : va_D A (wd_467 a1 cA0 f423) := hD
  refine lv_iinc (v := 1) (lv' := [(4, .int 1), (0, .ref a1), (1, .int 0), (2, .int 8), (3, .int p3)]) hx hb dJ7_fill_fda19_21 hl (k := 0) rfl (by decide) (by decide) rfl (fun ls hl => ?_)
  refine lv_goto (tgt := 10) hx hb dJ7_fill_fda19_24 (by decide) ?_
  refine lv_iload hx hb dJ7_fill_fda19_10 (lv_at hl 0 rfl) ?_
  refine lv_iload_n hx hb dJ7_fill_fda19_12 rfl (lv_at hl 3 rfl) ?_
  refine lv_icmp_ge (tgt := 27) hx hb dJ7_fill_fda19_13 (by decide) (fun c_0 => absurd c_0 (by decide)) (fun c_0 => ?_)
  refine lv_aload_n hx hb dJ7_fill_fda19_16 rfl (lv_at hl 1 rfl) ?_
  refine lv_iload hx hb dJ7_fill_fda19_17 (lv_at hl 0 rfl) ?_
  refine lv_iload_n hx hb dJ7_fill_fda19_19 rfl (lv_at hl 4 rfl) ?_
  refine va_iast hx hb hK hP hD hS 0 0 rfl rfl (vpi (by decide)) dJ7_fill_fda19_20 (fun H locs hP hD hS => ?_)
  obtain ⟨f424, hP, hD⟩ : ∃ f : Nat → Int32, va_P (dC, dI) vwCl (wd_456 a1 cA0 f) H ∧ va_D A (wd_456 a1 cA0 f) := ⟨_, hP, hD⟩
  have hP : va_P (dC, dI) vwCl (wd_468 a1 cA0 f424) H := hP
  have hD : va_D A (wd_468 a1 cA0 f424) := hD
  refine lv_iinc (v := 2) (lv' := [(4, .int 2), (0, .ref a1), (1, .int 0), (2, .int 8), (3, .int p3)]) hx hb dJ7_fill_fda19_21 hl (k := 0) rfl (by decide) (by decide) rfl (fun ls hl => ?_)
  refine lv_goto (tgt := 10) hx hb dJ7_fill_fda19_24 (by decide) ?_
  refine lv_iload hx hb dJ7_fill_fda19_10 (lv_at hl 0 rfl) ?_
  refine lv_iload_n hx hb dJ7_fill_fda19_12 rfl (lv_at hl 3 rfl) ?_
  refine lv_icmp_ge (tgt := 27) hx hb dJ7_fill_fda19_13 (by decide) (fun c_0 => absurd c_0 (by decide)) (fun c_0 => ?_)
  refine lv_aload_n hx hb dJ7_fill_fda19_16 rfl (lv_at hl 1 rfl) ?_
  refine lv_iload hx hb dJ7_fill_fda19_17 (lv_at hl 0 rfl) ?_
  refine lv_iload_n hx hb dJ7_fill_fda19_19 rfl (lv_at hl 4 rfl) ?_
  refine va_iast hx hb hK hP hD hS 0 0 rfl rfl (vpi (by decide)) dJ7_fill_fda19_20 (fun H locs hP hD hS => ?_)
  obtain ⟨f425, hP, hD⟩ : ∃ f : Nat → Int32, va_P (dC, dI) vwCl (wd_456 a1 cA0 f) H ∧ va_D A (wd_456 a1 cA0 f) := ⟨_, hP, hD⟩
  have hP : va_P (dC, dI) vwCl (wd_469 a1 cA0 f425) H := hP
  have hD : va_D A (wd_469 a1 cA0 f425) := hD
  refine lv_iinc (v := 3) (lv' := [(4, .int 3), (0, .ref a1), (1, .int 0), (2, .int 8), (3, .int p3)]) hx hb dJ7_fill_fda19_21 hl (k := 0) rfl (by decide) (by decide) rfl (fun ls hl => ?_)
  refine lv_goto (tgt := 10) hx hb dJ7_fill_fda19_24 (by decide) ?_
  refine lv_iload hx hb dJ7_fill_fda19_10 (lv_at hl 0 rfl) ?_
  refine lv_iload_n hx hb dJ7_fill_fda19_12 rfl (lv_at hl 3 rfl) ?_
  refine lv_icmp_ge (tgt := 27) hx hb dJ7_fill_fda19_13 (by decide) (fun c_0 => absurd c_0 (by decide)) (fun c_0 => ?_)
  refine lv_aload_n hx hb dJ7_fill_fda19_16 rfl (lv_at hl 1 rfl) ?_
  refine lv_iload hx hb dJ7_fill_fda19_17 (lv_at hl 0 rfl) ?_
  refine lv_iload_n hx hb dJ7_fill_fda19_19 rfl (lv_at hl 4 rfl) ?_
  refine va_iast hx hb hK hP hD hS 0 0 rfl rfl (vpi (by decide)) dJ7_fill_fda19_20 (fun H locs hP hD hS => ?_)
  obtain ⟨f426, hP, hD⟩ : ∃ f : Nat → Int32, va_P (dC, dI) vwCl (wd_456 a1 cA0 f) H ∧ va_D A (wd_456 a1 cA0 f) := ⟨_, hP, hD⟩
  have hP : va_P (dC, dI) vwCl (wd_470 a1 cA0 f426) H := hP
  have hD : va_D A (wd_470 a1 cA0 f426) := hD
  refine lv_iinc (v := 4) (lv' := [(4, .int 4), (0, .ref a1), (1, .int 0), (2, .int 8), (3, .int p3)]) hx hb dJ7_fill_fda19_21 hl (k := 0) rfl (by decide) (by decide) rfl (fun ls hl => ?_)
  refine lv_goto (tgt := 10) hx hb dJ7_fill_fda19_24 (by decide) ?_
  refine lv_iload hx hb dJ7_fill_fda19_10 (lv_at hl 0 rfl) ?_
  refine lv_iload_n hx hb dJ7_fill_fda19_12 rfl (lv_at hl 3 rfl) ?_
  refine lv_icmp_ge (tgt := 27) hx hb dJ7_fill_fda19_13 (by decide) (fun c_0 => absurd c_0 (by decide)) (fun c_0 => ?_)
  refine lv_aload_n hx hb dJ7_fill_fda19_16 rfl (lv_at hl 1 rfl) ?_
  refine lv_iload hx hb dJ7_fill_fda19_17 (lv_at hl 0 rfl) ?_
  refine lv_iload_n hx hb dJ7_fill_fda19_19 rfl (lv_at hl 4 rfl) ?_
  refine va_iast hx hb hK hP hD hS 0 0 rfl rfl (vpi (by decide)) dJ7_fill_fda19_20 (fun H locs hP hD hS => ?_)
  obtain ⟨f427, hP, hD⟩ : ∃ f : Nat → Int32, va_P (dC, dI) vwCl (wd_456 a1 cA0 f) H ∧ va_D A (wd_456 a1 cA0 f) := ⟨_, hP, hD⟩
  have hP : va_P (dC, dI) vwCl (wd_471 a1 cA0 f427) H := hP
  have hD : va_D A (wd_471 a1 cA0 f427) := hD
  refine lv_iinc (v := 5) (lv' := [(4, .int 5), (0, .ref a1), (1, .int 0), (2, .int 8), (3, .int p3)]) hx hb dJ7_fill_fda19_21 hl (k := 0) rfl (by decide) (by decide) rfl (fun ls hl => ?_)
  refine lv_goto (tgt := 10) hx hb dJ7_fill_fda19_24 (by decide) ?_
  refine lv_iload hx hb dJ7_fill_fda19_10 (lv_at hl 0 rfl) ?_
  refine lv_iload_n hx hb dJ7_fill_fda19_12 rfl (lv_at hl 3 rfl) ?_
  refine lv_icmp_ge (tgt := 27) hx hb dJ7_fill_fda19_13 (by decide) (fun c_0 => absurd c_0 (by decide)) (fun c_0 => ?_)
  refine lv_aload_n hx hb dJ7_fill_fda19_16 rfl (lv_at hl 1 rfl) ?_
  refine lv_iload hx hb dJ7_fill_fda19_17 (lv_at hl 0 rfl) ?_
  refine lv_iload_n hx hb dJ7_fill_fda19_19 rfl (lv_at hl 4 rfl) ?_
  refine va_iast hx hb hK hP hD hS 0 0 rfl rfl (vpi (by decide)) dJ7_fill_fda19_20 (fun H locs hP hD hS => ?_)
  obtain ⟨f428, hP, hD⟩ : ∃ f : Nat → Int32, va_P (dC, dI) vwCl (wd_456 a1 cA0 f) H ∧ va_D A (wd_456 a1 cA0 f) := ⟨_, hP, hD⟩
  have hP : va_P (dC, dI) vwCl (wd_472 a1 cA0 f428) H := hP
  have hD : va_D A (wd_472 a1 cA0 f428) := hD
  refine lv_iinc (v := 6) (lv' := [(4, .int 6), (0, .ref a1), (1, .int 0), (2, .int 8), (3, .int p3)]) hx hb dJ7_fill_fda19_21 hl (k := 0) rfl (by decide) (by decide) rfl (fun ls hl => ?_)
  refine lv_goto (tgt := 10) hx hb dJ7_fill_fda19_24 (by decide) ?_
  refine lv_iload hx hb dJ7_fill_fda19_10 (lv_at hl 0 rfl) ?_
  refine lv_iload_n hx hb dJ7_fill_fda19_12 rfl (lv_at hl 3 rfl) ?_
  refine lv_icmp_ge (tgt := 27) hx hb dJ7_fill_fda19_13 (by decide) (fun c_0 => absurd c_0 (by decide)) (fun c_0 => ?_)
  refine lv_aload_n hx hb dJ7_fill_fda19_16 rfl (lv_at hl 1 rfl) ?_
  refine lv_iload hx hb dJ7_fill_fda19_17 (lv_at hl 0 rfl) ?_
  refine lv_iload_n hx hb dJ7_fill_fda19_19 rfl (lv_at hl 4 rfl) ?_
  refine va_iast hx hb hK hP hD hS 0 0 rfl rfl (vpi (by decide)) dJ7_fill_fda19_20 (fun H locs hP hD hS => ?_)
  obtain ⟨f429, hP, hD⟩ : ∃ f : Nat → Int32, va_P (dC, dI) vwCl (wd_456 a1 cA0 f) H ∧ va_D A (wd_456 a1 cA0 f) := ⟨_, hP, hD⟩
  have hP : va_P (dC, dI) vwCl (wd_473 a1 cA0 f429) H := hP
  have hD : va_D A (wd_473 a1 cA0 f429) := hD
  refine lv_iinc (v := 7) (lv' := [(4, .int 7), (0, .ref a1), (1, .int 0), (2, .int 8), (3, .int p3)]) hx hb dJ7_fill_fda19_21 hl (k := 0) rfl (by decide) (by decide) rfl (fun ls hl => ?_)
  refine lv_goto (tgt := 10) hx hb dJ7_fill_fda19_24 (by decide) ?_
  refine lv_iload hx hb dJ7_fill_fda19_10 (lv_at hl 0 rfl) ?_
  refine lv_iload_n hx hb dJ7_fill_fda19_12 rfl (lv_at hl 3 rfl) ?_
  refine lv_icmp_ge (tgt := 27) hx hb dJ7_fill_fda19_13 (by decide) (fun c_0 => absurd c_0 (by decide)) (fun c_0 => ?_)
  refine lv_aload_n hx hb dJ7_fill_fda19_16 rfl (lv_at hl 1 rfl) ?_
  refine lv_iload hx hb dJ7_fill_fda19_17 (lv_at hl 0 rfl) ?_
  refine lv_iload_n hx hb dJ7_fill_fda19_19 rfl (lv_at hl 4 rfl) ?_
  refine va_iast hx hb hK hP hD hS 0 0 rfl rfl (vpi (by decide)) dJ7_fill_fda19_20 (fun H locs hP hD hS => ?_)
  obtain ⟨f430, hP, hD⟩ : ∃ f : Nat → Int32, va_P (dC, dI) vwCl (wd_456 a1 cA0 f) H ∧ va_D A (wd_456 a1 cA0 f) := ⟨_, hP, hD⟩
  have hP : va_P (dC, dI) vwCl (wd_474 a1 cA0 f430) H := hP
  have hD : va_D A (wd_474 a1 cA0 f430) := hD
  refine lv_iinc (v := 8) (lv' := [(4, .int 8), (0, .ref a1), (1, .int 0), (2, .int 8), (3, .int p3)]) hx hb dJ7_fill_fda19_21 hl (k := 0) rfl (by decide) (by decide) rfl (fun ls hl => ?_)
  refine lv_goto (tgt := 10) hx hb dJ7_fill_fda19_24 (by decide) ?_
  refine lv_iload hx hb dJ7_fill_fda19_10 (lv_at hl 0 rfl) ?_
  refine lv_iload_n hx hb dJ7_fill_fda19_12 rfl (lv_at hl 3 rfl) ?_
  refine lv_icmp_ge (tgt := 27) hx hb dJ7_fill_fda19_13 (by decide) (fun c_0 => ?_) (fun c_0 => absurd c_0 (by decide))
  refine W.widen (k := 0) (n := 0) (Nat.le_of_ble_eq_true rfl) (Nat.le_of_ble_eq_true rfl) ?_
  have hP9 := hP.sub (ws' := (wd_474 a1 cA0 f430)) [0] rfl
  have hD9 := hD.sub (ws' := (wd_474 a1 cA0 f430)) [0] (by decide) rfl
  have hK9 := hK.sub (tys' := [(cA0, .int)]) [0] rfl
  exact W.vret hx hb hr (fun t ht hW => ⟨⟨(), rfl, trivial, f430, by rw [ht]; exact hP9, va_K.moved hW.alike hK9, hD9⟩, hS.F ht⟩) hS.2.2 dJ7_fill_fda19_27
def sp_10 (x : Int32) : Int32 := if x.toInt < 0 ∨ 9 < x.toInt then -1 else 0
def sp_7 (x : Int32) : Int32 := if x.toInt < 0 ∨ 6 < x.toInt then -1 else 0
def sp_1 (x : Int32) : Int32 := if x.toInt < 0 ∨ 0 < x.toInt then -1 else 0
def sp_e (x : Int32) : Int32 := if x.toInt < 0 ∨ 0 < x.toInt then 0 else 1
def sp_s (x : Int32) : Int32 := if 0 ≤ x then 1 else 0
theorem sw_1 (x : Int32) : x = 0 ∨ (x.toInt < 0 ∨ 0 < x.toInt) := by
  have key : ∀ k : Int32, x.toInt = k.toInt → x = k := fun k h => Int32.toInt_inj.mp h
  by_cases h : x.toInt < 0 ∨ 0 < x.toInt
  · exact Or.inr h
  · have h2 : x.toInt = 0 := by omega
    · exact Or.inl (key 0 h2)
theorem sw_7 (x : Int32) : x = 0 ∨ x = 1 ∨ x = 2 ∨ x = 3 ∨ x = 4 ∨ x = 5 ∨ x = 6 ∨ (x.toInt < 0 ∨ 6 < x.toInt) := by
  have key : ∀ k : Int32, x.toInt = k.toInt → x = k := fun k h => Int32.toInt_inj.mp h
  by_cases h : x.toInt < 0 ∨ 6 < x.toInt
  · exact Or.inr (Or.inr (Or.inr (Or.inr (Or.inr (Or.inr (Or.inr h))))))
  · have h2 : x.toInt = 0 ∨ x.toInt = 1 ∨ x.toInt = 2 ∨ x.toInt = 3 ∨ x.toInt = 4 ∨ x.toInt = 5 ∨ x.toInt = 6 := by omega
    rcases h2 with h2 | h2 | h2 | h2 | h2 | h2 | h2
    · exact Or.inl (key 0 h2)
    · exact Or.inr (Or.inl (key 1 h2))
    · exact Or.inr (Or.inr (Or.inl (key 2 h2)))
    · exact Or.inr (Or.inr (Or.inr (Or.inl (key 3 h2))))
    · exact Or.inr (Or.inr (Or.inr (Or.inr (Or.inl (key 4 h2)))))
    · exact Or.inr (Or.inr (Or.inr (Or.inr (Or.inr (Or.inl (key 5 h2))))))
    · exact Or.inr (Or.inr (Or.inr (Or.inr (Or.inr (Or.inr (Or.inl (key 6 h2)))))))
theorem sw_10 (x : Int32) : x = 0 ∨ x = 1 ∨ x = 2 ∨ x = 3 ∨ x = 4 ∨ x = 5 ∨ x = 6 ∨ x = 7 ∨ x = 8 ∨ x = 9 ∨ (x.toInt < 0 ∨ 9 < x.toInt) := by
  have key : ∀ k : Int32, x.toInt = k.toInt → x = k := fun k h => Int32.toInt_inj.mp h
  by_cases h : x.toInt < 0 ∨ 9 < x.toInt
  · exact Or.inr (Or.inr (Or.inr (Or.inr (Or.inr (Or.inr (Or.inr (Or.inr (Or.inr (Or.inr h)))))))))
  · have h2 : x.toInt = 0 ∨ x.toInt = 1 ∨ x.toInt = 2 ∨ x.toInt = 3 ∨ x.toInt = 4 ∨ x.toInt = 5 ∨ x.toInt = 6 ∨ x.toInt = 7 ∨ x.toInt = 8 ∨ x.toInt = 9 := by omega
    rcases h2 with h2 | h2 | h2 | h2 | h2 | h2 | h2 | h2 | h2 | h2
    · exact Or.inl (key 0 h2)
    · exact Or.inr (Or.inl (key 1 h2))
    · exact Or.inr (Or.inr (Or.inl (key 2 h2)))
    · exact Or.inr (Or.inr (Or.inr (Or.inl (key 3 h2))))
    · exact Or.inr (Or.inr (Or.inr (Or.inr (Or.inl (key 4 h2)))))
    · exact Or.inr (Or.inr (Or.inr (Or.inr (Or.inr (Or.inl (key 5 h2))))))
    · exact Or.inr (Or.inr (Or.inr (Or.inr (Or.inr (Or.inr (Or.inl (key 6 h2)))))))
    · exact Or.inr (Or.inr (Or.inr (Or.inr (Or.inr (Or.inr (Or.inr (Or.inl (key 7 h2))))))))
    · exact Or.inr (Or.inr (Or.inr (Or.inr (Or.inr (Or.inr (Or.inr (Or.inr (Or.inl (key 8 h2)))))))))
    · exact Or.inr (Or.inr (Or.inr (Or.inr (Or.inr (Or.inr (Or.inr (Or.inr (Or.inr (Or.inl (key 9 h2))))))))))
theorem sw_41 (x : Int32) : x = 0 ∨ x = 1 ∨ x = 2 ∨ x = 3 ∨ x = 4 ∨ x = 5 ∨ x = 6 ∨ x = 7 ∨ x = 8 ∨ x = 9 ∨ x = 10 ∨ x = 11 ∨ x = 12 ∨ x = 13 ∨ x = 14 ∨ x = 15 ∨ x = 16 ∨ x = 17 ∨ x = 18 ∨ x = 19 ∨ x = 20 ∨ x = 21 ∨ x = 22 ∨ x = 23 ∨ x = 24 ∨ x = 25 ∨ x = 26 ∨ x = 27 ∨ x = 28 ∨ x = 29 ∨ x = 30 ∨ x = 31 ∨ x = 32 ∨ x = 33 ∨ x = 34 ∨ x = 35 ∨ x = 36 ∨ x = 37 ∨ x = 38 ∨ x = 39 ∨ x = 40 ∨ (x.toInt < 0 ∨ 40 < x.toInt) := by
  have key : ∀ k : Int32, x.toInt = k.toInt → x = k := fun k h => Int32.toInt_inj.mp h
  by_cases h : x.toInt < 0 ∨ 40 < x.toInt
  · exact Or.inr (Or.inr (Or.inr (Or.inr (Or.inr (Or.inr (Or.inr (Or.inr (Or.inr (Or.inr (Or.inr (Or.inr (Or.inr (Or.inr (Or.inr (Or.inr (Or.inr (Or.inr (Or.inr (Or.inr (Or.inr (Or.inr (Or.inr (Or.inr (Or.inr (Or.inr (Or.inr (Or.inr (Or.inr (Or.inr (Or.inr (Or.inr (Or.inr (Or.inr (Or.inr (Or.inr (Or.inr (Or.inr (Or.inr (Or.inr (Or.inr h))))))))))))))))))))))))))))))))))))))))
  · have h2 : x.toInt = 0 ∨ x.toInt = 1 ∨ x.toInt = 2 ∨ x.toInt = 3 ∨ x.toInt = 4 ∨ x.toInt = 5 ∨ x.toInt = 6 ∨ x.toInt = 7 ∨ x.toInt = 8 ∨ x.toInt = 9 ∨ x.toInt = 10 ∨ x.toInt = 11 ∨ x.toInt = 12 ∨ x.toInt = 13 ∨ x.toInt = 14 ∨ x.toInt = 15 ∨ x.toInt = 16 ∨ x.toInt = 17 ∨ x.toInt = 18 ∨ x.toInt = 19 ∨ x.toInt = 20 ∨ x.toInt = 21 ∨ x.toInt = 22 ∨ x.toInt = 23 ∨ x.toInt = 24 ∨ x.toInt = 25 ∨ x.toInt = 26 ∨ x.toInt = 27 ∨ x.toInt = 28 ∨ x.toInt = 29 ∨ x.toInt = 30 ∨ x.toInt = 31 ∨ x.toInt = 32 ∨ x.toInt = 33 ∨ x.toInt = 34 ∨ x.toInt = 35 ∨ x.toInt = 36 ∨ x.toInt = 37 ∨ x.toInt = 38 ∨ x.toInt = 39 ∨ x.toInt = 40 := by omega
    rcases h2 with h2 | h2 | h2 | h2 | h2 | h2 | h2 | h2 | h2 | h2 | h2 | h2 | h2 | h2 | h2 | h2 | h2 | h2 | h2 | h2 | h2 | h2 | h2 | h2 | h2 | h2 | h2 | h2 | h2 | h2 | h2 | h2 | h2 | h2 | h2 | h2 | h2 | h2 | h2 | h2 | h2
    · exact Or.inl (key 0 h2)
    · exact Or.inr (Or.inl (key 1 h2))
    · exact Or.inr (Or.inr (Or.inl (key 2 h2)))
    · exact Or.inr (Or.inr (Or.inr (Or.inl (key 3 h2))))
    · exact Or.inr (Or.inr (Or.inr (Or.inr (Or.inl (key 4 h2)))))
    · exact Or.inr (Or.inr (Or.inr (Or.inr (Or.inr (Or.inl (key 5 h2))))))
    · exact Or.inr (Or.inr (Or.inr (Or.inr (Or.inr (Or.inr (Or.inl (key 6 h2)))))))
    · exact Or.inr (Or.inr (Or.inr (Or.inr (Or.inr (Or.inr (Or.inr (Or.inl (key 7 h2))))))))
    · exact Or.inr (Or.inr (Or.inr (Or.inr (Or.inr (Or.inr (Or.inr (Or.inr (Or.inl (key 8 h2)))))))))
    · exact Or.inr (Or.inr (Or.inr (Or.inr (Or.inr (Or.inr (Or.inr (Or.inr (Or.inr (Or.inl (key 9 h2))))))))))
    · exact Or.inr (Or.inr (Or.inr (Or.inr (Or.inr (Or.inr (Or.inr (Or.inr (Or.inr (Or.inr (Or.inl (key 10 h2)))))))))))
    · exact Or.inr (Or.inr (Or.inr (Or.inr (Or.inr (Or.inr (Or.inr (Or.inr (Or.inr (Or.inr (Or.inr (Or.inl (key 11 h2))))))))))))
    · exact Or.inr (Or.inr (Or.inr (Or.inr (Or.inr (Or.inr (Or.inr (Or.inr (Or.inr (Or.inr (Or.inr (Or.inr (Or.inl (key 12 h2)))))))))))))
    · exact Or.inr (Or.inr (Or.inr (Or.inr (Or.inr (Or.inr (Or.inr (Or.inr (Or.inr (Or.inr (Or.inr (Or.inr (Or.inr (Or.inl (key 13 h2))))))))))))))
    · exact Or.inr (Or.inr (Or.inr (Or.inr (Or.inr (Or.inr (Or.inr (Or.inr (Or.inr (Or.inr (Or.inr (Or.inr (Or.inr (Or.inr (Or.inl (key 14 h2)))))))))))))))
    · exact Or.inr (Or.inr (Or.inr (Or.inr (Or.inr (Or.inr (Or.inr (Or.inr (Or.inr (Or.inr (Or.inr (Or.inr (Or.inr (Or.inr (Or.inr (Or.inl (key 15 h2))))))))))))))))
    · exact Or.inr (Or.inr (Or.inr (Or.inr (Or.inr (Or.inr (Or.inr (Or.inr (Or.inr (Or.inr (Or.inr (Or.inr (Or.inr (Or.inr (Or.inr (Or.inr (Or.inl (key 16 h2)))))))))))))))))
    · exact Or.inr (Or.inr (Or.inr (Or.inr (Or.inr (Or.inr (Or.inr (Or.inr (Or.inr (Or.inr (Or.inr (Or.inr (Or.inr (Or.inr (Or.inr (Or.inr (Or.inr (Or.inl (key 17 h2))))))))))))))))))
    · exact Or.inr (Or.inr (Or.inr (Or.inr (Or.inr (Or.inr (Or.inr (Or.inr (Or.inr (Or.inr (Or.inr (Or.inr (Or.inr (Or.inr (Or.inr (Or.inr (Or.inr (Or.inr (Or.inl (key 18 h2)))))))))))))))))))
    · exact Or.inr (Or.inr (Or.inr (Or.inr (Or.inr (Or.inr (Or.inr (Or.inr (Or.inr (Or.inr (Or.inr (Or.inr (Or.inr (Or.inr (Or.inr (Or.inr (Or.inr (Or.inr (Or.inr (Or.inl (key 19 h2))))))))))))))))))))
    · exact Or.inr (Or.inr (Or.inr (Or.inr (Or.inr (Or.inr (Or.inr (Or.inr (Or.inr (Or.inr (Or.inr (Or.inr (Or.inr (Or.inr (Or.inr (Or.inr (Or.inr (Or.inr (Or.inr (Or.inr (Or.inl (key 20 h2)))))))))))))))))))))
    · exact Or.inr (Or.inr (Or.inr (Or.inr (Or.inr (Or.inr (Or.inr (Or.inr (Or.inr (Or.inr (Or.inr (Or.inr (Or.inr (Or.inr (Or.inr (Or.inr (Or.inr (Or.inr (Or.inr (Or.inr (Or.inr (Or.inl (key 21 h2))))))))))))))))))))))
    · exact Or.inr (Or.inr (Or.inr (Or.inr (Or.inr (Or.inr (Or.inr (Or.inr (Or.inr (Or.inr (Or.inr (Or.inr (Or.inr (Or.inr (Or.inr (Or.inr (Or.inr (Or.inr (Or.inr (Or.inr (Or.inr (Or.inr (Or.inl (key 22 h2)))))))))))))))))))))))
    · exact Or.inr (Or.inr (Or.inr (Or.inr (Or.inr (Or.inr (Or.inr (Or.inr (Or.inr (Or.inr (Or.inr (Or.inr (Or.inr (Or.inr (Or.inr (Or.inr (Or.inr (Or.inr (Or.inr (Or.inr (Or.inr (Or.inr (Or.inr (Or.inl (key 23 h2))))))))))))))))))))))))
    · exact Or.inr (Or.inr (Or.inr (Or.inr (Or.inr (Or.inr (Or.inr (Or.inr (Or.inr (Or.inr (Or.inr (Or.inr (Or.inr (Or.inr (Or.inr (Or.inr (Or.inr (Or.inr (Or.inr (Or.inr (Or.inr (Or.inr (Or.inr (Or.inr (Or.inl (key 24 h2)))))))))))))))))))))))))
    · exact Or.inr (Or.inr (Or.inr (Or.inr (Or.inr (Or.inr (Or.inr (Or.inr (Or.inr (Or.inr (Or.inr (Or.inr (Or.inr (Or.inr (Or.inr (Or.inr (Or.inr (Or.inr (Or.inr (Or.inr (Or.inr (Or.inr (Or.inr (Or.inr (Or.inr (Or.inl (key 25 h2))))))))))))))))))))))))))
    · exact Or.inr (Or.inr (Or.inr (Or.inr (Or.inr (Or.inr (Or.inr (Or.inr (Or.inr (Or.inr (Or.inr (Or.inr (Or.inr (Or.inr (Or.inr (Or.inr (Or.inr (Or.inr (Or.inr (Or.inr (Or.inr (Or.inr (Or.inr (Or.inr (Or.inr (Or.inr (Or.inl (key 26 h2)))))))))))))))))))))))))))
    · exact Or.inr (Or.inr (Or.inr (Or.inr (Or.inr (Or.inr (Or.inr (Or.inr (Or.inr (Or.inr (Or.inr (Or.inr (Or.inr (Or.inr (Or.inr (Or.inr (Or.inr (Or.inr (Or.inr (Or.inr (Or.inr (Or.inr (Or.inr (Or.inr (Or.inr (Or.inr (Or.inr (Or.inl (key 27 h2))))))))))))))))))))))))))))
    · exact Or.inr (Or.inr (Or.inr (Or.inr (Or.inr (Or.inr (Or.inr (Or.inr (Or.inr (Or.inr (Or.inr (Or.inr (Or.inr (Or.inr (Or.inr (Or.inr (Or.inr (Or.inr (Or.inr (Or.inr (Or.inr (Or.inr (Or.inr (Or.inr (Or.inr (Or.inr (Or.inr (Or.inr (Or.inl (key 28 h2)))))))))))))))))))))))))))))
    · exact Or.inr (Or.inr (Or.inr (Or.inr (Or.inr (Or.inr (Or.inr (Or.inr (Or.inr (Or.inr (Or.inr (Or.inr (Or.inr (Or.inr (Or.inr (Or.inr (Or.inr (Or.inr (Or.inr (Or.inr (Or.inr (Or.inr (Or.inr (Or.inr (Or.inr (Or.inr (Or.inr (Or.inr (Or.inr (Or.inl (key 29 h2))))))))))))))))))))))))))))))
    · exact Or.inr (Or.inr (Or.inr (Or.inr (Or.inr (Or.inr (Or.inr (Or.inr (Or.inr (Or.inr (Or.inr (Or.inr (Or.inr (Or.inr (Or.inr (Or.inr (Or.inr (Or.inr (Or.inr (Or.inr (Or.inr (Or.inr (Or.inr (Or.inr (Or.inr (Or.inr (Or.inr (Or.inr (Or.inr (Or.inr (Or.inl (key 30 h2)))))))))))))))))))))))))))))))
    · exact Or.inr (Or.inr (Or.inr (Or.inr (Or.inr (Or.inr (Or.inr (Or.inr (Or.inr (Or.inr (Or.inr (Or.inr (Or.inr (Or.inr (Or.inr (Or.inr (Or.inr (Or.inr (Or.inr (Or.inr (Or.inr (Or.inr (Or.inr (Or.inr (Or.inr (Or.inr (Or.inr (Or.inr (Or.inr (Or.inr (Or.inr (Or.inl (key 31 h2))))))))))))))))))))))))))))))))
    · exact Or.inr (Or.inr (Or.inr (Or.inr (Or.inr (Or.inr (Or.inr (Or.inr (Or.inr (Or.inr (Or.inr (Or.inr (Or.inr (Or.inr (Or.inr (Or.inr (Or.inr (Or.inr (Or.inr (Or.inr (Or.inr (Or.inr (Or.inr (Or.inr (Or.inr (Or.inr (Or.inr (Or.inr (Or.inr (Or.inr (Or.inr (Or.inr (Or.inl (key 32 h2)))))))))))))))))))))))))))))))))
    · exact Or.inr (Or.inr (Or.inr (Or.inr (Or.inr (Or.inr (Or.inr (Or.inr (Or.inr (Or.inr (Or.inr (Or.inr (Or.inr (Or.inr (Or.inr (Or.inr (Or.inr (Or.inr (Or.inr (Or.inr (Or.inr (Or.inr (Or.inr (Or.inr (Or.inr (Or.inr (Or.inr (Or.inr (Or.inr (Or.inr (Or.inr (Or.inr (Or.inr (Or.inl (key 33 h2))))))))))))))))))))))))))))))))))
    · exact Or.inr (Or.inr (Or.inr (Or.inr (Or.inr (Or.inr (Or.inr (Or.inr (Or.inr (Or.inr (Or.inr (Or.inr (Or.inr (Or.inr (Or.inr (Or.inr (Or.inr (Or.inr (Or.inr (Or.inr (Or.inr (Or.inr (Or.inr (Or.inr (Or.inr (Or.inr (Or.inr (Or.inr (Or.inr (Or.inr (Or.inr (Or.inr (Or.inr (Or.inr (Or.inl (key 34 h2)))))))))))))))))))))))))))))))))))
    · exact Or.inr (Or.inr (Or.inr (Or.inr (Or.inr (Or.inr (Or.inr (Or.inr (Or.inr (Or.inr (Or.inr (Or.inr (Or.inr (Or.inr (Or.inr (Or.inr (Or.inr (Or.inr (Or.inr (Or.inr (Or.inr (Or.inr (Or.inr (Or.inr (Or.inr (Or.inr (Or.inr (Or.inr (Or.inr (Or.inr (Or.inr (Or.inr (Or.inr (Or.inr (Or.inr (Or.inl (key 35 h2))))))))))))))))))))))))))))))))))))
    · exact Or.inr (Or.inr (Or.inr (Or.inr (Or.inr (Or.inr (Or.inr (Or.inr (Or.inr (Or.inr (Or.inr (Or.inr (Or.inr (Or.inr (Or.inr (Or.inr (Or.inr (Or.inr (Or.inr (Or.inr (Or.inr (Or.inr (Or.inr (Or.inr (Or.inr (Or.inr (Or.inr (Or.inr (Or.inr (Or.inr (Or.inr (Or.inr (Or.inr (Or.inr (Or.inr (Or.inr (Or.inl (key 36 h2)))))))))))))))))))))))))))))))))))))
    · exact Or.inr (Or.inr (Or.inr (Or.inr (Or.inr (Or.inr (Or.inr (Or.inr (Or.inr (Or.inr (Or.inr (Or.inr (Or.inr (Or.inr (Or.inr (Or.inr (Or.inr (Or.inr (Or.inr (Or.inr (Or.inr (Or.inr (Or.inr (Or.inr (Or.inr (Or.inr (Or.inr (Or.inr (Or.inr (Or.inr (Or.inr (Or.inr (Or.inr (Or.inr (Or.inr (Or.inr (Or.inr (Or.inl (key 37 h2))))))))))))))))))))))))))))))))))))))
    · exact Or.inr (Or.inr (Or.inr (Or.inr (Or.inr (Or.inr (Or.inr (Or.inr (Or.inr (Or.inr (Or.inr (Or.inr (Or.inr (Or.inr (Or.inr (Or.inr (Or.inr (Or.inr (Or.inr (Or.inr (Or.inr (Or.inr (Or.inr (Or.inr (Or.inr (Or.inr (Or.inr (Or.inr (Or.inr (Or.inr (Or.inr (Or.inr (Or.inr (Or.inr (Or.inr (Or.inr (Or.inr (Or.inr (Or.inl (key 38 h2)))))))))))))))))))))))))))))))))))))))
    · exact Or.inr (Or.inr (Or.inr (Or.inr (Or.inr (Or.inr (Or.inr (Or.inr (Or.inr (Or.inr (Or.inr (Or.inr (Or.inr (Or.inr (Or.inr (Or.inr (Or.inr (Or.inr (Or.inr (Or.inr (Or.inr (Or.inr (Or.inr (Or.inr (Or.inr (Or.inr (Or.inr (Or.inr (Or.inr (Or.inr (Or.inr (Or.inr (Or.inr (Or.inr (Or.inr (Or.inr (Or.inr (Or.inr (Or.inr (Or.inl (key 39 h2))))))))))))))))))))))))))))))))))))))))
    · exact Or.inr (Or.inr (Or.inr (Or.inr (Or.inr (Or.inr (Or.inr (Or.inr (Or.inr (Or.inr (Or.inr (Or.inr (Or.inr (Or.inr (Or.inr (Or.inr (Or.inr (Or.inr (Or.inr (Or.inr (Or.inr (Or.inr (Or.inr (Or.inr (Or.inr (Or.inr (Or.inr (Or.inr (Or.inr (Or.inr (Or.inr (Or.inr (Or.inr (Or.inr (Or.inr (Or.inr (Or.inr (Or.inr (Or.inr (Or.inr (Or.inl (key 40 h2)))))))))))))))))))))))))))))))))))))))))
theorem isin_o {x : Int32} (ho : x.toInt < 0 ∨ 6 < x.toInt) : ¬ ((0 : Int64) ≤ x.toInt64 ∧ x.toInt64 ≤ 6) := by
  intro h
  have h1 := Int64.le_iff_toInt_le.mp h.1
  have h2 := Int64.le_iff_toInt_le.mp h.2
  rw [Int32.toInt_toInt64] at h1 h2
  have e0 : (0 : Int64).toInt = 0 := by decide
  have e6 : (6 : Int64).toInt = 6 := by decide
  rw [e0] at h1
  rw [e6] at h2
  omega
theorem isin_k {x : Int64} : ¬ ((0 : Int64) ≤ x ∧ x ≤ (-1)) := fun h => absurd (Int64.le_trans h.1 h.2) (by decide)
def wd_475 (r : Nat → Nat) (k : Nat → ClassId) (f : Nat → Int32) : va_W := [((r 0), .inr (11, [.ref (r 1), .ref (r 2), .ref (r 3), .ref (r 4), .ref (r 5), .ref (r 6), .ref (r 7), .ref (r 8), .ref (r 9), .ref (r 10), .ref (r 11), .ref (r 12), .ref (r 13), .ref (r 14), .ref (r 15), .int 0, .int 0, .ref (r 16), .int (-1), .ref (r 17)])), ((r 1), .inr (10, [.ref (r 18), .int 0, .int 0, .int 0, .int (-1), .int (-1), .long 0, .int 0, .int 0, .int (-1)])), ((r 18), .inl ((k 0), 1600, .inl f)), ((r 14), .inl ((k 1), 7, .inl (fun _ => 0))), ((r 4), .inr (8, [.int 0, .int 0, .int 0, .ref (r 19), .int 0, .int 0, .ref (r 20), .int 0, .int 0, .int 0, .int 0, .int 0, .int 0, .ref (r 21)])), ((r 2), .inr (2, [.int 0, .ref (r 22), .ref (r 23), .ref (r 24)])), ((r 3), .inr (2, [.int 0, .ref (r 25), .ref (r 26), .ref (r 27)])), ((r 5), .inr (8, [.int 0, .int 0, .int 0, .ref (r 28), .int 0, .int 0, .ref (r 29), .int 0, .int 0, .int 0, .int 0, .int 0, .int 0, .ref (r 30)])), ((r 28), .inl ((k 2), 168, .inl (fun _ => 0))), ((r 8), .inr (1, [.ref (r 1), .ref (r 3), .ref (r 5), .ref (r 31), .ref (r 32), .int 0, .int 0, .int 3047])), ((r 10), .inr (5, [.ref (r 4), .ref (r 2), .ref (r 7), .ref (r 9), .ref (r 33), .ref (r 34), .int 0, .int 0, .int 0, .int 0, .int (-1)])), ((r 11), .inr (0, [.ref (r 2), .ref (r 7), .long 1])), ((r 12), .inr (6, [.ref (r 7), .ref (r 35), .ref (r 36), .ref (r 37), .int 0, .ref (r 38), .int 0, .int (-1), .int (-1), .null, .null])), ((r 13), .inr (3, [.ref (r 2), .ref (r 39), .int 0]))]
def wd_476 (r : Nat → Nat) (k : Nat → ClassId) (f434 : Nat → Int32) : va_W := [((r 0), .inr (11, [.ref (r 1), .ref (r 2), .ref (r 3), .ref (r 4), .ref (r 5), .ref (r 6), .ref (r 7), .ref (r 8), .ref (r 9), .ref (r 10), .ref (r 11), .ref (r 12), .ref (r 13), .ref (r 14), .ref (r 15), .int 0, .int 0, .ref (r 16), .int (-1), .ref (r 17)])), ((r 1), .inr (10, [.ref (r 18), .int 0, .int 0, .int 0, .int (-1), .int (-1), .long 0, .int 0, .int 0, .int (-1)])), ((r 18), .inl ((k 0), 1600, .inl f434)), ((r 14), .inl ((k 1), 7, .inl (fun _ => 0))), ((r 4), .inr (8, [.int 0, .int 0, .int 0, .ref (r 19), .int 0, .int 0, .ref (r 20), .int 0, .int 0, .int 0, .int 0, .int 0, .int 0, .ref (r 21)])), ((r 2), .inr (2, [.int 0, .ref (r 22), .ref (r 23), .ref (r 24)])), ((r 3), .inr (2, [.int 0, .ref (r 25), .ref (r 26), .ref (r 27)])), ((r 5), .inr (8, [.int 0, .int 0, .int 0, .ref (r 28), .int 0, .int 0, .ref (r 29), .int 0, .int 0, .int 0, .int 0, .int 0, .int 0, .ref (r 30)])), ((r 28), .inl ((k 2), 168, .inl (fun _ => 0))), ((r 8), .inr (1, [.ref (r 1), .ref (r 3), .ref (r 5), .ref (r 31), .ref (r 32), .int 0, .int 0, .int 3047])), ((r 10), .inr (5, [.ref (r 4), .ref (r 2), .ref (r 7), .ref (r 9), .ref (r 33), .ref (r 34), .int 0, .int 0, .int 0, .int 0, .int (-1)])), ((r 11), .inr (0, [.ref (r 2), .ref (r 7), .long 1])), ((r 12), .inr (6, [.ref (r 7), .ref (r 35), .ref (r 36), .ref (r 37), .int 0, .ref (r 38), .int 0, .int (-1), .int (-1), .null, .null])), ((r 13), .inr (3, [.ref (r 2), .ref (r 39), .int 0]))]
def wd_477 (r : Nat → Nat) (k : Nat → ClassId) (f434 : Nat → Int32) : va_W := [((r 0), .inr (11, [.ref (r 1), .ref (r 2), .ref (r 3), .ref (r 4), .ref (r 5), .ref (r 6), .ref (r 7), .ref (r 8), .ref (r 9), .ref (r 10), .ref (r 11), .ref (r 12), .ref (r 13), .ref (r 14), .ref (r 15), .int 0, .int 0, .ref (r 16), .int (-1), .ref (r 17)])), ((r 1), .inr (10, [.ref (r 18), .int 1, .int 0, .int 0, .int (-1), .int (-1), .long 0, .int 0, .int 0, .int (-1)])), ((r 18), .inl ((k 0), 1600, .inl f434)), ((r 14), .inl ((k 1), 7, .inl (fun _ => 0))), ((r 4), .inr (8, [.int 0, .int 0, .int 0, .ref (r 19), .int 0, .int 0, .ref (r 20), .int 0, .int 0, .int 0, .int 0, .int 0, .int 0, .ref (r 21)])), ((r 2), .inr (2, [.int 0, .ref (r 22), .ref (r 23), .ref (r 24)])), ((r 3), .inr (2, [.int 0, .ref (r 25), .ref (r 26), .ref (r 27)])), ((r 5), .inr (8, [.int 0, .int 0, .int 0, .ref (r 28), .int 0, .int 0, .ref (r 29), .int 0, .int 0, .int 0, .int 0, .int 0, .int 0, .ref (r 30)])), ((r 28), .inl ((k 2), 168, .inl (fun _ => 0))), ((r 8), .inr (1, [.ref (r 1), .ref (r 3), .ref (r 5), .ref (r 31), .ref (r 32), .int 0, .int 0, .int 3047])), ((r 10), .inr (5, [.ref (r 4), .ref (r 2), .ref (r 7), .ref (r 9), .ref (r 33), .ref (r 34), .int 0, .int 0, .int 0, .int 0, .int (-1)])), ((r 11), .inr (0, [.ref (r 2), .ref (r 7), .long 1])), ((r 12), .inr (6, [.ref (r 7), .ref (r 35), .ref (r 36), .ref (r 37), .int 0, .ref (r 38), .int 0, .int (-1), .int (-1), .null, .null])), ((r 13), .inr (3, [.ref (r 2), .ref (r 39), .int 0]))]
def wd_478 (r : Nat → Nat) (k : Nat → ClassId) (f : Nat → Int32) : va_W := [((r 0), .inr (11, [.ref (r 1), .ref (r 2), .ref (r 3), .ref (r 4), .ref (r 5), .ref (r 6), .ref (r 7), .ref (r 8), .ref (r 9), .ref (r 10), .ref (r 11), .ref (r 12), .ref (r 13), .ref (r 14), .ref (r 15), .int 0, .int 0, .ref (r 16), .int (-1), .ref (r 17)])), ((r 1), .inr (10, [.ref (r 18), .int 1, .int 0, .int 0, .int (-1), .int (-1), .long 0, .int 0, .int 0, .int (-1)])), ((r 18), .inl ((k 0), 1600, .inl f)), ((r 14), .inl ((k 1), 7, .inl (fun _ => 0))), ((r 4), .inr (8, [.int 0, .int 0, .int 0, .ref (r 19), .int 0, .int 0, .ref (r 20), .int 0, .int 0, .int 0, .int 0, .int 0, .int 0, .ref (r 21)])), ((r 2), .inr (2, [.int 0, .ref (r 22), .ref (r 23), .ref (r 24)])), ((r 3), .inr (2, [.int 0, .ref (r 25), .ref (r 26), .ref (r 27)])), ((r 5), .inr (8, [.int 0, .int 0, .int 0, .ref (r 28), .int 0, .int 0, .ref (r 29), .int 0, .int 0, .int 0, .int 0, .int 0, .int 0, .ref (r 30)])), ((r 28), .inl ((k 2), 168, .inl (fun _ => 0))), ((r 8), .inr (1, [.ref (r 1), .ref (r 3), .ref (r 5), .ref (r 31), .ref (r 32), .int 0, .int 0, .int 3047])), ((r 10), .inr (5, [.ref (r 4), .ref (r 2), .ref (r 7), .ref (r 9), .ref (r 33), .ref (r 34), .int 0, .int 0, .int 0, .int 0, .int (-1)])), ((r 11), .inr (0, [.ref (r 2), .ref (r 7), .long 1])), ((r 12), .inr (6, [.ref (r 7), .ref (r 35), .ref (r 36), .ref (r 37), .int 0, .ref (r 38), .int 0, .int (-1), .int (-1), .null, .null])), ((r 13), .inr (3, [.ref (r 2), .ref (r 39), .int 0]))]
def wd_479 (r : Nat → Nat) (k : Nat → ClassId) (f438 : Nat → Int32) : va_W := [((r 0), .inr (11, [.ref (r 1), .ref (r 2), .ref (r 3), .ref (r 4), .ref (r 5), .ref (r 6), .ref (r 7), .ref (r 8), .ref (r 9), .ref (r 10), .ref (r 11), .ref (r 12), .ref (r 13), .ref (r 14), .ref (r 15), .int 0, .int 0, .ref (r 16), .int (-1), .ref (r 17)])), ((r 1), .inr (10, [.ref (r 18), .int 1, .int 0, .int 0, .int (-1), .int (-1), .long 0, .int 0, .int 0, .int (-1)])), ((r 18), .inl ((k 0), 1600, .inl f438)), ((r 14), .inl ((k 1), 7, .inl (fun _ => 0))), ((r 4), .inr (8, [.int 0, .int 0, .int 0, .ref (r 19), .int 0, .int 0, .ref (r 20), .int 0, .int 0, .int 0, .int 0, .int 0, .int 0, .ref (r 21)])), ((r 2), .inr (2, [.int 0, .ref (r 22), .ref (r 23), .ref (r 24)])), ((r 3), .inr (2, [.int 0, .ref (r 25), .ref (r 26), .ref (r 27)])), ((r 5), .inr (8, [.int 0, .int 0, .int 0, .ref (r 28), .int 0, .int 0, .ref (r 29), .int 0, .int 0, .int 0, .int 0, .int 0, .int 0, .ref (r 30)])), ((r 28), .inl ((k 2), 168, .inl (fun _ => 0))), ((r 8), .inr (1, [.ref (r 1), .ref (r 3), .ref (r 5), .ref (r 31), .ref (r 32), .int 0, .int 0, .int 3047])), ((r 10), .inr (5, [.ref (r 4), .ref (r 2), .ref (r 7), .ref (r 9), .ref (r 33), .ref (r 34), .int 0, .int 0, .int 0, .int 0, .int (-1)])), ((r 11), .inr (0, [.ref (r 2), .ref (r 7), .long 1])), ((r 12), .inr (6, [.ref (r 7), .ref (r 35), .ref (r 36), .ref (r 37), .int 0, .ref (r 38), .int 0, .int (-1), .int (-1), .null, .null])), ((r 13), .inr (3, [.ref (r 2), .ref (r 39), .int 0]))]
def wd_480 (r : Nat → Nat) (k : Nat → ClassId) (f438 : Nat → Int32) : va_W := [((r 0), .inr (11, [.ref (r 1), .ref (r 2), .ref (r 3), .ref (r 4), .ref (r 5), .ref (r 6), .ref (r 7), .ref (r 8), .ref (r 9), .ref (r 10), .ref (r 11), .ref (r 12), .ref (r 13), .ref (r 14), .ref (r 15), .int 0, .int 0, .ref (r 16), .int (-1), .ref (r 17)])), ((r 1), .inr (10, [.ref (r 18), .int 2, .int 0, .int 0, .int (-1), .int (-1), .long 0, .int 0, .int 0, .int (-1)])), ((r 18), .inl ((k 0), 1600, .inl f438)), ((r 14), .inl ((k 1), 7, .inl (fun _ => 0))), ((r 4), .inr (8, [.int 0, .int 0, .int 0, .ref (r 19), .int 0, .int 0, .ref (r 20), .int 0, .int 0, .int 0, .int 0, .int 0, .int 0, .ref (r 21)])), ((r 2), .inr (2, [.int 0, .ref (r 22), .ref (r 23), .ref (r 24)])), ((r 3), .inr (2, [.int 0, .ref (r 25), .ref (r 26), .ref (r 27)])), ((r 5), .inr (8, [.int 0, .int 0, .int 0, .ref (r 28), .int 0, .int 0, .ref (r 29), .int 0, .int 0, .int 0, .int 0, .int 0, .int 0, .ref (r 30)])), ((r 28), .inl ((k 2), 168, .inl (fun _ => 0))), ((r 8), .inr (1, [.ref (r 1), .ref (r 3), .ref (r 5), .ref (r 31), .ref (r 32), .int 0, .int 0, .int 3047])), ((r 10), .inr (5, [.ref (r 4), .ref (r 2), .ref (r 7), .ref (r 9), .ref (r 33), .ref (r 34), .int 0, .int 0, .int 0, .int 0, .int (-1)])), ((r 11), .inr (0, [.ref (r 2), .ref (r 7), .long 1])), ((r 12), .inr (6, [.ref (r 7), .ref (r 35), .ref (r 36), .ref (r 37), .int 0, .ref (r 38), .int 0, .int (-1), .int (-1), .null, .null])), ((r 13), .inr (3, [.ref (r 2), .ref (r 39), .int 0]))]
def wd_481 (r : Nat → Nat) (k : Nat → ClassId) (f : Nat → Int32) : va_W := [((r 0), .inr (11, [.ref (r 1), .ref (r 2), .ref (r 3), .ref (r 4), .ref (r 5), .ref (r 6), .ref (r 7), .ref (r 8), .ref (r 9), .ref (r 10), .ref (r 11), .ref (r 12), .ref (r 13), .ref (r 14), .ref (r 15), .int 0, .int 0, .ref (r 16), .int (-1), .ref (r 17)])), ((r 1), .inr (10, [.ref (r 18), .int 2, .int 0, .int 0, .int (-1), .int (-1), .long 0, .int 0, .int 0, .int (-1)])), ((r 18), .inl ((k 0), 1600, .inl f)), ((r 14), .inl ((k 1), 7, .inl (fun _ => 0))), ((r 4), .inr (8, [.int 0, .int 0, .int 0, .ref (r 19), .int 0, .int 0, .ref (r 20), .int 0, .int 0, .int 0, .int 0, .int 0, .int 0, .ref (r 21)])), ((r 2), .inr (2, [.int 0, .ref (r 22), .ref (r 23), .ref (r 24)])), ((r 3), .inr (2, [.int 0, .ref (r 25), .ref (r 26), .ref (r 27)])), ((r 5), .inr (8, [.int 0, .int 0, .int 0, .ref (r 28), .int 0, .int 0, .ref (r 29), .int 0, .int 0, .int 0, .int 0, .int 0, .int 0, .ref (r 30)])), ((r 28), .inl ((k 2), 168, .inl (fun _ => 0))), ((r 8), .inr (1, [.ref (r 1), .ref (r 3), .ref (r 5), .ref (r 31), .ref (r 32), .int 0, .int 0, .int 3047])), ((r 10), .inr (5, [.ref (r 4), .ref (r 2), .ref (r 7), .ref (r 9), .ref (r 33), .ref (r 34), .int 0, .int 0, .int 0, .int 0, .int (-1)])), ((r 11), .inr (0, [.ref (r 2), .ref (r 7), .long 1])), ((r 12), .inr (6, [.ref (r 7), .ref (r 35), .ref (r 36), .ref (r 37), .int 0, .ref (r 38), .int 0, .int (-1), .int (-1), .null, .null])), ((r 13), .inr (3, [.ref (r 2), .ref (r 39), .int 0]))]
def wd_482 (r : Nat → Nat) (k : Nat → ClassId) (f442 : Nat → Int32) : va_W := [((r 0), .inr (11, [.ref (r 1), .ref (r 2), .ref (r 3), .ref (r 4), .ref (r 5), .ref (r 6), .ref (r 7), .ref (r 8), .ref (r 9), .ref (r 10), .ref (r 11), .ref (r 12), .ref (r 13), .ref (r 14), .ref (r 15), .int 0, .int 0, .ref (r 16), .int (-1), .ref (r 17)])), ((r 1), .inr (10, [.ref (r 18), .int 2, .int 0, .int 0, .int (-1), .int (-1), .long 0, .int 0, .int 0, .int (-1)])), ((r 18), .inl ((k 0), 1600, .inl f442)), ((r 14), .inl ((k 1), 7, .inl (fun _ => 0))), ((r 4), .inr (8, [.int 0, .int 0, .int 0, .ref (r 19), .int 0, .int 0, .ref (r 20), .int 0, .int 0, .int 0, .int 0, .int 0, .int 0, .ref (r 21)])), ((r 2), .inr (2, [.int 0, .ref (r 22), .ref (r 23), .ref (r 24)])), ((r 3), .inr (2, [.int 0, .ref (r 25), .ref (r 26), .ref (r 27)])), ((r 5), .inr (8, [.int 0, .int 0, .int 0, .ref (r 28), .int 0, .int 0, .ref (r 29), .int 0, .int 0, .int 0, .int 0, .int 0, .int 0, .ref (r 30)])), ((r 28), .inl ((k 2), 168, .inl (fun _ => 0))), ((r 8), .inr (1, [.ref (r 1), .ref (r 3), .ref (r 5), .ref (r 31), .ref (r 32), .int 0, .int 0, .int 3047])), ((r 10), .inr (5, [.ref (r 4), .ref (r 2), .ref (r 7), .ref (r 9), .ref (r 33), .ref (r 34), .int 0, .int 0, .int 0, .int 0, .int (-1)])), ((r 11), .inr (0, [.ref (r 2), .ref (r 7), .long 1])), ((r 12), .inr (6, [.ref (r 7), .ref (r 35), .ref (r 36), .ref (r 37), .int 0, .ref (r 38), .int 0, .int (-1), .int (-1), .null, .null])), ((r 13), .inr (3, [.ref (r 2), .ref (r 39), .int 0]))]
def wd_483 (r : Nat → Nat) (k : Nat → ClassId) (f442 : Nat → Int32) : va_W := [((r 0), .inr (11, [.ref (r 1), .ref (r 2), .ref (r 3), .ref (r 4), .ref (r 5), .ref (r 6), .ref (r 7), .ref (r 8), .ref (r 9), .ref (r 10), .ref (r 11), .ref (r 12), .ref (r 13), .ref (r 14), .ref (r 15), .int 0, .int 0, .ref (r 16), .int (-1), .ref (r 17)])), ((r 1), .inr (10, [.ref (r 18), .int 3, .int 0, .int 0, .int (-1), .int (-1), .long 0, .int 0, .int 0, .int (-1)])), ((r 18), .inl ((k 0), 1600, .inl f442)), ((r 14), .inl ((k 1), 7, .inl (fun _ => 0))), ((r 4), .inr (8, [.int 0, .int 0, .int 0, .ref (r 19), .int 0, .int 0, .ref (r 20), .int 0, .int 0, .int 0, .int 0, .int 0, .int 0, .ref (r 21)])), ((r 2), .inr (2, [.int 0, .ref (r 22), .ref (r 23), .ref (r 24)])), ((r 3), .inr (2, [.int 0, .ref (r 25), .ref (r 26), .ref (r 27)])), ((r 5), .inr (8, [.int 0, .int 0, .int 0, .ref (r 28), .int 0, .int 0, .ref (r 29), .int 0, .int 0, .int 0, .int 0, .int 0, .int 0, .ref (r 30)])), ((r 28), .inl ((k 2), 168, .inl (fun _ => 0))), ((r 8), .inr (1, [.ref (r 1), .ref (r 3), .ref (r 5), .ref (r 31), .ref (r 32), .int 0, .int 0, .int 3047])), ((r 10), .inr (5, [.ref (r 4), .ref (r 2), .ref (r 7), .ref (r 9), .ref (r 33), .ref (r 34), .int 0, .int 0, .int 0, .int 0, .int (-1)])), ((r 11), .inr (0, [.ref (r 2), .ref (r 7), .long 1])), ((r 12), .inr (6, [.ref (r 7), .ref (r 35), .ref (r 36), .ref (r 37), .int 0, .ref (r 38), .int 0, .int (-1), .int (-1), .null, .null])), ((r 13), .inr (3, [.ref (r 2), .ref (r 39), .int 0]))]
def wd_484 (r : Nat → Nat) (k : Nat → ClassId) (f : Nat → Int32) : va_W := [((r 0), .inr (11, [.ref (r 1), .ref (r 2), .ref (r 3), .ref (r 4), .ref (r 5), .ref (r 6), .ref (r 7), .ref (r 8), .ref (r 9), .ref (r 10), .ref (r 11), .ref (r 12), .ref (r 13), .ref (r 14), .ref (r 15), .int 0, .int 0, .ref (r 16), .int (-1), .ref (r 17)])), ((r 1), .inr (10, [.ref (r 18), .int 3, .int 0, .int 0, .int (-1), .int (-1), .long 0, .int 0, .int 0, .int (-1)])), ((r 18), .inl ((k 0), 1600, .inl f)), ((r 14), .inl ((k 1), 7, .inl (fun _ => 0))), ((r 4), .inr (8, [.int 0, .int 0, .int 0, .ref (r 19), .int 0, .int 0, .ref (r 20), .int 0, .int 0, .int 0, .int 0, .int 0, .int 0, .ref (r 21)])), ((r 2), .inr (2, [.int 0, .ref (r 22), .ref (r 23), .ref (r 24)])), ((r 3), .inr (2, [.int 0, .ref (r 25), .ref (r 26), .ref (r 27)])), ((r 5), .inr (8, [.int 0, .int 0, .int 0, .ref (r 28), .int 0, .int 0, .ref (r 29), .int 0, .int 0, .int 0, .int 0, .int 0, .int 0, .ref (r 30)])), ((r 28), .inl ((k 2), 168, .inl (fun _ => 0))), ((r 8), .inr (1, [.ref (r 1), .ref (r 3), .ref (r 5), .ref (r 31), .ref (r 32), .int 0, .int 0, .int 3047])), ((r 10), .inr (5, [.ref (r 4), .ref (r 2), .ref (r 7), .ref (r 9), .ref (r 33), .ref (r 34), .int 0, .int 0, .int 0, .int 0, .int (-1)])), ((r 11), .inr (0, [.ref (r 2), .ref (r 7), .long 1])), ((r 12), .inr (6, [.ref (r 7), .ref (r 35), .ref (r 36), .ref (r 37), .int 0, .ref (r 38), .int 0, .int (-1), .int (-1), .null, .null])), ((r 13), .inr (3, [.ref (r 2), .ref (r 39), .int 0]))]
def wd_485 (r : Nat → Nat) (k : Nat → ClassId) (f446 : Nat → Int32) : va_W := [((r 0), .inr (11, [.ref (r 1), .ref (r 2), .ref (r 3), .ref (r 4), .ref (r 5), .ref (r 6), .ref (r 7), .ref (r 8), .ref (r 9), .ref (r 10), .ref (r 11), .ref (r 12), .ref (r 13), .ref (r 14), .ref (r 15), .int 0, .int 0, .ref (r 16), .int (-1), .ref (r 17)])), ((r 1), .inr (10, [.ref (r 18), .int 3, .int 0, .int 0, .int (-1), .int (-1), .long 0, .int 0, .int 0, .int (-1)])), ((r 18), .inl ((k 0), 1600, .inl f446)), ((r 14), .inl ((k 1), 7, .inl (fun _ => 0))), ((r 4), .inr (8, [.int 0, .int 0, .int 0, .ref (r 19), .int 0, .int 0, .ref (r 20), .int 0, .int 0, .int 0, .int 0, .int 0, .int 0, .ref (r 21)])), ((r 2), .inr (2, [.int 0, .ref (r 22), .ref (r 23), .ref (r 24)])), ((r 3), .inr (2, [.int 0, .ref (r 25), .ref (r 26), .ref (r 27)])), ((r 5), .inr (8, [.int 0, .int 0, .int 0, .ref (r 28), .int 0, .int 0, .ref (r 29), .int 0, .int 0, .int 0, .int 0, .int 0, .int 0, .ref (r 30)])), ((r 28), .inl ((k 2), 168, .inl (fun _ => 0))), ((r 8), .inr (1, [.ref (r 1), .ref (r 3), .ref (r 5), .ref (r 31), .ref (r 32), .int 0, .int 0, .int 3047])), ((r 10), .inr (5, [.ref (r 4), .ref (r 2), .ref (r 7), .ref (r 9), .ref (r 33), .ref (r 34), .int 0, .int 0, .int 0, .int 0, .int (-1)])), ((r 11), .inr (0, [.ref (r 2), .ref (r 7), .long 1])), ((r 12), .inr (6, [.ref (r 7), .ref (r 35), .ref (r 36), .ref (r 37), .int 0, .ref (r 38), .int 0, .int (-1), .int (-1), .null, .null])), ((r 13), .inr (3, [.ref (r 2), .ref (r 39), .int 0]))]
def wd_486 (r : Nat → Nat) (k : Nat → ClassId) (f446 : Nat → Int32) : va_W := [((r 0), .inr (11, [.ref (r 1), .ref (r 2), .ref (r 3), .ref (r 4), .ref (r 5), .ref (r 6), .ref (r 7), .ref (r 8), .ref (r 9), .ref (r 10), .ref (r 11), .ref (r 12), .ref (r 13), .ref (r 14), .ref (r 15), .int 0, .int 0, .ref (r 16), .int (-1), .ref (r 17)])), ((r 1), .inr (10, [.ref (r 18), .int 4, .int 0, .int 0, .int (-1), .int (-1), .long 0, .int 0, .int 0, .int (-1)])), ((r 18), .inl ((k 0), 1600, .inl f446)), ((r 14), .inl ((k 1), 7, .inl (fun _ => 0))), ((r 4), .inr (8, [.int 0, .int 0, .int 0, .ref (r 19), .int 0, .int 0, .ref (r 20), .int 0, .int 0, .int 0, .int 0, .int 0, .int 0, .ref (r 21)])), ((r 2), .inr (2, [.int 0, .ref (r 22), .ref (r 23), .ref (r 24)])), ((r 3), .inr (2, [.int 0, .ref (r 25), .ref (r 26), .ref (r 27)])), ((r 5), .inr (8, [.int 0, .int 0, .int 0, .ref (r 28), .int 0, .int 0, .ref (r 29), .int 0, .int 0, .int 0, .int 0, .int 0, .int 0, .ref (r 30)])), ((r 28), .inl ((k 2), 168, .inl (fun _ => 0))), ((r 8), .inr (1, [.ref (r 1), .ref (r 3), .ref (r 5), .ref (r 31), .ref (r 32), .int 0, .int 0, .int 3047])), ((r 10), .inr (5, [.ref (r 4), .ref (r 2), .ref (r 7), .ref (r 9), .ref (r 33), .ref (r 34), .int 0, .int 0, .int 0, .int 0, .int (-1)])), ((r 11), .inr (0, [.ref (r 2), .ref (r 7), .long 1])), ((r 12), .inr (6, [.ref (r 7), .ref (r 35), .ref (r 36), .ref (r 37), .int 0, .ref (r 38), .int 0, .int (-1), .int (-1), .null, .null])), ((r 13), .inr (3, [.ref (r 2), .ref (r 39), .int 0]))]
def wd_487 (r : Nat → Nat) (k : Nat → ClassId) (f450 : Nat → Int32) : va_W := [((r 0), .inr (11, [.ref (r 1), .ref (r 2), .ref (r 3), .ref (r 4), .ref (r 5), .ref (r 6), .ref (r 7), .ref (r 8), .ref (r 9), .ref (r 10), .ref (r 11), .ref (r 12), .ref (r 13), .ref (r 14), .ref (r 15), .int 0, .int 0, .ref (r 16), .int (-1), .ref (r 17)])), ((r 1), .inr (10, [.ref (r 18), .int 0, .int 0, .int 0, .int (-1), .int (-1), .long 0, .int 0, .int 0, .int (-1)])), ((r 18), .inl ((k 0), 1600, .inl f450)), ((r 14), .inl ((k 1), 7, .inl (fun _ => 0))), ((r 4), .inr (8, [.int 0, .int 0, .int 0, .ref (r 19), .int 0, .int 0, .ref (r 20), .int 0, .int 0, .int 0, .int 0, .int 0, .int 0, .ref (r 21)])), ((r 2), .inr (2, [.int 0, .ref (r 22), .ref (r 23), .ref (r 24)])), ((r 3), .inr (2, [.int 0, .ref (r 25), .ref (r 26), .ref (r 27)])), ((r 5), .inr (8, [.int 0, .int 0, .int 0, .ref (r 28), .int 0, .int 0, .ref (r 29), .int 0, .int 0, .int 0, .int 0, .int 0, .int 0, .ref (r 30)])), ((r 28), .inl ((k 2), 168, .inl (fun _ => 0))), ((r 8), .inr (1, [.ref (r 1), .ref (r 3), .ref (r 5), .ref (r 31), .ref (r 32), .int 0, .int 0, .int 3047])), ((r 10), .inr (5, [.ref (r 4), .ref (r 2), .ref (r 7), .ref (r 9), .ref (r 33), .ref (r 34), .int 0, .int 0, .int 0, .int 0, .int (-1)])), ((r 11), .inr (0, [.ref (r 2), .ref (r 7), .long 1])), ((r 12), .inr (6, [.ref (r 7), .ref (r 35), .ref (r 36), .ref (r 37), .int 0, .ref (r 38), .int 0, .int (-1), .int (-1), .null, .null])), ((r 13), .inr (3, [.ref (r 2), .ref (r 39), .int 0]))]
def wd_488 (r : Nat → Nat) (k : Nat → ClassId) (f450 : Nat → Int32) : va_W := [((r 0), .inr (11, [.ref (r 1), .ref (r 2), .ref (r 3), .ref (r 4), .ref (r 5), .ref (r 6), .ref (r 7), .ref (r 8), .ref (r 9), .ref (r 10), .ref (r 11), .ref (r 12), .ref (r 13), .ref (r 14), .ref (r 15), .int 0, .int 0, .ref (r 16), .int (-1), .ref (r 17)])), ((r 1), .inr (10, [.ref (r 18), .int 1, .int 0, .int 0, .int (-1), .int (-1), .long 0, .int 0, .int 0, .int (-1)])), ((r 18), .inl ((k 0), 1600, .inl f450)), ((r 14), .inl ((k 1), 7, .inl (fun _ => 0))), ((r 4), .inr (8, [.int 0, .int 0, .int 0, .ref (r 19), .int 0, .int 0, .ref (r 20), .int 0, .int 0, .int 0, .int 0, .int 0, .int 0, .ref (r 21)])), ((r 2), .inr (2, [.int 0, .ref (r 22), .ref (r 23), .ref (r 24)])), ((r 3), .inr (2, [.int 0, .ref (r 25), .ref (r 26), .ref (r 27)])), ((r 5), .inr (8, [.int 0, .int 0, .int 0, .ref (r 28), .int 0, .int 0, .ref (r 29), .int 0, .int 0, .int 0, .int 0, .int 0, .int 0, .ref (r 30)])), ((r 28), .inl ((k 2), 168, .inl (fun _ => 0))), ((r 8), .inr (1, [.ref (r 1), .ref (r 3), .ref (r 5), .ref (r 31), .ref (r 32), .int 0, .int 0, .int 3047])), ((r 10), .inr (5, [.ref (r 4), .ref (r 2), .ref (r 7), .ref (r 9), .ref (r 33), .ref (r 34), .int 0, .int 0, .int 0, .int 0, .int (-1)])), ((r 11), .inr (0, [.ref (r 2), .ref (r 7), .long 1])), ((r 12), .inr (6, [.ref (r 7), .ref (r 35), .ref (r 36), .ref (r 37), .int 0, .ref (r 38), .int 0, .int (-1), .int (-1), .null, .null])), ((r 13), .inr (3, [.ref (r 2), .ref (r 39), .int 0]))]
def wd_489 (r : Nat → Nat) (k : Nat → ClassId) (f454 : Nat → Int32) : va_W := [((r 0), .inr (11, [.ref (r 1), .ref (r 2), .ref (r 3), .ref (r 4), .ref (r 5), .ref (r 6), .ref (r 7), .ref (r 8), .ref (r 9), .ref (r 10), .ref (r 11), .ref (r 12), .ref (r 13), .ref (r 14), .ref (r 15), .int 0, .int 0, .ref (r 16), .int (-1), .ref (r 17)])), ((r 1), .inr (10, [.ref (r 18), .int 1, .int 0, .int 0, .int (-1), .int (-1), .long 0, .int 0, .int 0, .int (-1)])), ((r 18), .inl ((k 0), 1600, .inl f454)), ((r 14), .inl ((k 1), 7, .inl (fun _ => 0))), ((r 4), .inr (8, [.int 0, .int 0, .int 0, .ref (r 19), .int 0, .int 0, .ref (r 20), .int 0, .int 0, .int 0, .int 0, .int 0, .int 0, .ref (r 21)])), ((r 2), .inr (2, [.int 0, .ref (r 22), .ref (r 23), .ref (r 24)])), ((r 3), .inr (2, [.int 0, .ref (r 25), .ref (r 26), .ref (r 27)])), ((r 5), .inr (8, [.int 0, .int 0, .int 0, .ref (r 28), .int 0, .int 0, .ref (r 29), .int 0, .int 0, .int 0, .int 0, .int 0, .int 0, .ref (r 30)])), ((r 28), .inl ((k 2), 168, .inl (fun _ => 0))), ((r 8), .inr (1, [.ref (r 1), .ref (r 3), .ref (r 5), .ref (r 31), .ref (r 32), .int 0, .int 0, .int 3047])), ((r 10), .inr (5, [.ref (r 4), .ref (r 2), .ref (r 7), .ref (r 9), .ref (r 33), .ref (r 34), .int 0, .int 0, .int 0, .int 0, .int (-1)])), ((r 11), .inr (0, [.ref (r 2), .ref (r 7), .long 1])), ((r 12), .inr (6, [.ref (r 7), .ref (r 35), .ref (r 36), .ref (r 37), .int 0, .ref (r 38), .int 0, .int (-1), .int (-1), .null, .null])), ((r 13), .inr (3, [.ref (r 2), .ref (r 39), .int 0]))]
def wd_490 (r : Nat → Nat) (k : Nat → ClassId) (f454 : Nat → Int32) : va_W := [((r 0), .inr (11, [.ref (r 1), .ref (r 2), .ref (r 3), .ref (r 4), .ref (r 5), .ref (r 6), .ref (r 7), .ref (r 8), .ref (r 9), .ref (r 10), .ref (r 11), .ref (r 12), .ref (r 13), .ref (r 14), .ref (r 15), .int 0, .int 0, .ref (r 16), .int (-1), .ref (r 17)])), ((r 1), .inr (10, [.ref (r 18), .int 2, .int 0, .int 0, .int (-1), .int (-1), .long 0, .int 0, .int 0, .int (-1)])), ((r 18), .inl ((k 0), 1600, .inl f454)), ((r 14), .inl ((k 1), 7, .inl (fun _ => 0))), ((r 4), .inr (8, [.int 0, .int 0, .int 0, .ref (r 19), .int 0, .int 0, .ref (r 20), .int 0, .int 0, .int 0, .int 0, .int 0, .int 0, .ref (r 21)])), ((r 2), .inr (2, [.int 0, .ref (r 22), .ref (r 23), .ref (r 24)])), ((r 3), .inr (2, [.int 0, .ref (r 25), .ref (r 26), .ref (r 27)])), ((r 5), .inr (8, [.int 0, .int 0, .int 0, .ref (r 28), .int 0, .int 0, .ref (r 29), .int 0, .int 0, .int 0, .int 0, .int 0, .int 0, .ref (r 30)])), ((r 28), .inl ((k 2), 168, .inl (fun _ => 0))), ((r 8), .inr (1, [.ref (r 1), .ref (r 3), .ref (r 5), .ref (r 31), .ref (r 32), .int 0, .int 0, .int 3047])), ((r 10), .inr (5, [.ref (r 4), .ref (r 2), .ref (r 7), .ref (r 9), .ref (r 33), .ref (r 34), .int 0, .int 0, .int 0, .int 0, .int (-1)])), ((r 11), .inr (0, [.ref (r 2), .ref (r 7), .long 1])), ((r 12), .inr (6, [.ref (r 7), .ref (r 35), .ref (r 36), .ref (r 37), .int 0, .ref (r 38), .int 0, .int (-1), .int (-1), .null, .null])), ((r 13), .inr (3, [.ref (r 2), .ref (r 39), .int 0]))]
def wd_491 (r : Nat → Nat) (k : Nat → ClassId) (f458 : Nat → Int32) : va_W := [((r 0), .inr (11, [.ref (r 1), .ref (r 2), .ref (r 3), .ref (r 4), .ref (r 5), .ref (r 6), .ref (r 7), .ref (r 8), .ref (r 9), .ref (r 10), .ref (r 11), .ref (r 12), .ref (r 13), .ref (r 14), .ref (r 15), .int 0, .int 0, .ref (r 16), .int (-1), .ref (r 17)])), ((r 1), .inr (10, [.ref (r 18), .int 2, .int 0, .int 0, .int (-1), .int (-1), .long 0, .int 0, .int 0, .int (-1)])), ((r 18), .inl ((k 0), 1600, .inl f458)), ((r 14), .inl ((k 1), 7, .inl (fun _ => 0))), ((r 4), .inr (8, [.int 0, .int 0, .int 0, .ref (r 19), .int 0, .int 0, .ref (r 20), .int 0, .int 0, .int 0, .int 0, .int 0, .int 0, .ref (r 21)])), ((r 2), .inr (2, [.int 0, .ref (r 22), .ref (r 23), .ref (r 24)])), ((r 3), .inr (2, [.int 0, .ref (r 25), .ref (r 26), .ref (r 27)])), ((r 5), .inr (8, [.int 0, .int 0, .int 0, .ref (r 28), .int 0, .int 0, .ref (r 29), .int 0, .int 0, .int 0, .int 0, .int 0, .int 0, .ref (r 30)])), ((r 28), .inl ((k 2), 168, .inl (fun _ => 0))), ((r 8), .inr (1, [.ref (r 1), .ref (r 3), .ref (r 5), .ref (r 31), .ref (r 32), .int 0, .int 0, .int 3047])), ((r 10), .inr (5, [.ref (r 4), .ref (r 2), .ref (r 7), .ref (r 9), .ref (r 33), .ref (r 34), .int 0, .int 0, .int 0, .int 0, .int (-1)])), ((r 11), .inr (0, [.ref (r 2), .ref (r 7), .long 1])), ((r 12), .inr (6, [.ref (r 7), .ref (r 35), .ref (r 36), .ref (r 37), .int 0, .ref (r 38), .int 0, .int (-1), .int (-1), .null, .null])), ((r 13), .inr (3, [.ref (r 2), .ref (r 39), .int 0]))]
def wd_492 (r : Nat → Nat) (k : Nat → ClassId) (f458 : Nat → Int32) : va_W := [((r 0), .inr (11, [.ref (r 1), .ref (r 2), .ref (r 3), .ref (r 4), .ref (r 5), .ref (r 6), .ref (r 7), .ref (r 8), .ref (r 9), .ref (r 10), .ref (r 11), .ref (r 12), .ref (r 13), .ref (r 14), .ref (r 15), .int 0, .int 0, .ref (r 16), .int (-1), .ref (r 17)])), ((r 1), .inr (10, [.ref (r 18), .int 3, .int 0, .int 0, .int (-1), .int (-1), .long 0, .int 0, .int 0, .int (-1)])), ((r 18), .inl ((k 0), 1600, .inl f458)), ((r 14), .inl ((k 1), 7, .inl (fun _ => 0))), ((r 4), .inr (8, [.int 0, .int 0, .int 0, .ref (r 19), .int 0, .int 0, .ref (r 20), .int 0, .int 0, .int 0, .int 0, .int 0, .int 0, .ref (r 21)])), ((r 2), .inr (2, [.int 0, .ref (r 22), .ref (r 23), .ref (r 24)])), ((r 3), .inr (2, [.int 0, .ref (r 25), .ref (r 26), .ref (r 27)])), ((r 5), .inr (8, [.int 0, .int 0, .int 0, .ref (r 28), .int 0, .int 0, .ref (r 29), .int 0, .int 0, .int 0, .int 0, .int 0, .int 0, .ref (r 30)])), ((r 28), .inl ((k 2), 168, .inl (fun _ => 0))), ((r 8), .inr (1, [.ref (r 1), .ref (r 3), .ref (r 5), .ref (r 31), .ref (r 32), .int 0, .int 0, .int 3047])), ((r 10), .inr (5, [.ref (r 4), .ref (r 2), .ref (r 7), .ref (r 9), .ref (r 33), .ref (r 34), .int 0, .int 0, .int 0, .int 0, .int (-1)])), ((r 11), .inr (0, [.ref (r 2), .ref (r 7), .long 1])), ((r 12), .inr (6, [.ref (r 7), .ref (r 35), .ref (r 36), .ref (r 37), .int 0, .ref (r 38), .int 0, .int (-1), .int (-1), .null, .null])), ((r 13), .inr (3, [.ref (r 2), .ref (r 39), .int 0]))]
def wd_493 (r : Nat → Nat) (k : Nat → ClassId) (f462 : Nat → Int32) : va_W := [((r 0), .inr (11, [.ref (r 1), .ref (r 2), .ref (r 3), .ref (r 4), .ref (r 5), .ref (r 6), .ref (r 7), .ref (r 8), .ref (r 9), .ref (r 10), .ref (r 11), .ref (r 12), .ref (r 13), .ref (r 14), .ref (r 15), .int 0, .int 0, .ref (r 16), .int (-1), .ref (r 17)])), ((r 1), .inr (10, [.ref (r 18), .int 3, .int 0, .int 0, .int (-1), .int (-1), .long 0, .int 0, .int 0, .int (-1)])), ((r 18), .inl ((k 0), 1600, .inl f462)), ((r 14), .inl ((k 1), 7, .inl (fun _ => 0))), ((r 4), .inr (8, [.int 0, .int 0, .int 0, .ref (r 19), .int 0, .int 0, .ref (r 20), .int 0, .int 0, .int 0, .int 0, .int 0, .int 0, .ref (r 21)])), ((r 2), .inr (2, [.int 0, .ref (r 22), .ref (r 23), .ref (r 24)])), ((r 3), .inr (2, [.int 0, .ref (r 25), .ref (r 26), .ref (r 27)])), ((r 5), .inr (8, [.int 0, .int 0, .int 0, .ref (r 28), .int 0, .int 0, .ref (r 29), .int 0, .int 0, .int 0, .int 0, .int 0, .int 0, .ref (r 30)])), ((r 28), .inl ((k 2), 168, .inl (fun _ => 0))), ((r 8), .inr (1, [.ref (r 1), .ref (r 3), .ref (r 5), .ref (r 31), .ref (r 32), .int 0, .int 0, .int 3047])), ((r 10), .inr (5, [.ref (r 4), .ref (r 2), .ref (r 7), .ref (r 9), .ref (r 33), .ref (r 34), .int 0, .int 0, .int 0, .int 0, .int (-1)])), ((r 11), .inr (0, [.ref (r 2), .ref (r 7), .long 1])), ((r 12), .inr (6, [.ref (r 7), .ref (r 35), .ref (r 36), .ref (r 37), .int 0, .ref (r 38), .int 0, .int (-1), .int (-1), .null, .null])), ((r 13), .inr (3, [.ref (r 2), .ref (r 39), .int 0]))]
def wd_494 (r : Nat → Nat) (k : Nat → ClassId) (f462 : Nat → Int32) : va_W := [((r 0), .inr (11, [.ref (r 1), .ref (r 2), .ref (r 3), .ref (r 4), .ref (r 5), .ref (r 6), .ref (r 7), .ref (r 8), .ref (r 9), .ref (r 10), .ref (r 11), .ref (r 12), .ref (r 13), .ref (r 14), .ref (r 15), .int 0, .int 0, .ref (r 16), .int (-1), .ref (r 17)])), ((r 1), .inr (10, [.ref (r 18), .int 4, .int 0, .int 0, .int (-1), .int (-1), .long 0, .int 0, .int 0, .int (-1)])), ((r 18), .inl ((k 0), 1600, .inl f462)), ((r 14), .inl ((k 1), 7, .inl (fun _ => 0))), ((r 4), .inr (8, [.int 0, .int 0, .int 0, .ref (r 19), .int 0, .int 0, .ref (r 20), .int 0, .int 0, .int 0, .int 0, .int 0, .int 0, .ref (r 21)])), ((r 2), .inr (2, [.int 0, .ref (r 22), .ref (r 23), .ref (r 24)])), ((r 3), .inr (2, [.int 0, .ref (r 25), .ref (r 26), .ref (r 27)])), ((r 5), .inr (8, [.int 0, .int 0, .int 0, .ref (r 28), .int 0, .int 0, .ref (r 29), .int 0, .int 0, .int 0, .int 0, .int 0, .int 0, .ref (r 30)])), ((r 28), .inl ((k 2), 168, .inl (fun _ => 0))), ((r 8), .inr (1, [.ref (r 1), .ref (r 3), .ref (r 5), .ref (r 31), .ref (r 32), .int 0, .int 0, .int 3047])), ((r 10), .inr (5, [.ref (r 4), .ref (r 2), .ref (r 7), .ref (r 9), .ref (r 33), .ref (r 34), .int 0, .int 0, .int 0, .int 0, .int (-1)])), ((r 11), .inr (0, [.ref (r 2), .ref (r 7), .long 1])), ((r 12), .inr (6, [.ref (r 7), .ref (r 35), .ref (r 36), .ref (r 37), .int 0, .ref (r 38), .int 0, .int (-1), .int (-1), .null, .null])), ((r 13), .inr (3, [.ref (r 2), .ref (r 39), .int 0]))]
def wd_495 (r : Nat → Nat) (k : Nat → ClassId) : va_W := [((r 0), .inr (11, [.ref (r 1), .ref (r 2), .ref (r 3), .ref (r 4), .ref (r 5), .ref (r 6), .ref (r 7), .ref (r 8), .ref (r 9), .ref (r 10), .ref (r 11), .ref (r 12), .ref (r 13), .ref (r 14), .ref (r 15), .int 0, .int 0, .ref (r 16), .int (-1), .ref (r 17)])), ((r 1), .inr (10, [.ref (r 18), .int 0, .int 0, .int 0, .int (-1), .int (-1), .long 0, .int 0, .int 0, .int (-1)])), ((r 18), .inl ((k 0), 1600, .inl (fun _ => 0))), ((r 14), .inl ((k 1), 7, .inl (fun _ => 0))), ((r 4), .inr (8, [.int 0, .int 0, .int 0, .ref (r 19), .int 0, .int 0, .ref (r 20), .int 0, .int 0, .int 0, .int 0, .int 0, .int 0, .ref (r 21)])), ((r 2), .inr (2, [.int 0, .ref (r 22), .ref (r 23), .ref (r 24)])), ((r 3), .inr (2, [.int 0, .ref (r 25), .ref (r 26), .ref (r 27)])), ((r 5), .inr (8, [.int 0, .int 0, .int 0, .ref (r 28), .int 0, .int 0, .ref (r 29), .int 0, .int 0, .int 0, .int 0, .int 0, .int 0, .ref (r 30)])), ((r 28), .inl ((k 2), 168, .inl (fun _ => 0))), ((r 8), .inr (1, [.ref (r 1), .ref (r 3), .ref (r 5), .ref (r 31), .ref (r 32), .int 0, .int 0, .int 3047])), ((r 10), .inr (5, [.ref (r 4), .ref (r 2), .ref (r 7), .ref (r 9), .ref (r 33), .ref (r 34), .int 0, .int 0, .int 0, .int 0, .int (-1)])), ((r 11), .inr (0, [.ref (r 2), .ref (r 7), .long 1])), ((r 12), .inr (6, [.ref (r 7), .ref (r 35), .ref (r 36), .ref (r 37), .int 0, .ref (r 38), .int 0, .int (-1), .int (-1), .null, .null])), ((r 13), .inr (3, [.ref (r 2), .ref (r 39), .int 0]))]
set_option maxHeartbeats 4000000 in
set_option maxRecDepth 100000 in
theorem c4_X10_append (l : Launch) (dC : Nat → ClassId) (dI : Nat → Nat → Nat) (r : Nat → Nat) (k : Nat → ClassId) (p0 : Int32) (sz : Nat) : Met l yX10_append (Cond.code yX10_append cX10_append 3 none :: wA) ({ frames := 0, cells := 0, slots := 0, locals := 0 }) (va_Pc [.ref (r 1), .int p0] (fun U => U.heap.size = sz ∧ va_P (dC, dI) vwCl (wd_495 r k) U.heap ∧ va_K (dC, dI) vwCl [((k 0), .int), ((k 1), .int), ((k 2), .int)] U ∧ va_D (fun _ => True) (wd_495 r k))) (va_Qv (fun (_ : Unit) => True) (fun _ t => ∃ f462 : Nat → Int32, va_P (dC, dI) vwCl (wd_494 r k f462) t.heap ∧ va_K (dC, dI) vwCl [((k 0), .int), ((k 1), .int), ((k 2), .int)] t ∧ va_D (va_A (wd_495 r k) sz) (wd_494 r k f462)) (va_A (wd_495 r k) sz)) 0 0 (va_A (wd_495 r k) sz) := by
  refine Met.ofW (cc := cX10_append) (maxL := 3) (ret := none) (by decide) rfl ?_
  intro p e s m args below meth c s₁ B hml hv
  obtain ⟨rfl, hsz, hP, hK, hD0⟩ := hv
  have hx := B.exec
  have hb := B.bytes
  have hr := B.returns
  have hts : ∀ w ∈ wA, w.before [.ref (r 1), .int p0].toArray s = true := fun w h => atoms_spec (ws := Cond.code yX10_append cX10_append 3 none :: wA) B.pre w (List.mem_cons_of_mem _ h)
  have hown : s.vm.findClass RX10 = some m.cls := findClass_of_methodNamed B.named
  have hlocks := B.notSynchronized
  subst hsz
  have hD := hD0.self (sz := s.heap.size)
  generalize hAe : va_A (wd_495 r k) s.heap.size = A at hD ⊢
  have hA : ∀ q : Nat, s.heap.size ≤ q → A q := fun q h => by rw [← hAe]; exact Or.inr h
  have hS : va_S A s.heap s.heap [] := va_S.rf
  have hl := lv_entry ([.ref (r 1), .int p0]) (n := 3) (Nat.le_of_ble_eq_true rfl)
  rw [lg_entry_eq]
  generalize (lg_sl ([.ref (r 1), .int p0]) ++ List.replicate (3 - (lg_sl ([.ref (r 1), .int p0])).length) Slot.unset).toArray = ls at hl ⊢
  have hl : lv_has ls 3 [(0, .ref (r 1)), (1, .int p0)] := hl
  refine lv_bipush (v := 24) hx hb dX10_append_0 (by decide) ?_
  refine lv_istore_n (lv' := [(2, .int 24), (0, .ref (r 1)), (1, .int p0)]) hx hb dX10_append_2 rfl hl (by decide) rfl (fun ls hl => ?_)
  refine lv_iload_n hx hb dX10_append_3 rfl (lv_at hl 0 rfl) ?_
  refine lv_if_lt (tgt := 49) hx hb dX10_append_4 (by decide) (fun c_0 => absurd c_0 (by decide)) (fun c_0 => ?_)
  refine lv_aload_n hx hb dX10_append_7 rfl (lv_at hl 1 rfl) ?_
  refine va_get (D := (dC, dI)) (ci := 10) (v := .int 0) (C := RX10) (T := TX10) (N := 10) hx hb hts i_X10 hown hK hP 1 rfl rfl 1 (by decide) (hts _ q_6) (fun _ h9 => h9) rfl dX10_append_8 ?_
  refine lv_sipush (v := 1600) hx hb dX10_append_11 (by decide) ?_
  refine lv_icmp_ge (tgt := 49) hx hb dX10_append_14 (by decide) (fun c_0 => absurd c_0 (by decide)) (fun c_0 => ?_)
  refine lv_aload_n hx hb dX10_append_17 rfl (lv_at hl 1 rfl) ?_
  refine va_get (D := (dC, dI)) (ci := 10) (v := .ref (r 18)) (C := RX10) (T := TX10) (N := 10) hx hb hts i_X10 hown hK hP 1 rfl rfl 0 (by decide) (hts _ q_5) (fun _ h9 => h9) rfl dX10_append_18 ?_
  refine lv_aload_n hx hb dX10_append_21 rfl (lv_at hl 1 rfl) ?_
  refine va_get (D := (dC, dI)) (ci := 10) (v := .int 0) (C := RX10) (T := TX10) (N := 10) hx hb hts i_X10 hown hK hP 1 rfl rfl 1 (by decide) (hts _ q_6) (fun _ h9 => h9) rfl dX10_append_22 ?_
  refine lv_iload_n hx hb dX10_append_25 rfl (lv_at hl 2 rfl) ?_
  refine lv_iload_n hx hb dX10_append_26 rfl (lv_at hl 0 rfl) ?_
  refine lv_ishr hx hb dX10_append_27 ?_
  refine lv_topi (fun x_448 ex_448 => ?_)
  refine lv_sipush (v := 255) hx hb dX10_append_28 (by decide) ?_
  refine lv_iand hx hb dX10_append_31 ?_
  refine lv_topi (fun x_449 ex_449 => ?_)
  refine va_iast hx hb hK hP hD hS 2 0 rfl rfl (vpi (by decide)) dX10_append_32 (fun H locs hP hD hS => ?_)
  obtain ⟨f450, hP, hD⟩ : ∃ f : Nat → Int32, va_P (dC, dI) vwCl (wd_475 r k f) H ∧ va_D A (wd_475 r k f) := ⟨_, hP, hD⟩
  have hP : va_P (dC, dI) vwCl (wd_487 r k f450) H := hP
  have hD : va_D A (wd_487 r k f450) := hD
  refine lv_aload_n hx hb dX10_append_33 rfl (lv_at hl 1 rfl) ?_
  refine lv_dup hx hb dX10_append_34 rfl ?_
  refine va_get (D := (dC, dI)) (ci := 10) (v := .int 0) (C := RX10) (T := TX10) (N := 10) hx hb hts i_X10 hown hK hP 1 rfl rfl 1 (by decide) (hts _ q_6) (fun _ h9 => h9) rfl dX10_append_35 ?_
  refine lv_iconst (v := 1) hx hb dX10_append_38 (by decide) ?_
  refine lv_iadd hx hb dX10_append_39 ?_
  refine lv_topi (fun x_451 ex_451 => ?_)
  obtain rfl : x_451 = 1 := ex_451.trans (by decide)
  refine va_put (D := (dC, dI)) (ci := 10) (v := .int 1) (ty := tyX10 1) (C := RX10) (T := TX10) (N := 10) hx hb hts i_X10 tyX10 tyX10_ok nmX10 hown hK hP hD hS 1 rfl rfl 1 (by decide) (hts _ q_6) (fun _ h9 => h9) rfl (tyX10_ok 1 (by decide)) rfl rfl (Nat.le_of_ble_eq_true rfl) dX10_append_40 (fun H locs hP hD hS => ?_)
  have hP : va_P (dC, dI) vwCl (wd_488 r k f450) H := hP
  have hD : va_D A (wd_488 r k f450) := hD
  refine lv_iinc (v := 16) (lv' := [(2, .int 16), (0, .ref (r 1)), (1, .int p0)]) hx hb dX10_append_43 hl (k := 0) rfl (by decide) (by decide) rfl (fun ls hl => ?_)
  refine lv_goto (tgt := 3) hx hb dX10_append_46 (by decide) ?_
  refine lv_iload_n hx hb dX10_append_3 rfl (lv_at hl 0 rfl) ?_
  refine lv_if_lt (tgt := 49) hx hb dX10_append_4 (by decide) (fun c_0 => absurd c_0 (by decide)) (fun c_0 => ?_)
  refine lv_aload_n hx hb dX10_append_7 rfl (lv_at hl 1 rfl) ?_
  refine va_get (D := (dC, dI)) (ci := 10) (v := .int 1) (C := RX10) (T := TX10) (N := 10) hx hb hts i_X10 hown hK hP 1 rfl rfl 1 (by decide) (hts _ q_6) (fun _ h9 => h9) rfl dX10_append_8 ?_
  refine lv_sipush (v := 1600) hx hb dX10_append_11 (by decide) ?_
  refine lv_icmp_ge (tgt := 49) hx hb dX10_append_14 (by decide) (fun c_0 => absurd c_0 (by decide)) (fun c_0 => ?_)
  refine lv_aload_n hx hb dX10_append_17 rfl (lv_at hl 1 rfl) ?_
  refine va_get (D := (dC, dI)) (ci := 10) (v := .ref (r 18)) (C := RX10) (T := TX10) (N := 10) hx hb hts i_X10 hown hK hP 1 rfl rfl 0 (by decide) (hts _ q_5) (fun _ h9 => h9) rfl dX10_append_18 ?_
  refine lv_aload_n hx hb dX10_append_21 rfl (lv_at hl 1 rfl) ?_
  refine va_get (D := (dC, dI)) (ci := 10) (v := .int 1) (C := RX10) (T := TX10) (N := 10) hx hb hts i_X10 hown hK hP 1 rfl rfl 1 (by decide) (hts _ q_6) (fun _ h9 => h9) rfl dX10_append_22 ?_
  refine lv_iload_n hx hb dX10_append_25 rfl (lv_at hl 2 rfl) ?_
  refine lv_iload_n hx hb dX10_append_26 rfl (lv_at hl 0 rfl) ?_
  refine lv_ishr hx hb dX10_append_27 ?_
  refine lv_topi (fun x_452 ex_452 => ?_)
  refine lv_sipush (v := 255) hx hb dX10_append_28 (by decide) ?_
  refine lv_iand hx hb dX10_append_31 ?_
  refine lv_topi (fun x_453 ex_453 => ?_)
  refine va_iast hx hb hK hP hD hS 2 0 rfl rfl (vpi (by decide)) dX10_append_32 (fun H locs hP hD hS => ?_)
  obtain ⟨f454, hP, hD⟩ : ∃ f : Nat → Int32, va_P (dC, dI) vwCl (wd_478 r k f) H ∧ va_D A (wd_478 r k f) := ⟨_, hP, hD⟩
  have hP : va_P (dC, dI) vwCl (wd_489 r k f454) H := hP
  have hD : va_D A (wd_489 r k f454) := hD
  refine lv_aload_n hx hb dX10_append_33 rfl (lv_at hl 1 rfl) ?_
  refine lv_dup hx hb dX10_append_34 rfl ?_
  refine va_get (D := (dC, dI)) (ci := 10) (v := .int 1) (C := RX10) (T := TX10) (N := 10) hx hb hts i_X10 hown hK hP 1 rfl rfl 1 (by decide) (hts _ q_6) (fun _ h9 => h9) rfl dX10_append_35 ?_
  refine lv_iconst (v := 1) hx hb dX10_append_38 (by decide) ?_
  refine lv_iadd hx hb dX10_append_39 ?_
  refine lv_topi (fun x_455 ex_455 => ?_)
  obtain rfl : x_455 = 2 := ex_455.trans (by decide)
  refine va_put (D := (dC, dI)) (ci := 10) (v := .int 2) (ty := tyX10 1) (C := RX10) (T := TX10) (N := 10) hx hb hts i_X10 tyX10 tyX10_ok nmX10 hown hK hP hD hS 1 rfl rfl 1 (by decide) (hts _ q_6) (fun _ h9 => h9) rfl (tyX10_ok 1 (by decide)) rfl rfl (Nat.le_of_ble_eq_true rfl) dX10_append_40 (fun H locs hP hD hS => ?_)
  have hP : va_P (dC, dI) vwCl (wd_490 r k f454) H := hP
  have hD : va_D A (wd_490 r k f454) := hD
  refine lv_iinc (v := 8) (lv' := [(2, .int 8), (0, .ref (r 1)), (1, .int p0)]) hx hb dX10_append_43 hl (k := 0) rfl (by decide) (by decide) rfl (fun ls hl => ?_)
  refine lv_goto (tgt := 3) hx hb dX10_append_46 (by decide) ?_
  refine lv_iload_n hx hb dX10_append_3 rfl (lv_at hl 0 rfl) ?_
  refine lv_if_lt (tgt := 49) hx hb dX10_append_4 (by decide) (fun c_0 => absurd c_0 (by decide)) (fun c_0 => ?_)
  refine lv_aload_n hx hb dX10_append_7 rfl (lv_at hl 1 rfl) ?_
  refine va_get (D := (dC, dI)) (ci := 10) (v := .int 2) (C := RX10) (T := TX10) (N := 10) hx hb hts i_X10 hown hK hP 1 rfl rfl 1 (by decide) (hts _ q_6) (fun _ h9 => h9) rfl dX10_append_8 ?_
  refine lv_sipush (v := 1600) hx hb dX10_append_11 (by decide) ?_
  refine lv_icmp_ge (tgt := 49) hx hb dX10_append_14 (by decide) (fun c_0 => absurd c_0 (by decide)) (fun c_0 => ?_)
  refine lv_aload_n hx hb dX10_append_17 rfl (lv_at hl 1 rfl) ?_
  refine va_get (D := (dC, dI)) (ci := 10) (v := .ref (r 18)) (C := RX10) (T := TX10) (N := 10) hx hb hts i_X10 hown hK hP 1 rfl rfl 0 (by decide) (hts _ q_5) (fun _ h9 => h9) rfl dX10_append_18 ?_
  refine lv_aload_n hx hb dX10_append_21 rfl (lv_at hl 1 rfl) ?_
  refine va_get (D := (dC, dI)) (ci := 10) (v := .int 2) (C := RX10) (T := TX10) (N := 10) hx hb hts i_X10 hown hK hP 1 rfl rfl 1 (by decide) (hts _ q_6) (fun _ h9 => h9) rfl dX10_append_22 ?_
  refine lv_iload_n hx hb dX10_append_25 rfl (lv_at hl 2 rfl) ?_
  refine lv_iload_n hx hb dX10_append_26 rfl (lv_at hl 0 rfl) ?_
  refine lv_ishr hx hb dX10_append_27 ?_
  refine lv_topi (fun x_456 ex_456 => ?_)
  refine lv_sipush (v := 255) hx hb dX10_append_28 (by decide) ?_
  refine lv_iand hx hb dX10_append_31 ?_
  refine lv_topi (fun x_457 ex_457 => ?_)
  refine va_iast hx hb hK hP hD hS 2 0 rfl rfl (vpi (by decide)) dX10_append_32 (fun H locs hP hD hS => ?_)
  obtain ⟨f458, hP, hD⟩ : ∃ f : Nat → Int32, va_P (dC, dI) vwCl (wd_481 r k f) H ∧ va_D A (wd_481 r k f) := ⟨_, hP, hD⟩
  have hP : va_P (dC, dI) vwCl (wd_491 r k f458) H := hP
  have hD : va_D A (wd_491 r k f458) := hD
  refine lv_aload_n hx hb dX10_append_33 rfl (lv_at hl 1 rfl) ?_
  refine lv_dup hx hb dX10_append_34 rfl ?_
  refine va_get (D := (dC, dI)) (ci := 10) (v := .int 2) (C := RX10) (T := TX10) (N := 10) hx hb hts i_X10 hown hK hP 1 rfl rfl 1 (by decide) (hts _ q_6) (fun _ h9 => h9) rfl dX10_append_35 ?_
  refine lv_iconst (v := 1) hx hb dX10_append_38 (by decide) ?_
  refine lv_iadd hx hb dX10_append_39 ?_
  refine lv_topi (fun x_459 ex_459 => ?_)
  obtain rfl : x_459 = 3 := ex_459.trans (by decide)
  refine va_put (D := (dC, dI)) (ci := 10) (v := .int 3) (ty := tyX10 1) (C := RX10) (T := TX10) (N := 10) hx hb hts i_X10 tyX10 tyX10_ok nmX10 hown hK hP hD hS 1 rfl rfl 1 (by decide) (hts _ q_6) (fun _ h9 => h9) rfl (tyX10_ok 1 (by decide)) rfl rfl (Nat.le_of_ble_eq_true rfl) dX10_append_40 (fun H locs hP hD hS => ?_)
  have hP : va_P (dC, dI) vwCl (wd_492 r k f458) H := hP
  have hD : va_D A (wd_492 r k f458) := hD
  refine lv_iinc (v := 0) (lv' := [(2, .int 0), (0, .ref (r 1)), (1, .int p0)]) hx hb dX10_append_43 hl (k := 0) rfl (by decide) (by decide) rfl (fun ls hl => ?_)
  refine lv_goto (tgt := 3) hx hb dX10_append_46 (by decide) ?_
  refine lv_iload_n hx hb dX10_append_3 rfl (lv_at hl 0 rfl) ?_
  refine lv_if_lt (tgt := 49) hx hb dX10_append_4 (by decide) (fun c_0 => absurd c_0 (by decide)) (fun c_0 => ?_)
  refine lv_aload_n hx hb dX10_append_7 rfl (lv_at hl 1 rfl) ?_
  refine va_get (D := (dC, dI)) (ci := 10) (v := .int 3) (C := RX10) (T := TX10) (N := 10) hx hb hts i_X10 hown hK hP 1 rfl rfl 1 (by decide) (hts _ q_6) (fun _ h9 => h9) rfl dX10_append_8 ?_
  refine lv_sipush (v := 1600) hx hb dX10_append_11 (by decide) ?_
  refine lv_icmp_ge (tgt := 49) hx hb dX10_append_14 (by decide) (fun c_0 => absurd c_0 (by decide)) (fun c_0 => ?_)
  refine lv_aload_n hx hb dX10_append_17 rfl (lv_at hl 1 rfl) ?_
  refine va_get (D := (dC, dI)) (ci := 10) (v := .ref (r 18)) (C := RX10) (T := TX10) (N := 10) hx hb hts i_X10 hown hK hP 1 rfl rfl 0 (by decide) (hts _ q_5) (fun _ h9 => h9) rfl dX10_append_18 ?_
  refine lv_aload_n hx hb dX10_append_21 rfl (lv_at hl 1 rfl) ?_
  refine va_get (D := (dC, dI)) (ci := 10) (v := .int 3) (C := RX10) (T := TX10) (N := 10) hx hb hts i_X10 hown hK hP 1 rfl rfl 1 (by decide) (hts _ q_6) (fun _ h9 => h9) rfl dX10_append_22 ?_
  refine lv_iload_n hx hb dX10_append_25 rfl (lv_at hl 2 rfl) ?_
  refine lv_iload_n hx hb dX10_append_26 rfl (lv_at hl 0 rfl) ?_
  refine lv_ishr hx hb dX10_append_27 ?_
  refine lv_topi (fun x_460 ex_460 => ?_)
  refine lv_sipush (v := 255) hx hb dX10_append_28 (by decide) ?_
  refine lv_iand hx hb dX10_append_31 ?_
  refine lv_topi (fun x_461 ex_461 => ?_)
  refine va_iast hx hb hK hP hD hS 2 0 rfl rfl (vpi (by decide)) dX10_append_32 (fun H locs hP hD hS => ?_)
  obtain ⟨f462, hP, hD⟩ : ∃ f : Nat → Int32, va_P (dC, dI) vwCl (wd_484 r k f) H ∧ va_D A (wd_484 r k f) := ⟨_, hP, hD⟩
  have hP : va_P (dC, dI) vwCl (wd_493 r k f462) H := hP
  have hD : va_D A (wd_493 r k f462) := hD
  refine lv_aload_n hx hb dX10_append_33 rfl (lv_at hl 1 rfl) ?_
  refine lv_dup hx hb dX10_append_34 rfl ?_
  refine va_get (D := (dC, dI)) (ci := 10) (v := .int 3) (C := RX10) (T := TX10) (N := 10) hx hb hts i_X10 hown hK hP 1 rfl rfl 1 (by decide) (hts _ q_6) (fun _ h9 => h9) rfl dX10_append_35 ?_
  refine lv_iconst (v := 1) hx hb dX10_append_38 (by decide) ?_
  refine lv_iadd hx hb dX10_append_39 ?_
  refine lv_topi (fun x_463 ex_463 => ?_)
  obtain rfl : x_463 = 4 := ex_463.trans (by decide)
  refine va_put (D := (dC, dI)) (ci := 10) (v := .int 4) (ty := tyX10 1) (C := RX10) (T := TX10) (N := 10) hx hb hts i_X10 tyX10 tyX10_ok nmX10 hown hK hP hD hS 1 rfl rfl 1 (by decide) (hts _ q_6) (fun _ h9 => h9) rfl (tyX10_ok 1 (by decide)) rfl rfl (Nat.le_of_ble_eq_true rfl) dX10_append_40 (fun H locs hP hD hS => ?_)
  have hP : va_P (dC, dI) vwCl (wd_494 r k f462) H := hP
  have hD : va_D A (wd_494 r k f462) := hD
  refine lv_iinc (v := (-8)) (lv' := [(2, .int (-8)), (0, .ref (r 1)), (1, .int p0)]) hx hb dX10_append_43 hl (k := 0) rfl (by decide) (by decide) rfl (fun ls hl => ?_)
  refine lv_goto (tgt := 3) hx hb dX10_append_46 (by decide) ?_
  refine lv_iload_n hx hb dX10_append_3 rfl (lv_at hl 0 rfl) ?_
  refine lv_if_lt (tgt := 49) hx hb dX10_append_4 (by decide) (fun c_0 => ?_) (fun c_0 => absurd c_0 (by decide))
  refine W.widen (k := 0) (n := 0) (Nat.le_of_ble_eq_true rfl) (Nat.le_of_ble_eq_true rfl) ?_
  have hP9 := hP.sub (ws' := (wd_494 r k f462)) [0, 1, 2, 3, 4, 5, 6, 7, 8, 9, 10, 11, 12, 13] rfl
  have hD9 := hD.sub (ws' := (wd_494 r k f462)) [0, 1, 2, 3, 4, 5, 6, 7, 8, 9, 10, 11, 12, 13] (by decide) rfl
  have hK9 := hK.sub (tys' := [((k 0), .int), ((k 1), .int), ((k 2), .int)]) [0, 1, 2] rfl
  exact W.vret hx hb hr (fun t ht hW => ⟨⟨(), rfl, trivial, f462, by rw [ht]; exact hP9, va_K.moved hW.alike hK9, hD9⟩, hS.F ht⟩) hS.2.2 dX10_append_49
def wd_496 (r : Nat → Nat) (k : Nat → ClassId) (f465 : Nat → Int32) : va_W := [((r 0), .inr (11, [.ref (r 1), .ref (r 2), .ref (r 3), .ref (r 4), .ref (r 5), .ref (r 6), .ref (r 7), .ref (r 8), .ref (r 9), .ref (r 10), .ref (r 11), .ref (r 12), .ref (r 13), .ref (r 14), .ref (r 15), .int 0, .int 0, .ref (r 16), .int (-1), .ref (r 17)])), ((r 1), .inr (10, [.ref (r 18), .int 4, .int 0, .int 0, .int (-1), .int (-1), .long 0, .int 0, .int 0, .int (-1)])), ((r 18), .inl ((k 0), 1600, .inl f465)), ((r 14), .inl ((k 1), 7, .inl (fun _ => 0))), ((r 4), .inr (8, [.int 0, .int 0, .int 0, .ref (r 19), .int 0, .int 0, .ref (r 20), .int 0, .int 0, .int 0, .int 0, .int 0, .int 0, .ref (r 21)])), ((r 2), .inr (2, [.int 0, .ref (r 22), .ref (r 23), .ref (r 24)])), ((r 3), .inr (2, [.int 0, .ref (r 25), .ref (r 26), .ref (r 27)])), ((r 5), .inr (8, [.int 0, .int 0, .int 0, .ref (r 28), .int 0, .int 0, .ref (r 29), .int 0, .int 0, .int 0, .int 0, .int 0, .int 0, .ref (r 30)])), ((r 28), .inl ((k 2), 168, .inl (fun _ => 0))), ((r 8), .inr (1, [.ref (r 1), .ref (r 3), .ref (r 5), .ref (r 31), .ref (r 32), .int 0, .int 0, .int 3047])), ((r 10), .inr (5, [.ref (r 4), .ref (r 2), .ref (r 7), .ref (r 9), .ref (r 33), .ref (r 34), .int 0, .int 0, .int 0, .int 0, .int (-1)])), ((r 11), .inr (0, [.ref (r 2), .ref (r 7), .long 1])), ((r 12), .inr (6, [.ref (r 7), .ref (r 35), .ref (r 36), .ref (r 37), .int 0, .ref (r 38), .int 0, .int (-1), .int (-1), .null, .null])), ((r 13), .inr (3, [.ref (r 2), .ref (r 39), .int 0]))]
def wd_497 (r : Nat → Nat) (k : Nat → ClassId) (f : Nat → Int32) : va_W := [((r 0), .inr (11, [.ref (r 1), .ref (r 2), .ref (r 3), .ref (r 4), .ref (r 5), .ref (r 6), .ref (r 7), .ref (r 8), .ref (r 9), .ref (r 10), .ref (r 11), .ref (r 12), .ref (r 13), .ref (r 14), .ref (r 15), .int 0, .int 0, .ref (r 16), .int (-1), .ref (r 17)])), ((r 1), .inr (10, [.ref (r 18), .int 4, .int 0, .int 0, .int (-1), .int (-1), .long 0, .int 0, .int 0, .int (-1)])), ((r 18), .inl ((k 0), 1600, .inl f)), ((r 14), .inl ((k 1), 7, .inl (fun _ => 0))), ((r 4), .inr (8, [.int 0, .int 0, .int 0, .ref (r 19), .int 0, .int 0, .ref (r 20), .int 0, .int 0, .int 0, .int 0, .int 0, .int 0, .ref (r 21)])), ((r 2), .inr (2, [.int 0, .ref (r 22), .ref (r 23), .ref (r 24)])), ((r 3), .inr (2, [.int 0, .ref (r 25), .ref (r 26), .ref (r 27)])), ((r 5), .inr (8, [.int 0, .int 0, .int 0, .ref (r 28), .int 0, .int 0, .ref (r 29), .int 0, .int 0, .int 0, .int 0, .int 0, .int 0, .ref (r 30)])), ((r 28), .inl ((k 2), 168, .inl (fun _ => 0))), ((r 8), .inr (1, [.ref (r 1), .ref (r 3), .ref (r 5), .ref (r 31), .ref (r 32), .int 0, .int 0, .int 3047])), ((r 10), .inr (5, [.ref (r 4), .ref (r 2), .ref (r 7), .ref (r 9), .ref (r 33), .ref (r 34), .int 0, .int 0, .int 0, .int 0, .int (-1)])), ((r 11), .inr (0, [.ref (r 2), .ref (r 7), .long 1])), ((r 12), .inr (6, [.ref (r 7), .ref (r 35), .ref (r 36), .ref (r 37), .int 0, .ref (r 38), .int 0, .int (-1), .int (-1), .null, .null])), ((r 13), .inr (3, [.ref (r 2), .ref (r 39), .int 0]))]
def wd_498 (r : Nat → Nat) (k : Nat → ClassId) (f468 : Nat → Int32) : va_W := [((r 0), .inr (11, [.ref (r 1), .ref (r 2), .ref (r 3), .ref (r 4), .ref (r 5), .ref (r 6), .ref (r 7), .ref (r 8), .ref (r 9), .ref (r 10), .ref (r 11), .ref (r 12), .ref (r 13), .ref (r 14), .ref (r 15), .int 0, .int 0, .ref (r 16), .int (-1), .ref (r 17)])), ((r 1), .inr (10, [.ref (r 18), .int 4, .int 0, .int 0, .int (-1), .int (-1), .long 0, .int 0, .int 0, .int (-1)])), ((r 18), .inl ((k 0), 1600, .inl f468)), ((r 14), .inl ((k 1), 7, .inl (fun _ => 0))), ((r 4), .inr (8, [.int 0, .int 0, .int 0, .ref (r 19), .int 0, .int 0, .ref (r 20), .int 0, .int 0, .int 0, .int 0, .int 0, .int 0, .ref (r 21)])), ((r 2), .inr (2, [.int 0, .ref (r 22), .ref (r 23), .ref (r 24)])), ((r 3), .inr (2, [.int 0, .ref (r 25), .ref (r 26), .ref (r 27)])), ((r 5), .inr (8, [.int 0, .int 0, .int 0, .ref (r 28), .int 0, .int 0, .ref (r 29), .int 0, .int 0, .int 0, .int 0, .int 0, .int 0, .ref (r 30)])), ((r 28), .inl ((k 2), 168, .inl (fun _ => 0))), ((r 8), .inr (1, [.ref (r 1), .ref (r 3), .ref (r 5), .ref (r 31), .ref (r 32), .int 0, .int 0, .int 3047])), ((r 10), .inr (5, [.ref (r 4), .ref (r 2), .ref (r 7), .ref (r 9), .ref (r 33), .ref (r 34), .int 0, .int 0, .int 0, .int 0, .int (-1)])), ((r 11), .inr (0, [.ref (r 2), .ref (r 7), .long 1])), ((r 12), .inr (6, [.ref (r 7), .ref (r 35), .ref (r 36), .ref (r 37), .int 0, .ref (r 38), .int 0, .int (-1), .int (-1), .null, .null])), ((r 13), .inr (3, [.ref (r 2), .ref (r 39), .int 0]))]
def wd_499 (r : Nat → Nat) (k : Nat → ClassId) (f468 : Nat → Int32) : va_W := [((r 0), .inr (11, [.ref (r 1), .ref (r 2), .ref (r 3), .ref (r 4), .ref (r 5), .ref (r 6), .ref (r 7), .ref (r 8), .ref (r 9), .ref (r 10), .ref (r 11), .ref (r 12), .ref (r 13), .ref (r 14), .ref (r 15), .int 0, .int 0, .ref (r 16), .int (-1), .ref (r 17)])), ((r 1), .inr (10, [.ref (r 18), .int 5, .int 0, .int 0, .int (-1), .int (-1), .long 0, .int 0, .int 0, .int (-1)])), ((r 18), .inl ((k 0), 1600, .inl f468)), ((r 14), .inl ((k 1), 7, .inl (fun _ => 0))), ((r 4), .inr (8, [.int 0, .int 0, .int 0, .ref (r 19), .int 0, .int 0, .ref (r 20), .int 0, .int 0, .int 0, .int 0, .int 0, .int 0, .ref (r 21)])), ((r 2), .inr (2, [.int 0, .ref (r 22), .ref (r 23), .ref (r 24)])), ((r 3), .inr (2, [.int 0, .ref (r 25), .ref (r 26), .ref (r 27)])), ((r 5), .inr (8, [.int 0, .int 0, .int 0, .ref (r 28), .int 0, .int 0, .ref (r 29), .int 0, .int 0, .int 0, .int 0, .int 0, .int 0, .ref (r 30)])), ((r 28), .inl ((k 2), 168, .inl (fun _ => 0))), ((r 8), .inr (1, [.ref (r 1), .ref (r 3), .ref (r 5), .ref (r 31), .ref (r 32), .int 0, .int 0, .int 3047])), ((r 10), .inr (5, [.ref (r 4), .ref (r 2), .ref (r 7), .ref (r 9), .ref (r 33), .ref (r 34), .int 0, .int 0, .int 0, .int 0, .int (-1)])), ((r 11), .inr (0, [.ref (r 2), .ref (r 7), .long 1])), ((r 12), .inr (6, [.ref (r 7), .ref (r 35), .ref (r 36), .ref (r 37), .int 0, .ref (r 38), .int 0, .int (-1), .int (-1), .null, .null])), ((r 13), .inr (3, [.ref (r 2), .ref (r 39), .int 0]))]
def wd_500 (r : Nat → Nat) (k : Nat → ClassId) (f : Nat → Int32) : va_W := [((r 0), .inr (11, [.ref (r 1), .ref (r 2), .ref (r 3), .ref (r 4), .ref (r 5), .ref (r 6), .ref (r 7), .ref (r 8), .ref (r 9), .ref (r 10), .ref (r 11), .ref (r 12), .ref (r 13), .ref (r 14), .ref (r 15), .int 0, .int 0, .ref (r 16), .int (-1), .ref (r 17)])), ((r 1), .inr (10, [.ref (r 18), .int 5, .int 0, .int 0, .int (-1), .int (-1), .long 0, .int 0, .int 0, .int (-1)])), ((r 18), .inl ((k 0), 1600, .inl f)), ((r 14), .inl ((k 1), 7, .inl (fun _ => 0))), ((r 4), .inr (8, [.int 0, .int 0, .int 0, .ref (r 19), .int 0, .int 0, .ref (r 20), .int 0, .int 0, .int 0, .int 0, .int 0, .int 0, .ref (r 21)])), ((r 2), .inr (2, [.int 0, .ref (r 22), .ref (r 23), .ref (r 24)])), ((r 3), .inr (2, [.int 0, .ref (r 25), .ref (r 26), .ref (r 27)])), ((r 5), .inr (8, [.int 0, .int 0, .int 0, .ref (r 28), .int 0, .int 0, .ref (r 29), .int 0, .int 0, .int 0, .int 0, .int 0, .int 0, .ref (r 30)])), ((r 28), .inl ((k 2), 168, .inl (fun _ => 0))), ((r 8), .inr (1, [.ref (r 1), .ref (r 3), .ref (r 5), .ref (r 31), .ref (r 32), .int 0, .int 0, .int 3047])), ((r 10), .inr (5, [.ref (r 4), .ref (r 2), .ref (r 7), .ref (r 9), .ref (r 33), .ref (r 34), .int 0, .int 0, .int 0, .int 0, .int (-1)])), ((r 11), .inr (0, [.ref (r 2), .ref (r 7), .long 1])), ((r 12), .inr (6, [.ref (r 7), .ref (r 35), .ref (r 36), .ref (r 37), .int 0, .ref (r 38), .int 0, .int (-1), .int (-1), .null, .null])), ((r 13), .inr (3, [.ref (r 2), .ref (r 39), .int 0]))]
def wd_501 (r : Nat → Nat) (k : Nat → ClassId) (f472 : Nat → Int32) : va_W := [((r 0), .inr (11, [.ref (r 1), .ref (r 2), .ref (r 3), .ref (r 4), .ref (r 5), .ref (r 6), .ref (r 7), .ref (r 8), .ref (r 9), .ref (r 10), .ref (r 11), .ref (r 12), .ref (r 13), .ref (r 14), .ref (r 15), .int 0, .int 0, .ref (r 16), .int (-1), .ref (r 17)])), ((r 1), .inr (10, [.ref (r 18), .int 5, .int 0, .int 0, .int (-1), .int (-1), .long 0, .int 0, .int 0, .int (-1)])), ((r 18), .inl ((k 0), 1600, .inl f472)), ((r 14), .inl ((k 1), 7, .inl (fun _ => 0))), ((r 4), .inr (8, [.int 0, .int 0, .int 0, .ref (r 19), .int 0, .int 0, .ref (r 20), .int 0, .int 0, .int 0, .int 0, .int 0, .int 0, .ref (r 21)])), ((r 2), .inr (2, [.int 0, .ref (r 22), .ref (r 23), .ref (r 24)])), ((r 3), .inr (2, [.int 0, .ref (r 25), .ref (r 26), .ref (r 27)])), ((r 5), .inr (8, [.int 0, .int 0, .int 0, .ref (r 28), .int 0, .int 0, .ref (r 29), .int 0, .int 0, .int 0, .int 0, .int 0, .int 0, .ref (r 30)])), ((r 28), .inl ((k 2), 168, .inl (fun _ => 0))), ((r 8), .inr (1, [.ref (r 1), .ref (r 3), .ref (r 5), .ref (r 31), .ref (r 32), .int 0, .int 0, .int 3047])), ((r 10), .inr (5, [.ref (r 4), .ref (r 2), .ref (r 7), .ref (r 9), .ref (r 33), .ref (r 34), .int 0, .int 0, .int 0, .int 0, .int (-1)])), ((r 11), .inr (0, [.ref (r 2), .ref (r 7), .long 1])), ((r 12), .inr (6, [.ref (r 7), .ref (r 35), .ref (r 36), .ref (r 37), .int 0, .ref (r 38), .int 0, .int (-1), .int (-1), .null, .null])), ((r 13), .inr (3, [.ref (r 2), .ref (r 39), .int 0]))]
def wd_502 (r : Nat → Nat) (k : Nat → ClassId) (f472 : Nat → Int32) : va_W := [((r 0), .inr (11, [.ref (r 1), .ref (r 2), .ref (r 3), .ref (r 4), .ref (r 5), .ref (r 6), .ref (r 7), .ref (r 8), .ref (r 9), .ref (r 10), .ref (r 11), .ref (r 12), .ref (r 13), .ref (r 14), .ref (r 15), .int 0, .int 0, .ref (r 16), .int (-1), .ref (r 17)])), ((r 1), .inr (10, [.ref (r 18), .int 6, .int 0, .int 0, .int (-1), .int (-1), .long 0, .int 0, .int 0, .int (-1)])), ((r 18), .inl ((k 0), 1600, .inl f472)), ((r 14), .inl ((k 1), 7, .inl (fun _ => 0))), ((r 4), .inr (8, [.int 0, .int 0, .int 0, .ref (r 19), .int 0, .int 0, .ref (r 20), .int 0, .int 0, .int 0, .int 0, .int 0, .int 0, .ref (r 21)])), ((r 2), .inr (2, [.int 0, .ref (r 22), .ref (r 23), .ref (r 24)])), ((r 3), .inr (2, [.int 0, .ref (r 25), .ref (r 26), .ref (r 27)])), ((r 5), .inr (8, [.int 0, .int 0, .int 0, .ref (r 28), .int 0, .int 0, .ref (r 29), .int 0, .int 0, .int 0, .int 0, .int 0, .int 0, .ref (r 30)])), ((r 28), .inl ((k 2), 168, .inl (fun _ => 0))), ((r 8), .inr (1, [.ref (r 1), .ref (r 3), .ref (r 5), .ref (r 31), .ref (r 32), .int 0, .int 0, .int 3047])), ((r 10), .inr (5, [.ref (r 4), .ref (r 2), .ref (r 7), .ref (r 9), .ref (r 33), .ref (r 34), .int 0, .int 0, .int 0, .int 0, .int (-1)])), ((r 11), .inr (0, [.ref (r 2), .ref (r 7), .long 1])), ((r 12), .inr (6, [.ref (r 7), .ref (r 35), .ref (r 36), .ref (r 37), .int 0, .ref (r 38), .int 0, .int (-1), .int (-1), .null, .null])), ((r 13), .inr (3, [.ref (r 2), .ref (r 39), .int 0]))]
def wd_503 (r : Nat → Nat) (k : Nat → ClassId) (f : Nat → Int32) : va_W := [((r 0), .inr (11, [.ref (r 1), .ref (r 2), .ref (r 3), .ref (r 4), .ref (r 5), .ref (r 6), .ref (r 7), .ref (r 8), .ref (r 9), .ref (r 10), .ref (r 11), .ref (r 12), .ref (r 13), .ref (r 14), .ref (r 15), .int 0, .int 0, .ref (r 16), .int (-1), .ref (r 17)])), ((r 1), .inr (10, [.ref (r 18), .int 6, .int 0, .int 0, .int (-1), .int (-1), .long 0, .int 0, .int 0, .int (-1)])), ((r 18), .inl ((k 0), 1600, .inl f)), ((r 14), .inl ((k 1), 7, .inl (fun _ => 0))), ((r 4), .inr (8, [.int 0, .int 0, .int 0, .ref (r 19), .int 0, .int 0, .ref (r 20), .int 0, .int 0, .int 0, .int 0, .int 0, .int 0, .ref (r 21)])), ((r 2), .inr (2, [.int 0, .ref (r 22), .ref (r 23), .ref (r 24)])), ((r 3), .inr (2, [.int 0, .ref (r 25), .ref (r 26), .ref (r 27)])), ((r 5), .inr (8, [.int 0, .int 0, .int 0, .ref (r 28), .int 0, .int 0, .ref (r 29), .int 0, .int 0, .int 0, .int 0, .int 0, .int 0, .ref (r 30)])), ((r 28), .inl ((k 2), 168, .inl (fun _ => 0))), ((r 8), .inr (1, [.ref (r 1), .ref (r 3), .ref (r 5), .ref (r 31), .ref (r 32), .int 0, .int 0, .int 3047])), ((r 10), .inr (5, [.ref (r 4), .ref (r 2), .ref (r 7), .ref (r 9), .ref (r 33), .ref (r 34), .int 0, .int 0, .int 0, .int 0, .int (-1)])), ((r 11), .inr (0, [.ref (r 2), .ref (r 7), .long 1])), ((r 12), .inr (6, [.ref (r 7), .ref (r 35), .ref (r 36), .ref (r 37), .int 0, .ref (r 38), .int 0, .int (-1), .int (-1), .null, .null])), ((r 13), .inr (3, [.ref (r 2), .ref (r 39), .int 0]))]
def wd_504 (r : Nat → Nat) (k : Nat → ClassId) (f476 : Nat → Int32) : va_W := [((r 0), .inr (11, [.ref (r 1), .ref (r 2), .ref (r 3), .ref (r 4), .ref (r 5), .ref (r 6), .ref (r 7), .ref (r 8), .ref (r 9), .ref (r 10), .ref (r 11), .ref (r 12), .ref (r 13), .ref (r 14), .ref (r 15), .int 0, .int 0, .ref (r 16), .int (-1), .ref (r 17)])), ((r 1), .inr (10, [.ref (r 18), .int 6, .int 0, .int 0, .int (-1), .int (-1), .long 0, .int 0, .int 0, .int (-1)])), ((r 18), .inl ((k 0), 1600, .inl f476)), ((r 14), .inl ((k 1), 7, .inl (fun _ => 0))), ((r 4), .inr (8, [.int 0, .int 0, .int 0, .ref (r 19), .int 0, .int 0, .ref (r 20), .int 0, .int 0, .int 0, .int 0, .int 0, .int 0, .ref (r 21)])), ((r 2), .inr (2, [.int 0, .ref (r 22), .ref (r 23), .ref (r 24)])), ((r 3), .inr (2, [.int 0, .ref (r 25), .ref (r 26), .ref (r 27)])), ((r 5), .inr (8, [.int 0, .int 0, .int 0, .ref (r 28), .int 0, .int 0, .ref (r 29), .int 0, .int 0, .int 0, .int 0, .int 0, .int 0, .ref (r 30)])), ((r 28), .inl ((k 2), 168, .inl (fun _ => 0))), ((r 8), .inr (1, [.ref (r 1), .ref (r 3), .ref (r 5), .ref (r 31), .ref (r 32), .int 0, .int 0, .int 3047])), ((r 10), .inr (5, [.ref (r 4), .ref (r 2), .ref (r 7), .ref (r 9), .ref (r 33), .ref (r 34), .int 0, .int 0, .int 0, .int 0, .int (-1)])), ((r 11), .inr (0, [.ref (r 2), .ref (r 7), .long 1])), ((r 12), .inr (6, [.ref (r 7), .ref (r 35), .ref (r 36), .ref (r 37), .int 0, .ref (r 38), .int 0, .int (-1), .int (-1), .null, .null])), ((r 13), .inr (3, [.ref (r 2), .ref (r 39), .int 0]))]
def wd_505 (r : Nat → Nat) (k : Nat → ClassId) (f476 : Nat → Int32) : va_W := [((r 0), .inr (11, [.ref (r 1), .ref (r 2), .ref (r 3), .ref (r 4), .ref (r 5), .ref (r 6), .ref (r 7), .ref (r 8), .ref (r 9), .ref (r 10), .ref (r 11), .ref (r 12), .ref (r 13), .ref (r 14), .ref (r 15), .int 0, .int 0, .ref (r 16), .int (-1), .ref (r 17)])), ((r 1), .inr (10, [.ref (r 18), .int 7, .int 0, .int 0, .int (-1), .int (-1), .long 0, .int 0, .int 0, .int (-1)])), ((r 18), .inl ((k 0), 1600, .inl f476)), ((r 14), .inl ((k 1), 7, .inl (fun _ => 0))), ((r 4), .inr (8, [.int 0, .int 0, .int 0, .ref (r 19), .int 0, .int 0, .ref (r 20), .int 0, .int 0, .int 0, .int 0, .int 0, .int 0, .ref (r 21)])), ((r 2), .inr (2, [.int 0, .ref (r 22), .ref (r 23), .ref (r 24)])), ((r 3), .inr (2, [.int 0, .ref (r 25), .ref (r 26), .ref (r 27)])), ((r 5), .inr (8, [.int 0, .int 0, .int 0, .ref (r 28), .int 0, .int 0, .ref (r 29), .int 0, .int 0, .int 0, .int 0, .int 0, .int 0, .ref (r 30)])), ((r 28), .inl ((k 2), 168, .inl (fun _ => 0))), ((r 8), .inr (1, [.ref (r 1), .ref (r 3), .ref (r 5), .ref (r 31), .ref (r 32), .int 0, .int 0, .int 3047])), ((r 10), .inr (5, [.ref (r 4), .ref (r 2), .ref (r 7), .ref (r 9), .ref (r 33), .ref (r 34), .int 0, .int 0, .int 0, .int 0, .int (-1)])), ((r 11), .inr (0, [.ref (r 2), .ref (r 7), .long 1])), ((r 12), .inr (6, [.ref (r 7), .ref (r 35), .ref (r 36), .ref (r 37), .int 0, .ref (r 38), .int 0, .int (-1), .int (-1), .null, .null])), ((r 13), .inr (3, [.ref (r 2), .ref (r 39), .int 0]))]
def wd_506 (r : Nat → Nat) (k : Nat → ClassId) (f : Nat → Int32) : va_W := [((r 0), .inr (11, [.ref (r 1), .ref (r 2), .ref (r 3), .ref (r 4), .ref (r 5), .ref (r 6), .ref (r 7), .ref (r 8), .ref (r 9), .ref (r 10), .ref (r 11), .ref (r 12), .ref (r 13), .ref (r 14), .ref (r 15), .int 0, .int 0, .ref (r 16), .int (-1), .ref (r 17)])), ((r 1), .inr (10, [.ref (r 18), .int 7, .int 0, .int 0, .int (-1), .int (-1), .long 0, .int 0, .int 0, .int (-1)])), ((r 18), .inl ((k 0), 1600, .inl f)), ((r 14), .inl ((k 1), 7, .inl (fun _ => 0))), ((r 4), .inr (8, [.int 0, .int 0, .int 0, .ref (r 19), .int 0, .int 0, .ref (r 20), .int 0, .int 0, .int 0, .int 0, .int 0, .int 0, .ref (r 21)])), ((r 2), .inr (2, [.int 0, .ref (r 22), .ref (r 23), .ref (r 24)])), ((r 3), .inr (2, [.int 0, .ref (r 25), .ref (r 26), .ref (r 27)])), ((r 5), .inr (8, [.int 0, .int 0, .int 0, .ref (r 28), .int 0, .int 0, .ref (r 29), .int 0, .int 0, .int 0, .int 0, .int 0, .int 0, .ref (r 30)])), ((r 28), .inl ((k 2), 168, .inl (fun _ => 0))), ((r 8), .inr (1, [.ref (r 1), .ref (r 3), .ref (r 5), .ref (r 31), .ref (r 32), .int 0, .int 0, .int 3047])), ((r 10), .inr (5, [.ref (r 4), .ref (r 2), .ref (r 7), .ref (r 9), .ref (r 33), .ref (r 34), .int 0, .int 0, .int 0, .int 0, .int (-1)])), ((r 11), .inr (0, [.ref (r 2), .ref (r 7), .long 1])), ((r 12), .inr (6, [.ref (r 7), .ref (r 35), .ref (r 36), .ref (r 37), .int 0, .ref (r 38), .int 0, .int (-1), .int (-1), .null, .null])), ((r 13), .inr (3, [.ref (r 2), .ref (r 39), .int 0]))]
def wd_507 (r : Nat → Nat) (k : Nat → ClassId) (f480 : Nat → Int32) : va_W := [((r 0), .inr (11, [.ref (r 1), .ref (r 2), .ref (r 3), .ref (r 4), .ref (r 5), .ref (r 6), .ref (r 7), .ref (r 8), .ref (r 9), .ref (r 10), .ref (r 11), .ref (r 12), .ref (r 13), .ref (r 14), .ref (r 15), .int 0, .int 0, .ref (r 16), .int (-1), .ref (r 17)])), ((r 1), .inr (10, [.ref (r 18), .int 7, .int 0, .int 0, .int (-1), .int (-1), .long 0, .int 0, .int 0, .int (-1)])), ((r 18), .inl ((k 0), 1600, .inl f480)), ((r 14), .inl ((k 1), 7, .inl (fun _ => 0))), ((r 4), .inr (8, [.int 0, .int 0, .int 0, .ref (r 19), .int 0, .int 0, .ref (r 20), .int 0, .int 0, .int 0, .int 0, .int 0, .int 0, .ref (r 21)])), ((r 2), .inr (2, [.int 0, .ref (r 22), .ref (r 23), .ref (r 24)])), ((r 3), .inr (2, [.int 0, .ref (r 25), .ref (r 26), .ref (r 27)])), ((r 5), .inr (8, [.int 0, .int 0, .int 0, .ref (r 28), .int 0, .int 0, .ref (r 29), .int 0, .int 0, .int 0, .int 0, .int 0, .int 0, .ref (r 30)])), ((r 28), .inl ((k 2), 168, .inl (fun _ => 0))), ((r 8), .inr (1, [.ref (r 1), .ref (r 3), .ref (r 5), .ref (r 31), .ref (r 32), .int 0, .int 0, .int 3047])), ((r 10), .inr (5, [.ref (r 4), .ref (r 2), .ref (r 7), .ref (r 9), .ref (r 33), .ref (r 34), .int 0, .int 0, .int 0, .int 0, .int (-1)])), ((r 11), .inr (0, [.ref (r 2), .ref (r 7), .long 1])), ((r 12), .inr (6, [.ref (r 7), .ref (r 35), .ref (r 36), .ref (r 37), .int 0, .ref (r 38), .int 0, .int (-1), .int (-1), .null, .null])), ((r 13), .inr (3, [.ref (r 2), .ref (r 39), .int 0]))]
def wd_508 (r : Nat → Nat) (k : Nat → ClassId) (f480 : Nat → Int32) : va_W := [((r 0), .inr (11, [.ref (r 1), .ref (r 2), .ref (r 3), .ref (r 4), .ref (r 5), .ref (r 6), .ref (r 7), .ref (r 8), .ref (r 9), .ref (r 10), .ref (r 11), .ref (r 12), .ref (r 13), .ref (r 14), .ref (r 15), .int 0, .int 0, .ref (r 16), .int (-1), .ref (r 17)])), ((r 1), .inr (10, [.ref (r 18), .int 8, .int 0, .int 0, .int (-1), .int (-1), .long 0, .int 0, .int 0, .int (-1)])), ((r 18), .inl ((k 0), 1600, .inl f480)), ((r 14), .inl ((k 1), 7, .inl (fun _ => 0))), ((r 4), .inr (8, [.int 0, .int 0, .int 0, .ref (r 19), .int 0, .int 0, .ref (r 20), .int 0, .int 0, .int 0, .int 0, .int 0, .int 0, .ref (r 21)])), ((r 2), .inr (2, [.int 0, .ref (r 22), .ref (r 23), .ref (r 24)])), ((r 3), .inr (2, [.int 0, .ref (r 25), .ref (r 26), .ref (r 27)])), ((r 5), .inr (8, [.int 0, .int 0, .int 0, .ref (r 28), .int 0, .int 0, .ref (r 29), .int 0, .int 0, .int 0, .int 0, .int 0, .int 0, .ref (r 30)])), ((r 28), .inl ((k 2), 168, .inl (fun _ => 0))), ((r 8), .inr (1, [.ref (r 1), .ref (r 3), .ref (r 5), .ref (r 31), .ref (r 32), .int 0, .int 0, .int 3047])), ((r 10), .inr (5, [.ref (r 4), .ref (r 2), .ref (r 7), .ref (r 9), .ref (r 33), .ref (r 34), .int 0, .int 0, .int 0, .int 0, .int (-1)])), ((r 11), .inr (0, [.ref (r 2), .ref (r 7), .long 1])), ((r 12), .inr (6, [.ref (r 7), .ref (r 35), .ref (r 36), .ref (r 37), .int 0, .ref (r 38), .int 0, .int (-1), .int (-1), .null, .null])), ((r 13), .inr (3, [.ref (r 2), .ref (r 39), .int 0]))]
def wd_509 (r : Nat → Nat) (k : Nat → ClassId) (f484 : Nat → Int32) : va_W := [((r 0), .inr (11, [.ref (r 1), .ref (r 2), .ref (r 3), .ref (r 4), .ref (r 5), .ref (r 6), .ref (r 7), .ref (r 8), .ref (r 9), .ref (r 10), .ref (r 11), .ref (r 12), .ref (r 13), .ref (r 14), .ref (r 15), .int 0, .int 0, .ref (r 16), .int (-1), .ref (r 17)])), ((r 1), .inr (10, [.ref (r 18), .int 4, .int 0, .int 0, .int (-1), .int (-1), .long 0, .int 0, .int 0, .int (-1)])), ((r 18), .inl ((k 0), 1600, .inl f484)), ((r 14), .inl ((k 1), 7, .inl (fun _ => 0))), ((r 4), .inr (8, [.int 0, .int 0, .int 0, .ref (r 19), .int 0, .int 0, .ref (r 20), .int 0, .int 0, .int 0, .int 0, .int 0, .int 0, .ref (r 21)])), ((r 2), .inr (2, [.int 0, .ref (r 22), .ref (r 23), .ref (r 24)])), ((r 3), .inr (2, [.int 0, .ref (r 25), .ref (r 26), .ref (r 27)])), ((r 5), .inr (8, [.int 0, .int 0, .int 0, .ref (r 28), .int 0, .int 0, .ref (r 29), .int 0, .int 0, .int 0, .int 0, .int 0, .int 0, .ref (r 30)])), ((r 28), .inl ((k 2), 168, .inl (fun _ => 0))), ((r 8), .inr (1, [.ref (r 1), .ref (r 3), .ref (r 5), .ref (r 31), .ref (r 32), .int 0, .int 0, .int 3047])), ((r 10), .inr (5, [.ref (r 4), .ref (r 2), .ref (r 7), .ref (r 9), .ref (r 33), .ref (r 34), .int 0, .int 0, .int 0, .int 0, .int (-1)])), ((r 11), .inr (0, [.ref (r 2), .ref (r 7), .long 1])), ((r 12), .inr (6, [.ref (r 7), .ref (r 35), .ref (r 36), .ref (r 37), .int 0, .ref (r 38), .int 0, .int (-1), .int (-1), .null, .null])), ((r 13), .inr (3, [.ref (r 2), .ref (r 39), .int 0]))]
def wd_510 (r : Nat → Nat) (k : Nat → ClassId) (f484 : Nat → Int32) : va_W := [((r 0), .inr (11, [.ref (r 1), .ref (r 2), .ref (r 3), .ref (r 4), .ref (r 5), .ref (r 6), .ref (r 7), .ref (r 8), .ref (r 9), .ref (r 10), .ref (r 11), .ref (r 12), .ref (r 13), .ref (r 14), .ref (r 15), .int 0, .int 0, .ref (r 16), .int (-1), .ref (r 17)])), ((r 1), .inr (10, [.ref (r 18), .int 5, .int 0, .int 0, .int (-1), .int (-1), .long 0, .int 0, .int 0, .int (-1)])), ((r 18), .inl ((k 0), 1600, .inl f484)), ((r 14), .inl ((k 1), 7, .inl (fun _ => 0))), ((r 4), .inr (8, [.int 0, .int 0, .int 0, .ref (r 19), .int 0, .int 0, .ref (r 20), .int 0, .int 0, .int 0, .int 0, .int 0, .int 0, .ref (r 21)])), ((r 2), .inr (2, [.int 0, .ref (r 22), .ref (r 23), .ref (r 24)])), ((r 3), .inr (2, [.int 0, .ref (r 25), .ref (r 26), .ref (r 27)])), ((r 5), .inr (8, [.int 0, .int 0, .int 0, .ref (r 28), .int 0, .int 0, .ref (r 29), .int 0, .int 0, .int 0, .int 0, .int 0, .int 0, .ref (r 30)])), ((r 28), .inl ((k 2), 168, .inl (fun _ => 0))), ((r 8), .inr (1, [.ref (r 1), .ref (r 3), .ref (r 5), .ref (r 31), .ref (r 32), .int 0, .int 0, .int 3047])), ((r 10), .inr (5, [.ref (r 4), .ref (r 2), .ref (r 7), .ref (r 9), .ref (r 33), .ref (r 34), .int 0, .int 0, .int 0, .int 0, .int (-1)])), ((r 11), .inr (0, [.ref (r 2), .ref (r 7), .long 1])), ((r 12), .inr (6, [.ref (r 7), .ref (r 35), .ref (r 36), .ref (r 37), .int 0, .ref (r 38), .int 0, .int (-1), .int (-1), .null, .null])), ((r 13), .inr (3, [.ref (r 2), .ref (r 39), .int 0]))]
def wd_511 (r : Nat → Nat) (k : Nat → ClassId) (f488 : Nat → Int32) : va_W := [((r 0), .inr (11, [.ref (r 1), .ref (r 2), .ref (r 3), .ref (r 4), .ref (r 5), .ref (r 6), .ref (r 7), .ref (r 8), .ref (r 9), .ref (r 10), .ref (r 11), .ref (r 12), .ref (r 13), .ref (r 14), .ref (r 15), .int 0, .int 0, .ref (r 16), .int (-1), .ref (r 17)])), ((r 1), .inr (10, [.ref (r 18), .int 5, .int 0, .int 0, .int (-1), .int (-1), .long 0, .int 0, .int 0, .int (-1)])), ((r 18), .inl ((k 0), 1600, .inl f488)), ((r 14), .inl ((k 1), 7, .inl (fun _ => 0))), ((r 4), .inr (8, [.int 0, .int 0, .int 0, .ref (r 19), .int 0, .int 0, .ref (r 20), .int 0, .int 0, .int 0, .int 0, .int 0, .int 0, .ref (r 21)])), ((r 2), .inr (2, [.int 0, .ref (r 22), .ref (r 23), .ref (r 24)])), ((r 3), .inr (2, [.int 0, .ref (r 25), .ref (r 26), .ref (r 27)])), ((r 5), .inr (8, [.int 0, .int 0, .int 0, .ref (r 28), .int 0, .int 0, .ref (r 29), .int 0, .int 0, .int 0, .int 0, .int 0, .int 0, .ref (r 30)])), ((r 28), .inl ((k 2), 168, .inl (fun _ => 0))), ((r 8), .inr (1, [.ref (r 1), .ref (r 3), .ref (r 5), .ref (r 31), .ref (r 32), .int 0, .int 0, .int 3047])), ((r 10), .inr (5, [.ref (r 4), .ref (r 2), .ref (r 7), .ref (r 9), .ref (r 33), .ref (r 34), .int 0, .int 0, .int 0, .int 0, .int (-1)])), ((r 11), .inr (0, [.ref (r 2), .ref (r 7), .long 1])), ((r 12), .inr (6, [.ref (r 7), .ref (r 35), .ref (r 36), .ref (r 37), .int 0, .ref (r 38), .int 0, .int (-1), .int (-1), .null, .null])), ((r 13), .inr (3, [.ref (r 2), .ref (r 39), .int 0]))]
def wd_512 (r : Nat → Nat) (k : Nat → ClassId) (f488 : Nat → Int32) : va_W := [((r 0), .inr (11, [.ref (r 1), .ref (r 2), .ref (r 3), .ref (r 4), .ref (r 5), .ref (r 6), .ref (r 7), .ref (r 8), .ref (r 9), .ref (r 10), .ref (r 11), .ref (r 12), .ref (r 13), .ref (r 14), .ref (r 15), .int 0, .int 0, .ref (r 16), .int (-1), .ref (r 17)])), ((r 1), .inr (10, [.ref (r 18), .int 6, .int 0, .int 0, .int (-1), .int (-1), .long 0, .int 0, .int 0, .int (-1)])), ((r 18), .inl ((k 0), 1600, .inl f488)), ((r 14), .inl ((k 1), 7, .inl (fun _ => 0))), ((r 4), .inr (8, [.int 0, .int 0, .int 0, .ref (r 19), .int 0, .int 0, .ref (r 20), .int 0, .int 0, .int 0, .int 0, .int 0, .int 0, .ref (r 21)])), ((r 2), .inr (2, [.int 0, .ref (r 22), .ref (r 23), .ref (r 24)])), ((r 3), .inr (2, [.int 0, .ref (r 25), .ref (r 26), .ref (r 27)])), ((r 5), .inr (8, [.int 0, .int 0, .int 0, .ref (r 28), .int 0, .int 0, .ref (r 29), .int 0, .int 0, .int 0, .int 0, .int 0, .int 0, .ref (r 30)])), ((r 28), .inl ((k 2), 168, .inl (fun _ => 0))), ((r 8), .inr (1, [.ref (r 1), .ref (r 3), .ref (r 5), .ref (r 31), .ref (r 32), .int 0, .int 0, .int 3047])), ((r 10), .inr (5, [.ref (r 4), .ref (r 2), .ref (r 7), .ref (r 9), .ref (r 33), .ref (r 34), .int 0, .int 0, .int 0, .int 0, .int (-1)])), ((r 11), .inr (0, [.ref (r 2), .ref (r 7), .long 1])), ((r 12), .inr (6, [.ref (r 7), .ref (r 35), .ref (r 36), .ref (r 37), .int 0, .ref (r 38), .int 0, .int (-1), .int (-1), .null, .null])), ((r 13), .inr (3, [.ref (r 2), .ref (r 39), .int 0]))]
def wd_513 (r : Nat → Nat) (k : Nat → ClassId) (f492 : Nat → Int32) : va_W := [((r 0), .inr (11, [.ref (r 1), .ref (r 2), .ref (r 3), .ref (r 4), .ref (r 5), .ref (r 6), .ref (r 7), .ref (r 8), .ref (r 9), .ref (r 10), .ref (r 11), .ref (r 12), .ref (r 13), .ref (r 14), .ref (r 15), .int 0, .int 0, .ref (r 16), .int (-1), .ref (r 17)])), ((r 1), .inr (10, [.ref (r 18), .int 6, .int 0, .int 0, .int (-1), .int (-1), .long 0, .int 0, .int 0, .int (-1)])), ((r 18), .inl ((k 0), 1600, .inl f492)), ((r 14), .inl ((k 1), 7, .inl (fun _ => 0))), ((r 4), .inr (8, [.int 0, .int 0, .int 0, .ref (r 19), .int 0, .int 0, .ref (r 20), .int 0, .int 0, .int 0, .int 0, .int 0, .int 0, .ref (r 21)])), ((r 2), .inr (2, [.int 0, .ref (r 22), .ref (r 23), .ref (r 24)])), ((r 3), .inr (2, [.int 0, .ref (r 25), .ref (r 26), .ref (r 27)])), ((r 5), .inr (8, [.int 0, .int 0, .int 0, .ref (r 28), .int 0, .int 0, .ref (r 29), .int 0, .int 0, .int 0, .int 0, .int 0, .int 0, .ref (r 30)])), ((r 28), .inl ((k 2), 168, .inl (fun _ => 0))), ((r 8), .inr (1, [.ref (r 1), .ref (r 3), .ref (r 5), .ref (r 31), .ref (r 32), .int 0, .int 0, .int 3047])), ((r 10), .inr (5, [.ref (r 4), .ref (r 2), .ref (r 7), .ref (r 9), .ref (r 33), .ref (r 34), .int 0, .int 0, .int 0, .int 0, .int (-1)])), ((r 11), .inr (0, [.ref (r 2), .ref (r 7), .long 1])), ((r 12), .inr (6, [.ref (r 7), .ref (r 35), .ref (r 36), .ref (r 37), .int 0, .ref (r 38), .int 0, .int (-1), .int (-1), .null, .null])), ((r 13), .inr (3, [.ref (r 2), .ref (r 39), .int 0]))]
def wd_514 (r : Nat → Nat) (k : Nat → ClassId) (f492 : Nat → Int32) : va_W := [((r 0), .inr (11, [.ref (r 1), .ref (r 2), .ref (r 3), .ref (r 4), .ref (r 5), .ref (r 6), .ref (r 7), .ref (r 8), .ref (r 9), .ref (r 10), .ref (r 11), .ref (r 12), .ref (r 13), .ref (r 14), .ref (r 15), .int 0, .int 0, .ref (r 16), .int (-1), .ref (r 17)])), ((r 1), .inr (10, [.ref (r 18), .int 7, .int 0, .int 0, .int (-1), .int (-1), .long 0, .int 0, .int 0, .int (-1)])), ((r 18), .inl ((k 0), 1600, .inl f492)), ((r 14), .inl ((k 1), 7, .inl (fun _ => 0))), ((r 4), .inr (8, [.int 0, .int 0, .int 0, .ref (r 19), .int 0, .int 0, .ref (r 20), .int 0, .int 0, .int 0, .int 0, .int 0, .int 0, .ref (r 21)])), ((r 2), .inr (2, [.int 0, .ref (r 22), .ref (r 23), .ref (r 24)])), ((r 3), .inr (2, [.int 0, .ref (r 25), .ref (r 26), .ref (r 27)])), ((r 5), .inr (8, [.int 0, .int 0, .int 0, .ref (r 28), .int 0, .int 0, .ref (r 29), .int 0, .int 0, .int 0, .int 0, .int 0, .int 0, .ref (r 30)])), ((r 28), .inl ((k 2), 168, .inl (fun _ => 0))), ((r 8), .inr (1, [.ref (r 1), .ref (r 3), .ref (r 5), .ref (r 31), .ref (r 32), .int 0, .int 0, .int 3047])), ((r 10), .inr (5, [.ref (r 4), .ref (r 2), .ref (r 7), .ref (r 9), .ref (r 33), .ref (r 34), .int 0, .int 0, .int 0, .int 0, .int (-1)])), ((r 11), .inr (0, [.ref (r 2), .ref (r 7), .long 1])), ((r 12), .inr (6, [.ref (r 7), .ref (r 35), .ref (r 36), .ref (r 37), .int 0, .ref (r 38), .int 0, .int (-1), .int (-1), .null, .null])), ((r 13), .inr (3, [.ref (r 2), .ref (r 39), .int 0]))]
def wd_515 (r : Nat → Nat) (k : Nat → ClassId) (f496 : Nat → Int32) : va_W := [((r 0), .inr (11, [.ref (r 1), .ref (r 2), .ref (r 3), .ref (r 4), .ref (r 5), .ref (r 6), .ref (r 7), .ref (r 8), .ref (r 9), .ref (r 10), .ref (r 11), .ref (r 12), .ref (r 13), .ref (r 14), .ref (r 15), .int 0, .int 0, .ref (r 16), .int (-1), .ref (r 17)])), ((r 1), .inr (10, [.ref (r 18), .int 7, .int 0, .int 0, .int (-1), .int (-1), .long 0, .int 0, .int 0, .int (-1)])), ((r 18), .inl ((k 0), 1600, .inl f496)), ((r 14), .inl ((k 1), 7, .inl (fun _ => 0))), ((r 4), .inr (8, [.int 0, .int 0, .int 0, .ref (r 19), .int 0, .int 0, .ref (r 20), .int 0, .int 0, .int 0, .int 0, .int 0, .int 0, .ref (r 21)])), ((r 2), .inr (2, [.int 0, .ref (r 22), .ref (r 23), .ref (r 24)])), ((r 3), .inr (2, [.int 0, .ref (r 25), .ref (r 26), .ref (r 27)])), ((r 5), .inr (8, [.int 0, .int 0, .int 0, .ref (r 28), .int 0, .int 0, .ref (r 29), .int 0, .int 0, .int 0, .int 0, .int 0, .int 0, .ref (r 30)])), ((r 28), .inl ((k 2), 168, .inl (fun _ => 0))), ((r 8), .inr (1, [.ref (r 1), .ref (r 3), .ref (r 5), .ref (r 31), .ref (r 32), .int 0, .int 0, .int 3047])), ((r 10), .inr (5, [.ref (r 4), .ref (r 2), .ref (r 7), .ref (r 9), .ref (r 33), .ref (r 34), .int 0, .int 0, .int 0, .int 0, .int (-1)])), ((r 11), .inr (0, [.ref (r 2), .ref (r 7), .long 1])), ((r 12), .inr (6, [.ref (r 7), .ref (r 35), .ref (r 36), .ref (r 37), .int 0, .ref (r 38), .int 0, .int (-1), .int (-1), .null, .null])), ((r 13), .inr (3, [.ref (r 2), .ref (r 39), .int 0]))]
def wd_516 (r : Nat → Nat) (k : Nat → ClassId) (f496 : Nat → Int32) : va_W := [((r 0), .inr (11, [.ref (r 1), .ref (r 2), .ref (r 3), .ref (r 4), .ref (r 5), .ref (r 6), .ref (r 7), .ref (r 8), .ref (r 9), .ref (r 10), .ref (r 11), .ref (r 12), .ref (r 13), .ref (r 14), .ref (r 15), .int 0, .int 0, .ref (r 16), .int (-1), .ref (r 17)])), ((r 1), .inr (10, [.ref (r 18), .int 8, .int 0, .int 0, .int (-1), .int (-1), .long 0, .int 0, .int 0, .int (-1)])), ((r 18), .inl ((k 0), 1600, .inl f496)), ((r 14), .inl ((k 1), 7, .inl (fun _ => 0))), ((r 4), .inr (8, [.int 0, .int 0, .int 0, .ref (r 19), .int 0, .int 0, .ref (r 20), .int 0, .int 0, .int 0, .int 0, .int 0, .int 0, .ref (r 21)])), ((r 2), .inr (2, [.int 0, .ref (r 22), .ref (r 23), .ref (r 24)])), ((r 3), .inr (2, [.int 0, .ref (r 25), .ref (r 26), .ref (r 27)])), ((r 5), .inr (8, [.int 0, .int 0, .int 0, .ref (r 28), .int 0, .int 0, .ref (r 29), .int 0, .int 0, .int 0, .int 0, .int 0, .int 0, .ref (r 30)])), ((r 28), .inl ((k 2), 168, .inl (fun _ => 0))), ((r 8), .inr (1, [.ref (r 1), .ref (r 3), .ref (r 5), .ref (r 31), .ref (r 32), .int 0, .int 0, .int 3047])), ((r 10), .inr (5, [.ref (r 4), .ref (r 2), .ref (r 7), .ref (r 9), .ref (r 33), .ref (r 34), .int 0, .int 0, .int 0, .int 0, .int (-1)])), ((r 11), .inr (0, [.ref (r 2), .ref (r 7), .long 1])), ((r 12), .inr (6, [.ref (r 7), .ref (r 35), .ref (r 36), .ref (r 37), .int 0, .ref (r 38), .int 0, .int (-1), .int (-1), .null, .null])), ((r 13), .inr (3, [.ref (r 2), .ref (r 39), .int 0]))]
def wd_517 (r : Nat → Nat) (k : Nat → ClassId) (fz0 : Nat → Int32) : va_W := [((r 0), .inr (11, [.ref (r 1), .ref (r 2), .ref (r 3), .ref (r 4), .ref (r 5), .ref (r 6), .ref (r 7), .ref (r 8), .ref (r 9), .ref (r 10), .ref (r 11), .ref (r 12), .ref (r 13), .ref (r 14), .ref (r 15), .int 0, .int 0, .ref (r 16), .int (-1), .ref (r 17)])), ((r 1), .inr (10, [.ref (r 18), .int 4, .int 0, .int 0, .int (-1), .int (-1), .long 0, .int 0, .int 0, .int (-1)])), ((r 18), .inl ((k 0), 1600, .inl fz0)), ((r 14), .inl ((k 1), 7, .inl (fun _ => 0))), ((r 4), .inr (8, [.int 0, .int 0, .int 0, .ref (r 19), .int 0, .int 0, .ref (r 20), .int 0, .int 0, .int 0, .int 0, .int 0, .int 0, .ref (r 21)])), ((r 2), .inr (2, [.int 0, .ref (r 22), .ref (r 23), .ref (r 24)])), ((r 3), .inr (2, [.int 0, .ref (r 25), .ref (r 26), .ref (r 27)])), ((r 5), .inr (8, [.int 0, .int 0, .int 0, .ref (r 28), .int 0, .int 0, .ref (r 29), .int 0, .int 0, .int 0, .int 0, .int 0, .int 0, .ref (r 30)])), ((r 28), .inl ((k 2), 168, .inl (fun _ => 0))), ((r 8), .inr (1, [.ref (r 1), .ref (r 3), .ref (r 5), .ref (r 31), .ref (r 32), .int 0, .int 0, .int 3047])), ((r 10), .inr (5, [.ref (r 4), .ref (r 2), .ref (r 7), .ref (r 9), .ref (r 33), .ref (r 34), .int 0, .int 0, .int 0, .int 0, .int (-1)])), ((r 11), .inr (0, [.ref (r 2), .ref (r 7), .long 1])), ((r 12), .inr (6, [.ref (r 7), .ref (r 35), .ref (r 36), .ref (r 37), .int 0, .ref (r 38), .int 0, .int (-1), .int (-1), .null, .null])), ((r 13), .inr (3, [.ref (r 2), .ref (r 39), .int 0]))]
set_option maxHeartbeats 4000000 in
set_option maxRecDepth 100000 in
theorem c5_X10_append (l : Launch) (dC : Nat → ClassId) (dI : Nat → Nat → Nat) (r : Nat → Nat) (k : Nat → ClassId) (fz0 : Nat → Int32) (p0 : Int32) (sz : Nat) : Met l yX10_append (Cond.code yX10_append cX10_append 3 none :: wA) ({ frames := 0, cells := 0, slots := 0, locals := 0 }) (va_Pc [.ref (r 1), .int p0] (fun U => U.heap.size = sz ∧ va_P (dC, dI) vwCl (wd_517 r k fz0) U.heap ∧ va_K (dC, dI) vwCl [((k 0), .int), ((k 1), .int), ((k 2), .int)] U ∧ va_D (fun _ => True) (wd_517 r k fz0))) (va_Qv (fun (_ : Unit) => True) (fun _ t => ∃ f496 : Nat → Int32, va_P (dC, dI) vwCl (wd_516 r k f496) t.heap ∧ va_K (dC, dI) vwCl [((k 0), .int), ((k 1), .int), ((k 2), .int)] t ∧ va_D (va_A (wd_517 r k fz0) sz) (wd_516 r k f496)) (va_A (wd_517 r k fz0) sz)) 0 0 (va_A (wd_517 r k fz0) sz) := by
  refine Met.ofW (cc := cX10_append) (maxL := 3) (ret := none) (by decide) rfl ?_
  intro p e s m args below meth c s₁ B hml hv
  obtain ⟨rfl, hsz, hP, hK, hD0⟩ := hv
  have hx := B.exec
  have hb := B.bytes
  have hr := B.returns
  have hts : ∀ w ∈ wA, w.before [.ref (r 1), .int p0].toArray s = true := fun w h => atoms_spec (ws := Cond.code yX10_append cX10_append 3 none :: wA) B.pre w (List.mem_cons_of_mem _ h)
  have hown : s.vm.findClass RX10 = some m.cls := findClass_of_methodNamed B.named
  have hlocks := B.notSynchronized
  subst hsz
  have hD := hD0.self (sz := s.heap.size)
  generalize hAe : va_A (wd_517 r k fz0) s.heap.size = A at hD ⊢
  have hA : ∀ q : Nat, s.heap.size ≤ q → A q := fun q h => by rw [← hAe]; exact Or.inr h
  have hS : va_S A s.heap s.heap [] := va_S.rf
  have hl := lv_entry ([.ref (r 1), .int p0]) (n := 3) (Nat.le_of_ble_eq_true rfl)
  rw [lg_entry_eq]
  generalize (lg_sl ([.ref (r 1), .int p0]) ++ List.replicate (3 - (lg_sl ([.ref (r 1), .int p0])).length) Slot.unset).toArray = ls at hl ⊢
  have hl : lv_has ls 3 [(0, .ref (r 1)), (1, .int p0)] := hl
  refine lv_bipush (v := 24) hx hb dX10_append_0 (by decide) ?_
  refine lv_istore_n (lv' := [(2, .int 24), (0, .ref (r 1)), (1, .int p0)]) hx hb dX10_append_2 rfl hl (by decide) rfl (fun ls hl => ?_)
  refine lv_iload_n hx hb dX10_append_3 rfl (lv_at hl 0 rfl) ?_
  refine lv_if_lt (tgt := 49) hx hb dX10_append_4 (by decide) (fun c_0 => absurd c_0 (by decide)) (fun c_0 => ?_)
  refine lv_aload_n hx hb dX10_append_7 rfl (lv_at hl 1 rfl) ?_
  refine va_get (D := (dC, dI)) (ci := 10) (v := .int 4) (C := RX10) (T := TX10) (N := 10) hx hb hts i_X10 hown hK hP 1 rfl rfl 1 (by decide) (hts _ q_6) (fun _ h9 => h9) rfl dX10_append_8 ?_
  refine lv_sipush (v := 1600) hx hb dX10_append_11 (by decide) ?_
  refine lv_icmp_ge (tgt := 49) hx hb dX10_append_14 (by decide) (fun c_0 => absurd c_0 (by decide)) (fun c_0 => ?_)
  refine lv_aload_n hx hb dX10_append_17 rfl (lv_at hl 1 rfl) ?_
  refine va_get (D := (dC, dI)) (ci := 10) (v := .ref (r 18)) (C := RX10) (T := TX10) (N := 10) hx hb hts i_X10 hown hK hP 1 rfl rfl 0 (by decide) (hts _ q_5) (fun _ h9 => h9) rfl dX10_append_18 ?_
  refine lv_aload_n hx hb dX10_append_21 rfl (lv_at hl 1 rfl) ?_
  refine va_get (D := (dC, dI)) (ci := 10) (v := .int 4) (C := RX10) (T := TX10) (N := 10) hx hb hts i_X10 hown hK hP 1 rfl rfl 1 (by decide) (hts _ q_6) (fun _ h9 => h9) rfl dX10_append_22 ?_
  refine lv_iload_n hx hb dX10_append_25 rfl (lv_at hl 2 rfl) ?_
  refine lv_iload_n hx hb dX10_append_26 rfl (lv_at hl 0 rfl) ?_
  refine lv_ishr hx hb dX10_append_27 ?_
  refine lv_topi (fun x_482 ex_482 => ?_)
  refine lv_sipush (v := 255) hx hb dX10_append_28 (by decide) ?_
  refine lv_iand hx hb dX10_append_31 ?_
  refine lv_topi (fun x_483 ex_483 => ?_)
  refine va_iast hx hb hK hP hD hS 2 0 rfl rfl (vpi (by decide)) dX10_append_32 (fun H locs hP hD hS => ?_)
  obtain ⟨f484, hP, hD⟩ : ∃ f : Nat → Int32, va_P (dC, dI) vwCl (wd_497 r k f) H ∧ va_D A (wd_497 r k f) := ⟨_, hP, hD⟩
  have hP : va_P (dC, dI) vwCl (wd_509 r k f484) H := hP
  have hD : va_D A (wd_509 r k f484) := hD
  refine lv_aload_n hx hb dX10_append_33 rfl (lv_at hl 1 rfl) ?_
  refine lv_dup hx hb dX10_append_34 rfl ?_
  refine va_get (D := (dC, dI)) (ci := 10) (v := .int 4) (C := RX10) (T := TX10) (N := 10) hx hb hts i_X10 hown hK hP 1 rfl rfl 1 (by decide) (hts _ q_6) (fun _ h9 => h9) rfl dX10_append_35 ?_
  refine lv_iconst (v := 1) hx hb dX10_append_38 (by decide) ?_
  refine lv_iadd hx hb dX10_append_39 ?_
  refine lv_topi (fun x_485 ex_485 => ?_)
  obtain rfl : x_485 = 5 := ex_485.trans (by decide)
  refine va_put (D := (dC, dI)) (ci := 10) (v := .int 5) (ty := tyX10 1) (C := RX10) (T := TX10) (N := 10) hx hb hts i_X10 tyX10 tyX10_ok nmX10 hown hK hP hD hS 1 rfl rfl 1 (by decide) (hts _ q_6) (fun _ h9 => h9) rfl (tyX10_ok 1 (by decide)) rfl rfl (Nat.le_of_ble_eq_true rfl) dX10_append_40 (fun H locs hP hD hS => ?_)
  have hP : va_P (dC, dI) vwCl (wd_510 r k f484) H := hP
  have hD : va_D A (wd_510 r k f484) := hD
  refine lv_iinc (v := 16) (lv' := [(2, .int 16), (0, .ref (r 1)), (1, .int p0)]) hx hb dX10_append_43 hl (k := 0) rfl (by decide) (by decide) rfl (fun ls hl => ?_)
  refine lv_goto (tgt := 3) hx hb dX10_append_46 (by decide) ?_
  refine lv_iload_n hx hb dX10_append_3 rfl (lv_at hl 0 rfl) ?_
  refine lv_if_lt (tgt := 49) hx hb dX10_append_4 (by decide) (fun c_0 => absurd c_0 (by decide)) (fun c_0 => ?_)
  refine lv_aload_n hx hb dX10_append_7 rfl (lv_at hl 1 rfl) ?_
  refine va_get (D := (dC, dI)) (ci := 10) (v := .int 5) (C := RX10) (T := TX10) (N := 10) hx hb hts i_X10 hown hK hP 1 rfl rfl 1 (by decide) (hts _ q_6) (fun _ h9 => h9) rfl dX10_append_8 ?_
  refine lv_sipush (v := 1600) hx hb dX10_append_11 (by decide) ?_
  refine lv_icmp_ge (tgt := 49) hx hb dX10_append_14 (by decide) (fun c_0 => absurd c_0 (by decide)) (fun c_0 => ?_)
  refine lv_aload_n hx hb dX10_append_17 rfl (lv_at hl 1 rfl) ?_
  refine va_get (D := (dC, dI)) (ci := 10) (v := .ref (r 18)) (C := RX10) (T := TX10) (N := 10) hx hb hts i_X10 hown hK hP 1 rfl rfl 0 (by decide) (hts _ q_5) (fun _ h9 => h9) rfl dX10_append_18 ?_
  refine lv_aload_n hx hb dX10_append_21 rfl (lv_at hl 1 rfl) ?_
  refine va_get (D := (dC, dI)) (ci := 10) (v := .int 5) (C := RX10) (T := TX10) (N := 10) hx hb hts i_X10 hown hK hP 1 rfl rfl 1 (by decide) (hts _ q_6) (fun _ h9 => h9) rfl dX10_append_22 ?_
  refine lv_iload_n hx hb dX10_append_25 rfl (lv_at hl 2 rfl) ?_
  refine lv_iload_n hx hb dX10_append_26 rfl (lv_at hl 0 rfl) ?_
  refine lv_ishr hx hb dX10_append_27 ?_
  refine lv_topi (fun x_486 ex_486 => ?_)
  refine lv_sipush (v := 255) hx hb dX10_append_28 (by decide) ?_
  refine lv_iand hx hb dX10_append_31 ?_
  refine lv_topi (fun x_487 ex_487 => ?_)
  refine va_iast hx hb hK hP hD hS 2 0 rfl rfl (vpi (by decide)) dX10_append_32 (fun H locs hP hD hS => ?_)
  obtain ⟨f488, hP, hD⟩ : ∃ f : Nat → Int32, va_P (dC, dI) vwCl (wd_500 r k f) H ∧ va_D A (wd_500 r k f) := ⟨_, hP, hD⟩
  have hP : va_P (dC, dI) vwCl (wd_511 r k f488) H := hP
  have hD : va_D A (wd_511 r k f488) := hD
  refine lv_aload_n hx hb dX10_append_33 rfl (lv_at hl 1 rfl) ?_
  refine lv_dup hx hb dX10_append_34 rfl ?_
  refine va_get (D := (dC, dI)) (ci := 10) (v := .int 5) (C := RX10) (T := TX10) (N := 10) hx hb hts i_X10 hown hK hP 1 rfl rfl 1 (by decide) (hts _ q_6) (fun _ h9 => h9) rfl dX10_append_35 ?_
  refine lv_iconst (v := 1) hx hb dX10_append_38 (by decide) ?_
  refine lv_iadd hx hb dX10_append_39 ?_
  refine lv_topi (fun x_489 ex_489 => ?_)
  obtain rfl : x_489 = 6 := ex_489.trans (by decide)
  refine va_put (D := (dC, dI)) (ci := 10) (v := .int 6) (ty := tyX10 1) (C := RX10) (T := TX10) (N := 10) hx hb hts i_X10 tyX10 tyX10_ok nmX10 hown hK hP hD hS 1 rfl rfl 1 (by decide) (hts _ q_6) (fun _ h9 => h9) rfl (tyX10_ok 1 (by decide)) rfl rfl (Nat.le_of_ble_eq_true rfl) dX10_append_40 (fun H locs hP hD hS => ?_)
  have hP : va_P (dC, dI) vwCl (wd_512 r k f488) H := hP
  have hD : va_D A (wd_512 r k f488) := hD
  refine lv_iinc (v := 8) (lv' := [(2, .int 8), (0, .ref (r 1)), (1, .int p0)]) hx hb dX10_append_43 hl (k := 0) rfl (by decide) (by decide) rfl (fun ls hl => ?_)
  refine lv_goto (tgt := 3) hx hb dX10_append_46 (by decide) ?_
  refine lv_iload_n hx hb dX10_append_3 rfl (lv_at hl 0 rfl) ?_
  refine lv_if_lt (tgt := 49) hx hb dX10_append_4 (by decide) (fun c_0 => absurd c_0 (by decide)) (fun c_0 => ?_)
  refine lv_aload_n hx hb dX10_append_7 rfl (lv_at hl 1 rfl) ?_
  refine va_get (D := (dC, dI)) (ci := 10) (v := .int 6) (C := RX10) (T := TX10) (N := 10) hx hb hts i_X10 hown hK hP 1 rfl rfl 1 (by decide) (hts _ q_6) (fun _ h9 => h9) rfl dX10_append_8 ?_
  refine lv_sipush (v := 1600) hx hb dX10_append_11 (by decide) ?_
  refine lv_icmp_ge (tgt := 49) hx hb dX10_append_14 (by decide) (fun c_0 => absurd c_0 (by decide)) (fun c_0 => ?_)
  refine lv_aload_n hx hb dX10_append_17 rfl (lv_at hl 1 rfl) ?_
  refine va_get (D := (dC, dI)) (ci := 10) (v := .ref (r 18)) (C := RX10) (T := TX10) (N := 10) hx hb hts i_X10 hown hK hP 1 rfl rfl 0 (by decide) (hts _ q_5) (fun _ h9 => h9) rfl dX10_append_18 ?_
  refine lv_aload_n hx hb dX10_append_21 rfl (lv_at hl 1 rfl) ?_
  refine va_get (D := (dC, dI)) (ci := 10) (v := .int 6) (C := RX10) (T := TX10) (N := 10) hx hb hts i_X10 hown hK hP 1 rfl rfl 1 (by decide) (hts _ q_6) (fun _ h9 => h9) rfl dX10_append_22 ?_
  refine lv_iload_n hx hb dX10_append_25 rfl (lv_at hl 2 rfl) ?_
  refine lv_iload_n hx hb dX10_append_26 rfl (lv_at hl 0 rfl) ?_
  refine lv_ishr hx hb dX10_append_27 ?_
  refine lv_topi (fun x_490 ex_490 => ?_)
  refine lv_sipush (v := 255) hx hb dX10_append_28 (by decide) ?_
  refine lv_iand hx hb dX10_append_31 ?_
  refine lv_topi (fun x_491 ex_491 => ?_)
  refine va_iast hx hb hK hP hD hS 2 0 rfl rfl (vpi (by decide)) dX10_append_32 (fun H locs hP hD hS => ?_)
  obtain ⟨f492, hP, hD⟩ : ∃ f : Nat → Int32, va_P (dC, dI) vwCl (wd_503 r k f) H ∧ va_D A (wd_503 r k f) := ⟨_, hP, hD⟩
  have hP : va_P (dC, dI) vwCl (wd_513 r k f492) H := hP
  have hD : va_D A (wd_513 r k f492) := hD
  refine lv_aload_n hx hb dX10_append_33 rfl (lv_at hl 1 rfl) ?_
  refine lv_dup hx hb dX10_append_34 rfl ?_
  refine va_get (D := (dC, dI)) (ci := 10) (v := .int 6) (C := RX10) (T := TX10) (N := 10) hx hb hts i_X10 hown hK hP 1 rfl rfl 1 (by decide) (hts _ q_6) (fun _ h9 => h9) rfl dX10_append_35 ?_
  refine lv_iconst (v := 1) hx hb dX10_append_38 (by decide) ?_
  refine lv_iadd hx hb dX10_append_39 ?_
  refine lv_topi (fun x_493 ex_493 => ?_)
  obtain rfl : x_493 = 7 := ex_493.trans (by decide)
  refine va_put (D := (dC, dI)) (ci := 10) (v := .int 7) (ty := tyX10 1) (C := RX10) (T := TX10) (N := 10) hx hb hts i_X10 tyX10 tyX10_ok nmX10 hown hK hP hD hS 1 rfl rfl 1 (by decide) (hts _ q_6) (fun _ h9 => h9) rfl (tyX10_ok 1 (by decide)) rfl rfl (Nat.le_of_ble_eq_true rfl) dX10_append_40 (fun H locs hP hD hS => ?_)
  have hP : va_P (dC, dI) vwCl (wd_514 r k f492) H := hP
  have hD : va_D A (wd_514 r k f492) := hD
  refine lv_iinc (v := 0) (lv' := [(2, .int 0), (0, .ref (r 1)), (1, .int p0)]) hx hb dX10_append_43 hl (k := 0) rfl (by decide) (by decide) rfl (fun ls hl => ?_)
  refine lv_goto (tgt := 3) hx hb dX10_append_46 (by decide) ?_
  refine lv_iload_n hx hb dX10_append_3 rfl (lv_at hl 0 rfl) ?_
  refine lv_if_lt (tgt := 49) hx hb dX10_append_4 (by decide) (fun c_0 => absurd c_0 (by decide)) (fun c_0 => ?_)
  refine lv_aload_n hx hb dX10_append_7 rfl (lv_at hl 1 rfl) ?_
  refine va_get (D := (dC, dI)) (ci := 10) (v := .int 7) (C := RX10) (T := TX10) (N := 10) hx hb hts i_X10 hown hK hP 1 rfl rfl 1 (by decide) (hts _ q_6) (fun _ h9 => h9) rfl dX10_append_8 ?_
  refine lv_sipush (v := 1600) hx hb dX10_append_11 (by decide) ?_
  refine lv_icmp_ge (tgt := 49) hx hb dX10_append_14 (by decide) (fun c_0 => absurd c_0 (by decide)) (fun c_0 => ?_)
  refine lv_aload_n hx hb dX10_append_17 rfl (lv_at hl 1 rfl) ?_
  refine va_get (D := (dC, dI)) (ci := 10) (v := .ref (r 18)) (C := RX10) (T := TX10) (N := 10) hx hb hts i_X10 hown hK hP 1 rfl rfl 0 (by decide) (hts _ q_5) (fun _ h9 => h9) rfl dX10_append_18 ?_
  refine lv_aload_n hx hb dX10_append_21 rfl (lv_at hl 1 rfl) ?_
  refine va_get (D := (dC, dI)) (ci := 10) (v := .int 7) (C := RX10) (T := TX10) (N := 10) hx hb hts i_X10 hown hK hP 1 rfl rfl 1 (by decide) (hts _ q_6) (fun _ h9 => h9) rfl dX10_append_22 ?_
  refine lv_iload_n hx hb dX10_append_25 rfl (lv_at hl 2 rfl) ?_
  refine lv_iload_n hx hb dX10_append_26 rfl (lv_at hl 0 rfl) ?_
  refine lv_ishr hx hb dX10_append_27 ?_
  refine lv_topi (fun x_494 ex_494 => ?_)
  refine lv_sipush (v := 255) hx hb dX10_append_28 (by decide) ?_
  refine lv_iand hx hb dX10_append_31 ?_
  refine lv_topi (fun x_495 ex_495 => ?_)
  refine va_iast hx hb hK hP hD hS 2 0 rfl rfl (vpi (by decide)) dX10_append_32 (fun H locs hP hD hS => ?_)
  obtain ⟨f496, hP, hD⟩ : ∃ f : Nat → Int32, va_P (dC, dI) vwCl (wd_506 r k f) H ∧ va_D A (wd_506 r k f) := ⟨_, hP, hD⟩
  have hP : va_P (dC, dI) vwCl (wd_515 r k f496) H := hP
  have hD : va_D A (wd_515 r k f496) := hD
  refine lv_aload_n hx hb dX10_append_33 rfl (lv_at hl 1 rfl) ?_
  refine lv_dup hx hb dX10_append_34 rfl ?_
  refine va_get (D := (dC, dI)) (ci := 10) (v := .int 7) (C := RX10) (T := TX10) (N := 10) hx hb hts i_X10 hown hK hP 1 rfl rfl 1 (by decide) (hts _ q_6) (fun _ h9 => h9) rfl dX10_append_35 ?_
  refine lv_iconst (v := 1) hx hb dX10_append_38 (by decide) ?_
  refine lv_iadd hx hb dX10_append_39 ?_
  refine lv_topi (fun x_497 ex_497 => ?_)
  obtain rfl : x_497 = 8 := ex_497.trans (by decide)
  refine va_put (D := (dC, dI)) (ci := 10) (v := .int 8) (ty := tyX10 1) (C := RX10) (T := TX10) (N := 10) hx hb hts i_X10 tyX10 tyX10_ok nmX10 hown hK hP hD hS 1 rfl rfl 1 (by decide) (hts _ q_6) (fun _ h9 => h9) rfl (tyX10_ok 1 (by decide)) rfl rfl (Nat.le_of_ble_eq_true rfl) dX10_append_40 (fun H locs hP hD hS => ?_)
  have hP : va_P (dC, dI) vwCl (wd_516 r k f496) H := hP
  have hD : va_D A (wd_516 r k f496) := hD
  refine lv_iinc (v := (-8)) (lv' := [(2, .int (-8)), (0, .ref (r 1)), (1, .int p0)]) hx hb dX10_append_43 hl (k := 0) rfl (by decide) (by decide) rfl (fun ls hl => ?_)
  refine lv_goto (tgt := 3) hx hb dX10_append_46 (by decide) ?_
  refine lv_iload_n hx hb dX10_append_3 rfl (lv_at hl 0 rfl) ?_
  refine lv_if_lt (tgt := 49) hx hb dX10_append_4 (by decide) (fun c_0 => ?_) (fun c_0 => absurd c_0 (by decide))
  refine W.widen (k := 0) (n := 0) (Nat.le_of_ble_eq_true rfl) (Nat.le_of_ble_eq_true rfl) ?_
  have hP9 := hP.sub (ws' := (wd_516 r k f496)) [0, 1, 2, 3, 4, 5, 6, 7, 8, 9, 10, 11, 12, 13] rfl
  have hD9 := hD.sub (ws' := (wd_516 r k f496)) [0, 1, 2, 3, 4, 5, 6, 7, 8, 9, 10, 11, 12, 13] (by decide) rfl
  have hK9 := hK.sub (tys' := [((k 0), .int), ((k 1), .int), ((k 2), .int)]) [0, 1, 2] rfl
  exact W.vret hx hb hr (fun t ht hW => ⟨⟨(), rfl, trivial, f496, by rw [ht]; exact hP9, va_K.moved hW.alike hK9, hD9⟩, hS.F ht⟩) hS.2.2 dX10_append_49
def wd_518 (r : Nat → Nat) (k : Nat → ClassId) (f499 : Nat → Int32) : va_W := [((r 0), .inr (11, [.ref (r 1), .ref (r 2), .ref (r 3), .ref (r 4), .ref (r 5), .ref (r 6), .ref (r 7), .ref (r 8), .ref (r 9), .ref (r 10), .ref (r 11), .ref (r 12), .ref (r 13), .ref (r 14), .ref (r 15), .int 0, .int 0, .ref (r 16), .int (-1), .ref (r 17)])), ((r 1), .inr (10, [.ref (r 18), .int 8, .int 0, .int 0, .int (-1), .int (-1), .long 0, .int 0, .int 0, .int (-1)])), ((r 18), .inl ((k 0), 1600, .inl f499)), ((r 14), .inl ((k 1), 7, .inl (fun _ => 0))), ((r 4), .inr (8, [.int 0, .int 0, .int 0, .ref (r 19), .int 0, .int 0, .ref (r 20), .int 0, .int 0, .int 0, .int 0, .int 0, .int 0, .ref (r 21)])), ((r 2), .inr (2, [.int 0, .ref (r 22), .ref (r 23), .ref (r 24)])), ((r 3), .inr (2, [.int 0, .ref (r 25), .ref (r 26), .ref (r 27)])), ((r 5), .inr (8, [.int 0, .int 0, .int 0, .ref (r 28), .int 0, .int 0, .ref (r 29), .int 0, .int 0, .int 0, .int 0, .int 0, .int 0, .ref (r 30)])), ((r 28), .inl ((k 2), 168, .inl (fun _ => 0))), ((r 8), .inr (1, [.ref (r 1), .ref (r 3), .ref (r 5), .ref (r 31), .ref (r 32), .int 0, .int 0, .int 3047])), ((r 10), .inr (5, [.ref (r 4), .ref (r 2), .ref (r 7), .ref (r 9), .ref (r 33), .ref (r 34), .int 0, .int 0, .int 0, .int 0, .int (-1)])), ((r 11), .inr (0, [.ref (r 2), .ref (r 7), .long 1])), ((r 12), .inr (6, [.ref (r 7), .ref (r 35), .ref (r 36), .ref (r 37), .int 0, .ref (r 38), .int 0, .int (-1), .int (-1), .null, .null])), ((r 13), .inr (3, [.ref (r 2), .ref (r 39), .int 0]))]
def wd_519 (r : Nat → Nat) (k : Nat → ClassId) (f : Nat → Int32) : va_W := [((r 0), .inr (11, [.ref (r 1), .ref (r 2), .ref (r 3), .ref (r 4), .ref (r 5), .ref (r 6), .ref (r 7), .ref (r 8), .ref (r 9), .ref (r 10), .ref (r 11), .ref (r 12), .ref (r 13), .ref (r 14), .ref (r 15), .int 0, .int 0, .ref (r 16), .int (-1), .ref (r 17)])), ((r 1), .inr (10, [.ref (r 18), .int 8, .int 0, .int 0, .int (-1), .int (-1), .long 0, .int 0, .int 0, .int (-1)])), ((r 18), .inl ((k 0), 1600, .inl f)), ((r 14), .inl ((k 1), 7, .inl (fun _ => 0))), ((r 4), .inr (8, [.int 0, .int 0, .int 0, .ref (r 19), .int 0, .int 0, .ref (r 20), .int 0, .int 0, .int 0, .int 0, .int 0, .int 0, .ref (r 21)])), ((r 2), .inr (2, [.int 0, .ref (r 22), .ref (r 23), .ref (r 24)])), ((r 3), .inr (2, [.int 0, .ref (r 25), .ref (r 26), .ref (r 27)])), ((r 5), .inr (8, [.int 0, .int 0, .int 0, .ref (r 28), .int 0, .int 0, .ref (r 29), .int 0, .int 0, .int 0, .int 0, .int 0, .int 0, .ref (r 30)])), ((r 28), .inl ((k 2), 168, .inl (fun _ => 0))), ((r 8), .inr (1, [.ref (r 1), .ref (r 3), .ref (r 5), .ref (r 31), .ref (r 32), .int 0, .int 0, .int 3047])), ((r 10), .inr (5, [.ref (r 4), .ref (r 2), .ref (r 7), .ref (r 9), .ref (r 33), .ref (r 34), .int 0, .int 0, .int 0, .int 0, .int (-1)])), ((r 11), .inr (0, [.ref (r 2), .ref (r 7), .long 1])), ((r 12), .inr (6, [.ref (r 7), .ref (r 35), .ref (r 36), .ref (r 37), .int 0, .ref (r 38), .int 0, .int (-1), .int (-1), .null, .null])), ((r 13), .inr (3, [.ref (r 2), .ref (r 39), .int 0]))]
def wd_520 (r : Nat → Nat) (k : Nat → ClassId) (f502 : Nat → Int32) : va_W := [((r 0), .inr (11, [.ref (r 1), .ref (r 2), .ref (r 3), .ref (r 4), .ref (r 5), .ref (r 6), .ref (r 7), .ref (r 8), .ref (r 9), .ref (r 10), .ref (r 11), .ref (r 12), .ref (r 13), .ref (r 14), .ref (r 15), .int 0, .int 0, .ref (r 16), .int (-1), .ref (r 17)])), ((r 1), .inr (10, [.ref (r 18), .int 8, .int 0, .int 0, .int (-1), .int (-1), .long 0, .int 0, .int 0, .int (-1)])), ((r 18), .inl ((k 0), 1600, .inl f502)), ((r 14), .inl ((k 1), 7, .inl (fun _ => 0))), ((r 4), .inr (8, [.int 0, .int 0, .int 0, .ref (r 19), .int 0, .int 0, .ref (r 20), .int 0, .int 0, .int 0, .int 0, .int 0, .int 0, .ref (r 21)])), ((r 2), .inr (2, [.int 0, .ref (r 22), .ref (r 23), .ref (r 24)])), ((r 3), .inr (2, [.int 0, .ref (r 25), .ref (r 26), .ref (r 27)])), ((r 5), .inr (8, [.int 0, .int 0, .int 0, .ref (r 28), .int 0, .int 0, .ref (r 29), .int 0, .int 0, .int 0, .int 0, .int 0, .int 0, .ref (r 30)])), ((r 28), .inl ((k 2), 168, .inl (fun _ => 0))), ((r 8), .inr (1, [.ref (r 1), .ref (r 3), .ref (r 5), .ref (r 31), .ref (r 32), .int 0, .int 0, .int 3047])), ((r 10), .inr (5, [.ref (r 4), .ref (r 2), .ref (r 7), .ref (r 9), .ref (r 33), .ref (r 34), .int 0, .int 0, .int 0, .int 0, .int (-1)])), ((r 11), .inr (0, [.ref (r 2), .ref (r 7), .long 1])), ((r 12), .inr (6, [.ref (r 7), .ref (r 35), .ref (r 36), .ref (r 37), .int 0, .ref (r 38), .int 0, .int (-1), .int (-1), .null, .null])), ((r 13), .inr (3, [.ref (r 2), .ref (r 39), .int 0]))]
def wd_521 (r : Nat → Nat) (k : Nat → ClassId) (f502 : Nat → Int32) : va_W := [((r 0), .inr (11, [.ref (r 1), .ref (r 2), .ref (r 3), .ref (r 4), .ref (r 5), .ref (r 6), .ref (r 7), .ref (r 8), .ref (r 9), .ref (r 10), .ref (r 11), .ref (r 12), .ref (r 13), .ref (r 14), .ref (r 15), .int 0, .int 0, .ref (r 16), .int (-1), .ref (r 17)])), ((r 1), .inr (10, [.ref (r 18), .int 9, .int 0, .int 0, .int (-1), .int (-1), .long 0, .int 0, .int 0, .int (-1)])), ((r 18), .inl ((k 0), 1600, .inl f502)), ((r 14), .inl ((k 1), 7, .inl (fun _ => 0))), ((r 4), .inr (8, [.int 0, .int 0, .int 0, .ref (r 19), .int 0, .int 0, .ref (r 20), .int 0, .int 0, .int 0, .int 0, .int 0, .int 0, .ref (r 21)])), ((r 2), .inr (2, [.int 0, .ref (r 22), .ref (r 23), .ref (r 24)])), ((r 3), .inr (2, [.int 0, .ref (r 25), .ref (r 26), .ref (r 27)])), ((r 5), .inr (8, [.int 0, .int 0, .int 0, .ref (r 28), .int 0, .int 0, .ref (r 29), .int 0, .int 0, .int 0, .int 0, .int 0, .int 0, .ref (r 30)])), ((r 28), .inl ((k 2), 168, .inl (fun _ => 0))), ((r 8), .inr (1, [.ref (r 1), .ref (r 3), .ref (r 5), .ref (r 31), .ref (r 32), .int 0, .int 0, .int 3047])), ((r 10), .inr (5, [.ref (r 4), .ref (r 2), .ref (r 7), .ref (r 9), .ref (r 33), .ref (r 34), .int 0, .int 0, .int 0, .int 0, .int (-1)])), ((r 11), .inr (0, [.ref (r 2), .ref (r 7), .long 1])), ((r 12), .inr (6, [.ref (r 7), .ref (r 35), .ref (r 36), .ref (r 37), .int 0, .ref (r 38), .int 0, .int (-1), .int (-1), .null, .null])), ((r 13), .inr (3, [.ref (r 2), .ref (r 39), .int 0]))]
def wd_522 (r : Nat → Nat) (k : Nat → ClassId) (f : Nat → Int32) : va_W := [((r 0), .inr (11, [.ref (r 1), .ref (r 2), .ref (r 3), .ref (r 4), .ref (r 5), .ref (r 6), .ref (r 7), .ref (r 8), .ref (r 9), .ref (r 10), .ref (r 11), .ref (r 12), .ref (r 13), .ref (r 14), .ref (r 15), .int 0, .int 0, .ref (r 16), .int (-1), .ref (r 17)])), ((r 1), .inr (10, [.ref (r 18), .int 9, .int 0, .int 0, .int (-1), .int (-1), .long 0, .int 0, .int 0, .int (-1)])), ((r 18), .inl ((k 0), 1600, .inl f)), ((r 14), .inl ((k 1), 7, .inl (fun _ => 0))), ((r 4), .inr (8, [.int 0, .int 0, .int 0, .ref (r 19), .int 0, .int 0, .ref (r 20), .int 0, .int 0, .int 0, .int 0, .int 0, .int 0, .ref (r 21)])), ((r 2), .inr (2, [.int 0, .ref (r 22), .ref (r 23), .ref (r 24)])), ((r 3), .inr (2, [.int 0, .ref (r 25), .ref (r 26), .ref (r 27)])), ((r 5), .inr (8, [.int 0, .int 0, .int 0, .ref (r 28), .int 0, .int 0, .ref (r 29), .int 0, .int 0, .int 0, .int 0, .int 0, .int 0, .ref (r 30)])), ((r 28), .inl ((k 2), 168, .inl (fun _ => 0))), ((r 8), .inr (1, [.ref (r 1), .ref (r 3), .ref (r 5), .ref (r 31), .ref (r 32), .int 0, .int 0, .int 3047])), ((r 10), .inr (5, [.ref (r 4), .ref (r 2), .ref (r 7), .ref (r 9), .ref (r 33), .ref (r 34), .int 0, .int 0, .int 0, .int 0, .int (-1)])), ((r 11), .inr (0, [.ref (r 2), .ref (r 7), .long 1])), ((r 12), .inr (6, [.ref (r 7), .ref (r 35), .ref (r 36), .ref (r 37), .int 0, .ref (r 38), .int 0, .int (-1), .int (-1), .null, .null])), ((r 13), .inr (3, [.ref (r 2), .ref (r 39), .int 0]))]
def wd_523 (r : Nat → Nat) (k : Nat → ClassId) (f506 : Nat → Int32) : va_W := [((r 0), .inr (11, [.ref (r 1), .ref (r 2), .ref (r 3), .ref (r 4), .ref (r 5), .ref (r 6), .ref (r 7), .ref (r 8), .ref (r 9), .ref (r 10), .ref (r 11), .ref (r 12), .ref (r 13), .ref (r 14), .ref (r 15), .int 0, .int 0, .ref (r 16), .int (-1), .ref (r 17)])), ((r 1), .inr (10, [.ref (r 18), .int 9, .int 0, .int 0, .int (-1), .int (-1), .long 0, .int 0, .int 0, .int (-1)])), ((r 18), .inl ((k 0), 1600, .inl f506)), ((r 14), .inl ((k 1), 7, .inl (fun _ => 0))), ((r 4), .inr (8, [.int 0, .int 0, .int 0, .ref (r 19), .int 0, .int 0, .ref (r 20), .int 0, .int 0, .int 0, .int 0, .int 0, .int 0, .ref (r 21)])), ((r 2), .inr (2, [.int 0, .ref (r 22), .ref (r 23), .ref (r 24)])), ((r 3), .inr (2, [.int 0, .ref (r 25), .ref (r 26), .ref (r 27)])), ((r 5), .inr (8, [.int 0, .int 0, .int 0, .ref (r 28), .int 0, .int 0, .ref (r 29), .int 0, .int 0, .int 0, .int 0, .int 0, .int 0, .ref (r 30)])), ((r 28), .inl ((k 2), 168, .inl (fun _ => 0))), ((r 8), .inr (1, [.ref (r 1), .ref (r 3), .ref (r 5), .ref (r 31), .ref (r 32), .int 0, .int 0, .int 3047])), ((r 10), .inr (5, [.ref (r 4), .ref (r 2), .ref (r 7), .ref (r 9), .ref (r 33), .ref (r 34), .int 0, .int 0, .int 0, .int 0, .int (-1)])), ((r 11), .inr (0, [.ref (r 2), .ref (r 7), .long 1])), ((r 12), .inr (6, [.ref (r 7), .ref (r 35), .ref (r 36), .ref (r 37), .int 0, .ref (r 38), .int 0, .int (-1), .int (-1), .null, .null])), ((r 13), .inr (3, [.ref (r 2), .ref (r 39), .int 0]))]
def wd_524 (r : Nat → Nat) (k : Nat → ClassId) (f506 : Nat → Int32) : va_W := [((r 0), .inr (11, [.ref (r 1), .ref (r 2), .ref (r 3), .ref (r 4), .ref (r 5), .ref (r 6), .ref (r 7), .ref (r 8), .ref (r 9), .ref (r 10), .ref (r 11), .ref (r 12), .ref (r 13), .ref (r 14), .ref (r 15), .int 0, .int 0, .ref (r 16), .int (-1), .ref (r 17)])), ((r 1), .inr (10, [.ref (r 18), .int 10, .int 0, .int 0, .int (-1), .int (-1), .long 0, .int 0, .int 0, .int (-1)])), ((r 18), .inl ((k 0), 1600, .inl f506)), ((r 14), .inl ((k 1), 7, .inl (fun _ => 0))), ((r 4), .inr (8, [.int 0, .int 0, .int 0, .ref (r 19), .int 0, .int 0, .ref (r 20), .int 0, .int 0, .int 0, .int 0, .int 0, .int 0, .ref (r 21)])), ((r 2), .inr (2, [.int 0, .ref (r 22), .ref (r 23), .ref (r 24)])), ((r 3), .inr (2, [.int 0, .ref (r 25), .ref (r 26), .ref (r 27)])), ((r 5), .inr (8, [.int 0, .int 0, .int 0, .ref (r 28), .int 0, .int 0, .ref (r 29), .int 0, .int 0, .int 0, .int 0, .int 0, .int 0, .ref (r 30)])), ((r 28), .inl ((k 2), 168, .inl (fun _ => 0))), ((r 8), .inr (1, [.ref (r 1), .ref (r 3), .ref (r 5), .ref (r 31), .ref (r 32), .int 0, .int 0, .int 3047])), ((r 10), .inr (5, [.ref (r 4), .ref (r 2), .ref (r 7), .ref (r 9), .ref (r 33), .ref (r 34), .int 0, .int 0, .int 0, .int 0, .int (-1)])), ((r 11), .inr (0, [.ref (r 2), .ref (r 7), .long 1])), ((r 12), .inr (6, [.ref (r 7), .ref (r 35), .ref (r 36), .ref (r 37), .int 0, .ref (r 38), .int 0, .int (-1), .int (-1), .null, .null])), ((r 13), .inr (3, [.ref (r 2), .ref (r 39), .int 0]))]
def wd_525 (r : Nat → Nat) (k : Nat → ClassId) (f : Nat → Int32) : va_W := [((r 0), .inr (11, [.ref (r 1), .ref (r 2), .ref (r 3), .ref (r 4), .ref (r 5), .ref (r 6), .ref (r 7), .ref (r 8), .ref (r 9), .ref (r 10), .ref (r 11), .ref (r 12), .ref (r 13), .ref (r 14), .ref (r 15), .int 0, .int 0, .ref (r 16), .int (-1), .ref (r 17)])), ((r 1), .inr (10, [.ref (r 18), .int 10, .int 0, .int 0, .int (-1), .int (-1), .long 0, .int 0, .int 0, .int (-1)])), ((r 18), .inl ((k 0), 1600, .inl f)), ((r 14), .inl ((k 1), 7, .inl (fun _ => 0))), ((r 4), .inr (8, [.int 0, .int 0, .int 0, .ref (r 19), .int 0, .int 0, .ref (r 20), .int 0, .int 0, .int 0, .int 0, .int 0, .int 0, .ref (r 21)])), ((r 2), .inr (2, [.int 0, .ref (r 22), .ref (r 23), .ref (r 24)])), ((r 3), .inr (2, [.int 0, .ref (r 25), .ref (r 26), .ref (r 27)])), ((r 5), .inr (8, [.int 0, .int 0, .int 0, .ref (r 28), .int 0, .int 0, .ref (r 29), .int 0, .int 0, .int 0, .int 0, .int 0, .int 0, .ref (r 30)])), ((r 28), .inl ((k 2), 168, .inl (fun _ => 0))), ((r 8), .inr (1, [.ref (r 1), .ref (r 3), .ref (r 5), .ref (r 31), .ref (r 32), .int 0, .int 0, .int 3047])), ((r 10), .inr (5, [.ref (r 4), .ref (r 2), .ref (r 7), .ref (r 9), .ref (r 33), .ref (r 34), .int 0, .int 0, .int 0, .int 0, .int (-1)])), ((r 11), .inr (0, [.ref (r 2), .ref (r 7), .long 1])), ((r 12), .inr (6, [.ref (r 7), .ref (r 35), .ref (r 36), .ref (r 37), .int 0, .ref (r 38), .int 0, .int (-1), .int (-1), .null, .null])), ((r 13), .inr (3, [.ref (r 2), .ref (r 39), .int 0]))]
def wd_526 (r : Nat → Nat) (k : Nat → ClassId) (f510 : Nat → Int32) : va_W := [((r 0), .inr (11, [.ref (r 1), .ref (r 2), .ref (r 3), .ref (r 4), .ref (r 5), .ref (r 6), .ref (r 7), .ref (r 8), .ref (r 9), .ref (r 10), .ref (r 11), .ref (r 12), .ref (r 13), .ref (r 14), .ref (r 15), .int 0, .int 0, .ref (r 16), .int (-1), .ref (r 17)])), ((r 1), .inr (10, [.ref (r 18), .int 10, .int 0, .int 0, .int (-1), .int (-1), .long 0, .int 0, .int 0, .int (-1)])), ((r 18), .inl ((k 0), 1600, .inl f510)), ((r 14), .inl ((k 1), 7, .inl (fun _ => 0))), ((r 4), .inr (8, [.int 0, .int 0, .int 0, .ref (r 19), .int 0, .int 0, .ref (r 20), .int 0, .int 0, .int 0, .int 0, .int 0, .int 0, .ref (r 21)])), ((r 2), .inr (2, [.int 0, .ref (r 22), .ref (r 23), .ref (r 24)])), ((r 3), .inr (2, [.int 0, .ref (r 25), .ref (r 26), .ref (r 27)])), ((r 5), .inr (8, [.int 0, .int 0, .int 0, .ref (r 28), .int 0, .int 0, .ref (r 29), .int 0, .int 0, .int 0, .int 0, .int 0, .int 0, .ref (r 30)])), ((r 28), .inl ((k 2), 168, .inl (fun _ => 0))), ((r 8), .inr (1, [.ref (r 1), .ref (r 3), .ref (r 5), .ref (r 31), .ref (r 32), .int 0, .int 0, .int 3047])), ((r 10), .inr (5, [.ref (r 4), .ref (r 2), .ref (r 7), .ref (r 9), .ref (r 33), .ref (r 34), .int 0, .int 0, .int 0, .int 0, .int (-1)])), ((r 11), .inr (0, [.ref (r 2), .ref (r 7), .long 1])), ((r 12), .inr (6, [.ref (r 7), .ref (r 35), .ref (r 36), .ref (r 37), .int 0, .ref (r 38), .int 0, .int (-1), .int (-1), .null, .null])), ((r 13), .inr (3, [.ref (r 2), .ref (r 39), .int 0]))]
def wd_527 (r : Nat → Nat) (k : Nat → ClassId) (f510 : Nat → Int32) : va_W := [((r 0), .inr (11, [.ref (r 1), .ref (r 2), .ref (r 3), .ref (r 4), .ref (r 5), .ref (r 6), .ref (r 7), .ref (r 8), .ref (r 9), .ref (r 10), .ref (r 11), .ref (r 12), .ref (r 13), .ref (r 14), .ref (r 15), .int 0, .int 0, .ref (r 16), .int (-1), .ref (r 17)])), ((r 1), .inr (10, [.ref (r 18), .int 11, .int 0, .int 0, .int (-1), .int (-1), .long 0, .int 0, .int 0, .int (-1)])), ((r 18), .inl ((k 0), 1600, .inl f510)), ((r 14), .inl ((k 1), 7, .inl (fun _ => 0))), ((r 4), .inr (8, [.int 0, .int 0, .int 0, .ref (r 19), .int 0, .int 0, .ref (r 20), .int 0, .int 0, .int 0, .int 0, .int 0, .int 0, .ref (r 21)])), ((r 2), .inr (2, [.int 0, .ref (r 22), .ref (r 23), .ref (r 24)])), ((r 3), .inr (2, [.int 0, .ref (r 25), .ref (r 26), .ref (r 27)])), ((r 5), .inr (8, [.int 0, .int 0, .int 0, .ref (r 28), .int 0, .int 0, .ref (r 29), .int 0, .int 0, .int 0, .int 0, .int 0, .int 0, .ref (r 30)])), ((r 28), .inl ((k 2), 168, .inl (fun _ => 0))), ((r 8), .inr (1, [.ref (r 1), .ref (r 3), .ref (r 5), .ref (r 31), .ref (r 32), .int 0, .int 0, .int 3047])), ((r 10), .inr (5, [.ref (r 4), .ref (r 2), .ref (r 7), .ref (r 9), .ref (r 33), .ref (r 34), .int 0, .int 0, .int 0, .int 0, .int (-1)])), ((r 11), .inr (0, [.ref (r 2), .ref (r 7), .long 1])), ((r 12), .inr (6, [.ref (r 7), .ref (r 35), .ref (r 36), .ref (r 37), .int 0, .ref (r 38), .int 0, .int (-1), .int (-1), .null, .null])), ((r 13), .inr (3, [.ref (r 2), .ref (r 39), .int 0]))]
def wd_528 (r : Nat → Nat) (k : Nat → ClassId) (f : Nat → Int32) : va_W := [((r 0), .inr (11, [.ref (r 1), .ref (r 2), .ref (r 3), .ref (r 4), .ref (r 5), .ref (r 6), .ref (r 7), .ref (r 8), .ref (r 9), .ref (r 10), .ref (r 11), .ref (r 12), .ref (r 13), .ref (r 14), .ref (r 15), .int 0, .int 0, .ref (r 16), .int (-1), .ref (r 17)])), ((r 1), .inr (10, [.ref (r 18), .int 11, .int 0, .int 0, .int (-1), .int (-1), .long 0, .int 0, .int 0, .int (-1)])), ((r 18), .inl ((k 0), 1600, .inl f)), ((r 14), .inl ((k 1), 7, .inl (fun _ => 0))), ((r 4), .inr (8, [.int 0, .int 0, .int 0, .ref (r 19), .int 0, .int 0, .ref (r 20), .int 0, .int 0, .int 0, .int 0, .int 0, .int 0, .ref (r 21)])), ((r 2), .inr (2, [.int 0, .ref (r 22), .ref (r 23), .ref (r 24)])), ((r 3), .inr (2, [.int 0, .ref (r 25), .ref (r 26), .ref (r 27)])), ((r 5), .inr (8, [.int 0, .int 0, .int 0, .ref (r 28), .int 0, .int 0, .ref (r 29), .int 0, .int 0, .int 0, .int 0, .int 0, .int 0, .ref (r 30)])), ((r 28), .inl ((k 2), 168, .inl (fun _ => 0))), ((r 8), .inr (1, [.ref (r 1), .ref (r 3), .ref (r 5), .ref (r 31), .ref (r 32), .int 0, .int 0, .int 3047])), ((r 10), .inr (5, [.ref (r 4), .ref (r 2), .ref (r 7), .ref (r 9), .ref (r 33), .ref (r 34), .int 0, .int 0, .int 0, .int 0, .int (-1)])), ((r 11), .inr (0, [.ref (r 2), .ref (r 7), .long 1])), ((r 12), .inr (6, [.ref (r 7), .ref (r 35), .ref (r 36), .ref (r 37), .int 0, .ref (r 38), .int 0, .int (-1), .int (-1), .null, .null])), ((r 13), .inr (3, [.ref (r 2), .ref (r 39), .int 0]))]
def wd_529 (r : Nat → Nat) (k : Nat → ClassId) (f514 : Nat → Int32) : va_W := [((r 0), .inr (11, [.ref (r 1), .ref (r 2), .ref (r 3), .ref (r 4), .ref (r 5), .ref (r 6), .ref (r 7), .ref (r 8), .ref (r 9), .ref (r 10), .ref (r 11), .ref (r 12), .ref (r 13), .ref (r 14), .ref (r 15), .int 0, .int 0, .ref (r 16), .int (-1), .ref (r 17)])), ((r 1), .inr (10, [.ref (r 18), .int 11, .int 0, .int 0, .int (-1), .int (-1), .long 0, .int 0, .int 0, .int (-1)])), ((r 18), .inl ((k 0), 1600, .inl f514)), ((r 14), .inl ((k 1), 7, .inl (fun _ => 0))), ((r 4), .inr (8, [.int 0, .int 0, .int 0, .ref (r 19), .int 0, .int 0, .ref (r 20), .int 0, .int 0, .int 0, .int 0, .int 0, .int 0, .ref (r 21)])), ((r 2), .inr (2, [.int 0, .ref (r 22), .ref (r 23), .ref (r 24)])), ((r 3), .inr (2, [.int 0, .ref (r 25), .ref (r 26), .ref (r 27)])), ((r 5), .inr (8, [.int 0, .int 0, .int 0, .ref (r 28), .int 0, .int 0, .ref (r 29), .int 0, .int 0, .int 0, .int 0, .int 0, .int 0, .ref (r 30)])), ((r 28), .inl ((k 2), 168, .inl (fun _ => 0))), ((r 8), .inr (1, [.ref (r 1), .ref (r 3), .ref (r 5), .ref (r 31), .ref (r 32), .int 0, .int 0, .int 3047])), ((r 10), .inr (5, [.ref (r 4), .ref (r 2), .ref (r 7), .ref (r 9), .ref (r 33), .ref (r 34), .int 0, .int 0, .int 0, .int 0, .int (-1)])), ((r 11), .inr (0, [.ref (r 2), .ref (r 7), .long 1])), ((r 12), .inr (6, [.ref (r 7), .ref (r 35), .ref (r 36), .ref (r 37), .int 0, .ref (r 38), .int 0, .int (-1), .int (-1), .null, .null])), ((r 13), .inr (3, [.ref (r 2), .ref (r 39), .int 0]))]
def wd_530 (r : Nat → Nat) (k : Nat → ClassId) (f514 : Nat → Int32) : va_W := [((r 0), .inr (11, [.ref (r 1), .ref (r 2), .ref (r 3), .ref (r 4), .ref (r 5), .ref (r 6), .ref (r 7), .ref (r 8), .ref (r 9), .ref (r 10), .ref (r 11), .ref (r 12), .ref (r 13), .ref (r 14), .ref (r 15), .int 0, .int 0, .ref (r 16), .int (-1), .ref (r 17)])), ((r 1), .inr (10, [.ref (r 18), .int 12, .int 0, .int 0, .int (-1), .int (-1), .long 0, .int 0, .int 0, .int (-1)])), ((r 18), .inl ((k 0), 1600, .inl f514)), ((r 14), .inl ((k 1), 7, .inl (fun _ => 0))), ((r 4), .inr (8, [.int 0, .int 0, .int 0, .ref (r 19), .int 0, .int 0, .ref (r 20), .int 0, .int 0, .int 0, .int 0, .int 0, .int 0, .ref (r 21)])), ((r 2), .inr (2, [.int 0, .ref (r 22), .ref (r 23), .ref (r 24)])), ((r 3), .inr (2, [.int 0, .ref (r 25), .ref (r 26), .ref (r 27)])), ((r 5), .inr (8, [.int 0, .int 0, .int 0, .ref (r 28), .int 0, .int 0, .ref (r 29), .int 0, .int 0, .int 0, .int 0, .int 0, .int 0, .ref (r 30)])), ((r 28), .inl ((k 2), 168, .inl (fun _ => 0))), ((r 8), .inr (1, [.ref (r 1), .ref (r 3), .ref (r 5), .ref (r 31), .ref (r 32), .int 0, .int 0, .int 3047])), ((r 10), .inr (5, [.ref (r 4), .ref (r 2), .ref (r 7), .ref (r 9), .ref (r 33), .ref (r 34), .int 0, .int 0, .int 0, .int 0, .int (-1)])), ((r 11), .inr (0, [.ref (r 2), .ref (r 7), .long 1])), ((r 12), .inr (6, [.ref (r 7), .ref (r 35), .ref (r 36), .ref (r 37), .int 0, .ref (r 38), .int 0, .int (-1), .int (-1), .null, .null])), ((r 13), .inr (3, [.ref (r 2), .ref (r 39), .int 0]))]
def wd_531 (r : Nat → Nat) (k : Nat → ClassId) (f518 : Nat → Int32) : va_W := [((r 0), .inr (11, [.ref (r 1), .ref (r 2), .ref (r 3), .ref (r 4), .ref (r 5), .ref (r 6), .ref (r 7), .ref (r 8), .ref (r 9), .ref (r 10), .ref (r 11), .ref (r 12), .ref (r 13), .ref (r 14), .ref (r 15), .int 0, .int 0, .ref (r 16), .int (-1), .ref (r 17)])), ((r 1), .inr (10, [.ref (r 18), .int 8, .int 0, .int 0, .int (-1), .int (-1), .long 0, .int 0, .int 0, .int (-1)])), ((r 18), .inl ((k 0), 1600, .inl f518)), ((r 14), .inl ((k 1), 7, .inl (fun _ => 0))), ((r 4), .inr (8, [.int 0, .int 0, .int 0, .ref (r 19), .int 0, .int 0, .ref (r 20), .int 0, .int 0, .int 0, .int 0, .int 0, .int 0, .ref (r 21)])), ((r 2), .inr (2, [.int 0, .ref (r 22), .ref (r 23), .ref (r 24)])), ((r 3), .inr (2, [.int 0, .ref (r 25), .ref (r 26), .ref (r 27)])), ((r 5), .inr (8, [.int 0, .int 0, .int 0, .ref (r 28), .int 0, .int 0, .ref (r 29), .int 0, .int 0, .int 0, .int 0, .int 0, .int 0, .ref (r 30)])), ((r 28), .inl ((k 2), 168, .inl (fun _ => 0))), ((r 8), .inr (1, [.ref (r 1), .ref (r 3), .ref (r 5), .ref (r 31), .ref (r 32), .int 0, .int 0, .int 3047])), ((r 10), .inr (5, [.ref (r 4), .ref (r 2), .ref (r 7), .ref (r 9), .ref (r 33), .ref (r 34), .int 0, .int 0, .int 0, .int 0, .int (-1)])), ((r 11), .inr (0, [.ref (r 2), .ref (r 7), .long 1])), ((r 12), .inr (6, [.ref (r 7), .ref (r 35), .ref (r 36), .ref (r 37), .int 0, .ref (r 38), .int 0, .int (-1), .int (-1), .null, .null])), ((r 13), .inr (3, [.ref (r 2), .ref (r 39), .int 0]))]
def wd_532 (r : Nat → Nat) (k : Nat → ClassId) (f518 : Nat → Int32) : va_W := [((r 0), .inr (11, [.ref (r 1), .ref (r 2), .ref (r 3), .ref (r 4), .ref (r 5), .ref (r 6), .ref (r 7), .ref (r 8), .ref (r 9), .ref (r 10), .ref (r 11), .ref (r 12), .ref (r 13), .ref (r 14), .ref (r 15), .int 0, .int 0, .ref (r 16), .int (-1), .ref (r 17)])), ((r 1), .inr (10, [.ref (r 18), .int 9, .int 0, .int 0, .int (-1), .int (-1), .long 0, .int 0, .int 0, .int (-1)])), ((r 18), .inl ((k 0), 1600, .inl f518)), ((r 14), .inl ((k 1), 7, .inl (fun _ => 0))), ((r 4), .inr (8, [.int 0, .int 0, .int 0, .ref (r 19), .int 0, .int 0, .ref (r 20), .int 0, .int 0, .int 0, .int 0, .int 0, .int 0, .ref (r 21)])), ((r 2), .inr (2, [.int 0, .ref (r 22), .ref (r 23), .ref (r 24)])), ((r 3), .inr (2, [.int 0, .ref (r 25), .ref (r 26), .ref (r 27)])), ((r 5), .inr (8, [.int 0, .int 0, .int 0, .ref (r 28), .int 0, .int 0, .ref (r 29), .int 0, .int 0, .int 0, .int 0, .int 0, .int 0, .ref (r 30)])), ((r 28), .inl ((k 2), 168, .inl (fun _ => 0))), ((r 8), .inr (1, [.ref (r 1), .ref (r 3), .ref (r 5), .ref (r 31), .ref (r 32), .int 0, .int 0, .int 3047])), ((r 10), .inr (5, [.ref (r 4), .ref (r 2), .ref (r 7), .ref (r 9), .ref (r 33), .ref (r 34), .int 0, .int 0, .int 0, .int 0, .int (-1)])), ((r 11), .inr (0, [.ref (r 2), .ref (r 7), .long 1])), ((r 12), .inr (6, [.ref (r 7), .ref (r 35), .ref (r 36), .ref (r 37), .int 0, .ref (r 38), .int 0, .int (-1), .int (-1), .null, .null])), ((r 13), .inr (3, [.ref (r 2), .ref (r 39), .int 0]))]
def wd_533 (r : Nat → Nat) (k : Nat → ClassId) (f522 : Nat → Int32) : va_W := [((r 0), .inr (11, [.ref (r 1), .ref (r 2), .ref (r 3), .ref (r 4), .ref (r 5), .ref (r 6), .ref (r 7), .ref (r 8), .ref (r 9), .ref (r 10), .ref (r 11), .ref (r 12), .ref (r 13), .ref (r 14), .ref (r 15), .int 0, .int 0, .ref (r 16), .int (-1), .ref (r 17)])), ((r 1), .inr (10, [.ref (r 18), .int 9, .int 0, .int 0, .int (-1), .int (-1), .long 0, .int 0, .int 0, .int (-1)])), ((r 18), .inl ((k 0), 1600, .inl f522)), ((r 14), .inl ((k 1), 7, .inl (fun _ => 0))), ((r 4), .inr (8, [.int 0, .int 0, .int 0, .ref (r 19), .int 0, .int 0, .ref (r 20), .int 0, .int 0, .int 0, .int 0, .int 0, .int 0, .ref (r 21)])), ((r 2), .inr (2, [.int 0, .ref (r 22), .ref (r 23), .ref (r 24)])), ((r 3), .inr (2, [.int 0, .ref (r 25), .ref (r 26), .ref (r 27)])), ((r 5), .inr (8, [.int 0, .int 0, .int 0, .ref (r 28), .int 0, .int 0, .ref (r 29), .int 0, .int 0, .int 0, .int 0, .int 0, .int 0, .ref (r 30)])), ((r 28), .inl ((k 2), 168, .inl (fun _ => 0))), ((r 8), .inr (1, [.ref (r 1), .ref (r 3), .ref (r 5), .ref (r 31), .ref (r 32), .int 0, .int 0, .int 3047])), ((r 10), .inr (5, [.ref (r 4), .ref (r 2), .ref (r 7), .ref (r 9), .ref (r 33), .ref (r 34), .int 0, .int 0, .int 0, .int 0, .int (-1)])), ((r 11), .inr (0, [.ref (r 2), .ref (r 7), .long 1])), ((r 12), .inr (6, [.ref (r 7), .ref (r 35), .ref (r 36), .ref (r 37), .int 0, .ref (r 38), .int 0, .int (-1), .int (-1), .null, .null])), ((r 13), .inr (3, [.ref (r 2), .ref (r 39), .int 0]))]
def wd_534 (r : Nat → Nat) (k : Nat → ClassId) (f522 : Nat → Int32) : va_W := [((r 0), .inr (11, [.ref (r 1), .ref (r 2), .ref (r 3), .ref (r 4), .ref (r 5), .ref (r 6), .ref (r 7), .ref (r 8), .ref (r 9), .ref (r 10), .ref (r 11), .ref (r 12), .ref (r 13), .ref (r 14), .ref (r 15), .int 0, .int 0, .ref (r 16), .int (-1), .ref (r 17)])), ((r 1), .inr (10, [.ref (r 18), .int 10, .int 0, .int 0, .int (-1), .int (-1), .long 0, .int 0, .int 0, .int (-1)])), ((r 18), .inl ((k 0), 1600, .inl f522)), ((r 14), .inl ((k 1), 7, .inl (fun _ => 0))), ((r 4), .inr (8, [.int 0, .int 0, .int 0, .ref (r 19), .int 0, .int 0, .ref (r 20), .int 0, .int 0, .int 0, .int 0, .int 0, .int 0, .ref (r 21)])), ((r 2), .inr (2, [.int 0, .ref (r 22), .ref (r 23), .ref (r 24)])), ((r 3), .inr (2, [.int 0, .ref (r 25), .ref (r 26), .ref (r 27)])), ((r 5), .inr (8, [.int 0, .int 0, .int 0, .ref (r 28), .int 0, .int 0, .ref (r 29), .int 0, .int 0, .int 0, .int 0, .int 0, .int 0, .ref (r 30)])), ((r 28), .inl ((k 2), 168, .inl (fun _ => 0))), ((r 8), .inr (1, [.ref (r 1), .ref (r 3), .ref (r 5), .ref (r 31), .ref (r 32), .int 0, .int 0, .int 3047])), ((r 10), .inr (5, [.ref (r 4), .ref (r 2), .ref (r 7), .ref (r 9), .ref (r 33), .ref (r 34), .int 0, .int 0, .int 0, .int 0, .int (-1)])), ((r 11), .inr (0, [.ref (r 2), .ref (r 7), .long 1])), ((r 12), .inr (6, [.ref (r 7), .ref (r 35), .ref (r 36), .ref (r 37), .int 0, .ref (r 38), .int 0, .int (-1), .int (-1), .null, .null])), ((r 13), .inr (3, [.ref (r 2), .ref (r 39), .int 0]))]
def wd_535 (r : Nat → Nat) (k : Nat → ClassId) (f526 : Nat → Int32) : va_W := [((r 0), .inr (11, [.ref (r 1), .ref (r 2), .ref (r 3), .ref (r 4), .ref (r 5), .ref (r 6), .ref (r 7), .ref (r 8), .ref (r 9), .ref (r 10), .ref (r 11), .ref (r 12), .ref (r 13), .ref (r 14), .ref (r 15), .int 0, .int 0, .ref (r 16), .int (-1), .ref (r 17)])), ((r 1), .inr (10, [.ref (r 18), .int 10, .int 0, .int 0, .int (-1), .int (-1), .long 0, .int 0, .int 0, .int (-1)])), ((r 18), .inl ((k 0), 1600, .inl f526)), ((r 14), .inl ((k 1), 7, .inl (fun _ => 0))), ((r 4), .inr (8, [.int 0, .int 0, .int 0, .ref (r 19), .int 0, .int 0, .ref (r 20), .int 0, .int 0, .int 0, .int 0, .int 0, .int 0, .ref (r 21)])), ((r 2), .inr (2, [.int 0, .ref (r 22), .ref (r 23), .ref (r 24)])), ((r 3), .inr (2, [.int 0, .ref (r 25), .ref (r 26), .ref (r 27)])), ((r 5), .inr (8, [.int 0, .int 0, .int 0, .ref (r 28), .int 0, .int 0, .ref (r 29), .int 0, .int 0, .int 0, .int 0, .int 0, .int 0, .ref (r 30)])), ((r 28), .inl ((k 2), 168, .inl (fun _ => 0))), ((r 8), .inr (1, [.ref (r 1), .ref (r 3), .ref (r 5), .ref (r 31), .ref (r 32), .int 0, .int 0, .int 3047])), ((r 10), .inr (5, [.ref (r 4), .ref (r 2), .ref (r 7), .ref (r 9), .ref (r 33), .ref (r 34), .int 0, .int 0, .int 0, .int 0, .int (-1)])), ((r 11), .inr (0, [.ref (r 2), .ref (r 7), .long 1])), ((r 12), .inr (6, [.ref (r 7), .ref (r 35), .ref (r 36), .ref (r 37), .int 0, .ref (r 38), .int 0, .int (-1), .int (-1), .null, .null])), ((r 13), .inr (3, [.ref (r 2), .ref (r 39), .int 0]))]
def wd_536 (r : Nat → Nat) (k : Nat → ClassId) (f526 : Nat → Int32) : va_W := [((r 0), .inr (11, [.ref (r 1), .ref (r 2), .ref (r 3), .ref (r 4), .ref (r 5), .ref (r 6), .ref (r 7), .ref (r 8), .ref (r 9), .ref (r 10), .ref (r 11), .ref (r 12), .ref (r 13), .ref (r 14), .ref (r 15), .int 0, .int 0, .ref (r 16), .int (-1), .ref (r 17)])), ((r 1), .inr (10, [.ref (r 18), .int 11, .int 0, .int 0, .int (-1), .int (-1), .long 0, .int 0, .int 0, .int (-1)])), ((r 18), .inl ((k 0), 1600, .inl f526)), ((r 14), .inl ((k 1), 7, .inl (fun _ => 0))), ((r 4), .inr (8, [.int 0, .int 0, .int 0, .ref (r 19), .int 0, .int 0, .ref (r 20), .int 0, .int 0, .int 0, .int 0, .int 0, .int 0, .ref (r 21)])), ((r 2), .inr (2, [.int 0, .ref (r 22), .ref (r 23), .ref (r 24)])), ((r 3), .inr (2, [.int 0, .ref (r 25), .ref (r 26), .ref (r 27)])), ((r 5), .inr (8, [.int 0, .int 0, .int 0, .ref (r 28), .int 0, .int 0, .ref (r 29), .int 0, .int 0, .int 0, .int 0, .int 0, .int 0, .ref (r 30)])), ((r 28), .inl ((k 2), 168, .inl (fun _ => 0))), ((r 8), .inr (1, [.ref (r 1), .ref (r 3), .ref (r 5), .ref (r 31), .ref (r 32), .int 0, .int 0, .int 3047])), ((r 10), .inr (5, [.ref (r 4), .ref (r 2), .ref (r 7), .ref (r 9), .ref (r 33), .ref (r 34), .int 0, .int 0, .int 0, .int 0, .int (-1)])), ((r 11), .inr (0, [.ref (r 2), .ref (r 7), .long 1])), ((r 12), .inr (6, [.ref (r 7), .ref (r 35), .ref (r 36), .ref (r 37), .int 0, .ref (r 38), .int 0, .int (-1), .int (-1), .null, .null])), ((r 13), .inr (3, [.ref (r 2), .ref (r 39), .int 0]))]
def wd_537 (r : Nat → Nat) (k : Nat → ClassId) (f530 : Nat → Int32) : va_W := [((r 0), .inr (11, [.ref (r 1), .ref (r 2), .ref (r 3), .ref (r 4), .ref (r 5), .ref (r 6), .ref (r 7), .ref (r 8), .ref (r 9), .ref (r 10), .ref (r 11), .ref (r 12), .ref (r 13), .ref (r 14), .ref (r 15), .int 0, .int 0, .ref (r 16), .int (-1), .ref (r 17)])), ((r 1), .inr (10, [.ref (r 18), .int 11, .int 0, .int 0, .int (-1), .int (-1), .long 0, .int 0, .int 0, .int (-1)])), ((r 18), .inl ((k 0), 1600, .inl f530)), ((r 14), .inl ((k 1), 7, .inl (fun _ => 0))), ((r 4), .inr (8, [.int 0, .int 0, .int 0, .ref (r 19), .int 0, .int 0, .ref (r 20), .int 0, .int 0, .int 0, .int 0, .int 0, .int 0, .ref (r 21)])), ((r 2), .inr (2, [.int 0, .ref (r 22), .ref (r 23), .ref (r 24)])), ((r 3), .inr (2, [.int 0, .ref (r 25), .ref (r 26), .ref (r 27)])), ((r 5), .inr (8, [.int 0, .int 0, .int 0, .ref (r 28), .int 0, .int 0, .ref (r 29), .int 0, .int 0, .int 0, .int 0, .int 0, .int 0, .ref (r 30)])), ((r 28), .inl ((k 2), 168, .inl (fun _ => 0))), ((r 8), .inr (1, [.ref (r 1), .ref (r 3), .ref (r 5), .ref (r 31), .ref (r 32), .int 0, .int 0, .int 3047])), ((r 10), .inr (5, [.ref (r 4), .ref (r 2), .ref (r 7), .ref (r 9), .ref (r 33), .ref (r 34), .int 0, .int 0, .int 0, .int 0, .int (-1)])), ((r 11), .inr (0, [.ref (r 2), .ref (r 7), .long 1])), ((r 12), .inr (6, [.ref (r 7), .ref (r 35), .ref (r 36), .ref (r 37), .int 0, .ref (r 38), .int 0, .int (-1), .int (-1), .null, .null])), ((r 13), .inr (3, [.ref (r 2), .ref (r 39), .int 0]))]
def wd_538 (r : Nat → Nat) (k : Nat → ClassId) (f530 : Nat → Int32) : va_W := [((r 0), .inr (11, [.ref (r 1), .ref (r 2), .ref (r 3), .ref (r 4), .ref (r 5), .ref (r 6), .ref (r 7), .ref (r 8), .ref (r 9), .ref (r 10), .ref (r 11), .ref (r 12), .ref (r 13), .ref (r 14), .ref (r 15), .int 0, .int 0, .ref (r 16), .int (-1), .ref (r 17)])), ((r 1), .inr (10, [.ref (r 18), .int 12, .int 0, .int 0, .int (-1), .int (-1), .long 0, .int 0, .int 0, .int (-1)])), ((r 18), .inl ((k 0), 1600, .inl f530)), ((r 14), .inl ((k 1), 7, .inl (fun _ => 0))), ((r 4), .inr (8, [.int 0, .int 0, .int 0, .ref (r 19), .int 0, .int 0, .ref (r 20), .int 0, .int 0, .int 0, .int 0, .int 0, .int 0, .ref (r 21)])), ((r 2), .inr (2, [.int 0, .ref (r 22), .ref (r 23), .ref (r 24)])), ((r 3), .inr (2, [.int 0, .ref (r 25), .ref (r 26), .ref (r 27)])), ((r 5), .inr (8, [.int 0, .int 0, .int 0, .ref (r 28), .int 0, .int 0, .ref (r 29), .int 0, .int 0, .int 0, .int 0, .int 0, .int 0, .ref (r 30)])), ((r 28), .inl ((k 2), 168, .inl (fun _ => 0))), ((r 8), .inr (1, [.ref (r 1), .ref (r 3), .ref (r 5), .ref (r 31), .ref (r 32), .int 0, .int 0, .int 3047])), ((r 10), .inr (5, [.ref (r 4), .ref (r 2), .ref (r 7), .ref (r 9), .ref (r 33), .ref (r 34), .int 0, .int 0, .int 0, .int 0, .int (-1)])), ((r 11), .inr (0, [.ref (r 2), .ref (r 7), .long 1])), ((r 12), .inr (6, [.ref (r 7), .ref (r 35), .ref (r 36), .ref (r 37), .int 0, .ref (r 38), .int 0, .int (-1), .int (-1), .null, .null])), ((r 13), .inr (3, [.ref (r 2), .ref (r 39), .int 0]))]
def wd_539 (r : Nat → Nat) (k : Nat → ClassId) (fz0 : Nat → Int32) : va_W := [((r 0), .inr (11, [.ref (r 1), .ref (r 2), .ref (r 3), .ref (r 4), .ref (r 5), .ref (r 6), .ref (r 7), .ref (r 8), .ref (r 9), .ref (r 10), .ref (r 11), .ref (r 12), .ref (r 13), .ref (r 14), .ref (r 15), .int 0, .int 0, .ref (r 16), .int (-1), .ref (r 17)])), ((r 1), .inr (10, [.ref (r 18), .int 8, .int 0, .int 0, .int (-1), .int (-1), .long 0, .int 0, .int 0, .int (-1)])), ((r 18), .inl ((k 0), 1600, .inl fz0)), ((r 14), .inl ((k 1), 7, .inl (fun _ => 0))), ((r 4), .inr (8, [.int 0, .int 0, .int 0, .ref (r 19), .int 0, .int 0, .ref (r 20), .int 0, .int 0, .int 0, .int 0, .int 0, .int 0, .ref (r 21)])), ((r 2), .inr (2, [.int 0, .ref (r 22), .ref (r 23), .ref (r 24)])), ((r 3), .inr (2, [.int 0, .ref (r 25), .ref (r 26), .ref (r 27)])), ((r 5), .inr (8, [.int 0, .int 0, .int 0, .ref (r 28), .int 0, .int 0, .ref (r 29), .int 0, .int 0, .int 0, .int 0, .int 0, .int 0, .ref (r 30)])), ((r 28), .inl ((k 2), 168, .inl (fun _ => 0))), ((r 8), .inr (1, [.ref (r 1), .ref (r 3), .ref (r 5), .ref (r 31), .ref (r 32), .int 0, .int 0, .int 3047])), ((r 10), .inr (5, [.ref (r 4), .ref (r 2), .ref (r 7), .ref (r 9), .ref (r 33), .ref (r 34), .int 0, .int 0, .int 0, .int 0, .int (-1)])), ((r 11), .inr (0, [.ref (r 2), .ref (r 7), .long 1])), ((r 12), .inr (6, [.ref (r 7), .ref (r 35), .ref (r 36), .ref (r 37), .int 0, .ref (r 38), .int 0, .int (-1), .int (-1), .null, .null])), ((r 13), .inr (3, [.ref (r 2), .ref (r 39), .int 0]))]
set_option maxHeartbeats 4000000 in
set_option maxRecDepth 100000 in
theorem c6_X10_append (l : Launch) (dC : Nat → ClassId) (dI : Nat → Nat → Nat) (r : Nat → Nat) (k : Nat → ClassId) (fz0 : Nat → Int32) (p0 : Int32) (sz : Nat) : Met l yX10_append (Cond.code yX10_append cX10_append 3 none :: wA) ({ frames := 0, cells := 0, slots := 0, locals := 0 }) (va_Pc [.ref (r 1), .int p0] (fun U => U.heap.size = sz ∧ va_P (dC, dI) vwCl (wd_539 r k fz0) U.heap ∧ va_K (dC, dI) vwCl [((k 0), .int), ((k 1), .int), ((k 2), .int)] U ∧ va_D (fun _ => True) (wd_539 r k fz0))) (va_Qv (fun (_ : Unit) => True) (fun _ t => ∃ f530 : Nat → Int32, va_P (dC, dI) vwCl (wd_538 r k f530) t.heap ∧ va_K (dC, dI) vwCl [((k 0), .int), ((k 1), .int), ((k 2), .int)] t ∧ va_D (va_A (wd_539 r k fz0) sz) (wd_538 r k f530)) (va_A (wd_539 r k fz0) sz)) 0 0 (va_A (wd_539 r k fz0) sz) := by
  refine Met.ofW (cc := cX10_append) (maxL := 3) (ret := none) (by decide) rfl ?_
  intro p e s m args below meth c s₁ B hml hv
  obtain ⟨rfl, hsz, hP, hK, hD0⟩ := hv
  have hx := B.exec
  have hb := B.bytes
  have hr := B.returns
  have hts : ∀ w ∈ wA, w.before [.ref (r 1), .int p0].toArray s = true := fun w h => atoms_spec (ws := Cond.code yX10_append cX10_append 3 none :: wA) B.pre w (List.mem_cons_of_mem _ h)
  have hown : s.vm.findClass RX10 = some m.cls := findClass_of_methodNamed B.named
  have hlocks := B.notSynchronized
  subst hsz
  have hD := hD0.self (sz := s.heap.size)
  generalize hAe : va_A (wd_539 r k fz0) s.heap.size = A at hD ⊢
  have hA : ∀ q : Nat, s.heap.size ≤ q → A q := fun q h => by rw [← hAe]; exact Or.inr h
  have hS : va_S A s.heap s.heap [] := va_S.rf
  have hl := lv_entry ([.ref (r 1), .int p0]) (n := 3) (Nat.le_of_ble_eq_true rfl)
  rw [lg_entry_eq]
  generalize (lg_sl ([.ref (r 1), .int p0]) ++ List.replicate (3 - (lg_sl ([.ref (r 1), .int p0])).length) Slot.unset).toArray = ls at hl ⊢
  have hl : lv_has ls 3 [(0, .ref (r 1)), (1, .int p0)] := hl
  refine lv_bipush (v := 24) hx hb dX10_append_0 (by decide) ?_
  refine lv_istore_n (lv' := [(2, .int 24), (0, .ref (r 1)), (1, .int p0)]) hx hb dX10_append_2 rfl hl (by decide) rfl (fun ls hl => ?_)
  refine lv_iload_n hx hb dX10_append_3 rfl (lv_at hl 0 rfl) ?_
  refine lv_if_lt (tgt := 49) hx hb dX10_append_4 (by decide) (fun c_0 => absurd c_0 (by decide)) (fun c_0 => ?_)
  refine lv_aload_n hx hb dX10_append_7 rfl (lv_at hl 1 rfl) ?_
  refine va_get (D := (dC, dI)) (ci := 10) (v := .int 8) (C := RX10) (T := TX10) (N := 10) hx hb hts i_X10 hown hK hP 1 rfl rfl 1 (by decide) (hts _ q_6) (fun _ h9 => h9) rfl dX10_append_8 ?_
  refine lv_sipush (v := 1600) hx hb dX10_append_11 (by decide) ?_
  refine lv_icmp_ge (tgt := 49) hx hb dX10_append_14 (by decide) (fun c_0 => absurd c_0 (by decide)) (fun c_0 => ?_)
  refine lv_aload_n hx hb dX10_append_17 rfl (lv_at hl 1 rfl) ?_
  refine va_get (D := (dC, dI)) (ci := 10) (v := .ref (r 18)) (C := RX10) (T := TX10) (N := 10) hx hb hts i_X10 hown hK hP 1 rfl rfl 0 (by decide) (hts _ q_5) (fun _ h9 => h9) rfl dX10_append_18 ?_
  refine lv_aload_n hx hb dX10_append_21 rfl (lv_at hl 1 rfl) ?_
  refine va_get (D := (dC, dI)) (ci := 10) (v := .int 8) (C := RX10) (T := TX10) (N := 10) hx hb hts i_X10 hown hK hP 1 rfl rfl 1 (by decide) (hts _ q_6) (fun _ h9 => h9) rfl dX10_append_22 ?_
  refine lv_iload_n hx hb dX10_append_25 rfl (lv_at hl 2 rfl) ?_
  refine lv_iload_n hx hb dX10_append_26 rfl (lv_at hl 0 rfl) ?_
  refine lv_ishr hx hb dX10_append_27 ?_
  refine lv_topi (fun x_516 ex_516 => ?_)
  refine lv_sipush (v := 255) hx hb dX10_append_28 (by decide) ?_
  refine lv_iand hx hb dX10_append_31 ?_
  refine lv_topi (fun x_517 ex_517 => ?_)
  refine va_iast hx hb hK hP hD hS 2 0 rfl rfl (vpi (by decide)) dX10_append_32 (fun H locs hP hD hS => ?_)
  obtain ⟨f518, hP, hD⟩ : ∃ f : Nat → Int32, va_P (dC, dI) vwCl (wd_519 r k f) H ∧ va_D A (wd_519 r k f) := ⟨_, hP, hD⟩
  have hP : va_P (dC, dI) vwCl (wd_531 r k f518) H := hP
  have hD : va_D A (wd_531 r k f518) := hD
  refine lv_aload_n hx hb dX10_append_33 rfl (lv_at hl 1 rfl) ?_
  refine lv_dup hx hb dX10_append_34 rfl ?_
  refine va_get (D := (dC, dI)) (ci := 10) (v := .int 8) (C := RX10) (T := TX10) (N := 10) hx hb hts i_X10 hown hK hP 1 rfl rfl 1 (by decide) (hts _ q_6) (fun _ h9 => h9) rfl dX10_append_35 ?_
  refine lv_iconst (v := 1) hx hb dX10_append_38 (by decide) ?_
  refine lv_iadd hx hb dX10_append_39 ?_
  refine lv_topi (fun x_519 ex_519 => ?_)
  obtain rfl : x_519 = 9 := ex_519.trans (by decide)
  refine va_put (D := (dC, dI)) (ci := 10) (v := .int 9) (ty := tyX10 1) (C := RX10) (T := TX10) (N := 10) hx hb hts i_X10 tyX10 tyX10_ok nmX10 hown hK hP hD hS 1 rfl rfl 1 (by decide) (hts _ q_6) (fun _ h9 => h9) rfl (tyX10_ok 1 (by decide)) rfl rfl (Nat.le_of_ble_eq_true rfl) dX10_append_40 (fun H locs hP hD hS => ?_)
  have hP : va_P (dC, dI) vwCl (wd_532 r k f518) H := hP
  have hD : va_D A (wd_532 r k f518) := hD
  refine lv_iinc (v := 16) (lv' := [(2, .int 16), (0, .ref (r 1)), (1, .int p0)]) hx hb dX10_append_43 hl (k := 0) rfl (by decide) (by decide) rfl (fun ls hl => ?_)
  refine lv_goto (tgt := 3) hx hb dX10_append_46 (by decide) ?_
  refine lv_iload_n hx hb dX10_append_3 rfl (lv_at hl 0 rfl) ?_
  refine lv_if_lt (tgt := 49) hx hb dX10_append_4 (by decide) (fun c_0 => absurd c_0 (by decide)) (fun c_0 => ?_)
  refine lv_aload_n hx hb dX10_append_7 rfl (lv_at hl 1 rfl) ?_
  refine va_get (D := (dC, dI)) (ci := 10) (v := .int 9) (C := RX10) (T := TX10) (N := 10) hx hb hts i_X10 hown hK hP 1 rfl rfl 1 (by decide) (hts _ q_6) (fun _ h9 => h9) rfl dX10_append_8 ?_
  refine lv_sipush (v := 1600) hx hb dX10_append_11 (by decide) ?_
  refine lv_icmp_ge (tgt := 49) hx hb dX10_append_14 (by decide) (fun c_0 => absurd c_0 (by decide)) (fun c_0 => ?_)
  refine lv_aload_n hx hb dX10_append_17 rfl (lv_at hl 1 rfl) ?_
  refine va_get (D := (dC, dI)) (ci := 10) (v := .ref (r 18)) (C := RX10) (T := TX10) (N := 10) hx hb hts i_X10 hown hK hP 1 rfl rfl 0 (by decide) (hts _ q_5) (fun _ h9 => h9) rfl dX10_append_18 ?_
  refine lv_aload_n hx hb dX10_append_21 rfl (lv_at hl 1 rfl) ?_
  refine va_get (D := (dC, dI)) (ci := 10) (v := .int 9) (C := RX10) (T := TX10) (N := 10) hx hb hts i_X10 hown hK hP 1 rfl rfl 1 (by decide) (hts _ q_6) (fun _ h9 => h9) rfl dX10_append_22 ?_
  refine lv_iload_n hx hb dX10_append_25 rfl (lv_at hl 2 rfl) ?_
  refine lv_iload_n hx hb dX10_append_26 rfl (lv_at hl 0 rfl) ?_
  refine lv_ishr hx hb dX10_append_27 ?_
  refine lv_topi (fun x_520 ex_520 => ?_)
  refine lv_sipush (v := 255) hx hb dX10_append_28 (by decide) ?_
  refine lv_iand hx hb dX10_append_31 ?_
  refine lv_topi (fun x_521 ex_521 => ?_)
  refine va_iast hx hb hK hP hD hS 2 0 rfl rfl (vpi (by decide)) dX10_append_32 (fun H locs hP hD hS => ?_)
  obtain ⟨f522, hP, hD⟩ : ∃ f : Nat → Int32, va_P (dC, dI) vwCl (wd_522 r k f) H ∧ va_D A (wd_522 r k f) := ⟨_, hP, hD⟩
  have hP : va_P (dC, dI) vwCl (wd_533 r k f522) H := hP
  have hD : va_D A (wd_533 r k f522) := hD
  refine lv_aload_n hx hb dX10_append_33 rfl (lv_at hl 1 rfl) ?_
  refine lv_dup hx hb dX10_append_34 rfl ?_
  refine va_get (D := (dC, dI)) (ci := 10) (v := .int 9) (C := RX10) (T := TX10) (N := 10) hx hb hts i_X10 hown hK hP 1 rfl rfl 1 (by decide) (hts _ q_6) (fun _ h9 => h9) rfl dX10_append_35 ?_
  refine lv_iconst (v := 1) hx hb dX10_append_38 (by decide) ?_
  refine lv_iadd hx hb dX10_append_39 ?_
  refine lv_topi (fun x_523 ex_523 => ?_)
  obtain rfl : x_523 = 10 := ex_523.trans (by decide)
  refine va_put (D := (dC, dI)) (ci := 10) (v := .int 10) (ty := tyX10 1) (C := RX10) (T := TX10) (N := 10) hx hb hts i_X10 tyX10 tyX10_ok nmX10 hown hK hP hD hS 1 rfl rfl 1 (by decide) (hts _ q_6) (fun _ h9 => h9) rfl (tyX10_ok 1 (by decide)) rfl rfl (Nat.le_of_ble_eq_true rfl) dX10_append_40 (fun H locs hP hD hS => ?_)
  have hP : va_P (dC, dI) vwCl (wd_534 r k f522) H := hP
  have hD : va_D A (wd_534 r k f522) := hD
  refine lv_iinc (v := 8) (lv' := [(2, .int 8), (0, .ref (r 1)), (1, .int p0)]) hx hb dX10_append_43 hl (k := 0) rfl (by decide) (by decide) rfl (fun ls hl => ?_)
  refine lv_goto (tgt := 3) hx hb dX10_append_46 (by decide) ?_
  refine lv_iload_n hx hb dX10_append_3 rfl (lv_at hl 0 rfl) ?_
  refine lv_if_lt (tgt := 49) hx hb dX10_append_4 (by decide) (fun c_0 => absurd c_0 (by decide)) (fun c_0 => ?_)
  refine lv_aload_n hx hb dX10_append_7 rfl (lv_at hl 1 rfl) ?_
  refine va_get (D := (dC, dI)) (ci := 10) (v := .int 10) (C := RX10) (T := TX10) (N := 10) hx hb hts i_X10 hown hK hP 1 rfl rfl 1 (by decide) (hts _ q_6) (fun _ h9 => h9) rfl dX10_append_8 ?_
  refine lv_sipush (v := 1600) hx hb dX10_append_11 (by decide) ?_
  refine lv_icmp_ge (tgt := 49) hx hb dX10_append_14 (by decide) (fun c_0 => absurd c_0 (by decide)) (fun c_0 => ?_)
  refine lv_aload_n hx hb dX10_append_17 rfl (lv_at hl 1 rfl) ?_
  refine va_get (D := (dC, dI)) (ci := 10) (v := .ref (r 18)) (C := RX10) (T := TX10) (N := 10) hx hb hts i_X10 hown hK hP 1 rfl rfl 0 (by decide) (hts _ q_5) (fun _ h9 => h9) rfl dX10_append_18 ?_
  refine lv_aload_n hx hb dX10_append_21 rfl (lv_at hl 1 rfl) ?_
  refine va_get (D := (dC, dI)) (ci := 10) (v := .int 10) (C := RX10) (T := TX10) (N := 10) hx hb hts i_X10 hown hK hP 1 rfl rfl 1 (by decide) (hts _ q_6) (fun _ h9 => h9) rfl dX10_append_22 ?_
  refine lv_iload_n hx hb dX10_append_25 rfl (lv_at hl 2 rfl) ?_
  refine lv_iload_n hx hb dX10_append_26 rfl (lv_at hl 0 rfl) ?_
  refine lv_ishr hx hb dX10_append_27 ?_
  refine lv_topi (fun x_524 ex_524 => ?_)
  refine lv_sipush (v := 255) hx hb dX10_append_28 (by decide) ?_
  refine lv_iand hx hb dX10_append_31 ?_
  refine lv_topi (fun x_525 ex_525 => ?_)
  refine va_iast hx hb hK hP hD hS 2 0 rfl rfl (vpi (by decide)) dX10_append_32 (fun H locs hP hD hS => ?_)
  obtain ⟨f526, hP, hD⟩ : ∃ f : Nat → Int32, va_P (dC, dI) vwCl (wd_525 r k f) H ∧ va_D A (wd_525 r k f) := ⟨_, hP, hD⟩
  have hP : va_P (dC, dI) vwCl (wd_535 r k f526) H := hP
  have hD : va_D A (wd_535 r k f526) := hD
  refine lv_aload_n hx hb dX10_append_33 rfl (lv_at hl 1 rfl) ?_
  refine lv_dup hx hb dX10_append_34 rfl ?_
  refine va_get (D := (dC, dI)) (ci := 10) (v := .int 10) (C := RX10) (T := TX10) (N := 10) hx hb hts i_X10 hown hK hP 1 rfl rfl 1 (by decide) (hts _ q_6) (fun _ h9 => h9) rfl dX10_append_35 ?_
  refine lv_iconst (v := 1) hx hb dX10_append_38 (by decide) ?_
  refine lv_iadd hx hb dX10_append_39 ?_
  refine lv_topi (fun x_527 ex_527 => ?_)
  obtain rfl : x_527 = 11 := ex_527.trans (by decide)
  refine va_put (D := (dC, dI)) (ci := 10) (v := .int 11) (ty := tyX10 1) (C := RX10) (T := TX10) (N := 10) hx hb hts i_X10 tyX10 tyX10_ok nmX10 hown hK hP hD hS 1 rfl rfl 1 (by decide) (hts _ q_6) (fun _ h9 => h9) rfl (tyX10_ok 1 (by decide)) rfl rfl (Nat.le_of_ble_eq_true rfl) dX10_append_40 (fun H locs hP hD hS => ?_)
  have hP : va_P (dC, dI) vwCl (wd_536 r k f526) H := hP
  have hD : va_D A (wd_536 r k f526) := hD
  refine lv_iinc (v := 0) (lv' := [(2, .int 0), (0, .ref (r 1)), (1, .int p0)]) hx hb dX10_append_43 hl (k := 0) rfl (by decide) (by decide) rfl (fun ls hl => ?_)
  refine lv_goto (tgt := 3) hx hb dX10_append_46 (by decide) ?_
  refine lv_iload_n hx hb dX10_append_3 rfl (lv_at hl 0 rfl) ?_
  refine lv_if_lt (tgt := 49) hx hb dX10_append_4 (by decide) (fun c_0 => absurd c_0 (by decide)) (fun c_0 => ?_)
  refine lv_aload_n hx hb dX10_append_7 rfl (lv_at hl 1 rfl) ?_
  refine va_get (D := (dC, dI)) (ci := 10) (v := .int 11) (C := RX10) (T := TX10) (N := 10) hx hb hts i_X10 hown hK hP 1 rfl rfl 1 (by decide) (hts _ q_6) (fun _ h9 => h9) rfl dX10_append_8 ?_
  refine lv_sipush (v := 1600) hx hb dX10_append_11 (by decide) ?_
  refine lv_icmp_ge (tgt := 49) hx hb dX10_append_14 (by decide) (fun c_0 => absurd c_0 (by decide)) (fun c_0 => ?_)
  refine lv_aload_n hx hb dX10_append_17 rfl (lv_at hl 1 rfl) ?_
  refine va_get (D := (dC, dI)) (ci := 10) (v := .ref (r 18)) (C := RX10) (T := TX10) (N := 10) hx hb hts i_X10 hown hK hP 1 rfl rfl 0 (by decide) (hts _ q_5) (fun _ h9 => h9) rfl dX10_append_18 ?_
  refine lv_aload_n hx hb dX10_append_21 rfl (lv_at hl 1 rfl) ?_
  refine va_get (D := (dC, dI)) (ci := 10) (v := .int 11) (C := RX10) (T := TX10) (N := 10) hx hb hts i_X10 hown hK hP 1 rfl rfl 1 (by decide) (hts _ q_6) (fun _ h9 => h9) rfl dX10_append_22 ?_
  refine lv_iload_n hx hb dX10_append_25 rfl (lv_at hl 2 rfl) ?_
  refine lv_iload_n hx hb dX10_append_26 rfl (lv_at hl 0 rfl) ?_
  refine lv_ishr hx hb dX10_append_27 ?_
  refine lv_topi (fun x_528 ex_528 => ?_)
  refine lv_sipush (v := 255) hx hb dX10_append_28 (by decide) ?_
  refine lv_iand hx hb dX10_append_31 ?_
  refine lv_topi (fun x_529 ex_529 => ?_)
  refine va_iast hx hb hK hP hD hS 2 0 rfl rfl (vpi (by decide)) dX10_append_32 (fun H locs hP hD hS => ?_)
  obtain ⟨f530, hP, hD⟩ : ∃ f : Nat → Int32, va_P (dC, dI) vwCl (wd_528 r k f) H ∧ va_D A (wd_528 r k f) := ⟨_, hP, hD⟩
  have hP : va_P (dC, dI) vwCl (wd_537 r k f530) H := hP
  have hD : va_D A (wd_537 r k f530) := hD
  refine lv_aload_n hx hb dX10_append_33 rfl (lv_at hl 1 rfl) ?_
  refine lv_dup hx hb dX10_append_34 rfl ?_
  refine va_get (D := (dC, dI)) (ci := 10) (v := .int 11) (C := RX10) (T := TX10) (N := 10) hx hb hts i_X10 hown hK hP 1 rfl rfl 1 (by decide) (hts _ q_6) (fun _ h9 => h9) rfl dX10_append_35 ?_
  refine lv_iconst (v := 1) hx hb dX10_append_38 (by decide) ?_
  refine lv_iadd hx hb dX10_append_39 ?_
  refine lv_topi (fun x_531 ex_531 => ?_)
  obtain rfl : x_531 = 12 := ex_531.trans (by decide)
  refine va_put (D := (dC, dI)) (ci := 10) (v := .int 12) (ty := tyX10 1) (C := RX10) (T := TX10) (N := 10) hx hb hts i_X10 tyX10 tyX10_ok nmX10 hown hK hP hD hS 1 rfl rfl 1 (by decide) (hts _ q_6) (fun _ h9 => h9) rfl (tyX10_ok 1 (by decide)) rfl rfl (Nat.le_of_ble_eq_true rfl) dX10_append_40 (fun H locs hP hD hS => ?_)
  have hP : va_P (dC, dI) vwCl (wd_538 r k f530) H := hP
  have hD : va_D A (wd_538 r k f530) := hD
  refine lv_iinc (v := (-8)) (lv' := [(2, .int (-8)), (0, .ref (r 1)), (1, .int p0)]) hx hb dX10_append_43 hl (k := 0) rfl (by decide) (by decide) rfl (fun ls hl => ?_)
  refine lv_goto (tgt := 3) hx hb dX10_append_46 (by decide) ?_
  refine lv_iload_n hx hb dX10_append_3 rfl (lv_at hl 0 rfl) ?_
  refine lv_if_lt (tgt := 49) hx hb dX10_append_4 (by decide) (fun c_0 => ?_) (fun c_0 => absurd c_0 (by decide))
  refine W.widen (k := 0) (n := 0) (Nat.le_of_ble_eq_true rfl) (Nat.le_of_ble_eq_true rfl) ?_
  have hP9 := hP.sub (ws' := (wd_538 r k f530)) [0, 1, 2, 3, 4, 5, 6, 7, 8, 9, 10, 11, 12, 13] rfl
  have hD9 := hD.sub (ws' := (wd_538 r k f530)) [0, 1, 2, 3, 4, 5, 6, 7, 8, 9, 10, 11, 12, 13] (by decide) rfl
  have hK9 := hK.sub (tys' := [((k 0), .int), ((k 1), .int), ((k 2), .int)]) [0, 1, 2] rfl
  exact W.vret hx hb hr (fun t ht hW => ⟨⟨(), rfl, trivial, f530, by rw [ht]; exact hP9, va_K.moved hW.alike hK9, hD9⟩, hS.F ht⟩) hS.2.2 dX10_append_49
def wd_540 (r : Nat → Nat) (k : Nat → ClassId) (f533 : Nat → Int32) : va_W := [((r 0), .inr (11, [.ref (r 1), .ref (r 2), .ref (r 3), .ref (r 4), .ref (r 5), .ref (r 6), .ref (r 7), .ref (r 8), .ref (r 9), .ref (r 10), .ref (r 11), .ref (r 12), .ref (r 13), .ref (r 14), .ref (r 15), .int 0, .int 0, .ref (r 16), .int (-1), .ref (r 17)])), ((r 1), .inr (10, [.ref (r 18), .int 12, .int 0, .int 0, .int (-1), .int (-1), .long 0, .int 0, .int 0, .int (-1)])), ((r 18), .inl ((k 0), 1600, .inl f533)), ((r 14), .inl ((k 1), 7, .inl (fun _ => 0))), ((r 4), .inr (8, [.int 0, .int 0, .int 0, .ref (r 19), .int 0, .int 0, .ref (r 20), .int 0, .int 0, .int 0, .int 0, .int 0, .int 0, .ref (r 21)])), ((r 2), .inr (2, [.int 0, .ref (r 22), .ref (r 23), .ref (r 24)])), ((r 3), .inr (2, [.int 0, .ref (r 25), .ref (r 26), .ref (r 27)])), ((r 5), .inr (8, [.int 0, .int 0, .int 0, .ref (r 28), .int 0, .int 0, .ref (r 29), .int 0, .int 0, .int 0, .int 0, .int 0, .int 0, .ref (r 30)])), ((r 28), .inl ((k 2), 168, .inl (fun _ => 0))), ((r 8), .inr (1, [.ref (r 1), .ref (r 3), .ref (r 5), .ref (r 31), .ref (r 32), .int 0, .int 0, .int 3047])), ((r 10), .inr (5, [.ref (r 4), .ref (r 2), .ref (r 7), .ref (r 9), .ref (r 33), .ref (r 34), .int 0, .int 0, .int 0, .int 0, .int (-1)])), ((r 11), .inr (0, [.ref (r 2), .ref (r 7), .long 1])), ((r 12), .inr (6, [.ref (r 7), .ref (r 35), .ref (r 36), .ref (r 37), .int 0, .ref (r 38), .int 0, .int (-1), .int (-1), .null, .null])), ((r 13), .inr (3, [.ref (r 2), .ref (r 39), .int 0]))]
def wd_541 (r : Nat → Nat) (k : Nat → ClassId) (f : Nat → Int32) : va_W := [((r 0), .inr (11, [.ref (r 1), .ref (r 2), .ref (r 3), .ref (r 4), .ref (r 5), .ref (r 6), .ref (r 7), .ref (r 8), .ref (r 9), .ref (r 10), .ref (r 11), .ref (r 12), .ref (r 13), .ref (r 14), .ref (r 15), .int 0, .int 0, .ref (r 16), .int (-1), .ref (r 17)])), ((r 1), .inr (10, [.ref (r 18), .int 12, .int 0, .int 0, .int (-1), .int (-1), .long 0, .int 0, .int 0, .int (-1)])), ((r 18), .inl ((k 0), 1600, .inl f)), ((r 14), .inl ((k 1), 7, .inl (fun _ => 0))), ((r 4), .inr (8, [.int 0, .int 0, .int 0, .ref (r 19), .int 0, .int 0, .ref (r 20), .int 0, .int 0, .int 0, .int 0, .int 0, .int 0, .ref (r 21)])), ((r 2), .inr (2, [.int 0, .ref (r 22), .ref (r 23), .ref (r 24)])), ((r 3), .inr (2, [.int 0, .ref (r 25), .ref (r 26), .ref (r 27)])), ((r 5), .inr (8, [.int 0, .int 0, .int 0, .ref (r 28), .int 0, .int 0, .ref (r 29), .int 0, .int 0, .int 0, .int 0, .int 0, .int 0, .ref (r 30)])), ((r 28), .inl ((k 2), 168, .inl (fun _ => 0))), ((r 8), .inr (1, [.ref (r 1), .ref (r 3), .ref (r 5), .ref (r 31), .ref (r 32), .int 0, .int 0, .int 3047])), ((r 10), .inr (5, [.ref (r 4), .ref (r 2), .ref (r 7), .ref (r 9), .ref (r 33), .ref (r 34), .int 0, .int 0, .int 0, .int 0, .int (-1)])), ((r 11), .inr (0, [.ref (r 2), .ref (r 7), .long 1])), ((r 12), .inr (6, [.ref (r 7), .ref (r 35), .ref (r 36), .ref (r 37), .int 0, .ref (r 38), .int 0, .int (-1), .int (-1), .null, .null])), ((r 13), .inr (3, [.ref (r 2), .ref (r 39), .int 0]))]
def wd_542 (r : Nat → Nat) (k : Nat → ClassId) (f536 : Nat → Int32) : va_W := [((r 0), .inr (11, [.ref (r 1), .ref (r 2), .ref (r 3), .ref (r 4), .ref (r 5), .ref (r 6), .ref (r 7), .ref (r 8), .ref (r 9), .ref (r 10), .ref (r 11), .ref (r 12), .ref (r 13), .ref (r 14), .ref (r 15), .int 0, .int 0, .ref (r 16), .int (-1), .ref (r 17)])), ((r 1), .inr (10, [.ref (r 18), .int 12, .int 0, .int 0, .int (-1), .int (-1), .long 0, .int 0, .int 0, .int (-1)])), ((r 18), .inl ((k 0), 1600, .inl f536)), ((r 14), .inl ((k 1), 7, .inl (fun _ => 0))), ((r 4), .inr (8, [.int 0, .int 0, .int 0, .ref (r 19), .int 0, .int 0, .ref (r 20), .int 0, .int 0, .int 0, .int 0, .int 0, .int 0, .ref (r 21)])), ((r 2), .inr (2, [.int 0, .ref (r 22), .ref (r 23), .ref (r 24)])), ((r 3), .inr (2, [.int 0, .ref (r 25), .ref (r 26), .ref (r 27)])), ((r 5), .inr (8, [.int 0, .int 0, .int 0, .ref (r 28), .int 0, .int 0, .ref (r 29), .int 0, .int 0, .int 0, .int 0, .int 0, .int 0, .ref (r 30)])), ((r 28), .inl ((k 2), 168, .inl (fun _ => 0))), ((r 8), .inr (1, [.ref (r 1), .ref (r 3), .ref (r 5), .ref (r 31), .ref (r 32), .int 0, .int 0, .int 3047])), ((r 10), .inr (5, [.ref (r 4), .ref (r 2), .ref (r 7), .ref (r 9), .ref (r 33), .ref (r 34), .int 0, .int 0, .int 0, .int 0, .int (-1)])), ((r 11), .inr (0, [.ref (r 2), .ref (r 7), .long 1])), ((r 12), .inr (6, [.ref (r 7), .ref (r 35), .ref (r 36), .ref (r 37), .int 0, .ref (r 38), .int 0, .int (-1), .int (-1), .null, .null])), ((r 13), .inr (3, [.ref (r 2), .ref (r 39), .int 0]))]
def wd_543 (r : Nat → Nat) (k : Nat → ClassId) (f536 : Nat → Int32) : va_W := [((r 0), .inr (11, [.ref (r 1), .ref (r 2), .ref (r 3), .ref (r 4), .ref (r 5), .ref (r 6), .ref (r 7), .ref (r 8), .ref (r 9), .ref (r 10), .ref (r 11), .ref (r 12), .ref (r 13), .ref (r 14), .ref (r 15), .int 0, .int 0, .ref (r 16), .int (-1), .ref (r 17)])), ((r 1), .inr (10, [.ref (r 18), .int 13, .int 0, .int 0, .int (-1), .int (-1), .long 0, .int 0, .int 0, .int (-1)])), ((r 18), .inl ((k 0), 1600, .inl f536)), ((r 14), .inl ((k 1), 7, .inl (fun _ => 0))), ((r 4), .inr (8, [.int 0, .int 0, .int 0, .ref (r 19), .int 0, .int 0, .ref (r 20), .int 0, .int 0, .int 0, .int 0, .int 0, .int 0, .ref (r 21)])), ((r 2), .inr (2, [.int 0, .ref (r 22), .ref (r 23), .ref (r 24)])), ((r 3), .inr (2, [.int 0, .ref (r 25), .ref (r 26), .ref (r 27)])), ((r 5), .inr (8, [.int 0, .int 0, .int 0, .ref (r 28), .int 0, .int 0, .ref (r 29), .int 0, .int 0, .int 0, .int 0, .int 0, .int 0, .ref (r 30)])), ((r 28), .inl ((k 2), 168, .inl (fun _ => 0))), ((r 8), .inr (1, [.ref (r 1), .ref (r 3), .ref (r 5), .ref (r 31), .ref (r 32), .int 0, .int 0, .int 3047])), ((r 10), .inr (5, [.ref (r 4), .ref (r 2), .ref (r 7), .ref (r 9), .ref (r 33), .ref (r 34), .int 0, .int 0, .int 0, .int 0, .int (-1)])), ((r 11), .inr (0, [.ref (r 2), .ref (r 7), .long 1])), ((r 12), .inr (6, [.ref (r 7), .ref (r 35), .ref (r 36), .ref (r 37), .int 0, .ref (r 38), .int 0, .int (-1), .int (-1), .null, .null])), ((r 13), .inr (3, [.ref (r 2), .ref (r 39), .int 0]))]
def wd_544 (r : Nat → Nat) (k : Nat → ClassId) (f : Nat → Int32) : va_W := [((r 0), .inr (11, [.ref (r 1), .ref (r 2), .ref (r 3), .ref (r 4), .ref (r 5), .ref (r 6), .ref (r 7), .ref (r 8), .ref (r 9), .ref (r 10), .ref (r 11), .ref (r 12), .ref (r 13), .ref (r 14), .ref (r 15), .int 0, .int 0, .ref (r 16), .int (-1), .ref (r 17)])), ((r 1), .inr (10, [.ref (r 18), .int 13, .int 0, .int 0, .int (-1), .int (-1), .long 0, .int 0, .int 0, .int (-1)])), ((r 18), .inl ((k 0), 1600, .inl f)), ((r 14), .inl ((k 1), 7, .inl (fun _ => 0))), ((r 4), .inr (8, [.int 0, .int 0, .int 0, .ref (r 19), .int 0, .int 0, .ref (r 20), .int 0, .int 0, .int 0, .int 0, .int 0, .int 0, .ref (r 21)])), ((r 2), .inr (2, [.int 0, .ref (r 22), .ref (r 23), .ref (r 24)])), ((r 3), .inr (2, [.int 0, .ref (r 25), .ref (r 26), .ref (r 27)])), ((r 5), .inr (8, [.int 0, .int 0, .int 0, .ref (r 28), .int 0, .int 0, .ref (r 29), .int 0, .int 0, .int 0, .int 0, .int 0, .int 0, .ref (r 30)])), ((r 28), .inl ((k 2), 168, .inl (fun _ => 0))), ((r 8), .inr (1, [.ref (r 1), .ref (r 3), .ref (r 5), .ref (r 31), .ref (r 32), .int 0, .int 0, .int 3047])), ((r 10), .inr (5, [.ref (r 4), .ref (r 2), .ref (r 7), .ref (r 9), .ref (r 33), .ref (r 34), .int 0, .int 0, .int 0, .int 0, .int (-1)])), ((r 11), .inr (0, [.ref (r 2), .ref (r 7), .long 1])), ((r 12), .inr (6, [.ref (r 7), .ref (r 35), .ref (r 36), .ref (r 37), .int 0, .ref (r 38), .int 0, .int (-1), .int (-1), .null, .null])), ((r 13), .inr (3, [.ref (r 2), .ref (r 39), .int 0]))]
def wd_545 (r : Nat → Nat) (k : Nat → ClassId) (f540 : Nat → Int32) : va_W := [((r 0), .inr (11, [.ref (r 1), .ref (r 2), .ref (r 3), .ref (r 4), .ref (r 5), .ref (r 6), .ref (r 7), .ref (r 8), .ref (r 9), .ref (r 10), .ref (r 11), .ref (r 12), .ref (r 13), .ref (r 14), .ref (r 15), .int 0, .int 0, .ref (r 16), .int (-1), .ref (r 17)])), ((r 1), .inr (10, [.ref (r 18), .int 13, .int 0, .int 0, .int (-1), .int (-1), .long 0, .int 0, .int 0, .int (-1)])), ((r 18), .inl ((k 0), 1600, .inl f540)), ((r 14), .inl ((k 1), 7, .inl (fun _ => 0))), ((r 4), .inr (8, [.int 0, .int 0, .int 0, .ref (r 19), .int 0, .int 0, .ref (r 20), .int 0, .int 0, .int 0, .int 0, .int 0, .int 0, .ref (r 21)])), ((r 2), .inr (2, [.int 0, .ref (r 22), .ref (r 23), .ref (r 24)])), ((r 3), .inr (2, [.int 0, .ref (r 25), .ref (r 26), .ref (r 27)])), ((r 5), .inr (8, [.int 0, .int 0, .int 0, .ref (r 28), .int 0, .int 0, .ref (r 29), .int 0, .int 0, .int 0, .int 0, .int 0, .int 0, .ref (r 30)])), ((r 28), .inl ((k 2), 168, .inl (fun _ => 0))), ((r 8), .inr (1, [.ref (r 1), .ref (r 3), .ref (r 5), .ref (r 31), .ref (r 32), .int 0, .int 0, .int 3047])), ((r 10), .inr (5, [.ref (r 4), .ref (r 2), .ref (r 7), .ref (r 9), .ref (r 33), .ref (r 34), .int 0, .int 0, .int 0, .int 0, .int (-1)])), ((r 11), .inr (0, [.ref (r 2), .ref (r 7), .long 1])), ((r 12), .inr (6, [.ref (r 7), .ref (r 35), .ref (r 36), .ref (r 37), .int 0, .ref (r 38), .int 0, .int (-1), .int (-1), .null, .null])), ((r 13), .inr (3, [.ref (r 2), .ref (r 39), .int 0]))]
def wd_546 (r : Nat → Nat) (k : Nat → ClassId) (f540 : Nat → Int32) : va_W := [((r 0), .inr (11, [.ref (r 1), .ref (r 2), .ref (r 3), .ref (r 4), .ref (r 5), .ref (r 6), .ref (r 7), .ref (r 8), .ref (r 9), .ref (r 10), .ref (r 11), .ref (r 12), .ref (r 13), .ref (r 14), .ref (r 15), .int 0, .int 0, .ref (r 16), .int (-1), .ref (r 17)])), ((r 1), .inr (10, [.ref (r 18), .int 14, .int 0, .int 0, .int (-1), .int (-1), .long 0, .int 0, .int 0, .int (-1)])), ((r 18), .inl ((k 0), 1600, .inl f540)), ((r 14), .inl ((k 1), 7, .inl (fun _ => 0))), ((r 4), .inr (8, [.int 0, .int 0, .int 0, .ref (r 19), .int 0, .int 0, .ref (r 20), .int 0, .int 0, .int 0, .int 0, .int 0, .int 0, .ref (r 21)])), ((r 2), .inr (2, [.int 0, .ref (r 22), .ref (r 23), .ref (r 24)])), ((r 3), .inr (2, [.int 0, .ref (r 25), .ref (r 26), .ref (r 27)])), ((r 5), .inr (8, [.int 0, .int 0, .int 0, .ref (r 28), .int 0, .int 0, .ref (r 29), .int 0, .int 0, .int 0, .int 0, .int 0, .int 0, .ref (r 30)])), ((r 28), .inl ((k 2), 168, .inl (fun _ => 0))), ((r 8), .inr (1, [.ref (r 1), .ref (r 3), .ref (r 5), .ref (r 31), .ref (r 32), .int 0, .int 0, .int 3047])), ((r 10), .inr (5, [.ref (r 4), .ref (r 2), .ref (r 7), .ref (r 9), .ref (r 33), .ref (r 34), .int 0, .int 0, .int 0, .int 0, .int (-1)])), ((r 11), .inr (0, [.ref (r 2), .ref (r 7), .long 1])), ((r 12), .inr (6, [.ref (r 7), .ref (r 35), .ref (r 36), .ref (r 37), .int 0, .ref (r 38), .int 0, .int (-1), .int (-1), .null, .null])), ((r 13), .inr (3, [.ref (r 2), .ref (r 39), .int 0]))]
def wd_547 (r : Nat → Nat) (k : Nat → ClassId) (f : Nat → Int32) : va_W := [((r 0), .inr (11, [.ref (r 1), .ref (r 2), .ref (r 3), .ref (r 4), .ref (r 5), .ref (r 6), .ref (r 7), .ref (r 8), .ref (r 9), .ref (r 10), .ref (r 11), .ref (r 12), .ref (r 13), .ref (r 14), .ref (r 15), .int 0, .int 0, .ref (r 16), .int (-1), .ref (r 17)])), ((r 1), .inr (10, [.ref (r 18), .int 14, .int 0, .int 0, .int (-1), .int (-1), .long 0, .int 0, .int 0, .int (-1)])), ((r 18), .inl ((k 0), 1600, .inl f)), ((r 14), .inl ((k 1), 7, .inl (fun _ => 0))), ((r 4), .inr (8, [.int 0, .int 0, .int 0, .ref (r 19), .int 0, .int 0, .ref (r 20), .int 0, .int 0, .int 0, .int 0, .int 0, .int 0, .ref (r 21)])), ((r 2), .inr (2, [.int 0, .ref (r 22), .ref (r 23), .ref (r 24)])), ((r 3), .inr (2, [.int 0, .ref (r 25), .ref (r 26), .ref (r 27)])), ((r 5), .inr (8, [.int 0, .int 0, .int 0, .ref (r 28), .int 0, .int 0, .ref (r 29), .int 0, .int 0, .int 0, .int 0, .int 0, .int 0, .ref (r 30)])), ((r 28), .inl ((k 2), 168, .inl (fun _ => 0))), ((r 8), .inr (1, [.ref (r 1), .ref (r 3), .ref (r 5), .ref (r 31), .ref (r 32), .int 0, .int 0, .int 3047])), ((r 10), .inr (5, [.ref (r 4), .ref (r 2), .ref (r 7), .ref (r 9), .ref (r 33), .ref (r 34), .int 0, .int 0, .int 0, .int 0, .int (-1)])), ((r 11), .inr (0, [.ref (r 2), .ref (r 7), .long 1])), ((r 12), .inr (6, [.ref (r 7), .ref (r 35), .ref (r 36), .ref (r 37), .int 0, .ref (r 38), .int 0, .int (-1), .int (-1), .null, .null])), ((r 13), .inr (3, [.ref (r 2), .ref (r 39), .int 0]))]
def wd_548 (r : Nat → Nat) (k : Nat → ClassId) (f544 : Nat → Int32) : va_W := [((r 0), .inr (11, [.ref (r 1), .ref (r 2), .ref (r 3), .ref (r 4), .ref (r 5), .ref (r 6), .ref (r 7), .ref (r 8), .ref (r 9), .ref (r 10), .ref (r 11), .ref (r 12), .ref (r 13), .ref (r 14), .ref (r 15), .int 0, .int 0, .ref (r 16), .int (-1), .ref (r 17)])), ((r 1), .inr (10, [.ref (r 18), .int 14, .int 0, .int 0, .int (-1), .int (-1), .long 0, .int 0, .int 0, .int (-1)])), ((r 18), .inl ((k 0), 1600, .inl f544)), ((r 14), .inl ((k 1), 7, .inl (fun _ => 0))), ((r 4), .inr (8, [.int 0, .int 0, .int 0, .ref (r 19), .int 0, .int 0, .ref (r 20), .int 0, .int 0, .int 0, .int 0, .int 0, .int 0, .ref (r 21)])), ((r 2), .inr (2, [.int 0, .ref (r 22), .ref (r 23), .ref (r 24)])), ((r 3), .inr (2, [.int 0, .ref (r 25), .ref (r 26), .ref (r 27)])), ((r 5), .inr (8, [.int 0, .int 0, .int 0, .ref (r 28), .int 0, .int 0, .ref (r 29), .int 0, .int 0, .int 0, .int 0, .int 0, .int 0, .ref (r 30)])), ((r 28), .inl ((k 2), 168, .inl (fun _ => 0))), ((r 8), .inr (1, [.ref (r 1), .ref (r 3), .ref (r 5), .ref (r 31), .ref (r 32), .int 0, .int 0, .int 3047])), ((r 10), .inr (5, [.ref (r 4), .ref (r 2), .ref (r 7), .ref (r 9), .ref (r 33), .ref (r 34), .int 0, .int 0, .int 0, .int 0, .int (-1)])), ((r 11), .inr (0, [.ref (r 2), .ref (r 7), .long 1])), ((r 12), .inr (6, [.ref (r 7), .ref (r 35), .ref (r 36), .ref (r 37), .int 0, .ref (r 38), .int 0, .int (-1), .int (-1), .null, .null])), ((r 13), .inr (3, [.ref (r 2), .ref (r 39), .int 0]))]
def wd_549 (r : Nat → Nat) (k : Nat → ClassId) (f544 : Nat → Int32) : va_W := [((r 0), .inr (11, [.ref (r 1), .ref (r 2), .ref (r 3), .ref (r 4), .ref (r 5), .ref (r 6), .ref (r 7), .ref (r 8), .ref (r 9), .ref (r 10), .ref (r 11), .ref (r 12), .ref (r 13), .ref (r 14), .ref (r 15), .int 0, .int 0, .ref (r 16), .int (-1), .ref (r 17)])), ((r 1), .inr (10, [.ref (r 18), .int 15, .int 0, .int 0, .int (-1), .int (-1), .long 0, .int 0, .int 0, .int (-1)])), ((r 18), .inl ((k 0), 1600, .inl f544)), ((r 14), .inl ((k 1), 7, .inl (fun _ => 0))), ((r 4), .inr (8, [.int 0, .int 0, .int 0, .ref (r 19), .int 0, .int 0, .ref (r 20), .int 0, .int 0, .int 0, .int 0, .int 0, .int 0, .ref (r 21)])), ((r 2), .inr (2, [.int 0, .ref (r 22), .ref (r 23), .ref (r 24)])), ((r 3), .inr (2, [.int 0, .ref (r 25), .ref (r 26), .ref (r 27)])), ((r 5), .inr (8, [.int 0, .int 0, .int 0, .ref (r 28), .int 0, .int 0, .ref (r 29), .int 0, .int 0, .int 0, .int 0, .int 0, .int 0, .ref (r 30)])), ((r 28), .inl ((k 2), 168, .inl (fun _ => 0))), ((r 8), .inr (1, [.ref (r 1), .ref (r 3), .ref (r 5), .ref (r 31), .ref (r 32), .int 0, .int 0, .int 3047])), ((r 10), .inr (5, [.ref (r 4), .ref (r 2), .ref (r 7), .ref (r 9), .ref (r 33), .ref (r 34), .int 0, .int 0, .int 0, .int 0, .int (-1)])), ((r 11), .inr (0, [.ref (r 2), .ref (r 7), .long 1])), ((r 12), .inr (6, [.ref (r 7), .ref (r 35), .ref (r 36), .ref (r 37), .int 0, .ref (r 38), .int 0, .int (-1), .int (-1), .null, .null])), ((r 13), .inr (3, [.ref (r 2), .ref (r 39), .int 0]))]
def wd_550 (r : Nat → Nat) (k : Nat → ClassId) (f : Nat → Int32) : va_W := [((r 0), .inr (11, [.ref (r 1), .ref (r 2), .ref (r 3), .ref (r 4), .ref (r 5), .ref (r 6), .ref (r 7), .ref (r 8), .ref (r 9), .ref (r 10), .ref (r 11), .ref (r 12), .ref (r 13), .ref (r 14), .ref (r 15), .int 0, .int 0, .ref (r 16), .int (-1), .ref (r 17)])), ((r 1), .inr (10, [.ref (r 18), .int 15, .int 0, .int 0, .int (-1), .int (-1), .long 0, .int 0, .int 0, .int (-1)])), ((r 18), .inl ((k 0), 1600, .inl f)), ((r 14), .inl ((k 1), 7, .inl (fun _ => 0))), ((r 4), .inr (8, [.int 0, .int 0, .int 0, .ref (r 19), .int 0, .int 0, .ref (r 20), .int 0, .int 0, .int 0, .int 0, .int 0, .int 0, .ref (r 21)])), ((r 2), .inr (2, [.int 0, .ref (r 22), .ref (r 23), .ref (r 24)])), ((r 3), .inr (2, [.int 0, .ref (r 25), .ref (r 26), .ref (r 27)])), ((r 5), .inr (8, [.int 0, .int 0, .int 0, .ref (r 28), .int 0, .int 0, .ref (r 29), .int 0, .int 0, .int 0, .int 0, .int 0, .int 0, .ref (r 30)])), ((r 28), .inl ((k 2), 168, .inl (fun _ => 0))), ((r 8), .inr (1, [.ref (r 1), .ref (r 3), .ref (r 5), .ref (r 31), .ref (r 32), .int 0, .int 0, .int 3047])), ((r 10), .inr (5, [.ref (r 4), .ref (r 2), .ref (r 7), .ref (r 9), .ref (r 33), .ref (r 34), .int 0, .int 0, .int 0, .int 0, .int (-1)])), ((r 11), .inr (0, [.ref (r 2), .ref (r 7), .long 1])), ((r 12), .inr (6, [.ref (r 7), .ref (r 35), .ref (r 36), .ref (r 37), .int 0, .ref (r 38), .int 0, .int (-1), .int (-1), .null, .null])), ((r 13), .inr (3, [.ref (r 2), .ref (r 39), .int 0]))]
def wd_551 (r : Nat → Nat) (k : Nat → ClassId) (f548 : Nat → Int32) : va_W := [((r 0), .inr (11, [.ref (r 1), .ref (r 2), .ref (r 3), .ref (r 4), .ref (r 5), .ref (r 6), .ref (r 7), .ref (r 8), .ref (r 9), .ref (r 10), .ref (r 11), .ref (r 12), .ref (r 13), .ref (r 14), .ref (r 15), .int 0, .int 0, .ref (r 16), .int (-1), .ref (r 17)])), ((r 1), .inr (10, [.ref (r 18), .int 15, .int 0, .int 0, .int (-1), .int (-1), .long 0, .int 0, .int 0, .int (-1)])), ((r 18), .inl ((k 0), 1600, .inl f548)), ((r 14), .inl ((k 1), 7, .inl (fun _ => 0))), ((r 4), .inr (8, [.int 0, .int 0, .int 0, .ref (r 19), .int 0, .int 0, .ref (r 20), .int 0, .int 0, .int 0, .int 0, .int 0, .int 0, .ref (r 21)])), ((r 2), .inr (2, [.int 0, .ref (r 22), .ref (r 23), .ref (r 24)])), ((r 3), .inr (2, [.int 0, .ref (r 25), .ref (r 26), .ref (r 27)])), ((r 5), .inr (8, [.int 0, .int 0, .int 0, .ref (r 28), .int 0, .int 0, .ref (r 29), .int 0, .int 0, .int 0, .int 0, .int 0, .int 0, .ref (r 30)])), ((r 28), .inl ((k 2), 168, .inl (fun _ => 0))), ((r 8), .inr (1, [.ref (r 1), .ref (r 3), .ref (r 5), .ref (r 31), .ref (r 32), .int 0, .int 0, .int 3047])), ((r 10), .inr (5, [.ref (r 4), .ref (r 2), .ref (r 7), .ref (r 9), .ref (r 33), .ref (r 34), .int 0, .int 0, .int 0, .int 0, .int (-1)])), ((r 11), .inr (0, [.ref (r 2), .ref (r 7), .long 1])), ((r 12), .inr (6, [.ref (r 7), .ref (r 35), .ref (r 36), .ref (r 37), .int 0, .ref (r 38), .int 0, .int (-1), .int (-1), .null, .null])), ((r 13), .inr (3, [.ref (r 2), .ref (r 39), .int 0]))]
def wd_552 (r : Nat → Nat) (k : Nat → ClassId) (f548 : Nat → Int32) : va_W := [((r 0), .inr (11, [.ref (r 1), .ref (r 2), .ref (r 3), .ref (r 4), .ref (r 5), .ref (r 6), .ref (r 7), .ref (r 8), .ref (r 9), .ref (r 10), .ref (r 11), .ref (r 12), .ref (r 13), .ref (r 14), .ref (r 15), .int 0, .int 0, .ref (r 16), .int (-1), .ref (r 17)])), ((r 1), .inr (10, [.ref (r 18), .int 16, .int 0, .int 0, .int (-1), .int (-1), .long 0, .int 0, .int 0, .int (-1)])), ((r 18), .inl ((k 0), 1600, .inl f548)), ((r 14), .inl ((k 1), 7, .inl (fun _ => 0))), ((r 4), .inr (8, [.int 0, .int 0, .int 0, .ref (r 19), .int 0, .int 0, .ref (r 20), .int 0, .int 0, .int 0, .int 0, .int 0, .int 0, .ref (r 21)])), ((r 2), .inr (2, [.int 0, .ref (r 22), .ref (r 23), .ref (r 24)])), ((r 3), .inr (2, [.int 0, .ref (r 25), .ref (r 26), .ref (r 27)])), ((r 5), .inr (8, [.int 0, .int 0, .int 0, .ref (r 28), .int 0, .int 0, .ref (r 29), .int 0, .int 0, .int 0, .int 0, .int 0, .int 0, .ref (r 30)])), ((r 28), .inl ((k 2), 168, .inl (fun _ => 0))), ((r 8), .inr (1, [.ref (r 1), .ref (r 3), .ref (r 5), .ref (r 31), .ref (r 32), .int 0, .int 0, .int 3047])), ((r 10), .inr (5, [.ref (r 4), .ref (r 2), .ref (r 7), .ref (r 9), .ref (r 33), .ref (r 34), .int 0, .int 0, .int 0, .int 0, .int (-1)])), ((r 11), .inr (0, [.ref (r 2), .ref (r 7), .long 1])), ((r 12), .inr (6, [.ref (r 7), .ref (r 35), .ref (r 36), .ref (r 37), .int 0, .ref (r 38), .int 0, .int (-1), .int (-1), .null, .null])), ((r 13), .inr (3, [.ref (r 2), .ref (r 39), .int 0]))]
def wd_553 (r : Nat → Nat) (k : Nat → ClassId) (f552 : Nat → Int32) : va_W := [((r 0), .inr (11, [.ref (r 1), .ref (r 2), .ref (r 3), .ref (r 4), .ref (r 5), .ref (r 6), .ref (r 7), .ref (r 8), .ref (r 9), .ref (r 10), .ref (r 11), .ref (r 12), .ref (r 13), .ref (r 14), .ref (r 15), .int 0, .int 0, .ref (r 16), .int (-1), .ref (r 17)])), ((r 1), .inr (10, [.ref (r 18), .int 12, .int 0, .int 0, .int (-1), .int (-1), .long 0, .int 0, .int 0, .int (-1)])), ((r 18), .inl ((k 0), 1600, .inl f552)), ((r 14), .inl ((k 1), 7, .inl (fun _ => 0))), ((r 4), .inr (8, [.int 0, .int 0, .int 0, .ref (r 19), .int 0, .int 0, .ref (r 20), .int 0, .int 0, .int 0, .int 0, .int 0, .int 0, .ref (r 21)])), ((r 2), .inr (2, [.int 0, .ref (r 22), .ref (r 23), .ref (r 24)])), ((r 3), .inr (2, [.int 0, .ref (r 25), .ref (r 26), .ref (r 27)])), ((r 5), .inr (8, [.int 0, .int 0, .int 0, .ref (r 28), .int 0, .int 0, .ref (r 29), .int 0, .int 0, .int 0, .int 0, .int 0, .int 0, .ref (r 30)])), ((r 28), .inl ((k 2), 168, .inl (fun _ => 0))), ((r 8), .inr (1, [.ref (r 1), .ref (r 3), .ref (r 5), .ref (r 31), .ref (r 32), .int 0, .int 0, .int 3047])), ((r 10), .inr (5, [.ref (r 4), .ref (r 2), .ref (r 7), .ref (r 9), .ref (r 33), .ref (r 34), .int 0, .int 0, .int 0, .int 0, .int (-1)])), ((r 11), .inr (0, [.ref (r 2), .ref (r 7), .long 1])), ((r 12), .inr (6, [.ref (r 7), .ref (r 35), .ref (r 36), .ref (r 37), .int 0, .ref (r 38), .int 0, .int (-1), .int (-1), .null, .null])), ((r 13), .inr (3, [.ref (r 2), .ref (r 39), .int 0]))]
def wd_554 (r : Nat → Nat) (k : Nat → ClassId) (f552 : Nat → Int32) : va_W := [((r 0), .inr (11, [.ref (r 1), .ref (r 2), .ref (r 3), .ref (r 4), .ref (r 5), .ref (r 6), .ref (r 7), .ref (r 8), .ref (r 9), .ref (r 10), .ref (r 11), .ref (r 12), .ref (r 13), .ref (r 14), .ref (r 15), .int 0, .int 0, .ref (r 16), .int (-1), .ref (r 17)])), ((r 1), .inr (10, [.ref (r 18), .int 13, .int 0, .int 0, .int (-1), .int (-1), .long 0, .int 0, .int 0, .int (-1)])), ((r 18), .inl ((k 0), 1600, .inl f552)), ((r 14), .inl ((k 1), 7, .inl (fun _ => 0))), ((r 4), .inr (8, [.int 0, .int 0, .int 0, .ref (r 19), .int 0, .int 0, .ref (r 20), .int 0, .int 0, .int 0, .int 0, .int 0, .int 0, .ref (r 21)])), ((r 2), .inr (2, [.int 0, .ref (r 22), .ref (r 23), .ref (r 24)])), ((r 3), .inr (2, [.int 0, .ref (r 25), .ref (r 26), .ref (r 27)])), ((r 5), .inr (8, [.int 0, .int 0, .int 0, .ref (r 28), .int 0, .int 0, .ref (r 29), .int 0, .int 0, .int 0, .int 0, .int 0, .int 0, .ref (r 30)])), ((r 28), .inl ((k 2), 168, .inl (fun _ => 0))), ((r 8), .inr (1, [.ref (r 1), .ref (r 3), .ref (r 5), .ref (r 31), .ref (r 32), .int 0, .int 0, .int 3047])), ((r 10), .inr (5, [.ref (r 4), .ref (r 2), .ref (r 7), .ref (r 9), .ref (r 33), .ref (r 34), .int 0, .int 0, .int 0, .int 0, .int (-1)])), ((r 11), .inr (0, [.ref (r 2), .ref (r 7), .long 1])), ((r 12), .inr (6, [.ref (r 7), .ref (r 35), .ref (r 36), .ref (r 37), .int 0, .ref (r 38), .int 0, .int (-1), .int (-1), .null, .null])), ((r 13), .inr (3, [.ref (r 2), .ref (r 39), .int 0]))]
def wd_555 (r : Nat → Nat) (k : Nat → ClassId) (f556 : Nat → Int32) : va_W := [((r 0), .inr (11, [.ref (r 1), .ref (r 2), .ref (r 3), .ref (r 4), .ref (r 5), .ref (r 6), .ref (r 7), .ref (r 8), .ref (r 9), .ref (r 10), .ref (r 11), .ref (r 12), .ref (r 13), .ref (r 14), .ref (r 15), .int 0, .int 0, .ref (r 16), .int (-1), .ref (r 17)])), ((r 1), .inr (10, [.ref (r 18), .int 13, .int 0, .int 0, .int (-1), .int (-1), .long 0, .int 0, .int 0, .int (-1)])), ((r 18), .inl ((k 0), 1600, .inl f556)), ((r 14), .inl ((k 1), 7, .inl (fun _ => 0))), ((r 4), .inr (8, [.int 0, .int 0, .int 0, .ref (r 19), .int 0, .int 0, .ref (r 20), .int 0, .int 0, .int 0, .int 0, .int 0, .int 0, .ref (r 21)])), ((r 2), .inr (2, [.int 0, .ref (r 22), .ref (r 23), .ref (r 24)])), ((r 3), .inr (2, [.int 0, .ref (r 25), .ref (r 26), .ref (r 27)])), ((r 5), .inr (8, [.int 0, .int 0, .int 0, .ref (r 28), .int 0, .int 0, .ref (r 29), .int 0, .int 0, .int 0, .int 0, .int 0, .int 0, .ref (r 30)])), ((r 28), .inl ((k 2), 168, .inl (fun _ => 0))), ((r 8), .inr (1, [.ref (r 1), .ref (r 3), .ref (r 5), .ref (r 31), .ref (r 32), .int 0, .int 0, .int 3047])), ((r 10), .inr (5, [.ref (r 4), .ref (r 2), .ref (r 7), .ref (r 9), .ref (r 33), .ref (r 34), .int 0, .int 0, .int 0, .int 0, .int (-1)])), ((r 11), .inr (0, [.ref (r 2), .ref (r 7), .long 1])), ((r 12), .inr (6, [.ref (r 7), .ref (r 35), .ref (r 36), .ref (r 37), .int 0, .ref (r 38), .int 0, .int (-1), .int (-1), .null, .null])), ((r 13), .inr (3, [.ref (r 2), .ref (r 39), .int 0]))]
def wd_556 (r : Nat → Nat) (k : Nat → ClassId) (f556 : Nat → Int32) : va_W := [((r 0), .inr (11, [.ref (r 1), .ref (r 2), .ref (r 3), .ref (r 4), .ref (r 5), .ref (r 6), .ref (r 7), .ref (r 8), .ref (r 9), .ref (r 10), .ref (r 11), .ref (r 12), .ref (r 13), .ref (r 14), .ref (r 15), .int 0, .int 0, .ref (r 16), .int (-1), .ref (r 17)])), ((r 1), .inr (10, [.ref (r 18), .int 14, .int 0, .int 0, .int (-1), .int (-1), .long 0, .int 0, .int 0, .int (-1)])), ((r 18), .inl ((k 0), 1600, .inl f556)), ((r 14), .inl ((k 1), 7, .inl (fun _ => 0))), ((r 4), .inr (8, [.int 0, .int 0, .int 0, .ref (r 19), .int 0, .int 0, .ref (r 20), .int 0, .int 0, .int 0, .int 0, .int 0, .int 0, .ref (r 21)])), ((r 2), .inr (2, [.int 0, .ref (r 22), .ref (r 23), .ref (r 24)])), ((r 3), .inr (2, [.int 0, .ref (r 25), .ref (r 26), .ref (r 27)])), ((r 5), .inr (8, [.int 0, .int 0, .int 0, .ref (r 28), .int 0, .int 0, .ref (r 29), .int 0, .int 0, .int 0, .int 0, .int 0, .int 0, .ref (r 30)])), ((r 28), .inl ((k 2), 168, .inl (fun _ => 0))), ((r 8), .inr (1, [.ref (r 1), .ref (r 3), .ref (r 5), .ref (r 31), .ref (r 32), .int 0, .int 0, .int 3047])), ((r 10), .inr (5, [.ref (r 4), .ref (r 2), .ref (r 7), .ref (r 9), .ref (r 33), .ref (r 34), .int 0, .int 0, .int 0, .int 0, .int (-1)])), ((r 11), .inr (0, [.ref (r 2), .ref (r 7), .long 1])), ((r 12), .inr (6, [.ref (r 7), .ref (r 35), .ref (r 36), .ref (r 37), .int 0, .ref (r 38), .int 0, .int (-1), .int (-1), .null, .null])), ((r 13), .inr (3, [.ref (r 2), .ref (r 39), .int 0]))]
def wd_557 (r : Nat → Nat) (k : Nat → ClassId) (f560 : Nat → Int32) : va_W := [((r 0), .inr (11, [.ref (r 1), .ref (r 2), .ref (r 3), .ref (r 4), .ref (r 5), .ref (r 6), .ref (r 7), .ref (r 8), .ref (r 9), .ref (r 10), .ref (r 11), .ref (r 12), .ref (r 13), .ref (r 14), .ref (r 15), .int 0, .int 0, .ref (r 16), .int (-1), .ref (r 17)])), ((r 1), .inr (10, [.ref (r 18), .int 14, .int 0, .int 0, .int (-1), .int (-1), .long 0, .int 0, .int 0, .int (-1)])), ((r 18), .inl ((k 0), 1600, .inl f560)), ((r 14), .inl ((k 1), 7, .inl (fun _ => 0))), ((r 4), .inr (8, [.int 0, .int 0, .int 0, .ref (r 19), .int 0, .int 0, .ref (r 20), .int 0, .int 0, .int 0, .int 0, .int 0, .int 0, .ref (r 21)])), ((r 2), .inr (2, [.int 0, .ref (r 22), .ref (r 23), .ref (r 24)])), ((r 3), .inr (2, [.int 0, .ref (r 25), .ref (r 26), .ref (r 27)])), ((r 5), .inr (8, [.int 0, .int 0, .int 0, .ref (r 28), .int 0, .int 0, .ref (r 29), .int 0, .int 0, .int 0, .int 0, .int 0, .int 0, .ref (r 30)])), ((r 28), .inl ((k 2), 168, .inl (fun _ => 0))), ((r 8), .inr (1, [.ref (r 1), .ref (r 3), .ref (r 5), .ref (r 31), .ref (r 32), .int 0, .int 0, .int 3047])), ((r 10), .inr (5, [.ref (r 4), .ref (r 2), .ref (r 7), .ref (r 9), .ref (r 33), .ref (r 34), .int 0, .int 0, .int 0, .int 0, .int (-1)])), ((r 11), .inr (0, [.ref (r 2), .ref (r 7), .long 1])), ((r 12), .inr (6, [.ref (r 7), .ref (r 35), .ref (r 36), .ref (r 37), .int 0, .ref (r 38), .int 0, .int (-1), .int (-1), .null, .null])), ((r 13), .inr (3, [.ref (r 2), .ref (r 39), .int 0]))]
def wd_558 (r : Nat → Nat) (k : Nat → ClassId) (f560 : Nat → Int32) : va_W := [((r 0), .inr (11, [.ref (r 1), .ref (r 2), .ref (r 3), .ref (r 4), .ref (r 5), .ref (r 6), .ref (r 7), .ref (r 8), .ref (r 9), .ref (r 10), .ref (r 11), .ref (r 12), .ref (r 13), .ref (r 14), .ref (r 15), .int 0, .int 0, .ref (r 16), .int (-1), .ref (r 17)])), ((r 1), .inr (10, [.ref (r 18), .int 15, .int 0, .int 0, .int (-1), .int (-1), .long 0, .int 0, .int 0, .int (-1)])), ((r 18), .inl ((k 0), 1600, .inl f560)), ((r 14), .inl ((k 1), 7, .inl (fun _ => 0))), ((r 4), .inr (8, [.int 0, .int 0, .int 0, .ref (r 19), .int 0, .int 0, .ref (r 20), .int 0, .int 0, .int 0, .int 0, .int 0, .int 0, .ref (r 21)])), ((r 2), .inr (2, [.int 0, .ref (r 22), .ref (r 23), .ref (r 24)])), ((r 3), .inr (2, [.int 0, .ref (r 25), .ref (r 26), .ref (r 27)])), ((r 5), .inr (8, [.int 0, .int 0, .int 0, .ref (r 28), .int 0, .int 0, .ref (r 29), .int 0, .int 0, .int 0, .int 0, .int 0, .int 0, .ref (r 30)])), ((r 28), .inl ((k 2), 168, .inl (fun _ => 0))), ((r 8), .inr (1, [.ref (r 1), .ref (r 3), .ref (r 5), .ref (r 31), .ref (r 32), .int 0, .int 0, .int 3047])), ((r 10), .inr (5, [.ref (r 4), .ref (r 2), .ref (r 7), .ref (r 9), .ref (r 33), .ref (r 34), .int 0, .int 0, .int 0, .int 0, .int (-1)])), ((r 11), .inr (0, [.ref (r 2), .ref (r 7), .long 1])), ((r 12), .inr (6, [.ref (r 7), .ref (r 35), .ref (r 36), .ref (r 37), .int 0, .ref (r 38), .int 0, .int (-1), .int (-1), .null, .null])), ((r 13), .inr (3, [.ref (r 2), .ref (r 39), .int 0]))]
def wd_559 (r : Nat → Nat) (k : Nat → ClassId) (f564 : Nat → Int32) : va_W := [((r 0), .inr (11, [.ref (r 1), .ref (r 2), .ref (r 3), .ref (r 4), .ref (r 5), .ref (r 6), .ref (r 7), .ref (r 8), .ref (r 9), .ref (r 10), .ref (r 11), .ref (r 12), .ref (r 13), .ref (r 14), .ref (r 15), .int 0, .int 0, .ref (r 16), .int (-1), .ref (r 17)])), ((r 1), .inr (10, [.ref (r 18), .int 15, .int 0, .int 0, .int (-1), .int (-1), .long 0, .int 0, .int 0, .int (-1)])), ((r 18), .inl ((k 0), 1600, .inl f564)), ((r 14), .inl ((k 1), 7, .inl (fun _ => 0))), ((r 4), .inr (8, [.int 0, .int 0, .int 0, .ref (r 19), .int 0, .int 0, .ref (r 20), .int 0, .int 0, .int 0, .int 0, .int 0, .int 0, .ref (r 21)])), ((r 2), .inr (2, [.int 0, .ref (r 22), .ref (r 23), .ref (r 24)])), ((r 3), .inr (2, [.int 0, .ref (r 25), .ref (r 26), .ref (r 27)])), ((r 5), .inr (8, [.int 0, .int 0, .int 0, .ref (r 28), .int 0, .int 0, .ref (r 29), .int 0, .int 0, .int 0, .int 0, .int 0, .int 0, .ref (r 30)])), ((r 28), .inl ((k 2), 168, .inl (fun _ => 0))), ((r 8), .inr (1, [.ref (r 1), .ref (r 3), .ref (r 5), .ref (r 31), .ref (r 32), .int 0, .int 0, .int 3047])), ((r 10), .inr (5, [.ref (r 4), .ref (r 2), .ref (r 7), .ref (r 9), .ref (r 33), .ref (r 34), .int 0, .int 0, .int 0, .int 0, .int (-1)])), ((r 11), .inr (0, [.ref (r 2), .ref (r 7), .long 1])), ((r 12), .inr (6, [.ref (r 7), .ref (r 35), .ref (r 36), .ref (r 37), .int 0, .ref (r 38), .int 0, .int (-1), .int (-1), .null, .null])), ((r 13), .inr (3, [.ref (r 2), .ref (r 39), .int 0]))]
def wd_560 (r : Nat → Nat) (k : Nat → ClassId) (f564 : Nat → Int32) : va_W := [((r 0), .inr (11, [.ref (r 1), .ref (r 2), .ref (r 3), .ref (r 4), .ref (r 5), .ref (r 6), .ref (r 7), .ref (r 8), .ref (r 9), .ref (r 10), .ref (r 11), .ref (r 12), .ref (r 13), .ref (r 14), .ref (r 15), .int 0, .int 0, .ref (r 16), .int (-1), .ref (r 17)])), ((r 1), .inr (10, [.ref (r 18), .int 16, .int 0, .int 0, .int (-1), .int (-1), .long 0, .int 0, .int 0, .int (-1)])), ((r 18), .inl ((k 0), 1600, .inl f564)), ((r 14), .inl ((k 1), 7, .inl (fun _ => 0))), ((r 4), .inr (8, [.int 0, .int 0, .int 0, .ref (r 19), .int 0, .int 0, .ref (r 20), .int 0, .int 0, .int 0, .int 0, .int 0, .int 0, .ref (r 21)])), ((r 2), .inr (2, [.int 0, .ref (r 22), .ref (r 23), .ref (r 24)])), ((r 3), .inr (2, [.int 0, .ref (r 25), .ref (r 26), .ref (r 27)])), ((r 5), .inr (8, [.int 0, .int 0, .int 0, .ref (r 28), .int 0, .int 0, .ref (r 29), .int 0, .int 0, .int 0, .int 0, .int 0, .int 0, .ref (r 30)])), ((r 28), .inl ((k 2), 168, .inl (fun _ => 0))), ((r 8), .inr (1, [.ref (r 1), .ref (r 3), .ref (r 5), .ref (r 31), .ref (r 32), .int 0, .int 0, .int 3047])), ((r 10), .inr (5, [.ref (r 4), .ref (r 2), .ref (r 7), .ref (r 9), .ref (r 33), .ref (r 34), .int 0, .int 0, .int 0, .int 0, .int (-1)])), ((r 11), .inr (0, [.ref (r 2), .ref (r 7), .long 1])), ((r 12), .inr (6, [.ref (r 7), .ref (r 35), .ref (r 36), .ref (r 37), .int 0, .ref (r 38), .int 0, .int (-1), .int (-1), .null, .null])), ((r 13), .inr (3, [.ref (r 2), .ref (r 39), .int 0]))]
def wd_561 (r : Nat → Nat) (k : Nat → ClassId) (fz0 : Nat → Int32) : va_W := [((r 0), .inr (11, [.ref (r 1), .ref (r 2), .ref (r 3), .ref (r 4), .ref (r 5), .ref (r 6), .ref (r 7), .ref (r 8), .ref (r 9), .ref (r 10), .ref (r 11), .ref (r 12), .ref (r 13), .ref (r 14), .ref (r 15), .int 0, .int 0, .ref (r 16), .int (-1), .ref (r 17)])), ((r 1), .inr (10, [.ref (r 18), .int 12, .int 0, .int 0, .int (-1), .int (-1), .long 0, .int 0, .int 0, .int (-1)])), ((r 18), .inl ((k 0), 1600, .inl fz0)), ((r 14), .inl ((k 1), 7, .inl (fun _ => 0))), ((r 4), .inr (8, [.int 0, .int 0, .int 0, .ref (r 19), .int 0, .int 0, .ref (r 20), .int 0, .int 0, .int 0, .int 0, .int 0, .int 0, .ref (r 21)])), ((r 2), .inr (2, [.int 0, .ref (r 22), .ref (r 23), .ref (r 24)])), ((r 3), .inr (2, [.int 0, .ref (r 25), .ref (r 26), .ref (r 27)])), ((r 5), .inr (8, [.int 0, .int 0, .int 0, .ref (r 28), .int 0, .int 0, .ref (r 29), .int 0, .int 0, .int 0, .int 0, .int 0, .int 0, .ref (r 30)])), ((r 28), .inl ((k 2), 168, .inl (fun _ => 0))), ((r 8), .inr (1, [.ref (r 1), .ref (r 3), .ref (r 5), .ref (r 31), .ref (r 32), .int 0, .int 0, .int 3047])), ((r 10), .inr (5, [.ref (r 4), .ref (r 2), .ref (r 7), .ref (r 9), .ref (r 33), .ref (r 34), .int 0, .int 0, .int 0, .int 0, .int (-1)])), ((r 11), .inr (0, [.ref (r 2), .ref (r 7), .long 1])), ((r 12), .inr (6, [.ref (r 7), .ref (r 35), .ref (r 36), .ref (r 37), .int 0, .ref (r 38), .int 0, .int (-1), .int (-1), .null, .null])), ((r 13), .inr (3, [.ref (r 2), .ref (r 39), .int 0]))]
set_option maxHeartbeats 4000000 in
set_option maxRecDepth 100000 in
theorem c7_X10_append (l : Launch) (dC : Nat → ClassId) (dI : Nat → Nat → Nat) (r : Nat → Nat) (k : Nat → ClassId) (fz0 : Nat → Int32) (p0 : Int32) (sz : Nat) : Met l yX10_append (Cond.code yX10_append cX10_append 3 none :: wA) ({ frames := 0, cells := 0, slots := 0, locals := 0 }) (va_Pc [.ref (r 1), .int p0] (fun U => U.heap.size = sz ∧ va_P (dC, dI) vwCl (wd_561 r k fz0) U.heap ∧ va_K (dC, dI) vwCl [((k 0), .int), ((k 1), .int), ((k 2), .int)] U ∧ va_D (fun _ => True) (wd_561 r k fz0))) (va_Qv (fun (_ : Unit) => True) (fun _ t => ∃ f564 : Nat → Int32, va_P (dC, dI) vwCl (wd_560 r k f564) t.heap ∧ va_K (dC, dI) vwCl [((k 0), .int), ((k 1), .int), ((k 2), .int)] t ∧ va_D (va_A (wd_561 r k fz0) sz) (wd_560 r k f564)) (va_A (wd_561 r k fz0) sz)) 0 0 (va_A (wd_561 r k fz0) sz) := by
  refine Met.ofW (cc := cX10_append) (maxL := 3) (ret := none) (by decide) rfl ?_
  intro p e s m args below meth c s₁ B hml hv
  obtain ⟨rfl, hsz, hP, hK, hD0⟩ := hv
  have hx := B.exec
  have hb := B.bytes
  have hr := B.returns
  have hts : ∀ w ∈ wA, w.before [.ref (r 1), .int p0].toArray s = true := fun w h => atoms_spec (ws := Cond.code yX10_append cX10_append 3 none :: wA) B.pre w (List.mem_cons_of_mem _ h)
  have hown : s.vm.findClass RX10 = some m.cls := findClass_of_methodNamed B.named
  have hlocks := B.notSynchronized
  subst hsz
  have hD := hD0.self (sz := s.heap.size)
  generalize hAe : va_A (wd_561 r k fz0) s.heap.size = A at hD ⊢
  have hA : ∀ q : Nat, s.heap.size ≤ q → A q := fun q h => by rw [← hAe]; exact Or.inr h
  have hS : va_S A s.heap s.heap [] := va_S.rf
  have hl := lv_entry ([.ref (r 1), .int p0]) (n := 3) (Nat.le_of_ble_eq_true rfl)
  rw [lg_entry_eq]
  generalize (lg_sl ([.ref (r 1), .int p0]) ++ List.replicate (3 - (lg_sl ([.ref (r 1), .int p0])).length) Slot.unset).toArray = ls at hl ⊢
  have hl : lv_has ls 3 [(0, .ref (r 1)), (1, .int p0)] := hl
  refine lv_bipush (v := 24) hx hb dX10_append_0 (by decide) ?_
  refine lv_istore_n (lv' := [(2, .int 24), (0, .ref (r 1)), (1, .int p0)]) hx hb dX10_append_2 rfl hl (by decide) rfl (fun ls hl => ?_)
  refine lv_iload_n hx hb dX10_append_3 rfl (lv_at hl 0 rfl) ?_
  refine lv_if_lt (tgt := 49) hx hb dX10_append_4 (by decide) (fun c_0 => absurd c_0 (by decide)) (fun c_0 => ?_)
  refine lv_aload_n hx hb dX10_append_7 rfl (lv_at hl 1 rfl) ?_
  refine va_get (D := (dC, dI)) (ci := 10) (v := .int 12) (C := RX10) (T := TX10) (N := 10) hx hb hts i_X10 hown hK hP 1 rfl rfl 1 (by decide) (hts _ q_6) (fun _ h9 => h9) rfl dX10_append_8 ?_
  refine lv_sipush (v := 1600) hx hb dX10_append_11 (by decide) ?_
  refine lv_icmp_ge (tgt := 49) hx hb dX10_append_14 (by decide) (fun c_0 => absurd c_0 (by decide)) (fun c_0 => ?_)
  refine lv_aload_n hx hb dX10_append_17 rfl (lv_at hl 1 rfl) ?_
  refine va_get (D := (dC, dI)) (ci := 10) (v := .ref (r 18)) (C := RX10) (T := TX10) (N := 10) hx hb hts i_X10 hown hK hP 1 rfl rfl 0 (by decide) (hts _ q_5) (fun _ h9 => h9) rfl dX10_append_18 ?_
  refine lv_aload_n hx hb dX10_append_21 rfl (lv_at hl 1 rfl) ?_
  refine va_get (D := (dC, dI)) (ci := 10) (v := .int 12) (C := RX10) (T := TX10) (N := 10) hx hb hts i_X10 hown hK hP 1 rfl rfl 1 (by decide) (hts _ q_6) (fun _ h9 => h9) rfl dX10_append_22 ?_
  refine lv_iload_n hx hb dX10_append_25 rfl (lv_at hl 2 rfl) ?_
  refine lv_iload_n hx hb dX10_append_26 rfl (lv_at hl 0 rfl) ?_
  refine lv_ishr hx hb dX10_append_27 ?_
  refine lv_topi (fun x_550 ex_550 => ?_)
  refine lv_sipush (v := 255) hx hb dX10_append_28 (by decide) ?_
  refine lv_iand hx hb dX10_append_31 ?_
  refine lv_topi (fun x_551 ex_551 => ?_)
  refine va_iast hx hb hK hP hD hS 2 0 rfl rfl (vpi (by decide)) dX10_append_32 (fun H locs hP hD hS => ?_)
  obtain ⟨f552, hP, hD⟩ : ∃ f : Nat → Int32, va_P (dC, dI) vwCl (wd_541 r k f) H ∧ va_D A (wd_541 r k f) := ⟨_, hP, hD⟩
  have hP : va_P (dC, dI) vwCl (wd_553 r k f552) H := hP
  have hD : va_D A (wd_553 r k f552) := hD
  refine lv_aload_n hx hb dX10_append_33 rfl (lv_at hl 1 rfl) ?_
  refine lv_dup hx hb dX10_append_34 rfl ?_
  refine va_get (D := (dC, dI)) (ci := 10) (v := .int 12) (C := RX10) (T := TX10) (N := 10) hx hb hts i_X10 hown hK hP 1 rfl rfl 1 (by decide) (hts _ q_6) (fun _ h9 => h9) rfl dX10_append_35 ?_
  refine lv_iconst (v := 1) hx hb dX10_append_38 (by decide) ?_
  refine lv_iadd hx hb dX10_append_39 ?_
  refine lv_topi (fun x_553 ex_553 => ?_)
  obtain rfl : x_553 = 13 := ex_553.trans (by decide)
  refine va_put (D := (dC, dI)) (ci := 10) (v := .int 13) (ty := tyX10 1) (C := RX10) (T := TX10) (N := 10) hx hb hts i_X10 tyX10 tyX10_ok nmX10 hown hK hP hD hS 1 rfl rfl 1 (by decide) (hts _ q_6) (fun _ h9 => h9) rfl (tyX10_ok 1 (by decide)) rfl rfl (Nat.le_of_ble_eq_true rfl) dX10_append_40 (fun H locs hP hD hS => ?_)
  have hP : va_P (dC, dI) vwCl (wd_554 r k f552) H := hP
  have hD : va_D A (wd_554 r k f552) := hD
  refine lv_iinc (v := 16) (lv' := [(2, .int 16), (0, .ref (r 1)), (1, .int p0)]) hx hb dX10_append_43 hl (k := 0) rfl (by decide) (by decide) rfl (fun ls hl => ?_)
  refine lv_goto (tgt := 3) hx hb dX10_append_46 (by decide) ?_
  refine lv_iload_n hx hb dX10_append_3 rfl (lv_at hl 0 rfl) ?_
  refine lv_if_lt (tgt := 49) hx hb dX10_append_4 (by decide) (fun c_0 => absurd c_0 (by decide)) (fun c_0 => ?_)
  refine lv_aload_n hx hb dX10_append_7 rfl (lv_at hl 1 rfl) ?_
  refine va_get (D := (dC, dI)) (ci := 10) (v := .int 13) (C := RX10) (T := TX10) (N := 10) hx hb hts i_X10 hown hK hP 1 rfl rfl 1 (by decide) (hts _ q_6) (fun _ h9 => h9) rfl dX10_append_8 ?_
  refine lv_sipush (v := 1600) hx hb dX10_append_11 (by decide) ?_
  refine lv_icmp_ge (tgt := 49) hx hb dX10_append_14 (by decide) (fun c_0 => absurd c_0 (by decide)) (fun c_0 => ?_)
  refine lv_aload_n hx hb dX10_append_17 rfl (lv_at hl 1 rfl) ?_
  refine va_get (D := (dC, dI)) (ci := 10) (v := .ref (r 18)) (C := RX10) (T := TX10) (N := 10) hx hb hts i_X10 hown hK hP 1 rfl rfl 0 (by decide) (hts _ q_5) (fun _ h9 => h9) rfl dX10_append_18 ?_
  refine lv_aload_n hx hb dX10_append_21 rfl (lv_at hl 1 rfl) ?_
  refine va_get (D := (dC, dI)) (ci := 10) (v := .int 13) (C := RX10) (T := TX10) (N := 10) hx hb hts i_X10 hown hK hP 1 rfl rfl 1 (by decide) (hts _ q_6) (fun _ h9 => h9) rfl dX10_append_22 ?_
  refine lv_iload_n hx hb dX10_append_25 rfl (lv_at hl 2 rfl) ?_
  refine lv_iload_n hx hb dX10_append_26 rfl (lv_at hl 0 rfl) ?_
  refine lv_ishr hx hb dX10_append_27 ?_
  refine lv_topi (fun x_554 ex_554 => ?_)
  refine lv_sipush (v := 255) hx hb dX10_append_28 (by decide) ?_
  refine lv_iand hx hb dX10_append_31 ?_
  refine lv_topi (fun x_555 ex_555 => ?_)
  refine va_iast hx hb hK hP hD hS 2 0 rfl rfl (vpi (by decide)) dX10_append_32 (fun H locs hP hD hS => ?_)
  obtain ⟨f556, hP, hD⟩ : ∃ f : Nat → Int32, va_P (dC, dI) vwCl (wd_544 r k f) H ∧ va_D A (wd_544 r k f) := ⟨_, hP, hD⟩
  have hP : va_P (dC, dI) vwCl (wd_555 r k f556) H := hP
  have hD : va_D A (wd_555 r k f556) := hD
  refine lv_aload_n hx hb dX10_append_33 rfl (lv_at hl 1 rfl) ?_
  refine lv_dup hx hb dX10_append_34 rfl ?_
  refine va_get (D := (dC, dI)) (ci := 10) (v := .int 13) (C := RX10) (T := TX10) (N := 10) hx hb hts i_X10 hown hK hP 1 rfl rfl 1 (by decide) (hts _ q_6) (fun _ h9 => h9) rfl dX10_append_35 ?_
  refine lv_iconst (v := 1) hx hb dX10_append_38 (by decide) ?_
  refine lv_iadd hx hb dX10_append_39 ?_
  refine lv_topi (fun x_557 ex_557 => ?_)
  obtain rfl : x_557 = 14 := ex_557.trans (by decide)
  refine va_put (D := (dC, dI)) (ci := 10) (v := .int 14) (ty := tyX10 1) (C := RX10) (T := TX10) (N := 10) hx hb hts i_X10 tyX10 tyX10_ok nmX10 hown hK hP hD hS 1 rfl rfl 1 (by decide) (hts _ q_6) (fun _ h9 => h9) rfl (tyX10_ok 1 (by decide)) rfl rfl (Nat.le_of_ble_eq_true rfl) dX10_append_40 (fun H locs hP hD hS => ?_)
  have hP : va_P (dC, dI) vwCl (wd_556 r k f556) H := hP
  have hD : va_D A (wd_556 r k f556) := hD
  refine lv_iinc (v := 8) (lv' := [(2, .int 8), (0, .ref (r 1)), (1, .int p0)]) hx hb dX10_append_43 hl (k := 0) rfl (by decide) (by decide) rfl (fun ls hl => ?_)
  refine lv_goto (tgt := 3) hx hb dX10_append_46 (by decide) ?_
  refine lv_iload_n hx hb dX10_append_3 rfl (lv_at hl 0 rfl) ?_
  refine lv_if_lt (tgt := 49) hx hb dX10_append_4 (by decide) (fun c_0 => absurd c_0 (by decide)) (fun c_0 => ?_)
  refine lv_aload_n hx hb dX10_append_7 rfl (lv_at hl 1 rfl) ?_
  refine va_get (D := (dC, dI)) (ci := 10) (v := .int 14) (C := RX10) (T := TX10) (N := 10) hx hb hts i_X10 hown hK hP 1 rfl rfl 1 (by decide) (hts _ q_6) (fun _ h9 => h9) rfl dX10_append_8 ?_
  refine lv_sipush (v := 1600) hx hb dX10_append_11 (by decide) ?_
  refine lv_icmp_ge (tgt := 49) hx hb dX10_append_14 (by decide) (fun c_0 => absurd c_0 (by decide)) (fun c_0 => ?_)
  refine lv_aload_n hx hb dX10_append_17 rfl (lv_at hl 1 rfl) ?_
  refine va_get (D := (dC, dI)) (ci := 10) (v := .ref (r 18)) (C := RX10) (T := TX10) (N := 10) hx hb hts i_X10 hown hK hP 1 rfl rfl 0 (by decide) (hts _ q_5) (fun _ h9 => h9) rfl dX10_append_18 ?_
  refine lv_aload_n hx hb dX10_append_21 rfl (lv_at hl 1 rfl) ?_
  refine va_get (D := (dC, dI)) (ci := 10) (v := .int 14) (C := RX10) (T := TX10) (N := 10) hx hb hts i_X10 hown hK hP 1 rfl rfl 1 (by decide) (hts _ q_6) (fun _ h9 => h9) rfl dX10_append_22 ?_
  refine lv_iload_n hx hb dX10_append_25 rfl (lv_at hl 2 rfl) ?_
  refine lv_iload_n hx hb dX10_append_26 rfl (lv_at hl 0 rfl) ?_
  refine lv_ishr hx hb dX10_append_27 ?_
  refine lv_topi (fun x_558 ex_558 => ?_)
  refine lv_sipush (v := 255) hx hb dX10_append_28 (by decide) ?_
  refine lv_iand hx hb dX10_append_31 ?_
  refine lv_topi (fun x_559 ex_559 => ?_)
  refine va_iast hx hb hK hP hD hS 2 0 rfl rfl (vpi (by decide)) dX10_append_32 (fun H locs hP hD hS => ?_)
  obtain ⟨f560, hP, hD⟩ : ∃ f : Nat → Int32, va_P (dC, dI) vwCl (wd_547 r k f) H ∧ va_D A (wd_547 r k f) := ⟨_, hP, hD⟩
  have hP : va_P (dC, dI) vwCl (wd_557 r k f560) H := hP
  have hD : va_D A (wd_557 r k f560) := hD
  refine lv_aload_n hx hb dX10_append_33 rfl (lv_at hl 1 rfl) ?_
  refine lv_dup hx hb dX10_append_34 rfl ?_
  refine va_get (D := (dC, dI)) (ci := 10) (v := .int 14) (C := RX10) (T := TX10) (N := 10) hx hb hts i_X10 hown hK hP 1 rfl rfl 1 (by decide) (hts _ q_6) (fun _ h9 => h9) rfl dX10_append_35 ?_
  refine lv_iconst (v := 1) hx hb dX10_append_38 (by decide) ?_
  refine lv_iadd hx hb dX10_append_39 ?_
  refine lv_topi (fun x_561 ex_561 => ?_)
  obtain rfl : x_561 = 15 := ex_561.trans (by decide)
  refine va_put (D := (dC, dI)) (ci := 10) (v := .int 15) (ty := tyX10 1) (C := RX10) (T := TX10) (N := 10) hx hb hts i_X10 tyX10 tyX10_ok nmX10 hown hK hP hD hS 1 rfl rfl 1 (by decide) (hts _ q_6) (fun _ h9 => h9) rfl (tyX10_ok 1 (by decide)) rfl rfl (Nat.le_of_ble_eq_true rfl) dX10_append_40 (fun H locs hP hD hS => ?_)
  have hP : va_P (dC, dI) vwCl (wd_558 r k f560) H := hP
  have hD : va_D A (wd_558 r k f560) := hD
  refine lv_iinc (v := 0) (lv' := [(2, .int 0), (0, .ref (r 1)), (1, .int p0)]) hx hb dX10_append_43 hl (k := 0) rfl (by decide) (by decide) rfl (fun ls hl => ?_)
  refine lv_goto (tgt := 3) hx hb dX10_append_46 (by decide) ?_
  refine lv_iload_n hx hb dX10_append_3 rfl (lv_at hl 0 rfl) ?_
  refine lv_if_lt (tgt := 49) hx hb dX10_append_4 (by decide) (fun c_0 => absurd c_0 (by decide)) (fun c_0 => ?_)
  refine lv_aload_n hx hb dX10_append_7 rfl (lv_at hl 1 rfl) ?_
  refine va_get (D := (dC, dI)) (ci := 10) (v := .int 15) (C := RX10) (T := TX10) (N := 10) hx hb hts i_X10 hown hK hP 1 rfl rfl 1 (by decide) (hts _ q_6) (fun _ h9 => h9) rfl dX10_append_8 ?_
  refine lv_sipush (v := 1600) hx hb dX10_append_11 (by decide) ?_
  refine lv_icmp_ge (tgt := 49) hx hb dX10_append_14 (by decide) (fun c_0 => absurd c_0 (by decide)) (fun c_0 => ?_)
  refine lv_aload_n hx hb dX10_append_17 rfl (lv_at hl 1 rfl) ?_
  refine va_get (D := (dC, dI)) (ci := 10) (v := .ref (r 18)) (C := RX10) (T := TX10) (N := 10) hx hb hts i_X10 hown hK hP 1 rfl rfl 0 (by decide) (hts _ q_5) (fun _ h9 => h9) rfl dX10_append_18 ?_
  refine lv_aload_n hx hb dX10_append_21 rfl (lv_at hl 1 rfl) ?_
  refine va_get (D := (dC, dI)) (ci := 10) (v := .int 15) (C := RX10) (T := TX10) (N := 10) hx hb hts i_X10 hown hK hP 1 rfl rfl 1 (by decide) (hts _ q_6) (fun _ h9 => h9) rfl dX10_append_22 ?_
  refine lv_iload_n hx hb dX10_append_25 rfl (lv_at hl 2 rfl) ?_
  refine lv_iload_n hx hb dX10_append_26 rfl (lv_at hl 0 rfl) ?_
  refine lv_ishr hx hb dX10_append_27 ?_
  refine lv_topi (fun x_562 ex_562 => ?_)
  refine lv_sipush (v := 255) hx hb dX10_append_28 (by decide) ?_
  refine lv_iand hx hb dX10_append_31 ?_
  refine lv_topi (fun x_563 ex_563 => ?_)
  refine va_iast hx hb hK hP hD hS 2 0 rfl rfl (vpi (by decide)) dX10_append_32 (fun H locs hP hD hS => ?_)
  obtain ⟨f564, hP, hD⟩ : ∃ f : Nat → Int32, va_P (dC, dI) vwCl (wd_550 r k f) H ∧ va_D A (wd_550 r k f) := ⟨_, hP, hD⟩
  have hP : va_P (dC, dI) vwCl (wd_559 r k f564) H := hP
  have hD : va_D A (wd_559 r k f564) := hD
  refine lv_aload_n hx hb dX10_append_33 rfl (lv_at hl 1 rfl) ?_
  refine lv_dup hx hb dX10_append_34 rfl ?_
  refine va_get (D := (dC, dI)) (ci := 10) (v := .int 15) (C := RX10) (T := TX10) (N := 10) hx hb hts i_X10 hown hK hP 1 rfl rfl 1 (by decide) (hts _ q_6) (fun _ h9 => h9) rfl dX10_append_35 ?_
  refine lv_iconst (v := 1) hx hb dX10_append_38 (by decide) ?_
  refine lv_iadd hx hb dX10_append_39 ?_
  refine lv_topi (fun x_565 ex_565 => ?_)
  obtain rfl : x_565 = 16 := ex_565.trans (by decide)
  refine va_put (D := (dC, dI)) (ci := 10) (v := .int 16) (ty := tyX10 1) (C := RX10) (T := TX10) (N := 10) hx hb hts i_X10 tyX10 tyX10_ok nmX10 hown hK hP hD hS 1 rfl rfl 1 (by decide) (hts _ q_6) (fun _ h9 => h9) rfl (tyX10_ok 1 (by decide)) rfl rfl (Nat.le_of_ble_eq_true rfl) dX10_append_40 (fun H locs hP hD hS => ?_)
  have hP : va_P (dC, dI) vwCl (wd_560 r k f564) H := hP
  have hD : va_D A (wd_560 r k f564) := hD
  refine lv_iinc (v := (-8)) (lv' := [(2, .int (-8)), (0, .ref (r 1)), (1, .int p0)]) hx hb dX10_append_43 hl (k := 0) rfl (by decide) (by decide) rfl (fun ls hl => ?_)
  refine lv_goto (tgt := 3) hx hb dX10_append_46 (by decide) ?_
  refine lv_iload_n hx hb dX10_append_3 rfl (lv_at hl 0 rfl) ?_
  refine lv_if_lt (tgt := 49) hx hb dX10_append_4 (by decide) (fun c_0 => ?_) (fun c_0 => absurd c_0 (by decide))
  refine W.widen (k := 0) (n := 0) (Nat.le_of_ble_eq_true rfl) (Nat.le_of_ble_eq_true rfl) ?_
  have hP9 := hP.sub (ws' := (wd_560 r k f564)) [0, 1, 2, 3, 4, 5, 6, 7, 8, 9, 10, 11, 12, 13] rfl
  have hD9 := hD.sub (ws' := (wd_560 r k f564)) [0, 1, 2, 3, 4, 5, 6, 7, 8, 9, 10, 11, 12, 13] (by decide) rfl
  have hK9 := hK.sub (tys' := [((k 0), .int), ((k 1), .int), ((k 2), .int)]) [0, 1, 2] rfl
  exact W.vret hx hb hr (fun t ht hW => ⟨⟨(), rfl, trivial, f564, by rw [ht]; exact hP9, va_K.moved hW.alike hK9, hD9⟩, hS.F ht⟩) hS.2.2 dX10_append_49
def wd_562 (r : Nat → Nat) (k : Nat → ClassId) (f567 : Nat → Int32) : va_W := [((r 0), .inr (11, [.ref (r 1), .ref (r 2), .ref (r 3), .ref (r 4), .ref (r 5), .ref (r 6), .ref (r 7), .ref (r 8), .ref (r 9), .ref (r 10), .ref (r 11), .ref (r 12), .ref (r 13), .ref (r 14), .ref (r 15), .int 0, .int 0, .ref (r 16), .int (-1), .ref (r 17)])), ((r 1), .inr (10, [.ref (r 18), .int 16, .int 0, .int 0, .int (-1), .int (-1), .long 0, .int 0, .int 0, .int (-1)])), ((r 18), .inl ((k 0), 1600, .inl f567)), ((r 14), .inl ((k 1), 7, .inl (fun _ => 0))), ((r 4), .inr (8, [.int 0, .int 0, .int 0, .ref (r 19), .int 0, .int 0, .ref (r 20), .int 0, .int 0, .int 0, .int 0, .int 0, .int 0, .ref (r 21)])), ((r 2), .inr (2, [.int 0, .ref (r 22), .ref (r 23), .ref (r 24)])), ((r 3), .inr (2, [.int 0, .ref (r 25), .ref (r 26), .ref (r 27)])), ((r 5), .inr (8, [.int 0, .int 0, .int 0, .ref (r 28), .int 0, .int 0, .ref (r 29), .int 0, .int 0, .int 0, .int 0, .int 0, .int 0, .ref (r 30)])), ((r 28), .inl ((k 2), 168, .inl (fun _ => 0))), ((r 8), .inr (1, [.ref (r 1), .ref (r 3), .ref (r 5), .ref (r 31), .ref (r 32), .int 0, .int 0, .int 3047])), ((r 10), .inr (5, [.ref (r 4), .ref (r 2), .ref (r 7), .ref (r 9), .ref (r 33), .ref (r 34), .int 0, .int 0, .int 0, .int 0, .int (-1)])), ((r 11), .inr (0, [.ref (r 2), .ref (r 7), .long 1])), ((r 12), .inr (6, [.ref (r 7), .ref (r 35), .ref (r 36), .ref (r 37), .int 0, .ref (r 38), .int 0, .int (-1), .int (-1), .null, .null])), ((r 13), .inr (3, [.ref (r 2), .ref (r 39), .int 0]))]
def wd_563 (r : Nat → Nat) (k : Nat → ClassId) (f : Nat → Int32) : va_W := [((r 0), .inr (11, [.ref (r 1), .ref (r 2), .ref (r 3), .ref (r 4), .ref (r 5), .ref (r 6), .ref (r 7), .ref (r 8), .ref (r 9), .ref (r 10), .ref (r 11), .ref (r 12), .ref (r 13), .ref (r 14), .ref (r 15), .int 0, .int 0, .ref (r 16), .int (-1), .ref (r 17)])), ((r 1), .inr (10, [.ref (r 18), .int 16, .int 0, .int 0, .int (-1), .int (-1), .long 0, .int 0, .int 0, .int (-1)])), ((r 18), .inl ((k 0), 1600, .inl f)), ((r 14), .inl ((k 1), 7, .inl (fun _ => 0))), ((r 4), .inr (8, [.int 0, .int 0, .int 0, .ref (r 19), .int 0, .int 0, .ref (r 20), .int 0, .int 0, .int 0, .int 0, .int 0, .int 0, .ref (r 21)])), ((r 2), .inr (2, [.int 0, .ref (r 22), .ref (r 23), .ref (r 24)])), ((r 3), .inr (2, [.int 0, .ref (r 25), .ref (r 26), .ref (r 27)])), ((r 5), .inr (8, [.int 0, .int 0, .int 0, .ref (r 28), .int 0, .int 0, .ref (r 29), .int 0, .int 0, .int 0, .int 0, .int 0, .int 0, .ref (r 30)])), ((r 28), .inl ((k 2), 168, .inl (fun _ => 0))), ((r 8), .inr (1, [.ref (r 1), .ref (r 3), .ref (r 5), .ref (r 31), .ref (r 32), .int 0, .int 0, .int 3047])), ((r 10), .inr (5, [.ref (r 4), .ref (r 2), .ref (r 7), .ref (r 9), .ref (r 33), .ref (r 34), .int 0, .int 0, .int 0, .int 0, .int (-1)])), ((r 11), .inr (0, [.ref (r 2), .ref (r 7), .long 1])), ((r 12), .inr (6, [.ref (r 7), .ref (r 35), .ref (r 36), .ref (r 37), .int 0, .ref (r 38), .int 0, .int (-1), .int (-1), .null, .null])), ((r 13), .inr (3, [.ref (r 2), .ref (r 39), .int 0]))]
def wd_564 (r : Nat → Nat) (k : Nat → ClassId) (f570 : Nat → Int32) : va_W := [((r 0), .inr (11, [.ref (r 1), .ref (r 2), .ref (r 3), .ref (r 4), .ref (r 5), .ref (r 6), .ref (r 7), .ref (r 8), .ref (r 9), .ref (r 10), .ref (r 11), .ref (r 12), .ref (r 13), .ref (r 14), .ref (r 15), .int 0, .int 0, .ref (r 16), .int (-1), .ref (r 17)])), ((r 1), .inr (10, [.ref (r 18), .int 16, .int 0, .int 0, .int (-1), .int (-1), .long 0, .int 0, .int 0, .int (-1)])), ((r 18), .inl ((k 0), 1600, .inl f570)), ((r 14), .inl ((k 1), 7, .inl (fun _ => 0))), ((r 4), .inr (8, [.int 0, .int 0, .int 0, .ref (r 19), .int 0, .int 0, .ref (r 20), .int 0, .int 0, .int 0, .int 0, .int 0, .int 0, .ref (r 21)])), ((r 2), .inr (2, [.int 0, .ref (r 22), .ref (r 23), .ref (r 24)])), ((r 3), .inr (2, [.int 0, .ref (r 25), .ref (r 26), .ref (r 27)])), ((r 5), .inr (8, [.int 0, .int 0, .int 0, .ref (r 28), .int 0, .int 0, .ref (r 29), .int 0, .int 0, .int 0, .int 0, .int 0, .int 0, .ref (r 30)])), ((r 28), .inl ((k 2), 168, .inl (fun _ => 0))), ((r 8), .inr (1, [.ref (r 1), .ref (r 3), .ref (r 5), .ref (r 31), .ref (r 32), .int 0, .int 0, .int 3047])), ((r 10), .inr (5, [.ref (r 4), .ref (r 2), .ref (r 7), .ref (r 9), .ref (r 33), .ref (r 34), .int 0, .int 0, .int 0, .int 0, .int (-1)])), ((r 11), .inr (0, [.ref (r 2), .ref (r 7), .long 1])), ((r 12), .inr (6, [.ref (r 7), .ref (r 35), .ref (r 36), .ref (r 37), .int 0, .ref (r 38), .int 0, .int (-1), .int (-1), .null, .null])), ((r 13), .inr (3, [.ref (r 2), .ref (r 39), .int 0]))]
def wd_565 (r : Nat → Nat) (k : Nat → ClassId) (f570 : Nat → Int32) : va_W := [((r 0), .inr (11, [.ref (r 1), .ref (r 2), .ref (r 3), .ref (r 4), .ref (r 5), .ref (r 6), .ref (r 7), .ref (r 8), .ref (r 9), .ref (r 10), .ref (r 11), .ref (r 12), .ref (r 13), .ref (r 14), .ref (r 15), .int 0, .int 0, .ref (r 16), .int (-1), .ref (r 17)])), ((r 1), .inr (10, [.ref (r 18), .int 17, .int 0, .int 0, .int (-1), .int (-1), .long 0, .int 0, .int 0, .int (-1)])), ((r 18), .inl ((k 0), 1600, .inl f570)), ((r 14), .inl ((k 1), 7, .inl (fun _ => 0))), ((r 4), .inr (8, [.int 0, .int 0, .int 0, .ref (r 19), .int 0, .int 0, .ref (r 20), .int 0, .int 0, .int 0, .int 0, .int 0, .int 0, .ref (r 21)])), ((r 2), .inr (2, [.int 0, .ref (r 22), .ref (r 23), .ref (r 24)])), ((r 3), .inr (2, [.int 0, .ref (r 25), .ref (r 26), .ref (r 27)])), ((r 5), .inr (8, [.int 0, .int 0, .int 0, .ref (r 28), .int 0, .int 0, .ref (r 29), .int 0, .int 0, .int 0, .int 0, .int 0, .int 0, .ref (r 30)])), ((r 28), .inl ((k 2), 168, .inl (fun _ => 0))), ((r 8), .inr (1, [.ref (r 1), .ref (r 3), .ref (r 5), .ref (r 31), .ref (r 32), .int 0, .int 0, .int 3047])), ((r 10), .inr (5, [.ref (r 4), .ref (r 2), .ref (r 7), .ref (r 9), .ref (r 33), .ref (r 34), .int 0, .int 0, .int 0, .int 0, .int (-1)])), ((r 11), .inr (0, [.ref (r 2), .ref (r 7), .long 1])), ((r 12), .inr (6, [.ref (r 7), .ref (r 35), .ref (r 36), .ref (r 37), .int 0, .ref (r 38), .int 0, .int (-1), .int (-1), .null, .null])), ((r 13), .inr (3, [.ref (r 2), .ref (r 39), .int 0]))]
def wd_566 (r : Nat → Nat) (k : Nat → ClassId) (f : Nat → Int32) : va_W := [((r 0), .inr (11, [.ref (r 1), .ref (r 2), .ref (r 3), .ref (r 4), .ref (r 5), .ref (r 6), .ref (r 7), .ref (r 8), .ref (r 9), .ref (r 10), .ref (r 11), .ref (r 12), .ref (r 13), .ref (r 14), .ref (r 15), .int 0, .int 0, .ref (r 16), .int (-1), .ref (r 17)])), ((r 1), .inr (10, [.ref (r 18), .int 17, .int 0, .int 0, .int (-1), .int (-1), .long 0, .int 0, .int 0, .int (-1)])), ((r 18), .inl ((k 0), 1600, .inl f)), ((r 14), .inl ((k 1), 7, .inl (fun _ => 0))), ((r 4), .inr (8, [.int 0, .int 0, .int 0, .ref (r 19), .int 0, .int 0, .ref (r 20), .int 0, .int 0, .int 0, .int 0, .int 0, .int 0, .ref (r 21)])), ((r 2), .inr (2, [.int 0, .ref (r 22), .ref (r 23), .ref (r 24)])), ((r 3), .inr (2, [.int 0, .ref (r 25), .ref (r 26), .ref (r 27)])), ((r 5), .inr (8, [.int 0, .int 0, .int 0, .ref (r 28), .int 0, .int 0, .ref (r 29), .int 0, .int 0, .int 0, .int 0, .int 0, .int 0, .ref (r 30)])), ((r 28), .inl ((k 2), 168, .inl (fun _ => 0))), ((r 8), .inr (1, [.ref (r 1), .ref (r 3), .ref (r 5), .ref (r 31), .ref (r 32), .int 0, .int 0, .int 3047])), ((r 10), .inr (5, [.ref (r 4), .ref (r 2), .ref (r 7), .ref (r 9), .ref (r 33), .ref (r 34), .int 0, .int 0, .int 0, .int 0, .int (-1)])), ((r 11), .inr (0, [.ref (r 2), .ref (r 7), .long 1])), ((r 12), .inr (6, [.ref (r 7), .ref (r 35), .ref (r 36), .ref (r 37), .int 0, .ref (r 38), .int 0, .int (-1), .int (-1), .null, .null])), ((r 13), .inr (3, [.ref (r 2), .ref (r 39), .int 0]))]
def wd_567 (r : Nat → Nat) (k : Nat → ClassId) (f574 : Nat → Int32) : va_W := [((r 0), .inr (11, [.ref (r 1), .ref (r 2), .ref (r 3), .ref (r 4), .ref (r 5), .ref (r 6), .ref (r 7), .ref (r 8), .ref (r 9), .ref (r 10), .ref (r 11), .ref (r 12), .ref (r 13), .ref (r 14), .ref (r 15), .int 0, .int 0, .ref (r 16), .int (-1), .ref (r 17)])), ((r 1), .inr (10, [.ref (r 18), .int 17, .int 0, .int 0, .int (-1), .int (-1), .long 0, .int 0, .int 0, .int (-1)])), ((r 18), .inl ((k 0), 1600, .inl f574)), ((r 14), .inl ((k 1), 7, .inl (fun _ => 0))), ((r 4), .inr (8, [.int 0, .int 0, .int 0, .ref (r 19), .int 0, .int 0, .ref (r 20), .int 0, .int 0, .int 0, .int 0, .int 0, .int 0, .ref (r 21)])), ((r 2), .inr (2, [.int 0, .ref (r 22), .ref (r 23), .ref (r 24)])), ((r 3), .inr (2, [.int 0, .ref (r 25), .ref (r 26), .ref (r 27)])), ((r 5), .inr (8, [.int 0, .int 0, .int 0, .ref (r 28), .int 0, .int 0, .ref (r 29), .int 0, .int 0, .int 0, .int 0, .int 0, .int 0, .ref (r 30)])), ((r 28), .inl ((k 2), 168, .inl (fun _ => 0))), ((r 8), .inr (1, [.ref (r 1), .ref (r 3), .ref (r 5), .ref (r 31), .ref (r 32), .int 0, .int 0, .int 3047])), ((r 10), .inr (5, [.ref (r 4), .ref (r 2), .ref (r 7), .ref (r 9), .ref (r 33), .ref (r 34), .int 0, .int 0, .int 0, .int 0, .int (-1)])), ((r 11), .inr (0, [.ref (r 2), .ref (r 7), .long 1])), ((r 12), .inr (6, [.ref (r 7), .ref (r 35), .ref (r 36), .ref (r 37), .int 0, .ref (r 38), .int 0, .int (-1), .int (-1), .null, .null])), ((r 13), .inr (3, [.ref (r 2), .ref (r 39), .int 0]))]
def wd_568 (r : Nat → Nat) (k : Nat → ClassId) (f574 : Nat → Int32) : va_W := [((r 0), .inr (11, [.ref (r 1), .ref (r 2), .ref (r 3), .ref (r 4), .ref (r 5), .ref (r 6), .ref (r 7), .ref (r 8), .ref (r 9), .ref (r 10), .ref (r 11), .ref (r 12), .ref (r 13), .ref (r 14), .ref (r 15), .int 0, .int 0, .ref (r 16), .int (-1), .ref (r 17)])), ((r 1), .inr (10, [.ref (r 18), .int 18, .int 0, .int 0, .int (-1), .int (-1), .long 0, .int 0, .int 0, .int (-1)])), ((r 18), .inl ((k 0), 1600, .inl f574)), ((r 14), .inl ((k 1), 7, .inl (fun _ => 0))), ((r 4), .inr (8, [.int 0, .int 0, .int 0, .ref (r 19), .int 0, .int 0, .ref (r 20), .int 0, .int 0, .int 0, .int 0, .int 0, .int 0, .ref (r 21)])), ((r 2), .inr (2, [.int 0, .ref (r 22), .ref (r 23), .ref (r 24)])), ((r 3), .inr (2, [.int 0, .ref (r 25), .ref (r 26), .ref (r 27)])), ((r 5), .inr (8, [.int 0, .int 0, .int 0, .ref (r 28), .int 0, .int 0, .ref (r 29), .int 0, .int 0, .int 0, .int 0, .int 0, .int 0, .ref (r 30)])), ((r 28), .inl ((k 2), 168, .inl (fun _ => 0))), ((r 8), .inr (1, [.ref (r 1), .ref (r 3), .ref (r 5), .ref (r 31), .ref (r 32), .int 0, .int 0, .int 3047])), ((r 10), .inr (5, [.ref (r 4), .ref (r 2), .ref (r 7), .ref (r 9), .ref (r 33), .ref (r 34), .int 0, .int 0, .int 0, .int 0, .int (-1)])), ((r 11), .inr (0, [.ref (r 2), .ref (r 7), .long 1])), ((r 12), .inr (6, [.ref (r 7), .ref (r 35), .ref (r 36), .ref (r 37), .int 0, .ref (r 38), .int 0, .int (-1), .int (-1), .null, .null])), ((r 13), .inr (3, [.ref (r 2), .ref (r 39), .int 0]))]
def wd_569 (r : Nat → Nat) (k : Nat → ClassId) (f : Nat → Int32) : va_W := [((r 0), .inr (11, [.ref (r 1), .ref (r 2), .ref (r 3), .ref (r 4), .ref (r 5), .ref (r 6), .ref (r 7), .ref (r 8), .ref (r 9), .ref (r 10), .ref (r 11), .ref (r 12), .ref (r 13), .ref (r 14), .ref (r 15), .int 0, .int 0, .ref (r 16), .int (-1), .ref (r 17)])), ((r 1), .inr (10, [.ref (r 18), .int 18, .int 0, .int 0, .int (-1), .int (-1), .long 0, .int 0, .int 0, .int (-1)])), ((r 18), .inl ((k 0), 1600, .inl f)), ((r 14), .inl ((k 1), 7, .inl (fun _ => 0))), ((r 4), .inr (8, [.int 0, .int 0, .int 0, .ref (r 19), .int 0, .int 0, .ref (r 20), .int 0, .int 0, .int 0, .int 0, .int 0, .int 0, .ref (r 21)])), ((r 2), .inr (2, [.int 0, .ref (r 22), .ref (r 23), .ref (r 24)])), ((r 3), .inr (2, [.int 0, .ref (r 25), .ref (r 26), .ref (r 27)])), ((r 5), .inr (8, [.int 0, .int 0, .int 0, .ref (r 28), .int 0, .int 0, .ref (r 29), .int 0, .int 0, .int 0, .int 0, .int 0, .int 0, .ref (r 30)])), ((r 28), .inl ((k 2), 168, .inl (fun _ => 0))), ((r 8), .inr (1, [.ref (r 1), .ref (r 3), .ref (r 5), .ref (r 31), .ref (r 32), .int 0, .int 0, .int 3047])), ((r 10), .inr (5, [.ref (r 4), .ref (r 2), .ref (r 7), .ref (r 9), .ref (r 33), .ref (r 34), .int 0, .int 0, .int 0, .int 0, .int (-1)])), ((r 11), .inr (0, [.ref (r 2), .ref (r 7), .long 1])), ((r 12), .inr (6, [.ref (r 7), .ref (r 35), .ref (r 36), .ref (r 37), .int 0, .ref (r 38), .int 0, .int (-1), .int (-1), .null, .null])), ((r 13), .inr (3, [.ref (r 2), .ref (r 39), .int 0]))]
def wd_570 (r : Nat → Nat) (k : Nat → ClassId) (f578 : Nat → Int32) : va_W := [((r 0), .inr (11, [.ref (r 1), .ref (r 2), .ref (r 3), .ref (r 4), .ref (r 5), .ref (r 6), .ref (r 7), .ref (r 8), .ref (r 9), .ref (r 10), .ref (r 11), .ref (r 12), .ref (r 13), .ref (r 14), .ref (r 15), .int 0, .int 0, .ref (r 16), .int (-1), .ref (r 17)])), ((r 1), .inr (10, [.ref (r 18), .int 18, .int 0, .int 0, .int (-1), .int (-1), .long 0, .int 0, .int 0, .int (-1)])), ((r 18), .inl ((k 0), 1600, .inl f578)), ((r 14), .inl ((k 1), 7, .inl (fun _ => 0))), ((r 4), .inr (8, [.int 0, .int 0, .int 0, .ref (r 19), .int 0, .int 0, .ref (r 20), .int 0, .int 0, .int 0, .int 0, .int 0, .int 0, .ref (r 21)])), ((r 2), .inr (2, [.int 0, .ref (r 22), .ref (r 23), .ref (r 24)])), ((r 3), .inr (2, [.int 0, .ref (r 25), .ref (r 26), .ref (r 27)])), ((r 5), .inr (8, [.int 0, .int 0, .int 0, .ref (r 28), .int 0, .int 0, .ref (r 29), .int 0, .int 0, .int 0, .int 0, .int 0, .int 0, .ref (r 30)])), ((r 28), .inl ((k 2), 168, .inl (fun _ => 0))), ((r 8), .inr (1, [.ref (r 1), .ref (r 3), .ref (r 5), .ref (r 31), .ref (r 32), .int 0, .int 0, .int 3047])), ((r 10), .inr (5, [.ref (r 4), .ref (r 2), .ref (r 7), .ref (r 9), .ref (r 33), .ref (r 34), .int 0, .int 0, .int 0, .int 0, .int (-1)])), ((r 11), .inr (0, [.ref (r 2), .ref (r 7), .long 1])), ((r 12), .inr (6, [.ref (r 7), .ref (r 35), .ref (r 36), .ref (r 37), .int 0, .ref (r 38), .int 0, .int (-1), .int (-1), .null, .null])), ((r 13), .inr (3, [.ref (r 2), .ref (r 39), .int 0]))]
def wd_571 (r : Nat → Nat) (k : Nat → ClassId) (f578 : Nat → Int32) : va_W := [((r 0), .inr (11, [.ref (r 1), .ref (r 2), .ref (r 3), .ref (r 4), .ref (r 5), .ref (r 6), .ref (r 7), .ref (r 8), .ref (r 9), .ref (r 10), .ref (r 11), .ref (r 12), .ref (r 13), .ref (r 14), .ref (r 15), .int 0, .int 0, .ref (r 16), .int (-1), .ref (r 17)])), ((r 1), .inr (10, [.ref (r 18), .int 19, .int 0, .int 0, .int (-1), .int (-1), .long 0, .int 0, .int 0, .int (-1)])), ((r 18), .inl ((k 0), 1600, .inl f578)), ((r 14), .inl ((k 1), 7, .inl (fun _ => 0))), ((r 4), .inr (8, [.int 0, .int 0, .int 0, .ref (r 19), .int 0, .int 0, .ref (r 20), .int 0, .int 0, .int 0, .int 0, .int 0, .int 0, .ref (r 21)])), ((r 2), .inr (2, [.int 0, .ref (r 22), .ref (r 23), .ref (r 24)])), ((r 3), .inr (2, [.int 0, .ref (r 25), .ref (r 26), .ref (r 27)])), ((r 5), .inr (8, [.int 0, .int 0, .int 0, .ref (r 28), .int 0, .int 0, .ref (r 29), .int 0, .int 0, .int 0, .int 0, .int 0, .int 0, .ref (r 30)])), ((r 28), .inl ((k 2), 168, .inl (fun _ => 0))), ((r 8), .inr (1, [.ref (r 1), .ref (r 3), .ref (r 5), .ref (r 31), .ref (r 32), .int 0, .int 0, .int 3047])), ((r 10), .inr (5, [.ref (r 4), .ref (r 2), .ref (r 7), .ref (r 9), .ref (r 33), .ref (r 34), .int 0, .int 0, .int 0, .int 0, .int (-1)])), ((r 11), .inr (0, [.ref (r 2), .ref (r 7), .long 1])), ((r 12), .inr (6, [.ref (r 7), .ref (r 35), .ref (r 36), .ref (r 37), .int 0, .ref (r 38), .int 0, .int (-1), .int (-1), .null, .null])), ((r 13), .inr (3, [.ref (r 2), .ref (r 39), .int 0]))]
def wd_572 (r : Nat → Nat) (k : Nat → ClassId) (f : Nat → Int32) : va_W := [((r 0), .inr (11, [.ref (r 1), .ref (r 2), .ref (r 3), .ref (r 4), .ref (r 5), .ref (r 6), .ref (r 7), .ref (r 8), .ref (r 9), .ref (r 10), .ref (r 11), .ref (r 12), .ref (r 13), .ref (r 14), .ref (r 15), .int 0, .int 0, .ref (r 16), .int (-1), .ref (r 17)])), ((r 1), .inr (10, [.ref (r 18), .int 19, .int 0, .int 0, .int (-1), .int (-1), .long 0, .int 0, .int 0, .int (-1)])), ((r 18), .inl ((k 0), 1600, .inl f)), ((r 14), .inl ((k 1), 7, .inl (fun _ => 0))), ((r 4), .inr (8, [.int 0, .int 0, .int 0, .ref (r 19), .int 0, .int 0, .ref (r 20), .int 0, .int 0, .int 0, .int 0, .int 0, .int 0, .ref (r 21)])), ((r 2), .inr (2, [.int 0, .ref (r 22), .ref (r 23), .ref (r 24)])), ((r 3), .inr (2, [.int 0, .ref (r 25), .ref (r 26), .ref (r 27)])), ((r 5), .inr (8, [.int 0, .int 0, .int 0, .ref (r 28), .int 0, .int 0, .ref (r 29), .int 0, .int 0, .int 0, .int 0, .int 0, .int 0, .ref (r 30)])), ((r 28), .inl ((k 2), 168, .inl (fun _ => 0))), ((r 8), .inr (1, [.ref (r 1), .ref (r 3), .ref (r 5), .ref (r 31), .ref (r 32), .int 0, .int 0, .int 3047])), ((r 10), .inr (5, [.ref (r 4), .ref (r 2), .ref (r 7), .ref (r 9), .ref (r 33), .ref (r 34), .int 0, .int 0, .int 0, .int 0, .int (-1)])), ((r 11), .inr (0, [.ref (r 2), .ref (r 7), .long 1])), ((r 12), .inr (6, [.ref (r 7), .ref (r 35), .ref (r 36), .ref (r 37), .int 0, .ref (r 38), .int 0, .int (-1), .int (-1), .null, .null])), ((r 13), .inr (3, [.ref (r 2), .ref (r 39), .int 0]))]
def wd_573 (r : Nat → Nat) (k : Nat → ClassId) (f582 : Nat → Int32) : va_W := [((r 0), .inr (11, [.ref (r 1), .ref (r 2), .ref (r 3), .ref (r 4), .ref (r 5), .ref (r 6), .ref (r 7), .ref (r 8), .ref (r 9), .ref (r 10), .ref (r 11), .ref (r 12), .ref (r 13), .ref (r 14), .ref (r 15), .int 0, .int 0, .ref (r 16), .int (-1), .ref (r 17)])), ((r 1), .inr (10, [.ref (r 18), .int 19, .int 0, .int 0, .int (-1), .int (-1), .long 0, .int 0, .int 0, .int (-1)])), ((r 18), .inl ((k 0), 1600, .inl f582)), ((r 14), .inl ((k 1), 7, .inl (fun _ => 0))), ((r 4), .inr (8, [.int 0, .int 0, .int 0, .ref (r 19), .int 0, .int 0, .ref (r 20), .int 0, .int 0, .int 0, .int 0, .int 0, .int 0, .ref (r 21)])), ((r 2), .inr (2, [.int 0, .ref (r 22), .ref (r 23), .ref (r 24)])), ((r 3), .inr (2, [.int 0, .ref (r 25), .ref (r 26), .ref (r 27)])), ((r 5), .inr (8, [.int 0, .int 0, .int 0, .ref (r 28), .int 0, .int 0, .ref (r 29), .int 0, .int 0, .int 0, .int 0, .int 0, .int 0, .ref (r 30)])), ((r 28), .inl ((k 2), 168, .inl (fun _ => 0))), ((r 8), .inr (1, [.ref (r 1), .ref (r 3), .ref (r 5), .ref (r 31), .ref (r 32), .int 0, .int 0, .int 3047])), ((r 10), .inr (5, [.ref (r 4), .ref (r 2), .ref (r 7), .ref (r 9), .ref (r 33), .ref (r 34), .int 0, .int 0, .int 0, .int 0, .int (-1)])), ((r 11), .inr (0, [.ref (r 2), .ref (r 7), .long 1])), ((r 12), .inr (6, [.ref (r 7), .ref (r 35), .ref (r 36), .ref (r 37), .int 0, .ref (r 38), .int 0, .int (-1), .int (-1), .null, .null])), ((r 13), .inr (3, [.ref (r 2), .ref (r 39), .int 0]))]
def wd_574 (r : Nat → Nat) (k : Nat → ClassId) (f582 : Nat → Int32) : va_W := [((r 0), .inr (11, [.ref (r 1), .ref (r 2), .ref (r 3), .ref (r 4), .ref (r 5), .ref (r 6), .ref (r 7), .ref (r 8), .ref (r 9), .ref (r 10), .ref (r 11), .ref (r 12), .ref (r 13), .ref (r 14), .ref (r 15), .int 0, .int 0, .ref (r 16), .int (-1), .ref (r 17)])), ((r 1), .inr (10, [.ref (r 18), .int 20, .int 0, .int 0, .int (-1), .int (-1), .long 0, .int 0, .int 0, .int (-1)])), ((r 18), .inl ((k 0), 1600, .inl f582)), ((r 14), .inl ((k 1), 7, .inl (fun _ => 0))), ((r 4), .inr (8, [.int 0, .int 0, .int 0, .ref (r 19), .int 0, .int 0, .ref (r 20), .int 0, .int 0, .int 0, .int 0, .int 0, .int 0, .ref (r 21)])), ((r 2), .inr (2, [.int 0, .ref (r 22), .ref (r 23), .ref (r 24)])), ((r 3), .inr (2, [.int 0, .ref (r 25), .ref (r 26), .ref (r 27)])), ((r 5), .inr (8, [.int 0, .int 0, .int 0, .ref (r 28), .int 0, .int 0, .ref (r 29), .int 0, .int 0, .int 0, .int 0, .int 0, .int 0, .ref (r 30)])), ((r 28), .inl ((k 2), 168, .inl (fun _ => 0))), ((r 8), .inr (1, [.ref (r 1), .ref (r 3), .ref (r 5), .ref (r 31), .ref (r 32), .int 0, .int 0, .int 3047])), ((r 10), .inr (5, [.ref (r 4), .ref (r 2), .ref (r 7), .ref (r 9), .ref (r 33), .ref (r 34), .int 0, .int 0, .int 0, .int 0, .int (-1)])), ((r 11), .inr (0, [.ref (r 2), .ref (r 7), .long 1])), ((r 12), .inr (6, [.ref (r 7), .ref (r 35), .ref (r 36), .ref (r 37), .int 0, .ref (r 38), .int 0, .int (-1), .int (-1), .null, .null])), ((r 13), .inr (3, [.ref (r 2), .ref (r 39), .int 0]))]
def wd_575 (r : Nat → Nat) (k : Nat → ClassId) (f586 : Nat → Int32) : va_W := [((r 0), .inr (11, [.ref (r 1), .ref (r 2), .ref (r 3), .ref (r 4), .ref (r 5), .ref (r 6), .ref (r 7), .ref (r 8), .ref (r 9), .ref (r 10), .ref (r 11), .ref (r 12), .ref (r 13), .ref (r 14), .ref (r 15), .int 0, .int 0, .ref (r 16), .int (-1), .ref (r 17)])), ((r 1), .inr (10, [.ref (r 18), .int 16, .int 0, .int 0, .int (-1), .int (-1), .long 0, .int 0, .int 0, .int (-1)])), ((r 18), .inl ((k 0), 1600, .inl f586)), ((r 14), .inl ((k 1), 7, .inl (fun _ => 0))), ((r 4), .inr (8, [.int 0, .int 0, .int 0, .ref (r 19), .int 0, .int 0, .ref (r 20), .int 0, .int 0, .int 0, .int 0, .int 0, .int 0, .ref (r 21)])), ((r 2), .inr (2, [.int 0, .ref (r 22), .ref (r 23), .ref (r 24)])), ((r 3), .inr (2, [.int 0, .ref (r 25), .ref (r 26), .ref (r 27)])), ((r 5), .inr (8, [.int 0, .int 0, .int 0, .ref (r 28), .int 0, .int 0, .ref (r 29), .int 0, .int 0, .int 0, .int 0, .int 0, .int 0, .ref (r 30)])), ((r 28), .inl ((k 2), 168, .inl (fun _ => 0))), ((r 8), .inr (1, [.ref (r 1), .ref (r 3), .ref (r 5), .ref (r 31), .ref (r 32), .int 0, .int 0, .int 3047])), ((r 10), .inr (5, [.ref (r 4), .ref (r 2), .ref (r 7), .ref (r 9), .ref (r 33), .ref (r 34), .int 0, .int 0, .int 0, .int 0, .int (-1)])), ((r 11), .inr (0, [.ref (r 2), .ref (r 7), .long 1])), ((r 12), .inr (6, [.ref (r 7), .ref (r 35), .ref (r 36), .ref (r 37), .int 0, .ref (r 38), .int 0, .int (-1), .int (-1), .null, .null])), ((r 13), .inr (3, [.ref (r 2), .ref (r 39), .int 0]))]
def wd_576 (r : Nat → Nat) (k : Nat → ClassId) (f586 : Nat → Int32) : va_W := [((r 0), .inr (11, [.ref (r 1), .ref (r 2), .ref (r 3), .ref (r 4), .ref (r 5), .ref (r 6), .ref (r 7), .ref (r 8), .ref (r 9), .ref (r 10), .ref (r 11), .ref (r 12), .ref (r 13), .ref (r 14), .ref (r 15), .int 0, .int 0, .ref (r 16), .int (-1), .ref (r 17)])), ((r 1), .inr (10, [.ref (r 18), .int 17, .int 0, .int 0, .int (-1), .int (-1), .long 0, .int 0, .int 0, .int (-1)])), ((r 18), .inl ((k 0), 1600, .inl f586)), ((r 14), .inl ((k 1), 7, .inl (fun _ => 0))), ((r 4), .inr (8, [.int 0, .int 0, .int 0, .ref (r 19), .int 0, .int 0, .ref (r 20), .int 0, .int 0, .int 0, .int 0, .int 0, .int 0, .ref (r 21)])), ((r 2), .inr (2, [.int 0, .ref (r 22), .ref (r 23), .ref (r 24)])), ((r 3), .inr (2, [.int 0, .ref (r 25), .ref (r 26), .ref (r 27)])), ((r 5), .inr (8, [.int 0, .int 0, .int 0, .ref (r 28), .int 0, .int 0, .ref (r 29), .int 0, .int 0, .int 0, .int 0, .int 0, .int 0, .ref (r 30)])), ((r 28), .inl ((k 2), 168, .inl (fun _ => 0))), ((r 8), .inr (1, [.ref (r 1), .ref (r 3), .ref (r 5), .ref (r 31), .ref (r 32), .int 0, .int 0, .int 3047])), ((r 10), .inr (5, [.ref (r 4), .ref (r 2), .ref (r 7), .ref (r 9), .ref (r 33), .ref (r 34), .int 0, .int 0, .int 0, .int 0, .int (-1)])), ((r 11), .inr (0, [.ref (r 2), .ref (r 7), .long 1])), ((r 12), .inr (6, [.ref (r 7), .ref (r 35), .ref (r 36), .ref (r 37), .int 0, .ref (r 38), .int 0, .int (-1), .int (-1), .null, .null])), ((r 13), .inr (3, [.ref (r 2), .ref (r 39), .int 0]))]
def wd_577 (r : Nat → Nat) (k : Nat → ClassId) (f590 : Nat → Int32) : va_W := [((r 0), .inr (11, [.ref (r 1), .ref (r 2), .ref (r 3), .ref (r 4), .ref (r 5), .ref (r 6), .ref (r 7), .ref (r 8), .ref (r 9), .ref (r 10), .ref (r 11), .ref (r 12), .ref (r 13), .ref (r 14), .ref (r 15), .int 0, .int 0, .ref (r 16), .int (-1), .ref (r 17)])), ((r 1), .inr (10, [.ref (r 18), .int 17, .int 0, .int 0, .int (-1), .int (-1), .long 0, .int 0, .int 0, .int (-1)])), ((r 18), .inl ((k 0), 1600, .inl f590)), ((r 14), .inl ((k 1), 7, .inl (fun _ => 0))), ((r 4), .inr (8, [.int 0, .int 0, .int 0, .ref (r 19), .int 0, .int 0, .ref (r 20), .int 0, .int 0, .int 0, .int 0, .int 0, .int 0, .ref (r 21)])), ((r 2), .inr (2, [.int 0, .ref (r 22), .ref (r 23), .ref (r 24)])), ((r 3), .inr (2, [.int 0, .ref (r 25), .ref (r 26), .ref (r 27)])), ((r 5), .inr (8, [.int 0, .int 0, .int 0, .ref (r 28), .int 0, .int 0, .ref (r 29), .int 0, .int 0, .int 0, .int 0, .int 0, .int 0, .ref (r 30)])), ((r 28), .inl ((k 2), 168, .inl (fun _ => 0))), ((r 8), .inr (1, [.ref (r 1), .ref (r 3), .ref (r 5), .ref (r 31), .ref (r 32), .int 0, .int 0, .int 3047])), ((r 10), .inr (5, [.ref (r 4), .ref (r 2), .ref (r 7), .ref (r 9), .ref (r 33), .ref (r 34), .int 0, .int 0, .int 0, .int 0, .int (-1)])), ((r 11), .inr (0, [.ref (r 2), .ref (r 7), .long 1])), ((r 12), .inr (6, [.ref (r 7), .ref (r 35), .ref (r 36), .ref (r 37), .int 0, .ref (r 38), .int 0, .int (-1), .int (-1), .null, .null])), ((r 13), .inr (3, [.ref (r 2), .ref (r 39), .int 0]))]
def wd_578 (r : Nat → Nat) (k : Nat → ClassId) (f590 : Nat → Int32) : va_W := [((r 0), .inr (11, [.ref (r 1), .ref (r 2), .ref (r 3), .ref (r 4), .ref (r 5), .ref (r 6), .ref (r 7), .ref (r 8), .ref (r 9), .ref (r 10), .ref (r 11), .ref (r 12), .ref (r 13), .ref (r 14), .ref (r 15), .int 0, .int 0, .ref (r 16), .int (-1), .ref (r 17)])), ((r 1), .inr (10, [.ref (r 18), .int 18, .int 0, .int 0, .int (-1), .int (-1), .long 0, .int 0, .int 0, .int (-1)])), ((r 18), .inl ((k 0), 1600, .inl f590)), ((r 14), .inl ((k 1), 7, .inl (fun _ => 0))), ((r 4), .inr (8, [.int 0, .int 0, .int 0, .ref (r 19), .int 0, .int 0, .ref (r 20), .int 0, .int 0, .int 0, .int 0, .int 0, .int 0, .ref (r 21)])), ((r 2), .inr (2, [.int 0, .ref (r 22), .ref (r 23), .ref (r 24)])), ((r 3), .inr (2, [.int 0, .ref (r 25), .ref (r 26), .ref (r 27)])), ((r 5), .inr (8, [.int 0, .int 0, .int 0, .ref (r 28), .int 0, .int 0, .ref (r 29), .int 0, .int 0, .int 0, .int 0, .int 0, .int 0, .ref (r 30)])), ((r 28), .inl ((k 2), 168, .inl (fun _ => 0))), ((r 8), .inr (1, [.ref (r 1), .ref (r 3), .ref (r 5), .ref (r 31), .ref (r 32), .int 0, .int 0, .int 3047])), ((r 10), .inr (5, [.ref (r 4), .ref (r 2), .ref (r 7), .ref (r 9), .ref (r 33), .ref (r 34), .int 0, .int 0, .int 0, .int 0, .int (-1)])), ((r 11), .inr (0, [.ref (r 2), .ref (r 7), .long 1])), ((r 12), .inr (6, [.ref (r 7), .ref (r 35), .ref (r 36), .ref (r 37), .int 0, .ref (r 38), .int 0, .int (-1), .int (-1), .null, .null])), ((r 13), .inr (3, [.ref (r 2), .ref (r 39), .int 0]))]
def wd_579 (r : Nat → Nat) (k : Nat → ClassId) (f594 : Nat → Int32) : va_W := [((r 0), .inr (11, [.ref (r 1), .ref (r 2), .ref (r 3), .ref (r 4), .ref (r 5), .ref (r 6), .ref (r 7), .ref (r 8), .ref (r 9), .ref (r 10), .ref (r 11), .ref (r 12), .ref (r 13), .ref (r 14), .ref (r 15), .int 0, .int 0, .ref (r 16), .int (-1), .ref (r 17)])), ((r 1), .inr (10, [.ref (r 18), .int 18, .int 0, .int 0, .int (-1), .int (-1), .long 0, .int 0, .int 0, .int (-1)])), ((r 18), .inl ((k 0), 1600, .inl f594)), ((r 14), .inl ((k 1), 7, .inl (fun _ => 0))), ((r 4), .inr (8, [.int 0, .int 0, .int 0, .ref (r 19), .int 0, .int 0, .ref (r 20), .int 0, .int 0, .int 0, .int 0, .int 0, .int 0, .ref (r 21)])), ((r 2), .inr (2, [.int 0, .ref (r 22), .ref (r 23), .ref (r 24)])), ((r 3), .inr (2, [.int 0, .ref (r 25), .ref (r 26), .ref (r 27)])), ((r 5), .inr (8, [.int 0, .int 0, .int 0, .ref (r 28), .int 0, .int 0, .ref (r 29), .int 0, .int 0, .int 0, .int 0, .int 0, .int 0, .ref (r 30)])), ((r 28), .inl ((k 2), 168, .inl (fun _ => 0))), ((r 8), .inr (1, [.ref (r 1), .ref (r 3), .ref (r 5), .ref (r 31), .ref (r 32), .int 0, .int 0, .int 3047])), ((r 10), .inr (5, [.ref (r 4), .ref (r 2), .ref (r 7), .ref (r 9), .ref (r 33), .ref (r 34), .int 0, .int 0, .int 0, .int 0, .int (-1)])), ((r 11), .inr (0, [.ref (r 2), .ref (r 7), .long 1])), ((r 12), .inr (6, [.ref (r 7), .ref (r 35), .ref (r 36), .ref (r 37), .int 0, .ref (r 38), .int 0, .int (-1), .int (-1), .null, .null])), ((r 13), .inr (3, [.ref (r 2), .ref (r 39), .int 0]))]
def wd_580 (r : Nat → Nat) (k : Nat → ClassId) (f594 : Nat → Int32) : va_W := [((r 0), .inr (11, [.ref (r 1), .ref (r 2), .ref (r 3), .ref (r 4), .ref (r 5), .ref (r 6), .ref (r 7), .ref (r 8), .ref (r 9), .ref (r 10), .ref (r 11), .ref (r 12), .ref (r 13), .ref (r 14), .ref (r 15), .int 0, .int 0, .ref (r 16), .int (-1), .ref (r 17)])), ((r 1), .inr (10, [.ref (r 18), .int 19, .int 0, .int 0, .int (-1), .int (-1), .long 0, .int 0, .int 0, .int (-1)])), ((r 18), .inl ((k 0), 1600, .inl f594)), ((r 14), .inl ((k 1), 7, .inl (fun _ => 0))), ((r 4), .inr (8, [.int 0, .int 0, .int 0, .ref (r 19), .int 0, .int 0, .ref (r 20), .int 0, .int 0, .int 0, .int 0, .int 0, .int 0, .ref (r 21)])), ((r 2), .inr (2, [.int 0, .ref (r 22), .ref (r 23), .ref (r 24)])), ((r 3), .inr (2, [.int 0, .ref (r 25), .ref (r 26), .ref (r 27)])), ((r 5), .inr (8, [.int 0, .int 0, .int 0, .ref (r 28), .int 0, .int 0, .ref (r 29), .int 0, .int 0, .int 0, .int 0, .int 0, .int 0, .ref (r 30)])), ((r 28), .inl ((k 2), 168, .inl (fun _ => 0))), ((r 8), .inr (1, [.ref (r 1), .ref (r 3), .ref (r 5), .ref (r 31), .ref (r 32), .int 0, .int 0, .int 3047])), ((r 10), .inr (5, [.ref (r 4), .ref (r 2), .ref (r 7), .ref (r 9), .ref (r 33), .ref (r 34), .int 0, .int 0, .int 0, .int 0, .int (-1)])), ((r 11), .inr (0, [.ref (r 2), .ref (r 7), .long 1])), ((r 12), .inr (6, [.ref (r 7), .ref (r 35), .ref (r 36), .ref (r 37), .int 0, .ref (r 38), .int 0, .int (-1), .int (-1), .null, .null])), ((r 13), .inr (3, [.ref (r 2), .ref (r 39), .int 0]))]
def wd_581 (r : Nat → Nat) (k : Nat → ClassId) (f598 : Nat → Int32) : va_W := [((r 0), .inr (11, [.ref (r 1), .ref (r 2), .ref (r 3), .ref (r 4), .ref (r 5), .ref (r 6), .ref (r 7), .ref (r 8), .ref (r 9), .ref (r 10), .ref (r 11), .ref (r 12), .ref (r 13), .ref (r 14), .ref (r 15), .int 0, .int 0, .ref (r 16), .int (-1), .ref (r 17)])), ((r 1), .inr (10, [.ref (r 18), .int 19, .int 0, .int 0, .int (-1), .int (-1), .long 0, .int 0, .int 0, .int (-1)])), ((r 18), .inl ((k 0), 1600, .inl f598)), ((r 14), .inl ((k 1), 7, .inl (fun _ => 0))), ((r 4), .inr (8, [.int 0, .int 0, .int 0, .ref (r 19), .int 0, .int 0, .ref (r 20), .int 0, .int 0, .int 0, .int 0, .int 0, .int 0, .ref (r 21)])), ((r 2), .inr (2, [.int 0, .ref (r 22), .ref (r 23), .ref (r 24)])), ((r 3), .inr (2, [.int 0, .ref (r 25), .ref (r 26), .ref (r 27)])), ((r 5), .inr (8, [.int 0, .int 0, .int 0, .ref (r 28), .int 0, .int 0, .ref (r 29), .int 0, .int 0, .int 0, .int 0, .int 0, .int 0, .ref (r 30)])), ((r 28), .inl ((k 2), 168, .inl (fun _ => 0))), ((r 8), .inr (1, [.ref (r 1), .ref (r 3), .ref (r 5), .ref (r 31), .ref (r 32), .int 0, .int 0, .int 3047])), ((r 10), .inr (5, [.ref (r 4), .ref (r 2), .ref (r 7), .ref (r 9), .ref (r 33), .ref (r 34), .int 0, .int 0, .int 0, .int 0, .int (-1)])), ((r 11), .inr (0, [.ref (r 2), .ref (r 7), .long 1])), ((r 12), .inr (6, [.ref (r 7), .ref (r 35), .ref (r 36), .ref (r 37), .int 0, .ref (r 38), .int 0, .int (-1), .int (-1), .null, .null])), ((r 13), .inr (3, [.ref (r 2), .ref (r 39), .int 0]))]
def wd_582 (r : Nat → Nat) (k : Nat → ClassId) (f598 : Nat → Int32) : va_W := [((r 0), .inr (11, [.ref (r 1), .ref (r 2), .ref (r 3), .ref (r 4), .ref (r 5), .ref (r 6), .ref (r 7), .ref (r 8), .ref (r 9), .ref (r 10), .ref (r 11), .ref (r 12), .ref (r 13), .ref (r 14), .ref (r 15), .int 0, .int 0, .ref (r 16), .int (-1), .ref (r 17)])), ((r 1), .inr (10, [.ref (r 18), .int 20, .int 0, .int 0, .int (-1), .int (-1), .long 0, .int 0, .int 0, .int (-1)])), ((r 18), .inl ((k 0), 1600, .inl f598)), ((r 14), .inl ((k 1), 7, .inl (fun _ => 0))), ((r 4), .inr (8, [.int 0, .int 0, .int 0, .ref (r 19), .int 0, .int 0, .ref (r 20), .int 0, .int 0, .int 0, .int 0, .int 0, .int 0, .ref (r 21)])), ((r 2), .inr (2, [.int 0, .ref (r 22), .ref (r 23), .ref (r 24)])), ((r 3), .inr (2, [.int 0, .ref (r 25), .ref (r 26), .ref (r 27)])), ((r 5), .inr (8, [.int 0, .int 0, .int 0, .ref (r 28), .int 0, .int 0, .ref (r 29), .int 0, .int 0, .int 0, .int 0, .int 0, .int 0, .ref (r 30)])), ((r 28), .inl ((k 2), 168, .inl (fun _ => 0))), ((r 8), .inr (1, [.ref (r 1), .ref (r 3), .ref (r 5), .ref (r 31), .ref (r 32), .int 0, .int 0, .int 3047])), ((r 10), .inr (5, [.ref (r 4), .ref (r 2), .ref (r 7), .ref (r 9), .ref (r 33), .ref (r 34), .int 0, .int 0, .int 0, .int 0, .int (-1)])), ((r 11), .inr (0, [.ref (r 2), .ref (r 7), .long 1])), ((r 12), .inr (6, [.ref (r 7), .ref (r 35), .ref (r 36), .ref (r 37), .int 0, .ref (r 38), .int 0, .int (-1), .int (-1), .null, .null])), ((r 13), .inr (3, [.ref (r 2), .ref (r 39), .int 0]))]
def wd_583 (r : Nat → Nat) (k : Nat → ClassId) (fz0 : Nat → Int32) : va_W := [((r 0), .inr (11, [.ref (r 1), .ref (r 2), .ref (r 3), .ref (r 4), .ref (r 5), .ref (r 6), .ref (r 7), .ref (r 8), .ref (r 9), .ref (r 10), .ref (r 11), .ref (r 12), .ref (r 13), .ref (r 14), .ref (r 15), .int 0, .int 0, .ref (r 16), .int (-1), .ref (r 17)])), ((r 1), .inr (10, [.ref (r 18), .int 16, .int 0, .int 0, .int (-1), .int (-1), .long 0, .int 0, .int 0, .int (-1)])), ((r 18), .inl ((k 0), 1600, .inl fz0)), ((r 14), .inl ((k 1), 7, .inl (fun _ => 0))), ((r 4), .inr (8, [.int 0, .int 0, .int 0, .ref (r 19), .int 0, .int 0, .ref (r 20), .int 0, .int 0, .int 0, .int 0, .int 0, .int 0, .ref (r 21)])), ((r 2), .inr (2, [.int 0, .ref (r 22), .ref (r 23), .ref (r 24)])), ((r 3), .inr (2, [.int 0, .ref (r 25), .ref (r 26), .ref (r 27)])), ((r 5), .inr (8, [.int 0, .int 0, .int 0, .ref (r 28), .int 0, .int 0, .ref (r 29), .int 0, .int 0, .int 0, .int 0, .int 0, .int 0, .ref (r 30)])), ((r 28), .inl ((k 2), 168, .inl (fun _ => 0))), ((r 8), .inr (1, [.ref (r 1), .ref (r 3), .ref (r 5), .ref (r 31), .ref (r 32), .int 0, .int 0, .int 3047])), ((r 10), .inr (5, [.ref (r 4), .ref (r 2), .ref (r 7), .ref (r 9), .ref (r 33), .ref (r 34), .int 0, .int 0, .int 0, .int 0, .int (-1)])), ((r 11), .inr (0, [.ref (r 2), .ref (r 7), .long 1])), ((r 12), .inr (6, [.ref (r 7), .ref (r 35), .ref (r 36), .ref (r 37), .int 0, .ref (r 38), .int 0, .int (-1), .int (-1), .null, .null])), ((r 13), .inr (3, [.ref (r 2), .ref (r 39), .int 0]))]
set_option maxHeartbeats 4000000 in
set_option maxRecDepth 100000 in
theorem c8_X10_append (l : Launch) (dC : Nat → ClassId) (dI : Nat → Nat → Nat) (r : Nat → Nat) (k : Nat → ClassId) (fz0 : Nat → Int32) (p0 : Int32) (sz : Nat) : Met l yX10_append (Cond.code yX10_append cX10_append 3 none :: wA) ({ frames := 0, cells := 0, slots := 0, locals := 0 }) (va_Pc [.ref (r 1), .int p0] (fun U => U.heap.size = sz ∧ va_P (dC, dI) vwCl (wd_583 r k fz0) U.heap ∧ va_K (dC, dI) vwCl [((k 0), .int), ((k 1), .int), ((k 2), .int)] U ∧ va_D (fun _ => True) (wd_583 r k fz0))) (va_Qv (fun (_ : Unit) => True) (fun _ t => ∃ f598 : Nat → Int32, va_P (dC, dI) vwCl (wd_582 r k f598) t.heap ∧ va_K (dC, dI) vwCl [((k 0), .int), ((k 1), .int), ((k 2), .int)] t ∧ va_D (va_A (wd_583 r k fz0) sz) (wd_582 r k f598)) (va_A (wd_583 r k fz0) sz)) 0 0 (va_A (wd_583 r k fz0) sz) := by
  refine Met.ofW (cc := cX10_append) (maxL := 3) (ret := none) (by decide) rfl ?_
  intro p e s m args below meth c s₁ B hml hv
  obtain ⟨rfl, hsz, hP, hK, hD0⟩ := hv
  have hx := B.exec
  have hb := B.bytes
  have hr := B.returns
  have hts : ∀ w ∈ wA, w.before [.ref (r 1), .int p0].toArray s = true := fun w h => atoms_spec (ws := Cond.code yX10_append cX10_append 3 none :: wA) B.pre w (List.mem_cons_of_mem _ h)
  have hown : s.vm.findClass RX10 = some m.cls := findClass_of_methodNamed B.named
  have hlocks := B.notSynchronized
  subst hsz
  have hD := hD0.self (sz := s.heap.size)
  generalize hAe : va_A (wd_583 r k fz0) s.heap.size = A at hD ⊢
  have hA : ∀ q : Nat, s.heap.size ≤ q → A q := fun q h => by rw [← hAe]; exact Or.inr h
  have hS : va_S A s.heap s.heap [] := va_S.rf
  have hl := lv_entry ([.ref (r 1), .int p0]) (n := 3) (Nat.le_of_ble_eq_true rfl)
  rw [lg_entry_eq]
  generalize (lg_sl ([.ref (r 1), .int p0]) ++ List.replicate (3 - (lg_sl ([.ref (r 1), .int p0])).length) Slot.unset).toArray = ls at hl ⊢
  have hl : lv_has ls 3 [(0, .ref (r 1)), (1, .int p0)] := hl
  refine lv_bipush (v := 24) hx hb dX10_append_0 (by decide) ?_
  refine lv_istore_n (lv' := [(2, .int 24), (0, .ref (r 1)), (1, .int p0)]) hx hb dX10_append_2 rfl hl (by decide) rfl (fun ls hl => ?_)
  refine lv_iload_n hx hb dX10_append_3 rfl (lv_at hl 0 rfl) ?_
  refine lv_if_lt (tgt := 49) hx hb dX10_append_4 (by decide) (fun c_0 => absurd c_0 (by decide)) (fun c_0 => ?_)
  refine lv_aload_n hx hb dX10_append_7 rfl (lv_at hl 1 rfl) ?_
  refine va_get (D := (dC, dI)) (ci := 10) (v := .int 16) (C := RX10) (T := TX10) (N := 10) hx hb hts i_X10 hown hK hP 1 rfl rfl 1 (by decide) (hts _ q_6) (fun _ h9 => h9) rfl dX10_append_8 ?_
  refine lv_sipush (v := 1600) hx hb dX10_append_11 (by decide) ?_
  refine lv_icmp_ge (tgt := 49) hx hb dX10_append_14 (by decide) (fun c_0 => absurd c_0 (by decide)) (fun c_0 => ?_)
  refine lv_aload_n hx hb dX10_append_17 rfl (lv_at hl 1 rfl) ?_
  refine va_get (D := (dC, dI)) (ci := 10) (v := .ref (r 18)) (C := RX10) (T := TX10) (N := 10) hx hb hts i_X10 hown hK hP 1 rfl rfl 0 (by decide) (hts _ q_5) (fun _ h9 => h9) rfl dX10_append_18 ?_
  refine lv_aload_n hx hb dX10_append_21 rfl (lv_at hl 1 rfl) ?_
  refine va_get (D := (dC, dI)) (ci := 10) (v := .int 16) (C := RX10) (T := TX10) (N := 10) hx hb hts i_X10 hown hK hP 1 rfl rfl 1 (by decide) (hts _ q_6) (fun _ h9 => h9) rfl dX10_append_22 ?_
  refine lv_iload_n hx hb dX10_append_25 rfl (lv_at hl 2 rfl) ?_
  refine lv_iload_n hx hb dX10_append_26 rfl (lv_at hl 0 rfl) ?_
  refine lv_ishr hx hb dX10_append_27 ?_
  refine lv_topi (fun x_584 ex_584 => ?_)
  refine lv_sipush (v := 255) hx hb dX10_append_28 (by decide) ?_
  refine lv_iand hx hb dX10_append_31 ?_
  refine lv_topi (fun x_585 ex_585 => ?_)
  refine va_iast hx hb hK hP hD hS 2 0 rfl rfl (vpi (by decide)) dX10_append_32 (fun H locs hP hD hS => ?_)
  obtain ⟨f586, hP, hD⟩ : ∃ f : Nat → Int32, va_P (dC, dI) vwCl (wd_563 r k f) H ∧ va_D A (wd_563 r k f) := ⟨_, hP, hD⟩
  have hP : va_P (dC, dI) vwCl (wd_575 r k f586) H := hP
  have hD : va_D A (wd_575 r k f586) := hD
  refine lv_aload_n hx hb dX10_append_33 rfl (lv_at hl 1 rfl) ?_
  refine lv_dup hx hb dX10_append_34 rfl ?_
  refine va_get (D := (dC, dI)) (ci := 10) (v := .int 16) (C := RX10) (T := TX10) (N := 10) hx hb hts i_X10 hown hK hP 1 rfl rfl 1 (by decide) (hts _ q_6) (fun _ h9 => h9) rfl dX10_append_35 ?_
  refine lv_iconst (v := 1) hx hb dX10_append_38 (by decide) ?_
  refine lv_iadd hx hb dX10_append_39 ?_
  refine lv_topi (fun x_587 ex_587 => ?_)
  obtain rfl : x_587 = 17 := ex_587.trans (by decide)
  refine va_put (D := (dC, dI)) (ci := 10) (v := .int 17) (ty := tyX10 1) (C := RX10) (T := TX10) (N := 10) hx hb hts i_X10 tyX10 tyX10_ok nmX10 hown hK hP hD hS 1 rfl rfl 1 (by decide) (hts _ q_6) (fun _ h9 => h9) rfl (tyX10_ok 1 (by decide)) rfl rfl (Nat.le_of_ble_eq_true rfl) dX10_append_40 (fun H locs hP hD hS => ?_)
  have hP : va_P (dC, dI) vwCl (wd_576 r k f586) H := hP
  have hD : va_D A (wd_576 r k f586) := hD
  refine lv_iinc (v := 16) (lv' := [(2, .int 16), (0, .ref (r 1)), (1, .int p0)]) hx hb dX10_append_43 hl (k := 0) rfl (by decide) (by decide) rfl (fun ls hl => ?_)
  refine lv_goto (tgt := 3) hx hb dX10_append_46 (by decide) ?_
  refine lv_iload_n hx hb dX10_append_3 rfl (lv_at hl 0 rfl) ?_
  refine lv_if_lt (tgt := 49) hx hb dX10_append_4 (by decide) (fun c_0 => absurd c_0 (by decide)) (fun c_0 => ?_)
  refine lv_aload_n hx hb dX10_append_7 rfl (lv_at hl 1 rfl) ?_
  refine va_get (D := (dC, dI)) (ci := 10) (v := .int 17) (C := RX10) (T := TX10) (N := 10) hx hb hts i_X10 hown hK hP 1 rfl rfl 1 (by decide) (hts _ q_6) (fun _ h9 => h9) rfl dX10_append_8 ?_
  refine lv_sipush (v := 1600) hx hb dX10_append_11 (by decide) ?_
  refine lv_icmp_ge (tgt := 49) hx hb dX10_append_14 (by decide) (fun c_0 => absurd c_0 (by decide)) (fun c_0 => ?_)
  refine lv_aload_n hx hb dX10_append_17 rfl (lv_at hl 1 rfl) ?_
  refine va_get (D := (dC, dI)) (ci := 10) (v := .ref (r 18)) (C := RX10) (T := TX10) (N := 10) hx hb hts i_X10 hown hK hP 1 rfl rfl 0 (by decide) (hts _ q_5) (fun _ h9 => h9) rfl dX10_append_18 ?_
  refine lv_aload_n hx hb dX10_append_21 rfl (lv_at hl 1 rfl) ?_
  refine va_get (D := (dC, dI)) (ci := 10) (v := .int 17) (C := RX10) (T := TX10) (N := 10) hx hb hts i_X10 hown hK hP 1 rfl rfl 1 (by decide) (hts _ q_6) (fun _ h9 => h9) rfl dX10_append_22 ?_
  refine lv_iload_n hx hb dX10_append_25 rfl (lv_at hl 2 rfl) ?_
  refine lv_iload_n hx hb dX10_append_26 rfl (lv_at hl 0 rfl) ?_
  refine lv_ishr hx hb dX10_append_27 ?_
  refine lv_topi (fun x_588 ex_588 => ?_)
  refine lv_sipush (v := 255) hx hb dX10_append_28 (by decide) ?_
  refine lv_iand hx hb dX10_append_31 ?_
  refine lv_topi (fun x_589 ex_589 => ?_)
  refine va_iast hx hb hK hP hD hS 2 0 rfl rfl (vpi (by decide)) dX10_append_32 (fun H locs hP hD hS => ?_)
  obtain ⟨f590, hP, hD⟩ : ∃ f : Nat → Int32, va_P (dC, dI) vwCl (wd_566 r k f) H ∧ va_D A (wd_566 r k f) := ⟨_, hP, hD⟩
  have hP : va_P (dC, dI) vwCl (wd_577 r k f590) H := hP
  have hD : va_D A (wd_577 r k f590) := hD
  refine lv_aload_n hx hb dX10_append_33 rfl (lv_at hl 1 rfl) ?_
  refine lv_dup hx hb dX10_append_34 rfl ?_
  refine va_get (D := (dC, dI)) (ci := 10) (v := .int 17) (C := RX10) (T := TX10) (N := 10) hx hb hts i_X10 hown hK hP 1 rfl rfl 1 (by decide) (hts _ q_6) (fun _ h9 => h9) rfl dX10_append_35 ?_
  refine lv_iconst (v := 1) hx hb dX10_append_38 (by decide) ?_
  refine lv_iadd hx hb dX10_append_39 ?_
  refine lv_topi (fun x_591 ex_591 => ?_)
  obtain rfl : x_591 = 18 := ex_591.trans (by decide)
  refine va_put (D := (dC, dI)) (ci := 10) (v := .int 18) (ty := tyX10 1) (C := RX10) (T := TX10) (N := 10) hx hb hts i_X10 tyX10 tyX10_ok nmX10 hown hK hP hD hS 1 rfl rfl 1 (by decide) (hts _ q_6) (fun _ h9 => h9) rfl (tyX10_ok 1 (by decide)) rfl rfl (Nat.le_of_ble_eq_true rfl) dX10_append_40 (fun H locs hP hD hS => ?_)
  have hP : va_P (dC, dI) vwCl (wd_578 r k f590) H := hP
  have hD : va_D A (wd_578 r k f590) := hD
  refine lv_iinc (v := 8) (lv' := [(2, .int 8), (0, .ref (r 1)), (1, .int p0)]) hx hb dX10_append_43 hl (k := 0) rfl (by decide) (by decide) rfl (fun ls hl => ?_)
  refine lv_goto (tgt := 3) hx hb dX10_append_46 (by decide) ?_
  refine lv_iload_n hx hb dX10_append_3 rfl (lv_at hl 0 rfl) ?_
  refine lv_if_lt (tgt := 49) hx hb dX10_append_4 (by decide) (fun c_0 => absurd c_0 (by decide)) (fun c_0 => ?_)
  refine lv_aload_n hx hb dX10_append_7 rfl (lv_at hl 1 rfl) ?_
  refine va_get (D := (dC, dI)) (ci := 10) (v := .int 18) (C := RX10) (T := TX10) (N := 10) hx hb hts i_X10 hown hK hP 1 rfl rfl 1 (by decide) (hts _ q_6) (fun _ h9 => h9) rfl dX10_append_8 ?_
  refine lv_sipush (v := 1600) hx hb dX10_append_11 (by decide) ?_
  refine lv_icmp_ge (tgt := 49) hx hb dX10_append_14 (by decide) (fun c_0 => absurd c_0 (by decide)) (fun c_0 => ?_)
  refine lv_aload_n hx hb dX10_append_17 rfl (lv_at hl 1 rfl) ?_
  refine va_get (D := (dC, dI)) (ci := 10) (v := .ref (r 18)) (C := RX10) (T := TX10) (N := 10) hx hb hts i_X10 hown hK hP 1 rfl rfl 0 (by decide) (hts _ q_5) (fun _ h9 => h9) rfl dX10_append_18 ?_
  refine lv_aload_n hx hb dX10_append_21 rfl (lv_at hl 1 rfl) ?_
  refine va_get (D := (dC, dI)) (ci := 10) (v := .int 18) (C := RX10) (T := TX10) (N := 10) hx hb hts i_X10 hown hK hP 1 rfl rfl 1 (by decide) (hts _ q_6) (fun _ h9 => h9) rfl dX10_append_22 ?_
  refine lv_iload_n hx hb dX10_append_25 rfl (lv_at hl 2 rfl) ?_
  refine lv_iload_n hx hb dX10_append_26 rfl (lv_at hl 0 rfl) ?_
  refine lv_ishr hx hb dX10_append_27 ?_
  refine lv_topi (fun x_592 ex_592 => ?_)
  refine lv_sipush (v := 255) hx hb dX10_append_28 (by decide) ?_
  refine lv_iand hx hb dX10_append_31 ?_
  refine lv_topi (fun x_593 ex_593 => ?_)
  refine va_iast hx hb hK hP hD hS 2 0 rfl rfl (vpi (by decide)) dX10_append_32 (fun H locs hP hD hS => ?_)
  obtain ⟨f594, hP, hD⟩ : ∃ f : Nat → Int32, va_P (dC, dI) vwCl (wd_569 r k f) H ∧ va_D A (wd_569 r k f) := ⟨_, hP, hD⟩
  have hP : va_P (dC, dI) vwCl (wd_579 r k f594) H := hP
  have hD : va_D A (wd_579 r k f594) := hD
  refine lv_aload_n hx hb dX10_append_33 rfl (lv_at hl 1 rfl) ?_
  refine lv_dup hx hb dX10_append_34 rfl ?_
  refine va_get (D := (dC, dI)) (ci := 10) (v := .int 18) (C := RX10) (T := TX10) (N := 10) hx hb hts i_X10 hown hK hP 1 rfl rfl 1 (by decide) (hts _ q_6) (fun _ h9 => h9) rfl dX10_append_35 ?_
  refine lv_iconst (v := 1) hx hb dX10_append_38 (by decide) ?_
  refine lv_iadd hx hb dX10_append_39 ?_
  refine lv_topi (fun x_595 ex_595 => ?_)
  obtain rfl : x_595 = 19 := ex_595.trans (by decide)
  refine va_put (D := (dC, dI)) (ci := 10) (v := .int 19) (ty := tyX10 1) (C := RX10) (T := TX10) (N := 10) hx hb hts i_X10 tyX10 tyX10_ok nmX10 hown hK hP hD hS 1 rfl rfl 1 (by decide) (hts _ q_6) (fun _ h9 => h9) rfl (tyX10_ok 1 (by decide)) rfl rfl (Nat.le_of_ble_eq_true rfl) dX10_append_40 (fun H locs hP hD hS => ?_)
  have hP : va_P (dC, dI) vwCl (wd_580 r k f594) H := hP
  have hD : va_D A (wd_580 r k f594) := hD
  refine lv_iinc (v := 0) (lv' := [(2, .int 0), (0, .ref (r 1)), (1, .int p0)]) hx hb dX10_append_43 hl (k := 0) rfl (by decide) (by decide) rfl (fun ls hl => ?_)
  refine lv_goto (tgt := 3) hx hb dX10_append_46 (by decide) ?_
  refine lv_iload_n hx hb dX10_append_3 rfl (lv_at hl 0 rfl) ?_
  refine lv_if_lt (tgt := 49) hx hb dX10_append_4 (by decide) (fun c_0 => absurd c_0 (by decide)) (fun c_0 => ?_)
  refine lv_aload_n hx hb dX10_append_7 rfl (lv_at hl 1 rfl) ?_
  refine va_get (D := (dC, dI)) (ci := 10) (v := .int 19) (C := RX10) (T := TX10) (N := 10) hx hb hts i_X10 hown hK hP 1 rfl rfl 1 (by decide) (hts _ q_6) (fun _ h9 => h9) rfl dX10_append_8 ?_
  refine lv_sipush (v := 1600) hx hb dX10_append_11 (by decide) ?_
  refine lv_icmp_ge (tgt := 49) hx hb dX10_append_14 (by decide) (fun c_0 => absurd c_0 (by decide)) (fun c_0 => ?_)
  refine lv_aload_n hx hb dX10_append_17 rfl (lv_at hl 1 rfl) ?_
  refine va_get (D := (dC, dI)) (ci := 10) (v := .ref (r 18)) (C := RX10) (T := TX10) (N := 10) hx hb hts i_X10 hown hK hP 1 rfl rfl 0 (by decide) (hts _ q_5) (fun _ h9 => h9) rfl dX10_append_18 ?_
  refine lv_aload_n hx hb dX10_append_21 rfl (lv_at hl 1 rfl) ?_
  refine va_get (D := (dC, dI)) (ci := 10) (v := .int 19) (C := RX10) (T := TX10) (N := 10) hx hb hts i_X10 hown hK hP 1 rfl rfl 1 (by decide) (hts _ q_6) (fun _ h9 => h9) rfl dX10_append_22 ?_
  refine lv_iload_n hx hb dX10_append_25 rfl (lv_at hl 2 rfl) ?_
  refine lv_iload_n hx hb dX10_append_26 rfl (lv_at hl 0 rfl) ?_
  refine lv_ishr hx hb dX10_append_27 ?_
  refine lv_topi (fun x_596 ex_596 => ?_)
  refine lv_sipush (v := 255) hx hb dX10_append_28 (by decide) ?_
  refine lv_iand hx hb dX10_append_31 ?_
  refine lv_topi (fun x_597 ex_597 => ?_)
  refine va_iast hx hb hK hP hD hS 2 0 rfl rfl (vpi (by decide)) dX10_append_32 (fun H locs hP hD hS => ?_)
  obtain ⟨f598, hP, hD⟩ : ∃ f : Nat → Int32, va_P (dC, dI) vwCl (wd_572 r k f) H ∧ va_D A (wd_572 r k f) := ⟨_, hP, hD⟩
  have hP : va_P (dC, dI) vwCl (wd_581 r k f598) H := hP
  have hD : va_D A (wd_581 r k f598) := hD
  refine lv_aload_n hx hb dX10_append_33 rfl (lv_at hl 1 rfl) ?_
  refine lv_dup hx hb dX10_append_34 rfl ?_
  refine va_get (D := (dC, dI)) (ci := 10) (v := .int 19) (C := RX10) (T := TX10) (N := 10) hx hb hts i_X10 hown hK hP 1 rfl rfl 1 (by decide) (hts _ q_6) (fun _ h9 => h9) rfl dX10_append_35 ?_
  refine lv_iconst (v := 1) hx hb dX10_append_38 (by decide) ?_
  refine lv_iadd hx hb dX10_append_39 ?_
  refine lv_topi (fun x_599 ex_599 => ?_)
  obtain rfl : x_599 = 20 := ex_599.trans (by decide)
  refine va_put (D := (dC, dI)) (ci := 10) (v := .int 20) (ty := tyX10 1) (C := RX10) (T := TX10) (N := 10) hx hb hts i_X10 tyX10 tyX10_ok nmX10 hown hK hP hD hS 1 rfl rfl 1 (by decide) (hts _ q_6) (fun _ h9 => h9) rfl (tyX10_ok 1 (by decide)) rfl rfl (Nat.le_of_ble_eq_true rfl) dX10_append_40 (fun H locs hP hD hS => ?_)
  have hP : va_P (dC, dI) vwCl (wd_582 r k f598) H := hP
  have hD : va_D A (wd_582 r k f598) := hD
  refine lv_iinc (v := (-8)) (lv' := [(2, .int (-8)), (0, .ref (r 1)), (1, .int p0)]) hx hb dX10_append_43 hl (k := 0) rfl (by decide) (by decide) rfl (fun ls hl => ?_)
  refine lv_goto (tgt := 3) hx hb dX10_append_46 (by decide) ?_
  refine lv_iload_n hx hb dX10_append_3 rfl (lv_at hl 0 rfl) ?_
  refine lv_if_lt (tgt := 49) hx hb dX10_append_4 (by decide) (fun c_0 => ?_) (fun c_0 => absurd c_0 (by decide))
  refine W.widen (k := 0) (n := 0) (Nat.le_of_ble_eq_true rfl) (Nat.le_of_ble_eq_true rfl) ?_
  have hP9 := hP.sub (ws' := (wd_582 r k f598)) [0, 1, 2, 3, 4, 5, 6, 7, 8, 9, 10, 11, 12, 13] rfl
  have hD9 := hD.sub (ws' := (wd_582 r k f598)) [0, 1, 2, 3, 4, 5, 6, 7, 8, 9, 10, 11, 12, 13] (by decide) rfl
  have hK9 := hK.sub (tys' := [((k 0), .int), ((k 1), .int), ((k 2), .int)]) [0, 1, 2] rfl
  exact W.vret hx hb hr (fun t ht hW => ⟨⟨(), rfl, trivial, f598, by rw [ht]; exact hP9, va_K.moved hW.alike hK9, hD9⟩, hS.F ht⟩) hS.2.2 dX10_append_49
def wd_584 (r : Nat → Nat) (k : Nat → ClassId) (f601 : Nat → Int32) : va_W := [((r 0), .inr (11, [.ref (r 1), .ref (r 2), .ref (r 3), .ref (r 4), .ref (r 5), .ref (r 6), .ref (r 7), .ref (r 8), .ref (r 9), .ref (r 10), .ref (r 11), .ref (r 12), .ref (r 13), .ref (r 14), .ref (r 15), .int 0, .int 0, .ref (r 16), .int (-1), .ref (r 17)])), ((r 1), .inr (10, [.ref (r 18), .int 20, .int 0, .int 0, .int (-1), .int (-1), .long 0, .int 0, .int 0, .int (-1)])), ((r 18), .inl ((k 0), 1600, .inl f601)), ((r 14), .inl ((k 1), 7, .inl (fun _ => 0))), ((r 4), .inr (8, [.int 0, .int 0, .int 0, .ref (r 19), .int 0, .int 0, .ref (r 20), .int 0, .int 0, .int 0, .int 0, .int 0, .int 0, .ref (r 21)])), ((r 2), .inr (2, [.int 0, .ref (r 22), .ref (r 23), .ref (r 24)])), ((r 3), .inr (2, [.int 0, .ref (r 25), .ref (r 26), .ref (r 27)])), ((r 5), .inr (8, [.int 0, .int 0, .int 0, .ref (r 28), .int 0, .int 0, .ref (r 29), .int 0, .int 0, .int 0, .int 0, .int 0, .int 0, .ref (r 30)])), ((r 28), .inl ((k 2), 168, .inl (fun _ => 0))), ((r 8), .inr (1, [.ref (r 1), .ref (r 3), .ref (r 5), .ref (r 31), .ref (r 32), .int 0, .int 0, .int 3047])), ((r 10), .inr (5, [.ref (r 4), .ref (r 2), .ref (r 7), .ref (r 9), .ref (r 33), .ref (r 34), .int 0, .int 0, .int 0, .int 0, .int (-1)])), ((r 11), .inr (0, [.ref (r 2), .ref (r 7), .long 1])), ((r 12), .inr (6, [.ref (r 7), .ref (r 35), .ref (r 36), .ref (r 37), .int 0, .ref (r 38), .int 0, .int (-1), .int (-1), .null, .null])), ((r 13), .inr (3, [.ref (r 2), .ref (r 39), .int 0]))]
def wd_585 (r : Nat → Nat) (k : Nat → ClassId) (f604 : Nat → Int32) : va_W := [((r 0), .inr (11, [.ref (r 1), .ref (r 2), .ref (r 3), .ref (r 4), .ref (r 5), .ref (r 6), .ref (r 7), .ref (r 8), .ref (r 9), .ref (r 10), .ref (r 11), .ref (r 12), .ref (r 13), .ref (r 14), .ref (r 15), .int 0, .int 0, .ref (r 16), .int (-1), .ref (r 17)])), ((r 1), .inr (10, [.ref (r 18), .int 4, .int 0, .int 0, .int (-1), .int (-1), .long 0, .int 0, .int 0, .int (-1)])), ((r 18), .inl ((k 0), 1600, .inl f604)), ((r 14), .inl ((k 1), 7, .inl (fun _ => 0))), ((r 4), .inr (8, [.int 0, .int 0, .int 0, .ref (r 19), .int 0, .int 0, .ref (r 20), .int 0, .int 0, .int 0, .int 0, .int 0, .int 0, .ref (r 21)])), ((r 2), .inr (2, [.int 0, .ref (r 22), .ref (r 23), .ref (r 24)])), ((r 3), .inr (2, [.int 0, .ref (r 25), .ref (r 26), .ref (r 27)])), ((r 5), .inr (8, [.int 0, .int 0, .int 0, .ref (r 28), .int 0, .int 0, .ref (r 29), .int 0, .int 0, .int 0, .int 0, .int 0, .int 0, .ref (r 30)])), ((r 28), .inl ((k 2), 168, .inl (fun _ => 0))), ((r 8), .inr (1, [.ref (r 1), .ref (r 3), .ref (r 5), .ref (r 31), .ref (r 32), .int 0, .int 0, .int 3047])), ((r 10), .inr (5, [.ref (r 4), .ref (r 2), .ref (r 7), .ref (r 9), .ref (r 33), .ref (r 34), .int 0, .int 0, .int 0, .int 0, .int (-1)])), ((r 11), .inr (0, [.ref (r 2), .ref (r 7), .long 1])), ((r 12), .inr (6, [.ref (r 7), .ref (r 35), .ref (r 36), .ref (r 37), .int 0, .ref (r 38), .int 0, .int (-1), .int (-1), .null, .null])), ((r 13), .inr (3, [.ref (r 2), .ref (r 39), .int 0]))]
def wd_586 (r : Nat → Nat) (k : Nat → ClassId) (f606 : Nat → Int32) : va_W := [((r 0), .inr (11, [.ref (r 1), .ref (r 2), .ref (r 3), .ref (r 4), .ref (r 5), .ref (r 6), .ref (r 7), .ref (r 8), .ref (r 9), .ref (r 10), .ref (r 11), .ref (r 12), .ref (r 13), .ref (r 14), .ref (r 15), .int 0, .int 0, .ref (r 16), .int (-1), .ref (r 17)])), ((r 1), .inr (10, [.ref (r 18), .int 8, .int 0, .int 0, .int (-1), .int (-1), .long 0, .int 0, .int 0, .int (-1)])), ((r 18), .inl ((k 0), 1600, .inl f606)), ((r 14), .inl ((k 1), 7, .inl (fun _ => 0))), ((r 4), .inr (8, [.int 0, .int 0, .int 0, .ref (r 19), .int 0, .int 0, .ref (r 20), .int 0, .int 0, .int 0, .int 0, .int 0, .int 0, .ref (r 21)])), ((r 2), .inr (2, [.int 0, .ref (r 22), .ref (r 23), .ref (r 24)])), ((r 3), .inr (2, [.int 0, .ref (r 25), .ref (r 26), .ref (r 27)])), ((r 5), .inr (8, [.int 0, .int 0, .int 0, .ref (r 28), .int 0, .int 0, .ref (r 29), .int 0, .int 0, .int 0, .int 0, .int 0, .int 0, .ref (r 30)])), ((r 28), .inl ((k 2), 168, .inl (fun _ => 0))), ((r 8), .inr (1, [.ref (r 1), .ref (r 3), .ref (r 5), .ref (r 31), .ref (r 32), .int 0, .int 0, .int 3047])), ((r 10), .inr (5, [.ref (r 4), .ref (r 2), .ref (r 7), .ref (r 9), .ref (r 33), .ref (r 34), .int 0, .int 0, .int 0, .int 0, .int (-1)])), ((r 11), .inr (0, [.ref (r 2), .ref (r 7), .long 1])), ((r 12), .inr (6, [.ref (r 7), .ref (r 35), .ref (r 36), .ref (r 37), .int 0, .ref (r 38), .int 0, .int (-1), .int (-1), .null, .null])), ((r 13), .inr (3, [.ref (r 2), .ref (r 39), .int 0]))]
def wd_587 (r : Nat → Nat) (k : Nat → ClassId) (f608 : Nat → Int32) : va_W := [((r 0), .inr (11, [.ref (r 1), .ref (r 2), .ref (r 3), .ref (r 4), .ref (r 5), .ref (r 6), .ref (r 7), .ref (r 8), .ref (r 9), .ref (r 10), .ref (r 11), .ref (r 12), .ref (r 13), .ref (r 14), .ref (r 15), .int 0, .int 0, .ref (r 16), .int (-1), .ref (r 17)])), ((r 1), .inr (10, [.ref (r 18), .int 12, .int 0, .int 0, .int (-1), .int (-1), .long 0, .int 0, .int 0, .int (-1)])), ((r 18), .inl ((k 0), 1600, .inl f608)), ((r 14), .inl ((k 1), 7, .inl (fun _ => 0))), ((r 4), .inr (8, [.int 0, .int 0, .int 0, .ref (r 19), .int 0, .int 0, .ref (r 20), .int 0, .int 0, .int 0, .int 0, .int 0, .int 0, .ref (r 21)])), ((r 2), .inr (2, [.int 0, .ref (r 22), .ref (r 23), .ref (r 24)])), ((r 3), .inr (2, [.int 0, .ref (r 25), .ref (r 26), .ref (r 27)])), ((r 5), .inr (8, [.int 0, .int 0, .int 0, .ref (r 28), .int 0, .int 0, .ref (r 29), .int 0, .int 0, .int 0, .int 0, .int 0, .int 0, .ref (r 30)])), ((r 28), .inl ((k 2), 168, .inl (fun _ => 0))), ((r 8), .inr (1, [.ref (r 1), .ref (r 3), .ref (r 5), .ref (r 31), .ref (r 32), .int 0, .int 0, .int 3047])), ((r 10), .inr (5, [.ref (r 4), .ref (r 2), .ref (r 7), .ref (r 9), .ref (r 33), .ref (r 34), .int 0, .int 0, .int 0, .int 0, .int (-1)])), ((r 11), .inr (0, [.ref (r 2), .ref (r 7), .long 1])), ((r 12), .inr (6, [.ref (r 7), .ref (r 35), .ref (r 36), .ref (r 37), .int 0, .ref (r 38), .int 0, .int (-1), .int (-1), .null, .null])), ((r 13), .inr (3, [.ref (r 2), .ref (r 39), .int 0]))]
def wd_588 (r : Nat → Nat) (k : Nat → ClassId) (f610 : Nat → Int32) : va_W := [((r 0), .inr (11, [.ref (r 1), .ref (r 2), .ref (r 3), .ref (r 4), .ref (r 5), .ref (r 6), .ref (r 7), .ref (r 8), .ref (r 9), .ref (r 10), .ref (r 11), .ref (r 12), .ref (r 13), .ref (r 14), .ref (r 15), .int 0, .int 0, .ref (r 16), .int (-1), .ref (r 17)])), ((r 1), .inr (10, [.ref (r 18), .int 16, .int 0, .int 0, .int (-1), .int (-1), .long 0, .int 0, .int 0, .int (-1)])), ((r 18), .inl ((k 0), 1600, .inl f610)), ((r 14), .inl ((k 1), 7, .inl (fun _ => 0))), ((r 4), .inr (8, [.int 0, .int 0, .int 0, .ref (r 19), .int 0, .int 0, .ref (r 20), .int 0, .int 0, .int 0, .int 0, .int 0, .int 0, .ref (r 21)])), ((r 2), .inr (2, [.int 0, .ref (r 22), .ref (r 23), .ref (r 24)])), ((r 3), .inr (2, [.int 0, .ref (r 25), .ref (r 26), .ref (r 27)])), ((r 5), .inr (8, [.int 0, .int 0, .int 0, .ref (r 28), .int 0, .int 0, .ref (r 29), .int 0, .int 0, .int 0, .int 0, .int 0, .int 0, .ref (r 30)])), ((r 28), .inl ((k 2), 168, .inl (fun _ => 0))), ((r 8), .inr (1, [.ref (r 1), .ref (r 3), .ref (r 5), .ref (r 31), .ref (r 32), .int 0, .int 0, .int 3047])), ((r 10), .inr (5, [.ref (r 4), .ref (r 2), .ref (r 7), .ref (r 9), .ref (r 33), .ref (r 34), .int 0, .int 0, .int 0, .int 0, .int (-1)])), ((r 11), .inr (0, [.ref (r 2), .ref (r 7), .long 1])), ((r 12), .inr (6, [.ref (r 7), .ref (r 35), .ref (r 36), .ref (r 37), .int 0, .ref (r 38), .int 0, .int (-1), .int (-1), .null, .null])), ((r 13), .inr (3, [.ref (r 2), .ref (r 39), .int 0]))]
def wd_589 (r : Nat → Nat) (k : Nat → ClassId) (f612 : Nat → Int32) : va_W := [((r 0), .inr (11, [.ref (r 1), .ref (r 2), .ref (r 3), .ref (r 4), .ref (r 5), .ref (r 6), .ref (r 7), .ref (r 8), .ref (r 9), .ref (r 10), .ref (r 11), .ref (r 12), .ref (r 13), .ref (r 14), .ref (r 15), .int 0, .int 0, .ref (r 16), .int (-1), .ref (r 17)])), ((r 1), .inr (10, [.ref (r 18), .int 20, .int 0, .int 0, .int (-1), .int (-1), .long 0, .int 0, .int 0, .int (-1)])), ((r 18), .inl ((k 0), 1600, .inl f612)), ((r 14), .inl ((k 1), 7, .inl (fun _ => 0))), ((r 4), .inr (8, [.int 0, .int 0, .int 0, .ref (r 19), .int 0, .int 0, .ref (r 20), .int 0, .int 0, .int 0, .int 0, .int 0, .int 0, .ref (r 21)])), ((r 2), .inr (2, [.int 0, .ref (r 22), .ref (r 23), .ref (r 24)])), ((r 3), .inr (2, [.int 0, .ref (r 25), .ref (r 26), .ref (r 27)])), ((r 5), .inr (8, [.int 0, .int 0, .int 0, .ref (r 28), .int 0, .int 0, .ref (r 29), .int 0, .int 0, .int 0, .int 0, .int 0, .int 0, .ref (r 30)])), ((r 28), .inl ((k 2), 168, .inl (fun _ => 0))), ((r 8), .inr (1, [.ref (r 1), .ref (r 3), .ref (r 5), .ref (r 31), .ref (r 32), .int 0, .int 0, .int 3047])), ((r 10), .inr (5, [.ref (r 4), .ref (r 2), .ref (r 7), .ref (r 9), .ref (r 33), .ref (r 34), .int 0, .int 0, .int 0, .int 0, .int (-1)])), ((r 11), .inr (0, [.ref (r 2), .ref (r 7), .long 1])), ((r 12), .inr (6, [.ref (r 7), .ref (r 35), .ref (r 36), .ref (r 37), .int 0, .ref (r 38), .int 0, .int (-1), .int (-1), .null, .null])), ((r 13), .inr (3, [.ref (r 2), .ref (r 39), .int 0]))]
set_option maxHeartbeats 4000000 in
set_option maxRecDepth 100000 in
theorem mX11_feed (l : Launch) (dC : Nat → ClassId) (dI : Nat → Nat → Nat) (r : Nat → Nat) (k : Nat → ClassId) (p1 : Int32) (p2 : Int32) (p3 : Int32) (p4 : Int32) (p5 : Int32) (sz : Nat) : Met l yX11_feed (Cond.code yX11_feed cX11_feed 6 (some .int) :: wA) ({ frames := 1, cells := 0, slots := 0, locals := 22 }) (va_Pc [.ref (r 0), .int p1, .int p2, .int p3, .int p4, .int p5] (fun U => U.heap.size = sz ∧ va_P (dC, dI) vwCl (wd_495 r k) U.heap ∧ va_K (dC, dI) vwCl [((k 0), .int), ((k 1), .int), ((k 2), .int)] U ∧ va_D (fun _ => True) (wd_495 r k))) (va_Qi (fun (r : Int32) (_ : Unit) => r = 20) (fun _ t => True) (va_A (wd_495 r k) sz)) 0 0 (va_A (wd_495 r k) sz) := by
  refine Met.ofW (cc := cX11_feed) (maxL := 6) (ret := (some .int)) (by decide) rfl ?_
  intro p e s m args below meth c s₁ B hml hv
  obtain ⟨rfl, hsz, hP, hK, hD0⟩ := hv
  have hx := B.exec
  have hb := B.bytes
  have hr := B.returns
  have hts : ∀ w ∈ wA, w.before [.ref (r 0), .int p1, .int p2, .int p3, .int p4, .int p5].toArray s = true := fun w h => atoms_spec (ws := Cond.code yX11_feed cX11_feed 6 (some .int) :: wA) B.pre w (List.mem_cons_of_mem _ h)
  have hown : s.vm.findClass RX11 = some m.cls := findClass_of_methodNamed B.named
  have hlocks := B.notSynchronized
  subst hsz
  have hD := hD0.self (sz := s.heap.size)
  generalize hAe : va_A (wd_495 r k) s.heap.size = A at hD ⊢
  have hA : ∀ q : Nat, s.heap.size ≤ q → A q := fun q h => by rw [← hAe]; exact Or.inr h
  have hS : va_S A s.heap s.heap [] := va_S.rf
  have hl := lv_entry ([.ref (r 0), .int p1, .int p2, .int p3, .int p4, .int p5]) (n := 6) (Nat.le_of_ble_eq_true rfl)
  rw [lg_entry_eq]
  generalize (lg_sl ([.ref (r 0), .int p1, .int p2, .int p3, .int p4, .int p5]) ++ List.replicate (6 - (lg_sl ([.ref (r 0), .int p1, .int p2, .int p3, .int p4, .int p5])).length) Slot.unset).toArray = ls at hl ⊢
  have hl : lv_has ls 6 [(0, .ref (r 0)), (1, .int p1), (2, .int p2), (3, .int p3), (4, .int p4), (5, .int p5)] := hl
  refine lv_aload_n hx hb dX11_feed_0 rfl (lv_at hl 0 rfl) ?_
  refine va_get (D := (dC, dI)) (ci := 11) (v := .ref (r 1)) (C := RX11) (T := TX11) (N := 20) hx hb hts i_X11 hown hK hP 0 rfl rfl 0 (by decide) (hts _ q_120) (fun _ h9 => h9) rfl dX11_feed_1 ?_
  refine va_get (D := (dC, dI)) (ci := 10) (v := .int 0) (C := RX10) (T := TX10) (N := 10) hx hb hts i_X10 hown hK hP 1 rfl rfl 1 (by decide) (hts _ q_247) (fun _ h9 => h9) rfl dX11_feed_4 ?_
  refine lv_bipush (v := 20) hx hb dX11_feed_7 (by decide) ?_
  refine lv_iadd hx hb dX11_feed_9 ?_
  refine lv_topi (fun x_602 ex_602 => ?_)
  obtain rfl : x_602 = 20 := ex_602.trans (by decide)
  refine lv_sipush (v := 1600) hx hb dX11_feed_10 (by decide) ?_
  refine lv_icmp_le (tgt := 22) hx hb dX11_feed_13 (by decide) (fun c_0 => ?_) (fun c_0 => absurd c_0 (by decide))
  refine lv_aload_n hx hb dX11_feed_22 rfl (lv_at hl 0 rfl) ?_
  refine va_get (D := (dC, dI)) (ci := 11) (v := .ref (r 1)) (C := RX11) (T := TX11) (N := 20) hx hb hts i_X11 hown hK hP 0 rfl rfl 0 (by decide) (hts _ q_120) (fun _ h9 => h9) rfl dX11_feed_23 ?_
  refine lv_iload_n hx hb dX11_feed_26 rfl (lv_at hl 1 rfl) ?_
  have hPc := hP.sub (ws' := (wd_495 r k)) [0, 1, 2, 3, 4, 5, 6, 7, 8, 9, 10, 11, 12, 13] rfl
  have hDc := hD.sub (ws' := (wd_495 r k)) [0, 1, 2, 3, 4, 5, 6, 7, 8, 9, 10, 11, 12, 13] (by decide) rfl
  have hKc := hK.sub (tys' := [((k 0), .int), ((k 1), .int), ((k 2), .int)]) [0, 1, 2] rfl
  have hFc := va_free (wc := (wd_495 r k)) hD hS hA [0, 1, 2, 3, 4, 5, 6, 7, 8, 9, 10, 11, 12, 13] rfl
  refine va_callv (va_runV (As := [.int p1]) (rest := []) ⟨hx, hb, hml, hown, hts⟩ (c4_X10_append l dC dI r k p1 s.heap.size) (cwV 1 hts (gV q_249 q_250 q_251 q_118 q_248) rfl rfl rfl mdv_yX10_append ⟨Nat.le_of_ble_eq_true rfl, Nat.le_of_ble_eq_true rfl⟩) ⟨fun a U g mk q => by obtain ⟨q0, q1, qP, qK, qD⟩ := q; exact ⟨q0, q1, qP, va_K.moved (u := U) (U := U.calling g mk a) (Vm.Alike.refl U.vm) qK, qD⟩, va_recv hKc hPc (ci := 10) (q0 := 1) rfl rfl, fun U hU hW => ⟨rfl, by rw [hU], by rw [hU]; exact hPc, va_K.moved hW.alike hKc, hDc.weaken (fun _ _ _ _ => trivial)⟩⟩ rfl rfl hl.1 rfl (lv_room (Nat.le_of_ble_eq_true rfl)) dX11_feed_27 ⟨Nat.le_of_ble_eq_true rfl, Nat.le_of_ble_eq_true rfl⟩) hS (fun q _ h => hFc q h) hFc (fun u t H1 locs ht hvm hw hB hz1 hk1 hS => ?_)
  obtain ⟨f604, hP1, hK1, hD1⟩ := hB
  rw [ht] at hP1
  have hK1 := va_K.moved hvm.symm hK1
  obtain ⟨hP, hD⟩ := va_join (wr := []) (w1 := (wd_585 r k f604)) hP hD [0, 1, 2, 3, 4, 5, 6, 7, 8, 9, 10, 11, 12, 13] [] rfl rfl (by decide) (by decide) hk1 hFc hP1 hD1
  have hK := (hK.sub (tys' := []) [] rfl).app hK1
  have hK : va_K (dC, dI) vwCl [((k 0), .int), ((k 1), .int), ((k 2), .int)] s := hK
  generalize H1 = H at hP hS ⊢
  have hP : va_P (dC, dI) vwCl (wd_585 r k f604) H := hP
  have hD : va_D A (wd_585 r k f604) := hD
  refine lv_aload_n hx hb dX11_feed_30 rfl (lv_at hl 0 rfl) ?_
  refine va_get (D := (dC, dI)) (ci := 11) (v := .ref (r 1)) (C := RX11) (T := TX11) (N := 20) hx hb hts i_X11 hown hK hP 0 rfl rfl 0 (by decide) (hts _ q_120) (fun _ h9 => h9) rfl dX11_feed_31 ?_
  refine lv_iload_n hx hb dX11_feed_34 rfl (lv_at hl 2 rfl) ?_
  have hPc := hP.sub (ws' := (wd_585 r k f604)) [0, 1, 2, 3, 4, 5, 6, 7, 8, 9, 10, 11, 12, 13] rfl
  have hDc := hD.sub (ws' := (wd_585 r k f604)) [0, 1, 2, 3, 4, 5, 6, 7, 8, 9, 10, 11, 12, 13] (by decide) rfl
  have hKc := hK.sub (tys' := [((k 0), .int), ((k 1), .int), ((k 2), .int)]) [0, 1, 2] rfl
  have hFc := va_free (wc := (wd_585 r k f604)) hD hS hA [0, 1, 2, 3, 4, 5, 6, 7, 8, 9, 10, 11, 12, 13] rfl
  refine va_callv (va_runV (As := [.int p2]) (rest := []) ⟨hx, hb, hml, hown, hts⟩ (c5_X10_append l dC dI r k f604 p2 H.size) (cwV 1 hts (gV q_249 q_250 q_251 q_118 q_248) rfl rfl rfl mdv_yX10_append ⟨Nat.le_of_ble_eq_true rfl, Nat.le_of_ble_eq_true rfl⟩) ⟨fun a U g mk q => by obtain ⟨q0, q1, qP, qK, qD⟩ := q; exact ⟨q0, q1, qP, va_K.moved (u := U) (U := U.calling g mk a) (Vm.Alike.refl U.vm) qK, qD⟩, va_recv hKc hPc (ci := 10) (q0 := 1) rfl rfl, fun U hU hW => ⟨rfl, by rw [hU], by rw [hU]; exact hPc, va_K.moved hW.alike hKc, hDc.weaken (fun _ _ _ _ => trivial)⟩⟩ rfl rfl hl.1 rfl (lv_room (Nat.le_of_ble_eq_true rfl)) dX11_feed_35 ⟨Nat.le_of_ble_eq_true rfl, Nat.le_of_ble_eq_true rfl⟩) hS (fun q _ h => hFc q h) hFc (fun u t H1 locs ht hvm hw hB hz1 hk1 hS => ?_)
  obtain ⟨f606, hP1, hK1, hD1⟩ := hB
  rw [ht] at hP1
  have hK1 := va_K.moved hvm.symm hK1
  obtain ⟨hP, hD⟩ := va_join (wr := []) (w1 := (wd_586 r k f606)) hP hD [0, 1, 2, 3, 4, 5, 6, 7, 8, 9, 10, 11, 12, 13] [] rfl rfl (by decide) (by decide) hk1 hFc hP1 hD1
  have hK := (hK.sub (tys' := []) [] rfl).app hK1
  have hK : va_K (dC, dI) vwCl [((k 0), .int), ((k 1), .int), ((k 2), .int)] s := hK
  generalize H1 = H at hP hS ⊢
  have hP : va_P (dC, dI) vwCl (wd_586 r k f606) H := hP
  have hD : va_D A (wd_586 r k f606) := hD
  refine lv_aload_n hx hb dX11_feed_38 rfl (lv_at hl 0 rfl) ?_
  refine va_get (D := (dC, dI)) (ci := 11) (v := .ref (r 1)) (C := RX11) (T := TX11) (N := 20) hx hb hts i_X11 hown hK hP 0 rfl rfl 0 (by decide) (hts _ q_120) (fun _ h9 => h9) rfl dX11_feed_39 ?_
  refine lv_iload_n hx hb dX11_feed_42 rfl (lv_at hl 3 rfl) ?_
  have hPc := hP.sub (ws' := (wd_586 r k f606)) [0, 1, 2, 3, 4, 5, 6, 7, 8, 9, 10, 11, 12, 13] rfl
  have hDc := hD.sub (ws' := (wd_586 r k f606)) [0, 1, 2, 3, 4, 5, 6, 7, 8, 9, 10, 11, 12, 13] (by decide) rfl
  have hKc := hK.sub (tys' := [((k 0), .int), ((k 1), .int), ((k 2), .int)]) [0, 1, 2] rfl
  have hFc := va_free (wc := (wd_586 r k f606)) hD hS hA [0, 1, 2, 3, 4, 5, 6, 7, 8, 9, 10, 11, 12, 13] rfl
  refine va_callv (va_runV (As := [.int p3]) (rest := []) ⟨hx, hb, hml, hown, hts⟩ (c6_X10_append l dC dI r k f606 p3 H.size) (cwV 1 hts (gV q_249 q_250 q_251 q_118 q_248) rfl rfl rfl mdv_yX10_append ⟨Nat.le_of_ble_eq_true rfl, Nat.le_of_ble_eq_true rfl⟩) ⟨fun a U g mk q => by obtain ⟨q0, q1, qP, qK, qD⟩ := q; exact ⟨q0, q1, qP, va_K.moved (u := U) (U := U.calling g mk a) (Vm.Alike.refl U.vm) qK, qD⟩, va_recv hKc hPc (ci := 10) (q0 := 1) rfl rfl, fun U hU hW => ⟨rfl, by rw [hU], by rw [hU]; exact hPc, va_K.moved hW.alike hKc, hDc.weaken (fun _ _ _ _ => trivial)⟩⟩ rfl rfl hl.1 rfl (lv_room (Nat.le_of_ble_eq_true rfl)) dX11_feed_43 ⟨Nat.le_of_ble_eq_true rfl, Nat.le_of_ble_eq_true rfl⟩) hS (fun q _ h => hFc q h) hFc (fun u t H1 locs ht hvm hw hB hz1 hk1 hS => ?_)
  obtain ⟨f608, hP1, hK1, hD1⟩ := hB
  rw [ht] at hP1
  have hK1 := va_K.moved hvm.symm hK1
  obtain ⟨hP, hD⟩ := va_join (wr := []) (w1 := (wd_587 r k f608)) hP hD [0, 1, 2, 3, 4, 5, 6, 7, 8, 9, 10, 11, 12, 13] [] rfl rfl (by decide) (by decide) hk1 hFc hP1 hD1
  have hK := (hK.sub (tys' := []) [] rfl).app hK1
  have hK : va_K (dC, dI) vwCl [((k 0), .int), ((k 1), .int), ((k 2), .int)] s := hK
  generalize H1 = H at hP hS ⊢
  have hP : va_P (dC, dI) vwCl (wd_587 r k f608) H := hP
  have hD : va_D A (wd_587 r k f608) := hD
  refine lv_aload_n hx hb dX11_feed_46 rfl (lv_at hl 0 rfl) ?_
  refine va_get (D := (dC, dI)) (ci := 11) (v := .ref (r 1)) (C := RX11) (T := TX11) (N := 20) hx hb hts i_X11 hown hK hP 0 rfl rfl 0 (by decide) (hts _ q_120) (fun _ h9 => h9) rfl dX11_feed_47 ?_
  refine lv_iload hx hb dX11_feed_50 (lv_at hl 4 rfl) ?_
  have hPc := hP.sub (ws' := (wd_587 r k f608)) [0, 1, 2, 3, 4, 5, 6, 7, 8, 9, 10, 11, 12, 13] rfl
  have hDc := hD.sub (ws' := (wd_587 r k f608)) [0, 1, 2, 3, 4, 5, 6, 7, 8, 9, 10, 11, 12, 13] (by decide) rfl
  have hKc := hK.sub (tys' := [((k 0), .int), ((k 1), .int), ((k 2), .int)]) [0, 1, 2] rfl
  have hFc := va_free (wc := (wd_587 r k f608)) hD hS hA [0, 1, 2, 3, 4, 5, 6, 7, 8, 9, 10, 11, 12, 13] rfl
  refine va_callv (va_runV (As := [.int p4]) (rest := []) ⟨hx, hb, hml, hown, hts⟩ (c7_X10_append l dC dI r k f608 p4 H.size) (cwV 1 hts (gV q_249 q_250 q_251 q_118 q_248) rfl rfl rfl mdv_yX10_append ⟨Nat.le_of_ble_eq_true rfl, Nat.le_of_ble_eq_true rfl⟩) ⟨fun a U g mk q => by obtain ⟨q0, q1, qP, qK, qD⟩ := q; exact ⟨q0, q1, qP, va_K.moved (u := U) (U := U.calling g mk a) (Vm.Alike.refl U.vm) qK, qD⟩, va_recv hKc hPc (ci := 10) (q0 := 1) rfl rfl, fun U hU hW => ⟨rfl, by rw [hU], by rw [hU]; exact hPc, va_K.moved hW.alike hKc, hDc.weaken (fun _ _ _ _ => trivial)⟩⟩ rfl rfl hl.1 rfl (lv_room (Nat.le_of_ble_eq_true rfl)) dX11_feed_52 ⟨Nat.le_of_ble_eq_true rfl, Nat.le_of_ble_eq_true rfl⟩) hS (fun q _ h => hFc q h) hFc (fun u t H1 locs ht hvm hw hB hz1 hk1 hS => ?_)
  obtain ⟨f610, hP1, hK1, hD1⟩ := hB
  rw [ht] at hP1
  have hK1 := va_K.moved hvm.symm hK1
  obtain ⟨hP, hD⟩ := va_join (wr := []) (w1 := (wd_588 r k f610)) hP hD [0, 1, 2, 3, 4, 5, 6, 7, 8, 9, 10, 11, 12, 13] [] rfl rfl (by decide) (by decide) hk1 hFc hP1 hD1
  have hK := (hK.sub (tys' := []) [] rfl).app hK1
  have hK : va_K (dC, dI) vwCl [((k 0), .int), ((k 1), .int), ((k 2), .int)] s := hK
  generalize H1 = H at hP hS ⊢
  have hP : va_P (dC, dI) vwCl (wd_588 r k f610) H := hP
  have hD : va_D A (wd_588 r k f610) := hD
  refine lv_aload_n hx hb dX11_feed_55 rfl (lv_at hl 0 rfl) ?_
  refine va_get (D := (dC, dI)) (ci := 11) (v := .ref (r 1)) (C := RX11) (T := TX11) (N := 20) hx hb hts i_X11 hown hK hP 0 rfl rfl 0 (by decide) (hts _ q_120) (fun _ h9 => h9) rfl dX11_feed_56 ?_
  refine lv_iload hx hb dX11_feed_59 (lv_at hl 5 rfl) ?_
  have hPc := hP.sub (ws' := (wd_588 r k f610)) [0, 1, 2, 3, 4, 5, 6, 7, 8, 9, 10, 11, 12, 13] rfl
  have hDc := hD.sub (ws' := (wd_588 r k f610)) [0, 1, 2, 3, 4, 5, 6, 7, 8, 9, 10, 11, 12, 13] (by decide) rfl
  have hKc := hK.sub (tys' := [((k 0), .int), ((k 1), .int), ((k 2), .int)]) [0, 1, 2] rfl
  have hFc := va_free (wc := (wd_588 r k f610)) hD hS hA [0, 1, 2, 3, 4, 5, 6, 7, 8, 9, 10, 11, 12, 13] rfl
  refine va_callv (va_runV (As := [.int p5]) (rest := []) ⟨hx, hb, hml, hown, hts⟩ (c8_X10_append l dC dI r k f610 p5 H.size) (cwV 1 hts (gV q_249 q_250 q_251 q_118 q_248) rfl rfl rfl mdv_yX10_append ⟨Nat.le_of_ble_eq_true rfl, Nat.le_of_ble_eq_true rfl⟩) ⟨fun a U g mk q => by obtain ⟨q0, q1, qP, qK, qD⟩ := q; exact ⟨q0, q1, qP, va_K.moved (u := U) (U := U.calling g mk a) (Vm.Alike.refl U.vm) qK, qD⟩, va_recv hKc hPc (ci := 10) (q0 := 1) rfl rfl, fun U hU hW => ⟨rfl, by rw [hU], by rw [hU]; exact hPc, va_K.moved hW.alike hKc, hDc.weaken (fun _ _ _ _ => trivial)⟩⟩ rfl rfl hl.1 rfl (lv_room (Nat.le_of_ble_eq_true rfl)) dX11_feed_61 ⟨Nat.le_of_ble_eq_true rfl, Nat.le_of_ble_eq_true rfl⟩) hS (fun q _ h => hFc q h) hFc (fun u t H1 locs ht hvm hw hB hz1 hk1 hS => ?_)
  obtain ⟨f612, hP1, hK1, hD1⟩ := hB
  rw [ht] at hP1
  have hK1 := va_K.moved hvm.symm hK1
  obtain ⟨hP, hD⟩ := va_join (wr := []) (w1 := (wd_589 r k f612)) hP hD [0, 1, 2, 3, 4, 5, 6, 7, 8, 9, 10, 11, 12, 13] [] rfl rfl (by decide) (by decide) hk1 hFc hP1 hD1
  have hK := (hK.sub (tys' := []) [] rfl).app hK1
  have hK : va_K (dC, dI) vwCl [((k 0), .int), ((k 1), .int), ((k 2), .int)] s := hK
  generalize H1 = H at hP hS ⊢
  have hP : va_P (dC, dI) vwCl (wd_589 r k f612) H := hP
  have hD : va_D A (wd_589 r k f612) := hD
  refine lv_aload_n hx hb dX11_feed_64 rfl (lv_at hl 0 rfl) ?_
  refine va_get (D := (dC, dI)) (ci := 11) (v := .ref (r 1)) (C := RX11) (T := TX11) (N := 20) hx hb hts i_X11 hown hK hP 0 rfl rfl 0 (by decide) (hts _ q_120) (fun _ h9 => h9) rfl dX11_feed_65 ?_
  refine va_get (D := (dC, dI)) (ci := 10) (v := .int 20) (C := RX10) (T := TX10) (N := 10) hx hb hts i_X10 hown hK hP 1 rfl rfl 1 (by decide) (hts _ q_247) (fun _ h9 => h9) rfl dX11_feed_68 ?_
  refine W.widen (k := 0) (n := 0) (Nat.le_of_ble_eq_true rfl) (Nat.le_of_ble_eq_true rfl) ?_
  exact W.iret (v := 20) hx hb hr (fun t ht hW => ⟨⟨20, (), rfl, rfl, trivial⟩, hS.F ht⟩) hS.2.2 dX11_feed_71
def wd_590 (r : Nat → Nat) (k : Nat → ClassId) (f : Nat → Int32) : va_W := [((r 0), .inr (11, [.ref (r 1), .ref (r 2), .ref (r 3), .ref (r 4), .ref (r 5), .ref (r 6), .ref (r 7), .ref (r 8), .ref (r 9), .ref (r 10), .ref (r 11), .ref (r 12), .ref (r 13), .ref (r 14), .ref (r 15), .int 0, .int 0, .ref (r 16), .int (-1), .ref (r 17)])), ((r 1), .inr (10, [.ref (r 18), .int 0, .int 0, .int 0, .int (-1), .int (-1), .long 0, .int 0, .int 0, .int (-1)])), ((r 18), .inl ((k 0), 1600, .inl (fun _ => 0))), ((r 14), .inl ((k 1), 7, .inl f)), ((r 4), .inr (8, [.int 0, .int 0, .int 0, .ref (r 19), .int 0, .int 0, .ref (r 20), .int 0, .int 0, .int 0, .int 0, .int 0, .int 0, .ref (r 21)])), ((r 2), .inr (2, [.int 0, .ref (r 22), .ref (r 23), .ref (r 24)])), ((r 3), .inr (2, [.int 0, .ref (r 25), .ref (r 26), .ref (r 27)])), ((r 5), .inr (8, [.int 0, .int 0, .int 0, .ref (r 28), .int 0, .int 0, .ref (r 29), .int 0, .int 0, .int 0, .int 0, .int 0, .int 0, .ref (r 30)])), ((r 28), .inl ((k 2), 168, .inl (fun _ => 0))), ((r 8), .inr (1, [.ref (r 1), .ref (r 3), .ref (r 5), .ref (r 31), .ref (r 32), .int 0, .int 0, .int 3047])), ((r 10), .inr (5, [.ref (r 4), .ref (r 2), .ref (r 7), .ref (r 9), .ref (r 33), .ref (r 34), .int 0, .int 0, .int 0, .int 0, .int (-1)])), ((r 11), .inr (0, [.ref (r 2), .ref (r 7), .long 1])), ((r 12), .inr (6, [.ref (r 7), .ref (r 35), .ref (r 36), .ref (r 37), .int 0, .ref (r 38), .int 0, .int (-1), .int (-1), .null, .null])), ((r 13), .inr (3, [.ref (r 2), .ref (r 39), .int 0]))]
def wd_591 (r : Nat → Nat) (k : Nat → ClassId) (f616 : Nat → Int32) : va_W := [((r 0), .inr (11, [.ref (r 1), .ref (r 2), .ref (r 3), .ref (r 4), .ref (r 5), .ref (r 6), .ref (r 7), .ref (r 8), .ref (r 9), .ref (r 10), .ref (r 11), .ref (r 12), .ref (r 13), .ref (r 14), .ref (r 15), .int 0, .int 0, .ref (r 16), .int (-1), .ref (r 17)])), ((r 1), .inr (10, [.ref (r 18), .int 0, .int 0, .int 0, .int (-1), .int (-1), .long 0, .int 0, .int 0, .int (-1)])), ((r 18), .inl ((k 0), 1600, .inl (fun _ => 0))), ((r 14), .inl ((k 1), 7, .inl f616)), ((r 4), .inr (8, [.int 0, .int 0, .int 0, .ref (r 19), .int 0, .int 0, .ref (r 20), .int 0, .int 0, .int 0, .int 0, .int 0, .int 0, .ref (r 21)])), ((r 2), .inr (2, [.int 0, .ref (r 22), .ref (r 23), .ref (r 24)])), ((r 3), .inr (2, [.int 0, .ref (r 25), .ref (r 26), .ref (r 27)])), ((r 5), .inr (8, [.int 0, .int 0, .int 0, .ref (r 28), .int 0, .int 0, .ref (r 29), .int 0, .int 0, .int 0, .int 0, .int 0, .int 0, .ref (r 30)])), ((r 28), .inl ((k 2), 168, .inl (fun _ => 0))), ((r 8), .inr (1, [.ref (r 1), .ref (r 3), .ref (r 5), .ref (r 31), .ref (r 32), .int 0, .int 0, .int 3047])), ((r 10), .inr (5, [.ref (r 4), .ref (r 2), .ref (r 7), .ref (r 9), .ref (r 33), .ref (r 34), .int 0, .int 0, .int 0, .int 0, .int (-1)])), ((r 11), .inr (0, [.ref (r 2), .ref (r 7), .long 1])), ((r 12), .inr (6, [.ref (r 7), .ref (r 35), .ref (r 36), .ref (r 37), .int 0, .ref (r 38), .int 0, .int (-1), .int (-1), .null, .null])), ((r 13), .inr (3, [.ref (r 2), .ref (r 39), .int 0]))]
def wd_592 (r : Nat → Nat) (k : Nat → ClassId) (f619 : Nat → Int32) : va_W := [((r 0), .inr (11, [.ref (r 1), .ref (r 2), .ref (r 3), .ref (r 4), .ref (r 5), .ref (r 6), .ref (r 7), .ref (r 8), .ref (r 9), .ref (r 10), .ref (r 11), .ref (r 12), .ref (r 13), .ref (r 14), .ref (r 15), .int 0, .int 0, .ref (r 16), .int (-1), .ref (r 17)])), ((r 1), .inr (10, [.ref (r 18), .int 0, .int 0, .int 0, .int (-1), .int (-1), .long 0, .int 0, .int 0, .int (-1)])), ((r 18), .inl ((k 0), 1600, .inl (fun _ => 0))), ((r 14), .inl ((k 1), 7, .inl f619)), ((r 4), .inr (8, [.int 0, .int 0, .int 0, .ref (r 19), .int 0, .int 0, .ref (r 20), .int 0, .int 0, .int 0, .int 0, .int 0, .int 0, .ref (r 21)])), ((r 2), .inr (2, [.int 0, .ref (r 22), .ref (r 23), .ref (r 24)])), ((r 3), .inr (2, [.int 0, .ref (r 25), .ref (r 26), .ref (r 27)])), ((r 5), .inr (8, [.int 0, .int 0, .int 0, .ref (r 28), .int 0, .int 0, .ref (r 29), .int 0, .int 0, .int 0, .int 0, .int 0, .int 0, .ref (r 30)])), ((r 28), .inl ((k 2), 168, .inl (fun _ => 0))), ((r 8), .inr (1, [.ref (r 1), .ref (r 3), .ref (r 5), .ref (r 31), .ref (r 32), .int 0, .int 0, .int 3047])), ((r 10), .inr (5, [.ref (r 4), .ref (r 2), .ref (r 7), .ref (r 9), .ref (r 33), .ref (r 34), .int 0, .int 0, .int 0, .int 0, .int (-1)])), ((r 11), .inr (0, [.ref (r 2), .ref (r 7), .long 1])), ((r 12), .inr (6, [.ref (r 7), .ref (r 35), .ref (r 36), .ref (r 37), .int 0, .ref (r 38), .int 0, .int (-1), .int (-1), .null, .null])), ((r 13), .inr (3, [.ref (r 2), .ref (r 39), .int 0]))]
set_option maxHeartbeats 4000000 in
set_option maxRecDepth 100000 in
theorem c10_X11_deny (l : Launch) (dC : Nat → ClassId) (dI : Nat → Nat → Nat) (r : Nat → Nat) (k : Nat → ClassId) (sz : Nat) : Met l yX11_deny (Cond.code yX11_deny cX11_deny 2 (some .boolean) :: wA) ({ frames := 0, cells := 0, slots := 0, locals := 0 }) (va_Pc [.ref (r 0), .int 0] (fun U => U.heap.size = sz ∧ va_P (dC, dI) vwCl (wd_495 r k) U.heap ∧ va_K (dC, dI) vwCl [((k 0), .int), ((k 1), .int), ((k 2), .int)] U ∧ va_D (fun _ => True) (wd_495 r k))) (va_Qi (fun (r : Int32) (_ : Unit) => r = 0) (fun _ t => ∃ f619 : Nat → Int32, va_P (dC, dI) vwCl (wd_592 r k f619) t.heap ∧ va_K (dC, dI) vwCl [((k 0), .int), ((k 1), .int), ((k 2), .int)] t ∧ va_D (va_A (wd_495 r k) sz) (wd_592 r k f619)) (va_A (wd_495 r k) sz)) 0 0 (va_A (wd_495 r k) sz) := by
  refine Met.ofW (cc := cX11_deny) (maxL := 2) (ret := (some .boolean)) (by decide) rfl ?_
  intro p e s m args below meth c s₁ B hml hv
  obtain ⟨rfl, hsz, hP, hK, hD0⟩ := hv
  have hx := B.exec
  have hb := B.bytes
  have hr := B.returns
  have hts : ∀ w ∈ wA, w.before [.ref (r 0), .int 0].toArray s = true := fun w h => atoms_spec (ws := Cond.code yX11_deny cX11_deny 2 (some .boolean) :: wA) B.pre w (List.mem_cons_of_mem _ h)
  have hown : s.vm.findClass RX11 = some m.cls := findClass_of_methodNamed B.named
  have hlocks := B.notSynchronized
  subst hsz
  have hD := hD0.self (sz := s.heap.size)
  generalize hAe : va_A (wd_495 r k) s.heap.size = A at hD ⊢
  have hA : ∀ q : Nat, s.heap.size ≤ q → A q := fun q h => by rw [← hAe]; exact Or.inr h
  have hS : va_S A s.heap s.heap [] := va_S.rf
  have hl := lv_entry ([.ref (r 0), .int 0]) (n := 2) (Nat.le_of_ble_eq_true rfl)
  rw [lg_entry_eq]
  generalize (lg_sl ([.ref (r 0), .int 0]) ++ List.replicate (2 - (lg_sl ([.ref (r 0), .int 0])).length) Slot.unset).toArray = ls at hl ⊢
  have hl : lv_has ls 2 [(0, .ref (r 0)), (1, .int 0)] := hl
  refine lv_aload_n hx hb dX11_deny_0 rfl (lv_at hl 0 rfl) ?_
  refine va_get (D := (dC, dI)) (ci := 11) (v := .ref (r 14)) (C := RX11) (T := TX11) (N := 20) hx hb hts i_X11 hown hK hP 0 rfl rfl 13 (by decide) (hts _ q_178) (fun _ h9 => h9) rfl dX11_deny_1 ?_
  refine lv_iload_n hx hb dX11_deny_4 rfl (lv_at hl 1 rfl) ?_
  refine lv_dup2_11 hx hb dX11_deny_5 rfl rfl ?_
  refine va_iald hx hb hK hP 3 1 rfl rfl (vpi (by decide)) dX11_deny_6 ?_
  refine lv_topi (fun x_617 ex_617 => ?_)
  obtain rfl : x_617 = 0 := ex_617
  refine lv_iconst (v := 1) hx hb dX11_deny_7 (by decide) ?_
  refine lv_iadd hx hb dX11_deny_8 ?_
  refine lv_topi (fun x_618 ex_618 => ?_)
  obtain rfl : x_618 = 1 := ex_618.trans (by decide)
  refine va_iast hx hb hK hP hD hS 3 1 rfl rfl (vpi (by decide)) dX11_deny_9 (fun H locs hP hD hS => ?_)
  obtain ⟨f619, hP, hD⟩ : ∃ f : Nat → Int32, va_P (dC, dI) vwCl (wd_590 r k f) H ∧ va_D A (wd_590 r k f) := ⟨_, hP, hD⟩
  have hP : va_P (dC, dI) vwCl (wd_592 r k f619) H := hP
  have hD : va_D A (wd_592 r k f619) := hD
  refine lv_iconst (v := 0) hx hb dX11_deny_10 (by decide) ?_
  refine W.widen (k := 0) (n := 0) (Nat.le_of_ble_eq_true rfl) (Nat.le_of_ble_eq_true rfl) ?_
  have hP9 := hP.sub (ws' := (wd_592 r k f619)) [0, 1, 2, 3, 4, 5, 6, 7, 8, 9, 10, 11, 12, 13] rfl
  have hD9 := hD.sub (ws' := (wd_592 r k f619)) [0, 1, 2, 3, 4, 5, 6, 7, 8, 9, 10, 11, 12, 13] (by decide) rfl
  have hK9 := hK.sub (tys' := [((k 0), .int), ((k 1), .int), ((k 2), .int)]) [0, 1, 2] rfl
  exact W.zret (v := 0) hx hb hr rfl (fun t ht hW => ⟨⟨0, (), rfl, rfl, f619, by rw [ht]; exact hP9, va_K.moved hW.alike hK9, hD9⟩, hS.F ht⟩) hS.2.2 dX11_deny_11
def wd_593 (r : Nat → Nat) (k : Nat → ClassId) (f621 : Nat → Int32) : va_W := [((r 0), .inr (11, [.ref (r 1), .ref (r 2), .ref (r 3), .ref (r 4), .ref (r 5), .ref (r 6), .ref (r 7), .ref (r 8), .ref (r 9), .ref (r 10), .ref (r 11), .ref (r 12), .ref (r 13), .ref (r 14), .ref (r 15), .int 0, .int 0, .ref (r 16), .int (-1), .ref (r 17)])), ((r 1), .inr (10, [.ref (r 18), .int 0, .int 0, .int 0, .int (-1), .int (-1), .long 0, .int 0, .int 0, .int (-1)])), ((r 18), .inl ((k 0), 1600, .inl (fun _ => 0))), ((r 14), .inl ((k 1), 7, .inl f621)), ((r 4), .inr (8, [.int 0, .int 0, .int 0, .ref (r 19), .int 0, .int 0, .ref (r 20), .int 0, .int 0, .int 0, .int 0, .int 0, .int 0, .ref (r 21)])), ((r 2), .inr (2, [.int 0, .ref (r 22), .ref (r 23), .ref (r 24)])), ((r 3), .inr (2, [.int 0, .ref (r 25), .ref (r 26), .ref (r 27)])), ((r 5), .inr (8, [.int 0, .int 0, .int 0, .ref (r 28), .int 0, .int 0, .ref (r 29), .int 0, .int 0, .int 0, .int 0, .int 0, .int 0, .ref (r 30)])), ((r 28), .inl ((k 2), 168, .inl (fun _ => 0))), ((r 8), .inr (1, [.ref (r 1), .ref (r 3), .ref (r 5), .ref (r 31), .ref (r 32), .int 0, .int 0, .int 3047])), ((r 10), .inr (5, [.ref (r 4), .ref (r 2), .ref (r 7), .ref (r 9), .ref (r 33), .ref (r 34), .int 0, .int 0, .int 0, .int 0, .int (-1)])), ((r 11), .inr (0, [.ref (r 2), .ref (r 7), .long 1])), ((r 12), .inr (6, [.ref (r 7), .ref (r 35), .ref (r 36), .ref (r 37), .int 0, .ref (r 38), .int 0, .int (-1), .int (-1), .null, .null])), ((r 13), .inr (3, [.ref (r 2), .ref (r 39), .int 0]))]
def wd_594 (r : Nat → Nat) (k : Nat → ClassId) (f624 : Nat → Int32) : va_W := [((r 0), .inr (11, [.ref (r 1), .ref (r 2), .ref (r 3), .ref (r 4), .ref (r 5), .ref (r 6), .ref (r 7), .ref (r 8), .ref (r 9), .ref (r 10), .ref (r 11), .ref (r 12), .ref (r 13), .ref (r 14), .ref (r 15), .int 0, .int 0, .ref (r 16), .int (-1), .ref (r 17)])), ((r 1), .inr (10, [.ref (r 18), .int 0, .int 0, .int 0, .int (-1), .int (-1), .long 0, .int 0, .int 0, .int (-1)])), ((r 18), .inl ((k 0), 1600, .inl (fun _ => 0))), ((r 14), .inl ((k 1), 7, .inl f624)), ((r 4), .inr (8, [.int 0, .int 0, .int 0, .ref (r 19), .int 0, .int 0, .ref (r 20), .int 0, .int 0, .int 0, .int 0, .int 0, .int 0, .ref (r 21)])), ((r 2), .inr (2, [.int 0, .ref (r 22), .ref (r 23), .ref (r 24)])), ((r 3), .inr (2, [.int 0, .ref (r 25), .ref (r 26), .ref (r 27)])), ((r 5), .inr (8, [.int 0, .int 0, .int 0, .ref (r 28), .int 0, .int 0, .ref (r 29), .int 0, .int 0, .int 0, .int 0, .int 0, .int 0, .ref (r 30)])), ((r 28), .inl ((k 2), 168, .inl (fun _ => 0))), ((r 8), .inr (1, [.ref (r 1), .ref (r 3), .ref (r 5), .ref (r 31), .ref (r 32), .int 0, .int 0, .int 3047])), ((r 10), .inr (5, [.ref (r 4), .ref (r 2), .ref (r 7), .ref (r 9), .ref (r 33), .ref (r 34), .int 0, .int 0, .int 0, .int 0, .int (-1)])), ((r 11), .inr (0, [.ref (r 2), .ref (r 7), .long 1])), ((r 12), .inr (6, [.ref (r 7), .ref (r 35), .ref (r 36), .ref (r 37), .int 0, .ref (r 38), .int 0, .int (-1), .int (-1), .null, .null])), ((r 13), .inr (3, [.ref (r 2), .ref (r 39), .int 0]))]
def wd_595 (r : Nat → Nat) (k : Nat → ClassId) (f627 : Nat → Int32) : va_W := [((r 0), .inr (11, [.ref (r 1), .ref (r 2), .ref (r 3), .ref (r 4), .ref (r 5), .ref (r 6), .ref (r 7), .ref (r 8), .ref (r 9), .ref (r 10), .ref (r 11), .ref (r 12), .ref (r 13), .ref (r 14), .ref (r 15), .int 0, .int 0, .ref (r 16), .int (-1), .ref (r 17)])), ((r 1), .inr (10, [.ref (r 18), .int 0, .int 0, .int 0, .int (-1), .int (-1), .long 0, .int 0, .int 0, .int (-1)])), ((r 18), .inl ((k 0), 1600, .inl (fun _ => 0))), ((r 14), .inl ((k 1), 7, .inl f627)), ((r 4), .inr (8, [.int 0, .int 0, .int 0, .ref (r 19), .int 0, .int 0, .ref (r 20), .int 0, .int 0, .int 0, .int 0, .int 0, .int 0, .ref (r 21)])), ((r 2), .inr (2, [.int 0, .ref (r 22), .ref (r 23), .ref (r 24)])), ((r 3), .inr (2, [.int 0, .ref (r 25), .ref (r 26), .ref (r 27)])), ((r 5), .inr (8, [.int 0, .int 0, .int 0, .ref (r 28), .int 0, .int 0, .ref (r 29), .int 0, .int 0, .int 0, .int 0, .int 0, .int 0, .ref (r 30)])), ((r 28), .inl ((k 2), 168, .inl (fun _ => 0))), ((r 8), .inr (1, [.ref (r 1), .ref (r 3), .ref (r 5), .ref (r 31), .ref (r 32), .int 0, .int 0, .int 3047])), ((r 10), .inr (5, [.ref (r 4), .ref (r 2), .ref (r 7), .ref (r 9), .ref (r 33), .ref (r 34), .int 0, .int 0, .int 0, .int 0, .int (-1)])), ((r 11), .inr (0, [.ref (r 2), .ref (r 7), .long 1])), ((r 12), .inr (6, [.ref (r 7), .ref (r 35), .ref (r 36), .ref (r 37), .int 0, .ref (r 38), .int 0, .int (-1), .int (-1), .null, .null])), ((r 13), .inr (3, [.ref (r 2), .ref (r 39), .int 0]))]
def wd_596 (r : Nat → Nat) (k : Nat → ClassId) (f630 : Nat → Int32) : va_W := [((r 0), .inr (11, [.ref (r 1), .ref (r 2), .ref (r 3), .ref (r 4), .ref (r 5), .ref (r 6), .ref (r 7), .ref (r 8), .ref (r 9), .ref (r 10), .ref (r 11), .ref (r 12), .ref (r 13), .ref (r 14), .ref (r 15), .int 0, .int 0, .ref (r 16), .int (-1), .ref (r 17)])), ((r 1), .inr (10, [.ref (r 18), .int 0, .int 0, .int 0, .int (-1), .int (-1), .long 0, .int 0, .int 0, .int (-1)])), ((r 18), .inl ((k 0), 1600, .inl (fun _ => 0))), ((r 14), .inl ((k 1), 7, .inl f630)), ((r 4), .inr (8, [.int 0, .int 0, .int 0, .ref (r 19), .int 0, .int 0, .ref (r 20), .int 0, .int 0, .int 0, .int 0, .int 0, .int 0, .ref (r 21)])), ((r 2), .inr (2, [.int 0, .ref (r 22), .ref (r 23), .ref (r 24)])), ((r 3), .inr (2, [.int 0, .ref (r 25), .ref (r 26), .ref (r 27)])), ((r 5), .inr (8, [.int 0, .int 0, .int 0, .ref (r 28), .int 0, .int 0, .ref (r 29), .int 0, .int 0, .int 0, .int 0, .int 0, .int 0, .ref (r 30)])), ((r 28), .inl ((k 2), 168, .inl (fun _ => 0))), ((r 8), .inr (1, [.ref (r 1), .ref (r 3), .ref (r 5), .ref (r 31), .ref (r 32), .int 0, .int 0, .int 3047])), ((r 10), .inr (5, [.ref (r 4), .ref (r 2), .ref (r 7), .ref (r 9), .ref (r 33), .ref (r 34), .int 0, .int 0, .int 0, .int 0, .int (-1)])), ((r 11), .inr (0, [.ref (r 2), .ref (r 7), .long 1])), ((r 12), .inr (6, [.ref (r 7), .ref (r 35), .ref (r 36), .ref (r 37), .int 0, .ref (r 38), .int 0, .int (-1), .int (-1), .null, .null])), ((r 13), .inr (3, [.ref (r 2), .ref (r 39), .int 0]))]
set_option maxHeartbeats 4000000 in
set_option maxRecDepth 100000 in
theorem mX11_end (l : Launch) (dC : Nat → ClassId) (dI : Nat → Nat → Nat) (r : Nat → Nat) (k : Nat → ClassId) (p1 : Int32) (sz : Nat) : Met l yX11_end (Cond.code yX11_end cX11_end 2 (some .boolean) :: wA) ({ frames := 1, cells := 0, slots := 0, locals := 21 }) (va_Pc [.ref (r 0), .int p1] (fun U => U.heap.size = sz ∧ va_P (dC, dI) vwCl (wd_495 r k) U.heap ∧ va_K (dC, dI) vwCl [((k 0), .int), ((k 1), .int), ((k 2), .int)] U ∧ va_D (fun _ => True) (wd_495 r k))) (va_Qi (fun (r : Int32) (_ : Unit) => r = sp_e p1) (fun _ t => True) (va_A (wd_495 r k) sz)) 0 0 (va_A (wd_495 r k) sz) := by
  refine Met.ofW (cc := cX11_end) (maxL := 2) (ret := (some .boolean)) (by decide) rfl ?_
  intro p e s m args below meth c s₁ B hml hv
  obtain ⟨rfl, hsz, hP, hK, hD0⟩ := hv
  have hx := B.exec
  have hb := B.bytes
  have hr := B.returns
  have hts : ∀ w ∈ wA, w.before [.ref (r 0), .int p1].toArray s = true := fun w h => atoms_spec (ws := Cond.code yX11_end cX11_end 2 (some .boolean) :: wA) B.pre w (List.mem_cons_of_mem _ h)
  have hown : s.vm.findClass RX11 = some m.cls := findClass_of_methodNamed B.named
  have hlocks := B.notSynchronized
  subst hsz
  have hD := hD0.self (sz := s.heap.size)
  generalize hAe : va_A (wd_495 r k) s.heap.size = A at hD ⊢
  have hA : ∀ q : Nat, s.heap.size ≤ q → A q := fun q h => by rw [← hAe]; exact Or.inr h
  have hS : va_S A s.heap s.heap [] := va_S.rf
  have hl := lv_entry ([.ref (r 0), .int p1]) (n := 2) (Nat.le_of_ble_eq_true rfl)
  rw [lg_entry_eq]
  generalize (lg_sl ([.ref (r 0), .int p1]) ++ List.replicate (2 - (lg_sl ([.ref (r 0), .int p1])).length) Slot.unset).toArray = ls at hl ⊢
  have hl : lv_has ls 2 [(0, .ref (r 0)), (1, .int p1)] := hl
  rcases sw_1 p1 with rfl | ho
  · refine lv_iload_n hx hb dX11_end_0 rfl (lv_at hl 1 rfl) ?_
    refine lv_if_lt (tgt := 15) hx hb dX11_end_1 (by decide) (fun c_0 => absurd c_0 (by decide)) (fun c_0 => ?_)
    refine lv_iload_n hx hb dX11_end_4 rfl (lv_at hl 1 rfl) ?_
    refine lv_aload_n hx hb dX11_end_5 rfl (lv_at hl 0 rfl) ?_
    refine va_get (D := (dC, dI)) (ci := 11) (v := .ref (r 1)) (C := RX11) (T := TX11) (N := 20) hx hb hts i_X11 hown hK hP 0 rfl rfl 0 (by decide) (hts _ q_120) (fun _ h9 => h9) rfl dX11_end_6 ?_
    refine va_get (D := (dC, dI)) (ci := 10) (v := .int 0) (C := RX10) (T := TX10) (N := 10) hx hb hts i_X10 hown hK hP 1 rfl rfl 1 (by decide) (hts _ q_247) (fun _ h9 => h9) rfl dX11_end_9 ?_
    refine lv_icmp_le (tgt := 21) hx hb dX11_end_12 (by decide) (fun c_0 => ?_) (fun c_0 => absurd c_0 (by decide))
    refine lv_aload_n hx hb dX11_end_21 rfl (lv_at hl 0 rfl) ?_
    refine va_get (D := (dC, dI)) (ci := 11) (v := .ref (r 1)) (C := RX11) (T := TX11) (N := 20) hx hb hts i_X11 hown hK hP 0 rfl rfl 0 (by decide) (hts _ q_120) (fun _ h9 => h9) rfl dX11_end_22 ?_
    refine lv_iload_n hx hb dX11_end_25 rfl (lv_at hl 1 rfl) ?_
    refine va_put (D := (dC, dI)) (ci := 10) (v := .int 0) (ty := tyX10 1) (C := RX10) (T := TX10) (N := 10) hx hb hts i_X10 tyX10 tyX10_ok nmX10 hown hK hP hD hS 1 rfl rfl 1 (by decide) (hts _ q_247) (fun _ h9 => h9) rfl (tyX10_ok 1 (by decide)) rfl rfl (Nat.le_of_ble_eq_true rfl) dX11_end_26 (fun H locs hP hD hS => ?_)
    have hP : va_P (dC, dI) vwCl (wd_495 r k) H := hP
    have hD : va_D A (wd_495 r k) := hD
    refine lv_iconst (v := 1) hx hb dX11_end_29 (by decide) ?_
    refine W.widen (k := 0) (n := 0) (Nat.le_of_ble_eq_true rfl) (Nat.le_of_ble_eq_true rfl) ?_
    exact W.zret (v := 1) hx hb hr rfl (fun t ht hW => ⟨⟨1, (), rfl, by decide, trivial⟩, hS.F ht⟩) hS.2.2 dX11_end_30
  · refine lv_iload_n hx hb dX11_end_0 rfl (lv_at hl 1 rfl) ?_
    refine lv_if_lt (tgt := 15) hx hb dX11_end_1 (by decide) (fun c_625 => ?_) (fun c_625 => ?_)
    · refine lv_aload_n hx hb dX11_end_15 rfl (lv_at hl 0 rfl) ?_
      refine lv_iconst (v := 0) hx hb dX11_end_16 (by decide) ?_
      have hPc := hP.sub (ws' := (wd_495 r k)) [0, 1, 2, 3, 4, 5, 6, 7, 8, 9, 10, 11, 12, 13] rfl
      have hDc := hD.sub (ws' := (wd_495 r k)) [0, 1, 2, 3, 4, 5, 6, 7, 8, 9, 10, 11, 12, 13] (by decide) rfl
      have hKc := hK.sub (tys' := [((k 0), .int), ((k 1), .int), ((k 2), .int)]) [0, 1, 2] rfl
      have hFc := va_free (wc := (wd_495 r k)) hD hS hA [0, 1, 2, 3, 4, 5, 6, 7, 8, 9, 10, 11, 12, 13] rfl
      refine va_calli (va_runV (As := [.int 0]) (rest := []) ⟨hx, hb, hml, hown, hts⟩ (c10_X11_deny l dC dI r k s.heap.size) (cwV 1 hts (gV q_254 q_255 q_256 q_257 q_253) rfl rfl rfl mdv_yX11_deny ⟨Nat.le_of_ble_eq_true rfl, Nat.le_of_ble_eq_true rfl⟩) ⟨fun a U g mk q => by obtain ⟨q0, q1, qP, qK, qD⟩ := q; exact ⟨q0, q1, qP, va_K.moved (u := U) (U := U.calling g mk a) (Vm.Alike.refl U.vm) qK, qD⟩, va_recv hKc hPc (ci := 11) (q0 := 0) rfl rfl, fun U hU hW => ⟨rfl, by rw [hU], by rw [hU]; exact hPc, va_K.moved hW.alike hKc, hDc.weaken (fun _ _ _ _ => trivial)⟩⟩ rfl rfl hl.1 rfl (lv_room (Nat.le_of_ble_eq_true rfl)) dX11_end_17 ⟨Nat.le_of_ble_eq_true rfl, Nat.le_of_ble_eq_true rfl⟩) hS (fun q _ h => hFc q h) hFc (fun r_626 u t H1 locs ht hvm hw hB hz1 hk1 hS => ?_)
      obtain ⟨f627, hP1, hK1, hD1⟩ := hB
      rw [ht] at hP1
      have hK1 := va_K.moved hvm.symm hK1
      obtain ⟨hP, hD⟩ := va_join (wr := []) (w1 := (wd_595 r k f627)) hP hD [0, 1, 2, 3, 4, 5, 6, 7, 8, 9, 10, 11, 12, 13] [] rfl rfl (by decide) (by decide) hk1 hFc hP1 hD1
      have hK := (hK.sub (tys' := []) [] rfl).app hK1
      have hK : va_K (dC, dI) vwCl [((k 0), .int), ((k 1), .int), ((k 2), .int)] s := hK
      generalize H1 = H at hP hS ⊢
      have hP : va_P (dC, dI) vwCl (wd_595 r k f627) H := hP
      have hD : va_D A (wd_595 r k f627) := hD
      obtain rfl : r_626 = 0 := hw
      refine W.widen (k := 0) (n := 0) (Nat.le_of_ble_eq_true rfl) (Nat.le_of_ble_eq_true rfl) ?_
      exact W.zret (v := 0) hx hb hr rfl (fun t ht hW => ⟨⟨0, (), rfl, (if_pos ho).symm, trivial⟩, hS.F ht⟩) hS.2.2 dX11_end_20
    · refine lv_iload_n hx hb dX11_end_4 rfl (lv_at hl 1 rfl) ?_
      refine lv_aload_n hx hb dX11_end_5 rfl (lv_at hl 0 rfl) ?_
      refine va_get (D := (dC, dI)) (ci := 11) (v := .ref (r 1)) (C := RX11) (T := TX11) (N := 20) hx hb hts i_X11 hown hK hP 0 rfl rfl 0 (by decide) (hts _ q_120) (fun _ h9 => h9) rfl dX11_end_6 ?_
      refine va_get (D := (dC, dI)) (ci := 10) (v := .int 0) (C := RX10) (T := TX10) (N := 10) hx hb hts i_X10 hown hK hP 1 rfl rfl 1 (by decide) (hts _ q_247) (fun _ h9 => h9) rfl dX11_end_9 ?_
      refine lv_icmp_le (tgt := 21) hx hb dX11_end_12 (by decide) (fun c_628 => ((by have k_c_625 : ¬ p1.toInt < (0 : Int) := fun h => c_625 (Int32.lt_iff_toInt_lt.mpr h); have k_c_628 : p1.toInt ≤ (0 : Int) := Int32.le_iff_toInt_le.mp c_628; omega : False).elim)) (fun c_628 => ?_)
      refine lv_aload_n hx hb dX11_end_15 rfl (lv_at hl 0 rfl) ?_
      refine lv_iconst (v := 0) hx hb dX11_end_16 (by decide) ?_
      have hPc := hP.sub (ws' := (wd_495 r k)) [0, 1, 2, 3, 4, 5, 6, 7, 8, 9, 10, 11, 12, 13] rfl
      have hDc := hD.sub (ws' := (wd_495 r k)) [0, 1, 2, 3, 4, 5, 6, 7, 8, 9, 10, 11, 12, 13] (by decide) rfl
      have hKc := hK.sub (tys' := [((k 0), .int), ((k 1), .int), ((k 2), .int)]) [0, 1, 2] rfl
      have hFc := va_free (wc := (wd_495 r k)) hD hS hA [0, 1, 2, 3, 4, 5, 6, 7, 8, 9, 10, 11, 12, 13] rfl
      refine va_calli (va_runV (As := [.int 0]) (rest := []) ⟨hx, hb, hml, hown, hts⟩ (c10_X11_deny l dC dI r k s.heap.size) (cwV 1 hts (gV q_254 q_255 q_256 q_257 q_253) rfl rfl rfl mdv_yX11_deny ⟨Nat.le_of_ble_eq_true rfl, Nat.le_of_ble_eq_true rfl⟩) ⟨fun a U g mk q => by obtain ⟨q0, q1, qP, qK, qD⟩ := q; exact ⟨q0, q1, qP, va_K.moved (u := U) (U := U.calling g mk a) (Vm.Alike.refl U.vm) qK, qD⟩, va_recv hKc hPc (ci := 11) (q0 := 0) rfl rfl, fun U hU hW => ⟨rfl, by rw [hU], by rw [hU]; exact hPc, va_K.moved hW.alike hKc, hDc.weaken (fun _ _ _ _ => trivial)⟩⟩ rfl rfl hl.1 rfl (lv_room (Nat.le_of_ble_eq_true rfl)) dX11_end_17 ⟨Nat.le_of_ble_eq_true rfl, Nat.le_of_ble_eq_true rfl⟩) hS (fun q _ h => hFc q h) hFc (fun r_629 u t H1 locs ht hvm hw hB hz1 hk1 hS => ?_)
      obtain ⟨f630, hP1, hK1, hD1⟩ := hB
      rw [ht] at hP1
      have hK1 := va_K.moved hvm.symm hK1
      obtain ⟨hP, hD⟩ := va_join (wr := []) (w1 := (wd_596 r k f630)) hP hD [0, 1, 2, 3, 4, 5, 6, 7, 8, 9, 10, 11, 12, 13] [] rfl rfl (by decide) (by decide) hk1 hFc hP1 hD1
      have hK := (hK.sub (tys' := []) [] rfl).app hK1
      have hK : va_K (dC, dI) vwCl [((k 0), .int), ((k 1), .int), ((k 2), .int)] s := hK
      generalize H1 = H at hP hS ⊢
      have hP : va_P (dC, dI) vwCl (wd_596 r k f630) H := hP
      have hD : va_D A (wd_596 r k f630) := hD
      obtain rfl : r_629 = 0 := hw
      refine W.widen (k := 0) (n := 0) (Nat.le_of_ble_eq_true rfl) (Nat.le_of_ble_eq_true rfl) ?_
      exact W.zret (v := 0) hx hb hr rfl (fun t ht hW => ⟨⟨0, (), rfl, (if_pos ho).symm, trivial⟩, hS.F ht⟩) hS.2.2 dX11_end_20
set_option maxHeartbeats 4000000 in
set_option maxRecDepth 100000 in
theorem c12_X10_rewind (l : Launch) (dC : Nat → ClassId) (dI : Nat → Nat → Nat) (r : Nat → Nat) (k : Nat → ClassId) (sz : Nat) : Met l yX10_rewind (Cond.code yX10_rewind cX10_rewind 1 none :: wA) ({ frames := 0, cells := 0, slots := 0, locals := 0 }) (va_Pc [.ref (r 1)] (fun U => U.heap.size = sz ∧ va_P (dC, dI) vwCl (wd_495 r k) U.heap ∧ va_K (dC, dI) vwCl [((k 0), .int), ((k 1), .int), ((k 2), .int)] U ∧ va_D (fun _ => True) (wd_495 r k))) (va_Qv (fun (_ : Unit) => True) (fun _ t => va_P (dC, dI) vwCl (wd_495 r k) t.heap ∧ va_K (dC, dI) vwCl [((k 0), .int), ((k 1), .int), ((k 2), .int)] t ∧ va_D (va_A (wd_495 r k) sz) (wd_495 r k)) (va_A (wd_495 r k) sz)) 0 0 (va_A (wd_495 r k) sz) := by
  refine Met.ofW (cc := cX10_rewind) (maxL := 1) (ret := none) (by decide) rfl ?_
  intro p e s m args below meth c s₁ B hml hv
  obtain ⟨rfl, hsz, hP, hK, hD0⟩ := hv
  have hx := B.exec
  have hb := B.bytes
  have hr := B.returns
  have hts : ∀ w ∈ wA, w.before [.ref (r 1)].toArray s = true := fun w h => atoms_spec (ws := Cond.code yX10_rewind cX10_rewind 1 none :: wA) B.pre w (List.mem_cons_of_mem _ h)
  have hown : s.vm.findClass RX10 = some m.cls := findClass_of_methodNamed B.named
  have hlocks := B.notSynchronized
  subst hsz
  have hD := hD0.self (sz := s.heap.size)
  generalize hAe : va_A (wd_495 r k) s.heap.size = A at hD ⊢
  have hA : ∀ q : Nat, s.heap.size ≤ q → A q := fun q h => by rw [← hAe]; exact Or.inr h
  have hS : va_S A s.heap s.heap [] := va_S.rf
  have hl := lv_entry ([.ref (r 1)]) (n := 1) (Nat.le_of_ble_eq_true rfl)
  rw [lg_entry_eq]
  generalize (lg_sl ([.ref (r 1)]) ++ List.replicate (1 - (lg_sl ([.ref (r 1)])).length) Slot.unset).toArray = ls at hl ⊢
  have hl : lv_has ls 1 [(0, .ref (r 1))] := hl
  refine lv_aload_n hx hb dX10_rewind_0 rfl (lv_at hl 0 rfl) ?_
  refine lv_iconst (v := 0) hx hb dX10_rewind_1 (by decide) ?_
  refine va_put (D := (dC, dI)) (ci := 10) (v := .int 0) (ty := tyX10 2) (C := RX10) (T := TX10) (N := 10) hx hb hts i_X10 tyX10 tyX10_ok nmX10 hown hK hP hD hS 1 rfl rfl 2 (by decide) (hts _ q_7) (fun _ h9 => h9) rfl (tyX10_ok 2 (by decide)) rfl rfl (Nat.le_of_ble_eq_true rfl) dX10_rewind_2 (fun H locs hP hD hS => ?_)
  have hP : va_P (dC, dI) vwCl (wd_495 r k) H := hP
  have hD : va_D A (wd_495 r k) := hD
  refine lv_aload_n hx hb dX10_rewind_5 rfl (lv_at hl 0 rfl) ?_
  refine lv_iconst (v := (-1)) hx hb dX10_rewind_6 (by decide) ?_
  refine va_put (D := (dC, dI)) (ci := 10) (v := .int (-1)) (ty := tyX10 4) (C := RX10) (T := TX10) (N := 10) hx hb hts i_X10 tyX10 tyX10_ok nmX10 hown hK hP hD hS 1 rfl rfl 4 (by decide) (hts _ q_9) (fun _ h9 => h9) rfl (tyX10_ok 4 (by decide)) rfl rfl (Nat.le_of_ble_eq_true rfl) dX10_rewind_7 (fun H locs hP hD hS => ?_)
  have hP : va_P (dC, dI) vwCl (wd_495 r k) H := hP
  have hD : va_D A (wd_495 r k) := hD
  refine lv_aload_n hx hb dX10_rewind_10 rfl (lv_at hl 0 rfl) ?_
  refine lv_iconst (v := 0) hx hb dX10_rewind_11 (by decide) ?_
  refine va_put (D := (dC, dI)) (ci := 10) (v := .int 0) (ty := tyX10 8) (C := RX10) (T := TX10) (N := 10) hx hb hts i_X10 tyX10 tyX10_ok nmX10 hown hK hP hD hS 1 rfl rfl 8 (by decide) (hts _ q_13) (fun _ h9 => h9) rfl (tyX10_ok 8 (by decide)) rfl rfl (Nat.le_of_ble_eq_true rfl) dX10_rewind_12 (fun H locs hP hD hS => ?_)
  have hP : va_P (dC, dI) vwCl (wd_495 r k) H := hP
  have hD : va_D A (wd_495 r k) := hD
  refine lv_aload_n hx hb dX10_rewind_15 rfl (lv_at hl 0 rfl) ?_
  refine lv_iconst (v := (-1)) hx hb dX10_rewind_16 (by decide) ?_
  refine va_put (D := (dC, dI)) (ci := 10) (v := .int (-1)) (ty := tyX10 9) (C := RX10) (T := TX10) (N := 10) hx hb hts i_X10 tyX10 tyX10_ok nmX10 hown hK hP hD hS 1 rfl rfl 9 (by decide) (hts _ q_14) (fun _ h9 => h9) rfl (tyX10_ok 9 (by decide)) rfl rfl (Nat.le_of_ble_eq_true rfl) dX10_rewind_17 (fun H locs hP hD hS => ?_)
  have hP : va_P (dC, dI) vwCl (wd_495 r k) H := hP
  have hD : va_D A (wd_495 r k) := hD
  refine W.widen (k := 0) (n := 0) (Nat.le_of_ble_eq_true rfl) (Nat.le_of_ble_eq_true rfl) ?_
  have hP9 := hP.sub (ws' := (wd_495 r k)) [0, 1, 2, 3, 4, 5, 6, 7, 8, 9, 10, 11, 12, 13] rfl
  have hD9 := hD.sub (ws' := (wd_495 r k)) [0, 1, 2, 3, 4, 5, 6, 7, 8, 9, 10, 11, 12, 13] (by decide) rfl
  have hK9 := hK.sub (tys' := [((k 0), .int), ((k 1), .int), ((k 2), .int)]) [0, 1, 2] rfl
  exact W.vret hx hb hr (fun t ht hW => ⟨⟨(), rfl, trivial, by rw [ht]; exact hP9, va_K.moved hW.alike hK9, hD9⟩, hS.F ht⟩) hS.2.2 dX10_rewind_20
def wd_597 (r : Nat → Nat) (k : Nat → ClassId) : va_W := [((r 28), .inl ((k 2), 168, .inl (fun _ => 0)))]
def wd_598 (r : Nat → Nat) (k : Nat → ClassId) : va_W := [((r 0), .inr (11, [.ref (r 1), .ref (r 2), .ref (r 3), .ref (r 4), .ref (r 5), .ref (r 6), .ref (r 7), .ref (r 8), .ref (r 9), .ref (r 10), .ref (r 11), .ref (r 12), .ref (r 13), .ref (r 14), .ref (r 15), .int 0, .int 0, .ref (r 16), .int (-1), .ref (r 17)])), ((r 1), .inr (10, [.ref (r 18), .int 0, .int 0, .int 0, .int (-1), .int (-1), .long 0, .int 0, .int 0, .int (-1)])), ((r 18), .inl ((k 0), 1600, .inl (fun _ => 0))), ((r 14), .inl ((k 1), 7, .inl (fun _ => 0))), ((r 4), .inr (8, [.int 0, .int 0, .int 0, .ref (r 19), .int 0, .int 0, .ref (r 20), .int 0, .int 0, .int 0, .int 0, .int 0, .int 0, .ref (r 21)])), ((r 2), .inr (2, [.int 0, .ref (r 22), .ref (r 23), .ref (r 24)])), ((r 3), .inr (2, [.int 0, .ref (r 25), .ref (r 26), .ref (r 27)])), ((r 5), .inr (8, [.int 0, .int 0, .int 0, .ref (r 28), .int 0, .int 0, .ref (r 29), .int 0, .int 0, .int 0, .int 0, .int 0, .int 0, .ref (r 30)])), ((r 8), .inr (1, [.ref (r 1), .ref (r 3), .ref (r 5), .ref (r 31), .ref (r 32), .int 0, .int 0, .int 3047])), ((r 10), .inr (5, [.ref (r 4), .ref (r 2), .ref (r 7), .ref (r 9), .ref (r 33), .ref (r 34), .int 0, .int 0, .int 0, .int 0, .int (-1)])), ((r 11), .inr (0, [.ref (r 2), .ref (r 7), .long 1])), ((r 12), .inr (6, [.ref (r 7), .ref (r 35), .ref (r 36), .ref (r 37), .int 0, .ref (r 38), .int 0, .int (-1), .int (-1), .null, .null])), ((r 13), .inr (3, [.ref (r 2), .ref (r 39), .int 0]))]
def wd_599 (r : Nat → Nat) (k : Nat → ClassId) (f633 : Nat → Int32) : va_W := [((r 28), .inl ((k 2), 168, .inl f633))]
def wd_600 (r : Nat → Nat) (k : Nat → ClassId) (f633 : Nat → Int32) : va_W := [((r 0), .inr (11, [.ref (r 1), .ref (r 2), .ref (r 3), .ref (r 4), .ref (r 5), .ref (r 6), .ref (r 7), .ref (r 8), .ref (r 9), .ref (r 10), .ref (r 11), .ref (r 12), .ref (r 13), .ref (r 14), .ref (r 15), .int 0, .int 0, .ref (r 16), .int (-1), .ref (r 17)])), ((r 1), .inr (10, [.ref (r 18), .int 0, .int 0, .int 0, .int (-1), .int (-1), .long 0, .int 0, .int 0, .int (-1)])), ((r 18), .inl ((k 0), 1600, .inl (fun _ => 0))), ((r 14), .inl ((k 1), 7, .inl (fun _ => 0))), ((r 4), .inr (8, [.int 0, .int 0, .int 0, .ref (r 19), .int 0, .int 0, .ref (r 20), .int 0, .int 0, .int 0, .int 0, .int 0, .int 0, .ref (r 21)])), ((r 2), .inr (2, [.int 0, .ref (r 22), .ref (r 23), .ref (r 24)])), ((r 3), .inr (2, [.int 0, .ref (r 25), .ref (r 26), .ref (r 27)])), ((r 5), .inr (8, [.int 0, .int 0, .int 0, .ref (r 28), .int 0, .int 0, .ref (r 29), .int 0, .int 0, .int 0, .int 0, .int 0, .int 0, .ref (r 30)])), ((r 8), .inr (1, [.ref (r 1), .ref (r 3), .ref (r 5), .ref (r 31), .ref (r 32), .int 0, .int 0, .int 3047])), ((r 10), .inr (5, [.ref (r 4), .ref (r 2), .ref (r 7), .ref (r 9), .ref (r 33), .ref (r 34), .int 0, .int 0, .int 0, .int 0, .int (-1)])), ((r 11), .inr (0, [.ref (r 2), .ref (r 7), .long 1])), ((r 12), .inr (6, [.ref (r 7), .ref (r 35), .ref (r 36), .ref (r 37), .int 0, .ref (r 38), .int 0, .int (-1), .int (-1), .null, .null])), ((r 13), .inr (3, [.ref (r 2), .ref (r 39), .int 0])), ((r 28), .inl ((k 2), 168, .inl f633))]
def wd_601 (r : Nat → Nat) (k : Nat → ClassId) (f635 : Nat → Int32) : va_W := [((r 28), .inl ((k 2), 168, .inl f635))]
def wd_602 (r : Nat → Nat) (k : Nat → ClassId) (f635 : Nat → Int32) : va_W := [((r 0), .inr (11, [.ref (r 1), .ref (r 2), .ref (r 3), .ref (r 4), .ref (r 5), .ref (r 6), .ref (r 7), .ref (r 8), .ref (r 9), .ref (r 10), .ref (r 11), .ref (r 12), .ref (r 13), .ref (r 14), .ref (r 15), .int 0, .int 0, .ref (r 16), .int (-1), .ref (r 17)])), ((r 1), .inr (10, [.ref (r 18), .int 0, .int 0, .int 0, .int (-1), .int (-1), .long 0, .int 0, .int 0, .int (-1)])), ((r 18), .inl ((k 0), 1600, .inl (fun _ => 0))), ((r 14), .inl ((k 1), 7, .inl (fun _ => 0))), ((r 4), .inr (8, [.int 0, .int 0, .int 0, .ref (r 19), .int 0, .int 0, .ref (r 20), .int 0, .int 0, .int 0, .int 0, .int 0, .int 0, .ref (r 21)])), ((r 2), .inr (2, [.int 0, .ref (r 22), .ref (r 23), .ref (r 24)])), ((r 3), .inr (2, [.int 0, .ref (r 25), .ref (r 26), .ref (r 27)])), ((r 5), .inr (8, [.int 0, .int 0, .int 0, .ref (r 28), .int 0, .int 0, .ref (r 29), .int 0, .int 0, .int 0, .int 0, .int 0, .int 0, .ref (r 30)])), ((r 8), .inr (1, [.ref (r 1), .ref (r 3), .ref (r 5), .ref (r 31), .ref (r 32), .int 0, .int 0, .int 3047])), ((r 10), .inr (5, [.ref (r 4), .ref (r 2), .ref (r 7), .ref (r 9), .ref (r 33), .ref (r 34), .int 0, .int 0, .int 0, .int 0, .int (-1)])), ((r 11), .inr (0, [.ref (r 2), .ref (r 7), .long 1])), ((r 12), .inr (6, [.ref (r 7), .ref (r 35), .ref (r 36), .ref (r 37), .int 0, .ref (r 38), .int 0, .int (-1), .int (-1), .null, .null])), ((r 13), .inr (3, [.ref (r 2), .ref (r 39), .int 0])), ((r 28), .inl ((k 2), 168, .inl f635))]
def wd_603 (r : Nat → Nat) (k : Nat → ClassId) (f637 : Nat → Int32) : va_W := [((r 28), .inl ((k 2), 168, .inl f637))]
def wd_604 (r : Nat → Nat) (k : Nat → ClassId) (f637 : Nat → Int32) : va_W := [((r 0), .inr (11, [.ref (r 1), .ref (r 2), .ref (r 3), .ref (r 4), .ref (r 5), .ref (r 6), .ref (r 7), .ref (r 8), .ref (r 9), .ref (r 10), .ref (r 11), .ref (r 12), .ref (r 13), .ref (r 14), .ref (r 15), .int 0, .int 0, .ref (r 16), .int (-1), .ref (r 17)])), ((r 1), .inr (10, [.ref (r 18), .int 0, .int 0, .int 0, .int (-1), .int (-1), .long 0, .int 0, .int 0, .int (-1)])), ((r 18), .inl ((k 0), 1600, .inl (fun _ => 0))), ((r 14), .inl ((k 1), 7, .inl (fun _ => 0))), ((r 4), .inr (8, [.int 0, .int 0, .int 0, .ref (r 19), .int 0, .int 0, .ref (r 20), .int 0, .int 0, .int 0, .int 0, .int 0, .int 0, .ref (r 21)])), ((r 2), .inr (2, [.int 0, .ref (r 22), .ref (r 23), .ref (r 24)])), ((r 3), .inr (2, [.int 0, .ref (r 25), .ref (r 26), .ref (r 27)])), ((r 5), .inr (8, [.int 0, .int 0, .int 0, .ref (r 28), .int 0, .int 0, .ref (r 29), .int 0, .int 0, .int 0, .int 0, .int 0, .int 0, .ref (r 30)])), ((r 8), .inr (1, [.ref (r 1), .ref (r 3), .ref (r 5), .ref (r 31), .ref (r 32), .int 0, .int 0, .int 3047])), ((r 10), .inr (5, [.ref (r 4), .ref (r 2), .ref (r 7), .ref (r 9), .ref (r 33), .ref (r 34), .int 0, .int 0, .int 0, .int 0, .int (-1)])), ((r 11), .inr (0, [.ref (r 2), .ref (r 7), .long 1])), ((r 12), .inr (6, [.ref (r 7), .ref (r 35), .ref (r 36), .ref (r 37), .int 0, .ref (r 38), .int 0, .int (-1), .int (-1), .null, .null])), ((r 13), .inr (3, [.ref (r 2), .ref (r 39), .int 0])), ((r 28), .inl ((k 2), 168, .inl f637))]
def wd_605 (r : Nat → Nat) (k : Nat → ClassId) (f639 : Nat → Int32) : va_W := [((r 28), .inl ((k 2), 168, .inl f639))]
def wd_606 (r : Nat → Nat) (k : Nat → ClassId) (f639 : Nat → Int32) : va_W := [((r 0), .inr (11, [.ref (r 1), .ref (r 2), .ref (r 3), .ref (r 4), .ref (r 5), .ref (r 6), .ref (r 7), .ref (r 8), .ref (r 9), .ref (r 10), .ref (r 11), .ref (r 12), .ref (r 13), .ref (r 14), .ref (r 15), .int 0, .int 0, .ref (r 16), .int (-1), .ref (r 17)])), ((r 1), .inr (10, [.ref (r 18), .int 0, .int 0, .int 0, .int (-1), .int (-1), .long 0, .int 0, .int 0, .int (-1)])), ((r 18), .inl ((k 0), 1600, .inl (fun _ => 0))), ((r 14), .inl ((k 1), 7, .inl (fun _ => 0))), ((r 4), .inr (8, [.int 0, .int 0, .int 0, .ref (r 19), .int 0, .int 0, .ref (r 20), .int 0, .int 0, .int 0, .int 0, .int 0, .int 0, .ref (r 21)])), ((r 2), .inr (2, [.int 0, .ref (r 22), .ref (r 23), .ref (r 24)])), ((r 3), .inr (2, [.int 0, .ref (r 25), .ref (r 26), .ref (r 27)])), ((r 5), .inr (8, [.int 0, .int 0, .int 0, .ref (r 28), .int 0, .int 0, .ref (r 29), .int 0, .int 0, .int 0, .int 0, .int 0, .int 0, .ref (r 30)])), ((r 8), .inr (1, [.ref (r 1), .ref (r 3), .ref (r 5), .ref (r 31), .ref (r 32), .int 0, .int 0, .int 3047])), ((r 10), .inr (5, [.ref (r 4), .ref (r 2), .ref (r 7), .ref (r 9), .ref (r 33), .ref (r 34), .int 0, .int 0, .int 0, .int 0, .int (-1)])), ((r 11), .inr (0, [.ref (r 2), .ref (r 7), .long 1])), ((r 12), .inr (6, [.ref (r 7), .ref (r 35), .ref (r 36), .ref (r 37), .int 0, .ref (r 38), .int 0, .int (-1), .int (-1), .null, .null])), ((r 13), .inr (3, [.ref (r 2), .ref (r 39), .int 0])), ((r 28), .inl ((k 2), 168, .inl f639))]
set_option maxHeartbeats 4000000 in
set_option maxRecDepth 100000 in
theorem c13_X8_clear (l : Launch) (dC : Nat → ClassId) (dI : Nat → Nat → Nat) (r : Nat → Nat) (k : Nat → ClassId) (sz : Nat) : Met l yX8_clear (Cond.code yX8_clear cX8_clear 2 none :: wA) ({ frames := 2, cells := 0, slots := 0, locals := 46 }) (va_Pc [.ref (r 5), .int 0] (fun U => U.heap.size = sz ∧ va_P (dC, dI) vwCl (wd_495 r k) U.heap ∧ va_K (dC, dI) vwCl [((k 0), .int), ((k 1), .int), ((k 2), .int)] U ∧ va_D (fun _ => True) (wd_495 r k))) (va_Qv (fun (_ : Unit) => True) (fun _ t => ∃ f639 : Nat → Int32, va_P (dC, dI) vwCl (wd_606 r k f639) t.heap ∧ va_K (dC, dI) vwCl [((k 0), .int), ((k 1), .int), ((k 2), .int)] t ∧ va_D (va_A (wd_495 r k) sz) (wd_606 r k f639)) (va_A (wd_495 r k) sz)) 0 0 (va_A (wd_495 r k) sz) := by
  refine Met.ofW (cc := cX8_clear) (maxL := 2) (ret := none) (by decide) rfl ?_
  intro p e s m args below meth c s₁ B hml hv
  obtain ⟨rfl, hsz, hP, hK, hD0⟩ := hv
  have hx := B.exec
  have hb := B.bytes
  have hr := B.returns
  have hts : ∀ w ∈ wA, w.before [.ref (r 5), .int 0].toArray s = true := fun w h => atoms_spec (ws := Cond.code yX8_clear cX8_clear 2 none :: wA) B.pre w (List.mem_cons_of_mem _ h)
  have hown : s.vm.findClass RX8 = some m.cls := findClass_of_methodNamed B.named
  have hlocks := B.notSynchronized
  subst hsz
  have hD := hD0.self (sz := s.heap.size)
  generalize hAe : va_A (wd_495 r k) s.heap.size = A at hD ⊢
  have hA : ∀ q : Nat, s.heap.size ≤ q → A q := fun q h => by rw [← hAe]; exact Or.inr h
  have hS : va_S A s.heap s.heap [] := va_S.rf
  have hl := lv_entry ([.ref (r 5), .int 0]) (n := 2) (Nat.le_of_ble_eq_true rfl)
  rw [lg_entry_eq]
  generalize (lg_sl ([.ref (r 5), .int 0]) ++ List.replicate (2 - (lg_sl ([.ref (r 5), .int 0])).length) Slot.unset).toArray = ls at hl ⊢
  have hl : lv_has ls 2 [(0, .ref (r 5)), (1, .int 0)] := hl
  refine lv_aload_n hx hb dX8_clear_0 rfl (lv_at hl 0 rfl) ?_
  refine lv_iload_n hx hb dX8_clear_1 rfl (lv_at hl 1 rfl) ?_
  refine va_put (D := (dC, dI)) (ci := 8) (v := .int 0) (ty := tyX8 0) (C := RX8) (T := TX8) (N := 14) hx hb hts i_X8 tyX8 tyX8_ok nmX8 hown hK hP hD hS 7 rfl rfl 0 (by decide) (hts _ q_24) (fun _ h9 => h9) rfl (tyX8_ok 0 (by decide)) rfl rfl (Nat.le_of_ble_eq_true rfl) dX8_clear_2 (fun H locs hP hD hS => ?_)
  have hP : va_P (dC, dI) vwCl (wd_495 r k) H := hP
  have hD : va_D A (wd_495 r k) := hD
  refine lv_aload_n hx hb dX8_clear_5 rfl (lv_at hl 0 rfl) ?_
  refine lv_iload_n hx hb dX8_clear_6 rfl (lv_at hl 1 rfl) ?_
  refine va_put (D := (dC, dI)) (ci := 8) (v := .int 0) (ty := tyX8 1) (C := RX8) (T := TX8) (N := 14) hx hb hts i_X8 tyX8 tyX8_ok nmX8 hown hK hP hD hS 7 rfl rfl 1 (by decide) (hts _ q_25) (fun _ h9 => h9) rfl (tyX8_ok 1 (by decide)) rfl rfl (Nat.le_of_ble_eq_true rfl) dX8_clear_7 (fun H locs hP hD hS => ?_)
  have hP : va_P (dC, dI) vwCl (wd_495 r k) H := hP
  have hD : va_D A (wd_495 r k) := hD
  refine lv_aload_n hx hb dX8_clear_10 rfl (lv_at hl 0 rfl) ?_
  refine lv_iconst (v := 0) hx hb dX8_clear_11 (by decide) ?_
  refine va_put (D := (dC, dI)) (ci := 8) (v := .int 0) (ty := tyX8 2) (C := RX8) (T := TX8) (N := 14) hx hb hts i_X8 tyX8 tyX8_ok nmX8 hown hK hP hD hS 7 rfl rfl 2 (by decide) (hts _ q_26) (fun _ h9 => h9) rfl (tyX8_ok 2 (by decide)) rfl rfl (Nat.le_of_ble_eq_true rfl) dX8_clear_12 (fun H locs hP hD hS => ?_)
  have hP : va_P (dC, dI) vwCl (wd_495 r k) H := hP
  have hD : va_D A (wd_495 r k) := hD
  refine lv_aload_n hx hb dX8_clear_15 rfl (lv_at hl 0 rfl) ?_
  refine lv_iconst (v := 0) hx hb dX8_clear_16 (by decide) ?_
  refine va_put (D := (dC, dI)) (ci := 8) (v := .int 0) (ty := tyX8 4) (C := RX8) (T := TX8) (N := 14) hx hb hts i_X8 tyX8 tyX8_ok nmX8 hown hK hP hD hS 7 rfl rfl 4 (by decide) (hts _ q_28) (fun _ h9 => h9) rfl (tyX8_ok 4 (by decide)) rfl rfl (Nat.le_of_ble_eq_true rfl) dX8_clear_17 (fun H locs hP hD hS => ?_)
  have hP : va_P (dC, dI) vwCl (wd_495 r k) H := hP
  have hD : va_D A (wd_495 r k) := hD
  refine lv_aload_n hx hb dX8_clear_20 rfl (lv_at hl 0 rfl) ?_
  refine lv_iconst (v := 0) hx hb dX8_clear_21 (by decide) ?_
  refine va_put (D := (dC, dI)) (ci := 8) (v := .int 0) (ty := tyX8 11) (C := RX8) (T := TX8) (N := 14) hx hb hts i_X8 tyX8 tyX8_ok nmX8 hown hK hP hD hS 7 rfl rfl 11 (by decide) (hts _ q_35) (fun _ h9 => h9) rfl (tyX8_ok 11 (by decide)) rfl rfl (Nat.le_of_ble_eq_true rfl) dX8_clear_22 (fun H locs hP hD hS => ?_)
  have hP : va_P (dC, dI) vwCl (wd_495 r k) H := hP
  have hD : va_D A (wd_495 r k) := hD
  refine lv_aload_n hx hb dX8_clear_25 rfl (lv_at hl 0 rfl) ?_
  refine lv_iconst (v := 0) hx hb dX8_clear_26 (by decide) ?_
  refine va_put (D := (dC, dI)) (ci := 8) (v := .int 0) (ty := tyX8 12) (C := RX8) (T := TX8) (N := 14) hx hb hts i_X8 tyX8 tyX8_ok nmX8 hown hK hP hD hS 7 rfl rfl 12 (by decide) (hts _ q_36) (fun _ h9 => h9) rfl (tyX8_ok 12 (by decide)) rfl rfl (Nat.le_of_ble_eq_true rfl) dX8_clear_27 (fun H locs hP hD hS => ?_)
  have hP : va_P (dC, dI) vwCl (wd_495 r k) H := hP
  have hD : va_D A (wd_495 r k) := hD
  refine lv_aload_n hx hb dX8_clear_30 rfl (lv_at hl 0 rfl) ?_
  refine va_get (D := (dC, dI)) (ci := 8) (v := .ref (r 28)) (C := RX8) (T := TX8) (N := 14) hx hb hts i_X8 hown hK hP 7 rfl rfl 3 (by decide) (hts _ q_27) (fun _ h9 => h9) rfl dX8_clear_31 ?_
  refine lv_sipush (v := 1000) hx hb dX8_clear_34 (by decide) ?_
  have hPc := hP.sub (ws' := (wd_597 r k)) [8] rfl
  have hDc := hD.sub (ws' := (wd_597 r k)) [8] (by decide) rfl
  have hKc := hK.sub (tys' := [((k 2), .int)]) [2] rfl
  have hFc := va_free (wc := (wd_597 r k)) hD hS hA [8] rfl
  refine va_callv (va_runS (As := [.ref (r 28), .int 1000]) (rest := []) ⟨hx, hb, hml, hown, hts⟩ (c_fill l dC dI (r 28) (k 2) (fun _ => 0) 1000 H.size) (va_cwS 2 hts (gS q_266 q_267 q_245 q_240) rfl rfl rfl mds_yJ7_fill_53178 ⟨Nat.le_of_ble_eq_true rfl, Nat.le_of_ble_eq_true rfl⟩) ⟨fun a U g mk q => by obtain ⟨q0, q1, qP, qK, qD⟩ := q; exact ⟨q0, q1, qP, va_K.moved (u := U) (U := U.calling g mk a) (Vm.Alike.refl U.vm) qK, qD⟩, fun U hU hW => ⟨rfl, by rw [hU], by rw [hU]; exact hPc, va_K.moved hW.alike hKc, hDc.weaken (fun _ _ _ _ => trivial)⟩⟩ rfl rfl hl.1 rfl (lv_room (Nat.le_of_ble_eq_true rfl)) dX8_clear_37 ⟨Nat.le_of_ble_eq_true rfl, Nat.le_of_ble_eq_true rfl⟩) hS (fun q _ h => hFc q h) hFc (fun u t H1 locs ht hvm hw hB hz1 hk1 hS => ?_)
  obtain ⟨f637, hP1, hK1, hD1⟩ := hB
  rw [ht] at hP1
  have hK1 := va_K.moved hvm.symm hK1
  obtain ⟨hP, hD⟩ := va_join (wr := (wd_598 r k)) (w1 := (wd_603 r k f637)) hP hD [8] [0, 1, 2, 3, 4, 5, 6, 7, 9, 10, 11, 12, 13] rfl rfl (by decide) (by decide) hk1 hFc hP1 hD1
  have hK := (hK.sub (tys' := [((k 0), .int), ((k 1), .int)]) [0, 1] rfl).app hK1
  have hK : va_K (dC, dI) vwCl [((k 0), .int), ((k 1), .int), ((k 2), .int)] s := hK
  generalize H1 = H at hP hS ⊢
  have hP : va_P (dC, dI) vwCl (wd_604 r k f637) H := hP
  have hD : va_D A (wd_604 r k f637) := hD
  refine lv_aload_n hx hb dX8_clear_40 rfl (lv_at hl 0 rfl) ?_
  refine va_get (D := (dC, dI)) (ci := 8) (v := .ref (r 28)) (C := RX8) (T := TX8) (N := 14) hx hb hts i_X8 hown hK hP 7 rfl rfl 3 (by decide) (hts _ q_27) (fun _ h9 => h9) rfl dX8_clear_41 ?_
  refine lv_iconst (v := 0) hx hb dX8_clear_44 (by decide) ?_
  refine lv_bipush (v := 8) hx hb dX8_clear_45 (by decide) ?_
  refine lv_sipush (v := 3047) hx hb dX8_clear_47 (by decide) ?_
  have hPc := hP.sub (ws' := (wd_603 r k f637)) [13] rfl
  have hDc := hD.sub (ws' := (wd_603 r k f637)) [13] (by decide) rfl
  have hKc := hK.sub (tys' := [((k 2), .int)]) [2] rfl
  have hFc := va_free (wc := (wd_603 r k f637)) hD hS hA [13] rfl
  refine va_callv (va_runS (As := [.ref (r 28), .int 0, .int 8, .int 3047]) (rest := []) ⟨hx, hb, hml, hown, hts⟩ (c_fill4 l dC dI (r 28) (k 2) f637 3047 H.size) (va_cwS 4 hts (gS q_268 q_269 q_245 q_241) rfl rfl rfl mds_yJ7_fill_fda19 ⟨Nat.le_of_ble_eq_true rfl, Nat.le_of_ble_eq_true rfl⟩) ⟨fun a U g mk q => by obtain ⟨q0, q1, qP, qK, qD⟩ := q; exact ⟨q0, q1, qP, va_K.moved (u := U) (U := U.calling g mk a) (Vm.Alike.refl U.vm) qK, qD⟩, fun U hU hW => ⟨rfl, by rw [hU], by rw [hU]; exact hPc, va_K.moved hW.alike hKc, hDc.weaken (fun _ _ _ _ => trivial)⟩⟩ rfl rfl hl.1 rfl (lv_room (Nat.le_of_ble_eq_true rfl)) dX8_clear_50 ⟨Nat.le_of_ble_eq_true rfl, Nat.le_of_ble_eq_true rfl⟩) hS (fun q _ h => hFc q h) hFc (fun u t H1 locs ht hvm hw hB hz1 hk1 hS => ?_)
  obtain ⟨f639, hP1, hK1, hD1⟩ := hB
  rw [ht] at hP1
  have hK1 := va_K.moved hvm.symm hK1
  obtain ⟨hP, hD⟩ := va_join (wr := (wd_598 r k)) (w1 := (wd_605 r k f639)) hP hD [13] [0, 1, 2, 3, 4, 5, 6, 7, 8, 9, 10, 11, 12] rfl rfl (by decide) (by decide) hk1 hFc hP1 hD1
  have hK := (hK.sub (tys' := [((k 0), .int), ((k 1), .int)]) [0, 1] rfl).app hK1
  have hK : va_K (dC, dI) vwCl [((k 0), .int), ((k 1), .int), ((k 2), .int)] s := hK
  generalize H1 = H at hP hS ⊢
  have hP : va_P (dC, dI) vwCl (wd_606 r k f639) H := hP
  have hD : va_D A (wd_606 r k f639) := hD
  refine W.widen (k := 0) (n := 0) (Nat.le_of_ble_eq_true rfl) (Nat.le_of_ble_eq_true rfl) ?_
  have hP9 := hP.sub (ws' := (wd_606 r k f639)) [0, 1, 2, 3, 4, 5, 6, 7, 8, 9, 10, 11, 12, 13] rfl
  have hD9 := hD.sub (ws' := (wd_606 r k f639)) [0, 1, 2, 3, 4, 5, 6, 7, 8, 9, 10, 11, 12, 13] (by decide) rfl
  have hK9 := hK.sub (tys' := [((k 0), .int), ((k 1), .int), ((k 2), .int)]) [0, 1, 2] rfl
  exact W.vret hx hb hr (fun t ht hW => ⟨⟨(), rfl, trivial, f639, by rw [ht]; exact hP9, va_K.moved hW.alike hK9, hD9⟩, hS.F ht⟩) hS.2.2 dX8_clear_53
def wd_607 (r : Nat → Nat) (k : Nat → ClassId) (f641 : Nat → Int32) : va_W := [((r 0), .inr (11, [.ref (r 1), .ref (r 2), .ref (r 3), .ref (r 4), .ref (r 5), .ref (r 6), .ref (r 7), .ref (r 8), .ref (r 9), .ref (r 10), .ref (r 11), .ref (r 12), .ref (r 13), .ref (r 14), .ref (r 15), .int 0, .int 0, .ref (r 16), .int (-1), .ref (r 17)])), ((r 1), .inr (10, [.ref (r 18), .int 0, .int 0, .int 0, .int (-1), .int (-1), .long 0, .int 0, .int 0, .int (-1)])), ((r 18), .inl ((k 0), 1600, .inl (fun _ => 0))), ((r 14), .inl ((k 1), 7, .inl (fun _ => 0))), ((r 4), .inr (8, [.int 0, .int 0, .int 0, .ref (r 19), .int 0, .int 0, .ref (r 20), .int 0, .int 0, .int 0, .int 0, .int 0, .int 0, .ref (r 21)])), ((r 2), .inr (2, [.int 0, .ref (r 22), .ref (r 23), .ref (r 24)])), ((r 3), .inr (2, [.int 0, .ref (r 25), .ref (r 26), .ref (r 27)])), ((r 5), .inr (8, [.int 0, .int 0, .int 0, .ref (r 28), .int 0, .int 0, .ref (r 29), .int 0, .int 0, .int 0, .int 0, .int 0, .int 0, .ref (r 30)])), ((r 8), .inr (1, [.ref (r 1), .ref (r 3), .ref (r 5), .ref (r 31), .ref (r 32), .int 0, .int 0, .int 3047])), ((r 10), .inr (5, [.ref (r 4), .ref (r 2), .ref (r 7), .ref (r 9), .ref (r 33), .ref (r 34), .int 0, .int 0, .int 0, .int 0, .int (-1)])), ((r 11), .inr (0, [.ref (r 2), .ref (r 7), .long 1])), ((r 12), .inr (6, [.ref (r 7), .ref (r 35), .ref (r 36), .ref (r 37), .int 0, .ref (r 38), .int 0, .int (-1), .int (-1), .null, .null])), ((r 13), .inr (3, [.ref (r 2), .ref (r 39), .int 0])), ((r 28), .inl ((k 2), 168, .inl f641))]
def wd_608 (r : Nat → Nat) (k : Nat → ClassId) (fz0 : Nat → Int32) : va_W := [((r 0), .inr (11, [.ref (r 1), .ref (r 2), .ref (r 3), .ref (r 4), .ref (r 5), .ref (r 6), .ref (r 7), .ref (r 8), .ref (r 9), .ref (r 10), .ref (r 11), .ref (r 12), .ref (r 13), .ref (r 14), .ref (r 15), .int 0, .int 0, .ref (r 16), .int (-1), .ref (r 17)])), ((r 1), .inr (10, [.ref (r 18), .int 0, .int 0, .int 0, .int (-1), .int (-1), .long 0, .int 0, .int 0, .int (-1)])), ((r 18), .inl ((k 0), 1600, .inl (fun _ => 0))), ((r 14), .inl ((k 1), 7, .inl (fun _ => 0))), ((r 4), .inr (8, [.int 0, .int 0, .int 0, .ref (r 19), .int 0, .int 0, .ref (r 20), .int 0, .int 0, .int 0, .int 0, .int 0, .int 0, .ref (r 21)])), ((r 2), .inr (2, [.int 0, .ref (r 22), .ref (r 23), .ref (r 24)])), ((r 3), .inr (2, [.int 0, .ref (r 25), .ref (r 26), .ref (r 27)])), ((r 5), .inr (8, [.int 0, .int 0, .int 0, .ref (r 28), .int 0, .int 0, .ref (r 29), .int 0, .int 0, .int 0, .int 0, .int 0, .int 0, .ref (r 30)])), ((r 8), .inr (1, [.ref (r 1), .ref (r 3), .ref (r 5), .ref (r 31), .ref (r 32), .int 0, .int 0, .int 3047])), ((r 10), .inr (5, [.ref (r 4), .ref (r 2), .ref (r 7), .ref (r 9), .ref (r 33), .ref (r 34), .int 0, .int 0, .int 0, .int 0, .int (-1)])), ((r 11), .inr (0, [.ref (r 2), .ref (r 7), .long 1])), ((r 12), .inr (6, [.ref (r 7), .ref (r 35), .ref (r 36), .ref (r 37), .int 0, .ref (r 38), .int 0, .int (-1), .int (-1), .null, .null])), ((r 13), .inr (3, [.ref (r 2), .ref (r 39), .int 0])), ((r 28), .inl ((k 2), 168, .inl fz0))]
set_option maxHeartbeats 4000000 in
set_option maxRecDepth 100000 in
theorem c14_X10_peek (l : Launch) (dC : Nat → ClassId) (dI : Nat → Nat → Nat) (r : Nat → Nat) (k : Nat → ClassId) (fz0 : Nat → Int32) (sz : Nat) : Met l yX10_peek (Cond.code yX10_peek cX10_peek 1 (some .int) :: wA) ({ frames := 0, cells := 0, slots := 0, locals := 0 }) (va_Pc [.ref (r 1)] (fun U => U.heap.size = sz ∧ va_P (dC, dI) vwCl (wd_608 r k fz0) U.heap ∧ va_K (dC, dI) vwCl [((k 0), .int), ((k 1), .int), ((k 2), .int)] U ∧ va_D (fun _ => True) (wd_608 r k fz0))) (va_Qi (fun (r : Int32) (_ : Unit) => r = (-1)) (fun _ t => va_P (dC, dI) vwCl (wd_608 r k fz0) t.heap ∧ va_K (dC, dI) vwCl [((k 0), .int), ((k 1), .int), ((k 2), .int)] t ∧ va_D (va_A (wd_608 r k fz0) sz) (wd_608 r k fz0)) (va_A (wd_608 r k fz0) sz)) 0 0 (va_A (wd_608 r k fz0) sz) := by
  refine Met.ofW (cc := cX10_peek) (maxL := 1) (ret := (some .int)) (by decide) rfl ?_
  intro p e s m args below meth c s₁ B hml hv
  obtain ⟨rfl, hsz, hP, hK, hD0⟩ := hv
  have hx := B.exec
  have hb := B.bytes
  have hr := B.returns
  have hts : ∀ w ∈ wA, w.before [.ref (r 1)].toArray s = true := fun w h => atoms_spec (ws := Cond.code yX10_peek cX10_peek 1 (some .int) :: wA) B.pre w (List.mem_cons_of_mem _ h)
  have hown : s.vm.findClass RX10 = some m.cls := findClass_of_methodNamed B.named
  have hlocks := B.notSynchronized
  subst hsz
  have hD := hD0.self (sz := s.heap.size)
  generalize hAe : va_A (wd_608 r k fz0) s.heap.size = A at hD ⊢
  have hA : ∀ q : Nat, s.heap.size ≤ q → A q := fun q h => by rw [← hAe]; exact Or.inr h
  have hS : va_S A s.heap s.heap [] := va_S.rf
  have hl := lv_entry ([.ref (r 1)]) (n := 1) (Nat.le_of_ble_eq_true rfl)
  rw [lg_entry_eq]
  generalize (lg_sl ([.ref (r 1)]) ++ List.replicate (1 - (lg_sl ([.ref (r 1)])).length) Slot.unset).toArray = ls at hl ⊢
  have hl : lv_has ls 1 [(0, .ref (r 1))] := hl
  refine lv_aload_n hx hb dX10_peek_0 rfl (lv_at hl 0 rfl) ?_
  refine va_get (D := (dC, dI)) (ci := 10) (v := .int 0) (C := RX10) (T := TX10) (N := 10) hx hb hts i_X10 hown hK hP 1 rfl rfl 2 (by decide) (hts _ q_7) (fun _ h9 => h9) rfl dX10_peek_1 ?_
  refine lv_aload_n hx hb dX10_peek_4 rfl (lv_at hl 0 rfl) ?_
  refine va_get (D := (dC, dI)) (ci := 10) (v := .int 0) (C := RX10) (T := TX10) (N := 10) hx hb hts i_X10 hown hK hP 1 rfl rfl 1 (by decide) (hts _ q_6) (fun _ h9 => h9) rfl dX10_peek_5 ?_
  refine lv_icmp_ge (tgt := 52) hx hb dX10_peek_8 (by decide) (fun c_0 => ?_) (fun c_0 => absurd c_0 (by decide))
  refine lv_aload_n hx hb dX10_peek_52 rfl (lv_at hl 0 rfl) ?_
  refine va_get (D := (dC, dI)) (ci := 10) (v := .int 0) (C := RX10) (T := TX10) (N := 10) hx hb hts i_X10 hown hK hP 1 rfl rfl 2 (by decide) (hts _ q_7) (fun _ h9 => h9) rfl dX10_peek_53 ?_
  refine lv_aload_n hx hb dX10_peek_56 rfl (lv_at hl 0 rfl) ?_
  refine va_get (D := (dC, dI)) (ci := 10) (v := .int 0) (C := RX10) (T := TX10) (N := 10) hx hb hts i_X10 hown hK hP 1 rfl rfl 1 (by decide) (hts _ q_6) (fun _ h9 => h9) rfl dX10_peek_57 ?_
  refine lv_icmp_ge (tgt := 75) hx hb dX10_peek_60 (by decide) (fun c_0 => ?_) (fun c_0 => absurd c_0 (by decide))
  refine lv_iconst (v := (-1)) hx hb dX10_peek_75 (by decide) ?_
  refine W.widen (k := 0) (n := 0) (Nat.le_of_ble_eq_true rfl) (Nat.le_of_ble_eq_true rfl) ?_
  have hP9 := hP.sub (ws' := (wd_608 r k fz0)) [0, 1, 2, 3, 4, 5, 6, 7, 8, 9, 10, 11, 12, 13] rfl
  have hD9 := hD.sub (ws' := (wd_608 r k fz0)) [0, 1, 2, 3, 4, 5, 6, 7, 8, 9, 10, 11, 12, 13] (by decide) rfl
  have hK9 := hK.sub (tys' := [((k 0), .int), ((k 1), .int), ((k 2), .int)]) [0, 1, 2] rfl
  exact W.iret (v := (-1)) hx hb hr (fun t ht hW => ⟨⟨(-1), (), rfl, rfl, by rw [ht]; exact hP9, va_K.moved hW.alike hK9, hD9⟩, hS.F ht⟩) hS.2.2 dX10_peek_76
def wd_609 (r : Nat → Nat) (k : Nat → ClassId) (fz0 : Nat → Int32) : va_W := [((r 0), .inr (11, [.ref (r 1), .ref (r 2), .ref (r 3), .ref (r 4), .ref (r 5), .ref (r 6), .ref (r 7), .ref (r 8), .ref (r 9), .ref (r 10), .ref (r 11), .ref (r 12), .ref (r 13), .ref (r 14), .ref (r 15), .int 0, .int 0, .ref (r 16), .int (-1), .ref (r 17)])), ((r 1), .inr (10, [.ref (r 18), .int 0, .int 0, .int 0, .int (-1), .int (-1), .long 0, .int 0, .int 1, .int (-1)])), ((r 18), .inl ((k 0), 1600, .inl (fun _ => 0))), ((r 14), .inl ((k 1), 7, .inl (fun _ => 0))), ((r 4), .inr (8, [.int 0, .int 0, .int 0, .ref (r 19), .int 0, .int 0, .ref (r 20), .int 0, .int 0, .int 0, .int 0, .int 0, .int 0, .ref (r 21)])), ((r 2), .inr (2, [.int 0, .ref (r 22), .ref (r 23), .ref (r 24)])), ((r 3), .inr (2, [.int 0, .ref (r 25), .ref (r 26), .ref (r 27)])), ((r 5), .inr (8, [.int 0, .int 0, .int 0, .ref (r 28), .int 0, .int 0, .ref (r 29), .int 0, .int 0, .int 0, .int 0, .int 0, .int 0, .ref (r 30)])), ((r 8), .inr (1, [.ref (r 1), .ref (r 3), .ref (r 5), .ref (r 31), .ref (r 32), .int 0, .int 0, .int 3047])), ((r 10), .inr (5, [.ref (r 4), .ref (r 2), .ref (r 7), .ref (r 9), .ref (r 33), .ref (r 34), .int 0, .int 0, .int 0, .int 0, .int (-1)])), ((r 11), .inr (0, [.ref (r 2), .ref (r 7), .long 1])), ((r 12), .inr (6, [.ref (r 7), .ref (r 35), .ref (r 36), .ref (r 37), .int 0, .ref (r 38), .int 0, .int (-1), .int (-1), .null, .null])), ((r 13), .inr (3, [.ref (r 2), .ref (r 39), .int 0])), ((r 28), .inl ((k 2), 168, .inl fz0))]
def wd_610 (r : Nat → Nat) (k : Nat → ClassId) (fz0 : Nat → Int32) : va_W := [((r 0), .inr (11, [.ref (r 1), .ref (r 2), .ref (r 3), .ref (r 4), .ref (r 5), .ref (r 6), .ref (r 7), .ref (r 8), .ref (r 9), .ref (r 10), .ref (r 11), .ref (r 12), .ref (r 13), .ref (r 14), .ref (r 15), .int 0, .int 0, .ref (r 16), .int (-1), .ref (r 17)])), ((r 1), .inr (10, [.ref (r 18), .int 0, .int 0, .int 0, .int (-1), .int (-1), .long 0, .int 0, .int 1, .int 0])), ((r 18), .inl ((k 0), 1600, .inl (fun _ => 0))), ((r 14), .inl ((k 1), 7, .inl (fun _ => 0))), ((r 4), .inr (8, [.int 0, .int 0, .int 0, .ref (r 19), .int 0, .int 0, .ref (r 20), .int 0, .int 0, .int 0, .int 0, .int 0, .int 0, .ref (r 21)])), ((r 2), .inr (2, [.int 0, .ref (r 22), .ref (r 23), .ref (r 24)])), ((r 3), .inr (2, [.int 0, .ref (r 25), .ref (r 26), .ref (r 27)])), ((r 5), .inr (8, [.int 0, .int 0, .int 0, .ref (r 28), .int 0, .int 0, .ref (r 29), .int 0, .int 0, .int 0, .int 0, .int 0, .int 0, .ref (r 30)])), ((r 8), .inr (1, [.ref (r 1), .ref (r 3), .ref (r 5), .ref (r 31), .ref (r 32), .int 0, .int 0, .int 3047])), ((r 10), .inr (5, [.ref (r 4), .ref (r 2), .ref (r 7), .ref (r 9), .ref (r 33), .ref (r 34), .int 0, .int 0, .int 0, .int 0, .int (-1)])), ((r 11), .inr (0, [.ref (r 2), .ref (r 7), .long 1])), ((r 12), .inr (6, [.ref (r 7), .ref (r 35), .ref (r 36), .ref (r 37), .int 0, .ref (r 38), .int 0, .int (-1), .int (-1), .null, .null])), ((r 13), .inr (3, [.ref (r 2), .ref (r 39), .int 0])), ((r 28), .inl ((k 2), 168, .inl fz0))]
set_option maxHeartbeats 4000000 in
set_option maxRecDepth 100000 in
theorem c15_X10_wrong (l : Launch) (dC : Nat → ClassId) (dI : Nat → Nat → Nat) (r : Nat → Nat) (k : Nat → ClassId) (fz0 : Nat → Int32) (sz : Nat) : Met l yX10_wrong (Cond.code yX10_wrong cX10_wrong 3 (some .boolean) :: wA) ({ frames := 0, cells := 0, slots := 0, locals := 0 }) (va_Pc [.ref (r 1), .int 1, .int 0] (fun U => U.heap.size = sz ∧ va_P (dC, dI) vwCl (wd_608 r k fz0) U.heap ∧ va_K (dC, dI) vwCl [((k 0), .int), ((k 1), .int), ((k 2), .int)] U ∧ va_D (fun _ => True) (wd_608 r k fz0))) (va_Qi (fun (r : Int32) (_ : Unit) => r = 0) (fun _ t => va_P (dC, dI) vwCl (wd_610 r k fz0) t.heap ∧ va_K (dC, dI) vwCl [((k 0), .int), ((k 1), .int), ((k 2), .int)] t ∧ va_D (va_A (wd_608 r k fz0) sz) (wd_610 r k fz0)) (va_A (wd_608 r k fz0) sz)) 0 0 (va_A (wd_608 r k fz0) sz) := by
  refine Met.ofW (cc := cX10_wrong) (maxL := 3) (ret := (some .boolean)) (by decide) rfl ?_
  intro p e s m args below meth c s₁ B hml hv
  obtain ⟨rfl, hsz, hP, hK, hD0⟩ := hv
  have hx := B.exec
  have hb := B.bytes
  have hr := B.returns
  have hts : ∀ w ∈ wA, w.before [.ref (r 1), .int 1, .int 0].toArray s = true := fun w h => atoms_spec (ws := Cond.code yX10_wrong cX10_wrong 3 (some .boolean) :: wA) B.pre w (List.mem_cons_of_mem _ h)
  have hown : s.vm.findClass RX10 = some m.cls := findClass_of_methodNamed B.named
  have hlocks := B.notSynchronized
  subst hsz
  have hD := hD0.self (sz := s.heap.size)
  generalize hAe : va_A (wd_608 r k fz0) s.heap.size = A at hD ⊢
  have hA : ∀ q : Nat, s.heap.size ≤ q → A q := fun q h => by rw [← hAe]; exact Or.inr h
  have hS : va_S A s.heap s.heap [] := va_S.rf
  have hl := lv_entry ([.ref (r 1), .int 1, .int 0]) (n := 3) (Nat.le_of_ble_eq_true rfl)
  rw [lg_entry_eq]
  generalize (lg_sl ([.ref (r 1), .int 1, .int 0]) ++ List.replicate (3 - (lg_sl ([.ref (r 1), .int 1, .int 0])).length) Slot.unset).toArray = ls at hl ⊢
  have hl : lv_has ls 3 [(0, .ref (r 1)), (1, .int 1), (2, .int 0)] := hl
  refine lv_aload_n hx hb dX10_wrong_0 rfl (lv_at hl 0 rfl) ?_
  refine lv_iload_n hx hb dX10_wrong_1 rfl (lv_at hl 1 rfl) ?_
  refine va_put (D := (dC, dI)) (ci := 10) (v := .int 1) (ty := tyX10 8) (C := RX10) (T := TX10) (N := 10) hx hb hts i_X10 tyX10 tyX10_ok nmX10 hown hK hP hD hS 1 rfl rfl 8 (by decide) (hts _ q_13) (fun _ h9 => h9) rfl (tyX10_ok 8 (by decide)) rfl rfl (Nat.le_of_ble_eq_true rfl) dX10_wrong_2 (fun H locs hP hD hS => ?_)
  have hP : va_P (dC, dI) vwCl (wd_609 r k fz0) H := hP
  have hD : va_D A (wd_609 r k fz0) := hD
  refine lv_aload_n hx hb dX10_wrong_5 rfl (lv_at hl 0 rfl) ?_
  refine lv_iload_n hx hb dX10_wrong_6 rfl (lv_at hl 2 rfl) ?_
  refine va_put (D := (dC, dI)) (ci := 10) (v := .int 0) (ty := tyX10 9) (C := RX10) (T := TX10) (N := 10) hx hb hts i_X10 tyX10 tyX10_ok nmX10 hown hK hP hD hS 1 rfl rfl 9 (by decide) (hts _ q_14) (fun _ h9 => h9) rfl (tyX10_ok 9 (by decide)) rfl rfl (Nat.le_of_ble_eq_true rfl) dX10_wrong_7 (fun H locs hP hD hS => ?_)
  have hP : va_P (dC, dI) vwCl (wd_610 r k fz0) H := hP
  have hD : va_D A (wd_610 r k fz0) := hD
  refine lv_iconst (v := 0) hx hb dX10_wrong_10 (by decide) ?_
  refine W.widen (k := 0) (n := 0) (Nat.le_of_ble_eq_true rfl) (Nat.le_of_ble_eq_true rfl) ?_
  have hP9 := hP.sub (ws' := (wd_610 r k fz0)) [0, 1, 2, 3, 4, 5, 6, 7, 8, 9, 10, 11, 12, 13] rfl
  have hD9 := hD.sub (ws' := (wd_610 r k fz0)) [0, 1, 2, 3, 4, 5, 6, 7, 8, 9, 10, 11, 12, 13] (by decide) rfl
  have hK9 := hK.sub (tys' := [((k 0), .int), ((k 1), .int), ((k 2), .int)]) [0, 1, 2] rfl
  exact W.zret (v := 0) hx hb hr rfl (fun t ht hW => ⟨⟨0, (), rfl, rfl, by rw [ht]; exact hP9, va_K.moved hW.alike hK9, hD9⟩, hS.F ht⟩) hS.2.2 dX10_wrong_11
def wd_611 (r : Nat → Nat) (k : Nat → ClassId) (f641 : Nat → Int32) : va_W := [((r 0), .inr (11, [.ref (r 1), .ref (r 2), .ref (r 3), .ref (r 4), .ref (r 5), .ref (r 6), .ref (r 7), .ref (r 8), .ref (r 9), .ref (r 10), .ref (r 11), .ref (r 12), .ref (r 13), .ref (r 14), .ref (r 15), .int 0, .int 0, .ref (r 16), .int (-1), .ref (r 17)])), ((r 1), .inr (10, [.ref (r 18), .int 0, .int 0, .int 0, .int (-1), .int (-1), .long 0, .int 0, .int 1, .int 0])), ((r 18), .inl ((k 0), 1600, .inl (fun _ => 0))), ((r 14), .inl ((k 1), 7, .inl (fun _ => 0))), ((r 4), .inr (8, [.int 0, .int 0, .int 0, .ref (r 19), .int 0, .int 0, .ref (r 20), .int 0, .int 0, .int 0, .int 0, .int 0, .int 0, .ref (r 21)])), ((r 2), .inr (2, [.int 0, .ref (r 22), .ref (r 23), .ref (r 24)])), ((r 3), .inr (2, [.int 0, .ref (r 25), .ref (r 26), .ref (r 27)])), ((r 5), .inr (8, [.int 0, .int 0, .int 0, .ref (r 28), .int 0, .int 0, .ref (r 29), .int 0, .int 0, .int 0, .int 0, .int 0, .int 0, .ref (r 30)])), ((r 8), .inr (1, [.ref (r 1), .ref (r 3), .ref (r 5), .ref (r 31), .ref (r 32), .int 0, .int 0, .int 3047])), ((r 10), .inr (5, [.ref (r 4), .ref (r 2), .ref (r 7), .ref (r 9), .ref (r 33), .ref (r 34), .int 0, .int 0, .int 0, .int 0, .int (-1)])), ((r 11), .inr (0, [.ref (r 2), .ref (r 7), .long 1])), ((r 12), .inr (6, [.ref (r 7), .ref (r 35), .ref (r 36), .ref (r 37), .int 0, .ref (r 38), .int 0, .int (-1), .int (-1), .null, .null])), ((r 13), .inr (3, [.ref (r 2), .ref (r 39), .int 0])), ((r 28), .inl ((k 2), 168, .inl f641))]
def wd_612 (r : Nat → Nat) (k : Nat → ClassId) (f646 : Nat → Int32) : va_W := [((r 0), .inr (11, [.ref (r 1), .ref (r 2), .ref (r 3), .ref (r 4), .ref (r 5), .ref (r 6), .ref (r 7), .ref (r 8), .ref (r 9), .ref (r 10), .ref (r 11), .ref (r 12), .ref (r 13), .ref (r 14), .ref (r 15), .int 0, .int 0, .ref (r 16), .int (-1), .ref (r 17)])), ((r 1), .inr (10, [.ref (r 18), .int 0, .int 0, .int 0, .int (-1), .int (-1), .long 0, .int 0, .int 0, .int (-1)])), ((r 18), .inl ((k 0), 1600, .inl (fun _ => 0))), ((r 14), .inl ((k 1), 7, .inl (fun _ => 0))), ((r 4), .inr (8, [.int 0, .int 0, .int 0, .ref (r 19), .int 0, .int 0, .ref (r 20), .int 0, .int 0, .int 0, .int 0, .int 0, .int 0, .ref (r 21)])), ((r 2), .inr (2, [.int 0, .ref (r 22), .ref (r 23), .ref (r 24)])), ((r 3), .inr (2, [.int 0, .ref (r 25), .ref (r 26), .ref (r 27)])), ((r 5), .inr (8, [.int 0, .int 0, .int 0, .ref (r 28), .int 0, .int 0, .ref (r 29), .int 0, .int 0, .int 0, .int 0, .int 0, .int 0, .ref (r 30)])), ((r 8), .inr (1, [.ref (r 1), .ref (r 3), .ref (r 5), .ref (r 31), .ref (r 32), .int 0, .int 0, .int 3047])), ((r 10), .inr (5, [.ref (r 4), .ref (r 2), .ref (r 7), .ref (r 9), .ref (r 33), .ref (r 34), .int 0, .int 0, .int 0, .int 0, .int (-1)])), ((r 11), .inr (0, [.ref (r 2), .ref (r 7), .long 1])), ((r 12), .inr (6, [.ref (r 7), .ref (r 35), .ref (r 36), .ref (r 37), .int 0, .ref (r 38), .int 0, .int (-1), .int (-1), .null, .null])), ((r 13), .inr (3, [.ref (r 2), .ref (r 39), .int 0])), ((r 28), .inl ((k 2), 168, .inl f646))]
def wd_613 (r : Nat → Nat) (k : Nat → ClassId) (f646 : Nat → Int32) : va_W := [((r 0), .inr (11, [.ref (r 1), .ref (r 2), .ref (r 3), .ref (r 4), .ref (r 5), .ref (r 6), .ref (r 7), .ref (r 8), .ref (r 9), .ref (r 10), .ref (r 11), .ref (r 12), .ref (r 13), .ref (r 14), .ref (r 15), .int 0, .int 0, .ref (r 16), .int (-1), .ref (r 17)])), ((r 1), .inr (10, [.ref (r 18), .int 0, .int 0, .int 0, .int (-1), .int (-1), .long 0, .int 0, .int 1, .int 0])), ((r 18), .inl ((k 0), 1600, .inl (fun _ => 0))), ((r 14), .inl ((k 1), 7, .inl (fun _ => 0))), ((r 4), .inr (8, [.int 0, .int 0, .int 0, .ref (r 19), .int 0, .int 0, .ref (r 20), .int 0, .int 0, .int 0, .int 0, .int 0, .int 0, .ref (r 21)])), ((r 2), .inr (2, [.int 0, .ref (r 22), .ref (r 23), .ref (r 24)])), ((r 3), .inr (2, [.int 0, .ref (r 25), .ref (r 26), .ref (r 27)])), ((r 5), .inr (8, [.int 0, .int 0, .int 0, .ref (r 28), .int 0, .int 0, .ref (r 29), .int 0, .int 0, .int 0, .int 0, .int 0, .int 0, .ref (r 30)])), ((r 8), .inr (1, [.ref (r 1), .ref (r 3), .ref (r 5), .ref (r 31), .ref (r 32), .int 0, .int 0, .int 3047])), ((r 10), .inr (5, [.ref (r 4), .ref (r 2), .ref (r 7), .ref (r 9), .ref (r 33), .ref (r 34), .int 0, .int 0, .int 0, .int 0, .int (-1)])), ((r 11), .inr (0, [.ref (r 2), .ref (r 7), .long 1])), ((r 12), .inr (6, [.ref (r 7), .ref (r 35), .ref (r 36), .ref (r 37), .int 0, .ref (r 38), .int 0, .int (-1), .int (-1), .null, .null])), ((r 13), .inr (3, [.ref (r 2), .ref (r 39), .int 0])), ((r 28), .inl ((k 2), 168, .inl f646))]
set_option maxHeartbeats 4000000 in
set_option maxRecDepth 100000 in
theorem c16_X1_readHeap (l : Launch) (dC : Nat → ClassId) (dI : Nat → Nat → Nat) (r : Nat → Nat) (k : Nat → ClassId) (sz : Nat) : Met l yX1_readHeap (Cond.code yX1_readHeap cX1_readHeap 1 (some .boolean) :: wA) ({ frames := 3, cells := 0, slots := 0, locals := 67 }) (va_Pc [.ref (r 8)] (fun U => U.heap.size = sz ∧ va_P (dC, dI) vwCl (wd_495 r k) U.heap ∧ va_K (dC, dI) vwCl [((k 0), .int), ((k 1), .int), ((k 2), .int)] U ∧ va_D (fun _ => True) (wd_495 r k))) (va_Qi (fun (r : Int32) (_ : Unit) => r = 0) (fun _ t => ∃ f646 : Nat → Int32, va_P (dC, dI) vwCl (wd_613 r k f646) t.heap ∧ va_K (dC, dI) vwCl [((k 0), .int), ((k 1), .int), ((k 2), .int)] t ∧ va_D (va_A (wd_495 r k) sz) (wd_613 r k f646)) (va_A (wd_495 r k) sz)) 0 0 (va_A (wd_495 r k) sz) := by
  refine Met.ofW (cc := cX1_readHeap) (maxL := 1) (ret := (some .boolean)) (by decide) rfl ?_
  intro p e s m args below meth c s₁ B hml hv
  obtain ⟨rfl, hsz, hP, hK, hD0⟩ := hv
  have hx := B.exec
  have hb := B.bytes
  have hr := B.returns
  have hts : ∀ w ∈ wA, w.before [.ref (r 8)].toArray s = true := fun w h => atoms_spec (ws := Cond.code yX1_readHeap cX1_readHeap 1 (some .boolean) :: wA) B.pre w (List.mem_cons_of_mem _ h)
  have hown : s.vm.findClass RX1 = some m.cls := findClass_of_methodNamed B.named
  have hlocks := B.notSynchronized
  subst hsz
  have hD := hD0.self (sz := s.heap.size)
  generalize hAe : va_A (wd_495 r k) s.heap.size = A at hD ⊢
  have hA : ∀ q : Nat, s.heap.size ≤ q → A q := fun q h => by rw [← hAe]; exact Or.inr h
  have hS : va_S A s.heap s.heap [] := va_S.rf
  have hl := lv_entry ([.ref (r 8)]) (n := 1) (Nat.le_of_ble_eq_true rfl)
  rw [lg_entry_eq]
  generalize (lg_sl ([.ref (r 8)]) ++ List.replicate (1 - (lg_sl ([.ref (r 8)])).length) Slot.unset).toArray = ls at hl ⊢
  have hl : lv_has ls 1 [(0, .ref (r 8))] := hl
  refine lv_aload_n hx hb dX1_readHeap_0 rfl (lv_at hl 0 rfl) ?_
  refine va_get (D := (dC, dI)) (ci := 1) (v := .ref (r 1)) (C := RX1) (T := TX1) (N := 8) hx hb hts i_X1 hown hK hP 9 rfl rfl 0 (by decide) (hts _ q_62) (fun _ h9 => h9) rfl dX1_readHeap_1 ?_
  have hPc := hP.sub (ws' := (wd_495 r k)) [0, 1, 2, 3, 4, 5, 6, 7, 8, 9, 10, 11, 12, 13] rfl
  have hDc := hD.sub (ws' := (wd_495 r k)) [0, 1, 2, 3, 4, 5, 6, 7, 8, 9, 10, 11, 12, 13] (by decide) rfl
  have hKc := hK.sub (tys' := [((k 0), .int), ((k 1), .int), ((k 2), .int)]) [0, 1, 2] rfl
  have hFc := va_free (wc := (wd_495 r k)) hD hS hA [0, 1, 2, 3, 4, 5, 6, 7, 8, 9, 10, 11, 12, 13] rfl
  refine va_callv (va_runV (As := []) (rest := []) ⟨hx, hb, hml, hown, hts⟩ (c12_X10_rewind l dC dI r k s.heap.size) (cwV 0 hts (gV q_261 q_262 q_263 q_118 q_260) rfl rfl rfl mdv_yX10_rewind ⟨Nat.le_of_ble_eq_true rfl, Nat.le_of_ble_eq_true rfl⟩) ⟨fun a U g mk q => by obtain ⟨q0, q1, qP, qK, qD⟩ := q; exact ⟨q0, q1, qP, va_K.moved (u := U) (U := U.calling g mk a) (Vm.Alike.refl U.vm) qK, qD⟩, va_recv hKc hPc (ci := 10) (q0 := 1) rfl rfl, fun U hU hW => ⟨rfl, by rw [hU], by rw [hU]; exact hPc, va_K.moved hW.alike hKc, hDc.weaken (fun _ _ _ _ => trivial)⟩⟩ rfl rfl hl.1 rfl (lv_room (Nat.le_of_ble_eq_true rfl)) dX1_readHeap_4 ⟨Nat.le_of_ble_eq_true rfl, Nat.le_of_ble_eq_true rfl⟩) hS (fun q _ h => hFc q h) hFc (fun u t H1 locs ht hvm hw hB hz1 hk1 hS => ?_)
  obtain ⟨hP1, hK1, hD1⟩ := hB
  rw [ht] at hP1
  have hK1 := va_K.moved hvm.symm hK1
  obtain ⟨hP, hD⟩ := va_join (wr := []) (w1 := (wd_495 r k)) hP hD [0, 1, 2, 3, 4, 5, 6, 7, 8, 9, 10, 11, 12, 13] [] rfl rfl (by decide) (by decide) hk1 hFc hP1 hD1
  generalize H1 = H at hP hS ⊢
  have hP : va_P (dC, dI) vwCl (wd_495 r k) H := hP
  have hD : va_D A (wd_495 r k) := hD
  refine lv_aload_n hx hb dX1_readHeap_7 rfl (lv_at hl 0 rfl) ?_
  refine va_get (D := (dC, dI)) (ci := 1) (v := .ref (r 3)) (C := RX1) (T := TX1) (N := 8) hx hb hts i_X1 hown hK hP 9 rfl rfl 1 (by decide) (hts _ q_63) (fun _ h9 => h9) rfl dX1_readHeap_8 ?_
  refine lv_iconst (v := 0) hx hb dX1_readHeap_11 (by decide) ?_
  refine va_put (D := (dC, dI)) (ci := 2) (v := .int 0) (ty := tyX2 0) (C := RX2) (T := TX2) (N := 4) hx hb hts i_X2 tyX2 tyX2_ok nmX2 hown hK hP hD hS 6 rfl rfl 0 (by decide) (hts _ q_264) (fun _ h9 => h9) rfl (tyX2_ok 0 (by decide)) rfl rfl (Nat.le_of_ble_eq_true rfl) dX1_readHeap_12 (fun H locs hP hD hS => ?_)
  have hP : va_P (dC, dI) vwCl (wd_495 r k) H := hP
  have hD : va_D A (wd_495 r k) := hD
  refine lv_aload_n hx hb dX1_readHeap_15 rfl (lv_at hl 0 rfl) ?_
  refine lv_iconst (v := 0) hx hb dX1_readHeap_16 (by decide) ?_
  refine va_put (D := (dC, dI)) (ci := 1) (v := .int 0) (ty := tyX1 5) (C := RX1) (T := TX1) (N := 8) hx hb hts i_X1 tyX1 tyX1_ok nmX1 hown hK hP hD hS 9 rfl rfl 5 (by decide) (hts _ q_59) (fun _ h9 => h9) rfl (tyX1_ok 5 (by decide)) rfl rfl (Nat.le_of_ble_eq_true rfl) dX1_readHeap_17 (fun H locs hP hD hS => ?_)
  have hP : va_P (dC, dI) vwCl (wd_495 r k) H := hP
  have hD : va_D A (wd_495 r k) := hD
  refine lv_aload_n hx hb dX1_readHeap_20 rfl (lv_at hl 0 rfl) ?_
  refine va_get (D := (dC, dI)) (ci := 1) (v := .ref (r 5)) (C := RX1) (T := TX1) (N := 8) hx hb hts i_X1 hown hK hP 9 rfl rfl 2 (by decide) (hts _ q_64) (fun _ h9 => h9) rfl dX1_readHeap_21 ?_
  refine lv_iconst (v := 0) hx hb dX1_readHeap_24 (by decide) ?_
  have hPc := hP.sub (ws' := (wd_495 r k)) [0, 1, 2, 3, 4, 5, 6, 7, 8, 9, 10, 11, 12, 13] rfl
  have hDc := hD.sub (ws' := (wd_495 r k)) [0, 1, 2, 3, 4, 5, 6, 7, 8, 9, 10, 11, 12, 13] (by decide) rfl
  have hKc := hK.sub (tys' := [((k 0), .int), ((k 1), .int), ((k 2), .int)]) [0, 1, 2] rfl
  have hFc := va_free (wc := (wd_495 r k)) hD hS hA [0, 1, 2, 3, 4, 5, 6, 7, 8, 9, 10, 11, 12, 13] rfl
  refine va_callv (va_runV (As := [.int 0]) (rest := []) ⟨hx, hb, hml, hown, hts⟩ (c13_X8_clear l dC dI r k H.size) (cwV 1 hts (gV q_270 q_271 q_272 q_101 q_265) rfl rfl rfl mdv_yX8_clear ⟨Nat.le_of_ble_eq_true rfl, Nat.le_of_ble_eq_true rfl⟩) ⟨fun a U g mk q => by obtain ⟨q0, q1, qP, qK, qD⟩ := q; exact ⟨q0, q1, qP, va_K.moved (u := U) (U := U.calling g mk a) (Vm.Alike.refl U.vm) qK, qD⟩, va_recv hKc hPc (ci := 8) (q0 := 7) rfl rfl, fun U hU hW => ⟨rfl, by rw [hU], by rw [hU]; exact hPc, va_K.moved hW.alike hKc, hDc.weaken (fun _ _ _ _ => trivial)⟩⟩ rfl rfl hl.1 rfl (lv_room (Nat.le_of_ble_eq_true rfl)) dX1_readHeap_25 ⟨Nat.le_of_ble_eq_true rfl, Nat.le_of_ble_eq_true rfl⟩) hS (fun q _ h => hFc q h) hFc (fun u t H1 locs ht hvm hw hB hz1 hk1 hS => ?_)
  obtain ⟨f646, hP1, hK1, hD1⟩ := hB
  rw [ht] at hP1
  have hK1 := va_K.moved hvm.symm hK1
  obtain ⟨hP, hD⟩ := va_join (wr := []) (w1 := (wd_612 r k f646)) hP hD [0, 1, 2, 3, 4, 5, 6, 7, 8, 9, 10, 11, 12, 13] [] rfl rfl (by decide) (by decide) hk1 hFc hP1 hD1
  have hK := (hK.sub (tys' := []) [] rfl).app hK1
  have hK : va_K (dC, dI) vwCl [((k 0), .int), ((k 1), .int), ((k 2), .int)] s := hK
  generalize H1 = H at hP hS ⊢
  have hP : va_P (dC, dI) vwCl (wd_612 r k f646) H := hP
  have hD : va_D A (wd_612 r k f646) := hD
  refine lv_aload_n hx hb dX1_readHeap_28 rfl (lv_at hl 0 rfl) ?_
  refine lv_iconst (v := 0) hx hb dX1_readHeap_29 (by decide) ?_
  refine va_put (D := (dC, dI)) (ci := 1) (v := .int 0) (ty := tyX1 6) (C := RX1) (T := TX1) (N := 8) hx hb hts i_X1 tyX1 tyX1_ok nmX1 hown hK hP hD hS 8 rfl rfl 6 (by decide) (hts _ q_60) (fun _ h9 => h9) rfl (tyX1_ok 6 (by decide)) rfl rfl (Nat.le_of_ble_eq_true rfl) dX1_readHeap_30 (fun H locs hP hD hS => ?_)
  have hP : va_P (dC, dI) vwCl (wd_612 r k f646) H := hP
  have hD : va_D A (wd_612 r k f646) := hD
  refine lv_aload_n hx hb dX1_readHeap_33 rfl (lv_at hl 0 rfl) ?_
  refine va_get (D := (dC, dI)) (ci := 1) (v := .ref (r 1)) (C := RX1) (T := TX1) (N := 8) hx hb hts i_X1 hown hK hP 8 rfl rfl 0 (by decide) (hts _ q_62) (fun _ h9 => h9) rfl dX1_readHeap_34 ?_
  have hPc := hP.sub (ws' := (wd_612 r k f646)) [0, 1, 2, 3, 4, 5, 6, 7, 8, 9, 10, 11, 12, 13] rfl
  have hDc := hD.sub (ws' := (wd_612 r k f646)) [0, 1, 2, 3, 4, 5, 6, 7, 8, 9, 10, 11, 12, 13] (by decide) rfl
  have hKc := hK.sub (tys' := [((k 0), .int), ((k 1), .int), ((k 2), .int)]) [0, 1, 2] rfl
  have hFc := va_free (wc := (wd_612 r k f646)) hD hS hA [0, 1, 2, 3, 4, 5, 6, 7, 8, 9, 10, 11, 12, 13] rfl
  refine va_calli (va_runV (As := []) (rest := []) ⟨hx, hb, hml, hown, hts⟩ (c14_X10_peek l dC dI r k f646 H.size) (cwV 0 hts (gV q_274 q_275 q_276 q_118 q_273) rfl rfl rfl mdv_yX10_peek ⟨Nat.le_of_ble_eq_true rfl, Nat.le_of_ble_eq_true rfl⟩) ⟨fun a U g mk q => by obtain ⟨q0, q1, qP, qK, qD⟩ := q; exact ⟨q0, q1, qP, va_K.moved (u := U) (U := U.calling g mk a) (Vm.Alike.refl U.vm) qK, qD⟩, va_recv hKc hPc (ci := 10) (q0 := 1) rfl rfl, fun U hU hW => ⟨rfl, by rw [hU], by rw [hU]; exact hPc, va_K.moved hW.alike hKc, hDc.weaken (fun _ _ _ _ => trivial)⟩⟩ rfl rfl hl.1 rfl (lv_room (Nat.le_of_ble_eq_true rfl)) dX1_readHeap_37 ⟨Nat.le_of_ble_eq_true rfl, Nat.le_of_ble_eq_true rfl⟩) hS (fun q _ h => hFc q h) hFc (fun r_647 u t H1 locs ht hvm hw hB hz1 hk1 hS => ?_)
  obtain ⟨hP1, hK1, hD1⟩ := hB
  rw [ht] at hP1
  have hK1 := va_K.moved hvm.symm hK1
  obtain ⟨hP, hD⟩ := va_join (wr := []) (w1 := (wd_612 r k f646)) hP hD [0, 1, 2, 3, 4, 5, 6, 7, 8, 9, 10, 11, 12, 13] [] rfl rfl (by decide) (by decide) hk1 hFc hP1 hD1
  generalize H1 = H at hP hS ⊢
  have hP : va_P (dC, dI) vwCl (wd_612 r k f646) H := hP
  have hD : va_D A (wd_612 r k f646) := hD
  obtain rfl : r_647 = (-1) := hw
  refine lv_iconst (v := (-1)) hx hb dX1_readHeap_40 (by decide) ?_
  refine lv_icmp_eq (tgt := 113) hx hb dX1_readHeap_41 (by decide) (fun c_0 => ?_) (fun c_0 => absurd c_0 (by decide))
  refine lv_aload_n hx hb dX1_readHeap_113 rfl (lv_at hl 0 rfl) ?_
  refine va_get (D := (dC, dI)) (ci := 1) (v := .int 0) (C := RX1) (T := TX1) (N := 8) hx hb hts i_X1 hown hK hP 8 rfl rfl 6 (by decide) (hts _ q_60) (fun _ h9 => h9) rfl dX1_readHeap_114 ?_
  refine lv_if_gt (tgt := 138) hx hb dX1_readHeap_117 (by decide) (fun c_0 => absurd c_0 (by decide)) (fun c_0 => ?_)
  refine lv_aload_n hx hb dX1_readHeap_120 rfl (lv_at hl 0 rfl) ?_
  refine va_get (D := (dC, dI)) (ci := 1) (v := .ref (r 1)) (C := RX1) (T := TX1) (N := 8) hx hb hts i_X1 hown hK hP 8 rfl rfl 0 (by decide) (hts _ q_62) (fun _ h9 => h9) rfl dX1_readHeap_121 ?_
  refine lv_iconst (v := 1) hx hb dX1_readHeap_124 (by decide) ?_
  refine lv_aload_n hx hb dX1_readHeap_125 rfl (lv_at hl 0 rfl) ?_
  refine va_get (D := (dC, dI)) (ci := 1) (v := .ref (r 1)) (C := RX1) (T := TX1) (N := 8) hx hb hts i_X1 hown hK hP 8 rfl rfl 0 (by decide) (hts _ q_62) (fun _ h9 => h9) rfl dX1_readHeap_126 ?_
  refine va_get (D := (dC, dI)) (ci := 10) (v := .int 0) (C := RX10) (T := TX10) (N := 10) hx hb hts i_X10 hown hK hP 1 rfl rfl 2 (by decide) (hts _ q_277) (fun _ h9 => h9) rfl dX1_readHeap_129 ?_
  have hPc := hP.sub (ws' := (wd_612 r k f646)) [0, 1, 2, 3, 4, 5, 6, 7, 8, 9, 10, 11, 12, 13] rfl
  have hDc := hD.sub (ws' := (wd_612 r k f646)) [0, 1, 2, 3, 4, 5, 6, 7, 8, 9, 10, 11, 12, 13] (by decide) rfl
  have hKc := hK.sub (tys' := [((k 0), .int), ((k 1), .int), ((k 2), .int)]) [0, 1, 2] rfl
  have hFc := va_free (wc := (wd_612 r k f646)) hD hS hA [0, 1, 2, 3, 4, 5, 6, 7, 8, 9, 10, 11, 12, 13] rfl
  refine va_calli (va_runV (As := [.int 1, .int 0]) (rest := []) ⟨hx, hb, hml, hown, hts⟩ (c15_X10_wrong l dC dI r k f646 H.size) (cwV 2 hts (gV q_279 q_280 q_281 q_118 q_278) rfl rfl rfl mdv_yX10_wrong ⟨Nat.le_of_ble_eq_true rfl, Nat.le_of_ble_eq_true rfl⟩) ⟨fun a U g mk q => by obtain ⟨q0, q1, qP, qK, qD⟩ := q; exact ⟨q0, q1, qP, va_K.moved (u := U) (U := U.calling g mk a) (Vm.Alike.refl U.vm) qK, qD⟩, va_recv hKc hPc (ci := 10) (q0 := 1) rfl rfl, fun U hU hW => ⟨rfl, by rw [hU], by rw [hU]; exact hPc, va_K.moved hW.alike hKc, hDc.weaken (fun _ _ _ _ => trivial)⟩⟩ rfl rfl hl.1 rfl (lv_room (Nat.le_of_ble_eq_true rfl)) dX1_readHeap_132 ⟨Nat.le_of_ble_eq_true rfl, Nat.le_of_ble_eq_true rfl⟩) hS (fun q _ h => hFc q h) hFc (fun r_648 u t H1 locs ht hvm hw hB hz1 hk1 hS => ?_)
  obtain ⟨hP1, hK1, hD1⟩ := hB
  rw [ht] at hP1
  have hK1 := va_K.moved hvm.symm hK1
  obtain ⟨hP, hD⟩ := va_join (wr := []) (w1 := (wd_613 r k f646)) hP hD [0, 1, 2, 3, 4, 5, 6, 7, 8, 9, 10, 11, 12, 13] [] rfl rfl (by decide) (by decide) hk1 hFc hP1 hD1
  generalize H1 = H at hP hS ⊢
  have hP : va_P (dC, dI) vwCl (wd_613 r k f646) H := hP
  have hD : va_D A (wd_613 r k f646) := hD
  obtain rfl : r_648 = 0 := hw
  refine lv_if_eq (tgt := 142) hx hb dX1_readHeap_135 (by decide) (fun c_0 => ?_) (fun c_0 => absurd c_0 (by decide))
  refine lv_iconst (v := 0) hx hb dX1_readHeap_142 (by decide) ?_
  refine W.widen (k := 0) (n := 0) (Nat.le_of_ble_eq_true rfl) (Nat.le_of_ble_eq_true rfl) ?_
  have hP9 := hP.sub (ws' := (wd_613 r k f646)) [0, 1, 2, 3, 4, 5, 6, 7, 8, 9, 10, 11, 12, 13] rfl
  have hD9 := hD.sub (ws' := (wd_613 r k f646)) [0, 1, 2, 3, 4, 5, 6, 7, 8, 9, 10, 11, 12, 13] (by decide) rfl
  have hK9 := hK.sub (tys' := [((k 0), .int), ((k 1), .int), ((k 2), .int)]) [0, 1, 2] rfl
  exact W.zret (v := 0) hx hb hr rfl (fun t ht hW => ⟨⟨0, (), rfl, rfl, f646, by rw [ht]; exact hP9, va_K.moved hW.alike hK9, hD9⟩, hS.F ht⟩) hS.2.2 dX1_readHeap_143
def wd_614 (r : Nat → Nat) (k : Nat → ClassId) (f650 : Nat → Int32) : va_W := [((r 0), .inr (11, [.ref (r 1), .ref (r 2), .ref (r 3), .ref (r 4), .ref (r 5), .ref (r 6), .ref (r 7), .ref (r 8), .ref (r 9), .ref (r 10), .ref (r 11), .ref (r 12), .ref (r 13), .ref (r 14), .ref (r 15), .int 0, .int 0, .ref (r 16), .int (-1), .ref (r 17)])), ((r 1), .inr (10, [.ref (r 18), .int 0, .int 0, .int 0, .int (-1), .int (-1), .long 0, .int 0, .int 1, .int 0])), ((r 18), .inl ((k 0), 1600, .inl (fun _ => 0))), ((r 14), .inl ((k 1), 7, .inl (fun _ => 0))), ((r 4), .inr (8, [.int 0, .int 0, .int 0, .ref (r 19), .int 0, .int 0, .ref (r 20), .int 0, .int 0, .int 0, .int 0, .int 0, .int 0, .ref (r 21)])), ((r 2), .inr (2, [.int 0, .ref (r 22), .ref (r 23), .ref (r 24)])), ((r 3), .inr (2, [.int 0, .ref (r 25), .ref (r 26), .ref (r 27)])), ((r 5), .inr (8, [.int 0, .int 0, .int 0, .ref (r 28), .int 0, .int 0, .ref (r 29), .int 0, .int 0, .int 0, .int 0, .int 0, .int 0, .ref (r 30)])), ((r 8), .inr (1, [.ref (r 1), .ref (r 3), .ref (r 5), .ref (r 31), .ref (r 32), .int 0, .int 0, .int 3047])), ((r 10), .inr (5, [.ref (r 4), .ref (r 2), .ref (r 7), .ref (r 9), .ref (r 33), .ref (r 34), .int 0, .int 0, .int 0, .int 0, .int (-1)])), ((r 11), .inr (0, [.ref (r 2), .ref (r 7), .long 1])), ((r 12), .inr (6, [.ref (r 7), .ref (r 35), .ref (r 36), .ref (r 37), .int 0, .ref (r 38), .int 0, .int (-1), .int (-1), .null, .null])), ((r 13), .inr (3, [.ref (r 2), .ref (r 39), .int 0])), ((r 28), .inl ((k 2), 168, .inl f650))]
def wd_615 (r : Nat → Nat) (k : Nat → ClassId) (f : Nat → Int32) (fz0 : Nat → Int32) : va_W := [((r 0), .inr (11, [.ref (r 1), .ref (r 2), .ref (r 3), .ref (r 4), .ref (r 5), .ref (r 6), .ref (r 7), .ref (r 8), .ref (r 9), .ref (r 10), .ref (r 11), .ref (r 12), .ref (r 13), .ref (r 14), .ref (r 15), .int 0, .int 0, .ref (r 16), .int (-1), .ref (r 17)])), ((r 1), .inr (10, [.ref (r 18), .int 0, .int 0, .int 0, .int (-1), .int (-1), .long 0, .int 0, .int 1, .int 0])), ((r 18), .inl ((k 0), 1600, .inl (fun _ => 0))), ((r 14), .inl ((k 1), 7, .inl f)), ((r 4), .inr (8, [.int 0, .int 0, .int 0, .ref (r 19), .int 0, .int 0, .ref (r 20), .int 0, .int 0, .int 0, .int 0, .int 0, .int 0, .ref (r 21)])), ((r 2), .inr (2, [.int 0, .ref (r 22), .ref (r 23), .ref (r 24)])), ((r 3), .inr (2, [.int 0, .ref (r 25), .ref (r 26), .ref (r 27)])), ((r 5), .inr (8, [.int 0, .int 0, .int 0, .ref (r 28), .int 0, .int 0, .ref (r 29), .int 0, .int 0, .int 0, .int 0, .int 0, .int 0, .ref (r 30)])), ((r 8), .inr (1, [.ref (r 1), .ref (r 3), .ref (r 5), .ref (r 31), .ref (r 32), .int 0, .int 0, .int 3047])), ((r 10), .inr (5, [.ref (r 4), .ref (r 2), .ref (r 7), .ref (r 9), .ref (r 33), .ref (r 34), .int 0, .int 0, .int 0, .int 0, .int (-1)])), ((r 11), .inr (0, [.ref (r 2), .ref (r 7), .long 1])), ((r 12), .inr (6, [.ref (r 7), .ref (r 35), .ref (r 36), .ref (r 37), .int 0, .ref (r 38), .int 0, .int (-1), .int (-1), .null, .null])), ((r 13), .inr (3, [.ref (r 2), .ref (r 39), .int 0])), ((r 28), .inl ((k 2), 168, .inl fz0))]
def wd_616 (r : Nat → Nat) (k : Nat → ClassId) (f653 : Nat → Int32) (fz0 : Nat → Int32) : va_W := [((r 0), .inr (11, [.ref (r 1), .ref (r 2), .ref (r 3), .ref (r 4), .ref (r 5), .ref (r 6), .ref (r 7), .ref (r 8), .ref (r 9), .ref (r 10), .ref (r 11), .ref (r 12), .ref (r 13), .ref (r 14), .ref (r 15), .int 0, .int 0, .ref (r 16), .int (-1), .ref (r 17)])), ((r 1), .inr (10, [.ref (r 18), .int 0, .int 0, .int 0, .int (-1), .int (-1), .long 0, .int 0, .int 1, .int 0])), ((r 18), .inl ((k 0), 1600, .inl (fun _ => 0))), ((r 14), .inl ((k 1), 7, .inl f653)), ((r 4), .inr (8, [.int 0, .int 0, .int 0, .ref (r 19), .int 0, .int 0, .ref (r 20), .int 0, .int 0, .int 0, .int 0, .int 0, .int 0, .ref (r 21)])), ((r 2), .inr (2, [.int 0, .ref (r 22), .ref (r 23), .ref (r 24)])), ((r 3), .inr (2, [.int 0, .ref (r 25), .ref (r 26), .ref (r 27)])), ((r 5), .inr (8, [.int 0, .int 0, .int 0, .ref (r 28), .int 0, .int 0, .ref (r 29), .int 0, .int 0, .int 0, .int 0, .int 0, .int 0, .ref (r 30)])), ((r 8), .inr (1, [.ref (r 1), .ref (r 3), .ref (r 5), .ref (r 31), .ref (r 32), .int 0, .int 0, .int 3047])), ((r 10), .inr (5, [.ref (r 4), .ref (r 2), .ref (r 7), .ref (r 9), .ref (r 33), .ref (r 34), .int 0, .int 0, .int 0, .int 0, .int (-1)])), ((r 11), .inr (0, [.ref (r 2), .ref (r 7), .long 1])), ((r 12), .inr (6, [.ref (r 7), .ref (r 35), .ref (r 36), .ref (r 37), .int 0, .ref (r 38), .int 0, .int (-1), .int (-1), .null, .null])), ((r 13), .inr (3, [.ref (r 2), .ref (r 39), .int 0])), ((r 28), .inl ((k 2), 168, .inl fz0))]
def wd_617 (r : Nat → Nat) (k : Nat → ClassId) (f656 : Nat → Int32) (fz0 : Nat → Int32) : va_W := [((r 0), .inr (11, [.ref (r 1), .ref (r 2), .ref (r 3), .ref (r 4), .ref (r 5), .ref (r 6), .ref (r 7), .ref (r 8), .ref (r 9), .ref (r 10), .ref (r 11), .ref (r 12), .ref (r 13), .ref (r 14), .ref (r 15), .int 0, .int 0, .ref (r 16), .int (-1), .ref (r 17)])), ((r 1), .inr (10, [.ref (r 18), .int 0, .int 0, .int 0, .int (-1), .int (-1), .long 0, .int 0, .int 1, .int 0])), ((r 18), .inl ((k 0), 1600, .inl (fun _ => 0))), ((r 14), .inl ((k 1), 7, .inl f656)), ((r 4), .inr (8, [.int 0, .int 0, .int 0, .ref (r 19), .int 0, .int 0, .ref (r 20), .int 0, .int 0, .int 0, .int 0, .int 0, .int 0, .ref (r 21)])), ((r 2), .inr (2, [.int 0, .ref (r 22), .ref (r 23), .ref (r 24)])), ((r 3), .inr (2, [.int 0, .ref (r 25), .ref (r 26), .ref (r 27)])), ((r 5), .inr (8, [.int 0, .int 0, .int 0, .ref (r 28), .int 0, .int 0, .ref (r 29), .int 0, .int 0, .int 0, .int 0, .int 0, .int 0, .ref (r 30)])), ((r 8), .inr (1, [.ref (r 1), .ref (r 3), .ref (r 5), .ref (r 31), .ref (r 32), .int 0, .int 0, .int 3047])), ((r 10), .inr (5, [.ref (r 4), .ref (r 2), .ref (r 7), .ref (r 9), .ref (r 33), .ref (r 34), .int 0, .int 0, .int 0, .int 0, .int (-1)])), ((r 11), .inr (0, [.ref (r 2), .ref (r 7), .long 1])), ((r 12), .inr (6, [.ref (r 7), .ref (r 35), .ref (r 36), .ref (r 37), .int 0, .ref (r 38), .int 0, .int (-1), .int (-1), .null, .null])), ((r 13), .inr (3, [.ref (r 2), .ref (r 39), .int 0])), ((r 28), .inl ((k 2), 168, .inl fz0))]
set_option maxHeartbeats 4000000 in
set_option maxRecDepth 100000 in
theorem c17_X11_refuse (l : Launch) (dC : Nat → ClassId) (dI : Nat → Nat → Nat) (r : Nat → Nat) (k : Nat → ClassId) (fz0 : Nat → Int32) (sz : Nat) : Met l yX11_refuse (Cond.code yX11_refuse cX11_refuse 2 (some .int) :: wA) ({ frames := 0, cells := 0, slots := 0, locals := 0 }) (va_Pc [.ref (r 0), .int 1] (fun U => U.heap.size = sz ∧ va_P (dC, dI) vwCl (wd_610 r k fz0) U.heap ∧ va_K (dC, dI) vwCl [((k 0), .int), ((k 1), .int), ((k 2), .int)] U ∧ va_D (fun _ => True) (wd_610 r k fz0))) (va_Qi (fun (r : Int32) (_ : Unit) => r = (-1)) (fun _ t => ∃ f656 : Nat → Int32, va_P (dC, dI) vwCl (wd_617 r k f656 fz0) t.heap ∧ va_K (dC, dI) vwCl [((k 0), .int), ((k 1), .int), ((k 2), .int)] t ∧ va_D (va_A (wd_610 r k fz0) sz) (wd_617 r k f656 fz0)) (va_A (wd_610 r k fz0) sz)) 0 0 (va_A (wd_610 r k fz0) sz) := by
  refine Met.ofW (cc := cX11_refuse) (maxL := 2) (ret := (some .int)) (by decide) rfl ?_
  intro p e s m args below meth c s₁ B hml hv
  obtain ⟨rfl, hsz, hP, hK, hD0⟩ := hv
  have hx := B.exec
  have hb := B.bytes
  have hr := B.returns
  have hts : ∀ w ∈ wA, w.before [.ref (r 0), .int 1].toArray s = true := fun w h => atoms_spec (ws := Cond.code yX11_refuse cX11_refuse 2 (some .int) :: wA) B.pre w (List.mem_cons_of_mem _ h)
  have hown : s.vm.findClass RX11 = some m.cls := findClass_of_methodNamed B.named
  have hlocks := B.notSynchronized
  subst hsz
  have hD := hD0.self (sz := s.heap.size)
  generalize hAe : va_A (wd_610 r k fz0) s.heap.size = A at hD ⊢
  have hA : ∀ q : Nat, s.heap.size ≤ q → A q := fun q h => by rw [← hAe]; exact Or.inr h
  have hS : va_S A s.heap s.heap [] := va_S.rf
  have hl := lv_entry ([.ref (r 0), .int 1]) (n := 2) (Nat.le_of_ble_eq_true rfl)
  rw [lg_entry_eq]
  generalize (lg_sl ([.ref (r 0), .int 1]) ++ List.replicate (2 - (lg_sl ([.ref (r 0), .int 1])).length) Slot.unset).toArray = ls at hl ⊢
  have hl : lv_has ls 2 [(0, .ref (r 0)), (1, .int 1)] := hl
  refine lv_aload_n hx hb dX11_refuse_0 rfl (lv_at hl 0 rfl) ?_
  refine va_get (D := (dC, dI)) (ci := 11) (v := .ref (r 14)) (C := RX11) (T := TX11) (N := 20) hx hb hts i_X11 hown hK hP 0 rfl rfl 13 (by decide) (hts _ q_178) (fun _ h9 => h9) rfl dX11_refuse_1 ?_
  refine lv_iload_n hx hb dX11_refuse_4 rfl (lv_at hl 1 rfl) ?_
  refine lv_dup2_11 hx hb dX11_refuse_5 rfl rfl ?_
  refine va_iald hx hb hK hP 3 1 rfl rfl (vpi (by decide)) dX11_refuse_6 ?_
  refine lv_topi (fun x_654 ex_654 => ?_)
  obtain rfl : x_654 = 0 := ex_654
  refine lv_iconst (v := 1) hx hb dX11_refuse_7 (by decide) ?_
  refine lv_iadd hx hb dX11_refuse_8 ?_
  refine lv_topi (fun x_655 ex_655 => ?_)
  obtain rfl : x_655 = 1 := ex_655.trans (by decide)
  refine va_iast hx hb hK hP hD hS 3 1 rfl rfl (vpi (by decide)) dX11_refuse_9 (fun H locs hP hD hS => ?_)
  obtain ⟨f656, hP, hD⟩ : ∃ f : Nat → Int32, va_P (dC, dI) vwCl (wd_615 r k f fz0) H ∧ va_D A (wd_615 r k f fz0) := ⟨_, hP, hD⟩
  have hP : va_P (dC, dI) vwCl (wd_617 r k f656 fz0) H := hP
  have hD : va_D A (wd_617 r k f656 fz0) := hD
  refine lv_iconst (v := (-1)) hx hb dX11_refuse_10 (by decide) ?_
  refine W.widen (k := 0) (n := 0) (Nat.le_of_ble_eq_true rfl) (Nat.le_of_ble_eq_true rfl) ?_
  have hP9 := hP.sub (ws' := (wd_617 r k f656 fz0)) [0, 1, 2, 3, 4, 5, 6, 7, 8, 9, 10, 11, 12, 13] rfl
  have hD9 := hD.sub (ws' := (wd_617 r k f656 fz0)) [0, 1, 2, 3, 4, 5, 6, 7, 8, 9, 10, 11, 12, 13] (by decide) rfl
  have hK9 := hK.sub (tys' := [((k 0), .int), ((k 1), .int), ((k 2), .int)]) [0, 1, 2] rfl
  exact W.iret (v := (-1)) hx hb hr (fun t ht hW => ⟨⟨(-1), (), rfl, rfl, f656, by rw [ht]; exact hP9, va_K.moved hW.alike hK9, hD9⟩, hS.F ht⟩) hS.2.2 dX11_refuse_11
def wd_618 (r : Nat → Nat) (k : Nat → ClassId) (f658 : Nat → Int32) (f650 : Nat → Int32) : va_W := [((r 0), .inr (11, [.ref (r 1), .ref (r 2), .ref (r 3), .ref (r 4), .ref (r 5), .ref (r 6), .ref (r 7), .ref (r 8), .ref (r 9), .ref (r 10), .ref (r 11), .ref (r 12), .ref (r 13), .ref (r 14), .ref (r 15), .int 0, .int 0, .ref (r 16), .int (-1), .ref (r 17)])), ((r 1), .inr (10, [.ref (r 18), .int 0, .int 0, .int 0, .int (-1), .int (-1), .long 0, .int 0, .int 1, .int 0])), ((r 18), .inl ((k 0), 1600, .inl (fun _ => 0))), ((r 14), .inl ((k 1), 7, .inl f658)), ((r 4), .inr (8, [.int 0, .int 0, .int 0, .ref (r 19), .int 0, .int 0, .ref (r 20), .int 0, .int 0, .int 0, .int 0, .int 0, .int 0, .ref (r 21)])), ((r 2), .inr (2, [.int 0, .ref (r 22), .ref (r 23), .ref (r 24)])), ((r 3), .inr (2, [.int 0, .ref (r 25), .ref (r 26), .ref (r 27)])), ((r 5), .inr (8, [.int 0, .int 0, .int 0, .ref (r 28), .int 0, .int 0, .ref (r 29), .int 0, .int 0, .int 0, .int 0, .int 0, .int 0, .ref (r 30)])), ((r 8), .inr (1, [.ref (r 1), .ref (r 3), .ref (r 5), .ref (r 31), .ref (r 32), .int 0, .int 0, .int 3047])), ((r 10), .inr (5, [.ref (r 4), .ref (r 2), .ref (r 7), .ref (r 9), .ref (r 33), .ref (r 34), .int 0, .int 0, .int 0, .int 0, .int (-1)])), ((r 11), .inr (0, [.ref (r 2), .ref (r 7), .long 1])), ((r 12), .inr (6, [.ref (r 7), .ref (r 35), .ref (r 36), .ref (r 37), .int 0, .ref (r 38), .int 0, .int (-1), .int (-1), .null, .null])), ((r 13), .inr (3, [.ref (r 2), .ref (r 39), .int 0])), ((r 28), .inl ((k 2), 168, .inl f650))]
def wd_619 (r : Nat → Nat) (k : Nat → ClassId) (f660 : Nat → Int32) : va_W := [((r 0), .inr (11, [.ref (r 1), .ref (r 2), .ref (r 3), .ref (r 4), .ref (r 5), .ref (r 6), .ref (r 7), .ref (r 8), .ref (r 9), .ref (r 10), .ref (r 11), .ref (r 12), .ref (r 13), .ref (r 14), .ref (r 15), .int 0, .int 0, .ref (r 16), .int (-1), .ref (r 17)])), ((r 1), .inr (10, [.ref (r 18), .int 0, .int 0, .int 0, .int (-1), .int (-1), .long 0, .int 0, .int 1, .int 0])), ((r 18), .inl ((k 0), 1600, .inl (fun _ => 0))), ((r 14), .inl ((k 1), 7, .inl (fun _ => 0))), ((r 4), .inr (8, [.int 0, .int 0, .int 0, .ref (r 19), .int 0, .int 0, .ref (r 20), .int 0, .int 0, .int 0, .int 0, .int 0, .int 0, .ref (r 21)])), ((r 2), .inr (2, [.int 0, .ref (r 22), .ref (r 23), .ref (r 24)])), ((r 3), .inr (2, [.int 0, .ref (r 25), .ref (r 26), .ref (r 27)])), ((r 5), .inr (8, [.int 0, .int 0, .int 0, .ref (r 28), .int 0, .int 0, .ref (r 29), .int 0, .int 0, .int 0, .int 0, .int 0, .int 0, .ref (r 30)])), ((r 8), .inr (1, [.ref (r 1), .ref (r 3), .ref (r 5), .ref (r 31), .ref (r 32), .int 0, .int 0, .int 3047])), ((r 10), .inr (5, [.ref (r 4), .ref (r 2), .ref (r 7), .ref (r 9), .ref (r 33), .ref (r 34), .int 0, .int 0, .int 0, .int 0, .int (-1)])), ((r 11), .inr (0, [.ref (r 2), .ref (r 7), .long 1])), ((r 12), .inr (6, [.ref (r 7), .ref (r 35), .ref (r 36), .ref (r 37), .int 0, .ref (r 38), .int 0, .int (-1), .int (-1), .null, .null])), ((r 13), .inr (3, [.ref (r 2), .ref (r 39), .int 0])), ((r 28), .inl ((k 2), 168, .inl f660))]
def wd_620 (r : Nat → Nat) (k : Nat → ClassId) (f662 : Nat → Int32) (f660 : Nat → Int32) : va_W := [((r 0), .inr (11, [.ref (r 1), .ref (r 2), .ref (r 3), .ref (r 4), .ref (r 5), .ref (r 6), .ref (r 7), .ref (r 8), .ref (r 9), .ref (r 10), .ref (r 11), .ref (r 12), .ref (r 13), .ref (r 14), .ref (r 15), .int 0, .int 0, .ref (r 16), .int (-1), .ref (r 17)])), ((r 1), .inr (10, [.ref (r 18), .int 0, .int 0, .int 0, .int (-1), .int (-1), .long 0, .int 0, .int 1, .int 0])), ((r 18), .inl ((k 0), 1600, .inl (fun _ => 0))), ((r 14), .inl ((k 1), 7, .inl f662)), ((r 4), .inr (8, [.int 0, .int 0, .int 0, .ref (r 19), .int 0, .int 0, .ref (r 20), .int 0, .int 0, .int 0, .int 0, .int 0, .int 0, .ref (r 21)])), ((r 2), .inr (2, [.int 0, .ref (r 22), .ref (r 23), .ref (r 24)])), ((r 3), .inr (2, [.int 0, .ref (r 25), .ref (r 26), .ref (r 27)])), ((r 5), .inr (8, [.int 0, .int 0, .int 0, .ref (r 28), .int 0, .int 0, .ref (r 29), .int 0, .int 0, .int 0, .int 0, .int 0, .int 0, .ref (r 30)])), ((r 8), .inr (1, [.ref (r 1), .ref (r 3), .ref (r 5), .ref (r 31), .ref (r 32), .int 0, .int 0, .int 3047])), ((r 10), .inr (5, [.ref (r 4), .ref (r 2), .ref (r 7), .ref (r 9), .ref (r 33), .ref (r 34), .int 0, .int 0, .int 0, .int 0, .int (-1)])), ((r 11), .inr (0, [.ref (r 2), .ref (r 7), .long 1])), ((r 12), .inr (6, [.ref (r 7), .ref (r 35), .ref (r 36), .ref (r 37), .int 0, .ref (r 38), .int 0, .int (-1), .int (-1), .null, .null])), ((r 13), .inr (3, [.ref (r 2), .ref (r 39), .int 0])), ((r 28), .inl ((k 2), 168, .inl f660))]
set_option maxHeartbeats 4000000 in
set_option maxRecDepth 100000 in
theorem mX11_heap (l : Launch) (dC : Nat → ClassId) (dI : Nat → Nat → Nat) (r : Nat → Nat) (k : Nat → ClassId) (sz : Nat) : Met l yX11_heap (Cond.code yX11_heap cX11_heap 2 (some .int) :: wA) ({ frames := 4, cells := 0, slots := 0, locals := 87 }) (va_Pc [.ref (r 0)] (fun U => U.heap.size = sz ∧ va_P (dC, dI) vwCl (wd_495 r k) U.heap ∧ va_K (dC, dI) vwCl [((k 0), .int), ((k 1), .int), ((k 2), .int)] U ∧ va_D (fun _ => True) (wd_495 r k))) (va_Qi (fun (r : Int32) (_ : Unit) => r = (-1)) (fun _ t => True) (va_A (wd_495 r k) sz)) 0 0 (va_A (wd_495 r k) sz) := by
  refine Met.ofW (cc := cX11_heap) (maxL := 2) (ret := (some .int)) (by decide) rfl ?_
  intro p e s m args below meth c s₁ B hml hv
  obtain ⟨rfl, hsz, hP, hK, hD0⟩ := hv
  have hx := B.exec
  have hb := B.bytes
  have hr := B.returns
  have hts : ∀ w ∈ wA, w.before [.ref (r 0)].toArray s = true := fun w h => atoms_spec (ws := Cond.code yX11_heap cX11_heap 2 (some .int) :: wA) B.pre w (List.mem_cons_of_mem _ h)
  have hown : s.vm.findClass RX11 = some m.cls := findClass_of_methodNamed B.named
  have hlocks := B.notSynchronized
  subst hsz
  have hD := hD0.self (sz := s.heap.size)
  generalize hAe : va_A (wd_495 r k) s.heap.size = A at hD ⊢
  have hA : ∀ q : Nat, s.heap.size ≤ q → A q := fun q h => by rw [← hAe]; exact Or.inr h
  have hS : va_S A s.heap s.heap [] := va_S.rf
  have hl := lv_entry ([.ref (r 0)]) (n := 2) (Nat.le_of_ble_eq_true rfl)
  rw [lg_entry_eq]
  generalize (lg_sl ([.ref (r 0)]) ++ List.replicate (2 - (lg_sl ([.ref (r 0)])).length) Slot.unset).toArray = ls at hl ⊢
  have hl : lv_has ls 2 [(0, .ref (r 0))] := hl
  refine lv_aload_n hx hb dX11_heap_0 rfl (lv_at hl 0 rfl) ?_
  refine va_get (D := (dC, dI)) (ci := 11) (v := .ref (r 8)) (C := RX11) (T := TX11) (N := 20) hx hb hts i_X11 hown hK hP 0 rfl rfl 7 (by decide) (hts _ q_147) (fun _ h9 => h9) rfl dX11_heap_1 ?_
  have hPc := hP.sub (ws' := (wd_495 r k)) [0, 1, 2, 3, 4, 5, 6, 7, 8, 9, 10, 11, 12, 13] rfl
  have hDc := hD.sub (ws' := (wd_495 r k)) [0, 1, 2, 3, 4, 5, 6, 7, 8, 9, 10, 11, 12, 13] (by decide) rfl
  have hKc := hK.sub (tys' := [((k 0), .int), ((k 1), .int), ((k 2), .int)]) [0, 1, 2] rfl
  have hFc := va_free (wc := (wd_495 r k)) hD hS hA [0, 1, 2, 3, 4, 5, 6, 7, 8, 9, 10, 11, 12, 13] rfl
  refine va_calli (va_runV (As := []) (rest := []) ⟨hx, hb, hml, hown, hts⟩ (c16_X1_readHeap l dC dI r k s.heap.size) (cwV 0 hts (gV q_282 q_283 q_284 q_144 q_259) rfl rfl rfl mdv_yX1_readHeap ⟨Nat.le_of_ble_eq_true rfl, Nat.le_of_ble_eq_true rfl⟩) ⟨fun a U g mk q => by obtain ⟨q0, q1, qP, qK, qD⟩ := q; exact ⟨q0, q1, qP, va_K.moved (u := U) (U := U.calling g mk a) (Vm.Alike.refl U.vm) qK, qD⟩, va_recv hKc hPc (ci := 1) (q0 := 9) rfl rfl, fun U hU hW => ⟨rfl, by rw [hU], by rw [hU]; exact hPc, va_K.moved hW.alike hKc, hDc.weaken (fun _ _ _ _ => trivial)⟩⟩ rfl rfl hl.1 rfl (lv_room (Nat.le_of_ble_eq_true rfl)) dX11_heap_4 ⟨Nat.le_of_ble_eq_true rfl, Nat.le_of_ble_eq_true rfl⟩) hS (fun q _ h => hFc q h) hFc (fun r_659 u t H1 locs ht hvm hw hB hz1 hk1 hS => ?_)
  obtain ⟨f660, hP1, hK1, hD1⟩ := hB
  rw [ht] at hP1
  have hK1 := va_K.moved hvm.symm hK1
  obtain ⟨hP, hD⟩ := va_join (wr := []) (w1 := (wd_619 r k f660)) hP hD [0, 1, 2, 3, 4, 5, 6, 7, 8, 9, 10, 11, 12, 13] [] rfl rfl (by decide) (by decide) hk1 hFc hP1 hD1
  have hK := (hK.sub (tys' := []) [] rfl).app hK1
  have hK : va_K (dC, dI) vwCl [((k 0), .int), ((k 1), .int), ((k 2), .int)] s := hK
  generalize H1 = H at hP hS ⊢
  have hP : va_P (dC, dI) vwCl (wd_619 r k f660) H := hP
  have hD : va_D A (wd_619 r k f660) := hD
  obtain rfl : r_659 = 0 := hw
  refine lv_istore_n (lv' := [(1, .int 0), (0, .ref (r 0))]) hx hb dX11_heap_7 rfl hl (by decide) rfl (fun ls hl => ?_)
  refine lv_aload_n hx hb dX11_heap_8 rfl (lv_at hl 1 rfl) ?_
  refine va_get (D := (dC, dI)) (ci := 11) (v := .ref (r 1)) (C := RX11) (T := TX11) (N := 20) hx hb hts i_X11 hown hK hP 0 rfl rfl 0 (by decide) (hts _ q_120) (fun _ h9 => h9) rfl dX11_heap_9 ?_
  refine lv_iconst (v := 0) hx hb dX11_heap_12 (by decide) ?_
  refine va_put (D := (dC, dI)) (ci := 10) (v := .int 0) (ty := tyX10 1) (C := RX10) (T := TX10) (N := 10) hx hb hts i_X10 tyX10 tyX10_ok nmX10 hown hK hP hD hS 1 rfl rfl 1 (by decide) (hts _ q_247) (fun _ h9 => h9) rfl (tyX10_ok 1 (by decide)) rfl rfl (Nat.le_of_ble_eq_true rfl) dX11_heap_13 (fun H locs hP hD hS => ?_)
  have hP : va_P (dC, dI) vwCl (wd_619 r k f660) H := hP
  have hD : va_D A (wd_619 r k f660) := hD
  refine lv_iload_n hx hb dX11_heap_16 rfl (lv_at hl 0 rfl) ?_
  refine lv_if_ne (tgt := 26) hx hb dX11_heap_17 (by decide) (fun c_0 => absurd c_0 (by decide)) (fun c_0 => ?_)
  refine lv_aload_n hx hb dX11_heap_20 rfl (lv_at hl 1 rfl) ?_
  refine lv_iconst (v := 1) hx hb dX11_heap_21 (by decide) ?_
  have hPc := hP.sub (ws' := (wd_619 r k f660)) [0, 1, 2, 3, 4, 5, 6, 7, 8, 9, 10, 11, 12, 13] rfl
  have hDc := hD.sub (ws' := (wd_619 r k f660)) [0, 1, 2, 3, 4, 5, 6, 7, 8, 9, 10, 11, 12, 13] (by decide) rfl
  have hKc := hK.sub (tys' := [((k 0), .int), ((k 1), .int), ((k 2), .int)]) [0, 1, 2] rfl
  have hFc := va_free (wc := (wd_619 r k f660)) hD hS hA [0, 1, 2, 3, 4, 5, 6, 7, 8, 9, 10, 11, 12, 13] rfl
  refine va_calli (va_runV (As := [.int 1]) (rest := []) ⟨hx, hb, hml, hown, hts⟩ (c17_X11_refuse l dC dI r k f660 H.size) (cwV 1 hts (gV q_286 q_287 q_288 q_257 q_285) rfl rfl rfl mdv_yX11_refuse ⟨Nat.le_of_ble_eq_true rfl, Nat.le_of_ble_eq_true rfl⟩) ⟨fun a U g mk q => by obtain ⟨q0, q1, qP, qK, qD⟩ := q; exact ⟨q0, q1, qP, va_K.moved (u := U) (U := U.calling g mk a) (Vm.Alike.refl U.vm) qK, qD⟩, va_recv hKc hPc (ci := 11) (q0 := 0) rfl rfl, fun U hU hW => ⟨rfl, by rw [hU], by rw [hU]; exact hPc, va_K.moved hW.alike hKc, hDc.weaken (fun _ _ _ _ => trivial)⟩⟩ rfl rfl hl.1 rfl (lv_room (Nat.le_of_ble_eq_true rfl)) dX11_heap_22 ⟨Nat.le_of_ble_eq_true rfl, Nat.le_of_ble_eq_true rfl⟩) hS (fun q _ h => hFc q h) hFc (fun r_661 u t H1 locs ht hvm hw hB hz1 hk1 hS => ?_)
  obtain ⟨f662, hP1, hK1, hD1⟩ := hB
  rw [ht] at hP1
  have hK1 := va_K.moved hvm.symm hK1
  obtain ⟨hP, hD⟩ := va_join (wr := []) (w1 := (wd_620 r k f662 f660)) hP hD [0, 1, 2, 3, 4, 5, 6, 7, 8, 9, 10, 11, 12, 13] [] rfl rfl (by decide) (by decide) hk1 hFc hP1 hD1
  have hK := (hK.sub (tys' := []) [] rfl).app hK1
  have hK : va_K (dC, dI) vwCl [((k 0), .int), ((k 1), .int), ((k 2), .int)] s := hK
  generalize H1 = H at hP hS ⊢
  have hP : va_P (dC, dI) vwCl (wd_620 r k f662 f660) H := hP
  have hD : va_D A (wd_620 r k f662 f660) := hD
  obtain rfl : r_661 = (-1) := hw
  refine W.widen (k := 0) (n := 0) (Nat.le_of_ble_eq_true rfl) (Nat.le_of_ble_eq_true rfl) ?_
  exact W.iret (v := (-1)) hx hb hr (fun t ht hW => ⟨⟨(-1), (), rfl, rfl, trivial⟩, hS.F ht⟩) hS.2.2 dX11_heap_25
set_option maxHeartbeats 4000000 in
set_option maxRecDepth 100000 in
theorem mX11_fault (l : Launch) (dC : Nat → ClassId) (dI : Nat → Nat → Nat) (r : Nat → Nat) (k : Nat → ClassId) (p1 : Int32) (sz : Nat) : Met l yX11_fault (Cond.code yX11_fault cX11_fault 2 (some .int) :: wA) ({ frames := 0, cells := 0, slots := 0, locals := 0 }) (va_Pc [.ref (r 0), .int p1] (fun U => U.heap.size = sz ∧ va_P (dC, dI) vwCl (wd_495 r k) U.heap ∧ va_K (dC, dI) vwCl [((k 0), .int), ((k 1), .int), ((k 2), .int)] U ∧ va_D (fun _ => True) (wd_495 r k))) (va_Qi (fun (r : Int32) (_ : Unit) => r = sp_1 p1) (fun _ t => True) (va_A (wd_495 r k) sz)) 0 0 (va_A (wd_495 r k) sz) := by
  refine Met.ofW (cc := cX11_fault) (maxL := 2) (ret := (some .int)) (by decide) rfl ?_
  intro p e s m args below meth c s₁ B hml hv
  obtain ⟨rfl, hsz, hP, hK, hD0⟩ := hv
  have hx := B.exec
  have hb := B.bytes
  have hr := B.returns
  have hts : ∀ w ∈ wA, w.before [.ref (r 0), .int p1].toArray s = true := fun w h => atoms_spec (ws := Cond.code yX11_fault cX11_fault 2 (some .int) :: wA) B.pre w (List.mem_cons_of_mem _ h)
  have hown : s.vm.findClass RX11 = some m.cls := findClass_of_methodNamed B.named
  have hlocks := B.notSynchronized
  subst hsz
  have hD := hD0.self (sz := s.heap.size)
  generalize hAe : va_A (wd_495 r k) s.heap.size = A at hD ⊢
  have hA : ∀ q : Nat, s.heap.size ≤ q → A q := fun q h => by rw [← hAe]; exact Or.inr h
  have hS : va_S A s.heap s.heap [] := va_S.rf
  have hl := lv_entry ([.ref (r 0), .int p1]) (n := 2) (Nat.le_of_ble_eq_true rfl)
  rw [lg_entry_eq]
  generalize (lg_sl ([.ref (r 0), .int p1]) ++ List.replicate (2 - (lg_sl ([.ref (r 0), .int p1])).length) Slot.unset).toArray = ls at hl ⊢
  have hl : lv_has ls 2 [(0, .ref (r 0)), (1, .int p1)] := hl
  rcases sw_1 p1 with rfl | ho
  · refine lv_iload_n hx hb dX11_fault_0 rfl (lv_at hl 1 rfl) ?_
    refine lv_if_ne (tgt := 14) hx hb dX11_fault_1 (by decide) (fun c_0 => absurd c_0 (by decide)) (fun c_0 => ?_)
    refine lv_aload_n hx hb dX11_fault_4 rfl (lv_at hl 0 rfl) ?_
    refine va_get (D := (dC, dI)) (ci := 11) (v := .ref (r 1)) (C := RX11) (T := TX11) (N := 20) hx hb hts i_X11 hown hK hP 0 rfl rfl 0 (by decide) (hts _ q_120) (fun _ h9 => h9) rfl dX11_fault_5 ?_
    refine va_get (D := (dC, dI)) (ci := 10) (v := .int 0) (C := RX10) (T := TX10) (N := 10) hx hb hts i_X10 hown hK hP 1 rfl rfl 8 (by decide) (hts _ q_290) (fun _ h9 => h9) rfl dX11_fault_8 ?_
    refine lv_goto (tgt := 30) hx hb dX11_fault_11 (by decide) ?_
    refine W.widen (k := 0) (n := 0) (Nat.le_of_ble_eq_true rfl) (Nat.le_of_ble_eq_true rfl) ?_
    exact W.iret (v := 0) hx hb hr (fun t ht hW => ⟨⟨0, (), rfl, by decide, trivial⟩, hS.F ht⟩) hS.2.2 dX11_fault_30
  · refine lv_iload_n hx hb dX11_fault_0 rfl (lv_at hl 1 rfl) ?_
    refine lv_if_ne (tgt := 14) hx hb dX11_fault_1 (by decide) (fun c_665 => ?_) (fun c_665 => ((by have k_c_665 : p1.toInt = (0 : Int) := congrArg Int32.toInt c_665; omega : False).elim))
    refine lv_iload_n hx hb dX11_fault_14 rfl (lv_at hl 1 rfl) ?_
    refine lv_iconst (v := 1) hx hb dX11_fault_15 (by decide) ?_
    refine lv_icmp_ne (tgt := 29) hx hb dX11_fault_16 (by decide) (fun c_666 => ?_) (fun c_666 => ?_)
    · refine lv_iconst (v := (-1)) hx hb dX11_fault_29 (by decide) ?_
      refine W.widen (k := 0) (n := 0) (Nat.le_of_ble_eq_true rfl) (Nat.le_of_ble_eq_true rfl) ?_
      exact W.iret (v := (-1)) hx hb hr (fun t ht hW => ⟨⟨(-1), (), rfl, (if_pos ho).symm, trivial⟩, hS.F ht⟩) hS.2.2 dX11_fault_30
    · refine lv_aload_n hx hb dX11_fault_19 rfl (lv_at hl 0 rfl) ?_
      refine va_get (D := (dC, dI)) (ci := 11) (v := .ref (r 1)) (C := RX11) (T := TX11) (N := 20) hx hb hts i_X11 hown hK hP 0 rfl rfl 0 (by decide) (hts _ q_120) (fun _ h9 => h9) rfl dX11_fault_20 ?_
      refine va_get (D := (dC, dI)) (ci := 10) (v := .int (-1)) (C := RX10) (T := TX10) (N := 10) hx hb hts i_X10 hown hK hP 1 rfl rfl 9 (by decide) (hts _ q_291) (fun _ h9 => h9) rfl dX11_fault_23 ?_
      refine lv_goto (tgt := 30) hx hb dX11_fault_26 (by decide) ?_
      refine W.widen (k := 0) (n := 0) (Nat.le_of_ble_eq_true rfl) (Nat.le_of_ble_eq_true rfl) ?_
      exact W.iret (v := (-1)) hx hb hr (fun t ht hW => ⟨⟨(-1), (), rfl, (if_pos ho).symm, trivial⟩, hS.F ht⟩) hS.2.2 dX11_fault_30
set_option maxHeartbeats 4000000 in
set_option maxRecDepth 100000 in
theorem c20_X2_countCells (l : Launch) (dC : Nat → ClassId) (dI : Nat → Nat → Nat) (r : Nat → Nat) (k : Nat → ClassId) (sz : Nat) : Met l yX2_countCells (Cond.code yX2_countCells cX2_countCells 4 (some .int) :: wA) ({ frames := 0, cells := 0, slots := 0, locals := 0 }) (va_Pc [.ref (r 2), .ref (r 4)] (fun U => U.heap.size = sz ∧ va_P (dC, dI) vwCl (wd_495 r k) U.heap ∧ va_K (dC, dI) vwCl [((k 0), .int), ((k 1), .int), ((k 2), .int)] U ∧ va_D (fun _ => True) (wd_495 r k))) (va_Qi (fun (r : Int32) (_ : Unit) => r = 0) (fun _ t => va_P (dC, dI) vwCl (wd_495 r k) t.heap ∧ va_K (dC, dI) vwCl [((k 0), .int), ((k 1), .int), ((k 2), .int)] t ∧ va_D (va_A (wd_495 r k) sz) (wd_495 r k)) (va_A (wd_495 r k) sz)) 0 0 (va_A (wd_495 r k) sz) := by
  refine Met.ofW (cc := cX2_countCells) (maxL := 4) (ret := (some .int)) (by decide) rfl ?_
  intro p e s m args below meth c s₁ B hml hv
  obtain ⟨rfl, hsz, hP, hK, hD0⟩ := hv
  have hx := B.exec
  have hb := B.bytes
  have hr := B.returns
  have hts : ∀ w ∈ wA, w.before [.ref (r 2), .ref (r 4)].toArray s = true := fun w h => atoms_spec (ws := Cond.code yX2_countCells cX2_countCells 4 (some .int) :: wA) B.pre w (List.mem_cons_of_mem _ h)
  have hown : s.vm.findClass RX2 = some m.cls := findClass_of_methodNamed B.named
  have hlocks := B.notSynchronized
  subst hsz
  have hD := hD0.self (sz := s.heap.size)
  generalize hAe : va_A (wd_495 r k) s.heap.size = A at hD ⊢
  have hA : ∀ q : Nat, s.heap.size ≤ q → A q := fun q h => by rw [← hAe]; exact Or.inr h
  have hS : va_S A s.heap s.heap [] := va_S.rf
  have hl := lv_entry ([.ref (r 2), .ref (r 4)]) (n := 4) (Nat.le_of_ble_eq_true rfl)
  rw [lg_entry_eq]
  generalize (lg_sl ([.ref (r 2), .ref (r 4)]) ++ List.replicate (4 - (lg_sl ([.ref (r 2), .ref (r 4)])).length) Slot.unset).toArray = ls at hl ⊢
  have hl : lv_has ls 4 [(0, .ref (r 2)), (1, .ref (r 4))] := hl
  refine lv_iconst (v := 0) hx hb dX2_countCells_0 (by decide) ?_
  refine lv_istore_n (lv' := [(2, .int 0), (0, .ref (r 2)), (1, .ref (r 4))]) hx hb dX2_countCells_1 rfl hl (by decide) rfl (fun ls hl => ?_)
  refine lv_aload_n hx hb dX2_countCells_2 rfl (lv_at hl 2 rfl) ?_
  refine va_get (D := (dC, dI)) (ci := 8) (v := .int 0) (C := RX8) (T := TX8) (N := 14) hx hb hts i_X8 hown hK hP 4 rfl rfl 1 (by decide) (hts _ q_297) (fun _ h9 => h9) rfl dX2_countCells_3 ?_
  refine lv_istore_n (lv' := [(3, .int 0), (2, .int 0), (0, .ref (r 2)), (1, .ref (r 4))]) hx hb dX2_countCells_6 rfl hl (by decide) rfl (fun ls hl => ?_)
  refine lv_iload_n hx hb dX2_countCells_7 rfl (lv_at hl 0 rfl) ?_
  refine lv_aload_n hx hb dX2_countCells_8 rfl (lv_at hl 3 rfl) ?_
  refine va_get (D := (dC, dI)) (ci := 8) (v := .int 0) (C := RX8) (T := TX8) (N := 14) hx hb hts i_X8 hown hK hP 4 rfl rfl 0 (by decide) (hts _ q_298) (fun _ h9 => h9) rfl dX2_countCells_9 ?_
  refine lv_icmp_ge (tgt := 33) hx hb dX2_countCells_12 (by decide) (fun c_0 => ?_) (fun c_0 => absurd c_0 (by decide))
  refine lv_iload_n hx hb dX2_countCells_33 rfl (lv_at hl 1 rfl) ?_
  refine W.widen (k := 0) (n := 0) (Nat.le_of_ble_eq_true rfl) (Nat.le_of_ble_eq_true rfl) ?_
  have hP9 := hP.sub (ws' := (wd_495 r k)) [0, 1, 2, 3, 4, 5, 6, 7, 8, 9, 10, 11, 12, 13] rfl
  have hD9 := hD.sub (ws' := (wd_495 r k)) [0, 1, 2, 3, 4, 5, 6, 7, 8, 9, 10, 11, 12, 13] (by decide) rfl
  have hK9 := hK.sub (tys' := [((k 0), .int), ((k 1), .int), ((k 2), .int)]) [0, 1, 2] rfl
  exact W.iret (v := 0) hx hb hr (fun t ht hW => ⟨⟨0, (), rfl, rfl, by rw [ht]; exact hP9, va_K.moved hW.alike hK9, hD9⟩, hS.F ht⟩) hS.2.2 dX2_countCells_34
