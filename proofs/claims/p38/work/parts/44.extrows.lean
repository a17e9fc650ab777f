def zZ : Nat → Int := fun _ => 0
theorem iZ_0 : iZ 0 = 0 := by decide
theorem zZ_new {cA : ClassId} {n : Nat} : vp_cell cA (n, .inl (aZ zZ)) = arrV cA n (fun _ => defaultValue .int) := by
  have e : aZ zZ = fun _ => 0 := funext (fun _ => iZ_0)
  rw [e]
  rfl
theorem zZ_b {P : Int → Prop} {n : Nat} (h : P 0) : ∀ j : Nat, j < n → P (zZ j) := fun _ _ => h
theorem iZ_neg (a : Int) : -iZ a = iZ (-a) := by
  show -Int32.ofInt a = Int32.ofInt (-a)
  exact (Int32.ofInt_neg a).symm
theorem nar_bool {z : Int} (h : 0 ≤ z ∧ z ≤ 1) : vp_nar .boolean (iZ z) = iZ z := by
  rcases (by omega : z = 0 ∨ z = 1) with rfl | rfl <;> rfl
theorem iZ_chr {z : Int} (h : 0 ≤ z ∧ z ≤ 65535) : ((iZ z).toUInt32 % 65536).toInt32 = iZ z := by
  obtain ⟨k, rfl⟩ : ∃ k : Nat, z = (k : Int) := ⟨z.toNat, by omega⟩
  have e : iZ (k : Int) = nI k := rfl
  rw [e, pk_char, pk_tn (by omega), Nat.mod_eq_of_lt (by omega)]
theorem nar_chr {z : Int} (h : 0 ≤ z ∧ z ≤ 65535) : vp_nar .char (iZ z) = iZ z := by
  have h1 := pk_vc (iZ z)
  rw [iZ_chr h] at h1
  exact h1
section ZE
variable {p : Program} {l : Launch} {e : Env} {R : Room} {s : State} {m : MethodId} {args : Array Value} {below : List Frame} {meth : Method} {c : Code} {H : Heap} {locs : List Loc} {cells slots : Nat} {Q : State → Prop}
variable {cc : ByteArray} {pc : Nat} {ls : Array Slot} {rest : List Value} {D : va_G} {cl : List vw_C} {A : Nat → Prop} {a : Nat} {tys : List (ClassId × FieldType)} {ws : va_W} {H0 : Heap}
theorem zv_ineg (hexec : p.tables.exec = Jvm.exec) (hb : c.code = cc) {x : Int} (z : Int) (hz : -x = z) (hdg : decode cc pc = .ok (.ineg, 1)) (k : W p l e R s m args below meth c H locs cells slots Q (F0 m (pc + 1) ls (.int (iZ z) :: rest))) : W p l e R s m args below meth c H locs cells slots Q (F0 m pc ls (.int (iZ x) :: rest)) := by
  refine lv_ineg hexec hb hdg ?_
  rw [iZ_neg, hz]
  exact k
theorem zv_i2c (hexec : p.tables.exec = Jvm.exec) (hb : c.code = cc) {x : Int} (hx : 0 ≤ x ∧ x ≤ 65535) (hdg : decode cc pc = .ok (.i2c, 1)) (k : W p l e R s m args below meth c H locs cells slots Q (F0 m (pc + 1) ls (.int (iZ x) :: rest))) : W p l e R s m args below meth c H locs cells slots Q (F0 m pc ls (.int (iZ x) :: rest)) := lv_i2c hexec hb hdg (iZ_chr hx) k
theorem zv_zald (hexec : p.tables.exec = Jvm.exec) (hb : c.code = cc) (hK : va_K D cl tys s) (hP : va_P D cl ws H) (q0 t0 : Nat) {cA : ClassId} {n : Nat} {g : Nat → Int} (ha : ws[q0]? = some (a, .inl (cA, n, .inl (aZ g)))) (ht : tys[t0]? = some (cA, .boolean)) {z : Int} (h0 : 0 ≤ z) (hn : z < (n : Int)) (h1 : z ≤ 2147483647) (hdg : decode cc pc = .ok (.baload, 1))
    (k : ∀ x : Int, x = g z.toNat → W p l e R s m args below meth c H locs cells slots Q (F0 m (pc + 1) ls (.int (iZ x) :: rest))) : W p l e R s m args below meth c H locs cells slots Q (F0 m pc ls (.int (iZ z) :: .ref a :: rest)) := by
  refine va_zald hexec hb hK hP q0 t0 ha ht (iZ_in h0 hn h1) hdg ?_
  rw [iZ_clamp h0 h1]
  exact k _ rfl
theorem zv_cald (hexec : p.tables.exec = Jvm.exec) (hb : c.code = cc) (hK : va_K D cl tys s) (hP : va_P D cl ws H) (q0 t0 : Nat) {cA : ClassId} {n : Nat} {g : Nat → Int} (ha : ws[q0]? = some (a, .inl (cA, n, .inl (aZ g)))) (ht : tys[t0]? = some (cA, .char)) {z : Int} (h0 : 0 ≤ z) (hn : z < (n : Int)) (h1 : z ≤ 2147483647) (hdg : decode cc pc = .ok (.caload, 1))
    (k : ∀ x : Int, x = g z.toNat → W p l e R s m args below meth c H locs cells slots Q (F0 m (pc + 1) ls (.int (iZ x) :: rest))) : W p l e R s m args below meth c H locs cells slots Q (F0 m pc ls (.int (iZ z) :: .ref a :: rest)) := by
  refine va_cald hexec hb hK hP q0 t0 ha ht (iZ_in h0 hn h1) hdg ?_
  rw [iZ_clamp h0 h1]
  exact k _ rfl
theorem zv_zast (hexec : p.tables.exec = Jvm.exec) (hb : c.code = cc) (hK : va_K D cl tys s) (hP : va_P D cl ws H) (hD : va_D A ws) (hS : va_S A H0 H locs) (q0 t0 : Nat) {cA : ClassId} {n : Nat} {g : Nat → Int} (ha : ws[q0]? = some (a, .inl (cA, n, .inl (aZ g)))) (ht : tys[t0]? = some (cA, .boolean)) {z v : Int} (h0 : 0 ≤ z) (hn : z < (n : Int)) (h1 : z ≤ 2147483647) (hv : 0 ≤ v ∧ v ≤ 1) (hdg : decode cc pc = .ok (.bastore, 1))
    (k : ∀ (g1 : Nat → Int) (H1 : Heap) (locs1 : List Loc), g1 = updI g z.toNat v → va_P D cl (ws.set q0 (a, .inl (cA, n, .inl (aZ g1)))) H1 → va_D A (ws.set q0 (a, .inl (cA, n, .inl (aZ g1)))) → va_S A H0 H1 locs1 → W p l e R s m args below meth c H1 locs1 cells slots Q (F0 m (pc + 1) ls rest)) : W p l e R s m args below meth c H locs cells slots Q (F0 m pc ls (.int (iZ v) :: .int (iZ z) :: .ref a :: rest)) := by
  refine va_zast hexec hb hK hP hD hS q0 t0 ha ht (iZ_in h0 hn h1) hdg (fun H1 locs1 hP1 hD1 hS1 => ?_)
  rw [iZ_clamp h0 h1, nar_bool hv, aZ_upd] at hP1 hD1
  exact k _ H1 locs1 rfl hP1 hD1 hS1
theorem zv_cast (hexec : p.tables.exec = Jvm.exec) (hb : c.code = cc) (hK : va_K D cl tys s) (hP : va_P D cl ws H) (hD : va_D A ws) (hS : va_S A H0 H locs) (q0 t0 : Nat) {cA : ClassId} {n : Nat} {g : Nat → Int} (ha : ws[q0]? = some (a, .inl (cA, n, .inl (aZ g)))) (ht : tys[t0]? = some (cA, .char)) {z v : Int} (h0 : 0 ≤ z) (hn : z < (n : Int)) (h1 : z ≤ 2147483647) (hv : 0 ≤ v ∧ v ≤ 65535) (hdg : decode cc pc = .ok (.castore, 1))
    (k : ∀ (g1 : Nat → Int) (H1 : Heap) (locs1 : List Loc), g1 = updI g z.toNat v → va_P D cl (ws.set q0 (a, .inl (cA, n, .inl (aZ g1)))) H1 → va_D A (ws.set q0 (a, .inl (cA, n, .inl (aZ g1)))) → va_S A H0 H1 locs1 → W p l e R s m args below meth c H1 locs1 cells slots Q (F0 m (pc + 1) ls rest)) : W p l e R s m args below meth c H locs cells slots Q (F0 m pc ls (.int (iZ v) :: .int (iZ z) :: .ref a :: rest)) := by
  refine va_cast hexec hb hK hP hD hS q0 t0 ha ht (iZ_in h0 hn h1) hdg (fun H1 locs1 hP1 hD1 hS1 => ?_)
  rw [iZ_clamp h0 h1, nar_chr hv, aZ_upd] at hP1 hD1
  exact k _ H1 locs1 rfl hP1 hD1 hS1
end ZE
def SeP (n all done going : Int) : Prop := (n = 0 ∧ going = 1 ∧ done = 0) ∨ (1 ≤ n ∧ n ≤ all ∧ going = 1 ∧ done = n - 1) ∨ (n = all + 1 ∧ going = 0)
theorem SeP_go {n all done going : Int} (H : SeP n all done going) (h : n ≤ all) : going = 1 ∧ ((n = 0 ∧ done = 0) ∨ (1 ≤ n ∧ done = n - 1)) := by
  unfold SeP at H
  omega
def RwC (g : Nat → Int) (r : Int) : Prop := ∀ i, 0 ≤ i → i < r → g (4 * i).toNat < 160 ∨ 248 ≤ g (4 * i).toNat
theorem RwC_init {g : Nat → Int} : RwC g 0 := fun i h0 h1 => by omega
theorem RwC_step {g : Nat → Int} {r i : Int} (H : RwC g r) (hi : i = 4 * r) (h : g i.toNat < 160 ∨ 248 ≤ g i.toNat) : RwC g (r + 1) := by
  subst hi
  intro j h0 h1
  rcases (by omega : j < r ∨ j = r) with q | q
  · exact H j h0 q
  · subst q; exact h
theorem RwC_at {g : Nat → Int} {r n i x : Int} (H : RwC g n) (h0 : 0 ≤ r) (h1 : r < n) (hi : i = 4 * r) (hx : x = g i.toNat) : x < 160 ∨ 248 ≤ x := by
  subst hi
  subst hx
  exact H r h0 h1
