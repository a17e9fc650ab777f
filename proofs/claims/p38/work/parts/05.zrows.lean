def iZ (z : Int) : Int32 := Int32.ofInt z
def aZ (g : Nat → Int) : Nat → Int32 := fun j => iZ (g j)
def updI (g : Nat → Int) (k : Nat) (v : Int) : Nat → Int := fun j => if j = k then v else g j
theorem iZ_add (a b : Int) : iZ a + iZ b = iZ (a + b) := (Int32.ofInt_add a b).symm
theorem iZ_sub (a b : Int) : iZ a - iZ b = iZ (a - b) := (Int32.ofInt_sub a b).symm
theorem iZ_mul (a b : Int) : iZ a * iZ b = iZ (a * b) := (Int32.ofInt_mul a b).symm
theorem iZ_toInt {a : Int} (h : -2147483648 ≤ a ∧ a ≤ 2147483647) : (iZ a).toInt = a := Int32.toInt_ofInt_of_le (by omega) (by omega)
theorem iZ_lt {a b : Int} (ha : -2147483648 ≤ a ∧ a ≤ 2147483647) (hb : -2147483648 ≤ b ∧ b ≤ 2147483647) : iZ a < iZ b ↔ a < b := by
  rw [Int32.lt_iff_toInt_lt, iZ_toInt ha, iZ_toInt hb]
theorem iZ_le {a b : Int} (ha : -2147483648 ≤ a ∧ a ≤ 2147483647) (hb : -2147483648 ≤ b ∧ b ≤ 2147483647) : iZ a ≤ iZ b ↔ a ≤ b := by
  rw [Int32.le_iff_toInt_le, iZ_toInt ha, iZ_toInt hb]
theorem iZ_eq {a b : Int} (ha : -2147483648 ≤ a ∧ a ≤ 2147483647) (hb : -2147483648 ≤ b ∧ b ≤ 2147483647) : iZ a = iZ b ↔ a = b := by
  rw [← Int32.toInt_inj, iZ_toInt ha, iZ_toInt hb]
theorem iZ_norm (z : Int) : ∃ y : Int, iZ z = iZ y ∧ -2147483648 ≤ y ∧ y ≤ 2147483647 := by
  refine ⟨(iZ z).toInt, ?_, ?_, ?_⟩
  · exact (Int32.ofInt_toInt (iZ z)).symm
  · have h := Int32.le_toInt (iZ z); omega
  · have h := Int32.toInt_lt (iZ z); omega
theorem iZ_of (x : Int32) : ∃ y : Int, x = iZ y ∧ -2147483648 ≤ y ∧ y ≤ 2147483647 := by
  refine ⟨x.toInt, (Int32.ofInt_toInt x).symm, ?_, ?_⟩
  · have h := Int32.le_toInt x; omega
  · have h := Int32.toInt_lt x; omega
theorem iZ_inc {a n z : Int} (h : a + n = z) : iZ a + Int32.ofInt n = iZ z := by rw [← h]; exact iZ_add a n
theorem iZ_clamp {z : Int} (h0 : 0 ≤ z) (h1 : z ≤ 2147483647) : (iZ z).toNatClampNeg = z.toNat := by
  show (iZ z).toInt.toNat = z.toNat
  rw [iZ_toInt ⟨by omega, h1⟩]
theorem iZ_in {z : Int} {n : Nat} (h0 : 0 ≤ z) (hn : z < (n : Int)) (h1 : z ≤ 2147483647) : vp_in (iZ z) n := by
  intro h
  rcases h with h | h
  · have h2 := (iZ_lt ⟨by omega, h1⟩ ⟨by omega, by omega⟩ (b := 0)).mp h
    omega
  · rw [iZ_clamp h0 h1] at h
    omega
theorem aZ_upd (g : Nat → Int) (k : Nat) (v : Int) : upd (aZ g) k (iZ v) = aZ (updI g k v) := by
  funext j
  unfold upd aZ updI
  split <;> rfl
theorem zb_upd {P : Int → Prop} {n : Nat} {g : Nat → Int} {k : Nat} {v : Int} (h : ∀ j, j < n → P (g j)) (hv : P v) : ∀ j, j < n → P (updI g k v j) := by
  intro j hj
  unfold updI
  split
  · exact hv
  · exact h j hj
theorem iZ_and (x mk : Int) (hm : 0 ≤ mk ∧ mk ≤ 2147483647) : 0 ≤ (iZ x &&& iZ mk).toInt ∧ (iZ x &&& iZ mk).toInt ≤ mk := by
  have e : (iZ mk).toInt = mk := iZ_toInt ⟨by omega, hm.2⟩
  have hn : (iZ mk).toBitVec.toNat = mk.toNat := by
    have h2 : (iZ mk).toInt = (iZ mk).toBitVec.toInt := rfl
    rw [h2, BitVec.toInt_eq_toNat_cond] at e
    have h3 := (iZ mk).toBitVec.isLt
    split at e <;> omega
  have hle : ((iZ x &&& iZ mk).toBitVec).toNat ≤ mk.toNat := by
    rw [Int32.toBitVec_and, BitVec.toNat_and, ← hn]
    exact Nat.and_le_right
  have h4 : (iZ x &&& iZ mk).toInt = (iZ x &&& iZ mk).toBitVec.toInt := rfl
  rw [h4, BitVec.toInt_eq_toNat_cond]
  split <;> omega
theorem zb_fit {z : Int} (h : 0 ≤ z ∧ z ≤ 1) : fits .boolean (.int (iZ z)) = true := by
  rcases (by omega : z = 0 ∨ z = 1) with rfl | rfl <;> rfl
theorem zb_nar {z : Int} (h : 0 ≤ z ∧ z ≤ 1) : narrow .boolean (.int (iZ z)) = .int (iZ z) := by
  rcases (by omega : z = 0 ∨ z = 1) with rfl | rfl <;> rfl
theorem zc_cong {c1 : ClassId} {n : Nat} {f g : Nat → Int32} (e : ∀ j, j < n → f j = g j) : vp_cell c1 (n, .inl f) = vp_cell c1 (n, .inl g) := by
  have this : (fun j : Fin n => Value.int (f j.val)) = (fun j : Fin n => Value.int (g j.val)) := funext (fun j => by rw [e j.val j.isLt])
  exact congrArg (fun s => ({ cls := c1, slots := Array.ofFn s, vm := .none } : Cell)) this
theorem zP_cong {D : va_G} {cl : List vw_C} {ws : va_W} {q1 a : Nat} {c1 : ClassId} {n : Nat} {f g : Nat → Int32} {H : Heap} (e : ∀ j, j < n → f j = g j) (hP : va_P D cl (ws.set q1 (a, .inl (c1, n, .inl f))) H) : va_P D cl (ws.set q1 (a, .inl (c1, n, .inl g))) H := by
  intro k q hq
  by_cases hk : k = q1
  · subst hk
    have hlt : k < ws.length := by
      have h2 := (List.getElem?_eq_some_iff.mp hq).1
      simpa using h2
    rw [List.getElem?_set_self hlt] at hq
    cases hq
    have h1 := hP k _ (List.getElem?_set_self hlt)
    show H[a]? = some (vp_cell c1 (n, .inl g))
    rw [← zc_cong e]
    exact h1
  · have e1 : (ws.set q1 (a, .inl (c1, n, .inl f)))[k]? = some q := by
      rw [List.getElem?_set_ne (Ne.symm hk)] at hq ⊢
      exact hq
    exact hP k q e1
theorem iZ_div {x k : Int} (hx : 0 ≤ x ∧ x ≤ 2147483647) (hk : 1 ≤ k ∧ k ≤ 2147483647) : iZ x / iZ k = iZ (x / k) := by
  have e1 : (iZ x).toInt = x := iZ_toInt ⟨by omega, hx.2⟩
  have e2 : (iZ k).toInt = k := iZ_toInt ⟨by omega, hk.2⟩
  have h0 : 0 ≤ x / k := Int.ediv_nonneg hx.1 (by omega)
  have h1 : x / k ≤ x := Int.ediv_le_self _ hx.1
  apply Int32.toInt_inj.mp
  rw [Int32.toInt_div_of_ne_right _ _ (by intro h; have h2 := congrArg Int32.toInt h; rw [e2] at h2; have h3 : (-1 : Int32).toInt = -1 := by decide
                                          omega), e1, e2, iZ_toInt ⟨by omega, by omega⟩]
  exact Int.tdiv_eq_ediv_of_nonneg hx.1
set_option maxRecDepth 100000 in
theorem sh_11 : ∀ x : Fin 7400, iZ (x.val : Int) >>> (iZ 11 &&& 31) = iZ ((x.val : Int) / 2048) := by decide +kernel
set_option maxRecDepth 100000 in
theorem sh_8 : ∀ x : Fin 2048, iZ (x.val : Int) >>> (iZ 8 &&& 31) = iZ ((x.val : Int) / 256) := by decide +kernel
set_option maxRecDepth 100000 in
theorem sl_11 : ∀ x : Fin 256, iZ (x.val : Int) <<< (iZ 11 &&& 31) = iZ ((x.val : Int) * 2048) := by decide +kernel
theorem sh_11' {x : Int} (h : 0 ≤ x ∧ x < 7400) : iZ x >>> (iZ 11 &&& 31) = iZ (x / 2048) := by
  have h1 := sh_11 ⟨x.toNat, by omega⟩
  have e : ((x.toNat : Nat) : Int) = x := by omega
  rw [e] at h1
  exact h1
theorem sh_8' {x : Int} (h : 0 ≤ x ∧ x < 2048) : iZ x >>> (iZ 8 &&& 31) = iZ (x / 256) := by
  have h1 := sh_8 ⟨x.toNat, by omega⟩
  have e : ((x.toNat : Nat) : Int) = x := by omega
  rw [e] at h1
  exact h1
theorem sl_11' {x : Int} (h : 0 ≤ x ∧ x < 256) : iZ x <<< (iZ 11 &&& 31) = iZ (x * 2048) := by
  have h1 := sl_11 ⟨x.toNat, by omega⟩
  have e : ((x.toNat : Nat) : Int) = x := by omega
  rw [e] at h1
  exact h1
section ZR
variable {p : Program} {l : Launch} {e : Env} {R : Room} {s : State} {m : MethodId} {args : Array Value} {below : List Frame} {meth : Method} {c : Code} {H : Heap} {locs : List Loc} {cells slots : Nat} {Q : State → Prop}
variable {cc : ByteArray} {pc : Nat} {ls : Array Slot} {rest : List Value} {D : va_G} {cl : List vw_C} {A : Nat → Prop} {a : Nat} {tys : List (ClassId × FieldType)} {ws : va_W} {H0 : Heap}
theorem zv_iadd (hexec : p.tables.exec = Jvm.exec) (hb : c.code = cc) {x y : Int} (z : Int) (hz : x + y = z) (hdg : decode cc pc = .ok (.iadd, 1)) (k : W p l e R s m args below meth c H locs cells slots Q (F0 m (pc + 1) ls (.int (iZ z) :: rest))) : W p l e R s m args below meth c H locs cells slots Q (F0 m pc ls (.int (iZ y) :: .int (iZ x) :: rest)) := lv_iadd hexec hb hdg (by rw [iZ_add, hz]; exact k)
theorem zv_isub (hexec : p.tables.exec = Jvm.exec) (hb : c.code = cc) {x y : Int} (z : Int) (hz : x - y = z) (hdg : decode cc pc = .ok (.isub, 1)) (k : W p l e R s m args below meth c H locs cells slots Q (F0 m (pc + 1) ls (.int (iZ z) :: rest))) : W p l e R s m args below meth c H locs cells slots Q (F0 m pc ls (.int (iZ y) :: .int (iZ x) :: rest)) := lv_isub hexec hb hdg (by rw [iZ_sub, hz]; exact k)
theorem zv_imul (hexec : p.tables.exec = Jvm.exec) (hb : c.code = cc) {x y : Int} (z : Int) (hz : x * y = z) (hdg : decode cc pc = .ok (.imul, 1)) (k : W p l e R s m args below meth c H locs cells slots Q (F0 m (pc + 1) ls (.int (iZ z) :: rest))) : W p l e R s m args below meth c H locs cells slots Q (F0 m pc ls (.int (iZ y) :: .int (iZ x) :: rest)) := lv_imul hexec hb hdg (by rw [iZ_mul, hz]; exact k)
theorem zv_norm {z : Int} (k : ∀ y : Int, -2147483648 ≤ y → y ≤ 2147483647 → W p l e R s m args below meth c H locs cells slots Q (F0 m pc ls (.int (iZ y) :: rest))) : W p l e R s m args below meth c H locs cells slots Q (F0 m pc ls (.int (iZ z) :: rest)) := by
  obtain ⟨y, hy, h1, h2⟩ := iZ_norm z
  rw [hy]
  exact k y h1 h2
theorem zv_any {x : Int32} (k : ∀ y : Int, -2147483648 ≤ y → y ≤ 2147483647 → W p l e R s m args below meth c H locs cells slots Q (F0 m pc ls (.int (iZ y) :: rest))) : W p l e R s m args below meth c H locs cells slots Q (F0 m pc ls (.int x :: rest)) := by
  obtain ⟨y, hy, h1, h2⟩ := iZ_of x
  rw [hy]
  exact k y h1 h2
theorem zv_icmp_lt (hexec : p.tables.exec = Jvm.exec) (hb : c.code = cc) {x y : Int} {off : Int} {tgt : Nat} (hdg : decode cc pc = .ok (.if_icmp .lt off, 3)) (ht : (pc : Int) + off = (tgt : Int)) (hx : -2147483648 ≤ x ∧ x ≤ 2147483647) (hy : -2147483648 ≤ y ∧ y ≤ 2147483647) (kt : x < y → W p l e R s m args below meth c H locs cells slots Q (F0 m tgt ls rest)) (kf : ¬ x < y → W p l e R s m args below meth c H locs cells slots Q (F0 m (pc + 3) ls rest)) : W p l e R s m args below meth c H locs cells slots Q (F0 m pc ls (.int (iZ y) :: .int (iZ x) :: rest)) := lv_icmp_lt hexec hb hdg ht (fun h => kt ((iZ_lt hx hy).mp h)) (fun h => kf (fun q => h ((iZ_lt hx hy).mpr q)))
theorem zv_icmp_le (hexec : p.tables.exec = Jvm.exec) (hb : c.code = cc) {x y : Int} {off : Int} {tgt : Nat} (hdg : decode cc pc = .ok (.if_icmp .le off, 3)) (ht : (pc : Int) + off = (tgt : Int)) (hx : -2147483648 ≤ x ∧ x ≤ 2147483647) (hy : -2147483648 ≤ y ∧ y ≤ 2147483647) (kt : x ≤ y → W p l e R s m args below meth c H locs cells slots Q (F0 m tgt ls rest)) (kf : ¬ x ≤ y → W p l e R s m args below meth c H locs cells slots Q (F0 m (pc + 3) ls rest)) : W p l e R s m args below meth c H locs cells slots Q (F0 m pc ls (.int (iZ y) :: .int (iZ x) :: rest)) := lv_icmp_le hexec hb hdg ht (fun h => kt ((iZ_le hx hy).mp h)) (fun h => kf (fun q => h ((iZ_le hx hy).mpr q)))
theorem zv_icmp_gt (hexec : p.tables.exec = Jvm.exec) (hb : c.code = cc) {x y : Int} {off : Int} {tgt : Nat} (hdg : decode cc pc = .ok (.if_icmp .gt off, 3)) (ht : (pc : Int) + off = (tgt : Int)) (hx : -2147483648 ≤ x ∧ x ≤ 2147483647) (hy : -2147483648 ≤ y ∧ y ≤ 2147483647) (kt : y < x → W p l e R s m args below meth c H locs cells slots Q (F0 m tgt ls rest)) (kf : ¬ y < x → W p l e R s m args below meth c H locs cells slots Q (F0 m (pc + 3) ls rest)) : W p l e R s m args below meth c H locs cells slots Q (F0 m pc ls (.int (iZ y) :: .int (iZ x) :: rest)) := lv_icmp_gt hexec hb hdg ht (fun h => kt ((iZ_lt hy hx).mp h)) (fun h => kf (fun q => h ((iZ_lt hy hx).mpr q)))
theorem zv_icmp_ge (hexec : p.tables.exec = Jvm.exec) (hb : c.code = cc) {x y : Int} {off : Int} {tgt : Nat} (hdg : decode cc pc = .ok (.if_icmp .ge off, 3)) (ht : (pc : Int) + off = (tgt : Int)) (hx : -2147483648 ≤ x ∧ x ≤ 2147483647) (hy : -2147483648 ≤ y ∧ y ≤ 2147483647) (kt : y ≤ x → W p l e R s m args below meth c H locs cells slots Q (F0 m tgt ls rest)) (kf : ¬ y ≤ x → W p l e R s m args below meth c H locs cells slots Q (F0 m (pc + 3) ls rest)) : W p l e R s m args below meth c H locs cells slots Q (F0 m pc ls (.int (iZ y) :: .int (iZ x) :: rest)) := lv_icmp_ge hexec hb hdg ht (fun h => kt ((iZ_le hy hx).mp h)) (fun h => kf (fun q => h ((iZ_le hy hx).mpr q)))
theorem zv_icmp_eq (hexec : p.tables.exec = Jvm.exec) (hb : c.code = cc) {x y : Int} {off : Int} {tgt : Nat} (hdg : decode cc pc = .ok (.if_icmp .eq off, 3)) (ht : (pc : Int) + off = (tgt : Int)) (hx : -2147483648 ≤ x ∧ x ≤ 2147483647) (hy : -2147483648 ≤ y ∧ y ≤ 2147483647) (kt : x = y → W p l e R s m args below meth c H locs cells slots Q (F0 m tgt ls rest)) (kf : ¬ x = y → W p l e R s m args below meth c H locs cells slots Q (F0 m (pc + 3) ls rest)) : W p l e R s m args below meth c H locs cells slots Q (F0 m pc ls (.int (iZ y) :: .int (iZ x) :: rest)) := lv_icmp_eq hexec hb hdg ht (fun h => kt ((iZ_eq hx hy).mp h)) (fun h => kf (fun q => h ((iZ_eq hx hy).mpr q)))
theorem zv_icmp_ne (hexec : p.tables.exec = Jvm.exec) (hb : c.code = cc) {x y : Int} {off : Int} {tgt : Nat} (hdg : decode cc pc = .ok (.if_icmp .ne off, 3)) (ht : (pc : Int) + off = (tgt : Int)) (hx : -2147483648 ≤ x ∧ x ≤ 2147483647) (hy : -2147483648 ≤ y ∧ y ≤ 2147483647) (kt : ¬ x = y → W p l e R s m args below meth c H locs cells slots Q (F0 m tgt ls rest)) (kf : x = y → W p l e R s m args below meth c H locs cells slots Q (F0 m (pc + 3) ls rest)) : W p l e R s m args below meth c H locs cells slots Q (F0 m pc ls (.int (iZ y) :: .int (iZ x) :: rest)) := lv_icmp_ne hexec hb hdg ht (fun h => kt (fun q => h ((iZ_eq hx hy).mpr q))) (fun h => kf ((iZ_eq hx hy).mp h))
theorem zv_if_lt (hexec : p.tables.exec = Jvm.exec) (hb : c.code = cc) {x : Int} {off : Int} {tgt : Nat} (hdg : decode cc pc = .ok (.ifCond .lt off, 3)) (ht : (pc : Int) + off = (tgt : Int)) (hx : -2147483648 ≤ x ∧ x ≤ 2147483647) (kt : x < 0 → W p l e R s m args below meth c H locs cells slots Q (F0 m tgt ls rest)) (kf : ¬ x < 0 → W p l e R s m args below meth c H locs cells slots Q (F0 m (pc + 3) ls rest)) : W p l e R s m args below meth c H locs cells slots Q (F0 m pc ls (.int (iZ x) :: rest)) := lv_if_lt hexec hb hdg ht (fun h => kt ((iZ_lt hx (b := 0) (by decide)).mp h)) (fun h => kf (fun q => h ((iZ_lt hx (b := 0) (by decide)).mpr q)))
theorem zv_if_le (hexec : p.tables.exec = Jvm.exec) (hb : c.code = cc) {x : Int} {off : Int} {tgt : Nat} (hdg : decode cc pc = .ok (.ifCond .le off, 3)) (ht : (pc : Int) + off = (tgt : Int)) (hx : -2147483648 ≤ x ∧ x ≤ 2147483647) (kt : x ≤ 0 → W p l e R s m args below meth c H locs cells slots Q (F0 m tgt ls rest)) (kf : ¬ x ≤ 0 → W p l e R s m args below meth c H locs cells slots Q (F0 m (pc + 3) ls rest)) : W p l e R s m args below meth c H locs cells slots Q (F0 m pc ls (.int (iZ x) :: rest)) := lv_if_le hexec hb hdg ht (fun h => kt ((iZ_le hx (b := 0) (by decide)).mp h)) (fun h => kf (fun q => h ((iZ_le hx (b := 0) (by decide)).mpr q)))
theorem zv_if_gt (hexec : p.tables.exec = Jvm.exec) (hb : c.code = cc) {x : Int} {off : Int} {tgt : Nat} (hdg : decode cc pc = .ok (.ifCond .gt off, 3)) (ht : (pc : Int) + off = (tgt : Int)) (hx : -2147483648 ≤ x ∧ x ≤ 2147483647) (kt : 0 < x → W p l e R s m args below meth c H locs cells slots Q (F0 m tgt ls rest)) (kf : ¬ 0 < x → W p l e R s m args below meth c H locs cells slots Q (F0 m (pc + 3) ls rest)) : W p l e R s m args below meth c H locs cells slots Q (F0 m pc ls (.int (iZ x) :: rest)) := lv_if_gt hexec hb hdg ht (fun h => kt ((iZ_lt (a := 0) (by decide) hx).mp h)) (fun h => kf (fun q => h ((iZ_lt (a := 0) (by decide) hx).mpr q)))
theorem zv_if_ge (hexec : p.tables.exec = Jvm.exec) (hb : c.code = cc) {x : Int} {off : Int} {tgt : Nat} (hdg : decode cc pc = .ok (.ifCond .ge off, 3)) (ht : (pc : Int) + off = (tgt : Int)) (hx : -2147483648 ≤ x ∧ x ≤ 2147483647) (kt : 0 ≤ x → W p l e R s m args below meth c H locs cells slots Q (F0 m tgt ls rest)) (kf : ¬ 0 ≤ x → W p l e R s m args below meth c H locs cells slots Q (F0 m (pc + 3) ls rest)) : W p l e R s m args below meth c H locs cells slots Q (F0 m pc ls (.int (iZ x) :: rest)) := lv_if_ge hexec hb hdg ht (fun h => kt ((iZ_le (a := 0) (by decide) hx).mp h)) (fun h => kf (fun q => h ((iZ_le (a := 0) (by decide) hx).mpr q)))
theorem zv_if_eq (hexec : p.tables.exec = Jvm.exec) (hb : c.code = cc) {x : Int} {off : Int} {tgt : Nat} (hdg : decode cc pc = .ok (.ifCond .eq off, 3)) (ht : (pc : Int) + off = (tgt : Int)) (hx : -2147483648 ≤ x ∧ x ≤ 2147483647) (kt : x = 0 → W p l e R s m args below meth c H locs cells slots Q (F0 m tgt ls rest)) (kf : ¬ x = 0 → W p l e R s m args below meth c H locs cells slots Q (F0 m (pc + 3) ls rest)) : W p l e R s m args below meth c H locs cells slots Q (F0 m pc ls (.int (iZ x) :: rest)) := lv_if_eq hexec hb hdg ht (fun h => kt ((iZ_eq hx (b := 0) (by decide)).mp h)) (fun h => kf (fun q => h ((iZ_eq hx (b := 0) (by decide)).mpr q)))
theorem zv_if_ne (hexec : p.tables.exec = Jvm.exec) (hb : c.code = cc) {x : Int} {off : Int} {tgt : Nat} (hdg : decode cc pc = .ok (.ifCond .ne off, 3)) (ht : (pc : Int) + off = (tgt : Int)) (hx : -2147483648 ≤ x ∧ x ≤ 2147483647) (kt : ¬ x = 0 → W p l e R s m args below meth c H locs cells slots Q (F0 m tgt ls rest)) (kf : x = 0 → W p l e R s m args below meth c H locs cells slots Q (F0 m (pc + 3) ls rest)) : W p l e R s m args below meth c H locs cells slots Q (F0 m pc ls (.int (iZ x) :: rest)) := lv_if_ne hexec hb hdg ht (fun h => kt (fun q => h ((iZ_eq hx (b := 0) (by decide)).mpr q))) (fun h => kf ((iZ_eq hx (b := 0) (by decide)).mp h))
theorem zv_iald (hexec : p.tables.exec = Jvm.exec) (hb : c.code = cc) (hK : va_K D cl tys s) (hP : va_P D cl ws H) (q0 t0 : Nat) {cA : ClassId} {n : Nat} {g : Nat → Int} (ha : ws[q0]? = some (a, .inl (cA, n, .inl (aZ g)))) (ht : tys[t0]? = some (cA, .int)) {z : Int} (h0 : 0 ≤ z) (hn : z < (n : Int)) (h1 : z ≤ 2147483647) (hdg : decode cc pc = .ok (.iaload, 1))
    (k : ∀ x : Int, x = g z.toNat → W p l e R s m args below meth c H locs cells slots Q (F0 m (pc + 1) ls (.int (iZ x) :: rest))) : W p l e R s m args below meth c H locs cells slots Q (F0 m pc ls (.int (iZ z) :: .ref a :: rest)) := by
  refine va_iald hexec hb hK hP q0 t0 ha ht (iZ_in h0 hn h1) hdg ?_
  rw [iZ_clamp h0 h1]
  exact k _ rfl
theorem zv_iast (hexec : p.tables.exec = Jvm.exec) (hb : c.code = cc) (hK : va_K D cl tys s) (hP : va_P D cl ws H) (hD : va_D A ws) (hS : va_S A H0 H locs) (q0 t0 : Nat) {cA : ClassId} {n : Nat} {g : Nat → Int} (ha : ws[q0]? = some (a, .inl (cA, n, .inl (aZ g)))) (ht : tys[t0]? = some (cA, .int)) {z v : Int} (h0 : 0 ≤ z) (hn : z < (n : Int)) (h1 : z ≤ 2147483647) (hdg : decode cc pc = .ok (.iastore, 1))
    (k : ∀ (g1 : Nat → Int) (H1 : Heap) (locs1 : List Loc), g1 = updI g z.toNat v → va_P D cl (ws.set q0 (a, .inl (cA, n, .inl (aZ g1)))) H1 → va_D A (ws.set q0 (a, .inl (cA, n, .inl (aZ g1)))) → va_S A H0 H1 locs1 → W p l e R s m args below meth c H1 locs1 cells slots Q (F0 m (pc + 1) ls rest)) : W p l e R s m args below meth c H locs cells slots Q (F0 m pc ls (.int (iZ v) :: .int (iZ z) :: .ref a :: rest)) := by
  refine va_iast hexec hb hK hP hD hS q0 t0 ha ht (iZ_in h0 hn h1) hdg (fun H1 locs1 hP1 hD1 hS1 => ?_)
  rw [iZ_clamp h0 h1, aZ_upd] at hP1 hD1
  exact k _ H1 locs1 rfl hP1 hD1 hS1
theorem zv_ian (hexec : p.tables.exec = Jvm.exec) (hb : c.code = cc) {x mk : Int} (hm : 0 ≤ mk ∧ mk ≤ 2147483647) (hdg : decode cc pc = .ok (.iand, 1)) (k : ∀ y : Int, 0 ≤ y → y ≤ mk → W p l e R s m args below meth c H locs cells slots Q (F0 m (pc + 1) ls (.int (iZ y) :: rest))) : W p l e R s m args below meth c H locs cells slots Q (F0 m pc ls (.int (iZ mk) :: .int (iZ x) :: rest)) := by
  refine lv_iand hexec hb hdg ?_
  have h := iZ_and x mk hm
  rw [← Int32.ofInt_toInt (iZ x &&& iZ mk)]
  exact k _ h.1 h.2
theorem zv_copy (hexec : p.tables.exec = Jvm.exec) (hb : c.code = cc) (hml : c.maxLocals = ls.size) {own : String} {index : Nat} (hown : s.vm.findClass own = some m.cls) (hlink : (Cond.methodLink own index arraycopyName).before args s = true) (hnat : (Cond.native arraycopyName).before args s = true) (hstat : (Cond.static arraycopyName).before args s = true) (hini : (Cond.initialized "java/lang/System").before args s = true)
    (hK : va_K D cl tys s) (hP : va_P D cl ws H) (hD : va_D A ws) (hS : va_S A H0 H locs) (q0 q1 t0 t1 : Nat) {a0 : Nat} {c0 c1 : ClassId} {n : Nat} {g0 g1 : Nat → Int} (ha0 : ws[q0]? = some (a0, .inl (c0, n, .inl (aZ g0)))) (ha1 : ws[q1]? = some (a, .inl (c1, n, .inl (aZ g1)))) (ht0 : tys[t0]? = some (c0, .int)) (ht1 : tys[t1]? = some (c1, .int)) (nz : Int) (hnz : nz = (n : Int)) (hn : nz ≤ 2147483647)
    (hframes : 1 ≤ R.frames) (hlocals : (rest.map fun v => v.category).sum + (nativeFrameWords "java/lang/System" "arraycopy" 5 + 11) ≤ R.locals) (hdg : decode cc pc = .ok (.invokestatic index, 3))
    (kk : ∀ (H1 : Heap) (locs1 : List Loc), va_P D cl (ws.set q1 (a, .inl (c1, n, .inl (aZ g0)))) H1 → va_D A (ws.set q1 (a, .inl (c1, n, .inl (aZ g0)))) → va_S A H0 H1 locs1 → W p l e R s m args below meth c H1 locs1 cells slots Q (F0 m (pc + 3) ls rest)) : W p l e R s m args below meth c H locs cells slots Q (F0 m pc ls (.int (iZ nz) :: .int (iZ 0) :: .ref a :: .int (iZ 0) :: .ref a0 :: rest)) := by
  have e0 : (iZ 0).toNatClampNeg = 0 := by decide
  have en : (iZ nz).toNatClampNeg = n := by rw [iZ_clamp (by omega) hn]; omega
  refine va_copyi hexec hb hml hown hlink hnat hstat hini hK hP hD hS q0 q1 t0 t1 ha0 ha1 ht0 ht1 rfl (by decide) (by decide) (fun h => by have h2 := (iZ_lt ⟨by omega, hn⟩ ⟨by omega, by omega⟩ (b := 0)).mp h; omega) (by rw [e0, en]; omega) (by rw [e0, en]; omega) (fun i hi => rfl) hframes hlocals hdg (fun H1 locs1 hP1 hD1 hS1 => ?_)
  refine kk H1 locs1 (zP_cong (fun j hj => ?_) hP1) (hD.set ha1) hS1
  rw [e0, en]
  unfold va_cpy
  rw [if_pos ⟨by omega, by omega⟩]
  congr 1
  omega
theorem zv_copyP (hexec : p.tables.exec = Jvm.exec) (hb : c.code = cc) (hml : c.maxLocals = ls.size) {own : String} {index : Nat} (hown : s.vm.findClass own = some m.cls) (hlink : (Cond.methodLink own index arraycopyName).before args s = true) (hnat : (Cond.native arraycopyName).before args s = true) (hstat : (Cond.static arraycopyName).before args s = true) (hini : (Cond.initialized "java/lang/System").before args s = true)
    (hK : va_K D cl tys s) (hP : va_P D cl ws H) (hD : va_D A ws) (hS : va_S A H0 H locs) (q0 q1 t0 t1 : Nat) {a0 : Nat} {c0 c1 : ClassId} {n0 n1 : Nat} {g0 g1 : Nat → Int} (ha0 : ws[q0]? = some (a0, .inl (c0, n0, .inl (aZ g0)))) (ha1 : ws[q1]? = some (a, .inl (c1, n1, .inl (aZ g1)))) (ht0 : tys[t0]? = some (c0, .int)) (ht1 : tys[t1]? = some (c1, .int)) {sp dp nz : Int} (h1 : 0 ≤ sp) (h2 : 0 ≤ dp) (h3 : 0 ≤ nz) (h4 : sp + nz ≤ (n0 : Int)) (h5 : dp + nz ≤ (n1 : Int)) (h6 : (n0 : Int) ≤ 2147483647) (h7 : (n1 : Int) ≤ 2147483647)
    (hframes : 1 ≤ R.frames) (hlocals : (rest.map fun v => v.category).sum + (nativeFrameWords "java/lang/System" "arraycopy" 5 + 11) ≤ R.locals) (hdg : decode cc pc = .ok (.invokestatic index, 3))
    (kk : ∀ (g2 : Nat → Int) (H1 : Heap) (locs1 : List Loc), g2 = va_cpy g0 g1 sp.toNat dp.toNat nz.toNat → va_P D cl (ws.set q1 (a, .inl (c1, n1, .inl (aZ g2)))) H1 → va_D A (ws.set q1 (a, .inl (c1, n1, .inl (aZ g2)))) → va_S A H0 H1 locs1 → W p l e R s m args below meth c H1 locs1 cells slots Q (F0 m (pc + 3) ls rest)) : W p l e R s m args below meth c H locs cells slots Q (F0 m pc ls (.int (iZ nz) :: .int (iZ dp) :: .ref a :: .int (iZ sp) :: .ref a0 :: rest)) := by
  have es : (iZ sp).toNatClampNeg = sp.toNat := iZ_clamp h1 (by omega)
  have ed : (iZ dp).toNatClampNeg = dp.toNat := iZ_clamp h2 (by omega)
  have en : (iZ nz).toNatClampNeg = nz.toNat := iZ_clamp h3 (by omega)
  refine va_copyi hexec hb hml hown hlink hnat hstat hini hK hP hD hS q0 q1 t0 t1 ha0 ha1 ht0 ht1 rfl (fun h => by have h9 := (iZ_lt ⟨by omega, by omega⟩ ⟨by omega, by omega⟩ (b := 0)).mp h; omega) (fun h => by have h9 := (iZ_lt ⟨by omega, by omega⟩ ⟨by omega, by omega⟩ (b := 0)).mp h; omega) (fun h => by have h9 := (iZ_lt ⟨by omega, by omega⟩ ⟨by omega, by omega⟩ (b := 0)).mp h; omega) (by rw [es, en]; omega) (by rw [ed, en]; omega) (fun i hi => rfl) hframes hlocals hdg (fun H1 locs1 hP1 hD1 hS1 => ?_)
  refine kk _ H1 locs1 rfl (zP_cong (fun j hj => ?_) hP1) (hD.set ha1) hS1
  rw [es, ed, en]
  unfold va_cpy aZ
  dsimp only
  split <;> rfl
theorem zv_idiv (hexec : p.tables.exec = Jvm.exec) (hb : c.code = cc) {x k : Int} (hx : 0 ≤ x ∧ x ≤ 2147483647) (hk : 1 ≤ k ∧ k ≤ 2147483647) (hdg : decode cc pc = .ok (.idiv, 1)) (kk : ∀ y : Int, y = x / k → W p l e R s m args below meth c H locs cells slots Q (F0 m (pc + 1) ls (.int (iZ y) :: rest))) : W p l e R s m args below meth c H locs cells slots Q (F0 m pc ls (.int (iZ k) :: .int (iZ x) :: rest)) := by
  refine lv_idiv hexec hb hdg (fun h => ?_) ?_
  · have h2 := (iZ_eq (a := k) (b := 0) ⟨by omega, hk.2⟩ (by decide)).mp h
    omega
  · rw [iZ_div hx hk]
    exact kk _ rfl
theorem zv_irem (hexec : p.tables.exec = Jvm.exec) (hb : c.code = cc) {x k : Int} (hx : 0 ≤ x ∧ x ≤ 2147483647) (hk : 1 ≤ k ∧ k ≤ 2147483647) (hdg : decode cc pc = .ok (.irem, 1)) (kk : ∀ y : Int, y = x % k → W p l e R s m args below meth c H locs cells slots Q (F0 m (pc + 1) ls (.int (iZ y) :: rest))) : W p l e R s m args below meth c H locs cells slots Q (F0 m pc ls (.int (iZ k) :: .int (iZ x) :: rest)) := by
  refine lv_irem hexec hb hdg (fun h => ?_) ?_
  · have h2 := (iZ_eq (a := k) (b := 0) ⟨by omega, hk.2⟩ (by decide)).mp h
    omega
  · rw [iZ_div hx hk, iZ_mul, iZ_sub]
    have e : x - x / k * k = x % k := by
      have h3 := Int.emod_add_mul_ediv x k
      have h4 : x / k * k = k * (x / k) := Int.mul_comm _ _
      omega
    rw [e]
    exact kk _ rfl
theorem zv_tableIn (hexec : p.tables.exec = Jvm.exec) (hb : c.code = cc) {dflt lo hi : Int} {offs : Array Int} {len : Nat} {off : Int} {tgt : Nat} {z : Int} (k : Int) (hk : z = k) (hr : -2147483648 ≤ k ∧ k ≤ 2147483647) (hdg : decode cc pc = .ok (.tableswitch dflt lo hi offs, len)) (h1 : ¬ k < lo) (h2 : ¬ hi < k) (ho : offs[(k - lo).toNat]? = some off) (ht : (pc : Int) + off = (tgt : Int)) (kk : W p l e R s m args below meth c H locs cells slots Q (F0 m tgt ls rest)) : W p l e R s m args below meth c H locs cells slots Q (F0 m pc ls (.int (iZ z) :: rest)) := by
  subst hk
  exact lv_tableIn hexec hb hdg (by rw [iZ_toInt hr]; exact h1) (by rw [iZ_toInt hr]; exact h2) (by rw [iZ_toInt hr]; exact ho) ht kk
theorem zv_tableOut (hexec : p.tables.exec = Jvm.exec) (hb : c.code = cc) {dflt lo hi : Int} {offs : Array Int} {len : Nat} {tgt : Nat} {z : Int} (hr : -2147483648 ≤ z ∧ z ≤ 2147483647) (hdg : decode cc pc = .ok (.tableswitch dflt lo hi offs, len)) (h : z < lo ∨ hi < z) (ht : (pc : Int) + dflt = (tgt : Int)) (kk : W p l e R s m args below meth c H locs cells slots Q (F0 m tgt ls rest)) : W p l e R s m args below meth c H locs cells slots Q (F0 m pc ls (.int (iZ z) :: rest)) := lv_tableOut hexec hb hdg (by rw [iZ_toInt hr]; exact h) ht kk
theorem zv_sh11 (hexec : p.tables.exec = Jvm.exec) (hb : c.code = cc) {x : Int} (hx : 0 ≤ x ∧ x < 7400) (hdg : decode cc pc = .ok (.ishr, 1)) (kk : ∀ y : Int, y = x / 2048 → W p l e R s m args below meth c H locs cells slots Q (F0 m (pc + 1) ls (.int (iZ y) :: rest))) : W p l e R s m args below meth c H locs cells slots Q (F0 m pc ls (.int (iZ 11) :: .int (iZ x) :: rest)) := lv_ishr hexec hb hdg (by rw [sh_11' hx]; exact kk _ rfl)
theorem zv_sh8 (hexec : p.tables.exec = Jvm.exec) (hb : c.code = cc) {x : Int} (hx : 0 ≤ x ∧ x < 2048) (hdg : decode cc pc = .ok (.ishr, 1)) (kk : ∀ y : Int, y = x / 256 → W p l e R s m args below meth c H locs cells slots Q (F0 m (pc + 1) ls (.int (iZ y) :: rest))) : W p l e R s m args below meth c H locs cells slots Q (F0 m pc ls (.int (iZ 8) :: .int (iZ x) :: rest)) := lv_ishr hexec hb hdg (by rw [sh_8' hx]; exact kk _ rfl)
theorem zv_sl11 (hexec : p.tables.exec = Jvm.exec) (hb : c.code = cc) {x : Int} (hx : 0 ≤ x ∧ x < 256) (hdg : decode cc pc = .ok (.ishl, 1)) (kk : ∀ y : Int, y = x * 2048 → W p l e R s m args below meth c H locs cells slots Q (F0 m (pc + 1) ls (.int (iZ y) :: rest))) : W p l e R s m args below meth c H locs cells slots Q (F0 m pc ls (.int (iZ 11) :: .int (iZ x) :: rest)) := lv_ishl hexec hb hdg (by rw [sl_11' hx]; exact kk _ rfl)
end ZR
theorem zb_cpy {P : Int → Prop} {n0 n1 : Nat} {g0 g1 : Nat → Int} {sp dp n : Nat} (h0 : ∀ j, j < n0 → P (g0 j)) (h1 : ∀ j, j < n1 → P (g1 j)) (h : sp + n ≤ n0) : ∀ j, j < n1 → P (va_cpy g0 g1 sp dp n j) := by
  intro j hj
  unfold va_cpy
  split
  · exact h0 _ (by omega)
  · exact h1 j hj

