section ZL
variable {p : Program} {l : Launch} {e : Env} {R : Room} {s : State} {m : MethodId} {args : Array Value} {below : List Frame} {meth : Method} {c : Code} {H : Heap} {locs : List Loc} {cells slots : Nat} {Q : State → Prop}
variable {cc : ByteArray} {pc : Nat} {ls : Array Slot} {rest : List Value}
theorem zv_l2i (hexec : p.tables.exec = Jvm.exec) (hb : c.code = cc) {x : Int64} (k : Int) (h : 0 ≤ x.toInt ∧ x.toInt < k) (hdg : decode cc pc = .ok (.l2i, 1)) (kk : ∀ y : Int, 0 ≤ y → y < k → W p l e R s m args below meth c H locs cells slots Q (F0 m (pc + 1) ls (.int (iZ y) :: rest))) : W p l e R s m args below meth c H locs cells slots Q (F0 m pc ls (.long x :: rest)) := lv_l2i hexec hb (v := iZ x.toInt) hdg (Int32.ofInt_int64ToInt x).symm (kk _ h.1 h.2)
theorem zv_mmax (hexec : p.tables.exec = Jvm.exec) (hb : c.code = cc) (hml : c.maxLocals = ls.size) {own : String} {index : Nat} (hown : s.vm.findClass own = some m.cls) (hlink : (Cond.methodLink own index Lib.Math.max.name).before args s = true) (hstat : (Cond.static Lib.Math.max.name).before args s = true) (hini : (Cond.initialized "java/lang/Math").before args s = true) (hcode : (Cond.code Lib.Math.max.name Lib.Math.max.code 2 (some .int)).before args s = true) (hframes : 1 ≤ R.frames) (hlocals : (rest.map fun v => v.category).sum + 13 ≤ R.locals) (hc : cells ≤ R.cells) (hs : slots ≤ R.slots) {x y : Int} (hx : -2147483648 ≤ x ∧ x ≤ 2147483647) (hy : -2147483648 ≤ y ∧ y ≤ 2147483647) (hdg : decode cc pc = .ok (.invokestatic index, 3))
    (kk : ∀ z : Int, (z = x ∧ y ≤ x) ∨ (z = y ∧ x < y) → W p l e R s m args below meth c H locs cells slots Q (F0 m (pc + 3) ls (.int (iZ z) :: rest))) : W p l e R s m args below meth c H locs cells slots Q (F0 m pc ls (.int (iZ y) :: .int (iZ x) :: rest)) := by
  refine va_mmax hexec hb hml hown hlink hstat hini hcode hframes hlocals hc hs hdg ?_
  by_cases q : iZ x < iZ y
  · rw [if_pos q]
    exact kk y (Or.inr ⟨rfl, (iZ_lt hx hy).mp q⟩)
  · rw [if_neg q]
    have q2 : ¬ x < y := fun z => q ((iZ_lt hx hy).mpr z)
    exact kk x (Or.inl ⟨rfl, by omega⟩)
theorem zv_mmin (hexec : p.tables.exec = Jvm.exec) (hb : c.code = cc) (hml : c.maxLocals = ls.size) {own : String} {index : Nat} (hown : s.vm.findClass own = some m.cls) (hlink : (Cond.methodLink own index Lib.Math.min.name).before args s = true) (hstat : (Cond.static Lib.Math.min.name).before args s = true) (hini : (Cond.initialized "java/lang/Math").before args s = true) (hcode : (Cond.code Lib.Math.min.name Lib.Math.min.code 2 (some .int)).before args s = true) (hframes : 1 ≤ R.frames) (hlocals : (rest.map fun v => v.category).sum + 13 ≤ R.locals) (hc : cells ≤ R.cells) (hs : slots ≤ R.slots) {x y : Int} (hx : -2147483648 ≤ x ∧ x ≤ 2147483647) (hy : -2147483648 ≤ y ∧ y ≤ 2147483647) (hdg : decode cc pc = .ok (.invokestatic index, 3))
    (kk : ∀ z : Int, (z = y ∧ y < x) ∨ (z = x ∧ x ≤ y) → W p l e R s m args below meth c H locs cells slots Q (F0 m (pc + 3) ls (.int (iZ z) :: rest))) : W p l e R s m args below meth c H locs cells slots Q (F0 m pc ls (.int (iZ y) :: .int (iZ x) :: rest)) := by
  refine va_mmin hexec hb hml hown hlink hstat hini hcode hframes hlocals hc hs hdg ?_
  by_cases q : iZ y < iZ x
  · rw [if_pos q]
    exact kk y (Or.inl ⟨rfl, (iZ_lt hy hx).mp q⟩)
  · rw [if_neg q]
    have q2 : ¬ y < x := fun z => q ((iZ_lt hy hx).mpr z)
    exact kk x (Or.inr ⟨rfl, by omega⟩)
end ZL
theorem l_and (a : Int64) : 0 ≤ (a &&& 2147483647).toInt ∧ (a &&& 2147483647).toInt ≤ 2147483647 := by
  have hle : ((a &&& 2147483647).toBitVec).toNat ≤ 2147483647 := by
    rw [Int64.toBitVec_and, BitVec.toNat_and]
    exact Nat.and_le_right
  have h4 : (a &&& 2147483647).toInt = (a &&& 2147483647).toBitVec.toInt := rfl
  rw [h4, BitVec.toInt_eq_toNat_cond]
  split <;> omega
theorem i2l_toInt {p : Int} (h : -2147483648 ≤ p ∧ p ≤ 2147483647) : ((iZ p).toInt64).toInt = p := by
  rw [Int32.toInt_toInt64, iZ_toInt h]
theorem i2l_ne {p : Int} {m : Int64} (hm : m = (iZ p).toInt64) (h : 0 < p ∧ p ≤ 2147483647) : ¬ m = 0 := by
  intro q
  have h1 := i2l_toInt (p := p) ⟨by omega, h.2⟩
  rw [← hm, q] at h1
  have h2 : (0 : Int64).toInt = 0 := rfl
  omega
theorem l_div {x k : Int64} {n : Int} (hx : 0 ≤ x.toInt) (hk : k.toInt = n) (hn : 0 < n) : (x / k).toInt = x.toInt / n := by
  rw [Int64.toInt_div_of_ne_right _ _ (by intro q; rw [q] at hk; have h3 : (-1 : Int64).toInt = -1 := by decide
                                          omega), hk]
  exact Int.tdiv_eq_ediv_of_nonneg hx
theorem l_rem {x k : Int64} {n : Int} (hx : 0 ≤ x.toInt ∧ x.toInt < 9223372036854775808) (hk : k.toInt = n) (hn : 0 < n) : (x - x / k * k).toInt = x.toInt % n := by
  have h1 := l_div hx.1 hk hn
  have h2 : 0 ≤ x.toInt / n := Int.ediv_nonneg hx.1 (by omega)
  have h3 : x.toInt / n * n ≤ x.toInt := Int.ediv_mul_le _ (by omega)
  have h4 : 0 ≤ x.toInt / n * n := Int.mul_nonneg h2 (by omega)
  have h5 : x.toInt - x.toInt / n * n = x.toInt % n := by
    have h6 := Int.emod_add_mul_ediv x.toInt n
    have h7 : x.toInt / n * n = n * (x.toInt / n) := Int.mul_comm _ _
    omega
  have h8 : (x / k * k).toInt = x.toInt / n * n := by
    rw [Int64.toInt_mul, h1, hk]
    exact Int.bmod_eq_of_le (by omega) (by omega)
  rw [Int64.toInt_sub, h8, h5]
  have h9 : 0 ≤ x.toInt % n := Int.emod_nonneg _ (by omega)
  have h10 : x.toInt % n ≤ x.toInt := by omega
  exact Int.bmod_eq_of_le (by omega) (by omega)
theorem dr_ok {a w1 w2 m r : Int64} {p : Int} (h1 : w1 = a &&& 2147483647) (h2 : w2 = w1 / 64) (hm : m = (iZ p).toInt64) (hp : 0 < p ∧ p ≤ 2147483647) (hr : r = w2 - w2 / m * m) : 0 ≤ r.toInt ∧ r.toInt < p := by
  have ha := l_and a
  rw [← h1] at ha
  have h64 : (64 : Int64).toInt = 64 := by decide
  have hd := l_div ha.1 h64 (by omega)
  rw [← h2] at hd
  have h3 : 0 ≤ w2.toInt := by omega
  have hk : m.toInt = p := by rw [hm]; exact i2l_toInt ⟨by omega, hp.2⟩
  have h4 := l_rem (x := w2) ⟨h3, by omega⟩ hk hp.1
  rw [hr, h4]
  exact ⟨Int.emod_nonneg _ (by omega), Int.emod_lt_of_pos _ hp.1⟩
theorem VM_set {cnt : Int} {fl h h2 : Nat → Int} {lim w a v i : Int} (H : VM cnt fl h lim w) (ha : (-8 ≤ a ∧ a < 0) ∨ (lim ≤ a ∧ a < w ∧ h (a + 8).toNat < 5096)) (hv : Pl lim w v) (e : h2 = updI h i.toNat v) (hi : i = a + 8) : VM cnt fl h2 lim w := by
  subst hi
  subst e
  obtain ⟨b0, b1, b2, b3⟩ := H
  have hv5 := Pl_lt hv b0.2.2.1
  have ha8 : -8 ≤ a := by omega
  have same : ∀ x, Dm x → x ≠ a → mI (updI h (a + 8).toNat v) x = mI h x := fun x hx hn => mI_upd_ne ha8 hx hn
  have at_ : mI (updI h (a + 8).toNat v) a = v := mI_upd_eq ha8
  have old : 0 ≤ a → mI h a < 5096 := fun h0 => by rcases ha with q | q; omega; exact q.2.2
  refine ⟨b0, fun r r0 r1 => ?_, fun x x0 x1 => ?_, fun hlt => ?_⟩
  · by_cases q : r = a
    · rw [q, at_]; exact hv
    · rw [same r ⟨r0, by omega⟩ q]; exact b1 r r0 r1
  · by_cases q : x = a
    · rw [q, at_]; exact Or.inl hv
    · rw [same x ⟨by omega, by omega⟩ q]
      rcases b2 x x0 x1 with z | ⟨d1, d2, d3, d4, d5, d6⟩
      · exact Or.inl z
      · right
        unfold LHd
        rw [same x ⟨by omega, by omega⟩ q]
        refine ⟨d1, d2, d3, d4, fun j j0 j1 => ?_, fun hl => ?_⟩
        · by_cases q2 : x + j = a
          · rw [q2, at_]; exact hv5
          · rw [same _ ⟨by omega, by omega⟩ q2]; exact d5 j j0 j1
        · have hn := d6 hl
          by_cases q2 : x + aI fl (mI h x - 5096) + 1 = a
          · rw [q2] at hn; have := old (by omega); omega
          · rw [same _ ⟨by omega, by omega⟩ q2]; exact hn
  · have hn := b3 hlt
    by_cases q : lim = a
    · rw [q] at hn; have := old (by omega); omega
    · rw [same lim ⟨by omega, by omega⟩ q]; exact hn
theorem VM_reg {cnt : Int} {fl h : Nat → Int} {lim w r x : Int} (H : VM cnt fl h lim w) (h0 : -8 ≤ r) (h1 : r < 0) (hx : x = h (r + 8).toNat) : Pl lim w x := by
  rw [hx]; exact H.2.1 r h0 h1
theorem VM_word {cnt : Int} {fl h : Nat → Int} {lim w a x : Int} (H : VM cnt fl h lim w) (h0 : lim ≤ a) (h1 : a < w) (hx : x = h (a + 8).toNat) (hlt : x < 5096) : Pl lim w x := by
  rw [hx]
  rcases H.2.2.1 a h0 h1 with z | z
  · exact z
  · have h3 := z.1
    have h4 : mI h a = h (a + 8).toNat := rfl
    omega
theorem VM_fld {cnt : Int} {fl h : Nat → Int} {lim w b j y : Int} (H : VM cnt fl h lim w) (h0 : lim ≤ b) (h1 : b < w) (hh : 5096 ≤ h (b + 8).toNat) (j0 : 1 ≤ j) (j1 : j ≤ fl (h (b + 8).toNat - 5096).toNat) (hy : y = b + j) : h (y + 8).toNat < 5096 := by
  subst hy
  rcases H.2.2.1 b h0 h1 with z | ⟨_, _, _, _, d5, _⟩
  · have h3 := Pl_lt z H.1.2.2.1
    have h4 : mI h b = h (b + 8).toNat := rfl
    omega
  · exact d5 j j0 j1
def PlG (lim w v : Int) : Prop := Pl lim w v
