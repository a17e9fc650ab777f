def adS (x : Int) : Int := if 248 ≤ x then x - 256 else x
def SaR (t : Nat → Int) (k z : Int) : Prop := z = adS (t k.toNat)
theorem SaR_a {t : Nat → Int} {k x : Int} (e : x = t k.toNat) (h : x < 248) : SaR t k x := by
  unfold SaR adS
  rw [← e, if_neg (by omega)]
theorem SaR_b {t : Nat → Int} {k x y z : Int} (e : x = t k.toNat) (e2 : y = t k.toNat) (h : 248 ≤ x) (hz : z = y - 256) : SaR t k z := by
  unfold SaR adS
  rw [← e2, if_pos (by omega), hz]
def SeJ (t : Nat → Int) (w k is : Int) : Prop := (∃ i, 0 ≤ i ∧ k = 4 * i) ∧ (is = 1 → ∀ j, 0 ≤ j → 4 * j < k → adS (t (4 * j).toNat) < w)
theorem SeJ_0 {t : Nat → Int} {w is : Int} : SeJ t w 0 is := ⟨⟨0, by omega, by omega⟩, fun _ j a b => by omega⟩
theorem SeJ_no {t : Nat → Int} {w k is : Int} (H : SeJ t w k is) : SeJ t w (k + 4) 0 := by
  obtain ⟨⟨i, i0, e⟩, _⟩ := H
  exact ⟨⟨i + 1, by omega, by omega⟩, fun q => by omega⟩
theorem SeJ_yes {t : Nat → Int} {w k is z : Int} (H : SeJ t w k is) (h : is = 1) (S : SaR t k z) (hz : z < w) : SeJ t w (k + 4) 1 := by
  obtain ⟨⟨i, i0, e⟩, f⟩ := H
  refine ⟨⟨i + 1, by omega, by omega⟩, fun _ j j0 j1 => ?_⟩
  by_cases q : j = i
  · subst q
    rw [← e]
    unfold SaR at S
    omega
  · exact f h j j0 (by omega)
theorem SeJ_at {t : Nat → Int} {w k is n a z : Int} (H : SeJ t w k is) (h : is = 1) (hk : n ≤ k) (S : SaR t a z) (j : Int) (j0 : 0 ≤ j) (j1 : 4 * j < n) (ha : a = 4 * j) : z < w := by
  subst ha
  have := H.2 h j j0 (by omega)
  unfold SaR at S
  omega
def RwI (rs : Nat → Int) (m : Int) : Prop := ∀ k, 0 ≤ k → k < m → -8 ≤ rs (3 * k).toNat ∧ rs (3 * k).toNat ≤ 159
theorem RwI_0 {rs : Nat → Int} {m : Int} (h : m ≤ 0) : RwI rs m := fun k a b => by omega
theorem RwI_step {a b c d : Nat → Int} {k i j l x y z : Int} (H : RwI a k) (k0 : 0 ≤ k) (e1 : b = updI a i.toNat x) (hi : i = 3 * k) (hx : -8 ≤ x ∧ x ≤ 159) (e2 : c = updI b j.toNat y) (hj : j = 3 * k + 1) (e3 : d = updI c l.toNat z) (hl : l = 3 * k + 2) : RwI d (k + 1) := by
  intro q q0 q1
  rw [upd_ne e3 (by omega), upd_ne e2 (by omega)]
  by_cases s : q = k
  · subst s
    rw [upd_eq e1 (by omega)]
    exact hx
  · rw [upd_ne e1 (by omega)]
    exact H q q0 (by omega)
theorem RwI_at {rs : Nat → Int} {m k i x : Int} (H : RwI rs m) (k0 : 0 ≤ k) (k1 : k < m) (hx : x = rs i.toNat) (hi : i = 3 * k) : -8 ≤ x ∧ x ≤ 159 := by
  subst hi
  have := H k k0 k1
  omega
theorem RpK_zero {cnt : Int} {g sr r : Nat → Int} {w : Int} (H : NwI cnt g sr r w) : RpK g sr r w 0 := by
  obtain ⟨lv, m, A⟩ := LvE_ex H
  have m0 : 0 ≤ m := A.1
  have u0 := (ub_max (lv := aI lv) m.toNat).1
  by_cases z : r (0 : Int).toNat = 0
  · exact ⟨lv, m, 10 + 2 * m, A, Or.inl ⟨z, rfl⟩, by omega, by omega⟩
  · exact ⟨lv, m, 10 + ub (aI lv) m.toNat + m, A, Or.inr ⟨z, rfl⟩, by omega, by omega⟩
def RpH (cnt : Int) (g sr r v lv : Nat → Int) (w m bl k : Int) : Prop := (k = 0 → VeN r v) ∧ (1 ≤ k → RpL cnt g sr r v lv w m bl k)
theorem RpH_0 {cnt : Int} {g sr r v lv : Nat → Int} {w m bl : Int} (R : RpZ cnt g sr r v lv w m bl 0) : RpH cnt g sr r v lv w m bl 0 := ⟨fun _ => R.1 (by omega), fun h => by omega⟩
theorem RpH_n {cnt : Int} {g sr r v lv : Nat → Int} {w m bl k : Int} (R : RpZ cnt g sr r v lv w m bl k) (k0 : 0 ≤ k) : RpH cnt g sr r v lv w m bl (k + 1) := ⟨fun h => by omega, fun _ => R⟩
theorem RpZ_v {cnt : Int} {g sr r v lv : Nat → Int} {w m bl k : Int} (H : RpH cnt g sr r v lv w m bl k) (h : k = 0) : RpZ cnt g sr r v lv w m bl k := by
  subst h
  exact RpL_init (H.1 rfl)
theorem RpZ_z {cnt : Int} {g sr r v lv : Nat → Int} {w m bl k : Int} (Z : StZ cnt g sr r v lv w m bl k) (k0 : 1 ≤ k) : RpZ cnt g sr r v lv w m bl k := RpL_z Z k0
theorem RowS_box {r : Nat → Int} (R : RowS r) {a : Int} (h0 : -8 ≤ a) (h1 : a < 160) : (0 ≤ r (2 * a + 102).toNat ∧ r (2 * a + 102).toNat ≤ 3) ∧ (-1000 ≤ r (2 * a + 103).toNat ∧ r (2 * a + 103).toNat ≤ 999) := by
  have k := RowS_at R h0 h1
  unfold WdOK at k
  omega
