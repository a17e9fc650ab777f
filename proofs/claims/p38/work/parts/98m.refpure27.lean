def HkP (k k2 : Int) (g g2 : Nat → Int) (pc pc2 : Int) : Prop := pc2 = 0 ∨ (k2 = k ∧ g2 = g ∧ pc2 = pc)
theorem PoolOK_h {kI : ClassId} {cnt cnt2 : Int} {fl fl2 : Nat → Int} {f : Nat → Option Nat} {pc pc2 pn : Int} {Q : Nat → va_W} (H : PoolOK kI cnt fl f pc pn Q) (h : HkP cnt cnt2 fl fl2 pc pc2) (h0 : 0 ≤ pn) : PoolOK kI cnt2 fl2 f pc2 pn Q := by
  rcases h with h | ⟨h1, h2, h3⟩
  · rw [h]
    exact PoolOK_0 H h0
  · rw [h1, h2, h3]
    exact H
theorem aZ_norm (g : Nat → Int) : ∃ g2 : Nat → Int, (∀ j : Nat, -2147483648 ≤ g2 j ∧ g2 j ≤ 2147483647) ∧ aZ g2 = aZ g := by
  refine ⟨fun j => (iZ (g j)).toInt, fun j => ?_, funext (fun j => ?_)⟩
  · have h := Int32.le_toInt (iZ (g j))
    have h2 := Int32.toInt_lt (iZ (g j))
    show -2147483648 ≤ (iZ (g j)).toInt ∧ (iZ (g j)).toInt ≤ 2147483647
    omega
  · exact Int32.ofInt_toInt (iZ (g j))
theorem ofNat_iZ (L : Nat) : Int32.ofNat L = iZ (L : Int) := by
  unfold iZ
  first
  | exact (Int32.ofInt_natCast L).symm
  | rfl
  | simp
theorem sw41 {z : Int} (h0 : 0 ≤ z) (h1 : z ≤ 63) : z = 0 ∨ z = 1 ∨ z = 2 ∨ z = 3 ∨ z = 4 ∨ z = 5 ∨ z = 6 ∨ z = 7 ∨ z = 8 ∨ z = 9 ∨ z = 10 ∨ z = 11 ∨ z = 12 ∨ z = 13 ∨ z = 14 ∨ z = 15 ∨ z = 16 ∨ z = 17 ∨ z = 18 ∨ z = 19 ∨ z = 20 ∨ z = 21 ∨ z = 22 ∨ z = 23 ∨ z = 24 ∨ z = 25 ∨ z = 26 ∨ z = 27 ∨ z = 28 ∨ z = 29 ∨ z = 30 ∨ z = 31 ∨ z = 32 ∨ z = 33 ∨ z = 34 ∨ z = 35 ∨ z = 36 ∨ z = 37 ∨ z = 38 ∨ z = 39 ∨ z = 40 ∨ (z < 0 ∨ 40 < z) := by
  by_cases q : 40 < z
  · omega
  · by_cases q2 : 20 < z
    · omega
    · omega
