theorem HdOr {cnt : Int} {fl h : Nat → Int} {lim w b z : Int} (H : VM cnt fl h lim w) (hz : z = h (b + 8).toNat) (hb : b = -1 ∨ (lim ≤ b ∧ b < w ∧ 5096 ≤ h (b + 8).toNat)) : (b = -1 ∧ z < 5096) ∨ (lim ≤ b ∧ 5096 ≤ z ∧ z < 5096 + cnt ∧ cnt ≤ 6 ∧ 1 ≤ fl (z - 5096).toNat ∧ fl (z - 5096).toNat ≤ 6 ∧ b + fl (z - 5096).toNat < w) := by
  rcases hb with q | ⟨q1, q2, q3⟩
  · left
    refine ⟨q, ?_⟩
    have h1 := Pl_lt (VM_reg H (r := b) (by omega) (by omega) hz) H.1.2.2.1
    exact h1
  · right
    have h1 := VM_at H q1 q2 q3
    rw [← hz] at h1
    exact ⟨q1, by omega, h1.1, h1.2.1, h1.2.2.1, h1.2.2.2.1, h1.2.2.2.2⟩
