def SoR (r lv : Nat → Int) (w m b k z : Int) : Prop := (r (0 : Int).toNat = 0 → 2 ≤ k → k ≤ 9 → z = k - 10) ∧ (r (0 : Int).toNat = 0 → 10 ≤ k → k ≤ 9 + m → z = lv (k - 10).toNat) ∧ (r (0 : Int).toNat = 0 → 10 + m ≤ k → k ≤ 9 + 2 * m → z = lv (9 + 2 * m - k).toNat) ∧ (r (0 : Int).toNat = 1 → 2 ≤ k → k ≤ 1 + b → z = b + 1 - k) ∧ (r (0 : Int).toNat = 1 → 2 + b ≤ k → k ≤ 9 + b → z = k - 10 - b) ∧ (r (0 : Int).toNat = 1 → 10 + b ≤ k → k ≤ 9 + b + m → z = w - m + k - 10 - b)
theorem SoR_2 {r lv : Nat → Int} {w m b k z y : Int} (_ : 0 ≤ m) (_ : 0 ≤ b) (H : SsR r m b k z) (h : z = 2) (hy : y = k - 10) : SoR r lv w m b k y := by
  have q := SsR_2 H h
  exact ⟨fun _ _ _ => hy, fun _ _ _ => by omega, fun _ _ _ => by omega, fun _ _ _ => by omega, fun _ _ _ => by omega, fun _ _ _ => by omega⟩
theorem SoR_3 {r lv : Nat → Int} {w m b k z y i : Int} (_ : 0 ≤ m) (_ : 0 ≤ b) (H : SsR r m b k z) (h : z = 3) (hy : y = lv i.toNat) (hi : i = k - 10) : SoR r lv w m b k y := by
  have q := SsR_3 H h
  subst hi
  exact ⟨fun _ _ _ => by omega, fun _ _ _ => hy, fun _ _ _ => by omega, fun _ _ _ => by omega, fun _ _ _ => by omega, fun _ _ _ => by omega⟩
theorem SoR_4 {r lv : Nat → Int} {w m b k z y i : Int} (_ : 0 ≤ m) (_ : 0 ≤ b) (H : SsR r m b k z) (h : z = 4) (hy : y = lv i.toNat) (hi : i = 9 + 2 * m - k) : SoR r lv w m b k y := by
  have q := SsR_4 H h
  subst hi
  exact ⟨fun _ _ _ => by omega, fun _ _ _ => by omega, fun _ _ _ => hy, fun _ _ _ => by omega, fun _ _ _ => by omega, fun _ _ _ => by omega⟩
theorem SoR_5 {r lv : Nat → Int} {w m b k z y : Int} (_ : 0 ≤ m) (_ : 0 ≤ b) (H : SsR r m b k z) (h : z = 5) (hy : y = b + 1 - k) : SoR r lv w m b k y := by
  have q := SsR_5 H h
  exact ⟨fun _ _ _ => by omega, fun _ _ _ => by omega, fun _ _ _ => by omega, fun _ _ _ => hy, fun _ _ _ => by omega, fun _ _ _ => by omega⟩
theorem SoR_6 {r lv : Nat → Int} {w m b k z y : Int} (_ : 0 ≤ m) (_ : 0 ≤ b) (H : SsR r m b k z) (h : z = 6) (hy : y = k - 10 - b) : SoR r lv w m b k y := by
  have q := SsR_6 H h
  exact ⟨fun _ _ _ => by omega, fun _ _ _ => by omega, fun _ _ _ => by omega, fun _ _ _ => by omega, fun _ _ _ => hy, fun _ _ _ => by omega⟩
theorem SoR_7 {r lv : Nat → Int} {w m b k z y : Int} (_ : 0 ≤ m) (_ : 0 ≤ b) (H : SsR r m b k z) (h : z = 7) (hy : y = w - m + k - 10 - b) : SoR r lv w m b k y := by
  have q := SsR_7 H h
  exact ⟨fun _ _ _ => by omega, fun _ _ _ => by omega, fun _ _ _ => by omega, fun _ _ _ => by omega, fun _ _ _ => by omega, fun _ _ _ => hy⟩
theorem SoR_0 {r lv : Nat → Int} {w m b k z y : Int} (_ : 0 ≤ m) (_ : 0 ≤ b) (H : SsR r m b k z) (h : z ≤ 1 ∨ 8 ≤ z) : SoR r lv w m b k y := by
  have q : k = 1 ∨ (r (0 : Int).toNat = 0 ∧ k = 10 + 2 * m) ∨ (r (0 : Int).toNat = 1 ∧ k = 10 + b + m) := by
    rcases H with x | x | x | x | x | x | x | x
    all_goals omega
  exact ⟨fun _ _ _ => by omega, fun _ _ _ => by omega, fun _ _ _ => by omega, fun _ _ _ => by omega, fun _ _ _ => by omega, fun _ _ _ => by omega⟩
