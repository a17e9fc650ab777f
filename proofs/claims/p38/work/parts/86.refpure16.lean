def AsK (z : Int) (g sr r co fo live : Nat → Int) (w n : Int) (lv gt ba bw : Nat → Int) (m bl : Int) : Prop := z = 1 → (LyS co fo r w n ∧ MkS g sr fo r live n ∧ MkF g sr fo r live n (-1) (-1) ∧ LvP g sr r lv w m ∧ GtT gt lv w m ∧ BkT ba bw lv m bl) ∧ m ≤ w ∧ r (3 : Int).toNat = 0
theorem AsK_0 {z : Int} {g sr r co fo live : Nat → Int} {w n : Int} {lv gt ba bw : Nat → Int} {m bl : Int} (h : z = 0) : AsK z g sr r co fo live w n lv gt ba bw m bl := fun q => by omega
theorem AsK_1 {z : Int} {g sr r co fo live : Nat → Int} {w n : Int} {lv gt ba bw : Nat → Int} {m bl : Int} (a : LyS co fo r w n) (b : MkS g sr fo r live n) (c : MkF g sr fo r live n (-1) (-1)) (d : LvP g sr r lv w m) (e : GtT gt lv w m) (f : BkT ba bw lv m bl) (h1 : m ≤ w) (h2 : r (3 : Int).toNat = 0) : AsK z g sr r co fo live w n lv gt ba bw m bl := fun _ => ⟨⟨a, b, c, d, e, f⟩, h1, h2⟩
theorem AsK_z {z y : Int} {g sr r co fo live : Nat → Int} {w n : Int} {lv gt ba bw : Nat → Int} {m bl : Int} (H : AsK z g sr r co fo live w n lv gt ba bw m bl) (h : z = 1) : AsK y g sr r co fo live w n lv gt ba bw m bl := fun _ => H h
theorem LvE_len {M : Int → Int} {fl sr lv : Nat → Int} {lim w m : Int} (A : LvE M fl sr lim w lv m) (h : lim ≤ w) : m ≤ w - lim := by
  have k : ∀ n : Nat, (n : Int) < m → lim + n ≤ aI lv n := by
    intro n
    induction n with
    | zero => intro h1; have := (A.2.1 0 (by omega) (by omega)).1; simpa using this
    | succ n ih =>
      intro h1
      have h2 := ih (by omega)
      have h3 := A.2.2.1 (n : Int) ((n : Int) + 1) (by omega) (by omega) (by omega)
      have e : ((n + 1 : Nat) : Int) = (n : Int) + 1 := by omega
      rw [e]
      omega
  by_cases q : 1 ≤ m
  · have h1 := k (m - 1).toNat (by omega)
    have h2 := (A.2.1 (m - 1) (by omega) (by omega)).2.1
    rw [(by omega : ((m - 1).toNat : Int) = m - 1)] at h1
    omega
  · omega
theorem RpK_box {cnt : Int} {g sr r : Nat → Int} {w k : Int} (H : NwI cnt g sr r w) (K : RpK g sr r w k) : 0 ≤ k ∧ k ≤ 330 := by
  obtain ⟨lv, m, n, a, b, c, d⟩ := K
  have v := VM_box H.2.1
  have l := LvE_len a v.2.1
  have u := (ub_max (lv := aI lv) m.toNat).2
  have p : 0 ≤ m := a.1
  unfold StpN at b
  omega
