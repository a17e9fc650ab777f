theorem lg_lt {x y : Int64} : lg_cmp x y < 0 ↔ x.toInt < y.toInt := by
  rw [← Int64.lt_iff_toInt_lt]
  unfold lg_cmp
  by_cases h1 : y < x
  · have h2 : ¬ x < y := fun q => by rw [Int64.lt_iff_toInt_lt] at h1 q; omega
    simp only [h1, h2, if_true, iff_false]
    decide
  · by_cases h2 : x < y
    · simp only [h1, h2, if_false, if_true, iff_true]
      first | decide | (split <;> first | decide | (rename_i h3; exfalso; subst h3; rw [Int64.lt_iff_toInt_lt] at h2; omega))
    · simp only [h1, h2, if_false, iff_false]
      first | decide | (split <;> first | decide | (rename_i h3; exfalso; apply h3; apply Int64.toInt_inj.mp; rw [Int64.lt_iff_toInt_lt] at h1 h2; omega))
theorem lg_gt {x y : Int64} : 0 < lg_cmp x y ↔ y.toInt < x.toInt := by
  rw [← Int64.lt_iff_toInt_lt]
  unfold lg_cmp
  by_cases h1 : y < x
  · simp only [h1, if_true, iff_true]
    decide
  · simp only [h1, if_false, iff_false]
    first | decide | (split <;> decide)
theorem i2lT {w : Int64} {x : Int} (e : w = (iZ x).toInt64) (h : -2147483648 ≤ x ∧ x ≤ 2147483647) : w.toInt = x := by
  rw [e, Int32.toInt_toInt64, iZ_toInt h]
def enc (r : Nat → Int) : Nat → Int := fun j => 2048 * r (2 * j + 86) + 1000 + r (2 * j + 87)
theorem enc_at {r : Nat → Int} {x : Int} (h : -8 ≤ x) : enc r (x + 8).toNat = 2048 * r (2 * x + 102).toNat + 1000 + r (2 * x + 103).toNat := by
  unfold enc
  rw [(by omega : 2 * (x + 8).toNat + 86 = (2 * x + 102).toNat), (by omega : 2 * (x + 8).toNat + 87 = (2 * x + 103).toNat)]
def HldR (r r2 : Nat → Int) (a s n : Int) : Prop := (∀ j : Nat, j < 86 → r2 j = r j) ∧ (r2 (2 * a + 102).toNat = s ∧ r2 (2 * a + 103).toNat = n) ∧ ∀ x, Dm x → x ≠ a → r2 (2 * x + 102).toNat = r (2 * x + 102).toNat ∧ r2 (2 * x + 103).toNat = r (2 * x + 103).toNat
theorem HldR_mk {r r1 r2 : Nat → Int} {a s n i k : Int} (e1 : r1 = updI r i.toNat s) (hi : i = 2 * a + 102) (e2 : r2 = updI r1 k.toNat n) (hk : k = 2 * a + 103) (ha : -8 ≤ a) : HldR r r2 a s n := by
  subst hi
  subst hk
  subst e1
  subst e2
  refine ⟨fun j hj => ?_, ⟨?_, ?_⟩, fun x hx hn => ⟨?_, ?_⟩⟩
  · unfold updI; rw [if_neg (by omega), if_neg (by omega)]
  · unfold updI; rw [if_neg (by omega), if_pos rfl]
  · unfold updI; rw [if_pos rfl]
  · have := hx.1; unfold updI; rw [if_neg (by omega), if_neg (by omega)]
  · have := hx.1; unfold updI; rw [if_neg (by omega), if_neg (by omega)]
theorem HldR_enc {r r2 : Nat → Int} {a s n : Int} (H : HldR r r2 a s n) (ha : -8 ≤ a ∧ a < 160) : ∀ x, Dm x → enc r2 (x + 8).toNat = updI (enc r) (a + 8).toNat (2048 * s + 1000 + n) (x + 8).toNat := by
  intro x hx
  have hx1 := hx.1
  unfold updI
  by_cases e : x = a
  · subst e
    rw [if_pos rfl, enc_at hx1, H.2.1.1, H.2.1.2]
  · rw [if_neg (by omega), enc_at hx1, enc_at hx1, (H.2.2 x hx e).1, (H.2.2 x hx e).2]
def WdOK (s n : Int) : Prop := (s = 0 ∧ -1000 ≤ n ∧ n ≤ 999) ∨ (s = 1 ∧ -1 ≤ n ∧ n ≤ 159) ∨ (s = 2 ∧ 0 ≤ n ∧ n ≤ 5) ∨ (s = 3 ∧ -8 ≤ n ∧ n ≤ 159)
def RowS (r : Nat → Int) : Prop := ∀ x, Dm x → WdOK (r (2 * x + 102).toNat) (r (2 * x + 103).toNat)
theorem RowS_hold {r r2 : Nat → Int} {a s n : Int} (R : RowS r) (H : HldR r r2 a s n) (h : WdOK s n) : RowS r2 := by
  intro x hx
  by_cases e : x = a
  · subst e
    rw [H.2.1.1, H.2.1.2]; exact h
  · rw [(H.2.2 x hx e).1, (H.2.2 x hx e).2]; exact R x hx
theorem VM_cong {cnt : Int} {fl h h2 : Nat → Int} {lim w : Int} (H : VM cnt fl h lim w) (e : ∀ x, Dm x → h2 (x + 8).toNat = h (x + 8).toNat) : VM cnt fl h2 lim w := by
  obtain ⟨b0, b1, b2, b3⟩ := H
  have same : ∀ x, Dm x → mI h2 x = mI h x := e
  refine ⟨b0, fun r r0 r1 => ?_, fun a a0 a1 => ?_, fun hlt => ?_⟩
  · rw [same r ⟨r0, by omega⟩]; exact b1 r r0 r1
  · rw [same a ⟨by omega, by omega⟩]
    rcases b2 a a0 a1 with z | ⟨d1, d2, d3, d4, d5, d6⟩
    · exact Or.inl z
    · right
      unfold LHd
      rw [same a ⟨by omega, by omega⟩]
      refine ⟨d1, d2, d3, d4, fun j j0 j1 => ?_, fun hl => ?_⟩
      · rw [same _ ⟨by omega, by omega⟩]; exact d5 j j0 j1
      · rw [same _ ⟨by omega, by omega⟩]; exact d6 hl
  · rw [same lim ⟨by omega, by omega⟩]; exact b3 hlt
theorem VM_hold {cnt : Int} {fl r r2 : Nat → Int} {lim w a s n : Int} (V : VM cnt fl (enc r) lim w) (H : HldR r r2 a s n) (ha : (-8 ≤ a ∧ a < 0) ∨ (lim ≤ a ∧ a < w ∧ enc r (a + 8).toNat < 5096)) (hv : Pl lim w (2048 * s + 1000 + n)) : VM cnt fl (enc r2) lim w := by
  have hb := VM_box V
  exact VM_cong (VM_set (a := a) (i := a + 8) V ha hv rfl rfl) (HldR_enc H (by omega))
def TkvR (r r2 : Nat → Int) (a b : Int) : Prop := HldR r r2 a (r (2 * b + 102).toNat) (r (2 * b + 103).toNat)
def EmpR (r r2 : Nat → Int) (a s : Int) : Prop := (s = 0 ∧ HldR r r2 a 0 0) ∨ (¬ s = 0 ∧ HldR r r2 a 1 (-1))
theorem TkvR_mk {r r2 : Nat → Int} {a b s n : Int} (H : HldR r r2 a s n) (hs : s = r (2 * b + 102).toNat) (hn : n = r (2 * b + 103).toNat) : TkvR r r2 a b := by
  subst hs
  subst hn
  exact H
