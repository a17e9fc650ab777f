def CbI (b h : Nat → Int) (lim w n : Int) : Prop := ∀ c, 0 ≤ c → c < n → lim ≤ b c.toNat ∧ b c.toNat < w ∧ 5096 ≤ h (b c.toNat + 8).toNat
theorem CbI_0 {b h : Nat → Int} {lim w n : Int} (hn : n ≤ 0) : CbI b h lim w n := fun c h0 h1 => by omega
def CnR (h : Nat → Int) (lim w z : Int) : Prop := z = -1 ∨ (lim ≤ z ∧ z < w ∧ 5096 ≤ h (z + 8).toNat)
theorem CnR_at {b h : Nat → Int} {lim w n c x : Int} (H : CbI b h lim w n) (h0 : 0 ≤ c) (h1 : c < n) (hx : x = b c.toNat) : CnR h lim w x := by
  subst hx
  exact Or.inr (H c h0 h1)
theorem CbI_set {b h h2 : Nat → Int} {lim w n a v i : Int} (H : CbI b h lim w n) (hl : 0 ≤ lim) (ha : (-8 ≤ a ∧ a < 0) ∨ (0 ≤ a ∧ h (a + 8).toNat < 5096)) (e : h2 = updI h i.toNat v) (hi : i = a + 8) : CbI b h2 lim w n := by
  subst hi
  subst e
  intro c h0 h1
  obtain ⟨q1, q2, q3⟩ := H c h0 h1
  refine ⟨q1, q2, ?_⟩
  unfold updI
  by_cases e : (b c.toNat + 8).toNat = (a + 8).toNat
  · rcases ha with z | z
    · omega
    · rw [e] at q3; omega
  · rw [if_neg e]; exact q3
def AdR (h h2 : Nat → Int) (lim lim2 kind : Int) : Prop := h2 (lim2 + 8).toNat = 5096 + kind ∧ ∀ x, Dm x → lim ≤ x → h2 (x + 8).toNat = h (x + 8).toNat
theorem AdR_of {g0 g : Nat → Int} {lim lim2 kind f : Int} (H : AdI g0 g lim2 kind f) (hl : lim2 = lim - f - 1) : AdR g0 g lim lim2 kind := ⟨H.1, fun x hx h => H.2.2 x hx (by omega)⟩
theorem CbI_push {b b2 h h2 : Nat → Int} {lim lim2 w n kind x i : Int} (H : CbI b h lim w n) (R : AdR h h2 lim lim2 kind) (h0 : 0 ≤ lim2) (h1 : lim2 < lim) (hw : lim2 < w) (w1 : w ≤ 160) (k0 : 0 ≤ kind) (n0 : 0 ≤ n) (e : b2 = updI b i.toNat x) (hi : i = n) (hx : x = lim2) : CbI b2 h2 lim2 w (n + 1) := by
  subst hi
  subst hx
  subst e
  intro c c0 c1
  unfold updI
  by_cases e : c.toNat = i.toNat
  · rw [if_pos e, R.1]; omega
  · rw [if_neg e]
    obtain ⟨q1, q2, q3⟩ := H c c0 (by omega)
    rw [R.2 _ ⟨by omega, by omega⟩ q1]
    omega
def HdI (h : Nat → Int) (b kind : Int) : Prop := h (b + 8).toNat = 5096 + kind
theorem HdI_set {h h2 : Nat → Int} {b kind a v i : Int} (H : HdI h b kind) (e : h2 = updI h i.toNat v) (hi : i = a + 8) (hb : 0 ≤ b) (ha : b < a) : HdI h2 b kind := by
  subst hi
  subst e
  unfold HdI updI
  rw [if_neg (by omega)]
  exact H
def ItP (lim w z it : Int) : Prop := z = 0 ∨ Pl lim w it
theorem ItP_get {lim w z it : Int} (H : ItP lim w z it) (h : ¬ z = 0) : Pl lim w it := H.elim (fun q => absurd q h) id
theorem KOK_add {cnt : Int} {fl fl2 : Nat → Int} {i v : Int} (H : KOK cnt fl) (e : fl2 = updI fl i.toNat v) (hi : i = cnt) (h0 : 0 ≤ cnt) (hv : 1 ≤ v ∧ v ≤ 6) : KOK (cnt + 1) fl2 := by
  subst hi
  subst e
  intro k k0 k1
  unfold updI
  by_cases e : k.toNat = i.toNat
  · rw [if_pos e]; exact hv
  · rw [if_neg e]; exact H k k0 (by omega)
theorem KOK_0 {cnt : Int} {fl : Nat → Int} (h : cnt ≤ 0) : KOK cnt fl := fun k k0 k1 => by omega
theorem VM_kind {cnt : Int} {fl fl2 h : Nat → Int} {lim w i v : Int} (H : VM cnt fl h lim w) (e : fl2 = updI fl i.toNat v) (hi : i = cnt) (h0 : 0 ≤ cnt) (h6 : cnt + 1 ≤ 6) : VM (cnt + 1) fl2 h lim w := by
  subst hi
  subst e
  obtain ⟨b0, b1, b2, b3⟩ := H
  refine ⟨⟨b0.1, b0.2.1, b0.2.2.1, h6⟩, b1, fun a a0 a1 => ?_, b3⟩
  rcases b2 a a0 a1 with z | ⟨d1, d2, d3, d4, d5, d6⟩
  · exact Or.inl z
  · right
    have e : aI (updI fl i.toNat v) (mI h a - 5096) = aI fl (mI h a - 5096) := by
      show updI fl i.toNat v (mI h a - 5096).toNat = fl (mI h a - 5096).toNat
      unfold updI
      rw [if_neg (by omega)]
    unfold LHd
    rw [e]
    exact ⟨d1, by omega, d3, d4, d5, d6⟩
theorem HBa_get {h : Nat → Int} (H : HBa h) : ∀ j : Nat, j < 168 → (0 ≤ h j ∧ h j ≤ 1999) ∨ (3047 ≤ h j ∧ h j ≤ 3207) ∨ (5096 ≤ h j ∧ h j ≤ 5101) ∨ (7136 ≤ h j ∧ h j ≤ 7303) := H
def HtR (cnt : Int) (fl h : Nat → Int) (lim w z : Int) : Prop := z = 0 ∨ (VM cnt fl h lim w ∧ KOK cnt fl)
def ScI (st cc : Int) : Prop := 1 ≤ st ∨ cc ≤ 0
