def IcI (cnt : Int) (fl h : Nat → Int) (lim w a : Int) : Prop := lim ≤ a ∧ a ≤ w ∧ (∀ x, lim ≤ x → x < a → Pl lim w (mI h x) ∨ LHd cnt (aI fl) (mI h) a x) ∧ (lim < a → 5096 ≤ mI h lim)
theorem IcI_init {cnt : Int} {fl h : Nat → Int} {lim w : Int} (h0 : lim ≤ w) : IcI cnt fl h lim w lim := ⟨Int.le_refl _, h0, fun x a b => by omega, fun a => by omega⟩
def IcF (h : Nat → Int) (lim w a f : Int) : Prop := ∀ j, 1 ≤ j → j ≤ f → Pl lim w (mI h (a + j))
theorem IcF_init {h : Nat → Int} {lim w a : Int} : IcF h lim w a 0 := fun j a b => by omega
theorem IcF_step {h : Nat → Int} {lim w a f x i : Int} (H : IcF h lim w a f) (hx : x = h i.toNat) (hi : i = a + f + 1 + 8) (hp : Pl lim w x) : IcF h lim w a (f + 1) := by
  subst hi
  intro j j0 j1
  rcases (by omega : j ≤ f ∨ j = f + 1) with q | q
  · exact H j j0 q
  · rw [q]
    have e : mI h (a + (f + 1)) = x := by rw [hx]; unfold mI; rw [(by omega : a + (f + 1) + 8 = a + f + 1 + 8)]
    rw [e]; exact hp
theorem IcI_step {cnt : Int} {fl h : Nat → Int} {lim w a a2 f x : Int} (H : IcI cnt fl h lim w a) (F : IcF h lim w a f) (hx : x = h (a + 8).toNat) (h1 : 5096 ≤ x) (h2 : x < 5096 + cnt) (hf : f = fl (x - 5096).toNat) (f1 : 1 ≤ f) (f6 : f ≤ 6) (hw : a + f < w) (hw2 : w ≤ 160) (e2 : a2 = a + f + 1) : IcI cnt fl h lim w a2 := by
  subst e2
  obtain ⟨i1, i2, i3, i4⟩ := H
  have em : mI h a = x := hx.symm
  have ef : aI fl (mI h a - 5096) = f := by rw [em]; exact hf.symm
  refine ⟨by omega, by omega, fun y y0 y1 => ?_, fun _ => ?_⟩
  · rcases (by omega : y < a ∨ y = a ∨ a < y) with q | q | q
    · rcases i3 y y0 q with z | ⟨d1, d2, d3, d4, d5, d6⟩
      · exact Or.inl z
      · refine Or.inr ⟨d1, d2, d3, by omega, d5, fun hl => ?_⟩
        rcases (by omega : y + aI fl (mI h y - 5096) + 1 < a ∨ y + aI fl (mI h y - 5096) + 1 = a) with z | z
        · exact d6 z
        · rw [z, em]; exact h1
    · right
      subst q
      unfold LHd
      rw [ef]
      refine ⟨by omega, by omega, by omega, by omega, fun j j0 j1 => Pl_lt (F j j0 j1) hw2, fun hl => by omega⟩
    · left
      have h9 := F (y - a) (by omega) (by omega)
      rw [(by omega : a + (y - a) = y)] at h9
      exact h9
  · rcases (by omega : lim = a ∨ lim < a) with q | q
    · rw [q, em]; exact h1
    · exact i4 q
def IcR (cnt : Int) (fl h : Nat → Int) (lim w z : Int) : Prop := z = 0 ∨ IcI cnt fl h lim w w
theorem IcR_no {cnt : Int} {fl h : Nat → Int} {lim w : Int} : IcR cnt fl h lim w 0 := Or.inl rfl
theorem IcR_yes {cnt : Int} {fl h : Nat → Int} {lim w a z : Int} (H : IcI cnt fl h lim w a) (ha : w ≤ a) : IcR cnt fl h lim w z := by
  have h1 := H.2.1
  have e : a = w := by omega
  subst e
  exact Or.inr H
def HBa (h : Nat → Int) : Prop := ∀ j : Nat, j < 168 → (0 ≤ h j ∧ h j ≤ 1999) ∨ (3047 ≤ h j ∧ h j ≤ 3207) ∨ (5096 ≤ h j ∧ h j ≤ 5101) ∨ (7136 ≤ h j ∧ h j ≤ 7303)
def Clr (h : Nat → Int) : Prop := (∀ j : Nat, j < 8 → h j = 3047) ∧ ∀ j : Nat, 8 ≤ j → j < 168 → h j = 1000
theorem Clr_mk {h1 h2 : Nat → Int} (F1 : FillTo h1 1000 168) (F2 : FillR h1 h2 0 8 3047) : Clr h2 := ⟨fun j hj => (F2 j).1 ⟨by omega, by omega⟩, fun j h0 h1 => by rw [(F2 j).2 (by omega)]; exact F1 j (by omega)⟩
theorem Clr_hb {h : Nat → Int} (H : Clr h) : HBa h := by
  intro j hj
  rcases (by omega : j < 8 ∨ 8 ≤ j) with q | q
  · have := H.1 j q; omega
  · have := H.2 j q hj; omega
theorem Clr_vm {cnt : Int} {fl h : Nat → Int} {w : Int} (H : Clr h) (h0 : 0 ≤ w) (h1 : w ≤ 160) (hc : cnt ≤ 6) : VM cnt fl h w w := by
  refine ⟨⟨h0, Int.le_refl _, h1, hc⟩, fun r r0 r1 => ?_, fun a a0 a1 => by omega, fun h => by omega⟩
  have e : mI h r = 3047 := H.1 (r + 8).toNat (by omega)
  rw [e]; exact Or.inr (Or.inl rfl)
def RdI (h : Nat → Int) (lim w r : Int) : Prop := (∀ j, 0 ≤ j → j < r → Pl lim w (h j.toNat)) ∧ ∀ j : Nat, 8 ≤ j → j < 168 → h j = 1000
theorem RdI_init {h : Nat → Int} {lim w : Int} (H : Clr h) : RdI h lim w 0 := ⟨fun j a b => by omega, H.2⟩
theorem RdI_step {h h2 : Nat → Int} {lim w r v : Int} (H : RdI h lim w r) (e : h2 = updI h r.toNat v) (h0 : 0 ≤ r) (h8 : r < 8) (hv : Pl lim w v) : RdI h2 lim w (r + 1) := by
  subst e
  refine ⟨fun j j0 j1 => ?_, fun j j0 j1 => ?_⟩
  · unfold updI
    by_cases q : j.toNat = r.toNat
    · rw [if_pos q]; exact hv
    · rw [if_neg q]; exact H.1 j j0 (by omega)
  · unfold updI
    rw [if_neg (by omega)]; exact H.2 j j0 j1
def RdW (h : Nat → Int) (lim w a : Int) : Prop := (∀ r, -8 ≤ r → r < 0 → Pl lim w (mI h r)) ∧ ∀ x, 0 ≤ x → x < 160 → (x < lim ∨ a ≤ x) → mI h x = 1000
theorem RdW_init {h : Nat → Int} {lim w r : Int} (H : RdI h lim w r) (hr : 8 ≤ r) : RdW h lim w lim := by
  refine ⟨fun q q0 q1 => ?_, fun x x0 x1 _ => H.2 (x + 8).toNat (by omega) (by omega)⟩
  have := H.1 (q + 8) (by omega) (by omega)
  exact this
theorem RdW_step {h h2 : Nat → Int} {lim w a v i : Int} (H : RdW h lim w a) (e : h2 = updI h i.toNat v) (hi : i = a + 8) (h0 : 0 ≤ a) (hl : lim ≤ a) : RdW h2 lim w (a + 1) := by
  subst hi
  subst e
  refine ⟨fun q q0 q1 => ?_, fun x x0 x1 hc => ?_⟩
  · rw [mI_upd (by omega) q0, if_neg (by omega)]; exact H.1 q q0 q1
  · rw [mI_upd (by omega) (by omega), if_neg (by omega)]; exact H.2 x x0 x1 (by omega)
def RdR (cnt : Int) (fl h : Nat → Int) (lim w z : Int) : Prop := z = 0 ∨ (VM cnt fl h lim w ∧ HBa h)
theorem RdR_no {cnt : Int} {fl h : Nat → Int} {lim w : Int} : RdR cnt fl h lim w 0 := Or.inl rfl
theorem RdR_mk {cnt : Int} {fl h : Nat → Int} {lim w a z : Int} (W : RdW h lim w a) (I : IcR cnt fl h lim w z) (ha : a = w) (h0 : 0 ≤ lim) (h1 : lim ≤ w) (h2 : w ≤ 160) (hc : cnt ≤ 6) : RdR cnt fl h lim w z := by
  rcases I with q | I
  · exact Or.inl q
  · right
    have hV : VM cnt fl h lim w := ⟨⟨h0, h1, h2, hc⟩, W.1, I.2.2.1, I.2.2.2⟩
    refine ⟨hV, fun j hj => ?_⟩
    rcases (by omega : j < 8 ∨ 8 ≤ j) with q | q
    · have h5 := W.1 ((j : Int) - 8) (by omega) (by omega)
      have e : mI h ((j : Int) - 8) = h j := by unfold mI; congr 1; omega
      rw [e] at h5
      unfold Pl at h5
      omega
    · have e : mI h ((j : Int) - 8) = h j := by unfold mI; congr 1; omega
      by_cases hin : lim ≤ (j : Int) - 8 ∧ (j : Int) - 8 < w
      · rcases hV.2.2.1 _ hin.1 hin.2 with z | z
        · rw [e] at z; unfold Pl at z; omega
        · have z1 := z.1
          have z2 := z.2.1
          rw [e] at z1 z2
          omega
      · have h5 := W.2 ((j : Int) - 8) (by omega) (by omega) (by omega)
        rw [e] at h5
        omega
