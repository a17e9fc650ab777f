def IvR (la : Nat → Int) (w a s z : Int) : Prop := z = 1 → WdOK (la (2 * a + 102).toNat) (la (2 * a + 103).toNat) ∧ Pl (la (1 : Int).toNat) w (enc la (a + 8).toNat) ∧ (s = 0 → enc la (a + 8).toNat ≤ 3047)
theorem IvR_0 {la : Nat → Int} {w a s : Int} : IvR la w a s 0 := fun h => by omega
theorem IvR_n {la : Nat → Int} {w a s z : Int} (a0 : -8 ≤ a) (h1 : la (2 * a + 102).toNat = 0) (h2 : -999 ≤ la (2 * a + 103).toNat ∧ la (2 * a + 103).toNat ≤ 999) : IvR la w a s z := fun _ => by
  rw [enc_at a0]
  unfold WdOK Pl
  omega
theorem IvR_p {la : Nat → Int} {w a s z : Int} (a0 : -8 ≤ a) (l0 : 0 ≤ la (1 : Int).toNat) (hw : w ≤ 160) (hs : ¬ s = 0) (h1 : la (2 * a + 102).toNat = 1) (h2 : la (2 * a + 103).toNat = -1 ∨ (la (1 : Int).toNat ≤ la (2 * a + 103).toNat ∧ la (2 * a + 103).toNat ≤ w - 1)) : IvR la w a s z := fun _ => by
  rw [enc_at a0]
  unfold WdOK Pl
  omega
def AcI (cnt : Int) (g sr la : Nat → Int) (w a : Int) : Prop := IcI cnt (flN g) (enc la) (la (1 : Int).toNat) w a ∧ (∀ x, la (1 : Int).toNat ≤ x → x < a → WdOK (la (2 * x + 102).toNat) (la (2 * x + 103).toNat)) ∧ ∀ h k, la (1 : Int).toNat ≤ h → h < a → 5096 ≤ enc la (h + 8).toNat → 0 ≤ k → k < flN g (enc la (h + 8).toNat - 5096).toNat → sr (36 + 6 * (enc la (h + 8).toNat - 5096) + k).toNat = 0 → enc la (h + 1 + k + 8).toNat ≤ 3047
theorem AcI_0 {cnt : Int} {g sr la : Nat → Int} {w a : Int} (ha : a = la (1 : Int).toNat) (h : a ≤ w) : AcI cnt g sr la w a := by
  subst ha
  exact ⟨IcI_init h, fun x a b => by omega, fun x k a b => by omega⟩
def AcF (g sr la : Nat → Int) (w a kd f : Int) : Prop := IcF (enc la) (la (1 : Int).toNat) w a f ∧ (∀ j, 1 ≤ j → j ≤ f → WdOK (la (2 * (a + j) + 102).toNat) (la (2 * (a + j) + 103).toNat)) ∧ ∀ k, 0 ≤ k → k < f → sr (36 + 6 * kd + k).toNat = 0 → enc la (a + 1 + k + 8).toNat ≤ 3047
theorem AcF_0 {g sr la : Nat → Int} {w a kd : Int} : AcF g sr la w a kd 0 := ⟨IcF_init, fun j a b => by omega, fun k a b => by omega⟩
theorem AcF_step {g sr la : Nat → Int} {w a kd f b s z y i : Int} (H : AcF g sr la w a kd f) (V : IvR la w b s z) (hz : z = 1) (hb : b = a + 1 + f) (f0 : 0 ≤ f) (hy : y = sr i.toNat) (hi : i = 6 * kd + f + 36) (hs : (y = 0 ∧ s = 0) ∨ ¬ y = 0) : AcF g sr la w a kd (f + 1) := by
  obtain ⟨v1, v2, v3⟩ := V hz
  obtain ⟨a1, a2, a3⟩ := H
  refine ⟨IcF_step a1 (x := enc la (b + 8).toNat) (i := b + 8) rfl (by omega) v2, fun j j0 j1 => ?_, fun k k0 k1 q => ?_⟩
  · by_cases e : j = f + 1
    · rw [(by omega : a + j = b)]
      exact v1
    · exact a2 j j0 (by omega)
  · by_cases e : k = f
    · subst e
      rw [(by omega : 36 + 6 * kd + k = i), ← hy] at q
      rw [(by omega : a + 1 + k + 8 = b + 8)]
      exact v3 (by omega)
    · exact a3 k k0 (by omega) q
theorem AcI_step {cnt : Int} {g sr la : Nat → Int} {w a kd f x a2 : Int} (H : AcI cnt g sr la w a) (F : AcF g sr la w a kd f) (l0 : 0 ≤ la (1 : Int).toNat) (h1 : la (2 * a + 102).toNat = 2) (h2 : la (2 * a + 103).toNat = kd) (k0 : 0 ≤ kd) (k1 : kd < cnt) (c6 : cnt ≤ 6) (hf : x = g (kd + 6).toNat) (hx : f = x) (f1 : 1 ≤ f) (f6 : f ≤ 6) (hw : a + f < w) (hw2 : w ≤ 160) (e2 : a2 = a + f + 1) : AcI cnt g sr la w a2 := by
  obtain ⟨a1, a3, a4⟩ := H
  obtain ⟨b1, b3, b4⟩ := F
  have la0 := a1.1
  have e : enc la (a + 8).toNat = 5096 + kd := by rw [enc_at (by omega)]; omega
  have ef : flN g kd.toNat = f := by rw [hx, hf]; unfold flN; congr 1; omega
  refine ⟨IcI_step a1 b1 (x := 5096 + kd) e.symm (by omega) (by omega) (by rw [(by omega : 5096 + kd - 5096 = kd)]; exact ef.symm) f1 f6 hw hw2 e2, fun y y0 y1 => ?_, fun h k h0 h1' h2' k0' k1' q => ?_⟩
  · by_cases s : y < a
    · exact a3 y y0 s
    · by_cases s2 : y = a
      · subst s2
        rw [h1, h2]
        unfold WdOK
        omega
      · have := b3 (y - a) (by omega) (by omega)
        rw [(by omega : a + (y - a) = y)] at this
        exact this
  · by_cases s : h < a
    · exact a4 h k h0 s h2' k0' k1' q
    · by_cases s2 : h = a
      · subst s2
        rw [e, (by omega : 5096 + kd - 5096 = kd)] at q k1'
        rw [ef] at k1'
        exact b4 k k0' k1' q
      · have p := b1 (h - a) (by omega) (by omega)
        have lt := Pl_lt p hw2
        have e9 : mI (enc la) (a + (h - a)) = enc la (h + 8).toNat := by
          show enc la (a + (h - a) + 8).toNat = _
          rw [(by omega : a + (h - a) + 8 = h + 8)]
        omega
def AcR (cnt : Int) (g sr la : Nat → Int) (w z : Int) : Prop := z = 1 → AcI cnt g sr la w w
theorem AcR_0 {cnt : Int} {g sr la : Nat → Int} {w : Int} : AcR cnt g sr la w 0 := fun h => by omega
theorem AcR_1 {cnt : Int} {g sr la : Nat → Int} {w a z : Int} (H : AcI cnt g sr la w a) (h : w ≤ a) : AcR cnt g sr la w z := fun _ => by
  have : a = w := by have := H.1.2.1; omega
  subst this
  exact H
def ImI (la : Nat → Int) (w : Int) : Prop := (0 ≤ la (0 : Int).toNat ∧ la (0 : Int).toNat ≤ 1) ∧ (0 ≤ la (1 : Int).toNat ∧ la (1 : Int).toNat ≤ w) ∧ (la (3 : Int).toNat = 0 ∧ la (4 : Int).toNat = 0 ∧ la (5 : Int).toNat = 0) ∧ ∀ x, 0 ≤ x → x < 160 → (x < la (1 : Int).toNat ∨ w ≤ x) → la (2 * x + 102).toNat = 0 ∧ la (2 * x + 103).toNat = 0
theorem ImI_0 {z a b : Nat → Int} {w k i j x y : Int} (Z : ZrT z k) (hk : 422 ≤ k) (ea : a = updI z i.toNat x) (hi : i = 0) (hx : 0 ≤ x ∧ x ≤ 1) (eb : b = updI a j.toNat y) (hj : j = 1) (hy : 0 ≤ y ∧ y ≤ w) : ImI b w := by
  subst hi hj
  have o : ∀ q : Nat, q < 422 → ¬ q = 0 → ¬ q = 1 → b q = 0 := fun q q0 q1 q2 => by rw [upd_ne eb q2, upd_ne ea q1]; exact Z q (by omega)
  have b0 : b (0 : Int).toNat = x := by rw [upd_ne eb (by decide), upd_eq ea rfl]
  have b1 : b (1 : Int).toNat = y := upd_eq eb rfl
  exact ⟨by rw [b0]; exact hx, by rw [b1]; exact hy, ⟨o _ (by decide) (by decide) (by decide), o _ (by decide) (by decide) (by decide), o _ (by decide) (by decide) (by decide)⟩, fun q q0 q1 _ => ⟨o _ (by omega) (by omega) (by omega), o _ (by omega) (by omega) (by omega)⟩⟩
theorem ImI_h {la l2 : Nat → Int} {w a s n : Int} (H : ImI la w) (K : HldR la l2 a s n) (ha : a < 0 ∨ (la (1 : Int).toNat ≤ a ∧ a < w)) : ImI l2 w := by
  obtain ⟨h0, h1, h2, h3⟩ := H
  have e0 := K.1 (0 : Int).toNat (by decide)
  have e1 := K.1 (1 : Int).toNat (by decide)
  have e3 := K.1 (3 : Int).toNat (by decide)
  have e4 := K.1 (4 : Int).toNat (by decide)
  have e5 := K.1 (5 : Int).toNat (by decide)
  refine ⟨by rw [e0]; exact h0, by rw [e1]; exact h1, by rw [e3, e4, e5]; exact h2, fun x x0 x1 q => ?_⟩
  rw [e1] at q
  have := K.2.2 x ⟨by omega, x1⟩ (by omega)
  rw [this.1, this.2]
  exact h3 x x0 x1 q
def RgV (la : Nat → Int) (w i : Int) : Prop := ∀ x, -8 ≤ x → x < i → WdOK (la (2 * x + 102).toNat) (la (2 * x + 103).toNat) ∧ Pl (la (1 : Int).toNat) w (enc la (x + 8).toNat)
theorem RgV_0 {la : Nat → Int} {w : Int} : RgV la w (-8) := fun x a b => by omega
theorem RgV_step {la : Nat → Int} {w i s z : Int} (H : RgV la w i) (V : IvR la w i s z) (hz : z = 1) : RgV la w (i + 1) := fun x x0 x1 => by
  by_cases e : x = i
  · subst e
    exact ⟨(V hz).1, (V hz).2.1⟩
  · exact H x x0 (by omega)
def ImR (cnt : Int) (g sr la : Nat → Int) (w z : Int) : Prop := z = 1 → NwI cnt g sr la w ∧ SrN g sr la w ∧ StL la
theorem ImR_0 {cnt : Int} {g sr la : Nat → Int} {w : Int} : ImR cnt g sr la w 0 := fun h => by omega
theorem ImR_1 {cnt : Int} {g sr la : Nat → Int} {w i z : Int} (I : ImI la w) (R : RgV la w i) (hi : 0 ≤ i) (A : AcR cnt g sr la w z) (hw : w ≤ 160) (c6 : cnt ≤ 6) : ImR cnt g sr la w z := fun q => by
  obtain ⟨a1, a2, a3⟩ := A q
  obtain ⟨h0, h1, h2, h3⟩ := I
  have V : VM cnt (flN g) (enc la) (la (1 : Int).toNat) w := ⟨⟨h1.1, h1.2, hw, c6⟩, fun r r0 r1 => (R r r0 (by omega)).2, a1.2.2.1, fun h => a1.2.2.2 h⟩
  refine ⟨⟨fun x hx => ?_, V, ⟨h0, by omega, by omega⟩, fun h => by omega⟩, fun h k F s => a3 h k F.1 F.2.1 F.2.2.1 F.2.2.2.1 F.2.2.2.2 s, h2.1⟩
  have x0 := hx.1
  have x1 := hx.2
  by_cases n : x < 0
  · exact (R x x0 (by omega)).1
  · by_cases m : x < la (1 : Int).toNat ∨ w ≤ x
    · have := h3 x (by omega) x1 m
      rw [this.1, this.2]
      unfold WdOK
      omega
    · exact a2 x (by omega) (by omega)
def RdX (la l2 : Nat → Int) (a : Int) : Prop := ∃ s n, HldR la l2 a s n
theorem Im_on {cnt : Int} {g sr la r : Nat → Int} {w z k : Int} (R : ImR cnt g sr la w z) (hz : z = 1) (C : CpI la r k) (hk : 422 ≤ k) : NwI cnt g sr r w ∧ SrN g sr r w := by
  obtain ⟨a, b, _⟩ := R hz
  have c : ∀ j : Nat, j < 422 → r j = la j := fun j hj => C j (by omega)
  exact ⟨NwI_ext a c, SrN_ext a b c⟩
def L1V (la : Nat → Int) (x : Int) : Prop := la (1 : Int).toNat = x
