theorem VM_to {cnt : Int} {fl h : Nat → Int} {lim lim2 w : Int} (H : VM cnt fl h lim w) (e : lim2 = lim) : VM cnt fl h lim2 w := by
  subst e
  exact H
def CWf (h0 h lv : Nat → Int) (lim w m a f : Int) : Prop := CW h0 h lv lim w m a (a + f + 1)
theorem CWf_in {h0 h lv : Nat → Int} {lim w m a x : Int} (C : CW h0 h lv lim w m a a) (hx : x = h (a + 8).toNat) (h5 : 5096 ≤ x) : CWf h0 h lv lim w m a 0 := CW_to (CW_in C hx h5) (by omega)
theorem CWf_keep {h0 h lv : Nat → Int} {lim w m a f i x t : Int} (C : CWf h0 h lv lim w m a f) (hx : x = h i.toNat) (hi : i = a + f + 9) (hp : (x ≤ 3047 ∨ 5096 ≤ x) ∨ ∃ z, NewP lv m w t z ∧ t = x - 3048 ∧ ¬ z = -1) : CWf h0 h lv lim w m a (f + 1) := CW_keep2 (t := t) C hx (by omega) hp (by omega)
theorem CWf_nil {h0 h h2 lv : Nat → Int} {lim w m a f i j x : Int} (C : CWf h0 h lv lim w m a f) (hy0 : 0 ≤ a + f + 1 ∧ a + f + 1 < 160) (hx : x = h i.toNat) (hi : i = a + f + 9) (hp : 3048 ≤ x ∧ x ≤ 3207) (e : h2 = updI h j.toNat 3047) (hj : j = a + f + 9) : CWf h0 h2 lv lim w m a (f + 1) := CW_nil2 C hy0 hx (by omega) hp e (by omega) (by omega)
theorem CWf_next {cnt : Int} {fl h0 h lv : Nat → Int} {lim w m bl meth a f x n y : Int} (H : Mid cnt fl h0 lv lim w m bl meth 0) (C : CWf h0 h lv lim w m a f) (ha : a < w) (hx : x = h (a + 8).toNat) (hn : n = fl (x - 5096).toNat + 1) (hy : y = a + n) (hf : n = f + 1) : CW h0 h lv lim w m y y := CW_next H (CW_to C (by omega)) ha hx hn hy
theorem CWf_head {cnt : Int} {fl h0 h lv : Nat → Int} {lim w m bl meth a f x : Int} (H : Mid cnt fl h0 lv lim w m bl meth 0) (C : CWf h0 h lv lim w m a f) (ha : a < w) (hx : x = h (a + 8).toNat) : x = mI h0 a ∧ 5096 ≤ x ∧ x < 5096 + cnt ∧ cnt ≤ 6 ∧ 1 ≤ fl (x - 5096).toNat ∧ fl (x - 5096).toNat ≤ 6 ∧ a + fl (x - 5096).toNat + 1 ≤ w := CW_head H C ha hx
