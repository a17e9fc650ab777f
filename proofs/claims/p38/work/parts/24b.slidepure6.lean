theorem VM_at {cnt : Int} {fl h : Nat → Int} {lim w a : Int} (H : VM cnt fl h lim w) (h0 : lim ≤ a) (h1 : a < w) (h2 : 5096 ≤ h (a + 8).toNat) : h (a + 8).toNat < 5096 + cnt ∧ cnt ≤ 6 ∧ 1 ≤ fl (h (a + 8).toNat - 5096).toNat ∧ fl (h (a + 8).toNat - 5096).toNat ≤ 6 ∧ a + fl (h (a + 8).toNat - 5096).toNat < w := by
  rcases H.2.2.1 a h0 h1 with z | z
  · have h3 := Pl_lt z H.1.2.2.1
    have h4 : mI h a = h (a + 8).toNat := rfl
    omega
  · obtain ⟨d1, d2, d3, d4, _⟩ := z
    have h4 : mI h a = h (a + 8).toNat := rfl
    have h5 : aI fl (mI h a - 5096) = fl (h (a + 8).toNat - 5096).toNat := rfl
    rw [h5] at d3 d4
    rw [h4] at d2
    exact ⟨d2, H.1.2.2.2, d3.1, d3.2, by omega⟩
theorem VM_box {cnt : Int} {fl h : Nat → Int} {lim w : Int} (H : VM cnt fl h lim w) : 0 ≤ lim ∧ lim ≤ w ∧ w ≤ 160 ∧ cnt ≤ 6 := H.1
def CW (h0 h lv : Nat → Int) (lim w m a y : Int) : Prop := (∀ x, Dm x → mI h x = mI h0 x ∨ (3048 ≤ mI h0 x ∧ mI h0 x ≤ 3207 ∧ mI h x = 3047)) ∧ (∀ k, 0 ≤ k → k < m → aI lv k < y → PtL (mI h) (aI lv) m (aI lv k)) ∧ (a = w ∨ (lim ≤ a ∧ a < w ∧ 5096 ≤ mI h0 a)) ∧ a ≤ y
theorem Mid_zero {cnt : Int} {fl h lv : Nat → Int} {lim w m bl meth : Int} (H : Mid cnt fl h lv lim w m bl meth 0) : VM cnt fl h lim w ∧ LvS (aI fl) (mI h) (aI lv) lim w m ∧ bl = ub (aI lv) m.toNat ∧ RegL (mI h) (aI lv) m := by
  obtain ⟨M0, hL, hS, hb, hP⟩ := H
  have hl := hL.1
  have hm := hS.1
  rcases hP with ⟨_, e, hR⟩ | ⟨_, ⟨_, q⟩ | ⟨_, q⟩⟩
  · have e2 : ∀ x, Dm x → mI h x = M0 x ∨ (3048 ≤ M0 x ∧ M0 x ≤ 3207 ∧ mI h x = 3047) := fun x hx => Or.inl (e x hx)
    refine ⟨Lay_nil hL e2, LvS_nil hL hS e2, hb, fun r r0 r1 => ?_⟩
    unfold PtL
    rw [e r ⟨r0, by omega⟩]
    exact hR r r0 r1
  · rcases q with ⟨q, _⟩ | ⟨q, _⟩ | ⟨q, _⟩ <;> omega
  · have h4 := ub_max (lv := aI lv) m.toNat
    rcases q with ⟨q, _⟩ | ⟨q, _⟩ | ⟨q, _⟩ <;> omega
theorem CW_init {cnt : Int} {fl h lv : Nat → Int} {lim w m bl meth : Int} (H : Mid cnt fl h lv lim w m bl meth 0) : CW h h lv lim w m lim lim := by
  obtain ⟨hL, hS, _, _⟩ := Mid_zero H
  have hl := hL.1
  refine ⟨fun x _ => Or.inl rfl, fun k k0 k1 hk => ?_, ?_, Int.le_refl _⟩
  · have := (hS.2.1 k k0 k1).1
    omega
  · rcases (by omega : lim = w ∨ lim < w) with q | q
    · exact Or.inl q
    · exact Or.inr ⟨Int.le_refl _, q, hL.2.2.2 q⟩
theorem CW_head {cnt : Int} {fl h0 h lv : Nat → Int} {lim w m bl meth a y x : Int} (H : Mid cnt fl h0 lv lim w m bl meth 0) (C : CW h0 h lv lim w m a y) (ha : a < w) (hx : x = h (a + 8).toNat) : x = mI h0 a ∧ 5096 ≤ x ∧ x < 5096 + cnt ∧ cnt ≤ 6 ∧ 1 ≤ fl (x - 5096).toNat ∧ fl (x - 5096).toNat ≤ 6 ∧ a + fl (x - 5096).toNat + 1 ≤ w := by
  obtain ⟨hL, hS, _, _⟩ := Mid_zero H
  have hl := hL.1
  obtain ⟨c1, c2, c3, c4⟩ := C
  have h3 : lim ≤ a ∧ 5096 ≤ mI h0 a := by
    rcases c3 with q | q
    · omega
    · exact ⟨q.1, q.2.2⟩
  have e : x = mI h0 a := by
    rw [hx]
    rcases c1 a ⟨by omega, by omega⟩ with q | q
    · exact q
    · omega
  have h4 := VM_at hL h3.1 ha h3.2
  have e2 : h0 (a + 8).toNat = x := e.symm
  rw [e2] at h4
  exact ⟨e, by omega, h4.1, h4.2.1, h4.2.2.1, h4.2.2.2.1, by omega⟩
theorem CW_in {h0 h lv : Nat → Int} {lim w m a x : Int} (C : CW h0 h lv lim w m a a) (hx : x = h (a + 8).toNat) (h5 : 5096 ≤ x) : CW h0 h lv lim w m a (a + 1) := by
  obtain ⟨c1, c2, c3, c4⟩ := C
  refine ⟨c1, fun k k0 k1 hk => ?_, c3, by omega⟩
  rcases (by omega : aI lv k < a ∨ aI lv k = a) with q | q
  · exact c2 k k0 k1 q
  · intro p1 p2
    rw [q] at p1 p2
    have e : mI h a = x := hx.symm
    omega
theorem CW_keep {h0 h lv : Nat → Int} {lim w m a y x : Int} (C : CW h0 h lv lim w m a y) (hx : x = h (y + 8).toNat) (hp : (x ≤ 3047 ∨ 5096 ≤ x) ∨ ∃ z, NewP lv m w (x - 3048) z ∧ ¬ z = -1) : CW h0 h lv lim w m a (y + 1) := by
  obtain ⟨c1, c2, c3, c4⟩ := C
  refine ⟨c1, fun k k0 k1 hk => ?_, c3, by omega⟩
  rcases (by omega : aI lv k < y ∨ aI lv k = y) with q | q
  · exact c2 k k0 k1 q
  · intro p1 p2
    have e : mI h y = x := hx.symm
    rw [q, e] at p1 p2
    rw [q, e]
    rcases hp with hp | ⟨z, hz, hn⟩
    · omega
    · rcases hz with ⟨hz, _⟩ | ⟨j, j0, j1, ej, _⟩
      · exact absurd hz hn
      · exact ⟨j, j0, j1, ej⟩
theorem CW_nil {h0 h h2 lv : Nat → Int} {lim w m a y x : Int} (C : CW h0 h lv lim w m a y) (hy : 0 ≤ y ∧ y < 160) (hx : x = h (y + 8).toNat) (hp : 3048 ≤ x ∧ x ≤ 3207) (e : h2 = updI h (y + 8).toNat 3047) : CW h0 h2 lv lim w m a (y + 1) := by
  obtain ⟨c1, c2, c3, c4⟩ := C
  have em : mI h y = x := hx.symm
  have hD : Dm y := ⟨by omega, hy.2⟩
  have e0 : mI h2 y = 3047 := by rw [e]; exact mI_upd_eq (by omega)
  have en : ∀ u, Dm u → u ≠ y → mI h2 u = mI h u := fun u hu hn => by rw [e]; exact mI_upd_ne (by omega) hu hn
  refine ⟨fun u hu => ?_, fun k k0 k1 hk => ?_, c3, by omega⟩
  · by_cases q : u = y
    · rw [q]
      right
      rcases c1 y hD with z | z
      · exact ⟨by omega, by omega, e0⟩
      · omega
    · rw [en u hu q]
      exact c1 u hu
  · by_cases q : aI lv k = y
    · intro p1 p2
      rw [q, e0] at p1
      omega
    · have h9 := c2 k k0 k1 (by omega)
      by_cases hd : Dm (aI lv k)
      · unfold PtL at h9 ⊢
        rw [en _ hd q]
        exact h9
      · by_cases h8 : (aI lv k + 8).toNat = (y + 8).toNat
        · intro p1 p2
          have h7 : mI h2 (aI lv k) = mI h2 y := by unfold mI; rw [h8]
          omega
        · unfold PtL at h9 ⊢
          have h7 : mI h2 (aI lv k) = mI h (aI lv k) := by
            rw [e]; unfold mI updI; rw [if_neg h8]
          rw [h7]
          exact h9
theorem CW_next {cnt : Int} {fl h0 h lv : Nat → Int} {lim w m bl meth a y x n : Int} (H : Mid cnt fl h0 lv lim w m bl meth 0) (C : CW h0 h lv lim w m a y) (ha : a < w) (hx : x = h (a + 8).toNat) (hn : n = fl (x - 5096).toNat + 1) (hy : y = a + n) : CW h0 h lv lim w m y y := by
  have h1 := CW_head H C ha hx
  obtain ⟨hL, hS, _, _⟩ := Mid_zero H
  obtain ⟨c1, c2, c3, c4⟩ := C
  have hl := hL.1
  have h3 : lim ≤ a ∧ 5096 ≤ mI h0 a := by
    rcases c3 with q | q
    · omega
    · exact ⟨q.1, q.2.2⟩
  refine ⟨c1, c2, ?_, Int.le_refl _⟩
  rcases (by omega : y = w ∨ y < w) with q | q
  · exact Or.inl q
  · right
    refine ⟨by omega, q, ?_⟩
    rcases hL.2.2.1 a h3.1 ha with z | z
    · have := Pl_lt z hl.2.2.1
      omega
    · obtain ⟨_, _, _, _, _, d6⟩ := z
      have e5 : aI fl (mI h0 a - 5096) = fl (x - 5096).toNat := by rw [← h1.1]; rfl
      rw [e5] at d6
      have e6 : a + fl (x - 5096).toNat + 1 = y := by omega
      rw [e6] at d6
      exact d6 q
theorem CW_dead {cnt : Int} {fl h0 h lv : Nat → Int} {lim w m bl meth a x : Int} (H : Mid cnt fl h0 lv lim w m bl meth 0) (C : CW h0 h lv lim w m a a) (ha : a < w) (hx : x = h (a + 8).toNat) (hz : NewP lv m w a (-1)) : ∀ n : Nat, (n : Int) ≤ fl (x - 5096).toNat + 1 → CW h0 h lv lim w m a (a + n) := by
  have h1 := CW_head H C ha hx
  obtain ⟨hL, hS, _, _⟩ := Mid_zero H
  have hl := hL.1
  have h3 : lim ≤ a ∧ 5096 ≤ mI h0 a := by
    rcases C.2.2.1 with q | q
    · omega
    · exact ⟨q.1, q.2.2⟩
  have hd : ∀ k, 0 ≤ k → k < m → aI lv k ≠ a := by
    rcases hz with q | ⟨k, k0, k1, ek, ez⟩
    · exact q.2
    · have := LvS_m hS hl.2.1; omega
  have e5 : aI fl (mI h0 a - 5096) = fl (x - 5096).toNat := by rw [← h1.1]; rfl
  have key : ∀ n : Nat, (n : Int) ≤ fl (x - 5096).toNat → ∀ k, 0 ≤ k → k < m → aI lv k ≠ a + n := by
    intro n
    induction n with
    | zero => intro _ k k0 k1; have := hd k k0 k1; omega
    | succ n ih =>
      intro hn k k0 k1 e
      have hlow : mI h0 (aI lv k) < 5096 := by
        rw [e]
        rcases hL.2.2.1 a h3.1 ha with z | z
        · have := Pl_lt z hl.2.2.1
          omega
        · obtain ⟨_, _, _, _, d5, _⟩ := z
          rw [e5] at d5
          exact d5 _ (by omega) hn
      have s := hS.2.2.2.2 k k0 k1 hlow
      exact ih (by omega) (k - 1) (by omega) (by omega) (by omega)
  intro n hn
  obtain ⟨c1, c2, c3, c4⟩ := C
  refine ⟨c1, fun k k0 k1 hk => ?_, c3, by omega⟩
  rcases (by omega : aI lv k < a ∨ a ≤ aI lv k) with q | q
  · exact c2 k k0 k1 q
  · have h9 := key (aI lv k - a).toNat (by omega) k k0 k1
    omega
theorem CW_skip {cnt : Int} {fl h0 h lv : Nat → Int} {lim w m bl meth a x n y : Int} (H : Mid cnt fl h0 lv lim w m bl meth 0) (C : CW h0 h lv lim w m a a) (ha : a < w) (hx : x = h (a + 8).toNat) (hz : NewP lv m w a (-1)) (hn : n = fl (x - 5096).toNat + 1) (hy : y = a + n) : CW h0 h lv lim w m y y := by
  have h1 := CW_head H C ha hx
  have h2 := CW_dead H C ha hx hz n.toNat (by omega)
  have e : a + (n.toNat : Int) = y := by omega
  rw [e] at h2
  exact CW_next H h2 ha hx hn hy
theorem CW_end {cnt : Int} {fl h0 h lv : Nat → Int} {lim w m bl meth a : Int} (H : Mid cnt fl h0 lv lim w m bl meth 0) (C : CW h0 h lv lim w m a a) (ha : w ≤ a) (hm : meth = 0 ∨ meth = 1) : Mid1 cnt fl h lv lim w m bl meth 0 := by
  obtain ⟨hL, hS, hb, hR⟩ := Mid_zero H
  obtain ⟨c1, c2, c3, c4⟩ := C
  have hl := hL.1
  have hL' := Lay_nil hL c1
  have hS' := LvS_nil hL hS c1
  have hK : Mk (mI h) (aI lv) m := by
    refine ⟨fun r r0 r1 p1 p2 => ?_, fun k k0 k1 => c2 k k0 k1 (by have := (hS.2.1 k k0 k1).2; omega)⟩
    rcases c1 r ⟨r0, by omega⟩ with q | q
    · rw [q] at p1 p2 ⊢
      exact hR r r0 r1 p1 p2
    · omega
  have h4 := ub_max (lv := aI lv) m.toNat
  refine ⟨mI h, hL', hS', hb, Or.inr ⟨hK, ?_⟩⟩
  rcases hm with e | e
  · exact Or.inl ⟨e, Or.inl ⟨by omega, by omega, fw_init hL' hS'⟩⟩
  · refine Or.inr ⟨e, Or.inl ⟨by omega, by omega, m, BtP_init hS.1, bl_init (fun _ _ => rfl) (fun k k0 k1 => ?_)⟩⟩
    have := hS.2.1 k k0 k1
    exact ⟨by omega, by omega⟩
