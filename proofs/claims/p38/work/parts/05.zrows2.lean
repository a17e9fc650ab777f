def nwAll (U : State) : Prop := va_Nw (Cond.methodLinkNest RX11 11 yX10_init "CellSlide") U ∧ va_Nw (Cond.methodLinkNest RX11 18 yX2_init "CellSlide") U ∧ va_Nw (Cond.methodLinkNest RX11 28 yX8_init "CellSlide") U ∧ va_Nw (Cond.methodLinkNest RX6 11 yX8_init "CellSlide") U ∧ va_Nw (Cond.methodLinkNest RX9 62 yX11_pointsTo "CellSlide") U ∧ va_Nw (Cond.methodLinkNest RX7 132 yX11_pointsTo "CellSlide") U ∧ va_Nw (Cond.methodLinkNest RX5 138 yX11_pointsTo "CellSlide") U ∧ va_Nw (Cond.methodLinkNest RX5 125 yX11_sortOf "CellSlide") U ∧ va_Nw (Cond.methodLinkNest RX5 132 yX11_numberOf "CellSlide") U ∧ va_Nw (Cond.methodLinkNest RX0 67 yX11_pointsTo "CellSlide") U ∧ va_Nw (Cond.methodLinkNest RX0 80 yX11_sortOf "CellSlide") U ∧ va_Nw (Cond.methodLinkNest RX3 46 yX11_sortOf "CellSlide") U
theorem nwAll_same {u U : State} (h : u.vm = U.vm) (hN : nwAll u) : nwAll U := ⟨va_Nw.same rfl h hN.1, va_Nw.same rfl h hN.2.1, va_Nw.same rfl h hN.2.2.1, va_Nw.same rfl h hN.2.2.2.1, va_Nw.same rfl h hN.2.2.2.2.1, va_Nw.same rfl h hN.2.2.2.2.2.1, va_Nw.same rfl h hN.2.2.2.2.2.2.1, va_Nw.same rfl h hN.2.2.2.2.2.2.2.1, va_Nw.same rfl h hN.2.2.2.2.2.2.2.2.1, va_Nw.same rfl h hN.2.2.2.2.2.2.2.2.2.1, va_Nw.same rfl h hN.2.2.2.2.2.2.2.2.2.2.1, va_Nw.same rfl h hN.2.2.2.2.2.2.2.2.2.2.2⟩
theorem nwAll_warm {s U : State} (hW : s.WarmedH U.vm) (hN : nwAll s) : nwAll U := ⟨va_Nw.warmM hW hN.1, va_Nw.warmM hW hN.2.1, va_Nw.warmM hW hN.2.2.1, va_Nw.warmM hW hN.2.2.2.1, va_Nw.warmM hW hN.2.2.2.2.1, va_Nw.warmM hW hN.2.2.2.2.2.1, va_Nw.warmM hW hN.2.2.2.2.2.2.1, va_Nw.warmM hW hN.2.2.2.2.2.2.2.1, va_Nw.warmM hW hN.2.2.2.2.2.2.2.2.1, va_Nw.warmM hW hN.2.2.2.2.2.2.2.2.2.1, va_Nw.warmM hW hN.2.2.2.2.2.2.2.2.2.2.1, va_Nw.warmM hW hN.2.2.2.2.2.2.2.2.2.2.2⟩
def AllM1 (b : Nat → Int) : Prop := ∀ j : Nat, j < 160 → b j = -1
def NoLink (h : Nat → Int) : Prop := ∀ j : Nat, j < 168 → h j ≤ 5101
def LayOK (cnt : Int) (fl h : Nat → Int) (lim w : Int) : Prop := ∀ a : Int, lim ≤ a → a < w → 5096 ≤ h (a + 8).toNat → h (a + 8).toNat < 5096 + cnt ∧ a + fl (h (a + 8).toNat - 5096).toNat < w ∧ ∀ j : Int, 1 ≤ j → j ≤ fl (h (a + 8).toNat - 5096).toNat → h (a + 8 + j).toNat < 5096
def BegOK (h b : Nat → Int) (lim w : Int) : Prop := ∀ a : Int, 0 ≤ a → a < 160 → b a.toNat = -1 ∨ (lim ≤ b a.toNat ∧ b a.toNat ≤ a ∧ b a.toNat < w ∧ 5096 ≤ h (b a.toNat + 8).toNat)
def CellOK (h : Nat → Int) (lim a x : Int) : Prop := x = -1 ∨ (lim ≤ x ∧ x < a ∧ 5096 ≤ h (x + 8).toNat)
def SvOK (h b fi o fr far : Nat → Int) (lim w cnt : Int) : Prop :=
  BegOK h b lim w ∧ (∀ i : Int, 0 ≤ i → i < cnt → lim ≤ o i.toNat ∧ o i.toNat < w ∧ 5096 ≤ h (o i.toNat + 8).toNat) ∧
  (∀ a : Int, 0 ≤ a → a < 160 → -1 ≤ fi a.toNat ∧ fi a.toNat < cnt) ∧
  (∀ i : Int, 0 ≤ i → i < cnt → (fr i.toNat = -1 ∧ far i.toNat = 0) ∨ (0 ≤ fr i.toNat ∧ fr i.toNat < i ∧ far i.toNat = far (fr i.toNat).toNat + 1 ∧ far i.toNat ≤ i ∧ 0 ≤ far i.toNat))
theorem BegOK_init {h b : Nat → Int} {lim a : Int} (H : AllM1 b) : BegOK h b lim a := fun x h0 h1 => Or.inl (H x.toNat (by omega))
theorem BegOK_step {h b : Nat → Int} {lim a x : Int} (H : BegOK h b lim a) (ha : 0 ≤ a) (hx : x = -1 ∨ (lim ≤ x ∧ x ≤ a ∧ 5096 ≤ h (x + 8).toNat)) : BegOK h (updI b a.toNat x) lim (a + 1) := by
  intro y h0 h1
  unfold updI
  by_cases e : y.toNat = a.toNat
  · rw [if_pos e]
    rcases hx with hx | hx
    · exact Or.inl hx
    · exact Or.inr ⟨hx.1, by omega, by omega, hx.2.2⟩
  · rw [if_neg e]
    rcases H y h0 h1 with q | q
    · exact Or.inl q
    · exact Or.inr ⟨q.1, q.2.1, by omega, q.2.2.2⟩
theorem CellOK_init {h : Nat → Int} {lim a : Int} : CellOK h lim a (-1) := Or.inl rfl
theorem CellOK_up {h : Nat → Int} {lim a x : Int} (H : CellOK h lim a x) : CellOK h lim (a + 1) x := H.elim Or.inl (fun q => Or.inr ⟨q.1, by omega, q.2.2⟩)
theorem CellOK_new {h : Nat → Int} {lim a : Int} (h0 : lim ≤ a) (h1 : 5096 ≤ h (a + 8).toNat) : CellOK h lim (a + 1) a := Or.inr ⟨h0, by omega, h1⟩
theorem CellOK_le {h : Nat → Int} {lim a x : Int} (H : CellOK h lim (a + 1) x) : x = -1 ∨ (lim ≤ x ∧ x ≤ a ∧ 5096 ≤ h (x + 8).toNat) := H.elim Or.inl (fun q => Or.inr ⟨q.1, by omega, q.2.2⟩)
theorem SvOK_init {h b fi o fr far : Nat → Int} {lim w : Int} (H : BegOK h b lim w) (hf : AllM1 fi) : SvOK h b fi o fr far lim w 0 := by
  refine ⟨H, fun i h0 h1 => by omega, fun a h0 h1 => ?_, fun i h0 h1 => by omega⟩
  have h2 := hf a.toNat (by omega)
  omega
theorem SvOK_push {h b fi o fr far : Nat → Int} {lim w cnt x src v t : Int} (H : SvOK h b fi o fr far lim w cnt) (h0 : 0 ≤ cnt) (ht : 0 ≤ t ∧ t < 160) (hc : x = b t.toNat) (hn : ¬ x = -1) (hlim : 0 ≤ lim) (hv : (src = -1 ∧ v = 0) ∨ (0 ≤ src ∧ src < cnt ∧ v = far src.toNat + 1)) : SvOK h b (updI fi x.toNat cnt) (updI o cnt.toNat x) (updI fr cnt.toNat src) (updI far cnt.toNat v) lim w (cnt + 1) := by
  obtain ⟨H1, H2, H3, H4⟩ := H
  have hb := H1 t ht.1 ht.2
  rw [← hc] at hb
  have hb2 : lim ≤ x ∧ x ≤ t ∧ x < w ∧ 5096 ≤ h (x + 8).toNat := by
    rcases hb with hb | hb
    · exact absurd hb hn
    · exact hb
  refine ⟨H1, ?_, ?_, ?_⟩
  · intro i hi0 hi1
    unfold updI
    by_cases e : i.toNat = cnt.toNat
    · rw [if_pos e]
      exact ⟨hb2.1, hb2.2.2.1, hb2.2.2.2⟩
    · rw [if_neg e]
      exact H2 i hi0 (by omega)
  · intro a ha0 ha1
    unfold updI
    by_cases e : a.toNat = x.toNat
    · rw [if_pos e]
      omega
    · rw [if_neg e]
      have h9 := H3 a ha0 ha1
      omega
  · intro i hi0 hi1
    unfold updI
    by_cases e : i.toNat = cnt.toNat
    · rw [if_pos e, if_pos e]
      rcases hv with ⟨e1, e2⟩ | ⟨e1, e2, e3⟩
      · exact Or.inl ⟨e1, e2⟩
      · have hs := H4 src e1 e2
        refine Or.inr ⟨e1, by omega, ?_, by omega, by omega⟩
        rw [if_neg (by omega)]
        exact e3
    · rw [if_neg e, if_neg e]
      rcases H4 i hi0 (by omega) with q | q
      · exact Or.inl q
      · obtain ⟨q1, q2, q3, q4, q5⟩ := q
        refine Or.inr ⟨q1, q2, ?_, q4, q5⟩
        rw [if_neg (by omega)]
        exact q3
theorem SvOK_far {h b fi o fr far : Nat → Int} {lim w cnt : Int} (H : SvOK h b fi o fr far lim w cnt) (i : Int) (h0 : 0 ≤ i) (h1 : i < cnt) : 0 ≤ far i.toNat ∧ far i.toNat ≤ i := by
  rcases H.2.2.2 i h0 h1 with q | q <;> omega
theorem SvOK_ord {h b fi o fr far : Nat → Int} {lim w cnt : Int} (H : SvOK h b fi o fr far lim w cnt) (i : Int) (h0 : 0 ≤ i) (h1 : i < cnt) : lim ≤ o i.toNat ∧ o i.toNat < w ∧ 5096 ≤ h (o i.toNat + 8).toNat := H.2.1 i h0 h1
theorem LayOK_at {cnt : Int} {fl h : Nat → Int} {lim w : Int} (H : LayOK cnt fl h lim w) (a : Int) (h0 : lim ≤ a) (h1 : a < w) (h2 : 5096 ≤ h (a + 8).toNat) : h (a + 8).toNat < 5096 + cnt ∧ a + fl (h (a + 8).toNat - 5096).toNat < w := ⟨(H a h0 h1 h2).1, (H a h0 h1 h2).2.1⟩
def FillTo (g : Nat → Int) (v i : Int) : Prop := ∀ j : Nat, (j : Int) < i → g j = v
theorem FillTo_init {g : Nat → Int} {v : Int} : FillTo g v 0 := fun j h => by omega
theorem FillTo_step {g : Nat → Int} {v i : Int} (H : FillTo g v i) (h0 : 0 ≤ i) : FillTo (updI g i.toNat v) v (i + 1) := by
  intro j hj
  unfold updI
  by_cases e : j = i.toNat
  · rw [if_pos e]
  · rw [if_neg e]
    exact H j (by omega)
theorem FillTo_m1 {g : Nat → Int} (H : FillTo g (-1) 160) : AllM1 g := fun j hj => H j (by omega)
def OrdKeep (o o2 : Nat → Int) (cnt : Int) : Prop := ∀ j : Int, 0 ≤ j → j < cnt → o2 j.toNat = o j.toNat
def OrdIs (o : Nat → Int) (i x : Int) : Prop := o i.toNat = x
theorem OrdKeep_rf {o : Nat → Int} {cnt : Int} : OrdKeep o o cnt := fun _ _ _ => rfl
theorem OrdKeep_push {o : Nat → Int} {cnt x : Int} (h0 : 0 ≤ cnt) : OrdKeep o (updI o cnt.toNat x) cnt := by
  intro j h1 h2
  unfold updI
  rw [if_neg (by omega)]
theorem OrdIs_keep {o o2 : Nat → Int} {cnt i x : Int} (H : OrdIs o i x) (K : OrdKeep o o2 cnt) (h0 : 0 ≤ i) (h1 : i < cnt) : OrdIs o2 i x := (K i h0 h1).trans H
def FarIs (far : Nat → Int) (i n : Int) : Prop := far i.toNat = n
theorem SvOK_back {h b fi o fr far : Nat → Int} {lim w cnt : Int} (H : SvOK h b fi o fr far lim w cnt) {i n : Int} (h0 : 0 ≤ i) (h1 : i < cnt) (hn : FarIs far i n) (hp : 0 < n) : 0 ≤ fr i.toNat ∧ fr i.toNat < cnt ∧ FarIs far (fr i.toNat) (n - 1) := by
  unfold FarIs at *
  rcases H.2.2.2 i h0 h1 with q | q
  · omega
  · exact ⟨q.1, by omega, by omega⟩
def LiveOK (lv : Nat → Int) (m lo hi : Int) : Prop := (∀ i : Int, 0 ≤ i → i < m → lo ≤ lv i.toNat ∧ lv i.toNat < hi) ∧ ∀ i : Int, 0 ≤ i → i + 1 < m → lv i.toNat < lv (i + 1).toNat
theorem LiveOK_init {lv : Nat → Int} {lo hi : Int} : LiveOK lv 0 lo hi := ⟨fun i h0 h1 => by omega, fun i h0 h1 => by omega⟩
theorem LiveOK_up {lv : Nat → Int} {m lo hi : Int} (H : LiveOK lv m lo hi) : LiveOK lv m lo (hi + 1) := ⟨fun i h0 h1 => ⟨(H.1 i h0 h1).1, by have := (H.1 i h0 h1).2; omega⟩, H.2⟩
theorem LiveOK_push {lv : Nat → Int} {m lo hi : Int} (H : LiveOK lv m lo hi) (hm : 0 ≤ m) (hl : lo ≤ hi) : LiveOK (updI lv m.toNat hi) (m + 1) lo (hi + 1) := by
  refine ⟨fun i h0 h1 => ?_, fun i h0 h1 => ?_⟩
  · unfold updI
    by_cases e : i.toNat = m.toNat
    · rw [if_pos e]
      omega
    · rw [if_neg e]
      have h2 := H.1 i h0 (by omega)
      omega
  · unfold updI
    rw [if_neg (by omega)]
    by_cases e : (i + 1).toNat = m.toNat
    · rw [if_pos e]
      exact (H.1 i h0 (by omega)).2
    · rw [if_neg e]
      exact H.2 i h0 (by omega)
def FillR (g g2 : Nat → Int) (lo i v : Int) : Prop := ∀ j : Nat, (lo ≤ (j : Int) ∧ (j : Int) < i → g2 j = v) ∧ (¬ (lo ≤ (j : Int) ∧ (j : Int) < i) → g2 j = g j)
theorem FillR_init {g : Nat → Int} {lo v : Int} : FillR g g lo lo v := fun j => ⟨fun h => by omega, fun _ => rfl⟩
theorem FillR_step {g g2 : Nat → Int} {lo i v : Int} (H : FillR g g2 lo i v) (h0 : 0 ≤ i) (h1 : lo ≤ i) : FillR g (updI g2 i.toNat v) lo (i + 1) v := by
  intro j
  unfold updI
  by_cases e : j = i.toNat
  · rw [if_pos e]
    exact ⟨fun _ => rfl, fun h => absurd ⟨by omega, by omega⟩ h⟩
  · rw [if_neg e]
    exact ⟨fun h => (H j).1 ⟨h.1, by omega⟩, fun h => (H j).2 (fun q => h ⟨q.1, by omega⟩)⟩
theorem FillR_b {P : Int → Prop} {g g2 : Nat → Int} {lo i v : Int} {n : Nat} (H : FillR g g2 lo i v) (hb : ∀ j, j < n → P (g j)) (hv : P v) : ∀ j, j < n → P (g2 j) := by
  intro j hj
  by_cases e : lo ≤ (j : Int) ∧ (j : Int) < i
  · rw [(H j).1 e]
    exact hv
  · rw [(H j).2 e]
    exact hb j hj

