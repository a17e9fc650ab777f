def PrfS (c c2 : Nat → Int) (n : Int) : Prop := ∀ i, 0 ≤ i → i < n → c2 i.toNat = c i.toNat
theorem PrfS_rf {c : Nat → Int} {n : Int} : PrfS c c n := fun _ _ _ => rfl
theorem PrfS_tr {c c2 c3 : Nat → Int} {n m : Int} (H : PrfS c c2 n) (K : PrfS c2 c3 m) (h : n ≤ m) : PrfS c c3 n := fun i a b => (K i a (by omega)).trans (H i a b)
theorem PrfS_upd {c c2 c3 : Nat → Int} {n i v : Int} (H : PrfS c c2 n) (e : c3 = updI c2 i.toNat v) (h0 : 0 ≤ n) (hi : n ≤ i) : PrfS c c3 n := by
  subst e
  intro j a b
  unfold updI
  rw [if_neg (by omega)]
  exact H j a b
theorem PrfS_le {c c2 : Nat → Int} {n m : Int} (H : PrfS c c2 m) (h : n ≤ m) : PrfS c c2 n := fun i a b => H i a (by omega)
def AgR (c c2 : Nat → Int) (a e : Int) : Prop := ∀ i, a ≤ i → i < e → c2 i.toNat = c i.toNat
theorem AgR_of {c c2 : Nat → Int} {a e n : Int} (H : PrfS c c2 n) (h0 : 0 ≤ a) (h : e ≤ n) : AgR c c2 a e := fun i p q => H i (by omega) (by omega)
theorem AgR_sub {c c2 : Nat → Int} {a e a2 e2 : Int} (H : AgR c c2 a e) (h : a ≤ a2) (h2 : e2 ≤ e) : AgR c c2 a2 e2 := fun i p q => H i (by omega) (by omega)
theorem PthOK_ag {c c2 : Nat → Int} {sz sz2 a e : Int} (H : PthOK c sz a e) (A : AgR c c2 a e) (h : e ≤ sz2) : PthOK c2 sz2 a e := by
  obtain ⟨p1, p2, p3, p4, p5, p6⟩ := H
  have e1 : c2 a.toNat = c a.toNat := A a (by omega) (by omega)
  have e2 : c2 (a + 1).toNat = c (a + 1).toNat := A (a + 1) (by omega) (by omega)
  refine ⟨p1, by rw [e1]; exact p2, by rw [e2]; exact p3, by rw [e2]; exact p4, h, fun j j0 j1 => ?_⟩
  rw [e2] at j1
  rw [A (a + 2 + j) (by omega) (by omega)]
  exact p6 j j0 j1
theorem TkOK_ag {c c2 : Nat → Int} {sz sz2 a e : Int} (H : TkOK c sz a e) (A : AgR c c2 a e) (h : e ≤ sz2) : TkOK c2 sz2 a e := by
  obtain ⟨h0, ⟨q1, q2, q3, q4⟩ | ⟨q1, e1, q2, q3, q4, q5, q6⟩⟩ := H
  · have e1 : c2 a.toNat = c a.toNat := A a (by omega) (by omega)
    have e2 : c2 (a + 1).toNat = c (a + 1).toNat := A (a + 1) (by omega) (by omega)
    exact ⟨h0, Or.inl ⟨by rw [e1]; exact q1, q2, h, by rw [e2]; exact q4⟩⟩
  · have hb := PthOK_box q2
    have e0 : c2 a.toNat = c a.toNat := A a (by omega) (by omega)
    have e2 : c2 (e1 + 1).toNat = c (e1 + 1).toNat := A (e1 + 1) (by omega) (by omega)
    exact ⟨h0, Or.inr ⟨by rw [e0]; exact q1, e1, PthOK_ag q2 (AgR_sub A (by omega) (by omega)) (by omega), q3, h, by rw [e2]; exact q5, by rw [e2]; exact q6⟩⟩
theorem TkOK_box {c : Nat → Int} {sz a e : Int} (H : TkOK c sz a e) : 0 ≤ a ∧ a + 2 ≤ e ∧ e ≤ sz := by
  obtain ⟨h0, ⟨q1, q2, q3, q4⟩ | ⟨q1, e1, q2, q3, q4, q5, q6⟩⟩ := H
  · omega
  · have hb := PthOK_box q2; omega
theorem VlOK_ag {c c2 : Nat → Int} {sz sz2 cnt a e : Int} (H : VlOK c sz cnt a e) (A : AgR c c2 a e) (h : e ≤ sz2) : VlOK c2 sz2 cnt a e := by
  rcases H with q | ⟨q0, q1, q2, q3, q4, q5⟩
  · exact Or.inl (TkOK_ag q A h)
  · have e1 : c2 a.toNat = c a.toNat := A a (by omega) (by omega)
    have e2 : c2 (a + 1).toNat = c (a + 1).toNat := A (a + 1) (by omega) (by omega)
    exact Or.inr ⟨q0, by rw [e1]; exact q1, q2, h, by rw [e2]; exact q4, by rw [e2]; exact q5⟩
theorem PthOK_sz {c : Nat → Int} {sz sz2 a e : Int} (H : PthOK c sz a e) (h : sz ≤ sz2) : PthOK c sz2 a e := PthOK_ag H (fun _ _ _ => rfl) (Int.le_trans H.2.2.2.2.1 h)
theorem TkOK_sz {c : Nat → Int} {sz sz2 a e : Int} (H : TkOK c sz a e) (h : sz ≤ sz2) : TkOK c sz2 a e := TkOK_ag H (fun _ _ _ => rfl) (Int.le_trans (TkOK_box H).2.2 h)
theorem VlOK_sz {c : Nat → Int} {sz sz2 cnt a e : Int} (H : VlOK c sz cnt a e) (h : sz ≤ sz2) : VlOK c sz2 cnt a e := VlOK_ag H (fun _ _ _ => rfl) (Int.le_trans (VlOK_box H).2.2.2 h)
theorem RepOK_sz {c : Nat → Int} {sz sz2 q : Int} {S S2 : Int → Prop} (H : RepOK c sz S q) (h : sz ≤ sz2) (hS : ∀ x, S x → S2 x) : RepOK c sz2 S2 q := ⟨H.1, by have := H.2.1; omega, H.2.2.1, hS _ H.2.2.2.1, hS _ H.2.2.2.2⟩
theorem ActOK_sz {c : Nat → Int} {sz sz2 cnt p : Int} {S S2 : Int → Prop} (H : ActOK c sz cnt S p) (h : sz ≤ sz2) (hS : ∀ x, S x → S2 x) : ActOK c sz2 cnt S2 p := by
  rcases H with ⟨a, b, q⟩ | ⟨a, q⟩ | ⟨a, b, q⟩ | ⟨a, b, q, e1, e2, t1, t2, t3⟩ | ⟨a, b, e, t1, t2, t3⟩
  · exact Or.inl ⟨a, by omega, hS _ q⟩
  · exact Or.inr (Or.inl ⟨a, RepOK_sz q h hS⟩)
  · exact Or.inr (Or.inr (Or.inl ⟨a, by omega, RepOK_sz q h hS⟩))
  · exact Or.inr (Or.inr (Or.inr (Or.inl ⟨a, by omega, hS _ q, e1, e2, TkOK_sz t1 h, TkOK_sz t2 h, hS _ t3⟩)))
  · exact Or.inr (Or.inr (Or.inr (Or.inr ⟨a, by omega, e, PthOK_sz t1 h, VlOK_sz t2 h, hS _ t3⟩)))
def OpnOK (c : Nat → Int) (sz : Int) (S : Int → Prop) (p : Int) : Prop := (c p.toNat = 2 ∧ 0 ≤ p ∧ p + 4 ≤ sz ∧ (0 ≤ c (p + 3).toNat ∧ c (p + 3).toNat ≤ 99) ∧ S (p + 4)) ∨ (c p.toNat = 4 ∧ p + 3 ≤ sz ∧ ∃ e1 e2, TkOK c sz (p + 3) e1 ∧ TkOK c sz e1 e2 ∧ S e2)
theorem OpnOK_sz {c : Nat → Int} {sz sz2 p : Int} {S S2 : Int → Prop} (H : OpnOK c sz S p) (h : sz ≤ sz2) (hS : ∀ x, S x → S2 x) : OpnOK c sz2 S2 p := by
  rcases H with ⟨a, b, q, r, t⟩ | ⟨a, b, e1, e2, t1, t2, t3⟩
  · exact Or.inl ⟨a, b, by omega, r, hS _ t⟩
  · exact Or.inr ⟨a, by omega, e1, e2, TkOK_sz t1 h, TkOK_sz t2 h, hS _ t3⟩
def Opn (op : Nat → Int) (d p : Int) : Prop := ∃ j, 0 ≤ j ∧ j < d ∧ op j.toNat = p
def Agr (c c2 : Nat → Int) (sz : Int) (op : Nat → Int) (d : Int) : Prop := ∀ i, 0 ≤ i → i < sz → (∀ j, 0 ≤ j → j < d → i ≠ op j.toNat + 2) → c2 i.toNat = c i.toNat
def RtI (c : Nat → Int) (sz cnt : Int) (op : Nat → Int) (d : Int) (S : Int → Prop) : Prop := S 0 ∧ S sz ∧ (∀ j, 0 ≤ j → j < d → S (op j.toNat) ∧ 0 ≤ op j.toNat ∧ op j.toNat + 3 ≤ sz) ∧ (∀ i j, 0 ≤ i → i < j → j < d → op i.toNat + 3 ≤ op j.toNat) ∧ ∀ c2, Agr c c2 sz op d → ∀ p, S p → 0 ≤ p ∧ p ≤ sz ∧ (p < sz → (¬ Opn op d p → ActOK c2 sz cnt S p) ∧ (Opn op d p → OpnOK c2 sz S p))
def RtG (c : Nat → Int) (sz cnt : Int) (op : Nat → Int) (d : Int) : Prop := ∃ S : Int → Prop, RtI c sz cnt op d S
theorem RtG_init {c op : Nat → Int} {cnt : Int} : RtG c 0 cnt op 0 := ⟨fun x => x = 0, rfl, rfl, fun j a b => by omega, fun i j a b e => by omega, fun c2 _ p hp => ⟨by omega, by omega, fun h => by omega⟩⟩
theorem RtG_end {c op : Nat → Int} {sz cnt d : Int} (H : RtG c sz cnt op d) (hd : d ≤ 0) : Okp c sz cnt 0 := by
  obtain ⟨S, h0, h1, h2, h3, h4⟩ := H
  refine ⟨S, fun p hp => ?_, h0⟩
  obtain ⟨q0, q1, q2⟩ := h4 c (fun _ _ _ _ => rfl) p hp
  exact ⟨q0, q1, fun h => (q2 h).1 (fun ⟨j, j0, j1, _⟩ => by omega)⟩
theorem RtG_box {c op : Nat → Int} {sz cnt d : Int} (H : RtG c sz cnt op d) : 0 ≤ sz := by
  obtain ⟨S, h0, h1, h2, h3, h4⟩ := H
  exact (h4 c (fun _ _ _ _ => rfl) sz h1).1
theorem RtG_op {c op : Nat → Int} {sz cnt d j x : Int} (H : RtG c sz cnt op d) (j0 : 0 ≤ j) (j1 : j < d) (hx : x = op j.toNat) : 0 ≤ x ∧ x + 3 ≤ sz := by
  obtain ⟨S, h0, h1, h2, h3, h4⟩ := H
  subst hx
  exact (h2 j j0 j1).2
theorem RtG_act {c c2 op : Nat → Int} {sz sz2 cnt d : Int} (H : RtG c sz cnt op d) (P : PrfS c c2 sz) (h : sz < sz2) (ha : ∀ (c3 : Nat → Int) (S : Int → Prop), AgR c2 c3 sz sz2 → S sz2 → ActOK c3 sz2 cnt S sz) : RtG c2 sz2 cnt op d := by
  have hs := RtG_box H
  obtain ⟨S, h0, h1, h2, h3, h4⟩ := H
  have hS : ∀ x, S x → (S x ∨ x = sz2) := fun x q => Or.inl q
  refine ⟨fun x => S x ∨ x = sz2, Or.inl h0, Or.inr rfl, fun j a b => ⟨Or.inl (h2 j a b).1, (h2 j a b).2.1, by have := (h2 j a b).2.2; omega⟩, h3, fun c3 A p hp => ?_⟩
  have A1 : Agr c c3 sz op d := fun i i0 i1 hj => (A i i0 (by omega) hj).trans (P i i0 i1)
  have A2 : AgR c2 c3 sz sz2 := fun i i0 i1 => A i (by omega) i1 (fun j a b => by have := (h2 j a b).2.2; omega)
  rcases hp with hp | hp
  · obtain ⟨q0, q1, q2⟩ := h4 c3 A1 p hp
    refine ⟨q0, by omega, fun hlt => ?_⟩
    by_cases e : p < sz
    · exact ⟨fun n => ActOK_sz ((q2 e).1 n) (by omega) hS, fun n => OpnOK_sz ((q2 e).2 n) (by omega) hS⟩
    · have e2 : p = sz := by omega
      subst e2
      exact ⟨fun _ => ha c3 _ A2 (Or.inr rfl), fun ⟨j, a, b, z⟩ => by have := (h2 j a b).2.2; omega⟩
  · exact ⟨by omega, by omega, fun hlt => by omega⟩
theorem RtG_open {c c2 op op2 : Nat → Int} {sz sz2 cnt d x : Int} (H : RtG c sz cnt op d) (P : PrfS c c2 sz) (h : sz + 3 ≤ sz2) (e : op2 = updI op d.toNat x) (hx : x = sz) (d0 : 0 ≤ d) (ha : ∀ (c3 : Nat → Int) (S : Int → Prop), (∀ i, sz ≤ i → i < sz2 → i ≠ sz + 2 → c3 i.toNat = c2 i.toNat) → S sz2 → OpnOK c3 sz2 S sz) : RtG c2 sz2 cnt op2 (d + 1) := by
  have hs := RtG_box H
  subst hx
  subst e
  obtain ⟨S, h0, h1, h2, h3, h4⟩ := H
  have hS : ∀ y, S y → (S y ∨ y = sz2) := fun y q => Or.inl q
  have o1 : ∀ j, 0 ≤ j → j < d → updI op d.toNat x j.toNat = op j.toNat := fun j a b => by unfold updI; rw [if_neg (by omega)]
  have o2 : updI op d.toNat x d.toNat = x := by unfold updI; rw [if_pos rfl]
  refine ⟨fun y => S y ∨ y = sz2, Or.inl h0, Or.inr rfl, fun j a b => ?_, fun i j a b q => ?_, fun c3 A p hp => ?_⟩
  · rcases (by omega : j < d ∨ j = d) with q | q
    · rw [o1 j a q]; exact ⟨Or.inl (h2 j a q).1, (h2 j a q).2.1, by have := (h2 j a q).2.2; omega⟩
    · subst q; rw [o2]; exact ⟨Or.inl h1, hs, h⟩
  · rcases (by omega : j < d ∨ j = d) with z | z
    · rw [o1 j (by omega) z, o1 i a (by omega)]; exact h3 i j a b z
    · subst z; rw [o2, o1 i a b]; exact (h2 i a b).2.2
  · have A1 : Agr c c3 x op d := fun i i0 i1 hj => by
      refine (A i i0 (by omega) (fun j a b => ?_)).trans (P i i0 i1)
      rcases (by omega : j < d ∨ j = d) with z | z
      · rw [o1 j a z]; exact hj j a z
      · subst z; rw [o2]; omega
    have A2 : ∀ i, x ≤ i → i < sz2 → i ≠ x + 2 → c3 i.toNat = c2 i.toNat := fun i i0 i1 i2 => by
      refine A i (by omega) i1 (fun j a b => ?_)
      rcases (by omega : j < d ∨ j = d) with z | z
      · rw [o1 j a z]; have := (h2 j a z).2.2; omega
      · subst z; rw [o2]; exact i2
    have O1 : ∀ p, p < x → (Opn (updI op d.toNat x) (d + 1) p ↔ Opn op d p) := fun p hp => by
      constructor
      · rintro ⟨j, a, b, z⟩
        rcases (by omega : j < d ∨ j = d) with y | y
        · rw [o1 j a y] at z; exact ⟨j, a, y, z⟩
        · subst y; rw [o2] at z; omega
      · rintro ⟨j, a, b, z⟩
        exact ⟨j, a, by omega, by rw [o1 j a b]; exact z⟩
    rcases hp with hp | hp
    · obtain ⟨q0, q1, q2⟩ := h4 c3 A1 p hp
      refine ⟨q0, by omega, fun hlt => ?_⟩
      by_cases e : p < x
      · exact ⟨fun n => ActOK_sz ((q2 e).1 (fun z => n ((O1 p e).mpr z))) (by omega) hS, fun n => OpnOK_sz ((q2 e).2 ((O1 p e).mp n)) (by omega) hS⟩
      · have e2 : p = x := by omega
        subst e2
        exact ⟨fun n => absurd ⟨d, d0, by omega, o2⟩ n, fun _ => ha c3 _ A2 (Or.inr rfl)⟩
    · exact ⟨by omega, by omega, fun hlt => by omega⟩
theorem Opn_less {op : Nat → Int} {d p : Int} (hp : p ≠ op (d - 1).toNat) : Opn op (d - 1) p ↔ Opn op d p := by
  constructor
  · rintro ⟨j, a, b, z⟩
    exact ⟨j, a, by omega, z⟩
  · rintro ⟨j, a, b, z⟩
    refine ⟨j, a, ?_, z⟩
    by_cases e : j = d - 1
    · subst e; exact absurd z.symm hp
    · omega
theorem RtG_closeR {c c1 c2 op : Nat → Int} {sz sz2 cnt d d2 x y i : Int} (H : RtG c sz cnt op d) (d0 : 1 ≤ d) (hd : d2 = d - 1) (hx : x = op d2.toNat) (hy : y = c x.toNat) (h2 : y = 2) (P : PrfS c c1 sz) (e0 : c1 sz.toNat = 3) (e1 : c1 (sz + 1).toNat = x) (hs2 : sz2 = sz + 2) (e : c2 = updI c1 i.toNat sz2) (hi : i = x + 2) : RtG c2 sz2 cnt op d2 := by
  have hs := RtG_box H
  have hb := RtG_op H (j := d2) (x := x) (by omega) (by omega) hx
  obtain ⟨S, g0, g1, g2, g3, g4⟩ := H
  have hS : ∀ z, S z → (S z ∨ z = sz2) := fun z q => Or.inl q
  have lt : ∀ j, 0 ≤ j → j < d2 → op j.toNat + 3 ≤ x := fun j a b => by rw [hx]; exact g3 j d2 a b (by omega)
  refine ⟨fun z => S z ∨ z = sz2, Or.inl g0, Or.inr rfl, fun j a b => ⟨Or.inl (g2 j a (by omega)).1, (g2 j a (by omega)).2.1, by have := (g2 j a (by omega)).2.2; omega⟩, fun i j a b q => g3 i j a b (by omega), fun c3 A p hp => ?_⟩
  have A1 : Agr c c3 sz op d := fun k k0 k1 hj => by
    have kx : k ≠ x + 2 := by rw [hx]; exact hj d2 (by omega) (by omega)
    rw [A k k0 (by omega) (fun j a b => hj j a (by omega)), e]
    unfold updI
    rw [if_neg (by omega)]
    exact P k k0 k1
  have cx : c3 x.toNat = 2 := by
    rw [A1 x hb.1 (by omega) (fun j a b => ?_)]
    · omega
    · rcases (by omega : j < d2 ∨ j = d2) with z | z
      · have := lt j a z; omega
      · subst z; rw [← hx]; omega
  have ch : c3 (x + 2).toNat = sz2 := by
    rw [A (x + 2) (by omega) (by omega) (fun j a b => by have := lt j a b; omega), e]
    unfold updI
    rw [if_pos (by rw [hi])]
  have cs : ∀ k, sz ≤ k → k < sz2 → c3 k.toNat = c1 k.toNat := fun k k0 k1 => by
    rw [A k (by omega) k1 (fun j a b => by have := lt j a b; omega), e]
    unfold updI
    rw [if_neg (by omega)]
  have rep : RepOK c3 sz2 (fun z => S z ∨ z = sz2) x := by
    have hSx : S x := by rw [hx]; exact (g2 d2 (by omega) (by omega)).1
    obtain ⟨_, _, q2⟩ := g4 c3 A1 x hSx
    rcases (q2 (by omega)).2 ⟨d2, by omega, by omega, hx.symm⟩ with ⟨a, b, q, r, t⟩ | ⟨a, _⟩
    · exact ⟨b, by omega, r, Or.inl t, Or.inr ch⟩
    · omega
  rcases hp with hp | hp
  · obtain ⟨q0, q1, q2⟩ := g4 c3 A1 p hp
    refine ⟨q0, by omega, fun hlt => ?_⟩
    by_cases ep : p < sz
    · by_cases ex : p = x
      · subst ex
        refine ⟨fun _ => Or.inr (Or.inl ⟨cx, rep⟩), fun ⟨j, a, b, z⟩ => by have := lt j a b; omega⟩
      · have ol : Opn op d2 p ↔ Opn op d p := by rw [hd]; exact Opn_less (by rw [← hd, ← hx]; exact ex)
        exact ⟨fun n => ActOK_sz ((q2 ep).1 (fun z => n (ol.mpr z))) (by omega) hS, fun n => OpnOK_sz ((q2 ep).2 (ol.mp n)) (by omega) hS⟩
    · have e2 : p = sz := by omega
      subst e2
      refine ⟨fun _ => Or.inr (Or.inr (Or.inl ⟨by rw [cs p (by omega) (by omega)]; exact e0, by omega, ?_⟩)), fun ⟨j, a, b, z⟩ => by have := lt j a b; omega⟩
      rw [cs (p + 1) (by omega) (by omega), e1]
      exact rep
  · exact ⟨by omega, by omega, fun hlt => by omega⟩
theorem RtG_closeW {c c2 op : Nat → Int} {sz cnt d d2 x y i v : Int} (H : RtG c sz cnt op d) (d0 : 1 ≤ d) (hd : d2 = d - 1) (hx : x = op d2.toNat) (hy : y = c x.toNat) (h2 : ¬ y = 2) (e : c2 = updI c i.toNat v) (hv : v = sz) (hi : i = x + 2) : RtG c2 sz cnt op d2 := by
  have hs := RtG_box H
  have hb := RtG_op H (j := d2) (x := x) (by omega) (by omega) hx
  obtain ⟨S, g0, g1, g2, g3, g4⟩ := H
  have lt : ∀ j, 0 ≤ j → j < d2 → op j.toNat + 3 ≤ x := fun j a b => by rw [hx]; exact g3 j d2 a b (by omega)
  refine ⟨S, g0, g1, fun j a b => g2 j a (by omega), fun i j a b q => g3 i j a b (by omega), fun c3 A p hp => ?_⟩
  have A1 : Agr c c3 sz op d := fun k k0 k1 hj => by
    have kx : k ≠ x + 2 := by rw [hx]; exact hj d2 (by omega) (by omega)
    rw [A k k0 (by omega) (fun j a b => hj j a (by omega)), e]
    unfold updI
    rw [if_neg (by omega)]
  have cx : c3 x.toNat = y := by
    rw [A1 x hb.1 (by omega) (fun j a b => ?_)]
    · exact hy.symm
    · rcases (by omega : j < d2 ∨ j = d2) with z | z
      · have := lt j a z; omega
      · subst z; rw [← hx]; omega
  have ch : c3 (x + 2).toNat = sz := by
    rw [A (x + 2) (by omega) (by omega) (fun j a b => by have := lt j a b; omega), e]
    unfold updI
    rw [if_pos (by rw [hi])]
    exact hv
  obtain ⟨q0, q1, q2⟩ := g4 c3 A1 p hp
  refine ⟨q0, q1, fun ep => ?_⟩
  by_cases ex : p = x
  · subst ex
    refine ⟨fun _ => ?_, fun ⟨j, a, b, z⟩ => by have := lt j a b; omega⟩
    rcases (q2 ep).2 ⟨d2, by omega, by omega, hx.symm⟩ with ⟨a, _⟩ | ⟨a, b, e1, e2, t1, t2, t3⟩
    · omega
    · exact Or.inr (Or.inr (Or.inr (Or.inl ⟨a, b, by rw [ch]; exact g1, e1, e2, t1, t2, t3⟩)))
  · have ol : Opn op d2 p ↔ Opn op d p := by rw [hd]; exact Opn_less (by rw [← hd, ← hx]; exact ex)
    exact ⟨fun n => (q2 ep).1 (fun z => n (ol.mpr z)), fun n => (q2 ep).2 (ol.mp n)⟩
def RtF (c : Nat → Int) (sz cnt : Int) (op : Nat → Int) (d z : Int) : Prop := z = 0 ∨ RtG c sz cnt op d
theorem RtF_get {c op : Nat → Int} {sz cnt d z : Int} (H : RtF c sz cnt op d z) (h : ¬ z = 0) : RtG c sz cnt op d := H.elim (fun q => absurd q h) id
def OkR (c : Nat → Int) (sz cnt z : Int) : Prop := z = 0 ∨ Okp c sz cnt 0
def PaI (c0 c : Nat → Int) (s0 sz n : Int) : Prop := 0 ≤ s0 ∧ PrfS c0 c s0 ∧ (0 ≤ c s0.toNat ∧ c s0.toNat ≤ 7) ∧ c (s0 + 1).toNat = n ∧ sz = s0 + 2 + n ∧ ∀ j, 0 ≤ j → j < n → 0 ≤ c (s0 + 2 + j).toNat ∧ c (s0 + 2 + j).toNat ≤ 999
theorem PaI_init {c0 c1 c2 : Nat → Int} {s0 i r sz : Int} (h0 : 0 ≤ s0) (e1 : c1 = updI c0 s0.toNat r) (hr : 0 ≤ r ∧ r ≤ 7) (e2 : c2 = updI c1 i.toNat 0) (hi : i = s0 + 1) (hs : sz = s0 + 2) : PaI c0 c2 s0 sz 0 := by
  subst hi
  subst e1
  subst e2
  refine ⟨h0, PrfS_upd (PrfS_upd PrfS_rf rfl h0 (by omega)) rfl h0 (by omega), ?_, ?_, by omega, fun j a b => by omega⟩
  · unfold updI; rw [if_neg (by omega), if_pos rfl]; exact hr
  · unfold updI; rw [if_pos rfl]
theorem PaI_step {c0 c c1 c2 : Nat → Int} {s0 sz n v i k w : Int} (H : PaI c0 c s0 sz n) (e1 : c1 = updI c i.toNat v) (hi : i = sz) (hv : 0 ≤ v ∧ v ≤ 999) (e2 : c2 = updI c1 k.toNat w) (hk : k = s0 + 1) (hw : w = n + 1) (n0 : 0 ≤ n) : PaI c0 c2 s0 (sz + 1) (n + 1) := by
  subst hi
  subst hk
  subst e1
  subst e2
  obtain ⟨h0, h1, h2, h3, h4, h5⟩ := H
  have up : ∀ x, 0 ≤ x → x ≠ s0 + 1 → x ≠ i → updI (updI c i.toNat v) (s0 + 1).toNat w x.toNat = c x.toNat := fun x x0 a b => by
    unfold updI; rw [if_neg (by omega), if_neg (by omega)]
  refine ⟨h0, PrfS_upd (PrfS_upd h1 rfl h0 (by omega)) rfl h0 (by omega), ?_, ?_, by omega, fun j a b => ?_⟩
  · rw [up s0 h0 (by omega) (by omega)]; exact h2
  · unfold updI; rw [if_pos rfl]; exact hw
  · rcases (by omega : j < n ∨ j = n) with q | q
    · rw [up _ (by omega) (by omega) (by omega)]; exact h5 j a q
    · subst q
      unfold updI
      rw [if_neg (by omega), if_pos (by omega)]
      exact hv
def PthG (c0 c : Nat → Int) (s0 sz z : Int) : Prop := z = 0 ∨ (PrfS c0 c s0 ∧ PthOK c sz s0 sz)
theorem PthG_of {c0 c : Nat → Int} {s0 sz n z : Int} (H : PaI c0 c s0 sz n) (h : 0 ≤ n ∧ n ≤ 6) : PthG c0 c s0 sz z := by
  obtain ⟨h0, h1, h2, h3, h4, h5⟩ := H
  refine Or.inr ⟨h1, h0, h2, by rw [h3]; exact h, by rw [h3]; exact h4, Int.le_refl _, fun j a b => h5 j a (by rw [h3] at b; exact b)⟩
theorem PthG_get {c0 c : Nat → Int} {s0 sz z : Int} (H : PthG c0 c s0 sz z) (h : ¬ z = 0) : PrfS c0 c s0 ∧ PthOK c sz s0 sz := H.elim (fun q => absurd q h) id
def MvG (c0 c : Nat → Int) (s0 z : Int) : Prop := z = 0 ∨ (PrfS c0 c s0 ∧ -999 ≤ c (s0 + 1).toNat ∧ c (s0 + 1).toNat ≤ 999)
theorem MvG_mk {c0 c1 c2 : Nat → Int} {s0 i v w z : Int} (h0 : 0 ≤ s0) (e1 : c1 = updI c0 s0.toNat v) (e2 : c2 = updI c1 i.toNat w) (hi : i = s0 + 1) (hw : -999 ≤ w ∧ w ≤ 999) : MvG c0 c2 s0 z := by
  subst hi
  subst e1
  subst e2
  refine Or.inr ⟨PrfS_upd (PrfS_upd PrfS_rf rfl h0 (by omega)) rfl h0 (by omega), ?_⟩
  unfold updI; rw [if_pos rfl]; exact hw
def VlG (c0 c : Nat → Int) (s0 sz cnt may z : Int) : Prop := z = 0 ∨ (PrfS c0 c s0 ∧ VlOK c sz cnt s0 sz ∧ (may = 0 → TkOK c sz s0 sz))
theorem VlG_tk {c0 c : Nat → Int} {s0 sz cnt may z : Int} (P : PrfS c0 c s0) (T : TkOK c sz s0 sz) : VlG c0 c s0 sz cnt may z := Or.inr ⟨P, Or.inl T, fun _ => T⟩
theorem VlG_const {c0 c1 c2 : Nat → Int} {s0 sz cnt may z i v : Int} (h0 : 0 ≤ s0) (e1 : c1 = updI c0 s0.toNat 0) (e2 : c2 = updI c1 i.toNat v) (hi : i = s0 + 1) (hs : sz = s0 + 2) (hv : (1000 ≤ v ∧ v ≤ 1999) ∨ v = 3047) : VlG c0 c2 s0 sz cnt may z := by
  subst hi
  subst e1
  subst e2
  refine VlG_tk (PrfS_upd (PrfS_upd PrfS_rf rfl h0 (by omega)) rfl h0 (by omega)) ⟨h0, Or.inl ⟨?_, hs, by omega, ?_⟩⟩
  · unfold updI; rw [if_neg (by omega), if_pos rfl]
  · unfold updI; rw [if_pos rfl]; exact hv
theorem VlG_made {c0 c1 c2 : Nat → Int} {s0 sz cnt may z i v : Int} (h0 : 0 ≤ s0) (e1 : c1 = updI c0 s0.toNat 1) (e2 : c2 = updI c1 i.toNat v) (hi : i = s0 + 1) (hs : sz = s0 + 2) (hv : 0 ≤ v ∧ v < cnt) (hm : ¬ may = 0) : VlG c0 c2 s0 sz cnt may z := by
  subst hi
  subst e1
  subst e2
  refine Or.inr ⟨PrfS_upd (PrfS_upd PrfS_rf rfl h0 (by omega)) rfl h0 (by omega), Or.inr ⟨h0, ?_, hs, by omega, ?_⟩, fun q => absurd q hm⟩
  · unfold updI; rw [if_neg (by omega), if_pos rfl]
  · unfold updI; rw [if_pos rfl]; exact hv
theorem VlG_path {c0 c1 c2 c3 : Nat → Int} {s0 s1 e1 sz cnt may z za zb : Int} (h0 : 0 ≤ s0) (E : c1 = updI c0 s0.toNat 2) (hs1 : s1 = s0 + 1) (P : PthG c1 c2 s1 e1 za) (ha : ¬ za = 0) (M : MvG c2 c3 e1 zb) (hb : ¬ zb = 0) (hs : sz = e1 + 2) : VlG c0 c3 s0 sz cnt may z := by
  obtain ⟨p1, p2⟩ := PthG_get P ha
  have hx := PthOK_box p2
  obtain ⟨m1, m2, m3⟩ : PrfS c2 c3 e1 ∧ -999 ≤ c3 (e1 + 1).toNat ∧ c3 (e1 + 1).toNat ≤ 999 := M.elim (fun q => absurd q hb) id
  have k1 : PrfS c1 c3 s1 := PrfS_tr p1 m1 (by omega)
  subst hs1
  subst E
  refine VlG_tk (PrfS_tr (PrfS_upd PrfS_rf rfl h0 (Int.le_refl _)) k1 (by omega)) ⟨h0, Or.inr ⟨?_, e1, PthOK_ag p2 (AgR_of m1 (by omega) (Int.le_refl _)) (by omega), hs, by omega, m2, m3⟩⟩
  rw [k1 s0 h0 (by omega)]
  unfold updI; rw [if_pos rfl]
theorem VlG_get {c0 c : Nat → Int} {s0 sz cnt may z : Int} (H : VlG c0 c s0 sz cnt may z) (h : ¬ z = 0) : PrfS c0 c s0 ∧ VlOK c sz cnt s0 sz ∧ (may = 0 → TkOK c sz s0 sz) := H.elim (fun q => absurd q h) id
