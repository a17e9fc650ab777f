def flN (g : Nat → Int) : Nat → Int := fun j => g (j + 6)
def mE (r : Nat → Int) : Int → Int := mI (enc r)
def HdOf (M : Int → Int) (t h : Int) : Prop := h ≤ t ∧ 5096 ≤ M h ∧ ∀ y, h < y → y ≤ t → M y < 5096
theorem HdOf_uq {M : Int → Int} {t h h2 : Int} (A : HdOf M t h) (B : HdOf M t h2) : h = h2 := by
  obtain ⟨a1, a2, a3⟩ := A
  obtain ⟨b1, b2, b3⟩ := B
  rcases (by omega : h < h2 ∨ h = h2 ∨ h2 < h) with q | q | q
  · have := a3 h2 q b1; omega
  · exact q
  · have := b3 h q a1; omega
def PtT (M : Int → Int) (x t : Int) : Prop := 3048 ≤ M x ∧ M x ≤ 3207 ∧ t = M x - 3048
def RfF (M : Int → Int) (fl sr : Nat → Int) (h x : Int) : Prop := ∃ k, 0 ≤ k ∧ k < fl (M h - 5096).toNat ∧ sr (36 + 6 * (M h - 5096) + k).toNat = 1 ∧ x = h + 1 + k
def ClS (M : Int → Int) (fl sr : Nat → Int) (S : Int → Prop) : Prop := (∀ r t h, -8 ≤ r → r < 0 → PtT M r t → HdOf M t h → S h) ∧ ∀ h x t h2, S h → 5096 ≤ M h → RfF M fl sr h x → PtT M x t → HdOf M t h2 → S h2
def Rch (M : Int → Int) (fl sr : Nat → Int) (h : Int) : Prop := ∀ S : Int → Prop, ClS M fl sr S → S h
theorem Rch_cl {M : Int → Int} {fl sr : Nat → Int} : ClS M fl sr (Rch M fl sr) := ⟨fun r t h a b c d S hS => hS.1 r t h a b c d, fun h x t h2 a b c d e S hS => hS.2 h x t h2 (a S hS) b c d e⟩
def LvWd (M : Int → Int) (fl sr : Nat → Int) (a : Int) : Prop := ∃ h, HdOf M a h ∧ Rch M fl sr h
def LvE (M : Int → Int) (fl sr : Nat → Int) (lim w : Int) (lv : Nat → Int) (m : Int) : Prop := 0 ≤ m ∧ (∀ i, 0 ≤ i → i < m → lim ≤ aI lv i ∧ aI lv i < w ∧ LvWd M fl sr (aI lv i)) ∧ (∀ i j, 0 ≤ i → i < j → j < m → aI lv i < aI lv j) ∧ ∀ a, lim ≤ a → a < w → LvWd M fl sr a → ∃ i, 0 ≤ i ∧ i < m ∧ aI lv i = a
theorem LvE_le {M : Int → Int} {fl sr : Nat → Int} {lim w : Int} {lv lv2 : Nat → Int} {m m2 : Int} (A : LvE M fl sr lim w lv m) (B : LvE M fl sr lim w lv2 m2) : ∀ n : Nat, (n : Int) < m → (n : Int) < m2 ∧ aI lv n = aI lv2 n := by
  intro n
  induction n using Nat.strongRecOn with
  | ind n ih =>
    intro hn
    obtain ⟨a0, a1, a2, a3⟩ := A
    obtain ⟨b0, b1, b2, b3⟩ := B
    have p := a1 n (by omega) hn
    obtain ⟨k, k0, k1, k2⟩ := b3 _ p.1 p.2.1 p.2.2
    have hk : (n : Int) ≤ k := by
      rcases (by omega : (n : Int) ≤ k ∨ k < n) with q | q
      · exact q
      · exfalso
        have e := (ih k.toNat (by omega) (by omega)).2
        rw [(by omega : ((k.toNat : Nat) : Int) = k)] at e
        have z := a2 k n k0 q hn
        omega
    have hm : (n : Int) < m2 := by omega
    refine ⟨hm, ?_⟩
    have p2 := b1 n (by omega) hm
    obtain ⟨j, j0, j1, j2⟩ := a3 _ p2.1 p2.2.1 p2.2.2
    have hj : (n : Int) ≤ j := by
      rcases (by omega : (n : Int) ≤ j ∨ j < n) with q | q
      · exact q
      · exfalso
        have e := (ih j.toNat (by omega) (by omega)).2
        rw [(by omega : ((j.toNat : Nat) : Int) = j)] at e
        have z := b2 j n j0 q hm
        omega
    have l1 : aI lv2 n ≤ aI lv n := by
      rcases (by omega : (n : Int) = k ∨ (n : Int) < k) with q | q
      · have e : aI lv2 (n : Int) = aI lv2 k := by rw [q]
        omega
      · have := b2 n k (by omega) q k1; omega
    have l2 : aI lv n ≤ aI lv2 n := by
      rcases (by omega : (n : Int) = j ∨ (n : Int) < j) with q | q
      · have e : aI lv (n : Int) = aI lv j := by rw [q]
        omega
      · have := a2 n j (by omega) q j1; omega
    omega
theorem LvE_uq {M : Int → Int} {fl sr : Nat → Int} {lim w : Int} {lv lv2 : Nat → Int} {m m2 : Int} (A : LvE M fl sr lim w lv m) (B : LvE M fl sr lim w lv2 m2) : m = m2 ∧ ∀ i, 0 ≤ i → i < m → aI lv i = aI lv2 i := by
  have h1 := LvE_le A B
  have h2 := LvE_le B A
  have ma := A.1
  have mb := B.1
  refine ⟨?_, fun i i0 i1 => ?_⟩
  · rcases (by omega : m = m2 ∨ m < m2 ∨ m2 < m) with q | q | q
    · exact q
    · have := (h2 m.toNat (by omega)).1; omega
    · have := (h1 m2.toNat (by omega)).1; omega
  · have := (h1 i.toNat (by omega)).2
    rw [(by omega : ((i.toNat : Nat) : Int) = i)] at this
    exact this
def StpN (me m b : Int) (n : Int) : Prop := (me = 0 ∧ n = 10 + 2 * m) ∨ (¬ me = 0 ∧ n = 10 + b + m)
def DnP (fl sr r : Nat → Int) (w : Int) : Prop := r (3 : Int).toNat = 1 → ∃ (lv : Nat → Int) (m n : Int), LvE (mE r) fl sr (r (1 : Int).toNat) w lv m ∧ StpN (r (0 : Int).toNat) m (ub (aI lv) m.toNat) n ∧ 0 ≤ r (4 : Int).toNat ∧ r (4 : Int).toNat < n
def NwI (cnt : Int) (g sr r : Nat → Int) (w : Int) : Prop := RowS r ∧ VM cnt (flN g) (enc r) (r (1 : Int).toNat) w ∧ ((0 ≤ r (0 : Int).toNat ∧ r (0 : Int).toNat ≤ 1) ∧ (0 ≤ r (3 : Int).toNat ∧ r (3 : Int).toNat ≤ 1) ∧ (0 ≤ r (5 : Int).toNat ∧ r (5 : Int).toNat ≤ 20)) ∧ DnP (flN g) sr r w
def KoN (cnt : Int) (g : Nat → Int) : Prop := KOK cnt (flN g)
theorem VM_fl {cnt : Int} {fl fl2 h : Nat → Int} {lim w : Int} (H : VM cnt fl h lim w) (e : ∀ j : Nat, (j : Int) < cnt → fl2 j = fl j) : VM cnt fl2 h lim w := by
  obtain ⟨b0, b1, b2, b3⟩ := H
  refine ⟨b0, b1, fun a a0 a1 => ?_, b3⟩
  rcases b2 a a0 a1 with z | ⟨d1, d2, d3, d4, d5, d6⟩
  · exact Or.inl z
  · right
    have e1 : aI fl2 (mI h a - 5096) = aI fl (mI h a - 5096) := e _ (by omega)
    unfold LHd
    rw [e1]
    exact ⟨d1, d2, d3, d4, d5, d6⟩
theorem NwI_up {cnt : Int} {g g2 sr sr2 r : Nat → Int} {w : Int} (H : NwI cnt g sr r w) (U : UpK g g2 6) (V : UpK sr sr2 36) : NwI cnt g2 sr2 r w := by
  have e : flN g2 = flN g := funext (fun j => U (j + 6) (by omega))
  obtain ⟨a, b, c, d⟩ := H
  refine ⟨a, by rw [e]; exact b, c, ?_⟩
  rw [e]
  intro h3
  obtain ⟨lv, m, n, l1, l2, l3, l4⟩ := d h3
  refine ⟨lv, m, n, ?_, l2, l3, l4⟩
  have hb := VM_box b
  -- the sorts that are read lie from 36 on, where both are alike
  have rf : ∀ h x, 5096 ≤ mE r h → (RfF (mE r) (flN g) sr2 h x ↔ RfF (mE r) (flN g) sr h x) := fun h x hh => by
    constructor
    · rintro ⟨k, k0, k1, k2, k3⟩
      exact ⟨k, k0, k1, by rw [← V (36 + 6 * (mE r h - 5096) + k).toNat (by omega)]; exact k2, k3⟩
    · rintro ⟨k, k0, k1, k2, k3⟩
      exact ⟨k, k0, k1, by rw [V (36 + 6 * (mE r h - 5096) + k).toNat (by omega)]; exact k2, k3⟩
  have cl : ∀ S, ClS (mE r) (flN g) sr2 S ↔ ClS (mE r) (flN g) sr S := fun S => by
    constructor
    · exact fun q => ⟨q.1, fun h x t h2 s1 s2 s3 s4 s5 => q.2 h x t h2 s1 s2 ((rf h x s2).mpr s3) s4 s5⟩
    · exact fun q => ⟨q.1, fun h x t h2 s1 s2 s3 s4 s5 => q.2 h x t h2 s1 s2 ((rf h x s2).mp s3) s4 s5⟩
  have rc : ∀ h, Rch (mE r) (flN g) sr2 h ↔ Rch (mE r) (flN g) sr h := fun h => by
    constructor
    · exact fun q S hS => q S ((cl S).mpr hS)
    · exact fun q S hS => q S ((cl S).mp hS)
  have lw : ∀ a, LvWd (mE r) (flN g) sr2 a ↔ LvWd (mE r) (flN g) sr a := fun a => by
    constructor
    · rintro ⟨h, h1, h2⟩; exact ⟨h, h1, (rc h).mp h2⟩
    · rintro ⟨h, h1, h2⟩; exact ⟨h, h1, (rc h).mpr h2⟩
  exact ⟨l1.1, fun i i0 i1 => ⟨(l1.2.1 i i0 i1).1, (l1.2.1 i i0 i1).2.1, (lw _).mpr (l1.2.1 i i0 i1).2.2⟩, l1.2.2.1, fun a a0 a1 a2 => l1.2.2.2 a a0 a1 ((lw a).mp a2)⟩
theorem KoN_up {cnt : Int} {g g2 : Nat → Int} (H : KoN cnt g) (U : UpK g g2 6) : KoN cnt g2 := by
  have e : flN g2 = flN g := funext (fun j => U (j + 6) (by omega))
  unfold KoN
  rw [e]
  exact H
theorem NwI_new {cnt : Int} {g0 g sr la r : Nat → Int} {w : Int} (H : LdI 0 cnt g0 la w) (hc : 0 ≤ cnt) (Fd : FdI g0 g 6 6) (C : CpI la r 422) : NwI cnt g sr r w := by
  have c : ∀ j : Nat, j < 422 → r j = la j := fun j hj => C j (by omega)
  obtain ⟨a1, a2, a3, a4⟩ := H
  have a5 := a4 rfl
  have hb := VM_box a2
  have en : ∀ x, Dm x → enc r (x + 8).toNat = enc la (x + 8).toNat := fun x hx => by
    have h8 := hx.1
    have h9 := hx.2
    rw [enc_at hx.1, enc_at hx.1, c _ (by omega), c _ (by omega)]
  refine ⟨fun x hx => ?_, ?_, ?_, fun h3 => ?_⟩
  · have h8 := hx.1
    have h9 := hx.2
    rw [c _ (by omega), c _ (by omega)]
    exact a1 x hx
  · rw [c _ (by decide)]
    refine VM_cong (VM_fl a2 (fun j hj => ?_)) en
    show g (j + 6) = g0 j
    have := Fd.2 j (by omega)
    rw [(by omega : (6 : Int).toNat + j = j + 6)] at this
    exact this
  · rw [c _ (by decide : (0 : Int).toNat < 422), c _ (by decide : (3 : Int).toNat < 422), c _ (by decide : (5 : Int).toNat < 422)]
    have := a3
    omega
  · rw [c _ (by decide : (3 : Int).toNat < 422)] at h3
    have := a3
    omega
theorem KoN_new {cnt : Int} {g0 g : Nat → Int} (H : KOK cnt g0) (hc : cnt ≤ 6) (Fd : FdI g0 g 6 6) : KoN cnt g := by
  intro k k0 k1
  have := Fd.2 k.toNat (by omega)
  rw [(by omega : (6 : Int).toNat + k.toNat = k.toNat + 6)] at this
  show 1 ≤ g (k.toNat + 6) ∧ g (k.toNat + 6) ≤ 6
  rw [this]
  exact H k k0 k1
def HpI (g : Nat → Int) (r : Int) : Prop := (∀ j : Nat, j < 86 → g j = 0) ∧ ∀ x, Dm x → (x < r → g (2 * x + 102).toNat = 1 ∧ g (2 * x + 103).toNat = -1) ∧ (r ≤ x → g (2 * x + 102).toNat = 0 ∧ g (2 * x + 103).toNat = 0)
def ZrT' (g : Nat → Int) (i : Int) : Prop := ∀ j : Nat, (j : Int) < i → g j = 0
theorem ZrT_init {g : Nat → Int} : ZrT g 0 := fun j h => by omega
theorem ZrT_step {g g2 : Nat → Int} {i k : Int} (H : ZrT g i) (e : g2 = updI g k.toNat 0) (hk : k = i) (h0 : 0 ≤ i) : ZrT g2 (i + 1) := by
  subst hk
  intro j hj
  rw [e]
  unfold updI
  by_cases q : j = k.toNat
  · rw [if_pos q]
  · rw [if_neg q]; exact H j (by omega)
theorem HpI_init {g : Nat → Int} {i : Int} (H : ZrT g i) (h : 422 ≤ i) : HpI g (-8) := ⟨fun j hj => H j (by omega), fun x hx => ⟨fun q => by have := hx.1; omega, fun _ => ⟨H _ (by have := hx.1; have := hx.2; omega), H _ (by have := hx.1; have := hx.2; omega)⟩⟩⟩
theorem HpI_step {g g2 : Nat → Int} {r : Int} (H : HpI g r) (K : HldR g g2 r 1 (-1)) : HpI g2 (r + 1) := by
  refine ⟨fun j hj => (K.1 j hj).trans (H.1 j hj), fun x hx => ⟨fun q => ?_, fun q => ?_⟩⟩
  · rcases (by omega : x = r ∨ x < r) with z | z
    · rw [z]; exact K.2.1
    · rw [(K.2.2 x hx (by omega)).1, (K.2.2 x hx (by omega)).2]; exact (H.2 x hx).1 z
  · rw [(K.2.2 x hx (by omega)).1, (K.2.2 x hx (by omega)).2]; exact (H.2 x hx).2 (by omega)
theorem LdI_new {bad cnt : Int} {fl g g2 : Nat → Int} {r w v i : Int} (H : HpI g r) (hr : r = 0) (e : g2 = updI g i.toNat v) (hi : i = 1) (hv : v = w) (h0 : 0 ≤ w ∧ w ≤ 160) (hc : cnt ≤ 6) : LdI bad cnt fl g2 w := by
  subst hi
  subst hr
  have u : ∀ j : Nat, ¬ j = 1 → g2 j = g j := fun j hj => by rw [e]; unfold updI; rw [if_neg (by simpa using hj)]
  have u1 : g2 (1 : Int).toNat = w := by rw [e]; unfold updI; rw [if_pos rfl]; exact hv
  have c : ∀ x, Dm x → g2 (2 * x + 102).toNat = g (2 * x + 102).toNat ∧ g2 (2 * x + 103).toNat = g (2 * x + 103).toNat := fun x hx => by
    have h8 := hx.1
    exact ⟨u _ (by omega), u _ (by omega)⟩
  have z : ∀ j : Nat, j < 86 → ¬ j = 1 → g2 j = 0 := fun j hj hn => (u j hn).trans (H.1 j hj)
  refine ⟨fun x hx => ?_, ?_, ⟨z _ (by decide) (by decide), z _ (by decide) (by decide), z _ (by decide) (by decide), z _ (by decide) (by decide)⟩, fun _ => by rw [z _ (by decide : (0 : Int).toNat < 86) (by decide)]; omega⟩
  · rw [(c x hx).1, (c x hx).2]
    unfold WdOK
    rcases (by omega : x < 0 ∨ 0 ≤ x) with q | q
    · have := (H.2 x hx).1 q; omega
    · have := (H.2 x hx).2 q; omega
  · rw [u1]
    refine ⟨⟨h0.1, Int.le_refl _, h0.2, hc⟩, fun x x0 x1 => ?_, fun a a0 a1 => by omega, fun q => by omega⟩
    have hx : Dm x := ⟨x0, by omega⟩
    have q := (H.2 x hx).1 x1
    show Pl w w (enc g2 (x + 8).toNat)
    rw [enc_at x0, (c x hx).1, (c x hx).2, q.1, q.2]
    exact Or.inr (Or.inl (by omega))
def LdB (bad cnt : Int) (fl r : Nat → Int) (w : Int) (cf : Nat → Int) (n : Int) : Prop := bad = 0 → LdI bad cnt fl r w ∧ CbE cf r w n ∧ KOK cnt fl
theorem LdB_mk {bad cnt : Int} {fl r : Nat → Int} {w : Int} {cf : Nat → Int} {n : Int} (h : bad = 0 → LdI bad cnt fl r w ∧ CbE cf r w n ∧ KOK cnt fl) : LdB bad cnt fl r w cf n := h
theorem LdB_get {bad cnt : Int} {fl r : Nat → Int} {w : Int} {cf : Nat → Int} {n : Int} (H : LdB bad cnt fl r w cf n) (h : bad = 0) : LdI bad cnt fl r w ∧ CbE cf r w n ∧ KOK cnt fl := H h
