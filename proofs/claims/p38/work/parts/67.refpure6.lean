theorem LvWd_of {M : Int → Int} {fl sr : Nat → Int} {lim w cnt : Int} {f : Int → Int} (_ : Lay cnt f M lim w) {a b h : Int} (H : HdOf M a h) (hb : h ≤ b) (hab : ∀ y, a < y → y ≤ b → M y < 5096) (R : Rch M fl sr h) : LvWd M fl sr b := ⟨h, ⟨hb, H.2.1, fun y y0 y1 => by
  rcases (by omega : y ≤ a ∨ a < y) with q | q
  · exact H.2.2 y y0 q
  · exact hab y q y1⟩, R⟩
theorem LvE_mono {M : Int → Int} {fl sr : Nat → Int} {lim w : Int} {lv : Nat → Int} {m i j : Int} (A : LvE M fl sr lim w lv m) (i0 : 0 ≤ i) (h : i ≤ j) (j1 : j < m) : aI lv i ≤ aI lv j := by
  rcases (by omega : i = j ∨ i < j) with q | q
  · rw [q]; exact Int.le_refl _
  · have := A.2.2.1 i j i0 q j1; omega
theorem LvE_next {M : Int → Int} {fl sr : Nat → Int} {lim w : Int} {lv : Nat → Int} {m i : Int} (A : LvE M fl sr lim w lv m) (i0 : 0 ≤ i) (i1 : i < m) (h : aI lv i + 1 < w) (L : LvWd M fl sr (aI lv i + 1)) : i + 1 < m ∧ aI lv (i + 1) = aI lv i + 1 := by
  have p := A.2.1 i i0 i1
  obtain ⟨k, k0, k1, k2⟩ := A.2.2.2 (aI lv i + 1) (by omega) h L
  have hk : i < k := by
    rcases (by omega : i < k ∨ k ≤ i) with q | q
    · exact q
    · have := LvE_mono A k0 q i1; omega
  rcases (by omega : k = i + 1 ∨ i + 1 < k) with q | q
  · subst q; exact ⟨k1, k2⟩
  · have a1 := A.2.2.1 i (i + 1) i0 (by omega) (by omega)
    have a2 := A.2.2.1 (i + 1) k (by omega) q k1
    omega
theorem LvE_prev {M : Int → Int} {fl sr : Nat → Int} {lim w : Int} {lv : Nat → Int} {m i : Int} (A : LvE M fl sr lim w lv m) (i0 : 0 ≤ i) (i1 : i < m) (h : lim ≤ aI lv i - 1) (L : LvWd M fl sr (aI lv i - 1)) : 1 ≤ i ∧ aI lv (i - 1) = aI lv i - 1 := by
  have p := A.2.1 i i0 i1
  obtain ⟨k, k0, k1, k2⟩ := A.2.2.2 (aI lv i - 1) h (by omega) L
  have hk : k < i := by
    rcases (by omega : k < i ∨ i ≤ k) with q | q
    · exact q
    · have := LvE_mono A i0 q k1; omega
  rcases (by omega : k = i - 1 ∨ k < i - 1) with q | q
  · subst q; exact ⟨by omega, k2⟩
  · have a1 := A.2.2.1 (i - 1) i (by omega) (by omega) i1
    have a2 := A.2.2.1 k (i - 1) k0 q (by omega)
    omega
theorem HdOf_lim {cnt : Int} {f M : Int → Int} {lim w t h : Int} (L : Lay cnt f M lim w) (t0 : lim ≤ t) (t1 : t < w) (H : HdOf M t h) : lim ≤ h := by
  rcases (by omega : lim ≤ h ∨ h < lim) with q | q
  · exact q
  · have a := H.2.2 lim q t0
    have b := L.2.2.2 (by omega)
    omega
theorem LvS_of {cnt : Int} {g sr r lv : Nat → Int} {w m : Int} (H : NwI cnt g sr r w) (A : LvE (mE r) (flN g) sr (r (1 : Int).toNat) w lv m) : LvS (aI (flN g)) (mE r) (aI lv) (r (1 : Int).toNat) w m := by
  have hb := VM_box H.2.1
  have L : Lay cnt (aI (flN g)) (mE r) (r (1 : Int).toNat) w := H.2.1
  refine ⟨A.1, fun i i0 i1 => ⟨(A.2.1 i i0 i1).1, (A.2.1 i i0 i1).2.1⟩, fun i i0 i1 => A.2.2.1 i (i + 1) i0 (by omega) i1, fun i i0 i1 h => ?_, fun i i0 i1 h => ?_⟩
  · have p := A.2.1 i i0 i1
    obtain ⟨hd, p1, p2⟩ := p.2.2
    have e : hd = aI lv i := by
      rcases (by have := p1.1; omega : hd = aI lv i ∨ hd < aI lv i) with q | q
      · exact q
      · have := p1.2.2 _ q (Int.le_refl _); omega
    have hh := Nw_head H p.1 p.2.1 h
    have hc := Nw_cell H p.1 p.2.1 h
    have ef : aI (flN g) (mE r (aI lv i) - 5096) = g (r (2 * aI lv i + 103).toNat + 6).toNat := by
      show g ((mE r (aI lv i) - 5096).toNat + 6) = _
      have e := enc_at (r := r) (x := aI lv i) (by omega)
      have e3 : mE r (aI lv i) = enc r (aI lv i + 8).toNat := rfl
      congr 1
      omega
    rw [ef]
    have key : ∀ j : Nat, (j : Int) ≤ g (r (2 * aI lv i + 103).toNat + 6).toNat → i + (j : Int) < m ∧ aI lv (i + (j : Int)) = aI lv i + (j : Int) := by
      intro j
      induction j with
      | zero => intro _; exact ⟨by omega, by rw [(by omega : i + ((0 : Nat) : Int) = i)]; omega⟩
      | succ j ih =>
        intro hj
        obtain ⟨q1, q2⟩ := ih (by omega)
        have n := LvE_next A (i := i + (j : Int)) (by omega) q1 (by omega) (by
          rw [q2]
          refine ⟨hd, ⟨by omega, p1.2.1, fun y y0 y1 => ?_⟩, p2⟩
          have z := hc.1 (y - aI lv i) (by omega) (by omega)
          rw [(by omega : aI lv i + (y - aI lv i) = y)] at z
          exact z)
        rw [(by omega : i + ((j + 1 : Nat) : Int) = i + (j : Int) + 1)]
        exact ⟨n.1, by rw [n.2, q2]; omega⟩
    intro j j1 j2
    have z := key j.toNat (by omega)
    rw [(by omega : ((j.toNat : Nat) : Int) = j)] at z
    exact z
  · have p := A.2.1 i i0 i1
    obtain ⟨hd, p1, p2⟩ := p.2.2
    have hl := HdOf_lim L p.1 p.2.1 p1
    have hn : hd < aI lv i := by
      rcases (by have := p1.1; omega : hd = aI lv i ∨ hd < aI lv i) with q | q
      · have := p1.2.1; rw [q] at this; omega
      · exact q
    exact LvE_prev A i0 i1 (by omega) ⟨hd, ⟨by omega, p1.2.1, fun y y0 y1 => p1.2.2 y y0 (by omega)⟩, p2⟩
theorem RegL_of {cnt : Int} {g sr co fo r lv : Nat → Int} {w n m : Int} (H : NwI cnt g sr r w) (L : LyS co fo r w n) (A : LvE (mE r) (flN g) sr (r (1 : Int).toNat) w lv m) : RegL (mE r) (aI lv) m := by
  intro x x0 x1 p1 p2
  have e := enc_at (r := r) (x := x) (by omega)
  have k := H.1 x ⟨by omega, by omega⟩
  unfold WdOK at k
  have e3 : mE r x = enc r (x + 8).toNat := rfl
  have q := Nw_ptr H (Or.inl ⟨x0, x1⟩) (by omega) (by omega)
  have hd := LyS_co L q.1 q.2.1 (x := aI co (r (2 * x + 103).toNat)) rfl
  have hr : LvWd (mE r) (flN g) sr (r (2 * x + 103).toNat) := ⟨_, hd.2.2, Rch_cl.1 x _ _ x0 x1 q.2.2 hd.2.2⟩
  obtain ⟨k, k0, k1, k2⟩ := A.2.2.2 _ q.1 q.2.1 hr
  refine ⟨k, k0, k1, ?_⟩
  have := q.2.2
  unfold PtT at this
  omega
def LvA (co lv : Nat → Int) (a z : Int) : Prop := (z = 0 ∧ (aI co a = -1 ∨ aI lv (aI co a) = 0)) ∨ (z = 1 ∧ 0 ≤ aI co a ∧ aI lv (aI co a) = 1)
theorem LvA_n {co lv : Nat → Int} {a x : Int} (e : x = co a.toNat) (h : x = -1) : LvA co lv a 0 := Or.inl ⟨rfl, Or.inl (by show co a.toNat = -1; omega)⟩
theorem LvA_0 {co lv : Nat → Int} {a x y : Int} (e : x = co a.toNat) (e2 : y = lv x.toNat) (h : y = 0) : LvA co lv a 0 := by
  subst e
  exact Or.inl ⟨rfl, Or.inr (by show lv (co a.toNat).toNat = 0; omega)⟩
theorem LvA_1 {co lv : Nat → Int} {a x y : Int} (e : x = co a.toNat) (e2 : y = lv x.toNat) (h : y = 1) (h0 : 0 ≤ x) : LvA co lv a 1 := by
  subst e
  exact Or.inr ⟨rfl, h0, by show lv (co a.toNat).toNat = 1; omega⟩
theorem LvA_no {cnt : Int} {g sr co fo r lv : Nat → Int} {w n a z : Int} (_ : NwI cnt g sr r w) (L : LyS co fo r w n) (F : MkF g sr fo r lv n (-1) (-1)) (B : LvA co lv a z) (h : z = 0) (a1 : a < w) : r (1 : Int).toNat ≤ a → ¬ LvWd (mE r) (flN g) sr a := by
  rintro a0 ⟨hd, h1, h2⟩
  have q := LyS_co L a0 a1 (x := aI co a) rfl
  have e := HdOf_uq q.2.2 h1
  have k := F rfl rfl (aI co a) q.1 q.2.1 (by rw [e]; exact h2)
  rcases B with ⟨_, b | b⟩ | b <;> omega
theorem LvA_yes {cnt : Int} {g sr co fo r lv : Nat → Int} {w n a z : Int} (_ : NwI cnt g sr r w) (L : LyS co fo r w n) (S : MkS g sr fo r lv n) (B : LvA co lv a z) (h : z = 1) (a0 : 0 ≤ a) (a1 : a < w) : r (1 : Int).toNat ≤ a ∧ LvWd (mE r) (flN g) sr a := by
  rcases B with b | ⟨_, b1, b2⟩
  · omega
  · have a2 : r (1 : Int).toNat ≤ a := by
      rcases (by omega : r (1 : Int).toNat ≤ a ∨ a < r (1 : Int).toNat) with q | q
      · exact q
      · have := L.2.2.2.2.1 a a0 a1 (Or.inl q); omega
    have q := LyS_co L a2 a1 (x := aI co a) rfl
    exact ⟨a2, _, q.2.2, S _ q.1 q.2.1 b2⟩
def LvP (g sr r lv : Nat → Int) (a m : Int) : Prop := LvE (mE r) (flN g) sr (r (1 : Int).toNat) a lv m
theorem LvP_init {cnt : Int} {g sr r lv : Nat → Int} {w : Int} (H : NwI cnt g sr r w) : LvP g sr r lv 0 0 := by
  have hb := VM_box H.2.1
  exact ⟨by omega, fun i a b => by omega, fun i j a b c => by omega, fun a a0 a1 => by omega⟩
theorem LvP_skip {g sr r lv : Nat → Int} {a m : Int} (A : LvP g sr r lv a m) (h : r (1 : Int).toNat ≤ a → ¬ LvWd (mE r) (flN g) sr a) : LvP g sr r lv (a + 1) m := by
  obtain ⟨a0, a1, a2, a3⟩ := A
  refine ⟨a0, fun i i0 i1 => ?_, a2, fun x x0 x1 L => ?_⟩
  · have := a1 i i0 i1
    exact ⟨this.1, by omega, this.2.2⟩
  · rcases (by omega : x < a ∨ x = a) with q | q
    · exact a3 x x0 q L
    · subst q; exact absurd L (h x0)
theorem LvP_add {g sr r lv lv2 : Nat → Int} {a m i v : Int} (A : LvP g sr r lv a m) (h : r (1 : Int).toNat ≤ a ∧ LvWd (mE r) (flN g) sr a) (e : lv2 = updI lv i.toNat v) (hi : i = m) (hv : v = a) : LvP g sr r lv2 (a + 1) (m + 1) := by
  obtain ⟨a0, a1, a2, a3⟩ := A
  subst hi
  subst hv
  have u : ∀ x, 0 ≤ x → x ≠ i → aI lv2 x = aI lv x := fun x x0 xn => by rw [e, aI_upd a0 x0, if_neg xn]
  have u1 : aI lv2 i = v := by rw [e, aI_upd a0 a0, if_pos rfl]
  refine ⟨by omega, fun j j0 j1 => ?_, fun j k j0 j1 k1 => ?_, fun x x0 x1 L => ?_⟩
  · rcases (by omega : j < i ∨ j = i) with q | q
    · rw [u j j0 (by omega)]
      have := a1 j j0 q
      exact ⟨this.1, by omega, this.2.2⟩
    · rw [q, u1]; exact ⟨h.1, by omega, h.2⟩
  · rcases (by omega : k < i ∨ k = i) with q | q
    · rw [u j j0 (by omega), u k (by omega) (by omega)]; exact a2 j k j0 j1 q
    · rw [q, u1, u j j0 (by omega)]; exact (a1 j j0 (by omega)).2.1
  · rcases (by omega : x < v ∨ x = v) with q | q
    · obtain ⟨k, k0, k1, k2⟩ := a3 x x0 q L
      exact ⟨k, k0, by omega, by rw [u k k0 (by omega)]; exact k2⟩
    · exact ⟨i, a0, by omega, by rw [u1, q]⟩
theorem LvP_at {g sr r lv : Nat → Int} {a m k x : Int} (A : LvP g sr r lv a m) (k0 : 0 ≤ k) (k1 : k < m) (hx : x = lv k.toNat) : r (1 : Int).toNat ≤ x ∧ x < a := by
  have := A.2.1 k k0 k1
  subst hx
  exact ⟨this.1, this.2.1⟩
theorem LvP_to {g sr r lv : Nat → Int} {a b m : Int} (A : LvP g sr r lv a m) (h : b = a) : LvP g sr r lv b m := by
  subst h
  exact A
def GtI (gt lv : Nat → Int) (w m k : Int) : Prop := ∀ a, 0 ≤ a → a < w → (aI gt a = -1 ∧ ∀ i, 0 ≤ i → i < k → aI lv i ≠ a) ∨ ∃ i, 0 ≤ i ∧ i < k ∧ aI lv i = a ∧ aI gt a = w - m + i
theorem GtI_init {gt lv : Nat → Int} {w m i : Int} (N : NgT gt i) (h : w ≤ i) : GtI gt lv w m 0 := fun a a0 a1 => Or.inl ⟨N a.toNat (by omega), fun i x y => by omega⟩
theorem GtI_step {g sr r gt gt2 lv : Nat → Int} {w m k x v z : Int} (H : GtI gt lv w m k) (A : LvP g sr r lv w z) (hz : z = m) (hx : x = lv k.toNat) (e : gt2 = updI gt x.toNat v) (hv : v = w - m + k) (k0 : 0 ≤ k) (k1 : k < m) (x0 : 0 ≤ x) : GtI gt2 lv w m (k + 1) := by
  intro a a0 a1
  have ex : aI lv k = x := hx.symm
  rw [e, aI_upd x0 a0]
  by_cases q : a = x
  · rw [if_pos q]
    exact Or.inr ⟨k, k0, by omega, by omega, hv⟩
  · rw [if_neg q]
    rcases H a a0 a1 with ⟨h1, h2⟩ | ⟨i, i0, i1, i2, i3⟩
    · left
      refine ⟨h1, fun i i0 i1 => ?_⟩
      rcases (by omega : i < k ∨ i = k) with y | y
      · exact h2 i i0 y
      · subst y; omega
    · exact Or.inr ⟨i, i0, by omega, i2, i3⟩
def GtT (gt lv : Nat → Int) (w m : Int) : Prop := ∀ a, 0 ≤ a → a < w → NewP lv m w a (aI gt a)
theorem GtT_of {gt lv : Nat → Int} {w m k : Int} (H : GtI gt lv w m k) (h : k = m) : GtT gt lv w m := by
  subst h
  intro a a0 a1
  rcases H a a0 a1 with q | ⟨i, i0, i1, i2, i3⟩
  · exact Or.inl q
  · exact Or.inr ⟨i, i0, i1, i2, i3⟩
def BkT (ba bw lv : Nat → Int) (k bm : Int) : Prop := bm = ub (aI lv) k.toNat ∧ ∀ b, 0 ≤ b → b < bm → ∃ f, 0 ≤ f ∧ Bk (aI lv) f ∧ ub (aI lv) f.toNat = b ∧ aI ba b = aI lv f ∧ 1 ≤ aI bw b ∧ (∀ j, f < j → j < f + aI bw b → aI lv j = aI lv (j - 1) + 1) ∧ (b + 1 = bm → f + aI bw b = k) ∧ (b + 1 < bm → f + aI bw b < k ∧ ¬ aI lv (f + aI bw b) = aI lv (f + aI bw b - 1) + 1)
theorem BkT_init {ba bw lv : Nat → Int} : BkT ba bw lv 0 0 := ⟨rfl, fun b a c => by omega⟩
theorem BkT_last {ba bw lv : Nat → Int} {k bm x : Int} (H : BkT ba bw lv k bm) (h : 1 ≤ bm) (hx : x = bw (bm - 1).toNat) : 1 ≤ x ∧ x ≤ k := by
  obtain ⟨f, f0, _, _, _, f1, _, f2, _⟩ := H.2 (bm - 1) (by omega) (by omega)
  have := f2 (by omega)
  have e : aI bw (bm - 1) = x := hx.symm
  omega
theorem BkT_new {ba ba2 bw bw1 bw2 lv : Nat → Int} {k bm i1 v1 i2 v2 i3 v3 : Int} (H : BkT ba bw lv k bm) (k0 : 0 ≤ k) (B : Bk (aI lv) k) (e1 : ba2 = updI ba i1.toNat v1) (h1 : i1 = bm) (w1 : v1 = lv k.toNat) (e2 : bw1 = updI bw i2.toNat v2) (h2 : i2 = bm) (e3 : bw2 = updI bw1 i3.toNat v3) (h3 : i3 = bm) (w3 : v3 = 1) : BkT ba2 bw2 lv (k + 1) (bm + 1) := by
  have b0 : 0 ≤ bm := by rw [H.1]; exact (ub_max k.toNat).1
  subst h1
  refine ⟨by rw [ub_bk k0 B, ← H.1], fun b c0 c1 => ?_⟩
  have u1 : aI ba2 b = if b = i1 then v1 else aI ba b := by rw [e1, aI_upd b0 c0]
  have u2 : aI bw2 b = if b = i1 then 1 else aI bw b := by
    rw [e3, aI_upd (by omega) c0, h3, w3, e2, aI_upd (by omega) c0, h2]
    by_cases q : b = i1
    · rw [if_pos q, if_pos q]
    · rw [if_neg q, if_neg q, if_neg q]
  by_cases q : b = i1
  · rw [if_pos q] at u1 u2
    rw [u1, u2]
    refine ⟨k, k0, B, by rw [← H.1]; exact q.symm, w1, Int.le_refl _, fun j j0 j1 => by omega, fun _ => rfl, fun h => by omega⟩
  · rw [if_neg q] at u1 u2
    rw [u1, u2]
    obtain ⟨f, f0, f1, f2, f3, f4, f5, f6, f7⟩ := H.2 b c0 (by omega)
    refine ⟨f, f0, f1, f2, f3, f4, f5, fun h => by omega, fun h => ?_⟩
    rcases (by omega : b + 1 = i1 ∨ b + 1 < i1) with y | y
    · have e := f6 y
      rw [e]
      refine ⟨by omega, fun z => ?_⟩
      rcases B with B | B
      · omega
      · omega
    · have e := f7 y
      exact ⟨by omega, e.2⟩
theorem BkT_more {ba bw bw2 lv : Nat → Int} {k bm i v x : Int} (H : BkT ba bw lv k bm) (k0 : 1 ≤ k) (B : aI lv k = aI lv (k - 1) + 1) (e : bw2 = updI bw i.toNat v) (hi : i = bm - 1) (hx : x = bw (bm - 1).toNat) (hv : v = x + 1) : BkT ba bw2 lv (k + 1) bm := by
  have b1 : 1 ≤ bm := by rw [H.1]; exact ub_pos k0
  refine ⟨by rw [ub_nb k0 (by omega)]; exact H.1, fun b c0 c1 => ?_⟩
  obtain ⟨f, f0, f1, f2, f3, f4, f5, f6, f7⟩ := H.2 b c0 c1
  have u : aI bw2 b = if b = bm - 1 then x + 1 else aI bw b := by rw [e, aI_upd (by omega) c0, hi, hv]
  by_cases q : b = bm - 1
  · rw [if_pos q] at u
    have ex : aI bw b = x := by rw [q]; exact hx.symm
    rw [ex] at f4 f5 f6
    rw [u]
    have e6 := f6 (by omega)
    refine ⟨f, f0, f1, f2, f3, by omega, fun j j0 j1 => ?_, fun _ => by omega, fun h => by omega⟩
    rcases (by omega : j < f + x ∨ j = f + x) with y | y
    · exact f5 j j0 y
    · rw [y, e6]; exact B
  · rw [if_neg q] at u
    rw [u]
    refine ⟨f, f0, f1, f2, f3, f4, f5, fun h => by omega, fun h => ?_⟩
    have := f7 h
    exact ⟨by omega, this.2⟩
def BkJ (lv : Nat → Int) (m k bm : Int) : Prop := 2 * bm ≤ k ∨ (2 * bm ≤ k + 1 ∧ 1 ≤ k ∧ k < m ∧ aI lv k = aI lv (k - 1) + 1)
theorem BkJ_at {lv : Nat → Int} {m k bm : Int} (J : BkJ lv m k bm) (B : Bk (aI lv) k) : 2 * bm ≤ k := by
  rcases J with q | ⟨q1, q2, q3, q4⟩
  · exact q
  · rcases B with B | B <;> omega
theorem BkJ_new {cnt : Int} {g sr r lv : Nat → Int} {w m k bm : Int} (H : NwI cnt g sr r w) (A : LvP g sr r lv w m) (J : BkJ lv m k bm) (B : Bk (aI lv) k) (k0 : 0 ≤ k) (k1 : k < m) : BkJ lv m (k + 1) (bm + 1) := by
  have h := BkJ_at J B
  have S := LvS_of H A
  right
  have hd : 5096 ≤ mE r (aI lv k) := by
    rcases (by omega : 5096 ≤ mE r (aI lv k) ∨ mE r (aI lv k) < 5096) with q | q
    · exact q
    · have z := S.2.2.2.2 k k0 k1 q
      rcases B with B | B <;> omega
  have p := S.2.1 k k0 k1
  have hv := VM_at H.2.1 p.1 p.2 hd
  have z := S.2.2.2.1 k k0 k1 hd 1 (by omega) (by show 1 ≤ flN g (enc r (aI lv k + 8).toNat - 5096).toNat; omega)
  exact ⟨by omega, by omega, z.1, by rw [z.2, (by omega : k + 1 - 1 = k)]⟩
theorem BkJ_more {lv : Nat → Int} {m k bm : Int} (J : BkJ lv m k bm) : BkJ lv m (k + 1) bm := by
  left
  rcases J with q | q <;> omega
theorem Bk_0 {lv : Nat → Int} {k : Int} (h : k = 0) : Bk (aI lv) k := Or.inl h
theorem Bk_ne {lv : Nat → Int} {k x y : Int} (e1 : x = lv k.toNat) (e2 : y = lv (k - 1).toNat) (h : ¬ x = y + 1) : Bk (aI lv) k := Or.inr (by
  show ¬ lv (k - 1).toNat = lv k.toNat - 1
  omega)
theorem Bk_eq {lv : Nat → Int} {k x y : Int} (e1 : x = lv k.toNat) (e2 : y = lv (k - 1).toNat) (h : x = y + 1) : aI lv k = aI lv (k - 1) + 1 := by
  show lv k.toNat = lv (k - 1).toNat + 1
  omega
theorem BkT_to {ba bw lv : Nat → Int} {k k2 bm : Int} (H : BkT ba bw lv k bm) (h : k2 = k) : BkT ba bw lv k2 bm := by
  subst h
  exact H
