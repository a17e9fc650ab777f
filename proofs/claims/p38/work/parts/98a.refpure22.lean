def Blk (c : Int) : Prop := c = 10 ∨ c = 32
def Ltr (c : Int) : Prop := 97 ≤ c ∧ c ≤ 122
def Dgt (c : Int) : Prop := 48 ≤ c ∧ c ≤ 57
def Sk (t : Nat → Int) (e a b : Int) : Prop := a ≤ b ∧ (∀ j, a ≤ j → j < b → j < e ∧ Blk (aI t j)) ∧ (b < e → ¬ Blk (aI t b))
theorem Sk_uq {t : Nat → Int} {e a b c : Int} (A : Sk t e a b) (B : Sk t e a c) : b = c := by
  rcases (by omega : b < c ∨ c < b ∨ b = c) with q | q | q
  · have h := B.2.1 b A.1 q
    exact absurd h.2 (A.2.2 h.1)
  · have h := A.2.1 c B.1 q
    exact absurd h.2 (B.2.2 h.1)
  · exact q
theorem Sk_id {t : Nat → Int} {e b : Int} (h : b < e → ¬ Blk (aI t b)) : Sk t e b b := ⟨Int.le_refl _, fun j a c => by omega, h⟩
theorem Sk_b {t : Nat → Int} {e a b : Int} (A : Sk t e a b) : Sk t e b b := Sk_id A.2.2
def SkI (t : Nat → Int) (e a b : Int) : Prop := a ≤ b ∧ ∀ j, a ≤ j → j < b → j < e ∧ Blk (aI t j)
theorem SkI_0 {t : Nat → Int} {e a : Int} : SkI t e a a := ⟨Int.le_refl _, fun j a b => by omega⟩
theorem SkI_s {t : Nat → Int} {e a b x : Int} (H : SkI t e a b) (hb : b < e) (hx : x = t b.toNat) (h : x = 10 ∨ x = 32) : SkI t e a (b + 1) := by
  refine ⟨by have := H.1; omega, fun j j0 j1 => ?_⟩
  by_cases q : j = b
  · subst q
    exact ⟨hb, by show t j.toNat = 10 ∨ t j.toNat = 32; omega⟩
  · exact H.2 j j0 (by omega)
theorem Sk_e {t : Nat → Int} {e a b : Int} (H : SkI t e a b) (h : e ≤ b) : Sk t e a b := ⟨H.1, H.2, fun q => by omega⟩
theorem Sk_n {t : Nat → Int} {e a b x y : Int} (H : SkI t e a b) (hx : x = t b.toNat) (hy : y = t b.toNat) (h1 : ¬ x = 10) (h2 : ¬ y = 32) : Sk t e a b := ⟨H.1, H.2, fun _ => by unfold Blk; show ¬ (t b.toNat = 10 ∨ t b.toNat = 32); omega⟩
def WdAt (t w : Nat → Int) (e n s : Int) : Prop := 1 ≤ n ∧ s + n ≤ e ∧ (∀ i, 0 ≤ i → i < n → aI t (s + i) = aI w i ∧ Ltr (aI t (s + i))) ∧ (s + n < e → ¬ Ltr (aI t (s + n)))
theorem WdAt_len {t w v : Nat → Int} {e n m s : Int} (A : WdAt t w e n s) (B : WdAt t v e m s) : n = m := by
  rcases (by omega : n < m ∨ m < n ∨ n = m) with q | q | q
  · have := A.1
    exact absurd (B.2.2.1 n (by omega) q).2 (A.2.2.2 (by have := B.2.1; omega))
  · have := B.1
    exact absurd (A.2.2.1 m (by omega) q).2 (B.2.2.2 (by have := A.2.1; omega))
  · exact q
theorem WdAt_l {t w : Nat → Int} {e n s : Int} (A : WdAt t w e n s) : s < e ∧ Ltr (aI t s) := by
  have h := A.2.2.1 0 (by omega) (by have := A.1; omega)
  rw [Int.add_zero] at h
  exact ⟨by have := A.1; have := A.2.1; omega, h.2⟩
def HrR (t w : Nat → Int) (e n a bd en s z : Int) : Prop := (¬ bd = 0 ∧ z = 0 ∧ s = a) ∨ (bd = 0 ∧ Sk t e a s ∧ ((z = 1 ∧ WdAt t w e n s ∧ ¬ s = en) ∨ (z = 0 ∧ (s = en ∨ ¬ WdAt t w e n s))))
def RnI (t : Nat → Int) (e s k : Int) : Prop := s ≤ k ∧ ∀ j, s ≤ j → j < k → j < e ∧ Ltr (aI t j)
theorem RnI_0 {t : Nat → Int} {e s : Int} : RnI t e s s := ⟨Int.le_refl _, fun j a b => by omega⟩
theorem RnI_s {t : Nat → Int} {e s k x : Int} (H : RnI t e s k) (hk : k < e) (hx : x = t k.toNat) (h : 97 ≤ x ∧ x ≤ 122) : RnI t e s (k + 1) := by
  refine ⟨by have := H.1; omega, fun j j0 j1 => ?_⟩
  by_cases q : j = k
  · subst q
    exact ⟨hk, by show 97 ≤ t j.toNat ∧ t j.toNat ≤ 122; omega⟩
  · exact H.2 j j0 (by omega)
def EqI (t w : Nat → Int) (s i : Int) : Prop := ∀ j, 0 ≤ j → j < i → aI t (s + j) = aI w j
theorem EqI_0 {t w : Nat → Int} {s : Int} : EqI t w s 0 := fun j a b => by omega
theorem EqI_s {t w : Nat → Int} {s i x y k : Int} (H : EqI t w s i) (hx : x = t k.toNat) (hk : k = s + i) (hy : y = w i.toNat) (h : x = y) : EqI t w s (i + 1) := by
  intro j j0 j1
  by_cases q : j = i
  · subst q
    show t (s + j).toNat = w j.toNat
    rw [← hk, ← hx, ← hy]
    exact h
  · exact H j j0 (by omega)
theorem Hr_bad {t w : Nat → Int} {e n a bd en s : Int} (h : ¬ bd = 0) (hs : s = a) : HrR t w e n a bd en s 0 := Or.inl ⟨h, rfl, hs⟩
theorem Hr_en {t w : Nat → Int} {e n a bd en s : Int} (S : Sk t e a s) (h : bd = 0) (hs : s = en) : HrR t w e n a bd en s 0 := Or.inr ⟨h, S, Or.inr ⟨rfl, Or.inl hs⟩⟩
theorem Hr_nl {t w : Nat → Int} {e n a bd en s : Int} (S : Sk t e a s) (h : bd = 0) (hn : 1 ≤ n) (hl : e ≤ s ∨ t s.toNat ≤ 96 ∨ 123 ≤ t s.toNat) : HrR t w e n a bd en s 0 := Or.inr ⟨h, S, Or.inr ⟨rfl, Or.inr (fun q => by
  have z := WdAt_l q
  have : aI t s = t s.toNat := rfl
  unfold Ltr at z
  omega)⟩⟩
theorem Hr_len {t w : Nat → Int} {e n a bd en s k : Int} (S : Sk t e a s) (h : bd = 0) (R : RnI t e s k) (hk : e ≤ k ∨ t k.toNat ≤ 96 ∨ 123 ≤ t k.toNat) (hn : ¬ k - s = n) : HrR t w e n a bd en s 0 := Or.inr ⟨h, S, Or.inr ⟨rfl, Or.inr (fun q => by
  have n1 := q.1
  have n2 := q.2.1
  have := R.1
  rcases (by omega : n < k - s ∨ k - s < n) with z | z
  · have r := R.2 (s + n) (by omega) (by omega)
    exact q.2.2.2 r.1 r.2
  · have r := (q.2.2.1 (k - s) (by omega) z).2
    rw [(by omega : s + (k - s) = k)] at r
    have e9 : aI t k = t k.toNat := rfl
    unfold Ltr at r
    omega)⟩⟩
theorem Hr_ne {t w : Nat → Int} {e n a bd en s i x y k : Int} (S : Sk t e a s) (h : bd = 0) (hx : x = t k.toNat) (hk : k = s + i) (hy : y = w i.toNat) (hne : ¬ x = y) (i0 : 0 ≤ i) (i1 : i < n) : HrR t w e n a bd en s 0 := Or.inr ⟨h, S, Or.inr ⟨rfl, Or.inr (fun q => by
  have r := (q.2.2.1 i i0 i1).1
  have e1 : aI t (s + i) = x := by show t (s + i).toNat = x; rw [← hk, ← hx]
  have e2 : aI w i = y := hy.symm
  omega)⟩⟩
theorem Hr_yes {t w : Nat → Int} {e n a bd en s k i : Int} (S : Sk t e a s) (h : bd = 0) (R : RnI t e s k) (hk : e ≤ k ∨ t k.toNat ≤ 96 ∨ 123 ≤ t k.toNat) (ke : k ≤ e) (hn : k - s = n) (n1 : 1 ≤ n) (E : EqI t w s i) (hi : n ≤ i) (hs : ¬ s = en) : HrR t w e n a bd en s 1 := by
  refine Or.inr ⟨h, S, Or.inl ⟨rfl, ⟨n1, by omega, fun j j0 j1 => ⟨E j j0 (by omega), (R.2 (s + j) (by omega) (by omega)).2⟩, fun q => ?_⟩, hs⟩⟩
  rw [(by omega : s + n = k)]
  have : aI t k = t k.toNat := rfl
  unfold Ltr
  omega
def TkQ (t w : Nat → Int) (e n a bd en b en2 z : Int) : Prop := (z = 1 ∧ bd = 0 ∧ en2 = b ∧ ∃ s, Sk t e a s ∧ WdAt t w e n s ∧ ¬ s = en ∧ b = s + n) ∨ (z = 0 ∧ en2 = en ∧ ((¬ bd = 0 ∧ b = a) ∨ (bd = 0 ∧ Sk t e a b ∧ (b = en ∨ ¬ WdAt t w e n b))))
theorem TkQ_0 {t w : Nat → Int} {e n a bd en s z : Int} (H : HrR t w e n a bd en s z) (h : z = 0) : TkQ t w e n a bd en s en 0 := by
  rcases H with ⟨h1, h2, h3⟩ | ⟨h1, h2, h3 | h3⟩
  · exact Or.inr ⟨rfl, rfl, Or.inl ⟨h1, h3⟩⟩
  · omega
  · exact Or.inr ⟨rfl, rfl, Or.inr ⟨h1, h2, h3.2⟩⟩
theorem TkQ_1 {t w : Nat → Int} {e n a bd en s z b : Int} (H : HrR t w e n a bd en s z) (h : z = 1) (hb : b = s + n) : TkQ t w e n a bd en b b 1 := by
  rcases H with ⟨h1, h2, h3⟩ | ⟨h1, h2, h3 | h3⟩
  · omega
  · exact Or.inl ⟨rfl, h1, rfl, s, h2, h3.2.1, h3.2.2, hb⟩
  · omega
def SgR (t : Nat → Int) (e c a bd b z : Int) : Prop := (z = 1 ∧ bd = 0 ∧ ∃ s, Sk t e a s ∧ s < e ∧ aI t s = c ∧ b = s + 1) ∨ (z = 0 ∧ ((¬ bd = 0 ∧ b = a) ∨ (bd = 0 ∧ Sk t e a b ∧ (e ≤ b ∨ ¬ aI t b = c))))
theorem SgR_bad {t : Nat → Int} {e c a bd b : Int} (h : ¬ bd = 0) (hb : b = a) : SgR t e c a bd b 0 := Or.inr ⟨rfl, Or.inl ⟨h, hb⟩⟩
theorem SgR_0 {t : Nat → Int} {e c a bd b z : Int} (S : Sk t e a b) (h : bd = 0) (hz : (z = -1 ∧ e ≤ b) ∨ (0 ≤ z ∧ b < e ∧ z = t b.toNat)) (hc : ¬ z = c) : SgR t e c a bd b 0 := Or.inr ⟨rfl, Or.inr ⟨h, S, by have : aI t b = t b.toNat := rfl; omega⟩⟩
theorem SgR_1 {t : Nat → Int} {e c a bd b s z : Int} (S : Sk t e a s) (h : bd = 0) (hz : (z = -1 ∧ e ≤ s) ∨ (0 ≤ z ∧ s < e ∧ z = t s.toNat)) (hc : z = c) (c0 : 0 ≤ c) (hb : b = s + 1) : SgR t e c a bd b 1 := Or.inl ⟨rfl, h, s, S, by omega, by show t s.toNat = c; omega, hb⟩
def AgQ (t : Nat → Int) (e c a bd b bd2 : Int) : Prop := (1 ≤ bd2 ∧ (¬ bd = 0 ∨ ∃ s, Sk t e a s ∧ (e ≤ s ∨ ¬ aI t s = c))) ∨ (bd2 = 0 ∧ bd = 0 ∧ ∃ s, Sk t e a s ∧ s < e ∧ aI t s = c ∧ b = s + 1)
theorem AgQ_bad {t : Nat → Int} {e c a bd b bd2 : Int} (h : ¬ bd = 0) (h2 : 1 ≤ bd2) : AgQ t e c a bd b bd2 := Or.inl ⟨h2, Or.inl h⟩
theorem AgQ_0 {t : Nat → Int} {e c a bd b b2 z bd2 : Int} (H : SgR t e c a bd b z) (hz : z = 0) (h2 : 1 ≤ bd2) : AgQ t e c a bd b2 bd2 := by
  rcases H with h | ⟨_, h | h⟩
  · omega
  · exact Or.inl ⟨h2, Or.inl h.1⟩
  · exact Or.inl ⟨h2, Or.inr ⟨b, h.2⟩⟩
theorem AgQ_1 {t : Nat → Int} {e c a bd b z bd2 : Int} (H : SgR t e c a bd b z) (hz : z = 1) (h2 : bd2 = 0) : AgQ t e c a bd b bd2 := by
  rcases H with ⟨_, h, q⟩ | h
  · exact Or.inr ⟨h2, h, q⟩
  · omega
def InR (t : Nat → Int) (e a bd en b z : Int) : Prop := (¬ bd = 0 ∧ z = 0 ∧ b = a) ∨ (bd = 0 ∧ Sk t e a b ∧ ((z = 1 ∧ b < e ∧ Dgt (aI t b) ∧ ¬ b = en) ∨ (z = 0 ∧ (b = en ∨ e ≤ b ∨ ¬ Dgt (aI t b)))))
theorem InR_bad {t : Nat → Int} {e a bd en b : Int} (h : ¬ bd = 0) (hb : b = a) : InR t e a bd en b 0 := Or.inl ⟨h, rfl, hb⟩
theorem InR_0 {t : Nat → Int} {e a bd en b z : Int} (S : Sk t e a b) (h : bd = 0) (hz : (z = -1 ∧ e ≤ b) ∨ (0 ≤ z ∧ b < e ∧ z = t b.toNat)) (hd : z ≤ 47 ∨ 58 ≤ z) : InR t e a bd en b 0 := Or.inr ⟨h, S, Or.inr ⟨rfl, by have : aI t b = t b.toNat := rfl; unfold Dgt; omega⟩⟩
theorem InR_en {t : Nat → Int} {e a bd en b : Int} (S : Sk t e a b) (h : bd = 0) (he : b = en) : InR t e a bd en b 0 := Or.inr ⟨h, S, Or.inr ⟨rfl, Or.inl he⟩⟩
theorem InR_1 {t : Nat → Int} {e a bd en b z : Int} (S : Sk t e a b) (h : bd = 0) (hz : (z = -1 ∧ e ≤ b) ∨ (0 ≤ z ∧ b < e ∧ z = t b.toNat)) (hd : 48 ≤ z ∧ z ≤ 57) (he : ¬ b = en) : InR t e a bd en b 1 := Or.inr ⟨h, S, Or.inl ⟨rfl, by omega, by unfold Dgt; show 48 ≤ t b.toNat ∧ t b.toNat ≤ 57; omega, he⟩⟩
def dgv (t : Nat → Int) (s : Int) : Nat → Int
  | 0 => 0
  | n + 1 => 10 * dgv t s n + aI t (s + n) - 48
def NuAt (t : Nat → Int) (e s v b : Int) : Prop := ∃ n : Nat, 1 ≤ n ∧ n ≤ 3 ∧ b = s + n ∧ b ≤ e ∧ (∀ i : Nat, i < n → Dgt (aI t (s + i))) ∧ (b < e → ¬ Dgt (aI t b)) ∧ v = dgv t s n
theorem NuAt_uq {t : Nat → Int} {e s v b v2 b2 : Int} (A : NuAt t e s v b) (B : NuAt t e s v2 b2) : b = b2 ∧ v = v2 := by
  obtain ⟨n, n1, n3, nb, ne, nd, nx, nv⟩ := A
  obtain ⟨m, m1, m3, mb, me, md, mx, mv⟩ := B
  have q : n = m := by
    rcases (by omega : n < m ∨ m < n ∨ n = m) with q | q | q
    · have := md n q
      rw [← nb] at this
      exact absurd this (nx (by omega))
    · have := nd m q
      rw [← mb] at this
      exact absurd this (mx (by omega))
    · exact q
  subst q
  exact ⟨by omega, by rw [nv, mv]⟩
theorem NuAt_d {t : Nat → Int} {e s v b : Int} (A : NuAt t e s v b) : s < e ∧ Dgt (aI t s) ∧ s < b ∧ b ≤ e := by
  obtain ⟨n, n1, n3, nb, ne, nd, nx, nv⟩ := A
  have := nd 0 (by omega)
  rw [(by omega : s + ((0 : Nat) : Int) = s)] at this
  exact ⟨by omega, this, by omega, by omega⟩
def DgI (t : Nat → Int) (e s k v : Int) : Prop := ∃ n : Nat, k = s + n ∧ n ≤ 3 ∧ k ≤ e ∧ (∀ i : Nat, i < n → Dgt (aI t (s + i))) ∧ v = dgv t s n ∧ ((n = 0 ∧ v = 0) ∨ (n = 1 ∧ 0 ≤ v ∧ v ≤ 9) ∨ (n = 2 ∧ 0 ≤ v ∧ v ≤ 99) ∨ (n = 3 ∧ 0 ≤ v ∧ v ≤ 999))
theorem DgI_0 {t : Nat → Int} {e s : Int} (h : s ≤ e) : DgI t e s s 0 := ⟨0, by omega, by omega, h, fun i hi => by omega, rfl, Or.inl ⟨rfl, rfl⟩⟩
theorem DgI_b {t : Nat → Int} {e s k v : Int} (H : DgI t e s k v) : (k = s ∧ v = 0) ∨ (k = s + 1 ∧ 0 ≤ v ∧ v ≤ 9) ∨ (k = s + 2 ∧ 0 ≤ v ∧ v ≤ 99) ∨ (k = s + 3 ∧ 0 ≤ v ∧ v ≤ 999) := by
  obtain ⟨n, a, b, c, d, f, g⟩ := H
  omega
theorem DgI_s {t : Nat → Int} {e s k v x y v2 : Int} (H : DgI t e s k v) (hk : k < e) (hx : x = t k.toNat) (hd : 48 ≤ x ∧ x ≤ 57) (hy : y = t k.toNat) (h3 : ¬ k - s = 3) (hv : v2 = 10 * v + y - 48) : DgI t e s (k + 1) v2 := by
  obtain ⟨n, a, b, c, d, f, g⟩ := H
  have e1 : aI t (s + n) = t k.toNat := by rw [← a]; rfl
  refine ⟨n + 1, by omega, by omega, by omega, fun i hi => ?_, ?_, by omega⟩
  · by_cases q : i = n
    · subst q
      rw [e1]
      unfold Dgt
      omega
    · exact d i (by omega)
  · rw [dgv, e1, ← f]
    omega
def NuR (t : Nat → Int) (e lo hi a bd en b en2 bd2 z : Int) : Prop := (1 ≤ bd2 ∧ (¬ bd = 0 ∨ ∀ v c s, Sk t e a s → NuAt t e s v c → s = en ∨ v < lo ∨ hi < v)) ∨ (bd2 = 0 ∧ bd = 0 ∧ en2 = b ∧ lo ≤ z ∧ z ≤ hi ∧ ∃ s, Sk t e a s ∧ ¬ s = en ∧ NuAt t e s z b)
theorem NuR_bad {t : Nat → Int} {e lo hi a bd en b en2 bd2 z : Int} (h : ¬ bd = 0) (h2 : 1 ≤ bd2) : NuR t e lo hi a bd en b en2 bd2 z := Or.inl ⟨h2, Or.inl h⟩
theorem NuR_no {t : Nat → Int} {e lo hi a bd en b b2 en2 bd2 z y : Int} (H : InR t e a bd en b y) (hy : y = 0) (h2 : 1 ≤ bd2) : NuR t e lo hi a bd en b2 en2 bd2 z := by
  refine Or.inl ⟨h2, ?_⟩
  rcases H with h | ⟨h, S, q | q⟩
  · exact Or.inl h.1
  · omega
  · refine Or.inr (fun v c s S2 N => ?_)
    have u := Sk_uq S S2
    subst u
    have d := NuAt_d N
    rcases q.2 with w | w | w
    · exact Or.inl w
    · omega
    · exact absurd d.2.1 w
theorem NuR_long {t : Nat → Int} {e lo hi a bd en b en2 bd2 z s k v x y : Int} (H : InR t e a bd en s y) (hy : y = 1) (D : DgI t e s k v) (h3 : k - s = 3) (hk : k < e) (hx : x = t k.toNat) (hd : 48 ≤ x ∧ x ≤ 57) (h2 : 1 ≤ bd2) : NuR t e lo hi a bd en b en2 bd2 z := by
  refine Or.inl ⟨h2, ?_⟩
  rcases H with h | ⟨h, S, q | q⟩
  · omega
  · refine Or.inr (fun v2 c s2 S2 N => ?_)
    have u := Sk_uq S S2
    subst u
    obtain ⟨n, a1, b1, c1, d1, f1, g1⟩ := D
    obtain ⟨m, m1, m3, mb, me, md, mx, mv⟩ := N
    exfalso
    rcases (by omega : m < 3 ∨ m = 3) with w | w
    · have := d1 m (by omega)
      rw [← mb] at this
      exact mx (by omega) this
    · have : aI t c = t k.toNat := by show t c.toNat = _; rw [(by omega : c = k)]
      exact mx (by omega) (by rw [this]; unfold Dgt; omega)
  · omega
theorem NuR_of {t : Nat → Int} {e lo hi a bd en en2 bd2 s k v y r : Int} (H : InR t e a bd en s y) (hy : y = 1) (D : DgI t e s k v) (hk : e ≤ k ∨ t k.toNat ≤ 47 ∨ 58 ≤ t k.toNat) (h1 : ¬ k = s) (he : en2 = k) (hr : (r = 1 ∧ lo ≤ v ∧ v ≤ hi) ∨ (r = 0 ∧ (v < lo ∨ hi < v))) (hb : (r = 1 ∧ bd2 = bd) ∨ (r = 0 ∧ 1 ≤ bd2)) : NuR t e lo hi a bd en k en2 bd2 v := by
  rcases H with h | ⟨h, S, q | q⟩
  · omega
  · obtain ⟨n, a1, b1, c1, d1, f1, g1⟩ := D
    have N : NuAt t e s v k := ⟨n, by omega, b1, a1, c1, d1, fun w => by unfold Dgt; show ¬ (48 ≤ t k.toNat ∧ t k.toNat ≤ 57); omega, f1⟩
    rcases hr with hr | hr
    · exact Or.inr ⟨by omega, h, he, hr.2.1, hr.2.2, s, S, q.2.2.2, N⟩
    · refine Or.inl ⟨by omega, Or.inr (fun v2 c s2 S2 N2 => ?_)⟩
      have u := Sk_uq S S2
      subst u
      have w := NuAt_uq N N2
      omega
  · omega
theorem DgI_1 {t : Nat → Int} {e s k v a bd en y : Int} (H : InR t e a bd en s y) (hy : y = 1) (D : DgI t e s k v) (hk : e ≤ k ∨ t k.toNat ≤ 47 ∨ 58 ≤ t k.toNat) : ¬ k = s := by
  intro q
  subst q
  rcases H with h | ⟨h, S, q | q⟩
  · omega
  · have d := q.2.2.1
    have : aI t k = t k.toNat := rfl
    unfold Dgt at d
    omega
  · omega
