def NoOw (t wh wk wc wst wr wm wnu wrf wwk wni wne wsl wrp wwn : Nat → Int) (e s : Int) : Prop := ¬ WdAt t wh e 4 s ∧ ¬ WdAt t wk e 4 s ∧ ¬ WdAt t wc e 4 s ∧ ¬ WdAt t wst e 3 s ∧ ¬ WdAt t wr e 4 s ∧ ¬ WdAt t wm e 6 s ∧ ¬ WdAt t wnu e 3 s ∧ ¬ WdAt t wrf e 3 s ∧ ¬ WdAt t wwk e 4 s ∧ ¬ WdAt t wni e 3 s ∧ ¬ WdAt t wne e 3 s ∧ ¬ WdAt t wsl e 5 s ∧ ¬ WdAt t wrp e 6 s ∧ ¬ WdAt t wwn e 4 s
def OwR (t wh wk wc wst wr wm wnu wrf wwk wni wne wsl wrp wwn : Nat → Int) (e s z : Int) : Prop := (z = 0 ∧ NoOw t wh wk wc wst wr wm wnu wrf wwk wni wne wsl wrp wwn e s) ∨ (z = 1 ∧ ¬ NoOw t wh wk wc wst wr wm wnu wrf wwk wni wne wsl wrp wwn e s)
def WzR (t w : Nat → Int) (e n a z : Int) : Prop := (z = 1 ∧ WdAt t w e n a) ∨ (z = 0 ∧ ¬ WdAt t w e n a)
theorem Hr_wz {t w : Nat → Int} {e n a bd en s z a0 : Int} (H : HrR t w e n a bd en s z) (h : bd = 0) (S : Sk t e a0 a0) (ha : a = a0) (he : ¬ a0 = en) : s = a0 ∧ WzR t w e n a0 z := by
  subst ha
  rcases H with q | ⟨_, q1, q2⟩
  · omega
  · have u := Sk_uq S q1
    subst u
    rcases q2 with q | q
    · exact ⟨rfl, Or.inl ⟨q.1, q.2.1⟩⟩
    · rcases q.2 with w9 | w9
      · exact absurd w9 he
      · exact ⟨rfl, Or.inr ⟨q.1, w9⟩⟩
theorem Wz_n {t w : Nat → Int} {e n a z : Int} (H : WzR t w e n a z) (h : z = 0) : ¬ WdAt t w e n a := by
  rcases H with q | q
  · omega
  · exact q.2
theorem Wz_y {t w : Nat → Int} {e n a z : Int} (H : WzR t w e n a z) (h : ¬ z = 0) : WdAt t w e n a := by
  rcases H with q | q
  · exact q.2
  · omega
def nmv (t : Nat → Int) (s : Int) : Nat → Int
  | 0 => 0
  | n + 1 => 27 * nmv t s n + aI t (s + n) - 97 + 1
def NmAt (t : Nat → Int) (e s n : Int) : Prop := 1 ≤ n ∧ n ≤ 6 ∧ s + n ≤ e ∧ (∀ i, 0 ≤ i → i < n → Ltr (aI t (s + i))) ∧ (s + n < e → ¬ Ltr (aI t (s + n)))
theorem NmAt_uq {t : Nat → Int} {e s n m : Int} (A : NmAt t e s n) (B : NmAt t e s m) : n = m := by
  obtain ⟨a1, a2, a3, a4, a5⟩ := A
  obtain ⟨b1, b2, b3, b4, b5⟩ := B
  rcases (by omega : n < m ∨ m < n ∨ n = m) with q | q | q
  · exact absurd (b4 n (by omega) q) (a5 (by omega))
  · exact absurd (a4 m (by omega) q) (b5 (by omega))
  · exact q
def NvI (t : Nat → Int) (e s k v : Int) : Prop := ∃ n : Nat, k = s + n ∧ n ≤ 6 ∧ k ≤ e ∧ (∀ i, 0 ≤ i → i < (n : Int) → Ltr (aI t (s + i))) ∧ v = nmv t s n ∧ ((n = 0 ∧ v = 0) ∨ (n = 1 ∧ 0 ≤ v ∧ v ≤ 26) ∨ (n = 2 ∧ 0 ≤ v ∧ v ≤ 728) ∨ (n = 3 ∧ 0 ≤ v ∧ v ≤ 19682) ∨ (n = 4 ∧ 0 ≤ v ∧ v ≤ 531440) ∨ (n = 5 ∧ 0 ≤ v ∧ v ≤ 14348906) ∨ (n = 6 ∧ 0 ≤ v ∧ v ≤ 387420488))
theorem NvI_0 {t : Nat → Int} {e s : Int} (h : s ≤ e) : NvI t e s s 0 := ⟨0, by omega, by omega, h, fun i a b => by omega, rfl, Or.inl ⟨rfl, rfl⟩⟩
theorem NvI_b {t : Nat → Int} {e s k v : Int} (H : NvI t e s k v) : s ≤ k ∧ k ≤ s + 6 ∧ 0 ≤ v ∧ v ≤ 387420488 ∧ (k ≤ s + 5 → v ≤ 14348906) := by
  obtain ⟨n, a, b, c, d, f, g⟩ := H
  omega
theorem NvI_s {t : Nat → Int} {e s k v x y v2 : Int} (H : NvI t e s k v) (hk : k < e) (hx : x = t k.toNat) (hl : 97 ≤ x ∧ x ≤ 122) (hy : y = t k.toNat) (h6 : ¬ k - s = 6) (hv : v2 = 27 * v + y - 97 + 1) : NvI t e s (k + 1) v2 := by
  obtain ⟨n, a, b, c, d, f, g⟩ := H
  have e1 : aI t (s + n) = t k.toNat := by rw [← a]; rfl
  refine ⟨n + 1, by omega, by omega, by omega, fun i i0 i1 => ?_, ?_, by omega⟩
  · by_cases q : i = n
    · subst q
      rw [e1]
      unfold Ltr
      omega
    · exact d i i0 (by omega)
  · rw [nmv, e1, ← f]
    omega
def NaR (t wh wk wc wst wr wm wnu wrf wwk wni wne wsl wrp wwn : Nat → Int) (e a bd en b en2 bd2 z : Int) : Prop := (1 ≤ bd2 ∧ (¬ bd = 0 ∨ ∀ s n, Sk t e a s → NmAt t e s n → NoOw t wh wk wc wst wr wm wnu wrf wwk wni wne wsl wrp wwn e s → s = en)) ∨ (bd2 = 0 ∧ bd = 0 ∧ en2 = b ∧ ∃ s n, Sk t e a s ∧ ¬ s = en ∧ NmAt t e s n ∧ NoOw t wh wk wc wst wr wm wnu wrf wwk wni wne wsl wrp wwn e s ∧ b = s + n ∧ z = nmv t s n.toNat)
theorem NaR_bad {t wh wk wc wst wr wm wnu wrf wwk wni wne wsl wrp wwn : Nat → Int} {e a bd en b en2 bd2 z : Int} (h : ¬ bd = 0) (h2 : 1 ≤ bd2) : NaR t wh wk wc wst wr wm wnu wrf wwk wni wne wsl wrp wwn e a bd en b en2 bd2 z := Or.inl ⟨h2, Or.inl h⟩
theorem NaR_en {t wh wk wc wst wr wm wnu wrf wwk wni wne wsl wrp wwn : Nat → Int} {e a bd en b en2 bd2 z : Int} {s : Int} (S : Sk t e a s) (hs : s = en) (h2 : 1 ≤ bd2) : NaR t wh wk wc wst wr wm wnu wrf wwk wni wne wsl wrp wwn e a bd en b en2 bd2 z := Or.inl ⟨h2, Or.inr (fun s2 n S2 _ _ => by rw [← Sk_uq S S2]; exact hs)⟩
theorem NaR_nl {t wh wk wc wst wr wm wnu wrf wwk wni wne wsl wrp wwn : Nat → Int} {e a bd en b en2 bd2 z : Int} {s y : Int} (S : Sk t e a s) (hy : (y = -1 ∧ e ≤ s) ∨ (0 ≤ y ∧ s < e ∧ y = t s.toNat)) (hl : y ≤ 96 ∨ 123 ≤ y) (h2 : 1 ≤ bd2) : NaR t wh wk wc wst wr wm wnu wrf wwk wni wne wsl wrp wwn e a bd en b en2 bd2 z := Or.inl ⟨h2, Or.inr (fun s2 n S2 N _ => by
  have u := Sk_uq S S2
  subst u
  exfalso
  have q := N.2.2.2.1 0 (by omega) (by have := N.1; omega)
  rw [Int.add_zero] at q
  have : aI t s = t s.toNat := rfl
  have := N.1
  have := N.2.2.1
  unfold Ltr at q
  omega)⟩
theorem NaR_ow {t wh wk wc wst wr wm wnu wrf wwk wni wne wsl wrp wwn : Nat → Int} {e a bd en b en2 bd2 z : Int} {s y : Int} (S : Sk t e a s) (O : OwR t wh wk wc wst wr wm wnu wrf wwk wni wne wsl wrp wwn e s y) (hy : ¬ y = 0) (h2 : 1 ≤ bd2) : NaR t wh wk wc wst wr wm wnu wrf wwk wni wne wsl wrp wwn e a bd en b en2 bd2 z := Or.inl ⟨h2, Or.inr (fun s2 n S2 _ W => by
  have u := Sk_uq S S2
  subst u
  rcases O with q | q
  · omega
  · exact absurd W q.2)⟩
theorem NaR_long {t wh wk wc wst wr wm wnu wrf wwk wni wne wsl wrp wwn : Nat → Int} {e a bd en b en2 bd2 z : Int} {s k v x : Int} (S : Sk t e a s) (D : NvI t e s k v) (h6 : k - s = 6) (hk : k < e) (hx : x = t k.toNat) (hl : 97 ≤ x ∧ x ≤ 122) (h2 : 1 ≤ bd2) : NaR t wh wk wc wst wr wm wnu wrf wwk wni wne wsl wrp wwn e a bd en b en2 bd2 z := Or.inl ⟨h2, Or.inr (fun s2 n S2 N _ => by
  have u := Sk_uq S S2
  subst u
  exfalso
  obtain ⟨m, a1, b1, c1, d1, f1, g1⟩ := D
  obtain ⟨n1, n2, n3, n4, n5⟩ := N
  rcases (by omega : n < 6 ∨ n = 6) with w9 | w9
  · exact n5 (by omega) (d1 n (by omega) (by omega))
  · refine n5 (by omega) ?_
    rw [(by omega : s + n = k)]
    show 97 ≤ t k.toNat ∧ t k.toNat ≤ 122
    omega)⟩
theorem NaR_of {t wh wk wc wst wr wm wnu wrf wwk wni wne wsl wrp wwn : Nat → Int} {e a bd en k en2 bd2 s v x y : Int} (S : Sk t e a s) (hb : bd = 0) (hb2 : bd2 = 0) (hs : ¬ s = en) (O : OwR t wh wk wc wst wr wm wnu wrf wwk wni wne wsl wrp wwn e s y) (hy : y = 0) (D : NvI t e s k v) (hk : e ≤ k ∨ t k.toNat ≤ 96 ∨ 123 ≤ t k.toNat) (hx : (x = -1 ∧ e ≤ s) ∨ (0 ≤ x ∧ s < e ∧ x = t s.toNat)) (hl : 97 ≤ x ∧ x ≤ 122) (he : en2 = k) : NaR t wh wk wc wst wr wm wnu wrf wwk wni wne wsl wrp wwn e a bd en k en2 bd2 v := by
  obtain ⟨m, a1, b1, c1, d1, f1, g1⟩ := D
  have m1 : 1 ≤ m := by
    rcases Nat.eq_zero_or_pos m with q | q
    · rw [(by omega : k = s)] at hk
      omega
    · exact q
  have N : NmAt t e s (m : Int) := ⟨by omega, by omega, by omega, d1, fun q => by
    rw [← a1]
    have : aI t k = t k.toNat := rfl
    unfold Ltr
    omega⟩
  rcases O with q | q
  · exact Or.inr ⟨hb2, hb, he, s, m, S, hs, N, q.2, a1, f1⟩
  · omega
theorem Nv_1 {t : Nat → Int} {e s k x : Int} (hx : (x = -1 ∧ e ≤ s) ∨ (0 ≤ x ∧ s < e ∧ x = t s.toNat)) (hl : 97 ≤ x ∧ x ≤ 122) (hk : e ≤ k ∨ t k.toNat ≤ 96 ∨ 123 ≤ t k.toNat) : ¬ k = s := by
  intro q
  subst q
  omega
theorem Ag_ne {t : Nat → Int} {e c a a1 bdx b bd2 z : Int} (S : Sk t e a a1) (hz : (z = -1 ∧ e ≤ a1) ∨ (0 ≤ z ∧ a1 < e ∧ z = t a1.toNat)) (A : AgQ t e c a1 bdx b bd2) (h : ¬ z = c) : 1 ≤ bd2 := by
  rcases A with x | ⟨_, _, s, x1, x2, x3, x4⟩
  · exact x.1
  · have u := Sk_uq (Sk_b S) x1
    subst u
    have e9 : aI t a1 = t a1.toNat := rfl
    omega
def StK (t wh wk wc wst wr wm wnu wrf wwk wni wne wsl wrp wwn kn : Nat → Int) (e km a en b : Int) : Prop := ∃ s n k, Sk t e a s ∧ ¬ s = en ∧ NmAt t e s n ∧ NoOw t wh wk wc wst wr wm wnu wrf wwk wni wne wsl wrp wwn e s ∧ b = s + n ∧ 0 ≤ k ∧ k < km ∧ kn (6 + k).toNat = nmv t s n.toNat
def StR (t wh wk wc wst wr wm wnu wrf wwk wni wne wsl wrp wwn kn : Nat → Int) (e km a bd en b en2 bd2 z : Int) : Prop := (1 ≤ bd2 ∧ z = -1 ∧ (¬ bd = 0 ∨ ∀ c, ¬ StK t wh wk wc wst wr wm wnu wrf wwk wni wne wsl wrp wwn kn e km a en c)) ∨ (bd2 = 0 ∧ bd = 0 ∧ en2 = b ∧ 0 ≤ z ∧ z < km ∧ StK t wh wk wc wst wr wm wnu wrf wwk wni wne wsl wrp wwn kn e km a en b)
def KnJ (kn : Nat → Int) (bd v i : Int) : Prop := bd = 0 → ∀ k, 0 ≤ k → k < i → ¬ kn (6 + k).toNat = v
theorem KnJ_0 {kn : Nat → Int} {bd v : Int} : KnJ kn bd v 0 := fun _ k a b => by omega
theorem KnJ_s {kn : Nat → Int} {bd v i x j : Int} (H : KnJ kn bd v i) (hx : x = kn j.toNat) (hj : j = 6 + i) (h : ¬ x = v ∨ ¬ bd = 0) : KnJ kn bd v (i + 1) := fun q k k0 k1 => by
  by_cases z : k = i
  · subst z
    rw [← hj, ← hx]
    omega
  · exact H q k k0 (by omega)
theorem StR_y {t wh wk wc wst wr wm wnu wrf wwk wni wne wsl wrp wwn kn : Nat → Int} {e km a bd en b en2 bd2 v i x j : Int} (H : NaR t wh wk wc wst wr wm wnu wrf wwk wni wne wsl wrp wwn e a bd en b en2 bd2 v) (hb : bd2 = 0) (hx : x = kn j.toNat) (hj : j = 6 + i) (h : x = v) (i0 : 0 ≤ i) (i1 : i < km) : StR t wh wk wc wst wr wm wnu wrf wwk wni wne wsl wrp wwn kn e km a bd en b en2 bd2 i := by
  rcases H with q | ⟨_, q1, q2, s, n, q3, q4, q5, q6, q7, q8⟩
  · omega
  · exact Or.inr ⟨hb, q1, q2, i0, i1, s, n, i, q3, q4, q5, q6, q7, i0, i1, by rw [← hj, ← hx, h]; exact q8⟩
theorem StR_n {t wh wk wc wst wr wm wnu wrf wwk wni wne wsl wrp wwn kn : Nat → Int} {e km a bd en b en2 bd1 bd2 v i : Int} (H : NaR t wh wk wc wst wr wm wnu wrf wwk wni wne wsl wrp wwn e a bd en b en2 bd1 v) (J : KnJ kn bd1 v i) (hi : km ≤ i) (h2 : 1 ≤ bd2) : StR t wh wk wc wst wr wm wnu wrf wwk wni wne wsl wrp wwn kn e km a bd en b en2 bd2 (-1) := by
  refine Or.inl ⟨h2, rfl, ?_⟩
  rcases H with ⟨_, q | q⟩ | ⟨q0, q1, q2, s, n, q3, q4, q5, q6, q7, q8⟩
  · exact Or.inl q
  · exact Or.inr (fun c ⟨s, n, k, s1, s2, s3, s4, _⟩ => s2 (q s n s1 s3 s4))
  · refine Or.inr (fun c ⟨s', n', k, s1, s2, s3, s4, s5, s6, s7, s8⟩ => ?_)
    have u := Sk_uq q3 s1
    subst u
    have u2 := NmAt_uq q5 s3
    subst u2
    exact J q0 k s6 (by omega) (by rw [s8, q8])
def OpR (t : Nat → Int) (e a op b bd2 : Int) : Prop := bd2 = 0 → op ≤ 3 ∧ ∃ s, Sk t e a s ∧ s < e ∧ aI t s = 91 ∧ b = s + 1
theorem OpR_bad {t : Nat → Int} {e a op b bd2 : Int} (h : 1 ≤ bd2) : OpR t e a op b bd2 := fun q => by omega
theorem OpR_of {t : Nat → Int} {e a a1 op bdx b bd2 z : Int} (S : Sk t e a a1) (hz : (z = -1 ∧ e ≤ a1) ∨ (0 ≤ z ∧ a1 < e ∧ z = t a1.toNat)) (A : AgQ t e 91 a1 bdx b bd2) (h : z = 91 → op ≤ 3) : OpR t e a op b bd2 := fun q => by
  rcases A with x | ⟨_, _, s, x1, x2, x3, x4⟩
  · omega
  · have u := Sk_uq (Sk_b S) x1
    subst u
    have e9 : aI t a1 = t a1.toNat := rfl
    exact ⟨h (by omega), a1, S, x2, x3, x4⟩
def ActP (t wh wk wc wst wr wm wnu wrf wwk wni wne wsl wrp wwn kn : Nat → Int) (e km a d b d2 : Int) : Prop := ∃ s, Sk t e a s ∧ ((s < e ∧ aI t s = 93 ∧ 1 ≤ d ∧ b = s + 1 ∧ d2 = d - 1) ∨ (WdAt t wsl e 5 s ∧ d2 = d ∧ ∃ u, Sk t e (s + 5) u ∧ u < e ∧ aI t u = 59 ∧ b = u + 1) ∨ (WdAt t wrp e 6 s ∧ d ≤ 3 ∧ d2 = d + 1 ∧ ∃ s2 v p u, Sk t e (s + 6) s2 ∧ ¬ s2 = s + 6 ∧ NuAt t e s2 v p ∧ 0 ≤ v ∧ v ≤ 99 ∧ Sk t e p u ∧ u < e ∧ aI t u = 91 ∧ b = u + 1) ∨ (WdAt t wwn e 4 s ∧ d ≤ 3 ∧ d2 = d + 1 ∧ ∃ p u p2 u2, Tkn t wni e (s + 4) (s + 4) p ∧ Sk t e p u ∧ u < e ∧ aI t u = 61 ∧ Tkn t wni e (u + 1) (-1) p2 ∧ Sk t e p2 u2 ∧ u2 < e ∧ aI t u2 = 91 ∧ b = u2 + 1) ∨ (d2 = d ∧ ∃ p s2 q u, Pth t e s (-1) p ∧ p < e ∧ aI t p = 61 ∧ Sk t e (p + 1) s2 ∧ ((WdAt t wne e 3 s2 ∧ StK t wh wk wc wst wr wm wnu wrf wwk wni wne wsl wrp wwn kn e km (s2 + 3) (s2 + 3) q) ∨ (¬ WdAt t wne e 3 s2 ∧ Tkn t wni e (p + 1) (-1) q)) ∧ Sk t e q u ∧ u < e ∧ aI t u = 59 ∧ b = u + 1))
def AtR (t wh wk wc wst wr wm wnu wrf wwk wni wne wsl wrp wwn kn : Nat → Int) (e km a d b d2 bd2 : Int) : Prop := bd2 = 0 → ActP t wh wk wc wst wr wm wnu wrf wwk wni wne wsl wrp wwn kn e km a d b d2
theorem AtR_bad {t wh wk wc wst wr wm wnu wrf wwk wni wne wsl wrp wwn kn : Nat → Int} {e km a d b d2 bd2 : Int} (h : 1 ≤ bd2) : AtR t wh wk wc wst wr wm wnu wrf wwk wni wne wsl wrp wwn kn e km a d b d2 bd2 := fun q => by omega
def Sx (t : Nat → Int) (e a x : Int) : Prop := x = a ∨ Sk t e a x
theorem Sx_sk {t : Nat → Int} {e a x s : Int} (H : Sx t e a x) (S : Sk t e x s) : Sk t e a s := by
  rcases H with q | q
  · subst q
    exact S
  · have u := Sk_uq (Sk_b q) S
    subst u
    exact q
theorem Sx_sg {t : Nat → Int} {e c a bd b z x : Int} (H : Sx t e a x) (A : SgR t e c x bd b z) (h : z = 0) (hb : bd = 0) : Sx t e a b := Or.inr (Sx_sk H (Sg_sk A h hb))
theorem Sx_tk {t w : Nat → Int} {e n a bd en b en2 y x : Int} (H : Sx t e a x) (T : TkQ t w e n x bd en b en2 y) (hy : y = 0) (h : bd = 0) : Sx t e a b := Or.inr (Sx_sk H (Tk_sk T hy h).1)
theorem Pth_en {t : Nat → Int} {e a en en2 b : Int} (P : Pth t e a en b) (h : en2 < a) : Pth t e a en2 b := by
  obtain ⟨s, r, h1, h2, h3⟩ := P
  exact ⟨s, r, h1, by have := h1.1; omega, h3⟩
theorem Tkn_en {t nl : Nat → Int} {e a en en2 b : Int} (P : Tkn t nl e a en b) (h : en2 < a) : Tkn t nl e a en2 b := by
  rcases P with ⟨s, v, p1, p2, p3⟩ | ⟨s, p1, p2, p3⟩ | ⟨p, p1, p2⟩
  · exact Or.inl ⟨s, v, p1, by have := p1.1; omega, p3⟩
  · exact Or.inr (Or.inl ⟨s, p1, by have := p1.1; omega, p3⟩)
  · exact Or.inr (Or.inr ⟨p, Pth_en p1 h, p2⟩)
theorem Tk_y {t w : Nat → Int} {e n a bd en b en2 y : Int} (T : TkQ t w e n a bd en b en2 y) (hy : y = 1) : en2 = b ∧ ∃ s, Sk t e a s ∧ WdAt t w e n s ∧ ¬ s = en ∧ b = s + n := by
  rcases T with ⟨_, _, t1, t2⟩ | q
  · exact ⟨t1, t2⟩
  · omega
theorem Ag_y {t : Nat → Int} {e c a bd b bd2 : Int} (A : AgQ t e c a bd b bd2) (h : bd2 = 0) : bd = 0 ∧ ∃ s, Sk t e a s ∧ s < e ∧ aI t s = c ∧ b = s + 1 := by
  rcases A with q | ⟨_, q1, q2⟩
  · omega
  · exact ⟨q1, q2⟩
theorem DT_ge {t : Nat → Int} {e : Int} : ∀ (n : Nat) {p b : Int}, DT t e n p b → p ≤ b
  | 0, _, _, D => D.1.1
  | n + 1, _, _, D => by
    obtain ⟨s, s2, v, q, d1, d2, d3, d4, d5, d6⟩ := D
    have h := DT_ge n d6
    have h1 := d1.1
    have h4 := d4.1
    have h5 := (NuAt_d d5).2.2.1
    omega
theorem Pth_ge {t : Nat → Int} {e a en b : Int} (P : Pth t e a en b) : a < b := by
  obtain ⟨s, r, p1, _, _, _, _, n, D⟩ := P
  have := DT_ge n D
  have := p1.1
  omega
theorem Tkn_ge {t nl : Nat → Int} {e a en b : Int} (P : Tkn t nl e a en b) : a < b := by
  rcases P with ⟨s, v, p1, p2, p3, _⟩ | ⟨s, p1, p2, p3, p4⟩ | ⟨p, p1, p2 | ⟨_, _, s, v, q1, q2, _⟩⟩
  · have := p1.1
    have := (NuAt_d p3).2.2.1
    omega
  · have := p1.1
    omega
  · have := Pth_ge p1
    omega
  · have := Pth_ge p1
    have := q1.1
    have := (NuAt_d q2).2.2.1
    omega
theorem Tkn_sk {t nl : Nat → Int} {e a s en b : Int} (S : Sk t e a s) (P : Tkn t nl e s en b) : Tkn t nl e a en b := by
  rcases P with ⟨s2, v, p1, p2⟩ | ⟨s2, p1, p2⟩ | ⟨p, p1, p2⟩
  · have u := Sk_uq (Sk_b S) p1
    subst u
    exact Or.inl ⟨s, v, S, p2⟩
  · have u := Sk_uq (Sk_b S) p1
    subst u
    exact Or.inr (Or.inl ⟨s, S, p2⟩)
  · exact Or.inr (Or.inr ⟨p, Pth_sk S p1, p2⟩)
theorem Pth_s {t : Nat → Int} {e a x en b : Int} (X : Sx t e a x) (P : Pth t e x en b) : ∃ s, Sk t e a s ∧ Pth t e s en b := by
  obtain ⟨s, r, p1, p2⟩ := P
  exact ⟨s, Sx_sk X p1, s, r, Sk_b p1, p2⟩
theorem Act_c {t wh wk wc wst wr wm wnu wrf wwk wni wne wsl wrp wwn kn : Nat → Int} {e km a d b d2 bd2 : Int} {bd z : Int} (A : SgR t e 93 a bd b z) (hz : z = 1) (hd : 1 ≤ d) (h2 : d2 = d - 1) : AtR t wh wk wc wst wr wm wnu wrf wwk wni wne wsl wrp wwn kn e km a d b d2 bd2 := fun _ => by
  rcases A with ⟨_, _, s, a1, a2, a3, a4⟩ | q
  · exact ⟨s, a1, Or.inl ⟨a2, a3, hd, a4, h2⟩⟩
  · omega
theorem Act_s {t wh wk wc wst wr wm wnu wrf wwk wni wne wsl wrp wwn kn : Nat → Int} {e km a d b d2 bd2 : Int} {x bd en b1 en2 y bd1 : Int} (X : Sx t e a x) (T : TkQ t wsl e 5 x bd en b1 en2 y) (hy : y = 1) (A : AgQ t e 59 b1 bd1 b bd2) (h2 : d2 = d) : AtR t wh wk wc wst wr wm wnu wrf wwk wni wne wsl wrp wwn kn e km a d b d2 bd2 := fun q => by
  obtain ⟨_, s, t1, t2, t3, t4⟩ := Tk_y T hy
  obtain ⟨_, u, a1, a2, a3, a4⟩ := Ag_y A q
  subst t4
  exact ⟨s, Sx_sk X t1, Or.inr (Or.inl ⟨t2, h2, u, a1, a2, a3, a4⟩)⟩
theorem Act_r {t wh wk wc wst wr wm wnu wrf wwk wni wne wsl wrp wwn kn : Nat → Int} {e km a d b d2 bd2 : Int} {x bd en b1 en2 y bd1 p en3 bdn v : Int} (X : Sx t e a x) (T : TkQ t wrp e 6 x bd en b1 en2 y) (hy : y = 1) (N : NuR t e 0 99 b1 bd1 en2 p en3 bdn v) (O : OpR t e p d b bd2) (hm : bd2 = 0 → bdn = 0) (h2 : d2 = d + 1) : AtR t wh wk wc wst wr wm wnu wrf wwk wni wne wsl wrp wwn kn e km a d b d2 bd2 := fun q => by
  obtain ⟨t0, s, t1, t2, t3, t4⟩ := Tk_y T hy
  obtain ⟨o1, u, a1, a2, a3, a4⟩ := O q
  rcases N with n | ⟨_, _, _, n1, n2, s2, n3, n4, n5⟩
  · have := hm q
    omega
  · subst t4
    exact ⟨s, Sx_sk X t1, Or.inr (Or.inr (Or.inl ⟨t2, o1, h2, s2, v, p, u, n3, by omega, n5, n1, n2, a1, a2, a3, a4⟩))⟩
theorem Act_w {t wh wk wc wst wr wm wnu wrf wwk wni wne wsl wrp wwn kn : Nat → Int} {e km a d b d2 bd2 : Int} {x bd en b1 en2 y bd1 p b2 bda en3 p2 bdt : Int} (X : Sx t e a x) (T : TkQ t wwn e 4 x bd en b1 en2 y) (hy : y = 1) (P : TdO t wni e b1 en2 p bd1) (A : AgQ t e 61 p bd1 b2 bda) (P2 : TdO t wni e b2 en3 p2 bdt) (O : OpR t e p2 d b bd2) (hm : bd2 = 0 → bdt = 0 ∧ bda = 0) (h2 : d2 = d + 1) (h0 : 0 ≤ a) : AtR t wh wk wc wst wr wm wnu wrf wwk wni wne wsl wrp wwn kn e km a d b d2 bd2 := fun q => by
  obtain ⟨t0, s, t1, t2, t3, t4⟩ := Tk_y T hy
  obtain ⟨o1, u2, o2, o3, o4, o5⟩ := O q
  have hq := hm q
  obtain ⟨a0, u, a1, a2, a3, a4⟩ := Ag_y A hq.2
  have k := P a0
  have k2 := P2 hq.1
  subst t4 a4
  rw [t0] at k
  have S := Sx_sk X t1
  have s0 := S.1
  refine ⟨s, S, Or.inr (Or.inr (Or.inr (Or.inl ⟨t2, o1, h2, p, u, p2, u2, k, a1, a2, a3, Tkn_en k2 ?_, o2, o3, o4, o5⟩)))⟩
  have w1 := t2.1
  have w2 := Tkn_ge k
  have w3 := a1.1
  omega
theorem Act_n {t wh wk wc wst wr wm wnu wrf wwk wni wne wsl wrp wwn kn : Nat → Int} {e km a d b d2 bd2 z2 : Int} {x en p bdp b1 bd1 b2 en2 y q en3 bdk z : Int} (X : Sx t e a x) (P : PdR t e x en p bdp) (A : AgQ t e 61 p bdp b1 bd1) (T : TkQ t wne e 3 b1 bd1 en2 b2 en3 y) (hy : y = 1) (K : StR t wh wk wc wst wr wm wnu wrf wwk wni wne wsl wrp wwn kn e km b2 bd1 en3 q z bdk z2) (B : AgQ t e 59 q bdk b bd2) (h2 : d2 = d) (h0 : 0 ≤ a) : AtR t wh wk wc wst wr wm wnu wrf wwk wni wne wsl wrp wwn kn e km a d b d2 bd2 := fun h => by
  obtain ⟨k0, u, a1, a2, a3, a4⟩ := Ag_y B h
  rcases K with k | ⟨_, k1, k2, k3, k4, k5⟩
  · omega
  · obtain ⟨t0, s2, t1, t2, t3, t4⟩ := Tk_y T hy
    obtain ⟨p0, v, b1', b2', b3', b4'⟩ := Ag_y A k1
    have pp := P p0
    have pb := Sk_uq (Pth_b pp) b1'
    subst pb
    subst b4' t4
    rw [t0] at k5
    have sp := Pth_s X pp
    obtain ⟨s, S, pp2⟩ := sp
    have := S.1
    exact ⟨s, S, Or.inr (Or.inr (Or.inr (Or.inr ⟨h2, p, s2, q, u, Pth_en pp2 (by omega), b2', b3', t1, Or.inl ⟨t2, k5⟩, a1, a2, a3, a4⟩)))⟩
theorem Act_t {t wh wk wc wst wr wm wnu wrf wwk wni wne wsl wrp wwn kn : Nat → Int} {e km a d b d2 bd2 : Int} {x en p bdp b1 bd1 b2 en2 y q en3 bdk : Int} (X : Sx t e a x) (P : PdR t e x en p bdp) (A : AgQ t e 61 p bdp b1 bd1) (he : bd1 = 0 → en2 < b1) (T : TkQ t wne e 3 b1 bd1 en2 b2 en3 y) (hy : y = 0) (K : TdO t wni e b2 en3 q bdk) (hk : bdk = 0 → bd1 = 0) (B : AgQ t e 59 q bdk b bd2) (h2 : d2 = d) (h0 : 0 ≤ a) : AtR t wh wk wc wst wr wm wnu wrf wwk wni wne wsl wrp wwn kn e km a d b d2 bd2 := fun h => by
  obtain ⟨k0, u, a1, a2, a3, a4⟩ := Ag_y B h
  have d1 := hk k0
  have k5 := K k0
  obtain ⟨p0, v, b1', b2', b3', b4'⟩ := Ag_y A d1
  have pp := P p0
  have pb := Sk_uq (Pth_b pp) b1'
  subst pb
  have he1 := he d1
  rcases T with w | ⟨_, t0, w | ⟨_, t1, t2⟩⟩
  · omega
  · omega
  · subst b4'
    have sp := Pth_s X pp
    obtain ⟨s, S, pp2⟩ := sp
    have g1 := S.1
    have g2 := t1.1
    have nw : ¬ WdAt t wne e 3 b2 := by
      rcases t2 with w | w
      · omega
      · exact w
    have p00 : 0 ≤ p := by
      have := Pth_ge pp2
      omega
    exact ⟨s, S, Or.inr (Or.inr (Or.inr (Or.inr ⟨h2, p, b2, q, u, Pth_en pp2 (by omega), b2', b3', t1, Or.inr ⟨nw, Tkn_en (Tkn_sk t1 k5) (by omega)⟩, a1, a2, a3, a4⟩)))⟩
def GP (t wh wk wc wst wr wm wnu wrf wwk wni wne wsl wrp wwn kn : Nat → Int) (e km : Int) : Nat → Int → Int → Prop
  | 0, a, d => d = 0 ∧ ∃ s, Sk t e a s ∧ e ≤ s
  | n + 1, a, d => ∃ b d2, ActP t wh wk wc wst wr wm wnu wrf wwk wni wne wsl wrp wwn kn e km a d b d2 ∧ GP t wh wk wc wst wr wm wnu wrf wwk wni wne wsl wrp wwn kn e km n b d2
theorem ActP_sk {t wh wk wc wst wr wm wnu wrf wwk wni wne wsl wrp wwn kn : Nat → Int} {e km a s d b d2 : Int} (S : Sk t e a s) (A : ActP t wh wk wc wst wr wm wnu wrf wwk wni wne wsl wrp wwn kn e km s d b d2) : ActP t wh wk wc wst wr wm wnu wrf wwk wni wne wsl wrp wwn kn e km a d b d2 := by
  obtain ⟨s2, a1, a2⟩ := A
  have u := Sk_uq (Sk_b S) a1
  subst u
  exact ⟨s, S, a2⟩
theorem GP_sk {t wh wk wc wst wr wm wnu wrf wwk wni wne wsl wrp wwn kn : Nat → Int} {e km a s d : Int} (S : Sk t e a s) : ∀ n : Nat, GP t wh wk wc wst wr wm wnu wrf wwk wni wne wsl wrp wwn kn e km n s d → GP t wh wk wc wst wr wm wnu wrf wwk wni wne wsl wrp wwn kn e km n a d
  | 0, h => ⟨h.1, by
    obtain ⟨_, s2, h1, h2⟩ := h
    have u := Sk_uq (Sk_b S) h1
    subst u
    exact ⟨s, S, h2⟩⟩
  | n + 1, h => by
    obtain ⟨b, d2, h1, h2⟩ := h
    exact ⟨b, d2, ActP_sk S h1, h2⟩
def GPx (t wh wk wc wst wr wm wnu wrf wwk wni wne wsl wrp wwn kn : Nat → Int) (e km a d : Int) : Prop := ∃ n, GP t wh wk wc wst wr wm wnu wrf wwk wni wne wsl wrp wwn kn e km n a d
def RtJ (t wh wk wc wst wr wm wnu wrf wwk wni wne wsl wrp wwn kn : Nat → Int) (e km a d bd : Int) : Prop := bd = 0 → GPx t wh wk wc wst wr wm wnu wrf wwk wni wne wsl wrp wwn kn e km a d → GPx t wh wk wc wst wr wm wnu wrf wwk wni wne wsl wrp wwn kn e km 0 0
theorem RtJ_0 {t wh wk wc wst wr wm wnu wrf wwk wni wne wsl wrp wwn kn : Nat → Int} {e km bd : Int} : RtJ t wh wk wc wst wr wm wnu wrf wwk wni wne wsl wrp wwn kn e km 0 0 bd := fun _ h => h
theorem RtJ_s {t wh wk wc wst wr wm wnu wrf wwk wni wne wsl wrp wwn kn : Nat → Int} {e km a d bd a1 b d2 bd2 : Int} (H : RtJ t wh wk wc wst wr wm wnu wrf wwk wni wne wsl wrp wwn kn e km a d bd) (h : bd = 0) (S : Sk t e a a1) (A : AtR t wh wk wc wst wr wm wnu wrf wwk wni wne wsl wrp wwn kn e km a1 d b d2 bd2) : RtJ t wh wk wc wst wr wm wnu wrf wwk wni wne wsl wrp wwn kn e km b d2 bd2 := fun q ⟨n, g⟩ => H h ⟨n + 1, b, d2, ActP_sk S (A q), g⟩
def RtR (t wh wk wc wst wr wm wnu wrf wwk wni wne wsl wrp wwn kn : Nat → Int) (e km bd : Int) : Prop := bd = 0 → GPx t wh wk wc wst wr wm wnu wrf wwk wni wne wsl wrp wwn kn e km 0 0
theorem RtR_bad {t wh wk wc wst wr wm wnu wrf wwk wni wne wsl wrp wwn kn : Nat → Int} {e km bd : Int} (h : 1 ≤ bd) : RtR t wh wk wc wst wr wm wnu wrf wwk wni wne wsl wrp wwn kn e km bd := fun q => by omega
theorem RtR_of {t wh wk wc wst wr wm wnu wrf wwk wni wne wsl wrp wwn kn : Nat → Int} {e km a d bd a1 z bd2 : Int} (H : RtJ t wh wk wc wst wr wm wnu wrf wwk wni wne wsl wrp wwn kn e km a d bd) (h : bd = 0) (S : Sk t e a a1) (hz : (z = -1 ∧ e ≤ a1) ∨ (0 ≤ z ∧ a1 < e ∧ z = t a1.toNat)) (h1 : z = -1) (hd : d = 0) : RtR t wh wk wc wst wr wm wnu wrf wwk wni wne wsl wrp wwn kn e km bd2 := fun _ => H h ⟨0, hd, a1, S, by omega⟩
