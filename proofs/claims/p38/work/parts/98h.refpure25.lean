def PL (t : Nat → Int) (a b : Int) : Prop := ∀ j, a ≤ j → j < b → ¬ aI t j = 61 ∧ ¬ aI t j = 91 ∧ ¬ aI t j = 93
theorem PL_tr {t : Nat → Int} {a b c : Int} (A : PL t a b) (B : PL t b c) : PL t a c := fun j j0 j1 => by
  by_cases q : j < b
  · exact A j j0 q
  · exact B j (by omega) j1
theorem PL_1 {t : Nat → Int} {s b : Int} (h : ¬ aI t s = 61 ∧ ¬ aI t s = 91 ∧ ¬ aI t s = 93) (hb : b = s + 1) : PL t s b := fun j j0 j1 => by
  have : j = s := by omega
  subst this
  exact h
theorem PL_sk {t : Nat → Int} {e a b : Int} (S : Sk t e a b) : PL t a b := fun j j0 j1 => by
  have := (S.2.1 j j0 j1).2
  unfold Blk at this
  omega
theorem PL_wd {t w : Nat → Int} {e n s b : Int} (A : WdAt t w e n s) (hb : b = s + n) : PL t s b := fun j j0 j1 => by
  have := (A.2.2.1 (j - s) (by omega) (by omega)).2
  rw [(by omega : s + (j - s) = j)] at this
  unfold Ltr at this
  omega
theorem PL_nm {t : Nat → Int} {e n s b : Int} (A : NmAt t e s n) (hb : b = s + n) : PL t s b := fun j j0 j1 => by
  have := A.2.2.2.1 (j - s) (by omega) (by omega)
  rw [(by omega : s + (j - s) = j)] at this
  unfold Ltr at this
  omega
theorem PL_nu {t : Nat → Int} {e s v b : Int} (A : NuAt t e s v b) : PL t s b := fun j j0 j1 => by
  obtain ⟨n, n1, n3, nb, ne, nd, nx, nv⟩ := A
  have := nd (j - s).toNat (by omega)
  rw [(by omega : s + ((j - s).toNat : Int) = j)] at this
  unfold Dgt at this
  omega
theorem PL_dt {t : Nat → Int} {e : Int} : ∀ (n : Nat) {p b : Int}, DT t e n p b → PL t p b
  | 0, _, _, D => PL_sk D.1
  | n + 1, _, _, D => by
    obtain ⟨s, s2, v, q, d1, d2, d3, d4, d5, d6⟩ := D
    exact PL_tr (PL_sk d1) (PL_tr (PL_1 (b := s + 1) (by omega) rfl) (PL_tr (PL_sk d4) (PL_tr (PL_nu d5) (PL_dt n d6))))
theorem PL_pt {t : Nat → Int} {e a en b : Int} (A : Pth t e a en b) : PL t a b := by
  obtain ⟨s, r, p1, p2, p3, p4, p5, n, D⟩ := A
  have := p5.2.1
  exact PL_tr (PL_sk p1) (PL_tr (PL_1 (b := s + 1) (by omega) rfl) (PL_dt n D))
theorem PL_tk {t nl : Nat → Int} {e a en b : Int} (A : Tkn t nl e a en b) : PL t a b := by
  rcases A with ⟨s, v, p1, p2, p3, _⟩ | ⟨s, p1, p2, p3, p4⟩ | ⟨p, p1, p2 | ⟨_, p3, s, v, q1, q2, _⟩⟩
  · exact PL_tr (PL_sk p1) (PL_nu p3)
  · exact PL_tr (PL_sk p1) (PL_wd p3 p4)
  · rw [p2.1]
    exact PL_pt p1
  · exact PL_tr (PL_pt p1) (PL_tr (PL_1 (b := p + 1) (by omega) rfl) (PL_tr (PL_sk q1) (PL_nu q2)))
def brk (c : Int) : Int := if c = 91 then 1 else if c = 93 then -1 else 0
def Rs (t : Nat → Int) (e : Int) : Nat → Int → Int → Int → Prop
  | 0, p, k, q => k = 0 ∧ p = q
  | n + 1, p, k, q => (k = 0 ∧ p = q) ∨ (1 ≤ k ∧ p < e ∧ Rs t e n (p + 1) (k + brk (aI t p)) q)
def Rsx (t : Nat → Int) (e p k q : Int) : Prop := ∃ n, Rs t e n p k q
theorem Rsx_0 {t : Nat → Int} {e p : Int} : Rsx t e p 0 p := ⟨0, rfl, rfl⟩
theorem Rsx_s {t : Nat → Int} {e p k q : Int} (h : 1 ≤ k) (hp : p < e) (R : Rsx t e (p + 1) (k + brk (aI t p)) q) : Rsx t e p k q := by
  obtain ⟨n, R⟩ := R
  exact ⟨n + 1, Or.inr ⟨h, hp, R⟩⟩
theorem Rsx_ge {t : Nat → Int} {e : Int} : ∀ (n : Nat) {p k q : Int}, Rs t e n p k q → p ≤ q
  | 0, _, _, _, h => by have := h.2; omega
  | n + 1, _, _, _, h => by
    rcases h with h | h
    · omega
    · have := Rsx_ge n h.2.2
      omega
theorem Rsx_i {t : Nat → Int} {e p k q : Int} (R : Rsx t e p k q) : (k = 0 ∧ p = q) ∨ (1 ≤ k ∧ p < e ∧ Rsx t e (p + 1) (k + brk (aI t p)) q) := by
  obtain ⟨n, R⟩ := R
  cases n with
  | zero => exact Or.inl R
  | succ n =>
    rcases R with R | R
    · exact Or.inl R
    · exact Or.inr ⟨R.1, R.2.1, n, R.2.2⟩
theorem Rsx_pl {t : Nat → Int} {e k q : Int} (h : 1 ≤ k) : ∀ (m : Nat) {a b : Int}, b = a + m → b ≤ e → PL t a b → Rsx t e b k q → Rsx t e a k q
  | 0, a, b, hb, _, _, R => by
    rw [(by omega : a = b)]
    exact R
  | m + 1, a, b, hb, he, A, R => by
    refine Rsx_s h (by omega) ?_
    have p := A a (by omega) (by omega)
    have e0 : k + brk (aI t a) = k := by unfold brk; rw [if_neg p.2.1, if_neg p.2.2]; omega
    rw [e0]
    exact Rsx_pl h m (by omega) he (fun j j0 j1 => A j (by omega) j1) R
theorem Rsx_span {t : Nat → Int} {e a b k q : Int} (h : 1 ≤ k) (hab : a ≤ b) (he : b ≤ e) (A : PL t a b) (R : Rsx t e b k q) : Rsx t e a k q := Rsx_pl h (b - a).toNat (by omega) he A R
theorem Rsx_eq {t : Nat → Int} {e s b k q : Int} (h : 1 ≤ k) (hs : s < e) (hc : aI t s = 61) (hb : b = s + 1) (R : Rsx t e b k q) : Rsx t e s k q := by
  subst hb
  refine Rsx_s h hs ?_
  have e0 : k + brk (aI t s) = k := by unfold brk; rw [if_neg (by omega), if_neg (by omega)]; omega
  rw [e0]
  exact R
theorem Rsx_op {t : Nat → Int} {e s b k q : Int} (h : 1 ≤ k) (hs : s < e) (hc : aI t s = 91) (hb : b = s + 1) (R : Rsx t e b (k + 1) q) : Rsx t e s k q := by
  subst hb
  refine Rsx_s h hs ?_
  have e0 : k + brk (aI t s) = k + 1 := by unfold brk; rw [if_pos hc]
  rw [e0]
  exact R
theorem Rsx_cl {t : Nat → Int} {e s b k q : Int} (h : 1 ≤ k) (hs : s < e) (hc : aI t s = 93) (hb : b = s + 1) (R : Rsx t e b (k - 1) q) : Rsx t e s k q := by
  subst hb
  refine Rsx_s h hs ?_
  have e0 : k + brk (aI t s) = k - 1 := by unfold brk; rw [if_neg (by omega), if_pos hc]; omega
  rw [e0]
  exact R
theorem Sk_le {t : Nat → Int} {e a b : Int} (S : Sk t e a b) (h : b < e) : a ≤ e := by have := S.1; omega
theorem PL_st {t wh wk wc wst wr wm wnu wrf wwk wni wne wsl wrp wwn kn : Nat → Int} {e km a en b : Int} (A : StK t wh wk wc wst wr wm wnu wrf wwk wni wne wsl wrp wwn kn e km a en b) : PL t a b := by
  obtain ⟨s, n, k, p1, p2, p3, p4, p5, _⟩ := A
  exact PL_tr (PL_sk p1) (PL_nm p3 p5)
theorem StK_ge {t wh wk wc wst wr wm wnu wrf wwk wni wne wsl wrp wwn kn : Nat → Int} {e km a en b : Int} (A : StK t wh wk wc wst wr wm wnu wrf wwk wni wne wsl wrp wwn kn e km a en b) : a < b := by
  obtain ⟨s, n, k, p1, p2, p3, p4, p5, _⟩ := A
  have := p1.1
  have := p3.1
  omega
theorem Gskip {t wh wk wc wst wr wm wnu wrf wwk wni wne wsl wrp wwn kn : Nat → Int} {e km d : Int} (hd : 0 ≤ d) : ∀ (n : Nat) (a k : Int), 1 ≤ k → GP t wh wk wc wst wr wm wnu wrf wwk wni wne wsl wrp wwn kn e km n a (d + k) → ∃ q, Rsx t e a k q ∧ GPx t wh wk wc wst wr wm wnu wrf wwk wni wne wsl wrp wwn kn e km q d
  | 0, a, k, hk, h => by have := h.1; omega
  | n + 1, a, k, hk, h => by
    obtain ⟨b, d2, ⟨s, S, A⟩, G⟩ := h
    have s0 := S.1
    rcases A with ⟨a1, a2, a3, a4, a5⟩ | ⟨a1, a2, u, a3, a4, a5, a6⟩ | ⟨a1, _, a2, s2, v, p, u, a3, _, a4, _, _, a5, a6, a7, a8⟩ | ⟨a1, _, a2, p, u, p2, u2, a3, a4, a5, a6, a7, a8, a9, a10, a11⟩ | ⟨a1, p, s2, q, u, a2, a3, a4, a5, a6, a7, a8, a9, a10⟩
    · by_cases k1 : k = 1
      · refine ⟨b, Rsx_span hk s0 (by omega) (PL_sk S) (Rsx_cl hk a1 a2 a4 (by rw [k1]; exact Rsx_0)), n, ?_⟩
        rw [(by omega : d = d2)]
        exact G
      · obtain ⟨q, r1, r2⟩ := Gskip hd n b (k - 1) (by omega) (by rw [(by omega : d + (k - 1) = d2)]; exact G)
        exact ⟨q, Rsx_span hk s0 (by omega) (PL_sk S) (Rsx_cl hk a1 a2 a4 r1), r2⟩
    · obtain ⟨q, r1, r2⟩ := Gskip hd n b k hk (by rw [← a2]; exact G)
      have := a3.1
      have w1 := a1.2.1
      exact ⟨q, Rsx_span hk (by omega) (by omega) (PL_tr (PL_sk S) (PL_tr (PL_wd a1 rfl) (PL_tr (PL_sk a3) (PL_1 (by omega) a6)))) r1, r2⟩
    · obtain ⟨q, r1, r2⟩ := Gskip hd n b (k + 1) (by omega) (by rw [(by omega : d + (k + 1) = d2)]; exact G)
      have := a3.1
      have := a5.1
      have := (NuAt_d a4).2.2.1
      exact ⟨q, Rsx_span hk (by omega) (by omega) (PL_tr (PL_sk S) (PL_tr (PL_wd a1 rfl) (PL_tr (PL_sk a3) (PL_tr (PL_nu a4) (PL_sk a5))))) (Rsx_op hk a6 a7 a8 r1), r2⟩
    · obtain ⟨q, r1, r2⟩ := Gskip hd n b (k + 1) (by omega) (by rw [(by omega : d + (k + 1) = d2)]; exact G)
      have := a4.1
      have := a8.1
      have := Tkn_ge a3
      have := Tkn_ge a7
      have z := Rsx_span hk (by omega) (by omega) (PL_tr (PL_tk a7) (PL_sk a8)) (Rsx_op hk a9 a10 a11 r1)
      exact ⟨q, Rsx_span hk (by omega) (by omega) (PL_tr (PL_sk S) (PL_tr (PL_wd a1 rfl) (PL_tr (PL_tk a3) (PL_sk a4)))) (Rsx_eq hk a5 a6 rfl z), r2⟩
    · obtain ⟨q', r1, r2⟩ := Gskip hd n b k hk (by rw [← a1]; exact G)
      have := Pth_ge a2
      have := a5.1
      have := a7.1
      have z : p + 1 ≤ u + 1 ∧ PL t (p + 1) b := by
        rcases a6 with ⟨b1, b2⟩ | ⟨b1, b2⟩
        · have := StK_ge b2
          exact ⟨by omega, PL_tr (PL_sk a5) (PL_tr (PL_wd b1 rfl) (PL_tr (PL_st b2) (PL_tr (PL_sk a7) (PL_1 (by omega) a10))))⟩
        · have := Tkn_ge b2
          exact ⟨by omega, PL_tr (PL_tk b2) (PL_tr (PL_sk a7) (PL_1 (by omega) a10))⟩
      exact ⟨q', Rsx_span hk (by omega) (by omega) (PL_tr (PL_sk S) (PL_pt a2)) (Rsx_eq hk a3 a4 rfl (Rsx_span hk (by omega) (by omega) z.2 r1)), r2⟩
def GPS (t wh wk wc wst wr wm wnu wrf wwk wni wne wsl wrp wwn kn : Nat → Int) (e km a d : Int) : Prop := GPx t wh wk wc wst wr wm wnu wrf wwk wni wne wsl wrp wwn kn e km a (d + 1)
def SkJ (t wh wk wc wst wr wm wnu wrf wwk wni wne wsl wrp wwn kn : Nat → Int) (e km p k d : Int) : Prop := ∃ q, Rsx t e p k q ∧ GPx t wh wk wc wst wr wm wnu wrf wwk wni wne wsl wrp wwn kn e km q d
theorem SkJ_0 {t wh wk wc wst wr wm wnu wrf wwk wni wne wsl wrp wwn kn : Nat → Int} {e km a d : Int} (H : GPS t wh wk wc wst wr wm wnu wrf wwk wni wne wsl wrp wwn kn e km a d) (hd : 0 ≤ d) : SkJ t wh wk wc wst wr wm wnu wrf wwk wni wne wsl wrp wwn kn e km a 1 d := by
  obtain ⟨n, g⟩ := H
  exact Gskip hd n a 1 (by omega) g
theorem SkJ_b {t wh wk wc wst wr wm wnu wrf wwk wni wne wsl wrp wwn kn : Nat → Int} {e km p k d : Int} (H : SkJ t wh wk wc wst wr wm wnu wrf wwk wni wne wsl wrp wwn kn e km p k d) (h : 1 ≤ k) : p < e := by
  obtain ⟨q, r, _⟩ := H
  rcases Rsx_i r with z | z
  · omega
  · exact z.2.1
theorem SkJ_s {t wh wk wc wst wr wm wnu wrf wwk wni wne wsl wrp wwn kn : Nat → Int} {e km p k d x y k2 : Int} (H : SkJ t wh wk wc wst wr wm wnu wrf wwk wni wne wsl wrp wwn kn e km p k d) (h : 1 ≤ k) (hx : x = t p.toNat) (hy : y = t p.toNat) (hk : (x = 91 ∧ k2 = k + 1) ∨ (¬ x = 91 ∧ y = 93 ∧ k2 = k - 1) ∨ (¬ x = 91 ∧ ¬ y = 93 ∧ k2 = k)) : SkJ t wh wk wc wst wr wm wnu wrf wwk wni wne wsl wrp wwn kn e km (p + 1) k2 d := by
  obtain ⟨q, r, g⟩ := H
  rcases Rsx_i r with z | ⟨_, _, z⟩
  · omega
  · have e0 : k + brk (aI t p) = k2 := by
      have e9 : aI t p = t p.toNat := rfl
      unfold brk
      rcases hk with w | w | w
      · rw [if_pos (by omega)]; omega
      · rw [if_neg (by omega), if_pos (by omega)]; omega
      · rw [if_neg (by omega), if_neg (by omega)]; omega
    rw [e0] at z
    exact ⟨q, z, g⟩
theorem SkJ_e {t wh wk wc wst wr wm wnu wrf wwk wni wne wsl wrp wwn kn : Nat → Int} {e km p k d : Int} (H : SkJ t wh wk wc wst wr wm wnu wrf wwk wni wne wsl wrp wwn kn e km p k d) (h : k ≤ 0) : k = 0 ∧ GPx t wh wk wc wst wr wm wnu wrf wwk wni wne wsl wrp wwn kn e km p d := by
  obtain ⟨q, r, g⟩ := H
  rcases Rsx_i r with z | z
  · exact ⟨z.1, by rw [z.2]; exact g⟩
  · omega
theorem SkJ_k {t wh wk wc wst wr wm wnu wrf wwk wni wne wsl wrp wwn kn : Nat → Int} {e km p k d : Int} (H : SkJ t wh wk wc wst wr wm wnu wrf wwk wni wne wsl wrp wwn kn e km p k d) : 0 ≤ k := by
  obtain ⟨q, r, g⟩ := H
  rcases Rsx_i r with z | z
  · omega
  · omega
theorem Gp_act {t wh wk wc wst wr wm wnu wrf wwk wni wne wsl wrp wwn kn : Nat → Int} {e km a d : Int} (H : GPx t wh wk wc wst wr wm wnu wrf wwk wni wne wsl wrp wwn kn e km a d) (S : Sk t e a a) (h : a < e) : ∃ b d2, ActP t wh wk wc wst wr wm wnu wrf wwk wni wne wsl wrp wwn kn e km a d b d2 ∧ GPx t wh wk wc wst wr wm wnu wrf wwk wni wne wsl wrp wwn kn e km b d2 := by
  obtain ⟨n, g⟩ := H
  cases n with
  | zero =>
    obtain ⟨_, s, s1, s2⟩ := g
    have := Sk_uq S s1
    omega
  | succ n =>
    obtain ⟨b, d2, g1, g2⟩ := g
    exact ⟨b, d2, g1, n, g2⟩
def SlP (t wh wk wc wst wr wm wnu wrf wwk wni wne wsl wrp wwn kn : Nat → Int) (e km a d : Int) : Prop := ∃ u, Sk t e a u ∧ u < e ∧ aI t u = 59 ∧ GPx t wh wk wc wst wr wm wnu wrf wwk wni wne wsl wrp wwn kn e km (u + 1) d
def RpP (t wh wk wc wst wr wm wnu wrf wwk wni wne wsl wrp wwn kn : Nat → Int) (e km a d : Int) : Prop := d ≤ 3 ∧ ∃ s2 v p u, Sk t e a s2 ∧ ¬ s2 = a ∧ NuAt t e s2 v p ∧ 0 ≤ v ∧ v ≤ 99 ∧ Sk t e p u ∧ u < e ∧ aI t u = 91 ∧ GPx t wh wk wc wst wr wm wnu wrf wwk wni wne wsl wrp wwn kn e km (u + 1) (d + 1)
def WhQ (t wh wk wc wst wr wm wnu wrf wwk wni wne wsl wrp wwn kn : Nat → Int) (e km a d : Int) : Prop := d ≤ 3 ∧ ∃ p u p2 u2, Tkn t wni e a a p ∧ Sk t e p u ∧ u < e ∧ aI t u = 61 ∧ Tkn t wni e (u + 1) (-1) p2 ∧ Sk t e p2 u2 ∧ u2 < e ∧ aI t u2 = 91 ∧ GPx t wh wk wc wst wr wm wnu wrf wwk wni wne wsl wrp wwn kn e km (u2 + 1) (d + 1)
def AsP (t wh wk wc wst wr wm wnu wrf wwk wni wne wsl wrp wwn kn : Nat → Int) (e km a d : Int) : Prop := ∃ p s2 q u, Pth t e a (-1) p ∧ p < e ∧ aI t p = 61 ∧ Sk t e (p + 1) s2 ∧ ((WdAt t wne e 3 s2 ∧ StK t wh wk wc wst wr wm wnu wrf wwk wni wne wsl wrp wwn kn e km (s2 + 3) (s2 + 3) q) ∨ (¬ WdAt t wne e 3 s2 ∧ Tkn t wni e (p + 1) (-1) q)) ∧ Sk t e q u ∧ u < e ∧ aI t u = 59 ∧ GPx t wh wk wc wst wr wm wnu wrf wwk wni wne wsl wrp wwn kn e km (u + 1) d
def GaN (t wh wk wc wst wr wm wnu wrf wwk wni wne wsl wrp wwn kn : Nat → Int) (e km a d : Int) : Prop := (∃ u, WdAt t wsl e 5 a ∧ Sk t e (a + 5) u ∧ u < e ∧ aI t u = 59 ∧ GPx t wh wk wc wst wr wm wnu wrf wwk wni wne wsl wrp wwn kn e km (u + 1) d) ∨ (WdAt t wrp e 6 a ∧ RpP t wh wk wc wst wr wm wnu wrf wwk wni wne wsl wrp wwn kn e km (a + 6) d) ∨ (WdAt t wwn e 4 a ∧ WhQ t wh wk wc wst wr wm wnu wrf wwk wni wne wsl wrp wwn kn e km (a + 4) d) ∨ AsP t wh wk wc wst wr wm wnu wrf wwk wni wne wsl wrp wwn kn e km a d
theorem Pth_l {t : Nat → Int} {e a en b : Int} (P : Pth t e a en b) (S : Sk t e a a) : ∃ r, 0 ≤ r ∧ r < 8 ∧ RgAt t e a r := by
  obtain ⟨s, r, p1, p2, p3, p4, p5, _⟩ := P
  have u := Sk_uq S p1
  subst u
  exact ⟨r, p3, p4, p5⟩
theorem Ga_of {t wh wk wc wst wr wm wnu wrf wwk wni wne wsl wrp wwn kn : Nat → Int} {e km a d : Int} (H : GPx t wh wk wc wst wr wm wnu wrf wwk wni wne wsl wrp wwn kn e km a d) (S : Sk t e a a) (h : a < e) : (aI t a = 93 ∧ 1 ≤ d ∧ GPx t wh wk wc wst wr wm wnu wrf wwk wni wne wsl wrp wwn kn e km (a + 1) (d - 1)) ∨ (Ltr (aI t a) ∧ GaN t wh wk wc wst wr wm wnu wrf wwk wni wne wsl wrp wwn kn e km a d) := by
  obtain ⟨b, d2, ⟨s, S2, A⟩, g⟩ := Gp_act H S h
  have u := Sk_uq S S2
  subst u
  rcases A with ⟨a1, a2, a3, a4, a5⟩ | ⟨a1, a2, u, a3, a4, a5, a6⟩ | ⟨a1, a0, a2, s2, v, p, u, a3, a9, a4, a10, a11, a5, a6, a7, a8⟩ | ⟨a1, a0, a2, p, u, p2, u2, a3, a4, a5, a6, a7, a8, a9, a10, a11⟩ | ⟨a1, p, s2, q, u, a2, a3, a4, a5, a6, a7, a8, a9, a10⟩
  · exact Or.inl ⟨a2, a3, by rw [← a4, ← a5]; exact g⟩
  · exact Or.inr ⟨(WdAt_l a1).2, Or.inl ⟨u, a1, a3, a4, a5, by rw [← a6, ← a2]; exact g⟩⟩
  · exact Or.inr ⟨(WdAt_l a1).2, Or.inr (Or.inl ⟨a1, a0, s2, v, p, u, a3, a9, a4, a10, a11, a5, a6, a7, by rw [← a8, ← a2]; exact g⟩)⟩
  · exact Or.inr ⟨(WdAt_l a1).2, Or.inr (Or.inr (Or.inl ⟨a1, a0, p, u, p2, u2, a3, a4, a5, a6, a7, a8, a9, a10, by rw [← a11, ← a2]; exact g⟩))⟩
  · obtain ⟨r, r0, r1, r2⟩ := Pth_l a2 S
    exact Or.inr ⟨(Rg_l r2 r0 r1).2, Or.inr (Or.inr (Or.inr ⟨p, s2, q, u, a2, a3, a4, a5, a6, a7, a8, a9, by rw [← a10, ← a1]; exact g⟩))⟩
theorem Ga_c {t wh wk wc wst wr wm wnu wrf wwk wni wne wsl wrp wwn kn : Nat → Int} {e km a d q bd : Int} (H : GPx t wh wk wc wst wr wm wnu wrf wwk wni wne wsl wrp wwn kn e km a d) (S : Sk t e a a) (h : a < e) (A : SgR t e 93 a bd q 1) : 1 ≤ d ∧ GPx t wh wk wc wst wr wm wnu wrf wwk wni wne wsl wrp wwn kn e km q (d - 1) := by
  rcases A with ⟨_, _, s, a1, a2, a3, a4⟩ | a
  · have u := Sk_uq S a1
    subst u
    rcases Ga_of H S h with g | g
    · exact ⟨g.2.1, by rw [a4]; exact g.2.2⟩
    · have := g.1
      unfold Ltr at this
      omega
  · omega
theorem Ga_n {t wh wk wc wst wr wm wnu wrf wwk wni wne wsl wrp wwn kn : Nat → Int} {e km a d q bd : Int} (H : GPx t wh wk wc wst wr wm wnu wrf wwk wni wne wsl wrp wwn kn e km a d) (S : Sk t e a a) (h : a < e) (hb : bd = 0) (A : SgR t e 93 a bd q 0) : q = a ∧ GaN t wh wk wc wst wr wm wnu wrf wwk wni wne wsl wrp wwn kn e km a d := by
  rcases A with a | ⟨_, a | ⟨_, a1, a2⟩⟩
  · omega
  · omega
  · have u := Sk_uq S a1
    subst u
    rcases Ga_of H S h with g | g
    · omega
    · exact ⟨rfl, g.2⟩
theorem Tk_at {t w : Nat → Int} {e n x bd en b en2 z a : Int} (T : TkQ t w e n x bd en b en2 z) (hx : x = a) (S : Sk t e a a) (hb : bd = 0) (he : ¬ a = en) : (z = 1 ∧ WdAt t w e n a ∧ b = a + n ∧ en2 = b) ∨ (z = 0 ∧ b = a ∧ en2 = en ∧ ¬ WdAt t w e n a) := by
  subst hx
  rcases T with ⟨t0, _, t1, s, t2, t3, t4, t5⟩ | ⟨t0, t1, q | ⟨_, q1, q2⟩⟩
  · have u := Sk_uq S t2
    subst u
    exact Or.inl ⟨t0, t3, t5, t1⟩
  · omega
  · have u := Sk_uq S q1
    subst u
    rcases q2 with q | q
    · exact absurd q he
    · exact Or.inr ⟨t0, rfl, t1, q⟩
theorem Wd_rg {t w : Nat → Int} {e n s r : Int} (A : WdAt t w e n s) (B : RgAt t e s r) (r0 : 0 ≤ r) (r1 : r < 8) : n = 1 := WdAt_len A ((Rg_wd (w := fun _ => 97 + r) rfl r0 r1).mpr B)
theorem Ga_s {t wh wk wc wst wr wm wnu wrf wwk wni wne wsl wrp wwn kn : Nat → Int} {e km a d q : Int} (H : GaN t wh wk wc wst wr wm wnu wrf wwk wni wne wsl wrp wwn kn e km a d) (S : Sk t e a a) (W : WdAt t wsl e 5 a) (hq : q = a + 5) : SlP t wh wk wc wst wr wm wnu wrf wwk wni wne wsl wrp wwn kn e km q d := by
  subst hq
  rcases H with ⟨u, h1, h2⟩ | ⟨h1, _⟩ | ⟨h1, _⟩ | h
  · exact ⟨u, h2⟩
  · have := WdAt_len W h1
    omega
  · have := WdAt_len W h1
    omega
  · obtain ⟨p, s2, q, u, h1, _⟩ := h
    obtain ⟨r, r0, r1, r2⟩ := Pth_l h1 S
    have := Wd_rg W r2 r0 r1
    omega
theorem Ga_r {t wh wk wc wst wr wm wnu wrf wwk wni wne wsl wrp wwn kn : Nat → Int} {e km a d q : Int} (H : GaN t wh wk wc wst wr wm wnu wrf wwk wni wne wsl wrp wwn kn e km a d) (S : Sk t e a a) (W : WdAt t wrp e 6 a) (hq : q = a + 6) : RpP t wh wk wc wst wr wm wnu wrf wwk wni wne wsl wrp wwn kn e km q d := by
  subst hq
  rcases H with ⟨u, h1, h2⟩ | ⟨h1, h2⟩ | ⟨h1, _⟩ | h
  · have := WdAt_len W h1
    omega
  · exact h2
  · have := WdAt_len W h1
    omega
  · obtain ⟨p, s2, q, u, h1, _⟩ := h
    obtain ⟨r, r0, r1, r2⟩ := Pth_l h1 S
    have := Wd_rg W r2 r0 r1
    omega
theorem Ga_w {t wh wk wc wst wr wm wnu wrf wwk wni wne wsl wrp wwn kn : Nat → Int} {e km a d q : Int} (H : GaN t wh wk wc wst wr wm wnu wrf wwk wni wne wsl wrp wwn kn e km a d) (S : Sk t e a a) (W : WdAt t wwn e 4 a) (hq : q = a + 4) : WhQ t wh wk wc wst wr wm wnu wrf wwk wni wne wsl wrp wwn kn e km q d := by
  subst hq
  rcases H with ⟨u, h1, h2⟩ | ⟨h1, h2⟩ | ⟨h1, h2⟩ | h
  · have := WdAt_len W h1
    omega
  · have := WdAt_len W h1
    omega
  · exact h2
  · obtain ⟨p, s2, q, u, h1, _⟩ := h
    obtain ⟨r, r0, r1, r2⟩ := Pth_l h1 S
    have := Wd_rg W r2 r0 r1
    omega
theorem Ga_a {t wh wk wc wst wr wm wnu wrf wwk wni wne wsl wrp wwn kn : Nat → Int} {e km a d : Int} (H : GaN t wh wk wc wst wr wm wnu wrf wwk wni wne wsl wrp wwn kn e km a d) (n1 : ¬ WdAt t wsl e 5 a) (n2 : ¬ WdAt t wrp e 6 a) (n3 : ¬ WdAt t wwn e 4 a) : AsP t wh wk wc wst wr wm wnu wrf wwk wni wne wsl wrp wwn kn e km a d := by
  rcases H with ⟨u, h1, h2⟩ | ⟨h1, h2⟩ | ⟨h1, h2⟩ | h
  · exact absurd h1 n1
  · exact absurd h1 n2
  · exact absurd h1 n3
  · exact h
theorem NuAt_b {t : Nat → Int} {e s v b : Int} (A : NuAt t e s v b) : 0 ≤ v ∧ v ≤ 999 := by
  obtain ⟨n, n1, n3, nb, ne, nd, nx, nv⟩ := A
  have d0 := nd 0 (by omega)
  have k1 : n = 1 ∨ n = 2 ∨ n = 3 := by omega
  have u1 : dgv t s 1 = aI t (s + ((0 : Nat) : Int)) - 48 := by unfold dgv; unfold dgv; omega
  have u2 : dgv t s 2 = 10 * dgv t s 1 + aI t (s + ((1 : Nat) : Int)) - 48 := by rw [dgv]
  have u3 : dgv t s 3 = 10 * dgv t s 2 + aI t (s + ((2 : Nat) : Int)) - 48 := by rw [dgv]
  unfold Dgt at nd d0
  rcases k1 with q | q | q
  · subst q
    omega
  · subst q
    have d1 := nd 1 (by omega)
    omega
  · subst q
    have d1 := nd 1 (by omega)
    have d2 := nd 2 (by omega)
    omega
theorem Nu_go {t : Nat → Int} {e lo hi a bd en b en2 bd2 z s v c : Int} (N : NuR t e lo hi a bd en b en2 bd2 z) (hb : bd = 0) (S : Sk t e a s) (he : ¬ s = en) (A : NuAt t e s v c) (h0 : lo ≤ v) (h1 : v ≤ hi) : bd2 = 0 ∧ b = c ∧ z = v ∧ en2 = b := by
  rcases N with ⟨_, q | q⟩ | ⟨q0, _, q1, _, _, s2, q2, q3, q4⟩
  · omega
  · have := q v c s S A
    omega
  · have u := Sk_uq S q2
    subst u
    have w9 := NuAt_uq A q4
    exact ⟨q0, by omega, by omega, q1⟩
theorem Ag_go {t : Nat → Int} {e c a bd b bd2 s : Int} (A : AgQ t e c a bd b bd2) (hb : bd = 0) (S : Sk t e a s) (h : s < e) (hc : aI t s = c) : bd2 = 0 ∧ b = s + 1 := by
  rcases A with ⟨_, q | ⟨s2, q1, q2⟩⟩ | ⟨q0, _, s2, q1, q2, q3, q4⟩
  · omega
  · have u := Sk_uq S q1
    subst u
    omega
  · have u := Sk_uq S q1
    subst u
    exact ⟨q0, q4⟩
theorem Rg_go {t : Nat → Int} {e a bd en b z s r : Int} (R : RgR t e a bd en b z) (hb : bd = 0) (S : Sk t e a s) (he : ¬ s = en) (A : RgAt t e s r) (r0 : 0 ≤ r) (r1 : r < 8) : 0 ≤ z ∧ z < 8 ∧ b = s := by
  rcases R with q | ⟨_, q1, q | q⟩
  · omega
  · have u := Sk_uq S q1
    subst u
    rcases q.2 with w9 | w9
    · exact absurd w9 he
    · exact absurd A (w9 r r0 r1)
  · have u := Sk_uq S q1
    subst u
    exact ⟨q.1, q.2.1, rfl⟩
theorem DT_dot {t : Nat → Int} {e p b bd q en b2 en2 bd2 v : Int} (D : DTx t e p b) (A : SgR t e 46 p bd q 1) (hb : bd = 0) (N : NuR t e 0 999 q bd en b2 en2 bd2 v) (he : en < q) : bd2 = 0 ∧ en2 = b2 ∧ 0 ≤ v ∧ v ≤ 999 ∧ DTx t e b2 b := by
  rcases A with ⟨_, _, s, a1, a2, a3, a4⟩ | a
  · obtain ⟨n, D⟩ := D
    cases n with
    | zero =>
      have u := Sk_uq a1 D.1
      subst u
      have := D.2
      omega
    | succ n =>
      obtain ⟨s', s2, v', q', d1, d2, d3, d4, d5, d6⟩ := D
      have u := Sk_uq a1 d1
      subst u
      subst a4
      have vb := NuAt_b d5
      have g := Nu_go N hb d4 (by have := d4.1; omega) d5 vb.1 vb.2
      exact ⟨g.1, g.2.2.2, by omega, by omega, n, by rw [g.2.1]; exact d6⟩
  · omega
theorem DT_end {t : Nat → Int} {e p b bd q : Int} (D : DTx t e p b) (A : SgR t e 46 p bd q 0) (hb : bd = 0) : q = b := by
  rcases A with a | ⟨_, a | ⟨_, a1, a2⟩⟩
  · omega
  · omega
  · obtain ⟨n, D⟩ := D
    cases n with
    | zero => exact Sk_uq a1 D.1
    | succ n =>
      obtain ⟨s', s2, v', q', d1, d2, d3, _⟩ := D
      have u := Sk_uq a1 d1
      subst u
      omega
theorem DTx_le {t : Nat → Int} {e p b : Int} (D : DTx t e p b) : p ≤ b := by
  obtain ⟨n, D⟩ := D
  exact DT_ge n D
theorem Pth_go {t : Nat → Int} {e a en b bd s z : Int} (P : Pth t e a en b) (R : RgR t e a bd en s z) (hb : bd = 0) : 0 ≤ z ∧ z < 8 ∧ s < e ∧ DTx t e (s + 1) b := by
  obtain ⟨s2, r, p1, p2, p3, p4, p5, p6⟩ := P
  have g := Rg_go R hb p1 p2 p5 p3 p4
  have := p5.1
  rw [g.2.2]
  exact ⟨g.1, g.2.1, by omega, p6⟩
def RsT (t : Nat → Int) (e p b : Int) : Prop := (b = p ∧ (e ≤ p ∨ (¬ aI t p = 43 ∧ ¬ aI t p = 45))) ∨ (p < e ∧ (aI t p = 43 ∨ aI t p = 45) ∧ ∃ s v, Sk t e (p + 1) s ∧ NuAt t e s v b ∧ 0 ≤ v ∧ v ≤ 999)
theorem Tn_n {t nl : Nat → Int} {e a en b bd s b2 en2 bd2 v z : Int} (K : Tkn t nl e a en b) (I : InR t e a bd en s z) (hz : z = 1) (hb : bd = 0) (N : NuR t e 0 999 s bd en b2 en2 bd2 v) : bd2 = 0 ∧ b2 = b ∧ 0 ≤ v ∧ v ≤ 999 ∧ en2 = b2 := by
  rcases I with q | ⟨_, S, q | q⟩
  · omega
  · rcases K with ⟨s', v', k1, k2, k3, k4, k5⟩ | ⟨s', k1, k2, k3, _⟩ | ⟨p, ⟨s', r, k1, _, k3, k4, k5, _⟩, _⟩
    · have u := Sk_uq S k1
      subst u
      have g := Nu_go N hb (Sk_b S) q.2.2.2 k3 k4 k5
      exact ⟨g.1, g.2.1, by omega, by omega, g.2.2.2⟩
    · have u := Sk_uq S k1
      subst u
      have l := (WdAt_l k3).2
      have d := q.2.2.1
      unfold Ltr at l
      unfold Dgt at d
      omega
    · have u := Sk_uq S k1
      subst u
      have l := (Rg_l k5 k3 k4).2
      have d := q.2.2.1
      unfold Ltr at l
      unfold Dgt at d
      omega
  · omega
theorem Tn_x {t nl : Nat → Int} {e a en b bd s z : Int} (K : Tkn t nl e a en b) (I : InR t e a bd en s z) (hz : z = 0) (hb : bd = 0) : Sk t e a s ∧ ¬ s = en ∧ ((WdAt t nl e 3 s ∧ b = s + 3) ∨ ∃ p, Pth t e s en p ∧ RsT t e p b) := by
  rcases I with q | ⟨_, S, q | q⟩
  · omega
  · omega
  · rcases K with ⟨s', v', k1, k2, k3, k4, k5⟩ | ⟨s', k1, k2, k3, k4⟩ | ⟨p, ⟨s', r, k1, k2, k6⟩, k7⟩
    · have u := Sk_uq S k1
      subst u
      have d := NuAt_d k3
      rcases q.2 with w9 | w9 | w9
      · exact absurd w9 k2
      · omega
      · exact absurd d.2.1 w9
    · have u := Sk_uq S k1
      subst u
      exact ⟨S, k2, Or.inl ⟨k3, k4⟩⟩
    · have u := Sk_uq S k1
      subst u
      exact ⟨S, k2, Or.inr ⟨p, ⟨s, r, Sk_b S, k2, k6⟩, k7⟩⟩
theorem Tn_l {t nl : Nat → Int} {e a en b bd s z b2 en2 y : Int} (K : Tkn t nl e a en b) (I : InR t e a bd en s z) (hz : z = 0) (hb : bd = 0) (T : TkQ t nl e 3 s bd en b2 en2 y) (hy : y = 1) : b2 = b ∧ en2 = b2 := by
  obtain ⟨S, ne, k⟩ := Tn_x K I hz hb
  rcases Tk_at T rfl (Sk_b S) hb ne with q | q
  · rcases k with k | ⟨p, k1, _⟩
    · exact ⟨by omega, q.2.2.2⟩
    · obtain ⟨r, r0, r1, r2⟩ := Pth_l k1 (Sk_b S)
      have := Wd_rg q.2.1 r2 r0 r1
      omega
  · omega
theorem Tn_p {t nl : Nat → Int} {e a en b bd s z b2 en2 y : Int} (K : Tkn t nl e a en b) (I : InR t e a bd en s z) (hz : z = 0) (hb : bd = 0) (T : TkQ t nl e 3 s bd en b2 en2 y) (hy : y = 0) : ∃ p, Pth t e b2 en2 p ∧ RsT t e p b := by
  obtain ⟨S, ne, k⟩ := Tn_x K I hz hb
  rcases Tk_at T rfl (Sk_b S) hb ne with q | q
  · omega
  · rcases k with k | ⟨p, k1, k2⟩
    · exact absurd k.1 q.2.2.2
    · rw [q.2.1, q.2.2.1]
      exact ⟨p, k1, k2⟩
theorem Rs_n {t : Nat → Int} {e p b c bd q en b2 en2 bd2 v x : Int} (R : RsT t e p b) (S : Sk t e p p) (hx : x = p) (A : SgR t e c x bd q 1) (hc : c = 43 ∨ c = 45) (hb : bd = 0) (N : NuR t e 0 999 q bd en b2 en2 bd2 v) (he : en < q) : bd2 = 0 ∧ b2 = b ∧ 0 ≤ v ∧ v ≤ 999 ∧ en2 = b2 := by
  subst hx
  rcases A with ⟨_, _, s, a1, a2, a3, a4⟩ | a
  · have u := Sk_uq S a1
    subst u
    subst a4
    rcases R with r | ⟨_, _, s2, v', r1, r2, r3, r4⟩
    · omega
    · have g := Nu_go N hb r1 (by have := r1.1; omega) r2 r3 r4
      exact ⟨g.1, g.2.1, by omega, by omega, g.2.2.2⟩
  · omega
theorem Rs_0 {t : Nat → Int} {e p b bd q q2 : Int} (R : RsT t e p b) (S : Sk t e p p) (A : SgR t e 43 p bd q 0) (B : SgR t e 45 q bd q2 0) (hb : bd = 0) : q = p ∧ q2 = b := by
  rcases A with a | ⟨_, a | ⟨_, a1, a2⟩⟩
  · omega
  · omega
  · have u := Sk_uq S a1
    subst u
    rcases B with x | ⟨_, x | ⟨_, x1, x2⟩⟩
    · omega
    · omega
    · have u := Sk_uq S x1
      subst u
      refine ⟨rfl, ?_⟩
      rcases R with r | r
      · exact r.1.symm
      · omega
theorem Rs_q {t : Nat → Int} {e p bd q c : Int} (S : Sk t e p p) (A : SgR t e c p bd q 0) (hb : bd = 0) : q = p := by
  rcases A with a | ⟨_, a | ⟨_, a1, a2⟩⟩
  · omega
  · omega
  · exact (Sk_uq S a1).symm
