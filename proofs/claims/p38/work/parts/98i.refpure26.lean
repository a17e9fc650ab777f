def VvI (r : Nat → Int) (w vs vn : Int) : Prop := (vs = 0 ∧ -1000 ≤ vn ∧ vn ≤ 999) ∨ (vs = 1 ∧ vn = -1) ∨ (vs = 1 ∧ r (1 : Int).toNat ≤ vn ∧ vn < w)
theorem VvI_at {cnt : Int} {g sr r : Nat → Int} {w a s n : Int} (H : NwI cnt g sr r w) (Q : PlN r w a) (hs : s = r (2 * a + 102).toNat) (hn : n = r (2 * a + 103).toNat) : VvI r w s n := by
  have p := Pl_at H Q
  have b := VM_box H.2.1
  rw [← hs, ← hn] at p
  obtain ⟨p1, p2⟩ := p
  unfold WdOK at p2
  unfold Pl at p1
  unfold VvI
  omega
def VvF (r : Nat → Int) (w fk vs vn : Int) : Prop := fk = 0 → VvI r w vs vn
theorem VvF_x {r : Nat → Int} {w fk vs vn : Int} (h : 1 ≤ fk) : VvF r w fk vs vn := fun q => by omega
theorem Vv_wd {r : Nat → Int} {w s n : Int} (V : VvI r w s n) (l : 0 ≤ r (1 : Int).toNat) (hw : w ≤ 160) : WdOK s n ∧ Pl (r (1 : Int).toNat) w (2048 * s + 1000 + n) := by
  unfold VvI at V
  unfold WdOK Pl
  omega
def FbR (g r : Nat → Int) (w k z : Int) : Prop := z = -1 ∨ ∃ b, r (1 : Int).toNat ≤ b ∧ b < w ∧ 5096 ≤ mE r b ∧ z = b + 1 + k ∧ 0 ≤ k ∧ k < g (r (2 * b + 103).toNat + 6).toNat
theorem FbR_pl {cnt : Int} {g sr r : Nat → Int} {w k z : Int} (H : NwI cnt g sr r w) (F : FbR g r w k z) (h : ¬ z = -1) : PlN r w z ∧ 0 ≤ z ∧ z < w ∧ 0 ≤ k ∧ k ≤ 5 := by
  rcases F with q | ⟨b, b0, b1, b2, b3, b4, b5⟩
  · exact absurd q h
  · have n := Nw_head H b0 b1 b2
    have v := VM_box H.2.1
    exact ⟨PlN_fld H b0 b1 b2 rfl b4 b5 b3, by omega, by omega, b4, by omega⟩
theorem FbR_kd {cnt : Int} {g sr r : Nat → Int} {w k z a : Int} (H : NwI cnt g sr r w) (F : FbR g r w k z) (h : ¬ z = -1) (ha : a = z - 1 - k) : r (1 : Int).toNat ≤ a ∧ a < w ∧ 5096 ≤ mE r a ∧ k < g (r (2 * a + 103).toNat + 6).toNat ∧ 0 ≤ r (2 * a + 103).toNat ∧ r (2 * a + 103).toNat < cnt ∧ cnt ≤ 6 := by
  rcases F with q | ⟨b, b0, b1, b2, b3, b4, b5⟩
  · exact absurd q h
  · have n := Nw_head H b0 b1 b2
    rw [(by omega : a = b)]
    exact ⟨b0, b1, b2, b5, n.2.1, n.2.2.1, n.2.2.2.1⟩
def AkF (g r : Nat → Int) (w fk a k : Int) : Prop := fk = 0 → ((k = -1 ∧ -8 ≤ a ∧ a < 0) ∨ (¬ k = -1 ∧ ¬ a = -1 ∧ FbR g r w k a))
theorem AkF_x {g r : Nat → Int} {w fk a k : Int} (h : 1 ≤ fk) : AkF g r w fk a k := fun q => by omega
theorem AkF_pl {cnt : Int} {g sr r : Nat → Int} {w fk a k : Int} (H : NwI cnt g sr r w) (A : AkF g r w fk a k) (h : fk = 0) : PlN r w a ∧ -8 ≤ a ∧ a < 160 := by
  have v := VM_box H.2.1
  rcases A h with q | ⟨_, q1, q2⟩
  · exact ⟨Or.inl ⟨q.2.1, q.2.2⟩, by omega, by omega⟩
  · have f := FbR_pl H q2 q1
    exact ⟨f.1, by omega, by omega⟩
theorem AkF_f {g r : Nat → Int} {w fk a k : Int} (A : AkF g r w fk a k) (h : fk = 0) (hk : ¬ k = -1) : ¬ a = -1 ∧ FbR g r w k a := by
  rcases A h with q | q
  · omega
  · exact ⟨q.2.1, q.2.2⟩
theorem AkF_r {g r : Nat → Int} {w fk a k : Int} (A : AkF g r w fk a k) (h : fk = 0) (hk : k = -1) : -8 ≤ a ∧ a < 0 := by
  rcases A h with q | q
  · exact q.2
  · omega
theorem Vl_st {cnt : Int} {g sr r : Nat → Int} {w a k s v b kd x i : Int} (H : NwI cnt g sr r w) (V : VvI r w s v) (F : FbR g r w k a) (h : ¬ a = -1) (hb : b = a - 1 - k) (hk : kd = r (2 * b + 103).toNat) (hx : x = sr i.toNat) (hi : i = 6 * kd + k + 36) (hs : (x = 0 ∧ s = 0) ∨ (¬ x = 0 ∧ s = 1)) : VlN g sr r w a (2048 * s + 1000 + v) := by
  have bb := VM_box H.2.1
  have p := (Vv_wd V bb.1 bb.2.2.1).2
  have f := FbR_kd H F h hb
  have fp := FbR_pl H F h
  rcases hs with q | q
  · refine VlN_num ?_
    unfold VvI at V
    omega
  · exact VlN_ptr H p f.1 f.2.1 f.2.2.1 hk fp.2.2.2.1 (by rw [hk]; exact f.2.2.2.1) (by omega) hx hi q.1
theorem Tkn_at {t nl : Nat → Int} {e a s en b : Int} (S : Sk t e a s) (Q : Tkn t nl e a en b) : Tkn t nl e s en b := by
  rcases Q with ⟨s2, v, p1, p2⟩ | ⟨s2, p1, p2⟩ | ⟨p, ⟨s2, r, p1, p2⟩, p3⟩
  · have u := Sk_uq S p1
    subst u
    exact Or.inl ⟨s, v, Sk_b S, p2⟩
  · have u := Sk_uq S p1
    subst u
    exact Or.inr (Or.inl ⟨s, Sk_b S, p2⟩)
  · have u := Sk_uq S p1
    subst u
    exact Or.inr (Or.inr ⟨p, ⟨s, r, Sk_b S, p2⟩, p3⟩)
theorem PL_at {t : Nat → Int} {a p j x : Int} (H : PL t a p) (h0 : a ≤ j) (h1 : j ≤ p) (hx : x = t j.toNat) (h : x = 61) : j = p := by
  by_cases q : j < p
  · have := (H j h0 q).1
    have e9 : aI t j = t j.toNat := rfl
    omega
  · omega
theorem Eq_ne {t : Nat → Int} {p j x : Int} (hp : aI t p = 61) (hx : x = t j.toNat) (h : ¬ x = 61) : ¬ j = p := fun q => by
  subst q
  have e9 : aI t j = t j.toNat := rfl
  omega
theorem StK_uq {t wh wk wc wst wr wm wnu wrf wwk wni wne wsl wrp wwn kn : Nat → Int} {e km a en b c : Int} (A : StK t wh wk wc wst wr wm wnu wrf wwk wni wne wsl wrp wwn kn e km a en b) (B : StK t wh wk wc wst wr wm wnu wrf wwk wni wne wsl wrp wwn kn e km a en c) : b = c := by
  obtain ⟨s, n, k, a1, a2, a3, a4, a5, _⟩ := A
  obtain ⟨s2, n2, k2, b1, b2, b3, b4, b5, _⟩ := B
  have u := Sk_uq a1 b1
  subst u
  have u2 := NmAt_uq a3 b3
  omega
theorem St_go {t wh wk wc wst wr wm wnu wrf wwk wni wne wsl wrp wwn kn : Nat → Int} {e km a bd en b en2 bd2 z c : Int} (R : StR t wh wk wc wst wr wm wnu wrf wwk wni wne wsl wrp wwn kn e km a bd en b en2 bd2 z) (hb : bd = 0) (K : StK t wh wk wc wst wr wm wnu wrf wwk wni wne wsl wrp wwn kn e km a en c) : bd2 = 0 ∧ b = c ∧ 0 ≤ z ∧ z < km ∧ en2 = b := by
  rcases R with ⟨_, _, q | q⟩ | ⟨q0, _, q1, q2, q3, q4⟩
  · omega
  · exact absurd K (q c)
  · exact ⟨q0, StK_uq q4 K, q2, q3, q1⟩
def FrI (t wh wk wc wst wr wm wnu wrf wwk wni wne wsl wrp wwn kn : Nat → Int) (e km : Int) (fb fl : Nat → Int) (fm : Int) : Prop := ∀ k, 0 ≤ k → k < fm → GPx t wh wk wc wst wr wm wnu wrf wwk wni wne wsl wrp wwn kn e km (fb k.toNat) (k + 1) ∧ 1 ≤ fl k.toNat
theorem FrI_0 {t wh wk wc wst wr wm wnu wrf wwk wni wne wsl wrp wwn kn : Nat → Int} {e km : Int} {fb fl : Nat → Int} {fm : Int} (h : fm ≤ 0) : FrI t wh wk wc wst wr wm wnu wrf wwk wni wne wsl wrp wwn kn e km fb fl fm := fun k a b => by omega
theorem FrI_in {t wh wk wc wst wr wm wnu wrf wwk wni wne wsl wrp wwn kn : Nat → Int} {e km : Int} {fb fl fb2 fl2 : Nat → Int} {fm i j x y : Int} (H : FrI t wh wk wc wst wr wm wnu wrf wwk wni wne wsl wrp wwn kn e km fb fl fm) (G : GPS t wh wk wc wst wr wm wnu wrf wwk wni wne wsl wrp wwn kn e km x fm) (e1 : fb2 = updI fb i.toNat x) (hi : i = fm) (e2 : fl2 = updI fl j.toNat y) (hj : j = fm) (hy : 1 ≤ y) (h0 : 0 ≤ fm) : FrI t wh wk wc wst wr wm wnu wrf wwk wni wne wsl wrp wwn kn e km fb2 fl2 (fm + 1) := by
  intro k k0 k1
  by_cases q : k = fm
  · rw [upd_eq e1 (by omega), upd_eq e2 (by omega), q]
    exact ⟨G, hy⟩
  · rw [upd_ne e1 (by omega), upd_ne e2 (by omega)]
    exact H k k0 (by omega)
theorem FrI_out {t wh wk wc wst wr wm wnu wrf wwk wni wne wsl wrp wwn kn : Nat → Int} {e km : Int} {fb fl fl2 : Nat → Int} {fm fm2 i y : Int} (H : FrI t wh wk wc wst wr wm wnu wrf wwk wni wne wsl wrp wwn kn e km fb fl fm) (e2 : fl2 = updI fl i.toNat y) (hi : i = fm - 1) (h1 : 1 ≤ fm) (hm : (fm2 = fm ∧ 1 ≤ y) ∨ fm2 = fm - 1) : FrI t wh wk wc wst wr wm wnu wrf wwk wni wne wsl wrp wwn kn e km fb fl2 fm2 := by
  intro k k0 k1
  by_cases q : k = fm - 1
  · rw [upd_eq e2 (by omega)]
    exact ⟨(H k k0 (by omega)).1, by omega⟩
  · rw [upd_ne e2 (by omega)]
    exact H k k0 (by omega)
def GPm (t wh wk wc wst wr wm wnu wrf wwk wni wne wsl wrp wwn kn : Nat → Int) (e km a d : Int) : Prop := GPx t wh wk wc wst wr wm wnu wrf wwk wni wne wsl wrp wwn kn e km a (d - 1)
def GpF (t wh wk wc wst wr wm wnu wrf wwk wni wne wsl wrp wwn kn : Nat → Int) (e km fk a d : Int) : Prop := fk = 0 → GPx t wh wk wc wst wr wm wnu wrf wwk wni wne wsl wrp wwn kn e km a d
theorem GpF_x {t wh wk wc wst wr wm wnu wrf wwk wni wne wsl wrp wwn kn : Nat → Int} {e km fk a d : Int} (h : 1 ≤ fk) : GpF t wh wk wc wst wr wm wnu wrf wwk wni wne wsl wrp wwn kn e km fk a d := fun q => by omega
theorem As_new {t wh wk wc wst wr wm wnu wrf wwk wni wne wsl wrp wwn kn : Nat → Int} {e km x s2 q bd en b en2 z : Int} (S : Sk t e x s2) (A : (WdAt t wne e 3 s2 ∧ StK t wh wk wc wst wr wm wnu wrf wwk wni wne wsl wrp wwn kn e km (s2 + 3) (s2 + 3) q) ∨ (¬ WdAt t wne e 3 s2 ∧ Tkn t wni e x (-1) q)) (T : TkQ t wne e 3 x bd en b en2 z) (hz : z = 1) : StK t wh wk wc wst wr wm wnu wrf wwk wni wne wsl wrp wwn kn e km b en2 q := by
  obtain ⟨t0, s, t1, t2, t3, t4⟩ := Tk_y T hz
  have u := Sk_uq S t1
  subst u
  rcases A with p | p
  · rw [t0, t4]
    exact p.2
  · exact absurd t2 p.1
theorem As_tk {t wh wk wc wst wr wm wnu wrf wwk wni wne wsl wrp wwn kn : Nat → Int} {e km x s2 q bd en b en2 z : Int} (S : Sk t e x s2) (A : (WdAt t wne e 3 s2 ∧ StK t wh wk wc wst wr wm wnu wrf wwk wni wne wsl wrp wwn kn e km (s2 + 3) (s2 + 3) q) ∨ (¬ WdAt t wne e 3 s2 ∧ Tkn t wni e x (-1) q)) (T : TkQ t wne e 3 x bd en b en2 z) (hz : z = 0) (hb : bd = 0) (he : en < x) : Tkn t wni e b en2 q := by
  have k := Tk_sk T hz hb
  have u := Sk_uq S k.1
  subst u
  have g := S.1
  rcases A with p | p
  · rcases T with w9 | ⟨_, _, w9 | ⟨_, _, w9⟩⟩
    · omega
    · omega
    · rcases w9 with w9 | w9
      · omega
      · exact absurd p.1 w9
  · rw [k.2]
    exact Tkn_at S (Tkn_en p.2 he)
theorem Tk_yes {z a b n en en2 : Int} {X : Prop} (H : (z = 1 ∧ X ∧ b = a + n ∧ en2 = b) ∨ (z = 0 ∧ b = a ∧ en2 = en ∧ ¬ X)) (h : z = 1) : X := by
  rcases H with q | q
  · exact q.2.1
  · omega
theorem Tk_no {z a b n en en2 : Int} {X : Prop} (H : (z = 1 ∧ X ∧ b = a + n ∧ en2 = b) ∨ (z = 0 ∧ b = a ∧ en2 = en ∧ ¬ X)) (h : z = 0) : ¬ X := by
  rcases H with q | q
  · omega
  · exact q.2.2.2
theorem GPx_at {t wh wk wc wst wr wm wnu wrf wwk wni wne wsl wrp wwn kn : Nat → Int} {e km a s d : Int} (S : Sk t e a s) (G : GPx t wh wk wc wst wr wm wnu wrf wwk wni wne wsl wrp wwn kn e km a d) : GPx t wh wk wc wst wr wm wnu wrf wwk wni wne wsl wrp wwn kn e km s d := by
  obtain ⟨n, g⟩ := G
  cases n with
  | zero =>
    obtain ⟨g1, s2, g2, g3⟩ := g
    have u := Sk_uq S g2
    subst u
    exact ⟨0, g1, s, Sk_b S, g3⟩
  | succ n =>
    obtain ⟨b, d2, ⟨s2, g1, g2⟩, g3⟩ := g
    have u := Sk_uq S g1
    subst u
    exact ⟨n + 1, b, d2, ⟨s, Sk_b S, g2⟩, g3⟩
