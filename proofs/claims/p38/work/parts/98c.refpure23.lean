def RgAt (t : Nat → Int) (e s r : Int) : Prop := s + 1 ≤ e ∧ aI t s = 97 + r ∧ (s + 1 < e → ¬ Ltr (aI t (s + 1)))
theorem Rg_wd {t w : Nat → Int} {e s r : Int} (hw : w (0 : Int).toNat = 97 + r) (r0 : 0 ≤ r) (r1 : r < 8) : WdAt t w e 1 s ↔ RgAt t e s r := by
  constructor
  · intro ⟨_, h2, h3, h4⟩
    have q := h3 0 (by omega) (by omega)
    rw [Int.add_zero] at q
    exact ⟨h2, by rw [q.1]; exact hw, h4⟩
  · intro ⟨h2, h3, h4⟩
    refine ⟨by omega, h2, fun i i0 i1 => ?_, h4⟩
    have e0 : i = 0 := by omega
    subst e0
    rw [Int.add_zero, h3]
    exact ⟨hw.symm, by unfold Ltr; omega⟩
theorem Rg_l {t : Nat → Int} {e s r : Int} (H : RgAt t e s r) (r0 : 0 ≤ r) (r1 : r < 8) : s < e ∧ Ltr (aI t s) := by
  unfold RgAt at H
  unfold Ltr
  omega
theorem Rg_uq {t : Nat → Int} {e s r q : Int} (H : RgAt t e s r) (K : RgAt t e s q) : r = q := by
  unfold RgAt at H K
  omega
def RhI (t : Nat → Int) (e a bd en r b : Int) : Prop := (¬ bd = 0 ∧ b = a) ∨ (bd = 0 ∧ ((r = 0 ∧ b = a) ∨ (Sk t e a b ∧ (b = en ∨ ∀ q, 0 ≤ q → q < r → ¬ RgAt t e b q))))
theorem RhI_0 {t : Nat → Int} {e a bd en : Int} : RhI t e a bd en 0 a := by
  by_cases h : bd = 0
  · exact Or.inr ⟨h, Or.inl ⟨rfl, rfl⟩⟩
  · exact Or.inl ⟨h, rfl⟩
theorem Rh_sk {t : Nat → Int} {e a bd en r b b2 : Int} (H : RhI t e a bd en r b) (h : bd = 0) (S : Sk t e b b2) : Sk t e a b2 ∧ (r = 0 ∨ b2 = b ∧ (b2 = en ∨ ∀ q, 0 ≤ q → q < r → ¬ RgAt t e b2 q)) := by
  rcases H with q | ⟨_, q | q⟩
  · omega
  · rw [q.2] at S
    exact ⟨S, Or.inl q.1⟩
  · have u := Sk_uq (Sk_b q.1) S
    subst u
    exact ⟨q.1, Or.inr ⟨rfl, q.2⟩⟩
theorem RhI_s {t w : Nat → Int} {e a bd en r b b2 z : Int} (H : RhI t e a bd en r b) (R : HrR t w e 1 b bd en b2 z) (hz : z = 0) (hw : w (0 : Int).toNat = 97 + r) (r0 : 0 ≤ r) (r1 : r < 8) : RhI t e a bd en (r + 1) b2 := by
  rcases R with ⟨h1, h2, h3⟩ | ⟨h1, S, h3 | h3⟩
  · rcases H with q | q
    · exact Or.inl ⟨h1, by omega⟩
    · omega
  · omega
  · have k := Rh_sk H h1 S
    refine Or.inr ⟨h1, Or.inr ⟨k.1, ?_⟩⟩
    rcases h3.2 with q | q
    · exact Or.inl q
    · rcases k.2 with w0 | ⟨_, w0 | w0⟩
      · exact Or.inr (fun x x0 x1 y => by
          have : x = r := by omega
          subst this
          exact q ((Rg_wd hw r0 r1).mpr y))
      · exact Or.inl w0
      · exact Or.inr (fun x x0 x1 y => by
          by_cases p : x = r
          · subst p
            exact q ((Rg_wd hw r0 r1).mpr y)
          · exact w0 x x0 (by omega) y)
def RgR (t : Nat → Int) (e a bd en b z : Int) : Prop := (¬ bd = 0 ∧ z = -1 ∧ b = a) ∨ (bd = 0 ∧ Sk t e a b ∧ ((z = -1 ∧ (b = en ∨ ∀ q, 0 ≤ q → q < 8 → ¬ RgAt t e b q)) ∨ (0 ≤ z ∧ z < 8 ∧ RgAt t e b z ∧ ¬ b = en)))
theorem RgR_y {t w : Nat → Int} {e a bd en r b b2 z : Int} (H : RhI t e a bd en r b) (R : HrR t w e 1 b bd en b2 z) (hz : z = 1) (hw : w (0 : Int).toNat = 97 + r) (r0 : 0 ≤ r) (r1 : r < 8) : RgR t e a bd en b2 r := by
  rcases R with ⟨h1, h2, h3⟩ | ⟨h1, S, h3 | h3⟩
  · omega
  · have k := Rh_sk H h1 S
    exact Or.inr ⟨h1, k.1, Or.inr ⟨r0, r1, (Rg_wd hw r0 r1).mp h3.2.1, h3.2.2⟩⟩
  · omega
theorem RgR_n {t : Nat → Int} {e a bd en r b : Int} (H : RhI t e a bd en r b) (h8 : 8 ≤ r) : RgR t e a bd en b (-1) := by
  rcases H with q | ⟨h, q | q⟩
  · exact Or.inl ⟨q.1, rfl, q.2⟩
  · omega
  · refine Or.inr ⟨h, q.1, Or.inl ⟨rfl, ?_⟩⟩
    rcases q.2 with w | w
    · exact Or.inl w
    · exact Or.inr (fun x x0 x1 => w x x0 (by omega))
def DT (t : Nat → Int) (e : Int) : Nat → Int → Int → Prop
  | 0, p, b => Sk t e p b ∧ (e ≤ b ∨ ¬ aI t b = 46)
  | n + 1, p, b => ∃ s s2 v q, Sk t e p s ∧ s < e ∧ aI t s = 46 ∧ Sk t e (s + 1) s2 ∧ NuAt t e s2 v q ∧ DT t e n q b
def DTx (t : Nat → Int) (e p b : Int) : Prop := ∃ n, DT t e n p b
def Pth (t : Nat → Int) (e a en b : Int) : Prop := ∃ s r, Sk t e a s ∧ ¬ s = en ∧ 0 ≤ r ∧ r < 8 ∧ RgAt t e s r ∧ DTx t e (s + 1) b
def PgI (t : Nat → Int) (e p0 p bd : Int) : Prop := bd = 0 → ∀ b, DTx t e p b → DTx t e p0 b
theorem PgI_0 {t : Nat → Int} {e p bd : Int} : PgI t e p p bd := fun _ _ h => h
theorem PgI_s {t : Nat → Int} {e p0 p bd0 bdx bd1 bd2 s b1 en q en2 z : Int} (H : PgI t e p0 p bd0) (h0 : bd0 = 0) (S : Sk t e p s) (A : AgQ t e 46 s bdx b1 bd1) (N : NuR t e 0 999 b1 bd1 en q en2 bd2 z) : PgI t e p0 q bd2 := by
  intro h2 b D
  refine H h0 b ?_
  rcases N with n | ⟨_, n1, _, _, _, s2, n3, _, n5⟩
  · omega
  · rcases A with a | ⟨_, _, s', a1, a2, a3, a4⟩
    · omega
    · have u := Sk_uq (Sk_b S) a1
      subst u
      subst a4
      obtain ⟨n, D⟩ := D
      exact ⟨n + 1, s, s2, z, q, S, a2, a3, n3, n5, D⟩
theorem PgI_x {t : Nat → Int} {e p0 p bd b bd2 : Int} (H : PgI t e p0 p bd) (h : 1 ≤ bd2) : PgI t e p0 b bd2 := fun q => by omega
theorem PgI_e {t : Nat → Int} {e p0 p bd b z : Int} (H : PgI t e p0 p bd) (S : Sk t e p b) (hz : (z = -1 ∧ e ≤ b) ∨ (0 ≤ z ∧ b < e ∧ z = t b.toNat)) (hn : ¬ z = 46) : bd = 0 → DTx t e p0 b := fun h => H h b ⟨0, S, by have : aI t b = t b.toNat := rfl; omega⟩
def PdR (t : Nat → Int) (e a en b bd2 : Int) : Prop := bd2 = 0 → Pth t e a en b
theorem PdR_bad {t : Nat → Int} {e a en b bd2 : Int} (h : 1 ≤ bd2) : PdR t e a en b bd2 := fun q => by omega
theorem PdR_of {t : Nat → Int} {e a bd en s p0 b bd2 z : Int} (R : RgR t e a bd en s z) (hz : ¬ z = -1) (hp : p0 = s + 1) (D : bd2 = 0 → DTx t e p0 b) : PdR t e a en b bd2 := fun h => by
  rcases R with q | ⟨_, S, q | q⟩
  · omega
  · omega
  · subst hp
    exact ⟨s, z, S, q.2.2.2, q.1, q.2.1, q.2.2.1, D h⟩
theorem Rg_at {t : Nat → Int} {e a bd en b z : Int} (R : RgR t e a bd en b z) (hz : ¬ z = -1) : b < e ∧ 0 ≤ z ∧ z < 8 ∧ bd = 0 := by
  rcases R with q | ⟨h, S, q | q⟩
  · omega
  · omega
  · have := q.2.2.1.1
    exact ⟨by omega, q.1, q.2.1, h⟩
def Tkn (t nl : Nat → Int) (e a en b : Int) : Prop := (∃ s v, Sk t e a s ∧ ¬ s = en ∧ NuAt t e s v b ∧ 0 ≤ v ∧ v ≤ 999) ∨ (∃ s, Sk t e a s ∧ ¬ s = en ∧ WdAt t nl e 3 s ∧ b = s + 3) ∨ ∃ p, Pth t e a en p ∧ ((b = p ∧ (e ≤ p ∨ (¬ aI t p = 43 ∧ ¬ aI t p = 45))) ∨ (p < e ∧ (aI t p = 43 ∨ aI t p = 45) ∧ ∃ s v, Sk t e (p + 1) s ∧ NuAt t e s v b ∧ 0 ≤ v ∧ v ≤ 999))
def TdO (t nl : Nat → Int) (e a en b bd2 : Int) : Prop := bd2 = 0 → Tkn t nl e a en b
theorem TdO_bad {t nl : Nat → Int} {e a en b bd2 : Int} (h : 1 ≤ bd2) : TdO t nl e a en b bd2 := fun q => by omega
theorem TdO_n {t nl : Nat → Int} {e a bd en s z b en2 bd2 v : Int} (I : InR t e a bd en s z) (hz : z = 1) (N : NuR t e 0 999 s bd en b en2 bd2 v) : TdO t nl e a en b bd2 := fun h => by
  rcases I with q | ⟨_, S, q | q⟩
  · omega
  · rcases N with n | ⟨_, _, _, n1, n2, s2, n3, n4, n5⟩
    · omega
    · have u := Sk_uq (Sk_b S) n3
      subst u
      exact Or.inl ⟨s, v, S, n4, n5, n1, n2⟩
  · omega
theorem In_sk {t : Nat → Int} {e a bd en s z : Int} (I : InR t e a bd en s z) (h : bd = 0) : Sk t e a s := by
  rcases I with q | q
  · omega
  · exact q.2.1
theorem TdO_l {t nl : Nat → Int} {e a bd en s z b en2 y bd2 : Int} (I : InR t e a bd en s z) (T : TkQ t nl e 3 s bd en b en2 y) (hy : y = 1) : TdO t nl e a en b bd2 := fun _ => by
  rcases T with ⟨_, t1, _, s2, t2, t3, t4, t5⟩ | q
  · have S := In_sk I t1
    have u := Sk_uq (Sk_b S) t2
    subst u
    exact Or.inr (Or.inl ⟨s, S, t4, t3, t5⟩)
  · omega
theorem Tk_sk {t w : Nat → Int} {e n a bd en b en2 y : Int} (T : TkQ t w e n a bd en b en2 y) (hy : y = 0) (h : bd = 0) : Sk t e a b ∧ en2 = en := by
  rcases T with q | ⟨_, q1, q | q⟩
  · omega
  · omega
  · exact ⟨q.2.1, q1⟩
theorem Pth_sk {t : Nat → Int} {e a s en b : Int} (S : Sk t e a s) (P : Pth t e s en b) : Pth t e a en b := by
  obtain ⟨s2, r, h1, h2⟩ := P
  have u := Sk_uq (Sk_b S) h1
  subst u
  exact ⟨s, r, S, h2⟩
theorem Pth_b {t : Nat → Int} {e a en b : Int} (P : Pth t e a en b) : Sk t e b b := by
  obtain ⟨s, r, _, _, _, _, _, n, D⟩ := P
  revert D
  generalize s + 1 = p
  intro D
  induction n generalizing p with
  | zero => exact Sk_b D.1
  | succ n ih =>
    obtain ⟨_, _, _, q, _, _, _, _, _, D2⟩ := D
    exact ih q D2
theorem TdO_p {t nl : Nat → Int} {e a bd en s z b1 en2 y p bd1 q1 z1 q2 z2 bd2 : Int} (I : InR t e a bd en s z) (h' : bd2 = 0 → bd = 0) (T : TkQ t nl e 3 s bd en b1 en2 y) (hy : y = 0) (P : PdR t e b1 en2 p bd1) (A : SgR t e 43 p bd1 q1 z1) (h1 : z1 = 0) (B : SgR t e 45 q1 bd1 q2 z2) (h2 : z2 = 0) (hb : bd2 = bd1) : TdO t nl e a en q2 bd2 := fun h0 => by
  have h := h' h0
  have S := In_sk I h
  have K := Tk_sk T hy h
  have p1 := P (by omega)
  rw [K.2] at p1
  have pp := Pth_sk S (Pth_sk K.1 p1)
  have pb := Pth_b p1
  rcases A with a | ⟨_, a | ⟨_, a1, a2⟩⟩
  · omega
  · omega
  · have u := Sk_uq pb a1
    subst u
    rcases B with b | ⟨_, b | ⟨_, b1', b2⟩⟩
    · omega
    · omega
    · have u2 := Sk_uq pb b1'
      subst u2
      exact Or.inr (Or.inr ⟨p, pp, Or.inl ⟨rfl, by omega⟩⟩)
theorem TdO_s {t nl : Nat → Int} {e a bd en s z b1 en2 y p bd1 c q1 z1 b en3 en4 bd2 v : Int} (I : InR t e a bd en s z) (h' : bd2 = 0 → bd = 0) (T : TkQ t nl e 3 s bd en b1 en2 y) (hy : y = 0) (P : PdR t e b1 en2 p bd1) (hc : c = 43 ∨ c = 45) (A' : bd2 = 0 → ∃ p', Sk t e p p' ∧ SgR t e c p' bd1 q1 z1) (h1 : z1 = 1) (N : NuR t e 0 999 q1 bd1 en3 b en4 bd2 v) : TdO t nl e a en b bd2 := fun h0 => by
  have h := h' h0
  have A := A' h0
  have S := In_sk I h
  have K := Tk_sk T hy h
  rcases N with n | ⟨_, n0, _, n1, n2, s2, n3, n4, n5⟩
  · omega
  · have p1 := P n0
    rw [K.2] at p1
    have pp := Pth_sk S (Pth_sk K.1 p1)
    have pb := Pth_b p1
    obtain ⟨p', A1, A2⟩ := A
    have u := Sk_uq pb A1
    subst u
    rcases A2 with ⟨_, _, s3, a1, a2, a3, a4⟩ | a
    · have u2 := Sk_uq pb a1
      subst u2
      subst a4
      exact Or.inr (Or.inr ⟨p, pp, Or.inr ⟨a2, by omega, s2, v, n3, n5, n1, n2⟩⟩)
    · omega
theorem Sg_sk {t : Nat → Int} {e c a bd b z : Int} (A : SgR t e c a bd b z) (h : z = 0) (hb : bd = 0) : Sk t e a b := by
  rcases A with q | ⟨_, q | q⟩
  · omega
  · omega
  · exact q.2.1
