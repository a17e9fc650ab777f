def rz (gt ba : Nat → Int) (b : Int) : Int := gt (ba b.toNat).toNat - ba b.toNat
def RzK (gt ba : Nat → Int) (bm : Int) : Prop := ∀ b, 0 ≤ b → b < bm → 0 ≤ rz gt ba b ∧ (b + 1 < bm → rz gt ba (b + 1) + 2 ≤ rz gt ba b) ∧ (rz gt ba b = 0 ∨ 2 ≤ rz gt ba b)
def RzR (gt ba : Nat → Int) (b z : Int) : Prop := z = rz gt ba b
theorem Gap2 {cnt : Int} {g sr r lv : Nat → Int} {w m i : Int} (H : NwI cnt g sr r w) (A : LvP g sr r lv w m) (i0 : 0 ≤ i) (i1 : i < m) (h : i + 1 = m ∨ ¬ aI lv (i + 1) = aI lv i + 1) (hw : aI lv i + 1 < w) : aI lv i + 2 < w ∧ (i + 1 < m → aI lv i + 3 ≤ aI lv (i + 1)) := by
  have A' : LvE (mE r) (flN g) sr (r (1 : Int).toNat) w lv m := A
  have p := A'.2.1 i i0 i1
  have n1 : ¬ LvWd (mE r) (flN g) sr (aI lv i + 1) := fun L => by
    have z := LvE_next A' i0 i1 hw L
    omega
  have hd : 5096 ≤ mE r (aI lv i + 1) := by
    rcases (by omega : 5096 ≤ mE r (aI lv i + 1) ∨ mE r (aI lv i + 1) < 5096) with q | q
    · exact q
    · exfalso
      obtain ⟨hh, p1, p2⟩ := p.2.2
      refine n1 ⟨hh, ⟨by have := p1.1; omega, p1.2.1, fun y y0 y1 => ?_⟩, p2⟩
      rcases (by omega : y ≤ aI lv i ∨ y = aI lv i + 1) with z | z
      · exact p1.2.2 y y0 z
      · rw [z]; exact q
  have h2 := Nw_head H (by omega) hw hd
  have h3 := (Nw_cell H (by omega) hw hd).1 1 (by omega) (by omega)
  have n2 : ¬ LvWd (mE r) (flN g) sr (aI lv i + 2) := by
    rintro ⟨hh, p1, p2⟩
    have u : HdOf (mE r) (aI lv i + 2) (aI lv i + 1) := ⟨by omega, hd, fun y y0 y1 => by
      have e : y = aI lv i + 1 + 1 := by omega
      rw [e]; exact h3⟩
    have e := HdOf_uq p1 u
    rw [e] at p2
    exact n1 ⟨_, ⟨Int.le_refl _, hd, fun y y0 y1 => by omega⟩, p2⟩
  refine ⟨by omega, fun hm => ?_⟩
  have q := A'.2.2.1 i (i + 1) i0 (by omega) hm
  have q2 := (A'.2.1 (i + 1) (by omega) hm).2.2
  rcases (by omega : aI lv i + 3 ≤ aI lv (i + 1) ∨ aI lv (i + 1) = aI lv i + 1 ∨ aI lv (i + 1) = aI lv i + 2) with z | z | z
  · exact z
  · rw [z] at q2; exact absurd q2 n1
  · rw [z] at q2; exact absurd q2 n2
theorem ub_run {lv : Int → Int} {f : Int} (f0 : 0 ≤ f) (B : Bk lv f) : ∀ n : Nat, (∀ j, f < j → j < f + 1 + n → lv j = lv (j - 1) + 1) → ub lv (f + 1 + n).toNat = ub lv f.toNat + 1
  | 0, _ => by
    rw [(by omega : f + 1 + ((0 : Nat) : Int) = f + 1)]
    exact ub_bk f0 B
  | n + 1, h => by
    have ih := ub_run f0 B n (fun j a b => h j a (by omega))
    have e := h (f + 1 + n) (by omega) (by omega)
    have s := ub_nb (lv := lv) (b := f + 1 + n) (by omega) (by omega)
    rw [(by omega : f + 1 + ((n + 1 : Nat) : Int) = f + 1 + n + 1), s]
    exact ih
theorem ub_inj {lv : Int → Int} {f e : Int} (f0 : 0 ≤ f) (e0 : 0 ≤ e) (B : Bk lv f) (C : Bk lv e) (h : ub lv f.toNat = ub lv e.toNat) : f = e := by
  rcases (by omega : f = e ∨ f < e ∨ e < f) with q | q | q
  · exact q
  · have a := ub_bk f0 B
    have b := ub_mono (lv := lv) (i := f + 1) (j := e) (by omega) (by omega)
    omega
  · have a := ub_bk e0 C
    have b := ub_mono (lv := lv) (i := e + 1) (j := f) (by omega) (by omega)
    omega
theorem Bk_pack {cnt : Int} {g sr r lv ba bw gt : Nat → Int} {w m bm b : Int} (H : NwI cnt g sr r w) (A : LvP g sr r lv w m) (G : GtT gt lv w m) (B : BkT ba bw lv m bm) (b0 : 0 ≤ b) (b1 : b < bm) : ∃ f, 0 ≤ f ∧ f < f + bw b.toNat ∧ f + bw b.toNat ≤ m ∧ Bk (aI lv) f ∧ ub (aI lv) f.toNat = b ∧ ba b.toNat = lv f.toNat ∧ EndF lv m f (f + bw b.toNat) ∧ rz gt ba b = w - m + f - lv f.toNat ∧ r (1 : Int).toNat ≤ lv f.toNat ∧ lv f.toNat < w ∧ (b + 1 < bm → f + bw b.toNat < m ∧ ¬ aI lv (f + bw b.toNat) = aI lv (f + bw b.toNat - 1) + 1) ∧ (b + 1 = bm → f + bw b.toNat = m) := by
  have hb := VM_box H.2.1
  obtain ⟨f, f0, f1, f2, f3, f4, f5, f6, f7⟩ := B.2 b b0 b1
  have f4' : 1 ≤ bw b.toNat := f4
  have le : f + bw b.toNat ≤ m := by
    rcases (by omega : b + 1 = bm ∨ b + 1 < bm) with q | q
    · have := f6 q; have e : aI bw b = bw b.toNat := rfl; omega
    · have := (f7 q).1; have e : aI bw b = bw b.toNat := rfl; omega
  have p := A.2.1 f f0 (by omega)
  have n := G (aI lv f) (by omega) p.2.1
  have ez : aI gt (aI lv f) = gt (ba b.toNat).toNat := by
    have e3 : ba b.toNat = aI lv f := f3
    rw [e3]; rfl
  have e3 : ba b.toNat = lv f.toNat := f3
  refine ⟨f, f0, by omega, le, f1, f2, f3, ⟨by omega, le, f5, ?_⟩, ?_, p.1, p.2.1, f7, f6⟩
  · rcases (by omega : b + 1 = bm ∨ b + 1 < bm) with q | q
    · exact Or.inl (f6 q)
    · exact Or.inr (f7 q).2
  · rw [ez] at n
    unfold rz
    rcases n with ⟨_, n⟩ | ⟨k, k0, k1, k2, k3⟩
    · exact absurd rfl (n f f0 (by omega))
    · have ek : k = f := by
        rcases (by omega : k = f ∨ k < f ∨ f < k) with q | q | q
        · exact q
        · have := A.2.2.1 k f k0 q (by omega); omega
        · have := A.2.2.1 f k f0 q k1; omega
      rw [k3, ek, e3]
theorem RzK_of {cnt : Int} {g sr r lv ba bw gt : Nat → Int} {w m bm : Int} (H : NwI cnt g sr r w) (A : LvP g sr r lv w m) (G : GtT gt lv w m) (B : BkT ba bw lv m bm) : RzK gt ba bm := by
  have key : ∀ n : Nat, ∀ b, 0 ≤ b → b < bm → bm - 1 - b = n → 0 ≤ rz gt ba b ∧ (b + 1 < bm → rz gt ba (b + 1) + 2 ≤ rz gt ba b) ∧ (rz gt ba b = 0 ∨ 2 ≤ rz gt ba b) := by
    intro n
    induction n with
    | zero =>
      intro b b0 b1 hn
      obtain ⟨f, f0, f1, f2, f3, f4, f5, f6, f7, f8, f9, f10, f11⟩ := Bk_pack H A G B b0 b1
      have e := f11 (by omega)
      have x := EndF_at f6 (k := f + bw b.toNat - 1) (by omega) (by omega) rfl
      have ex : aI lv (f + bw b.toNat - 1) = lv (f + bw b.toNat - 1).toNat := rfl
      have p := A.2.1 (f + bw b.toNat - 1) (by omega) (by omega)
      rcases (by omega : aI lv (f + bw b.toNat - 1) + 1 < w ∨ aI lv (f + bw b.toNat - 1) + 1 = w) with q | q
      · have z := Gap2 H A (i := f + bw b.toNat - 1) (by omega) (by omega) (Or.inl (by omega)) q
        omega
      · omega
    | succ n ih =>
      intro b b0 b1 hn
      have nx := ih (b + 1) (by omega) (by omega) (by omega)
      obtain ⟨f, f0, f1, f2, f3, f4, f5, f6, f7, f8, f9, f10, f11⟩ := Bk_pack H A G B b0 b1
      obtain ⟨f', g0, g1, g2, g3, g4, g5, g6, g7, g8, g9, g10, g11⟩ := Bk_pack H A G B (b := b + 1) (by omega) (by omega)
      have e := f10 (by omega)
      have ru := ub_run (lv := aI lv) f0 f3 (bw b.toNat - 1).toNat (fun j j0 j1 => f6.2.2.1 j j0 (by omega))
      rw [(by omega : f + 1 + (((bw b.toNat - 1).toNat : Nat) : Int) = f + bw b.toNat)] at ru
      have ee : f' = f + bw b.toNat := ub_inj g0 (by omega) g3 (Or.inr (by have := e.2; omega)) (by omega)
      subst ee
      have x := EndF_at f6 (k := f + bw b.toNat - 1) (by omega) (by omega) rfl
      have ex : aI lv (f + bw b.toNat - 1) = lv (f + bw b.toNat - 1).toNat := rfl
      have ey : aI lv (f + bw b.toNat) = lv (f + bw b.toNat).toNat := rfl
      have q := A.2.2.1 (f + bw b.toNat - 1) (f + bw b.toNat) (by omega) (by omega) (by omega)
      have z := Gap2 H A (i := f + bw b.toNat - 1) (by omega) (by omega) (Or.inr (by rw [(by omega : f + bw b.toNat - 1 + 1 = f + bw b.toNat)]; exact e.2)) (by omega)
      have z2 := z.2 (by omega)
      rw [(by omega : f + bw b.toNat - 1 + 1 = f + bw b.toNat)] at z2
      omega
  intro b b0 b1
  exact key (bm - 1 - b).toNat b b0 b1 (by omega)
def BgA (cnt : Int) (g sr r v lv : Nat → Int) (w m bl b : Int) : Prop := r (0 : Int).toNat = 1 ∧ ∃ d, 1 ≤ d ∧ d ≤ bl ∧ b = bl - d ∧ MdV cnt g sr r v lv w m bl d
def BgB (cnt : Int) (g sr r v lv : Nat → Int) (w m bl b : Int) : Prop := ∃ d, 1 ≤ d ∧ d ≤ bl ∧ b = bl - d ∧ MdV cnt g sr r v lv w m bl (d + 1)
def MvV (v0 v lv : Nat → Int) (f n up k : Int) : Prop := MvI (encD v0) (encD v) lv f (f + n) up (f + k) ∧ RowS v
theorem MvV_init {v lv : Nat → Int} {f n up k : Int} (R : RowS v) (h : k = n - 1) : MvV v v lv f n up k := ⟨MvI_init (by omega), R⟩
theorem MvV_step {v0 v v2 lv : Nat → Int} {m f n up k a b : Int} (H : MvV v0 v lv f n up k) (E : EndF lv m f (f + n)) (h0 : 0 ≤ k) (h1 : k < n) (l0 : 0 ≤ lv f.toNat) (hu : 0 ≤ up) (hb : b = lv f.toNat + k) (ha : a = b + up) (hr : a < 160) (T : TkvR v v2 a b) : MvV v0 v2 lv f n up (k - 1) := by
  have x := EndF_at E (k := f + k) (by omega) (by omega) rfl
  have db : Dm b := ⟨by omega, by omega⟩
  have da : Dm a := ⟨by omega, hr⟩
  have z := MvI_step (xi := b) (x := encD v (b + 8).toNat) H.1 E (by omega) (by omega) (by omega) (by omega) rfl (g2 := encD v2) (by rw [encD_tk T da db, (by omega : a + 8 = up + b + 8)])
  rw [(by omega : f + k - 1 = f + (k - 1))] at z
  exact ⟨z, RowS_tk H.2 T db⟩
theorem RzR_mk {gt ba : Nat → Int} {b x y x2 : Int} (hx : x = ba b.toNat) (hy : y = gt x.toNat) (h2 : x2 = ba b.toNat) : RzR gt ba b (y - x2) := by
  unfold RzR rz
  rw [hy, hx, h2]
def TbV (v0 v : Nat → Int) (lo hi : Int) : Prop := TbI (encD v0) (encD v) lo hi ∧ RowS v
theorem TbV_step {v0 v v2 : Nat → Int} {lo hi a s n : Int} (H : TbV v0 v lo hi) (h0 : 0 ≤ lo) (h1 : lo ≤ a) (h2 : a < hi) (h3 : a < 160) (K : HldR v v2 a s n) (W : WdOK s n) : TbV v0 v2 lo hi := ⟨TbI_step (i := a + 8) H.1 h0 (by omega) (by omega) (encD_hold K ⟨by omega, h3⟩), RowS_hold H.2 K W⟩
def TbA (gt ba : Nat → Int) (bm b a hi : Int) : Prop := a ≤ hi ∧ (b < bm → a + rz gt ba b ≤ hi)
theorem TbA_in {gt ba : Nat → Int} {bm b lo hi z : Int} (R : RzR gt ba b z) (h : hi = lo + z) (z0 : 0 ≤ z) : TbA gt ba bm b lo hi := by
  unfold RzR at R
  exact ⟨by omega, fun _ => by omega⟩
theorem TbA_at {gt ba : Nat → Int} {bm b a hi z : Int} (T : TbA gt ba bm b a hi) (R : RzR gt ba b z) (h : b < bm) : a + z ≤ hi := by
  have := T.2 h
  unfold RzR at R
  omega
theorem RzR_at {gt ba : Nat → Int} {bm b z : Int} (K : RzK gt ba bm) (R : RzR gt ba b z) (b0 : 0 ≤ b) (b1 : b < bm) : z = 0 ∨ 2 ≤ z := by
  have := (K b b0 b1).2.2
  unfold RzR at R
  omega
theorem TbA_0 {gt ba : Nat → Int} {bm b a hi z : Int} (K : RzK gt ba bm) (T : TbA gt ba bm b a hi) (R : RzR gt ba b z) (b0 : 0 ≤ b) (b1 : b < bm) (h : z = 0) : TbA gt ba bm (b + 1) a hi := by
  have k := K b b0 b1
  unfold RzR at R
  refine ⟨T.1, fun q => ?_⟩
  have := k.2.1 q
  have := (K (b + 1) (by omega) q).1
  omega
theorem TbA_2 {gt ba : Nat → Int} {bm b a hi z : Int} (K : RzK gt ba bm) (T : TbA gt ba bm b a hi) (R : RzR gt ba b z) (b0 : 0 ≤ b) (b1 : b < bm) (h : ¬ z = 0) : TbA gt ba bm (b + 1) (a + 2) hi := by
  have k := K b b0 b1
  have t := T.2 b1
  unfold RzR at R
  refine ⟨by omega, fun q => ?_⟩
  have := k.2.1 q
  omega
theorem Bt_of {lv : Nat → Int} {m bl b d f : Int} (U : bl = ub (aI lv) m.toNat) (f0 : 0 ≤ f) (fm : f ≤ m) (B : Bk (aI lv) f) (hu : ub (aI lv) f.toNat = b) (hb : b = bl - d) : BtD lv m d f := ⟨f0, fm, by omega, Or.inr B⟩
theorem BgB_0 {cnt : Int} {g sr r v lv ba bw gt : Nat → Int} {w m bl b z : Int} (H : NwI cnt g sr r w) (A : LvP g sr r lv w m) (G : GtT gt lv w m) (B : BkT ba bw lv m bl) (X : BgA cnt g sr r v lv w m bl b) (b0 : 0 ≤ b) (b1 : b < bl) (R : RzR gt ba b z) (h : z = 0) : BgB cnt g sr r v lv w m bl b := by
  obtain ⟨f, f0, f1, f2, f3, f4, f5, f6, f7, f8, f9, f10, f11⟩ := Bk_pack H A G B b0 b1
  obtain ⟨h0, d, d0, d1, d2, M, Rw⟩ := X
  unfold RzR at R
  exact ⟨d, d0, d1, d2, rq_Mid_bl0 M h0 d0 d1 (Bt_of B.1 f0 (by omega) f3 f4 d2) f6 rfl (up := w - m + f - lv f.toNat) rfl (by omega), Rw⟩
theorem BgB_1 {cnt : Int} {g sr r v vm v2 lv ba bw gt : Nat → Int} {w m bl b f n up lo hi k : Int} (H : NwI cnt g sr r w) (A : LvP g sr r lv w m) (G : GtT gt lv w m) (B : BkT ba bw lv m bl) (X : BgA cnt g sr r v lv w m bl b) (b0 : 0 ≤ b) (b1 : b < bl) (F0 : 0 ≤ f) (Fm : f ≤ m) (F3 : Bk (aI lv) f) (F4 : ub (aI lv) f.toNat = b) (F6 : EndF lv m f (f + n)) (hup : up = w - m + f - lv f.toNat) (u0 : 0 ≤ up) (V : MvV v vm lv f n up k) (hi' : k = -1) (T : TbV vm v2 lo hi) (hlo : lo = lv f.toNat) (hhi : hi = lv f.toNat + up) : BgB cnt g sr r v2 lv w m bl b := by
  obtain ⟨h0, d, d0, d1, d2, M, Rw⟩ := X
  subst hi'
  subst hlo
  subst hhi
  have V1 := V.1
  rw [(by omega : f + -1 = f - 1)] at V1
  exact ⟨d, d0, d1, d2, rq_Mid_bl1 M h0 d0 d1 (Bt_of B.1 F0 Fm F3 F4 d2) F6 rfl hup u0 V1 T.1, T.2⟩
theorem BgA_row {cnt : Int} {g sr r v lv : Nat → Int} {w m bl b : Int} (A : BgA cnt g sr r v lv w m bl b) : RowS v := A.2.elim (fun _ q => q.2.2.2.2)
