def SdI (a : Int64) : Prop := 0 ≤ a.toInt ∧ a.toInt < 2147483648
theorem sd_next {a w1 w2 w3 k : Int64} (S : SdI a) (e1 : w1 = 1103515245 * a) (e2 : w2 = w1 + 12345) (hk : k = 2147483648) (e3 : w3 = w2 - w2 / k * k) : SdI w3 := by
  unfold SdI at S
  have c1 : (1103515245 : Int64).toInt = 1103515245 := by decide
  have c2 : (12345 : Int64).toInt = 12345 := by decide
  have h1 : w1.toInt = 1103515245 * a.toInt := by
    rw [e1, Int64.toInt_mul, c1]
    exact Int.bmod_eq_of_le (by omega) (by omega)
  have h2 : w2.toInt = w1.toInt + 12345 := by
    rw [e2, Int64.toInt_add, c2]
    exact Int.bmod_eq_of_le (by omega) (by omega)
  have hk' : k.toInt = 2147483648 := by rw [hk]; decide
  have h3 := l_rem (x := w2) ⟨by omega, by omega⟩ hk' (by omega)
  rw [← e3] at h3
  exact ⟨by rw [h3]; exact Int.emod_nonneg _ (by omega), by rw [h3]; exact Int.emod_lt_of_pos _ (by omega)⟩
theorem sd_draw {w3 w4 k m r : Int64} {p : Int} (S : SdI w3) (hk : k = 64) (e4 : w4 = w3 / k) (hm : m = (iZ p).toInt64) (hp : 0 < p ∧ p ≤ 2147483647) (hr : r = w4 - w4 / m * m) : 0 ≤ r.toInt ∧ r.toInt < p := by
  unfold SdI at S
  have h64 : k.toInt = 64 := by rw [hk]; decide
  have hd := l_div S.1 h64 (by omega)
  rw [← e4] at hd
  have hk : m.toInt = p := by rw [hm]; exact i2l_toInt ⟨by omega, hp.2⟩
  have h4 := l_rem (x := w4) ⟨by omega, by omega⟩ hk hp.1
  rw [hr, h4]
  exact ⟨Int.emod_nonneg _ (by omega), Int.emod_lt_of_pos _ hp.1⟩
theorem sd_seed {m : Int64} {p : Int} (hm : m = (iZ p).toInt64) (hp : 0 ≤ p ∧ p ≤ 2147483647) : SdI m := by
  have h := i2l_toInt (p := p) ⟨by omega, hp.2⟩
  unfold SdI
  rw [hm, h]
  omega
def zr5 (r : Nat → Int) : Nat → Int := fun j => if 2 ≤ j ∧ j ≤ 5 then 0 else r j
theorem zr5_enc {r : Nat → Int} : enc (zr5 r) = enc r := funext (fun j => by unfold enc zr5; rw [if_neg (by omega), if_neg (by omega)])
theorem zr5_1 {r : Nat → Int} : zr5 r (1 : Int).toNat = r (1 : Int).toNat := by unfold zr5; rw [if_neg (by decide)]
theorem LdZ {cnt : Int} {g sr r : Nat → Int} {w : Int} (H : NwI cnt g sr r w) : LdI 1 cnt (flN g) (zr5 r) w := by
  refine ⟨fun x hx => ?_, by rw [zr5_enc, zr5_1]; exact H.2.1, ⟨rfl, rfl, rfl, rfl⟩, fun q => by omega⟩
  have h8 := hx.1
  have e1 : zr5 r (2 * x + 102).toNat = r (2 * x + 102).toNat := by unfold zr5; rw [if_neg (by omega)]
  have e2 : zr5 r (2 * x + 103).toNat = r (2 * x + 103).toNat := by unfold zr5; rw [if_neg (by omega)]
  rw [e1, e2]
  exact H.1 x hx
theorem FdAt_z {fl r : Nat → Int} {w h k : Int} (F : FdAt fl r w h k) : FdAt fl (zr5 r) w h k := by
  unfold FdAt at F ⊢
  rw [zr5_enc, zr5_1]
  exact F
theorem FdN_in {cnt : Int} {g sr r : Nat → Int} {w h k : Int} (H : NwI cnt g sr r w) (F : FdAt (flN g) r w h k) : 0 ≤ h ∧ h + 1 + k < w ∧ w ≤ 160 ∧ enc r (h + 8).toNat < 5096 + cnt ∧ k < 6 ∧ ∀ j, 1 ≤ j → j ≤ k + 1 → enc r (h + j + 8).toNat < 5096 := by
  have q := FdAt_in (LdZ H) (FdAt_z F)
  rw [zr5_enc] at q
  exact q
theorem FdN_uq {cnt : Int} {g sr r : Nat → Int} {w h k h2 k2 : Int} (H : NwI cnt g sr r w) (F : FdAt (flN g) r w h k) (G : FdAt (flN g) r w h2 k2) (e : h + 1 + k = h2 + 1 + k2) : h = h2 ∧ k = k2 := FdAt_uq (LdZ H) (FdAt_z F) (FdAt_z G) e
def PlN (r : Nat → Int) (w a : Int) : Prop := (-8 ≤ a ∧ a < 0) ∨ (r (1 : Int).toNat ≤ a ∧ a < w ∧ enc r (a + 8).toNat < 5096)
def VlN (g sr r : Nat → Int) (w a v : Int) : Prop := Pl (r (1 : Int).toNat) w v ∧ ∀ h k, FdAt (flN g) r w h k → h + 1 + k = a → sr (36 + 6 * (enc r (h + 8).toNat - 5096) + k).toNat = 0 → v ≤ 3047
theorem Nw_hold {cnt : Int} {g sr r r2 : Nat → Int} {w a s n : Int} (H : NwI cnt g sr r w) (S : SrN g sr r w) (T : StL r) (P : PlN r w a) (K : HldR r r2 a s n) (hW : WdOK s n) (V : VlN g sr r w a (2048 * s + 1000 + n)) : NwI cnt g sr r2 w ∧ SrN g sr r2 w ∧ StL r2 := by
  have b := VM_box H.2.1
  have a0 : -8 ≤ a ∧ a < 160 := by unfold PlN at P; omega
  have lt := Pl_lt V.1 b.2.2.1
  have e1 := K.1 (1 : Int).toNat (by decide)
  have e0 := K.1 (0 : Int).toNat (by decide)
  have e3 := K.1 (3 : Int).toNat (by decide)
  have e5 := K.1 (5 : Int).toNat (by decide)
  have c := H.2.2.1
  unfold StL at T
  have N : NwI cnt g sr r2 w := ⟨RowS_hold H.1 K hW, by rw [e1]; exact VM_hold H.2.1 K P V.1, by rw [e0, e3, e5]; exact c, fun h => by omega⟩
  refine ⟨N, ?_, by show r2 (3 : Int).toNat = 0; omega⟩
  intro h k F q
  have f1 : r (1 : Int).toNat ≤ h := by rw [← e1]; exact F.1
  have f2 := F.2.1
  have f3 := F.2.2.1
  have f4 := F.2.2.2.1
  have en := HldR_enc K (a := a) ⟨a0.1, a0.2⟩
  have eh : enc r2 (h + 8).toNat = enc r (h + 8).toNat := by
    rw [en h ⟨by omega, by omega⟩]
    unfold updI
    by_cases x : h = a
    · have : enc r2 (h + 8).toNat = 2048 * s + 1000 + n := by
        rw [en h ⟨by omega, by omega⟩]
        unfold updI
        rw [if_pos (by rw [x])]
      omega
    · rw [if_neg (by omega)]
  rw [eh] at f3 q
  have G : FdAt (flN g) r w h k := ⟨f1, f2, f3, f4, by rw [← eh]; exact F.2.2.2.2⟩
  have i := FdN_in H G
  rw [en (h + 1 + k) ⟨by omega, by omega⟩]
  unfold updI
  by_cases x : h + 1 + k = a
  · rw [if_pos (by rw [x])]
    exact V.2 h k G x q
  · rw [if_neg (by omega)]
    exact S h k G q
theorem VlN_reg {cnt : Int} {g sr r : Nat → Int} {w a v : Int} (H : NwI cnt g sr r w) (ha : a < 0) (P : Pl (r (1 : Int).toNat) w v) : VlN g sr r w a v := ⟨P, fun h k F e _ => by
  have := FdN_in H F
  have := F.2.2.2.1
  omega⟩
theorem VlN_num {g sr r : Nat → Int} {w a v : Int} (h : 0 ≤ v ∧ v ≤ 1999) : VlN g sr r w a v := ⟨Or.inl h, fun _ _ _ _ _ => by omega⟩
theorem VlN_ptr {cnt : Int} {g sr r : Nat → Int} {w a v b k kd x i : Int} (H : NwI cnt g sr r w) (P : Pl (r (1 : Int).toNat) w v) (b0 : r (1 : Int).toNat ≤ b) (b1 : b < w) (hd : 5096 ≤ mE r b) (hk : kd = r (2 * b + 103).toNat) (k0 : 0 ≤ k) (k1 : k < g (kd + 6).toNat) (ha : a = b + 1 + k) (hx : x = sr i.toNat) (hi : i = 6 * kd + k + 36) (hn : ¬ x = 0) : VlN g sr r w a v := by
  refine ⟨P, fun h k2 F e q => ?_⟩
  exfalso
  have n := Nw_head H b0 b1 hd
  have bb := VM_box H.2.1
  have en := enc_at (r := r) (x := b) (by omega)
  have ek : enc r (b + 8).toNat - 5096 = kd := by omega
  have ef : flN g kd.toNat = g (kd + 6).toNat := by unfold flN; congr 1; omega
  have G : FdAt (flN g) r w b k := ⟨b0, b1, hd, k0, by rw [ek, ef]; exact k1⟩
  have u := FdN_uq H F G (by omega)
  rw [u.1, u.2, ek, (by omega : 36 + 6 * kd + k = i), ← hx] at q
  exact hn q
theorem PlN_fld {cnt : Int} {g sr r : Nat → Int} {w a b k kd : Int} (H : NwI cnt g sr r w) (b0 : r (1 : Int).toNat ≤ b) (b1 : b < w) (hd : 5096 ≤ mE r b) (hk : kd = r (2 * b + 103).toNat) (k0 : 0 ≤ k) (k1 : k < g (kd + 6).toNat) (ha : a = b + 1 + k) : PlN r w a := by
  have n := Nw_head H b0 b1 hd
  have l := (Nw_cell H b0 b1 hd).1 (1 + k) (by omega) (by rw [← hk]; omega)
  rw [← hk] at n
  have e : mE r (b + (1 + k)) = enc r (a + 8).toNat := by
    show enc r (b + (1 + k) + 8).toNat = _
    rw [(by omega : b + (1 + k) + 8 = a + 8)]
  exact Or.inr ⟨by omega, by omega, by omega⟩
theorem Pl_at {cnt : Int} {g sr r : Nat → Int} {w a : Int} (H : NwI cnt g sr r w) (P : PlN r w a) : Pl (r (1 : Int).toNat) w (2048 * r (2 * a + 102).toNat + 1000 + r (2 * a + 103).toNat) ∧ WdOK (r (2 * a + 102).toNat) (r (2 * a + 103).toNat) := by
  have b := VM_box H.2.1
  have a0 : -8 ≤ a ∧ a < 160 := by unfold PlN at P; omega
  rw [← enc_at a0.1]
  refine ⟨?_, H.1 a a0⟩
  rcases P with p | p
  · exact VM_reg H.2.1 p.1 p.2 rfl
  · exact VM_word H.2.1 p.1 p.2.1 rfl p.2.2
def BgO (g r : Nat → Int) (p z : Int) : Prop := r (1 : Int).toNat ≤ z ∧ z ≤ p ∧ 5096 ≤ mE r z ∧ p ≤ z + g (r (2 * z + 103).toNat + 6).toNat
def BgH (r : Nat → Int) (p a : Int) : Prop := r (1 : Int).toNat ≤ a ∧ a ≤ p ∧ 5096 ≤ mE r a
theorem BgH_0 {cnt : Int} {g sr r : Nat → Int} {w p a : Int} (H : NwI cnt g sr r w) (ha : a = r (1 : Int).toNat) (h : a ≤ p) (hp : p < w) : BgH r p a := ⟨by omega, h, by subst ha; exact H.2.1.2.2.2 (by omega)⟩
theorem BgH_n {cnt : Int} {g sr r : Nat → Int} {w p a f : Int} (H : NwI cnt g sr r w) (B : BgH r p a) (hp : p < w) (hf : f = g (r (2 * a + 103).toNat + 6).toNat + 1) (h : a + f ≤ p) : BgH r p (a + f) := by
  have n := Nw_head H B.1 (by have := B.2.1; omega) B.2.2
  have l := (Nw_cell H B.1 (by have := B.2.1; omega) B.2.2).2 (by omega)
  exact ⟨by have := B.1; omega, h, by rw [hf, ← Int.add_assoc]; exact l⟩
theorem BgO_of {g r : Nat → Int} {p a f : Int} (B : BgH r p a) (hf : f = g (r (2 * a + 103).toNat + 6).toNat + 1) (h : p < a + f) : BgO g r p a := ⟨B.1, B.2.1, B.2.2, by omega⟩
theorem Nw_push {cnt : Int} {g sr r0 r : Nat → Int} {w lim2 kind f : Int} (H : NwI cnt g sr r0 w) (S : SrN g sr r0 w) (T : StL r0) (hK : KoN cnt g) (A : AdE r0 r lim2 kind f) (k0 : 0 ≤ kind) (k1 : kind < cnt) (hf : f = g (kind + 6).toNat) (hl : lim2 = r0 (1 : Int).toNat - f - 1) (h0 : 0 ≤ lim2) : NwI cnt g sr r w ∧ SrN g sr r w ∧ StL r := by
  obtain ⟨a1, a2, a3, a4⟩ := A
  have hf2 : f = flN g kind.toNat := by rw [hf]; unfold flN; congr 1; omega
  have kk := hK kind k0 k1
  have b := VM_box H.2.1
  have V := AdI_end H.2.1 hK a4 k0 k1 hf2 hl h0
  have c := H.2.2.1
  unfold StL at T
  have o : ∀ j : Nat, j < 86 → ¬ j = 1 → r j = r0 j := a1
  have N : NwI cnt g sr r w := ⟨a3, by rw [a2]; exact V, by rw [o (0 : Int).toNat (by decide) (by decide), o (3 : Int).toNat (by decide) (by decide), o (5 : Int).toNat (by decide) (by decide)]; exact c, fun h => by rw [o (3 : Int).toNat (by decide) (by decide)] at h; omega⟩
  refine ⟨N, ?_, by show r (3 : Int).toNat = 0; rw [o (3 : Int).toNat (by decide) (by decide)]; exact T⟩
  obtain ⟨a4, a5, a6⟩ := a4
  intro h k F q
  obtain ⟨f1, f2, f3, f4, f5⟩ := F
  rw [a2] at f1
  have same : ∀ x, Dm x → (x < lim2 ∨ lim2 + f < x) → enc r (x + 8).toNat = enc r0 (x + 8).toNat := a6
  rcases (by omega : h = lim2 ∨ (lim2 < h ∧ h ≤ lim2 + f) ∨ lim2 + f < h) with z | z | z
  · subst z
    have e : enc r (h + 8).toNat = 5096 + kind := a4
    rw [e, (by omega : 5096 + kind - 5096 = kind), ← hf2] at f5
    have := a5 (k + 1) (by omega) (by omega)
    have e2 : mI (enc r) (h + (k + 1)) = enc r (h + 1 + k + 8).toNat := by
      show enc r (h + (k + 1) + 8).toNat = _
      rw [(by omega : h + (k + 1) + 8 = h + 1 + k + 8)]
    omega
  · have := a5 (h - lim2) (by omega) (by omega)
    have e2 : mI (enc r) (lim2 + (h - lim2)) = enc r (h + 8).toNat := by
      show enc r (lim2 + (h - lim2) + 8).toNat = _
      rw [(by omega : lim2 + (h - lim2) + 8 = h + 8)]
    omega
  · have eh := same h ⟨by omega, by omega⟩ (Or.inr z)
    rw [eh] at f3 f5 q
    have G : FdAt (flN g) r0 w h k := ⟨by omega, f2, f3, f4, f5⟩
    have i := FdN_in H G
    rw [same (h + 1 + k) ⟨by omega, by omega⟩ (Or.inr (by omega))]
    exact S h k G q
theorem KoN_at {cnt : Int} {g : Nat → Int} {k : Int} (K : KoN cnt g) (k0 : 0 ≤ k) (k1 : k < cnt) : 1 ≤ g (k + 6).toNat ∧ g (k + 6).toNat ≤ 6 := by
  have := K k k0 k1
  have e : flN g k.toNat = g (k + 6).toNat := by unfold flN; congr 1; omega
  rw [e] at this
  exact this
def NcR (r : Nat → Int) (z : Int) : Prop := z = -1 ∨ r (1 : Int).toNat ≤ z
