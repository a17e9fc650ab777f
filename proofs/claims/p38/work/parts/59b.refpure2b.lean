def FdAt (fl r : Nat → Int) (w h k : Int) : Prop := r (1 : Int).toNat ≤ h ∧ h < w ∧ 5096 ≤ enc r (h + 8).toNat ∧ 0 ≤ k ∧ k < fl (enc r (h + 8).toNat - 5096).toNat
def SrD (fl sr r : Nat → Int) (w : Int) : Prop := ∀ h k, FdAt fl r w h k → sr (6 * (enc r (h + 8).toNat - 5096) + k).toNat = 0 → enc r (h + 1 + k + 8).toNat ≤ 3047
def SrW (fl sr r : Nat → Int) (w a s : Int) : Prop := ∀ h k, FdAt fl r w h k → h + 1 + k = a → sr (6 * (enc r (h + 8).toNat - 5096) + k).toNat = 0 → s = 0
theorem FdAt_in {bad cnt : Int} {fl r : Nat → Int} {w h k : Int} (H : LdI bad cnt fl r w) (F : FdAt fl r w h k) : 0 ≤ h ∧ h + 1 + k < w ∧ w ≤ 160 ∧ enc r (h + 8).toNat < 5096 + cnt ∧ k < 6 ∧ ∀ j, 1 ≤ j → j ≤ k + 1 → enc r (h + j + 8).toNat < 5096 := by
  obtain ⟨f1, f2, f3, f4, f5⟩ := F
  have b := LdI_box H
  have v := VM_at H.2.1 f1 f2 f3
  refine ⟨by omega, by omega, by omega, by omega, by omega, fun j j0 j1 => ?_⟩
  rcases H.2.1.2.2.1 h f1 f2 with z | ⟨d1, d2, d3, d4, d5, d6⟩
  · have h3 := Pl_lt z b.2.2.1
    have e5 : mI (enc r) h = enc r (h + 8).toNat := rfl
    omega
  · have e : aI fl (mI (enc r) h - 5096) = fl (enc r (h + 8).toNat - 5096).toNat := rfl
    exact d5 j j0 (by omega)
theorem FdAt_uq {bad cnt : Int} {fl r : Nat → Int} {w h k h2 k2 : Int} (H : LdI bad cnt fl r w) (F : FdAt fl r w h k) (G : FdAt fl r w h2 k2) (e : h + 1 + k = h2 + 1 + k2) : h = h2 ∧ k = k2 := by
  have a := FdAt_in H F
  have b := FdAt_in H G
  have f3 := F.2.2.1
  have g3 := G.2.2.1
  have f4 := F.2.2.2.1
  have g4 := G.2.2.2.1
  rcases (by omega : h = h2 ∨ h < h2 ∨ h2 < h) with q | q | q
  · exact ⟨q, by omega⟩
  · have z := a.2.2.2.2.2 (h2 - h) (by omega) (by omega)
    rw [(by omega : h + (h2 - h) + 8 = h2 + 8)] at z
    omega
  · have z := b.2.2.2.2.2 (h - h2) (by omega) (by omega)
    rw [(by omega : h2 + (h - h2) + 8 = h + 8)] at z
    omega
theorem SrW_reg {bad cnt : Int} {fl sr r : Nat → Int} {w a s : Int} (H : LdI bad cnt fl r w) (ha : a < 0) : SrW fl sr r w a s := fun h k F e _ => by
  have := FdAt_in H F
  have := F.2.2.2.1
  omega
theorem SrW_fld {bad cnt : Int} {fl sr r : Nat → Int} {w z k a s i : Int} (H : LdI bad cnt fl r w) (C : CnE r w z) (hz : ¬ z = -1) (k0 : 0 ≤ k) (k1 : k < fl (r (2 * z + 103).toNat).toNat) (ha : a = z + 1 + k) (hs : s = sr i.toNat) (hi : i = 6 * r (2 * z + 103).toNat + k) : SrW fl sr r w a s := fun h k2 F e q => by
  have c := CnE_head H C hz
  have b := LdI_box H
  have en := enc_at (r := r) (x := z) (by omega)
  have ek : enc r (z + 8).toNat - 5096 = r (2 * z + 103).toNat := by omega
  have G : FdAt fl r w z k := ⟨c.1, c.2.1, by omega, k0, by rw [ek]; exact k1⟩
  have u := FdAt_uq H F G (by omega)
  rw [u.1, u.2, ek, ← hi, ← hs] at q
  exact q
theorem SrD_hold {bad cnt : Int} {fl sr r r2 : Nat → Int} {w a s sv nv : Int} (H : LdI bad cnt fl r w) (S : SrD fl sr r w) (W : SrW fl sr r w a s) (K : HldR r r2 a sv nv) (P : KpH r r2) (a0 : -8 ≤ a) (a1 : a < 160) (hv : s = 0 → 2048 * sv + 1000 + nv ≤ 3047) : SrD fl sr r2 w := by
  intro h k F q
  have b := LdI_box H
  have f1 : r (1 : Int).toNat ≤ h := by rw [← P.1 _ (by decide)]; exact F.1
  have f2 := F.2.1
  have f3 := F.2.2.1
  have eh : enc r2 (h + 8).toNat = enc r (h + 8).toNat := by
    rcases P.2 h ⟨by omega, by omega⟩ with z | z
    · omega
    · exact z
  rw [eh] at f3 q
  have G : FdAt fl r w h k := ⟨f1, f2, f3, F.2.2.2.1, by rw [← eh]; exact F.2.2.2.2⟩
  have i := FdAt_in H G
  have k0 := F.2.2.2.1
  have e := HldR_enc K ⟨a0, a1⟩ (h + 1 + k) ⟨by omega, by omega⟩
  rw [e]
  unfold updI
  by_cases x : h + 1 + k = a
  · rw [if_pos (by rw [x])]
    exact hv (W h k G x q)
  · rw [if_neg (by omega)]
    exact S h k G q
theorem SrD_push {bad cnt : Int} {fl sr r0 r : Nat → Int} {w lim2 kind f : Int} (H : LdI bad cnt fl r0 w) (S : SrD fl sr r0 w) (A : AdE r0 r lim2 kind f) (k0 : 0 ≤ kind) (hf : f = fl kind.toNat) (f0 : 0 ≤ f) (hl : lim2 = r0 (1 : Int).toNat - f - 1) (h0 : 0 ≤ lim2) : SrD fl sr r w := by
  obtain ⟨a1, a2, a3, a4, a5, a6⟩ := A
  have b := LdI_box H
  intro h k F q
  obtain ⟨f1, f2, f3, f4, f5⟩ := F
  rw [a2] at f1
  have same : ∀ x, Dm x → (x < lim2 ∨ lim2 + f < x) → enc r (x + 8).toNat = enc r0 (x + 8).toNat := a6
  rcases (by omega : h = lim2 ∨ (lim2 < h ∧ h ≤ lim2 + f) ∨ lim2 + f < h) with z | z | z
  · subst z
    have e : enc r (h + 8).toNat = 5096 + kind := a4
    rw [e, (by omega : 5096 + kind - 5096 = kind), ← hf] at f5
    have := a5 (k + 1) (by omega) (by omega)
    have e2 : mI (enc r) (h + (k + 1)) = enc r (h + 1 + k + 8).toNat := by
      show enc r (h + (k + 1) + 8).toNat = _
      rw [(by omega : h + (k + 1) + 8 = h + 1 + k + 8)]
    omega
  · have := a5 (h - lim2) (by omega) (by omega)
    have e2 : mI (enc r) (lim2 + (h - lim2)) = enc r (h + 8).toNat := by
      show enc r (lim2 + (h - lim2) + 8).toNat = _
      rw [(by omega : lim2 + (h - lim2) + 8 = h + 8)]
    omega
  · have eh := same h ⟨by omega, by omega⟩ (Or.inr z)
    rw [eh] at f3 f5 q
    have G : FdAt fl r0 w h k := ⟨by omega, f2, f3, f4, f5⟩
    have i := FdAt_in H G
    rw [same (h + 1 + k) ⟨by omega, by omega⟩ (Or.inr (by omega))]
    exact S h k G q
def UpB (g g2 : Nat → Int) (n : Int) : Prop := ∀ j : Nat, (j : Int) < n → g2 j = g j
theorem UpB_rf {g : Nat → Int} {n : Int} : UpB g g n := fun _ _ => rfl
theorem UpB_upd {g g2 g3 : Nat → Int} {n i v : Int} (H : UpB g g2 n) (e : g3 = updI g2 i.toNat v) (h0 : 0 ≤ i) (hi : n ≤ i) : UpB g g3 n := fun j hj => by
  rw [e]
  unfold updI
  rw [if_neg (by omega)]
  exact H j hj
theorem SrD_up {bad cnt n6 n1 : Int} {fl fl2 sr sr2 r : Nat → Int} {w : Int} (H : LdI bad cnt fl r w) (S : SrD fl sr r w) (U : UpB sr sr2 n6) (V : UpB fl fl2 n1) (h6 : 6 * cnt ≤ n6) (h1 : cnt ≤ n1) : SrD fl2 sr2 r w := by
  intro h k F q
  obtain ⟨f1, f2, f3, f4, f5⟩ := F
  have b := LdI_box H
  have v := VM_at H.2.1 f1 f2 f3
  rw [V _ (by omega)] at f5
  have G : FdAt fl r w h k := ⟨f1, f2, f3, f4, f5⟩
  have i := FdAt_in H G
  rw [U _ (by omega)] at q
  exact S h k G q
theorem SrD_en {bad cnt : Int} {fl sr r r2 : Nat → Int} {w : Int} (H : LdI bad cnt fl r w) (S : SrD fl sr r w) (E : EnS r r2) : SrD fl sr r2 w := by
  intro h k F q
  obtain ⟨f1, f2, f3, f4, f5⟩ := F
  have b := LdI_box H
  rw [E.1] at f1
  have eh := E.2 h ⟨by omega, by omega⟩
  rw [eh] at f3 f5 q
  have G : FdAt fl r w h k := ⟨f1, f2, f3, f4, f5⟩
  have i := FdAt_in H G
  rw [E.2 (h + 1 + k) ⟨by omega, by omega⟩]
  exact S h k G q
theorem SrD_0 {fl sr r : Nat → Int} {w : Int} (h : w ≤ r (1 : Int).toNat) : SrD fl sr r w := fun x k F _ => by
  have := F.1
  have := F.2.1
  omega
def SrB (bad : Int) (fl sr r : Nat → Int) (w : Int) : Prop := bad = 0 → SrD fl sr r w
