def SrN (g sr r : Nat → Int) (w : Int) : Prop := ∀ h k, FdAt (flN g) r w h k → sr (36 + 6 * (enc r (h + 8).toNat - 5096) + k).toNat = 0 → enc r (h + 1 + k + 8).toNat ≤ 3047
theorem SrN_up {cnt : Int} {g g2 sr sr2 r : Nat → Int} {w : Int} (H : NwI cnt g sr r w) (S : SrN g sr r w) (U : UpK g g2 6) (V : UpK sr sr2 36) : SrN g2 sr2 r w := by
  intro h k F q
  obtain ⟨f1, f2, f3, f4, f5⟩ := F
  have e : ∀ j : Nat, flN g2 j = flN g j := fun j => U (j + 6) (by omega)
  rw [e] at f5
  rw [V _ (by omega)] at q
  exact S h k ⟨f1, f2, f3, f4, f5⟩ q
theorem SrN_new {cnt : Int} {g0 g s0 sr la r : Nat → Int} {w : Int} (H : LdI 0 cnt g0 la w) (S : SrD g0 s0 la w) (_ : 0 ≤ cnt) (Fd : FdI g0 g 6 6) (Fs : FdI s0 sr 36 36) (C : CpI la r 422) : SrN g sr r w := by
  intro h k F q
  obtain ⟨f1, f2, f3, f4, f5⟩ := F
  have b := LdI_box H
  have e1 : r (1 : Int).toNat = la (1 : Int).toNat := C 1 (by decide)
  have en : ∀ x, -8 ≤ x → x < 160 → enc r (x + 8).toNat = enc la (x + 8).toNat := fun x x0 x1 => by
    unfold enc
    rw [C _ (by omega), C _ (by omega)]
  rw [e1] at f1
  have eh := en h (by omega) (by omega)
  rw [eh] at f3 f5 q
  have v := VM_at H.2.1 f1 f2 f3
  have ef : flN g (enc la (h + 8).toNat - 5096).toNat = g0 (enc la (h + 8).toNat - 5096).toNat := by
    have z := Fd.2 (enc la (h + 8).toNat - 5096).toNat (by omega)
    unfold flN
    rw [← z]
    congr 1
    omega
  rw [ef] at f5
  have G : FdAt g0 la w h k := ⟨f1, f2, f3, f4, f5⟩
  have i := FdAt_in H G
  have es : sr (36 + 6 * (enc la (h + 8).toNat - 5096) + k).toNat = s0 (6 * (enc la (h + 8).toNat - 5096) + k).toNat := by
    have z := Fs.2 (6 * (enc la (h + 8).toNat - 5096) + k).toNat (by omega)
    rw [← z]
    congr 1
    omega
  rw [es] at q
  rw [en (h + 1 + k) (by omega) (by omega)]
  exact S h k G q
