def StOK (cnt : Int) (fl h lv : Nat → Int) (lim w m bl meth done going : Int) : Prop := (going = 1 ∧ Mid cnt fl h lv lim w m bl meth done) ∨ (going = 0 ∧ VM cnt fl h lim w)
theorem StOK_mid1 {cnt : Int} {fl h lv : Nat → Int} {lim w m bl meth d d2 going : Int} (H : Mid1 cnt fl h lv lim w m bl meth d) (hg : going = 1) (hd : d2 = d + 1) : StOK cnt fl h lv lim w m bl meth d2 going := by
  subst hd
  exact Or.inl ⟨hg, H⟩
theorem StOK_mid {cnt : Int} {fl h lv : Nat → Int} {lim w m bl meth d d2 going : Int} (H : Mid cnt fl h lv lim w m bl meth d) (hg : going = 1) (hd : d2 = d) : StOK cnt fl h lv lim w m bl meth d2 going := by
  subst hd
  exact Or.inl ⟨hg, H⟩
theorem StOK_vm {cnt : Int} {fl h lv : Nat → Int} {lim w m bl meth d going : Int} (H : VM cnt fl h lim w) (hg : going = 0) : StOK cnt fl h lv lim w m bl meth d going := Or.inr ⟨hg, H⟩
theorem StOK_get1 {cnt : Int} {fl h lv : Nat → Int} {lim w m bl meth d going : Int} (H : StOK cnt fl h lv lim w m bl meth d going) (hg : going = 1) : Mid cnt fl h lv lim w m bl meth d := H.elim (fun q => q.2) (fun q => by omega)
theorem StOK_get0 {cnt : Int} {fl h lv : Nat → Int} {lim w m bl meth d going : Int} (H : StOK cnt fl h lv lim w m bl meth d going) (hg : going = 0) : VM cnt fl h lim w := H.elim (fun q => by omega) (fun q => q.2)
def WhP (n all done going : Int) : Prop := (n < all ∧ going = 1 ∧ done = n) ∨ (n = all ∧ going = 0)
theorem WhP_go {n all done going : Int} (H : WhP n all done going) (h : n < all) : going = 1 ∧ done = n := by
  unfold WhP at H
  omega
theorem WhP_end {n all done going : Int} (H : WhP n all done going) (h : all ≤ n) : going = 0 := by
  unfold WhP at H
  omega
def KOK (cnt : Int) (fl : Nat → Int) : Prop := ∀ k, 0 ≤ k → k < cnt → 1 ≤ fl k.toNat ∧ fl k.toNat ≤ 6
def AdI (g0 g : Nat → Int) (lim2 kind f : Int) : Prop := mI g lim2 = 5096 + kind ∧ (∀ j, 1 ≤ j → j ≤ f → mI g (lim2 + j) = 1000 ∨ mI g (lim2 + j) = 3047) ∧ ∀ x, Dm x → (x < lim2 ∨ lim2 + f < x) → mI g x = mI g0 x
theorem AdI_init {g0 g : Nat → Int} {lim2 kind i v : Int} (e : g = updI g0 i.toNat v) (hi : i = lim2 + 8) (hv : v = 5096 + kind) (h0 : 0 ≤ lim2) : AdI g0 g lim2 kind 0 := by
  subst hi
  subst e
  refine ⟨by rw [mI_upd_eq (by omega)]; exact hv, fun j j0 j1 => by omega, fun x hx hc => mI_upd_ne (by omega) hx (by omega)⟩
theorem AdI_step {g0 g g2 : Nat → Int} {lim2 kind f i v : Int} (H : AdI g0 g lim2 kind f) (e : g2 = updI g i.toNat v) (hi : i = lim2 + f + 1 + 8) (hv : v = 1000 ∨ v = 3047) (h0 : 0 ≤ lim2) (hf : 0 ≤ f) : AdI g0 g2 lim2 kind (f + 1) := by
  subst hi
  subst e
  obtain ⟨a1, a2, a3⟩ := H
  refine ⟨?_, fun j j0 j1 => ?_, fun x hx hc => ?_⟩
  · rw [mI_upd (by omega) (by omega), if_neg (by omega)]
    exact a1
  · rw [mI_upd (by omega) (by omega)]
    by_cases q : lim2 + j = lim2 + f + 1
    · rw [if_pos q]; exact hv
    · rw [if_neg q]; exact a2 j j0 (by omega)
  · rw [mI_upd_ne (by omega) hx (by omega)]
    exact a3 x hx (by omega)
theorem AdI_end {cnt : Int} {fl g0 g : Nat → Int} {lim lim2 w kind f : Int} (hV : VM cnt fl g0 lim w) (hK : KOK cnt fl) (H : AdI g0 g lim2 kind f) (k0 : 0 ≤ kind) (k1 : kind < cnt) (hf : f = fl kind.toNat) (hl : lim2 = lim - f - 1) (h0 : 0 ≤ lim2) : VM cnt fl g lim2 w := by
  obtain ⟨a1, a2, a3⟩ := H
  obtain ⟨b0, b1, b2, b3⟩ := hV
  have hk := hK kind k0 k1
  have same : ∀ x, Dm x → (x < 0 ∨ lim ≤ x) → mI g x = mI g0 x := fun x hx hc => a3 x hx (by omega)
  have pl : ∀ v, Pl lim w v → Pl lim2 w v := fun v h => by unfold Pl at *; omega
  refine ⟨⟨h0, by omega, b0.2.2.1, b0.2.2.2⟩, fun r r0 r1 => ?_, fun a h1 h2 => ?_, fun _ => by omega⟩
  · rw [same r ⟨r0, by omega⟩ (by omega)]
    exact pl _ (b1 r r0 r1)
  · rcases (by omega : a = lim2 ∨ (lim2 < a ∧ a < lim) ∨ lim ≤ a) with q | q | q
    · right
      subst q
      have e1 : mI g a - 5096 = kind := by omega
      have e2 : aI fl (mI g a - 5096) = f := by rw [e1]; exact hf.symm
      unfold LHd
      rw [e2]
      refine ⟨by omega, by omega, by omega, by omega, fun j j0 j1 => ?_, fun hlt => ?_⟩
      · rcases a2 j j0 j1 with z | z <;> omega
      · have e5 : a + f + 1 = lim := by omega
        rw [e5, same lim ⟨by omega, by omega⟩ (by omega)]
        exact b3 (by omega)
    · left
      have h5 := a2 (a - lim2) (by omega) (by omega)
      rw [(by omega : lim2 + (a - lim2) = a)] at h5
      unfold Pl
      omega
    · rw [same a ⟨by omega, by omega⟩ (by omega)]
      rcases b2 a q h2 with z | ⟨d1, d2, d3, d4, d5, d6⟩
      · exact Or.inl (pl _ z)
      · right
        unfold LHd
        rw [same a ⟨by omega, by omega⟩ (by omega)]
        refine ⟨d1, d2, d3, d4, fun j j0 j1 => ?_, fun hlt => ?_⟩
        · rw [same _ ⟨by omega, by omega⟩ (by omega)]
          exact d5 j j0 j1
        · rw [same _ ⟨by omega, by omega⟩ (by omega)]
          exact d6 hlt
theorem BtD_of {lv : Nat → Int} {m k d f : Int} (h : BtF lv m k f) (e : d = k + 1) : BtD lv m d f := by
  subst e
  exact h
