theorem StpU {g sr r lv lv2 ba bw ba2 bw2 : Nat → Int} {w m m2 bl bl2 : Int} (A : LvP g sr r lv w m) (B : BkT ba bw lv m bl) (A2 : LvP g sr r lv2 w m2) (B2 : BkT ba2 bw2 lv2 m2 bl2) : m2 = m ∧ bl2 = bl := by
  obtain ⟨e1, e2⟩ := LvE_uq A A2
  have m0 : 0 ≤ m := A.1
  refine ⟨e1.symm, ?_⟩
  rw [B.1, B2.1, ← e1]
  exact (ub_cong m.toNat (fun i i0 i1 => e2 i i0 (by omega))).symm
def RpK (g sr r : Nat → Int) (w k : Int) : Prop := ∃ (lv : Nat → Int) (m n : Int), LvE (mE r) (flN g) sr (r (1 : Int).toNat) w lv m ∧ StpN (r (0 : Int).toNat) m (ub (aI lv) m.toNat) n ∧ 0 ≤ k ∧ k ≤ n
theorem RpK_dn {cnt : Int} {g sr r : Nat → Int} {w k : Int} (H : NwI cnt g sr r w) (h : r (3 : Int).toNat = 1) (hk : k = r (4 : Int).toNat) : RpK g sr r w k := by
  obtain ⟨lv, m, n, a, b, c, d⟩ := H.2.2.2 h
  exact ⟨lv, m, n, a, b, by omega, by omega⟩
theorem RpK_of {g sr r lv ba bw : Nat → Int} {w m bl k : Int} (A : LvP g sr r lv w m) (B : BkT ba bw lv m bl) (k0 : 0 ≤ k) (h : (r (0 : Int).toNat = 0 ∧ k ≤ 10 + 2 * m) ∨ (r (0 : Int).toNat = 1 ∧ k ≤ 10 + bl + m)) : RpK g sr r w k := by
  have e := B.1
  rcases h with ⟨h0, h1⟩ | ⟨h0, h1⟩
  · exact ⟨lv, m, 10 + 2 * m, A, Or.inl ⟨h0, rfl⟩, k0, h1⟩
  · exact ⟨lv, m, 10 + bl + m, A, Or.inr ⟨by omega, by rw [e]⟩, k0, h1⟩
theorem RpK_at {cnt : Int} {g sr r lv ba bw : Nat → Int} {w m bl k : Int} (H : NwI cnt g sr r w) (K : RpK g sr r w k) (A : LvP g sr r lv w m) (B : BkT ba bw lv m bl) : (r (0 : Int).toNat = 0 ∧ k ≤ 10 + 2 * m) ∨ (r (0 : Int).toNat = 1 ∧ k ≤ 10 + bl + m) := by
  obtain ⟨lv0, m0, n, a, b, c, d⟩ := K
  obtain ⟨e1, e2⟩ := LvE_uq a A
  have p : 0 ≤ m0 := a.1
  have e3 : ub (aI lv0) m0.toNat = bl := by
    rw [B.1, ← e1]
    exact ub_cong m0.toNat (fun i i0 i1 => e2 i i0 (by omega))
  have q := H.2.2.1.1
  unfold StpN at b
  rw [e3] at b
  omega
theorem VeN_cp {cnt : Int} {g sr r v : Nat → Int} {w k : Int} (H : NwI cnt g sr r w) (C : CpI r v k) (hk : 422 ≤ k) : VeN r v := by
  have c : ∀ j : Nat, j < 422 → v j = r j := fun j hj => C j (by omega)
  refine ⟨fun x hx => ?_, fun x hx => ?_⟩
  · have h8 := hx.1
    have h9 := hx.2
    show encD v (x + 8).toNat = encD r (x + 8).toNat
    unfold encD
    rw [if_pos (by omega), if_pos (by omega)]
    unfold enc
    rw [c _ (by omega), c _ (by omega)]
  · have h8 := hx.1
    have h9 := hx.2
    rw [c _ (by omega), c _ (by omega)]
    exact H.1 x hx
def RpL (cnt : Int) (g sr r v lv : Nat → Int) (w m bl k : Int) : Prop := (k = 1 → VeN r v) ∧ (¬ k = 1 → StZ cnt g sr r v lv w m bl (k - 1))
def RpZ (cnt : Int) (g sr r v lv : Nat → Int) (w m bl k : Int) : Prop := RpL cnt g sr r v lv w m bl (k + 1)
theorem RpL_init {cnt : Int} {g sr r v lv : Nat → Int} {w m bl : Int} (V : VeN r v) : RpL cnt g sr r v lv w m bl 1 := ⟨fun _ => V, fun h => absurd rfl h⟩
theorem RpL_a {cnt : Int} {g sr r v lv : Nat → Int} {w m bl k : Int} (R : RpL cnt g sr r v lv w m bl k) (h : (r (0 : Int).toNat = 0 ∧ k ≤ 10 + 2 * m) ∨ (r (0 : Int).toNat = 1 ∧ k ≤ 10 + bl + m)) : StA cnt g sr r v lv w m bl k := ⟨R.1, fun q => (R.2 q).1 (by unfold LsK; omega)⟩
theorem RpL_z {cnt : Int} {g sr r v lv : Nat → Int} {w m bl k : Int} (Z : StZ cnt g sr r v lv w m bl k) (k0 : 1 ≤ k) : RpL cnt g sr r v lv w m bl (k + 1) := ⟨fun h => by omega, fun _ => by rw [(by omega : k + 1 - 1 = k)]; exact Z⟩
theorem RpZ_of {cnt : Int} {g sr r v lv : Nat → Int} {w m bl k j : Int} (R : RpL cnt g sr r v lv w m bl k) (h : k = j + 1) : RpZ cnt g sr r v lv w m bl j := by
  subst h
  exact R
theorem RpZ_L {cnt : Int} {g sr r v lv : Nat → Int} {w m bl k j : Int} (R : RpZ cnt g sr r v lv w m bl j) (h : k = j + 1) : RpL cnt g sr r v lv w m bl k := by
  subst h
  exact R
theorem StZ_row {cnt : Int} {g sr r v lv : Nat → Int} {w m bl k : Int} (Z : StZ cnt g sr r v lv w m bl k) : RowS v := by
  by_cases q : LsK r m bl k
  · exact (Z.2 q).2.2.1
  · exact (Z.1 q).2
theorem RpL_row {cnt : Int} {g sr r v lv : Nat → Int} {w m bl k : Int} (R : RpL cnt g sr r v lv w m bl k) : RowS v := by
  by_cases q : k = 1
  · exact (R.1 q).2
  · exact StZ_row (R.2 q)
theorem RpZ_row {cnt : Int} {g sr r v lv : Nat → Int} {w m bl k : Int} (R : RpZ cnt g sr r v lv w m bl k) : RowS v := RpL_row R
theorem RpZ_la {cnt : Int} {g sr r v lv : Nat → Int} {w m bl k : Int} (R : RpZ cnt g sr r v lv w m bl k) (h : (r (0 : Int).toNat = 0 ∧ k = 10 + 2 * m) ∨ (r (0 : Int).toNat = 1 ∧ k = 10 + bl + m)) (k0 : 1 ≤ k) : LaB cnt g sr v w m := by
  have z := R.2 (by omega)
  rw [(by omega : k + 1 - 1 = k)] at z
  exact z.2 h
def EdI (r v x : Nat → Int) (i : Int) : Prop := (∀ j : Nat, j < 86 → x j = r j) ∧ ∀ j : Nat, 86 ≤ j → (j : Int) < i → x j = v j
theorem EdI_init {r v : Nat → Int} : EdI r v r 86 := ⟨fun _ _ => rfl, fun j h1 h2 => by omega⟩
theorem EdI_step {r v x x2 : Nat → Int} {i k z : Int} (H : EdI r v x i) (hz : z = v i.toNat) (e : x2 = updI x k.toNat z) (hk : k = i) (i0 : 86 ≤ i) : EdI r v x2 (i + 1) := by
  subst hk
  subst e
  refine ⟨fun j hj => ?_, fun j h1 h2 => ?_⟩
  · unfold updI
    rw [if_neg (by omega)]
    exact H.1 j hj
  · unfold updI
    by_cases q : j = k.toNat
    · rw [if_pos q, hz, q]
    · rw [if_neg q]
      exact H.2 j h1 (by omega)
def EdP (v x : Nat → Int) (c : Int) : Prop := (∀ j : Nat, 86 ≤ j → j < 422 → x j = v j) ∧ (0 ≤ x (0 : Int).toNat ∧ x (0 : Int).toNat ≤ 1) ∧ (0 ≤ x (5 : Int).toNat ∧ x (5 : Int).toNat ≤ 20) ∧ (1 ≤ c → x (1 : Int).toNat = v (1 : Int).toNat) ∧ (2 ≤ c → x (3 : Int).toNat = 0) ∧ (3 ≤ c → 1 ≤ x (5 : Int).toNat)
theorem EdP_0 {cnt : Int} {g sr r v x : Nat → Int} {w i : Int} (H : NwI cnt g sr r w) (E : EdI r v x i) (hi : 422 ≤ i) : EdP v x 0 := by
  have h := H.2.2.1
  refine ⟨fun j h1 h2 => E.2 j h1 (by omega), ?_, ?_, fun _ => by omega, fun _ => by omega, fun _ => by omega⟩
  · rw [E.1 _ (by decide)]
    exact h.1
  · rw [E.1 _ (by decide)]
    exact h.2.2
theorem EdP_1 {v x x2 : Nat → Int} {k z : Int} (H : EdP v x 0) (hz : z = v (1 : Int).toNat) (e : x2 = updI x k.toNat z) (hk : k = 1) : EdP v x2 1 := by
  subst hk
  subst e
  obtain ⟨h1, h2, h3, h4, h5, h6⟩ := H
  exact ⟨fun j a b => by unfold updI; rw [if_neg (by omega)]; exact h1 j a b, h2, h3, fun _ => hz, fun _ => by omega, fun _ => by omega⟩
theorem EdP_3 {v x x2 : Nat → Int} {k z : Int} (H : EdP v x 1) (hz : z = 0) (e : x2 = updI x k.toNat z) (hk : k = 3) : EdP v x2 2 := by
  subst hk
  subst e
  obtain ⟨h1, h2, h3, h4, h5, h6⟩ := H
  exact ⟨fun j a b => by unfold updI; rw [if_neg (by omega)]; exact h1 j a b, h2, h3, fun _ => h4 (by omega), fun _ => hz, fun _ => by omega⟩
theorem EdP_5 {v x x2 : Nat → Int} {k z : Int} (H : EdP v x 2) (hz : 1 ≤ z ∧ z ≤ 20) (e : x2 = updI x k.toNat z) (hk : k = 5) : EdP v x2 3 := by
  subst hk
  subst e
  obtain ⟨h1, h2, h3, h4, h5, h6⟩ := H
  have e5 : updI x (5 : Int).toNat z (5 : Int).toNat = z := by unfold updI; rw [if_pos rfl]
  exact ⟨fun j a b => by unfold updI; rw [if_neg (by omega)]; exact h1 j a b, h2, by rw [e5]; omega, fun _ => h4 (by omega), fun _ => h5 (by omega), fun _ => by rw [e5]; omega⟩
theorem EdP_20 {v x : Nat → Int} {z : Int} (H : EdP v x 2) (hz : z = x (5 : Int).toNat) (h : 1 ≤ z) : EdP v x 3 := by
  obtain ⟨h1, h2, h3, h4, h5, h6⟩ := H
  exact ⟨h1, h2, h3, fun _ => h4 (by omega), fun _ => h5 (by omega), fun _ => by omega⟩
theorem EdP_o {v x x2 : Nat → Int} {c k z : Int} (H : EdP v x c) (e : x2 = updI x k.toNat z) (hk : k = 2 ∨ k = 4 ∨ (6 ≤ k ∧ k < 86)) : EdP v x2 c := by
  subst e
  obtain ⟨h1, h2, h3, h4, h5, h6⟩ := H
  have e0 : ∀ q : Int, q = 0 ∨ q = 1 ∨ q = 3 ∨ q = 5 → updI x k.toNat z q.toNat = x q.toNat := fun q hq => by unfold updI; rw [if_neg (by omega)]
  refine ⟨fun j a b => by unfold updI; rw [if_neg (by omega)]; exact h1 j a b, ?_, ?_, ?_, ?_, ?_⟩
  · rw [e0 0 (by omega)]; exact h2
  · rw [e0 5 (by omega)]; exact h3
  · rw [e0 1 (by omega)]; exact h4
  · rw [e0 3 (by omega)]; exact h5
  · rw [e0 5 (by omega)]; exact h6
def StL (r : Nat → Int) : Prop := r (3 : Int).toNat = 0
theorem EdP_nw {cnt : Int} {g sr v x : Nat → Int} {w m : Int} (L : LaB cnt g sr v w m) (E : EdP v x 3) : NwI cnt g sr x w ∧ SrN g sr x w ∧ StL x := by
  obtain ⟨l1, l2, l3, l4⟩ := L
  obtain ⟨h1, h2, h3, h4, h5, h6⟩ := E
  have b := VM_box l1
  have h5' := h5 (by omega)
  have h4' := h4 (by omega)
  have en : ∀ y, Dm y → enc x (y + 8).toNat = enc v (y + 8).toNat := fun y hy => by
    have h8 := hy.1
    have h9 := hy.2
    rw [enc_at hy.1, enc_at hy.1, h1 _ (by omega) (by omega), h1 _ (by omega) (by omega)]
  have V : VM cnt (flN g) (enc x) (x (1 : Int).toNat) w := by
    rw [h4', l2]
    exact VM_cong l1 en
  refine ⟨⟨fun y hy => ?_, V, ⟨h2, by omega, h3⟩, fun h9 => by omega⟩, ?_, h5'⟩
  · have h8 := hy.1
    have h9 := hy.2
    rw [h1 _ (by omega) (by omega), h1 _ (by omega) (by omega)]
    exact l3 y hy
  · intro h k F q
    obtain ⟨f1, f2, f3, f4, f5⟩ := F
    have c := VM_at V f1 f2 f3
    have eh := en h ⟨by omega, by omega⟩
    have f6 : h + 1 + k < w := by omega
    rw [en (h + 1 + k) ⟨by omega, by omega⟩]
    rw [eh] at f3 f5 q
    exact l4 h k ⟨by omega, f2, f3, f4, f5⟩ q
