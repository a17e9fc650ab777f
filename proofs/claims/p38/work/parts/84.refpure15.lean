theorem mE_ext {r r2 : Nat → Int} (C : ∀ j : Nat, j < 422 → r2 j = r j) {y : Int} (h : y < 160) : mE r2 y = mE r y := by
  show enc r2 (y + 8).toNat = enc r (y + 8).toNat
  unfold enc
  rw [C _ (by omega), C _ (by omega)]
theorem HdOf_ext {r r2 : Nat → Int} (C : ∀ j : Nat, j < 422 → r2 j = r j) {t h : Int} (ht : t < 160) (q : HdOf (mE r) t h) : HdOf (mE r2) t h :=
  ⟨q.1, by rw [mE_ext C (by have := q.1; omega)]; exact q.2.1, fun y y0 y1 => by rw [mE_ext C (by omega)]; exact q.2.2 y y0 y1⟩
theorem HdOf_in {cnt : Int} {fl r : Nat → Int} {lim w t h : Int} (V : VM cnt fl (enc r) lim w) (t0 : lim ≤ t) (t1 : t < w) (q : HdOf (mE r) t h) : lim ≤ h ∧ h < w := by
  have h1 := q.1
  refine ⟨Int.not_lt.mp (fun h2 => ?_), by omega⟩
  have h3 : 5096 ≤ mE r lim := V.2.2.2 (by omega)
  have h4 := q.2.2 lim h2 t0
  omega
theorem Rch_ext {cnt : Int} {g sr r r2 : Nat → Int} {lim w : Int} (V : VM cnt (flN g) (enc r) lim w) (C : ∀ j : Nat, j < 422 → r2 j = r j) {h : Int} (q : Rch (mE r) (flN g) sr h) : Rch (mE r2) (flN g) sr h := by
  intro S hS
  have b := VM_box V
  have key := q (fun h => S h ∧ lim ≤ h ∧ h < w) ⟨fun r' t h r0 r1 p d => ?_, fun h x t h2 s s1 f p d => ?_⟩
  · exact key.1
  · obtain ⟨p1, p2, p3⟩ := p
    have e : mE r r' = mI (enc r) r' := rfl
    have z := V.2.1 r' r0 r1
    rw [← e] at z
    have tt : lim ≤ t ∧ t < w := by unfold Pl at z; omega
    exact ⟨hS.1 r' t h r0 r1 (by unfold PtT; rw [mE_ext C (by omega)]; exact ⟨p1, p2, p3⟩) (HdOf_ext C (by omega) d), HdOf_in V tt.1 tt.2 d⟩
  · obtain ⟨s2, s3, s4⟩ := s
    obtain ⟨k, k0, k1, k2, k3⟩ := f
    obtain ⟨p1, p2, p3⟩ := p
    have c := VM_at V s3 s4 s1
    have e9 : enc r (h + 8).toNat = mE r h := rfl
    rw [e9] at c
    have eh : mE r2 h = mE r h := mE_ext C (by omega)
    have e : mE r x = mI (enc r) x := rfl
    have tt : lim ≤ t ∧ t < w := by
      rcases V.2.2.1 x (by omega) (by omega) with z | z
      · rw [← e] at z
        unfold Pl at z
        omega
      · have z1 := z.1
        rw [← e] at z1
        omega
    refine ⟨hS.2 h x t h2 s2 (by rw [eh]; exact s1) ⟨k, k0, by rw [eh]; exact k1, by rw [eh]; exact k2, k3⟩ (by unfold PtT; rw [mE_ext C (by omega)]; exact ⟨p1, p2, p3⟩) (HdOf_ext C (by omega) d), HdOf_in V tt.1 tt.2 d⟩
theorem LvWd_ext {cnt : Int} {g sr r r2 : Nat → Int} {lim w : Int} (V : VM cnt (flN g) (enc r) lim w) (C : ∀ j : Nat, j < 422 → r2 j = r j) {a : Int} (ha : a < 160) (q : LvWd (mE r) (flN g) sr a) : LvWd (mE r2) (flN g) sr a := by
  obtain ⟨h, h1, h2⟩ := q
  exact ⟨h, HdOf_ext C ha h1, Rch_ext V C h2⟩
theorem LvE_ext {cnt : Int} {g sr r r2 lv : Nat → Int} {lim w m : Int} (V : VM cnt (flN g) (enc r) lim w) (V2 : VM cnt (flN g) (enc r2) lim w) (C : ∀ j : Nat, j < 422 → r2 j = r j) (q : LvE (mE r) (flN g) sr lim w lv m) : LvE (mE r2) (flN g) sr lim w lv m := by
  have b := VM_box V
  exact ⟨q.1, fun i i0 i1 => ⟨(q.2.1 i i0 i1).1, (q.2.1 i i0 i1).2.1, LvWd_ext V C (by have := (q.2.1 i i0 i1).2.1; omega) (q.2.1 i i0 i1).2.2⟩, q.2.2.1, fun a a0 a1 a2 => q.2.2.2 a a0 a1 (LvWd_ext V2 (fun j hj => (C j hj).symm) (by omega) a2)⟩
theorem NwI_ext {cnt : Int} {g sr r r2 : Nat → Int} {w : Int} (H : NwI cnt g sr r w) (C : ∀ j : Nat, j < 422 → r2 j = r j) : NwI cnt g sr r2 w := by
  obtain ⟨a, b, c, d⟩ := H
  have e0 := C (0 : Int).toNat (by decide)
  have e1 := C (1 : Int).toNat (by decide)
  have e3 := C (3 : Int).toNat (by decide)
  have e4 := C (4 : Int).toNat (by decide)
  have e5 := C (5 : Int).toNat (by decide)
  have V2 : VM cnt (flN g) (enc r2) (r2 (1 : Int).toNat) w := by
    rw [e1]
    exact VM_cong b (fun x hx => by have h8 := hx.1; have h9 := hx.2; unfold enc; rw [C _ (by omega), C _ (by omega)])
  refine ⟨fun x hx => ?_, V2, by rw [e0, e3, e5]; exact c, fun h3 => ?_⟩
  · have h8 := hx.1
    have h9 := hx.2
    rw [C _ (by omega), C _ (by omega)]
    exact a x hx
  · rw [e3] at h3
    obtain ⟨lv, m, n, l1, l2, l3, l4⟩ := d h3
    rw [e1] at V2
    exact ⟨lv, m, n, by rw [e1]; exact LvE_ext b V2 C l1, by rw [e0]; exact l2, by rw [e4]; exact l3, by rw [e4]; exact l4⟩
theorem SrN_ext {cnt : Int} {g sr r r2 : Nat → Int} {w : Int} (H : NwI cnt g sr r w) (S : SrN g sr r w) (C : ∀ j : Nat, j < 422 → r2 j = r j) : SrN g sr r2 w := by
  intro h k F q
  have b := VM_box H.2.1
  obtain ⟨f1, f2, f3, f4, f5⟩ := F
  have e1 := C (1 : Int).toNat (by decide)
  have en : ∀ x, -8 ≤ x → x < 160 → enc r2 (x + 8).toNat = enc r (x + 8).toNat := fun x _ x1 => mE_ext C x1
  rw [e1] at f1
  rw [en h (by omega) (by omega)] at f3 f5 q
  have c := VM_at H.2.1 f1 f2 f3
  rw [en (h + 1 + k) (by omega) (by omega)]
  exact S h k ⟨f1, f2, f3, f4, f5⟩ q
def rowK (kp : Nat → Int) (j : Int) : Nat → Int := fun k => kp ((422 * j).toNat + k)
def KpU (cnt : Int) (g sr : Nat → Int) (w : Int) (kp : Nat → Int) (un nw : Int) : Prop := ∀ i j, 0 ≤ i → i < un → 0 ≤ j → j < 20 → (j = nw - i ∨ j = nw - i + 20) → NwI cnt g sr (rowK kp j) w ∧ SrN g sr (rowK kp j) w
theorem KpU_0 {cnt : Int} {g sr kp : Nat → Int} {w un nw : Int} (h : un ≤ 0) : KpU cnt g sr w kp un nw := fun i j i0 i1 => by omega
theorem KpU_up {cnt : Int} {g g2 sr sr2 kp : Nat → Int} {w un nw : Int} (K : KpU cnt g sr w kp un nw) (U : UpK g g2 6) (V : UpK sr sr2 36) : KpU cnt g2 sr2 w kp un nw := fun i j i0 i1 j0 j1 h => ⟨NwI_up (K i j i0 i1 j0 j1 h).1 U V, SrN_up (K i j i0 i1 j0 j1 h).1 (K i j i0 i1 j0 j1 h).2 U V⟩
def KpJ (r kp kp2 : Nat → Int) (n k : Int) : Prop := (∀ j : Nat, (j : Int) < k → kp2 ((422 * n).toNat + j) = r j) ∧ ∀ j : Nat, j < (422 * n).toNat ∨ (422 * n).toNat + 422 ≤ j → kp2 j = kp j
theorem KpJ_init {r kp : Nat → Int} {n : Int} : KpJ r kp kp n 0 := ⟨fun j h => by omega, fun _ _ => rfl⟩
theorem KpJ_step {r kp a b : Nat → Int} {n k i x : Int} (H : KpJ r kp a n k) (hx : x = r k.toNat) (e : b = updI a i.toNat x) (hi : i = 422 * n + k) (k0 : 0 ≤ k) (k1 : k < 422) (n0 : 0 ≤ n) : KpJ r kp b n (k + 1) := by
  subst e
  refine ⟨fun j hj => ?_, fun j hj => ?_⟩
  · unfold updI
    by_cases q : j = k.toNat
    · rw [if_pos (by omega), hx, q]
    · rw [if_neg (by omega)]
      exact H.1 j (by omega)
  · unfold updI
    rw [if_neg (by omega)]
    exact H.2 j hj
theorem KpU_keep {cnt : Int} {g sr r kp kp2 : Nat → Int} {w un un2 nw n2 k : Int} (K : KpU cnt g sr w kp un nw) (H : NwI cnt g sr r w) (S : SrN g sr r w) (J : KpJ r kp kp2 n2 k) (hk : 422 ≤ k) (hn : n2 = nw + 1 ∨ (nw = 19 ∧ n2 = 0)) (n0 : 0 ≤ n2) (n1 : n2 ≤ 19) (h0 : 0 ≤ nw) (hu : un2 ≤ un + 1) (hu2 : un2 ≤ 20) : KpU cnt g sr w kp2 un2 n2 := by
  intro i j i0 i1 j0 j1 h
  by_cases q : i = 0
  · have hj : j = n2 := by omega
    subst hj
    have C : ∀ x : Nat, x < 422 → rowK kp2 j x = r x := fun x hx => J.1 x (by omega)
    exact ⟨NwI_ext H C, SrN_ext H S C⟩
  · have hj : ¬ j = n2 := by omega
    have C : ∀ x : Nat, x < 422 → rowK kp2 j x = rowK kp j x := fun x hx => J.2 _ (by omega)
    have p := K (i - 1) j (by omega) (by omega) j0 j1 (by omega)
    exact ⟨NwI_ext p.1 C, SrN_ext p.1 p.2 C⟩
def UoI (kp r : Nat → Int) (n k : Int) : Prop := ∀ j : Nat, (j : Int) < k → r j = kp ((422 * n).toNat + j)
theorem UoI_init {kp r : Nat → Int} {n : Int} : UoI kp r n 0 := fun j h => by omega
theorem UoI_step {kp a b : Nat → Int} {n k i q x : Int} (H : UoI kp a n k) (hx : x = kp q.toNat) (hq : q = 422 * n + k) (e : b = updI a i.toNat x) (hi : i = k) (k0 : 0 ≤ k) (n0 : 0 ≤ n) : UoI kp b n (k + 1) := by
  subst e
  intro j hj
  unfold updI
  by_cases z : j = k.toNat
  · rw [if_pos (by omega), hx]
    congr 1
    omega
  · rw [if_neg (by omega)]
    exact H j (by omega)
theorem KpU_pop {cnt : Int} {g sr kp r2 : Nat → Int} {w un nw k : Int} (K : KpU cnt g sr w kp un nw) (U : UoI kp r2 nw k) (hk : 422 ≤ k) (u1 : 1 ≤ un) (n0 : 0 ≤ nw) (n1 : nw ≤ 19) : NwI cnt g sr r2 w ∧ SrN g sr r2 w := by
  have p := K 0 nw (by omega) (by omega) n0 (by omega) (by omega)
  have C : ∀ x : Nat, x < 422 → r2 x = rowK kp nw x := fun x hx => U x (by omega)
  exact ⟨NwI_ext p.1 C, SrN_ext p.1 p.2 C⟩
theorem KpU_less {cnt : Int} {g sr kp : Nat → Int} {w un un2 nw n2 : Int} (K : KpU cnt g sr w kp un nw) (hn : n2 = nw - 1 ∨ (nw = 0 ∧ n2 = 19)) (hu : un2 = un - 1) (h20 : un ≤ 20) : KpU cnt g sr w kp un2 n2 := fun i j i0 i1 j0 j1 h => K (i + 1) j (by omega) (by omega) j0 j1 (by omega)
theorem LvE_ex {cnt : Int} {g sr r : Nat → Int} {w : Int} (H : NwI cnt g sr r w) : ∃ lv m, LvP g sr r lv w m := by
  have b := VM_box H.2.1
  have key : ∀ n : Nat, ∃ lv m, LvP g sr r lv (n : Int) m := by
    intro n
    induction n with
    | zero => exact ⟨fun _ => 0, 0, LvP_init H⟩
    | succ n ih =>
      obtain ⟨lv, m, A⟩ := ih
      by_cases h : r (1 : Int).toNat ≤ (n : Int) ∧ LvWd (mE r) (flN g) sr (n : Int)
      · exact ⟨_, _, LvP_add A h rfl rfl rfl⟩
      · exact ⟨lv, m, LvP_skip A (fun q1 q2 => h ⟨q1, q2⟩)⟩
  have k := key w.toNat
  rw [(by omega : (w.toNat : Int) = w)] at k
  exact k
theorem NwI_hd {cnt : Int} {g sr r r2 : Nat → Int} {w : Int} (H : NwI cnt g sr r w) (S : SrN g sr r w) (e : ∀ j : Nat, 86 ≤ j → r2 j = r j) (e1 : r2 (1 : Int).toNat = r (1 : Int).toNat) (h0 : 0 ≤ r2 (0 : Int).toNat ∧ r2 (0 : Int).toNat ≤ 1) (h3 : 0 ≤ r2 (3 : Int).toNat ∧ r2 (3 : Int).toNat ≤ 1) (h5 : 0 ≤ r2 (5 : Int).toNat ∧ r2 (5 : Int).toNat ≤ 20) (hd : r2 (3 : Int).toNat = 1 → ∃ (lv : Nat → Int) (m n : Int), LvE (mE r) (flN g) sr (r (1 : Int).toNat) w lv m ∧ StpN (r2 (0 : Int).toNat) m (ub (aI lv) m.toNat) n ∧ 0 ≤ r2 (4 : Int).toNat ∧ r2 (4 : Int).toNat < n) : NwI cnt g sr r2 w ∧ SrN g sr r2 w := by
  have en : enc r2 = enc r := funext (fun j => by unfold enc; rw [e _ (by omega), e _ (by omega)])
  obtain ⟨a, b, c, d⟩ := H
  refine ⟨⟨fun x hx => ?_, by rw [en, e1]; exact b, ⟨h0, h3, h5⟩, fun h => ?_⟩, ?_⟩
  · have h8 := hx.1
    have h9 := hx.2
    rw [e _ (by omega), e _ (by omega)]
    exact a x hx
  · have m1 : mE r2 = mE r := by unfold mE; rw [en]
    rw [m1, e1]
    exact hd h
  · intro h k F q
    unfold FdAt at F
    rw [en] at F q ⊢
    rw [e1] at F
    exact S h k F q
theorem upd_ne {r r2 : Nat → Int} {k x : Int} {j : Nat} (e : r2 = updI r k.toNat x) (h : ¬ j = k.toNat) : r2 j = r j := by
  subst e
  unfold updI
  rw [if_neg h]
theorem upd_eq {r r2 : Nat → Int} {k x : Int} {j : Nat} (e : r2 = updI r k.toNat x) (h : j = k.toNat) : r2 j = x := by
  subst e
  unfold updI
  rw [if_pos h]
theorem NwI_beg {cnt : Int} {g sr r a b : Nat → Int} {w i j x y : Int} (H : NwI cnt g sr r w) (S : SrN g sr r w) (ea : a = updI r i.toNat x) (hi : i = 3) (hx : x = 1) (eb : b = updI a j.toNat y) (hj : j = 4) (hy : y = 0) : NwI cnt g sr b w ∧ SrN g sr b w := by
  subst hi hj hx hy
  have o : ∀ j : Nat, ¬ j = 3 → ¬ j = 4 → b j = r j := fun j h1 h2 => by rw [upd_ne eb h2, upd_ne ea h1]
  have b3 : b (3 : Int).toNat = 1 := by rw [upd_ne eb (by decide), upd_eq ea rfl]
  have b4 : b (4 : Int).toNat = 0 := upd_eq eb rfl
  have h := H.2.2.1
  obtain ⟨lv, m, A⟩ := LvE_ex H
  refine NwI_hd H S (fun j hj => o j (by omega) (by omega)) (o _ (by decide) (by decide)) (by rw [o _ (by decide) (by decide)]; exact h.1) (by omega) (by rw [o _ (by decide) (by decide)]; exact h.2.2) (fun _ => ?_)
  have m0 : 0 ≤ m := A.1
  have u0 := (ub_max (lv := aI lv) m.toNat).1
  rw [b4]
  by_cases z : b (0 : Int).toNat = 0
  · exact ⟨lv, m, 10 + 2 * m, A, Or.inl ⟨z, rfl⟩, by omega, by omega⟩
  · exact ⟨lv, m, 10 + ub (aI lv) m.toNat + m, A, Or.inr ⟨z, rfl⟩, by omega, by omega⟩
theorem NwI_step {cnt : Int} {g sr r b lv ba bw : Nat → Int} {w m bl j y : Int} (H : NwI cnt g sr r w) (S : SrN g sr r w) (A : LvP g sr r lv w m) (B : BkT ba bw lv m bl) (eb : b = updI r j.toNat y) (hj : j = 4) (y0 : 0 ≤ y) (hy : (r (0 : Int).toNat = 0 ∧ y < 10 + 2 * m) ∨ (r (0 : Int).toNat = 1 ∧ y < 10 + bl + m)) : NwI cnt g sr b w ∧ SrN g sr b w := by
  subst hj
  have o : ∀ j : Nat, ¬ j = 4 → b j = r j := fun j h2 => upd_ne eb h2
  have b4 : b (4 : Int).toNat = y := upd_eq eb rfl
  have h := H.2.2.1
  have e := B.1
  refine NwI_hd H S (fun j hj => o j (by omega)) (o _ (by decide)) (by rw [o _ (by decide)]; exact h.1) (by rw [o _ (by decide)]; exact h.2.1) (by rw [o _ (by decide)]; exact h.2.2) (fun _ => ?_)
  rw [b4, o (0 : Int).toNat (by decide)]
  rcases hy with ⟨h0, h1⟩ | ⟨h0, h1⟩
  · exact ⟨lv, m, 10 + 2 * m, A, Or.inl ⟨h0, rfl⟩, y0, h1⟩
  · exact ⟨lv, m, 10 + bl + m, A, Or.inr ⟨by omega, by rw [e]⟩, y0, h1⟩
theorem NwI_met {cnt : Int} {g sr r b : Nat → Int} {w j y : Int} (H : NwI cnt g sr r w) (S : SrN g sr r w) (h3 : r (3 : Int).toNat = 0) (eb : b = updI r j.toNat y) (hj : j = 0) (hy : 0 ≤ y ∧ y ≤ 1) : NwI cnt g sr b w ∧ SrN g sr b w := by
  subst hj
  have o : ∀ j : Nat, ¬ j = 0 → b j = r j := fun j h2 => upd_ne eb h2
  have b0 : b (0 : Int).toNat = y := upd_eq eb rfl
  have h := H.2.2.1
  exact NwI_hd H S (fun j hj => o j (by omega)) (o _ (by decide)) (by rw [b0]; exact hy) (by rw [o _ (by decide)]; exact h.2.1) (by rw [o _ (by decide)]; exact h.2.2) (fun q => by rw [o _ (by decide)] at q; omega)
theorem DnP_at {cnt : Int} {g sr r lv ba bw : Nat → Int} {w m bl : Int} (H : NwI cnt g sr r w) (h : r (3 : Int).toNat = 1) (A : LvP g sr r lv w m) (B : BkT ba bw lv m bl) : 0 ≤ r (4 : Int).toNat ∧ ((r (0 : Int).toNat = 0 ∧ r (4 : Int).toNat < 10 + 2 * m) ∨ (r (0 : Int).toNat = 1 ∧ r (4 : Int).toNat < 10 + bl + m)) := by
  obtain ⟨lv0, m0, n, a, b, c, d⟩ := H.2.2.2 h
  obtain ⟨e1, e2⟩ := LvE_uq a A
  have p : 0 ≤ m0 := a.1
  have e3 : ub (aI lv0) m0.toNat = bl := by
    rw [B.1, ← e1]
    exact ub_cong m0.toNat (fun i i0 i1 => e2 i i0 (by omega))
  have q := H.2.2.1.1
  unfold StpN at b
  rw [e3] at b
  omega
