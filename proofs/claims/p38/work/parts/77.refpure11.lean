def VeN (r v : Nat → Int) : Prop := (∀ x, Dm x → mI (encD v) x = mI (encD r) x) ∧ RowS v
def WkR (r v : Nat → Int) : Prop := ∀ x, Dm x → mI (encD v) x = mI (encD r) x ∨ (3048 ≤ mI (encD r) x ∧ mI (encD r) x ≤ 3207 ∧ mI (encD v) x = 3047)
def WkF (sr co fo r v live : Nat → Int) (c k : Int) : Prop := sr (36 + 6 * (mE r (aI fo c) - 5096) + k).toNat = 2 → ∀ t, PtT (mI (encD v)) (aI fo c + 1 + k) t → aI live (aI co t) = 1
def WkI (g sr co fo r v live : Nat → Int) (c k : Int) : Prop := WkR r v ∧ RowS v ∧ (∀ c', 0 ≤ c' → c' < c → aI live c' = 1 → ∀ k', 0 ≤ k' → FlB g r fo c' k' → WkF sr co fo r v live c' k') ∧ (aI live c = 1 → ∀ k', 0 ≤ k' → k' < k → FlB g r fo c k' → WkF sr co fo r v live c k')
theorem WkI_init {g sr co fo r v live : Nat → Int} (V : VeN r v) : WkI g sr co fo r v live 0 0 := ⟨fun x hx => Or.inl (V.1 x hx), V.2, fun c a b => by omega, fun _ k a b => by omega⟩
theorem WkI_next {g sr co fo r v live : Nat → Int} {c k : Int} (H : WkI g sr co fo r v live c k) (h : aI live c = 0 ∨ ∀ k', FlB g r fo c k' → k' < k) : WkI g sr co fo r v live (c + 1) 0 := by
  obtain ⟨h1, h2, h3, h4⟩ := H
  refine ⟨h1, h2, fun c' a b e k' k0 F => ?_, fun _ k' a b => by omega⟩
  rcases (by omega : c' < c ∨ c' = c) with q | q
  · exact h3 c' a q e k' k0 F
  · subst q
    rcases h with h | h
    · omega
    · exact h4 e k' k0 (h k' F) F
theorem WkI_keep {g sr co fo r v live : Nat → Int} {c k : Int} (H : WkI g sr co fo r v live c k) (h : WkF sr co fo r v live c k) : WkI g sr co fo r v live c (k + 1) := by
  obtain ⟨h1, h2, h3, h4⟩ := H
  refine ⟨h1, h2, h3, fun e k' k0 k1 F => ?_⟩
  rcases (by omega : k' < k ∨ k' = k) with q | q
  · exact h4 e k' k0 q F
  · subst q; exact h
theorem WkF_sort {sr co fo r v live : Nat → Int} {c k y : Int} (hy : y = sr (36 + 6 * (mE r (aI fo c) - 5096) + k).toNat) (h : ¬ y = 2) : WkF sr co fo r v live c k := fun q => by omega
theorem WkF_no {sr co fo r v live : Nat → Int} {c k a : Int} (H : WkR r v) (R : RowS r) (ha : a = aI fo c + 1 + k) (a0 : -8 ≤ a) (a1 : a < 160) (h : ¬ r (2 * a + 102).toNat = 1 ∨ r (2 * a + 103).toNat = -1) : WkF sr co fo r v live c k := fun _ t p => by
  rw [← ha] at p
  have q := RowS_at R a0 a1
  have e := encD_at (r := r) (x := a) ⟨a0, a1⟩
  have e2 : mI (encD r) a = encD r (a + 8).toNat := rfl
  unfold WdOK at q
  unfold PtT at p
  rcases H a ⟨a0, a1⟩ with z | z <;> omega
theorem WkF_live {sr co fo r v live : Nat → Int} {w c k a z : Int} (H : WkR r v) (ha : a = aI fo c + 1 + k) (a0 : -8 ≤ a) (a1 : a < 160) (C : CfR co r w a z) (h0 : ¬ z = -1) (hl : aI live z = 1) : WkF sr co fo r v live c k := fun _ t p => by
  rw [← ha] at p
  have e := encD_mE (r := r) (x := a) ⟨a0, a1⟩
  rcases C with ⟨c1, _⟩ | ⟨t', c1, c2, c3, c4⟩
  · omega
  · have et : t = t' := by
      unfold PtT at p c1
      rcases H a ⟨a0, a1⟩ with z | z <;> omega
    rw [et, ← c2]
    exact hl
theorem WkI_nil {g sr co fo r v v2 live : Nat → Int} {c k a : Int} (H : WkI g sr co fo r v live c k) (R : RowS r) (fc : 0 ≤ aI fo c) (ha : a = aI fo c + 1 + k) (a0 : -8 ≤ a) (a1 : a < 160) (s1 : r (2 * a + 102).toNat = 1) (n1 : ¬ r (2 * a + 103).toNat = -1) (K : HldR v v2 a 1 (-1)) : WkI g sr co fo r v2 live c (k + 1) := by
  obtain ⟨h1, h2, h3, h4⟩ := H
  have q := RowS_at R a0 a1
  have e := encD_at (r := r) (x := a) ⟨a0, a1⟩
  have e2 : mI (encD r) a = encD r (a + 8).toNat := rfl
  unfold WdOK at q
  have u : ∀ x, -8 ≤ x → mI (encD v2) x = if x = a then 3047 else mI (encD v) x := fun x x0 => by
    rw [encD_hold K ⟨a0, a1⟩, mI_upd a0 x0]
    rfl
  have w : ∀ c' k', -8 ≤ aI fo c' + 1 + k' → WkF sr co fo r v live c' k' → WkF sr co fo r v2 live c' k' := fun c' k' x0 W s t p => by
    unfold PtT at p
    rw [u _ x0] at p
    by_cases z : aI fo c' + 1 + k' = a
    · rw [if_pos z] at p; omega
    · rw [if_neg z] at p; exact W s t p
  have low : ∀ c' k', FlB g r fo c' k' → 0 ≤ k' → -8 ≤ aI fo c' + 1 + k' → True := fun _ _ _ _ _ => trivial
  refine ⟨fun x hx => ?_, RowS_hold h2 K (by unfold WdOK; omega), fun c' c0 c1 l k' k0 F => ?_, fun l k' k0 k1 F => ?_⟩
  · rw [u x hx.1]
    by_cases z : x = a
    · rw [if_pos z, z]; exact Or.inr ⟨by omega, by omega, rfl⟩
    · rw [if_neg z]; exact h1 x hx
  · intro s t p
    rcases (by omega : -8 ≤ aI fo c' + 1 + k' ∨ aI fo c' + 1 + k' < -8) with z | z
    · exact w c' k' z (h3 c' c0 c1 l k' k0 F) s t p
    · have ez : mI (encD v2) (aI fo c' + 1 + k') = mI (encD v2) (-8) := by
        unfold mI; congr 1; omega
      have ez2 : mI (encD v) (aI fo c' + 1 + k') = mI (encD v) (-8) := by
        unfold mI; congr 1; omega
      unfold PtT at p
      rw [ez, u (-8) (by omega)] at p
      by_cases y : (-8 : Int) = a
      · rw [if_pos y] at p; omega
      · rw [if_neg y] at p
        exact h3 c' c0 c1 l k' k0 F s t (by unfold PtT; rw [ez2]; exact p)
  · rcases (by omega : k' < k ∨ k' = k) with y | y
    · intro s t p
      rcases (by omega : -8 ≤ aI fo c + 1 + k' ∨ aI fo c + 1 + k' < -8) with z | z
      · exact w c k' z (h4 l k' k0 y F) s t p
      · omega
    · subst y
      intro s t p
      unfold PtT at p
      rw [u _ (by omega), if_pos ha.symm] at p
      omega
theorem LvS_cong {fl M M2 lv : Int → Int} {lim w m : Int} (S : LvS fl M lv lim w m) (e : ∀ i, 0 ≤ i → i < m → M2 (lv i) = M (lv i)) : LvS fl M2 lv lim w m := ⟨S.1, S.2.1, S.2.2.1, fun i i0 i1 h => by rw [e i i0 i1] at h ⊢; exact S.2.2.2.1 i i0 i1 h, fun i i0 i1 h => S.2.2.2.2 i i0 i1 (by rw [← e i i0 i1]; exact h)⟩
theorem Plan_of {cnt : Int} {g sr co fo r lv : Nat → Int} {w n m bl : Int} (H : NwI cnt g sr r w) (L : LyS co fo r w n) (A : LvP g sr r lv w m) (hb : bl = ub (aI lv) m.toNat) : Plan cnt (flN g) (encD r) lv (r (1 : Int).toNat) w m bl := by
  have b := VM_box H.2.1
  refine ⟨VM_cong H.2.1 (fun x hx => encD_mE hx), LvS_cong (LvS_of H A) (fun i i0 i1 => ?_), hb, fun x x0 x1 => ?_⟩
  · have p := A.2.1 i i0 i1
    exact encD_mE ⟨by omega, by omega⟩
  · have k := RegL_of H L A x x0 x1
    unfold PtL at k ⊢
    rw [encD_mE ⟨x0, by omega⟩]
    exact k
theorem SrM_of {cnt : Int} {g sr r v : Nat → Int} {w : Int} (H : NwI cnt g sr r w) (S : SrN g sr r w) (V : WkR r v) : SrM g sr (r (1 : Int).toNat) w (mI (encD v)) := by
  have b := VM_box H.2.1
  intro h k h0 h1 h2 k0 k1 q
  have e : mI (encD v) h = mE r h := by
    rcases V h ⟨by omega, by omega⟩ with z | z
    · rw [z]; exact encD_mE ⟨by omega, by omega⟩
    · omega
  rw [e] at h2 k1 q
  have hh := Nw_head H h0 h1 h2
  have v := VM_at H.2.1 h0 h1 h2
  have k1' : k < flN g (enc r (h + 8).toNat - 5096).toNat := k1
  have z := S h k ⟨h0, h1, h2, k0, k1⟩ q
  have dx : Dm (h + 1 + k) := ⟨by omega, by omega⟩
  have ex := encD_mE (r := r) dx
  have ey : mE r (h + 1 + k) = enc r (h + 1 + k + 8).toNat := rfl
  rcases V (h + 1 + k) dx with y | y <;> omega
theorem Wk_end {cnt : Int} {g sr co fo r v live lv ba bw : Nat → Int} {w n m bl c k : Int} (H : NwI cnt g sr r w) (L : LyS co fo r w n) (MS : MkS g sr fo r live n) (MF : MkF g sr fo r live n (-1) (-1)) (S : SrN g sr r w) (A : LvP g sr r lv w m) (B : BkT ba bw lv m bl) (hsr : ∀ j : Nat, j < 72 → 0 ≤ sr j ∧ sr j ≤ 2) (W : WkI g sr co fo r v live c k) (hc : n ≤ c) : MdV cnt g sr r v lv w m bl 1 := by
  have b := VM_box H.2.1
  have hm := H.2.2.1.1
  have P := Plan_of H L A B.1
  have M0 := rq_Mid_begin (meth := r (0 : Int).toNat) (SrM_of H S (v := r) (fun x hx => Or.inl rfl)) P
  have C : CW (encD r) (encD v) lv (r (1 : Int).toNat) w m w w := by
    refine ⟨W.1, fun j j0 j1 jw p1 p2 => ?_, Or.inl rfl, Int.le_refl _⟩
    have p := A.2.1 j j0 j1
    obtain ⟨hh, d1, d2⟩ := p.2.2
    have da : Dm (aI lv j) := ⟨by omega, by omega⟩
    have ev : mI (encD v) (aI lv j) = mE r (aI lv j) := by
      rcases W.1 _ da with z | z
      · rw [z]; exact encD_mE da
      · omega
    rw [ev] at p1 p2 ⊢
    have q := LyS_co L p.1 p.2.1 (x := aI co (aI lv j)) rfl
    have eh := HdOf_uq d1 q.2.2
    have lc := MF rfl rfl _ q.1 q.2.1 (by rw [← eh]; exact d2)
    have fo' := LyS_fo L q.1 q.2.1 (x := aI fo (aI co (aI lv j))) rfl
    rw [← eh] at fo'
    have hN := Nw_head H fo'.1 fo'.2.1 fo'.2.2
    have hC := Nw_cell H fo'.1 fo'.2.1 fo'.2.2
    have lt : hh < aI lv j := by
      rcases (by have := d1.1; omega : hh < aI lv j ∨ hh = aI lv j) with z | z
      · exact z
      · have := d1.2.1; rw [z] at this; omega
    have kf : aI lv j - hh - 1 < g (r (2 * hh + 103).toNat + 6).toNat := by
      rcases (by omega : aI lv j - hh - 1 < g (r (2 * hh + 103).toNat + 6).toNat ∨ g (r (2 * hh + 103).toNat + 6).toNat ≤ aI lv j - hh - 1) with z | z
      · exact z
      · have x := hC.2 (by omega)
        have y := d1.2.2 (hh + g (r (2 * hh + 103).toNat + 6).toNat + 1) (by omega) (by omega)
        omega
    have en := enc_at (r := r) (x := hh) (by omega)
    have em : mE r hh = enc r (hh + 8).toNat := rfl
    have ek : mE r hh - 5096 = r (2 * hh + 103).toNat := by omega
    have efl : flN g (mE r hh - 5096).toNat = g (r (2 * hh + 103).toNat + 6).toNat := by
      rw [ek]; unfold flN; congr 1; omega
    have ew := enc_at (r := r) (x := aI lv j) (by omega)
    have ea : mE r (aI lv j) = enc r (aI lv j + 8).toNat := rfl
    have rw' := H.1 (aI lv j) da
    unfold WdOK at rw'
    have pt := Nw_ptr H (a := aI lv j) (Or.inr ⟨p.1, p.2.1⟩) (by omega) (by omega)
    have ht := LyS_co L pt.1 pt.2.1 (x := aI co (r (2 * aI lv j + 103).toNat)) rfl
    have live_t : LvWd (mE r) (flN g) sr (r (2 * aI lv j + 103).toNat) := by
      have bs := hsr (36 + 6 * (mE r hh - 5096) + (aI lv j - hh - 1)).toNat (by omega)
      rcases (by omega : sr (36 + 6 * (mE r hh - 5096) + (aI lv j - hh - 1)).toNat = 0 ∨ sr (36 + 6 * (mE r hh - 5096) + (aI lv j - hh - 1)).toNat = 1 ∨ sr (36 + 6 * (mE r hh - 5096) + (aI lv j - hh - 1)).toNat = 2) with z | z | z
      · have y := S hh (aI lv j - hh - 1) ⟨fo'.1, fo'.2.1, fo'.2.2, by omega, by show _ < flN g (mE r hh - 5096).toNat; rw [efl]; exact kf⟩ z
        rw [(by omega : hh + 1 + (aI lv j - hh - 1) + 8 = aI lv j + 8)] at y
        omega
      · exact ⟨_, ht.2.2, Rch_cl.2 hh (aI lv j) _ _ d2 fo'.2.2 ⟨aI lv j - hh - 1, by omega, by rw [efl]; exact kf, z, by omega⟩ pt.2.2 ht.2.2⟩
      · have wf := W.2.2.1 (aI co (aI lv j)) q.1 (by omega) lc (aI lv j - hh - 1) (by omega) (by
          unfold FlB
          have e0 : fo (aI co (aI lv j)).toNat = hh := eh.symm
          rw [e0]; exact kf)
        have l1 := wf (by rw [← eh]; exact z) (r (2 * aI lv j + 103).toNat) (by
          rw [← eh, (by omega : hh + 1 + (aI lv j - hh - 1) = aI lv j)]
          have := pt.2.2
          unfold PtT at this ⊢
          rw [ev]; exact this)
        exact ⟨_, ht.2.2, MS _ ht.1 ht.2.1 l1⟩
    obtain ⟨i, i0, i1, i2⟩ := A.2.2.2 _ pt.1 pt.2.1 live_t
    refine ⟨i, i0, i1, ?_⟩
    have := pt.2.2
    unfold PtT at this
    omega
  have z := rq_CW_end M0 C (Int.le_refl _) (by omega) (SrM_of H S W.1)
  unfold rq_Mid1 at z
  rw [(by omega : (0 : Int) + 1 = 1)] at z
  exact ⟨z, W.2.1⟩
theorem WkF_sort2 {sr co fo r v live : Nat → Int} {c k x kd y : Int} (hx : x = fo c.toNat) (hk : mE r x = 5096 + kd) (hy : y = sr (6 * kd + k + 36).toNat) (h : ¬ y = 2) : WkF sr co fo r v live c k := by
  have e : aI fo c = x := hx.symm
  refine WkF_sort (y := y) ?_ h
  rw [e, hk, hy]
  congr 2
  omega
theorem FlB_lt {g r fo : Nat → Int} {c kd f k : Int} (K : KdR r fo c kd) (hf : f = g (kd + 6).toNat) (h : f ≤ k) : ∀ k', FlB g r fo c k' → k' < k := fun k' F => by
  unfold FlB at F
  unfold KdR at K
  rw [← K, ← hf] at F
  omega
theorem Cf_pos {cnt : Int} {g sr co r : Nat → Int} {w a z : Int} (H : NwI cnt g sr r w) (C : CfR co r w a z) (ha : r (1 : Int).toNat ≤ a ∧ a < w) (s1 : r (2 * a + 102).toNat = 1) (n1 : ¬ r (2 * a + 103).toNat = -1) (hco : z = -1 ∨ 0 ≤ z) (L : ∀ t, r (1 : Int).toNat ≤ t → t < w → 0 ≤ aI co t) : 0 ≤ z := by
  have p := Nw_ptr H (Or.inr ha) s1 n1
  rcases C with ⟨_, c⟩ | ⟨t, _, c2, c3, c4⟩
  · exact absurd p.2.2 (c _)
  · have := L t c3 c4; omega
theorem LyS_pos {co fo r : Nat → Int} {w n : Int} (L : LyS co fo r w n) : ∀ t, r (1 : Int).toNat ≤ t → t < w → 0 ≤ aI co t := fun _ a b => (LyS_co L a b rfl).1
