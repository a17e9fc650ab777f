def encD (r : Nat → Int) : Nat → Int := fun j => if j < 168 then enc r j else 0
theorem encD_at {r : Nat → Int} {x : Int} (h : Dm x) : encD r (x + 8).toNat = 2048 * r (2 * x + 102).toNat + 1000 + r (2 * x + 103).toNat := by
  have h0 := h.1
  have h1 := h.2
  unfold encD
  rw [if_pos (by omega), enc_at h0]
theorem encD_mE {r : Nat → Int} {x : Int} (h : Dm x) : mI (encD r) x = mE r x := by
  have h0 := h.1
  have h1 := h.2
  show encD r (x + 8).toNat = enc r (x + 8).toNat
  unfold encD
  rw [if_pos (by omega)]
theorem encD_hold {r r2 : Nat → Int} {a s n : Int} (H : HldR r r2 a s n) (ha : Dm a) : encD r2 = updI (encD r) (a + 8).toNat (2048 * s + 1000 + n) := by
  funext j
  have h0 := ha.1
  have h1 := ha.2
  by_cases hj : j < 168
  · have e := HldR_enc H ⟨h0, h1⟩ ((j : Int) - 8) ⟨by omega, by omega⟩
    have ej : ((j : Int) - 8 + 8).toNat = j := by omega
    rw [ej] at e
    have l : encD r2 j = enc r2 j := by unfold encD; rw [if_pos hj]
    rw [l, e]
    unfold updI encD
    rw [if_pos hj]
  · have l : encD r2 j = 0 := by unfold encD; rw [if_neg hj]
    rw [l]
    unfold updI encD
    rw [if_neg hj, if_neg (by omega)]
theorem encD_tk {r r2 : Nat → Int} {a b : Int} (T : TkvR r r2 a b) (ha : Dm a) (hb : Dm b) : encD r2 = updI (encD r) (a + 8).toNat (encD r (b + 8).toNat) := by
  rw [encD_hold T ha, encD_at hb]
theorem RowS_tk {r r2 : Nat → Int} {a b : Int} (R : RowS r) (T : TkvR r r2 a b) (hb : Dm b) : RowS r2 := RowS_hold R T (R b hb)
theorem RowS_at {r : Nat → Int} {a : Int} (R : RowS r) (h0 : -8 ≤ a) (h1 : a < 160) : WdOK (r (2 * a + 102).toNat) (r (2 * a + 103).toNat) := R a ⟨h0, h1⟩
theorem RowS_num {r : Nat → Int} {a : Int} (R : RowS r) (h0 : -8 ≤ a) (h1 : a < 160) : -1000 ≤ r (2 * a + 103).toNat ∧ r (2 * a + 103).toNat ≤ 999 ∧ (r (2 * a + 102).toNat = 1 → -1 ≤ r (2 * a + 103).toNat ∧ r (2 * a + 103).toNat ≤ 159) ∧ (r (2 * a + 102).toNat = 3 → -8 ≤ r (2 * a + 103).toNat ∧ r (2 * a + 103).toNat ≤ 159) := by
  have k := RowS_at R h0 h1
  unfold WdOK at k
  omega
def NeP (r : Nat → Int) (a : Int) : Prop := r (2 * a + 102).toNat = 1 → ¬ r (2 * a + 103).toNat = -1 → ¬ r (2 * a + 103).toNat = a
def TdR (r r2 : Nat → Int) (a : Int) : Prop := ((encD r (a + 8).toNat ≤ 3047 ∨ 5096 ≤ encD r (a + 8).toNat) ∧ r2 = r) ∨ (3048 ≤ encD r (a + 8).toNat ∧ encD r (a + 8).toNat ≤ 3207 ∧ ThR (encD r) (encD r2) a (encD r (a + 8).toNat - 3048))
theorem TdR_no {r : Nat → Int} {a : Int} (R : RowS r) (h0 : -8 ≤ a) (h1 : a < 160) (h : ¬ r (2 * a + 102).toNat = 1 ∨ r (2 * a + 103).toNat = -1) : TdR r r a := by
  have k := RowS_at R h0 h1
  have e := encD_at (r := r) (x := a) ⟨h0, h1⟩
  unfold WdOK at k
  exact Or.inl ⟨by omega, rfl⟩
theorem TdR_yes {r r1 r2 : Nat → Int} {a t : Int} (R : RowS r) (N : NeP r a) (h0 : -8 ≤ a) (h1 : a < 160) (s1 : r (2 * a + 102).toNat = 1) (n1 : ¬ r (2 * a + 103).toNat = -1) (ht : t = r (2 * a + 103).toNat) (T : TkvR r r1 a t) (H : HldR r1 r2 t 3 a) : TdR r r2 a ∧ RowS r2 := by
  have k := RowS_at R h0 h1
  have e := encD_at (r := r) (x := a) ⟨h0, h1⟩
  have n := N s1 n1
  unfold WdOK at k
  have dt : Dm t := ⟨by omega, by omega⟩
  have da : Dm a := ⟨h0, h1⟩
  refine ⟨Or.inr ⟨by omega, by omega, ?_⟩, RowS_hold (RowS_tk R T dt) H (by unfold WdOK; omega)⟩
  rw [(by omega : encD r (a + 8).toNat - 3048 = t)]
  refine ThR_mk (x := encD r (t + 8).toNat) h0 (by omega) (by omega) rfl (encD_tk T da dt) ?_
  rw [encD_hold H dt]
  congr 1
  omega
def ChV (v : Nat → Int) (a : Int) : Prop := ChE (encD v) a
def UnV (v v2 : Nat → Int) (t x : Int) : Prop := UnR (encD v) (encD v2) t x
def UnJ (v0 v : Nat → Int) (t x : Int) : Prop := ∃ n, UnI (encD v0) (encD v) t x n
theorem UnJ_init {v : Nat → Int} {t x : Int} (h : ChV v t) : UnJ v v t x := ⟨0, UnI_init h⟩
def lkC (g : Nat → Int) : Nat → Int
  | 0 => 0
  | n + 1 => lkC g n + (if 7136 ≤ g n then 1 else 0)
theorem lkC_pos (g : Nat → Int) : ∀ n : Nat, 0 ≤ lkC g n
  | 0 => Int.le_refl _
  | n + 1 => by
    have h := lkC_pos g n
    rw [lkC]
    split <;> omega
theorem lkC_same {g g2 : Nat → Int} : ∀ n : Nat, (∀ j, j < n → g2 j = g j) → lkC g2 n = lkC g n
  | 0, _ => rfl
  | n + 1, h => by rw [lkC, lkC, lkC_same n (fun j hj => h j (by omega)), h n (by omega)]
theorem lkC_upd {g : Nat → Int} {i : Nat} {v : Int} : ∀ n : Nat, i < n → lkC (updI g i v) n = lkC g n - (if 7136 ≤ g i then 1 else 0) + (if 7136 ≤ v then 1 else 0)
  | 0, h => absurd h (Nat.not_lt_zero i)
  | n + 1, h => by
    rcases (by omega : i < n ∨ i = n) with q | q
    · rw [lkC, lkC, lkC_upd n q]
      have : updI g i v n = g n := by unfold updI; rw [if_neg (by omega)]
      rw [this]
      omega
    · subst q
      rw [lkC, lkC, lkC_same i (fun j hj => by unfold updI; rw [if_neg (by omega)])]
      have : updI g i v i = v := by unfold updI; rw [if_pos rfl]
      rw [this]
      omega
def lkV (v : Nat → Int) (n : Nat) : Int := lkC (encD v) n
theorem lkV_pos (v : Nat → Int) (n : Nat) : 0 ≤ lkV v n := lkC_pos _ n
theorem UnJ_step {v0 v v1 v2 : Nat → Int} {t x u : Int} (J : UnJ v0 v t x) (R : RowS v) (t0 : 0 ≤ t) (t1 : t < 160) (x0 : -1 ≤ x) (x1 : x ≤ 159) (s3 : v (2 * t + 102).toNat = 3) (hu : u = v (2 * t + 103).toNat) (T : TkvR v v1 t u) (H : HldR v1 v2 u 1 x) : UnJ v0 v2 t x ∧ RowS v2 ∧ lkV v2 168 = lkV v 168 - 1 := by
  obtain ⟨n, J⟩ := J
  have k := RowS_at R (by omega : -8 ≤ t) t1
  have e := encD_at (r := v) (x := t) ⟨by omega, t1⟩
  unfold WdOK at k
  have ex : mI (encD v) t = encD v (t + 8).toNat := rfl
  have hl := UnthI_link J (by rw [ex]; omega)
  rw [ex, (by omega : encD v (t + 8).toNat - 7144 = u)] at hl
  have dt : Dm t := ⟨by omega, t1⟩
  have du : Dm u := hl.1
  have u0 := du.1
  have u1 := du.2
  have e1 := encD_tk T dt du
  have e2 := encD_hold H du
  rw [(by omega : 2048 * 1 + 1000 + x = x + 3048)] at e2
  refine ⟨⟨n + 1, UnI_step (x1 := encD v (t + 8).toNat) (x3 := encD v (u + 8).toNat) J t0 rfl (by omega) (by congr 1; omega) e1 ?_⟩, RowS_hold (RowS_tk R T du) H (by unfold WdOK; omega), ?_⟩
  · rw [e2]
    congr 1
    omega
  · unfold lkV
    rw [e2, lkC_upd 168 (by omega), e1, lkC_upd 168 (by omega)]
    have q : updI (encD v) (t + 8).toNat (encD v (u + 8).toNat) (u + 8).toNat = encD v (u + 8).toNat := by
      unfold updI
      rw [if_neg (by have := hl.2; omega)]
    rw [q, if_pos (by omega : 7136 ≤ encD v (t + 8).toNat), if_neg (by omega : ¬ 7136 ≤ x + 3048)]
    omega
theorem UnJ_end {v0 v : Nat → Int} {t x : Int} (J : UnJ v0 v t x) (R : RowS v) (t0 : 0 ≤ t) (t1 : t < 160) (h : ¬ v (2 * t + 102).toNat = 3) : UnV v0 v t x := by
  obtain ⟨n, J⟩ := J
  have k := RowS_at R (by omega : -8 ≤ t) t1
  have e := encD_at (r := v) (x := t) ⟨by omega, t1⟩
  unfold WdOK at k
  exact UnI_end J (Or.inl (by omega))
def SrM (g sr : Nat → Int) (lim w : Int) (M : Int → Int) : Prop := ∀ h k, lim ≤ h → h < w → 5096 ≤ M h → 0 ≤ k → k < flN g (M h - 5096).toNat → sr (36 + 6 * (M h - 5096) + k).toNat = 0 → M (h + 1 + k) ≤ 3047
def MdV (cnt : Int) (g sr r v lv : Nat → Int) (w m bl d : Int) : Prop := rq_Mid (SrM g sr (r (1 : Int).toNat) w) cnt (flN g) (encD v) lv (r (1 : Int).toNat) w m bl (r (0 : Int).toNat) d ∧ RowS v
def FwA (cnt : Int) (g sr r v lv : Nat → Int) (w m bl a : Int) : Prop := r (0 : Int).toNat = 0 ∧ ∃ d, 9 ≤ d ∧ d ≤ 8 + m ∧ a = lv (d - 9).toNat ∧ MdV cnt g sr r v lv w m bl d
def FwB (cnt : Int) (g sr r v lv : Nat → Int) (w m bl a : Int) : Prop := ∃ d, 9 ≤ d ∧ d ≤ 8 + m ∧ a = lv (d - 9).toNat ∧ MdV cnt g sr r v lv w m bl (d + 1)
def BwA (cnt : Int) (g sr r v lv : Nat → Int) (w m bl a : Int) : Prop := r (0 : Int).toNat = 0 ∧ ∃ d, 9 + m ≤ d ∧ d ≤ 8 + 2 * m ∧ a = lv (-d + 2 * m + 8).toNat ∧ MdV cnt g sr r v lv w m bl d
def BwB (cnt : Int) (g sr r v lv : Nat → Int) (w m bl a : Int) : Prop := ∃ d, 9 + m ≤ d ∧ d ≤ 8 + 2 * m ∧ a = lv (-d + 2 * m + 8).toNat ∧ MdV cnt g sr r v lv w m bl (d + 1)
theorem FwA_in {cnt : Int} {g sr r v lv gt : Nat → Int} {w m bl a z : Int} (A : FwA cnt g sr r v lv w m bl a) (G : GtT gt lv w m) (hz : z = gt a.toNat) (a0 : 0 ≤ a) (a1 : a < w) : ChV v a ∧ RowS v ∧ 0 ≤ z ∧ z < w := by
  obtain ⟨h0, d, d0, d1, da, M, R⟩ := A
  have n := G a a0 a1
  have ez : aI gt a = z := hz.symm
  rw [ez] at n
  have k := rq_Mid_fw_in M h0 d0 d1 da n
  have b := rq_Mid_box M
  exact ⟨k.1, R, by omega, by omega⟩
theorem BwA_in {cnt : Int} {g sr r v lv gt : Nat → Int} {w m bl a z : Int} (A : BwA cnt g sr r v lv w m bl a) (G : GtT gt lv w m) (hz : z = gt a.toNat) (a0 : 0 ≤ a) (a1 : a < w) : ChV v a ∧ RowS v ∧ a ≤ z ∧ z < w := by
  obtain ⟨h0, d, d0, d1, da, M, R⟩ := A
  have n := G a a0 a1
  have ez : aI gt a = z := hz.symm
  rw [ez] at n
  have k := rq_Mid_bw_in M h0 d0 d1 da n
  have b := rq_Mid_box M
  exact ⟨k.1, R, by omega, by omega⟩
theorem FwB_0 {cnt : Int} {g sr r v v1 lv gt : Nat → Int} {w m bl a z : Int} (A : FwA cnt g sr r v lv w m bl a) (G : GtT gt lv w m) (hz : z = gt a.toNat) (a0 : 0 ≤ a) (a1 : a < w) (a2 : a < 160) (U : UnV v v1 a z) (R : RowS v1) (h : ¬ v1 (2 * a + 102).toNat = 1 ∨ v1 (2 * a + 103).toNat < a) : FwB cnt g sr r v1 lv w m bl a := by
  obtain ⟨h0, d, d0, d1, da, M, _⟩ := A
  have n := G a a0 a1
  have ez : aI gt a = z := hz.symm
  rw [ez] at n
  have k := rq_Mid_fw_in M h0 d0 d1 da n
  have q := RowS_at R (by omega : -8 ≤ a) a2
  have e := encD_at (r := v1) (x := a) ⟨by omega, a2⟩
  unfold WdOK at q
  exact ⟨d, d0, d1, da, rq_Mid_fw0 M h0 d0 d1 da k.2 U rfl (by omega), R⟩
theorem FwB_1 {cnt : Int} {g sr r v v1 v2 lv gt : Nat → Int} {w m bl a z : Int} (A : FwA cnt g sr r v lv w m bl a) (G : GtT gt lv w m) (hz : z = gt a.toNat) (a0 : 0 ≤ a) (a1 : a < w) (a2 : a < 160) (U : UnV v v1 a z) (R : RowS v1) (s1 : v1 (2 * a + 102).toNat = 1) (h : a < v1 (2 * a + 103).toNat) (T : TdR v1 v2 a) (R2 : RowS v2) : FwB cnt g sr r v2 lv w m bl a := by
  obtain ⟨h0, d, d0, d1, da, M, _⟩ := A
  have n := G a a0 a1
  have ez : aI gt a = z := hz.symm
  rw [ez] at n
  have k := rq_Mid_fw_in M h0 d0 d1 da n
  have q := RowS_at R (by omega : -8 ≤ a) a2
  have e := encD_at (r := v1) (x := a) ⟨by omega, a2⟩
  unfold WdOK at q
  rcases T with ⟨t1, _⟩ | ⟨t1, t2, t3⟩
  · omega
  · exact ⟨d, d0, d1, da, rq_Mid_fw1 M h0 d0 d1 da k.2 U rfl t1 t2 rfl (by omega) t3, R2⟩
theorem FwB_2 {cnt : Int} {g sr r v v1 v2 lv gt : Nat → Int} {w m bl a z z2 : Int} (A : FwA cnt g sr r v lv w m bl a) (G : GtT gt lv w m) (hz : z = gt a.toNat) (a0 : 0 ≤ a) (a1 : a < w) (a2 : a < 160) (w1 : w ≤ 160) (U : UnV v v1 a z) (R : RowS v1) (s1 : v1 (2 * a + 102).toNat = 1) (h : v1 (2 * a + 103).toNat = a) (hz2 : z2 = z) (H : HldR v1 v2 a 1 z2) : FwB cnt g sr r v2 lv w m bl a := by
  have i := FwA_in A G hz a0 a1
  obtain ⟨h0, d, d0, d1, da, M, _⟩ := A
  have n := G a a0 a1
  have ez : aI gt a = z := hz.symm
  rw [ez] at n
  have k := rq_Mid_fw_in M h0 d0 d1 da n
  have q := RowS_at R (by omega : -8 ≤ a) a2
  have e := encD_at (r := v1) (x := a) ⟨by omega, a2⟩
  unfold WdOK at q
  subst hz2
  have e5 := encD_hold H ⟨by omega, a2⟩
  rw [(by omega : 2048 * 1 + 1000 + z2 = z2 + 3048)] at e5
  exact ⟨d, d0, d1, da, rq_Mid_fw2 M h0 d0 d1 da a0 k.2 U rfl (by omega) (by omega) e5, RowS_hold R H (by unfold WdOK; omega)⟩
theorem Tkv_self {v1 v2 : Nat → Int} {z a : Int} (T : TkvR v1 v2 z a) (ha : Dm a) : v2 (2 * a + 102).toNat = v1 (2 * a + 102).toNat ∧ v2 (2 * a + 103).toNat = v1 (2 * a + 103).toNat := by
  by_cases e : a = z
  · subst e; exact T.2.1
  · exact T.2.2 a ha e
theorem Bw_ne {v1 v2 : Nat → Int} {a z : Int} (T : TkvR v1 v2 z a) (a0 : -8 ≤ a) (a2 : a < 160) (h : v2 (2 * a + 103).toNat < a) (hz : a ≤ z) : NeP v2 z := fun _ _ q => by
  have k := Tkv_self T ⟨a0, a2⟩
  have e := T.2.1.2
  omega
theorem BwB_0 {cnt : Int} {g sr r v v1 v2 lv gt : Nat → Int} {w m bl a z z2 : Int} (A : BwA cnt g sr r v lv w m bl a) (G : GtT gt lv w m) (hz : z = gt a.toNat) (a0 : 0 ≤ a) (a1 : a < w) (w1 : w ≤ 160) (U : UnV v v1 a z) (R : RowS v1) (hz2 : z2 = z) (T : TkvR v1 v2 z2 a) (h : ¬ v2 (2 * a + 102).toNat = 1 ∨ a ≤ v2 (2 * a + 103).toNat ∨ v2 (2 * a + 103).toNat = -1) : BwB cnt g sr r v2 lv w m bl a := by
  have i := BwA_in A G hz a0 a1
  obtain ⟨h0, d, d0, d1, da, M, _⟩ := A
  have n := G a a0 a1
  have ez : aI gt a = z := hz.symm
  rw [ez] at n
  have k := rq_Mid_bw_in M h0 d0 d1 da n
  have q := RowS_at R (by omega : -8 ≤ a) (by omega)
  have e := encD_at (r := v1) (x := a) ⟨by omega, by omega⟩
  unfold WdOK at q
  subst hz2
  have s := Tkv_self T ⟨by omega, by omega⟩
  have dz : Dm z2 := ⟨by omega, by omega⟩
  have daa : Dm a := ⟨by omega, by omega⟩
  exact ⟨d, d0, d1, da, rq_Mid_bw M h0 d0 d1 da a0 k.2.1 k.2.2 U rfl (encD_tk T dz daa) (Or.inr ⟨by omega, rfl⟩), RowS_tk R T daa⟩
theorem BwB_1 {cnt : Int} {g sr r v v1 v2 v3 lv gt : Nat → Int} {w m bl a z z2 z3 : Int} (A : BwA cnt g sr r v lv w m bl a) (G : GtT gt lv w m) (hz : z = gt a.toNat) (a0 : 0 ≤ a) (a1 : a < w) (w1 : w ≤ 160) (U : UnV v v1 a z) (R : RowS v1) (hz2 : z2 = z) (T : TkvR v1 v2 z2 a) (s1 : v2 (2 * a + 102).toNat = 1) (n0 : ¬ v2 (2 * a + 103).toNat = -1) (n1 : v2 (2 * a + 103).toNat < a) (hz3 : z3 = z) (D : TdR v2 v3 z3) (R3 : RowS v3) : BwB cnt g sr r v3 lv w m bl a := by
  have i := BwA_in A G hz a0 a1
  obtain ⟨h0, d, d0, d1, da, M, _⟩ := A
  have n := G a a0 a1
  have ez : aI gt a = z := hz.symm
  rw [ez] at n
  have k := rq_Mid_bw_in M h0 d0 d1 da n
  have q := RowS_at R (by omega : -8 ≤ a) (by omega)
  have e := encD_at (r := v1) (x := a) ⟨by omega, by omega⟩
  unfold WdOK at q
  subst hz2
  subst hz3
  have s := Tkv_self T ⟨by omega, by omega⟩
  have dz : Dm z3 := ⟨by omega, by omega⟩
  have daa : Dm a := ⟨by omega, by omega⟩
  have e2 := encD_at (r := v2) (x := z3) dz
  have t1 := T.2.1.1
  have t2 := T.2.1.2
  refine ⟨d, d0, d1, da, rq_Mid_bw M h0 d0 d1 da a0 k.2.1 k.2.2 U rfl (encD_tk T dz daa) (Or.inl ⟨by omega, by omega, by omega, ?_⟩), R3⟩
  rcases D with ⟨d1, _⟩ | ⟨d1, d2, d3⟩
  · omega
  · rw [(by omega : encD v1 (a + 8).toNat - 3048 = encD v2 (z3 + 8).toNat - 3048)]
    exact d3
