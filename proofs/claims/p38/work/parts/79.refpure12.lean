def TgA (cnt : Int) (g sr r v lv : Nat → Int) (w m bl a : Int) : Prop := r (0 : Int).toNat = 0 ∧ ∃ d, 1 ≤ d ∧ d ≤ 8 ∧ a = d - 9 ∧ MdV cnt g sr r v lv w m bl d
def TgB (cnt : Int) (g sr r v lv : Nat → Int) (w m bl a : Int) : Prop := ∃ d, 1 ≤ d ∧ d ≤ 8 ∧ a = d - 9 ∧ MdV cnt g sr r v lv w m bl (d + 1)
theorem TgA_ne {cnt : Int} {g sr r v lv : Nat → Int} {w m bl a : Int} (A : TgA cnt g sr r v lv w m bl a) : NeP v a := by
  obtain ⟨_, d, d0, d1, d2, _, R⟩ := A
  intro s1 n1 e
  have k := RowS_at R (a := a) (by omega) (by omega)
  unfold WdOK at k
  omega
theorem TgB_of {cnt : Int} {g sr r v v2 lv : Nat → Int} {w m bl a : Int} (A : TgA cnt g sr r v lv w m bl a) (T : TdR v v2 a) (R2 : RowS v2) : TgB cnt g sr r v2 lv w m bl a := by
  obtain ⟨h0, d, d0, d1, d2, M, R⟩ := A
  rcases T with ⟨t1, t2⟩ | ⟨t1, t2, t3⟩
  · subst t2
    exact ⟨d, d0, d1, d2, rq_Mid_reg M h0 d0 d1 d2 rfl t1, R⟩
  · exact ⟨d, d0, d1, d2, rq_Mid_reg1 M h0 d0 d1 d2 rfl t1 t2 rfl t3, R2⟩
theorem MdV_inj {cnt : Int} {g sr r v lv : Nat → Int} {w m bl d i j : Int} (M : MdV cnt g sr r v lv w m bl d) (i0 : 0 ≤ i) (i1 : i < m) (j0 : 0 ≤ j) (j1 : j < m) (e : lv i.toNat = lv j.toNat) : i = j := by
  obtain ⟨M0, _, hL, hS, _⟩ := M.1
  exact LvS_inj hS i0 i1 j0 j1 e
theorem TgB_to {cnt : Int} {g sr r v lv : Nat → Int} {w m bl a k : Int} (B : TgB cnt g sr r v lv w m bl a) (h : a = k - 10) : MdV cnt g sr r v lv w m bl k := by
  obtain ⟨d, d0, d1, d2, M⟩ := B
  rw [(by omega : d + 1 = k)] at M
  exact M
theorem FwB_to {cnt : Int} {g sr r v lv : Nat → Int} {w m bl a k : Int} (B : FwB cnt g sr r v lv w m bl a) (h : a = lv (k - 10).toNat) (k0 : 10 ≤ k) (k1 : k ≤ 9 + m) : MdV cnt g sr r v lv w m bl k := by
  obtain ⟨d, d0, d1, d2, M⟩ := B
  have e := MdV_inj M (i := d - 9) (j := k - 10) (by omega) (by omega) (by omega) (by omega) (by rw [← d2, ← h])
  rw [(by omega : d + 1 = k)] at M
  exact M
theorem BwB_to {cnt : Int} {g sr r v lv : Nat → Int} {w m bl a k : Int} (B : BwB cnt g sr r v lv w m bl a) (h : a = lv (9 + 2 * m - k).toNat) (k0 : 10 + m ≤ k) (k1 : k ≤ 9 + 2 * m) : MdV cnt g sr r v lv w m bl k := by
  obtain ⟨d, d0, d1, d2, M⟩ := B
  have e := MdV_inj M (i := -d + 2 * m + 8) (j := 9 + 2 * m - k) (by omega) (by omega) (by omega) (by omega) (by rw [← d2, ← h])
  rw [(by omega : d + 1 = k)] at M
  exact M
theorem BgB_to {cnt : Int} {g sr r v lv : Nat → Int} {w m bl b k : Int} (B : BgB cnt g sr r v lv w m bl b) (h : b = bl + 1 - k) : MdV cnt g sr r v lv w m bl k := by
  obtain ⟨d, d0, d1, d2, M⟩ := B
  rw [(by omega : d + 1 = k)] at M
  exact M
theorem RiB_to {cnt : Int} {g sr r v lv : Nat → Int} {w m bl a k : Int} (B : RiB cnt g sr r v lv w m bl a) (m0 : 0 ≤ m) (mw : m ≤ w) (h : (2 + bl ≤ k ∧ k ≤ 9 + bl ∧ a = k - 10 - bl) ∨ (10 + bl ≤ k ∧ k ≤ 9 + bl + m ∧ a = w - m + k - 10 - bl)) : MdV cnt g sr r v lv w m bl k := by
  obtain ⟨d, dA, M⟩ := B
  unfold RsA at dA
  rw [(by omega : d + 1 = k)] at M
  exact M
