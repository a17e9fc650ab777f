def Pl (lo w v : Int) : Prop := (0 ≤ v ∧ v ≤ 1999) ∨ v = 3047 ∨ (3048 + lo ≤ v ∧ v < 3048 + w)
def LHd (cnt : Int) (fl M : Int → Int) (w a : Int) : Prop := 5096 ≤ M a ∧ M a < 5096 + cnt ∧ (1 ≤ fl (M a - 5096) ∧ fl (M a - 5096) ≤ 6) ∧ a + fl (M a - 5096) + 1 ≤ w ∧ (∀ j, 1 ≤ j → j ≤ fl (M a - 5096) → M (a + j) < 5096) ∧ (a + fl (M a - 5096) + 1 < w → 5096 ≤ M (a + fl (M a - 5096) + 1))
def Lay (cnt : Int) (fl M : Int → Int) (lim w : Int) : Prop := (0 ≤ lim ∧ lim ≤ w ∧ w ≤ 160 ∧ cnt ≤ 6) ∧ (∀ r, -8 ≤ r → r < 0 → Pl lim w (M r)) ∧ (∀ a, lim ≤ a → a < w → Pl lim w (M a) ∨ LHd cnt fl M w a) ∧ (lim < w → 5096 ≤ M lim)
def LvS (fl M lv : Int → Int) (lim w m : Int) : Prop := 0 ≤ m ∧ (∀ i, 0 ≤ i → i < m → lim ≤ lv i ∧ lv i < w) ∧ (∀ i, 0 ≤ i → i + 1 < m → lv i < lv (i + 1)) ∧ (∀ i, 0 ≤ i → i < m → 5096 ≤ M (lv i) → ∀ j, 1 ≤ j → j ≤ fl (M (lv i) - 5096) → i + j < m ∧ lv (i + j) = lv i + j) ∧ (∀ i, 0 ≤ i → i < m → M (lv i) < 5096 → 1 ≤ i ∧ lv (i - 1) = lv i - 1)
theorem Pl_lt {lo w v : Int} (h : Pl lo w v) (hw : w ≤ 160) : v < 5096 := by
  unfold Pl at h
  omega
theorem LvS_gap {fl M lv : Int → Int} {lim w m : Int} (h : LvS fl M lv lim w m) : ∀ (n : Nat) (i : Int), 0 ≤ i → i + n < m → lv i + n ≤ lv (i + n) := by
  intro n
  induction n with
  | zero => intro i h0 h1; simp
  | succ n ih =>
    intro i h0 h1
    have h2 := ih i h0 (by omega)
    have h3 := h.2.2.1 (i + n) (by omega) (by omega)
    have e : i + ((n + 1 : Nat) : Int) = i + n + 1 := by omega
    rw [e]
    omega
theorem LvS_lt {fl M lv : Int → Int} {lim w m : Int} (h : LvS fl M lv lim w m) {i j : Int} (h0 : 0 ≤ i) (h1 : i < j) (h2 : j < m) : lv i < lv j := by
  have h3 := LvS_gap h (j - i).toNat i h0 (by omega)
  have e : i + ((j - i).toNat : Int) = j := by omega
  rw [e] at h3
  omega
theorem LvS_inj {fl M lv : Int → Int} {lim w m : Int} (h : LvS fl M lv lim w m) {i j : Int} (h0 : 0 ≤ i) (h1 : i < m) (h2 : 0 ≤ j) (h3 : j < m) (e : lv i = lv j) : i = j := by
  rcases (by omega : i < j ∨ i = j ∨ j < i) with q | q | q
  · have := LvS_lt h h0 q h3
    omega
  · exact q
  · have := LvS_lt h h2 q h1
    omega
theorem LvS_np {fl M lv : Int → Int} {lim w m : Int} (h : LvS fl M lv lim w m) {i : Int} (h0 : 0 ≤ i) (h1 : i < m) : lv i ≤ w - m + i := by
  have h3 := LvS_gap h (m - 1 - i).toNat i h0 (by omega)
  have e : i + ((m - 1 - i).toNat : Int) = m - 1 := by omega
  rw [e] at h3
  have h4 := (h.2.1 (m - 1) (by omega) (by omega)).2
  omega
theorem LvS_m {fl M lv : Int → Int} {lim w m : Int} (h : LvS fl M lv lim w m) (hl : lim ≤ w) : m ≤ w - lim := by
  rcases (by have := h.1; omega : m = 0 ∨ 0 < m) with q | q
  · omega
  · have h1 := LvS_np h (i := 0) (by omega) q
    have h2 := (h.2.1 0 (by omega) q).1
    omega
noncomputable def NPf (lv : Int → Int) (w m t : Int) : Int := w - m + Classical.epsilon (fun k : Int => 0 ≤ k ∧ k < m ∧ lv k = t)
theorem NPf_lv {fl M lv : Int → Int} {lim w m : Int} (h : LvS fl M lv lim w m) {k : Int} (h0 : 0 ≤ k) (h1 : k < m) : NPf lv w m (lv k) = w - m + k := by
  have h2 := Classical.epsilon_spec (p := fun k' : Int => 0 ≤ k' ∧ k' < m ∧ lv k' = lv k) ⟨k, h0, h1, rfl⟩
  unfold NPf
  have h3 := LvS_inj h h2.1 h2.2.1 h0 h1 h2.2.2
  rw [h3]
theorem slide_end {cnt : Int} {fl M N lv : Int → Int} {lim w m : Int} (hL : Lay cnt fl M lim w) (hS : LvS fl M lv lim w m) (e1 : ∀ r, -8 ≤ r → r < 0 → Pl (w - m) w (N r)) (e2 : ∀ k, 0 ≤ k → k < m → (5096 ≤ M (lv k) → N (w - m + k) = M (lv k)) ∧ (M (lv k) < 5096 → Pl (w - m) w (N (w - m + k)))) : Lay cnt fl N (w - m) w := by
  obtain ⟨⟨a0, a1, a2, a3⟩, aR, aW, aF⟩ := hL
  have hm := LvS_m hS a1
  have hm0 := hS.1
  refine ⟨⟨by omega, by omega, a2, a3⟩, e1, ?_, ?_⟩
  · intro a h0 h1
    have ek : w - m + (a - (w - m)) = a := by omega
    have hk0 : 0 ≤ a - (w - m) := by omega
    have hk1 : a - (w - m) < m := by omega
    have q := e2 (a - (w - m)) hk0 hk1
    have hr := hS.2.1 _ hk0 hk1
    rw [ek] at q
    generalize hkk : a - (w - m) = k at *
    by_cases hh : 5096 ≤ M (lv k)
    · right
      have hN := q.1 hh
      have hd : LHd cnt fl M w (lv k) := by
        rcases aW (lv k) hr.1 hr.2 with z | z
        · have := Pl_lt z a2
          omega
        · exact z
      obtain ⟨d1, d2, d3, d4, d5, d6⟩ := hd
      have s3 := hS.2.2.2.1 k hk0 hk1 hh
      have s3e := s3 (fl (M (lv k) - 5096)) d3.1 (by omega)
      refine ⟨by rw [hN]; exact d1, by rw [hN]; exact d2, by rw [hN]; exact d3, by rw [hN]; omega, ?_, ?_⟩
      · rw [hN]
        intro j j0 j1
        have sj := s3 j j0 j1
        have qj := e2 (k + j) (by omega) sj.1
        have hlt : M (lv (k + j)) < 5096 := by
          rw [sj.2]
          exact d5 j j0 j1
        have e5 : w - m + (k + j) = a + j := by omega
        rw [e5] at qj
        exact Pl_lt (qj.2 hlt) a2
      · rw [hN]
        intro hlt
        generalize hf : fl (M (lv k) - 5096) = f at *
        have qn := e2 (k + f + 1) (by omega) (by omega)
        have e5 : w - m + (k + f + 1) = a + f + 1 := by omega
        rw [e5] at qn
        by_cases hz : 5096 ≤ M (lv (k + f + 1))
        · rw [qn.1 hz]
          exact hz
        · exfalso
          have s4 := hS.2.2.2.2 (k + f + 1) (by omega) (by omega) (by omega)
          have e6 : k + f + 1 - 1 = k + f := by omega
          rw [e6] at s4
          have hr2 := hS.2.1 (k + f + 1) (by omega) (by omega)
          have e7 : lv (k + f + 1) = lv k + f + 1 := by omega
          rw [e7] at hz hr2
          exact hz (d6 hr2.2)
    · left
      exact q.2 (by omega)
  · intro h
    have q := e2 0 (by omega) (by omega)
    have e5 : w - m + 0 = w - m := by omega
    rw [e5] at q
    by_cases hh : 5096 ≤ M (lv 0)
    · rw [q.1 hh]
      exact hh
    · have s4 := hS.2.2.2.2 0 (by omega) (by omega) (by omega)
      omega
def PtL (M lv : Int → Int) (m x : Int) : Prop := 3048 ≤ M x → M x ≤ 3207 → ∃ k, 0 ≤ k ∧ k < m ∧ lv k = M x - 3048
def Mk (M lv : Int → Int) (m : Int) : Prop := (∀ r, -8 ≤ r → r < 0 → PtL M lv m r) ∧ ∀ k, 0 ≤ k → k < m → PtL M lv m (lv k)
def FVl (M0 lv : Int → Int) (w m j v : Int) : Prop := (5096 ≤ M0 (lv j) ∧ v = M0 (lv j)) ∨ (M0 (lv j) < 5096 ∧ ((0 ≤ v ∧ v ≤ 1999) ∨ v = 3047 ∨ (3048 ≤ v ∧ v ≤ 3207 ∧ ((v - 3048 < lv j ∧ ∃ k, 0 ≤ k ∧ k < m ∧ lv k = v - 3048) ∨ (lv j ≤ v - 3048 ∧ w - m ≤ v - 3048 ∧ v - 3048 < w)))))
def DnF (M0 lv : Int → Int) (w m x v : Int) : Prop := (x < 0 ∧ Pl (w - m) w v) ∨ (0 ≤ x ∧ ∃ j, 0 ≤ j ∧ j < m ∧ lv j = x ∧ FVl M0 lv w m j v)
def TsF (lv : Int → Int) (m i x : Int) : Prop := ∃ k, i ≤ k ∧ k < m ∧ lv k = x
def HsF (lv : Int → Int) (r i x : Int) : Prop := (-8 ≤ x ∧ x < r - 8) ∨ ∃ j, 0 ≤ j ∧ j < i ∧ lv j = x
def FwP (M0 M lv : Int → Int) (w m r i : Int) : Prop := TInv M M0 (TsF lv m i) (HsF lv r i) (DnF M0 lv w m) (NPf lv w m) ∧ ∀ x, r - 8 ≤ x → x < 0 → M x = M0 x
def DnB (M0 lv : Int → Int) (w m x v : Int) : Prop := (5096 ≤ M0 (lv (x - (w - m))) → v = M0 (lv (x - (w - m)))) ∧ (M0 (lv (x - (w - m))) < 5096 → Pl (w - m) w v)
def TsB (lv : Int → Int) (i x : Int) : Prop := ∃ k, 0 ≤ k ∧ k < i ∧ lv k = x
def HsB (w m i x : Int) : Prop := w - m + i ≤ x ∧ x < w
def BwP (M0 M lv : Int → Int) (w m i : Int) : Prop := ∃ V : Int → Int, TInv M V (TsB lv i) (HsB w m i) (DnB M0 lv w m) (NPf lv w m) ∧ (∀ k, 0 ≤ k → k < i → FVl M0 lv w m k (V (lv k))) ∧ ∀ r, -8 ≤ r → r < 0 → Pl (w - m) w (M r)
theorem Lay_lt {cnt : Int} {fl M : Int → Int} {lim w a : Int} (hL : Lay cnt fl M lim w) (h0 : -8 ≤ a) (h1 : a < 0 ∨ (lim ≤ a ∧ a < w)) : M a < 5102 := by
  rcases h1 with q | q
  · have := Pl_lt (hL.2.1 a h0 q) hL.1.2.2.1
    omega
  · rcases hL.2.2.1 a q.1 q.2 with z | z
    · have := Pl_lt z hL.1.2.2.1
      omega
    · have h2 := z.2.1
      have h3 := hL.1.2.2.2
      omega
theorem ChG_nil {M : Int → Int} {t : Int} (h : M t < 7136) : ChG M (M t) [] t := ⟨rfl, List.nodup_nil, List.not_mem_nil, fun y hy => absurd hy List.not_mem_nil, h⟩
theorem fw_init {cnt : Int} {fl M lv : Int → Int} {lim w m : Int} (hL : Lay cnt fl M lim w) (hS : LvS fl M lv lim w m) : FwP M M lv w m 0 0 := by
  have hl0 := hL.1.1
  refine ⟨⟨fun _ => [], fun _ => 0, fun t ht => ⟨ChG_nil ?_, fun x hx => absurd hx List.not_mem_nil⟩, fun x hx => ?_⟩, fun x _ _ => rfl⟩
  · obtain ⟨k, k0, k1, rfl⟩ := ht
    have h1 := hS.2.1 k k0 k1
    have := Lay_lt hL (a := lv k) (by omega) (Or.inr h1)
    omega
  · rcases hx with q | ⟨j, j0, j1, _⟩ <;> omega
theorem HsF_D {cnt : Int} {fl M lv : Int → Int} {lim w m r i x : Int} (hL : Lay cnt fl M lim w) (hS : LvS fl M lv lim w m) (hr : r ≤ 8) (hi : i ≤ m) (h0 : 0 ≤ i) (h : TsF lv m i x ∨ HsF lv r i x) : Dm x := by
  have hl0 := hL.1.1
  have hw := hL.1.2.2.1
  unfold Dm
  rcases h with ⟨k, k0, k1, rfl⟩ | q | ⟨k, k0, k1, rfl⟩
  · have := hS.2.1 k (by omega) k1
    omega
  · omega
  · have := hS.2.1 k k0 (by omega)
    omega
theorem HsF_dis {cnt : Int} {fl M lv : Int → Int} {lim w m r i x : Int} (hL : Lay cnt fl M lim w) (hS : LvS fl M lv lim w m) (hr : r ≤ 8) (hi : i ≤ m) (h0 : 0 ≤ i) (h : HsF lv r i x) : ¬ TsF lv m i x := by
  rintro ⟨k, k0, k1, e⟩
  have hl0 := hL.1.1
  have h2 := hS.2.1 k (by omega) k1
  rcases h with q | ⟨j, j0, j1, e2⟩
  · omega
  · have := LvS_inj hS (by omega) k1 j0 (by omega) (e.trans e2.symm)
    omega
theorem TInv_cong {M V : Int → Int} {Ts Ts' Hs Hs' : Int → Prop} {Dn : Int → Int → Prop} {NP : Int → Int} (h : TInv M V Ts Hs Dn NP) (e : ∀ x, Ts x ↔ Ts' x) (f : ∀ x, Hs x ↔ Hs' x) : TInv M V Ts' Hs' Dn NP := T_less h e f (fun _ _ q => q)
theorem fw_reg0 {cnt : Int} {fl M0 M lv : Int → Int} {lim w m r : Int} (hL : Lay cnt fl M0 lim w) (hF : FwP M0 M lv w m r 0) (h0 : 0 ≤ r) (hr : r < 8) (hn : ¬ (3048 ≤ M (r - 8) ∧ M (r - 8) ≤ 3207)) : FwP M0 M lv w m (r + 1) 0 := by
  have e := hF.2 (r - 8) (by omega) (by omega)
  have hp := hL.2.1 (r - 8) (by omega) (by omega)
  have hl := hL.1
  refine ⟨TInv_cong (T_done hF.1 (w := r - 8) (Or.inl ⟨by omega, ?_⟩)) (fun x => Iff.rfl) (fun x => ?_), fun x x0 x1 => hF.2 x (by omega) x1⟩
  · rw [← e] at hp
    unfold Pl at hp ⊢
    omega
  · unfold HsF
    constructor
    · rintro ((q | q) | q)
      · exact Or.inl (by omega)
      · exact Or.inr q
      · exact Or.inl (by omega)
    · rintro (q | q)
      · rcases (by omega : x < r - 8 ∨ x = r - 8) with z | z
        · exact Or.inl (Or.inl (by omega))
        · exact Or.inr z
      · exact Or.inl (Or.inr q)
theorem fw_reg1 {cnt : Int} {fl M0 M N lv : Int → Int} {lim w m r : Int} (hL : Lay cnt fl M0 lim w) (hS : LvS fl M0 lv lim w m) (hK : Mk M0 lv m) (hF : FwP M0 M lv w m r 0) (h0 : 0 ≤ r) (hr : r < 8) (hp : 3048 ≤ M (r - 8) ∧ M (r - 8) ≤ 3207) (e1 : N (r - 8) = M (M (r - 8) - 3048)) (e2 : N (M (r - 8) - 3048) = 7144 + (r - 8)) (e3 : ∀ x, Dm x → x ≠ r - 8 → x ≠ M (r - 8) - 3048 → N x = M x) : FwP M0 N lv w m (r + 1) 0 := by
  have e := hF.2 (r - 8) (by omega) (by omega)
  have hl := hL.1
  have hm := LvS_m hS hl.2.1
  obtain ⟨k, k0, k1, ek⟩ := hK.1 (r - 8) (by omega) (by omega) (by omega) (by omega)
  rw [← e] at ek
  have hrng := hS.2.1 k k0 k1
  have hnp := NPf_lv hS k0 k1
  rw [← ek] at e1 e2 e3
  refine ⟨TInv_cong (T_thread hF.1 (w := r - 8) (t := lv k) ⟨k, k0, k1, rfl⟩ (fun x hx => HsF_dis hL hS (by omega) hS.1 (by omega) hx) (fun x hx => HsF_D hL hS (by omega) hS.1 (by omega) hx) ⟨by omega, by omega⟩ ?_ ?_ (Or.inl ⟨by omega, ?_⟩) e1 e2 e3) (fun x => Iff.rfl) (fun x => ?_), fun x x0 x1 => ?_⟩
  · rintro (q | ⟨j, j0, j1, _⟩) <;> omega
  · rintro ⟨j, j0, j1, ej⟩
    have := hS.2.1 j j0 j1
    omega
  · rw [hnp]
    exact Or.inr (Or.inr ⟨by omega, by omega⟩)
  · unfold HsF
    constructor
    · rintro ((q | q) | q)
      · exact Or.inl (by omega)
      · exact Or.inr q
      · exact Or.inl (by omega)
    · rintro (q | q)
      · rcases (by omega : x < r - 8 ∨ x = r - 8) with z | z
        · exact Or.inl (Or.inl (by omega))
        · exact Or.inr z
      · exact Or.inl (Or.inr q)
  · rw [e3 x ⟨by omega, by omega⟩ (by omega) (by omega)]
    exact hF.2 x (by omega) x1
