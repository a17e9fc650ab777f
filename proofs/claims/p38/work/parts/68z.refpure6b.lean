def rq_FVl (M0 lv : Int → Int) (w m j v : Int) : Prop := (5096 ≤ M0 (lv j) ∧ v = M0 (lv j)) ∨ (M0 (lv j) < 5096 ∧ ((0 ≤ v ∧ v ≤ 1999) ∨ v = 3047 ∨ (3048 ≤ v ∧ v ≤ 3207 ∧ 3048 ≤ M0 (lv j) ∧ ((v - 3048 < lv j ∧ ∃ k, 0 ≤ k ∧ k < m ∧ lv k = v - 3048) ∨ (lv j ≤ v - 3048 ∧ w - m ≤ v - 3048 ∧ v - 3048 < w)))))
def rq_DnF (M0 lv : Int → Int) (w m x v : Int) : Prop := (x < 0 ∧ Pl (w - m) w v) ∨ (0 ≤ x ∧ ∃ j, 0 ≤ j ∧ j < m ∧ lv j = x ∧ rq_FVl M0 lv w m j v)
def rq_FwP (M0 M lv : Int → Int) (w m r i : Int) : Prop := TInv M M0 (TsF lv m i) (HsF lv r i) (rq_DnF M0 lv w m) (NPf lv w m) ∧ ∀ x, r - 8 ≤ x → x < 0 → M x = M0 x
def rq_DnB (M0 lv : Int → Int) (w m x v : Int) : Prop := (5096 ≤ M0 (lv (x - (w - m))) → v = M0 (lv (x - (w - m)))) ∧ (M0 (lv (x - (w - m))) < 5096 → Pl (w - m) w v ∧ (v ≤ 3047 ∨ 3048 ≤ M0 (lv (x - (w - m)))))
def rq_BwP (M0 M lv : Int → Int) (w m i : Int) : Prop := ∃ V : Int → Int, TInv M V (TsB lv i) (HsB w m i) (rq_DnB M0 lv w m) (NPf lv w m) ∧ (∀ k, 0 ≤ k → k < i → rq_FVl M0 lv w m k (V (lv k))) ∧ ∀ r, -8 ≤ r → r < 0 → Pl (w - m) w (M r)
theorem rq_fw_init {cnt : Int} {fl M lv : Int → Int} {lim w m : Int} (hL : Lay cnt fl M lim w) (hS : LvS fl M lv lim w m) : rq_FwP M M lv w m 0 0 := by
  have hl0 := hL.1.1
  refine ⟨⟨fun _ => [], fun _ => 0, fun t ht => ⟨ChG_nil ?_, fun x hx => absurd hx List.not_mem_nil⟩, fun x hx => ?_⟩, fun x _ _ => rfl⟩
  · obtain ⟨k, k0, k1, rfl⟩ := ht
    have h1 := hS.2.1 k k0 k1
    have := Lay_lt hL (a := lv k) (by omega) (Or.inr h1)
    omega
  · rcases hx with q | ⟨j, j0, j1, _⟩ <;> omega
theorem rq_fw_reg0 {cnt : Int} {fl M0 M lv : Int → Int} {lim w m r : Int} (hL : Lay cnt fl M0 lim w) (hF : rq_FwP M0 M lv w m r 0) (h0 : 0 ≤ r) (hr : r < 8) (hn : ¬ (3048 ≤ M (r - 8) ∧ M (r - 8) ≤ 3207)) : rq_FwP M0 M lv w m (r + 1) 0 := by
  have e := hF.2 (r - 8) (by omega) (by omega)
  have hp := hL.2.1 (r - 8) (by omega) (by omega)
  have hl := hL.1
  refine ⟨TInv_cong (T_done hF.1 (w := r - 8) (Or.inl ⟨by omega, ?_⟩)) (fun x => Iff.rfl) (fun x => ?_), fun x x0 x1 => hF.2 x (by omega) x1⟩
  · rw [← e] at hp
    unfold Pl at hp ⊢
    omega
  · unfold HsF
    constructor
    · rintro ((q | q) | q)
      · exact Or.inl (by omega)
      · exact Or.inr q
      · exact Or.inl (by omega)
    · rintro (q | q)
      · rcases (by omega : x < r - 8 ∨ x = r - 8) with z | z
        · exact Or.inl (Or.inl (by omega))
        · exact Or.inr z
      · exact Or.inl (Or.inr q)
theorem rq_fw_reg1 {cnt : Int} {fl M0 M N lv : Int → Int} {lim w m r : Int} (hL : Lay cnt fl M0 lim w) (hS : LvS fl M0 lv lim w m) (hK : Mk M0 lv m) (hF : rq_FwP M0 M lv w m r 0) (h0 : 0 ≤ r) (hr : r < 8) (hp : 3048 ≤ M (r - 8) ∧ M (r - 8) ≤ 3207) (e1 : N (r - 8) = M (M (r - 8) - 3048)) (e2 : N (M (r - 8) - 3048) = 7144 + (r - 8)) (e3 : ∀ x, Dm x → x ≠ r - 8 → x ≠ M (r - 8) - 3048 → N x = M x) : rq_FwP M0 N lv w m (r + 1) 0 := by
  have e := hF.2 (r - 8) (by omega) (by omega)
  have hl := hL.1
  have hm := LvS_m hS hl.2.1
  obtain ⟨k, k0, k1, ek⟩ := hK.1 (r - 8) (by omega) (by omega) (by omega) (by omega)
  rw [← e] at ek
  have hrng := hS.2.1 k k0 k1
  have hnp := NPf_lv hS k0 k1
  rw [← ek] at e1 e2 e3
  refine ⟨TInv_cong (T_thread hF.1 (w := r - 8) (t := lv k) ⟨k, k0, k1, rfl⟩ (fun x hx => HsF_dis hL hS (by omega) hS.1 (by omega) hx) (fun x hx => HsF_D hL hS (by omega) hS.1 (by omega) hx) ⟨by omega, by omega⟩ ?_ ?_ (Or.inl ⟨by omega, ?_⟩) e1 e2 e3) (fun x => Iff.rfl) (fun x => ?_), fun x x0 x1 => ?_⟩
  · rintro (q | ⟨j, j0, j1, _⟩) <;> omega
  · rintro ⟨j, j0, j1, ej⟩
    have := hS.2.1 j j0 j1
    omega
  · rw [hnp]
    exact Or.inr (Or.inr ⟨by omega, by omega⟩)
  · unfold HsF
    constructor
    · rintro ((q | q) | q)
      · exact Or.inl (by omega)
      · exact Or.inr q
      · exact Or.inl (by omega)
    · rintro (q | q)
      · rcases (by omega : x < r - 8 ∨ x = r - 8) with z | z
        · exact Or.inl (Or.inl (by omega))
        · exact Or.inr z
      · exact Or.inl (Or.inr q)
  · rw [e3 x ⟨by omega, by omega⟩ (by omega) (by omega)]
    exact hF.2 x (by omega) x1
theorem rq_fw_chain {M0 M lv : Int → Int} {w m r i : Int} (hF : rq_FwP M0 M lv w m r i) (h1 : i < m) : ∃ L v, ChG M v L (lv i) := by
  obtain ⟨L, hL⟩ := T_chain hF.1 (t := lv i) ⟨i, by omega, h1, rfl⟩
  exact ⟨L, _, hL⟩
theorem rq_fw_unth {cnt : Int} {fl M0 M M1 lv : Int → Int} {lim w m i : Int} (hL : Lay cnt fl M0 lim w) (hS : LvS fl M0 lv lim w m) (hF : rq_FwP M0 M lv w m 8 i) (h0 : 0 ≤ i) (h1 : i < m) (hU : UnthR M M1 (lv i) (w - m + i)) : TInv M1 M0 (TsF lv m (i + 1)) (HsF lv 8 i) (rq_DnF M0 lv w m) (NPf lv w m) ∧ M1 (lv i) = M0 (lv i) := by
  have hnp := NPf_lv hS h0 h1
  rw [← hnp] at hU
  have q := T_unth hF.1 (t := lv i) ⟨i, by omega, h1, rfl⟩ (fun x hx => HsF_dis hL hS (by omega) (by omega) h0 hx) (fun x hx => HsF_D hL hS (by omega) (by omega) h0 hx) hU
  exact ⟨TInv_cong q.1 (TsF_up hS h0 h1) (fun x => Iff.rfl), q.2.1⟩
theorem rq_fw_word0 {cnt : Int} {fl M0 M M1 N lv : Int → Int} {lim w m i : Int} (hL : Lay cnt fl M0 lim w) (hS : LvS fl M0 lv lim w m) (hF : rq_FwP M0 M lv w m 8 i) (h0 : 0 ≤ i) (h1 : i < m) (hU : UnthR M M1 (lv i) (w - m + i)) (e3 : ∀ x, Dm x → x ≠ lv i → N x = M1 x) (hv : rq_FVl M0 lv w m i (N (lv i))) : rq_FwP M0 N lv w m 8 (i + 1) := by
  obtain ⟨q1, q2⟩ := rq_fw_unth hL hS hF h0 h1 hU
  obtain ⟨n1, n2, n3⟩ := fw_not hL hS h0 h1
  have hl := hL.1
  have hr := hS.2.1 i h0 h1
  have q3 : TInv N M0 (TsF lv m (i + 1)) (HsF lv 8 i) (rq_DnF M0 lv w m) (NPf lv w m) := by
    refine T_frame q1 (fun x hx => ?_)
    have hD : Dm x := by
      rcases hx with hx | hx
      · exact HsF_D hL hS (r := 8) (by omega) (by omega) (by omega) (Or.inl hx)
      · exact HsF_D hL hS (r := 8) (by omega) (by omega) h0 (Or.inr hx)
    refine e3 x hD (fun e => ?_)
    rw [e] at hx
    exact hx.elim n2 n1
  refine ⟨TInv_cong (T_done q3 (w := lv i) (Or.inr ⟨by omega, i, h0, h1, rfl, hv⟩)) (fun x => Iff.rfl) (HsF_up rfl h0), fun x x0 x1 => by omega⟩
theorem rq_fw_word1 {cnt : Int} {fl M0 M M1 N lv : Int → Int} {lim w m i : Int} (hL : Lay cnt fl M0 lim w) (hS : LvS fl M0 lv lim w m) (hK : Mk M0 lv m) (hF : rq_FwP M0 M lv w m 8 i) (h0 : 0 ≤ i) (h1 : i < m) (hU : UnthR M M1 (lv i) (w - m + i)) (hp : 3048 ≤ M1 (lv i) ∧ M1 (lv i) ≤ 3207) (hup : lv i < M1 (lv i) - 3048) (e1 : N (lv i) = M1 (M1 (lv i) - 3048)) (e2 : N (M1 (lv i) - 3048) = 7144 + lv i) (e3 : ∀ x, Dm x → x ≠ lv i → x ≠ M1 (lv i) - 3048 → N x = M1 x) : rq_FwP M0 N lv w m 8 (i + 1) := by
  obtain ⟨q1, q2⟩ := rq_fw_unth hL hS hF h0 h1 hU
  obtain ⟨n1, n2, n3⟩ := fw_not hL hS h0 h1
  have hl := hL.1
  have hm := LvS_m hS hl.2.1
  have hr := hS.2.1 i h0 h1
  rw [q2] at hp hup e1 e2 e3
  obtain ⟨k, k0, k1, ek⟩ := hK.2 i h0 h1 hp.1 hp.2
  rw [← ek] at hup e1 e2 e3
  have hik : i < k := by
    rcases (by omega : i < k ∨ i = k ∨ k < i) with z | z | z
    · exact z
    · rw [z] at hup; omega
    · have := LvS_lt hS k0 z h1; omega
  have hrk := hS.2.1 k k0 k1
  have hnpk := LvS_np hS k0 k1
  have hm0 : M0 (lv i) < 5096 := by omega
  refine ⟨TInv_cong (T_thread q1 (w := lv i) (t := lv k) ⟨k, by omega, k1, rfl⟩ ?_ ?_ n3 n1 n2 (Or.inr ⟨by omega, i, h0, h1, rfl, ?_⟩) e1 e2 e3) (fun x => Iff.rfl) (HsF_up rfl h0), fun x x0 x1 => by omega⟩
  · rintro x hx ⟨j, j0, j1, ej⟩
    exact HsF_dis hL hS (r := 8) (by omega) (by omega) h0 hx ⟨j, by omega, j1, ej⟩
  · intro x hx
    rcases hx with hx | hx
    · exact HsF_D hL hS (r := 8) (by omega) (by omega) (by omega) (Or.inl hx)
    · exact HsF_D hL hS (r := 8) (by omega) (by omega) h0 (Or.inr hx)
  · rw [NPf_lv hS k0 k1]
    exact Or.inr ⟨hm0, Or.inr (Or.inr ⟨by omega, by omega, by omega, Or.inr ⟨by omega, by omega, by omega⟩⟩)⟩
theorem rq_FVl_same {cnt : Int} {fl M0 lv : Int → Int} {lim w m i : Int} (hL : Lay cnt fl M0 lim w) (hS : LvS fl M0 lv lim w m) (hK : Mk M0 lv m) (h0 : 0 ≤ i) (h1 : i < m) (hn : ¬ (3048 ≤ M0 (lv i) ∧ M0 (lv i) ≤ 3207) ∨ M0 (lv i) - 3048 < lv i) : rq_FVl M0 lv w m i (M0 (lv i)) := by
  have hl := hL.1
  have hr := hS.2.1 i h0 h1
  rcases hL.2.2.1 (lv i) hr.1 hr.2 with z | z
  · right
    unfold Pl at z
    refine ⟨by omega, ?_⟩
    by_cases hp : 3048 ≤ M0 (lv i) ∧ M0 (lv i) ≤ 3207
    · right
      right
      exact ⟨hp.1, hp.2, hp.1, Or.inl ⟨by omega, hK.2 i h0 h1 hp.1 hp.2⟩⟩
    · omega
  · exact Or.inl ⟨z.1, rfl⟩
theorem rq_FVl_self {cnt : Int} {fl M0 lv : Int → Int} {lim w m i : Int} (hL : Lay cnt fl M0 lim w) (hS : LvS fl M0 lv lim w m) (h0 : 0 ≤ i) (h1 : i < m) (hp : 3048 ≤ M0 (lv i) ∧ M0 (lv i) ≤ 3207) : rq_FVl M0 lv w m i (3048 + (w - m + i)) := by
  have hl := hL.1
  have hr := hS.2.1 i h0 h1
  have hm := LvS_m hS hl.2.1
  have hnp := LvS_np hS h0 h1
  exact Or.inr ⟨by omega, Or.inr (Or.inr ⟨by omega, by omega, hp.1, Or.inr ⟨by omega, by omega, by omega⟩⟩)⟩
theorem rq_fw_bw {cnt : Int} {fl M0 M lv : Int → Int} {lim w m : Int} (hL : Lay cnt fl M0 lim w) (hS : LvS fl M0 lv lim w m) (hF : rq_FwP M0 M lv w m 8 m) : rq_BwP M0 M lv w m m := by
  obtain ⟨⟨ch, own, h1, h2⟩, h3⟩ := hF
  have hl := hL.1
  have hall : ∀ x, HsF lv 8 m x → rq_DnF M0 lv w m x (M x) := by
    intro x hx
    rcases h2 x hx with q | ⟨⟨k, k0, k1, _⟩, _⟩
    · exact q
    · omega
  have hW : ∀ k, 0 ≤ k → k < m → rq_FVl M0 lv w m k (M (lv k)) := by
    intro k k0 k1
    have hr := hS.2.1 k k0 k1
    rcases hall (lv k) (Or.inr ⟨k, k0, k1, rfl⟩) with q | ⟨_, j, j0, j1, ej, hj⟩
    · omega
    · have := LvS_inj hS j0 j1 k0 k1 ej
      rw [this] at hj
      exact hj
  refine ⟨M, ⟨fun _ => [], fun _ => 0, fun t ht => ⟨ChG_nil ?_, fun x hx => absurd hx List.not_mem_nil⟩, fun x hx => ?_⟩, hW, ?_⟩
  · obtain ⟨k, k0, k1, rfl⟩ := ht
    have hr := hS.2.1 k k0 k1
    have h9 := Lay_lt hL (a := lv k) (by omega) (Or.inr hr)
    rcases hW k k0 k1 with q | q
    · omega
    · rcases q.2 with z | z | z <;> omega
  · unfold HsB at hx
    omega
  · intro r r0 r1
    rcases hall r (Or.inl ⟨r0, by omega⟩) with q | q
    · exact q.2
    · omega
theorem rq_bw_chain {M0 M lv : Int → Int} {w m i : Int} (hF : rq_BwP M0 M lv w m (i + 1)) (h0 : 0 ≤ i) : ∃ L v, ChG M v L (lv i) := by
  obtain ⟨V, h1, _⟩ := hF
  obtain ⟨L, hL⟩ := T_chain h1 (t := lv i) ⟨i, h0, by omega, rfl⟩
  exact ⟨L, _, hL⟩
theorem rq_bw_word {cnt : Int} {fl M0 M M1 M2 N lv : Int → Int} {lim w m i : Int} (hL : Lay cnt fl M0 lim w) (hS : LvS fl M0 lv lim w m) (hF : rq_BwP M0 M lv w m (i + 1)) (h0 : 0 ≤ i) (h1 : i < m) (hU : UnthR M M1 (lv i) (w - m + i)) (e1 : M2 (w - m + i) = M1 (lv i)) (e2 : ∀ x, Dm x → x ≠ w - m + i → M2 x = M1 x)
    (hN : (3048 ≤ M1 (lv i) ∧ M1 (lv i) ≤ 3207 ∧ M1 (lv i) - 3048 < lv i ∧ N (w - m + i) = M2 (M1 (lv i) - 3048) ∧ N (M1 (lv i) - 3048) = 7144 + (w - m + i) ∧ ∀ x, Dm x → x ≠ w - m + i → x ≠ M1 (lv i) - 3048 → N x = M2 x) ∨ (¬ (3048 ≤ M1 (lv i) ∧ M1 (lv i) ≤ 3207 ∧ M1 (lv i) - 3048 < lv i) ∧ ∀ x, Dm x → N x = M2 x)) : rq_BwP M0 N lv w m i := by
  obtain ⟨V, T, hV, hR⟩ := hF
  have hl := hL.1
  have hm := LvS_m hS hl.2.1
  have hr := hS.2.1 i h0 h1
  have hnp := LvS_np hS h0 h1
  have hnpf := NPf_lv hS h0 h1
  rw [← hnpf] at hU
  have hdis : ∀ x, HsB w m (i + 1) x → ¬ TsB lv (i + 1) x := by
    rintro x hx ⟨k, k0, k1, ek⟩
    have h5 : lv k ≤ lv i := by
      rcases (by omega : k = i ∨ k < i) with z | z
      · rw [z]; omega
      · have := LvS_lt hS k0 z h1; omega
    unfold HsB at hx
    omega
  have hD : ∀ x, TsB lv (i + 1) x ∨ HsB w m (i + 1) x → Dm x := by
    rintro x (⟨k, k0, k1, ek⟩ | hx)
    · have := hS.2.1 k k0 (by omega)
      unfold Dm
      omega
    · unfold HsB at hx
      unfold Dm
      omega
  obtain ⟨q1, q2, q3⟩ := T_unth T (t := lv i) ⟨i, h0, by omega, rfl⟩ hdis hD hU
  have hT' : ∀ x, (TsB lv (i + 1) x ∧ x ≠ lv i) ↔ TsB lv i x := by
    intro x
    constructor
    · rintro ⟨⟨k, k0, k1, ek⟩, q⟩
      refine ⟨k, k0, ?_, ek⟩
      rcases (by omega : k = i ∨ k < i) with z | z
      · rw [z] at ek
        exact absurd ek.symm q
      · exact z
    · rintro ⟨k, k0, k1, ek⟩
      refine ⟨⟨k, k0, by omega, ek⟩, fun q => ?_⟩
      have := LvS_inj hS k0 (by omega) h0 h1 (ek.trans q)
      omega
  have q4 : TInv M1 V (TsB lv i) (HsB w m (i + 1)) (rq_DnB M0 lv w m) (NPf lv w m) := TInv_cong q1 hT' (fun x => Iff.rfl)
  have nT : ¬ TsB lv i (w - m + i) := by
    rintro ⟨k, k0, k1, ek⟩
    have := LvS_lt hS k0 k1 h1
    omega
  have nH : ¬ HsB w m (i + 1) (w - m + i) := by
    unfold HsB
    omega
  have hdis2 : ∀ x, HsB w m (i + 1) x → ¬ TsB lv i x := fun x hx ht => hdis x hx ((hT' x).mpr ht).1
  have hD2 : ∀ x, TsB lv i x ∨ HsB w m (i + 1) x → Dm x := fun x hx => hD x (hx.elim (fun q => Or.inl ((hT' x).mpr q).1) Or.inr)
  have q5 : TInv M2 V (TsB lv i) (HsB w m (i + 1)) (rq_DnB M0 lv w m) (NPf lv w m) := by
    refine T_frame q4 (fun x hx => e2 x (hD2 x hx) (fun e => ?_))
    rw [e] at hx
    exact hx.elim nT nH
  have hH : ∀ x, (HsB w m (i + 1) x ∨ x = w - m + i) ↔ HsB w m i x := by
    intro x
    unfold HsB
    omega
  have hVi := hV i h0 (by omega)
  rw [← q2] at hVi
  have hi : w - m + i - (w - m) = i := by omega
  have hreg : ∀ r, -8 ≤ r → r < 0 → M2 r = M r := by
    intro r r0 r1
    rw [e2 r ⟨r0, by omega⟩ (by omega)]
    exact q3 r ⟨r0, by omega⟩ (by unfold HsB; omega) (by omega)
  rcases hN with ⟨p1, p2, p3, n1, n2, n3⟩ | ⟨pn, n3⟩
  · have hlive : ∃ k, 0 ≤ k ∧ k < m ∧ lv k = M1 (lv i) - 3048 := by
      rcases hVi with q | ⟨_, q⟩
      · have h9 := Lay_lt hL (a := lv i) (by omega) (Or.inr hr)
        omega
      · rcases q with q | q | ⟨_, _, _, q | q⟩
        · omega
        · omega
        · exact q.2
        · omega
    have hptr : 3048 ≤ M0 (lv i) := by
      rcases hVi with q | ⟨_, q⟩
      · omega
      · rcases q with q | q | ⟨_, _, q, _⟩ <;> omega
    have hlow : M0 (lv i) < 5096 := by
      rcases hVi with q | q
      · omega
      · exact q.1
    obtain ⟨k, k0, k1, ek⟩ := hlive
    rw [← ek] at p3 n1 n2 n3
    have hki : k < i := by
      rcases (by omega : i < k ∨ i = k ∨ k < i) with z | z | z
      · have := LvS_lt hS h0 z k1; omega
      · rw [z] at p3; omega
      · exact z
    have hrk := hS.2.1 k k0 k1
    refine ⟨V, TInv_cong (T_thread q5 (w := w - m + i) (t := lv k) ⟨k, k0, hki, rfl⟩ hdis2 hD2 ⟨by omega, by omega⟩ nH nT ?_ n1 n2 n3) (fun x => Iff.rfl) hH, fun j j0 j1 => hV j j0 (by omega), fun r r0 r1 => ?_⟩
    · rw [NPf_lv hS k0 k1]
      refine ⟨fun h => ?_, fun _ => ⟨Or.inr (Or.inr ⟨by omega, by omega⟩), Or.inr (by rw [hi]; exact hptr)⟩⟩
      rw [hi] at h
      omega
    · rw [n3 r ⟨r0, by omega⟩ (by omega) (by omega), hreg r r0 r1]
      exact hR r r0 r1
  · have q6 : TInv N V (TsB lv i) (HsB w m (i + 1)) (rq_DnB M0 lv w m) (NPf lv w m) := T_frame q5 (fun x hx => n3 x (hD2 x hx))
    refine ⟨V, TInv_cong (T_done q6 (w := w - m + i) ?_) (fun x => Iff.rfl) hH, fun j j0 j1 => hV j j0 (by omega), fun r r0 r1 => ?_⟩
    · rw [n3 _ ⟨by omega, by omega⟩, e1]
      unfold rq_DnB
      rw [hi]
      rcases hVi with q | ⟨q0, q⟩
      · exact ⟨fun _ => q.2, fun h => by omega⟩
      · refine ⟨fun h => by omega, fun _ => ?_⟩
        unfold Pl
        rcases q with q | q | ⟨z1, z2, z3, q | q⟩
        · exact ⟨Or.inl q, Or.inl (by omega)⟩
        · exact ⟨Or.inr (Or.inl q), Or.inl (by omega)⟩
        · exact absurd ⟨z1, z2, q.1⟩ pn
        · omega
    · rw [n3 r ⟨r0, by omega⟩, hreg r r0 r1]
      exact hR r r0 r1
theorem rq_bw_end {cnt : Int} {fl M0 M N lv : Int → Int} {lim w m : Int} (hL : Lay cnt fl M0 lim w) (hS : LvS fl M0 lv lim w m) (hF : rq_BwP M0 M lv w m 0) (e : ∀ x, Dm x → (x < 0 ∨ w - m ≤ x) → N x = M x) : Lay cnt fl N (w - m) w := by
  obtain ⟨V, ⟨ch, own, h1, h2⟩, hV, hR⟩ := hF
  have hl := hL.1
  have hm := LvS_m hS hl.2.1
  refine slide_end hL hS (fun r r0 r1 => by rw [e r ⟨r0, by omega⟩ (by omega)]; exact hR r r0 r1) (fun k k0 k1 => ?_)
  rw [e _ ⟨by omega, by omega⟩ (by omega)]
  have hi : w - m + k - (w - m) = k := by omega
  rcases h2 (w - m + k) (by unfold HsB; omega) with q | ⟨⟨j, j0, j1, _⟩, _⟩
  · unfold rq_DnB at q
    rw [hi] at q
    exact ⟨q.1, fun h => (q.2 h).1⟩
  · omega
def rq_RsP (M0 M lv : Int → Int) (w m r i : Int) : Prop := (∀ x, -8 ≤ x → x < r - 8 → Pl (w - m) w (M x)) ∧ (∀ x, r - 8 ≤ x → x < 0 → M x = M0 x) ∧ (∀ k, 0 ≤ k → k < i → (5096 ≤ M0 (lv k) → M (w - m + k) = M0 (lv k)) ∧ (M0 (lv k) < 5096 → Pl (w - m) w (M (w - m + k)) ∧ (M (w - m + k) ≤ 3047 ∨ 3048 ≤ M0 (lv k)))) ∧ ∀ k, i ≤ k → k < m → M (w - m + k) = M0 (lv k)
theorem rq_rs_init {M0 M lv : Int → Int} {w m : Int} (h : BlP M0 M lv w m 0) : rq_RsP M0 M lv w m 0 0 := ⟨fun x x0 x1 => by omega, fun x x0 x1 => h.2.2 x (by omega) x1, fun k k0 k1 => by omega, fun k k0 k1 => h.1 k k0 k1⟩
theorem rq_rs_reg {cnt : Int} {fl M0 M N lv : Int → Int} {lim w m r : Int} (hL : Lay cnt fl M0 lim w) (hS : LvS fl M0 lv lim w m) (h : rq_RsP M0 M lv w m r 0) (h0 : 0 ≤ r) (h1 : r < 8) (hv : Pl (w - m) w (N (r - 8))) (e3 : ∀ x, Dm x → x ≠ r - 8 → N x = M x) : rq_RsP M0 N lv w m (r + 1) 0 := by
  obtain ⟨a1, a2, a3, a4⟩ := h
  have hl := hL.1
  have hm := LvS_m hS hl.2.1
  refine ⟨fun x x0 x1 => ?_, fun x x0 x1 => ?_, fun k k0 k1 => by omega, fun k k0 k1 => ?_⟩
  · rcases (by omega : x = r - 8 ∨ x < r - 8) with z | z
    · rw [z]; exact hv
    · rw [e3 x ⟨x0, by omega⟩ (by omega)]
      exact a1 x x0 z
  · rw [e3 x ⟨by omega, by omega⟩ (by omega)]
    exact a2 x (by omega) x1
  · rw [e3 _ ⟨by omega, by omega⟩ (by omega)]
    exact a4 k k0 k1
theorem rq_rs_word {cnt : Int} {fl M0 M N lv : Int → Int} {lim w m i : Int} (hL : Lay cnt fl M0 lim w) (hS : LvS fl M0 lv lim w m) (h : rq_RsP M0 M lv w m 8 i) (h0 : 0 ≤ i) (h1 : i < m) (hv : (5096 ≤ M0 (lv i) → N (w - m + i) = M0 (lv i)) ∧ (M0 (lv i) < 5096 → Pl (w - m) w (N (w - m + i)) ∧ (N (w - m + i) ≤ 3047 ∨ 3048 ≤ M0 (lv i)))) (e3 : ∀ x, Dm x → x ≠ w - m + i → N x = M x) : rq_RsP M0 N lv w m 8 (i + 1) := by
  obtain ⟨a1, a2, a3, a4⟩ := h
  have hl := hL.1
  have hm := LvS_m hS hl.2.1
  refine ⟨fun x x0 x1 => ?_, fun x x0 x1 => by omega, fun k k0 k1 => ?_, fun k k0 k1 => ?_⟩
  · rw [e3 x ⟨x0, by omega⟩ (by omega)]
    exact a1 x x0 x1
  · rcases (by omega : k = i ∨ k < i) with z | z
    · rw [z]; exact hv
    · rw [e3 _ ⟨by omega, by omega⟩ (by omega)]
      exact a3 k k0 z
  · rw [e3 _ ⟨by omega, by omega⟩ (by omega)]
    exact a4 k (by omega) k1
theorem rq_rs_end {cnt : Int} {fl M0 M N lv : Int → Int} {lim w m : Int} (hL : Lay cnt fl M0 lim w) (hS : LvS fl M0 lv lim w m) (hF : rq_RsP M0 M lv w m 8 m) (e : ∀ x, Dm x → (x < 0 ∨ w - m ≤ x) → N x = M x) : Lay cnt fl N (w - m) w := by
  have hl := hL.1
  have hm := LvS_m hS hl.2.1
  refine slide_end hL hS (fun r r0 r1 => by rw [e r ⟨r0, by omega⟩ (by omega)]; exact hF.1 r r0 (by omega)) (fun k k0 k1 => ?_)
  rw [e _ ⟨by omega, by omega⟩ (by omega)]
  exact ⟨(hF.2.2.1 k k0 k1).1, fun q => ((hF.2.2.1 k k0 k1).2 q).1⟩
def rq_Ph (M0 M lv : Int → Int) (w m bl meth done : Int) : Prop := (done = 0 ∧ (∀ x, Dm x → M x = M0 x) ∧ RegL M0 lv m) ∨ (Mk M0 lv m ∧ ((meth = 0 ∧ ((1 ≤ done ∧ done ≤ 9 ∧ rq_FwP M0 M lv w m (done - 1) 0) ∨ (9 ≤ done ∧ done ≤ 9 + m ∧ rq_FwP M0 M lv w m 8 (done - 9)) ∨ (9 + m ≤ done ∧ done ≤ 9 + 2 * m ∧ rq_BwP M0 M lv w m (9 + 2 * m - done)))) ∨ (meth = 1 ∧ ((1 ≤ done ∧ done ≤ 1 + bl ∧ ∃ b, BtP lv m (done - 1) b ∧ BlP M0 M lv w m b) ∨ (1 + bl ≤ done ∧ done ≤ 9 + bl ∧ rq_RsP M0 M lv w m (done - 1 - bl) 0) ∨ (9 + bl ≤ done ∧ done ≤ 9 + bl + m ∧ rq_RsP M0 M lv w m 8 (done - 9 - bl))))))
def rq_Mid (Q : (Int → Int) → Prop) (cnt : Int) (fl h lv : Nat → Int) (lim w m bl meth done : Int) : Prop := ∃ M0 : Int → Int, Q M0 ∧ Lay cnt (aI fl) M0 lim w ∧ LvS (aI fl) M0 (aI lv) lim w m ∧ bl = ub (aI lv) m.toNat ∧ rq_Ph M0 (mI h) (aI lv) w m bl meth done
theorem rq_Mid_begin {Q : (Int → Int) → Prop} {cnt : Int} {fl h lv : Nat → Int} {lim w m bl meth : Int} (hq : Q (mI h)) (H : Plan cnt fl h lv lim w m bl) : rq_Mid Q cnt fl h lv lim w m bl meth 0   := ⟨mI h, hq, H.1, H.2.1, H.2.2.1, Or.inl ⟨rfl, fun _ _ => rfl, H.2.2.2⟩⟩
def rq_Mid1 (Q : (Int → Int) → Prop) (cnt : Int) (fl h lv : Nat → Int) (lim w m bl meth done : Int) : Prop := rq_Mid Q cnt fl h lv lim w m bl meth (done + 1)
theorem rq_Mid_srt {Q : (Int → Int) → Prop} {cnt : Int} {fl h lv : Nat → Int} {lim w m bl meth done : Int} (H : rq_Mid Q cnt fl h lv lim w m bl meth done) : Srt lv m := by
  obtain ⟨M0, hQ0, hL, hS, hb, hP⟩ := H
  exact fun i j h0 h1 h2 => LvS_lt hS h0 h1 h2
theorem rq_Mid_box {Q : (Int → Int) → Prop} {cnt : Int} {fl h lv : Nat → Int} {lim w m bl meth done : Int} (H : rq_Mid Q cnt fl h lv lim w m bl meth done) : 0 ≤ lim ∧ lim ≤ w ∧ w ≤ 160 ∧ 0 ≤ m ∧ m ≤ w - lim ∧ 0 ≤ bl ∧ bl ≤ m := by
  obtain ⟨M0, hQ0, hL, hS, hb, hP⟩ := H
  have h1 := hL.1
  have h2 := hS.1
  have h3 := LvS_m hS h1.2.1
  have h4 := ub_max (lv := aI lv) m.toNat
  omega
theorem rq_Mid_reg {Q : (Int → Int) → Prop} {cnt : Int} {fl h lv : Nat → Int} {lim w m bl meth done a x : Int} (H : rq_Mid Q cnt fl h lv lim w m bl meth done) (h0 : meth = 0) (h1 : 1 ≤ done) (h2 : done ≤ 8) (ha : a = done - 9) (hx : x = h (a + 8).toNat) (hn : x ≤ 3047 ∨ 5096 ≤ x) : rq_Mid1 Q cnt fl h lv lim w m bl meth done := by
  obtain ⟨M0, hQ0, hL, hS, hb, hP⟩ := H
  refine ⟨M0, hQ0, hL, hS, hb, ?_⟩
  rcases hP with ⟨q, _⟩ | ⟨hK, ⟨_, q⟩ | ⟨q, _⟩⟩
  · omega
  · refine Or.inr ⟨hK, Or.inl ⟨h0, Or.inl ⟨by omega, by omega, ?_⟩⟩⟩
    rcases q with ⟨_, _, q⟩ | ⟨q, _⟩ | ⟨q, _⟩
    · have e : done - 1 - 8 = a := by omega
      have hm : mI h a = x := hx.symm
      have := rq_fw_reg0 hL q (by omega) (by omega) (by rw [e, hm]; omega)
      have e2 : done - 1 + 1 = done + 1 - 1 := by omega
      rw [e2] at this
      exact this
    · omega
    · have := hS.1; omega
  · omega
theorem rq_Mid_reg1 {Q : (Int → Int) → Prop} {cnt : Int} {fl h h2 lv : Nat → Int} {lim w m bl meth done a x t : Int} (H : rq_Mid Q cnt fl h lv lim w m bl meth done) (h0 : meth = 0) (h1 : 1 ≤ done) (h3 : done ≤ 8) (ha : a = done - 9) (hx : x = h (a + 8).toNat) (hp : 3048 ≤ x) (hp2 : x ≤ 3207) (ht : t = x - 3048) (hT : ThR h h2 a t) : rq_Mid1 Q cnt fl h2 lv lim w m bl meth done := by
  obtain ⟨M0, hQ0, hL, hS, hb, hP⟩ := H
  refine ⟨M0, hQ0, hL, hS, hb, ?_⟩
  rcases hP with ⟨q, _⟩ | ⟨hK, ⟨_, q⟩ | ⟨q, _⟩⟩
  · omega
  · refine Or.inr ⟨hK, Or.inl ⟨h0, Or.inl ⟨by omega, by omega, ?_⟩⟩⟩
    rcases q with ⟨_, _, q⟩ | ⟨q, _⟩ | ⟨q, _⟩
    · have e : done - 1 - 8 = a := by omega
      have hm : mI h a = x := hx.symm
      have := rq_fw_reg1 (N := mI h2) hL hS hK q (by omega) (by omega) (by rw [e, hm]; omega) (by rw [e, hm, ← ht]; exact hT.1) (by rw [e, hm, ← ht]; exact hT.2.1) (by rw [e, hm, ← ht]; exact hT.2.2)
      have e2 : done - 1 + 1 = done + 1 - 1 := by omega
      rw [e2] at this
      exact this
    · omega
    · have := hS.1; omega
  · omega
theorem rq_Ph_fw {M0 M lv : Int → Int} {w m bl meth done : Int} (hm : 0 ≤ m) (h : rq_Ph M0 M lv w m bl meth done) (h0 : meth = 0) (h1 : 9 ≤ done) (h2 : done ≤ 8 + m) : Mk M0 lv m ∧ rq_FwP M0 M lv w m 8 (done - 9) := by
  rcases h with ⟨q, _⟩ | ⟨hK, ⟨_, q⟩ | ⟨q, _⟩⟩
  · omega
  · refine ⟨hK, ?_⟩
    rcases q with ⟨q1, q2, q⟩ | ⟨_, _, q⟩ | ⟨q, _⟩
    · have e : done = 9 := by omega
      subst e
      exact q
    · exact q
    · omega
  · omega
theorem rq_Ph_bw {cnt : Int} {fl M0 M lv : Int → Int} {lim w m bl meth done : Int} (hL : Lay cnt fl M0 lim w) (hS : LvS fl M0 lv lim w m) (h : rq_Ph M0 M lv w m bl meth done) (h0 : meth = 0) (h1 : 9 + m ≤ done) : Mk M0 lv m ∧ rq_BwP M0 M lv w m (9 + 2 * m - done) := by
  have hm := hS.1
  rcases h with ⟨q, _⟩ | ⟨hK, ⟨_, q⟩ | ⟨q, _⟩⟩
  · omega
  · refine ⟨hK, ?_⟩
    rcases q with ⟨q1, q2, q⟩ | ⟨_, q2, q⟩ | ⟨_, _, q⟩
    · have e : done = 9 := by omega
      have e2 : m = 0 := by omega
      subst e
      subst e2
      exact rq_fw_bw hL hS q
    · have e : done = 9 + m := by omega
      subst e
      have e3 : 9 + m - 9 = m := by omega
      rw [e3] at q
      have e2 : 9 + 2 * m - (9 + m) = m := by omega
      rw [e2]
      exact rq_fw_bw hL hS q
    · exact q
  · omega
theorem rq_Mid_fw_in {Q : (Int → Int) → Prop} {cnt : Int} {fl h lv : Nat → Int} {lim w m bl meth done a z : Int} (H : rq_Mid Q cnt fl h lv lim w m bl meth done) (h0 : meth = 0) (h1 : 9 ≤ done) (h2 : done ≤ 8 + m) (ha : a = lv (done - 9).toNat) (hz : NewP lv m w a z) : ChE h a ∧ z = w - m + (done - 9) := by
  obtain ⟨M0, hQ0, hL, hS, hb, hP⟩ := H
  have hF := (rq_Ph_fw hS.1 hP h0 h1 h2).2
  have ea : aI lv (done - 9) = a := ha.symm
  refine ⟨?_, ?_⟩
  · have := rq_fw_chain hF (by omega)
    rw [ea] at this
    exact this
  · rcases hz with ⟨_, q⟩ | ⟨k, k0, k1, ek, ez⟩
    · exact absurd ea (q (done - 9) (by omega) (by omega))
    · have := LvS_inj hS k0 k1 (by omega) (by omega) (ek.trans ea.symm)
      rw [← this]
      exact ez
theorem rq_Mid_fw_up {M0 M lv : Int → Int} {w m bl meth done : Int} (hK : Mk M0 lv m) (h0 : meth = 0) (h1 : 9 ≤ done) (h2 : done ≤ 8 + m) (q : rq_FwP M0 M lv w m 8 (done - 9 + 1)) : rq_Ph M0 M lv w m bl meth (done + 1) := by
  have e : done - 9 + 1 = done + 1 - 9 := by omega
  rw [e] at q
  exact Or.inr ⟨hK, Or.inl ⟨h0, Or.inr (Or.inl ⟨by omega, by omega, q⟩)⟩⟩
theorem rq_Mid_fw0 {Q : (Int → Int) → Prop} {cnt : Int} {fl h h1 lv : Nat → Int} {lim w m bl meth done a z x : Int} (H : rq_Mid Q cnt fl h lv lim w m bl meth done) (h0 : meth = 0) (h2 : 9 ≤ done) (h3 : done ≤ 8 + m) (ha : a = lv (done - 9).toNat) (hz : z = w - m + (done - 9)) (hU : UnR h h1 a z) (hx : x = h1 (a + 8).toNat) (hn : (x ≤ 3047 ∨ 5096 ≤ x) ∨ x - 3048 < a) : rq_Mid1 Q cnt fl h1 lv lim w m bl meth done := by
  obtain ⟨M0, hQ0, hL, hS, hb, hP⟩ := H
  obtain ⟨hK, hF⟩ := rq_Ph_fw hS.1 hP h0 h2 h3
  refine ⟨M0, hQ0, hL, hS, hb, rq_Mid_fw_up hK h0 h2 h3 ?_⟩
  have ea : aI lv (done - 9) = a := ha.symm
  have hU' : UnthR (mI h) (mI h1) (aI lv (done - 9)) (w - m + (done - 9)) := by rw [ea, ← hz]; exact hU
  have hv := (rq_fw_unth hL hS hF (by omega) (by omega) hU').2
  refine rq_fw_word0 hL hS hF (by omega) (by omega) hU' (fun _ _ _ => rfl) ?_
  rw [hv]
  have e2 : M0 (aI lv (done - 9)) = x := by rw [← hv, ea]; exact hx.symm
  refine rq_FVl_same hL hS hK (by omega) (by omega) ?_
  rw [e2, ea]
  omega
theorem rq_Mid_fw1 {Q : (Int → Int) → Prop} {cnt : Int} {fl h h1 h5 lv : Nat → Int} {lim w m bl meth done a z x t : Int} (H : rq_Mid Q cnt fl h lv lim w m bl meth done) (h0 : meth = 0) (h2 : 9 ≤ done) (h3 : done ≤ 8 + m) (ha : a = lv (done - 9).toNat) (hz : z = w - m + (done - 9)) (hU : UnR h h1 a z) (hx : x = h1 (a + 8).toNat) (hp : 3048 ≤ x) (hp2 : x ≤ 3207) (ht : t = x - 3048) (hup : a < t) (hT : ThR h1 h5 a t) : rq_Mid1 Q cnt fl h5 lv lim w m bl meth done := by
  obtain ⟨M0, hQ0, hL, hS, hb, hP⟩ := H
  obtain ⟨hK, hF⟩ := rq_Ph_fw hS.1 hP h0 h2 h3
  refine ⟨M0, hQ0, hL, hS, hb, rq_Mid_fw_up hK h0 h2 h3 ?_⟩
  have ea : aI lv (done - 9) = a := ha.symm
  have hU' : UnthR (mI h) (mI h1) (aI lv (done - 9)) (w - m + (done - 9)) := by rw [ea, ← hz]; exact hU
  have em : mI h1 a = x := hx.symm
  refine rq_fw_word1 (N := mI h5) hL hS hK hF (by omega) (by omega) hU' ?_ ?_ ?_ ?_ ?_
  · rw [ea, em]; exact ⟨hp, hp2⟩
  · rw [ea, em]; omega
  · rw [ea, em, ← ht]; exact hT.1
  · rw [ea, em, ← ht]; exact hT.2.1
  · rw [ea, em, ← ht]; exact hT.2.2
theorem rq_Mid_fw2 {Q : (Int → Int) → Prop} {cnt : Int} {fl h h1 h5 lv : Nat → Int} {lim w m bl meth done a z x : Int} (H : rq_Mid Q cnt fl h lv lim w m bl meth done) (h0 : meth = 0) (h2 : 9 ≤ done) (h3 : done ≤ 8 + m) (ha : a = lv (done - 9).toNat) (ha0 : 0 ≤ a) (hz : z = w - m + (done - 9)) (hU : UnR h h1 a z) (hx : x = h1 (a + 8).toNat) (hp : 3048 ≤ x) (hp2 : x ≤ 3207) (e5 : h5 = updI h1 (a + 8).toNat (z + 3048)) : rq_Mid1 Q cnt fl h5 lv lim w m bl meth done := by
  obtain ⟨M0, hQ0, hL, hS, hb, hP⟩ := H
  obtain ⟨hK, hF⟩ := rq_Ph_fw hS.1 hP h0 h2 h3
  refine ⟨M0, hQ0, hL, hS, hb, rq_Mid_fw_up hK h0 h2 h3 ?_⟩
  have ea : aI lv (done - 9) = a := ha.symm
  have hU' : UnthR (mI h) (mI h1) (aI lv (done - 9)) (w - m + (done - 9)) := by rw [ea, ← hz]; exact hU
  have hv := (rq_fw_unth hL hS hF (by omega) (by omega) hU').2
  have e2 : M0 (aI lv (done - 9)) = x := by rw [← hv, ea]; exact hx.symm
  subst e5
  refine rq_fw_word0 hL hS hF (by omega) (by omega) hU' ?_ ?_
  · rw [ea]
    exact fun y hy hn => mI_upd_ne (by omega) hy hn
  · have e6 : mI (updI h1 (a + 8).toNat (z + 3048)) (aI lv (done - 9)) = 3048 + (w - m + (done - 9)) := by
      rw [ea, mI_upd_eq (by omega)]; omega
    rw [e6]
    exact rq_FVl_self hL hS (by omega) (by omega) (by rw [e2]; exact ⟨hp, hp2⟩)
theorem rq_Mid_bw_in {Q : (Int → Int) → Prop} {cnt : Int} {fl h lv : Nat → Int} {lim w m bl meth done a z : Int} (H : rq_Mid Q cnt fl h lv lim w m bl meth done) (h0 : meth = 0) (h1 : 9 + m ≤ done) (h2 : done ≤ 8 + 2 * m) (ha' : a = lv (-done + 2 * m + 8).toNat) (hz : NewP lv m w a z) : ChE h a ∧ z = w - m + (2 * m + 8 - done) ∧ a ≤ z := by
  have ha : a = lv (2 * m + 8 - done).toNat := by rw [(by omega : 2 * m + 8 - done = -done + 2 * m + 8)]; exact ha'
  obtain ⟨M0, hQ0, hL, hS, hb, hP⟩ := H
  have hF := (rq_Ph_bw hL hS hP h0 h1).2
  have ea : aI lv (2 * m + 8 - done) = a := ha.symm
  have e1 : 9 + 2 * m - done = (2 * m + 8 - done) + 1 := by omega
  rw [e1] at hF
  have e9 : z = w - m + (2 * m + 8 - done) := by
    rcases hz with ⟨_, q⟩ | ⟨k, k0, k1, ek, ez⟩
    · exact absurd ea (q (2 * m + 8 - done) (by omega) (by omega))
    · have := LvS_inj hS k0 k1 (by omega) (by omega) (ek.trans ea.symm)
      rw [← this]
      exact ez
  refine ⟨?_, e9, ?_⟩
  · have := rq_bw_chain hF (by omega)
    rw [ea] at this
    exact this
  · have := LvS_np hS (i := 2 * m + 8 - done) (by omega) (by omega)
    omega
theorem rq_Mid_bw {Q : (Int → Int) → Prop} {cnt : Int} {fl h h1 h4 h5 lv : Nat → Int} {lim w m bl meth done a z x : Int} (H : rq_Mid Q cnt fl h lv lim w m bl meth done) (h0 : meth = 0) (h2 : 9 + m ≤ done) (h3 : done ≤ 8 + 2 * m) (ha' : a = lv (-done + 2 * m + 8).toNat) (ha0 : 0 ≤ a) (hz : z = w - m + (2 * m + 8 - done)) (hz0 : a ≤ z) (hU : UnR h h1 a z) (hx : x = h1 (a + 8).toNat) (e4 : h4 = updI h1 (z + 8).toNat x)
    (hN : (3048 ≤ x ∧ x ≤ 3207 ∧ x - 3048 < a ∧ ThR h4 h5 z (x - 3048)) ∨ ((x ≤ 3047 ∨ 5096 ≤ x ∨ a ≤ x - 3048) ∧ h5 = h4)) : rq_Mid1 Q cnt fl h5 lv lim w m bl meth done := by
  have ha : a = lv (2 * m + 8 - done).toNat := by rw [(by omega : 2 * m + 8 - done = -done + 2 * m + 8)]; exact ha'
  obtain ⟨M0, hQ0, hL, hS, hb, hP⟩ := H
  obtain ⟨hK, hF⟩ := rq_Ph_bw hL hS hP h0 h2
  have ea : aI lv (2 * m + 8 - done) = a := ha.symm
  have e1 : 9 + 2 * m - done = (2 * m + 8 - done) + 1 := by omega
  rw [e1] at hF
  have hU' : UnthR (mI h) (mI h1) (aI lv (2 * m + 8 - done)) (w - m + (2 * m + 8 - done)) := by rw [ea, ← hz]; exact hU
  have em : mI h1 a = x := hx.symm
  have key : rq_BwP M0 (mI h5) (aI lv) w m (2 * m + 8 - done) := by
    refine rq_bw_word (M2 := mI h4) hL hS hF (by omega) (by omega) hU' ?_ ?_ ?_
    · rw [← hz, ea, em, e4, mI_upd_eq (by omega)]
    · rw [← hz, e4]
      exact fun y hy hn => mI_upd_ne (by omega) hy hn
    · rw [ea, em, ← hz]
      rcases hN with ⟨p1, p2, p3, hT⟩ | ⟨p, q⟩
      · exact Or.inl ⟨p1, p2, p3, hT⟩
      · exact Or.inr ⟨by omega, fun y _ => by rw [q]⟩
  have e2 : 2 * m + 8 - done = 9 + 2 * m - (done + 1) := by omega
  rw [e2] at key
  exact ⟨M0, hQ0, hL, hS, hb, Or.inr ⟨hK, Or.inl ⟨h0, Or.inr (Or.inr ⟨by omega, by omega, key⟩)⟩⟩⟩
theorem rq_Mid_zero {Q : (Int → Int) → Prop} {cnt : Int} {fl h lv : Nat → Int} {lim w m bl meth : Int} (H : rq_Mid Q cnt fl h lv lim w m bl meth 0) : VM cnt fl h lim w ∧ LvS (aI fl) (mI h) (aI lv) lim w m ∧ bl = ub (aI lv) m.toNat ∧ RegL (mI h) (aI lv) m := by
  obtain ⟨M0, hQ0, hL, hS, hb, hP⟩ := H
  have hl := hL.1
  have hm := hS.1
  rcases hP with ⟨_, e, hR⟩ | ⟨_, ⟨_, q⟩ | ⟨_, q⟩⟩
  · have e2 : ∀ x, Dm x → mI h x = M0 x ∨ (3048 ≤ M0 x ∧ M0 x ≤ 3207 ∧ mI h x = 3047) := fun x hx => Or.inl (e x hx)
    refine ⟨Lay_nil hL e2, LvS_nil hL hS e2, hb, fun r r0 r1 => ?_⟩
    unfold PtL
    rw [e r ⟨r0, by omega⟩]
    exact hR r r0 r1
  · rcases q with ⟨q, _⟩ | ⟨q, _⟩ | ⟨q, _⟩ <;> omega
  · have h4 := ub_max (lv := aI lv) m.toNat
    rcases q with ⟨q, _⟩ | ⟨q, _⟩ | ⟨q, _⟩ <;> omega
theorem rq_CW_end {Q : (Int → Int) → Prop} {cnt : Int} {fl h0 h lv : Nat → Int} {lim w m bl meth a : Int} (H : rq_Mid Q cnt fl h0 lv lim w m bl meth 0) (C : CW h0 h lv lim w m a a) (ha : w ≤ a) (hm : meth = 0 ∨ meth = 1) (hq : Q (mI h)) : rq_Mid1 Q cnt fl h lv lim w m bl meth 0 := by
  obtain ⟨hL, hS, hb, hR⟩ := rq_Mid_zero H
  obtain ⟨c1, c2, c3, c4⟩ := C
  have hl := hL.1
  have hL' := Lay_nil hL c1
  have hS' := LvS_nil hL hS c1
  have hK : Mk (mI h) (aI lv) m := by
    refine ⟨fun r r0 r1 p1 p2 => ?_, fun k k0 k1 => c2 k k0 k1 (by have := (hS.2.1 k k0 k1).2; omega)⟩
    rcases c1 r ⟨r0, by omega⟩ with q | q
    · rw [q] at p1 p2 ⊢
      exact hR r r0 r1 p1 p2
    · omega
  have h4 := ub_max (lv := aI lv) m.toNat
  refine ⟨mI h, hq, hL', hS', hb, Or.inr ⟨hK, ?_⟩⟩
  rcases hm with e | e
  · exact Or.inl ⟨e, Or.inl ⟨by omega, by omega, rq_fw_init hL' hS'⟩⟩
  · refine Or.inr ⟨e, Or.inl ⟨by omega, by omega, m, BtP_init hS.1, bl_init (fun _ _ => rfl) (fun k k0 k1 => ?_)⟩⟩
    have := hS.2.1 k k0 k1
    exact ⟨by omega, by omega⟩
theorem rq_Ph_rs {cnt : Int} {fl M0 M lv : Int → Int} {lim w m bl meth done : Int} (hS : LvS fl M0 lv lim w m) (hb : bl = ub lv m.toNat) (h : rq_Ph M0 M lv w m bl meth done) (h0 : meth = 1) (h1 : 1 + bl ≤ done) (h2 : done ≤ 8 + bl) : Mk M0 lv m ∧ rq_RsP M0 M lv w m (done - 1 - bl) 0 := by
  have hm := hS.1
  have h4 := ub_max (lv := lv) m.toNat
  rcases h with ⟨q, _⟩ | ⟨hK, ⟨q, _⟩ | ⟨_, q⟩⟩
  · omega
  · omega
  · refine ⟨hK, ?_⟩
    rcases q with ⟨q1, q2, b, hB, hP⟩ | ⟨_, _, q⟩ | ⟨q, _⟩
    · have e : done - 1 = bl := by omega
      rw [e] at hB
      have e0 := BtP_zero hB hb
      rw [e0] at hP
      have e1 : done - 1 - bl = 0 := by omega
      rw [e1]
      exact rq_rs_init hP
    · exact q
    · omega
theorem rq_Ph_rw {fl M0 M lv : Int → Int} {lim w m bl meth done : Int} (hS : LvS fl M0 lv lim w m) (hb : bl = ub lv m.toNat) (h : rq_Ph M0 M lv w m bl meth done) (h0 : meth = 1) (h1 : 9 + bl ≤ done) : Mk M0 lv m ∧ rq_RsP M0 M lv w m 8 (done - 9 - bl) := by
  have hm := hS.1
  have h4 := ub_max (lv := lv) m.toNat
  rcases h with ⟨q, _⟩ | ⟨hK, ⟨q, _⟩ | ⟨_, q⟩⟩
  · omega
  · omega
  · refine ⟨hK, ?_⟩
    rcases q with ⟨q1, q2, _⟩ | ⟨_, q2, q⟩ | ⟨_, _, q⟩
    · omega
    · have e : done = 9 + bl := by omega
      have e1 : done - 1 - bl = 8 := by omega
      have e2 : done - 9 - bl = 0 := by omega
      rw [e1] at q
      rw [e2]
      exact q
    · exact q
theorem rq_Mid_rs {Q : (Int → Int) → Prop} {cnt : Int} {fl h h2 lv : Nat → Int} {lim w m bl meth done a x : Int} (H : rq_Mid Q cnt fl h lv lim w m bl meth done) (h0 : meth = 1) (hA : RsA w m bl done a) (hx : x = h (a + 8).toNat) (hN : ((x ≤ 3047 ∨ 5096 ≤ x) ∧ h2 = h) ∨ (3048 ≤ x ∧ x ≤ 3207 ∧ ∃ z, NewP lv m w (x - 3048) z ∧ h2 = updI h (a + 8).toNat (z + 3048))) : rq_Mid1 Q cnt fl h2 lv lim w m bl meth done := by
  obtain ⟨M0, hQ0, hL, hS, hb, hP⟩ := H
  have hl := hL.1
  have hm := LvS_m hS hl.2.1
  have hm0 := hS.1
  have h4 := ub_max (lv := aI lv) m.toNat
  have em : mI h a = x := hx.symm
  have ha : -8 ≤ a ∧ a < 160 := by unfold RsA at hA; omega
  have fr : ∀ y, Dm y → y ≠ a → mI h2 y = mI h y := by
    intro y hy hn
    rcases hN with ⟨_, q⟩ | ⟨_, _, z, _, q⟩
    · rw [q]
    · rw [q]; exact mI_upd_ne ha.1 hy hn
  refine ⟨M0, hQ0, hL, hS, hb, ?_⟩
  rcases hA with ⟨d1, d2, d3⟩ | ⟨d1, d2, d3⟩
  · obtain ⟨hK, hR⟩ := rq_Ph_rs (cnt := cnt) hS hb hP h0 d1 d2
    refine Or.inr ⟨hK, Or.inr ⟨h0, Or.inr (Or.inl ⟨by omega, by omega, ?_⟩)⟩⟩
    have ea : done - 1 - bl - 8 = a := by omega
    have e2 : done - 1 - bl + 1 = done + 1 - 1 - bl := by omega
    rw [← e2]
    have hM : x = M0 a := by rw [← em]; exact hR.2.1 a (by omega) (by omega)
    have hp := hL.2.1 a ha.1 (by omega)
    refine rq_rs_reg hL hS hR (by omega) (by omega) ?_ (by rw [ea]; exact fr)
    rw [ea]
    rcases hN with ⟨q, e⟩ | ⟨q1, q2, z, hz, e⟩
    · rw [e, em, hM]
      exact Pl_no hp (by omega) hl.1 hl.2.2.1
    · obtain ⟨k, k0, k1, ek⟩ := hK.1 a ha.1 (by omega) (by omega) (by omega)
      rw [e, mI_upd_eq ha.1]
      rcases hz with ⟨_, hz⟩ | ⟨j, j0, j1, ej, ez⟩
      · exact absurd ek (by rw [← hM]; exact hz k k0 k1)
      · exact Or.inr (Or.inr ⟨by omega, by omega⟩)
  · obtain ⟨hK, hR⟩ := rq_Ph_rw hS hb hP h0 d1
    refine Or.inr ⟨hK, Or.inr ⟨h0, Or.inr (Or.inr ⟨by omega, by omega, ?_⟩)⟩⟩
    have ea : w - m + (done - 9 - bl) = a := by omega
    have e2 : done - 9 - bl + 1 = done + 1 - 9 - bl := by omega
    rw [← e2]
    have hM : x = M0 (aI lv (done - 9 - bl)) := by rw [← em, ← ea]; exact hR.2.2.2 _ (by omega) (by omega)
    have hr := hS.2.1 (done - 9 - bl) (by omega) (by omega)
    refine rq_rs_word hL hS hR (by omega) (by omega) ?_ (by rw [ea]; exact fr)
    rw [ea]
    rcases hN with ⟨q, e⟩ | ⟨q1, q2, z, hz, e⟩
    · rw [e, em]
      refine ⟨fun _ => hM, fun hlow => ?_⟩
      rcases hL.2.2.1 _ hr.1 hr.2 with p | p
      · rw [hM]
        exact ⟨Pl_no p (by omega) hl.1 hl.2.2.1, by omega⟩
      · have := p.1; omega
    · obtain ⟨k, k0, k1, ek⟩ := hK.2 (done - 9 - bl) (by omega) (by omega) (by omega) (by omega)
      rw [e, mI_upd_eq ha.1]
      refine ⟨fun _ => by omega, fun _ => ?_⟩
      rcases hz with ⟨_, hz⟩ | ⟨j, j0, j1, ej, ez⟩
      · exact absurd ek (by rw [← hM]; exact hz k k0 k1)
      · exact ⟨Or.inr (Or.inr ⟨by omega, by omega⟩), Or.inr (by omega)⟩
theorem rq_Mid_ub {Q : (Int → Int) → Prop} {cnt : Int} {fl h lv : Nat → Int} {lim w m bl meth done : Int} (H : rq_Mid Q cnt fl h lv lim w m bl meth done) : UbIs lv m bl := H.elim (fun _ q => q.2.2.2.1)
theorem rq_Mid_blk {Q : (Int → Int) → Prop} {cnt : Int} {fl h h2 lv : Nat → Int} {lim w m bl meth done f e : Int} (H : rq_Mid Q cnt fl h lv lim w m bl meth done) (h0 : meth = 1) (h1 : 1 ≤ done) (h3 : done ≤ bl) (hB : BtD lv m done f) (hE : EndF lv m f e) (e1 : ∀ k, f ≤ k → k < e → mI h2 (w - m + k) = mI h (aI lv k)) (e2 : ∀ x, Dm x → (x < aI lv f ∨ w - m + e ≤ x) → mI h2 x = mI h x) : rq_Mid1 Q cnt fl h2 lv lim w m bl meth done := by
  obtain ⟨M0, hQ0, hL, hS, hb, hP⟩ := H
  refine ⟨M0, hQ0, hL, hS, hb, ?_⟩
  rcases hP with ⟨q, _⟩ | ⟨hK, ⟨q, _⟩ | ⟨_, q⟩⟩
  · omega
  · omega
  · refine Or.inr ⟨hK, Or.inr ⟨h0, Or.inl ⟨by omega, by omega, f, ?_⟩⟩⟩
    have e9 : done + 1 - 1 = done := by omega
    rw [e9]
    refine ⟨hB, ?_⟩
    rcases q with ⟨q1, q2, b, hBt, hBl⟩ | ⟨q, _⟩ | ⟨q, _⟩
    · have hB2 : BtP (aI lv) m (done - 1 + 1) f := by rw [(by omega : done - 1 + 1 = done)]; exact hB
      have hfm : f < m := by have := hE.1; have := hE.2.1; omega
      have hbe := BtP_uniq hBt (BtP_next hB2 hfm hE)
      rw [hbe] at hBl
      exact bl_step hL hS hBl hB.1 hE.1 hE.2.1 e1 e2
    · omega
    · omega
theorem rq_Mid_bl0 {Q : (Int → Int) → Prop} {cnt : Int} {fl h lv : Nat → Int} {lim w m bl meth done f e x up : Int} (H : rq_Mid Q cnt fl h lv lim w m bl meth done) (h0 : meth = 1) (h1 : 1 ≤ done) (h3 : done ≤ bl) (hB : BtD lv m done f) (hE : EndF lv m f e) (hx : x = lv f.toNat) (hu : up = w - m + f - x) (hz : up = 0) : rq_Mid1 Q cnt fl h lv lim w m bl meth done := by
  refine rq_Mid_blk H h0 h1 h3 hB hE (fun k k0 k1 => ?_) (fun _ _ _ => rfl)
  have ek : aI lv k = aI lv f + (k - f) := EndB_at hE k0 k1
  have ef : aI lv f = x := hx.symm
  rw [(by omega : w - m + k = aI lv k)]
theorem rq_Mid_bl1 {Q : (Int → Int) → Prop} {cnt : Int} {fl h hm h2 lv : Nat → Int} {lim w m bl meth done f e x up : Int} (H : rq_Mid Q cnt fl h lv lim w m bl meth done) (h0 : meth = 1) (h1 : 1 ≤ done) (h3 : done ≤ bl) (hB : BtD lv m done f) (hE : EndF lv m f e) (hx : x = lv f.toNat) (hu : up = w - m + f - x) (hup : 0 ≤ up) (hM : MvI h hm lv f e up (f - 1)) (hT : TbI hm h2 x (x + up)) : rq_Mid1 Q cnt fl h2 lv lim w m bl meth done := by
  have ef : aI lv f = x := hx.symm
  have hbx := rq_Mid_box H
  have hf0 := hB.1
  have hx0 : 0 ≤ x := by
    obtain ⟨M0, hQ0, hL, hS, hb, hP⟩ := id H
    have := (hS.2.1 f hf0 (by have := hE.1; have := hE.2.1; omega)).1
    omega
  have he := hE.2.1
  have he1 := hE.1
  refine rq_Mid_blk H h0 h1 h3 hB hE (fun k k0 k1 => ?_) (fun y hy hc => ?_)
  · have ek : aI lv k = aI lv f + (k - f) := EndB_at hE k0 k1
    have e5 : w - m + k = aI lv k + up := by omega
    rw [e5, hT _ ⟨by omega, by omega⟩ (by omega)]
    exact hM.1 k (by omega) k1
  · rw [hT y hy (by omega)]
    exact hM.2 y hy (by omega)
theorem rq_Mid_up {Q : (Int → Int) → Prop} {cnt : Int} {fl h lv : Nat → Int} {lim w m bl meth done f x : Int} (H : rq_Mid Q cnt fl h lv lim w m bl meth done) (h0 : 0 ≤ f) (h1 : f < m) (hx : x = lv f.toNat) : lim ≤ x ∧ x ≤ w - m + f := by
  obtain ⟨M0, hQ0, hL, hS, hb, hP⟩ := H
  have h2 := (hS.2.1 f h0 h1).1
  have h3 := LvS_np hS h0 h1
  have e : aI lv f = x := hx.symm
  omega
theorem rq_Mid_last {Q : (Int → Int) → Prop} {cnt : Int} {fl h h2 lv : Nat → Int} {lim w m bl meth done z : Int} (H : rq_Mid Q cnt fl h lv lim w m bl meth done) (hl : LastP m bl meth done) (hF : FillR h h2 8 z 1000) (hz : z = w - m + 8) : VM cnt fl h2 (w - m) w := by
  obtain ⟨M0, hQ0, hL, hS, hb, hP⟩ := H
  have hll := hL.1
  have hm := LvS_m hS hll.2.1
  have fr : ∀ x, Dm x → (x < 0 ∨ w - m ≤ x) → mI h2 x = mI h x := fun x hx hc => (hF (x + 8).toNat).2 (by have := hx.1; omega)
  rcases hl with ⟨h0, hd⟩ | ⟨h0, hd⟩
  · have hB := (rq_Ph_bw hL hS hP h0 (by have := hS.1; omega)).2
    rw [(by omega : 9 + 2 * m - done = 0)] at hB
    exact rq_bw_end hL hS hB fr
  · have hm0 := hS.1
    have hR := (rq_Ph_rw hS hb hP h0 (by omega)).2
    rw [(by omega : done - 9 - bl = m)] at hR
    exact rq_rs_end hL hS hR fr
theorem rq_Mid_top {Q : (Int → Int) → Prop} {cnt : Int} {fl h lv : Nat → Int} {lim w m bl meth done : Int} (H : rq_Mid Q cnt fl h lv lim w m bl meth done) : 0 ≤ done ∧ (meth = 0 → done ≤ 9 + 2 * m) ∧ (meth = 1 → done ≤ 9 + bl + m) := by
  have hb := rq_Mid_box H
  obtain ⟨M0, hQ0, hL, hS, hbl, hP⟩ := H
  rcases hP with ⟨q, _⟩ | ⟨_, ⟨_, q⟩ | ⟨_, q⟩⟩
  · omega
  · rcases q with ⟨q1, q2, _⟩ | ⟨q1, q2, _⟩ | ⟨q1, q2, _⟩ <;> omega
  · rcases q with ⟨q1, q2, _⟩ | ⟨q1, q2, _⟩ | ⟨q1, q2, _⟩ <;> omega
theorem rq_bw_num {M0 M N lv : Int → Int} {w m : Int} (hF : rq_BwP M0 M lv w m 0) (h0 : 0 ≤ w - m) (hw : w ≤ 160) (e : ∀ x, Dm x → (x < 0 ∨ w - m ≤ x) → N x = M x) : ∀ k, 0 ≤ k → k < m → (5096 ≤ M0 (lv k) → N (w - m + k) = M0 (lv k)) ∧ (M0 (lv k) ≤ 3047 → N (w - m + k) ≤ 3047) ∧ (M0 (lv k) < 5096 → N (w - m + k) < 5096) := by
  obtain ⟨V, ⟨ch, own, h1, h2⟩, hV, hR⟩ := hF
  intro k k0 k1
  rw [e _ ⟨by omega, by omega⟩ (by omega)]
  have hi : w - m + k - (w - m) = k := by omega
  rcases h2 (w - m + k) (by unfold HsB; omega) with q | ⟨⟨j, j0, j1, _⟩, _⟩
  · unfold rq_DnB at q
    rw [hi] at q
    refine ⟨q.1, fun h => ?_, fun h => Pl_lt (q.2 h).1 hw⟩
    have := (q.2 (by omega)).2
    omega
  · omega
theorem rq_rs_num {M0 M N lv : Int → Int} {w m : Int} (hF : rq_RsP M0 M lv w m 8 m) (h0 : 0 ≤ w - m) (hw : w ≤ 160) (e : ∀ x, Dm x → (x < 0 ∨ w - m ≤ x) → N x = M x) : ∀ k, 0 ≤ k → k < m → (5096 ≤ M0 (lv k) → N (w - m + k) = M0 (lv k)) ∧ (M0 (lv k) ≤ 3047 → N (w - m + k) ≤ 3047) ∧ (M0 (lv k) < 5096 → N (w - m + k) < 5096) := by
  intro k k0 k1
  rw [e _ ⟨by omega, by omega⟩ (by omega)]
  have q := hF.2.2.1 k k0 k1
  refine ⟨q.1, fun h => ?_, fun h => Pl_lt (q.2 h).1 hw⟩
  have := (q.2 (by omega)).2
  omega
theorem rq_Mid_lastN {Q : (Int → Int) → Prop} {cnt : Int} {fl h h2 lv : Nat → Int} {lim w m bl meth done z : Int} (H : rq_Mid Q cnt fl h lv lim w m bl meth done) (hl : LastP m bl meth done) (hF : FillR h h2 8 z 1000) (hz : z = w - m + 8) : ∃ M0 : Int → Int, Q M0 ∧ Lay cnt (aI fl) M0 lim w ∧ LvS (aI fl) M0 (aI lv) lim w m ∧ ∀ k, 0 ≤ k → k < m → (5096 ≤ M0 (aI lv k) → mI h2 (w - m + k) = M0 (aI lv k)) ∧ (M0 (aI lv k) ≤ 3047 → mI h2 (w - m + k) ≤ 3047) ∧ (M0 (aI lv k) < 5096 → mI h2 (w - m + k) < 5096) := by
  obtain ⟨M0, hQ0, hL, hS, hb, hP⟩ := H
  have hll := hL.1
  have hm := LvS_m hS hll.2.1
  have fr : ∀ x, Dm x → (x < 0 ∨ w - m ≤ x) → mI h2 x = mI h x := fun x hx hc => (hF (x + 8).toNat).2 (by have := hx.1; omega)
  refine ⟨M0, hQ0, hL, hS, ?_⟩
  rcases hl with ⟨h0, hd⟩ | ⟨h0, hd⟩
  · have hB := (rq_Ph_bw hL hS hP h0 (by have := hS.1; omega)).2
    rw [(by omega : 9 + 2 * m - done = 0)] at hB
    exact rq_bw_num hB (by omega) (by omega) fr
  · have hm0 := hS.1
    have hR := (rq_Ph_rw hS hb hP h0 (by omega)).2
    rw [(by omega : done - 9 - bl = m)] at hR
    exact rq_rs_num hR (by omega) (by omega) fr
