theorem HsF_up {lv : Int → Int} {r i a : Int} (e : lv i = a) (h0 : 0 ≤ i) (x : Int) : (HsF lv r i x ∨ x = a) ↔ HsF lv r (i + 1) x := by
  unfold HsF
  constructor
  · rintro ((q | ⟨j, j0, j1, ej⟩) | q)
    · exact Or.inl q
    · exact Or.inr ⟨j, j0, by omega, ej⟩
    · exact Or.inr ⟨i, h0, by omega, e.trans q.symm⟩
  · rintro (q | ⟨j, j0, j1, ej⟩)
    · exact Or.inl (Or.inl q)
    · rcases (by omega : j < i ∨ j = i) with z | z
      · exact Or.inl (Or.inr ⟨j, j0, z, ej⟩)
      · exact Or.inr (by rw [← ej, z]; exact e)
theorem TsF_up {fl M lv : Int → Int} {lim w m i : Int} (hS : LvS fl M lv lim w m) (h0 : 0 ≤ i) (h1 : i < m) (x : Int) : (TsF lv m i x ∧ x ≠ lv i) ↔ TsF lv m (i + 1) x := by
  unfold TsF
  constructor
  · rintro ⟨⟨k, k0, k1, ek⟩, q⟩
    refine ⟨k, ?_, k1, ek⟩
    rcases (by omega : k = i ∨ i + 1 ≤ k) with z | z
    · rw [z] at ek
      exact absurd ek.symm q
    · exact z
  · rintro ⟨k, k0, k1, ek⟩
    refine ⟨⟨k, by omega, k1, ek⟩, fun q => ?_⟩
    have := LvS_inj hS (by omega) k1 h0 h1 (ek.trans q)
    omega
theorem fw_chain {M0 M lv : Int → Int} {w m r i : Int} (hF : FwP M0 M lv w m r i) (h1 : i < m) : ∃ L v, ChG M v L (lv i) := by
  obtain ⟨L, hL⟩ := T_chain hF.1 (t := lv i) ⟨i, by omega, h1, rfl⟩
  exact ⟨L, _, hL⟩
theorem fw_unth {cnt : Int} {fl M0 M M1 lv : Int → Int} {lim w m i : Int} (hL : Lay cnt fl M0 lim w) (hS : LvS fl M0 lv lim w m) (hF : FwP M0 M lv w m 8 i) (h0 : 0 ≤ i) (h1 : i < m) (hU : UnthR M M1 (lv i) (w - m + i)) : TInv M1 M0 (TsF lv m (i + 1)) (HsF lv 8 i) (DnF M0 lv w m) (NPf lv w m) ∧ M1 (lv i) = M0 (lv i) := by
  have hnp := NPf_lv hS h0 h1
  rw [← hnp] at hU
  have q := T_unth hF.1 (t := lv i) ⟨i, by omega, h1, rfl⟩ (fun x hx => HsF_dis hL hS (by omega) (by omega) h0 hx) (fun x hx => HsF_D hL hS (by omega) (by omega) h0 hx) hU
  exact ⟨TInv_cong q.1 (TsF_up hS h0 h1) (fun x => Iff.rfl), q.2.1⟩
theorem fw_not {cnt : Int} {fl M0 lv : Int → Int} {lim w m i : Int} (hL : Lay cnt fl M0 lim w) (hS : LvS fl M0 lv lim w m) (h0 : 0 ≤ i) (h1 : i < m) : ¬ HsF lv 8 i (lv i) ∧ ¬ TsF lv m (i + 1) (lv i) ∧ Dm (lv i) := by
  have hl := hL.1
  have hr := hS.2.1 i h0 h1
  refine ⟨?_, ?_, ?_⟩
  · rintro (q | ⟨j, j0, j1, ej⟩)
    · omega
    · have := LvS_inj hS j0 (by omega) h0 h1 ej
      omega
  · rintro ⟨j, j0, j1, ej⟩
    have := LvS_inj hS (by omega) j1 h0 h1 ej
    omega
  · unfold Dm
    omega
theorem fw_word0 {cnt : Int} {fl M0 M M1 N lv : Int → Int} {lim w m i : Int} (hL : Lay cnt fl M0 lim w) (hS : LvS fl M0 lv lim w m) (hF : FwP M0 M lv w m 8 i) (h0 : 0 ≤ i) (h1 : i < m) (hU : UnthR M M1 (lv i) (w - m + i)) (e3 : ∀ x, Dm x → x ≠ lv i → N x = M1 x) (hv : FVl M0 lv w m i (N (lv i))) : FwP M0 N lv w m 8 (i + 1) := by
  obtain ⟨q1, q2⟩ := fw_unth hL hS hF h0 h1 hU
  obtain ⟨n1, n2, n3⟩ := fw_not hL hS h0 h1
  have hl := hL.1
  have hr := hS.2.1 i h0 h1
  have q3 : TInv N M0 (TsF lv m (i + 1)) (HsF lv 8 i) (DnF M0 lv w m) (NPf lv w m) := by
    refine T_frame q1 (fun x hx => ?_)
    have hD : Dm x := by
      rcases hx with hx | hx
      · exact HsF_D hL hS (r := 8) (by omega) (by omega) (by omega) (Or.inl hx)
      · exact HsF_D hL hS (r := 8) (by omega) (by omega) h0 (Or.inr hx)
    refine e3 x hD (fun e => ?_)
    rw [e] at hx
    exact hx.elim n2 n1
  refine ⟨TInv_cong (T_done q3 (w := lv i) (Or.inr ⟨by omega, i, h0, h1, rfl, hv⟩)) (fun x => Iff.rfl) (HsF_up rfl h0), fun x x0 x1 => by omega⟩
theorem fw_word1 {cnt : Int} {fl M0 M M1 N lv : Int → Int} {lim w m i : Int} (hL : Lay cnt fl M0 lim w) (hS : LvS fl M0 lv lim w m) (hK : Mk M0 lv m) (hF : FwP M0 M lv w m 8 i) (h0 : 0 ≤ i) (h1 : i < m) (hU : UnthR M M1 (lv i) (w - m + i)) (hp : 3048 ≤ M1 (lv i) ∧ M1 (lv i) ≤ 3207) (hup : lv i < M1 (lv i) - 3048) (e1 : N (lv i) = M1 (M1 (lv i) - 3048)) (e2 : N (M1 (lv i) - 3048) = 7144 + lv i) (e3 : ∀ x, Dm x → x ≠ lv i → x ≠ M1 (lv i) - 3048 → N x = M1 x) : FwP M0 N lv w m 8 (i + 1) := by
  obtain ⟨q1, q2⟩ := fw_unth hL hS hF h0 h1 hU
  obtain ⟨n1, n2, n3⟩ := fw_not hL hS h0 h1
  have hl := hL.1
  have hm := LvS_m hS hl.2.1
  have hr := hS.2.1 i h0 h1
  rw [q2] at hp hup e1 e2 e3
  obtain ⟨k, k0, k1, ek⟩ := hK.2 i h0 h1 hp.1 hp.2
  rw [← ek] at hup e1 e2 e3
  have hik : i < k := by
    rcases (by omega : i < k ∨ i = k ∨ k < i) with z | z | z
    · exact z
    · rw [z] at hup; omega
    · have := LvS_lt hS k0 z h1; omega
  have hrk := hS.2.1 k k0 k1
  have hnpk := LvS_np hS k0 k1
  have hm0 : M0 (lv i) < 5096 := by omega
  refine ⟨TInv_cong (T_thread q1 (w := lv i) (t := lv k) ⟨k, by omega, k1, rfl⟩ ?_ ?_ n3 n1 n2 (Or.inr ⟨by omega, i, h0, h1, rfl, ?_⟩) e1 e2 e3) (fun x => Iff.rfl) (HsF_up rfl h0), fun x x0 x1 => by omega⟩
  · rintro x hx ⟨j, j0, j1, ej⟩
    exact HsF_dis hL hS (r := 8) (by omega) (by omega) h0 hx ⟨j, by omega, j1, ej⟩
  · intro x hx
    rcases hx with hx | hx
    · exact HsF_D hL hS (r := 8) (by omega) (by omega) (by omega) (Or.inl hx)
    · exact HsF_D hL hS (r := 8) (by omega) (by omega) h0 (Or.inr hx)
  · rw [NPf_lv hS k0 k1]
    exact Or.inr ⟨hm0, Or.inr (Or.inr ⟨by omega, by omega, Or.inr ⟨by omega, by omega, by omega⟩⟩)⟩
theorem FVl_same {cnt : Int} {fl M0 lv : Int → Int} {lim w m i : Int} (hL : Lay cnt fl M0 lim w) (hS : LvS fl M0 lv lim w m) (hK : Mk M0 lv m) (h0 : 0 ≤ i) (h1 : i < m) (hn : ¬ (3048 ≤ M0 (lv i) ∧ M0 (lv i) ≤ 3207) ∨ M0 (lv i) - 3048 < lv i) : FVl M0 lv w m i (M0 (lv i)) := by
  have hl := hL.1
  have hr := hS.2.1 i h0 h1
  rcases hL.2.2.1 (lv i) hr.1 hr.2 with z | z
  · right
    unfold Pl at z
    refine ⟨by omega, ?_⟩
    by_cases hp : 3048 ≤ M0 (lv i) ∧ M0 (lv i) ≤ 3207
    · right
      right
      exact ⟨hp.1, hp.2, Or.inl ⟨by omega, hK.2 i h0 h1 hp.1 hp.2⟩⟩
    · omega
  · exact Or.inl ⟨z.1, rfl⟩
theorem FVl_self {cnt : Int} {fl M0 lv : Int → Int} {lim w m i : Int} (hL : Lay cnt fl M0 lim w) (hS : LvS fl M0 lv lim w m) (h0 : 0 ≤ i) (h1 : i < m) (hp : 3048 ≤ M0 (lv i) ∧ M0 (lv i) ≤ 3207) : FVl M0 lv w m i (3048 + (w - m + i)) := by
  have hl := hL.1
  have hr := hS.2.1 i h0 h1
  have hm := LvS_m hS hl.2.1
  have hnp := LvS_np hS h0 h1
  exact Or.inr ⟨by omega, Or.inr (Or.inr ⟨by omega, by omega, Or.inr ⟨by omega, by omega, by omega⟩⟩)⟩
theorem fw_bw {cnt : Int} {fl M0 M lv : Int → Int} {lim w m : Int} (hL : Lay cnt fl M0 lim w) (hS : LvS fl M0 lv lim w m) (hF : FwP M0 M lv w m 8 m) : BwP M0 M lv w m m := by
  obtain ⟨⟨ch, own, h1, h2⟩, h3⟩ := hF
  have hl := hL.1
  have hall : ∀ x, HsF lv 8 m x → DnF M0 lv w m x (M x) := by
    intro x hx
    rcases h2 x hx with q | ⟨⟨k, k0, k1, _⟩, _⟩
    · exact q
    · omega
  have hW : ∀ k, 0 ≤ k → k < m → FVl M0 lv w m k (M (lv k)) := by
    intro k k0 k1
    have hr := hS.2.1 k k0 k1
    rcases hall (lv k) (Or.inr ⟨k, k0, k1, rfl⟩) with q | ⟨_, j, j0, j1, ej, hj⟩
    · omega
    · have := LvS_inj hS j0 j1 k0 k1 ej
      rw [this] at hj
      exact hj
  refine ⟨M, ⟨fun _ => [], fun _ => 0, fun t ht => ⟨ChG_nil ?_, fun x hx => absurd hx List.not_mem_nil⟩, fun x hx => ?_⟩, hW, ?_⟩
  · obtain ⟨k, k0, k1, rfl⟩ := ht
    have hr := hS.2.1 k k0 k1
    have h9 := Lay_lt hL (a := lv k) (by omega) (Or.inr hr)
    rcases hW k k0 k1 with q | q
    · omega
    · rcases q.2 with z | z | z <;> omega
  · unfold HsB at hx
    omega
  · intro r r0 r1
    rcases hall r (Or.inl ⟨r0, by omega⟩) with q | q
    · exact q.2
    · omega
theorem bw_chain {M0 M lv : Int → Int} {w m i : Int} (hF : BwP M0 M lv w m (i + 1)) (h0 : 0 ≤ i) : ∃ L v, ChG M v L (lv i) := by
  obtain ⟨V, h1, _⟩ := hF
  obtain ⟨L, hL⟩ := T_chain h1 (t := lv i) ⟨i, h0, by omega, rfl⟩
  exact ⟨L, _, hL⟩
theorem bw_word {cnt : Int} {fl M0 M M1 M2 N lv : Int → Int} {lim w m i : Int} (hL : Lay cnt fl M0 lim w) (hS : LvS fl M0 lv lim w m) (hF : BwP M0 M lv w m (i + 1)) (h0 : 0 ≤ i) (h1 : i < m) (hU : UnthR M M1 (lv i) (w - m + i)) (e1 : M2 (w - m + i) = M1 (lv i)) (e2 : ∀ x, Dm x → x ≠ w - m + i → M2 x = M1 x)
    (hN : (3048 ≤ M1 (lv i) ∧ M1 (lv i) ≤ 3207 ∧ M1 (lv i) - 3048 < lv i ∧ N (w - m + i) = M2 (M1 (lv i) - 3048) ∧ N (M1 (lv i) - 3048) = 7144 + (w - m + i) ∧ ∀ x, Dm x → x ≠ w - m + i → x ≠ M1 (lv i) - 3048 → N x = M2 x) ∨ (¬ (3048 ≤ M1 (lv i) ∧ M1 (lv i) ≤ 3207 ∧ M1 (lv i) - 3048 < lv i) ∧ ∀ x, Dm x → N x = M2 x)) : BwP M0 N lv w m i := by
  obtain ⟨V, T, hV, hR⟩ := hF
  have hl := hL.1
  have hm := LvS_m hS hl.2.1
  have hr := hS.2.1 i h0 h1
  have hnp := LvS_np hS h0 h1
  have hnpf := NPf_lv hS h0 h1
  rw [← hnpf] at hU
  have hdis : ∀ x, HsB w m (i + 1) x → ¬ TsB lv (i + 1) x := by
    rintro x hx ⟨k, k0, k1, ek⟩
    have h5 : lv k ≤ lv i := by
      rcases (by omega : k = i ∨ k < i) with z | z
      · rw [z]; omega
      · have := LvS_lt hS k0 z h1; omega
    unfold HsB at hx
    omega
  have hD : ∀ x, TsB lv (i + 1) x ∨ HsB w m (i + 1) x → Dm x := by
    rintro x (⟨k, k0, k1, ek⟩ | hx)
    · have := hS.2.1 k k0 (by omega)
      unfold Dm
      omega
    · unfold HsB at hx
      unfold Dm
      omega
  obtain ⟨q1, q2, q3⟩ := T_unth T (t := lv i) ⟨i, h0, by omega, rfl⟩ hdis hD hU
  have hT' : ∀ x, (TsB lv (i + 1) x ∧ x ≠ lv i) ↔ TsB lv i x := by
    intro x
    constructor
    · rintro ⟨⟨k, k0, k1, ek⟩, q⟩
      refine ⟨k, k0, ?_, ek⟩
      rcases (by omega : k = i ∨ k < i) with z | z
      · rw [z] at ek
        exact absurd ek.symm q
      · exact z
    · rintro ⟨k, k0, k1, ek⟩
      refine ⟨⟨k, k0, by omega, ek⟩, fun q => ?_⟩
      have := LvS_inj hS k0 (by omega) h0 h1 (ek.trans q)
      omega
  have q4 : TInv M1 V (TsB lv i) (HsB w m (i + 1)) (DnB M0 lv w m) (NPf lv w m) := TInv_cong q1 hT' (fun x => Iff.rfl)
  have nT : ¬ TsB lv i (w - m + i) := by
    rintro ⟨k, k0, k1, ek⟩
    have := LvS_lt hS k0 k1 h1
    omega
  have nH : ¬ HsB w m (i + 1) (w - m + i) := by
    unfold HsB
    omega
  have hdis2 : ∀ x, HsB w m (i + 1) x → ¬ TsB lv i x := fun x hx ht => hdis x hx ((hT' x).mpr ht).1
  have hD2 : ∀ x, TsB lv i x ∨ HsB w m (i + 1) x → Dm x := fun x hx => hD x (hx.elim (fun q => Or.inl ((hT' x).mpr q).1) Or.inr)
  have q5 : TInv M2 V (TsB lv i) (HsB w m (i + 1)) (DnB M0 lv w m) (NPf lv w m) := by
    refine T_frame q4 (fun x hx => e2 x (hD2 x hx) (fun e => ?_))
    rw [e] at hx
    exact hx.elim nT nH
  have hH : ∀ x, (HsB w m (i + 1) x ∨ x = w - m + i) ↔ HsB w m i x := by
    intro x
    unfold HsB
    omega
  have hVi := hV i h0 (by omega)
  rw [← q2] at hVi
  have hi : w - m + i - (w - m) = i := by omega
  have hreg : ∀ r, -8 ≤ r → r < 0 → M2 r = M r := by
    intro r r0 r1
    rw [e2 r ⟨r0, by omega⟩ (by omega)]
    exact q3 r ⟨r0, by omega⟩ (by unfold HsB; omega) (by omega)
  rcases hN with ⟨p1, p2, p3, n1, n2, n3⟩ | ⟨pn, n3⟩
  · have hlive : ∃ k, 0 ≤ k ∧ k < m ∧ lv k = M1 (lv i) - 3048 := by
      rcases hVi with q | ⟨_, q⟩
      · have h9 := Lay_lt hL (a := lv i) (by omega) (Or.inr hr)
        omega
      · rcases q with q | q | ⟨_, _, q | q⟩
        · omega
        · omega
        · exact q.2
        · omega
    have hlow : M0 (lv i) < 5096 := by
      rcases hVi with q | q
      · omega
      · exact q.1
    obtain ⟨k, k0, k1, ek⟩ := hlive
    rw [← ek] at p3 n1 n2 n3
    have hki : k < i := by
      rcases (by omega : i < k ∨ i = k ∨ k < i) with z | z | z
      · have := LvS_lt hS h0 z k1; omega
      · rw [z] at p3; omega
      · exact z
    have hrk := hS.2.1 k k0 k1
    refine ⟨V, TInv_cong (T_thread q5 (w := w - m + i) (t := lv k) ⟨k, k0, hki, rfl⟩ hdis2 hD2 ⟨by omega, by omega⟩ nH nT ?_ n1 n2 n3) (fun x => Iff.rfl) hH, fun j j0 j1 => hV j j0 (by omega), fun r r0 r1 => ?_⟩
    · rw [NPf_lv hS k0 k1]
      refine ⟨fun h => ?_, fun _ => Or.inr (Or.inr ⟨by omega, by omega⟩)⟩
      rw [hi] at h
      omega
    · rw [n3 r ⟨r0, by omega⟩ (by omega) (by omega), hreg r r0 r1]
      exact hR r r0 r1
  · have q6 : TInv N V (TsB lv i) (HsB w m (i + 1)) (DnB M0 lv w m) (NPf lv w m) := T_frame q5 (fun x hx => n3 x (hD2 x hx))
    refine ⟨V, TInv_cong (T_done q6 (w := w - m + i) ?_) (fun x => Iff.rfl) hH, fun j j0 j1 => hV j j0 (by omega), fun r r0 r1 => ?_⟩
    · rw [n3 _ ⟨by omega, by omega⟩, e1]
      unfold DnB
      rw [hi]
      rcases hVi with q | ⟨q0, q⟩
      · exact ⟨fun _ => q.2, fun h => by omega⟩
      · refine ⟨fun h => by omega, fun _ => ?_⟩
        unfold Pl
        rcases q with q | q | ⟨z1, z2, q | q⟩
        · exact Or.inl q
        · exact Or.inr (Or.inl q)
        · exact absurd ⟨z1, z2, q.1⟩ pn
        · omega
    · rw [n3 r ⟨r0, by omega⟩, hreg r r0 r1]
      exact hR r r0 r1
theorem bw_end {cnt : Int} {fl M0 M N lv : Int → Int} {lim w m : Int} (hL : Lay cnt fl M0 lim w) (hS : LvS fl M0 lv lim w m) (hF : BwP M0 M lv w m 0) (e : ∀ x, Dm x → (x < 0 ∨ w - m ≤ x) → N x = M x) : Lay cnt fl N (w - m) w := by
  obtain ⟨V, ⟨ch, own, h1, h2⟩, hV, hR⟩ := hF
  have hl := hL.1
  have hm := LvS_m hS hl.2.1
  refine slide_end hL hS (fun r r0 r1 => by rw [e r ⟨r0, by omega⟩ (by omega)]; exact hR r r0 r1) (fun k k0 k1 => ?_)
  rw [e _ ⟨by omega, by omega⟩ (by omega)]
  have hi : w - m + k - (w - m) = k := by omega
  rcases h2 (w - m + k) (by unfold HsB; omega) with q | ⟨⟨j, j0, j1, _⟩, _⟩
  · unfold DnB at q
    rw [hi] at q
    exact q
  · omega
theorem Lay_nil {cnt : Int} {fl M N : Int → Int} {lim w : Int} (hL : Lay cnt fl M lim w) (e : ∀ x, Dm x → N x = M x ∨ (3048 ≤ M x ∧ M x ≤ 3207 ∧ N x = 3047)) : Lay cnt fl N lim w := by
  obtain ⟨hl, hr, hw, hf⟩ := hL
  have hh : ∀ x, Dm x → 5096 ≤ M x → N x = M x := fun x hx h => (e x hx).elim id (fun q => by omega)
  have hh2 : ∀ x, Dm x → M x < 5096 → N x < 5096 := fun x hx h => (e x hx).elim (fun q => by omega) (fun q => by omega)
  refine ⟨hl, fun r r0 r1 => ?_, fun a a0 a1 => ?_, fun h => ?_⟩
  · have h1 := hr r r0 r1
    rcases e r ⟨r0, by omega⟩ with q | q
    · rw [q]; exact h1
    · exact Or.inr (Or.inl q.2.2)
  · rcases hw a a0 a1 with z | ⟨d1, d2, d3, d4, d5, d6⟩
    · left
      rcases e a ⟨by omega, by omega⟩ with q | q
      · rw [q]; exact z
      · exact Or.inr (Or.inl q.2.2)
    · right
      have q := hh a ⟨by omega, by omega⟩ d1
      unfold LHd
      rw [q]
      refine ⟨d1, d2, d3, d4, fun j j0 j1 => hh2 _ ⟨by omega, by omega⟩ (d5 j j0 j1), fun h => ?_⟩
      rw [hh _ ⟨by omega, by omega⟩ (d6 h)]
      exact d6 h
  · rw [hh lim ⟨by omega, by omega⟩ (hf h)]
    exact hf h
theorem LvS_nil {cnt : Int} {fl M N lv : Int → Int} {lim w m : Int} (hL : Lay cnt fl M lim w) (hS : LvS fl M lv lim w m) (e : ∀ x, Dm x → N x = M x ∨ (3048 ≤ M x ∧ M x ≤ 3207 ∧ N x = 3047)) : LvS fl N lv lim w m := by
  obtain ⟨h0, h1, h2, h3, h4⟩ := hS
  have hl := hL.1
  refine ⟨h0, h1, h2, fun i i0 i1 h => ?_, fun i i0 i1 h => ?_⟩
  · have hr := h1 i i0 i1
    rcases e (lv i) ⟨by omega, by omega⟩ with q | q
    · rw [q] at h ⊢
      exact h3 i i0 i1 h
    · omega
  · have hr := h1 i i0 i1
    rcases e (lv i) ⟨by omega, by omega⟩ with q | q
    · rw [q] at h
      exact h4 i i0 i1 h
    · exact h4 i i0 i1 (by omega)
