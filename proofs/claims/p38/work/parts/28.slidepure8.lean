def BegX (h b : Nat → Int) (lim a : Int) : Prop := ∀ x, lim ≤ x → x < a → lim ≤ aI b x ∧ aI b x ≤ x ∧ 5096 ≤ mI h (aI b x) ∧ ∀ y, aI b x < y → y ≤ x → mI h y < 5096
def CellX (h : Nat → Int) (lim a c : Int) : Prop := a = lim ∨ (lim ≤ c ∧ c < a ∧ 5096 ≤ mI h c ∧ ∀ y, c < y → y < a → mI h y < 5096)
theorem BegX_init {h b : Nat → Int} {lim : Int} : BegX h b lim lim := fun x h0 h1 => by omega
theorem CellX_init {h : Nat → Int} {lim c : Int} : CellX h lim lim c := Or.inl rfl
theorem CellX_new {h : Nat → Int} {lim a x : Int} (h0 : lim ≤ a) (ex : x = h (a + 8).toNat) (hx : 5096 ≤ x) : CellX h lim (a + 1) a := Or.inr ⟨h0, by omega, by show 5096 ≤ h (a + 8).toNat; omega, fun y y0 y1 => by omega⟩
theorem CellX_up {cnt : Int} {fl h : Nat → Int} {lim w a c x : Int} (hV : VM cnt fl h lim w) (H : CellX h lim a c) (h1 : a < w) (ex : x = h (a + 8).toNat) (hx : x < 5096) : CellX h lim (a + 1) c := by
  have em : mI h a = x := ex.symm
  rcases H with q | ⟨q1, q2, q3, q4⟩
  · have := hV.2.2.2 (by omega)
    rw [← q, em] at this
    omega
  · refine Or.inr ⟨q1, by omega, q3, fun y y0 y1 => ?_⟩
    rcases (by omega : y < a ∨ y = a) with z | z
    · exact q4 y y0 z
    · rw [z, em]; exact hx
theorem BegX_step {h b b2 : Nat → Int} {lim a c : Int} (H : BegX h b lim a) (C : CellX h lim (a + 1) c) (h0 : lim ≤ a) (hl : 0 ≤ lim) (e : b2 = updI b a.toNat c) : BegX h b2 lim (a + 1) := by
  intro x x0 x1
  have e1 : aI b2 x = if x = a then c else aI b x := by
    rw [e]; unfold aI updI
    by_cases q : x = a
    · rw [if_pos q, if_pos (by rw [q])]
    · rw [if_neg q, if_neg (by omega)]
  rw [e1]
  by_cases q : x = a
  · rw [if_pos q]
    rcases C with z | ⟨q1, q2, q3, q4⟩
    · omega
    · exact ⟨q1, by omega, q3, fun y y0 y1 => q4 y y0 (by omega)⟩
  · rw [if_neg q]
    exact H x x0 (by omega)
def FiKeep (fi fi2 : Nat → Int) : Prop := ∀ a, 0 ≤ a → 0 ≤ aI fi a → 0 ≤ aI fi2 a
theorem FiKeep_rf {fi : Nat → Int} : FiKeep fi fi := fun _ _ h => h
theorem FiKeep_new {fi : Nat → Int} {z c : Int} (h : 0 ≤ c) : FiKeep fi (updI fi z.toNat c) := by
  intro a _ h2
  unfold aI updI at *
  by_cases q : a.toNat = z.toNat
  · rw [if_pos q]; exact h
  · rw [if_neg q]; exact h2
theorem FiKeep_tr {f1 f2 f3 : Nat → Int} (h : FiKeep f1 f2) (k : FiKeep f2 f3) : FiKeep f1 f3 := fun a h0 h1 => k a h0 (h a h0 h1)
def RchF (b fi : Nat → Int) (p wo cnt : Int) : Prop := p = -1 ∨ aI b p = -1 ∨ aI b p = wo ∨ cnt = 80 ∨ 0 ≤ aI fi (aI b p)
theorem RchF_found {b fi : Nat → Int} {p wo cnt z y : Int} (ez : z = b p.toNat) (ey : y = fi z.toNat) (hy : cnt = 80 ∨ 0 ≤ y) : RchF b fi p wo cnt := by
  have e1 : aI b p = z := ez.symm
  have e2 : aI fi z = y := ey.symm
  unfold RchF
  rw [e1, e2]
  omega
theorem RchF_new {b fi : Nat → Int} {p wo cnt z : Int} (ez : z = b p.toNat) (h : 0 ≤ cnt) : RchF b (updI fi z.toNat cnt) p wo cnt := by
  have e1 : aI b p = z := ez.symm
  unfold RchF
  rw [e1]
  have e2 : aI (updI fi z.toNat cnt) z = cnt := by unfold aI updI; rw [if_pos rfl]
  rw [e2]
  omega
def RegI (h b fi : Nat → Int) (r p2 p3 : Int) : Prop := p2 = -1 → p3 = -1 → ∀ q, 0 ≤ q → q < r → 3048 ≤ h q.toNat → h q.toNat ≤ 3207 → 0 ≤ aI fi (aI b (h q.toNat - 3048))
theorem RegI_init {h b fi : Nat → Int} {p2 p3 : Int} : RegI h b fi 0 p2 p3 := fun _ _ q q0 q1 => by omega
theorem RegI_skip {h b fi : Nat → Int} {r p2 p3 : Int} (H : RegI h b fi r p2 p3) (e : r = p2) (h0 : 0 ≤ r) : RegI h b fi (r + 1) p2 p3 := fun e2 _ => by omega
theorem RegI_keep {cnt : Int} {fl h b fi fi2 : Nat → Int} {lim w r p2 p3 : Int} (hV : VM cnt fl h lim w) (hB : BegX h b lim w) (H : RegI h b fi r p2 p3) (hr : r ≤ 8) (K : FiKeep fi fi2) : RegI h b fi2 r p2 p3 := by
  intro e2 e3 q q0 q1 h1 h2
  have hl := hV.1
  have hp := hV.2.1 (q - 8) (by omega) (by omega)
  have em : mI h (q - 8) = h q.toNat := by unfold mI; rw [(by omega : q - 8 + 8 = q)]
  rw [em] at hp
  have hb := hB (h q.toNat - 3048) (by unfold Pl at hp; omega) (by unfold Pl at hp; omega)
  exact K _ (by omega) (H e2 e3 q q0 q1 h1 h2)
theorem RegI_step {cnt : Int} {fl h b fi fi2 : Nat → Int} {lim w r p2 p3 x z wo c : Int} (hV : VM cnt fl h lim w) (hB : BegX h b lim w) (H : RegI h b fi r p2 p3) (h0 : 0 ≤ r) (hr : r < 8) (K : FiKeep fi fi2) (ex : x = h r.toNat) (hz : x ≤ 3047 ∨ 5096 ≤ x ∨ z = x - 3048) (R : RchF b fi2 z wo c) (hw : wo = p3) (hc : c < 80) : RegI h b fi2 (r + 1) p2 p3 := by
  intro e2 e3 q q0 q1 h1 h2
  rcases (by omega : q < r ∨ q = r) with e | e
  · exact RegI_keep hV hB H (by omega) K e2 e3 q q0 e h1 h2
  · subst e
    have hl := hV.1
    have hp := hV.2.1 (q - 8) (by omega) (by omega)
    have em : mI h (q - 8) = h q.toNat := by unfold mI; rw [(by omega : q - 8 + 8 = q)]
    rw [em] at hp
    have hb := hB (h q.toNat - 3048) (by unfold Pl at hp; omega) (by unfold Pl at hp; omega)
    have ez : z = h q.toNat - 3048 := by omega
    unfold RchF at R
    rw [ez] at R
    omega
def LvW (b fi : Nat → Int) (a : Int) : Prop := ¬ aI b a = -1 ∧ ¬ aI fi (aI b a) = -1
def IsL (b fi : Nat → Int) (a z : Int) : Prop := (z = 1 ∧ LvW b fi a) ∨ (z = 0 ∧ ¬ LvW b fi a)
theorem IsL_yes {b fi : Nat → Int} {a x y : Int} (ex : x = b a.toNat) (ey : y = fi x.toNat) (hx : ¬ x = -1) (hy : ¬ y = -1) : IsL b fi a 1 := by
  refine Or.inl ⟨rfl, ?_, ?_⟩
  · show ¬ b a.toNat = -1; omega
  · show ¬ fi (b a.toNat).toNat = -1; rw [← ex, ← ey]; exact hy
theorem IsL_no1 {b fi : Nat → Int} {a x : Int} (ex : x = b a.toNat) (hx : x = -1) : IsL b fi a 0 := Or.inr ⟨rfl, fun q => q.1 (by show b a.toNat = -1; omega)⟩
theorem IsL_no2 {b fi : Nat → Int} {a x y : Int} (ex : x = b a.toNat) (ey : y = fi x.toNat) (hy : y = -1) : IsL b fi a 0 := Or.inr ⟨rfl, fun q => q.2 (by show fi (b a.toNat).toNat = -1; rw [← ex, ← ey]; exact hy)⟩
theorem ub_cong {l1 l2 : Int → Int} : ∀ n : Nat, (∀ i : Int, 0 ≤ i → i < n → l1 i = l2 i) → ub l1 n = ub l2 n := by
  intro n
  induction n with
  | zero => intro _; rfl
  | succ n ih =>
    intro h
    show ub l1 n + _ = ub l2 n + _
    rw [ih (fun i i0 i1 => h i i0 (by omega))]
    by_cases q : n = 0
    · rw [if_pos q, if_pos q]
    · rw [if_neg q, if_neg q, h ((n : Int) - 1) (by omega) (by omega), h (n : Int) (by omega) (by omega)]
def PlI (b fi lv : Nat → Int) (lim a m bl : Int) : Prop := 0 ≤ m ∧ (∀ i, 0 ≤ i → i < m → lim ≤ aI lv i ∧ aI lv i < a ∧ LvW b fi (aI lv i)) ∧ (∀ i, 0 ≤ i → i + 1 < m → aI lv i < aI lv (i + 1)) ∧ (∀ y, lim ≤ y → y < a → LvW b fi y → ∃ i, 0 ≤ i ∧ i < m ∧ aI lv i = y) ∧ bl = ub (aI lv) m.toNat
theorem PlI_init {b fi lv : Nat → Int} {lim : Int} : PlI b fi lv lim lim 0 0 := ⟨Int.le_refl _, fun i h0 h1 => by omega, fun i h0 h1 => by omega, fun y h0 h1 => by omega, rfl⟩
theorem PlI_skip {b fi lv : Nat → Int} {lim a m bl z : Int} (H : PlI b fi lv lim a m bl) (L : IsL b fi a z) (hz : z = 0) : PlI b fi lv lim (a + 1) m bl := by
  have hn : ¬ LvW b fi a := L.elim (fun q => by omega) (fun q => q.2)
  obtain ⟨h0, h1, h2, h3, h4⟩ := H
  refine ⟨h0, fun i i0 i1 => ⟨(h1 i i0 i1).1, by have := (h1 i i0 i1).2.1; omega, (h1 i i0 i1).2.2⟩, h2, fun y y0 y1 hy => ?_, h4⟩
  rcases (by omega : y < a ∨ y = a) with q | q
  · exact h3 y y0 q hy
  · rw [q] at hy; exact absurd hy hn
theorem PlI_push {b fi lv lv2 : Nat → Int} {lim a m bl bl2 z : Int} (H : PlI b fi lv lim a m bl) (L : IsL b fi a z) (hz : ¬ z = 0) (hl : lim ≤ a) (e : lv2 = updI lv m.toNat a) (hb : (Bk (aI lv2) m ∧ bl2 = bl + 1) ∨ (1 ≤ m ∧ aI lv2 (m - 1) = aI lv2 m - 1 ∧ bl2 = bl)) : PlI b fi lv2 lim (a + 1) (m + 1) bl2 := by
  have hy : LvW b fi a := L.elim (fun q => q.2) (fun q => by omega)
  obtain ⟨h0, h1, h2, h3, h4⟩ := H
  have e1 : ∀ i, 0 ≤ i → aI lv2 i = if i = m then a else aI lv i := by
    intro i i0
    rw [e]; unfold aI updI
    by_cases q : i = m
    · rw [if_pos q, if_pos (by rw [q])]
    · rw [if_neg q, if_neg (by omega)]
  refine ⟨by omega, fun i i0 i1 => ?_, fun i i0 i1 => ?_, fun y y0 y1 hw => ?_, ?_⟩
  · rw [e1 i i0]
    by_cases q : i = m
    · rw [if_pos q]; exact ⟨hl, by omega, hy⟩
    · rw [if_neg q]
      have := h1 i i0 (by omega)
      exact ⟨this.1, by omega, this.2.2⟩
  · rw [e1 i i0, e1 (i + 1) (by omega), if_neg (by omega)]
    by_cases q : i + 1 = m
    · rw [if_pos q]; exact (h1 i i0 (by omega)).2.1
    · rw [if_neg q]; exact h2 i i0 (by omega)
  · rcases (by omega : y < a ∨ y = a) with q | q
    · obtain ⟨i, i0, i1, ei⟩ := h3 y y0 q hw
      exact ⟨i, i0, by omega, by rw [e1 i i0, if_neg (by omega)]; exact ei⟩
    · exact ⟨m, h0, by omega, by rw [e1 m h0, if_pos rfl]; exact q.symm⟩
  · have h5 : ub (aI lv2) m.toNat = ub (aI lv) m.toNat := ub_cong m.toNat (fun i i0 i1 => by rw [e1 i i0, if_neg (by omega)])
    rcases hb with ⟨q1, q2⟩ | ⟨q0, q1, q2⟩
    · rw [ub_bk h0 q1, h5]; omega
    · rw [ub_nb q0 q1, h5]; omega
theorem PlI_push1 {b fi lv lv2 : Nat → Int} {lim a m bl z x : Int} (H : PlI b fi lv lim a m bl) (L : IsL b fi a z) (hz : ¬ z = 0) (hl : lim ≤ a) (e : lv2 = updI lv m.toNat a) (hx : m = 0 ∨ (x = lv (m - 1).toNat ∧ ¬ x = a - 1)) : PlI b fi lv2 lim (a + 1) (m + 1) (bl + 1) := by
  refine PlI_push H L hz hl e (Or.inl ⟨?_, rfl⟩)
  rcases hx with q | ⟨q1, q2⟩
  · exact Or.inl q
  · have h0 := H.1
    rcases (by omega : m = 0 ∨ 1 ≤ m) with z | z
    · exact Or.inl z
    · refine Or.inr ?_
      rw [e]; unfold aI updI
      rw [if_pos rfl, if_neg (by omega), ← q1]
      exact q2
theorem PlI_push0 {b fi lv lv2 : Nat → Int} {lim a m bl z x : Int} (H : PlI b fi lv lim a m bl) (L : IsL b fi a z) (hz : ¬ z = 0) (hl : lim ≤ a) (e : lv2 = updI lv m.toNat a) (hm : 1 ≤ m) (ex : x = lv (m - 1).toNat) (hx : x = a - 1) : PlI b fi lv2 lim (a + 1) (m + 1) bl := by
  refine PlI_push H L hz hl e (Or.inr ⟨hm, ?_, rfl⟩)
  rw [e]; unfold aI updI
  rw [if_pos rfl, if_neg (by omega), ← ex]
  exact hx
theorem PlI_end {cnt : Int} {fl h b fi lv : Nat → Int} {lim w a m bl : Int} (hV : VM cnt fl h lim w) (hB : BegX h b lim w) (hR : RegI h b fi 8 (-1) (-1)) (hf : ∀ j : Nat, j < 160 → -1 ≤ fi j) (H : PlI b fi lv lim a m bl) (ha : a = w) : Plan cnt fl h lv lim w m bl := by
  subst ha
  obtain ⟨h0, h1, h2, h3, h4⟩ := H
  have hl := hV.1
  have lt : ∀ (n : Nat) (i : Int), 0 ≤ i → i + n < m → aI lv i + n ≤ aI lv (i + n) := by
    intro n
    induction n with
    | zero => intro i i0 i1; simp
    | succ n ih =>
      intro i i0 i1
      have q1 := ih i i0 (by omega)
      have q2 := h2 (i + n) (by omega) (by omega)
      rw [(by omega : i + ((n + 1 : Nat) : Int) = i + n + 1)]
      omega
  have lt2 : ∀ i j, 0 ≤ i → i < j → j < m → aI lv i < aI lv j := by
    intro i j i0 ij jm
    have q := lt (j - i).toNat i i0 (by omega)
    rw [(by omega : i + ((j - i).toNat : Int) = j)] at q
    omega
  have live : ∀ x y, lim ≤ x → x < a → LvW b fi x → lim ≤ y → y < a → aI b y = aI b x → LvW b fi y := by
    intro x y _ _ hx _ _ e
    unfold LvW at *
    rw [e]; exact hx
  have hbx : ∀ x, lim ≤ x → x < a → lim ≤ aI b x ∧ aI b x ≤ x := fun x x0 x1 => ⟨(hB x x0 x1).1, (hB x x0 x1).2.1⟩
  have hd : ∀ x, lim ≤ x → x < a → 5096 ≤ mI h x → aI b x = x := by
    intro x x0 x1 hx
    have q := hB x x0 x1
    rcases (by omega : aI b x = x ∨ aI b x < x) with z | z
    · exact z
    · have := q.2.2.2 x z (Int.le_refl _); omega
  have hnd : ∀ x, lim < x → x < a → mI h x < 5096 → aI b x = aI b (x - 1) := by
    intro x x0 x1 hx
    have q := hB x (by omega) x1
    have q' := hB (x - 1) (by omega) (by omega)
    have n1 : aI b x ≠ x := fun e => by rw [e] at q; omega
    rcases (by omega : aI b x = aI b (x - 1) ∨ aI b x < aI b (x - 1) ∨ aI b (x - 1) < aI b x) with z | z | z
    · exact z
    · have := q.2.2.2 _ z (by omega); omega
    · have := q'.2.2.2 _ z (by omega); omega
  refine ⟨hV, ⟨h0, fun i i0 i1 => ⟨(h1 i i0 i1).1, (h1 i i0 i1).2.1⟩, h2, ?_, ?_⟩, h4, ?_⟩
  · intro i i0 i1 hh
    have hr := h1 i i0 i1
    obtain ⟨d1, d2, d3, d4, d5, d6⟩ : LHd cnt (aI fl) (mI h) a (aI lv i) := by
      rcases hV.2.2.1 (aI lv i) hr.1 hr.2.1 with z | z
      · have := Pl_lt z hl.2.2.1; omega
      · exact z
    have hbi := hd (aI lv i) hr.1 hr.2.1 hh
    have hbj : ∀ n : Nat, (n : Int) ≤ aI fl (mI h (aI lv i) - 5096) → aI b (aI lv i + n) = aI lv i := by
      intro n
      induction n with
      | zero => intro _; rw [(by simp : aI lv i + ((0 : Nat) : Int) = aI lv i)]; exact hbi
      | succ n ih =>
        intro hn
        have q := hnd (aI lv i + ((n + 1 : Nat) : Int)) (by omega) (by omega) (d5 _ (by omega) hn)
        rw [q, (by omega : aI lv i + ((n + 1 : Nat) : Int) - 1 = aI lv i + n)]
        exact ih (by omega)
    have key : ∀ n : Nat, (n : Int) ≤ aI fl (mI h (aI lv i) - 5096) → i + n < m ∧ aI lv (i + n) = aI lv i + n := by
      intro n
      induction n with
      | zero => intro _; simp; exact i1
      | succ n ih =>
        intro hn
        have q := ih (by omega)
        have hw : LvW b fi (aI lv i + ((n + 1 : Nat) : Int)) := live (aI lv i) _ hr.1 hr.2.1 hr.2.2 (by omega) (by omega) (by rw [hbj _ hn, hbi])
        obtain ⟨k, k0, k1, ek⟩ := h3 _ (by omega) (by omega) hw
        have hk : i + n < k := by
          rcases (by omega : k < i + n ∨ k = i + n ∨ i + n < k) with z | z | z
          · have := lt2 k (i + n) k0 z q.1; omega
          · rw [z] at ek; omega
          · exact z
        rcases (by omega : k = i + n + 1 ∨ i + n + 1 < k) with z | z
        · rw [(by omega : i + ((n + 1 : Nat) : Int) = k)]
          exact ⟨k1, ek⟩
        · have z1 := lt2 (i + n) (i + n + 1) (by omega) (by omega) (by omega)
          have z2 := lt2 (i + n + 1) k (by omega) z k1
          omega
    intro j j0 j1
    have q := key j.toNat (by omega)
    rw [(by omega : ((j.toNat : Nat) : Int) = j)] at q
    exact q
  · intro i i0 i1 hh
    have hr := h1 i i0 i1
    have hgt : lim < aI lv i := by
      rcases (by omega : lim = aI lv i ∨ lim < aI lv i) with z | z
      · have := hV.2.2.2 (by omega)
        rw [z] at this; omega
      · exact z
    have hw : LvW b fi (aI lv i - 1) := live (aI lv i) _ hr.1 hr.2.1 hr.2.2 (by omega) (by omega) (hnd _ hgt hr.2.1 hh).symm
    obtain ⟨k, k0, k1, ek⟩ := h3 _ (by omega) (by omega) hw
    have hk : k < i := by
      rcases (by omega : k < i ∨ k = i ∨ i < k) with z | z | z
      · exact z
      · rw [z] at ek; omega
      · have := lt2 i k i0 z k1; omega
    rcases (by omega : k = i - 1 ∨ k < i - 1) with z | z
    · rw [← z]; exact ⟨by omega, ek⟩
    · have z1 := lt2 k (i - 1) k0 z (by omega)
      have z2 := lt2 (i - 1) i (by omega) (by omega) i1
      omega
  · intro r r0 r1 p1 p2
    have hp := hV.2.1 r r0 r1
    have em : mI h r = h (r + 8).toNat := rfl
    have h9 := hR rfl rfl (r + 8) (by omega) (by omega) (by omega) (by omega)
    rw [← em] at h9
    have hrg : lim ≤ mI h r - 3048 ∧ mI h r - 3048 < a := by unfold Pl at hp; omega
    have hb := hbx _ hrg.1 hrg.2
    refine h3 _ hrg.1 hrg.2 ⟨by omega, by omega⟩
def LeF (fl : Nat → Int) (k f : Int) : Prop := f ≤ fl k.toNat
theorem LeF_mk {fl : Nat → Int} {k f : Int} (h : f ≤ fl k.toNat) : LeF fl k f := h
theorem CW_keep2 {h0 h lv : Nat → Int} {lim w m a y y2 i x t : Int} (C : CW h0 h lv lim w m a y) (hx : x = h i.toNat) (hi : i = y + 8) (hp : (x ≤ 3047 ∨ 5096 ≤ x) ∨ ∃ z, NewP lv m w t z ∧ t = x - 3048 ∧ ¬ z = -1) (hy : y2 = y + 1) : CW h0 h lv lim w m a y2 := by
  subst hi
  subst hy
  refine CW_keep C hx ?_
  rcases hp with q | ⟨z, q1, q2, q3⟩
  · exact Or.inl q
  · subst q2
    exact Or.inr ⟨z, q1, q3⟩
theorem CW_nil2 {h0 h h2 lv : Nat → Int} {lim w m a y y2 i j x : Int} (C : CW h0 h lv lim w m a y) (hy0 : 0 ≤ y ∧ y < 160) (hx : x = h i.toNat) (hi : i = y + 8) (hp : 3048 ≤ x ∧ x ≤ 3207) (e : h2 = updI h j.toNat 3047) (hj : j = y + 8) (hy : y2 = y + 1) : CW h0 h2 lv lim w m a y2 := by
  subst hi
  subst hj
  subst hy
  exact CW_nil C hy0 hx hp e
theorem CW_to {h0 h lv : Nat → Int} {lim w m a y y2 : Int} (C : CW h0 h lv lim w m a y) (hy : y2 = y) : CW h0 h lv lim w m a y2 := by
  subst hy
  exact C
theorem NewP_m1 {lv : Nat → Int} {m w a z : Int} (h : NewP lv m w a z) (hz : z = -1) : NewP lv m w a (-1) := by
  subst hz
  exact h
theorem Mid1_0 {cnt : Int} {fl h lv : Nat → Int} {lim w m bl meth d : Int} (H : Mid1 cnt fl h lv lim w m bl meth 0) (hd : d = 0) : Mid1 cnt fl h lv lim w m bl meth d := by
  subst hd
  exact H
