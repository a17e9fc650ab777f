def ub (lv : Int → Int) : Nat → Int
  | 0 => 0
  | n + 1 => ub lv n + (if n = 0 then 1 else if lv ((n : Int) - 1) = lv (n : Int) - 1 then 0 else 1)
def Bk (lv : Int → Int) (b : Int) : Prop := b = 0 ∨ ¬ lv (b - 1) = lv b - 1
def BtP (lv : Int → Int) (m n b : Int) : Prop := 0 ≤ b ∧ b ≤ m ∧ ub lv m.toNat - ub lv b.toNat = n ∧ (b = m ∨ Bk lv b)
def EndB (lv : Int → Int) (m f e : Int) : Prop := f < e ∧ e ≤ m ∧ (∀ j, f < j → j < e → lv j = lv (j - 1) + 1) ∧ (e = m ∨ ¬ lv e = lv (e - 1) + 1)
theorem ub_bk {lv : Int → Int} {b : Int} (h0 : 0 ≤ b) (h : Bk lv b) : ub lv (b + 1).toNat = ub lv b.toNat + 1 := by
  have e : (b + 1).toNat = b.toNat + 1 := by omega
  rw [e]
  show ub lv b.toNat + _ = _
  congr 1
  by_cases q : b.toNat = 0
  · rw [if_pos q]
  · rw [if_neg q]
    have e2 : ((b.toNat : Nat) : Int) = b := by omega
    rw [e2]
    rcases h with h | h
    · omega
    · rw [if_neg h]
theorem ub_nb {lv : Int → Int} {b : Int} (h0 : 1 ≤ b) (h : lv (b - 1) = lv b - 1) : ub lv (b + 1).toNat = ub lv b.toNat := by
  have e : (b + 1).toNat = b.toNat + 1 := by omega
  rw [e]
  show ub lv b.toNat + _ = _
  have e2 : ((b.toNat : Nat) : Int) = b := by omega
  rw [if_neg (by omega), e2, if_pos h]
  omega
theorem ub_step {lv : Int → Int} (n : Nat) : ub lv n ≤ ub lv (n + 1) := by
  show ub lv n ≤ ub lv n + _
  by_cases q : n = 0
  · rw [if_pos q]; omega
  · rw [if_neg q]
    by_cases q2 : lv ((n : Int) - 1) = lv (n : Int) - 1
    · rw [if_pos q2]; omega
    · rw [if_neg q2]; omega
theorem ub_le {lv : Int → Int} (n : Nat) : ∀ k : Nat, ub lv n ≤ ub lv (n + k) := by
  intro k
  induction k with
  | zero => exact Int.le_refl _
  | succ k ih => exact Int.le_trans ih (ub_step (n + k))
theorem ub_mono {lv : Int → Int} {i j : Int} (h0 : 0 ≤ i) (h : i ≤ j) : ub lv i.toNat ≤ ub lv j.toNat := by
  have h1 := ub_le (lv := lv) i.toNat (j - i).toNat
  have e : i.toNat + (j - i).toNat = j.toNat := by omega
  rw [e] at h1
  exact h1
theorem ub_pos {lv : Int → Int} {i : Int} (h : 1 ≤ i) : 1 ≤ ub lv i.toNat := by
  have h1 := ub_mono (lv := lv) (i := 1) (j := i) (by omega) h
  have h2 : ub lv (1 : Int).toNat = 1 := rfl
  omega
theorem ub_max {lv : Int → Int} (n : Nat) : 0 ≤ ub lv n ∧ ub lv n ≤ n := by
  induction n with
  | zero => exact ⟨Int.le_refl _, Int.le_refl _⟩
  | succ n ih =>
    have h1 := ub_step (lv := lv) n
    refine ⟨by omega, ?_⟩
    show ub lv n + _ ≤ _
    by_cases q : n = 0
    · rw [if_pos q]; omega
    · rw [if_neg q]
      by_cases q2 : lv ((n : Int) - 1) = lv (n : Int) - 1
      · rw [if_pos q2]; omega
      · rw [if_neg q2]; omega
theorem BtP_init {lv : Int → Int} {m : Int} (h : 0 ≤ m) : BtP lv m 0 m := ⟨h, Int.le_refl _, by omega, Or.inl rfl⟩
theorem BtP_zero {lv : Int → Int} {m n b : Int} (h : BtP lv m n b) (hn : n = ub lv m.toNat) : b = 0 := by
  obtain ⟨h0, h1, h2, _⟩ := h
  rcases (by omega : b = 0 ∨ 1 ≤ b) with q | q
  · exact q
  · have := ub_pos (lv := lv) q
    omega
theorem BtP_lt {lv : Int → Int} {m n b c : Int} (h : BtP lv m n b) (k : BtP lv m n c) : ¬ b < c := by
  intro q
  obtain ⟨h0, h1, h2, h3⟩ := h
  obtain ⟨k0, k1, k2, k3⟩ := k
  have h4 : Bk lv b := by
    rcases h3 with z | z
    · omega
    · exact z
  have h5 := ub_bk h0 h4
  have h6 := ub_mono (lv := lv) (i := b + 1) (j := c) (by omega) (by omega)
  omega
theorem BtP_uniq {lv : Int → Int} {m n b c : Int} (h : BtP lv m n b) (k : BtP lv m n c) : b = c := by
  have h1 := BtP_lt h k
  have h2 := BtP_lt k h
  omega
theorem EndB_lin {lv : Int → Int} {m f e : Int} (h : EndB lv m f e) : ∀ (n : Nat), f + n < e → lv (f + n) = lv f + n := by
  intro n
  induction n with
  | zero => intro _; simp
  | succ n ih =>
    intro hn
    have h1 := ih (by omega)
    have h2 := h.2.2.1 (f + ((n + 1 : Nat) : Int)) (by omega) hn
    have e : f + ((n + 1 : Nat) : Int) - 1 = f + n := by omega
    rw [e] at h2
    omega
theorem EndB_at {lv : Int → Int} {m f e k : Int} (h : EndB lv m f e) (h0 : f ≤ k) (h1 : k < e) : lv k = lv f + (k - f) := by
  have h2 := EndB_lin h (k - f).toNat (by omega)
  have e1 : f + ((k - f).toNat : Int) = k := by omega
  rw [e1] at h2
  omega
theorem EndB_ub {lv : Int → Int} {m f e : Int} (h0 : 0 ≤ f) (h : EndB lv m f e) : ∀ (n : Nat), f + 1 + n ≤ e → ub lv (f + 1 + n).toNat = ub lv (f + 1).toNat := by
  intro n
  induction n with
  | zero => intro _; simp
  | succ n ih =>
    intro hn
    have h1 := ih (by omega)
    have h2 := h.2.2.1 (f + 1 + n) (by omega) (by omega)
    have h3 := ub_nb (lv := lv) (b := f + 1 + n) (by omega) (by omega)
    have e : f + 1 + ((n + 1 : Nat) : Int) = f + 1 + n + 1 := by omega
    rw [e, h3, h1]
theorem BtP_next {lv : Int → Int} {m n f e : Int} (h : BtP lv m (n + 1) f) (hf : f < m) (he : EndB lv m f e) : BtP lv m n e := by
  obtain ⟨h0, h1, h2, h3⟩ := h
  have hb : Bk lv f := by
    rcases h3 with z | z
    · omega
    · exact z
  have h5 := ub_bk h0 hb
  have h6 := EndB_ub h0 he (e - (f + 1)).toNat (by have := he.1; omega)
  have e1 : f + 1 + ((e - (f + 1)).toNat : Int) = e := by have := he.1; omega
  rw [e1] at h6
  refine ⟨by have := he.1; omega, he.2.1, by omega, ?_⟩
  rcases he.2.2.2 with z | z
  · exact Or.inl z
  · exact Or.inr (Or.inr (by omega))
def BlP (M0 M lv : Int → Int) (w m b : Int) : Prop := (∀ k, b ≤ k → k < m → M (w - m + k) = M0 (lv k)) ∧ (∀ k, 0 ≤ k → k < b → M (lv k) = M0 (lv k)) ∧ ∀ r, -8 ≤ r → r < 0 → M r = M0 r
theorem bl_init {M0 M lv : Int → Int} {w m : Int} (h : ∀ x, Dm x → M x = M0 x) (hlv : ∀ k, 0 ≤ k → k < m → Dm (lv k)) : BlP M0 M lv w m m := ⟨fun k k0 k1 => by omega, fun k k0 k1 => h _ (hlv k k0 k1), fun r r0 r1 => h r ⟨r0, by omega⟩⟩
theorem bl_step {cnt : Int} {fl M0 M N lv : Int → Int} {lim w m b f : Int} (hL : Lay cnt fl M0 lim w) (hS : LvS fl M0 lv lim w m) (h : BlP M0 M lv w m b) (h0 : 0 ≤ f) (h1 : f < b) (h2 : b ≤ m) (e1 : ∀ k, f ≤ k → k < b → N (w - m + k) = M (lv k)) (e2 : ∀ x, Dm x → (x < lv f ∨ w - m + b ≤ x) → N x = M x) : BlP M0 N lv w m f := by
  obtain ⟨a1, a2, a3⟩ := h
  have hl := hL.1
  have hm := LvS_m hS hl.2.1
  have hrf := hS.2.1 f h0 (by omega)
  refine ⟨fun k k0 k1 => ?_, fun k k0 k1 => ?_, fun r r0 r1 => ?_⟩
  · rcases (by omega : k < b ∨ b ≤ k) with z | z
    · rw [e1 k k0 z]
      exact a2 k (by omega) z
    · rw [e2 _ ⟨by omega, by omega⟩ (by omega)]
      exact a1 k z k1
  · have hr := hS.2.1 k k0 (by omega)
    have hlt := LvS_lt hS k0 k1 (by omega)
    rw [e2 _ ⟨by omega, by omega⟩ (by omega)]
    exact a2 k k0 (by omega)
  · rw [e2 r ⟨r0, by omega⟩ (by omega)]
    exact a3 r r0 r1
def RsP (M0 M lv : Int → Int) (w m r i : Int) : Prop := (∀ x, -8 ≤ x → x < r - 8 → Pl (w - m) w (M x)) ∧ (∀ x, r - 8 ≤ x → x < 0 → M x = M0 x) ∧ (∀ k, 0 ≤ k → k < i → (5096 ≤ M0 (lv k) → M (w - m + k) = M0 (lv k)) ∧ (M0 (lv k) < 5096 → Pl (w - m) w (M (w - m + k)))) ∧ ∀ k, i ≤ k → k < m → M (w - m + k) = M0 (lv k)
theorem rs_init {M0 M lv : Int → Int} {w m : Int} (h : BlP M0 M lv w m 0) : RsP M0 M lv w m 0 0 := ⟨fun x x0 x1 => by omega, fun x x0 x1 => h.2.2 x (by omega) x1, fun k k0 k1 => by omega, fun k k0 k1 => h.1 k k0 k1⟩
theorem Pl_up {cnt : Int} {fl M0 lv : Int → Int} {lim w m k : Int} (hL : Lay cnt fl M0 lim w) (hS : LvS fl M0 lv lim w m) (k0 : 0 ≤ k) (k1 : k < m) : Pl (w - m) w (3048 + (w - m + k)) := Or.inr (Or.inr ⟨by omega, by omega⟩)
theorem Pl_no {lim lo w v : Int} (h : Pl lim w v) (hn : ¬ (3048 ≤ v ∧ v ≤ 3207)) (hl : 0 ≤ lim) (hw : w ≤ 160) : Pl lo w v := by
  unfold Pl at *
  omega
theorem rs_reg {cnt : Int} {fl M0 M N lv : Int → Int} {lim w m r : Int} (hL : Lay cnt fl M0 lim w) (hS : LvS fl M0 lv lim w m) (h : RsP M0 M lv w m r 0) (h0 : 0 ≤ r) (h1 : r < 8) (hv : Pl (w - m) w (N (r - 8))) (e3 : ∀ x, Dm x → x ≠ r - 8 → N x = M x) : RsP M0 N lv w m (r + 1) 0 := by
  obtain ⟨a1, a2, a3, a4⟩ := h
  have hl := hL.1
  have hm := LvS_m hS hl.2.1
  refine ⟨fun x x0 x1 => ?_, fun x x0 x1 => ?_, fun k k0 k1 => by omega, fun k k0 k1 => ?_⟩
  · rcases (by omega : x = r - 8 ∨ x < r - 8) with z | z
    · rw [z]; exact hv
    · rw [e3 x ⟨x0, by omega⟩ (by omega)]
      exact a1 x x0 z
  · rw [e3 x ⟨by omega, by omega⟩ (by omega)]
    exact a2 x (by omega) x1
  · rw [e3 _ ⟨by omega, by omega⟩ (by omega)]
    exact a4 k k0 k1
theorem rs_word {cnt : Int} {fl M0 M N lv : Int → Int} {lim w m i : Int} (hL : Lay cnt fl M0 lim w) (hS : LvS fl M0 lv lim w m) (h : RsP M0 M lv w m 8 i) (h0 : 0 ≤ i) (h1 : i < m) (hv : (5096 ≤ M0 (lv i) → N (w - m + i) = M0 (lv i)) ∧ (M0 (lv i) < 5096 → Pl (w - m) w (N (w - m + i)))) (e3 : ∀ x, Dm x → x ≠ w - m + i → N x = M x) : RsP M0 N lv w m 8 (i + 1) := by
  obtain ⟨a1, a2, a3, a4⟩ := h
  have hl := hL.1
  have hm := LvS_m hS hl.2.1
  refine ⟨fun x x0 x1 => ?_, fun x x0 x1 => by omega, fun k k0 k1 => ?_, fun k k0 k1 => ?_⟩
  · rw [e3 x ⟨x0, by omega⟩ (by omega)]
    exact a1 x x0 x1
  · rcases (by omega : k = i ∨ k < i) with z | z
    · rw [z]; exact hv
    · rw [e3 _ ⟨by omega, by omega⟩ (by omega)]
      exact a3 k k0 z
  · rw [e3 _ ⟨by omega, by omega⟩ (by omega)]
    exact a4 k (by omega) k1
theorem rs_end {cnt : Int} {fl M0 M N lv : Int → Int} {lim w m : Int} (hL : Lay cnt fl M0 lim w) (hS : LvS fl M0 lv lim w m) (hF : RsP M0 M lv w m 8 m) (e : ∀ x, Dm x → (x < 0 ∨ w - m ≤ x) → N x = M x) : Lay cnt fl N (w - m) w := by
  have hl := hL.1
  have hm := LvS_m hS hl.2.1
  refine slide_end hL hS (fun r r0 r1 => by rw [e r ⟨r0, by omega⟩ (by omega)]; exact hF.1 r r0 (by omega)) (fun k k0 k1 => ?_)
  rw [e _ ⟨by omega, by omega⟩ (by omega)]
  exact hF.2.2.1 k k0 k1
def mI (h : Nat → Int) : Int → Int := fun a => h (a + 8).toNat
def aI (g : Nat → Int) : Int → Int := fun i => g i.toNat
theorem mI_upd {h : Nat → Int} {a x v : Int} (ha : -8 ≤ a) (hx : -8 ≤ x) : mI (updI h (a + 8).toNat v) x = if x = a then v else mI h x := by
  unfold mI updI
  by_cases e : x = a
  · rw [if_pos e, if_pos (by rw [e])]
  · rw [if_neg e, if_neg (by omega)]
theorem mI_upd_eq {h : Nat → Int} {a v : Int} (ha : -8 ≤ a) : mI (updI h (a + 8).toNat v) a = v := by rw [mI_upd ha ha, if_pos rfl]
theorem mI_upd_ne {h : Nat → Int} {a x v : Int} (ha : -8 ≤ a) (hx : Dm x) (hn : x ≠ a) : mI (updI h (a + 8).toNat v) x = mI h x := by rw [mI_upd ha hx.1, if_neg hn]
def RegL (M lv : Int → Int) (m : Int) : Prop := ∀ r, -8 ≤ r → r < 0 → PtL M lv m r
def Ph (M0 M lv : Int → Int) (w m bl meth done : Int) : Prop := (done = 0 ∧ (∀ x, Dm x → M x = M0 x) ∧ RegL M0 lv m) ∨ (Mk M0 lv m ∧ ((meth = 0 ∧ ((1 ≤ done ∧ done ≤ 9 ∧ FwP M0 M lv w m (done - 1) 0) ∨ (9 ≤ done ∧ done ≤ 9 + m ∧ FwP M0 M lv w m 8 (done - 9)) ∨ (9 + m ≤ done ∧ done ≤ 9 + 2 * m ∧ BwP M0 M lv w m (9 + 2 * m - done)))) ∨ (meth = 1 ∧ ((1 ≤ done ∧ done ≤ 1 + bl ∧ ∃ b, BtP lv m (done - 1) b ∧ BlP M0 M lv w m b) ∨ (1 + bl ≤ done ∧ done ≤ 9 + bl ∧ RsP M0 M lv w m (done - 1 - bl) 0) ∨ (9 + bl ≤ done ∧ done ≤ 9 + bl + m ∧ RsP M0 M lv w m 8 (done - 9 - bl))))))
def Mid (cnt : Int) (fl h lv : Nat → Int) (lim w m bl meth done : Int) : Prop := ∃ M0 : Int → Int, Lay cnt (aI fl) M0 lim w ∧ LvS (aI fl) M0 (aI lv) lim w m ∧ bl = ub (aI lv) m.toNat ∧ Ph M0 (mI h) (aI lv) w m bl meth done
def VM (cnt : Int) (fl h : Nat → Int) (lim w : Int) : Prop := Lay cnt (aI fl) (mI h) lim w
def Plan (cnt : Int) (fl h lv : Nat → Int) (lim w m bl : Int) : Prop := VM cnt fl h lim w ∧ LvS (aI fl) (mI h) (aI lv) lim w m ∧ bl = ub (aI lv) m.toNat ∧ RegL (mI h) (aI lv) m
theorem Mid_begin {cnt : Int} {fl h lv : Nat → Int} {lim w m bl meth : Int} (H : Plan cnt fl h lv lim w m bl) : Mid cnt fl h lv lim w m bl meth 0 := ⟨mI h, H.1, H.2.1, H.2.2.1, Or.inl ⟨rfl, fun _ _ => rfl, H.2.2.2⟩⟩
