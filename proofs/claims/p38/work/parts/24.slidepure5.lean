def Mid1 (cnt : Int) (fl h lv : Nat → Int) (lim w m bl meth done : Int) : Prop := Mid cnt fl h lv lim w m bl meth (done + 1)
def Srt (g : Nat → Int) (m : Int) : Prop := ∀ i j, 0 ≤ i → i < j → j < m → aI g i < aI g j
def NewP (lv : Nat → Int) (m w a z : Int) : Prop := (z = -1 ∧ ∀ k, 0 ≤ k → k < m → aI lv k ≠ a) ∨ ∃ k, 0 ≤ k ∧ k < m ∧ aI lv k = a ∧ z = w - m + k
def BinS (lv : Nat → Int) (m lo hi a : Int) : Prop := (∀ i, 0 ≤ i → i < lo → aI lv i < a) ∧ ∀ i, hi < i → i < m → a < aI lv i
theorem BinS_init {lv : Nat → Int} {m a hi : Int} (e : hi = m - 1) : BinS lv m 0 hi a := ⟨fun i h0 h1 => by omega, fun i h0 h1 => by omega⟩
theorem BinS_lo {lv : Nat → Int} {m lo hi a x c : Int} (h : BinS lv m lo hi a) (hs : Srt lv m) (ex : x = lv c.toNat) (h0 : 0 ≤ c) (h1 : c < m) (hx : x < a) : BinS lv m (c + 1) hi a := by
  refine ⟨fun i i0 i1 => ?_, h.2⟩
  rcases (by omega : i = c ∨ i < c) with z | z
  · rw [z]; show lv c.toNat < a; omega
  · have h3 := hs i c i0 z h1
    have h4 : aI lv c = lv c.toNat := rfl
    omega
theorem BinS_hi {lv : Nat → Int} {m lo hi a x c : Int} (h : BinS lv m lo hi a) (hs : Srt lv m) (ex : x = lv c.toNat) (h0 : 0 ≤ c) (h1 : c < m) (hx : a < x) : BinS lv m lo (c - 1) a := by
  refine ⟨h.1, fun i i0 i1 => ?_⟩
  have h4 : aI lv c = lv c.toNat := rfl
  rcases (by omega : i = c ∨ c < i) with z | z
  · rw [z]; omega
  · have h3 := hs c i h0 z i1
    omega
theorem NewP_at {lv : Nat → Int} {m w a x c z : Int} (ex : x = lv c.toNat) (h0 : 0 ≤ c) (h1 : c < m) (hx : x = a) (hz : z = w - m + c) : NewP lv m w a z := Or.inr ⟨c, h0, h1, by rw [← hx, ex]; rfl, hz⟩
theorem NewP_no {lv : Nat → Int} {m w a lo hi : Int} (h : BinS lv m lo hi a) (hl : hi < lo) : NewP lv m w a (-1) := by
  refine Or.inl ⟨rfl, fun k k0 k1 e => ?_⟩
  rcases (by omega : k < lo ∨ hi < k) with z | z
  · have := h.1 k k0 z; omega
  · have := h.2 k z k1; omega
def ThR (g g2 : Nat → Int) (a t : Int) : Prop := mI g2 a = mI g t ∧ mI g2 t = 7144 + a ∧ ∀ x, Dm x → x ≠ a → x ≠ t → mI g2 x = mI g x
theorem ThR_mk {g g1 g2 : Nat → Int} {a t x : Int} (ha : -8 ≤ a) (ht : -8 ≤ t) (hn : a ≠ t) (ex : x = g (t + 8).toNat) (e1 : g1 = updI g (a + 8).toNat x) (e2 : g2 = updI g1 (t + 8).toNat (a + 7144)) : ThR g g2 a t := by
  subst e1
  subst e2
  refine ⟨?_, ?_, fun y hy h1 h2 => ?_⟩
  · rw [mI_upd ht ha, if_neg hn, mI_upd_eq ha, ex]
    rfl
  · rw [mI_upd_eq ht]
    omega
  · rw [mI_upd_ne ht hy h2, mI_upd_ne ha hy h1]
def ChE (g : Nat → Int) (t : Int) : Prop := ∃ (L : List Int) (v : Int), ChG (mI g) v L t
def UnR (g g2 : Nat → Int) (t x : Int) : Prop := UnthR (mI g) (mI g2) t x
def UnI (g g2 : Nat → Int) (t x n : Int) : Prop := UnthI (mI g) (mI g2) t x n
theorem UnI_init {g : Nat → Int} {t x : Int} (h : ChE g t) : UnI g g t x 0 := by
  obtain ⟨L, v, h⟩ := h
  exact UnthI_init h
theorem UnI_step {g0 g g1 g2 : Nat → Int} {t x n x1 x3 : Int} (H : UnI g0 g t x n) (ht : 0 ≤ t) (h1 : x1 = g (t + 8).toNat) (h7 : 7136 ≤ x1) (h3 : x3 = g (x1 - 7136).toNat) (e1 : g1 = updI g (t + 8).toNat x3) (e2 : g2 = updI g1 (x1 - 7136).toNat (x + 3048)) : UnI g0 g2 t x (n + 1) := by
  have hx : mI g t = x1 := h1.symm
  have hl := UnthI_link H (by rw [hx]; exact h7)
  rw [hx] at hl
  have eu : (x1 - 7136).toNat = (x1 - 7144 + 8).toNat := by congr 1; omega
  rw [eu] at h3 e2
  subst e1
  subst e2
  have hu := hl.1
  refine UnthI_step H (by rw [hx]; exact h7) ?_ ?_ ?_
  · rw [hx, mI_upd hu.1 (by omega), if_neg (fun q => hl.2 q.symm), mI_upd_eq (by omega), h3]
    rfl
  · rw [hx, mI_upd_eq hu.1]
    omega
  · rw [hx]
    intro y hy n1 n2
    rw [mI_upd_ne hu.1 hy n2, mI_upd_ne (by omega) hy n1]
theorem UnI_end {g g2 : Nat → Int} {t x n : Int} (H : UnI g g2 t x n) (hk : g2 (t + 8).toNat < 7136 ∨ 168 ≤ n) : UnR g g2 t x := UnthI_end H hk
theorem Mid_srt {cnt : Int} {fl h lv : Nat → Int} {lim w m bl meth done : Int} (H : Mid cnt fl h lv lim w m bl meth done) : Srt lv m := by
  obtain ⟨M0, hL, hS, hb, hP⟩ := H
  exact fun i j h0 h1 h2 => LvS_lt hS h0 h1 h2
theorem Mid_box {cnt : Int} {fl h lv : Nat → Int} {lim w m bl meth done : Int} (H : Mid cnt fl h lv lim w m bl meth done) : 0 ≤ lim ∧ lim ≤ w ∧ w ≤ 160 ∧ 0 ≤ m ∧ m ≤ w - lim ∧ 0 ≤ bl ∧ bl ≤ m := by
  obtain ⟨M0, hL, hS, hb, hP⟩ := H
  have h1 := hL.1
  have h2 := hS.1
  have h3 := LvS_m hS h1.2.1
  have h4 := ub_max (lv := aI lv) m.toNat
  omega
theorem Mid_reg {cnt : Int} {fl h lv : Nat → Int} {lim w m bl meth done a x : Int} (H : Mid cnt fl h lv lim w m bl meth done) (h0 : meth = 0) (h1 : 1 ≤ done) (h2 : done ≤ 8) (ha : a = done - 9) (hx : x = h (a + 8).toNat) (hn : x ≤ 3047 ∨ 5096 ≤ x) : Mid1 cnt fl h lv lim w m bl meth done := by
  obtain ⟨M0, hL, hS, hb, hP⟩ := H
  refine ⟨M0, hL, hS, hb, ?_⟩
  rcases hP with ⟨q, _⟩ | ⟨hK, ⟨_, q⟩ | ⟨q, _⟩⟩
  · omega
  · refine Or.inr ⟨hK, Or.inl ⟨h0, Or.inl ⟨by omega, by omega, ?_⟩⟩⟩
    rcases q with ⟨_, _, q⟩ | ⟨q, _⟩ | ⟨q, _⟩
    · have e : done - 1 - 8 = a := by omega
      have hm : mI h a = x := hx.symm
      have := fw_reg0 hL q (by omega) (by omega) (by rw [e, hm]; omega)
      have e2 : done - 1 + 1 = done + 1 - 1 := by omega
      rw [e2] at this
      exact this
    · omega
    · have := hS.1; omega
  · omega
theorem Mid_reg1 {cnt : Int} {fl h h2 lv : Nat → Int} {lim w m bl meth done a x t : Int} (H : Mid cnt fl h lv lim w m bl meth done) (h0 : meth = 0) (h1 : 1 ≤ done) (h3 : done ≤ 8) (ha : a = done - 9) (hx : x = h (a + 8).toNat) (hp : 3048 ≤ x) (hp2 : x ≤ 3207) (ht : t = x - 3048) (hT : ThR h h2 a t) : Mid1 cnt fl h2 lv lim w m bl meth done := by
  obtain ⟨M0, hL, hS, hb, hP⟩ := H
  refine ⟨M0, hL, hS, hb, ?_⟩
  rcases hP with ⟨q, _⟩ | ⟨hK, ⟨_, q⟩ | ⟨q, _⟩⟩
  · omega
  · refine Or.inr ⟨hK, Or.inl ⟨h0, Or.inl ⟨by omega, by omega, ?_⟩⟩⟩
    rcases q with ⟨_, _, q⟩ | ⟨q, _⟩ | ⟨q, _⟩
    · have e : done - 1 - 8 = a := by omega
      have hm : mI h a = x := hx.symm
      have := fw_reg1 (N := mI h2) hL hS hK q (by omega) (by omega) (by rw [e, hm]; omega) (by rw [e, hm, ← ht]; exact hT.1) (by rw [e, hm, ← ht]; exact hT.2.1) (by rw [e, hm, ← ht]; exact hT.2.2)
      have e2 : done - 1 + 1 = done + 1 - 1 := by omega
      rw [e2] at this
      exact this
    · omega
    · have := hS.1; omega
  · omega
theorem Ph_fw {M0 M lv : Int → Int} {w m bl meth done : Int} (hm : 0 ≤ m) (h : Ph M0 M lv w m bl meth done) (h0 : meth = 0) (h1 : 9 ≤ done) (h2 : done ≤ 8 + m) : Mk M0 lv m ∧ FwP M0 M lv w m 8 (done - 9) := by
  rcases h with ⟨q, _⟩ | ⟨hK, ⟨_, q⟩ | ⟨q, _⟩⟩
  · omega
  · refine ⟨hK, ?_⟩
    rcases q with ⟨q1, q2, q⟩ | ⟨_, _, q⟩ | ⟨q, _⟩
    · have e : done = 9 := by omega
      subst e
      exact q
    · exact q
    · omega
  · omega
theorem Ph_bw {cnt : Int} {fl M0 M lv : Int → Int} {lim w m bl meth done : Int} (hL : Lay cnt fl M0 lim w) (hS : LvS fl M0 lv lim w m) (h : Ph M0 M lv w m bl meth done) (h0 : meth = 0) (h1 : 9 + m ≤ done) : Mk M0 lv m ∧ BwP M0 M lv w m (9 + 2 * m - done) := by
  have hm := hS.1
  rcases h with ⟨q, _⟩ | ⟨hK, ⟨_, q⟩ | ⟨q, _⟩⟩
  · omega
  · refine ⟨hK, ?_⟩
    rcases q with ⟨q1, q2, q⟩ | ⟨_, q2, q⟩ | ⟨_, _, q⟩
    · have e : done = 9 := by omega
      have e2 : m = 0 := by omega
      subst e
      subst e2
      exact fw_bw hL hS q
    · have e : done = 9 + m := by omega
      subst e
      have e3 : 9 + m - 9 = m := by omega
      rw [e3] at q
      have e2 : 9 + 2 * m - (9 + m) = m := by omega
      rw [e2]
      exact fw_bw hL hS q
    · exact q
  · omega
theorem Mid_fw_in {cnt : Int} {fl h lv : Nat → Int} {lim w m bl meth done a z : Int} (H : Mid cnt fl h lv lim w m bl meth done) (h0 : meth = 0) (h1 : 9 ≤ done) (h2 : done ≤ 8 + m) (ha : a = lv (done - 9).toNat) (hz : NewP lv m w a z) : ChE h a ∧ z = w - m + (done - 9) := by
  obtain ⟨M0, hL, hS, hb, hP⟩ := H
  have hF := (Ph_fw hS.1 hP h0 h1 h2).2
  have ea : aI lv (done - 9) = a := ha.symm
  refine ⟨?_, ?_⟩
  · have := fw_chain hF (by omega)
    rw [ea] at this
    exact this
  · rcases hz with ⟨_, q⟩ | ⟨k, k0, k1, ek, ez⟩
    · exact absurd ea (q (done - 9) (by omega) (by omega))
    · have := LvS_inj hS k0 k1 (by omega) (by omega) (ek.trans ea.symm)
      rw [← this]
      exact ez
theorem Mid_fw_up {M0 M lv : Int → Int} {w m bl meth done : Int} (hK : Mk M0 lv m) (h0 : meth = 0) (h1 : 9 ≤ done) (h2 : done ≤ 8 + m) (q : FwP M0 M lv w m 8 (done - 9 + 1)) : Ph M0 M lv w m bl meth (done + 1) := by
  have e : done - 9 + 1 = done + 1 - 9 := by omega
  rw [e] at q
  exact Or.inr ⟨hK, Or.inl ⟨h0, Or.inr (Or.inl ⟨by omega, by omega, q⟩)⟩⟩
theorem Mid_fw0 {cnt : Int} {fl h h1 lv : Nat → Int} {lim w m bl meth done a z x : Int} (H : Mid cnt fl h lv lim w m bl meth done) (h0 : meth = 0) (h2 : 9 ≤ done) (h3 : done ≤ 8 + m) (ha : a = lv (done - 9).toNat) (hz : z = w - m + (done - 9)) (hU : UnR h h1 a z) (hx : x = h1 (a + 8).toNat) (hn : (x ≤ 3047 ∨ 5096 ≤ x) ∨ x - 3048 < a) : Mid1 cnt fl h1 lv lim w m bl meth done := by
  obtain ⟨M0, hL, hS, hb, hP⟩ := H
  obtain ⟨hK, hF⟩ := Ph_fw hS.1 hP h0 h2 h3
  refine ⟨M0, hL, hS, hb, Mid_fw_up hK h0 h2 h3 ?_⟩
  have ea : aI lv (done - 9) = a := ha.symm
  have hU' : UnthR (mI h) (mI h1) (aI lv (done - 9)) (w - m + (done - 9)) := by rw [ea, ← hz]; exact hU
  have hv := (fw_unth hL hS hF (by omega) (by omega) hU').2
  refine fw_word0 hL hS hF (by omega) (by omega) hU' (fun _ _ _ => rfl) ?_
  rw [hv]
  have e2 : M0 (aI lv (done - 9)) = x := by rw [← hv, ea]; exact hx.symm
  refine FVl_same hL hS hK (by omega) (by omega) ?_
  rw [e2, ea]
  omega
theorem Mid_fw1 {cnt : Int} {fl h h1 h5 lv : Nat → Int} {lim w m bl meth done a z x t : Int} (H : Mid cnt fl h lv lim w m bl meth done) (h0 : meth = 0) (h2 : 9 ≤ done) (h3 : done ≤ 8 + m) (ha : a = lv (done - 9).toNat) (hz : z = w - m + (done - 9)) (hU : UnR h h1 a z) (hx : x = h1 (a + 8).toNat) (hp : 3048 ≤ x) (hp2 : x ≤ 3207) (ht : t = x - 3048) (hup : a < t) (hT : ThR h1 h5 a t) : Mid1 cnt fl h5 lv lim w m bl meth done := by
  obtain ⟨M0, hL, hS, hb, hP⟩ := H
  obtain ⟨hK, hF⟩ := Ph_fw hS.1 hP h0 h2 h3
  refine ⟨M0, hL, hS, hb, Mid_fw_up hK h0 h2 h3 ?_⟩
  have ea : aI lv (done - 9) = a := ha.symm
  have hU' : UnthR (mI h) (mI h1) (aI lv (done - 9)) (w - m + (done - 9)) := by rw [ea, ← hz]; exact hU
  have em : mI h1 a = x := hx.symm
  refine fw_word1 (N := mI h5) hL hS hK hF (by omega) (by omega) hU' ?_ ?_ ?_ ?_ ?_
  · rw [ea, em]; exact ⟨hp, hp2⟩
  · rw [ea, em]; omega
  · rw [ea, em, ← ht]; exact hT.1
  · rw [ea, em, ← ht]; exact hT.2.1
  · rw [ea, em, ← ht]; exact hT.2.2
theorem Mid_fw2 {cnt : Int} {fl h h1 h5 lv : Nat → Int} {lim w m bl meth done a z x : Int} (H : Mid cnt fl h lv lim w m bl meth done) (h0 : meth = 0) (h2 : 9 ≤ done) (h3 : done ≤ 8 + m) (ha : a = lv (done - 9).toNat) (ha0 : 0 ≤ a) (hz : z = w - m + (done - 9)) (hU : UnR h h1 a z) (hx : x = h1 (a + 8).toNat) (hp : 3048 ≤ x) (hp2 : x ≤ 3207) (e5 : h5 = updI h1 (a + 8).toNat (z + 3048)) : Mid1 cnt fl h5 lv lim w m bl meth done := by
  obtain ⟨M0, hL, hS, hb, hP⟩ := H
  obtain ⟨hK, hF⟩ := Ph_fw hS.1 hP h0 h2 h3
  refine ⟨M0, hL, hS, hb, Mid_fw_up hK h0 h2 h3 ?_⟩
  have ea : aI lv (done - 9) = a := ha.symm
  have hU' : UnthR (mI h) (mI h1) (aI lv (done - 9)) (w - m + (done - 9)) := by rw [ea, ← hz]; exact hU
  have hv := (fw_unth hL hS hF (by omega) (by omega) hU').2
  have e2 : M0 (aI lv (done - 9)) = x := by rw [← hv, ea]; exact hx.symm
  subst e5
  refine fw_word0 hL hS hF (by omega) (by omega) hU' ?_ ?_
  · rw [ea]
    exact fun y hy hn => mI_upd_ne (by omega) hy hn
  · have e6 : mI (updI h1 (a + 8).toNat (z + 3048)) (aI lv (done - 9)) = 3048 + (w - m + (done - 9)) := by
      rw [ea, mI_upd_eq (by omega)]; omega
    rw [e6]
    exact FVl_self hL hS (by omega) (by omega) (by rw [e2]; exact ⟨hp, hp2⟩)
theorem Mid_bw_in {cnt : Int} {fl h lv : Nat → Int} {lim w m bl meth done a z : Int} (H : Mid cnt fl h lv lim w m bl meth done) (h0 : meth = 0) (h1 : 9 + m ≤ done) (h2 : done ≤ 8 + 2 * m) (ha' : a = lv (-done + 2 * m + 8).toNat) (hz : NewP lv m w a z) : ChE h a ∧ z = w - m + (2 * m + 8 - done) ∧ a ≤ z := by
  have ha : a = lv (2 * m + 8 - done).toNat := by rw [(by omega : 2 * m + 8 - done = -done + 2 * m + 8)]; exact ha'
  obtain ⟨M0, hL, hS, hb, hP⟩ := H
  have hF := (Ph_bw hL hS hP h0 h1).2
  have ea : aI lv (2 * m + 8 - done) = a := ha.symm
  have e1 : 9 + 2 * m - done = (2 * m + 8 - done) + 1 := by omega
  rw [e1] at hF
  have e9 : z = w - m + (2 * m + 8 - done) := by
    rcases hz with ⟨_, q⟩ | ⟨k, k0, k1, ek, ez⟩
    · exact absurd ea (q (2 * m + 8 - done) (by omega) (by omega))
    · have := LvS_inj hS k0 k1 (by omega) (by omega) (ek.trans ea.symm)
      rw [← this]
      exact ez
  refine ⟨?_, e9, ?_⟩
  · have := bw_chain hF (by omega)
    rw [ea] at this
    exact this
  · have := LvS_np hS (i := 2 * m + 8 - done) (by omega) (by omega)
    omega
theorem Mid_bw {cnt : Int} {fl h h1 h4 h5 lv : Nat → Int} {lim w m bl meth done a z x : Int} (H : Mid cnt fl h lv lim w m bl meth done) (h0 : meth = 0) (h2 : 9 + m ≤ done) (h3 : done ≤ 8 + 2 * m) (ha' : a = lv (-done + 2 * m + 8).toNat) (ha0 : 0 ≤ a) (hz : z = w - m + (2 * m + 8 - done)) (hz0 : a ≤ z) (hU : UnR h h1 a z) (hx : x = h1 (a + 8).toNat) (e4 : h4 = updI h1 (z + 8).toNat x)
    (hN : (3048 ≤ x ∧ x ≤ 3207 ∧ x - 3048 < a ∧ ThR h4 h5 z (x - 3048)) ∨ ((x ≤ 3047 ∨ 5096 ≤ x ∨ a ≤ x - 3048) ∧ h5 = h4)) : Mid1 cnt fl h5 lv lim w m bl meth done := by
  have ha : a = lv (2 * m + 8 - done).toNat := by rw [(by omega : 2 * m + 8 - done = -done + 2 * m + 8)]; exact ha'
  obtain ⟨M0, hL, hS, hb, hP⟩ := H
  obtain ⟨hK, hF⟩ := Ph_bw hL hS hP h0 h2
  have ea : aI lv (2 * m + 8 - done) = a := ha.symm
  have e1 : 9 + 2 * m - done = (2 * m + 8 - done) + 1 := by omega
  rw [e1] at hF
  have hU' : UnthR (mI h) (mI h1) (aI lv (2 * m + 8 - done)) (w - m + (2 * m + 8 - done)) := by rw [ea, ← hz]; exact hU
  have em : mI h1 a = x := hx.symm
  have key : BwP M0 (mI h5) (aI lv) w m (2 * m + 8 - done) := by
    refine bw_word (M2 := mI h4) hL hS hF (by omega) (by omega) hU' ?_ ?_ ?_
    · rw [← hz, ea, em, e4, mI_upd_eq (by omega)]
    · rw [← hz, e4]
      exact fun y hy hn => mI_upd_ne (by omega) hy hn
    · rw [ea, em, ← hz]
      rcases hN with ⟨p1, p2, p3, hT⟩ | ⟨p, q⟩
      · exact Or.inl ⟨p1, p2, p3, hT⟩
      · exact Or.inr ⟨by omega, fun y _ => by rw [q]⟩
  have e2 : 2 * m + 8 - done = 9 + 2 * m - (done + 1) := by omega
  rw [e2] at key
  exact ⟨M0, hL, hS, hb, Or.inr ⟨hK, Or.inl ⟨h0, Or.inr (Or.inr ⟨by omega, by omega, key⟩)⟩⟩⟩
