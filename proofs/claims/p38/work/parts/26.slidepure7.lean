theorem Ph_rs {cnt : Int} {fl M0 M lv : Int → Int} {lim w m bl meth done : Int} (hS : LvS fl M0 lv lim w m) (hb : bl = ub lv m.toNat) (h : Ph M0 M lv w m bl meth done) (h0 : meth = 1) (h1 : 1 + bl ≤ done) (h2 : done ≤ 8 + bl) : Mk M0 lv m ∧ RsP M0 M lv w m (done - 1 - bl) 0 := by
  have hm := hS.1
  have h4 := ub_max (lv := lv) m.toNat
  rcases h with ⟨q, _⟩ | ⟨hK, ⟨q, _⟩ | ⟨_, q⟩⟩
  · omega
  · omega
  · refine ⟨hK, ?_⟩
    rcases q with ⟨q1, q2, b, hB, hP⟩ | ⟨_, _, q⟩ | ⟨q, _⟩
    · have e : done - 1 = bl := by omega
      rw [e] at hB
      have e0 := BtP_zero hB hb
      rw [e0] at hP
      have e1 : done - 1 - bl = 0 := by omega
      rw [e1]
      exact rs_init hP
    · exact q
    · omega
theorem Ph_rw {fl M0 M lv : Int → Int} {lim w m bl meth done : Int} (hS : LvS fl M0 lv lim w m) (hb : bl = ub lv m.toNat) (h : Ph M0 M lv w m bl meth done) (h0 : meth = 1) (h1 : 9 + bl ≤ done) : Mk M0 lv m ∧ RsP M0 M lv w m 8 (done - 9 - bl) := by
  have hm := hS.1
  have h4 := ub_max (lv := lv) m.toNat
  rcases h with ⟨q, _⟩ | ⟨hK, ⟨q, _⟩ | ⟨_, q⟩⟩
  · omega
  · omega
  · refine ⟨hK, ?_⟩
    rcases q with ⟨q1, q2, _⟩ | ⟨_, q2, q⟩ | ⟨_, _, q⟩
    · omega
    · have e : done = 9 + bl := by omega
      have e1 : done - 1 - bl = 8 := by omega
      have e2 : done - 9 - bl = 0 := by omega
      rw [e1] at q
      rw [e2]
      exact q
    · exact q
def RsA (w m bl done a : Int) : Prop := (1 + bl ≤ done ∧ done ≤ 8 + bl ∧ a = done - 9 - bl) ∨ (9 + bl ≤ done ∧ done ≤ 8 + bl + m ∧ a = w - m + done - 9 - bl)
theorem Mid_rs {cnt : Int} {fl h h2 lv : Nat → Int} {lim w m bl meth done a x : Int} (H : Mid cnt fl h lv lim w m bl meth done) (h0 : meth = 1) (hA : RsA w m bl done a) (hx : x = h (a + 8).toNat) (hN : ((x ≤ 3047 ∨ 5096 ≤ x) ∧ h2 = h) ∨ (3048 ≤ x ∧ x ≤ 3207 ∧ ∃ z, NewP lv m w (x - 3048) z ∧ h2 = updI h (a + 8).toNat (z + 3048))) : Mid1 cnt fl h2 lv lim w m bl meth done := by
  obtain ⟨M0, hL, hS, hb, hP⟩ := H
  have hl := hL.1
  have hm := LvS_m hS hl.2.1
  have hm0 := hS.1
  have h4 := ub_max (lv := aI lv) m.toNat
  have em : mI h a = x := hx.symm
  have ha : -8 ≤ a ∧ a < 160 := by unfold RsA at hA; omega
  have fr : ∀ y, Dm y → y ≠ a → mI h2 y = mI h y := by
    intro y hy hn
    rcases hN with ⟨_, q⟩ | ⟨_, _, z, _, q⟩
    · rw [q]
    · rw [q]; exact mI_upd_ne ha.1 hy hn
  refine ⟨M0, hL, hS, hb, ?_⟩
  rcases hA with ⟨d1, d2, d3⟩ | ⟨d1, d2, d3⟩
  · obtain ⟨hK, hR⟩ := Ph_rs (cnt := cnt) hS hb hP h0 d1 d2
    refine Or.inr ⟨hK, Or.inr ⟨h0, Or.inr (Or.inl ⟨by omega, by omega, ?_⟩)⟩⟩
    have ea : done - 1 - bl - 8 = a := by omega
    have e2 : done - 1 - bl + 1 = done + 1 - 1 - bl := by omega
    rw [← e2]
    have hM : x = M0 a := by rw [← em]; exact hR.2.1 a (by omega) (by omega)
    have hp := hL.2.1 a ha.1 (by omega)
    refine rs_reg hL hS hR (by omega) (by omega) ?_ (by rw [ea]; exact fr)
    rw [ea]
    rcases hN with ⟨q, e⟩ | ⟨q1, q2, z, hz, e⟩
    · rw [e, em, hM]
      exact Pl_no hp (by omega) hl.1 hl.2.2.1
    · obtain ⟨k, k0, k1, ek⟩ := hK.1 a ha.1 (by omega) (by omega) (by omega)
      rw [e, mI_upd_eq ha.1]
      rcases hz with ⟨_, hz⟩ | ⟨j, j0, j1, ej, ez⟩
      · exact absurd ek (by rw [← hM]; exact hz k k0 k1)
      · exact Or.inr (Or.inr ⟨by omega, by omega⟩)
  · obtain ⟨hK, hR⟩ := Ph_rw hS hb hP h0 d1
    refine Or.inr ⟨hK, Or.inr ⟨h0, Or.inr (Or.inr ⟨by omega, by omega, ?_⟩)⟩⟩
    have ea : w - m + (done - 9 - bl) = a := by omega
    have e2 : done - 9 - bl + 1 = done + 1 - 9 - bl := by omega
    rw [← e2]
    have hM : x = M0 (aI lv (done - 9 - bl)) := by rw [← em, ← ea]; exact hR.2.2.2 _ (by omega) (by omega)
    have hr := hS.2.1 (done - 9 - bl) (by omega) (by omega)
    refine rs_word hL hS hR (by omega) (by omega) ?_ (by rw [ea]; exact fr)
    rw [ea]
    rcases hN with ⟨q, e⟩ | ⟨q1, q2, z, hz, e⟩
    · rw [e, em]
      refine ⟨fun _ => hM, fun hlow => ?_⟩
      rcases hL.2.2.1 _ hr.1 hr.2 with p | p
      · rw [hM]
        exact Pl_no p (by omega) hl.1 hl.2.2.1
      · have := p.1; omega
    · obtain ⟨k, k0, k1, ek⟩ := hK.2 (done - 9 - bl) (by omega) (by omega) (by omega) (by omega)
      rw [e, mI_upd_eq ha.1]
      refine ⟨fun _ => by omega, fun _ => ?_⟩
      rcases hz with ⟨_, hz⟩ | ⟨j, j0, j1, ej, ez⟩
      · exact absurd ek (by rw [← hM]; exact hz k k0 k1)
      · exact Or.inr (Or.inr ⟨by omega, by omega⟩)
def UbIs (lv : Nat → Int) (m bl : Int) : Prop := bl = ub (aI lv) m.toNat
theorem Mid_ub {cnt : Int} {fl h lv : Nat → Int} {lim w m bl meth done : Int} (H : Mid cnt fl h lv lim w m bl meth done) : UbIs lv m bl := H.elim (fun _ q => q.2.2.1)
def BtF (lv : Nat → Int) (m k f : Int) : Prop := BtP (aI lv) m (k + 1) f
def BtD (lv : Nat → Int) (m d f : Int) : Prop := BtP (aI lv) m d f
def BfI (lv : Nat → Int) (m ab i : Int) : Prop := ab = ub (aI lv) m.toNat - ub (aI lv) (i + 1).toNat
theorem BfI_init {lv : Nat → Int} {m i : Int} (e : i = m - 1) : BfI lv m 0 i := by
  unfold BfI
  have e2 : i + 1 = m := by omega
  rw [e2]; omega
theorem BfI_same {lv : Nat → Int} {m ab i x y : Int} (H : BfI lv m ab i) (h1 : 1 ≤ i) (hx : x = lv (i - 1).toNat) (hy : y = lv i.toNat) (e : x = y - 1) : BfI lv m ab (i - 1) := by
  unfold BfI at *
  have h2 := ub_nb (lv := aI lv) (b := i) h1 (by show lv (i - 1).toNat = lv i.toNat - 1; omega)
  have e2 : i - 1 + 1 = i := by omega
  rw [e2]; omega
theorem BfI_brk {lv : Nat → Int} {m ab i x y : Int} (H : BfI lv m ab i) (h1 : 1 ≤ i) (hx : x = lv (i - 1).toNat) (hy : y = lv i.toNat) (e : ¬ x = y - 1) : BfI lv m (ab + 1) (i - 1) := by
  unfold BfI at *
  have h2 := ub_bk (lv := aI lv) (b := i) (by omega) (Or.inr (by show ¬ lv (i - 1).toNat = lv i.toNat - 1; omega))
  have e2 : i - 1 + 1 = i := by omega
  rw [e2]; omega
theorem BtF_at {lv : Nat → Int} {m ab i x y k : Int} (H : BfI lv m ab i) (h1 : 1 ≤ i) (him : i ≤ m) (hx : x = lv (i - 1).toNat) (hy : y = lv i.toNat) (e : ¬ x = y - 1) (hk : ab = k) : BtF lv m k i := by
  unfold BfI at H
  have hb : Bk (aI lv) i := Or.inr (by show ¬ lv (i - 1).toNat = lv i.toNat - 1; omega)
  have h2 := ub_bk (lv := aI lv) (b := i) (by omega) hb
  exact ⟨by omega, him, by omega, Or.inr hb⟩
theorem BtF_0 {lv : Nat → Int} {m ab i k bl : Int} (H : BfI lv m ab i) (hi : i = 0) (hm : 0 ≤ m) (hU : UbIs lv m bl) (hk : ab ≤ k) (hk2 : k < bl) : BtF lv m k 0 := by
  unfold BfI at H
  unfold UbIs at hU
  subst hi
  have h2 : ub (aI lv) (0 + 1 : Int).toNat = 1 := rfl
  have h3 : ub (aI lv) (0 : Int).toNat = 0 := rfl
  exact ⟨by omega, hm, by omega, Or.inr (Or.inl rfl)⟩
def EndI (lv : Nat → Int) (f i : Int) : Prop := ∀ j, f < j → j < i → aI lv j = aI lv (j - 1) + 1
def EndF (lv : Nat → Int) (m f e : Int) : Prop := EndB (aI lv) m f e
theorem EndI_init {lv : Nat → Int} {f i : Int} (e : i = f + 1) : EndI lv f i := fun j h0 h1 => by omega
theorem EndI_step {lv : Nat → Int} {f i x y : Int} (H : EndI lv f i) (hx : x = lv i.toNat) (hy : y = lv (i - 1).toNat) (e : x = y + 1) : EndI lv f (i + 1) := by
  intro j h0 h1
  rcases (by omega : j < i ∨ j = i) with q | q
  · exact H j h0 q
  · rw [q]; show lv i.toNat = lv (i - 1).toNat + 1; omega
theorem EndF_m {lv : Nat → Int} {m f i : Int} (H : EndI lv f i) (h1 : f < i) (h2 : i ≤ m) (h3 : m ≤ i) : EndF lv m f i := ⟨h1, h2, H, Or.inl (by omega)⟩
theorem EndF_b {lv : Nat → Int} {m f i x y : Int} (H : EndI lv f i) (h1 : f < i) (h2 : i ≤ m) (hx : x = lv i.toNat) (hy : y = lv (i - 1).toNat) (e : ¬ x = y + 1) : EndF lv m f i := ⟨h1, h2, H, Or.inr (by show ¬ lv i.toNat = lv (i - 1).toNat + 1; omega)⟩
theorem EndF_at {lv : Nat → Int} {m f e k x : Int} (H : EndF lv m f e) (h0 : f ≤ k) (h1 : k < e) (hx : x = lv k.toNat) : x = lv f.toNat + (k - f) := by
  have h2 : aI lv k = aI lv f + (k - f) := EndB_at H h0 h1
  rw [hx]; exact h2
def MvI (g0 g lv : Nat → Int) (f e up i : Int) : Prop := (∀ k, i < k → k < e → mI g (aI lv k + up) = mI g0 (aI lv k)) ∧ ∀ x, Dm x → (x ≤ aI lv f + up + (i - f) ∨ aI lv f + up + (e - f) ≤ x) → mI g x = mI g0 x
theorem MvI_init {g lv : Nat → Int} {f e up i : Int} (h : i = e - 1) : MvI g g lv f e up i := ⟨fun k h0 h1 => by omega, fun _ _ _ => rfl⟩
theorem MvI_step {g0 g g2 lv : Nat → Int} {m f e up i x xi : Int} (H : MvI g0 g lv f e up i) (hE : EndF lv m f e) (h0 : f ≤ i) (h1 : i < e) (hxi : xi = lv i.toNat) (hr : 0 ≤ xi ∧ xi + up < 160 ∧ 0 ≤ up) (hx : x = g (xi + 8).toNat) (e2 : g2 = updI g (up + xi + 8).toNat x) : MvI g0 g2 lv f e up (i - 1) := by
  have ei : aI lv i = xi := hxi.symm
  have el : aI lv i = aI lv f + (i - f) := EndB_at hE h0 h1
  have e3 : (up + xi + 8).toNat = (xi + up + 8).toNat := by omega
  rw [e3] at e2
  subst e2
  have hv : x = mI g0 (aI lv i) := by
    rw [hx, ei]
    exact H.2 xi ⟨by omega, by omega⟩ (by omega)
  refine ⟨fun k k0 k1 => ?_, fun y hy hc => ?_⟩
  · by_cases q : k = i
    · rw [q, ei, mI_upd_eq (by omega), hv, ei]
    · have ek : aI lv k = aI lv f + (k - f) := EndB_at hE (by omega) k1
      have h9 := H.1 k (by omega) k1
      by_cases hb : aI lv k + up < -8
      · omega
      · rw [mI_upd (by omega) (by omega), if_neg (by omega)]
        exact h9
  · rw [mI_upd_ne (by omega) hy (by omega)]
    exact H.2 y hy (by omega)
def TbI (g0 g : Nat → Int) (lo hi : Int) : Prop := ∀ x, Dm x → (x < lo ∨ hi ≤ x) → mI g x = mI g0 x
theorem TbI_init {g : Nat → Int} {lo hi : Int} : TbI g g lo hi := fun _ _ _ => rfl
theorem TbI_step {g0 g g2 : Nat → Int} {lo hi i v : Int} (H : TbI g0 g lo hi) (h0 : 0 ≤ lo) (h1 : lo + 8 ≤ i) (h2 : i < hi + 8) (e : g2 = updI g i.toNat v) : TbI g0 g2 lo hi := by
  intro x hx hc
  rw [← H x hx hc, e]
  unfold mI updI
  rw [if_neg (by have := hx.1; omega)]
theorem TbI_fill {g0 g g2 : Nat → Int} {lo hi r z v : Int} (H : TbI g0 g lo hi) (hF : FillR g g2 r z v) (h1 : lo + 8 ≤ r) (h2 : z ≤ hi + 8) : TbI g0 g2 lo hi := by
  intro x hx hc
  rw [← H x hx hc]
  exact (hF (x + 8).toNat).2 (by have := hx.1; omega)
theorem Mid_blk {cnt : Int} {fl h h2 lv : Nat → Int} {lim w m bl meth done f e : Int} (H : Mid cnt fl h lv lim w m bl meth done) (h0 : meth = 1) (h1 : 1 ≤ done) (h3 : done ≤ bl) (hB : BtD lv m done f) (hE : EndF lv m f e) (e1 : ∀ k, f ≤ k → k < e → mI h2 (w - m + k) = mI h (aI lv k)) (e2 : ∀ x, Dm x → (x < aI lv f ∨ w - m + e ≤ x) → mI h2 x = mI h x) : Mid1 cnt fl h2 lv lim w m bl meth done := by
  obtain ⟨M0, hL, hS, hb, hP⟩ := H
  refine ⟨M0, hL, hS, hb, ?_⟩
  rcases hP with ⟨q, _⟩ | ⟨hK, ⟨q, _⟩ | ⟨_, q⟩⟩
  · omega
  · omega
  · refine Or.inr ⟨hK, Or.inr ⟨h0, Or.inl ⟨by omega, by omega, f, ?_⟩⟩⟩
    have e9 : done + 1 - 1 = done := by omega
    rw [e9]
    refine ⟨hB, ?_⟩
    rcases q with ⟨q1, q2, b, hBt, hBl⟩ | ⟨q, _⟩ | ⟨q, _⟩
    · have hB2 : BtP (aI lv) m (done - 1 + 1) f := by rw [(by omega : done - 1 + 1 = done)]; exact hB
      have hfm : f < m := by have := hE.1; have := hE.2.1; omega
      have hbe := BtP_uniq hBt (BtP_next hB2 hfm hE)
      rw [hbe] at hBl
      exact bl_step hL hS hBl hB.1 hE.1 hE.2.1 e1 e2
    · omega
    · omega
theorem Mid_bl0 {cnt : Int} {fl h lv : Nat → Int} {lim w m bl meth done f e x up : Int} (H : Mid cnt fl h lv lim w m bl meth done) (h0 : meth = 1) (h1 : 1 ≤ done) (h3 : done ≤ bl) (hB : BtD lv m done f) (hE : EndF lv m f e) (hx : x = lv f.toNat) (hu : up = w - m + f - x) (hz : up = 0) : Mid1 cnt fl h lv lim w m bl meth done := by
  refine Mid_blk H h0 h1 h3 hB hE (fun k k0 k1 => ?_) (fun _ _ _ => rfl)
  have ek : aI lv k = aI lv f + (k - f) := EndB_at hE k0 k1
  have ef : aI lv f = x := hx.symm
  rw [(by omega : w - m + k = aI lv k)]
theorem Mid_bl1 {cnt : Int} {fl h hm h2 lv : Nat → Int} {lim w m bl meth done f e x up : Int} (H : Mid cnt fl h lv lim w m bl meth done) (h0 : meth = 1) (h1 : 1 ≤ done) (h3 : done ≤ bl) (hB : BtD lv m done f) (hE : EndF lv m f e) (hx : x = lv f.toNat) (hu : up = w - m + f - x) (hup : 0 ≤ up) (hM : MvI h hm lv f e up (f - 1)) (hT : TbI hm h2 x (x + up)) : Mid1 cnt fl h2 lv lim w m bl meth done := by
  have ef : aI lv f = x := hx.symm
  have hbx := Mid_box H
  have hf0 := hB.1
  have hx0 : 0 ≤ x := by
    obtain ⟨M0, hL, hS, hb, hP⟩ := id H
    have := (hS.2.1 f hf0 (by have := hE.1; have := hE.2.1; omega)).1
    omega
  have he := hE.2.1
  have he1 := hE.1
  refine Mid_blk H h0 h1 h3 hB hE (fun k k0 k1 => ?_) (fun y hy hc => ?_)
  · have ek : aI lv k = aI lv f + (k - f) := EndB_at hE k0 k1
    have e5 : w - m + k = aI lv k + up := by omega
    rw [e5, hT _ ⟨by omega, by omega⟩ (by omega)]
    exact hM.1 k (by omega) k1
  · rw [hT y hy (by omega)]
    exact hM.2 y hy (by omega)
theorem Bt_lt {lv : Nat → Int} {m d f bl : Int} (hB : BtD lv m d f) (h1 : 1 ≤ d) : 0 ≤ f ∧ f < m := by
  obtain ⟨a, b, c, _⟩ := hB
  refine ⟨a, ?_⟩
  rcases (by omega : f = m ∨ f < m) with q | q
  · rw [q] at c; omega
  · exact q
theorem Mid_up {cnt : Int} {fl h lv : Nat → Int} {lim w m bl meth done f x : Int} (H : Mid cnt fl h lv lim w m bl meth done) (h0 : 0 ≤ f) (h1 : f < m) (hx : x = lv f.toNat) : lim ≤ x ∧ x ≤ w - m + f := by
  obtain ⟨M0, hL, hS, hb, hP⟩ := H
  have h2 := (hS.2.1 f h0 h1).1
  have h3 := LvS_np hS h0 h1
  have e : aI lv f = x := hx.symm
  omega
def LastP (m bl meth done : Int) : Prop := (meth = 0 ∧ done = 9 + 2 * m) ∨ (meth = 1 ∧ done = 9 + bl + m)
theorem Mid_last {cnt : Int} {fl h h2 lv : Nat → Int} {lim w m bl meth done z : Int} (H : Mid cnt fl h lv lim w m bl meth done) (hl : LastP m bl meth done) (hF : FillR h h2 8 z 1000) (hz : z = w - m + 8) : VM cnt fl h2 (w - m) w := by
  obtain ⟨M0, hL, hS, hb, hP⟩ := H
  have hll := hL.1
  have hm := LvS_m hS hll.2.1
  have fr : ∀ x, Dm x → (x < 0 ∨ w - m ≤ x) → mI h2 x = mI h x := fun x hx hc => (hF (x + 8).toNat).2 (by have := hx.1; omega)
  rcases hl with ⟨h0, hd⟩ | ⟨h0, hd⟩
  · have hB := (Ph_bw hL hS hP h0 (by have := hS.1; omega)).2
    rw [(by omega : 9 + 2 * m - done = 0)] at hB
    exact bw_end hL hS hB fr
  · have hm0 := hS.1
    have hR := (Ph_rw hS hb hP h0 (by omega)).2
    rw [(by omega : done - 9 - bl = m)] at hR
    exact rs_end hL hS hR fr
theorem Mid_top {cnt : Int} {fl h lv : Nat → Int} {lim w m bl meth done : Int} (H : Mid cnt fl h lv lim w m bl meth done) : 0 ≤ done ∧ (meth = 0 → done ≤ 9 + 2 * m) ∧ (meth = 1 → done ≤ 9 + bl + m) := by
  have hb := Mid_box H
  obtain ⟨M0, hL, hS, hbl, hP⟩ := H
  rcases hP with ⟨q, _⟩ | ⟨_, ⟨_, q⟩ | ⟨_, q⟩⟩
  · omega
  · rcases q with ⟨q1, q2, _⟩ | ⟨q1, q2, _⟩ | ⟨q1, q2, _⟩ <;> omega
  · rcases q with ⟨q1, q2, _⟩ | ⟨q1, q2, _⟩ | ⟨q1, q2, _⟩ <;> omega
theorem EndF_ex {lv : Nat → Int} {m f : Int} (h0 : 0 ≤ f) (h1 : f < m) : ∃ e, EndF lv m f e := by
  have key : ∀ (n : Nat) (i : Int), f < i → i ≤ m → m - i ≤ n → EndI lv f i → ∃ e, EndF lv m f e := by
    intro n
    induction n with
    | zero => intro i a b c d; exact ⟨i, EndF_m d a b (by omega)⟩
    | succ n ih =>
      intro i a b c d
      by_cases q : m ≤ i
      · exact ⟨i, EndF_m d a b q⟩
      · by_cases q2 : lv i.toNat = lv (i - 1).toNat + 1
        · exact ih (i + 1) (by omega) (by omega) (by omega) (EndI_step d rfl rfl q2)
        · exact ⟨i, EndF_b d a b rfl rfl q2⟩
  exact key (m - (f + 1)).toNat (f + 1) (by omega) (by omega) (by omega) (EndI_init rfl)
