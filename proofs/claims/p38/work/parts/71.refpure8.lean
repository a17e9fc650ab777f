def RiA (cnt : Int) (g sr r v lv : Nat → Int) (w m bl a : Int) : Prop := r (0 : Int).toNat = 1 ∧ ∃ d, RsA w m bl d a ∧ MdV cnt g sr r v lv w m bl d
def RiB (cnt : Int) (g sr r v lv : Nat → Int) (w m bl a : Int) : Prop := ∃ d, RsA w m bl d a ∧ MdV cnt g sr r v lv w m bl (d + 1)
theorem RiA_row {cnt : Int} {g sr r v lv : Nat → Int} {w m bl a : Int} (A : RiA cnt g sr r v lv w m bl a) : RowS v := A.2.elim (fun _ q => q.2.2)
theorem Mid_tgt {Q : (Int → Int) → Prop} {cnt : Int} {fl h lv : Nat → Int} {lim w m bl meth done a x : Int} (H : rq_Mid Q cnt fl h lv lim w m bl meth done) (h0 : meth = 1) (hA : RsA w m bl done a) (hx : x = h (a + 8).toNat) (p1 : 3048 ≤ x) (p2 : x ≤ 3207) : lim ≤ x - 3048 ∧ x - 3048 < w := by
  obtain ⟨M0, hQ0, hL, hS, hb, hP⟩ := H
  have em : mI h a = x := hx.symm
  have hl := hL.1
  have hm := LvS_m hS hl.2.1
  have h4 := ub_max (lv := aI lv) m.toNat
  rcases hA with ⟨d1, d2, d3⟩ | ⟨d1, d2, d3⟩
  · obtain ⟨hK, hR⟩ := rq_Ph_rs (cnt := cnt) hS hb hP h0 d1 d2
    have hM : x = M0 a := by rw [← em]; exact hR.2.1 a (by omega) (by omega)
    obtain ⟨k, k0, k1, ek⟩ := hK.1 a (by omega) (by omega) (by omega) (by omega)
    have := hS.2.1 k k0 k1
    omega
  · obtain ⟨hK, hR⟩ := rq_Ph_rw hS hb hP h0 d1
    have ea : w - m + (done - 9 - bl) = a := by omega
    have hM : x = M0 (aI lv (done - 9 - bl)) := by rw [← em, ← ea]; exact hR.2.2.2 _ (by omega) (by omega)
    obtain ⟨k, k0, k1, ek⟩ := hK.2 (done - 9 - bl) (by omega) (by omega) (by omega) (by omega)
    have := hS.2.1 k k0 k1
    omega
theorem RsA_dm {w m bl d a : Int} (A : RsA w m bl d a) (hw : w ≤ 160) (hm : m ≤ w) (_ : 0 ≤ bl) : Dm a := by
  unfold RsA at A
  exact ⟨by omega, by omega⟩
theorem RiA_t {cnt : Int} {g sr r v lv : Nat → Int} {w m bl a : Int} (A : RiA cnt g sr r v lv w m bl a) (a0 : -8 ≤ a) (a1 : a < 160) (s1 : v (2 * a + 102).toNat = 1) (n1 : ¬ v (2 * a + 103).toNat = -1) : 0 ≤ v (2 * a + 103).toNat ∧ v (2 * a + 103).toNat < w ∧ w ≤ 160 := by
  obtain ⟨h0, d, dA, M, R⟩ := A
  have q := RowS_at R a0 a1
  have e := encD_at (r := v) (x := a) ⟨a0, a1⟩
  unfold WdOK at q
  have k := Mid_tgt M h0 dA rfl (by omega) (by omega)
  have b := rq_Mid_box M
  omega
theorem RiB_0 {cnt : Int} {g sr r v lv : Nat → Int} {w m bl a : Int} (A : RiA cnt g sr r v lv w m bl a) (a0 : -8 ≤ a) (a1 : a < 160) (h : ¬ v (2 * a + 102).toNat = 1 ∨ v (2 * a + 103).toNat = -1) : RiB cnt g sr r v lv w m bl a := by
  obtain ⟨h0, d, dA, M, R⟩ := A
  have q := RowS_at R a0 a1
  have e := encD_at (r := v) (x := a) ⟨a0, a1⟩
  unfold WdOK at q
  exact ⟨d, dA, rq_Mid_rs M h0 dA rfl (Or.inl ⟨by omega, rfl⟩), R⟩
theorem RiB_1 {cnt : Int} {g sr r v v2 lv gt : Nat → Int} {w m bl a t z : Int} (A : RiA cnt g sr r v lv w m bl a) (G : GtT gt lv w m) (a0 : -8 ≤ a) (a1 : a < 160) (s1 : v (2 * a + 102).toNat = 1) (n1 : ¬ v (2 * a + 103).toNat = -1) (ht : t = v (2 * a + 103).toNat) (hz : z = gt t.toNat) (z0 : -1 ≤ z ∧ z ≤ 159) (H : HldR v v2 a 1 z) : RiB cnt g sr r v2 lv w m bl a := by
  have k := RiA_t A a0 a1 s1 n1
  obtain ⟨h0, d, dA, M, R⟩ := A
  have q := RowS_at R a0 a1
  have e := encD_at (r := v) (x := a) ⟨a0, a1⟩
  unfold WdOK at q
  have n := G t (by omega) (by omega)
  have ez : aI gt t = z := hz.symm
  rw [ez] at n
  have e5 := encD_hold H ⟨a0, a1⟩
  rw [(by omega : 2048 * 1 + 1000 + z = z + 3048)] at e5
  refine ⟨d, dA, rq_Mid_rs M h0 dA rfl (Or.inr ⟨by omega, by omega, z, ?_, e5⟩), RowS_hold R H (by unfold WdOK; omega)⟩
  rw [(by omega : encD v (a + 8).toNat - 3048 = t)]
  exact n
def LaA (cnt : Int) (g sr r v lv : Nat → Int) (w m bl : Int) : Prop := ∃ d, LastP m bl (r (0 : Int).toNat) d ∧ MdV cnt g sr r v lv w m bl d
def LaB (cnt : Int) (g sr v : Nat → Int) (w m : Int) : Prop := VM cnt (flN g) (enc v) (w - m) w ∧ v (1 : Int).toNat = w - m ∧ RowS v ∧ SrN g sr v w
theorem LaA_box {cnt : Int} {g sr r v lv : Nat → Int} {w m bl : Int} (A : LaA cnt g sr r v lv w m bl) : 0 ≤ m ∧ m ≤ w ∧ w ≤ 160 := by
  obtain ⟨d, _, M, _⟩ := A
  have b := rq_Mid_box M
  omega
theorem encD_hd {v v1 : Nat → Int} {i x : Int} (e : v1 = updI v i.toNat x) (hi : i = 1) : encD v1 = encD v := by
  subst hi
  rw [e]
  funext j
  unfold encD enc updI
  by_cases h : j < 168
  · rw [if_pos h, if_pos h, if_neg (by omega), if_neg (by omega)]
  · rw [if_neg h, if_neg h]
theorem RowS_hd {v v1 : Nat → Int} {i x : Int} (R : RowS v) (e : v1 = updI v i.toNat x) (hi : i = 1) : RowS v1 := by
  subst hi
  rw [e]
  intro y hy
  have := hy.1
  have u : ∀ j : Nat, 2 ≤ j → updI v (1 : Int).toNat x j = v j := fun j hj => by unfold updI; rw [if_neg (by omega)]
  rw [u _ (by omega), u _ (by omega)]
  exact R y hy
def FlD (v0 v : Nat → Int) (lo a : Int) : Prop := (∀ x, Dm x → mI (encD v) x = if 0 ≤ x ∧ x < a then 1000 else mI (encD v0) x) ∧ v (1 : Int).toNat = lo ∧ RowS v
theorem FlD_init {cnt : Int} {g sr r v v1 lv : Nat → Int} {w m bl i x lo : Int} (A : LaA cnt g sr r v lv w m bl) (e : v1 = updI v i.toNat x) (hi : i = 1) (hx : x = lo) : FlD v v1 lo 0 := by
  obtain ⟨d, _, M, R⟩ := A
  refine ⟨fun y hy => ?_, ?_, RowS_hd R e hi⟩
  · rw [encD_hd e hi, if_neg (by omega)]
  · rw [e, hi, hx]; unfold updI; rw [if_pos rfl]
theorem FlD_step {v0 v v2 : Nat → Int} {lo a : Int} (F : FlD v0 v lo a) (H : HldR v v2 a 0 0) (a0 : 0 ≤ a) (a1 : a < 160) : FlD v0 v2 lo (a + 1) := by
  obtain ⟨f1, f2, f3⟩ := F
  refine ⟨fun x hx => ?_, by rw [H.1 _ (by decide)]; exact f2, RowS_hold f3 H (by unfold WdOK; omega)⟩
  rw [encD_hold H ⟨by omega, a1⟩, mI_upd (by omega) hx.1]
  by_cases q : x = a
  · rw [if_pos q, if_pos (by omega)]; rfl
  · rw [if_neg q, f1 x hx]
    by_cases z : 0 ≤ x ∧ x < a
    · rw [if_pos z, if_pos (by omega)]
    · rw [if_neg z, if_neg (by omega)]
theorem LaB_of {cnt : Int} {g sr r v v2 lv : Nat → Int} {w m bl lo a : Int} (A : LaA cnt g sr r v lv w m bl) (F : FlD v v2 lo a) (hlo : lo = w - m) (h1 : lo ≤ a) (h2 : a ≤ lo ∨ a ≤ 0) : LaB cnt g sr v2 w m := by
  have bx := LaA_box A
  obtain ⟨d, hl, M, R⟩ := A
  obtain ⟨f1, f2, f3⟩ := F
  have ea : a = w - m := by omega
  have hF : FillR (encD v) (encD v2) 8 (w - m + 8) 1000 := by
    intro j
    by_cases hj : j < 168
    · have k := f1 ((j : Int) - 8) ⟨by omega, by omega⟩
      have e1 : mI (encD v2) ((j : Int) - 8) = encD v2 j := by unfold mI; congr 1; omega
      have e2 : mI (encD v) ((j : Int) - 8) = encD v j := by unfold mI; congr 1; omega
      rw [e1, e2] at k
      constructor
      · intro h; rw [k, if_pos (by omega)]
      · intro h; rw [k, if_neg (by omega)]
    · have e1 : encD v2 j = 0 := by unfold encD; rw [if_neg hj]
      have e2 : encD v j = 0 := by unfold encD; rw [if_neg hj]
      exact ⟨fun h => by omega, fun _ => by rw [e1, e2]⟩
  have V := rq_Mid_last M hl hF rfl
  obtain ⟨M0, Q0, L0, S0, N0⟩ := rq_Mid_lastN M hl hF rfl
  have hN : SrN g sr v2 w := by
    intro h k F q
    obtain ⟨p1, p2, p3, p4, p5⟩ := F
    have n := N0 (h - (w - m)) (by omega) (by omega)
    rw [(by omega : w - m + (h - (w - m)) = h)] at n
    have eh : mI (encD v2) h = enc v2 (h + 8).toNat := encD_mE ⟨by omega, by omega⟩
    have hd : 5096 ≤ M0 (aI lv (h - (w - m))) := by
      rcases (by omega : 5096 ≤ M0 (aI lv (h - (w - m))) ∨ M0 (aI lv (h - (w - m))) < 5096) with z | z
      · exact z
      · have := n.2.2 z; omega
    have e := n.1 hd
    rw [eh] at e
    rw [e] at p5 q
    have sp := S0.2.1 (h - (w - m)) (by omega) (by omega)
    have ef : aI (flN g) (M0 (aI lv (h - (w - m))) - 5096) = flN g (M0 (aI lv (h - (w - m))) - 5096).toNat := rfl
    have sc := S0.2.2.2.1 (h - (w - m)) (by omega) (by omega) hd (k + 1) (by omega) (by omega)
    have m0 := Q0 (aI lv (h - (w - m))) k sp.1 sp.2 hd p4 p5 q
    have n2 := (N0 (h - (w - m) + (k + 1)) (by omega) sc.1).2.1 (by rw [sc.2, (by omega : aI lv (h - (w - m)) + (k + 1) = aI lv (h - (w - m)) + 1 + k)]; exact m0)
    rw [(by omega : w - m + (h - (w - m) + (k + 1)) = h + 1 + k)] at n2
    have ex : mI (encD v2) (h + 1 + k) = enc v2 (h + 1 + k + 8).toNat := encD_mE ⟨by omega, by have := sc.1; omega⟩
    omega
  refine ⟨VM_cong V (fun x hx => ?_), by omega, f3, hN⟩
  have := hx.1
  have := hx.2
  show enc v2 (x + 8).toNat = encD v2 (x + 8).toNat
  unfold encD
  rw [if_pos (by omega)]
def SsR (r : Nat → Int) (m b k z : Int) : Prop := (z = 1 ∧ k = 1) ∨ (z = 2 ∧ r (0 : Int).toNat = 0 ∧ 2 ≤ k ∧ k ≤ 9) ∨ (z = 3 ∧ r (0 : Int).toNat = 0 ∧ 10 ≤ k ∧ k ≤ 9 + m) ∨ (z = 4 ∧ r (0 : Int).toNat = 0 ∧ 10 + m ≤ k ∧ k ≤ 9 + 2 * m) ∨ (z = 5 ∧ r (0 : Int).toNat = 1 ∧ 2 ≤ k ∧ k ≤ 1 + b) ∨ (z = 6 ∧ r (0 : Int).toNat = 1 ∧ 2 + b ≤ k ∧ k ≤ 9 + b) ∨ (z = 7 ∧ r (0 : Int).toNat = 1 ∧ 10 + b ≤ k ∧ k ≤ 9 + b + m) ∨ (z = 8 ∧ ((r (0 : Int).toNat = 0 ∧ k = 10 + 2 * m) ∨ (r (0 : Int).toNat = 1 ∧ k = 10 + b + m)))
theorem SsR_mk1 {r : Nat → Int} {m b k : Int} (h : k = 1) : SsR r m b k 1 := Or.inl ⟨rfl, h⟩
theorem SsR_1 {r : Nat → Int} {m b k z : Int} (H : SsR r m b k z) (hz : z = 1) : k = 1 := by
  rcases H with h | h | h | h | h | h | h | h
  all_goals omega
theorem SsR_mk2 {r : Nat → Int} {m b k : Int} (h : r (0 : Int).toNat = 0 ∧ 2 ≤ k ∧ k ≤ 9) : SsR r m b k 2 := Or.inr (Or.inl ⟨rfl, h⟩)
theorem SsR_2 {r : Nat → Int} {m b k z : Int} (H : SsR r m b k z) (hz : z = 2) : r (0 : Int).toNat = 0 ∧ 2 ≤ k ∧ k ≤ 9 := by
  rcases H with h | h | h | h | h | h | h | h
  all_goals omega
theorem SsR_mk3 {r : Nat → Int} {m b k : Int} (h : r (0 : Int).toNat = 0 ∧ 10 ≤ k ∧ k ≤ 9 + m) : SsR r m b k 3 := Or.inr (Or.inr (Or.inl ⟨rfl, h⟩))
theorem SsR_3 {r : Nat → Int} {m b k z : Int} (H : SsR r m b k z) (hz : z = 3) : r (0 : Int).toNat = 0 ∧ 10 ≤ k ∧ k ≤ 9 + m := by
  rcases H with h | h | h | h | h | h | h | h
  all_goals omega
theorem SsR_mk4 {r : Nat → Int} {m b k : Int} (h : r (0 : Int).toNat = 0 ∧ 10 + m ≤ k ∧ k ≤ 9 + 2 * m) : SsR r m b k 4 := Or.inr (Or.inr (Or.inr (Or.inl ⟨rfl, h⟩)))
theorem SsR_4 {r : Nat → Int} {m b k z : Int} (H : SsR r m b k z) (hz : z = 4) : r (0 : Int).toNat = 0 ∧ 10 + m ≤ k ∧ k ≤ 9 + 2 * m := by
  rcases H with h | h | h | h | h | h | h | h
  all_goals omega
theorem SsR_mk5 {r : Nat → Int} {m b k : Int} (h : r (0 : Int).toNat = 1 ∧ 2 ≤ k ∧ k ≤ 1 + b) : SsR r m b k 5 := Or.inr (Or.inr (Or.inr (Or.inr (Or.inl ⟨rfl, h⟩))))
theorem SsR_5 {r : Nat → Int} {m b k z : Int} (H : SsR r m b k z) (hz : z = 5) : r (0 : Int).toNat = 1 ∧ 2 ≤ k ∧ k ≤ 1 + b := by
  rcases H with h | h | h | h | h | h | h | h
  all_goals omega
theorem SsR_mk6 {r : Nat → Int} {m b k : Int} (h : r (0 : Int).toNat = 1 ∧ 2 + b ≤ k ∧ k ≤ 9 + b) : SsR r m b k 6 := Or.inr (Or.inr (Or.inr (Or.inr (Or.inr (Or.inl ⟨rfl, h⟩)))))
theorem SsR_6 {r : Nat → Int} {m b k z : Int} (H : SsR r m b k z) (hz : z = 6) : r (0 : Int).toNat = 1 ∧ 2 + b ≤ k ∧ k ≤ 9 + b := by
  rcases H with h | h | h | h | h | h | h | h
  all_goals omega
theorem SsR_mk7 {r : Nat → Int} {m b k : Int} (h : r (0 : Int).toNat = 1 ∧ 10 + b ≤ k ∧ k ≤ 9 + b + m) : SsR r m b k 7 := Or.inr (Or.inr (Or.inr (Or.inr (Or.inr (Or.inr (Or.inl ⟨rfl, h⟩))))))
theorem SsR_7 {r : Nat → Int} {m b k z : Int} (H : SsR r m b k z) (hz : z = 7) : r (0 : Int).toNat = 1 ∧ 10 + b ≤ k ∧ k ≤ 9 + b + m := by
  rcases H with h | h | h | h | h | h | h | h
  all_goals omega
theorem SsR_mk8 {r : Nat → Int} {m b k : Int} (h : (r (0 : Int).toNat = 0 ∧ k = 10 + 2 * m) ∨ (r (0 : Int).toNat = 1 ∧ k = 10 + b + m)) : SsR r m b k 8 := Or.inr (Or.inr (Or.inr (Or.inr (Or.inr (Or.inr (Or.inr (⟨rfl, h⟩)))))))
theorem SsR_8 {r : Nat → Int} {m b k z : Int} (H : SsR r m b k z) (hz : z = 8) : (r (0 : Int).toNat = 0 ∧ k = 10 + 2 * m) ∨ (r (0 : Int).toNat = 1 ∧ k = 10 + b + m) := by
  rcases H with h | h | h | h | h | h | h | h
  all_goals first | exact h.2 | (exfalso; omega)
