def OpU (op op2 : Nat → Int) (d x z : Int) : Prop := z = 0 ∨ op2 = updI op d.toNat x
theorem OpU_get {op op2 : Nat → Int} {d x z : Int} (H : OpU op op2 d x z) (h : ¬ z = 0) : op2 = updI op d.toNat x := H.elim (fun q => absurd q h) id
theorem up3_0 {c : Nat → Int} {s a b v : Int} (h : 0 ≤ s) : updI (updI (updI c s.toNat a) (s + 1).toNat b) (s + 2).toNat v s.toNat = a := by
  unfold updI; rw [if_neg (by omega), if_neg (by omega), if_pos rfl]
theorem up3_P {c : Nat → Int} {s a b v : Int} (h : 0 ≤ s) : PrfS c (updI (updI (updI c s.toNat a) (s + 1).toNat b) (s + 2).toNat v) s := PrfS_upd (PrfS_upd (PrfS_upd PrfS_rf rfl h (by omega)) rfl h (by omega)) rfl h (by omega)
theorem RtG_slide {c c2 op : Nat → Int} {s0 sz cnt d t : Int} (H : RtG c s0 cnt op d) (E : c2 = updI (updI c s0.toNat 1) (s0 + 1).toNat t) (hs : sz = s0 + 2) : RtG c2 sz cnt op d := by
  have h0 := RtG_box H
  subst E
  refine RtG_act H (PrfS_upd (PrfS_upd PrfS_rf rfl h0 (by omega)) rfl h0 (by omega)) (by omega) (fun c3 S A hS => Or.inl ⟨?_, by omega, ?_⟩)
  · rw [A s0 (by omega) (by omega)]; unfold updI; rw [if_neg (by omega), if_pos rfl]
  · rw [← hs]; exact hS
theorem RtG_set {c c3 c4 c5 c6 op : Nat → Int} {s0 s3 e1 sz cnt d t may za zb i v : Int} (H : RtG c s0 cnt op d) (E3 : c3 = updI (updI (updI c s0.toNat 0) (s0 + 1).toNat t) (s0 + 2).toNat (-1)) (hs3 : s3 = s0 + 3) (P : PthG c3 c4 s3 e1 za) (ha : ¬ za = 0) (E5 : c5 = updI c4 i.toNat v) (hi : i = s0 + 2) (hv : v = e1) (V : VlG c5 c6 e1 sz cnt may zb) (hb : ¬ zb = 0) : RtG c6 sz cnt op d := by
  have h0 := RtG_box H
  obtain ⟨p1, p2⟩ := PthG_get P ha
  obtain ⟨v1, v2, _⟩ := VlG_get V hb
  have b1 := PthOK_box p2
  have b2 := VlOK_box v2
  have k3 : PrfS c c3 s0 := by rw [E3]; exact up3_P h0
  have k4 : PrfS c c4 s0 := PrfS_tr k3 p1 (by omega)
  have k5 : PrfS c c5 s0 := PrfS_upd k4 E5 h0 (by omega)
  have q5 : ∀ x, 0 ≤ x → x ≠ s0 + 2 → c5 x.toNat = c4 x.toNat := fun x x0 xn => by rw [E5]; unfold updI; rw [if_neg (by omega)]
  refine RtG_act H (PrfS_tr k5 v1 (by omega)) (by omega) (fun c7 S A hS => ?_)
  have w1 : c7 s0.toNat = 0 := by
    rw [A s0 (by omega) (by omega), v1 s0 h0 (by omega), q5 s0 h0 (by omega), p1 s0 h0 (by omega), E3]; exact up3_0 h0
  have w2 : c7 (s0 + 2).toNat = e1 := by
    rw [A (s0 + 2) (by omega) (by omega), v1 (s0 + 2) (by omega) (by omega), E5, hi]; unfold updI; rw [if_pos rfl]; exact hv
  refine Or.inr (Or.inr (Or.inr (Or.inr ⟨by omega, by omega, sz, ?_, ?_, hS⟩)))
  · rw [w2, ← hs3]
    exact PthOK_ag p2 (fun j a b => by rw [A j (by omega) (by omega), v1 j (by omega) (by omega), q5 j (by omega) (by omega)]) (by omega)
  · rw [w2]
    exact VlOK_ag v2 (AgR_sub A (by omega) (Int.le_refl _)) (Int.le_refl _)
theorem RtG_repeat {c c4 op op2 : Nat → Int} {s0 sz cnt d d2 t v z : Int} (H : RtG c s0 cnt op d) (E : c4 = updI (updI (updI (updI c s0.toNat 2) (s0 + 1).toNat t) (s0 + 2).toNat (-1)) (s0 + 3).toNat v) (hv : 0 ≤ v ∧ v ≤ 99) (hs : sz = s0 + 4) (O : OpU op op2 d s0 z) (hz : ¬ z = 0) (hd : d2 = d + 1) (d0 : 0 ≤ d) : RtG c4 sz cnt op2 d2 := by
  have h0 := RtG_box H
  subst hd
  have P : PrfS c c4 s0 := by rw [E]; exact PrfS_upd (up3_P h0) rfl h0 (by omega)
  refine RtG_open H P (by omega) (OpU_get O hz) rfl d0 (fun c5 S A hS => Or.inl ⟨?_, h0, by omega, ?_, ?_⟩)
  · rw [A s0 (by omega) (by omega) (by omega), E]; unfold updI; rw [if_neg (by omega), if_neg (by omega), if_neg (by omega), if_pos rfl]
  · rw [A (s0 + 3) (by omega) (by omega) (by omega), E]; unfold updI; rw [if_pos rfl]; exact hv
  · rw [← hs]; exact hS
theorem RtG_when {c c3 c4 c5 op op2 : Nat → Int} {s0 s3 e1 sz cnt d d2 t m1 m2 za zb z : Int} (H : RtG c s0 cnt op d) (E : c3 = updI (updI (updI c s0.toNat 4) (s0 + 1).toNat t) (s0 + 2).toNat (-1)) (hs3 : s3 = s0 + 3) (V1 : VlG c3 c4 s3 e1 cnt m1 za) (ha : ¬ za = 0) (hm1 : m1 = 0) (V2 : VlG c4 c5 e1 sz cnt m2 zb) (hb : ¬ zb = 0) (hm2 : m2 = 0) (O : OpU op op2 d s0 z) (hz : ¬ z = 0) (hd : d2 = d + 1) (d0 : 0 ≤ d) : RtG c5 sz cnt op2 d2 := by
  have h0 := RtG_box H
  subst hd
  obtain ⟨p1, _, p2⟩ := VlG_get V1 ha
  obtain ⟨q1, _, q2⟩ := VlG_get V2 hb
  have t1 := p2 hm1
  have t2 := q2 hm2
  have b1 := TkOK_box t1
  have b2 := TkOK_box t2
  have k3 : PrfS c c3 s0 := by rw [E]; exact up3_P h0
  refine RtG_open H (PrfS_tr (PrfS_tr k3 p1 (by omega)) q1 (by omega)) (by omega) (OpU_get O hz) rfl d0 (fun c7 S A hS => Or.inr ⟨?_, by omega, e1, sz, ?_, ?_, hS⟩)
  · rw [A s0 (by omega) (by omega) (by omega), q1 s0 h0 (by omega), p1 s0 h0 (by omega), E]; exact up3_0 h0
  · rw [← hs3]
    exact TkOK_ag t1 (fun j a b => by rw [A j (by omega) (by omega) (by omega), q1 j (by omega) (by omega)]) (by omega)
  · exact TkOK_ag t2 (fun j a b => A j (by omega) (by omega) (by omega)) (Int.le_refl _)
theorem RtG_endR {c op : Nat → Int} {sz cnt d z : Int} (H : RtG c sz cnt op d) (hd : d ≤ 0) : OkR c sz cnt z := Or.inr (RtG_end H hd)
def RtL (z sz a : Int) : Prop := z = 0 ∨ 2 * sz ≤ 5 * a
def BlkI (g : Nat → Int) (a0 a : Int) : Prop := a = a0 ∨ g a0.toNat = 32 ∨ g a0.toNat = 10
theorem BlkI_step {g : Nat → Int} {a0 a x : Int} (H : BlkI g a0 a) (hx : x = g a.toNat) (h : x = 32 ∨ x = 10) : BlkI g a0 (a + 1) := by
  rcases H with q | q
  · subst q; right; omega
  · exact Or.inr q
theorem BlkI_v {g : Nat → Int} {a0 a x : Int} (H : BlkI g a0 a) (hx : x = g a.toNat) : (a = a0 ∧ x = g a0.toNat) ∨ g a0.toNat = 32 ∨ g a0.toNat = 10 := by
  rcases H with q | q
  · subst q; exact Or.inl ⟨rfl, hx⟩
  · exact Or.inr q
def owM : Nat → Int
  | 0 => 0
  | n + 1 => if owL.getD n 0 = 32 then 0 else owM n + 1
set_option maxRecDepth 100000 in
theorem ow_m3 : ∀ j : Fin 70, owL.getD j.val 0 = 32 → 3 ≤ owM j.val := by decide +kernel
def OwJ (i m : Int) : Prop := 0 ≤ i ∧ i ≤ 70 ∧ m = owM i.toNat
theorem OwJ_init : OwJ 0 0 := ⟨by omega, by omega, rfl⟩
theorem OwJ_sp {i m x : Int} (H : OwJ i m) (h1 : i < 70) (hx : x = owZ i) (h : x = 32) : 3 ≤ m ∧ OwJ (i + 1) 0 := by
  obtain ⟨a, b, c⟩ := H
  have e : (i + 1).toNat = i.toNat + 1 := by omega
  have h2 : owL.getD i.toNat 0 = 32 := hx.symm.trans h
  refine ⟨by rw [c]; exact ow_m3 ⟨i.toNat, by omega⟩ h2, by omega, by omega, ?_⟩
  rw [e, owM, if_pos h2]
theorem OwJ_no {i m x : Int} (H : OwJ i m) (h1 : i < 70) (hx : x = owZ i) (h : ¬ x = 32) : OwJ (i + 1) (m + 1) := by
  obtain ⟨a, b, c⟩ := H
  have e : (i + 1).toNat = i.toNat + 1 := by omega
  have h2 : ¬ owL.getD i.toNat 0 = 32 := fun q => h (hx.trans q)
  refine ⟨by omega, by omega, ?_⟩
  rw [e, owM, if_neg h2, c]
