section ZO
variable {p : Program} {l : Launch} {e : Env} {R : Room} {s : State} {m : MethodId} {args : Array Value} {below : List Frame} {meth : Method} {c : Code} {H : Heap} {locs : List Loc} {cells slots : Nat} {Q : State → Prop}
variable {cc : ByteArray} {pc : Nat} {ls : Array Slot} {rest : List Value}
theorem zv_ior (hexec : p.tables.exec = Jvm.exec) (hb : c.code = cc) {x y : Int} (hx : 0 ≤ x ∧ x ≤ 1) (hy : 0 ≤ y ∧ y ≤ 1) (hdg : decode cc pc = .ok (.ior, 1)) (kk : ∀ z : Int, ((x = 0 ∧ y = 0 ∧ z = 0) ∨ (z = 1 ∧ x = 1) ∨ (z = 1 ∧ y = 1)) → W p l e R s m args below meth c H locs cells slots Q (F0 m (pc + 1) ls (.int (iZ z) :: rest))) : W p l e R s m args below meth c H locs cells slots Q (F0 m pc ls (.int (iZ y) :: .int (iZ x) :: rest)) := by
  refine lv_ior hexec hb hdg ?_
  rcases (by omega : x = 0 ∨ x = 1) with rfl | rfl <;> rcases (by omega : y = 0 ∨ y = 1) with rfl | rfl
  · exact kk 0 (Or.inl ⟨rfl, rfl, rfl⟩)
  · exact kk 1 (Or.inr (Or.inr ⟨rfl, rfl⟩))
  · exact kk 1 (Or.inr (Or.inl ⟨rfl, rfl⟩))
  · exact kk 1 (Or.inr (Or.inl ⟨rfl, rfl⟩))
end ZO
def nzC (g : Nat → Int) : Nat → Int
  | 0 => 0
  | n + 1 => nzC g n + (if g n = 0 then 1 else 0)
theorem nzC_pos (g : Nat → Int) : ∀ n : Nat, 0 ≤ nzC g n
  | 0 => Int.le_refl _
  | n + 1 => by
    have h := nzC_pos g n
    rw [nzC]
    split <;> omega
theorem nzC_same {g g2 : Nat → Int} : ∀ n : Nat, (∀ j, j < n → g2 j = g j) → nzC g2 n = nzC g n
  | 0, _ => rfl
  | n + 1, h => by rw [nzC, nzC, nzC_same n (fun j hj => h j (by omega)), h n (by omega)]
theorem nzC_upd {g : Nat → Int} {i : Nat} (h0 : g i = 0) : ∀ n : Nat, i < n → nzC (updI g i 1) n = nzC g n - 1
  | 0, h => absurd h (Nat.not_lt_zero i)
  | n + 1, h => by
    rcases (by omega : i < n ∨ i = n) with q | q
    · rw [nzC, nzC, nzC_upd h0 n q]
      have : updI g i 1 n = g n := by unfold updI; rw [if_neg (by omega)]
      rw [this]
      omega
    · subst q
      rw [nzC, nzC, nzC_same i (fun j hj => by unfold updI; rw [if_neg (by omega)])]
      have : updI g i 1 i = 1 := by unfold updI; rw [if_pos rfl]
      rw [this, h0]
      simp
def KdR (r fo : Nat → Int) (c z : Int) : Prop := z = r (2 * fo c.toNat + 103).toNat
theorem KdR_mk {r fo : Nat → Int} {c x z : Int} (hx : x = fo c.toNat) (hz : z = r (2 * x + 103).toNat) : KdR r fo c z := by
  subst hx
  exact hz
def FlB (g r fo : Nat → Int) (c k : Int) : Prop := k < g (r (2 * fo c.toNat + 103).toNat + 6).toNat
theorem FlB_mk {g r fo : Nat → Int} {c k z f : Int} (K : KdR r fo c z) (hf : f = g (z + 6).toNat) (h : k < f) : FlB g r fo c k := by
  unfold KdR at K
  unfold FlB
  rw [← K, ← hf]
  exact h
theorem FlB_at {cnt : Int} {g sr co fo r : Nat → Int} {w n c k x z : Int} (H : NwI cnt g sr r w) (L : LyS co fo r w n) (c0 : 0 ≤ c) (c1 : c < n) (F : FlB g r fo c k) (k0 : 0 ≤ k) (hx : x = fo c.toNat) (K : KdR r fo c z) : k ≤ 5 ∧ r (1 : Int).toNat ≤ x + 1 + k ∧ x + 1 + k < w ∧ mE r x = 5096 + z := by
  have hh := LyS_fo L c0 c1 hx
  have h2 := Nw_head H hh.1 hh.2.1 hh.2.2
  unfold FlB at F
  unfold KdR at K
  rw [← hx] at F K
  omega
def CyR (g sr co fo r : Nat → Int) (w c k z : Int) : Prop := (z = -1 ∧ ∀ t, sr (36 + 6 * (mE r (aI fo c) - 5096) + k).toNat = 1 → ¬ PtT (mE r) (aI fo c + 1 + k) t) ∨ (sr (36 + 6 * (mE r (aI fo c) - 5096) + k).toNat = 1 ∧ ∃ t, PtT (mE r) (aI fo c + 1 + k) t ∧ z = aI co t ∧ r (1 : Int).toNat ≤ t ∧ t < w)
theorem CyR_no {g sr co fo r : Nat → Int} {w c k x kd y : Int} (hx : x = fo c.toNat) (hk : mE r x = 5096 + kd) (hy : y = sr (6 * kd + k + 36).toNat) (h : ¬ y = 1) : CyR g sr co fo r w c k (-1) := by
  left
  refine ⟨rfl, fun t q => absurd ?_ h⟩
  have e : aI fo c = x := hx.symm
  rw [e, hk, (by omega : 36 + 6 * (5096 + kd - 5096) + k = 6 * kd + k + 36), ← hy] at q
  exact q
theorem CyR_yes {g sr co fo r : Nat → Int} {w c k x kd y z a : Int} (hx : x = fo c.toNat) (hk : mE r x = 5096 + kd) (hy : y = sr (6 * kd + k + 36).toNat) (h : y = 1) (C : CfR co r w a z) (ha : a = x + 1 + k) : CyR g sr co fo r w c k z := by
  have e : aI fo c = x := hx.symm
  have e2 : sr (36 + 6 * (mE r (aI fo c) - 5096) + k).toNat = 1 := by
    rw [e, hk, (by omega : 36 + 6 * (5096 + kd - 5096) + k = 6 * kd + k + 36), ← hy]; exact h
  subst ha
  rcases C with ⟨q1, q2⟩ | ⟨t, q1, q2, q3, q4⟩
  · exact Or.inl ⟨q1, fun t _ => by rw [e]; exact q2 t⟩
  · exact Or.inr ⟨e2, t, by rw [e]; exact q1, q2, q3, q4⟩
theorem CyR_in {g sr co fo r : Nat → Int} {w n c k z : Int} (L : LyS co fo r w n) (C : CyR g sr co fo r w c k z) : z = -1 ∨ (0 ≤ z ∧ z < n) := by
  rcases C with q | ⟨_, t, q1, q2, q3, q4⟩
  · exact Or.inl q.1
  · have := LyS_co L q3 q4 q2
    exact Or.inr ⟨this.1, this.2.1⟩
def BlR (lv lv2 : Nat → Int) (c z : Int) : Prop := (z = 0 ∧ lv2 = lv ∧ (c = -1 ∨ ¬ lv c.toNat = 0)) ∨ (z = 1 ∧ 0 ≤ c ∧ lv c.toNat = 0 ∧ lv2 = updI lv c.toNat 1)
def MkS (g sr fo r lv : Nat → Int) (n : Int) : Prop := ∀ c, 0 ≤ c → c < n → aI lv c = 1 → Rch (mE r) (flN g) sr (aI fo c)
def LvM (lv lv2 : Nat → Int) : Prop := nzC lv2 80 ≤ nzC lv 80 ∧ ∀ c, 0 ≤ c → aI lv c = 1 → aI lv2 c = 1
theorem LvM_rf {lv : Nat → Int} : LvM lv lv := ⟨Int.le_refl _, fun _ _ h => h⟩
theorem LvM_tr {a b c : Nat → Int} (H : LvM a b) (K : LvM b c) : LvM a c := ⟨Int.le_trans K.1 H.1, fun x x0 h => K.2 x x0 (H.2 x x0 h)⟩
theorem BlR_m {lv lv2 : Nat → Int} {c z : Int} (B : BlR lv lv2 c z) (hc : c < 80) : LvM lv lv2 ∧ (z = 1 → nzC lv2 80 < nzC lv 80) ∧ (z = 0 → lv2 = lv) := by
  rcases B with ⟨q1, q2, q3⟩ | ⟨q1, q2, q3, q4⟩
  · subst q2
    exact ⟨LvM_rf, fun h => by omega, fun _ => rfl⟩
  · have e := nzC_upd q3 80 (by omega)
    rw [q4]
    refine ⟨⟨by omega, fun x x0 h => ?_⟩, fun _ => by omega, fun h => by omega⟩
    rw [aI_upd q2 x0]
    split
    · rfl
    · exact h
theorem MkS_bl {g sr fo r lv lv2 : Nat → Int} {n c z : Int} (M : MkS g sr fo r lv n) (B : BlR lv lv2 c z) (h : 0 ≤ c → c < n → Rch (mE r) (flN g) sr (aI fo c)) : MkS g sr fo r lv2 n := by
  rcases B with ⟨q1, q2, q3⟩ | ⟨q1, q2, q3, q4⟩
  · rw [q2]; exact M
  · intro x x0 x1 h1
    rw [q4, aI_upd q2 x0] at h1
    by_cases e : x = c
    · subst e; exact h x0 x1
    · rw [if_neg e] at h1; exact M x x0 x1 h1
theorem Cy_rch {cnt : Int} {g sr co fo r lv : Nat → Int} {w n c k z : Int} (H : NwI cnt g sr r w) (L : LyS co fo r w n) (M : MkS g sr fo r lv n) (c0 : 0 ≤ c) (c1 : c < n) (hc : aI lv c = 1) (k0 : 0 ≤ k) (F : FlB g r fo c k) (C : CyR g sr co fo r w c k z) : 0 ≤ z → z < n → Rch (mE r) (flN g) sr (aI fo z) := by
  intro z0 z1
  have hh := LyS_fo L c0 c1 (x := aI fo c) rfl
  have h2 := Nw_head H hh.1 hh.2.1 hh.2.2
  rcases C with q | ⟨q1, t, q2, q3, q4, q5⟩
  · omega
  · have hd := LyS_co L q4 q5 q3
    refine Rch_cl.2 (aI fo c) (aI fo c + 1 + k) t (aI fo z) (M c c0 c1 hc) hh.2.2 ⟨k, k0, ?_, q1, rfl⟩ q2 hd.2.2
    unfold FlB at F
    have e : aI fo c = fo c.toNat := rfl
    rw [← e] at F
    show k < g ((mE r (aI fo c) - 5096).toNat + 6)
    rw [(by omega : (mE r (aI fo c) - 5096).toNat + 6 = (r (2 * aI fo c + 103).toNat + 6).toNat)]
    exact F
def B01 (lv : Nat → Int) : Prop := ∀ j : Nat, j < 80 → 0 ≤ lv j ∧ lv j ≤ 1
def ClK (g sr co fo r lv : Nat → Int) (w out c k : Int) : Prop := ∀ t, sr (36 + 6 * (mE r (aI fo c) - 5096) + k).toNat = 1 → PtT (mE r) (aI fo c + 1 + k) t → r (1 : Int).toNat ≤ t → t < w → aI co t = out ∨ aI lv (aI co t) = 1
theorem ClK_out {g sr co fo r lv : Nat → Int} {w out c k z : Int} (C : CyR g sr co fo r w c k z) (h : z = out) : ClK g sr co fo r lv w out c k := by
  intro t t1 t2 t3 t4
  rcases C with ⟨q1, q2⟩ | ⟨q1, u, q2, q3, q4, q5⟩
  · exact absurd t2 (q2 t t1)
  · have e : t = u := by unfold PtT at *; omega
    subst e
    left; omega
theorem ClK_bl {g sr co fo r lv lv2 : Nat → Int} {w n out c k z b : Int} (L : LyS co fo r w n) (n1 : n ≤ 80) (hb : B01 lv) (C : CyR g sr co fo r w c k z) (B : BlR lv lv2 z b) (h : b = 0) : ClK g sr co fo r lv w out c k := by
  intro t t1 t2 t3 t4
  rcases C with ⟨q1, q2⟩ | ⟨q1, u, q2, q3, q4, q5⟩
  · exact absurd t2 (q2 t t1)
  · have e : t = u := by unfold PtT at *; omega
    subst e
    have hd := LyS_co L q4 q5 q3
    rcases B with ⟨b1, b2, b3⟩ | ⟨b1, _⟩
    · right
      have h9 := hb z.toNat (by omega)
      have e2 : aI lv (aI co t) = lv z.toNat := by rw [← q3]; rfl
      rw [e2]
      omega
    · omega
def MfI (g sr co fo r lv0 lv : Nat → Int) (w out c i more : Int) : Prop := LvM lv0 lv ∧ ((more = 0 ∧ lv = lv0 ∧ ∀ k, 0 ≤ k → k < i → ClK g sr co fo r lv0 w out c k) ∨ (more = 1 ∧ nzC lv 80 < nzC lv0 80))
theorem MfI_init {g sr co fo r lv : Nat → Int} {w out c : Int} : MfI g sr co fo r lv lv w out c 0 0 := ⟨LvM_rf, Or.inl ⟨rfl, rfl, fun k a b => by omega⟩⟩
theorem MfI_a {g sr co fo r lv0 lv : Nat → Int} {w out c i more z : Int} (H : MfI g sr co fo r lv0 lv w out c i more) (C : CyR g sr co fo r w c i z) (h : z = out) : MfI g sr co fo r lv0 lv w out c (i + 1) more := by
  obtain ⟨h1, ⟨q1, q2, q3⟩ | q⟩ := H
  · refine ⟨h1, Or.inl ⟨q1, q2, fun k k0 k1 => ?_⟩⟩
    rcases (by omega : k < i ∨ k = i) with y | y
    · exact q3 k k0 y
    · subst y; exact ClK_out C h
  · exact ⟨h1, Or.inr q⟩
theorem MfI_b {g sr co fo r lv0 lv lv2 : Nat → Int} {w n out c i more z b : Int} (H : MfI g sr co fo r lv0 lv w out c i more) (L : LyS co fo r w n) (n1 : n ≤ 80) (hb : B01 lv) (C : CyR g sr co fo r w c i z) (B : BlR lv lv2 z b) (h : b = 0) (hz : z < 80) : MfI g sr co fo r lv0 lv2 w out c (i + 1) more := by
  have e := (BlR_m B hz).2.2 h
  obtain ⟨h1, ⟨q1, q2, q3⟩ | q⟩ := H
  · refine ⟨by rw [e]; exact h1, Or.inl ⟨q1, e.trans q2, fun k k0 k1 => ?_⟩⟩
    rcases (by omega : k < i ∨ k = i) with y | y
    · exact q3 k k0 y
    · subst y; rw [← q2]; exact ClK_bl L n1 hb C B h
  · rw [e]; exact ⟨h1, Or.inr q⟩
theorem MfI_c {g sr co fo r lv0 lv lv2 : Nat → Int} {w out c i more z b : Int} (H : MfI g sr co fo r lv0 lv w out c i more) (B : BlR lv lv2 z b) (h : b = 1) (hz : z < 80) : MfI g sr co fo r lv0 lv2 w out c (i + 1) 1 := by
  have e := BlR_m B hz
  have e2 := e.2.1 h
  refine ⟨LvM_tr H.1 e.1, Or.inr ⟨rfl, ?_⟩⟩
  have := H.1.1
  omega
def MfR (g sr co fo r lv0 lv : Nat → Int) (w out c z : Int) : Prop := LvM lv0 lv ∧ ((z = 0 ∧ lv = lv0 ∧ ∀ k, 0 ≤ k → FlB g r fo c k → ClK g sr co fo r lv0 w out c k) ∨ (z = 1 ∧ nzC lv 80 < nzC lv0 80))
theorem MfR_of {g sr co fo r lv0 lv : Nat → Int} {w out c i z kd f : Int} (H : MfI g sr co fo r lv0 lv w out c i z) (K : KdR r fo c kd) (hf : f = g (kd + 6).toNat) (h : f ≤ i) : MfR g sr co fo r lv0 lv w out c z := by
  obtain ⟨h1, ⟨q1, q2, q3⟩ | q⟩ := H
  · refine ⟨h1, Or.inl ⟨q1, q2, fun k k0 k1 => q3 k k0 ?_⟩⟩
    unfold FlB at k1
    unfold KdR at K
    rw [← K, ← hf] at k1
    omega
  · exact ⟨h1, Or.inr q⟩
def LvZ (lv : Nat → Int) (i : Int) : Prop := ∀ c, 0 ≤ c → c < i → aI lv c = 0
theorem LvZ_init {lv : Nat → Int} : LvZ lv 0 := fun c a b => by omega
theorem LvZ_step {lv lv2 : Nat → Int} {i k : Int} (H : LvZ lv i) (e : lv2 = updI lv k.toNat 0) (hk : k = i) (h0 : 0 ≤ i) : LvZ lv2 (i + 1) := by
  subst hk
  intro c c0 c1
  rw [e, aI_upd h0 c0]
  split
  · rfl
  · exact H c c0 (by omega)
theorem MkS_0 {g sr fo r lv : Nat → Int} {n i : Int} (H : LvZ lv i) (h : n ≤ i) : MkS g sr fo r lv n := fun c c0 c1 q => by have := H c c0 (by omega); omega
def RgC (co r lv : Nat → Int) (w reg out i : Int) : Prop := reg = -1 → ∀ q t, 0 ≤ q → q < i → PtT (mE r) (q - 8) t → r (1 : Int).toNat ≤ t → t < w → aI co t = out ∨ aI lv (aI co t) = 1
theorem RgC_init {co r lv : Nat → Int} {w reg out : Int} : RgC co r lv w reg out 0 := fun _ q t a b => by omega
theorem RgC_m {co fo r lv lv2 : Nat → Int} {w n reg out i : Int} (H : RgC co r lv w reg out i) (L : LyS co fo r w n) (M : LvM lv lv2) : RgC co r lv2 w reg out i := fun e q t a b c d f => by
  rcases H e q t a b c d f with z | z
  · exact Or.inl z
  · exact Or.inr (M.2 _ (LyS_co L d f rfl).1 z)
theorem RgC_skip {co r lv : Nat → Int} {w reg out i : Int} (H : RgC co r lv w reg out i) (h : i = reg) (h0 : 0 ≤ i) : RgC co r lv w reg out (i + 1) := fun e => by omega
theorem RgC_le {co r lv : Nat → Int} {w reg out i k : Int} (H : RgC co r lv w reg out i) (h : k ≤ i) : RgC co r lv w reg out k := fun e q t q0 q1 => H e q t q0 (by omega)
theorem RgC_out {co r lv : Nat → Int} {w reg out i z a : Int} (H : RgC co r lv w reg out i) (C : CfR co r w a z) (ha : a = i - 8) (h : z = out) : RgC co r lv w reg out (i + 1) := fun e q t q0 q1 q2 q3 q4 => by
  rcases (by omega : q < i ∨ q = i) with y | y
  · exact H e q t q0 y q2 q3 q4
  · subst y
    subst ha
    left
    rcases C with ⟨c1, c2⟩ | ⟨u, c1, c2, c3, c4⟩
    · exact absurd q2 (c2 t)
    · have e : t = u := by unfold PtT at *; omega
      subst e; omega
theorem RgC_bl {co fo r lv lv2 : Nat → Int} {w n reg out i z a b : Int} (H : RgC co r lv w reg out i) (L : LyS co fo r w n) (n1 : n ≤ 80) (hb : B01 lv) (C : CfR co r w a z) (ha : a = i - 8) (B : BlR lv lv2 z b) (hz : z < 80) : RgC co r lv2 w reg out (i + 1) := fun e q t q0 q1 q2 q3 q4 => by
  have bm := BlR_m B hz
  rcases (by omega : q < i ∨ q = i) with y | y
  · exact RgC_m H L bm.1 e q t q0 y q2 q3 q4
  · subst y
    subst ha
    right
    rcases C with ⟨c1, c2⟩ | ⟨u, c1, c2, c3, c4⟩
    · exact absurd q2 (c2 t)
    · have e : t = u := by unfold PtT at *; omega
      subst e
      have hd := LyS_co L c3 c4 c2
      have h9 := hb z.toNat (by omega)
      have e2 : aI co t = z := c2.symm
      rw [e2]
      rcases B with ⟨b1, b2, b3⟩ | ⟨b1, b2, b3, b4⟩
      · rw [b2]
        show lv z.toNat = 1
        omega
      · rw [b4, aI_upd b2 b2, if_pos rfl]
theorem Cf_rch {cnt : Int} {g sr co fo r : Nat → Int} {w n q z : Int} (L : LyS co fo r w n) (C : CfR co r w q z) (h0 : -8 ≤ q) (h1 : q < 0) (_ : NwI cnt g sr r w) : 0 ≤ z → z < n → Rch (mE r) (flN g) sr (aI fo z) := by
  intro z0 z1
  rcases C with c | ⟨t, c1, c2, c3, c4⟩
  · omega
  · exact Rch_cl.1 q t _ h0 h1 c1 (LyS_co L c3 c4 c2).2.2
def PsI (g sr co fo r lv0 lv : Nat → Int) (w out i more : Int) : Prop := LvM lv0 lv ∧ ((more = 0 ∧ lv = lv0 ∧ ∀ c, 0 ≤ c → c < i → aI lv0 c = 1 → ∀ k, 0 ≤ k → FlB g r fo c k → ClK g sr co fo r lv0 w out c k) ∨ (more = 1 ∧ nzC lv 80 < nzC lv0 80))
theorem PsI_init {g sr co fo r lv : Nat → Int} {w out : Int} : PsI g sr co fo r lv lv w out 0 0 := ⟨LvM_rf, Or.inl ⟨rfl, rfl, fun c a b => by omega⟩⟩
theorem PsI_skip {g sr co fo r lv0 lv : Nat → Int} {w out i more x : Int} (H : PsI g sr co fo r lv0 lv w out i more) (hx : x = lv i.toNat) (h : x = 0) : PsI g sr co fo r lv0 lv w out (i + 1) more := by
  obtain ⟨h1, ⟨q1, q2, q3⟩ | q⟩ := H
  · refine ⟨h1, Or.inl ⟨q1, q2, fun c c0 c1 c2 => ?_⟩⟩
    rcases (by omega : c < i ∨ c = i) with y | y
    · exact q3 c c0 y c2
    · subst y
      rw [← q2] at c2
      have e : aI lv c = lv c.toNat := rfl
      omega
  · exact ⟨h1, Or.inr q⟩
theorem PsI_go {g sr co fo r lv0 lv lv2 : Nat → Int} {w out i more z m2 : Int} (H : PsI g sr co fo r lv0 lv w out i more) (M : MfR g sr co fo r lv lv2 w out i z) (hm : (more = 0 ∧ z = 0 ∧ m2 = 0) ∨ (m2 = 1 ∧ more = 1) ∨ (m2 = 1 ∧ z = 1)) : PsI g sr co fo r lv0 lv2 w out (i + 1) m2 := by
  obtain ⟨h1, h2⟩ := H
  obtain ⟨m1, m3⟩ := M
  have a1 := h1.1
  have a2 := m1.1
  refine ⟨LvM_tr h1 m1, ?_⟩
  rcases h2 with ⟨q1, q2, q3⟩ | ⟨q1, q2⟩
  · rcases m3 with ⟨p1, p2, p3⟩ | ⟨p1, p2⟩
    · left
      refine ⟨by omega, p2.trans q2, fun c c0 c1 c2 => ?_⟩
      rcases (by omega : c < i ∨ c = i) with y | y
      · exact q3 c c0 y c2
      · subst y; rw [← q2]; exact p3
    · right
      exact ⟨by omega, by omega⟩
  · right
    rcases m3 with ⟨p1, p2, p3⟩ | ⟨p1, p2⟩
    · exact ⟨by omega, by omega⟩
    · exact ⟨by omega, by omega⟩
def MkW (g sr co fo r lv : Nat → Int) (w n out more : Int) : Prop := more = 0 → ∀ c, 0 ≤ c → c < n → aI lv c = 1 → ∀ k, 0 ≤ k → FlB g r fo c k → ClK g sr co fo r lv w out c k
theorem MkW_1 {g sr co fo r lv : Nat → Int} {w n out more : Int} (h : more = 1) : MkW g sr co fo r lv w n out more := fun e => by omega
theorem MkW_ps {g sr co fo r lv0 lv : Nat → Int} {w n out i more : Int} (H : PsI g sr co fo r lv0 lv w out i more) (h : n ≤ i) : MkW g sr co fo r lv w n out more := by
  intro e
  rcases H.2 with ⟨q1, q2, q3⟩ | ⟨q1, _⟩
  · intro c c0 c1 c2
    rw [q2] at c2 ⊢
    exact q3 c c0 (by omega) c2
  · omega
theorem PsI_nz {g sr co fo r lv0 lv : Nat → Int} {w out i more : Int} (H : PsI g sr co fo r lv0 lv w out i more) : (more = 0 ∧ nzC lv 80 ≤ nzC lv0 80) ∨ (more = 1 ∧ nzC lv 80 < nzC lv0 80) := by
  rcases H.2 with q | q
  · exact Or.inl ⟨q.1, H.1.1⟩
  · exact Or.inr q
def MkF (g sr fo r lv : Nat → Int) (n reg out : Int) : Prop := reg = -1 → out = -1 → ∀ c, 0 ≤ c → c < n → Rch (mE r) (flN g) sr (aI fo c) → aI lv c = 1
theorem MkF_of {cnt : Int} {g sr co fo r lv : Nat → Int} {w n reg out i more : Int} (H : NwI cnt g sr r w) (L : LyS co fo r w n) (R : RgC co r lv w reg out i) (hi : 8 ≤ i) (K : MkW g sr co fo r lv w n out more) (hm : more = 0) : MkF g sr fo r lv n reg out := by
  intro e1 e2 c c0 c1 hr
  have K' := K hm
  have hb := VM_box H.2.1
  have ptr : ∀ x t, ((-8 ≤ x ∧ x < 0) ∨ (r (1 : Int).toNat ≤ x ∧ x < w)) → PtT (mE r) x t → r (1 : Int).toNat ≤ t ∧ t < w := fun x t hx ht => by
    have e := enc_at (r := r) (x := x) (by omega)
    have k := H.1 x ⟨by omega, by omega⟩
    unfold WdOK at k
    have e3 : mE r x = enc r (x + 8).toNat := rfl
    unfold PtT at ht
    have q := Nw_ptr H hx (by omega) (by omega)
    unfold PtT at q
    omega
  have hcl : ClS (mE r) (flN g) sr (fun h => ∃ d, 0 ≤ d ∧ d < n ∧ aI fo d = h ∧ aI lv d = 1) := by
    constructor
    · intro q t h q0 q1 q2 q3
      have hp := ptr q t (Or.inl ⟨q0, q1⟩) q2
      have hd := LyS_co L hp.1 hp.2 (x := aI co t) rfl
      have z := R e1 (q + 8) t (by omega) (by omega) (by rw [(by omega : q + 8 - 8 = q)]; exact q2) hp.1 hp.2
      refine ⟨aI co t, hd.1, hd.2.1, HdOf_uq hd.2.2 q3, ?_⟩
      rcases z with z | z
      · omega
      · exact z
    · rintro h x t h2 ⟨d, d0, d1, d2, d3⟩ hh ⟨k, k0, k1, k2, k3⟩ s4 s5
      subst d2
      have hf := LyS_fo L d0 d1 (x := aI fo d) rfl
      have hN := Nw_head H hf.1 hf.2.1 hf.2.2
      have ef : flN g (mE r (aI fo d) - 5096).toNat = g (r (2 * aI fo d + 103).toNat + 6).toNat := by
        unfold flN; congr 1; omega
      rw [ef] at k1
      subst k3
      have hp := ptr (aI fo d + 1 + k) t (Or.inr ⟨by omega, by omega⟩) s4
      have hd := LyS_co L hp.1 hp.2 (x := aI co t) rfl
      have z := K' d d0 d1 d3 k k0 k1 t k2 s4 hp.1 hp.2
      refine ⟨aI co t, hd.1, hd.2.1, HdOf_uq hd.2.2 s5, ?_⟩
      rcases z with z | z
      · omega
      · exact z
  obtain ⟨d, d0, d1, d2, d3⟩ := hr _ hcl
  have f1 := L.2.2.2.2.2 c c0 c1
  have f2 := L.2.2.2.2.2 d d0 d1
  have e : d = c := by rw [← f2.2.2.2, d2, f1.2.2.2]
  rw [← e]
  exact d3
