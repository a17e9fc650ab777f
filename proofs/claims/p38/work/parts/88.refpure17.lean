def smI (g : Nat → Int) : Nat → Int
  | 0 => 0
  | n + 1 => smI g n + g n
theorem smI_pos {g : Nat → Int} : ∀ n : Nat, (∀ j, j < n → 0 ≤ g j) → 0 ≤ smI g n
  | 0, _ => Int.le_refl _
  | n + 1, h => by
    have a := smI_pos n (fun j hj => h j (by omega))
    have b := h n (by omega)
    rw [smI]
    omega
theorem smI_same {g g2 : Nat → Int} : ∀ n : Nat, (∀ j, j < n → g2 j = g j) → smI g2 n = smI g n
  | 0, _ => rfl
  | n + 1, h => by rw [smI, smI, smI_same n (fun j hj => h j (by omega)), h n (by omega)]
theorem smI_upd {g : Nat → Int} {i : Nat} {v : Int} : ∀ n : Nat, i < n → smI (updI g i v) n = smI g n + v - g i
  | 0, h => absurd h (Nat.not_lt_zero i)
  | n + 1, h => by
    rcases (by omega : i < n ∨ i = n) with q | q
    · rw [smI, smI, smI_upd n q]
      have : updI g i v n = g n := by unfold updI; rw [if_neg (by omega)]
      rw [this]
      omega
    · subst q
      rw [smI, smI, smI_same i (fun j hj => by unfold updI; rw [if_neg (by omega)])]
      have : updI g i v i = v := by unfold updI; rw [if_pos rfl]
      rw [this]
      omega
def DcF (a b : Nat → Int) (more : Int) : Prop := (∀ j : Nat, b j ≤ a j) ∧ ((more = 0 ∧ b = a) ∨ (more = 1 ∧ smI b 80 < smI a 80))
theorem DcF_init {a : Nat → Int} : DcF a a 0 := ⟨fun _ => Int.le_refl _, Or.inl ⟨rfl, rfl⟩⟩
theorem DcF_sm {a b : Nat → Int} {more : Int} (H : DcF a b more) : (more = 0 ∧ smI b 80 ≤ smI a 80) ∨ (more = 1 ∧ smI b 80 < smI a 80) := by
  rcases H.2 with ⟨h1, h2⟩ | h
  · exact Or.inl ⟨h1, by rw [h2]; exact Int.le_refl _⟩
  · exact Or.inr h
theorem DcF_at {a b : Nat → Int} {more i x y : Int} (H : DcF a b more) (hx : x = b i.toNat) (hy : a i.toNat ≤ y) : x ≤ y := by
  have := H.1 i.toNat
  omega
theorem DcF_upd {a b c : Nat → Int} {more i v x : Int} (H : DcF a b more) (hx : x = b i.toNat) (h : v < x) (i0 : 0 ≤ i) (i1 : i < 80) (e : c = updI b i.toNat v) : DcF a c 1 := by
  subst e
  refine ⟨fun j => ?_, Or.inr ⟨rfl, ?_⟩⟩
  · have q := H.1 j
    unfold updI
    split
    · rename_i z
      subst z
      omega
    · exact q
  · rw [smI_upd 80 (by omega)]
    rcases DcF_sm H with q | q <;> omega
theorem DcF_tr {a b c : Nat → Int} {m z m2 : Int} (H : DcF a b m) (K : DcF b c z) (hm : (m = 0 ∧ z = 0 ∧ m2 = 0) ∨ (m2 = 1 ∧ m = 1) ∨ (m2 = 1 ∧ z = 1)) : DcF a c m2 := by
  refine ⟨fun j => Int.le_trans (K.1 j) (H.1 j), ?_⟩
  have h1 := DcF_sm H
  have h2 := DcF_sm K
  rcases hm with ⟨q1, q2, q3⟩ | q | q
  · left
    rcases H.2 with ⟨_, e⟩ | ⟨e, _⟩
    · rcases K.2 with ⟨_, f⟩ | ⟨f, _⟩
      · exact ⟨q3, by rw [f, e]⟩
      · omega
    · omega
  · exact Or.inr ⟨q.1, by omega⟩
  · exact Or.inr ⟨q.1, by omega⟩
def cnN (g : Nat → Int) : Nat → Int
  | 0 => 0
  | n + 1 => cnN g n + (if g n = -1 then 0 else 1)
theorem cnN_le (g : Nat → Int) : ∀ n : Nat, 0 ≤ cnN g n ∧ cnN g n ≤ n
  | 0 => ⟨Int.le_refl _, Int.le_refl _⟩
  | n + 1 => by
    have h := cnN_le g n
    rw [cnN]
    split <;> omega
theorem cnN_lt {g : Nat → Int} {i : Nat} (h0 : g i = -1) : ∀ n : Nat, i < n → cnN g n < n
  | 0, h => absurd h (Nat.not_lt_zero i)
  | n + 1, h => by
    rw [cnN]
    rcases (by omega : i < n ∨ i = n) with q | q
    · have := cnN_lt h0 n q
      split <;> omega
    · subst q
      rw [if_pos h0]
      have := cnN_le g i
      omega
theorem cnN_same {g g2 : Nat → Int} : ∀ n : Nat, (∀ j, j < n → g2 j = g j) → cnN g2 n = cnN g n
  | 0, _ => rfl
  | n + 1, h => by rw [cnN, cnN, cnN_same n (fun j hj => h j (by omega)), h n (by omega)]
theorem cnN_upd {g : Nat → Int} {i : Nat} {v : Int} (h0 : g i = -1) (hv : ¬ v = -1) : ∀ n : Nat, i < n → cnN (updI g i v) n = cnN g n + 1
  | 0, h => absurd h (Nat.not_lt_zero i)
  | n + 1, h => by
    rcases (by omega : i < n ∨ i = n) with q | q
    · rw [cnN, cnN, cnN_upd h0 hv n q]
      have : updI g i v n = g n := by unfold updI; rw [if_neg (by omega)]
      rw [this]
      omega
    · subst q
      rw [cnN, cnN, cnN_same i (fun j hj => by unfold updI; rw [if_neg (by omega)])]
      have : updI g i v i = v := by unfold updI; rw [if_pos rfl]
      rw [this, if_pos h0, if_neg hv]
      omega
theorem cnN_0 {g : Nat → Int} : ∀ n : Nat, (∀ j, j < n → g j = -1) → cnN g n = 0
  | 0, _ => rfl
  | n + 1, h => by rw [cnN, cnN_0 n (fun j hj => h j (by omega)), if_pos (h n (by omega))]; rfl
def FnI (fa fr : Nat → Int) (m n : Int) : Prop := (0 ≤ m ∧ m = cnN fa n.toNat) ∧ (∀ i, 0 ≤ i → i < m → 0 ≤ aI fr i ∧ aI fr i < n ∧ aI fa (aI fr i) = i) ∧ ∀ c, 0 ≤ c → c < n → aI fa c = -1 ∨ (0 ≤ aI fa c ∧ aI fa c < m ∧ aI fr (aI fa c) = c)
theorem FnI_0 {fa fr : Nat → Int} {i n : Int} (H : NgT fa i) (h : n ≤ i) : FnI fa fr 0 n := ⟨⟨Int.le_refl _, (cnN_0 n.toNat (fun j hj => H j (by omega))).symm⟩, fun i a b => by omega, fun c c0 c1 => Or.inl (H c.toNat (by omega))⟩
theorem FnI_lt {fa fr : Nat → Int} {m n c x : Int} (H : FnI fa fr m n) (c0 : 0 ≤ c) (c1 : c < n) (hx : x = fa c.toNat) (h : x = -1) : 0 ≤ m ∧ m < n := by
  have a := H.1
  have b := cnN_lt (g := fa) (i := c.toNat) (by omega) n.toNat (by omega)
  omega
theorem FnI_le {fa fr : Nat → Int} {m n : Int} (H : FnI fa fr m n) (h : 0 ≤ n) : 0 ≤ m ∧ m ≤ n := by
  have a := H.1
  have b := cnN_le fa n.toNat
  omega
theorem FnI_add {fa fa2 fr fr2 : Nat → Int} {m n c x i v j y : Int} (H : FnI fa fr m n) (c0 : 0 ≤ c) (c1 : c < n) (hx : x = fa c.toNat) (h : x = -1) (e : fa2 = updI fa i.toNat v) (hi : i = c) (hv : v = m) (e2 : fr2 = updI fr j.toNat y) (hj : j = m) (hy : y = c) : FnI fa2 fr2 (m + 1) n := by
  rw [hi, hv] at e
  rw [hj, hy] at e2
  subst e e2
  obtain ⟨⟨a1, a2⟩, a3, a4⟩ := H
  have f1 : ∀ z, 0 ≤ z → aI (updI fa c.toNat m) z = if z = c then m else aI fa z := fun z hz => aI_upd c0 hz
  have f2 : ∀ z, 0 ≤ z → aI (updI fr m.toNat c) z = if z = m then c else aI fr z := fun z hz => aI_upd a1 hz
  have hc : aI fa c = -1 := by show fa c.toNat = -1; omega
  refine ⟨⟨by omega, ?_⟩, fun k k0 k1 => ?_, fun z z0 z1 => ?_⟩
  · rw [cnN_upd (by omega) (by omega) n.toNat (by omega)]
    omega
  · rw [f2 k k0]
    by_cases q : k = m
    · rw [if_pos q, f1 c c0, if_pos rfl]
      omega
    · rw [if_neg q]
      have p := a3 k k0 (by omega)
      rw [f1 _ p.1]
      have : ¬ aI fr k = c := fun z => by rw [z] at p; omega
      rw [if_neg this]
      exact p
  · rw [f1 z z0]
    by_cases q : z = c
    · rw [if_pos q, f2 m a1, if_pos rfl]
      omega
    · rw [if_neg q]
      rcases a4 z z0 z1 with p | p
      · exact Or.inl p
      · right
        rw [f2 _ p.1, if_neg (by omega)]
        exact ⟨p.1, by omega, p.2.2⟩
theorem FnI_at {fa fr : Nat → Int} {m n i x : Int} (H : FnI fa fr m n) (i0 : 0 ≤ i) (i1 : i < m) (hx : x = fr i.toNat) : 0 ≤ x ∧ x < n ∧ fa x.toNat = i := by
  have p := H.2.1 i i0 i1
  have e : aI fr i = x := hx.symm
  rw [e] at p
  exact p
def cnK (co fa : Nat → Int) (k : Int) : Nat → Int
  | 0 => 0
  | n + 1 => cnK co fa k n + (if 0 ≤ co n ∧ 0 ≤ fa (co n).toNat ∧ fa (co n).toNat < k then 1 else 0)
theorem cnK_le (co fa : Nat → Int) (k : Int) : ∀ n : Nat, 0 ≤ cnK co fa k n ∧ cnK co fa k n ≤ n
  | 0 => ⟨Int.le_refl _, Int.le_refl _⟩
  | n + 1 => by
    have h := cnK_le co fa k n
    rw [cnK]
    split <;> omega
theorem cnK_0 (co fa : Nat → Int) : ∀ n : Nat, cnK co fa 0 n = 0
  | 0 => rfl
  | n + 1 => by
    rw [cnK, cnK_0 co fa n, if_neg (by omega)]
    rfl
theorem cnK_add {co fa : Nat → Int} {k c : Int} {b f : Nat} (hc : 0 ≤ c) (hk : 0 ≤ k) (hf : fa c.toNat = k) (h : ∀ x : Nat, b ≤ x → x < b + f → co x = c) : ∀ n : Nat, (n ≤ b → cnK co fa k n ≤ cnK co fa (k + 1) n) ∧ (b ≤ n → n ≤ b + f → cnK co fa k n + ((n : Int) - b) ≤ cnK co fa (k + 1) n) ∧ (b + f ≤ n → cnK co fa k n + f ≤ cnK co fa (k + 1) n)
  | 0 => by
    rw [cnK, cnK]
    omega
  | n + 1 => by
    have ih := cnK_add hc hk hf h n
    rw [cnK, cnK]
    have t1 : (if 0 ≤ co n ∧ 0 ≤ fa (co n).toNat ∧ fa (co n).toNat < k then (1 : Int) else 0) ≤ (if 0 ≤ co n ∧ 0 ≤ fa (co n).toNat ∧ fa (co n).toNat < k + 1 then (1 : Int) else 0) := by
      split
      · rw [if_pos (by omega)]
        exact Int.le_refl _
      · split <;> omega
    have t2 : b ≤ n → n < b + f → (if 0 ≤ co n ∧ 0 ≤ fa (co n).toNat ∧ fa (co n).toNat < k then (1 : Int) else 0) = 0 ∧ (if 0 ≤ co n ∧ 0 ≤ fa (co n).toNat ∧ fa (co n).toNat < k + 1 then (1 : Int) else 0) = 1 := fun q1 q2 => by
      have e := h n q1 q2
      rw [e, hf]
      exact ⟨if_neg (by omega), if_pos (by omega)⟩
    generalize (if 0 ≤ co n ∧ 0 ≤ fa (co n).toNat ∧ fa (co n).toNat < k then (1 : Int) else 0) = x at t1 t2 ⊢
    generalize (if 0 ≤ co n ∧ 0 ≤ fa (co n).toNat ∧ fa (co n).toNat < k + 1 then (1 : Int) else 0) = y at t1 t2 ⊢
    omega
theorem LyS_cell {cnt : Int} {g sr co fo r : Nat → Int} {w n c x kd : Int} (H : NwI cnt g sr r w) (L : LyS co fo r w n) (c0 : 0 ≤ c) (c1 : c < n) (hx : x = fo c.toNat) (K : KdR r fo c kd) : 0 ≤ x ∧ x + g (kd + 6).toNat < w ∧ ∀ j, 0 ≤ j → j ≤ g (kd + 6).toNat → aI co (x + j) = c := by
  have o := LyS_fo L c0 c1 hx
  have d := Nw_head H o.1 o.2.1 o.2.2
  have l := Nw_cell H o.1 o.2.1 o.2.2
  have b := VM_box H.2.1
  have ek : r (2 * x + 103).toNat = kd := by unfold KdR at K; rw [K, hx]
  rw [ek] at d l
  have z := L.2.2.2.2.2 c c0 c1
  have ex : aI fo c = x := hx.symm
  refine ⟨by omega, by omega, fun j j0 j1 => ?_⟩
  have p := L.2.2.2.1 (x + j) (by omega) (by omega)
  have hd : HdOf (mE r) (x + j) x := ⟨by omega, o.2.2, fun y y0 y1 => by
    have := l.1 (y - x) (by omega) (by omega)
    rw [(by omega : x + (y - x) = y)] at this
    exact this⟩
  have u := HdOf_uq p.2.2 hd
  have v := (L.2.2.2.2.2 (aI co (x + j)) p.1 p.2.1).2.2.2
  rw [u] at v
  rw [ex] at z
  omega
def ShB (co fa : Nat → Int) (w k sm : Int) : Prop := 24 ≤ sm ∧ sm ≤ 24 + 3 * cnK co fa k w.toNat
theorem ShB_0 {co fa : Nat → Int} {w sm : Int} (h : sm = 24) : ShB co fa w 0 sm := by
  unfold ShB
  rw [cnK_0]
  omega
theorem ShB_le {co fa : Nat → Int} {w k sm : Int} (H : ShB co fa w k sm) (h0 : 0 ≤ w) (hw : w ≤ 160) : 24 ≤ sm ∧ sm ≤ 504 := by
  have := cnK_le co fa k w.toNat
  unfold ShB at H
  omega
theorem ShB_add {cnt : Int} {g sr co fo r fa fr : Nat → Int} {w n m c k sm s2 f kd : Int} (H : NwI cnt g sr r w) (L : LyS co fo r w n) (F : FnI fa fr m n) (k0 : 0 ≤ k) (k1 : k < m) (hc : c = fr k.toNat) (K : KdR r fo c kd) (hf : f = g (kd + 6).toNat) (S : ShB co fa w k sm) (h : s2 ≤ sm + 1 + 3 * f) (h2 : sm ≤ s2) : ShB co fa w (k + 1) s2 := by
  have p := FnI_at F k0 k1 hc
  have q := LyS_cell H L p.1 p.2.1 rfl K
  have f0 : 0 ≤ f := by
    have o := LyS_fo L p.1 p.2.1 rfl
    have d := Nw_head H o.1 o.2.1 o.2.2
    have ek : r (2 * fo c.toNat + 103).toNat = kd := by unfold KdR at K; rw [K]
    rw [ek] at d
    omega
  have t := cnK_add (co := co) (fa := fa) (k := k) (c := c) (b := (fo c.toNat).toNat) (f := f.toNat + 1) p.1 k0 p.2.2 (fun x x0 x1 => by
    have z := q.2.2 ((x : Int) - fo c.toNat) (by omega) (by omega)
    rw [(by omega : fo c.toNat + ((x : Int) - fo c.toNat) = (x : Int))] at z
    exact z) w.toNat
  have t := t.2.2 (by omega)
  unfold ShB at S ⊢
  omega
def FlE (g r fo : Nat → Int) (c k : Int) : Prop := k ≤ g (r (2 * fo c.toNat + 103).toNat + 6).toNat
theorem FlE_0 {cnt : Int} {g sr co fo r : Nat → Int} {w n c : Int} (H : NwI cnt g sr r w) (L : LyS co fo r w n) (c0 : 0 ≤ c) (c1 : c < n) : FlE g r fo c 0 := by
  have o := LyS_fo L c0 c1 rfl
  have d := Nw_head H o.1 o.2.1 o.2.2
  unfold FlE
  omega
theorem FlE_s {g r fo : Nat → Int} {c k : Int} (F : FlB g r fo c k) : FlE g r fo c (k + 1) := by
  unfold FlB at F
  unfold FlE
  omega
theorem FlE_le {g r fo : Nat → Int} {c k kd f : Int} (E : FlE g r fo c k) (K : KdR r fo c kd) (hf : f = g (kd + 6).toNat) : k ≤ f := by
  unfold FlE at E
  unfold KdR at K
  rw [← K] at E
  omega
theorem LvA_c {co lv : Nat → Int} {a z : Int} (H : LvA co lv a z) (h : z = 1) : 0 ≤ co a.toNat := by
  rcases H with q | q
  · omega
  · exact q.2.1
theorem CfR_uq {co r : Nat → Int} {w a z z2 : Int} (A : CfR co r w a z) (B : CfR co r w a z2) : z2 = z := by
  rcases A with ⟨a1, a2⟩ | ⟨t, a1, a2, _⟩
  · rcases B with ⟨b1, _⟩ | ⟨u, b1, _⟩
    · omega
    · exact absurd b1 (a2 u)
  · rcases B with ⟨_, b2⟩ | ⟨u, b1, b2, _⟩
    · exact absurd a1 (b2 t)
    · have e : t = u := by rw [a1.2.2, b1.2.2]
      rw [a2, b2, e]
theorem CyR_uq {g sr co fo r : Nat → Int} {w c k z z2 : Int} (A : CyR g sr co fo r w c k z) (B : CyR g sr co fo r w c k z2) : z2 = z := by
  rcases A with ⟨a1, a2⟩ | ⟨a0, t, a1, a2, _⟩
  · rcases B with ⟨b1, _⟩ | ⟨b0, u, b1, _⟩
    · omega
    · exact absurd b1 (a2 u b0)
  · rcases B with ⟨_, b2⟩ | ⟨_, u, b1, b2, _⟩
    · exact absurd a1 (b2 t a0)
    · have e : t = u := by rw [a1.2.2, b1.2.2]
      rw [a2, b2, e]
theorem LvA_i {co fo r lv : Nat → Int} {w n a z x : Int} (H : LvA co lv a z) (h : z = 1) (L : LyS co fo r w n) (a0 : 0 ≤ a) (a1 : a < w) (hx : x = co a.toNat) : 0 ≤ x ∧ x < n := by
  have c := LvA_c H h
  have e : aI co a = x := hx.symm
  by_cases q : r (1 : Int).toNat ≤ a
  · have p := L.2.2.2.1 a q a1
    omega
  · have p := L.2.2.2.2.1 a a0 a1 (Or.inl (by omega))
    omega
