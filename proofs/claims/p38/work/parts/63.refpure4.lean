theorem Nw_head {cnt : Int} {g sr r : Nat → Int} {w a : Int} (H : NwI cnt g sr r w) (h0 : r (1 : Int).toNat ≤ a) (h1 : a < w) (h2 : 5096 ≤ mE r a) : r (2 * a + 102).toNat = 2 ∧ 0 ≤ r (2 * a + 103).toNat ∧ r (2 * a + 103).toNat < cnt ∧ cnt ≤ 6 ∧ 1 ≤ g (r (2 * a + 103).toNat + 6).toNat ∧ g (r (2 * a + 103).toNat + 6).toNat ≤ 6 ∧ a + g (r (2 * a + 103).toNat + 6).toNat < w ∧ mE r a = 5096 + r (2 * a + 103).toNat := by
  have hb := VM_box H.2.1
  have v := VM_at H.2.1 h0 h1 h2
  have e := enc_at (r := r) (x := a) (by omega)
  have k := H.1 a ⟨by omega, by omega⟩
  have e3 : mE r a = enc r (a + 8).toNat := rfl
  unfold WdOK at k
  have s2 : r (2 * a + 102).toNat = 2 := by omega
  have e2 : enc r (a + 8).toNat - 5096 = r (2 * a + 103).toNat := by omega
  rw [e2] at v
  have e4 : flN g (r (2 * a + 103).toNat).toNat = g (r (2 * a + 103).toNat + 6).toNat := by
    unfold flN
    congr 1
    omega
  rw [e4] at v
  omega
theorem Nw_cell {cnt : Int} {g sr r : Nat → Int} {w a : Int} (H : NwI cnt g sr r w) (h0 : r (1 : Int).toNat ≤ a) (h1 : a < w) (h2 : 5096 ≤ mE r a) : (∀ j, 1 ≤ j → j ≤ g (r (2 * a + 103).toNat + 6).toNat → mE r (a + j) < 5096) ∧ (a + g (r (2 * a + 103).toNat + 6).toNat + 1 < w → 5096 ≤ mE r (a + g (r (2 * a + 103).toNat + 6).toNat + 1)) := by
  have hh := Nw_head H h0 h1 h2
  have hb := VM_box H.2.1
  have e4 : aI (flN g) (mE r a - 5096) = g (r (2 * a + 103).toNat + 6).toNat := by
    show g ((mE r a - 5096).toNat + 6) = _
    congr 1
    omega
  rcases H.2.1.2.2.1 a h0 h1 with z | ⟨d1, d2, d3, d4, d5, d6⟩
  · have h3 := Pl_lt z hb.2.2.1
    have e5 : mI (enc r) a = mE r a := rfl
    omega
  · have e6 : aI (flN g) (mI (enc r) a - 5096) = g (r (2 * a + 103).toNat + 6).toNat := e4
    rw [e6] at d5 d6
    exact ⟨d5, d6⟩
def LyI (co fo r : Nat → Int) (w n a : Int) : Prop := (r (1 : Int).toNat ≤ a ∧ a ≤ w) ∧ (0 ≤ n ∧ 2 * n ≤ a - r (1 : Int).toNat) ∧ (a < w → 5096 ≤ mE r a) ∧ (∀ x, r (1 : Int).toNat ≤ x → x < a → 0 ≤ aI co x ∧ aI co x < n ∧ HdOf (mE r) x (aI fo (aI co x))) ∧ (∀ x, 0 ≤ x → x < w → (x < r (1 : Int).toNat ∨ a ≤ x) → aI co x = -1) ∧ ∀ c, 0 ≤ c → c < n → r (1 : Int).toNat ≤ aI fo c ∧ aI fo c < a ∧ 5096 ≤ mE r (aI fo c) ∧ aI co (aI fo c) = c
def LyJ (co fo r : Nat → Int) (w n a k : Int) : Prop := (r (1 : Int).toNat ≤ a ∧ a < w) ∧ (0 ≤ n ∧ 2 * n ≤ a - r (1 : Int).toNat) ∧ 5096 ≤ mE r a ∧ (∀ x, r (1 : Int).toNat ≤ x → x < a → 0 ≤ aI co x ∧ aI co x < n ∧ HdOf (mE r) x (aI fo (aI co x))) ∧ (∀ x, 0 ≤ x → x < w → (x < r (1 : Int).toNat ∨ a + k ≤ x) → aI co x = -1) ∧ (∀ c, 0 ≤ c → c < n → r (1 : Int).toNat ≤ aI fo c ∧ aI fo c < a ∧ 5096 ≤ mE r (aI fo c) ∧ aI co (aI fo c) = c) ∧ aI fo n = a ∧ ∀ x, a ≤ x → x < a + k → aI co x = n
theorem aI_upd {g : Nat → Int} {i v x : Int} (h0 : 0 ≤ i) (hx : 0 ≤ x) : aI (updI g i.toNat v) x = if x = i then v else aI g x := by
  unfold aI updI
  by_cases e : x = i
  · rw [if_pos e, if_pos (by rw [e])]
  · rw [if_neg e, if_neg (by omega)]
def NgT (g : Nat → Int) (i : Int) : Prop := ∀ j : Nat, (j : Int) < i → g j = -1
theorem NgT_init {g : Nat → Int} : NgT g 0 := fun j h => by omega
theorem NgT_step {g g2 : Nat → Int} {i k v : Int} (H : NgT g i) (e : g2 = updI g k.toNat v) (hk : k = i) (hv : v = -1) (h0 : 0 ≤ i) : NgT g2 (i + 1) := by
  subst hk
  intro j hj
  rw [e]
  unfold updI
  by_cases q : j = k.toNat
  · rw [if_pos q]; exact hv
  · rw [if_neg q]; exact H j (by omega)
theorem LyI_init {cnt : Int} {g sr co fo r : Nat → Int} {w i a : Int} (H : NwI cnt g sr r w) (N : NgT co i) (hi : w ≤ i) (ha : a = r (1 : Int).toNat) : LyI co fo r w 0 a := by
  have hb := VM_box H.2.1
  subst ha
  refine ⟨by omega, by omega, fun h => H.2.1.2.2.2 h, fun x a b => by omega, fun x x0 x1 _ => N x.toNat (by omega), fun c a b => by omega⟩
theorem LyJ_in {cnt : Int} {g sr co fo fo2 r : Nat → Int} {w n a i : Int} (H : NwI cnt g sr r w) (L : LyI co fo r w n a) (ha : a < w) (e : fo2 = updI fo i.toNat a) (hi : i = n) : LyJ co fo2 r w n a 0 := by
  have hb := VM_box H.2.1
  obtain ⟨l1, l2, l3, l4, l5, l6⟩ := L
  subst hi
  have u : ∀ c, 0 ≤ c → c ≠ i → aI fo2 c = aI fo c := fun c c0 cn => by rw [e, aI_upd l2.1 c0, if_neg cn]
  have u1 : aI fo2 i = a := by rw [e, aI_upd l2.1 l2.1, if_pos rfl]
  refine ⟨⟨l1.1, ha⟩, l2, l3 ha, fun x x0 x1 => ?_, fun x x0 x1 x2 => l5 x x0 x1 (by omega), fun c c0 c1 => ?_, u1, fun x x0 x1 => by omega⟩
  · obtain ⟨q1, q2, q3⟩ := l4 x x0 x1
    exact ⟨q1, q2, by rw [u _ q1 (by omega)]; exact q3⟩
  · rw [u c c0 (by omega)]; exact l6 c c0 c1
theorem LyJ_step {cnt : Int} {g sr co co2 fo r : Nat → Int} {w n a k i v : Int} (H : NwI cnt g sr r w) (L : LyJ co fo r w n a k) (e : co2 = updI co i.toNat v) (hi : i = a + k) (hv : v = n) (k0 : 0 ≤ k) : LyJ co2 fo r w n a (k + 1) := by
  have hb := VM_box H.2.1
  obtain ⟨l1, l2, l3, l4, l5, l6, l7, l8⟩ := L
  subst hi
  subst hv
  have u : ∀ x, 0 ≤ x → x ≠ a + k → aI co2 x = aI co x := fun x x0 xn => by rw [e, aI_upd (by omega) x0, if_neg xn]
  have u1 : aI co2 (a + k) = v := by rw [e, aI_upd (by omega) (by omega), if_pos rfl]
  refine ⟨l1, l2, l3, fun x x0 x1 => ?_, fun x x0 x1 x2 => ?_, fun c c0 c1 => ?_, l7, fun x x0 x1 => ?_⟩
  · rw [u x (by omega) (by omega)]; exact l4 x x0 x1
  · rw [u x x0 (by omega)]; exact l5 x x0 x1 (by omega)
  · obtain ⟨q1, q2, q3, q4⟩ := l6 c c0 c1
    exact ⟨q1, q2, q3, by rw [u _ (by omega) (by omega)]; exact q4⟩
  · by_cases q : x = a + k
    · rw [q]; exact u1
    · rw [u x (by omega) q]; exact l8 x x0 (by omega)
theorem LyI_next {cnt : Int} {g sr co fo r : Nat → Int} {w n a k a2 : Int} (H : NwI cnt g sr r w) (L : LyJ co fo r w n a k) (hk : k = g (r (2 * a + 103).toNat + 6).toNat + 1) (ha : a2 = a + k) : LyI co fo r w (n + 1) a2 := by
  have hb := VM_box H.2.1
  obtain ⟨l1, l2, l3, l4, l5, l6, l7, l8⟩ := L
  have hh := Nw_head H l1.1 l1.2 l3
  have hc := Nw_cell H l1.1 l1.2 l3
  subst ha
  refine ⟨by omega, by omega, fun q => ?_, fun x x0 x1 => ?_, fun x x0 x1 x2 => l5 x x0 x1 (by omega), fun c c0 c1 => ?_⟩
  · have := hc.2 (by omega)
    rw [(by omega : a + k = a + g (r (2 * a + 103).toNat + 6).toNat + 1)]
    exact this
  · rcases (by omega : x < a ∨ a ≤ x) with z | z
    · obtain ⟨q1, q2, q3⟩ := l4 x x0 z
      exact ⟨q1, by omega, q3⟩
    · rw [l8 x z x1]
      refine ⟨l2.1, by omega, ?_⟩
      rw [l7]
      refine ⟨z, l3, fun y y0 y1 => ?_⟩
      have := hc.1 (y - a) (by omega) (by omega)
      rw [(by omega : a + (y - a) = y)] at this
      exact this
  · rcases (by omega : c < n ∨ c = n) with z | z
    · obtain ⟨q1, q2, q3, q4⟩ := l6 c c0 z
      exact ⟨q1, by omega, q3, q4⟩
    · subst z
      rw [l7]
      exact ⟨l1.1, by omega, l3, l8 a (by omega) (by omega)⟩
def LyS (co fo r : Nat → Int) (w n : Int) : Prop := LyI co fo r w n w
theorem LyS_of {co fo r : Nat → Int} {w n a : Int} (L : LyI co fo r w n a) (h : w ≤ a) : LyS co fo r w n := by
  have := L.1
  have e : a = w := by omega
  subst e
  exact L
theorem LyS_fo {co fo r : Nat → Int} {w n c x : Int} (L : LyS co fo r w n) (c0 : 0 ≤ c) (c1 : c < n) (hx : x = fo c.toNat) : r (1 : Int).toNat ≤ x ∧ x < w ∧ 5096 ≤ mE r x := by
  have := L.2.2.2.2.2 c c0 c1
  subst hx
  exact ⟨this.1, this.2.1, this.2.2.1⟩
def CfR (co r : Nat → Int) (w a z : Int) : Prop := (z = -1 ∧ ∀ t, ¬ PtT (mE r) a t) ∨ ∃ t, PtT (mE r) a t ∧ z = aI co t ∧ r (1 : Int).toNat ≤ t ∧ t < w
theorem Nw_ptr {cnt : Int} {g sr r : Nat → Int} {w a : Int} (H : NwI cnt g sr r w) (ha : (-8 ≤ a ∧ a < 0) ∨ (r (1 : Int).toNat ≤ a ∧ a < w)) (h1 : r (2 * a + 102).toNat = 1) (h2 : ¬ r (2 * a + 103).toNat = -1) : r (1 : Int).toNat ≤ r (2 * a + 103).toNat ∧ r (2 * a + 103).toNat < w ∧ PtT (mE r) a (r (2 * a + 103).toNat) := by
  have hb := VM_box H.2.1
  have e := enc_at (r := r) (x := a) (by omega)
  have k := H.1 a ⟨by omega, by omega⟩
  unfold WdOK at k
  have e3 : mE r a = enc r (a + 8).toNat := rfl
  have p : Pl (r (1 : Int).toNat) w (enc r (a + 8).toNat) := by
    rcases ha with q | q
    · exact VM_reg H.2.1 q.1 q.2 rfl
    · exact VM_word H.2.1 q.1 q.2 rfl (by omega)
  unfold Pl at p
  refine ⟨by omega, by omega, ?_⟩
  unfold PtT
  omega
theorem Nw_nptr {cnt : Int} {g sr r : Nat → Int} {w a : Int} (H : NwI cnt g sr r w) (ha : (-8 ≤ a ∧ a < 0) ∨ (r (1 : Int).toNat ≤ a ∧ a < w)) (h : ¬ r (2 * a + 102).toNat = 1 ∨ r (2 * a + 103).toNat = -1) : ∀ t, ¬ PtT (mE r) a t := by
  have hb := VM_box H.2.1
  have e := enc_at (r := r) (x := a) (by omega)
  have k := H.1 a ⟨by omega, by omega⟩
  unfold WdOK at k
  have e3 : mE r a = enc r (a + 8).toNat := rfl
  intro t q
  unfold PtT at q
  omega
theorem CfR_yes {cnt : Int} {g sr co r : Nat → Int} {w a z i : Int} (H : NwI cnt g sr r w) (ha : (-8 ≤ a ∧ a < 0) ∨ (r (1 : Int).toNat ≤ a ∧ a < w)) (h1 : r (2 * a + 102).toNat = 1) (h2 : ¬ r (2 * a + 103).toNat = -1) (hz : z = co i.toNat) (hi : i = r (2 * a + 103).toNat) : CfR co r w a z := by
  subst hi
  obtain ⟨q1, q2, q3⟩ := Nw_ptr H ha h1 h2
  exact Or.inr ⟨_, q3, hz, q1, q2⟩
theorem LyS_co {co fo r : Nat → Int} {w n t x : Int} (L : LyS co fo r w n) (t0 : r (1 : Int).toNat ≤ t) (t1 : t < w) (hx : x = co t.toNat) : 0 ≤ x ∧ x < n ∧ HdOf (mE r) t (aI fo x) := by
  have := L.2.2.2.1 t t0 t1
  subst hx
  exact this
theorem CfR_in {co fo r : Nat → Int} {w n a z : Int} (L : LyS co fo r w n) (C : CfR co r w a z) : z = -1 ∨ (0 ≤ z ∧ z < n) := by
  rcases C with q | ⟨t, q1, q2, q3, q4⟩
  · exact Or.inl q.1
  · have := LyS_co L q3 q4 q2
    exact Or.inr ⟨this.1, this.2.1⟩
