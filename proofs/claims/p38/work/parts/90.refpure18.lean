def NxR (g sr co fo r nr : Nat → Int) (w c below z : Int) : Prop := (z = -1 ∧ ∀ k t, 0 ≤ k → FlB g r fo c k → CyR g sr co fo r w c k t → 0 ≤ t → below ≤ nr t.toNat) ∨ (0 ≤ z ∧ FlB g r fo c z ∧ ∃ t, CyR g sr co fo r w c z t ∧ 0 ≤ t ∧ nr t.toNat < below)
def NxI (g sr co fo r nr : Nat → Int) (w c below i best least : Int) : Prop := (best = -1 ∧ least = below ∧ ∀ k t, 0 ≤ k → k < i → CyR g sr co fo r w c k t → 0 ≤ t → below ≤ nr t.toNat) ∨ (0 ≤ best ∧ least ≤ below ∧ FlB g r fo c best ∧ ∃ t, CyR g sr co fo r w c best t ∧ 0 ≤ t ∧ nr t.toNat < below)
theorem NxI_init {g sr co fo r nr : Nat → Int} {w c below : Int} : NxI g sr co fo r nr w c below 0 (-1) below := Or.inl ⟨rfl, rfl, fun k t a b => by omega⟩
theorem NxI_no {g sr co fo r nr : Nat → Int} {w c below i best least z : Int} (H : NxI g sr co fo r nr w c below i best least) (C : CyR g sr co fo r w c i z) (h : z = -1) : NxI g sr co fo r nr w c below (i + 1) best least := by
  rcases H with ⟨a, b, d⟩ | q
  · refine Or.inl ⟨a, b, fun k t k0 k1 q t0 => ?_⟩
    by_cases e : k = i
    · subst e
      have := CyR_uq C q
      omega
    · exact d k t k0 (by omega) q t0
  · exact Or.inr q
theorem NxI_ge {g sr co fo r nr : Nat → Int} {w c below i best least z x : Int} (H : NxI g sr co fo r nr w c below i best least) (C : CyR g sr co fo r w c i z) (hx : x = nr z.toNat) (h : least ≤ x) : NxI g sr co fo r nr w c below (i + 1) best least := by
  rcases H with ⟨a, b, d⟩ | q
  · refine Or.inl ⟨a, b, fun k t k0 k1 q t0 => ?_⟩
    by_cases e : k = i
    · subst e
      have u := CyR_uq C q
      rw [u]
      omega
    · exact d k t k0 (by omega) q t0
  · exact Or.inr q
theorem NxI_lt {g sr co fo r nr : Nat → Int} {w c below i best least z x y : Int} (H : NxI g sr co fo r nr w c below i best least) (C : CyR g sr co fo r w c i z) (F : FlB g r fo c i) (i0 : 0 ≤ i) (z0 : 0 ≤ z) (hx : x = nr z.toNat) (hy : y = nr z.toNat) (h : x < least) : NxI g sr co fo r nr w c below (i + 1) i y := by
  have l : least ≤ below := by
    rcases H with ⟨a, b, d⟩ | q
    · omega
    · exact q.2.1
  exact Or.inr ⟨i0, by omega, F, z, C, z0, by omega⟩
theorem NxR_of {g sr co fo r nr : Nat → Int} {w c below i best least kd f : Int} (H : NxI g sr co fo r nr w c below i best least) (K : KdR r fo c kd) (hf : f = g (kd + 6).toNat) (h : f ≤ i) : NxR g sr co fo r nr w c below best := by
  rcases H with ⟨a, b, d⟩ | ⟨a, b, d, e⟩
  · refine Or.inl ⟨a, fun k t k0 F q t0 => d k t k0 ?_ q t0⟩
    unfold FlB at F
    unfold KdR at K
    rw [← K] at F
    omega
  · exact Or.inr ⟨a, d, e⟩
theorem Nx_fl {g sr co fo r nr : Nat → Int} {w c below z : Int} (H : NxR g sr co fo r nr w c below z) (h : ¬ z = -1) : 0 ≤ z ∧ FlB g r fo c z := by
  rcases H with q | q
  · omega
  · exact ⟨q.1, q.2.1⟩
theorem Nx_cy {g sr co fo r nr : Nat → Int} {w c below z y : Int} (H : NxR g sr co fo r nr w c below z) (h : ¬ z = -1) (C : CyR g sr co fo r w c z y) : 0 ≤ y ∧ nr y.toNat < below := by
  rcases H with q | ⟨_, _, t, q1, q2, q3⟩
  · omega
  · have e := CyR_uq q1 C
    rw [e]
    exact ⟨q2, q3⟩
def cnT (g : Nat → Int) : Nat → Int
  | 0 => 0
  | n + 1 => cnT g n + (if g n < 1000 then 1 else 0)
theorem cnT_le (g : Nat → Int) : ∀ n : Nat, 0 ≤ cnT g n ∧ cnT g n ≤ n
  | 0 => ⟨Int.le_refl _, Int.le_refl _⟩
  | n + 1 => by
    have h := cnT_le g n
    rw [cnT]
    split <;> omega
theorem cnT_pos {g : Nat → Int} {i : Nat} (h0 : g i < 1000) : ∀ n : Nat, i < n → 1 ≤ cnT g n
  | 0, h => absurd h (Nat.not_lt_zero i)
  | n + 1, h => by
    rw [cnT]
    rcases (by omega : i < n ∨ i = n) with q | q
    · have := cnT_pos h0 n q
      split <;> omega
    · subst q
      rw [if_pos h0]
      have := cnT_le g i
      omega
theorem cnT_same {g g2 : Nat → Int} : ∀ n : Nat, (∀ j, j < n → g2 j = g j) → cnT g2 n = cnT g n
  | 0, _ => rfl
  | n + 1, h => by rw [cnT, cnT, cnT_same n (fun j hj => h j (by omega)), h n (by omega)]
theorem cnT_upd {g : Nat → Int} {i : Nat} {v : Int} (hv : v < 1000) : ∀ n : Nat, i < n → cnT (updI g i v) n = cnT g n + (if g i < 1000 then 0 else 1)
  | 0, h => absurd h (Nat.not_lt_zero i)
  | n + 1, h => by
    rcases (by omega : i < n ∨ i = n) with q | q
    · rw [cnT, cnT, cnT_upd hv n q]
      have : updI g i v n = g n := by unfold updI; rw [if_neg (by omega)]
      rw [this]
      omega
    · subst q
      rw [cnT, cnT, cnT_same i (fun j hj => by unfold updI; rw [if_neg (by omega)])]
      have : updI g i v i = v := by unfold updI; rw [if_pos rfl]
      rw [this, if_pos hv]
      split <;> omega
def NrI (g sr co fo r nr : Nat → Int) (w n p : Int) : Prop := (0 ≤ p ∧ p < n ∧ aI nr p = 0) ∧ (∀ c, 0 ≤ c → c < n → aI nr c < 1000 → aI nr c ≤ cnT nr n.toNat - 1) ∧ ∀ c, 0 ≤ c → c < n → aI nr c < 1000 → aI nr c ≤ 0 ∨ ∃ k t, 0 ≤ k ∧ FlB g r fo c k ∧ CyR g sr co fo r w c k t ∧ 0 ≤ t ∧ t < n ∧ aI nr t < aI nr c
def NiI (nr : Nat → Int) (p i : Int) : Prop := ∀ c, 0 ≤ c → c < i → (c = p ∧ aI nr c = 0) ∨ (¬ c = p ∧ aI nr c = 1000)
theorem NiI_init {nr : Nat → Int} {p : Int} : NiI nr p 0 := fun c a b => by omega
theorem NiI_step {nr nr2 : Nat → Int} {p i k v : Int} (H : NiI nr p i) (e : nr2 = updI nr k.toNat v) (hk : k = i) (i0 : 0 ≤ i) (hv : (i = p ∧ v = 0) ∨ (¬ i = p ∧ v = 1000)) : NiI nr2 p (i + 1) := by
  subst hk
  subst e
  intro c c0 c1
  rw [aI_upd i0 c0]
  by_cases q : c = k
  · rw [if_pos q]
    omega
  · rw [if_neg q]
    exact H c c0 (by omega)
theorem NrI_0 {g sr co fo r nr : Nat → Int} {w n p i : Int} (H : NiI nr p i) (hi : n ≤ i) (p0 : 0 ≤ p) (p1 : p < n) : NrI g sr co fo r nr w n p := by
  have hp : aI nr p = 0 := by
    have := H p p0 (by omega)
    omega
  have hc : ∀ c, 0 ≤ c → c < n → aI nr c < 1000 → aI nr c = 0 := fun c c0 c1 c2 => by
    have := H c c0 (by omega)
    omega
  have ct := cnT_pos (g := nr) (i := p.toNat) (by have : nr p.toNat = 0 := hp; omega) n.toNat (by omega)
  exact ⟨⟨p0, p1, hp⟩, fun c c0 c1 c2 => by have := hc c c0 c1 c2; omega, fun c c0 c1 c2 => Or.inl (by have := hc c c0 c1 c2; omega)⟩
theorem NrI_t {g sr co fo r nr : Nat → Int} {w n p c x : Int} (H : NrI g sr co fo r nr w n p) (c0 : 0 ≤ c) (c1 : c < n) (n1 : n ≤ 80) (hx : x = nr c.toNat) (h : x < 1000) : x ≤ 79 := by
  have a := H.2.1 c c0 c1 (by show nr c.toNat < 1000; omega)
  have b := cnT_le nr n.toNat
  have e : aI nr c = x := hx.symm
  omega
theorem NrI_upd {g sr co fo r nr nr2 : Nat → Int} {w n p c k t x y v i : Int} (H : NrI g sr co fo r nr w n p) (hb : ∀ j : Nat, j < 80 → 0 ≤ nr j ∧ nr j ≤ 1000) (n1 : n ≤ 80) (c0 : 0 ≤ c) (c1 : c < n) (k0 : 0 ≤ k) (F : FlB g r fo c k) (C : CyR g sr co fo r w c k t) (t0 : 0 ≤ t) (t1 : t < n) (hx : x = nr t.toNat) (hx2 : x < 1000) (hy : y = nr c.toNat) (h : x + 1 < y) (e : nr2 = updI nr i.toNat v) (hi : i = c) (hv : v = x + 1) : NrI g sr co fo r nr2 w n p := by
  subst hi
  subst e
  have bt := hb t.toNat (by omega)
  have ex : aI nr t = x := hx.symm
  have ey : aI nr i = y := hy.symm
  have x79 := NrI_t H t0 t1 n1 hx hx2
  obtain ⟨⟨a1, a2, a3⟩, b, d⟩ := H
  have u : ∀ z, 0 ≤ z → aI (updI nr i.toNat v) z = if z = i then v else aI nr z := fun z hz => aI_upd c0 hz
  have cu := cnT_upd (g := nr) (i := i.toNat) (v := v) (by omega) n.toNat (by omega)
  have bt2 := b t t0 t1 (by omega)
  have nt : ¬ t = i := fun q => by subst q; omega
  have np : ¬ p = i := fun q => by subst q; omega
  refine ⟨⟨a1, a2, by rw [u p a1, if_neg np]; exact a3⟩, fun z z0 z1 z2 => ?_, fun z z0 z1 z2 => ?_⟩
  · rw [u z z0] at z2 ⊢
    rw [cu]
    by_cases q : z = i
    · rw [if_pos q]
      by_cases s : nr i.toNat < 1000
      · rw [if_pos s]
        have := b i c0 c1 s
        omega
      · rw [if_neg s]
        omega
    · rw [if_neg q] at z2 ⊢
      have := b z z0 z1 z2
      split <;> omega
  · rw [u z z0] at z2 ⊢
    by_cases q : z = i
    · rw [if_pos q]
      subst q
      exact Or.inr ⟨k, t, k0, F, C, t0, t1, by rw [u t t0, if_neg nt]; omega⟩
    · rw [if_neg q] at z2 ⊢
      rcases d z z0 z1 z2 with s | ⟨k', t', s1, s2, s3, s4, s5, s6⟩
      · exact Or.inl s
      · refine Or.inr ⟨k', t', s1, s2, s3, s4, s5, ?_⟩
        rw [u t' s4]
        by_cases q2 : t' = i
        · rw [if_pos q2]
          rw [q2] at s6
          omega
        · rw [if_neg q2]
          exact s6
def FxC (g sr co fo r nr : Nat → Int) (w n i : Int) : Prop := ∀ c k t, 0 ≤ c → c < i → 0 ≤ k → FlB g r fo c k → CyR g sr co fo r w c k t → 0 ≤ t → t < n → aI nr t < 1000 → aI nr c < 1000
def PnI (g sr co fo r a b : Nat → Int) (w n i more : Int) : Prop := (more = 0 ∧ b = a ∧ FxC g sr co fo r a w n i) ∨ (more = 1 ∧ smI b 80 < smI a 80)
theorem PnI_init {g sr co fo r a : Nat → Int} {w n : Int} : PnI g sr co fo r a a w n 0 0 := Or.inl ⟨rfl, rfl, fun c k t a b => by omega⟩
theorem PnI_no {g sr co fo r a b : Nat → Int} {w n i more z : Int} (H : PnI g sr co fo r a b w n i more) (N : NxR g sr co fo r b w i 1000 z) (h : z = -1) : PnI g sr co fo r a b w n (i + 1) more := by
  rcases H with ⟨h1, h2, h3⟩ | q
  · subst h2
    refine Or.inl ⟨h1, rfl, fun c k t c0 c1 k0 F C t0 t1 q => ?_⟩
    by_cases e : c = i
    · subst e
      rcases N with ⟨_, m⟩ | m
      · have : 1000 ≤ b t.toNat := m k t k0 F C t0
        have : aI b t = b t.toNat := rfl
        omega
      · omega
    · exact h3 c k t c0 (by omega) k0 F C t0 t1 q
  · exact Or.inr q
theorem PnI_ge {g sr co fo r a b : Nat → Int} {w n p i more x y t : Int} (H : PnI g sr co fo r a b w n i more) (R : NrI g sr co fo r b w n p) (n1 : n ≤ 80) (t0 : 0 ≤ t) (t1 : t < n) (hx : x = b t.toNat) (hx2 : x < 1000) (hy : y = b i.toNat) (h : y ≤ x + 1) : PnI g sr co fo r a b w n (i + 1) more := by
  have x79 := NrI_t R t0 t1 n1 hx hx2
  rcases H with ⟨h1, h2, h3⟩ | q
  · subst h2
    refine Or.inl ⟨h1, rfl, fun c k u c0 c1 k0 F C u0 u1 q => ?_⟩
    by_cases e : c = i
    · subst e
      show b c.toNat < 1000
      omega
    · exact h3 c k u c0 (by omega) k0 F C u0 u1 q
  · exact Or.inr q
theorem PnI_upd {g sr co fo r a b b2 : Nat → Int} {w n i more y v j : Int} (H : PnI g sr co fo r a b w n i more) (hy : y = b i.toNat) (h : v < y) (i0 : 0 ≤ i) (i1 : i < 80) (e : b2 = updI b j.toNat v) (hj : j = i) : PnI g sr co fo r a b2 w n (i + 1) 1 := by
  subst hj
  subst e
  refine Or.inr ⟨rfl, ?_⟩
  rw [smI_upd 80 (by omega)]
  rcases H with ⟨_, h2, _⟩ | q
  · subst h2
    omega
  · omega
theorem PnI_sm {g sr co fo r a b : Nat → Int} {w n i more : Int} (H : PnI g sr co fo r a b w n i more) : (more = 0 ∧ smI b 80 ≤ smI a 80) ∨ (more = 1 ∧ smI b 80 < smI a 80) := by
  rcases H with ⟨h1, h2, _⟩ | h
  · exact Or.inl ⟨h1, by rw [h2]; exact Int.le_refl _⟩
  · exact Or.inr h
def FxW (g sr co fo r nr : Nat → Int) (w n more : Int) : Prop := more = 0 → FxC g sr co fo r nr w n n
theorem FxW_1 {g sr co fo r nr : Nat → Int} {w n more : Int} (h : more = 1) : FxW g sr co fo r nr w n more := fun q => by omega
theorem FxW_of {g sr co fo r a b : Nat → Int} {w n i more : Int} (H : PnI g sr co fo r a b w n i more) (h : n ≤ i) : FxW g sr co fo r b w n more := by
  intro q
  rcases H with ⟨h1, h2, h3⟩ | h
  · rw [h2]
    exact fun c k t c0 c1 => h3 c k t c0 (by omega)
  · omega
def RgT (co r nr : Nat → Int) (w z : Int) : Prop := (z = -1 ∧ ∀ q y, 0 ≤ q → q < 8 → CfR co r w (q - 8) y → 0 ≤ y → 1000 ≤ nr y.toNat) ∨ (0 ≤ z ∧ z < 8 ∧ ∃ y, CfR co r w (z - 8) y ∧ 0 ≤ y ∧ nr y.toNat < 1000)
def RgJ (co r nr : Nat → Int) (w i b : Int) : Prop := (b = -1 ∧ ∀ q y, 0 ≤ q → q < i → CfR co r w (q - 8) y → 0 ≤ y → 1000 ≤ nr y.toNat) ∨ (0 ≤ b ∧ b < 8 ∧ ∃ y, CfR co r w (b - 8) y ∧ 0 ≤ y ∧ nr y.toNat < 1000)
theorem RgJ_init {co r nr : Nat → Int} {w : Int} : RgJ co r nr w 0 (-1) := Or.inl ⟨rfl, fun q y a b => by omega⟩
theorem RgJ_no {co r nr : Nat → Int} {w i b a z : Int} (H : RgJ co r nr w i b) (C : CfR co r w a z) (ha : a = i - 8) (h : z = -1 ∨ 1000 ≤ nr z.toNat) : RgJ co r nr w (i + 1) b := by
  subst ha
  rcases H with ⟨h1, h2⟩ | q
  · refine Or.inl ⟨h1, fun q y q0 q1 D y0 => ?_⟩
    by_cases e : q = i
    · subst e
      have u := CfR_uq C D
      rw [u]
      omega
    · exact h2 q y q0 (by omega) D y0
  · exact Or.inr q
theorem RgJ_keep {co r nr : Nat → Int} {w i b : Int} (H : RgJ co r nr w i b) (h : ¬ b = -1) : RgJ co r nr w (i + 1) b := by
  rcases H with q | q
  · omega
  · exact Or.inr q
theorem RgJ_yes {co r nr : Nat → Int} {w i a z x : Int} (C : CfR co r w a z) (ha : a = i - 8) (i0 : 0 ≤ i) (i1 : i < 8) (z0 : 0 ≤ z) (hx : x = nr z.toNat) (h : x < 1000) : RgJ co r nr w (i + 1) i := by
  subst ha
  exact Or.inr ⟨i0, i1, z, C, z0, by omega⟩
theorem RgJ_at {co r nr : Nat → Int} {w i b a z : Int} (H : RgJ co r nr w i b) (h : ¬ b = -1) (C : CfR co r w a z) (ha : a = b - 8) : 0 ≤ z := by
  subst ha
  rcases H with q | ⟨_, _, y, q1, q2, _⟩
  · omega
  · have := CfR_uq q1 C
    omega
theorem RgJ_b {co r nr : Nat → Int} {w i b : Int} (H : RgJ co r nr w i b) : b = -1 ∨ (0 ≤ b ∧ b < 8) := by
  rcases H with q | q
  · exact Or.inl q.1
  · exact Or.inr ⟨q.1, q.2.1⟩
theorem RgT_of {co r nr : Nat → Int} {w i b : Int} (H : RgJ co r nr w i b) (h : 8 ≤ i) : RgT co r nr w b := by
  rcases H with ⟨h1, h2⟩ | q
  · exact Or.inl ⟨h1, fun q y q0 q1 => h2 q y q0 (by omega)⟩
  · exact Or.inr q
theorem RgT_at {co r nr : Nat → Int} {w b a z : Int} (H : RgT co r nr w b) (h : ¬ b = -1) (C : CfR co r w a z) (ha : a = b - 8) : 0 ≤ z ∧ nr z.toNat < 1000 := by
  subst ha
  rcases H with q | ⟨_, _, y, q1, q2, q3⟩
  · omega
  · have := CfR_uq q1 C
    rw [this]
    exact ⟨q2, q3⟩
theorem RgT_no {cnt : Int} {g sr co fo r lv nr : Nat → Int} {w n p b a y : Int} (H : NwI cnt g sr r w) (L : LyS co fo r w n) (S : MkS g sr fo r lv n) (A : LvA co lv a y) (hy : y = 1) (hp : p = co a.toNat) (N : NrI g sr co fo r nr w n p) (X : FxW g sr co fo r nr w n 0) (R : RgT co r nr w b) : 0 ≤ b ∧ b < 8 := by
  rcases R with ⟨_, q⟩ | q
  · exfalso
    have hl : aI lv p = 1 := by
      rcases A with z | ⟨_, _, z⟩
      · omega
      · rw [hp]; exact z
    have rc := S p N.1.1 N.1.2.1 hl
    let lw : Nat → Int := fun j => if nr j < 1000 then 0 else 1
    have l1 : ∀ c : Int, 1000 ≤ nr c.toNat → aI lw c = 1 := fun c h => by show (if nr c.toNat < 1000 then (0 : Int) else 1) = 1; rw [if_neg (by omega)]
    have l2 : ∀ c : Int, aI lw c = 1 → 1000 ≤ nr c.toNat := fun c h => by
      have h2 : (if nr c.toNat < 1000 then (0 : Int) else 1) = 1 := h
      by_cases z : nr c.toNat < 1000
      · rw [if_pos z] at h2
        omega
      · omega
    have G : RgC co r lw w (-1) (-1) 8 := fun _ q' t q0 q1 P t0 t1 => by
      have z := LyS_co L t0 t1 (x := aI co t) rfl
      exact Or.inr (l1 _ (q q' (aI co t) q0 q1 (Or.inr ⟨t, P, rfl, t0, t1⟩) z.1))
    have K : MkW g sr co fo r lw w n (-1) 0 := fun _ c c0 c1 lc k k0 F t s P t0 t1 => by
      have z := LyS_co L t0 t1 (x := aI co t) rfl
      refine Or.inr (l1 _ (Int.not_lt.mp (fun lt => ?_)))
      have x := X rfl c k (aI co t) c0 c1 k0 F (Or.inr ⟨s, t, P, rfl, t0, t1⟩) z.1 z.2.1 lt
      have y2 := l2 c lc
      have : aI nr c = nr c.toNat := rfl
      omega
    have M := MkF_of H L G (by omega) K rfl
    have f := l2 p (M rfl rfl p N.1.1 N.1.2.1 rc)
    have : aI nr p = nr p.toNat := rfl
    have := N.1.2.2
    omega
  · exact ⟨q.1, q.2.1⟩
def WyI (nr : Nat → Int) (c i : Int) : Prop := 1 ≤ i ∧ i + nr c.toNat ≤ 1000
theorem WyI_1 {nr : Nat → Int} {c : Int} (h : nr c.toNat < 1000) : WyI nr c 1 := ⟨by omega, by omega⟩
theorem WyI_step {nr : Nat → Int} {c c2 i : Int} (H : WyI nr c i) (h : nr c2.toNat < nr c.toNat) : WyI nr c2 (i + 1) := by
  unfold WyI at H ⊢
  omega
theorem Way_f {g sr co fo r nr : Nat → Int} {w n p c x z : Int} (N : NrI g sr co fo r nr w n p) (c0 : 0 ≤ c) (c1 : c < n) (hx : x = nr c.toNat) (h : x < 1000) (h0 : 0 < x) (X : NxR g sr co fo r nr w c x z) : ¬ z = -1 := by
  intro q
  have e : aI nr c = x := hx.symm
  rcases X with ⟨_, m⟩ | m
  · rcases N.2.2 c c0 c1 (by omega) with s | ⟨k, t, s1, s2, s3, s4, s5, s6⟩
    · omega
    · have a := m k t s1 s2 s3 s4
      have : aI nr t = nr t.toNat := rfl
      omega
  · omega
