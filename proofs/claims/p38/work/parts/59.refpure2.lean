def LdI (bad cnt : Int) (fl r : Nat → Int) (w : Int) : Prop := RowS r ∧ VM cnt fl (enc r) (r (1 : Int).toNat) w ∧ (r (2 : Int).toNat = 0 ∧ r (3 : Int).toNat = 0 ∧ r (4 : Int).toNat = 0 ∧ r (5 : Int).toNat = 0) ∧ (bad = 0 → 0 ≤ r (0 : Int).toNat ∧ r (0 : Int).toNat ≤ 1)
theorem LdI_b {bad bad2 cnt : Int} {fl r : Nat → Int} {w : Int} (H : LdI bad cnt fl r w) (h : bad2 = 0 → bad = 0) : LdI bad2 cnt fl r w := ⟨H.1, H.2.1, H.2.2.1, fun q => H.2.2.2 (h q)⟩
theorem LdI_box {bad cnt : Int} {fl r : Nat → Int} {w : Int} (H : LdI bad cnt fl r w) : 0 ≤ r (1 : Int).toNat ∧ r (1 : Int).toNat ≤ w ∧ w ≤ 160 ∧ cnt ≤ 6 := VM_box H.2.1
def CbE (cf r : Nat → Int) (w n : Int) : Prop := CbI cf (enc r) (r (1 : Int).toNat) w n
def PlcR (r : Nat → Int) (w a : Int) : Prop := (-8 ≤ a ∧ a < 0) ∨ (r (1 : Int).toNat ≤ a ∧ a < w ∧ enc r (a + 8).toNat < 5096)
def KpH (r r2 : Nat → Int) : Prop := (∀ j : Nat, j < 86 → r2 j = r j) ∧ ∀ x, Dm x → (enc r (x + 8).toNat < 5096 ∧ enc r2 (x + 8).toNat < 5096) ∨ enc r2 (x + 8).toNat = enc r (x + 8).toNat
theorem KpH_rf {r : Nat → Int} : KpH r r := ⟨fun _ _ => rfl, fun x hx => Or.inr rfl⟩
theorem KpH_tr {r r2 r3 : Nat → Int} (H : KpH r r2) (K : KpH r2 r3) : KpH r r3 := by
  refine ⟨fun j hj => (K.1 j hj).trans (H.1 j hj), fun x hx => ?_⟩
  rcases H.2 x hx with a | a <;> rcases K.2 x hx with b | b
  · exact Or.inl ⟨a.1, b.2⟩
  · exact Or.inl ⟨a.1, by rw [b]; exact a.2⟩
  · exact Or.inl ⟨by rw [← a]; exact b.1, b.2⟩
  · exact Or.inr (b.trans a)
theorem KpH_hold {r r2 : Nat → Int} {w a s n : Int} (P : PlcR r w a) (hw : w ≤ 160) (hl : 0 ≤ r (1 : Int).toNat) (hr : ∀ x, -8 ≤ x → x < 0 → enc r (x + 8).toNat < 5096) (H : HldR r r2 a s n) (hv : 2048 * s + 1000 + n < 5096) : KpH r r2 := by
  have ha : -8 ≤ a ∧ a < 160 := by rcases P with q | q <;> omega
  refine ⟨H.1, fun x hx => ?_⟩
  have e := HldR_enc H ha x hx
  have hx1 := hx.1
  unfold updI at e
  by_cases q : x = a
  · subst q
    rw [if_pos rfl] at e
    left
    refine ⟨?_, by rw [e]; exact hv⟩
    rcases P with z | z
    · exact hr x z.1 z.2
    · exact z.2.2
  · rw [if_neg (by omega)] at e
    exact Or.inr e
theorem LdI_reg {bad cnt : Int} {fl r : Nat → Int} {w : Int} (H : LdI bad cnt fl r w) : ∀ x, -8 ≤ x → x < 0 → enc r (x + 8).toNat < 5096 := fun x h0 h1 => Pl_lt (VM_reg H.2.1 (r := x) h0 h1 rfl) (VM_box H.2.1).2.2.1
theorem CbE_kp {cf r r2 : Nat → Int} {w n : Int} (H : CbE cf r w n) (K : KpH r r2) (hl : 0 ≤ r (1 : Int).toNat) (hw : w ≤ 160) : CbE cf r2 w n := by
  intro c c0 c1
  obtain ⟨q1, q2, q3⟩ := H c c0 c1
  have e1 : r2 (1 : Int).toNat = r (1 : Int).toNat := K.1 _ (by decide)
  refine ⟨by rw [e1]; exact q1, q2, ?_⟩
  rcases K.2 (cf c.toNat) ⟨by omega, by omega⟩ with z | z
  · omega
  · rw [z]; exact q3
theorem LdI_hold {bad cnt : Int} {fl r r2 : Nat → Int} {w a s n : Int} (H : LdI bad cnt fl r w) (P : PlcR r w a) (K : HldR r r2 a s n) (hW : WdOK s n) (hv : Pl (r (1 : Int).toNat) w (2048 * s + 1000 + n)) : LdI bad cnt fl r2 w := by
  have e : ∀ j : Nat, j < 86 → r2 j = r j := K.1
  refine ⟨RowS_hold H.1 K hW, ?_, ?_, ?_⟩
  · rw [e _ (by decide : (1 : Int).toNat < 86)]
    exact VM_hold H.2.1 K P hv
  · rw [e _ (by decide : (2 : Int).toNat < 86), e _ (by decide : (3 : Int).toNat < 86), e _ (by decide : (4 : Int).toNat < 86), e _ (by decide : (5 : Int).toNat < 86)]
    exact H.2.2.1
  · rw [e _ (by decide : (0 : Int).toNat < 86)]
    exact H.2.2.2
def EnS (r r2 : Nat → Int) : Prop := r2 (1 : Int).toNat = r (1 : Int).toNat ∧ ∀ x, Dm x → enc r2 (x + 8).toNat = enc r (x + 8).toNat
theorem CbE_en {cf r r2 : Nat → Int} {w n : Int} (H : CbE cf r w n) (K : EnS r r2) (hl : 0 ≤ r (1 : Int).toNat) (hw : w ≤ 160) : CbE cf r2 w n := by
  intro c c0 c1
  obtain ⟨q1, q2, q3⟩ := H c c0 c1
  refine ⟨by rw [K.1]; exact q1, q2, ?_⟩
  rw [K.2 (cf c.toNat) ⟨by omega, by omega⟩]
  exact q3
def CnE (r : Nat → Int) (w z : Int) : Prop := z = -1 ∨ (r (1 : Int).toNat ≤ z ∧ z < w ∧ 5096 ≤ enc r (z + 8).toNat)
theorem CnE_at {cf r : Nat → Int} {w n c x : Int} (H : CbE cf r w n) (h0 : 0 ≤ c) (h1 : c < n) (hx : x = cf c.toNat) : CnE r w x := by
  subst hx
  exact Or.inr (H c h0 h1)
theorem CnE_head {bad cnt : Int} {fl r : Nat → Int} {w z : Int} (H : LdI bad cnt fl r w) (C : CnE r w z) (hz : ¬ z = -1) : r (1 : Int).toNat ≤ z ∧ z < w ∧ r (2 * z + 102).toNat = 2 ∧ 0 ≤ r (2 * z + 103).toNat ∧ r (2 * z + 103).toNat < cnt ∧ 1 ≤ fl (r (2 * z + 103).toNat).toNat ∧ fl (r (2 * z + 103).toNat).toNat ≤ 6 ∧ z + fl (r (2 * z + 103).toNat).toNat < w := by
  obtain ⟨q1, q2, q3⟩ := C.resolve_left hz
  have hb := VM_box H.2.1
  have v := VM_at H.2.1 q1 q2 q3
  have e := enc_at (r := r) (x := z) (by omega)
  have k := H.1 z ⟨by omega, by omega⟩
  unfold WdOK at k
  have s2 : r (2 * z + 102).toNat = 2 := by omega
  have e2 : enc r (z + 8).toNat - 5096 = r (2 * z + 103).toNat := by omega
  rw [e2] at v
  exact ⟨q1, q2, s2, by omega, by omega, v.2.2.1, v.2.2.2.1, v.2.2.2.2⟩
theorem PlcR_fld {bad cnt : Int} {fl r : Nat → Int} {w z j a : Int} (H : LdI bad cnt fl r w) (C : CnE r w z) (hz : ¬ z = -1) (j0 : 1 ≤ j) (j1 : j ≤ fl (r (2 * z + 103).toNat).toNat) (ha : a = z + j) : PlcR r w a := by
  obtain ⟨q1, q2, q3⟩ := C.resolve_left hz
  have hh := CnE_head H C hz
  have hb := VM_box H.2.1
  have e := enc_at (r := r) (x := z) (by omega)
  right
  refine ⟨by omega, by omega, ?_⟩
  exact VM_fld H.2.1 (b := z) (j := j) q1 q2 q3 j0 (by rw [(by omega : enc r (z + 8).toNat - 5096 = r (2 * z + 103).toNat)]; exact j1) ha
theorem CnE_kp {r r2 : Nat → Int} {w z : Int} (C : CnE r w z) (K : KpH r r2) (hl : 0 ≤ r (1 : Int).toNat) (hw : w ≤ 160) : CnE r2 w z := by
  rcases C with q | ⟨q1, q2, q3⟩
  · exact Or.inl q
  · right
    have e1 : r2 (1 : Int).toNat = r (1 : Int).toNat := K.1 _ (by decide)
    refine ⟨by rw [e1]; exact q1, q2, ?_⟩
    rcases K.2 z ⟨by omega, by omega⟩ with y | y
    · omega
    · rw [y]; exact q3
theorem LdI_m0 {bad bad2 cnt : Int} {fl r r2 : Nat → Int} {w v : Int} (H : LdI bad cnt fl r w) (e : r2 = updI r (0 : Int).toNat v) (hv : bad2 = 0 → 0 ≤ v ∧ v ≤ 1) : LdI bad2 cnt fl r2 w ∧ EnS r r2 := by
  have u : ∀ j : Nat, ¬ j = 0 → r2 j = r j := fun j hj => by rw [e]; unfold updI; rw [if_neg (by simpa using hj)]
  have u0 : r2 (0 : Int).toNat = v := by rw [e]; unfold updI; rw [if_pos rfl]
  have en : ∀ x, Dm x → enc r2 (x + 8).toNat = enc r (x + 8).toNat := fun x hx => by
    have h8 := hx.1
    rw [enc_at hx.1, enc_at hx.1, u _ (by omega), u _ (by omega)]
  have rw1 : RowS r2 := fun x hx => by
    have h8 := hx.1
    rw [u _ (by omega), u _ (by omega)]
    exact H.1 x hx
  refine ⟨⟨rw1, ?_, ?_, fun q => by rw [u0]; exact hv q⟩, u _ (by decide), en⟩
  · rw [u _ (by decide : ¬ (1 : Int).toNat = 0)]
    exact VM_cong H.2.1 en
  · rw [u _ (by decide : ¬ (2 : Int).toNat = 0), u _ (by decide : ¬ (3 : Int).toNat = 0), u _ (by decide : ¬ (4 : Int).toNat = 0), u _ (by decide : ¬ (5 : Int).toNat = 0)]
    exact H.2.2.1
theorem LdI_kind {bad cnt : Int} {fl fl2 r : Nat → Int} {w i v : Int} (H : LdI bad cnt fl r w) (e : fl2 = updI fl i.toNat v) (hi : i = cnt) (h0 : 0 ≤ cnt) (h6 : cnt + 1 ≤ 6) : LdI bad (cnt + 1) fl2 r w := ⟨H.1, VM_kind H.2.1 e hi h0 h6, H.2.2⟩
def AdE (r0 r : Nat → Int) (lim2 kind f : Int) : Prop := (∀ j : Nat, j < 86 → ¬ j = 1 → r j = r0 j) ∧ r (1 : Int).toNat = lim2 ∧ RowS r ∧ AdI (enc r0) (enc r) lim2 kind f
theorem AdE_init {r0 r1 r : Nat → Int} {lim2 kind v i : Int} (R : RowS r0) (e : r1 = updI r0 i.toNat v) (hi : i = 1) (hv : v = lim2) (H : HldR r1 r lim2 2 kind) (h0 : 0 ≤ lim2 ∧ lim2 < 160) (k0 : 0 ≤ kind ∧ kind ≤ 5) : AdE r0 r lim2 kind 0 := by
  subst hi
  have u : ∀ j : Nat, ¬ j = 1 → r1 j = r0 j := fun j hj => by rw [e]; unfold updI; rw [if_neg (by simpa using hj)]
  have R1 : RowS r1 := fun x hx => by
    have h8 := hx.1
    rw [u _ (by omega), u _ (by omega)]
    exact R x hx
  have en : ∀ x, Dm x → enc r1 (x + 8).toNat = enc r0 (x + 8).toNat := fun x hx => by
    have h8 := hx.1
    rw [enc_at hx.1, enc_at hx.1, u _ (by omega), u _ (by omega)]
  have he := HldR_enc H (by omega)
  refine ⟨fun j hj hn => (H.1 j hj).trans (u j hn), ?_, RowS_hold R1 H (by unfold WdOK; omega), ?_, fun j j0 j1 => by omega, fun x hx hc => ?_⟩
  · rw [H.1 _ (by decide), e]; unfold updI; rw [if_pos rfl]; exact hv
  · show enc r (lim2 + 8).toNat = 5096 + kind
    rw [he lim2 ⟨by omega, by omega⟩]; unfold updI; rw [if_pos rfl]; omega
  · show enc r (x + 8).toNat = enc r0 (x + 8).toNat
    have h8 := hx.1
    rw [he x hx]; unfold updI; rw [if_neg (by omega)]; exact en x hx
theorem AdE_step {r0 r r2 : Nat → Int} {lim2 kind f a s : Int} (H : AdE r0 r lim2 kind f) (E : EmpR r r2 a s) (ha : a = lim2 + 1 + f) (h0 : 0 ≤ lim2) (f0 : 0 ≤ f) (hw : a < 160) : AdE r0 r2 lim2 kind (f + 1) := by
  obtain ⟨h1, h2, h3, h4⟩ := H
  have key : ∀ sv nv : Int, HldR r r2 a sv nv → WdOK sv nv → (2048 * sv + 1000 + nv = 1000 ∨ 2048 * sv + 1000 + nv = 3047) → AdE r0 r2 lim2 kind (f + 1) := fun sv nv K hW hv => by
    have he := HldR_enc K (by omega)
    obtain ⟨a1, a2, a3⟩ := h4
    have en : ∀ x, Dm x → mI (enc r2) x = if x = a then 2048 * sv + 1000 + nv else mI (enc r) x := fun x hx => by
      have h8 := hx.1
      show enc r2 (x + 8).toNat = _
      rw [he x hx]
      unfold updI
      by_cases q : x = a
      · rw [if_pos q, if_pos (by rw [q])]
      · rw [if_neg q, if_neg (by omega)]; rfl
    refine ⟨fun j hj hn => (K.1 j hj).trans (h1 j hj hn), (K.1 _ (by decide)).trans h2, RowS_hold h3 K hW, ?_, fun j j0 j1 => ?_, fun x hx hc => ?_⟩
    · rw [en lim2 ⟨by omega, by omega⟩, if_neg (by omega)]; exact a1
    · rw [en _ ⟨by omega, by omega⟩]
      by_cases q : lim2 + j = a
      · rw [if_pos q]; exact hv
      · rw [if_neg q]; exact a2 j j0 (by omega)
    · rw [en x hx, if_neg (by omega)]; exact a3 x hx (by omega)
  rcases E with ⟨_, K⟩ | ⟨_, K⟩
  · exact key 0 0 K (by unfold WdOK; omega) (by omega)
  · exact key 1 (-1) K (by unfold WdOK; omega) (by omega)
theorem AdE_end {bad cnt : Int} {fl r0 r : Nat → Int} {w lim2 kind f : Int} (H : LdI bad cnt fl r0 w) (hK : KOK cnt fl) (A : AdE r0 r lim2 kind f) (k0 : 0 ≤ kind) (k1 : kind < cnt) (hf : f = fl kind.toNat) (hl : lim2 = r0 (1 : Int).toNat - f - 1) (h0 : 0 ≤ lim2) : LdI bad cnt fl r w ∧ CnE r w lim2 ∧ r (2 * lim2 + 103).toNat = kind := by
  obtain ⟨a1, a2, a3, a4⟩ := A
  have V := AdI_end H.2.1 hK a4 k0 k1 hf hl h0
  have hb := VM_box H.2.1
  have hk := hK kind k0 k1
  have e := enc_at (r := r) (x := lim2) (by omega)
  have hd : enc r (lim2 + 8).toNat = 5096 + kind := a4.1
  have hs := a3 lim2 ⟨by omega, by omega⟩
  unfold WdOK at hs
  refine ⟨⟨a3, by rw [a2]; exact V, ?_, ?_⟩, Or.inr ⟨by rw [a2]; omega, by omega, by omega⟩, by omega⟩
  · rw [a1 _ (by decide : (2 : Int).toNat < 86) (by decide), a1 _ (by decide : (3 : Int).toNat < 86) (by decide), a1 _ (by decide : (4 : Int).toNat < 86) (by decide), a1 _ (by decide : (5 : Int).toNat < 86) (by decide)]
    exact H.2.2.1
  · rw [a1 _ (by decide : (0 : Int).toNat < 86) (by decide)]
    exact H.2.2.2
theorem CbE_push {bad cnt : Int} {fl cf cf2 r0 r : Nat → Int} {w n lim2 kind f x i : Int} (C : CbE cf r0 w n) (H : LdI bad cnt fl r0 w) (A : AdE r0 r lim2 kind f) (hl : lim2 = r0 (1 : Int).toNat - f - 1) (h0 : 0 ≤ lim2) (f0 : 0 ≤ f) (k0 : 0 ≤ kind) (n0 : 0 ≤ n) (e : cf2 = updI cf i.toNat x) (hi : i = n) (hx : x = lim2) : CbE cf2 r w (n + 1) := by
  have hb := VM_box H.2.1
  obtain ⟨a1, a2, a3, a4⟩ := A
  have q := CbI_push C (AdR_of (lim := r0 (1 : Int).toNat) a4 hl) h0 (by omega) (by omega) hb.2.2.1 k0 n0 e hi hx
  show CbI cf2 (enc r) (r (1 : Int).toNat) w (n + 1)
  rw [a2]
  exact q
def ZrT (g : Nat → Int) (i : Int) : Prop := ∀ j : Nat, (j : Int) < i → g j = 0
def PtR (bad : Int) (r : Nat → Int) (w z : Int) : Prop := 1 ≤ bad ∨ (r (1 : Int).toNat ≤ z ∧ z < w)
theorem PtR_mk {bad : Int} {r : Nat → Int} {w z : Int} (h : 1 ≤ bad ∨ (r (1 : Int).toNat ≤ z ∧ z < w)) : PtR bad r w z := h
theorem PtR_get {bad : Int} {r : Nat → Int} {w z : Int} (H : PtR bad r w z) (h : bad ≤ 0) : r (1 : Int).toNat ≤ z ∧ z < w := H.elim (fun q => by omega) id
theorem PtR_cn {bad cnt : Int} {fl r : Nat → Int} {w z : Int} (_ : LdI bad cnt fl r w) (C : CnE r w z) (h : 1 ≤ bad ∨ ¬ z = -1) : PtR bad r w z := by
  rcases h with q | q
  · exact Or.inl q
  · obtain ⟨q1, q2, _⟩ := C.resolve_left q
    exact Or.inr ⟨q1, q2⟩
def KnI (bad km : Int) : Prop := 1 ≤ bad ∨ km ≤ 5
def NmI (r : Nat → Int) (b k : Int) : Prop := r (2 * b + 103).toNat = k
theorem NmI_kp {bad bad2 cnt : Int} {fl r r2 : Nat → Int} {w b k : Int} (N : NmI r b k) (H : LdI bad cnt fl r w) (H2 : LdI bad2 cnt fl r2 w) (C : CnE r w b) (hb : ¬ b = -1) (K : KpH r r2) : NmI r2 b k := by
  obtain ⟨q1, q2, q3⟩ := C.resolve_left hb
  have bx := VM_box H.2.1
  have d : Dm b := ⟨by omega, by omega⟩
  have a1 := H.1 b d
  have a2 := H2.1 b d
  have e1 := enc_at (r := r) (x := b) (by omega)
  have e2 := enc_at (r := r2) (x := b) (by omega)
  unfold WdOK at a1 a2
  unfold NmI at *
  rcases K.2 b d with z | z
  · omega
  · omega
def CpI (src dst : Nat → Int) (i : Int) : Prop := ∀ j : Nat, (j : Int) < i → dst j = src j
theorem CpI_init {src dst : Nat → Int} : CpI src dst 0 := fun j h => by omega
theorem CpI_step {src dst dst2 : Nat → Int} {i x k : Int} (H : CpI src dst i) (hx : x = src i.toNat) (e : dst2 = updI dst k.toNat x) (hk : k = i) (h0 : 0 ≤ i) : CpI src dst2 (i + 1) := by
  subst hk
  intro j hj
  rw [e]
  unfold updI
  by_cases q : j = k.toNat
  · rw [if_pos q, hx, q]
  · rw [if_neg q]; exact H j (by omega)
def FdI (g0 g : Nat → Int) (n i : Int) : Prop := (∀ j : Nat, (j : Int) < n → g j = g0 j) ∧ ∀ j : Nat, (j : Int) < i → g (n.toNat + j) = g0 j
theorem FdI_init {g : Nat → Int} {n : Int} : FdI g g n 0 := ⟨fun _ _ => rfl, fun j h => by omega⟩
theorem FdI_step {g0 g g2 : Nat → Int} {n i x k : Int} (H : FdI g0 g n i) (hx : x = g i.toNat) (e : g2 = updI g k.toNat x) (hk : k = n + i) (h0 : 0 ≤ i) (hn : i < n) : FdI g0 g2 n (i + 1) := by
  subst hk
  refine ⟨fun j hj => ?_, fun j hj => ?_⟩
  · rw [e]; unfold updI; rw [if_neg (by omega)]; exact H.1 j hj
  · rw [e]
    unfold updI
    by_cases q : (j : Int) = i
    · rw [if_pos (by omega), hx, H.1 i.toNat (by omega)]
      congr 1
      omega
    · rw [if_neg (by omega)]; exact H.2 j (by omega)
theorem FdI_to {g0 g : Nat → Int} {n i k : Int} (H : FdI g0 g n i) (h : k ≤ i) : FdI g0 g n k := ⟨H.1, fun j hj => H.2 j (by omega)⟩
theorem CpI_to {a b : Nat → Int} {i k : Int} (H : CpI a b i) (h : k ≤ i) : CpI a b k := fun j hj => H j (by omega)
def UpK (g g2 : Nat → Int) (n : Int) : Prop := ∀ j : Nat, n ≤ (j : Int) → g2 j = g j
theorem UpK_rf {g : Nat → Int} {n : Int} : UpK g g n := fun _ _ => rfl
theorem UpK_tr {g g2 g3 : Nat → Int} {n : Int} (H : UpK g g2 n) (K : UpK g2 g3 n) : UpK g g3 n := fun j hj => (K j hj).trans (H j hj)
theorem UpK_upd {g g2 g3 : Nat → Int} {n i v : Int} (H : UpK g g2 n) (e : g3 = updI g2 i.toNat v) (h0 : 0 ≤ i) (hi : i < n) : UpK g g3 n := by
  intro j hj
  rw [e]
  unfold updI
  rw [if_neg (by omega)]
  exact H j hj
