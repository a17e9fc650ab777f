theorem va_P_mem {D : va_G} {cl : List vw_C} {ws : va_W} {H : Heap} : va_P D cl ws H ↔ ∀ q ∈ ws, va_at D cl q H := ⟨fun h q hq => by obtain ⟨k, hk⟩ := List.getElem?_of_mem hq; exact h k q hk, fun h k q hk => h q (List.mem_of_getElem? hk)⟩
theorem va_D_nd {A : Nat → Prop} {ws : va_W} : va_D A ws ↔ (ws.map (fun q => q.1)).Nodup ∧ ∀ q ∈ ws, A q.1 := by
  constructor
  · intro h
    refine ⟨?_, fun q hq => by obtain ⟨k, hk⟩ := List.getElem?_of_mem hq; exact h.2 k q hk⟩
    unfold List.Nodup
    rw [List.pairwise_iff_getElem]
    intro i j hi hj hij he
    rw [List.length_map] at hi hj
    simp only [List.getElem_map] at he
    have h3 := h.1 i j ws[i] ws[j] (List.getElem?_eq_getElem hi) (List.getElem?_eq_getElem hj) he
    omega
  · intro h
    have hp : ∀ (i j : Nat) (p q : Nat × va_E), ws[i]? = some p → ws[j]? = some q → i < j → p.1 = q.1 → False := by
      intro i j p q hi hj hij e
      obtain ⟨hi', ei⟩ := List.getElem?_eq_some_iff.mp hi
      obtain ⟨hj', ej⟩ := List.getElem?_eq_some_iff.mp hj
      have h4 := List.pairwise_iff_getElem.mp h.1 i j (by rw [List.length_map]; exact hi') (by rw [List.length_map]; exact hj') hij
      simp only [List.getElem_map] at h4
      rw [ei, ej] at h4
      exact h4 e
    refine ⟨fun i j p q hi hj e => ?_, fun k q hk => h.2 q (List.mem_of_getElem? hk)⟩
    rcases Nat.lt_trichotomy i j with z | z | z
    · exact (hp i j p q hi hj z e).elim
    · exact z
    · exact (hp j i q p hj hi z e.symm).elim
theorem va_P.perm {D : va_G} {cl : List vw_C} {ws ws' : va_W} {H : Heap} (h : ws.Perm ws') (hP : va_P D cl ws H) : va_P D cl ws' H := va_P_mem.mpr (fun q hq => va_P_mem.mp hP q (h.mem_iff.mpr hq))
theorem va_D.perm {A : Nat → Prop} {ws ws' : va_W} (h : ws.Perm ws') (hD : va_D A ws) : va_D A ws' := by
  obtain ⟨h1, h2⟩ := va_D_nd.mp hD
  exact va_D_nd.mpr ⟨(h.map _).nodup_iff.mp h1, fun q hq => h2 q (h.mem_iff.mpr hq)⟩
theorem pm1 {X p q R : va_W} : (X ++ ((p ++ q) ++ R)).Perm ((X ++ q) ++ (p ++ R)) := by
  have h1 : ((p ++ q) ++ R).Perm ((q ++ p) ++ R) := List.perm_append_comm.append_right R
  have h2 := h1.append_left X
  have e : X ++ ((q ++ p) ++ R) = (X ++ q) ++ (p ++ R) := by simp only [List.append_assoc]
  rw [e] at h2
  exact h2
def stC (a qh ql qk : Nat) (kI : ClassId) (w lim me go dn lc bl ce cw en kc : Int) (h lv kp : Nat → Int) : va_W := [(a, .inr (8, [.int (iZ w), .int (iZ lim), .int (iZ me), .ref qh, .int (iZ go), .int (iZ dn), .ref ql, .int (iZ lc), .int (iZ bl), .int (iZ ce), .int (iZ cw), .int (iZ en), .int (iZ kc), .ref qk])), (qh, .inl (kI, 168, .inl (aZ h))), (ql, .inl (kI, 160, .inl (aZ lv))), (qk, .inl (kI, 80, .inl (aZ kp)))]
def plW (Q : Nat → va_W) : Nat → va_W
  | 0 => []
  | n + 1 => plW Q n ++ Q n
theorem plW_cong {Q Q2 : Nat → va_W} : ∀ n : Nat, (∀ j, j < n → Q j = Q2 j) → plW Q n = plW Q2 n
  | 0, _ => rfl
  | n + 1, h => by rw [plW, plW, plW_cong n (fun j hj => h j (by omega)), h n (by omega)]
theorem plW_split (Q : Nat → va_W) {i : Nat} : ∀ {n : Nat}, i < n → ∃ R : va_W, plW Q n = (plW Q i ++ Q i) ++ R ∧ ∀ w : va_W, plW (fun j => if j = i then w else Q j) n = (plW Q i ++ w) ++ R
  | 0, h => absurd h (Nat.not_lt_zero i)
  | n + 1, h => by
    rcases (by omega : i < n ∨ i = n) with q | q
    · obtain ⟨R, h1, h2⟩ := plW_split Q (n := n) q
      refine ⟨R ++ Q n, by rw [plW, h1, List.append_assoc], fun w => ?_⟩
      rw [plW, h2 w, if_neg (by omega), List.append_assoc]
    · subst q
      refine ⟨[], by rw [plW, List.append_nil], fun w => ?_⟩
      rw [plW, if_pos rfl, List.append_nil, plW_cong i (fun j hj => by rw [if_neg (by omega)])]
def StB (w lim me go dn lc bl ce cw en kc : Int) (h lv : Nat → Int) : Prop := ((0 ≤ w ∧ w ≤ 160) ∧ (0 ≤ lim ∧ lim ≤ 160) ∧ (0 ≤ me ∧ me ≤ 1) ∧ (0 ≤ go ∧ go ≤ 1) ∧ (0 ≤ dn ∧ dn ≤ 400) ∧ (0 ≤ lc ∧ lc ≤ 160) ∧ (0 ≤ bl ∧ bl ≤ 160) ∧ (-2147483648 ≤ ce ∧ ce ≤ 2147483647) ∧ (-2147483648 ≤ cw ∧ cw ≤ 2147483647) ∧ (-2147483648 ≤ en ∧ en ≤ 2147483647) ∧ (0 ≤ kc ∧ kc ≤ 20)) ∧ (∀ j : Nat, j < 168 → (0 ≤ h j ∧ h j ≤ 1999) ∨ (3047 ≤ h j ∧ h j ≤ 3207) ∨ (5096 ≤ h j ∧ h j ≤ 5101) ∨ (7136 ≤ h j ∧ h j ≤ 7303)) ∧ (∀ j : Nat, j < 160 → 0 ≤ lv j ∧ lv j ≤ 159)
def Vld (pc pn i : Int) : Prop := (i < pn ∧ pn - i ≤ pc) ∨ (pn ≤ i ∧ pn + 20 - i ≤ pc)
def PoolOK (kI : ClassId) (cnt : Int) (fl : Nat → Int) (f : Nat → Option Nat) (pc pn : Int) (Q : Nat → va_W) : Prop := ∀ i : Nat, i < 20 → ∃ (a qh ql qk : Nat) (w lim me go dn lc bl ce cw en kc : Int) (h lv kp : Nat → Int), Q i = stC a qh ql qk kI w lim me go dn lc bl ce cw en kc h lv kp ∧ f i = some a ∧ StB w lim me go dn lc bl ce cw en kc h lv ∧ (Vld pc pn (i : Int) → StOK cnt fl h lv lim w lc bl me dn go)
theorem PoolOK_set {kI : ClassId} {cnt : Int} {fl : Nat → Int} {f : Nat → Option Nat} {pc pn pc2 pn2 : Int} {Q : Nat → va_W} {a qh ql qk i : Nat} {w lim me go dn lc bl ce cw en kc : Int} {h lv kp : Nat → Int} (H : PoolOK kI cnt fl f pc pn Q) (hi : i < 20) (hf : f i = some a) (hB : StB w lim me go dn lc bl ce cw en kc h lv) (hS : StOK cnt fl h lv lim w lc bl me dn go) (hpn : (i : Int) = pn) (e : pn2 = (pn + 1) % 20) (hpc : pc2 ≤ pc + 1 ∧ pc2 ≤ 20) : PoolOK kI cnt fl f pc2 pn2 (fun j => if j = i then stC a qh ql qk kI w lim me go dn lc bl ce cw en kc h lv kp else Q j) := by
  intro j hj
  by_cases q : j = i
  · subst q
    exact ⟨a, qh, ql, qk, w, lim, me, go, dn, lc, bl, ce, cw, en, kc, h, lv, kp, if_pos rfl, hf, hB, fun _ => hS⟩
  · obtain ⟨a', qh', ql', qk', w', lim', me', go', dn', lc', bl', ce', cw', en', kc', h', lv', kp', h1, h2, h3, h4⟩ := H j hj
    refine ⟨a', qh', ql', qk', w', lim', me', go', dn', lc', bl', ce', cw', en', kc', h', lv', kp', ?_, h2, h3, fun v => h4 ?_⟩
    · show (if j = i then _ else Q j) = _
      rw [if_neg q]; exact h1
    · unfold Vld at *
      omega
theorem PoolOK_undo {kI : ClassId} {cnt : Int} {fl : Nat → Int} {f : Nat → Option Nat} {pc pn pc2 pn2 : Int} {Q : Nat → va_W} (H : PoolOK kI cnt fl f pc pn Q) (h0 : 0 ≤ pn ∧ pn ≤ 19) (hc : 1 ≤ pc ∧ pc ≤ 20) (e : pn2 = (pn + 19) % 20) (hpc : pc2 = pc - 1) : PoolOK kI cnt fl f pc2 pn2 Q := by
  intro j hj
  obtain ⟨a', qh', ql', qk', w', lim', me', go', dn', lc', bl', ce', cw', en', kc', h', lv', kp', h1, h2, h3, h4⟩ := H j hj
  refine ⟨a', qh', ql', qk', w', lim', me', go', dn', lc', bl', ce', cw', en', kc', h', lv', kp', h1, h2, h3, fun v => h4 ?_⟩
  unfold Vld at *
  omega
theorem PoolOK_0 {kI : ClassId} {cnt cnt2 : Int} {fl fl2 : Nat → Int} {f : Nat → Option Nat} {pc pn pn2 : Int} {Q : Nat → va_W} (H : PoolOK kI cnt fl f pc pn Q) (h : 0 ≤ pn2) : PoolOK kI cnt2 fl2 f 0 pn2 Q := by
  intro j hj
  obtain ⟨a', qh', ql', qk', w', lim', me', go', dn', lc', bl', ce', cw', en', kc', h', lv', kp', h1, h2, h3, h4⟩ := H j hj
  refine ⟨a', qh', ql', qk', w', lim', me', go', dn', lc', bl', ce', cw', en', kc', h', lv', kp', h1, h2, h3, fun v => ?_⟩
  unfold Vld at v
  omega
theorem OkR_get {c : Nat → Int} {sz cnt z : Int} (H : OkR c sz cnt z) (h : ¬ z = 0) : Okp c sz cnt 0 := H.elim (fun q => absurd q h) id
