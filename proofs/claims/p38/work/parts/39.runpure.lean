def PthOK (c : Nat → Int) (sz a e : Int) : Prop := 0 ≤ a ∧ (0 ≤ c a.toNat ∧ c a.toNat ≤ 7) ∧ (0 ≤ c (a + 1).toNat ∧ c (a + 1).toNat ≤ 6) ∧ e = a + 2 + c (a + 1).toNat ∧ e ≤ sz ∧ ∀ j, 0 ≤ j → j < c (a + 1).toNat → 0 ≤ c (a + 2 + j).toNat ∧ c (a + 2 + j).toNat ≤ 999
def TkOK (c : Nat → Int) (sz a e : Int) : Prop := 0 ≤ a ∧ ((c a.toNat = 0 ∧ e = a + 2 ∧ e ≤ sz ∧ ((1000 ≤ c (a + 1).toNat ∧ c (a + 1).toNat ≤ 1999) ∨ c (a + 1).toNat = 3047)) ∨ (c a.toNat = 2 ∧ ∃ e1, PthOK c sz (a + 1) e1 ∧ e = e1 + 2 ∧ e ≤ sz ∧ -999 ≤ c (e1 + 1).toNat ∧ c (e1 + 1).toNat ≤ 999))
def VlOK (c : Nat → Int) (sz cnt a e : Int) : Prop := TkOK c sz a e ∨ (0 ≤ a ∧ c a.toNat = 1 ∧ e = a + 2 ∧ e ≤ sz ∧ 0 ≤ c (a + 1).toNat ∧ c (a + 1).toNat < cnt)
def RepOK (c : Nat → Int) (sz : Int) (S : Int → Prop) (q : Int) : Prop := 0 ≤ q ∧ q + 4 ≤ sz ∧ (0 ≤ c (q + 3).toNat ∧ c (q + 3).toNat ≤ 99) ∧ S (q + 4) ∧ S (c (q + 2).toNat)
def ActOK (c : Nat → Int) (sz cnt : Int) (S : Int → Prop) (p : Int) : Prop := (c p.toNat = 1 ∧ p + 2 ≤ sz ∧ S (p + 2)) ∨ (c p.toNat = 2 ∧ RepOK c sz S p) ∨ (c p.toNat = 3 ∧ p + 2 ≤ sz ∧ RepOK c sz S (c (p + 1).toNat)) ∨ (c p.toNat = 4 ∧ p + 3 ≤ sz ∧ S (c (p + 2).toNat) ∧ ∃ e1 e2, TkOK c sz (p + 3) e1 ∧ TkOK c sz e1 e2 ∧ S e2) ∨ ((c p.toNat < 1 ∨ 4 < c p.toNat) ∧ p + 3 ≤ sz ∧ ∃ e, PthOK c sz (p + 3) (c (p + 2).toNat) ∧ VlOK c sz cnt (c (p + 2).toNat) e ∧ S e)
def Clos (c : Nat → Int) (sz cnt : Int) (S : Int → Prop) : Prop := ∀ p, S p → 0 ≤ p ∧ p ≤ sz ∧ (p < sz → ActOK c sz cnt S p)
def Okp (c : Nat → Int) (sz cnt p : Int) : Prop := ∃ S : Int → Prop, Clos c sz cnt S ∧ S p
theorem RepOK_mono {c : Nat → Int} {sz q : Int} {S S2 : Int → Prop} (h : ∀ x, S x → S2 x) (H : RepOK c sz S q) : RepOK c sz S2 q := ⟨H.1, H.2.1, H.2.2.1, h _ H.2.2.2.1, h _ H.2.2.2.2⟩
theorem ActOK_mono {c : Nat → Int} {sz cnt p : Int} {S S2 : Int → Prop} (h : ∀ x, S x → S2 x) (H : ActOK c sz cnt S p) : ActOK c sz cnt S2 p := by
  rcases H with ⟨a, b, q⟩ | ⟨a, q⟩ | ⟨a, b, q⟩ | ⟨a, b, q, e1, e2, t1, t2, t3⟩ | ⟨a, b, e, t1, t2, t3⟩
  · exact Or.inl ⟨a, b, h _ q⟩
  · exact Or.inr (Or.inl ⟨a, RepOK_mono h q⟩)
  · exact Or.inr (Or.inr (Or.inl ⟨a, b, RepOK_mono h q⟩))
  · exact Or.inr (Or.inr (Or.inr (Or.inl ⟨a, b, h _ q, e1, e2, t1, t2, h _ t3⟩)))
  · exact Or.inr (Or.inr (Or.inr (Or.inr ⟨a, b, e, t1, t2, h _ t3⟩)))
theorem Okp_box {c : Nat → Int} {sz cnt p : Int} (H : Okp c sz cnt p) : 0 ≤ p ∧ p ≤ sz := by
  obtain ⟨S, hS, hp⟩ := H
  exact ⟨(hS p hp).1, (hS p hp).2.1⟩
theorem Okp_act {c : Nat → Int} {sz cnt p : Int} (H : Okp c sz cnt p) (h : p < sz) : ActOK c sz cnt (Okp c sz cnt) p := by
  obtain ⟨S, hS, hp⟩ := H
  exact ActOK_mono (fun x hx => ⟨S, hS, hx⟩) ((hS p hp).2.2 h)
def RepG (c : Nat → Int) (sz cnt q : Int) : Prop := RepOK c sz (Okp c sz cnt) q
def WhG (c : Nat → Int) (sz cnt p : Int) : Prop := 0 ≤ p ∧ p + 3 ≤ sz ∧ Okp c sz cnt (c (p + 2).toNat) ∧ ∃ e1 e2, TkOK c sz (p + 3) e1 ∧ TkOK c sz e1 e2 ∧ Okp c sz cnt e2
def StG (c : Nat → Int) (sz cnt p : Int) : Prop := 0 ≤ p ∧ p + 3 ≤ sz ∧ ∃ e, PthOK c sz (p + 3) (c (p + 2).toNat) ∧ VlOK c sz cnt (c (p + 2).toNat) e ∧ Okp c sz cnt e
def OkF (c : Nat → Int) (sz cnt f p : Int) : Prop := ¬ f = 0 ∨ Okp c sz cnt p
theorem OkF_get {c : Nat → Int} {sz cnt f p : Int} (H : OkF c sz cnt f p) (h : f = 0) : Okp c sz cnt p := H.elim (fun q => absurd h q) id
theorem Okp_1 {c : Nat → Int} {sz cnt p x : Int} (H : Okp c sz cnt p) (h : p < sz) (hx : x = c p.toNat) (h1 : x = 1) : p + 2 ≤ sz ∧ Okp c sz cnt (p + 2) := by
  have hb := Okp_box H
  rcases Okp_act H h with ⟨a, b, q⟩ | ⟨a, q⟩ | ⟨a, b, q⟩ | ⟨a, b, q⟩ | ⟨a, b, q⟩
  · exact ⟨b, q⟩
  all_goals omega
theorem Okp_2 {c : Nat → Int} {sz cnt p x : Int} (H : Okp c sz cnt p) (h : p < sz) (hx : x = c p.toNat) (h1 : x = 2) : RepG c sz cnt p := by
  rcases Okp_act H h with ⟨a, b, q⟩ | ⟨a, q⟩ | ⟨a, b, q⟩ | ⟨a, b, q⟩ | ⟨a, b, q⟩
  · omega
  · exact q
  all_goals omega
theorem Okp_3 {c : Nat → Int} {sz cnt p x : Int} (H : Okp c sz cnt p) (h : p < sz) (hx : x = c p.toNat) (h1 : x = 3) : p + 2 ≤ sz ∧ RepG c sz cnt (c (p + 1).toNat) := by
  rcases Okp_act H h with ⟨a, b, q⟩ | ⟨a, q⟩ | ⟨a, b, q⟩ | ⟨a, b, q⟩ | ⟨a, b, q⟩
  · omega
  · omega
  · exact ⟨b, q⟩
  all_goals omega
theorem Okp_4 {c : Nat → Int} {sz cnt p x : Int} (H : Okp c sz cnt p) (h : p < sz) (hx : x = c p.toNat) (h1 : x = 4) : WhG c sz cnt p := by
  have hb := Okp_box H
  rcases Okp_act H h with ⟨a, b, q⟩ | ⟨a, q⟩ | ⟨a, b, q⟩ | ⟨a, b, q⟩ | ⟨a, b, q⟩
  · omega
  · omega
  · omega
  · exact ⟨hb.1, b, q⟩
  · omega
theorem Okp_0 {c : Nat → Int} {sz cnt p x : Int} (H : Okp c sz cnt p) (h : p < sz) (hx : x = c p.toNat) (h1 : x < 1 ∨ 4 < x) : StG c sz cnt p := by
  have hb := Okp_box H
  rcases Okp_act H h with ⟨a, b, q⟩ | ⟨a, q⟩ | ⟨a, b, q⟩ | ⟨a, b, q⟩ | ⟨a, b, q⟩
  · omega
  · omega
  · omega
  · omega
  · exact ⟨hb.1, b, q⟩
def LocA (h : Nat → Int) (lim w f a : Int) : Prop := ¬ f = 0 ∨ (-8 ≤ a ∧ a < 0) ∨ (lim ≤ a ∧ a < w ∧ h (a + 8).toNat < 5096)
theorem LocA_0 {h : Nat → Int} {lim w f a : Int} (H : LocA h lim w f a) (hf : f = 0) : (-8 ≤ a ∧ a < 0) ∨ (lim ≤ a ∧ a < w ∧ h (a + 8).toNat < 5096) := H.elim (fun q => absurd hf q) id
theorem LocA_pl {cnt : Int} {fl h : Nat → Int} {lim w a x : Int} (H : VM cnt fl h lim w) (L : (-8 ≤ a ∧ a < 0) ∨ (lim ≤ a ∧ a < w ∧ h (a + 8).toNat < 5096)) (hx : x = h (a + 8).toNat) : Pl lim w x := by
  rcases L with ⟨q1, q2⟩ | ⟨q1, q2, q3⟩
  · exact VM_reg H q1 q2 hx
  · exact VM_word H q1 q2 hx (by omega)
theorem PthOK_f {c : Nat → Int} {sz a e n x i : Int} (H : PthOK c sz a e) (n0 : 0 ≤ n) (n1 : n < c (a + 1).toNat) (hx : x = c i.toNat) (hi : i = a + 2 + n) : 0 ≤ x ∧ x ≤ 999 := by
  subst hi
  rw [hx]; exact H.2.2.2.2.2 n n0 n1
def TkR (c : Nat → Int) (lim w cnt f a at2 e z : Int) : Prop := ¬ f = 0 ∨ (at2 = e ∧ ((c a.toNat = 1 ∧ 0 ≤ z ∧ z < cnt) ∨ (¬ c a.toNat = 1 ∧ Pl lim w z)))
theorem TkR_get {c : Nat → Int} {lim w cnt f a at2 e z : Int} (H : TkR c lim w cnt f a at2 e z) (hf : f = 0) : at2 = e ∧ ((c a.toNat = 1 ∧ 0 ≤ z ∧ z < cnt) ∨ (¬ c a.toNat = 1 ∧ Pl lim w z)) := H.elim (fun q => absurd hf q) id
theorem Vl_const {c : Nat → Int} {sz cnt a e x y lim w f i : Int} (H : VlOK c sz cnt a e) (hx : x = c a.toNat) (h2 : ¬ x = 2) (hy : y = c i.toNat) (hi : i = a + 1) : e = a + 2 ∧ e ≤ sz ∧ TkR c lim w cnt f a (a + 2) e y := by
  subst hi
  rcases H with ⟨h0, ⟨q1, q2, q3, q4⟩ | ⟨q1, _⟩⟩ | ⟨h0, q1, q2, q3, q4, q5⟩
  · refine ⟨q2, q3, Or.inr ⟨q2.symm, Or.inr ⟨by omega, ?_⟩⟩⟩
    unfold Pl
    omega
  · omega
  · exact ⟨q2, q3, Or.inr ⟨q2.symm, Or.inl ⟨q1, by omega, by omega⟩⟩⟩
theorem Vl_path {c : Nat → Int} {sz cnt a e x : Int} (H : VlOK c sz cnt a e) (hx : x = c a.toNat) (h2 : x = 2) : ∃ e1, PthOK c sz (a + 1) e1 ∧ e = e1 + 2 ∧ e ≤ sz ∧ -999 ≤ c (e1 + 1).toNat ∧ c (e1 + 1).toNat ≤ 999 := by
  rcases H with ⟨h0, ⟨q1, q2⟩ | ⟨q1, q2⟩⟩ | ⟨h0, q1, q2⟩
  · omega
  · exact q2
  · omega
theorem VlOK_box {c : Nat → Int} {sz cnt a e : Int} (H : VlOK c sz cnt a e) : 0 ≤ a ∧ a + 2 ≤ sz ∧ 0 ≤ e ∧ e ≤ sz := by
  rcases H with ⟨h0, ⟨q1, q2, q3, q4⟩ | ⟨q1, e1, ⟨p1, p2, p3, p4, p5, p6⟩, q2, q3, _⟩⟩ | ⟨h0, q1, q2, q3, q4, q5⟩ <;> omega
theorem PthOK_box {c : Nat → Int} {sz a e : Int} (H : PthOK c sz a e) : 0 ≤ a ∧ a + 2 ≤ e ∧ e ≤ sz ∧ 0 ≤ c a.toNat ∧ c a.toNat ≤ 7 ∧ 0 ≤ c (a + 1).toNat ∧ c (a + 1).toNat ≤ 6 ∧ e = a + 2 + c (a + 1).toNat := by
  obtain ⟨p1, p2, p3, p4, p5, p6⟩ := H
  omega
def PlF (lim w f z : Int) : Prop := ¬ f = 0 ∨ Pl lim w z
theorem PlF_get {lim w f z : Int} (H : PlF lim w f z) (h : f = 0) : Pl lim w z := H.elim (fun q => absurd h q) id
