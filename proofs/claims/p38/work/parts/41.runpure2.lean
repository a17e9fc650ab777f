theorem TkR_pf {c : Nat → Int} {lim w cnt f a at2 e z x : Int} (H : PlF lim w f z) (he : f = 0 → at2 = e) (hx : x = c a.toNat) (h1 : ¬ x = 1) : TkR c lim w cnt f a at2 e z := by
  rcases H with q | q
  · exact Or.inl q
  · by_cases h : f = 0
    · exact Or.inr ⟨he h, Or.inr ⟨by omega, q⟩⟩
    · exact Or.inl h
theorem StG_get {c : Nat → Int} {sz cnt p x : Int} (H : StG c sz cnt p) (hx : x = c (p + 2).toNat) : ∃ e, PthOK c sz (p + 3) x ∧ VlOK c sz cnt x e ∧ Okp c sz cnt e := by
  obtain ⟨h0, h1, e, h2, h3, h4⟩ := H
  rw [← hx] at h2 h3
  exact ⟨e, h2, h3, h4⟩
theorem OkF_at {c : Nat → Int} {sz cnt f p e : Int} (H : Okp c sz cnt e) (h : p = e) : OkF c sz cnt f p := by
  subst h
  exact Or.inr H
theorem TkOK_vl {c : Nat → Int} {sz cnt a a2 e : Int} (H : TkOK c sz a e) (h : a2 = a) : VlOK c sz cnt a2 e := by
  subst h
  exact Or.inl H
theorem PthOK_to {c : Nat → Int} {sz a a2 e : Int} (H : PthOK c sz a e) (h : a2 = a) : PthOK c sz a2 e := by
  subst h
  exact H
theorem TkR_made {c : Nat → Int} {lim w cnt f a at2 e z x : Int} (H : TkR c lim w cnt f a at2 e z) (hf : f = 0) (hx : x = c a.toNat) (h1 : x = 1) : at2 = e ∧ 0 ≤ z ∧ z < cnt := by
  rcases TkR_get H hf with ⟨q, ⟨_, q1, q2⟩ | ⟨q1, _⟩⟩
  · exact ⟨q, q1, q2⟩
  · omega
theorem TkR_val {c : Nat → Int} {lim w cnt f a at2 e z x : Int} (H : TkR c lim w cnt f a at2 e z) (hf : f = 0) (hx : x = c a.toNat) (h1 : ¬ x = 1) : at2 = e ∧ Pl lim w z := by
  rcases TkR_get H hf with ⟨q, ⟨q1, _⟩ | ⟨_, q1⟩⟩
  · omega
  · exact ⟨q, q1⟩
