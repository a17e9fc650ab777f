def Chn (M : Int → Int) (v : Int) : List Int → Int → Prop
  | [], a => M a = v
  | u :: L, a => M a = 7144 + u ∧ Chn M v L u
def Dm (x : Int) : Prop := -8 ≤ x ∧ x < 160
theorem Chn_move {M M' : Int → Int} {v : Int} : ∀ {L : List Int} {a b : Int}, Chn M v L a → M' b = M a → (∀ y ∈ L, M' y = M y) → Chn M' v L b
  | [], _, _, h, e, _ => Eq.trans e h
  | u :: L, _, _, h, e, hy => ⟨Eq.trans e h.1, Chn_move (L := L) h.2 (hy u List.mem_cons_self) (fun y hm => hy y (List.mem_cons_of_mem _ hm))⟩
theorem Chn_det {M : Int → Int} {v v' : Int} : ∀ {L L' : List Int} {a : Int}, Chn M v L a → Chn M v' L' a → v < 7136 → v' < 7136 → (∀ y ∈ L, -8 ≤ y) → (∀ y ∈ L', -8 ≤ y) → L = L' ∧ v = v'
  | [], [], _, h, h', _, _, _, _ => ⟨rfl, Eq.trans (Eq.symm h) h'⟩
  | [], u :: L', _, h, h', hv, _, _, hy' => by
    have h1 : M _ = v := h
    have h2 := h'.1
    have h3 := hy' u List.mem_cons_self
    omega
  | u :: L, [], _, h, h', _, hv', hy, _ => by
    have h1 : M _ = v' := h'
    have h2 := h.1
    have h3 := hy u List.mem_cons_self
    omega
  | u :: L, u' :: L', a, h, h', hv, hv', hy, hy' => by
    have e : u = u' := by
      have h1 := h.1
      have h2 := h'.1
      omega
    subst e
    have h3 := Chn_det (L := L) (L' := L') h.2 h'.2 hv hv' (fun y hm => hy y (List.mem_cons_of_mem _ hm)) (fun y hm => hy' y (List.mem_cons_of_mem _ hm))
    exact ⟨by rw [h3.1], h3.2⟩
def ChG (M : Int → Int) (v : Int) (L : List Int) (t : Int) : Prop := Chn M v L t ∧ L.Nodup ∧ t ∉ L ∧ (∀ y ∈ L, Dm y) ∧ v < 7136
theorem ChG_len {M : Int → Int} {v t : Int} {L : List Int} (h : ChG M v L t) : L.length ≤ 168 := by
  have h1 : (L.map (fun y => (y + 8).toNat)).Nodup := by
    rw [List.nodup_iff_pairwise_ne] at *
    have h2 : L.Pairwise (fun a b => a ≠ b) := by
      have h3 := h.2.1
      rw [List.nodup_iff_pairwise_ne] at h3
      exact h3
    rw [List.pairwise_map]
    refine List.Pairwise.imp_of_mem ?_ h2
    intro a b ha hb hne he
    have h4 := h.2.2.2.1 a ha
    have h5 := h.2.2.2.1 b hb
    unfold Dm at h4 h5
    omega
  have h6 : (L.map (fun y => (y + 8).toNat)) ⊆ List.range 168 := by
    intro x hx
    rw [List.mem_map] at hx
    obtain ⟨y, hy, rfl⟩ := hx
    have h7 := h.2.2.2.1 y hy
    unfold Dm at h7
    rw [List.mem_range]
    omega
  have h8 := List.Nodup.length_le_of_subset h1 h6
  rw [List.length_map, List.length_range] at h8
  exact h8
theorem ChG_tail {M M' : Int → Int} {v t u x : Int} {L : List Int} (h : ChG M v (u :: L) t) (h1 : M' t = M u) (h3 : ∀ y, Dm y → y ≠ t → y ≠ u → M' y = M y) : ChG M' v L t := by
  obtain ⟨a, b, c, d, e⟩ := h
  rw [List.nodup_cons] at b
  refine ⟨Chn_move a.2 h1 (fun y hy => h3 y (d y (List.mem_cons_of_mem _ hy)) (fun q => c (by rw [← q]; exact List.mem_cons_of_mem _ hy)) (fun q => b.1 (by rw [← q]; exact hy))), b.2, fun q => c (List.mem_cons_of_mem _ q), fun y hy => d y (List.mem_cons_of_mem _ hy), e⟩
def UnthR (M N : Int → Int) (t x : Int) : Prop := ∃ (L : List Int) (v : Int), ChG M v L t ∧ N t = v ∧ (∀ y ∈ L, N y = 3048 + x) ∧ (∀ y, Dm y → y ≠ t → y ∉ L → N y = M y)
def UnthI (M N : Int → Int) (t x n : Int) : Prop := ∃ (K L : List Int) (v : Int), ChG M v (K ++ L) t ∧ ChG N v L t ∧ (K.length : Int) = n ∧ (∀ y ∈ K, N y = 3048 + x) ∧ (∀ y, Dm y → y ≠ t → y ∉ K → N y = M y)
theorem UnthI_init {M : Int → Int} {t x v : Int} {L : List Int} (h : ChG M v L t) : UnthI M M t x 0 := ⟨[], L, v, h, h, rfl, fun y hy => absurd hy List.not_mem_nil, fun _ _ _ _ => rfl⟩
theorem UnthI_link {M N : Int → Int} {t x n : Int} (h : UnthI M N t x n) (hk : 7136 ≤ N t) : Dm (N t - 7144) ∧ N t - 7144 ≠ t := by
  obtain ⟨K, L, v, h1, h2, h3, h4, h5⟩ := h
  match L, h2 with
  | [], h2 =>
    have e : N t = v := h2.1
    have := h2.2.2.2.2
    omega
  | u :: L, h2 =>
    have e : N t = 7144 + u := h2.1.1
    have e2 : N t - 7144 = u := by omega
    rw [e2]
    exact ⟨h2.2.2.2.1 u List.mem_cons_self, fun q => h2.2.2.1 (by rw [← q]; exact List.mem_cons_self)⟩
theorem UnthI_step {M N N' : Int → Int} {t x n : Int} (h : UnthI M N t x n) (hk : 7136 ≤ N t) (e1 : N' t = N (N t - 7144)) (e2 : N' (N t - 7144) = 3048 + x) (e3 : ∀ y, Dm y → y ≠ t → y ≠ N t - 7144 → N' y = N y) : UnthI M N' t x (n + 1) := by
  obtain ⟨K, L, v, h1, h2, h3, h4, h5⟩ := h
  match L, h1, h2 with
  | [], h1, h2 =>
    have e : N t = v := h2.1
    have := h2.2.2.2.2
    omega
  | u :: L, h1, h2 =>
    have e : N t = 7144 + u := h2.1.1
    have eu : N t - 7144 = u := by omega
    rw [eu] at e1 e2 e3
    have hD := h2.2.2.2.1
    have hut : u ≠ t := fun q => h2.2.2.1 (by rw [← q]; exact List.mem_cons_self)
    refine ⟨K ++ [u], L, v, by rw [List.append_assoc]; exact h1, ChG_tail (x := x) h2 e1 e3, by rw [List.length_append]; simp; omega, ?_, ?_⟩
    · intro y hy
      rw [List.mem_append] at hy
      rcases hy with hy | hy
      · by_cases q : y = u
        · rw [q]; exact e2
        · have hnd := h1.2.1
          have hyt : y ≠ t := fun q => h1.2.2.1 (by rw [← q]; exact List.mem_append_left _ hy)
          rw [e3 y (h1.2.2.2.1 y (List.mem_append_left _ hy)) hyt q]
          exact h4 y hy
      · rw [List.mem_singleton] at hy
        rw [hy]; exact e2
    · intro y hd hyt hyn
      have hyu : y ≠ u := fun q => hyn (by rw [q]; exact List.mem_append_right _ List.mem_cons_self)
      rw [e3 y hd hyt hyu]
      exact h5 y hd hyt (fun q => hyn (List.mem_append_left _ q))
theorem UnthI_end {M N : Int → Int} {t x n : Int} (h : UnthI M N t x n) (hk : N t < 7136 ∨ 168 ≤ n) : UnthR M N t x := by
  obtain ⟨K, L, v, h1, h2, h3, h4, h5⟩ := h
  match L, h1, h2 with
  | [], h1, h2 => exact ⟨K, v, by rw [List.append_nil] at h1; exact h1, h2.1, h4, h5⟩
  | u :: L, h1, h2 =>
    have e : N t = 7144 + u := h2.1.1
    have h6 := h2.2.2.2.1 u List.mem_cons_self
    unfold Dm at h6
    have h7 := ChG_len h1
    rw [List.length_append, List.length_cons] at h7
    omega
def TInv (M V : Int → Int) (Ts Hs : Int → Prop) (Dn : Int → Int → Prop) (NP : Int → Int) : Prop := ∃ (ch : Int → List Int) (own : Int → Int), (∀ t, Ts t → ChG M (V t) (ch t) t ∧ ∀ x ∈ ch t, Hs x ∧ own x = t ∧ Dn x (3048 + NP t)) ∧ (∀ x, Hs x → Dn x (M x) ∨ (Ts (own x) ∧ x ∈ ch (own x)))
theorem T_frame {M N V : Int → Int} {Ts Hs : Int → Prop} {Dn : Int → Int → Prop} {NP : Int → Int} (h : TInv M V Ts Hs Dn NP) (e : ∀ x, Ts x ∨ Hs x → N x = M x) : TInv N V Ts Hs Dn NP := by
  obtain ⟨ch, own, h1, h2⟩ := h
  refine ⟨ch, own, fun t ht => ?_, fun x hx => ?_⟩
  · obtain ⟨⟨a, b, c, d, f⟩, g⟩ := h1 t ht
    exact ⟨⟨Chn_move a (e t (Or.inl ht)) (fun y hy => e y (Or.inr (g y hy).1)), b, c, d, f⟩, g⟩
  · rw [e x (Or.inr hx)]
    exact h2 x hx
theorem T_less {M V : Int → Int} {Ts Ts' Hs Hs' : Int → Prop} {Dn Dn' : Int → Int → Prop} {NP : Int → Int} (h : TInv M V Ts Hs Dn NP) (e : ∀ x, Ts x ↔ Ts' x) (f : ∀ x, Hs x ↔ Hs' x) (g : ∀ x v, Dn x v → Dn' x v) : TInv M V Ts' Hs' Dn' NP := by
  obtain ⟨ch, own, h1, h2⟩ := h
  exact ⟨ch, own, fun t ht => ⟨(h1 t ((e t).mpr ht)).1, fun x hx => ⟨(f x).mp ((h1 t ((e t).mpr ht)).2 x hx).1, ((h1 t ((e t).mpr ht)).2 x hx).2.1, g _ _ ((h1 t ((e t).mpr ht)).2 x hx).2.2⟩⟩, fun x hx => (h2 x ((f x).mpr hx)).elim (fun q => Or.inl (g _ _ q)) (fun q => Or.inr ⟨(e _).mp q.1, q.2⟩)⟩
theorem T_chain {M V : Int → Int} {Ts Hs : Int → Prop} {Dn : Int → Int → Prop} {NP : Int → Int} (h : TInv M V Ts Hs Dn NP) {t : Int} (ht : Ts t) : ∃ L, ChG M (V t) L t := by
  obtain ⟨ch, own, h1, h2⟩ := h
  exact ⟨ch t, (h1 t ht).1⟩
theorem T_unth {M N V : Int → Int} {Ts Hs : Int → Prop} {Dn : Int → Int → Prop} {NP : Int → Int} (h : TInv M V Ts Hs Dn NP) {t : Int} (ht : Ts t) (hdis : ∀ x, Hs x → ¬ Ts x) (hD : ∀ x, Ts x ∨ Hs x → Dm x) (hU : UnthR M N t (NP t)) : TInv N V (fun x => Ts x ∧ x ≠ t) Hs Dn NP ∧ N t = V t ∧ ∀ x, Dm x → ¬ Hs x → x ≠ t → N x = M x := by
  obtain ⟨ch, own, h1, h2⟩ := h
  obtain ⟨L, v, g1, g2, g3, g4⟩ := hU
  have k := h1 t ht
  have hdet := Chn_det g1.1 k.1.1 g1.2.2.2.2 k.1.2.2.2.2 (fun y hy => (g1.2.2.2.1 y hy).1) (fun y hy => (k.1.2.2.2.1 y hy).1)
  obtain ⟨eL, ev⟩ := hdet
  subst eL
  refine ⟨⟨ch, own, fun s hs => ?_, fun x hx => ?_⟩, by rw [g2, ev], fun x hd hx hxt => g4 x hd hxt (fun q => hx (k.2 x q).1)⟩
  · have q := h1 s hs.1
    have hout : ∀ y ∈ ch s, y ∉ ch t := fun y hy hy2 => hs.2 ((q.2 y hy).2.1.symm.trans (k.2 y hy2).2.1)
    have est : N s = M s := g4 s (hD s (Or.inl hs.1)) hs.2 (fun hy => hdis s (k.2 s hy).1 hs.1)
    refine ⟨⟨Chn_move q.1.1 est (fun y hy => g4 y (q.1.2.2.2.1 y hy) (fun e => hdis y (q.2 y hy).1 (by rw [e]; exact ht)) (hout y hy)), q.1.2⟩, q.2⟩
  · by_cases hm : x ∈ ch t
    · left
      rw [g3 x hm]
      exact (k.2 x hm).2.2
    · have hxt : x ≠ t := fun e => hdis x hx (by rw [e]; exact ht)
      rw [g4 x (hD x (Or.inr hx)) hxt hm]
      rcases h2 x hx with q | q
      · exact Or.inl q
      · right
        refine ⟨⟨q.1, fun e => hm ?_⟩, q.2⟩
        rw [← e]
        exact q.2
theorem T_thread {M N V : Int → Int} {Ts Hs : Int → Prop} {Dn : Int → Int → Prop} {NP : Int → Int} (h : TInv M V Ts Hs Dn NP) {w t : Int} (ht : Ts t) (hdis : ∀ x, Hs x → ¬ Ts x) (hD : ∀ x, Ts x ∨ Hs x → Dm x) (hw : Dm w) (hwH : ¬ Hs w) (hwT : ¬ Ts w) (hdn : Dn w (3048 + NP t)) (e1 : N w = M t) (e2 : N t = 7144 + w) (e3 : ∀ x, Dm x → x ≠ w → x ≠ t → N x = M x) : TInv N V Ts (fun x => Hs x ∨ x = w) Dn NP := by
  obtain ⟨ch, own, h1, h2⟩ := h
  have hwt : w ≠ t := fun e => hwT (by rw [e]; exact ht)
  refine ⟨fun s => if s = t then w :: ch t else ch s, fun x => if x = w then t else own x, fun s hs => ?_, fun x hx => ?_⟩
  · dsimp only
    by_cases e : s = t
    · subst e
      rw [if_pos rfl]
      obtain ⟨⟨a, b, c, d, f⟩, g⟩ := h1 s ht
      have hwn : w ∉ ch s := fun q => hwH (g w q).1
      refine ⟨⟨⟨e2, Chn_move a e1 (fun y hy => e3 y (d y hy) (fun q => hwn (by rw [← q]; exact hy)) (fun q => c (q ▸ hy)))⟩, ?_, ?_, ?_, f⟩, ?_⟩
      · rw [List.nodup_cons]
        exact ⟨hwn, b⟩
      · intro q
        rcases List.mem_cons.mp q with q | q
        · exact hwt q.symm
        · exact c q
      · intro y hy
        rcases List.mem_cons.mp hy with q | q
        · rw [q]; exact hw
        · exact d y q
      · intro x hx
        rcases List.mem_cons.mp hx with q | q
        · rw [q, if_pos rfl]
          exact ⟨Or.inr rfl, rfl, hdn⟩
        · have hxw : x ≠ w := fun z => hwn (by rw [← z]; exact q)
          rw [if_neg hxw]
          exact ⟨Or.inl (g x q).1, (g x q).2⟩
    · rw [if_neg e]
      obtain ⟨⟨a, b, c, d, f⟩, g⟩ := h1 s hs
      refine ⟨⟨Chn_move a (e3 s (hD s (Or.inl hs)) (fun q => hwT (by rw [← q]; exact hs)) e) (fun y hy => e3 y (d y hy) (fun q => hwH (by rw [← q]; exact (g y hy).1)) (fun q => hdis y (g y hy).1 (by rw [q]; exact ht))), b, c, d, f⟩, ?_⟩
      intro x hx
      have hxw : x ≠ w := fun z => hwH (by rw [← z]; exact (g x hx).1)
      rw [if_neg hxw]
      exact ⟨Or.inl (g x hx).1, (g x hx).2⟩
  · dsimp only
    by_cases e : x = w
    · right
      rw [if_pos e, if_pos rfl]
      exact ⟨ht, by rw [e]; exact List.mem_cons_self⟩
    · have hxH : Hs x := hx.elim id (fun q => absurd q e)
      rw [if_neg e, e3 x (hD x (Or.inr hxH)) e (fun q => hdis x hxH (by rw [q]; exact ht))]
      rcases h2 x hxH with q | q
      · exact Or.inl q
      · right
        refine ⟨q.1, ?_⟩
        by_cases e5 : own x = t
        · rw [if_pos e5]
          exact List.mem_cons_of_mem _ (by rw [← e5]; exact q.2)
        · rw [if_neg e5]
          exact q.2
theorem T_done {M V : Int → Int} {Ts Hs : Int → Prop} {Dn : Int → Int → Prop} {NP : Int → Int} (h : TInv M V Ts Hs Dn NP) {w : Int} (hdn : Dn w (M w)) : TInv M V Ts (fun x => Hs x ∨ x = w) Dn NP := by
  obtain ⟨ch, own, h1, h2⟩ := h
  refine ⟨ch, own, fun t ht => ⟨(h1 t ht).1, fun x hx => ⟨Or.inl ((h1 t ht).2 x hx).1, ((h1 t ht).2 x hx).2⟩⟩, fun x hx => ?_⟩
  rcases hx with hx | hx
  · exact h2 x hx
  · left
    rw [hx]
    exact hdn
