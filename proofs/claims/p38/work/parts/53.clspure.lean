section ZI
variable {p : Program} {l : Launch} {e : Env} {R : Room} {s : State} {m : MethodId} {args : Array Value} {below : List Frame} {meth : Method} {c : Code} {H : Heap} {locs : List Loc} {cells slots : Nat} {Q : State → Prop}
variable {cc : ByteArray} {pc : Nat} {ls : Array Slot} {rest : List Value}
theorem zv_idivA (hexec : p.tables.exec = Jvm.exec) (hb : c.code = cc) {x k : Int} (hk : 1 ≤ k ∧ k ≤ 2147483647) (hdg : decode cc pc = .ok (.idiv, 1)) (kk : ∀ y : Int, -2147483648 ≤ y → y ≤ 2147483647 → W p l e R s m args below meth c H locs cells slots Q (F0 m (pc + 1) ls (.int (iZ y) :: rest))) : W p l e R s m args below meth c H locs cells slots Q (F0 m pc ls (.int (iZ k) :: .int (iZ x) :: rest)) := by
  refine lv_idiv hexec hb hdg (fun h => ?_) ?_
  · have h2 := (iZ_eq (a := k) (b := 0) ⟨by omega, hk.2⟩ (by decide)).mp h
    omega
  · exact zv_any kk
end ZI
def LvF (h b fi o fr far : Nat → Int) (lim w cnt a z : Int) : Prop := z = 0 ∨ (SvOK h b fi o fr far lim w cnt ∧ LvW b fi a)
theorem LvF_mk {h b fi o fr far : Nat → Int} {lim w cnt a z : Int} (H : SvOK h b fi o fr far lim w cnt) (I : IsL b fi a z) : LvF h b fi o fr far lim w cnt a z := by
  rcases I with ⟨_, q⟩ | ⟨q, _⟩
  · exact Or.inr ⟨H, q⟩
  · exact Or.inl q
theorem LvF_get {h b fi o fr far : Nat → Int} {lim w cnt a z : Int} (H : LvF h b fi o fr far lim w cnt a z) (hz : ¬ z = 0) : SvOK h b fi o fr far lim w cnt ∧ LvW b fi a := H.elim (fun q => absurd q hz) id
def FaR (b fi : Nat → Int) (a z : Int) : Prop := z = fi (b a.toNat).toNat
theorem FaR_mk {b fi : Nat → Int} {a x y : Int} (hx : x = b a.toNat) (hy : y = fi x.toNat) : FaR b fi a y := by
  subst hx
  exact hy
theorem FaR_in {h b fi o fr far : Nat → Int} {lim w cnt a z : Int} (H : SvOK h b fi o fr far lim w cnt ∧ LvW b fi a) (R : FaR b fi a z) (h0 : 0 ≤ a) (h1 : a < 160) (hl : 0 ≤ lim) (hw : w ≤ 160) : 0 ≤ z ∧ z < cnt := by
  obtain ⟨⟨s1, s2, s3, s4⟩, l1, l2⟩ := H
  have q1 := s1 a h0 h1
  have e1 : aI b a = b a.toNat := rfl
  rcases q1 with q1 | q1
  · omega
  · have q2 := s3 (b a.toNat) (by omega) (by omega)
    have e2 : aI fi (aI b a) = fi (b a.toNat).toNat := rfl
    unfold FaR at R
    omega
theorem LvW_b {b fi : Nat → Int} {a : Int} (H : LvW b fi a) : ¬ b a.toNat = -1 := H.1
theorem RdR_get {cnt : Int} {fl h : Nat → Int} {lim w z : Int} (H : RdR cnt fl h lim w z) (hz : ¬ z = 0) : VM cnt fl h lim w ∧ HBa h := H.elim (fun q => absurd q hz) id
theorem HtR_get {cnt : Int} {fl h : Nat → Int} {lim w z : Int} (H : HtR cnt fl h lim w z) (hz : ¬ z = 0) : VM cnt fl h lim w ∧ KOK cnt fl := H.elim (fun q => absurd q hz) id
