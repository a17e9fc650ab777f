theorem law_loop {p : Program} {l : Launch} {e : Env} {s : State} {m : MethodId} {below : List Frame} {meth : Method} {c : Code} {b : Nat} {A : Nat → Prop} {dC : Nat → ClassId} {dI : Nat → Nat → Nat} {a_x a_m : Nat} {L : Nat} {xs : Nat → Int32} (C1 : lw_C p s m meth c b L xs A) (hN : nwAll s) (hSW : SWs A s s.heap) (hL : L ≤ 3072) : ∀ (n : Nat) (i : Int), 0 ≤ i → i ≤ (L : Int) + 6 → (L : Int) - i + 6 ≤ (n : Int) → LwN p l e s m below meth c b A dC dI a_x a_m 18 i ∧ LwA p l e s m below meth c b A dC dI a_x a_m 18 i := by
  intro n
  induction n with
  | zero =>
    intro i h0 h1 h2
    exact ⟨law_nh C1 hN hSW ⟨h0, hL, h1⟩ (fun h => by omega) (fun h => by omega), law_ah C1 hN hSW ⟨h0, hL, h1⟩ (fun h => by omega)⟩
  | succ n ih =>
    intro i h0 h1 h2
    have key := fun h : i + 6 ≤ (L : Int) => ih (i + 6) (by omega) (by omega) (by omega)
    exact ⟨law_nh C1 hN hSW ⟨h0, hL, h1⟩ (fun h => law_nt C1 hN hSW ⟨h0, h, hL⟩ (key h).1) (fun h => law_at C1 hN hSW ⟨h0, h, hL⟩ (key h).2), law_ah C1 hN hSW ⟨h0, hL, h1⟩ (fun h => law_at C1 hN hSW ⟨h0, h, hL⟩ (key h).2)⟩
