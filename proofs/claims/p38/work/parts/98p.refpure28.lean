def z0 : Nat → Int := fun _ => 0
theorem z0_vm : VM 0 z0 z0 0 0 := by
  refine ⟨⟨by decide, by decide, by decide, by decide⟩, fun r h0 h1 => ?_, fun a h0 h1 => ?_, fun h => absurd h (by decide)⟩
  · show Pl 0 0 0
    unfold Pl; omega
  · omega
theorem z0_st : StOK 0 z0 z0 z0 0 0 0 0 0 0 0 := Or.inr ⟨rfl, z0_vm⟩
theorem z0_row : RowS z0 := fun x hx => by
  show WdOK 0 0
  unfold WdOK; omega
theorem z0_enc (j : Nat) : enc z0 j = 1000 := by
  unfold enc; simp [z0]
theorem z0_nw : NwI 0 z0 z0 z0 0 := by
  refine ⟨z0_row, ⟨⟨by decide, by decide, by decide, by decide⟩, fun r h0 h1 => ?_, fun a h0 h1 => ?_, fun h => absurd h (by decide)⟩, ⟨by decide, by decide, by decide⟩, fun h => absurd h (by decide)⟩
  · show Pl 0 0 (enc z0 _)
    rw [z0_enc]; unfold Pl; omega
  · exact absurd h1 (by have h0 : (0 : Int) ≤ a := h0; omega)
theorem z0_sr : SrN z0 z0 z0 0 := fun h k hf _ => by
  rw [z0_enc]; decide
theorem z0_ko : KoN 0 z0 := KOK_0 (by decide)
theorem z0_kp : KpU 0 z0 z0 0 z0 0 0 := fun i j h0 h1 _ _ _ => by omega
theorem z0_rw : RwI z0 0 := fun k h0 h1 => by omega
theorem z0_sd : SdI 1 := by unfold SdI; decide
theorem z0_b {lo hi : Int} {n : Nat} (h1 : lo ≤ 0) (h2 : 0 ≤ hi) : ∀ j : Nat, j < n → lo ≤ z0 j ∧ z0 j ≤ hi := fun _ _ => ⟨h1, h2⟩
theorem z0_h {n : Nat} : ∀ j : Nat, j < n → (0 ≤ z0 j ∧ z0 j ≤ 1999) ∨ (3047 ≤ z0 j ∧ z0 j ≤ 3207) ∨ (5096 ≤ z0 j ∧ z0 j ≤ 5101) ∨ (7136 ≤ z0 j ∧ z0 j ≤ 7303) := fun j hj => Or.inl (z0_b (by decide) (by decide) j hj)
theorem z0_aZ : aZ z0 = fun _ => 0 := funext fun _ => iZ_0
theorem z0_stB : StB 0 0 0 0 0 0 0 0 0 0 0 z0 z0 := ⟨⟨by decide, by decide, by decide, by decide, by decide, by decide, by decide, by decide, by decide, by decide, by decide⟩, z0_h, z0_b (by decide) (by decide)⟩
theorem z0_pool {kI : ClassId} {f : Nat → Option Nat} {Q : Nat → va_W} (h : ∀ i : Nat, i < 20 → ∃ a qh ql qk : Nat, Q i = stC a qh ql qk kI 0 0 0 0 0 0 0 0 0 0 0 z0 z0 z0 ∧ f i = some a) : PoolOK kI 0 z0 f 0 0 Q := fun i hi => by
  obtain ⟨a, qh, ql, qk, e1, e2⟩ := h i hi
  exact ⟨a, qh, ql, qk, 0, 0, 0, 0, 0, 0, 0, 0, 0, 0, 0, z0, z0, z0, e1, e2, z0_stB, fun _ => z0_st⟩
theorem ka_eq {D : va_G} {cl : List vw_C} {tys : List (ClassId × FieldType)} {U : State} {i j : Nat} {k1 k2 : ClassId} (hK : va_K D cl tys U) (hi : tys[i]? = some (k1, .int)) (hj : tys[j]? = some (k2, .int)) : k1 = k2 := Option.some.inj (((hK.2 i _ hi).2 : U.vm.findClass _ = some k1).symm.trans ((hK.2 j _ hj).2 : U.vm.findClass _ = some k2))
