def owB : List Int32 := [104, 101, 97, 112, 32, 107, 105, 110, 100, 32, 99, 101, 108, 108, 32, 115, 101, 116, 32, 114, 111, 111, 116, 32, 109, 101, 116, 104, 111, 100, 32, 110, 117, 109, 32, 114, 101, 102, 32, 119, 101, 97, 107, 32, 110, 105, 108, 32, 110, 101, 119, 32, 115, 108, 105, 100, 101, 32, 114, 101, 112, 101, 97, 116, 32, 119, 104, 101, 110, 32]
def owL : List Int := [104, 101, 97, 112, 32, 107, 105, 110, 100, 32, 99, 101, 108, 108, 32, 115, 101, 116, 32, 114, 111, 111, 116, 32, 109, 101, 116, 104, 111, 100, 32, 110, 117, 109, 32, 114, 101, 102, 32, 119, 101, 97, 107, 32, 110, 105, 108, 32, 110, 101, 119, 32, 115, 108, 105, 100, 101, 32, 114, 101, 112, 101, 97, 116, 32, 119, 104, 101, 110, 32]
def owZ (i : Int) : Int := owL.getD i.toNat 0
def owC : Nat → Int
  | 0 => 0
  | n + 1 => owC n + (if owL.getD n 0 = 32 then 1 else 0)
def SWa (a v : Nat) (A : Nat → Prop) (U : State) (H : Heap) : Prop := va_Nw (Cond.fieldLink RJ0 38 "java/lang/String" "COMPACT_STRINGS" "Z") U ∧ va_Nw (Cond.fieldLink RJ0 1053 "jdk/internal/util/Preconditions" "SIOOBE_FORMATTER" "Ljava/util/function/BiFunction;") U ∧ vk_R RX10 64 "heap kind cell set root method num ref weak nil new slide repeat when " a U ∧ va_O "java/lang/String" a A U H ∧ va_OF "java/lang/String" "code\x72" "B" (.int 0) a A U H ∧ va_OF "java/lang/String" "value" "[B" (.ref v) a A U H ∧ va_T .byte v 70 (fun j => .int (owB.getD j 0)) A U H ∧ va_Z "java/lang/String" "COMPACT_STRINGS" "Z" (.int 1) A U H ∧ va_Zq "jdk/internal/util/Preconditions" "SIOOBE_FORMATTER" "Ljava/util/function/BiFunction;" A U H
theorem SWa.same {a v : Nat} {A : Nat → Prop} {u U : State} {H : Heap} (h : u.vm = U.vm) (hZ : SWa a v A u H) : SWa a v A U H := by
  obtain ⟨h1, h2, h3, h4, h5, h6, h7, h8, h9⟩ := hZ
  have ha : u.vm.Alike U.vm := by rw [h]; exact Vm.Alike.refl U.vm
  refine ⟨va_Nw.same rfl h h1, va_Nw.same rfl h h2, vk_R.same h.symm h3, ?_, va_OF.moved ha h5, va_OF.moved ha h6, va_T.moved ha h7, va_Z.moved ha h8, va_Zq.moved ha h9⟩
  exact va_O.moved ha h4
theorem SWa.warm {a v : Nat} {A : Nat → Prop} {s U : State} {H : Heap} (hW : s.WarmedH U.vm) (hZ : SWa a v A s H) : SWa a v A U H := by
  obtain ⟨h1, h2, h3, h4, h5, h6, h7, h8, h9⟩ := hZ
  exact ⟨word_at hW (Or.inl rfl) h1, word_at hW (Or.inl rfl) h2, vk_R.warm hW h3, va_O.moved hW.alike h4, va_OF.moved hW.alike h5, va_OF.moved hW.alike h6, va_T.moved hW.alike h7, va_Z.moved hW.alike h8, va_Zq.moved hW.alike h9⟩
theorem SWa.kept {a v : Nat} {A : Nat → Prop} {U : State} {H H1 : Heap} (h : SWa a v A U H) (hq : ∀ a : Nat, a < H.size → ¬ A a → H1[a]? = H[a]?) : SWa a v A U H1 := ⟨h.1, h.2.1, h.2.2.1, h.2.2.2.1.kept hq, h.2.2.2.2.1.kept hq, h.2.2.2.2.2.1.kept hq, h.2.2.2.2.2.2.1.kept hq, h.2.2.2.2.2.2.2.1.kept hq, h.2.2.2.2.2.2.2.2.kept hq⟩
theorem SWa.narrow {a v : Nat} {A B : Nat → Prop} {U : State} {H : Heap} (h : SWa a v A U H) (hAB : ∀ q, B q → A q) : SWa a v B U H := ⟨h.1, h.2.1, h.2.2.1, h.2.2.2.1.narrow hAB, h.2.2.2.2.1.narrow hAB, h.2.2.2.2.2.1.narrow hAB, h.2.2.2.2.2.2.1.narrow hAB, h.2.2.2.2.2.2.2.1.narrow hAB, h.2.2.2.2.2.2.2.2.narrow hAB⟩
theorem SWa.recv {a v : Nat} {A : Nat → Prop} {s : State} {H : Heap} {locs : List Loc} (h : SWa a v A s s.heap) (hS : va_S A s.heap H locs) : ∃ cell : Cell, H[a]? = some cell ∧ cell.vm.isStatics = false ∧ s.vm.findClass "java/lang/String" = some cell.cls := by
  obtain ⟨cell, h1, h2, h3, -⟩ := h.2.2.2.1.kept hS.2.1
  exact ⟨cell, h1, h2, h3⟩
def SWs (A : Nat → Prop) (U : State) (H : Heap) : Prop := ∃ a v : Nat, SWa a v A U H
theorem SWs.same {A : Nat → Prop} {u U : State} {H : Heap} (h : u.vm = U.vm) (hZ : SWs A u H) : SWs A U H := ⟨hZ.choose, hZ.choose_spec.choose, hZ.choose_spec.choose_spec.same h⟩
theorem SWs.warm {A : Nat → Prop} {s U : State} {H : Heap} (hW : s.WarmedH U.vm) (hZ : SWs A s H) : SWs A U H := ⟨hZ.choose, hZ.choose_spec.choose, hZ.choose_spec.choose_spec.warm hW⟩
theorem SWs.kept {A : Nat → Prop} {U : State} {H H1 : Heap} (h : SWs A U H) (hq : ∀ a : Nat, a < H.size → ¬ A a → H1[a]? = H[a]?) : SWs A U H1 := ⟨h.choose, h.choose_spec.choose, h.choose_spec.choose_spec.kept hq⟩
theorem SWs.narrow {A B : Nat → Prop} {U : State} {H : Heap} (h : SWs A U H) (hAB : ∀ q, B q → A q) : SWs B U H := ⟨h.choose, h.choose_spec.choose, h.choose_spec.choose_spec.narrow hAB⟩
set_option maxRecDepth 100000 in
theorem ow_chr : ∀ j : Fin 70, ((owB.getD j.val 0 &&& (255 : Int32)).toUInt32 % 65536).toInt32 = iZ (owL.getD j.val 0) := by decide +kernel
set_option maxRecDepth 100000 in
theorem ow_in : ∀ j : Fin 70, 0 ≤ owL.getD j.val 0 ∧ owL.getD j.val 0 ≤ 255 := by decide +kernel
set_option maxRecDepth 100000 in
theorem ow_cnt : ∀ j : Fin 70, owL.getD j.val 0 = 32 → owC j.val ≤ 13 := by decide +kernel
theorem ow_at {i : Int} (h0 : 0 ≤ i) (h1 : i < 70) : ((owB.getD i.toNat 0 &&& (255 : Int32)).toUInt32 % 65536).toInt32 = iZ (owZ i) ∧ 0 ≤ owZ i ∧ owZ i ≤ 255 := ⟨ow_chr ⟨i.toNat, by omega⟩, (ow_in ⟨i.toNat, by omega⟩).1, (ow_in ⟨i.toNat, by omega⟩).2⟩
def OwI (i idx : Int) : Prop := 0 ≤ i ∧ i ≤ 70 ∧ idx = owC i.toNat
theorem OwI_init : OwI 0 0 := ⟨by omega, by omega, rfl⟩
theorem OwI_sp {i idx x : Int} (H : OwI i idx) (h1 : i < 70) (hx : x = owZ i) (h : x = 32) : idx ≤ 13 ∧ OwI (i + 1) (idx + 1) := by
  obtain ⟨a, b, c⟩ := H
  have e : (i + 1).toNat = i.toNat + 1 := by omega
  have h2 : owL.getD i.toNat 0 = 32 := hx.symm.trans h
  refine ⟨by rw [c]; exact ow_cnt ⟨i.toNat, by omega⟩ h2, by omega, by omega, ?_⟩
  rw [e, owC, if_pos h2, c]
theorem OwI_no {i idx x : Int} (H : OwI i idx) (h1 : i < 70) (hx : x = owZ i) (h : ¬ x = 32) : OwI (i + 1) idx := by
  obtain ⟨a, b, c⟩ := H
  have e : (i + 1).toNat = i.toNat + 1 := by omega
  have h2 : ¬ owL.getD i.toNat 0 = 32 := fun q => h (hx.trans q)
  refine ⟨by omega, by omega, ?_⟩
  rw [e, owC, if_neg h2, c]
  omega
theorem nar_c {z : Int} (h : 0 ≤ z ∧ z ≤ 65535) : narrow .char (.int (iZ z)) = .int (iZ z) := by
  have h1 := pk_nc (iZ z)
  rw [iZ_chr h] at h1
  exact h1
def FstL (g : Nat → Int) (a t n : Int) : Prop := t < a ∨ (a = t ∧ a < n ∧ ((97 ≤ g a.toNat ∧ g a.toNat ≤ 122) ∨ (65 ≤ g a.toNat ∧ g a.toNat ≤ 90)))
def NumI (g : Nat → Int) (a t n v : Int) : Prop := (a = t ∧ v = 0 ∧ a < n ∧ (48 ≤ g a.toNat ∧ g a.toNat ≤ 57)) ∨ (a = t + 1 ∧ 0 ≤ v ∧ v ≤ 9) ∨ (a = t + 2 ∧ 0 ≤ v ∧ v ≤ 99) ∨ (a = t + 3 ∧ 0 ≤ v ∧ v ≤ 999)
