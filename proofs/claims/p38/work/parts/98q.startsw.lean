set_option maxRecDepth 100000 in
set_option maxHeartbeats 4000000 in
theorem st_sw {b : Nat} {s : State} {A : Nat → Prop} (hts0 : ∀ w ∈ lw_tbl, w.before #[Value.ref b] s = true) (hgv : (Jvm.Cond.and given_1 narrow_1).before #[Value.ref b] s = true) (hA : ∀ a : Nat, a < s.heap.size → ¬ A a) : SWs A s s.heap := by
  have hs := flat_of_before _ hgv
  have h1 : (Cond.exactly (Term.string RX10 64) "java/lang/String").before #[Value.ref b] s = true := hs _ (by decide +kernel)
  have h2 : (Cond.eq (.field (Term.string RX10 64) "java/lang/String" "code\x72" "B") (.int 0)).before #[Value.ref b] s = true := hs _ (by decide +kernel)
  have h3 : (Cond.arrayOf (.field (Term.string RX10 64) "java/lang/String" "value" "[B") .byte).before #[Value.ref b] s = true := hs _ (by decide +kernel)
  have h4 : (Cond.eq (.length (.field (Term.string RX10 64) "java/lang/String" "value" "[B")) (.int (Int32.ofNat 70))).before #[Value.ref b] s = true := hs _ (by decide +kernel)
  have h5 : ∀ j : Fin 70, (Cond.eq (.elem (.field (Term.string RX10 64) "java/lang/String" "value" "[B") (.int (Int32.ofNat j.val))) (.int (owB.getD j.val 0))).before #[Value.ref b] s = true := fun j => hs _ (by revert j; decide +kernel)
  have h6 : (Cond.eq (Term.static "java/lang/String" "COMPACT_STRINGS" "Z") (.int 1)).before #[Value.ref b] s = true := hs _ (by decide +kernel)
  have h7 : (Cond.isRef (Term.static "jdk/internal/util/Preconditions" "SIOOBE_FORMATTER" "Ljava/util/function/BiFunction;")).before #[Value.ref b] s = true := hs _ (by decide +kernel)
  have t1 : (Cond.fieldLink RJ0 38 "java/lang/String" "COMPACT_STRINGS" "Z").before #[Value.ref b] s = true := hts0 _ (by decide +kernel)
  have t2 : (Cond.fieldLink RJ0 1053 "jdk/internal/util/Preconditions" "SIOOBE_FORMATTER" "Ljava/util/function/BiFunction;").before #[Value.ref b] s = true := hts0 _ (by decide +kernel)
  have t3 : (Cond.laysStatic "java/lang/String" "COMPACT_STRINGS" "Z").before #[Value.ref b] s = true := hts0 _ (by decide +kernel)
  have t4 : (Cond.laysStatic "jdk/internal/util/Preconditions" "SIOOBE_FORMATTER" "Ljava/util/function/BiFunction;").before #[Value.ref b] s = true := hts0 _ (by decide +kernel)
  have t5 : (Cond.initialized "java/lang/String").before #[Value.ref b] s = true := hts0 _ (by decide +kernel)
  have t6 : (Cond.initialized "jdk/internal/util/Preconditions").before #[Value.ref b] s = true := hts0 _ (by decide +kernel)
  have t7 : (Cond.stringRef RX10 64 "heap kind cell set root method num ref weak nil new slide repeat when ").before #[Value.ref b] s = true := hts0 _ (by decide +kernel)
  obtain ⟨aK, aV, hS, hE⟩ := vk_Sof (args := #[Value.ref b]) (s := s) (N := 1) (tm := fun _ => Term.string RX10 64) (len := [70]) (byt := [owB]) (A := A) (fun i hi => by
    have e : i = 0 := by omega
    subst e; decide) (fun _ _ => h1) (fun _ _ => h2) (fun _ _ => h3) (fun i hi => by
    have e : i = 0 := by omega
    subst e; exact h4) (fun i hi j hj => by
    have e : i = 0 := by omega
    subst e; exact h5 ⟨j, hj⟩) (fun i j hi hj hne => absurd (by omega : i = j) hne) hA
  obtain ⟨g1, g2, g3, g4⟩ := hS.1 0 (Nat.le_refl 1)
  exact ⟨aK 0, aV 0, va_Nw.of rfl t1, va_Nw.of rfl t2, vk_R.of t7 (hE 0 (Nat.le_refl 1)), g1, g2, g3, g4, va_Zof t3 t5 (va_eqt h6) hA, va_Zqof t4 t6 h7 hA⟩
