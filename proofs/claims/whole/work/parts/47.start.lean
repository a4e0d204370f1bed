theorem ngL_in : ∀ w ∈ ngL, w ∈ lw_tbl := by decide +kernel
theorem know_K {s : State} {b : Nat} (hts : ∀ w ∈ wsL_law, w.before #[Value.ref b] s = true) (hover : (Cond.arrayOver (.array .int)).before #[Value.ref b] s = true) : ∃ (dC : Nat → ClassId) (dI : Nat → Nat → Nat) (cI cJ cO : ClassId), va_K (dC, dI) vwCl [(cI, .int), (cJ, .long), (cO, .array .int)] s := by
  obtain ⟨c0, i0, h0⟩ := u_known hts inlX0 (hts (.instantiable RX0 3) (by decide +kernel))
  obtain ⟨c2, i2, h2⟩ := u_known hts inlX2 (hts (.instantiable RX2 1) (by decide +kernel))
  obtain ⟨c3, i3, h3⟩ := u_known hts inlX3 (hts (.instantiable RX3 8) (by decide +kernel))
  obtain ⟨c4, i4, h4⟩ := u_known hts inlX4 (hts (.instantiable RX4 10) (by decide +kernel))
  obtain ⟨cI, kI, qI, fI, gI, eI⟩ := Cond.arrayClass_spec (hts (.arrayClass .int) (by decide +kernel))
  obtain ⟨cJ, kJ, qJ, fJ, gJ, eJ⟩ := Cond.arrayClass_spec (hts (.arrayClass .long) (by decide +kernel))
  obtain ⟨qO, cO, kO, a1, a2, a3, a4, a5⟩ := arrayOverA_spec hover
  refine ⟨fun n => match n with | 0 => c0 | 1 => c2 | 2 => c3 | _ => c4, fun n => match n with | 0 => i0 | 1 => i2 | 2 => i3 | _ => i4, cI, cJ, cO, fun c9 q hq => ?_, fun k9 q hq => ?_⟩
  · match c9, hq with
    | 0, hq => obtain rfl := Option.some.inj hq; exact h0
    | 1, hq => obtain rfl := Option.some.inj hq; exact h2
    | 2, hq => obtain rfl := Option.some.inj hq; exact h3
    | 3, hq => obtain rfl := Option.some.inj hq; exact h4
    | n + 4, hq => exact absurd (List.getElem?_eq_some_iff.mp hq).1 (by show ¬ n + 4 < 4; omega)
  · match k9, hq with
    | 0, hq => obtain rfl := Option.some.inj hq; exact ⟨fun n z => ⟨fun k h => (by cases h), kI, gI, qI, eI⟩, fI⟩
    | 1, hq => obtain rfl := Option.some.inj hq; exact ⟨fun n z => ⟨fun k h => (by cases h), kJ, gJ, qJ, eJ⟩, fJ⟩
    | 2, hq => obtain rfl := Option.some.inj hq; exact ⟨fun n z => ⟨fun k h => (by cases h), kO, a3, qO, a4⟩, a5⟩
    | n + 3, hq => exact absurd (List.getElem?_eq_some_iff.mp hq).1 (by show ¬ n + 3 < 3; omega)
theorem know_amb {s : State} {b : Nat} {A : Nat → Prop} (hts : ∀ w ∈ lw_tbl, w.before #[Value.ref b] s = true) (hfl : ∀ w ∈ flatC (Jvm.Cond.and given_1 narrow_1), w.before #[Value.ref b] s = true) (hover : (Cond.arrayOver (.array .int)).before #[Value.ref b] s = true) (hAn : ∀ a : Nat, a < s.heap.size → ¬ A a) : ∃ (tP : Nat) (sa : Nat → Nat), amb tP sa A s s.heap := by
  obtain ⟨tP, htP, hT⟩ := va_Tof (tm := (.static "ThreePrimes" "PRIMES" "[I")) (ty := .int) (N := 3) (f := prV) (A := A) (by decide) (hfl _ (by decide +kernel)) (va_eqt (z := 3) (hfl (.eq (.length (.static "ThreePrimes" "PRIMES" "[I")) (.int 3)) (by decide +kernel))) (fun j hj => match j, hj with
    | 0, _ => va_eqt (z := 998244353) (hfl (.eq (.elem (.static "ThreePrimes" "PRIMES" "[I") (.int 0)) (.int 998244353)) (by decide +kernel))
    | 1, _ => va_eqt (z := 167772161) (hfl (.eq (.elem (.static "ThreePrimes" "PRIMES" "[I") (.int 1)) (.int 167772161)) (by decide +kernel))
    | 2, _ => va_eqt (z := 469762049) (hfl (.eq (.elem (.static "ThreePrimes" "PRIMES" "[I") (.int 2)) (.int 469762049)) (by decide +kernel))
    | n + 3, hj => absurd hj (by omega)) hAn
  have hZ := va_Zof (A := A) (hts (.laysStatic "ThreePrimes" "PRIMES" "[I") (by decide +kernel)) (hts (.initialized "ThreePrimes") (by decide +kernel)) htP hAn
  have hU : vx_Zq Bundle.tN "UNASSIGNED_STACK" Bundle.steD A s s.heap := vx_Zqof (hts (.laysStatic "java/lang/Throwable" "UNASSIGNED_STACK" "[Ljava/lang/StackTraceElement;") (by decide +kernel)) (hts (.initialized "java/lang/Throwable") (by decide +kernel)) (hfl (.isRef (.static "java/lang/Throwable" "UNASSIGNED_STACK" "[Ljava/lang/StackTraceElement;")) (by decide +kernel)) hAn
  have hN : vx_Zq Bundle.tN "SUPPRESSED_SENTINEL" Bundle.listD A s s.heap := vx_Zqof (hts (.laysStatic "java/lang/Throwable" "SUPPRESSED_SENTINEL" "Ljava/util/List;") (by decide +kernel)) (hts (.initialized "java/lang/Throwable") (by decide +kernel)) (hfl (.isRef (.static "java/lang/Throwable" "SUPPRESSED_SENTINEL" "Ljava/util/List;")) (by decide +kernel)) hAn
  obtain ⟨a47, -, -, -, e47, -⟩ := Cond.exactly_spec (hfl (.exactly (.string "ThreePrimes" 47) "java/lang/String") (by decide +kernel))
  obtain ⟨a59, -, -, -, e59, -⟩ := Cond.exactly_spec (hfl (.exactly (.string "ThreePrimes" 59) "java/lang/String") (by decide +kernel))
  obtain ⟨a65, -, -, -, e65, -⟩ := Cond.exactly_spec (hfl (.exactly (.string "ThreePrimes" 65) "java/lang/String") (by decide +kernel))
  obtain ⟨a113, -, -, -, e113, -⟩ := Cond.exactly_spec (hfl (.exactly (.string "ThreePrimes" 113) "java/lang/String") (by decide +kernel))
  obtain ⟨a124, -, -, -, e124, -⟩ := Cond.exactly_spec (hfl (.exactly (.string "ThreePrimes" 124) "java/lang/String") (by decide +kernel))
  obtain ⟨a127, -, -, -, e127, -⟩ := Cond.exactly_spec (hfl (.exactly (.string "ThreePrimes" 127) "java/lang/String") (by decide +kernel))
  obtain ⟨a129, -, -, -, e129, -⟩ := Cond.exactly_spec (hfl (.exactly (.string "ThreePrimes" 129) "java/lang/String") (by decide +kernel))
  refine ⟨tP, fun n => match n with | 0 => a47 | 1 => a59 | 2 => a65 | 3 => a113 | 4 => a124 | 5 => a127 | _ => a129, ⟨hZ, hT, hU, hN⟩, ⟨vk_R.of (hts (.stringRef "ThreePrimes" 47 "k is not 1 to 8") (by decide +kernel)) e47, vk_R.of (hts (.stringRef "ThreePrimes" 59 "kind is not 0 to 2") (by decide +kernel)) e59, vk_R.of (hts (.stringRef "ThreePrimes" 65 "e is not 1 to 1000") (by decide +kernel)) e65, vk_R.of (hts (.stringRef "ThreePrimes" 113 "nothing was folded") (by decide +kernel)) e113, vk_R.of (hts (.stringRef "ThreePrimes" 124 "there is no such place") (by decide +kernel)) e124, vk_R.of (hts (.stringRef "ThreePrimes" 127 "there is no such result") (by decide +kernel)) e127, vk_R.of (hts (.stringRef "ThreePrimes" 129 "prime is not 0 to 2") (by decide +kernel)) e129⟩, fun w hw => ?_, va_Nw.of rfl (hts (.fieldLinkNest RX0 21 RX3 "PRIMES" "[I" RX3) (by decide +kernel)), va_Nw.of rfl (hts (.fieldLinkNest RX2 9 RX3 "PRIMES" "[I" RX3) (by decide +kernel)), va_Nc.of (hfl (.not (.castable "java/lang/IndexOutOfBoundsException" "java/lang/IllegalArgumentException")) (by decide +kernel)), va_AOA.of hover⟩
  have h9 := List.all_eq_true.mp ngL_ok w hw
  simp only [Bool.and_eq_true] at h9
  exact va_tabs h9.1 rfl (hts w (ngL_in w hw))
theorem rel_init {R0 R1 R2 : Nat → Int32} {LW HW : Nat → Int} : REL 1 0 (fun _ => 0) (fun _ => 0) R0 R1 R2 (fun _ => 0) (fun _ => 0) LW HW :=
  ⟨by omega, by omega, by omega, Or.inl rfl, fun _ _ => rfl, fun _ _ => rfl, fun j h => by omega⟩
